theorem dX10_in_0 : decode cX10_in 0 = .ok (.lload_n 0, 1) := by decide +kernel
theorem dX10_in_1 : decode cX10_in 1 = .ok (.lload_n 2, 1) := by decide +kernel
theorem dX10_in_2 : decode cX10_in 2 = .ok (.lcmp, 1) := by decide +kernel
theorem dX10_in_3 : decode cX10_in 3 = .ok (.ifCond .lt 14, 3) := by decide +kernel
theorem dX10_in_6 : decode cX10_in 6 = .ok (.lload_n 0, 1) := by decide +kernel
theorem dX10_in_7 : decode cX10_in 7 = .ok (.lload 4, 2) := by decide +kernel
theorem dX10_in_9 : decode cX10_in 9 = .ok (.lcmp, 1) := by decide +kernel
theorem dX10_in_10 : decode cX10_in 10 = .ok (.ifCond .gt 7, 3) := by decide +kernel
theorem dX10_in_13 : decode cX10_in 13 = .ok (.iconst 1, 1) := by decide +kernel
theorem dX10_in_14 : decode cX10_in 14 = .ok (.goto 4, 3) := by decide +kernel
theorem dX10_in_17 : decode cX10_in 17 = .ok (.iconst 0, 1) := by decide +kernel
theorem dX10_in_18 : decode cX10_in 18 = .ok (.ireturn, 1) := by decide +kernel
theorem dX10_init_0 : decode cX10_init 0 = .ok (.aload_n 0, 1) := by decide +kernel
theorem dX10_init_1 : decode cX10_init 1 = .ok (.invokespecial 1, 3) := by decide +kernel
theorem dX10_init_4 : decode cX10_init 4 = .ok (.aload_n 0, 1) := by decide +kernel
theorem dX10_init_5 : decode cX10_init 5 = .ok (.bipush 10, 2) := by decide +kernel
theorem dX10_init_7 : decode cX10_init 7 = .ok (.newarray .int, 2) := by decide +kernel
theorem dX10_init_9 : decode cX10_init 9 = .ok (.putfield 7, 3) := by decide +kernel
theorem dX10_init_12 : decode cX10_init 12 = .ok (.aload_n 0, 1) := by decide +kernel
theorem dX10_init_13 : decode cX10_init 13 = .ok (.bipush 10, 2) := by decide +kernel
theorem dX10_init_15 : decode cX10_init 15 = .ok (.newarray .int, 2) := by decide +kernel
theorem dX10_init_17 : decode cX10_init 17 = .ok (.putfield 13, 3) := by decide +kernel
theorem dX10_init_20 : decode cX10_init 20 = .ok (.aload_n 0, 1) := by decide +kernel
theorem dX10_init_21 : decode cX10_init 21 = .ok (.bipush 10, 2) := by decide +kernel
theorem dX10_init_23 : decode cX10_init 23 = .ok (.newarray .int, 2) := by decide +kernel
theorem dX10_init_25 : decode cX10_init 25 = .ok (.putfield 16, 3) := by decide +kernel
theorem dX10_init_28 : decode cX10_init 28 = .ok (.aload_n 0, 1) := by decide +kernel
theorem dX10_init_29 : decode cX10_init 29 = .ok (.bipush 10, 2) := by decide +kernel
theorem dX10_init_31 : decode cX10_init 31 = .ok (.newarray .int, 2) := by decide +kernel
theorem dX10_init_33 : decode cX10_init 33 = .ok (.putfield 19, 3) := by decide +kernel
theorem dX10_init_36 : decode cX10_init 36 = .ok (.aload_n 0, 1) := by decide +kernel
theorem dX10_init_37 : decode cX10_init 37 = .ok (.bipush 10, 2) := by decide +kernel
theorem dX10_init_39 : decode cX10_init 39 = .ok (.newarray .int, 2) := by decide +kernel
theorem dX10_init_41 : decode cX10_init 41 = .ok (.putfield 22, 3) := by decide +kernel
theorem dX10_init_44 : decode cX10_init 44 = .ok (.aload_n 0, 1) := by decide +kernel
theorem dX10_init_45 : decode cX10_init 45 = .ok (.iconst 5, 1) := by decide +kernel
theorem dX10_init_46 : decode cX10_init 46 = .ok (.newarray .int, 2) := by decide +kernel
theorem dX10_init_48 : decode cX10_init 48 = .ok (.putfield 25, 3) := by decide +kernel
theorem dX10_init_51 : decode cX10_init 51 = .ok (.aload_n 0, 1) := by decide +kernel
theorem dX10_init_52 : decode cX10_init 52 = .ok (.iconst 5, 1) := by decide +kernel
theorem dX10_init_53 : decode cX10_init 53 = .ok (.newarray .int, 2) := by decide +kernel
theorem dX10_init_55 : decode cX10_init 55 = .ok (.putfield 28, 3) := by decide +kernel
theorem dX10_init_58 : decode cX10_init 58 = .ok (.aload_n 0, 1) := by decide +kernel
theorem dX10_init_59 : decode cX10_init 59 = .ok (.iconst 3, 1) := by decide +kernel
theorem dX10_init_60 : decode cX10_init 60 = .ok (.newarray .int, 2) := by decide +kernel
theorem dX10_init_62 : decode cX10_init 62 = .ok (.putfield 31, 3) := by decide +kernel
theorem dX10_init_65 : decode cX10_init 65 = .ok (.aload_n 0, 1) := by decide +kernel
theorem dX10_init_66 : decode cX10_init 66 = .ok (.iconst 3, 1) := by decide +kernel
theorem dX10_init_67 : decode cX10_init 67 = .ok (.newarray .int, 2) := by decide +kernel
theorem dX10_init_69 : decode cX10_init 69 = .ok (.putfield 34, 3) := by decide +kernel
theorem dX10_init_72 : decode cX10_init 72 = .ok (.aload_n 0, 1) := by decide +kernel
theorem dX10_init_73 : decode cX10_init 73 = .ok (.iconst 2, 1) := by decide +kernel
theorem dX10_init_74 : decode cX10_init 74 = .ok (.newarray .int, 2) := by decide +kernel
theorem dX10_init_76 : decode cX10_init 76 = .ok (.putfield 37, 3) := by decide +kernel
theorem dX10_init_79 : decode cX10_init 79 = .ok (.aload_n 0, 1) := by decide +kernel
theorem dX10_init_80 : decode cX10_init 80 = .ok (.bipush 8, 2) := by decide +kernel
theorem dX10_init_82 : decode cX10_init 82 = .ok (.newarray .int, 2) := by decide +kernel
theorem dX10_init_84 : decode cX10_init 84 = .ok (.putfield 40, 3) := by decide +kernel
theorem dX10_init_87 : decode cX10_init 87 = .ok (.aload_n 0, 1) := by decide +kernel
theorem dX10_init_88 : decode cX10_init 88 = .ok (.bipush 8, 2) := by decide +kernel
theorem dX10_init_90 : decode cX10_init 90 = .ok (.newarray .int, 2) := by decide +kernel
theorem dX10_init_92 : decode cX10_init 92 = .ok (.putfield 43, 3) := by decide +kernel
theorem dX10_init_95 : decode cX10_init 95 = .ok (.aload_n 0, 1) := by decide +kernel
theorem dX10_init_96 : decode cX10_init 96 = .ok (.bipush 8, 2) := by decide +kernel
theorem dX10_init_98 : decode cX10_init 98 = .ok (.newarray .int, 2) := by decide +kernel
theorem dX10_init_100 : decode cX10_init 100 = .ok (.putfield 46, 3) := by decide +kernel
theorem dX10_init_103 : decode cX10_init 103 = .ok (.aload_n 0, 1) := by decide +kernel
theorem dX10_init_104 : decode cX10_init 104 = .ok (.bipush 6, 2) := by decide +kernel
theorem dX10_init_106 : decode cX10_init 106 = .ok (.newarray .int, 2) := by decide +kernel
theorem dX10_init_108 : decode cX10_init 108 = .ok (.putfield 49, 3) := by decide +kernel
theorem dX10_init_111 : decode cX10_init 111 = .ok (.aload_n 0, 1) := by decide +kernel
theorem dX10_init_112 : decode cX10_init 112 = .ok (.bipush 6, 2) := by decide +kernel
theorem dX10_init_114 : decode cX10_init 114 = .ok (.newarray .int, 2) := by decide +kernel
theorem dX10_init_116 : decode cX10_init 116 = .ok (.putfield 52, 3) := by decide +kernel
theorem dX10_init_119 : decode cX10_init 119 = .ok (.aload_n 0, 1) := by decide +kernel
theorem dX10_init_120 : decode cX10_init 120 = .ok (.bipush 80, 2) := by decide +kernel
theorem dX10_init_122 : decode cX10_init 122 = .ok (.newarray .int, 2) := by decide +kernel
theorem dX10_init_124 : decode cX10_init 124 = .ok (.putfield 55, 3) := by decide +kernel
theorem dX10_init_127 : decode cX10_init 127 = .ok (.aload_n 0, 1) := by decide +kernel
theorem dX10_init_128 : decode cX10_init 128 = .ok (.bipush 30, 2) := by decide +kernel
theorem dX10_init_130 : decode cX10_init 130 = .ok (.newarray .int, 2) := by decide +kernel
theorem dX10_init_132 : decode cX10_init 132 = .ok (.putfield 58, 3) := by decide +kernel
theorem dX10_init_135 : decode cX10_init 135 = .ok (.aload_n 0, 1) := by decide +kernel
theorem dX10_init_136 : decode cX10_init 136 = .ok (.bipush 10, 2) := by decide +kernel
theorem dX10_init_138 : decode cX10_init 138 = .ok (.newarray .int, 2) := by decide +kernel
theorem dX10_init_140 : decode cX10_init 140 = .ok (.putfield 61, 3) := by decide +kernel
theorem dX10_init_143 : decode cX10_init 143 = .ok (.aload_n 0, 1) := by decide +kernel
theorem dX10_init_144 : decode cX10_init 144 = .ok (.bipush 10, 2) := by decide +kernel
theorem dX10_init_146 : decode cX10_init 146 = .ok (.newarray .int, 2) := by decide +kernel
theorem dX10_init_148 : decode cX10_init 148 = .ok (.putfield 64, 3) := by decide +kernel
theorem dX10_init_151 : decode cX10_init 151 = .ok (.aload_n 0, 1) := by decide +kernel
theorem dX10_init_152 : decode cX10_init 152 = .ok (.bipush 10, 2) := by decide +kernel
theorem dX10_init_154 : decode cX10_init 154 = .ok (.newarray .int, 2) := by decide +kernel
theorem dX10_init_156 : decode cX10_init 156 = .ok (.putfield 67, 3) := by decide +kernel
theorem dX10_init_159 : decode cX10_init 159 = .ok (.aload_n 0, 1) := by decide +kernel
theorem dX10_init_160 : decode cX10_init 160 = .ok (.sipush 10240, 3) := by decide +kernel
theorem dX10_init_163 : decode cX10_init 163 = .ok (.newarray .int, 2) := by decide +kernel
theorem dX10_init_165 : decode cX10_init 165 = .ok (.putfield 70, 3) := by decide +kernel
theorem dX10_init_168 : decode cX10_init 168 = .ok (.aload_n 0, 1) := by decide +kernel
theorem dX10_init_169 : decode cX10_init 169 = .ok (.bipush 6, 2) := by decide +kernel
theorem dX10_init_171 : decode cX10_init 171 = .ok (.newarray .int, 2) := by decide +kernel
theorem dX10_init_173 : decode cX10_init 173 = .ok (.putfield 73, 3) := by decide +kernel
theorem dX10_init_176 : decode cX10_init 176 = .ok (.aload_n 0, 1) := by decide +kernel
theorem dX10_init_177 : decode cX10_init 177 = .ok (.bipush 110, 2) := by decide +kernel
theorem dX10_init_179 : decode cX10_init 179 = .ok (.newarray .int, 2) := by decide +kernel
theorem dX10_init_181 : decode cX10_init 181 = .ok (.putfield 76, 3) := by decide +kernel
theorem dX10_init_184 : decode cX10_init 184 = .ok (.aload_n 0, 1) := by decide +kernel
theorem dX10_init_185 : decode cX10_init 185 = .ok (.iconst 4, 1) := by decide +kernel
theorem dX10_init_186 : decode cX10_init 186 = .ok (.newarray .int, 2) := by decide +kernel
theorem dX10_init_188 : decode cX10_init 188 = .ok (.putfield 79, 3) := by decide +kernel
theorem dX10_init_191 : decode cX10_init 191 = .ok (.aload_n 0, 1) := by decide +kernel
theorem dX10_init_192 : decode cX10_init 192 = .ok (.iconst 4, 1) := by decide +kernel
theorem dX10_init_193 : decode cX10_init 193 = .ok (.newarray .int, 2) := by decide +kernel
theorem dX10_init_195 : decode cX10_init 195 = .ok (.putfield 82, 3) := by decide +kernel
theorem dX10_init_198 : decode cX10_init 198 = .ok (.aload_n 0, 1) := by decide +kernel
theorem dX10_init_199 : decode cX10_init 199 = .ok (.bipush 64, 2) := by decide +kernel
theorem dX10_init_201 : decode cX10_init 201 = .ok (.newarray .long, 2) := by decide +kernel
theorem dX10_init_203 : decode cX10_init 203 = .ok (.putfield 85, 3) := by decide +kernel
theorem dX10_init_206 : decode cX10_init 206 = .ok (.aload_n 0, 1) := by decide +kernel
theorem dX10_init_207 : decode cX10_init 207 = .ok (.bipush 16, 2) := by decide +kernel
theorem dX10_init_209 : decode cX10_init 209 = .ok (.newarray .long, 2) := by decide +kernel
theorem dX10_init_211 : decode cX10_init 211 = .ok (.putfield 89, 3) := by decide +kernel
theorem dX10_init_214 : decode cX10_init 214 = .ok (.aload_n 0, 1) := by decide +kernel
theorem dX10_init_215 : decode cX10_init 215 = .ok (.bipush 8, 2) := by decide +kernel
theorem dX10_init_217 : decode cX10_init 217 = .ok (.newarray .int, 2) := by decide +kernel
theorem dX10_init_219 : decode cX10_init 219 = .ok (.putfield 92, 3) := by decide +kernel
theorem dX10_init_222 : decode cX10_init 222 = .ok (.aload_n 0, 1) := by decide +kernel
theorem dX10_init_223 : decode cX10_init 223 = .ok (.sipush 256, 3) := by decide +kernel
theorem dX10_init_226 : decode cX10_init 226 = .ok (.newarray .int, 2) := by decide +kernel
theorem dX10_init_228 : decode cX10_init 228 = .ok (.putfield 95, 3) := by decide +kernel
theorem dX10_init_231 : decode cX10_init 231 = .ok (.iconst 0, 1) := by decide +kernel
theorem dX10_init_232 : decode cX10_init 232 = .ok (.istore_n 1, 1) := by decide +kernel
theorem dX10_init_233 : decode cX10_init 233 = .ok (.iload_n 1, 1) := by decide +kernel
theorem dX10_init_234 : decode cX10_init 234 = .ok (.iconst 4, 1) := by decide +kernel
theorem dX10_init_235 : decode cX10_init 235 = .ok (.if_icmp .ge 16, 3) := by decide +kernel
theorem dX10_init_238 : decode cX10_init 238 = .ok (.aload_n 0, 1) := by decide +kernel
theorem dX10_init_239 : decode cX10_init 239 = .ok (.getfield 79, 3) := by decide +kernel
theorem dX10_init_242 : decode cX10_init 242 = .ok (.iload_n 1, 1) := by decide +kernel
theorem dX10_init_243 : decode cX10_init 243 = .ok (.iconst (-1), 1) := by decide +kernel
theorem dX10_init_244 : decode cX10_init 244 = .ok (.iastore, 1) := by decide +kernel
theorem dX10_init_245 : decode cX10_init 245 = .ok (.iinc 1 1, 3) := by decide +kernel
theorem dX10_init_248 : decode cX10_init 248 = .ok (.goto (-15), 3) := by decide +kernel
theorem dX10_init_251 : decode cX10_init 251 = .ok (.iconst 0, 1) := by decide +kernel
theorem dX10_init_252 : decode cX10_init 252 = .ok (.istore_n 1, 1) := by decide +kernel
theorem dX10_init_253 : decode cX10_init 253 = .ok (.iload_n 1, 1) := by decide +kernel
theorem dX10_init_254 : decode cX10_init 254 = .ok (.iconst 3, 1) := by decide +kernel
theorem dX10_init_255 : decode cX10_init 255 = .ok (.if_icmp .ge 18, 3) := by decide +kernel
theorem dX10_init_258 : decode cX10_init 258 = .ok (.aload_n 0, 1) := by decide +kernel
theorem dX10_init_259 : decode cX10_init 259 = .ok (.getfield 31, 3) := by decide +kernel
theorem dX10_init_262 : decode cX10_init 262 = .ok (.iload_n 1, 1) := by decide +kernel
theorem dX10_init_263 : decode cX10_init 263 = .ok (.sipush 999, 3) := by decide +kernel
theorem dX10_init_266 : decode cX10_init 266 = .ok (.iastore, 1) := by decide +kernel
theorem dX10_init_267 : decode cX10_init 267 = .ok (.iinc 1 1, 3) := by decide +kernel
theorem dX10_init_270 : decode cX10_init 270 = .ok (.goto (-17), 3) := by decide +kernel
theorem dX10_init_273 : decode cX10_init 273 = .ok (.aload_n 0, 1) := by decide +kernel
theorem dX10_init_274 : decode cX10_init 274 = .ok (.getfield 37, 3) := by decide +kernel
theorem dX10_init_277 : decode cX10_init 277 = .ok (.iconst 0, 1) := by decide +kernel
theorem dX10_init_278 : decode cX10_init 278 = .ok (.iconst 2, 1) := by decide +kernel
theorem dX10_init_279 : decode cX10_init 279 = .ok (.iastore, 1) := by decide +kernel
theorem dX10_init_280 : decode cX10_init 280 = .ok (.aload_n 0, 1) := by decide +kernel
theorem dX10_init_281 : decode cX10_init 281 = .ok (.getfield 37, 3) := by decide +kernel
theorem dX10_init_284 : decode cX10_init 284 = .ok (.iconst 1, 1) := by decide +kernel
theorem dX10_init_285 : decode cX10_init 285 = .ok (.iconst 3, 1) := by decide +kernel
theorem dX10_init_286 : decode cX10_init 286 = .ok (.iastore, 1) := by decide +kernel
theorem dX10_init_287 : decode cX10_init 287 = .ok (.return_, 1) := by decide +kernel
theorem dX10_isThing_0 : decode cX10_isThing 0 = .ok (.lload_n 1, 1) := by decide +kernel
theorem dX10_isThing_1 : decode cX10_isThing 1 = .ok (.lconst 0, 1) := by decide +kernel
theorem dX10_isThing_2 : decode cX10_isThing 2 = .ok (.aload_n 0, 1) := by decide +kernel
theorem dX10_isThing_3 : decode cX10_isThing 3 = .ok (.getfield 98, 3) := by decide +kernel
theorem dX10_isThing_6 : decode cX10_isThing 6 = .ok (.iconst 1, 1) := by decide +kernel
theorem dX10_isThing_7 : decode cX10_isThing 7 = .ok (.isub, 1) := by decide +kernel
theorem dX10_isThing_8 : decode cX10_isThing 8 = .ok (.i2l, 1) := by decide +kernel
theorem dX10_isThing_9 : decode cX10_isThing 9 = .ok (.invokestatic 102, 3) := by decide +kernel
theorem dX10_isThing_12 : decode cX10_isThing 12 = .ok (.ireturn, 1) := by decide +kernel
theorem dX10_isStretch_0 : decode cX10_isStretch 0 = .ok (.iload_n 1, 1) := by decide +kernel
theorem dX10_isStretch_1 : decode cX10_isStretch 1 = .ok (.i2l, 1) := by decide +kernel
theorem dX10_isStretch_2 : decode cX10_isStretch 2 = .ok (.lconst 0, 1) := by decide +kernel
theorem dX10_isStretch_3 : decode cX10_isStretch 3 = .ok (.aload_n 0, 1) := by decide +kernel
theorem dX10_isStretch_4 : decode cX10_isStretch 4 = .ok (.getfield 106, 3) := by decide +kernel
theorem dX10_isStretch_7 : decode cX10_isStretch 7 = .ok (.iconst 1, 1) := by decide +kernel
theorem dX10_isStretch_8 : decode cX10_isStretch 8 = .ok (.isub, 1) := by decide +kernel
theorem dX10_isStretch_9 : decode cX10_isStretch 9 = .ok (.i2l, 1) := by decide +kernel
theorem dX10_isStretch_10 : decode cX10_isStretch 10 = .ok (.invokestatic 102, 3) := by decide +kernel
theorem dX10_isStretch_13 : decode cX10_isStretch 13 = .ok (.ireturn, 1) := by decide +kernel
theorem dX10_isBag_0 : decode cX10_isBag 0 = .ok (.lload_n 0, 1) := by decide +kernel
theorem dX10_isBag_1 : decode cX10_isBag 1 = .ok (.lconst 0, 1) := by decide +kernel
theorem dX10_isBag_2 : decode cX10_isBag 2 = .ok (.ldc2_w 109, 3) := by decide +kernel
theorem dX10_isBag_5 : decode cX10_isBag 5 = .ok (.invokestatic 102, 3) := by decide +kernel
theorem dX10_isBag_8 : decode cX10_isBag 8 = .ok (.ireturn, 1) := by decide +kernel
theorem dX10_comes_0 : decode cX10_comes 0 = .ok (.aload_n 0, 1) := by decide +kernel
theorem dX10_comes_1 : decode cX10_comes 1 = .ok (.getfield 7, 3) := by decide +kernel
theorem dX10_comes_4 : decode cX10_comes 4 = .ok (.aload_n 0, 1) := by decide +kernel
theorem dX10_comes_5 : decode cX10_comes 5 = .ok (.getfield 98, 3) := by decide +kernel
theorem dX10_comes_8 : decode cX10_comes 8 = .ok (.iload_n 1, 1) := by decide +kernel
theorem dX10_comes_9 : decode cX10_comes 9 = .ok (.iastore, 1) := by decide +kernel
theorem dX10_comes_10 : decode cX10_comes 10 = .ok (.aload_n 0, 1) := by decide +kernel
theorem dX10_comes_11 : decode cX10_comes 11 = .ok (.getfield 13, 3) := by decide +kernel
theorem dX10_comes_14 : decode cX10_comes 14 = .ok (.aload_n 0, 1) := by decide +kernel
theorem dX10_comes_15 : decode cX10_comes 15 = .ok (.getfield 98, 3) := by decide +kernel
theorem dX10_comes_18 : decode cX10_comes 18 = .ok (.iload_n 2, 1) := by decide +kernel
theorem dX10_comes_19 : decode cX10_comes 19 = .ok (.iastore, 1) := by decide +kernel
theorem dX10_comes_20 : decode cX10_comes 20 = .ok (.aload_n 0, 1) := by decide +kernel
theorem dX10_comes_21 : decode cX10_comes 21 = .ok (.getfield 16, 3) := by decide +kernel
theorem dX10_comes_24 : decode cX10_comes 24 = .ok (.aload_n 0, 1) := by decide +kernel
theorem dX10_comes_25 : decode cX10_comes 25 = .ok (.getfield 98, 3) := by decide +kernel
theorem dX10_comes_28 : decode cX10_comes 28 = .ok (.iload_n 3, 1) := by decide +kernel
theorem dX10_comes_29 : decode cX10_comes 29 = .ok (.iastore, 1) := by decide +kernel
theorem dX10_comes_30 : decode cX10_comes 30 = .ok (.aload_n 0, 1) := by decide +kernel
theorem dX10_comes_31 : decode cX10_comes 31 = .ok (.getfield 19, 3) := by decide +kernel
theorem dX10_comes_34 : decode cX10_comes 34 = .ok (.aload_n 0, 1) := by decide +kernel
theorem dX10_comes_35 : decode cX10_comes 35 = .ok (.getfield 98, 3) := by decide +kernel
theorem dX10_comes_38 : decode cX10_comes 38 = .ok (.bipush 50, 2) := by decide +kernel
theorem dX10_comes_40 : decode cX10_comes 40 = .ok (.iastore, 1) := by decide +kernel
theorem dX10_comes_41 : decode cX10_comes 41 = .ok (.aload_n 0, 1) := by decide +kernel
theorem dX10_comes_42 : decode cX10_comes 42 = .ok (.getfield 22, 3) := by decide +kernel
theorem dX10_comes_45 : decode cX10_comes 45 = .ok (.aload_n 0, 1) := by decide +kernel
theorem dX10_comes_46 : decode cX10_comes 46 = .ok (.getfield 98, 3) := by decide +kernel
theorem dX10_comes_49 : decode cX10_comes 49 = .ok (.iconst 0, 1) := by decide +kernel
theorem dX10_comes_50 : decode cX10_comes 50 = .ok (.iastore, 1) := by decide +kernel
theorem dX10_comes_51 : decode cX10_comes 51 = .ok (.aload_n 0, 1) := by decide +kernel
theorem dX10_comes_52 : decode cX10_comes 52 = .ok (.dup, 1) := by decide +kernel
theorem dX10_comes_53 : decode cX10_comes 53 = .ok (.getfield 98, 3) := by decide +kernel
theorem dX10_comes_56 : decode cX10_comes 56 = .ok (.iconst 1, 1) := by decide +kernel
theorem dX10_comes_57 : decode cX10_comes 57 = .ok (.iadd, 1) := by decide +kernel
theorem dX10_comes_58 : decode cX10_comes 58 = .ok (.putfield 98, 3) := by decide +kernel
theorem dX10_comes_61 : decode cX10_comes 61 = .ok (.return_, 1) := by decide +kernel
theorem dX10_thing_0 : decode cX10_thing 0 = .ok (.iload_n 1, 1) := by decide +kernel
theorem dX10_thing_1 : decode cX10_thing 1 = .ok (.i2l, 1) := by decide +kernel
theorem dX10_thing_2 : decode cX10_thing 2 = .ok (.lconst 0, 1) := by decide +kernel
theorem dX10_thing_3 : decode cX10_thing 3 = .ok (.ldc2_w 111, 3) := by decide +kernel
theorem dX10_thing_6 : decode cX10_thing 6 = .ok (.invokestatic 102, 3) := by decide +kernel
theorem dX10_thing_9 : decode cX10_thing 9 = .ok (.ifCond .eq 15, 3) := by decide +kernel
theorem dX10_thing_12 : decode cX10_thing 12 = .ok (.iload_n 2, 1) := by decide +kernel
theorem dX10_thing_13 : decode cX10_thing 13 = .ok (.i2l, 1) := by decide +kernel
theorem dX10_thing_14 : decode cX10_thing 14 = .ok (.lconst 1, 1) := by decide +kernel
theorem dX10_thing_15 : decode cX10_thing 15 = .ok (.ldc2_w 113, 3) := by decide +kernel
theorem dX10_thing_18 : decode cX10_thing 18 = .ok (.invokestatic 102, 3) := by decide +kernel
theorem dX10_thing_21 : decode cX10_thing 21 = .ok (.ifCond .ne 5, 3) := by decide +kernel
theorem dX10_thing_24 : decode cX10_thing 24 = .ok (.iconst (-1), 1) := by decide +kernel
theorem dX10_thing_25 : decode cX10_thing 25 = .ok (.ireturn, 1) := by decide +kernel
theorem dX10_thing_26 : decode cX10_thing 26 = .ok (.aload_n 0, 1) := by decide +kernel
theorem dX10_thing_27 : decode cX10_thing 27 = .ok (.getfield 98, 3) := by decide +kernel
theorem dX10_thing_30 : decode cX10_thing 30 = .ok (.bipush 10, 2) := by decide +kernel
theorem dX10_thing_32 : decode cX10_thing 32 = .ok (.if_icmp .ne 6, 3) := by decide +kernel
theorem dX10_thing_35 : decode cX10_thing 35 = .ok (.bipush (-3), 2) := by decide +kernel
theorem dX10_thing_37 : decode cX10_thing 37 = .ok (.ireturn, 1) := by decide +kernel
theorem dX10_thing_38 : decode cX10_thing 38 = .ok (.aload_n 0, 1) := by decide +kernel
theorem dX10_thing_39 : decode cX10_thing 39 = .ok (.iload_n 1, 1) := by decide +kernel
theorem dX10_thing_40 : decode cX10_thing 40 = .ok (.iload_n 2, 1) := by decide +kernel
theorem dX10_thing_41 : decode cX10_thing 41 = .ok (.iconst 5, 1) := by decide +kernel
theorem dX10_thing_42 : decode cX10_thing 42 = .ok (.invokevirtual 115, 3) := by decide +kernel
theorem dX10_thing_45 : decode cX10_thing 45 = .ok (.aload_n 0, 1) := by decide +kernel
theorem dX10_thing_46 : decode cX10_thing 46 = .ok (.getfield 98, 3) := by decide +kernel
theorem dX10_thing_49 : decode cX10_thing 49 = .ok (.iconst 1, 1) := by decide +kernel
theorem dX10_thing_50 : decode cX10_thing 50 = .ok (.isub, 1) := by decide +kernel
theorem dX10_thing_51 : decode cX10_thing 51 = .ok (.ireturn, 1) := by decide +kernel
theorem dX10_hangs_0 : decode cX10_hangs 0 = .ok (.iconst 0, 1) := by decide +kernel
theorem dX10_hangs_1 : decode cX10_hangs 1 = .ok (.istore_n 2, 1) := by decide +kernel
theorem dX10_hangs_2 : decode cX10_hangs 2 = .ok (.iconst 0, 1) := by decide +kernel
theorem dX10_hangs_3 : decode cX10_hangs 3 = .ok (.istore_n 3, 1) := by decide +kernel
theorem dX10_hangs_4 : decode cX10_hangs 4 = .ok (.iload_n 3, 1) := by decide +kernel
theorem dX10_hangs_5 : decode cX10_hangs 5 = .ok (.aload_n 0, 1) := by decide +kernel
theorem dX10_hangs_6 : decode cX10_hangs 6 = .ok (.getfield 119, 3) := by decide +kernel
theorem dX10_hangs_9 : decode cX10_hangs 9 = .ok (.if_icmp .ge 39, 3) := by decide +kernel
theorem dX10_hangs_12 : decode cX10_hangs 12 = .ok (.iload_n 2, 1) := by decide +kernel
theorem dX10_hangs_13 : decode cX10_hangs 13 = .ok (.ifCond .ne 23, 3) := by decide +kernel
theorem dX10_hangs_16 : decode cX10_hangs 16 = .ok (.aload_n 0, 1) := by decide +kernel
theorem dX10_hangs_17 : decode cX10_hangs 17 = .ok (.getfield 49, 3) := by decide +kernel
theorem dX10_hangs_20 : decode cX10_hangs 20 = .ok (.iload_n 3, 1) := by decide +kernel
theorem dX10_hangs_21 : decode cX10_hangs 21 = .ok (.iaload, 1) := by decide +kernel
theorem dX10_hangs_22 : decode cX10_hangs 22 = .ok (.iload_n 1, 1) := by decide +kernel
theorem dX10_hangs_23 : decode cX10_hangs 23 = .ok (.if_icmp .eq 13, 3) := by decide +kernel
theorem dX10_hangs_26 : decode cX10_hangs 26 = .ok (.aload_n 0, 1) := by decide +kernel
theorem dX10_hangs_27 : decode cX10_hangs 27 = .ok (.getfield 52, 3) := by decide +kernel
theorem dX10_hangs_30 : decode cX10_hangs 30 = .ok (.iload_n 3, 1) := by decide +kernel
theorem dX10_hangs_31 : decode cX10_hangs 31 = .ok (.iaload, 1) := by decide +kernel
theorem dX10_hangs_32 : decode cX10_hangs 32 = .ok (.iload_n 1, 1) := by decide +kernel
theorem dX10_hangs_33 : decode cX10_hangs 33 = .ok (.if_icmp .ne 7, 3) := by decide +kernel
theorem dX10_hangs_36 : decode cX10_hangs 36 = .ok (.iconst 1, 1) := by decide +kernel
theorem dX10_hangs_37 : decode cX10_hangs 37 = .ok (.goto 4, 3) := by decide +kernel
theorem dX10_hangs_40 : decode cX10_hangs 40 = .ok (.iconst 0, 1) := by decide +kernel
theorem dX10_hangs_41 : decode cX10_hangs 41 = .ok (.istore_n 2, 1) := by decide +kernel
theorem dX10_hangs_42 : decode cX10_hangs 42 = .ok (.iinc 3 1, 3) := by decide +kernel
theorem dX10_hangs_45 : decode cX10_hangs 45 = .ok (.goto (-41), 3) := by decide +kernel
theorem dX10_hangs_48 : decode cX10_hangs 48 = .ok (.iload_n 2, 1) := by decide +kernel
theorem dX10_hangs_49 : decode cX10_hangs 49 = .ok (.ireturn, 1) := by decide +kernel
theorem dX10_told_0 : decode cX10_told 0 = .ok (.aload_n 0, 1) := by decide +kernel
theorem dX10_told_1 : decode cX10_told 1 = .ok (.iload_n 1, 1) := by decide +kernel
theorem dX10_told_2 : decode cX10_told 2 = .ok (.i2l, 1) := by decide +kernel
theorem dX10_told_3 : decode cX10_told 3 = .ok (.invokevirtual 122, 3) := by decide +kernel
theorem dX10_told_6 : decode cX10_told 6 = .ok (.ifCond .ne 5, 3) := by decide +kernel
theorem dX10_told_9 : decode cX10_told 9 = .ok (.iconst (-1), 1) := by decide +kernel
theorem dX10_told_10 : decode cX10_told 10 = .ok (.ireturn, 1) := by decide +kernel
theorem dX10_told_11 : decode cX10_told 11 = .ok (.iload_n 2, 1) := by decide +kernel
theorem dX10_told_12 : decode cX10_told 12 = .ok (.tableswitch 89 0 5 #[40, 47, 54, 61, 68, 75], 40) := by decide +kernel
theorem dX10_told_52 : decode cX10_told 52 = .ok (.aload_n 0, 1) := by decide +kernel
theorem dX10_told_53 : decode cX10_told 53 = .ok (.getfield 7, 3) := by decide +kernel
theorem dX10_told_56 : decode cX10_told 56 = .ok (.iload_n 1, 1) := by decide +kernel
theorem dX10_told_57 : decode cX10_told 57 = .ok (.iaload, 1) := by decide +kernel
theorem dX10_told_58 : decode cX10_told 58 = .ok (.ireturn, 1) := by decide +kernel
theorem dX10_told_59 : decode cX10_told 59 = .ok (.aload_n 0, 1) := by decide +kernel
theorem dX10_told_60 : decode cX10_told 60 = .ok (.getfield 13, 3) := by decide +kernel
theorem dX10_told_63 : decode cX10_told 63 = .ok (.iload_n 1, 1) := by decide +kernel
theorem dX10_told_64 : decode cX10_told 64 = .ok (.iaload, 1) := by decide +kernel
theorem dX10_told_65 : decode cX10_told 65 = .ok (.ireturn, 1) := by decide +kernel
theorem dX10_told_66 : decode cX10_told 66 = .ok (.aload_n 0, 1) := by decide +kernel
theorem dX10_told_67 : decode cX10_told 67 = .ok (.getfield 16, 3) := by decide +kernel
theorem dX10_told_70 : decode cX10_told 70 = .ok (.iload_n 1, 1) := by decide +kernel
theorem dX10_told_71 : decode cX10_told 71 = .ok (.iaload, 1) := by decide +kernel
theorem dX10_told_72 : decode cX10_told 72 = .ok (.ireturn, 1) := by decide +kernel
theorem dX10_told_73 : decode cX10_told 73 = .ok (.aload_n 0, 1) := by decide +kernel
theorem dX10_told_74 : decode cX10_told 74 = .ok (.getfield 19, 3) := by decide +kernel
theorem dX10_told_77 : decode cX10_told 77 = .ok (.iload_n 1, 1) := by decide +kernel
theorem dX10_told_78 : decode cX10_told 78 = .ok (.iaload, 1) := by decide +kernel
theorem dX10_told_79 : decode cX10_told 79 = .ok (.ireturn, 1) := by decide +kernel
theorem dX10_told_80 : decode cX10_told 80 = .ok (.aload_n 0, 1) := by decide +kernel
theorem dX10_told_81 : decode cX10_told 81 = .ok (.getfield 22, 3) := by decide +kernel
theorem dX10_told_84 : decode cX10_told 84 = .ok (.iload_n 1, 1) := by decide +kernel
theorem dX10_told_85 : decode cX10_told 85 = .ok (.iaload, 1) := by decide +kernel
theorem dX10_told_86 : decode cX10_told 86 = .ok (.ireturn, 1) := by decide +kernel
theorem dX10_told_87 : decode cX10_told 87 = .ok (.aload_n 0, 1) := by decide +kernel
theorem dX10_told_88 : decode cX10_told 88 = .ok (.iload_n 1, 1) := by decide +kernel
theorem dX10_told_89 : decode cX10_told 89 = .ok (.invokevirtual 126, 3) := by decide +kernel
theorem dX10_told_92 : decode cX10_told 92 = .ok (.ifCond .eq 7, 3) := by decide +kernel
theorem dX10_told_95 : decode cX10_told 95 = .ok (.iconst 1, 1) := by decide +kernel
theorem dX10_told_96 : decode cX10_told 96 = .ok (.goto 4, 3) := by decide +kernel
theorem dX10_told_99 : decode cX10_told 99 = .ok (.iconst 0, 1) := by decide +kernel
theorem dX10_told_100 : decode cX10_told 100 = .ok (.ireturn, 1) := by decide +kernel
theorem dX10_told_101 : decode cX10_told 101 = .ok (.iconst (-1), 1) := by decide +kernel
theorem dX10_told_102 : decode cX10_told 102 = .ok (.ireturn, 1) := by decide +kernel
theorem dX10_set_0 : decode cX10_set 0 = .ok (.aload_n 0, 1) := by decide +kernel
theorem dX10_set_1 : decode cX10_set 1 = .ok (.iload_n 1, 1) := by decide +kernel
theorem dX10_set_2 : decode cX10_set 2 = .ok (.i2l, 1) := by decide +kernel
theorem dX10_set_3 : decode cX10_set 3 = .ok (.invokevirtual 122, 3) := by decide +kernel
theorem dX10_set_6 : decode cX10_set 6 = .ok (.ifCond .eq 69, 3) := by decide +kernel
theorem dX10_set_9 : decode cX10_set 9 = .ok (.iload_n 2, 1) := by decide +kernel
theorem dX10_set_10 : decode cX10_set 10 = .ok (.i2l, 1) := by decide +kernel
theorem dX10_set_11 : decode cX10_set 11 = .ok (.lconst 1, 1) := by decide +kernel
theorem dX10_set_12 : decode cX10_set 12 = .ok (.ldc2_w 130, 3) := by decide +kernel
theorem dX10_set_15 : decode cX10_set 15 = .ok (.invokestatic 102, 3) := by decide +kernel
theorem dX10_set_18 : decode cX10_set 18 = .ok (.ifCond .eq 57, 3) := by decide +kernel
theorem dX10_set_21 : decode cX10_set 21 = .ok (.iload_n 3, 1) := by decide +kernel
theorem dX10_set_22 : decode cX10_set 22 = .ok (.i2l, 1) := by decide +kernel
theorem dX10_set_23 : decode cX10_set 23 = .ok (.iload_n 2, 1) := by decide +kernel
theorem dX10_set_24 : decode cX10_set 24 = .ok (.iconst 1, 1) := by decide +kernel
theorem dX10_set_25 : decode cX10_set 25 = .ok (.if_icmp .ne 7, 3) := by decide +kernel
theorem dX10_set_28 : decode cX10_set 28 = .ok (.lconst 1, 1) := by decide +kernel
theorem dX10_set_29 : decode cX10_set 29 = .ok (.goto 4, 3) := by decide +kernel
theorem dX10_set_32 : decode cX10_set 32 = .ok (.lconst 0, 1) := by decide +kernel
theorem dX10_set_33 : decode cX10_set 33 = .ok (.iload_n 2, 1) := by decide +kernel
theorem dX10_set_34 : decode cX10_set 34 = .ok (.iconst 1, 1) := by decide +kernel
theorem dX10_set_35 : decode cX10_set 35 = .ok (.if_icmp .ne 9, 3) := by decide +kernel
theorem dX10_set_38 : decode cX10_set 38 = .ok (.ldc2_w 113, 3) := by decide +kernel
theorem dX10_set_41 : decode cX10_set 41 = .ok (.goto 28, 3) := by decide +kernel
theorem dX10_set_44 : decode cX10_set 44 = .ok (.iload_n 2, 1) := by decide +kernel
theorem dX10_set_45 : decode cX10_set 45 = .ok (.iconst 2, 1) := by decide +kernel
theorem dX10_set_46 : decode cX10_set 46 = .ok (.if_icmp .ne 9, 3) := by decide +kernel
theorem dX10_set_49 : decode cX10_set 49 = .ok (.ldc2_w 132, 3) := by decide +kernel
theorem dX10_set_52 : decode cX10_set 52 = .ok (.goto 17, 3) := by decide +kernel
theorem dX10_set_55 : decode cX10_set 55 = .ok (.iload_n 2, 1) := by decide +kernel
theorem dX10_set_56 : decode cX10_set 56 = .ok (.iconst 3, 1) := by decide +kernel
theorem dX10_set_57 : decode cX10_set 57 = .ok (.if_icmp .ne 9, 3) := by decide +kernel
theorem dX10_set_60 : decode cX10_set 60 = .ok (.ldc2_w 134, 3) := by decide +kernel
theorem dX10_set_63 : decode cX10_set 63 = .ok (.goto 6, 3) := by decide +kernel
theorem dX10_set_66 : decode cX10_set 66 = .ok (.ldc2_w 109, 3) := by decide +kernel
theorem dX10_set_69 : decode cX10_set 69 = .ok (.invokestatic 102, 3) := by decide +kernel
theorem dX10_set_72 : decode cX10_set 72 = .ok (.ifCond .ne 5, 3) := by decide +kernel
theorem dX10_set_75 : decode cX10_set 75 = .ok (.iconst (-1), 1) := by decide +kernel
theorem dX10_set_76 : decode cX10_set 76 = .ok (.ireturn, 1) := by decide +kernel
theorem dX10_set_77 : decode cX10_set 77 = .ok (.aload_n 0, 1) := by decide +kernel
theorem dX10_set_78 : decode cX10_set 78 = .ok (.iload_n 1, 1) := by decide +kernel
theorem dX10_set_79 : decode cX10_set 79 = .ok (.iload_n 2, 1) := by decide +kernel
theorem dX10_set_80 : decode cX10_set 80 = .ok (.invokevirtual 136, 3) := by decide +kernel
theorem dX10_set_83 : decode cX10_set 83 = .ok (.istore 4, 2) := by decide +kernel
theorem dX10_set_85 : decode cX10_set 85 = .ok (.aload_n 0, 1) := by decide +kernel
theorem dX10_set_86 : decode cX10_set 86 = .ok (.getfield 13, 3) := by decide +kernel
theorem dX10_set_89 : decode cX10_set 89 = .ok (.iload_n 1, 1) := by decide +kernel
theorem dX10_set_90 : decode cX10_set 90 = .ok (.iload_n 2, 1) := by decide +kernel
theorem dX10_set_91 : decode cX10_set 91 = .ok (.iconst 1, 1) := by decide +kernel
theorem dX10_set_92 : decode cX10_set 92 = .ok (.if_icmp .ne 7, 3) := by decide +kernel
theorem dX10_set_95 : decode cX10_set 95 = .ok (.iload_n 3, 1) := by decide +kernel
theorem dX10_set_96 : decode cX10_set 96 = .ok (.goto 9, 3) := by decide +kernel
theorem dX10_set_99 : decode cX10_set 99 = .ok (.aload_n 0, 1) := by decide +kernel
theorem dX10_set_100 : decode cX10_set 100 = .ok (.getfield 13, 3) := by decide +kernel
theorem dX10_set_103 : decode cX10_set 103 = .ok (.iload_n 1, 1) := by decide +kernel
theorem dX10_set_104 : decode cX10_set 104 = .ok (.iaload, 1) := by decide +kernel
theorem dX10_set_105 : decode cX10_set 105 = .ok (.iastore, 1) := by decide +kernel
theorem dX10_set_106 : decode cX10_set 106 = .ok (.aload_n 0, 1) := by decide +kernel
theorem dX10_set_107 : decode cX10_set 107 = .ok (.getfield 16, 3) := by decide +kernel
theorem dX10_set_110 : decode cX10_set 110 = .ok (.iload_n 1, 1) := by decide +kernel
theorem dX10_set_111 : decode cX10_set 111 = .ok (.iload_n 2, 1) := by decide +kernel
theorem dX10_set_112 : decode cX10_set 112 = .ok (.iconst 2, 1) := by decide +kernel
theorem dX10_set_113 : decode cX10_set 113 = .ok (.if_icmp .ne 7, 3) := by decide +kernel
theorem dX10_set_116 : decode cX10_set 116 = .ok (.iload_n 3, 1) := by decide +kernel
theorem dX10_set_117 : decode cX10_set 117 = .ok (.goto 9, 3) := by decide +kernel
theorem dX10_set_120 : decode cX10_set 120 = .ok (.aload_n 0, 1) := by decide +kernel
theorem dX10_set_121 : decode cX10_set 121 = .ok (.getfield 16, 3) := by decide +kernel
theorem dX10_set_124 : decode cX10_set 124 = .ok (.iload_n 1, 1) := by decide +kernel
theorem dX10_set_125 : decode cX10_set 125 = .ok (.iaload, 1) := by decide +kernel
theorem dX10_set_126 : decode cX10_set 126 = .ok (.iastore, 1) := by decide +kernel
theorem dX10_set_127 : decode cX10_set 127 = .ok (.aload_n 0, 1) := by decide +kernel
theorem dX10_set_128 : decode cX10_set 128 = .ok (.getfield 19, 3) := by decide +kernel
theorem dX10_set_131 : decode cX10_set 131 = .ok (.iload_n 1, 1) := by decide +kernel
theorem dX10_set_132 : decode cX10_set 132 = .ok (.iload_n 2, 1) := by decide +kernel
theorem dX10_set_133 : decode cX10_set 133 = .ok (.iconst 3, 1) := by decide +kernel
theorem dX10_set_134 : decode cX10_set 134 = .ok (.if_icmp .ne 7, 3) := by decide +kernel
theorem dX10_set_137 : decode cX10_set 137 = .ok (.iload_n 3, 1) := by decide +kernel
theorem dX10_set_138 : decode cX10_set 138 = .ok (.goto 9, 3) := by decide +kernel
theorem dX10_set_141 : decode cX10_set 141 = .ok (.aload_n 0, 1) := by decide +kernel
theorem dX10_set_142 : decode cX10_set 142 = .ok (.getfield 19, 3) := by decide +kernel
theorem dX10_set_145 : decode cX10_set 145 = .ok (.iload_n 1, 1) := by decide +kernel
theorem dX10_set_146 : decode cX10_set 146 = .ok (.iaload, 1) := by decide +kernel
theorem dX10_set_147 : decode cX10_set 147 = .ok (.iastore, 1) := by decide +kernel
theorem dX10_set_148 : decode cX10_set 148 = .ok (.aload_n 0, 1) := by decide +kernel
theorem dX10_set_149 : decode cX10_set 149 = .ok (.getfield 22, 3) := by decide +kernel
theorem dX10_set_152 : decode cX10_set 152 = .ok (.iload_n 1, 1) := by decide +kernel
theorem dX10_set_153 : decode cX10_set 153 = .ok (.iload_n 2, 1) := by decide +kernel
theorem dX10_set_154 : decode cX10_set 154 = .ok (.iconst 4, 1) := by decide +kernel
theorem dX10_set_155 : decode cX10_set 155 = .ok (.if_icmp .ne 7, 3) := by decide +kernel
theorem dX10_set_158 : decode cX10_set 158 = .ok (.iload_n 3, 1) := by decide +kernel
theorem dX10_set_159 : decode cX10_set 159 = .ok (.goto 9, 3) := by decide +kernel
theorem dX10_set_162 : decode cX10_set 162 = .ok (.aload_n 0, 1) := by decide +kernel
theorem dX10_set_163 : decode cX10_set 163 = .ok (.getfield 22, 3) := by decide +kernel
theorem dX10_set_166 : decode cX10_set 166 = .ok (.iload_n 1, 1) := by decide +kernel
theorem dX10_set_167 : decode cX10_set 167 = .ok (.iaload, 1) := by decide +kernel
theorem dX10_set_168 : decode cX10_set 168 = .ok (.iastore, 1) := by decide +kernel
theorem dX10_set_169 : decode cX10_set 169 = .ok (.iload 4, 2) := by decide +kernel
theorem dX10_set_171 : decode cX10_set 171 = .ok (.ireturn, 1) := by decide +kernel
theorem dX10_stretch_0 : decode cX10_stretch 0 = .ok (.iload_n 1, 1) := by decide +kernel
theorem dX10_stretch_1 : decode cX10_stretch 1 = .ok (.i2l, 1) := by decide +kernel
theorem dX10_stretch_2 : decode cX10_stretch 2 = .ok (.lconst 1, 1) := by decide +kernel
theorem dX10_stretch_3 : decode cX10_stretch 3 = .ok (.ldc2_w 113, 3) := by decide +kernel
theorem dX10_stretch_6 : decode cX10_stretch 6 = .ok (.invokestatic 102, 3) := by decide +kernel
theorem dX10_stretch_9 : decode cX10_stretch 9 = .ok (.ifCond .ne 5, 3) := by decide +kernel
theorem dX10_stretch_12 : decode cX10_stretch 12 = .ok (.iconst (-1), 1) := by decide +kernel
theorem dX10_stretch_13 : decode cX10_stretch 13 = .ok (.ireturn, 1) := by decide +kernel
theorem dX10_stretch_14 : decode cX10_stretch 14 = .ok (.aload_n 0, 1) := by decide +kernel
theorem dX10_stretch_15 : decode cX10_stretch 15 = .ok (.getfield 106, 3) := by decide +kernel
theorem dX10_stretch_18 : decode cX10_stretch 18 = .ok (.iconst 5, 1) := by decide +kernel
theorem dX10_stretch_19 : decode cX10_stretch 19 = .ok (.if_icmp .ne 6, 3) := by decide +kernel
theorem dX10_stretch_22 : decode cX10_stretch 22 = .ok (.bipush (-3), 2) := by decide +kernel
theorem dX10_stretch_24 : decode cX10_stretch 24 = .ok (.ireturn, 1) := by decide +kernel
theorem dX10_stretch_25 : decode cX10_stretch 25 = .ok (.aload_n 0, 1) := by decide +kernel
theorem dX10_stretch_26 : decode cX10_stretch 26 = .ok (.getfield 25, 3) := by decide +kernel
theorem dX10_stretch_29 : decode cX10_stretch 29 = .ok (.aload_n 0, 1) := by decide +kernel
theorem dX10_stretch_30 : decode cX10_stretch 30 = .ok (.getfield 106, 3) := by decide +kernel
theorem dX10_stretch_33 : decode cX10_stretch 33 = .ok (.iload_n 1, 1) := by decide +kernel
theorem dX10_stretch_34 : decode cX10_stretch 34 = .ok (.iastore, 1) := by decide +kernel
theorem dX10_stretch_35 : decode cX10_stretch 35 = .ok (.aload_n 0, 1) := by decide +kernel
theorem dX10_stretch_36 : decode cX10_stretch 36 = .ok (.getfield 28, 3) := by decide +kernel
theorem dX10_stretch_39 : decode cX10_stretch 39 = .ok (.aload_n 0, 1) := by decide +kernel
theorem dX10_stretch_40 : decode cX10_stretch 40 = .ok (.getfield 106, 3) := by decide +kernel
theorem dX10_stretch_43 : decode cX10_stretch 43 = .ok (.iload_n 2, 1) := by decide +kernel
theorem dX10_stretch_44 : decode cX10_stretch 44 = .ok (.ifCond .eq 7, 3) := by decide +kernel
theorem dX10_stretch_47 : decode cX10_stretch 47 = .ok (.iconst 1, 1) := by decide +kernel
theorem dX10_stretch_48 : decode cX10_stretch 48 = .ok (.goto 4, 3) := by decide +kernel
theorem dX10_stretch_51 : decode cX10_stretch 51 = .ok (.iconst 0, 1) := by decide +kernel
theorem dX10_stretch_52 : decode cX10_stretch 52 = .ok (.iastore, 1) := by decide +kernel
theorem dX10_stretch_53 : decode cX10_stretch 53 = .ok (.aload_n 0, 1) := by decide +kernel
theorem dX10_stretch_54 : decode cX10_stretch 54 = .ok (.dup, 1) := by decide +kernel
theorem dX10_stretch_55 : decode cX10_stretch 55 = .ok (.getfield 106, 3) := by decide +kernel
theorem dX10_stretch_58 : decode cX10_stretch 58 = .ok (.iconst 1, 1) := by decide +kernel
theorem dX10_stretch_59 : decode cX10_stretch 59 = .ok (.iadd, 1) := by decide +kernel
theorem dX10_stretch_60 : decode cX10_stretch 60 = .ok (.putfield 106, 3) := by decide +kernel
theorem dX10_stretch_63 : decode cX10_stretch 63 = .ok (.aload_n 0, 1) := by decide +kernel
theorem dX10_stretch_64 : decode cX10_stretch 64 = .ok (.getfield 106, 3) := by decide +kernel
theorem dX10_stretch_67 : decode cX10_stretch 67 = .ok (.iconst 1, 1) := by decide +kernel
theorem dX10_stretch_68 : decode cX10_stretch 68 = .ok (.isub, 1) := by decide +kernel
theorem dX10_stretch_69 : decode cX10_stretch 69 = .ok (.ireturn, 1) := by decide +kernel
theorem dX10_of_0 : decode cX10_of 0 = .ok (.aload_n 0, 1) := by decide +kernel
theorem dX10_of_1 : decode cX10_of 1 = .ok (.iload_n 1, 1) := by decide +kernel
theorem dX10_of_2 : decode cX10_of 2 = .ok (.invokevirtual 140, 3) := by decide +kernel
theorem dX10_of_5 : decode cX10_of 5 = .ok (.ifCond .eq 35, 3) := by decide +kernel
theorem dX10_of_8 : decode cX10_of 8 = .ok (.iload_n 2, 1) := by decide +kernel
theorem dX10_of_9 : decode cX10_of 9 = .ok (.i2l, 1) := by decide +kernel
theorem dX10_of_10 : decode cX10_of 10 = .ok (.lconst 0, 1) := by decide +kernel
theorem dX10_of_11 : decode cX10_of 11 = .ok (.lconst 1, 1) := by decide +kernel
theorem dX10_of_12 : decode cX10_of 12 = .ok (.invokestatic 102, 3) := by decide +kernel
theorem dX10_of_15 : decode cX10_of 15 = .ok (.ifCond .eq 25, 3) := by decide +kernel
theorem dX10_of_18 : decode cX10_of 18 = .ok (.iload_n 2, 1) := by decide +kernel
theorem dX10_of_19 : decode cX10_of 19 = .ok (.ifCond .ne 12, 3) := by decide +kernel
theorem dX10_of_22 : decode cX10_of 22 = .ok (.aload_n 0, 1) := by decide +kernel
theorem dX10_of_23 : decode cX10_of 23 = .ok (.getfield 25, 3) := by decide +kernel
theorem dX10_of_26 : decode cX10_of 26 = .ok (.iload_n 1, 1) := by decide +kernel
theorem dX10_of_27 : decode cX10_of 27 = .ok (.iaload, 1) := by decide +kernel
theorem dX10_of_28 : decode cX10_of 28 = .ok (.goto 13, 3) := by decide +kernel
theorem dX10_of_31 : decode cX10_of 31 = .ok (.aload_n 0, 1) := by decide +kernel
theorem dX10_of_32 : decode cX10_of 32 = .ok (.getfield 28, 3) := by decide +kernel
theorem dX10_of_35 : decode cX10_of 35 = .ok (.iload_n 1, 1) := by decide +kernel
theorem dX10_of_36 : decode cX10_of 36 = .ok (.iaload, 1) := by decide +kernel
theorem dX10_of_37 : decode cX10_of 37 = .ok (.goto 4, 3) := by decide +kernel
theorem dX10_of_40 : decode cX10_of 40 = .ok (.iconst (-1), 1) := by decide +kernel
theorem dX10_of_41 : decode cX10_of 41 = .ok (.ireturn, 1) := by decide +kernel
theorem dX10_bag_0 : decode cX10_bag 0 = .ok (.iload_n 1, 1) := by decide +kernel
theorem dX10_bag_1 : decode cX10_bag 1 = .ok (.i2l, 1) := by decide +kernel
theorem dX10_bag_2 : decode cX10_bag 2 = .ok (.invokestatic 143, 3) := by decide +kernel
theorem dX10_bag_5 : decode cX10_bag 5 = .ok (.ifCond .eq 35, 3) := by decide +kernel
theorem dX10_bag_8 : decode cX10_bag 8 = .ok (.iload_n 2, 1) := by decide +kernel
theorem dX10_bag_9 : decode cX10_bag 9 = .ok (.i2l, 1) := by decide +kernel
theorem dX10_bag_10 : decode cX10_bag 10 = .ok (.lconst 0, 1) := by decide +kernel
theorem dX10_bag_11 : decode cX10_bag 11 = .ok (.lconst 1, 1) := by decide +kernel
theorem dX10_bag_12 : decode cX10_bag 12 = .ok (.invokestatic 102, 3) := by decide +kernel
theorem dX10_bag_15 : decode cX10_bag 15 = .ok (.ifCond .eq 25, 3) := by decide +kernel
theorem dX10_bag_18 : decode cX10_bag 18 = .ok (.iload_n 3, 1) := by decide +kernel
theorem dX10_bag_19 : decode cX10_bag 19 = .ok (.i2l, 1) := by decide +kernel
theorem dX10_bag_20 : decode cX10_bag 20 = .ok (.lconst 0, 1) := by decide +kernel
theorem dX10_bag_21 : decode cX10_bag 21 = .ok (.iload_n 2, 1) := by decide +kernel
theorem dX10_bag_22 : decode cX10_bag 22 = .ok (.ifCond .ne 9, 3) := by decide +kernel
theorem dX10_bag_25 : decode cX10_bag 25 = .ok (.ldc2_w 146, 3) := by decide +kernel
theorem dX10_bag_28 : decode cX10_bag 28 = .ok (.goto 6, 3) := by decide +kernel
theorem dX10_bag_31 : decode cX10_bag 31 = .ok (.ldc2_w 148, 3) := by decide +kernel
theorem dX10_bag_34 : decode cX10_bag 34 = .ok (.invokestatic 102, 3) := by decide +kernel
theorem dX10_bag_37 : decode cX10_bag 37 = .ok (.ifCond .ne 5, 3) := by decide +kernel
theorem dX10_bag_40 : decode cX10_bag 40 = .ok (.iconst (-1), 1) := by decide +kernel
theorem dX10_bag_41 : decode cX10_bag 41 = .ok (.ireturn, 1) := by decide +kernel
theorem dX10_bag_42 : decode cX10_bag 42 = .ok (.iload_n 2, 1) := by decide +kernel
theorem dX10_bag_43 : decode cX10_bag 43 = .ok (.ifCond .ne 12, 3) := by decide +kernel
theorem dX10_bag_46 : decode cX10_bag 46 = .ok (.aload_n 0, 1) := by decide +kernel
theorem dX10_bag_47 : decode cX10_bag 47 = .ok (.getfield 31, 3) := by decide +kernel
theorem dX10_bag_50 : decode cX10_bag 50 = .ok (.iload_n 1, 1) := by decide +kernel
theorem dX10_bag_51 : decode cX10_bag 51 = .ok (.iaload, 1) := by decide +kernel
theorem dX10_bag_52 : decode cX10_bag 52 = .ok (.goto 9, 3) := by decide +kernel
theorem dX10_bag_55 : decode cX10_bag 55 = .ok (.aload_n 0, 1) := by decide +kernel
theorem dX10_bag_56 : decode cX10_bag 56 = .ok (.getfield 34, 3) := by decide +kernel
theorem dX10_bag_59 : decode cX10_bag 59 = .ok (.iload_n 1, 1) := by decide +kernel
theorem dX10_bag_60 : decode cX10_bag 60 = .ok (.iaload, 1) := by decide +kernel
theorem dX10_bag_61 : decode cX10_bag 61 = .ok (.istore 4, 2) := by decide +kernel
theorem dX10_bag_63 : decode cX10_bag 63 = .ok (.aload_n 0, 1) := by decide +kernel
theorem dX10_bag_64 : decode cX10_bag 64 = .ok (.getfield 31, 3) := by decide +kernel
theorem dX10_bag_67 : decode cX10_bag 67 = .ok (.iload_n 1, 1) := by decide +kernel
theorem dX10_bag_68 : decode cX10_bag 68 = .ok (.iload_n 2, 1) := by decide +kernel
theorem dX10_bag_69 : decode cX10_bag 69 = .ok (.ifCond .ne 7, 3) := by decide +kernel
theorem dX10_bag_72 : decode cX10_bag 72 = .ok (.iload_n 3, 1) := by decide +kernel
theorem dX10_bag_73 : decode cX10_bag 73 = .ok (.goto 9, 3) := by decide +kernel
theorem dX10_bag_76 : decode cX10_bag 76 = .ok (.aload_n 0, 1) := by decide +kernel
theorem dX10_bag_77 : decode cX10_bag 77 = .ok (.getfield 31, 3) := by decide +kernel
theorem dX10_bag_80 : decode cX10_bag 80 = .ok (.iload_n 1, 1) := by decide +kernel
theorem dX10_bag_81 : decode cX10_bag 81 = .ok (.iaload, 1) := by decide +kernel
theorem dX10_bag_82 : decode cX10_bag 82 = .ok (.iastore, 1) := by decide +kernel
theorem dX10_bag_83 : decode cX10_bag 83 = .ok (.aload_n 0, 1) := by decide +kernel
theorem dX10_bag_84 : decode cX10_bag 84 = .ok (.getfield 34, 3) := by decide +kernel
theorem dX10_bag_87 : decode cX10_bag 87 = .ok (.iload_n 1, 1) := by decide +kernel
theorem dX10_bag_88 : decode cX10_bag 88 = .ok (.iload_n 2, 1) := by decide +kernel
theorem dX10_bag_89 : decode cX10_bag 89 = .ok (.ifCond .ne 12, 3) := by decide +kernel
theorem dX10_bag_92 : decode cX10_bag 92 = .ok (.aload_n 0, 1) := by decide +kernel
theorem dX10_bag_93 : decode cX10_bag 93 = .ok (.getfield 34, 3) := by decide +kernel
theorem dX10_bag_96 : decode cX10_bag 96 = .ok (.iload_n 1, 1) := by decide +kernel
theorem dX10_bag_97 : decode cX10_bag 97 = .ok (.iaload, 1) := by decide +kernel
theorem dX10_bag_98 : decode cX10_bag 98 = .ok (.goto 4, 3) := by decide +kernel
theorem dX10_bag_101 : decode cX10_bag 101 = .ok (.iload_n 3, 1) := by decide +kernel
theorem dX10_bag_102 : decode cX10_bag 102 = .ok (.iastore, 1) := by decide +kernel
theorem dX10_bag_103 : decode cX10_bag 103 = .ok (.iload 4, 2) := by decide +kernel
theorem dX10_bag_105 : decode cX10_bag 105 = .ok (.ireturn, 1) := by decide +kernel
theorem dX10_arm_0 : decode cX10_arm 0 = .ok (.iload_n 1, 1) := by decide +kernel
theorem dX10_arm_1 : decode cX10_arm 1 = .ok (.i2l, 1) := by decide +kernel
theorem dX10_arm_2 : decode cX10_arm 2 = .ok (.lconst 0, 1) := by decide +kernel
theorem dX10_arm_3 : decode cX10_arm 3 = .ok (.lconst 1, 1) := by decide +kernel
theorem dX10_arm_4 : decode cX10_arm 4 = .ok (.invokestatic 102, 3) := by decide +kernel
theorem dX10_arm_7 : decode cX10_arm 7 = .ok (.ifCond .eq 15, 3) := by decide +kernel
theorem dX10_arm_10 : decode cX10_arm 10 = .ok (.iload_n 2, 1) := by decide +kernel
theorem dX10_arm_11 : decode cX10_arm 11 = .ok (.i2l, 1) := by decide +kernel
theorem dX10_arm_12 : decode cX10_arm 12 = .ok (.lconst 1, 1) := by decide +kernel
theorem dX10_arm_13 : decode cX10_arm 13 = .ok (.ldc2_w 150, 3) := by decide +kernel
theorem dX10_arm_16 : decode cX10_arm 16 = .ok (.invokestatic 102, 3) := by decide +kernel
theorem dX10_arm_19 : decode cX10_arm 19 = .ok (.ifCond .ne 5, 3) := by decide +kernel
theorem dX10_arm_22 : decode cX10_arm 22 = .ok (.iconst (-1), 1) := by decide +kernel
theorem dX10_arm_23 : decode cX10_arm 23 = .ok (.ireturn, 1) := by decide +kernel
theorem dX10_arm_24 : decode cX10_arm 24 = .ok (.aload_n 0, 1) := by decide +kernel
theorem dX10_arm_25 : decode cX10_arm 25 = .ok (.getfield 37, 3) := by decide +kernel
theorem dX10_arm_28 : decode cX10_arm 28 = .ok (.iload_n 1, 1) := by decide +kernel
theorem dX10_arm_29 : decode cX10_arm 29 = .ok (.iaload, 1) := by decide +kernel
theorem dX10_arm_30 : decode cX10_arm 30 = .ok (.istore_n 3, 1) := by decide +kernel
theorem dX10_arm_31 : decode cX10_arm 31 = .ok (.aload_n 0, 1) := by decide +kernel
theorem dX10_arm_32 : decode cX10_arm 32 = .ok (.getfield 37, 3) := by decide +kernel
theorem dX10_arm_35 : decode cX10_arm 35 = .ok (.iload_n 1, 1) := by decide +kernel
theorem dX10_arm_36 : decode cX10_arm 36 = .ok (.iload_n 2, 1) := by decide +kernel
theorem dX10_arm_37 : decode cX10_arm 37 = .ok (.iastore, 1) := by decide +kernel
theorem dX10_arm_38 : decode cX10_arm 38 = .ok (.iload_n 3, 1) := by decide +kernel
theorem dX10_arm_39 : decode cX10_arm 39 = .ok (.ireturn, 1) := by decide +kernel
theorem dX10_rule_0 : decode cX10_rule 0 = .ok (.aload_n 0, 1) := by decide +kernel
theorem dX10_rule_1 : decode cX10_rule 1 = .ok (.iload_n 1, 1) := by decide +kernel
theorem dX10_rule_2 : decode cX10_rule 2 = .ok (.i2l, 1) := by decide +kernel
theorem dX10_rule_3 : decode cX10_rule 3 = .ok (.invokevirtual 122, 3) := by decide +kernel
theorem dX10_rule_6 : decode cX10_rule 6 = .ok (.ifCond .eq 27, 3) := by decide +kernel
theorem dX10_rule_9 : decode cX10_rule 9 = .ok (.aload_n 0, 1) := by decide +kernel
theorem dX10_rule_10 : decode cX10_rule 10 = .ok (.iload_n 2, 1) := by decide +kernel
theorem dX10_rule_11 : decode cX10_rule 11 = .ok (.i2l, 1) := by decide +kernel
theorem dX10_rule_12 : decode cX10_rule 12 = .ok (.invokevirtual 122, 3) := by decide +kernel
theorem dX10_rule_15 : decode cX10_rule 15 = .ok (.ifCond .eq 18, 3) := by decide +kernel
theorem dX10_rule_18 : decode cX10_rule 18 = .ok (.iload_n 1, 1) := by decide +kernel
theorem dX10_rule_19 : decode cX10_rule 19 = .ok (.iload_n 2, 1) := by decide +kernel
theorem dX10_rule_20 : decode cX10_rule 20 = .ok (.if_icmp .eq 13, 3) := by decide +kernel
theorem dX10_rule_23 : decode cX10_rule 23 = .ok (.iload_n 3, 1) := by decide +kernel
theorem dX10_rule_24 : decode cX10_rule 24 = .ok (.i2l, 1) := by decide +kernel
theorem dX10_rule_25 : decode cX10_rule 25 = .ok (.lconst 0, 1) := by decide +kernel
theorem dX10_rule_26 : decode cX10_rule 26 = .ok (.lconst 1, 1) := by decide +kernel
theorem dX10_rule_27 : decode cX10_rule 27 = .ok (.invokestatic 102, 3) := by decide +kernel
theorem dX10_rule_30 : decode cX10_rule 30 = .ok (.ifCond .ne 5, 3) := by decide +kernel
theorem dX10_rule_33 : decode cX10_rule 33 = .ok (.iconst (-1), 1) := by decide +kernel
theorem dX10_rule_34 : decode cX10_rule 34 = .ok (.ireturn, 1) := by decide +kernel
theorem dX10_rule_35 : decode cX10_rule 35 = .ok (.aload_n 0, 1) := by decide +kernel
theorem dX10_rule_36 : decode cX10_rule 36 = .ok (.getfield 152, 3) := by decide +kernel
theorem dX10_rule_39 : decode cX10_rule 39 = .ok (.bipush 8, 2) := by decide +kernel
theorem dX10_rule_41 : decode cX10_rule 41 = .ok (.if_icmp .ne 6, 3) := by decide +kernel
theorem dX10_rule_44 : decode cX10_rule 44 = .ok (.bipush (-3), 2) := by decide +kernel
theorem dX10_rule_46 : decode cX10_rule 46 = .ok (.ireturn, 1) := by decide +kernel
theorem dX10_rule_47 : decode cX10_rule 47 = .ok (.aload_n 0, 1) := by decide +kernel
theorem dX10_rule_48 : decode cX10_rule 48 = .ok (.getfield 40, 3) := by decide +kernel
theorem dX10_rule_51 : decode cX10_rule 51 = .ok (.aload_n 0, 1) := by decide +kernel
theorem dX10_rule_52 : decode cX10_rule 52 = .ok (.getfield 152, 3) := by decide +kernel
theorem dX10_rule_55 : decode cX10_rule 55 = .ok (.iload_n 1, 1) := by decide +kernel
theorem dX10_rule_56 : decode cX10_rule 56 = .ok (.iastore, 1) := by decide +kernel
theorem dX10_rule_57 : decode cX10_rule 57 = .ok (.aload_n 0, 1) := by decide +kernel
theorem dX10_rule_58 : decode cX10_rule 58 = .ok (.getfield 43, 3) := by decide +kernel
theorem dX10_rule_61 : decode cX10_rule 61 = .ok (.aload_n 0, 1) := by decide +kernel
theorem dX10_rule_62 : decode cX10_rule 62 = .ok (.getfield 152, 3) := by decide +kernel
theorem dX10_rule_65 : decode cX10_rule 65 = .ok (.iload_n 2, 1) := by decide +kernel
theorem dX10_rule_66 : decode cX10_rule 66 = .ok (.iastore, 1) := by decide +kernel
theorem dX10_rule_67 : decode cX10_rule 67 = .ok (.aload_n 0, 1) := by decide +kernel
theorem dX10_rule_68 : decode cX10_rule 68 = .ok (.getfield 46, 3) := by decide +kernel
theorem dX10_rule_71 : decode cX10_rule 71 = .ok (.aload_n 0, 1) := by decide +kernel
theorem dX10_rule_72 : decode cX10_rule 72 = .ok (.getfield 152, 3) := by decide +kernel
theorem dX10_rule_75 : decode cX10_rule 75 = .ok (.iload_n 3, 1) := by decide +kernel
theorem dX10_rule_76 : decode cX10_rule 76 = .ok (.iastore, 1) := by decide +kernel
theorem dX10_rule_77 : decode cX10_rule 77 = .ok (.aload_n 0, 1) := by decide +kernel
theorem dX10_rule_78 : decode cX10_rule 78 = .ok (.dup, 1) := by decide +kernel
theorem dX10_rule_79 : decode cX10_rule 79 = .ok (.getfield 152, 3) := by decide +kernel
theorem dX10_rule_82 : decode cX10_rule 82 = .ok (.iconst 1, 1) := by decide +kernel
theorem dX10_rule_83 : decode cX10_rule 83 = .ok (.iadd, 1) := by decide +kernel
theorem dX10_rule_84 : decode cX10_rule 84 = .ok (.putfield 152, 3) := by decide +kernel
theorem dX10_rule_87 : decode cX10_rule 87 = .ok (.aload_n 0, 1) := by decide +kernel
theorem dX10_rule_88 : decode cX10_rule 88 = .ok (.getfield 152, 3) := by decide +kernel
theorem dX10_rule_91 : decode cX10_rule 91 = .ok (.iconst 1, 1) := by decide +kernel
theorem dX10_rule_92 : decode cX10_rule 92 = .ok (.isub, 1) := by decide +kernel
theorem dX10_rule_93 : decode cX10_rule 93 = .ok (.ireturn, 1) := by decide +kernel
theorem dX10_off_0 : decode cX10_off 0 = .ok (.aload_n 0, 1) := by decide +kernel
theorem dX10_off_1 : decode cX10_off 1 = .ok (.getfield 152, 3) := by decide +kernel
theorem dX10_off_4 : decode cX10_off 4 = .ok (.ifCond .ne 6, 3) := by decide +kernel
theorem dX10_off_7 : decode cX10_off 7 = .ok (.bipush (-4), 2) := by decide +kernel
theorem dX10_off_9 : decode cX10_off 9 = .ok (.ireturn, 1) := by decide +kernel
theorem dX10_off_10 : decode cX10_off 10 = .ok (.aload_n 0, 1) := by decide +kernel
theorem dX10_off_11 : decode cX10_off 11 = .ok (.dup, 1) := by decide +kernel
theorem dX10_off_12 : decode cX10_off 12 = .ok (.getfield 152, 3) := by decide +kernel
theorem dX10_off_15 : decode cX10_off 15 = .ok (.iconst 1, 1) := by decide +kernel
theorem dX10_off_16 : decode cX10_off 16 = .ok (.isub, 1) := by decide +kernel
theorem dX10_off_17 : decode cX10_off 17 = .ok (.putfield 152, 3) := by decide +kernel
theorem dX10_off_20 : decode cX10_off 20 = .ok (.aload_n 0, 1) := by decide +kernel
theorem dX10_off_21 : decode cX10_off 21 = .ok (.getfield 152, 3) := by decide +kernel
theorem dX10_off_24 : decode cX10_off 24 = .ok (.ireturn, 1) := by decide +kernel
theorem dX10_wayTo_0 : decode cX10_wayTo 0 = .ok (.iconst 0, 1) := by decide +kernel
theorem dX10_wayTo_1 : decode cX10_wayTo 1 = .ok (.istore_n 2, 1) := by decide +kernel
theorem dX10_wayTo_2 : decode cX10_wayTo 2 = .ok (.iconst 0, 1) := by decide +kernel
theorem dX10_wayTo_3 : decode cX10_wayTo 3 = .ok (.istore_n 3, 1) := by decide +kernel
theorem dX10_wayTo_4 : decode cX10_wayTo 4 = .ok (.iload_n 3, 1) := by decide +kernel
theorem dX10_wayTo_5 : decode cX10_wayTo 5 = .ok (.iload_n 1, 1) := by decide +kernel
theorem dX10_wayTo_6 : decode cX10_wayTo 6 = .ok (.if_icmp .ge 18, 3) := by decide +kernel
theorem dX10_wayTo_9 : decode cX10_wayTo 9 = .ok (.iload_n 2, 1) := by decide +kernel
theorem dX10_wayTo_10 : decode cX10_wayTo 10 = .ok (.aload_n 0, 1) := by decide +kernel
theorem dX10_wayTo_11 : decode cX10_wayTo 11 = .ok (.getfield 25, 3) := by decide +kernel
theorem dX10_wayTo_14 : decode cX10_wayTo 14 = .ok (.iload_n 3, 1) := by decide +kernel
theorem dX10_wayTo_15 : decode cX10_wayTo 15 = .ok (.iaload, 1) := by decide +kernel
theorem dX10_wayTo_16 : decode cX10_wayTo 16 = .ok (.iadd, 1) := by decide +kernel
theorem dX10_wayTo_17 : decode cX10_wayTo 17 = .ok (.istore_n 2, 1) := by decide +kernel
theorem dX10_wayTo_18 : decode cX10_wayTo 18 = .ok (.iinc 3 1, 3) := by decide +kernel
theorem dX10_wayTo_21 : decode cX10_wayTo 21 = .ok (.goto (-17), 3) := by decide +kernel
theorem dX10_wayTo_24 : decode cX10_wayTo 24 = .ok (.iload_n 2, 1) := by decide +kernel
theorem dX10_wayTo_25 : decode cX10_wayTo 25 = .ok (.ireturn, 1) := by decide +kernel
theorem dX10_count_0 : decode cX10_count 0 = .ok (.iload_n 1, 1) := by decide +kernel
theorem dX10_count_1 : decode cX10_count 1 = .ok (.tableswitch 86 0 6 #[43, 48, 53, 58, 63, 72, 79], 43) := by decide +kernel
theorem dX10_count_44 : decode cX10_count 44 = .ok (.aload_n 0, 1) := by decide +kernel
theorem dX10_count_45 : decode cX10_count 45 = .ok (.getfield 98, 3) := by decide +kernel
theorem dX10_count_48 : decode cX10_count 48 = .ok (.ireturn, 1) := by decide +kernel
theorem dX10_count_49 : decode cX10_count 49 = .ok (.aload_n 0, 1) := by decide +kernel
theorem dX10_count_50 : decode cX10_count 50 = .ok (.getfield 106, 3) := by decide +kernel
theorem dX10_count_53 : decode cX10_count 53 = .ok (.ireturn, 1) := by decide +kernel
theorem dX10_count_54 : decode cX10_count 54 = .ok (.aload_n 0, 1) := by decide +kernel
theorem dX10_count_55 : decode cX10_count 55 = .ok (.getfield 152, 3) := by decide +kernel
theorem dX10_count_58 : decode cX10_count 58 = .ok (.ireturn, 1) := by decide +kernel
theorem dX10_count_59 : decode cX10_count 59 = .ok (.aload_n 0, 1) := by decide +kernel
theorem dX10_count_60 : decode cX10_count 60 = .ok (.getfield 119, 3) := by decide +kernel
theorem dX10_count_63 : decode cX10_count 63 = .ok (.ireturn, 1) := by decide +kernel
theorem dX10_count_64 : decode cX10_count 64 = .ok (.aload_n 0, 1) := by decide +kernel
theorem dX10_count_65 : decode cX10_count 65 = .ok (.aload_n 0, 1) := by decide +kernel
theorem dX10_count_66 : decode cX10_count 66 = .ok (.getfield 106, 3) := by decide +kernel
theorem dX10_count_69 : decode cX10_count 69 = .ok (.invokevirtual 155, 3) := by decide +kernel
theorem dX10_count_72 : decode cX10_count 72 = .ok (.ireturn, 1) := by decide +kernel
theorem dX10_count_73 : decode cX10_count 73 = .ok (.aload_n 0, 1) := by decide +kernel
theorem dX10_count_74 : decode cX10_count 74 = .ok (.getfield 37, 3) := by decide +kernel
theorem dX10_count_77 : decode cX10_count 77 = .ok (.iconst 0, 1) := by decide +kernel
theorem dX10_count_78 : decode cX10_count 78 = .ok (.iaload, 1) := by decide +kernel
theorem dX10_count_79 : decode cX10_count 79 = .ok (.ireturn, 1) := by decide +kernel
theorem dX10_count_80 : decode cX10_count 80 = .ok (.aload_n 0, 1) := by decide +kernel
theorem dX10_count_81 : decode cX10_count 81 = .ok (.getfield 37, 3) := by decide +kernel
theorem dX10_count_84 : decode cX10_count 84 = .ok (.iconst 1, 1) := by decide +kernel
theorem dX10_count_85 : decode cX10_count 85 = .ok (.iaload, 1) := by decide +kernel
theorem dX10_count_86 : decode cX10_count 86 = .ok (.ireturn, 1) := by decide +kernel
theorem dX10_count_87 : decode cX10_count 87 = .ok (.iconst (-1), 1) := by decide +kernel
theorem dX10_count_88 : decode cX10_count 88 = .ok (.ireturn, 1) := by decide +kernel
theorem dX10_type_0 : decode cX10_type 0 = .ok (.iload_n 1, 1) := by decide +kernel
theorem dX10_type_1 : decode cX10_type 1 = .ok (.i2l, 1) := by decide +kernel
theorem dX10_type_2 : decode cX10_type 2 = .ok (.ldc2_w 159, 3) := by decide +kernel
theorem dX10_type_5 : decode cX10_type 5 = .ok (.ldc2_w 161, 3) := by decide +kernel
theorem dX10_type_8 : decode cX10_type 8 = .ok (.invokestatic 102, 3) := by decide +kernel
theorem dX10_type_11 : decode cX10_type 11 = .ok (.ifCond .ne 5, 3) := by decide +kernel
theorem dX10_type_14 : decode cX10_type 14 = .ok (.iconst (-1), 1) := by decide +kernel
theorem dX10_type_15 : decode cX10_type 15 = .ok (.ireturn, 1) := by decide +kernel
theorem dX10_type_16 : decode cX10_type 16 = .ok (.aload_n 0, 1) := by decide +kernel
theorem dX10_type_17 : decode cX10_type 17 = .ok (.getfield 163, 3) := by decide +kernel
theorem dX10_type_20 : decode cX10_type 20 = .ok (.bipush 80, 2) := by decide +kernel
theorem dX10_type_22 : decode cX10_type 22 = .ok (.if_icmp .ne 6, 3) := by decide +kernel
theorem dX10_type_25 : decode cX10_type 25 = .ok (.bipush (-3), 2) := by decide +kernel
theorem dX10_type_27 : decode cX10_type 27 = .ok (.ireturn, 1) := by decide +kernel
theorem dX10_type_28 : decode cX10_type 28 = .ok (.aload_n 0, 1) := by decide +kernel
theorem dX10_type_29 : decode cX10_type 29 = .ok (.getfield 55, 3) := by decide +kernel
theorem dX10_type_32 : decode cX10_type 32 = .ok (.aload_n 0, 1) := by decide +kernel
theorem dX10_type_33 : decode cX10_type 33 = .ok (.getfield 163, 3) := by decide +kernel
theorem dX10_type_36 : decode cX10_type 36 = .ok (.iload_n 1, 1) := by decide +kernel
theorem dX10_type_37 : decode cX10_type 37 = .ok (.iastore, 1) := by decide +kernel
theorem dX10_type_38 : decode cX10_type 38 = .ok (.aload_n 0, 1) := by decide +kernel
theorem dX10_type_39 : decode cX10_type 39 = .ok (.dup, 1) := by decide +kernel
theorem dX10_type_40 : decode cX10_type 40 = .ok (.getfield 163, 3) := by decide +kernel
theorem dX10_type_43 : decode cX10_type 43 = .ok (.iconst 1, 1) := by decide +kernel
theorem dX10_type_44 : decode cX10_type 44 = .ok (.iadd, 1) := by decide +kernel
theorem dX10_type_45 : decode cX10_type 45 = .ok (.putfield 163, 3) := by decide +kernel
theorem dX10_type_48 : decode cX10_type 48 = .ok (.aload_n 0, 1) := by decide +kernel
theorem dX10_type_49 : decode cX10_type 49 = .ok (.getfield 163, 3) := by decide +kernel
theorem dX10_type_52 : decode cX10_type 52 = .ok (.ireturn, 1) := by decide +kernel
theorem dX10_here_0 : decode cX10_here 0 = .ok (.aload_n 0, 1) := by decide +kernel
theorem dX10_here_1 : decode cX10_here 1 = .ok (.getfield 166, 3) := by decide +kernel
theorem dX10_here_4 : decode cX10_here 4 = .ok (.aload_n 0, 1) := by decide +kernel
theorem dX10_here_5 : decode cX10_here 5 = .ok (.getfield 163, 3) := by decide +kernel
theorem dX10_here_8 : decode cX10_here 8 = .ok (.if_icmp .ge 30, 3) := by decide +kernel
theorem dX10_here_11 : decode cX10_here 11 = .ok (.aload_n 0, 1) := by decide +kernel
theorem dX10_here_12 : decode cX10_here 12 = .ok (.getfield 55, 3) := by decide +kernel
theorem dX10_here_15 : decode cX10_here 15 = .ok (.aload_n 0, 1) := by decide +kernel
theorem dX10_here_16 : decode cX10_here 16 = .ok (.getfield 166, 3) := by decide +kernel
theorem dX10_here_19 : decode cX10_here 19 = .ok (.iaload, 1) := by decide +kernel
theorem dX10_here_20 : decode cX10_here 20 = .ok (.bipush 32, 2) := by decide +kernel
theorem dX10_here_22 : decode cX10_here 22 = .ok (.if_icmp .ne 16, 3) := by decide +kernel
theorem dX10_here_25 : decode cX10_here 25 = .ok (.aload_n 0, 1) := by decide +kernel
theorem dX10_here_26 : decode cX10_here 26 = .ok (.dup, 1) := by decide +kernel
theorem dX10_here_27 : decode cX10_here 27 = .ok (.getfield 166, 3) := by decide +kernel
theorem dX10_here_30 : decode cX10_here 30 = .ok (.iconst 1, 1) := by decide +kernel
theorem dX10_here_31 : decode cX10_here 31 = .ok (.iadd, 1) := by decide +kernel
theorem dX10_here_32 : decode cX10_here 32 = .ok (.putfield 166, 3) := by decide +kernel
theorem dX10_here_35 : decode cX10_here 35 = .ok (.goto (-35), 3) := by decide +kernel
theorem dX10_here_38 : decode cX10_here 38 = .ok (.aload_n 0, 1) := by decide +kernel
theorem dX10_here_39 : decode cX10_here 39 = .ok (.getfield 166, 3) := by decide +kernel
theorem dX10_here_42 : decode cX10_here 42 = .ok (.aload_n 0, 1) := by decide +kernel
theorem dX10_here_43 : decode cX10_here 43 = .ok (.getfield 163, 3) := by decide +kernel
theorem dX10_here_46 : decode cX10_here 46 = .ok (.if_icmp .ge 15, 3) := by decide +kernel
theorem dX10_here_49 : decode cX10_here 49 = .ok (.aload_n 0, 1) := by decide +kernel
theorem dX10_here_50 : decode cX10_here 50 = .ok (.getfield 55, 3) := by decide +kernel
theorem dX10_here_53 : decode cX10_here 53 = .ok (.aload_n 0, 1) := by decide +kernel
theorem dX10_here_54 : decode cX10_here 54 = .ok (.getfield 166, 3) := by decide +kernel
theorem dX10_here_57 : decode cX10_here 57 = .ok (.iaload, 1) := by decide +kernel
theorem dX10_here_58 : decode cX10_here 58 = .ok (.goto 4, 3) := by decide +kernel
theorem dX10_here_61 : decode cX10_here 61 = .ok (.iconst 0, 1) := by decide +kernel
theorem dX10_here_62 : decode cX10_here 62 = .ok (.ireturn, 1) := by decide +kernel
theorem dX10_has_0 : decode cX10_has 0 = .ok (.aload_n 0, 1) := by decide +kernel
theorem dX10_has_1 : decode cX10_has 1 = .ok (.getfield 169, 3) := by decide +kernel
theorem dX10_has_4 : decode cX10_has 4 = .ok (.ifCond .ne 15, 3) := by decide +kernel
theorem dX10_has_7 : decode cX10_has 7 = .ok (.aload_n 0, 1) := by decide +kernel
theorem dX10_has_8 : decode cX10_has 8 = .ok (.invokevirtual 173, 3) := by decide +kernel
theorem dX10_has_11 : decode cX10_has 11 = .ok (.iload_n 1, 1) := by decide +kernel
theorem dX10_has_12 : decode cX10_has 12 = .ok (.if_icmp .ne 7, 3) := by decide +kernel
theorem dX10_has_15 : decode cX10_has 15 = .ok (.iconst 1, 1) := by decide +kernel
theorem dX10_has_16 : decode cX10_has 16 = .ok (.goto 4, 3) := by decide +kernel
theorem dX10_has_19 : decode cX10_has 19 = .ok (.iconst 0, 1) := by decide +kernel
theorem dX10_has_20 : decode cX10_has 20 = .ok (.istore_n 2, 1) := by decide +kernel
theorem dX10_has_21 : decode cX10_has 21 = .ok (.aload_n 0, 1) := by decide +kernel
theorem dX10_has_22 : decode cX10_has 22 = .ok (.dup, 1) := by decide +kernel
theorem dX10_has_23 : decode cX10_has 23 = .ok (.getfield 166, 3) := by decide +kernel
theorem dX10_has_26 : decode cX10_has 26 = .ok (.iload_n 2, 1) := by decide +kernel
theorem dX10_has_27 : decode cX10_has 27 = .ok (.ifCond .eq 7, 3) := by decide +kernel
theorem dX10_has_30 : decode cX10_has 30 = .ok (.iconst 1, 1) := by decide +kernel
theorem dX10_has_31 : decode cX10_has 31 = .ok (.goto 4, 3) := by decide +kernel
theorem dX10_has_34 : decode cX10_has 34 = .ok (.iconst 0, 1) := by decide +kernel
theorem dX10_has_35 : decode cX10_has 35 = .ok (.iadd, 1) := by decide +kernel
theorem dX10_has_36 : decode cX10_has 36 = .ok (.putfield 166, 3) := by decide +kernel
theorem dX10_has_39 : decode cX10_has 39 = .ok (.iload_n 2, 1) := by decide +kernel
theorem dX10_has_40 : decode cX10_has 40 = .ok (.ireturn, 1) := by decide +kernel
theorem dX10_number_0 : decode cX10_number 0 = .ok (.aload_n 0, 1) := by decide +kernel
theorem dX10_number_1 : decode cX10_number 1 = .ok (.getfield 169, 3) := by decide +kernel
theorem dX10_number_4 : decode cX10_number 4 = .ok (.ifCond .ne 20, 3) := by decide +kernel
theorem dX10_number_7 : decode cX10_number 7 = .ok (.aload_n 0, 1) := by decide +kernel
theorem dX10_number_8 : decode cX10_number 8 = .ok (.invokevirtual 173, 3) := by decide +kernel
theorem dX10_number_11 : decode cX10_number 11 = .ok (.i2l, 1) := by decide +kernel
theorem dX10_number_12 : decode cX10_number 12 = .ok (.ldc2_w 177, 3) := by decide +kernel
theorem dX10_number_15 : decode cX10_number 15 = .ok (.ldc2_w 179, 3) := by decide +kernel
theorem dX10_number_18 : decode cX10_number 18 = .ok (.invokestatic 102, 3) := by decide +kernel
theorem dX10_number_21 : decode cX10_number 21 = .ok (.ifCond .ne 10, 3) := by decide +kernel
theorem dX10_number_24 : decode cX10_number 24 = .ok (.aload_n 0, 1) := by decide +kernel
theorem dX10_number_25 : decode cX10_number 25 = .ok (.iconst 1, 1) := by decide +kernel
theorem dX10_number_26 : decode cX10_number 26 = .ok (.putfield 169, 3) := by decide +kernel
theorem dX10_number_29 : decode cX10_number 29 = .ok (.iconst 0, 1) := by decide +kernel
theorem dX10_number_30 : decode cX10_number 30 = .ok (.ireturn, 1) := by decide +kernel
theorem dX10_number_31 : decode cX10_number 31 = .ok (.aload_n 0, 1) := by decide +kernel
theorem dX10_number_32 : decode cX10_number 32 = .ok (.getfield 166, 3) := by decide +kernel
theorem dX10_number_35 : decode cX10_number 35 = .ok (.istore_n 1, 1) := by decide +kernel
theorem dX10_number_36 : decode cX10_number 36 = .ok (.iconst 0, 1) := by decide +kernel
theorem dX10_number_37 : decode cX10_number 37 = .ok (.istore_n 2, 1) := by decide +kernel
theorem dX10_number_38 : decode cX10_number 38 = .ok (.aload_n 0, 1) := by decide +kernel
theorem dX10_number_39 : decode cX10_number 39 = .ok (.getfield 166, 3) := by decide +kernel
theorem dX10_number_42 : decode cX10_number 42 = .ok (.aload_n 0, 1) := by decide +kernel
theorem dX10_number_43 : decode cX10_number 43 = .ok (.getfield 163, 3) := by decide +kernel
theorem dX10_number_46 : decode cX10_number 46 = .ok (.if_icmp .ge 67, 3) := by decide +kernel
theorem dX10_number_49 : decode cX10_number 49 = .ok (.aload_n 0, 1) := by decide +kernel
theorem dX10_number_50 : decode cX10_number 50 = .ok (.getfield 55, 3) := by decide +kernel
theorem dX10_number_53 : decode cX10_number 53 = .ok (.aload_n 0, 1) := by decide +kernel
theorem dX10_number_54 : decode cX10_number 54 = .ok (.getfield 166, 3) := by decide +kernel
theorem dX10_number_57 : decode cX10_number 57 = .ok (.iaload, 1) := by decide +kernel
theorem dX10_number_58 : decode cX10_number 58 = .ok (.i2l, 1) := by decide +kernel
theorem dX10_number_59 : decode cX10_number 59 = .ok (.ldc2_w 177, 3) := by decide +kernel
theorem dX10_number_62 : decode cX10_number 62 = .ok (.ldc2_w 179, 3) := by decide +kernel
theorem dX10_number_65 : decode cX10_number 65 = .ok (.invokestatic 102, 3) := by decide +kernel
theorem dX10_number_68 : decode cX10_number 68 = .ok (.ifCond .eq 45, 3) := by decide +kernel
theorem dX10_number_71 : decode cX10_number 71 = .ok (.iload_n 2, 1) := by decide +kernel
theorem dX10_number_72 : decode cX10_number 72 = .ok (.sipush 999, 3) := by decide +kernel
theorem dX10_number_75 : decode cX10_number 75 = .ok (.if_icmp .le 7, 3) := by decide +kernel
theorem dX10_number_78 : decode cX10_number 78 = .ok (.iload_n 2, 1) := by decide +kernel
theorem dX10_number_79 : decode cX10_number 79 = .ok (.goto 20, 3) := by decide +kernel
theorem dX10_number_82 : decode cX10_number 82 = .ok (.bipush 10, 2) := by decide +kernel
theorem dX10_number_84 : decode cX10_number 84 = .ok (.iload_n 2, 1) := by decide +kernel
theorem dX10_number_85 : decode cX10_number 85 = .ok (.imul, 1) := by decide +kernel
theorem dX10_number_86 : decode cX10_number 86 = .ok (.aload_n 0, 1) := by decide +kernel
theorem dX10_number_87 : decode cX10_number 87 = .ok (.getfield 55, 3) := by decide +kernel
theorem dX10_number_90 : decode cX10_number 90 = .ok (.aload_n 0, 1) := by decide +kernel
theorem dX10_number_91 : decode cX10_number 91 = .ok (.getfield 166, 3) := by decide +kernel
theorem dX10_number_94 : decode cX10_number 94 = .ok (.iaload, 1) := by decide +kernel
theorem dX10_number_95 : decode cX10_number 95 = .ok (.iadd, 1) := by decide +kernel
theorem dX10_number_96 : decode cX10_number 96 = .ok (.bipush 48, 2) := by decide +kernel
theorem dX10_number_98 : decode cX10_number 98 = .ok (.isub, 1) := by decide +kernel
theorem dX10_number_99 : decode cX10_number 99 = .ok (.istore_n 2, 1) := by decide +kernel
theorem dX10_number_100 : decode cX10_number 100 = .ok (.aload_n 0, 1) := by decide +kernel
theorem dX10_number_101 : decode cX10_number 101 = .ok (.dup, 1) := by decide +kernel
theorem dX10_number_102 : decode cX10_number 102 = .ok (.getfield 166, 3) := by decide +kernel
theorem dX10_number_105 : decode cX10_number 105 = .ok (.iconst 1, 1) := by decide +kernel
theorem dX10_number_106 : decode cX10_number 106 = .ok (.iadd, 1) := by decide +kernel
theorem dX10_number_107 : decode cX10_number 107 = .ok (.putfield 166, 3) := by decide +kernel
theorem dX10_number_110 : decode cX10_number 110 = .ok (.goto (-72), 3) := by decide +kernel
theorem dX10_number_113 : decode cX10_number 113 = .ok (.aload_n 0, 1) := by decide +kernel
theorem dX10_number_114 : decode cX10_number 114 = .ok (.aload_n 0, 1) := by decide +kernel
theorem dX10_number_115 : decode cX10_number 115 = .ok (.getfield 166, 3) := by decide +kernel
theorem dX10_number_118 : decode cX10_number 118 = .ok (.iload_n 1, 1) := by decide +kernel
theorem dX10_number_119 : decode cX10_number 119 = .ok (.isub, 1) := by decide +kernel
theorem dX10_number_120 : decode cX10_number 120 = .ok (.iconst 2, 1) := by decide +kernel
theorem dX10_number_121 : decode cX10_number 121 = .ok (.if_icmp .gt 7, 3) := by decide +kernel
theorem dX10_number_124 : decode cX10_number 124 = .ok (.iload_n 2, 1) := by decide +kernel
theorem dX10_number_125 : decode cX10_number 125 = .ok (.ifCond .ne 7, 3) := by decide +kernel
theorem dX10_number_128 : decode cX10_number 128 = .ok (.iconst 1, 1) := by decide +kernel
theorem dX10_number_129 : decode cX10_number 129 = .ok (.goto 4, 3) := by decide +kernel
theorem dX10_number_132 : decode cX10_number 132 = .ok (.iconst 0, 1) := by decide +kernel
theorem dX10_number_133 : decode cX10_number 133 = .ok (.putfield 169, 3) := by decide +kernel
theorem dX10_number_136 : decode cX10_number 136 = .ok (.aload_n 0, 1) := by decide +kernel
theorem dX10_number_137 : decode cX10_number 137 = .ok (.aload_n 0, 1) := by decide +kernel
theorem dX10_number_138 : decode cX10_number 138 = .ok (.getfield 169, 3) := by decide +kernel
theorem dX10_number_141 : decode cX10_number 141 = .ok (.ifCond .eq 7, 3) := by decide +kernel
theorem dX10_number_144 : decode cX10_number 144 = .ok (.iload_n 1, 1) := by decide +kernel
theorem dX10_number_145 : decode cX10_number 145 = .ok (.goto 7, 3) := by decide +kernel
theorem dX10_number_148 : decode cX10_number 148 = .ok (.aload_n 0, 1) := by decide +kernel
theorem dX10_number_149 : decode cX10_number 149 = .ok (.getfield 166, 3) := by decide +kernel
theorem dX10_number_152 : decode cX10_number 152 = .ok (.putfield 166, 3) := by decide +kernel
theorem dX10_number_155 : decode cX10_number 155 = .ok (.iload_n 2, 1) := by decide +kernel
theorem dX10_number_156 : decode cX10_number 156 = .ok (.ireturn, 1) := by decide +kernel
theorem dX10_readThing_0 : decode cX10_readThing 0 = .ok (.aload_n 0, 1) := by decide +kernel
theorem dX10_readThing_1 : decode cX10_readThing 1 = .ok (.getfield 169, 3) := by decide +kernel
theorem dX10_readThing_4 : decode cX10_readThing 4 = .ok (.ifCond .eq 7, 3) := by decide +kernel
theorem dX10_readThing_7 : decode cX10_readThing 7 = .ok (.iconst 0, 1) := by decide +kernel
theorem dX10_readThing_8 : decode cX10_readThing 8 = .ok (.goto 7, 3) := by decide +kernel
theorem dX10_readThing_11 : decode cX10_readThing 11 = .ok (.aload_n 0, 1) := by decide +kernel
theorem dX10_readThing_12 : decode cX10_readThing 12 = .ok (.invokevirtual 173, 3) := by decide +kernel
theorem dX10_readThing_15 : decode cX10_readThing 15 = .ok (.istore_n 1, 1) := by decide +kernel
theorem dX10_readThing_16 : decode cX10_readThing 16 = .ok (.iload_n 1, 1) := by decide +kernel
theorem dX10_readThing_17 : decode cX10_readThing 17 = .ok (.bipush 112, 2) := by decide +kernel
theorem dX10_readThing_19 : decode cX10_readThing 19 = .ok (.if_icmp .ne 7, 3) := by decide +kernel
theorem dX10_readThing_22 : decode cX10_readThing 22 = .ok (.iconst 0, 1) := by decide +kernel
theorem dX10_readThing_23 : decode cX10_readThing 23 = .ok (.goto 35, 3) := by decide +kernel
theorem dX10_readThing_26 : decode cX10_readThing 26 = .ok (.iload_n 1, 1) := by decide +kernel
theorem dX10_readThing_27 : decode cX10_readThing 27 = .ok (.bipush 105, 2) := by decide +kernel
theorem dX10_readThing_29 : decode cX10_readThing 29 = .ok (.if_icmp .ne 7, 3) := by decide +kernel
theorem dX10_readThing_32 : decode cX10_readThing 32 = .ok (.iconst 1, 1) := by decide +kernel
theorem dX10_readThing_33 : decode cX10_readThing 33 = .ok (.goto 25, 3) := by decide +kernel
theorem dX10_readThing_36 : decode cX10_readThing 36 = .ok (.iload_n 1, 1) := by decide +kernel
theorem dX10_readThing_37 : decode cX10_readThing 37 = .ok (.bipush 115, 2) := by decide +kernel
theorem dX10_readThing_39 : decode cX10_readThing 39 = .ok (.if_icmp .ne 7, 3) := by decide +kernel
theorem dX10_readThing_42 : decode cX10_readThing 42 = .ok (.iconst 2, 1) := by decide +kernel
theorem dX10_readThing_43 : decode cX10_readThing 43 = .ok (.goto 15, 3) := by decide +kernel
theorem dX10_readThing_46 : decode cX10_readThing 46 = .ok (.iload_n 1, 1) := by decide +kernel
theorem dX10_readThing_47 : decode cX10_readThing 47 = .ok (.bipush 102, 2) := by decide +kernel
theorem dX10_readThing_49 : decode cX10_readThing 49 = .ok (.if_icmp .ne 7, 3) := by decide +kernel
theorem dX10_readThing_52 : decode cX10_readThing 52 = .ok (.iconst 3, 1) := by decide +kernel
theorem dX10_readThing_53 : decode cX10_readThing 53 = .ok (.goto 5, 3) := by decide +kernel
theorem dX10_readThing_56 : decode cX10_readThing 56 = .ok (.bipush (-4), 2) := by decide +kernel
theorem dX10_readThing_58 : decode cX10_readThing 58 = .ok (.istore_n 2, 1) := by decide +kernel
theorem dX10_readThing_59 : decode cX10_readThing 59 = .ok (.aload_n 0, 1) := by decide +kernel
theorem dX10_readThing_60 : decode cX10_readThing 60 = .ok (.aload_n 0, 1) := by decide +kernel
theorem dX10_readThing_61 : decode cX10_readThing 61 = .ok (.getfield 169, 3) := by decide +kernel
theorem dX10_readThing_64 : decode cX10_readThing 64 = .ok (.ifCond .ne 7, 3) := by decide +kernel
theorem dX10_readThing_67 : decode cX10_readThing 67 = .ok (.iload_n 2, 1) := by decide +kernel
theorem dX10_readThing_68 : decode cX10_readThing 68 = .ok (.ifCond .ge 7, 3) := by decide +kernel
theorem dX10_readThing_71 : decode cX10_readThing 71 = .ok (.iconst 1, 1) := by decide +kernel
theorem dX10_readThing_72 : decode cX10_readThing 72 = .ok (.goto 4, 3) := by decide +kernel
theorem dX10_readThing_75 : decode cX10_readThing 75 = .ok (.iconst 0, 1) := by decide +kernel
theorem dX10_readThing_76 : decode cX10_readThing 76 = .ok (.putfield 169, 3) := by decide +kernel
theorem dX10_readThing_79 : decode cX10_readThing 79 = .ok (.aload_n 0, 1) := by decide +kernel
theorem dX10_readThing_80 : decode cX10_readThing 80 = .ok (.dup, 1) := by decide +kernel
theorem dX10_readThing_81 : decode cX10_readThing 81 = .ok (.getfield 166, 3) := by decide +kernel
theorem dX10_readThing_84 : decode cX10_readThing 84 = .ok (.aload_n 0, 1) := by decide +kernel
theorem dX10_readThing_85 : decode cX10_readThing 85 = .ok (.getfield 169, 3) := by decide +kernel
theorem dX10_readThing_88 : decode cX10_readThing 88 = .ok (.ifCond .eq 7, 3) := by decide +kernel
theorem dX10_readThing_91 : decode cX10_readThing 91 = .ok (.iconst 0, 1) := by decide +kernel
theorem dX10_readThing_92 : decode cX10_readThing 92 = .ok (.goto 4, 3) := by decide +kernel
theorem dX10_readThing_95 : decode cX10_readThing 95 = .ok (.iconst 1, 1) := by decide +kernel
theorem dX10_readThing_96 : decode cX10_readThing 96 = .ok (.iadd, 1) := by decide +kernel
theorem dX10_readThing_97 : decode cX10_readThing 97 = .ok (.putfield 166, 3) := by decide +kernel
theorem dX10_readThing_100 : decode cX10_readThing 100 = .ok (.aload_n 0, 1) := by decide +kernel
theorem dX10_readThing_101 : decode cX10_readThing 101 = .ok (.getfield 58, 3) := by decide +kernel
theorem dX10_readThing_104 : decode cX10_readThing 104 = .ok (.iconst 3, 1) := by decide +kernel
theorem dX10_readThing_105 : decode cX10_readThing 105 = .ok (.aload_n 0, 1) := by decide +kernel
theorem dX10_readThing_106 : decode cX10_readThing 106 = .ok (.getfield 181, 3) := by decide +kernel
theorem dX10_readThing_109 : decode cX10_readThing 109 = .ok (.imul, 1) := by decide +kernel
theorem dX10_readThing_110 : decode cX10_readThing 110 = .ok (.iload_n 2, 1) := by decide +kernel
theorem dX10_readThing_111 : decode cX10_readThing 111 = .ok (.iastore, 1) := by decide +kernel
theorem dX10_readThing_112 : decode cX10_readThing 112 = .ok (.aload_n 0, 1) := by decide +kernel
theorem dX10_readThing_113 : decode cX10_readThing 113 = .ok (.getfield 58, 3) := by decide +kernel
theorem dX10_readThing_116 : decode cX10_readThing 116 = .ok (.iconst 3, 1) := by decide +kernel
theorem dX10_readThing_117 : decode cX10_readThing 117 = .ok (.aload_n 0, 1) := by decide +kernel
theorem dX10_readThing_118 : decode cX10_readThing 118 = .ok (.getfield 181, 3) := by decide +kernel
theorem dX10_readThing_121 : decode cX10_readThing 121 = .ok (.imul, 1) := by decide +kernel
theorem dX10_readThing_122 : decode cX10_readThing 122 = .ok (.iconst 1, 1) := by decide +kernel
theorem dX10_readThing_123 : decode cX10_readThing 123 = .ok (.iadd, 1) := by decide +kernel
theorem dX10_readThing_124 : decode cX10_readThing 124 = .ok (.aload_n 0, 1) := by decide +kernel
theorem dX10_readThing_125 : decode cX10_readThing 125 = .ok (.invokevirtual 184, 3) := by decide +kernel
theorem dX10_readThing_128 : decode cX10_readThing 128 = .ok (.iastore, 1) := by decide +kernel
theorem dX10_readThing_129 : decode cX10_readThing 129 = .ok (.aload_n 0, 1) := by decide +kernel
theorem dX10_readThing_130 : decode cX10_readThing 130 = .ok (.getfield 58, 3) := by decide +kernel
theorem dX10_readThing_133 : decode cX10_readThing 133 = .ok (.iconst 3, 1) := by decide +kernel
theorem dX10_readThing_134 : decode cX10_readThing 134 = .ok (.aload_n 0, 1) := by decide +kernel
theorem dX10_readThing_135 : decode cX10_readThing 135 = .ok (.getfield 181, 3) := by decide +kernel
theorem dX10_readThing_138 : decode cX10_readThing 138 = .ok (.imul, 1) := by decide +kernel
theorem dX10_readThing_139 : decode cX10_readThing 139 = .ok (.iconst 2, 1) := by decide +kernel
theorem dX10_readThing_140 : decode cX10_readThing 140 = .ok (.iadd, 1) := by decide +kernel
theorem dX10_readThing_141 : decode cX10_readThing 141 = .ok (.iconst 5, 1) := by decide +kernel
theorem dX10_readThing_142 : decode cX10_readThing 142 = .ok (.iastore, 1) := by decide +kernel
theorem dX10_readThing_143 : decode cX10_readThing 143 = .ok (.aload_n 0, 1) := by decide +kernel
theorem dX10_readThing_144 : decode cX10_readThing 144 = .ok (.bipush 64, 2) := by decide +kernel
theorem dX10_readThing_146 : decode cX10_readThing 146 = .ok (.invokevirtual 187, 3) := by decide +kernel
theorem dX10_readThing_149 : decode cX10_readThing 149 = .ok (.ifCond .eq 70, 3) := by decide +kernel
theorem dX10_readThing_152 : decode cX10_readThing 152 = .ok (.aload_n 0, 1) := by decide +kernel
theorem dX10_readThing_153 : decode cX10_readThing 153 = .ok (.aload_n 0, 1) := by decide +kernel
theorem dX10_readThing_154 : decode cX10_readThing 154 = .ok (.invokevirtual 173, 3) := by decide +kernel
theorem dX10_readThing_157 : decode cX10_readThing 157 = .ok (.i2l, 1) := by decide +kernel
theorem dX10_readThing_158 : decode cX10_readThing 158 = .ok (.ldc2_w 177, 3) := by decide +kernel
theorem dX10_readThing_161 : decode cX10_readThing 161 = .ok (.ldc2_w 190, 3) := by decide +kernel
theorem dX10_readThing_164 : decode cX10_readThing 164 = .ok (.invokestatic 102, 3) := by decide +kernel
theorem dX10_readThing_167 : decode cX10_readThing 167 = .ok (.ifCond .ne 7, 3) := by decide +kernel
theorem dX10_readThing_170 : decode cX10_readThing 170 = .ok (.iconst 1, 1) := by decide +kernel
theorem dX10_readThing_171 : decode cX10_readThing 171 = .ok (.goto 4, 3) := by decide +kernel
theorem dX10_readThing_174 : decode cX10_readThing 174 = .ok (.iconst 0, 1) := by decide +kernel
theorem dX10_readThing_175 : decode cX10_readThing 175 = .ok (.putfield 169, 3) := by decide +kernel
theorem dX10_readThing_178 : decode cX10_readThing 178 = .ok (.aload_n 0, 1) := by decide +kernel
theorem dX10_readThing_179 : decode cX10_readThing 179 = .ok (.getfield 58, 3) := by decide +kernel
theorem dX10_readThing_182 : decode cX10_readThing 182 = .ok (.iconst 3, 1) := by decide +kernel
theorem dX10_readThing_183 : decode cX10_readThing 183 = .ok (.aload_n 0, 1) := by decide +kernel
theorem dX10_readThing_184 : decode cX10_readThing 184 = .ok (.getfield 181, 3) := by decide +kernel
theorem dX10_readThing_187 : decode cX10_readThing 187 = .ok (.imul, 1) := by decide +kernel
theorem dX10_readThing_188 : decode cX10_readThing 188 = .ok (.iconst 2, 1) := by decide +kernel
theorem dX10_readThing_189 : decode cX10_readThing 189 = .ok (.iadd, 1) := by decide +kernel
theorem dX10_readThing_190 : decode cX10_readThing 190 = .ok (.aload_n 0, 1) := by decide +kernel
theorem dX10_readThing_191 : decode cX10_readThing 191 = .ok (.invokevirtual 173, 3) := by decide +kernel
theorem dX10_readThing_194 : decode cX10_readThing 194 = .ok (.bipush 48, 2) := by decide +kernel
theorem dX10_readThing_196 : decode cX10_readThing 196 = .ok (.isub, 1) := by decide +kernel
theorem dX10_readThing_197 : decode cX10_readThing 197 = .ok (.iastore, 1) := by decide +kernel
theorem dX10_readThing_198 : decode cX10_readThing 198 = .ok (.aload_n 0, 1) := by decide +kernel
theorem dX10_readThing_199 : decode cX10_readThing 199 = .ok (.dup, 1) := by decide +kernel
theorem dX10_readThing_200 : decode cX10_readThing 200 = .ok (.getfield 166, 3) := by decide +kernel
theorem dX10_readThing_203 : decode cX10_readThing 203 = .ok (.aload_n 0, 1) := by decide +kernel
theorem dX10_readThing_204 : decode cX10_readThing 204 = .ok (.getfield 169, 3) := by decide +kernel
theorem dX10_readThing_207 : decode cX10_readThing 207 = .ok (.ifCond .eq 7, 3) := by decide +kernel
theorem dX10_readThing_210 : decode cX10_readThing 210 = .ok (.iconst 0, 1) := by decide +kernel
theorem dX10_readThing_211 : decode cX10_readThing 211 = .ok (.goto 4, 3) := by decide +kernel
theorem dX10_readThing_214 : decode cX10_readThing 214 = .ok (.iconst 1, 1) := by decide +kernel
theorem dX10_readThing_215 : decode cX10_readThing 215 = .ok (.iadd, 1) := by decide +kernel
theorem dX10_readThing_216 : decode cX10_readThing 216 = .ok (.putfield 166, 3) := by decide +kernel
theorem dX10_readThing_219 : decode cX10_readThing 219 = .ok (.aload_n 0, 1) := by decide +kernel
theorem dX10_readThing_220 : decode cX10_readThing 220 = .ok (.dup, 1) := by decide +kernel
theorem dX10_readThing_221 : decode cX10_readThing 221 = .ok (.getfield 181, 3) := by decide +kernel
theorem dX10_readThing_224 : decode cX10_readThing 224 = .ok (.iconst 1, 1) := by decide +kernel
theorem dX10_readThing_225 : decode cX10_readThing 225 = .ok (.iadd, 1) := by decide +kernel
theorem dX10_readThing_226 : decode cX10_readThing 226 = .ok (.putfield 181, 3) := by decide +kernel
theorem dX10_readThing_229 : decode cX10_readThing 229 = .ok (.return_, 1) := by decide +kernel
theorem dX10_market_0 : decode cX10_market 0 = .ok (.aload_n 0, 1) := by decide +kernel
theorem dX10_market_1 : decode cX10_market 1 = .ok (.iconst 0, 1) := by decide +kernel
theorem dX10_market_2 : decode cX10_market 2 = .ok (.putfield 166, 3) := by decide +kernel
theorem dX10_market_5 : decode cX10_market 5 = .ok (.aload_n 0, 1) := by decide +kernel
theorem dX10_market_6 : decode cX10_market 6 = .ok (.iconst 0, 1) := by decide +kernel
theorem dX10_market_7 : decode cX10_market 7 = .ok (.putfield 169, 3) := by decide +kernel
theorem dX10_market_10 : decode cX10_market 10 = .ok (.aload_n 0, 1) := by decide +kernel
theorem dX10_market_11 : decode cX10_market 11 = .ok (.iconst 0, 1) := by decide +kernel
theorem dX10_market_12 : decode cX10_market 12 = .ok (.putfield 181, 3) := by decide +kernel
theorem dX10_market_15 : decode cX10_market 15 = .ok (.aload_n 0, 1) := by decide +kernel
theorem dX10_market_16 : decode cX10_market 16 = .ok (.iconst 0, 1) := by decide +kernel
theorem dX10_market_17 : decode cX10_market 17 = .ok (.putfield 192, 3) := by decide +kernel
theorem dX10_market_20 : decode cX10_market 20 = .ok (.iconst 1, 1) := by decide +kernel
theorem dX10_market_21 : decode cX10_market 21 = .ok (.istore_n 1, 1) := by decide +kernel
theorem dX10_market_22 : decode cX10_market 22 = .ok (.iload_n 1, 1) := by decide +kernel
theorem dX10_market_23 : decode cX10_market 23 = .ok (.ifCond .eq 34, 3) := by decide +kernel
theorem dX10_market_26 : decode cX10_market 26 = .ok (.aload_n 0, 1) := by decide +kernel
theorem dX10_market_27 : decode cX10_market 27 = .ok (.invokevirtual 195, 3) := by decide +kernel
theorem dX10_market_30 : decode cX10_market 30 = .ok (.aload_n 0, 1) := by decide +kernel
theorem dX10_market_31 : decode cX10_market 31 = .ok (.getfield 181, 3) := by decide +kernel
theorem dX10_market_34 : decode cX10_market 34 = .ok (.bipush 10, 2) := by decide +kernel
theorem dX10_market_36 : decode cX10_market 36 = .ok (.if_icmp .ge 16, 3) := by decide +kernel
theorem dX10_market_39 : decode cX10_market 39 = .ok (.aload_n 0, 1) := by decide +kernel
theorem dX10_market_40 : decode cX10_market 40 = .ok (.bipush 44, 2) := by decide +kernel
theorem dX10_market_42 : decode cX10_market 42 = .ok (.invokevirtual 187, 3) := by decide +kernel
theorem dX10_market_45 : decode cX10_market 45 = .ok (.ifCond .eq 7, 3) := by decide +kernel
theorem dX10_market_48 : decode cX10_market 48 = .ok (.iconst 1, 1) := by decide +kernel
theorem dX10_market_49 : decode cX10_market 49 = .ok (.goto 4, 3) := by decide +kernel
theorem dX10_market_52 : decode cX10_market 52 = .ok (.iconst 0, 1) := by decide +kernel
theorem dX10_market_53 : decode cX10_market 53 = .ok (.istore_n 1, 1) := by decide +kernel
theorem dX10_market_54 : decode cX10_market 54 = .ok (.goto (-32), 3) := by decide +kernel
theorem dX10_market_57 : decode cX10_market 57 = .ok (.aload_n 0, 1) := by decide +kernel
theorem dX10_market_58 : decode cX10_market 58 = .ok (.bipush 59, 2) := by decide +kernel
theorem dX10_market_60 : decode cX10_market 60 = .ok (.invokevirtual 187, 3) := by decide +kernel
theorem dX10_market_63 : decode cX10_market 63 = .ok (.istore_n 1, 1) := by decide +kernel
theorem dX10_market_64 : decode cX10_market 64 = .ok (.iload_n 1, 1) := by decide +kernel
theorem dX10_market_65 : decode cX10_market 65 = .ok (.ifCond .eq 81, 3) := by decide +kernel
theorem dX10_market_68 : decode cX10_market 68 = .ok (.aload_n 0, 1) := by decide +kernel
theorem dX10_market_69 : decode cX10_market 69 = .ok (.getfield 61, 3) := by decide +kernel
theorem dX10_market_72 : decode cX10_market 72 = .ok (.iconst 2, 1) := by decide +kernel
theorem dX10_market_73 : decode cX10_market 73 = .ok (.aload_n 0, 1) := by decide +kernel
theorem dX10_market_74 : decode cX10_market 74 = .ok (.getfield 192, 3) := by decide +kernel
theorem dX10_market_77 : decode cX10_market 77 = .ok (.imul, 1) := by decide +kernel
theorem dX10_market_78 : decode cX10_market 78 = .ok (.aload_n 0, 1) := by decide +kernel
theorem dX10_market_79 : decode cX10_market 79 = .ok (.invokevirtual 184, 3) := by decide +kernel
theorem dX10_market_82 : decode cX10_market 82 = .ok (.iastore, 1) := by decide +kernel
theorem dX10_market_83 : decode cX10_market 83 = .ok (.aload_n 0, 1) := by decide +kernel
theorem dX10_market_84 : decode cX10_market 84 = .ok (.getfield 61, 3) := by decide +kernel
theorem dX10_market_87 : decode cX10_market 87 = .ok (.iconst 2, 1) := by decide +kernel
theorem dX10_market_88 : decode cX10_market 88 = .ok (.aload_n 0, 1) := by decide +kernel
theorem dX10_market_89 : decode cX10_market 89 = .ok (.getfield 192, 3) := by decide +kernel
theorem dX10_market_92 : decode cX10_market 92 = .ok (.imul, 1) := by decide +kernel
theorem dX10_market_93 : decode cX10_market 93 = .ok (.iconst 1, 1) := by decide +kernel
theorem dX10_market_94 : decode cX10_market 94 = .ok (.iadd, 1) := by decide +kernel
theorem dX10_market_95 : decode cX10_market 95 = .ok (.aload_n 0, 1) := by decide +kernel
theorem dX10_market_96 : decode cX10_market 96 = .ok (.bipush 117, 2) := by decide +kernel
theorem dX10_market_98 : decode cX10_market 98 = .ok (.invokevirtual 187, 3) := by decide +kernel
theorem dX10_market_101 : decode cX10_market 101 = .ok (.ifCond .eq 7, 3) := by decide +kernel
theorem dX10_market_104 : decode cX10_market 104 = .ok (.iconst 1, 1) := by decide +kernel
theorem dX10_market_105 : decode cX10_market 105 = .ok (.goto 4, 3) := by decide +kernel
theorem dX10_market_108 : decode cX10_market 108 = .ok (.iconst 0, 1) := by decide +kernel
theorem dX10_market_109 : decode cX10_market 109 = .ok (.iastore, 1) := by decide +kernel
theorem dX10_market_110 : decode cX10_market 110 = .ok (.aload_n 0, 1) := by decide +kernel
theorem dX10_market_111 : decode cX10_market 111 = .ok (.dup, 1) := by decide +kernel
theorem dX10_market_112 : decode cX10_market 112 = .ok (.getfield 192, 3) := by decide +kernel
theorem dX10_market_115 : decode cX10_market 115 = .ok (.iconst 1, 1) := by decide +kernel
theorem dX10_market_116 : decode cX10_market 116 = .ok (.iadd, 1) := by decide +kernel
theorem dX10_market_117 : decode cX10_market 117 = .ok (.putfield 192, 3) := by decide +kernel
theorem dX10_market_120 : decode cX10_market 120 = .ok (.aload_n 0, 1) := by decide +kernel
theorem dX10_market_121 : decode cX10_market 121 = .ok (.getfield 192, 3) := by decide +kernel
theorem dX10_market_124 : decode cX10_market 124 = .ok (.iconst 5, 1) := by decide +kernel
theorem dX10_market_125 : decode cX10_market 125 = .ok (.if_icmp .ge 16, 3) := by decide +kernel
theorem dX10_market_128 : decode cX10_market 128 = .ok (.aload_n 0, 1) := by decide +kernel
theorem dX10_market_129 : decode cX10_market 129 = .ok (.bipush 44, 2) := by decide +kernel
theorem dX10_market_131 : decode cX10_market 131 = .ok (.invokevirtual 187, 3) := by decide +kernel
theorem dX10_market_134 : decode cX10_market 134 = .ok (.ifCond .eq 7, 3) := by decide +kernel
theorem dX10_market_137 : decode cX10_market 137 = .ok (.iconst 1, 1) := by decide +kernel
theorem dX10_market_138 : decode cX10_market 138 = .ok (.goto 4, 3) := by decide +kernel
theorem dX10_market_141 : decode cX10_market 141 = .ok (.iconst 0, 1) := by decide +kernel
theorem dX10_market_142 : decode cX10_market 142 = .ok (.istore_n 1, 1) := by decide +kernel
theorem dX10_market_143 : decode cX10_market 143 = .ok (.goto (-79), 3) := by decide +kernel
theorem dX10_market_146 : decode cX10_market 146 = .ok (.aload_n 0, 1) := by decide +kernel
theorem dX10_market_147 : decode cX10_market 147 = .ok (.aload_n 0, 1) := by decide +kernel
theorem dX10_market_148 : decode cX10_market 148 = .ok (.getfield 169, 3) := by decide +kernel
theorem dX10_market_151 : decode cX10_market 151 = .ok (.ifCond .ne 10, 3) := by decide +kernel
theorem dX10_market_154 : decode cX10_market 154 = .ok (.aload_n 0, 1) := by decide +kernel
theorem dX10_market_155 : decode cX10_market 155 = .ok (.invokevirtual 173, 3) := by decide +kernel
theorem dX10_market_158 : decode cX10_market 158 = .ok (.ifCond .eq 7, 3) := by decide +kernel
theorem dX10_market_161 : decode cX10_market 161 = .ok (.iconst 1, 1) := by decide +kernel
theorem dX10_market_162 : decode cX10_market 162 = .ok (.goto 4, 3) := by decide +kernel
theorem dX10_market_165 : decode cX10_market 165 = .ok (.iconst 0, 1) := by decide +kernel
theorem dX10_market_166 : decode cX10_market 166 = .ok (.putfield 169, 3) := by decide +kernel
theorem dX10_market_169 : decode cX10_market 169 = .ok (.aload_n 0, 1) := by decide +kernel
theorem dX10_market_170 : decode cX10_market 170 = .ok (.iconst 0, 1) := by decide +kernel
theorem dX10_market_171 : decode cX10_market 171 = .ok (.putfield 163, 3) := by decide +kernel
theorem dX10_market_174 : decode cX10_market 174 = .ok (.aload_n 0, 1) := by decide +kernel
theorem dX10_market_175 : decode cX10_market 175 = .ok (.getfield 169, 3) := by decide +kernel
theorem dX10_market_178 : decode cX10_market 178 = .ok (.ifCond .eq 11, 3) := by decide +kernel
theorem dX10_market_181 : decode cX10_market 181 = .ok (.bipush (-20), 2) := by decide +kernel
theorem dX10_market_183 : decode cX10_market 183 = .ok (.aload_n 0, 1) := by decide +kernel
theorem dX10_market_184 : decode cX10_market 184 = .ok (.getfield 166, 3) := by decide +kernel
theorem dX10_market_187 : decode cX10_market 187 = .ok (.isub, 1) := by decide +kernel
theorem dX10_market_188 : decode cX10_market 188 = .ok (.ireturn, 1) := by decide +kernel
theorem dX10_market_189 : decode cX10_market 189 = .ok (.aload_n 0, 1) := by decide +kernel
theorem dX10_market_190 : decode cX10_market 190 = .ok (.iconst 0, 1) := by decide +kernel
theorem dX10_market_191 : decode cX10_market 191 = .ok (.putfield 98, 3) := by decide +kernel
theorem dX10_market_194 : decode cX10_market 194 = .ok (.iconst 0, 1) := by decide +kernel
theorem dX10_market_195 : decode cX10_market 195 = .ok (.istore_n 2, 1) := by decide +kernel
theorem dX10_market_196 : decode cX10_market 196 = .ok (.iload_n 2, 1) := by decide +kernel
theorem dX10_market_197 : decode cX10_market 197 = .ok (.aload_n 0, 1) := by decide +kernel
theorem dX10_market_198 : decode cX10_market 198 = .ok (.getfield 181, 3) := by decide +kernel
theorem dX10_market_201 : decode cX10_market 201 = .ok (.if_icmp .ge 41, 3) := by decide +kernel
theorem dX10_market_204 : decode cX10_market 204 = .ok (.aload_n 0, 1) := by decide +kernel
theorem dX10_market_205 : decode cX10_market 205 = .ok (.aload_n 0, 1) := by decide +kernel
theorem dX10_market_206 : decode cX10_market 206 = .ok (.getfield 58, 3) := by decide +kernel
theorem dX10_market_209 : decode cX10_market 209 = .ok (.iconst 3, 1) := by decide +kernel
theorem dX10_market_210 : decode cX10_market 210 = .ok (.iload_n 2, 1) := by decide +kernel
theorem dX10_market_211 : decode cX10_market 211 = .ok (.imul, 1) := by decide +kernel
theorem dX10_market_212 : decode cX10_market 212 = .ok (.iaload, 1) := by decide +kernel
theorem dX10_market_213 : decode cX10_market 213 = .ok (.aload_n 0, 1) := by decide +kernel
theorem dX10_market_214 : decode cX10_market 214 = .ok (.getfield 58, 3) := by decide +kernel
theorem dX10_market_217 : decode cX10_market 217 = .ok (.iconst 3, 1) := by decide +kernel
theorem dX10_market_218 : decode cX10_market 218 = .ok (.iload_n 2, 1) := by decide +kernel
theorem dX10_market_219 : decode cX10_market 219 = .ok (.imul, 1) := by decide +kernel
theorem dX10_market_220 : decode cX10_market 220 = .ok (.iconst 1, 1) := by decide +kernel
theorem dX10_market_221 : decode cX10_market 221 = .ok (.iadd, 1) := by decide +kernel
theorem dX10_market_222 : decode cX10_market 222 = .ok (.iaload, 1) := by decide +kernel
theorem dX10_market_223 : decode cX10_market 223 = .ok (.aload_n 0, 1) := by decide +kernel
theorem dX10_market_224 : decode cX10_market 224 = .ok (.getfield 58, 3) := by decide +kernel
theorem dX10_market_227 : decode cX10_market 227 = .ok (.iconst 3, 1) := by decide +kernel
theorem dX10_market_228 : decode cX10_market 228 = .ok (.iload_n 2, 1) := by decide +kernel
theorem dX10_market_229 : decode cX10_market 229 = .ok (.imul, 1) := by decide +kernel
theorem dX10_market_230 : decode cX10_market 230 = .ok (.iconst 2, 1) := by decide +kernel
theorem dX10_market_231 : decode cX10_market 231 = .ok (.iadd, 1) := by decide +kernel
theorem dX10_market_232 : decode cX10_market 232 = .ok (.iaload, 1) := by decide +kernel
theorem dX10_market_233 : decode cX10_market 233 = .ok (.invokevirtual 115, 3) := by decide +kernel
theorem dX10_market_236 : decode cX10_market 236 = .ok (.iinc 2 1, 3) := by decide +kernel
theorem dX10_market_239 : decode cX10_market 239 = .ok (.goto (-43), 3) := by decide +kernel
theorem dX10_market_242 : decode cX10_market 242 = .ok (.aload_n 0, 1) := by decide +kernel
theorem dX10_market_243 : decode cX10_market 243 = .ok (.aload_n 0, 1) := by decide +kernel
theorem dX10_market_244 : decode cX10_market 244 = .ok (.getfield 192, 3) := by decide +kernel
theorem dX10_market_247 : decode cX10_market 247 = .ok (.putfield 106, 3) := by decide +kernel
theorem dX10_market_250 : decode cX10_market 250 = .ok (.iconst 0, 1) := by decide +kernel
theorem dX10_market_251 : decode cX10_market 251 = .ok (.istore_n 2, 1) := by decide +kernel
theorem dX10_market_252 : decode cX10_market 252 = .ok (.iload_n 2, 1) := by decide +kernel
theorem dX10_market_253 : decode cX10_market 253 = .ok (.aload_n 0, 1) := by decide +kernel
theorem dX10_market_254 : decode cX10_market 254 = .ok (.getfield 106, 3) := by decide +kernel
theorem dX10_market_257 : decode cX10_market 257 = .ok (.if_icmp .ge 39, 3) := by decide +kernel
theorem dX10_market_260 : decode cX10_market 260 = .ok (.aload_n 0, 1) := by decide +kernel
theorem dX10_market_261 : decode cX10_market 261 = .ok (.getfield 25, 3) := by decide +kernel
theorem dX10_market_264 : decode cX10_market 264 = .ok (.iload_n 2, 1) := by decide +kernel
theorem dX10_market_265 : decode cX10_market 265 = .ok (.aload_n 0, 1) := by decide +kernel
theorem dX10_market_266 : decode cX10_market 266 = .ok (.getfield 61, 3) := by decide +kernel
theorem dX10_market_269 : decode cX10_market 269 = .ok (.iconst 2, 1) := by decide +kernel
theorem dX10_market_270 : decode cX10_market 270 = .ok (.iload_n 2, 1) := by decide +kernel
theorem dX10_market_271 : decode cX10_market 271 = .ok (.imul, 1) := by decide +kernel
theorem dX10_market_272 : decode cX10_market 272 = .ok (.iaload, 1) := by decide +kernel
theorem dX10_market_273 : decode cX10_market 273 = .ok (.iastore, 1) := by decide +kernel
theorem dX10_market_274 : decode cX10_market 274 = .ok (.aload_n 0, 1) := by decide +kernel
theorem dX10_market_275 : decode cX10_market 275 = .ok (.getfield 28, 3) := by decide +kernel
theorem dX10_market_278 : decode cX10_market 278 = .ok (.iload_n 2, 1) := by decide +kernel
theorem dX10_market_279 : decode cX10_market 279 = .ok (.aload_n 0, 1) := by decide +kernel
theorem dX10_market_280 : decode cX10_market 280 = .ok (.getfield 61, 3) := by decide +kernel
theorem dX10_market_283 : decode cX10_market 283 = .ok (.iconst 2, 1) := by decide +kernel
theorem dX10_market_284 : decode cX10_market 284 = .ok (.iload_n 2, 1) := by decide +kernel
theorem dX10_market_285 : decode cX10_market 285 = .ok (.imul, 1) := by decide +kernel
theorem dX10_market_286 : decode cX10_market 286 = .ok (.iconst 1, 1) := by decide +kernel
theorem dX10_market_287 : decode cX10_market 287 = .ok (.iadd, 1) := by decide +kernel
theorem dX10_market_288 : decode cX10_market 288 = .ok (.iaload, 1) := by decide +kernel
theorem dX10_market_289 : decode cX10_market 289 = .ok (.iastore, 1) := by decide +kernel
theorem dX10_market_290 : decode cX10_market 290 = .ok (.iinc 2 1, 3) := by decide +kernel
theorem dX10_market_293 : decode cX10_market 293 = .ok (.goto (-41), 3) := by decide +kernel
theorem dX10_market_296 : decode cX10_market 296 = .ok (.aload_n 0, 1) := by decide +kernel
theorem dX10_market_297 : decode cX10_market 297 = .ok (.iconst 0, 1) := by decide +kernel
theorem dX10_market_298 : decode cX10_market 298 = .ok (.putfield 152, 3) := by decide +kernel
theorem dX10_market_301 : decode cX10_market 301 = .ok (.aload_n 0, 1) := by decide +kernel
theorem dX10_market_302 : decode cX10_market 302 = .ok (.iconst 0, 1) := by decide +kernel
theorem dX10_market_303 : decode cX10_market 303 = .ok (.putfield 119, 3) := by decide +kernel
theorem dX10_market_306 : decode cX10_market 306 = .ok (.aload_n 0, 1) := by decide +kernel
theorem dX10_market_307 : decode cX10_market 307 = .ok (.getfield 98, 3) := by decide +kernel
theorem dX10_market_310 : decode cX10_market 310 = .ok (.ireturn, 1) := by decide +kernel
theorem dX10_loadOf_0 : decode cX10_loadOf 0 = .ok (.aload_n 0, 1) := by decide +kernel
theorem dX10_loadOf_1 : decode cX10_loadOf 1 = .ok (.getfield 16, 3) := by decide +kernel
theorem dX10_loadOf_4 : decode cX10_loadOf 4 = .ok (.iload_n 1, 1) := by decide +kernel
theorem dX10_loadOf_5 : decode cX10_loadOf 5 = .ok (.iaload, 1) := by decide +kernel
theorem dX10_loadOf_6 : decode cX10_loadOf 6 = .ok (.iload_n 2, 1) := by decide +kernel
theorem dX10_loadOf_7 : decode cX10_loadOf 7 = .ok (.if_icmp .gt 5, 3) := by decide +kernel
theorem dX10_loadOf_10 : decode cX10_loadOf 10 = .ok (.iconst 0, 1) := by decide +kernel
theorem dX10_loadOf_11 : decode cX10_loadOf 11 = .ok (.ireturn, 1) := by decide +kernel
theorem dX10_loadOf_12 : decode cX10_loadOf 12 = .ok (.aload_n 0, 1) := by decide +kernel
theorem dX10_loadOf_13 : decode cX10_loadOf 13 = .ok (.getfield 7, 3) := by decide +kernel
theorem dX10_loadOf_16 : decode cX10_loadOf 16 = .ok (.iload_n 1, 1) := by decide +kernel
theorem dX10_loadOf_17 : decode cX10_loadOf 17 = .ok (.iaload, 1) := by decide +kernel
theorem dX10_loadOf_18 : decode cX10_loadOf 18 = .ok (.iconst 1, 1) := by decide +kernel
theorem dX10_loadOf_19 : decode cX10_loadOf 19 = .ok (.if_icmp .ne 7, 3) := by decide +kernel
theorem dX10_loadOf_22 : decode cX10_loadOf 22 = .ok (.iload_n 2, 1) := by decide +kernel
theorem dX10_loadOf_23 : decode cX10_loadOf 23 = .ok (.goto 20, 3) := by decide +kernel
theorem dX10_loadOf_26 : decode cX10_loadOf 26 = .ok (.aload_n 0, 1) := by decide +kernel
theorem dX10_loadOf_27 : decode cX10_loadOf 27 = .ok (.getfield 7, 3) := by decide +kernel
theorem dX10_loadOf_30 : decode cX10_loadOf 30 = .ok (.iload_n 1, 1) := by decide +kernel
theorem dX10_loadOf_31 : decode cX10_loadOf 31 = .ok (.iaload, 1) := by decide +kernel
theorem dX10_loadOf_32 : decode cX10_loadOf 32 = .ok (.iconst 3, 1) := by decide +kernel
theorem dX10_loadOf_33 : decode cX10_loadOf 33 = .ok (.if_icmp .ne 9, 3) := by decide +kernel
theorem dX10_loadOf_36 : decode cX10_loadOf 36 = .ok (.iconst 2, 1) := by decide +kernel
theorem dX10_loadOf_37 : decode cX10_loadOf 37 = .ok (.iload_n 2, 1) := by decide +kernel
theorem dX10_loadOf_38 : decode cX10_loadOf 38 = .ok (.imul, 1) := by decide +kernel
theorem dX10_loadOf_39 : decode cX10_loadOf 39 = .ok (.goto 4, 3) := by decide +kernel
theorem dX10_loadOf_42 : decode cX10_loadOf 42 = .ok (.iconst 0, 1) := by decide +kernel
theorem dX10_loadOf_43 : decode cX10_loadOf 43 = .ok (.istore_n 3, 1) := by decide +kernel
theorem dX10_loadOf_44 : decode cX10_loadOf 44 = .ok (.aload_n 0, 1) := by decide +kernel
theorem dX10_loadOf_45 : decode cX10_loadOf 45 = .ok (.getfield 13, 3) := by decide +kernel
theorem dX10_loadOf_48 : decode cX10_loadOf 48 = .ok (.iload_n 1, 1) := by decide +kernel
theorem dX10_loadOf_49 : decode cX10_loadOf 49 = .ok (.iaload, 1) := by decide +kernel
theorem dX10_loadOf_50 : decode cX10_loadOf 50 = .ok (.iload_n 3, 1) := by decide +kernel
theorem dX10_loadOf_51 : decode cX10_loadOf 51 = .ok (.if_icmp .le 14, 3) := by decide +kernel
theorem dX10_loadOf_54 : decode cX10_loadOf 54 = .ok (.aload_n 0, 1) := by decide +kernel
theorem dX10_loadOf_55 : decode cX10_loadOf 55 = .ok (.getfield 13, 3) := by decide +kernel
theorem dX10_loadOf_58 : decode cX10_loadOf 58 = .ok (.iload_n 1, 1) := by decide +kernel
theorem dX10_loadOf_59 : decode cX10_loadOf 59 = .ok (.iaload, 1) := by decide +kernel
theorem dX10_loadOf_60 : decode cX10_loadOf 60 = .ok (.iload_n 3, 1) := by decide +kernel
theorem dX10_loadOf_61 : decode cX10_loadOf 61 = .ok (.isub, 1) := by decide +kernel
theorem dX10_loadOf_62 : decode cX10_loadOf 62 = .ok (.goto 4, 3) := by decide +kernel
theorem dX10_loadOf_65 : decode cX10_loadOf 65 = .ok (.iconst 0, 1) := by decide +kernel
theorem dX10_loadOf_66 : decode cX10_loadOf 66 = .ok (.ireturn, 1) := by decide +kernel
theorem dX10_loads_0 : decode cX10_loads 0 = .ok (.iconst 0, 1) := by decide +kernel
theorem dX10_loads_1 : decode cX10_loads 1 = .ok (.istore 4, 2) := by decide +kernel
theorem dX10_loads_3 : decode cX10_loads 3 = .ok (.iconst 0, 1) := by decide +kernel
theorem dX10_loads_4 : decode cX10_loads 4 = .ok (.istore 5, 2) := by decide +kernel
theorem dX10_loads_6 : decode cX10_loads 6 = .ok (.iload 5, 2) := by decide +kernel
theorem dX10_loads_8 : decode cX10_loads 8 = .ok (.aload_n 0, 1) := by decide +kernel
theorem dX10_loads_9 : decode cX10_loads 9 = .ok (.getfield 98, 3) := by decide +kernel
theorem dX10_loads_12 : decode cX10_loads 12 = .ok (.if_icmp .ge 33, 3) := by decide +kernel
theorem dX10_loads_15 : decode cX10_loads 15 = .ok (.iload 4, 2) := by decide +kernel
theorem dX10_loads_17 : decode cX10_loads 17 = .ok (.aload_n 1, 1) := by decide +kernel
theorem dX10_loads_18 : decode cX10_loads 18 = .ok (.iload 5, 2) := by decide +kernel
theorem dX10_loads_20 : decode cX10_loads 20 = .ok (.iaload, 1) := by decide +kernel
theorem dX10_loads_21 : decode cX10_loads 21 = .ok (.iload_n 2, 1) := by decide +kernel
theorem dX10_loads_22 : decode cX10_loads 22 = .ok (.if_icmp .ne 13, 3) := by decide +kernel
theorem dX10_loads_25 : decode cX10_loads 25 = .ok (.aload_n 0, 1) := by decide +kernel
theorem dX10_loads_26 : decode cX10_loads 26 = .ok (.iload 5, 2) := by decide +kernel
theorem dX10_loads_28 : decode cX10_loads 28 = .ok (.iload_n 3, 1) := by decide +kernel
theorem dX10_loads_29 : decode cX10_loads 29 = .ok (.invokevirtual 198, 3) := by decide +kernel
theorem dX10_loads_32 : decode cX10_loads 32 = .ok (.goto 4, 3) := by decide +kernel
theorem dX10_loads_35 : decode cX10_loads 35 = .ok (.iconst 0, 1) := by decide +kernel
theorem dX10_loads_36 : decode cX10_loads 36 = .ok (.iadd, 1) := by decide +kernel
theorem dX10_loads_37 : decode cX10_loads 37 = .ok (.istore 4, 2) := by decide +kernel
theorem dX10_loads_39 : decode cX10_loads 39 = .ok (.iinc 5 1, 3) := by decide +kernel
theorem dX10_loads_42 : decode cX10_loads 42 = .ok (.goto (-36), 3) := by decide +kernel
theorem dX10_loads_45 : decode cX10_loads 45 = .ok (.iload 4, 2) := by decide +kernel
theorem dX10_loads_47 : decode cX10_loads 47 = .ok (.ireturn, 1) := by decide +kernel
theorem dX10_load_0 : decode cX10_load 0 = .ok (.iload_n 1, 1) := by decide +kernel
theorem dX10_load_1 : decode cX10_load 1 = .ok (.i2l, 1) := by decide +kernel
theorem dX10_load_2 : decode cX10_load 2 = .ok (.invokestatic 143, 3) := by decide +kernel
theorem dX10_load_5 : decode cX10_load 5 = .ok (.ifCond .eq 24, 3) := by decide +kernel
theorem dX10_load_8 : decode cX10_load 8 = .ok (.aload_n 0, 1) := by decide +kernel
theorem dX10_load_9 : decode cX10_load 9 = .ok (.iload_n 2, 1) := by decide +kernel
theorem dX10_load_10 : decode cX10_load 10 = .ok (.invokevirtual 140, 3) := by decide +kernel
theorem dX10_load_13 : decode cX10_load 13 = .ok (.ifCond .eq 16, 3) := by decide +kernel
theorem dX10_load_16 : decode cX10_load 16 = .ok (.aload_n 0, 1) := by decide +kernel
theorem dX10_load_17 : decode cX10_load 17 = .ok (.aload_n 0, 1) := by decide +kernel
theorem dX10_load_18 : decode cX10_load 18 = .ok (.getfield 22, 3) := by decide +kernel
theorem dX10_load_21 : decode cX10_load 21 = .ok (.iload_n 1, 1) := by decide +kernel
theorem dX10_load_22 : decode cX10_load 22 = .ok (.iload_n 2, 1) := by decide +kernel
theorem dX10_load_23 : decode cX10_load 23 = .ok (.invokevirtual 201, 3) := by decide +kernel
theorem dX10_load_26 : decode cX10_load 26 = .ok (.goto 4, 3) := by decide +kernel
theorem dX10_load_29 : decode cX10_load 29 = .ok (.iconst (-1), 1) := by decide +kernel
theorem dX10_load_30 : decode cX10_load 30 = .ok (.ireturn, 1) := by decide +kernel
theorem dX10_doHold_0 : decode cX10_doHold 0 = .ok (.iconst 1, 1) := by decide +kernel
theorem dX10_doHold_1 : decode cX10_doHold 1 = .ok (.istore_n 2, 1) := by decide +kernel
theorem dX10_doHold_2 : decode cX10_doHold 2 = .ok (.iconst 0, 1) := by decide +kernel
theorem dX10_doHold_3 : decode cX10_doHold 3 = .ok (.istore_n 3, 1) := by decide +kernel
theorem dX10_doHold_4 : decode cX10_doHold 4 = .ok (.iload_n 3, 1) := by decide +kernel
theorem dX10_doHold_5 : decode cX10_doHold 5 = .ok (.iconst 3, 1) := by decide +kernel
theorem dX10_doHold_6 : decode cX10_doHold 6 = .ok (.if_icmp .ge 54, 3) := by decide +kernel
theorem dX10_doHold_9 : decode cX10_doHold 9 = .ok (.iconst 0, 1) := by decide +kernel
theorem dX10_doHold_10 : decode cX10_doHold 10 = .ok (.istore 4, 2) := by decide +kernel
theorem dX10_doHold_12 : decode cX10_doHold 12 = .ok (.iload 4, 2) := by decide +kernel
theorem dX10_doHold_14 : decode cX10_doHold 14 = .ok (.aload_n 0, 1) := by decide +kernel
theorem dX10_doHold_15 : decode cX10_doHold 15 = .ok (.getfield 106, 3) := by decide +kernel
theorem dX10_doHold_18 : decode cX10_doHold 18 = .ok (.if_icmp .ge 36, 3) := by decide +kernel
theorem dX10_doHold_21 : decode cX10_doHold 21 = .ok (.iload_n 2, 1) := by decide +kernel
theorem dX10_doHold_22 : decode cX10_doHold 22 = .ok (.ifCond .eq 24, 3) := by decide +kernel
theorem dX10_doHold_25 : decode cX10_doHold 25 = .ok (.aload_n 0, 1) := by decide +kernel
theorem dX10_doHold_26 : decode cX10_doHold 26 = .ok (.aload_n 1, 1) := by decide +kernel
theorem dX10_doHold_27 : decode cX10_doHold 27 = .ok (.iload_n 3, 1) := by decide +kernel
theorem dX10_doHold_28 : decode cX10_doHold 28 = .ok (.iload 4, 2) := by decide +kernel
theorem dX10_doHold_30 : decode cX10_doHold 30 = .ok (.invokevirtual 201, 3) := by decide +kernel
theorem dX10_doHold_33 : decode cX10_doHold 33 = .ok (.aload_n 0, 1) := by decide +kernel
theorem dX10_doHold_34 : decode cX10_doHold 34 = .ok (.getfield 31, 3) := by decide +kernel
theorem dX10_doHold_37 : decode cX10_doHold 37 = .ok (.iload_n 3, 1) := by decide +kernel
theorem dX10_doHold_38 : decode cX10_doHold 38 = .ok (.iaload, 1) := by decide +kernel
theorem dX10_doHold_39 : decode cX10_doHold 39 = .ok (.if_icmp .gt 7, 3) := by decide +kernel
theorem dX10_doHold_42 : decode cX10_doHold 42 = .ok (.iconst 1, 1) := by decide +kernel
theorem dX10_doHold_43 : decode cX10_doHold 43 = .ok (.goto 4, 3) := by decide +kernel
theorem dX10_doHold_46 : decode cX10_doHold 46 = .ok (.iconst 0, 1) := by decide +kernel
theorem dX10_doHold_47 : decode cX10_doHold 47 = .ok (.istore_n 2, 1) := by decide +kernel
theorem dX10_doHold_48 : decode cX10_doHold 48 = .ok (.iinc 4 1, 3) := by decide +kernel
theorem dX10_doHold_51 : decode cX10_doHold 51 = .ok (.goto (-39), 3) := by decide +kernel
theorem dX10_doHold_54 : decode cX10_doHold 54 = .ok (.iinc 3 1, 3) := by decide +kernel
theorem dX10_doHold_57 : decode cX10_doHold 57 = .ok (.goto (-53), 3) := by decide +kernel
theorem dX10_doHold_60 : decode cX10_doHold 60 = .ok (.iload_n 2, 1) := by decide +kernel
theorem dX10_doHold_61 : decode cX10_doHold 61 = .ok (.ireturn, 1) := by decide +kernel
theorem dX10_areLaws_0 : decode cX10_areLaws 0 = .ok (.iconst 1, 1) := by decide +kernel
theorem dX10_areLaws_1 : decode cX10_areLaws 1 = .ok (.istore_n 2, 1) := by decide +kernel
theorem dX10_areLaws_2 : decode cX10_areLaws 2 = .ok (.iconst 0, 1) := by decide +kernel
theorem dX10_areLaws_3 : decode cX10_areLaws 3 = .ok (.istore_n 3, 1) := by decide +kernel
theorem dX10_areLaws_4 : decode cX10_areLaws 4 = .ok (.iload_n 3, 1) := by decide +kernel
theorem dX10_areLaws_5 : decode cX10_areLaws 5 = .ok (.aload_n 0, 1) := by decide +kernel
theorem dX10_areLaws_6 : decode cX10_areLaws 6 = .ok (.getfield 152, 3) := by decide +kernel
theorem dX10_areLaws_9 : decode cX10_areLaws 9 = .ok (.if_icmp .ge 61, 3) := by decide +kernel
theorem dX10_areLaws_12 : decode cX10_areLaws 12 = .ok (.iload_n 2, 1) := by decide +kernel
theorem dX10_areLaws_13 : decode cX10_areLaws 13 = .ok (.ifCond .eq 49, 3) := by decide +kernel
theorem dX10_areLaws_16 : decode cX10_areLaws 16 = .ok (.aload_n 1, 1) := by decide +kernel
theorem dX10_areLaws_17 : decode cX10_areLaws 17 = .ok (.aload_n 0, 1) := by decide +kernel
theorem dX10_areLaws_18 : decode cX10_areLaws 18 = .ok (.getfield 40, 3) := by decide +kernel
theorem dX10_areLaws_21 : decode cX10_areLaws 21 = .ok (.iload_n 3, 1) := by decide +kernel
theorem dX10_areLaws_22 : decode cX10_areLaws 22 = .ok (.iaload, 1) := by decide +kernel
theorem dX10_areLaws_23 : decode cX10_areLaws 23 = .ok (.iaload, 1) := by decide +kernel
theorem dX10_areLaws_24 : decode cX10_areLaws 24 = .ok (.aload_n 1, 1) := by decide +kernel
theorem dX10_areLaws_25 : decode cX10_areLaws 25 = .ok (.aload_n 0, 1) := by decide +kernel
theorem dX10_areLaws_26 : decode cX10_areLaws 26 = .ok (.getfield 43, 3) := by decide +kernel
theorem dX10_areLaws_29 : decode cX10_areLaws 29 = .ok (.iload_n 3, 1) := by decide +kernel
theorem dX10_areLaws_30 : decode cX10_areLaws 30 = .ok (.iaload, 1) := by decide +kernel
theorem dX10_areLaws_31 : decode cX10_areLaws 31 = .ok (.iaload, 1) := by decide +kernel
theorem dX10_areLaws_32 : decode cX10_areLaws 32 = .ok (.if_icmp .ne 7, 3) := by decide +kernel
theorem dX10_areLaws_35 : decode cX10_areLaws 35 = .ok (.iconst 1, 1) := by decide +kernel
theorem dX10_areLaws_36 : decode cX10_areLaws 36 = .ok (.goto 4, 3) := by decide +kernel
theorem dX10_areLaws_39 : decode cX10_areLaws 39 = .ok (.iconst 0, 1) := by decide +kernel
theorem dX10_areLaws_40 : decode cX10_areLaws 40 = .ok (.aload_n 0, 1) := by decide +kernel
theorem dX10_areLaws_41 : decode cX10_areLaws 41 = .ok (.getfield 46, 3) := by decide +kernel
theorem dX10_areLaws_44 : decode cX10_areLaws 44 = .ok (.iload_n 3, 1) := by decide +kernel
theorem dX10_areLaws_45 : decode cX10_areLaws 45 = .ok (.iaload, 1) := by decide +kernel
theorem dX10_areLaws_46 : decode cX10_areLaws 46 = .ok (.iconst 1, 1) := by decide +kernel
theorem dX10_areLaws_47 : decode cX10_areLaws 47 = .ok (.if_icmp .ne 7, 3) := by decide +kernel
theorem dX10_areLaws_50 : decode cX10_areLaws 50 = .ok (.iconst 1, 1) := by decide +kernel
theorem dX10_areLaws_51 : decode cX10_areLaws 51 = .ok (.goto 4, 3) := by decide +kernel
theorem dX10_areLaws_54 : decode cX10_areLaws 54 = .ok (.iconst 0, 1) := by decide +kernel
theorem dX10_areLaws_55 : decode cX10_areLaws 55 = .ok (.if_icmp .ne 7, 3) := by decide +kernel
theorem dX10_areLaws_58 : decode cX10_areLaws 58 = .ok (.iconst 1, 1) := by decide +kernel
theorem dX10_areLaws_59 : decode cX10_areLaws 59 = .ok (.goto 4, 3) := by decide +kernel
theorem dX10_areLaws_62 : decode cX10_areLaws 62 = .ok (.iconst 0, 1) := by decide +kernel
theorem dX10_areLaws_63 : decode cX10_areLaws 63 = .ok (.istore_n 2, 1) := by decide +kernel
theorem dX10_areLaws_64 : decode cX10_areLaws 64 = .ok (.iinc 3 1, 3) := by decide +kernel
theorem dX10_areLaws_67 : decode cX10_areLaws 67 = .ok (.goto (-63), 3) := by decide +kernel
theorem dX10_areLaws_70 : decode cX10_areLaws 70 = .ok (.iload_n 2, 1) := by decide +kernel
theorem dX10_areLaws_71 : decode cX10_areLaws 71 = .ok (.ireturn, 1) := by decide +kernel
theorem dX10_areSoft_0 : decode cX10_areSoft 0 = .ok (.iconst 1, 1) := by decide +kernel
theorem dX10_areSoft_1 : decode cX10_areSoft 1 = .ok (.istore_n 2, 1) := by decide +kernel
theorem dX10_areSoft_2 : decode cX10_areSoft 2 = .ok (.iconst 0, 1) := by decide +kernel
theorem dX10_areSoft_3 : decode cX10_areSoft 3 = .ok (.istore_n 3, 1) := by decide +kernel
theorem dX10_areSoft_4 : decode cX10_areSoft 4 = .ok (.iload_n 3, 1) := by decide +kernel
theorem dX10_areSoft_5 : decode cX10_areSoft 5 = .ok (.aload_n 0, 1) := by decide +kernel
theorem dX10_areSoft_6 : decode cX10_areSoft 6 = .ok (.getfield 98, 3) := by decide +kernel
theorem dX10_areSoft_9 : decode cX10_areSoft 9 = .ok (.if_icmp .ge 73, 3) := by decide +kernel
theorem dX10_areSoft_12 : decode cX10_areSoft 12 = .ok (.iconst 0, 1) := by decide +kernel
theorem dX10_areSoft_13 : decode cX10_areSoft 13 = .ok (.istore 4, 2) := by decide +kernel
theorem dX10_areSoft_15 : decode cX10_areSoft 15 = .ok (.iload 4, 2) := by decide +kernel
theorem dX10_areSoft_17 : decode cX10_areSoft 17 = .ok (.aload_n 0, 1) := by decide +kernel
theorem dX10_areSoft_18 : decode cX10_areSoft 18 = .ok (.getfield 98, 3) := by decide +kernel
theorem dX10_areSoft_21 : decode cX10_areSoft 21 = .ok (.if_icmp .ge 55, 3) := by decide +kernel
theorem dX10_areSoft_24 : decode cX10_areSoft 24 = .ok (.aload_n 0, 1) := by decide +kernel
theorem dX10_areSoft_25 : decode cX10_areSoft 25 = .ok (.getfield 7, 3) := by decide +kernel
theorem dX10_areSoft_28 : decode cX10_areSoft 28 = .ok (.iload_n 3, 1) := by decide +kernel
theorem dX10_areSoft_29 : decode cX10_areSoft 29 = .ok (.iaload, 1) := by decide +kernel
theorem dX10_areSoft_30 : decode cX10_areSoft 30 = .ok (.iconst 2, 1) := by decide +kernel
theorem dX10_areSoft_31 : decode cX10_areSoft 31 = .ok (.if_icmp .ne 45, 3) := by decide +kernel
theorem dX10_areSoft_34 : decode cX10_areSoft 34 = .ok (.iload_n 2, 1) := by decide +kernel
theorem dX10_areSoft_35 : decode cX10_areSoft 35 = .ok (.ifCond .eq 33, 3) := by decide +kernel
theorem dX10_areSoft_38 : decode cX10_areSoft 38 = .ok (.aload_n 1, 1) := by decide +kernel
theorem dX10_areSoft_39 : decode cX10_areSoft 39 = .ok (.iload_n 3, 1) := by decide +kernel
theorem dX10_areSoft_40 : decode cX10_areSoft 40 = .ok (.iaload, 1) := by decide +kernel
theorem dX10_areSoft_41 : decode cX10_areSoft 41 = .ok (.aload_n 1, 1) := by decide +kernel
theorem dX10_areSoft_42 : decode cX10_areSoft 42 = .ok (.iload 4, 2) := by decide +kernel
theorem dX10_areSoft_44 : decode cX10_areSoft 44 = .ok (.iaload, 1) := by decide +kernel
theorem dX10_areSoft_45 : decode cX10_areSoft 45 = .ok (.if_icmp .ne 19, 3) := by decide +kernel
theorem dX10_areSoft_48 : decode cX10_areSoft 48 = .ok (.aload_n 0, 1) := by decide +kernel
theorem dX10_areSoft_49 : decode cX10_areSoft 49 = .ok (.getfield 13, 3) := by decide +kernel
theorem dX10_areSoft_52 : decode cX10_areSoft 52 = .ok (.iload 4, 2) := by decide +kernel
theorem dX10_areSoft_54 : decode cX10_areSoft 54 = .ok (.iaload, 1) := by decide +kernel
theorem dX10_areSoft_55 : decode cX10_areSoft 55 = .ok (.aload_n 0, 1) := by decide +kernel
theorem dX10_areSoft_56 : decode cX10_areSoft 56 = .ok (.getfield 13, 3) := by decide +kernel
theorem dX10_areSoft_59 : decode cX10_areSoft 59 = .ok (.iload_n 3, 1) := by decide +kernel
theorem dX10_areSoft_60 : decode cX10_areSoft 60 = .ok (.iaload, 1) := by decide +kernel
theorem dX10_areSoft_61 : decode cX10_areSoft 61 = .ok (.if_icmp .gt 7, 3) := by decide +kernel
theorem dX10_areSoft_64 : decode cX10_areSoft 64 = .ok (.iconst 1, 1) := by decide +kernel
theorem dX10_areSoft_65 : decode cX10_areSoft 65 = .ok (.goto 4, 3) := by decide +kernel
theorem dX10_areSoft_68 : decode cX10_areSoft 68 = .ok (.iconst 0, 1) := by decide +kernel
theorem dX10_areSoft_69 : decode cX10_areSoft 69 = .ok (.istore_n 2, 1) := by decide +kernel
theorem dX10_areSoft_70 : decode cX10_areSoft 70 = .ok (.iinc 4 1, 3) := by decide +kernel
theorem dX10_areSoft_73 : decode cX10_areSoft 73 = .ok (.goto (-58), 3) := by decide +kernel
theorem dX10_areSoft_76 : decode cX10_areSoft 76 = .ok (.iinc 3 1, 3) := by decide +kernel
theorem dX10_areSoft_79 : decode cX10_areSoft 79 = .ok (.goto (-75), 3) := by decide +kernel
theorem dX10_areSoft_82 : decode cX10_areSoft 82 = .ok (.iload_n 2, 1) := by decide +kernel
theorem dX10_areSoft_83 : decode cX10_areSoft 83 = .ok (.ireturn, 1) := by decide +kernel
theorem dX10_whyNot_0 : decode cX10_whyNot 0 = .ok (.aload_n 0, 1) := by decide +kernel
theorem dX10_whyNot_1 : decode cX10_whyNot 1 = .ok (.aload_n 1, 1) := by decide +kernel
theorem dX10_whyNot_2 : decode cX10_whyNot 2 = .ok (.invokevirtual 205, 3) := by decide +kernel
theorem dX10_whyNot_5 : decode cX10_whyNot 5 = .ok (.ifCond .ne 7, 3) := by decide +kernel
theorem dX10_whyNot_8 : decode cX10_whyNot 8 = .ok (.iconst 1, 1) := by decide +kernel
theorem dX10_whyNot_9 : decode cX10_whyNot 9 = .ok (.goto 28, 3) := by decide +kernel
theorem dX10_whyNot_12 : decode cX10_whyNot 12 = .ok (.aload_n 0, 1) := by decide +kernel
theorem dX10_whyNot_13 : decode cX10_whyNot 13 = .ok (.aload_n 1, 1) := by decide +kernel
theorem dX10_whyNot_14 : decode cX10_whyNot 14 = .ok (.invokevirtual 209, 3) := by decide +kernel
theorem dX10_whyNot_17 : decode cX10_whyNot 17 = .ok (.ifCond .ne 7, 3) := by decide +kernel
theorem dX10_whyNot_20 : decode cX10_whyNot 20 = .ok (.iconst 2, 1) := by decide +kernel
theorem dX10_whyNot_21 : decode cX10_whyNot 21 = .ok (.goto 16, 3) := by decide +kernel
theorem dX10_whyNot_24 : decode cX10_whyNot 24 = .ok (.aload_n 0, 1) := by decide +kernel
theorem dX10_whyNot_25 : decode cX10_whyNot 25 = .ok (.aload_n 1, 1) := by decide +kernel
theorem dX10_whyNot_26 : decode cX10_whyNot 26 = .ok (.invokevirtual 212, 3) := by decide +kernel
theorem dX10_whyNot_29 : decode cX10_whyNot 29 = .ok (.ifCond .ne 7, 3) := by decide +kernel
theorem dX10_whyNot_32 : decode cX10_whyNot 32 = .ok (.iconst 3, 1) := by decide +kernel
theorem dX10_whyNot_33 : decode cX10_whyNot 33 = .ok (.goto 4, 3) := by decide +kernel
theorem dX10_whyNot_36 : decode cX10_whyNot 36 = .ok (.iconst 0, 1) := by decide +kernel
theorem dX10_whyNot_37 : decode cX10_whyNot 37 = .ok (.ireturn, 1) := by decide +kernel
theorem dX10_isLawful_0 : decode cX10_isLawful 0 = .ok (.aload_n 0, 1) := by decide +kernel
theorem dX10_isLawful_1 : decode cX10_isLawful 1 = .ok (.aload_n 1, 1) := by decide +kernel
theorem dX10_isLawful_2 : decode cX10_isLawful 2 = .ok (.invokevirtual 209, 3) := by decide +kernel
theorem dX10_isLawful_5 : decode cX10_isLawful 5 = .ok (.ifCond .eq 23, 3) := by decide +kernel
theorem dX10_isLawful_8 : decode cX10_isLawful 8 = .ok (.aload_n 0, 1) := by decide +kernel
theorem dX10_isLawful_9 : decode cX10_isLawful 9 = .ok (.aload_n 1, 1) := by decide +kernel
theorem dX10_isLawful_10 : decode cX10_isLawful 10 = .ok (.invokevirtual 212, 3) := by decide +kernel
theorem dX10_isLawful_13 : decode cX10_isLawful 13 = .ok (.ifCond .eq 15, 3) := by decide +kernel
theorem dX10_isLawful_16 : decode cX10_isLawful 16 = .ok (.aload_n 0, 1) := by decide +kernel
theorem dX10_isLawful_17 : decode cX10_isLawful 17 = .ok (.aload_n 1, 1) := by decide +kernel
theorem dX10_isLawful_18 : decode cX10_isLawful 18 = .ok (.invokevirtual 205, 3) := by decide +kernel
theorem dX10_isLawful_21 : decode cX10_isLawful 21 = .ok (.ifCond .eq 7, 3) := by decide +kernel
theorem dX10_isLawful_24 : decode cX10_isLawful 24 = .ok (.iconst 1, 1) := by decide +kernel
theorem dX10_isLawful_25 : decode cX10_isLawful 25 = .ok (.goto 4, 3) := by decide +kernel
theorem dX10_isLawful_28 : decode cX10_isLawful 28 = .ok (.iconst 0, 1) := by decide +kernel
theorem dX10_isLawful_29 : decode cX10_isLawful 29 = .ok (.ireturn, 1) := by decide +kernel
theorem dX10_lawful_0 : decode cX10_lawful 0 = .ok (.aload_n 0, 1) := by decide +kernel
theorem dX10_lawful_1 : decode cX10_lawful 1 = .ok (.aload_n 0, 1) := by decide +kernel
theorem dX10_lawful_2 : decode cX10_lawful 2 = .ok (.getfield 22, 3) := by decide +kernel
theorem dX10_lawful_5 : decode cX10_lawful 5 = .ok (.invokevirtual 215, 3) := by decide +kernel
theorem dX10_lawful_8 : decode cX10_lawful 8 = .ok (.ireturn, 1) := by decide +kernel
theorem dX10_offOf_0 : decode cX10_offOf 0 = .ok (.aload_n 0, 1) := by decide +kernel
theorem dX10_offOf_1 : decode cX10_offOf 1 = .ok (.aload_n 1, 1) := by decide +kernel
theorem dX10_offOf_2 : decode cX10_offOf 2 = .ok (.iconst 0, 1) := by decide +kernel
theorem dX10_offOf_3 : decode cX10_offOf 3 = .ok (.iload_n 2, 1) := by decide +kernel
theorem dX10_offOf_4 : decode cX10_offOf 4 = .ok (.invokevirtual 201, 3) := by decide +kernel
theorem dX10_offOf_7 : decode cX10_offOf 7 = .ok (.aload_n 0, 1) := by decide +kernel
theorem dX10_offOf_8 : decode cX10_offOf 8 = .ok (.getfield 37, 3) := by decide +kernel
theorem dX10_offOf_11 : decode cX10_offOf 11 = .ok (.iconst 1, 1) := by decide +kernel
theorem dX10_offOf_12 : decode cX10_offOf 12 = .ok (.iaload, 1) := by decide +kernel
theorem dX10_offOf_13 : decode cX10_offOf 13 = .ok (.imul, 1) := by decide +kernel
theorem dX10_offOf_14 : decode cX10_offOf 14 = .ok (.aload_n 0, 1) := by decide +kernel
theorem dX10_offOf_15 : decode cX10_offOf 15 = .ok (.aload_n 1, 1) := by decide +kernel
theorem dX10_offOf_16 : decode cX10_offOf 16 = .ok (.iconst 1, 1) := by decide +kernel
theorem dX10_offOf_17 : decode cX10_offOf 17 = .ok (.iload_n 2, 1) := by decide +kernel
theorem dX10_offOf_18 : decode cX10_offOf 18 = .ok (.invokevirtual 201, 3) := by decide +kernel
theorem dX10_offOf_21 : decode cX10_offOf 21 = .ok (.aload_n 0, 1) := by decide +kernel
theorem dX10_offOf_22 : decode cX10_offOf 22 = .ok (.getfield 37, 3) := by decide +kernel
theorem dX10_offOf_25 : decode cX10_offOf 25 = .ok (.iconst 0, 1) := by decide +kernel
theorem dX10_offOf_26 : decode cX10_offOf 26 = .ok (.iaload, 1) := by decide +kernel
theorem dX10_offOf_27 : decode cX10_offOf 27 = .ok (.imul, 1) := by decide +kernel
theorem dX10_offOf_28 : decode cX10_offOf 28 = .ok (.isub, 1) := by decide +kernel
theorem dX10_offOf_29 : decode cX10_offOf 29 = .ok (.ireturn, 1) := by decide +kernel
theorem dX10_plain_0 : decode cX10_plain 0 = .ok (.iload_n 1, 1) := by decide +kernel
theorem dX10_plain_1 : decode cX10_plain 1 = .ok (.ifCond .ge 8, 3) := by decide +kernel
theorem dX10_plain_4 : decode cX10_plain 4 = .ok (.iload_n 1, 1) := by decide +kernel
theorem dX10_plain_5 : decode cX10_plain 5 = .ok (.ineg, 1) := by decide +kernel
theorem dX10_plain_6 : decode cX10_plain 6 = .ok (.goto 4, 3) := by decide +kernel
theorem dX10_plain_9 : decode cX10_plain 9 = .ok (.iload_n 1, 1) := by decide +kernel
theorem dX10_plain_10 : decode cX10_plain 10 = .ok (.ireturn, 1) := by decide +kernel
theorem dX10_pull_0 : decode cX10_pull 0 = .ok (.aload_n 0, 1) := by decide +kernel
theorem dX10_pull_1 : decode cX10_pull 1 = .ok (.iload_n 1, 1) := by decide +kernel
theorem dX10_pull_2 : decode cX10_pull 2 = .ok (.invokevirtual 140, 3) := by decide +kernel
theorem dX10_pull_5 : decode cX10_pull 5 = .ok (.ifCond .eq 15, 3) := by decide +kernel
theorem dX10_pull_8 : decode cX10_pull 8 = .ok (.aload_n 0, 1) := by decide +kernel
theorem dX10_pull_9 : decode cX10_pull 9 = .ok (.aload_n 0, 1) := by decide +kernel
theorem dX10_pull_10 : decode cX10_pull 10 = .ok (.getfield 22, 3) := by decide +kernel
theorem dX10_pull_13 : decode cX10_pull 13 = .ok (.iload_n 1, 1) := by decide +kernel
theorem dX10_pull_14 : decode cX10_pull 14 = .ok (.invokevirtual 219, 3) := by decide +kernel
theorem dX10_pull_17 : decode cX10_pull 17 = .ok (.goto 5, 3) := by decide +kernel
theorem dX10_pull_20 : decode cX10_pull 20 = .ok (.ldc 223, 2) := by decide +kernel
theorem dX10_pull_22 : decode cX10_pull 22 = .ok (.ireturn, 1) := by decide +kernel
theorem dX10_unevens_0 : decode cX10_unevens 0 = .ok (.aload_n 0, 1) := by decide +kernel
theorem dX10_unevens_1 : decode cX10_unevens 1 = .ok (.iconst 0, 1) := by decide +kernel
theorem dX10_unevens_2 : decode cX10_unevens 2 = .ok (.putfield 224, 3) := by decide +kernel
theorem dX10_unevens_5 : decode cX10_unevens 5 = .ok (.aload_n 0, 1) := by decide +kernel
theorem dX10_unevens_6 : decode cX10_unevens 6 = .ok (.iconst 0, 1) := by decide +kernel
theorem dX10_unevens_7 : decode cX10_unevens 7 = .ok (.putfield 227, 3) := by decide +kernel
theorem dX10_unevens_10 : decode cX10_unevens 10 = .ok (.iconst 0, 1) := by decide +kernel
theorem dX10_unevens_11 : decode cX10_unevens 11 = .ok (.istore_n 2, 1) := by decide +kernel
theorem dX10_unevens_12 : decode cX10_unevens 12 = .ok (.iload_n 2, 1) := by decide +kernel
theorem dX10_unevens_13 : decode cX10_unevens 13 = .ok (.aload_n 0, 1) := by decide +kernel
theorem dX10_unevens_14 : decode cX10_unevens 14 = .ok (.getfield 106, 3) := by decide +kernel
theorem dX10_unevens_17 : decode cX10_unevens 17 = .ok (.if_icmp .ge 66, 3) := by decide +kernel
theorem dX10_unevens_20 : decode cX10_unevens 20 = .ok (.aload_n 0, 1) := by decide +kernel
theorem dX10_unevens_21 : decode cX10_unevens 21 = .ok (.aload_n 0, 1) := by decide +kernel
theorem dX10_unevens_22 : decode cX10_unevens 22 = .ok (.aload_n 1, 1) := by decide +kernel
theorem dX10_unevens_23 : decode cX10_unevens 23 = .ok (.iload_n 2, 1) := by decide +kernel
theorem dX10_unevens_24 : decode cX10_unevens 24 = .ok (.invokevirtual 219, 3) := by decide +kernel
theorem dX10_unevens_27 : decode cX10_unevens 27 = .ok (.invokevirtual 230, 3) := by decide +kernel
theorem dX10_unevens_30 : decode cX10_unevens 30 = .ok (.istore_n 3, 1) := by decide +kernel
theorem dX10_unevens_31 : decode cX10_unevens 31 = .ok (.aload_n 0, 1) := by decide +kernel
theorem dX10_unevens_32 : decode cX10_unevens 32 = .ok (.iload_n 3, 1) := by decide +kernel
theorem dX10_unevens_33 : decode cX10_unevens 33 = .ok (.aload_n 0, 1) := by decide +kernel
theorem dX10_unevens_34 : decode cX10_unevens 34 = .ok (.getfield 224, 3) := by decide +kernel
theorem dX10_unevens_37 : decode cX10_unevens 37 = .ok (.if_icmp .le 7, 3) := by decide +kernel
theorem dX10_unevens_40 : decode cX10_unevens 40 = .ok (.iload_n 3, 1) := by decide +kernel
theorem dX10_unevens_41 : decode cX10_unevens 41 = .ok (.goto 7, 3) := by decide +kernel
theorem dX10_unevens_44 : decode cX10_unevens 44 = .ok (.aload_n 0, 1) := by decide +kernel
theorem dX10_unevens_45 : decode cX10_unevens 45 = .ok (.getfield 224, 3) := by decide +kernel
theorem dX10_unevens_48 : decode cX10_unevens 48 = .ok (.putfield 224, 3) := by decide +kernel
theorem dX10_unevens_51 : decode cX10_unevens 51 = .ok (.aload_n 0, 1) := by decide +kernel
theorem dX10_unevens_52 : decode cX10_unevens 52 = .ok (.dup, 1) := by decide +kernel
theorem dX10_unevens_53 : decode cX10_unevens 53 = .ok (.getfield 227, 3) := by decide +kernel
theorem dX10_unevens_56 : decode cX10_unevens 56 = .ok (.iload_n 3, 1) := by decide +kernel
theorem dX10_unevens_57 : decode cX10_unevens 57 = .ok (.aload_n 0, 1) := by decide +kernel
theorem dX10_unevens_58 : decode cX10_unevens 58 = .ok (.getfield 25, 3) := by decide +kernel
theorem dX10_unevens_61 : decode cX10_unevens 61 = .ok (.iload_n 2, 1) := by decide +kernel
theorem dX10_unevens_62 : decode cX10_unevens 62 = .ok (.iaload, 1) := by decide +kernel
theorem dX10_unevens_63 : decode cX10_unevens 63 = .ok (.imul, 1) := by decide +kernel
theorem dX10_unevens_64 : decode cX10_unevens 64 = .ok (.iconst 1, 1) := by decide +kernel
theorem dX10_unevens_65 : decode cX10_unevens 65 = .ok (.aload_n 0, 1) := by decide +kernel
theorem dX10_unevens_66 : decode cX10_unevens 66 = .ok (.getfield 28, 3) := by decide +kernel
theorem dX10_unevens_69 : decode cX10_unevens 69 = .ok (.iload_n 2, 1) := by decide +kernel
theorem dX10_unevens_70 : decode cX10_unevens 70 = .ok (.iaload, 1) := by decide +kernel
theorem dX10_unevens_71 : decode cX10_unevens 71 = .ok (.iadd, 1) := by decide +kernel
theorem dX10_unevens_72 : decode cX10_unevens 72 = .ok (.imul, 1) := by decide +kernel
theorem dX10_unevens_73 : decode cX10_unevens 73 = .ok (.iadd, 1) := by decide +kernel
theorem dX10_unevens_74 : decode cX10_unevens 74 = .ok (.putfield 227, 3) := by decide +kernel
theorem dX10_unevens_77 : decode cX10_unevens 77 = .ok (.iinc 2 1, 3) := by decide +kernel
theorem dX10_unevens_80 : decode cX10_unevens 80 = .ok (.goto (-68), 3) := by decide +kernel
theorem dX10_unevens_83 : decode cX10_unevens 83 = .ok (.return_, 1) := by decide +kernel
theorem dX10_uneven_0 : decode cX10_uneven 0 = .ok (.iload_n 1, 1) := by decide +kernel
theorem dX10_uneven_1 : decode cX10_uneven 1 = .ok (.i2l, 1) := by decide +kernel
theorem dX10_uneven_2 : decode cX10_uneven 2 = .ok (.lconst 0, 1) := by decide +kernel
theorem dX10_uneven_3 : decode cX10_uneven 3 = .ok (.lconst 1, 1) := by decide +kernel
theorem dX10_uneven_4 : decode cX10_uneven 4 = .ok (.invokestatic 102, 3) := by decide +kernel
theorem dX10_uneven_7 : decode cX10_uneven 7 = .ok (.ifCond .ne 5, 3) := by decide +kernel
theorem dX10_uneven_10 : decode cX10_uneven 10 = .ok (.iconst (-1), 1) := by decide +kernel
theorem dX10_uneven_11 : decode cX10_uneven 11 = .ok (.ireturn, 1) := by decide +kernel
theorem dX10_uneven_12 : decode cX10_uneven 12 = .ok (.aload_n 0, 1) := by decide +kernel
theorem dX10_uneven_13 : decode cX10_uneven 13 = .ok (.aload_n 0, 1) := by decide +kernel
theorem dX10_uneven_14 : decode cX10_uneven 14 = .ok (.getfield 22, 3) := by decide +kernel
theorem dX10_uneven_17 : decode cX10_uneven 17 = .ok (.invokevirtual 233, 3) := by decide +kernel
theorem dX10_uneven_20 : decode cX10_uneven 20 = .ok (.iload_n 1, 1) := by decide +kernel
theorem dX10_uneven_21 : decode cX10_uneven 21 = .ok (.ifCond .ne 10, 3) := by decide +kernel
theorem dX10_uneven_24 : decode cX10_uneven 24 = .ok (.aload_n 0, 1) := by decide +kernel
theorem dX10_uneven_25 : decode cX10_uneven 25 = .ok (.getfield 224, 3) := by decide +kernel
theorem dX10_uneven_28 : decode cX10_uneven 28 = .ok (.goto 7, 3) := by decide +kernel
theorem dX10_uneven_31 : decode cX10_uneven 31 = .ok (.aload_n 0, 1) := by decide +kernel
theorem dX10_uneven_32 : decode cX10_uneven 32 = .ok (.getfield 227, 3) := by decide +kernel
theorem dX10_uneven_35 : decode cX10_uneven 35 = .ok (.ireturn, 1) := by decide +kernel
theorem dX10_begins_0 : decode cX10_begins 0 = .ok (.iconst 0, 1) := by decide +kernel
theorem dX10_begins_1 : decode cX10_begins 1 = .ok (.istore_n 1, 1) := by decide +kernel
theorem dX10_begins_2 : decode cX10_begins 2 = .ok (.iload_n 1, 1) := by decide +kernel
theorem dX10_begins_3 : decode cX10_begins 3 = .ok (.bipush 10, 2) := by decide +kernel
theorem dX10_begins_5 : decode cX10_begins 5 = .ok (.if_icmp .ge 16, 3) := by decide +kernel
theorem dX10_begins_8 : decode cX10_begins 8 = .ok (.aload_n 0, 1) := by decide +kernel
theorem dX10_begins_9 : decode cX10_begins 9 = .ok (.getfield 64, 3) := by decide +kernel
theorem dX10_begins_12 : decode cX10_begins 12 = .ok (.iload_n 1, 1) := by decide +kernel
theorem dX10_begins_13 : decode cX10_begins 13 = .ok (.iconst 0, 1) := by decide +kernel
theorem dX10_begins_14 : decode cX10_begins 14 = .ok (.iastore, 1) := by decide +kernel
theorem dX10_begins_15 : decode cX10_begins 15 = .ok (.iinc 1 1, 3) := by decide +kernel
theorem dX10_begins_18 : decode cX10_begins 18 = .ok (.goto (-16), 3) := by decide +kernel
theorem dX10_begins_21 : decode cX10_begins 21 = .ok (.return_, 1) := by decide +kernel
theorem dX10_turns_0 : decode cX10_turns 0 = .ok (.aload_n 0, 1) := by decide +kernel
theorem dX10_turns_1 : decode cX10_turns 1 = .ok (.getfield 98, 3) := by decide +kernel
theorem dX10_turns_4 : decode cX10_turns 4 = .ok (.iconst 1, 1) := by decide +kernel
theorem dX10_turns_5 : decode cX10_turns 5 = .ok (.isub, 1) := by decide +kernel
theorem dX10_turns_6 : decode cX10_turns 6 = .ok (.istore_n 2, 1) := by decide +kernel
theorem dX10_turns_7 : decode cX10_turns 7 = .ok (.iload_n 2, 1) := by decide +kernel
theorem dX10_turns_8 : decode cX10_turns 8 = .ok (.ifCond .lt 28, 3) := by decide +kernel
theorem dX10_turns_11 : decode cX10_turns 11 = .ok (.aload_n 0, 1) := by decide +kernel
theorem dX10_turns_12 : decode cX10_turns 12 = .ok (.getfield 64, 3) := by decide +kernel
theorem dX10_turns_15 : decode cX10_turns 15 = .ok (.iload_n 2, 1) := by decide +kernel
theorem dX10_turns_16 : decode cX10_turns 16 = .ok (.iaload, 1) := by decide +kernel
theorem dX10_turns_17 : decode cX10_turns 17 = .ok (.iload_n 1, 1) := by decide +kernel
theorem dX10_turns_18 : decode cX10_turns 18 = .ok (.iconst 1, 1) := by decide +kernel
theorem dX10_turns_19 : decode cX10_turns 19 = .ok (.isub, 1) := by decide +kernel
theorem dX10_turns_20 : decode cX10_turns 20 = .ok (.if_icmp .ne 16, 3) := by decide +kernel
theorem dX10_turns_23 : decode cX10_turns 23 = .ok (.aload_n 0, 1) := by decide +kernel
theorem dX10_turns_24 : decode cX10_turns 24 = .ok (.getfield 64, 3) := by decide +kernel
theorem dX10_turns_27 : decode cX10_turns 27 = .ok (.iload_n 2, 1) := by decide +kernel
theorem dX10_turns_28 : decode cX10_turns 28 = .ok (.iconst 0, 1) := by decide +kernel
theorem dX10_turns_29 : decode cX10_turns 29 = .ok (.iastore, 1) := by decide +kernel
theorem dX10_turns_30 : decode cX10_turns 30 = .ok (.iinc 2 (-1), 3) := by decide +kernel
theorem dX10_turns_33 : decode cX10_turns 33 = .ok (.goto (-26), 3) := by decide +kernel
theorem dX10_turns_36 : decode cX10_turns 36 = .ok (.iload_n 2, 1) := by decide +kernel
theorem dX10_turns_37 : decode cX10_turns 37 = .ok (.ifCond .lt 13, 3) := by decide +kernel
theorem dX10_turns_40 : decode cX10_turns 40 = .ok (.aload_n 0, 1) := by decide +kernel
theorem dX10_turns_41 : decode cX10_turns 41 = .ok (.getfield 64, 3) := by decide +kernel
theorem dX10_turns_44 : decode cX10_turns 44 = .ok (.iload_n 2, 1) := by decide +kernel
theorem dX10_turns_45 : decode cX10_turns 45 = .ok (.dup2, 1) := by decide +kernel
theorem dX10_turns_46 : decode cX10_turns 46 = .ok (.iaload, 1) := by decide +kernel
theorem dX10_turns_47 : decode cX10_turns 47 = .ok (.iconst 1, 1) := by decide +kernel
theorem dX10_turns_48 : decode cX10_turns 48 = .ok (.iadd, 1) := by decide +kernel
theorem dX10_turns_49 : decode cX10_turns 49 = .ok (.iastore, 1) := by decide +kernel
theorem dX10_turns_50 : decode cX10_turns 50 = .ok (.iload_n 2, 1) := by decide +kernel
theorem dX10_turns_51 : decode cX10_turns 51 = .ok (.ifCond .lt 7, 3) := by decide +kernel
theorem dX10_turns_54 : decode cX10_turns 54 = .ok (.iconst 1, 1) := by decide +kernel
theorem dX10_turns_55 : decode cX10_turns 55 = .ok (.goto 4, 3) := by decide +kernel
theorem dX10_turns_58 : decode cX10_turns 58 = .ok (.iconst 0, 1) := by decide +kernel
theorem dX10_turns_59 : decode cX10_turns 59 = .ok (.ireturn, 1) := by decide +kernel
theorem dX10_finds_0 : decode cX10_finds 0 = .ok (.iconst 0, 1) := by decide +kernel
theorem dX10_finds_1 : decode cX10_finds 1 = .ok (.istore_n 1, 1) := by decide +kernel
theorem dX10_finds_2 : decode cX10_finds 2 = .ok (.iload_n 1, 1) := by decide +kernel
theorem dX10_finds_3 : decode cX10_finds 3 = .ok (.bipush 10, 2) := by decide +kernel
theorem dX10_finds_5 : decode cX10_finds 5 = .ok (.if_icmp .ge 21, 3) := by decide +kernel
theorem dX10_finds_8 : decode cX10_finds 8 = .ok (.aload_n 0, 1) := by decide +kernel
theorem dX10_finds_9 : decode cX10_finds 9 = .ok (.getfield 67, 3) := by decide +kernel
theorem dX10_finds_12 : decode cX10_finds 12 = .ok (.iload_n 1, 1) := by decide +kernel
theorem dX10_finds_13 : decode cX10_finds 13 = .ok (.aload_n 0, 1) := by decide +kernel
theorem dX10_finds_14 : decode cX10_finds 14 = .ok (.getfield 64, 3) := by decide +kernel
theorem dX10_finds_17 : decode cX10_finds 17 = .ok (.iload_n 1, 1) := by decide +kernel
theorem dX10_finds_18 : decode cX10_finds 18 = .ok (.iaload, 1) := by decide +kernel
theorem dX10_finds_19 : decode cX10_finds 19 = .ok (.iastore, 1) := by decide +kernel
theorem dX10_finds_20 : decode cX10_finds 20 = .ok (.iinc 1 1, 3) := by decide +kernel
theorem dX10_finds_23 : decode cX10_finds 23 = .ok (.goto (-21), 3) := by decide +kernel
theorem dX10_finds_26 : decode cX10_finds 26 = .ok (.return_, 1) := by decide +kernel
theorem dX10_isBest_0 : decode cX10_isBest 0 = .ok (.iconst 0, 1) := by decide +kernel
theorem dX10_isBest_1 : decode cX10_isBest 1 = .ok (.istore_n 1, 1) := by decide +kernel
theorem dX10_isBest_2 : decode cX10_isBest 2 = .ok (.aload_n 0, 1) := by decide +kernel
theorem dX10_isBest_3 : decode cX10_isBest 3 = .ok (.invokevirtual 237, 3) := by decide +kernel
theorem dX10_isBest_6 : decode cX10_isBest 6 = .ok (.iconst 1, 1) := by decide +kernel
theorem dX10_isBest_7 : decode cX10_isBest 7 = .ok (.istore_n 2, 1) := by decide +kernel
theorem dX10_isBest_8 : decode cX10_isBest 8 = .ok (.iload_n 2, 1) := by decide +kernel
theorem dX10_isBest_9 : decode cX10_isBest 9 = .ok (.ifCond .eq 90, 3) := by decide +kernel
theorem dX10_isBest_12 : decode cX10_isBest 12 = .ok (.aload_n 0, 1) := by decide +kernel
theorem dX10_isBest_13 : decode cX10_isBest 13 = .ok (.aload_n 0, 1) := by decide +kernel
theorem dX10_isBest_14 : decode cX10_isBest 14 = .ok (.getfield 64, 3) := by decide +kernel
theorem dX10_isBest_17 : decode cX10_isBest 17 = .ok (.invokevirtual 240, 3) := by decide +kernel
theorem dX10_isBest_20 : decode cX10_isBest 20 = .ok (.ifCond .eq 70, 3) := by decide +kernel
theorem dX10_isBest_23 : decode cX10_isBest 23 = .ok (.aload_n 0, 1) := by decide +kernel
theorem dX10_isBest_24 : decode cX10_isBest 24 = .ok (.aload_n 0, 1) := by decide +kernel
theorem dX10_isBest_25 : decode cX10_isBest 25 = .ok (.getfield 64, 3) := by decide +kernel
theorem dX10_isBest_28 : decode cX10_isBest 28 = .ok (.invokevirtual 233, 3) := by decide +kernel
theorem dX10_isBest_31 : decode cX10_isBest 31 = .ok (.iload_n 1, 1) := by decide +kernel
theorem dX10_isBest_32 : decode cX10_isBest 32 = .ok (.ifCond .eq 36, 3) := by decide +kernel
theorem dX10_isBest_35 : decode cX10_isBest 35 = .ok (.aload_n 0, 1) := by decide +kernel
theorem dX10_isBest_36 : decode cX10_isBest 36 = .ok (.getfield 224, 3) := by decide +kernel
theorem dX10_isBest_39 : decode cX10_isBest 39 = .ok (.aload_n 0, 1) := by decide +kernel
theorem dX10_isBest_40 : decode cX10_isBest 40 = .ok (.getfield 243, 3) := by decide +kernel
theorem dX10_isBest_43 : decode cX10_isBest 43 = .ok (.if_icmp .lt 25, 3) := by decide +kernel
theorem dX10_isBest_46 : decode cX10_isBest 46 = .ok (.aload_n 0, 1) := by decide +kernel
theorem dX10_isBest_47 : decode cX10_isBest 47 = .ok (.getfield 224, 3) := by decide +kernel
theorem dX10_isBest_50 : decode cX10_isBest 50 = .ok (.aload_n 0, 1) := by decide +kernel
theorem dX10_isBest_51 : decode cX10_isBest 51 = .ok (.getfield 243, 3) := by decide +kernel
theorem dX10_isBest_54 : decode cX10_isBest 54 = .ok (.if_icmp .ne 36, 3) := by decide +kernel
theorem dX10_isBest_57 : decode cX10_isBest 57 = .ok (.aload_n 0, 1) := by decide +kernel
theorem dX10_isBest_58 : decode cX10_isBest 58 = .ok (.getfield 227, 3) := by decide +kernel
theorem dX10_isBest_61 : decode cX10_isBest 61 = .ok (.aload_n 0, 1) := by decide +kernel
theorem dX10_isBest_62 : decode cX10_isBest 62 = .ok (.getfield 246, 3) := by decide +kernel
theorem dX10_isBest_65 : decode cX10_isBest 65 = .ok (.if_icmp .ge 25, 3) := by decide +kernel
theorem dX10_isBest_68 : decode cX10_isBest 68 = .ok (.iconst 1, 1) := by decide +kernel
theorem dX10_isBest_69 : decode cX10_isBest 69 = .ok (.istore_n 1, 1) := by decide +kernel
theorem dX10_isBest_70 : decode cX10_isBest 70 = .ok (.aload_n 0, 1) := by decide +kernel
theorem dX10_isBest_71 : decode cX10_isBest 71 = .ok (.aload_n 0, 1) := by decide +kernel
theorem dX10_isBest_72 : decode cX10_isBest 72 = .ok (.getfield 224, 3) := by decide +kernel
theorem dX10_isBest_75 : decode cX10_isBest 75 = .ok (.putfield 243, 3) := by decide +kernel
theorem dX10_isBest_78 : decode cX10_isBest 78 = .ok (.aload_n 0, 1) := by decide +kernel
theorem dX10_isBest_79 : decode cX10_isBest 79 = .ok (.aload_n 0, 1) := by decide +kernel
theorem dX10_isBest_80 : decode cX10_isBest 80 = .ok (.getfield 227, 3) := by decide +kernel
theorem dX10_isBest_83 : decode cX10_isBest 83 = .ok (.putfield 246, 3) := by decide +kernel
theorem dX10_isBest_86 : decode cX10_isBest 86 = .ok (.aload_n 0, 1) := by decide +kernel
theorem dX10_isBest_87 : decode cX10_isBest 87 = .ok (.invokevirtual 249, 3) := by decide +kernel
theorem dX10_isBest_90 : decode cX10_isBest 90 = .ok (.aload_n 0, 1) := by decide +kernel
theorem dX10_isBest_91 : decode cX10_isBest 91 = .ok (.iconst 3, 1) := by decide +kernel
theorem dX10_isBest_92 : decode cX10_isBest 92 = .ok (.invokevirtual 252, 3) := by decide +kernel
theorem dX10_isBest_95 : decode cX10_isBest 95 = .ok (.istore_n 2, 1) := by decide +kernel
theorem dX10_isBest_96 : decode cX10_isBest 96 = .ok (.goto (-88), 3) := by decide +kernel
theorem dX10_isBest_99 : decode cX10_isBest 99 = .ok (.iload_n 1, 1) := by decide +kernel
theorem dX10_isBest_100 : decode cX10_isBest 100 = .ok (.ireturn, 1) := by decide +kernel
theorem dX10_best_0 : decode cX10_best 0 = .ok (.iload_n 1, 1) := by decide +kernel
theorem dX10_best_1 : decode cX10_best 1 = .ok (.bipush (-2), 2) := by decide +kernel
theorem dX10_best_3 : decode cX10_best 3 = .ok (.if_icmp .eq 19, 3) := by decide +kernel
theorem dX10_best_6 : decode cX10_best 6 = .ok (.iload_n 1, 1) := by decide +kernel
theorem dX10_best_7 : decode cX10_best 7 = .ok (.iconst (-1), 1) := by decide +kernel
theorem dX10_best_8 : decode cX10_best 8 = .ok (.if_icmp .eq 14, 3) := by decide +kernel
theorem dX10_best_11 : decode cX10_best 11 = .ok (.aload_n 0, 1) := by decide +kernel
theorem dX10_best_12 : decode cX10_best 12 = .ok (.iload_n 1, 1) := by decide +kernel
theorem dX10_best_13 : decode cX10_best 13 = .ok (.i2l, 1) := by decide +kernel
theorem dX10_best_14 : decode cX10_best 14 = .ok (.invokevirtual 122, 3) := by decide +kernel
theorem dX10_best_17 : decode cX10_best 17 = .ok (.ifCond .ne 5, 3) := by decide +kernel
theorem dX10_best_20 : decode cX10_best 20 = .ok (.iconst (-1), 1) := by decide +kernel
theorem dX10_best_21 : decode cX10_best 21 = .ok (.ireturn, 1) := by decide +kernel
theorem dX10_best_22 : decode cX10_best 22 = .ok (.aload_n 0, 1) := by decide +kernel
theorem dX10_best_23 : decode cX10_best 23 = .ok (.invokevirtual 255, 3) := by decide +kernel
theorem dX10_best_26 : decode cX10_best 26 = .ok (.ifCond .ne 6, 3) := by decide +kernel
theorem dX10_best_29 : decode cX10_best 29 = .ok (.bipush (-4), 2) := by decide +kernel
theorem dX10_best_31 : decode cX10_best 31 = .ok (.ireturn, 1) := by decide +kernel
theorem dX10_best_32 : decode cX10_best 32 = .ok (.iload_n 1, 1) := by decide +kernel
theorem dX10_best_33 : decode cX10_best 33 = .ok (.bipush (-2), 2) := by decide +kernel
theorem dX10_best_35 : decode cX10_best 35 = .ok (.if_icmp .ne 10, 3) := by decide +kernel
theorem dX10_best_38 : decode cX10_best 38 = .ok (.aload_n 0, 1) := by decide +kernel
theorem dX10_best_39 : decode cX10_best 39 = .ok (.getfield 243, 3) := by decide +kernel
theorem dX10_best_42 : decode cX10_best 42 = .ok (.goto 21, 3) := by decide +kernel
theorem dX10_best_45 : decode cX10_best 45 = .ok (.iload_n 1, 1) := by decide +kernel
theorem dX10_best_46 : decode cX10_best 46 = .ok (.iconst (-1), 1) := by decide +kernel
theorem dX10_best_47 : decode cX10_best 47 = .ok (.if_icmp .ne 10, 3) := by decide +kernel
theorem dX10_best_50 : decode cX10_best 50 = .ok (.aload_n 0, 1) := by decide +kernel
theorem dX10_best_51 : decode cX10_best 51 = .ok (.getfield 246, 3) := by decide +kernel
theorem dX10_best_54 : decode cX10_best 54 = .ok (.goto 9, 3) := by decide +kernel
theorem dX10_best_57 : decode cX10_best 57 = .ok (.aload_n 0, 1) := by decide +kernel
theorem dX10_best_58 : decode cX10_best 58 = .ok (.getfield 67, 3) := by decide +kernel
theorem dX10_best_61 : decode cX10_best 61 = .ok (.iload_n 1, 1) := by decide +kernel
theorem dX10_best_62 : decode cX10_best 62 = .ok (.iaload, 1) := by decide +kernel
theorem dX10_best_63 : decode cX10_best 63 = .ok (.ireturn, 1) := by decide +kernel
theorem dX10_pack_0 : decode cX10_pack 0 = .ok (.aload_n 0, 1) := by decide +kernel
theorem dX10_pack_1 : decode cX10_pack 1 = .ok (.invokevirtual 255, 3) := by decide +kernel
theorem dX10_pack_4 : decode cX10_pack 4 = .ok (.ifCond .ne 6, 3) := by decide +kernel
theorem dX10_pack_7 : decode cX10_pack 7 = .ok (.bipush (-4), 2) := by decide +kernel
theorem dX10_pack_9 : decode cX10_pack 9 = .ok (.ireturn, 1) := by decide +kernel
theorem dX10_pack_10 : decode cX10_pack 10 = .ok (.iconst 0, 1) := by decide +kernel
theorem dX10_pack_11 : decode cX10_pack 11 = .ok (.istore_n 1, 1) := by decide +kernel
theorem dX10_pack_12 : decode cX10_pack 12 = .ok (.iload_n 1, 1) := by decide +kernel
theorem dX10_pack_13 : decode cX10_pack 13 = .ok (.aload_n 0, 1) := by decide +kernel
theorem dX10_pack_14 : decode cX10_pack 14 = .ok (.getfield 98, 3) := by decide +kernel
theorem dX10_pack_17 : decode cX10_pack 17 = .ok (.if_icmp .ge 21, 3) := by decide +kernel
theorem dX10_pack_20 : decode cX10_pack 20 = .ok (.aload_n 0, 1) := by decide +kernel
theorem dX10_pack_21 : decode cX10_pack 21 = .ok (.getfield 22, 3) := by decide +kernel
theorem dX10_pack_24 : decode cX10_pack 24 = .ok (.iload_n 1, 1) := by decide +kernel
theorem dX10_pack_25 : decode cX10_pack 25 = .ok (.aload_n 0, 1) := by decide +kernel
theorem dX10_pack_26 : decode cX10_pack 26 = .ok (.getfield 67, 3) := by decide +kernel
theorem dX10_pack_29 : decode cX10_pack 29 = .ok (.iload_n 1, 1) := by decide +kernel
theorem dX10_pack_30 : decode cX10_pack 30 = .ok (.iaload, 1) := by decide +kernel
theorem dX10_pack_31 : decode cX10_pack 31 = .ok (.iastore, 1) := by decide +kernel
theorem dX10_pack_32 : decode cX10_pack 32 = .ok (.iinc 1 1, 3) := by decide +kernel
theorem dX10_pack_35 : decode cX10_pack 35 = .ok (.goto (-23), 3) := by decide +kernel
theorem dX10_pack_38 : decode cX10_pack 38 = .ok (.aload_n 0, 1) := by decide +kernel
theorem dX10_pack_39 : decode cX10_pack 39 = .ok (.getfield 243, 3) := by decide +kernel
theorem dX10_pack_42 : decode cX10_pack 42 = .ok (.ireturn, 1) := by decide +kernel
theorem dX10_evenest_0 : decode cX10_evenest 0 = .ok (.aload_n 0, 1) := by decide +kernel
theorem dX10_evenest_1 : decode cX10_evenest 1 = .ok (.iload_n 1, 1) := by decide +kernel
theorem dX10_evenest_2 : decode cX10_evenest 2 = .ok (.invokevirtual 140, 3) := by decide +kernel
theorem dX10_evenest_5 : decode cX10_evenest 5 = .ok (.ifCond .eq 17, 3) := by decide +kernel
theorem dX10_evenest_8 : decode cX10_evenest 8 = .ok (.iload_n 2, 1) := by decide +kernel
theorem dX10_evenest_9 : decode cX10_evenest 9 = .ok (.iconst (-1), 1) := by decide +kernel
theorem dX10_evenest_10 : decode cX10_evenest 10 = .ok (.if_icmp .eq 14, 3) := by decide +kernel
theorem dX10_evenest_13 : decode cX10_evenest 13 = .ok (.aload_n 0, 1) := by decide +kernel
theorem dX10_evenest_14 : decode cX10_evenest 14 = .ok (.iload_n 2, 1) := by decide +kernel
theorem dX10_evenest_15 : decode cX10_evenest 15 = .ok (.i2l, 1) := by decide +kernel
theorem dX10_evenest_16 : decode cX10_evenest 16 = .ok (.invokevirtual 122, 3) := by decide +kernel
theorem dX10_evenest_19 : decode cX10_evenest 19 = .ok (.ifCond .ne 5, 3) := by decide +kernel
theorem dX10_evenest_22 : decode cX10_evenest 22 = .ok (.iconst (-1), 1) := by decide +kernel
theorem dX10_evenest_23 : decode cX10_evenest 23 = .ok (.ireturn, 1) := by decide +kernel
theorem dX10_evenest_24 : decode cX10_evenest 24 = .ok (.iconst (-1), 1) := by decide +kernel
theorem dX10_evenest_25 : decode cX10_evenest 25 = .ok (.istore_n 3, 1) := by decide +kernel
theorem dX10_evenest_26 : decode cX10_evenest 26 = .ok (.aload_n 0, 1) := by decide +kernel
theorem dX10_evenest_27 : decode cX10_evenest 27 = .ok (.invokevirtual 237, 3) := by decide +kernel
theorem dX10_evenest_30 : decode cX10_evenest 30 = .ok (.iconst 1, 1) := by decide +kernel
theorem dX10_evenest_31 : decode cX10_evenest 31 = .ok (.istore 4, 2) := by decide +kernel
theorem dX10_evenest_33 : decode cX10_evenest 33 = .ok (.iload 4, 2) := by decide +kernel
theorem dX10_evenest_35 : decode cX10_evenest 35 = .ok (.ifCond .eq 45, 3) := by decide +kernel
theorem dX10_evenest_38 : decode cX10_evenest 38 = .ok (.aload_n 0, 1) := by decide +kernel
theorem dX10_evenest_39 : decode cX10_evenest 39 = .ok (.aload_n 0, 1) := by decide +kernel
theorem dX10_evenest_40 : decode cX10_evenest 40 = .ok (.aload_n 0, 1) := by decide +kernel
theorem dX10_evenest_41 : decode cX10_evenest 41 = .ok (.getfield 64, 3) := by decide +kernel
theorem dX10_evenest_44 : decode cX10_evenest 44 = .ok (.iload_n 1, 1) := by decide +kernel
theorem dX10_evenest_45 : decode cX10_evenest 45 = .ok (.invokevirtual 219, 3) := by decide +kernel
theorem dX10_evenest_48 : decode cX10_evenest 48 = .ok (.invokevirtual 230, 3) := by decide +kernel
theorem dX10_evenest_51 : decode cX10_evenest 51 = .ok (.istore 5, 2) := by decide +kernel
theorem dX10_evenest_53 : decode cX10_evenest 53 = .ok (.iload_n 3, 1) := by decide +kernel
theorem dX10_evenest_54 : decode cX10_evenest 54 = .ok (.ifCond .lt 9, 3) := by decide +kernel
theorem dX10_evenest_57 : decode cX10_evenest 57 = .ok (.iload 5, 2) := by decide +kernel
theorem dX10_evenest_59 : decode cX10_evenest 59 = .ok (.iload_n 3, 1) := by decide +kernel
theorem dX10_evenest_60 : decode cX10_evenest 60 = .ok (.if_icmp .ge 10, 3) := by decide +kernel
theorem dX10_evenest_63 : decode cX10_evenest 63 = .ok (.iload 5, 2) := by decide +kernel
theorem dX10_evenest_65 : decode cX10_evenest 65 = .ok (.istore_n 3, 1) := by decide +kernel
theorem dX10_evenest_66 : decode cX10_evenest 66 = .ok (.aload_n 0, 1) := by decide +kernel
theorem dX10_evenest_67 : decode cX10_evenest 67 = .ok (.invokevirtual 249, 3) := by decide +kernel
theorem dX10_evenest_70 : decode cX10_evenest 70 = .ok (.aload_n 0, 1) := by decide +kernel
theorem dX10_evenest_71 : decode cX10_evenest 71 = .ok (.iconst 2, 1) := by decide +kernel
theorem dX10_evenest_72 : decode cX10_evenest 72 = .ok (.invokevirtual 252, 3) := by decide +kernel
theorem dX10_evenest_75 : decode cX10_evenest 75 = .ok (.istore 4, 2) := by decide +kernel
theorem dX10_evenest_77 : decode cX10_evenest 77 = .ok (.goto (-44), 3) := by decide +kernel
theorem dX10_evenest_80 : decode cX10_evenest 80 = .ok (.iload_n 2, 1) := by decide +kernel
theorem dX10_evenest_81 : decode cX10_evenest 81 = .ok (.ifCond .ge 7, 3) := by decide +kernel
theorem dX10_evenest_84 : decode cX10_evenest 84 = .ok (.iload_n 3, 1) := by decide +kernel
theorem dX10_evenest_85 : decode cX10_evenest 85 = .ok (.goto 9, 3) := by decide +kernel
theorem dX10_evenest_88 : decode cX10_evenest 88 = .ok (.aload_n 0, 1) := by decide +kernel
theorem dX10_evenest_89 : decode cX10_evenest 89 = .ok (.getfield 67, 3) := by decide +kernel
theorem dX10_evenest_92 : decode cX10_evenest 92 = .ok (.iload_n 2, 1) := by decide +kernel
theorem dX10_evenest_93 : decode cX10_evenest 93 = .ok (.iaload, 1) := by decide +kernel
theorem dX10_evenest_94 : decode cX10_evenest 94 = .ok (.ireturn, 1) := by decide +kernel
theorem dX10_changes_0 : decode cX10_changes 0 = .ok (.iconst 0, 1) := by decide +kernel
theorem dX10_changes_1 : decode cX10_changes 1 = .ok (.istore_n 2, 1) := by decide +kernel
theorem dX10_changes_2 : decode cX10_changes 2 = .ok (.iconst 0, 1) := by decide +kernel
theorem dX10_changes_3 : decode cX10_changes 3 = .ok (.istore_n 3, 1) := by decide +kernel
theorem dX10_changes_4 : decode cX10_changes 4 = .ok (.iload_n 3, 1) := by decide +kernel
theorem dX10_changes_5 : decode cX10_changes 5 = .ok (.aload_n 0, 1) := by decide +kernel
theorem dX10_changes_6 : decode cX10_changes 6 = .ok (.getfield 98, 3) := by decide +kernel
theorem dX10_changes_9 : decode cX10_changes 9 = .ok (.if_icmp .ge 29, 3) := by decide +kernel
theorem dX10_changes_12 : decode cX10_changes 12 = .ok (.iload_n 2, 1) := by decide +kernel
theorem dX10_changes_13 : decode cX10_changes 13 = .ok (.aload_n 1, 1) := by decide +kernel
theorem dX10_changes_14 : decode cX10_changes 14 = .ok (.iload_n 3, 1) := by decide +kernel
theorem dX10_changes_15 : decode cX10_changes 15 = .ok (.iaload, 1) := by decide +kernel
theorem dX10_changes_16 : decode cX10_changes 16 = .ok (.aload_n 0, 1) := by decide +kernel
theorem dX10_changes_17 : decode cX10_changes 17 = .ok (.getfield 22, 3) := by decide +kernel
theorem dX10_changes_20 : decode cX10_changes 20 = .ok (.iload_n 3, 1) := by decide +kernel
theorem dX10_changes_21 : decode cX10_changes 21 = .ok (.iaload, 1) := by decide +kernel
theorem dX10_changes_22 : decode cX10_changes 22 = .ok (.if_icmp .ne 7, 3) := by decide +kernel
theorem dX10_changes_25 : decode cX10_changes 25 = .ok (.iconst 0, 1) := by decide +kernel
theorem dX10_changes_26 : decode cX10_changes 26 = .ok (.goto 4, 3) := by decide +kernel
theorem dX10_changes_29 : decode cX10_changes 29 = .ok (.iconst 1, 1) := by decide +kernel
theorem dX10_changes_30 : decode cX10_changes 30 = .ok (.iadd, 1) := by decide +kernel
theorem dX10_changes_31 : decode cX10_changes 31 = .ok (.istore_n 2, 1) := by decide +kernel
theorem dX10_changes_32 : decode cX10_changes 32 = .ok (.iinc 3 1, 3) := by decide +kernel
theorem dX10_changes_35 : decode cX10_changes 35 = .ok (.goto (-31), 3) := by decide +kernel
theorem dX10_changes_38 : decode cX10_changes 38 = .ok (.iload_n 2, 1) := by decide +kernel
theorem dX10_changes_39 : decode cX10_changes 39 = .ok (.ireturn, 1) := by decide +kernel
theorem dX10_moved_0 : decode cX10_moved 0 = .ok (.aload_n 0, 1) := by decide +kernel
theorem dX10_moved_1 : decode cX10_moved 1 = .ok (.iload_n 1, 1) := by decide +kernel
theorem dX10_moved_2 : decode cX10_moved 2 = .ok (.invokevirtual 140, 3) := by decide +kernel
theorem dX10_moved_5 : decode cX10_moved 5 = .ok (.ifCond .eq 29, 3) := by decide +kernel
theorem dX10_moved_8 : decode cX10_moved 8 = .ok (.iload_n 2, 1) := by decide +kernel
theorem dX10_moved_9 : decode cX10_moved 9 = .ok (.i2l, 1) := by decide +kernel
theorem dX10_moved_10 : decode cX10_moved 10 = .ok (.lconst 0, 1) := by decide +kernel
theorem dX10_moved_11 : decode cX10_moved 11 = .ok (.ldc2_w 259, 3) := by decide +kernel
theorem dX10_moved_14 : decode cX10_moved 14 = .ok (.invokestatic 102, 3) := by decide +kernel
theorem dX10_moved_17 : decode cX10_moved 17 = .ok (.ifCond .eq 17, 3) := by decide +kernel
theorem dX10_moved_20 : decode cX10_moved 20 = .ok (.iload_n 3, 1) := by decide +kernel
theorem dX10_moved_21 : decode cX10_moved 21 = .ok (.iconst (-1), 1) := by decide +kernel
theorem dX10_moved_22 : decode cX10_moved 22 = .ok (.if_icmp .eq 14, 3) := by decide +kernel
theorem dX10_moved_25 : decode cX10_moved 25 = .ok (.aload_n 0, 1) := by decide +kernel
theorem dX10_moved_26 : decode cX10_moved 26 = .ok (.iload_n 3, 1) := by decide +kernel
theorem dX10_moved_27 : decode cX10_moved 27 = .ok (.i2l, 1) := by decide +kernel
theorem dX10_moved_28 : decode cX10_moved 28 = .ok (.invokevirtual 122, 3) := by decide +kernel
theorem dX10_moved_31 : decode cX10_moved 31 = .ok (.ifCond .ne 5, 3) := by decide +kernel
theorem dX10_moved_34 : decode cX10_moved 34 = .ok (.iconst (-1), 1) := by decide +kernel
theorem dX10_moved_35 : decode cX10_moved 35 = .ok (.ireturn, 1) := by decide +kernel
theorem dX10_moved_36 : decode cX10_moved 36 = .ok (.iconst (-1), 1) := by decide +kernel
theorem dX10_moved_37 : decode cX10_moved 37 = .ok (.istore 4, 2) := by decide +kernel
theorem dX10_moved_39 : decode cX10_moved 39 = .ok (.aload_n 0, 1) := by decide +kernel
theorem dX10_moved_40 : decode cX10_moved 40 = .ok (.invokevirtual 237, 3) := by decide +kernel
theorem dX10_moved_43 : decode cX10_moved 43 = .ok (.iconst 1, 1) := by decide +kernel
theorem dX10_moved_44 : decode cX10_moved 44 = .ok (.istore 5, 2) := by decide +kernel
theorem dX10_moved_46 : decode cX10_moved 46 = .ok (.iload 5, 2) := by decide +kernel
theorem dX10_moved_48 : decode cX10_moved 48 = .ok (.ifCond .eq 116, 3) := by decide +kernel
theorem dX10_moved_51 : decode cX10_moved 51 = .ok (.iload 4, 2) := by decide +kernel
theorem dX10_moved_53 : decode cX10_moved 53 = .ok (.ifCond .lt 16, 3) := by decide +kernel
theorem dX10_moved_56 : decode cX10_moved 56 = .ok (.aload_n 0, 1) := by decide +kernel
theorem dX10_moved_57 : decode cX10_moved 57 = .ok (.aload_n 0, 1) := by decide +kernel
theorem dX10_moved_58 : decode cX10_moved 58 = .ok (.getfield 64, 3) := by decide +kernel
theorem dX10_moved_61 : decode cX10_moved 61 = .ok (.invokevirtual 261, 3) := by decide +kernel
theorem dX10_moved_64 : decode cX10_moved 64 = .ok (.iload 4, 2) := by decide +kernel
theorem dX10_moved_66 : decode cX10_moved 66 = .ok (.if_icmp .ge 18, 3) := by decide +kernel
theorem dX10_moved_69 : decode cX10_moved 69 = .ok (.aload_n 0, 1) := by decide +kernel
theorem dX10_moved_70 : decode cX10_moved 70 = .ok (.aload_n 0, 1) := by decide +kernel
theorem dX10_moved_71 : decode cX10_moved 71 = .ok (.getfield 64, 3) := by decide +kernel
theorem dX10_moved_74 : decode cX10_moved 74 = .ok (.invokevirtual 240, 3) := by decide +kernel
theorem dX10_moved_77 : decode cX10_moved 77 = .ok (.ifCond .eq 7, 3) := by decide +kernel
theorem dX10_moved_80 : decode cX10_moved 80 = .ok (.iconst 1, 1) := by decide +kernel
theorem dX10_moved_81 : decode cX10_moved 81 = .ok (.goto 4, 3) := by decide +kernel
theorem dX10_moved_84 : decode cX10_moved 84 = .ok (.iconst 0, 1) := by decide +kernel
theorem dX10_moved_85 : decode cX10_moved 85 = .ok (.istore 6, 2) := by decide +kernel
theorem dX10_moved_87 : decode cX10_moved 87 = .ok (.iload_n 1, 1) := by decide +kernel
theorem dX10_moved_88 : decode cX10_moved 88 = .ok (.istore 7, 2) := by decide +kernel
theorem dX10_moved_90 : decode cX10_moved 90 = .ok (.iload 7, 2) := by decide +kernel
theorem dX10_moved_92 : decode cX10_moved 92 = .ok (.aload_n 0, 1) := by decide +kernel
theorem dX10_moved_93 : decode cX10_moved 93 = .ok (.getfield 106, 3) := by decide +kernel
theorem dX10_moved_96 : decode cX10_moved 96 = .ok (.if_icmp .ge 39, 3) := by decide +kernel
theorem dX10_moved_99 : decode cX10_moved 99 = .ok (.iload 6, 2) := by decide +kernel
theorem dX10_moved_101 : decode cX10_moved 101 = .ok (.ifCond .eq 34, 3) := by decide +kernel
theorem dX10_moved_104 : decode cX10_moved 104 = .ok (.aload_n 0, 1) := by decide +kernel
theorem dX10_moved_105 : decode cX10_moved 105 = .ok (.aload_n 0, 1) := by decide +kernel
theorem dX10_moved_106 : decode cX10_moved 106 = .ok (.aload_n 0, 1) := by decide +kernel
theorem dX10_moved_107 : decode cX10_moved 107 = .ok (.getfield 64, 3) := by decide +kernel
theorem dX10_moved_110 : decode cX10_moved 110 = .ok (.iload 7, 2) := by decide +kernel
theorem dX10_moved_112 : decode cX10_moved 112 = .ok (.invokevirtual 219, 3) := by decide +kernel
theorem dX10_moved_115 : decode cX10_moved 115 = .ok (.invokevirtual 230, 3) := by decide +kernel
theorem dX10_moved_118 : decode cX10_moved 118 = .ok (.iload_n 2, 1) := by decide +kernel
theorem dX10_moved_119 : decode cX10_moved 119 = .ok (.if_icmp .gt 7, 3) := by decide +kernel
theorem dX10_moved_122 : decode cX10_moved 122 = .ok (.iconst 1, 1) := by decide +kernel
theorem dX10_moved_123 : decode cX10_moved 123 = .ok (.goto 4, 3) := by decide +kernel
theorem dX10_moved_126 : decode cX10_moved 126 = .ok (.iconst 0, 1) := by decide +kernel
theorem dX10_moved_127 : decode cX10_moved 127 = .ok (.istore 6, 2) := by decide +kernel
theorem dX10_moved_129 : decode cX10_moved 129 = .ok (.iinc 7 1, 3) := by decide +kernel
theorem dX10_moved_132 : decode cX10_moved 132 = .ok (.goto (-42), 3) := by decide +kernel
theorem dX10_moved_135 : decode cX10_moved 135 = .ok (.iload 6, 2) := by decide +kernel
theorem dX10_moved_137 : decode cX10_moved 137 = .ok (.ifCond .eq 17, 3) := by decide +kernel
theorem dX10_moved_140 : decode cX10_moved 140 = .ok (.aload_n 0, 1) := by decide +kernel
theorem dX10_moved_141 : decode cX10_moved 141 = .ok (.aload_n 0, 1) := by decide +kernel
theorem dX10_moved_142 : decode cX10_moved 142 = .ok (.getfield 64, 3) := by decide +kernel
theorem dX10_moved_145 : decode cX10_moved 145 = .ok (.invokevirtual 261, 3) := by decide +kernel
theorem dX10_moved_148 : decode cX10_moved 148 = .ok (.istore 4, 2) := by decide +kernel
theorem dX10_moved_150 : decode cX10_moved 150 = .ok (.aload_n 0, 1) := by decide +kernel
theorem dX10_moved_151 : decode cX10_moved 151 = .ok (.invokevirtual 249, 3) := by decide +kernel
theorem dX10_moved_154 : decode cX10_moved 154 = .ok (.aload_n 0, 1) := by decide +kernel
theorem dX10_moved_155 : decode cX10_moved 155 = .ok (.iconst 3, 1) := by decide +kernel
theorem dX10_moved_156 : decode cX10_moved 156 = .ok (.invokevirtual 252, 3) := by decide +kernel
theorem dX10_moved_159 : decode cX10_moved 159 = .ok (.istore 5, 2) := by decide +kernel
theorem dX10_moved_161 : decode cX10_moved 161 = .ok (.goto (-115), 3) := by decide +kernel
theorem dX10_moved_164 : decode cX10_moved 164 = .ok (.iload 4, 2) := by decide +kernel
theorem dX10_moved_166 : decode cX10_moved 166 = .ok (.ifCond .ge 8, 3) := by decide +kernel
theorem dX10_moved_169 : decode cX10_moved 169 = .ok (.bipush (-4), 2) := by decide +kernel
theorem dX10_moved_171 : decode cX10_moved 171 = .ok (.goto 18, 3) := by decide +kernel
theorem dX10_moved_174 : decode cX10_moved 174 = .ok (.iload_n 3, 1) := by decide +kernel
theorem dX10_moved_175 : decode cX10_moved 175 = .ok (.ifCond .ge 8, 3) := by decide +kernel
theorem dX10_moved_178 : decode cX10_moved 178 = .ok (.iload 4, 2) := by decide +kernel
theorem dX10_moved_180 : decode cX10_moved 180 = .ok (.goto 9, 3) := by decide +kernel
theorem dX10_moved_183 : decode cX10_moved 183 = .ok (.aload_n 0, 1) := by decide +kernel
theorem dX10_moved_184 : decode cX10_moved 184 = .ok (.getfield 67, 3) := by decide +kernel
theorem dX10_moved_187 : decode cX10_moved 187 = .ok (.iload_n 3, 1) := by decide +kernel
theorem dX10_moved_188 : decode cX10_moved 188 = .ok (.iaload, 1) := by decide +kernel
theorem dX10_moved_189 : decode cX10_moved 189 = .ok (.ireturn, 1) := by decide +kernel
theorem dX10_common_0 : decode cX10_common 0 = .ok (.iload_n 0, 1) := by decide +kernel
theorem dX10_common_1 : decode cX10_common 1 = .ok (.istore_n 2, 1) := by decide +kernel
theorem dX10_common_2 : decode cX10_common 2 = .ok (.iload_n 1, 1) := by decide +kernel
theorem dX10_common_3 : decode cX10_common 3 = .ok (.istore_n 3, 1) := by decide +kernel
theorem dX10_common_4 : decode cX10_common 4 = .ok (.iload_n 3, 1) := by decide +kernel
theorem dX10_common_5 : decode cX10_common 5 = .ok (.ifCond .eq 16, 3) := by decide +kernel
theorem dX10_common_8 : decode cX10_common 8 = .ok (.iload_n 2, 1) := by decide +kernel
theorem dX10_common_9 : decode cX10_common 9 = .ok (.iload_n 3, 1) := by decide +kernel
theorem dX10_common_10 : decode cX10_common 10 = .ok (.irem, 1) := by decide +kernel
theorem dX10_common_11 : decode cX10_common 11 = .ok (.istore 4, 2) := by decide +kernel
theorem dX10_common_13 : decode cX10_common 13 = .ok (.iload_n 3, 1) := by decide +kernel
theorem dX10_common_14 : decode cX10_common 14 = .ok (.istore_n 2, 1) := by decide +kernel
theorem dX10_common_15 : decode cX10_common 15 = .ok (.iload 4, 2) := by decide +kernel
theorem dX10_common_17 : decode cX10_common 17 = .ok (.istore_n 3, 1) := by decide +kernel
theorem dX10_common_18 : decode cX10_common 18 = .ok (.goto (-14), 3) := by decide +kernel
theorem dX10_common_21 : decode cX10_common 21 = .ok (.iload_n 2, 1) := by decide +kernel
theorem dX10_common_22 : decode cX10_common 22 = .ok (.ireturn, 1) := by decide +kernel
theorem dX10_part_0 : decode cX10_part 0 = .ok (.iload_n 0, 1) := by decide +kernel
theorem dX10_part_1 : decode cX10_part 1 = .ok (.iload_n 1, 1) := by decide +kernel
theorem dX10_part_2 : decode cX10_part 2 = .ok (.invokestatic 264, 3) := by decide +kernel
theorem dX10_part_5 : decode cX10_part 5 = .ok (.istore_n 3, 1) := by decide +kernel
theorem dX10_part_6 : decode cX10_part 6 = .ok (.iload_n 2, 1) := by decide +kernel
theorem dX10_part_7 : decode cX10_part 7 = .ok (.ifCond .ne 9, 3) := by decide +kernel
theorem dX10_part_10 : decode cX10_part 10 = .ok (.iload_n 0, 1) := by decide +kernel
theorem dX10_part_11 : decode cX10_part 11 = .ok (.iload_n 3, 1) := by decide +kernel
theorem dX10_part_12 : decode cX10_part 12 = .ok (.idiv, 1) := by decide +kernel
theorem dX10_part_13 : decode cX10_part 13 = .ok (.goto 6, 3) := by decide +kernel
theorem dX10_part_16 : decode cX10_part 16 = .ok (.iload_n 1, 1) := by decide +kernel
theorem dX10_part_17 : decode cX10_part 17 = .ok (.iload_n 3, 1) := by decide +kernel
theorem dX10_part_18 : decode cX10_part 18 = .ok (.idiv, 1) := by decide +kernel
theorem dX10_part_19 : decode cX10_part 19 = .ok (.ireturn, 1) := by decide +kernel
theorem dX10_hands_0 : decode cX10_hands 0 = .ok (.iload_n 1, 1) := by decide +kernel
theorem dX10_hands_1 : decode cX10_hands 1 = .ok (.i2l, 1) := by decide +kernel
theorem dX10_hands_2 : decode cX10_hands 2 = .ok (.invokestatic 143, 3) := by decide +kernel
theorem dX10_hands_5 : decode cX10_hands 5 = .ok (.ifCond .eq 13, 3) := by decide +kernel
theorem dX10_hands_8 : decode cX10_hands 8 = .ok (.iload_n 2, 1) := by decide +kernel
theorem dX10_hands_9 : decode cX10_hands 9 = .ok (.i2l, 1) := by decide +kernel
theorem dX10_hands_10 : decode cX10_hands 10 = .ok (.lconst 0, 1) := by decide +kernel
theorem dX10_hands_11 : decode cX10_hands 11 = .ok (.lconst 1, 1) := by decide +kernel
theorem dX10_hands_12 : decode cX10_hands 12 = .ok (.invokestatic 102, 3) := by decide +kernel
theorem dX10_hands_15 : decode cX10_hands 15 = .ok (.ifCond .ne 5, 3) := by decide +kernel
theorem dX10_hands_18 : decode cX10_hands 18 = .ok (.iconst (-1), 1) := by decide +kernel
theorem dX10_hands_19 : decode cX10_hands 19 = .ok (.ireturn, 1) := by decide +kernel
theorem dX10_hands_20 : decode cX10_hands 20 = .ok (.iconst 0, 1) := by decide +kernel
theorem dX10_hands_21 : decode cX10_hands 21 = .ok (.istore_n 3, 1) := by decide +kernel
theorem dX10_hands_22 : decode cX10_hands 22 = .ok (.iconst 0, 1) := by decide +kernel
theorem dX10_hands_23 : decode cX10_hands 23 = .ok (.istore 4, 2) := by decide +kernel
theorem dX10_hands_25 : decode cX10_hands 25 = .ok (.iload 4, 2) := by decide +kernel
theorem dX10_hands_27 : decode cX10_hands 27 = .ok (.aload_n 0, 1) := by decide +kernel
theorem dX10_hands_28 : decode cX10_hands 28 = .ok (.getfield 106, 3) := by decide +kernel
theorem dX10_hands_31 : decode cX10_hands 31 = .ok (.if_icmp .ge 41, 3) := by decide +kernel
theorem dX10_hands_34 : decode cX10_hands 34 = .ok (.iload_n 3, 1) := by decide +kernel
theorem dX10_hands_35 : decode cX10_hands 35 = .ok (.aload_n 0, 1) := by decide +kernel
theorem dX10_hands_36 : decode cX10_hands 36 = .ok (.aload_n 0, 1) := by decide +kernel
theorem dX10_hands_37 : decode cX10_hands 37 = .ok (.getfield 22, 3) := by decide +kernel
theorem dX10_hands_40 : decode cX10_hands 40 = .ok (.iload_n 1, 1) := by decide +kernel
theorem dX10_hands_41 : decode cX10_hands 41 = .ok (.iload 4, 2) := by decide +kernel
theorem dX10_hands_43 : decode cX10_hands 43 = .ok (.invokevirtual 201, 3) := by decide +kernel
theorem dX10_hands_46 : decode cX10_hands 46 = .ok (.aload_n 0, 1) := by decide +kernel
theorem dX10_hands_47 : decode cX10_hands 47 = .ok (.getfield 25, 3) := by decide +kernel
theorem dX10_hands_50 : decode cX10_hands 50 = .ok (.iload 4, 2) := by decide +kernel
theorem dX10_hands_52 : decode cX10_hands 52 = .ok (.iaload, 1) := by decide +kernel
theorem dX10_hands_53 : decode cX10_hands 53 = .ok (.imul, 1) := by decide +kernel
theorem dX10_hands_54 : decode cX10_hands 54 = .ok (.iconst 1, 1) := by decide +kernel
theorem dX10_hands_55 : decode cX10_hands 55 = .ok (.aload_n 0, 1) := by decide +kernel
theorem dX10_hands_56 : decode cX10_hands 56 = .ok (.getfield 28, 3) := by decide +kernel
theorem dX10_hands_59 : decode cX10_hands 59 = .ok (.iload 4, 2) := by decide +kernel
theorem dX10_hands_61 : decode cX10_hands 61 = .ok (.iaload, 1) := by decide +kernel
theorem dX10_hands_62 : decode cX10_hands 62 = .ok (.iadd, 1) := by decide +kernel
theorem dX10_hands_63 : decode cX10_hands 63 = .ok (.imul, 1) := by decide +kernel
theorem dX10_hands_64 : decode cX10_hands 64 = .ok (.iadd, 1) := by decide +kernel
theorem dX10_hands_65 : decode cX10_hands 65 = .ok (.istore_n 3, 1) := by decide +kernel
theorem dX10_hands_66 : decode cX10_hands 66 = .ok (.iinc 4 1, 3) := by decide +kernel
theorem dX10_hands_69 : decode cX10_hands 69 = .ok (.goto (-44), 3) := by decide +kernel
theorem dX10_hands_72 : decode cX10_hands 72 = .ok (.aload_n 0, 1) := by decide +kernel
theorem dX10_hands_73 : decode cX10_hands 73 = .ok (.getfield 37, 3) := by decide +kernel
theorem dX10_hands_76 : decode cX10_hands 76 = .ok (.iconst 0, 1) := by decide +kernel
theorem dX10_hands_77 : decode cX10_hands 77 = .ok (.iaload, 1) := by decide +kernel
theorem dX10_hands_78 : decode cX10_hands 78 = .ok (.aload_n 0, 1) := by decide +kernel
theorem dX10_hands_79 : decode cX10_hands 79 = .ok (.getfield 37, 3) := by decide +kernel
theorem dX10_hands_82 : decode cX10_hands 82 = .ok (.iconst 1, 1) := by decide +kernel
theorem dX10_hands_83 : decode cX10_hands 83 = .ok (.iaload, 1) := by decide +kernel
theorem dX10_hands_84 : decode cX10_hands 84 = .ok (.iadd, 1) := by decide +kernel
theorem dX10_hands_85 : decode cX10_hands 85 = .ok (.istore 4, 2) := by decide +kernel
theorem dX10_hands_87 : decode cX10_hands 87 = .ok (.iload_n 3, 1) := by decide +kernel
theorem dX10_hands_88 : decode cX10_hands 88 = .ok (.aload_n 0, 1) := by decide +kernel
theorem dX10_hands_89 : decode cX10_hands 89 = .ok (.getfield 37, 3) := by decide +kernel
theorem dX10_hands_92 : decode cX10_hands 92 = .ok (.iconst 0, 1) := by decide +kernel
theorem dX10_hands_93 : decode cX10_hands 93 = .ok (.iaload, 1) := by decide +kernel
theorem dX10_hands_94 : decode cX10_hands 94 = .ok (.imul, 1) := by decide +kernel
theorem dX10_hands_95 : decode cX10_hands 95 = .ok (.istore 5, 2) := by decide +kernel
theorem dX10_hands_97 : decode cX10_hands 97 = .ok (.iconst 0, 1) := by decide +kernel
theorem dX10_hands_98 : decode cX10_hands 98 = .ok (.istore 6, 2) := by decide +kernel
theorem dX10_hands_100 : decode cX10_hands 100 = .ok (.iload 6, 2) := by decide +kernel
theorem dX10_hands_102 : decode cX10_hands 102 = .ok (.aload_n 0, 1) := by decide +kernel
theorem dX10_hands_103 : decode cX10_hands 103 = .ok (.getfield 106, 3) := by decide +kernel
theorem dX10_hands_106 : decode cX10_hands 106 = .ok (.if_icmp .ge 88, 3) := by decide +kernel
theorem dX10_hands_109 : decode cX10_hands 109 = .ok (.iload_n 3, 1) := by decide +kernel
theorem dX10_hands_110 : decode cX10_hands 110 = .ok (.ifCond .le 84, 3) := by decide +kernel
theorem dX10_hands_113 : decode cX10_hands 113 = .ok (.aload_n 0, 1) := by decide +kernel
theorem dX10_hands_114 : decode cX10_hands 114 = .ok (.aload_n 0, 1) := by decide +kernel
theorem dX10_hands_115 : decode cX10_hands 115 = .ok (.getfield 22, 3) := by decide +kernel
theorem dX10_hands_118 : decode cX10_hands 118 = .ok (.iload_n 1, 1) := by decide +kernel
theorem dX10_hands_119 : decode cX10_hands 119 = .ok (.iload 6, 2) := by decide +kernel
theorem dX10_hands_121 : decode cX10_hands 121 = .ok (.invokevirtual 201, 3) := by decide +kernel
theorem dX10_hands_124 : decode cX10_hands 124 = .ok (.iconst 1, 1) := by decide +kernel
theorem dX10_hands_125 : decode cX10_hands 125 = .ok (.aload_n 0, 1) := by decide +kernel
theorem dX10_hands_126 : decode cX10_hands 126 = .ok (.getfield 28, 3) := by decide +kernel
theorem dX10_hands_129 : decode cX10_hands 129 = .ok (.iload 6, 2) := by decide +kernel
theorem dX10_hands_131 : decode cX10_hands 131 = .ok (.iaload, 1) := by decide +kernel
theorem dX10_hands_132 : decode cX10_hands 132 = .ok (.iadd, 1) := by decide +kernel
theorem dX10_hands_133 : decode cX10_hands 133 = .ok (.imul, 1) := by decide +kernel
theorem dX10_hands_134 : decode cX10_hands 134 = .ok (.iload 4, 2) := by decide +kernel
theorem dX10_hands_136 : decode cX10_hands 136 = .ok (.imul, 1) := by decide +kernel
theorem dX10_hands_137 : decode cX10_hands 137 = .ok (.istore 7, 2) := by decide +kernel
theorem dX10_hands_139 : decode cX10_hands 139 = .ok (.iload 7, 2) := by decide +kernel
theorem dX10_hands_141 : decode cX10_hands 141 = .ok (.aload_n 0, 1) := by decide +kernel
theorem dX10_hands_142 : decode cX10_hands 142 = .ok (.getfield 25, 3) := by decide +kernel
theorem dX10_hands_145 : decode cX10_hands 145 = .ok (.iload 6, 2) := by decide +kernel
theorem dX10_hands_147 : decode cX10_hands 147 = .ok (.iaload, 1) := by decide +kernel
theorem dX10_hands_148 : decode cX10_hands 148 = .ok (.imul, 1) := by decide +kernel
theorem dX10_hands_149 : decode cX10_hands 149 = .ok (.iload 5, 2) := by decide +kernel
theorem dX10_hands_151 : decode cX10_hands 151 = .ok (.if_icmp .lt 22, 3) := by decide +kernel
theorem dX10_hands_154 : decode cX10_hands 154 = .ok (.aload_n 0, 1) := by decide +kernel
theorem dX10_hands_155 : decode cX10_hands 155 = .ok (.iload 6, 2) := by decide +kernel
theorem dX10_hands_157 : decode cX10_hands 157 = .ok (.invokevirtual 155, 3) := by decide +kernel
theorem dX10_hands_160 : decode cX10_hands 160 = .ok (.iload 7, 2) := by decide +kernel
theorem dX10_hands_162 : decode cX10_hands 162 = .ok (.imul, 1) := by decide +kernel
theorem dX10_hands_163 : decode cX10_hands 163 = .ok (.iload 5, 2) := by decide +kernel
theorem dX10_hands_165 : decode cX10_hands 165 = .ok (.iadd, 1) := by decide +kernel
theorem dX10_hands_166 : decode cX10_hands 166 = .ok (.iload 7, 2) := by decide +kernel
theorem dX10_hands_168 : decode cX10_hands 168 = .ok (.iload_n 2, 1) := by decide +kernel
theorem dX10_hands_169 : decode cX10_hands 169 = .ok (.invokestatic 267, 3) := by decide +kernel
theorem dX10_hands_172 : decode cX10_hands 172 = .ok (.ireturn, 1) := by decide +kernel
theorem dX10_hands_173 : decode cX10_hands 173 = .ok (.iload 5, 2) := by decide +kernel
theorem dX10_hands_175 : decode cX10_hands 175 = .ok (.iload 7, 2) := by decide +kernel
theorem dX10_hands_177 : decode cX10_hands 177 = .ok (.aload_n 0, 1) := by decide +kernel
theorem dX10_hands_178 : decode cX10_hands 178 = .ok (.getfield 25, 3) := by decide +kernel
theorem dX10_hands_181 : decode cX10_hands 181 = .ok (.iload 6, 2) := by decide +kernel
theorem dX10_hands_183 : decode cX10_hands 183 = .ok (.iaload, 1) := by decide +kernel
theorem dX10_hands_184 : decode cX10_hands 184 = .ok (.imul, 1) := by decide +kernel
theorem dX10_hands_185 : decode cX10_hands 185 = .ok (.isub, 1) := by decide +kernel
theorem dX10_hands_186 : decode cX10_hands 186 = .ok (.istore 5, 2) := by decide +kernel
theorem dX10_hands_188 : decode cX10_hands 188 = .ok (.iinc 6 1, 3) := by decide +kernel
theorem dX10_hands_191 : decode cX10_hands 191 = .ok (.goto (-91), 3) := by decide +kernel
theorem dX10_hands_194 : decode cX10_hands 194 = .ok (.iload_n 2, 1) := by decide +kernel
theorem dX10_hands_195 : decode cX10_hands 195 = .ok (.ireturn, 1) := by decide +kernel
theorem dX10_paper_0 : decode cX10_paper 0 = .ok (.iload_n 1, 1) := by decide +kernel
theorem dX10_paper_1 : decode cX10_paper 1 = .ok (.i2l, 1) := by decide +kernel
theorem dX10_paper_2 : decode cX10_paper 2 = .ok (.invokestatic 143, 3) := by decide +kernel
theorem dX10_paper_5 : decode cX10_paper 5 = .ok (.ifCond .eq 13, 3) := by decide +kernel
theorem dX10_paper_8 : decode cX10_paper 8 = .ok (.iload_n 2, 1) := by decide +kernel
theorem dX10_paper_9 : decode cX10_paper 9 = .ok (.i2l, 1) := by decide +kernel
theorem dX10_paper_10 : decode cX10_paper 10 = .ok (.lconst 0, 1) := by decide +kernel
theorem dX10_paper_11 : decode cX10_paper 11 = .ok (.lconst 1, 1) := by decide +kernel
theorem dX10_paper_12 : decode cX10_paper 12 = .ok (.invokestatic 102, 3) := by decide +kernel
theorem dX10_paper_15 : decode cX10_paper 15 = .ok (.ifCond .ne 5, 3) := by decide +kernel
theorem dX10_paper_18 : decode cX10_paper 18 = .ok (.iconst (-1), 1) := by decide +kernel
theorem dX10_paper_19 : decode cX10_paper 19 = .ok (.ireturn, 1) := by decide +kernel
theorem dX10_paper_20 : decode cX10_paper 20 = .ok (.aload_n 0, 1) := by decide +kernel
theorem dX10_paper_21 : decode cX10_paper 21 = .ok (.getfield 34, 3) := by decide +kernel
theorem dX10_paper_24 : decode cX10_paper 24 = .ok (.iload_n 1, 1) := by decide +kernel
theorem dX10_paper_25 : decode cX10_paper 25 = .ok (.iaload, 1) := by decide +kernel
theorem dX10_paper_26 : decode cX10_paper 26 = .ok (.istore_n 3, 1) := by decide +kernel
theorem dX10_paper_27 : decode cX10_paper 27 = .ok (.iconst 0, 1) := by decide +kernel
theorem dX10_paper_28 : decode cX10_paper 28 = .ok (.istore 4, 2) := by decide +kernel
theorem dX10_paper_30 : decode cX10_paper 30 = .ok (.iload 4, 2) := by decide +kernel
theorem dX10_paper_32 : decode cX10_paper 32 = .ok (.aload_n 0, 1) := by decide +kernel
theorem dX10_paper_33 : decode cX10_paper 33 = .ok (.getfield 106, 3) := by decide +kernel
theorem dX10_paper_36 : decode cX10_paper 36 = .ok (.if_icmp .ge 125, 3) := by decide +kernel
theorem dX10_paper_39 : decode cX10_paper 39 = .ok (.aload_n 0, 1) := by decide +kernel
theorem dX10_paper_40 : decode cX10_paper 40 = .ok (.getfield 34, 3) := by decide +kernel
theorem dX10_paper_43 : decode cX10_paper 43 = .ok (.iload_n 1, 1) := by decide +kernel
theorem dX10_paper_44 : decode cX10_paper 44 = .ok (.iaload, 1) := by decide +kernel
theorem dX10_paper_45 : decode cX10_paper 45 = .ok (.ifCond .le 116, 3) := by decide +kernel
theorem dX10_paper_48 : decode cX10_paper 48 = .ok (.iconst 0, 1) := by decide +kernel
theorem dX10_paper_49 : decode cX10_paper 49 = .ok (.istore 5, 2) := by decide +kernel
theorem dX10_paper_51 : decode cX10_paper 51 = .ok (.iconst 0, 1) := by decide +kernel
theorem dX10_paper_52 : decode cX10_paper 52 = .ok (.istore 6, 2) := by decide +kernel
theorem dX10_paper_54 : decode cX10_paper 54 = .ok (.iload 6, 2) := by decide +kernel
theorem dX10_paper_56 : decode cX10_paper 56 = .ok (.aload_n 0, 1) := by decide +kernel
theorem dX10_paper_57 : decode cX10_paper 57 = .ok (.getfield 98, 3) := by decide +kernel
theorem dX10_paper_60 : decode cX10_paper 60 = .ok (.if_icmp .ge 50, 3) := by decide +kernel
theorem dX10_paper_63 : decode cX10_paper 63 = .ok (.iload 5, 2) := by decide +kernel
theorem dX10_paper_65 : decode cX10_paper 65 = .ok (.aload_n 0, 1) := by decide +kernel
theorem dX10_paper_66 : decode cX10_paper 66 = .ok (.getfield 22, 3) := by decide +kernel
theorem dX10_paper_69 : decode cX10_paper 69 = .ok (.iload 6, 2) := by decide +kernel
theorem dX10_paper_71 : decode cX10_paper 71 = .ok (.iaload, 1) := by decide +kernel
theorem dX10_paper_72 : decode cX10_paper 72 = .ok (.iload_n 1, 1) := by decide +kernel
theorem dX10_paper_73 : decode cX10_paper 73 = .ok (.if_icmp .ne 27, 3) := by decide +kernel
theorem dX10_paper_76 : decode cX10_paper 76 = .ok (.aload_n 0, 1) := by decide +kernel
theorem dX10_paper_77 : decode cX10_paper 77 = .ok (.getfield 7, 3) := by decide +kernel
theorem dX10_paper_80 : decode cX10_paper 80 = .ok (.iload 6, 2) := by decide +kernel
theorem dX10_paper_82 : decode cX10_paper 82 = .ok (.iaload, 1) := by decide +kernel
theorem dX10_paper_83 : decode cX10_paper 83 = .ok (.iconst 2, 1) := by decide +kernel
theorem dX10_paper_84 : decode cX10_paper 84 = .ok (.irem, 1) := by decide +kernel
theorem dX10_paper_85 : decode cX10_paper 85 = .ok (.iconst 1, 1) := by decide +kernel
theorem dX10_paper_86 : decode cX10_paper 86 = .ok (.if_icmp .ne 14, 3) := by decide +kernel
theorem dX10_paper_89 : decode cX10_paper 89 = .ok (.aload_n 0, 1) := by decide +kernel
theorem dX10_paper_90 : decode cX10_paper 90 = .ok (.iload 6, 2) := by decide +kernel
theorem dX10_paper_92 : decode cX10_paper 92 = .ok (.iload 4, 2) := by decide +kernel
theorem dX10_paper_94 : decode cX10_paper 94 = .ok (.invokevirtual 198, 3) := by decide +kernel
theorem dX10_paper_97 : decode cX10_paper 97 = .ok (.goto 4, 3) := by decide +kernel
theorem dX10_paper_100 : decode cX10_paper 100 = .ok (.iconst 0, 1) := by decide +kernel
theorem dX10_paper_101 : decode cX10_paper 101 = .ok (.iadd, 1) := by decide +kernel
theorem dX10_paper_102 : decode cX10_paper 102 = .ok (.istore 5, 2) := by decide +kernel
theorem dX10_paper_104 : decode cX10_paper 104 = .ok (.iinc 6 1, 3) := by decide +kernel
theorem dX10_paper_107 : decode cX10_paper 107 = .ok (.goto (-53), 3) := by decide +kernel
theorem dX10_paper_110 : decode cX10_paper 110 = .ok (.iload 5, 2) := by decide +kernel
theorem dX10_paper_112 : decode cX10_paper 112 = .ok (.aload_n 0, 1) := by decide +kernel
theorem dX10_paper_113 : decode cX10_paper 113 = .ok (.getfield 25, 3) := by decide +kernel
theorem dX10_paper_116 : decode cX10_paper 116 = .ok (.iload 4, 2) := by decide +kernel
theorem dX10_paper_118 : decode cX10_paper 118 = .ok (.iaload, 1) := by decide +kernel
theorem dX10_paper_119 : decode cX10_paper 119 = .ok (.imul, 1) := by decide +kernel
theorem dX10_paper_120 : decode cX10_paper 120 = .ok (.iload_n 3, 1) := by decide +kernel
theorem dX10_paper_121 : decode cX10_paper 121 = .ok (.if_icmp .lt 21, 3) := by decide +kernel
theorem dX10_paper_124 : decode cX10_paper 124 = .ok (.aload_n 0, 1) := by decide +kernel
theorem dX10_paper_125 : decode cX10_paper 125 = .ok (.iload 4, 2) := by decide +kernel
theorem dX10_paper_127 : decode cX10_paper 127 = .ok (.invokevirtual 155, 3) := by decide +kernel
theorem dX10_paper_130 : decode cX10_paper 130 = .ok (.iload 5, 2) := by decide +kernel
theorem dX10_paper_132 : decode cX10_paper 132 = .ok (.imul, 1) := by decide +kernel
theorem dX10_paper_133 : decode cX10_paper 133 = .ok (.iload_n 3, 1) := by decide +kernel
theorem dX10_paper_134 : decode cX10_paper 134 = .ok (.iadd, 1) := by decide +kernel
theorem dX10_paper_135 : decode cX10_paper 135 = .ok (.iload 5, 2) := by decide +kernel
theorem dX10_paper_137 : decode cX10_paper 137 = .ok (.iload_n 2, 1) := by decide +kernel
theorem dX10_paper_138 : decode cX10_paper 138 = .ok (.invokestatic 267, 3) := by decide +kernel
theorem dX10_paper_141 : decode cX10_paper 141 = .ok (.ireturn, 1) := by decide +kernel
theorem dX10_paper_142 : decode cX10_paper 142 = .ok (.iload_n 3, 1) := by decide +kernel
theorem dX10_paper_143 : decode cX10_paper 143 = .ok (.iload 5, 2) := by decide +kernel
theorem dX10_paper_145 : decode cX10_paper 145 = .ok (.aload_n 0, 1) := by decide +kernel
theorem dX10_paper_146 : decode cX10_paper 146 = .ok (.getfield 25, 3) := by decide +kernel
theorem dX10_paper_149 : decode cX10_paper 149 = .ok (.iload 4, 2) := by decide +kernel
theorem dX10_paper_151 : decode cX10_paper 151 = .ok (.iaload, 1) := by decide +kernel
theorem dX10_paper_152 : decode cX10_paper 152 = .ok (.imul, 1) := by decide +kernel
theorem dX10_paper_153 : decode cX10_paper 153 = .ok (.isub, 1) := by decide +kernel
theorem dX10_paper_154 : decode cX10_paper 154 = .ok (.istore_n 3, 1) := by decide +kernel
theorem dX10_paper_155 : decode cX10_paper 155 = .ok (.iinc 4 1, 3) := by decide +kernel
theorem dX10_paper_158 : decode cX10_paper 158 = .ok (.goto (-128), 3) := by decide +kernel
theorem dX10_paper_161 : decode cX10_paper 161 = .ok (.bipush (-4), 2) := by decide +kernel
theorem dX10_paper_163 : decode cX10_paper 163 = .ok (.ireturn, 1) := by decide +kernel
theorem dX10_pole_0 : decode cX10_pole 0 = .ok (.aload_n 0, 1) := by decide +kernel
theorem dX10_pole_1 : decode cX10_pole 1 = .ok (.iload_n 1, 1) := by decide +kernel
theorem dX10_pole_2 : decode cX10_pole 2 = .ok (.i2l, 1) := by decide +kernel
theorem dX10_pole_3 : decode cX10_pole 3 = .ok (.invokevirtual 122, 3) := by decide +kernel
theorem dX10_pole_6 : decode cX10_pole 6 = .ok (.ifCond .eq 40, 3) := by decide +kernel
theorem dX10_pole_9 : decode cX10_pole 9 = .ok (.aload_n 0, 1) := by decide +kernel
theorem dX10_pole_10 : decode cX10_pole 10 = .ok (.iload_n 2, 1) := by decide +kernel
theorem dX10_pole_11 : decode cX10_pole 11 = .ok (.i2l, 1) := by decide +kernel
theorem dX10_pole_12 : decode cX10_pole 12 = .ok (.invokevirtual 122, 3) := by decide +kernel
theorem dX10_pole_15 : decode cX10_pole 15 = .ok (.ifCond .eq 31, 3) := by decide +kernel
theorem dX10_pole_18 : decode cX10_pole 18 = .ok (.iload_n 1, 1) := by decide +kernel
theorem dX10_pole_19 : decode cX10_pole 19 = .ok (.iload_n 2, 1) := by decide +kernel
theorem dX10_pole_20 : decode cX10_pole 20 = .ok (.if_icmp .eq 26, 3) := by decide +kernel
theorem dX10_pole_23 : decode cX10_pole 23 = .ok (.iload_n 3, 1) := by decide +kernel
theorem dX10_pole_24 : decode cX10_pole 24 = .ok (.i2l, 1) := by decide +kernel
theorem dX10_pole_25 : decode cX10_pole 25 = .ok (.lconst 1, 1) := by decide +kernel
theorem dX10_pole_26 : decode cX10_pole 26 = .ok (.ldc2_w 146, 3) := by decide +kernel
theorem dX10_pole_29 : decode cX10_pole 29 = .ok (.invokestatic 102, 3) := by decide +kernel
theorem dX10_pole_32 : decode cX10_pole 32 = .ok (.ifCond .eq 14, 3) := by decide +kernel
theorem dX10_pole_35 : decode cX10_pole 35 = .ok (.iload 4, 2) := by decide +kernel
theorem dX10_pole_37 : decode cX10_pole 37 = .ok (.i2l, 1) := by decide +kernel
theorem dX10_pole_38 : decode cX10_pole 38 = .ok (.lconst 0, 1) := by decide +kernel
theorem dX10_pole_39 : decode cX10_pole 39 = .ok (.lconst 1, 1) := by decide +kernel
theorem dX10_pole_40 : decode cX10_pole 40 = .ok (.invokestatic 102, 3) := by decide +kernel
theorem dX10_pole_43 : decode cX10_pole 43 = .ok (.ifCond .ne 5, 3) := by decide +kernel
theorem dX10_pole_46 : decode cX10_pole 46 = .ok (.iconst (-1), 1) := by decide +kernel
theorem dX10_pole_47 : decode cX10_pole 47 = .ok (.ireturn, 1) := by decide +kernel
theorem dX10_pole_48 : decode cX10_pole 48 = .ok (.iload_n 3, 1) := by decide +kernel
theorem dX10_pole_49 : decode cX10_pole 49 = .ok (.aload_n 0, 1) := by decide +kernel
theorem dX10_pole_50 : decode cX10_pole 50 = .ok (.getfield 13, 3) := by decide +kernel
theorem dX10_pole_53 : decode cX10_pole 53 = .ok (.iload_n 2, 1) := by decide +kernel
theorem dX10_pole_54 : decode cX10_pole 54 = .ok (.iaload, 1) := by decide +kernel
theorem dX10_pole_55 : decode cX10_pole 55 = .ok (.imul, 1) := by decide +kernel
theorem dX10_pole_56 : decode cX10_pole 56 = .ok (.aload_n 0, 1) := by decide +kernel
theorem dX10_pole_57 : decode cX10_pole 57 = .ok (.getfield 13, 3) := by decide +kernel
theorem dX10_pole_60 : decode cX10_pole 60 = .ok (.iload_n 1, 1) := by decide +kernel
theorem dX10_pole_61 : decode cX10_pole 61 = .ok (.iaload, 1) := by decide +kernel
theorem dX10_pole_62 : decode cX10_pole 62 = .ok (.aload_n 0, 1) := by decide +kernel
theorem dX10_pole_63 : decode cX10_pole 63 = .ok (.getfield 13, 3) := by decide +kernel
theorem dX10_pole_66 : decode cX10_pole 66 = .ok (.iload_n 2, 1) := by decide +kernel
theorem dX10_pole_67 : decode cX10_pole 67 = .ok (.iaload, 1) := by decide +kernel
theorem dX10_pole_68 : decode cX10_pole 68 = .ok (.iadd, 1) := by decide +kernel
theorem dX10_pole_69 : decode cX10_pole 69 = .ok (.iload 4, 2) := by decide +kernel
theorem dX10_pole_71 : decode cX10_pole 71 = .ok (.invokestatic 267, 3) := by decide +kernel
theorem dX10_pole_74 : decode cX10_pole 74 = .ok (.ireturn, 1) := by decide +kernel
theorem dX10_apart_0 : decode cX10_apart 0 = .ok (.aload_n 0, 1) := by decide +kernel
theorem dX10_apart_1 : decode cX10_apart 1 = .ok (.aload_n 0, 1) := by decide +kernel
theorem dX10_apart_2 : decode cX10_apart 2 = .ok (.getfield 19, 3) := by decide +kernel
theorem dX10_apart_5 : decode cX10_apart 5 = .ok (.iload_n 1, 1) := by decide +kernel
theorem dX10_apart_6 : decode cX10_apart 6 = .ok (.iaload, 1) := by decide +kernel
theorem dX10_apart_7 : decode cX10_apart 7 = .ok (.aload_n 0, 1) := by decide +kernel
theorem dX10_apart_8 : decode cX10_apart 8 = .ok (.getfield 19, 3) := by decide +kernel
theorem dX10_apart_11 : decode cX10_apart 11 = .ok (.iload_n 2, 1) := by decide +kernel
theorem dX10_apart_12 : decode cX10_apart 12 = .ok (.iaload, 1) := by decide +kernel
theorem dX10_apart_13 : decode cX10_apart 13 = .ok (.isub, 1) := by decide +kernel
theorem dX10_apart_14 : decode cX10_apart 14 = .ok (.invokevirtual 230, 3) := by decide +kernel
theorem dX10_apart_17 : decode cX10_apart 17 = .ok (.ireturn, 1) := by decide +kernel
theorem dX10_bought_0 : decode cX10_bought 0 = .ok (.iconst 0, 1) := by decide +kernel
theorem dX10_bought_1 : decode cX10_bought 1 = .ok (.istore_n 2, 1) := by decide +kernel
theorem dX10_bought_2 : decode cX10_bought 2 = .ok (.iconst 0, 1) := by decide +kernel
theorem dX10_bought_3 : decode cX10_bought 3 = .ok (.istore_n 3, 1) := by decide +kernel
theorem dX10_bought_4 : decode cX10_bought 4 = .ok (.iload_n 3, 1) := by decide +kernel
theorem dX10_bought_5 : decode cX10_bought 5 = .ok (.aload_n 0, 1) := by decide +kernel
theorem dX10_bought_6 : decode cX10_bought 6 = .ok (.getfield 98, 3) := by decide +kernel
theorem dX10_bought_9 : decode cX10_bought 9 = .ok (.if_icmp .ge 31, 3) := by decide +kernel
theorem dX10_bought_12 : decode cX10_bought 12 = .ok (.iload_n 2, 1) := by decide +kernel
theorem dX10_bought_13 : decode cX10_bought 13 = .ok (.iload_n 1, 1) := by decide +kernel
theorem dX10_bought_14 : decode cX10_bought 14 = .ok (.iload_n 3, 1) := by decide +kernel
theorem dX10_bought_15 : decode cX10_bought 15 = .ok (.ishr, 1) := by decide +kernel
theorem dX10_bought_16 : decode cX10_bought 16 = .ok (.iconst 1, 1) := by decide +kernel
theorem dX10_bought_17 : decode cX10_bought 17 = .ok (.iand, 1) := by decide +kernel
theorem dX10_bought_18 : decode cX10_bought 18 = .ok (.iconst 1, 1) := by decide +kernel
theorem dX10_bought_19 : decode cX10_bought 19 = .ok (.if_icmp .ne 12, 3) := by decide +kernel
theorem dX10_bought_22 : decode cX10_bought 22 = .ok (.aload_n 0, 1) := by decide +kernel
theorem dX10_bought_23 : decode cX10_bought 23 = .ok (.getfield 13, 3) := by decide +kernel
theorem dX10_bought_26 : decode cX10_bought 26 = .ok (.iload_n 3, 1) := by decide +kernel
theorem dX10_bought_27 : decode cX10_bought 27 = .ok (.iaload, 1) := by decide +kernel
theorem dX10_bought_28 : decode cX10_bought 28 = .ok (.goto 4, 3) := by decide +kernel
theorem dX10_bought_31 : decode cX10_bought 31 = .ok (.iconst 0, 1) := by decide +kernel
theorem dX10_bought_32 : decode cX10_bought 32 = .ok (.iadd, 1) := by decide +kernel
theorem dX10_bought_33 : decode cX10_bought 33 = .ok (.istore_n 2, 1) := by decide +kernel
theorem dX10_bought_34 : decode cX10_bought 34 = .ok (.iinc 3 1, 3) := by decide +kernel
theorem dX10_bought_37 : decode cX10_bought 37 = .ok (.goto (-33), 3) := by decide +kernel
theorem dX10_bought_40 : decode cX10_bought 40 = .ok (.iload_n 2, 1) := by decide +kernel
theorem dX10_bought_41 : decode cX10_bought 41 = .ok (.ireturn, 1) := by decide +kernel
theorem dX10_onFrom_0 : decode cX10_onFrom 0 = .ok (.iconst 1, 1) := by decide +kernel
theorem dX10_onFrom_1 : decode cX10_onFrom 1 = .ok (.aload_n 0, 1) := by decide +kernel
theorem dX10_onFrom_2 : decode cX10_onFrom 2 = .ok (.getfield 98, 3) := by decide +kernel
theorem dX10_onFrom_5 : decode cX10_onFrom 5 = .ok (.ishl, 1) := by decide +kernel
theorem dX10_onFrom_6 : decode cX10_onFrom 6 = .ok (.iconst 1, 1) := by decide +kernel
theorem dX10_onFrom_7 : decode cX10_onFrom 7 = .ok (.isub, 1) := by decide +kernel
theorem dX10_onFrom_8 : decode cX10_onFrom 8 = .ok (.istore_n 3, 1) := by decide +kernel
theorem dX10_onFrom_9 : decode cX10_onFrom 9 = .ok (.iload_n 1, 1) := by decide +kernel
theorem dX10_onFrom_10 : decode cX10_onFrom 10 = .ok (.iload_n 3, 1) := by decide +kernel
theorem dX10_onFrom_11 : decode cX10_onFrom 11 = .ok (.if_icmp .ne 23, 3) := by decide +kernel
theorem dX10_onFrom_14 : decode cX10_onFrom 14 = .ok (.aload_n 0, 1) := by decide +kernel
theorem dX10_onFrom_15 : decode cX10_onFrom 15 = .ok (.aload_n 0, 1) := by decide +kernel
theorem dX10_onFrom_16 : decode cX10_onFrom 16 = .ok (.getfield 19, 3) := by decide +kernel
theorem dX10_onFrom_19 : decode cX10_onFrom 19 = .ok (.iload_n 2, 1) := by decide +kernel
theorem dX10_onFrom_20 : decode cX10_onFrom 20 = .ok (.iaload, 1) := by decide +kernel
theorem dX10_onFrom_21 : decode cX10_onFrom 21 = .ok (.bipush 50, 2) := by decide +kernel
theorem dX10_onFrom_23 : decode cX10_onFrom 23 = .ok (.isub, 1) := by decide +kernel
theorem dX10_onFrom_24 : decode cX10_onFrom 24 = .ok (.invokevirtual 230, 3) := by decide +kernel
theorem dX10_onFrom_27 : decode cX10_onFrom 27 = .ok (.aload_n 0, 1) := by decide +kernel
theorem dX10_onFrom_28 : decode cX10_onFrom 28 = .ok (.iload_n 3, 1) := by decide +kernel
theorem dX10_onFrom_29 : decode cX10_onFrom 29 = .ok (.invokevirtual 271, 3) := by decide +kernel
theorem dX10_onFrom_32 : decode cX10_onFrom 32 = .ok (.imul, 1) := by decide +kernel
theorem dX10_onFrom_33 : decode cX10_onFrom 33 = .ok (.ireturn, 1) := by decide +kernel
theorem dX10_onFrom_34 : decode cX10_onFrom 34 = .ok (.iconst (-1), 1) := by decide +kernel
theorem dX10_onFrom_35 : decode cX10_onFrom 35 = .ok (.istore 4, 2) := by decide +kernel
theorem dX10_onFrom_37 : decode cX10_onFrom 37 = .ok (.iconst 0, 1) := by decide +kernel
theorem dX10_onFrom_38 : decode cX10_onFrom 38 = .ok (.istore 5, 2) := by decide +kernel
theorem dX10_onFrom_40 : decode cX10_onFrom 40 = .ok (.iload 5, 2) := by decide +kernel
theorem dX10_onFrom_42 : decode cX10_onFrom 42 = .ok (.aload_n 0, 1) := by decide +kernel
theorem dX10_onFrom_43 : decode cX10_onFrom 43 = .ok (.getfield 98, 3) := by decide +kernel
theorem dX10_onFrom_46 : decode cX10_onFrom 46 = .ok (.if_icmp .ge 72, 3) := by decide +kernel
theorem dX10_onFrom_49 : decode cX10_onFrom 49 = .ok (.iload_n 1, 1) := by decide +kernel
theorem dX10_onFrom_50 : decode cX10_onFrom 50 = .ok (.iload 5, 2) := by decide +kernel
theorem dX10_onFrom_52 : decode cX10_onFrom 52 = .ok (.ishr, 1) := by decide +kernel
theorem dX10_onFrom_53 : decode cX10_onFrom 53 = .ok (.iconst 1, 1) := by decide +kernel
theorem dX10_onFrom_54 : decode cX10_onFrom 54 = .ok (.iand, 1) := by decide +kernel
theorem dX10_onFrom_55 : decode cX10_onFrom 55 = .ok (.ifCond .ne 57, 3) := by decide +kernel
theorem dX10_onFrom_58 : decode cX10_onFrom 58 = .ok (.aload_n 0, 1) := by decide +kernel
theorem dX10_onFrom_59 : decode cX10_onFrom 59 = .ok (.iload_n 2, 1) := by decide +kernel
theorem dX10_onFrom_60 : decode cX10_onFrom 60 = .ok (.iload 5, 2) := by decide +kernel
theorem dX10_onFrom_62 : decode cX10_onFrom 62 = .ok (.invokevirtual 274, 3) := by decide +kernel
theorem dX10_onFrom_65 : decode cX10_onFrom 65 = .ok (.aload_n 0, 1) := by decide +kernel
theorem dX10_onFrom_66 : decode cX10_onFrom 66 = .ok (.iload_n 1, 1) := by decide +kernel
theorem dX10_onFrom_67 : decode cX10_onFrom 67 = .ok (.invokevirtual 271, 3) := by decide +kernel
theorem dX10_onFrom_70 : decode cX10_onFrom 70 = .ok (.imul, 1) := by decide +kernel
theorem dX10_onFrom_71 : decode cX10_onFrom 71 = .ok (.aload_n 0, 1) := by decide +kernel
theorem dX10_onFrom_72 : decode cX10_onFrom 72 = .ok (.getfield 70, 3) := by decide +kernel
theorem dX10_onFrom_75 : decode cX10_onFrom 75 = .ok (.bipush 10, 2) := by decide +kernel
theorem dX10_onFrom_77 : decode cX10_onFrom 77 = .ok (.iload_n 1, 1) := by decide +kernel
theorem dX10_onFrom_78 : decode cX10_onFrom 78 = .ok (.iconst 1, 1) := by decide +kernel
theorem dX10_onFrom_79 : decode cX10_onFrom 79 = .ok (.iload 5, 2) := by decide +kernel
theorem dX10_onFrom_81 : decode cX10_onFrom 81 = .ok (.ishl, 1) := by decide +kernel
theorem dX10_onFrom_82 : decode cX10_onFrom 82 = .ok (.ior, 1) := by decide +kernel
theorem dX10_onFrom_83 : decode cX10_onFrom 83 = .ok (.imul, 1) := by decide +kernel
theorem dX10_onFrom_84 : decode cX10_onFrom 84 = .ok (.iload 5, 2) := by decide +kernel
theorem dX10_onFrom_86 : decode cX10_onFrom 86 = .ok (.iadd, 1) := by decide +kernel
theorem dX10_onFrom_87 : decode cX10_onFrom 87 = .ok (.iaload, 1) := by decide +kernel
theorem dX10_onFrom_88 : decode cX10_onFrom 88 = .ok (.iadd, 1) := by decide +kernel
theorem dX10_onFrom_89 : decode cX10_onFrom 89 = .ok (.istore 6, 2) := by decide +kernel
theorem dX10_onFrom_91 : decode cX10_onFrom 91 = .ok (.iload 4, 2) := by decide +kernel
theorem dX10_onFrom_93 : decode cX10_onFrom 93 = .ok (.ifCond .lt 10, 3) := by decide +kernel
theorem dX10_onFrom_96 : decode cX10_onFrom 96 = .ok (.iload 6, 2) := by decide +kernel
theorem dX10_onFrom_98 : decode cX10_onFrom 98 = .ok (.iload 4, 2) := by decide +kernel
theorem dX10_onFrom_100 : decode cX10_onFrom 100 = .ok (.if_icmp .ge 8, 3) := by decide +kernel
theorem dX10_onFrom_103 : decode cX10_onFrom 103 = .ok (.iload 6, 2) := by decide +kernel
theorem dX10_onFrom_105 : decode cX10_onFrom 105 = .ok (.goto 5, 3) := by decide +kernel
theorem dX10_onFrom_108 : decode cX10_onFrom 108 = .ok (.iload 4, 2) := by decide +kernel
theorem dX10_onFrom_110 : decode cX10_onFrom 110 = .ok (.istore 4, 2) := by decide +kernel
theorem dX10_onFrom_112 : decode cX10_onFrom 112 = .ok (.iinc 5 1, 3) := by decide +kernel
theorem dX10_onFrom_115 : decode cX10_onFrom 115 = .ok (.goto (-75), 3) := by decide +kernel
theorem dX10_onFrom_118 : decode cX10_onFrom 118 = .ok (.iload 4, 2) := by decide +kernel
theorem dX10_onFrom_120 : decode cX10_onFrom 120 = .ok (.ireturn, 1) := by decide +kernel
theorem dX10_buying_0 : decode cX10_buying 0 = .ok (.iload_n 1, 1) := by decide +kernel
theorem dX10_buying_1 : decode cX10_buying 1 = .ok (.iconst (-1), 1) := by decide +kernel
theorem dX10_buying_2 : decode cX10_buying 2 = .ok (.if_icmp .eq 14, 3) := by decide +kernel
theorem dX10_buying_5 : decode cX10_buying 5 = .ok (.aload_n 0, 1) := by decide +kernel
theorem dX10_buying_6 : decode cX10_buying 6 = .ok (.iload_n 1, 1) := by decide +kernel
theorem dX10_buying_7 : decode cX10_buying 7 = .ok (.i2l, 1) := by decide +kernel
theorem dX10_buying_8 : decode cX10_buying 8 = .ok (.invokevirtual 122, 3) := by decide +kernel
theorem dX10_buying_11 : decode cX10_buying 11 = .ok (.ifCond .ne 5, 3) := by decide +kernel
theorem dX10_buying_14 : decode cX10_buying 14 = .ok (.iconst (-1), 1) := by decide +kernel
theorem dX10_buying_15 : decode cX10_buying 15 = .ok (.ireturn, 1) := by decide +kernel
theorem dX10_buying_16 : decode cX10_buying 16 = .ok (.iconst 1, 1) := by decide +kernel
theorem dX10_buying_17 : decode cX10_buying 17 = .ok (.aload_n 0, 1) := by decide +kernel
theorem dX10_buying_18 : decode cX10_buying 18 = .ok (.getfield 98, 3) := by decide +kernel
theorem dX10_buying_21 : decode cX10_buying 21 = .ok (.ishl, 1) := by decide +kernel
theorem dX10_buying_22 : decode cX10_buying 22 = .ok (.iconst 1, 1) := by decide +kernel
theorem dX10_buying_23 : decode cX10_buying 23 = .ok (.isub, 1) := by decide +kernel
theorem dX10_buying_24 : decode cX10_buying 24 = .ok (.istore_n 2, 1) := by decide +kernel
theorem dX10_buying_25 : decode cX10_buying 25 = .ok (.iload_n 2, 1) := by decide +kernel
theorem dX10_buying_26 : decode cX10_buying 26 = .ok (.ifCond .le 51, 3) := by decide +kernel
theorem dX10_buying_29 : decode cX10_buying 29 = .ok (.iconst 0, 1) := by decide +kernel
theorem dX10_buying_30 : decode cX10_buying 30 = .ok (.istore_n 3, 1) := by decide +kernel
theorem dX10_buying_31 : decode cX10_buying 31 = .ok (.iload_n 3, 1) := by decide +kernel
theorem dX10_buying_32 : decode cX10_buying 32 = .ok (.aload_n 0, 1) := by decide +kernel
theorem dX10_buying_33 : decode cX10_buying 33 = .ok (.getfield 98, 3) := by decide +kernel
theorem dX10_buying_36 : decode cX10_buying 36 = .ok (.if_icmp .ge 35, 3) := by decide +kernel
theorem dX10_buying_39 : decode cX10_buying 39 = .ok (.iload_n 2, 1) := by decide +kernel
theorem dX10_buying_40 : decode cX10_buying 40 = .ok (.iload_n 3, 1) := by decide +kernel
theorem dX10_buying_41 : decode cX10_buying 41 = .ok (.ishr, 1) := by decide +kernel
theorem dX10_buying_42 : decode cX10_buying 42 = .ok (.iconst 1, 1) := by decide +kernel
theorem dX10_buying_43 : decode cX10_buying 43 = .ok (.iand, 1) := by decide +kernel
theorem dX10_buying_44 : decode cX10_buying 44 = .ok (.iconst 1, 1) := by decide +kernel
theorem dX10_buying_45 : decode cX10_buying 45 = .ok (.if_icmp .ne 20, 3) := by decide +kernel
theorem dX10_buying_48 : decode cX10_buying 48 = .ok (.aload_n 0, 1) := by decide +kernel
theorem dX10_buying_49 : decode cX10_buying 49 = .ok (.getfield 70, 3) := by decide +kernel
theorem dX10_buying_52 : decode cX10_buying 52 = .ok (.bipush 10, 2) := by decide +kernel
theorem dX10_buying_54 : decode cX10_buying 54 = .ok (.iload_n 2, 1) := by decide +kernel
theorem dX10_buying_55 : decode cX10_buying 55 = .ok (.imul, 1) := by decide +kernel
theorem dX10_buying_56 : decode cX10_buying 56 = .ok (.iload_n 3, 1) := by decide +kernel
theorem dX10_buying_57 : decode cX10_buying 57 = .ok (.iadd, 1) := by decide +kernel
theorem dX10_buying_58 : decode cX10_buying 58 = .ok (.aload_n 0, 1) := by decide +kernel
theorem dX10_buying_59 : decode cX10_buying 59 = .ok (.iload_n 2, 1) := by decide +kernel
theorem dX10_buying_60 : decode cX10_buying 60 = .ok (.iload_n 3, 1) := by decide +kernel
theorem dX10_buying_61 : decode cX10_buying 61 = .ok (.invokevirtual 277, 3) := by decide +kernel
theorem dX10_buying_64 : decode cX10_buying 64 = .ok (.iastore, 1) := by decide +kernel
theorem dX10_buying_65 : decode cX10_buying 65 = .ok (.iinc 3 1, 3) := by decide +kernel
theorem dX10_buying_68 : decode cX10_buying 68 = .ok (.goto (-37), 3) := by decide +kernel
theorem dX10_buying_71 : decode cX10_buying 71 = .ok (.iinc 2 (-1), 3) := by decide +kernel
theorem dX10_buying_74 : decode cX10_buying 74 = .ok (.goto (-49), 3) := by decide +kernel
theorem dX10_buying_77 : decode cX10_buying 77 = .ok (.iconst 0, 1) := by decide +kernel
theorem dX10_buying_78 : decode cX10_buying 78 = .ok (.istore_n 2, 1) := by decide +kernel
theorem dX10_buying_79 : decode cX10_buying 79 = .ok (.iconst (-1), 1) := by decide +kernel
theorem dX10_buying_80 : decode cX10_buying 80 = .ok (.istore_n 3, 1) := by decide +kernel
theorem dX10_buying_81 : decode cX10_buying 81 = .ok (.iconst 0, 1) := by decide +kernel
theorem dX10_buying_82 : decode cX10_buying 82 = .ok (.istore 4, 2) := by decide +kernel
theorem dX10_buying_84 : decode cX10_buying 84 = .ok (.iconst 0, 1) := by decide +kernel
theorem dX10_buying_85 : decode cX10_buying 85 = .ok (.istore 5, 2) := by decide +kernel
theorem dX10_buying_87 : decode cX10_buying 87 = .ok (.iload 5, 2) := by decide +kernel
theorem dX10_buying_89 : decode cX10_buying 89 = .ok (.aload_n 0, 1) := by decide +kernel
theorem dX10_buying_90 : decode cX10_buying 90 = .ok (.getfield 98, 3) := by decide +kernel
theorem dX10_buying_93 : decode cX10_buying 93 = .ok (.if_icmp .ge 179, 3) := by decide +kernel
theorem dX10_buying_96 : decode cX10_buying 96 = .ok (.iload 5, 2) := by decide +kernel
theorem dX10_buying_98 : decode cX10_buying 98 = .ok (.iload_n 1, 1) := by decide +kernel
theorem dX10_buying_99 : decode cX10_buying 99 = .ok (.ifCond .ge 7, 3) := by decide +kernel
theorem dX10_buying_102 : decode cX10_buying 102 = .ok (.iconst 0, 1) := by decide +kernel
theorem dX10_buying_103 : decode cX10_buying 103 = .ok (.goto 4, 3) := by decide +kernel
theorem dX10_buying_106 : decode cX10_buying 106 = .ok (.iload_n 1, 1) := by decide +kernel
theorem dX10_buying_107 : decode cX10_buying 107 = .ok (.if_icmp .gt 165, 3) := by decide +kernel
theorem dX10_buying_110 : decode cX10_buying 110 = .ok (.iconst (-1), 1) := by decide +kernel
theorem dX10_buying_111 : decode cX10_buying 111 = .ok (.istore 6, 2) := by decide +kernel
theorem dX10_buying_113 : decode cX10_buying 113 = .ok (.iconst 0, 1) := by decide +kernel
theorem dX10_buying_114 : decode cX10_buying 114 = .ok (.istore 7, 2) := by decide +kernel
theorem dX10_buying_116 : decode cX10_buying 116 = .ok (.iconst 0, 1) := by decide +kernel
theorem dX10_buying_117 : decode cX10_buying 117 = .ok (.istore 8, 2) := by decide +kernel
theorem dX10_buying_119 : decode cX10_buying 119 = .ok (.iload 8, 2) := by decide +kernel
theorem dX10_buying_121 : decode cX10_buying 121 = .ok (.aload_n 0, 1) := by decide +kernel
theorem dX10_buying_122 : decode cX10_buying 122 = .ok (.getfield 98, 3) := by decide +kernel
theorem dX10_buying_125 : decode cX10_buying 125 = .ok (.if_icmp .ge 117, 3) := by decide +kernel
theorem dX10_buying_128 : decode cX10_buying 128 = .ok (.iload_n 2, 1) := by decide +kernel
theorem dX10_buying_129 : decode cX10_buying 129 = .ok (.iload 8, 2) := by decide +kernel
theorem dX10_buying_131 : decode cX10_buying 131 = .ok (.ishr, 1) := by decide +kernel
theorem dX10_buying_132 : decode cX10_buying 132 = .ok (.iconst 1, 1) := by decide +kernel
theorem dX10_buying_133 : decode cX10_buying 133 = .ok (.iand, 1) := by decide +kernel
theorem dX10_buying_134 : decode cX10_buying 134 = .ok (.iconst 1, 1) := by decide +kernel
theorem dX10_buying_135 : decode cX10_buying 135 = .ok (.if_icmp .ne 7, 3) := by decide +kernel
theorem dX10_buying_138 : decode cX10_buying 138 = .ok (.iconst (-1), 1) := by decide +kernel
theorem dX10_buying_139 : decode cX10_buying 139 = .ok (.goto 43, 3) := by decide +kernel
theorem dX10_buying_142 : decode cX10_buying 142 = .ok (.iload 5, 2) := by decide +kernel
theorem dX10_buying_144 : decode cX10_buying 144 = .ok (.ifCond .ne 7, 3) := by decide +kernel
theorem dX10_buying_147 : decode cX10_buying 147 = .ok (.iconst 0, 1) := by decide +kernel
theorem dX10_buying_148 : decode cX10_buying 148 = .ok (.goto 16, 3) := by decide +kernel
theorem dX10_buying_151 : decode cX10_buying 151 = .ok (.aload_n 0, 1) := by decide +kernel
theorem dX10_buying_152 : decode cX10_buying 152 = .ok (.iload_n 3, 1) := by decide +kernel
theorem dX10_buying_153 : decode cX10_buying 153 = .ok (.iload 8, 2) := by decide +kernel
theorem dX10_buying_155 : decode cX10_buying 155 = .ok (.invokevirtual 274, 3) := by decide +kernel
theorem dX10_buying_158 : decode cX10_buying 158 = .ok (.aload_n 0, 1) := by decide +kernel
theorem dX10_buying_159 : decode cX10_buying 159 = .ok (.iload_n 2, 1) := by decide +kernel
theorem dX10_buying_160 : decode cX10_buying 160 = .ok (.invokevirtual 271, 3) := by decide +kernel
theorem dX10_buying_163 : decode cX10_buying 163 = .ok (.imul, 1) := by decide +kernel
theorem dX10_buying_164 : decode cX10_buying 164 = .ok (.aload_n 0, 1) := by decide +kernel
theorem dX10_buying_165 : decode cX10_buying 165 = .ok (.getfield 70, 3) := by decide +kernel
theorem dX10_buying_168 : decode cX10_buying 168 = .ok (.bipush 10, 2) := by decide +kernel
theorem dX10_buying_170 : decode cX10_buying 170 = .ok (.iload_n 2, 1) := by decide +kernel
theorem dX10_buying_171 : decode cX10_buying 171 = .ok (.iconst 1, 1) := by decide +kernel
theorem dX10_buying_172 : decode cX10_buying 172 = .ok (.iload 8, 2) := by decide +kernel
theorem dX10_buying_174 : decode cX10_buying 174 = .ok (.ishl, 1) := by decide +kernel
theorem dX10_buying_175 : decode cX10_buying 175 = .ok (.ior, 1) := by decide +kernel
theorem dX10_buying_176 : decode cX10_buying 176 = .ok (.imul, 1) := by decide +kernel
theorem dX10_buying_177 : decode cX10_buying 177 = .ok (.iload 8, 2) := by decide +kernel
theorem dX10_buying_179 : decode cX10_buying 179 = .ok (.iadd, 1) := by decide +kernel
theorem dX10_buying_180 : decode cX10_buying 180 = .ok (.iaload, 1) := by decide +kernel
theorem dX10_buying_181 : decode cX10_buying 181 = .ok (.iadd, 1) := by decide +kernel
theorem dX10_buying_182 : decode cX10_buying 182 = .ok (.istore 9, 2) := by decide +kernel
theorem dX10_buying_184 : decode cX10_buying 184 = .ok (.iload 9, 2) := by decide +kernel
theorem dX10_buying_186 : decode cX10_buying 186 = .ok (.ifCond .lt 19, 3) := by decide +kernel
theorem dX10_buying_189 : decode cX10_buying 189 = .ok (.iload 6, 2) := by decide +kernel
theorem dX10_buying_191 : decode cX10_buying 191 = .ok (.ifCond .lt 10, 3) := by decide +kernel
theorem dX10_buying_194 : decode cX10_buying 194 = .ok (.iload 9, 2) := by decide +kernel
theorem dX10_buying_196 : decode cX10_buying 196 = .ok (.iload 7, 2) := by decide +kernel
theorem dX10_buying_198 : decode cX10_buying 198 = .ok (.if_icmp .ge 7, 3) := by decide +kernel
theorem dX10_buying_201 : decode cX10_buying 201 = .ok (.iconst 1, 1) := by decide +kernel
theorem dX10_buying_202 : decode cX10_buying 202 = .ok (.goto 4, 3) := by decide +kernel
theorem dX10_buying_205 : decode cX10_buying 205 = .ok (.iconst 0, 1) := by decide +kernel
theorem dX10_buying_206 : decode cX10_buying 206 = .ok (.istore 10, 2) := by decide +kernel
theorem dX10_buying_208 : decode cX10_buying 208 = .ok (.iload 10, 2) := by decide +kernel
theorem dX10_buying_210 : decode cX10_buying 210 = .ok (.ifCond .eq 8, 3) := by decide +kernel
theorem dX10_buying_213 : decode cX10_buying 213 = .ok (.iload 8, 2) := by decide +kernel
theorem dX10_buying_215 : decode cX10_buying 215 = .ok (.goto 5, 3) := by decide +kernel
theorem dX10_buying_218 : decode cX10_buying 218 = .ok (.iload 6, 2) := by decide +kernel
theorem dX10_buying_220 : decode cX10_buying 220 = .ok (.istore 6, 2) := by decide +kernel
theorem dX10_buying_222 : decode cX10_buying 222 = .ok (.iload 10, 2) := by decide +kernel
theorem dX10_buying_224 : decode cX10_buying 224 = .ok (.ifCond .eq 8, 3) := by decide +kernel
theorem dX10_buying_227 : decode cX10_buying 227 = .ok (.iload 9, 2) := by decide +kernel
theorem dX10_buying_229 : decode cX10_buying 229 = .ok (.goto 5, 3) := by decide +kernel
theorem dX10_buying_232 : decode cX10_buying 232 = .ok (.iload 7, 2) := by decide +kernel
theorem dX10_buying_234 : decode cX10_buying 234 = .ok (.istore 7, 2) := by decide +kernel
theorem dX10_buying_236 : decode cX10_buying 236 = .ok (.iinc 8 1, 3) := by decide +kernel
theorem dX10_buying_239 : decode cX10_buying 239 = .ok (.goto (-120), 3) := by decide +kernel
theorem dX10_buying_242 : decode cX10_buying 242 = .ok (.iload 5, 2) := by decide +kernel
theorem dX10_buying_244 : decode cX10_buying 244 = .ok (.ifCond .ne 8, 3) := by decide +kernel
theorem dX10_buying_247 : decode cX10_buying 247 = .ok (.iload 7, 2) := by decide +kernel
theorem dX10_buying_249 : decode cX10_buying 249 = .ok (.goto 5, 3) := by decide +kernel
theorem dX10_buying_252 : decode cX10_buying 252 = .ok (.iload 4, 2) := by decide +kernel
theorem dX10_buying_254 : decode cX10_buying 254 = .ok (.istore 4, 2) := by decide +kernel
theorem dX10_buying_256 : decode cX10_buying 256 = .ok (.iload_n 2, 1) := by decide +kernel
theorem dX10_buying_257 : decode cX10_buying 257 = .ok (.iconst 1, 1) := by decide +kernel
theorem dX10_buying_258 : decode cX10_buying 258 = .ok (.iload 6, 2) := by decide +kernel
theorem dX10_buying_260 : decode cX10_buying 260 = .ok (.ishl, 1) := by decide +kernel
theorem dX10_buying_261 : decode cX10_buying 261 = .ok (.ior, 1) := by decide +kernel
theorem dX10_buying_262 : decode cX10_buying 262 = .ok (.istore_n 2, 1) := by decide +kernel
theorem dX10_buying_263 : decode cX10_buying 263 = .ok (.iload 6, 2) := by decide +kernel
theorem dX10_buying_265 : decode cX10_buying 265 = .ok (.istore_n 3, 1) := by decide +kernel
theorem dX10_buying_266 : decode cX10_buying 266 = .ok (.iinc 5 1, 3) := by decide +kernel
theorem dX10_buying_269 : decode cX10_buying 269 = .ok (.goto (-182), 3) := by decide +kernel
theorem dX10_buying_272 : decode cX10_buying 272 = .ok (.iload_n 1, 1) := by decide +kernel
theorem dX10_buying_273 : decode cX10_buying 273 = .ok (.ifCond .ge 8, 3) := by decide +kernel
theorem dX10_buying_276 : decode cX10_buying 276 = .ok (.iload 4, 2) := by decide +kernel
theorem dX10_buying_278 : decode cX10_buying 278 = .ok (.goto 4, 3) := by decide +kernel
theorem dX10_buying_281 : decode cX10_buying 281 = .ok (.iload_n 3, 1) := by decide +kernel
theorem dX10_buying_282 : decode cX10_buying 282 = .ok (.ireturn, 1) := by decide +kernel
theorem dX10_isEnd_0 : decode cX10_isEnd 0 = .ok (.iload_n 1, 1) := by decide +kernel
theorem dX10_isEnd_1 : decode cX10_isEnd 1 = .ok (.bipush 10, 2) := by decide +kernel
theorem dX10_isEnd_3 : decode cX10_isEnd 3 = .ok (.if_icmp .ge 12, 3) := by decide +kernel
theorem dX10_isEnd_6 : decode cX10_isEnd 6 = .ok (.aload_n 0, 1) := by decide +kernel
theorem dX10_isEnd_7 : decode cX10_isEnd 7 = .ok (.iload_n 1, 1) := by decide +kernel
theorem dX10_isEnd_8 : decode cX10_isEnd 8 = .ok (.i2l, 1) := by decide +kernel
theorem dX10_isEnd_9 : decode cX10_isEnd 9 = .ok (.invokevirtual 122, 3) := by decide +kernel
theorem dX10_isEnd_12 : decode cX10_isEnd 12 = .ok (.goto 19, 3) := by decide +kernel
theorem dX10_isEnd_15 : decode cX10_isEnd 15 = .ok (.iload_n 1, 1) := by decide +kernel
theorem dX10_isEnd_16 : decode cX10_isEnd 16 = .ok (.bipush 10, 2) := by decide +kernel
theorem dX10_isEnd_18 : decode cX10_isEnd 18 = .ok (.isub, 1) := by decide +kernel
theorem dX10_isEnd_19 : decode cX10_isEnd 19 = .ok (.i2l, 1) := by decide +kernel
theorem dX10_isEnd_20 : decode cX10_isEnd 20 = .ok (.lconst 0, 1) := by decide +kernel
theorem dX10_isEnd_21 : decode cX10_isEnd 21 = .ok (.aload_n 0, 1) := by decide +kernel
theorem dX10_isEnd_22 : decode cX10_isEnd 22 = .ok (.getfield 119, 3) := by decide +kernel
theorem dX10_isEnd_25 : decode cX10_isEnd 25 = .ok (.iconst 1, 1) := by decide +kernel
theorem dX10_isEnd_26 : decode cX10_isEnd 26 = .ok (.isub, 1) := by decide +kernel
theorem dX10_isEnd_27 : decode cX10_isEnd 27 = .ok (.i2l, 1) := by decide +kernel
theorem dX10_isEnd_28 : decode cX10_isEnd 28 = .ok (.invokestatic 102, 3) := by decide +kernel
theorem dX10_isEnd_31 : decode cX10_isEnd 31 = .ok (.ireturn, 1) := by decide +kernel
theorem dX10_bar_0 : decode cX10_bar 0 = .ok (.aload_n 0, 1) := by decide +kernel
theorem dX10_bar_1 : decode cX10_bar 1 = .ok (.iload_n 1, 1) := by decide +kernel
theorem dX10_bar_2 : decode cX10_bar 2 = .ok (.invokevirtual 280, 3) := by decide +kernel
theorem dX10_bar_5 : decode cX10_bar 5 = .ok (.ifCond .eq 16, 3) := by decide +kernel
theorem dX10_bar_8 : decode cX10_bar 8 = .ok (.aload_n 0, 1) := by decide +kernel
theorem dX10_bar_9 : decode cX10_bar 9 = .ok (.iload_n 2, 1) := by decide +kernel
theorem dX10_bar_10 : decode cX10_bar 10 = .ok (.invokevirtual 280, 3) := by decide +kernel
theorem dX10_bar_13 : decode cX10_bar 13 = .ok (.ifCond .eq 8, 3) := by decide +kernel
theorem dX10_bar_16 : decode cX10_bar 16 = .ok (.iload_n 1, 1) := by decide +kernel
theorem dX10_bar_17 : decode cX10_bar 17 = .ok (.iload_n 2, 1) := by decide +kernel
theorem dX10_bar_18 : decode cX10_bar 18 = .ok (.if_icmp .ne 5, 3) := by decide +kernel
theorem dX10_bar_21 : decode cX10_bar 21 = .ok (.iconst (-1), 1) := by decide +kernel
theorem dX10_bar_22 : decode cX10_bar 22 = .ok (.ireturn, 1) := by decide +kernel
theorem dX10_bar_23 : decode cX10_bar 23 = .ok (.aload_n 0, 1) := by decide +kernel
theorem dX10_bar_24 : decode cX10_bar 24 = .ok (.iload_n 1, 1) := by decide +kernel
theorem dX10_bar_25 : decode cX10_bar 25 = .ok (.invokevirtual 126, 3) := by decide +kernel
theorem dX10_bar_28 : decode cX10_bar 28 = .ok (.ifCond .ne 11, 3) := by decide +kernel
theorem dX10_bar_31 : decode cX10_bar 31 = .ok (.aload_n 0, 1) := by decide +kernel
theorem dX10_bar_32 : decode cX10_bar 32 = .ok (.iload_n 2, 1) := by decide +kernel
theorem dX10_bar_33 : decode cX10_bar 33 = .ok (.invokevirtual 126, 3) := by decide +kernel
theorem dX10_bar_36 : decode cX10_bar 36 = .ok (.ifCond .eq 6, 3) := by decide +kernel
theorem dX10_bar_39 : decode cX10_bar 39 = .ok (.bipush (-2), 2) := by decide +kernel
theorem dX10_bar_41 : decode cX10_bar 41 = .ok (.ireturn, 1) := by decide +kernel
theorem dX10_bar_42 : decode cX10_bar 42 = .ok (.aload_n 0, 1) := by decide +kernel
theorem dX10_bar_43 : decode cX10_bar 43 = .ok (.getfield 119, 3) := by decide +kernel
theorem dX10_bar_46 : decode cX10_bar 46 = .ok (.bipush 6, 2) := by decide +kernel
theorem dX10_bar_48 : decode cX10_bar 48 = .ok (.if_icmp .ne 6, 3) := by decide +kernel
theorem dX10_bar_51 : decode cX10_bar 51 = .ok (.bipush (-3), 2) := by decide +kernel
theorem dX10_bar_53 : decode cX10_bar 53 = .ok (.ireturn, 1) := by decide +kernel
theorem dX10_bar_54 : decode cX10_bar 54 = .ok (.aload_n 0, 1) := by decide +kernel
theorem dX10_bar_55 : decode cX10_bar 55 = .ok (.getfield 49, 3) := by decide +kernel
theorem dX10_bar_58 : decode cX10_bar 58 = .ok (.aload_n 0, 1) := by decide +kernel
theorem dX10_bar_59 : decode cX10_bar 59 = .ok (.getfield 119, 3) := by decide +kernel
theorem dX10_bar_62 : decode cX10_bar 62 = .ok (.iload_n 1, 1) := by decide +kernel
theorem dX10_bar_63 : decode cX10_bar 63 = .ok (.iastore, 1) := by decide +kernel
theorem dX10_bar_64 : decode cX10_bar 64 = .ok (.aload_n 0, 1) := by decide +kernel
theorem dX10_bar_65 : decode cX10_bar 65 = .ok (.getfield 52, 3) := by decide +kernel
theorem dX10_bar_68 : decode cX10_bar 68 = .ok (.aload_n 0, 1) := by decide +kernel
theorem dX10_bar_69 : decode cX10_bar 69 = .ok (.getfield 119, 3) := by decide +kernel
theorem dX10_bar_72 : decode cX10_bar 72 = .ok (.iload_n 2, 1) := by decide +kernel
theorem dX10_bar_73 : decode cX10_bar 73 = .ok (.iastore, 1) := by decide +kernel
theorem dX10_bar_74 : decode cX10_bar 74 = .ok (.aload_n 0, 1) := by decide +kernel
theorem dX10_bar_75 : decode cX10_bar 75 = .ok (.dup, 1) := by decide +kernel
theorem dX10_bar_76 : decode cX10_bar 76 = .ok (.getfield 119, 3) := by decide +kernel
theorem dX10_bar_79 : decode cX10_bar 79 = .ok (.iconst 1, 1) := by decide +kernel
theorem dX10_bar_80 : decode cX10_bar 80 = .ok (.iadd, 1) := by decide +kernel
theorem dX10_bar_81 : decode cX10_bar 81 = .ok (.putfield 119, 3) := by decide +kernel
theorem dX10_bar_84 : decode cX10_bar 84 = .ok (.aload_n 0, 1) := by decide +kernel
theorem dX10_bar_85 : decode cX10_bar 85 = .ok (.getfield 119, 3) := by decide +kernel
theorem dX10_bar_88 : decode cX10_bar 88 = .ok (.iconst 1, 1) := by decide +kernel
theorem dX10_bar_89 : decode cX10_bar 89 = .ok (.isub, 1) := by decide +kernel
theorem dX10_bar_90 : decode cX10_bar 90 = .ok (.ireturn, 1) := by decide +kernel
theorem dX10_hangsOn_0 : decode cX10_hangsOn 0 = .ok (.iload_n 1, 1) := by decide +kernel
theorem dX10_hangsOn_1 : decode cX10_hangsOn 1 = .ok (.bipush 10, 2) := by decide +kernel
theorem dX10_hangsOn_3 : decode cX10_hangsOn 3 = .ok (.if_icmp .ge 12, 3) := by decide +kernel
theorem dX10_hangsOn_6 : decode cX10_hangsOn 6 = .ok (.aload_n 0, 1) := by decide +kernel
theorem dX10_hangsOn_7 : decode cX10_hangsOn 7 = .ok (.getfield 13, 3) := by decide +kernel
theorem dX10_hangsOn_10 : decode cX10_hangsOn 10 = .ok (.iload_n 1, 1) := by decide +kernel
theorem dX10_hangsOn_11 : decode cX10_hangsOn 11 = .ok (.iaload, 1) := by decide +kernel
theorem dX10_hangsOn_12 : decode cX10_hangsOn 12 = .ok (.goto 12, 3) := by decide +kernel
theorem dX10_hangsOn_15 : decode cX10_hangsOn 15 = .ok (.aload_n 0, 1) := by decide +kernel
theorem dX10_hangsOn_16 : decode cX10_hangsOn 16 = .ok (.getfield 73, 3) := by decide +kernel
theorem dX10_hangsOn_19 : decode cX10_hangsOn 19 = .ok (.iload_n 1, 1) := by decide +kernel
theorem dX10_hangsOn_20 : decode cX10_hangsOn 20 = .ok (.bipush 10, 2) := by decide +kernel
theorem dX10_hangsOn_22 : decode cX10_hangsOn 22 = .ok (.isub, 1) := by decide +kernel
theorem dX10_hangsOn_23 : decode cX10_hangsOn 23 = .ok (.iaload, 1) := by decide +kernel
theorem dX10_hangsOn_24 : decode cX10_hangsOn 24 = .ok (.ireturn, 1) := by decide +kernel
theorem dX10_hung_0 : decode cX10_hung 0 = .ok (.iload_n 1, 1) := by decide +kernel
theorem dX10_hung_1 : decode cX10_hung 1 = .ok (.i2l, 1) := by decide +kernel
theorem dX10_hung_2 : decode cX10_hung 2 = .ok (.lconst 0, 1) := by decide +kernel
theorem dX10_hung_3 : decode cX10_hung 3 = .ok (.aload_n 0, 1) := by decide +kernel
theorem dX10_hung_4 : decode cX10_hung 4 = .ok (.getfield 119, 3) := by decide +kernel
theorem dX10_hung_7 : decode cX10_hung 7 = .ok (.iconst 1, 1) := by decide +kernel
theorem dX10_hung_8 : decode cX10_hung 8 = .ok (.isub, 1) := by decide +kernel
theorem dX10_hung_9 : decode cX10_hung 9 = .ok (.i2l, 1) := by decide +kernel
theorem dX10_hung_10 : decode cX10_hung 10 = .ok (.invokestatic 102, 3) := by decide +kernel
theorem dX10_hung_13 : decode cX10_hung 13 = .ok (.ifCond .eq 15, 3) := by decide +kernel
theorem dX10_hung_16 : decode cX10_hung 16 = .ok (.iload_n 2, 1) := by decide +kernel
theorem dX10_hung_17 : decode cX10_hung 17 = .ok (.i2l, 1) := by decide +kernel
theorem dX10_hung_18 : decode cX10_hung 18 = .ok (.lconst 0, 1) := by decide +kernel
theorem dX10_hung_19 : decode cX10_hung 19 = .ok (.ldc2_w 109, 3) := by decide +kernel
theorem dX10_hung_22 : decode cX10_hung 22 = .ok (.invokestatic 102, 3) := by decide +kernel
theorem dX10_hung_25 : decode cX10_hung 25 = .ok (.ifCond .ne 5, 3) := by decide +kernel
theorem dX10_hung_28 : decode cX10_hung 28 = .ok (.iconst (-1), 1) := by decide +kernel
theorem dX10_hung_29 : decode cX10_hung 29 = .ok (.ireturn, 1) := by decide +kernel
theorem dX10_hung_30 : decode cX10_hung 30 = .ok (.iconst 0, 1) := by decide +kernel
theorem dX10_hung_31 : decode cX10_hung 31 = .ok (.istore_n 3, 1) := by decide +kernel
theorem dX10_hung_32 : decode cX10_hung 32 = .ok (.iload_n 3, 1) := by decide +kernel
theorem dX10_hung_33 : decode cX10_hung 33 = .ok (.iload_n 1, 1) := by decide +kernel
theorem dX10_hung_34 : decode cX10_hung 34 = .ok (.if_icmp .gt 36, 3) := by decide +kernel
theorem dX10_hung_37 : decode cX10_hung 37 = .ok (.aload_n 0, 1) := by decide +kernel
theorem dX10_hung_38 : decode cX10_hung 38 = .ok (.getfield 73, 3) := by decide +kernel
theorem dX10_hung_41 : decode cX10_hung 41 = .ok (.iload_n 3, 1) := by decide +kernel
theorem dX10_hung_42 : decode cX10_hung 42 = .ok (.aload_n 0, 1) := by decide +kernel
theorem dX10_hung_43 : decode cX10_hung 43 = .ok (.aload_n 0, 1) := by decide +kernel
theorem dX10_hung_44 : decode cX10_hung 44 = .ok (.getfield 49, 3) := by decide +kernel
theorem dX10_hung_47 : decode cX10_hung 47 = .ok (.iload_n 3, 1) := by decide +kernel
theorem dX10_hung_48 : decode cX10_hung 48 = .ok (.iaload, 1) := by decide +kernel
theorem dX10_hung_49 : decode cX10_hung 49 = .ok (.invokevirtual 283, 3) := by decide +kernel
theorem dX10_hung_52 : decode cX10_hung 52 = .ok (.aload_n 0, 1) := by decide +kernel
theorem dX10_hung_53 : decode cX10_hung 53 = .ok (.aload_n 0, 1) := by decide +kernel
theorem dX10_hung_54 : decode cX10_hung 54 = .ok (.getfield 52, 3) := by decide +kernel
theorem dX10_hung_57 : decode cX10_hung 57 = .ok (.iload_n 3, 1) := by decide +kernel
theorem dX10_hung_58 : decode cX10_hung 58 = .ok (.iaload, 1) := by decide +kernel
theorem dX10_hung_59 : decode cX10_hung 59 = .ok (.invokevirtual 283, 3) := by decide +kernel
theorem dX10_hung_62 : decode cX10_hung 62 = .ok (.iadd, 1) := by decide +kernel
theorem dX10_hung_63 : decode cX10_hung 63 = .ok (.iastore, 1) := by decide +kernel
theorem dX10_hung_64 : decode cX10_hung 64 = .ok (.iinc 3 1, 3) := by decide +kernel
theorem dX10_hung_67 : decode cX10_hung 67 = .ok (.goto (-35), 3) := by decide +kernel
theorem dX10_hung_70 : decode cX10_hung 70 = .ok (.iload_n 2, 1) := by decide +kernel
theorem dX10_hung_71 : decode cX10_hung 71 = .ok (.iconst 2, 1) := by decide +kernel
theorem dX10_hung_72 : decode cX10_hung 72 = .ok (.if_icmp .ne 12, 3) := by decide +kernel
theorem dX10_hung_75 : decode cX10_hung 75 = .ok (.aload_n 0, 1) := by decide +kernel
theorem dX10_hung_76 : decode cX10_hung 76 = .ok (.getfield 73, 3) := by decide +kernel
theorem dX10_hung_79 : decode cX10_hung 79 = .ok (.iload_n 1, 1) := by decide +kernel
theorem dX10_hung_80 : decode cX10_hung 80 = .ok (.iaload, 1) := by decide +kernel
theorem dX10_hung_81 : decode cX10_hung 81 = .ok (.goto 26, 3) := by decide +kernel
theorem dX10_hung_84 : decode cX10_hung 84 = .ok (.bipush 60, 2) := by decide +kernel
theorem dX10_hung_86 : decode cX10_hung 86 = .ok (.aload_n 0, 1) := by decide +kernel
theorem dX10_hung_87 : decode cX10_hung 87 = .ok (.aload_n 0, 1) := by decide +kernel
theorem dX10_hung_88 : decode cX10_hung 88 = .ok (.getfield 52, 3) := by decide +kernel
theorem dX10_hung_91 : decode cX10_hung 91 = .ok (.iload_n 1, 1) := by decide +kernel
theorem dX10_hung_92 : decode cX10_hung 92 = .ok (.iaload, 1) := by decide +kernel
theorem dX10_hung_93 : decode cX10_hung 93 = .ok (.invokevirtual 283, 3) := by decide +kernel
theorem dX10_hung_96 : decode cX10_hung 96 = .ok (.imul, 1) := by decide +kernel
theorem dX10_hung_97 : decode cX10_hung 97 = .ok (.aload_n 0, 1) := by decide +kernel
theorem dX10_hung_98 : decode cX10_hung 98 = .ok (.getfield 73, 3) := by decide +kernel
theorem dX10_hung_101 : decode cX10_hung 101 = .ok (.iload_n 1, 1) := by decide +kernel
theorem dX10_hung_102 : decode cX10_hung 102 = .ok (.iaload, 1) := by decide +kernel
theorem dX10_hung_103 : decode cX10_hung 103 = .ok (.iload_n 2, 1) := by decide +kernel
theorem dX10_hung_104 : decode cX10_hung 104 = .ok (.invokestatic 267, 3) := by decide +kernel
theorem dX10_hung_107 : decode cX10_hung 107 = .ok (.ireturn, 1) := by decide +kernel
theorem dX10_notes_0 : decode cX10_notes 0 = .ok (.iconst 0, 1) := by decide +kernel
theorem dX10_notes_1 : decode cX10_notes 1 = .ok (.istore_n 3, 1) := by decide +kernel
theorem dX10_notes_2 : decode cX10_notes 2 = .ok (.iload_n 3, 1) := by decide +kernel
theorem dX10_notes_3 : decode cX10_notes 3 = .ok (.aload_n 1, 1) := by decide +kernel
theorem dX10_notes_4 : decode cX10_notes 4 = .ok (.arraylength, 1) := by decide +kernel
theorem dX10_notes_5 : decode cX10_notes 5 = .ok (.if_icmp .ge 20, 3) := by decide +kernel
theorem dX10_notes_8 : decode cX10_notes 8 = .ok (.aload_n 0, 1) := by decide +kernel
theorem dX10_notes_9 : decode cX10_notes 9 = .ok (.getfield 76, 3) := by decide +kernel
theorem dX10_notes_12 : decode cX10_notes 12 = .ok (.iload_n 2, 1) := by decide +kernel
theorem dX10_notes_13 : decode cX10_notes 13 = .ok (.iload_n 3, 1) := by decide +kernel
theorem dX10_notes_14 : decode cX10_notes 14 = .ok (.iadd, 1) := by decide +kernel
theorem dX10_notes_15 : decode cX10_notes 15 = .ok (.aload_n 1, 1) := by decide +kernel
theorem dX10_notes_16 : decode cX10_notes 16 = .ok (.iload_n 3, 1) := by decide +kernel
theorem dX10_notes_17 : decode cX10_notes 17 = .ok (.iaload, 1) := by decide +kernel
theorem dX10_notes_18 : decode cX10_notes 18 = .ok (.iastore, 1) := by decide +kernel
theorem dX10_notes_19 : decode cX10_notes 19 = .ok (.iinc 3 1, 3) := by decide +kernel
theorem dX10_notes_22 : decode cX10_notes 22 = .ok (.goto (-20), 3) := by decide +kernel
theorem dX10_notes_25 : decode cX10_notes 25 = .ok (.iload_n 2, 1) := by decide +kernel
theorem dX10_notes_26 : decode cX10_notes 26 = .ok (.aload_n 1, 1) := by decide +kernel
theorem dX10_notes_27 : decode cX10_notes 27 = .ok (.arraylength, 1) := by decide +kernel
theorem dX10_notes_28 : decode cX10_notes 28 = .ok (.iadd, 1) := by decide +kernel
theorem dX10_notes_29 : decode cX10_notes 29 = .ok (.ireturn, 1) := by decide +kernel
theorem dX10_givesBack_0 : decode cX10_givesBack 0 = .ok (.iconst 0, 1) := by decide +kernel
theorem dX10_givesBack_1 : decode cX10_givesBack 1 = .ok (.istore_n 3, 1) := by decide +kernel
theorem dX10_givesBack_2 : decode cX10_givesBack 2 = .ok (.iload_n 3, 1) := by decide +kernel
theorem dX10_givesBack_3 : decode cX10_givesBack 3 = .ok (.aload_n 2, 1) := by decide +kernel
theorem dX10_givesBack_4 : decode cX10_givesBack 4 = .ok (.arraylength, 1) := by decide +kernel
theorem dX10_givesBack_5 : decode cX10_givesBack 5 = .ok (.if_icmp .ge 20, 3) := by decide +kernel
theorem dX10_givesBack_8 : decode cX10_givesBack 8 = .ok (.aload_n 2, 1) := by decide +kernel
theorem dX10_givesBack_9 : decode cX10_givesBack 9 = .ok (.iload_n 3, 1) := by decide +kernel
theorem dX10_givesBack_10 : decode cX10_givesBack 10 = .ok (.aload_n 0, 1) := by decide +kernel
theorem dX10_givesBack_11 : decode cX10_givesBack 11 = .ok (.getfield 76, 3) := by decide +kernel
theorem dX10_givesBack_14 : decode cX10_givesBack 14 = .ok (.iload_n 1, 1) := by decide +kernel
theorem dX10_givesBack_15 : decode cX10_givesBack 15 = .ok (.iload_n 3, 1) := by decide +kernel
theorem dX10_givesBack_16 : decode cX10_givesBack 16 = .ok (.iadd, 1) := by decide +kernel
theorem dX10_givesBack_17 : decode cX10_givesBack 17 = .ok (.iaload, 1) := by decide +kernel
theorem dX10_givesBack_18 : decode cX10_givesBack 18 = .ok (.iastore, 1) := by decide +kernel
theorem dX10_givesBack_19 : decode cX10_givesBack 19 = .ok (.iinc 3 1, 3) := by decide +kernel
theorem dX10_givesBack_22 : decode cX10_givesBack 22 = .ok (.goto (-20), 3) := by decide +kernel
theorem dX10_givesBack_25 : decode cX10_givesBack 25 = .ok (.iload_n 1, 1) := by decide +kernel
theorem dX10_givesBack_26 : decode cX10_givesBack 26 = .ok (.aload_n 2, 1) := by decide +kernel
theorem dX10_givesBack_27 : decode cX10_givesBack 27 = .ok (.arraylength, 1) := by decide +kernel
theorem dX10_givesBack_28 : decode cX10_givesBack 28 = .ok (.iadd, 1) := by decide +kernel
theorem dX10_givesBack_29 : decode cX10_givesBack 29 = .ok (.ireturn, 1) := by decide +kernel
theorem dX10_image_0 : decode cX10_image 0 = .ok (.aload_n 0, 1) := by decide +kernel
theorem dX10_image_1 : decode cX10_image 1 = .ok (.getfield 76, 3) := by decide +kernel
theorem dX10_image_4 : decode cX10_image 4 = .ok (.iconst 0, 1) := by decide +kernel
theorem dX10_image_5 : decode cX10_image 5 = .ok (.aload_n 0, 1) := by decide +kernel
theorem dX10_image_6 : decode cX10_image 6 = .ok (.getfield 98, 3) := by decide +kernel
theorem dX10_image_9 : decode cX10_image 9 = .ok (.iastore, 1) := by decide +kernel
theorem dX10_image_10 : decode cX10_image 10 = .ok (.aload_n 0, 1) := by decide +kernel
theorem dX10_image_11 : decode cX10_image 11 = .ok (.getfield 76, 3) := by decide +kernel
theorem dX10_image_14 : decode cX10_image 14 = .ok (.iconst 1, 1) := by decide +kernel
theorem dX10_image_15 : decode cX10_image 15 = .ok (.aload_n 0, 1) := by decide +kernel
theorem dX10_image_16 : decode cX10_image 16 = .ok (.getfield 106, 3) := by decide +kernel
theorem dX10_image_19 : decode cX10_image 19 = .ok (.iastore, 1) := by decide +kernel
theorem dX10_image_20 : decode cX10_image 20 = .ok (.aload_n 0, 1) := by decide +kernel
theorem dX10_image_21 : decode cX10_image 21 = .ok (.getfield 76, 3) := by decide +kernel
theorem dX10_image_24 : decode cX10_image 24 = .ok (.iconst 2, 1) := by decide +kernel
theorem dX10_image_25 : decode cX10_image 25 = .ok (.aload_n 0, 1) := by decide +kernel
theorem dX10_image_26 : decode cX10_image 26 = .ok (.getfield 152, 3) := by decide +kernel
theorem dX10_image_29 : decode cX10_image 29 = .ok (.iastore, 1) := by decide +kernel
theorem dX10_image_30 : decode cX10_image 30 = .ok (.aload_n 0, 1) := by decide +kernel
theorem dX10_image_31 : decode cX10_image 31 = .ok (.getfield 76, 3) := by decide +kernel
theorem dX10_image_34 : decode cX10_image 34 = .ok (.iconst 3, 1) := by decide +kernel
theorem dX10_image_35 : decode cX10_image 35 = .ok (.aload_n 0, 1) := by decide +kernel
theorem dX10_image_36 : decode cX10_image 36 = .ok (.getfield 119, 3) := by decide +kernel
theorem dX10_image_39 : decode cX10_image 39 = .ok (.iastore, 1) := by decide +kernel
theorem dX10_image_40 : decode cX10_image 40 = .ok (.aload_n 0, 1) := by decide +kernel
theorem dX10_image_41 : decode cX10_image 41 = .ok (.aload_n 0, 1) := by decide +kernel
theorem dX10_image_42 : decode cX10_image 42 = .ok (.getfield 7, 3) := by decide +kernel
theorem dX10_image_45 : decode cX10_image 45 = .ok (.iconst 4, 1) := by decide +kernel
theorem dX10_image_46 : decode cX10_image 46 = .ok (.invokevirtual 286, 3) := by decide +kernel
theorem dX10_image_49 : decode cX10_image 49 = .ok (.istore_n 1, 1) := by decide +kernel
theorem dX10_image_50 : decode cX10_image 50 = .ok (.aload_n 0, 1) := by decide +kernel
theorem dX10_image_51 : decode cX10_image 51 = .ok (.aload_n 0, 1) := by decide +kernel
theorem dX10_image_52 : decode cX10_image 52 = .ok (.getfield 13, 3) := by decide +kernel
theorem dX10_image_55 : decode cX10_image 55 = .ok (.iload_n 1, 1) := by decide +kernel
theorem dX10_image_56 : decode cX10_image 56 = .ok (.invokevirtual 286, 3) := by decide +kernel
theorem dX10_image_59 : decode cX10_image 59 = .ok (.istore_n 1, 1) := by decide +kernel
theorem dX10_image_60 : decode cX10_image 60 = .ok (.aload_n 0, 1) := by decide +kernel
theorem dX10_image_61 : decode cX10_image 61 = .ok (.aload_n 0, 1) := by decide +kernel
theorem dX10_image_62 : decode cX10_image 62 = .ok (.getfield 16, 3) := by decide +kernel
theorem dX10_image_65 : decode cX10_image 65 = .ok (.iload_n 1, 1) := by decide +kernel
theorem dX10_image_66 : decode cX10_image 66 = .ok (.invokevirtual 286, 3) := by decide +kernel
theorem dX10_image_69 : decode cX10_image 69 = .ok (.istore_n 1, 1) := by decide +kernel
theorem dX10_image_70 : decode cX10_image 70 = .ok (.aload_n 0, 1) := by decide +kernel
theorem dX10_image_71 : decode cX10_image 71 = .ok (.aload_n 0, 1) := by decide +kernel
theorem dX10_image_72 : decode cX10_image 72 = .ok (.getfield 19, 3) := by decide +kernel
theorem dX10_image_75 : decode cX10_image 75 = .ok (.iload_n 1, 1) := by decide +kernel
theorem dX10_image_76 : decode cX10_image 76 = .ok (.invokevirtual 286, 3) := by decide +kernel
theorem dX10_image_79 : decode cX10_image 79 = .ok (.istore_n 1, 1) := by decide +kernel
theorem dX10_image_80 : decode cX10_image 80 = .ok (.aload_n 0, 1) := by decide +kernel
theorem dX10_image_81 : decode cX10_image 81 = .ok (.aload_n 0, 1) := by decide +kernel
theorem dX10_image_82 : decode cX10_image 82 = .ok (.getfield 22, 3) := by decide +kernel
theorem dX10_image_85 : decode cX10_image 85 = .ok (.iload_n 1, 1) := by decide +kernel
theorem dX10_image_86 : decode cX10_image 86 = .ok (.invokevirtual 286, 3) := by decide +kernel
theorem dX10_image_89 : decode cX10_image 89 = .ok (.istore_n 1, 1) := by decide +kernel
theorem dX10_image_90 : decode cX10_image 90 = .ok (.aload_n 0, 1) := by decide +kernel
theorem dX10_image_91 : decode cX10_image 91 = .ok (.aload_n 0, 1) := by decide +kernel
theorem dX10_image_92 : decode cX10_image 92 = .ok (.getfield 25, 3) := by decide +kernel
theorem dX10_image_95 : decode cX10_image 95 = .ok (.iload_n 1, 1) := by decide +kernel
theorem dX10_image_96 : decode cX10_image 96 = .ok (.invokevirtual 286, 3) := by decide +kernel
theorem dX10_image_99 : decode cX10_image 99 = .ok (.istore_n 1, 1) := by decide +kernel
theorem dX10_image_100 : decode cX10_image 100 = .ok (.aload_n 0, 1) := by decide +kernel
theorem dX10_image_101 : decode cX10_image 101 = .ok (.aload_n 0, 1) := by decide +kernel
theorem dX10_image_102 : decode cX10_image 102 = .ok (.getfield 28, 3) := by decide +kernel
theorem dX10_image_105 : decode cX10_image 105 = .ok (.iload_n 1, 1) := by decide +kernel
theorem dX10_image_106 : decode cX10_image 106 = .ok (.invokevirtual 286, 3) := by decide +kernel
theorem dX10_image_109 : decode cX10_image 109 = .ok (.istore_n 1, 1) := by decide +kernel
theorem dX10_image_110 : decode cX10_image 110 = .ok (.aload_n 0, 1) := by decide +kernel
theorem dX10_image_111 : decode cX10_image 111 = .ok (.aload_n 0, 1) := by decide +kernel
theorem dX10_image_112 : decode cX10_image 112 = .ok (.getfield 31, 3) := by decide +kernel
theorem dX10_image_115 : decode cX10_image 115 = .ok (.iload_n 1, 1) := by decide +kernel
theorem dX10_image_116 : decode cX10_image 116 = .ok (.invokevirtual 286, 3) := by decide +kernel
theorem dX10_image_119 : decode cX10_image 119 = .ok (.istore_n 1, 1) := by decide +kernel
theorem dX10_image_120 : decode cX10_image 120 = .ok (.aload_n 0, 1) := by decide +kernel
theorem dX10_image_121 : decode cX10_image 121 = .ok (.aload_n 0, 1) := by decide +kernel
theorem dX10_image_122 : decode cX10_image 122 = .ok (.getfield 34, 3) := by decide +kernel
theorem dX10_image_125 : decode cX10_image 125 = .ok (.iload_n 1, 1) := by decide +kernel
theorem dX10_image_126 : decode cX10_image 126 = .ok (.invokevirtual 286, 3) := by decide +kernel
theorem dX10_image_129 : decode cX10_image 129 = .ok (.istore_n 1, 1) := by decide +kernel
theorem dX10_image_130 : decode cX10_image 130 = .ok (.aload_n 0, 1) := by decide +kernel
theorem dX10_image_131 : decode cX10_image 131 = .ok (.aload_n 0, 1) := by decide +kernel
theorem dX10_image_132 : decode cX10_image 132 = .ok (.getfield 37, 3) := by decide +kernel
theorem dX10_image_135 : decode cX10_image 135 = .ok (.iload_n 1, 1) := by decide +kernel
theorem dX10_image_136 : decode cX10_image 136 = .ok (.invokevirtual 286, 3) := by decide +kernel
theorem dX10_image_139 : decode cX10_image 139 = .ok (.istore_n 1, 1) := by decide +kernel
theorem dX10_image_140 : decode cX10_image 140 = .ok (.aload_n 0, 1) := by decide +kernel
theorem dX10_image_141 : decode cX10_image 141 = .ok (.aload_n 0, 1) := by decide +kernel
theorem dX10_image_142 : decode cX10_image 142 = .ok (.getfield 40, 3) := by decide +kernel
theorem dX10_image_145 : decode cX10_image 145 = .ok (.iload_n 1, 1) := by decide +kernel
theorem dX10_image_146 : decode cX10_image 146 = .ok (.invokevirtual 286, 3) := by decide +kernel
theorem dX10_image_149 : decode cX10_image 149 = .ok (.pop, 1) := by decide +kernel
theorem dX10_image_150 : decode cX10_image 150 = .ok (.aload_n 0, 1) := by decide +kernel
theorem dX10_image_151 : decode cX10_image 151 = .ok (.aload_n 0, 1) := by decide +kernel
theorem dX10_image_152 : decode cX10_image 152 = .ok (.getfield 43, 3) := by decide +kernel
theorem dX10_image_155 : decode cX10_image 155 = .ok (.iload_n 1, 1) := by decide +kernel
theorem dX10_image_156 : decode cX10_image 156 = .ok (.bipush 8, 2) := by decide +kernel
theorem dX10_image_158 : decode cX10_image 158 = .ok (.iadd, 1) := by decide +kernel
theorem dX10_image_159 : decode cX10_image 159 = .ok (.invokevirtual 286, 3) := by decide +kernel
theorem dX10_image_162 : decode cX10_image 162 = .ok (.pop, 1) := by decide +kernel
theorem dX10_image_163 : decode cX10_image 163 = .ok (.aload_n 0, 1) := by decide +kernel
theorem dX10_image_164 : decode cX10_image 164 = .ok (.aload_n 0, 1) := by decide +kernel
theorem dX10_image_165 : decode cX10_image 165 = .ok (.getfield 46, 3) := by decide +kernel
theorem dX10_image_168 : decode cX10_image 168 = .ok (.iload_n 1, 1) := by decide +kernel
theorem dX10_image_169 : decode cX10_image 169 = .ok (.bipush 16, 2) := by decide +kernel
theorem dX10_image_171 : decode cX10_image 171 = .ok (.iadd, 1) := by decide +kernel
theorem dX10_image_172 : decode cX10_image 172 = .ok (.invokevirtual 286, 3) := by decide +kernel
theorem dX10_image_175 : decode cX10_image 175 = .ok (.pop, 1) := by decide +kernel
theorem dX10_image_176 : decode cX10_image 176 = .ok (.aload_n 0, 1) := by decide +kernel
theorem dX10_image_177 : decode cX10_image 177 = .ok (.aload_n 0, 1) := by decide +kernel
theorem dX10_image_178 : decode cX10_image 178 = .ok (.getfield 49, 3) := by decide +kernel
theorem dX10_image_181 : decode cX10_image 181 = .ok (.bipush 98, 2) := by decide +kernel
theorem dX10_image_183 : decode cX10_image 183 = .ok (.invokevirtual 286, 3) := by decide +kernel
theorem dX10_image_186 : decode cX10_image 186 = .ok (.pop, 1) := by decide +kernel
theorem dX10_image_187 : decode cX10_image 187 = .ok (.aload_n 0, 1) := by decide +kernel
theorem dX10_image_188 : decode cX10_image 188 = .ok (.aload_n 0, 1) := by decide +kernel
theorem dX10_image_189 : decode cX10_image 189 = .ok (.getfield 52, 3) := by decide +kernel
theorem dX10_image_192 : decode cX10_image 192 = .ok (.bipush 104, 2) := by decide +kernel
theorem dX10_image_194 : decode cX10_image 194 = .ok (.invokevirtual 286, 3) := by decide +kernel
theorem dX10_image_197 : decode cX10_image 197 = .ok (.pop, 1) := by decide +kernel
theorem dX10_image_198 : decode cX10_image 198 = .ok (.aload_n 0, 1) := by decide +kernel
theorem dX10_image_199 : decode cX10_image 199 = .ok (.iconst 1, 1) := by decide +kernel
theorem dX10_image_200 : decode cX10_image 200 = .ok (.putfield 289, 3) := by decide +kernel
theorem dX10_image_203 : decode cX10_image 203 = .ok (.iconst 1, 1) := by decide +kernel
theorem dX10_image_204 : decode cX10_image 204 = .ok (.ireturn, 1) := by decide +kernel
theorem dX10_restore_0 : decode cX10_restore 0 = .ok (.aload_n 0, 1) := by decide +kernel
theorem dX10_restore_1 : decode cX10_restore 1 = .ok (.getfield 289, 3) := by decide +kernel
theorem dX10_restore_4 : decode cX10_restore 4 = .ok (.ifCond .ne 6, 3) := by decide +kernel
theorem dX10_restore_7 : decode cX10_restore 7 = .ok (.bipush (-4), 2) := by decide +kernel
theorem dX10_restore_9 : decode cX10_restore 9 = .ok (.ireturn, 1) := by decide +kernel
theorem dX10_restore_10 : decode cX10_restore 10 = .ok (.aload_n 0, 1) := by decide +kernel
theorem dX10_restore_11 : decode cX10_restore 11 = .ok (.aload_n 0, 1) := by decide +kernel
theorem dX10_restore_12 : decode cX10_restore 12 = .ok (.getfield 76, 3) := by decide +kernel
theorem dX10_restore_15 : decode cX10_restore 15 = .ok (.iconst 0, 1) := by decide +kernel
theorem dX10_restore_16 : decode cX10_restore 16 = .ok (.iaload, 1) := by decide +kernel
theorem dX10_restore_17 : decode cX10_restore 17 = .ok (.putfield 98, 3) := by decide +kernel
theorem dX10_restore_20 : decode cX10_restore 20 = .ok (.aload_n 0, 1) := by decide +kernel
theorem dX10_restore_21 : decode cX10_restore 21 = .ok (.aload_n 0, 1) := by decide +kernel
theorem dX10_restore_22 : decode cX10_restore 22 = .ok (.getfield 76, 3) := by decide +kernel
theorem dX10_restore_25 : decode cX10_restore 25 = .ok (.iconst 1, 1) := by decide +kernel
theorem dX10_restore_26 : decode cX10_restore 26 = .ok (.iaload, 1) := by decide +kernel
theorem dX10_restore_27 : decode cX10_restore 27 = .ok (.putfield 106, 3) := by decide +kernel
theorem dX10_restore_30 : decode cX10_restore 30 = .ok (.aload_n 0, 1) := by decide +kernel
theorem dX10_restore_31 : decode cX10_restore 31 = .ok (.aload_n 0, 1) := by decide +kernel
theorem dX10_restore_32 : decode cX10_restore 32 = .ok (.getfield 76, 3) := by decide +kernel
theorem dX10_restore_35 : decode cX10_restore 35 = .ok (.iconst 2, 1) := by decide +kernel
theorem dX10_restore_36 : decode cX10_restore 36 = .ok (.iaload, 1) := by decide +kernel
theorem dX10_restore_37 : decode cX10_restore 37 = .ok (.putfield 152, 3) := by decide +kernel
theorem dX10_restore_40 : decode cX10_restore 40 = .ok (.aload_n 0, 1) := by decide +kernel
theorem dX10_restore_41 : decode cX10_restore 41 = .ok (.aload_n 0, 1) := by decide +kernel
theorem dX10_restore_42 : decode cX10_restore 42 = .ok (.getfield 76, 3) := by decide +kernel
theorem dX10_restore_45 : decode cX10_restore 45 = .ok (.iconst 3, 1) := by decide +kernel
theorem dX10_restore_46 : decode cX10_restore 46 = .ok (.iaload, 1) := by decide +kernel
theorem dX10_restore_47 : decode cX10_restore 47 = .ok (.putfield 119, 3) := by decide +kernel
theorem dX10_restore_50 : decode cX10_restore 50 = .ok (.aload_n 0, 1) := by decide +kernel
theorem dX10_restore_51 : decode cX10_restore 51 = .ok (.iconst 4, 1) := by decide +kernel
theorem dX10_restore_52 : decode cX10_restore 52 = .ok (.aload_n 0, 1) := by decide +kernel
theorem dX10_restore_53 : decode cX10_restore 53 = .ok (.getfield 7, 3) := by decide +kernel
theorem dX10_restore_56 : decode cX10_restore 56 = .ok (.invokevirtual 292, 3) := by decide +kernel
theorem dX10_restore_59 : decode cX10_restore 59 = .ok (.istore_n 1, 1) := by decide +kernel
theorem dX10_restore_60 : decode cX10_restore 60 = .ok (.aload_n 0, 1) := by decide +kernel
theorem dX10_restore_61 : decode cX10_restore 61 = .ok (.iload_n 1, 1) := by decide +kernel
theorem dX10_restore_62 : decode cX10_restore 62 = .ok (.aload_n 0, 1) := by decide +kernel
theorem dX10_restore_63 : decode cX10_restore 63 = .ok (.getfield 13, 3) := by decide +kernel
theorem dX10_restore_66 : decode cX10_restore 66 = .ok (.invokevirtual 292, 3) := by decide +kernel
theorem dX10_restore_69 : decode cX10_restore 69 = .ok (.istore_n 1, 1) := by decide +kernel
theorem dX10_restore_70 : decode cX10_restore 70 = .ok (.aload_n 0, 1) := by decide +kernel
theorem dX10_restore_71 : decode cX10_restore 71 = .ok (.iload_n 1, 1) := by decide +kernel
theorem dX10_restore_72 : decode cX10_restore 72 = .ok (.aload_n 0, 1) := by decide +kernel
theorem dX10_restore_73 : decode cX10_restore 73 = .ok (.getfield 16, 3) := by decide +kernel
theorem dX10_restore_76 : decode cX10_restore 76 = .ok (.invokevirtual 292, 3) := by decide +kernel
theorem dX10_restore_79 : decode cX10_restore 79 = .ok (.istore_n 1, 1) := by decide +kernel
theorem dX10_restore_80 : decode cX10_restore 80 = .ok (.aload_n 0, 1) := by decide +kernel
theorem dX10_restore_81 : decode cX10_restore 81 = .ok (.iload_n 1, 1) := by decide +kernel
theorem dX10_restore_82 : decode cX10_restore 82 = .ok (.aload_n 0, 1) := by decide +kernel
theorem dX10_restore_83 : decode cX10_restore 83 = .ok (.getfield 19, 3) := by decide +kernel
theorem dX10_restore_86 : decode cX10_restore 86 = .ok (.invokevirtual 292, 3) := by decide +kernel
theorem dX10_restore_89 : decode cX10_restore 89 = .ok (.istore_n 1, 1) := by decide +kernel
theorem dX10_restore_90 : decode cX10_restore 90 = .ok (.aload_n 0, 1) := by decide +kernel
theorem dX10_restore_91 : decode cX10_restore 91 = .ok (.iload_n 1, 1) := by decide +kernel
theorem dX10_restore_92 : decode cX10_restore 92 = .ok (.aload_n 0, 1) := by decide +kernel
theorem dX10_restore_93 : decode cX10_restore 93 = .ok (.getfield 22, 3) := by decide +kernel
theorem dX10_restore_96 : decode cX10_restore 96 = .ok (.invokevirtual 292, 3) := by decide +kernel
theorem dX10_restore_99 : decode cX10_restore 99 = .ok (.istore_n 1, 1) := by decide +kernel
theorem dX10_restore_100 : decode cX10_restore 100 = .ok (.aload_n 0, 1) := by decide +kernel
theorem dX10_restore_101 : decode cX10_restore 101 = .ok (.iload_n 1, 1) := by decide +kernel
theorem dX10_restore_102 : decode cX10_restore 102 = .ok (.aload_n 0, 1) := by decide +kernel
theorem dX10_restore_103 : decode cX10_restore 103 = .ok (.getfield 25, 3) := by decide +kernel
theorem dX10_restore_106 : decode cX10_restore 106 = .ok (.invokevirtual 292, 3) := by decide +kernel
theorem dX10_restore_109 : decode cX10_restore 109 = .ok (.istore_n 1, 1) := by decide +kernel
theorem dX10_restore_110 : decode cX10_restore 110 = .ok (.aload_n 0, 1) := by decide +kernel
theorem dX10_restore_111 : decode cX10_restore 111 = .ok (.iload_n 1, 1) := by decide +kernel
theorem dX10_restore_112 : decode cX10_restore 112 = .ok (.aload_n 0, 1) := by decide +kernel
theorem dX10_restore_113 : decode cX10_restore 113 = .ok (.getfield 28, 3) := by decide +kernel
theorem dX10_restore_116 : decode cX10_restore 116 = .ok (.invokevirtual 292, 3) := by decide +kernel
theorem dX10_restore_119 : decode cX10_restore 119 = .ok (.istore_n 1, 1) := by decide +kernel
theorem dX10_restore_120 : decode cX10_restore 120 = .ok (.aload_n 0, 1) := by decide +kernel
theorem dX10_restore_121 : decode cX10_restore 121 = .ok (.iload_n 1, 1) := by decide +kernel
theorem dX10_restore_122 : decode cX10_restore 122 = .ok (.aload_n 0, 1) := by decide +kernel
theorem dX10_restore_123 : decode cX10_restore 123 = .ok (.getfield 31, 3) := by decide +kernel
theorem dX10_restore_126 : decode cX10_restore 126 = .ok (.invokevirtual 292, 3) := by decide +kernel
theorem dX10_restore_129 : decode cX10_restore 129 = .ok (.istore_n 1, 1) := by decide +kernel
theorem dX10_restore_130 : decode cX10_restore 130 = .ok (.aload_n 0, 1) := by decide +kernel
theorem dX10_restore_131 : decode cX10_restore 131 = .ok (.iload_n 1, 1) := by decide +kernel
theorem dX10_restore_132 : decode cX10_restore 132 = .ok (.aload_n 0, 1) := by decide +kernel
theorem dX10_restore_133 : decode cX10_restore 133 = .ok (.getfield 34, 3) := by decide +kernel
theorem dX10_restore_136 : decode cX10_restore 136 = .ok (.invokevirtual 292, 3) := by decide +kernel
theorem dX10_restore_139 : decode cX10_restore 139 = .ok (.istore_n 1, 1) := by decide +kernel
theorem dX10_restore_140 : decode cX10_restore 140 = .ok (.aload_n 0, 1) := by decide +kernel
theorem dX10_restore_141 : decode cX10_restore 141 = .ok (.iload_n 1, 1) := by decide +kernel
theorem dX10_restore_142 : decode cX10_restore 142 = .ok (.aload_n 0, 1) := by decide +kernel
theorem dX10_restore_143 : decode cX10_restore 143 = .ok (.getfield 37, 3) := by decide +kernel
theorem dX10_restore_146 : decode cX10_restore 146 = .ok (.invokevirtual 292, 3) := by decide +kernel
theorem dX10_restore_149 : decode cX10_restore 149 = .ok (.istore_n 1, 1) := by decide +kernel
theorem dX10_restore_150 : decode cX10_restore 150 = .ok (.aload_n 0, 1) := by decide +kernel
theorem dX10_restore_151 : decode cX10_restore 151 = .ok (.iload_n 1, 1) := by decide +kernel
theorem dX10_restore_152 : decode cX10_restore 152 = .ok (.aload_n 0, 1) := by decide +kernel
theorem dX10_restore_153 : decode cX10_restore 153 = .ok (.getfield 40, 3) := by decide +kernel
theorem dX10_restore_156 : decode cX10_restore 156 = .ok (.invokevirtual 292, 3) := by decide +kernel
theorem dX10_restore_159 : decode cX10_restore 159 = .ok (.pop, 1) := by decide +kernel
theorem dX10_restore_160 : decode cX10_restore 160 = .ok (.aload_n 0, 1) := by decide +kernel
theorem dX10_restore_161 : decode cX10_restore 161 = .ok (.iload_n 1, 1) := by decide +kernel
theorem dX10_restore_162 : decode cX10_restore 162 = .ok (.bipush 8, 2) := by decide +kernel
theorem dX10_restore_164 : decode cX10_restore 164 = .ok (.iadd, 1) := by decide +kernel
theorem dX10_restore_165 : decode cX10_restore 165 = .ok (.aload_n 0, 1) := by decide +kernel
theorem dX10_restore_166 : decode cX10_restore 166 = .ok (.getfield 43, 3) := by decide +kernel
theorem dX10_restore_169 : decode cX10_restore 169 = .ok (.invokevirtual 292, 3) := by decide +kernel
theorem dX10_restore_172 : decode cX10_restore 172 = .ok (.pop, 1) := by decide +kernel
theorem dX10_restore_173 : decode cX10_restore 173 = .ok (.aload_n 0, 1) := by decide +kernel
theorem dX10_restore_174 : decode cX10_restore 174 = .ok (.iload_n 1, 1) := by decide +kernel
theorem dX10_restore_175 : decode cX10_restore 175 = .ok (.bipush 16, 2) := by decide +kernel
theorem dX10_restore_177 : decode cX10_restore 177 = .ok (.iadd, 1) := by decide +kernel
theorem dX10_restore_178 : decode cX10_restore 178 = .ok (.aload_n 0, 1) := by decide +kernel
theorem dX10_restore_179 : decode cX10_restore 179 = .ok (.getfield 46, 3) := by decide +kernel
theorem dX10_restore_182 : decode cX10_restore 182 = .ok (.invokevirtual 292, 3) := by decide +kernel
theorem dX10_restore_185 : decode cX10_restore 185 = .ok (.pop, 1) := by decide +kernel
theorem dX10_restore_186 : decode cX10_restore 186 = .ok (.aload_n 0, 1) := by decide +kernel
theorem dX10_restore_187 : decode cX10_restore 187 = .ok (.bipush 98, 2) := by decide +kernel
theorem dX10_restore_189 : decode cX10_restore 189 = .ok (.aload_n 0, 1) := by decide +kernel
theorem dX10_restore_190 : decode cX10_restore 190 = .ok (.getfield 49, 3) := by decide +kernel
theorem dX10_restore_193 : decode cX10_restore 193 = .ok (.invokevirtual 292, 3) := by decide +kernel
theorem dX10_restore_196 : decode cX10_restore 196 = .ok (.pop, 1) := by decide +kernel
theorem dX10_restore_197 : decode cX10_restore 197 = .ok (.aload_n 0, 1) := by decide +kernel
theorem dX10_restore_198 : decode cX10_restore 198 = .ok (.bipush 104, 2) := by decide +kernel
theorem dX10_restore_200 : decode cX10_restore 200 = .ok (.aload_n 0, 1) := by decide +kernel
theorem dX10_restore_201 : decode cX10_restore 201 = .ok (.getfield 52, 3) := by decide +kernel
theorem dX10_restore_204 : decode cX10_restore 204 = .ok (.invokevirtual 292, 3) := by decide +kernel
theorem dX10_restore_207 : decode cX10_restore 207 = .ok (.pop, 1) := by decide +kernel
theorem dX10_restore_208 : decode cX10_restore 208 = .ok (.iconst 1, 1) := by decide +kernel
theorem dX10_restore_209 : decode cX10_restore 209 = .ok (.ireturn, 1) := by decide +kernel
theorem dX10_isSheet_0 : decode cX10_isSheet 0 = .ok (.iload_n 0, 1) := by decide +kernel
theorem dX10_isSheet_1 : decode cX10_isSheet 1 = .ok (.i2l, 1) := by decide +kernel
theorem dX10_isSheet_2 : decode cX10_isSheet 2 = .ok (.lconst 0, 1) := by decide +kernel
theorem dX10_isSheet_3 : decode cX10_isSheet 3 = .ok (.ldc2_w 111, 3) := by decide +kernel
theorem dX10_isSheet_6 : decode cX10_isSheet 6 = .ok (.invokestatic 102, 3) := by decide +kernel
theorem dX10_isSheet_9 : decode cX10_isSheet 9 = .ok (.ireturn, 1) := by decide +kernel
theorem dX10_isLane_0 : decode cX10_isLane 0 = .ok (.iload_n 0, 1) := by decide +kernel
theorem dX10_isLane_1 : decode cX10_isLane 1 = .ok (.i2l, 1) := by decide +kernel
theorem dX10_isLane_2 : decode cX10_isLane 2 = .ok (.lconst 0, 1) := by decide +kernel
theorem dX10_isLane_3 : decode cX10_isLane 3 = .ok (.ldc2_w 111, 3) := by decide +kernel
theorem dX10_isLane_6 : decode cX10_isLane 6 = .ok (.invokestatic 102, 3) := by decide +kernel
theorem dX10_isLane_9 : decode cX10_isLane 9 = .ok (.ireturn, 1) := by decide +kernel
theorem dX10_why_0 : decode cX10_why 0 = .ok (.aload_n 0, 1) := by decide +kernel
theorem dX10_why_1 : decode cX10_why 1 = .ok (.getfield 79, 3) := by decide +kernel
theorem dX10_why_4 : decode cX10_why 4 = .ok (.iload_n 1, 1) := by decide +kernel
theorem dX10_why_5 : decode cX10_why 5 = .ok (.iaload, 1) := by decide +kernel
theorem dX10_why_6 : decode cX10_why 6 = .ok (.ifCond .ge 6, 3) := by decide +kernel
theorem dX10_why_9 : decode cX10_why 9 = .ok (.bipush (-11), 2) := by decide +kernel
theorem dX10_why_11 : decode cX10_why 11 = .ok (.ireturn, 1) := by decide +kernel
theorem dX10_why_12 : decode cX10_why 12 = .ok (.aload_n 0, 1) := by decide +kernel
theorem dX10_why_13 : decode cX10_why 13 = .ok (.getfield 79, 3) := by decide +kernel
theorem dX10_why_16 : decode cX10_why 16 = .ok (.iload_n 1, 1) := by decide +kernel
theorem dX10_why_17 : decode cX10_why 17 = .ok (.iaload, 1) := by decide +kernel
theorem dX10_why_18 : decode cX10_why 18 = .ok (.iload_n 2, 1) := by decide +kernel
theorem dX10_why_19 : decode cX10_why 19 = .ok (.if_icmp .eq 6, 3) := by decide +kernel
theorem dX10_why_22 : decode cX10_why 22 = .ok (.bipush (-12), 2) := by decide +kernel
theorem dX10_why_24 : decode cX10_why 24 = .ok (.ireturn, 1) := by decide +kernel
theorem dX10_why_25 : decode cX10_why 25 = .ok (.iload_n 3, 1) := by decide +kernel
theorem dX10_why_26 : decode cX10_why 26 = .ok (.ifCond .lt 20, 3) := by decide +kernel
theorem dX10_why_29 : decode cX10_why 29 = .ok (.iload_n 3, 1) := by decide +kernel
theorem dX10_why_30 : decode cX10_why 30 = .ok (.i2l, 1) := by decide +kernel
theorem dX10_why_31 : decode cX10_why 31 = .ok (.iload 4, 2) := by decide +kernel
theorem dX10_why_33 : decode cX10_why 33 = .ok (.i2l, 1) := by decide +kernel
theorem dX10_why_34 : decode cX10_why 34 = .ok (.ladd, 1) := by decide +kernel
theorem dX10_why_35 : decode cX10_why 35 = .ok (.aload_n 0, 1) := by decide +kernel
theorem dX10_why_36 : decode cX10_why 36 = .ok (.getfield 82, 3) := by decide +kernel
theorem dX10_why_39 : decode cX10_why 39 = .ok (.iload_n 1, 1) := by decide +kernel
theorem dX10_why_40 : decode cX10_why 40 = .ok (.iaload, 1) := by decide +kernel
theorem dX10_why_41 : decode cX10_why 41 = .ok (.i2l, 1) := by decide +kernel
theorem dX10_why_42 : decode cX10_why 42 = .ok (.lcmp, 1) := by decide +kernel
theorem dX10_why_43 : decode cX10_why 43 = .ok (.ifCond .le 8, 3) := by decide +kernel
theorem dX10_why_46 : decode cX10_why 46 = .ok (.bipush (-13), 2) := by decide +kernel
theorem dX10_why_48 : decode cX10_why 48 = .ok (.goto 4, 3) := by decide +kernel
theorem dX10_why_51 : decode cX10_why 51 = .ok (.iconst 0, 1) := by decide +kernel
theorem dX10_why_52 : decode cX10_why 52 = .ok (.ireturn, 1) := by decide +kernel
theorem dX10_across_0 : decode cX10_across 0 = .ok (.iload_n 0, 1) := by decide +kernel
theorem dX10_across_1 : decode cX10_across 1 = .ok (.iconst 2, 1) := by decide +kernel
theorem dX10_across_2 : decode cX10_across 2 = .ok (.if_icmp .eq 9, 3) := by decide +kernel
theorem dX10_across_5 : decode cX10_across 5 = .ok (.iload_n 0, 1) := by decide +kernel
theorem dX10_across_6 : decode cX10_across 6 = .ok (.bipush 6, 2) := by decide +kernel
theorem dX10_across_8 : decode cX10_across 8 = .ok (.if_icmp .ne 7, 3) := by decide +kernel
theorem dX10_across_11 : decode cX10_across 11 = .ok (.iconst 3, 1) := by decide +kernel
theorem dX10_across_12 : decode cX10_across 12 = .ok (.goto 14, 3) := by decide +kernel
theorem dX10_across_15 : decode cX10_across 15 = .ok (.iload_n 0, 1) := by decide +kernel
theorem dX10_across_16 : decode cX10_across 16 = .ok (.iconst 4, 1) := by decide +kernel
theorem dX10_across_17 : decode cX10_across 17 = .ok (.irem, 1) := by decide +kernel
theorem dX10_across_18 : decode cX10_across 18 = .ok (.ifCond .ne 7, 3) := by decide +kernel
theorem dX10_across_21 : decode cX10_across 21 = .ok (.iconst 0, 1) := by decide +kernel
theorem dX10_across_22 : decode cX10_across 22 = .ok (.goto 4, 3) := by decide +kernel
theorem dX10_across_25 : decode cX10_across 25 = .ok (.iconst 2, 1) := by decide +kernel
theorem dX10_across_26 : decode cX10_across 26 = .ok (.istore_n 1, 1) := by decide +kernel
theorem dX10_across_27 : decode cX10_across 27 = .ok (.iload_n 0, 1) := by decide +kernel
theorem dX10_across_28 : decode cX10_across 28 = .ok (.iconst 4, 1) := by decide +kernel
theorem dX10_across_29 : decode cX10_across 29 = .ok (.if_icmp .le 8, 3) := by decide +kernel
theorem dX10_across_32 : decode cX10_across 32 = .ok (.iload_n 1, 1) := by decide +kernel
theorem dX10_across_33 : decode cX10_across 33 = .ok (.ineg, 1) := by decide +kernel
theorem dX10_across_34 : decode cX10_across 34 = .ok (.goto 4, 3) := by decide +kernel
theorem dX10_across_37 : decode cX10_across 37 = .ok (.iload_n 1, 1) := by decide +kernel
theorem dX10_across_38 : decode cX10_across 38 = .ok (.ireturn, 1) := by decide +kernel
theorem dX10_isTipped_0 : decode cX10_isTipped 0 = .ok (.iconst 0, 1) := by decide +kernel
theorem dX10_isTipped_1 : decode cX10_isTipped 1 = .ok (.istore_n 3, 1) := by decide +kernel
theorem dX10_isTipped_2 : decode cX10_isTipped 2 = .ok (.iconst 0, 1) := by decide +kernel
theorem dX10_isTipped_3 : decode cX10_isTipped 3 = .ok (.istore 4, 2) := by decide +kernel
theorem dX10_isTipped_5 : decode cX10_isTipped 5 = .ok (.iconst 0, 1) := by decide +kernel
theorem dX10_isTipped_6 : decode cX10_isTipped 6 = .ok (.istore 5, 2) := by decide +kernel
theorem dX10_isTipped_8 : decode cX10_isTipped 8 = .ok (.iload 5, 2) := by decide +kernel
theorem dX10_isTipped_10 : decode cX10_isTipped 10 = .ok (.bipush 8, 2) := by decide +kernel
theorem dX10_isTipped_12 : decode cX10_isTipped 12 = .ok (.if_icmp .ge 58, 3) := by decide +kernel
theorem dX10_isTipped_15 : decode cX10_isTipped 15 = .ok (.iload_n 1, 1) := by decide +kernel
theorem dX10_isTipped_16 : decode cX10_isTipped 16 = .ok (.iload 5, 2) := by decide +kernel
theorem dX10_isTipped_18 : decode cX10_isTipped 18 = .ok (.ishr, 1) := by decide +kernel
theorem dX10_isTipped_19 : decode cX10_isTipped 19 = .ok (.iconst 1, 1) := by decide +kernel
theorem dX10_isTipped_20 : decode cX10_isTipped 20 = .ok (.iand, 1) := by decide +kernel
theorem dX10_isTipped_21 : decode cX10_isTipped 21 = .ok (.iconst 1, 1) := by decide +kernel
theorem dX10_isTipped_22 : decode cX10_isTipped 22 = .ok (.if_icmp .ne 42, 3) := by decide +kernel
theorem dX10_isTipped_25 : decode cX10_isTipped 25 = .ok (.iload_n 3, 1) := by decide +kernel
theorem dX10_isTipped_26 : decode cX10_isTipped 26 = .ok (.aload_n 0, 1) := by decide +kernel
theorem dX10_isTipped_27 : decode cX10_isTipped 27 = .ok (.getfield 92, 3) := by decide +kernel
theorem dX10_isTipped_30 : decode cX10_isTipped 30 = .ok (.iload 5, 2) := by decide +kernel
theorem dX10_isTipped_32 : decode cX10_isTipped 32 = .ok (.iaload, 1) := by decide +kernel
theorem dX10_isTipped_33 : decode cX10_isTipped 33 = .ok (.iload 5, 2) := by decide +kernel
theorem dX10_isTipped_35 : decode cX10_isTipped 35 = .ok (.invokestatic 296, 3) := by decide +kernel
theorem dX10_isTipped_38 : decode cX10_isTipped 38 = .ok (.imul, 1) := by decide +kernel
theorem dX10_isTipped_39 : decode cX10_isTipped 39 = .ok (.iadd, 1) := by decide +kernel
theorem dX10_isTipped_40 : decode cX10_isTipped 40 = .ok (.istore_n 3, 1) := by decide +kernel
theorem dX10_isTipped_41 : decode cX10_isTipped 41 = .ok (.iload 4, 2) := by decide +kernel
theorem dX10_isTipped_43 : decode cX10_isTipped 43 = .ok (.aload_n 0, 1) := by decide +kernel
theorem dX10_isTipped_44 : decode cX10_isTipped 44 = .ok (.getfield 92, 3) := by decide +kernel
theorem dX10_isTipped_47 : decode cX10_isTipped 47 = .ok (.iload 5, 2) := by decide +kernel
theorem dX10_isTipped_49 : decode cX10_isTipped 49 = .ok (.iaload, 1) := by decide +kernel
theorem dX10_isTipped_50 : decode cX10_isTipped 50 = .ok (.iload 5, 2) := by decide +kernel
theorem dX10_isTipped_52 : decode cX10_isTipped 52 = .ok (.iconst 2, 1) := by decide +kernel
theorem dX10_isTipped_53 : decode cX10_isTipped 53 = .ok (.iadd, 1) := by decide +kernel
theorem dX10_isTipped_54 : decode cX10_isTipped 54 = .ok (.bipush 8, 2) := by decide +kernel
theorem dX10_isTipped_56 : decode cX10_isTipped 56 = .ok (.irem, 1) := by decide +kernel
theorem dX10_isTipped_57 : decode cX10_isTipped 57 = .ok (.invokestatic 296, 3) := by decide +kernel
theorem dX10_isTipped_60 : decode cX10_isTipped 60 = .ok (.imul, 1) := by decide +kernel
theorem dX10_isTipped_61 : decode cX10_isTipped 61 = .ok (.iadd, 1) := by decide +kernel
theorem dX10_isTipped_62 : decode cX10_isTipped 62 = .ok (.istore 4, 2) := by decide +kernel
theorem dX10_isTipped_64 : decode cX10_isTipped 64 = .ok (.iinc 5 1, 3) := by decide +kernel
theorem dX10_isTipped_67 : decode cX10_isTipped 67 = .ok (.goto (-59), 3) := by decide +kernel
theorem dX10_isTipped_70 : decode cX10_isTipped 70 = .ok (.aload_n 0, 1) := by decide +kernel
theorem dX10_isTipped_71 : decode cX10_isTipped 71 = .ok (.iload_n 3, 1) := by decide +kernel
theorem dX10_isTipped_72 : decode cX10_isTipped 72 = .ok (.invokevirtual 230, 3) := by decide +kernel
theorem dX10_isTipped_75 : decode cX10_isTipped 75 = .ok (.iload_n 2, 1) := by decide +kernel
theorem dX10_isTipped_76 : decode cX10_isTipped 76 = .ok (.if_icmp .gt 13, 3) := by decide +kernel
theorem dX10_isTipped_79 : decode cX10_isTipped 79 = .ok (.aload_n 0, 1) := by decide +kernel
theorem dX10_isTipped_80 : decode cX10_isTipped 80 = .ok (.iload 4, 2) := by decide +kernel
theorem dX10_isTipped_82 : decode cX10_isTipped 82 = .ok (.invokevirtual 230, 3) := by decide +kernel
theorem dX10_isTipped_85 : decode cX10_isTipped 85 = .ok (.iload_n 2, 1) := by decide +kernel
theorem dX10_isTipped_86 : decode cX10_isTipped 86 = .ok (.if_icmp .le 7, 3) := by decide +kernel
theorem dX10_isTipped_89 : decode cX10_isTipped 89 = .ok (.iconst 1, 1) := by decide +kernel
theorem dX10_isTipped_90 : decode cX10_isTipped 90 = .ok (.goto 4, 3) := by decide +kernel
theorem dX10_isTipped_93 : decode cX10_isTipped 93 = .ok (.iconst 0, 1) := by decide +kernel
theorem dX10_isTipped_94 : decode cX10_isTipped 94 = .ok (.ireturn, 1) := by decide +kernel
theorem dX10_ordersOf_0 : decode cX10_ordersOf 0 = .ok (.iconst 0, 1) := by decide +kernel
theorem dX10_ordersOf_1 : decode cX10_ordersOf 1 = .ok (.istore_n 3, 1) := by decide +kernel
theorem dX10_ordersOf_2 : decode cX10_ordersOf 2 = .ok (.iload_n 3, 1) := by decide +kernel
theorem dX10_ordersOf_3 : decode cX10_ordersOf 3 = .ok (.iload_n 1, 1) := by decide +kernel
theorem dX10_ordersOf_4 : decode cX10_ordersOf 4 = .ok (.if_icmp .gt 97, 3) := by decide +kernel
theorem dX10_ordersOf_7 : decode cX10_ordersOf 7 = .ok (.iload_n 3, 1) := by decide +kernel
theorem dX10_ordersOf_8 : decode cX10_ordersOf 8 = .ok (.ifCond .ne 7, 3) := by decide +kernel
theorem dX10_ordersOf_11 : decode cX10_ordersOf 11 = .ok (.iconst 1, 1) := by decide +kernel
theorem dX10_ordersOf_12 : decode cX10_ordersOf 12 = .ok (.goto 4, 3) := by decide +kernel
theorem dX10_ordersOf_15 : decode cX10_ordersOf 15 = .ok (.iconst 0, 1) := by decide +kernel
theorem dX10_ordersOf_16 : decode cX10_ordersOf 16 = .ok (.istore 4, 2) := by decide +kernel
theorem dX10_ordersOf_18 : decode cX10_ordersOf 18 = .ok (.iconst 0, 1) := by decide +kernel
theorem dX10_ordersOf_19 : decode cX10_ordersOf 19 = .ok (.istore 5, 2) := by decide +kernel
theorem dX10_ordersOf_21 : decode cX10_ordersOf 21 = .ok (.iload 5, 2) := by decide +kernel
theorem dX10_ordersOf_23 : decode cX10_ordersOf 23 = .ok (.bipush 8, 2) := by decide +kernel
theorem dX10_ordersOf_25 : decode cX10_ordersOf 25 = .ok (.if_icmp .ge 49, 3) := by decide +kernel
theorem dX10_ordersOf_28 : decode cX10_ordersOf 28 = .ok (.iload 4, 2) := by decide +kernel
theorem dX10_ordersOf_30 : decode cX10_ordersOf 30 = .ok (.iload_n 3, 1) := by decide +kernel
theorem dX10_ordersOf_31 : decode cX10_ordersOf 31 = .ok (.iload 5, 2) := by decide +kernel
theorem dX10_ordersOf_33 : decode cX10_ordersOf 33 = .ok (.ishr, 1) := by decide +kernel
theorem dX10_ordersOf_34 : decode cX10_ordersOf 34 = .ok (.iconst 1, 1) := by decide +kernel
theorem dX10_ordersOf_35 : decode cX10_ordersOf 35 = .ok (.iand, 1) := by decide +kernel
theorem dX10_ordersOf_36 : decode cX10_ordersOf 36 = .ok (.iconst 1, 1) := by decide +kernel
theorem dX10_ordersOf_37 : decode cX10_ordersOf 37 = .ok (.if_icmp .ne 27, 3) := by decide +kernel
theorem dX10_ordersOf_40 : decode cX10_ordersOf 40 = .ok (.iload_n 3, 1) := by decide +kernel
theorem dX10_ordersOf_41 : decode cX10_ordersOf 41 = .ok (.iload_n 1, 1) := by decide +kernel
theorem dX10_ordersOf_42 : decode cX10_ordersOf 42 = .ok (.iconst (-1), 1) := by decide +kernel
theorem dX10_ordersOf_43 : decode cX10_ordersOf 43 = .ok (.ixor, 1) := by decide +kernel
theorem dX10_ordersOf_44 : decode cX10_ordersOf 44 = .ok (.iand, 1) := by decide +kernel
theorem dX10_ordersOf_45 : decode cX10_ordersOf 45 = .ok (.ifCond .ne 19, 3) := by decide +kernel
theorem dX10_ordersOf_48 : decode cX10_ordersOf 48 = .ok (.aload_n 0, 1) := by decide +kernel
theorem dX10_ordersOf_49 : decode cX10_ordersOf 49 = .ok (.getfield 95, 3) := by decide +kernel
theorem dX10_ordersOf_52 : decode cX10_ordersOf 52 = .ok (.iload_n 3, 1) := by decide +kernel
theorem dX10_ordersOf_53 : decode cX10_ordersOf 53 = .ok (.iconst 1, 1) := by decide +kernel
theorem dX10_ordersOf_54 : decode cX10_ordersOf 54 = .ok (.iload 5, 2) := by decide +kernel
theorem dX10_ordersOf_56 : decode cX10_ordersOf 56 = .ok (.ishl, 1) := by decide +kernel
theorem dX10_ordersOf_57 : decode cX10_ordersOf 57 = .ok (.iconst (-1), 1) := by decide +kernel
theorem dX10_ordersOf_58 : decode cX10_ordersOf 58 = .ok (.ixor, 1) := by decide +kernel
theorem dX10_ordersOf_59 : decode cX10_ordersOf 59 = .ok (.iand, 1) := by decide +kernel
theorem dX10_ordersOf_60 : decode cX10_ordersOf 60 = .ok (.iaload, 1) := by decide +kernel
theorem dX10_ordersOf_61 : decode cX10_ordersOf 61 = .ok (.goto 4, 3) := by decide +kernel
theorem dX10_ordersOf_64 : decode cX10_ordersOf 64 = .ok (.iconst 0, 1) := by decide +kernel
theorem dX10_ordersOf_65 : decode cX10_ordersOf 65 = .ok (.iadd, 1) := by decide +kernel
theorem dX10_ordersOf_66 : decode cX10_ordersOf 66 = .ok (.istore 4, 2) := by decide +kernel
theorem dX10_ordersOf_68 : decode cX10_ordersOf 68 = .ok (.iinc 5 1, 3) := by decide +kernel
theorem dX10_ordersOf_71 : decode cX10_ordersOf 71 = .ok (.goto (-50), 3) := by decide +kernel
theorem dX10_ordersOf_74 : decode cX10_ordersOf 74 = .ok (.aload_n 0, 1) := by decide +kernel
theorem dX10_ordersOf_75 : decode cX10_ordersOf 75 = .ok (.getfield 95, 3) := by decide +kernel
theorem dX10_ordersOf_78 : decode cX10_ordersOf 78 = .ok (.iload_n 3, 1) := by decide +kernel
theorem dX10_ordersOf_79 : decode cX10_ordersOf 79 = .ok (.aload_n 0, 1) := by decide +kernel
theorem dX10_ordersOf_80 : decode cX10_ordersOf 80 = .ok (.iload_n 3, 1) := by decide +kernel
theorem dX10_ordersOf_81 : decode cX10_ordersOf 81 = .ok (.iload_n 2, 1) := by decide +kernel
theorem dX10_ordersOf_82 : decode cX10_ordersOf 82 = .ok (.invokevirtual 299, 3) := by decide +kernel
theorem dX10_ordersOf_85 : decode cX10_ordersOf 85 = .ok (.ifCond .eq 7, 3) := by decide +kernel
theorem dX10_ordersOf_88 : decode cX10_ordersOf 88 = .ok (.iconst 0, 1) := by decide +kernel
theorem dX10_ordersOf_89 : decode cX10_ordersOf 89 = .ok (.goto 5, 3) := by decide +kernel
theorem dX10_ordersOf_92 : decode cX10_ordersOf 92 = .ok (.iload 4, 2) := by decide +kernel
theorem dX10_ordersOf_94 : decode cX10_ordersOf 94 = .ok (.iastore, 1) := by decide +kernel
theorem dX10_ordersOf_95 : decode cX10_ordersOf 95 = .ok (.iinc 3 1, 3) := by decide +kernel
theorem dX10_ordersOf_98 : decode cX10_ordersOf 98 = .ok (.goto (-96), 3) := by decide +kernel
theorem dX10_ordersOf_101 : decode cX10_ordersOf 101 = .ok (.aload_n 0, 1) := by decide +kernel
theorem dX10_ordersOf_102 : decode cX10_ordersOf 102 = .ok (.getfield 95, 3) := by decide +kernel
theorem dX10_ordersOf_105 : decode cX10_ordersOf 105 = .ok (.iload_n 1, 1) := by decide +kernel
theorem dX10_ordersOf_106 : decode cX10_ordersOf 106 = .ok (.iaload, 1) := by decide +kernel
theorem dX10_ordersOf_107 : decode cX10_ordersOf 107 = .ok (.ireturn, 1) := by decide +kernel
theorem dX10_tray_0 : decode cX10_tray 0 = .ok (.iload_n 1, 1) := by decide +kernel
theorem dX10_tray_1 : decode cX10_tray 1 = .ok (.invokestatic 303, 3) := by decide +kernel
theorem dX10_tray_4 : decode cX10_tray 4 = .ok (.ifCond .eq 36, 3) := by decide +kernel
theorem dX10_tray_7 : decode cX10_tray 7 = .ok (.iload_n 2, 1) := by decide +kernel
theorem dX10_tray_8 : decode cX10_tray 8 = .ok (.invokestatic 306, 3) := by decide +kernel
theorem dX10_tray_11 : decode cX10_tray 11 = .ok (.ifCond .eq 29, 3) := by decide +kernel
theorem dX10_tray_14 : decode cX10_tray 14 = .ok (.iload 4, 2) := by decide +kernel
theorem dX10_tray_16 : decode cX10_tray 16 = .ok (.i2l, 1) := by decide +kernel
theorem dX10_tray_17 : decode cX10_tray 17 = .ok (.lconst 0, 1) := by decide +kernel
theorem dX10_tray_18 : decode cX10_tray 18 = .ok (.ldc2_w 148, 3) := by decide +kernel
theorem dX10_tray_21 : decode cX10_tray 21 = .ok (.invokestatic 102, 3) := by decide +kernel
theorem dX10_tray_24 : decode cX10_tray 24 = .ok (.ifCond .eq 16, 3) := by decide +kernel
theorem dX10_tray_27 : decode cX10_tray 27 = .ok (.iload 5, 2) := by decide +kernel
theorem dX10_tray_29 : decode cX10_tray 29 = .ok (.i2l, 1) := by decide +kernel
theorem dX10_tray_30 : decode cX10_tray 30 = .ok (.lconst 0, 1) := by decide +kernel
theorem dX10_tray_31 : decode cX10_tray 31 = .ok (.ldc2_w 109, 3) := by decide +kernel
theorem dX10_tray_34 : decode cX10_tray 34 = .ok (.invokestatic 102, 3) := by decide +kernel
theorem dX10_tray_37 : decode cX10_tray 37 = .ok (.ifCond .ne 5, 3) := by decide +kernel
theorem dX10_tray_40 : decode cX10_tray 40 = .ok (.iconst (-1), 1) := by decide +kernel
theorem dX10_tray_41 : decode cX10_tray 41 = .ok (.ireturn, 1) := by decide +kernel
theorem dX10_tray_42 : decode cX10_tray 42 = .ok (.aload_n 0, 1) := by decide +kernel
theorem dX10_tray_43 : decode cX10_tray 43 = .ok (.iload_n 1, 1) := by decide +kernel
theorem dX10_tray_44 : decode cX10_tray 44 = .ok (.iload_n 2, 1) := by decide +kernel
theorem dX10_tray_45 : decode cX10_tray 45 = .ok (.iload_n 3, 1) := by decide +kernel
theorem dX10_tray_46 : decode cX10_tray 46 = .ok (.bipush 8, 2) := by decide +kernel
theorem dX10_tray_48 : decode cX10_tray 48 = .ok (.invokevirtual 309, 3) := by decide +kernel
theorem dX10_tray_51 : decode cX10_tray 51 = .ok (.istore 6, 2) := by decide +kernel
theorem dX10_tray_53 : decode cX10_tray 53 = .ok (.iload 6, 2) := by decide +kernel
theorem dX10_tray_55 : decode cX10_tray 55 = .ok (.ifCond .ge 6, 3) := by decide +kernel
theorem dX10_tray_58 : decode cX10_tray 58 = .ok (.iload 6, 2) := by decide +kernel
theorem dX10_tray_60 : decode cX10_tray 60 = .ok (.ireturn, 1) := by decide +kernel
theorem dX10_tray_61 : decode cX10_tray 61 = .ok (.iconst 0, 1) := by decide +kernel
theorem dX10_tray_62 : decode cX10_tray 62 = .ok (.istore 7, 2) := by decide +kernel
theorem dX10_tray_64 : decode cX10_tray 64 = .ok (.iconst 0, 1) := by decide +kernel
theorem dX10_tray_65 : decode cX10_tray 65 = .ok (.istore 8, 2) := by decide +kernel
theorem dX10_tray_67 : decode cX10_tray 67 = .ok (.iconst 0, 1) := by decide +kernel
theorem dX10_tray_68 : decode cX10_tray 68 = .ok (.istore 9, 2) := by decide +kernel
theorem dX10_tray_70 : decode cX10_tray 70 = .ok (.iload 9, 2) := by decide +kernel
theorem dX10_tray_72 : decode cX10_tray 72 = .ok (.bipush 8, 2) := by decide +kernel
theorem dX10_tray_74 : decode cX10_tray 74 = .ok (.if_icmp .ge 98, 3) := by decide +kernel
theorem dX10_tray_77 : decode cX10_tray 77 = .ok (.aload_n 0, 1) := by decide +kernel
theorem dX10_tray_78 : decode cX10_tray 78 = .ok (.getfield 85, 3) := by decide +kernel
theorem dX10_tray_81 : decode cX10_tray 81 = .ok (.bipush 16, 2) := by decide +kernel
theorem dX10_tray_83 : decode cX10_tray 83 = .ok (.iload_n 1, 1) := by decide +kernel
theorem dX10_tray_84 : decode cX10_tray 84 = .ok (.imul, 1) := by decide +kernel
theorem dX10_tray_85 : decode cX10_tray 85 = .ok (.iload_n 3, 1) := by decide +kernel
theorem dX10_tray_86 : decode cX10_tray 86 = .ok (.iadd, 1) := by decide +kernel
theorem dX10_tray_87 : decode cX10_tray 87 = .ok (.iload 9, 2) := by decide +kernel
theorem dX10_tray_89 : decode cX10_tray 89 = .ok (.iadd, 1) := by decide +kernel
theorem dX10_tray_90 : decode cX10_tray 90 = .ok (.laload, 1) := by decide +kernel
theorem dX10_tray_91 : decode cX10_tray 91 = .ok (.lstore 10, 2) := by decide +kernel
theorem dX10_tray_93 : decode cX10_tray 93 = .ok (.aload_n 0, 1) := by decide +kernel
theorem dX10_tray_94 : decode cX10_tray 94 = .ok (.getfield 92, 3) := by decide +kernel
theorem dX10_tray_97 : decode cX10_tray 97 = .ok (.iload 9, 2) := by decide +kernel
theorem dX10_tray_99 : decode cX10_tray 99 = .ok (.iconst 0, 1) := by decide +kernel
theorem dX10_tray_100 : decode cX10_tray 100 = .ok (.iastore, 1) := by decide +kernel
theorem dX10_tray_101 : decode cX10_tray 101 = .ok (.lload 10, 2) := by decide +kernel
theorem dX10_tray_103 : decode cX10_tray 103 = .ok (.lconst 0, 1) := by decide +kernel
theorem dX10_tray_104 : decode cX10_tray 104 = .ok (.lcmp, 1) := by decide +kernel
theorem dX10_tray_105 : decode cX10_tray 105 = .ok (.ifCond .lt 61, 3) := by decide +kernel
theorem dX10_tray_108 : decode cX10_tray 108 = .ok (.aload_n 0, 1) := by decide +kernel
theorem dX10_tray_109 : decode cX10_tray 109 = .ok (.lload 10, 2) := by decide +kernel
theorem dX10_tray_111 : decode cX10_tray 111 = .ok (.invokevirtual 122, 3) := by decide +kernel
theorem dX10_tray_114 : decode cX10_tray 114 = .ok (.ifCond .eq 15, 3) := by decide +kernel
theorem dX10_tray_117 : decode cX10_tray 117 = .ok (.iload 7, 2) := by decide +kernel
theorem dX10_tray_119 : decode cX10_tray 119 = .ok (.lload 10, 2) := by decide +kernel
theorem dX10_tray_121 : decode cX10_tray 121 = .ok (.l2i, 1) := by decide +kernel
theorem dX10_tray_122 : decode cX10_tray 122 = .ok (.ishr, 1) := by decide +kernel
theorem dX10_tray_123 : decode cX10_tray 123 = .ok (.iconst 1, 1) := by decide +kernel
theorem dX10_tray_124 : decode cX10_tray 124 = .ok (.iand, 1) := by decide +kernel
theorem dX10_tray_125 : decode cX10_tray 125 = .ok (.iconst 1, 1) := by decide +kernel
theorem dX10_tray_126 : decode cX10_tray 126 = .ok (.if_icmp .ne 6, 3) := by decide +kernel
theorem dX10_tray_129 : decode cX10_tray 129 = .ok (.bipush (-2), 2) := by decide +kernel
theorem dX10_tray_131 : decode cX10_tray 131 = .ok (.ireturn, 1) := by decide +kernel
theorem dX10_tray_132 : decode cX10_tray 132 = .ok (.iload 7, 2) := by decide +kernel
theorem dX10_tray_134 : decode cX10_tray 134 = .ok (.iconst 1, 1) := by decide +kernel
theorem dX10_tray_135 : decode cX10_tray 135 = .ok (.lload 10, 2) := by decide +kernel
theorem dX10_tray_137 : decode cX10_tray 137 = .ok (.l2i, 1) := by decide +kernel
theorem dX10_tray_138 : decode cX10_tray 138 = .ok (.ishl, 1) := by decide +kernel
theorem dX10_tray_139 : decode cX10_tray 139 = .ok (.ior, 1) := by decide +kernel
theorem dX10_tray_140 : decode cX10_tray 140 = .ok (.istore 7, 2) := by decide +kernel
theorem dX10_tray_142 : decode cX10_tray 142 = .ok (.iload 8, 2) := by decide +kernel
theorem dX10_tray_144 : decode cX10_tray 144 = .ok (.iconst 1, 1) := by decide +kernel
theorem dX10_tray_145 : decode cX10_tray 145 = .ok (.iload 9, 2) := by decide +kernel
theorem dX10_tray_147 : decode cX10_tray 147 = .ok (.ishl, 1) := by decide +kernel
theorem dX10_tray_148 : decode cX10_tray 148 = .ok (.ior, 1) := by decide +kernel
theorem dX10_tray_149 : decode cX10_tray 149 = .ok (.istore 8, 2) := by decide +kernel
theorem dX10_tray_151 : decode cX10_tray 151 = .ok (.aload_n 0, 1) := by decide +kernel
theorem dX10_tray_152 : decode cX10_tray 152 = .ok (.getfield 92, 3) := by decide +kernel
theorem dX10_tray_155 : decode cX10_tray 155 = .ok (.iload 9, 2) := by decide +kernel
theorem dX10_tray_157 : decode cX10_tray 157 = .ok (.aload_n 0, 1) := by decide +kernel
theorem dX10_tray_158 : decode cX10_tray 158 = .ok (.getfield 13, 3) := by decide +kernel
theorem dX10_tray_161 : decode cX10_tray 161 = .ok (.lload 10, 2) := by decide +kernel
theorem dX10_tray_163 : decode cX10_tray 163 = .ok (.l2i, 1) := by decide +kernel
theorem dX10_tray_164 : decode cX10_tray 164 = .ok (.iaload, 1) := by decide +kernel
theorem dX10_tray_165 : decode cX10_tray 165 = .ok (.iastore, 1) := by decide +kernel
theorem dX10_tray_166 : decode cX10_tray 166 = .ok (.iinc 9 1, 3) := by decide +kernel
theorem dX10_tray_169 : decode cX10_tray 169 = .ok (.goto (-99), 3) := by decide +kernel
theorem dX10_tray_172 : decode cX10_tray 172 = .ok (.iload 5, 2) := by decide +kernel
theorem dX10_tray_174 : decode cX10_tray 174 = .ok (.iconst 2, 1) := by decide +kernel
theorem dX10_tray_175 : decode cX10_tray 175 = .ok (.if_icmp .ge 37, 3) := by decide +kernel
theorem dX10_tray_178 : decode cX10_tray 178 = .ok (.iload 5, 2) := by decide +kernel
theorem dX10_tray_180 : decode cX10_tray 180 = .ok (.iconst 1, 1) := by decide +kernel
theorem dX10_tray_181 : decode cX10_tray 181 = .ok (.if_icmp .ne 14, 3) := by decide +kernel
theorem dX10_tray_184 : decode cX10_tray 184 = .ok (.aload_n 0, 1) := by decide +kernel
theorem dX10_tray_185 : decode cX10_tray 185 = .ok (.iload 8, 2) := by decide +kernel
theorem dX10_tray_187 : decode cX10_tray 187 = .ok (.iload 4, 2) := by decide +kernel
theorem dX10_tray_189 : decode cX10_tray 189 = .ok (.invokevirtual 313, 3) := by decide +kernel
theorem dX10_tray_192 : decode cX10_tray 192 = .ok (.goto 19, 3) := by decide +kernel
theorem dX10_tray_195 : decode cX10_tray 195 = .ok (.aload_n 0, 1) := by decide +kernel
theorem dX10_tray_196 : decode cX10_tray 196 = .ok (.iload 8, 2) := by decide +kernel
theorem dX10_tray_198 : decode cX10_tray 198 = .ok (.iload 4, 2) := by decide +kernel
theorem dX10_tray_200 : decode cX10_tray 200 = .ok (.invokevirtual 299, 3) := by decide +kernel
theorem dX10_tray_203 : decode cX10_tray 203 = .ok (.ifCond .eq 7, 3) := by decide +kernel
theorem dX10_tray_206 : decode cX10_tray 206 = .ok (.iconst 1, 1) := by decide +kernel
theorem dX10_tray_207 : decode cX10_tray 207 = .ok (.goto 4, 3) := by decide +kernel
theorem dX10_tray_210 : decode cX10_tray 210 = .ok (.iconst 0, 1) := by decide +kernel
theorem dX10_tray_211 : decode cX10_tray 211 = .ok (.ireturn, 1) := by decide +kernel
theorem dX10_tray_212 : decode cX10_tray 212 = .ok (.iconst 0, 1) := by decide +kernel
theorem dX10_tray_213 : decode cX10_tray 213 = .ok (.istore 9, 2) := by decide +kernel
theorem dX10_tray_215 : decode cX10_tray 215 = .ok (.iconst 0, 1) := by decide +kernel
theorem dX10_tray_216 : decode cX10_tray 216 = .ok (.istore 10, 2) := by decide +kernel
theorem dX10_tray_218 : decode cX10_tray 218 = .ok (.iload 10, 2) := by decide +kernel
theorem dX10_tray_220 : decode cX10_tray 220 = .ok (.bipush 8, 2) := by decide +kernel
theorem dX10_tray_222 : decode cX10_tray 222 = .ok (.if_icmp .ge 51, 3) := by decide +kernel
theorem dX10_tray_225 : decode cX10_tray 225 = .ok (.iload 9, 2) := by decide +kernel
theorem dX10_tray_227 : decode cX10_tray 227 = .ok (.iload 8, 2) := by decide +kernel
theorem dX10_tray_229 : decode cX10_tray 229 = .ok (.iload 10, 2) := by decide +kernel
theorem dX10_tray_231 : decode cX10_tray 231 = .ok (.ishr, 1) := by decide +kernel
theorem dX10_tray_232 : decode cX10_tray 232 = .ok (.iconst 1, 1) := by decide +kernel
theorem dX10_tray_233 : decode cX10_tray 233 = .ok (.iand, 1) := by decide +kernel
theorem dX10_tray_234 : decode cX10_tray 234 = .ok (.iconst 1, 1) := by decide +kernel
theorem dX10_tray_235 : decode cX10_tray 235 = .ok (.if_icmp .ne 28, 3) := by decide +kernel
theorem dX10_tray_238 : decode cX10_tray 238 = .ok (.aload_n 0, 1) := by decide +kernel
theorem dX10_tray_239 : decode cX10_tray 239 = .ok (.iload 8, 2) := by decide +kernel
theorem dX10_tray_241 : decode cX10_tray 241 = .ok (.iconst 1, 1) := by decide +kernel
theorem dX10_tray_242 : decode cX10_tray 242 = .ok (.iload 10, 2) := by decide +kernel
theorem dX10_tray_244 : decode cX10_tray 244 = .ok (.ishl, 1) := by decide +kernel
theorem dX10_tray_245 : decode cX10_tray 245 = .ok (.iconst (-1), 1) := by decide +kernel
theorem dX10_tray_246 : decode cX10_tray 246 = .ok (.ixor, 1) := by decide +kernel
theorem dX10_tray_247 : decode cX10_tray 247 = .ok (.iand, 1) := by decide +kernel
theorem dX10_tray_248 : decode cX10_tray 248 = .ok (.iload 4, 2) := by decide +kernel
theorem dX10_tray_250 : decode cX10_tray 250 = .ok (.invokevirtual 299, 3) := by decide +kernel
theorem dX10_tray_253 : decode cX10_tray 253 = .ok (.ifCond .ne 10, 3) := by decide +kernel
theorem dX10_tray_256 : decode cX10_tray 256 = .ok (.iconst 1, 1) := by decide +kernel
theorem dX10_tray_257 : decode cX10_tray 257 = .ok (.iload 10, 2) := by decide +kernel
theorem dX10_tray_259 : decode cX10_tray 259 = .ok (.ishl, 1) := by decide +kernel
theorem dX10_tray_260 : decode cX10_tray 260 = .ok (.goto 4, 3) := by decide +kernel
theorem dX10_tray_263 : decode cX10_tray 263 = .ok (.iconst 0, 1) := by decide +kernel
theorem dX10_tray_264 : decode cX10_tray 264 = .ok (.ior, 1) := by decide +kernel
theorem dX10_tray_265 : decode cX10_tray 265 = .ok (.istore 9, 2) := by decide +kernel
theorem dX10_tray_267 : decode cX10_tray 267 = .ok (.iinc 10 1, 3) := by decide +kernel
theorem dX10_tray_270 : decode cX10_tray 270 = .ok (.goto (-52), 3) := by decide +kernel
theorem dX10_tray_273 : decode cX10_tray 273 = .ok (.iload 9, 2) := by decide +kernel
theorem dX10_tray_275 : decode cX10_tray 275 = .ok (.ireturn, 1) := by decide +kernel
theorem dX10_pulled_0 : decode cX10_pulled 0 = .ok (.iload_n 1, 1) := by decide +kernel
theorem dX10_pulled_1 : decode cX10_pulled 1 = .ok (.invokestatic 303, 3) := by decide +kernel
theorem dX10_pulled_4 : decode cX10_pulled 4 = .ok (.ifCond .eq 23, 3) := by decide +kernel
theorem dX10_pulled_7 : decode cX10_pulled 7 = .ok (.iload_n 2, 1) := by decide +kernel
theorem dX10_pulled_8 : decode cX10_pulled 8 = .ok (.invokestatic 306, 3) := by decide +kernel
theorem dX10_pulled_11 : decode cX10_pulled 11 = .ok (.ifCond .eq 16, 3) := by decide +kernel
theorem dX10_pulled_14 : decode cX10_pulled 14 = .ok (.iload 4, 2) := by decide +kernel
theorem dX10_pulled_16 : decode cX10_pulled 16 = .ok (.i2l, 1) := by decide +kernel
theorem dX10_pulled_17 : decode cX10_pulled 17 = .ok (.lconst 0, 1) := by decide +kernel
theorem dX10_pulled_18 : decode cX10_pulled 18 = .ok (.ldc2_w 109, 3) := by decide +kernel
theorem dX10_pulled_21 : decode cX10_pulled 21 = .ok (.invokestatic 102, 3) := by decide +kernel
theorem dX10_pulled_24 : decode cX10_pulled 24 = .ok (.ifCond .ne 5, 3) := by decide +kernel
theorem dX10_pulled_27 : decode cX10_pulled 27 = .ok (.iconst (-1), 1) := by decide +kernel
theorem dX10_pulled_28 : decode cX10_pulled 28 = .ok (.ireturn, 1) := by decide +kernel
theorem dX10_pulled_29 : decode cX10_pulled 29 = .ok (.aload_n 0, 1) := by decide +kernel
theorem dX10_pulled_30 : decode cX10_pulled 30 = .ok (.iload_n 1, 1) := by decide +kernel
theorem dX10_pulled_31 : decode cX10_pulled 31 = .ok (.iload_n 2, 1) := by decide +kernel
theorem dX10_pulled_32 : decode cX10_pulled 32 = .ok (.iload_n 3, 1) := by decide +kernel
theorem dX10_pulled_33 : decode cX10_pulled 33 = .ok (.aload_n 0, 1) := by decide +kernel
theorem dX10_pulled_34 : decode cX10_pulled 34 = .ok (.getfield 106, 3) := by decide +kernel
theorem dX10_pulled_37 : decode cX10_pulled 37 = .ok (.invokevirtual 309, 3) := by decide +kernel
theorem dX10_pulled_40 : decode cX10_pulled 40 = .ok (.istore 5, 2) := by decide +kernel
theorem dX10_pulled_42 : decode cX10_pulled 42 = .ok (.iload 5, 2) := by decide +kernel
theorem dX10_pulled_44 : decode cX10_pulled 44 = .ok (.ifCond .ge 6, 3) := by decide +kernel
theorem dX10_pulled_47 : decode cX10_pulled 47 = .ok (.iload 5, 2) := by decide +kernel
theorem dX10_pulled_49 : decode cX10_pulled 49 = .ok (.ireturn, 1) := by decide +kernel
theorem dX10_pulled_50 : decode cX10_pulled 50 = .ok (.iconst 0, 1) := by decide +kernel
theorem dX10_pulled_51 : decode cX10_pulled 51 = .ok (.istore 6, 2) := by decide +kernel
theorem dX10_pulled_53 : decode cX10_pulled 53 = .ok (.iconst 0, 1) := by decide +kernel
theorem dX10_pulled_54 : decode cX10_pulled 54 = .ok (.istore 7, 2) := by decide +kernel
theorem dX10_pulled_56 : decode cX10_pulled 56 = .ok (.iconst 1, 1) := by decide +kernel
theorem dX10_pulled_57 : decode cX10_pulled 57 = .ok (.aload_n 0, 1) := by decide +kernel
theorem dX10_pulled_58 : decode cX10_pulled 58 = .ok (.getfield 98, 3) := by decide +kernel
theorem dX10_pulled_61 : decode cX10_pulled 61 = .ok (.ishl, 1) := by decide +kernel
theorem dX10_pulled_62 : decode cX10_pulled 62 = .ok (.iconst 1, 1) := by decide +kernel
theorem dX10_pulled_63 : decode cX10_pulled 63 = .ok (.isub, 1) := by decide +kernel
theorem dX10_pulled_64 : decode cX10_pulled 64 = .ok (.istore 8, 2) := by decide +kernel
theorem dX10_pulled_66 : decode cX10_pulled 66 = .ok (.aload_n 0, 1) := by decide +kernel
theorem dX10_pulled_67 : decode cX10_pulled 67 = .ok (.invokevirtual 237, 3) := by decide +kernel
theorem dX10_pulled_70 : decode cX10_pulled 70 = .ok (.iconst 1, 1) := by decide +kernel
theorem dX10_pulled_71 : decode cX10_pulled 71 = .ok (.istore 9, 2) := by decide +kernel
theorem dX10_pulled_73 : decode cX10_pulled 73 = .ok (.iload 9, 2) := by decide +kernel
theorem dX10_pulled_75 : decode cX10_pulled 75 = .ok (.ifCond .eq 166, 3) := by decide +kernel
theorem dX10_pulled_78 : decode cX10_pulled 78 = .ok (.aload_n 0, 1) := by decide +kernel
theorem dX10_pulled_79 : decode cX10_pulled 79 = .ok (.aload_n 0, 1) := by decide +kernel
theorem dX10_pulled_80 : decode cX10_pulled 80 = .ok (.getfield 64, 3) := by decide +kernel
theorem dX10_pulled_83 : decode cX10_pulled 83 = .ok (.invokevirtual 240, 3) := by decide +kernel
theorem dX10_pulled_86 : decode cX10_pulled 86 = .ok (.istore 10, 2) := by decide +kernel
theorem dX10_pulled_88 : decode cX10_pulled 88 = .ok (.iconst 0, 1) := by decide +kernel
theorem dX10_pulled_89 : decode cX10_pulled 89 = .ok (.istore 11, 2) := by decide +kernel
theorem dX10_pulled_91 : decode cX10_pulled 91 = .ok (.iload 11, 2) := by decide +kernel
theorem dX10_pulled_93 : decode cX10_pulled 93 = .ok (.aload_n 0, 1) := by decide +kernel
theorem dX10_pulled_94 : decode cX10_pulled 94 = .ok (.getfield 106, 3) := by decide +kernel
theorem dX10_pulled_97 : decode cX10_pulled 97 = .ok (.if_icmp .ge 50, 3) := by decide +kernel
theorem dX10_pulled_100 : decode cX10_pulled 100 = .ok (.iload 10, 2) := by decide +kernel
theorem dX10_pulled_102 : decode cX10_pulled 102 = .ok (.ifCond .eq 45, 3) := by decide +kernel
theorem dX10_pulled_105 : decode cX10_pulled 105 = .ok (.aload_n 0, 1) := by decide +kernel
theorem dX10_pulled_106 : decode cX10_pulled 106 = .ok (.aload_n 0, 1) := by decide +kernel
theorem dX10_pulled_107 : decode cX10_pulled 107 = .ok (.getfield 64, 3) := by decide +kernel
theorem dX10_pulled_110 : decode cX10_pulled 110 = .ok (.iload 11, 2) := by decide +kernel
theorem dX10_pulled_112 : decode cX10_pulled 112 = .ok (.invokevirtual 219, 3) := by decide +kernel
theorem dX10_pulled_115 : decode cX10_pulled 115 = .ok (.i2l, 1) := by decide +kernel
theorem dX10_pulled_116 : decode cX10_pulled 116 = .ok (.aload_n 0, 1) := by decide +kernel
theorem dX10_pulled_117 : decode cX10_pulled 117 = .ok (.getfield 85, 3) := by decide +kernel
theorem dX10_pulled_120 : decode cX10_pulled 120 = .ok (.bipush 16, 2) := by decide +kernel
theorem dX10_pulled_122 : decode cX10_pulled 122 = .ok (.iload_n 1, 1) := by decide +kernel
theorem dX10_pulled_123 : decode cX10_pulled 123 = .ok (.imul, 1) := by decide +kernel
theorem dX10_pulled_124 : decode cX10_pulled 124 = .ok (.iload_n 3, 1) := by decide +kernel
theorem dX10_pulled_125 : decode cX10_pulled 125 = .ok (.iadd, 1) := by decide +kernel
theorem dX10_pulled_126 : decode cX10_pulled 126 = .ok (.iload 11, 2) := by decide +kernel
theorem dX10_pulled_128 : decode cX10_pulled 128 = .ok (.iadd, 1) := by decide +kernel
theorem dX10_pulled_129 : decode cX10_pulled 129 = .ok (.laload, 1) := by decide +kernel
theorem dX10_pulled_130 : decode cX10_pulled 130 = .ok (.lcmp, 1) := by decide +kernel
theorem dX10_pulled_131 : decode cX10_pulled 131 = .ok (.ifCond .ne 7, 3) := by decide +kernel
theorem dX10_pulled_134 : decode cX10_pulled 134 = .ok (.iconst 1, 1) := by decide +kernel
theorem dX10_pulled_135 : decode cX10_pulled 135 = .ok (.goto 4, 3) := by decide +kernel
theorem dX10_pulled_138 : decode cX10_pulled 138 = .ok (.iconst 0, 1) := by decide +kernel
theorem dX10_pulled_139 : decode cX10_pulled 139 = .ok (.istore 10, 2) := by decide +kernel
theorem dX10_pulled_141 : decode cX10_pulled 141 = .ok (.iinc 11 1, 3) := by decide +kernel
theorem dX10_pulled_144 : decode cX10_pulled 144 = .ok (.goto (-53), 3) := by decide +kernel
theorem dX10_pulled_147 : decode cX10_pulled 147 = .ok (.iload 10, 2) := by decide +kernel
theorem dX10_pulled_149 : decode cX10_pulled 149 = .ok (.ifCond .eq 12, 3) := by decide +kernel
theorem dX10_pulled_152 : decode cX10_pulled 152 = .ok (.iload 6, 2) := by decide +kernel
theorem dX10_pulled_154 : decode cX10_pulled 154 = .ok (.ifCond .ne 7, 3) := by decide +kernel
theorem dX10_pulled_157 : decode cX10_pulled 157 = .ok (.aload_n 0, 1) := by decide +kernel
theorem dX10_pulled_158 : decode cX10_pulled 158 = .ok (.invokevirtual 249, 3) := by decide +kernel
theorem dX10_pulled_161 : decode cX10_pulled 161 = .ok (.iconst 0, 1) := by decide +kernel
theorem dX10_pulled_162 : decode cX10_pulled 162 = .ok (.istore 11, 2) := by decide +kernel
theorem dX10_pulled_164 : decode cX10_pulled 164 = .ok (.iload 11, 2) := by decide +kernel
theorem dX10_pulled_166 : decode cX10_pulled 166 = .ok (.aload_n 0, 1) := by decide +kernel
theorem dX10_pulled_167 : decode cX10_pulled 167 = .ok (.getfield 98, 3) := by decide +kernel
theorem dX10_pulled_170 : decode cX10_pulled 170 = .ok (.if_icmp .ge 46, 3) := by decide +kernel
theorem dX10_pulled_173 : decode cX10_pulled 173 = .ok (.iload 10, 2) := by decide +kernel
theorem dX10_pulled_175 : decode cX10_pulled 175 = .ok (.ifCond .eq 41, 3) := by decide +kernel
theorem dX10_pulled_178 : decode cX10_pulled 178 = .ok (.iload 8, 2) := by decide +kernel
theorem dX10_pulled_180 : decode cX10_pulled 180 = .ok (.aload_n 0, 1) := by decide +kernel
theorem dX10_pulled_181 : decode cX10_pulled 181 = .ok (.getfield 64, 3) := by decide +kernel
theorem dX10_pulled_184 : decode cX10_pulled 184 = .ok (.iload 11, 2) := by decide +kernel
theorem dX10_pulled_186 : decode cX10_pulled 186 = .ok (.iaload, 1) := by decide +kernel
theorem dX10_pulled_187 : decode cX10_pulled 187 = .ok (.aload_n 0, 1) := by decide +kernel
theorem dX10_pulled_188 : decode cX10_pulled 188 = .ok (.getfield 67, 3) := by decide +kernel
theorem dX10_pulled_191 : decode cX10_pulled 191 = .ok (.iload 11, 2) := by decide +kernel
theorem dX10_pulled_193 : decode cX10_pulled 193 = .ok (.iaload, 1) := by decide +kernel
theorem dX10_pulled_194 : decode cX10_pulled 194 = .ok (.if_icmp .ne 7, 3) := by decide +kernel
theorem dX10_pulled_197 : decode cX10_pulled 197 = .ok (.iconst (-1), 1) := by decide +kernel
theorem dX10_pulled_198 : decode cX10_pulled 198 = .ok (.goto 9, 3) := by decide +kernel
theorem dX10_pulled_201 : decode cX10_pulled 201 = .ok (.iconst 1, 1) := by decide +kernel
theorem dX10_pulled_202 : decode cX10_pulled 202 = .ok (.iload 11, 2) := by decide +kernel
theorem dX10_pulled_204 : decode cX10_pulled 204 = .ok (.ishl, 1) := by decide +kernel
theorem dX10_pulled_205 : decode cX10_pulled 205 = .ok (.iconst (-1), 1) := by decide +kernel
theorem dX10_pulled_206 : decode cX10_pulled 206 = .ok (.ixor, 1) := by decide +kernel
theorem dX10_pulled_207 : decode cX10_pulled 207 = .ok (.iand, 1) := by decide +kernel
theorem dX10_pulled_208 : decode cX10_pulled 208 = .ok (.istore 8, 2) := by decide +kernel
theorem dX10_pulled_210 : decode cX10_pulled 210 = .ok (.iinc 11 1, 3) := by decide +kernel
theorem dX10_pulled_213 : decode cX10_pulled 213 = .ok (.goto (-49), 3) := by decide +kernel
theorem dX10_pulled_216 : decode cX10_pulled 216 = .ok (.iload 6, 2) := by decide +kernel
theorem dX10_pulled_218 : decode cX10_pulled 218 = .ok (.iload 10, 2) := by decide +kernel
theorem dX10_pulled_220 : decode cX10_pulled 220 = .ok (.ifCond .eq 7, 3) := by decide +kernel
theorem dX10_pulled_223 : decode cX10_pulled 223 = .ok (.iconst 1, 1) := by decide +kernel
theorem dX10_pulled_224 : decode cX10_pulled 224 = .ok (.goto 4, 3) := by decide +kernel
theorem dX10_pulled_227 : decode cX10_pulled 227 = .ok (.iconst 0, 1) := by decide +kernel
theorem dX10_pulled_228 : decode cX10_pulled 228 = .ok (.iadd, 1) := by decide +kernel
theorem dX10_pulled_229 : decode cX10_pulled 229 = .ok (.istore 6, 2) := by decide +kernel
theorem dX10_pulled_231 : decode cX10_pulled 231 = .ok (.aload_n 0, 1) := by decide +kernel
theorem dX10_pulled_232 : decode cX10_pulled 232 = .ok (.iconst 3, 1) := by decide +kernel
theorem dX10_pulled_233 : decode cX10_pulled 233 = .ok (.invokevirtual 252, 3) := by decide +kernel
theorem dX10_pulled_236 : decode cX10_pulled 236 = .ok (.istore 9, 2) := by decide +kernel
theorem dX10_pulled_238 : decode cX10_pulled 238 = .ok (.goto (-165), 3) := by decide +kernel
theorem dX10_pulled_241 : decode cX10_pulled 241 = .ok (.iconst 0, 1) := by decide +kernel
theorem dX10_pulled_242 : decode cX10_pulled 242 = .ok (.istore 10, 2) := by decide +kernel
theorem dX10_pulled_244 : decode cX10_pulled 244 = .ok (.iload 10, 2) := by decide +kernel
theorem dX10_pulled_246 : decode cX10_pulled 246 = .ok (.aload_n 0, 1) := by decide +kernel
theorem dX10_pulled_247 : decode cX10_pulled 247 = .ok (.getfield 98, 3) := by decide +kernel
theorem dX10_pulled_250 : decode cX10_pulled 250 = .ok (.if_icmp .ge 28, 3) := by decide +kernel
theorem dX10_pulled_253 : decode cX10_pulled 253 = .ok (.iload 6, 2) := by decide +kernel
theorem dX10_pulled_255 : decode cX10_pulled 255 = .ok (.ifCond .le 23, 3) := by decide +kernel
theorem dX10_pulled_258 : decode cX10_pulled 258 = .ok (.iconst 3, 1) := by decide +kernel
theorem dX10_pulled_259 : decode cX10_pulled 259 = .ok (.iload 7, 2) := by decide +kernel
theorem dX10_pulled_261 : decode cX10_pulled 261 = .ok (.imul, 1) := by decide +kernel
theorem dX10_pulled_262 : decode cX10_pulled 262 = .ok (.aload_n 0, 1) := by decide +kernel
theorem dX10_pulled_263 : decode cX10_pulled 263 = .ok (.getfield 67, 3) := by decide +kernel
theorem dX10_pulled_266 : decode cX10_pulled 266 = .ok (.iload 10, 2) := by decide +kernel
theorem dX10_pulled_268 : decode cX10_pulled 268 = .ok (.iaload, 1) := by decide +kernel
theorem dX10_pulled_269 : decode cX10_pulled 269 = .ok (.iadd, 1) := by decide +kernel
theorem dX10_pulled_270 : decode cX10_pulled 270 = .ok (.istore 7, 2) := by decide +kernel
theorem dX10_pulled_272 : decode cX10_pulled 272 = .ok (.iinc 10 1, 3) := by decide +kernel
theorem dX10_pulled_275 : decode cX10_pulled 275 = .ok (.goto (-31), 3) := by decide +kernel
theorem dX10_pulled_278 : decode cX10_pulled 278 = .ok (.iload 4, 2) := by decide +kernel
theorem dX10_pulled_280 : decode cX10_pulled 280 = .ok (.ifCond .ne 8, 3) := by decide +kernel
theorem dX10_pulled_283 : decode cX10_pulled 283 = .ok (.iload 6, 2) := by decide +kernel
theorem dX10_pulled_285 : decode cX10_pulled 285 = .ok (.goto 26, 3) := by decide +kernel
theorem dX10_pulled_288 : decode cX10_pulled 288 = .ok (.iload 6, 2) := by decide +kernel
theorem dX10_pulled_290 : decode cX10_pulled 290 = .ok (.ifCond .ne 8, 3) := by decide +kernel
theorem dX10_pulled_293 : decode cX10_pulled 293 = .ok (.bipush (-4), 2) := by decide +kernel
theorem dX10_pulled_295 : decode cX10_pulled 295 = .ok (.goto 16, 3) := by decide +kernel
theorem dX10_pulled_298 : decode cX10_pulled 298 = .ok (.iload 4, 2) := by decide +kernel
theorem dX10_pulled_300 : decode cX10_pulled 300 = .ok (.iconst 1, 1) := by decide +kernel
theorem dX10_pulled_301 : decode cX10_pulled 301 = .ok (.if_icmp .ne 8, 3) := by decide +kernel
theorem dX10_pulled_304 : decode cX10_pulled 304 = .ok (.iload 7, 2) := by decide +kernel
theorem dX10_pulled_306 : decode cX10_pulled 306 = .ok (.goto 5, 3) := by decide +kernel
theorem dX10_pulled_309 : decode cX10_pulled 309 = .ok (.iload 8, 2) := by decide +kernel
theorem dX10_pulled_311 : decode cX10_pulled 311 = .ok (.ireturn, 1) := by decide +kernel
theorem dX10_puts_0 : decode cX10_puts 0 = .ok (.aload_n 0, 1) := by decide +kernel
theorem dX10_puts_1 : decode cX10_puts 1 = .ok (.getfield 79, 3) := by decide +kernel
theorem dX10_puts_4 : decode cX10_puts 4 = .ok (.iload_n 1, 1) := by decide +kernel
theorem dX10_puts_5 : decode cX10_puts 5 = .ok (.iaload, 1) := by decide +kernel
theorem dX10_puts_6 : decode cX10_puts 6 = .ok (.istore 5, 2) := by decide +kernel
theorem dX10_puts_8 : decode cX10_puts 8 = .ok (.aload_n 0, 1) := by decide +kernel
theorem dX10_puts_9 : decode cX10_puts 9 = .ok (.getfield 85, 3) := by decide +kernel
theorem dX10_puts_12 : decode cX10_puts 12 = .ok (.bipush 16, 2) := by decide +kernel
theorem dX10_puts_14 : decode cX10_puts 14 = .ok (.iload_n 1, 1) := by decide +kernel
theorem dX10_puts_15 : decode cX10_puts 15 = .ok (.imul, 1) := by decide +kernel
theorem dX10_puts_16 : decode cX10_puts 16 = .ok (.iload_n 2, 1) := by decide +kernel
theorem dX10_puts_17 : decode cX10_puts 17 = .ok (.iadd, 1) := by decide +kernel
theorem dX10_puts_18 : decode cX10_puts 18 = .ok (.iload 5, 2) := by decide +kernel
theorem dX10_puts_20 : decode cX10_puts 20 = .ok (.ifCond .ne 10, 3) := by decide +kernel
theorem dX10_puts_23 : decode cX10_puts 23 = .ok (.lload_n 3, 1) := by decide +kernel
theorem dX10_puts_24 : decode cX10_puts 24 = .ok (.l2i, 1) := by decide +kernel
theorem dX10_puts_25 : decode cX10_puts 25 = .ok (.i2b, 1) := by decide +kernel
theorem dX10_puts_26 : decode cX10_puts 26 = .ok (.i2l, 1) := by decide +kernel
theorem dX10_puts_27 : decode cX10_puts 27 = .ok (.goto 29, 3) := by decide +kernel
theorem dX10_puts_30 : decode cX10_puts 30 = .ok (.iload 5, 2) := by decide +kernel
theorem dX10_puts_32 : decode cX10_puts 32 = .ok (.iconst 1, 1) := by decide +kernel
theorem dX10_puts_33 : decode cX10_puts 33 = .ok (.if_icmp .ne 10, 3) := by decide +kernel
theorem dX10_puts_36 : decode cX10_puts 36 = .ok (.lload_n 3, 1) := by decide +kernel
theorem dX10_puts_37 : decode cX10_puts 37 = .ok (.l2i, 1) := by decide +kernel
theorem dX10_puts_38 : decode cX10_puts 38 = .ok (.i2s, 1) := by decide +kernel
theorem dX10_puts_39 : decode cX10_puts 39 = .ok (.i2l, 1) := by decide +kernel
theorem dX10_puts_40 : decode cX10_puts 40 = .ok (.goto 16, 3) := by decide +kernel
theorem dX10_puts_43 : decode cX10_puts 43 = .ok (.iload 5, 2) := by decide +kernel
theorem dX10_puts_45 : decode cX10_puts 45 = .ok (.iconst 2, 1) := by decide +kernel
theorem dX10_puts_46 : decode cX10_puts 46 = .ok (.if_icmp .ne 9, 3) := by decide +kernel
theorem dX10_puts_49 : decode cX10_puts 49 = .ok (.lload_n 3, 1) := by decide +kernel
theorem dX10_puts_50 : decode cX10_puts 50 = .ok (.l2i, 1) := by decide +kernel
theorem dX10_puts_51 : decode cX10_puts 51 = .ok (.i2l, 1) := by decide +kernel
theorem dX10_puts_52 : decode cX10_puts 52 = .ok (.goto 4, 3) := by decide +kernel
theorem dX10_puts_55 : decode cX10_puts 55 = .ok (.lload_n 3, 1) := by decide +kernel
theorem dX10_puts_56 : decode cX10_puts 56 = .ok (.lastore, 1) := by decide +kernel
theorem dX10_puts_57 : decode cX10_puts 57 = .ok (.return_, 1) := by decide +kernel
theorem dX10_film_0 : decode cX10_film 0 = .ok (.iload_n 1, 1) := by decide +kernel
theorem dX10_film_1 : decode cX10_film 1 = .ok (.invokestatic 303, 3) := by decide +kernel
theorem dX10_film_4 : decode cX10_film 4 = .ok (.ifCond .eq 10, 3) := by decide +kernel
theorem dX10_film_7 : decode cX10_film 7 = .ok (.iload_n 2, 1) := by decide +kernel
theorem dX10_film_8 : decode cX10_film 8 = .ok (.invokestatic 306, 3) := by decide +kernel
theorem dX10_film_11 : decode cX10_film 11 = .ok (.ifCond .ne 5, 3) := by decide +kernel
theorem dX10_film_14 : decode cX10_film 14 = .ok (.iconst (-1), 1) := by decide +kernel
theorem dX10_film_15 : decode cX10_film 15 = .ok (.ireturn, 1) := by decide +kernel
theorem dX10_film_16 : decode cX10_film 16 = .ok (.aload_n 0, 1) := by decide +kernel
theorem dX10_film_17 : decode cX10_film 17 = .ok (.iload_n 1, 1) := by decide +kernel
theorem dX10_film_18 : decode cX10_film 18 = .ok (.iload_n 2, 1) := by decide +kernel
theorem dX10_film_19 : decode cX10_film 19 = .ok (.iload_n 3, 1) := by decide +kernel
theorem dX10_film_20 : decode cX10_film 20 = .ok (.aload_n 0, 1) := by decide +kernel
theorem dX10_film_21 : decode cX10_film 21 = .ok (.getfield 106, 3) := by decide +kernel
theorem dX10_film_24 : decode cX10_film 24 = .ok (.invokevirtual 309, 3) := by decide +kernel
theorem dX10_film_27 : decode cX10_film 27 = .ok (.istore 4, 2) := by decide +kernel
theorem dX10_film_29 : decode cX10_film 29 = .ok (.iload 4, 2) := by decide +kernel
theorem dX10_film_31 : decode cX10_film 31 = .ok (.ifCond .ge 6, 3) := by decide +kernel
theorem dX10_film_34 : decode cX10_film 34 = .ok (.iload 4, 2) := by decide +kernel
theorem dX10_film_36 : decode cX10_film 36 = .ok (.ireturn, 1) := by decide +kernel
theorem dX10_film_37 : decode cX10_film 37 = .ok (.iconst 0, 1) := by decide +kernel
theorem dX10_film_38 : decode cX10_film 38 = .ok (.istore 5, 2) := by decide +kernel
theorem dX10_film_40 : decode cX10_film 40 = .ok (.iload 5, 2) := by decide +kernel
theorem dX10_film_42 : decode cX10_film 42 = .ok (.aload_n 0, 1) := by decide +kernel
theorem dX10_film_43 : decode cX10_film 43 = .ok (.getfield 106, 3) := by decide +kernel
theorem dX10_film_46 : decode cX10_film 46 = .ok (.if_icmp .ge 29, 3) := by decide +kernel
theorem dX10_film_49 : decode cX10_film 49 = .ok (.aload_n 0, 1) := by decide +kernel
theorem dX10_film_50 : decode cX10_film 50 = .ok (.iload_n 1, 1) := by decide +kernel
theorem dX10_film_51 : decode cX10_film 51 = .ok (.iload_n 3, 1) := by decide +kernel
theorem dX10_film_52 : decode cX10_film 52 = .ok (.iload 5, 2) := by decide +kernel
theorem dX10_film_54 : decode cX10_film 54 = .ok (.iadd, 1) := by decide +kernel
theorem dX10_film_55 : decode cX10_film 55 = .ok (.aload_n 0, 1) := by decide +kernel
theorem dX10_film_56 : decode cX10_film 56 = .ok (.aload_n 0, 1) := by decide +kernel
theorem dX10_film_57 : decode cX10_film 57 = .ok (.getfield 22, 3) := by decide +kernel
theorem dX10_film_60 : decode cX10_film 60 = .ok (.iload 5, 2) := by decide +kernel
theorem dX10_film_62 : decode cX10_film 62 = .ok (.invokevirtual 219, 3) := by decide +kernel
theorem dX10_film_65 : decode cX10_film 65 = .ok (.i2l, 1) := by decide +kernel
theorem dX10_film_66 : decode cX10_film 66 = .ok (.invokevirtual 316, 3) := by decide +kernel
theorem dX10_film_69 : decode cX10_film 69 = .ok (.iinc 5 1, 3) := by decide +kernel
theorem dX10_film_72 : decode cX10_film 72 = .ok (.goto (-32), 3) := by decide +kernel
theorem dX10_film_75 : decode cX10_film 75 = .ok (.aload_n 0, 1) := by decide +kernel
theorem dX10_film_76 : decode cX10_film 76 = .ok (.getfield 106, 3) := by decide +kernel
theorem dX10_film_79 : decode cX10_film 79 = .ok (.ireturn, 1) := by decide +kernel
theorem dX10_lay_0 : decode cX10_lay 0 = .ok (.iload_n 1, 1) := by decide +kernel
theorem dX10_lay_1 : decode cX10_lay 1 = .ok (.invokestatic 303, 3) := by decide +kernel
theorem dX10_lay_4 : decode cX10_lay 4 = .ok (.ifCond .eq 10, 3) := by decide +kernel
theorem dX10_lay_7 : decode cX10_lay 7 = .ok (.iload_n 2, 1) := by decide +kernel
theorem dX10_lay_8 : decode cX10_lay 8 = .ok (.invokestatic 306, 3) := by decide +kernel
theorem dX10_lay_11 : decode cX10_lay 11 = .ok (.ifCond .ne 5, 3) := by decide +kernel
theorem dX10_lay_14 : decode cX10_lay 14 = .ok (.iconst (-1), 1) := by decide +kernel
theorem dX10_lay_15 : decode cX10_lay 15 = .ok (.ireturn, 1) := by decide +kernel
theorem dX10_lay_16 : decode cX10_lay 16 = .ok (.aload_n 0, 1) := by decide +kernel
theorem dX10_lay_17 : decode cX10_lay 17 = .ok (.iload_n 1, 1) := by decide +kernel
theorem dX10_lay_18 : decode cX10_lay 18 = .ok (.iload_n 2, 1) := by decide +kernel
theorem dX10_lay_19 : decode cX10_lay 19 = .ok (.iload_n 3, 1) := by decide +kernel
theorem dX10_lay_20 : decode cX10_lay 20 = .ok (.aload_n 0, 1) := by decide +kernel
theorem dX10_lay_21 : decode cX10_lay 21 = .ok (.getfield 98, 3) := by decide +kernel
theorem dX10_lay_24 : decode cX10_lay 24 = .ok (.invokevirtual 309, 3) := by decide +kernel
theorem dX10_lay_27 : decode cX10_lay 27 = .ok (.istore 4, 2) := by decide +kernel
theorem dX10_lay_29 : decode cX10_lay 29 = .ok (.iload 4, 2) := by decide +kernel
theorem dX10_lay_31 : decode cX10_lay 31 = .ok (.ifCond .ge 6, 3) := by decide +kernel
theorem dX10_lay_34 : decode cX10_lay 34 = .ok (.iload 4, 2) := by decide +kernel
theorem dX10_lay_36 : decode cX10_lay 36 = .ok (.ireturn, 1) := by decide +kernel
theorem dX10_lay_37 : decode cX10_lay 37 = .ok (.iconst 0, 1) := by decide +kernel
theorem dX10_lay_38 : decode cX10_lay 38 = .ok (.istore 5, 2) := by decide +kernel
theorem dX10_lay_40 : decode cX10_lay 40 = .ok (.iload 5, 2) := by decide +kernel
theorem dX10_lay_42 : decode cX10_lay 42 = .ok (.aload_n 0, 1) := by decide +kernel
theorem dX10_lay_43 : decode cX10_lay 43 = .ok (.getfield 98, 3) := by decide +kernel
theorem dX10_lay_46 : decode cX10_lay 46 = .ok (.if_icmp .ge 32, 3) := by decide +kernel
theorem dX10_lay_49 : decode cX10_lay 49 = .ok (.aload_n 0, 1) := by decide +kernel
theorem dX10_lay_50 : decode cX10_lay 50 = .ok (.getfield 85, 3) := by decide +kernel
theorem dX10_lay_53 : decode cX10_lay 53 = .ok (.bipush 16, 2) := by decide +kernel
theorem dX10_lay_55 : decode cX10_lay 55 = .ok (.iload_n 1, 1) := by decide +kernel
theorem dX10_lay_56 : decode cX10_lay 56 = .ok (.imul, 1) := by decide +kernel
theorem dX10_lay_57 : decode cX10_lay 57 = .ok (.iload_n 3, 1) := by decide +kernel
theorem dX10_lay_58 : decode cX10_lay 58 = .ok (.iadd, 1) := by decide +kernel
theorem dX10_lay_59 : decode cX10_lay 59 = .ok (.iload 5, 2) := by decide +kernel
theorem dX10_lay_61 : decode cX10_lay 61 = .ok (.iadd, 1) := by decide +kernel
theorem dX10_lay_62 : decode cX10_lay 62 = .ok (.laload, 1) := by decide +kernel
theorem dX10_lay_63 : decode cX10_lay 63 = .ok (.invokestatic 143, 3) := by decide +kernel
theorem dX10_lay_66 : decode cX10_lay 66 = .ok (.ifCond .ne 6, 3) := by decide +kernel
theorem dX10_lay_69 : decode cX10_lay 69 = .ok (.bipush (-2), 2) := by decide +kernel
theorem dX10_lay_71 : decode cX10_lay 71 = .ok (.ireturn, 1) := by decide +kernel
theorem dX10_lay_72 : decode cX10_lay 72 = .ok (.iinc 5 1, 3) := by decide +kernel
theorem dX10_lay_75 : decode cX10_lay 75 = .ok (.goto (-35), 3) := by decide +kernel
theorem dX10_lay_78 : decode cX10_lay 78 = .ok (.iconst 0, 1) := by decide +kernel
theorem dX10_lay_79 : decode cX10_lay 79 = .ok (.istore 5, 2) := by decide +kernel
theorem dX10_lay_81 : decode cX10_lay 81 = .ok (.iload 5, 2) := by decide +kernel
theorem dX10_lay_83 : decode cX10_lay 83 = .ok (.aload_n 0, 1) := by decide +kernel
theorem dX10_lay_84 : decode cX10_lay 84 = .ok (.getfield 98, 3) := by decide +kernel
theorem dX10_lay_87 : decode cX10_lay 87 = .ok (.if_icmp .ge 31, 3) := by decide +kernel
theorem dX10_lay_90 : decode cX10_lay 90 = .ok (.aload_n 0, 1) := by decide +kernel
theorem dX10_lay_91 : decode cX10_lay 91 = .ok (.getfield 22, 3) := by decide +kernel
theorem dX10_lay_94 : decode cX10_lay 94 = .ok (.iload 5, 2) := by decide +kernel
theorem dX10_lay_96 : decode cX10_lay 96 = .ok (.aload_n 0, 1) := by decide +kernel
theorem dX10_lay_97 : decode cX10_lay 97 = .ok (.getfield 85, 3) := by decide +kernel
theorem dX10_lay_100 : decode cX10_lay 100 = .ok (.bipush 16, 2) := by decide +kernel
theorem dX10_lay_102 : decode cX10_lay 102 = .ok (.iload_n 1, 1) := by decide +kernel
theorem dX10_lay_103 : decode cX10_lay 103 = .ok (.imul, 1) := by decide +kernel
theorem dX10_lay_104 : decode cX10_lay 104 = .ok (.iload_n 3, 1) := by decide +kernel
theorem dX10_lay_105 : decode cX10_lay 105 = .ok (.iadd, 1) := by decide +kernel
theorem dX10_lay_106 : decode cX10_lay 106 = .ok (.iload 5, 2) := by decide +kernel
theorem dX10_lay_108 : decode cX10_lay 108 = .ok (.iadd, 1) := by decide +kernel
theorem dX10_lay_109 : decode cX10_lay 109 = .ok (.laload, 1) := by decide +kernel
theorem dX10_lay_110 : decode cX10_lay 110 = .ok (.l2i, 1) := by decide +kernel
theorem dX10_lay_111 : decode cX10_lay 111 = .ok (.iastore, 1) := by decide +kernel
theorem dX10_lay_112 : decode cX10_lay 112 = .ok (.iinc 5 1, 3) := by decide +kernel
theorem dX10_lay_115 : decode cX10_lay 115 = .ok (.goto (-34), 3) := by decide +kernel
theorem dX10_lay_118 : decode cX10_lay 118 = .ok (.aload_n 0, 1) := by decide +kernel
theorem dX10_lay_119 : decode cX10_lay 119 = .ok (.aload_n 0, 1) := by decide +kernel
theorem dX10_lay_120 : decode cX10_lay 120 = .ok (.getfield 22, 3) := by decide +kernel
theorem dX10_lay_123 : decode cX10_lay 123 = .ok (.invokevirtual 215, 3) := by decide +kernel
theorem dX10_lay_126 : decode cX10_lay 126 = .ok (.ireturn, 1) := by decide +kernel
theorem dX10_sheet_0 : decode cX10_sheet 0 = .ok (.iload_n 1, 1) := by decide +kernel
theorem dX10_sheet_1 : decode cX10_sheet 1 = .ok (.invokestatic 303, 3) := by decide +kernel
theorem dX10_sheet_4 : decode cX10_sheet 4 = .ok (.ifCond .eq 16, 3) := by decide +kernel
theorem dX10_sheet_7 : decode cX10_sheet 7 = .ok (.iload_n 2, 1) := by decide +kernel
theorem dX10_sheet_8 : decode cX10_sheet 8 = .ok (.invokestatic 306, 3) := by decide +kernel
theorem dX10_sheet_11 : decode cX10_sheet 11 = .ok (.ifCond .eq 9, 3) := by decide +kernel
theorem dX10_sheet_14 : decode cX10_sheet 14 = .ok (.iload_n 3, 1) := by decide +kernel
theorem dX10_sheet_15 : decode cX10_sheet 15 = .ok (.bipush 16, 2) := by decide +kernel
theorem dX10_sheet_17 : decode cX10_sheet 17 = .ok (.if_icmp .le 5, 3) := by decide +kernel
theorem dX10_sheet_20 : decode cX10_sheet 20 = .ok (.iconst (-1), 1) := by decide +kernel
theorem dX10_sheet_21 : decode cX10_sheet 21 = .ok (.ireturn, 1) := by decide +kernel
theorem dX10_sheet_22 : decode cX10_sheet 22 = .ok (.iload_n 3, 1) := by decide +kernel
theorem dX10_sheet_23 : decode cX10_sheet 23 = .ok (.ifCond .ge 6, 3) := by decide +kernel
theorem dX10_sheet_26 : decode cX10_sheet 26 = .ok (.bipush (-14), 2) := by decide +kernel
theorem dX10_sheet_28 : decode cX10_sheet 28 = .ok (.ireturn, 1) := by decide +kernel
theorem dX10_sheet_29 : decode cX10_sheet 29 = .ok (.aload_n 0, 1) := by decide +kernel
theorem dX10_sheet_30 : decode cX10_sheet 30 = .ok (.getfield 79, 3) := by decide +kernel
theorem dX10_sheet_33 : decode cX10_sheet 33 = .ok (.iload_n 1, 1) := by decide +kernel
theorem dX10_sheet_34 : decode cX10_sheet 34 = .ok (.iload_n 2, 1) := by decide +kernel
theorem dX10_sheet_35 : decode cX10_sheet 35 = .ok (.iastore, 1) := by decide +kernel
theorem dX10_sheet_36 : decode cX10_sheet 36 = .ok (.aload_n 0, 1) := by decide +kernel
theorem dX10_sheet_37 : decode cX10_sheet 37 = .ok (.getfield 82, 3) := by decide +kernel
theorem dX10_sheet_40 : decode cX10_sheet 40 = .ok (.iload_n 1, 1) := by decide +kernel
theorem dX10_sheet_41 : decode cX10_sheet 41 = .ok (.iload_n 3, 1) := by decide +kernel
theorem dX10_sheet_42 : decode cX10_sheet 42 = .ok (.iastore, 1) := by decide +kernel
theorem dX10_sheet_43 : decode cX10_sheet 43 = .ok (.iconst 0, 1) := by decide +kernel
theorem dX10_sheet_44 : decode cX10_sheet 44 = .ok (.istore 4, 2) := by decide +kernel
theorem dX10_sheet_46 : decode cX10_sheet 46 = .ok (.iload 4, 2) := by decide +kernel
theorem dX10_sheet_48 : decode cX10_sheet 48 = .ok (.bipush 16, 2) := by decide +kernel
theorem dX10_sheet_50 : decode cX10_sheet 50 = .ok (.if_icmp .ge 22, 3) := by decide +kernel
theorem dX10_sheet_53 : decode cX10_sheet 53 = .ok (.aload_n 0, 1) := by decide +kernel
theorem dX10_sheet_54 : decode cX10_sheet 54 = .ok (.getfield 85, 3) := by decide +kernel
theorem dX10_sheet_57 : decode cX10_sheet 57 = .ok (.bipush 16, 2) := by decide +kernel
theorem dX10_sheet_59 : decode cX10_sheet 59 = .ok (.iload_n 1, 1) := by decide +kernel
theorem dX10_sheet_60 : decode cX10_sheet 60 = .ok (.imul, 1) := by decide +kernel
theorem dX10_sheet_61 : decode cX10_sheet 61 = .ok (.iload 4, 2) := by decide +kernel
theorem dX10_sheet_63 : decode cX10_sheet 63 = .ok (.iadd, 1) := by decide +kernel
theorem dX10_sheet_64 : decode cX10_sheet 64 = .ok (.lconst 0, 1) := by decide +kernel
theorem dX10_sheet_65 : decode cX10_sheet 65 = .ok (.lastore, 1) := by decide +kernel
theorem dX10_sheet_66 : decode cX10_sheet 66 = .ok (.iinc 4 1, 3) := by decide +kernel
theorem dX10_sheet_69 : decode cX10_sheet 69 = .ok (.goto (-23), 3) := by decide +kernel
theorem dX10_sheet_72 : decode cX10_sheet 72 = .ok (.iload_n 3, 1) := by decide +kernel
theorem dX10_sheet_73 : decode cX10_sheet 73 = .ok (.ireturn, 1) := by decide +kernel
theorem dX10_drop_0 : decode cX10_drop 0 = .ok (.iload_n 1, 1) := by decide +kernel
theorem dX10_drop_1 : decode cX10_drop 1 = .ok (.invokestatic 303, 3) := by decide +kernel
theorem dX10_drop_4 : decode cX10_drop 4 = .ok (.ifCond .ne 5, 3) := by decide +kernel
theorem dX10_drop_7 : decode cX10_drop 7 = .ok (.iconst (-1), 1) := by decide +kernel
theorem dX10_drop_8 : decode cX10_drop 8 = .ok (.ireturn, 1) := by decide +kernel
theorem dX10_drop_9 : decode cX10_drop 9 = .ok (.aload_n 0, 1) := by decide +kernel
theorem dX10_drop_10 : decode cX10_drop 10 = .ok (.getfield 79, 3) := by decide +kernel
theorem dX10_drop_13 : decode cX10_drop 13 = .ok (.iload_n 1, 1) := by decide +kernel
theorem dX10_drop_14 : decode cX10_drop 14 = .ok (.iaload, 1) := by decide +kernel
theorem dX10_drop_15 : decode cX10_drop 15 = .ok (.ifCond .ge 6, 3) := by decide +kernel
theorem dX10_drop_18 : decode cX10_drop 18 = .ok (.bipush (-11), 2) := by decide +kernel
theorem dX10_drop_20 : decode cX10_drop 20 = .ok (.ireturn, 1) := by decide +kernel
theorem dX10_drop_21 : decode cX10_drop 21 = .ok (.aload_n 0, 1) := by decide +kernel
theorem dX10_drop_22 : decode cX10_drop 22 = .ok (.getfield 79, 3) := by decide +kernel
theorem dX10_drop_25 : decode cX10_drop 25 = .ok (.iload_n 1, 1) := by decide +kernel
theorem dX10_drop_26 : decode cX10_drop 26 = .ok (.iconst (-1), 1) := by decide +kernel
theorem dX10_drop_27 : decode cX10_drop 27 = .ok (.iastore, 1) := by decide +kernel
theorem dX10_drop_28 : decode cX10_drop 28 = .ok (.aload_n 0, 1) := by decide +kernel
theorem dX10_drop_29 : decode cX10_drop 29 = .ok (.getfield 82, 3) := by decide +kernel
theorem dX10_drop_32 : decode cX10_drop 32 = .ok (.iload_n 1, 1) := by decide +kernel
theorem dX10_drop_33 : decode cX10_drop 33 = .ok (.iaload, 1) := by decide +kernel
theorem dX10_drop_34 : decode cX10_drop 34 = .ok (.ireturn, 1) := by decide +kernel
theorem dX10_item_0 : decode cX10_item 0 = .ok (.iload_n 1, 1) := by decide +kernel
theorem dX10_item_1 : decode cX10_item 1 = .ok (.invokestatic 303, 3) := by decide +kernel
theorem dX10_item_4 : decode cX10_item 4 = .ok (.ifCond .eq 10, 3) := by decide +kernel
theorem dX10_item_7 : decode cX10_item 7 = .ok (.iload_n 2, 1) := by decide +kernel
theorem dX10_item_8 : decode cX10_item 8 = .ok (.invokestatic 306, 3) := by decide +kernel
theorem dX10_item_11 : decode cX10_item 11 = .ok (.ifCond .ne 5, 3) := by decide +kernel
theorem dX10_item_14 : decode cX10_item 14 = .ok (.iconst (-1), 1) := by decide +kernel
theorem dX10_item_15 : decode cX10_item 15 = .ok (.ireturn, 1) := by decide +kernel
theorem dX10_item_16 : decode cX10_item 16 = .ok (.aload_n 0, 1) := by decide +kernel
theorem dX10_item_17 : decode cX10_item 17 = .ok (.iload_n 1, 1) := by decide +kernel
theorem dX10_item_18 : decode cX10_item 18 = .ok (.iload_n 2, 1) := by decide +kernel
theorem dX10_item_19 : decode cX10_item 19 = .ok (.iload_n 3, 1) := by decide +kernel
theorem dX10_item_20 : decode cX10_item 20 = .ok (.iconst 1, 1) := by decide +kernel
theorem dX10_item_21 : decode cX10_item 21 = .ok (.invokevirtual 309, 3) := by decide +kernel
theorem dX10_item_24 : decode cX10_item 24 = .ok (.istore 6, 2) := by decide +kernel
theorem dX10_item_26 : decode cX10_item 26 = .ok (.iload 6, 2) := by decide +kernel
theorem dX10_item_28 : decode cX10_item 28 = .ok (.ifCond .ge 6, 3) := by decide +kernel
theorem dX10_item_31 : decode cX10_item 31 = .ok (.iload 6, 2) := by decide +kernel
theorem dX10_item_33 : decode cX10_item 33 = .ok (.ireturn, 1) := by decide +kernel
theorem dX10_item_34 : decode cX10_item 34 = .ok (.aload_n 0, 1) := by decide +kernel
theorem dX10_item_35 : decode cX10_item 35 = .ok (.iload_n 1, 1) := by decide +kernel
theorem dX10_item_36 : decode cX10_item 36 = .ok (.iload_n 3, 1) := by decide +kernel
theorem dX10_item_37 : decode cX10_item 37 = .ok (.lload 4, 2) := by decide +kernel
theorem dX10_item_39 : decode cX10_item 39 = .ok (.invokevirtual 316, 3) := by decide +kernel
theorem dX10_item_42 : decode cX10_item 42 = .ok (.iconst 1, 1) := by decide +kernel
theorem dX10_item_43 : decode cX10_item 43 = .ok (.ireturn, 1) := by decide +kernel
theorem dX10_copy_0 : decode cX10_copy 0 = .ok (.iload_n 1, 1) := by decide +kernel
theorem dX10_copy_1 : decode cX10_copy 1 = .ok (.invokestatic 303, 3) := by decide +kernel
theorem dX10_copy_4 : decode cX10_copy 4 = .ok (.ifCond .eq 10, 3) := by decide +kernel
theorem dX10_copy_7 : decode cX10_copy 7 = .ok (.iload_n 3, 1) := by decide +kernel
theorem dX10_copy_8 : decode cX10_copy 8 = .ok (.invokestatic 303, 3) := by decide +kernel
theorem dX10_copy_11 : decode cX10_copy 11 = .ok (.ifCond .ne 5, 3) := by decide +kernel
theorem dX10_copy_14 : decode cX10_copy 14 = .ok (.iconst (-1), 1) := by decide +kernel
theorem dX10_copy_15 : decode cX10_copy 15 = .ok (.ireturn, 1) := by decide +kernel
theorem dX10_copy_16 : decode cX10_copy 16 = .ok (.aload_n 0, 1) := by decide +kernel
theorem dX10_copy_17 : decode cX10_copy 17 = .ok (.getfield 79, 3) := by decide +kernel
theorem dX10_copy_20 : decode cX10_copy 20 = .ok (.iload_n 1, 1) := by decide +kernel
theorem dX10_copy_21 : decode cX10_copy 21 = .ok (.iaload, 1) := by decide +kernel
theorem dX10_copy_22 : decode cX10_copy 22 = .ok (.ifCond .lt 12, 3) := by decide +kernel
theorem dX10_copy_25 : decode cX10_copy 25 = .ok (.aload_n 0, 1) := by decide +kernel
theorem dX10_copy_26 : decode cX10_copy 26 = .ok (.getfield 79, 3) := by decide +kernel
theorem dX10_copy_29 : decode cX10_copy 29 = .ok (.iload_n 3, 1) := by decide +kernel
theorem dX10_copy_30 : decode cX10_copy 30 = .ok (.iaload, 1) := by decide +kernel
theorem dX10_copy_31 : decode cX10_copy 31 = .ok (.ifCond .ge 6, 3) := by decide +kernel
theorem dX10_copy_34 : decode cX10_copy 34 = .ok (.bipush (-11), 2) := by decide +kernel
theorem dX10_copy_36 : decode cX10_copy 36 = .ok (.ireturn, 1) := by decide +kernel
theorem dX10_copy_37 : decode cX10_copy 37 = .ok (.aload_n 0, 1) := by decide +kernel
theorem dX10_copy_38 : decode cX10_copy 38 = .ok (.getfield 79, 3) := by decide +kernel
theorem dX10_copy_41 : decode cX10_copy 41 = .ok (.iload_n 1, 1) := by decide +kernel
theorem dX10_copy_42 : decode cX10_copy 42 = .ok (.iaload, 1) := by decide +kernel
theorem dX10_copy_43 : decode cX10_copy 43 = .ok (.aload_n 0, 1) := by decide +kernel
theorem dX10_copy_44 : decode cX10_copy 44 = .ok (.getfield 79, 3) := by decide +kernel
theorem dX10_copy_47 : decode cX10_copy 47 = .ok (.iload_n 3, 1) := by decide +kernel
theorem dX10_copy_48 : decode cX10_copy 48 = .ok (.iaload, 1) := by decide +kernel
theorem dX10_copy_49 : decode cX10_copy 49 = .ok (.if_icmp .eq 6, 3) := by decide +kernel
theorem dX10_copy_52 : decode cX10_copy 52 = .ok (.bipush (-12), 2) := by decide +kernel
theorem dX10_copy_54 : decode cX10_copy 54 = .ok (.ireturn, 1) := by decide +kernel
theorem dX10_copy_55 : decode cX10_copy 55 = .ok (.iload 5, 2) := by decide +kernel
theorem dX10_copy_57 : decode cX10_copy 57 = .ok (.ifCond .lt 38, 3) := by decide +kernel
theorem dX10_copy_60 : decode cX10_copy 60 = .ok (.aload_n 0, 1) := by decide +kernel
theorem dX10_copy_61 : decode cX10_copy 61 = .ok (.iload_n 1, 1) := by decide +kernel
theorem dX10_copy_62 : decode cX10_copy 62 = .ok (.aload_n 0, 1) := by decide +kernel
theorem dX10_copy_63 : decode cX10_copy 63 = .ok (.getfield 79, 3) := by decide +kernel
theorem dX10_copy_66 : decode cX10_copy 66 = .ok (.iload_n 1, 1) := by decide +kernel
theorem dX10_copy_67 : decode cX10_copy 67 = .ok (.iaload, 1) := by decide +kernel
theorem dX10_copy_68 : decode cX10_copy 68 = .ok (.iload_n 2, 1) := by decide +kernel
theorem dX10_copy_69 : decode cX10_copy 69 = .ok (.iload 5, 2) := by decide +kernel
theorem dX10_copy_71 : decode cX10_copy 71 = .ok (.invokevirtual 309, 3) := by decide +kernel
theorem dX10_copy_74 : decode cX10_copy 74 = .ok (.ifCond .lt 21, 3) := by decide +kernel
theorem dX10_copy_77 : decode cX10_copy 77 = .ok (.aload_n 0, 1) := by decide +kernel
theorem dX10_copy_78 : decode cX10_copy 78 = .ok (.iload_n 3, 1) := by decide +kernel
theorem dX10_copy_79 : decode cX10_copy 79 = .ok (.aload_n 0, 1) := by decide +kernel
theorem dX10_copy_80 : decode cX10_copy 80 = .ok (.getfield 79, 3) := by decide +kernel
theorem dX10_copy_83 : decode cX10_copy 83 = .ok (.iload_n 3, 1) := by decide +kernel
theorem dX10_copy_84 : decode cX10_copy 84 = .ok (.iaload, 1) := by decide +kernel
theorem dX10_copy_85 : decode cX10_copy 85 = .ok (.iload 4, 2) := by decide +kernel
theorem dX10_copy_87 : decode cX10_copy 87 = .ok (.iload 5, 2) := by decide +kernel
theorem dX10_copy_89 : decode cX10_copy 89 = .ok (.invokevirtual 309, 3) := by decide +kernel
theorem dX10_copy_92 : decode cX10_copy 92 = .ok (.ifCond .ge 6, 3) := by decide +kernel
theorem dX10_copy_95 : decode cX10_copy 95 = .ok (.bipush (-13), 2) := by decide +kernel
theorem dX10_copy_97 : decode cX10_copy 97 = .ok (.ireturn, 1) := by decide +kernel
theorem dX10_copy_98 : decode cX10_copy 98 = .ok (.iconst 0, 1) := by decide +kernel
theorem dX10_copy_99 : decode cX10_copy 99 = .ok (.istore 6, 2) := by decide +kernel
theorem dX10_copy_101 : decode cX10_copy 101 = .ok (.iload 6, 2) := by decide +kernel
theorem dX10_copy_103 : decode cX10_copy 103 = .ok (.iload 5, 2) := by decide +kernel
theorem dX10_copy_105 : decode cX10_copy 105 = .ok (.if_icmp .ge 30, 3) := by decide +kernel
theorem dX10_copy_108 : decode cX10_copy 108 = .ok (.aload_n 0, 1) := by decide +kernel
theorem dX10_copy_109 : decode cX10_copy 109 = .ok (.getfield 89, 3) := by decide +kernel
theorem dX10_copy_112 : decode cX10_copy 112 = .ok (.iload 6, 2) := by decide +kernel
theorem dX10_copy_114 : decode cX10_copy 114 = .ok (.aload_n 0, 1) := by decide +kernel
theorem dX10_copy_115 : decode cX10_copy 115 = .ok (.getfield 85, 3) := by decide +kernel
theorem dX10_copy_118 : decode cX10_copy 118 = .ok (.bipush 16, 2) := by decide +kernel
theorem dX10_copy_120 : decode cX10_copy 120 = .ok (.iload_n 1, 1) := by decide +kernel
theorem dX10_copy_121 : decode cX10_copy 121 = .ok (.imul, 1) := by decide +kernel
theorem dX10_copy_122 : decode cX10_copy 122 = .ok (.iload_n 2, 1) := by decide +kernel
theorem dX10_copy_123 : decode cX10_copy 123 = .ok (.iadd, 1) := by decide +kernel
theorem dX10_copy_124 : decode cX10_copy 124 = .ok (.iload 6, 2) := by decide +kernel
theorem dX10_copy_126 : decode cX10_copy 126 = .ok (.iadd, 1) := by decide +kernel
theorem dX10_copy_127 : decode cX10_copy 127 = .ok (.laload, 1) := by decide +kernel
theorem dX10_copy_128 : decode cX10_copy 128 = .ok (.lastore, 1) := by decide +kernel
theorem dX10_copy_129 : decode cX10_copy 129 = .ok (.iinc 6 1, 3) := by decide +kernel
theorem dX10_copy_132 : decode cX10_copy 132 = .ok (.goto (-31), 3) := by decide +kernel
theorem dX10_copy_135 : decode cX10_copy 135 = .ok (.iconst 0, 1) := by decide +kernel
theorem dX10_copy_136 : decode cX10_copy 136 = .ok (.istore 6, 2) := by decide +kernel
theorem dX10_copy_138 : decode cX10_copy 138 = .ok (.iload 6, 2) := by decide +kernel
theorem dX10_copy_140 : decode cX10_copy 140 = .ok (.iload 5, 2) := by decide +kernel
theorem dX10_copy_142 : decode cX10_copy 142 = .ok (.if_icmp .ge 31, 3) := by decide +kernel
theorem dX10_copy_145 : decode cX10_copy 145 = .ok (.aload_n 0, 1) := by decide +kernel
theorem dX10_copy_146 : decode cX10_copy 146 = .ok (.getfield 85, 3) := by decide +kernel
theorem dX10_copy_149 : decode cX10_copy 149 = .ok (.bipush 16, 2) := by decide +kernel
theorem dX10_copy_151 : decode cX10_copy 151 = .ok (.iload_n 3, 1) := by decide +kernel
theorem dX10_copy_152 : decode cX10_copy 152 = .ok (.imul, 1) := by decide +kernel
theorem dX10_copy_153 : decode cX10_copy 153 = .ok (.iload 4, 2) := by decide +kernel
theorem dX10_copy_155 : decode cX10_copy 155 = .ok (.iadd, 1) := by decide +kernel
theorem dX10_copy_156 : decode cX10_copy 156 = .ok (.iload 6, 2) := by decide +kernel
theorem dX10_copy_158 : decode cX10_copy 158 = .ok (.iadd, 1) := by decide +kernel
theorem dX10_copy_159 : decode cX10_copy 159 = .ok (.aload_n 0, 1) := by decide +kernel
theorem dX10_copy_160 : decode cX10_copy 160 = .ok (.getfield 89, 3) := by decide +kernel
theorem dX10_copy_163 : decode cX10_copy 163 = .ok (.iload 6, 2) := by decide +kernel
theorem dX10_copy_165 : decode cX10_copy 165 = .ok (.laload, 1) := by decide +kernel
theorem dX10_copy_166 : decode cX10_copy 166 = .ok (.lastore, 1) := by decide +kernel
theorem dX10_copy_167 : decode cX10_copy 167 = .ok (.iinc 6 1, 3) := by decide +kernel
theorem dX10_copy_170 : decode cX10_copy 170 = .ok (.goto (-32), 3) := by decide +kernel
theorem dX10_copy_173 : decode cX10_copy 173 = .ok (.iload 5, 2) := by decide +kernel
theorem dX10_copy_175 : decode cX10_copy 175 = .ok (.ireturn, 1) := by decide +kernel
