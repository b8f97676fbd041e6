theorem dX3_findRound_170 : decode cX3_findRound 170 = .ok (.iload 4, 2) := by decide +kernel
theorem dX3_findRound_172 : decode cX3_findRound 172 = .ok (.iaload, 1) := by decide +kernel
theorem dX3_findRound_173 : decode cX3_findRound 173 = .ok (.iadd, 1) := by decide +kernel
theorem dX3_findRound_174 : decode cX3_findRound 174 = .ok (.iastore, 1) := by decide +kernel
theorem dX3_findRound_175 : decode cX3_findRound 175 = .ok (.aload_n 0, 1) := by decide +kernel
theorem dX3_findRound_176 : decode cX3_findRound 176 = .ok (.getfield 38, 3) := by decide +kernel
theorem dX3_findRound_179 : decode cX3_findRound 179 = .ok (.aload_n 0, 1) := by decide +kernel
theorem dX3_findRound_180 : decode cX3_findRound 180 = .ok (.getfield 13, 3) := by decide +kernel
theorem dX3_findRound_183 : decode cX3_findRound 183 = .ok (.iload 4, 2) := by decide +kernel
theorem dX3_findRound_185 : decode cX3_findRound 185 = .ok (.iaload, 1) := by decide +kernel
theorem dX3_findRound_186 : decode cX3_findRound 186 = .ok (.iload 4, 2) := by decide +kernel
theorem dX3_findRound_188 : decode cX3_findRound 188 = .ok (.iastore, 1) := by decide +kernel
theorem dX3_findRound_189 : decode cX3_findRound 189 = .ok (.aload_n 0, 1) := by decide +kernel
theorem dX3_findRound_190 : decode cX3_findRound 190 = .ok (.getfield 13, 3) := by decide +kernel
theorem dX3_findRound_193 : decode cX3_findRound 193 = .ok (.iload 4, 2) := by decide +kernel
theorem dX3_findRound_195 : decode cX3_findRound 195 = .ok (.iaload, 1) := by decide +kernel
theorem dX3_findRound_196 : decode cX3_findRound 196 = .ok (.istore_n 2, 1) := by decide +kernel
theorem dX3_findRound_197 : decode cX3_findRound 197 = .ok (.iload_n 1, 1) := by decide +kernel
theorem dX3_findRound_198 : decode cX3_findRound 198 = .ok (.ifCond .ne 104, 3) := by decide +kernel
theorem dX3_findRound_201 : decode cX3_findRound 201 = .ok (.aload_n 0, 1) := by decide +kernel
theorem dX3_findRound_202 : decode cX3_findRound 202 = .ok (.getfield 25, 3) := by decide +kernel
theorem dX3_findRound_205 : decode cX3_findRound 205 = .ok (.iload 4, 2) := by decide +kernel
theorem dX3_findRound_207 : decode cX3_findRound 207 = .ok (.iaload, 1) := by decide +kernel
theorem dX3_findRound_208 : decode cX3_findRound 208 = .ok (.ifCond .le 94, 3) := by decide +kernel
theorem dX3_findRound_211 : decode cX3_findRound 211 = .ok (.aload_n 0, 1) := by decide +kernel
theorem dX3_findRound_212 : decode cX3_findRound 212 = .ok (.getfield 35, 3) := by decide +kernel
theorem dX3_findRound_215 : decode cX3_findRound 215 = .ok (.aload_n 0, 1) := by decide +kernel
theorem dX3_findRound_216 : decode cX3_findRound 216 = .ok (.getfield 13, 3) := by decide +kernel
theorem dX3_findRound_219 : decode cX3_findRound 219 = .ok (.iload 4, 2) := by decide +kernel
theorem dX3_findRound_221 : decode cX3_findRound 221 = .ok (.iaload, 1) := by decide +kernel
theorem dX3_findRound_222 : decode cX3_findRound 222 = .ok (.iaload, 1) := by decide +kernel
theorem dX3_findRound_223 : decode cX3_findRound 223 = .ok (.aload_n 0, 1) := by decide +kernel
theorem dX3_findRound_224 : decode cX3_findRound 224 = .ok (.getfield 19, 3) := by decide +kernel
theorem dX3_findRound_227 : decode cX3_findRound 227 = .ok (.iload 4, 2) := by decide +kernel
theorem dX3_findRound_229 : decode cX3_findRound 229 = .ok (.iaload, 1) := by decide +kernel
theorem dX3_findRound_230 : decode cX3_findRound 230 = .ok (.isub, 1) := by decide +kernel
theorem dX3_findRound_231 : decode cX3_findRound 231 = .ok (.aload_n 0, 1) := by decide +kernel
theorem dX3_findRound_232 : decode cX3_findRound 232 = .ok (.getfield 35, 3) := by decide +kernel
theorem dX3_findRound_235 : decode cX3_findRound 235 = .ok (.aload_n 0, 1) := by decide +kernel
theorem dX3_findRound_236 : decode cX3_findRound 236 = .ok (.getfield 7, 3) := by decide +kernel
theorem dX3_findRound_239 : decode cX3_findRound 239 = .ok (.iload 4, 2) := by decide +kernel
theorem dX3_findRound_241 : decode cX3_findRound 241 = .ok (.iaload, 1) := by decide +kernel
theorem dX3_findRound_242 : decode cX3_findRound 242 = .ok (.iaload, 1) := by decide +kernel
theorem dX3_findRound_243 : decode cX3_findRound 243 = .ok (.if_icmp .ge 59, 3) := by decide +kernel
theorem dX3_findRound_246 : decode cX3_findRound 246 = .ok (.aload_n 0, 1) := by decide +kernel
theorem dX3_findRound_247 : decode cX3_findRound 247 = .ok (.getfield 35, 3) := by decide +kernel
theorem dX3_findRound_250 : decode cX3_findRound 250 = .ok (.aload_n 0, 1) := by decide +kernel
theorem dX3_findRound_251 : decode cX3_findRound 251 = .ok (.getfield 7, 3) := by decide +kernel
theorem dX3_findRound_254 : decode cX3_findRound 254 = .ok (.iload 4, 2) := by decide +kernel
theorem dX3_findRound_256 : decode cX3_findRound 256 = .ok (.iaload, 1) := by decide +kernel
theorem dX3_findRound_257 : decode cX3_findRound 257 = .ok (.aload_n 0, 1) := by decide +kernel
theorem dX3_findRound_258 : decode cX3_findRound 258 = .ok (.getfield 35, 3) := by decide +kernel
theorem dX3_findRound_261 : decode cX3_findRound 261 = .ok (.aload_n 0, 1) := by decide +kernel
theorem dX3_findRound_262 : decode cX3_findRound 262 = .ok (.getfield 13, 3) := by decide +kernel
theorem dX3_findRound_265 : decode cX3_findRound 265 = .ok (.iload 4, 2) := by decide +kernel
theorem dX3_findRound_267 : decode cX3_findRound 267 = .ok (.iaload, 1) := by decide +kernel
theorem dX3_findRound_268 : decode cX3_findRound 268 = .ok (.iaload, 1) := by decide +kernel
theorem dX3_findRound_269 : decode cX3_findRound 269 = .ok (.aload_n 0, 1) := by decide +kernel
theorem dX3_findRound_270 : decode cX3_findRound 270 = .ok (.getfield 19, 3) := by decide +kernel
theorem dX3_findRound_273 : decode cX3_findRound 273 = .ok (.iload 4, 2) := by decide +kernel
theorem dX3_findRound_275 : decode cX3_findRound 275 = .ok (.iaload, 1) := by decide +kernel
theorem dX3_findRound_276 : decode cX3_findRound 276 = .ok (.isub, 1) := by decide +kernel
theorem dX3_findRound_277 : decode cX3_findRound 277 = .ok (.iastore, 1) := by decide +kernel
theorem dX3_findRound_278 : decode cX3_findRound 278 = .ok (.aload_n 0, 1) := by decide +kernel
theorem dX3_findRound_279 : decode cX3_findRound 279 = .ok (.getfield 38, 3) := by decide +kernel
theorem dX3_findRound_282 : decode cX3_findRound 282 = .ok (.aload_n 0, 1) := by decide +kernel
theorem dX3_findRound_283 : decode cX3_findRound 283 = .ok (.getfield 7, 3) := by decide +kernel
theorem dX3_findRound_286 : decode cX3_findRound 286 = .ok (.iload 4, 2) := by decide +kernel
theorem dX3_findRound_288 : decode cX3_findRound 288 = .ok (.iaload, 1) := by decide +kernel
theorem dX3_findRound_289 : decode cX3_findRound 289 = .ok (.iconst (-1), 1) := by decide +kernel
theorem dX3_findRound_290 : decode cX3_findRound 290 = .ok (.iload 4, 2) := by decide +kernel
theorem dX3_findRound_292 : decode cX3_findRound 292 = .ok (.isub, 1) := by decide +kernel
theorem dX3_findRound_293 : decode cX3_findRound 293 = .ok (.iastore, 1) := by decide +kernel
theorem dX3_findRound_294 : decode cX3_findRound 294 = .ok (.aload_n 0, 1) := by decide +kernel
theorem dX3_findRound_295 : decode cX3_findRound 295 = .ok (.getfield 7, 3) := by decide +kernel
theorem dX3_findRound_298 : decode cX3_findRound 298 = .ok (.iload 4, 2) := by decide +kernel
theorem dX3_findRound_300 : decode cX3_findRound 300 = .ok (.iaload, 1) := by decide +kernel
theorem dX3_findRound_301 : decode cX3_findRound 301 = .ok (.istore_n 2, 1) := by decide +kernel
theorem dX3_findRound_302 : decode cX3_findRound 302 = .ok (.iinc 4 1, 3) := by decide +kernel
theorem dX3_findRound_305 : decode cX3_findRound 305 = .ok (.goto (-259), 3) := by decide +kernel
theorem dX3_findRound_308 : decode cX3_findRound 308 = .ok (.iinc 3 1, 3) := by decide +kernel
theorem dX3_findRound_311 : decode cX3_findRound 311 = .ok (.goto (-277), 3) := by decide +kernel
theorem dX3_findRound_314 : decode cX3_findRound 314 = .ok (.iload_n 2, 1) := by decide +kernel
theorem dX3_findRound_315 : decode cX3_findRound 315 = .ok (.ireturn, 1) := by decide +kernel
theorem dX3_before_0 : decode cX3_before 0 = .ok (.aload_n 0, 1) := by decide +kernel
theorem dX3_before_1 : decode cX3_before 1 = .ok (.getfield 38, 3) := by decide +kernel
theorem dX3_before_4 : decode cX3_before 4 = .ok (.iload_n 1, 1) := by decide +kernel
theorem dX3_before_5 : decode cX3_before 5 = .ok (.iaload, 1) := by decide +kernel
theorem dX3_before_6 : decode cX3_before 6 = .ok (.istore_n 2, 1) := by decide +kernel
theorem dX3_before_7 : decode cX3_before 7 = .ok (.iload_n 2, 1) := by decide +kernel
theorem dX3_before_8 : decode cX3_before 8 = .ok (.ifCond .lt 12, 3) := by decide +kernel
theorem dX3_before_11 : decode cX3_before 11 = .ok (.aload_n 0, 1) := by decide +kernel
theorem dX3_before_12 : decode cX3_before 12 = .ok (.getfield 7, 3) := by decide +kernel
theorem dX3_before_15 : decode cX3_before 15 = .ok (.iload_n 2, 1) := by decide +kernel
theorem dX3_before_16 : decode cX3_before 16 = .ok (.iaload, 1) := by decide +kernel
theorem dX3_before_17 : decode cX3_before 17 = .ok (.goto 11, 3) := by decide +kernel
theorem dX3_before_20 : decode cX3_before 20 = .ok (.aload_n 0, 1) := by decide +kernel
theorem dX3_before_21 : decode cX3_before 21 = .ok (.getfield 13, 3) := by decide +kernel
theorem dX3_before_24 : decode cX3_before 24 = .ok (.iconst (-1), 1) := by decide +kernel
theorem dX3_before_25 : decode cX3_before 25 = .ok (.iload_n 2, 1) := by decide +kernel
theorem dX3_before_26 : decode cX3_before 26 = .ok (.isub, 1) := by decide +kernel
theorem dX3_before_27 : decode cX3_before 27 = .ok (.iaload, 1) := by decide +kernel
theorem dX3_before_28 : decode cX3_before 28 = .ok (.ireturn, 1) := by decide +kernel
set_option maxRecDepth 20000 in
theorem ggX3_goRound_X3_before : GoodIn wsX3_goRound wsX3_before := goodIn_r _ [9, 2, 10, 11, 12, 13, 14, 15, 16, 17, 18, 19, 20, 21, 22, 23, 24, 25, 26, 27] (by decide +kernel) (by decide +kernel)
set_option maxRecDepth 20000 in
theorem gX3_goRound_X3_before : GoodIn wsX3_goRound (wsV RX3 86 RX3 yX3_before wsX3_before) := goodIn_app (goodIn_of _ (by decide +kernel)) ggX3_goRound_X3_before
theorem dX3_goRound_0 : decode cX3_goRound 0 = .ok (.iload_n 1, 1) := by decide +kernel
theorem dX3_goRound_1 : decode cX3_goRound 1 = .ok (.istore_n 2, 1) := by decide +kernel
theorem dX3_goRound_2 : decode cX3_goRound 2 = .ok (.iconst 0, 1) := by decide +kernel
theorem dX3_goRound_3 : decode cX3_goRound 3 = .ok (.istore_n 3, 1) := by decide +kernel
theorem dX3_goRound_4 : decode cX3_goRound 4 = .ok (.iload_n 3, 1) := by decide +kernel
theorem dX3_goRound_5 : decode cX3_goRound 5 = .ok (.bipush 8, 2) := by decide +kernel
theorem dX3_goRound_7 : decode cX3_goRound 7 = .ok (.if_icmp .ge 15, 3) := by decide +kernel
theorem dX3_goRound_10 : decode cX3_goRound 10 = .ok (.aload_n 0, 1) := by decide +kernel
theorem dX3_goRound_11 : decode cX3_goRound 11 = .ok (.iload_n 2, 1) := by decide +kernel
theorem dX3_goRound_12 : decode cX3_goRound 12 = .ok (.invokevirtual 86, 3) := by decide +kernel
theorem dX3_goRound_15 : decode cX3_goRound 15 = .ok (.istore_n 2, 1) := by decide +kernel
theorem dX3_goRound_16 : decode cX3_goRound 16 = .ok (.iinc 3 1, 3) := by decide +kernel
theorem dX3_goRound_19 : decode cX3_goRound 19 = .ok (.goto (-15), 3) := by decide +kernel
theorem dX3_goRound_22 : decode cX3_goRound 22 = .ok (.ldc 60, 2) := by decide +kernel
theorem dX3_goRound_24 : decode cX3_goRound 24 = .ok (.istore_n 3, 1) := by decide +kernel
theorem dX3_goRound_25 : decode cX3_goRound 25 = .ok (.iload_n 2, 1) := by decide +kernel
theorem dX3_goRound_26 : decode cX3_goRound 26 = .ok (.istore 4, 2) := by decide +kernel
theorem dX3_goRound_28 : decode cX3_goRound 28 = .ok (.iconst 1, 1) := by decide +kernel
theorem dX3_goRound_29 : decode cX3_goRound 29 = .ok (.istore 5, 2) := by decide +kernel
theorem dX3_goRound_31 : decode cX3_goRound 31 = .ok (.iload 5, 2) := by decide +kernel
theorem dX3_goRound_33 : decode cX3_goRound 33 = .ok (.ifCond .eq 83, 3) := by decide +kernel
theorem dX3_goRound_36 : decode cX3_goRound 36 = .ok (.aload_n 0, 1) := by decide +kernel
theorem dX3_goRound_37 : decode cX3_goRound 37 = .ok (.getfield 38, 3) := by decide +kernel
theorem dX3_goRound_40 : decode cX3_goRound 40 = .ok (.iload 4, 2) := by decide +kernel
theorem dX3_goRound_42 : decode cX3_goRound 42 = .ok (.iaload, 1) := by decide +kernel
theorem dX3_goRound_43 : decode cX3_goRound 43 = .ok (.istore 6, 2) := by decide +kernel
theorem dX3_goRound_45 : decode cX3_goRound 45 = .ok (.iload 6, 2) := by decide +kernel
theorem dX3_goRound_47 : decode cX3_goRound 47 = .ok (.ifCond .lt 21, 3) := by decide +kernel
theorem dX3_goRound_50 : decode cX3_goRound 50 = .ok (.aload_n 0, 1) := by decide +kernel
theorem dX3_goRound_51 : decode cX3_goRound 51 = .ok (.getfield 16, 3) := by decide +kernel
theorem dX3_goRound_54 : decode cX3_goRound 54 = .ok (.iload 6, 2) := by decide +kernel
theorem dX3_goRound_56 : decode cX3_goRound 56 = .ok (.iaload, 1) := by decide +kernel
theorem dX3_goRound_57 : decode cX3_goRound 57 = .ok (.aload_n 0, 1) := by decide +kernel
theorem dX3_goRound_58 : decode cX3_goRound 58 = .ok (.getfield 25, 3) := by decide +kernel
theorem dX3_goRound_61 : decode cX3_goRound 61 = .ok (.iload 6, 2) := by decide +kernel
theorem dX3_goRound_63 : decode cX3_goRound 63 = .ok (.iaload, 1) := by decide +kernel
theorem dX3_goRound_64 : decode cX3_goRound 64 = .ok (.isub, 1) := by decide +kernel
theorem dX3_goRound_65 : decode cX3_goRound 65 = .ok (.goto 12, 3) := by decide +kernel
theorem dX3_goRound_68 : decode cX3_goRound 68 = .ok (.aload_n 0, 1) := by decide +kernel
theorem dX3_goRound_69 : decode cX3_goRound 69 = .ok (.getfield 25, 3) := by decide +kernel
theorem dX3_goRound_72 : decode cX3_goRound 72 = .ok (.iconst (-1), 1) := by decide +kernel
theorem dX3_goRound_73 : decode cX3_goRound 73 = .ok (.iload 6, 2) := by decide +kernel
theorem dX3_goRound_75 : decode cX3_goRound 75 = .ok (.isub, 1) := by decide +kernel
theorem dX3_goRound_76 : decode cX3_goRound 76 = .ok (.iaload, 1) := by decide +kernel
theorem dX3_goRound_77 : decode cX3_goRound 77 = .ok (.istore 7, 2) := by decide +kernel
theorem dX3_goRound_79 : decode cX3_goRound 79 = .ok (.iload 7, 2) := by decide +kernel
theorem dX3_goRound_81 : decode cX3_goRound 81 = .ok (.iload_n 3, 1) := by decide +kernel
theorem dX3_goRound_82 : decode cX3_goRound 82 = .ok (.if_icmp .ge 8, 3) := by decide +kernel
theorem dX3_goRound_85 : decode cX3_goRound 85 = .ok (.iload 7, 2) := by decide +kernel
theorem dX3_goRound_87 : decode cX3_goRound 87 = .ok (.goto 4, 3) := by decide +kernel
theorem dX3_goRound_90 : decode cX3_goRound 90 = .ok (.iload_n 3, 1) := by decide +kernel
theorem dX3_goRound_91 : decode cX3_goRound 91 = .ok (.istore_n 3, 1) := by decide +kernel
theorem dX3_goRound_92 : decode cX3_goRound 92 = .ok (.aload_n 0, 1) := by decide +kernel
theorem dX3_goRound_93 : decode cX3_goRound 93 = .ok (.iload 4, 2) := by decide +kernel
theorem dX3_goRound_95 : decode cX3_goRound 95 = .ok (.invokevirtual 86, 3) := by decide +kernel
theorem dX3_goRound_98 : decode cX3_goRound 98 = .ok (.istore 4, 2) := by decide +kernel
theorem dX3_goRound_100 : decode cX3_goRound 100 = .ok (.iload 4, 2) := by decide +kernel
theorem dX3_goRound_102 : decode cX3_goRound 102 = .ok (.iload_n 2, 1) := by decide +kernel
theorem dX3_goRound_103 : decode cX3_goRound 103 = .ok (.if_icmp .eq 7, 3) := by decide +kernel
theorem dX3_goRound_106 : decode cX3_goRound 106 = .ok (.iconst 1, 1) := by decide +kernel
theorem dX3_goRound_107 : decode cX3_goRound 107 = .ok (.goto 4, 3) := by decide +kernel
theorem dX3_goRound_110 : decode cX3_goRound 110 = .ok (.iconst 0, 1) := by decide +kernel
theorem dX3_goRound_111 : decode cX3_goRound 111 = .ok (.istore 5, 2) := by decide +kernel
theorem dX3_goRound_113 : decode cX3_goRound 113 = .ok (.goto (-82), 3) := by decide +kernel
theorem dX3_goRound_116 : decode cX3_goRound 116 = .ok (.iconst 1, 1) := by decide +kernel
theorem dX3_goRound_117 : decode cX3_goRound 117 = .ok (.istore 5, 2) := by decide +kernel
theorem dX3_goRound_119 : decode cX3_goRound 119 = .ok (.iload 5, 2) := by decide +kernel
theorem dX3_goRound_121 : decode cX3_goRound 121 = .ok (.ifCond .eq 72, 3) := by decide +kernel
theorem dX3_goRound_124 : decode cX3_goRound 124 = .ok (.aload_n 0, 1) := by decide +kernel
theorem dX3_goRound_125 : decode cX3_goRound 125 = .ok (.getfield 38, 3) := by decide +kernel
theorem dX3_goRound_128 : decode cX3_goRound 128 = .ok (.iload 4, 2) := by decide +kernel
theorem dX3_goRound_130 : decode cX3_goRound 130 = .ok (.iaload, 1) := by decide +kernel
theorem dX3_goRound_131 : decode cX3_goRound 131 = .ok (.istore 6, 2) := by decide +kernel
theorem dX3_goRound_133 : decode cX3_goRound 133 = .ok (.aload_n 0, 1) := by decide +kernel
theorem dX3_goRound_134 : decode cX3_goRound 134 = .ok (.iload 4, 2) := by decide +kernel
theorem dX3_goRound_136 : decode cX3_goRound 136 = .ok (.invokevirtual 86, 3) := by decide +kernel
theorem dX3_goRound_139 : decode cX3_goRound 139 = .ok (.istore 7, 2) := by decide +kernel
theorem dX3_goRound_141 : decode cX3_goRound 141 = .ok (.iload 6, 2) := by decide +kernel
theorem dX3_goRound_143 : decode cX3_goRound 143 = .ok (.ifCond .lt 17, 3) := by decide +kernel
theorem dX3_goRound_146 : decode cX3_goRound 146 = .ok (.aload_n 0, 1) := by decide +kernel
theorem dX3_goRound_147 : decode cX3_goRound 147 = .ok (.getfield 25, 3) := by decide +kernel
theorem dX3_goRound_150 : decode cX3_goRound 150 = .ok (.iload 6, 2) := by decide +kernel
theorem dX3_goRound_152 : decode cX3_goRound 152 = .ok (.dup2, 1) := by decide +kernel
theorem dX3_goRound_153 : decode cX3_goRound 153 = .ok (.iaload, 1) := by decide +kernel
theorem dX3_goRound_154 : decode cX3_goRound 154 = .ok (.iload_n 3, 1) := by decide +kernel
theorem dX3_goRound_155 : decode cX3_goRound 155 = .ok (.iadd, 1) := by decide +kernel
theorem dX3_goRound_156 : decode cX3_goRound 156 = .ok (.iastore, 1) := by decide +kernel
theorem dX3_goRound_157 : decode cX3_goRound 157 = .ok (.goto 16, 3) := by decide +kernel
theorem dX3_goRound_160 : decode cX3_goRound 160 = .ok (.aload_n 0, 1) := by decide +kernel
theorem dX3_goRound_161 : decode cX3_goRound 161 = .ok (.getfield 25, 3) := by decide +kernel
theorem dX3_goRound_164 : decode cX3_goRound 164 = .ok (.iconst (-1), 1) := by decide +kernel
theorem dX3_goRound_165 : decode cX3_goRound 165 = .ok (.iload 6, 2) := by decide +kernel
theorem dX3_goRound_167 : decode cX3_goRound 167 = .ok (.isub, 1) := by decide +kernel
theorem dX3_goRound_168 : decode cX3_goRound 168 = .ok (.dup2, 1) := by decide +kernel
theorem dX3_goRound_169 : decode cX3_goRound 169 = .ok (.iaload, 1) := by decide +kernel
theorem dX3_goRound_170 : decode cX3_goRound 170 = .ok (.iload_n 3, 1) := by decide +kernel
theorem dX3_goRound_171 : decode cX3_goRound 171 = .ok (.isub, 1) := by decide +kernel
theorem dX3_goRound_172 : decode cX3_goRound 172 = .ok (.iastore, 1) := by decide +kernel
theorem dX3_goRound_173 : decode cX3_goRound 173 = .ok (.iload 7, 2) := by decide +kernel
theorem dX3_goRound_175 : decode cX3_goRound 175 = .ok (.istore 4, 2) := by decide +kernel
theorem dX3_goRound_177 : decode cX3_goRound 177 = .ok (.iload 4, 2) := by decide +kernel
theorem dX3_goRound_179 : decode cX3_goRound 179 = .ok (.iload_n 2, 1) := by decide +kernel
theorem dX3_goRound_180 : decode cX3_goRound 180 = .ok (.if_icmp .eq 7, 3) := by decide +kernel
theorem dX3_goRound_183 : decode cX3_goRound 183 = .ok (.iconst 1, 1) := by decide +kernel
theorem dX3_goRound_184 : decode cX3_goRound 184 = .ok (.goto 4, 3) := by decide +kernel
theorem dX3_goRound_187 : decode cX3_goRound 187 = .ok (.iconst 0, 1) := by decide +kernel
theorem dX3_goRound_188 : decode cX3_goRound 188 = .ok (.istore 5, 2) := by decide +kernel
theorem dX3_goRound_190 : decode cX3_goRound 190 = .ok (.goto (-71), 3) := by decide +kernel
theorem dX3_goRound_193 : decode cX3_goRound 193 = .ok (.return_, 1) := by decide +kernel
set_option maxRecDepth 20000 in
theorem ggX3_solve_X3_fill : GoodIn wsX3_solve wsX3_fill := goodIn_r _ [13, 6, 14, 1, 7, 15, 16, 17, 18, 19, 12, 20, 21, 22, 23, 8, 24, 25, 26, 27, 28, 29, 30, 31, 32, 33, 34, 35, 36, 37, 38, 53, 54, 55, 56, 57, 58, 59, 60, 61, 62, 63, 64, 65, 66, 67, 68] (by decide +kernel) (by decide +kernel)
set_option maxRecDepth 20000 in
theorem gX3_solve_X3_fill : GoodIn wsX3_solve (wsV RX3 80 RX3 yX3_fill wsX3_fill) := goodIn_app (goodIn_of _ (by decide +kernel)) ggX3_solve_X3_fill
set_option maxRecDepth 20000 in
theorem ggX3_solve_X3_findRound : GoodIn wsX3_solve wsX3_findRound := goodIn_r _ [42, 43, 44, 3, 6, 23, 16, 7, 21, 8, 22, 53, 54, 55, 56, 57, 58, 59, 60, 61, 62, 63, 64, 65, 66, 67, 68] (by decide +kernel) (by decide +kernel)
set_option maxRecDepth 20000 in
theorem gX3_solve_X3_findRound : GoodIn wsX3_solve (wsV RX3 91 RX3 yX3_findRound wsX3_findRound) := goodIn_app (goodIn_of _ (by decide +kernel)) ggX3_solve_X3_findRound
set_option maxRecDepth 20000 in
theorem ggX3_solve_X3_goRound : GoodIn wsX3_solve wsX3_goRound := goodIn_r _ [48, 16, 44, 23, 7, 49, 50, 51, 12, 52, 21, 22, 53, 54, 55, 56, 57, 58, 59, 60, 61, 62, 63, 64, 65, 66, 67, 68] (by decide +kernel) (by decide +kernel)
set_option maxRecDepth 20000 in
theorem gX3_solve_X3_goRound : GoodIn wsX3_solve (wsV RX3 96 RX3 yX3_goRound wsX3_goRound) := goodIn_app (goodIn_of _ (by decide +kernel)) ggX3_solve_X3_goRound
theorem dX3_solve_0 : decode cX3_solve 0 = .ok (.iconst 0, 1) := by decide +kernel
theorem dX3_solve_1 : decode cX3_solve 1 = .ok (.istore_n 1, 1) := by decide +kernel
theorem dX3_solve_2 : decode cX3_solve 2 = .ok (.iconst 0, 1) := by decide +kernel
theorem dX3_solve_3 : decode cX3_solve 3 = .ok (.istore_n 2, 1) := by decide +kernel
theorem dX3_solve_4 : decode cX3_solve 4 = .ok (.iconst 0, 1) := by decide +kernel
theorem dX3_solve_5 : decode cX3_solve 5 = .ok (.istore_n 3, 1) := by decide +kernel
theorem dX3_solve_6 : decode cX3_solve 6 = .ok (.iload_n 3, 1) := by decide +kernel
theorem dX3_solve_7 : decode cX3_solve 7 = .ok (.bipush 8, 2) := by decide +kernel
theorem dX3_solve_9 : decode cX3_solve 9 = .ok (.if_icmp .ge 54, 3) := by decide +kernel
theorem dX3_solve_12 : decode cX3_solve 12 = .ok (.iload_n 1, 1) := by decide +kernel
theorem dX3_solve_13 : decode cX3_solve 13 = .ok (.aload_n 0, 1) := by decide +kernel
theorem dX3_solve_14 : decode cX3_solve 14 = .ok (.getfield 22, 3) := by decide +kernel
theorem dX3_solve_17 : decode cX3_solve 17 = .ok (.iload_n 3, 1) := by decide +kernel
theorem dX3_solve_18 : decode cX3_solve 18 = .ok (.iaload, 1) := by decide +kernel
theorem dX3_solve_19 : decode cX3_solve 19 = .ok (.ifCond .le 12, 3) := by decide +kernel
theorem dX3_solve_22 : decode cX3_solve 22 = .ok (.aload_n 0, 1) := by decide +kernel
theorem dX3_solve_23 : decode cX3_solve 23 = .ok (.getfield 22, 3) := by decide +kernel
theorem dX3_solve_26 : decode cX3_solve 26 = .ok (.iload_n 3, 1) := by decide +kernel
theorem dX3_solve_27 : decode cX3_solve 27 = .ok (.iaload, 1) := by decide +kernel
theorem dX3_solve_28 : decode cX3_solve 28 = .ok (.goto 4, 3) := by decide +kernel
theorem dX3_solve_31 : decode cX3_solve 31 = .ok (.iconst 0, 1) := by decide +kernel
theorem dX3_solve_32 : decode cX3_solve 32 = .ok (.iadd, 1) := by decide +kernel
theorem dX3_solve_33 : decode cX3_solve 33 = .ok (.istore_n 1, 1) := by decide +kernel
theorem dX3_solve_34 : decode cX3_solve 34 = .ok (.iload_n 2, 1) := by decide +kernel
theorem dX3_solve_35 : decode cX3_solve 35 = .ok (.aload_n 0, 1) := by decide +kernel
theorem dX3_solve_36 : decode cX3_solve 36 = .ok (.getfield 22, 3) := by decide +kernel
theorem dX3_solve_39 : decode cX3_solve 39 = .ok (.iload_n 3, 1) := by decide +kernel
theorem dX3_solve_40 : decode cX3_solve 40 = .ok (.iaload, 1) := by decide +kernel
theorem dX3_solve_41 : decode cX3_solve 41 = .ok (.ifCond .ge 13, 3) := by decide +kernel
theorem dX3_solve_44 : decode cX3_solve 44 = .ok (.aload_n 0, 1) := by decide +kernel
theorem dX3_solve_45 : decode cX3_solve 45 = .ok (.getfield 22, 3) := by decide +kernel
theorem dX3_solve_48 : decode cX3_solve 48 = .ok (.iload_n 3, 1) := by decide +kernel
theorem dX3_solve_49 : decode cX3_solve 49 = .ok (.iaload, 1) := by decide +kernel
theorem dX3_solve_50 : decode cX3_solve 50 = .ok (.ineg, 1) := by decide +kernel
theorem dX3_solve_51 : decode cX3_solve 51 = .ok (.goto 4, 3) := by decide +kernel
theorem dX3_solve_54 : decode cX3_solve 54 = .ok (.iconst 0, 1) := by decide +kernel
theorem dX3_solve_55 : decode cX3_solve 55 = .ok (.iadd, 1) := by decide +kernel
theorem dX3_solve_56 : decode cX3_solve 56 = .ok (.istore_n 2, 1) := by decide +kernel
theorem dX3_solve_57 : decode cX3_solve 57 = .ok (.iinc 3 1, 3) := by decide +kernel
theorem dX3_solve_60 : decode cX3_solve 60 = .ok (.goto (-54), 3) := by decide +kernel
theorem dX3_solve_63 : decode cX3_solve 63 = .ok (.iload_n 1, 1) := by decide +kernel
theorem dX3_solve_64 : decode cX3_solve 64 = .ok (.iload_n 2, 1) := by decide +kernel
theorem dX3_solve_65 : decode cX3_solve 65 = .ok (.if_icmp .ne 11, 3) := by decide +kernel
theorem dX3_solve_68 : decode cX3_solve 68 = .ok (.aload_n 0, 1) := by decide +kernel
theorem dX3_solve_69 : decode cX3_solve 69 = .ok (.invokevirtual 80, 3) := by decide +kernel
theorem dX3_solve_72 : decode cX3_solve 72 = .ok (.iload_n 1, 1) := by decide +kernel
theorem dX3_solve_73 : decode cX3_solve 73 = .ok (.if_icmp .eq 6, 3) := by decide +kernel
theorem dX3_solve_76 : decode cX3_solve 76 = .ok (.ldc 90, 2) := by decide +kernel
theorem dX3_solve_78 : decode cX3_solve 78 = .ok (.ireturn, 1) := by decide +kernel
theorem dX3_solve_79 : decode cX3_solve 79 = .ok (.aload_n 0, 1) := by decide +kernel
theorem dX3_solve_80 : decode cX3_solve 80 = .ok (.iconst 1, 1) := by decide +kernel
theorem dX3_solve_81 : decode cX3_solve 81 = .ok (.invokevirtual 91, 3) := by decide +kernel
theorem dX3_solve_84 : decode cX3_solve 84 = .ok (.ldc 84, 2) := by decide +kernel
theorem dX3_solve_86 : decode cX3_solve 86 = .ok (.if_icmp .eq 6, 3) := by decide +kernel
theorem dX3_solve_89 : decode cX3_solve 89 = .ok (.ldc 95, 2) := by decide +kernel
theorem dX3_solve_91 : decode cX3_solve 91 = .ok (.ireturn, 1) := by decide +kernel
theorem dX3_solve_92 : decode cX3_solve 92 = .ok (.aload_n 0, 1) := by decide +kernel
theorem dX3_solve_93 : decode cX3_solve 93 = .ok (.iconst 0, 1) := by decide +kernel
theorem dX3_solve_94 : decode cX3_solve 94 = .ok (.invokevirtual 91, 3) := by decide +kernel
theorem dX3_solve_97 : decode cX3_solve 97 = .ok (.istore_n 3, 1) := by decide +kernel
theorem dX3_solve_98 : decode cX3_solve 98 = .ok (.iload_n 3, 1) := by decide +kernel
theorem dX3_solve_99 : decode cX3_solve 99 = .ok (.ldc 84, 2) := by decide +kernel
theorem dX3_solve_101 : decode cX3_solve 101 = .ok (.if_icmp .eq 17, 3) := by decide +kernel
theorem dX3_solve_104 : decode cX3_solve 104 = .ok (.aload_n 0, 1) := by decide +kernel
theorem dX3_solve_105 : decode cX3_solve 105 = .ok (.iload_n 3, 1) := by decide +kernel
theorem dX3_solve_106 : decode cX3_solve 106 = .ok (.invokevirtual 96, 3) := by decide +kernel
theorem dX3_solve_109 : decode cX3_solve 109 = .ok (.aload_n 0, 1) := by decide +kernel
theorem dX3_solve_110 : decode cX3_solve 110 = .ok (.iconst 0, 1) := by decide +kernel
theorem dX3_solve_111 : decode cX3_solve 111 = .ok (.invokevirtual 91, 3) := by decide +kernel
theorem dX3_solve_114 : decode cX3_solve 114 = .ok (.istore_n 3, 1) := by decide +kernel
theorem dX3_solve_115 : decode cX3_solve 115 = .ok (.goto (-17), 3) := by decide +kernel
theorem dX3_solve_118 : decode cX3_solve 118 = .ok (.aload_n 0, 1) := by decide +kernel
theorem dX3_solve_119 : decode cX3_solve 119 = .ok (.iconst 0, 1) := by decide +kernel
theorem dX3_solve_120 : decode cX3_solve 120 = .ok (.putfield 100, 3) := by decide +kernel
theorem dX3_solve_123 : decode cX3_solve 123 = .ok (.iconst 0, 1) := by decide +kernel
theorem dX3_solve_124 : decode cX3_solve 124 = .ok (.istore 4, 2) := by decide +kernel
theorem dX3_solve_126 : decode cX3_solve 126 = .ok (.iload 4, 2) := by decide +kernel
theorem dX3_solve_128 : decode cX3_solve 128 = .ok (.aload_n 0, 1) := by decide +kernel
theorem dX3_solve_129 : decode cX3_solve 129 = .ok (.getfield 55, 3) := by decide +kernel
theorem dX3_solve_132 : decode cX3_solve 132 = .ok (.if_icmp .ge 33, 3) := by decide +kernel
theorem dX3_solve_135 : decode cX3_solve 135 = .ok (.aload_n 0, 1) := by decide +kernel
theorem dX3_solve_136 : decode cX3_solve 136 = .ok (.dup, 1) := by decide +kernel
theorem dX3_solve_137 : decode cX3_solve 137 = .ok (.getfield 100, 3) := by decide +kernel
theorem dX3_solve_140 : decode cX3_solve 140 = .ok (.aload_n 0, 1) := by decide +kernel
theorem dX3_solve_141 : decode cX3_solve 141 = .ok (.getfield 25, 3) := by decide +kernel
theorem dX3_solve_144 : decode cX3_solve 144 = .ok (.iload 4, 2) := by decide +kernel
theorem dX3_solve_146 : decode cX3_solve 146 = .ok (.iaload, 1) := by decide +kernel
theorem dX3_solve_147 : decode cX3_solve 147 = .ok (.aload_n 0, 1) := by decide +kernel
theorem dX3_solve_148 : decode cX3_solve 148 = .ok (.getfield 19, 3) := by decide +kernel
theorem dX3_solve_151 : decode cX3_solve 151 = .ok (.iload 4, 2) := by decide +kernel
theorem dX3_solve_153 : decode cX3_solve 153 = .ok (.iaload, 1) := by decide +kernel
theorem dX3_solve_154 : decode cX3_solve 154 = .ok (.imul, 1) := by decide +kernel
theorem dX3_solve_155 : decode cX3_solve 155 = .ok (.iadd, 1) := by decide +kernel
theorem dX3_solve_156 : decode cX3_solve 156 = .ok (.putfield 100, 3) := by decide +kernel
theorem dX3_solve_159 : decode cX3_solve 159 = .ok (.iinc 4 1, 3) := by decide +kernel
theorem dX3_solve_162 : decode cX3_solve 162 = .ok (.goto (-36), 3) := by decide +kernel
theorem dX3_solve_165 : decode cX3_solve 165 = .ok (.iconst 0, 1) := by decide +kernel
theorem dX3_solve_166 : decode cX3_solve 166 = .ok (.ireturn, 1) := by decide +kernel
set_option maxRecDepth 20000 in
theorem ggX3_state_X3_solve : GoodIn wsX3_state wsX3_solve := goodIn_r _ [5, 6, 7, 8, 9, 10, 11, 12, 13, 14, 15, 16, 4, 17, 18, 19, 20, 21, 22, 23, 24, 25, 26, 27, 28, 29, 30, 31, 32, 33, 34, 35, 36, 37, 38, 39, 40, 41, 42, 43, 44, 45, 46, 47, 48, 49, 50, 51, 52, 53, 54, 55, 56, 57, 58, 59, 60, 61, 62, 63, 64, 65, 66, 67, 68, 69, 70, 71, 72] (by decide +kernel) (by decide +kernel)
set_option maxRecDepth 20000 in
theorem gX3_state_X3_solve : GoodIn wsX3_state (wsV RX3 103 RX3 yX3_solve wsX3_solve) := goodIn_app (goodIn_of _ (by decide +kernel)) ggX3_state_X3_solve
theorem dX3_state_0 : decode cX3_state 0 = .ok (.aload_n 0, 1) := by decide +kernel
theorem dX3_state_1 : decode cX3_state 1 = .ok (.invokevirtual 103, 3) := by decide +kernel
theorem dX3_state_4 : decode cX3_state 4 = .ok (.ireturn, 1) := by decide +kernel
set_option maxRecDepth 20000 in
theorem ggX3_cost_X3_solve : GoodIn wsX3_cost wsX3_solve := goodIn_r _ [6, 7, 8, 9, 10, 1, 11, 12, 13, 14, 15, 16, 5, 17, 18, 19, 20, 21, 22, 23, 24, 25, 26, 27, 28, 29, 30, 31, 32, 33, 34, 35, 36, 37, 38, 39, 40, 41, 42, 43, 44, 45, 46, 47, 48, 49, 50, 51, 52, 53, 54, 55, 56, 57, 58, 59, 60, 61, 62, 63, 64, 65, 66, 67, 68, 69, 70, 71, 72] (by decide +kernel) (by decide +kernel)
set_option maxRecDepth 20000 in
theorem gX3_cost_X3_solve : GoodIn wsX3_cost (wsV RX3 103 RX3 yX3_solve wsX3_solve) := goodIn_app (goodIn_of _ (by decide +kernel)) ggX3_cost_X3_solve
theorem dX3_cost_0 : decode cX3_cost 0 = .ok (.aload_n 0, 1) := by decide +kernel
theorem dX3_cost_1 : decode cX3_cost 1 = .ok (.invokevirtual 103, 3) := by decide +kernel
theorem dX3_cost_4 : decode cX3_cost 4 = .ok (.istore_n 1, 1) := by decide +kernel
theorem dX3_cost_5 : decode cX3_cost 5 = .ok (.iload_n 1, 1) := by decide +kernel
theorem dX3_cost_6 : decode cX3_cost 6 = .ok (.ifCond .ge 7, 3) := by decide +kernel
theorem dX3_cost_9 : decode cX3_cost 9 = .ok (.iload_n 1, 1) := by decide +kernel
theorem dX3_cost_10 : decode cX3_cost 10 = .ok (.goto 7, 3) := by decide +kernel
theorem dX3_cost_13 : decode cX3_cost 13 = .ok (.aload_n 0, 1) := by decide +kernel
theorem dX3_cost_14 : decode cX3_cost 14 = .ok (.getfield 100, 3) := by decide +kernel
theorem dX3_cost_17 : decode cX3_cost 17 = .ok (.ireturn, 1) := by decide +kernel
set_option maxRecDepth 20000 in
theorem ggX3_marginal_X3_in : GoodIn wsX3_marginal wsX3_in := goodIn_r _ [8] (by decide +kernel) (by decide +kernel)
set_option maxRecDepth 20000 in
theorem gX3_marginal_X3_in : GoodIn wsX3_marginal (va_wsS RX3 50 yX3_in wsX3_in) := goodIn_app (goodIn_of _ (by decide +kernel)) ggX3_marginal_X3_in
set_option maxRecDepth 20000 in
theorem ggX3_marginal_X3_solve : GoodIn wsX3_marginal wsX3_solve := goodIn_r _ [12, 3, 13, 4, 14, 2, 15, 16, 17, 18, 19, 20, 7, 21, 22, 23, 24, 25, 26, 27, 28, 29, 30, 31, 32, 33, 34, 35, 36, 37, 38, 39, 40, 41, 42, 43, 44, 45, 46, 47, 48, 49, 50, 51, 52, 53, 54, 55, 56, 57, 58, 59, 60, 61, 62, 63, 64, 65, 66, 67, 68, 69, 70, 71, 72, 73, 74, 75, 76] (by decide +kernel) (by decide +kernel)
set_option maxRecDepth 20000 in
theorem gX3_marginal_X3_solve : GoodIn wsX3_marginal (wsV RX3 103 RX3 yX3_solve wsX3_solve) := goodIn_app (goodIn_of _ (by decide +kernel)) ggX3_marginal_X3_solve
theorem dX3_marginal_0 : decode cX3_marginal 0 = .ok (.iload_n 1, 1) := by decide +kernel
theorem dX3_marginal_1 : decode cX3_marginal 1 = .ok (.iconst 0, 1) := by decide +kernel
theorem dX3_marginal_2 : decode cX3_marginal 2 = .ok (.bipush 7, 2) := by decide +kernel
theorem dX3_marginal_4 : decode cX3_marginal 4 = .ok (.invokestatic 50, 3) := by decide +kernel
theorem dX3_marginal_7 : decode cX3_marginal 7 = .ok (.ifCond .eq 13, 3) := by decide +kernel
theorem dX3_marginal_10 : decode cX3_marginal 10 = .ok (.iload_n 2, 1) := by decide +kernel
theorem dX3_marginal_11 : decode cX3_marginal 11 = .ok (.iconst 0, 1) := by decide +kernel
theorem dX3_marginal_12 : decode cX3_marginal 12 = .ok (.bipush 7, 2) := by decide +kernel
theorem dX3_marginal_14 : decode cX3_marginal 14 = .ok (.invokestatic 50, 3) := by decide +kernel
theorem dX3_marginal_17 : decode cX3_marginal 17 = .ok (.ifCond .ne 6, 3) := by decide +kernel
theorem dX3_marginal_20 : decode cX3_marginal 20 = .ok (.ldc 54, 2) := by decide +kernel
theorem dX3_marginal_22 : decode cX3_marginal 22 = .ok (.ireturn, 1) := by decide +kernel
theorem dX3_marginal_23 : decode cX3_marginal 23 = .ok (.aload_n 0, 1) := by decide +kernel
theorem dX3_marginal_24 : decode cX3_marginal 24 = .ok (.invokevirtual 103, 3) := by decide +kernel
theorem dX3_marginal_27 : decode cX3_marginal 27 = .ok (.istore_n 3, 1) := by decide +kernel
theorem dX3_marginal_28 : decode cX3_marginal 28 = .ok (.iload_n 3, 1) := by decide +kernel
theorem dX3_marginal_29 : decode cX3_marginal 29 = .ok (.ifCond .lt 8, 3) := by decide +kernel
theorem dX3_marginal_32 : decode cX3_marginal 32 = .ok (.iload_n 1, 1) := by decide +kernel
theorem dX3_marginal_33 : decode cX3_marginal 33 = .ok (.iload_n 2, 1) := by decide +kernel
theorem dX3_marginal_34 : decode cX3_marginal 34 = .ok (.if_icmp .ne 5, 3) := by decide +kernel
theorem dX3_marginal_37 : decode cX3_marginal 37 = .ok (.iload_n 3, 1) := by decide +kernel
theorem dX3_marginal_38 : decode cX3_marginal 38 = .ok (.ireturn, 1) := by decide +kernel
theorem dX3_marginal_39 : decode cX3_marginal 39 = .ok (.aload_n 0, 1) := by decide +kernel
theorem dX3_marginal_40 : decode cX3_marginal 40 = .ok (.getfield 100, 3) := by decide +kernel
theorem dX3_marginal_43 : decode cX3_marginal 43 = .ok (.istore 4, 2) := by decide +kernel
theorem dX3_marginal_45 : decode cX3_marginal 45 = .ok (.aload_n 0, 1) := by decide +kernel
theorem dX3_marginal_46 : decode cX3_marginal 46 = .ok (.getfield 22, 3) := by decide +kernel
theorem dX3_marginal_49 : decode cX3_marginal 49 = .ok (.iload_n 1, 1) := by decide +kernel
theorem dX3_marginal_50 : decode cX3_marginal 50 = .ok (.dup2, 1) := by decide +kernel
theorem dX3_marginal_51 : decode cX3_marginal 51 = .ok (.iaload, 1) := by decide +kernel
theorem dX3_marginal_52 : decode cX3_marginal 52 = .ok (.iconst 1, 1) := by decide +kernel
theorem dX3_marginal_53 : decode cX3_marginal 53 = .ok (.iadd, 1) := by decide +kernel
theorem dX3_marginal_54 : decode cX3_marginal 54 = .ok (.iastore, 1) := by decide +kernel
theorem dX3_marginal_55 : decode cX3_marginal 55 = .ok (.aload_n 0, 1) := by decide +kernel
theorem dX3_marginal_56 : decode cX3_marginal 56 = .ok (.getfield 22, 3) := by decide +kernel
theorem dX3_marginal_59 : decode cX3_marginal 59 = .ok (.iload_n 2, 1) := by decide +kernel
theorem dX3_marginal_60 : decode cX3_marginal 60 = .ok (.dup2, 1) := by decide +kernel
theorem dX3_marginal_61 : decode cX3_marginal 61 = .ok (.iaload, 1) := by decide +kernel
theorem dX3_marginal_62 : decode cX3_marginal 62 = .ok (.iconst 1, 1) := by decide +kernel
theorem dX3_marginal_63 : decode cX3_marginal 63 = .ok (.isub, 1) := by decide +kernel
theorem dX3_marginal_64 : decode cX3_marginal 64 = .ok (.iastore, 1) := by decide +kernel
theorem dX3_marginal_65 : decode cX3_marginal 65 = .ok (.aload_n 0, 1) := by decide +kernel
theorem dX3_marginal_66 : decode cX3_marginal 66 = .ok (.invokevirtual 103, 3) := by decide +kernel
theorem dX3_marginal_69 : decode cX3_marginal 69 = .ok (.istore_n 3, 1) := by decide +kernel
theorem dX3_marginal_70 : decode cX3_marginal 70 = .ok (.aload_n 0, 1) := by decide +kernel
theorem dX3_marginal_71 : decode cX3_marginal 71 = .ok (.getfield 22, 3) := by decide +kernel
theorem dX3_marginal_74 : decode cX3_marginal 74 = .ok (.iload_n 1, 1) := by decide +kernel
theorem dX3_marginal_75 : decode cX3_marginal 75 = .ok (.dup2, 1) := by decide +kernel
theorem dX3_marginal_76 : decode cX3_marginal 76 = .ok (.iaload, 1) := by decide +kernel
theorem dX3_marginal_77 : decode cX3_marginal 77 = .ok (.iconst 1, 1) := by decide +kernel
theorem dX3_marginal_78 : decode cX3_marginal 78 = .ok (.isub, 1) := by decide +kernel
theorem dX3_marginal_79 : decode cX3_marginal 79 = .ok (.iastore, 1) := by decide +kernel
theorem dX3_marginal_80 : decode cX3_marginal 80 = .ok (.aload_n 0, 1) := by decide +kernel
theorem dX3_marginal_81 : decode cX3_marginal 81 = .ok (.getfield 22, 3) := by decide +kernel
theorem dX3_marginal_84 : decode cX3_marginal 84 = .ok (.iload_n 2, 1) := by decide +kernel
theorem dX3_marginal_85 : decode cX3_marginal 85 = .ok (.dup2, 1) := by decide +kernel
theorem dX3_marginal_86 : decode cX3_marginal 86 = .ok (.iaload, 1) := by decide +kernel
theorem dX3_marginal_87 : decode cX3_marginal 87 = .ok (.iconst 1, 1) := by decide +kernel
theorem dX3_marginal_88 : decode cX3_marginal 88 = .ok (.iadd, 1) := by decide +kernel
theorem dX3_marginal_89 : decode cX3_marginal 89 = .ok (.iastore, 1) := by decide +kernel
theorem dX3_marginal_90 : decode cX3_marginal 90 = .ok (.iload_n 3, 1) := by decide +kernel
theorem dX3_marginal_91 : decode cX3_marginal 91 = .ok (.ifCond .ge 8, 3) := by decide +kernel
theorem dX3_marginal_94 : decode cX3_marginal 94 = .ok (.ldc 84, 2) := by decide +kernel
theorem dX3_marginal_96 : decode cX3_marginal 96 = .ok (.goto 10, 3) := by decide +kernel
theorem dX3_marginal_99 : decode cX3_marginal 99 = .ok (.aload_n 0, 1) := by decide +kernel
theorem dX3_marginal_100 : decode cX3_marginal 100 = .ok (.getfield 100, 3) := by decide +kernel
theorem dX3_marginal_103 : decode cX3_marginal 103 = .ok (.iload 4, 2) := by decide +kernel
theorem dX3_marginal_105 : decode cX3_marginal 105 = .ok (.isub, 1) := by decide +kernel
theorem dX3_marginal_106 : decode cX3_marginal 106 = .ok (.ireturn, 1) := by decide +kernel
theorem dX3_isFree_0 : decode cX3_isFree 0 = .ok (.aload_n 0, 1) := by decide +kernel
theorem dX3_isFree_1 : decode cX3_isFree 1 = .ok (.getfield 19, 3) := by decide +kernel
theorem dX3_isFree_4 : decode cX3_isFree 4 = .ok (.iload_n 1, 1) := by decide +kernel
theorem dX3_isFree_5 : decode cX3_isFree 5 = .ok (.iaload, 1) := by decide +kernel
theorem dX3_isFree_6 : decode cX3_isFree 6 = .ok (.aload_n 0, 1) := by decide +kernel
theorem dX3_isFree_7 : decode cX3_isFree 7 = .ok (.getfield 35, 3) := by decide +kernel
theorem dX3_isFree_10 : decode cX3_isFree 10 = .ok (.aload_n 0, 1) := by decide +kernel
theorem dX3_isFree_11 : decode cX3_isFree 11 = .ok (.getfield 7, 3) := by decide +kernel
theorem dX3_isFree_14 : decode cX3_isFree 14 = .ok (.iload_n 1, 1) := by decide +kernel
theorem dX3_isFree_15 : decode cX3_isFree 15 = .ok (.iaload, 1) := by decide +kernel
theorem dX3_isFree_16 : decode cX3_isFree 16 = .ok (.iaload, 1) := by decide +kernel
theorem dX3_isFree_17 : decode cX3_isFree 17 = .ok (.iadd, 1) := by decide +kernel
theorem dX3_isFree_18 : decode cX3_isFree 18 = .ok (.aload_n 0, 1) := by decide +kernel
theorem dX3_isFree_19 : decode cX3_isFree 19 = .ok (.getfield 35, 3) := by decide +kernel
theorem dX3_isFree_22 : decode cX3_isFree 22 = .ok (.aload_n 0, 1) := by decide +kernel
theorem dX3_isFree_23 : decode cX3_isFree 23 = .ok (.getfield 13, 3) := by decide +kernel
theorem dX3_isFree_26 : decode cX3_isFree 26 = .ok (.iload_n 1, 1) := by decide +kernel
theorem dX3_isFree_27 : decode cX3_isFree 27 = .ok (.iaload, 1) := by decide +kernel
theorem dX3_isFree_28 : decode cX3_isFree 28 = .ok (.iaload, 1) := by decide +kernel
theorem dX3_isFree_29 : decode cX3_isFree 29 = .ok (.isub, 1) := by decide +kernel
theorem dX3_isFree_30 : decode cX3_isFree 30 = .ok (.ifCond .ne 7, 3) := by decide +kernel
theorem dX3_isFree_33 : decode cX3_isFree 33 = .ok (.iconst 1, 1) := by decide +kernel
theorem dX3_isFree_34 : decode cX3_isFree 34 = .ok (.goto 4, 3) := by decide +kernel
theorem dX3_isFree_37 : decode cX3_isFree 37 = .ok (.iconst 0, 1) := by decide +kernel
theorem dX3_isFree_38 : decode cX3_isFree 38 = .ok (.ireturn, 1) := by decide +kernel
set_option maxRecDepth 20000 in
theorem ggX3_room_X3_findRound : GoodIn wsX3_room wsX3_findRound := goodIn_r _ [11, 12, 13, 4, 1, 14, 15, 6, 16, 17, 18, 38, 39, 40, 41, 42, 43, 44, 45, 46, 47, 48, 49, 50, 51, 52, 53] (by decide +kernel) (by decide +kernel)
set_option maxRecDepth 20000 in
theorem gX3_room_X3_findRound : GoodIn wsX3_room (wsV RX3 91 RX3 yX3_findRound wsX3_findRound) := goodIn_app (goodIn_of _ (by decide +kernel)) ggX3_room_X3_findRound
set_option maxRecDepth 20000 in
theorem ggX3_room_X3_isFree : GoodIn wsX3_room wsX3_isFree := goodIn_r _ [22, 17, 12, 16, 18, 38, 39, 40, 41, 42, 43, 44, 45, 46, 47, 48, 49, 50, 51, 52, 53] (by decide +kernel) (by decide +kernel)
set_option maxRecDepth 20000 in
theorem gX3_room_X3_isFree : GoodIn wsX3_room (wsV RX3 106 RX3 yX3_isFree wsX3_isFree) := goodIn_app (goodIn_of _ (by decide +kernel)) ggX3_room_X3_isFree
set_option maxRecDepth 20000 in
theorem ggX3_room_X3_pushAll : GoodIn wsX3_room wsX3_pushAll := goodIn_r _ [26, 27, 14, 16, 18, 28, 29, 30, 10, 31, 32, 33, 2, 34, 35, 36, 37, 3, 38, 39, 40, 41, 42, 43, 44, 45, 46, 47, 48, 49, 50, 51, 52, 53] (by decide +kernel) (by decide +kernel)
set_option maxRecDepth 20000 in
theorem gX3_room_X3_pushAll : GoodIn wsX3_room (wsV RX3 76 RX3 yX3_pushAll wsX3_pushAll) := goodIn_app (goodIn_of _ (by decide +kernel)) ggX3_room_X3_pushAll
theorem dX3_room_0 : decode cX3_room 0 = .ok (.aload_n 0, 1) := by decide +kernel
theorem dX3_room_1 : decode cX3_room 1 = .ok (.iconst 0, 1) := by decide +kernel
theorem dX3_room_2 : decode cX3_room 2 = .ok (.invokevirtual 91, 3) := by decide +kernel
theorem dX3_room_5 : decode cX3_room 5 = .ok (.istore 5, 2) := by decide +kernel
theorem dX3_room_7 : decode cX3_room 7 = .ok (.aload_n 0, 1) := by decide +kernel
theorem dX3_room_8 : decode cX3_room 8 = .ok (.aload_n 0, 1) := by decide +kernel
theorem dX3_room_9 : decode cX3_room 9 = .ok (.getfield 55, 3) := by decide +kernel
theorem dX3_room_12 : decode cX3_room 12 = .ok (.putfield 61, 3) := by decide +kernel
theorem dX3_room_15 : decode cX3_room 15 = .ok (.iconst 0, 1) := by decide +kernel
theorem dX3_room_16 : decode cX3_room 16 = .ok (.istore 6, 2) := by decide +kernel
theorem dX3_room_18 : decode cX3_room 18 = .ok (.iload 6, 2) := by decide +kernel
theorem dX3_room_20 : decode cX3_room 20 = .ok (.aload_n 0, 1) := by decide +kernel
theorem dX3_room_21 : decode cX3_room 21 = .ok (.getfield 55, 3) := by decide +kernel
theorem dX3_room_24 : decode cX3_room 24 = .ok (.if_icmp .ge 57, 3) := by decide +kernel
theorem dX3_room_27 : decode cX3_room 27 = .ok (.aload_n 0, 1) := by decide +kernel
theorem dX3_room_28 : decode cX3_room 28 = .ok (.getfield 41, 3) := by decide +kernel
theorem dX3_room_31 : decode cX3_room 31 = .ok (.iload 6, 2) := by decide +kernel
theorem dX3_room_33 : decode cX3_room 33 = .ok (.iload 6, 2) := by decide +kernel
theorem dX3_room_35 : decode cX3_room 35 = .ok (.iload_n 1, 1) := by decide +kernel
theorem dX3_room_36 : decode cX3_room 36 = .ok (.if_icmp .eq 23, 3) := by decide +kernel
theorem dX3_room_39 : decode cX3_room 39 = .ok (.aload_n 0, 1) := by decide +kernel
theorem dX3_room_40 : decode cX3_room 40 = .ok (.iload 6, 2) := by decide +kernel
theorem dX3_room_42 : decode cX3_room 42 = .ok (.invokevirtual 106, 3) := by decide +kernel
theorem dX3_room_45 : decode cX3_room 45 = .ok (.ifCond .eq 14, 3) := by decide +kernel
theorem dX3_room_48 : decode cX3_room 48 = .ok (.iload 5, 2) := by decide +kernel
theorem dX3_room_50 : decode cX3_room 50 = .ok (.ldc 84, 2) := by decide +kernel
theorem dX3_room_52 : decode cX3_room 52 = .ok (.if_icmp .ne 7, 3) := by decide +kernel
theorem dX3_room_55 : decode cX3_room 55 = .ok (.iconst 1, 1) := by decide +kernel
theorem dX3_room_56 : decode cX3_room 56 = .ok (.goto 4, 3) := by decide +kernel
theorem dX3_room_59 : decode cX3_room 59 = .ok (.iconst 0, 1) := by decide +kernel
theorem dX3_room_60 : decode cX3_room 60 = .ok (.bastore, 1) := by decide +kernel
theorem dX3_room_61 : decode cX3_room 61 = .ok (.aload_n 0, 1) := by decide +kernel
theorem dX3_room_62 : decode cX3_room 62 = .ok (.getfield 28, 3) := by decide +kernel
theorem dX3_room_65 : decode cX3_room 65 = .ok (.iload 6, 2) := by decide +kernel
theorem dX3_room_67 : decode cX3_room 67 = .ok (.aload_n 0, 1) := by decide +kernel
theorem dX3_room_68 : decode cX3_room 68 = .ok (.getfield 25, 3) := by decide +kernel
theorem dX3_room_71 : decode cX3_room 71 = .ok (.iload 6, 2) := by decide +kernel
theorem dX3_room_73 : decode cX3_room 73 = .ok (.iaload, 1) := by decide +kernel
theorem dX3_room_74 : decode cX3_room 74 = .ok (.iastore, 1) := by decide +kernel
theorem dX3_room_75 : decode cX3_room 75 = .ok (.iinc 6 1, 3) := by decide +kernel
theorem dX3_room_78 : decode cX3_room 78 = .ok (.goto (-60), 3) := by decide +kernel
theorem dX3_room_81 : decode cX3_room 81 = .ok (.iload 4, 2) := by decide +kernel
theorem dX3_room_83 : decode cX3_room 83 = .ok (.ifCond .gt 7, 3) := by decide +kernel
theorem dX3_room_86 : decode cX3_room 86 = .ok (.iconst 0, 1) := by decide +kernel
theorem dX3_room_87 : decode cX3_room 87 = .ok (.goto 15, 3) := by decide +kernel
theorem dX3_room_90 : decode cX3_room 90 = .ok (.aload_n 0, 1) := by decide +kernel
theorem dX3_room_91 : decode cX3_room 91 = .ok (.aload_n 0, 1) := by decide +kernel
theorem dX3_room_92 : decode cX3_room 92 = .ok (.getfield 28, 3) := by decide +kernel
theorem dX3_room_95 : decode cX3_room 95 = .ok (.iload_n 2, 1) := by decide +kernel
theorem dX3_room_96 : decode cX3_room 96 = .ok (.iload_n 3, 1) := by decide +kernel
theorem dX3_room_97 : decode cX3_room 97 = .ok (.iload 4, 2) := by decide +kernel
theorem dX3_room_99 : decode cX3_room 99 = .ok (.invokevirtual 76, 3) := by decide +kernel
theorem dX3_room_102 : decode cX3_room 102 = .ok (.ireturn, 1) := by decide +kernel
set_option maxRecDepth 20000 in
theorem ggX3_least_X3_in : GoodIn wsX3_least wsX3_in := goodIn_r _ [9] (by decide +kernel) (by decide +kernel)
set_option maxRecDepth 20000 in
theorem gX3_least_X3_in : GoodIn wsX3_least (va_wsS RX3 50 yX3_in wsX3_in) := goodIn_app (goodIn_of _ (by decide +kernel)) ggX3_least_X3_in
set_option maxRecDepth 20000 in
theorem ggX3_least_X3_solve : GoodIn wsX3_least wsX3_solve := goodIn_r _ [13, 14, 15, 16, 17, 18, 1, 3, 19, 20, 21, 22, 8, 23, 24, 25, 26, 27, 28, 29, 30, 4, 5, 31, 32, 33, 34, 35, 36, 37, 38, 39, 40, 41, 42, 43, 44, 45, 46, 47, 48, 49, 50, 51, 52, 53, 54, 55, 56, 57, 58, 59, 60, 70, 71, 72, 73, 74, 75, 76, 77, 78, 79, 80, 81, 82, 83, 84, 85] (by decide +kernel) (by decide +kernel)
set_option maxRecDepth 20000 in
theorem gX3_least_X3_solve : GoodIn wsX3_least (wsV RX3 103 RX3 yX3_solve wsX3_solve) := goodIn_app (goodIn_of _ (by decide +kernel)) ggX3_least_X3_solve
set_option maxRecDepth 20000 in
theorem ggX3_least_X3_findRound : GoodIn wsX3_least wsX3_findRound := goodIn_r _ [50, 51, 52, 16, 1, 31, 26, 3, 4, 19, 5, 70, 71, 72, 73, 74, 75, 76, 77, 78, 79, 80, 81, 82, 83, 84, 85] (by decide +kernel) (by decide +kernel)
set_option maxRecDepth 20000 in
theorem gX3_least_X3_findRound : GoodIn wsX3_least (wsV RX3 91 RX3 yX3_findRound wsX3_findRound) := goodIn_app (goodIn_of _ (by decide +kernel)) ggX3_least_X3_findRound
set_option maxRecDepth 20000 in
theorem ggX3_least_X3_isFree : GoodIn wsX3_least wsX3_isFree := goodIn_r _ [64, 19, 51, 4, 5, 70, 71, 72, 73, 74, 75, 76, 77, 78, 79, 80, 81, 82, 83, 84, 85] (by decide +kernel) (by decide +kernel)
set_option maxRecDepth 20000 in
theorem gX3_least_X3_isFree : GoodIn wsX3_least (wsV RX3 106 RX3 yX3_isFree wsX3_isFree) := goodIn_app (goodIn_of _ (by decide +kernel)) ggX3_least_X3_isFree
set_option maxRecDepth 20000 in
theorem ggX3_least_X3_room : GoodIn wsX3_least wsX3_room := goodIn_r _ [68, 1, 24, 25, 16, 69, 3, 47, 48, 49, 8, 50, 51, 52, 31, 26, 4, 19, 5, 61, 62, 63, 64, 32, 33, 34, 35, 36, 37, 38, 39, 40, 41, 42, 43, 44, 45, 46, 70, 71, 72, 73, 74, 75, 76, 77, 78, 79, 80, 81, 82, 83, 84, 85] (by decide +kernel) (by decide +kernel)
set_option maxRecDepth 20000 in
theorem gX3_least_X3_room : GoodIn wsX3_least (wsV RX3 110 RX3 yX3_room wsX3_room) := goodIn_app (goodIn_of _ (by decide +kernel)) ggX3_least_X3_room
theorem dX3_least_0 : decode cX3_least 0 = .ok (.iload_n 1, 1) := by decide +kernel
theorem dX3_least_1 : decode cX3_least 1 = .ok (.iconst 0, 1) := by decide +kernel
theorem dX3_least_2 : decode cX3_least 2 = .ok (.aload_n 0, 1) := by decide +kernel
theorem dX3_least_3 : decode cX3_least 3 = .ok (.getfield 55, 3) := by decide +kernel
theorem dX3_least_6 : decode cX3_least 6 = .ok (.iconst 1, 1) := by decide +kernel
theorem dX3_least_7 : decode cX3_least 7 = .ok (.isub, 1) := by decide +kernel
theorem dX3_least_8 : decode cX3_least 8 = .ok (.invokestatic 50, 3) := by decide +kernel
theorem dX3_least_11 : decode cX3_least 11 = .ok (.ifCond .ne 6, 3) := by decide +kernel
theorem dX3_least_14 : decode cX3_least 14 = .ok (.ldc 54, 2) := by decide +kernel
theorem dX3_least_16 : decode cX3_least 16 = .ok (.ireturn, 1) := by decide +kernel
theorem dX3_least_17 : decode cX3_least 17 = .ok (.aload_n 0, 1) := by decide +kernel
theorem dX3_least_18 : decode cX3_least 18 = .ok (.invokevirtual 103, 3) := by decide +kernel
theorem dX3_least_21 : decode cX3_least 21 = .ok (.istore_n 2, 1) := by decide +kernel
theorem dX3_least_22 : decode cX3_least 22 = .ok (.iload_n 2, 1) := by decide +kernel
theorem dX3_least_23 : decode cX3_least 23 = .ok (.ifCond .ge 5, 3) := by decide +kernel
theorem dX3_least_26 : decode cX3_least 26 = .ok (.iload_n 2, 1) := by decide +kernel
theorem dX3_least_27 : decode cX3_least 27 = .ok (.ireturn, 1) := by decide +kernel
theorem dX3_least_28 : decode cX3_least 28 = .ok (.aload_n 0, 1) := by decide +kernel
theorem dX3_least_29 : decode cX3_least 29 = .ok (.iconst 0, 1) := by decide +kernel
theorem dX3_least_30 : decode cX3_least 30 = .ok (.invokevirtual 91, 3) := by decide +kernel
theorem dX3_least_33 : decode cX3_least 33 = .ok (.pop, 1) := by decide +kernel
theorem dX3_least_34 : decode cX3_least 34 = .ok (.aload_n 0, 1) := by decide +kernel
theorem dX3_least_35 : decode cX3_least 35 = .ok (.iload_n 1, 1) := by decide +kernel
theorem dX3_least_36 : decode cX3_least 36 = .ok (.invokevirtual 106, 3) := by decide +kernel
theorem dX3_least_39 : decode cX3_least 39 = .ok (.ifCond .eq 36, 3) := by decide +kernel
theorem dX3_least_42 : decode cX3_least 42 = .ok (.aload_n 0, 1) := by decide +kernel
theorem dX3_least_43 : decode cX3_least 43 = .ok (.getfield 25, 3) := by decide +kernel
theorem dX3_least_46 : decode cX3_least 46 = .ok (.iload_n 1, 1) := by decide +kernel
theorem dX3_least_47 : decode cX3_least 47 = .ok (.iaload, 1) := by decide +kernel
theorem dX3_least_48 : decode cX3_least 48 = .ok (.aload_n 0, 1) := by decide +kernel
theorem dX3_least_49 : decode cX3_least 49 = .ok (.iload_n 1, 1) := by decide +kernel
theorem dX3_least_50 : decode cX3_least 50 = .ok (.aload_n 0, 1) := by decide +kernel
theorem dX3_least_51 : decode cX3_least 51 = .ok (.getfield 7, 3) := by decide +kernel
theorem dX3_least_54 : decode cX3_least 54 = .ok (.iload_n 1, 1) := by decide +kernel
theorem dX3_least_55 : decode cX3_least 55 = .ok (.iaload, 1) := by decide +kernel
theorem dX3_least_56 : decode cX3_least 56 = .ok (.aload_n 0, 1) := by decide +kernel
theorem dX3_least_57 : decode cX3_least 57 = .ok (.getfield 13, 3) := by decide +kernel
theorem dX3_least_60 : decode cX3_least 60 = .ok (.iload_n 1, 1) := by decide +kernel
theorem dX3_least_61 : decode cX3_least 61 = .ok (.iaload, 1) := by decide +kernel
theorem dX3_least_62 : decode cX3_least 62 = .ok (.aload_n 0, 1) := by decide +kernel
theorem dX3_least_63 : decode cX3_least 63 = .ok (.getfield 25, 3) := by decide +kernel
theorem dX3_least_66 : decode cX3_least 66 = .ok (.iload_n 1, 1) := by decide +kernel
theorem dX3_least_67 : decode cX3_least 67 = .ok (.iaload, 1) := by decide +kernel
theorem dX3_least_68 : decode cX3_least 68 = .ok (.invokevirtual 110, 3) := by decide +kernel
theorem dX3_least_71 : decode cX3_least 71 = .ok (.isub, 1) := by decide +kernel
theorem dX3_least_72 : decode cX3_least 72 = .ok (.goto 9, 3) := by decide +kernel
theorem dX3_least_75 : decode cX3_least 75 = .ok (.aload_n 0, 1) := by decide +kernel
theorem dX3_least_76 : decode cX3_least 76 = .ok (.getfield 25, 3) := by decide +kernel
theorem dX3_least_79 : decode cX3_least 79 = .ok (.iload_n 1, 1) := by decide +kernel
theorem dX3_least_80 : decode cX3_least 80 = .ok (.iaload, 1) := by decide +kernel
theorem dX3_least_81 : decode cX3_least 81 = .ok (.ireturn, 1) := by decide +kernel
set_option maxRecDepth 20000 in
theorem ggX3_mostOf_X3_findRound : GoodIn wsX3_mostOf wsX3_findRound := goodIn_r _ [11, 12, 13, 6, 14, 4, 15, 1, 3, 16, 2, 43, 44, 45, 46, 47, 48, 49, 50, 51, 52, 53, 54, 55, 56, 57, 58] (by decide +kernel) (by decide +kernel)
set_option maxRecDepth 20000 in
theorem gX3_mostOf_X3_findRound : GoodIn wsX3_mostOf (wsV RX3 91 RX3 yX3_findRound wsX3_findRound) := goodIn_app (goodIn_of _ (by decide +kernel)) ggX3_mostOf_X3_findRound
set_option maxRecDepth 20000 in
theorem ggX3_mostOf_X3_isFree : GoodIn wsX3_mostOf wsX3_isFree := goodIn_r _ [20, 16, 12, 3, 2, 43, 44, 45, 46, 47, 48, 49, 50, 51, 52, 53, 54, 55, 56, 57, 58] (by decide +kernel) (by decide +kernel)
set_option maxRecDepth 20000 in
theorem gX3_mostOf_X3_isFree : GoodIn wsX3_mostOf (wsV RX3 106 RX3 yX3_isFree wsX3_isFree) := goodIn_app (goodIn_of _ (by decide +kernel)) ggX3_mostOf_X3_isFree
set_option maxRecDepth 20000 in
theorem ggX3_mostOf_X3_room : GoodIn wsX3_mostOf wsX3_room := goodIn_r _ [24, 14, 25, 26, 6, 27, 1, 7, 8, 9, 10, 11, 12, 13, 4, 15, 3, 16, 2, 17, 18, 19, 20, 28, 29, 30, 31, 32, 33, 34, 35, 36, 37, 38, 39, 40, 41, 42, 43, 44, 45, 46, 47, 48, 49, 50, 51, 52, 53, 54, 55, 56, 57, 58] (by decide +kernel) (by decide +kernel)
set_option maxRecDepth 20000 in
theorem gX3_mostOf_X3_room : GoodIn wsX3_mostOf (wsV RX3 110 RX3 yX3_room wsX3_room) := goodIn_app (goodIn_of _ (by decide +kernel)) ggX3_mostOf_X3_room
theorem dX3_mostOf_0 : decode cX3_mostOf 0 = .ok (.aload_n 0, 1) := by decide +kernel
theorem dX3_mostOf_1 : decode cX3_mostOf 1 = .ok (.iconst 0, 1) := by decide +kernel
theorem dX3_mostOf_2 : decode cX3_mostOf 2 = .ok (.invokevirtual 91, 3) := by decide +kernel
theorem dX3_mostOf_5 : decode cX3_mostOf 5 = .ok (.pop, 1) := by decide +kernel
theorem dX3_mostOf_6 : decode cX3_mostOf 6 = .ok (.aload_n 0, 1) := by decide +kernel
theorem dX3_mostOf_7 : decode cX3_mostOf 7 = .ok (.iload_n 1, 1) := by decide +kernel
theorem dX3_mostOf_8 : decode cX3_mostOf 8 = .ok (.invokevirtual 106, 3) := by decide +kernel
theorem dX3_mostOf_11 : decode cX3_mostOf 11 = .ok (.ifCond .ne 10, 3) := by decide +kernel
theorem dX3_mostOf_14 : decode cX3_mostOf 14 = .ok (.aload_n 0, 1) := by decide +kernel
theorem dX3_mostOf_15 : decode cX3_mostOf 15 = .ok (.getfield 25, 3) := by decide +kernel
theorem dX3_mostOf_18 : decode cX3_mostOf 18 = .ok (.iload_n 1, 1) := by decide +kernel
theorem dX3_mostOf_19 : decode cX3_mostOf 19 = .ok (.iaload, 1) := by decide +kernel
theorem dX3_mostOf_20 : decode cX3_mostOf 20 = .ok (.ireturn, 1) := by decide +kernel
theorem dX3_mostOf_21 : decode cX3_mostOf 21 = .ok (.aload_n 0, 1) := by decide +kernel
theorem dX3_mostOf_22 : decode cX3_mostOf 22 = .ok (.iload_n 1, 1) := by decide +kernel
theorem dX3_mostOf_23 : decode cX3_mostOf 23 = .ok (.aload_n 0, 1) := by decide +kernel
theorem dX3_mostOf_24 : decode cX3_mostOf 24 = .ok (.getfield 13, 3) := by decide +kernel
theorem dX3_mostOf_27 : decode cX3_mostOf 27 = .ok (.iload_n 1, 1) := by decide +kernel
theorem dX3_mostOf_28 : decode cX3_mostOf 28 = .ok (.iaload, 1) := by decide +kernel
theorem dX3_mostOf_29 : decode cX3_mostOf 29 = .ok (.aload_n 0, 1) := by decide +kernel
theorem dX3_mostOf_30 : decode cX3_mostOf 30 = .ok (.getfield 7, 3) := by decide +kernel
theorem dX3_mostOf_33 : decode cX3_mostOf 33 = .ok (.iload_n 1, 1) := by decide +kernel
theorem dX3_mostOf_34 : decode cX3_mostOf 34 = .ok (.iaload, 1) := by decide +kernel
theorem dX3_mostOf_35 : decode cX3_mostOf 35 = .ok (.aload_n 0, 1) := by decide +kernel
theorem dX3_mostOf_36 : decode cX3_mostOf 36 = .ok (.getfield 16, 3) := by decide +kernel
theorem dX3_mostOf_39 : decode cX3_mostOf 39 = .ok (.iload_n 1, 1) := by decide +kernel
theorem dX3_mostOf_40 : decode cX3_mostOf 40 = .ok (.iaload, 1) := by decide +kernel
theorem dX3_mostOf_41 : decode cX3_mostOf 41 = .ok (.aload_n 0, 1) := by decide +kernel
theorem dX3_mostOf_42 : decode cX3_mostOf 42 = .ok (.getfield 25, 3) := by decide +kernel
theorem dX3_mostOf_45 : decode cX3_mostOf 45 = .ok (.iload_n 1, 1) := by decide +kernel
theorem dX3_mostOf_46 : decode cX3_mostOf 46 = .ok (.iaload, 1) := by decide +kernel
theorem dX3_mostOf_47 : decode cX3_mostOf 47 = .ok (.isub, 1) := by decide +kernel
theorem dX3_mostOf_48 : decode cX3_mostOf 48 = .ok (.invokevirtual 110, 3) := by decide +kernel
theorem dX3_mostOf_51 : decode cX3_mostOf 51 = .ok (.istore_n 2, 1) := by decide +kernel
theorem dX3_mostOf_52 : decode cX3_mostOf 52 = .ok (.iload_n 2, 1) := by decide +kernel
theorem dX3_mostOf_53 : decode cX3_mostOf 53 = .ok (.ldc 85, 2) := by decide +kernel
theorem dX3_mostOf_55 : decode cX3_mostOf 55 = .ok (.if_icmp .lt 8, 3) := by decide +kernel
theorem dX3_mostOf_58 : decode cX3_mostOf 58 = .ok (.ldc 84, 2) := by decide +kernel
theorem dX3_mostOf_60 : decode cX3_mostOf 60 = .ok (.goto 11, 3) := by decide +kernel
theorem dX3_mostOf_63 : decode cX3_mostOf 63 = .ok (.aload_n 0, 1) := by decide +kernel
theorem dX3_mostOf_64 : decode cX3_mostOf 64 = .ok (.getfield 25, 3) := by decide +kernel
theorem dX3_mostOf_67 : decode cX3_mostOf 67 = .ok (.iload_n 1, 1) := by decide +kernel
theorem dX3_mostOf_68 : decode cX3_mostOf 68 = .ok (.iaload, 1) := by decide +kernel
theorem dX3_mostOf_69 : decode cX3_mostOf 69 = .ok (.iload_n 2, 1) := by decide +kernel
theorem dX3_mostOf_70 : decode cX3_mostOf 70 = .ok (.iadd, 1) := by decide +kernel
theorem dX3_mostOf_71 : decode cX3_mostOf 71 = .ok (.ireturn, 1) := by decide +kernel
set_option maxRecDepth 20000 in
theorem ggX3_most_X3_in : GoodIn wsX3_most wsX3_in := goodIn_r _ [6] (by decide +kernel) (by decide +kernel)
set_option maxRecDepth 20000 in
theorem gX3_most_X3_in : GoodIn wsX3_most (va_wsS RX3 50 yX3_in wsX3_in) := goodIn_app (goodIn_of _ (by decide +kernel)) ggX3_most_X3_in
set_option maxRecDepth 20000 in
theorem ggX3_most_X3_solve : GoodIn wsX3_most wsX3_solve := goodIn_r _ [10, 11, 12, 13, 14, 15, 1, 16, 17, 18, 19, 20, 5, 21, 22, 23, 24, 25, 26, 27, 28, 29, 30, 31, 32, 33, 34, 35, 36, 37, 38, 39, 40, 41, 42, 43, 44, 45, 46, 47, 48, 49, 50, 51, 52, 53, 54, 55, 56, 57, 58, 59, 60, 75, 76, 77, 78, 79, 80, 81, 82, 83, 84, 85, 86, 87, 88, 89, 90] (by decide +kernel) (by decide +kernel)
set_option maxRecDepth 20000 in
theorem gX3_most_X3_solve : GoodIn wsX3_most (wsV RX3 103 RX3 yX3_solve wsX3_solve) := goodIn_app (goodIn_of _ (by decide +kernel)) ggX3_most_X3_solve
set_option maxRecDepth 20000 in
theorem ggX3_most_X3_mostOf : GoodIn wsX3_most wsX3_mostOf := goodIn_r _ [64, 16, 30, 29, 31, 65, 13, 47, 48, 49, 5, 50, 51, 52, 1, 24, 17, 66, 67, 68, 69, 70, 71, 72, 73, 22, 23, 74, 32, 33, 34, 35, 36, 37, 38, 39, 40, 41, 42, 43, 44, 45, 46, 75, 76, 77, 78, 79, 80, 81, 82, 83, 84, 85, 86, 87, 88, 89, 90] (by decide +kernel) (by decide +kernel)
set_option maxRecDepth 20000 in
theorem gX3_most_X3_mostOf : GoodIn wsX3_most (wsV RX3 114 RX3 yX3_mostOf wsX3_mostOf) := goodIn_app (goodIn_of _ (by decide +kernel)) ggX3_most_X3_mostOf
theorem dX3_most_0 : decode cX3_most 0 = .ok (.iload_n 1, 1) := by decide +kernel
theorem dX3_most_1 : decode cX3_most 1 = .ok (.iconst 0, 1) := by decide +kernel
theorem dX3_most_2 : decode cX3_most 2 = .ok (.aload_n 0, 1) := by decide +kernel
theorem dX3_most_3 : decode cX3_most 3 = .ok (.getfield 55, 3) := by decide +kernel
theorem dX3_most_6 : decode cX3_most 6 = .ok (.iconst 1, 1) := by decide +kernel
theorem dX3_most_7 : decode cX3_most 7 = .ok (.isub, 1) := by decide +kernel
theorem dX3_most_8 : decode cX3_most 8 = .ok (.invokestatic 50, 3) := by decide +kernel
theorem dX3_most_11 : decode cX3_most 11 = .ok (.ifCond .ne 6, 3) := by decide +kernel
theorem dX3_most_14 : decode cX3_most 14 = .ok (.ldc 54, 2) := by decide +kernel
theorem dX3_most_16 : decode cX3_most 16 = .ok (.ireturn, 1) := by decide +kernel
theorem dX3_most_17 : decode cX3_most 17 = .ok (.aload_n 0, 1) := by decide +kernel
theorem dX3_most_18 : decode cX3_most 18 = .ok (.invokevirtual 103, 3) := by decide +kernel
theorem dX3_most_21 : decode cX3_most 21 = .ok (.istore_n 2, 1) := by decide +kernel
theorem dX3_most_22 : decode cX3_most 22 = .ok (.iload_n 2, 1) := by decide +kernel
theorem dX3_most_23 : decode cX3_most 23 = .ok (.ifCond .ge 7, 3) := by decide +kernel
theorem dX3_most_26 : decode cX3_most 26 = .ok (.iload_n 2, 1) := by decide +kernel
theorem dX3_most_27 : decode cX3_most 27 = .ok (.goto 8, 3) := by decide +kernel
theorem dX3_most_30 : decode cX3_most 30 = .ok (.aload_n 0, 1) := by decide +kernel
theorem dX3_most_31 : decode cX3_most 31 = .ok (.iload_n 1, 1) := by decide +kernel
theorem dX3_most_32 : decode cX3_most 32 = .ok (.invokevirtual 114, 3) := by decide +kernel
theorem dX3_most_35 : decode cX3_most 35 = .ok (.ireturn, 1) := by decide +kernel
set_option maxRecDepth 20000 in
theorem ggX3_slack_X3_in : GoodIn wsX3_slack wsX3_in := goodIn_r _ [9] (by decide +kernel) (by decide +kernel)
set_option maxRecDepth 20000 in
theorem gX3_slack_X3_in : GoodIn wsX3_slack (va_wsS RX3 50 yX3_in wsX3_in) := goodIn_app (goodIn_of _ (by decide +kernel)) ggX3_slack_X3_in
set_option maxRecDepth 20000 in
theorem ggX3_slack_X3_solve : GoodIn wsX3_slack wsX3_solve := goodIn_r _ [13, 14, 15, 5, 16, 3, 1, 17, 4, 18, 19, 20, 8, 21, 22, 23, 24, 25, 26, 27, 28, 29, 30, 31, 32, 33, 34, 35, 36, 37, 38, 39, 40, 41, 42, 43, 44, 45, 46, 47, 48, 49, 50, 51, 52, 53, 54, 55, 56, 57, 58, 59, 60, 75, 76, 77, 78, 79, 80, 81, 82, 83, 84, 85, 86, 87, 88, 89, 90] (by decide +kernel) (by decide +kernel)
set_option maxRecDepth 20000 in
theorem gX3_slack_X3_solve : GoodIn wsX3_slack (wsV RX3 103 RX3 yX3_solve wsX3_solve) := goodIn_app (goodIn_of _ (by decide +kernel)) ggX3_slack_X3_solve
set_option maxRecDepth 20000 in
theorem ggX3_slack_X3_mostOf : GoodIn wsX3_slack wsX3_mostOf := goodIn_r _ [64, 17, 30, 29, 31, 65, 5, 47, 48, 49, 8, 50, 51, 52, 1, 24, 4, 66, 67, 68, 69, 70, 71, 72, 73, 22, 23, 74, 32, 33, 34, 35, 36, 37, 38, 39, 40, 41, 42, 43, 44, 45, 46, 75, 76, 77, 78, 79, 80, 81, 82, 83, 84, 85, 86, 87, 88, 89, 90] (by decide +kernel) (by decide +kernel)
set_option maxRecDepth 20000 in
theorem gX3_slack_X3_mostOf : GoodIn wsX3_slack (wsV RX3 114 RX3 yX3_mostOf wsX3_mostOf) := goodIn_app (goodIn_of _ (by decide +kernel)) ggX3_slack_X3_mostOf
theorem dX3_slack_0 : decode cX3_slack 0 = .ok (.iload_n 1, 1) := by decide +kernel
theorem dX3_slack_1 : decode cX3_slack 1 = .ok (.iconst 0, 1) := by decide +kernel
theorem dX3_slack_2 : decode cX3_slack 2 = .ok (.aload_n 0, 1) := by decide +kernel
theorem dX3_slack_3 : decode cX3_slack 3 = .ok (.getfield 55, 3) := by decide +kernel
theorem dX3_slack_6 : decode cX3_slack 6 = .ok (.iconst 1, 1) := by decide +kernel
theorem dX3_slack_7 : decode cX3_slack 7 = .ok (.isub, 1) := by decide +kernel
theorem dX3_slack_8 : decode cX3_slack 8 = .ok (.invokestatic 50, 3) := by decide +kernel
theorem dX3_slack_11 : decode cX3_slack 11 = .ok (.ifCond .ne 6, 3) := by decide +kernel
theorem dX3_slack_14 : decode cX3_slack 14 = .ok (.ldc 54, 2) := by decide +kernel
theorem dX3_slack_16 : decode cX3_slack 16 = .ok (.ireturn, 1) := by decide +kernel
theorem dX3_slack_17 : decode cX3_slack 17 = .ok (.aload_n 0, 1) := by decide +kernel
theorem dX3_slack_18 : decode cX3_slack 18 = .ok (.invokevirtual 103, 3) := by decide +kernel
theorem dX3_slack_21 : decode cX3_slack 21 = .ok (.istore_n 2, 1) := by decide +kernel
theorem dX3_slack_22 : decode cX3_slack 22 = .ok (.iload_n 2, 1) := by decide +kernel
theorem dX3_slack_23 : decode cX3_slack 23 = .ok (.ifCond .ge 5, 3) := by decide +kernel
theorem dX3_slack_26 : decode cX3_slack 26 = .ok (.iload_n 2, 1) := by decide +kernel
theorem dX3_slack_27 : decode cX3_slack 27 = .ok (.ireturn, 1) := by decide +kernel
theorem dX3_slack_28 : decode cX3_slack 28 = .ok (.aload_n 0, 1) := by decide +kernel
theorem dX3_slack_29 : decode cX3_slack 29 = .ok (.getfield 100, 3) := by decide +kernel
theorem dX3_slack_32 : decode cX3_slack 32 = .ok (.istore_n 3, 1) := by decide +kernel
theorem dX3_slack_33 : decode cX3_slack 33 = .ok (.aload_n 0, 1) := by decide +kernel
theorem dX3_slack_34 : decode cX3_slack 34 = .ok (.iload_n 1, 1) := by decide +kernel
theorem dX3_slack_35 : decode cX3_slack 35 = .ok (.invokevirtual 114, 3) := by decide +kernel
theorem dX3_slack_38 : decode cX3_slack 38 = .ok (.istore 4, 2) := by decide +kernel
theorem dX3_slack_40 : decode cX3_slack 40 = .ok (.aload_n 0, 1) := by decide +kernel
theorem dX3_slack_41 : decode cX3_slack 41 = .ok (.getfield 19, 3) := by decide +kernel
theorem dX3_slack_44 : decode cX3_slack 44 = .ok (.iload_n 1, 1) := by decide +kernel
theorem dX3_slack_45 : decode cX3_slack 45 = .ok (.iaload, 1) := by decide +kernel
theorem dX3_slack_46 : decode cX3_slack 46 = .ok (.istore 5, 2) := by decide +kernel
theorem dX3_slack_48 : decode cX3_slack 48 = .ok (.iconst 0, 1) := by decide +kernel
theorem dX3_slack_49 : decode cX3_slack 49 = .ok (.istore 6, 2) := by decide +kernel
theorem dX3_slack_51 : decode cX3_slack 51 = .ok (.bipush 40, 2) := by decide +kernel
theorem dX3_slack_53 : decode cX3_slack 53 = .ok (.istore 7, 2) := by decide +kernel
theorem dX3_slack_55 : decode cX3_slack 55 = .ok (.iload 7, 2) := by decide +kernel
theorem dX3_slack_57 : decode cX3_slack 57 = .ok (.ifCond .le 61, 3) := by decide +kernel
theorem dX3_slack_60 : decode cX3_slack 60 = .ok (.iload 6, 2) := by decide +kernel
theorem dX3_slack_62 : decode cX3_slack 62 = .ok (.ifCond .ne 56, 3) := by decide +kernel
theorem dX3_slack_65 : decode cX3_slack 65 = .ok (.iload 4, 2) := by decide +kernel
theorem dX3_slack_67 : decode cX3_slack 67 = .ok (.ldc 84, 2) := by decide +kernel
theorem dX3_slack_69 : decode cX3_slack 69 = .ok (.if_icmp .eq 49, 3) := by decide +kernel
theorem dX3_slack_72 : decode cX3_slack 72 = .ok (.aload_n 0, 1) := by decide +kernel
theorem dX3_slack_73 : decode cX3_slack 73 = .ok (.getfield 19, 3) := by decide +kernel
theorem dX3_slack_76 : decode cX3_slack 76 = .ok (.iload_n 1, 1) := by decide +kernel
theorem dX3_slack_77 : decode cX3_slack 77 = .ok (.iload 5, 2) := by decide +kernel
theorem dX3_slack_79 : decode cX3_slack 79 = .ok (.iload 7, 2) := by decide +kernel
theorem dX3_slack_81 : decode cX3_slack 81 = .ok (.isub, 1) := by decide +kernel
theorem dX3_slack_82 : decode cX3_slack 82 = .ok (.iastore, 1) := by decide +kernel
theorem dX3_slack_83 : decode cX3_slack 83 = .ok (.aload_n 0, 1) := by decide +kernel
theorem dX3_slack_84 : decode cX3_slack 84 = .ok (.invokevirtual 103, 3) := by decide +kernel
theorem dX3_slack_87 : decode cX3_slack 87 = .ok (.ifCond .ne 22, 3) := by decide +kernel
theorem dX3_slack_90 : decode cX3_slack 90 = .ok (.aload_n 0, 1) := by decide +kernel
theorem dX3_slack_91 : decode cX3_slack 91 = .ok (.getfield 100, 3) := by decide +kernel
theorem dX3_slack_94 : decode cX3_slack 94 = .ok (.iload_n 3, 1) := by decide +kernel
theorem dX3_slack_95 : decode cX3_slack 95 = .ok (.iload 7, 2) := by decide +kernel
theorem dX3_slack_97 : decode cX3_slack 97 = .ok (.iload 4, 2) := by decide +kernel
theorem dX3_slack_99 : decode cX3_slack 99 = .ok (.imul, 1) := by decide +kernel
theorem dX3_slack_100 : decode cX3_slack 100 = .ok (.isub, 1) := by decide +kernel
theorem dX3_slack_101 : decode cX3_slack 101 = .ok (.if_icmp .ne 8, 3) := by decide +kernel
theorem dX3_slack_104 : decode cX3_slack 104 = .ok (.iload 7, 2) := by decide +kernel
theorem dX3_slack_106 : decode cX3_slack 106 = .ok (.goto 4, 3) := by decide +kernel
theorem dX3_slack_109 : decode cX3_slack 109 = .ok (.iconst 0, 1) := by decide +kernel
theorem dX3_slack_110 : decode cX3_slack 110 = .ok (.istore 6, 2) := by decide +kernel
theorem dX3_slack_112 : decode cX3_slack 112 = .ok (.iinc 7 (-1), 3) := by decide +kernel
theorem dX3_slack_115 : decode cX3_slack 115 = .ok (.goto (-60), 3) := by decide +kernel
theorem dX3_slack_118 : decode cX3_slack 118 = .ok (.aload_n 0, 1) := by decide +kernel
theorem dX3_slack_119 : decode cX3_slack 119 = .ok (.getfield 19, 3) := by decide +kernel
theorem dX3_slack_122 : decode cX3_slack 122 = .ok (.iload_n 1, 1) := by decide +kernel
theorem dX3_slack_123 : decode cX3_slack 123 = .ok (.iload 5, 2) := by decide +kernel
theorem dX3_slack_125 : decode cX3_slack 125 = .ok (.iastore, 1) := by decide +kernel
theorem dX3_slack_126 : decode cX3_slack 126 = .ok (.iload 6, 2) := by decide +kernel
theorem dX3_slack_128 : decode cX3_slack 128 = .ok (.ireturn, 1) := by decide +kernel
theorem dJ9_max_7cf53_0 : decode cJ9_max_7cf53 0 = .ok (.iload_n 0, 1) := by decide +kernel
theorem dJ9_max_7cf53_1 : decode cJ9_max_7cf53 1 = .ok (.iload_n 1, 1) := by decide +kernel
theorem dJ9_max_7cf53_2 : decode cJ9_max_7cf53 2 = .ok (.if_icmp .lt 7, 3) := by decide +kernel
theorem dJ9_max_7cf53_5 : decode cJ9_max_7cf53 5 = .ok (.iload_n 0, 1) := by decide +kernel
theorem dJ9_max_7cf53_6 : decode cJ9_max_7cf53 6 = .ok (.goto 4, 3) := by decide +kernel
theorem dJ9_max_7cf53_9 : decode cJ9_max_7cf53 9 = .ok (.iload_n 1, 1) := by decide +kernel
theorem dJ9_max_7cf53_10 : decode cJ9_max_7cf53 10 = .ok (.ireturn, 1) := by decide +kernel
theorem dJ9_min_7cf53_0 : decode cJ9_min_7cf53 0 = .ok (.iload_n 0, 1) := by decide +kernel
theorem dJ9_min_7cf53_1 : decode cJ9_min_7cf53 1 = .ok (.iload_n 1, 1) := by decide +kernel
theorem dJ9_min_7cf53_2 : decode cJ9_min_7cf53 2 = .ok (.if_icmp .gt 7, 3) := by decide +kernel
theorem dJ9_min_7cf53_5 : decode cJ9_min_7cf53 5 = .ok (.iload_n 0, 1) := by decide +kernel
theorem dJ9_min_7cf53_6 : decode cJ9_min_7cf53 6 = .ok (.goto 4, 3) := by decide +kernel
theorem dJ9_min_7cf53_9 : decode cJ9_min_7cf53 9 = .ok (.iload_n 1, 1) := by decide +kernel
theorem dJ9_min_7cf53_10 : decode cJ9_min_7cf53 10 = .ok (.ireturn, 1) := by decide +kernel
