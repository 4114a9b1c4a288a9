theorem dX10_cuts_155 : decode cX10_cuts 155 = .ok (.ireturn, 1) := by decide +kernel
theorem dX10_cuts_156 : decode cX10_cuts 156 = .ok (.aload_n 0, 1) := by decide +kernel
theorem dX10_cuts_157 : decode cX10_cuts 157 = .ok (.iload_n 3, 1) := by decide +kernel
theorem dX10_cuts_158 : decode cX10_cuts 158 = .ok (.invokevirtual 282, 3) := by decide +kernel
theorem dX10_cuts_161 : decode cX10_cuts 161 = .ok (.iload_n 3, 1) := by decide +kernel
theorem dX10_cuts_162 : decode cX10_cuts 162 = .ok (.iconst (-1), 1) := by decide +kernel
theorem dX10_cuts_163 : decode cX10_cuts 163 = .ok (.ixor, 1) := by decide +kernel
theorem dX10_cuts_164 : decode cX10_cuts 164 = .ok (.iand, 1) := by decide +kernel
theorem dX10_cuts_165 : decode cX10_cuts 165 = .ok (.istore 5, 2) := by decide +kernel
theorem dX10_cuts_167 : decode cX10_cuts 167 = .ok (.iload 5, 2) := by decide +kernel
theorem dX10_cuts_169 : decode cX10_cuts 169 = .ok (.iload 4, 2) := by decide +kernel
theorem dX10_cuts_171 : decode cX10_cuts 171 = .ok (.iand, 1) := by decide +kernel
theorem dX10_cuts_172 : decode cX10_cuts 172 = .ok (.ifCond .eq 5, 3) := by decide +kernel
theorem dX10_cuts_175 : decode cX10_cuts 175 = .ok (.iconst 1, 1) := by decide +kernel
theorem dX10_cuts_176 : decode cX10_cuts 176 = .ok (.ireturn, 1) := by decide +kernel
theorem dX10_cuts_177 : decode cX10_cuts 177 = .ok (.iconst 0, 1) := by decide +kernel
theorem dX10_cuts_178 : decode cX10_cuts 178 = .ok (.istore 6, 2) := by decide +kernel
theorem dX10_cuts_180 : decode cX10_cuts 180 = .ok (.iconst 0, 1) := by decide +kernel
theorem dX10_cuts_181 : decode cX10_cuts 181 = .ok (.istore 7, 2) := by decide +kernel
theorem dX10_cuts_183 : decode cX10_cuts 183 = .ok (.iconst 0, 1) := by decide +kernel
theorem dX10_cuts_184 : decode cX10_cuts 184 = .ok (.istore 8, 2) := by decide +kernel
theorem dX10_cuts_186 : decode cX10_cuts 186 = .ok (.iload 8, 2) := by decide +kernel
theorem dX10_cuts_188 : decode cX10_cuts 188 = .ok (.bipush 27, 2) := by decide +kernel
theorem dX10_cuts_190 : decode cX10_cuts 190 = .ok (.if_icmp .ge 122, 3) := by decide +kernel
theorem dX10_cuts_193 : decode cX10_cuts 193 = .ok (.iload 5, 2) := by decide +kernel
theorem dX10_cuts_195 : decode cX10_cuts 195 = .ok (.iload 8, 2) := by decide +kernel
theorem dX10_cuts_197 : decode cX10_cuts 197 = .ok (.ishr, 1) := by decide +kernel
theorem dX10_cuts_198 : decode cX10_cuts 198 = .ok (.iconst 1, 1) := by decide +kernel
theorem dX10_cuts_199 : decode cX10_cuts 199 = .ok (.iand, 1) := by decide +kernel
theorem dX10_cuts_200 : decode cX10_cuts 200 = .ok (.ifCond .ne 6, 3) := by decide +kernel
theorem dX10_cuts_203 : decode cX10_cuts 203 = .ok (.goto 103, 3) := by decide +kernel
theorem dX10_cuts_206 : decode cX10_cuts 206 = .ok (.iload_n 3, 1) := by decide +kernel
theorem dX10_cuts_207 : decode cX10_cuts 207 = .ok (.iconst 1, 1) := by decide +kernel
theorem dX10_cuts_208 : decode cX10_cuts 208 = .ok (.iload 8, 2) := by decide +kernel
theorem dX10_cuts_210 : decode cX10_cuts 210 = .ok (.ishl, 1) := by decide +kernel
theorem dX10_cuts_211 : decode cX10_cuts 211 = .ok (.ior, 1) := by decide +kernel
theorem dX10_cuts_212 : decode cX10_cuts 212 = .ok (.istore 9, 2) := by decide +kernel
theorem dX10_cuts_214 : decode cX10_cuts 214 = .ok (.aload_n 0, 1) := by decide +kernel
theorem dX10_cuts_215 : decode cX10_cuts 215 = .ok (.iload 9, 2) := by decide +kernel
theorem dX10_cuts_217 : decode cX10_cuts 217 = .ok (.invokevirtual 282, 3) := by decide +kernel
theorem dX10_cuts_220 : decode cX10_cuts 220 = .ok (.iload 9, 2) := by decide +kernel
theorem dX10_cuts_222 : decode cX10_cuts 222 = .ok (.iconst (-1), 1) := by decide +kernel
theorem dX10_cuts_223 : decode cX10_cuts 223 = .ok (.ixor, 1) := by decide +kernel
theorem dX10_cuts_224 : decode cX10_cuts 224 = .ok (.iand, 1) := by decide +kernel
theorem dX10_cuts_225 : decode cX10_cuts 225 = .ok (.istore 10, 2) := by decide +kernel
theorem dX10_cuts_227 : decode cX10_cuts 227 = .ok (.iload 6, 2) := by decide +kernel
theorem dX10_cuts_229 : decode cX10_cuts 229 = .ok (.iload 10, 2) := by decide +kernel
theorem dX10_cuts_231 : decode cX10_cuts 231 = .ok (.iload 4, 2) := by decide +kernel
theorem dX10_cuts_233 : decode cX10_cuts 233 = .ok (.iand, 1) := by decide +kernel
theorem dX10_cuts_234 : decode cX10_cuts 234 = .ok (.ifCond .eq 7, 3) := by decide +kernel
theorem dX10_cuts_237 : decode cX10_cuts 237 = .ok (.iconst 1, 1) := by decide +kernel
theorem dX10_cuts_238 : decode cX10_cuts 238 = .ok (.goto 4, 3) := by decide +kernel
theorem dX10_cuts_241 : decode cX10_cuts 241 = .ok (.iconst 0, 1) := by decide +kernel
theorem dX10_cuts_242 : decode cX10_cuts 242 = .ok (.ior, 1) := by decide +kernel
theorem dX10_cuts_243 : decode cX10_cuts 243 = .ok (.istore 6, 2) := by decide +kernel
theorem dX10_cuts_245 : decode cX10_cuts 245 = .ok (.iconst 0, 1) := by decide +kernel
theorem dX10_cuts_246 : decode cX10_cuts 246 = .ok (.istore 11, 2) := by decide +kernel
theorem dX10_cuts_248 : decode cX10_cuts 248 = .ok (.iload 11, 2) := by decide +kernel
theorem dX10_cuts_250 : decode cX10_cuts 250 = .ok (.bipush 27, 2) := by decide +kernel
theorem dX10_cuts_252 : decode cX10_cuts 252 = .ok (.if_icmp .ge 54, 3) := by decide +kernel
theorem dX10_cuts_255 : decode cX10_cuts 255 = .ok (.iload 6, 2) := by decide +kernel
theorem dX10_cuts_257 : decode cX10_cuts 257 = .ok (.ifCond .ne 49, 3) := by decide +kernel
theorem dX10_cuts_260 : decode cX10_cuts 260 = .ok (.iload 7, 2) := by decide +kernel
theorem dX10_cuts_262 : decode cX10_cuts 262 = .ok (.ifCond .ne 44, 3) := by decide +kernel
theorem dX10_cuts_265 : decode cX10_cuts 265 = .ok (.iload 10, 2) := by decide +kernel
theorem dX10_cuts_267 : decode cX10_cuts 267 = .ok (.iload 11, 2) := by decide +kernel
theorem dX10_cuts_269 : decode cX10_cuts 269 = .ok (.ishr, 1) := by decide +kernel
theorem dX10_cuts_270 : decode cX10_cuts 270 = .ok (.iconst 1, 1) := by decide +kernel
theorem dX10_cuts_271 : decode cX10_cuts 271 = .ok (.iand, 1) := by decide +kernel
theorem dX10_cuts_272 : decode cX10_cuts 272 = .ok (.iconst 1, 1) := by decide +kernel
theorem dX10_cuts_273 : decode cX10_cuts 273 = .ok (.if_icmp .ne 24, 3) := by decide +kernel
theorem dX10_cuts_276 : decode cX10_cuts 276 = .ok (.aload_n 0, 1) := by decide +kernel
theorem dX10_cuts_277 : decode cX10_cuts 277 = .ok (.iload 9, 2) := by decide +kernel
theorem dX10_cuts_279 : decode cX10_cuts 279 = .ok (.iconst 1, 1) := by decide +kernel
theorem dX10_cuts_280 : decode cX10_cuts 280 = .ok (.iload 11, 2) := by decide +kernel
theorem dX10_cuts_282 : decode cX10_cuts 282 = .ok (.ishl, 1) := by decide +kernel
theorem dX10_cuts_283 : decode cX10_cuts 283 = .ok (.ior, 1) := by decide +kernel
theorem dX10_cuts_284 : decode cX10_cuts 284 = .ok (.invokevirtual 282, 3) := by decide +kernel
theorem dX10_cuts_287 : decode cX10_cuts 287 = .ok (.iload 4, 2) := by decide +kernel
theorem dX10_cuts_289 : decode cX10_cuts 289 = .ok (.iand, 1) := by decide +kernel
theorem dX10_cuts_290 : decode cX10_cuts 290 = .ok (.ifCond .eq 7, 3) := by decide +kernel
theorem dX10_cuts_293 : decode cX10_cuts 293 = .ok (.iconst 1, 1) := by decide +kernel
theorem dX10_cuts_294 : decode cX10_cuts 294 = .ok (.goto 4, 3) := by decide +kernel
theorem dX10_cuts_297 : decode cX10_cuts 297 = .ok (.iconst 0, 1) := by decide +kernel
theorem dX10_cuts_298 : decode cX10_cuts 298 = .ok (.istore 7, 2) := by decide +kernel
theorem dX10_cuts_300 : decode cX10_cuts 300 = .ok (.iinc 11 1, 3) := by decide +kernel
theorem dX10_cuts_303 : decode cX10_cuts 303 = .ok (.goto (-55), 3) := by decide +kernel
theorem dX10_cuts_306 : decode cX10_cuts 306 = .ok (.iinc 8 1, 3) := by decide +kernel
theorem dX10_cuts_309 : decode cX10_cuts 309 = .ok (.goto (-123), 3) := by decide +kernel
theorem dX10_cuts_312 : decode cX10_cuts 312 = .ok (.iload 6, 2) := by decide +kernel
theorem dX10_cuts_314 : decode cX10_cuts 314 = .ok (.ifCond .eq 7, 3) := by decide +kernel
theorem dX10_cuts_317 : decode cX10_cuts 317 = .ok (.iconst 2, 1) := by decide +kernel
theorem dX10_cuts_318 : decode cX10_cuts 318 = .ok (.goto 14, 3) := by decide +kernel
theorem dX10_cuts_321 : decode cX10_cuts 321 = .ok (.iload 7, 2) := by decide +kernel
theorem dX10_cuts_323 : decode cX10_cuts 323 = .ok (.ifCond .eq 7, 3) := by decide +kernel
theorem dX10_cuts_326 : decode cX10_cuts 326 = .ok (.iconst 3, 1) := by decide +kernel
theorem dX10_cuts_327 : decode cX10_cuts 327 = .ok (.goto 5, 3) := by decide +kernel
theorem dX10_cuts_330 : decode cX10_cuts 330 = .ok (.bipush (-9), 2) := by decide +kernel
theorem dX10_cuts_332 : decode cX10_cuts 332 = .ok (.ireturn, 1) := by decide +kernel
set_option maxRecDepth 20000 in
theorem ggX10_units_X10_isProof : GoodIn wsX10_units wsX10_isProof := goodIn_r _ [8, 9, 19, 20, 21, 22, 23, 24, 25, 26, 27, 28, 29, 30, 31, 32, 33, 34, 35, 36, 37, 38, 39, 40, 41, 42, 43, 44, 45, 46, 47, 48, 49, 50] (by decide +kernel) (by decide +kernel)
set_option maxRecDepth 20000 in
theorem gX10_units_X10_isProof : GoodIn wsX10_units (wsV RX10 111 RX10 yX10_isProof wsX10_isProof) := goodIn_app (goodIn_of _ (by decide +kernel)) ggX10_units_X10_isProof
set_option maxRecDepth 20000 in
theorem ggX10_units_X10_isClause : GoodIn wsX10_units wsX10_isClause := goodIn_r _ [12, 13, 14, 7, 15] (by decide +kernel) (by decide +kernel)
set_option maxRecDepth 20000 in
theorem gX10_units_X10_isClause : GoodIn wsX10_units (va_wsS RX10 96 yX10_isClause wsX10_isClause) := goodIn_app (goodIn_of _ (by decide +kernel)) ggX10_units_X10_isClause
set_option maxRecDepth 20000 in
theorem ggX10_units_X10_bitsOf : GoodIn wsX10_units wsX10_bitsOf := goodIn_r _ [18] (by decide +kernel) (by decide +kernel)
set_option maxRecDepth 20000 in
theorem gX10_units_X10_bitsOf : GoodIn wsX10_units (va_wsS RX10 173 yX10_bitsOf wsX10_bitsOf) := goodIn_app (goodIn_of _ (by decide +kernel)) ggX10_units_X10_bitsOf
theorem dX10_units_0 : decode cX10_units 0 = .ok (.aload_n 0, 1) := by decide +kernel
theorem dX10_units_1 : decode cX10_units 1 = .ok (.iload_n 1, 1) := by decide +kernel
theorem dX10_units_2 : decode cX10_units 2 = .ok (.invokevirtual 111, 3) := by decide +kernel
theorem dX10_units_5 : decode cX10_units 5 = .ok (.ifCond .ne 5, 3) := by decide +kernel
theorem dX10_units_8 : decode cX10_units 8 = .ok (.iconst (-1), 1) := by decide +kernel
theorem dX10_units_9 : decode cX10_units 9 = .ok (.ireturn, 1) := by decide +kernel
theorem dX10_units_10 : decode cX10_units 10 = .ok (.iload_n 2, 1) := by decide +kernel
theorem dX10_units_11 : decode cX10_units 11 = .ok (.invokestatic 96, 3) := by decide +kernel
theorem dX10_units_14 : decode cX10_units 14 = .ok (.ifCond .ne 6, 3) := by decide +kernel
theorem dX10_units_17 : decode cX10_units 17 = .ok (.bipush (-2), 2) := by decide +kernel
theorem dX10_units_19 : decode cX10_units 19 = .ok (.ireturn, 1) := by decide +kernel
theorem dX10_units_20 : decode cX10_units 20 = .ok (.iload_n 2, 1) := by decide +kernel
theorem dX10_units_21 : decode cX10_units 21 = .ok (.istore_n 3, 1) := by decide +kernel
theorem dX10_units_22 : decode cX10_units 22 = .ok (.iconst 1, 1) := by decide +kernel
theorem dX10_units_23 : decode cX10_units 23 = .ok (.istore 4, 2) := by decide +kernel
theorem dX10_units_25 : decode cX10_units 25 = .ok (.iload 4, 2) := by decide +kernel
theorem dX10_units_27 : decode cX10_units 27 = .ok (.ifCond .eq 119, 3) := by decide +kernel
theorem dX10_units_30 : decode cX10_units 30 = .ok (.iconst 0, 1) := by decide +kernel
theorem dX10_units_31 : decode cX10_units 31 = .ok (.istore 4, 2) := by decide +kernel
theorem dX10_units_33 : decode cX10_units 33 = .ok (.iconst 0, 1) := by decide +kernel
theorem dX10_units_34 : decode cX10_units 34 = .ok (.istore 5, 2) := by decide +kernel
theorem dX10_units_36 : decode cX10_units 36 = .ok (.iload 5, 2) := by decide +kernel
theorem dX10_units_38 : decode cX10_units 38 = .ok (.aload_n 0, 1) := by decide +kernel
theorem dX10_units_39 : decode cX10_units 39 = .ok (.getfield 19, 3) := by decide +kernel
theorem dX10_units_42 : decode cX10_units 42 = .ok (.iload_n 1, 1) := by decide +kernel
theorem dX10_units_43 : decode cX10_units 43 = .ok (.iaload, 1) := by decide +kernel
theorem dX10_units_44 : decode cX10_units 44 = .ok (.if_icmp .ge 99, 3) := by decide +kernel
theorem dX10_units_47 : decode cX10_units 47 = .ok (.bipush 24, 2) := by decide +kernel
theorem dX10_units_49 : decode cX10_units 49 = .ok (.iload_n 1, 1) := by decide +kernel
theorem dX10_units_50 : decode cX10_units 50 = .ok (.imul, 1) := by decide +kernel
theorem dX10_units_51 : decode cX10_units 51 = .ok (.iload 5, 2) := by decide +kernel
theorem dX10_units_53 : decode cX10_units 53 = .ok (.iadd, 1) := by decide +kernel
theorem dX10_units_54 : decode cX10_units 54 = .ok (.istore 6, 2) := by decide +kernel
theorem dX10_units_56 : decode cX10_units 56 = .ok (.aload_n 0, 1) := by decide +kernel
theorem dX10_units_57 : decode cX10_units 57 = .ok (.getfield 31, 3) := by decide +kernel
theorem dX10_units_60 : decode cX10_units 60 = .ok (.iload 6, 2) := by decide +kernel
theorem dX10_units_62 : decode cX10_units 62 = .ok (.iaload, 1) := by decide +kernel
theorem dX10_units_63 : decode cX10_units 63 = .ok (.bipush (-9), 2) := by decide +kernel
theorem dX10_units_65 : decode cX10_units 65 = .ok (.if_icmp .eq 6, 3) := by decide +kernel
theorem dX10_units_68 : decode cX10_units 68 = .ok (.goto 69, 3) := by decide +kernel
theorem dX10_units_71 : decode cX10_units 71 = .ok (.aload_n 0, 1) := by decide +kernel
theorem dX10_units_72 : decode cX10_units 72 = .ok (.getfield 22, 3) := by decide +kernel
theorem dX10_units_75 : decode cX10_units 75 = .ok (.iload 6, 2) := by decide +kernel
theorem dX10_units_77 : decode cX10_units 77 = .ok (.iaload, 1) := by decide +kernel
theorem dX10_units_78 : decode cX10_units 78 = .ok (.iload_n 3, 1) := by decide +kernel
theorem dX10_units_79 : decode cX10_units 79 = .ok (.iconst (-1), 1) := by decide +kernel
theorem dX10_units_80 : decode cX10_units 80 = .ok (.ixor, 1) := by decide +kernel
theorem dX10_units_81 : decode cX10_units 81 = .ok (.iand, 1) := by decide +kernel
theorem dX10_units_82 : decode cX10_units 82 = .ok (.istore 7, 2) := by decide +kernel
theorem dX10_units_84 : decode cX10_units 84 = .ok (.iload 7, 2) := by decide +kernel
theorem dX10_units_86 : decode cX10_units 86 = .ok (.ifCond .ne 5, 3) := by decide +kernel
theorem dX10_units_89 : decode cX10_units 89 = .ok (.iconst 1, 1) := by decide +kernel
theorem dX10_units_90 : decode cX10_units 90 = .ok (.ireturn, 1) := by decide +kernel
theorem dX10_units_91 : decode cX10_units 91 = .ok (.iload 7, 2) := by decide +kernel
theorem dX10_units_93 : decode cX10_units 93 = .ok (.bipush 64, 2) := by decide +kernel
theorem dX10_units_95 : decode cX10_units 95 = .ok (.if_icmp .ge 11, 3) := by decide +kernel
theorem dX10_units_98 : decode cX10_units 98 = .ok (.iload 7, 2) := by decide +kernel
theorem dX10_units_100 : decode cX10_units 100 = .ok (.bipush 6, 2) := by decide +kernel
theorem dX10_units_102 : decode cX10_units 102 = .ok (.ishl, 1) := by decide +kernel
theorem dX10_units_103 : decode cX10_units 103 = .ok (.goto 8, 3) := by decide +kernel
theorem dX10_units_106 : decode cX10_units 106 = .ok (.iload 7, 2) := by decide +kernel
theorem dX10_units_108 : decode cX10_units 108 = .ok (.bipush 6, 2) := by decide +kernel
theorem dX10_units_110 : decode cX10_units 110 = .ok (.ishr, 1) := by decide +kernel
theorem dX10_units_111 : decode cX10_units 111 = .ok (.istore 8, 2) := by decide +kernel
theorem dX10_units_113 : decode cX10_units 113 = .ok (.iload 7, 2) := by decide +kernel
theorem dX10_units_115 : decode cX10_units 115 = .ok (.invokestatic 173, 3) := by decide +kernel
theorem dX10_units_118 : decode cX10_units 118 = .ok (.iconst 1, 1) := by decide +kernel
theorem dX10_units_119 : decode cX10_units 119 = .ok (.if_icmp .ne 18, 3) := by decide +kernel
theorem dX10_units_122 : decode cX10_units 122 = .ok (.iload_n 3, 1) := by decide +kernel
theorem dX10_units_123 : decode cX10_units 123 = .ok (.iload 8, 2) := by decide +kernel
theorem dX10_units_125 : decode cX10_units 125 = .ok (.iand, 1) := by decide +kernel
theorem dX10_units_126 : decode cX10_units 126 = .ok (.ifCond .ne 11, 3) := by decide +kernel
theorem dX10_units_129 : decode cX10_units 129 = .ok (.iload_n 3, 1) := by decide +kernel
theorem dX10_units_130 : decode cX10_units 130 = .ok (.iload 8, 2) := by decide +kernel
theorem dX10_units_132 : decode cX10_units 132 = .ok (.ior, 1) := by decide +kernel
theorem dX10_units_133 : decode cX10_units 133 = .ok (.istore_n 3, 1) := by decide +kernel
theorem dX10_units_134 : decode cX10_units 134 = .ok (.iconst 1, 1) := by decide +kernel
theorem dX10_units_135 : decode cX10_units 135 = .ok (.istore 4, 2) := by decide +kernel
theorem dX10_units_137 : decode cX10_units 137 = .ok (.iinc 5 1, 3) := by decide +kernel
theorem dX10_units_140 : decode cX10_units 140 = .ok (.goto (-104), 3) := by decide +kernel
theorem dX10_units_143 : decode cX10_units 143 = .ok (.goto (-118), 3) := by decide +kernel
theorem dX10_units_146 : decode cX10_units 146 = .ok (.iconst 0, 1) := by decide +kernel
theorem dX10_units_147 : decode cX10_units 147 = .ok (.ireturn, 1) := by decide +kernel
set_option maxRecDepth 20000 in
theorem ggX10_follows_X10_isProof : GoodIn wsX10_follows wsX10_isProof := goodIn_r _ [7, 8, 33, 34, 35, 36, 37, 38, 39, 40, 41, 42, 43, 44, 45, 46, 47, 48, 49, 50, 51, 52, 53, 54, 55, 56, 57, 58, 59, 60, 61, 62, 63, 64] (by decide +kernel) (by decide +kernel)
set_option maxRecDepth 20000 in
theorem gX10_follows_X10_isProof : GoodIn wsX10_follows (wsV RX10 111 RX10 yX10_isProof wsX10_isProof) := goodIn_app (goodIn_of _ (by decide +kernel)) ggX10_follows_X10_isProof
set_option maxRecDepth 20000 in
theorem ggX10_follows_X10_isClause : GoodIn wsX10_follows wsX10_isClause := goodIn_r _ [11, 12, 13, 6, 14] (by decide +kernel) (by decide +kernel)
set_option maxRecDepth 20000 in
theorem gX10_follows_X10_isClause : GoodIn wsX10_follows (va_wsS RX10 96 yX10_isClause wsX10_isClause) := goodIn_app (goodIn_of _ (by decide +kernel)) ggX10_follows_X10_isClause
set_option maxRecDepth 20000 in
theorem ggX10_follows_X10_layGrounds : GoodIn wsX10_follows wsX10_layGrounds := goodIn_r _ [18, 19, 20, 2, 21, 22, 23, 24, 6, 25, 26, 27, 28, 33, 34, 35, 36, 37, 38, 39, 40, 41, 42, 43, 44, 45, 46, 47, 48, 49, 50, 51, 52, 53, 54, 55, 56, 57, 58, 59, 60, 61, 62, 63, 64] (by decide +kernel) (by decide +kernel)
set_option maxRecDepth 20000 in
theorem gX10_follows_X10_layGrounds : GoodIn wsX10_follows (wsV RX10 258 RX10 yX10_layGrounds wsX10_layGrounds) := goodIn_app (goodIn_of _ (by decide +kernel)) ggX10_follows_X10_layGrounds
set_option maxRecDepth 20000 in
theorem ggX10_follows_X10_groundsOf : GoodIn wsX10_follows wsX10_groundsOf := goodIn_r _ [32, 19, 20, 33, 34, 35, 36, 37, 38, 39, 40, 41, 42, 43, 44, 45, 46, 47, 48, 49, 50, 51, 52, 53, 54, 55, 56, 57, 58, 59, 60, 61, 62, 63, 64] (by decide +kernel) (by decide +kernel)
set_option maxRecDepth 20000 in
theorem gX10_follows_X10_groundsOf : GoodIn wsX10_follows (wsV RX10 170 RX10 yX10_groundsOf wsX10_groundsOf) := goodIn_app (goodIn_of _ (by decide +kernel)) ggX10_follows_X10_groundsOf
set_option maxRecDepth 20000 in
theorem ggX10_follows_X10_truthsOf : GoodIn wsX10_follows wsX10_truthsOf := goodIn_r _ [25, 26, 27, 6, 28] (by decide +kernel) (by decide +kernel)
set_option maxRecDepth 20000 in
theorem gX10_follows_X10_truthsOf : GoodIn wsX10_follows (va_wsS RX10 245 yX10_truthsOf wsX10_truthsOf) := goodIn_app (goodIn_of _ (by decide +kernel)) ggX10_follows_X10_truthsOf
theorem dX10_follows_0 : decode cX10_follows 0 = .ok (.aload_n 0, 1) := by decide +kernel
theorem dX10_follows_1 : decode cX10_follows 1 = .ok (.iload_n 1, 1) := by decide +kernel
theorem dX10_follows_2 : decode cX10_follows 2 = .ok (.invokevirtual 111, 3) := by decide +kernel
theorem dX10_follows_5 : decode cX10_follows 5 = .ok (.ifCond .ne 5, 3) := by decide +kernel
theorem dX10_follows_8 : decode cX10_follows 8 = .ok (.iconst (-1), 1) := by decide +kernel
theorem dX10_follows_9 : decode cX10_follows 9 = .ok (.ireturn, 1) := by decide +kernel
theorem dX10_follows_10 : decode cX10_follows 10 = .ok (.iload_n 2, 1) := by decide +kernel
theorem dX10_follows_11 : decode cX10_follows 11 = .ok (.invokestatic 96, 3) := by decide +kernel
theorem dX10_follows_14 : decode cX10_follows 14 = .ok (.ifCond .ne 6, 3) := by decide +kernel
theorem dX10_follows_17 : decode cX10_follows 17 = .ok (.bipush (-2), 2) := by decide +kernel
theorem dX10_follows_19 : decode cX10_follows 19 = .ok (.ireturn, 1) := by decide +kernel
theorem dX10_follows_20 : decode cX10_follows 20 = .ok (.aload_n 0, 1) := by decide +kernel
theorem dX10_follows_21 : decode cX10_follows 21 = .ok (.iload_n 1, 1) := by decide +kernel
theorem dX10_follows_22 : decode cX10_follows 22 = .ok (.invokevirtual 258, 3) := by decide +kernel
theorem dX10_follows_25 : decode cX10_follows 25 = .ok (.ldc2_w 249, 3) := by decide +kernel
theorem dX10_follows_28 : decode cX10_follows 28 = .ok (.lstore_n 3, 1) := by decide +kernel
theorem dX10_follows_29 : decode cX10_follows 29 = .ok (.iconst 0, 1) := by decide +kernel
theorem dX10_follows_30 : decode cX10_follows 30 = .ok (.istore 5, 2) := by decide +kernel
theorem dX10_follows_32 : decode cX10_follows 32 = .ok (.iload 5, 2) := by decide +kernel
theorem dX10_follows_34 : decode cX10_follows 34 = .ok (.aload_n 0, 1) := by decide +kernel
theorem dX10_follows_35 : decode cX10_follows 35 = .ok (.iload_n 1, 1) := by decide +kernel
theorem dX10_follows_36 : decode cX10_follows 36 = .ok (.invokevirtual 170, 3) := by decide +kernel
theorem dX10_follows_39 : decode cX10_follows 39 = .ok (.if_icmp .ge 19, 3) := by decide +kernel
theorem dX10_follows_42 : decode cX10_follows 42 = .ok (.lload_n 3, 1) := by decide +kernel
theorem dX10_follows_43 : decode cX10_follows 43 = .ok (.aload_n 0, 1) := by decide +kernel
theorem dX10_follows_44 : decode cX10_follows 44 = .ok (.getfield 70, 3) := by decide +kernel
theorem dX10_follows_47 : decode cX10_follows 47 = .ok (.iload 5, 2) := by decide +kernel
theorem dX10_follows_49 : decode cX10_follows 49 = .ok (.laload, 1) := by decide +kernel
theorem dX10_follows_50 : decode cX10_follows 50 = .ok (.land, 1) := by decide +kernel
theorem dX10_follows_51 : decode cX10_follows 51 = .ok (.lstore_n 3, 1) := by decide +kernel
theorem dX10_follows_52 : decode cX10_follows 52 = .ok (.iinc 5 1, 3) := by decide +kernel
theorem dX10_follows_55 : decode cX10_follows 55 = .ok (.goto (-23), 3) := by decide +kernel
theorem dX10_follows_58 : decode cX10_follows 58 = .ok (.lload_n 3, 1) := by decide +kernel
theorem dX10_follows_59 : decode cX10_follows 59 = .ok (.iload_n 2, 1) := by decide +kernel
theorem dX10_follows_60 : decode cX10_follows 60 = .ok (.invokestatic 245, 3) := by decide +kernel
theorem dX10_follows_63 : decode cX10_follows 63 = .ok (.ldc2_w 249, 3) := by decide +kernel
theorem dX10_follows_66 : decode cX10_follows 66 = .ok (.lxor, 1) := by decide +kernel
theorem dX10_follows_67 : decode cX10_follows 67 = .ok (.land, 1) := by decide +kernel
theorem dX10_follows_68 : decode cX10_follows 68 = .ok (.lconst 0, 1) := by decide +kernel
theorem dX10_follows_69 : decode cX10_follows 69 = .ok (.lcmp, 1) := by decide +kernel
theorem dX10_follows_70 : decode cX10_follows 70 = .ok (.ifCond .ne 7, 3) := by decide +kernel
theorem dX10_follows_73 : decode cX10_follows 73 = .ok (.iconst 1, 1) := by decide +kernel
theorem dX10_follows_74 : decode cX10_follows 74 = .ok (.goto 4, 3) := by decide +kernel
theorem dX10_follows_77 : decode cX10_follows 77 = .ok (.iconst 0, 1) := by decide +kernel
theorem dX10_follows_78 : decode cX10_follows 78 = .ok (.ireturn, 1) := by decide +kernel
set_option maxRecDepth 20000 in
theorem ggX10_sheet_X10_isSheet : GoodIn wsX10_sheet wsX10_isSheet := goodIn_r _ [8, 9, 10, 7, 11] (by decide +kernel) (by decide +kernel)
set_option maxRecDepth 20000 in
theorem gX10_sheet_X10_isSheet : GoodIn wsX10_sheet (va_wsS RX10 145 yX10_isSheet wsX10_isSheet) := goodIn_app (goodIn_of _ (by decide +kernel)) ggX10_sheet_X10_isSheet
set_option maxRecDepth 20000 in
theorem ggX10_sheet_X10_isLane : GoodIn wsX10_sheet wsX10_isLane := goodIn_r _ [14, 9, 10, 7, 11] (by decide +kernel) (by decide +kernel)
set_option maxRecDepth 20000 in
theorem gX10_sheet_X10_isLane : GoodIn wsX10_sheet (va_wsS RX10 148 yX10_isLane wsX10_isLane) := goodIn_app (goodIn_of _ (by decide +kernel)) ggX10_sheet_X10_isLane
set_option maxRecDepth 20000 in
theorem ggX10_sheet_X10_fails : GoodIn wsX10_sheet wsX10_fails := goodIn_r _ [18, 1, 19, 20, 21, 22, 23, 24, 25, 26, 27, 28, 29, 30, 31, 32, 33, 34, 35, 36, 37, 38, 39, 40, 41, 42, 43, 44, 45, 46, 47, 48, 49, 50] (by decide +kernel) (by decide +kernel)
set_option maxRecDepth 20000 in
theorem gX10_sheet_X10_fails : GoodIn wsX10_sheet (wsV RX10 151 RX10 yX10_fails wsX10_fails) := goodIn_app (goodIn_of _ (by decide +kernel)) ggX10_sheet_X10_fails
theorem dX10_sheet_0 : decode cX10_sheet 0 = .ok (.aload_n 0, 1) := by decide +kernel
theorem dX10_sheet_1 : decode cX10_sheet 1 = .ok (.iconst 0, 1) := by decide +kernel
theorem dX10_sheet_2 : decode cX10_sheet 2 = .ok (.putfield 86, 3) := by decide +kernel
theorem dX10_sheet_5 : decode cX10_sheet 5 = .ok (.iload_n 1, 1) := by decide +kernel
theorem dX10_sheet_6 : decode cX10_sheet 6 = .ok (.invokestatic 145, 3) := by decide +kernel
theorem dX10_sheet_9 : decode cX10_sheet 9 = .ok (.ifCond .ne 5, 3) := by decide +kernel
theorem dX10_sheet_12 : decode cX10_sheet 12 = .ok (.iconst (-1), 1) := by decide +kernel
theorem dX10_sheet_13 : decode cX10_sheet 13 = .ok (.ireturn, 1) := by decide +kernel
theorem dX10_sheet_14 : decode cX10_sheet 14 = .ok (.iload_n 2, 1) := by decide +kernel
theorem dX10_sheet_15 : decode cX10_sheet 15 = .ok (.invokestatic 148, 3) := by decide +kernel
theorem dX10_sheet_18 : decode cX10_sheet 18 = .ok (.ifCond .eq 9, 3) := by decide +kernel
theorem dX10_sheet_21 : decode cX10_sheet 21 = .ok (.iload_n 3, 1) := by decide +kernel
theorem dX10_sheet_22 : decode cX10_sheet 22 = .ok (.bipush 60, 2) := by decide +kernel
theorem dX10_sheet_24 : decode cX10_sheet 24 = .ok (.if_icmp .le 6, 3) := by decide +kernel
theorem dX10_sheet_27 : decode cX10_sheet 27 = .ok (.bipush (-2), 2) := by decide +kernel
theorem dX10_sheet_29 : decode cX10_sheet 29 = .ok (.ireturn, 1) := by decide +kernel
theorem dX10_sheet_30 : decode cX10_sheet 30 = .ok (.iload_n 3, 1) := by decide +kernel
theorem dX10_sheet_31 : decode cX10_sheet 31 = .ok (.ifCond .ge 9, 3) := by decide +kernel
theorem dX10_sheet_34 : decode cX10_sheet 34 = .ok (.aload_n 0, 1) := by decide +kernel
theorem dX10_sheet_35 : decode cX10_sheet 35 = .ok (.iconst 4, 1) := by decide +kernel
theorem dX10_sheet_36 : decode cX10_sheet 36 = .ok (.invokevirtual 151, 3) := by decide +kernel
theorem dX10_sheet_39 : decode cX10_sheet 39 = .ok (.ireturn, 1) := by decide +kernel
theorem dX10_sheet_40 : decode cX10_sheet 40 = .ok (.aload_n 0, 1) := by decide +kernel
theorem dX10_sheet_41 : decode cX10_sheet 41 = .ok (.getfield 9, 3) := by decide +kernel
theorem dX10_sheet_44 : decode cX10_sheet 44 = .ok (.iload_n 1, 1) := by decide +kernel
theorem dX10_sheet_45 : decode cX10_sheet 45 = .ok (.iload_n 2, 1) := by decide +kernel
theorem dX10_sheet_46 : decode cX10_sheet 46 = .ok (.iastore, 1) := by decide +kernel
theorem dX10_sheet_47 : decode cX10_sheet 47 = .ok (.aload_n 0, 1) := by decide +kernel
theorem dX10_sheet_48 : decode cX10_sheet 48 = .ok (.getfield 13, 3) := by decide +kernel
theorem dX10_sheet_51 : decode cX10_sheet 51 = .ok (.iload_n 1, 1) := by decide +kernel
theorem dX10_sheet_52 : decode cX10_sheet 52 = .ok (.iload_n 3, 1) := by decide +kernel
theorem dX10_sheet_53 : decode cX10_sheet 53 = .ok (.iastore, 1) := by decide +kernel
theorem dX10_sheet_54 : decode cX10_sheet 54 = .ok (.iconst 0, 1) := by decide +kernel
theorem dX10_sheet_55 : decode cX10_sheet 55 = .ok (.istore 4, 2) := by decide +kernel
theorem dX10_sheet_57 : decode cX10_sheet 57 = .ok (.iload 4, 2) := by decide +kernel
theorem dX10_sheet_59 : decode cX10_sheet 59 = .ok (.bipush 60, 2) := by decide +kernel
theorem dX10_sheet_61 : decode cX10_sheet 61 = .ok (.if_icmp .ge 22, 3) := by decide +kernel
theorem dX10_sheet_64 : decode cX10_sheet 64 = .ok (.aload_n 0, 1) := by decide +kernel
theorem dX10_sheet_65 : decode cX10_sheet 65 = .ok (.getfield 16, 3) := by decide +kernel
theorem dX10_sheet_68 : decode cX10_sheet 68 = .ok (.bipush 60, 2) := by decide +kernel
theorem dX10_sheet_70 : decode cX10_sheet 70 = .ok (.iload_n 1, 1) := by decide +kernel
theorem dX10_sheet_71 : decode cX10_sheet 71 = .ok (.imul, 1) := by decide +kernel
theorem dX10_sheet_72 : decode cX10_sheet 72 = .ok (.iload 4, 2) := by decide +kernel
theorem dX10_sheet_74 : decode cX10_sheet 74 = .ok (.iadd, 1) := by decide +kernel
theorem dX10_sheet_75 : decode cX10_sheet 75 = .ok (.iconst 0, 1) := by decide +kernel
theorem dX10_sheet_76 : decode cX10_sheet 76 = .ok (.iastore, 1) := by decide +kernel
theorem dX10_sheet_77 : decode cX10_sheet 77 = .ok (.iinc 4 1, 3) := by decide +kernel
theorem dX10_sheet_80 : decode cX10_sheet 80 = .ok (.goto (-23), 3) := by decide +kernel
theorem dX10_sheet_83 : decode cX10_sheet 83 = .ok (.iconst 1, 1) := by decide +kernel
theorem dX10_sheet_84 : decode cX10_sheet 84 = .ok (.ireturn, 1) := by decide +kernel
set_option maxRecDepth 20000 in
theorem ggX10_lose_X10_isSheet : GoodIn wsX10_lose wsX10_isSheet := goodIn_r _ [5, 6, 7, 4, 8] (by decide +kernel) (by decide +kernel)
set_option maxRecDepth 20000 in
theorem gX10_lose_X10_isSheet : GoodIn wsX10_lose (va_wsS RX10 145 yX10_isSheet wsX10_isSheet) := goodIn_app (goodIn_of _ (by decide +kernel)) ggX10_lose_X10_isSheet
theorem dX10_lose_0 : decode cX10_lose 0 = .ok (.iload_n 1, 1) := by decide +kernel
theorem dX10_lose_1 : decode cX10_lose 1 = .ok (.invokestatic 145, 3) := by decide +kernel
theorem dX10_lose_4 : decode cX10_lose 4 = .ok (.ifCond .ne 5, 3) := by decide +kernel
theorem dX10_lose_7 : decode cX10_lose 7 = .ok (.iconst (-1), 1) := by decide +kernel
theorem dX10_lose_8 : decode cX10_lose 8 = .ok (.ireturn, 1) := by decide +kernel
theorem dX10_lose_9 : decode cX10_lose 9 = .ok (.aload_n 0, 1) := by decide +kernel
theorem dX10_lose_10 : decode cX10_lose 10 = .ok (.getfield 9, 3) := by decide +kernel
theorem dX10_lose_13 : decode cX10_lose 13 = .ok (.iload_n 1, 1) := by decide +kernel
theorem dX10_lose_14 : decode cX10_lose 14 = .ok (.iaload, 1) := by decide +kernel
theorem dX10_lose_15 : decode cX10_lose 15 = .ok (.bipush (-9), 2) := by decide +kernel
theorem dX10_lose_17 : decode cX10_lose 17 = .ok (.if_icmp .ne 7, 3) := by decide +kernel
theorem dX10_lose_20 : decode cX10_lose 20 = .ok (.iconst 0, 1) := by decide +kernel
theorem dX10_lose_21 : decode cX10_lose 21 = .ok (.goto 4, 3) := by decide +kernel
theorem dX10_lose_24 : decode cX10_lose 24 = .ok (.iconst 1, 1) := by decide +kernel
theorem dX10_lose_25 : decode cX10_lose 25 = .ok (.istore_n 2, 1) := by decide +kernel
theorem dX10_lose_26 : decode cX10_lose 26 = .ok (.aload_n 0, 1) := by decide +kernel
theorem dX10_lose_27 : decode cX10_lose 27 = .ok (.getfield 9, 3) := by decide +kernel
theorem dX10_lose_30 : decode cX10_lose 30 = .ok (.iload_n 1, 1) := by decide +kernel
theorem dX10_lose_31 : decode cX10_lose 31 = .ok (.bipush (-9), 2) := by decide +kernel
theorem dX10_lose_33 : decode cX10_lose 33 = .ok (.iastore, 1) := by decide +kernel
theorem dX10_lose_34 : decode cX10_lose 34 = .ok (.iload_n 2, 1) := by decide +kernel
theorem dX10_lose_35 : decode cX10_lose 35 = .ok (.ireturn, 1) := by decide +kernel
set_option maxRecDepth 20000 in
theorem ggX10_put_X10_isSheet : GoodIn wsX10_put wsX10_isSheet := goodIn_r _ [8, 9, 10, 7, 11] (by decide +kernel) (by decide +kernel)
set_option maxRecDepth 20000 in
theorem gX10_put_X10_isSheet : GoodIn wsX10_put (va_wsS RX10 145 yX10_isSheet wsX10_isSheet) := goodIn_app (goodIn_of _ (by decide +kernel)) ggX10_put_X10_isSheet
set_option maxRecDepth 20000 in
theorem ggX10_put_X10_fails : GoodIn wsX10_put wsX10_fails := goodIn_r _ [15, 1, 16, 17, 18, 19, 20, 21, 22, 23, 24, 25, 26, 27, 28, 29, 30, 31, 32, 33, 34, 35, 36, 37, 38, 39, 40, 41, 42, 43, 44, 45, 46, 47] (by decide +kernel) (by decide +kernel)
set_option maxRecDepth 20000 in
theorem gX10_put_X10_fails : GoodIn wsX10_put (wsV RX10 151 RX10 yX10_fails wsX10_fails) := goodIn_app (goodIn_of _ (by decide +kernel)) ggX10_put_X10_fails
set_option maxRecDepth 20000 in
theorem ggX10_put_X10_within : GoodIn wsX10_put wsX10_within := goodIn_r _ [11] (by decide +kernel) (by decide +kernel)
set_option maxRecDepth 20000 in
theorem gX10_put_X10_within : GoodIn wsX10_put (va_wsS RX10 92 yX10_within wsX10_within) := goodIn_app (goodIn_of _ (by decide +kernel)) ggX10_put_X10_within
theorem dX10_put_0 : decode cX10_put 0 = .ok (.aload_n 0, 1) := by decide +kernel
theorem dX10_put_1 : decode cX10_put 1 = .ok (.iconst 0, 1) := by decide +kernel
theorem dX10_put_2 : decode cX10_put 2 = .ok (.putfield 86, 3) := by decide +kernel
theorem dX10_put_5 : decode cX10_put 5 = .ok (.iload_n 1, 1) := by decide +kernel
theorem dX10_put_6 : decode cX10_put 6 = .ok (.invokestatic 145, 3) := by decide +kernel
theorem dX10_put_9 : decode cX10_put 9 = .ok (.ifCond .ne 5, 3) := by decide +kernel
theorem dX10_put_12 : decode cX10_put 12 = .ok (.iconst (-1), 1) := by decide +kernel
theorem dX10_put_13 : decode cX10_put 13 = .ok (.ireturn, 1) := by decide +kernel
theorem dX10_put_14 : decode cX10_put 14 = .ok (.aload_n 0, 1) := by decide +kernel
theorem dX10_put_15 : decode cX10_put 15 = .ok (.getfield 9, 3) := by decide +kernel
theorem dX10_put_18 : decode cX10_put 18 = .ok (.iload_n 1, 1) := by decide +kernel
theorem dX10_put_19 : decode cX10_put 19 = .ok (.iaload, 1) := by decide +kernel
theorem dX10_put_20 : decode cX10_put 20 = .ok (.bipush (-9), 2) := by decide +kernel
theorem dX10_put_22 : decode cX10_put 22 = .ok (.if_icmp .ne 9, 3) := by decide +kernel
theorem dX10_put_25 : decode cX10_put 25 = .ok (.aload_n 0, 1) := by decide +kernel
theorem dX10_put_26 : decode cX10_put 26 = .ok (.iconst 1, 1) := by decide +kernel
theorem dX10_put_27 : decode cX10_put 27 = .ok (.invokevirtual 151, 3) := by decide +kernel
theorem dX10_put_30 : decode cX10_put 30 = .ok (.ireturn, 1) := by decide +kernel
theorem dX10_put_31 : decode cX10_put 31 = .ok (.iload_n 2, 1) := by decide +kernel
theorem dX10_put_32 : decode cX10_put 32 = .ok (.iconst 0, 1) := by decide +kernel
theorem dX10_put_33 : decode cX10_put 33 = .ok (.aload_n 0, 1) := by decide +kernel
theorem dX10_put_34 : decode cX10_put 34 = .ok (.getfield 13, 3) := by decide +kernel
theorem dX10_put_37 : decode cX10_put 37 = .ok (.iload_n 1, 1) := by decide +kernel
theorem dX10_put_38 : decode cX10_put 38 = .ok (.iaload, 1) := by decide +kernel
theorem dX10_put_39 : decode cX10_put 39 = .ok (.iconst 1, 1) := by decide +kernel
theorem dX10_put_40 : decode cX10_put 40 = .ok (.isub, 1) := by decide +kernel
theorem dX10_put_41 : decode cX10_put 41 = .ok (.invokestatic 92, 3) := by decide +kernel
theorem dX10_put_44 : decode cX10_put 44 = .ok (.ifCond .ne 9, 3) := by decide +kernel
theorem dX10_put_47 : decode cX10_put 47 = .ok (.aload_n 0, 1) := by decide +kernel
theorem dX10_put_48 : decode cX10_put 48 = .ok (.iconst 3, 1) := by decide +kernel
theorem dX10_put_49 : decode cX10_put 49 = .ok (.invokevirtual 151, 3) := by decide +kernel
theorem dX10_put_52 : decode cX10_put 52 = .ok (.ireturn, 1) := by decide +kernel
theorem dX10_put_53 : decode cX10_put 53 = .ok (.aload_n 0, 1) := by decide +kernel
theorem dX10_put_54 : decode cX10_put 54 = .ok (.getfield 16, 3) := by decide +kernel
theorem dX10_put_57 : decode cX10_put 57 = .ok (.bipush 60, 2) := by decide +kernel
theorem dX10_put_59 : decode cX10_put 59 = .ok (.iload_n 1, 1) := by decide +kernel
theorem dX10_put_60 : decode cX10_put 60 = .ok (.imul, 1) := by decide +kernel
theorem dX10_put_61 : decode cX10_put 61 = .ok (.iload_n 2, 1) := by decide +kernel
theorem dX10_put_62 : decode cX10_put 62 = .ok (.iadd, 1) := by decide +kernel
theorem dX10_put_63 : decode cX10_put 63 = .ok (.aload_n 0, 1) := by decide +kernel
theorem dX10_put_64 : decode cX10_put 64 = .ok (.getfield 9, 3) := by decide +kernel
theorem dX10_put_67 : decode cX10_put 67 = .ok (.iload_n 1, 1) := by decide +kernel
theorem dX10_put_68 : decode cX10_put 68 = .ok (.iaload, 1) := by decide +kernel
theorem dX10_put_69 : decode cX10_put 69 = .ok (.ifCond .ne 8, 3) := by decide +kernel
theorem dX10_put_72 : decode cX10_put 72 = .ok (.iload_n 3, 1) := by decide +kernel
theorem dX10_put_73 : decode cX10_put 73 = .ok (.i2b, 1) := by decide +kernel
theorem dX10_put_74 : decode cX10_put 74 = .ok (.goto 19, 3) := by decide +kernel
theorem dX10_put_77 : decode cX10_put 77 = .ok (.aload_n 0, 1) := by decide +kernel
theorem dX10_put_78 : decode cX10_put 78 = .ok (.getfield 9, 3) := by decide +kernel
theorem dX10_put_81 : decode cX10_put 81 = .ok (.iload_n 1, 1) := by decide +kernel
theorem dX10_put_82 : decode cX10_put 82 = .ok (.iaload, 1) := by decide +kernel
theorem dX10_put_83 : decode cX10_put 83 = .ok (.iconst 1, 1) := by decide +kernel
theorem dX10_put_84 : decode cX10_put 84 = .ok (.if_icmp .ne 8, 3) := by decide +kernel
theorem dX10_put_87 : decode cX10_put 87 = .ok (.iload_n 3, 1) := by decide +kernel
theorem dX10_put_88 : decode cX10_put 88 = .ok (.i2s, 1) := by decide +kernel
theorem dX10_put_89 : decode cX10_put 89 = .ok (.goto 4, 3) := by decide +kernel
theorem dX10_put_92 : decode cX10_put 92 = .ok (.iload_n 3, 1) := by decide +kernel
theorem dX10_put_93 : decode cX10_put 93 = .ok (.iastore, 1) := by decide +kernel
theorem dX10_put_94 : decode cX10_put 94 = .ok (.iconst 1, 1) := by decide +kernel
theorem dX10_put_95 : decode cX10_put 95 = .ok (.ireturn, 1) := by decide +kernel
set_option maxRecDepth 20000 in
theorem ggX10_cell_X10_isSheet : GoodIn wsX10_cell wsX10_isSheet := goodIn_r _ [9, 10, 11, 8, 12] (by decide +kernel) (by decide +kernel)
set_option maxRecDepth 20000 in
theorem gX10_cell_X10_isSheet : GoodIn wsX10_cell (va_wsS RX10 145 yX10_isSheet wsX10_isSheet) := goodIn_app (goodIn_of _ (by decide +kernel)) ggX10_cell_X10_isSheet
set_option maxRecDepth 20000 in
theorem ggX10_cell_X10_isLane : GoodIn wsX10_cell wsX10_isLane := goodIn_r _ [15, 10, 11, 8, 12] (by decide +kernel) (by decide +kernel)
set_option maxRecDepth 20000 in
theorem gX10_cell_X10_isLane : GoodIn wsX10_cell (va_wsS RX10 148 yX10_isLane wsX10_isLane) := goodIn_app (goodIn_of _ (by decide +kernel)) ggX10_cell_X10_isLane
set_option maxRecDepth 20000 in
theorem ggX10_cell_X10_lost : GoodIn wsX10_cell wsX10_lost := goodIn_r _ [19, 1, 2, 20, 21, 22, 23, 24, 25, 26, 27, 28, 29, 30, 31, 32, 33, 34, 35, 36, 37, 38, 39, 40, 41, 42, 43, 44, 45, 46, 47, 48, 49, 50, 51] (by decide +kernel) (by decide +kernel)
set_option maxRecDepth 20000 in
theorem gX10_cell_X10_lost : GoodIn wsX10_cell (wsV RX10 285 RX10 yX10_lost wsX10_lost) := goodIn_app (goodIn_of _ (by decide +kernel)) ggX10_cell_X10_lost
set_option maxRecDepth 20000 in
theorem ggX10_cell_X10_within : GoodIn wsX10_cell wsX10_within := goodIn_r _ [12] (by decide +kernel) (by decide +kernel)
set_option maxRecDepth 20000 in
theorem gX10_cell_X10_within : GoodIn wsX10_cell (va_wsS RX10 92 yX10_within wsX10_within) := goodIn_app (goodIn_of _ (by decide +kernel)) ggX10_cell_X10_within
theorem dX10_cell_0 : decode cX10_cell 0 = .ok (.aload_n 0, 1) := by decide +kernel
theorem dX10_cell_1 : decode cX10_cell 1 = .ok (.iconst 0, 1) := by decide +kernel
theorem dX10_cell_2 : decode cX10_cell 2 = .ok (.putfield 86, 3) := by decide +kernel
theorem dX10_cell_5 : decode cX10_cell 5 = .ok (.iload_n 1, 1) := by decide +kernel
theorem dX10_cell_6 : decode cX10_cell 6 = .ok (.invokestatic 145, 3) := by decide +kernel
theorem dX10_cell_9 : decode cX10_cell 9 = .ok (.ifCond .eq 10, 3) := by decide +kernel
theorem dX10_cell_12 : decode cX10_cell 12 = .ok (.iload_n 3, 1) := by decide +kernel
theorem dX10_cell_13 : decode cX10_cell 13 = .ok (.invokestatic 148, 3) := by decide +kernel
theorem dX10_cell_16 : decode cX10_cell 16 = .ok (.ifCond .ne 7, 3) := by decide +kernel
theorem dX10_cell_19 : decode cX10_cell 19 = .ok (.ldc2_w 90, 3) := by decide +kernel
theorem dX10_cell_22 : decode cX10_cell 22 = .ok (.lreturn, 1) := by decide +kernel
theorem dX10_cell_23 : decode cX10_cell 23 = .ok (.aload_n 0, 1) := by decide +kernel
theorem dX10_cell_24 : decode cX10_cell 24 = .ok (.getfield 9, 3) := by decide +kernel
theorem dX10_cell_27 : decode cX10_cell 27 = .ok (.iload_n 1, 1) := by decide +kernel
theorem dX10_cell_28 : decode cX10_cell 28 = .ok (.iaload, 1) := by decide +kernel
theorem dX10_cell_29 : decode cX10_cell 29 = .ok (.bipush (-9), 2) := by decide +kernel
theorem dX10_cell_31 : decode cX10_cell 31 = .ok (.if_icmp .eq 19, 3) := by decide +kernel
theorem dX10_cell_34 : decode cX10_cell 34 = .ok (.aload_n 0, 1) := by decide +kernel
theorem dX10_cell_35 : decode cX10_cell 35 = .ok (.getfield 9, 3) := by decide +kernel
theorem dX10_cell_38 : decode cX10_cell 38 = .ok (.iload_n 1, 1) := by decide +kernel
theorem dX10_cell_39 : decode cX10_cell 39 = .ok (.iaload, 1) := by decide +kernel
theorem dX10_cell_40 : decode cX10_cell 40 = .ok (.iload_n 3, 1) := by decide +kernel
theorem dX10_cell_41 : decode cX10_cell 41 = .ok (.if_icmp .eq 9, 3) := by decide +kernel
theorem dX10_cell_44 : decode cX10_cell 44 = .ok (.aload_n 0, 1) := by decide +kernel
theorem dX10_cell_45 : decode cX10_cell 45 = .ok (.iconst 2, 1) := by decide +kernel
theorem dX10_cell_46 : decode cX10_cell 46 = .ok (.invokevirtual 285, 3) := by decide +kernel
theorem dX10_cell_49 : decode cX10_cell 49 = .ok (.lreturn, 1) := by decide +kernel
theorem dX10_cell_50 : decode cX10_cell 50 = .ok (.aload_n 0, 1) := by decide +kernel
theorem dX10_cell_51 : decode cX10_cell 51 = .ok (.getfield 9, 3) := by decide +kernel
theorem dX10_cell_54 : decode cX10_cell 54 = .ok (.iload_n 1, 1) := by decide +kernel
theorem dX10_cell_55 : decode cX10_cell 55 = .ok (.iaload, 1) := by decide +kernel
theorem dX10_cell_56 : decode cX10_cell 56 = .ok (.bipush (-9), 2) := by decide +kernel
theorem dX10_cell_58 : decode cX10_cell 58 = .ok (.if_icmp .ne 9, 3) := by decide +kernel
theorem dX10_cell_61 : decode cX10_cell 61 = .ok (.aload_n 0, 1) := by decide +kernel
theorem dX10_cell_62 : decode cX10_cell 62 = .ok (.iconst 1, 1) := by decide +kernel
theorem dX10_cell_63 : decode cX10_cell 63 = .ok (.invokevirtual 285, 3) := by decide +kernel
theorem dX10_cell_66 : decode cX10_cell 66 = .ok (.lreturn, 1) := by decide +kernel
theorem dX10_cell_67 : decode cX10_cell 67 = .ok (.iload_n 2, 1) := by decide +kernel
theorem dX10_cell_68 : decode cX10_cell 68 = .ok (.iconst 0, 1) := by decide +kernel
theorem dX10_cell_69 : decode cX10_cell 69 = .ok (.aload_n 0, 1) := by decide +kernel
theorem dX10_cell_70 : decode cX10_cell 70 = .ok (.getfield 13, 3) := by decide +kernel
theorem dX10_cell_73 : decode cX10_cell 73 = .ok (.iload_n 1, 1) := by decide +kernel
theorem dX10_cell_74 : decode cX10_cell 74 = .ok (.iaload, 1) := by decide +kernel
theorem dX10_cell_75 : decode cX10_cell 75 = .ok (.iconst 1, 1) := by decide +kernel
theorem dX10_cell_76 : decode cX10_cell 76 = .ok (.isub, 1) := by decide +kernel
theorem dX10_cell_77 : decode cX10_cell 77 = .ok (.invokestatic 92, 3) := by decide +kernel
theorem dX10_cell_80 : decode cX10_cell 80 = .ok (.ifCond .ne 9, 3) := by decide +kernel
theorem dX10_cell_83 : decode cX10_cell 83 = .ok (.aload_n 0, 1) := by decide +kernel
theorem dX10_cell_84 : decode cX10_cell 84 = .ok (.iconst 3, 1) := by decide +kernel
theorem dX10_cell_85 : decode cX10_cell 85 = .ok (.invokevirtual 285, 3) := by decide +kernel
theorem dX10_cell_88 : decode cX10_cell 88 = .ok (.lreturn, 1) := by decide +kernel
theorem dX10_cell_89 : decode cX10_cell 89 = .ok (.aload_n 0, 1) := by decide +kernel
theorem dX10_cell_90 : decode cX10_cell 90 = .ok (.getfield 16, 3) := by decide +kernel
theorem dX10_cell_93 : decode cX10_cell 93 = .ok (.bipush 60, 2) := by decide +kernel
theorem dX10_cell_95 : decode cX10_cell 95 = .ok (.iload_n 1, 1) := by decide +kernel
theorem dX10_cell_96 : decode cX10_cell 96 = .ok (.imul, 1) := by decide +kernel
theorem dX10_cell_97 : decode cX10_cell 97 = .ok (.iload_n 2, 1) := by decide +kernel
theorem dX10_cell_98 : decode cX10_cell 98 = .ok (.iadd, 1) := by decide +kernel
theorem dX10_cell_99 : decode cX10_cell 99 = .ok (.iaload, 1) := by decide +kernel
theorem dX10_cell_100 : decode cX10_cell 100 = .ok (.i2l, 1) := by decide +kernel
theorem dX10_cell_101 : decode cX10_cell 101 = .ok (.lreturn, 1) := by decide +kernel
set_option maxRecDepth 20000 in
theorem ggX10_copy_X10_isSheet : GoodIn wsX10_copy wsX10_isSheet := goodIn_r _ [8, 9, 10, 7, 11] (by decide +kernel) (by decide +kernel)
set_option maxRecDepth 20000 in
theorem gX10_copy_X10_isSheet : GoodIn wsX10_copy (va_wsS RX10 145 yX10_isSheet wsX10_isSheet) := goodIn_app (goodIn_of _ (by decide +kernel)) ggX10_copy_X10_isSheet
set_option maxRecDepth 20000 in
theorem ggX10_copy_X10_fails : GoodIn wsX10_copy wsX10_fails := goodIn_r _ [15, 1, 16, 17, 18, 19, 20, 21, 22, 23, 24, 25, 26, 27, 28, 29, 30, 31, 32, 33, 34, 35, 36, 37, 38, 39, 40, 41, 42, 43, 44, 45, 46, 47] (by decide +kernel) (by decide +kernel)
set_option maxRecDepth 20000 in
theorem gX10_copy_X10_fails : GoodIn wsX10_copy (wsV RX10 151 RX10 yX10_fails wsX10_fails) := goodIn_app (goodIn_of _ (by decide +kernel)) ggX10_copy_X10_fails
theorem dX10_copy_0 : decode cX10_copy 0 = .ok (.aload_n 0, 1) := by decide +kernel
theorem dX10_copy_1 : decode cX10_copy 1 = .ok (.iconst 0, 1) := by decide +kernel
theorem dX10_copy_2 : decode cX10_copy 2 = .ok (.putfield 86, 3) := by decide +kernel
theorem dX10_copy_5 : decode cX10_copy 5 = .ok (.iload_n 1, 1) := by decide +kernel
theorem dX10_copy_6 : decode cX10_copy 6 = .ok (.invokestatic 145, 3) := by decide +kernel
theorem dX10_copy_9 : decode cX10_copy 9 = .ok (.ifCond .eq 10, 3) := by decide +kernel
theorem dX10_copy_12 : decode cX10_copy 12 = .ok (.iload_n 3, 1) := by decide +kernel
theorem dX10_copy_13 : decode cX10_copy 13 = .ok (.invokestatic 145, 3) := by decide +kernel
theorem dX10_copy_16 : decode cX10_copy 16 = .ok (.ifCond .ne 5, 3) := by decide +kernel
theorem dX10_copy_19 : decode cX10_copy 19 = .ok (.iconst (-1), 1) := by decide +kernel
theorem dX10_copy_20 : decode cX10_copy 20 = .ok (.ireturn, 1) := by decide +kernel
theorem dX10_copy_21 : decode cX10_copy 21 = .ok (.aload_n 0, 1) := by decide +kernel
theorem dX10_copy_22 : decode cX10_copy 22 = .ok (.getfield 9, 3) := by decide +kernel
theorem dX10_copy_25 : decode cX10_copy 25 = .ok (.iload_n 1, 1) := by decide +kernel
theorem dX10_copy_26 : decode cX10_copy 26 = .ok (.iaload, 1) := by decide +kernel
theorem dX10_copy_27 : decode cX10_copy 27 = .ok (.bipush (-9), 2) := by decide +kernel
theorem dX10_copy_29 : decode cX10_copy 29 = .ok (.if_icmp .eq 14, 3) := by decide +kernel
theorem dX10_copy_32 : decode cX10_copy 32 = .ok (.aload_n 0, 1) := by decide +kernel
theorem dX10_copy_33 : decode cX10_copy 33 = .ok (.getfield 9, 3) := by decide +kernel
theorem dX10_copy_36 : decode cX10_copy 36 = .ok (.iload_n 3, 1) := by decide +kernel
theorem dX10_copy_37 : decode cX10_copy 37 = .ok (.iaload, 1) := by decide +kernel
theorem dX10_copy_38 : decode cX10_copy 38 = .ok (.bipush (-9), 2) := by decide +kernel
theorem dX10_copy_40 : decode cX10_copy 40 = .ok (.if_icmp .ne 9, 3) := by decide +kernel
theorem dX10_copy_43 : decode cX10_copy 43 = .ok (.aload_n 0, 1) := by decide +kernel
theorem dX10_copy_44 : decode cX10_copy 44 = .ok (.iconst 1, 1) := by decide +kernel
theorem dX10_copy_45 : decode cX10_copy 45 = .ok (.invokevirtual 151, 3) := by decide +kernel
theorem dX10_copy_48 : decode cX10_copy 48 = .ok (.ireturn, 1) := by decide +kernel
theorem dX10_copy_49 : decode cX10_copy 49 = .ok (.aload_n 0, 1) := by decide +kernel
theorem dX10_copy_50 : decode cX10_copy 50 = .ok (.getfield 9, 3) := by decide +kernel
theorem dX10_copy_53 : decode cX10_copy 53 = .ok (.iload_n 1, 1) := by decide +kernel
theorem dX10_copy_54 : decode cX10_copy 54 = .ok (.iaload, 1) := by decide +kernel
theorem dX10_copy_55 : decode cX10_copy 55 = .ok (.aload_n 0, 1) := by decide +kernel
theorem dX10_copy_56 : decode cX10_copy 56 = .ok (.getfield 9, 3) := by decide +kernel
theorem dX10_copy_59 : decode cX10_copy 59 = .ok (.iload_n 3, 1) := by decide +kernel
theorem dX10_copy_60 : decode cX10_copy 60 = .ok (.iaload, 1) := by decide +kernel
theorem dX10_copy_61 : decode cX10_copy 61 = .ok (.if_icmp .eq 9, 3) := by decide +kernel
theorem dX10_copy_64 : decode cX10_copy 64 = .ok (.aload_n 0, 1) := by decide +kernel
theorem dX10_copy_65 : decode cX10_copy 65 = .ok (.iconst 2, 1) := by decide +kernel
theorem dX10_copy_66 : decode cX10_copy 66 = .ok (.invokevirtual 151, 3) := by decide +kernel
theorem dX10_copy_69 : decode cX10_copy 69 = .ok (.ireturn, 1) := by decide +kernel
theorem dX10_copy_70 : decode cX10_copy 70 = .ok (.iload_n 2, 1) := by decide +kernel
theorem dX10_copy_71 : decode cX10_copy 71 = .ok (.ifCond .lt 38, 3) := by decide +kernel
theorem dX10_copy_74 : decode cX10_copy 74 = .ok (.iload 4, 2) := by decide +kernel
theorem dX10_copy_76 : decode cX10_copy 76 = .ok (.ifCond .lt 33, 3) := by decide +kernel
theorem dX10_copy_79 : decode cX10_copy 79 = .ok (.iload 5, 2) := by decide +kernel
theorem dX10_copy_81 : decode cX10_copy 81 = .ok (.ifCond .lt 28, 3) := by decide +kernel
theorem dX10_copy_84 : decode cX10_copy 84 = .ok (.iload_n 2, 1) := by decide +kernel
theorem dX10_copy_85 : decode cX10_copy 85 = .ok (.aload_n 0, 1) := by decide +kernel
theorem dX10_copy_86 : decode cX10_copy 86 = .ok (.getfield 13, 3) := by decide +kernel
theorem dX10_copy_89 : decode cX10_copy 89 = .ok (.iload_n 1, 1) := by decide +kernel
theorem dX10_copy_90 : decode cX10_copy 90 = .ok (.iaload, 1) := by decide +kernel
theorem dX10_copy_91 : decode cX10_copy 91 = .ok (.if_icmp .gt 18, 3) := by decide +kernel
theorem dX10_copy_94 : decode cX10_copy 94 = .ok (.iload 4, 2) := by decide +kernel
theorem dX10_copy_96 : decode cX10_copy 96 = .ok (.aload_n 0, 1) := by decide +kernel
theorem dX10_copy_97 : decode cX10_copy 97 = .ok (.getfield 13, 3) := by decide +kernel
theorem dX10_copy_100 : decode cX10_copy 100 = .ok (.iload_n 3, 1) := by decide +kernel
theorem dX10_copy_101 : decode cX10_copy 101 = .ok (.iaload, 1) := by decide +kernel
theorem dX10_copy_102 : decode cX10_copy 102 = .ok (.if_icmp .gt 7, 3) := by decide +kernel
theorem dX10_copy_105 : decode cX10_copy 105 = .ok (.iconst 1, 1) := by decide +kernel
theorem dX10_copy_106 : decode cX10_copy 106 = .ok (.goto 4, 3) := by decide +kernel
theorem dX10_copy_109 : decode cX10_copy 109 = .ok (.iconst 0, 1) := by decide +kernel
theorem dX10_copy_110 : decode cX10_copy 110 = .ok (.istore 6, 2) := by decide +kernel
theorem dX10_copy_112 : decode cX10_copy 112 = .ok (.iload 6, 2) := by decide +kernel
theorem dX10_copy_114 : decode cX10_copy 114 = .ok (.ifCond .eq 30, 3) := by decide +kernel
theorem dX10_copy_117 : decode cX10_copy 117 = .ok (.iload 5, 2) := by decide +kernel
theorem dX10_copy_119 : decode cX10_copy 119 = .ok (.aload_n 0, 1) := by decide +kernel
theorem dX10_copy_120 : decode cX10_copy 120 = .ok (.getfield 13, 3) := by decide +kernel
theorem dX10_copy_123 : decode cX10_copy 123 = .ok (.iload_n 1, 1) := by decide +kernel
theorem dX10_copy_124 : decode cX10_copy 124 = .ok (.iaload, 1) := by decide +kernel
theorem dX10_copy_125 : decode cX10_copy 125 = .ok (.iload_n 2, 1) := by decide +kernel
theorem dX10_copy_126 : decode cX10_copy 126 = .ok (.isub, 1) := by decide +kernel
theorem dX10_copy_127 : decode cX10_copy 127 = .ok (.if_icmp .gt 17, 3) := by decide +kernel
theorem dX10_copy_130 : decode cX10_copy 130 = .ok (.iload 5, 2) := by decide +kernel
theorem dX10_copy_132 : decode cX10_copy 132 = .ok (.aload_n 0, 1) := by decide +kernel
theorem dX10_copy_133 : decode cX10_copy 133 = .ok (.getfield 13, 3) := by decide +kernel
theorem dX10_copy_136 : decode cX10_copy 136 = .ok (.iload_n 3, 1) := by decide +kernel
theorem dX10_copy_137 : decode cX10_copy 137 = .ok (.iaload, 1) := by decide +kernel
theorem dX10_copy_138 : decode cX10_copy 138 = .ok (.iload 4, 2) := by decide +kernel
theorem dX10_copy_140 : decode cX10_copy 140 = .ok (.isub, 1) := by decide +kernel
theorem dX10_copy_141 : decode cX10_copy 141 = .ok (.if_icmp .le 9, 3) := by decide +kernel
theorem dX10_copy_144 : decode cX10_copy 144 = .ok (.aload_n 0, 1) := by decide +kernel
theorem dX10_copy_145 : decode cX10_copy 145 = .ok (.iconst 3, 1) := by decide +kernel
theorem dX10_copy_146 : decode cX10_copy 146 = .ok (.invokevirtual 151, 3) := by decide +kernel
theorem dX10_copy_149 : decode cX10_copy 149 = .ok (.ireturn, 1) := by decide +kernel
theorem dX10_copy_150 : decode cX10_copy 150 = .ok (.iload_n 2, 1) := by decide +kernel
theorem dX10_copy_151 : decode cX10_copy 151 = .ok (.iload 4, 2) := by decide +kernel
theorem dX10_copy_153 : decode cX10_copy 153 = .ok (.if_icmp .ge 7, 3) := by decide +kernel
theorem dX10_copy_156 : decode cX10_copy 156 = .ok (.iconst 1, 1) := by decide +kernel
theorem dX10_copy_157 : decode cX10_copy 157 = .ok (.goto 4, 3) := by decide +kernel
theorem dX10_copy_160 : decode cX10_copy 160 = .ok (.iconst 0, 1) := by decide +kernel
theorem dX10_copy_161 : decode cX10_copy 161 = .ok (.istore 7, 2) := by decide +kernel
theorem dX10_copy_163 : decode cX10_copy 163 = .ok (.iconst 0, 1) := by decide +kernel
theorem dX10_copy_164 : decode cX10_copy 164 = .ok (.istore 8, 2) := by decide +kernel
theorem dX10_copy_166 : decode cX10_copy 166 = .ok (.iload 8, 2) := by decide +kernel
theorem dX10_copy_168 : decode cX10_copy 168 = .ok (.iload 5, 2) := by decide +kernel
theorem dX10_copy_170 : decode cX10_copy 170 = .ok (.if_icmp .ge 57, 3) := by decide +kernel
theorem dX10_copy_173 : decode cX10_copy 173 = .ok (.iload 7, 2) := by decide +kernel
theorem dX10_copy_175 : decode cX10_copy 175 = .ok (.ifCond .eq 13, 3) := by decide +kernel
theorem dX10_copy_178 : decode cX10_copy 178 = .ok (.iload 5, 2) := by decide +kernel
theorem dX10_copy_180 : decode cX10_copy 180 = .ok (.iconst 1, 1) := by decide +kernel
theorem dX10_copy_181 : decode cX10_copy 181 = .ok (.isub, 1) := by decide +kernel
theorem dX10_copy_182 : decode cX10_copy 182 = .ok (.iload 8, 2) := by decide +kernel
theorem dX10_copy_184 : decode cX10_copy 184 = .ok (.isub, 1) := by decide +kernel
theorem dX10_copy_185 : decode cX10_copy 185 = .ok (.goto 5, 3) := by decide +kernel
theorem dX10_copy_188 : decode cX10_copy 188 = .ok (.iload 8, 2) := by decide +kernel
theorem dX10_copy_190 : decode cX10_copy 190 = .ok (.istore 9, 2) := by decide +kernel
theorem dX10_copy_192 : decode cX10_copy 192 = .ok (.aload_n 0, 1) := by decide +kernel
theorem dX10_copy_193 : decode cX10_copy 193 = .ok (.getfield 16, 3) := by decide +kernel
theorem dX10_copy_196 : decode cX10_copy 196 = .ok (.bipush 60, 2) := by decide +kernel
theorem dX10_copy_198 : decode cX10_copy 198 = .ok (.iload_n 3, 1) := by decide +kernel
theorem dX10_copy_199 : decode cX10_copy 199 = .ok (.imul, 1) := by decide +kernel
theorem dX10_copy_200 : decode cX10_copy 200 = .ok (.iload 4, 2) := by decide +kernel
theorem dX10_copy_202 : decode cX10_copy 202 = .ok (.iadd, 1) := by decide +kernel
theorem dX10_copy_203 : decode cX10_copy 203 = .ok (.iload 9, 2) := by decide +kernel
theorem dX10_copy_205 : decode cX10_copy 205 = .ok (.iadd, 1) := by decide +kernel
theorem dX10_copy_206 : decode cX10_copy 206 = .ok (.aload_n 0, 1) := by decide +kernel
theorem dX10_copy_207 : decode cX10_copy 207 = .ok (.getfield 16, 3) := by decide +kernel
theorem dX10_copy_210 : decode cX10_copy 210 = .ok (.bipush 60, 2) := by decide +kernel
theorem dX10_copy_212 : decode cX10_copy 212 = .ok (.iload_n 1, 1) := by decide +kernel
theorem dX10_copy_213 : decode cX10_copy 213 = .ok (.imul, 1) := by decide +kernel
theorem dX10_copy_214 : decode cX10_copy 214 = .ok (.iload_n 2, 1) := by decide +kernel
theorem dX10_copy_215 : decode cX10_copy 215 = .ok (.iadd, 1) := by decide +kernel
theorem dX10_copy_216 : decode cX10_copy 216 = .ok (.iload 9, 2) := by decide +kernel
theorem dX10_copy_218 : decode cX10_copy 218 = .ok (.iadd, 1) := by decide +kernel
theorem dX10_copy_219 : decode cX10_copy 219 = .ok (.iaload, 1) := by decide +kernel
theorem dX10_copy_220 : decode cX10_copy 220 = .ok (.iastore, 1) := by decide +kernel
theorem dX10_copy_221 : decode cX10_copy 221 = .ok (.iinc 8 1, 3) := by decide +kernel
theorem dX10_copy_224 : decode cX10_copy 224 = .ok (.goto (-58), 3) := by decide +kernel
theorem dX10_copy_227 : decode cX10_copy 227 = .ok (.iload 5, 2) := by decide +kernel
theorem dX10_copy_229 : decode cX10_copy 229 = .ok (.ireturn, 1) := by decide +kernel
theorem dX10_begins_0 : decode cX10_begins 0 = .ok (.aload_n 0, 1) := by decide +kernel
theorem dX10_begins_1 : decode cX10_begins 1 = .ok (.bipush 31, 2) := by decide +kernel
theorem dX10_begins_3 : decode cX10_begins 3 = .ok (.aload_n 0, 1) := by decide +kernel
theorem dX10_begins_4 : decode cX10_begins 4 = .ok (.getfield 288, 3) := by decide +kernel
theorem dX10_begins_7 : decode cX10_begins 7 = .ok (.imul, 1) := by decide +kernel
theorem dX10_begins_8 : decode cX10_begins 8 = .ok (.iload_n 1, 1) := by decide +kernel
theorem dX10_begins_9 : decode cX10_begins 9 = .ok (.iadd, 1) := by decide +kernel
theorem dX10_begins_10 : decode cX10_begins 10 = .ok (.putfield 288, 3) := by decide +kernel
theorem dX10_begins_13 : decode cX10_begins 13 = .ok (.return_, 1) := by decide +kernel
set_option maxRecDepth 20000 in
theorem ggX10_tell_X10_isLine : GoodIn wsX10_tell wsX10_isLine := goodIn_r _ [8, 9, 10, 11, 12, 7, 13, 14, 25, 26, 27, 28, 29, 30, 31, 32, 33, 34, 35, 36, 37, 38, 39, 40, 41, 42, 43, 44, 45, 46, 47, 48, 49, 50, 51, 52, 53, 54, 55, 56] (by decide +kernel) (by decide +kernel)
set_option maxRecDepth 20000 in
theorem gX10_tell_X10_isLine : GoodIn wsX10_tell (wsV RX10 160 RX10 yX10_isLine wsX10_isLine) := goodIn_app (goodIn_of _ (by decide +kernel)) ggX10_tell_X10_isLine
set_option maxRecDepth 20000 in
theorem ggX10_tell_X10_kindOf : GoodIn wsX10_tell wsX10_kindOf := goodIn_r _ [18, 19, 9, 25, 26, 27, 28, 29, 30, 31, 32, 33, 34, 35, 36, 37, 38, 39, 40, 41, 42, 43, 44, 45, 46, 47, 48, 49, 50, 51, 52, 53, 54, 55, 56] (by decide +kernel) (by decide +kernel)
set_option maxRecDepth 20000 in
theorem gX10_tell_X10_kindOf : GoodIn wsX10_tell (wsV RX10 163 RX10 yX10_kindOf wsX10_kindOf) := goodIn_app (goodIn_of _ (by decide +kernel)) ggX10_tell_X10_kindOf
set_option maxRecDepth 20000 in
theorem ggX10_tell_X10_begins : GoodIn wsX10_tell wsX10_begins := goodIn_r _ [23, 24, 25, 26, 27, 28, 29, 30, 31, 32, 33, 34, 35, 36, 37, 38, 39, 40, 41, 42, 43, 44, 45, 46, 47, 48, 49, 50, 51, 52, 53, 54, 55, 56] (by decide +kernel) (by decide +kernel)
set_option maxRecDepth 20000 in
theorem gX10_tell_X10_begins : GoodIn wsX10_tell (wsV RX10 291 RX10 yX10_begins wsX10_begins) := goodIn_app (goodIn_of _ (by decide +kernel)) ggX10_tell_X10_begins
theorem dX10_tell_0 : decode cX10_tell 0 = .ok (.aload_n 0, 1) := by decide +kernel
theorem dX10_tell_1 : decode cX10_tell 1 = .ok (.iload_n 1, 1) := by decide +kernel
theorem dX10_tell_2 : decode cX10_tell 2 = .ok (.iload_n 2, 1) := by decide +kernel
theorem dX10_tell_3 : decode cX10_tell 3 = .ok (.invokevirtual 160, 3) := by decide +kernel
theorem dX10_tell_6 : decode cX10_tell 6 = .ok (.ifCond .ne 5, 3) := by decide +kernel
theorem dX10_tell_9 : decode cX10_tell 9 = .ok (.iconst (-1), 1) := by decide +kernel
theorem dX10_tell_10 : decode cX10_tell 10 = .ok (.ireturn, 1) := by decide +kernel
theorem dX10_tell_11 : decode cX10_tell 11 = .ok (.bipush 24, 2) := by decide +kernel
theorem dX10_tell_13 : decode cX10_tell 13 = .ok (.iload_n 1, 1) := by decide +kernel
theorem dX10_tell_14 : decode cX10_tell 14 = .ok (.imul, 1) := by decide +kernel
theorem dX10_tell_15 : decode cX10_tell 15 = .ok (.iload_n 2, 1) := by decide +kernel
theorem dX10_tell_16 : decode cX10_tell 16 = .ok (.iadd, 1) := by decide +kernel
theorem dX10_tell_17 : decode cX10_tell 17 = .ok (.istore_n 3, 1) := by decide +kernel
theorem dX10_tell_18 : decode cX10_tell 18 = .ok (.aload_n 0, 1) := by decide +kernel
theorem dX10_tell_19 : decode cX10_tell 19 = .ok (.iload_n 1, 1) := by decide +kernel
theorem dX10_tell_20 : decode cX10_tell 20 = .ok (.iload_n 2, 1) := by decide +kernel
theorem dX10_tell_21 : decode cX10_tell 21 = .ok (.invokevirtual 163, 3) := by decide +kernel
theorem dX10_tell_24 : decode cX10_tell 24 = .ok (.lookupswitch 102 #[(1, 28), (2, 59)], 28) := by decide +kernel
theorem dX10_tell_52 : decode cX10_tell 52 = .ok (.aload_n 0, 1) := by decide +kernel
theorem dX10_tell_53 : decode cX10_tell 53 = .ok (.iconst 2, 1) := by decide +kernel
theorem dX10_tell_54 : decode cX10_tell 54 = .ok (.invokevirtual 291, 3) := by decide +kernel
theorem dX10_tell_57 : decode cX10_tell 57 = .ok (.aload_n 0, 1) := by decide +kernel
theorem dX10_tell_58 : decode cX10_tell 58 = .ok (.iconst 1, 1) := by decide +kernel
theorem dX10_tell_59 : decode cX10_tell 59 = .ok (.invokevirtual 291, 3) := by decide +kernel
theorem dX10_tell_62 : decode cX10_tell 62 = .ok (.aload_n 0, 1) := by decide +kernel
theorem dX10_tell_63 : decode cX10_tell 63 = .ok (.getfield 22, 3) := by decide +kernel
theorem dX10_tell_66 : decode cX10_tell 66 = .ok (.iload_n 3, 1) := by decide +kernel
theorem dX10_tell_67 : decode cX10_tell 67 = .ok (.iaload, 1) := by decide +kernel
theorem dX10_tell_68 : decode cX10_tell 68 = .ok (.aload_n 0, 1) := by decide +kernel
theorem dX10_tell_69 : decode cX10_tell 69 = .ok (.getfield 25, 3) := by decide +kernel
theorem dX10_tell_72 : decode cX10_tell 72 = .ok (.iload_n 3, 1) := by decide +kernel
theorem dX10_tell_73 : decode cX10_tell 73 = .ok (.iaload, 1) := by decide +kernel
theorem dX10_tell_74 : decode cX10_tell 74 = .ok (.iadd, 1) := by decide +kernel
theorem dX10_tell_75 : decode cX10_tell 75 = .ok (.aload_n 0, 1) := by decide +kernel
theorem dX10_tell_76 : decode cX10_tell 76 = .ok (.getfield 28, 3) := by decide +kernel
theorem dX10_tell_79 : decode cX10_tell 79 = .ok (.iload_n 3, 1) := by decide +kernel
theorem dX10_tell_80 : decode cX10_tell 80 = .ok (.iaload, 1) := by decide +kernel
theorem dX10_tell_81 : decode cX10_tell 81 = .ok (.iadd, 1) := by decide +kernel
theorem dX10_tell_82 : decode cX10_tell 82 = .ok (.ireturn, 1) := by decide +kernel
theorem dX10_tell_83 : decode cX10_tell 83 = .ok (.aload_n 0, 1) := by decide +kernel
theorem dX10_tell_84 : decode cX10_tell 84 = .ok (.iconst 3, 1) := by decide +kernel
theorem dX10_tell_85 : decode cX10_tell 85 = .ok (.invokevirtual 291, 3) := by decide +kernel
theorem dX10_tell_88 : decode cX10_tell 88 = .ok (.aload_n 0, 1) := by decide +kernel
theorem dX10_tell_89 : decode cX10_tell 89 = .ok (.iconst 2, 1) := by decide +kernel
theorem dX10_tell_90 : decode cX10_tell 90 = .ok (.invokevirtual 291, 3) := by decide +kernel
theorem dX10_tell_93 : decode cX10_tell 93 = .ok (.aload_n 0, 1) := by decide +kernel
theorem dX10_tell_94 : decode cX10_tell 94 = .ok (.iconst 1, 1) := by decide +kernel
theorem dX10_tell_95 : decode cX10_tell 95 = .ok (.invokevirtual 291, 3) := by decide +kernel
theorem dX10_tell_98 : decode cX10_tell 98 = .ok (.aload_n 0, 1) := by decide +kernel
theorem dX10_tell_99 : decode cX10_tell 99 = .ok (.iconst 1, 1) := by decide +kernel
theorem dX10_tell_100 : decode cX10_tell 100 = .ok (.invokevirtual 291, 3) := by decide +kernel
theorem dX10_tell_103 : decode cX10_tell 103 = .ok (.iconst 2, 1) := by decide +kernel
theorem dX10_tell_104 : decode cX10_tell 104 = .ok (.aload_n 0, 1) := by decide +kernel
theorem dX10_tell_105 : decode cX10_tell 105 = .ok (.getfield 22, 3) := by decide +kernel
theorem dX10_tell_108 : decode cX10_tell 108 = .ok (.iload_n 3, 1) := by decide +kernel
theorem dX10_tell_109 : decode cX10_tell 109 = .ok (.iaload, 1) := by decide +kernel
theorem dX10_tell_110 : decode cX10_tell 110 = .ok (.imul, 1) := by decide +kernel
theorem dX10_tell_111 : decode cX10_tell 111 = .ok (.aload_n 0, 1) := by decide +kernel
theorem dX10_tell_112 : decode cX10_tell 112 = .ok (.getfield 25, 3) := by decide +kernel
theorem dX10_tell_115 : decode cX10_tell 115 = .ok (.iload_n 3, 1) := by decide +kernel
theorem dX10_tell_116 : decode cX10_tell 116 = .ok (.iaload, 1) := by decide +kernel
theorem dX10_tell_117 : decode cX10_tell 117 = .ok (.iadd, 1) := by decide +kernel
theorem dX10_tell_118 : decode cX10_tell 118 = .ok (.aload_n 0, 1) := by decide +kernel
theorem dX10_tell_119 : decode cX10_tell 119 = .ok (.getfield 28, 3) := by decide +kernel
theorem dX10_tell_122 : decode cX10_tell 122 = .ok (.iload_n 3, 1) := by decide +kernel
theorem dX10_tell_123 : decode cX10_tell 123 = .ok (.iaload, 1) := by decide +kernel
theorem dX10_tell_124 : decode cX10_tell 124 = .ok (.iadd, 1) := by decide +kernel
theorem dX10_tell_125 : decode cX10_tell 125 = .ok (.ireturn, 1) := by decide +kernel
theorem dX10_tell_126 : decode cX10_tell 126 = .ok (.aload_n 0, 1) := by decide +kernel
theorem dX10_tell_127 : decode cX10_tell 127 = .ok (.iconst 1, 1) := by decide +kernel
theorem dX10_tell_128 : decode cX10_tell 128 = .ok (.invokevirtual 291, 3) := by decide +kernel
theorem dX10_tell_131 : decode cX10_tell 131 = .ok (.aload_n 0, 1) := by decide +kernel
theorem dX10_tell_132 : decode cX10_tell 132 = .ok (.getfield 22, 3) := by decide +kernel
theorem dX10_tell_135 : decode cX10_tell 135 = .ok (.iload_n 3, 1) := by decide +kernel
theorem dX10_tell_136 : decode cX10_tell 136 = .ok (.iaload, 1) := by decide +kernel
theorem dX10_tell_137 : decode cX10_tell 137 = .ok (.ireturn, 1) := by decide +kernel
set_option maxRecDepth 20000 in
theorem ggX10_show_X10_isLine : GoodIn wsX10_show wsX10_isLine := goodIn_r _ [5, 6, 7, 8, 9, 4, 10, 11, 22, 23, 24, 25, 26, 27, 28, 29, 30, 31, 32, 33, 34, 35, 36, 37, 38, 39, 40, 41, 42, 43, 44, 45, 46, 47, 48, 49, 50, 51, 52, 53] (by decide +kernel) (by decide +kernel)
set_option maxRecDepth 20000 in
theorem gX10_show_X10_isLine : GoodIn wsX10_show (wsV RX10 160 RX10 yX10_isLine wsX10_isLine) := goodIn_app (goodIn_of _ (by decide +kernel)) ggX10_show_X10_isLine
set_option maxRecDepth 20000 in
theorem ggX10_show_X10_kindOf : GoodIn wsX10_show wsX10_kindOf := goodIn_r _ [15, 16, 6, 22, 23, 24, 25, 26, 27, 28, 29, 30, 31, 32, 33, 34, 35, 36, 37, 38, 39, 40, 41, 42, 43, 44, 45, 46, 47, 48, 49, 50, 51, 52, 53] (by decide +kernel) (by decide +kernel)
set_option maxRecDepth 20000 in
theorem gX10_show_X10_kindOf : GoodIn wsX10_show (wsV RX10 163 RX10 yX10_kindOf wsX10_kindOf) := goodIn_app (goodIn_of _ (by decide +kernel)) ggX10_show_X10_kindOf
set_option maxRecDepth 20000 in
theorem ggX10_show_X10_begins : GoodIn wsX10_show wsX10_begins := goodIn_r _ [20, 21, 22, 23, 24, 25, 26, 27, 28, 29, 30, 31, 32, 33, 34, 35, 36, 37, 38, 39, 40, 41, 42, 43, 44, 45, 46, 47, 48, 49, 50, 51, 52, 53] (by decide +kernel) (by decide +kernel)
set_option maxRecDepth 20000 in
theorem gX10_show_X10_begins : GoodIn wsX10_show (wsV RX10 291 RX10 yX10_begins wsX10_begins) := goodIn_app (goodIn_of _ (by decide +kernel)) ggX10_show_X10_begins
theorem dX10_show_0 : decode cX10_show 0 = .ok (.aload_n 0, 1) := by decide +kernel
theorem dX10_show_1 : decode cX10_show 1 = .ok (.iload_n 1, 1) := by decide +kernel
theorem dX10_show_2 : decode cX10_show 2 = .ok (.iload_n 2, 1) := by decide +kernel
theorem dX10_show_3 : decode cX10_show 3 = .ok (.invokevirtual 160, 3) := by decide +kernel
theorem dX10_show_6 : decode cX10_show 6 = .ok (.ifCond .ne 5, 3) := by decide +kernel
theorem dX10_show_9 : decode cX10_show 9 = .ok (.iconst (-1), 1) := by decide +kernel
theorem dX10_show_10 : decode cX10_show 10 = .ok (.ireturn, 1) := by decide +kernel
theorem dX10_show_11 : decode cX10_show 11 = .ok (.aload_n 0, 1) := by decide +kernel
theorem dX10_show_12 : decode cX10_show 12 = .ok (.aload_n 0, 1) := by decide +kernel
theorem dX10_show_13 : decode cX10_show 13 = .ok (.iload_n 1, 1) := by decide +kernel
theorem dX10_show_14 : decode cX10_show 14 = .ok (.iload_n 2, 1) := by decide +kernel
theorem dX10_show_15 : decode cX10_show 15 = .ok (.invokevirtual 163, 3) := by decide +kernel
theorem dX10_show_18 : decode cX10_show 18 = .ok (.iconst 2, 1) := by decide +kernel
theorem dX10_show_19 : decode cX10_show 19 = .ok (.if_icmp .ne 7, 3) := by decide +kernel
theorem dX10_show_22 : decode cX10_show 22 = .ok (.iconst 5, 1) := by decide +kernel
theorem dX10_show_23 : decode cX10_show 23 = .ok (.goto 4, 3) := by decide +kernel
theorem dX10_show_26 : decode cX10_show 26 = .ok (.iconst 4, 1) := by decide +kernel
theorem dX10_show_27 : decode cX10_show 27 = .ok (.invokevirtual 291, 3) := by decide +kernel
theorem dX10_show_30 : decode cX10_show 30 = .ok (.aload_n 0, 1) := by decide +kernel
theorem dX10_show_31 : decode cX10_show 31 = .ok (.iload_n 1, 1) := by decide +kernel
theorem dX10_show_32 : decode cX10_show 32 = .ok (.iload_n 2, 1) := by decide +kernel
theorem dX10_show_33 : decode cX10_show 33 = .ok (.invokevirtual 163, 3) := by decide +kernel
theorem dX10_show_36 : decode cX10_show 36 = .ok (.iconst 2, 1) := by decide +kernel
theorem dX10_show_37 : decode cX10_show 37 = .ok (.if_icmp .ne 8, 3) := by decide +kernel
theorem dX10_show_40 : decode cX10_show 40 = .ok (.bipush 90, 2) := by decide +kernel
theorem dX10_show_42 : decode cX10_show 42 = .ok (.goto 4, 3) := by decide +kernel
theorem dX10_show_45 : decode cX10_show 45 = .ok (.iload_n 2, 1) := by decide +kernel
theorem dX10_show_46 : decode cX10_show 46 = .ok (.ireturn, 1) := by decide +kernel
set_option maxRecDepth 20000 in
theorem ggX10_as_X10_isLine : GoodIn wsX10_as wsX10_isLine := goodIn_r _ [6, 7, 8, 9, 10, 5, 11, 12, 25, 26, 27, 28, 29, 30, 31, 32, 33, 34, 35, 36, 37, 38, 39, 40, 41, 42, 43, 44, 45, 46, 47, 48, 49, 50, 51, 52, 53, 54, 55, 56] (by decide +kernel) (by decide +kernel)
set_option maxRecDepth 20000 in
theorem gX10_as_X10_isLine : GoodIn wsX10_as (wsV RX10 160 RX10 yX10_isLine wsX10_isLine) := goodIn_app (goodIn_of _ (by decide +kernel)) ggX10_as_X10_isLine
set_option maxRecDepth 20000 in
theorem ggX10_as_X10_within : GoodIn wsX10_as wsX10_within := goodIn_r _ [15] (by decide +kernel) (by decide +kernel)
set_option maxRecDepth 20000 in
theorem gX10_as_X10_within : GoodIn wsX10_as (va_wsS RX10 92 yX10_within wsX10_within) := goodIn_app (goodIn_of _ (by decide +kernel)) ggX10_as_X10_within
set_option maxRecDepth 20000 in
theorem ggX10_as_X10_kindOf : GoodIn wsX10_as wsX10_kindOf := goodIn_r _ [19, 20, 7, 25, 26, 27, 28, 29, 30, 31, 32, 33, 34, 35, 36, 37, 38, 39, 40, 41, 42, 43, 44, 45, 46, 47, 48, 49, 50, 51, 52, 53, 54, 55, 56] (by decide +kernel) (by decide +kernel)
set_option maxRecDepth 20000 in
theorem gX10_as_X10_kindOf : GoodIn wsX10_as (wsV RX10 163 RX10 yX10_kindOf wsX10_kindOf) := goodIn_app (goodIn_of _ (by decide +kernel)) ggX10_as_X10_kindOf
set_option maxRecDepth 20000 in
theorem ggX10_as_X10_fails : GoodIn wsX10_as wsX10_fails := goodIn_r _ [24, 1, 25, 26, 27, 28, 29, 30, 31, 32, 33, 34, 35, 36, 37, 38, 39, 40, 41, 42, 43, 44, 45, 46, 47, 48, 49, 50, 51, 52, 53, 54, 55, 56] (by decide +kernel) (by decide +kernel)
set_option maxRecDepth 20000 in
theorem gX10_as_X10_fails : GoodIn wsX10_as (wsV RX10 151 RX10 yX10_fails wsX10_fails) := goodIn_app (goodIn_of _ (by decide +kernel)) ggX10_as_X10_fails
theorem dX10_as_0 : decode cX10_as 0 = .ok (.aload_n 0, 1) := by decide +kernel
theorem dX10_as_1 : decode cX10_as 1 = .ok (.iconst 0, 1) := by decide +kernel
theorem dX10_as_2 : decode cX10_as 2 = .ok (.putfield 86, 3) := by decide +kernel
theorem dX10_as_5 : decode cX10_as 5 = .ok (.aload_n 0, 1) := by decide +kernel
theorem dX10_as_6 : decode cX10_as 6 = .ok (.iload_n 1, 1) := by decide +kernel
theorem dX10_as_7 : decode cX10_as 7 = .ok (.iload_n 2, 1) := by decide +kernel
theorem dX10_as_8 : decode cX10_as 8 = .ok (.invokevirtual 160, 3) := by decide +kernel
theorem dX10_as_11 : decode cX10_as 11 = .ok (.ifCond .ne 5, 3) := by decide +kernel
theorem dX10_as_14 : decode cX10_as 14 = .ok (.iconst (-1), 1) := by decide +kernel
theorem dX10_as_15 : decode cX10_as 15 = .ok (.ireturn, 1) := by decide +kernel
theorem dX10_as_16 : decode cX10_as 16 = .ok (.iload_n 3, 1) := by decide +kernel
theorem dX10_as_17 : decode cX10_as 17 = .ok (.iconst 0, 1) := by decide +kernel
theorem dX10_as_18 : decode cX10_as 18 = .ok (.iconst 2, 1) := by decide +kernel
theorem dX10_as_19 : decode cX10_as 19 = .ok (.invokestatic 92, 3) := by decide +kernel
theorem dX10_as_22 : decode cX10_as 22 = .ok (.ifCond .ne 6, 3) := by decide +kernel
theorem dX10_as_25 : decode cX10_as 25 = .ok (.bipush (-2), 2) := by decide +kernel
theorem dX10_as_27 : decode cX10_as 27 = .ok (.ireturn, 1) := by decide +kernel
theorem dX10_as_28 : decode cX10_as 28 = .ok (.aload_n 0, 1) := by decide +kernel
theorem dX10_as_29 : decode cX10_as 29 = .ok (.iload_n 1, 1) := by decide +kernel
theorem dX10_as_30 : decode cX10_as 30 = .ok (.iload_n 2, 1) := by decide +kernel
theorem dX10_as_31 : decode cX10_as 31 = .ok (.invokevirtual 163, 3) := by decide +kernel
theorem dX10_as_34 : decode cX10_as 34 = .ok (.iload_n 3, 1) := by decide +kernel
theorem dX10_as_35 : decode cX10_as 35 = .ok (.if_icmp .lt 7, 3) := by decide +kernel
theorem dX10_as_38 : decode cX10_as 38 = .ok (.iconst 1, 1) := by decide +kernel
theorem dX10_as_39 : decode cX10_as 39 = .ok (.goto 8, 3) := by decide +kernel
theorem dX10_as_42 : decode cX10_as 42 = .ok (.aload_n 0, 1) := by decide +kernel
theorem dX10_as_43 : decode cX10_as 43 = .ok (.iconst 2, 1) := by decide +kernel
theorem dX10_as_44 : decode cX10_as 44 = .ok (.invokevirtual 151, 3) := by decide +kernel
theorem dX10_as_47 : decode cX10_as 47 = .ok (.ireturn, 1) := by decide +kernel
theorem dX10_trace_0 : decode cX10_trace 0 = .ok (.aload_n 0, 1) := by decide +kernel
theorem dX10_trace_1 : decode cX10_trace 1 = .ok (.getfield 288, 3) := by decide +kernel
theorem dX10_trace_4 : decode cX10_trace 4 = .ok (.ireturn, 1) := by decide +kernel
theorem dX10_fault_0 : decode cX10_fault 0 = .ok (.aload_n 0, 1) := by decide +kernel
theorem dX10_fault_1 : decode cX10_fault 1 = .ok (.getfield 86, 3) := by decide +kernel
theorem dX10_fault_4 : decode cX10_fault 4 = .ok (.ireturn, 1) := by decide +kernel
theorem dX10_many_0 : decode cX10_many 0 = .ok (.iconst 0, 1) := by decide +kernel
theorem dX10_many_1 : decode cX10_many 1 = .ok (.istore_n 2, 1) := by decide +kernel
theorem dX10_many_2 : decode cX10_many 2 = .ok (.iconst 0, 1) := by decide +kernel
theorem dX10_many_3 : decode cX10_many 3 = .ok (.istore_n 3, 1) := by decide +kernel
theorem dX10_many_4 : decode cX10_many 4 = .ok (.iload_n 3, 1) := by decide +kernel
theorem dX10_many_5 : decode cX10_many 5 = .ok (.aload_n 0, 1) := by decide +kernel
theorem dX10_many_6 : decode cX10_many 6 = .ok (.getfield 108, 3) := by decide +kernel
theorem dX10_many_9 : decode cX10_many 9 = .ok (.if_icmp .ge 18, 3) := by decide +kernel
theorem dX10_many_12 : decode cX10_many 12 = .ok (.iload_n 2, 1) := by decide +kernel
theorem dX10_many_13 : decode cX10_many 13 = .ok (.aload_n 0, 1) := by decide +kernel
theorem dX10_many_14 : decode cX10_many 14 = .ok (.getfield 19, 3) := by decide +kernel
theorem dX10_many_17 : decode cX10_many 17 = .ok (.iload_n 3, 1) := by decide +kernel
theorem dX10_many_18 : decode cX10_many 18 = .ok (.iaload, 1) := by decide +kernel
theorem dX10_many_19 : decode cX10_many 19 = .ok (.iadd, 1) := by decide +kernel
theorem dX10_many_20 : decode cX10_many 20 = .ok (.istore_n 2, 1) := by decide +kernel
theorem dX10_many_21 : decode cX10_many 21 = .ok (.iinc 3 1, 3) := by decide +kernel
theorem dX10_many_24 : decode cX10_many 24 = .ok (.goto (-20), 3) := by decide +kernel
theorem dX10_many_27 : decode cX10_many 27 = .ok (.iload_n 1, 1) := by decide +kernel
theorem dX10_many_28 : decode cX10_many 28 = .ok (.ifCond .ne 10, 3) := by decide +kernel
theorem dX10_many_31 : decode cX10_many 31 = .ok (.aload_n 0, 1) := by decide +kernel
theorem dX10_many_32 : decode cX10_many 32 = .ok (.getfield 108, 3) := by decide +kernel
theorem dX10_many_35 : decode cX10_many 35 = .ok (.goto 14, 3) := by decide +kernel
theorem dX10_many_38 : decode cX10_many 38 = .ok (.iload_n 1, 1) := by decide +kernel
theorem dX10_many_39 : decode cX10_many 39 = .ok (.iconst 1, 1) := by decide +kernel
theorem dX10_many_40 : decode cX10_many 40 = .ok (.if_icmp .ne 7, 3) := by decide +kernel
theorem dX10_many_43 : decode cX10_many 43 = .ok (.iload_n 2, 1) := by decide +kernel
theorem dX10_many_44 : decode cX10_many 44 = .ok (.goto 5, 3) := by decide +kernel
theorem dX10_many_47 : decode cX10_many 47 = .ok (.bipush (-2), 2) := by decide +kernel
theorem dX10_many_49 : decode cX10_many 49 = .ok (.ireturn, 1) := by decide +kernel
