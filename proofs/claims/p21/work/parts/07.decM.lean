theorem goodIn_hd {big a : List Cond} {c : Cond} (ha : GoodIn big [c]) (hb : GoodIn big a) : GoodIn big (c :: a) := fun w h => (List.mem_cons.mp h).elim (fun e => ha w (List.mem_cons.mpr (Or.inl e))) (hb w)
theorem dL_isTicked_0 : decode cL_isTicked 0 = .ok (.aload_n 0, 1) := by decide +kernel
theorem dL_isTicked_1 : decode cL_isTicked 1 = .ok (.invokevirtual 67, 3) := by decide +kernel
theorem dL_isTicked_4 : decode cL_isTicked 4 = .ok (.istore 5, 2) := by decide +kernel
theorem dL_isTicked_6 : decode cL_isTicked 6 = .ok (.iconst 0, 1) := by decide +kernel
theorem dL_isTicked_7 : decode cL_isTicked 7 = .ok (.istore 6, 2) := by decide +kernel
theorem dL_isTicked_9 : decode cL_isTicked 9 = .ok (.iload 6, 2) := by decide +kernel
theorem dL_isTicked_11 : decode cL_isTicked 11 = .ok (.aload_n 0, 1) := by decide +kernel
theorem dL_isTicked_12 : decode cL_isTicked 12 = .ok (.invokevirtual 61, 3) := by decide +kernel
theorem dL_isTicked_15 : decode cL_isTicked 15 = .ok (.if_icmp .ge 45, 3) := by decide +kernel
theorem dL_isTicked_18 : decode cL_isTicked 18 = .ok (.aload_n 3, 1) := by decide +kernel
theorem dL_isTicked_19 : decode cL_isTicked 19 = .ok (.iload 6, 2) := by decide +kernel
theorem dL_isTicked_21 : decode cL_isTicked 21 = .ok (.aload_n 0, 1) := by decide +kernel
theorem dL_isTicked_22 : decode cL_isTicked 22 = .ok (.iload 6, 2) := by decide +kernel
theorem dL_isTicked_24 : decode cL_isTicked 24 = .ok (.invokevirtual 55, 3) := by decide +kernel
theorem dL_isTicked_27 : decode cL_isTicked 27 = .ok (.iastore, 1) := by decide +kernel
theorem dL_isTicked_28 : decode cL_isTicked 28 = .ok (.aload_n 3, 1) := by decide +kernel
theorem dL_isTicked_29 : decode cL_isTicked 29 = .ok (.bipush 8, 2) := by decide +kernel
theorem dL_isTicked_31 : decode cL_isTicked 31 = .ok (.iload 6, 2) := by decide +kernel
theorem dL_isTicked_33 : decode cL_isTicked 33 = .ok (.iadd, 1) := by decide +kernel
theorem dL_isTicked_34 : decode cL_isTicked 34 = .ok (.aload_n 0, 1) := by decide +kernel
theorem dL_isTicked_35 : decode cL_isTicked 35 = .ok (.iload 6, 2) := by decide +kernel
theorem dL_isTicked_37 : decode cL_isTicked 37 = .ok (.invokevirtual 52, 3) := by decide +kernel
theorem dL_isTicked_40 : decode cL_isTicked 40 = .ok (.iastore, 1) := by decide +kernel
theorem dL_isTicked_41 : decode cL_isTicked 41 = .ok (.aload_n 3, 1) := by decide +kernel
theorem dL_isTicked_42 : decode cL_isTicked 42 = .ok (.bipush 16, 2) := by decide +kernel
theorem dL_isTicked_44 : decode cL_isTicked 44 = .ok (.iload 6, 2) := by decide +kernel
theorem dL_isTicked_46 : decode cL_isTicked 46 = .ok (.iadd, 1) := by decide +kernel
theorem dL_isTicked_47 : decode cL_isTicked 47 = .ok (.aload_n 0, 1) := by decide +kernel
theorem dL_isTicked_48 : decode cL_isTicked 48 = .ok (.iload 6, 2) := by decide +kernel
theorem dL_isTicked_50 : decode cL_isTicked 50 = .ok (.invokevirtual 49, 3) := by decide +kernel
theorem dL_isTicked_53 : decode cL_isTicked 53 = .ok (.iastore, 1) := by decide +kernel
theorem dL_isTicked_54 : decode cL_isTicked 54 = .ok (.iinc 6 1, 3) := by decide +kernel
theorem dL_isTicked_57 : decode cL_isTicked 57 = .ok (.goto (-48), 3) := by decide +kernel
theorem dL_isTicked_60 : decode cL_isTicked 60 = .ok (.aload_n 0, 1) := by decide +kernel
theorem dL_isTicked_61 : decode cL_isTicked 61 = .ok (.bipush 8, 2) := by decide +kernel
theorem dL_isTicked_63 : decode cL_isTicked 63 = .ok (.iconst 1, 1) := by decide +kernel
theorem dL_isTicked_64 : decode cL_isTicked 64 = .ok (.iconst 0, 1) := by decide +kernel
theorem dL_isTicked_65 : decode cL_isTicked 65 = .ok (.iconst 0, 1) := by decide +kernel
theorem dL_isTicked_66 : decode cL_isTicked 66 = .ok (.invokestatic 112, 3) := by decide +kernel
theorem dL_isTicked_69 : decode cL_isTicked 69 = .ok (.iconst 1, 1) := by decide +kernel
theorem dL_isTicked_70 : decode cL_isTicked 70 = .ok (.if_icmp .ne 7, 3) := by decide +kernel
theorem dL_isTicked_73 : decode cL_isTicked 73 = .ok (.iconst 1, 1) := by decide +kernel
theorem dL_isTicked_74 : decode cL_isTicked 74 = .ok (.goto 4, 3) := by decide +kernel
theorem dL_isTicked_77 : decode cL_isTicked 77 = .ok (.iconst 0, 1) := by decide +kernel
theorem dL_isTicked_78 : decode cL_isTicked 78 = .ok (.istore 6, 2) := by decide +kernel
theorem dL_isTicked_80 : decode cL_isTicked 80 = .ok (.iconst 0, 1) := by decide +kernel
theorem dL_isTicked_81 : decode cL_isTicked 81 = .ok (.istore 7, 2) := by decide +kernel
theorem dL_isTicked_83 : decode cL_isTicked 83 = .ok (.iconst 0, 1) := by decide +kernel
theorem dL_isTicked_84 : decode cL_isTicked 84 = .ok (.istore 8, 2) := by decide +kernel
theorem dL_isTicked_86 : decode cL_isTicked 86 = .ok (.iconst 0, 1) := by decide +kernel
theorem dL_isTicked_87 : decode cL_isTicked 87 = .ok (.istore 9, 2) := by decide +kernel
theorem dL_isTicked_89 : decode cL_isTicked 89 = .ok (.iload 9, 2) := by decide +kernel
theorem dL_isTicked_91 : decode cL_isTicked 91 = .ok (.aload_n 0, 1) := by decide +kernel
theorem dL_isTicked_92 : decode cL_isTicked 92 = .ok (.invokevirtual 61, 3) := by decide +kernel
theorem dL_isTicked_95 : decode cL_isTicked 95 = .ok (.if_icmp .ge 477, 3) := by decide +kernel
theorem dL_isTicked_98 : decode cL_isTicked 98 = .ok (.iload 6, 2) := by decide +kernel
theorem dL_isTicked_100 : decode cL_isTicked 100 = .ok (.ifCond .eq 472, 3) := by decide +kernel
theorem dL_isTicked_103 : decode cL_isTicked 103 = .ok (.bipush 8, 2) := by decide +kernel
theorem dL_isTicked_105 : decode cL_isTicked 105 = .ok (.iload 9, 2) := by decide +kernel
theorem dL_isTicked_107 : decode cL_isTicked 107 = .ok (.imul, 1) := by decide +kernel
theorem dL_isTicked_108 : decode cL_isTicked 108 = .ok (.istore 10, 2) := by decide +kernel
theorem dL_isTicked_110 : decode cL_isTicked 110 = .ok (.aload_n 0, 1) := by decide +kernel
theorem dL_isTicked_111 : decode cL_isTicked 111 = .ok (.iload 9, 2) := by decide +kernel
theorem dL_isTicked_113 : decode cL_isTicked 113 = .ok (.invokevirtual 55, 3) := by decide +kernel
theorem dL_isTicked_116 : decode cL_isTicked 116 = .ok (.istore 11, 2) := by decide +kernel
theorem dL_isTicked_118 : decode cL_isTicked 118 = .ok (.aload_n 3, 1) := by decide +kernel
theorem dL_isTicked_119 : decode cL_isTicked 119 = .ok (.iload 9, 2) := by decide +kernel
theorem dL_isTicked_121 : decode cL_isTicked 121 = .ok (.iaload, 1) := by decide +kernel
theorem dL_isTicked_122 : decode cL_isTicked 122 = .ok (.iconst 1, 1) := by decide +kernel
theorem dL_isTicked_123 : decode cL_isTicked 123 = .ok (.if_icmp .ne 7, 3) := by decide +kernel
theorem dL_isTicked_126 : decode cL_isTicked 126 = .ok (.iconst 1, 1) := by decide +kernel
theorem dL_isTicked_127 : decode cL_isTicked 127 = .ok (.goto 4, 3) := by decide +kernel
theorem dL_isTicked_130 : decode cL_isTicked 130 = .ok (.iconst 0, 1) := by decide +kernel
theorem dL_isTicked_131 : decode cL_isTicked 131 = .ok (.istore 12, 2) := by decide +kernel
theorem dL_isTicked_133 : decode cL_isTicked 133 = .ok (.iload 12, 2) := by decide +kernel
theorem dL_isTicked_135 : decode cL_isTicked 135 = .ok (.ifCond .eq 22, 3) := by decide +kernel
theorem dL_isTicked_138 : decode cL_isTicked 138 = .ok (.aload_n 1, 1) := by decide +kernel
theorem dL_isTicked_139 : decode cL_isTicked 139 = .ok (.iload 10, 2) := by decide +kernel
theorem dL_isTicked_141 : decode cL_isTicked 141 = .ok (.iconst 5, 1) := by decide +kernel
theorem dL_isTicked_142 : decode cL_isTicked 142 = .ok (.iadd, 1) := by decide +kernel
theorem dL_isTicked_143 : decode cL_isTicked 143 = .ok (.iaload, 1) := by decide +kernel
theorem dL_isTicked_144 : decode cL_isTicked 144 = .ok (.iconst 1, 1) := by decide +kernel
theorem dL_isTicked_145 : decode cL_isTicked 145 = .ok (.iadd, 1) := by decide +kernel
theorem dL_isTicked_146 : decode cL_isTicked 146 = .ok (.aload_n 1, 1) := by decide +kernel
theorem dL_isTicked_147 : decode cL_isTicked 147 = .ok (.iload 10, 2) := by decide +kernel
theorem dL_isTicked_149 : decode cL_isTicked 149 = .ok (.iaload, 1) := by decide +kernel
theorem dL_isTicked_150 : decode cL_isTicked 150 = .ok (.if_icmp .lt 7, 3) := by decide +kernel
theorem dL_isTicked_153 : decode cL_isTicked 153 = .ok (.iconst 1, 1) := by decide +kernel
theorem dL_isTicked_154 : decode cL_isTicked 154 = .ok (.goto 4, 3) := by decide +kernel
theorem dL_isTicked_157 : decode cL_isTicked 157 = .ok (.iconst 0, 1) := by decide +kernel
theorem dL_isTicked_158 : decode cL_isTicked 158 = .ok (.istore 13, 2) := by decide +kernel
theorem dL_isTicked_160 : decode cL_isTicked 160 = .ok (.iload 13, 2) := by decide +kernel
theorem dL_isTicked_162 : decode cL_isTicked 162 = .ok (.ifCond .eq 17, 3) := by decide +kernel
theorem dL_isTicked_165 : decode cL_isTicked 165 = .ok (.aload_n 3, 1) := by decide +kernel
theorem dL_isTicked_166 : decode cL_isTicked 166 = .ok (.bipush 8, 2) := by decide +kernel
theorem dL_isTicked_168 : decode cL_isTicked 168 = .ok (.iload 9, 2) := by decide +kernel
theorem dL_isTicked_170 : decode cL_isTicked 170 = .ok (.iadd, 1) := by decide +kernel
theorem dL_isTicked_171 : decode cL_isTicked 171 = .ok (.iaload, 1) := by decide +kernel
theorem dL_isTicked_172 : decode cL_isTicked 172 = .ok (.ifCond .le 7, 3) := by decide +kernel
theorem dL_isTicked_175 : decode cL_isTicked 175 = .ok (.iconst 1, 1) := by decide +kernel
theorem dL_isTicked_176 : decode cL_isTicked 176 = .ok (.goto 4, 3) := by decide +kernel
theorem dL_isTicked_179 : decode cL_isTicked 179 = .ok (.iconst 0, 1) := by decide +kernel
theorem dL_isTicked_180 : decode cL_isTicked 180 = .ok (.istore 14, 2) := by decide +kernel
theorem dL_isTicked_182 : decode cL_isTicked 182 = .ok (.iload 14, 2) := by decide +kernel
theorem dL_isTicked_184 : decode cL_isTicked 184 = .ok (.ifCond .eq 23, 3) := by decide +kernel
theorem dL_isTicked_187 : decode cL_isTicked 187 = .ok (.aload_n 1, 1) := by decide +kernel
theorem dL_isTicked_188 : decode cL_isTicked 188 = .ok (.iload 10, 2) := by decide +kernel
theorem dL_isTicked_190 : decode cL_isTicked 190 = .ok (.bipush 6, 2) := by decide +kernel
theorem dL_isTicked_192 : decode cL_isTicked 192 = .ok (.iadd, 1) := by decide +kernel
theorem dL_isTicked_193 : decode cL_isTicked 193 = .ok (.iaload, 1) := by decide +kernel
theorem dL_isTicked_194 : decode cL_isTicked 194 = .ok (.aload_n 1, 1) := by decide +kernel
theorem dL_isTicked_195 : decode cL_isTicked 195 = .ok (.iload 10, 2) := by decide +kernel
theorem dL_isTicked_197 : decode cL_isTicked 197 = .ok (.iconst 1, 1) := by decide +kernel
theorem dL_isTicked_198 : decode cL_isTicked 198 = .ok (.iadd, 1) := by decide +kernel
theorem dL_isTicked_199 : decode cL_isTicked 199 = .ok (.iaload, 1) := by decide +kernel
theorem dL_isTicked_200 : decode cL_isTicked 200 = .ok (.if_icmp .ge 7, 3) := by decide +kernel
theorem dL_isTicked_203 : decode cL_isTicked 203 = .ok (.iconst 1, 1) := by decide +kernel
theorem dL_isTicked_204 : decode cL_isTicked 204 = .ok (.goto 4, 3) := by decide +kernel
theorem dL_isTicked_207 : decode cL_isTicked 207 = .ok (.iconst 0, 1) := by decide +kernel
theorem dL_isTicked_208 : decode cL_isTicked 208 = .ok (.istore 15, 2) := by decide +kernel
theorem dL_isTicked_210 : decode cL_isTicked 210 = .ok (.aload_n 1, 1) := by decide +kernel
theorem dL_isTicked_211 : decode cL_isTicked 211 = .ok (.iload 10, 2) := by decide +kernel
theorem dL_isTicked_213 : decode cL_isTicked 213 = .ok (.iconst 5, 1) := by decide +kernel
theorem dL_isTicked_214 : decode cL_isTicked 214 = .ok (.iadd, 1) := by decide +kernel
theorem dL_isTicked_215 : decode cL_isTicked 215 = .ok (.iload 11, 2) := by decide +kernel
theorem dL_isTicked_217 : decode cL_isTicked 217 = .ok (.iconst 1, 1) := by decide +kernel
theorem dL_isTicked_218 : decode cL_isTicked 218 = .ok (.if_icmp .eq 7, 3) := by decide +kernel
theorem dL_isTicked_221 : decode cL_isTicked 221 = .ok (.iconst 0, 1) := by decide +kernel
theorem dL_isTicked_222 : decode cL_isTicked 222 = .ok (.goto 25, 3) := by decide +kernel
theorem dL_isTicked_225 : decode cL_isTicked 225 = .ok (.iload 12, 2) := by decide +kernel
theorem dL_isTicked_227 : decode cL_isTicked 227 = .ok (.ifCond .eq 19, 3) := by decide +kernel
theorem dL_isTicked_230 : decode cL_isTicked 230 = .ok (.iload 13, 2) := by decide +kernel
theorem dL_isTicked_232 : decode cL_isTicked 232 = .ok (.ifCond .ne 14, 3) := by decide +kernel
theorem dL_isTicked_235 : decode cL_isTicked 235 = .ok (.aload_n 1, 1) := by decide +kernel
theorem dL_isTicked_236 : decode cL_isTicked 236 = .ok (.iload 10, 2) := by decide +kernel
theorem dL_isTicked_238 : decode cL_isTicked 238 = .ok (.iconst 5, 1) := by decide +kernel
theorem dL_isTicked_239 : decode cL_isTicked 239 = .ok (.iadd, 1) := by decide +kernel
theorem dL_isTicked_240 : decode cL_isTicked 240 = .ok (.iaload, 1) := by decide +kernel
theorem dL_isTicked_241 : decode cL_isTicked 241 = .ok (.iconst 1, 1) := by decide +kernel
theorem dL_isTicked_242 : decode cL_isTicked 242 = .ok (.iadd, 1) := by decide +kernel
theorem dL_isTicked_243 : decode cL_isTicked 243 = .ok (.goto 4, 3) := by decide +kernel
theorem dL_isTicked_246 : decode cL_isTicked 246 = .ok (.iconst 0, 1) := by decide +kernel
theorem dL_isTicked_247 : decode cL_isTicked 247 = .ok (.iastore, 1) := by decide +kernel
theorem dL_isTicked_248 : decode cL_isTicked 248 = .ok (.aload_n 1, 1) := by decide +kernel
theorem dL_isTicked_249 : decode cL_isTicked 249 = .ok (.iload 10, 2) := by decide +kernel
theorem dL_isTicked_251 : decode cL_isTicked 251 = .ok (.bipush 6, 2) := by decide +kernel
theorem dL_isTicked_253 : decode cL_isTicked 253 = .ok (.iadd, 1) := by decide +kernel
theorem dL_isTicked_254 : decode cL_isTicked 254 = .ok (.dup2, 1) := by decide +kernel
theorem dL_isTicked_255 : decode cL_isTicked 255 = .ok (.iaload, 1) := by decide +kernel
theorem dL_isTicked_256 : decode cL_isTicked 256 = .ok (.iload 15, 2) := by decide +kernel
theorem dL_isTicked_258 : decode cL_isTicked 258 = .ok (.ifCond .eq 7, 3) := by decide +kernel
theorem dL_isTicked_261 : decode cL_isTicked 261 = .ok (.iconst 1, 1) := by decide +kernel
theorem dL_isTicked_262 : decode cL_isTicked 262 = .ok (.goto 4, 3) := by decide +kernel
theorem dL_isTicked_265 : decode cL_isTicked 265 = .ok (.iconst 0, 1) := by decide +kernel
theorem dL_isTicked_266 : decode cL_isTicked 266 = .ok (.iadd, 1) := by decide +kernel
theorem dL_isTicked_267 : decode cL_isTicked 267 = .ok (.iastore, 1) := by decide +kernel
theorem dL_isTicked_268 : decode cL_isTicked 268 = .ok (.iload 7, 2) := by decide +kernel
theorem dL_isTicked_270 : decode cL_isTicked 270 = .ok (.iload 11, 2) := by decide +kernel
theorem dL_isTicked_272 : decode cL_isTicked 272 = .ok (.iconst 1, 1) := by decide +kernel
theorem dL_isTicked_273 : decode cL_isTicked 273 = .ok (.if_icmp .ne 7, 3) := by decide +kernel
theorem dL_isTicked_276 : decode cL_isTicked 276 = .ok (.iconst 1, 1) := by decide +kernel
theorem dL_isTicked_277 : decode cL_isTicked 277 = .ok (.goto 4, 3) := by decide +kernel
theorem dL_isTicked_280 : decode cL_isTicked 280 = .ok (.iconst 0, 1) := by decide +kernel
theorem dL_isTicked_281 : decode cL_isTicked 281 = .ok (.iadd, 1) := by decide +kernel
theorem dL_isTicked_282 : decode cL_isTicked 282 = .ok (.istore 7, 2) := by decide +kernel
theorem dL_isTicked_284 : decode cL_isTicked 284 = .ok (.iload 8, 2) := by decide +kernel
theorem dL_isTicked_286 : decode cL_isTicked 286 = .ok (.iload 11, 2) := by decide +kernel
theorem dL_isTicked_288 : decode cL_isTicked 288 = .ok (.iconst 2, 1) := by decide +kernel
theorem dL_isTicked_289 : decode cL_isTicked 289 = .ok (.if_icmp .eq 9, 3) := by decide +kernel
theorem dL_isTicked_292 : decode cL_isTicked 292 = .ok (.iload 11, 2) := by decide +kernel
theorem dL_isTicked_294 : decode cL_isTicked 294 = .ok (.iconst 3, 1) := by decide +kernel
theorem dL_isTicked_295 : decode cL_isTicked 295 = .ok (.if_icmp .ne 13, 3) := by decide +kernel
theorem dL_isTicked_298 : decode cL_isTicked 298 = .ok (.aload_n 1, 1) := by decide +kernel
theorem dL_isTicked_299 : decode cL_isTicked 299 = .ok (.iload 10, 2) := by decide +kernel
theorem dL_isTicked_301 : decode cL_isTicked 301 = .ok (.bipush 7, 2) := by decide +kernel
theorem dL_isTicked_303 : decode cL_isTicked 303 = .ok (.iadd, 1) := by decide +kernel
theorem dL_isTicked_304 : decode cL_isTicked 304 = .ok (.iaload, 1) := by decide +kernel
theorem dL_isTicked_305 : decode cL_isTicked 305 = .ok (.goto 45, 3) := by decide +kernel
theorem dL_isTicked_308 : decode cL_isTicked 308 = .ok (.iload 11, 2) := by decide +kernel
theorem dL_isTicked_310 : decode cL_isTicked 310 = .ok (.iconst 1, 1) := by decide +kernel
theorem dL_isTicked_311 : decode cL_isTicked 311 = .ok (.if_icmp .ne 38, 3) := by decide +kernel
theorem dL_isTicked_314 : decode cL_isTicked 314 = .ok (.aload_n 1, 1) := by decide +kernel
theorem dL_isTicked_315 : decode cL_isTicked 315 = .ok (.iload 10, 2) := by decide +kernel
theorem dL_isTicked_317 : decode cL_isTicked 317 = .ok (.iconst 5, 1) := by decide +kernel
theorem dL_isTicked_318 : decode cL_isTicked 318 = .ok (.iadd, 1) := by decide +kernel
theorem dL_isTicked_319 : decode cL_isTicked 319 = .ok (.iaload, 1) := by decide +kernel
theorem dL_isTicked_320 : decode cL_isTicked 320 = .ok (.aload_n 1, 1) := by decide +kernel
theorem dL_isTicked_321 : decode cL_isTicked 321 = .ok (.iload 10, 2) := by decide +kernel
theorem dL_isTicked_323 : decode cL_isTicked 323 = .ok (.bipush 7, 2) := by decide +kernel
theorem dL_isTicked_325 : decode cL_isTicked 325 = .ok (.iadd, 1) := by decide +kernel
theorem dL_isTicked_326 : decode cL_isTicked 326 = .ok (.iaload, 1) := by decide +kernel
theorem dL_isTicked_327 : decode cL_isTicked 327 = .ok (.if_icmp .ge 12, 3) := by decide +kernel
theorem dL_isTicked_330 : decode cL_isTicked 330 = .ok (.aload_n 1, 1) := by decide +kernel
theorem dL_isTicked_331 : decode cL_isTicked 331 = .ok (.iload 10, 2) := by decide +kernel
theorem dL_isTicked_333 : decode cL_isTicked 333 = .ok (.iconst 5, 1) := by decide +kernel
theorem dL_isTicked_334 : decode cL_isTicked 334 = .ok (.iadd, 1) := by decide +kernel
theorem dL_isTicked_335 : decode cL_isTicked 335 = .ok (.iaload, 1) := by decide +kernel
theorem dL_isTicked_336 : decode cL_isTicked 336 = .ok (.goto 14, 3) := by decide +kernel
theorem dL_isTicked_339 : decode cL_isTicked 339 = .ok (.aload_n 1, 1) := by decide +kernel
theorem dL_isTicked_340 : decode cL_isTicked 340 = .ok (.iload 10, 2) := by decide +kernel
theorem dL_isTicked_342 : decode cL_isTicked 342 = .ok (.bipush 7, 2) := by decide +kernel
theorem dL_isTicked_344 : decode cL_isTicked 344 = .ok (.iadd, 1) := by decide +kernel
theorem dL_isTicked_345 : decode cL_isTicked 345 = .ok (.iaload, 1) := by decide +kernel
theorem dL_isTicked_346 : decode cL_isTicked 346 = .ok (.goto 4, 3) := by decide +kernel
theorem dL_isTicked_349 : decode cL_isTicked 349 = .ok (.iconst 0, 1) := by decide +kernel
theorem dL_isTicked_350 : decode cL_isTicked 350 = .ok (.iadd, 1) := by decide +kernel
theorem dL_isTicked_351 : decode cL_isTicked 351 = .ok (.istore 8, 2) := by decide +kernel
theorem dL_isTicked_353 : decode cL_isTicked 353 = .ok (.aload_n 3, 1) := by decide +kernel
theorem dL_isTicked_354 : decode cL_isTicked 354 = .ok (.bipush 16, 2) := by decide +kernel
theorem dL_isTicked_356 : decode cL_isTicked 356 = .ok (.iload 9, 2) := by decide +kernel
theorem dL_isTicked_358 : decode cL_isTicked 358 = .ok (.iadd, 1) := by decide +kernel
theorem dL_isTicked_359 : decode cL_isTicked 359 = .ok (.iaload, 1) := by decide +kernel
theorem dL_isTicked_360 : decode cL_isTicked 360 = .ok (.aload_n 1, 1) := by decide +kernel
theorem dL_isTicked_361 : decode cL_isTicked 361 = .ok (.iload 10, 2) := by decide +kernel
theorem dL_isTicked_363 : decode cL_isTicked 363 = .ok (.iaload, 1) := by decide +kernel
theorem dL_isTicked_364 : decode cL_isTicked 364 = .ok (.iadd, 1) := by decide +kernel
theorem dL_isTicked_365 : decode cL_isTicked 365 = .ok (.iconst 2, 1) := by decide +kernel
theorem dL_isTicked_366 : decode cL_isTicked 366 = .ok (.idiv, 1) := by decide +kernel
theorem dL_isTicked_367 : decode cL_isTicked 367 = .ok (.istore 16, 2) := by decide +kernel
theorem dL_isTicked_369 : decode cL_isTicked 369 = .ok (.aload_n 0, 1) := by decide +kernel
theorem dL_isTicked_370 : decode cL_isTicked 370 = .ok (.iload 9, 2) := by decide +kernel
theorem dL_isTicked_372 : decode cL_isTicked 372 = .ok (.invokevirtual 52, 3) := by decide +kernel
theorem dL_isTicked_375 : decode cL_isTicked 375 = .ok (.aload_n 3, 1) := by decide +kernel
theorem dL_isTicked_376 : decode cL_isTicked 376 = .ok (.bipush 8, 2) := by decide +kernel
theorem dL_isTicked_378 : decode cL_isTicked 378 = .ok (.iload 9, 2) := by decide +kernel
theorem dL_isTicked_380 : decode cL_isTicked 380 = .ok (.iadd, 1) := by decide +kernel
theorem dL_isTicked_381 : decode cL_isTicked 381 = .ok (.iaload, 1) := by decide +kernel
theorem dL_isTicked_382 : decode cL_isTicked 382 = .ok (.iload 14, 2) := by decide +kernel
theorem dL_isTicked_384 : decode cL_isTicked 384 = .ok (.ifCond .eq 7, 3) := by decide +kernel
theorem dL_isTicked_387 : decode cL_isTicked 387 = .ok (.iconst 1, 1) := by decide +kernel
theorem dL_isTicked_388 : decode cL_isTicked 388 = .ok (.goto 4, 3) := by decide +kernel
theorem dL_isTicked_391 : decode cL_isTicked 391 = .ok (.iconst 0, 1) := by decide +kernel
theorem dL_isTicked_392 : decode cL_isTicked 392 = .ok (.isub, 1) := by decide +kernel
theorem dL_isTicked_393 : decode cL_isTicked 393 = .ok (.if_icmp .ne 48, 3) := by decide +kernel
theorem dL_isTicked_396 : decode cL_isTicked 396 = .ok (.aload_n 0, 1) := by decide +kernel
theorem dL_isTicked_397 : decode cL_isTicked 397 = .ok (.iload 9, 2) := by decide +kernel
theorem dL_isTicked_399 : decode cL_isTicked 399 = .ok (.invokevirtual 49, 3) := by decide +kernel
theorem dL_isTicked_402 : decode cL_isTicked 402 = .ok (.iload 13, 2) := by decide +kernel
theorem dL_isTicked_404 : decode cL_isTicked 404 = .ok (.ifCond .eq 23, 3) := by decide +kernel
theorem dL_isTicked_407 : decode cL_isTicked 407 = .ok (.iload 14, 2) := by decide +kernel
theorem dL_isTicked_409 : decode cL_isTicked 409 = .ok (.ifCond .ne 18, 3) := by decide +kernel
theorem dL_isTicked_412 : decode cL_isTicked 412 = .ok (.iload 16, 2) := by decide +kernel
theorem dL_isTicked_414 : decode cL_isTicked 414 = .ok (.iconst 1, 1) := by decide +kernel
theorem dL_isTicked_415 : decode cL_isTicked 415 = .ok (.if_icmp .ge 7, 3) := by decide +kernel
theorem dL_isTicked_418 : decode cL_isTicked 418 = .ok (.iconst 1, 1) := by decide +kernel
theorem dL_isTicked_419 : decode cL_isTicked 419 = .ok (.goto 15, 3) := by decide +kernel
theorem dL_isTicked_422 : decode cL_isTicked 422 = .ok (.iload 16, 2) := by decide +kernel
theorem dL_isTicked_424 : decode cL_isTicked 424 = .ok (.goto 10, 3) := by decide +kernel
theorem dL_isTicked_427 : decode cL_isTicked 427 = .ok (.aload_n 3, 1) := by decide +kernel
theorem dL_isTicked_428 : decode cL_isTicked 428 = .ok (.bipush 16, 2) := by decide +kernel
theorem dL_isTicked_430 : decode cL_isTicked 430 = .ok (.iload 9, 2) := by decide +kernel
theorem dL_isTicked_432 : decode cL_isTicked 432 = .ok (.iadd, 1) := by decide +kernel
theorem dL_isTicked_433 : decode cL_isTicked 433 = .ok (.iaload, 1) := by decide +kernel
theorem dL_isTicked_434 : decode cL_isTicked 434 = .ok (.if_icmp .ne 7, 3) := by decide +kernel
theorem dL_isTicked_437 : decode cL_isTicked 437 = .ok (.iconst 1, 1) := by decide +kernel
theorem dL_isTicked_438 : decode cL_isTicked 438 = .ok (.goto 4, 3) := by decide +kernel
theorem dL_isTicked_441 : decode cL_isTicked 441 = .ok (.iconst 0, 1) := by decide +kernel
theorem dL_isTicked_442 : decode cL_isTicked 442 = .ok (.istore 6, 2) := by decide +kernel
theorem dL_isTicked_444 : decode cL_isTicked 444 = .ok (.iload 6, 2) := by decide +kernel
theorem dL_isTicked_446 : decode cL_isTicked 446 = .ok (.ifCond .eq 117, 3) := by decide +kernel
theorem dL_isTicked_449 : decode cL_isTicked 449 = .ok (.iload 12, 2) := by decide +kernel
theorem dL_isTicked_451 : decode cL_isTicked 451 = .ok (.ifCond .eq 57, 3) := by decide +kernel
theorem dL_isTicked_454 : decode cL_isTicked 454 = .ok (.iload 13, 2) := by decide +kernel
theorem dL_isTicked_456 : decode cL_isTicked 456 = .ok (.ifCond .ne 12, 3) := by decide +kernel
theorem dL_isTicked_459 : decode cL_isTicked 459 = .ok (.iload 11, 2) := by decide +kernel
theorem dL_isTicked_461 : decode cL_isTicked 461 = .ok (.iconst 1, 1) := by decide +kernel
theorem dL_isTicked_462 : decode cL_isTicked 462 = .ok (.if_icmp .ne 101, 3) := by decide +kernel
theorem dL_isTicked_465 : decode cL_isTicked 465 = .ok (.goto 43, 3) := by decide +kernel
theorem dL_isTicked_468 : decode cL_isTicked 468 = .ok (.iload 14, 2) := by decide +kernel
theorem dL_isTicked_470 : decode cL_isTicked 470 = .ok (.ifCond .ne 12, 3) := by decide +kernel
theorem dL_isTicked_473 : decode cL_isTicked 473 = .ok (.iload 11, 2) := by decide +kernel
theorem dL_isTicked_475 : decode cL_isTicked 475 = .ok (.iconst 2, 1) := by decide +kernel
theorem dL_isTicked_476 : decode cL_isTicked 476 = .ok (.if_icmp .ne 87, 3) := by decide +kernel
theorem dL_isTicked_479 : decode cL_isTicked 479 = .ok (.goto 29, 3) := by decide +kernel
theorem dL_isTicked_482 : decode cL_isTicked 482 = .ok (.iload 15, 2) := by decide +kernel
theorem dL_isTicked_484 : decode cL_isTicked 484 = .ok (.ifCond .ne 12, 3) := by decide +kernel
theorem dL_isTicked_487 : decode cL_isTicked 487 = .ok (.iload 11, 2) := by decide +kernel
theorem dL_isTicked_489 : decode cL_isTicked 489 = .ok (.iconst 3, 1) := by decide +kernel
theorem dL_isTicked_490 : decode cL_isTicked 490 = .ok (.if_icmp .ne 73, 3) := by decide +kernel
theorem dL_isTicked_493 : decode cL_isTicked 493 = .ok (.goto 15, 3) := by decide +kernel
theorem dL_isTicked_496 : decode cL_isTicked 496 = .ok (.iload 11, 2) := by decide +kernel
theorem dL_isTicked_498 : decode cL_isTicked 498 = .ok (.iconst 2, 1) := by decide +kernel
theorem dL_isTicked_499 : decode cL_isTicked 499 = .ok (.if_icmp .eq 64, 3) := by decide +kernel
theorem dL_isTicked_502 : decode cL_isTicked 502 = .ok (.iload 11, 2) := by decide +kernel
theorem dL_isTicked_504 : decode cL_isTicked 504 = .ok (.iconst 4, 1) := by decide +kernel
theorem dL_isTicked_505 : decode cL_isTicked 505 = .ok (.if_icmp .eq 58, 3) := by decide +kernel
theorem dL_isTicked_508 : decode cL_isTicked 508 = .ok (.aload_n 3, 1) := by decide +kernel
theorem dL_isTicked_509 : decode cL_isTicked 509 = .ok (.iload 9, 2) := by decide +kernel
theorem dL_isTicked_511 : decode cL_isTicked 511 = .ok (.iaload, 1) := by decide +kernel
theorem dL_isTicked_512 : decode cL_isTicked 512 = .ok (.iconst 2, 1) := by decide +kernel
theorem dL_isTicked_513 : decode cL_isTicked 513 = .ok (.if_icmp .lt 12, 3) := by decide +kernel
theorem dL_isTicked_516 : decode cL_isTicked 516 = .ok (.iload 11, 2) := by decide +kernel
theorem dL_isTicked_518 : decode cL_isTicked 518 = .ok (.aload_n 3, 1) := by decide +kernel
theorem dL_isTicked_519 : decode cL_isTicked 519 = .ok (.iload 9, 2) := by decide +kernel
theorem dL_isTicked_521 : decode cL_isTicked 521 = .ok (.iaload, 1) := by decide +kernel
theorem dL_isTicked_522 : decode cL_isTicked 522 = .ok (.if_icmp .ne 41, 3) := by decide +kernel
theorem dL_isTicked_525 : decode cL_isTicked 525 = .ok (.aload_n 3, 1) := by decide +kernel
theorem dL_isTicked_526 : decode cL_isTicked 526 = .ok (.iload 9, 2) := by decide +kernel
theorem dL_isTicked_528 : decode cL_isTicked 528 = .ok (.iaload, 1) := by decide +kernel
theorem dL_isTicked_529 : decode cL_isTicked 529 = .ok (.ifCond .ne 30, 3) := by decide +kernel
theorem dL_isTicked_532 : decode cL_isTicked 532 = .ok (.iload 11, 2) := by decide +kernel
theorem dL_isTicked_534 : decode cL_isTicked 534 = .ok (.ifCond .eq 25, 3) := by decide +kernel
theorem dL_isTicked_537 : decode cL_isTicked 537 = .ok (.iload 11, 2) := by decide +kernel
theorem dL_isTicked_539 : decode cL_isTicked 539 = .ok (.iconst 1, 1) := by decide +kernel
theorem dL_isTicked_540 : decode cL_isTicked 540 = .ok (.if_icmp .eq 19, 3) := by decide +kernel
theorem dL_isTicked_543 : decode cL_isTicked 543 = .ok (.iload 11, 2) := by decide +kernel
theorem dL_isTicked_545 : decode cL_isTicked 545 = .ok (.iconst 3, 1) := by decide +kernel
theorem dL_isTicked_546 : decode cL_isTicked 546 = .ok (.if_icmp .ne 17, 3) := by decide +kernel
theorem dL_isTicked_549 : decode cL_isTicked 549 = .ok (.aload_n 0, 1) := by decide +kernel
theorem dL_isTicked_550 : decode cL_isTicked 550 = .ok (.aload_n 1, 1) := by decide +kernel
theorem dL_isTicked_551 : decode cL_isTicked 551 = .ok (.iload 9, 2) := by decide +kernel
theorem dL_isTicked_553 : decode cL_isTicked 553 = .ok (.invokestatic 116, 3) := by decide +kernel
theorem dL_isTicked_556 : decode cL_isTicked 556 = .ok (.ifCond .eq 7, 3) := by decide +kernel
theorem dL_isTicked_559 : decode cL_isTicked 559 = .ok (.iconst 1, 1) := by decide +kernel
theorem dL_isTicked_560 : decode cL_isTicked 560 = .ok (.goto 4, 3) := by decide +kernel
theorem dL_isTicked_563 : decode cL_isTicked 563 = .ok (.iconst 0, 1) := by decide +kernel
theorem dL_isTicked_564 : decode cL_isTicked 564 = .ok (.istore 6, 2) := by decide +kernel
theorem dL_isTicked_566 : decode cL_isTicked 566 = .ok (.iinc 9 1, 3) := by decide +kernel
theorem dL_isTicked_569 : decode cL_isTicked 569 = .ok (.goto (-480), 3) := by decide +kernel
theorem dL_isTicked_572 : decode cL_isTicked 572 = .ok (.iload 7, 2) := by decide +kernel
theorem dL_isTicked_574 : decode cL_isTicked 574 = .ok (.ifCond .le 7, 3) := by decide +kernel
theorem dL_isTicked_577 : decode cL_isTicked 577 = .ok (.iconst 1, 1) := by decide +kernel
theorem dL_isTicked_578 : decode cL_isTicked 578 = .ok (.goto 4, 3) := by decide +kernel
theorem dL_isTicked_581 : decode cL_isTicked 581 = .ok (.iconst 0, 1) := by decide +kernel
theorem dL_isTicked_582 : decode cL_isTicked 582 = .ok (.istore 9, 2) := by decide +kernel
theorem dL_isTicked_584 : decode cL_isTicked 584 = .ok (.aload 4, 2) := by decide +kernel
theorem dL_isTicked_586 : decode cL_isTicked 586 = .ok (.iconst 1, 1) := by decide +kernel
theorem dL_isTicked_587 : decode cL_isTicked 587 = .ok (.iaload, 1) := by decide +kernel
theorem dL_isTicked_588 : decode cL_isTicked 588 = .ok (.ifCond .ne 9, 3) := by decide +kernel
theorem dL_isTicked_591 : decode cL_isTicked 591 = .ok (.sipush 1000, 3) := by decide +kernel
theorem dL_isTicked_594 : decode cL_isTicked 594 = .ok (.goto 14, 3) := by decide +kernel
theorem dL_isTicked_597 : decode cL_isTicked 597 = .ok (.sipush 1000, 3) := by decide +kernel
theorem dL_isTicked_600 : decode cL_isTicked 600 = .ok (.iload 8, 2) := by decide +kernel
theorem dL_isTicked_602 : decode cL_isTicked 602 = .ok (.imul, 1) := by decide +kernel
theorem dL_isTicked_603 : decode cL_isTicked 603 = .ok (.aload 4, 2) := by decide +kernel
theorem dL_isTicked_605 : decode cL_isTicked 605 = .ok (.iconst 1, 1) := by decide +kernel
theorem dL_isTicked_606 : decode cL_isTicked 606 = .ok (.iaload, 1) := by decide +kernel
theorem dL_isTicked_607 : decode cL_isTicked 607 = .ok (.idiv, 1) := by decide +kernel
theorem dL_isTicked_608 : decode cL_isTicked 608 = .ok (.istore 10, 2) := by decide +kernel
theorem dL_isTicked_610 : decode cL_isTicked 610 = .ok (.iload 6, 2) := by decide +kernel
theorem dL_isTicked_612 : decode cL_isTicked 612 = .ok (.ifCond .eq 57, 3) := by decide +kernel
theorem dL_isTicked_615 : decode cL_isTicked 615 = .ok (.iload 7, 2) := by decide +kernel
theorem dL_isTicked_617 : decode cL_isTicked 617 = .ok (.aload 4, 2) := by decide +kernel
theorem dL_isTicked_619 : decode cL_isTicked 619 = .ok (.iconst 0, 1) := by decide +kernel
theorem dL_isTicked_620 : decode cL_isTicked 620 = .ok (.iaload, 1) := by decide +kernel
theorem dL_isTicked_621 : decode cL_isTicked 621 = .ok (.if_icmp .gt 48, 3) := by decide +kernel
theorem dL_isTicked_624 : decode cL_isTicked 624 = .ok (.aload_n 0, 1) := by decide +kernel
theorem dL_isTicked_625 : decode cL_isTicked 625 = .ok (.invokevirtual 80, 3) := by decide +kernel
theorem dL_isTicked_628 : decode cL_isTicked 628 = .ok (.iload 9, 2) := by decide +kernel
theorem dL_isTicked_630 : decode cL_isTicked 630 = .ok (.if_icmp .ne 39, 3) := by decide +kernel
theorem dL_isTicked_633 : decode cL_isTicked 633 = .ok (.aload_n 0, 1) := by decide +kernel
theorem dL_isTicked_634 : decode cL_isTicked 634 = .ok (.invokevirtual 67, 3) := by decide +kernel
theorem dL_isTicked_637 : decode cL_isTicked 637 = .ok (.iload 9, 2) := by decide +kernel
theorem dL_isTicked_639 : decode cL_isTicked 639 = .ok (.ifCond .ne 9, 3) := by decide +kernel
theorem dL_isTicked_642 : decode cL_isTicked 642 = .ok (.sipush 1000, 3) := by decide +kernel
theorem dL_isTicked_645 : decode cL_isTicked 645 = .ok (.goto 17, 3) := by decide +kernel
theorem dL_isTicked_648 : decode cL_isTicked 648 = .ok (.iload 10, 2) := by decide +kernel
theorem dL_isTicked_650 : decode cL_isTicked 650 = .ok (.iload 5, 2) := by decide +kernel
theorem dL_isTicked_652 : decode cL_isTicked 652 = .ok (.if_icmp .ge 8, 3) := by decide +kernel
theorem dL_isTicked_655 : decode cL_isTicked 655 = .ok (.iload 5, 2) := by decide +kernel
theorem dL_isTicked_657 : decode cL_isTicked 657 = .ok (.goto 5, 3) := by decide +kernel
theorem dL_isTicked_660 : decode cL_isTicked 660 = .ok (.iload 10, 2) := by decide +kernel
theorem dL_isTicked_662 : decode cL_isTicked 662 = .ok (.if_icmp .ne 7, 3) := by decide +kernel
theorem dL_isTicked_665 : decode cL_isTicked 665 = .ok (.iconst 1, 1) := by decide +kernel
theorem dL_isTicked_666 : decode cL_isTicked 666 = .ok (.goto 4, 3) := by decide +kernel
theorem dL_isTicked_669 : decode cL_isTicked 669 = .ok (.iconst 0, 1) := by decide +kernel
theorem dL_isTicked_670 : decode cL_isTicked 670 = .ok (.istore 6, 2) := by decide +kernel
theorem dL_isTicked_672 : decode cL_isTicked 672 = .ok (.iconst 0, 1) := by decide +kernel
theorem dL_isTicked_673 : decode cL_isTicked 673 = .ok (.istore 11, 2) := by decide +kernel
theorem dL_isTicked_675 : decode cL_isTicked 675 = .ok (.iload 11, 2) := by decide +kernel
theorem dL_isTicked_677 : decode cL_isTicked 677 = .ok (.aload_n 0, 1) := by decide +kernel
theorem dL_isTicked_678 : decode cL_isTicked 678 = .ok (.invokevirtual 61, 3) := by decide +kernel
theorem dL_isTicked_681 : decode cL_isTicked 681 = .ok (.if_icmp .ge 58, 3) := by decide +kernel
theorem dL_isTicked_684 : decode cL_isTicked 684 = .ok (.iload 6, 2) := by decide +kernel
theorem dL_isTicked_686 : decode cL_isTicked 686 = .ok (.ifCond .eq 53, 3) := by decide +kernel
theorem dL_isTicked_689 : decode cL_isTicked 689 = .ok (.iload 7, 2) := by decide +kernel
theorem dL_isTicked_691 : decode cL_isTicked 691 = .ok (.aload 4, 2) := by decide +kernel
theorem dL_isTicked_693 : decode cL_isTicked 693 = .ok (.iconst 0, 1) := by decide +kernel
theorem dL_isTicked_694 : decode cL_isTicked 694 = .ok (.iaload, 1) := by decide +kernel
theorem dL_isTicked_695 : decode cL_isTicked 695 = .ok (.if_icmp .ge 44, 3) := by decide +kernel
theorem dL_isTicked_698 : decode cL_isTicked 698 = .ok (.aload_n 0, 1) := by decide +kernel
theorem dL_isTicked_699 : decode cL_isTicked 699 = .ok (.iload 11, 2) := by decide +kernel
theorem dL_isTicked_701 : decode cL_isTicked 701 = .ok (.invokevirtual 55, 3) := by decide +kernel
theorem dL_isTicked_704 : decode cL_isTicked 704 = .ok (.ifCond .ne 22, 3) := by decide +kernel
theorem dL_isTicked_707 : decode cL_isTicked 707 = .ok (.aload_n 0, 1) := by decide +kernel
theorem dL_isTicked_708 : decode cL_isTicked 708 = .ok (.iload 11, 2) := by decide +kernel
theorem dL_isTicked_710 : decode cL_isTicked 710 = .ok (.invokevirtual 58, 3) := by decide +kernel
theorem dL_isTicked_713 : decode cL_isTicked 713 = .ok (.ifCond .ge 13, 3) := by decide +kernel
theorem dL_isTicked_716 : decode cL_isTicked 716 = .ok (.aload_n 0, 1) := by decide +kernel
theorem dL_isTicked_717 : decode cL_isTicked 717 = .ok (.aload_n 1, 1) := by decide +kernel
theorem dL_isTicked_718 : decode cL_isTicked 718 = .ok (.iload 11, 2) := by decide +kernel
theorem dL_isTicked_720 : decode cL_isTicked 720 = .ok (.invokestatic 116, 3) := by decide +kernel
theorem dL_isTicked_723 : decode cL_isTicked 723 = .ok (.ifCond .eq 7, 3) := by decide +kernel
theorem dL_isTicked_726 : decode cL_isTicked 726 = .ok (.iconst 1, 1) := by decide +kernel
theorem dL_isTicked_727 : decode cL_isTicked 727 = .ok (.goto 4, 3) := by decide +kernel
theorem dL_isTicked_730 : decode cL_isTicked 730 = .ok (.iconst 0, 1) := by decide +kernel
theorem dL_isTicked_731 : decode cL_isTicked 731 = .ok (.istore 6, 2) := by decide +kernel
theorem dL_isTicked_733 : decode cL_isTicked 733 = .ok (.iinc 11 1, 3) := by decide +kernel
theorem dL_isTicked_736 : decode cL_isTicked 736 = .ok (.goto (-61), 3) := by decide +kernel
theorem dL_isTicked_739 : decode cL_isTicked 739 = .ok (.iload 6, 2) := by decide +kernel
theorem dL_isTicked_741 : decode cL_isTicked 741 = .ok (.ireturn, 1) := by decide +kernel
set_option maxRecDepth 20000 in
theorem ggL_isBegun_X2_units : GoodIn wsL_isBegun wsX2_units := goodIn_r _ [5, 6, 316, 317, 318, 319, 320, 321, 322] (by decide +kernel) (by decide +kernel)
set_option maxRecDepth 20000 in
theorem gL_isBegun_X2_units : GoodIn wsL_isBegun (wsV RL 61 RX2 yX2_units wsX2_units) := goodIn_app (goodIn_of _ (by decide +kernel)) ggL_isBegun_X2_units
set_option maxRecDepth 20000 in
theorem ggL_isBegun_L_cut : GoodIn wsL_isBegun wsL_cut := goodIn_r _ [10, 11, 12, 13, 14, 9, 15] (by decide +kernel) (by decide +kernel)
set_option maxRecDepth 20000 in
theorem gL_isBegun_L_cut : GoodIn wsL_isBegun (va_wsS RL 120 yL_cut wsL_cut) := goodIn_app (goodIn_of _ (by decide +kernel)) ggL_isBegun_L_cut
set_option maxRecDepth 20000 in
theorem ggL_isBegun_L_act_h : GoodIn wsL_isBegun [.codeWith yL_act cL_act 6 (some .int) [(0, 144, 145, 43), (0, 144, 151, 45), (0, 144, 157, 47)]] := goodIn_sub (fun w h => by rw [List.mem_singleton.mp h]; exact List.mem_of_getElem? (i := 18) rfl) rfl
set_option maxRecDepth 20000 in
theorem ggL_isBegun_L_act_0 : GoodIn wsL_isBegun wsL_act_r1 := goodIn_r _ [19, 20, 21, 22, 23, 24, 4, 25, 26, 27, 6, 28, 29, 30, 31, 32, 33, 34, 35, 36, 37, 38, 39, 40] (by decide +kernel) (by decide +kernel)
set_option maxRecDepth 20000 in
theorem ggL_isBegun_L_act_1 : GoodIn wsL_isBegun wsL_act_r2 := goodIn_r _ [41, 42, 43, 44, 45, 46, 47, 48, 49, 50, 51, 52, 53, 54, 55, 56, 57, 58, 59, 60, 61, 62, 63, 64] (by decide +kernel) (by decide +kernel)
set_option maxRecDepth 20000 in
theorem ggL_isBegun_L_act_2 : GoodIn wsL_isBegun wsL_act_r3 := goodIn_r _ [65, 66, 67, 68, 69, 70, 71, 72, 73, 74, 75, 76, 77, 78, 79, 80, 81, 82, 83, 84, 85, 86, 87, 88] (by decide +kernel) (by decide +kernel)
set_option maxRecDepth 20000 in
theorem ggL_isBegun_L_act_3 : GoodIn wsL_isBegun wsL_act_r4 := goodIn_r _ [89, 90, 91, 92, 93, 94, 95, 96, 97, 98, 99, 100, 101, 102, 103, 104, 105, 106, 107, 108, 109, 110, 111, 112] (by decide +kernel) (by decide +kernel)
set_option maxRecDepth 20000 in
theorem ggL_isBegun_L_act_4 : GoodIn wsL_isBegun wsL_act_r5 := goodIn_r _ [113, 114, 115, 116, 117, 118, 119, 120, 121, 122, 123, 124, 125, 126, 127, 128, 129, 130, 131, 132, 133, 134, 135, 136] (by decide +kernel) (by decide +kernel)
set_option maxRecDepth 20000 in
theorem ggL_isBegun_L_act_5 : GoodIn wsL_isBegun wsL_act_r6 := goodIn_r _ [137, 138, 139, 140, 141, 142, 143, 144, 145, 146, 147, 148, 149, 150, 151, 152, 153, 154, 155, 156, 157, 158, 159, 160] (by decide +kernel) (by decide +kernel)
set_option maxRecDepth 20000 in
theorem ggL_isBegun_L_act_6 : GoodIn wsL_isBegun wsL_act_r7 := goodIn_r _ [161, 162, 163, 164, 165, 166, 167, 168, 169, 170, 171, 172, 173, 174, 175, 176, 177, 178, 179, 180, 181, 182, 183, 184] (by decide +kernel) (by decide +kernel)
set_option maxRecDepth 20000 in
theorem ggL_isBegun_L_act_7 : GoodIn wsL_isBegun wsL_act_r8 := goodIn_r _ [185, 186, 187, 188, 189, 190, 191, 192, 193, 194, 195, 196, 197, 198, 199, 200, 201, 202, 203, 204, 205, 206, 207, 208] (by decide +kernel) (by decide +kernel)
set_option maxRecDepth 20000 in
theorem ggL_isBegun_L_act_8 : GoodIn wsL_isBegun wsL_act_r9 := goodIn_r _ [209, 210, 211, 212, 213, 214, 215, 216, 217, 218, 219, 220, 221, 222, 223, 224, 225, 226, 227, 228, 229, 230, 231, 232] (by decide +kernel) (by decide +kernel)
set_option maxRecDepth 20000 in
theorem ggL_isBegun_L_act_9 : GoodIn wsL_isBegun wsL_act_r10 := goodIn_r _ [233, 234, 235, 236, 237, 238, 239, 240, 241, 242, 243, 244, 245, 246, 247, 248, 249, 250, 251, 252, 253, 254, 255, 256] (by decide +kernel) (by decide +kernel)
set_option maxRecDepth 20000 in
theorem ggL_isBegun_L_act_10 : GoodIn wsL_isBegun wsL_act_r11 := goodIn_r _ [257, 258, 259, 260, 261, 262, 263, 264, 265, 266, 267, 268, 269, 270, 271, 272, 273, 274, 275, 276, 277, 278, 279, 280] (by decide +kernel) (by decide +kernel)
set_option maxRecDepth 20000 in
theorem ggL_isBegun_L_act_11 : GoodIn wsL_isBegun wsL_act_r12 := goodIn_r _ [281, 282, 283, 284, 285, 286, 287, 288, 289, 290, 291, 292, 293, 294] (by decide +kernel) (by decide +kernel)
set_option maxRecDepth 20000 in
theorem ggL_isBegun_L_act_wsX20 : GoodIn wsL_isBegun wsX20 := goodIn_r _ [316, 317, 318, 319, 320, 321, 322] (by decide +kernel) (by decide +kernel)
set_option maxRecDepth 20000 in
theorem ggL_isBegun_L_act_wsX00 : GoodIn wsL_isBegun wsX00 := goodIn_r _ [323, 324, 325, 326, 327, 328, 329, 330, 331, 332, 333, 334, 335] (by decide +kernel) (by decide +kernel)
set_option maxRecDepth 20000 in
theorem ggL_isBegun_L_act_wsX10 : GoodIn wsL_isBegun wsX10 := goodIn_r _ [336, 337, 338] (by decide +kernel) (by decide +kernel)
set_option maxRecDepth 20000 in
theorem ggL_isBegun_L_act_wsJx4a65c0 : GoodIn wsL_isBegun wsJx4a65c0 := goodIn_r _ [339, 340, 341] (by decide +kernel) (by decide +kernel)
set_option maxRecDepth 20000 in
theorem ggL_isBegun_L_act : GoodIn wsL_isBegun wsL_act := goodIn_ca (goodIn_ca (goodIn_ca (goodIn_ca (goodIn_ca (goodIn_ca (goodIn_ca (goodIn_hd ggL_isBegun_L_act_h (goodIn_app ggL_isBegun_L_act_0 (goodIn_app ggL_isBegun_L_act_1 (goodIn_app ggL_isBegun_L_act_2 (goodIn_app ggL_isBegun_L_act_3 (goodIn_app ggL_isBegun_L_act_4 (goodIn_app ggL_isBegun_L_act_5 (goodIn_app ggL_isBegun_L_act_6 (goodIn_app ggL_isBegun_L_act_7 (goodIn_app ggL_isBegun_L_act_8 (goodIn_app ggL_isBegun_L_act_9 (goodIn_app ggL_isBegun_L_act_10 ggL_isBegun_L_act_11)))))))))))) ggL_isBegun_L_act_wsX20) ggL_isBegun_L_act_wsX00) ggL_isBegun_L_act_wsX10) ggL_isBegun_L_act_wsJx4a65c0) (goodIn_sub (fun _ h => List.mem_cons_of_mem _ (List.mem_append_left _ (List.mem_append_left _ (List.mem_append_right _ h)))) (by decide +kernel))) (goodIn_sub (fun _ h => List.mem_cons_of_mem _ (List.mem_append_left _ (List.mem_append_right _ h))) (by decide +kernel))) (goodIn_sub (fun _ h => List.mem_cons_of_mem _ (List.mem_append_right _ h)) (by decide +kernel))
set_option maxRecDepth 20000 in
theorem gL_isBegun_L_act : GoodIn wsL_isBegun (va_wsS RL 112 yL_act wsL_act) := goodIn_app (goodIn_of _ (by decide +kernel)) ggL_isBegun_L_act
set_option maxRecDepth 20000 in
theorem ggL_isBegun_X2_goesOn : GoodIn wsL_isBegun wsX2_goesOn := goodIn_r _ [298, 42, 316, 317, 318, 319, 320, 321, 322] (by decide +kernel) (by decide +kernel)
set_option maxRecDepth 20000 in
theorem gL_isBegun_X2_goesOn : GoodIn wsL_isBegun (wsV RL 80 RX2 yX2_goesOn wsX2_goesOn) := goodIn_app (goodIn_of _ (by decide +kernel)) ggL_isBegun_X2_goesOn
set_option maxRecDepth 20000 in
theorem ggL_isBegun_X2_ready : GoodIn wsL_isBegun wsX2_ready := goodIn_r _ [302, 6, 28, 244, 59, 60, 61, 62, 63, 64, 316, 317, 318, 319, 320, 321, 322, 323, 324, 325, 326, 327, 328, 329, 330, 331, 332, 333, 334, 335] (by decide +kernel) (by decide +kernel)
set_option maxRecDepth 20000 in
theorem gL_isBegun_X2_ready : GoodIn wsL_isBegun (wsV RL 72 RX2 yX2_ready wsX2_ready) := goodIn_app (goodIn_of _ (by decide +kernel)) ggL_isBegun_X2_ready
set_option maxRecDepth 20000 in
theorem ggL_isBegun_X2_learned : GoodIn wsL_isBegun wsX2_learned := goodIn_ca (goodIn_r _ [306, 307, 48, 49, 50, 4, 51, 52, 53, 6, 28, 323, 324, 325, 326, 327, 328, 329, 330, 331, 332, 333, 334, 335, 316, 317, 318, 319, 320, 321, 322] (by decide +kernel) (by decide +kernel)) (goodIn_sub (fun _ h => List.mem_cons_of_mem _ (List.mem_append_right _ h)) (by decide +kernel))
set_option maxRecDepth 20000 in
theorem gL_isBegun_X2_learned : GoodIn wsL_isBegun (wsV RL 49 RX2 yX2_learned wsX2_learned) := goodIn_app (goodIn_of _ (by decide +kernel)) ggL_isBegun_X2_learned
set_option maxRecDepth 20000 in
theorem ggL_isBegun_X2_state : GoodIn wsL_isBegun wsX2_state := goodIn_ca (goodIn_r _ [311, 244, 48, 49, 50, 4, 51, 52, 53, 6, 28, 323, 324, 325, 326, 327, 328, 329, 330, 331, 332, 333, 334, 335, 316, 317, 318, 319, 320, 321, 322] (by decide +kernel) (by decide +kernel)) (goodIn_sub (fun _ h => List.mem_cons_of_mem _ (List.mem_append_right _ h)) (by decide +kernel))
set_option maxRecDepth 20000 in
theorem gL_isBegun_X2_state : GoodIn wsL_isBegun (wsV RL 55 RX2 yX2_state wsX2_state) := goodIn_app (goodIn_of _ (by decide +kernel)) ggL_isBegun_X2_state
set_option maxRecDepth 20000 in
theorem ggL_isBegun_X2_bar : GoodIn wsL_isBegun wsX2_bar := goodIn_r _ [315, 199, 316, 317, 318, 319, 320, 321, 322] (by decide +kernel) (by decide +kernel)
set_option maxRecDepth 20000 in
theorem gL_isBegun_X2_bar : GoodIn wsL_isBegun (wsV RL 67 RX2 yX2_bar wsX2_bar) := goodIn_app (goodIn_of _ (by decide +kernel)) ggL_isBegun_X2_bar
theorem dL_isBegun_0 : decode cL_isBegun 0 = .ok (.aload_n 1, 1) := by decide +kernel
theorem dL_isBegun_1 : decode cL_isBegun 1 = .ok (.aload_n 2, 1) := by decide +kernel
theorem dL_isBegun_2 : decode cL_isBegun 2 = .ok (.aload_n 0, 1) := by decide +kernel
theorem dL_isBegun_3 : decode cL_isBegun 3 = .ok (.invokevirtual 61, 3) := by decide +kernel
theorem dL_isBegun_6 : decode cL_isBegun 6 = .ok (.invokestatic 120, 3) := by decide +kernel
theorem dL_isBegun_9 : decode cL_isBegun 9 = .ok (.istore 5, 2) := by decide +kernel
theorem dL_isBegun_11 : decode cL_isBegun 11 = .ok (.aload_n 3, 1) := by decide +kernel
theorem dL_isBegun_12 : decode cL_isBegun 12 = .ok (.iconst 0, 1) := by decide +kernel
theorem dL_isBegun_13 : decode cL_isBegun 13 = .ok (.iload 4, 2) := by decide +kernel
theorem dL_isBegun_15 : decode cL_isBegun 15 = .ok (.iastore, 1) := by decide +kernel
theorem dL_isBegun_16 : decode cL_isBegun 16 = .ok (.aload_n 3, 1) := by decide +kernel
theorem dL_isBegun_17 : decode cL_isBegun 17 = .ok (.iconst 1, 1) := by decide +kernel
theorem dL_isBegun_18 : decode cL_isBegun 18 = .ok (.iconst 0, 1) := by decide +kernel
theorem dL_isBegun_19 : decode cL_isBegun 19 = .ok (.iastore, 1) := by decide +kernel
theorem dL_isBegun_20 : decode cL_isBegun 20 = .ok (.aload_n 0, 1) := by decide +kernel
theorem dL_isBegun_21 : decode cL_isBegun 21 = .ok (.bipush 7, 2) := by decide +kernel
theorem dL_isBegun_23 : decode cL_isBegun 23 = .ok (.iload 4, 2) := by decide +kernel
theorem dL_isBegun_25 : decode cL_isBegun 25 = .ok (.iconst 0, 1) := by decide +kernel
theorem dL_isBegun_26 : decode cL_isBegun 26 = .ok (.iconst 0, 1) := by decide +kernel
theorem dL_isBegun_27 : decode cL_isBegun 27 = .ok (.invokestatic 112, 3) := by decide +kernel
theorem dL_isBegun_30 : decode cL_isBegun 30 = .ok (.iload 5, 2) := by decide +kernel
theorem dL_isBegun_32 : decode cL_isBegun 32 = .ok (.if_icmp .ne 21, 3) := by decide +kernel
theorem dL_isBegun_35 : decode cL_isBegun 35 = .ok (.aload_n 0, 1) := by decide +kernel
theorem dL_isBegun_36 : decode cL_isBegun 36 = .ok (.invokevirtual 80, 3) := by decide +kernel
theorem dL_isBegun_39 : decode cL_isBegun 39 = .ok (.ifCond .eq 14, 3) := by decide +kernel
theorem dL_isBegun_42 : decode cL_isBegun 42 = .ok (.aload_n 0, 1) := by decide +kernel
theorem dL_isBegun_43 : decode cL_isBegun 43 = .ok (.invokevirtual 72, 3) := by decide +kernel
theorem dL_isBegun_46 : decode cL_isBegun 46 = .ok (.ifCond .ne 7, 3) := by decide +kernel
theorem dL_isBegun_49 : decode cL_isBegun 49 = .ok (.iconst 1, 1) := by decide +kernel
theorem dL_isBegun_50 : decode cL_isBegun 50 = .ok (.goto 4, 3) := by decide +kernel
theorem dL_isBegun_53 : decode cL_isBegun 53 = .ok (.iconst 0, 1) := by decide +kernel
theorem dL_isBegun_54 : decode cL_isBegun 54 = .ok (.istore 6, 2) := by decide +kernel
theorem dL_isBegun_56 : decode cL_isBegun 56 = .ok (.iconst 0, 1) := by decide +kernel
theorem dL_isBegun_57 : decode cL_isBegun 57 = .ok (.istore 7, 2) := by decide +kernel
theorem dL_isBegun_59 : decode cL_isBegun 59 = .ok (.iload 7, 2) := by decide +kernel
theorem dL_isBegun_61 : decode cL_isBegun 61 = .ok (.aload_n 0, 1) := by decide +kernel
theorem dL_isBegun_62 : decode cL_isBegun 62 = .ok (.invokevirtual 61, 3) := by decide +kernel
theorem dL_isBegun_65 : decode cL_isBegun 65 = .ok (.if_icmp .ge 105, 3) := by decide +kernel
theorem dL_isBegun_68 : decode cL_isBegun 68 = .ok (.iload 6, 2) := by decide +kernel
theorem dL_isBegun_70 : decode cL_isBegun 70 = .ok (.ifCond .eq 100, 3) := by decide +kernel
theorem dL_isBegun_73 : decode cL_isBegun 73 = .ok (.bipush 8, 2) := by decide +kernel
theorem dL_isBegun_75 : decode cL_isBegun 75 = .ok (.iload 7, 2) := by decide +kernel
theorem dL_isBegun_77 : decode cL_isBegun 77 = .ok (.imul, 1) := by decide +kernel
theorem dL_isBegun_78 : decode cL_isBegun 78 = .ok (.istore 8, 2) := by decide +kernel
theorem dL_isBegun_80 : decode cL_isBegun 80 = .ok (.aload_n 1, 1) := by decide +kernel
theorem dL_isBegun_81 : decode cL_isBegun 81 = .ok (.iload 8, 2) := by decide +kernel
theorem dL_isBegun_83 : decode cL_isBegun 83 = .ok (.iconst 5, 1) := by decide +kernel
theorem dL_isBegun_84 : decode cL_isBegun 84 = .ok (.iadd, 1) := by decide +kernel
theorem dL_isBegun_85 : decode cL_isBegun 85 = .ok (.iconst 0, 1) := by decide +kernel
theorem dL_isBegun_86 : decode cL_isBegun 86 = .ok (.iastore, 1) := by decide +kernel
theorem dL_isBegun_87 : decode cL_isBegun 87 = .ok (.aload_n 1, 1) := by decide +kernel
theorem dL_isBegun_88 : decode cL_isBegun 88 = .ok (.iload 8, 2) := by decide +kernel
theorem dL_isBegun_90 : decode cL_isBegun 90 = .ok (.bipush 6, 2) := by decide +kernel
theorem dL_isBegun_92 : decode cL_isBegun 92 = .ok (.iadd, 1) := by decide +kernel
theorem dL_isBegun_93 : decode cL_isBegun 93 = .ok (.iconst 0, 1) := by decide +kernel
theorem dL_isBegun_94 : decode cL_isBegun 94 = .ok (.iastore, 1) := by decide +kernel
theorem dL_isBegun_95 : decode cL_isBegun 95 = .ok (.aload_n 1, 1) := by decide +kernel
theorem dL_isBegun_96 : decode cL_isBegun 96 = .ok (.iload 8, 2) := by decide +kernel
theorem dL_isBegun_98 : decode cL_isBegun 98 = .ok (.bipush 7, 2) := by decide +kernel
theorem dL_isBegun_100 : decode cL_isBegun 100 = .ok (.iadd, 1) := by decide +kernel
theorem dL_isBegun_101 : decode cL_isBegun 101 = .ok (.aload_n 0, 1) := by decide +kernel
theorem dL_isBegun_102 : decode cL_isBegun 102 = .ok (.iload 7, 2) := by decide +kernel
theorem dL_isBegun_104 : decode cL_isBegun 104 = .ok (.invokevirtual 49, 3) := by decide +kernel
theorem dL_isBegun_107 : decode cL_isBegun 107 = .ok (.iastore, 1) := by decide +kernel
theorem dL_isBegun_108 : decode cL_isBegun 108 = .ok (.aload_n 3, 1) := by decide +kernel
theorem dL_isBegun_109 : decode cL_isBegun 109 = .ok (.iconst 1, 1) := by decide +kernel
theorem dL_isBegun_110 : decode cL_isBegun 110 = .ok (.dup2, 1) := by decide +kernel
theorem dL_isBegun_111 : decode cL_isBegun 111 = .ok (.iaload, 1) := by decide +kernel
theorem dL_isBegun_112 : decode cL_isBegun 112 = .ok (.aload_n 1, 1) := by decide +kernel
theorem dL_isBegun_113 : decode cL_isBegun 113 = .ok (.iload 8, 2) := by decide +kernel
theorem dL_isBegun_115 : decode cL_isBegun 115 = .ok (.iconst 3, 1) := by decide +kernel
theorem dL_isBegun_116 : decode cL_isBegun 116 = .ok (.iadd, 1) := by decide +kernel
theorem dL_isBegun_117 : decode cL_isBegun 117 = .ok (.iaload, 1) := by decide +kernel
theorem dL_isBegun_118 : decode cL_isBegun 118 = .ok (.ifCond .ne 12, 3) := by decide +kernel
theorem dL_isBegun_121 : decode cL_isBegun 121 = .ok (.aload_n 0, 1) := by decide +kernel
theorem dL_isBegun_122 : decode cL_isBegun 122 = .ok (.iload 7, 2) := by decide +kernel
theorem dL_isBegun_124 : decode cL_isBegun 124 = .ok (.invokevirtual 49, 3) := by decide +kernel
theorem dL_isBegun_127 : decode cL_isBegun 127 = .ok (.goto 4, 3) := by decide +kernel
theorem dL_isBegun_130 : decode cL_isBegun 130 = .ok (.iconst 0, 1) := by decide +kernel
theorem dL_isBegun_131 : decode cL_isBegun 131 = .ok (.iadd, 1) := by decide +kernel
theorem dL_isBegun_132 : decode cL_isBegun 132 = .ok (.iastore, 1) := by decide +kernel
theorem dL_isBegun_133 : decode cL_isBegun 133 = .ok (.aload_n 0, 1) := by decide +kernel
theorem dL_isBegun_134 : decode cL_isBegun 134 = .ok (.iload 7, 2) := by decide +kernel
theorem dL_isBegun_136 : decode cL_isBegun 136 = .ok (.invokevirtual 55, 3) := by decide +kernel
theorem dL_isBegun_139 : decode cL_isBegun 139 = .ok (.aload_n 1, 1) := by decide +kernel
theorem dL_isBegun_140 : decode cL_isBegun 140 = .ok (.iload 8, 2) := by decide +kernel
theorem dL_isBegun_142 : decode cL_isBegun 142 = .ok (.iconst 3, 1) := by decide +kernel
theorem dL_isBegun_143 : decode cL_isBegun 143 = .ok (.iadd, 1) := by decide +kernel
theorem dL_isBegun_144 : decode cL_isBegun 144 = .ok (.iaload, 1) := by decide +kernel
theorem dL_isBegun_145 : decode cL_isBegun 145 = .ok (.iconst 1, 1) := by decide +kernel
theorem dL_isBegun_146 : decode cL_isBegun 146 = .ok (.if_icmp .ne 7, 3) := by decide +kernel
theorem dL_isBegun_149 : decode cL_isBegun 149 = .ok (.iconst 4, 1) := by decide +kernel
theorem dL_isBegun_150 : decode cL_isBegun 150 = .ok (.goto 4, 3) := by decide +kernel
theorem dL_isBegun_153 : decode cL_isBegun 153 = .ok (.iconst 0, 1) := by decide +kernel
theorem dL_isBegun_154 : decode cL_isBegun 154 = .ok (.if_icmp .ne 7, 3) := by decide +kernel
theorem dL_isBegun_157 : decode cL_isBegun 157 = .ok (.iconst 1, 1) := by decide +kernel
theorem dL_isBegun_158 : decode cL_isBegun 158 = .ok (.goto 4, 3) := by decide +kernel
theorem dL_isBegun_161 : decode cL_isBegun 161 = .ok (.iconst 0, 1) := by decide +kernel
theorem dL_isBegun_162 : decode cL_isBegun 162 = .ok (.istore 6, 2) := by decide +kernel
theorem dL_isBegun_164 : decode cL_isBegun 164 = .ok (.iinc 7 1, 3) := by decide +kernel
theorem dL_isBegun_167 : decode cL_isBegun 167 = .ok (.goto (-108), 3) := by decide +kernel
theorem dL_isBegun_170 : decode cL_isBegun 170 = .ok (.iload 6, 2) := by decide +kernel
theorem dL_isBegun_172 : decode cL_isBegun 172 = .ok (.ifCond .eq 27, 3) := by decide +kernel
theorem dL_isBegun_175 : decode cL_isBegun 175 = .ok (.aload_n 0, 1) := by decide +kernel
theorem dL_isBegun_176 : decode cL_isBegun 176 = .ok (.invokevirtual 67, 3) := by decide +kernel
theorem dL_isBegun_179 : decode cL_isBegun 179 = .ok (.aload_n 3, 1) := by decide +kernel
theorem dL_isBegun_180 : decode cL_isBegun 180 = .ok (.iconst 1, 1) := by decide +kernel
theorem dL_isBegun_181 : decode cL_isBegun 181 = .ok (.iaload, 1) := by decide +kernel
theorem dL_isBegun_182 : decode cL_isBegun 182 = .ok (.ifCond .ne 9, 3) := by decide +kernel
theorem dL_isBegun_185 : decode cL_isBegun 185 = .ok (.sipush 1000, 3) := by decide +kernel
theorem dL_isBegun_188 : decode cL_isBegun 188 = .ok (.goto 4, 3) := by decide +kernel
theorem dL_isBegun_191 : decode cL_isBegun 191 = .ok (.iconst 0, 1) := by decide +kernel
theorem dL_isBegun_192 : decode cL_isBegun 192 = .ok (.if_icmp .ne 7, 3) := by decide +kernel
theorem dL_isBegun_195 : decode cL_isBegun 195 = .ok (.iconst 1, 1) := by decide +kernel
theorem dL_isBegun_196 : decode cL_isBegun 196 = .ok (.goto 4, 3) := by decide +kernel
theorem dL_isBegun_199 : decode cL_isBegun 199 = .ok (.iconst 0, 1) := by decide +kernel
theorem dL_isBegun_200 : decode cL_isBegun 200 = .ok (.ireturn, 1) := by decide +kernel
set_option maxRecDepth 20000 in
theorem ggL_isRefused_X2_units : GoodIn wsL_isRefused wsX2_units := goodIn_r _ [5, 6, 345, 346, 347, 348, 349, 350, 351] (by decide +kernel) (by decide +kernel)
set_option maxRecDepth 20000 in
theorem gL_isRefused_X2_units : GoodIn wsL_isRefused (wsV RL 61 RX2 yX2_units wsX2_units) := goodIn_app (goodIn_of _ (by decide +kernel)) ggL_isRefused_X2_units
set_option maxRecDepth 20000 in
theorem ggL_isRefused_L_all_h : GoodIn wsL_isRefused [.code yL_all cL_all 4 (some .long)] := goodIn_sub (fun w h => by rw [List.mem_singleton.mp h]; exact List.mem_of_getElem? (i := 10) rfl) rfl
set_option maxRecDepth 20000 in
theorem ggL_isRefused_L_all_0 : GoodIn wsL_isRefused wsL_all_r1 := goodIn_r _ [11, 12, 13, 14, 15, 16, 17, 1, 2, 3, 4, 5, 6, 18, 19, 20, 21, 22, 23, 24, 25, 26, 27, 28] (by decide +kernel) (by decide +kernel)
set_option maxRecDepth 20000 in
theorem ggL_isRefused_L_all_1 : GoodIn wsL_isRefused wsL_all_r2 := goodIn_r _ [29, 30, 31, 32, 33, 34, 35, 36, 37, 38, 39, 40, 41, 42, 43, 44, 45, 46, 47, 48, 49, 50, 51, 52] (by decide +kernel) (by decide +kernel)
set_option maxRecDepth 20000 in
theorem ggL_isRefused_L_all_2 : GoodIn wsL_isRefused wsL_all_r3 := goodIn_r _ [53, 54, 55, 56, 57, 58, 59, 60, 61, 62, 63, 64, 65, 66, 67, 68, 69, 70, 71, 72, 73, 74, 75, 76] (by decide +kernel) (by decide +kernel)
set_option maxRecDepth 20000 in
theorem ggL_isRefused_L_all_3 : GoodIn wsL_isRefused wsL_all_r4 := goodIn_r _ [77, 78, 79, 80, 81, 82, 83, 84, 85, 86, 87, 88, 89, 90, 91, 92, 93, 94, 95, 96, 97, 98, 99, 100] (by decide +kernel) (by decide +kernel)
set_option maxRecDepth 20000 in
theorem ggL_isRefused_L_all_4 : GoodIn wsL_isRefused wsL_all_r5 := goodIn_r _ [101, 102, 103, 104, 105, 106] (by decide +kernel) (by decide +kernel)
set_option maxRecDepth 20000 in
theorem ggL_isRefused_L_all_wsX20 : GoodIn wsL_isRefused wsX20 := goodIn_r _ [345, 346, 347, 348, 349, 350, 351] (by decide +kernel) (by decide +kernel)
set_option maxRecDepth 20000 in
theorem ggL_isRefused_L_all_wsX00 : GoodIn wsL_isRefused wsX00 := goodIn_r _ [352, 353, 354, 355, 356, 357, 358, 359, 360, 361, 362, 363, 364] (by decide +kernel) (by decide +kernel)
set_option maxRecDepth 20000 in
theorem ggL_isRefused_L_all : GoodIn wsL_isRefused wsL_all := goodIn_ca (goodIn_ca (goodIn_ca (goodIn_hd ggL_isRefused_L_all_h (goodIn_app ggL_isRefused_L_all_0 (goodIn_app ggL_isRefused_L_all_1 (goodIn_app ggL_isRefused_L_all_2 (goodIn_app ggL_isRefused_L_all_3 ggL_isRefused_L_all_4))))) ggL_isRefused_L_all_wsX20) ggL_isRefused_L_all_wsX00) (goodIn_sub (fun _ h => List.mem_cons_of_mem _ (List.mem_append_left _ (List.mem_append_left _ (List.mem_append_right _ h)))) (by decide +kernel))
set_option maxRecDepth 20000 in
theorem gL_isRefused_L_all : GoodIn wsL_isRefused (va_wsS RL 124 yL_all wsL_all) := goodIn_app (goodIn_of _ (by decide +kernel)) ggL_isRefused_L_all
set_option maxRecDepth 20000 in
theorem ggL_isRefused_L_act_h : GoodIn wsL_isRefused [.codeWith yL_act cL_act 6 (some .int) [(0, 144, 145, 43), (0, 144, 151, 45), (0, 144, 157, 47)]] := goodIn_sub (fun w h => by rw [List.mem_singleton.mp h]; exact List.mem_of_getElem? (i := 109) rfl) rfl
set_option maxRecDepth 20000 in
theorem ggL_isRefused_L_act_0 : GoodIn wsL_isRefused wsL_act_r1 := goodIn_r _ [110, 111, 112, 113, 114, 115, 4, 116, 117, 118, 6, 27, 119, 45, 120, 121, 122, 123, 124, 125, 126, 127, 128, 129] (by decide +kernel) (by decide +kernel)
set_option maxRecDepth 20000 in
theorem ggL_isRefused_L_act_1 : GoodIn wsL_isRefused wsL_act_r2 := goodIn_r _ [130, 60, 131, 132, 133, 134, 51, 65, 66, 67, 68, 69, 70, 135, 136, 137, 138, 88, 29, 30, 31, 32, 33, 34] (by decide +kernel) (by decide +kernel)
set_option maxRecDepth 20000 in
theorem ggL_isRefused_L_act_2 : GoodIn wsL_isRefused wsL_act_r3 := goodIn_r _ [52, 53, 54, 55, 139, 140, 141, 142, 143, 144, 145, 146, 147, 148, 149, 150, 151, 152, 153, 154, 155, 156, 157, 158] (by decide +kernel) (by decide +kernel)
set_option maxRecDepth 20000 in
theorem ggL_isRefused_L_act_3 : GoodIn wsL_isRefused wsL_act_r4 := goodIn_r _ [159, 160, 161, 162, 163, 164, 165, 166, 167, 168, 169, 170, 171, 172, 173, 174, 175, 176, 177, 178, 179, 180, 181, 182] (by decide +kernel) (by decide +kernel)
set_option maxRecDepth 20000 in
theorem ggL_isRefused_L_act_4 : GoodIn wsL_isRefused wsL_act_r5 := goodIn_r _ [183, 184, 185, 186, 187, 188, 189, 190, 191, 192, 193, 194, 195, 196, 197, 198, 199, 200, 201, 202, 203, 204, 205, 206] (by decide +kernel) (by decide +kernel)
set_option maxRecDepth 20000 in
theorem ggL_isRefused_L_act_5 : GoodIn wsL_isRefused wsL_act_r6 := goodIn_r _ [207, 208, 209, 210, 211, 212, 213, 214, 215, 216, 217, 218, 219, 220, 221, 222, 223, 224, 225, 226, 227, 228, 229, 230] (by decide +kernel) (by decide +kernel)
set_option maxRecDepth 20000 in
theorem ggL_isRefused_L_act_6 : GoodIn wsL_isRefused wsL_act_r7 := goodIn_r _ [231, 232, 233, 234, 235, 236, 237, 238, 239, 240, 241, 242, 243, 244, 245, 246, 247, 50, 248, 249, 250, 251, 43, 252] (by decide +kernel) (by decide +kernel)
set_option maxRecDepth 20000 in
theorem ggL_isRefused_L_act_7 : GoodIn wsL_isRefused wsL_act_r8 := goodIn_r _ [253, 254, 255, 44, 256, 257, 258, 259, 260, 261, 262, 263, 264, 265, 22, 266, 267, 268, 269, 270, 271, 272, 273, 274] (by decide +kernel) (by decide +kernel)
set_option maxRecDepth 20000 in
theorem ggL_isRefused_L_act_8 : GoodIn wsL_isRefused wsL_act_r9 := goodIn_r _ [275, 276, 277, 278, 93, 279, 280, 281, 282, 283, 284, 285, 286, 287, 288, 289, 290, 291, 292, 293, 294, 295, 296, 297] (by decide +kernel) (by decide +kernel)
set_option maxRecDepth 20000 in
theorem ggL_isRefused_L_act_9 : GoodIn wsL_isRefused wsL_act_r10 := goodIn_r _ [298, 299, 300, 301, 302, 303, 304, 305, 306, 307, 308, 28, 309, 310, 311, 312, 313, 314, 315, 316, 317, 318, 319, 320] (by decide +kernel) (by decide +kernel)
set_option maxRecDepth 20000 in
theorem ggL_isRefused_L_act_10 : GoodIn wsL_isRefused wsL_act_r11 := goodIn_r _ [321, 322, 323, 324, 325, 99, 100, 101, 102, 94, 95, 96, 97, 98, 326, 327, 328, 329, 330, 331, 332, 333, 89, 90] (by decide +kernel) (by decide +kernel)
set_option maxRecDepth 20000 in
theorem ggL_isRefused_L_act_11 : GoodIn wsL_isRefused wsL_act_r12 := goodIn_r _ [91, 92, 334, 335, 336, 337, 103, 104, 105, 106, 338, 339, 340, 341] (by decide +kernel) (by decide +kernel)
set_option maxRecDepth 20000 in
theorem ggL_isRefused_L_act_wsX20 : GoodIn wsL_isRefused wsX20 := goodIn_r _ [345, 346, 347, 348, 349, 350, 351] (by decide +kernel) (by decide +kernel)
set_option maxRecDepth 20000 in
theorem ggL_isRefused_L_act_wsX00 : GoodIn wsL_isRefused wsX00 := goodIn_r _ [352, 353, 354, 355, 356, 357, 358, 359, 360, 361, 362, 363, 364] (by decide +kernel) (by decide +kernel)
set_option maxRecDepth 20000 in
theorem ggL_isRefused_L_act_wsX10 : GoodIn wsL_isRefused wsX10 := goodIn_r _ [365, 366, 367] (by decide +kernel) (by decide +kernel)
set_option maxRecDepth 20000 in
theorem ggL_isRefused_L_act_wsJx4a65c0 : GoodIn wsL_isRefused wsJx4a65c0 := goodIn_r _ [368, 369, 370] (by decide +kernel) (by decide +kernel)
set_option maxRecDepth 20000 in
theorem ggL_isRefused_L_act : GoodIn wsL_isRefused wsL_act := goodIn_ca (goodIn_ca (goodIn_ca (goodIn_ca (goodIn_ca (goodIn_ca (goodIn_ca (goodIn_hd ggL_isRefused_L_act_h (goodIn_app ggL_isRefused_L_act_0 (goodIn_app ggL_isRefused_L_act_1 (goodIn_app ggL_isRefused_L_act_2 (goodIn_app ggL_isRefused_L_act_3 (goodIn_app ggL_isRefused_L_act_4 (goodIn_app ggL_isRefused_L_act_5 (goodIn_app ggL_isRefused_L_act_6 (goodIn_app ggL_isRefused_L_act_7 (goodIn_app ggL_isRefused_L_act_8 (goodIn_app ggL_isRefused_L_act_9 (goodIn_app ggL_isRefused_L_act_10 ggL_isRefused_L_act_11)))))))))))) ggL_isRefused_L_act_wsX20) ggL_isRefused_L_act_wsX00) ggL_isRefused_L_act_wsX10) ggL_isRefused_L_act_wsJx4a65c0) (goodIn_sub (fun _ h => List.mem_cons_of_mem _ (List.mem_append_left _ (List.mem_append_right _ h))) (by decide +kernel))) (goodIn_sub (fun _ h => List.mem_cons_of_mem _ (List.mem_append_right _ h)) (by decide +kernel))) (goodIn_sub (fun _ h => List.mem_cons_of_mem _ (List.mem_append_left _ (List.mem_append_left _ (List.mem_append_right _ h)))) (by decide +kernel))
set_option maxRecDepth 20000 in
theorem gL_isRefused_L_act : GoodIn wsL_isRefused (va_wsS RL 112 yL_act wsL_act) := goodIn_app (goodIn_of _ (by decide +kernel)) ggL_isRefused_L_act
set_option maxRecDepth 20000 in
theorem ggL_isRefused_X2_goesOn : GoodIn wsL_isRefused wsX2_goesOn := goodIn_r _ [59, 60, 345, 346, 347, 348, 349, 350, 351] (by decide +kernel) (by decide +kernel)
set_option maxRecDepth 20000 in
theorem gL_isRefused_X2_goesOn : GoodIn wsL_isRefused (wsV RL 80 RX2 yX2_goesOn wsX2_goesOn) := goodIn_app (goodIn_of _ (by decide +kernel)) ggL_isRefused_X2_goesOn
set_option maxRecDepth 20000 in
theorem ggL_isRefused_L_of : GoodIn wsL_isRefused wsL_of := goodIn_ca (goodIn_r _ [344, 110, 71, 72, 73, 4, 74, 75, 65, 66, 67, 68, 69, 70, 6, 27, 76, 77, 78, 79, 44, 61, 62, 63, 64, 28, 80, 81, 82, 83, 84, 85, 86, 87, 51, 88, 52, 53, 54, 55, 29, 30, 31, 32, 33, 34, 89, 90, 91, 92, 93, 94, 95, 96, 97, 98, 99, 100, 101, 102, 103, 104, 105, 106, 352, 353, 354, 355, 356, 357, 358, 359, 360, 361, 362, 363, 364, 345, 346, 347, 348, 349, 350, 351] (by decide +kernel) (by decide +kernel)) (goodIn_sub (fun _ h => List.mem_cons_of_mem _ (List.mem_append_left _ (List.mem_append_left _ (List.mem_append_right _ h)))) (by decide +kernel))
set_option maxRecDepth 20000 in
theorem gL_isRefused_L_of : GoodIn wsL_isRefused (va_wsS RL 128 yL_of wsL_of) := goodIn_app (goodIn_of _ (by decide +kernel)) ggL_isRefused_L_of
theorem dL_isRefused_0 : decode cL_isRefused 0 = .ok (.iload_n 1, 1) := by decide +kernel
theorem dL_isRefused_1 : decode cL_isRefused 1 = .ok (.iconst 2, 1) := by decide +kernel
theorem dL_isRefused_2 : decode cL_isRefused 2 = .ok (.irem, 1) := by decide +kernel
theorem dL_isRefused_3 : decode cL_isRefused 3 = .ok (.ifCond .ne 7, 3) := by decide +kernel
theorem dL_isRefused_6 : decode cL_isRefused 6 = .ok (.iconst 1, 1) := by decide +kernel
theorem dL_isRefused_7 : decode cL_isRefused 7 = .ok (.goto 4, 3) := by decide +kernel
theorem dL_isRefused_10 : decode cL_isRefused 10 = .ok (.iconst 0, 1) := by decide +kernel
theorem dL_isRefused_11 : decode cL_isRefused 11 = .ok (.istore_n 2, 1) := by decide +kernel
theorem dL_isRefused_12 : decode cL_isRefused 12 = .ok (.iload_n 2, 1) := by decide +kernel
theorem dL_isRefused_13 : decode cL_isRefused 13 = .ok (.ifCond .eq 12, 3) := by decide +kernel
theorem dL_isRefused_16 : decode cL_isRefused 16 = .ok (.iconst (-1), 1) := by decide +kernel
theorem dL_isRefused_17 : decode cL_isRefused 17 = .ok (.iload_n 1, 1) := by decide +kernel
theorem dL_isRefused_18 : decode cL_isRefused 18 = .ok (.bipush 30, 2) := by decide +kernel
theorem dL_isRefused_20 : decode cL_isRefused 20 = .ok (.irem, 1) := by decide +kernel
theorem dL_isRefused_21 : decode cL_isRefused 21 = .ok (.isub, 1) := by decide +kernel
theorem dL_isRefused_22 : decode cL_isRefused 22 = .ok (.goto 12, 3) := by decide +kernel
theorem dL_isRefused_25 : decode cL_isRefused 25 = .ok (.aload_n 0, 1) := by decide +kernel
theorem dL_isRefused_26 : decode cL_isRefused 26 = .ok (.invokevirtual 61, 3) := by decide +kernel
theorem dL_isRefused_29 : decode cL_isRefused 29 = .ok (.iload_n 1, 1) := by decide +kernel
theorem dL_isRefused_30 : decode cL_isRefused 30 = .ok (.bipush 30, 2) := by decide +kernel
theorem dL_isRefused_32 : decode cL_isRefused 32 = .ok (.irem, 1) := by decide +kernel
theorem dL_isRefused_33 : decode cL_isRefused 33 = .ok (.iadd, 1) := by decide +kernel
theorem dL_isRefused_34 : decode cL_isRefused 34 = .ok (.istore_n 3, 1) := by decide +kernel
theorem dL_isRefused_35 : decode cL_isRefused 35 = .ok (.iload_n 2, 1) := by decide +kernel
theorem dL_isRefused_36 : decode cL_isRefused 36 = .ok (.ifCond .eq 13, 3) := by decide +kernel
theorem dL_isRefused_39 : decode cL_isRefused 39 = .ok (.bipush (-2), 2) := by decide +kernel
theorem dL_isRefused_41 : decode cL_isRefused 41 = .ok (.iload_n 1, 1) := by decide +kernel
theorem dL_isRefused_42 : decode cL_isRefused 42 = .ok (.bipush 30, 2) := by decide +kernel
theorem dL_isRefused_44 : decode cL_isRefused 44 = .ok (.irem, 1) := by decide +kernel
theorem dL_isRefused_45 : decode cL_isRefused 45 = .ok (.isub, 1) := by decide +kernel
theorem dL_isRefused_46 : decode cL_isRefused 46 = .ok (.goto 4, 3) := by decide +kernel
theorem dL_isRefused_49 : decode cL_isRefused 49 = .ok (.iload_n 3, 1) := by decide +kernel
theorem dL_isRefused_50 : decode cL_isRefused 50 = .ok (.istore 4, 2) := by decide +kernel
theorem dL_isRefused_52 : decode cL_isRefused 52 = .ok (.aload_n 0, 1) := by decide +kernel
theorem dL_isRefused_53 : decode cL_isRefused 53 = .ok (.invokestatic 124, 3) := by decide +kernel
theorem dL_isRefused_56 : decode cL_isRefused 56 = .ok (.lstore 5, 2) := by decide +kernel
theorem dL_isRefused_58 : decode cL_isRefused 58 = .ok (.aload_n 0, 1) := by decide +kernel
theorem dL_isRefused_59 : decode cL_isRefused 59 = .ok (.iconst 0, 1) := by decide +kernel
theorem dL_isRefused_60 : decode cL_isRefused 60 = .ok (.iload_n 2, 1) := by decide +kernel
theorem dL_isRefused_61 : decode cL_isRefused 61 = .ok (.ifCond .eq 12, 3) := by decide +kernel
theorem dL_isRefused_64 : decode cL_isRefused 64 = .ok (.iconst 0, 1) := by decide +kernel
theorem dL_isRefused_65 : decode cL_isRefused 65 = .ok (.iload_n 1, 1) := by decide +kernel
theorem dL_isRefused_66 : decode cL_isRefused 66 = .ok (.bipush 30, 2) := by decide +kernel
theorem dL_isRefused_68 : decode cL_isRefused 68 = .ok (.irem, 1) := by decide +kernel
theorem dL_isRefused_69 : decode cL_isRefused 69 = .ok (.isub, 1) := by decide +kernel
theorem dL_isRefused_70 : decode cL_isRefused 70 = .ok (.goto 5, 3) := by decide +kernel
theorem dL_isRefused_73 : decode cL_isRefused 73 = .ok (.bipush 101, 2) := by decide +kernel
theorem dL_isRefused_75 : decode cL_isRefused 75 = .ok (.iconst 0, 1) := by decide +kernel
theorem dL_isRefused_76 : decode cL_isRefused 76 = .ok (.iconst 0, 1) := by decide +kernel
theorem dL_isRefused_77 : decode cL_isRefused 77 = .ok (.invokestatic 112, 3) := by decide +kernel
theorem dL_isRefused_80 : decode cL_isRefused 80 = .ok (.sipush (-1032), 3) := by decide +kernel
theorem dL_isRefused_83 : decode cL_isRefused 83 = .ok (.if_icmp .ne 227, 3) := by decide +kernel
theorem dL_isRefused_86 : decode cL_isRefused 86 = .ok (.aload_n 0, 1) := by decide +kernel
theorem dL_isRefused_87 : decode cL_isRefused 87 = .ok (.iconst 0, 1) := by decide +kernel
theorem dL_isRefused_88 : decode cL_isRefused 88 = .ok (.iconst 5, 1) := by decide +kernel
theorem dL_isRefused_89 : decode cL_isRefused 89 = .ok (.iload_n 2, 1) := by decide +kernel
theorem dL_isRefused_90 : decode cL_isRefused 90 = .ok (.ifCond .eq 7, 3) := by decide +kernel
theorem dL_isRefused_93 : decode cL_isRefused 93 = .ok (.iconst (-1), 1) := by decide +kernel
theorem dL_isRefused_94 : decode cL_isRefused 94 = .ok (.goto 4, 3) := by decide +kernel
theorem dL_isRefused_97 : decode cL_isRefused 97 = .ok (.iconst 4, 1) := by decide +kernel
theorem dL_isRefused_98 : decode cL_isRefused 98 = .ok (.iconst 0, 1) := by decide +kernel
theorem dL_isRefused_99 : decode cL_isRefused 99 = .ok (.invokestatic 112, 3) := by decide +kernel
theorem dL_isRefused_102 : decode cL_isRefused 102 = .ok (.sipush (-1032), 3) := by decide +kernel
theorem dL_isRefused_105 : decode cL_isRefused 105 = .ok (.if_icmp .ne 205, 3) := by decide +kernel
theorem dL_isRefused_108 : decode cL_isRefused 108 = .ok (.aload_n 0, 1) := by decide +kernel
theorem dL_isRefused_109 : decode cL_isRefused 109 = .ok (.iconst 1, 1) := by decide +kernel
theorem dL_isRefused_110 : decode cL_isRefused 110 = .ok (.iload_n 3, 1) := by decide +kernel
theorem dL_isRefused_111 : decode cL_isRefused 111 = .ok (.iload_n 3, 1) := by decide +kernel
theorem dL_isRefused_112 : decode cL_isRefused 112 = .ok (.iconst 0, 1) := by decide +kernel
theorem dL_isRefused_113 : decode cL_isRefused 113 = .ok (.invokestatic 112, 3) := by decide +kernel
theorem dL_isRefused_116 : decode cL_isRefused 116 = .ok (.sipush (-1031), 3) := by decide +kernel
theorem dL_isRefused_119 : decode cL_isRefused 119 = .ok (.if_icmp .ne 191, 3) := by decide +kernel
theorem dL_isRefused_122 : decode cL_isRefused 122 = .ok (.aload_n 0, 1) := by decide +kernel
theorem dL_isRefused_123 : decode cL_isRefused 123 = .ok (.iconst 2, 1) := by decide +kernel
theorem dL_isRefused_124 : decode cL_isRefused 124 = .ok (.iload_n 3, 1) := by decide +kernel
theorem dL_isRefused_125 : decode cL_isRefused 125 = .ok (.iload_n 3, 1) := by decide +kernel
theorem dL_isRefused_126 : decode cL_isRefused 126 = .ok (.iconst 0, 1) := by decide +kernel
theorem dL_isRefused_127 : decode cL_isRefused 127 = .ok (.invokestatic 112, 3) := by decide +kernel
theorem dL_isRefused_130 : decode cL_isRefused 130 = .ok (.sipush (-1031), 3) := by decide +kernel
theorem dL_isRefused_133 : decode cL_isRefused 133 = .ok (.if_icmp .ne 177, 3) := by decide +kernel
theorem dL_isRefused_136 : decode cL_isRefused 136 = .ok (.aload_n 0, 1) := by decide +kernel
theorem dL_isRefused_137 : decode cL_isRefused 137 = .ok (.iconst 3, 1) := by decide +kernel
theorem dL_isRefused_138 : decode cL_isRefused 138 = .ok (.iload_n 3, 1) := by decide +kernel
theorem dL_isRefused_139 : decode cL_isRefused 139 = .ok (.iload_n 3, 1) := by decide +kernel
theorem dL_isRefused_140 : decode cL_isRefused 140 = .ok (.iconst 0, 1) := by decide +kernel
theorem dL_isRefused_141 : decode cL_isRefused 141 = .ok (.invokestatic 112, 3) := by decide +kernel
theorem dL_isRefused_144 : decode cL_isRefused 144 = .ok (.sipush (-1031), 3) := by decide +kernel
theorem dL_isRefused_147 : decode cL_isRefused 147 = .ok (.if_icmp .ne 163, 3) := by decide +kernel
theorem dL_isRefused_150 : decode cL_isRefused 150 = .ok (.aload_n 0, 1) := by decide +kernel
theorem dL_isRefused_151 : decode cL_isRefused 151 = .ok (.iconst 4, 1) := by decide +kernel
theorem dL_isRefused_152 : decode cL_isRefused 152 = .ok (.iload_n 3, 1) := by decide +kernel
theorem dL_isRefused_153 : decode cL_isRefused 153 = .ok (.iconst 0, 1) := by decide +kernel
theorem dL_isRefused_154 : decode cL_isRefused 154 = .ok (.iconst 0, 1) := by decide +kernel
theorem dL_isRefused_155 : decode cL_isRefused 155 = .ok (.invokestatic 112, 3) := by decide +kernel
theorem dL_isRefused_158 : decode cL_isRefused 158 = .ok (.sipush (-1031), 3) := by decide +kernel
theorem dL_isRefused_161 : decode cL_isRefused 161 = .ok (.if_icmp .ne 149, 3) := by decide +kernel
theorem dL_isRefused_164 : decode cL_isRefused 164 = .ok (.aload_n 0, 1) := by decide +kernel
theorem dL_isRefused_165 : decode cL_isRefused 165 = .ok (.iconst 5, 1) := by decide +kernel
theorem dL_isRefused_166 : decode cL_isRefused 166 = .ok (.iload_n 3, 1) := by decide +kernel
theorem dL_isRefused_167 : decode cL_isRefused 167 = .ok (.iconst (-1), 1) := by decide +kernel
theorem dL_isRefused_168 : decode cL_isRefused 168 = .ok (.iconst 0, 1) := by decide +kernel
theorem dL_isRefused_169 : decode cL_isRefused 169 = .ok (.invokestatic 112, 3) := by decide +kernel
theorem dL_isRefused_172 : decode cL_isRefused 172 = .ok (.sipush (-1031), 3) := by decide +kernel
theorem dL_isRefused_175 : decode cL_isRefused 175 = .ok (.if_icmp .ne 135, 3) := by decide +kernel
theorem dL_isRefused_178 : decode cL_isRefused 178 = .ok (.aload_n 0, 1) := by decide +kernel
theorem dL_isRefused_179 : decode cL_isRefused 179 = .ok (.bipush 6, 2) := by decide +kernel
theorem dL_isRefused_181 : decode cL_isRefused 181 = .ok (.iload_n 3, 1) := by decide +kernel
theorem dL_isRefused_182 : decode cL_isRefused 182 = .ok (.iconst (-1), 1) := by decide +kernel
theorem dL_isRefused_183 : decode cL_isRefused 183 = .ok (.iconst 0, 1) := by decide +kernel
theorem dL_isRefused_184 : decode cL_isRefused 184 = .ok (.invokestatic 112, 3) := by decide +kernel
theorem dL_isRefused_187 : decode cL_isRefused 187 = .ok (.sipush (-1031), 3) := by decide +kernel
theorem dL_isRefused_190 : decode cL_isRefused 190 = .ok (.if_icmp .ne 120, 3) := by decide +kernel
theorem dL_isRefused_193 : decode cL_isRefused 193 = .ok (.aload_n 0, 1) := by decide +kernel
theorem dL_isRefused_194 : decode cL_isRefused 194 = .ok (.bipush 7, 2) := by decide +kernel
theorem dL_isRefused_196 : decode cL_isRefused 196 = .ok (.iload_n 2, 1) := by decide +kernel
theorem dL_isRefused_197 : decode cL_isRefused 197 = .ok (.ifCond .eq 12, 3) := by decide +kernel
theorem dL_isRefused_200 : decode cL_isRefused 200 = .ok (.iconst 0, 1) := by decide +kernel
theorem dL_isRefused_201 : decode cL_isRefused 201 = .ok (.iload_n 1, 1) := by decide +kernel
theorem dL_isRefused_202 : decode cL_isRefused 202 = .ok (.bipush 30, 2) := by decide +kernel
theorem dL_isRefused_204 : decode cL_isRefused 204 = .ok (.irem, 1) := by decide +kernel
theorem dL_isRefused_205 : decode cL_isRefused 205 = .ok (.isub, 1) := by decide +kernel
theorem dL_isRefused_206 : decode cL_isRefused 206 = .ok (.goto 5, 3) := by decide +kernel
theorem dL_isRefused_209 : decode cL_isRefused 209 = .ok (.bipush 21, 2) := by decide +kernel
theorem dL_isRefused_211 : decode cL_isRefused 211 = .ok (.iconst 0, 1) := by decide +kernel
theorem dL_isRefused_212 : decode cL_isRefused 212 = .ok (.iconst 0, 1) := by decide +kernel
theorem dL_isRefused_213 : decode cL_isRefused 213 = .ok (.invokestatic 112, 3) := by decide +kernel
theorem dL_isRefused_216 : decode cL_isRefused 216 = .ok (.sipush (-1032), 3) := by decide +kernel
theorem dL_isRefused_219 : decode cL_isRefused 219 = .ok (.if_icmp .ne 91, 3) := by decide +kernel
theorem dL_isRefused_222 : decode cL_isRefused 222 = .ok (.aload_n 0, 1) := by decide +kernel
theorem dL_isRefused_223 : decode cL_isRefused 223 = .ok (.bipush 8, 2) := by decide +kernel
theorem dL_isRefused_225 : decode cL_isRefused 225 = .ok (.iload_n 2, 1) := by decide +kernel
theorem dL_isRefused_226 : decode cL_isRefused 226 = .ok (.ifCond .eq 12, 3) := by decide +kernel
theorem dL_isRefused_229 : decode cL_isRefused 229 = .ok (.iconst 0, 1) := by decide +kernel
theorem dL_isRefused_230 : decode cL_isRefused 230 = .ok (.iload_n 1, 1) := by decide +kernel
theorem dL_isRefused_231 : decode cL_isRefused 231 = .ok (.bipush 30, 2) := by decide +kernel
theorem dL_isRefused_233 : decode cL_isRefused 233 = .ok (.irem, 1) := by decide +kernel
theorem dL_isRefused_234 : decode cL_isRefused 234 = .ok (.isub, 1) := by decide +kernel
theorem dL_isRefused_235 : decode cL_isRefused 235 = .ok (.goto 6, 3) := by decide +kernel
theorem dL_isRefused_238 : decode cL_isRefused 238 = .ok (.sipush 201, 3) := by decide +kernel
theorem dL_isRefused_241 : decode cL_isRefused 241 = .ok (.iconst 0, 1) := by decide +kernel
theorem dL_isRefused_242 : decode cL_isRefused 242 = .ok (.iconst 0, 1) := by decide +kernel
theorem dL_isRefused_243 : decode cL_isRefused 243 = .ok (.invokestatic 112, 3) := by decide +kernel
theorem dL_isRefused_246 : decode cL_isRefused 246 = .ok (.sipush (-1032), 3) := by decide +kernel
theorem dL_isRefused_249 : decode cL_isRefused 249 = .ok (.if_icmp .ne 61, 3) := by decide +kernel
theorem dL_isRefused_252 : decode cL_isRefused 252 = .ok (.aload_n 0, 1) := by decide +kernel
theorem dL_isRefused_253 : decode cL_isRefused 253 = .ok (.invokevirtual 80, 3) := by decide +kernel
theorem dL_isRefused_256 : decode cL_isRefused 256 = .ok (.ifCond .eq 35, 3) := by decide +kernel
theorem dL_isRefused_259 : decode cL_isRefused 259 = .ok (.aload_n 0, 1) := by decide +kernel
theorem dL_isRefused_260 : decode cL_isRefused 260 = .ok (.iconst 0, 1) := by decide +kernel
theorem dL_isRefused_261 : decode cL_isRefused 261 = .ok (.iconst 5, 1) := by decide +kernel
theorem dL_isRefused_262 : decode cL_isRefused 262 = .ok (.iconst 0, 1) := by decide +kernel
theorem dL_isRefused_263 : decode cL_isRefused 263 = .ok (.iconst 0, 1) := by decide +kernel
theorem dL_isRefused_264 : decode cL_isRefused 264 = .ok (.invokestatic 112, 3) := by decide +kernel
theorem dL_isRefused_267 : decode cL_isRefused 267 = .ok (.sipush (-1033), 3) := by decide +kernel
theorem dL_isRefused_270 : decode cL_isRefused 270 = .ok (.if_icmp .ne 40, 3) := by decide +kernel
theorem dL_isRefused_273 : decode cL_isRefused 273 = .ok (.aload_n 0, 1) := by decide +kernel
theorem dL_isRefused_274 : decode cL_isRefused 274 = .ok (.bipush 7, 2) := by decide +kernel
theorem dL_isRefused_276 : decode cL_isRefused 276 = .ok (.iconst 5, 1) := by decide +kernel
theorem dL_isRefused_277 : decode cL_isRefused 277 = .ok (.iconst 0, 1) := by decide +kernel
theorem dL_isRefused_278 : decode cL_isRefused 278 = .ok (.iconst 0, 1) := by decide +kernel
theorem dL_isRefused_279 : decode cL_isRefused 279 = .ok (.invokestatic 112, 3) := by decide +kernel
theorem dL_isRefused_282 : decode cL_isRefused 282 = .ok (.sipush (-1033), 3) := by decide +kernel
theorem dL_isRefused_285 : decode cL_isRefused 285 = .ok (.if_icmp .ne 25, 3) := by decide +kernel
theorem dL_isRefused_288 : decode cL_isRefused 288 = .ok (.goto 18, 3) := by decide +kernel
theorem dL_isRefused_291 : decode cL_isRefused 291 = .ok (.aload_n 0, 1) := by decide +kernel
theorem dL_isRefused_292 : decode cL_isRefused 292 = .ok (.bipush 8, 2) := by decide +kernel
theorem dL_isRefused_294 : decode cL_isRefused 294 = .ok (.iconst 5, 1) := by decide +kernel
theorem dL_isRefused_295 : decode cL_isRefused 295 = .ok (.iconst 0, 1) := by decide +kernel
theorem dL_isRefused_296 : decode cL_isRefused 296 = .ok (.iconst 0, 1) := by decide +kernel
theorem dL_isRefused_297 : decode cL_isRefused 297 = .ok (.invokestatic 112, 3) := by decide +kernel
theorem dL_isRefused_300 : decode cL_isRefused 300 = .ok (.sipush (-1033), 3) := by decide +kernel
theorem dL_isRefused_303 : decode cL_isRefused 303 = .ok (.if_icmp .ne 7, 3) := by decide +kernel
theorem dL_isRefused_306 : decode cL_isRefused 306 = .ok (.iconst 1, 1) := by decide +kernel
theorem dL_isRefused_307 : decode cL_isRefused 307 = .ok (.goto 4, 3) := by decide +kernel
theorem dL_isRefused_310 : decode cL_isRefused 310 = .ok (.iconst 0, 1) := by decide +kernel
theorem dL_isRefused_311 : decode cL_isRefused 311 = .ok (.istore 7, 2) := by decide +kernel
theorem dL_isRefused_313 : decode cL_isRefused 313 = .ok (.iconst 0, 1) := by decide +kernel
theorem dL_isRefused_314 : decode cL_isRefused 314 = .ok (.istore 8, 2) := by decide +kernel
theorem dL_isRefused_316 : decode cL_isRefused 316 = .ok (.iload 8, 2) := by decide +kernel
theorem dL_isRefused_318 : decode cL_isRefused 318 = .ok (.iconst 4, 1) := by decide +kernel
theorem dL_isRefused_319 : decode cL_isRefused 319 = .ok (.if_icmp .ge 34, 3) := by decide +kernel
theorem dL_isRefused_322 : decode cL_isRefused 322 = .ok (.iload 7, 2) := by decide +kernel
theorem dL_isRefused_324 : decode cL_isRefused 324 = .ok (.ifCond .eq 29, 3) := by decide +kernel
theorem dL_isRefused_327 : decode cL_isRefused 327 = .ok (.aload_n 0, 1) := by decide +kernel
theorem dL_isRefused_328 : decode cL_isRefused 328 = .ok (.iload 8, 2) := by decide +kernel
theorem dL_isRefused_330 : decode cL_isRefused 330 = .ok (.iload_n 3, 1) := by decide +kernel
theorem dL_isRefused_331 : decode cL_isRefused 331 = .ok (.invokestatic 128, 3) := by decide +kernel
theorem dL_isRefused_334 : decode cL_isRefused 334 = .ok (.sipush (-1031), 3) := by decide +kernel
theorem dL_isRefused_337 : decode cL_isRefused 337 = .ok (.if_icmp .ne 7, 3) := by decide +kernel
theorem dL_isRefused_340 : decode cL_isRefused 340 = .ok (.iconst 1, 1) := by decide +kernel
theorem dL_isRefused_341 : decode cL_isRefused 341 = .ok (.goto 4, 3) := by decide +kernel
theorem dL_isRefused_344 : decode cL_isRefused 344 = .ok (.iconst 0, 1) := by decide +kernel
theorem dL_isRefused_345 : decode cL_isRefused 345 = .ok (.istore 7, 2) := by decide +kernel
theorem dL_isRefused_347 : decode cL_isRefused 347 = .ok (.iinc 8 1, 3) := by decide +kernel
theorem dL_isRefused_350 : decode cL_isRefused 350 = .ok (.goto (-34), 3) := by decide +kernel
theorem dL_isRefused_353 : decode cL_isRefused 353 = .ok (.iconst 0, 1) := by decide +kernel
theorem dL_isRefused_354 : decode cL_isRefused 354 = .ok (.istore 8, 2) := by decide +kernel
theorem dL_isRefused_356 : decode cL_isRefused 356 = .ok (.iload 8, 2) := by decide +kernel
theorem dL_isRefused_358 : decode cL_isRefused 358 = .ok (.aload_n 0, 1) := by decide +kernel
theorem dL_isRefused_359 : decode cL_isRefused 359 = .ok (.invokevirtual 61, 3) := by decide +kernel
theorem dL_isRefused_362 : decode cL_isRefused 362 = .ok (.if_icmp .ge 277, 3) := by decide +kernel
theorem dL_isRefused_365 : decode cL_isRefused 365 = .ok (.iload 7, 2) := by decide +kernel
theorem dL_isRefused_367 : decode cL_isRefused 367 = .ok (.ifCond .eq 272, 3) := by decide +kernel
theorem dL_isRefused_370 : decode cL_isRefused 370 = .ok (.iload 8, 2) := by decide +kernel
theorem dL_isRefused_372 : decode cL_isRefused 372 = .ok (.iconst 1, 1) := by decide +kernel
theorem dL_isRefused_373 : decode cL_isRefused 373 = .ok (.iadd, 1) := by decide +kernel
theorem dL_isRefused_374 : decode cL_isRefused 374 = .ok (.aload_n 0, 1) := by decide +kernel
theorem dL_isRefused_375 : decode cL_isRefused 375 = .ok (.invokevirtual 61, 3) := by decide +kernel
theorem dL_isRefused_378 : decode cL_isRefused 378 = .ok (.irem, 1) := by decide +kernel
theorem dL_isRefused_379 : decode cL_isRefused 379 = .ok (.istore 9, 2) := by decide +kernel
theorem dL_isRefused_381 : decode cL_isRefused 381 = .ok (.aload_n 0, 1) := by decide +kernel
theorem dL_isRefused_382 : decode cL_isRefused 382 = .ok (.iconst 1, 1) := by decide +kernel
theorem dL_isRefused_383 : decode cL_isRefused 383 = .ok (.iload 8, 2) := by decide +kernel
theorem dL_isRefused_385 : decode cL_isRefused 385 = .ok (.iload_n 3, 1) := by decide +kernel
theorem dL_isRefused_386 : decode cL_isRefused 386 = .ok (.iconst 0, 1) := by decide +kernel
theorem dL_isRefused_387 : decode cL_isRefused 387 = .ok (.invokestatic 112, 3) := by decide +kernel
theorem dL_isRefused_390 : decode cL_isRefused 390 = .ok (.sipush (-1031), 3) := by decide +kernel
theorem dL_isRefused_393 : decode cL_isRefused 393 = .ok (.if_icmp .ne 237, 3) := by decide +kernel
theorem dL_isRefused_396 : decode cL_isRefused 396 = .ok (.aload_n 0, 1) := by decide +kernel
theorem dL_isRefused_397 : decode cL_isRefused 397 = .ok (.iconst 1, 1) := by decide +kernel
theorem dL_isRefused_398 : decode cL_isRefused 398 = .ok (.iload 8, 2) := by decide +kernel
theorem dL_isRefused_400 : decode cL_isRefused 400 = .ok (.iload 8, 2) := by decide +kernel
theorem dL_isRefused_402 : decode cL_isRefused 402 = .ok (.iconst 0, 1) := by decide +kernel
theorem dL_isRefused_403 : decode cL_isRefused 403 = .ok (.invokestatic 112, 3) := by decide +kernel
theorem dL_isRefused_406 : decode cL_isRefused 406 = .ok (.sipush (-1033), 3) := by decide +kernel
theorem dL_isRefused_409 : decode cL_isRefused 409 = .ok (.if_icmp .ne 221, 3) := by decide +kernel
theorem dL_isRefused_412 : decode cL_isRefused 412 = .ok (.aload_n 0, 1) := by decide +kernel
theorem dL_isRefused_413 : decode cL_isRefused 413 = .ok (.iconst 2, 1) := by decide +kernel
theorem dL_isRefused_414 : decode cL_isRefused 414 = .ok (.iload 8, 2) := by decide +kernel
theorem dL_isRefused_416 : decode cL_isRefused 416 = .ok (.iload_n 3, 1) := by decide +kernel
theorem dL_isRefused_417 : decode cL_isRefused 417 = .ok (.iconst 0, 1) := by decide +kernel
theorem dL_isRefused_418 : decode cL_isRefused 418 = .ok (.invokestatic 112, 3) := by decide +kernel
theorem dL_isRefused_421 : decode cL_isRefused 421 = .ok (.sipush (-1031), 3) := by decide +kernel
theorem dL_isRefused_424 : decode cL_isRefused 424 = .ok (.if_icmp .ne 206, 3) := by decide +kernel
theorem dL_isRefused_427 : decode cL_isRefused 427 = .ok (.aload_n 0, 1) := by decide +kernel
theorem dL_isRefused_428 : decode cL_isRefused 428 = .ok (.iconst 2, 1) := by decide +kernel
theorem dL_isRefused_429 : decode cL_isRefused 429 = .ok (.iload 8, 2) := by decide +kernel
theorem dL_isRefused_431 : decode cL_isRefused 431 = .ok (.iload 9, 2) := by decide +kernel
theorem dL_isRefused_433 : decode cL_isRefused 433 = .ok (.iload_n 2, 1) := by decide +kernel
theorem dL_isRefused_434 : decode cL_isRefused 434 = .ok (.ifCond .eq 7, 3) := by decide +kernel
theorem dL_isRefused_437 : decode cL_isRefused 437 = .ok (.iconst 0, 1) := by decide +kernel
theorem dL_isRefused_438 : decode cL_isRefused 438 = .ok (.goto 5, 3) := by decide +kernel
theorem dL_isRefused_441 : decode cL_isRefused 441 = .ok (.bipush 101, 2) := by decide +kernel
theorem dL_isRefused_443 : decode cL_isRefused 443 = .ok (.invokestatic 112, 3) := by decide +kernel
theorem dL_isRefused_446 : decode cL_isRefused 446 = .ok (.sipush (-1032), 3) := by decide +kernel
theorem dL_isRefused_449 : decode cL_isRefused 449 = .ok (.if_icmp .ne 181, 3) := by decide +kernel
theorem dL_isRefused_452 : decode cL_isRefused 452 = .ok (.aload_n 0, 1) := by decide +kernel
theorem dL_isRefused_453 : decode cL_isRefused 453 = .ok (.iconst 2, 1) := by decide +kernel
theorem dL_isRefused_454 : decode cL_isRefused 454 = .ok (.iload 8, 2) := by decide +kernel
theorem dL_isRefused_456 : decode cL_isRefused 456 = .ok (.iload 8, 2) := by decide +kernel
theorem dL_isRefused_458 : decode cL_isRefused 458 = .ok (.iconst 5, 1) := by decide +kernel
theorem dL_isRefused_459 : decode cL_isRefused 459 = .ok (.invokestatic 112, 3) := by decide +kernel
theorem dL_isRefused_462 : decode cL_isRefused 462 = .ok (.sipush (-1032), 3) := by decide +kernel
theorem dL_isRefused_465 : decode cL_isRefused 465 = .ok (.if_icmp .ne 165, 3) := by decide +kernel
theorem dL_isRefused_468 : decode cL_isRefused 468 = .ok (.aload_n 0, 1) := by decide +kernel
theorem dL_isRefused_469 : decode cL_isRefused 469 = .ok (.iconst 3, 1) := by decide +kernel
theorem dL_isRefused_470 : decode cL_isRefused 470 = .ok (.iload 8, 2) := by decide +kernel
theorem dL_isRefused_472 : decode cL_isRefused 472 = .ok (.iload 4, 2) := by decide +kernel
theorem dL_isRefused_474 : decode cL_isRefused 474 = .ok (.iconst 0, 1) := by decide +kernel
theorem dL_isRefused_475 : decode cL_isRefused 475 = .ok (.invokestatic 112, 3) := by decide +kernel
theorem dL_isRefused_478 : decode cL_isRefused 478 = .ok (.sipush (-1031), 3) := by decide +kernel
theorem dL_isRefused_481 : decode cL_isRefused 481 = .ok (.if_icmp .ne 149, 3) := by decide +kernel
theorem dL_isRefused_484 : decode cL_isRefused 484 = .ok (.aload_n 0, 1) := by decide +kernel
theorem dL_isRefused_485 : decode cL_isRefused 485 = .ok (.iconst 3, 1) := by decide +kernel
theorem dL_isRefused_486 : decode cL_isRefused 486 = .ok (.iload 8, 2) := by decide +kernel
theorem dL_isRefused_488 : decode cL_isRefused 488 = .ok (.iload 8, 2) := by decide +kernel
theorem dL_isRefused_490 : decode cL_isRefused 490 = .ok (.iconst 0, 1) := by decide +kernel
theorem dL_isRefused_491 : decode cL_isRefused 491 = .ok (.invokestatic 112, 3) := by decide +kernel
theorem dL_isRefused_494 : decode cL_isRefused 494 = .ok (.sipush (-1032), 3) := by decide +kernel
theorem dL_isRefused_497 : decode cL_isRefused 497 = .ok (.if_icmp .ne 133, 3) := by decide +kernel
theorem dL_isRefused_500 : decode cL_isRefused 500 = .ok (.aload_n 0, 1) := by decide +kernel
theorem dL_isRefused_501 : decode cL_isRefused 501 = .ok (.iconst 5, 1) := by decide +kernel
theorem dL_isRefused_502 : decode cL_isRefused 502 = .ok (.iload 8, 2) := by decide +kernel
theorem dL_isRefused_504 : decode cL_isRefused 504 = .ok (.iload_n 2, 1) := by decide +kernel
theorem dL_isRefused_505 : decode cL_isRefused 505 = .ok (.ifCond .eq 7, 3) := by decide +kernel
theorem dL_isRefused_508 : decode cL_isRefused 508 = .ok (.iconst (-1), 1) := by decide +kernel
theorem dL_isRefused_509 : decode cL_isRefused 509 = .ok (.goto 5, 3) := by decide +kernel
theorem dL_isRefused_512 : decode cL_isRefused 512 = .ok (.bipush 11, 2) := by decide +kernel
theorem dL_isRefused_514 : decode cL_isRefused 514 = .ok (.iconst 0, 1) := by decide +kernel
theorem dL_isRefused_515 : decode cL_isRefused 515 = .ok (.invokestatic 112, 3) := by decide +kernel
theorem dL_isRefused_518 : decode cL_isRefused 518 = .ok (.sipush (-1032), 3) := by decide +kernel
theorem dL_isRefused_521 : decode cL_isRefused 521 = .ok (.if_icmp .ne 109, 3) := by decide +kernel
theorem dL_isRefused_524 : decode cL_isRefused 524 = .ok (.aload_n 0, 1) := by decide +kernel
theorem dL_isRefused_525 : decode cL_isRefused 525 = .ok (.bipush 6, 2) := by decide +kernel
theorem dL_isRefused_527 : decode cL_isRefused 527 = .ok (.iload 8, 2) := by decide +kernel
theorem dL_isRefused_529 : decode cL_isRefused 529 = .ok (.iload_n 2, 1) := by decide +kernel
theorem dL_isRefused_530 : decode cL_isRefused 530 = .ok (.ifCond .eq 7, 3) := by decide +kernel
theorem dL_isRefused_533 : decode cL_isRefused 533 = .ok (.iconst 0, 1) := by decide +kernel
theorem dL_isRefused_534 : decode cL_isRefused 534 = .ok (.goto 5, 3) := by decide +kernel
theorem dL_isRefused_537 : decode cL_isRefused 537 = .ok (.bipush 101, 2) := by decide +kernel
theorem dL_isRefused_539 : decode cL_isRefused 539 = .ok (.iconst 0, 1) := by decide +kernel
theorem dL_isRefused_540 : decode cL_isRefused 540 = .ok (.invokestatic 112, 3) := by decide +kernel
theorem dL_isRefused_543 : decode cL_isRefused 543 = .ok (.sipush (-1032), 3) := by decide +kernel
theorem dL_isRefused_546 : decode cL_isRefused 546 = .ok (.if_icmp .ne 84, 3) := by decide +kernel
theorem dL_isRefused_549 : decode cL_isRefused 549 = .ok (.aload_n 0, 1) := by decide +kernel
theorem dL_isRefused_550 : decode cL_isRefused 550 = .ok (.invokevirtual 80, 3) := by decide +kernel
theorem dL_isRefused_553 : decode cL_isRefused 553 = .ok (.ifCond .eq 73, 3) := by decide +kernel
theorem dL_isRefused_556 : decode cL_isRefused 556 = .ok (.aload_n 0, 1) := by decide +kernel
theorem dL_isRefused_557 : decode cL_isRefused 557 = .ok (.iconst 4, 1) := by decide +kernel
theorem dL_isRefused_558 : decode cL_isRefused 558 = .ok (.iload 8, 2) := by decide +kernel
theorem dL_isRefused_560 : decode cL_isRefused 560 = .ok (.iconst 0, 1) := by decide +kernel
theorem dL_isRefused_561 : decode cL_isRefused 561 = .ok (.iconst 0, 1) := by decide +kernel
theorem dL_isRefused_562 : decode cL_isRefused 562 = .ok (.invokestatic 112, 3) := by decide +kernel
theorem dL_isRefused_565 : decode cL_isRefused 565 = .ok (.sipush (-1033), 3) := by decide +kernel
theorem dL_isRefused_568 : decode cL_isRefused 568 = .ok (.if_icmp .ne 62, 3) := by decide +kernel
theorem dL_isRefused_571 : decode cL_isRefused 571 = .ok (.aload_n 0, 1) := by decide +kernel
theorem dL_isRefused_572 : decode cL_isRefused 572 = .ok (.iconst 3, 1) := by decide +kernel
theorem dL_isRefused_573 : decode cL_isRefused 573 = .ok (.iload 8, 2) := by decide +kernel
theorem dL_isRefused_575 : decode cL_isRefused 575 = .ok (.iconst (-1), 1) := by decide +kernel
theorem dL_isRefused_576 : decode cL_isRefused 576 = .ok (.iconst 0, 1) := by decide +kernel
theorem dL_isRefused_577 : decode cL_isRefused 577 = .ok (.invokestatic 112, 3) := by decide +kernel
theorem dL_isRefused_580 : decode cL_isRefused 580 = .ok (.sipush (-1033), 3) := by decide +kernel
theorem dL_isRefused_583 : decode cL_isRefused 583 = .ok (.if_icmp .ne 47, 3) := by decide +kernel
theorem dL_isRefused_586 : decode cL_isRefused 586 = .ok (.aload_n 0, 1) := by decide +kernel
theorem dL_isRefused_587 : decode cL_isRefused 587 = .ok (.invokevirtual 61, 3) := by decide +kernel
theorem dL_isRefused_590 : decode cL_isRefused 590 = .ok (.iconst 2, 1) := by decide +kernel
theorem dL_isRefused_591 : decode cL_isRefused 591 = .ok (.if_icmp .lt 35, 3) := by decide +kernel
theorem dL_isRefused_594 : decode cL_isRefused 594 = .ok (.aload_n 0, 1) := by decide +kernel
theorem dL_isRefused_595 : decode cL_isRefused 595 = .ok (.iconst 2, 1) := by decide +kernel
theorem dL_isRefused_596 : decode cL_isRefused 596 = .ok (.iload 8, 2) := by decide +kernel
theorem dL_isRefused_598 : decode cL_isRefused 598 = .ok (.iload 9, 2) := by decide +kernel
theorem dL_isRefused_600 : decode cL_isRefused 600 = .ok (.iconst 5, 1) := by decide +kernel
theorem dL_isRefused_601 : decode cL_isRefused 601 = .ok (.invokestatic 112, 3) := by decide +kernel
theorem dL_isRefused_604 : decode cL_isRefused 604 = .ok (.sipush (-1033), 3) := by decide +kernel
theorem dL_isRefused_607 : decode cL_isRefused 607 = .ok (.if_icmp .ne 23, 3) := by decide +kernel
theorem dL_isRefused_610 : decode cL_isRefused 610 = .ok (.aload_n 0, 1) := by decide +kernel
theorem dL_isRefused_611 : decode cL_isRefused 611 = .ok (.iconst 1, 1) := by decide +kernel
theorem dL_isRefused_612 : decode cL_isRefused 612 = .ok (.iload 8, 2) := by decide +kernel
theorem dL_isRefused_614 : decode cL_isRefused 614 = .ok (.iload 9, 2) := by decide +kernel
theorem dL_isRefused_616 : decode cL_isRefused 616 = .ok (.iconst 0, 1) := by decide +kernel
theorem dL_isRefused_617 : decode cL_isRefused 617 = .ok (.invokestatic 112, 3) := by decide +kernel
theorem dL_isRefused_620 : decode cL_isRefused 620 = .ok (.sipush (-1033), 3) := by decide +kernel
theorem dL_isRefused_623 : decode cL_isRefused 623 = .ok (.if_icmp .ne 7, 3) := by decide +kernel
theorem dL_isRefused_626 : decode cL_isRefused 626 = .ok (.iconst 1, 1) := by decide +kernel
theorem dL_isRefused_627 : decode cL_isRefused 627 = .ok (.goto 4, 3) := by decide +kernel
theorem dL_isRefused_630 : decode cL_isRefused 630 = .ok (.iconst 0, 1) := by decide +kernel
theorem dL_isRefused_631 : decode cL_isRefused 631 = .ok (.istore 7, 2) := by decide +kernel
theorem dL_isRefused_633 : decode cL_isRefused 633 = .ok (.iinc 8 1, 3) := by decide +kernel
theorem dL_isRefused_636 : decode cL_isRefused 636 = .ok (.goto (-280), 3) := by decide +kernel
theorem dL_isRefused_639 : decode cL_isRefused 639 = .ok (.iload 7, 2) := by decide +kernel
theorem dL_isRefused_641 : decode cL_isRefused 641 = .ok (.ifCond .eq 17, 3) := by decide +kernel
theorem dL_isRefused_644 : decode cL_isRefused 644 = .ok (.aload_n 0, 1) := by decide +kernel
theorem dL_isRefused_645 : decode cL_isRefused 645 = .ok (.invokestatic 124, 3) := by decide +kernel
theorem dL_isRefused_648 : decode cL_isRefused 648 = .ok (.lload 5, 2) := by decide +kernel
theorem dL_isRefused_650 : decode cL_isRefused 650 = .ok (.lcmp, 1) := by decide +kernel
theorem dL_isRefused_651 : decode cL_isRefused 651 = .ok (.ifCond .ne 7, 3) := by decide +kernel
theorem dL_isRefused_654 : decode cL_isRefused 654 = .ok (.iconst 1, 1) := by decide +kernel
theorem dL_isRefused_655 : decode cL_isRefused 655 = .ok (.goto 4, 3) := by decide +kernel
theorem dL_isRefused_658 : decode cL_isRefused 658 = .ok (.iconst 0, 1) := by decide +kernel
theorem dL_isRefused_659 : decode cL_isRefused 659 = .ok (.ireturn, 1) := by decide +kernel
set_option maxRecDepth 20000 in
theorem ggL_isTold_X2_units : GoodIn wsL_isTold wsX2_units := goodIn_r _ [5, 6, 287, 288, 289, 290, 291, 292, 293] (by decide +kernel) (by decide +kernel)
set_option maxRecDepth 20000 in
theorem gL_isTold_X2_units : GoodIn wsL_isTold (wsV RL 61 RX2 yX2_units wsX2_units) := goodIn_app (goodIn_of _ (by decide +kernel)) ggL_isTold_X2_units
set_option maxRecDepth 20000 in
theorem ggL_isTold_L_act_h : GoodIn wsL_isTold [.codeWith yL_act cL_act 6 (some .int) [(0, 144, 145, 43), (0, 144, 151, 45), (0, 144, 157, 47)]] := goodIn_sub (fun w h => by rw [List.mem_singleton.mp h]; exact List.mem_of_getElem? (i := 10) rfl) rfl
set_option maxRecDepth 20000 in
theorem ggL_isTold_L_act_0 : GoodIn wsL_isTold wsL_act_r1 := goodIn_r _ [11, 12, 13, 14, 15, 16, 4, 17, 18, 19, 6, 20, 21, 22, 23, 24, 25, 26, 27, 28, 29, 30, 31, 32] (by decide +kernel) (by decide +kernel)
set_option maxRecDepth 20000 in
theorem ggL_isTold_L_act_1 : GoodIn wsL_isTold wsL_act_r2 := goodIn_r _ [33, 34, 35, 36, 37, 38, 39, 40, 41, 42, 43, 44, 45, 46, 47, 48, 49, 50, 51, 52, 53, 54, 55, 56] (by decide +kernel) (by decide +kernel)
set_option maxRecDepth 20000 in
theorem ggL_isTold_L_act_2 : GoodIn wsL_isTold wsL_act_r3 := goodIn_r _ [57, 58, 59, 60, 61, 62, 63, 64, 65, 66, 67, 68, 69, 70, 71, 72, 73, 74, 75, 76, 77, 78, 79, 80] (by decide +kernel) (by decide +kernel)
set_option maxRecDepth 20000 in
theorem ggL_isTold_L_act_3 : GoodIn wsL_isTold wsL_act_r4 := goodIn_r _ [81, 82, 83, 84, 85, 86, 87, 88, 89, 90, 91, 92, 93, 94, 95, 96, 97, 98, 99, 100, 101, 102, 103, 104] (by decide +kernel) (by decide +kernel)
set_option maxRecDepth 20000 in
theorem ggL_isTold_L_act_4 : GoodIn wsL_isTold wsL_act_r5 := goodIn_r _ [105, 106, 107, 108, 109, 110, 111, 112, 113, 114, 115, 116, 117, 118, 119, 120, 121, 122, 123, 124, 125, 126, 127, 128] (by decide +kernel) (by decide +kernel)
set_option maxRecDepth 20000 in
theorem ggL_isTold_L_act_5 : GoodIn wsL_isTold wsL_act_r6 := goodIn_r _ [129, 130, 131, 132, 133, 134, 135, 136, 137, 138, 139, 140, 141, 142, 143, 144, 145, 146, 147, 148, 149, 150, 151, 152] (by decide +kernel) (by decide +kernel)
set_option maxRecDepth 20000 in
theorem ggL_isTold_L_act_6 : GoodIn wsL_isTold wsL_act_r7 := goodIn_r _ [153, 154, 155, 156, 157, 158, 159, 160, 161, 162, 163, 164, 165, 166, 167, 168, 169, 170, 171, 172, 173, 174, 175, 176] (by decide +kernel) (by decide +kernel)
set_option maxRecDepth 20000 in
theorem ggL_isTold_L_act_7 : GoodIn wsL_isTold wsL_act_r8 := goodIn_r _ [177, 178, 179, 180, 181, 182, 183, 184, 185, 186, 187, 188, 189, 190, 191, 192, 193, 194, 195, 196, 197, 198, 199, 200] (by decide +kernel) (by decide +kernel)
set_option maxRecDepth 20000 in
theorem ggL_isTold_L_act_8 : GoodIn wsL_isTold wsL_act_r9 := goodIn_r _ [201, 202, 203, 204, 205, 206, 207, 208, 209, 210, 211, 212, 213, 214, 215, 216, 217, 218, 219, 220, 221, 222, 223, 224] (by decide +kernel) (by decide +kernel)
set_option maxRecDepth 20000 in
theorem ggL_isTold_L_act_9 : GoodIn wsL_isTold wsL_act_r10 := goodIn_r _ [225, 226, 227, 228, 229, 230, 231, 232, 233, 234, 235, 236, 237, 238, 239, 240, 241, 242, 243, 244, 245, 246, 247, 248] (by decide +kernel) (by decide +kernel)
set_option maxRecDepth 20000 in
theorem ggL_isTold_L_act_10 : GoodIn wsL_isTold wsL_act_r11 := goodIn_r _ [249, 250, 251, 252, 253, 254, 255, 256, 257, 258, 259, 260, 261, 262, 263, 264, 265, 266, 267, 268, 269, 270, 271, 272] (by decide +kernel) (by decide +kernel)
set_option maxRecDepth 20000 in
theorem ggL_isTold_L_act_11 : GoodIn wsL_isTold wsL_act_r12 := goodIn_r _ [273, 274, 275, 276, 277, 278, 279, 280, 281, 282, 283, 284, 285, 286] (by decide +kernel) (by decide +kernel)
set_option maxRecDepth 20000 in
theorem ggL_isTold_L_act_wsX20 : GoodIn wsL_isTold wsX20 := goodIn_r _ [287, 288, 289, 290, 291, 292, 293] (by decide +kernel) (by decide +kernel)
set_option maxRecDepth 20000 in
theorem ggL_isTold_L_act_wsX00 : GoodIn wsL_isTold wsX00 := goodIn_r _ [294, 295, 296, 297, 298, 299, 300, 301, 302, 303, 304, 305, 306] (by decide +kernel) (by decide +kernel)
set_option maxRecDepth 20000 in
theorem ggL_isTold_L_act_wsX10 : GoodIn wsL_isTold wsX10 := goodIn_r _ [307, 308, 309] (by decide +kernel) (by decide +kernel)
set_option maxRecDepth 20000 in
theorem ggL_isTold_L_act_wsJx4a65c0 : GoodIn wsL_isTold wsJx4a65c0 := goodIn_r _ [310, 311, 312] (by decide +kernel) (by decide +kernel)
set_option maxRecDepth 20000 in
theorem ggL_isTold_L_act : GoodIn wsL_isTold wsL_act := goodIn_ca (goodIn_ca (goodIn_ca (goodIn_ca (goodIn_ca (goodIn_ca (goodIn_ca (goodIn_hd ggL_isTold_L_act_h (goodIn_app ggL_isTold_L_act_0 (goodIn_app ggL_isTold_L_act_1 (goodIn_app ggL_isTold_L_act_2 (goodIn_app ggL_isTold_L_act_3 (goodIn_app ggL_isTold_L_act_4 (goodIn_app ggL_isTold_L_act_5 (goodIn_app ggL_isTold_L_act_6 (goodIn_app ggL_isTold_L_act_7 (goodIn_app ggL_isTold_L_act_8 (goodIn_app ggL_isTold_L_act_9 (goodIn_app ggL_isTold_L_act_10 ggL_isTold_L_act_11)))))))))))) ggL_isTold_L_act_wsX20) ggL_isTold_L_act_wsX00) ggL_isTold_L_act_wsX10) ggL_isTold_L_act_wsJx4a65c0) (goodIn_sub (fun _ h => List.mem_cons_of_mem _ (List.mem_append_left _ (List.mem_append_left _ (List.mem_append_right _ h)))) (by decide +kernel))) (goodIn_sub (fun _ h => List.mem_cons_of_mem _ (List.mem_append_left _ (List.mem_append_right _ h))) (by decide +kernel))) (goodIn_sub (fun _ h => List.mem_cons_of_mem _ (List.mem_append_right _ h)) (by decide +kernel))
set_option maxRecDepth 20000 in
theorem gL_isTold_L_act : GoodIn wsL_isTold (va_wsS RL 112 yL_act wsL_act) := goodIn_app (goodIn_of _ (by decide +kernel)) ggL_isTold_L_act
theorem dL_isTold_0 : decode cL_isTold 0 = .ok (.iload 4, 2) := by decide +kernel
theorem dL_isTold_2 : decode cL_isTold 2 = .ok (.iconst 1, 1) := by decide +kernel
theorem dL_isTold_3 : decode cL_isTold 3 = .ok (.if_icmp .ne 166, 3) := by decide +kernel
theorem dL_isTold_6 : decode cL_isTold 6 = .ok (.iconst 0, 1) := by decide +kernel
theorem dL_isTold_7 : decode cL_isTold 7 = .ok (.istore 8, 2) := by decide +kernel
theorem dL_isTold_9 : decode cL_isTold 9 = .ok (.iconst 1, 1) := by decide +kernel
theorem dL_isTold_10 : decode cL_isTold 10 = .ok (.iload 6, 2) := by decide +kernel
theorem dL_isTold_12 : decode cL_isTold 12 = .ok (.ishl, 1) := by decide +kernel
theorem dL_isTold_13 : decode cL_isTold 13 = .ok (.istore 9, 2) := by decide +kernel
theorem dL_isTold_15 : decode cL_isTold 15 = .ok (.iconst 0, 1) := by decide +kernel
theorem dL_isTold_16 : decode cL_isTold 16 = .ok (.istore 10, 2) := by decide +kernel
theorem dL_isTold_18 : decode cL_isTold 18 = .ok (.iload 10, 2) := by decide +kernel
theorem dL_isTold_20 : decode cL_isTold 20 = .ok (.bipush 8, 2) := by decide +kernel
theorem dL_isTold_22 : decode cL_isTold 22 = .ok (.if_icmp .ge 56, 3) := by decide +kernel
theorem dL_isTold_25 : decode cL_isTold 25 = .ok (.iconst 0, 1) := by decide +kernel
theorem dL_isTold_26 : decode cL_isTold 26 = .ok (.istore 11, 2) := by decide +kernel
theorem dL_isTold_28 : decode cL_isTold 28 = .ok (.iload 11, 2) := by decide +kernel
theorem dL_isTold_30 : decode cL_isTold 30 = .ok (.aload_n 0, 1) := by decide +kernel
theorem dL_isTold_31 : decode cL_isTold 31 = .ok (.invokevirtual 61, 3) := by decide +kernel
theorem dL_isTold_34 : decode cL_isTold 34 = .ok (.if_icmp .ge 38, 3) := by decide +kernel
theorem dL_isTold_37 : decode cL_isTold 37 = .ok (.iload 9, 2) := by decide +kernel
theorem dL_isTold_39 : decode cL_isTold 39 = .ok (.iload 9, 2) := by decide +kernel
theorem dL_isTold_41 : decode cL_isTold 41 = .ok (.iload 11, 2) := by decide +kernel
theorem dL_isTold_43 : decode cL_isTold 43 = .ok (.ishr, 1) := by decide +kernel
theorem dL_isTold_44 : decode cL_isTold 44 = .ok (.iconst 1, 1) := by decide +kernel
theorem dL_isTold_45 : decode cL_isTold 45 = .ok (.iand, 1) := by decide +kernel
theorem dL_isTold_46 : decode cL_isTold 46 = .ok (.iconst 1, 1) := by decide +kernel
theorem dL_isTold_47 : decode cL_isTold 47 = .ok (.if_icmp .ne 15, 3) := by decide +kernel
theorem dL_isTold_50 : decode cL_isTold 50 = .ok (.aload_n 1, 1) := by decide +kernel
theorem dL_isTold_51 : decode cL_isTold 51 = .ok (.bipush 8, 2) := by decide +kernel
theorem dL_isTold_53 : decode cL_isTold 53 = .ok (.iload 11, 2) := by decide +kernel
theorem dL_isTold_55 : decode cL_isTold 55 = .ok (.imul, 1) := by decide +kernel
theorem dL_isTold_56 : decode cL_isTold 56 = .ok (.iconst 4, 1) := by decide +kernel
theorem dL_isTold_57 : decode cL_isTold 57 = .ok (.iadd, 1) := by decide +kernel
theorem dL_isTold_58 : decode cL_isTold 58 = .ok (.iaload, 1) := by decide +kernel
theorem dL_isTold_59 : decode cL_isTold 59 = .ok (.goto 4, 3) := by decide +kernel
theorem dL_isTold_62 : decode cL_isTold 62 = .ok (.iconst 0, 1) := by decide +kernel
theorem dL_isTold_63 : decode cL_isTold 63 = .ok (.ior, 1) := by decide +kernel
theorem dL_isTold_64 : decode cL_isTold 64 = .ok (.istore 9, 2) := by decide +kernel
theorem dL_isTold_66 : decode cL_isTold 66 = .ok (.iinc 11 1, 3) := by decide +kernel
theorem dL_isTold_69 : decode cL_isTold 69 = .ok (.goto (-41), 3) := by decide +kernel
theorem dL_isTold_72 : decode cL_isTold 72 = .ok (.iinc 10 1, 3) := by decide +kernel
theorem dL_isTold_75 : decode cL_isTold 75 = .ok (.goto (-57), 3) := by decide +kernel
theorem dL_isTold_78 : decode cL_isTold 78 = .ok (.iload 9, 2) := by decide +kernel
theorem dL_isTold_80 : decode cL_isTold 80 = .ok (.iload 5, 2) := by decide +kernel
theorem dL_isTold_82 : decode cL_isTold 82 = .ok (.ishr, 1) := by decide +kernel
theorem dL_isTold_83 : decode cL_isTold 83 = .ok (.iconst 1, 1) := by decide +kernel
theorem dL_isTold_84 : decode cL_isTold 84 = .ok (.iand, 1) := by decide +kernel
theorem dL_isTold_85 : decode cL_isTold 85 = .ok (.iconst 1, 1) := by decide +kernel
theorem dL_isTold_86 : decode cL_isTold 86 = .ok (.if_icmp .ne 7, 3) := by decide +kernel
theorem dL_isTold_89 : decode cL_isTold 89 = .ok (.iconst 1, 1) := by decide +kernel
theorem dL_isTold_90 : decode cL_isTold 90 = .ok (.goto 4, 3) := by decide +kernel
theorem dL_isTold_93 : decode cL_isTold 93 = .ok (.iconst 0, 1) := by decide +kernel
theorem dL_isTold_94 : decode cL_isTold 94 = .ok (.istore 8, 2) := by decide +kernel
theorem dL_isTold_96 : decode cL_isTold 96 = .ok (.aload_n 1, 1) := by decide +kernel
theorem dL_isTold_97 : decode cL_isTold 97 = .ok (.bipush 8, 2) := by decide +kernel
theorem dL_isTold_99 : decode cL_isTold 99 = .ok (.iload 5, 2) := by decide +kernel
theorem dL_isTold_101 : decode cL_isTold 101 = .ok (.imul, 1) := by decide +kernel
theorem dL_isTold_102 : decode cL_isTold 102 = .ok (.iconst 4, 1) := by decide +kernel
theorem dL_isTold_103 : decode cL_isTold 103 = .ok (.iadd, 1) := by decide +kernel
theorem dL_isTold_104 : decode cL_isTold 104 = .ok (.iaload, 1) := by decide +kernel
theorem dL_isTold_105 : decode cL_isTold 105 = .ok (.iload 6, 2) := by decide +kernel
theorem dL_isTold_107 : decode cL_isTold 107 = .ok (.ishr, 1) := by decide +kernel
theorem dL_isTold_108 : decode cL_isTold 108 = .ok (.iconst 1, 1) := by decide +kernel
theorem dL_isTold_109 : decode cL_isTold 109 = .ok (.iand, 1) := by decide +kernel
theorem dL_isTold_110 : decode cL_isTold 110 = .ok (.istore 10, 2) := by decide +kernel
theorem dL_isTold_112 : decode cL_isTold 112 = .ok (.aload_n 1, 1) := by decide +kernel
theorem dL_isTold_113 : decode cL_isTold 113 = .ok (.bipush 8, 2) := by decide +kernel
theorem dL_isTold_115 : decode cL_isTold 115 = .ok (.iload 5, 2) := by decide +kernel
theorem dL_isTold_117 : decode cL_isTold 117 = .ok (.imul, 1) := by decide +kernel
theorem dL_isTold_118 : decode cL_isTold 118 = .ok (.iconst 4, 1) := by decide +kernel
theorem dL_isTold_119 : decode cL_isTold 119 = .ok (.iadd, 1) := by decide +kernel
theorem dL_isTold_120 : decode cL_isTold 120 = .ok (.dup2, 1) := by decide +kernel
theorem dL_isTold_121 : decode cL_isTold 121 = .ok (.iaload, 1) := by decide +kernel
theorem dL_isTold_122 : decode cL_isTold 122 = .ok (.iload 8, 2) := by decide +kernel
theorem dL_isTold_124 : decode cL_isTold 124 = .ok (.ifCond .eq 7, 3) := by decide +kernel
theorem dL_isTold_127 : decode cL_isTold 127 = .ok (.iconst 0, 1) := by decide +kernel
theorem dL_isTold_128 : decode cL_isTold 128 = .ok (.goto 7, 3) := by decide +kernel
theorem dL_isTold_131 : decode cL_isTold 131 = .ok (.iconst 1, 1) := by decide +kernel
theorem dL_isTold_132 : decode cL_isTold 132 = .ok (.iload 6, 2) := by decide +kernel
theorem dL_isTold_134 : decode cL_isTold 134 = .ok (.ishl, 1) := by decide +kernel
theorem dL_isTold_135 : decode cL_isTold 135 = .ok (.ior, 1) := by decide +kernel
theorem dL_isTold_136 : decode cL_isTold 136 = .ok (.iastore, 1) := by decide +kernel
theorem dL_isTold_137 : decode cL_isTold 137 = .ok (.aload_n 0, 1) := by decide +kernel
theorem dL_isTold_138 : decode cL_isTold 138 = .ok (.iconst 1, 1) := by decide +kernel
theorem dL_isTold_139 : decode cL_isTold 139 = .ok (.iload 5, 2) := by decide +kernel
theorem dL_isTold_141 : decode cL_isTold 141 = .ok (.iload 6, 2) := by decide +kernel
theorem dL_isTold_143 : decode cL_isTold 143 = .ok (.iconst 0, 1) := by decide +kernel
theorem dL_isTold_144 : decode cL_isTold 144 = .ok (.invokestatic 112, 3) := by decide +kernel
theorem dL_isTold_147 : decode cL_isTold 147 = .ok (.iload 8, 2) := by decide +kernel
theorem dL_isTold_149 : decode cL_isTold 149 = .ok (.ifCond .eq 9, 3) := by decide +kernel
theorem dL_isTold_152 : decode cL_isTold 152 = .ok (.sipush (-1033), 3) := by decide +kernel
theorem dL_isTold_155 : decode cL_isTold 155 = .ok (.goto 5, 3) := by decide +kernel
theorem dL_isTold_158 : decode cL_isTold 158 = .ok (.iload 10, 2) := by decide +kernel
theorem dL_isTold_160 : decode cL_isTold 160 = .ok (.if_icmp .ne 7, 3) := by decide +kernel
theorem dL_isTold_163 : decode cL_isTold 163 = .ok (.iconst 1, 1) := by decide +kernel
theorem dL_isTold_164 : decode cL_isTold 164 = .ok (.goto 4, 3) := by decide +kernel
theorem dL_isTold_167 : decode cL_isTold 167 = .ok (.iconst 0, 1) := by decide +kernel
theorem dL_isTold_168 : decode cL_isTold 168 = .ok (.ireturn, 1) := by decide +kernel
theorem dL_isTold_169 : decode cL_isTold 169 = .ok (.iload 4, 2) := by decide +kernel
theorem dL_isTold_171 : decode cL_isTold 171 = .ok (.iconst 2, 1) := by decide +kernel
theorem dL_isTold_172 : decode cL_isTold 172 = .ok (.if_icmp .ne 108, 3) := by decide +kernel
theorem dL_isTold_175 : decode cL_isTold 175 = .ok (.iconst 1, 1) := by decide +kernel
theorem dL_isTold_176 : decode cL_isTold 176 = .ok (.iload 7, 2) := by decide +kernel
theorem dL_isTold_178 : decode cL_isTold 178 = .ok (.bipush 9, 2) := by decide +kernel
theorem dL_isTold_180 : decode cL_isTold 180 = .ok (.irem, 1) := by decide +kernel
theorem dL_isTold_181 : decode cL_isTold 181 = .ok (.iadd, 1) := by decide +kernel
theorem dL_isTold_182 : decode cL_isTold 182 = .ok (.istore 8, 2) := by decide +kernel
theorem dL_isTold_184 : decode cL_isTold 184 = .ok (.aload_n 2, 1) := by decide +kernel
theorem dL_isTold_185 : decode cL_isTold 185 = .ok (.bipush 8, 2) := by decide +kernel
theorem dL_isTold_187 : decode cL_isTold 187 = .ok (.iload 5, 2) := by decide +kernel
theorem dL_isTold_189 : decode cL_isTold 189 = .ok (.imul, 1) := by decide +kernel
theorem dL_isTold_190 : decode cL_isTold 190 = .ok (.iload 6, 2) := by decide +kernel
theorem dL_isTold_192 : decode cL_isTold 192 = .ok (.iadd, 1) := by decide +kernel
theorem dL_isTold_193 : decode cL_isTold 193 = .ok (.iaload, 1) := by decide +kernel
theorem dL_isTold_194 : decode cL_isTold 194 = .ok (.bipush 127, 2) := by decide +kernel
theorem dL_isTold_196 : decode cL_isTold 196 = .ok (.iand, 1) := by decide +kernel
theorem dL_isTold_197 : decode cL_isTold 197 = .ok (.istore 9, 2) := by decide +kernel
theorem dL_isTold_199 : decode cL_isTold 199 = .ok (.aload_n 2, 1) := by decide +kernel
theorem dL_isTold_200 : decode cL_isTold 200 = .ok (.bipush 8, 2) := by decide +kernel
theorem dL_isTold_202 : decode cL_isTold 202 = .ok (.iload 5, 2) := by decide +kernel
theorem dL_isTold_204 : decode cL_isTold 204 = .ok (.imul, 1) := by decide +kernel
theorem dL_isTold_205 : decode cL_isTold 205 = .ok (.iload 6, 2) := by decide +kernel
theorem dL_isTold_207 : decode cL_isTold 207 = .ok (.iadd, 1) := by decide +kernel
theorem dL_isTold_208 : decode cL_isTold 208 = .ok (.iload 9, 2) := by decide +kernel
theorem dL_isTold_210 : decode cL_isTold 210 = .ok (.ifCond .ne 15, 3) := by decide +kernel
theorem dL_isTold_213 : decode cL_isTold 213 = .ok (.iload 8, 2) := by decide +kernel
theorem dL_isTold_215 : decode cL_isTold 215 = .ok (.aload_n 3, 1) := by decide +kernel
theorem dL_isTold_216 : decode cL_isTold 216 = .ok (.iconst 2, 1) := by decide +kernel
theorem dL_isTold_217 : decode cL_isTold 217 = .ok (.iaload, 1) := by decide +kernel
theorem dL_isTold_218 : decode cL_isTold 218 = .ok (.bipush 7, 2) := by decide +kernel
theorem dL_isTold_220 : decode cL_isTold 220 = .ok (.ishl, 1) := by decide +kernel
theorem dL_isTold_221 : decode cL_isTold 221 = .ok (.ior, 1) := by decide +kernel
theorem dL_isTold_222 : decode cL_isTold 222 = .ok (.goto 19, 3) := by decide +kernel
theorem dL_isTold_225 : decode cL_isTold 225 = .ok (.aload_n 2, 1) := by decide +kernel
theorem dL_isTold_226 : decode cL_isTold 226 = .ok (.bipush 8, 2) := by decide +kernel
theorem dL_isTold_228 : decode cL_isTold 228 = .ok (.iload 5, 2) := by decide +kernel
theorem dL_isTold_230 : decode cL_isTold 230 = .ok (.imul, 1) := by decide +kernel
theorem dL_isTold_231 : decode cL_isTold 231 = .ok (.iload 6, 2) := by decide +kernel
theorem dL_isTold_233 : decode cL_isTold 233 = .ok (.iadd, 1) := by decide +kernel
theorem dL_isTold_234 : decode cL_isTold 234 = .ok (.iaload, 1) := by decide +kernel
theorem dL_isTold_235 : decode cL_isTold 235 = .ok (.iload 9, 2) := by decide +kernel
theorem dL_isTold_237 : decode cL_isTold 237 = .ok (.isub, 1) := by decide +kernel
theorem dL_isTold_238 : decode cL_isTold 238 = .ok (.iload 8, 2) := by decide +kernel
theorem dL_isTold_240 : decode cL_isTold 240 = .ok (.iadd, 1) := by decide +kernel
theorem dL_isTold_241 : decode cL_isTold 241 = .ok (.iastore, 1) := by decide +kernel
theorem dL_isTold_242 : decode cL_isTold 242 = .ok (.aload_n 3, 1) := by decide +kernel
theorem dL_isTold_243 : decode cL_isTold 243 = .ok (.iconst 2, 1) := by decide +kernel
theorem dL_isTold_244 : decode cL_isTold 244 = .ok (.dup2, 1) := by decide +kernel
theorem dL_isTold_245 : decode cL_isTold 245 = .ok (.iaload, 1) := by decide +kernel
theorem dL_isTold_246 : decode cL_isTold 246 = .ok (.iload 9, 2) := by decide +kernel
theorem dL_isTold_248 : decode cL_isTold 248 = .ok (.ifCond .ne 7, 3) := by decide +kernel
theorem dL_isTold_251 : decode cL_isTold 251 = .ok (.iconst 1, 1) := by decide +kernel
theorem dL_isTold_252 : decode cL_isTold 252 = .ok (.goto 4, 3) := by decide +kernel
theorem dL_isTold_255 : decode cL_isTold 255 = .ok (.iconst 0, 1) := by decide +kernel
theorem dL_isTold_256 : decode cL_isTold 256 = .ok (.iadd, 1) := by decide +kernel
theorem dL_isTold_257 : decode cL_isTold 257 = .ok (.iastore, 1) := by decide +kernel
theorem dL_isTold_258 : decode cL_isTold 258 = .ok (.aload_n 0, 1) := by decide +kernel
theorem dL_isTold_259 : decode cL_isTold 259 = .ok (.iconst 2, 1) := by decide +kernel
theorem dL_isTold_260 : decode cL_isTold 260 = .ok (.iload 5, 2) := by decide +kernel
theorem dL_isTold_262 : decode cL_isTold 262 = .ok (.iload 6, 2) := by decide +kernel
theorem dL_isTold_264 : decode cL_isTold 264 = .ok (.iload 8, 2) := by decide +kernel
theorem dL_isTold_266 : decode cL_isTold 266 = .ok (.invokestatic 112, 3) := by decide +kernel
theorem dL_isTold_269 : decode cL_isTold 269 = .ok (.iload 9, 2) := by decide +kernel
theorem dL_isTold_271 : decode cL_isTold 271 = .ok (.if_icmp .ne 7, 3) := by decide +kernel
theorem dL_isTold_274 : decode cL_isTold 274 = .ok (.iconst 1, 1) := by decide +kernel
theorem dL_isTold_275 : decode cL_isTold 275 = .ok (.goto 4, 3) := by decide +kernel
theorem dL_isTold_278 : decode cL_isTold 278 = .ok (.iconst 0, 1) := by decide +kernel
theorem dL_isTold_279 : decode cL_isTold 279 = .ok (.ireturn, 1) := by decide +kernel
theorem dL_isTold_280 : decode cL_isTold 280 = .ok (.iload 4, 2) := by decide +kernel
theorem dL_isTold_282 : decode cL_isTold 282 = .ok (.iconst 3, 1) := by decide +kernel
theorem dL_isTold_283 : decode cL_isTold 283 = .ok (.if_icmp .ne 64, 3) := by decide +kernel
theorem dL_isTold_286 : decode cL_isTold 286 = .ok (.aload_n 1, 1) := by decide +kernel
theorem dL_isTold_287 : decode cL_isTold 287 = .ok (.bipush 8, 2) := by decide +kernel
theorem dL_isTold_289 : decode cL_isTold 289 = .ok (.iload 5, 2) := by decide +kernel
theorem dL_isTold_291 : decode cL_isTold 291 = .ok (.imul, 1) := by decide +kernel
theorem dL_isTold_292 : decode cL_isTold 292 = .ok (.iconst 2, 1) := by decide +kernel
theorem dL_isTold_293 : decode cL_isTold 293 = .ok (.iadd, 1) := by decide +kernel
theorem dL_isTold_294 : decode cL_isTold 294 = .ok (.iaload, 1) := by decide +kernel
theorem dL_isTold_295 : decode cL_isTold 295 = .ok (.istore 8, 2) := by decide +kernel
theorem dL_isTold_297 : decode cL_isTold 297 = .ok (.aload_n 1, 1) := by decide +kernel
theorem dL_isTold_298 : decode cL_isTold 298 = .ok (.bipush 8, 2) := by decide +kernel
theorem dL_isTold_300 : decode cL_isTold 300 = .ok (.iload 5, 2) := by decide +kernel
theorem dL_isTold_302 : decode cL_isTold 302 = .ok (.imul, 1) := by decide +kernel
theorem dL_isTold_303 : decode cL_isTold 303 = .ok (.iconst 2, 1) := by decide +kernel
theorem dL_isTold_304 : decode cL_isTold 304 = .ok (.iadd, 1) := by decide +kernel
theorem dL_isTold_305 : decode cL_isTold 305 = .ok (.iload 7, 2) := by decide +kernel
theorem dL_isTold_307 : decode cL_isTold 307 = .ok (.iconst 4, 1) := by decide +kernel
theorem dL_isTold_308 : decode cL_isTold 308 = .ok (.irem, 1) := by decide +kernel
theorem dL_isTold_309 : decode cL_isTold 309 = .ok (.ifCond .ne 7, 3) := by decide +kernel
theorem dL_isTold_312 : decode cL_isTold 312 = .ok (.iconst (-1), 1) := by decide +kernel
theorem dL_isTold_313 : decode cL_isTold 313 = .ok (.goto 5, 3) := by decide +kernel
theorem dL_isTold_316 : decode cL_isTold 316 = .ok (.iload 6, 2) := by decide +kernel
theorem dL_isTold_318 : decode cL_isTold 318 = .ok (.iastore, 1) := by decide +kernel
theorem dL_isTold_319 : decode cL_isTold 319 = .ok (.aload_n 0, 1) := by decide +kernel
theorem dL_isTold_320 : decode cL_isTold 320 = .ok (.iconst 3, 1) := by decide +kernel
theorem dL_isTold_321 : decode cL_isTold 321 = .ok (.iload 5, 2) := by decide +kernel
theorem dL_isTold_323 : decode cL_isTold 323 = .ok (.aload_n 1, 1) := by decide +kernel
theorem dL_isTold_324 : decode cL_isTold 324 = .ok (.bipush 8, 2) := by decide +kernel
theorem dL_isTold_326 : decode cL_isTold 326 = .ok (.iload 5, 2) := by decide +kernel
theorem dL_isTold_328 : decode cL_isTold 328 = .ok (.imul, 1) := by decide +kernel
theorem dL_isTold_329 : decode cL_isTold 329 = .ok (.iconst 2, 1) := by decide +kernel
theorem dL_isTold_330 : decode cL_isTold 330 = .ok (.iadd, 1) := by decide +kernel
theorem dL_isTold_331 : decode cL_isTold 331 = .ok (.iaload, 1) := by decide +kernel
theorem dL_isTold_332 : decode cL_isTold 332 = .ok (.iconst 0, 1) := by decide +kernel
theorem dL_isTold_333 : decode cL_isTold 333 = .ok (.invokestatic 112, 3) := by decide +kernel
theorem dL_isTold_336 : decode cL_isTold 336 = .ok (.iload 8, 2) := by decide +kernel
theorem dL_isTold_338 : decode cL_isTold 338 = .ok (.if_icmp .ne 7, 3) := by decide +kernel
theorem dL_isTold_341 : decode cL_isTold 341 = .ok (.iconst 1, 1) := by decide +kernel
theorem dL_isTold_342 : decode cL_isTold 342 = .ok (.goto 4, 3) := by decide +kernel
theorem dL_isTold_345 : decode cL_isTold 345 = .ok (.iconst 0, 1) := by decide +kernel
theorem dL_isTold_346 : decode cL_isTold 346 = .ok (.ireturn, 1) := by decide +kernel
theorem dL_isTold_347 : decode cL_isTold 347 = .ok (.aload_n 1, 1) := by decide +kernel
theorem dL_isTold_348 : decode cL_isTold 348 = .ok (.bipush 8, 2) := by decide +kernel
theorem dL_isTold_350 : decode cL_isTold 350 = .ok (.iload 5, 2) := by decide +kernel
theorem dL_isTold_352 : decode cL_isTold 352 = .ok (.imul, 1) := by decide +kernel
theorem dL_isTold_353 : decode cL_isTold 353 = .ok (.iconst 3, 1) := by decide +kernel
theorem dL_isTold_354 : decode cL_isTold 354 = .ok (.iadd, 1) := by decide +kernel
theorem dL_isTold_355 : decode cL_isTold 355 = .ok (.iaload, 1) := by decide +kernel
theorem dL_isTold_356 : decode cL_isTold 356 = .ok (.istore 8, 2) := by decide +kernel
theorem dL_isTold_358 : decode cL_isTold 358 = .ok (.aload_n 1, 1) := by decide +kernel
theorem dL_isTold_359 : decode cL_isTold 359 = .ok (.bipush 8, 2) := by decide +kernel
theorem dL_isTold_361 : decode cL_isTold 361 = .ok (.iload 5, 2) := by decide +kernel
theorem dL_isTold_363 : decode cL_isTold 363 = .ok (.imul, 1) := by decide +kernel
theorem dL_isTold_364 : decode cL_isTold 364 = .ok (.iconst 3, 1) := by decide +kernel
theorem dL_isTold_365 : decode cL_isTold 365 = .ok (.iadd, 1) := by decide +kernel
theorem dL_isTold_366 : decode cL_isTold 366 = .ok (.iload 7, 2) := by decide +kernel
theorem dL_isTold_368 : decode cL_isTold 368 = .ok (.iconst 3, 1) := by decide +kernel
theorem dL_isTold_369 : decode cL_isTold 369 = .ok (.irem, 1) := by decide +kernel
theorem dL_isTold_370 : decode cL_isTold 370 = .ok (.ifCond .ne 7, 3) := by decide +kernel
theorem dL_isTold_373 : decode cL_isTold 373 = .ok (.iconst 1, 1) := by decide +kernel
theorem dL_isTold_374 : decode cL_isTold 374 = .ok (.goto 4, 3) := by decide +kernel
theorem dL_isTold_377 : decode cL_isTold 377 = .ok (.iconst 0, 1) := by decide +kernel
theorem dL_isTold_378 : decode cL_isTold 378 = .ok (.iastore, 1) := by decide +kernel
theorem dL_isTold_379 : decode cL_isTold 379 = .ok (.aload_n 0, 1) := by decide +kernel
theorem dL_isTold_380 : decode cL_isTold 380 = .ok (.iconst 4, 1) := by decide +kernel
theorem dL_isTold_381 : decode cL_isTold 381 = .ok (.iload 5, 2) := by decide +kernel
theorem dL_isTold_383 : decode cL_isTold 383 = .ok (.aload_n 1, 1) := by decide +kernel
theorem dL_isTold_384 : decode cL_isTold 384 = .ok (.bipush 8, 2) := by decide +kernel
theorem dL_isTold_386 : decode cL_isTold 386 = .ok (.iload 5, 2) := by decide +kernel
theorem dL_isTold_388 : decode cL_isTold 388 = .ok (.imul, 1) := by decide +kernel
theorem dL_isTold_389 : decode cL_isTold 389 = .ok (.iconst 3, 1) := by decide +kernel
theorem dL_isTold_390 : decode cL_isTold 390 = .ok (.iadd, 1) := by decide +kernel
theorem dL_isTold_391 : decode cL_isTold 391 = .ok (.iaload, 1) := by decide +kernel
theorem dL_isTold_392 : decode cL_isTold 392 = .ok (.iconst 0, 1) := by decide +kernel
theorem dL_isTold_393 : decode cL_isTold 393 = .ok (.invokestatic 112, 3) := by decide +kernel
theorem dL_isTold_396 : decode cL_isTold 396 = .ok (.iload 8, 2) := by decide +kernel
theorem dL_isTold_398 : decode cL_isTold 398 = .ok (.if_icmp .ne 7, 3) := by decide +kernel
theorem dL_isTold_401 : decode cL_isTold 401 = .ok (.iconst 1, 1) := by decide +kernel
theorem dL_isTold_402 : decode cL_isTold 402 = .ok (.goto 4, 3) := by decide +kernel
theorem dL_isTold_405 : decode cL_isTold 405 = .ok (.iconst 0, 1) := by decide +kernel
theorem dL_isTold_406 : decode cL_isTold 406 = .ok (.ireturn, 1) := by decide +kernel
