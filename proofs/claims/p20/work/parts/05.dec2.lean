theorem dL_build_132 : decode cL_build 132 = .ok (.ishr, 1) := by decide +kernel
theorem dL_build_133 : decode cL_build 133 = .ok (.iconst 3, 1) := by decide +kernel
theorem dL_build_134 : decode cL_build 134 = .ok (.iload 5, 2) := by decide +kernel
theorem dL_build_136 : decode cL_build 136 = .ok (.imul, 1) := by decide +kernel
theorem dL_build_137 : decode cL_build 137 = .ok (.iadd, 1) := by decide +kernel
theorem dL_build_138 : decode cL_build 138 = .ok (.iload_n 3, 1) := by decide +kernel
theorem dL_build_139 : decode cL_build 139 = .ok (.invokestatic 15, 3) := by decide +kernel
theorem dL_build_142 : decode cL_build 142 = .ok (.istore 6, 2) := by decide +kernel
theorem dL_build_144 : decode cL_build 144 = .ok (.aload_n 2, 1) := by decide +kernel
theorem dL_build_145 : decode cL_build 145 = .ok (.iload 6, 2) := by decide +kernel
theorem dL_build_147 : decode cL_build 147 = .ok (.invokevirtual 61, 3) := by decide +kernel
theorem dL_build_150 : decode cL_build 150 = .ok (.istore 7, 2) := by decide +kernel
theorem dL_build_152 : decode cL_build 152 = .ok (.iload 7, 2) := by decide +kernel
theorem dL_build_154 : decode cL_build 154 = .ok (.ifCond .ge 6, 3) := by decide +kernel
theorem dL_build_157 : decode cL_build 157 = .ok (.goto 22, 3) := by decide +kernel
theorem dL_build_160 : decode cL_build 160 = .ok (.aload_n 0, 1) := by decide +kernel
theorem dL_build_161 : decode cL_build 161 = .ok (.iload 6, 2) := by decide +kernel
theorem dL_build_163 : decode cL_build 163 = .ok (.invokevirtual 64, 3) := by decide +kernel
theorem dL_build_166 : decode cL_build 166 = .ok (.iload 7, 2) := by decide +kernel
theorem dL_build_168 : decode cL_build 168 = .ok (.if_icmp .eq 5, 3) := by decide +kernel
theorem dL_build_171 : decode cL_build 171 = .ok (.aconst_null, 1) := by decide +kernel
theorem dL_build_172 : decode cL_build 172 = .ok (.areturn, 1) := by decide +kernel
theorem dL_build_173 : decode cL_build 173 = .ok (.iinc 5 1, 3) := by decide +kernel
theorem dL_build_176 : decode cL_build 176 = .ok (.goto (-69), 3) := by decide +kernel
theorem dL_build_179 : decode cL_build 179 = .ok (.aload_n 2, 1) := by decide +kernel
theorem dL_build_180 : decode cL_build 180 = .ok (.areturn, 1) := by decide +kernel
theorem dL_law_0 : decode cL_law 0 = .ok (.new 26, 3) := by decide +kernel
theorem dL_law_3 : decode cL_law 3 = .ok (.dup, 1) := by decide +kernel
theorem dL_law_4 : decode cL_law 4 = .ok (.invokespecial 81, 3) := by decide +kernel
theorem dL_law_7 : decode cL_law 7 = .ok (.astore_n 1, 1) := by decide +kernel
theorem dL_law_8 : decode cL_law 8 = .ok (.aload_n 1, 1) := by decide +kernel
theorem dL_law_9 : decode cL_law 9 = .ok (.aload_n 0, 1) := by decide +kernel
theorem dL_law_10 : decode cL_law 10 = .ok (.invokestatic 82, 3) := by decide +kernel
theorem dL_law_13 : decode cL_law 13 = .ok (.astore_n 2, 1) := by decide +kernel
theorem dL_law_14 : decode cL_law 14 = .ok (.aload_n 2, 1) := by decide +kernel
theorem dL_law_15 : decode cL_law 15 = .ok (.ifnonnull 5, 3) := by decide +kernel
theorem dL_law_18 : decode cL_law 18 = .ok (.iconst 0, 1) := by decide +kernel
theorem dL_law_19 : decode cL_law 19 = .ok (.ireturn, 1) := by decide +kernel
theorem dL_law_20 : decode cL_law 20 = .ok (.aload_n 1, 1) := by decide +kernel
theorem dL_law_21 : decode cL_law 21 = .ok (.iconst 1, 1) := by decide +kernel
theorem dL_law_22 : decode cL_law 22 = .ok (.invokevirtual 86, 3) := by decide +kernel
theorem dL_law_25 : decode cL_law 25 = .ok (.istore_n 3, 1) := by decide +kernel
theorem dL_law_26 : decode cL_law 26 = .ok (.iconst 0, 1) := by decide +kernel
theorem dL_law_27 : decode cL_law 27 = .ok (.istore 4, 2) := by decide +kernel
theorem dL_law_29 : decode cL_law 29 = .ok (.iload 4, 2) := by decide +kernel
theorem dL_law_31 : decode cL_law 31 = .ok (.bipush 16, 2) := by decide +kernel
theorem dL_law_33 : decode cL_law 33 = .ok (.if_icmp .ge 719, 3) := by decide +kernel
theorem dL_law_36 : decode cL_law 36 = .ok (.aload_n 0, 1) := by decide +kernel
theorem dL_law_37 : decode cL_law 37 = .ok (.iload 4, 2) := by decide +kernel
theorem dL_law_39 : decode cL_law 39 = .ok (.invokestatic 70, 3) := by decide +kernel
theorem dL_law_42 : decode cL_law 42 = .ok (.iconst 2, 1) := by decide +kernel
theorem dL_law_43 : decode cL_law 43 = .ok (.ishr, 1) := by decide +kernel
theorem dL_law_44 : decode cL_law 44 = .ok (.bipush 53, 2) := by decide +kernel
theorem dL_law_46 : decode cL_law 46 = .ok (.iload 4, 2) := by decide +kernel
theorem dL_law_48 : decode cL_law 48 = .ok (.imul, 1) := by decide +kernel
theorem dL_law_49 : decode cL_law 49 = .ok (.iadd, 1) := by decide +kernel
theorem dL_law_50 : decode cL_law 50 = .ok (.istore 5, 2) := by decide +kernel
theorem dL_law_52 : decode cL_law 52 = .ok (.iconst 0, 1) := by decide +kernel
theorem dL_law_53 : decode cL_law 53 = .ok (.istore 6, 2) := by decide +kernel
theorem dL_law_55 : decode cL_law 55 = .ok (.iload 6, 2) := by decide +kernel
theorem dL_law_57 : decode cL_law 57 = .ok (.iconst 3, 1) := by decide +kernel
theorem dL_law_58 : decode cL_law 58 = .ok (.if_icmp .ge 32, 3) := by decide +kernel
theorem dL_law_61 : decode cL_law 61 = .ok (.aload_n 1, 1) := by decide +kernel
theorem dL_law_62 : decode cL_law 62 = .ok (.aload_n 2, 1) := by decide +kernel
theorem dL_law_63 : decode cL_law 63 = .ok (.iload 5, 2) := by decide +kernel
theorem dL_law_65 : decode cL_law 65 = .ok (.iconst 3, 1) := by decide +kernel
theorem dL_law_66 : decode cL_law 66 = .ok (.iload 6, 2) := by decide +kernel
theorem dL_law_68 : decode cL_law 68 = .ok (.imul, 1) := by decide +kernel
theorem dL_law_69 : decode cL_law 69 = .ok (.ishr, 1) := by decide +kernel
theorem dL_law_70 : decode cL_law 70 = .ok (.bipush 29, 2) := by decide +kernel
theorem dL_law_72 : decode cL_law 72 = .ok (.iload 6, 2) := by decide +kernel
theorem dL_law_74 : decode cL_law 74 = .ok (.imul, 1) := by decide +kernel
theorem dL_law_75 : decode cL_law 75 = .ok (.iadd, 1) := by decide +kernel
theorem dL_law_76 : decode cL_law 76 = .ok (.invokestatic 89, 3) := by decide +kernel
theorem dL_law_79 : decode cL_law 79 = .ok (.ifCond .ne 5, 3) := by decide +kernel
theorem dL_law_82 : decode cL_law 82 = .ok (.iconst 0, 1) := by decide +kernel
theorem dL_law_83 : decode cL_law 83 = .ok (.ireturn, 1) := by decide +kernel
theorem dL_law_84 : decode cL_law 84 = .ok (.iinc 6 1, 3) := by decide +kernel
theorem dL_law_87 : decode cL_law 87 = .ok (.goto (-32), 3) := by decide +kernel
theorem dL_law_90 : decode cL_law 90 = .ok (.aload_n 1, 1) := by decide +kernel
theorem dL_law_91 : decode cL_law 91 = .ok (.invokevirtual 93, 3) := by decide +kernel
theorem dL_law_94 : decode cL_law 94 = .ok (.lstore 6, 2) := by decide +kernel
theorem dL_law_96 : decode cL_law 96 = .ok (.iload 5, 2) := by decide +kernel
theorem dL_law_98 : decode cL_law 98 = .ok (.iconst 4, 1) := by decide +kernel
theorem dL_law_99 : decode cL_law 99 = .ok (.ishr, 1) := by decide +kernel
theorem dL_law_100 : decode cL_law 100 = .ok (.iload_n 3, 1) := by decide +kernel
theorem dL_law_101 : decode cL_law 101 = .ok (.invokestatic 15, 3) := by decide +kernel
theorem dL_law_104 : decode cL_law 104 = .ok (.istore 8, 2) := by decide +kernel
theorem dL_law_106 : decode cL_law 106 = .ok (.aload_n 1, 1) := by decide +kernel
theorem dL_law_107 : decode cL_law 107 = .ok (.iload 8, 2) := by decide +kernel
theorem dL_law_109 : decode cL_law 109 = .ok (.invokevirtual 97, 3) := by decide +kernel
theorem dL_law_112 : decode cL_law 112 = .ok (.istore 9, 2) := by decide +kernel
theorem dL_law_114 : decode cL_law 114 = .ok (.aload_n 1, 1) := by decide +kernel
theorem dL_law_115 : decode cL_law 115 = .ok (.iload 8, 2) := by decide +kernel
theorem dL_law_117 : decode cL_law 117 = .ok (.invokevirtual 100, 3) := by decide +kernel
theorem dL_law_120 : decode cL_law 120 = .ok (.istore 10, 2) := by decide +kernel
theorem dL_law_122 : decode cL_law 122 = .ok (.aload_n 1, 1) := by decide +kernel
theorem dL_law_123 : decode cL_law 123 = .ok (.iload 8, 2) := by decide +kernel
theorem dL_law_125 : decode cL_law 125 = .ok (.iconst 1, 1) := by decide +kernel
theorem dL_law_126 : decode cL_law 126 = .ok (.invokevirtual 103, 3) := by decide +kernel
theorem dL_law_129 : decode cL_law 129 = .ok (.istore 11, 2) := by decide +kernel
theorem dL_law_131 : decode cL_law 131 = .ok (.aload_n 1, 1) := by decide +kernel
theorem dL_law_132 : decode cL_law 132 = .ok (.iload 8, 2) := by decide +kernel
theorem dL_law_134 : decode cL_law 134 = .ok (.bipush 7, 2) := by decide +kernel
theorem dL_law_136 : decode cL_law 136 = .ok (.invokevirtual 106, 3) := by decide +kernel
theorem dL_law_139 : decode cL_law 139 = .ok (.istore 12, 2) := by decide +kernel
theorem dL_law_141 : decode cL_law 141 = .ok (.aload_n 1, 1) := by decide +kernel
theorem dL_law_142 : decode cL_law 142 = .ok (.iconst 3, 1) := by decide +kernel
theorem dL_law_143 : decode cL_law 143 = .ok (.invokevirtual 86, 3) := by decide +kernel
theorem dL_law_146 : decode cL_law 146 = .ok (.istore 13, 2) := by decide +kernel
theorem dL_law_148 : decode cL_law 148 = .ok (.aload_n 1, 1) := by decide +kernel
theorem dL_law_149 : decode cL_law 149 = .ok (.iconst 2, 1) := by decide +kernel
theorem dL_law_150 : decode cL_law 150 = .ok (.invokevirtual 86, 3) := by decide +kernel
theorem dL_law_153 : decode cL_law 153 = .ok (.istore 14, 2) := by decide +kernel
theorem dL_law_155 : decode cL_law 155 = .ok (.aload_n 1, 1) := by decide +kernel
theorem dL_law_156 : decode cL_law 156 = .ok (.iconst 0, 1) := by decide +kernel
theorem dL_law_157 : decode cL_law 157 = .ok (.invokevirtual 86, 3) := by decide +kernel
theorem dL_law_160 : decode cL_law 160 = .ok (.istore 15, 2) := by decide +kernel
theorem dL_law_162 : decode cL_law 162 = .ok (.iload 9, 2) := by decide +kernel
theorem dL_law_164 : decode cL_law 164 = .ok (.ifCond .ge 7, 3) := by decide +kernel
theorem dL_law_167 : decode cL_law 167 = .ok (.iconst 1, 1) := by decide +kernel
theorem dL_law_168 : decode cL_law 168 = .ok (.goto 4, 3) := by decide +kernel
theorem dL_law_171 : decode cL_law 171 = .ok (.iconst 0, 1) := by decide +kernel
theorem dL_law_172 : decode cL_law 172 = .ok (.iload 10, 2) := by decide +kernel
theorem dL_law_174 : decode cL_law 174 = .ok (.ifCond .ne 7, 3) := by decide +kernel
theorem dL_law_177 : decode cL_law 177 = .ok (.iconst 1, 1) := by decide +kernel
theorem dL_law_178 : decode cL_law 178 = .ok (.goto 4, 3) := by decide +kernel
theorem dL_law_181 : decode cL_law 181 = .ok (.iconst 0, 1) := by decide +kernel
theorem dL_law_182 : decode cL_law 182 = .ok (.if_icmp .ne 36, 3) := by decide +kernel
theorem dL_law_185 : decode cL_law 185 = .ok (.iload 9, 2) := by decide +kernel
theorem dL_law_187 : decode cL_law 187 = .ok (.ifCond .ge 7, 3) := by decide +kernel
theorem dL_law_190 : decode cL_law 190 = .ok (.iconst 1, 1) := by decide +kernel
theorem dL_law_191 : decode cL_law 191 = .ok (.goto 4, 3) := by decide +kernel
theorem dL_law_194 : decode cL_law 194 = .ok (.iconst 0, 1) := by decide +kernel
theorem dL_law_195 : decode cL_law 195 = .ok (.iload 11, 2) := by decide +kernel
theorem dL_law_197 : decode cL_law 197 = .ok (.ifCond .ge 7, 3) := by decide +kernel
theorem dL_law_200 : decode cL_law 200 = .ok (.iconst 1, 1) := by decide +kernel
theorem dL_law_201 : decode cL_law 201 = .ok (.goto 4, 3) := by decide +kernel
theorem dL_law_204 : decode cL_law 204 = .ok (.iconst 0, 1) := by decide +kernel
theorem dL_law_205 : decode cL_law 205 = .ok (.if_icmp .ne 13, 3) := by decide +kernel
theorem dL_law_208 : decode cL_law 208 = .ok (.aload_n 1, 1) := by decide +kernel
theorem dL_law_209 : decode cL_law 209 = .ok (.invokevirtual 93, 3) := by decide +kernel
theorem dL_law_212 : decode cL_law 212 = .ok (.lload 6, 2) := by decide +kernel
theorem dL_law_214 : decode cL_law 214 = .ok (.lcmp, 1) := by decide +kernel
theorem dL_law_215 : decode cL_law 215 = .ok (.ifCond .eq 5, 3) := by decide +kernel
theorem dL_law_218 : decode cL_law 218 = .ok (.iconst 0, 1) := by decide +kernel
theorem dL_law_219 : decode cL_law 219 = .ok (.ireturn, 1) := by decide +kernel
theorem dL_law_220 : decode cL_law 220 = .ok (.iload 9, 2) := by decide +kernel
theorem dL_law_222 : decode cL_law 222 = .ok (.ifCond .lt 204, 3) := by decide +kernel
theorem dL_law_225 : decode cL_law 225 = .ok (.aload_n 1, 1) := by decide +kernel
theorem dL_law_226 : decode cL_law 226 = .ok (.iload 8, 2) := by decide +kernel
theorem dL_law_228 : decode cL_law 228 = .ok (.invokevirtual 64, 3) := by decide +kernel
theorem dL_law_231 : decode cL_law 231 = .ok (.iload 9, 2) := by decide +kernel
theorem dL_law_233 : decode cL_law 233 = .ok (.if_icmp .ne 102, 3) := by decide +kernel
theorem dL_law_236 : decode cL_law 236 = .ok (.aload_n 2, 1) := by decide +kernel
theorem dL_law_237 : decode cL_law 237 = .ok (.iload 8, 2) := by decide +kernel
theorem dL_law_239 : decode cL_law 239 = .ok (.invokevirtual 61, 3) := by decide +kernel
theorem dL_law_242 : decode cL_law 242 = .ok (.iload 9, 2) := by decide +kernel
theorem dL_law_244 : decode cL_law 244 = .ok (.if_icmp .ne 91, 3) := by decide +kernel
theorem dL_law_247 : decode cL_law 247 = .ok (.aload_n 1, 1) := by decide +kernel
theorem dL_law_248 : decode cL_law 248 = .ok (.iload 9, 2) := by decide +kernel
theorem dL_law_250 : decode cL_law 250 = .ok (.iconst 0, 1) := by decide +kernel
theorem dL_law_251 : decode cL_law 251 = .ok (.invokevirtual 109, 3) := by decide +kernel
theorem dL_law_254 : decode cL_law 254 = .ok (.iload 8, 2) := by decide +kernel
theorem dL_law_256 : decode cL_law 256 = .ok (.if_icmp .ne 79, 3) := by decide +kernel
theorem dL_law_259 : decode cL_law 259 = .ok (.aload_n 1, 1) := by decide +kernel
theorem dL_law_260 : decode cL_law 260 = .ok (.iload 9, 2) := by decide +kernel
theorem dL_law_262 : decode cL_law 262 = .ok (.iconst 2, 1) := by decide +kernel
theorem dL_law_263 : decode cL_law 263 = .ok (.invokevirtual 109, 3) := by decide +kernel
theorem dL_law_266 : decode cL_law 266 = .ok (.iconst 1, 1) := by decide +kernel
theorem dL_law_267 : decode cL_law 267 = .ok (.if_icmp .ne 68, 3) := by decide +kernel
theorem dL_law_270 : decode cL_law 270 = .ok (.aload_n 1, 1) := by decide +kernel
theorem dL_law_271 : decode cL_law 271 = .ok (.iload 9, 2) := by decide +kernel
theorem dL_law_273 : decode cL_law 273 = .ok (.iconst 3, 1) := by decide +kernel
theorem dL_law_274 : decode cL_law 274 = .ok (.invokevirtual 109, 3) := by decide +kernel
theorem dL_law_277 : decode cL_law 277 = .ok (.iload 9, 2) := by decide +kernel
theorem dL_law_279 : decode cL_law 279 = .ok (.if_icmp .ne 56, 3) := by decide +kernel
theorem dL_law_282 : decode cL_law 282 = .ok (.aload_n 1, 1) := by decide +kernel
theorem dL_law_283 : decode cL_law 283 = .ok (.iload 8, 2) := by decide +kernel
theorem dL_law_285 : decode cL_law 285 = .ok (.bipush 7, 2) := by decide +kernel
theorem dL_law_287 : decode cL_law 287 = .ok (.invokevirtual 106, 3) := by decide +kernel
theorem dL_law_290 : decode cL_law 290 = .ok (.iload 12, 2) := by decide +kernel
theorem dL_law_292 : decode cL_law 292 = .ok (.iconst 1, 1) := by decide +kernel
theorem dL_law_293 : decode cL_law 293 = .ok (.iadd, 1) := by decide +kernel
theorem dL_law_294 : decode cL_law 294 = .ok (.if_icmp .ne 41, 3) := by decide +kernel
theorem dL_law_297 : decode cL_law 297 = .ok (.aload_n 1, 1) := by decide +kernel
theorem dL_law_298 : decode cL_law 298 = .ok (.iconst 3, 1) := by decide +kernel
theorem dL_law_299 : decode cL_law 299 = .ok (.invokevirtual 86, 3) := by decide +kernel
theorem dL_law_302 : decode cL_law 302 = .ok (.iload 13, 2) := by decide +kernel
theorem dL_law_304 : decode cL_law 304 = .ok (.iconst 1, 1) := by decide +kernel
theorem dL_law_305 : decode cL_law 305 = .ok (.iadd, 1) := by decide +kernel
theorem dL_law_306 : decode cL_law 306 = .ok (.if_icmp .ne 29, 3) := by decide +kernel
theorem dL_law_309 : decode cL_law 309 = .ok (.aload_n 1, 1) := by decide +kernel
theorem dL_law_310 : decode cL_law 310 = .ok (.iconst 2, 1) := by decide +kernel
theorem dL_law_311 : decode cL_law 311 = .ok (.invokevirtual 86, 3) := by decide +kernel
theorem dL_law_314 : decode cL_law 314 = .ok (.iload 14, 2) := by decide +kernel
theorem dL_law_316 : decode cL_law 316 = .ok (.iload 11, 2) := by decide +kernel
theorem dL_law_318 : decode cL_law 318 = .ok (.isub, 1) := by decide +kernel
theorem dL_law_319 : decode cL_law 319 = .ok (.if_icmp .ne 16, 3) := by decide +kernel
theorem dL_law_322 : decode cL_law 322 = .ok (.aload_n 1, 1) := by decide +kernel
theorem dL_law_323 : decode cL_law 323 = .ok (.iload 8, 2) := by decide +kernel
theorem dL_law_325 : decode cL_law 325 = .ok (.invokevirtual 100, 3) := by decide +kernel
theorem dL_law_328 : decode cL_law 328 = .ok (.iload 10, 2) := by decide +kernel
theorem dL_law_330 : decode cL_law 330 = .ok (.iconst 1, 1) := by decide +kernel
theorem dL_law_331 : decode cL_law 331 = .ok (.isub, 1) := by decide +kernel
theorem dL_law_332 : decode cL_law 332 = .ok (.if_icmp .eq 5, 3) := by decide +kernel
theorem dL_law_335 : decode cL_law 335 = .ok (.iconst 0, 1) := by decide +kernel
theorem dL_law_336 : decode cL_law 336 = .ok (.ireturn, 1) := by decide +kernel
theorem dL_law_337 : decode cL_law 337 = .ok (.iload 5, 2) := by decide +kernel
theorem dL_law_339 : decode cL_law 339 = .ok (.bipush 6, 2) := by decide +kernel
theorem dL_law_341 : decode cL_law 341 = .ok (.ishr, 1) := by decide +kernel
theorem dL_law_342 : decode cL_law 342 = .ok (.iconst 2, 1) := by decide +kernel
theorem dL_law_343 : decode cL_law 343 = .ok (.invokestatic 15, 3) := by decide +kernel
theorem dL_law_346 : decode cL_law 346 = .ok (.ifCond .ne 80, 3) := by decide +kernel
theorem dL_law_349 : decode cL_law 349 = .ok (.aload_n 1, 1) := by decide +kernel
theorem dL_law_350 : decode cL_law 350 = .ok (.iload 9, 2) := by decide +kernel
theorem dL_law_352 : decode cL_law 352 = .ok (.invokevirtual 56, 3) := by decide +kernel
theorem dL_law_355 : decode cL_law 355 = .ok (.istore 16, 2) := by decide +kernel
theorem dL_law_357 : decode cL_law 357 = .ok (.aload_n 2, 1) := by decide +kernel
theorem dL_law_358 : decode cL_law 358 = .ok (.iload 9, 2) := by decide +kernel
theorem dL_law_360 : decode cL_law 360 = .ok (.invokevirtual 53, 3) := by decide +kernel
theorem dL_law_363 : decode cL_law 363 = .ok (.iload 16, 2) := by decide +kernel
theorem dL_law_365 : decode cL_law 365 = .ok (.if_icmp .ne 59, 3) := by decide +kernel
theorem dL_law_368 : decode cL_law 368 = .ok (.aload_n 1, 1) := by decide +kernel
theorem dL_law_369 : decode cL_law 369 = .ok (.iload 9, 2) := by decide +kernel
theorem dL_law_371 : decode cL_law 371 = .ok (.iconst 2, 1) := by decide +kernel
theorem dL_law_372 : decode cL_law 372 = .ok (.invokevirtual 109, 3) := by decide +kernel
theorem dL_law_375 : decode cL_law 375 = .ok (.ifCond .ne 49, 3) := by decide +kernel
theorem dL_law_378 : decode cL_law 378 = .ok (.aload_n 1, 1) := by decide +kernel
theorem dL_law_379 : decode cL_law 379 = .ok (.iload 8, 2) := by decide +kernel
theorem dL_law_381 : decode cL_law 381 = .ok (.bipush 7, 2) := by decide +kernel
theorem dL_law_383 : decode cL_law 383 = .ok (.invokevirtual 106, 3) := by decide +kernel
theorem dL_law_386 : decode cL_law 386 = .ok (.iload 12, 2) := by decide +kernel
theorem dL_law_388 : decode cL_law 388 = .ok (.if_icmp .ne 36, 3) := by decide +kernel
theorem dL_law_391 : decode cL_law 391 = .ok (.aload_n 1, 1) := by decide +kernel
theorem dL_law_392 : decode cL_law 392 = .ok (.iconst 3, 1) := by decide +kernel
theorem dL_law_393 : decode cL_law 393 = .ok (.invokevirtual 86, 3) := by decide +kernel
theorem dL_law_396 : decode cL_law 396 = .ok (.iload 13, 2) := by decide +kernel
theorem dL_law_398 : decode cL_law 398 = .ok (.if_icmp .ne 26, 3) := by decide +kernel
theorem dL_law_401 : decode cL_law 401 = .ok (.aload_n 1, 1) := by decide +kernel
theorem dL_law_402 : decode cL_law 402 = .ok (.iconst 0, 1) := by decide +kernel
theorem dL_law_403 : decode cL_law 403 = .ok (.invokevirtual 86, 3) := by decide +kernel
theorem dL_law_406 : decode cL_law 406 = .ok (.iload 15, 2) := by decide +kernel
theorem dL_law_408 : decode cL_law 408 = .ok (.iconst 2, 1) := by decide +kernel
theorem dL_law_409 : decode cL_law 409 = .ok (.iadd, 1) := by decide +kernel
theorem dL_law_410 : decode cL_law 410 = .ok (.if_icmp .ne 14, 3) := by decide +kernel
theorem dL_law_413 : decode cL_law 413 = .ok (.aload_n 1, 1) := by decide +kernel
theorem dL_law_414 : decode cL_law 414 = .ok (.iload 8, 2) := by decide +kernel
theorem dL_law_416 : decode cL_law 416 = .ok (.invokevirtual 100, 3) := by decide +kernel
theorem dL_law_419 : decode cL_law 419 = .ok (.iload 10, 2) := by decide +kernel
theorem dL_law_421 : decode cL_law 421 = .ok (.if_icmp .eq 5, 3) := by decide +kernel
theorem dL_law_424 : decode cL_law 424 = .ok (.iconst 0, 1) := by decide +kernel
theorem dL_law_425 : decode cL_law 425 = .ok (.ireturn, 1) := by decide +kernel
theorem dL_law_426 : decode cL_law 426 = .ok (.iload_n 3, 1) := by decide +kernel
theorem dL_law_427 : decode cL_law 427 = .ok (.newarray .int, 2) := by decide +kernel
theorem dL_law_429 : decode cL_law 429 = .ok (.astore 16, 2) := by decide +kernel
theorem dL_law_431 : decode cL_law 431 = .ok (.iconst 0, 1) := by decide +kernel
theorem dL_law_432 : decode cL_law 432 = .ok (.istore 17, 2) := by decide +kernel
theorem dL_law_434 : decode cL_law 434 = .ok (.iload 17, 2) := by decide +kernel
theorem dL_law_436 : decode cL_law 436 = .ok (.iload_n 3, 1) := by decide +kernel
theorem dL_law_437 : decode cL_law 437 = .ok (.if_icmp .ge 22, 3) := by decide +kernel
theorem dL_law_440 : decode cL_law 440 = .ok (.aload 16, 2) := by decide +kernel
theorem dL_law_442 : decode cL_law 442 = .ok (.iload 17, 2) := by decide +kernel
theorem dL_law_444 : decode cL_law 444 = .ok (.aload_n 1, 1) := by decide +kernel
theorem dL_law_445 : decode cL_law 445 = .ok (.iload 17, 2) := by decide +kernel
theorem dL_law_447 : decode cL_law 447 = .ok (.bipush 7, 2) := by decide +kernel
theorem dL_law_449 : decode cL_law 449 = .ok (.invokevirtual 106, 3) := by decide +kernel
theorem dL_law_452 : decode cL_law 452 = .ok (.iastore, 1) := by decide +kernel
theorem dL_law_453 : decode cL_law 453 = .ok (.iinc 17 1, 3) := by decide +kernel
theorem dL_law_456 : decode cL_law 456 = .ok (.goto (-22), 3) := by decide +kernel
theorem dL_law_459 : decode cL_law 459 = .ok (.aload_n 1, 1) := by decide +kernel
theorem dL_law_460 : decode cL_law 460 = .ok (.iload 8, 2) := by decide +kernel
theorem dL_law_462 : decode cL_law 462 = .ok (.bipush 6, 2) := by decide +kernel
theorem dL_law_464 : decode cL_law 464 = .ok (.invokevirtual 106, 3) := by decide +kernel
theorem dL_law_467 : decode cL_law 467 = .ok (.istore 17, 2) := by decide +kernel
theorem dL_law_469 : decode cL_law 469 = .ok (.aload_n 1, 1) := by decide +kernel
theorem dL_law_470 : decode cL_law 470 = .ok (.iload 8, 2) := by decide +kernel
theorem dL_law_472 : decode cL_law 472 = .ok (.invokevirtual 112, 3) := by decide +kernel
theorem dL_law_475 : decode cL_law 475 = .ok (.istore 18, 2) := by decide +kernel
theorem dL_law_477 : decode cL_law 477 = .ok (.aload_n 1, 1) := by decide +kernel
theorem dL_law_478 : decode cL_law 478 = .ok (.bipush 8, 2) := by decide +kernel
theorem dL_law_480 : decode cL_law 480 = .ok (.invokevirtual 86, 3) := by decide +kernel
theorem dL_law_483 : decode cL_law 483 = .ok (.istore 19, 2) := by decide +kernel
theorem dL_law_485 : decode cL_law 485 = .ok (.iload 18, 2) := by decide +kernel
theorem dL_law_487 : decode cL_law 487 = .ok (.ifCond .lt 16, 3) := by decide +kernel
theorem dL_law_490 : decode cL_law 490 = .ok (.aload_n 1, 1) := by decide +kernel
theorem dL_law_491 : decode cL_law 491 = .ok (.aload_n 1, 1) := by decide +kernel
theorem dL_law_492 : decode cL_law 492 = .ok (.invokevirtual 115, 3) := by decide +kernel
theorem dL_law_495 : decode cL_law 495 = .ok (.invokevirtual 112, 3) := by decide +kernel
theorem dL_law_498 : decode cL_law 498 = .ok (.iload 18, 2) := by decide +kernel
theorem dL_law_500 : decode cL_law 500 = .ok (.if_icmp .ge 5, 3) := by decide +kernel
theorem dL_law_503 : decode cL_law 503 = .ok (.iconst 0, 1) := by decide +kernel
theorem dL_law_504 : decode cL_law 504 = .ok (.ireturn, 1) := by decide +kernel
theorem dL_law_505 : decode cL_law 505 = .ok (.aload_n 1, 1) := by decide +kernel
theorem dL_law_506 : decode cL_law 506 = .ok (.iload 8, 2) := by decide +kernel
theorem dL_law_508 : decode cL_law 508 = .ok (.invokevirtual 37, 3) := by decide +kernel
theorem dL_law_511 : decode cL_law 511 = .ok (.istore 20, 2) := by decide +kernel
theorem dL_law_513 : decode cL_law 513 = .ok (.aload_n 2, 1) := by decide +kernel
theorem dL_law_514 : decode cL_law 514 = .ok (.iload 8, 2) := by decide +kernel
theorem dL_law_516 : decode cL_law 516 = .ok (.invokevirtual 40, 3) := by decide +kernel
theorem dL_law_519 : decode cL_law 519 = .ok (.iload 20, 2) := by decide +kernel
theorem dL_law_521 : decode cL_law 521 = .ok (.if_icmp .ne 62, 3) := by decide +kernel
theorem dL_law_524 : decode cL_law 524 = .ok (.aload_n 1, 1) := by decide +kernel
theorem dL_law_525 : decode cL_law 525 = .ok (.iload 8, 2) := by decide +kernel
theorem dL_law_527 : decode cL_law 527 = .ok (.bipush 6, 2) := by decide +kernel
theorem dL_law_529 : decode cL_law 529 = .ok (.invokevirtual 106, 3) := by decide +kernel
theorem dL_law_532 : decode cL_law 532 = .ok (.iload 17, 2) := by decide +kernel
theorem dL_law_534 : decode cL_law 534 = .ok (.iload 18, 2) := by decide +kernel
theorem dL_law_536 : decode cL_law 536 = .ok (.iadd, 1) := by decide +kernel
theorem dL_law_537 : decode cL_law 537 = .ok (.if_icmp .ne 46, 3) := by decide +kernel
theorem dL_law_540 : decode cL_law 540 = .ok (.aload_n 1, 1) := by decide +kernel
theorem dL_law_541 : decode cL_law 541 = .ok (.iload 8, 2) := by decide +kernel
theorem dL_law_543 : decode cL_law 543 = .ok (.iconst 5, 1) := by decide +kernel
theorem dL_law_544 : decode cL_law 544 = .ok (.invokevirtual 106, 3) := by decide +kernel
theorem dL_law_547 : decode cL_law 547 = .ok (.iconst 1, 1) := by decide +kernel
theorem dL_law_548 : decode cL_law 548 = .ok (.if_icmp .gt 35, 3) := by decide +kernel
theorem dL_law_551 : decode cL_law 551 = .ok (.aload_n 1, 1) := by decide +kernel
theorem dL_law_552 : decode cL_law 552 = .ok (.bipush 8, 2) := by decide +kernel
theorem dL_law_554 : decode cL_law 554 = .ok (.invokevirtual 86, 3) := by decide +kernel
theorem dL_law_557 : decode cL_law 557 = .ok (.iload 19, 2) := by decide +kernel
theorem dL_law_559 : decode cL_law 559 = .ok (.iload 20, 2) := by decide +kernel
theorem dL_law_561 : decode cL_law 561 = .ok (.iadd, 1) := by decide +kernel
theorem dL_law_562 : decode cL_law 562 = .ok (.if_icmp .ne 21, 3) := by decide +kernel
theorem dL_law_565 : decode cL_law 565 = .ok (.aload_n 1, 1) := by decide +kernel
theorem dL_law_566 : decode cL_law 566 = .ok (.iload 8, 2) := by decide +kernel
theorem dL_law_568 : decode cL_law 568 = .ok (.invokevirtual 37, 3) := by decide +kernel
theorem dL_law_571 : decode cL_law 571 = .ok (.ifCond .ne 12, 3) := by decide +kernel
theorem dL_law_574 : decode cL_law 574 = .ok (.aload_n 1, 1) := by decide +kernel
theorem dL_law_575 : decode cL_law 575 = .ok (.iload 8, 2) := by decide +kernel
theorem dL_law_577 : decode cL_law 577 = .ok (.invokevirtual 112, 3) := by decide +kernel
theorem dL_law_580 : decode cL_law 580 = .ok (.ifCond .eq 5, 3) := by decide +kernel
theorem dL_law_583 : decode cL_law 583 = .ok (.iconst 0, 1) := by decide +kernel
theorem dL_law_584 : decode cL_law 584 = .ok (.ireturn, 1) := by decide +kernel
theorem dL_law_585 : decode cL_law 585 = .ok (.iconst 0, 1) := by decide +kernel
theorem dL_law_586 : decode cL_law 586 = .ok (.istore 21, 2) := by decide +kernel
theorem dL_law_588 : decode cL_law 588 = .ok (.iload 21, 2) := by decide +kernel
theorem dL_law_590 : decode cL_law 590 = .ok (.iload_n 3, 1) := by decide +kernel
theorem dL_law_591 : decode cL_law 591 = .ok (.if_icmp .ge 27, 3) := by decide +kernel
theorem dL_law_594 : decode cL_law 594 = .ok (.aload_n 1, 1) := by decide +kernel
theorem dL_law_595 : decode cL_law 595 = .ok (.iload 21, 2) := by decide +kernel
theorem dL_law_597 : decode cL_law 597 = .ok (.bipush 7, 2) := by decide +kernel
theorem dL_law_599 : decode cL_law 599 = .ok (.invokevirtual 106, 3) := by decide +kernel
theorem dL_law_602 : decode cL_law 602 = .ok (.aload 16, 2) := by decide +kernel
theorem dL_law_604 : decode cL_law 604 = .ok (.iload 21, 2) := by decide +kernel
theorem dL_law_606 : decode cL_law 606 = .ok (.iaload, 1) := by decide +kernel
theorem dL_law_607 : decode cL_law 607 = .ok (.if_icmp .eq 5, 3) := by decide +kernel
theorem dL_law_610 : decode cL_law 610 = .ok (.iconst 0, 1) := by decide +kernel
theorem dL_law_611 : decode cL_law 611 = .ok (.ireturn, 1) := by decide +kernel
theorem dL_law_612 : decode cL_law 612 = .ok (.iinc 21 1, 3) := by decide +kernel
theorem dL_law_615 : decode cL_law 615 = .ok (.goto (-27), 3) := by decide +kernel
theorem dL_law_618 : decode cL_law 618 = .ok (.aload_n 1, 1) := by decide +kernel
theorem dL_law_619 : decode cL_law 619 = .ok (.iconst 3, 1) := by decide +kernel
theorem dL_law_620 : decode cL_law 620 = .ok (.invokevirtual 86, 3) := by decide +kernel
theorem dL_law_623 : decode cL_law 623 = .ok (.istore 13, 2) := by decide +kernel
theorem dL_law_625 : decode cL_law 625 = .ok (.aload_n 1, 1) := by decide +kernel
theorem dL_law_626 : decode cL_law 626 = .ok (.iconst 2, 1) := by decide +kernel
theorem dL_law_627 : decode cL_law 627 = .ok (.invokevirtual 86, 3) := by decide +kernel
theorem dL_law_630 : decode cL_law 630 = .ok (.istore 14, 2) := by decide +kernel
theorem dL_law_632 : decode cL_law 632 = .ok (.iload 5, 2) := by decide +kernel
theorem dL_law_634 : decode cL_law 634 = .ok (.iconst 5, 1) := by decide +kernel
theorem dL_law_635 : decode cL_law 635 = .ok (.ishr, 1) := by decide +kernel
theorem dL_law_636 : decode cL_law 636 = .ok (.iconst 3, 1) := by decide +kernel
theorem dL_law_637 : decode cL_law 637 = .ok (.invokestatic 15, 3) := by decide +kernel
theorem dL_law_640 : decode cL_law 640 = .ok (.ifCond .ne 7, 3) := by decide +kernel
theorem dL_law_643 : decode cL_law 643 = .ok (.iconst 0, 1) := by decide +kernel
theorem dL_law_644 : decode cL_law 644 = .ok (.goto 13, 3) := by decide +kernel
theorem dL_law_647 : decode cL_law 647 = .ok (.iload 5, 2) := by decide +kernel
theorem dL_law_649 : decode cL_law 649 = .ok (.bipush 7, 2) := by decide +kernel
theorem dL_law_651 : decode cL_law 651 = .ok (.ishr, 1) := by decide +kernel
theorem dL_law_652 : decode cL_law 652 = .ok (.bipush 9, 2) := by decide +kernel
theorem dL_law_654 : decode cL_law 654 = .ok (.invokestatic 15, 3) := by decide +kernel
theorem dL_law_657 : decode cL_law 657 = .ok (.istore 21, 2) := by decide +kernel
theorem dL_law_659 : decode cL_law 659 = .ok (.aload_n 1, 1) := by decide +kernel
theorem dL_law_660 : decode cL_law 660 = .ok (.iload 21, 2) := by decide +kernel
theorem dL_law_662 : decode cL_law 662 = .ok (.invokevirtual 31, 3) := by decide +kernel
theorem dL_law_665 : decode cL_law 665 = .ok (.istore 22, 2) := by decide +kernel
theorem dL_law_667 : decode cL_law 667 = .ok (.aload_n 2, 1) := by decide +kernel
theorem dL_law_668 : decode cL_law 668 = .ok (.iload 21, 2) := by decide +kernel
theorem dL_law_670 : decode cL_law 670 = .ok (.invokevirtual 34, 3) := by decide +kernel
theorem dL_law_673 : decode cL_law 673 = .ok (.iload 22, 2) := by decide +kernel
theorem dL_law_675 : decode cL_law 675 = .ok (.if_icmp .ne 26, 3) := by decide +kernel
theorem dL_law_678 : decode cL_law 678 = .ok (.aload_n 1, 1) := by decide +kernel
theorem dL_law_679 : decode cL_law 679 = .ok (.iconst 3, 1) := by decide +kernel
theorem dL_law_680 : decode cL_law 680 = .ok (.invokevirtual 86, 3) := by decide +kernel
theorem dL_law_683 : decode cL_law 683 = .ok (.iload 13, 2) := by decide +kernel
theorem dL_law_685 : decode cL_law 685 = .ok (.if_icmp .ne 16, 3) := by decide +kernel
theorem dL_law_688 : decode cL_law 688 = .ok (.aload_n 1, 1) := by decide +kernel
theorem dL_law_689 : decode cL_law 689 = .ok (.iconst 2, 1) := by decide +kernel
theorem dL_law_690 : decode cL_law 690 = .ok (.invokevirtual 86, 3) := by decide +kernel
theorem dL_law_693 : decode cL_law 693 = .ok (.iload 14, 2) := by decide +kernel
theorem dL_law_695 : decode cL_law 695 = .ok (.iload 22, 2) := by decide +kernel
theorem dL_law_697 : decode cL_law 697 = .ok (.iadd, 1) := by decide +kernel
theorem dL_law_698 : decode cL_law 698 = .ok (.if_icmp .eq 5, 3) := by decide +kernel
theorem dL_law_701 : decode cL_law 701 = .ok (.iconst 0, 1) := by decide +kernel
theorem dL_law_702 : decode cL_law 702 = .ok (.ireturn, 1) := by decide +kernel
theorem dL_law_703 : decode cL_law 703 = .ok (.iconst 0, 1) := by decide +kernel
theorem dL_law_704 : decode cL_law 704 = .ok (.istore 23, 2) := by decide +kernel
theorem dL_law_706 : decode cL_law 706 = .ok (.iload 23, 2) := by decide +kernel
theorem dL_law_708 : decode cL_law 708 = .ok (.iload_n 3, 1) := by decide +kernel
theorem dL_law_709 : decode cL_law 709 = .ok (.if_icmp .ge 27, 3) := by decide +kernel
theorem dL_law_712 : decode cL_law 712 = .ok (.iload 21, 2) := by decide +kernel
theorem dL_law_714 : decode cL_law 714 = .ok (.ifCond .ne 22, 3) := by decide +kernel
theorem dL_law_717 : decode cL_law 717 = .ok (.aload_n 1, 1) := by decide +kernel
theorem dL_law_718 : decode cL_law 718 = .ok (.iload 23, 2) := by decide +kernel
theorem dL_law_720 : decode cL_law 720 = .ok (.bipush 6, 2) := by decide +kernel
theorem dL_law_722 : decode cL_law 722 = .ok (.invokevirtual 106, 3) := by decide +kernel
theorem dL_law_725 : decode cL_law 725 = .ok (.ifCond .eq 5, 3) := by decide +kernel
theorem dL_law_728 : decode cL_law 728 = .ok (.iconst 0, 1) := by decide +kernel
theorem dL_law_729 : decode cL_law 729 = .ok (.ireturn, 1) := by decide +kernel
theorem dL_law_730 : decode cL_law 730 = .ok (.iinc 23 1, 3) := by decide +kernel
theorem dL_law_733 : decode cL_law 733 = .ok (.goto (-27), 3) := by decide +kernel
theorem dL_law_736 : decode cL_law 736 = .ok (.aload_n 2, 1) := by decide +kernel
theorem dL_law_737 : decode cL_law 737 = .ok (.aload_n 1, 1) := by decide +kernel
theorem dL_law_738 : decode cL_law 738 = .ok (.invokevirtual 119, 3) := by decide +kernel
theorem dL_law_741 : decode cL_law 741 = .ok (.ifCond .ne 5, 3) := by decide +kernel
theorem dL_law_744 : decode cL_law 744 = .ok (.iconst 0, 1) := by decide +kernel
theorem dL_law_745 : decode cL_law 745 = .ok (.ireturn, 1) := by decide +kernel
theorem dL_law_746 : decode cL_law 746 = .ok (.iinc 4 1, 3) := by decide +kernel
theorem dL_law_749 : decode cL_law 749 = .ok (.goto (-720), 3) := by decide +kernel
theorem dL_law_752 : decode cL_law 752 = .ok (.iconst 1, 1) := by decide +kernel
theorem dL_law_753 : decode cL_law 753 = .ok (.ireturn, 1) := by decide +kernel
