theorem qd_M_one_0 : decode qc_M_one 0 = .ok (.aload_n 0, 1) := by decide +kernel
theorem qd_M_one_1 : decode qc_M_one 1 = .ok (.dup, 1) := by decide +kernel
theorem qd_M_one_2 : decode qc_M_one 2 = .ok (.getfield 140, 3) := by decide +kernel
theorem qd_M_one_5 : decode qc_M_one 5 = .ok (.iconst 1, 1) := by decide +kernel
theorem qd_M_one_6 : decode qc_M_one 6 = .ok (.isub, 1) := by decide +kernel
theorem qd_M_one_7 : decode qc_M_one 7 = .ok (.putfield 140, 3) := by decide +kernel
theorem qd_M_one_10 : decode qc_M_one 10 = .ok (.aload_n 0, 1) := by decide +kernel
theorem qd_M_one_11 : decode qc_M_one 11 = .ok (.getfield 38, 3) := by decide +kernel
theorem qd_M_one_14 : decode qc_M_one 14 = .ok (.iconst 5, 1) := by decide +kernel
theorem qd_M_one_15 : decode qc_M_one 15 = .ok (.aload_n 0, 1) := by decide +kernel
theorem qd_M_one_16 : decode qc_M_one 16 = .ok (.getfield 140, 3) := by decide +kernel
theorem qd_M_one_19 : decode qc_M_one 19 = .ok (.imul, 1) := by decide +kernel
theorem qd_M_one_20 : decode qc_M_one 20 = .ok (.iaload, 1) := by decide +kernel
theorem qd_M_one_21 : decode qc_M_one 21 = .ok (.istore_n 1, 1) := by decide +kernel
theorem qd_M_one_22 : decode qc_M_one 22 = .ok (.aload_n 0, 1) := by decide +kernel
theorem qd_M_one_23 : decode qc_M_one 23 = .ok (.getfield 38, 3) := by decide +kernel
theorem qd_M_one_26 : decode qc_M_one 26 = .ok (.iconst 5, 1) := by decide +kernel
theorem qd_M_one_27 : decode qc_M_one 27 = .ok (.aload_n 0, 1) := by decide +kernel
theorem qd_M_one_28 : decode qc_M_one 28 = .ok (.getfield 140, 3) := by decide +kernel
theorem qd_M_one_31 : decode qc_M_one 31 = .ok (.imul, 1) := by decide +kernel
theorem qd_M_one_32 : decode qc_M_one 32 = .ok (.iconst 1, 1) := by decide +kernel
theorem qd_M_one_33 : decode qc_M_one 33 = .ok (.iadd, 1) := by decide +kernel
theorem qd_M_one_34 : decode qc_M_one 34 = .ok (.iaload, 1) := by decide +kernel
theorem qd_M_one_35 : decode qc_M_one 35 = .ok (.istore_n 2, 1) := by decide +kernel
theorem qd_M_one_36 : decode qc_M_one 36 = .ok (.aload_n 0, 1) := by decide +kernel
theorem qd_M_one_37 : decode qc_M_one 37 = .ok (.getfield 38, 3) := by decide +kernel
theorem qd_M_one_40 : decode qc_M_one 40 = .ok (.iconst 5, 1) := by decide +kernel
theorem qd_M_one_41 : decode qc_M_one 41 = .ok (.aload_n 0, 1) := by decide +kernel
theorem qd_M_one_42 : decode qc_M_one 42 = .ok (.getfield 140, 3) := by decide +kernel
theorem qd_M_one_45 : decode qc_M_one 45 = .ok (.imul, 1) := by decide +kernel
theorem qd_M_one_46 : decode qc_M_one 46 = .ok (.iconst 2, 1) := by decide +kernel
theorem qd_M_one_47 : decode qc_M_one 47 = .ok (.iadd, 1) := by decide +kernel
theorem qd_M_one_48 : decode qc_M_one 48 = .ok (.iaload, 1) := by decide +kernel
theorem qd_M_one_49 : decode qc_M_one 49 = .ok (.istore_n 3, 1) := by decide +kernel
theorem qd_M_one_50 : decode qc_M_one 50 = .ok (.aload_n 0, 1) := by decide +kernel
theorem qd_M_one_51 : decode qc_M_one 51 = .ok (.getfield 38, 3) := by decide +kernel
theorem qd_M_one_54 : decode qc_M_one 54 = .ok (.iconst 5, 1) := by decide +kernel
theorem qd_M_one_55 : decode qc_M_one 55 = .ok (.aload_n 0, 1) := by decide +kernel
theorem qd_M_one_56 : decode qc_M_one 56 = .ok (.getfield 140, 3) := by decide +kernel
theorem qd_M_one_59 : decode qc_M_one 59 = .ok (.imul, 1) := by decide +kernel
theorem qd_M_one_60 : decode qc_M_one 60 = .ok (.iconst 3, 1) := by decide +kernel
theorem qd_M_one_61 : decode qc_M_one 61 = .ok (.iadd, 1) := by decide +kernel
theorem qd_M_one_62 : decode qc_M_one 62 = .ok (.iaload, 1) := by decide +kernel
theorem qd_M_one_63 : decode qc_M_one 63 = .ok (.istore 4, 2) := by decide +kernel
theorem qd_M_one_65 : decode qc_M_one 65 = .ok (.aload_n 0, 1) := by decide +kernel
theorem qd_M_one_66 : decode qc_M_one 66 = .ok (.getfield 38, 3) := by decide +kernel
theorem qd_M_one_69 : decode qc_M_one 69 = .ok (.iconst 5, 1) := by decide +kernel
theorem qd_M_one_70 : decode qc_M_one 70 = .ok (.aload_n 0, 1) := by decide +kernel
theorem qd_M_one_71 : decode qc_M_one 71 = .ok (.getfield 140, 3) := by decide +kernel
theorem qd_M_one_74 : decode qc_M_one 74 = .ok (.imul, 1) := by decide +kernel
theorem qd_M_one_75 : decode qc_M_one 75 = .ok (.iconst 4, 1) := by decide +kernel
theorem qd_M_one_76 : decode qc_M_one 76 = .ok (.iadd, 1) := by decide +kernel
theorem qd_M_one_77 : decode qc_M_one 77 = .ok (.iaload, 1) := by decide +kernel
theorem qd_M_one_78 : decode qc_M_one 78 = .ok (.istore 5, 2) := by decide +kernel
theorem qd_M_one_80 : decode qc_M_one 80 = .ok (.aload_n 0, 1) := by decide +kernel
theorem qd_M_one_81 : decode qc_M_one 81 = .ok (.getfield 25, 3) := by decide +kernel
theorem qd_M_one_84 : decode qc_M_one 84 = .ok (.iload_n 1, 1) := by decide +kernel
theorem qd_M_one_85 : decode qc_M_one 85 = .ok (.iload_n 2, 1) := by decide +kernel
theorem qd_M_one_86 : decode qc_M_one 86 = .ok (.iload_n 3, 1) := by decide +kernel
theorem qd_M_one_87 : decode qc_M_one 87 = .ok (.invokestatic 80, 3) := by decide +kernel
theorem qd_M_one_90 : decode qc_M_one 90 = .ok (.iaload, 1) := by decide +kernel
theorem qd_M_one_91 : decode qc_M_one 91 = .ok (.istore 6, 2) := by decide +kernel
theorem qd_M_one_93 : decode qc_M_one 93 = .ok (.iconst (-1), 1) := by decide +kernel
theorem qd_M_one_94 : decode qc_M_one 94 = .ok (.istore 7, 2) := by decide +kernel
theorem qd_M_one_96 : decode qc_M_one 96 = .ok (.iconst 0, 1) := by decide +kernel
theorem qd_M_one_97 : decode qc_M_one 97 = .ok (.istore 8, 2) := by decide +kernel
theorem qd_M_one_99 : decode qc_M_one 99 = .ok (.iload 8, 2) := by decide +kernel
theorem qd_M_one_101 : decode qc_M_one 101 = .ok (.aload_n 0, 1) := by decide +kernel
theorem qd_M_one_102 : decode qc_M_one 102 = .ok (.getfield 51, 3) := by decide +kernel
theorem qd_M_one_105 : decode qc_M_one 105 = .ok (.if_icmp .ge 208, 3) := by decide +kernel
theorem qd_M_one_108 : decode qc_M_one 108 = .ok (.iload 7, 2) := by decide +kernel
theorem qd_M_one_110 : decode qc_M_one 110 = .ok (.ifCond .ge 203, 3) := by decide +kernel
theorem qd_M_one_113 : decode qc_M_one 113 = .ok (.aload_n 0, 1) := by decide +kernel
theorem qd_M_one_114 : decode qc_M_one 114 = .ok (.getfield 7, 3) := by decide +kernel
theorem qd_M_one_117 : decode qc_M_one 117 = .ok (.iload 8, 2) := by decide +kernel
theorem qd_M_one_119 : decode qc_M_one 119 = .ok (.iaload, 1) := by decide +kernel
theorem qd_M_one_120 : decode qc_M_one 120 = .ok (.iload_n 1, 1) := by decide +kernel
theorem qd_M_one_121 : decode qc_M_one 121 = .ok (.if_icmp .eq 6, 3) := by decide +kernel
theorem qd_M_one_124 : decode qc_M_one 124 = .ok (.goto 183, 3) := by decide +kernel
theorem qd_M_one_127 : decode qc_M_one 127 = .ok (.aload_n 0, 1) := by decide +kernel
theorem qd_M_one_128 : decode qc_M_one 128 = .ok (.iload 8, 2) := by decide +kernel
theorem qd_M_one_130 : decode qc_M_one 130 = .ok (.iload_n 2, 1) := by decide +kernel
theorem qd_M_one_131 : decode qc_M_one 131 = .ok (.iload_n 3, 1) := by decide +kernel
theorem qd_M_one_132 : decode qc_M_one 132 = .ok (.invokevirtual 111, 3) := by decide +kernel
theorem qd_M_one_135 : decode qc_M_one 135 = .ok (.aload_n 0, 1) := by decide +kernel
theorem qd_M_one_136 : decode qc_M_one 136 = .ok (.iload 8, 2) := by decide +kernel
theorem qd_M_one_138 : decode qc_M_one 138 = .ok (.iload_n 2, 1) := by decide +kernel
theorem qd_M_one_139 : decode qc_M_one 139 = .ok (.iload_n 3, 1) := by decide +kernel
theorem qd_M_one_140 : decode qc_M_one 140 = .ok (.invokevirtual 115, 3) := by decide +kernel
theorem qd_M_one_143 : decode qc_M_one 143 = .ok (.istore 9, 2) := by decide +kernel
theorem qd_M_one_145 : decode qc_M_one 145 = .ok (.iload 9, 2) := by decide +kernel
theorem qd_M_one_147 : decode qc_M_one 147 = .ok (.ifCond .eq 160, 3) := by decide +kernel
theorem qd_M_one_150 : decode qc_M_one 150 = .ok (.aload_n 0, 1) := by decide +kernel
theorem qd_M_one_151 : decode qc_M_one 151 = .ok (.iload 8, 2) := by decide +kernel
theorem qd_M_one_153 : decode qc_M_one 153 = .ok (.iload_n 2, 1) := by decide +kernel
theorem qd_M_one_154 : decode qc_M_one 154 = .ok (.aload_n 0, 1) := by decide +kernel
theorem qd_M_one_155 : decode qc_M_one 155 = .ok (.getfield 105, 3) := by decide +kernel
theorem qd_M_one_158 : decode qc_M_one 158 = .ok (.aload_n 0, 1) := by decide +kernel
theorem qd_M_one_159 : decode qc_M_one 159 = .ok (.getfield 108, 3) := by decide +kernel
theorem qd_M_one_162 : decode qc_M_one 162 = .ok (.iload_n 3, 1) := by decide +kernel
theorem qd_M_one_163 : decode qc_M_one 163 = .ok (.invokevirtual 118, 3) := by decide +kernel
theorem qd_M_one_166 : decode qc_M_one 166 = .ok (.istore 10, 2) := by decide +kernel
theorem qd_M_one_168 : decode qc_M_one 168 = .ok (.iload 4, 2) := by decide +kernel
theorem qd_M_one_170 : decode qc_M_one 170 = .ok (.ifCond .ge 32, 3) := by decide +kernel
theorem qd_M_one_173 : decode qc_M_one 173 = .ok (.aload_n 0, 1) := by decide +kernel
theorem qd_M_one_174 : decode qc_M_one 174 = .ok (.iload 8, 2) := by decide +kernel
theorem qd_M_one_176 : decode qc_M_one 176 = .ok (.iload_n 2, 1) := by decide +kernel
theorem qd_M_one_177 : decode qc_M_one 177 = .ok (.aload_n 0, 1) := by decide +kernel
theorem qd_M_one_178 : decode qc_M_one 178 = .ok (.getfield 105, 3) := by decide +kernel
theorem qd_M_one_181 : decode qc_M_one 181 = .ok (.aload_n 0, 1) := by decide +kernel
theorem qd_M_one_182 : decode qc_M_one 182 = .ok (.getfield 108, 3) := by decide +kernel
theorem qd_M_one_185 : decode qc_M_one 185 = .ok (.iload_n 3, 1) := by decide +kernel
theorem qd_M_one_186 : decode qc_M_one 186 = .ok (.invokevirtual 125, 3) := by decide +kernel
theorem qd_M_one_189 : decode qc_M_one 189 = .ok (.iload 6, 2) := by decide +kernel
theorem qd_M_one_191 : decode qc_M_one 191 = .ok (.if_icmp .ne 7, 3) := by decide +kernel
theorem qd_M_one_194 : decode qc_M_one 194 = .ok (.iconst 1, 1) := by decide +kernel
theorem qd_M_one_195 : decode qc_M_one 195 = .ok (.goto 19, 3) := by decide +kernel
theorem qd_M_one_198 : decode qc_M_one 198 = .ok (.iconst 0, 1) := by decide +kernel
theorem qd_M_one_199 : decode qc_M_one 199 = .ok (.goto 15, 3) := by decide +kernel
theorem qd_M_one_202 : decode qc_M_one 202 = .ok (.iload 4, 2) := by decide +kernel
theorem qd_M_one_204 : decode qc_M_one 204 = .ok (.iload 10, 2) := by decide +kernel
theorem qd_M_one_206 : decode qc_M_one 206 = .ok (.if_icmp .ge 7, 3) := by decide +kernel
theorem qd_M_one_209 : decode qc_M_one 209 = .ok (.iconst 1, 1) := by decide +kernel
theorem qd_M_one_210 : decode qc_M_one 210 = .ok (.goto 4, 3) := by decide +kernel
theorem qd_M_one_213 : decode qc_M_one 213 = .ok (.iconst 0, 1) := by decide +kernel
theorem qd_M_one_214 : decode qc_M_one 214 = .ok (.istore 11, 2) := by decide +kernel
theorem qd_M_one_216 : decode qc_M_one 216 = .ok (.iload 11, 2) := by decide +kernel
theorem qd_M_one_218 : decode qc_M_one 218 = .ok (.ifCond .eq 8, 3) := by decide +kernel
theorem qd_M_one_221 : decode qc_M_one 221 = .ok (.iload 8, 2) := by decide +kernel
theorem qd_M_one_223 : decode qc_M_one 223 = .ok (.goto 4, 3) := by decide +kernel
theorem qd_M_one_226 : decode qc_M_one 226 = .ok (.iconst (-1), 1) := by decide +kernel
theorem qd_M_one_227 : decode qc_M_one 227 = .ok (.istore 7, 2) := by decide +kernel
theorem qd_M_one_229 : decode qc_M_one 229 = .ok (.iload 11, 2) := by decide +kernel
theorem qd_M_one_231 : decode qc_M_one 231 = .ok (.ifCond .ne 8, 3) := by decide +kernel
theorem qd_M_one_234 : decode qc_M_one 234 = .ok (.iload 4, 2) := by decide +kernel
theorem qd_M_one_236 : decode qc_M_one 236 = .ok (.ifCond .ge 8, 3) := by decide +kernel
theorem qd_M_one_239 : decode qc_M_one 239 = .ok (.iload 4, 2) := by decide +kernel
theorem qd_M_one_241 : decode qc_M_one 241 = .ok (.goto 8, 3) := by decide +kernel
theorem qd_M_one_244 : decode qc_M_one 244 = .ok (.iload 4, 2) := by decide +kernel
theorem qd_M_one_246 : decode qc_M_one 246 = .ok (.iload 10, 2) := by decide +kernel
theorem qd_M_one_248 : decode qc_M_one 248 = .ok (.isub, 1) := by decide +kernel
theorem qd_M_one_249 : decode qc_M_one 249 = .ok (.istore 4, 2) := by decide +kernel
theorem qd_M_one_251 : decode qc_M_one 251 = .ok (.iload 11, 2) := by decide +kernel
theorem qd_M_one_253 : decode qc_M_one 253 = .ok (.ifCond .ne 7, 3) := by decide +kernel
theorem qd_M_one_256 : decode qc_M_one 256 = .ok (.iconst 1, 1) := by decide +kernel
theorem qd_M_one_257 : decode qc_M_one 257 = .ok (.goto 4, 3) := by decide +kernel
theorem qd_M_one_260 : decode qc_M_one 260 = .ok (.iconst 0, 1) := by decide +kernel
theorem qd_M_one_261 : decode qc_M_one 261 = .ok (.istore 9, 2) := by decide +kernel
theorem qd_M_one_263 : decode qc_M_one 263 = .ok (.iload 9, 2) := by decide +kernel
theorem qd_M_one_265 : decode qc_M_one 265 = .ok (.ifCond .eq 39, 3) := by decide +kernel
theorem qd_M_one_268 : decode qc_M_one 268 = .ok (.aload_n 0, 1) := by decide +kernel
theorem qd_M_one_269 : decode qc_M_one 269 = .ok (.iload 8, 2) := by decide +kernel
theorem qd_M_one_271 : decode qc_M_one 271 = .ok (.iload_n 2, 1) := by decide +kernel
theorem qd_M_one_272 : decode qc_M_one 272 = .ok (.iload_n 3, 1) := by decide +kernel
theorem qd_M_one_273 : decode qc_M_one 273 = .ok (.invokevirtual 128, 3) := by decide +kernel
theorem qd_M_one_276 : decode qc_M_one 276 = .ok (.aload_n 0, 1) := by decide +kernel
theorem qd_M_one_277 : decode qc_M_one 277 = .ok (.iload 8, 2) := by decide +kernel
theorem qd_M_one_279 : decode qc_M_one 279 = .ok (.invokevirtual 91, 3) := by decide +kernel
theorem qd_M_one_282 : decode qc_M_one 282 = .ok (.iconst 1, 1) := by decide +kernel
theorem qd_M_one_283 : decode qc_M_one 283 = .ok (.if_icmp .le 18, 3) := by decide +kernel
theorem qd_M_one_286 : decode qc_M_one 286 = .ok (.aload_n 0, 1) := by decide +kernel
theorem qd_M_one_287 : decode qc_M_one 287 = .ok (.iload 8, 2) := by decide +kernel
theorem qd_M_one_289 : decode qc_M_one 289 = .ok (.iload_n 2, 1) := by decide +kernel
theorem qd_M_one_290 : decode qc_M_one 290 = .ok (.iload_n 3, 1) := by decide +kernel
theorem qd_M_one_291 : decode qc_M_one 291 = .ok (.invokevirtual 115, 3) := by decide +kernel
theorem qd_M_one_294 : decode qc_M_one 294 = .ok (.ifCond .eq 7, 3) := by decide +kernel
theorem qd_M_one_297 : decode qc_M_one 297 = .ok (.iconst 1, 1) := by decide +kernel
theorem qd_M_one_298 : decode qc_M_one 298 = .ok (.goto 4, 3) := by decide +kernel
theorem qd_M_one_301 : decode qc_M_one 301 = .ok (.iconst 0, 1) := by decide +kernel
theorem qd_M_one_302 : decode qc_M_one 302 = .ok (.istore 9, 2) := by decide +kernel
theorem qd_M_one_304 : decode qc_M_one 304 = .ok (.goto (-159), 3) := by decide +kernel
theorem qd_M_one_307 : decode qc_M_one 307 = .ok (.iinc 8 1, 3) := by decide +kernel
theorem qd_M_one_310 : decode qc_M_one 310 = .ok (.goto (-211), 3) := by decide +kernel
theorem qd_M_one_313 : decode qc_M_one 313 = .ok (.aload_n 0, 1) := by decide +kernel
theorem qd_M_one_314 : decode qc_M_one 314 = .ok (.getfield 35, 3) := by decide +kernel
theorem qd_M_one_317 : decode qc_M_one 317 = .ok (.iconst 4, 1) := by decide +kernel
theorem qd_M_one_318 : decode qc_M_one 318 = .ok (.aload_n 0, 1) := by decide +kernel
theorem qd_M_one_319 : decode qc_M_one 319 = .ok (.getfield 147, 3) := by decide +kernel
theorem qd_M_one_322 : decode qc_M_one 322 = .ok (.imul, 1) := by decide +kernel
theorem qd_M_one_323 : decode qc_M_one 323 = .ok (.iload 7, 2) := by decide +kernel
theorem qd_M_one_325 : decode qc_M_one 325 = .ok (.iastore, 1) := by decide +kernel
theorem qd_M_one_326 : decode qc_M_one 326 = .ok (.aload_n 0, 1) := by decide +kernel
theorem qd_M_one_327 : decode qc_M_one 327 = .ok (.getfield 35, 3) := by decide +kernel
theorem qd_M_one_330 : decode qc_M_one 330 = .ok (.iconst 4, 1) := by decide +kernel
theorem qd_M_one_331 : decode qc_M_one 331 = .ok (.aload_n 0, 1) := by decide +kernel
theorem qd_M_one_332 : decode qc_M_one 332 = .ok (.getfield 147, 3) := by decide +kernel
theorem qd_M_one_335 : decode qc_M_one 335 = .ok (.imul, 1) := by decide +kernel
theorem qd_M_one_336 : decode qc_M_one 336 = .ok (.iconst 1, 1) := by decide +kernel
theorem qd_M_one_337 : decode qc_M_one 337 = .ok (.iadd, 1) := by decide +kernel
theorem qd_M_one_338 : decode qc_M_one 338 = .ok (.iload_n 2, 1) := by decide +kernel
theorem qd_M_one_339 : decode qc_M_one 339 = .ok (.iastore, 1) := by decide +kernel
theorem qd_M_one_340 : decode qc_M_one 340 = .ok (.aload_n 0, 1) := by decide +kernel
theorem qd_M_one_341 : decode qc_M_one 341 = .ok (.getfield 35, 3) := by decide +kernel
theorem qd_M_one_344 : decode qc_M_one 344 = .ok (.iconst 4, 1) := by decide +kernel
theorem qd_M_one_345 : decode qc_M_one 345 = .ok (.aload_n 0, 1) := by decide +kernel
theorem qd_M_one_346 : decode qc_M_one 346 = .ok (.getfield 147, 3) := by decide +kernel
theorem qd_M_one_349 : decode qc_M_one 349 = .ok (.imul, 1) := by decide +kernel
theorem qd_M_one_350 : decode qc_M_one 350 = .ok (.iconst 2, 1) := by decide +kernel
theorem qd_M_one_351 : decode qc_M_one 351 = .ok (.iadd, 1) := by decide +kernel
theorem qd_M_one_352 : decode qc_M_one 352 = .ok (.iload_n 3, 1) := by decide +kernel
theorem qd_M_one_353 : decode qc_M_one 353 = .ok (.iastore, 1) := by decide +kernel
theorem qd_M_one_354 : decode qc_M_one 354 = .ok (.aload_n 0, 1) := by decide +kernel
theorem qd_M_one_355 : decode qc_M_one 355 = .ok (.getfield 35, 3) := by decide +kernel
theorem qd_M_one_358 : decode qc_M_one 358 = .ok (.iconst 4, 1) := by decide +kernel
theorem qd_M_one_359 : decode qc_M_one 359 = .ok (.aload_n 0, 1) := by decide +kernel
theorem qd_M_one_360 : decode qc_M_one 360 = .ok (.getfield 147, 3) := by decide +kernel
theorem qd_M_one_363 : decode qc_M_one 363 = .ok (.imul, 1) := by decide +kernel
theorem qd_M_one_364 : decode qc_M_one 364 = .ok (.iconst 3, 1) := by decide +kernel
theorem qd_M_one_365 : decode qc_M_one 365 = .ok (.iadd, 1) := by decide +kernel
theorem qd_M_one_366 : decode qc_M_one 366 = .ok (.iload 5, 2) := by decide +kernel
theorem qd_M_one_368 : decode qc_M_one 368 = .ok (.iastore, 1) := by decide +kernel
theorem qd_M_one_369 : decode qc_M_one 369 = .ok (.aload_n 0, 1) := by decide +kernel
theorem qd_M_one_370 : decode qc_M_one 370 = .ok (.dup, 1) := by decide +kernel
theorem qd_M_one_371 : decode qc_M_one 371 = .ok (.getfield 147, 3) := by decide +kernel
theorem qd_M_one_374 : decode qc_M_one 374 = .ok (.iconst 1, 1) := by decide +kernel
theorem qd_M_one_375 : decode qc_M_one 375 = .ok (.iadd, 1) := by decide +kernel
theorem qd_M_one_376 : decode qc_M_one 376 = .ok (.putfield 147, 3) := by decide +kernel
theorem qd_M_one_379 : decode qc_M_one 379 = .ok (.aload_n 0, 1) := by decide +kernel
theorem qd_M_one_380 : decode qc_M_one 380 = .ok (.iload 7, 2) := by decide +kernel
theorem qd_M_one_382 : decode qc_M_one 382 = .ok (.invokevirtual 91, 3) := by decide +kernel
theorem qd_M_one_385 : decode qc_M_one 385 = .ok (.istore 8, 2) := by decide +kernel
theorem qd_M_one_387 : decode qc_M_one 387 = .ok (.iload 8, 2) := by decide +kernel
theorem qd_M_one_389 : decode qc_M_one 389 = .ok (.iconst 2, 1) := by decide +kernel
theorem qd_M_one_390 : decode qc_M_one 390 = .ok (.if_icmp .le 26, 3) := by decide +kernel
theorem qd_M_one_393 : decode qc_M_one 393 = .ok (.aload_n 0, 1) := by decide +kernel
theorem qd_M_one_394 : decode qc_M_one 394 = .ok (.aload_n 0, 1) := by decide +kernel
theorem qd_M_one_395 : decode qc_M_one 395 = .ok (.getfield 13, 3) := by decide +kernel
theorem qd_M_one_398 : decode qc_M_one 398 = .ok (.iconst 3, 1) := by decide +kernel
theorem qd_M_one_399 : decode qc_M_one 399 = .ok (.iload 7, 2) := by decide +kernel
theorem qd_M_one_401 : decode qc_M_one 401 = .ok (.imul, 1) := by decide +kernel
theorem qd_M_one_402 : decode qc_M_one 402 = .ok (.iconst 2, 1) := by decide +kernel
theorem qd_M_one_403 : decode qc_M_one 403 = .ok (.iadd, 1) := by decide +kernel
theorem qd_M_one_404 : decode qc_M_one 404 = .ok (.iaload, 1) := by decide +kernel
theorem qd_M_one_405 : decode qc_M_one 405 = .ok (.aload_n 0, 1) := by decide +kernel
theorem qd_M_one_406 : decode qc_M_one 406 = .ok (.getfield 108, 3) := by decide +kernel
theorem qd_M_one_409 : decode qc_M_one 409 = .ok (.iload_n 3, 1) := by decide +kernel
theorem qd_M_one_410 : decode qc_M_one 410 = .ok (.invokevirtual 88, 3) := by decide +kernel
theorem qd_M_one_413 : decode qc_M_one 413 = .ok (.goto 4, 3) := by decide +kernel
theorem qd_M_one_416 : decode qc_M_one 416 = .ok (.iconst 1, 1) := by decide +kernel
theorem qd_M_one_417 : decode qc_M_one 417 = .ok (.istore 9, 2) := by decide +kernel
theorem qd_M_one_419 : decode qc_M_one 419 = .ok (.iload 8, 2) := by decide +kernel
theorem qd_M_one_421 : decode qc_M_one 421 = .ok (.iconst 1, 1) := by decide +kernel
theorem qd_M_one_422 : decode qc_M_one 422 = .ok (.if_icmp .le 34, 3) := by decide +kernel
theorem qd_M_one_425 : decode qc_M_one 425 = .ok (.aload_n 0, 1) := by decide +kernel
theorem qd_M_one_426 : decode qc_M_one 426 = .ok (.aload_n 0, 1) := by decide +kernel
theorem qd_M_one_427 : decode qc_M_one 427 = .ok (.getfield 13, 3) := by decide +kernel
theorem qd_M_one_430 : decode qc_M_one 430 = .ok (.iconst 3, 1) := by decide +kernel
theorem qd_M_one_431 : decode qc_M_one 431 = .ok (.iload 7, 2) := by decide +kernel
theorem qd_M_one_433 : decode qc_M_one 433 = .ok (.imul, 1) := by decide +kernel
theorem qd_M_one_434 : decode qc_M_one 434 = .ok (.iconst 1, 1) := by decide +kernel
theorem qd_M_one_435 : decode qc_M_one 435 = .ok (.iadd, 1) := by decide +kernel
theorem qd_M_one_436 : decode qc_M_one 436 = .ok (.iaload, 1) := by decide +kernel
theorem qd_M_one_437 : decode qc_M_one 437 = .ok (.aload_n 0, 1) := by decide +kernel
theorem qd_M_one_438 : decode qc_M_one 438 = .ok (.getfield 105, 3) := by decide +kernel
theorem qd_M_one_441 : decode qc_M_one 441 = .ok (.aload_n 0, 1) := by decide +kernel
theorem qd_M_one_442 : decode qc_M_one 442 = .ok (.getfield 108, 3) := by decide +kernel
theorem qd_M_one_445 : decode qc_M_one 445 = .ok (.invokevirtual 88, 3) := by decide +kernel
theorem qd_M_one_448 : decode qc_M_one 448 = .ok (.iload 9, 2) := by decide +kernel
theorem qd_M_one_450 : decode qc_M_one 450 = .ok (.invokestatic 95, 3) := by decide +kernel
theorem qd_M_one_453 : decode qc_M_one 453 = .ok (.goto 4, 3) := by decide +kernel
theorem qd_M_one_456 : decode qc_M_one 456 = .ok (.iconst 1, 1) := by decide +kernel
theorem qd_M_one_457 : decode qc_M_one 457 = .ok (.istore 10, 2) := by decide +kernel
theorem qd_M_one_459 : decode qc_M_one 459 = .ok (.iload 4, 2) := by decide +kernel
theorem qd_M_one_461 : decode qc_M_one 461 = .ok (.ifCond .ge 7, 3) := by decide +kernel
theorem qd_M_one_464 : decode qc_M_one 464 = .ok (.iconst 0, 1) := by decide +kernel
theorem qd_M_one_465 : decode qc_M_one 465 = .ok (.goto 8, 3) := by decide +kernel
theorem qd_M_one_468 : decode qc_M_one 468 = .ok (.iload 4, 2) := by decide +kernel
theorem qd_M_one_470 : decode qc_M_one 470 = .ok (.iload 10, 2) := by decide +kernel
theorem qd_M_one_472 : decode qc_M_one 472 = .ok (.irem, 1) := by decide +kernel
theorem qd_M_one_473 : decode qc_M_one 473 = .ok (.istore 11, 2) := by decide +kernel
theorem qd_M_one_475 : decode qc_M_one 475 = .ok (.aload_n 0, 1) := by decide +kernel
theorem qd_M_one_476 : decode qc_M_one 476 = .ok (.getfield 105, 3) := by decide +kernel
theorem qd_M_one_479 : decode qc_M_one 479 = .ok (.istore 12, 2) := by decide +kernel
theorem qd_M_one_481 : decode qc_M_one 481 = .ok (.aload_n 0, 1) := by decide +kernel
theorem qd_M_one_482 : decode qc_M_one 482 = .ok (.getfield 108, 3) := by decide +kernel
theorem qd_M_one_485 : decode qc_M_one 485 = .ok (.istore 13, 2) := by decide +kernel
theorem qd_M_one_487 : decode qc_M_one 487 = .ok (.iload 8, 2) := by decide +kernel
theorem qd_M_one_489 : decode qc_M_one 489 = .ok (.iconst 2, 1) := by decide +kernel
theorem qd_M_one_490 : decode qc_M_one 490 = .ok (.if_icmp .le 39, 3) := by decide +kernel
theorem qd_M_one_493 : decode qc_M_one 493 = .ok (.aload_n 0, 1) := by decide +kernel
theorem qd_M_one_494 : decode qc_M_one 494 = .ok (.aload_n 0, 1) := by decide +kernel
theorem qd_M_one_495 : decode qc_M_one 495 = .ok (.getfield 13, 3) := by decide +kernel
theorem qd_M_one_498 : decode qc_M_one 498 = .ok (.iconst 3, 1) := by decide +kernel
theorem qd_M_one_499 : decode qc_M_one 499 = .ok (.iload 7, 2) := by decide +kernel
theorem qd_M_one_501 : decode qc_M_one 501 = .ok (.imul, 1) := by decide +kernel
theorem qd_M_one_502 : decode qc_M_one 502 = .ok (.iconst 2, 1) := by decide +kernel
theorem qd_M_one_503 : decode qc_M_one 503 = .ok (.iadd, 1) := by decide +kernel
theorem qd_M_one_504 : decode qc_M_one 504 = .ok (.iaload, 1) := by decide +kernel
theorem qd_M_one_505 : decode qc_M_one 505 = .ok (.iload 13, 2) := by decide +kernel
theorem qd_M_one_507 : decode qc_M_one 507 = .ok (.iload_n 3, 1) := by decide +kernel
theorem qd_M_one_508 : decode qc_M_one 508 = .ok (.iload 4, 2) := by decide +kernel
theorem qd_M_one_510 : decode qc_M_one 510 = .ok (.ifCond .ge 7, 3) := by decide +kernel
theorem qd_M_one_513 : decode qc_M_one 513 = .ok (.iconst (-1), 1) := by decide +kernel
theorem qd_M_one_514 : decode qc_M_one 514 = .ok (.goto 8, 3) := by decide +kernel
theorem qd_M_one_517 : decode qc_M_one 517 = .ok (.iload 11, 2) := by decide +kernel
theorem qd_M_one_519 : decode qc_M_one 519 = .ok (.iload 9, 2) := by decide +kernel
theorem qd_M_one_521 : decode qc_M_one 521 = .ok (.irem, 1) := by decide +kernel
theorem qd_M_one_522 : decode qc_M_one 522 = .ok (.iload 5, 2) := by decide +kernel
theorem qd_M_one_524 : decode qc_M_one 524 = .ok (.iconst 1, 1) := by decide +kernel
theorem qd_M_one_525 : decode qc_M_one 525 = .ok (.iadd, 1) := by decide +kernel
theorem qd_M_one_526 : decode qc_M_one 526 = .ok (.invokevirtual 150, 3) := by decide +kernel
theorem qd_M_one_529 : decode qc_M_one 529 = .ok (.iload 8, 2) := by decide +kernel
theorem qd_M_one_531 : decode qc_M_one 531 = .ok (.iconst 1, 1) := by decide +kernel
theorem qd_M_one_532 : decode qc_M_one 532 = .ok (.if_icmp .le 40, 3) := by decide +kernel
theorem qd_M_one_535 : decode qc_M_one 535 = .ok (.aload_n 0, 1) := by decide +kernel
theorem qd_M_one_536 : decode qc_M_one 536 = .ok (.aload_n 0, 1) := by decide +kernel
theorem qd_M_one_537 : decode qc_M_one 537 = .ok (.getfield 13, 3) := by decide +kernel
theorem qd_M_one_540 : decode qc_M_one 540 = .ok (.iconst 3, 1) := by decide +kernel
theorem qd_M_one_541 : decode qc_M_one 541 = .ok (.iload 7, 2) := by decide +kernel
theorem qd_M_one_543 : decode qc_M_one 543 = .ok (.imul, 1) := by decide +kernel
theorem qd_M_one_544 : decode qc_M_one 544 = .ok (.iconst 1, 1) := by decide +kernel
theorem qd_M_one_545 : decode qc_M_one 545 = .ok (.iadd, 1) := by decide +kernel
theorem qd_M_one_546 : decode qc_M_one 546 = .ok (.iaload, 1) := by decide +kernel
theorem qd_M_one_547 : decode qc_M_one 547 = .ok (.iload 12, 2) := by decide +kernel
theorem qd_M_one_549 : decode qc_M_one 549 = .ok (.iload 13, 2) := by decide +kernel
theorem qd_M_one_551 : decode qc_M_one 551 = .ok (.iload 4, 2) := by decide +kernel
theorem qd_M_one_553 : decode qc_M_one 553 = .ok (.ifCond .ge 7, 3) := by decide +kernel
theorem qd_M_one_556 : decode qc_M_one 556 = .ok (.iconst (-1), 1) := by decide +kernel
theorem qd_M_one_557 : decode qc_M_one 557 = .ok (.goto 8, 3) := by decide +kernel
theorem qd_M_one_560 : decode qc_M_one 560 = .ok (.iload 11, 2) := by decide +kernel
theorem qd_M_one_562 : decode qc_M_one 562 = .ok (.iload 9, 2) := by decide +kernel
theorem qd_M_one_564 : decode qc_M_one 564 = .ok (.idiv, 1) := by decide +kernel
theorem qd_M_one_565 : decode qc_M_one 565 = .ok (.iload 5, 2) := by decide +kernel
theorem qd_M_one_567 : decode qc_M_one 567 = .ok (.iconst 1, 1) := by decide +kernel
theorem qd_M_one_568 : decode qc_M_one 568 = .ok (.iadd, 1) := by decide +kernel
theorem qd_M_one_569 : decode qc_M_one 569 = .ok (.invokevirtual 150, 3) := by decide +kernel
theorem qd_M_one_572 : decode qc_M_one 572 = .ok (.aload_n 0, 1) := by decide +kernel
theorem qd_M_one_573 : decode qc_M_one 573 = .ok (.aload_n 0, 1) := by decide +kernel
theorem qd_M_one_574 : decode qc_M_one 574 = .ok (.getfield 13, 3) := by decide +kernel
theorem qd_M_one_577 : decode qc_M_one 577 = .ok (.iconst 3, 1) := by decide +kernel
theorem qd_M_one_578 : decode qc_M_one 578 = .ok (.iload 7, 2) := by decide +kernel
theorem qd_M_one_580 : decode qc_M_one 580 = .ok (.imul, 1) := by decide +kernel
theorem qd_M_one_581 : decode qc_M_one 581 = .ok (.iaload, 1) := by decide +kernel
theorem qd_M_one_582 : decode qc_M_one 582 = .ok (.iload_n 2, 1) := by decide +kernel
theorem qd_M_one_583 : decode qc_M_one 583 = .ok (.iload 12, 2) := by decide +kernel
theorem qd_M_one_585 : decode qc_M_one 585 = .ok (.iload 4, 2) := by decide +kernel
theorem qd_M_one_587 : decode qc_M_one 587 = .ok (.ifCond .ge 7, 3) := by decide +kernel
theorem qd_M_one_590 : decode qc_M_one 590 = .ok (.iconst (-1), 1) := by decide +kernel
theorem qd_M_one_591 : decode qc_M_one 591 = .ok (.goto 8, 3) := by decide +kernel
theorem qd_M_one_594 : decode qc_M_one 594 = .ok (.iload 4, 2) := by decide +kernel
theorem qd_M_one_596 : decode qc_M_one 596 = .ok (.iload 10, 2) := by decide +kernel
theorem qd_M_one_598 : decode qc_M_one 598 = .ok (.idiv, 1) := by decide +kernel
theorem qd_M_one_599 : decode qc_M_one 599 = .ok (.iload 5, 2) := by decide +kernel
theorem qd_M_one_601 : decode qc_M_one 601 = .ok (.iconst 1, 1) := by decide +kernel
theorem qd_M_one_602 : decode qc_M_one 602 = .ok (.iadd, 1) := by decide +kernel
theorem qd_M_one_603 : decode qc_M_one 603 = .ok (.invokevirtual 150, 3) := by decide +kernel
theorem qd_M_one_606 : decode qc_M_one 606 = .ok (.return_, 1) := by decide +kernel
set_option maxHeartbeats 4000000 in
set_option maxRecDepth 100000 in
theorem c_M_one (l : Launch) (dC : Nat → ClassId) (dI : Nat → Nat → Nat) (cA cZ : ClassId) (N_ : Nat) (aM aMh aMi aMc aMt aMn aMl aMs aMd aMe aMo aMw aMu : Nat) (sz : Nat) (vMT : Int32) (vMP : Int32) (vMK : Int32) (vMB : Int32) (vMD : Int32) (vME : Int32) (vMO : Int32) (vMF : Int32) (vMS : Int32) (vMX : Int32) (vMW : Int32) (vMh : (Nat → Int32)) (vMi : (Nat → Int32)) (vMc : (Nat → Int32)) (vMt : (Nat → Int32)) (vMn : (Nat → Int32)) (vMl : (Nat → Int32)) (vMe : (Nat → Int32)) (vMo : (Nat → Int32)) (ho : o_M_one N_ vMP vME vMO vMF vMS vMh vMi vMc vMt vMn vMl vMe vMo) : Met l qy_M_one qw_M_one ({ frames := 3, cells := 0, slots := 0, locals := 71 }) (va_Pc [.ref aM] (fun U => U.heap.size = sz ∧ xP (dC, dI) [(cA, .int), (cZ, .boolean)] [(aM, .inr (7, [.int vMT, .int vMP, .ref aMh, .ref aMi, .ref aMc, .int vMK, .ref aMt, .int vMB, .ref aMn, .ref aMl, .ref aMs, .int vMD, .ref aMd, .int vME, .ref aMe, .int vMO, .ref aMo, .int vMF, .int vMS, .ref aMw, .ref aMu, .int vMX, .int vMW])), (aMh, .inl (cA, 24, .inl (vMh))), (aMi, .inl (cA, 72, .inl (vMi))), (aMc, .inl (cA, 24, .inl (vMc))), (aMt, .inl (cA, 24, .inl (vMt))), (aMn, .inl (cA, 6250, .inl (vMn))), (aMl, .inl (cA, 6250, .inl (vMl))), (aMe, .inl (cA, 4000, .inl (vMe))), (aMo, .inl (cA, 10000, .inl (vMo)))] nestN U ∧ va_D (fun _ => True) [(aM, .inr (7, [.int vMT, .int vMP, .ref aMh, .ref aMi, .ref aMc, .int vMK, .ref aMt, .int vMB, .ref aMn, .ref aMl, .ref aMs, .int vMD, .ref aMd, .int vME, .ref aMe, .int vMO, .ref aMo, .int vMF, .int vMS, .ref aMw, .ref aMu, .int vMX, .int vMW])), (aMh, .inl (cA, 24, .inl (vMh))), (aMi, .inl (cA, 72, .inl (vMi))), (aMc, .inl (cA, 24, .inl (vMc))), (aMt, .inl (cA, 24, .inl (vMt))), (aMn, .inl (cA, 6250, .inl (vMn))), (aMl, .inl (cA, 6250, .inl (vMl))), (aMe, .inl (cA, 4000, .inl (vMe))), (aMo, .inl (cA, 10000, .inl (vMo)))])) (va_Qv (fun u => u = f_M_one N_ vMP vME vMO vMF vMS vMh vMi vMc vMt vMn vMl vMe vMo) (fun (u : Int32 × Int32 × Int32 × Int32 × (Nat → Int32) × (Nat → Int32)) t => xP (dC, dI) [(cA, .int), (cZ, .boolean)] [(aM, .inr (7, [.int vMT, .int vMP, .ref aMh, .ref aMi, .ref aMc, .int vMK, .ref aMt, .int vMB, .ref aMn, .ref aMl, .ref aMs, .int vMD, .ref aMd, .int u.1, .ref aMe, .int u.2.1, .ref aMo, .int u.2.2.1, .int u.2.2.2.1, .ref aMw, .ref aMu, .int vMX, .int vMW])), (aMh, .inl (cA, 24, .inl (vMh))), (aMi, .inl (cA, 72, .inl (vMi))), (aMc, .inl (cA, 24, .inl (vMc))), (aMt, .inl (cA, 24, .inl (vMt))), (aMn, .inl (cA, 6250, .inl (vMn))), (aMl, .inl (cA, 6250, .inl (vMl))), (aMe, .inl (cA, 4000, .inl (u.2.2.2.2.1))), (aMo, .inl (cA, 10000, .inl (u.2.2.2.2.2)))] nestN t ∧ va_D (va_A [(aM, .inr (7, [.int vMT, .int vMP, .ref aMh, .ref aMi, .ref aMc, .int vMK, .ref aMt, .int vMB, .ref aMn, .ref aMl, .ref aMs, .int vMD, .ref aMd, .int vME, .ref aMe, .int vMO, .ref aMo, .int vMF, .int vMS, .ref aMw, .ref aMu, .int vMX, .int vMW])), (aMh, .inl (cA, 24, .inl (vMh))), (aMi, .inl (cA, 72, .inl (vMi))), (aMc, .inl (cA, 24, .inl (vMc))), (aMt, .inl (cA, 24, .inl (vMt))), (aMn, .inl (cA, 6250, .inl (vMn))), (aMl, .inl (cA, 6250, .inl (vMl))), (aMe, .inl (cA, 4000, .inl (vMe))), (aMo, .inl (cA, 10000, .inl (vMo)))] sz) [(aM, .inr (7, [.int vMT, .int vMP, .ref aMh, .ref aMi, .ref aMc, .int vMK, .ref aMt, .int vMB, .ref aMn, .ref aMl, .ref aMs, .int vMD, .ref aMd, .int u.1, .ref aMe, .int u.2.1, .ref aMo, .int u.2.2.1, .int u.2.2.2.1, .ref aMw, .ref aMu, .int vMX, .int vMW])), (aMh, .inl (cA, 24, .inl (vMh))), (aMi, .inl (cA, 72, .inl (vMi))), (aMc, .inl (cA, 24, .inl (vMc))), (aMt, .inl (cA, 24, .inl (vMt))), (aMn, .inl (cA, 6250, .inl (vMn))), (aMl, .inl (cA, 6250, .inl (vMl))), (aMe, .inl (cA, 4000, .inl (u.2.2.2.2.1))), (aMo, .inl (cA, 10000, .inl (u.2.2.2.2.2)))]) (va_A [(aM, .inr (7, [.int vMT, .int vMP, .ref aMh, .ref aMi, .ref aMc, .int vMK, .ref aMt, .int vMB, .ref aMn, .ref aMl, .ref aMs, .int vMD, .ref aMd, .int vME, .ref aMe, .int vMO, .ref aMo, .int vMF, .int vMS, .ref aMw, .ref aMu, .int vMX, .int vMW])), (aMh, .inl (cA, 24, .inl (vMh))), (aMi, .inl (cA, 72, .inl (vMi))), (aMc, .inl (cA, 24, .inl (vMc))), (aMt, .inl (cA, 24, .inl (vMt))), (aMn, .inl (cA, 6250, .inl (vMn))), (aMl, .inl (cA, 6250, .inl (vMl))), (aMe, .inl (cA, 4000, .inl (vMe))), (aMo, .inl (cA, 10000, .inl (vMo)))] sz)) 0 0 (va_A [(aM, .inr (7, [.int vMT, .int vMP, .ref aMh, .ref aMi, .ref aMc, .int vMK, .ref aMt, .int vMB, .ref aMn, .ref aMl, .ref aMs, .int vMD, .ref aMd, .int vME, .ref aMe, .int vMO, .ref aMo, .int vMF, .int vMS, .ref aMw, .ref aMu, .int vMX, .int vMW])), (aMh, .inl (cA, 24, .inl (vMh))), (aMi, .inl (cA, 72, .inl (vMi))), (aMc, .inl (cA, 24, .inl (vMc))), (aMt, .inl (cA, 24, .inl (vMt))), (aMn, .inl (cA, 6250, .inl (vMn))), (aMl, .inl (cA, 6250, .inl (vMl))), (aMe, .inl (cA, 4000, .inl (vMe))), (aMo, .inl (cA, 10000, .inl (vMo)))] sz) := by
  refine Met.ofW (cc := qc_M_one) (maxL := 14) (ret := (none)) (by decide) rfl ?_
  intro p e s m args below meth c s₁ B hml hv
  obtain ⟨rfl, hsz, ⟨hP, hK, hN⟩, hD0⟩ := hv
  have hx := B.exec
  have hb := B.bytes
  have hr := B.returns
  have hts := atoms_spec (ws := qw_M_one) B.pre
  have hg : ∀ w ∈ gG, w.before _ s = true := fun w h => hts w (List.mem_cons_of_mem _ h)
  have hown : s.vm.findClass qR_M = some m.cls := findClass_of_methodNamed B.named
  have hlocks := B.notSynchronized
  subst hsz
  have hD := hD0.self (sz := s.heap.size)
  generalize hAe : va_A [(aM, .inr (7, [.int vMT, .int vMP, .ref aMh, .ref aMi, .ref aMc, .int vMK, .ref aMt, .int vMB, .ref aMn, .ref aMl, .ref aMs, .int vMD, .ref aMd, .int vME, .ref aMe, .int vMO, .ref aMo, .int vMF, .int vMS, .ref aMw, .ref aMu, .int vMX, .int vMW])), (aMh, .inl (cA, 24, .inl (vMh))), (aMi, .inl (cA, 72, .inl (vMi))), (aMc, .inl (cA, 24, .inl (vMc))), (aMt, .inl (cA, 24, .inl (vMt))), (aMn, .inl (cA, 6250, .inl (vMn))), (aMl, .inl (cA, 6250, .inl (vMl))), (aMe, .inl (cA, 4000, .inl (vMe))), (aMo, .inl (cA, 10000, .inl (vMo)))] s.heap.size = A at hD ⊢
  have hA : ∀ q : Nat, s.heap.size ≤ q → A q := fun q h => by rw [← hAe]; exact Or.inr h
  have hS : va_S A s.heap s.heap [] := va_S.rf
  have hP : va_P (dC, dI) vwCl [(aM, .inr (7, [.int vMT, .int vMP, .ref aMh, .ref aMi, .ref aMc, .int vMK, .ref aMt, .int vMB, .ref aMn, .ref aMl, .ref aMs, .int vMD, .ref aMd, .int vME, .ref aMe, .int vMO, .ref aMo, .int vMF, .int vMS, .ref aMw, .ref aMu, .int vMX, .int vMW])), (aMh, .inl (cA, 24, .inl (vMh))), (aMi, .inl (cA, 72, .inl (vMi))), (aMc, .inl (cA, 24, .inl (vMc))), (aMt, .inl (cA, 24, .inl (vMt))), (aMn, .inl (cA, 6250, .inl (vMn))), (aMl, .inl (cA, 6250, .inl (vMl))), (aMe, .inl (cA, 4000, .inl (vMe))), (aMo, .inl (cA, 10000, .inl (vMo)))] s.heap := hP
  have hl := lv_entry ([.ref aM]) (n := 14) (Nat.le_of_ble_eq_true rfl)
  rw [lg_entry_eq]
  generalize (lg_sl ([.ref aM]) ++ List.replicate (14 - (lg_sl ([.ref aM])).length) Slot.unset).toArray = ls at hl ⊢
  have hl : lv_has ls 14 [(0, .ref aM)] := hl
  generalize hF : f_M_one N_ vMP vME vMO vMF vMS vMh vMi vMc vMt vMn vMl vMe vMo = Fv
  have hres : Fv = f_M_one N_ vMP vME vMO vMF vMS vMh vMi vMc vMt vMn vMl vMe vMo := hF.symm
  unfold f_M_one at hres
  unfold o_M_one at ho
  generalize hQ : MQ _ _ _ _ _ _ _ = Qg
  refine lv_aload_n hx hb qd_M_one_0 rfl (lv_at hl 0 rfl) ?_
  refine lv_dup hx hb qd_M_one_1 rfl ?_
  refine va_get (D := (dC, dI)) (ci := 7) (v := .int vMO) (C := qR_M) (T := qT_M) (N := 23) hx hb hg qi_M hown hK hP 0 rfl rfl 15 (by decide) (hg _ mw_589) (fun _ h9 => h9) rfl qd_M_one_2 ?_
  refine lv_iconst (v := 1) hx hb qd_M_one_5 (by decide) ?_
  refine lv_isub hx hb qd_M_one_6 ?_
  refine va_put (D := (dC, dI)) (ci := 7) (v := .int (vMO - 1)) (ty := .int) (C := qR_M) (T := qT_M) (N := 23) hx hb hg qi_M qt_M qk_M qn_M hown hK hP hD hS 0 rfl rfl 15 (by decide) (hg _ mw_589) (fun _ h9 => h9) rfl (by decide +kernel) rfl rfl (Nat.le_of_ble_eq_true rfl) qd_M_one_7 (fun H locs hP hD hS => ?_)
  have hP : va_P (dC, dI) vwCl [(aM, .inr (7, [.int vMT, .int vMP, .ref aMh, .ref aMi, .ref aMc, .int vMK, .ref aMt, .int vMB, .ref aMn, .ref aMl, .ref aMs, .int vMD, .ref aMd, .int vME, .ref aMe, .int (vMO - 1), .ref aMo, .int vMF, .int vMS, .ref aMw, .ref aMu, .int vMX, .int vMW])), (aMh, .inl (cA, 24, .inl (vMh))), (aMi, .inl (cA, 72, .inl (vMi))), (aMc, .inl (cA, 24, .inl (vMc))), (aMt, .inl (cA, 24, .inl (vMt))), (aMn, .inl (cA, 6250, .inl (vMn))), (aMl, .inl (cA, 6250, .inl (vMl))), (aMe, .inl (cA, 4000, .inl (vMe))), (aMo, .inl (cA, 10000, .inl (vMo)))] H := hP
  have hD : va_D A [(aM, .inr (7, [.int vMT, .int vMP, .ref aMh, .ref aMi, .ref aMc, .int vMK, .ref aMt, .int vMB, .ref aMn, .ref aMl, .ref aMs, .int vMD, .ref aMd, .int vME, .ref aMe, .int (vMO - 1), .ref aMo, .int vMF, .int vMS, .ref aMw, .ref aMu, .int vMX, .int vMW])), (aMh, .inl (cA, 24, .inl (vMh))), (aMi, .inl (cA, 72, .inl (vMi))), (aMc, .inl (cA, 24, .inl (vMc))), (aMt, .inl (cA, 24, .inl (vMt))), (aMn, .inl (cA, 6250, .inl (vMn))), (aMl, .inl (cA, 6250, .inl (vMl))), (aMe, .inl (cA, 4000, .inl (vMe))), (aMo, .inl (cA, 10000, .inl (vMo)))] := hD
  refine lv_aload_n hx hb qd_M_one_10 rfl (lv_at hl 0 rfl) ?_
  refine va_get (D := (dC, dI)) (ci := 7) (v := .ref aMo) (C := qR_M) (T := qT_M) (N := 23) hx hb hg qi_M hown hK hP 0 rfl rfl 16 (by decide) (hg _ mw_590) (fun _ h9 => h9) rfl qd_M_one_11 ?_
  refine lv_iconst (v := 5) hx hb qd_M_one_14 (by decide) ?_
  refine lv_aload_n hx hb qd_M_one_15 rfl (lv_at hl 0 rfl) ?_
  refine va_get (D := (dC, dI)) (ci := 7) (v := .int (vMO - 1)) (C := qR_M) (T := qT_M) (N := 23) hx hb hg qi_M hown hK hP 0 rfl rfl 15 (by decide) (hg _ mw_589) (fun _ h9 => h9) rfl qd_M_one_16 ?_
  refine lv_imul hx hb qd_M_one_19 ?_
  obtain ⟨g_20, ho⟩ := ho
  refine va_iald hx hb hK hP 8 0 rfl rfl g_20 qd_M_one_20 ?_
  refine lv_istore_n (lv' := [(1, .int (vMo (5 * (vMO - 1)).toNatClampNeg)), (0, .ref aM)]) hx hb qd_M_one_21 rfl hl (by decide) rfl (fun ls hl => ?_)
  refine lv_aload_n hx hb qd_M_one_22 rfl (lv_at hl 1 rfl) ?_
  refine va_get (D := (dC, dI)) (ci := 7) (v := .ref aMo) (C := qR_M) (T := qT_M) (N := 23) hx hb hg qi_M hown hK hP 0 rfl rfl 16 (by decide) (hg _ mw_590) (fun _ h9 => h9) rfl qd_M_one_23 ?_
  refine lv_iconst (v := 5) hx hb qd_M_one_26 (by decide) ?_
  refine lv_aload_n hx hb qd_M_one_27 rfl (lv_at hl 1 rfl) ?_
  refine va_get (D := (dC, dI)) (ci := 7) (v := .int (vMO - 1)) (C := qR_M) (T := qT_M) (N := 23) hx hb hg qi_M hown hK hP 0 rfl rfl 15 (by decide) (hg _ mw_589) (fun _ h9 => h9) rfl qd_M_one_28 ?_
  refine lv_imul hx hb qd_M_one_31 ?_
  refine lv_iconst (v := 1) hx hb qd_M_one_32 (by decide) ?_
  refine lv_iadd hx hb qd_M_one_33 ?_
  obtain ⟨g_34, ho⟩ := ho
  refine va_iald hx hb hK hP 8 0 rfl rfl g_34 qd_M_one_34 ?_
  refine lv_istore_n (lv' := [(2, .int (vMo ((5 * (vMO - 1)) + 1).toNatClampNeg)), (1, .int (vMo (5 * (vMO - 1)).toNatClampNeg)), (0, .ref aM)]) hx hb qd_M_one_35 rfl hl (by decide) rfl (fun ls hl => ?_)
  refine lv_aload_n hx hb qd_M_one_36 rfl (lv_at hl 2 rfl) ?_
  refine va_get (D := (dC, dI)) (ci := 7) (v := .ref aMo) (C := qR_M) (T := qT_M) (N := 23) hx hb hg qi_M hown hK hP 0 rfl rfl 16 (by decide) (hg _ mw_590) (fun _ h9 => h9) rfl qd_M_one_37 ?_
  refine lv_iconst (v := 5) hx hb qd_M_one_40 (by decide) ?_
  refine lv_aload_n hx hb qd_M_one_41 rfl (lv_at hl 2 rfl) ?_
  refine va_get (D := (dC, dI)) (ci := 7) (v := .int (vMO - 1)) (C := qR_M) (T := qT_M) (N := 23) hx hb hg qi_M hown hK hP 0 rfl rfl 15 (by decide) (hg _ mw_589) (fun _ h9 => h9) rfl qd_M_one_42 ?_
  refine lv_imul hx hb qd_M_one_45 ?_
  refine lv_iconst (v := 2) hx hb qd_M_one_46 (by decide) ?_
  refine lv_iadd hx hb qd_M_one_47 ?_
  obtain ⟨g_48, ho⟩ := ho
  refine va_iald hx hb hK hP 8 0 rfl rfl g_48 qd_M_one_48 ?_
  refine lv_istore_n (lv' := [(3, .int (vMo ((5 * (vMO - 1)) + 2).toNatClampNeg)), (2, .int (vMo ((5 * (vMO - 1)) + 1).toNatClampNeg)), (1, .int (vMo (5 * (vMO - 1)).toNatClampNeg)), (0, .ref aM)]) hx hb qd_M_one_49 rfl hl (by decide) rfl (fun ls hl => ?_)
  refine lv_aload_n hx hb qd_M_one_50 rfl (lv_at hl 3 rfl) ?_
  refine va_get (D := (dC, dI)) (ci := 7) (v := .ref aMo) (C := qR_M) (T := qT_M) (N := 23) hx hb hg qi_M hown hK hP 0 rfl rfl 16 (by decide) (hg _ mw_590) (fun _ h9 => h9) rfl qd_M_one_51 ?_
  refine lv_iconst (v := 5) hx hb qd_M_one_54 (by decide) ?_
  refine lv_aload_n hx hb qd_M_one_55 rfl (lv_at hl 3 rfl) ?_
  refine va_get (D := (dC, dI)) (ci := 7) (v := .int (vMO - 1)) (C := qR_M) (T := qT_M) (N := 23) hx hb hg qi_M hown hK hP 0 rfl rfl 15 (by decide) (hg _ mw_589) (fun _ h9 => h9) rfl qd_M_one_56 ?_
  refine lv_imul hx hb qd_M_one_59 ?_
  refine lv_iconst (v := 3) hx hb qd_M_one_60 (by decide) ?_
  refine lv_iadd hx hb qd_M_one_61 ?_
  obtain ⟨g_62, ho⟩ := ho
  refine va_iald hx hb hK hP 8 0 rfl rfl g_62 qd_M_one_62 ?_
  refine lv_istore (lv' := [(4, .int (vMo ((5 * (vMO - 1)) + 3).toNatClampNeg)), (3, .int (vMo ((5 * (vMO - 1)) + 2).toNatClampNeg)), (2, .int (vMo ((5 * (vMO - 1)) + 1).toNatClampNeg)), (1, .int (vMo (5 * (vMO - 1)).toNatClampNeg)), (0, .ref aM)]) hx hb qd_M_one_63 hl (by decide) rfl (fun ls hl => ?_)
  refine lv_aload_n hx hb qd_M_one_65 rfl (lv_at hl 4 rfl) ?_
  refine va_get (D := (dC, dI)) (ci := 7) (v := .ref aMo) (C := qR_M) (T := qT_M) (N := 23) hx hb hg qi_M hown hK hP 0 rfl rfl 16 (by decide) (hg _ mw_590) (fun _ h9 => h9) rfl qd_M_one_66 ?_
  refine lv_iconst (v := 5) hx hb qd_M_one_69 (by decide) ?_
  refine lv_aload_n hx hb qd_M_one_70 rfl (lv_at hl 4 rfl) ?_
  refine va_get (D := (dC, dI)) (ci := 7) (v := .int (vMO - 1)) (C := qR_M) (T := qT_M) (N := 23) hx hb hg qi_M hown hK hP 0 rfl rfl 15 (by decide) (hg _ mw_589) (fun _ h9 => h9) rfl qd_M_one_71 ?_
  refine lv_imul hx hb qd_M_one_74 ?_
  refine lv_iconst (v := 4) hx hb qd_M_one_75 (by decide) ?_
  refine lv_iadd hx hb qd_M_one_76 ?_
  obtain ⟨g_77, ho⟩ := ho
  refine va_iald hx hb hK hP 8 0 rfl rfl g_77 qd_M_one_77 ?_
  refine lv_istore (lv' := [(5, .int (vMo ((5 * (vMO - 1)) + 4).toNatClampNeg)), (4, .int (vMo ((5 * (vMO - 1)) + 3).toNatClampNeg)), (3, .int (vMo ((5 * (vMO - 1)) + 2).toNatClampNeg)), (2, .int (vMo ((5 * (vMO - 1)) + 1).toNatClampNeg)), (1, .int (vMo (5 * (vMO - 1)).toNatClampNeg)), (0, .ref aM)]) hx hb qd_M_one_78 hl (by decide) rfl (fun ls hl => ?_)
  refine lv_aload_n hx hb qd_M_one_80 rfl (lv_at hl 5 rfl) ?_
  refine va_get (D := (dC, dI)) (ci := 7) (v := .ref aMl) (C := qR_M) (T := qT_M) (N := 23) hx hb hg qi_M hown hK hP 0 rfl rfl 9 (by decide) (hg _ mw_583) (fun _ h9 => h9) rfl qd_M_one_81 ?_
  refine lv_iload_n hx hb qd_M_one_84 rfl (lv_at hl 4 rfl) ?_
  refine lv_iload_n hx hb qd_M_one_85 rfl (lv_at hl 3 rfl) ?_
  refine lv_iload_n hx hb qd_M_one_86 rfl (lv_at hl 2 rfl) ?_
  refine xc_S (As := [.int (vMo (5 * (vMO - 1)).toNatClampNeg), .int (vMo ((5 * (vMO - 1)) + 1).toNatClampNeg), .int (vMo ((5 * (vMO - 1)) + 2).toNatClampNeg)]) (rest := [.ref aMl]) ⟨hx, hb, hml, hown, hg⟩ (c_M_at l dC dI cA cZ (vMo (5 * (vMO - 1)).toNatClampNeg) (vMo ((5 * (vMO - 1)) + 1).toNatClampNeg) (vMo ((5 * (vMO - 1)) + 2).toNatClampNeg)) (va_cwS 3 hg (q_gS mw_663 mw_664 mw_8 mw_665) rfl rfl rfl qh_M_at.2 ⟨Nat.le_of_ble_eq_true rfl, Nat.le_of_ble_eq_true rfl⟩) hN hK hP [] rfl rfl hl.1 rfl (Nat.le_of_ble_eq_true rfl) qd_M_one_87 ⟨Nat.zero_le _, Nat.zero_le _⟩ ?_
  refine lv_topi (fun r_87 w_87 => ?_)
  have hres := hres.trans (bd_eq w_87)
  have ho := (bd_eq w_87).mp ho
  obtain ⟨g_90, ho⟩ := ho
  refine va_iald hx hb hK hP 6 0 rfl rfl g_90 qd_M_one_90 ?_
  refine lv_istore (lv' := [(6, .int (vMl r_87.toNatClampNeg)), (5, .int (vMo ((5 * (vMO - 1)) + 4).toNatClampNeg)), (4, .int (vMo ((5 * (vMO - 1)) + 3).toNatClampNeg)), (3, .int (vMo ((5 * (vMO - 1)) + 2).toNatClampNeg)), (2, .int (vMo ((5 * (vMO - 1)) + 1).toNatClampNeg)), (1, .int (vMo (5 * (vMO - 1)).toNatClampNeg)), (0, .ref aM)]) hx hb qd_M_one_91 hl (by decide) rfl (fun ls hl => ?_)
  refine lv_iconst (v := (-1)) hx hb qd_M_one_93 (by decide) ?_
  refine lv_istore (lv' := [(7, .int ((-1))), (6, .int (vMl r_87.toNatClampNeg)), (5, .int (vMo ((5 * (vMO - 1)) + 4).toNatClampNeg)), (4, .int (vMo ((5 * (vMO - 1)) + 3).toNatClampNeg)), (3, .int (vMo ((5 * (vMO - 1)) + 2).toNatClampNeg)), (2, .int (vMo ((5 * (vMO - 1)) + 1).toNatClampNeg)), (1, .int (vMo (5 * (vMO - 1)).toNatClampNeg)), (0, .ref aM)]) hx hb qd_M_one_94 hl (by decide) rfl (fun ls hl => ?_)
  refine lv_iconst (v := 0) hx hb qd_M_one_96 (by decide) ?_
  refine lv_istore (lv' := [(8, .int 0), (7, .int ((-1))), (6, .int (vMl r_87.toNatClampNeg)), (5, .int (vMo ((5 * (vMO - 1)) + 4).toNatClampNeg)), (4, .int (vMo ((5 * (vMO - 1)) + 3).toNatClampNeg)), (3, .int (vMo ((5 * (vMO - 1)) + 2).toNatClampNeg)), (2, .int (vMo ((5 * (vMO - 1)) + 1).toNatClampNeg)), (1, .int (vMo (5 * (vMO - 1)).toNatClampNeg)), (0, .ref aM)]) hx hb qd_M_one_97 hl (by decide) rfl (fun ls hl => ?_)
  have L_99 : ∀ (K_ : Int32 → Int32 → Int32 → Int32 → Int32 → Int32 × Int32 × Int32 × Int32 × (Nat → Int32) × (Nat → Int32)) (Ko_ : Int32 → Int32 → Int32 → Int32 → Int32 → Prop) (hk : ∀ (x4_99 : Int32) (x7_99 : Int32) (x8_99 : Int32) (vMF_99 : Int32) (vMS_99 : Int32) (H : Heap) (locs : List Loc) (ls : Array Slot), va_P (dC, dI) vwCl [(aM, .inr (7, [.int vMT, .int vMP, .ref aMh, .ref aMi, .ref aMc, .int vMK, .ref aMt, .int vMB, .ref aMn, .ref aMl, .ref aMs, .int vMD, .ref aMd, .int vME, .ref aMe, .int (vMO - 1), .ref aMo, .int vMF_99, .int vMS_99, .ref aMw, .ref aMu, .int vMX, .int vMW])), (aMh, .inl (cA, 24, .inl (vMh))), (aMi, .inl (cA, 72, .inl (vMi))), (aMc, .inl (cA, 24, .inl (vMc))), (aMt, .inl (cA, 24, .inl (vMt))), (aMn, .inl (cA, 6250, .inl (vMn))), (aMl, .inl (cA, 6250, .inl (vMl))), (aMe, .inl (cA, 4000, .inl (vMe))), (aMo, .inl (cA, 10000, .inl (vMo)))] H → va_D A [(aM, .inr (7, [.int vMT, .int vMP, .ref aMh, .ref aMi, .ref aMc, .int vMK, .ref aMt, .int vMB, .ref aMn, .ref aMl, .ref aMs, .int vMD, .ref aMd, .int vME, .ref aMe, .int (vMO - 1), .ref aMo, .int vMF_99, .int vMS_99, .ref aMw, .ref aMu, .int vMX, .int vMW])), (aMh, .inl (cA, 24, .inl (vMh))), (aMi, .inl (cA, 72, .inl (vMi))), (aMc, .inl (cA, 24, .inl (vMc))), (aMt, .inl (cA, 24, .inl (vMt))), (aMn, .inl (cA, 6250, .inl (vMn))), (aMl, .inl (cA, 6250, .inl (vMl))), (aMe, .inl (cA, 4000, .inl (vMe))), (aMo, .inl (cA, 10000, .inl (vMo)))] → va_S A s.heap H locs → lv_has ls 14 [(8, .int x8_99), (7, .int x7_99), (6, .int (vMl r_87.toNatClampNeg)), (5, .int (vMo ((5 * (vMO - 1)) + 4).toNatClampNeg)), (4, .int x4_99), (3, .int (vMo ((5 * (vMO - 1)) + 2).toNatClampNeg)), (2, .int (vMo ((5 * (vMO - 1)) + 1).toNatClampNeg)), (1, .int (vMo (5 * (vMO - 1)).toNatClampNeg)), (0, .ref aM)] → Fv = K_ x4_99 x7_99 x8_99 vMF_99 vMS_99 → Ko_ x4_99 x7_99 x8_99 vMF_99 vMS_99 → W p l e ({ frames := 3, cells := 0, slots := 0, locals := 71 } : Room) s m (([.ref aM] : List Value).toArray) below meth c H locs 0 0 Qg (F0 m 313 ls [])) (n : Nat) (x4_99 : Int32) (x7_99 : Int32) (x8_99 : Int32) (vMF_99 : Int32) (vMS_99 : Int32) (H : Heap) (locs : List Loc) (ls : Array Slot), va_P (dC, dI) vwCl [(aM, .inr (7, [.int vMT, .int vMP, .ref aMh, .ref aMi, .ref aMc, .int vMK, .ref aMt, .int vMB, .ref aMn, .ref aMl, .ref aMs, .int vMD, .ref aMd, .int vME, .ref aMe, .int (vMO - 1), .ref aMo, .int vMF_99, .int vMS_99, .ref aMw, .ref aMu, .int vMX, .int vMW])), (aMh, .inl (cA, 24, .inl (vMh))), (aMi, .inl (cA, 72, .inl (vMi))), (aMc, .inl (cA, 24, .inl (vMc))), (aMt, .inl (cA, 24, .inl (vMt))), (aMn, .inl (cA, 6250, .inl (vMn))), (aMl, .inl (cA, 6250, .inl (vMl))), (aMe, .inl (cA, 4000, .inl (vMe))), (aMo, .inl (cA, 10000, .inl (vMo)))] H → va_D A [(aM, .inr (7, [.int vMT, .int vMP, .ref aMh, .ref aMi, .ref aMc, .int vMK, .ref aMt, .int vMB, .ref aMn, .ref aMl, .ref aMs, .int vMD, .ref aMd, .int vME, .ref aMe, .int (vMO - 1), .ref aMo, .int vMF_99, .int vMS_99, .ref aMw, .ref aMu, .int vMX, .int vMW])), (aMh, .inl (cA, 24, .inl (vMh))), (aMi, .inl (cA, 72, .inl (vMi))), (aMc, .inl (cA, 24, .inl (vMc))), (aMt, .inl (cA, 24, .inl (vMt))), (aMn, .inl (cA, 6250, .inl (vMn))), (aMl, .inl (cA, 6250, .inl (vMl))), (aMe, .inl (cA, 4000, .inl (vMe))), (aMo, .inl (cA, 10000, .inl (vMo)))] → va_S A s.heap H locs → lv_has ls 14 [(8, .int x8_99), (7, .int x7_99), (6, .int (vMl r_87.toNatClampNeg)), (5, .int (vMo ((5 * (vMO - 1)) + 4).toNatClampNeg)), (4, .int x4_99), (3, .int (vMo ((5 * (vMO - 1)) + 2).toNatClampNeg)), (2, .int (vMo ((5 * (vMO - 1)) + 1).toNatClampNeg)), (1, .int (vMo (5 * (vMO - 1)).toNatClampNeg)), (0, .ref aM)] → Fv = l_M_one_99 N_ (vMo (5 * (vMO - 1)).toNatClampNeg) (vMo ((5 * (vMO - 1)) + 1).toNatClampNeg) (vMo ((5 * (vMO - 1)) + 2).toNatClampNeg) (vMl r_87.toNatClampNeg) vMP vMh vMi vMc vMt vMn vMl K_ n x4_99 x7_99 x8_99 vMF_99 vMS_99 → ol_M_one_99 N_ (vMo (5 * (vMO - 1)).toNatClampNeg) (vMo ((5 * (vMO - 1)) + 1).toNatClampNeg) (vMo ((5 * (vMO - 1)) + 2).toNatClampNeg) (vMl r_87.toNatClampNeg) vMP vMh vMi vMc vMt vMn vMl Ko_ n x4_99 x7_99 x8_99 vMF_99 vMS_99 → W p l e ({ frames := 3, cells := 0, slots := 0, locals := 71 } : Room) s m (([.ref aM] : List Value).toArray) below meth c H locs 0 0 Qg (F0 m 99 ls []) := by
    intro K_ Ko_ hk n
    induction n with
    | zero => intro x4_99 x7_99 x8_99 vMF_99 vMS_99 H locs ls hP hD hS hl hres ho; exact ho.elim
    | succ n ih =>
      intro x4_99 x7_99 x8_99 vMF_99 vMS_99 H locs ls hP hD hS hl hres ho
      rw [l_M_one_99, s_M_one_99] at hres
      rw [ol_M_one_99, os_M_one_99] at ho
      refine lv_iload hx hb qd_M_one_99 (lv_at hl 0 rfl) ?_
      refine lv_aload_n hx hb qd_M_one_101 rfl (lv_at hl 8 rfl) ?_
      refine va_get (D := (dC, dI)) (ci := 7) (v := .int vMP) (C := qR_M) (T := qT_M) (N := 23) hx hb hg qi_M hown hK hP 0 rfl rfl 1 (by decide) (hg _ mw_575) (fun _ h9 => h9) rfl qd_M_one_102 ?_
      refine lv_icmp_ge (tgt := 313) hx hb qd_M_one_105 (by decide) (fun c_105 => ?_) (fun c_105 => ?_)
      · have hres := hres.trans (if_pos c_105)
        have ho := (if_pos c_105).mp ho
        exact hk x4_99 x7_99 x8_99 vMF_99 vMS_99 H locs ls hP hD hS (lv_sub hl [0, 1, 2, 3, 4, 5, 6, 7, 8] rfl) hres ho
      have hres := hres.trans (if_neg c_105)
      have ho := (if_neg c_105).mp ho
      refine lv_iload hx hb qd_M_one_108 (lv_at hl 1 rfl) ?_
      refine lv_if_ge (tgt := 313) hx hb qd_M_one_110 (by decide) (fun c_110 => ?_) (fun c_110 => ?_)
      · have hres := hres.trans (if_pos c_110)
        have ho := (if_pos c_110).mp ho
        exact hk x4_99 x7_99 x8_99 vMF_99 vMS_99 H locs ls hP hD hS (lv_sub hl [0, 1, 2, 3, 4, 5, 6, 7, 8] rfl) hres ho
      have hres := hres.trans (if_neg c_110)
      have ho := (if_neg c_110).mp ho
      refine lv_aload_n hx hb qd_M_one_113 rfl (lv_at hl 8 rfl) ?_
      refine va_get (D := (dC, dI)) (ci := 7) (v := .ref aMh) (C := qR_M) (T := qT_M) (N := 23) hx hb hg qi_M hown hK hP 0 rfl rfl 2 (by decide) (hg _ mw_576) (fun _ h9 => h9) rfl qd_M_one_114 ?_
      refine lv_iload hx hb qd_M_one_117 (lv_at hl 0 rfl) ?_
      obtain ⟨g_119, ho⟩ := ho
      refine va_iald hx hb hK hP 1 0 rfl rfl g_119 qd_M_one_119 ?_
      refine lv_iload_n hx hb qd_M_one_120 rfl (lv_at hl 7 rfl) ?_
      refine lv_icmp_eq (tgt := 127) hx hb qd_M_one_121 (by decide) (fun c_121 => ?_) (fun c_121 => ?_)
      · have hres := hres.trans (if_pos c_121)
        have ho := (if_pos c_121).mp ho
        refine lv_aload_n hx hb qd_M_one_127 rfl (lv_at hl 8 rfl) ?_
        refine lv_iload hx hb qd_M_one_128 (lv_at hl 0 rfl) ?_
        refine lv_iload_n hx hb qd_M_one_130 rfl (lv_at hl 6 rfl) ?_
        refine lv_iload_n hx hb qd_M_one_131 rfl (lv_at hl 5 rfl) ?_
        obtain ⟨g_132, ho⟩ := ho
        refine xm_Vv (As := [.int x8_99, .int (vMo ((5 * (vMO - 1)) + 1).toNatClampNeg), .int (vMo ((5 * (vMO - 1)) + 2).toNatClampNeg)]) (rest := []) (w1 := fun (u_132 : Int32 × Int32) => [(aM, .inr (7, [.int vMT, .int vMP, .ref aMh, .ref aMi, .ref aMc, .int vMK, .ref aMt, .int vMB, .ref aMn, .ref aMl, .ref aMs, .int vMD, .ref aMd, .int vME, .ref aMe, .int (vMO - 1), .ref aMo, .int u_132.1, .int u_132.2, .ref aMw, .ref aMu, .int vMX, .int vMW])), (aMi, .inl (cA, 72, .inl (vMi)))]) (w2 := fun (u_132 : Int32 × Int32) => [(aM, .inr (7, [.int vMT, .int vMP, .ref aMh, .ref aMi, .ref aMc, .int vMK, .ref aMt, .int vMB, .ref aMn, .ref aMl, .ref aMs, .int vMD, .ref aMd, .int vME, .ref aMe, .int (vMO - 1), .ref aMo, .int u_132.1, .int u_132.2, .ref aMw, .ref aMu, .int vMX, .int vMW])), (aMh, .inl (cA, 24, .inl (vMh))), (aMi, .inl (cA, 72, .inl (vMi))), (aMc, .inl (cA, 24, .inl (vMc))), (aMt, .inl (cA, 24, .inl (vMt))), (aMn, .inl (cA, 6250, .inl (vMn))), (aMl, .inl (cA, 6250, .inl (vMl))), (aMe, .inl (cA, 4000, .inl (vMe))), (aMo, .inl (cA, 10000, .inl (vMo)))]) ⟨hx, hb, hml, hown, hg⟩ (c_M_begin l dC dI cA cZ aM aMh aMi aMc aMt aMn aMl aMs aMd aMe aMo aMw aMu _ vMT vMP vMK vMB vMD vME (vMO - 1) vMF_99 vMS_99 vMX vMW vMi x8_99 (vMo ((5 * (vMO - 1)) + 1).toNatClampNeg) (vMo ((5 * (vMO - 1)) + 2).toNatClampNeg) g_132) (cwV 3 hg (q_gV mw_670 mw_671 mw_775 mw_8 mw_672) rfl rfl rfl qh_M_begin ⟨Nat.le_of_ble_eq_true rfl, Nat.le_of_ble_eq_true rfl⟩) hN hK hP hD hS hA [0, 2] [1, 3, 4, 5, 6, 7, 8] rfl rfl (by decide) (by decide) (by decide) [7, 0, 8, 1, 2, 3, 4, 5, 6] (fun _ => rfl) (by decide) 0 7 rfl rfl rfl hl.1 rfl (Nat.le_of_ble_eq_true rfl) qd_M_one_132 ⟨Nat.zero_le _, Nat.zero_le _⟩ (fun u_132 H locs w_132 hP hD hS => ?_)
        have hP : va_P (dC, dI) vwCl [(aM, .inr (7, [.int vMT, .int vMP, .ref aMh, .ref aMi, .ref aMc, .int vMK, .ref aMt, .int vMB, .ref aMn, .ref aMl, .ref aMs, .int vMD, .ref aMd, .int vME, .ref aMe, .int (vMO - 1), .ref aMo, .int u_132.1, .int u_132.2, .ref aMw, .ref aMu, .int vMX, .int vMW])), (aMh, .inl (cA, 24, .inl (vMh))), (aMi, .inl (cA, 72, .inl (vMi))), (aMc, .inl (cA, 24, .inl (vMc))), (aMt, .inl (cA, 24, .inl (vMt))), (aMn, .inl (cA, 6250, .inl (vMn))), (aMl, .inl (cA, 6250, .inl (vMl))), (aMe, .inl (cA, 4000, .inl (vMe))), (aMo, .inl (cA, 10000, .inl (vMo)))] H := hP
        have hD : va_D A [(aM, .inr (7, [.int vMT, .int vMP, .ref aMh, .ref aMi, .ref aMc, .int vMK, .ref aMt, .int vMB, .ref aMn, .ref aMl, .ref aMs, .int vMD, .ref aMd, .int vME, .ref aMe, .int (vMO - 1), .ref aMo, .int u_132.1, .int u_132.2, .ref aMw, .ref aMu, .int vMX, .int vMW])), (aMh, .inl (cA, 24, .inl (vMh))), (aMi, .inl (cA, 72, .inl (vMi))), (aMc, .inl (cA, 24, .inl (vMc))), (aMt, .inl (cA, 24, .inl (vMt))), (aMn, .inl (cA, 6250, .inl (vMn))), (aMl, .inl (cA, 6250, .inl (vMl))), (aMe, .inl (cA, 4000, .inl (vMe))), (aMo, .inl (cA, 10000, .inl (vMo)))] := hD
        have hres := hres.trans (bd_eq w_132)
        have ho := (bd_eq w_132).mp ho
        refine lv_aload_n hx hb qd_M_one_135 rfl (lv_at hl 8 rfl) ?_
        refine lv_iload hx hb qd_M_one_136 (lv_at hl 0 rfl) ?_
        refine lv_iload_n hx hb qd_M_one_138 rfl (lv_at hl 6 rfl) ?_
        refine lv_iload_n hx hb qd_M_one_139 rfl (lv_at hl 5 rfl) ?_
        obtain ⟨g_140, ho⟩ := ho
        refine xc_V (As := [.int x8_99, .int (vMo ((5 * (vMO - 1)) + 1).toNatClampNeg), .int (vMo ((5 * (vMO - 1)) + 2).toNatClampNeg)]) (rest := []) ⟨hx, hb, hml, hown, hg⟩ (c_M_isParted l dC dI cA cZ aM aMh aMi aMc aMt aMn aMl aMs aMd aMe aMo aMw aMu vMT vMP vMK vMB vMD vME (vMO - 1) u_132.1 u_132.2 vMX vMW vMi x8_99 (vMo ((5 * (vMO - 1)) + 1).toNatClampNeg) (vMo ((5 * (vMO - 1)) + 2).toNatClampNeg) g_140) (cwV 3 hg (q_gV mw_676 mw_677 mw_777 mw_8 mw_678) rfl rfl rfl qh_M_isParted ⟨Nat.le_of_ble_eq_true rfl, Nat.le_of_ble_eq_true rfl⟩) hN hK hP [0, 2] rfl 0 7 rfl rfl rfl hl.1 rfl (Nat.le_of_ble_eq_true rfl) qd_M_one_140 ⟨Nat.zero_le _, Nat.zero_le _⟩ ?_
        refine lv_topi (fun r_140 w_140 => ?_)
        have hres := hres.trans (bd_eq w_140)
        have ho := (bd_eq w_140).mp ho
        refine lv_istore (lv' := [(9, .int r_140), (8, .int x8_99), (7, .int x7_99), (6, .int (vMl r_87.toNatClampNeg)), (5, .int (vMo ((5 * (vMO - 1)) + 4).toNatClampNeg)), (4, .int x4_99), (3, .int (vMo ((5 * (vMO - 1)) + 2).toNatClampNeg)), (2, .int (vMo ((5 * (vMO - 1)) + 1).toNatClampNeg)), (1, .int (vMo (5 * (vMO - 1)).toNatClampNeg)), (0, .ref aM)]) hx hb qd_M_one_143 hl (by decide) rfl (fun ls hl => ?_)
        have L_145 : ∀ (K_ : Int32 → Int32 → Int32 → Int32 → Int32 → Int32 × Int32 × Int32 × Int32 × (Nat → Int32) × (Nat → Int32)) (Ko_ : Int32 → Int32 → Int32 → Int32 → Int32 → Prop) (hk : ∀ (x4_145 : Int32) (x7_145 : Int32) (x9_145 : Int32) (vMF_145 : Int32) (vMS_145 : Int32) (H : Heap) (locs : List Loc) (ls : Array Slot), va_P (dC, dI) vwCl [(aM, .inr (7, [.int vMT, .int vMP, .ref aMh, .ref aMi, .ref aMc, .int vMK, .ref aMt, .int vMB, .ref aMn, .ref aMl, .ref aMs, .int vMD, .ref aMd, .int vME, .ref aMe, .int (vMO - 1), .ref aMo, .int vMF_145, .int vMS_145, .ref aMw, .ref aMu, .int vMX, .int vMW])), (aMh, .inl (cA, 24, .inl (vMh))), (aMi, .inl (cA, 72, .inl (vMi))), (aMc, .inl (cA, 24, .inl (vMc))), (aMt, .inl (cA, 24, .inl (vMt))), (aMn, .inl (cA, 6250, .inl (vMn))), (aMl, .inl (cA, 6250, .inl (vMl))), (aMe, .inl (cA, 4000, .inl (vMe))), (aMo, .inl (cA, 10000, .inl (vMo)))] H → va_D A [(aM, .inr (7, [.int vMT, .int vMP, .ref aMh, .ref aMi, .ref aMc, .int vMK, .ref aMt, .int vMB, .ref aMn, .ref aMl, .ref aMs, .int vMD, .ref aMd, .int vME, .ref aMe, .int (vMO - 1), .ref aMo, .int vMF_145, .int vMS_145, .ref aMw, .ref aMu, .int vMX, .int vMW])), (aMh, .inl (cA, 24, .inl (vMh))), (aMi, .inl (cA, 72, .inl (vMi))), (aMc, .inl (cA, 24, .inl (vMc))), (aMt, .inl (cA, 24, .inl (vMt))), (aMn, .inl (cA, 6250, .inl (vMn))), (aMl, .inl (cA, 6250, .inl (vMl))), (aMe, .inl (cA, 4000, .inl (vMe))), (aMo, .inl (cA, 10000, .inl (vMo)))] → va_S A s.heap H locs → lv_has ls 14 [(9, .int x9_145), (8, .int x8_99), (7, .int x7_145), (6, .int (vMl r_87.toNatClampNeg)), (5, .int (vMo ((5 * (vMO - 1)) + 4).toNatClampNeg)), (4, .int x4_145), (3, .int (vMo ((5 * (vMO - 1)) + 2).toNatClampNeg)), (2, .int (vMo ((5 * (vMO - 1)) + 1).toNatClampNeg)), (1, .int (vMo (5 * (vMO - 1)).toNatClampNeg)), (0, .ref aM)] → Fv = K_ x4_145 x7_145 x9_145 vMF_145 vMS_145 → Ko_ x4_145 x7_145 x9_145 vMF_145 vMS_145 → W p l e ({ frames := 3, cells := 0, slots := 0, locals := 71 } : Room) s m (([.ref aM] : List Value).toArray) below meth c H locs 0 0 Qg (F0 m 307 ls [])) (n : Nat) (x4_145 : Int32) (x7_145 : Int32) (x9_145 : Int32) (vMF_145 : Int32) (vMS_145 : Int32) (H : Heap) (locs : List Loc) (ls : Array Slot), va_P (dC, dI) vwCl [(aM, .inr (7, [.int vMT, .int vMP, .ref aMh, .ref aMi, .ref aMc, .int vMK, .ref aMt, .int vMB, .ref aMn, .ref aMl, .ref aMs, .int vMD, .ref aMd, .int vME, .ref aMe, .int (vMO - 1), .ref aMo, .int vMF_145, .int vMS_145, .ref aMw, .ref aMu, .int vMX, .int vMW])), (aMh, .inl (cA, 24, .inl (vMh))), (aMi, .inl (cA, 72, .inl (vMi))), (aMc, .inl (cA, 24, .inl (vMc))), (aMt, .inl (cA, 24, .inl (vMt))), (aMn, .inl (cA, 6250, .inl (vMn))), (aMl, .inl (cA, 6250, .inl (vMl))), (aMe, .inl (cA, 4000, .inl (vMe))), (aMo, .inl (cA, 10000, .inl (vMo)))] H → va_D A [(aM, .inr (7, [.int vMT, .int vMP, .ref aMh, .ref aMi, .ref aMc, .int vMK, .ref aMt, .int vMB, .ref aMn, .ref aMl, .ref aMs, .int vMD, .ref aMd, .int vME, .ref aMe, .int (vMO - 1), .ref aMo, .int vMF_145, .int vMS_145, .ref aMw, .ref aMu, .int vMX, .int vMW])), (aMh, .inl (cA, 24, .inl (vMh))), (aMi, .inl (cA, 72, .inl (vMi))), (aMc, .inl (cA, 24, .inl (vMc))), (aMt, .inl (cA, 24, .inl (vMt))), (aMn, .inl (cA, 6250, .inl (vMn))), (aMl, .inl (cA, 6250, .inl (vMl))), (aMe, .inl (cA, 4000, .inl (vMe))), (aMo, .inl (cA, 10000, .inl (vMo)))] → va_S A s.heap H locs → lv_has ls 14 [(9, .int x9_145), (8, .int x8_99), (7, .int x7_145), (6, .int (vMl r_87.toNatClampNeg)), (5, .int (vMo ((5 * (vMO - 1)) + 4).toNatClampNeg)), (4, .int x4_145), (3, .int (vMo ((5 * (vMO - 1)) + 2).toNatClampNeg)), (2, .int (vMo ((5 * (vMO - 1)) + 1).toNatClampNeg)), (1, .int (vMo (5 * (vMO - 1)).toNatClampNeg)), (0, .ref aM)] → Fv = l_M_one_145 (vMo ((5 * (vMO - 1)) + 1).toNatClampNeg) (vMo ((5 * (vMO - 1)) + 2).toNatClampNeg) (vMl r_87.toNatClampNeg) x8_99 vMi vMc vMt vMn vMl K_ n x4_145 x7_145 x9_145 vMF_145 vMS_145 → ol_M_one_145 (vMo ((5 * (vMO - 1)) + 1).toNatClampNeg) (vMo ((5 * (vMO - 1)) + 2).toNatClampNeg) (vMl r_87.toNatClampNeg) x8_99 vMi vMc vMt vMn vMl Ko_ n x4_145 x7_145 x9_145 vMF_145 vMS_145 → W p l e ({ frames := 3, cells := 0, slots := 0, locals := 71 } : Room) s m (([.ref aM] : List Value).toArray) below meth c H locs 0 0 Qg (F0 m 145 ls []) := by
          intro K_ Ko_ hk n
          induction n with
          | zero => intro x4_145 x7_145 x9_145 vMF_145 vMS_145 H locs ls hP hD hS hl hres ho; exact ho.elim
          | succ n ih =>
            intro x4_145 x7_145 x9_145 vMF_145 vMS_145 H locs ls hP hD hS hl hres ho
            rw [l_M_one_145, s_M_one_145] at hres
            rw [ol_M_one_145, os_M_one_145] at ho
            refine lv_iload hx hb qd_M_one_145 (lv_at hl 0 rfl) ?_
            refine lv_if_eq (tgt := 307) hx hb qd_M_one_147 (by decide) (fun c_147 => ?_) (fun c_147 => ?_)
            · have hres := hres.trans (if_pos c_147)
              have ho := (if_pos c_147).mp ho
              exact hk x4_145 x7_145 x9_145 vMF_145 vMS_145 H locs ls hP hD hS (lv_sub hl [0, 1, 2, 3, 4, 5, 6, 7, 8, 9] rfl) hres ho
            have hres := hres.trans (if_neg c_147)
            have ho := (if_neg c_147).mp ho
            refine lv_aload_n hx hb qd_M_one_150 rfl (lv_at hl 9 rfl) ?_
            refine lv_iload hx hb qd_M_one_151 (lv_at hl 1 rfl) ?_
            refine lv_iload_n hx hb qd_M_one_153 rfl (lv_at hl 7 rfl) ?_
            refine lv_aload_n hx hb qd_M_one_154 rfl (lv_at hl 9 rfl) ?_
            refine va_get (D := (dC, dI)) (ci := 7) (v := .int vMF_145) (C := qR_M) (T := qT_M) (N := 23) hx hb hg qi_M hown hK hP 0 rfl rfl 17 (by decide) (hg _ mw_591) (fun _ h9 => h9) rfl qd_M_one_155 ?_
            refine lv_aload_n hx hb qd_M_one_158 rfl (lv_at hl 9 rfl) ?_
            refine va_get (D := (dC, dI)) (ci := 7) (v := .int vMS_145) (C := qR_M) (T := qT_M) (N := 23) hx hb hg qi_M hown hK hP 0 rfl rfl 18 (by decide) (hg _ mw_592) (fun _ h9 => h9) rfl qd_M_one_159 ?_
            refine lv_iload_n hx hb qd_M_one_162 rfl (lv_at hl 6 rfl) ?_
            obtain ⟨g_163, ho⟩ := ho
            refine xc_V (As := [.int x8_99, .int (vMo ((5 * (vMO - 1)) + 1).toNatClampNeg), .int vMF_145, .int vMS_145, .int (vMo ((5 * (vMO - 1)) + 2).toNatClampNeg)]) (rest := []) ⟨hx, hb, hml, hown, hg⟩ (c_M_ways l dC dI cA cZ aM aMh aMi aMc aMt aMn aMl aMs aMd aMe aMo aMw aMu vMT vMP vMK vMB vMD vME (vMO - 1) vMF_145 vMS_145 vMX vMW vMi vMt vMn x8_99 (vMo ((5 * (vMO - 1)) + 1).toNatClampNeg) vMF_145 vMS_145 (vMo ((5 * (vMO - 1)) + 2).toNatClampNeg) g_163) (cwV 5 hg (q_gV mw_679 mw_680 mw_778 mw_8 mw_681) rfl rfl rfl qh_M_ways ⟨Nat.le_of_ble_eq_true rfl, Nat.le_of_ble_eq_true rfl⟩) hN hK hP [0, 2, 4, 5] rfl 0 7 rfl rfl rfl hl.1 rfl (Nat.le_of_ble_eq_true rfl) qd_M_one_163 ⟨Nat.zero_le _, Nat.zero_le _⟩ ?_
            refine lv_topi (fun r_163 w_163 => ?_)
            have hres := hres.trans (bd_eq w_163)
            have ho := (bd_eq w_163).mp ho
            refine lv_istore (lv' := [(10, .int r_163), (9, .int x9_145), (8, .int x8_99), (7, .int x7_145), (6, .int (vMl r_87.toNatClampNeg)), (5, .int (vMo ((5 * (vMO - 1)) + 4).toNatClampNeg)), (4, .int x4_145), (3, .int (vMo ((5 * (vMO - 1)) + 2).toNatClampNeg)), (2, .int (vMo ((5 * (vMO - 1)) + 1).toNatClampNeg)), (1, .int (vMo (5 * (vMO - 1)).toNatClampNeg)), (0, .ref aM)]) hx hb qd_M_one_166 hl (by decide) rfl (fun ls hl => ?_)
            refine lv_iload hx hb qd_M_one_168 (lv_at hl 6 rfl) ?_
            refine lv_if_ge (tgt := 202) hx hb qd_M_one_170 (by decide) (fun c_170 => ?_) (fun c_170 => ?_)
            · have hres := hres.trans (if_pos c_170)
              have ho := (if_pos c_170).mp ho
              refine lv_iload hx hb qd_M_one_202 (lv_at hl 6 rfl) ?_
              refine lv_iload hx hb qd_M_one_204 (lv_at hl 0 rfl) ?_
              refine lv_icmp_ge (tgt := 213) hx hb qd_M_one_206 (by decide) (fun c_206 => ?_) (fun c_206 => ?_)
              · have hres := hres.trans (if_pos c_206)
                have ho := (if_pos c_206).mp ho
                refine lv_iconst (v := 0) hx hb qd_M_one_213 (by decide) ?_
                refine lv_istore (lv' := [(11, .int 0), (10, .int r_163), (9, .int x9_145), (8, .int x8_99), (7, .int x7_145), (6, .int (vMl r_87.toNatClampNeg)), (5, .int (vMo ((5 * (vMO - 1)) + 4).toNatClampNeg)), (4, .int x4_145), (3, .int (vMo ((5 * (vMO - 1)) + 2).toNatClampNeg)), (2, .int (vMo ((5 * (vMO - 1)) + 1).toNatClampNeg)), (1, .int (vMo (5 * (vMO - 1)).toNatClampNeg)), (0, .ref aM)]) hx hb qd_M_one_214 hl (by decide) rfl (fun ls hl => ?_)
                refine lv_iload hx hb qd_M_one_216 (lv_at hl 0 rfl) ?_
                refine lv_if_eq (tgt := 226) hx hb qd_M_one_218 (by decide) (fun c_218 => ?_) (fun c_218 => ?_)
                rotate_left
                · exact absurd (by decide) c_218
                refine lv_iconst (v := (-1)) hx hb qd_M_one_226 (by decide) ?_
                refine lv_istore (lv' := [(7, .int ((-1))), (11, .int 0), (10, .int r_163), (9, .int x9_145), (8, .int x8_99), (6, .int (vMl r_87.toNatClampNeg)), (5, .int (vMo ((5 * (vMO - 1)) + 4).toNatClampNeg)), (4, .int x4_145), (3, .int (vMo ((5 * (vMO - 1)) + 2).toNatClampNeg)), (2, .int (vMo ((5 * (vMO - 1)) + 1).toNatClampNeg)), (1, .int (vMo (5 * (vMO - 1)).toNatClampNeg)), (0, .ref aM)]) hx hb qd_M_one_227 hl (by decide) rfl (fun ls hl => ?_)
                refine lv_iload hx hb qd_M_one_229 (lv_at hl 1 rfl) ?_
                refine lv_if_ne (tgt := 239) hx hb qd_M_one_231 (by decide) (fun c_231 => ?_) (fun c_231 => ?_)
                · exact absurd (by decide) c_231
                refine lv_iload hx hb qd_M_one_234 (lv_at hl 7 rfl) ?_
                refine lv_if_ge (tgt := 244) hx hb qd_M_one_236 (by decide) (fun c_236 => ?_) (fun c_236 => ?_)
                rotate_left
                · exact absurd c_170 c_236
                refine lv_iload hx hb qd_M_one_244 (lv_at hl 7 rfl) ?_
                refine lv_iload hx hb qd_M_one_246 (lv_at hl 2 rfl) ?_
                refine lv_isub hx hb qd_M_one_248 ?_
                refine lv_istore (lv' := [(4, .int (x4_145 - r_163)), (7, .int ((-1))), (11, .int 0), (10, .int r_163), (9, .int x9_145), (8, .int x8_99), (6, .int (vMl r_87.toNatClampNeg)), (5, .int (vMo ((5 * (vMO - 1)) + 4).toNatClampNeg)), (3, .int (vMo ((5 * (vMO - 1)) + 2).toNatClampNeg)), (2, .int (vMo ((5 * (vMO - 1)) + 1).toNatClampNeg)), (1, .int (vMo (5 * (vMO - 1)).toNatClampNeg)), (0, .ref aM)]) hx hb qd_M_one_249 hl (by decide) rfl (fun ls hl => ?_)
                refine lv_iload hx hb qd_M_one_251 (lv_at hl 2 rfl) ?_
                refine lv_if_ne (tgt := 260) hx hb qd_M_one_253 (by decide) (fun c_253 => ?_) (fun c_253 => ?_)
                · exact absurd (by decide) c_253
                refine lv_iconst (v := 1) hx hb qd_M_one_256 (by decide) ?_
                refine lv_goto (tgt := 261) hx hb qd_M_one_257 (by decide) ?_
                refine lv_istore (lv' := [(9, .int 1), (4, .int (x4_145 - r_163)), (7, .int ((-1))), (11, .int 0), (10, .int r_163), (8, .int x8_99), (6, .int (vMl r_87.toNatClampNeg)), (5, .int (vMo ((5 * (vMO - 1)) + 4).toNatClampNeg)), (3, .int (vMo ((5 * (vMO - 1)) + 2).toNatClampNeg)), (2, .int (vMo ((5 * (vMO - 1)) + 1).toNatClampNeg)), (1, .int (vMo (5 * (vMO - 1)).toNatClampNeg)), (0, .ref aM)]) hx hb qd_M_one_261 hl (by decide) rfl (fun ls hl => ?_)
                refine lv_iload hx hb qd_M_one_263 (lv_at hl 0 rfl) ?_
                refine lv_if_eq (tgt := 304) hx hb qd_M_one_265 (by decide) (fun c_265 => ?_) (fun c_265 => ?_)
                · exact absurd c_265 (by decide)
                refine lv_aload_n hx hb qd_M_one_268 rfl (lv_at hl 11 rfl) ?_
                refine lv_iload hx hb qd_M_one_269 (lv_at hl 5 rfl) ?_
                refine lv_iload_n hx hb qd_M_one_271 rfl (lv_at hl 9 rfl) ?_
                refine lv_iload_n hx hb qd_M_one_272 rfl (lv_at hl 8 rfl) ?_
                obtain ⟨g_273, ho⟩ := ho
                refine xm_Vv (As := [.int x8_99, .int (vMo ((5 * (vMO - 1)) + 1).toNatClampNeg), .int (vMo ((5 * (vMO - 1)) + 2).toNatClampNeg)]) (rest := []) (w1 := fun (u_273 : Int32 × Int32) => [(aM, .inr (7, [.int vMT, .int vMP, .ref aMh, .ref aMi, .ref aMc, .int vMK, .ref aMt, .int vMB, .ref aMn, .ref aMl, .ref aMs, .int vMD, .ref aMd, .int vME, .ref aMe, .int (vMO - 1), .ref aMo, .int u_273.1, .int u_273.2, .ref aMw, .ref aMu, .int vMX, .int vMW])), (aMi, .inl (cA, 72, .inl (vMi)))]) (w2 := fun (u_273 : Int32 × Int32) => [(aM, .inr (7, [.int vMT, .int vMP, .ref aMh, .ref aMi, .ref aMc, .int vMK, .ref aMt, .int vMB, .ref aMn, .ref aMl, .ref aMs, .int vMD, .ref aMd, .int vME, .ref aMe, .int (vMO - 1), .ref aMo, .int u_273.1, .int u_273.2, .ref aMw, .ref aMu, .int vMX, .int vMW])), (aMh, .inl (cA, 24, .inl (vMh))), (aMi, .inl (cA, 72, .inl (vMi))), (aMc, .inl (cA, 24, .inl (vMc))), (aMt, .inl (cA, 24, .inl (vMt))), (aMn, .inl (cA, 6250, .inl (vMn))), (aMl, .inl (cA, 6250, .inl (vMl))), (aMe, .inl (cA, 4000, .inl (vMe))), (aMo, .inl (cA, 10000, .inl (vMo)))]) ⟨hx, hb, hml, hown, hg⟩ (c_M_goOn l dC dI cA cZ aM aMh aMi aMc aMt aMn aMl aMs aMd aMe aMo aMw aMu _ vMT vMP vMK vMB vMD vME (vMO - 1) vMF_145 vMS_145 vMX vMW vMi x8_99 (vMo ((5 * (vMO - 1)) + 1).toNatClampNeg) (vMo ((5 * (vMO - 1)) + 2).toNatClampNeg) g_273) (cwV 3 hg (q_gV mw_702 mw_703 mw_782 mw_8 mw_704) rfl rfl rfl qh_M_goOn ⟨Nat.le_of_ble_eq_true rfl, Nat.le_of_ble_eq_true rfl⟩) hN hK hP hD hS hA [0, 2] [1, 3, 4, 5, 6, 7, 8] rfl rfl (by decide) (by decide) (by decide) [7, 0, 8, 1, 2, 3, 4, 5, 6] (fun _ => rfl) (by decide) 0 7 rfl rfl rfl hl.1 rfl (Nat.le_of_ble_eq_true rfl) qd_M_one_273 ⟨Nat.zero_le _, Nat.zero_le _⟩ (fun u_273 H locs w_273 hP hD hS => ?_)
                have hP : va_P (dC, dI) vwCl [(aM, .inr (7, [.int vMT, .int vMP, .ref aMh, .ref aMi, .ref aMc, .int vMK, .ref aMt, .int vMB, .ref aMn, .ref aMl, .ref aMs, .int vMD, .ref aMd, .int vME, .ref aMe, .int (vMO - 1), .ref aMo, .int u_273.1, .int u_273.2, .ref aMw, .ref aMu, .int vMX, .int vMW])), (aMh, .inl (cA, 24, .inl (vMh))), (aMi, .inl (cA, 72, .inl (vMi))), (aMc, .inl (cA, 24, .inl (vMc))), (aMt, .inl (cA, 24, .inl (vMt))), (aMn, .inl (cA, 6250, .inl (vMn))), (aMl, .inl (cA, 6250, .inl (vMl))), (aMe, .inl (cA, 4000, .inl (vMe))), (aMo, .inl (cA, 10000, .inl (vMo)))] H := hP
                have hD : va_D A [(aM, .inr (7, [.int vMT, .int vMP, .ref aMh, .ref aMi, .ref aMc, .int vMK, .ref aMt, .int vMB, .ref aMn, .ref aMl, .ref aMs, .int vMD, .ref aMd, .int vME, .ref aMe, .int (vMO - 1), .ref aMo, .int u_273.1, .int u_273.2, .ref aMw, .ref aMu, .int vMX, .int vMW])), (aMh, .inl (cA, 24, .inl (vMh))), (aMi, .inl (cA, 72, .inl (vMi))), (aMc, .inl (cA, 24, .inl (vMc))), (aMt, .inl (cA, 24, .inl (vMt))), (aMn, .inl (cA, 6250, .inl (vMn))), (aMl, .inl (cA, 6250, .inl (vMl))), (aMe, .inl (cA, 4000, .inl (vMe))), (aMo, .inl (cA, 10000, .inl (vMo)))] := hD
                have hres := hres.trans (bd_eq w_273)
                have ho := (bd_eq w_273).mp ho
                refine lv_aload_n hx hb qd_M_one_276 rfl (lv_at hl 11 rfl) ?_
                refine lv_iload hx hb qd_M_one_277 (lv_at hl 5 rfl) ?_
                obtain ⟨g_279, ho⟩ := ho
                refine xc_V (As := [.int x8_99]) (rest := []) ⟨hx, hb, hml, hown, hg⟩ (c_M_length l dC dI cA cZ aM aMh aMi aMc aMt aMn aMl aMs aMd aMe aMo aMw aMu vMT vMP vMK vMB vMD vME (vMO - 1) u_273.1 u_273.2 vMX vMW vMi x8_99 g_279) (cwV 1 hg (q_gV mw_673 mw_674 mw_776 mw_8 mw_675) rfl rfl rfl qh_M_length ⟨Nat.le_of_ble_eq_true rfl, Nat.le_of_ble_eq_true rfl⟩) hN hK hP [0, 2] rfl 0 7 rfl rfl rfl hl.1 rfl (Nat.le_of_ble_eq_true rfl) qd_M_one_279 ⟨Nat.zero_le _, Nat.zero_le _⟩ ?_
                refine lv_topi (fun r_279 w_279 => ?_)
                have hres := hres.trans (bd_eq w_279)
                have ho := (bd_eq w_279).mp ho
                refine lv_iconst (v := 1) hx hb qd_M_one_282 (by decide) ?_
                refine lv_icmp_le (tgt := 301) hx hb qd_M_one_283 (by decide) (fun c_283 => ?_) (fun c_283 => ?_)
                · have hres := hres.trans (if_pos c_283)
                  have ho := (if_pos c_283).mp ho
                  refine lv_iconst (v := 0) hx hb qd_M_one_301 (by decide) ?_
                  refine lv_istore (lv' := [(9, .int 0), (4, .int (x4_145 - r_163)), (7, .int ((-1))), (11, .int 0), (10, .int r_163), (8, .int x8_99), (6, .int (vMl r_87.toNatClampNeg)), (5, .int (vMo ((5 * (vMO - 1)) + 4).toNatClampNeg)), (3, .int (vMo ((5 * (vMO - 1)) + 2).toNatClampNeg)), (2, .int (vMo ((5 * (vMO - 1)) + 1).toNatClampNeg)), (1, .int (vMo (5 * (vMO - 1)).toNatClampNeg)), (0, .ref aM)]) hx hb qd_M_one_302 hl (by decide) rfl (fun ls hl => ?_)
                  refine lv_goto (tgt := 145) hx hb qd_M_one_304 (by decide) ?_
                  exact ih (x4_145 - r_163) ((-1)) 0 u_273.1 u_273.2 H locs ls hP hD hS (lv_sub hl [0, 5, 2, 6, 7, 1, 8, 9, 10, 11] rfl) hres ho
                have hres := hres.trans (if_neg c_283)
                have ho := (if_neg c_283).mp ho
                refine lv_aload_n hx hb qd_M_one_286 rfl (lv_at hl 11 rfl) ?_
                refine lv_iload hx hb qd_M_one_287 (lv_at hl 5 rfl) ?_
                refine lv_iload_n hx hb qd_M_one_289 rfl (lv_at hl 9 rfl) ?_
                refine lv_iload_n hx hb qd_M_one_290 rfl (lv_at hl 8 rfl) ?_
                obtain ⟨g_291, ho⟩ := ho
                refine xc_V (As := [.int x8_99, .int (vMo ((5 * (vMO - 1)) + 1).toNatClampNeg), .int (vMo ((5 * (vMO - 1)) + 2).toNatClampNeg)]) (rest := []) ⟨hx, hb, hml, hown, hg⟩ (c_M_isParted l dC dI cA cZ aM aMh aMi aMc aMt aMn aMl aMs aMd aMe aMo aMw aMu vMT vMP vMK vMB vMD vME (vMO - 1) u_273.1 u_273.2 vMX vMW vMi x8_99 (vMo ((5 * (vMO - 1)) + 1).toNatClampNeg) (vMo ((5 * (vMO - 1)) + 2).toNatClampNeg) g_291) (cwV 3 hg (q_gV mw_676 mw_677 mw_777 mw_8 mw_678) rfl rfl rfl qh_M_isParted ⟨Nat.le_of_ble_eq_true rfl, Nat.le_of_ble_eq_true rfl⟩) hN hK hP [0, 2] rfl 0 7 rfl rfl rfl hl.1 rfl (Nat.le_of_ble_eq_true rfl) qd_M_one_291 ⟨Nat.zero_le _, Nat.zero_le _⟩ ?_
                refine lv_topi (fun r_291 w_291 => ?_)
                have hres := hres.trans (bd_eq w_291)
                have ho := (bd_eq w_291).mp ho
                refine lv_if_eq (tgt := 301) hx hb qd_M_one_294 (by decide) (fun c_294 => ?_) (fun c_294 => ?_)
                · have hres := hres.trans (if_pos c_294)
                  have ho := (if_pos c_294).mp ho
                  refine lv_iconst (v := 0) hx hb qd_M_one_301 (by decide) ?_
                  refine lv_istore (lv' := [(9, .int 0), (4, .int (x4_145 - r_163)), (7, .int ((-1))), (11, .int 0), (10, .int r_163), (8, .int x8_99), (6, .int (vMl r_87.toNatClampNeg)), (5, .int (vMo ((5 * (vMO - 1)) + 4).toNatClampNeg)), (3, .int (vMo ((5 * (vMO - 1)) + 2).toNatClampNeg)), (2, .int (vMo ((5 * (vMO - 1)) + 1).toNatClampNeg)), (1, .int (vMo (5 * (vMO - 1)).toNatClampNeg)), (0, .ref aM)]) hx hb qd_M_one_302 hl (by decide) rfl (fun ls hl => ?_)
                  refine lv_goto (tgt := 145) hx hb qd_M_one_304 (by decide) ?_
                  exact ih (x4_145 - r_163) ((-1)) 0 u_273.1 u_273.2 H locs ls hP hD hS (lv_sub hl [0, 5, 2, 6, 7, 1, 8, 9, 10, 11] rfl) hres ho
                have hres := hres.trans (if_neg c_294)
                have ho := (if_neg c_294).mp ho
                refine lv_iconst (v := 1) hx hb qd_M_one_297 (by decide) ?_
                refine lv_goto (tgt := 302) hx hb qd_M_one_298 (by decide) ?_
                refine lv_istore (lv' := [(9, .int 1), (4, .int (x4_145 - r_163)), (7, .int ((-1))), (11, .int 0), (10, .int r_163), (8, .int x8_99), (6, .int (vMl r_87.toNatClampNeg)), (5, .int (vMo ((5 * (vMO - 1)) + 4).toNatClampNeg)), (3, .int (vMo ((5 * (vMO - 1)) + 2).toNatClampNeg)), (2, .int (vMo ((5 * (vMO - 1)) + 1).toNatClampNeg)), (1, .int (vMo (5 * (vMO - 1)).toNatClampNeg)), (0, .ref aM)]) hx hb qd_M_one_302 hl (by decide) rfl (fun ls hl => ?_)
                refine lv_goto (tgt := 145) hx hb qd_M_one_304 (by decide) ?_
                exact ih (x4_145 - r_163) ((-1)) 1 u_273.1 u_273.2 H locs ls hP hD hS (lv_sub hl [0, 5, 2, 6, 7, 1, 8, 9, 10, 11] rfl) hres ho
              have hres := hres.trans (if_neg c_206)
              have ho := (if_neg c_206).mp ho
              refine lv_iconst (v := 1) hx hb qd_M_one_209 (by decide) ?_
              refine lv_goto (tgt := 214) hx hb qd_M_one_210 (by decide) ?_
              refine lv_istore (lv' := [(11, .int 1), (10, .int r_163), (9, .int x9_145), (8, .int x8_99), (7, .int x7_145), (6, .int (vMl r_87.toNatClampNeg)), (5, .int (vMo ((5 * (vMO - 1)) + 4).toNatClampNeg)), (4, .int x4_145), (3, .int (vMo ((5 * (vMO - 1)) + 2).toNatClampNeg)), (2, .int (vMo ((5 * (vMO - 1)) + 1).toNatClampNeg)), (1, .int (vMo (5 * (vMO - 1)).toNatClampNeg)), (0, .ref aM)]) hx hb qd_M_one_214 hl (by decide) rfl (fun ls hl => ?_)
              refine lv_iload hx hb qd_M_one_216 (lv_at hl 0 rfl) ?_
              refine lv_if_eq (tgt := 226) hx hb qd_M_one_218 (by decide) (fun c_218 => ?_) (fun c_218 => ?_)
              · exact absurd c_218 (by decide)
              refine lv_iload hx hb qd_M_one_221 (lv_at hl 3 rfl) ?_
              refine lv_goto (tgt := 227) hx hb qd_M_one_223 (by decide) ?_
              refine lv_istore (lv' := [(7, .int x8_99), (11, .int 1), (10, .int r_163), (9, .int x9_145), (8, .int x8_99), (6, .int (vMl r_87.toNatClampNeg)), (5, .int (vMo ((5 * (vMO - 1)) + 4).toNatClampNeg)), (4, .int x4_145), (3, .int (vMo ((5 * (vMO - 1)) + 2).toNatClampNeg)), (2, .int (vMo ((5 * (vMO - 1)) + 1).toNatClampNeg)), (1, .int (vMo (5 * (vMO - 1)).toNatClampNeg)), (0, .ref aM)]) hx hb qd_M_one_227 hl (by decide) rfl (fun ls hl => ?_)
              refine lv_iload hx hb qd_M_one_229 (lv_at hl 1 rfl) ?_
              refine lv_if_ne (tgt := 239) hx hb qd_M_one_231 (by decide) (fun c_231 => ?_) (fun c_231 => ?_)
              rotate_left
              · exact absurd c_231 (by decide)
              refine lv_iload hx hb qd_M_one_239 (lv_at hl 7 rfl) ?_
              refine lv_goto (tgt := 249) hx hb qd_M_one_241 (by decide) ?_
              refine lv_istore (lv' := [(4, .int x4_145), (7, .int x8_99), (11, .int 1), (10, .int r_163), (9, .int x9_145), (8, .int x8_99), (6, .int (vMl r_87.toNatClampNeg)), (5, .int (vMo ((5 * (vMO - 1)) + 4).toNatClampNeg)), (3, .int (vMo ((5 * (vMO - 1)) + 2).toNatClampNeg)), (2, .int (vMo ((5 * (vMO - 1)) + 1).toNatClampNeg)), (1, .int (vMo (5 * (vMO - 1)).toNatClampNeg)), (0, .ref aM)]) hx hb qd_M_one_249 hl (by decide) rfl (fun ls hl => ?_)
              refine lv_iload hx hb qd_M_one_251 (lv_at hl 2 rfl) ?_
              refine lv_if_ne (tgt := 260) hx hb qd_M_one_253 (by decide) (fun c_253 => ?_) (fun c_253 => ?_)
              rotate_left
              · exact absurd c_253 (by decide)
              refine lv_iconst (v := 0) hx hb qd_M_one_260 (by decide) ?_
              refine lv_istore (lv' := [(9, .int 0), (4, .int x4_145), (7, .int x8_99), (11, .int 1), (10, .int r_163), (8, .int x8_99), (6, .int (vMl r_87.toNatClampNeg)), (5, .int (vMo ((5 * (vMO - 1)) + 4).toNatClampNeg)), (3, .int (vMo ((5 * (vMO - 1)) + 2).toNatClampNeg)), (2, .int (vMo ((5 * (vMO - 1)) + 1).toNatClampNeg)), (1, .int (vMo (5 * (vMO - 1)).toNatClampNeg)), (0, .ref aM)]) hx hb qd_M_one_261 hl (by decide) rfl (fun ls hl => ?_)
              refine lv_iload hx hb qd_M_one_263 (lv_at hl 0 rfl) ?_
              refine lv_if_eq (tgt := 304) hx hb qd_M_one_265 (by decide) (fun c_265 => ?_) (fun c_265 => ?_)
              rotate_left
              · exact absurd (by decide) c_265
              refine lv_goto (tgt := 145) hx hb qd_M_one_304 (by decide) ?_
              exact ih x4_145 x8_99 0 vMF_145 vMS_145 H locs ls hP hD hS (lv_sub hl [0, 5, 2, 6, 7, 1, 8, 9, 10, 11] rfl) hres ho
            have hres := hres.trans (if_neg c_170)
            have ho := (if_neg c_170).mp ho
            refine lv_aload_n hx hb qd_M_one_173 rfl (lv_at hl 10 rfl) ?_
            refine lv_iload hx hb qd_M_one_174 (lv_at hl 2 rfl) ?_
            refine lv_iload_n hx hb qd_M_one_176 rfl (lv_at hl 8 rfl) ?_
            refine lv_aload_n hx hb qd_M_one_177 rfl (lv_at hl 10 rfl) ?_
            refine va_get (D := (dC, dI)) (ci := 7) (v := .int vMF_145) (C := qR_M) (T := qT_M) (N := 23) hx hb hg qi_M hown hK hP 0 rfl rfl 17 (by decide) (hg _ mw_591) (fun _ h9 => h9) rfl qd_M_one_178 ?_
            refine lv_aload_n hx hb qd_M_one_181 rfl (lv_at hl 10 rfl) ?_
            refine va_get (D := (dC, dI)) (ci := 7) (v := .int vMS_145) (C := qR_M) (T := qT_M) (N := 23) hx hb hg qi_M hown hK hP 0 rfl rfl 18 (by decide) (hg _ mw_592) (fun _ h9 => h9) rfl qd_M_one_182 ?_
            refine lv_iload_n hx hb qd_M_one_185 rfl (lv_at hl 7 rfl) ?_
            obtain ⟨g_186, ho⟩ := ho
            refine xc_V (As := [.int x8_99, .int (vMo ((5 * (vMO - 1)) + 1).toNatClampNeg), .int vMF_145, .int vMS_145, .int (vMo ((5 * (vMO - 1)) + 2).toNatClampNeg)]) (rest := []) ⟨hx, hb, hml, hown, hg⟩ (c_M_price l dC dI cA cZ aM aMh aMi aMc aMt aMn aMl aMs aMd aMe aMo aMw aMu vMT vMP vMK vMB vMD vME (vMO - 1) vMF_145 vMS_145 vMX vMW vMi vMc vMt vMl x8_99 (vMo ((5 * (vMO - 1)) + 1).toNatClampNeg) vMF_145 vMS_145 (vMo ((5 * (vMO - 1)) + 2).toNatClampNeg) g_186) (cwV 5 hg (q_gV mw_693 mw_694 mw_780 mw_8 mw_695) rfl rfl rfl qh_M_price ⟨Nat.le_of_ble_eq_true rfl, Nat.le_of_ble_eq_true rfl⟩) hN hK hP [0, 2, 3, 4, 6] rfl 0 7 rfl rfl rfl hl.1 rfl (Nat.le_of_ble_eq_true rfl) qd_M_one_186 ⟨Nat.zero_le _, Nat.zero_le _⟩ ?_
            refine lv_topi (fun r_186 w_186 => ?_)
            have hres := hres.trans (bd_eq w_186)
            have ho := (bd_eq w_186).mp ho
            refine lv_iload hx hb qd_M_one_189 (lv_at hl 4 rfl) ?_
            refine lv_icmp_ne (tgt := 198) hx hb qd_M_one_191 (by decide) (fun c_191 => ?_) (fun c_191 => ?_)
            · have hres := hres.trans (if_neg c_191)
              have ho := (if_neg c_191).mp ho
              refine lv_iconst (v := 0) hx hb qd_M_one_198 (by decide) ?_
              refine lv_goto (tgt := 214) hx hb qd_M_one_199 (by decide) ?_
              refine lv_istore (lv' := [(11, .int 0), (10, .int r_163), (9, .int x9_145), (8, .int x8_99), (7, .int x7_145), (6, .int (vMl r_87.toNatClampNeg)), (5, .int (vMo ((5 * (vMO - 1)) + 4).toNatClampNeg)), (4, .int x4_145), (3, .int (vMo ((5 * (vMO - 1)) + 2).toNatClampNeg)), (2, .int (vMo ((5 * (vMO - 1)) + 1).toNatClampNeg)), (1, .int (vMo (5 * (vMO - 1)).toNatClampNeg)), (0, .ref aM)]) hx hb qd_M_one_214 hl (by decide) rfl (fun ls hl => ?_)
              refine lv_iload hx hb qd_M_one_216 (lv_at hl 0 rfl) ?_
              refine lv_if_eq (tgt := 226) hx hb qd_M_one_218 (by decide) (fun c_218 => ?_) (fun c_218 => ?_)
              rotate_left
              · exact absurd (by decide) c_218
              refine lv_iconst (v := (-1)) hx hb qd_M_one_226 (by decide) ?_
              refine lv_istore (lv' := [(7, .int ((-1))), (11, .int 0), (10, .int r_163), (9, .int x9_145), (8, .int x8_99), (6, .int (vMl r_87.toNatClampNeg)), (5, .int (vMo ((5 * (vMO - 1)) + 4).toNatClampNeg)), (4, .int x4_145), (3, .int (vMo ((5 * (vMO - 1)) + 2).toNatClampNeg)), (2, .int (vMo ((5 * (vMO - 1)) + 1).toNatClampNeg)), (1, .int (vMo (5 * (vMO - 1)).toNatClampNeg)), (0, .ref aM)]) hx hb qd_M_one_227 hl (by decide) rfl (fun ls hl => ?_)
              refine lv_iload hx hb qd_M_one_229 (lv_at hl 1 rfl) ?_
              refine lv_if_ne (tgt := 239) hx hb qd_M_one_231 (by decide) (fun c_231 => ?_) (fun c_231 => ?_)
              · exact absurd (by decide) c_231
              refine lv_iload hx hb qd_M_one_234 (lv_at hl 7 rfl) ?_
              refine lv_if_ge (tgt := 244) hx hb qd_M_one_236 (by decide) (fun c_236 => ?_) (fun c_236 => ?_)
              · exact absurd c_236 c_170
              refine lv_iload hx hb qd_M_one_239 (lv_at hl 7 rfl) ?_
              refine lv_goto (tgt := 249) hx hb qd_M_one_241 (by decide) ?_
              refine lv_istore (lv' := [(4, .int x4_145), (7, .int ((-1))), (11, .int 0), (10, .int r_163), (9, .int x9_145), (8, .int x8_99), (6, .int (vMl r_87.toNatClampNeg)), (5, .int (vMo ((5 * (vMO - 1)) + 4).toNatClampNeg)), (3, .int (vMo ((5 * (vMO - 1)) + 2).toNatClampNeg)), (2, .int (vMo ((5 * (vMO - 1)) + 1).toNatClampNeg)), (1, .int (vMo (5 * (vMO - 1)).toNatClampNeg)), (0, .ref aM)]) hx hb qd_M_one_249 hl (by decide) rfl (fun ls hl => ?_)
              refine lv_iload hx hb qd_M_one_251 (lv_at hl 2 rfl) ?_
              refine lv_if_ne (tgt := 260) hx hb qd_M_one_253 (by decide) (fun c_253 => ?_) (fun c_253 => ?_)
              · exact absurd (by decide) c_253
              refine lv_iconst (v := 1) hx hb qd_M_one_256 (by decide) ?_
              refine lv_goto (tgt := 261) hx hb qd_M_one_257 (by decide) ?_
              refine lv_istore (lv' := [(9, .int 1), (4, .int x4_145), (7, .int ((-1))), (11, .int 0), (10, .int r_163), (8, .int x8_99), (6, .int (vMl r_87.toNatClampNeg)), (5, .int (vMo ((5 * (vMO - 1)) + 4).toNatClampNeg)), (3, .int (vMo ((5 * (vMO - 1)) + 2).toNatClampNeg)), (2, .int (vMo ((5 * (vMO - 1)) + 1).toNatClampNeg)), (1, .int (vMo (5 * (vMO - 1)).toNatClampNeg)), (0, .ref aM)]) hx hb qd_M_one_261 hl (by decide) rfl (fun ls hl => ?_)
              refine lv_iload hx hb qd_M_one_263 (lv_at hl 0 rfl) ?_
              refine lv_if_eq (tgt := 304) hx hb qd_M_one_265 (by decide) (fun c_265 => ?_) (fun c_265 => ?_)
              · exact absurd c_265 (by decide)
              refine lv_aload_n hx hb qd_M_one_268 rfl (lv_at hl 11 rfl) ?_
              refine lv_iload hx hb qd_M_one_269 (lv_at hl 5 rfl) ?_
              refine lv_iload_n hx hb qd_M_one_271 rfl (lv_at hl 9 rfl) ?_
              refine lv_iload_n hx hb qd_M_one_272 rfl (lv_at hl 8 rfl) ?_
              obtain ⟨g_273, ho⟩ := ho
              refine xm_Vv (As := [.int x8_99, .int (vMo ((5 * (vMO - 1)) + 1).toNatClampNeg), .int (vMo ((5 * (vMO - 1)) + 2).toNatClampNeg)]) (rest := []) (w1 := fun (u_273 : Int32 × Int32) => [(aM, .inr (7, [.int vMT, .int vMP, .ref aMh, .ref aMi, .ref aMc, .int vMK, .ref aMt, .int vMB, .ref aMn, .ref aMl, .ref aMs, .int vMD, .ref aMd, .int vME, .ref aMe, .int (vMO - 1), .ref aMo, .int u_273.1, .int u_273.2, .ref aMw, .ref aMu, .int vMX, .int vMW])), (aMi, .inl (cA, 72, .inl (vMi)))]) (w2 := fun (u_273 : Int32 × Int32) => [(aM, .inr (7, [.int vMT, .int vMP, .ref aMh, .ref aMi, .ref aMc, .int vMK, .ref aMt, .int vMB, .ref aMn, .ref aMl, .ref aMs, .int vMD, .ref aMd, .int vME, .ref aMe, .int (vMO - 1), .ref aMo, .int u_273.1, .int u_273.2, .ref aMw, .ref aMu, .int vMX, .int vMW])), (aMh, .inl (cA, 24, .inl (vMh))), (aMi, .inl (cA, 72, .inl (vMi))), (aMc, .inl (cA, 24, .inl (vMc))), (aMt, .inl (cA, 24, .inl (vMt))), (aMn, .inl (cA, 6250, .inl (vMn))), (aMl, .inl (cA, 6250, .inl (vMl))), (aMe, .inl (cA, 4000, .inl (vMe))), (aMo, .inl (cA, 10000, .inl (vMo)))]) ⟨hx, hb, hml, hown, hg⟩ (c_M_goOn l dC dI cA cZ aM aMh aMi aMc aMt aMn aMl aMs aMd aMe aMo aMw aMu _ vMT vMP vMK vMB vMD vME (vMO - 1) vMF_145 vMS_145 vMX vMW vMi x8_99 (vMo ((5 * (vMO - 1)) + 1).toNatClampNeg) (vMo ((5 * (vMO - 1)) + 2).toNatClampNeg) g_273) (cwV 3 hg (q_gV mw_702 mw_703 mw_782 mw_8 mw_704) rfl rfl rfl qh_M_goOn ⟨Nat.le_of_ble_eq_true rfl, Nat.le_of_ble_eq_true rfl⟩) hN hK hP hD hS hA [0, 2] [1, 3, 4, 5, 6, 7, 8] rfl rfl (by decide) (by decide) (by decide) [7, 0, 8, 1, 2, 3, 4, 5, 6] (fun _ => rfl) (by decide) 0 7 rfl rfl rfl hl.1 rfl (Nat.le_of_ble_eq_true rfl) qd_M_one_273 ⟨Nat.zero_le _, Nat.zero_le _⟩ (fun u_273 H locs w_273 hP hD hS => ?_)
              have hP : va_P (dC, dI) vwCl [(aM, .inr (7, [.int vMT, .int vMP, .ref aMh, .ref aMi, .ref aMc, .int vMK, .ref aMt, .int vMB, .ref aMn, .ref aMl, .ref aMs, .int vMD, .ref aMd, .int vME, .ref aMe, .int (vMO - 1), .ref aMo, .int u_273.1, .int u_273.2, .ref aMw, .ref aMu, .int vMX, .int vMW])), (aMh, .inl (cA, 24, .inl (vMh))), (aMi, .inl (cA, 72, .inl (vMi))), (aMc, .inl (cA, 24, .inl (vMc))), (aMt, .inl (cA, 24, .inl (vMt))), (aMn, .inl (cA, 6250, .inl (vMn))), (aMl, .inl (cA, 6250, .inl (vMl))), (aMe, .inl (cA, 4000, .inl (vMe))), (aMo, .inl (cA, 10000, .inl (vMo)))] H := hP
              have hD : va_D A [(aM, .inr (7, [.int vMT, .int vMP, .ref aMh, .ref aMi, .ref aMc, .int vMK, .ref aMt, .int vMB, .ref aMn, .ref aMl, .ref aMs, .int vMD, .ref aMd, .int vME, .ref aMe, .int (vMO - 1), .ref aMo, .int u_273.1, .int u_273.2, .ref aMw, .ref aMu, .int vMX, .int vMW])), (aMh, .inl (cA, 24, .inl (vMh))), (aMi, .inl (cA, 72, .inl (vMi))), (aMc, .inl (cA, 24, .inl (vMc))), (aMt, .inl (cA, 24, .inl (vMt))), (aMn, .inl (cA, 6250, .inl (vMn))), (aMl, .inl (cA, 6250, .inl (vMl))), (aMe, .inl (cA, 4000, .inl (vMe))), (aMo, .inl (cA, 10000, .inl (vMo)))] := hD
              have hres := hres.trans (bd_eq w_273)
              have ho := (bd_eq w_273).mp ho
              refine lv_aload_n hx hb qd_M_one_276 rfl (lv_at hl 11 rfl) ?_
              refine lv_iload hx hb qd_M_one_277 (lv_at hl 5 rfl) ?_
              obtain ⟨g_279, ho⟩ := ho
              refine xc_V (As := [.int x8_99]) (rest := []) ⟨hx, hb, hml, hown, hg⟩ (c_M_length l dC dI cA cZ aM aMh aMi aMc aMt aMn aMl aMs aMd aMe aMo aMw aMu vMT vMP vMK vMB vMD vME (vMO - 1) u_273.1 u_273.2 vMX vMW vMi x8_99 g_279) (cwV 1 hg (q_gV mw_673 mw_674 mw_776 mw_8 mw_675) rfl rfl rfl qh_M_length ⟨Nat.le_of_ble_eq_true rfl, Nat.le_of_ble_eq_true rfl⟩) hN hK hP [0, 2] rfl 0 7 rfl rfl rfl hl.1 rfl (Nat.le_of_ble_eq_true rfl) qd_M_one_279 ⟨Nat.zero_le _, Nat.zero_le _⟩ ?_
              refine lv_topi (fun r_279 w_279 => ?_)
              have hres := hres.trans (bd_eq w_279)
              have ho := (bd_eq w_279).mp ho
              refine lv_iconst (v := 1) hx hb qd_M_one_282 (by decide) ?_
              refine lv_icmp_le (tgt := 301) hx hb qd_M_one_283 (by decide) (fun c_283 => ?_) (fun c_283 => ?_)
              · have hres := hres.trans (if_pos c_283)
                have ho := (if_pos c_283).mp ho
                refine lv_iconst (v := 0) hx hb qd_M_one_301 (by decide) ?_
                refine lv_istore (lv' := [(9, .int 0), (4, .int x4_145), (7, .int ((-1))), (11, .int 0), (10, .int r_163), (8, .int x8_99), (6, .int (vMl r_87.toNatClampNeg)), (5, .int (vMo ((5 * (vMO - 1)) + 4).toNatClampNeg)), (3, .int (vMo ((5 * (vMO - 1)) + 2).toNatClampNeg)), (2, .int (vMo ((5 * (vMO - 1)) + 1).toNatClampNeg)), (1, .int (vMo (5 * (vMO - 1)).toNatClampNeg)), (0, .ref aM)]) hx hb qd_M_one_302 hl (by decide) rfl (fun ls hl => ?_)
                refine lv_goto (tgt := 145) hx hb qd_M_one_304 (by decide) ?_
                exact ih x4_145 ((-1)) 0 u_273.1 u_273.2 H locs ls hP hD hS (lv_sub hl [0, 5, 2, 6, 7, 1, 8, 9, 10, 11] rfl) hres ho
              have hres := hres.trans (if_neg c_283)
              have ho := (if_neg c_283).mp ho
              refine lv_aload_n hx hb qd_M_one_286 rfl (lv_at hl 11 rfl) ?_
              refine lv_iload hx hb qd_M_one_287 (lv_at hl 5 rfl) ?_
              refine lv_iload_n hx hb qd_M_one_289 rfl (lv_at hl 9 rfl) ?_
              refine lv_iload_n hx hb qd_M_one_290 rfl (lv_at hl 8 rfl) ?_
              obtain ⟨g_291, ho⟩ := ho
              refine xc_V (As := [.int x8_99, .int (vMo ((5 * (vMO - 1)) + 1).toNatClampNeg), .int (vMo ((5 * (vMO - 1)) + 2).toNatClampNeg)]) (rest := []) ⟨hx, hb, hml, hown, hg⟩ (c_M_isParted l dC dI cA cZ aM aMh aMi aMc aMt aMn aMl aMs aMd aMe aMo aMw aMu vMT vMP vMK vMB vMD vME (vMO - 1) u_273.1 u_273.2 vMX vMW vMi x8_99 (vMo ((5 * (vMO - 1)) + 1).toNatClampNeg) (vMo ((5 * (vMO - 1)) + 2).toNatClampNeg) g_291) (cwV 3 hg (q_gV mw_676 mw_677 mw_777 mw_8 mw_678) rfl rfl rfl qh_M_isParted ⟨Nat.le_of_ble_eq_true rfl, Nat.le_of_ble_eq_true rfl⟩) hN hK hP [0, 2] rfl 0 7 rfl rfl rfl hl.1 rfl (Nat.le_of_ble_eq_true rfl) qd_M_one_291 ⟨Nat.zero_le _, Nat.zero_le _⟩ ?_
              refine lv_topi (fun r_291 w_291 => ?_)
              have hres := hres.trans (bd_eq w_291)
              have ho := (bd_eq w_291).mp ho
              refine lv_if_eq (tgt := 301) hx hb qd_M_one_294 (by decide) (fun c_294 => ?_) (fun c_294 => ?_)
              · have hres := hres.trans (if_pos c_294)
                have ho := (if_pos c_294).mp ho
                refine lv_iconst (v := 0) hx hb qd_M_one_301 (by decide) ?_
                refine lv_istore (lv' := [(9, .int 0), (4, .int x4_145), (7, .int ((-1))), (11, .int 0), (10, .int r_163), (8, .int x8_99), (6, .int (vMl r_87.toNatClampNeg)), (5, .int (vMo ((5 * (vMO - 1)) + 4).toNatClampNeg)), (3, .int (vMo ((5 * (vMO - 1)) + 2).toNatClampNeg)), (2, .int (vMo ((5 * (vMO - 1)) + 1).toNatClampNeg)), (1, .int (vMo (5 * (vMO - 1)).toNatClampNeg)), (0, .ref aM)]) hx hb qd_M_one_302 hl (by decide) rfl (fun ls hl => ?_)
                refine lv_goto (tgt := 145) hx hb qd_M_one_304 (by decide) ?_
                exact ih x4_145 ((-1)) 0 u_273.1 u_273.2 H locs ls hP hD hS (lv_sub hl [0, 5, 2, 6, 7, 1, 8, 9, 10, 11] rfl) hres ho
              have hres := hres.trans (if_neg c_294)
              have ho := (if_neg c_294).mp ho
              refine lv_iconst (v := 1) hx hb qd_M_one_297 (by decide) ?_
              refine lv_goto (tgt := 302) hx hb qd_M_one_298 (by decide) ?_
              refine lv_istore (lv' := [(9, .int 1), (4, .int x4_145), (7, .int ((-1))), (11, .int 0), (10, .int r_163), (8, .int x8_99), (6, .int (vMl r_87.toNatClampNeg)), (5, .int (vMo ((5 * (vMO - 1)) + 4).toNatClampNeg)), (3, .int (vMo ((5 * (vMO - 1)) + 2).toNatClampNeg)), (2, .int (vMo ((5 * (vMO - 1)) + 1).toNatClampNeg)), (1, .int (vMo (5 * (vMO - 1)).toNatClampNeg)), (0, .ref aM)]) hx hb qd_M_one_302 hl (by decide) rfl (fun ls hl => ?_)
              refine lv_goto (tgt := 145) hx hb qd_M_one_304 (by decide) ?_
              exact ih x4_145 ((-1)) 1 u_273.1 u_273.2 H locs ls hP hD hS (lv_sub hl [0, 5, 2, 6, 7, 1, 8, 9, 10, 11] rfl) hres ho
            have hres := hres.trans (if_pos c_191)
            have ho := (if_pos c_191).mp ho
            refine lv_iconst (v := 1) hx hb qd_M_one_194 (by decide) ?_
            refine lv_goto (tgt := 214) hx hb qd_M_one_195 (by decide) ?_
            refine lv_istore (lv' := [(11, .int 1), (10, .int r_163), (9, .int x9_145), (8, .int x8_99), (7, .int x7_145), (6, .int (vMl r_87.toNatClampNeg)), (5, .int (vMo ((5 * (vMO - 1)) + 4).toNatClampNeg)), (4, .int x4_145), (3, .int (vMo ((5 * (vMO - 1)) + 2).toNatClampNeg)), (2, .int (vMo ((5 * (vMO - 1)) + 1).toNatClampNeg)), (1, .int (vMo (5 * (vMO - 1)).toNatClampNeg)), (0, .ref aM)]) hx hb qd_M_one_214 hl (by decide) rfl (fun ls hl => ?_)
            refine lv_iload hx hb qd_M_one_216 (lv_at hl 0 rfl) ?_
            refine lv_if_eq (tgt := 226) hx hb qd_M_one_218 (by decide) (fun c_218 => ?_) (fun c_218 => ?_)
            · exact absurd c_218 (by decide)
            refine lv_iload hx hb qd_M_one_221 (lv_at hl 3 rfl) ?_
            refine lv_goto (tgt := 227) hx hb qd_M_one_223 (by decide) ?_
            refine lv_istore (lv' := [(7, .int x8_99), (11, .int 1), (10, .int r_163), (9, .int x9_145), (8, .int x8_99), (6, .int (vMl r_87.toNatClampNeg)), (5, .int (vMo ((5 * (vMO - 1)) + 4).toNatClampNeg)), (4, .int x4_145), (3, .int (vMo ((5 * (vMO - 1)) + 2).toNatClampNeg)), (2, .int (vMo ((5 * (vMO - 1)) + 1).toNatClampNeg)), (1, .int (vMo (5 * (vMO - 1)).toNatClampNeg)), (0, .ref aM)]) hx hb qd_M_one_227 hl (by decide) rfl (fun ls hl => ?_)
            refine lv_iload hx hb qd_M_one_229 (lv_at hl 1 rfl) ?_
            refine lv_if_ne (tgt := 239) hx hb qd_M_one_231 (by decide) (fun c_231 => ?_) (fun c_231 => ?_)
            rotate_left
            · exact absurd c_231 (by decide)
            refine lv_iload hx hb qd_M_one_239 (lv_at hl 7 rfl) ?_
            refine lv_goto (tgt := 249) hx hb qd_M_one_241 (by decide) ?_
            refine lv_istore (lv' := [(4, .int x4_145), (7, .int x8_99), (11, .int 1), (10, .int r_163), (9, .int x9_145), (8, .int x8_99), (6, .int (vMl r_87.toNatClampNeg)), (5, .int (vMo ((5 * (vMO - 1)) + 4).toNatClampNeg)), (3, .int (vMo ((5 * (vMO - 1)) + 2).toNatClampNeg)), (2, .int (vMo ((5 * (vMO - 1)) + 1).toNatClampNeg)), (1, .int (vMo (5 * (vMO - 1)).toNatClampNeg)), (0, .ref aM)]) hx hb qd_M_one_249 hl (by decide) rfl (fun ls hl => ?_)
            refine lv_iload hx hb qd_M_one_251 (lv_at hl 2 rfl) ?_
            refine lv_if_ne (tgt := 260) hx hb qd_M_one_253 (by decide) (fun c_253 => ?_) (fun c_253 => ?_)
            rotate_left
            · exact absurd c_253 (by decide)
            refine lv_iconst (v := 0) hx hb qd_M_one_260 (by decide) ?_
            refine lv_istore (lv' := [(9, .int 0), (4, .int x4_145), (7, .int x8_99), (11, .int 1), (10, .int r_163), (8, .int x8_99), (6, .int (vMl r_87.toNatClampNeg)), (5, .int (vMo ((5 * (vMO - 1)) + 4).toNatClampNeg)), (3, .int (vMo ((5 * (vMO - 1)) + 2).toNatClampNeg)), (2, .int (vMo ((5 * (vMO - 1)) + 1).toNatClampNeg)), (1, .int (vMo (5 * (vMO - 1)).toNatClampNeg)), (0, .ref aM)]) hx hb qd_M_one_261 hl (by decide) rfl (fun ls hl => ?_)
            refine lv_iload hx hb qd_M_one_263 (lv_at hl 0 rfl) ?_
            refine lv_if_eq (tgt := 304) hx hb qd_M_one_265 (by decide) (fun c_265 => ?_) (fun c_265 => ?_)
            rotate_left
            · exact absurd (by decide) c_265
            refine lv_goto (tgt := 145) hx hb qd_M_one_304 (by decide) ?_
            exact ih x4_145 x8_99 0 vMF_145 vMS_145 H locs ls hP hD hS (lv_sub hl [0, 5, 2, 6, 7, 1, 8, 9, 10, 11] rfl) hres ho
        refine L_145 _ _ (fun x4_145 x7_145 x9_145 vMF_145 vMS_145 H locs ls hP hD hS hl hres ho => ?_) _ _ _ _ _ _ _ _ ls hP hD hS hl hres ho
        refine lv_iinc (v := x8_99 + 1) (lv' := [(8, .int (x8_99 + 1)), (9, .int x9_145), (7, .int x7_145), (6, .int (vMl r_87.toNatClampNeg)), (5, .int (vMo ((5 * (vMO - 1)) + 4).toNatClampNeg)), (4, .int x4_145), (3, .int (vMo ((5 * (vMO - 1)) + 2).toNatClampNeg)), (2, .int (vMo ((5 * (vMO - 1)) + 1).toNatClampNeg)), (1, .int (vMo (5 * (vMO - 1)).toNatClampNeg)), (0, .ref aM)]) hx hb qd_M_one_307 hl (k := 1) rfl (congrArg (fun z => _ + z) (by decide)) (by decide) rfl (fun ls hl => ?_)
        refine lv_goto (tgt := 99) hx hb qd_M_one_310 (by decide) ?_
        exact ih x4_145 x7_145 (x8_99 + 1) vMF_145 vMS_145 H locs ls hP hD hS (lv_sub hl [0, 2, 3, 4, 5, 6, 7, 8, 9] rfl) hres ho
      have hres := hres.trans (if_neg c_121)
      have ho := (if_neg c_121).mp ho
      refine lv_goto (tgt := 307) hx hb qd_M_one_124 (by decide) ?_
      refine lv_iinc (v := x8_99 + 1) (lv' := [(8, .int (x8_99 + 1)), (7, .int x7_99), (6, .int (vMl r_87.toNatClampNeg)), (5, .int (vMo ((5 * (vMO - 1)) + 4).toNatClampNeg)), (4, .int x4_99), (3, .int (vMo ((5 * (vMO - 1)) + 2).toNatClampNeg)), (2, .int (vMo ((5 * (vMO - 1)) + 1).toNatClampNeg)), (1, .int (vMo (5 * (vMO - 1)).toNatClampNeg)), (0, .ref aM)]) hx hb qd_M_one_307 hl (k := 0) rfl (congrArg (fun z => _ + z) (by decide)) (by decide) rfl (fun ls hl => ?_)
      refine lv_goto (tgt := 99) hx hb qd_M_one_310 (by decide) ?_
      exact ih x4_99 x7_99 (x8_99 + 1) vMF_99 vMS_99 H locs ls hP hD hS (lv_sub hl [0, 1, 2, 3, 4, 5, 6, 7, 8] rfl) hres ho
  refine L_99 _ _ (fun x4_99 x7_99 x8_99 vMF_99 vMS_99 H locs ls hP hD hS hl hres ho => ?_) _ _ _ _ _ _ _ _ ls hP hD hS hl hres ho
  refine lv_aload_n hx hb qd_M_one_313 rfl (lv_at hl 8 rfl) ?_
  refine va_get (D := (dC, dI)) (ci := 7) (v := .ref aMe) (C := qR_M) (T := qT_M) (N := 23) hx hb hg qi_M hown hK hP 0 rfl rfl 14 (by decide) (hg _ mw_588) (fun _ h9 => h9) rfl qd_M_one_314 ?_
  refine lv_iconst (v := 4) hx hb qd_M_one_317 (by decide) ?_
  refine lv_aload_n hx hb qd_M_one_318 rfl (lv_at hl 8 rfl) ?_
  refine va_get (D := (dC, dI)) (ci := 7) (v := .int vME) (C := qR_M) (T := qT_M) (N := 23) hx hb hg qi_M hown hK hP 0 rfl rfl 13 (by decide) (hg _ mw_587) (fun _ h9 => h9) rfl qd_M_one_319 ?_
  refine lv_imul hx hb qd_M_one_322 ?_
  refine lv_iload hx hb qd_M_one_323 (lv_at hl 1 rfl) ?_
  obtain ⟨g_325, ho⟩ := ho
  refine va_iast hx hb hK hP hD hS 7 0 rfl rfl g_325 qd_M_one_325 (fun H locs hP hD hS => ?_)
  have hP : va_P (dC, dI) vwCl [(aM, .inr (7, [.int vMT, .int vMP, .ref aMh, .ref aMi, .ref aMc, .int vMK, .ref aMt, .int vMB, .ref aMn, .ref aMl, .ref aMs, .int vMD, .ref aMd, .int vME, .ref aMe, .int (vMO - 1), .ref aMo, .int vMF_99, .int vMS_99, .ref aMw, .ref aMu, .int vMX, .int vMW])), (aMh, .inl (cA, 24, .inl (vMh))), (aMi, .inl (cA, 72, .inl (vMi))), (aMc, .inl (cA, 24, .inl (vMc))), (aMt, .inl (cA, 24, .inl (vMt))), (aMn, .inl (cA, 6250, .inl (vMn))), (aMl, .inl (cA, 6250, .inl (vMl))), (aMe, .inl (cA, 4000, .inl (upd vMe (4 * vME).toNatClampNeg x7_99))), (aMo, .inl (cA, 10000, .inl (vMo)))] H := hP
  have hD : va_D A [(aM, .inr (7, [.int vMT, .int vMP, .ref aMh, .ref aMi, .ref aMc, .int vMK, .ref aMt, .int vMB, .ref aMn, .ref aMl, .ref aMs, .int vMD, .ref aMd, .int vME, .ref aMe, .int (vMO - 1), .ref aMo, .int vMF_99, .int vMS_99, .ref aMw, .ref aMu, .int vMX, .int vMW])), (aMh, .inl (cA, 24, .inl (vMh))), (aMi, .inl (cA, 72, .inl (vMi))), (aMc, .inl (cA, 24, .inl (vMc))), (aMt, .inl (cA, 24, .inl (vMt))), (aMn, .inl (cA, 6250, .inl (vMn))), (aMl, .inl (cA, 6250, .inl (vMl))), (aMe, .inl (cA, 4000, .inl (upd vMe (4 * vME).toNatClampNeg x7_99))), (aMo, .inl (cA, 10000, .inl (vMo)))] := hD
  refine lv_aload_n hx hb qd_M_one_326 rfl (lv_at hl 8 rfl) ?_
  refine va_get (D := (dC, dI)) (ci := 7) (v := .ref aMe) (C := qR_M) (T := qT_M) (N := 23) hx hb hg qi_M hown hK hP 0 rfl rfl 14 (by decide) (hg _ mw_588) (fun _ h9 => h9) rfl qd_M_one_327 ?_
  refine lv_iconst (v := 4) hx hb qd_M_one_330 (by decide) ?_
  refine lv_aload_n hx hb qd_M_one_331 rfl (lv_at hl 8 rfl) ?_
  refine va_get (D := (dC, dI)) (ci := 7) (v := .int vME) (C := qR_M) (T := qT_M) (N := 23) hx hb hg qi_M hown hK hP 0 rfl rfl 13 (by decide) (hg _ mw_587) (fun _ h9 => h9) rfl qd_M_one_332 ?_
  refine lv_imul hx hb qd_M_one_335 ?_
  refine lv_iconst (v := 1) hx hb qd_M_one_336 (by decide) ?_
  refine lv_iadd hx hb qd_M_one_337 ?_
  refine lv_iload_n hx hb qd_M_one_338 rfl (lv_at hl 6 rfl) ?_
  obtain ⟨g_339, ho⟩ := ho
  refine va_iast hx hb hK hP hD hS 7 0 rfl rfl g_339 qd_M_one_339 (fun H locs hP hD hS => ?_)
  have hP : va_P (dC, dI) vwCl [(aM, .inr (7, [.int vMT, .int vMP, .ref aMh, .ref aMi, .ref aMc, .int vMK, .ref aMt, .int vMB, .ref aMn, .ref aMl, .ref aMs, .int vMD, .ref aMd, .int vME, .ref aMe, .int (vMO - 1), .ref aMo, .int vMF_99, .int vMS_99, .ref aMw, .ref aMu, .int vMX, .int vMW])), (aMh, .inl (cA, 24, .inl (vMh))), (aMi, .inl (cA, 72, .inl (vMi))), (aMc, .inl (cA, 24, .inl (vMc))), (aMt, .inl (cA, 24, .inl (vMt))), (aMn, .inl (cA, 6250, .inl (vMn))), (aMl, .inl (cA, 6250, .inl (vMl))), (aMe, .inl (cA, 4000, .inl (upd (upd vMe (4 * vME).toNatClampNeg x7_99) ((4 * vME) + 1).toNatClampNeg (vMo ((5 * (vMO - 1)) + 1).toNatClampNeg)))), (aMo, .inl (cA, 10000, .inl (vMo)))] H := hP
  have hD : va_D A [(aM, .inr (7, [.int vMT, .int vMP, .ref aMh, .ref aMi, .ref aMc, .int vMK, .ref aMt, .int vMB, .ref aMn, .ref aMl, .ref aMs, .int vMD, .ref aMd, .int vME, .ref aMe, .int (vMO - 1), .ref aMo, .int vMF_99, .int vMS_99, .ref aMw, .ref aMu, .int vMX, .int vMW])), (aMh, .inl (cA, 24, .inl (vMh))), (aMi, .inl (cA, 72, .inl (vMi))), (aMc, .inl (cA, 24, .inl (vMc))), (aMt, .inl (cA, 24, .inl (vMt))), (aMn, .inl (cA, 6250, .inl (vMn))), (aMl, .inl (cA, 6250, .inl (vMl))), (aMe, .inl (cA, 4000, .inl (upd (upd vMe (4 * vME).toNatClampNeg x7_99) ((4 * vME) + 1).toNatClampNeg (vMo ((5 * (vMO - 1)) + 1).toNatClampNeg)))), (aMo, .inl (cA, 10000, .inl (vMo)))] := hD
  refine lv_aload_n hx hb qd_M_one_340 rfl (lv_at hl 8 rfl) ?_
  refine va_get (D := (dC, dI)) (ci := 7) (v := .ref aMe) (C := qR_M) (T := qT_M) (N := 23) hx hb hg qi_M hown hK hP 0 rfl rfl 14 (by decide) (hg _ mw_588) (fun _ h9 => h9) rfl qd_M_one_341 ?_
  refine lv_iconst (v := 4) hx hb qd_M_one_344 (by decide) ?_
  refine lv_aload_n hx hb qd_M_one_345 rfl (lv_at hl 8 rfl) ?_
  refine va_get (D := (dC, dI)) (ci := 7) (v := .int vME) (C := qR_M) (T := qT_M) (N := 23) hx hb hg qi_M hown hK hP 0 rfl rfl 13 (by decide) (hg _ mw_587) (fun _ h9 => h9) rfl qd_M_one_346 ?_
  refine lv_imul hx hb qd_M_one_349 ?_
  refine lv_iconst (v := 2) hx hb qd_M_one_350 (by decide) ?_
  refine lv_iadd hx hb qd_M_one_351 ?_
  refine lv_iload_n hx hb qd_M_one_352 rfl (lv_at hl 5 rfl) ?_
  obtain ⟨g_353, ho⟩ := ho
  refine va_iast hx hb hK hP hD hS 7 0 rfl rfl g_353 qd_M_one_353 (fun H locs hP hD hS => ?_)
  have hP : va_P (dC, dI) vwCl [(aM, .inr (7, [.int vMT, .int vMP, .ref aMh, .ref aMi, .ref aMc, .int vMK, .ref aMt, .int vMB, .ref aMn, .ref aMl, .ref aMs, .int vMD, .ref aMd, .int vME, .ref aMe, .int (vMO - 1), .ref aMo, .int vMF_99, .int vMS_99, .ref aMw, .ref aMu, .int vMX, .int vMW])), (aMh, .inl (cA, 24, .inl (vMh))), (aMi, .inl (cA, 72, .inl (vMi))), (aMc, .inl (cA, 24, .inl (vMc))), (aMt, .inl (cA, 24, .inl (vMt))), (aMn, .inl (cA, 6250, .inl (vMn))), (aMl, .inl (cA, 6250, .inl (vMl))), (aMe, .inl (cA, 4000, .inl (upd (upd (upd vMe (4 * vME).toNatClampNeg x7_99) ((4 * vME) + 1).toNatClampNeg (vMo ((5 * (vMO - 1)) + 1).toNatClampNeg)) ((4 * vME) + 2).toNatClampNeg (vMo ((5 * (vMO - 1)) + 2).toNatClampNeg)))), (aMo, .inl (cA, 10000, .inl (vMo)))] H := hP
  have hD : va_D A [(aM, .inr (7, [.int vMT, .int vMP, .ref aMh, .ref aMi, .ref aMc, .int vMK, .ref aMt, .int vMB, .ref aMn, .ref aMl, .ref aMs, .int vMD, .ref aMd, .int vME, .ref aMe, .int (vMO - 1), .ref aMo, .int vMF_99, .int vMS_99, .ref aMw, .ref aMu, .int vMX, .int vMW])), (aMh, .inl (cA, 24, .inl (vMh))), (aMi, .inl (cA, 72, .inl (vMi))), (aMc, .inl (cA, 24, .inl (vMc))), (aMt, .inl (cA, 24, .inl (vMt))), (aMn, .inl (cA, 6250, .inl (vMn))), (aMl, .inl (cA, 6250, .inl (vMl))), (aMe, .inl (cA, 4000, .inl (upd (upd (upd vMe (4 * vME).toNatClampNeg x7_99) ((4 * vME) + 1).toNatClampNeg (vMo ((5 * (vMO - 1)) + 1).toNatClampNeg)) ((4 * vME) + 2).toNatClampNeg (vMo ((5 * (vMO - 1)) + 2).toNatClampNeg)))), (aMo, .inl (cA, 10000, .inl (vMo)))] := hD
  refine lv_aload_n hx hb qd_M_one_354 rfl (lv_at hl 8 rfl) ?_
  refine va_get (D := (dC, dI)) (ci := 7) (v := .ref aMe) (C := qR_M) (T := qT_M) (N := 23) hx hb hg qi_M hown hK hP 0 rfl rfl 14 (by decide) (hg _ mw_588) (fun _ h9 => h9) rfl qd_M_one_355 ?_
  refine lv_iconst (v := 4) hx hb qd_M_one_358 (by decide) ?_
  refine lv_aload_n hx hb qd_M_one_359 rfl (lv_at hl 8 rfl) ?_
  refine va_get (D := (dC, dI)) (ci := 7) (v := .int vME) (C := qR_M) (T := qT_M) (N := 23) hx hb hg qi_M hown hK hP 0 rfl rfl 13 (by decide) (hg _ mw_587) (fun _ h9 => h9) rfl qd_M_one_360 ?_
  refine lv_imul hx hb qd_M_one_363 ?_
  refine lv_iconst (v := 3) hx hb qd_M_one_364 (by decide) ?_
  refine lv_iadd hx hb qd_M_one_365 ?_
  refine lv_iload hx hb qd_M_one_366 (lv_at hl 3 rfl) ?_
  obtain ⟨g_368, ho⟩ := ho
  refine va_iast hx hb hK hP hD hS 7 0 rfl rfl g_368 qd_M_one_368 (fun H locs hP hD hS => ?_)
  have hP : va_P (dC, dI) vwCl [(aM, .inr (7, [.int vMT, .int vMP, .ref aMh, .ref aMi, .ref aMc, .int vMK, .ref aMt, .int vMB, .ref aMn, .ref aMl, .ref aMs, .int vMD, .ref aMd, .int vME, .ref aMe, .int (vMO - 1), .ref aMo, .int vMF_99, .int vMS_99, .ref aMw, .ref aMu, .int vMX, .int vMW])), (aMh, .inl (cA, 24, .inl (vMh))), (aMi, .inl (cA, 72, .inl (vMi))), (aMc, .inl (cA, 24, .inl (vMc))), (aMt, .inl (cA, 24, .inl (vMt))), (aMn, .inl (cA, 6250, .inl (vMn))), (aMl, .inl (cA, 6250, .inl (vMl))), (aMe, .inl (cA, 4000, .inl (upd (upd (upd (upd vMe (4 * vME).toNatClampNeg x7_99) ((4 * vME) + 1).toNatClampNeg (vMo ((5 * (vMO - 1)) + 1).toNatClampNeg)) ((4 * vME) + 2).toNatClampNeg (vMo ((5 * (vMO - 1)) + 2).toNatClampNeg)) ((4 * vME) + 3).toNatClampNeg (vMo ((5 * (vMO - 1)) + 4).toNatClampNeg)))), (aMo, .inl (cA, 10000, .inl (vMo)))] H := hP
  have hD : va_D A [(aM, .inr (7, [.int vMT, .int vMP, .ref aMh, .ref aMi, .ref aMc, .int vMK, .ref aMt, .int vMB, .ref aMn, .ref aMl, .ref aMs, .int vMD, .ref aMd, .int vME, .ref aMe, .int (vMO - 1), .ref aMo, .int vMF_99, .int vMS_99, .ref aMw, .ref aMu, .int vMX, .int vMW])), (aMh, .inl (cA, 24, .inl (vMh))), (aMi, .inl (cA, 72, .inl (vMi))), (aMc, .inl (cA, 24, .inl (vMc))), (aMt, .inl (cA, 24, .inl (vMt))), (aMn, .inl (cA, 6250, .inl (vMn))), (aMl, .inl (cA, 6250, .inl (vMl))), (aMe, .inl (cA, 4000, .inl (upd (upd (upd (upd vMe (4 * vME).toNatClampNeg x7_99) ((4 * vME) + 1).toNatClampNeg (vMo ((5 * (vMO - 1)) + 1).toNatClampNeg)) ((4 * vME) + 2).toNatClampNeg (vMo ((5 * (vMO - 1)) + 2).toNatClampNeg)) ((4 * vME) + 3).toNatClampNeg (vMo ((5 * (vMO - 1)) + 4).toNatClampNeg)))), (aMo, .inl (cA, 10000, .inl (vMo)))] := hD
  refine lv_aload_n hx hb qd_M_one_369 rfl (lv_at hl 8 rfl) ?_
  refine lv_dup hx hb qd_M_one_370 rfl ?_
  refine va_get (D := (dC, dI)) (ci := 7) (v := .int vME) (C := qR_M) (T := qT_M) (N := 23) hx hb hg qi_M hown hK hP 0 rfl rfl 13 (by decide) (hg _ mw_587) (fun _ h9 => h9) rfl qd_M_one_371 ?_
  refine lv_iconst (v := 1) hx hb qd_M_one_374 (by decide) ?_
  refine lv_iadd hx hb qd_M_one_375 ?_
  refine va_put (D := (dC, dI)) (ci := 7) (v := .int (vME + 1)) (ty := .int) (C := qR_M) (T := qT_M) (N := 23) hx hb hg qi_M qt_M qk_M qn_M hown hK hP hD hS 0 rfl rfl 13 (by decide) (hg _ mw_587) (fun _ h9 => h9) rfl (by decide +kernel) rfl rfl (Nat.le_of_ble_eq_true rfl) qd_M_one_376 (fun H locs hP hD hS => ?_)
  have hP : va_P (dC, dI) vwCl [(aM, .inr (7, [.int vMT, .int vMP, .ref aMh, .ref aMi, .ref aMc, .int vMK, .ref aMt, .int vMB, .ref aMn, .ref aMl, .ref aMs, .int vMD, .ref aMd, .int (vME + 1), .ref aMe, .int (vMO - 1), .ref aMo, .int vMF_99, .int vMS_99, .ref aMw, .ref aMu, .int vMX, .int vMW])), (aMh, .inl (cA, 24, .inl (vMh))), (aMi, .inl (cA, 72, .inl (vMi))), (aMc, .inl (cA, 24, .inl (vMc))), (aMt, .inl (cA, 24, .inl (vMt))), (aMn, .inl (cA, 6250, .inl (vMn))), (aMl, .inl (cA, 6250, .inl (vMl))), (aMe, .inl (cA, 4000, .inl (upd (upd (upd (upd vMe (4 * vME).toNatClampNeg x7_99) ((4 * vME) + 1).toNatClampNeg (vMo ((5 * (vMO - 1)) + 1).toNatClampNeg)) ((4 * vME) + 2).toNatClampNeg (vMo ((5 * (vMO - 1)) + 2).toNatClampNeg)) ((4 * vME) + 3).toNatClampNeg (vMo ((5 * (vMO - 1)) + 4).toNatClampNeg)))), (aMo, .inl (cA, 10000, .inl (vMo)))] H := hP
  have hD : va_D A [(aM, .inr (7, [.int vMT, .int vMP, .ref aMh, .ref aMi, .ref aMc, .int vMK, .ref aMt, .int vMB, .ref aMn, .ref aMl, .ref aMs, .int vMD, .ref aMd, .int (vME + 1), .ref aMe, .int (vMO - 1), .ref aMo, .int vMF_99, .int vMS_99, .ref aMw, .ref aMu, .int vMX, .int vMW])), (aMh, .inl (cA, 24, .inl (vMh))), (aMi, .inl (cA, 72, .inl (vMi))), (aMc, .inl (cA, 24, .inl (vMc))), (aMt, .inl (cA, 24, .inl (vMt))), (aMn, .inl (cA, 6250, .inl (vMn))), (aMl, .inl (cA, 6250, .inl (vMl))), (aMe, .inl (cA, 4000, .inl (upd (upd (upd (upd vMe (4 * vME).toNatClampNeg x7_99) ((4 * vME) + 1).toNatClampNeg (vMo ((5 * (vMO - 1)) + 1).toNatClampNeg)) ((4 * vME) + 2).toNatClampNeg (vMo ((5 * (vMO - 1)) + 2).toNatClampNeg)) ((4 * vME) + 3).toNatClampNeg (vMo ((5 * (vMO - 1)) + 4).toNatClampNeg)))), (aMo, .inl (cA, 10000, .inl (vMo)))] := hD
  refine lv_aload_n hx hb qd_M_one_379 rfl (lv_at hl 8 rfl) ?_
  refine lv_iload hx hb qd_M_one_380 (lv_at hl 1 rfl) ?_
  obtain ⟨g_382, ho⟩ := ho
  refine xc_V (As := [.int x7_99]) (rest := []) ⟨hx, hb, hml, hown, hg⟩ (c_M_length l dC dI cA cZ aM aMh aMi aMc aMt aMn aMl aMs aMd aMe aMo aMw aMu vMT vMP vMK vMB vMD (vME + 1) (vMO - 1) vMF_99 vMS_99 vMX vMW vMi x7_99 g_382) (cwV 1 hg (q_gV mw_673 mw_674 mw_776 mw_8 mw_675) rfl rfl rfl qh_M_length ⟨Nat.le_of_ble_eq_true rfl, Nat.le_of_ble_eq_true rfl⟩) hN hK hP [0, 2] rfl 0 7 rfl rfl rfl hl.1 rfl (Nat.le_of_ble_eq_true rfl) qd_M_one_382 ⟨Nat.zero_le _, Nat.zero_le _⟩ ?_
  refine lv_topi (fun r_382 w_382 => ?_)
  have hres := hres.trans (bd_eq w_382)
  have ho := (bd_eq w_382).mp ho
  refine lv_istore (lv' := [(8, .int r_382), (7, .int x7_99), (6, .int (vMl r_87.toNatClampNeg)), (5, .int (vMo ((5 * (vMO - 1)) + 4).toNatClampNeg)), (4, .int x4_99), (3, .int (vMo ((5 * (vMO - 1)) + 2).toNatClampNeg)), (2, .int (vMo ((5 * (vMO - 1)) + 1).toNatClampNeg)), (1, .int (vMo (5 * (vMO - 1)).toNatClampNeg)), (0, .ref aM)]) hx hb qd_M_one_385 hl (by decide) rfl (fun ls hl => ?_)
  refine lv_iload hx hb qd_M_one_387 (lv_at hl 0 rfl) ?_
  refine lv_iconst (v := 2) hx hb qd_M_one_389 (by decide) ?_
  refine lv_icmp_le (tgt := 416) hx hb qd_M_one_390 (by decide) (fun c_390 => ?_) (fun c_390 => ?_)
  · have hres := hres.trans (if_pos c_390)
    have ho := (if_pos c_390).mp ho
    refine lv_iconst (v := 1) hx hb qd_M_one_416 (by decide) ?_
    refine lv_istore (lv' := [(9, .int 1), (8, .int r_382), (7, .int x7_99), (6, .int (vMl r_87.toNatClampNeg)), (5, .int (vMo ((5 * (vMO - 1)) + 4).toNatClampNeg)), (4, .int x4_99), (3, .int (vMo ((5 * (vMO - 1)) + 2).toNatClampNeg)), (2, .int (vMo ((5 * (vMO - 1)) + 1).toNatClampNeg)), (1, .int (vMo (5 * (vMO - 1)).toNatClampNeg)), (0, .ref aM)]) hx hb qd_M_one_417 hl (by decide) rfl (fun ls hl => ?_)
    refine lv_iload hx hb qd_M_one_419 (lv_at hl 1 rfl) ?_
    refine lv_iconst (v := 1) hx hb qd_M_one_421 (by decide) ?_
    refine lv_icmp_le (tgt := 456) hx hb qd_M_one_422 (by decide) (fun c_422 => ?_) (fun c_422 => ?_)
    · have hres := hres.trans (if_pos c_422)
      have ho := (if_pos c_422).mp ho
      refine lv_iconst (v := 1) hx hb qd_M_one_456 (by decide) ?_
      refine lv_istore (lv' := [(10, .int 1), (9, .int 1), (8, .int r_382), (7, .int x7_99), (6, .int (vMl r_87.toNatClampNeg)), (5, .int (vMo ((5 * (vMO - 1)) + 4).toNatClampNeg)), (4, .int x4_99), (3, .int (vMo ((5 * (vMO - 1)) + 2).toNatClampNeg)), (2, .int (vMo ((5 * (vMO - 1)) + 1).toNatClampNeg)), (1, .int (vMo (5 * (vMO - 1)).toNatClampNeg)), (0, .ref aM)]) hx hb qd_M_one_457 hl (by decide) rfl (fun ls hl => ?_)
      refine lv_iload hx hb qd_M_one_459 (lv_at hl 6 rfl) ?_
      refine lv_if_ge (tgt := 468) hx hb qd_M_one_461 (by decide) (fun c_461 => ?_) (fun c_461 => ?_)
      · have hres := hres.trans (if_pos c_461)
        have ho := (if_pos c_461).mp ho
        refine lv_iload hx hb qd_M_one_468 (lv_at hl 6 rfl) ?_
        refine lv_iload hx hb qd_M_one_470 (lv_at hl 0 rfl) ?_
        refine lv_irem hx hb qd_M_one_472 (by decide) ?_
        refine lv_istore (lv' := [(11, .int (x4_99 - x4_99 / 1 * 1)), (10, .int 1), (9, .int 1), (8, .int r_382), (7, .int x7_99), (6, .int (vMl r_87.toNatClampNeg)), (5, .int (vMo ((5 * (vMO - 1)) + 4).toNatClampNeg)), (4, .int x4_99), (3, .int (vMo ((5 * (vMO - 1)) + 2).toNatClampNeg)), (2, .int (vMo ((5 * (vMO - 1)) + 1).toNatClampNeg)), (1, .int (vMo (5 * (vMO - 1)).toNatClampNeg)), (0, .ref aM)]) hx hb qd_M_one_473 hl (by decide) rfl (fun ls hl => ?_)
        refine lv_aload_n hx hb qd_M_one_475 rfl (lv_at hl 11 rfl) ?_
        refine va_get (D := (dC, dI)) (ci := 7) (v := .int vMF_99) (C := qR_M) (T := qT_M) (N := 23) hx hb hg qi_M hown hK hP 0 rfl rfl 17 (by decide) (hg _ mw_591) (fun _ h9 => h9) rfl qd_M_one_476 ?_
        refine lv_istore (lv' := [(12, .int vMF_99), (11, .int (x4_99 - x4_99 / 1 * 1)), (10, .int 1), (9, .int 1), (8, .int r_382), (7, .int x7_99), (6, .int (vMl r_87.toNatClampNeg)), (5, .int (vMo ((5 * (vMO - 1)) + 4).toNatClampNeg)), (4, .int x4_99), (3, .int (vMo ((5 * (vMO - 1)) + 2).toNatClampNeg)), (2, .int (vMo ((5 * (vMO - 1)) + 1).toNatClampNeg)), (1, .int (vMo (5 * (vMO - 1)).toNatClampNeg)), (0, .ref aM)]) hx hb qd_M_one_479 hl (by decide) rfl (fun ls hl => ?_)
        refine lv_aload_n hx hb qd_M_one_481 rfl (lv_at hl 12 rfl) ?_
        refine va_get (D := (dC, dI)) (ci := 7) (v := .int vMS_99) (C := qR_M) (T := qT_M) (N := 23) hx hb hg qi_M hown hK hP 0 rfl rfl 18 (by decide) (hg _ mw_592) (fun _ h9 => h9) rfl qd_M_one_482 ?_
        refine lv_istore (lv' := [(13, .int vMS_99), (12, .int vMF_99), (11, .int (x4_99 - x4_99 / 1 * 1)), (10, .int 1), (9, .int 1), (8, .int r_382), (7, .int x7_99), (6, .int (vMl r_87.toNatClampNeg)), (5, .int (vMo ((5 * (vMO - 1)) + 4).toNatClampNeg)), (4, .int x4_99), (3, .int (vMo ((5 * (vMO - 1)) + 2).toNatClampNeg)), (2, .int (vMo ((5 * (vMO - 1)) + 1).toNatClampNeg)), (1, .int (vMo (5 * (vMO - 1)).toNatClampNeg)), (0, .ref aM)]) hx hb qd_M_one_485 hl (by decide) rfl (fun ls hl => ?_)
        refine lv_iload hx hb qd_M_one_487 (lv_at hl 5 rfl) ?_
        refine lv_iconst (v := 2) hx hb qd_M_one_489 (by decide) ?_
        refine lv_icmp_le (tgt := 529) hx hb qd_M_one_490 (by decide) (fun c_490 => ?_) (fun c_490 => ?_)
        rotate_left
        · exact absurd c_390 c_490
        refine lv_iload hx hb qd_M_one_529 (lv_at hl 5 rfl) ?_
        refine lv_iconst (v := 1) hx hb qd_M_one_531 (by decide) ?_
        refine lv_icmp_le (tgt := 572) hx hb qd_M_one_532 (by decide) (fun c_532 => ?_) (fun c_532 => ?_)
        rotate_left
        · exact absurd c_422 c_532
        refine lv_aload_n hx hb qd_M_one_572 rfl (lv_at hl 13 rfl) ?_
        refine lv_aload_n hx hb qd_M_one_573 rfl (lv_at hl 13 rfl) ?_
        refine va_get (D := (dC, dI)) (ci := 7) (v := .ref aMi) (C := qR_M) (T := qT_M) (N := 23) hx hb hg qi_M hown hK hP 0 rfl rfl 3 (by decide) (hg _ mw_577) (fun _ h9 => h9) rfl qd_M_one_574 ?_
        refine lv_iconst (v := 3) hx hb qd_M_one_577 (by decide) ?_
        refine lv_iload hx hb qd_M_one_578 (lv_at hl 6 rfl) ?_
        refine lv_imul hx hb qd_M_one_580 ?_
        obtain ⟨g_581, ho⟩ := ho
        refine va_iald hx hb hK hP 2 0 rfl rfl g_581 qd_M_one_581 ?_
        refine lv_iload_n hx hb qd_M_one_582 rfl (lv_at hl 11 rfl) ?_
        refine lv_iload hx hb qd_M_one_583 (lv_at hl 1 rfl) ?_
        refine lv_iload hx hb qd_M_one_585 (lv_at hl 9 rfl) ?_
        refine lv_if_ge (tgt := 594) hx hb qd_M_one_587 (by decide) (fun c_587 => ?_) (fun c_587 => ?_)
        rotate_left
        · exact absurd c_461 c_587
        refine lv_iload hx hb qd_M_one_594 (lv_at hl 9 rfl) ?_
        refine lv_iload hx hb qd_M_one_596 (lv_at hl 3 rfl) ?_
        refine lv_idiv hx hb qd_M_one_598 (by decide) ?_
        refine lv_iload hx hb qd_M_one_599 (lv_at hl 8 rfl) ?_
        refine lv_iconst (v := 1) hx hb qd_M_one_601 (by decide) ?_
        refine lv_iadd hx hb qd_M_one_602 ?_
        obtain ⟨g_603, ho⟩ := ho
        refine xm_Vv (As := [.int (vMi (3 * x7_99).toNatClampNeg), .int (vMo ((5 * (vMO - 1)) + 1).toNatClampNeg), .int vMF_99, .int (x4_99 / 1), .int ((vMo ((5 * (vMO - 1)) + 4).toNatClampNeg) + 1)]) (rest := []) (w1 := fun (u_603 : Int32 × (Nat → Int32)) => [(aM, .inr (7, [.int vMT, .int vMP, .ref aMh, .ref aMi, .ref aMc, .int vMK, .ref aMt, .int vMB, .ref aMn, .ref aMl, .ref aMs, .int vMD, .ref aMd, .int (vME + 1), .ref aMe, .int u_603.1, .ref aMo, .int vMF_99, .int vMS_99, .ref aMw, .ref aMu, .int vMX, .int vMW])), (aMo, .inl (cA, 10000, .inl (u_603.2)))]) (w2 := fun (u_603 : Int32 × (Nat → Int32)) => [(aM, .inr (7, [.int vMT, .int vMP, .ref aMh, .ref aMi, .ref aMc, .int vMK, .ref aMt, .int vMB, .ref aMn, .ref aMl, .ref aMs, .int vMD, .ref aMd, .int (vME + 1), .ref aMe, .int u_603.1, .ref aMo, .int vMF_99, .int vMS_99, .ref aMw, .ref aMu, .int vMX, .int vMW])), (aMh, .inl (cA, 24, .inl (vMh))), (aMi, .inl (cA, 72, .inl (vMi))), (aMc, .inl (cA, 24, .inl (vMc))), (aMt, .inl (cA, 24, .inl (vMt))), (aMn, .inl (cA, 6250, .inl (vMn))), (aMl, .inl (cA, 6250, .inl (vMl))), (aMe, .inl (cA, 4000, .inl (upd (upd (upd (upd vMe (4 * vME).toNatClampNeg x7_99) ((4 * vME) + 1).toNatClampNeg (vMo ((5 * (vMO - 1)) + 1).toNatClampNeg)) ((4 * vME) + 2).toNatClampNeg (vMo ((5 * (vMO - 1)) + 2).toNatClampNeg)) ((4 * vME) + 3).toNatClampNeg (vMo ((5 * (vMO - 1)) + 4).toNatClampNeg)))), (aMo, .inl (cA, 10000, .inl (u_603.2)))]) ⟨hx, hb, hml, hown, hg⟩ (c_M_asksItem l dC dI cA cZ aM aMh aMi aMc aMt aMn aMl aMs aMd aMe aMo aMw aMu _ vMT vMP vMK vMB vMD (vME + 1) (vMO - 1) vMF_99 vMS_99 vMX vMW vMo (vMi (3 * x7_99).toNatClampNeg) (vMo ((5 * (vMO - 1)) + 1).toNatClampNeg) vMF_99 (x4_99 / 1) ((vMo ((5 * (vMO - 1)) + 4).toNatClampNeg) + 1) g_603) (cwV 5 hg (q_gV mw_720 mw_721 mw_785 mw_8 mw_722) rfl rfl rfl qh_M_asksItem ⟨Nat.le_of_ble_eq_true rfl, Nat.le_of_ble_eq_true rfl⟩) hN hK hP hD hS hA [0, 8] [1, 2, 3, 4, 5, 6, 7] rfl rfl (by decide) (by decide) (by decide) [7, 0, 1, 2, 3, 4, 5, 6, 8] (fun _ => rfl) (by decide) 0 7 rfl rfl rfl hl.1 rfl (Nat.le_of_ble_eq_true rfl) qd_M_one_603 ⟨Nat.zero_le _, Nat.zero_le _⟩ (fun u_603 H locs w_603 hP hD hS => ?_)
        have hP : va_P (dC, dI) vwCl [(aM, .inr (7, [.int vMT, .int vMP, .ref aMh, .ref aMi, .ref aMc, .int vMK, .ref aMt, .int vMB, .ref aMn, .ref aMl, .ref aMs, .int vMD, .ref aMd, .int (vME + 1), .ref aMe, .int u_603.1, .ref aMo, .int vMF_99, .int vMS_99, .ref aMw, .ref aMu, .int vMX, .int vMW])), (aMh, .inl (cA, 24, .inl (vMh))), (aMi, .inl (cA, 72, .inl (vMi))), (aMc, .inl (cA, 24, .inl (vMc))), (aMt, .inl (cA, 24, .inl (vMt))), (aMn, .inl (cA, 6250, .inl (vMn))), (aMl, .inl (cA, 6250, .inl (vMl))), (aMe, .inl (cA, 4000, .inl (upd (upd (upd (upd vMe (4 * vME).toNatClampNeg x7_99) ((4 * vME) + 1).toNatClampNeg (vMo ((5 * (vMO - 1)) + 1).toNatClampNeg)) ((4 * vME) + 2).toNatClampNeg (vMo ((5 * (vMO - 1)) + 2).toNatClampNeg)) ((4 * vME) + 3).toNatClampNeg (vMo ((5 * (vMO - 1)) + 4).toNatClampNeg)))), (aMo, .inl (cA, 10000, .inl (u_603.2)))] H := hP
        have hD : va_D A [(aM, .inr (7, [.int vMT, .int vMP, .ref aMh, .ref aMi, .ref aMc, .int vMK, .ref aMt, .int vMB, .ref aMn, .ref aMl, .ref aMs, .int vMD, .ref aMd, .int (vME + 1), .ref aMe, .int u_603.1, .ref aMo, .int vMF_99, .int vMS_99, .ref aMw, .ref aMu, .int vMX, .int vMW])), (aMh, .inl (cA, 24, .inl (vMh))), (aMi, .inl (cA, 72, .inl (vMi))), (aMc, .inl (cA, 24, .inl (vMc))), (aMt, .inl (cA, 24, .inl (vMt))), (aMn, .inl (cA, 6250, .inl (vMn))), (aMl, .inl (cA, 6250, .inl (vMl))), (aMe, .inl (cA, 4000, .inl (upd (upd (upd (upd vMe (4 * vME).toNatClampNeg x7_99) ((4 * vME) + 1).toNatClampNeg (vMo ((5 * (vMO - 1)) + 1).toNatClampNeg)) ((4 * vME) + 2).toNatClampNeg (vMo ((5 * (vMO - 1)) + 2).toNatClampNeg)) ((4 * vME) + 3).toNatClampNeg (vMo ((5 * (vMO - 1)) + 4).toNatClampNeg)))), (aMo, .inl (cA, 10000, .inl (u_603.2)))] := hD
        have hres := hres.trans (bd_eq w_603)
        have ho := (bd_eq w_603).mp ho
        subst hQ
        exact W.vret hx hb hr (fun t ht hW => ⟨⟨(vME + 1, u_603.1, vMF_99, vMS_99, upd (upd (upd (upd vMe (4 * vME).toNatClampNeg x7_99) ((4 * vME) + 1).toNatClampNeg (vMo ((5 * (vMO - 1)) + 1).toNatClampNeg)) ((4 * vME) + 2).toNatClampNeg (vMo ((5 * (vMO - 1)) + 2).toNatClampNeg)) ((4 * vME) + 3).toNatClampNeg (vMo ((5 * (vMO - 1)) + 4).toNatClampNeg), u_603.2), rfl, hres.symm, ⟨by rw [ht]; exact hP, va_K.moved hW.alike hK, x_N hN hW⟩, hD⟩, hS.F ht⟩) hS.2.2 qd_M_one_606
      have hres := hres.trans (if_neg c_461)
      have ho := (if_neg c_461).mp ho
      refine lv_iconst (v := 0) hx hb qd_M_one_464 (by decide) ?_
      refine lv_goto (tgt := 473) hx hb qd_M_one_465 (by decide) ?_
      refine lv_istore (lv' := [(11, .int 0), (10, .int 1), (9, .int 1), (8, .int r_382), (7, .int x7_99), (6, .int (vMl r_87.toNatClampNeg)), (5, .int (vMo ((5 * (vMO - 1)) + 4).toNatClampNeg)), (4, .int x4_99), (3, .int (vMo ((5 * (vMO - 1)) + 2).toNatClampNeg)), (2, .int (vMo ((5 * (vMO - 1)) + 1).toNatClampNeg)), (1, .int (vMo (5 * (vMO - 1)).toNatClampNeg)), (0, .ref aM)]) hx hb qd_M_one_473 hl (by decide) rfl (fun ls hl => ?_)
      refine lv_aload_n hx hb qd_M_one_475 rfl (lv_at hl 11 rfl) ?_
      refine va_get (D := (dC, dI)) (ci := 7) (v := .int vMF_99) (C := qR_M) (T := qT_M) (N := 23) hx hb hg qi_M hown hK hP 0 rfl rfl 17 (by decide) (hg _ mw_591) (fun _ h9 => h9) rfl qd_M_one_476 ?_
      refine lv_istore (lv' := [(12, .int vMF_99), (11, .int 0), (10, .int 1), (9, .int 1), (8, .int r_382), (7, .int x7_99), (6, .int (vMl r_87.toNatClampNeg)), (5, .int (vMo ((5 * (vMO - 1)) + 4).toNatClampNeg)), (4, .int x4_99), (3, .int (vMo ((5 * (vMO - 1)) + 2).toNatClampNeg)), (2, .int (vMo ((5 * (vMO - 1)) + 1).toNatClampNeg)), (1, .int (vMo (5 * (vMO - 1)).toNatClampNeg)), (0, .ref aM)]) hx hb qd_M_one_479 hl (by decide) rfl (fun ls hl => ?_)
      refine lv_aload_n hx hb qd_M_one_481 rfl (lv_at hl 12 rfl) ?_
      refine va_get (D := (dC, dI)) (ci := 7) (v := .int vMS_99) (C := qR_M) (T := qT_M) (N := 23) hx hb hg qi_M hown hK hP 0 rfl rfl 18 (by decide) (hg _ mw_592) (fun _ h9 => h9) rfl qd_M_one_482 ?_
      refine lv_istore (lv' := [(13, .int vMS_99), (12, .int vMF_99), (11, .int 0), (10, .int 1), (9, .int 1), (8, .int r_382), (7, .int x7_99), (6, .int (vMl r_87.toNatClampNeg)), (5, .int (vMo ((5 * (vMO - 1)) + 4).toNatClampNeg)), (4, .int x4_99), (3, .int (vMo ((5 * (vMO - 1)) + 2).toNatClampNeg)), (2, .int (vMo ((5 * (vMO - 1)) + 1).toNatClampNeg)), (1, .int (vMo (5 * (vMO - 1)).toNatClampNeg)), (0, .ref aM)]) hx hb qd_M_one_485 hl (by decide) rfl (fun ls hl => ?_)
      refine lv_iload hx hb qd_M_one_487 (lv_at hl 5 rfl) ?_
      refine lv_iconst (v := 2) hx hb qd_M_one_489 (by decide) ?_
      refine lv_icmp_le (tgt := 529) hx hb qd_M_one_490 (by decide) (fun c_490 => ?_) (fun c_490 => ?_)
      rotate_left
      · exact absurd c_390 c_490
      refine lv_iload hx hb qd_M_one_529 (lv_at hl 5 rfl) ?_
      refine lv_iconst (v := 1) hx hb qd_M_one_531 (by decide) ?_
      refine lv_icmp_le (tgt := 572) hx hb qd_M_one_532 (by decide) (fun c_532 => ?_) (fun c_532 => ?_)
      rotate_left
      · exact absurd c_422 c_532
      refine lv_aload_n hx hb qd_M_one_572 rfl (lv_at hl 13 rfl) ?_
      refine lv_aload_n hx hb qd_M_one_573 rfl (lv_at hl 13 rfl) ?_
      refine va_get (D := (dC, dI)) (ci := 7) (v := .ref aMi) (C := qR_M) (T := qT_M) (N := 23) hx hb hg qi_M hown hK hP 0 rfl rfl 3 (by decide) (hg _ mw_577) (fun _ h9 => h9) rfl qd_M_one_574 ?_
      refine lv_iconst (v := 3) hx hb qd_M_one_577 (by decide) ?_
      refine lv_iload hx hb qd_M_one_578 (lv_at hl 6 rfl) ?_
      refine lv_imul hx hb qd_M_one_580 ?_
      obtain ⟨g_581, ho⟩ := ho
      refine va_iald hx hb hK hP 2 0 rfl rfl g_581 qd_M_one_581 ?_
      refine lv_iload_n hx hb qd_M_one_582 rfl (lv_at hl 11 rfl) ?_
      refine lv_iload hx hb qd_M_one_583 (lv_at hl 1 rfl) ?_
      refine lv_iload hx hb qd_M_one_585 (lv_at hl 9 rfl) ?_
      refine lv_if_ge (tgt := 594) hx hb qd_M_one_587 (by decide) (fun c_587 => ?_) (fun c_587 => ?_)
      · exact absurd c_587 c_461
      refine lv_iconst (v := (-1)) hx hb qd_M_one_590 (by decide) ?_
      refine lv_goto (tgt := 599) hx hb qd_M_one_591 (by decide) ?_
      refine lv_iload hx hb qd_M_one_599 (lv_at hl 8 rfl) ?_
      refine lv_iconst (v := 1) hx hb qd_M_one_601 (by decide) ?_
      refine lv_iadd hx hb qd_M_one_602 ?_
      obtain ⟨g_603, ho⟩ := ho
      refine xm_Vv (As := [.int (vMi (3 * x7_99).toNatClampNeg), .int (vMo ((5 * (vMO - 1)) + 1).toNatClampNeg), .int vMF_99, .int ((-1)), .int ((vMo ((5 * (vMO - 1)) + 4).toNatClampNeg) + 1)]) (rest := []) (w1 := fun (u_603 : Int32 × (Nat → Int32)) => [(aM, .inr (7, [.int vMT, .int vMP, .ref aMh, .ref aMi, .ref aMc, .int vMK, .ref aMt, .int vMB, .ref aMn, .ref aMl, .ref aMs, .int vMD, .ref aMd, .int (vME + 1), .ref aMe, .int u_603.1, .ref aMo, .int vMF_99, .int vMS_99, .ref aMw, .ref aMu, .int vMX, .int vMW])), (aMo, .inl (cA, 10000, .inl (u_603.2)))]) (w2 := fun (u_603 : Int32 × (Nat → Int32)) => [(aM, .inr (7, [.int vMT, .int vMP, .ref aMh, .ref aMi, .ref aMc, .int vMK, .ref aMt, .int vMB, .ref aMn, .ref aMl, .ref aMs, .int vMD, .ref aMd, .int (vME + 1), .ref aMe, .int u_603.1, .ref aMo, .int vMF_99, .int vMS_99, .ref aMw, .ref aMu, .int vMX, .int vMW])), (aMh, .inl (cA, 24, .inl (vMh))), (aMi, .inl (cA, 72, .inl (vMi))), (aMc, .inl (cA, 24, .inl (vMc))), (aMt, .inl (cA, 24, .inl (vMt))), (aMn, .inl (cA, 6250, .inl (vMn))), (aMl, .inl (cA, 6250, .inl (vMl))), (aMe, .inl (cA, 4000, .inl (upd (upd (upd (upd vMe (4 * vME).toNatClampNeg x7_99) ((4 * vME) + 1).toNatClampNeg (vMo ((5 * (vMO - 1)) + 1).toNatClampNeg)) ((4 * vME) + 2).toNatClampNeg (vMo ((5 * (vMO - 1)) + 2).toNatClampNeg)) ((4 * vME) + 3).toNatClampNeg (vMo ((5 * (vMO - 1)) + 4).toNatClampNeg)))), (aMo, .inl (cA, 10000, .inl (u_603.2)))]) ⟨hx, hb, hml, hown, hg⟩ (c_M_asksItem l dC dI cA cZ aM aMh aMi aMc aMt aMn aMl aMs aMd aMe aMo aMw aMu _ vMT vMP vMK vMB vMD (vME + 1) (vMO - 1) vMF_99 vMS_99 vMX vMW vMo (vMi (3 * x7_99).toNatClampNeg) (vMo ((5 * (vMO - 1)) + 1).toNatClampNeg) vMF_99 ((-1)) ((vMo ((5 * (vMO - 1)) + 4).toNatClampNeg) + 1) g_603) (cwV 5 hg (q_gV mw_720 mw_721 mw_785 mw_8 mw_722) rfl rfl rfl qh_M_asksItem ⟨Nat.le_of_ble_eq_true rfl, Nat.le_of_ble_eq_true rfl⟩) hN hK hP hD hS hA [0, 8] [1, 2, 3, 4, 5, 6, 7] rfl rfl (by decide) (by decide) (by decide) [7, 0, 1, 2, 3, 4, 5, 6, 8] (fun _ => rfl) (by decide) 0 7 rfl rfl rfl hl.1 rfl (Nat.le_of_ble_eq_true rfl) qd_M_one_603 ⟨Nat.zero_le _, Nat.zero_le _⟩ (fun u_603 H locs w_603 hP hD hS => ?_)
      have hP : va_P (dC, dI) vwCl [(aM, .inr (7, [.int vMT, .int vMP, .ref aMh, .ref aMi, .ref aMc, .int vMK, .ref aMt, .int vMB, .ref aMn, .ref aMl, .ref aMs, .int vMD, .ref aMd, .int (vME + 1), .ref aMe, .int u_603.1, .ref aMo, .int vMF_99, .int vMS_99, .ref aMw, .ref aMu, .int vMX, .int vMW])), (aMh, .inl (cA, 24, .inl (vMh))), (aMi, .inl (cA, 72, .inl (vMi))), (aMc, .inl (cA, 24, .inl (vMc))), (aMt, .inl (cA, 24, .inl (vMt))), (aMn, .inl (cA, 6250, .inl (vMn))), (aMl, .inl (cA, 6250, .inl (vMl))), (aMe, .inl (cA, 4000, .inl (upd (upd (upd (upd vMe (4 * vME).toNatClampNeg x7_99) ((4 * vME) + 1).toNatClampNeg (vMo ((5 * (vMO - 1)) + 1).toNatClampNeg)) ((4 * vME) + 2).toNatClampNeg (vMo ((5 * (vMO - 1)) + 2).toNatClampNeg)) ((4 * vME) + 3).toNatClampNeg (vMo ((5 * (vMO - 1)) + 4).toNatClampNeg)))), (aMo, .inl (cA, 10000, .inl (u_603.2)))] H := hP
      have hD : va_D A [(aM, .inr (7, [.int vMT, .int vMP, .ref aMh, .ref aMi, .ref aMc, .int vMK, .ref aMt, .int vMB, .ref aMn, .ref aMl, .ref aMs, .int vMD, .ref aMd, .int (vME + 1), .ref aMe, .int u_603.1, .ref aMo, .int vMF_99, .int vMS_99, .ref aMw, .ref aMu, .int vMX, .int vMW])), (aMh, .inl (cA, 24, .inl (vMh))), (aMi, .inl (cA, 72, .inl (vMi))), (aMc, .inl (cA, 24, .inl (vMc))), (aMt, .inl (cA, 24, .inl (vMt))), (aMn, .inl (cA, 6250, .inl (vMn))), (aMl, .inl (cA, 6250, .inl (vMl))), (aMe, .inl (cA, 4000, .inl (upd (upd (upd (upd vMe (4 * vME).toNatClampNeg x7_99) ((4 * vME) + 1).toNatClampNeg (vMo ((5 * (vMO - 1)) + 1).toNatClampNeg)) ((4 * vME) + 2).toNatClampNeg (vMo ((5 * (vMO - 1)) + 2).toNatClampNeg)) ((4 * vME) + 3).toNatClampNeg (vMo ((5 * (vMO - 1)) + 4).toNatClampNeg)))), (aMo, .inl (cA, 10000, .inl (u_603.2)))] := hD
      have hres := hres.trans (bd_eq w_603)
      have ho := (bd_eq w_603).mp ho
      subst hQ
      exact W.vret hx hb hr (fun t ht hW => ⟨⟨(vME + 1, u_603.1, vMF_99, vMS_99, upd (upd (upd (upd vMe (4 * vME).toNatClampNeg x7_99) ((4 * vME) + 1).toNatClampNeg (vMo ((5 * (vMO - 1)) + 1).toNatClampNeg)) ((4 * vME) + 2).toNatClampNeg (vMo ((5 * (vMO - 1)) + 2).toNatClampNeg)) ((4 * vME) + 3).toNatClampNeg (vMo ((5 * (vMO - 1)) + 4).toNatClampNeg), u_603.2), rfl, hres.symm, ⟨by rw [ht]; exact hP, va_K.moved hW.alike hK, x_N hN hW⟩, hD⟩, hS.F ht⟩) hS.2.2 qd_M_one_606
    have hres := hres.trans (if_neg c_422)
    have ho := (if_neg c_422).mp ho
    refine lv_aload_n hx hb qd_M_one_425 rfl (lv_at hl 9 rfl) ?_
    refine lv_aload_n hx hb qd_M_one_426 rfl (lv_at hl 9 rfl) ?_
    refine va_get (D := (dC, dI)) (ci := 7) (v := .ref aMi) (C := qR_M) (T := qT_M) (N := 23) hx hb hg qi_M hown hK hP 0 rfl rfl 3 (by decide) (hg _ mw_577) (fun _ h9 => h9) rfl qd_M_one_427 ?_
    refine lv_iconst (v := 3) hx hb qd_M_one_430 (by decide) ?_
    refine lv_iload hx hb qd_M_one_431 (lv_at hl 2 rfl) ?_
    refine lv_imul hx hb qd_M_one_433 ?_
    refine lv_iconst (v := 1) hx hb qd_M_one_434 (by decide) ?_
    refine lv_iadd hx hb qd_M_one_435 ?_
    obtain ⟨g_436, ho⟩ := ho
    refine va_iald hx hb hK hP 2 0 rfl rfl g_436 qd_M_one_436 ?_
    refine lv_aload_n hx hb qd_M_one_437 rfl (lv_at hl 9 rfl) ?_
    refine va_get (D := (dC, dI)) (ci := 7) (v := .int vMF_99) (C := qR_M) (T := qT_M) (N := 23) hx hb hg qi_M hown hK hP 0 rfl rfl 17 (by decide) (hg _ mw_591) (fun _ h9 => h9) rfl qd_M_one_438 ?_
    refine lv_aload_n hx hb qd_M_one_441 rfl (lv_at hl 9 rfl) ?_
    refine va_get (D := (dC, dI)) (ci := 7) (v := .int vMS_99) (C := qR_M) (T := qT_M) (N := 23) hx hb hg qi_M hown hK hP 0 rfl rfl 18 (by decide) (hg _ mw_592) (fun _ h9 => h9) rfl qd_M_one_442 ?_
    obtain ⟨g_445, ho⟩ := ho
    refine xc_V (As := [.int (vMi ((3 * x7_99) + 1).toNatClampNeg), .int vMF_99, .int vMS_99]) (rest := []) ⟨hx, hb, hml, hown, hg⟩ (c_M_many l dC dI cA cZ aM aMh aMi aMc aMt aMn aMl aMs aMd aMe aMo aMw aMu vMT vMP vMK vMB vMD (vME + 1) (vMO - 1) vMF_99 vMS_99 vMX vMW vMt vMn (vMi ((3 * x7_99) + 1).toNatClampNeg) vMF_99 vMS_99 g_445) (cwV 3 hg (q_gV mw_682 mw_683 mw_779 mw_8 mw_684) rfl rfl rfl qh_M_many ⟨Nat.le_of_ble_eq_true rfl, Nat.le_of_ble_eq_true rfl⟩) hN hK hP [0, 4, 5] rfl 0 7 rfl rfl rfl hl.1 rfl (Nat.le_of_ble_eq_true rfl) qd_M_one_445 ⟨Nat.zero_le _, Nat.zero_le _⟩ ?_
    refine lv_topi (fun r_445 w_445 => ?_)
    have hres := hres.trans (bd_eq w_445)
    have ho := (bd_eq w_445).mp ho
    refine lv_iload hx hb qd_M_one_448 (lv_at hl 0 rfl) ?_
    refine xc_S (As := [.int r_445, .int 1]) (rest := []) ⟨hx, hb, hml, hown, hg⟩ (c_M_times l dC dI cA cZ r_445 1) (va_cwS 2 hg (q_gS mw_685 mw_686 mw_8 mw_687) rfl rfl rfl qh_M_times.2 ⟨Nat.le_of_ble_eq_true rfl, Nat.le_of_ble_eq_true rfl⟩) hN hK hP [] rfl rfl hl.1 rfl (Nat.le_of_ble_eq_true rfl) qd_M_one_450 ⟨Nat.zero_le _, Nat.zero_le _⟩ ?_
    refine lv_topi (fun r_450 w_450 => ?_)
    have hres := hres.trans (bd_eq w_450)
    have ho := (bd_eq w_450).mp ho
    refine lv_goto (tgt := 457) hx hb qd_M_one_453 (by decide) ?_
    refine lv_istore (lv' := [(10, .int r_450), (9, .int 1), (8, .int r_382), (7, .int x7_99), (6, .int (vMl r_87.toNatClampNeg)), (5, .int (vMo ((5 * (vMO - 1)) + 4).toNatClampNeg)), (4, .int x4_99), (3, .int (vMo ((5 * (vMO - 1)) + 2).toNatClampNeg)), (2, .int (vMo ((5 * (vMO - 1)) + 1).toNatClampNeg)), (1, .int (vMo (5 * (vMO - 1)).toNatClampNeg)), (0, .ref aM)]) hx hb qd_M_one_457 hl (by decide) rfl (fun ls hl => ?_)
    refine lv_iload hx hb qd_M_one_459 (lv_at hl 6 rfl) ?_
    refine lv_if_ge (tgt := 468) hx hb qd_M_one_461 (by decide) (fun c_461 => ?_) (fun c_461 => ?_)
    · have hres := hres.trans (if_pos c_461)
      have ho := (if_pos c_461).mp ho
      refine lv_iload hx hb qd_M_one_468 (lv_at hl 6 rfl) ?_
      refine lv_iload hx hb qd_M_one_470 (lv_at hl 0 rfl) ?_
      obtain ⟨g_472, ho⟩ := ho
      refine lv_irem hx hb qd_M_one_472 g_472 ?_
      refine lv_istore (lv' := [(11, .int (x4_99 - x4_99 / r_450 * r_450)), (10, .int r_450), (9, .int 1), (8, .int r_382), (7, .int x7_99), (6, .int (vMl r_87.toNatClampNeg)), (5, .int (vMo ((5 * (vMO - 1)) + 4).toNatClampNeg)), (4, .int x4_99), (3, .int (vMo ((5 * (vMO - 1)) + 2).toNatClampNeg)), (2, .int (vMo ((5 * (vMO - 1)) + 1).toNatClampNeg)), (1, .int (vMo (5 * (vMO - 1)).toNatClampNeg)), (0, .ref aM)]) hx hb qd_M_one_473 hl (by decide) rfl (fun ls hl => ?_)
      refine lv_aload_n hx hb qd_M_one_475 rfl (lv_at hl 11 rfl) ?_
      refine va_get (D := (dC, dI)) (ci := 7) (v := .int vMF_99) (C := qR_M) (T := qT_M) (N := 23) hx hb hg qi_M hown hK hP 0 rfl rfl 17 (by decide) (hg _ mw_591) (fun _ h9 => h9) rfl qd_M_one_476 ?_
      refine lv_istore (lv' := [(12, .int vMF_99), (11, .int (x4_99 - x4_99 / r_450 * r_450)), (10, .int r_450), (9, .int 1), (8, .int r_382), (7, .int x7_99), (6, .int (vMl r_87.toNatClampNeg)), (5, .int (vMo ((5 * (vMO - 1)) + 4).toNatClampNeg)), (4, .int x4_99), (3, .int (vMo ((5 * (vMO - 1)) + 2).toNatClampNeg)), (2, .int (vMo ((5 * (vMO - 1)) + 1).toNatClampNeg)), (1, .int (vMo (5 * (vMO - 1)).toNatClampNeg)), (0, .ref aM)]) hx hb qd_M_one_479 hl (by decide) rfl (fun ls hl => ?_)
      refine lv_aload_n hx hb qd_M_one_481 rfl (lv_at hl 12 rfl) ?_
      refine va_get (D := (dC, dI)) (ci := 7) (v := .int vMS_99) (C := qR_M) (T := qT_M) (N := 23) hx hb hg qi_M hown hK hP 0 rfl rfl 18 (by decide) (hg _ mw_592) (fun _ h9 => h9) rfl qd_M_one_482 ?_
      refine lv_istore (lv' := [(13, .int vMS_99), (12, .int vMF_99), (11, .int (x4_99 - x4_99 / r_450 * r_450)), (10, .int r_450), (9, .int 1), (8, .int r_382), (7, .int x7_99), (6, .int (vMl r_87.toNatClampNeg)), (5, .int (vMo ((5 * (vMO - 1)) + 4).toNatClampNeg)), (4, .int x4_99), (3, .int (vMo ((5 * (vMO - 1)) + 2).toNatClampNeg)), (2, .int (vMo ((5 * (vMO - 1)) + 1).toNatClampNeg)), (1, .int (vMo (5 * (vMO - 1)).toNatClampNeg)), (0, .ref aM)]) hx hb qd_M_one_485 hl (by decide) rfl (fun ls hl => ?_)
      refine lv_iload hx hb qd_M_one_487 (lv_at hl 5 rfl) ?_
      refine lv_iconst (v := 2) hx hb qd_M_one_489 (by decide) ?_
      refine lv_icmp_le (tgt := 529) hx hb qd_M_one_490 (by decide) (fun c_490 => ?_) (fun c_490 => ?_)
      rotate_left
      · exact absurd c_390 c_490
      refine lv_iload hx hb qd_M_one_529 (lv_at hl 5 rfl) ?_
      refine lv_iconst (v := 1) hx hb qd_M_one_531 (by decide) ?_
      refine lv_icmp_le (tgt := 572) hx hb qd_M_one_532 (by decide) (fun c_532 => ?_) (fun c_532 => ?_)
      · exact absurd c_532 c_422
      refine lv_aload_n hx hb qd_M_one_535 rfl (lv_at hl 13 rfl) ?_
      refine lv_aload_n hx hb qd_M_one_536 rfl (lv_at hl 13 rfl) ?_
      refine va_get (D := (dC, dI)) (ci := 7) (v := .ref aMi) (C := qR_M) (T := qT_M) (N := 23) hx hb hg qi_M hown hK hP 0 rfl rfl 3 (by decide) (hg _ mw_577) (fun _ h9 => h9) rfl qd_M_one_537 ?_
      refine lv_iconst (v := 3) hx hb qd_M_one_540 (by decide) ?_
      refine lv_iload hx hb qd_M_one_541 (lv_at hl 6 rfl) ?_
      refine lv_imul hx hb qd_M_one_543 ?_
      refine lv_iconst (v := 1) hx hb qd_M_one_544 (by decide) ?_
      refine lv_iadd hx hb qd_M_one_545 ?_
      obtain ⟨g_546, ho⟩ := ho
      refine va_iald hx hb hK hP 2 0 rfl rfl g_546 qd_M_one_546 ?_
      refine lv_iload hx hb qd_M_one_547 (lv_at hl 1 rfl) ?_
      refine lv_iload hx hb qd_M_one_549 (lv_at hl 0 rfl) ?_
      refine lv_iload hx hb qd_M_one_551 (lv_at hl 9 rfl) ?_
      refine lv_if_ge (tgt := 560) hx hb qd_M_one_553 (by decide) (fun c_553 => ?_) (fun c_553 => ?_)
      rotate_left
      · exact absurd c_461 c_553
      refine lv_iload hx hb qd_M_one_560 (lv_at hl 2 rfl) ?_
      refine lv_iload hx hb qd_M_one_562 (lv_at hl 4 rfl) ?_
      refine lv_idiv hx hb qd_M_one_564 (by decide) ?_
      refine lv_iload hx hb qd_M_one_565 (lv_at hl 8 rfl) ?_
      refine lv_iconst (v := 1) hx hb qd_M_one_567 (by decide) ?_
      refine lv_iadd hx hb qd_M_one_568 ?_
      obtain ⟨g_569, ho⟩ := ho
      refine xm_Vv (As := [.int (vMi ((3 * x7_99) + 1).toNatClampNeg), .int vMF_99, .int vMS_99, .int ((x4_99 - x4_99 / r_450 * r_450) / 1), .int ((vMo ((5 * (vMO - 1)) + 4).toNatClampNeg) + 1)]) (rest := []) (w1 := fun (u_569 : Int32 × (Nat → Int32)) => [(aM, .inr (7, [.int vMT, .int vMP, .ref aMh, .ref aMi, .ref aMc, .int vMK, .ref aMt, .int vMB, .ref aMn, .ref aMl, .ref aMs, .int vMD, .ref aMd, .int (vME + 1), .ref aMe, .int u_569.1, .ref aMo, .int vMF_99, .int vMS_99, .ref aMw, .ref aMu, .int vMX, .int vMW])), (aMo, .inl (cA, 10000, .inl (u_569.2)))]) (w2 := fun (u_569 : Int32 × (Nat → Int32)) => [(aM, .inr (7, [.int vMT, .int vMP, .ref aMh, .ref aMi, .ref aMc, .int vMK, .ref aMt, .int vMB, .ref aMn, .ref aMl, .ref aMs, .int vMD, .ref aMd, .int (vME + 1), .ref aMe, .int u_569.1, .ref aMo, .int vMF_99, .int vMS_99, .ref aMw, .ref aMu, .int vMX, .int vMW])), (aMh, .inl (cA, 24, .inl (vMh))), (aMi, .inl (cA, 72, .inl (vMi))), (aMc, .inl (cA, 24, .inl (vMc))), (aMt, .inl (cA, 24, .inl (vMt))), (aMn, .inl (cA, 6250, .inl (vMn))), (aMl, .inl (cA, 6250, .inl (vMl))), (aMe, .inl (cA, 4000, .inl (upd (upd (upd (upd vMe (4 * vME).toNatClampNeg x7_99) ((4 * vME) + 1).toNatClampNeg (vMo ((5 * (vMO - 1)) + 1).toNatClampNeg)) ((4 * vME) + 2).toNatClampNeg (vMo ((5 * (vMO - 1)) + 2).toNatClampNeg)) ((4 * vME) + 3).toNatClampNeg (vMo ((5 * (vMO - 1)) + 4).toNatClampNeg)))), (aMo, .inl (cA, 10000, .inl (u_569.2)))]) ⟨hx, hb, hml, hown, hg⟩ (c_M_asksItem l dC dI cA cZ aM aMh aMi aMc aMt aMn aMl aMs aMd aMe aMo aMw aMu _ vMT vMP vMK vMB vMD (vME + 1) (vMO - 1) vMF_99 vMS_99 vMX vMW vMo (vMi ((3 * x7_99) + 1).toNatClampNeg) vMF_99 vMS_99 ((x4_99 - x4_99 / r_450 * r_450) / 1) ((vMo ((5 * (vMO - 1)) + 4).toNatClampNeg) + 1) g_569) (cwV 5 hg (q_gV mw_720 mw_721 mw_785 mw_8 mw_722) rfl rfl rfl qh_M_asksItem ⟨Nat.le_of_ble_eq_true rfl, Nat.le_of_ble_eq_true rfl⟩) hN hK hP hD hS hA [0, 8] [1, 2, 3, 4, 5, 6, 7] rfl rfl (by decide) (by decide) (by decide) [7, 0, 1, 2, 3, 4, 5, 6, 8] (fun _ => rfl) (by decide) 0 7 rfl rfl rfl hl.1 rfl (Nat.le_of_ble_eq_true rfl) qd_M_one_569 ⟨Nat.zero_le _, Nat.zero_le _⟩ (fun u_569 H locs w_569 hP hD hS => ?_)
      have hP : va_P (dC, dI) vwCl [(aM, .inr (7, [.int vMT, .int vMP, .ref aMh, .ref aMi, .ref aMc, .int vMK, .ref aMt, .int vMB, .ref aMn, .ref aMl, .ref aMs, .int vMD, .ref aMd, .int (vME + 1), .ref aMe, .int u_569.1, .ref aMo, .int vMF_99, .int vMS_99, .ref aMw, .ref aMu, .int vMX, .int vMW])), (aMh, .inl (cA, 24, .inl (vMh))), (aMi, .inl (cA, 72, .inl (vMi))), (aMc, .inl (cA, 24, .inl (vMc))), (aMt, .inl (cA, 24, .inl (vMt))), (aMn, .inl (cA, 6250, .inl (vMn))), (aMl, .inl (cA, 6250, .inl (vMl))), (aMe, .inl (cA, 4000, .inl (upd (upd (upd (upd vMe (4 * vME).toNatClampNeg x7_99) ((4 * vME) + 1).toNatClampNeg (vMo ((5 * (vMO - 1)) + 1).toNatClampNeg)) ((4 * vME) + 2).toNatClampNeg (vMo ((5 * (vMO - 1)) + 2).toNatClampNeg)) ((4 * vME) + 3).toNatClampNeg (vMo ((5 * (vMO - 1)) + 4).toNatClampNeg)))), (aMo, .inl (cA, 10000, .inl (u_569.2)))] H := hP
      have hD : va_D A [(aM, .inr (7, [.int vMT, .int vMP, .ref aMh, .ref aMi, .ref aMc, .int vMK, .ref aMt, .int vMB, .ref aMn, .ref aMl, .ref aMs, .int vMD, .ref aMd, .int (vME + 1), .ref aMe, .int u_569.1, .ref aMo, .int vMF_99, .int vMS_99, .ref aMw, .ref aMu, .int vMX, .int vMW])), (aMh, .inl (cA, 24, .inl (vMh))), (aMi, .inl (cA, 72, .inl (vMi))), (aMc, .inl (cA, 24, .inl (vMc))), (aMt, .inl (cA, 24, .inl (vMt))), (aMn, .inl (cA, 6250, .inl (vMn))), (aMl, .inl (cA, 6250, .inl (vMl))), (aMe, .inl (cA, 4000, .inl (upd (upd (upd (upd vMe (4 * vME).toNatClampNeg x7_99) ((4 * vME) + 1).toNatClampNeg (vMo ((5 * (vMO - 1)) + 1).toNatClampNeg)) ((4 * vME) + 2).toNatClampNeg (vMo ((5 * (vMO - 1)) + 2).toNatClampNeg)) ((4 * vME) + 3).toNatClampNeg (vMo ((5 * (vMO - 1)) + 4).toNatClampNeg)))), (aMo, .inl (cA, 10000, .inl (u_569.2)))] := hD
      have hres := hres.trans (bd_eq w_569)
      have ho := (bd_eq w_569).mp ho
      refine lv_aload_n hx hb qd_M_one_572 rfl (lv_at hl 13 rfl) ?_
      refine lv_aload_n hx hb qd_M_one_573 rfl (lv_at hl 13 rfl) ?_
      refine va_get (D := (dC, dI)) (ci := 7) (v := .ref aMi) (C := qR_M) (T := qT_M) (N := 23) hx hb hg qi_M hown hK hP 0 rfl rfl 3 (by decide) (hg _ mw_577) (fun _ h9 => h9) rfl qd_M_one_574 ?_
      refine lv_iconst (v := 3) hx hb qd_M_one_577 (by decide) ?_
      refine lv_iload hx hb qd_M_one_578 (lv_at hl 6 rfl) ?_
      refine lv_imul hx hb qd_M_one_580 ?_
      obtain ⟨g_581, ho⟩ := ho
      refine va_iald hx hb hK hP 2 0 rfl rfl g_581 qd_M_one_581 ?_
      refine lv_iload_n hx hb qd_M_one_582 rfl (lv_at hl 11 rfl) ?_
      refine lv_iload hx hb qd_M_one_583 (lv_at hl 1 rfl) ?_
      refine lv_iload hx hb qd_M_one_585 (lv_at hl 9 rfl) ?_
      refine lv_if_ge (tgt := 594) hx hb qd_M_one_587 (by decide) (fun c_587 => ?_) (fun c_587 => ?_)
      rotate_left
      · exact absurd c_461 c_587
      refine lv_iload hx hb qd_M_one_594 (lv_at hl 9 rfl) ?_
      refine lv_iload hx hb qd_M_one_596 (lv_at hl 3 rfl) ?_
      obtain ⟨g_598, ho⟩ := ho
      refine lv_idiv hx hb qd_M_one_598 g_598 ?_
      refine lv_iload hx hb qd_M_one_599 (lv_at hl 8 rfl) ?_
      refine lv_iconst (v := 1) hx hb qd_M_one_601 (by decide) ?_
      refine lv_iadd hx hb qd_M_one_602 ?_
      obtain ⟨g_603, ho⟩ := ho
      refine xm_Vv (As := [.int (vMi (3 * x7_99).toNatClampNeg), .int (vMo ((5 * (vMO - 1)) + 1).toNatClampNeg), .int vMF_99, .int (x4_99 / r_450), .int ((vMo ((5 * (vMO - 1)) + 4).toNatClampNeg) + 1)]) (rest := []) (w1 := fun (u_603 : Int32 × (Nat → Int32)) => [(aM, .inr (7, [.int vMT, .int vMP, .ref aMh, .ref aMi, .ref aMc, .int vMK, .ref aMt, .int vMB, .ref aMn, .ref aMl, .ref aMs, .int vMD, .ref aMd, .int (vME + 1), .ref aMe, .int u_603.1, .ref aMo, .int vMF_99, .int vMS_99, .ref aMw, .ref aMu, .int vMX, .int vMW])), (aMo, .inl (cA, 10000, .inl (u_603.2)))]) (w2 := fun (u_603 : Int32 × (Nat → Int32)) => [(aM, .inr (7, [.int vMT, .int vMP, .ref aMh, .ref aMi, .ref aMc, .int vMK, .ref aMt, .int vMB, .ref aMn, .ref aMl, .ref aMs, .int vMD, .ref aMd, .int (vME + 1), .ref aMe, .int u_603.1, .ref aMo, .int vMF_99, .int vMS_99, .ref aMw, .ref aMu, .int vMX, .int vMW])), (aMh, .inl (cA, 24, .inl (vMh))), (aMi, .inl (cA, 72, .inl (vMi))), (aMc, .inl (cA, 24, .inl (vMc))), (aMt, .inl (cA, 24, .inl (vMt))), (aMn, .inl (cA, 6250, .inl (vMn))), (aMl, .inl (cA, 6250, .inl (vMl))), (aMe, .inl (cA, 4000, .inl (upd (upd (upd (upd vMe (4 * vME).toNatClampNeg x7_99) ((4 * vME) + 1).toNatClampNeg (vMo ((5 * (vMO - 1)) + 1).toNatClampNeg)) ((4 * vME) + 2).toNatClampNeg (vMo ((5 * (vMO - 1)) + 2).toNatClampNeg)) ((4 * vME) + 3).toNatClampNeg (vMo ((5 * (vMO - 1)) + 4).toNatClampNeg)))), (aMo, .inl (cA, 10000, .inl (u_603.2)))]) ⟨hx, hb, hml, hown, hg⟩ (c_M_asksItem l dC dI cA cZ aM aMh aMi aMc aMt aMn aMl aMs aMd aMe aMo aMw aMu _ vMT vMP vMK vMB vMD (vME + 1) u_569.1 vMF_99 vMS_99 vMX vMW u_569.2 (vMi (3 * x7_99).toNatClampNeg) (vMo ((5 * (vMO - 1)) + 1).toNatClampNeg) vMF_99 (x4_99 / r_450) ((vMo ((5 * (vMO - 1)) + 4).toNatClampNeg) + 1) g_603) (cwV 5 hg (q_gV mw_720 mw_721 mw_785 mw_8 mw_722) rfl rfl rfl qh_M_asksItem ⟨Nat.le_of_ble_eq_true rfl, Nat.le_of_ble_eq_true rfl⟩) hN hK hP hD hS hA [0, 8] [1, 2, 3, 4, 5, 6, 7] rfl rfl (by decide) (by decide) (by decide) [7, 0, 1, 2, 3, 4, 5, 6, 8] (fun _ => rfl) (by decide) 0 7 rfl rfl rfl hl.1 rfl (Nat.le_of_ble_eq_true rfl) qd_M_one_603 ⟨Nat.zero_le _, Nat.zero_le _⟩ (fun u_603 H locs w_603 hP hD hS => ?_)
      have hP : va_P (dC, dI) vwCl [(aM, .inr (7, [.int vMT, .int vMP, .ref aMh, .ref aMi, .ref aMc, .int vMK, .ref aMt, .int vMB, .ref aMn, .ref aMl, .ref aMs, .int vMD, .ref aMd, .int (vME + 1), .ref aMe, .int u_603.1, .ref aMo, .int vMF_99, .int vMS_99, .ref aMw, .ref aMu, .int vMX, .int vMW])), (aMh, .inl (cA, 24, .inl (vMh))), (aMi, .inl (cA, 72, .inl (vMi))), (aMc, .inl (cA, 24, .inl (vMc))), (aMt, .inl (cA, 24, .inl (vMt))), (aMn, .inl (cA, 6250, .inl (vMn))), (aMl, .inl (cA, 6250, .inl (vMl))), (aMe, .inl (cA, 4000, .inl (upd (upd (upd (upd vMe (4 * vME).toNatClampNeg x7_99) ((4 * vME) + 1).toNatClampNeg (vMo ((5 * (vMO - 1)) + 1).toNatClampNeg)) ((4 * vME) + 2).toNatClampNeg (vMo ((5 * (vMO - 1)) + 2).toNatClampNeg)) ((4 * vME) + 3).toNatClampNeg (vMo ((5 * (vMO - 1)) + 4).toNatClampNeg)))), (aMo, .inl (cA, 10000, .inl (u_603.2)))] H := hP
      have hD : va_D A [(aM, .inr (7, [.int vMT, .int vMP, .ref aMh, .ref aMi, .ref aMc, .int vMK, .ref aMt, .int vMB, .ref aMn, .ref aMl, .ref aMs, .int vMD, .ref aMd, .int (vME + 1), .ref aMe, .int u_603.1, .ref aMo, .int vMF_99, .int vMS_99, .ref aMw, .ref aMu, .int vMX, .int vMW])), (aMh, .inl (cA, 24, .inl (vMh))), (aMi, .inl (cA, 72, .inl (vMi))), (aMc, .inl (cA, 24, .inl (vMc))), (aMt, .inl (cA, 24, .inl (vMt))), (aMn, .inl (cA, 6250, .inl (vMn))), (aMl, .inl (cA, 6250, .inl (vMl))), (aMe, .inl (cA, 4000, .inl (upd (upd (upd (upd vMe (4 * vME).toNatClampNeg x7_99) ((4 * vME) + 1).toNatClampNeg (vMo ((5 * (vMO - 1)) + 1).toNatClampNeg)) ((4 * vME) + 2).toNatClampNeg (vMo ((5 * (vMO - 1)) + 2).toNatClampNeg)) ((4 * vME) + 3).toNatClampNeg (vMo ((5 * (vMO - 1)) + 4).toNatClampNeg)))), (aMo, .inl (cA, 10000, .inl (u_603.2)))] := hD
      have hres := hres.trans (bd_eq w_603)
      have ho := (bd_eq w_603).mp ho
      subst hQ
      exact W.vret hx hb hr (fun t ht hW => ⟨⟨(vME + 1, u_603.1, vMF_99, vMS_99, upd (upd (upd (upd vMe (4 * vME).toNatClampNeg x7_99) ((4 * vME) + 1).toNatClampNeg (vMo ((5 * (vMO - 1)) + 1).toNatClampNeg)) ((4 * vME) + 2).toNatClampNeg (vMo ((5 * (vMO - 1)) + 2).toNatClampNeg)) ((4 * vME) + 3).toNatClampNeg (vMo ((5 * (vMO - 1)) + 4).toNatClampNeg), u_603.2), rfl, hres.symm, ⟨by rw [ht]; exact hP, va_K.moved hW.alike hK, x_N hN hW⟩, hD⟩, hS.F ht⟩) hS.2.2 qd_M_one_606
    have hres := hres.trans (if_neg c_461)
    have ho := (if_neg c_461).mp ho
    refine lv_iconst (v := 0) hx hb qd_M_one_464 (by decide) ?_
    refine lv_goto (tgt := 473) hx hb qd_M_one_465 (by decide) ?_
    refine lv_istore (lv' := [(11, .int 0), (10, .int r_450), (9, .int 1), (8, .int r_382), (7, .int x7_99), (6, .int (vMl r_87.toNatClampNeg)), (5, .int (vMo ((5 * (vMO - 1)) + 4).toNatClampNeg)), (4, .int x4_99), (3, .int (vMo ((5 * (vMO - 1)) + 2).toNatClampNeg)), (2, .int (vMo ((5 * (vMO - 1)) + 1).toNatClampNeg)), (1, .int (vMo (5 * (vMO - 1)).toNatClampNeg)), (0, .ref aM)]) hx hb qd_M_one_473 hl (by decide) rfl (fun ls hl => ?_)
    refine lv_aload_n hx hb qd_M_one_475 rfl (lv_at hl 11 rfl) ?_
    refine va_get (D := (dC, dI)) (ci := 7) (v := .int vMF_99) (C := qR_M) (T := qT_M) (N := 23) hx hb hg qi_M hown hK hP 0 rfl rfl 17 (by decide) (hg _ mw_591) (fun _ h9 => h9) rfl qd_M_one_476 ?_
    refine lv_istore (lv' := [(12, .int vMF_99), (11, .int 0), (10, .int r_450), (9, .int 1), (8, .int r_382), (7, .int x7_99), (6, .int (vMl r_87.toNatClampNeg)), (5, .int (vMo ((5 * (vMO - 1)) + 4).toNatClampNeg)), (4, .int x4_99), (3, .int (vMo ((5 * (vMO - 1)) + 2).toNatClampNeg)), (2, .int (vMo ((5 * (vMO - 1)) + 1).toNatClampNeg)), (1, .int (vMo (5 * (vMO - 1)).toNatClampNeg)), (0, .ref aM)]) hx hb qd_M_one_479 hl (by decide) rfl (fun ls hl => ?_)
    refine lv_aload_n hx hb qd_M_one_481 rfl (lv_at hl 12 rfl) ?_
    refine va_get (D := (dC, dI)) (ci := 7) (v := .int vMS_99) (C := qR_M) (T := qT_M) (N := 23) hx hb hg qi_M hown hK hP 0 rfl rfl 18 (by decide) (hg _ mw_592) (fun _ h9 => h9) rfl qd_M_one_482 ?_
    refine lv_istore (lv' := [(13, .int vMS_99), (12, .int vMF_99), (11, .int 0), (10, .int r_450), (9, .int 1), (8, .int r_382), (7, .int x7_99), (6, .int (vMl r_87.toNatClampNeg)), (5, .int (vMo ((5 * (vMO - 1)) + 4).toNatClampNeg)), (4, .int x4_99), (3, .int (vMo ((5 * (vMO - 1)) + 2).toNatClampNeg)), (2, .int (vMo ((5 * (vMO - 1)) + 1).toNatClampNeg)), (1, .int (vMo (5 * (vMO - 1)).toNatClampNeg)), (0, .ref aM)]) hx hb qd_M_one_485 hl (by decide) rfl (fun ls hl => ?_)
    refine lv_iload hx hb qd_M_one_487 (lv_at hl 5 rfl) ?_
    refine lv_iconst (v := 2) hx hb qd_M_one_489 (by decide) ?_
    refine lv_icmp_le (tgt := 529) hx hb qd_M_one_490 (by decide) (fun c_490 => ?_) (fun c_490 => ?_)
    rotate_left
    · exact absurd c_390 c_490
    refine lv_iload hx hb qd_M_one_529 (lv_at hl 5 rfl) ?_
    refine lv_iconst (v := 1) hx hb qd_M_one_531 (by decide) ?_
    refine lv_icmp_le (tgt := 572) hx hb qd_M_one_532 (by decide) (fun c_532 => ?_) (fun c_532 => ?_)
    · exact absurd c_532 c_422
    refine lv_aload_n hx hb qd_M_one_535 rfl (lv_at hl 13 rfl) ?_
    refine lv_aload_n hx hb qd_M_one_536 rfl (lv_at hl 13 rfl) ?_
    refine va_get (D := (dC, dI)) (ci := 7) (v := .ref aMi) (C := qR_M) (T := qT_M) (N := 23) hx hb hg qi_M hown hK hP 0 rfl rfl 3 (by decide) (hg _ mw_577) (fun _ h9 => h9) rfl qd_M_one_537 ?_
    refine lv_iconst (v := 3) hx hb qd_M_one_540 (by decide) ?_
    refine lv_iload hx hb qd_M_one_541 (lv_at hl 6 rfl) ?_
    refine lv_imul hx hb qd_M_one_543 ?_
    refine lv_iconst (v := 1) hx hb qd_M_one_544 (by decide) ?_
    refine lv_iadd hx hb qd_M_one_545 ?_
    obtain ⟨g_546, ho⟩ := ho
    refine va_iald hx hb hK hP 2 0 rfl rfl g_546 qd_M_one_546 ?_
    refine lv_iload hx hb qd_M_one_547 (lv_at hl 1 rfl) ?_
    refine lv_iload hx hb qd_M_one_549 (lv_at hl 0 rfl) ?_
    refine lv_iload hx hb qd_M_one_551 (lv_at hl 9 rfl) ?_
    refine lv_if_ge (tgt := 560) hx hb qd_M_one_553 (by decide) (fun c_553 => ?_) (fun c_553 => ?_)
    · exact absurd c_553 c_461
    refine lv_iconst (v := (-1)) hx hb qd_M_one_556 (by decide) ?_
    refine lv_goto (tgt := 565) hx hb qd_M_one_557 (by decide) ?_
    refine lv_iload hx hb qd_M_one_565 (lv_at hl 8 rfl) ?_
    refine lv_iconst (v := 1) hx hb qd_M_one_567 (by decide) ?_
    refine lv_iadd hx hb qd_M_one_568 ?_
    obtain ⟨g_569, ho⟩ := ho
    refine xm_Vv (As := [.int (vMi ((3 * x7_99) + 1).toNatClampNeg), .int vMF_99, .int vMS_99, .int ((-1)), .int ((vMo ((5 * (vMO - 1)) + 4).toNatClampNeg) + 1)]) (rest := []) (w1 := fun (u_569 : Int32 × (Nat → Int32)) => [(aM, .inr (7, [.int vMT, .int vMP, .ref aMh, .ref aMi, .ref aMc, .int vMK, .ref aMt, .int vMB, .ref aMn, .ref aMl, .ref aMs, .int vMD, .ref aMd, .int (vME + 1), .ref aMe, .int u_569.1, .ref aMo, .int vMF_99, .int vMS_99, .ref aMw, .ref aMu, .int vMX, .int vMW])), (aMo, .inl (cA, 10000, .inl (u_569.2)))]) (w2 := fun (u_569 : Int32 × (Nat → Int32)) => [(aM, .inr (7, [.int vMT, .int vMP, .ref aMh, .ref aMi, .ref aMc, .int vMK, .ref aMt, .int vMB, .ref aMn, .ref aMl, .ref aMs, .int vMD, .ref aMd, .int (vME + 1), .ref aMe, .int u_569.1, .ref aMo, .int vMF_99, .int vMS_99, .ref aMw, .ref aMu, .int vMX, .int vMW])), (aMh, .inl (cA, 24, .inl (vMh))), (aMi, .inl (cA, 72, .inl (vMi))), (aMc, .inl (cA, 24, .inl (vMc))), (aMt, .inl (cA, 24, .inl (vMt))), (aMn, .inl (cA, 6250, .inl (vMn))), (aMl, .inl (cA, 6250, .inl (vMl))), (aMe, .inl (cA, 4000, .inl (upd (upd (upd (upd vMe (4 * vME).toNatClampNeg x7_99) ((4 * vME) + 1).toNatClampNeg (vMo ((5 * (vMO - 1)) + 1).toNatClampNeg)) ((4 * vME) + 2).toNatClampNeg (vMo ((5 * (vMO - 1)) + 2).toNatClampNeg)) ((4 * vME) + 3).toNatClampNeg (vMo ((5 * (vMO - 1)) + 4).toNatClampNeg)))), (aMo, .inl (cA, 10000, .inl (u_569.2)))]) ⟨hx, hb, hml, hown, hg⟩ (c_M_asksItem l dC dI cA cZ aM aMh aMi aMc aMt aMn aMl aMs aMd aMe aMo aMw aMu _ vMT vMP vMK vMB vMD (vME + 1) (vMO - 1) vMF_99 vMS_99 vMX vMW vMo (vMi ((3 * x7_99) + 1).toNatClampNeg) vMF_99 vMS_99 ((-1)) ((vMo ((5 * (vMO - 1)) + 4).toNatClampNeg) + 1) g_569) (cwV 5 hg (q_gV mw_720 mw_721 mw_785 mw_8 mw_722) rfl rfl rfl qh_M_asksItem ⟨Nat.le_of_ble_eq_true rfl, Nat.le_of_ble_eq_true rfl⟩) hN hK hP hD hS hA [0, 8] [1, 2, 3, 4, 5, 6, 7] rfl rfl (by decide) (by decide) (by decide) [7, 0, 1, 2, 3, 4, 5, 6, 8] (fun _ => rfl) (by decide) 0 7 rfl rfl rfl hl.1 rfl (Nat.le_of_ble_eq_true rfl) qd_M_one_569 ⟨Nat.zero_le _, Nat.zero_le _⟩ (fun u_569 H locs w_569 hP hD hS => ?_)
    have hP : va_P (dC, dI) vwCl [(aM, .inr (7, [.int vMT, .int vMP, .ref aMh, .ref aMi, .ref aMc, .int vMK, .ref aMt, .int vMB, .ref aMn, .ref aMl, .ref aMs, .int vMD, .ref aMd, .int (vME + 1), .ref aMe, .int u_569.1, .ref aMo, .int vMF_99, .int vMS_99, .ref aMw, .ref aMu, .int vMX, .int vMW])), (aMh, .inl (cA, 24, .inl (vMh))), (aMi, .inl (cA, 72, .inl (vMi))), (aMc, .inl (cA, 24, .inl (vMc))), (aMt, .inl (cA, 24, .inl (vMt))), (aMn, .inl (cA, 6250, .inl (vMn))), (aMl, .inl (cA, 6250, .inl (vMl))), (aMe, .inl (cA, 4000, .inl (upd (upd (upd (upd vMe (4 * vME).toNatClampNeg x7_99) ((4 * vME) + 1).toNatClampNeg (vMo ((5 * (vMO - 1)) + 1).toNatClampNeg)) ((4 * vME) + 2).toNatClampNeg (vMo ((5 * (vMO - 1)) + 2).toNatClampNeg)) ((4 * vME) + 3).toNatClampNeg (vMo ((5 * (vMO - 1)) + 4).toNatClampNeg)))), (aMo, .inl (cA, 10000, .inl (u_569.2)))] H := hP
    have hD : va_D A [(aM, .inr (7, [.int vMT, .int vMP, .ref aMh, .ref aMi, .ref aMc, .int vMK, .ref aMt, .int vMB, .ref aMn, .ref aMl, .ref aMs, .int vMD, .ref aMd, .int (vME + 1), .ref aMe, .int u_569.1, .ref aMo, .int vMF_99, .int vMS_99, .ref aMw, .ref aMu, .int vMX, .int vMW])), (aMh, .inl (cA, 24, .inl (vMh))), (aMi, .inl (cA, 72, .inl (vMi))), (aMc, .inl (cA, 24, .inl (vMc))), (aMt, .inl (cA, 24, .inl (vMt))), (aMn, .inl (cA, 6250, .inl (vMn))), (aMl, .inl (cA, 6250, .inl (vMl))), (aMe, .inl (cA, 4000, .inl (upd (upd (upd (upd vMe (4 * vME).toNatClampNeg x7_99) ((4 * vME) + 1).toNatClampNeg (vMo ((5 * (vMO - 1)) + 1).toNatClampNeg)) ((4 * vME) + 2).toNatClampNeg (vMo ((5 * (vMO - 1)) + 2).toNatClampNeg)) ((4 * vME) + 3).toNatClampNeg (vMo ((5 * (vMO - 1)) + 4).toNatClampNeg)))), (aMo, .inl (cA, 10000, .inl (u_569.2)))] := hD
    have hres := hres.trans (bd_eq w_569)
    have ho := (bd_eq w_569).mp ho
    refine lv_aload_n hx hb qd_M_one_572 rfl (lv_at hl 13 rfl) ?_
    refine lv_aload_n hx hb qd_M_one_573 rfl (lv_at hl 13 rfl) ?_
    refine va_get (D := (dC, dI)) (ci := 7) (v := .ref aMi) (C := qR_M) (T := qT_M) (N := 23) hx hb hg qi_M hown hK hP 0 rfl rfl 3 (by decide) (hg _ mw_577) (fun _ h9 => h9) rfl qd_M_one_574 ?_
    refine lv_iconst (v := 3) hx hb qd_M_one_577 (by decide) ?_
    refine lv_iload hx hb qd_M_one_578 (lv_at hl 6 rfl) ?_
    refine lv_imul hx hb qd_M_one_580 ?_
    obtain ⟨g_581, ho⟩ := ho
    refine va_iald hx hb hK hP 2 0 rfl rfl g_581 qd_M_one_581 ?_
    refine lv_iload_n hx hb qd_M_one_582 rfl (lv_at hl 11 rfl) ?_
    refine lv_iload hx hb qd_M_one_583 (lv_at hl 1 rfl) ?_
    refine lv_iload hx hb qd_M_one_585 (lv_at hl 9 rfl) ?_
    refine lv_if_ge (tgt := 594) hx hb qd_M_one_587 (by decide) (fun c_587 => ?_) (fun c_587 => ?_)
    · exact absurd c_587 c_461
    refine lv_iconst (v := (-1)) hx hb qd_M_one_590 (by decide) ?_
    refine lv_goto (tgt := 599) hx hb qd_M_one_591 (by decide) ?_
    refine lv_iload hx hb qd_M_one_599 (lv_at hl 8 rfl) ?_
    refine lv_iconst (v := 1) hx hb qd_M_one_601 (by decide) ?_
    refine lv_iadd hx hb qd_M_one_602 ?_
    obtain ⟨g_603, ho⟩ := ho
    refine xm_Vv (As := [.int (vMi (3 * x7_99).toNatClampNeg), .int (vMo ((5 * (vMO - 1)) + 1).toNatClampNeg), .int vMF_99, .int ((-1)), .int ((vMo ((5 * (vMO - 1)) + 4).toNatClampNeg) + 1)]) (rest := []) (w1 := fun (u_603 : Int32 × (Nat → Int32)) => [(aM, .inr (7, [.int vMT, .int vMP, .ref aMh, .ref aMi, .ref aMc, .int vMK, .ref aMt, .int vMB, .ref aMn, .ref aMl, .ref aMs, .int vMD, .ref aMd, .int (vME + 1), .ref aMe, .int u_603.1, .ref aMo, .int vMF_99, .int vMS_99, .ref aMw, .ref aMu, .int vMX, .int vMW])), (aMo, .inl (cA, 10000, .inl (u_603.2)))]) (w2 := fun (u_603 : Int32 × (Nat → Int32)) => [(aM, .inr (7, [.int vMT, .int vMP, .ref aMh, .ref aMi, .ref aMc, .int vMK, .ref aMt, .int vMB, .ref aMn, .ref aMl, .ref aMs, .int vMD, .ref aMd, .int (vME + 1), .ref aMe, .int u_603.1, .ref aMo, .int vMF_99, .int vMS_99, .ref aMw, .ref aMu, .int vMX, .int vMW])), (aMh, .inl (cA, 24, .inl (vMh))), (aMi, .inl (cA, 72, .inl (vMi))), (aMc, .inl (cA, 24, .inl (vMc))), (aMt, .inl (cA, 24, .inl (vMt))), (aMn, .inl (cA, 6250, .inl (vMn))), (aMl, .inl (cA, 6250, .inl (vMl))), (aMe, .inl (cA, 4000, .inl (upd (upd (upd (upd vMe (4 * vME).toNatClampNeg x7_99) ((4 * vME) + 1).toNatClampNeg (vMo ((5 * (vMO - 1)) + 1).toNatClampNeg)) ((4 * vME) + 2).toNatClampNeg (vMo ((5 * (vMO - 1)) + 2).toNatClampNeg)) ((4 * vME) + 3).toNatClampNeg (vMo ((5 * (vMO - 1)) + 4).toNatClampNeg)))), (aMo, .inl (cA, 10000, .inl (u_603.2)))]) ⟨hx, hb, hml, hown, hg⟩ (c_M_asksItem l dC dI cA cZ aM aMh aMi aMc aMt aMn aMl aMs aMd aMe aMo aMw aMu _ vMT vMP vMK vMB vMD (vME + 1) u_569.1 vMF_99 vMS_99 vMX vMW u_569.2 (vMi (3 * x7_99).toNatClampNeg) (vMo ((5 * (vMO - 1)) + 1).toNatClampNeg) vMF_99 ((-1)) ((vMo ((5 * (vMO - 1)) + 4).toNatClampNeg) + 1) g_603) (cwV 5 hg (q_gV mw_720 mw_721 mw_785 mw_8 mw_722) rfl rfl rfl qh_M_asksItem ⟨Nat.le_of_ble_eq_true rfl, Nat.le_of_ble_eq_true rfl⟩) hN hK hP hD hS hA [0, 8] [1, 2, 3, 4, 5, 6, 7] rfl rfl (by decide) (by decide) (by decide) [7, 0, 1, 2, 3, 4, 5, 6, 8] (fun _ => rfl) (by decide) 0 7 rfl rfl rfl hl.1 rfl (Nat.le_of_ble_eq_true rfl) qd_M_one_603 ⟨Nat.zero_le _, Nat.zero_le _⟩ (fun u_603 H locs w_603 hP hD hS => ?_)
    have hP : va_P (dC, dI) vwCl [(aM, .inr (7, [.int vMT, .int vMP, .ref aMh, .ref aMi, .ref aMc, .int vMK, .ref aMt, .int vMB, .ref aMn, .ref aMl, .ref aMs, .int vMD, .ref aMd, .int (vME + 1), .ref aMe, .int u_603.1, .ref aMo, .int vMF_99, .int vMS_99, .ref aMw, .ref aMu, .int vMX, .int vMW])), (aMh, .inl (cA, 24, .inl (vMh))), (aMi, .inl (cA, 72, .inl (vMi))), (aMc, .inl (cA, 24, .inl (vMc))), (aMt, .inl (cA, 24, .inl (vMt))), (aMn, .inl (cA, 6250, .inl (vMn))), (aMl, .inl (cA, 6250, .inl (vMl))), (aMe, .inl (cA, 4000, .inl (upd (upd (upd (upd vMe (4 * vME).toNatClampNeg x7_99) ((4 * vME) + 1).toNatClampNeg (vMo ((5 * (vMO - 1)) + 1).toNatClampNeg)) ((4 * vME) + 2).toNatClampNeg (vMo ((5 * (vMO - 1)) + 2).toNatClampNeg)) ((4 * vME) + 3).toNatClampNeg (vMo ((5 * (vMO - 1)) + 4).toNatClampNeg)))), (aMo, .inl (cA, 10000, .inl (u_603.2)))] H := hP
    have hD : va_D A [(aM, .inr (7, [.int vMT, .int vMP, .ref aMh, .ref aMi, .ref aMc, .int vMK, .ref aMt, .int vMB, .ref aMn, .ref aMl, .ref aMs, .int vMD, .ref aMd, .int (vME + 1), .ref aMe, .int u_603.1, .ref aMo, .int vMF_99, .int vMS_99, .ref aMw, .ref aMu, .int vMX, .int vMW])), (aMh, .inl (cA, 24, .inl (vMh))), (aMi, .inl (cA, 72, .inl (vMi))), (aMc, .inl (cA, 24, .inl (vMc))), (aMt, .inl (cA, 24, .inl (vMt))), (aMn, .inl (cA, 6250, .inl (vMn))), (aMl, .inl (cA, 6250, .inl (vMl))), (aMe, .inl (cA, 4000, .inl (upd (upd (upd (upd vMe (4 * vME).toNatClampNeg x7_99) ((4 * vME) + 1).toNatClampNeg (vMo ((5 * (vMO - 1)) + 1).toNatClampNeg)) ((4 * vME) + 2).toNatClampNeg (vMo ((5 * (vMO - 1)) + 2).toNatClampNeg)) ((4 * vME) + 3).toNatClampNeg (vMo ((5 * (vMO - 1)) + 4).toNatClampNeg)))), (aMo, .inl (cA, 10000, .inl (u_603.2)))] := hD
    have hres := hres.trans (bd_eq w_603)
    have ho := (bd_eq w_603).mp ho
    subst hQ
    exact W.vret hx hb hr (fun t ht hW => ⟨⟨(vME + 1, u_603.1, vMF_99, vMS_99, upd (upd (upd (upd vMe (4 * vME).toNatClampNeg x7_99) ((4 * vME) + 1).toNatClampNeg (vMo ((5 * (vMO - 1)) + 1).toNatClampNeg)) ((4 * vME) + 2).toNatClampNeg (vMo ((5 * (vMO - 1)) + 2).toNatClampNeg)) ((4 * vME) + 3).toNatClampNeg (vMo ((5 * (vMO - 1)) + 4).toNatClampNeg), u_603.2), rfl, hres.symm, ⟨by rw [ht]; exact hP, va_K.moved hW.alike hK, x_N hN hW⟩, hD⟩, hS.F ht⟩) hS.2.2 qd_M_one_606
  have hres := hres.trans (if_neg c_390)
  have ho := (if_neg c_390).mp ho
  refine lv_aload_n hx hb qd_M_one_393 rfl (lv_at hl 8 rfl) ?_
  refine lv_aload_n hx hb qd_M_one_394 rfl (lv_at hl 8 rfl) ?_
  refine va_get (D := (dC, dI)) (ci := 7) (v := .ref aMi) (C := qR_M) (T := qT_M) (N := 23) hx hb hg qi_M hown hK hP 0 rfl rfl 3 (by decide) (hg _ mw_577) (fun _ h9 => h9) rfl qd_M_one_395 ?_
  refine lv_iconst (v := 3) hx hb qd_M_one_398 (by decide) ?_
  refine lv_iload hx hb qd_M_one_399 (lv_at hl 1 rfl) ?_
  refine lv_imul hx hb qd_M_one_401 ?_
  refine lv_iconst (v := 2) hx hb qd_M_one_402 (by decide) ?_
  refine lv_iadd hx hb qd_M_one_403 ?_
  obtain ⟨g_404, ho⟩ := ho
  refine va_iald hx hb hK hP 2 0 rfl rfl g_404 qd_M_one_404 ?_
  refine lv_aload_n hx hb qd_M_one_405 rfl (lv_at hl 8 rfl) ?_
  refine va_get (D := (dC, dI)) (ci := 7) (v := .int vMS_99) (C := qR_M) (T := qT_M) (N := 23) hx hb hg qi_M hown hK hP 0 rfl rfl 18 (by decide) (hg _ mw_592) (fun _ h9 => h9) rfl qd_M_one_406 ?_
  refine lv_iload_n hx hb qd_M_one_409 rfl (lv_at hl 5 rfl) ?_
  obtain ⟨g_410, ho⟩ := ho
  refine xc_V (As := [.int (vMi ((3 * x7_99) + 2).toNatClampNeg), .int vMS_99, .int (vMo ((5 * (vMO - 1)) + 2).toNatClampNeg)]) (rest := []) ⟨hx, hb, hml, hown, hg⟩ (c_M_many l dC dI cA cZ aM aMh aMi aMc aMt aMn aMl aMs aMd aMe aMo aMw aMu vMT vMP vMK vMB vMD (vME + 1) (vMO - 1) vMF_99 vMS_99 vMX vMW vMt vMn (vMi ((3 * x7_99) + 2).toNatClampNeg) vMS_99 (vMo ((5 * (vMO - 1)) + 2).toNatClampNeg) g_410) (cwV 3 hg (q_gV mw_682 mw_683 mw_779 mw_8 mw_684) rfl rfl rfl qh_M_many ⟨Nat.le_of_ble_eq_true rfl, Nat.le_of_ble_eq_true rfl⟩) hN hK hP [0, 4, 5] rfl 0 7 rfl rfl rfl hl.1 rfl (Nat.le_of_ble_eq_true rfl) qd_M_one_410 ⟨Nat.zero_le _, Nat.zero_le _⟩ ?_
  refine lv_topi (fun r_410 w_410 => ?_)
  have hres := hres.trans (bd_eq w_410)
  have ho := (bd_eq w_410).mp ho
  refine lv_goto (tgt := 417) hx hb qd_M_one_413 (by decide) ?_
  refine lv_istore (lv' := [(9, .int r_410), (8, .int r_382), (7, .int x7_99), (6, .int (vMl r_87.toNatClampNeg)), (5, .int (vMo ((5 * (vMO - 1)) + 4).toNatClampNeg)), (4, .int x4_99), (3, .int (vMo ((5 * (vMO - 1)) + 2).toNatClampNeg)), (2, .int (vMo ((5 * (vMO - 1)) + 1).toNatClampNeg)), (1, .int (vMo (5 * (vMO - 1)).toNatClampNeg)), (0, .ref aM)]) hx hb qd_M_one_417 hl (by decide) rfl (fun ls hl => ?_)
  refine lv_iload hx hb qd_M_one_419 (lv_at hl 1 rfl) ?_
  refine lv_iconst (v := 1) hx hb qd_M_one_421 (by decide) ?_
  refine lv_icmp_le (tgt := 456) hx hb qd_M_one_422 (by decide) (fun c_422 => ?_) (fun c_422 => ?_)
  · have hres := hres.trans (if_pos c_422)
    have ho := (if_pos c_422).mp ho
    refine lv_iconst (v := 1) hx hb qd_M_one_456 (by decide) ?_
    refine lv_istore (lv' := [(10, .int 1), (9, .int r_410), (8, .int r_382), (7, .int x7_99), (6, .int (vMl r_87.toNatClampNeg)), (5, .int (vMo ((5 * (vMO - 1)) + 4).toNatClampNeg)), (4, .int x4_99), (3, .int (vMo ((5 * (vMO - 1)) + 2).toNatClampNeg)), (2, .int (vMo ((5 * (vMO - 1)) + 1).toNatClampNeg)), (1, .int (vMo (5 * (vMO - 1)).toNatClampNeg)), (0, .ref aM)]) hx hb qd_M_one_457 hl (by decide) rfl (fun ls hl => ?_)
    refine lv_iload hx hb qd_M_one_459 (lv_at hl 6 rfl) ?_
    refine lv_if_ge (tgt := 468) hx hb qd_M_one_461 (by decide) (fun c_461 => ?_) (fun c_461 => ?_)
    · have hres := hres.trans (if_pos c_461)
      have ho := (if_pos c_461).mp ho
      refine lv_iload hx hb qd_M_one_468 (lv_at hl 6 rfl) ?_
      refine lv_iload hx hb qd_M_one_470 (lv_at hl 0 rfl) ?_
      refine lv_irem hx hb qd_M_one_472 (by decide) ?_
      refine lv_istore (lv' := [(11, .int (x4_99 - x4_99 / 1 * 1)), (10, .int 1), (9, .int r_410), (8, .int r_382), (7, .int x7_99), (6, .int (vMl r_87.toNatClampNeg)), (5, .int (vMo ((5 * (vMO - 1)) + 4).toNatClampNeg)), (4, .int x4_99), (3, .int (vMo ((5 * (vMO - 1)) + 2).toNatClampNeg)), (2, .int (vMo ((5 * (vMO - 1)) + 1).toNatClampNeg)), (1, .int (vMo (5 * (vMO - 1)).toNatClampNeg)), (0, .ref aM)]) hx hb qd_M_one_473 hl (by decide) rfl (fun ls hl => ?_)
      refine lv_aload_n hx hb qd_M_one_475 rfl (lv_at hl 11 rfl) ?_
      refine va_get (D := (dC, dI)) (ci := 7) (v := .int vMF_99) (C := qR_M) (T := qT_M) (N := 23) hx hb hg qi_M hown hK hP 0 rfl rfl 17 (by decide) (hg _ mw_591) (fun _ h9 => h9) rfl qd_M_one_476 ?_
      refine lv_istore (lv' := [(12, .int vMF_99), (11, .int (x4_99 - x4_99 / 1 * 1)), (10, .int 1), (9, .int r_410), (8, .int r_382), (7, .int x7_99), (6, .int (vMl r_87.toNatClampNeg)), (5, .int (vMo ((5 * (vMO - 1)) + 4).toNatClampNeg)), (4, .int x4_99), (3, .int (vMo ((5 * (vMO - 1)) + 2).toNatClampNeg)), (2, .int (vMo ((5 * (vMO - 1)) + 1).toNatClampNeg)), (1, .int (vMo (5 * (vMO - 1)).toNatClampNeg)), (0, .ref aM)]) hx hb qd_M_one_479 hl (by decide) rfl (fun ls hl => ?_)
      refine lv_aload_n hx hb qd_M_one_481 rfl (lv_at hl 12 rfl) ?_
      refine va_get (D := (dC, dI)) (ci := 7) (v := .int vMS_99) (C := qR_M) (T := qT_M) (N := 23) hx hb hg qi_M hown hK hP 0 rfl rfl 18 (by decide) (hg _ mw_592) (fun _ h9 => h9) rfl qd_M_one_482 ?_
      refine lv_istore (lv' := [(13, .int vMS_99), (12, .int vMF_99), (11, .int (x4_99 - x4_99 / 1 * 1)), (10, .int 1), (9, .int r_410), (8, .int r_382), (7, .int x7_99), (6, .int (vMl r_87.toNatClampNeg)), (5, .int (vMo ((5 * (vMO - 1)) + 4).toNatClampNeg)), (4, .int x4_99), (3, .int (vMo ((5 * (vMO - 1)) + 2).toNatClampNeg)), (2, .int (vMo ((5 * (vMO - 1)) + 1).toNatClampNeg)), (1, .int (vMo (5 * (vMO - 1)).toNatClampNeg)), (0, .ref aM)]) hx hb qd_M_one_485 hl (by decide) rfl (fun ls hl => ?_)
      refine lv_iload hx hb qd_M_one_487 (lv_at hl 5 rfl) ?_
      refine lv_iconst (v := 2) hx hb qd_M_one_489 (by decide) ?_
      refine lv_icmp_le (tgt := 529) hx hb qd_M_one_490 (by decide) (fun c_490 => ?_) (fun c_490 => ?_)
      · exact absurd c_490 c_390
      refine lv_aload_n hx hb qd_M_one_493 rfl (lv_at hl 13 rfl) ?_
      refine lv_aload_n hx hb qd_M_one_494 rfl (lv_at hl 13 rfl) ?_
      refine va_get (D := (dC, dI)) (ci := 7) (v := .ref aMi) (C := qR_M) (T := qT_M) (N := 23) hx hb hg qi_M hown hK hP 0 rfl rfl 3 (by decide) (hg _ mw_577) (fun _ h9 => h9) rfl qd_M_one_495 ?_
      refine lv_iconst (v := 3) hx hb qd_M_one_498 (by decide) ?_
      refine lv_iload hx hb qd_M_one_499 (lv_at hl 6 rfl) ?_
      refine lv_imul hx hb qd_M_one_501 ?_
      refine lv_iconst (v := 2) hx hb qd_M_one_502 (by decide) ?_
      refine lv_iadd hx hb qd_M_one_503 ?_
      obtain ⟨g_504, ho⟩ := ho
      refine va_iald hx hb hK hP 2 0 rfl rfl g_504 qd_M_one_504 ?_
      refine lv_iload hx hb qd_M_one_505 (lv_at hl 0 rfl) ?_
      refine lv_iload_n hx hb qd_M_one_507 rfl (lv_at hl 10 rfl) ?_
      refine lv_iload hx hb qd_M_one_508 (lv_at hl 9 rfl) ?_
      refine lv_if_ge (tgt := 517) hx hb qd_M_one_510 (by decide) (fun c_510 => ?_) (fun c_510 => ?_)
      rotate_left
      · exact absurd c_461 c_510
      refine lv_iload hx hb qd_M_one_517 (lv_at hl 2 rfl) ?_
      refine lv_iload hx hb qd_M_one_519 (lv_at hl 4 rfl) ?_
      obtain ⟨g_521, ho⟩ := ho
      refine lv_irem hx hb qd_M_one_521 g_521 ?_
      refine lv_iload hx hb qd_M_one_522 (lv_at hl 8 rfl) ?_
      refine lv_iconst (v := 1) hx hb qd_M_one_524 (by decide) ?_
      refine lv_iadd hx hb qd_M_one_525 ?_
      obtain ⟨g_526, ho⟩ := ho
      refine xm_Vv (As := [.int (vMi ((3 * x7_99) + 2).toNatClampNeg), .int vMS_99, .int (vMo ((5 * (vMO - 1)) + 2).toNatClampNeg), .int ((x4_99 - x4_99 / 1 * 1) - (x4_99 - x4_99 / 1 * 1) / r_410 * r_410), .int ((vMo ((5 * (vMO - 1)) + 4).toNatClampNeg) + 1)]) (rest := []) (w1 := fun (u_526 : Int32 × (Nat → Int32)) => [(aM, .inr (7, [.int vMT, .int vMP, .ref aMh, .ref aMi, .ref aMc, .int vMK, .ref aMt, .int vMB, .ref aMn, .ref aMl, .ref aMs, .int vMD, .ref aMd, .int (vME + 1), .ref aMe, .int u_526.1, .ref aMo, .int vMF_99, .int vMS_99, .ref aMw, .ref aMu, .int vMX, .int vMW])), (aMo, .inl (cA, 10000, .inl (u_526.2)))]) (w2 := fun (u_526 : Int32 × (Nat → Int32)) => [(aM, .inr (7, [.int vMT, .int vMP, .ref aMh, .ref aMi, .ref aMc, .int vMK, .ref aMt, .int vMB, .ref aMn, .ref aMl, .ref aMs, .int vMD, .ref aMd, .int (vME + 1), .ref aMe, .int u_526.1, .ref aMo, .int vMF_99, .int vMS_99, .ref aMw, .ref aMu, .int vMX, .int vMW])), (aMh, .inl (cA, 24, .inl (vMh))), (aMi, .inl (cA, 72, .inl (vMi))), (aMc, .inl (cA, 24, .inl (vMc))), (aMt, .inl (cA, 24, .inl (vMt))), (aMn, .inl (cA, 6250, .inl (vMn))), (aMl, .inl (cA, 6250, .inl (vMl))), (aMe, .inl (cA, 4000, .inl (upd (upd (upd (upd vMe (4 * vME).toNatClampNeg x7_99) ((4 * vME) + 1).toNatClampNeg (vMo ((5 * (vMO - 1)) + 1).toNatClampNeg)) ((4 * vME) + 2).toNatClampNeg (vMo ((5 * (vMO - 1)) + 2).toNatClampNeg)) ((4 * vME) + 3).toNatClampNeg (vMo ((5 * (vMO - 1)) + 4).toNatClampNeg)))), (aMo, .inl (cA, 10000, .inl (u_526.2)))]) ⟨hx, hb, hml, hown, hg⟩ (c_M_asksItem l dC dI cA cZ aM aMh aMi aMc aMt aMn aMl aMs aMd aMe aMo aMw aMu _ vMT vMP vMK vMB vMD (vME + 1) (vMO - 1) vMF_99 vMS_99 vMX vMW vMo (vMi ((3 * x7_99) + 2).toNatClampNeg) vMS_99 (vMo ((5 * (vMO - 1)) + 2).toNatClampNeg) ((x4_99 - x4_99 / 1 * 1) - (x4_99 - x4_99 / 1 * 1) / r_410 * r_410) ((vMo ((5 * (vMO - 1)) + 4).toNatClampNeg) + 1) g_526) (cwV 5 hg (q_gV mw_720 mw_721 mw_785 mw_8 mw_722) rfl rfl rfl qh_M_asksItem ⟨Nat.le_of_ble_eq_true rfl, Nat.le_of_ble_eq_true rfl⟩) hN hK hP hD hS hA [0, 8] [1, 2, 3, 4, 5, 6, 7] rfl rfl (by decide) (by decide) (by decide) [7, 0, 1, 2, 3, 4, 5, 6, 8] (fun _ => rfl) (by decide) 0 7 rfl rfl rfl hl.1 rfl (Nat.le_of_ble_eq_true rfl) qd_M_one_526 ⟨Nat.zero_le _, Nat.zero_le _⟩ (fun u_526 H locs w_526 hP hD hS => ?_)
      have hP : va_P (dC, dI) vwCl [(aM, .inr (7, [.int vMT, .int vMP, .ref aMh, .ref aMi, .ref aMc, .int vMK, .ref aMt, .int vMB, .ref aMn, .ref aMl, .ref aMs, .int vMD, .ref aMd, .int (vME + 1), .ref aMe, .int u_526.1, .ref aMo, .int vMF_99, .int vMS_99, .ref aMw, .ref aMu, .int vMX, .int vMW])), (aMh, .inl (cA, 24, .inl (vMh))), (aMi, .inl (cA, 72, .inl (vMi))), (aMc, .inl (cA, 24, .inl (vMc))), (aMt, .inl (cA, 24, .inl (vMt))), (aMn, .inl (cA, 6250, .inl (vMn))), (aMl, .inl (cA, 6250, .inl (vMl))), (aMe, .inl (cA, 4000, .inl (upd (upd (upd (upd vMe (4 * vME).toNatClampNeg x7_99) ((4 * vME) + 1).toNatClampNeg (vMo ((5 * (vMO - 1)) + 1).toNatClampNeg)) ((4 * vME) + 2).toNatClampNeg (vMo ((5 * (vMO - 1)) + 2).toNatClampNeg)) ((4 * vME) + 3).toNatClampNeg (vMo ((5 * (vMO - 1)) + 4).toNatClampNeg)))), (aMo, .inl (cA, 10000, .inl (u_526.2)))] H := hP
      have hD : va_D A [(aM, .inr (7, [.int vMT, .int vMP, .ref aMh, .ref aMi, .ref aMc, .int vMK, .ref aMt, .int vMB, .ref aMn, .ref aMl, .ref aMs, .int vMD, .ref aMd, .int (vME + 1), .ref aMe, .int u_526.1, .ref aMo, .int vMF_99, .int vMS_99, .ref aMw, .ref aMu, .int vMX, .int vMW])), (aMh, .inl (cA, 24, .inl (vMh))), (aMi, .inl (cA, 72, .inl (vMi))), (aMc, .inl (cA, 24, .inl (vMc))), (aMt, .inl (cA, 24, .inl (vMt))), (aMn, .inl (cA, 6250, .inl (vMn))), (aMl, .inl (cA, 6250, .inl (vMl))), (aMe, .inl (cA, 4000, .inl (upd (upd (upd (upd vMe (4 * vME).toNatClampNeg x7_99) ((4 * vME) + 1).toNatClampNeg (vMo ((5 * (vMO - 1)) + 1).toNatClampNeg)) ((4 * vME) + 2).toNatClampNeg (vMo ((5 * (vMO - 1)) + 2).toNatClampNeg)) ((4 * vME) + 3).toNatClampNeg (vMo ((5 * (vMO - 1)) + 4).toNatClampNeg)))), (aMo, .inl (cA, 10000, .inl (u_526.2)))] := hD
      have hres := hres.trans (bd_eq w_526)
      have ho := (bd_eq w_526).mp ho
      refine lv_iload hx hb qd_M_one_529 (lv_at hl 5 rfl) ?_
      refine lv_iconst (v := 1) hx hb qd_M_one_531 (by decide) ?_
      refine lv_icmp_le (tgt := 572) hx hb qd_M_one_532 (by decide) (fun c_532 => ?_) (fun c_532 => ?_)
      rotate_left
      · exact absurd c_422 c_532
      refine lv_aload_n hx hb qd_M_one_572 rfl (lv_at hl 13 rfl) ?_
      refine lv_aload_n hx hb qd_M_one_573 rfl (lv_at hl 13 rfl) ?_
      refine va_get (D := (dC, dI)) (ci := 7) (v := .ref aMi) (C := qR_M) (T := qT_M) (N := 23) hx hb hg qi_M hown hK hP 0 rfl rfl 3 (by decide) (hg _ mw_577) (fun _ h9 => h9) rfl qd_M_one_574 ?_
      refine lv_iconst (v := 3) hx hb qd_M_one_577 (by decide) ?_
      refine lv_iload hx hb qd_M_one_578 (lv_at hl 6 rfl) ?_
      refine lv_imul hx hb qd_M_one_580 ?_
      obtain ⟨g_581, ho⟩ := ho
      refine va_iald hx hb hK hP 2 0 rfl rfl g_581 qd_M_one_581 ?_
      refine lv_iload_n hx hb qd_M_one_582 rfl (lv_at hl 11 rfl) ?_
      refine lv_iload hx hb qd_M_one_583 (lv_at hl 1 rfl) ?_
      refine lv_iload hx hb qd_M_one_585 (lv_at hl 9 rfl) ?_
      refine lv_if_ge (tgt := 594) hx hb qd_M_one_587 (by decide) (fun c_587 => ?_) (fun c_587 => ?_)
      rotate_left
      · exact absurd c_461 c_587
      refine lv_iload hx hb qd_M_one_594 (lv_at hl 9 rfl) ?_
      refine lv_iload hx hb qd_M_one_596 (lv_at hl 3 rfl) ?_
      refine lv_idiv hx hb qd_M_one_598 (by decide) ?_
      refine lv_iload hx hb qd_M_one_599 (lv_at hl 8 rfl) ?_
      refine lv_iconst (v := 1) hx hb qd_M_one_601 (by decide) ?_
      refine lv_iadd hx hb qd_M_one_602 ?_
      obtain ⟨g_603, ho⟩ := ho
      refine xm_Vv (As := [.int (vMi (3 * x7_99).toNatClampNeg), .int (vMo ((5 * (vMO - 1)) + 1).toNatClampNeg), .int vMF_99, .int (x4_99 / 1), .int ((vMo ((5 * (vMO - 1)) + 4).toNatClampNeg) + 1)]) (rest := []) (w1 := fun (u_603 : Int32 × (Nat → Int32)) => [(aM, .inr (7, [.int vMT, .int vMP, .ref aMh, .ref aMi, .ref aMc, .int vMK, .ref aMt, .int vMB, .ref aMn, .ref aMl, .ref aMs, .int vMD, .ref aMd, .int (vME + 1), .ref aMe, .int u_603.1, .ref aMo, .int vMF_99, .int vMS_99, .ref aMw, .ref aMu, .int vMX, .int vMW])), (aMo, .inl (cA, 10000, .inl (u_603.2)))]) (w2 := fun (u_603 : Int32 × (Nat → Int32)) => [(aM, .inr (7, [.int vMT, .int vMP, .ref aMh, .ref aMi, .ref aMc, .int vMK, .ref aMt, .int vMB, .ref aMn, .ref aMl, .ref aMs, .int vMD, .ref aMd, .int (vME + 1), .ref aMe, .int u_603.1, .ref aMo, .int vMF_99, .int vMS_99, .ref aMw, .ref aMu, .int vMX, .int vMW])), (aMh, .inl (cA, 24, .inl (vMh))), (aMi, .inl (cA, 72, .inl (vMi))), (aMc, .inl (cA, 24, .inl (vMc))), (aMt, .inl (cA, 24, .inl (vMt))), (aMn, .inl (cA, 6250, .inl (vMn))), (aMl, .inl (cA, 6250, .inl (vMl))), (aMe, .inl (cA, 4000, .inl (upd (upd (upd (upd vMe (4 * vME).toNatClampNeg x7_99) ((4 * vME) + 1).toNatClampNeg (vMo ((5 * (vMO - 1)) + 1).toNatClampNeg)) ((4 * vME) + 2).toNatClampNeg (vMo ((5 * (vMO - 1)) + 2).toNatClampNeg)) ((4 * vME) + 3).toNatClampNeg (vMo ((5 * (vMO - 1)) + 4).toNatClampNeg)))), (aMo, .inl (cA, 10000, .inl (u_603.2)))]) ⟨hx, hb, hml, hown, hg⟩ (c_M_asksItem l dC dI cA cZ aM aMh aMi aMc aMt aMn aMl aMs aMd aMe aMo aMw aMu _ vMT vMP vMK vMB vMD (vME + 1) u_526.1 vMF_99 vMS_99 vMX vMW u_526.2 (vMi (3 * x7_99).toNatClampNeg) (vMo ((5 * (vMO - 1)) + 1).toNatClampNeg) vMF_99 (x4_99 / 1) ((vMo ((5 * (vMO - 1)) + 4).toNatClampNeg) + 1) g_603) (cwV 5 hg (q_gV mw_720 mw_721 mw_785 mw_8 mw_722) rfl rfl rfl qh_M_asksItem ⟨Nat.le_of_ble_eq_true rfl, Nat.le_of_ble_eq_true rfl⟩) hN hK hP hD hS hA [0, 8] [1, 2, 3, 4, 5, 6, 7] rfl rfl (by decide) (by decide) (by decide) [7, 0, 1, 2, 3, 4, 5, 6, 8] (fun _ => rfl) (by decide) 0 7 rfl rfl rfl hl.1 rfl (Nat.le_of_ble_eq_true rfl) qd_M_one_603 ⟨Nat.zero_le _, Nat.zero_le _⟩ (fun u_603 H locs w_603 hP hD hS => ?_)
      have hP : va_P (dC, dI) vwCl [(aM, .inr (7, [.int vMT, .int vMP, .ref aMh, .ref aMi, .ref aMc, .int vMK, .ref aMt, .int vMB, .ref aMn, .ref aMl, .ref aMs, .int vMD, .ref aMd, .int (vME + 1), .ref aMe, .int u_603.1, .ref aMo, .int vMF_99, .int vMS_99, .ref aMw, .ref aMu, .int vMX, .int vMW])), (aMh, .inl (cA, 24, .inl (vMh))), (aMi, .inl (cA, 72, .inl (vMi))), (aMc, .inl (cA, 24, .inl (vMc))), (aMt, .inl (cA, 24, .inl (vMt))), (aMn, .inl (cA, 6250, .inl (vMn))), (aMl, .inl (cA, 6250, .inl (vMl))), (aMe, .inl (cA, 4000, .inl (upd (upd (upd (upd vMe (4 * vME).toNatClampNeg x7_99) ((4 * vME) + 1).toNatClampNeg (vMo ((5 * (vMO - 1)) + 1).toNatClampNeg)) ((4 * vME) + 2).toNatClampNeg (vMo ((5 * (vMO - 1)) + 2).toNatClampNeg)) ((4 * vME) + 3).toNatClampNeg (vMo ((5 * (vMO - 1)) + 4).toNatClampNeg)))), (aMo, .inl (cA, 10000, .inl (u_603.2)))] H := hP
      have hD : va_D A [(aM, .inr (7, [.int vMT, .int vMP, .ref aMh, .ref aMi, .ref aMc, .int vMK, .ref aMt, .int vMB, .ref aMn, .ref aMl, .ref aMs, .int vMD, .ref aMd, .int (vME + 1), .ref aMe, .int u_603.1, .ref aMo, .int vMF_99, .int vMS_99, .ref aMw, .ref aMu, .int vMX, .int vMW])), (aMh, .inl (cA, 24, .inl (vMh))), (aMi, .inl (cA, 72, .inl (vMi))), (aMc, .inl (cA, 24, .inl (vMc))), (aMt, .inl (cA, 24, .inl (vMt))), (aMn, .inl (cA, 6250, .inl (vMn))), (aMl, .inl (cA, 6250, .inl (vMl))), (aMe, .inl (cA, 4000, .inl (upd (upd (upd (upd vMe (4 * vME).toNatClampNeg x7_99) ((4 * vME) + 1).toNatClampNeg (vMo ((5 * (vMO - 1)) + 1).toNatClampNeg)) ((4 * vME) + 2).toNatClampNeg (vMo ((5 * (vMO - 1)) + 2).toNatClampNeg)) ((4 * vME) + 3).toNatClampNeg (vMo ((5 * (vMO - 1)) + 4).toNatClampNeg)))), (aMo, .inl (cA, 10000, .inl (u_603.2)))] := hD
      have hres := hres.trans (bd_eq w_603)
      have ho := (bd_eq w_603).mp ho
      subst hQ
      exact W.vret hx hb hr (fun t ht hW => ⟨⟨(vME + 1, u_603.1, vMF_99, vMS_99, upd (upd (upd (upd vMe (4 * vME).toNatClampNeg x7_99) ((4 * vME) + 1).toNatClampNeg (vMo ((5 * (vMO - 1)) + 1).toNatClampNeg)) ((4 * vME) + 2).toNatClampNeg (vMo ((5 * (vMO - 1)) + 2).toNatClampNeg)) ((4 * vME) + 3).toNatClampNeg (vMo ((5 * (vMO - 1)) + 4).toNatClampNeg), u_603.2), rfl, hres.symm, ⟨by rw [ht]; exact hP, va_K.moved hW.alike hK, x_N hN hW⟩, hD⟩, hS.F ht⟩) hS.2.2 qd_M_one_606
    have hres := hres.trans (if_neg c_461)
    have ho := (if_neg c_461).mp ho
    refine lv_iconst (v := 0) hx hb qd_M_one_464 (by decide) ?_
    refine lv_goto (tgt := 473) hx hb qd_M_one_465 (by decide) ?_
    refine lv_istore (lv' := [(11, .int 0), (10, .int 1), (9, .int r_410), (8, .int r_382), (7, .int x7_99), (6, .int (vMl r_87.toNatClampNeg)), (5, .int (vMo ((5 * (vMO - 1)) + 4).toNatClampNeg)), (4, .int x4_99), (3, .int (vMo ((5 * (vMO - 1)) + 2).toNatClampNeg)), (2, .int (vMo ((5 * (vMO - 1)) + 1).toNatClampNeg)), (1, .int (vMo (5 * (vMO - 1)).toNatClampNeg)), (0, .ref aM)]) hx hb qd_M_one_473 hl (by decide) rfl (fun ls hl => ?_)
    refine lv_aload_n hx hb qd_M_one_475 rfl (lv_at hl 11 rfl) ?_
    refine va_get (D := (dC, dI)) (ci := 7) (v := .int vMF_99) (C := qR_M) (T := qT_M) (N := 23) hx hb hg qi_M hown hK hP 0 rfl rfl 17 (by decide) (hg _ mw_591) (fun _ h9 => h9) rfl qd_M_one_476 ?_
    refine lv_istore (lv' := [(12, .int vMF_99), (11, .int 0), (10, .int 1), (9, .int r_410), (8, .int r_382), (7, .int x7_99), (6, .int (vMl r_87.toNatClampNeg)), (5, .int (vMo ((5 * (vMO - 1)) + 4).toNatClampNeg)), (4, .int x4_99), (3, .int (vMo ((5 * (vMO - 1)) + 2).toNatClampNeg)), (2, .int (vMo ((5 * (vMO - 1)) + 1).toNatClampNeg)), (1, .int (vMo (5 * (vMO - 1)).toNatClampNeg)), (0, .ref aM)]) hx hb qd_M_one_479 hl (by decide) rfl (fun ls hl => ?_)
    refine lv_aload_n hx hb qd_M_one_481 rfl (lv_at hl 12 rfl) ?_
    refine va_get (D := (dC, dI)) (ci := 7) (v := .int vMS_99) (C := qR_M) (T := qT_M) (N := 23) hx hb hg qi_M hown hK hP 0 rfl rfl 18 (by decide) (hg _ mw_592) (fun _ h9 => h9) rfl qd_M_one_482 ?_
    refine lv_istore (lv' := [(13, .int vMS_99), (12, .int vMF_99), (11, .int 0), (10, .int 1), (9, .int r_410), (8, .int r_382), (7, .int x7_99), (6, .int (vMl r_87.toNatClampNeg)), (5, .int (vMo ((5 * (vMO - 1)) + 4).toNatClampNeg)), (4, .int x4_99), (3, .int (vMo ((5 * (vMO - 1)) + 2).toNatClampNeg)), (2, .int (vMo ((5 * (vMO - 1)) + 1).toNatClampNeg)), (1, .int (vMo (5 * (vMO - 1)).toNatClampNeg)), (0, .ref aM)]) hx hb qd_M_one_485 hl (by decide) rfl (fun ls hl => ?_)
    refine lv_iload hx hb qd_M_one_487 (lv_at hl 5 rfl) ?_
    refine lv_iconst (v := 2) hx hb qd_M_one_489 (by decide) ?_
    refine lv_icmp_le (tgt := 529) hx hb qd_M_one_490 (by decide) (fun c_490 => ?_) (fun c_490 => ?_)
    · exact absurd c_490 c_390
    refine lv_aload_n hx hb qd_M_one_493 rfl (lv_at hl 13 rfl) ?_
    refine lv_aload_n hx hb qd_M_one_494 rfl (lv_at hl 13 rfl) ?_
    refine va_get (D := (dC, dI)) (ci := 7) (v := .ref aMi) (C := qR_M) (T := qT_M) (N := 23) hx hb hg qi_M hown hK hP 0 rfl rfl 3 (by decide) (hg _ mw_577) (fun _ h9 => h9) rfl qd_M_one_495 ?_
    refine lv_iconst (v := 3) hx hb qd_M_one_498 (by decide) ?_
    refine lv_iload hx hb qd_M_one_499 (lv_at hl 6 rfl) ?_
    refine lv_imul hx hb qd_M_one_501 ?_
    refine lv_iconst (v := 2) hx hb qd_M_one_502 (by decide) ?_
    refine lv_iadd hx hb qd_M_one_503 ?_
    obtain ⟨g_504, ho⟩ := ho
    refine va_iald hx hb hK hP 2 0 rfl rfl g_504 qd_M_one_504 ?_
    refine lv_iload hx hb qd_M_one_505 (lv_at hl 0 rfl) ?_
    refine lv_iload_n hx hb qd_M_one_507 rfl (lv_at hl 10 rfl) ?_
    refine lv_iload hx hb qd_M_one_508 (lv_at hl 9 rfl) ?_
    refine lv_if_ge (tgt := 517) hx hb qd_M_one_510 (by decide) (fun c_510 => ?_) (fun c_510 => ?_)
    · exact absurd c_510 c_461
    refine lv_iconst (v := (-1)) hx hb qd_M_one_513 (by decide) ?_
    refine lv_goto (tgt := 522) hx hb qd_M_one_514 (by decide) ?_
    refine lv_iload hx hb qd_M_one_522 (lv_at hl 8 rfl) ?_
    refine lv_iconst (v := 1) hx hb qd_M_one_524 (by decide) ?_
    refine lv_iadd hx hb qd_M_one_525 ?_
    obtain ⟨g_526, ho⟩ := ho
    refine xm_Vv (As := [.int (vMi ((3 * x7_99) + 2).toNatClampNeg), .int vMS_99, .int (vMo ((5 * (vMO - 1)) + 2).toNatClampNeg), .int ((-1)), .int ((vMo ((5 * (vMO - 1)) + 4).toNatClampNeg) + 1)]) (rest := []) (w1 := fun (u_526 : Int32 × (Nat → Int32)) => [(aM, .inr (7, [.int vMT, .int vMP, .ref aMh, .ref aMi, .ref aMc, .int vMK, .ref aMt, .int vMB, .ref aMn, .ref aMl, .ref aMs, .int vMD, .ref aMd, .int (vME + 1), .ref aMe, .int u_526.1, .ref aMo, .int vMF_99, .int vMS_99, .ref aMw, .ref aMu, .int vMX, .int vMW])), (aMo, .inl (cA, 10000, .inl (u_526.2)))]) (w2 := fun (u_526 : Int32 × (Nat → Int32)) => [(aM, .inr (7, [.int vMT, .int vMP, .ref aMh, .ref aMi, .ref aMc, .int vMK, .ref aMt, .int vMB, .ref aMn, .ref aMl, .ref aMs, .int vMD, .ref aMd, .int (vME + 1), .ref aMe, .int u_526.1, .ref aMo, .int vMF_99, .int vMS_99, .ref aMw, .ref aMu, .int vMX, .int vMW])), (aMh, .inl (cA, 24, .inl (vMh))), (aMi, .inl (cA, 72, .inl (vMi))), (aMc, .inl (cA, 24, .inl (vMc))), (aMt, .inl (cA, 24, .inl (vMt))), (aMn, .inl (cA, 6250, .inl (vMn))), (aMl, .inl (cA, 6250, .inl (vMl))), (aMe, .inl (cA, 4000, .inl (upd (upd (upd (upd vMe (4 * vME).toNatClampNeg x7_99) ((4 * vME) + 1).toNatClampNeg (vMo ((5 * (vMO - 1)) + 1).toNatClampNeg)) ((4 * vME) + 2).toNatClampNeg (vMo ((5 * (vMO - 1)) + 2).toNatClampNeg)) ((4 * vME) + 3).toNatClampNeg (vMo ((5 * (vMO - 1)) + 4).toNatClampNeg)))), (aMo, .inl (cA, 10000, .inl (u_526.2)))]) ⟨hx, hb, hml, hown, hg⟩ (c_M_asksItem l dC dI cA cZ aM aMh aMi aMc aMt aMn aMl aMs aMd aMe aMo aMw aMu _ vMT vMP vMK vMB vMD (vME + 1) (vMO - 1) vMF_99 vMS_99 vMX vMW vMo (vMi ((3 * x7_99) + 2).toNatClampNeg) vMS_99 (vMo ((5 * (vMO - 1)) + 2).toNatClampNeg) ((-1)) ((vMo ((5 * (vMO - 1)) + 4).toNatClampNeg) + 1) g_526) (cwV 5 hg (q_gV mw_720 mw_721 mw_785 mw_8 mw_722) rfl rfl rfl qh_M_asksItem ⟨Nat.le_of_ble_eq_true rfl, Nat.le_of_ble_eq_true rfl⟩) hN hK hP hD hS hA [0, 8] [1, 2, 3, 4, 5, 6, 7] rfl rfl (by decide) (by decide) (by decide) [7, 0, 1, 2, 3, 4, 5, 6, 8] (fun _ => rfl) (by decide) 0 7 rfl rfl rfl hl.1 rfl (Nat.le_of_ble_eq_true rfl) qd_M_one_526 ⟨Nat.zero_le _, Nat.zero_le _⟩ (fun u_526 H locs w_526 hP hD hS => ?_)
    have hP : va_P (dC, dI) vwCl [(aM, .inr (7, [.int vMT, .int vMP, .ref aMh, .ref aMi, .ref aMc, .int vMK, .ref aMt, .int vMB, .ref aMn, .ref aMl, .ref aMs, .int vMD, .ref aMd, .int (vME + 1), .ref aMe, .int u_526.1, .ref aMo, .int vMF_99, .int vMS_99, .ref aMw, .ref aMu, .int vMX, .int vMW])), (aMh, .inl (cA, 24, .inl (vMh))), (aMi, .inl (cA, 72, .inl (vMi))), (aMc, .inl (cA, 24, .inl (vMc))), (aMt, .inl (cA, 24, .inl (vMt))), (aMn, .inl (cA, 6250, .inl (vMn))), (aMl, .inl (cA, 6250, .inl (vMl))), (aMe, .inl (cA, 4000, .inl (upd (upd (upd (upd vMe (4 * vME).toNatClampNeg x7_99) ((4 * vME) + 1).toNatClampNeg (vMo ((5 * (vMO - 1)) + 1).toNatClampNeg)) ((4 * vME) + 2).toNatClampNeg (vMo ((5 * (vMO - 1)) + 2).toNatClampNeg)) ((4 * vME) + 3).toNatClampNeg (vMo ((5 * (vMO - 1)) + 4).toNatClampNeg)))), (aMo, .inl (cA, 10000, .inl (u_526.2)))] H := hP
    have hD : va_D A [(aM, .inr (7, [.int vMT, .int vMP, .ref aMh, .ref aMi, .ref aMc, .int vMK, .ref aMt, .int vMB, .ref aMn, .ref aMl, .ref aMs, .int vMD, .ref aMd, .int (vME + 1), .ref aMe, .int u_526.1, .ref aMo, .int vMF_99, .int vMS_99, .ref aMw, .ref aMu, .int vMX, .int vMW])), (aMh, .inl (cA, 24, .inl (vMh))), (aMi, .inl (cA, 72, .inl (vMi))), (aMc, .inl (cA, 24, .inl (vMc))), (aMt, .inl (cA, 24, .inl (vMt))), (aMn, .inl (cA, 6250, .inl (vMn))), (aMl, .inl (cA, 6250, .inl (vMl))), (aMe, .inl (cA, 4000, .inl (upd (upd (upd (upd vMe (4 * vME).toNatClampNeg x7_99) ((4 * vME) + 1).toNatClampNeg (vMo ((5 * (vMO - 1)) + 1).toNatClampNeg)) ((4 * vME) + 2).toNatClampNeg (vMo ((5 * (vMO - 1)) + 2).toNatClampNeg)) ((4 * vME) + 3).toNatClampNeg (vMo ((5 * (vMO - 1)) + 4).toNatClampNeg)))), (aMo, .inl (cA, 10000, .inl (u_526.2)))] := hD
    have hres := hres.trans (bd_eq w_526)
    have ho := (bd_eq w_526).mp ho
    refine lv_iload hx hb qd_M_one_529 (lv_at hl 5 rfl) ?_
    refine lv_iconst (v := 1) hx hb qd_M_one_531 (by decide) ?_
    refine lv_icmp_le (tgt := 572) hx hb qd_M_one_532 (by decide) (fun c_532 => ?_) (fun c_532 => ?_)
    rotate_left
    · exact absurd c_422 c_532
    refine lv_aload_n hx hb qd_M_one_572 rfl (lv_at hl 13 rfl) ?_
    refine lv_aload_n hx hb qd_M_one_573 rfl (lv_at hl 13 rfl) ?_
    refine va_get (D := (dC, dI)) (ci := 7) (v := .ref aMi) (C := qR_M) (T := qT_M) (N := 23) hx hb hg qi_M hown hK hP 0 rfl rfl 3 (by decide) (hg _ mw_577) (fun _ h9 => h9) rfl qd_M_one_574 ?_
    refine lv_iconst (v := 3) hx hb qd_M_one_577 (by decide) ?_
    refine lv_iload hx hb qd_M_one_578 (lv_at hl 6 rfl) ?_
    refine lv_imul hx hb qd_M_one_580 ?_
    obtain ⟨g_581, ho⟩ := ho
    refine va_iald hx hb hK hP 2 0 rfl rfl g_581 qd_M_one_581 ?_
    refine lv_iload_n hx hb qd_M_one_582 rfl (lv_at hl 11 rfl) ?_
    refine lv_iload hx hb qd_M_one_583 (lv_at hl 1 rfl) ?_
    refine lv_iload hx hb qd_M_one_585 (lv_at hl 9 rfl) ?_
    refine lv_if_ge (tgt := 594) hx hb qd_M_one_587 (by decide) (fun c_587 => ?_) (fun c_587 => ?_)
    · exact absurd c_587 c_461
    refine lv_iconst (v := (-1)) hx hb qd_M_one_590 (by decide) ?_
    refine lv_goto (tgt := 599) hx hb qd_M_one_591 (by decide) ?_
    refine lv_iload hx hb qd_M_one_599 (lv_at hl 8 rfl) ?_
    refine lv_iconst (v := 1) hx hb qd_M_one_601 (by decide) ?_
    refine lv_iadd hx hb qd_M_one_602 ?_
    obtain ⟨g_603, ho⟩ := ho
    refine xm_Vv (As := [.int (vMi (3 * x7_99).toNatClampNeg), .int (vMo ((5 * (vMO - 1)) + 1).toNatClampNeg), .int vMF_99, .int ((-1)), .int ((vMo ((5 * (vMO - 1)) + 4).toNatClampNeg) + 1)]) (rest := []) (w1 := fun (u_603 : Int32 × (Nat → Int32)) => [(aM, .inr (7, [.int vMT, .int vMP, .ref aMh, .ref aMi, .ref aMc, .int vMK, .ref aMt, .int vMB, .ref aMn, .ref aMl, .ref aMs, .int vMD, .ref aMd, .int (vME + 1), .ref aMe, .int u_603.1, .ref aMo, .int vMF_99, .int vMS_99, .ref aMw, .ref aMu, .int vMX, .int vMW])), (aMo, .inl (cA, 10000, .inl (u_603.2)))]) (w2 := fun (u_603 : Int32 × (Nat → Int32)) => [(aM, .inr (7, [.int vMT, .int vMP, .ref aMh, .ref aMi, .ref aMc, .int vMK, .ref aMt, .int vMB, .ref aMn, .ref aMl, .ref aMs, .int vMD, .ref aMd, .int (vME + 1), .ref aMe, .int u_603.1, .ref aMo, .int vMF_99, .int vMS_99, .ref aMw, .ref aMu, .int vMX, .int vMW])), (aMh, .inl (cA, 24, .inl (vMh))), (aMi, .inl (cA, 72, .inl (vMi))), (aMc, .inl (cA, 24, .inl (vMc))), (aMt, .inl (cA, 24, .inl (vMt))), (aMn, .inl (cA, 6250, .inl (vMn))), (aMl, .inl (cA, 6250, .inl (vMl))), (aMe, .inl (cA, 4000, .inl (upd (upd (upd (upd vMe (4 * vME).toNatClampNeg x7_99) ((4 * vME) + 1).toNatClampNeg (vMo ((5 * (vMO - 1)) + 1).toNatClampNeg)) ((4 * vME) + 2).toNatClampNeg (vMo ((5 * (vMO - 1)) + 2).toNatClampNeg)) ((4 * vME) + 3).toNatClampNeg (vMo ((5 * (vMO - 1)) + 4).toNatClampNeg)))), (aMo, .inl (cA, 10000, .inl (u_603.2)))]) ⟨hx, hb, hml, hown, hg⟩ (c_M_asksItem l dC dI cA cZ aM aMh aMi aMc aMt aMn aMl aMs aMd aMe aMo aMw aMu _ vMT vMP vMK vMB vMD (vME + 1) u_526.1 vMF_99 vMS_99 vMX vMW u_526.2 (vMi (3 * x7_99).toNatClampNeg) (vMo ((5 * (vMO - 1)) + 1).toNatClampNeg) vMF_99 ((-1)) ((vMo ((5 * (vMO - 1)) + 4).toNatClampNeg) + 1) g_603) (cwV 5 hg (q_gV mw_720 mw_721 mw_785 mw_8 mw_722) rfl rfl rfl qh_M_asksItem ⟨Nat.le_of_ble_eq_true rfl, Nat.le_of_ble_eq_true rfl⟩) hN hK hP hD hS hA [0, 8] [1, 2, 3, 4, 5, 6, 7] rfl rfl (by decide) (by decide) (by decide) [7, 0, 1, 2, 3, 4, 5, 6, 8] (fun _ => rfl) (by decide) 0 7 rfl rfl rfl hl.1 rfl (Nat.le_of_ble_eq_true rfl) qd_M_one_603 ⟨Nat.zero_le _, Nat.zero_le _⟩ (fun u_603 H locs w_603 hP hD hS => ?_)
    have hP : va_P (dC, dI) vwCl [(aM, .inr (7, [.int vMT, .int vMP, .ref aMh, .ref aMi, .ref aMc, .int vMK, .ref aMt, .int vMB, .ref aMn, .ref aMl, .ref aMs, .int vMD, .ref aMd, .int (vME + 1), .ref aMe, .int u_603.1, .ref aMo, .int vMF_99, .int vMS_99, .ref aMw, .ref aMu, .int vMX, .int vMW])), (aMh, .inl (cA, 24, .inl (vMh))), (aMi, .inl (cA, 72, .inl (vMi))), (aMc, .inl (cA, 24, .inl (vMc))), (aMt, .inl (cA, 24, .inl (vMt))), (aMn, .inl (cA, 6250, .inl (vMn))), (aMl, .inl (cA, 6250, .inl (vMl))), (aMe, .inl (cA, 4000, .inl (upd (upd (upd (upd vMe (4 * vME).toNatClampNeg x7_99) ((4 * vME) + 1).toNatClampNeg (vMo ((5 * (vMO - 1)) + 1).toNatClampNeg)) ((4 * vME) + 2).toNatClampNeg (vMo ((5 * (vMO - 1)) + 2).toNatClampNeg)) ((4 * vME) + 3).toNatClampNeg (vMo ((5 * (vMO - 1)) + 4).toNatClampNeg)))), (aMo, .inl (cA, 10000, .inl (u_603.2)))] H := hP
    have hD : va_D A [(aM, .inr (7, [.int vMT, .int vMP, .ref aMh, .ref aMi, .ref aMc, .int vMK, .ref aMt, .int vMB, .ref aMn, .ref aMl, .ref aMs, .int vMD, .ref aMd, .int (vME + 1), .ref aMe, .int u_603.1, .ref aMo, .int vMF_99, .int vMS_99, .ref aMw, .ref aMu, .int vMX, .int vMW])), (aMh, .inl (cA, 24, .inl (vMh))), (aMi, .inl (cA, 72, .inl (vMi))), (aMc, .inl (cA, 24, .inl (vMc))), (aMt, .inl (cA, 24, .inl (vMt))), (aMn, .inl (cA, 6250, .inl (vMn))), (aMl, .inl (cA, 6250, .inl (vMl))), (aMe, .inl (cA, 4000, .inl (upd (upd (upd (upd vMe (4 * vME).toNatClampNeg x7_99) ((4 * vME) + 1).toNatClampNeg (vMo ((5 * (vMO - 1)) + 1).toNatClampNeg)) ((4 * vME) + 2).toNatClampNeg (vMo ((5 * (vMO - 1)) + 2).toNatClampNeg)) ((4 * vME) + 3).toNatClampNeg (vMo ((5 * (vMO - 1)) + 4).toNatClampNeg)))), (aMo, .inl (cA, 10000, .inl (u_603.2)))] := hD
    have hres := hres.trans (bd_eq w_603)
    have ho := (bd_eq w_603).mp ho
    subst hQ
    exact W.vret hx hb hr (fun t ht hW => ⟨⟨(vME + 1, u_603.1, vMF_99, vMS_99, upd (upd (upd (upd vMe (4 * vME).toNatClampNeg x7_99) ((4 * vME) + 1).toNatClampNeg (vMo ((5 * (vMO - 1)) + 1).toNatClampNeg)) ((4 * vME) + 2).toNatClampNeg (vMo ((5 * (vMO - 1)) + 2).toNatClampNeg)) ((4 * vME) + 3).toNatClampNeg (vMo ((5 * (vMO - 1)) + 4).toNatClampNeg), u_603.2), rfl, hres.symm, ⟨by rw [ht]; exact hP, va_K.moved hW.alike hK, x_N hN hW⟩, hD⟩, hS.F ht⟩) hS.2.2 qd_M_one_606
  have hres := hres.trans (if_neg c_422)
  have ho := (if_neg c_422).mp ho
  refine lv_aload_n hx hb qd_M_one_425 rfl (lv_at hl 9 rfl) ?_
  refine lv_aload_n hx hb qd_M_one_426 rfl (lv_at hl 9 rfl) ?_
  refine va_get (D := (dC, dI)) (ci := 7) (v := .ref aMi) (C := qR_M) (T := qT_M) (N := 23) hx hb hg qi_M hown hK hP 0 rfl rfl 3 (by decide) (hg _ mw_577) (fun _ h9 => h9) rfl qd_M_one_427 ?_
  refine lv_iconst (v := 3) hx hb qd_M_one_430 (by decide) ?_
  refine lv_iload hx hb qd_M_one_431 (lv_at hl 2 rfl) ?_
  refine lv_imul hx hb qd_M_one_433 ?_
  refine lv_iconst (v := 1) hx hb qd_M_one_434 (by decide) ?_
  refine lv_iadd hx hb qd_M_one_435 ?_
  obtain ⟨g_436, ho⟩ := ho
  refine va_iald hx hb hK hP 2 0 rfl rfl g_436 qd_M_one_436 ?_
  refine lv_aload_n hx hb qd_M_one_437 rfl (lv_at hl 9 rfl) ?_
  refine va_get (D := (dC, dI)) (ci := 7) (v := .int vMF_99) (C := qR_M) (T := qT_M) (N := 23) hx hb hg qi_M hown hK hP 0 rfl rfl 17 (by decide) (hg _ mw_591) (fun _ h9 => h9) rfl qd_M_one_438 ?_
  refine lv_aload_n hx hb qd_M_one_441 rfl (lv_at hl 9 rfl) ?_
  refine va_get (D := (dC, dI)) (ci := 7) (v := .int vMS_99) (C := qR_M) (T := qT_M) (N := 23) hx hb hg qi_M hown hK hP 0 rfl rfl 18 (by decide) (hg _ mw_592) (fun _ h9 => h9) rfl qd_M_one_442 ?_
  obtain ⟨g_445, ho⟩ := ho
  refine xc_V (As := [.int (vMi ((3 * x7_99) + 1).toNatClampNeg), .int vMF_99, .int vMS_99]) (rest := []) ⟨hx, hb, hml, hown, hg⟩ (c_M_many l dC dI cA cZ aM aMh aMi aMc aMt aMn aMl aMs aMd aMe aMo aMw aMu vMT vMP vMK vMB vMD (vME + 1) (vMO - 1) vMF_99 vMS_99 vMX vMW vMt vMn (vMi ((3 * x7_99) + 1).toNatClampNeg) vMF_99 vMS_99 g_445) (cwV 3 hg (q_gV mw_682 mw_683 mw_779 mw_8 mw_684) rfl rfl rfl qh_M_many ⟨Nat.le_of_ble_eq_true rfl, Nat.le_of_ble_eq_true rfl⟩) hN hK hP [0, 4, 5] rfl 0 7 rfl rfl rfl hl.1 rfl (Nat.le_of_ble_eq_true rfl) qd_M_one_445 ⟨Nat.zero_le _, Nat.zero_le _⟩ ?_
  refine lv_topi (fun r_445 w_445 => ?_)
  have hres := hres.trans (bd_eq w_445)
  have ho := (bd_eq w_445).mp ho
  refine lv_iload hx hb qd_M_one_448 (lv_at hl 0 rfl) ?_
  refine xc_S (As := [.int r_445, .int r_410]) (rest := []) ⟨hx, hb, hml, hown, hg⟩ (c_M_times l dC dI cA cZ r_445 r_410) (va_cwS 2 hg (q_gS mw_685 mw_686 mw_8 mw_687) rfl rfl rfl qh_M_times.2 ⟨Nat.le_of_ble_eq_true rfl, Nat.le_of_ble_eq_true rfl⟩) hN hK hP [] rfl rfl hl.1 rfl (Nat.le_of_ble_eq_true rfl) qd_M_one_450 ⟨Nat.zero_le _, Nat.zero_le _⟩ ?_
  refine lv_topi (fun r_450 w_450 => ?_)
  have hres := hres.trans (bd_eq w_450)
  have ho := (bd_eq w_450).mp ho
  refine lv_goto (tgt := 457) hx hb qd_M_one_453 (by decide) ?_
  refine lv_istore (lv' := [(10, .int r_450), (9, .int r_410), (8, .int r_382), (7, .int x7_99), (6, .int (vMl r_87.toNatClampNeg)), (5, .int (vMo ((5 * (vMO - 1)) + 4).toNatClampNeg)), (4, .int x4_99), (3, .int (vMo ((5 * (vMO - 1)) + 2).toNatClampNeg)), (2, .int (vMo ((5 * (vMO - 1)) + 1).toNatClampNeg)), (1, .int (vMo (5 * (vMO - 1)).toNatClampNeg)), (0, .ref aM)]) hx hb qd_M_one_457 hl (by decide) rfl (fun ls hl => ?_)
  refine lv_iload hx hb qd_M_one_459 (lv_at hl 6 rfl) ?_
  refine lv_if_ge (tgt := 468) hx hb qd_M_one_461 (by decide) (fun c_461 => ?_) (fun c_461 => ?_)
  · have hres := hres.trans (if_pos c_461)
    have ho := (if_pos c_461).mp ho
    refine lv_iload hx hb qd_M_one_468 (lv_at hl 6 rfl) ?_
    refine lv_iload hx hb qd_M_one_470 (lv_at hl 0 rfl) ?_
    obtain ⟨g_472, ho⟩ := ho
    refine lv_irem hx hb qd_M_one_472 g_472 ?_
    refine lv_istore (lv' := [(11, .int (x4_99 - x4_99 / r_450 * r_450)), (10, .int r_450), (9, .int r_410), (8, .int r_382), (7, .int x7_99), (6, .int (vMl r_87.toNatClampNeg)), (5, .int (vMo ((5 * (vMO - 1)) + 4).toNatClampNeg)), (4, .int x4_99), (3, .int (vMo ((5 * (vMO - 1)) + 2).toNatClampNeg)), (2, .int (vMo ((5 * (vMO - 1)) + 1).toNatClampNeg)), (1, .int (vMo (5 * (vMO - 1)).toNatClampNeg)), (0, .ref aM)]) hx hb qd_M_one_473 hl (by decide) rfl (fun ls hl => ?_)
    refine lv_aload_n hx hb qd_M_one_475 rfl (lv_at hl 11 rfl) ?_
    refine va_get (D := (dC, dI)) (ci := 7) (v := .int vMF_99) (C := qR_M) (T := qT_M) (N := 23) hx hb hg qi_M hown hK hP 0 rfl rfl 17 (by decide) (hg _ mw_591) (fun _ h9 => h9) rfl qd_M_one_476 ?_
    refine lv_istore (lv' := [(12, .int vMF_99), (11, .int (x4_99 - x4_99 / r_450 * r_450)), (10, .int r_450), (9, .int r_410), (8, .int r_382), (7, .int x7_99), (6, .int (vMl r_87.toNatClampNeg)), (5, .int (vMo ((5 * (vMO - 1)) + 4).toNatClampNeg)), (4, .int x4_99), (3, .int (vMo ((5 * (vMO - 1)) + 2).toNatClampNeg)), (2, .int (vMo ((5 * (vMO - 1)) + 1).toNatClampNeg)), (1, .int (vMo (5 * (vMO - 1)).toNatClampNeg)), (0, .ref aM)]) hx hb qd_M_one_479 hl (by decide) rfl (fun ls hl => ?_)
    refine lv_aload_n hx hb qd_M_one_481 rfl (lv_at hl 12 rfl) ?_
    refine va_get (D := (dC, dI)) (ci := 7) (v := .int vMS_99) (C := qR_M) (T := qT_M) (N := 23) hx hb hg qi_M hown hK hP 0 rfl rfl 18 (by decide) (hg _ mw_592) (fun _ h9 => h9) rfl qd_M_one_482 ?_
    refine lv_istore (lv' := [(13, .int vMS_99), (12, .int vMF_99), (11, .int (x4_99 - x4_99 / r_450 * r_450)), (10, .int r_450), (9, .int r_410), (8, .int r_382), (7, .int x7_99), (6, .int (vMl r_87.toNatClampNeg)), (5, .int (vMo ((5 * (vMO - 1)) + 4).toNatClampNeg)), (4, .int x4_99), (3, .int (vMo ((5 * (vMO - 1)) + 2).toNatClampNeg)), (2, .int (vMo ((5 * (vMO - 1)) + 1).toNatClampNeg)), (1, .int (vMo (5 * (vMO - 1)).toNatClampNeg)), (0, .ref aM)]) hx hb qd_M_one_485 hl (by decide) rfl (fun ls hl => ?_)
    refine lv_iload hx hb qd_M_one_487 (lv_at hl 5 rfl) ?_
    refine lv_iconst (v := 2) hx hb qd_M_one_489 (by decide) ?_
    refine lv_icmp_le (tgt := 529) hx hb qd_M_one_490 (by decide) (fun c_490 => ?_) (fun c_490 => ?_)
    · exact absurd c_490 c_390
    refine lv_aload_n hx hb qd_M_one_493 rfl (lv_at hl 13 rfl) ?_
    refine lv_aload_n hx hb qd_M_one_494 rfl (lv_at hl 13 rfl) ?_
    refine va_get (D := (dC, dI)) (ci := 7) (v := .ref aMi) (C := qR_M) (T := qT_M) (N := 23) hx hb hg qi_M hown hK hP 0 rfl rfl 3 (by decide) (hg _ mw_577) (fun _ h9 => h9) rfl qd_M_one_495 ?_
    refine lv_iconst (v := 3) hx hb qd_M_one_498 (by decide) ?_
    refine lv_iload hx hb qd_M_one_499 (lv_at hl 6 rfl) ?_
    refine lv_imul hx hb qd_M_one_501 ?_
    refine lv_iconst (v := 2) hx hb qd_M_one_502 (by decide) ?_
    refine lv_iadd hx hb qd_M_one_503 ?_
    obtain ⟨g_504, ho⟩ := ho
    refine va_iald hx hb hK hP 2 0 rfl rfl g_504 qd_M_one_504 ?_
    refine lv_iload hx hb qd_M_one_505 (lv_at hl 0 rfl) ?_
    refine lv_iload_n hx hb qd_M_one_507 rfl (lv_at hl 10 rfl) ?_
    refine lv_iload hx hb qd_M_one_508 (lv_at hl 9 rfl) ?_
    refine lv_if_ge (tgt := 517) hx hb qd_M_one_510 (by decide) (fun c_510 => ?_) (fun c_510 => ?_)
    rotate_left
    · exact absurd c_461 c_510
    refine lv_iload hx hb qd_M_one_517 (lv_at hl 2 rfl) ?_
    refine lv_iload hx hb qd_M_one_519 (lv_at hl 4 rfl) ?_
    obtain ⟨g_521, ho⟩ := ho
    refine lv_irem hx hb qd_M_one_521 g_521 ?_
    refine lv_iload hx hb qd_M_one_522 (lv_at hl 8 rfl) ?_
    refine lv_iconst (v := 1) hx hb qd_M_one_524 (by decide) ?_
    refine lv_iadd hx hb qd_M_one_525 ?_
    obtain ⟨g_526, ho⟩ := ho
    refine xm_Vv (As := [.int (vMi ((3 * x7_99) + 2).toNatClampNeg), .int vMS_99, .int (vMo ((5 * (vMO - 1)) + 2).toNatClampNeg), .int ((x4_99 - x4_99 / r_450 * r_450) - (x4_99 - x4_99 / r_450 * r_450) / r_410 * r_410), .int ((vMo ((5 * (vMO - 1)) + 4).toNatClampNeg) + 1)]) (rest := []) (w1 := fun (u_526 : Int32 × (Nat → Int32)) => [(aM, .inr (7, [.int vMT, .int vMP, .ref aMh, .ref aMi, .ref aMc, .int vMK, .ref aMt, .int vMB, .ref aMn, .ref aMl, .ref aMs, .int vMD, .ref aMd, .int (vME + 1), .ref aMe, .int u_526.1, .ref aMo, .int vMF_99, .int vMS_99, .ref aMw, .ref aMu, .int vMX, .int vMW])), (aMo, .inl (cA, 10000, .inl (u_526.2)))]) (w2 := fun (u_526 : Int32 × (Nat → Int32)) => [(aM, .inr (7, [.int vMT, .int vMP, .ref aMh, .ref aMi, .ref aMc, .int vMK, .ref aMt, .int vMB, .ref aMn, .ref aMl, .ref aMs, .int vMD, .ref aMd, .int (vME + 1), .ref aMe, .int u_526.1, .ref aMo, .int vMF_99, .int vMS_99, .ref aMw, .ref aMu, .int vMX, .int vMW])), (aMh, .inl (cA, 24, .inl (vMh))), (aMi, .inl (cA, 72, .inl (vMi))), (aMc, .inl (cA, 24, .inl (vMc))), (aMt, .inl (cA, 24, .inl (vMt))), (aMn, .inl (cA, 6250, .inl (vMn))), (aMl, .inl (cA, 6250, .inl (vMl))), (aMe, .inl (cA, 4000, .inl (upd (upd (upd (upd vMe (4 * vME).toNatClampNeg x7_99) ((4 * vME) + 1).toNatClampNeg (vMo ((5 * (vMO - 1)) + 1).toNatClampNeg)) ((4 * vME) + 2).toNatClampNeg (vMo ((5 * (vMO - 1)) + 2).toNatClampNeg)) ((4 * vME) + 3).toNatClampNeg (vMo ((5 * (vMO - 1)) + 4).toNatClampNeg)))), (aMo, .inl (cA, 10000, .inl (u_526.2)))]) ⟨hx, hb, hml, hown, hg⟩ (c_M_asksItem l dC dI cA cZ aM aMh aMi aMc aMt aMn aMl aMs aMd aMe aMo aMw aMu _ vMT vMP vMK vMB vMD (vME + 1) (vMO - 1) vMF_99 vMS_99 vMX vMW vMo (vMi ((3 * x7_99) + 2).toNatClampNeg) vMS_99 (vMo ((5 * (vMO - 1)) + 2).toNatClampNeg) ((x4_99 - x4_99 / r_450 * r_450) - (x4_99 - x4_99 / r_450 * r_450) / r_410 * r_410) ((vMo ((5 * (vMO - 1)) + 4).toNatClampNeg) + 1) g_526) (cwV 5 hg (q_gV mw_720 mw_721 mw_785 mw_8 mw_722) rfl rfl rfl qh_M_asksItem ⟨Nat.le_of_ble_eq_true rfl, Nat.le_of_ble_eq_true rfl⟩) hN hK hP hD hS hA [0, 8] [1, 2, 3, 4, 5, 6, 7] rfl rfl (by decide) (by decide) (by decide) [7, 0, 1, 2, 3, 4, 5, 6, 8] (fun _ => rfl) (by decide) 0 7 rfl rfl rfl hl.1 rfl (Nat.le_of_ble_eq_true rfl) qd_M_one_526 ⟨Nat.zero_le _, Nat.zero_le _⟩ (fun u_526 H locs w_526 hP hD hS => ?_)
    have hP : va_P (dC, dI) vwCl [(aM, .inr (7, [.int vMT, .int vMP, .ref aMh, .ref aMi, .ref aMc, .int vMK, .ref aMt, .int vMB, .ref aMn, .ref aMl, .ref aMs, .int vMD, .ref aMd, .int (vME + 1), .ref aMe, .int u_526.1, .ref aMo, .int vMF_99, .int vMS_99, .ref aMw, .ref aMu, .int vMX, .int vMW])), (aMh, .inl (cA, 24, .inl (vMh))), (aMi, .inl (cA, 72, .inl (vMi))), (aMc, .inl (cA, 24, .inl (vMc))), (aMt, .inl (cA, 24, .inl (vMt))), (aMn, .inl (cA, 6250, .inl (vMn))), (aMl, .inl (cA, 6250, .inl (vMl))), (aMe, .inl (cA, 4000, .inl (upd (upd (upd (upd vMe (4 * vME).toNatClampNeg x7_99) ((4 * vME) + 1).toNatClampNeg (vMo ((5 * (vMO - 1)) + 1).toNatClampNeg)) ((4 * vME) + 2).toNatClampNeg (vMo ((5 * (vMO - 1)) + 2).toNatClampNeg)) ((4 * vME) + 3).toNatClampNeg (vMo ((5 * (vMO - 1)) + 4).toNatClampNeg)))), (aMo, .inl (cA, 10000, .inl (u_526.2)))] H := hP
    have hD : va_D A [(aM, .inr (7, [.int vMT, .int vMP, .ref aMh, .ref aMi, .ref aMc, .int vMK, .ref aMt, .int vMB, .ref aMn, .ref aMl, .ref aMs, .int vMD, .ref aMd, .int (vME + 1), .ref aMe, .int u_526.1, .ref aMo, .int vMF_99, .int vMS_99, .ref aMw, .ref aMu, .int vMX, .int vMW])), (aMh, .inl (cA, 24, .inl (vMh))), (aMi, .inl (cA, 72, .inl (vMi))), (aMc, .inl (cA, 24, .inl (vMc))), (aMt, .inl (cA, 24, .inl (vMt))), (aMn, .inl (cA, 6250, .inl (vMn))), (aMl, .inl (cA, 6250, .inl (vMl))), (aMe, .inl (cA, 4000, .inl (upd (upd (upd (upd vMe (4 * vME).toNatClampNeg x7_99) ((4 * vME) + 1).toNatClampNeg (vMo ((5 * (vMO - 1)) + 1).toNatClampNeg)) ((4 * vME) + 2).toNatClampNeg (vMo ((5 * (vMO - 1)) + 2).toNatClampNeg)) ((4 * vME) + 3).toNatClampNeg (vMo ((5 * (vMO - 1)) + 4).toNatClampNeg)))), (aMo, .inl (cA, 10000, .inl (u_526.2)))] := hD
    have hres := hres.trans (bd_eq w_526)
    have ho := (bd_eq w_526).mp ho
    refine lv_iload hx hb qd_M_one_529 (lv_at hl 5 rfl) ?_
    refine lv_iconst (v := 1) hx hb qd_M_one_531 (by decide) ?_
    refine lv_icmp_le (tgt := 572) hx hb qd_M_one_532 (by decide) (fun c_532 => ?_) (fun c_532 => ?_)
    · exact absurd c_532 c_422
    refine lv_aload_n hx hb qd_M_one_535 rfl (lv_at hl 13 rfl) ?_
    refine lv_aload_n hx hb qd_M_one_536 rfl (lv_at hl 13 rfl) ?_
    refine va_get (D := (dC, dI)) (ci := 7) (v := .ref aMi) (C := qR_M) (T := qT_M) (N := 23) hx hb hg qi_M hown hK hP 0 rfl rfl 3 (by decide) (hg _ mw_577) (fun _ h9 => h9) rfl qd_M_one_537 ?_
    refine lv_iconst (v := 3) hx hb qd_M_one_540 (by decide) ?_
    refine lv_iload hx hb qd_M_one_541 (lv_at hl 6 rfl) ?_
    refine lv_imul hx hb qd_M_one_543 ?_
    refine lv_iconst (v := 1) hx hb qd_M_one_544 (by decide) ?_
    refine lv_iadd hx hb qd_M_one_545 ?_
    obtain ⟨g_546, ho⟩ := ho
    refine va_iald hx hb hK hP 2 0 rfl rfl g_546 qd_M_one_546 ?_
    refine lv_iload hx hb qd_M_one_547 (lv_at hl 1 rfl) ?_
    refine lv_iload hx hb qd_M_one_549 (lv_at hl 0 rfl) ?_
    refine lv_iload hx hb qd_M_one_551 (lv_at hl 9 rfl) ?_
    refine lv_if_ge (tgt := 560) hx hb qd_M_one_553 (by decide) (fun c_553 => ?_) (fun c_553 => ?_)
    rotate_left
    · exact absurd c_461 c_553
    refine lv_iload hx hb qd_M_one_560 (lv_at hl 2 rfl) ?_
    refine lv_iload hx hb qd_M_one_562 (lv_at hl 4 rfl) ?_
    obtain ⟨g_564, ho⟩ := ho
    refine lv_idiv hx hb qd_M_one_564 g_564 ?_
    refine lv_iload hx hb qd_M_one_565 (lv_at hl 8 rfl) ?_
    refine lv_iconst (v := 1) hx hb qd_M_one_567 (by decide) ?_
    refine lv_iadd hx hb qd_M_one_568 ?_
    obtain ⟨g_569, ho⟩ := ho
    refine xm_Vv (As := [.int (vMi ((3 * x7_99) + 1).toNatClampNeg), .int vMF_99, .int vMS_99, .int ((x4_99 - x4_99 / r_450 * r_450) / r_410), .int ((vMo ((5 * (vMO - 1)) + 4).toNatClampNeg) + 1)]) (rest := []) (w1 := fun (u_569 : Int32 × (Nat → Int32)) => [(aM, .inr (7, [.int vMT, .int vMP, .ref aMh, .ref aMi, .ref aMc, .int vMK, .ref aMt, .int vMB, .ref aMn, .ref aMl, .ref aMs, .int vMD, .ref aMd, .int (vME + 1), .ref aMe, .int u_569.1, .ref aMo, .int vMF_99, .int vMS_99, .ref aMw, .ref aMu, .int vMX, .int vMW])), (aMo, .inl (cA, 10000, .inl (u_569.2)))]) (w2 := fun (u_569 : Int32 × (Nat → Int32)) => [(aM, .inr (7, [.int vMT, .int vMP, .ref aMh, .ref aMi, .ref aMc, .int vMK, .ref aMt, .int vMB, .ref aMn, .ref aMl, .ref aMs, .int vMD, .ref aMd, .int (vME + 1), .ref aMe, .int u_569.1, .ref aMo, .int vMF_99, .int vMS_99, .ref aMw, .ref aMu, .int vMX, .int vMW])), (aMh, .inl (cA, 24, .inl (vMh))), (aMi, .inl (cA, 72, .inl (vMi))), (aMc, .inl (cA, 24, .inl (vMc))), (aMt, .inl (cA, 24, .inl (vMt))), (aMn, .inl (cA, 6250, .inl (vMn))), (aMl, .inl (cA, 6250, .inl (vMl))), (aMe, .inl (cA, 4000, .inl (upd (upd (upd (upd vMe (4 * vME).toNatClampNeg x7_99) ((4 * vME) + 1).toNatClampNeg (vMo ((5 * (vMO - 1)) + 1).toNatClampNeg)) ((4 * vME) + 2).toNatClampNeg (vMo ((5 * (vMO - 1)) + 2).toNatClampNeg)) ((4 * vME) + 3).toNatClampNeg (vMo ((5 * (vMO - 1)) + 4).toNatClampNeg)))), (aMo, .inl (cA, 10000, .inl (u_569.2)))]) ⟨hx, hb, hml, hown, hg⟩ (c_M_asksItem l dC dI cA cZ aM aMh aMi aMc aMt aMn aMl aMs aMd aMe aMo aMw aMu _ vMT vMP vMK vMB vMD (vME + 1) u_526.1 vMF_99 vMS_99 vMX vMW u_526.2 (vMi ((3 * x7_99) + 1).toNatClampNeg) vMF_99 vMS_99 ((x4_99 - x4_99 / r_450 * r_450) / r_410) ((vMo ((5 * (vMO - 1)) + 4).toNatClampNeg) + 1) g_569) (cwV 5 hg (q_gV mw_720 mw_721 mw_785 mw_8 mw_722) rfl rfl rfl qh_M_asksItem ⟨Nat.le_of_ble_eq_true rfl, Nat.le_of_ble_eq_true rfl⟩) hN hK hP hD hS hA [0, 8] [1, 2, 3, 4, 5, 6, 7] rfl rfl (by decide) (by decide) (by decide) [7, 0, 1, 2, 3, 4, 5, 6, 8] (fun _ => rfl) (by decide) 0 7 rfl rfl rfl hl.1 rfl (Nat.le_of_ble_eq_true rfl) qd_M_one_569 ⟨Nat.zero_le _, Nat.zero_le _⟩ (fun u_569 H locs w_569 hP hD hS => ?_)
    have hP : va_P (dC, dI) vwCl [(aM, .inr (7, [.int vMT, .int vMP, .ref aMh, .ref aMi, .ref aMc, .int vMK, .ref aMt, .int vMB, .ref aMn, .ref aMl, .ref aMs, .int vMD, .ref aMd, .int (vME + 1), .ref aMe, .int u_569.1, .ref aMo, .int vMF_99, .int vMS_99, .ref aMw, .ref aMu, .int vMX, .int vMW])), (aMh, .inl (cA, 24, .inl (vMh))), (aMi, .inl (cA, 72, .inl (vMi))), (aMc, .inl (cA, 24, .inl (vMc))), (aMt, .inl (cA, 24, .inl (vMt))), (aMn, .inl (cA, 6250, .inl (vMn))), (aMl, .inl (cA, 6250, .inl (vMl))), (aMe, .inl (cA, 4000, .inl (upd (upd (upd (upd vMe (4 * vME).toNatClampNeg x7_99) ((4 * vME) + 1).toNatClampNeg (vMo ((5 * (vMO - 1)) + 1).toNatClampNeg)) ((4 * vME) + 2).toNatClampNeg (vMo ((5 * (vMO - 1)) + 2).toNatClampNeg)) ((4 * vME) + 3).toNatClampNeg (vMo ((5 * (vMO - 1)) + 4).toNatClampNeg)))), (aMo, .inl (cA, 10000, .inl (u_569.2)))] H := hP
    have hD : va_D A [(aM, .inr (7, [.int vMT, .int vMP, .ref aMh, .ref aMi, .ref aMc, .int vMK, .ref aMt, .int vMB, .ref aMn, .ref aMl, .ref aMs, .int vMD, .ref aMd, .int (vME + 1), .ref aMe, .int u_569.1, .ref aMo, .int vMF_99, .int vMS_99, .ref aMw, .ref aMu, .int vMX, .int vMW])), (aMh, .inl (cA, 24, .inl (vMh))), (aMi, .inl (cA, 72, .inl (vMi))), (aMc, .inl (cA, 24, .inl (vMc))), (aMt, .inl (cA, 24, .inl (vMt))), (aMn, .inl (cA, 6250, .inl (vMn))), (aMl, .inl (cA, 6250, .inl (vMl))), (aMe, .inl (cA, 4000, .inl (upd (upd (upd (upd vMe (4 * vME).toNatClampNeg x7_99) ((4 * vME) + 1).toNatClampNeg (vMo ((5 * (vMO - 1)) + 1).toNatClampNeg)) ((4 * vME) + 2).toNatClampNeg (vMo ((5 * (vMO - 1)) + 2).toNatClampNeg)) ((4 * vME) + 3).toNatClampNeg (vMo ((5 * (vMO - 1)) + 4).toNatClampNeg)))), (aMo, .inl (cA, 10000, .inl (u_569.2)))] := hD
    have hres := hres.trans (bd_eq w_569)
    have ho := (bd_eq w_569).mp ho
    refine lv_aload_n hx hb qd_M_one_572 rfl (lv_at hl 13 rfl) ?_
    refine lv_aload_n hx hb qd_M_one_573 rfl (lv_at hl 13 rfl) ?_
    refine va_get (D := (dC, dI)) (ci := 7) (v := .ref aMi) (C := qR_M) (T := qT_M) (N := 23) hx hb hg qi_M hown hK hP 0 rfl rfl 3 (by decide) (hg _ mw_577) (fun _ h9 => h9) rfl qd_M_one_574 ?_
    refine lv_iconst (v := 3) hx hb qd_M_one_577 (by decide) ?_
    refine lv_iload hx hb qd_M_one_578 (lv_at hl 6 rfl) ?_
    refine lv_imul hx hb qd_M_one_580 ?_
    obtain ⟨g_581, ho⟩ := ho
    refine va_iald hx hb hK hP 2 0 rfl rfl g_581 qd_M_one_581 ?_
    refine lv_iload_n hx hb qd_M_one_582 rfl (lv_at hl 11 rfl) ?_
    refine lv_iload hx hb qd_M_one_583 (lv_at hl 1 rfl) ?_
    refine lv_iload hx hb qd_M_one_585 (lv_at hl 9 rfl) ?_
    refine lv_if_ge (tgt := 594) hx hb qd_M_one_587 (by decide) (fun c_587 => ?_) (fun c_587 => ?_)
    rotate_left
    · exact absurd c_461 c_587
    refine lv_iload hx hb qd_M_one_594 (lv_at hl 9 rfl) ?_
    refine lv_iload hx hb qd_M_one_596 (lv_at hl 3 rfl) ?_
    obtain ⟨g_598, ho⟩ := ho
    refine lv_idiv hx hb qd_M_one_598 g_598 ?_
    refine lv_iload hx hb qd_M_one_599 (lv_at hl 8 rfl) ?_
    refine lv_iconst (v := 1) hx hb qd_M_one_601 (by decide) ?_
    refine lv_iadd hx hb qd_M_one_602 ?_
    obtain ⟨g_603, ho⟩ := ho
    refine xm_Vv (As := [.int (vMi (3 * x7_99).toNatClampNeg), .int (vMo ((5 * (vMO - 1)) + 1).toNatClampNeg), .int vMF_99, .int (x4_99 / r_450), .int ((vMo ((5 * (vMO - 1)) + 4).toNatClampNeg) + 1)]) (rest := []) (w1 := fun (u_603 : Int32 × (Nat → Int32)) => [(aM, .inr (7, [.int vMT, .int vMP, .ref aMh, .ref aMi, .ref aMc, .int vMK, .ref aMt, .int vMB, .ref aMn, .ref aMl, .ref aMs, .int vMD, .ref aMd, .int (vME + 1), .ref aMe, .int u_603.1, .ref aMo, .int vMF_99, .int vMS_99, .ref aMw, .ref aMu, .int vMX, .int vMW])), (aMo, .inl (cA, 10000, .inl (u_603.2)))]) (w2 := fun (u_603 : Int32 × (Nat → Int32)) => [(aM, .inr (7, [.int vMT, .int vMP, .ref aMh, .ref aMi, .ref aMc, .int vMK, .ref aMt, .int vMB, .ref aMn, .ref aMl, .ref aMs, .int vMD, .ref aMd, .int (vME + 1), .ref aMe, .int u_603.1, .ref aMo, .int vMF_99, .int vMS_99, .ref aMw, .ref aMu, .int vMX, .int vMW])), (aMh, .inl (cA, 24, .inl (vMh))), (aMi, .inl (cA, 72, .inl (vMi))), (aMc, .inl (cA, 24, .inl (vMc))), (aMt, .inl (cA, 24, .inl (vMt))), (aMn, .inl (cA, 6250, .inl (vMn))), (aMl, .inl (cA, 6250, .inl (vMl))), (aMe, .inl (cA, 4000, .inl (upd (upd (upd (upd vMe (4 * vME).toNatClampNeg x7_99) ((4 * vME) + 1).toNatClampNeg (vMo ((5 * (vMO - 1)) + 1).toNatClampNeg)) ((4 * vME) + 2).toNatClampNeg (vMo ((5 * (vMO - 1)) + 2).toNatClampNeg)) ((4 * vME) + 3).toNatClampNeg (vMo ((5 * (vMO - 1)) + 4).toNatClampNeg)))), (aMo, .inl (cA, 10000, .inl (u_603.2)))]) ⟨hx, hb, hml, hown, hg⟩ (c_M_asksItem l dC dI cA cZ aM aMh aMi aMc aMt aMn aMl aMs aMd aMe aMo aMw aMu _ vMT vMP vMK vMB vMD (vME + 1) u_569.1 vMF_99 vMS_99 vMX vMW u_569.2 (vMi (3 * x7_99).toNatClampNeg) (vMo ((5 * (vMO - 1)) + 1).toNatClampNeg) vMF_99 (x4_99 / r_450) ((vMo ((5 * (vMO - 1)) + 4).toNatClampNeg) + 1) g_603) (cwV 5 hg (q_gV mw_720 mw_721 mw_785 mw_8 mw_722) rfl rfl rfl qh_M_asksItem ⟨Nat.le_of_ble_eq_true rfl, Nat.le_of_ble_eq_true rfl⟩) hN hK hP hD hS hA [0, 8] [1, 2, 3, 4, 5, 6, 7] rfl rfl (by decide) (by decide) (by decide) [7, 0, 1, 2, 3, 4, 5, 6, 8] (fun _ => rfl) (by decide) 0 7 rfl rfl rfl hl.1 rfl (Nat.le_of_ble_eq_true rfl) qd_M_one_603 ⟨Nat.zero_le _, Nat.zero_le _⟩ (fun u_603 H locs w_603 hP hD hS => ?_)
    have hP : va_P (dC, dI) vwCl [(aM, .inr (7, [.int vMT, .int vMP, .ref aMh, .ref aMi, .ref aMc, .int vMK, .ref aMt, .int vMB, .ref aMn, .ref aMl, .ref aMs, .int vMD, .ref aMd, .int (vME + 1), .ref aMe, .int u_603.1, .ref aMo, .int vMF_99, .int vMS_99, .ref aMw, .ref aMu, .int vMX, .int vMW])), (aMh, .inl (cA, 24, .inl (vMh))), (aMi, .inl (cA, 72, .inl (vMi))), (aMc, .inl (cA, 24, .inl (vMc))), (aMt, .inl (cA, 24, .inl (vMt))), (aMn, .inl (cA, 6250, .inl (vMn))), (aMl, .inl (cA, 6250, .inl (vMl))), (aMe, .inl (cA, 4000, .inl (upd (upd (upd (upd vMe (4 * vME).toNatClampNeg x7_99) ((4 * vME) + 1).toNatClampNeg (vMo ((5 * (vMO - 1)) + 1).toNatClampNeg)) ((4 * vME) + 2).toNatClampNeg (vMo ((5 * (vMO - 1)) + 2).toNatClampNeg)) ((4 * vME) + 3).toNatClampNeg (vMo ((5 * (vMO - 1)) + 4).toNatClampNeg)))), (aMo, .inl (cA, 10000, .inl (u_603.2)))] H := hP
    have hD : va_D A [(aM, .inr (7, [.int vMT, .int vMP, .ref aMh, .ref aMi, .ref aMc, .int vMK, .ref aMt, .int vMB, .ref aMn, .ref aMl, .ref aMs, .int vMD, .ref aMd, .int (vME + 1), .ref aMe, .int u_603.1, .ref aMo, .int vMF_99, .int vMS_99, .ref aMw, .ref aMu, .int vMX, .int vMW])), (aMh, .inl (cA, 24, .inl (vMh))), (aMi, .inl (cA, 72, .inl (vMi))), (aMc, .inl (cA, 24, .inl (vMc))), (aMt, .inl (cA, 24, .inl (vMt))), (aMn, .inl (cA, 6250, .inl (vMn))), (aMl, .inl (cA, 6250, .inl (vMl))), (aMe, .inl (cA, 4000, .inl (upd (upd (upd (upd vMe (4 * vME).toNatClampNeg x7_99) ((4 * vME) + 1).toNatClampNeg (vMo ((5 * (vMO - 1)) + 1).toNatClampNeg)) ((4 * vME) + 2).toNatClampNeg (vMo ((5 * (vMO - 1)) + 2).toNatClampNeg)) ((4 * vME) + 3).toNatClampNeg (vMo ((5 * (vMO - 1)) + 4).toNatClampNeg)))), (aMo, .inl (cA, 10000, .inl (u_603.2)))] := hD
    have hres := hres.trans (bd_eq w_603)
    have ho := (bd_eq w_603).mp ho
    subst hQ
    exact W.vret hx hb hr (fun t ht hW => ⟨⟨(vME + 1, u_603.1, vMF_99, vMS_99, upd (upd (upd (upd vMe (4 * vME).toNatClampNeg x7_99) ((4 * vME) + 1).toNatClampNeg (vMo ((5 * (vMO - 1)) + 1).toNatClampNeg)) ((4 * vME) + 2).toNatClampNeg (vMo ((5 * (vMO - 1)) + 2).toNatClampNeg)) ((4 * vME) + 3).toNatClampNeg (vMo ((5 * (vMO - 1)) + 4).toNatClampNeg), u_603.2), rfl, hres.symm, ⟨by rw [ht]; exact hP, va_K.moved hW.alike hK, x_N hN hW⟩, hD⟩, hS.F ht⟩) hS.2.2 qd_M_one_606
  have hres := hres.trans (if_neg c_461)
  have ho := (if_neg c_461).mp ho
  refine lv_iconst (v := 0) hx hb qd_M_one_464 (by decide) ?_
  refine lv_goto (tgt := 473) hx hb qd_M_one_465 (by decide) ?_
  refine lv_istore (lv' := [(11, .int 0), (10, .int r_450), (9, .int r_410), (8, .int r_382), (7, .int x7_99), (6, .int (vMl r_87.toNatClampNeg)), (5, .int (vMo ((5 * (vMO - 1)) + 4).toNatClampNeg)), (4, .int x4_99), (3, .int (vMo ((5 * (vMO - 1)) + 2).toNatClampNeg)), (2, .int (vMo ((5 * (vMO - 1)) + 1).toNatClampNeg)), (1, .int (vMo (5 * (vMO - 1)).toNatClampNeg)), (0, .ref aM)]) hx hb qd_M_one_473 hl (by decide) rfl (fun ls hl => ?_)
  refine lv_aload_n hx hb qd_M_one_475 rfl (lv_at hl 11 rfl) ?_
  refine va_get (D := (dC, dI)) (ci := 7) (v := .int vMF_99) (C := qR_M) (T := qT_M) (N := 23) hx hb hg qi_M hown hK hP 0 rfl rfl 17 (by decide) (hg _ mw_591) (fun _ h9 => h9) rfl qd_M_one_476 ?_
  refine lv_istore (lv' := [(12, .int vMF_99), (11, .int 0), (10, .int r_450), (9, .int r_410), (8, .int r_382), (7, .int x7_99), (6, .int (vMl r_87.toNatClampNeg)), (5, .int (vMo ((5 * (vMO - 1)) + 4).toNatClampNeg)), (4, .int x4_99), (3, .int (vMo ((5 * (vMO - 1)) + 2).toNatClampNeg)), (2, .int (vMo ((5 * (vMO - 1)) + 1).toNatClampNeg)), (1, .int (vMo (5 * (vMO - 1)).toNatClampNeg)), (0, .ref aM)]) hx hb qd_M_one_479 hl (by decide) rfl (fun ls hl => ?_)
  refine lv_aload_n hx hb qd_M_one_481 rfl (lv_at hl 12 rfl) ?_
  refine va_get (D := (dC, dI)) (ci := 7) (v := .int vMS_99) (C := qR_M) (T := qT_M) (N := 23) hx hb hg qi_M hown hK hP 0 rfl rfl 18 (by decide) (hg _ mw_592) (fun _ h9 => h9) rfl qd_M_one_482 ?_
  refine lv_istore (lv' := [(13, .int vMS_99), (12, .int vMF_99), (11, .int 0), (10, .int r_450), (9, .int r_410), (8, .int r_382), (7, .int x7_99), (6, .int (vMl r_87.toNatClampNeg)), (5, .int (vMo ((5 * (vMO - 1)) + 4).toNatClampNeg)), (4, .int x4_99), (3, .int (vMo ((5 * (vMO - 1)) + 2).toNatClampNeg)), (2, .int (vMo ((5 * (vMO - 1)) + 1).toNatClampNeg)), (1, .int (vMo (5 * (vMO - 1)).toNatClampNeg)), (0, .ref aM)]) hx hb qd_M_one_485 hl (by decide) rfl (fun ls hl => ?_)
  refine lv_iload hx hb qd_M_one_487 (lv_at hl 5 rfl) ?_
  refine lv_iconst (v := 2) hx hb qd_M_one_489 (by decide) ?_
  refine lv_icmp_le (tgt := 529) hx hb qd_M_one_490 (by decide) (fun c_490 => ?_) (fun c_490 => ?_)
  · exact absurd c_490 c_390
  refine lv_aload_n hx hb qd_M_one_493 rfl (lv_at hl 13 rfl) ?_
  refine lv_aload_n hx hb qd_M_one_494 rfl (lv_at hl 13 rfl) ?_
  refine va_get (D := (dC, dI)) (ci := 7) (v := .ref aMi) (C := qR_M) (T := qT_M) (N := 23) hx hb hg qi_M hown hK hP 0 rfl rfl 3 (by decide) (hg _ mw_577) (fun _ h9 => h9) rfl qd_M_one_495 ?_
  refine lv_iconst (v := 3) hx hb qd_M_one_498 (by decide) ?_
  refine lv_iload hx hb qd_M_one_499 (lv_at hl 6 rfl) ?_
  refine lv_imul hx hb qd_M_one_501 ?_
  refine lv_iconst (v := 2) hx hb qd_M_one_502 (by decide) ?_
  refine lv_iadd hx hb qd_M_one_503 ?_
  obtain ⟨g_504, ho⟩ := ho
  refine va_iald hx hb hK hP 2 0 rfl rfl g_504 qd_M_one_504 ?_
  refine lv_iload hx hb qd_M_one_505 (lv_at hl 0 rfl) ?_
  refine lv_iload_n hx hb qd_M_one_507 rfl (lv_at hl 10 rfl) ?_
  refine lv_iload hx hb qd_M_one_508 (lv_at hl 9 rfl) ?_
  refine lv_if_ge (tgt := 517) hx hb qd_M_one_510 (by decide) (fun c_510 => ?_) (fun c_510 => ?_)
  · exact absurd c_510 c_461
  refine lv_iconst (v := (-1)) hx hb qd_M_one_513 (by decide) ?_
  refine lv_goto (tgt := 522) hx hb qd_M_one_514 (by decide) ?_
  refine lv_iload hx hb qd_M_one_522 (lv_at hl 8 rfl) ?_
  refine lv_iconst (v := 1) hx hb qd_M_one_524 (by decide) ?_
  refine lv_iadd hx hb qd_M_one_525 ?_
  obtain ⟨g_526, ho⟩ := ho
  refine xm_Vv (As := [.int (vMi ((3 * x7_99) + 2).toNatClampNeg), .int vMS_99, .int (vMo ((5 * (vMO - 1)) + 2).toNatClampNeg), .int ((-1)), .int ((vMo ((5 * (vMO - 1)) + 4).toNatClampNeg) + 1)]) (rest := []) (w1 := fun (u_526 : Int32 × (Nat → Int32)) => [(aM, .inr (7, [.int vMT, .int vMP, .ref aMh, .ref aMi, .ref aMc, .int vMK, .ref aMt, .int vMB, .ref aMn, .ref aMl, .ref aMs, .int vMD, .ref aMd, .int (vME + 1), .ref aMe, .int u_526.1, .ref aMo, .int vMF_99, .int vMS_99, .ref aMw, .ref aMu, .int vMX, .int vMW])), (aMo, .inl (cA, 10000, .inl (u_526.2)))]) (w2 := fun (u_526 : Int32 × (Nat → Int32)) => [(aM, .inr (7, [.int vMT, .int vMP, .ref aMh, .ref aMi, .ref aMc, .int vMK, .ref aMt, .int vMB, .ref aMn, .ref aMl, .ref aMs, .int vMD, .ref aMd, .int (vME + 1), .ref aMe, .int u_526.1, .ref aMo, .int vMF_99, .int vMS_99, .ref aMw, .ref aMu, .int vMX, .int vMW])), (aMh, .inl (cA, 24, .inl (vMh))), (aMi, .inl (cA, 72, .inl (vMi))), (aMc, .inl (cA, 24, .inl (vMc))), (aMt, .inl (cA, 24, .inl (vMt))), (aMn, .inl (cA, 6250, .inl (vMn))), (aMl, .inl (cA, 6250, .inl (vMl))), (aMe, .inl (cA, 4000, .inl (upd (upd (upd (upd vMe (4 * vME).toNatClampNeg x7_99) ((4 * vME) + 1).toNatClampNeg (vMo ((5 * (vMO - 1)) + 1).toNatClampNeg)) ((4 * vME) + 2).toNatClampNeg (vMo ((5 * (vMO - 1)) + 2).toNatClampNeg)) ((4 * vME) + 3).toNatClampNeg (vMo ((5 * (vMO - 1)) + 4).toNatClampNeg)))), (aMo, .inl (cA, 10000, .inl (u_526.2)))]) ⟨hx, hb, hml, hown, hg⟩ (c_M_asksItem l dC dI cA cZ aM aMh aMi aMc aMt aMn aMl aMs aMd aMe aMo aMw aMu _ vMT vMP vMK vMB vMD (vME + 1) (vMO - 1) vMF_99 vMS_99 vMX vMW vMo (vMi ((3 * x7_99) + 2).toNatClampNeg) vMS_99 (vMo ((5 * (vMO - 1)) + 2).toNatClampNeg) ((-1)) ((vMo ((5 * (vMO - 1)) + 4).toNatClampNeg) + 1) g_526) (cwV 5 hg (q_gV mw_720 mw_721 mw_785 mw_8 mw_722) rfl rfl rfl qh_M_asksItem ⟨Nat.le_of_ble_eq_true rfl, Nat.le_of_ble_eq_true rfl⟩) hN hK hP hD hS hA [0, 8] [1, 2, 3, 4, 5, 6, 7] rfl rfl (by decide) (by decide) (by decide) [7, 0, 1, 2, 3, 4, 5, 6, 8] (fun _ => rfl) (by decide) 0 7 rfl rfl rfl hl.1 rfl (Nat.le_of_ble_eq_true rfl) qd_M_one_526 ⟨Nat.zero_le _, Nat.zero_le _⟩ (fun u_526 H locs w_526 hP hD hS => ?_)
  have hP : va_P (dC, dI) vwCl [(aM, .inr (7, [.int vMT, .int vMP, .ref aMh, .ref aMi, .ref aMc, .int vMK, .ref aMt, .int vMB, .ref aMn, .ref aMl, .ref aMs, .int vMD, .ref aMd, .int (vME + 1), .ref aMe, .int u_526.1, .ref aMo, .int vMF_99, .int vMS_99, .ref aMw, .ref aMu, .int vMX, .int vMW])), (aMh, .inl (cA, 24, .inl (vMh))), (aMi, .inl (cA, 72, .inl (vMi))), (aMc, .inl (cA, 24, .inl (vMc))), (aMt, .inl (cA, 24, .inl (vMt))), (aMn, .inl (cA, 6250, .inl (vMn))), (aMl, .inl (cA, 6250, .inl (vMl))), (aMe, .inl (cA, 4000, .inl (upd (upd (upd (upd vMe (4 * vME).toNatClampNeg x7_99) ((4 * vME) + 1).toNatClampNeg (vMo ((5 * (vMO - 1)) + 1).toNatClampNeg)) ((4 * vME) + 2).toNatClampNeg (vMo ((5 * (vMO - 1)) + 2).toNatClampNeg)) ((4 * vME) + 3).toNatClampNeg (vMo ((5 * (vMO - 1)) + 4).toNatClampNeg)))), (aMo, .inl (cA, 10000, .inl (u_526.2)))] H := hP
  have hD : va_D A [(aM, .inr (7, [.int vMT, .int vMP, .ref aMh, .ref aMi, .ref aMc, .int vMK, .ref aMt, .int vMB, .ref aMn, .ref aMl, .ref aMs, .int vMD, .ref aMd, .int (vME + 1), .ref aMe, .int u_526.1, .ref aMo, .int vMF_99, .int vMS_99, .ref aMw, .ref aMu, .int vMX, .int vMW])), (aMh, .inl (cA, 24, .inl (vMh))), (aMi, .inl (cA, 72, .inl (vMi))), (aMc, .inl (cA, 24, .inl (vMc))), (aMt, .inl (cA, 24, .inl (vMt))), (aMn, .inl (cA, 6250, .inl (vMn))), (aMl, .inl (cA, 6250, .inl (vMl))), (aMe, .inl (cA, 4000, .inl (upd (upd (upd (upd vMe (4 * vME).toNatClampNeg x7_99) ((4 * vME) + 1).toNatClampNeg (vMo ((5 * (vMO - 1)) + 1).toNatClampNeg)) ((4 * vME) + 2).toNatClampNeg (vMo ((5 * (vMO - 1)) + 2).toNatClampNeg)) ((4 * vME) + 3).toNatClampNeg (vMo ((5 * (vMO - 1)) + 4).toNatClampNeg)))), (aMo, .inl (cA, 10000, .inl (u_526.2)))] := hD
  have hres := hres.trans (bd_eq w_526)
  have ho := (bd_eq w_526).mp ho
  refine lv_iload hx hb qd_M_one_529 (lv_at hl 5 rfl) ?_
  refine lv_iconst (v := 1) hx hb qd_M_one_531 (by decide) ?_
  refine lv_icmp_le (tgt := 572) hx hb qd_M_one_532 (by decide) (fun c_532 => ?_) (fun c_532 => ?_)
  · exact absurd c_532 c_422
  refine lv_aload_n hx hb qd_M_one_535 rfl (lv_at hl 13 rfl) ?_
  refine lv_aload_n hx hb qd_M_one_536 rfl (lv_at hl 13 rfl) ?_
  refine va_get (D := (dC, dI)) (ci := 7) (v := .ref aMi) (C := qR_M) (T := qT_M) (N := 23) hx hb hg qi_M hown hK hP 0 rfl rfl 3 (by decide) (hg _ mw_577) (fun _ h9 => h9) rfl qd_M_one_537 ?_
  refine lv_iconst (v := 3) hx hb qd_M_one_540 (by decide) ?_
  refine lv_iload hx hb qd_M_one_541 (lv_at hl 6 rfl) ?_
  refine lv_imul hx hb qd_M_one_543 ?_
  refine lv_iconst (v := 1) hx hb qd_M_one_544 (by decide) ?_
  refine lv_iadd hx hb qd_M_one_545 ?_
  obtain ⟨g_546, ho⟩ := ho
  refine va_iald hx hb hK hP 2 0 rfl rfl g_546 qd_M_one_546 ?_
  refine lv_iload hx hb qd_M_one_547 (lv_at hl 1 rfl) ?_
  refine lv_iload hx hb qd_M_one_549 (lv_at hl 0 rfl) ?_
  refine lv_iload hx hb qd_M_one_551 (lv_at hl 9 rfl) ?_
  refine lv_if_ge (tgt := 560) hx hb qd_M_one_553 (by decide) (fun c_553 => ?_) (fun c_553 => ?_)
  · exact absurd c_553 c_461
  refine lv_iconst (v := (-1)) hx hb qd_M_one_556 (by decide) ?_
  refine lv_goto (tgt := 565) hx hb qd_M_one_557 (by decide) ?_
  refine lv_iload hx hb qd_M_one_565 (lv_at hl 8 rfl) ?_
  refine lv_iconst (v := 1) hx hb qd_M_one_567 (by decide) ?_
  refine lv_iadd hx hb qd_M_one_568 ?_
  obtain ⟨g_569, ho⟩ := ho
  refine xm_Vv (As := [.int (vMi ((3 * x7_99) + 1).toNatClampNeg), .int vMF_99, .int vMS_99, .int ((-1)), .int ((vMo ((5 * (vMO - 1)) + 4).toNatClampNeg) + 1)]) (rest := []) (w1 := fun (u_569 : Int32 × (Nat → Int32)) => [(aM, .inr (7, [.int vMT, .int vMP, .ref aMh, .ref aMi, .ref aMc, .int vMK, .ref aMt, .int vMB, .ref aMn, .ref aMl, .ref aMs, .int vMD, .ref aMd, .int (vME + 1), .ref aMe, .int u_569.1, .ref aMo, .int vMF_99, .int vMS_99, .ref aMw, .ref aMu, .int vMX, .int vMW])), (aMo, .inl (cA, 10000, .inl (u_569.2)))]) (w2 := fun (u_569 : Int32 × (Nat → Int32)) => [(aM, .inr (7, [.int vMT, .int vMP, .ref aMh, .ref aMi, .ref aMc, .int vMK, .ref aMt, .int vMB, .ref aMn, .ref aMl, .ref aMs, .int vMD, .ref aMd, .int (vME + 1), .ref aMe, .int u_569.1, .ref aMo, .int vMF_99, .int vMS_99, .ref aMw, .ref aMu, .int vMX, .int vMW])), (aMh, .inl (cA, 24, .inl (vMh))), (aMi, .inl (cA, 72, .inl (vMi))), (aMc, .inl (cA, 24, .inl (vMc))), (aMt, .inl (cA, 24, .inl (vMt))), (aMn, .inl (cA, 6250, .inl (vMn))), (aMl, .inl (cA, 6250, .inl (vMl))), (aMe, .inl (cA, 4000, .inl (upd (upd (upd (upd vMe (4 * vME).toNatClampNeg x7_99) ((4 * vME) + 1).toNatClampNeg (vMo ((5 * (vMO - 1)) + 1).toNatClampNeg)) ((4 * vME) + 2).toNatClampNeg (vMo ((5 * (vMO - 1)) + 2).toNatClampNeg)) ((4 * vME) + 3).toNatClampNeg (vMo ((5 * (vMO - 1)) + 4).toNatClampNeg)))), (aMo, .inl (cA, 10000, .inl (u_569.2)))]) ⟨hx, hb, hml, hown, hg⟩ (c_M_asksItem l dC dI cA cZ aM aMh aMi aMc aMt aMn aMl aMs aMd aMe aMo aMw aMu _ vMT vMP vMK vMB vMD (vME + 1) u_526.1 vMF_99 vMS_99 vMX vMW u_526.2 (vMi ((3 * x7_99) + 1).toNatClampNeg) vMF_99 vMS_99 ((-1)) ((vMo ((5 * (vMO - 1)) + 4).toNatClampNeg) + 1) g_569) (cwV 5 hg (q_gV mw_720 mw_721 mw_785 mw_8 mw_722) rfl rfl rfl qh_M_asksItem ⟨Nat.le_of_ble_eq_true rfl, Nat.le_of_ble_eq_true rfl⟩) hN hK hP hD hS hA [0, 8] [1, 2, 3, 4, 5, 6, 7] rfl rfl (by decide) (by decide) (by decide) [7, 0, 1, 2, 3, 4, 5, 6, 8] (fun _ => rfl) (by decide) 0 7 rfl rfl rfl hl.1 rfl (Nat.le_of_ble_eq_true rfl) qd_M_one_569 ⟨Nat.zero_le _, Nat.zero_le _⟩ (fun u_569 H locs w_569 hP hD hS => ?_)
  have hP : va_P (dC, dI) vwCl [(aM, .inr (7, [.int vMT, .int vMP, .ref aMh, .ref aMi, .ref aMc, .int vMK, .ref aMt, .int vMB, .ref aMn, .ref aMl, .ref aMs, .int vMD, .ref aMd, .int (vME + 1), .ref aMe, .int u_569.1, .ref aMo, .int vMF_99, .int vMS_99, .ref aMw, .ref aMu, .int vMX, .int vMW])), (aMh, .inl (cA, 24, .inl (vMh))), (aMi, .inl (cA, 72, .inl (vMi))), (aMc, .inl (cA, 24, .inl (vMc))), (aMt, .inl (cA, 24, .inl (vMt))), (aMn, .inl (cA, 6250, .inl (vMn))), (aMl, .inl (cA, 6250, .inl (vMl))), (aMe, .inl (cA, 4000, .inl (upd (upd (upd (upd vMe (4 * vME).toNatClampNeg x7_99) ((4 * vME) + 1).toNatClampNeg (vMo ((5 * (vMO - 1)) + 1).toNatClampNeg)) ((4 * vME) + 2).toNatClampNeg (vMo ((5 * (vMO - 1)) + 2).toNatClampNeg)) ((4 * vME) + 3).toNatClampNeg (vMo ((5 * (vMO - 1)) + 4).toNatClampNeg)))), (aMo, .inl (cA, 10000, .inl (u_569.2)))] H := hP
  have hD : va_D A [(aM, .inr (7, [.int vMT, .int vMP, .ref aMh, .ref aMi, .ref aMc, .int vMK, .ref aMt, .int vMB, .ref aMn, .ref aMl, .ref aMs, .int vMD, .ref aMd, .int (vME + 1), .ref aMe, .int u_569.1, .ref aMo, .int vMF_99, .int vMS_99, .ref aMw, .ref aMu, .int vMX, .int vMW])), (aMh, .inl (cA, 24, .inl (vMh))), (aMi, .inl (cA, 72, .inl (vMi))), (aMc, .inl (cA, 24, .inl (vMc))), (aMt, .inl (cA, 24, .inl (vMt))), (aMn, .inl (cA, 6250, .inl (vMn))), (aMl, .inl (cA, 6250, .inl (vMl))), (aMe, .inl (cA, 4000, .inl (upd (upd (upd (upd vMe (4 * vME).toNatClampNeg x7_99) ((4 * vME) + 1).toNatClampNeg (vMo ((5 * (vMO - 1)) + 1).toNatClampNeg)) ((4 * vME) + 2).toNatClampNeg (vMo ((5 * (vMO - 1)) + 2).toNatClampNeg)) ((4 * vME) + 3).toNatClampNeg (vMo ((5 * (vMO - 1)) + 4).toNatClampNeg)))), (aMo, .inl (cA, 10000, .inl (u_569.2)))] := hD
  have hres := hres.trans (bd_eq w_569)
  have ho := (bd_eq w_569).mp ho
  refine lv_aload_n hx hb qd_M_one_572 rfl (lv_at hl 13 rfl) ?_
  refine lv_aload_n hx hb qd_M_one_573 rfl (lv_at hl 13 rfl) ?_
  refine va_get (D := (dC, dI)) (ci := 7) (v := .ref aMi) (C := qR_M) (T := qT_M) (N := 23) hx hb hg qi_M hown hK hP 0 rfl rfl 3 (by decide) (hg _ mw_577) (fun _ h9 => h9) rfl qd_M_one_574 ?_
  refine lv_iconst (v := 3) hx hb qd_M_one_577 (by decide) ?_
  refine lv_iload hx hb qd_M_one_578 (lv_at hl 6 rfl) ?_
  refine lv_imul hx hb qd_M_one_580 ?_
  obtain ⟨g_581, ho⟩ := ho
  refine va_iald hx hb hK hP 2 0 rfl rfl g_581 qd_M_one_581 ?_
  refine lv_iload_n hx hb qd_M_one_582 rfl (lv_at hl 11 rfl) ?_
  refine lv_iload hx hb qd_M_one_583 (lv_at hl 1 rfl) ?_
  refine lv_iload hx hb qd_M_one_585 (lv_at hl 9 rfl) ?_
  refine lv_if_ge (tgt := 594) hx hb qd_M_one_587 (by decide) (fun c_587 => ?_) (fun c_587 => ?_)
  · exact absurd c_587 c_461
  refine lv_iconst (v := (-1)) hx hb qd_M_one_590 (by decide) ?_
  refine lv_goto (tgt := 599) hx hb qd_M_one_591 (by decide) ?_
  refine lv_iload hx hb qd_M_one_599 (lv_at hl 8 rfl) ?_
  refine lv_iconst (v := 1) hx hb qd_M_one_601 (by decide) ?_
  refine lv_iadd hx hb qd_M_one_602 ?_
  obtain ⟨g_603, ho⟩ := ho
  refine xm_Vv (As := [.int (vMi (3 * x7_99).toNatClampNeg), .int (vMo ((5 * (vMO - 1)) + 1).toNatClampNeg), .int vMF_99, .int ((-1)), .int ((vMo ((5 * (vMO - 1)) + 4).toNatClampNeg) + 1)]) (rest := []) (w1 := fun (u_603 : Int32 × (Nat → Int32)) => [(aM, .inr (7, [.int vMT, .int vMP, .ref aMh, .ref aMi, .ref aMc, .int vMK, .ref aMt, .int vMB, .ref aMn, .ref aMl, .ref aMs, .int vMD, .ref aMd, .int (vME + 1), .ref aMe, .int u_603.1, .ref aMo, .int vMF_99, .int vMS_99, .ref aMw, .ref aMu, .int vMX, .int vMW])), (aMo, .inl (cA, 10000, .inl (u_603.2)))]) (w2 := fun (u_603 : Int32 × (Nat → Int32)) => [(aM, .inr (7, [.int vMT, .int vMP, .ref aMh, .ref aMi, .ref aMc, .int vMK, .ref aMt, .int vMB, .ref aMn, .ref aMl, .ref aMs, .int vMD, .ref aMd, .int (vME + 1), .ref aMe, .int u_603.1, .ref aMo, .int vMF_99, .int vMS_99, .ref aMw, .ref aMu, .int vMX, .int vMW])), (aMh, .inl (cA, 24, .inl (vMh))), (aMi, .inl (cA, 72, .inl (vMi))), (aMc, .inl (cA, 24, .inl (vMc))), (aMt, .inl (cA, 24, .inl (vMt))), (aMn, .inl (cA, 6250, .inl (vMn))), (aMl, .inl (cA, 6250, .inl (vMl))), (aMe, .inl (cA, 4000, .inl (upd (upd (upd (upd vMe (4 * vME).toNatClampNeg x7_99) ((4 * vME) + 1).toNatClampNeg (vMo ((5 * (vMO - 1)) + 1).toNatClampNeg)) ((4 * vME) + 2).toNatClampNeg (vMo ((5 * (vMO - 1)) + 2).toNatClampNeg)) ((4 * vME) + 3).toNatClampNeg (vMo ((5 * (vMO - 1)) + 4).toNatClampNeg)))), (aMo, .inl (cA, 10000, .inl (u_603.2)))]) ⟨hx, hb, hml, hown, hg⟩ (c_M_asksItem l dC dI cA cZ aM aMh aMi aMc aMt aMn aMl aMs aMd aMe aMo aMw aMu _ vMT vMP vMK vMB vMD (vME + 1) u_569.1 vMF_99 vMS_99 vMX vMW u_569.2 (vMi (3 * x7_99).toNatClampNeg) (vMo ((5 * (vMO - 1)) + 1).toNatClampNeg) vMF_99 ((-1)) ((vMo ((5 * (vMO - 1)) + 4).toNatClampNeg) + 1) g_603) (cwV 5 hg (q_gV mw_720 mw_721 mw_785 mw_8 mw_722) rfl rfl rfl qh_M_asksItem ⟨Nat.le_of_ble_eq_true rfl, Nat.le_of_ble_eq_true rfl⟩) hN hK hP hD hS hA [0, 8] [1, 2, 3, 4, 5, 6, 7] rfl rfl (by decide) (by decide) (by decide) [7, 0, 1, 2, 3, 4, 5, 6, 8] (fun _ => rfl) (by decide) 0 7 rfl rfl rfl hl.1 rfl (Nat.le_of_ble_eq_true rfl) qd_M_one_603 ⟨Nat.zero_le _, Nat.zero_le _⟩ (fun u_603 H locs w_603 hP hD hS => ?_)
  have hP : va_P (dC, dI) vwCl [(aM, .inr (7, [.int vMT, .int vMP, .ref aMh, .ref aMi, .ref aMc, .int vMK, .ref aMt, .int vMB, .ref aMn, .ref aMl, .ref aMs, .int vMD, .ref aMd, .int (vME + 1), .ref aMe, .int u_603.1, .ref aMo, .int vMF_99, .int vMS_99, .ref aMw, .ref aMu, .int vMX, .int vMW])), (aMh, .inl (cA, 24, .inl (vMh))), (aMi, .inl (cA, 72, .inl (vMi))), (aMc, .inl (cA, 24, .inl (vMc))), (aMt, .inl (cA, 24, .inl (vMt))), (aMn, .inl (cA, 6250, .inl (vMn))), (aMl, .inl (cA, 6250, .inl (vMl))), (aMe, .inl (cA, 4000, .inl (upd (upd (upd (upd vMe (4 * vME).toNatClampNeg x7_99) ((4 * vME) + 1).toNatClampNeg (vMo ((5 * (vMO - 1)) + 1).toNatClampNeg)) ((4 * vME) + 2).toNatClampNeg (vMo ((5 * (vMO - 1)) + 2).toNatClampNeg)) ((4 * vME) + 3).toNatClampNeg (vMo ((5 * (vMO - 1)) + 4).toNatClampNeg)))), (aMo, .inl (cA, 10000, .inl (u_603.2)))] H := hP
  have hD : va_D A [(aM, .inr (7, [.int vMT, .int vMP, .ref aMh, .ref aMi, .ref aMc, .int vMK, .ref aMt, .int vMB, .ref aMn, .ref aMl, .ref aMs, .int vMD, .ref aMd, .int (vME + 1), .ref aMe, .int u_603.1, .ref aMo, .int vMF_99, .int vMS_99, .ref aMw, .ref aMu, .int vMX, .int vMW])), (aMh, .inl (cA, 24, .inl (vMh))), (aMi, .inl (cA, 72, .inl (vMi))), (aMc, .inl (cA, 24, .inl (vMc))), (aMt, .inl (cA, 24, .inl (vMt))), (aMn, .inl (cA, 6250, .inl (vMn))), (aMl, .inl (cA, 6250, .inl (vMl))), (aMe, .inl (cA, 4000, .inl (upd (upd (upd (upd vMe (4 * vME).toNatClampNeg x7_99) ((4 * vME) + 1).toNatClampNeg (vMo ((5 * (vMO - 1)) + 1).toNatClampNeg)) ((4 * vME) + 2).toNatClampNeg (vMo ((5 * (vMO - 1)) + 2).toNatClampNeg)) ((4 * vME) + 3).toNatClampNeg (vMo ((5 * (vMO - 1)) + 4).toNatClampNeg)))), (aMo, .inl (cA, 10000, .inl (u_603.2)))] := hD
  have hres := hres.trans (bd_eq w_603)
  have ho := (bd_eq w_603).mp ho
  subst hQ
  exact W.vret hx hb hr (fun t ht hW => ⟨⟨(vME + 1, u_603.1, vMF_99, vMS_99, upd (upd (upd (upd vMe (4 * vME).toNatClampNeg x7_99) ((4 * vME) + 1).toNatClampNeg (vMo ((5 * (vMO - 1)) + 1).toNatClampNeg)) ((4 * vME) + 2).toNatClampNeg (vMo ((5 * (vMO - 1)) + 2).toNatClampNeg)) ((4 * vME) + 3).toNatClampNeg (vMo ((5 * (vMO - 1)) + 4).toNatClampNeg), u_603.2), rfl, hres.symm, ⟨by rw [ht]; exact hP, va_K.moved hW.alike hK, x_N hN hW⟩, hD⟩, hS.F ht⟩) hS.2.2 qd_M_one_606
