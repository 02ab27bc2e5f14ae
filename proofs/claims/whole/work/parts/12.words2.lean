theorem mw_265 : (Cond.selects "java/lang/IllegalStateException" ⟨"java/lang/Throwable", "fillInStackTrace", "(I)Ljava/lang/Throwable;"⟩ ⟨"java/lang/Throwable", "fillInStackTrace", "(I)Ljava/lang/Throwable;"⟩ : Cond) ∈ gG := q_tables_1_2 (List.mem_of_getElem? (i := 107) (by decide +kernel)) (by decide +kernel)
theorem mw_266 : (Cond.lays "java/lang/IllegalStateException" "java/lang/Throwable" "cause" "Ljava/lang/Throwable;" : Cond) ∈ gG := q_tables_1_2 (List.mem_of_getElem? (i := 108) (by decide +kernel)) (by decide +kernel)
theorem mw_267 : (Cond.lays "java/lang/IllegalStateException" "java/lang/Throwable" "stackTrace" "[Ljava/lang/StackTraceElement;" : Cond) ∈ gG := q_tables_1_2 (List.mem_of_getElem? (i := 109) (by decide +kernel)) (by decide +kernel)
theorem mw_268 : (Cond.lays "java/lang/IllegalStateException" "java/lang/Throwable" "suppressedExceptions" "Ljava/util/List;" : Cond) ∈ gG := q_tables_1_2 (List.mem_of_getElem? (i := 110) (by decide +kernel)) (by decide +kernel)
theorem mw_269 : (Cond.lays "java/lang/IllegalStateException" "java/lang/Throwable" "detailMessage" "Ljava/lang/String;" : Cond) ∈ gG := q_tables_1_2 (List.mem_of_getElem? (i := 111) (by decide +kernel)) (by decide +kernel)
theorem mw_270 : (Cond.lays "java/lang/IllegalStateException" "java/lang/Throwable" "backtrace" "Ljava/lang/Object;" : Cond) ∈ gG := q_tables_1_2 (List.mem_of_getElem? (i := 112) (by decide +kernel)) (by decide +kernel)
theorem mw_271 : (Cond.methodLink qR_H 101 ⟨"java/lang/IllegalStateException", "<init>", "(Ljava/lang/String;)V"⟩ : Cond) ∈ gG := q_tables_1_2 (List.mem_of_getElem? (i := 114) (by decide +kernel)) (by decide +kernel)
theorem mw_272 : (Cond.instanceMethod ⟨"java/lang/IllegalStateException", "<init>", "(Ljava/lang/String;)V"⟩ : Cond) ∈ gG := q_tables_1_2 (List.mem_of_getElem? (i := 115) (by decide +kernel)) (by decide +kernel)
theorem mw_273 : (Cond.code ⟨"java/lang/IllegalStateException", "<init>", "(Ljava/lang/String;)V"⟩ prog_12_method_2_code 2 (Option.none : Option Jvm.ClassFile.FieldType) : Cond) ∈ gG := q_tables_1_2 (List.mem_of_getElem? (i := 116) rfl) rfl
theorem mw_274 : (Cond.methodLink "java/lang/IllegalStateException" 7 ⟨"java/lang/RuntimeException", "<init>", "(Ljava/lang/String;)V"⟩ : Cond) ∈ gG := q_tables_1_2 (List.mem_of_getElem? (i := 117) (by decide +kernel)) (by decide +kernel)
theorem mw_275 : (Cond.lays "java/lang/IllegalStateException" "java/lang/Throwable" "depth" "I" : Cond) ∈ gG := q_tables_1_2 (List.mem_of_getElem? (i := 118) (by decide +kernel)) (by decide +kernel)
theorem mw_276 : (Cond.methodLink qR_H 102 qy_G_learn : Cond) ∈ gG := q_tables_1_2 (List.mem_of_getElem? (i := 120) (by decide +kernel)) (by decide +kernel)
theorem mw_277 : (Cond.instanceMethod qy_G_learn : Cond) ∈ gG := q_tables_1_2 (List.mem_of_getElem? (i := 121) (by decide +kernel)) (by decide +kernel)
theorem mw_278 : (Cond.selects qR_G qy_G_learn qy_G_learn : Cond) ∈ gG := q_tables_1_2 (List.mem_of_getElem? (i := 122) (by decide +kernel)) (by decide +kernel)
theorem mw_279 : (Cond.code qy_G_learn qc_G_learn 7 (some .int) : Cond) ∈ gG := q_tables_1_2 (List.mem_of_getElem? (i := 123) rfl) rfl
theorem mw_280 : (Cond.methodLink qR_G 42 qy_G_isFull : Cond) ∈ gG := q_tables_1_2 (List.mem_of_getElem? (i := 124) (by decide +kernel)) (by decide +kernel)
theorem mw_281 : (Cond.methodLink qR_G 49 qy_G_learnStep : Cond) ∈ gG := q_tables_1_2 (List.mem_of_getElem? (i := 126) (by decide +kernel)) (by decide +kernel)
theorem mw_282 : (Cond.instanceMethod qy_G_learnStep : Cond) ∈ gG := q_tables_1_2 (List.mem_of_getElem? (i := 128) (by decide +kernel)) (by decide +kernel)
theorem mw_283 : (Cond.code qy_G_learnStep qc_G_learnStep 5 (none) : Cond) ∈ gG := q_tables_1_2 (List.mem_of_getElem? (i := 129) rfl) rfl
theorem mw_284 : (Cond.methodLink qR_G 53 qy_G_orderBySteps : Cond) ∈ gG := q_tables_1_2 (List.mem_of_getElem? (i := 130) (by decide +kernel)) (by decide +kernel)
theorem mw_285 : (Cond.instanceMethod qy_G_orderBySteps : Cond) ∈ gG := q_tables_1_2 (List.mem_of_getElem? (i := 132) (by decide +kernel)) (by decide +kernel)
theorem mw_286 : (Cond.code qy_G_orderBySteps qc_G_orderBySteps 5 (none) : Cond) ∈ gG := q_tables_1_2 (List.mem_of_getElem? (i := 133) rfl) rfl
theorem mw_287 : (Cond.methodLink qR_G 59 qy_J_bitCount : Cond) ∈ gG := q_tables_1_2 (List.mem_of_getElem? (i := 134) (by decide +kernel)) (by decide +kernel)
theorem mw_288 : (Cond.static qy_J_bitCount : Cond) ∈ gG := q_tables_1_2 (List.mem_of_getElem? (i := 135) (by decide +kernel)) (by decide +kernel)
theorem mw_289 : (Cond.code qy_J_bitCount qc_J_bitCount 1 (some .int) : Cond) ∈ gG := q_tables_1_2 (List.mem_of_getElem? (i := 136) rfl) rfl
theorem mw_290 : (Cond.constant "java/lang/Integer" 265 1431655765 : Cond) ∈ gG := q_tables_1_2 (List.mem_of_getElem? (i := 137) (by decide +kernel)) (by decide +kernel)
theorem mw_291 : (Cond.constant "java/lang/Integer" 266 858993459 : Cond) ∈ gG := q_tables_1_2 (List.mem_of_getElem? (i := 138) (by decide +kernel)) (by decide +kernel)
theorem mw_292 : (Cond.constant "java/lang/Integer" 267 252645135 : Cond) ∈ gG := q_tables_1_2 (List.mem_of_getElem? (i := 139) (by decide +kernel)) (by decide +kernel)
theorem mw_293 : (Cond.methodLink qR_G 56 qy_G_learnFertile : Cond) ∈ gG := q_tables_1_2 (List.mem_of_getElem? (i := 140) (by decide +kernel)) (by decide +kernel)
theorem mw_294 : (Cond.instanceMethod qy_G_learnFertile : Cond) ∈ gG := q_tables_1_2 (List.mem_of_getElem? (i := 142) (by decide +kernel)) (by decide +kernel)
theorem mw_295 : (Cond.code qy_G_learnFertile qc_G_learnFertile 3 (none) : Cond) ∈ gG := q_tables_1_2 (List.mem_of_getElem? (i := 143) rfl) rfl
theorem mw_296 : (Cond.methodLink qR_G 64 qy_G_isUsable : Cond) ∈ gG := q_tables_1_2 (List.mem_of_getElem? (i := 144) (by decide +kernel)) (by decide +kernel)
theorem mw_297 : (Cond.instanceMethod qy_G_isUsable : Cond) ∈ gG := q_tables_1_2 (List.mem_of_getElem? (i := 145) (by decide +kernel)) (by decide +kernel)
theorem mw_298 : (Cond.selects qR_G qy_G_isUsable qy_G_isUsable : Cond) ∈ gG := q_tables_1_2 (List.mem_of_getElem? (i := 146) (by decide +kernel)) (by decide +kernel)
theorem mw_299 : (Cond.code qy_G_isUsable qc_G_isUsable 2 (some .boolean) : Cond) ∈ gG := q_tables_1_2 (List.mem_of_getElem? (i := 147) rfl) rfl
theorem mw_300 : (Cond.methodLink qR_G 68 qy_G_item : Cond) ∈ gG := q_tables_1_2 (List.mem_of_getElem? (i := 148) (by decide +kernel)) (by decide +kernel)
theorem mw_301 : (Cond.instanceMethod qy_G_item : Cond) ∈ gG := q_tables_1_2 (List.mem_of_getElem? (i := 149) (by decide +kernel)) (by decide +kernel)
theorem mw_302 : (Cond.selects qR_G qy_G_item qy_G_item : Cond) ∈ gG := q_tables_1_2 (List.mem_of_getElem? (i := 150) (by decide +kernel)) (by decide +kernel)
theorem mw_303 : (Cond.code qy_G_item qc_G_item 4 (some .int) : Cond) ∈ gG := q_tables_1_2 (List.mem_of_getElem? (i := 151) rfl) rfl
theorem mw_304 : (Cond.methodLink qR_G 72 qy_G_isFertile : Cond) ∈ gG := q_tables_1_2 (List.mem_of_getElem? (i := 152) (by decide +kernel)) (by decide +kernel)
theorem mw_305 : (Cond.instanceMethod qy_G_isFertile : Cond) ∈ gG := q_tables_1_2 (List.mem_of_getElem? (i := 154) (by decide +kernel)) (by decide +kernel)
theorem mw_306 : (Cond.code qy_G_isFertile qc_G_isFertile 2 (some .boolean) : Cond) ∈ gG := q_tables_1_2 (List.mem_of_getElem? (i := 155) rfl) rfl
theorem mw_307 : (Cond.methodLink qR_L 67 qy_L_put : Cond) ∈ gG := q_tables_1_2 (List.mem_of_getElem? (i := 156) (by decide +kernel)) (by decide +kernel)
theorem mw_308 : (Cond.static qy_L_put : Cond) ∈ gG := q_tables_1_2 (List.mem_of_getElem? (i := 157) (by decide +kernel)) (by decide +kernel)
theorem mw_309 : (Cond.codeWith qy_L_put qc_L_put 4 (some .int) [(0, 9, 12, 13), (0, 9, 15, 15)] : Cond) ∈ gG := q_tables_1_2 (List.mem_of_getElem? (i := 158) rfl) rfl
theorem mw_310 : (Cond.methodLink qR_L 19 qy_H_put : Cond) ∈ gG := q_tables_1_2 (List.mem_of_getElem? (i := 159) (by decide +kernel)) (by decide +kernel)
theorem mw_311 : (Cond.instanceMethod qy_H_put : Cond) ∈ gG := q_tables_1_2 (List.mem_of_getElem? (i := 160) (by decide +kernel)) (by decide +kernel)
theorem mw_312 : (Cond.selects qR_H qy_H_put qy_H_put : Cond) ∈ gG := q_tables_1_2 (List.mem_of_getElem? (i := 161) (by decide +kernel)) (by decide +kernel)
theorem mw_313 : (Cond.code qy_H_put qc_H_put 2 (some .int) : Cond) ∈ gG := q_tables_1_2 (List.mem_of_getElem? (i := 162) rfl) rfl
theorem mw_314 : (Cond.methodLink qR_H 108 qy_R_isFull : Cond) ∈ gG := q_tables_1_2 (List.mem_of_getElem? (i := 164) (by decide +kernel)) (by decide +kernel)
theorem mw_315 : (Cond.instanceMethod qy_R_isFull : Cond) ∈ gG := q_tables_1_2 (List.mem_of_getElem? (i := 165) (by decide +kernel)) (by decide +kernel)
theorem mw_316 : (Cond.selects qR_R qy_R_isFull qy_R_isFull : Cond) ∈ gG := q_tables_1_2 (List.mem_of_getElem? (i := 166) (by decide +kernel)) (by decide +kernel)
theorem mw_317 : (Cond.code qy_R_isFull qc_R_isFull 1 (some .boolean) : Cond) ∈ gG := q_tables_1_2 (List.mem_of_getElem? (i := 167) rfl) rfl
theorem mw_318 : (Cond.methodLink qR_H 111 qy_R_lengthen : Cond) ∈ gG := q_tables_1_2 (List.mem_of_getElem? (i := 169) (by decide +kernel)) (by decide +kernel)
theorem mw_319 : (Cond.instanceMethod qy_R_lengthen : Cond) ∈ gG := q_tables_1_2 (List.mem_of_getElem? (i := 170) (by decide +kernel)) (by decide +kernel)
theorem mw_320 : (Cond.selects qR_R qy_R_lengthen qy_R_lengthen : Cond) ∈ gG := q_tables_1_2 (List.mem_of_getElem? (i := 171) (by decide +kernel)) (by decide +kernel)
theorem mw_321 : (Cond.code qy_R_lengthen qc_R_lengthen 2 (some .int) : Cond) ∈ gG := q_tables_1_2 (List.mem_of_getElem? (i := 172) rfl) rfl
theorem mw_322 : (Cond.methodLink qR_R 19 qy_R_isFull : Cond) ∈ gG := q_tables_1_2 (List.mem_of_getElem? (i := 173) (by decide +kernel)) (by decide +kernel)
theorem mw_323 : (Cond.methodLink qR_L 71 qy_L_cut : Cond) ∈ gG := q_tables_1_2 (List.mem_of_getElem? (i := 174) (by decide +kernel)) (by decide +kernel)
theorem mw_324 : (Cond.static qy_L_cut : Cond) ∈ gG := q_tables_1_2 (List.mem_of_getElem? (i := 175) (by decide +kernel)) (by decide +kernel)
theorem mw_325 : (Cond.codeWith qy_L_cut qc_L_cut 3 (some .int) [(0, 5, 8, 13)] : Cond) ∈ gG := q_tables_1_2 (List.mem_of_getElem? (i := 176) rfl) rfl
theorem mw_326 : (Cond.methodLink qR_L 23 qy_H_cut : Cond) ∈ gG := q_tables_1_2 (List.mem_of_getElem? (i := 177) (by decide +kernel)) (by decide +kernel)
theorem mw_327 : (Cond.instanceMethod qy_H_cut : Cond) ∈ gG := q_tables_1_2 (List.mem_of_getElem? (i := 178) (by decide +kernel)) (by decide +kernel)
theorem mw_328 : (Cond.selects qR_H qy_H_cut qy_H_cut : Cond) ∈ gG := q_tables_1_2 (List.mem_of_getElem? (i := 179) (by decide +kernel)) (by decide +kernel)
theorem mw_329 : (Cond.code qy_H_cut qc_H_cut 2 (none) : Cond) ∈ gG := q_tables_1_2 (List.mem_of_getElem? (i := 180) rfl) rfl
theorem mw_330 : (Cond.methodLink qR_H 115 qy_R_length : Cond) ∈ gG := q_tables_1_2 (List.mem_of_getElem? (i := 181) (by decide +kernel)) (by decide +kernel)
theorem mw_331 : (Cond.instanceMethod qy_R_length : Cond) ∈ gG := q_tables_1_2 (List.mem_of_getElem? (i := 182) (by decide +kernel)) (by decide +kernel)
theorem mw_332 : (Cond.selects qR_R qy_R_length qy_R_length : Cond) ∈ gG := q_tables_1_2 (List.mem_of_getElem? (i := 183) (by decide +kernel)) (by decide +kernel)
theorem mw_333 : (Cond.code qy_R_length qc_R_length 1 (some .int) : Cond) ∈ gG := q_tables_1_2 (List.mem_of_getElem? (i := 184) rfl) rfl
theorem mw_334 : (Cond.methodLink qR_L 75 qy_L_count : Cond) ∈ gG := q_tables_1_2 (List.mem_of_getElem? (i := 186) (by decide +kernel)) (by decide +kernel)
theorem mw_335 : (Cond.static qy_L_count : Cond) ∈ gG := q_tables_1_2 (List.mem_of_getElem? (i := 187) (by decide +kernel)) (by decide +kernel)
theorem mw_336 : (Cond.codeWith qy_L_count qc_L_count 6 (some .int) [(0, 12, 15, 31)] : Cond) ∈ gG := q_tables_1_2 (List.mem_of_getElem? (i := 188) rfl) rfl
theorem mw_337 : (Cond.classLink qR_L 31 "java/lang/IndexOutOfBoundsException" : Cond) ∈ gG := q_tables_1_2 (List.mem_of_getElem? (i := 189) (by decide +kernel)) (by decide +kernel)
theorem mw_338 : (Cond.methodLink qR_L 27 qy_H_count : Cond) ∈ gG := q_tables_1_2 (List.mem_of_getElem? (i := 190) (by decide +kernel)) (by decide +kernel)
theorem mw_339 : (Cond.instanceMethod qy_H_count : Cond) ∈ gG := q_tables_1_2 (List.mem_of_getElem? (i := 191) (by decide +kernel)) (by decide +kernel)
theorem mw_340 : (Cond.selects qR_H qy_H_count qy_H_count : Cond) ∈ gG := q_tables_1_2 (List.mem_of_getElem? (i := 192) (by decide +kernel)) (by decide +kernel)
theorem mw_341 : (Cond.code qy_H_count qc_H_count 4 (some .int) : Cond) ∈ gG := q_tables_1_2 (List.mem_of_getElem? (i := 193) rfl) rfl
theorem mw_342 : (Cond.methodLink qR_H 121 qy_H_checkPart : Cond) ∈ gG := q_tables_1_2 (List.mem_of_getElem? (i := 194) (by decide +kernel)) (by decide +kernel)
theorem mw_343 : (Cond.instanceMethod qy_H_checkPart : Cond) ∈ gG := q_tables_1_2 (List.mem_of_getElem? (i := 196) (by decide +kernel)) (by decide +kernel)
theorem mw_344 : (Cond.code qy_H_checkPart qc_H_checkPart 4 (none) : Cond) ∈ gG := q_tables_1_2 (List.mem_of_getElem? (i := 197) rfl) rfl
theorem mw_345 : (Cond.classLink qR_H 150 "java/lang/IndexOutOfBoundsException" : Cond) ∈ gG := q_tables_1_2 (List.mem_of_getElem? (i := 198) (by decide +kernel)) (by decide +kernel)
theorem mw_346 : (Cond.instantiable "java/lang/IndexOutOfBoundsException" 6 : Cond) ∈ gG := q_tables_1_2 (List.mem_of_getElem? (i := 199) (by decide +kernel)) (by decide +kernel)
theorem mw_347 : (Cond.selects "java/lang/IndexOutOfBoundsException" ⟨"java/lang/Throwable", "fillInStackTrace", "(I)Ljava/lang/Throwable;"⟩ ⟨"java/lang/Throwable", "fillInStackTrace", "(I)Ljava/lang/Throwable;"⟩ : Cond) ∈ gG := q_tables_1_2 (List.mem_of_getElem? (i := 201) (by decide +kernel)) (by decide +kernel)
theorem mw_348 : (Cond.lays "java/lang/IndexOutOfBoundsException" "java/lang/Throwable" "cause" "Ljava/lang/Throwable;" : Cond) ∈ gG := q_tables_1_2 (List.mem_of_getElem? (i := 202) (by decide +kernel)) (by decide +kernel)
theorem mw_349 : (Cond.lays "java/lang/IndexOutOfBoundsException" "java/lang/Throwable" "stackTrace" "[Ljava/lang/StackTraceElement;" : Cond) ∈ gG := q_tables_1_2 (List.mem_of_getElem? (i := 203) (by decide +kernel)) (by decide +kernel)
theorem mw_350 : (Cond.lays "java/lang/IndexOutOfBoundsException" "java/lang/Throwable" "suppressedExceptions" "Ljava/util/List;" : Cond) ∈ gG := q_tables_1_2 (List.mem_of_getElem? (i := 204) (by decide +kernel)) (by decide +kernel)
theorem mw_351 : (Cond.lays "java/lang/IndexOutOfBoundsException" "java/lang/Throwable" "detailMessage" "Ljava/lang/String;" : Cond) ∈ gG := q_tables_1_2 (List.mem_of_getElem? (i := 205) (by decide +kernel)) (by decide +kernel)
theorem mw_352 : (Cond.lays "java/lang/IndexOutOfBoundsException" "java/lang/Throwable" "backtrace" "Ljava/lang/Object;" : Cond) ∈ gG := q_tables_1_2 (List.mem_of_getElem? (i := 206) (by decide +kernel)) (by decide +kernel)
theorem mw_353 : (Cond.methodLink qR_H 154 ⟨"java/lang/IndexOutOfBoundsException", "<init>", "(Ljava/lang/String;)V"⟩ : Cond) ∈ gG := q_tables_1_2 (List.mem_of_getElem? (i := 208) (by decide +kernel)) (by decide +kernel)
theorem mw_354 : (Cond.instanceMethod ⟨"java/lang/IndexOutOfBoundsException", "<init>", "(Ljava/lang/String;)V"⟩ : Cond) ∈ gG := q_tables_1_2 (List.mem_of_getElem? (i := 209) (by decide +kernel)) (by decide +kernel)
theorem mw_355 : (Cond.code ⟨"java/lang/IndexOutOfBoundsException", "<init>", "(Ljava/lang/String;)V"⟩ prog_13_method_2_code 2 (Option.none : Option Jvm.ClassFile.FieldType) : Cond) ∈ gG := q_tables_1_2 (List.mem_of_getElem? (i := 210) rfl) rfl
theorem mw_356 : (Cond.methodLink "java/lang/IndexOutOfBoundsException" 7 ⟨"java/lang/RuntimeException", "<init>", "(Ljava/lang/String;)V"⟩ : Cond) ∈ gG := q_tables_1_2 (List.mem_of_getElem? (i := 211) (by decide +kernel)) (by decide +kernel)
theorem mw_357 : (Cond.lays "java/lang/IndexOutOfBoundsException" "java/lang/Throwable" "depth" "I" : Cond) ∈ gG := q_tables_1_2 (List.mem_of_getElem? (i := 212) (by decide +kernel)) (by decide +kernel)
theorem mw_358 : (Cond.methodLink qR_H 125 qy_C_fill : Cond) ∈ gG := q_tables_1_2 (List.mem_of_getElem? (i := 214) (by decide +kernel)) (by decide +kernel)
theorem mw_359 : (Cond.instanceMethod qy_C_fill : Cond) ∈ gG := q_tables_1_2 (List.mem_of_getElem? (i := 215) (by decide +kernel)) (by decide +kernel)
theorem mw_360 : (Cond.selects qR_C qy_C_fill qy_C_fill : Cond) ∈ gG := q_tables_1_2 (List.mem_of_getElem? (i := 216) (by decide +kernel)) (by decide +kernel)
theorem mw_361 : (Cond.code qy_C_fill qc_C_fill 3 (none) : Cond) ∈ gG := q_tables_1_2 (List.mem_of_getElem? (i := 217) rfl) rfl
theorem mw_362 : (Cond.methodLink qR_C 42 qy_C_fillColumn : Cond) ∈ gG := q_tables_1_2 (List.mem_of_getElem? (i := 218) (by decide +kernel)) (by decide +kernel)
theorem mw_363 : (Cond.instanceMethod qy_C_fillColumn : Cond) ∈ gG := q_tables_1_2 (List.mem_of_getElem? (i := 220) (by decide +kernel)) (by decide +kernel)
theorem mw_364 : (Cond.code qy_C_fillColumn qc_C_fillColumn 3 (none) : Cond) ∈ gG := q_tables_1_2 (List.mem_of_getElem? (i := 221) rfl) rfl
theorem mw_365 : (Cond.methodLink qR_C 49 qy_C_fillRests : Cond) ∈ gG := q_tables_1_2 (List.mem_of_getElem? (i := 222) (by decide +kernel)) (by decide +kernel)
theorem mw_366 : (Cond.instanceMethod qy_C_fillRests : Cond) ∈ gG := q_tables_1_2 (List.mem_of_getElem? (i := 224) (by decide +kernel)) (by decide +kernel)
theorem mw_367 : (Cond.code qy_C_fillRests qc_C_fillRests 4 (none) : Cond) ∈ gG := q_tables_1_2 (List.mem_of_getElem? (i := 225) rfl) rfl
theorem mw_368 : (Cond.methodLink qR_C 60 qy_G_size : Cond) ∈ gG := q_tables_1_2 (List.mem_of_getElem? (i := 226) (by decide +kernel)) (by decide +kernel)
theorem mw_369 : (Cond.instanceMethod qy_G_size : Cond) ∈ gG := q_tables_1_2 (List.mem_of_getElem? (i := 227) (by decide +kernel)) (by decide +kernel)
theorem mw_370 : (Cond.selects qR_G qy_G_size qy_G_size : Cond) ∈ gG := q_tables_1_2 (List.mem_of_getElem? (i := 228) (by decide +kernel)) (by decide +kernel)
theorem mw_371 : (Cond.code qy_G_size qc_G_size 1 (some .int) : Cond) ∈ gG := q_tables_1_2 (List.mem_of_getElem? (i := 229) rfl) rfl
theorem mw_372 : (Cond.methodLink qR_C 106 qy_C_fillRest : Cond) ∈ gG := q_tables_1_2 (List.mem_of_getElem? (i := 230) (by decide +kernel)) (by decide +kernel)
theorem mw_373 : (Cond.instanceMethod qy_C_fillRest : Cond) ∈ gG := q_tables_1_2 (List.mem_of_getElem? (i := 232) (by decide +kernel)) (by decide +kernel)
theorem mw_374 : (Cond.code qy_C_fillRest qc_C_fillRest 13 (none) : Cond) ∈ gG := q_tables_1_2 (List.mem_of_getElem? (i := 233) rfl) rfl
theorem mw_375 : (Cond.methodLink qR_C 77 qy_G_item : Cond) ∈ gG := q_tables_1_2 (List.mem_of_getElem? (i := 234) (by decide +kernel)) (by decide +kernel)
theorem mw_376 : (Cond.methodLink qR_C 109 qy_G_lastSecondEnd : Cond) ∈ gG := q_tables_1_2 (List.mem_of_getElem? (i := 235) (by decide +kernel)) (by decide +kernel)
theorem mw_377 : (Cond.instanceMethod qy_G_lastSecondEnd : Cond) ∈ gG := q_tables_1_2 (List.mem_of_getElem? (i := 236) (by decide +kernel)) (by decide +kernel)
theorem mw_378 : (Cond.selects qR_G qy_G_lastSecondEnd qy_G_lastSecondEnd : Cond) ∈ gG := q_tables_1_2 (List.mem_of_getElem? (i := 237) (by decide +kernel)) (by decide +kernel)
theorem mw_379 : (Cond.code qy_G_lastSecondEnd qc_G_lastSecondEnd 3 (some .int) : Cond) ∈ gG := q_tables_1_2 (List.mem_of_getElem? (i := 238) rfl) rfl
theorem mw_380 : (Cond.methodLink qR_C 112 qy_G_leastSecondEnd : Cond) ∈ gG := q_tables_1_2 (List.mem_of_getElem? (i := 239) (by decide +kernel)) (by decide +kernel)
theorem mw_381 : (Cond.instanceMethod qy_G_leastSecondEnd : Cond) ∈ gG := q_tables_1_3 (List.mem_of_getElem? (i := 0) (by decide +kernel)) (by decide +kernel)
theorem mw_382 : (Cond.selects qR_G qy_G_leastSecondEnd qy_G_leastSecondEnd : Cond) ∈ gG := q_tables_1_3 (List.mem_of_getElem? (i := 1) (by decide +kernel)) (by decide +kernel)
theorem mw_383 : (Cond.code qy_G_leastSecondEnd qc_G_leastSecondEnd 4 (some .int) : Cond) ∈ gG := q_tables_1_3 (List.mem_of_getElem? (i := 2) rfl) rfl
theorem mw_384 : (Cond.methodLink qR_C 80 qy_C_trees : Cond) ∈ gG := q_tables_1_3 (List.mem_of_getElem? (i := 3) (by decide +kernel)) (by decide +kernel)
theorem mw_385 : (Cond.instanceMethod qy_C_trees : Cond) ∈ gG := q_tables_1_3 (List.mem_of_getElem? (i := 4) (by decide +kernel)) (by decide +kernel)
theorem mw_386 : (Cond.selects qR_C qy_C_trees qy_C_trees : Cond) ∈ gG := q_tables_1_3 (List.mem_of_getElem? (i := 5) (by decide +kernel)) (by decide +kernel)
theorem mw_387 : (Cond.code qy_C_trees qc_C_trees 5 (some .int) : Cond) ∈ gG := q_tables_1_3 (List.mem_of_getElem? (i := 6) rfl) rfl
theorem mw_388 : (Cond.methodLink qR_C 115 qy_R_token : Cond) ∈ gG := q_tables_1_3 (List.mem_of_getElem? (i := 7) (by decide +kernel)) (by decide +kernel)
theorem mw_389 : (Cond.instanceMethod qy_R_token : Cond) ∈ gG := q_tables_1_3 (List.mem_of_getElem? (i := 8) (by decide +kernel)) (by decide +kernel)
theorem mw_390 : (Cond.selects qR_R qy_R_token qy_R_token : Cond) ∈ gG := q_tables_1_3 (List.mem_of_getElem? (i := 9) (by decide +kernel)) (by decide +kernel)
theorem mw_391 : (Cond.code qy_R_token qc_R_token 2 (some .int) : Cond) ∈ gG := q_tables_1_3 (List.mem_of_getElem? (i := 10) rfl) rfl
theorem mw_392 : (Cond.methodLink qR_C 120 qy_C_cell : Cond) ∈ gG := q_tables_1_3 (List.mem_of_getElem? (i := 11) (by decide +kernel)) (by decide +kernel)
theorem mw_393 : (Cond.static qy_C_cell : Cond) ∈ gG := q_tables_1_3 (List.mem_of_getElem? (i := 12) (by decide +kernel)) (by decide +kernel)
theorem mw_394 : (Cond.code qy_C_cell qc_C_cell 3 (some .int) : Cond) ∈ gG := q_tables_1_3 (List.mem_of_getElem? (i := 13) rfl) rfl
theorem mw_395 : (Cond.methodLink qR_C 84 qy_C_leastCost : Cond) ∈ gG := q_tables_1_3 (List.mem_of_getElem? (i := 14) (by decide +kernel)) (by decide +kernel)
theorem mw_396 : (Cond.instanceMethod qy_C_leastCost : Cond) ∈ gG := q_tables_1_3 (List.mem_of_getElem? (i := 15) (by decide +kernel)) (by decide +kernel)
theorem mw_397 : (Cond.selects qR_C qy_C_leastCost qy_C_leastCost : Cond) ∈ gG := q_tables_1_3 (List.mem_of_getElem? (i := 16) (by decide +kernel)) (by decide +kernel)
theorem mw_398 : (Cond.code qy_C_leastCost qc_C_leastCost 5 (some .int) : Cond) ∈ gG := q_tables_1_3 (List.mem_of_getElem? (i := 17) rfl) rfl
theorem mw_399 : (Cond.static qy_H_atMostMany : Cond) ∈ gG := q_tables_1_3 (List.mem_of_getElem? (i := 19) (by decide +kernel)) (by decide +kernel)
theorem mw_400 : (Cond.code qy_H_atMostMany qc_H_atMostMany 2 (some .int) : Cond) ∈ gG := q_tables_1_3 (List.mem_of_getElem? (i := 20) rfl) rfl
theorem mw_401 : (Cond.constantLong qR_H 169 (1000000000 : Int64) : Cond) ∈ gG := q_tables_1_3 (List.mem_of_getElem? (i := 21) (by decide +kernel)) (by decide +kernel)
theorem mw_402 : (Cond.constant qR_H 171 1000000000 : Cond) ∈ gG := q_tables_1_3 (List.mem_of_getElem? (i := 22) (by decide +kernel)) (by decide +kernel)
theorem mw_403 : (Cond.methodLink qR_C 103 qy_C_cheaper : Cond) ∈ gG := q_tables_1_3 (List.mem_of_getElem? (i := 23) (by decide +kernel)) (by decide +kernel)
theorem mw_404 : (Cond.static qy_C_cheaper : Cond) ∈ gG := q_tables_1_3 (List.mem_of_getElem? (i := 24) (by decide +kernel)) (by decide +kernel)
theorem mw_405 : (Cond.code qy_C_cheaper qc_C_cheaper 2 (some .int) : Cond) ∈ gG := q_tables_1_3 (List.mem_of_getElem? (i := 25) rfl) rfl
theorem mw_406 : (Cond.methodLink qR_C 93 qy_C_restCell : Cond) ∈ gG := q_tables_1_3 (List.mem_of_getElem? (i := 26) (by decide +kernel)) (by decide +kernel)
theorem mw_407 : (Cond.static qy_C_restCell : Cond) ∈ gG := q_tables_1_3 (List.mem_of_getElem? (i := 27) (by decide +kernel)) (by decide +kernel)
theorem mw_408 : (Cond.code qy_C_restCell qc_C_restCell 3 (some .int) : Cond) ∈ gG := q_tables_1_3 (List.mem_of_getElem? (i := 28) rfl) rfl
theorem mw_409 : (Cond.methodLink qR_C 53 qy_C_fillPart : Cond) ∈ gG := q_tables_1_3 (List.mem_of_getElem? (i := 29) (by decide +kernel)) (by decide +kernel)
theorem mw_410 : (Cond.instanceMethod qy_C_fillPart : Cond) ∈ gG := q_tables_1_3 (List.mem_of_getElem? (i := 31) (by decide +kernel)) (by decide +kernel)
theorem mw_411 : (Cond.code qy_C_fillPart qc_C_fillPart 4 (none) : Cond) ∈ gG := q_tables_1_3 (List.mem_of_getElem? (i := 32) rfl) rfl
theorem mw_412 : (Cond.methodLink qR_C 56 qy_C_write : Cond) ∈ gG := q_tables_1_3 (List.mem_of_getElem? (i := 33) (by decide +kernel)) (by decide +kernel)
theorem mw_413 : (Cond.instanceMethod qy_C_write : Cond) ∈ gG := q_tables_1_3 (List.mem_of_getElem? (i := 35) (by decide +kernel)) (by decide +kernel)
theorem mw_414 : (Cond.code qy_C_write qc_C_write 7 (none) : Cond) ∈ gG := q_tables_1_3 (List.mem_of_getElem? (i := 36) rfl) rfl
theorem mw_415 : (Cond.methodLink qR_C 66 qy_G_inStepOrder : Cond) ∈ gG := q_tables_1_3 (List.mem_of_getElem? (i := 37) (by decide +kernel)) (by decide +kernel)
theorem mw_416 : (Cond.instanceMethod qy_G_inStepOrder : Cond) ∈ gG := q_tables_1_3 (List.mem_of_getElem? (i := 38) (by decide +kernel)) (by decide +kernel)
theorem mw_417 : (Cond.selects qR_G qy_G_inStepOrder qy_G_inStepOrder : Cond) ∈ gG := q_tables_1_3 (List.mem_of_getElem? (i := 39) (by decide +kernel)) (by decide +kernel)
theorem mw_418 : (Cond.code qy_G_inStepOrder qc_G_inStepOrder 2 (some .int) : Cond) ∈ gG := q_tables_1_3 (List.mem_of_getElem? (i := 40) rfl) rfl
theorem mw_419 : (Cond.methodLink qR_C 70 qy_C_addProduction : Cond) ∈ gG := q_tables_1_3 (List.mem_of_getElem? (i := 41) (by decide +kernel)) (by decide +kernel)
theorem mw_420 : (Cond.instanceMethod qy_C_addProduction : Cond) ∈ gG := q_tables_1_3 (List.mem_of_getElem? (i := 43) (by decide +kernel)) (by decide +kernel)
theorem mw_421 : (Cond.code qy_C_addProduction qc_C_addProduction 14 (none) : Cond) ∈ gG := q_tables_1_3 (List.mem_of_getElem? (i := 44) rfl) rfl
theorem mw_422 : (Cond.methodLink qR_C 74 qy_G_head : Cond) ∈ gG := q_tables_1_3 (List.mem_of_getElem? (i := 45) (by decide +kernel)) (by decide +kernel)
theorem mw_423 : (Cond.instanceMethod qy_G_head : Cond) ∈ gG := q_tables_1_3 (List.mem_of_getElem? (i := 46) (by decide +kernel)) (by decide +kernel)
theorem mw_424 : (Cond.selects qR_G qy_G_head qy_G_head : Cond) ∈ gG := q_tables_1_3 (List.mem_of_getElem? (i := 47) (by decide +kernel)) (by decide +kernel)
theorem mw_425 : (Cond.code qy_G_head qc_G_head 2 (some .int) : Cond) ∈ gG := q_tables_1_3 (List.mem_of_getElem? (i := 48) rfl) rfl
theorem mw_426 : (Cond.methodLink qR_C 87 qy_G_lastFirstEnd : Cond) ∈ gG := q_tables_1_3 (List.mem_of_getElem? (i := 49) (by decide +kernel)) (by decide +kernel)
theorem mw_427 : (Cond.instanceMethod qy_G_lastFirstEnd : Cond) ∈ gG := q_tables_1_3 (List.mem_of_getElem? (i := 50) (by decide +kernel)) (by decide +kernel)
theorem mw_428 : (Cond.selects qR_G qy_G_lastFirstEnd qy_G_lastFirstEnd : Cond) ∈ gG := q_tables_1_3 (List.mem_of_getElem? (i := 51) (by decide +kernel)) (by decide +kernel)
theorem mw_429 : (Cond.code qy_G_lastFirstEnd qc_G_lastFirstEnd 3 (some .int) : Cond) ∈ gG := q_tables_1_3 (List.mem_of_getElem? (i := 52) rfl) rfl
theorem mw_430 : (Cond.methodLink qR_C 90 qy_G_leastFirstEnd : Cond) ∈ gG := q_tables_1_3 (List.mem_of_getElem? (i := 53) (by decide +kernel)) (by decide +kernel)
theorem mw_431 : (Cond.instanceMethod qy_G_leastFirstEnd : Cond) ∈ gG := q_tables_1_3 (List.mem_of_getElem? (i := 54) (by decide +kernel)) (by decide +kernel)
theorem mw_432 : (Cond.selects qR_G qy_G_leastFirstEnd qy_G_leastFirstEnd : Cond) ∈ gG := q_tables_1_3 (List.mem_of_getElem? (i := 55) (by decide +kernel)) (by decide +kernel)
theorem mw_433 : (Cond.code qy_G_leastFirstEnd qc_G_leastFirstEnd 4 (some .int) : Cond) ∈ gG := q_tables_1_3 (List.mem_of_getElem? (i := 56) rfl) rfl
theorem mw_434 : (Cond.methodLink qR_C 96 qy_G_ownCost : Cond) ∈ gG := q_tables_1_3 (List.mem_of_getElem? (i := 57) (by decide +kernel)) (by decide +kernel)
theorem mw_435 : (Cond.instanceMethod qy_G_ownCost : Cond) ∈ gG := q_tables_1_3 (List.mem_of_getElem? (i := 58) (by decide +kernel)) (by decide +kernel)
theorem mw_436 : (Cond.selects qR_G qy_G_ownCost qy_G_ownCost : Cond) ∈ gG := q_tables_1_3 (List.mem_of_getElem? (i := 59) (by decide +kernel)) (by decide +kernel)
theorem mw_437 : (Cond.code qy_G_ownCost qc_G_ownCost 2 (some .int) : Cond) ∈ gG := q_tables_1_3 (List.mem_of_getElem? (i := 60) rfl) rfl
theorem mw_438 : (Cond.methodLink qR_C 46 qy_J_max : Cond) ∈ gG := q_tables_1_3 (List.mem_of_getElem? (i := 61) (by decide +kernel)) (by decide +kernel)
theorem mw_439 : (Cond.static qy_J_max : Cond) ∈ gG := q_tables_1_3 (List.mem_of_getElem? (i := 62) (by decide +kernel)) (by decide +kernel)
theorem mw_440 : (Cond.code qy_J_max qc_J_max 2 (some .int) : Cond) ∈ gG := q_tables_1_3 (List.mem_of_getElem? (i := 63) rfl) rfl
theorem mw_441 : (Cond.methodLink qR_H 128 qy_C_trees : Cond) ∈ gG := q_tables_1_3 (List.mem_of_getElem? (i := 64) (by decide +kernel)) (by decide +kernel)
theorem mw_442 : (Cond.methodLink qR_L 79 qy_L_cost : Cond) ∈ gG := q_tables_1_3 (List.mem_of_getElem? (i := 65) (by decide +kernel)) (by decide +kernel)
theorem mw_443 : (Cond.static qy_L_cost : Cond) ∈ gG := q_tables_1_3 (List.mem_of_getElem? (i := 66) (by decide +kernel)) (by decide +kernel)
theorem mw_444 : (Cond.codeWith qy_L_cost qc_L_cost 6 (some .int) [(0, 12, 15, 31)] : Cond) ∈ gG := q_tables_1_3 (List.mem_of_getElem? (i := 67) rfl) rfl
theorem mw_445 : (Cond.methodLink qR_L 33 qy_H_cost : Cond) ∈ gG := q_tables_1_3 (List.mem_of_getElem? (i := 68) (by decide +kernel)) (by decide +kernel)
theorem mw_446 : (Cond.instanceMethod qy_H_cost : Cond) ∈ gG := q_tables_1_3 (List.mem_of_getElem? (i := 69) (by decide +kernel)) (by decide +kernel)
theorem mw_447 : (Cond.selects qR_H qy_H_cost qy_H_cost : Cond) ∈ gG := q_tables_1_3 (List.mem_of_getElem? (i := 70) (by decide +kernel)) (by decide +kernel)
theorem mw_448 : (Cond.code qy_H_cost qc_H_cost 4 (some .int) : Cond) ∈ gG := q_tables_1_3 (List.mem_of_getElem? (i := 71) rfl) rfl
theorem mw_449 : (Cond.methodLink qR_H 132 qy_C_leastCost : Cond) ∈ gG := q_tables_1_3 (List.mem_of_getElem? (i := 72) (by decide +kernel)) (by decide +kernel)
theorem mw_450 : (Cond.methodLink qR_L 82 qy_L_tree : Cond) ∈ gG := q_tables_1_3 (List.mem_of_getElem? (i := 73) (by decide +kernel)) (by decide +kernel)
theorem mw_451 : (Cond.static qy_L_tree : Cond) ∈ gG := q_tables_1_3 (List.mem_of_getElem? (i := 74) (by decide +kernel)) (by decide +kernel)
theorem mw_452 : (Cond.codeWith qy_L_tree qc_L_tree 7 (some .int) [(0, 14, 17, 31), (0, 14, 21, 13), (0, 14, 25, 40)] : Cond) ∈ gG := q_tables_1_3 (List.mem_of_getElem? (i := 75) rfl) rfl
theorem mw_453 : (Cond.classLink qR_L 40 "java/util/NoSuchElementException" : Cond) ∈ gG := q_tables_1_3 (List.mem_of_getElem? (i := 76) (by decide +kernel)) (by decide +kernel)
theorem mw_454 : (Cond.methodLink qR_L 36 qy_H_tree : Cond) ∈ gG := q_tables_1_3 (List.mem_of_getElem? (i := 77) (by decide +kernel)) (by decide +kernel)
theorem mw_455 : (Cond.instanceMethod qy_H_tree : Cond) ∈ gG := q_tables_1_3 (List.mem_of_getElem? (i := 78) (by decide +kernel)) (by decide +kernel)
theorem mw_456 : (Cond.selects qR_H qy_H_tree qy_H_tree : Cond) ∈ gG := q_tables_1_3 (List.mem_of_getElem? (i := 79) (by decide +kernel)) (by decide +kernel)
theorem mw_457 : (Cond.code qy_H_tree qc_H_tree 6 (some .int) : Cond) ∈ gG := q_tables_1_3 (List.mem_of_getElem? (i := 80) rfl) rfl
theorem mw_458 : (Cond.constant qR_H 135 999999 : Cond) ∈ gG := q_tables_1_3 (List.mem_of_getElem? (i := 81) (by decide +kernel)) (by decide +kernel)
theorem mw_459 : (Cond.classLink qR_H 138 "java/util/NoSuchElementException" : Cond) ∈ gG := q_tables_1_3 (List.mem_of_getElem? (i := 83) (by decide +kernel)) (by decide +kernel)
theorem mw_460 : (Cond.instantiable "java/util/NoSuchElementException" 6 : Cond) ∈ gG := q_tables_1_3 (List.mem_of_getElem? (i := 84) (by decide +kernel)) (by decide +kernel)
theorem mw_461 : (Cond.selects "java/util/NoSuchElementException" ⟨"java/lang/Throwable", "fillInStackTrace", "(I)Ljava/lang/Throwable;"⟩ ⟨"java/lang/Throwable", "fillInStackTrace", "(I)Ljava/lang/Throwable;"⟩ : Cond) ∈ gG := q_tables_1_3 (List.mem_of_getElem? (i := 86) (by decide +kernel)) (by decide +kernel)
theorem mw_462 : (Cond.lays "java/util/NoSuchElementException" "java/lang/Throwable" "cause" "Ljava/lang/Throwable;" : Cond) ∈ gG := q_tables_1_3 (List.mem_of_getElem? (i := 87) (by decide +kernel)) (by decide +kernel)
theorem mw_463 : (Cond.lays "java/util/NoSuchElementException" "java/lang/Throwable" "stackTrace" "[Ljava/lang/StackTraceElement;" : Cond) ∈ gG := q_tables_1_3 (List.mem_of_getElem? (i := 88) (by decide +kernel)) (by decide +kernel)
theorem mw_464 : (Cond.lays "java/util/NoSuchElementException" "java/lang/Throwable" "suppressedExceptions" "Ljava/util/List;" : Cond) ∈ gG := q_tables_1_3 (List.mem_of_getElem? (i := 89) (by decide +kernel)) (by decide +kernel)
theorem mw_465 : (Cond.lays "java/util/NoSuchElementException" "java/lang/Throwable" "detailMessage" "Ljava/lang/String;" : Cond) ∈ gG := q_tables_1_3 (List.mem_of_getElem? (i := 90) (by decide +kernel)) (by decide +kernel)
theorem mw_466 : (Cond.lays "java/util/NoSuchElementException" "java/lang/Throwable" "backtrace" "Ljava/lang/Object;" : Cond) ∈ gG := q_tables_1_3 (List.mem_of_getElem? (i := 91) (by decide +kernel)) (by decide +kernel)
theorem mw_467 : (Cond.methodLink qR_H 142 ⟨"java/util/NoSuchElementException", "<init>", "(Ljava/lang/String;)V"⟩ : Cond) ∈ gG := q_tables_1_3 (List.mem_of_getElem? (i := 93) (by decide +kernel)) (by decide +kernel)
theorem mw_468 : (Cond.instanceMethod ⟨"java/util/NoSuchElementException", "<init>", "(Ljava/lang/String;)V"⟩ : Cond) ∈ gG := q_tables_1_3 (List.mem_of_getElem? (i := 94) (by decide +kernel)) (by decide +kernel)
theorem mw_469 : (Cond.code ⟨"java/util/NoSuchElementException", "<init>", "(Ljava/lang/String;)V"⟩ prog_20_method_4_code 2 (Option.none : Option Jvm.ClassFile.FieldType) : Cond) ∈ gG := q_tables_1_3 (List.mem_of_getElem? (i := 95) rfl) rfl
theorem mw_470 : (Cond.methodLink "java/util/NoSuchElementException" 13 ⟨"java/lang/RuntimeException", "<init>", "(Ljava/lang/String;)V"⟩ : Cond) ∈ gG := q_tables_1_3 (List.mem_of_getElem? (i := 96) (by decide +kernel)) (by decide +kernel)
theorem mw_471 : (Cond.lays "java/util/NoSuchElementException" "java/lang/Throwable" "depth" "I" : Cond) ∈ gG := q_tables_1_3 (List.mem_of_getElem? (i := 97) (by decide +kernel)) (by decide +kernel)
theorem mw_472 : (Cond.methodLink qR_H 143 qy_F_find : Cond) ∈ gG := q_tables_1_3 (List.mem_of_getElem? (i := 99) (by decide +kernel)) (by decide +kernel)
theorem mw_473 : (Cond.instanceMethod qy_F_find : Cond) ∈ gG := q_tables_1_3 (List.mem_of_getElem? (i := 100) (by decide +kernel)) (by decide +kernel)
theorem mw_474 : (Cond.selects qR_F qy_F_find qy_F_find : Cond) ∈ gG := q_tables_1_3 (List.mem_of_getElem? (i := 101) (by decide +kernel)) (by decide +kernel)
theorem mw_475 : (Cond.code qy_F_find qc_F_find 10 (none) : Cond) ∈ gG := q_tables_1_3 (List.mem_of_getElem? (i := 102) rfl) rfl
theorem mw_476 : (Cond.methodLink qR_F 57 qy_T_forget : Cond) ∈ gG := q_tables_1_3 (List.mem_of_getElem? (i := 103) (by decide +kernel)) (by decide +kernel)
theorem mw_477 : (Cond.methodLink qR_F 62 qy_F_pileUp : Cond) ∈ gG := q_tables_1_3 (List.mem_of_getElem? (i := 104) (by decide +kernel)) (by decide +kernel)
theorem mw_478 : (Cond.instanceMethod qy_F_pileUp : Cond) ∈ gG := q_tables_1_3 (List.mem_of_getElem? (i := 106) (by decide +kernel)) (by decide +kernel)
theorem mw_479 : (Cond.code qy_F_pileUp qc_F_pileUp 6 (none) : Cond) ∈ gG := q_tables_1_3 (List.mem_of_getElem? (i := 107) rfl) rfl
theorem mw_480 : (Cond.methodLink qR_F 66 qy_J_min : Cond) ∈ gG := q_tables_1_3 (List.mem_of_getElem? (i := 109) (by decide +kernel)) (by decide +kernel)
theorem mw_481 : (Cond.methodLink qR_F 72 qy_C_leastCost : Cond) ∈ gG := q_tables_1_3 (List.mem_of_getElem? (i := 110) (by decide +kernel)) (by decide +kernel)
theorem mw_482 : (Cond.methodLink qR_F 78 qy_F_findProduction : Cond) ∈ gG := q_tables_1_3 (List.mem_of_getElem? (i := 111) (by decide +kernel)) (by decide +kernel)
theorem mw_483 : (Cond.instanceMethod qy_F_findProduction : Cond) ∈ gG := q_tables_1_3 (List.mem_of_getElem? (i := 113) (by decide +kernel)) (by decide +kernel)
theorem mw_484 : (Cond.code qy_F_findProduction qc_F_findProduction 3 (some .int) : Cond) ∈ gG := q_tables_1_3 (List.mem_of_getElem? (i := 114) rfl) rfl
theorem mw_485 : (Cond.methodLink qR_F 94 qy_G_size : Cond) ∈ gG := q_tables_1_3 (List.mem_of_getElem? (i := 115) (by decide +kernel)) (by decide +kernel)
theorem mw_486 : (Cond.methodLink qR_F 100 qy_G_head : Cond) ∈ gG := q_tables_1_3 (List.mem_of_getElem? (i := 116) (by decide +kernel)) (by decide +kernel)
theorem mw_487 : (Cond.methodLink qR_F 103 qy_F_findSplit : Cond) ∈ gG := q_tables_1_3 (List.mem_of_getElem? (i := 117) (by decide +kernel)) (by decide +kernel)
theorem mw_488 : (Cond.instanceMethod qy_F_findSplit : Cond) ∈ gG := q_tables_1_3 (List.mem_of_getElem? (i := 119) (by decide +kernel)) (by decide +kernel)
theorem mw_489 : (Cond.code qy_F_findSplit qc_F_findSplit 7 (some .boolean) : Cond) ∈ gG := q_tables_1_3 (List.mem_of_getElem? (i := 120) rfl) rfl
theorem mw_490 : (Cond.methodLink qR_F 106 qy_G_lastFirstEnd : Cond) ∈ gG := q_tables_1_3 (List.mem_of_getElem? (i := 121) (by decide +kernel)) (by decide +kernel)
theorem mw_491 : (Cond.methodLink qR_F 109 qy_G_lastSecondEnd : Cond) ∈ gG := q_tables_1_3 (List.mem_of_getElem? (i := 122) (by decide +kernel)) (by decide +kernel)
theorem mw_492 : (Cond.methodLink qR_F 112 qy_G_leastFirstEnd : Cond) ∈ gG := q_tables_1_3 (List.mem_of_getElem? (i := 123) (by decide +kernel)) (by decide +kernel)
theorem mw_493 : (Cond.methodLink qR_F 115 qy_G_leastSecondEnd : Cond) ∈ gG := q_tables_1_3 (List.mem_of_getElem? (i := 124) (by decide +kernel)) (by decide +kernel)
theorem mw_494 : (Cond.methodLink qR_F 118 qy_F_isWithin : Cond) ∈ gG := q_tables_1_3 (List.mem_of_getElem? (i := 125) (by decide +kernel)) (by decide +kernel)
theorem mw_495 : (Cond.instanceMethod qy_F_isWithin : Cond) ∈ gG := q_tables_1_3 (List.mem_of_getElem? (i := 127) (by decide +kernel)) (by decide +kernel)
theorem mw_496 : (Cond.code qy_F_isWithin qc_F_isWithin 5 (some .boolean) : Cond) ∈ gG := q_tables_1_3 (List.mem_of_getElem? (i := 128) rfl) rfl
theorem mw_497 : (Cond.methodLink qR_F 122 qy_F_splitTrees : Cond) ∈ gG := q_tables_1_3 (List.mem_of_getElem? (i := 129) (by decide +kernel)) (by decide +kernel)
theorem mw_498 : (Cond.instanceMethod qy_F_splitTrees : Cond) ∈ gG := q_tables_1_3 (List.mem_of_getElem? (i := 131) (by decide +kernel)) (by decide +kernel)
theorem mw_499 : (Cond.code qy_F_splitTrees qc_F_splitTrees 6 (some .int) : Cond) ∈ gG := q_tables_1_3 (List.mem_of_getElem? (i := 132) rfl) rfl
theorem mw_500 : (Cond.methodLink qR_F 128 qy_G_item : Cond) ∈ gG := q_tables_1_3 (List.mem_of_getElem? (i := 133) (by decide +kernel)) (by decide +kernel)
theorem mw_501 : (Cond.methodLink qR_F 131 qy_C_trees : Cond) ∈ gG := q_tables_1_3 (List.mem_of_getElem? (i := 134) (by decide +kernel)) (by decide +kernel)
theorem mw_502 : (Cond.methodLink qR_F 125 qy_F_splitCost : Cond) ∈ gG := q_tables_1_3 (List.mem_of_getElem? (i := 136) (by decide +kernel)) (by decide +kernel)
theorem mw_503 : (Cond.instanceMethod qy_F_splitCost : Cond) ∈ gG := q_tables_1_3 (List.mem_of_getElem? (i := 138) (by decide +kernel)) (by decide +kernel)
theorem mw_504 : (Cond.code qy_F_splitCost qc_F_splitCost 4 (some .int) : Cond) ∈ gG := q_tables_1_3 (List.mem_of_getElem? (i := 139) rfl) rfl
theorem mw_505 : (Cond.methodLink qR_F 138 qy_G_ownCost : Cond) ∈ gG := q_tables_1_3 (List.mem_of_getElem? (i := 140) (by decide +kernel)) (by decide +kernel)
theorem mw_506 : (Cond.methodLink qR_F 82 qy_T_grow : Cond) ∈ gG := q_tables_1_3 (List.mem_of_getElem? (i := 141) (by decide +kernel)) (by decide +kernel)
theorem mw_507 : (Cond.instanceMethod qy_T_grow : Cond) ∈ gG := q_tables_1_3 (List.mem_of_getElem? (i := 142) (by decide +kernel)) (by decide +kernel)
theorem mw_508 : (Cond.selects qR_T qy_T_grow qy_T_grow : Cond) ∈ gG := q_tables_1_3 (List.mem_of_getElem? (i := 143) (by decide +kernel)) (by decide +kernel)
theorem mw_509 : (Cond.code qy_T_grow qc_T_grow 6 (none) : Cond) ∈ gG := q_tables_1_3 (List.mem_of_getElem? (i := 144) rfl) rfl
theorem mw_510 : (Cond.methodLink qR_F 86 qy_F_pileUpItems : Cond) ∈ gG := q_tables_1_3 (List.mem_of_getElem? (i := 145) (by decide +kernel)) (by decide +kernel)
theorem mw_511 : (Cond.instanceMethod qy_F_pileUpItems : Cond) ∈ gG := q_tables_1_3 (List.mem_of_getElem? (i := 147) (by decide +kernel)) (by decide +kernel)
theorem mw_512 : (Cond.code qy_F_pileUpItems qc_F_pileUpItems 8 (none) : Cond) ∈ gG := q_tables_1_3 (List.mem_of_getElem? (i := 148) rfl) rfl
theorem mw_513 : (Cond.methodLink qR_H 147 qy_T_size : Cond) ∈ gG := q_tables_1_3 (List.mem_of_getElem? (i := 149) (by decide +kernel)) (by decide +kernel)
theorem mw_514 : (Cond.instanceMethod qy_T_size : Cond) ∈ gG := q_tables_1_3 (List.mem_of_getElem? (i := 150) (by decide +kernel)) (by decide +kernel)
theorem mw_515 : (Cond.selects qR_T qy_T_size qy_T_size : Cond) ∈ gG := q_tables_1_3 (List.mem_of_getElem? (i := 151) (by decide +kernel)) (by decide +kernel)
theorem mw_516 : (Cond.code qy_T_size qc_T_size 1 (some .int) : Cond) ∈ gG := q_tables_1_3 (List.mem_of_getElem? (i := 152) rfl) rfl
theorem mw_517 : (Cond.methodLink qR_L 86 qy_L_node : Cond) ∈ gG := q_tables_1_3 (List.mem_of_getElem? (i := 153) (by decide +kernel)) (by decide +kernel)
theorem mw_518 : (Cond.static qy_L_node : Cond) ∈ gG := q_tables_1_3 (List.mem_of_getElem? (i := 154) (by decide +kernel)) (by decide +kernel)
theorem mw_519 : (Cond.codeWith qy_L_node qc_L_node 5 (some .int) [(0, 10, 13, 31), (0, 10, 17, 13)] : Cond) ∈ gG := q_tables_1_3 (List.mem_of_getElem? (i := 155) rfl) rfl
theorem mw_520 : (Cond.methodLink qR_L 42 qy_H_node : Cond) ∈ gG := q_tables_1_3 (List.mem_of_getElem? (i := 156) (by decide +kernel)) (by decide +kernel)
theorem mw_521 : (Cond.instanceMethod qy_H_node : Cond) ∈ gG := q_tables_1_3 (List.mem_of_getElem? (i := 157) (by decide +kernel)) (by decide +kernel)
theorem mw_522 : (Cond.selects qR_H qy_H_node qy_H_node : Cond) ∈ gG := q_tables_1_3 (List.mem_of_getElem? (i := 158) (by decide +kernel)) (by decide +kernel)
theorem mw_523 : (Cond.code qy_H_node qc_H_node 3 (some .int) : Cond) ∈ gG := q_tables_1_3 (List.mem_of_getElem? (i := 159) rfl) rfl
theorem mw_524 : (Cond.methodLink qR_H 157 qy_T_fact : Cond) ∈ gG := q_tables_1_3 (List.mem_of_getElem? (i := 162) (by decide +kernel)) (by decide +kernel)
theorem mw_525 : (Cond.instanceMethod qy_T_fact : Cond) ∈ gG := q_tables_1_3 (List.mem_of_getElem? (i := 163) (by decide +kernel)) (by decide +kernel)
theorem mw_526 : (Cond.selects qR_T qy_T_fact qy_T_fact : Cond) ∈ gG := q_tables_1_3 (List.mem_of_getElem? (i := 164) (by decide +kernel)) (by decide +kernel)
theorem mw_527 : (Cond.code qy_T_fact qc_T_fact 4 (some .int) : Cond) ∈ gG := q_tables_1_3 (List.mem_of_getElem? (i := 165) rfl) rfl
theorem mw_528 : (Cond.methodLink qR_L 90 qy_L_next : Cond) ∈ gG := q_tables_1_3 (List.mem_of_getElem? (i := 166) (by decide +kernel)) (by decide +kernel)
theorem mw_529 : (Cond.static qy_L_next : Cond) ∈ gG := q_tables_1_3 (List.mem_of_getElem? (i := 167) (by decide +kernel)) (by decide +kernel)
theorem mw_530 : (Cond.codeWith qy_L_next qc_L_next 4 (some .int) [(0, 9, 12, 31)] : Cond) ∈ gG := q_tables_1_3 (List.mem_of_getElem? (i := 168) rfl) rfl
theorem mw_531 : (Cond.methodLink qR_L 46 qy_H_next : Cond) ∈ gG := q_tables_1_3 (List.mem_of_getElem? (i := 169) (by decide +kernel)) (by decide +kernel)
theorem mw_532 : (Cond.instanceMethod qy_H_next : Cond) ∈ gG := q_tables_1_3 (List.mem_of_getElem? (i := 170) (by decide +kernel)) (by decide +kernel)
theorem mw_533 : (Cond.selects qR_H qy_H_next qy_H_next : Cond) ∈ gG := q_tables_1_3 (List.mem_of_getElem? (i := 171) (by decide +kernel)) (by decide +kernel)
