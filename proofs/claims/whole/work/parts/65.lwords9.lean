theorem lmc {P : Cond → Prop} {a : Cond} {l : List Cond} (h : P a) (t : ∀ w ∈ l, P w) : ∀ w ∈ a :: l, P w := List.forall_mem_cons.mpr ⟨h, t⟩
theorem lmn {P : Cond → Prop} : ∀ w ∈ ([] : List Cond), P w := fun _ h => absurd h List.not_mem_nil
theorem lma {P : Cond → Prop} {a b : List Cond} (h : ∀ w ∈ a, P w) (g : ∀ w ∈ b, P w) : ∀ w ∈ a ++ b, P w := List.forall_mem_append.mpr ⟨h, g⟩
theorem lt_wsX00 : ∀ w ∈ wsX00, w ∈ lw_tbl := (lmc lm_2 (lmc lm_1 (lmc lm_0 lmn)))
theorem lt_wsX10 : ∀ w ∈ wsX10, w ∈ lw_tbl := (lmc lm_7 (lmc lm_6 (lmc lm_5 (lmc lm_4 (lmc lm_3 lmn)))))
theorem lt_wsX20 : ∀ w ∈ wsX20, w ∈ lw_tbl := (lmc lm_8 lmn)
theorem lt_wsX40 : ∀ w ∈ wsX40, w ∈ lw_tbl := (lmc lm_17 (lmc lm_16 (lmc lm_15 (lmc lm_14 (lmc lm_13 (lmc lm_12 (lmc lm_11 (lmc lm_10 (lmc lm_9 lmn)))))))))
theorem lt_wsX50 : ∀ w ∈ wsX50, w ∈ lw_tbl := (lmc lm_20 (lmc lm_19 (lmc lm_18 lmn)))
theorem lt_wsX60 : ∀ w ∈ wsX60, w ∈ lw_tbl := (lmc lm_22 (lmc lm_21 lmn))
theorem lt_wsX70 : ∀ w ∈ wsX70, w ∈ lw_tbl := (lmc lm_30 (lmc lm_29 (lmc lm_28 (lmc lm_27 (lmc lm_26 (lmc lm_25 (lmc lm_24 (lmc lm_23 lmn))))))))
theorem lt_wsX80 : ∀ w ∈ wsX80, w ∈ lw_tbl := (lmc lm_40 (lmc lm_39 (lmc lm_38 (lmc lm_37 (lmc lm_36 (lmc lm_35 (lmc lm_34 (lmc lm_33 (lmc lm_32 (lmc lm_31 lmn))))))))))
theorem lt_wsX90 : ∀ w ∈ wsX90, w ∈ lw_tbl := (lmc lm_50 (lmc lm_49 (lmc lm_48 (lmc lm_47 (lmc lm_46 (lmc lm_45 (lmc lm_44 (lmc lm_43 (lmc lm_42 (lmc lm_41 lmn))))))))))
theorem lt_wsX100 : ∀ w ∈ wsX100, w ∈ lw_tbl := (lmc lm_81 (lmc lm_80 (lmc lm_79 (lmc lm_78 (lmc lm_77 (lmc lm_76 (lmc lm_75 (lmc lm_74 (lmc lm_73 (lmc lm_72 (lmc lm_71 (lmc lm_70 (lmc lm_69 (lmc lm_68 (lmc lm_67 (lmc lm_66 (lmc lm_65 (lmc lm_64 (lmc lm_63 (lmc lm_62 (lmc lm_61 (lmc lm_60 (lmc lm_59 (lmc lm_58 (lmc lm_57 (lmc lm_56 (lmc lm_55 (lmc lm_54 (lmc lm_53 (lmc lm_52 (lmc lm_51 lmn)))))))))))))))))))))))))))))))
theorem lt_wsX9_type : ∀ w ∈ wsX9_type, w ∈ lw_tbl := (lmc lm_82 (lma (lma (lmc lm_90 (lmc lm_89 (lmc lm_88 (lmc lm_87 (lmc lm_86 (lmc lm_85 (lmc lm_84 (lmc lm_83 lmn)))))))) lt_wsX90) lt_wsX60))
theorem lv_X9_type : ∀ w ∈ wsV RL 15 RX9 yX9_type wsX9_type, w ∈ lw_tbl := lma (lmc lm_94 (lmc lm_93 (lmc lm_92 (lmc lm_91 lmn)))) lt_wsX9_type
set_option maxRecDepth 20000 in
theorem lg_X9_type : (wsV RL 15 RX9 yX9_type wsX9_type).all goodWord = true := by decide +kernel
theorem lt_wsX9_clear : ∀ w ∈ wsX9_clear, w ∈ lw_tbl := (lmc lm_95 (lma (lma (lmc lm_90 (lmc lm_99 (lmc lm_98 (lmc lm_97 (lmc lm_86 (lmc lm_96 (lmc lm_84 lmn))))))) lt_wsX90) lt_wsX60))
theorem lv_X9_clear : ∀ w ∈ wsV RL 20 RX9 yX9_clear wsX9_clear, w ∈ lw_tbl := lma (lmc lm_102 (lmc lm_101 (lmc lm_100 (lmc lm_91 lmn)))) lt_wsX9_clear
set_option maxRecDepth 20000 in
theorem lg_X9_clear : (wsV RL 20 RX9 yX9_clear wsX9_clear).all goodWord = true := by decide +kernel
theorem lt_wsX9_town_r1 : ∀ w ∈ wsX9_town_r1, w ∈ lw_tbl := (lmc lm_126 (lmc lm_125 (lmc lm_90 (lmc lm_124 (lmc lm_123 (lmc lm_122 (lmc lm_121 (lmc lm_120 (lmc lm_119 (lmc lm_118 (lmc lm_117 (lmc lm_116 (lmc lm_115 (lmc lm_114 (lmc lm_113 (lmc lm_112 (lmc lm_111 (lmc lm_110 (lmc lm_109 (lmc lm_108 (lmc lm_107 (lmc lm_106 (lmc lm_105 (lmc lm_104 lmn))))))))))))))))))))))))
theorem lt_wsX9_town_r2 : ∀ w ∈ wsX9_town_r2, w ∈ lw_tbl := (lmc lm_147 (lmc lm_146 (lmc lm_145 (lmc lm_144 (lmc lm_143 (lmc lm_142 (lmc lm_141 (lmc lm_140 (lmc lm_139 (lmc lm_138 (lmc lm_137 (lmc lm_86 (lmc lm_136 (lmc lm_84 (lmc lm_83 (lmc lm_135 (lmc lm_134 (lmc lm_133 (lmc lm_132 (lmc lm_131 (lmc lm_130 (lmc lm_129 (lmc lm_128 (lmc lm_127 lmn))))))))))))))))))))))))
theorem lt_wsX9_town_r3 : ∀ w ∈ wsX9_town_r3, w ∈ lw_tbl := (lmc lm_171 (lmc lm_170 (lmc lm_169 (lmc lm_168 (lmc lm_167 (lmc lm_166 (lmc lm_165 (lmc lm_164 (lmc lm_163 (lmc lm_162 (lmc lm_161 (lmc lm_160 (lmc lm_159 (lmc lm_158 (lmc lm_157 (lmc lm_156 (lmc lm_155 (lmc lm_154 (lmc lm_153 (lmc lm_152 (lmc lm_151 (lmc lm_150 (lmc lm_149 (lmc lm_148 lmn))))))))))))))))))))))))
theorem lt_wsX9_town_r4 : ∀ w ∈ wsX9_town_r4, w ∈ lw_tbl := (lmc lm_195 (lmc lm_194 (lmc lm_193 (lmc lm_192 (lmc lm_191 (lmc lm_190 (lmc lm_189 (lmc lm_188 (lmc lm_187 (lmc lm_186 (lmc lm_185 (lmc lm_184 (lmc lm_183 (lmc lm_182 (lmc lm_181 (lmc lm_180 (lmc lm_179 (lmc lm_178 (lmc lm_177 (lmc lm_176 (lmc lm_175 (lmc lm_174 (lmc lm_173 (lmc lm_172 lmn))))))))))))))))))))))))
theorem lt_wsX9_town_r5 : ∀ w ∈ wsX9_town_r5, w ∈ lw_tbl := (lmc lm_219 (lmc lm_218 (lmc lm_217 (lmc lm_216 (lmc lm_215 (lmc lm_214 (lmc lm_213 (lmc lm_212 (lmc lm_211 (lmc lm_210 (lmc lm_209 (lmc lm_208 (lmc lm_207 (lmc lm_206 (lmc lm_205 (lmc lm_204 (lmc lm_203 (lmc lm_202 (lmc lm_201 (lmc lm_200 (lmc lm_199 (lmc lm_198 (lmc lm_197 (lmc lm_196 lmn))))))))))))))))))))))))
theorem lt_wsX9_town_r6 : ∀ w ∈ wsX9_town_r6, w ∈ lw_tbl := (lmc lm_243 (lmc lm_242 (lmc lm_241 (lmc lm_240 (lmc lm_239 (lmc lm_238 (lmc lm_237 (lmc lm_236 (lmc lm_235 (lmc lm_234 (lmc lm_233 (lmc lm_232 (lmc lm_231 (lmc lm_230 (lmc lm_229 (lmc lm_228 (lmc lm_227 (lmc lm_226 (lmc lm_225 (lmc lm_224 (lmc lm_223 (lmc lm_222 (lmc lm_221 (lmc lm_220 lmn))))))))))))))))))))))))
theorem lt_wsX9_town_r7 : ∀ w ∈ wsX9_town_r7, w ∈ lw_tbl := (lmc lm_267 (lmc lm_266 (lmc lm_265 (lmc lm_264 (lmc lm_263 (lmc lm_262 (lmc lm_261 (lmc lm_260 (lmc lm_259 (lmc lm_258 (lmc lm_257 (lmc lm_256 (lmc lm_255 (lmc lm_254 (lmc lm_253 (lmc lm_252 (lmc lm_251 (lmc lm_250 (lmc lm_249 (lmc lm_248 (lmc lm_247 (lmc lm_246 (lmc lm_245 (lmc lm_244 lmn))))))))))))))))))))))))
theorem lt_wsX9_town_r8 : ∀ w ∈ wsX9_town_r8, w ∈ lw_tbl := (lmc lm_286 (lmc lm_285 (lmc lm_284 (lmc lm_283 (lmc lm_282 (lmc lm_281 (lmc lm_280 (lmc lm_279 (lmc lm_278 (lmc lm_277 (lmc lm_276 (lmc lm_275 (lmc lm_274 (lmc lm_99 (lmc lm_98 (lmc lm_97 (lmc lm_96 (lmc lm_273 (lmc lm_272 (lmc lm_271 (lmc lm_270 (lmc lm_269 (lmc lm_268 lmn)))))))))))))))))))))))
theorem lt_wsX9_town : ∀ w ∈ wsX9_town, w ∈ lw_tbl := (lmc lm_103 (lma (lma (lma (lma (lma (lma (lma lt_wsX9_town_r1 (lma lt_wsX9_town_r2 (lma lt_wsX9_town_r3 (lma lt_wsX9_town_r4 (lma lt_wsX9_town_r5 (lma lt_wsX9_town_r6 (lma lt_wsX9_town_r7 lt_wsX9_town_r8))))))) lt_wsX90) lt_wsX10) lt_wsX80) lt_wsX70) lt_wsX60) lt_wsX50))
theorem lv_X9_town : ∀ w ∈ wsV RL 25 RX9 yX9_town wsX9_town, w ∈ lw_tbl := lma (lmc lm_289 (lmc lm_288 (lmc lm_287 (lmc lm_91 lmn)))) lt_wsX9_town
set_option maxRecDepth 20000 in
theorem lg_X9_town : (wsV RL 25 RX9 yX9_town wsX9_town).all goodWord = true := by decide +kernel
theorem lt_wsX9_house_r1 : ∀ w ∈ wsX9_house_r1, w ∈ lw_tbl := (lmc lm_124 (lmc lm_304 (lmc lm_286 (lmc lm_285 (lmc lm_118 (lmc lm_284 (lmc lm_116 (lmc lm_303 (lmc lm_302 (lmc lm_301 (lmc lm_300 (lmc lm_299 (lmc lm_298 (lmc lm_297 (lmc lm_296 (lmc lm_259 (lmc lm_295 (lmc lm_294 (lmc lm_207 (lmc lm_293 (lmc lm_258 (lmc lm_244 (lmc lm_292 (lmc lm_291 lmn))))))))))))))))))))))))
theorem lt_wsX9_house_r2 : ∀ w ∈ wsX9_house_r2, w ∈ lw_tbl := (lmc lm_309 (lmc lm_308 (lmc lm_307 (lmc lm_306 (lmc lm_305 lmn)))))
theorem lt_wsX9_house : ∀ w ∈ wsX9_house, w ∈ lw_tbl := (lmc lm_290 (lma (lma (lma lt_wsX9_house_r1 lt_wsX9_house_r2) lt_wsX90) lt_wsX80))
theorem lv_X9_house : ∀ w ∈ wsV RL 29 RX9 yX9_house wsX9_house, w ∈ lw_tbl := lma (lmc lm_312 (lmc lm_311 (lmc lm_310 (lmc lm_91 lmn)))) lt_wsX9_house
set_option maxRecDepth 20000 in
theorem lg_X9_house : (wsV RL 29 RX9 yX9_house wsX9_house).all goodWord = true := by decide +kernel
theorem lt_wsX9_sort : ∀ w ∈ wsX9_sort, w ∈ lw_tbl := (lmc lm_313 (lma (lma (lmc lm_124 (lmc lm_329 (lmc lm_328 (lmc lm_327 (lmc lm_118 (lmc lm_326 (lmc lm_115 (lmc lm_325 (lmc lm_324 (lmc lm_91 (lmc lm_323 (lmc lm_322 (lmc lm_321 (lmc lm_320 (lmc lm_319 (lmc lm_220 (lmc lm_318 (lmc lm_317 (lmc lm_316 (lmc lm_315 (lmc lm_314 (lmc lm_267 lmn)))))))))))))))))))))) lt_wsX90) lt_wsX80))
theorem lv_X9_sort : ∀ w ∈ wsV RL 34 RX9 yX9_sort wsX9_sort, w ∈ lw_tbl := lma (lmc lm_332 (lmc lm_331 (lmc lm_330 (lmc lm_91 lmn)))) lt_wsX9_sort
set_option maxRecDepth 20000 in
theorem lg_X9_sort : (wsV RL 34 RX9 yX9_sort wsX9_sort).all goodWord = true := by decide +kernel
theorem lt_wsX9_roof : ∀ w ∈ wsX9_roof, w ∈ lw_tbl := (lmc lm_333 (lma (lma (lmc lm_124 (lmc lm_304 (lmc lm_286 (lmc lm_285 (lmc lm_118 (lmc lm_284 (lmc lm_116 (lmc lm_329 (lmc lm_328 (lmc lm_327 (lmc lm_326 (lmc lm_115 (lmc lm_334 (lmc lm_247 (lmc lm_246 (lmc lm_245 (lmc lm_252 (lmc lm_244 lmn)))))))))))))))))) lt_wsX90) lt_wsX80))
theorem lv_X9_roof : ∀ w ∈ wsV RL 38 RX9 yX9_roof wsX9_roof, w ∈ lw_tbl := lma (lmc lm_337 (lmc lm_336 (lmc lm_335 (lmc lm_91 lmn)))) lt_wsX9_roof
set_option maxRecDepth 20000 in
theorem lg_X9_roof : (wsV RL 38 RX9 yX9_roof wsX9_roof).all goodWord = true := by decide +kernel
theorem lt_wsX9_wind : ∀ w ∈ wsX9_wind, w ∈ lw_tbl := (lmc lm_338 (lma (lma (lmc lm_124 lmn) lt_wsX90) lt_wsX80))
theorem lv_X9_wind : ∀ w ∈ wsV RL 42 RX9 yX9_wind wsX9_wind, w ∈ lw_tbl := lma (lmc lm_341 (lmc lm_340 (lmc lm_339 (lmc lm_91 lmn)))) lt_wsX9_wind
set_option maxRecDepth 20000 in
theorem lg_X9_wind : (wsV RL 42 RX9 yX9_wind wsX9_wind).all goodWord = true := by decide +kernel
theorem lt_wsX9_breaches_r1 : ∀ w ∈ wsX9_breaches_r1, w ∈ lw_tbl := (lmc lm_124 (lmc lm_325 (lmc lm_324 (lmc lm_91 (lmc lm_323 (lmc lm_350 (lmc lm_349 (lmc lm_348 (lmc lm_118 (lmc lm_347 (lmc lm_116 (lmc lm_253 (lmc lm_346 (lmc lm_345 (lmc lm_344 (lmc lm_343 (lmc lm_299 (lmc lm_298 (lmc lm_297 (lmc lm_296 (lmc lm_259 (lmc lm_295 (lmc lm_294 (lmc lm_207 lmn))))))))))))))))))))))))
theorem lt_wsX9_breaches_r2 : ∀ w ∈ wsX9_breaches_r2, w ∈ lw_tbl := (lmc lm_293 (lmc lm_258 (lmc lm_244 (lmc lm_286 (lmc lm_285 (lmc lm_284 (lmc lm_355 (lmc lm_354 (lmc lm_353 (lmc lm_352 (lmc lm_351 (lmc lm_291 (lmc lm_309 (lmc lm_308 (lmc lm_307 (lmc lm_306 (lmc lm_305 lmn)))))))))))))))))
theorem lt_wsX9_breaches : ∀ w ∈ wsX9_breaches, w ∈ lw_tbl := (lmc lm_342 (lma (lma (lma lt_wsX9_breaches_r1 lt_wsX9_breaches_r2) lt_wsX90) lt_wsX80))
theorem lv_X9_breaches : ∀ w ∈ wsV RL 47 RX9 yX9_breaches wsX9_breaches, w ∈ lw_tbl := lma (lmc lm_358 (lmc lm_357 (lmc lm_356 (lmc lm_91 lmn)))) lt_wsX9_breaches
set_option maxRecDepth 20000 in
theorem lg_X9_breaches : (wsV RL 47 RX9 yX9_breaches wsX9_breaches).all goodWord = true := by decide +kernel
theorem lt_wsX9_cheapest_r1 : ∀ w ∈ wsX9_cheapest_r1, w ∈ lw_tbl := (lmc lm_124 (lmc lm_371 (lmc lm_325 (lmc lm_324 (lmc lm_91 (lmc lm_323 (lmc lm_304 (lmc lm_286 (lmc lm_285 (lmc lm_118 (lmc lm_284 (lmc lm_116 (lmc lm_370 (lmc lm_369 (lmc lm_368 (lmc lm_367 (lmc lm_366 (lmc lm_365 (lmc lm_364 (lmc lm_363 (lmc lm_362 (lmc lm_361 (lmc lm_360 (lmc lm_345 lmn))))))))))))))))))))))))
theorem lt_wsX9_cheapest_r2 : ∀ w ∈ wsX9_cheapest_r2, w ∈ lw_tbl := (lmc lm_344 (lmc lm_343 (lmc lm_299 (lmc lm_298 (lmc lm_297 (lmc lm_296 (lmc lm_259 (lmc lm_295 (lmc lm_294 (lmc lm_207 (lmc lm_293 (lmc lm_258 (lmc lm_244 (lmc lm_376 (lmc lm_375 (lmc lm_374 (lmc lm_373 (lmc lm_372 (lmc lm_321 (lmc lm_320 (lmc lm_319 (lmc lm_220 (lmc lm_318 (lmc lm_328 lmn))))))))))))))))))))))))
theorem lt_wsX9_cheapest_r3 : ∀ w ∈ wsX9_cheapest_r3, w ∈ lw_tbl := (lmc lm_327 (lmc lm_326 (lmc lm_115 (lmc lm_395 (lmc lm_394 (lmc lm_393 (lmc lm_392 (lmc lm_391 (lmc lm_390 (lmc lm_389 (lmc lm_388 (lmc lm_387 (lmc lm_386 (lmc lm_385 (lmc lm_384 (lmc lm_383 (lmc lm_382 (lmc lm_381 (lmc lm_380 (lmc lm_379 (lmc lm_208 (lmc lm_206 (lmc lm_378 (lmc lm_377 lmn))))))))))))))))))))))))
theorem lt_wsX9_cheapest_r4 : ∀ w ∈ wsX9_cheapest_r4, w ∈ lw_tbl := (lmc lm_405 (lmc lm_404 (lmc lm_403 (lmc lm_402 (lmc lm_401 (lmc lm_400 (lmc lm_399 (lmc lm_398 (lmc lm_397 (lmc lm_396 lmn))))))))))
theorem lt_wsX9_cheapest : ∀ w ∈ wsX9_cheapest, w ∈ lw_tbl := (lmc lm_359 (lma (lma (lma (lma lt_wsX9_cheapest_r1 (lma lt_wsX9_cheapest_r2 (lma lt_wsX9_cheapest_r3 lt_wsX9_cheapest_r4))) lt_wsX90) lt_wsX80) lt_wsX40))
theorem lv_X9_cheapest : ∀ w ∈ wsV RL 51 RX9 yX9_cheapest wsX9_cheapest, w ∈ lw_tbl := lma (lmc lm_408 (lmc lm_407 (lmc lm_406 (lmc lm_91 lmn)))) lt_wsX9_cheapest
set_option maxRecDepth 20000 in
theorem lg_X9_cheapest : (wsV RL 51 RX9 yX9_cheapest wsX9_cheapest).all goodWord = true := by decide +kernel
theorem lt_wsX9_ways_r1 : ∀ w ∈ wsX9_ways_r1, w ∈ lw_tbl := (lmc lm_371 (lmc lm_124 (lmc lm_325 (lmc lm_324 (lmc lm_91 (lmc lm_323 (lmc lm_370 (lmc lm_369 (lmc lm_368 (lmc lm_367 (lmc lm_366 (lmc lm_365 (lmc lm_364 (lmc lm_363 (lmc lm_362 (lmc lm_361 (lmc lm_360 (lmc lm_345 (lmc lm_344 (lmc lm_118 (lmc lm_343 (lmc lm_299 (lmc lm_298 (lmc lm_297 lmn))))))))))))))))))))))))
theorem lt_wsX9_ways_r2 : ∀ w ∈ wsX9_ways_r2, w ∈ lw_tbl := (lmc lm_296 (lmc lm_116 (lmc lm_259 (lmc lm_295 (lmc lm_294 (lmc lm_207 (lmc lm_293 (lmc lm_258 (lmc lm_244 (lmc lm_286 (lmc lm_285 (lmc lm_284 (lmc lm_416 (lmc lm_415 (lmc lm_414 (lmc lm_413 (lmc lm_412 (lmc lm_411 (lmc lm_410 (lmc lm_404 (lmc lm_399 (lmc lm_398 (lmc lm_397 (lmc lm_396 lmn))))))))))))))))))))))))
theorem lt_wsX9_ways_r3 : ∀ w ∈ wsX9_ways_r3, w ∈ lw_tbl := (lmc lm_417 (lmc lm_291 (lmc lm_309 (lmc lm_308 (lmc lm_307 (lmc lm_306 (lmc lm_305 lmn)))))))
theorem lt_wsX9_ways : ∀ w ∈ wsX9_ways, w ∈ lw_tbl := (lmc lm_409 (lma (lma (lma (lma lt_wsX9_ways_r1 (lma lt_wsX9_ways_r2 lt_wsX9_ways_r3)) lt_wsX90) lt_wsX80) lt_wsX40))
theorem lv_X9_ways : ∀ w ∈ wsV RL 55 RX9 yX9_ways wsX9_ways, w ∈ lw_tbl := lma (lmc lm_420 (lmc lm_419 (lmc lm_418 (lmc lm_91 lmn)))) lt_wsX9_ways
set_option maxRecDepth 20000 in
theorem lg_X9_ways : (wsV RL 55 RX9 yX9_ways wsX9_ways).all goodWord = true := by decide +kernel
theorem lt_wsX9_must_r1 : ∀ w ∈ wsX9_must_r1, w ∈ lw_tbl := (lmc lm_124 (lmc lm_371 (lmc lm_325 (lmc lm_324 (lmc lm_91 (lmc lm_323 (lmc lm_304 (lmc lm_286 (lmc lm_285 (lmc lm_118 (lmc lm_284 (lmc lm_116 (lmc lm_370 (lmc lm_369 (lmc lm_368 (lmc lm_367 (lmc lm_366 (lmc lm_365 (lmc lm_364 (lmc lm_363 (lmc lm_362 (lmc lm_361 (lmc lm_360 (lmc lm_345 lmn))))))))))))))))))))))))
theorem lt_wsX9_must_r2 : ∀ w ∈ wsX9_must_r2, w ∈ lw_tbl := (lmc lm_344 (lmc lm_343 (lmc lm_299 (lmc lm_298 (lmc lm_297 (lmc lm_296 (lmc lm_259 (lmc lm_295 (lmc lm_294 (lmc lm_207 (lmc lm_293 (lmc lm_258 (lmc lm_244 (lmc lm_425 (lmc lm_424 (lmc lm_423 (lmc lm_422 (lmc lm_389 (lmc lm_388 (lmc lm_387 (lmc lm_386 (lmc lm_385 (lmc lm_384 (lmc lm_390 lmn))))))))))))))))))))))))
theorem lt_wsX9_must_r3 : ∀ w ∈ wsX9_must_r3, w ∈ lw_tbl := (lmc lm_383 (lmc lm_382 (lmc lm_381 (lmc lm_380 (lmc lm_379 (lmc lm_208 (lmc lm_206 (lmc lm_378 (lmc lm_377 (lmc lm_405 (lmc lm_404 (lmc lm_391 (lmc lm_403 (lmc lm_402 (lmc lm_401 (lmc lm_400 (lmc lm_399 (lmc lm_398 (lmc lm_397 (lmc lm_396 lmn))))))))))))))))))))
theorem lt_wsX9_must : ∀ w ∈ wsX9_must, w ∈ lw_tbl := (lmc lm_421 (lma (lma (lma (lma lt_wsX9_must_r1 (lma lt_wsX9_must_r2 lt_wsX9_must_r3)) lt_wsX90) lt_wsX80) lt_wsX40))
theorem lv_X9_must : ∀ w ∈ wsV RL 59 RX9 yX9_must wsX9_must, w ∈ lw_tbl := lma (lmc lm_428 (lmc lm_427 (lmc lm_426 (lmc lm_91 lmn)))) lt_wsX9_must
set_option maxRecDepth 20000 in
theorem lg_X9_must : (wsV RL 59 RX9 yX9_must wsX9_must).all goodWord = true := by decide +kernel
theorem lt_wsX9_catches_r1 : ∀ w ∈ wsX9_catches_r1, w ∈ lw_tbl := (lmc lm_124 (lmc lm_440 (lmc lm_304 (lmc lm_286 (lmc lm_285 (lmc lm_118 (lmc lm_284 (lmc lm_116 (lmc lm_439 (lmc lm_438 (lmc lm_437 (lmc lm_436 (lmc lm_435 (lmc lm_434 (lmc lm_433 (lmc lm_432 (lmc lm_431 (lmc lm_253 (lmc lm_244 (lmc lm_430 (lmc lm_316 (lmc lm_315 (lmc lm_314 (lmc lm_267 lmn))))))))))))))))))))))))
theorem lt_wsX9_catches_r2 : ∀ w ∈ wsX9_catches_r2, w ∈ lw_tbl := (lmc lm_318 (lmc lm_328 (lmc lm_327 (lmc lm_326 (lmc lm_115 (lmc lm_449 (lmc lm_354 (lmc lm_353 (lmc lm_352 (lmc lm_448 (lmc lm_447 (lmc lm_446 (lmc lm_445 (lmc lm_444 (lmc lm_443 (lmc lm_442 (lmc lm_441 (lmc lm_302 (lmc lm_301 (lmc lm_300 (lmc lm_299 (lmc lm_298 (lmc lm_297 (lmc lm_296 lmn))))))))))))))))))))))))
theorem lt_wsX9_catches_r3 : ∀ w ∈ wsX9_catches_r3, w ∈ lw_tbl := (lmc lm_259 (lmc lm_295 (lmc lm_294 (lmc lm_207 (lmc lm_293 (lmc lm_258 (lmc lm_454 (lmc lm_453 (lmc lm_452 (lmc lm_451 (lmc lm_450 (lmc lm_262 (lmc lm_261 (lmc lm_260 lmn))))))))))))))
theorem lt_wsX9_catches : ∀ w ∈ wsX9_catches, w ∈ lw_tbl := (lmc lm_429 (lma (lma (lma (lma lt_wsX9_catches_r1 (lma lt_wsX9_catches_r2 lt_wsX9_catches_r3)) lt_wsX90) lt_wsX00) lt_wsX80))
theorem lv_X9_catches : ∀ w ∈ wsV RL 63 RX9 yX9_catches wsX9_catches, w ∈ lw_tbl := lma (lmc lm_457 (lmc lm_456 (lmc lm_455 (lmc lm_91 lmn)))) lt_wsX9_catches
set_option maxRecDepth 20000 in
theorem lg_X9_catches : (wsV RL 63 RX9 yX9_catches wsX9_catches).all goodWord = true := by decide +kernel
theorem lt_wsX9_fire_r1 : ∀ w ∈ wsX9_fire_r1, w ∈ lw_tbl := (lmc lm_124 (lmc lm_440 (lmc lm_304 (lmc lm_286 (lmc lm_285 (lmc lm_118 (lmc lm_284 (lmc lm_116 (lmc lm_439 (lmc lm_438 (lmc lm_437 (lmc lm_436 (lmc lm_435 (lmc lm_434 (lmc lm_433 (lmc lm_432 (lmc lm_431 (lmc lm_253 (lmc lm_244 (lmc lm_430 (lmc lm_316 (lmc lm_315 (lmc lm_314 (lmc lm_267 lmn))))))))))))))))))))))))
theorem lt_wsX9_fire_r2 : ∀ w ∈ wsX9_fire_r2, w ∈ lw_tbl := (lmc lm_318 (lmc lm_328 (lmc lm_327 (lmc lm_326 (lmc lm_115 (lmc lm_449 (lmc lm_354 (lmc lm_353 (lmc lm_352 (lmc lm_448 (lmc lm_447 (lmc lm_446 (lmc lm_445 (lmc lm_444 (lmc lm_443 (lmc lm_442 (lmc lm_441 (lmc lm_302 (lmc lm_301 (lmc lm_300 (lmc lm_299 (lmc lm_298 (lmc lm_297 (lmc lm_296 lmn))))))))))))))))))))))))
theorem lt_wsX9_fire_r3 : ∀ w ∈ wsX9_fire_r3, w ∈ lw_tbl := (lmc lm_259 (lmc lm_295 (lmc lm_294 (lmc lm_207 (lmc lm_293 (lmc lm_258 (lmc lm_454 (lmc lm_453 (lmc lm_452 (lmc lm_451 (lmc lm_450 (lmc lm_262 (lmc lm_261 (lmc lm_260 (lmc lm_463 (lmc lm_462 (lmc lm_461 (lmc lm_460 (lmc lm_459 (lmc lm_291 (lmc lm_309 (lmc lm_308 (lmc lm_307 (lmc lm_306 lmn))))))))))))))))))))))))
theorem lt_wsX9_fire_r4 : ∀ w ∈ wsX9_fire_r4, w ∈ lw_tbl := (lmc lm_305 (lmc lm_322 (lmc lm_321 (lmc lm_320 (lmc lm_319 (lmc lm_220 (lmc lm_317 lmn)))))))
theorem lt_wsX9_fire : ∀ w ∈ wsX9_fire, w ∈ lw_tbl := (lmc lm_458 (lma (lma (lma (lma lt_wsX9_fire_r1 (lma lt_wsX9_fire_r2 (lma lt_wsX9_fire_r3 lt_wsX9_fire_r4))) lt_wsX90) lt_wsX80) lt_wsX00))
theorem lv_X9_fire : ∀ w ∈ wsV RL 67 RX9 yX9_fire wsX9_fire, w ∈ lw_tbl := lma (lmc lm_466 (lmc lm_465 (lmc lm_464 (lmc lm_91 lmn)))) lt_wsX9_fire
set_option maxRecDepth 20000 in
theorem lg_X9_fire : (wsV RL 67 RX9 yX9_fire wsX9_fire).all goodWord = true := by decide +kernel
theorem lt_wsX9_worst_r1 : ∀ w ∈ wsX9_worst_r1, w ∈ lw_tbl := (lmc lm_124 (lmc lm_472 (lmc lm_471 (lmc lm_470 (lmc lm_91 (lmc lm_469 (lmc lm_440 (lmc lm_468 (lmc lm_433 (lmc lm_432 (lmc lm_118 (lmc lm_431 (lmc lm_253 (lmc lm_244 (lmc lm_286 (lmc lm_285 (lmc lm_284 (lmc lm_116 (lmc lm_430 (lmc lm_316 (lmc lm_315 (lmc lm_314 (lmc lm_267 (lmc lm_318 lmn))))))))))))))))))))))))
theorem lt_wsX9_worst_r2 : ∀ w ∈ wsX9_worst_r2, w ∈ lw_tbl := (lmc lm_328 (lmc lm_327 (lmc lm_326 (lmc lm_115 (lmc lm_474 (lmc lm_354 (lmc lm_353 (lmc lm_352 (lmc lm_473 (lmc lm_447 (lmc lm_446 (lmc lm_436 (lmc lm_445 (lmc lm_444 (lmc lm_443 (lmc lm_442 (lmc lm_441 (lmc lm_302 (lmc lm_301 (lmc lm_300 (lmc lm_299 (lmc lm_298 (lmc lm_297 (lmc lm_296 lmn))))))))))))))))))))))))
theorem lt_wsX9_worst_r3 : ∀ w ∈ wsX9_worst_r3, w ∈ lw_tbl := (lmc lm_259 (lmc lm_295 (lmc lm_294 (lmc lm_207 (lmc lm_293 (lmc lm_258 (lmc lm_454 (lmc lm_453 (lmc lm_452 (lmc lm_451 (lmc lm_450 (lmc lm_262 (lmc lm_261 (lmc lm_260 (lmc lm_463 (lmc lm_462 (lmc lm_461 (lmc lm_460 (lmc lm_459 (lmc lm_291 (lmc lm_309 (lmc lm_308 (lmc lm_307 (lmc lm_306 lmn))))))))))))))))))))))))
theorem lt_wsX9_worst_r4 : ∀ w ∈ wsX9_worst_r4, w ∈ lw_tbl := (lmc lm_305 (lmc lm_322 (lmc lm_321 (lmc lm_320 (lmc lm_319 (lmc lm_220 lmn))))))
theorem lt_wsX9_worst : ∀ w ∈ wsX9_worst, w ∈ lw_tbl := (lmc lm_467 (lma (lma (lma (lma lt_wsX9_worst_r1 (lma lt_wsX9_worst_r2 (lma lt_wsX9_worst_r3 lt_wsX9_worst_r4))) lt_wsX90) lt_wsX80) lt_wsX00))
theorem lv_X9_worst : ∀ w ∈ wsV RL 71 RX9 yX9_worst wsX9_worst, w ∈ lw_tbl := lma (lmc lm_477 (lmc lm_476 (lmc lm_475 (lmc lm_91 lmn)))) lt_wsX9_worst
set_option maxRecDepth 20000 in
theorem lg_X9_worst : (wsV RL 71 RX9 yX9_worst wsX9_worst).all goodWord = true := by decide +kernel
theorem lt_wsX9_mean_r1 : ∀ w ∈ wsX9_mean_r1, w ∈ lw_tbl := (lmc lm_124 (lmc lm_479 (lmc lm_468 (lmc lm_433 (lmc lm_432 (lmc lm_118 (lmc lm_431 (lmc lm_253 (lmc lm_244 (lmc lm_286 (lmc lm_285 (lmc lm_284 (lmc lm_116 (lmc lm_430 (lmc lm_316 (lmc lm_315 (lmc lm_314 (lmc lm_267 (lmc lm_318 (lmc lm_328 (lmc lm_327 (lmc lm_326 (lmc lm_115 (lmc lm_472 lmn))))))))))))))))))))))))
theorem lt_wsX9_mean_r2 : ∀ w ∈ wsX9_mean_r2, w ∈ lw_tbl := (lmc lm_471 (lmc lm_470 (lmc lm_91 (lmc lm_469 (lmc lm_440 (lmc lm_474 (lmc lm_354 (lmc lm_353 (lmc lm_352 (lmc lm_473 (lmc lm_447 (lmc lm_446 (lmc lm_436 (lmc lm_445 (lmc lm_444 (lmc lm_443 (lmc lm_442 (lmc lm_441 (lmc lm_302 (lmc lm_301 (lmc lm_300 (lmc lm_299 (lmc lm_298 (lmc lm_297 lmn))))))))))))))))))))))))
theorem lt_wsX9_mean_r3 : ∀ w ∈ wsX9_mean_r3, w ∈ lw_tbl := (lmc lm_296 (lmc lm_259 (lmc lm_295 (lmc lm_294 (lmc lm_207 (lmc lm_293 (lmc lm_258 (lmc lm_454 (lmc lm_453 (lmc lm_452 (lmc lm_451 (lmc lm_450 (lmc lm_262 (lmc lm_261 (lmc lm_260 (lmc lm_463 (lmc lm_462 (lmc lm_461 (lmc lm_460 (lmc lm_459 (lmc lm_291 (lmc lm_309 (lmc lm_308 (lmc lm_307 lmn))))))))))))))))))))))))
theorem lt_wsX9_mean_r4 : ∀ w ∈ wsX9_mean_r4, w ∈ lw_tbl := (lmc lm_306 (lmc lm_305 (lmc lm_322 (lmc lm_321 (lmc lm_320 (lmc lm_319 (lmc lm_220 (lmc lm_482 (lmc lm_481 (lmc lm_480 (lmc lm_325 (lmc lm_324 (lmc lm_323 lmn)))))))))))))
theorem lt_wsX9_mean : ∀ w ∈ wsX9_mean, w ∈ lw_tbl := (lmc lm_478 (lma (lma (lma (lma lt_wsX9_mean_r1 (lma lt_wsX9_mean_r2 (lma lt_wsX9_mean_r3 lt_wsX9_mean_r4))) lt_wsX90) lt_wsX80) lt_wsX00))
theorem lv_X9_mean : ∀ w ∈ wsV RL 75 RX9 yX9_mean wsX9_mean, w ∈ lw_tbl := lma (lmc lm_485 (lmc lm_484 (lmc lm_483 (lmc lm_91 lmn)))) lt_wsX9_mean
set_option maxRecDepth 20000 in
theorem lg_X9_mean : (wsV RL 75 RX9 yX9_mean wsX9_mean).all goodWord = true := by decide +kernel
theorem lt_wsX9_saw : ∀ w ∈ wsX9_saw, w ∈ lw_tbl := (lmc lm_486 (lma (lma (lma (lmc lm_124 (lmc lm_123 (lmc lm_304 (lmc lm_286 (lmc lm_285 (lmc lm_118 (lmc lm_284 (lmc lm_116 (lmc lm_492 (lmc lm_491 (lmc lm_490 (lmc lm_270 (lmc lm_489 (lmc lm_268 (lmc lm_488 (lmc lm_487 lmn)))))))))))))))) lt_wsX90) lt_wsX50) lt_wsX80))
theorem lv_X9_saw : ∀ w ∈ wsV RL 79 RX9 yX9_saw wsX9_saw, w ∈ lw_tbl := lma (lmc lm_495 (lmc lm_494 (lmc lm_493 (lmc lm_91 lmn)))) lt_wsX9_saw
set_option maxRecDepth 20000 in
theorem lg_X9_saw : (wsV RL 79 RX9 yX9_saw wsX9_saw).all goodWord = true := by decide +kernel
theorem lt_wsX9_forget : ∀ w ∈ wsX9_forget, w ∈ lw_tbl := (lmc lm_496 (lma (lma (lmc lm_123 (lmc lm_273 (lmc lm_272 (lmc lm_271 (lmc lm_270 (lmc lm_269 (lmc lm_268 lmn))))))) lt_wsX90) lt_wsX50))
theorem lv_X9_forget : ∀ w ∈ wsV RL 83 RX9 yX9_forget wsX9_forget, w ∈ lw_tbl := lma (lmc lm_499 (lmc lm_498 (lmc lm_497 (lmc lm_91 lmn)))) lt_wsX9_forget
set_option maxRecDepth 20000 in
theorem lg_X9_forget : (wsV RL 83 RX9 yX9_forget wsX9_forget).all goodWord = true := by decide +kernel
theorem lt_wsX9_began_r1 : ∀ w ∈ wsX9_began_r1, w ∈ lw_tbl := (lmc lm_124 (lmc lm_440 (lmc lm_123 (lmc lm_439 (lmc lm_438 (lmc lm_437 (lmc lm_436 (lmc lm_435 (lmc lm_434 (lmc lm_433 (lmc lm_432 (lmc lm_118 (lmc lm_431 (lmc lm_253 (lmc lm_244 (lmc lm_286 (lmc lm_285 (lmc lm_284 (lmc lm_116 (lmc lm_430 (lmc lm_316 (lmc lm_315 (lmc lm_314 (lmc lm_267 lmn))))))))))))))))))))))))
theorem lt_wsX9_began_r2 : ∀ w ∈ wsX9_began_r2, w ∈ lw_tbl := (lmc lm_318 (lmc lm_328 (lmc lm_327 (lmc lm_326 (lmc lm_115 (lmc lm_449 (lmc lm_354 (lmc lm_353 (lmc lm_352 (lmc lm_448 (lmc lm_447 (lmc lm_446 (lmc lm_445 (lmc lm_444 (lmc lm_443 (lmc lm_442 (lmc lm_441 (lmc lm_302 (lmc lm_301 (lmc lm_300 (lmc lm_299 (lmc lm_298 (lmc lm_297 (lmc lm_296 lmn))))))))))))))))))))))))
theorem lt_wsX9_began_r3 : ∀ w ∈ wsX9_began_r3, w ∈ lw_tbl := (lmc lm_259 (lmc lm_295 (lmc lm_294 (lmc lm_207 (lmc lm_293 (lmc lm_258 (lmc lm_454 (lmc lm_453 (lmc lm_452 (lmc lm_451 (lmc lm_450 (lmc lm_262 (lmc lm_261 (lmc lm_260 (lmc lm_504 (lmc lm_503 (lmc lm_502 (lmc lm_270 (lmc lm_501 (lmc lm_268 (lmc lm_488 (lmc lm_487 lmn))))))))))))))))))))))
theorem lt_wsX9_began : ∀ w ∈ wsX9_began, w ∈ lw_tbl := (lmc lm_500 (lma (lma (lma (lma (lma lt_wsX9_began_r1 (lma lt_wsX9_began_r2 lt_wsX9_began_r3)) lt_wsX90) lt_wsX80) lt_wsX00) lt_wsX50))
theorem lv_X9_began : ∀ w ∈ wsV RL 87 RX9 yX9_began wsX9_began, w ∈ lw_tbl := lma (lmc lm_507 (lmc lm_506 (lmc lm_505 (lmc lm_91 lmn)))) lt_wsX9_began
set_option maxRecDepth 20000 in
theorem lg_X9_began : (wsV RL 87 RX9 yX9_began wsX9_began).all goodWord = true := by decide +kernel
theorem lt_wsX9_change_r1 : ∀ w ∈ wsX9_change_r1, w ∈ lw_tbl := (lmc lm_124 (lmc lm_371 (lmc lm_304 (lmc lm_286 (lmc lm_285 (lmc lm_118 (lmc lm_284 (lmc lm_116 (lmc lm_329 (lmc lm_328 (lmc lm_327 (lmc lm_326 (lmc lm_115 (lmc lm_325 (lmc lm_324 (lmc lm_91 (lmc lm_323 (lmc lm_334 (lmc lm_247 (lmc lm_246 (lmc lm_245 (lmc lm_252 (lmc lm_244 (lmc lm_509 lmn))))))))))))))))))))))))
theorem lt_wsX9_change_r2 : ∀ w ∈ wsX9_change_r2, w ∈ lw_tbl := (lmc lm_512 (lmc lm_511 (lmc lm_510 (lmc lm_355 (lmc lm_354 (lmc lm_353 (lmc lm_352 (lmc lm_253 (lmc lm_351 (lmc lm_291 (lmc lm_309 (lmc lm_308 (lmc lm_307 (lmc lm_306 (lmc lm_305 (lmc lm_370 (lmc lm_369 (lmc lm_368 (lmc lm_367 (lmc lm_366 (lmc lm_365 (lmc lm_364 (lmc lm_363 (lmc lm_362 lmn))))))))))))))))))))))))
theorem lt_wsX9_change_r3 : ∀ w ∈ wsX9_change_r3, w ∈ lw_tbl := (lmc lm_361 (lmc lm_360 (lmc lm_345 (lmc lm_344 (lmc lm_343 (lmc lm_299 (lmc lm_298 (lmc lm_297 (lmc lm_296 (lmc lm_259 (lmc lm_295 (lmc lm_294 (lmc lm_207 (lmc lm_293 (lmc lm_258 (lmc lm_520 (lmc lm_519 (lmc lm_518 (lmc lm_517 (lmc lm_516 (lmc lm_515 (lmc lm_514 (lmc lm_513 (lmc lm_395 lmn))))))))))))))))))))))))
theorem lt_wsX9_change_r4 : ∀ w ∈ wsX9_change_r4, w ∈ lw_tbl := (lmc lm_394 (lmc lm_393 (lmc lm_392 (lmc lm_391 (lmc lm_390 (lmc lm_389 (lmc lm_388 (lmc lm_387 (lmc lm_386 (lmc lm_385 (lmc lm_384 (lmc lm_383 (lmc lm_382 (lmc lm_381 (lmc lm_380 (lmc lm_379 (lmc lm_208 (lmc lm_206 (lmc lm_378 (lmc lm_377 (lmc lm_405 (lmc lm_404 (lmc lm_403 (lmc lm_402 lmn))))))))))))))))))))))))
theorem lt_wsX9_change_r5 : ∀ w ∈ wsX9_change_r5, w ∈ lw_tbl := (lmc lm_401 (lmc lm_400 (lmc lm_399 (lmc lm_398 (lmc lm_397 (lmc lm_396 lmn))))))
theorem lt_wsX9_change : ∀ w ∈ wsX9_change, w ∈ lw_tbl := (lmc lm_508 (lma (lma (lma (lma lt_wsX9_change_r1 (lma lt_wsX9_change_r2 (lma lt_wsX9_change_r3 (lma lt_wsX9_change_r4 lt_wsX9_change_r5)))) lt_wsX90) lt_wsX80) lt_wsX40))
theorem lv_X9_change : ∀ w ∈ wsV RL 91 RX9 yX9_change wsX9_change, w ∈ lw_tbl := lma (lmc lm_523 (lmc lm_522 (lmc lm_521 (lmc lm_91 lmn)))) lt_wsX9_change
set_option maxRecDepth 20000 in
theorem lg_X9_change : (wsV RL 91 RX9 yX9_change wsX9_change).all goodWord = true := by decide +kernel
theorem lt_wsX9_pays_r1 : ∀ w ∈ wsX9_pays_r1, w ∈ lw_tbl := (lmc lm_124 (lmc lm_479 (lmc lm_304 (lmc lm_286 (lmc lm_285 (lmc lm_118 (lmc lm_284 (lmc lm_116 (lmc lm_303 (lmc lm_302 (lmc lm_301 (lmc lm_300 (lmc lm_299 (lmc lm_298 (lmc lm_297 (lmc lm_296 (lmc lm_259 (lmc lm_295 (lmc lm_294 (lmc lm_207 (lmc lm_293 (lmc lm_258 (lmc lm_244 (lmc lm_322 lmn))))))))))))))))))))))))
theorem lt_wsX9_pays_r2 : ∀ w ∈ wsX9_pays_r2, w ∈ lw_tbl := (lmc lm_321 (lmc lm_320 (lmc lm_319 (lmc lm_220 (lmc lm_318 (lmc lm_328 (lmc lm_327 (lmc lm_326 (lmc lm_115 lmn)))))))))
theorem lt_wsX9_pays : ∀ w ∈ wsX9_pays, w ∈ lw_tbl := (lmc lm_524 (lma (lma (lma lt_wsX9_pays_r1 lt_wsX9_pays_r2) lt_wsX90) lt_wsX80))
theorem lv_X9_pays : ∀ w ∈ wsV RL 96 RX9 yX9_pays wsX9_pays, w ∈ lw_tbl := lma (lmc lm_527 (lmc lm_526 (lmc lm_525 (lmc lm_91 lmn)))) lt_wsX9_pays
set_option maxRecDepth 20000 in
theorem lg_X9_pays : (wsV RL 96 RX9 yX9_pays wsX9_pays).all goodWord = true := by decide +kernel
theorem lt_wsX9_order_r1 : ∀ w ∈ wsX9_order_r1, w ∈ lw_tbl := (lmc lm_124 (lmc lm_325 (lmc lm_324 (lmc lm_91 (lmc lm_323 (lmc lm_350 (lmc lm_349 (lmc lm_348 (lmc lm_118 (lmc lm_347 (lmc lm_116 (lmc lm_253 (lmc lm_346 (lmc lm_345 (lmc lm_344 (lmc lm_343 (lmc lm_299 (lmc lm_298 (lmc lm_297 (lmc lm_296 (lmc lm_259 (lmc lm_295 (lmc lm_294 (lmc lm_207 lmn))))))))))))))))))))))))
theorem lt_wsX9_order_r2 : ∀ w ∈ wsX9_order_r2, w ∈ lw_tbl := (lmc lm_293 (lmc lm_258 (lmc lm_244 (lmc lm_286 (lmc lm_285 (lmc lm_284 (lmc lm_355 (lmc lm_354 (lmc lm_353 (lmc lm_352 (lmc lm_351 (lmc lm_291 (lmc lm_309 (lmc lm_308 (lmc lm_307 (lmc lm_306 (lmc lm_305 lmn)))))))))))))))))
theorem lt_wsX9_order : ∀ w ∈ wsX9_order, w ∈ lw_tbl := (lmc lm_528 (lma (lma (lma lt_wsX9_order_r1 lt_wsX9_order_r2) lt_wsX90) lt_wsX80))
theorem lv_X9_order : ∀ w ∈ wsV RL 100 RX9 yX9_order wsX9_order, w ∈ lw_tbl := lma (lmc lm_531 (lmc lm_530 (lmc lm_529 (lmc lm_91 lmn)))) lt_wsX9_order
set_option maxRecDepth 20000 in
theorem lg_X9_order : (wsV RL 100 RX9 yX9_order wsX9_order).all goodWord = true := by decide +kernel
theorem lt_wsX9_years_r1 : ∀ w ∈ wsX9_years_r1, w ∈ lw_tbl := (lmc lm_124 (lmc lm_479 (lmc lm_329 (lmc lm_328 (lmc lm_327 (lmc lm_118 (lmc lm_326 (lmc lm_115 (lmc lm_542 (lmc lm_541 (lmc lm_540 (lmc lm_91 (lmc lm_539 (lmc lm_538 (lmc lm_537 (lmc lm_536 (lmc lm_535 (lmc lm_534 (lmc lm_533 (lmc lm_440 (lmc lm_317 (lmc lm_316 (lmc lm_315 (lmc lm_314 lmn))))))))))))))))))))))))
theorem lt_wsX9_years_r2 : ∀ w ∈ wsX9_years_r2, w ∈ lw_tbl := (lmc lm_267 (lmc lm_318 (lmc lm_473 (lmc lm_447 (lmc lm_446 (lmc lm_436 (lmc lm_445 (lmc lm_444 (lmc lm_443 (lmc lm_442 (lmc lm_441 (lmc lm_302 (lmc lm_301 (lmc lm_300 (lmc lm_299 (lmc lm_298 (lmc lm_297 (lmc lm_296 (lmc lm_116 (lmc lm_259 (lmc lm_295 (lmc lm_294 (lmc lm_207 (lmc lm_293 lmn))))))))))))))))))))))))
theorem lt_wsX9_years_r3 : ∀ w ∈ wsX9_years_r3, w ∈ lw_tbl := (lmc lm_258 (lmc lm_244 (lmc lm_286 (lmc lm_285 (lmc lm_284 (lmc lm_454 (lmc lm_453 (lmc lm_452 (lmc lm_451 (lmc lm_450 (lmc lm_262 (lmc lm_261 (lmc lm_260 (lmc lm_463 (lmc lm_462 (lmc lm_461 (lmc lm_460 (lmc lm_459 (lmc lm_291 (lmc lm_309 (lmc lm_308 (lmc lm_307 (lmc lm_306 (lmc lm_305 lmn))))))))))))))))))))))))
theorem lt_wsX9_years_r4 : ∀ w ∈ wsX9_years_r4, w ∈ lw_tbl := (lmc lm_322 (lmc lm_321 (lmc lm_320 (lmc lm_319 (lmc lm_220 (lmc lm_472 (lmc lm_471 (lmc lm_470 (lmc lm_469 (lmc lm_468 (lmc lm_433 (lmc lm_432 (lmc lm_431 (lmc lm_253 (lmc lm_430 (lmc lm_474 (lmc lm_354 (lmc lm_353 (lmc lm_352 lmn)))))))))))))))))))
theorem lt_wsX9_years : ∀ w ∈ wsX9_years, w ∈ lw_tbl := (lmc lm_532 (lma (lma (lma (lma lt_wsX9_years_r1 (lma lt_wsX9_years_r2 (lma lt_wsX9_years_r3 lt_wsX9_years_r4))) lt_wsX90) lt_wsX80) lt_wsX00))
theorem lv_X9_years : ∀ w ∈ wsV RL 105 RX9 yX9_years wsX9_years, w ∈ lw_tbl := lma (lmc lm_545 (lmc lm_544 (lmc lm_543 (lmc lm_91 lmn)))) lt_wsX9_years
set_option maxRecDepth 20000 in
theorem lg_X9_years : (wsV RL 105 RX9 yX9_years wsX9_years).all goodWord = true := by decide +kernel
theorem lt_wsX9_lot : ∀ w ∈ wsX9_lot, w ∈ lw_tbl := (lmc lm_546 (lma (lmc lm_538 lmn) lt_wsX90))
theorem lv_X9_lot : ∀ w ∈ wsV RL 109 RX9 yX9_lot wsX9_lot, w ∈ lw_tbl := lma (lmc lm_549 (lmc lm_548 (lmc lm_547 (lmc lm_91 lmn)))) lt_wsX9_lot
set_option maxRecDepth 20000 in
theorem lg_X9_lot : (wsV RL 109 RX9 yX9_lot wsX9_lot).all goodWord = true := by decide +kernel
theorem lt_wsX9_rate_r1 : ∀ w ∈ wsX9_rate_r1, w ∈ lw_tbl := (lmc lm_124 (lmc lm_479 (lmc lm_564 (lmc lm_304 (lmc lm_286 (lmc lm_285 (lmc lm_118 (lmc lm_284 (lmc lm_116 (lmc lm_563 (lmc lm_562 (lmc lm_561 (lmc lm_560 (lmc lm_559 (lmc lm_558 (lmc lm_557 (lmc lm_556 (lmc lm_555 (lmc lm_554 (lmc lm_553 (lmc lm_552 (lmc lm_551 (lmc lm_316 (lmc lm_315 lmn))))))))))))))))))))))))
theorem lt_wsX9_rate_r2 : ∀ w ∈ wsX9_rate_r2, w ∈ lw_tbl := (lmc lm_314 (lmc lm_267 (lmc lm_318 (lmc lm_328 (lmc lm_327 (lmc lm_326 (lmc lm_115 (lmc lm_575 (lmc lm_574 (lmc lm_573 (lmc lm_572 (lmc lm_571 (lmc lm_321 (lmc lm_320 (lmc lm_319 (lmc lm_220 (lmc lm_570 (lmc lm_569 (lmc lm_568 (lmc lm_567 (lmc lm_566 (lmc lm_565 (lmc lm_302 (lmc lm_301 lmn))))))))))))))))))))))))
theorem lt_wsX9_rate_r3 : ∀ w ∈ wsX9_rate_r3, w ∈ lw_tbl := (lmc lm_300 (lmc lm_299 (lmc lm_298 (lmc lm_297 (lmc lm_296 (lmc lm_259 (lmc lm_295 (lmc lm_294 (lmc lm_207 (lmc lm_293 (lmc lm_258 (lmc lm_244 (lmc lm_581 (lmc lm_291 (lmc lm_309 (lmc lm_308 (lmc lm_307 (lmc lm_306 (lmc lm_305 (lmc lm_580 (lmc lm_579 (lmc lm_578 (lmc lm_577 (lmc lm_576 lmn))))))))))))))))))))))))
theorem lt_wsX9_rate_r4 : ∀ w ∈ wsX9_rate_r4, w ∈ lw_tbl := (lmc lm_591 (lmc lm_590 (lmc lm_589 (lmc lm_588 (lmc lm_587 (lmc lm_586 (lmc lm_585 (lmc lm_584 (lmc lm_583 (lmc lm_582 lmn))))))))))
theorem lt_wsX9_rate : ∀ w ∈ wsX9_rate, w ∈ lw_tbl := (lmc lm_550 (lma (lma (lma (lma lt_wsX9_rate_r1 (lma lt_wsX9_rate_r2 (lma lt_wsX9_rate_r3 lt_wsX9_rate_r4))) lt_wsX90) lt_wsX80) lt_wsX20))
theorem lv_X9_rate : ∀ w ∈ wsV RL 113 RX9 yX9_rate wsX9_rate, w ∈ lw_tbl := lma (lmc lm_594 (lmc lm_593 (lmc lm_592 (lmc lm_91 lmn)))) lt_wsX9_rate
set_option maxRecDepth 20000 in
theorem lg_X9_rate : (wsV RL 113 RX9 yX9_rate wsX9_rate).all goodWord = true := by decide +kernel
theorem lt_wsX9_keep_r1 : ∀ w ∈ wsX9_keep_r1, w ∈ lw_tbl := (lmc lm_122 (lmc lm_124 (lmc lm_538 (lmc lm_123 (lmc lm_325 (lmc lm_324 (lmc lm_91 (lmc lm_323 (lmc lm_608 (lmc lm_607 (lmc lm_606 (lmc lm_605 (lmc lm_604 (lmc lm_603 (lmc lm_602 (lmc lm_402 (lmc lm_401 (lmc lm_400 (lmc lm_601 (lmc lm_600 (lmc lm_599 (lmc lm_598 (lmc lm_597 (lmc lm_596 lmn))))))))))))))))))))))))
theorem lt_wsX9_keep_r2 : ∀ w ∈ wsX9_keep_r2, w ∈ lw_tbl := (lmc lm_611 (lmc lm_270 (lmc lm_610 (lmc lm_268 (lmc lm_488 (lmc lm_609 (lmc lm_487 lmn)))))))
theorem lt_wsX9_keep : ∀ w ∈ wsX9_keep, w ∈ lw_tbl := (lmc lm_595 (lma (lma (lma (lma (lma lt_wsX9_keep_r1 lt_wsX9_keep_r2) lt_wsX90) lt_wsX50) lt_wsX80) lt_wsX10))
theorem lv_X9_keep : ∀ w ∈ wsV RL 117 RX9 yX9_keep wsX9_keep, w ∈ lw_tbl := lma (lmc lm_614 (lmc lm_613 (lmc lm_612 (lmc lm_91 lmn)))) lt_wsX9_keep
set_option maxRecDepth 20000 in
theorem lg_X9_keep : (wsV RL 117 RX9 yX9_keep wsX9_keep).all goodWord = true := by decide +kernel
theorem lt_wsX9_back_r1 : ∀ w ∈ wsX9_back_r1, w ∈ lw_tbl := (lmc lm_122 (lmc lm_124 (lmc lm_123 (lmc lm_538 (lmc lm_325 (lmc lm_324 (lmc lm_91 (lmc lm_323 (lmc lm_619 (lmc lm_618 (lmc lm_617 (lmc lm_605 (lmc lm_616 (lmc lm_603 (lmc lm_602 (lmc lm_402 (lmc lm_401 (lmc lm_400 (lmc lm_601 (lmc lm_599 (lmc lm_597 (lmc lm_596 (lmc lm_611 (lmc lm_270 lmn))))))))))))))))))))))))
theorem lt_wsX9_back_r2 : ∀ w ∈ wsX9_back_r2, w ∈ lw_tbl := (lmc lm_610 (lmc lm_268 (lmc lm_488 (lmc lm_609 (lmc lm_487 lmn)))))
theorem lt_wsX9_back : ∀ w ∈ wsX9_back, w ∈ lw_tbl := (lmc lm_615 (lma (lma (lma (lma (lma lt_wsX9_back_r1 lt_wsX9_back_r2) lt_wsX90) lt_wsX10) lt_wsX50) lt_wsX80))
theorem lv_X9_back : ∀ w ∈ wsV RL 121 RX9 yX9_back wsX9_back, w ∈ lw_tbl := lma (lmc lm_622 (lmc lm_621 (lmc lm_620 (lmc lm_91 lmn)))) lt_wsX9_back
set_option maxRecDepth 20000 in
theorem lg_X9_back : (wsV RL 121 RX9 yX9_back wsX9_back).all goodWord = true := by decide +kernel
theorem lt_wsX9_count_r1 : ∀ w ∈ wsX9_count_r1, w ∈ lw_tbl := (lmc lm_124 (lmc lm_123 (lmc lm_90 (lmc lm_509 (lmc lm_512 (lmc lm_511 (lmc lm_118 (lmc lm_510 (lmc lm_116 (lmc lm_355 (lmc lm_354 (lmc lm_353 (lmc lm_352 (lmc lm_253 (lmc lm_351 (lmc lm_291 (lmc lm_309 (lmc lm_308 (lmc lm_307 (lmc lm_306 (lmc lm_305 (lmc lm_626 (lmc lm_625 (lmc lm_624 lmn))))))))))))))))))))))))
theorem lt_wsX9_count_r2 : ∀ w ∈ wsX9_count_r2, w ∈ lw_tbl := (lmc lm_628 (lmc lm_627 (lmc lm_302 (lmc lm_301 (lmc lm_300 (lmc lm_299 (lmc lm_298 (lmc lm_297 (lmc lm_296 (lmc lm_259 (lmc lm_295 (lmc lm_294 (lmc lm_207 (lmc lm_293 (lmc lm_258 (lmc lm_244 (lmc lm_286 (lmc lm_285 (lmc lm_284 lmn)))))))))))))))))))
theorem lt_wsX9_count : ∀ w ∈ wsX9_count, w ∈ lw_tbl := (lmc lm_623 (lma (lma (lma (lma (lma lt_wsX9_count_r1 lt_wsX9_count_r2) lt_wsX90) lt_wsX80) lt_wsX50) lt_wsX60))
theorem lv_X9_count : ∀ w ∈ wsV RL 125 RX9 yX9_count wsX9_count, w ∈ lw_tbl := lma (lmc lm_631 (lmc lm_630 (lmc lm_629 (lmc lm_91 lmn)))) lt_wsX9_count
set_option maxRecDepth 20000 in
theorem lg_X9_count : (wsV RL 125 RX9 yX9_count wsX9_count).all goodWord = true := by decide +kernel
theorem lt_wsX9_trace : ∀ w ∈ wsX9_trace, w ∈ lw_tbl := (lmc lm_632 (lma (lma (lmc lm_564 lmn) lt_wsX90) lt_wsX20))
theorem lv_X9_trace : ∀ w ∈ wsV RL 129 RX9 yX9_trace wsX9_trace, w ∈ lw_tbl := lma (lmc lm_635 (lmc lm_634 (lmc lm_633 (lmc lm_91 lmn)))) lt_wsX9_trace
set_option maxRecDepth 20000 in
theorem lg_X9_trace : (wsV RL 129 RX9 yX9_trace wsX9_trace).all goodWord = true := by decide +kernel
theorem lt_wsX9_init_r1 : ∀ w ∈ wsX9_init_r1, w ∈ lw_tbl := (lmc lm_650 (lmc lm_649 (lmc lm_648 (lmc lm_647 (lmc lm_646 (lmc lm_86 (lmc lm_90 (lmc lm_645 (lmc lm_644 (lmc lm_109 (lmc lm_125 (lmc lm_643 (lmc lm_642 (lmc lm_367 (lmc lm_371 (lmc lm_641 (lmc lm_640 (lmc lm_436 (lmc lm_440 (lmc lm_639 (lmc lm_638 (lmc lm_270 (lmc lm_123 (lmc lm_637 lmn))))))))))))))))))))))))
theorem lt_wsX9_init_r2 : ∀ w ∈ wsX9_init_r2, w ∈ lw_tbl := (lmc lm_662 (lmc lm_560 (lmc lm_564 (lmc lm_661 (lmc lm_122 (lmc lm_660 (lmc lm_605 (lmc lm_659 (lmc lm_658 (lmc lm_118 (lmc lm_124 (lmc lm_126 (lmc lm_538 (lmc lm_657 (lmc lm_656 (lmc lm_655 (lmc lm_654 (lmc lm_83 (lmc lm_653 (lmc lm_652 (lmc lm_651 (lmc lm_104 (lmc lm_146 (lmc lm_145 lmn))))))))))))))))))))))))
theorem lt_wsX9_init_r3 : ∀ w ∈ wsX9_init_r3, w ∈ lw_tbl := (lmc lm_677 (lmc lm_676 (lmc lm_675 (lmc lm_363 (lmc lm_362 (lmc lm_404 (lmc lm_391 (lmc lm_361 (lmc lm_385 (lmc lm_674 (lmc lm_673 (lmc lm_672 (lmc lm_444 (lmc lm_671 (lmc lm_670 (lmc lm_669 (lmc lm_488 (lmc lm_487 (lmc lm_668 (lmc lm_667 (lmc lm_666 (lmc lm_665 (lmc lm_664 (lmc lm_663 lmn))))))))))))))))))))))))
theorem lt_wsX9_init_r4 : ∀ w ∈ wsX9_init_r4, w ∈ lw_tbl := (lmc lm_603 (lmc lm_681 (lmc lm_599 (lmc lm_680 (lmc lm_679 (lmc lm_678 (lmc lm_259 (lmc lm_258 (lmc lm_253 (lmc lm_252 (lmc lm_220 (lmc lm_267 lmn))))))))))))
theorem lt_wsX9_init : ∀ w ∈ wsX9_init, w ∈ lw_tbl := (lmc lm_636 (lma (lma (lma (lma (lma (lma (lma (lma (lma (lma lt_wsX9_init_r1 (lma lt_wsX9_init_r2 (lma lt_wsX9_init_r3 lt_wsX9_init_r4))) lt_wsX60) lt_wsX90) lt_wsX70) lt_wsX40) lt_wsX00) lt_wsX50) lt_wsX20) lt_wsX10) lt_wsX80))
set_option maxRecDepth 20000 in
theorem lg_X9_init : wsX9_init.all goodWord = true := by decide +kernel
theorem lt_wsX10_type : ∀ w ∈ wsX10_type, w ∈ lw_tbl := (lmc lm_682 (lma (lmc lm_690 (lmc lm_689 (lmc lm_688 (lmc lm_687 (lmc lm_686 (lmc lm_685 (lmc lm_684 (lmc lm_683 lmn)))))))) lt_wsX100))
theorem lv_X10_type : ∀ w ∈ wsV RL 19 RX10 yX10_type wsX10_type, w ∈ lw_tbl := lma (lmc lm_693 (lmc lm_692 (lmc lm_691 (lmc lm_684 lmn)))) lt_wsX10_type
set_option maxRecDepth 20000 in
theorem lg_X10_type : (wsV RL 19 RX10 yX10_type wsX10_type).all goodWord = true := by decide +kernel
theorem lt_wsX10_clear : ∀ w ∈ wsX10_clear, w ∈ lw_tbl := (lmc lm_694 (lma (lmc lm_690 (lmc lm_689 lmn)) lt_wsX100))
theorem lv_X10_clear : ∀ w ∈ wsV RL 24 RX10 yX10_clear wsX10_clear, w ∈ lw_tbl := lma (lmc lm_697 (lmc lm_696 (lmc lm_695 (lmc lm_684 lmn)))) lt_wsX10_clear
set_option maxRecDepth 20000 in
theorem lg_X10_clear : (wsV RL 24 RX10 yX10_clear wsX10_clear).all goodWord = true := by decide +kernel
theorem lt_wsX10_town_r1 : ∀ w ∈ wsX10_town_r1, w ∈ lw_tbl := (lmc lm_690 (lmc lm_719 (lmc lm_718 (lmc lm_717 (lmc lm_716 (lmc lm_715 (lmc lm_714 (lmc lm_713 (lmc lm_712 (lmc lm_711 (lmc lm_710 (lmc lm_709 (lmc lm_708 (lmc lm_707 (lmc lm_706 (lmc lm_705 (lmc lm_704 (lmc lm_703 (lmc lm_689 (lmc lm_702 (lmc lm_701 (lmc lm_700 (lmc lm_699 (lmc lm_684 lmn))))))))))))))))))))))))
theorem lt_wsX10_town_r2 : ∀ w ∈ wsX10_town_r2, w ∈ lw_tbl := (lmc lm_739 (lmc lm_738 (lmc lm_737 (lmc lm_736 (lmc lm_735 (lmc lm_734 (lmc lm_688 (lmc lm_686 (lmc lm_685 (lmc lm_683 (lmc lm_733 (lmc lm_732 (lmc lm_731 (lmc lm_730 (lmc lm_729 (lmc lm_728 (lmc lm_727 (lmc lm_726 (lmc lm_725 (lmc lm_724 (lmc lm_723 (lmc lm_722 (lmc lm_721 (lmc lm_720 lmn))))))))))))))))))))))))
theorem lt_wsX10_town_r3 : ∀ w ∈ wsX10_town_r3, w ∈ lw_tbl := (lmc lm_759 (lmc lm_758 (lmc lm_757 (lmc lm_756 (lmc lm_755 (lmc lm_754 (lmc lm_753 (lmc lm_752 (lmc lm_751 (lmc lm_750 (lmc lm_749 (lmc lm_748 (lmc lm_747 (lmc lm_746 (lmc lm_745 (lmc lm_744 (lmc lm_743 (lmc lm_742 (lmc lm_741 (lmc lm_740 lmn))))))))))))))))))))
theorem lt_wsX10_town : ∀ w ∈ wsX10_town, w ∈ lw_tbl := (lmc lm_698 (lma (lma lt_wsX10_town_r1 (lma lt_wsX10_town_r2 lt_wsX10_town_r3)) lt_wsX100))
theorem lv_X10_town : ∀ w ∈ wsV RL 28 RX10 yX10_town wsX10_town, w ∈ lw_tbl := lma (lmc lm_762 (lmc lm_761 (lmc lm_760 (lmc lm_684 lmn)))) lt_wsX10_town
set_option maxRecDepth 20000 in
theorem lg_X10_town : (wsV RL 28 RX10 yX10_town wsX10_town).all goodWord = true := by decide +kernel
theorem lt_wsX10_house_r1 : ∀ w ∈ wsX10_house_r1, w ∈ lw_tbl := (lmc lm_690 (lmc lm_707 (lmc lm_706 (lmc lm_704 (lmc lm_705 (lmc lm_777 (lmc lm_776 (lmc lm_775 (lmc lm_684 (lmc lm_774 (lmc lm_710 (lmc lm_686 (lmc lm_685 (lmc lm_683 (lmc lm_773 (lmc lm_772 (lmc lm_771 (lmc lm_770 (lmc lm_769 (lmc lm_768 (lmc lm_767 (lmc lm_766 (lmc lm_765 (lmc lm_764 lmn))))))))))))))))))))))))
theorem lt_wsX10_house_r2 : ∀ w ∈ wsX10_house_r2, w ∈ lw_tbl := (lmc lm_778 lmn)
theorem lt_wsX10_house : ∀ w ∈ wsX10_house, w ∈ lw_tbl := (lmc lm_763 (lma (lma lt_wsX10_house_r1 lt_wsX10_house_r2) lt_wsX100))
theorem lv_X10_house : ∀ w ∈ wsV RL 33 RX10 yX10_house wsX10_house, w ∈ lw_tbl := lma (lmc lm_781 (lmc lm_780 (lmc lm_779 (lmc lm_684 lmn)))) lt_wsX10_house
set_option maxRecDepth 20000 in
theorem lg_X10_house : (wsV RL 33 RX10 yX10_house wsX10_house).all goodWord = true := by decide +kernel
theorem lt_wsX10_sort : ∀ w ∈ wsX10_sort, w ∈ lw_tbl := (lmc lm_782 (lma (lmc lm_690 (lmc lm_709 (lmc lm_708 (lmc lm_786 (lmc lm_785 (lmc lm_784 (lmc lm_684 (lmc lm_783 (lmc lm_711 (lmc lm_686 (lmc lm_685 (lmc lm_683 lmn)))))))))))) lt_wsX100))
theorem lv_X10_sort : ∀ w ∈ wsV RL 37 RX10 yX10_sort wsX10_sort, w ∈ lw_tbl := lma (lmc lm_789 (lmc lm_788 (lmc lm_787 (lmc lm_684 lmn)))) lt_wsX10_sort
set_option maxRecDepth 20000 in
theorem lg_X10_sort : (wsV RL 37 RX10 yX10_sort wsX10_sort).all goodWord = true := by decide +kernel
theorem lt_wsX10_roof : ∀ w ∈ wsX10_roof, w ∈ lw_tbl := (lmc lm_790 (lma (lmc lm_690 (lmc lm_705 (lmc lm_704 (lmc lm_777 (lmc lm_776 (lmc lm_775 (lmc lm_684 (lmc lm_774 (lmc lm_710 (lmc lm_686 (lmc lm_685 (lmc lm_683 (lmc lm_786 (lmc lm_785 (lmc lm_784 (lmc lm_783 (lmc lm_711 lmn))))))))))))))))) lt_wsX100))
theorem lv_X10_roof : ∀ w ∈ wsV RL 41 RX10 yX10_roof wsX10_roof, w ∈ lw_tbl := lma (lmc lm_793 (lmc lm_792 (lmc lm_791 (lmc lm_684 lmn)))) lt_wsX10_roof
set_option maxRecDepth 20000 in
theorem lg_X10_roof : (wsV RL 41 RX10 yX10_roof wsX10_roof).all goodWord = true := by decide +kernel
theorem lt_wsX10_wind : ∀ w ∈ wsX10_wind, w ∈ lw_tbl := (lmc lm_794 (lma (lmc lm_690 (lmc lm_704 (lmc lm_686 (lmc lm_685 (lmc lm_684 (lmc lm_683 lmn)))))) lt_wsX100))
theorem lv_X10_wind : ∀ w ∈ wsV RL 46 RX10 yX10_wind wsX10_wind, w ∈ lw_tbl := lma (lmc lm_797 (lmc lm_796 (lmc lm_795 (lmc lm_684 lmn)))) lt_wsX10_wind
set_option maxRecDepth 20000 in
theorem lg_X10_wind : (wsV RL 46 RX10 yX10_wind wsX10_wind).all goodWord = true := by decide +kernel
theorem lt_wsX10_breaches_r1 : ∀ w ∈ wsX10_breaches_r1, w ∈ lw_tbl := (lmc lm_690 (lmc lm_814 (lmc lm_813 (lmc lm_684 (lmc lm_812 (lmc lm_686 (lmc lm_685 (lmc lm_683 (lmc lm_811 (lmc lm_810 (lmc lm_809 (lmc lm_808 (lmc lm_807 (lmc lm_704 (lmc lm_806 (lmc lm_805 (lmc lm_804 (lmc lm_803 (lmc lm_710 (lmc lm_802 (lmc lm_801 (lmc lm_800 (lmc lm_799 (lmc lm_769 lmn))))))))))))))))))))))))
theorem lt_wsX10_breaches_r2 : ∀ w ∈ wsX10_breaches_r2, w ∈ lw_tbl := (lmc lm_768 (lmc lm_767 (lmc lm_766 (lmc lm_707 (lmc lm_706 (lmc lm_765 (lmc lm_764 (lmc lm_778 (lmc lm_818 (lmc lm_817 (lmc lm_816 (lmc lm_815 lmn))))))))))))
theorem lt_wsX10_breaches : ∀ w ∈ wsX10_breaches, w ∈ lw_tbl := (lmc lm_798 (lma (lma lt_wsX10_breaches_r1 lt_wsX10_breaches_r2) lt_wsX100))
theorem lv_X10_breaches : ∀ w ∈ wsV RL 50 RX10 yX10_breaches wsX10_breaches, w ∈ lw_tbl := lma (lmc lm_821 (lmc lm_820 (lmc lm_819 (lmc lm_684 lmn)))) lt_wsX10_breaches
set_option maxRecDepth 20000 in
theorem lg_X10_breaches : (wsV RL 50 RX10 yX10_breaches wsX10_breaches).all goodWord = true := by decide +kernel
theorem lt_wsX10_cheapest_r1 : ∀ w ∈ wsX10_cheapest_r1, w ∈ lw_tbl := (lmc lm_690 (lmc lm_827 (lmc lm_814 (lmc lm_813 (lmc lm_684 (lmc lm_812 (lmc lm_686 (lmc lm_685 (lmc lm_683 (lmc lm_777 (lmc lm_776 (lmc lm_775 (lmc lm_774 (lmc lm_710 (lmc lm_826 (lmc lm_825 (lmc lm_824 (lmc lm_823 (lmc lm_807 (lmc lm_705 (lmc lm_711 (lmc lm_806 (lmc lm_805 (lmc lm_804 lmn))))))))))))))))))))))))
theorem lt_wsX10_cheapest_r2 : ∀ w ∈ wsX10_cheapest_r2, w ∈ lw_tbl := (lmc lm_803 (lmc lm_802 (lmc lm_801 (lmc lm_800 (lmc lm_799 (lmc lm_769 (lmc lm_768 (lmc lm_767 (lmc lm_766 (lmc lm_707 (lmc lm_706 (lmc lm_765 (lmc lm_764 (lmc lm_778 (lmc lm_818 (lmc lm_817 (lmc lm_816 (lmc lm_815 (lmc lm_832 (lmc lm_831 (lmc lm_830 (lmc lm_829 (lmc lm_709 (lmc lm_828 lmn))))))))))))))))))))))))
theorem lt_wsX10_cheapest_r3 : ∀ w ∈ wsX10_cheapest_r3, w ∈ lw_tbl := (lmc lm_839 (lmc lm_838 (lmc lm_837 (lmc lm_836 (lmc lm_835 (lmc lm_834 (lmc lm_833 lmn)))))))
theorem lt_wsX10_cheapest : ∀ w ∈ wsX10_cheapest, w ∈ lw_tbl := (lmc lm_822 (lma (lma lt_wsX10_cheapest_r1 (lma lt_wsX10_cheapest_r2 lt_wsX10_cheapest_r3)) lt_wsX100))
theorem lv_X10_cheapest : ∀ w ∈ wsV RL 54 RX10 yX10_cheapest wsX10_cheapest, w ∈ lw_tbl := lma (lmc lm_842 (lmc lm_841 (lmc lm_840 (lmc lm_684 lmn)))) lt_wsX10_cheapest
set_option maxRecDepth 20000 in
theorem lg_X10_cheapest : (wsV RL 54 RX10 yX10_cheapest wsX10_cheapest).all goodWord = true := by decide +kernel
theorem lt_wsX10_ways_r1 : ∀ w ∈ wsX10_ways_r1, w ∈ lw_tbl := (lmc lm_690 (lmc lm_814 (lmc lm_813 (lmc lm_684 (lmc lm_812 (lmc lm_686 (lmc lm_685 (lmc lm_683 (lmc lm_826 (lmc lm_825 (lmc lm_824 (lmc lm_823 (lmc lm_710 (lmc lm_807 (lmc lm_705 (lmc lm_711 (lmc lm_806 (lmc lm_805 (lmc lm_804 (lmc lm_803 (lmc lm_802 (lmc lm_801 (lmc lm_800 (lmc lm_799 lmn))))))))))))))))))))))))
theorem lt_wsX10_ways_r2 : ∀ w ∈ wsX10_ways_r2, w ∈ lw_tbl := (lmc lm_769 (lmc lm_768 (lmc lm_767 (lmc lm_766 (lmc lm_707 (lmc lm_706 (lmc lm_765 (lmc lm_764 (lmc lm_778 (lmc lm_818 (lmc lm_817 (lmc lm_816 (lmc lm_815 (lmc lm_836 (lmc lm_835 (lmc lm_834 (lmc lm_833 lmn)))))))))))))))))
theorem lt_wsX10_ways : ∀ w ∈ wsX10_ways, w ∈ lw_tbl := (lmc lm_843 (lma (lma lt_wsX10_ways_r1 lt_wsX10_ways_r2) lt_wsX100))
theorem lv_X10_ways : ∀ w ∈ wsV RL 58 RX10 yX10_ways wsX10_ways, w ∈ lw_tbl := lma (lmc lm_846 (lmc lm_845 (lmc lm_844 (lmc lm_684 lmn)))) lt_wsX10_ways
set_option maxRecDepth 20000 in
theorem lg_X10_ways : (wsV RL 58 RX10 yX10_ways wsX10_ways).all goodWord = true := by decide +kernel
theorem lt_wsX10_must_r1 : ∀ w ∈ wsX10_must_r1, w ∈ lw_tbl := (lmc lm_690 (lmc lm_807 (lmc lm_814 (lmc lm_813 (lmc lm_684 (lmc lm_812 (lmc lm_686 (lmc lm_685 (lmc lm_683 (lmc lm_777 (lmc lm_776 (lmc lm_775 (lmc lm_774 (lmc lm_710 (lmc lm_826 (lmc lm_825 (lmc lm_824 (lmc lm_823 (lmc lm_705 (lmc lm_711 (lmc lm_806 (lmc lm_805 (lmc lm_804 (lmc lm_803 lmn))))))))))))))))))))))))
theorem lt_wsX10_must_r2 : ∀ w ∈ wsX10_must_r2, w ∈ lw_tbl := (lmc lm_802 (lmc lm_801 (lmc lm_800 (lmc lm_799 (lmc lm_769 (lmc lm_768 (lmc lm_767 (lmc lm_766 (lmc lm_707 (lmc lm_706 (lmc lm_765 (lmc lm_764 (lmc lm_778 (lmc lm_818 (lmc lm_817 (lmc lm_816 (lmc lm_815 (lmc lm_836 (lmc lm_835 (lmc lm_834 (lmc lm_833 lmn)))))))))))))))))))))
theorem lt_wsX10_must : ∀ w ∈ wsX10_must, w ∈ lw_tbl := (lmc lm_847 (lma (lma lt_wsX10_must_r1 lt_wsX10_must_r2) lt_wsX100))
theorem lv_X10_must : ∀ w ∈ wsV RL 62 RX10 yX10_must wsX10_must, w ∈ lw_tbl := lma (lmc lm_850 (lmc lm_849 (lmc lm_848 (lmc lm_684 lmn)))) lt_wsX10_must
set_option maxRecDepth 20000 in
theorem lg_X10_must : (wsV RL 62 RX10 yX10_must wsX10_must).all goodWord = true := by decide +kernel
theorem lt_wsX10_catches_r1 : ∀ w ∈ wsX10_catches_r1, w ∈ lw_tbl := (lmc lm_690 (lmc lm_704 (lmc lm_858 (lmc lm_777 (lmc lm_776 (lmc lm_775 (lmc lm_684 (lmc lm_774 (lmc lm_710 (lmc lm_686 (lmc lm_685 (lmc lm_683 (lmc lm_811 (lmc lm_810 (lmc lm_809 (lmc lm_808 (lmc lm_807 (lmc lm_857 (lmc lm_856 (lmc lm_855 (lmc lm_854 (lmc lm_708 (lmc lm_853 (lmc lm_852 lmn))))))))))))))))))))))))
theorem lt_wsX10_catches_r2 : ∀ w ∈ wsX10_catches_r2, w ∈ lw_tbl := (lmc lm_867 (lmc lm_866 (lmc lm_865 (lmc lm_864 (lmc lm_863 (lmc lm_709 (lmc lm_769 (lmc lm_768 (lmc lm_767 (lmc lm_766 (lmc lm_707 (lmc lm_706 (lmc lm_765 (lmc lm_764 (lmc lm_778 (lmc lm_862 (lmc lm_861 (lmc lm_860 (lmc lm_859 lmn)))))))))))))))))))
theorem lt_wsX10_catches : ∀ w ∈ wsX10_catches, w ∈ lw_tbl := (lmc lm_851 (lma (lma lt_wsX10_catches_r1 lt_wsX10_catches_r2) lt_wsX100))
theorem lv_X10_catches : ∀ w ∈ wsV RL 66 RX10 yX10_catches wsX10_catches, w ∈ lw_tbl := lma (lmc lm_870 (lmc lm_869 (lmc lm_868 (lmc lm_684 lmn)))) lt_wsX10_catches
set_option maxRecDepth 20000 in
theorem lg_X10_catches : (wsV RL 66 RX10 yX10_catches wsX10_catches).all goodWord = true := by decide +kernel
theorem lt_wsX10_fire_r1 : ∀ w ∈ wsX10_fire_r1, w ∈ lw_tbl := (lmc lm_690 (lmc lm_704 (lmc lm_865 (lmc lm_864 (lmc lm_863 (lmc lm_777 (lmc lm_776 (lmc lm_775 (lmc lm_684 (lmc lm_774 (lmc lm_710 (lmc lm_686 (lmc lm_685 (lmc lm_683 (lmc lm_811 (lmc lm_810 (lmc lm_809 (lmc lm_808 (lmc lm_807 (lmc lm_857 (lmc lm_856 (lmc lm_855 (lmc lm_854 (lmc lm_708 lmn))))))))))))))))))))))))
theorem lt_wsX10_fire_r2 : ∀ w ∈ wsX10_fire_r2, w ∈ lw_tbl := (lmc lm_853 (lmc lm_852 (lmc lm_867 (lmc lm_866 (lmc lm_858 (lmc lm_709 (lmc lm_769 (lmc lm_768 (lmc lm_767 (lmc lm_766 (lmc lm_707 (lmc lm_706 (lmc lm_765 (lmc lm_764 (lmc lm_778 (lmc lm_862 (lmc lm_861 (lmc lm_860 (lmc lm_859 lmn)))))))))))))))))))
theorem lt_wsX10_fire : ∀ w ∈ wsX10_fire, w ∈ lw_tbl := (lmc lm_871 (lma (lma lt_wsX10_fire_r1 lt_wsX10_fire_r2) lt_wsX100))
theorem lv_X10_fire : ∀ w ∈ wsV RL 70 RX10 yX10_fire wsX10_fire, w ∈ lw_tbl := lma (lmc lm_874 (lmc lm_873 (lmc lm_872 (lmc lm_684 lmn)))) lt_wsX10_fire
set_option maxRecDepth 20000 in
theorem lg_X10_fire : (wsV RL 70 RX10 yX10_fire wsX10_fire).all goodWord = true := by decide +kernel
theorem lt_wsX10_worst_r1 : ∀ w ∈ wsX10_worst_r1, w ∈ lw_tbl := (lmc lm_690 (lmc lm_710 (lmc lm_704 (lmc lm_864 (lmc lm_811 (lmc lm_810 (lmc lm_809 (lmc lm_684 (lmc lm_808 (lmc lm_807 (lmc lm_857 (lmc lm_856 (lmc lm_855 (lmc lm_854 (lmc lm_708 (lmc lm_853 (lmc lm_852 (lmc lm_867 (lmc lm_866 (lmc lm_858 (lmc lm_865 (lmc lm_863 (lmc lm_709 (lmc lm_769 lmn))))))))))))))))))))))))
theorem lt_wsX10_worst_r2 : ∀ w ∈ wsX10_worst_r2, w ∈ lw_tbl := (lmc lm_768 (lmc lm_767 (lmc lm_766 (lmc lm_707 (lmc lm_706 (lmc lm_765 (lmc lm_764 (lmc lm_778 (lmc lm_862 (lmc lm_861 (lmc lm_860 (lmc lm_859 lmn))))))))))))
theorem lt_wsX10_worst : ∀ w ∈ wsX10_worst, w ∈ lw_tbl := (lmc lm_875 (lma (lma lt_wsX10_worst_r1 lt_wsX10_worst_r2) lt_wsX100))
theorem lv_X10_worst : ∀ w ∈ wsV RL 74 RX10 yX10_worst wsX10_worst, w ∈ lw_tbl := lma (lmc lm_878 (lmc lm_877 (lmc lm_876 (lmc lm_684 lmn)))) lt_wsX10_worst
set_option maxRecDepth 20000 in
theorem lg_X10_worst : (wsV RL 74 RX10 yX10_worst wsX10_worst).all goodWord = true := by decide +kernel
theorem lt_wsX10_mean_r1 : ∀ w ∈ wsX10_mean_r1, w ∈ lw_tbl := (lmc lm_690 (lmc lm_880 (lmc lm_710 (lmc lm_704 (lmc lm_864 (lmc lm_814 (lmc lm_813 (lmc lm_684 (lmc lm_812 (lmc lm_686 (lmc lm_685 (lmc lm_683 (lmc lm_811 (lmc lm_810 (lmc lm_809 (lmc lm_808 (lmc lm_807 (lmc lm_857 (lmc lm_856 (lmc lm_855 (lmc lm_854 (lmc lm_708 (lmc lm_853 (lmc lm_852 lmn))))))))))))))))))))))))
theorem lt_wsX10_mean_r2 : ∀ w ∈ wsX10_mean_r2, w ∈ lw_tbl := (lmc lm_867 (lmc lm_866 (lmc lm_858 (lmc lm_865 (lmc lm_863 (lmc lm_709 (lmc lm_769 (lmc lm_768 (lmc lm_767 (lmc lm_766 (lmc lm_707 (lmc lm_706 (lmc lm_765 (lmc lm_764 (lmc lm_778 (lmc lm_862 (lmc lm_861 (lmc lm_860 (lmc lm_859 (lmc lm_883 (lmc lm_882 (lmc lm_881 lmn))))))))))))))))))))))
theorem lt_wsX10_mean : ∀ w ∈ wsX10_mean, w ∈ lw_tbl := (lmc lm_879 (lma (lma lt_wsX10_mean_r1 lt_wsX10_mean_r2) lt_wsX100))
theorem lv_X10_mean : ∀ w ∈ wsV RL 78 RX10 yX10_mean wsX10_mean, w ∈ lw_tbl := lma (lmc lm_886 (lmc lm_885 (lmc lm_884 (lmc lm_684 lmn)))) lt_wsX10_mean
set_option maxRecDepth 20000 in
theorem lg_X10_mean : (wsV RL 78 RX10 yX10_mean wsX10_mean).all goodWord = true := by decide +kernel
theorem lt_wsX10_saw : ∀ w ∈ wsX10_saw, w ∈ lw_tbl := (lmc lm_887 (lma (lmc lm_690 (lmc lm_704 (lmc lm_777 (lmc lm_776 (lmc lm_775 (lmc lm_684 (lmc lm_774 (lmc lm_710 (lmc lm_686 (lmc lm_685 (lmc lm_683 lmn))))))))))) lt_wsX100))
theorem lv_X10_saw : ∀ w ∈ wsV RL 82 RX10 yX10_saw wsX10_saw, w ∈ lw_tbl := lma (lmc lm_890 (lmc lm_889 (lmc lm_888 (lmc lm_684 lmn)))) lt_wsX10_saw
set_option maxRecDepth 20000 in
theorem lg_X10_saw : (wsV RL 82 RX10 yX10_saw wsX10_saw).all goodWord = true := by decide +kernel
theorem lt_wsX10_forget : ∀ w ∈ wsX10_forget, w ∈ lw_tbl := (lmc lm_891 (lma (lmc lm_690 (lmc lm_704 lmn)) lt_wsX100))
theorem lv_X10_forget : ∀ w ∈ wsV RL 86 RX10 yX10_forget wsX10_forget, w ∈ lw_tbl := lma (lmc lm_894 (lmc lm_893 (lmc lm_892 (lmc lm_684 lmn)))) lt_wsX10_forget
set_option maxRecDepth 20000 in
theorem lg_X10_forget : (wsV RL 86 RX10 yX10_forget wsX10_forget).all goodWord = true := by decide +kernel
theorem lt_wsX10_began_r1 : ∀ w ∈ wsX10_began_r1, w ∈ lw_tbl := (lmc lm_690 (lmc lm_710 (lmc lm_704 (lmc lm_858 (lmc lm_811 (lmc lm_810 (lmc lm_809 (lmc lm_684 (lmc lm_808 (lmc lm_807 (lmc lm_857 (lmc lm_856 (lmc lm_855 (lmc lm_854 (lmc lm_708 (lmc lm_853 (lmc lm_852 (lmc lm_867 (lmc lm_866 (lmc lm_865 (lmc lm_864 (lmc lm_863 (lmc lm_709 (lmc lm_769 lmn))))))))))))))))))))))))
theorem lt_wsX10_began_r2 : ∀ w ∈ wsX10_began_r2, w ∈ lw_tbl := (lmc lm_768 (lmc lm_767 (lmc lm_766 (lmc lm_707 (lmc lm_706 (lmc lm_765 (lmc lm_764 (lmc lm_778 (lmc lm_862 (lmc lm_861 (lmc lm_860 (lmc lm_859 lmn))))))))))))
theorem lt_wsX10_began : ∀ w ∈ wsX10_began, w ∈ lw_tbl := (lmc lm_895 (lma (lma lt_wsX10_began_r1 lt_wsX10_began_r2) lt_wsX100))
theorem lv_X10_began : ∀ w ∈ wsV RL 90 RX10 yX10_began wsX10_began, w ∈ lw_tbl := lma (lmc lm_898 (lmc lm_897 (lmc lm_896 (lmc lm_684 lmn)))) lt_wsX10_began
set_option maxRecDepth 20000 in
theorem lg_X10_began : (wsV RL 90 RX10 yX10_began wsX10_began).all goodWord = true := by decide +kernel
theorem lt_wsX10_change_r1 : ∀ w ∈ wsX10_change_r1, w ∈ lw_tbl := (lmc lm_690 (lmc lm_705 (lmc lm_710 (lmc lm_704 (lmc lm_900 (lmc lm_807 (lmc lm_827 (lmc lm_777 (lmc lm_776 (lmc lm_775 (lmc lm_684 (lmc lm_774 (lmc lm_686 (lmc lm_685 (lmc lm_683 (lmc lm_786 (lmc lm_785 (lmc lm_784 (lmc lm_783 (lmc lm_711 (lmc lm_814 (lmc lm_813 (lmc lm_812 (lmc lm_826 lmn))))))))))))))))))))))))
theorem lt_wsX10_change_r2 : ∀ w ∈ wsX10_change_r2, w ∈ lw_tbl := (lmc lm_825 (lmc lm_824 (lmc lm_823 (lmc lm_806 (lmc lm_805 (lmc lm_804 (lmc lm_803 (lmc lm_802 (lmc lm_801 (lmc lm_800 (lmc lm_799 (lmc lm_769 (lmc lm_768 (lmc lm_767 (lmc lm_766 (lmc lm_707 (lmc lm_706 (lmc lm_765 (lmc lm_764 (lmc lm_778 (lmc lm_818 (lmc lm_817 (lmc lm_816 (lmc lm_815 lmn))))))))))))))))))))))))
theorem lt_wsX10_change_r3 : ∀ w ∈ wsX10_change_r3, w ∈ lw_tbl := (lmc lm_828 (lmc lm_839 (lmc lm_838 (lmc lm_837 (lmc lm_836 (lmc lm_835 (lmc lm_834 (lmc lm_833 lmn))))))))
theorem lt_wsX10_change : ∀ w ∈ wsX10_change, w ∈ lw_tbl := (lmc lm_899 (lma (lma lt_wsX10_change_r1 (lma lt_wsX10_change_r2 lt_wsX10_change_r3)) lt_wsX100))
theorem lv_X10_change : ∀ w ∈ wsV RL 95 RX10 yX10_change wsX10_change, w ∈ lw_tbl := lma (lmc lm_903 (lmc lm_902 (lmc lm_901 (lmc lm_684 lmn)))) lt_wsX10_change
set_option maxRecDepth 20000 in
theorem lg_X10_change : (wsV RL 95 RX10 yX10_change wsX10_change).all goodWord = true := by decide +kernel
theorem lt_wsX10_pays : ∀ w ∈ wsX10_pays, w ∈ lw_tbl := (lmc lm_904 (lma (lmc lm_690 (lmc lm_880 (lmc lm_710 (lmc lm_704 (lmc lm_709 (lmc lm_777 (lmc lm_776 (lmc lm_775 (lmc lm_684 (lmc lm_774 (lmc lm_686 (lmc lm_685 (lmc lm_683 (lmc lm_769 (lmc lm_768 (lmc lm_767 (lmc lm_766 (lmc lm_707 (lmc lm_706 (lmc lm_765 (lmc lm_764 (lmc lm_778 lmn)))))))))))))))))))))) lt_wsX100))
theorem lv_X10_pays : ∀ w ∈ wsV RL 99 RX10 yX10_pays wsX10_pays, w ∈ lw_tbl := lma (lmc lm_907 (lmc lm_906 (lmc lm_905 (lmc lm_684 lmn)))) lt_wsX10_pays
set_option maxRecDepth 20000 in
theorem lg_X10_pays : (wsV RL 99 RX10 yX10_pays wsX10_pays).all goodWord = true := by decide +kernel
theorem lt_wsX10_order_r1 : ∀ w ∈ wsX10_order_r1, w ∈ lw_tbl := (lmc lm_690 (lmc lm_710 (lmc lm_704 (lmc lm_814 (lmc lm_813 (lmc lm_684 (lmc lm_812 (lmc lm_686 (lmc lm_685 (lmc lm_683 (lmc lm_811 (lmc lm_810 (lmc lm_809 (lmc lm_808 (lmc lm_807 (lmc lm_806 (lmc lm_805 (lmc lm_804 (lmc lm_803 (lmc lm_802 (lmc lm_801 (lmc lm_800 (lmc lm_799 (lmc lm_769 lmn))))))))))))))))))))))))
theorem lt_wsX10_order_r2 : ∀ w ∈ wsX10_order_r2, w ∈ lw_tbl := (lmc lm_768 (lmc lm_767 (lmc lm_766 (lmc lm_707 (lmc lm_706 (lmc lm_765 (lmc lm_764 (lmc lm_778 (lmc lm_818 (lmc lm_817 (lmc lm_816 (lmc lm_815 lmn))))))))))))
theorem lt_wsX10_order : ∀ w ∈ wsX10_order, w ∈ lw_tbl := (lmc lm_908 (lma (lma lt_wsX10_order_r1 lt_wsX10_order_r2) lt_wsX100))
theorem lv_X10_order : ∀ w ∈ wsV RL 104 RX10 yX10_order wsX10_order, w ∈ lw_tbl := lma (lmc lm_911 (lmc lm_910 (lmc lm_909 (lmc lm_684 lmn)))) lt_wsX10_order
set_option maxRecDepth 20000 in
theorem lg_X10_order : (wsV RL 104 RX10 yX10_order wsX10_order).all goodWord = true := by decide +kernel
theorem lt_wsX10_years_r1 : ∀ w ∈ wsX10_years_r1, w ∈ lw_tbl := (lmc lm_690 (lmc lm_710 (lmc lm_880 (lmc lm_807 (lmc lm_686 (lmc lm_685 (lmc lm_684 (lmc lm_683 (lmc lm_786 (lmc lm_785 (lmc lm_784 (lmc lm_783 (lmc lm_711 (lmc lm_918 (lmc lm_917 (lmc lm_916 (lmc lm_915 (lmc lm_704 (lmc lm_914 (lmc lm_913 (lmc lm_811 (lmc lm_810 (lmc lm_809 (lmc lm_808 lmn))))))))))))))))))))))))
theorem lt_wsX10_years_r2 : ∀ w ∈ wsX10_years_r2, w ∈ lw_tbl := (lmc lm_922 (lmc lm_921 (lmc lm_920 (lmc lm_919 (lmc lm_864 (lmc lm_857 (lmc lm_856 (lmc lm_855 (lmc lm_854 (lmc lm_708 (lmc lm_853 (lmc lm_852 (lmc lm_867 (lmc lm_866 (lmc lm_858 (lmc lm_865 (lmc lm_863 (lmc lm_709 (lmc lm_769 (lmc lm_768 (lmc lm_767 (lmc lm_766 (lmc lm_707 (lmc lm_706 lmn))))))))))))))))))))))))
theorem lt_wsX10_years_r3 : ∀ w ∈ wsX10_years_r3, w ∈ lw_tbl := (lmc lm_765 (lmc lm_764 (lmc lm_778 (lmc lm_862 (lmc lm_861 (lmc lm_860 (lmc lm_859 lmn)))))))
theorem lt_wsX10_years : ∀ w ∈ wsX10_years, w ∈ lw_tbl := (lmc lm_912 (lma (lma lt_wsX10_years_r1 (lma lt_wsX10_years_r2 lt_wsX10_years_r3)) lt_wsX100))
theorem lv_X10_years : ∀ w ∈ wsV RL 108 RX10 yX10_years wsX10_years, w ∈ lw_tbl := lma (lmc lm_925 (lmc lm_924 (lmc lm_923 (lmc lm_684 lmn)))) lt_wsX10_years
set_option maxRecDepth 20000 in
theorem lg_X10_years : (wsV RL 108 RX10 yX10_years wsX10_years).all goodWord = true := by decide +kernel
theorem lt_wsX10_lot : ∀ w ∈ wsX10_lot, w ∈ lw_tbl := (lmc lm_926 (lma (lmc lm_690 (lmc lm_704 lmn)) lt_wsX100))
theorem lv_X10_lot : ∀ w ∈ wsV RL 112 RX10 yX10_lot wsX10_lot, w ∈ lw_tbl := lma (lmc lm_929 (lmc lm_928 (lmc lm_927 (lmc lm_684 lmn)))) lt_wsX10_lot
set_option maxRecDepth 20000 in
theorem lg_X10_lot : (wsV RL 112 RX10 yX10_lot wsX10_lot).all goodWord = true := by decide +kernel
theorem lt_wsX10_rate_r1 : ∀ w ∈ wsX10_rate_r1, w ∈ lw_tbl := (lmc lm_690 (lmc lm_880 (lmc lm_704 (lmc lm_709 (lmc lm_708 (lmc lm_936 (lmc lm_935 (lmc lm_934 (lmc lm_933 (lmc lm_932 (lmc lm_931 (lmc lm_686 (lmc lm_685 (lmc lm_684 (lmc lm_683 (lmc lm_777 (lmc lm_776 (lmc lm_775 (lmc lm_774 (lmc lm_710 (lmc lm_773 (lmc lm_772 (lmc lm_771 (lmc lm_770 lmn))))))))))))))))))))))))
theorem lt_wsX10_rate_r2 : ∀ w ∈ wsX10_rate_r2, w ∈ lw_tbl := (lmc lm_769 (lmc lm_768 (lmc lm_767 (lmc lm_766 (lmc lm_707 (lmc lm_706 (lmc lm_765 (lmc lm_764 (lmc lm_778 lmn)))))))))
theorem lt_wsX10_rate : ∀ w ∈ wsX10_rate, w ∈ lw_tbl := (lmc lm_930 (lma (lma lt_wsX10_rate_r1 lt_wsX10_rate_r2) lt_wsX100))
theorem lv_X10_rate : ∀ w ∈ wsV RL 116 RX10 yX10_rate wsX10_rate, w ∈ lw_tbl := lma (lmc lm_939 (lmc lm_938 (lmc lm_937 (lmc lm_684 lmn)))) lt_wsX10_rate
set_option maxRecDepth 20000 in
theorem lg_X10_rate : (wsV RL 116 RX10 yX10_rate wsX10_rate).all goodWord = true := by decide +kernel
theorem lt_wsX10_keep : ∀ w ∈ wsX10_keep, w ∈ lw_tbl := (lmc lm_940 (lma (lmc lm_690 (lmc lm_941 (lmc lm_704 (lmc lm_702 (lmc lm_686 (lmc lm_685 (lmc lm_684 (lmc lm_683 lmn)))))))) lt_wsX100))
theorem lv_X10_keep : ∀ w ∈ wsV RL 120 RX10 yX10_keep wsX10_keep, w ∈ lw_tbl := lma (lmc lm_944 (lmc lm_943 (lmc lm_942 (lmc lm_684 lmn)))) lt_wsX10_keep
set_option maxRecDepth 20000 in
theorem lg_X10_keep : (wsV RL 120 RX10 yX10_keep wsX10_keep).all goodWord = true := by decide +kernel
theorem lt_wsX10_back : ∀ w ∈ wsX10_back, w ∈ lw_tbl := (lmc lm_945 (lma (lmc lm_690 (lmc lm_702 (lmc lm_704 (lmc lm_941 (lmc lm_686 (lmc lm_685 (lmc lm_684 (lmc lm_683 lmn)))))))) lt_wsX100))
theorem lv_X10_back : ∀ w ∈ wsV RL 124 RX10 yX10_back wsX10_back, w ∈ lw_tbl := lma (lmc lm_948 (lmc lm_947 (lmc lm_946 (lmc lm_684 lmn)))) lt_wsX10_back
set_option maxRecDepth 20000 in
theorem lg_X10_back : (wsV RL 124 RX10 yX10_back wsX10_back).all goodWord = true := by decide +kernel
theorem lt_wsX10_count : ∀ w ∈ wsX10_count, w ∈ lw_tbl := (lmc lm_949 (lma (lmc lm_690 (lmc lm_710 (lmc lm_704 (lmc lm_711 (lmc lm_689 (lmc lm_773 (lmc lm_772 (lmc lm_771 (lmc lm_684 (lmc lm_770 (lmc lm_769 (lmc lm_768 (lmc lm_767 (lmc lm_766 (lmc lm_707 (lmc lm_706 (lmc lm_765 (lmc lm_764 (lmc lm_778 lmn))))))))))))))))))) lt_wsX100))
theorem lv_X10_count : ∀ w ∈ wsV RL 128 RX10 yX10_count wsX10_count, w ∈ lw_tbl := lma (lmc lm_952 (lmc lm_951 (lmc lm_950 (lmc lm_684 lmn)))) lt_wsX10_count
set_option maxRecDepth 20000 in
theorem lg_X10_count : (wsV RL 128 RX10 yX10_count wsX10_count).all goodWord = true := by decide +kernel
theorem lt_wsX10_trace : ∀ w ∈ wsX10_trace, w ∈ lw_tbl := (lmc lm_953 (lma (lmc lm_690 (lmc lm_936 lmn)) lt_wsX100))
theorem lv_X10_trace : ∀ w ∈ wsV RL 133 RX10 yX10_trace wsX10_trace, w ∈ lw_tbl := lma (lmc lm_956 (lmc lm_955 (lmc lm_954 (lmc lm_684 lmn)))) lt_wsX10_trace
set_option maxRecDepth 20000 in
theorem lg_X10_trace : (wsV RL 133 RX10 yX10_trace wsX10_trace).all goodWord = true := by decide +kernel
theorem lt_wsX10_init : ∀ w ∈ wsX10_init, w ∈ lw_tbl := (lmc lm_957 (lma (lmc lm_959 (lmc lm_649 (lmc lm_648 (lmc lm_654 (lmc lm_688 (lmc lm_709 (lmc lm_708 (lmc lm_707 (lmc lm_706 (lmc lm_705 (lmc lm_703 (lmc lm_704 (lmc lm_941 (lmc lm_958 (lmc lm_702 (lmc lm_807 (lmc lm_827 (lmc lm_858 lmn)))))))))))))))))) lt_wsX100))
set_option maxRecDepth 20000 in
theorem lg_X10_init : wsX10_init.all goodWord = true := by decide +kernel
