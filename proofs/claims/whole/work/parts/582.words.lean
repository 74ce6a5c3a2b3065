theorem gVX_386 : GoodIn lw_tbl ((vx_at0 RX10 386 "java/lang/IllegalArgumentException" ["java/lang/RuntimeException", "java/lang/Exception"]).filter goodWord) := goodIn_sub (by decide +kernel) (vx_allf _)
theorem gVX_389 : GoodIn lw_tbl ((vx_at0 RX10 389 "java/util/NoSuchElementException" ["java/lang/RuntimeException", "java/lang/Exception"]).filter goodWord) := goodIn_sub (by decide +kernel) (vx_allf _)
theorem gVX_392 : GoodIn lw_tbl ((vx_at0 RX10 392 "java/lang/IndexOutOfBoundsException" ["java/lang/RuntimeException", "java/lang/Exception"]).filter goodWord) := goodIn_sub (by decide +kernel) (vx_allf _)
set_option maxRecDepth 20000 in
theorem gT_wsL_street_r1 : GoodIn lw_tbl wsL_street_r1 := (gw_c hw_1 (gw_c hw_2 (gw_c hw_3 (gw_c hw_4 (gw_c hw_5 (gw_c hw_6 (gw_c hw_7 (gw_c hw_8 (gw_c hw_9 (gw_c hw_10 (gw_c hw_11 (gw_c hw_12 (gw_c hw_13 (gw_c hw_14 (gw_c hw_15 (gw_c hw_16 (gw_c hw_17 (gw_c hw_18 (gw_c hw_19 (gw_c hw_20 (gw_c hw_21 (gw_c hw_22 (gw_c hw_23 (gw_c hw_24 gw_n))))))))))))))))))))))))
set_option maxRecDepth 20000 in
theorem gT_wsL_street_r2 : GoodIn lw_tbl wsL_street_r2 := (gw_c hw_25 (gw_c hw_26 (gw_c hw_27 (gw_c hw_28 (gw_c hw_29 (gw_c hw_30 (gw_c hw_31 (gw_c hw_32 (gw_c hw_33 (gw_c hw_34 (gw_c hw_35 (gw_c hw_36 (gw_c hw_37 (gw_c hw_38 (gw_c hw_39 (gw_c hw_40 (gw_c hw_41 (gw_c hw_42 (gw_c hw_43 (gw_c hw_44 (gw_c hw_45 (gw_c hw_46 (gw_c hw_47 (gw_c hw_48 gw_n))))))))))))))))))))))))
set_option maxRecDepth 20000 in
theorem gT_wsL_street_r3 : GoodIn lw_tbl wsL_street_r3 := (gw_c hw_49 (gw_c hw_50 (gw_c hw_51 (gw_c hw_52 (gw_c hw_53 (gw_c hw_54 (gw_c hw_55 (gw_c hw_56 (gw_c hw_57 (gw_c hw_58 (gw_c hw_59 (gw_c hw_60 (gw_c hw_61 (gw_c hw_62 (gw_c hw_63 (gw_c hw_64 (gw_c hw_65 (gw_c hw_66 (gw_c hw_67 (gw_c hw_68 (gw_c hw_69 (gw_c hw_70 (gw_c hw_71 (gw_c hw_72 gw_n))))))))))))))))))))))))
set_option maxRecDepth 20000 in
theorem gT_wsL_street_r4 : GoodIn lw_tbl wsL_street_r4 := (gw_c hw_73 (gw_c hw_74 (gw_c hw_75 (gw_c hw_76 (gw_c hw_77 (gw_c hw_78 (gw_c hw_79 (gw_c hw_80 (gw_c hw_81 (gw_c hw_82 (gw_c hw_83 (gw_c hw_84 (gw_c hw_85 (gw_c hw_86 (gw_c hw_87 (gw_c hw_88 (gw_c hw_89 (gw_c hw_90 (gw_c hw_91 (gw_c hw_92 (gw_c hw_93 (gw_c hw_94 (gw_c hw_95 (gw_c hw_96 gw_n))))))))))))))))))))))))
set_option maxRecDepth 20000 in
theorem gT_wsL_street_r5 : GoodIn lw_tbl wsL_street_r5 := (gw_c hw_97 (gw_c hw_98 (gw_c hw_99 (gw_c hw_100 (gw_c hw_101 (gw_c hw_102 (gw_c hw_103 (gw_c hw_104 (gw_c hw_105 (gw_c hw_106 (gw_c hw_107 (gw_c hw_108 (gw_c hw_109 (gw_c hw_110 (gw_c hw_111 (gw_c hw_112 (gw_c hw_113 (gw_c hw_114 (gw_c hw_115 (gw_c hw_116 (gw_c hw_117 (gw_c hw_118 (gw_c hw_119 (gw_c hw_120 gw_n))))))))))))))))))))))))
set_option maxRecDepth 20000 in
theorem gT_wsL_street_r6 : GoodIn lw_tbl wsL_street_r6 := (gw_c hw_121 (gw_c hw_122 (gw_c hw_123 (gw_c hw_124 (gw_c hw_125 (gw_c hw_126 (gw_c hw_127 (gw_c hw_128 (gw_c hw_129 (gw_c hw_130 (gw_c hw_131 (gw_c hw_132 (gw_c hw_133 (gw_c hw_134 (gw_c hw_135 (gw_c hw_136 (gw_c hw_137 (gw_c hw_138 (gw_c hw_139 (gw_c hw_140 (gw_c hw_141 (gw_c hw_142 (gw_c hw_143 (gw_c hw_144 gw_n))))))))))))))))))))))))
set_option maxRecDepth 20000 in
theorem gT_wsL_street_r7 : GoodIn lw_tbl wsL_street_r7 := (gw_c hw_145 (gw_c hw_146 (gw_c hw_147 (gw_c hw_148 (gw_c hw_149 (gw_c hw_150 (gw_c hw_151 (gw_c hw_152 (gw_c hw_153 (gw_c hw_154 (gw_c hw_155 (gw_c hw_156 (gw_c hw_157 (gw_c hw_158 (gw_c hw_159 (gw_c hw_160 (gw_c hw_161 (gw_c hw_162 (gw_c hw_163 (gw_c hw_164 (gw_c hw_165 (gw_c hw_166 (gw_c hw_167 (gw_c hw_168 gw_n))))))))))))))))))))))))
set_option maxRecDepth 20000 in
theorem gT_wsL_street_r8 : GoodIn lw_tbl wsL_street_r8 := (gw_c hw_169 (gw_c hw_170 (gw_c hw_171 (gw_c hw_172 (gw_c hw_173 (gw_c hw_174 (gw_c hw_175 (gw_c hw_176 (gw_c hw_177 (gw_c hw_178 (gw_c hw_179 (gw_c hw_180 (gw_c hw_181 (gw_c hw_182 (gw_c hw_183 (gw_c hw_184 (gw_c hw_185 (gw_c hw_186 (gw_c hw_187 (gw_c hw_188 (gw_c hw_189 (gw_c hw_190 (gw_c hw_191 (gw_c hw_192 gw_n))))))))))))))))))))))))
set_option maxRecDepth 20000 in
theorem gT_wsL_street_r9 : GoodIn lw_tbl wsL_street_r9 := (gw_c hw_193 (gw_c hw_194 (gw_c hw_195 (gw_c hw_196 (gw_c hw_197 (gw_c hw_198 (gw_c hw_199 (gw_c hw_200 (gw_c hw_201 (gw_c hw_202 (gw_c hw_203 (gw_c hw_204 (gw_c hw_205 (gw_c hw_206 (gw_c hw_207 (gw_c hw_208 (gw_c hw_209 (gw_c hw_210 gw_n))))))))))))))))))
theorem gU_wsX100 : GoodIn lw_tbl wsX100 := (gw_c hw_211 (gw_c hw_212 (gw_c hw_213 (gw_c hw_214 (gw_c hw_215 (gw_c hw_216 (gw_c hw_217 (gw_c hw_218 (gw_c hw_219 (gw_c hw_220 (gw_c hw_221 (gw_c hw_222 (gw_c hw_223 (gw_c hw_224 (gw_c hw_225 (gw_c hw_226 gw_n))))))))))))))))
theorem gU_wsX70 : GoodIn lw_tbl wsX70 := (gw_c hw_227 (gw_c hw_228 (gw_c hw_229 (gw_c hw_230 (gw_c hw_231 (gw_c hw_232 (gw_c hw_233 (gw_c hw_234 (gw_c hw_235 gw_n)))))))))
theorem gU_wsX60 : GoodIn lw_tbl wsX60 := (gw_c hw_236 (gw_c hw_237 (gw_c hw_238 (gw_c hw_239 (gw_c hw_240 (gw_c hw_241 (gw_c hw_242 (gw_c hw_243 (gw_c hw_244 (gw_c hw_245 (gw_c hw_246 (gw_c hw_247 (gw_c hw_248 gw_n)))))))))))))
theorem gU_wsX30 : GoodIn lw_tbl wsX30 := (gw_c hw_249 (gw_c hw_250 (gw_c hw_251 gw_n)))
theorem gU_wsX00 : GoodIn lw_tbl wsX00 := (gw_c hw_252 (gw_c hw_253 (gw_c hw_254 (gw_c hw_255 gw_n))))
theorem gU_wsX40 : GoodIn lw_tbl wsX40 := (gw_c hw_256 (gw_c hw_257 (gw_c hw_258 gw_n)))
theorem gU_wsX20 : GoodIn lw_tbl wsX20 := (gw_c hw_259 (gw_c hw_260 (gw_c hw_261 (gw_c hw_262 (gw_c hw_263 (gw_c hw_264 (gw_c hw_265 (gw_c hw_266 gw_n))))))))
set_option maxRecDepth 20000 in
theorem gT_wsL_street : GoodIn lw_tbl wsL_street := gw_c hw_0 (goodIn_app (goodIn_app (goodIn_app (goodIn_app (goodIn_app (goodIn_app (goodIn_app (goodIn_app (goodIn_app gT_wsL_street_r1 (goodIn_app gT_wsL_street_r2 (goodIn_app gT_wsL_street_r3 (goodIn_app gT_wsL_street_r4 (goodIn_app gT_wsL_street_r5 (goodIn_app gT_wsL_street_r6 (goodIn_app gT_wsL_street_r7 (goodIn_app gT_wsL_street_r8 gT_wsL_street_r9)))))))) gU_wsX100) gU_wsX70) gU_wsX60) gU_wsX30) gU_wsX00) gU_wsX40) gU_wsX20) gVX_386)
set_option maxRecDepth 20000 in
theorem gT_wsL_law_r1 : GoodIn lw_tbl wsL_law_r1 := (gw_c hw_1 (gw_c hw_268 (gw_c hw_269 (gw_c hw_270 (gw_c hw_5 (gw_c hw_271 (gw_c hw_272 (gw_c hw_8 (gw_c hw_9 (gw_c hw_10 (gw_c hw_12 (gw_c hw_18 (gw_c hw_19 (gw_c hw_20 (gw_c hw_21 (gw_c hw_22 (gw_c hw_23 (gw_c hw_24 (gw_c hw_25 (gw_c hw_26 (gw_c hw_27 (gw_c hw_28 (gw_c hw_29 (gw_c hw_30 gw_n))))))))))))))))))))))))
set_option maxRecDepth 20000 in
theorem gT_wsL_law_r2 : GoodIn lw_tbl wsL_law_r2 := (gw_c hw_31 (gw_c hw_32 (gw_c hw_33 (gw_c hw_34 (gw_c hw_35 (gw_c hw_36 (gw_c hw_37 (gw_c hw_38 (gw_c hw_39 (gw_c hw_40 (gw_c hw_41 (gw_c hw_42 (gw_c hw_43 (gw_c hw_44 (gw_c hw_45 (gw_c hw_46 (gw_c hw_47 (gw_c hw_48 (gw_c hw_49 (gw_c hw_50 (gw_c hw_273 (gw_c hw_274 (gw_c hw_275 (gw_c hw_180 gw_n))))))))))))))))))))))))
set_option maxRecDepth 20000 in
theorem gT_wsL_law_r3 : GoodIn lw_tbl wsL_law_r3 := (gw_c hw_276 (gw_c hw_183 (gw_c hw_277 (gw_c hw_278 (gw_c hw_279 (gw_c hw_280 (gw_c hw_281 (gw_c hw_282 (gw_c hw_283 (gw_c hw_284 (gw_c hw_170 (gw_c hw_171 (gw_c hw_172 (gw_c hw_285 (gw_c hw_286 (gw_c hw_287 (gw_c hw_288 (gw_c hw_289 (gw_c hw_182 (gw_c hw_290 (gw_c hw_291 (gw_c hw_292 (gw_c hw_293 (gw_c hw_294 gw_n))))))))))))))))))))))))
set_option maxRecDepth 20000 in
theorem gT_wsL_law_r4 : GoodIn lw_tbl wsL_law_r4 := (gw_c hw_295 (gw_c hw_296 (gw_c hw_156 (gw_c hw_157 (gw_c hw_158 (gw_c hw_159 (gw_c hw_134 (gw_c hw_135 (gw_c hw_136 (gw_c hw_297 (gw_c hw_298 (gw_c hw_299 (gw_c hw_300 (gw_c hw_81 (gw_c hw_82 (gw_c hw_83 (gw_c hw_84 (gw_c hw_85 (gw_c hw_86 (gw_c hw_87 (gw_c hw_88 (gw_c hw_89 (gw_c hw_90 (gw_c hw_91 gw_n))))))))))))))))))))))))
set_option maxRecDepth 20000 in
theorem gT_wsL_law_r5 : GoodIn lw_tbl wsL_law_r5 := (gw_c hw_92 (gw_c hw_93 (gw_c hw_94 (gw_c hw_95 (gw_c hw_96 (gw_c hw_97 (gw_c hw_98 (gw_c hw_99 (gw_c hw_100 (gw_c hw_101 (gw_c hw_102 (gw_c hw_103 (gw_c hw_104 (gw_c hw_105 (gw_c hw_106 (gw_c hw_107 (gw_c hw_108 (gw_c hw_109 (gw_c hw_110 (gw_c hw_111 (gw_c hw_112 (gw_c hw_113 (gw_c hw_114 (gw_c hw_115 gw_n))))))))))))))))))))))))
set_option maxRecDepth 20000 in
theorem gT_wsL_law_r6 : GoodIn lw_tbl wsL_law_r6 := (gw_c hw_116 (gw_c hw_117 (gw_c hw_118 (gw_c hw_119 (gw_c hw_120 (gw_c hw_121 (gw_c hw_122 (gw_c hw_123 (gw_c hw_124 (gw_c hw_125 (gw_c hw_126 (gw_c hw_127 (gw_c hw_128 (gw_c hw_129 (gw_c hw_130 (gw_c hw_131 (gw_c hw_132 (gw_c hw_301 (gw_c hw_302 (gw_c hw_166 (gw_c hw_167 (gw_c hw_168 (gw_c hw_169 (gw_c hw_303 gw_n))))))))))))))))))))))))
set_option maxRecDepth 20000 in
theorem gT_wsL_law_r7 : GoodIn lw_tbl wsL_law_r7 := (gw_c hw_174 (gw_c hw_175 (gw_c hw_176 gw_n)))
set_option maxRecDepth 20000 in
theorem gT_wsL_law : GoodIn lw_tbl wsL_law := gw_c hw_267 (goodIn_app (goodIn_app (goodIn_app (goodIn_app (goodIn_app gT_wsL_law_r1 (goodIn_app gT_wsL_law_r2 (goodIn_app gT_wsL_law_r3 (goodIn_app gT_wsL_law_r4 (goodIn_app gT_wsL_law_r5 (goodIn_app gT_wsL_law_r6 gT_wsL_law_r7)))))) gU_wsX100) gU_wsX70) gU_wsX30) gVX_386)
set_option maxRecDepth 20000 in
theorem gT_wsL_work_r1 : GoodIn lw_tbl wsL_work_r1 := (gw_c hw_1 (gw_c hw_305 (gw_c hw_306 (gw_c hw_307 (gw_c hw_5 (gw_c hw_308 (gw_c hw_14 (gw_c hw_309 (gw_c hw_8 (gw_c hw_9 (gw_c hw_310 (gw_c hw_11 (gw_c hw_10 (gw_c hw_12 (gw_c hw_311 (gw_c hw_16 (gw_c hw_312 (gw_c hw_18 (gw_c hw_19 (gw_c hw_20 (gw_c hw_21 (gw_c hw_22 (gw_c hw_23 (gw_c hw_24 gw_n))))))))))))))))))))))))
set_option maxRecDepth 20000 in
theorem gT_wsL_work_r2 : GoodIn lw_tbl wsL_work_r2 := (gw_c hw_25 (gw_c hw_26 (gw_c hw_27 (gw_c hw_28 (gw_c hw_29 (gw_c hw_30 (gw_c hw_31 (gw_c hw_32 (gw_c hw_33 (gw_c hw_34 (gw_c hw_35 (gw_c hw_36 (gw_c hw_37 (gw_c hw_38 (gw_c hw_39 (gw_c hw_40 (gw_c hw_41 (gw_c hw_42 (gw_c hw_43 (gw_c hw_44 (gw_c hw_45 (gw_c hw_46 (gw_c hw_47 (gw_c hw_48 gw_n))))))))))))))))))))))))
set_option maxRecDepth 20000 in
theorem gT_wsL_work_r3 : GoodIn lw_tbl wsL_work_r3 := (gw_c hw_49 (gw_c hw_50 (gw_c hw_313 (gw_c hw_314 (gw_c hw_315 (gw_c hw_316 (gw_c hw_317 (gw_c hw_318 (gw_c hw_319 (gw_c hw_320 (gw_c hw_321 (gw_c hw_322 (gw_c hw_323 (gw_c hw_324 (gw_c hw_325 (gw_c hw_326 (gw_c hw_327 (gw_c hw_166 (gw_c hw_167 (gw_c hw_168 (gw_c hw_169 (gw_c hw_170 (gw_c hw_171 (gw_c hw_172 gw_n))))))))))))))))))))))))
set_option maxRecDepth 20000 in
theorem gT_wsL_work_r4 : GoodIn lw_tbl wsL_work_r4 := (gw_c hw_159 (gw_c hw_134 (gw_c hw_135 (gw_c hw_136 (gw_c hw_328 (gw_c hw_329 (gw_c hw_330 (gw_c hw_331 (gw_c hw_332 (gw_c hw_333 (gw_c hw_334 (gw_c hw_335 (gw_c hw_81 (gw_c hw_82 (gw_c hw_83 (gw_c hw_84 (gw_c hw_85 (gw_c hw_86 (gw_c hw_87 (gw_c hw_88 (gw_c hw_89 (gw_c hw_90 (gw_c hw_91 (gw_c hw_92 gw_n))))))))))))))))))))))))
set_option maxRecDepth 20000 in
theorem gT_wsL_work_r5 : GoodIn lw_tbl wsL_work_r5 := (gw_c hw_93 (gw_c hw_94 (gw_c hw_95 (gw_c hw_96 (gw_c hw_97 (gw_c hw_98 (gw_c hw_99 (gw_c hw_100 (gw_c hw_101 (gw_c hw_102 (gw_c hw_103 (gw_c hw_104 (gw_c hw_105 (gw_c hw_106 (gw_c hw_107 (gw_c hw_108 (gw_c hw_109 (gw_c hw_110 (gw_c hw_111 (gw_c hw_112 (gw_c hw_113 (gw_c hw_114 (gw_c hw_115 (gw_c hw_116 gw_n))))))))))))))))))))))))
set_option maxRecDepth 20000 in
theorem gT_wsL_work_r6 : GoodIn lw_tbl wsL_work_r6 := (gw_c hw_117 (gw_c hw_118 (gw_c hw_119 (gw_c hw_120 (gw_c hw_121 (gw_c hw_122 (gw_c hw_123 (gw_c hw_124 (gw_c hw_125 (gw_c hw_126 (gw_c hw_127 (gw_c hw_128 (gw_c hw_129 (gw_c hw_130 (gw_c hw_131 (gw_c hw_132 (gw_c hw_336 (gw_c hw_337 (gw_c hw_338 (gw_c hw_156 (gw_c hw_157 (gw_c hw_158 (gw_c hw_339 (gw_c hw_340 gw_n))))))))))))))))))))))))
set_option maxRecDepth 20000 in
theorem gT_wsL_work_r7 : GoodIn lw_tbl wsL_work_r7 := (gw_c hw_341 (gw_c hw_342 (gw_c hw_343 (gw_c hw_344 (gw_c hw_345 (gw_c hw_346 (gw_c hw_347 (gw_c hw_348 (gw_c hw_349 (gw_c hw_350 (gw_c hw_174 (gw_c hw_175 (gw_c hw_176 (gw_c hw_351 (gw_c hw_352 (gw_c hw_353 (gw_c hw_194 (gw_c hw_354 (gw_c hw_197 (gw_c hw_196 (gw_c hw_355 (gw_c hw_356 (gw_c hw_357 (gw_c hw_358 gw_n))))))))))))))))))))))))
set_option maxRecDepth 20000 in
theorem gT_wsL_work_r8 : GoodIn lw_tbl wsL_work_r8 := (gw_c hw_359 (gw_c hw_360 (gw_c hw_361 (gw_c hw_201 (gw_c hw_362 (gw_c hw_363 (gw_c hw_364 (gw_c hw_365 (gw_c hw_366 (gw_c hw_367 (gw_c hw_368 (gw_c hw_203 (gw_c hw_204 (gw_c hw_369 (gw_c hw_370 (gw_c hw_371 (gw_c hw_372 (gw_c hw_373 (gw_c hw_374 (gw_c hw_375 (gw_c hw_376 (gw_c hw_205 (gw_c hw_206 (gw_c hw_207 gw_n))))))))))))))))))))))))
set_option maxRecDepth 20000 in
theorem gT_wsL_work_r9 : GoodIn lw_tbl wsL_work_r9 := (gw_c hw_208 (gw_c hw_209 (gw_c hw_377 (gw_c hw_378 (gw_c hw_379 (gw_c hw_380 (gw_c hw_381 (gw_c hw_382 (gw_c hw_383 (gw_c hw_384 (gw_c hw_385 (gw_c hw_386 (gw_c hw_387 (gw_c hw_388 (gw_c hw_389 (gw_c hw_390 (gw_c hw_391 (gw_c hw_392 (gw_c hw_393 (gw_c hw_394 (gw_c hw_395 (gw_c hw_396 (gw_c hw_397 (gw_c hw_398 gw_n))))))))))))))))))))))))
set_option maxRecDepth 20000 in
theorem gT_wsL_work_r10 : GoodIn lw_tbl wsL_work_r10 := (gw_c hw_399 (gw_c hw_400 (gw_c hw_401 (gw_c hw_402 (gw_c hw_403 (gw_c hw_404 (gw_c hw_405 (gw_c hw_406 (gw_c hw_407 (gw_c hw_408 (gw_c hw_409 (gw_c hw_410 (gw_c hw_411 (gw_c hw_412 (gw_c hw_413 (gw_c hw_414 (gw_c hw_415 (gw_c hw_416 (gw_c hw_417 (gw_c hw_418 (gw_c hw_419 (gw_c hw_420 (gw_c hw_421 (gw_c hw_422 gw_n))))))))))))))))))))))))
set_option maxRecDepth 20000 in
theorem gT_wsL_work_r11 : GoodIn lw_tbl wsL_work_r11 := (gw_c hw_423 (gw_c hw_424 (gw_c hw_425 (gw_c hw_426 (gw_c hw_427 (gw_c hw_428 (gw_c hw_429 (gw_c hw_430 (gw_c hw_431 (gw_c hw_432 (gw_c hw_433 (gw_c hw_434 (gw_c hw_435 (gw_c hw_436 (gw_c hw_54 (gw_c hw_437 (gw_c hw_164 (gw_c hw_438 (gw_c hw_439 (gw_c hw_440 (gw_c hw_441 (gw_c hw_442 (gw_c hw_443 (gw_c hw_444 gw_n))))))))))))))))))))))))
set_option maxRecDepth 20000 in
theorem gT_wsL_work_r12 : GoodIn lw_tbl wsL_work_r12 := (gw_c hw_445 (gw_c hw_446 (gw_c hw_447 (gw_c hw_448 (gw_c hw_449 (gw_c hw_450 (gw_c hw_451 (gw_c hw_452 (gw_c hw_453 (gw_c hw_454 (gw_c hw_455 (gw_c hw_456 (gw_c hw_457 (gw_c hw_458 (gw_c hw_459 (gw_c hw_460 (gw_c hw_461 (gw_c hw_462 (gw_c hw_463 (gw_c hw_464 (gw_c hw_465 (gw_c hw_466 (gw_c hw_467 (gw_c hw_468 gw_n))))))))))))))))))))))))
set_option maxRecDepth 20000 in
theorem gT_wsL_work_r13 : GoodIn lw_tbl wsL_work_r13 := (gw_c hw_469 (gw_c hw_470 (gw_c hw_471 (gw_c hw_180 (gw_c hw_472 (gw_c hw_183 (gw_c hw_182 (gw_c hw_473 (gw_c hw_474 (gw_c hw_475 (gw_c hw_476 (gw_c hw_477 (gw_c hw_478 (gw_c hw_479 (gw_c hw_480 (gw_c hw_481 (gw_c hw_210 (gw_c hw_70 (gw_c hw_71 (gw_c hw_72 (gw_c hw_482 (gw_c hw_483 (gw_c hw_484 (gw_c hw_485 gw_n))))))))))))))))))))))))
set_option maxRecDepth 20000 in
theorem gT_wsL_work_r14 : GoodIn lw_tbl wsL_work_r14 := (gw_c hw_486 (gw_c hw_487 gw_n))
theorem gU_wsX90 : GoodIn lw_tbl wsX90 := (gw_c hw_488 (gw_c hw_489 (gw_c hw_490 (gw_c hw_491 (gw_c hw_492 (gw_c hw_493 (gw_c hw_494 (gw_c hw_495 (gw_c hw_496 (gw_c hw_497 (gw_c hw_498 (gw_c hw_499 (gw_c hw_500 gw_n)))))))))))))
theorem gU_wsX80 : GoodIn lw_tbl wsX80 := (gw_c hw_501 (gw_c hw_502 (gw_c hw_503 (gw_c hw_504 (gw_c hw_505 (gw_c hw_506 gw_n))))))
set_option maxRecDepth 20000 in
theorem gT_wsL_work : GoodIn lw_tbl wsL_work := gw_c hw_304 (goodIn_app (goodIn_app (goodIn_app (goodIn_app (goodIn_app (goodIn_app (goodIn_app (goodIn_app (goodIn_app (goodIn_app gT_wsL_work_r1 (goodIn_app gT_wsL_work_r2 (goodIn_app gT_wsL_work_r3 (goodIn_app gT_wsL_work_r4 (goodIn_app gT_wsL_work_r5 (goodIn_app gT_wsL_work_r6 (goodIn_app gT_wsL_work_r7 (goodIn_app gT_wsL_work_r8 (goodIn_app gT_wsL_work_r9 (goodIn_app gT_wsL_work_r10 (goodIn_app gT_wsL_work_r11 (goodIn_app gT_wsL_work_r12 (goodIn_app gT_wsL_work_r13 gT_wsL_work_r14))))))))))))) gU_wsX100) gU_wsX40) gU_wsX70) gU_wsX90) gU_wsX60) gU_wsX20) gU_wsX80) gU_wsX30) gVX_386)
set_option maxRecDepth 20000 in
theorem gT_wsL_book_r1 : GoodIn lw_tbl wsL_book_r1 := (gw_c hw_1 (gw_c hw_508 (gw_c hw_509 (gw_c hw_510 (gw_c hw_5 (gw_c hw_511 (gw_c hw_512 (gw_c hw_8 (gw_c hw_9 (gw_c hw_10 (gw_c hw_13 (gw_c hw_513 (gw_c hw_18 (gw_c hw_19 (gw_c hw_20 (gw_c hw_21 (gw_c hw_22 (gw_c hw_23 (gw_c hw_24 (gw_c hw_25 (gw_c hw_26 (gw_c hw_27 (gw_c hw_28 (gw_c hw_29 gw_n))))))))))))))))))))))))
set_option maxRecDepth 20000 in
theorem gT_wsL_book_r2 : GoodIn lw_tbl wsL_book_r2 := (gw_c hw_30 (gw_c hw_31 (gw_c hw_32 (gw_c hw_33 (gw_c hw_34 (gw_c hw_35 (gw_c hw_36 (gw_c hw_37 (gw_c hw_38 (gw_c hw_39 (gw_c hw_40 (gw_c hw_41 (gw_c hw_42 (gw_c hw_43 (gw_c hw_44 (gw_c hw_45 (gw_c hw_46 (gw_c hw_47 (gw_c hw_48 (gw_c hw_49 (gw_c hw_50 (gw_c hw_514 (gw_c hw_515 (gw_c hw_516 gw_n))))))))))))))))))))))))
set_option maxRecDepth 20000 in
theorem gT_wsL_book_r3 : GoodIn lw_tbl wsL_book_r3 := (gw_c hw_187 (gw_c hw_517 (gw_c hw_518 (gw_c hw_519 (gw_c hw_520 (gw_c hw_185 (gw_c hw_186 (gw_c hw_188 (gw_c hw_189 (gw_c hw_190 (gw_c hw_521 (gw_c hw_522 (gw_c hw_523 (gw_c hw_524 (gw_c hw_525 (gw_c hw_526 (gw_c hw_527 (gw_c hw_528 (gw_c hw_134 (gw_c hw_135 (gw_c hw_136 (gw_c hw_529 (gw_c hw_156 (gw_c hw_157 gw_n))))))))))))))))))))))))
set_option maxRecDepth 20000 in
theorem gT_wsL_book_r4 : GoodIn lw_tbl wsL_book_r4 := (gw_c hw_158 (gw_c hw_159 (gw_c hw_530 (gw_c hw_166 (gw_c hw_167 (gw_c hw_168 (gw_c hw_169 (gw_c hw_170 (gw_c hw_171 (gw_c hw_172 (gw_c hw_531 (gw_c hw_174 (gw_c hw_175 (gw_c hw_176 gw_n))))))))))))))
set_option maxRecDepth 20000 in
theorem gT_wsL_book : GoodIn lw_tbl wsL_book := gw_c hw_507 (goodIn_app (goodIn_app (goodIn_app (goodIn_app (goodIn_app gT_wsL_book_r1 (goodIn_app gT_wsL_book_r2 (goodIn_app gT_wsL_book_r3 gT_wsL_book_r4))) gU_wsX100) gU_wsX70) gU_wsX00) gVX_386)
set_option maxRecDepth 20000 in
theorem gT_wsL_told_r1 : GoodIn lw_tbl wsL_told_r1 := (gw_c hw_1 (gw_c hw_533 (gw_c hw_534 (gw_c hw_535 (gw_c hw_5 (gw_c hw_536 (gw_c hw_11 (gw_c hw_17 (gw_c hw_537 (gw_c hw_538 (gw_c hw_14 (gw_c hw_539 (gw_c hw_540 (gw_c hw_541 (gw_c hw_542 (gw_c hw_13 (gw_c hw_513 (gw_c hw_16 (gw_c hw_543 (gw_c hw_544 (gw_c hw_545 (gw_c hw_546 (gw_c hw_22 (gw_c hw_23 gw_n))))))))))))))))))))))))
set_option maxRecDepth 20000 in
theorem gT_wsL_told_r2 : GoodIn lw_tbl wsL_told_r2 := (gw_c hw_24 (gw_c hw_25 (gw_c hw_26 (gw_c hw_27 (gw_c hw_28 (gw_c hw_547 (gw_c hw_548 (gw_c hw_549 (gw_c hw_201 (gw_c hw_550 (gw_c hw_551 (gw_c hw_552 (gw_c hw_553 (gw_c hw_554 (gw_c hw_203 gw_n)))))))))))))))
set_option maxRecDepth 20000 in
theorem gT_wsL_told : GoodIn lw_tbl wsL_told := gw_c hw_532 (goodIn_app (goodIn_app (goodIn_app (goodIn_app (goodIn_app (goodIn_app (goodIn_app gT_wsL_told_r1 gT_wsL_told_r2) gU_wsX100) gU_wsX60) gU_wsX40) gU_wsX20) gU_wsX00) gVX_386)
set_option maxRecDepth 20000 in
theorem gT_wsL_pane_r1 : GoodIn lw_tbl wsL_pane_r1 := (gw_c hw_556 (gw_c hw_1 (gw_c hw_557 (gw_c hw_558 (gw_c hw_559 (gw_c hw_5 (gw_c hw_560 (gw_c hw_11 (gw_c hw_561 (gw_c hw_562 (gw_c hw_563 (gw_c hw_564 (gw_c hw_14 (gw_c hw_539 (gw_c hw_565 (gw_c hw_566 (gw_c hw_567 (gw_c hw_568 (gw_c hw_569 (gw_c hw_570 (gw_c hw_17 (gw_c hw_28 (gw_c hw_543 (gw_c hw_544 gw_n))))))))))))))))))))))))
set_option maxRecDepth 20000 in
theorem gT_wsL_pane_r2 : GoodIn lw_tbl wsL_pane_r2 := (gw_c hw_545 (gw_c hw_546 (gw_c hw_22 (gw_c hw_23 (gw_c hw_24 (gw_c hw_25 (gw_c hw_26 (gw_c hw_27 (gw_c hw_571 (gw_c hw_552 (gw_c hw_553 (gw_c hw_201 (gw_c hw_554 (gw_c hw_203 (gw_c hw_572 (gw_c hw_460 (gw_c hw_461 (gw_c hw_462 (gw_c hw_208 gw_n)))))))))))))))))))
set_option maxRecDepth 20000 in
theorem gT_wsL_pane : GoodIn lw_tbl wsL_pane := gw_c hw_555 (goodIn_app (goodIn_app (goodIn_app (goodIn_app (goodIn_app (goodIn_app (goodIn_app gT_wsL_pane_r1 gT_wsL_pane_r2) gU_wsX100) gU_wsX60) gU_wsX40) gU_wsX20) gVX_389) gVX_386)
set_option maxRecDepth 20000 in
theorem gT_wsL_shows_r1 : GoodIn lw_tbl wsL_shows_r1 := (gw_c hw_574 (gw_c hw_556 (gw_c hw_575 (gw_c hw_576 (gw_c hw_577 (gw_c hw_5 (gw_c hw_578 (gw_c hw_14 (gw_c hw_539 (gw_c hw_579 (gw_c hw_580 (gw_c hw_581 (gw_c hw_582 (gw_c hw_583 (gw_c hw_584 (gw_c hw_11 (gw_c hw_561 (gw_c hw_562 (gw_c hw_28 (gw_c hw_565 (gw_c hw_566 (gw_c hw_567 (gw_c hw_568 (gw_c hw_569 gw_n))))))))))))))))))))))))
set_option maxRecDepth 20000 in
theorem gT_wsL_shows_r2 : GoodIn lw_tbl wsL_shows_r2 := (gw_c hw_570 (gw_c hw_17 (gw_c hw_585 (gw_c hw_442 (gw_c hw_443 (gw_c hw_586 (gw_c hw_445 (gw_c hw_446 (gw_c hw_201 (gw_c hw_447 (gw_c hw_203 (gw_c hw_368 gw_n))))))))))))
set_option maxRecDepth 20000 in
theorem gT_wsL_shows : GoodIn lw_tbl wsL_shows := gw_c hw_573 (goodIn_app (goodIn_app (goodIn_app (goodIn_app (goodIn_app (goodIn_app (goodIn_app gT_wsL_shows_r1 gT_wsL_shows_r2) gU_wsX100) gU_wsX40) gU_wsX60) gU_wsX20) gVX_392) gVX_389)
set_option maxRecDepth 20000 in
theorem gT_wsL_deep_r1 : GoodIn lw_tbl wsL_deep_r1 := (gw_c hw_574 (gw_c hw_556 (gw_c hw_588 (gw_c hw_589 (gw_c hw_590 (gw_c hw_5 (gw_c hw_591 (gw_c hw_14 (gw_c hw_539 (gw_c hw_592 (gw_c hw_579 (gw_c hw_580 (gw_c hw_581 (gw_c hw_582 (gw_c hw_583 (gw_c hw_584 (gw_c hw_11 (gw_c hw_561 (gw_c hw_562 (gw_c hw_28 (gw_c hw_565 (gw_c hw_566 (gw_c hw_567 (gw_c hw_568 gw_n))))))))))))))))))))))))
set_option maxRecDepth 20000 in
theorem gT_wsL_deep_r2 : GoodIn lw_tbl wsL_deep_r2 := (gw_c hw_569 (gw_c hw_570 (gw_c hw_17 (gw_c hw_585 (gw_c hw_442 (gw_c hw_443 gw_n))))))
set_option maxRecDepth 20000 in
theorem gT_wsL_deep : GoodIn lw_tbl wsL_deep := gw_c hw_587 (goodIn_app (goodIn_app (goodIn_app (goodIn_app (goodIn_app (goodIn_app (goodIn_app gT_wsL_deep_r1 gT_wsL_deep_r2) gU_wsX100) gU_wsX40) gU_wsX20) gU_wsX60) gVX_392) gVX_389)
set_option maxRecDepth 20000 in
theorem gT_wsL_film_r1 : GoodIn lw_tbl wsL_film_r1 := (gw_c hw_574 (gw_c hw_556 (gw_c hw_594 (gw_c hw_595 (gw_c hw_596 (gw_c hw_5 (gw_c hw_597 (gw_c hw_14 (gw_c hw_539 (gw_c hw_579 (gw_c hw_580 (gw_c hw_581 (gw_c hw_582 (gw_c hw_583 (gw_c hw_584 (gw_c hw_11 (gw_c hw_561 (gw_c hw_562 (gw_c hw_28 (gw_c hw_565 (gw_c hw_566 (gw_c hw_567 (gw_c hw_568 (gw_c hw_569 gw_n))))))))))))))))))))))))
set_option maxRecDepth 20000 in
theorem gT_wsL_film_r2 : GoodIn lw_tbl wsL_film_r2 := (gw_c hw_570 (gw_c hw_17 (gw_c hw_585 (gw_c hw_442 (gw_c hw_443 (gw_c hw_598 (gw_c hw_410 (gw_c hw_411 (gw_c hw_201 (gw_c hw_412 (gw_c hw_203 (gw_c hw_368 gw_n))))))))))))
set_option maxRecDepth 20000 in
theorem gT_wsL_film : GoodIn lw_tbl wsL_film := gw_c hw_593 (goodIn_app (goodIn_app (goodIn_app (goodIn_app (goodIn_app (goodIn_app (goodIn_app gT_wsL_film_r1 gT_wsL_film_r2) gU_wsX100) gU_wsX40) gU_wsX60) gU_wsX20) gVX_392) gVX_389)
set_option maxRecDepth 20000 in
theorem gT_wsL_films_r1 : GoodIn lw_tbl wsL_films_r1 := (gw_c hw_1 (gw_c hw_600 (gw_c hw_601 (gw_c hw_602 (gw_c hw_5 (gw_c hw_603 (gw_c hw_14 (gw_c hw_539 (gw_c hw_604 (gw_c hw_22 (gw_c hw_23 (gw_c hw_24 (gw_c hw_25 (gw_c hw_26 (gw_c hw_27 (gw_c hw_28 (gw_c hw_543 (gw_c hw_544 (gw_c hw_545 (gw_c hw_546 (gw_c hw_605 (gw_c hw_606 (gw_c hw_607 (gw_c hw_201 gw_n))))))))))))))))))))))))
set_option maxRecDepth 20000 in
theorem gT_wsL_films_r2 : GoodIn lw_tbl wsL_films_r2 := (gw_c hw_608 (gw_c hw_609 (gw_c hw_610 (gw_c hw_611 (gw_c hw_612 (gw_c hw_203 (gw_c hw_409 (gw_c hw_410 (gw_c hw_411 (gw_c hw_412 (gw_c hw_368 gw_n)))))))))))
set_option maxRecDepth 20000 in
theorem gT_wsL_films : GoodIn lw_tbl wsL_films := gw_c hw_599 (goodIn_app (goodIn_app (goodIn_app (goodIn_app (goodIn_app gT_wsL_films_r1 gT_wsL_films_r2) gU_wsX100) gU_wsX40) gU_wsX20) gVX_386)
set_option maxRecDepth 20000 in
theorem gT_wsL_have_r1 : GoodIn lw_tbl wsL_have_r1 := (gw_c hw_556 (gw_c hw_1 (gw_c hw_614 (gw_c hw_615 (gw_c hw_616 (gw_c hw_5 (gw_c hw_617 (gw_c hw_618 (gw_c hw_14 (gw_c hw_539 (gw_c hw_565 (gw_c hw_566 (gw_c hw_567 (gw_c hw_568 (gw_c hw_569 (gw_c hw_570 (gw_c hw_11 (gw_c hw_17 (gw_c hw_28 (gw_c hw_22 (gw_c hw_23 (gw_c hw_24 (gw_c hw_25 (gw_c hw_26 gw_n))))))))))))))))))))))))
set_option maxRecDepth 20000 in
theorem gT_wsL_have_r2 : GoodIn lw_tbl wsL_have_r2 := (gw_c hw_27 (gw_c hw_619 (gw_c hw_620 (gw_c hw_621 (gw_c hw_415 (gw_c hw_622 (gw_c hw_623 (gw_c hw_610 (gw_c hw_611 (gw_c hw_201 (gw_c hw_612 (gw_c hw_203 (gw_c hw_409 (gw_c hw_410 (gw_c hw_411 (gw_c hw_412 (gw_c hw_368 gw_n)))))))))))))))))
set_option maxRecDepth 20000 in
theorem gT_wsL_have : GoodIn lw_tbl wsL_have := gw_c hw_613 (goodIn_app (goodIn_app (goodIn_app (goodIn_app (goodIn_app (goodIn_app (goodIn_app gT_wsL_have_r1 gT_wsL_have_r2) gU_wsX100) gU_wsX40) gU_wsX60) gU_wsX20) gVX_389) gVX_386)
set_option maxRecDepth 20000 in
theorem gT_wsL_showing_r1 : GoodIn lw_tbl wsL_showing_r1 := (gw_c hw_556 (gw_c hw_1 (gw_c hw_625 (gw_c hw_626 (gw_c hw_627 (gw_c hw_5 (gw_c hw_628 (gw_c hw_618 (gw_c hw_14 (gw_c hw_539 (gw_c hw_11 (gw_c hw_629 (gw_c hw_565 (gw_c hw_566 (gw_c hw_567 (gw_c hw_568 (gw_c hw_569 (gw_c hw_570 (gw_c hw_17 (gw_c hw_28 (gw_c hw_22 (gw_c hw_23 (gw_c hw_24 (gw_c hw_25 gw_n))))))))))))))))))))))))
set_option maxRecDepth 20000 in
theorem gT_wsL_showing_r2 : GoodIn lw_tbl wsL_showing_r2 := (gw_c hw_26 (gw_c hw_27 (gw_c hw_630 (gw_c hw_631 (gw_c hw_632 (gw_c hw_415 (gw_c hw_633 (gw_c hw_634 (gw_c hw_445 (gw_c hw_446 (gw_c hw_201 (gw_c hw_447 (gw_c hw_203 (gw_c hw_368 gw_n))))))))))))))
set_option maxRecDepth 20000 in
theorem gT_wsL_showing : GoodIn lw_tbl wsL_showing := gw_c hw_624 (goodIn_app (goodIn_app (goodIn_app (goodIn_app (goodIn_app (goodIn_app (goodIn_app gT_wsL_showing_r1 gT_wsL_showing_r2) gU_wsX100) gU_wsX40) gU_wsX60) gU_wsX20) gVX_389) gVX_386)
set_option maxRecDepth 20000 in
theorem gT_wsL_settles_r1 : GoodIn lw_tbl wsL_settles_r1 := (gw_c hw_574 (gw_c hw_556 (gw_c hw_636 (gw_c hw_637 (gw_c hw_638 (gw_c hw_5 (gw_c hw_639 (gw_c hw_14 (gw_c hw_539 (gw_c hw_540 (gw_c hw_640 (gw_c hw_11 (gw_c hw_12 (gw_c hw_579 (gw_c hw_580 (gw_c hw_581 (gw_c hw_582 (gw_c hw_583 (gw_c hw_584 (gw_c hw_561 (gw_c hw_562 (gw_c hw_28 (gw_c hw_565 (gw_c hw_566 gw_n))))))))))))))))))))))))
set_option maxRecDepth 20000 in
theorem gT_wsL_settles_r2 : GoodIn lw_tbl wsL_settles_r2 := (gw_c hw_567 (gw_c hw_568 (gw_c hw_569 (gw_c hw_570 (gw_c hw_17 (gw_c hw_585 (gw_c hw_442 (gw_c hw_443 (gw_c hw_572 (gw_c hw_460 (gw_c hw_461 (gw_c hw_201 (gw_c hw_462 (gw_c hw_208 (gw_c hw_641 (gw_c hw_642 (gw_c hw_643 (gw_c hw_423 (gw_c hw_644 (gw_c hw_456 (gw_c hw_425 (gw_c hw_463 (gw_c hw_464 (gw_c hw_465 gw_n))))))))))))))))))))))))
set_option maxRecDepth 20000 in
theorem gT_wsL_settles_r3 : GoodIn lw_tbl wsL_settles_r3 := (gw_c hw_466 (gw_c hw_467 (gw_c hw_468 (gw_c hw_444 (gw_c hw_445 (gw_c hw_446 (gw_c hw_447 (gw_c hw_203 (gw_c hw_368 (gw_c hw_469 (gw_c hw_470 (gw_c hw_471 (gw_c hw_180 (gw_c hw_472 (gw_c hw_183 (gw_c hw_182 (gw_c hw_473 gw_n)))))))))))))))))
set_option maxRecDepth 20000 in
theorem gT_wsL_settles : GoodIn lw_tbl wsL_settles := gw_c hw_635 (goodIn_app (goodIn_app (goodIn_app (goodIn_app (goodIn_app (goodIn_app (goodIn_app (goodIn_app (goodIn_app gT_wsL_settles_r1 (goodIn_app gT_wsL_settles_r2 gT_wsL_settles_r3)) gU_wsX100) gU_wsX40) gU_wsX20) gU_wsX60) gU_wsX80) gU_wsX30) gVX_392) gVX_389)
set_option maxRecDepth 20000 in
theorem gT_wsL_order_r1 : GoodIn lw_tbl wsL_order_r1 := (gw_c hw_556 (gw_c hw_1 (gw_c hw_646 (gw_c hw_647 (gw_c hw_648 (gw_c hw_5 (gw_c hw_649 (gw_c hw_11 (gw_c hw_650 (gw_c hw_651 (gw_c hw_652 (gw_c hw_653 (gw_c hw_569 (gw_c hw_570 (gw_c hw_537 (gw_c hw_28 (gw_c hw_543 (gw_c hw_544 (gw_c hw_545 (gw_c hw_546 (gw_c hw_22 (gw_c hw_23 (gw_c hw_24 (gw_c hw_25 gw_n))))))))))))))))))))))))
set_option maxRecDepth 20000 in
theorem gT_wsL_order_r2 : GoodIn lw_tbl wsL_order_r2 := (gw_c hw_26 (gw_c hw_27 (gw_c hw_654 (gw_c hw_655 (gw_c hw_656 (gw_c hw_657 (gw_c hw_14 (gw_c hw_539 (gw_c hw_540 (gw_c hw_658 (gw_c hw_659 (gw_c hw_439 (gw_c hw_440 (gw_c hw_54 (gw_c hw_441 (gw_c hw_164 (gw_c hw_442 (gw_c hw_443 (gw_c hw_660 (gw_c hw_435 (gw_c hw_436 (gw_c hw_437 (gw_c hw_586 (gw_c hw_445 gw_n))))))))))))))))))))))))
set_option maxRecDepth 20000 in
theorem gT_wsL_order_r3 : GoodIn lw_tbl wsL_order_r3 := (gw_c hw_446 (gw_c hw_201 (gw_c hw_447 (gw_c hw_203 (gw_c hw_368 (gw_c hw_661 (gw_c hw_610 (gw_c hw_611 (gw_c hw_612 (gw_c hw_409 (gw_c hw_410 (gw_c hw_411 (gw_c hw_412 gw_n)))))))))))))
set_option maxRecDepth 20000 in
theorem gT_wsL_order : GoodIn lw_tbl wsL_order := gw_c hw_645 (goodIn_app (goodIn_app (goodIn_app (goodIn_app (goodIn_app (goodIn_app (goodIn_app gT_wsL_order_r1 (goodIn_app gT_wsL_order_r2 gT_wsL_order_r3)) gU_wsX100) gU_wsX60) gU_wsX40) gU_wsX20) gVX_389) gVX_386)
set_option maxRecDepth 20000 in
theorem gT_wsL_needs_r1 : GoodIn lw_tbl wsL_needs_r1 := (gw_c hw_556 (gw_c hw_663 (gw_c hw_664 (gw_c hw_665 (gw_c hw_5 (gw_c hw_666 (gw_c hw_14 (gw_c hw_539 (gw_c hw_11 (gw_c hw_650 (gw_c hw_651 (gw_c hw_652 (gw_c hw_653 (gw_c hw_569 (gw_c hw_570 (gw_c hw_537 (gw_c hw_28 (gw_c hw_659 (gw_c hw_439 (gw_c hw_440 (gw_c hw_54 (gw_c hw_441 (gw_c hw_164 (gw_c hw_442 gw_n))))))))))))))))))))))))
set_option maxRecDepth 20000 in
theorem gT_wsL_needs_r2 : GoodIn lw_tbl wsL_needs_r2 := (gw_c hw_443 (gw_c hw_660 (gw_c hw_435 (gw_c hw_436 (gw_c hw_437 (gw_c hw_661 (gw_c hw_610 (gw_c hw_611 (gw_c hw_201 (gw_c hw_612 (gw_c hw_203 (gw_c hw_409 (gw_c hw_410 (gw_c hw_411 (gw_c hw_412 (gw_c hw_368 gw_n))))))))))))))))
set_option maxRecDepth 20000 in
theorem gT_wsL_needs : GoodIn lw_tbl wsL_needs := gw_c hw_662 (goodIn_app (goodIn_app (goodIn_app (goodIn_app (goodIn_app (goodIn_app gT_wsL_needs_r1 gT_wsL_needs_r2) gU_wsX100) gU_wsX40) gU_wsX60) gU_wsX20) gVX_389)
set_option maxRecDepth 20000 in
theorem gT_wsL_cost_r1 : GoodIn lw_tbl wsL_cost_r1 := (gw_c hw_556 (gw_c hw_1 (gw_c hw_668 (gw_c hw_669 (gw_c hw_670 (gw_c hw_5 (gw_c hw_671 (gw_c hw_618 (gw_c hw_14 (gw_c hw_539 (gw_c hw_565 (gw_c hw_566 (gw_c hw_567 (gw_c hw_568 (gw_c hw_569 (gw_c hw_570 (gw_c hw_11 (gw_c hw_17 (gw_c hw_28 (gw_c hw_672 (gw_c hw_673 (gw_c hw_674 (gw_c hw_675 (gw_c hw_629 gw_n))))))))))))))))))))))))
set_option maxRecDepth 20000 in
theorem gT_wsL_cost_r2 : GoodIn lw_tbl wsL_cost_r2 := (gw_c hw_22 (gw_c hw_23 (gw_c hw_24 (gw_c hw_25 (gw_c hw_26 (gw_c hw_27 (gw_c hw_676 (gw_c hw_677 (gw_c hw_678 (gw_c hw_415 (gw_c hw_679 (gw_c hw_623 (gw_c hw_610 (gw_c hw_611 (gw_c hw_201 (gw_c hw_612 (gw_c hw_203 (gw_c hw_409 (gw_c hw_410 (gw_c hw_411 (gw_c hw_412 (gw_c hw_368 gw_n))))))))))))))))))))))
set_option maxRecDepth 20000 in
theorem gT_wsL_cost : GoodIn lw_tbl wsL_cost := gw_c hw_667 (goodIn_app (goodIn_app (goodIn_app (goodIn_app (goodIn_app (goodIn_app (goodIn_app gT_wsL_cost_r1 gT_wsL_cost_r2) gU_wsX100) gU_wsX40) gU_wsX60) gU_wsX20) gVX_389) gVX_386)
set_option maxRecDepth 20000 in
theorem gT_wsL_view_r1 : GoodIn lw_tbl wsL_view_r1 := (gw_c hw_556 (gw_c hw_1 (gw_c hw_681 (gw_c hw_682 (gw_c hw_683 (gw_c hw_5 (gw_c hw_684 (gw_c hw_618 (gw_c hw_14 (gw_c hw_539 (gw_c hw_565 (gw_c hw_566 (gw_c hw_567 (gw_c hw_568 (gw_c hw_569 (gw_c hw_570 (gw_c hw_11 (gw_c hw_17 (gw_c hw_28 (gw_c hw_672 (gw_c hw_673 (gw_c hw_674 (gw_c hw_675 (gw_c hw_629 gw_n))))))))))))))))))))))))
set_option maxRecDepth 20000 in
theorem gT_wsL_view_r2 : GoodIn lw_tbl wsL_view_r2 := (gw_c hw_22 (gw_c hw_23 (gw_c hw_24 (gw_c hw_25 (gw_c hw_26 (gw_c hw_27 (gw_c hw_543 (gw_c hw_544 (gw_c hw_545 (gw_c hw_546 (gw_c hw_685 (gw_c hw_686 (gw_c hw_687 (gw_c hw_415 (gw_c hw_688 (gw_c hw_689 (gw_c hw_690 (gw_c hw_410 (gw_c hw_411 (gw_c hw_201 (gw_c hw_412 (gw_c hw_203 (gw_c hw_368 (gw_c hw_691 gw_n))))))))))))))))))))))))
set_option maxRecDepth 20000 in
theorem gT_wsL_view_r3 : GoodIn lw_tbl wsL_view_r3 := (gw_c hw_677 (gw_c hw_678 (gw_c hw_679 (gw_c hw_623 (gw_c hw_610 (gw_c hw_611 (gw_c hw_612 (gw_c hw_409 (gw_c hw_676 gw_n)))))))))
set_option maxRecDepth 20000 in
theorem gT_wsL_view : GoodIn lw_tbl wsL_view := gw_c hw_680 (goodIn_app (goodIn_app (goodIn_app (goodIn_app (goodIn_app (goodIn_app (goodIn_app gT_wsL_view_r1 (goodIn_app gT_wsL_view_r2 gT_wsL_view_r3)) gU_wsX100) gU_wsX40) gU_wsX60) gU_wsX20) gVX_389) gVX_386)
set_option maxRecDepth 20000 in
theorem gT_wsL_seams_r1 : GoodIn lw_tbl wsL_seams_r1 := (gw_c hw_556 (gw_c hw_693 (gw_c hw_694 (gw_c hw_695 (gw_c hw_5 (gw_c hw_696 (gw_c hw_618 (gw_c hw_14 (gw_c hw_539 (gw_c hw_11 (gw_c hw_629 (gw_c hw_565 (gw_c hw_566 (gw_c hw_567 (gw_c hw_568 (gw_c hw_569 (gw_c hw_570 (gw_c hw_17 (gw_c hw_28 (gw_c hw_697 (gw_c hw_698 (gw_c hw_699 (gw_c hw_415 (gw_c hw_700 gw_n))))))))))))))))))))))))
set_option maxRecDepth 20000 in
theorem gT_wsL_seams_r2 : GoodIn lw_tbl wsL_seams_r2 := (gw_c hw_701 (gw_c hw_702 (gw_c hw_703 (gw_c hw_634 (gw_c hw_445 (gw_c hw_446 (gw_c hw_201 (gw_c hw_447 (gw_c hw_203 (gw_c hw_368 gw_n))))))))))
set_option maxRecDepth 20000 in
theorem gT_wsL_seams : GoodIn lw_tbl wsL_seams := gw_c hw_692 (goodIn_app (goodIn_app (goodIn_app (goodIn_app (goodIn_app (goodIn_app gT_wsL_seams_r1 gT_wsL_seams_r2) gU_wsX100) gU_wsX40) gU_wsX60) gU_wsX20) gVX_389)
set_option maxRecDepth 20000 in
theorem gT_wsL_sights_r1 : GoodIn lw_tbl wsL_sights_r1 := (gw_c hw_556 (gw_c hw_705 (gw_c hw_706 (gw_c hw_707 (gw_c hw_5 (gw_c hw_708 (gw_c hw_618 (gw_c hw_14 (gw_c hw_539 (gw_c hw_565 (gw_c hw_566 (gw_c hw_567 (gw_c hw_568 (gw_c hw_569 (gw_c hw_570 (gw_c hw_11 (gw_c hw_17 (gw_c hw_28 (gw_c hw_709 (gw_c hw_710 (gw_c hw_711 (gw_c hw_415 (gw_c hw_712 (gw_c hw_713 gw_n))))))))))))))))))))))))
set_option maxRecDepth 20000 in
theorem gT_wsL_sights_r2 : GoodIn lw_tbl wsL_sights_r2 := (gw_c hw_714 (gw_c hw_715 (gw_c hw_716 (gw_c hw_717 (gw_c hw_689 (gw_c hw_718 (gw_c hw_70 (gw_c hw_71 (gw_c hw_72 (gw_c hw_690 (gw_c hw_410 (gw_c hw_411 (gw_c hw_201 (gw_c hw_412 (gw_c hw_203 (gw_c hw_368 gw_n))))))))))))))))
theorem gU_wsX10 : GoodIn lw_tbl wsX10 := (gw_c hw_719 (gw_c hw_720 (gw_c hw_721 (gw_c hw_722 gw_n))))
set_option maxRecDepth 20000 in
theorem gT_wsL_sights : GoodIn lw_tbl wsL_sights := gw_c hw_704 (goodIn_app (goodIn_app (goodIn_app (goodIn_app (goodIn_app (goodIn_app (goodIn_app gT_wsL_sights_r1 gT_wsL_sights_r2) gU_wsX100) gU_wsX40) gU_wsX60) gU_wsX10) gU_wsX20) gVX_389)
set_option maxRecDepth 20000 in
theorem gT_wsL_alike_r1 : GoodIn lw_tbl wsL_alike_r1 := (gw_c hw_556 (gw_c hw_724 (gw_c hw_725 (gw_c hw_726 (gw_c hw_5 (gw_c hw_727 (gw_c hw_618 (gw_c hw_14 (gw_c hw_539 (gw_c hw_11 (gw_c hw_629 (gw_c hw_565 (gw_c hw_566 (gw_c hw_567 (gw_c hw_568 (gw_c hw_569 (gw_c hw_570 (gw_c hw_17 (gw_c hw_28 (gw_c hw_728 (gw_c hw_729 (gw_c hw_730 (gw_c hw_415 (gw_c hw_731 gw_n))))))))))))))))))))))))
set_option maxRecDepth 20000 in
theorem gT_wsL_alike_r2 : GoodIn lw_tbl wsL_alike_r2 := (gw_c hw_634 (gw_c hw_445 (gw_c hw_446 (gw_c hw_201 (gw_c hw_447 (gw_c hw_203 (gw_c hw_368 gw_n)))))))
set_option maxRecDepth 20000 in
theorem gT_wsL_alike : GoodIn lw_tbl wsL_alike := gw_c hw_723 (goodIn_app (goodIn_app (goodIn_app (goodIn_app (goodIn_app (goodIn_app gT_wsL_alike_r1 gT_wsL_alike_r2) gU_wsX100) gU_wsX40) gU_wsX60) gU_wsX20) gVX_389)
set_option maxRecDepth 20000 in
theorem gT_wsL_oldest_r1 : GoodIn lw_tbl wsL_oldest_r1 := (gw_c hw_556 (gw_c hw_1 (gw_c hw_733 (gw_c hw_734 (gw_c hw_735 (gw_c hw_5 (gw_c hw_736 (gw_c hw_618 (gw_c hw_14 (gw_c hw_539 (gw_c hw_565 (gw_c hw_566 (gw_c hw_567 (gw_c hw_568 (gw_c hw_569 (gw_c hw_570 (gw_c hw_11 (gw_c hw_17 (gw_c hw_28 (gw_c hw_543 (gw_c hw_544 (gw_c hw_545 (gw_c hw_546 (gw_c hw_22 gw_n))))))))))))))))))))))))
set_option maxRecDepth 20000 in
theorem gT_wsL_oldest_r2 : GoodIn lw_tbl wsL_oldest_r2 := (gw_c hw_23 (gw_c hw_24 (gw_c hw_25 (gw_c hw_26 (gw_c hw_27 (gw_c hw_737 (gw_c hw_738 (gw_c hw_739 (gw_c hw_415 (gw_c hw_740 (gw_c hw_713 (gw_c hw_714 (gw_c hw_715 (gw_c hw_716 (gw_c hw_717 (gw_c hw_689 (gw_c hw_718 (gw_c hw_70 (gw_c hw_71 (gw_c hw_72 (gw_c hw_690 (gw_c hw_410 (gw_c hw_411 (gw_c hw_201 gw_n))))))))))))))))))))))))
set_option maxRecDepth 20000 in
theorem gT_wsL_oldest_r3 : GoodIn lw_tbl wsL_oldest_r3 := (gw_c hw_412 (gw_c hw_203 (gw_c hw_368 (gw_c hw_741 (gw_c hw_742 (gw_c hw_743 (gw_c hw_744 gw_n)))))))
set_option maxRecDepth 20000 in
theorem gT_wsL_oldest : GoodIn lw_tbl wsL_oldest := gw_c hw_732 (goodIn_app (goodIn_app (goodIn_app (goodIn_app (goodIn_app (goodIn_app (goodIn_app (goodIn_app gT_wsL_oldest_r1 (goodIn_app gT_wsL_oldest_r2 gT_wsL_oldest_r3)) gU_wsX100) gU_wsX40) gU_wsX60) gU_wsX10) gU_wsX20) gVX_389) gVX_386)
set_option maxRecDepth 20000 in
theorem gT_wsL_patch_r1 : GoodIn lw_tbl wsL_patch_r1 := (gw_c hw_556 (gw_c hw_1 (gw_c hw_746 (gw_c hw_747 (gw_c hw_748 (gw_c hw_5 (gw_c hw_749 (gw_c hw_618 (gw_c hw_14 (gw_c hw_539 (gw_c hw_11 (gw_c hw_629 (gw_c hw_750 (gw_c hw_751 (gw_c hw_565 (gw_c hw_566 (gw_c hw_567 (gw_c hw_568 (gw_c hw_569 (gw_c hw_570 (gw_c hw_17 (gw_c hw_28 (gw_c hw_543 (gw_c hw_544 gw_n))))))))))))))))))))))))
set_option maxRecDepth 20000 in
theorem gT_wsL_patch_r2 : GoodIn lw_tbl wsL_patch_r2 := (gw_c hw_545 (gw_c hw_546 (gw_c hw_22 (gw_c hw_23 (gw_c hw_24 (gw_c hw_25 (gw_c hw_26 (gw_c hw_27 (gw_c hw_752 (gw_c hw_753 (gw_c hw_754 (gw_c hw_415 (gw_c hw_755 (gw_c hw_756 (gw_c hw_757 (gw_c hw_634 (gw_c hw_445 (gw_c hw_446 (gw_c hw_201 (gw_c hw_447 (gw_c hw_203 (gw_c hw_368 (gw_c hw_758 (gw_c hw_631 gw_n))))))))))))))))))))))))
set_option maxRecDepth 20000 in
theorem gT_wsL_patch_r3 : GoodIn lw_tbl wsL_patch_r3 := (gw_c hw_632 (gw_c hw_633 (gw_c hw_759 (gw_c hw_760 (gw_c hw_761 (gw_c hw_762 (gw_c hw_763 (gw_c hw_764 (gw_c hw_765 (gw_c hw_766 (gw_c hw_767 (gw_c hw_768 (gw_c hw_769 gw_n)))))))))))))
set_option maxRecDepth 20000 in
theorem gT_wsL_patch : GoodIn lw_tbl wsL_patch := gw_c hw_745 (goodIn_app (goodIn_app (goodIn_app (goodIn_app (goodIn_app (goodIn_app (goodIn_app (goodIn_app gT_wsL_patch_r1 (goodIn_app gT_wsL_patch_r2 gT_wsL_patch_r3)) gU_wsX100) gU_wsX40) gU_wsX60) gU_wsX10) gU_wsX20) gVX_389) gVX_386)
set_option maxRecDepth 20000 in
theorem gT_wsL_tells_r1 : GoodIn lw_tbl wsL_tells_r1 := (gw_c hw_556 (gw_c hw_771 (gw_c hw_772 (gw_c hw_773 (gw_c hw_5 (gw_c hw_774 (gw_c hw_13 (gw_c hw_14 (gw_c hw_539 (gw_c hw_11 (gw_c hw_629 (gw_c hw_565 (gw_c hw_566 (gw_c hw_567 (gw_c hw_568 (gw_c hw_569 (gw_c hw_570 (gw_c hw_17 (gw_c hw_28 (gw_c hw_775 (gw_c hw_776 (gw_c hw_777 (gw_c hw_187 (gw_c hw_778 gw_n))))))))))))))))))))))))
set_option maxRecDepth 20000 in
theorem gT_wsL_tells_r2 : GoodIn lw_tbl wsL_tells_r2 := (gw_c hw_190 (gw_c hw_779 (gw_c hw_189 (gw_c hw_526 (gw_c hw_527 (gw_c hw_780 (gw_c hw_781 (gw_c hw_782 (gw_c hw_783 (gw_c hw_784 (gw_c hw_610 (gw_c hw_611 (gw_c hw_201 (gw_c hw_612 (gw_c hw_203 (gw_c hw_409 (gw_c hw_410 (gw_c hw_411 (gw_c hw_412 (gw_c hw_368 gw_n))))))))))))))))))))
set_option maxRecDepth 20000 in
theorem gT_wsL_tells : GoodIn lw_tbl wsL_tells := gw_c hw_770 (goodIn_app (goodIn_app (goodIn_app (goodIn_app (goodIn_app (goodIn_app (goodIn_app gT_wsL_tells_r1 gT_wsL_tells_r2) gU_wsX100) gU_wsX40) gU_wsX60) gU_wsX00) gU_wsX20) gVX_389)
set_option maxRecDepth 20000 in
theorem gT_wsL_look_r1 : GoodIn lw_tbl wsL_look_r1 := (gw_c hw_556 (gw_c hw_1 (gw_c hw_786 (gw_c hw_787 (gw_c hw_788 (gw_c hw_5 (gw_c hw_789 (gw_c hw_13 (gw_c hw_14 (gw_c hw_539 (gw_c hw_11 (gw_c hw_629 (gw_c hw_565 (gw_c hw_566 (gw_c hw_567 (gw_c hw_568 (gw_c hw_569 (gw_c hw_570 (gw_c hw_17 (gw_c hw_28 (gw_c hw_543 (gw_c hw_544 (gw_c hw_545 (gw_c hw_546 gw_n))))))))))))))))))))))))
set_option maxRecDepth 20000 in
theorem gT_wsL_look_r2 : GoodIn lw_tbl wsL_look_r2 := (gw_c hw_22 (gw_c hw_23 (gw_c hw_24 (gw_c hw_25 (gw_c hw_26 (gw_c hw_27 (gw_c hw_790 (gw_c hw_791 (gw_c hw_792 (gw_c hw_187 (gw_c hw_793 (gw_c hw_190 (gw_c hw_783 (gw_c hw_794 (gw_c hw_776 (gw_c hw_777 (gw_c hw_778 (gw_c hw_779 (gw_c hw_189 (gw_c hw_526 (gw_c hw_527 (gw_c hw_780 (gw_c hw_781 (gw_c hw_782 gw_n))))))))))))))))))))))))
set_option maxRecDepth 20000 in
theorem gT_wsL_look_r3 : GoodIn lw_tbl wsL_look_r3 := (gw_c hw_784 (gw_c hw_610 (gw_c hw_611 (gw_c hw_201 (gw_c hw_612 (gw_c hw_203 (gw_c hw_409 (gw_c hw_410 (gw_c hw_411 (gw_c hw_412 (gw_c hw_368 (gw_c hw_795 (gw_c hw_796 (gw_c hw_797 (gw_c hw_798 (gw_c hw_48 (gw_c hw_49 (gw_c hw_50 (gw_c hw_799 (gw_c hw_764 (gw_c hw_765 (gw_c hw_766 (gw_c hw_767 (gw_c hw_768 gw_n))))))))))))))))))))))))
set_option maxRecDepth 20000 in
theorem gT_wsL_look_r4 : GoodIn lw_tbl wsL_look_r4 := (gw_c hw_769 gw_n)
set_option maxRecDepth 20000 in
theorem gT_wsL_look : GoodIn lw_tbl wsL_look := gw_c hw_785 (goodIn_app (goodIn_app (goodIn_app (goodIn_app (goodIn_app (goodIn_app (goodIn_app (goodIn_app gT_wsL_look_r1 (goodIn_app gT_wsL_look_r2 (goodIn_app gT_wsL_look_r3 gT_wsL_look_r4))) gU_wsX100) gU_wsX40) gU_wsX60) gU_wsX00) gU_wsX20) gVX_389) gVX_386)
set_option maxRecDepth 20000 in
theorem gT_wsL_cover_r1 : GoodIn lw_tbl wsL_cover_r1 := (gw_c hw_556 (gw_c hw_1 (gw_c hw_801 (gw_c hw_802 (gw_c hw_803 (gw_c hw_5 (gw_c hw_804 (gw_c hw_618 (gw_c hw_11 (gw_c hw_629 (gw_c hw_565 (gw_c hw_566 (gw_c hw_567 (gw_c hw_568 (gw_c hw_569 (gw_c hw_570 (gw_c hw_17 (gw_c hw_28 (gw_c hw_672 (gw_c hw_673 (gw_c hw_674 (gw_c hw_675 (gw_c hw_22 (gw_c hw_23 gw_n))))))))))))))))))))))))
set_option maxRecDepth 20000 in
theorem gT_wsL_cover_r2 : GoodIn lw_tbl wsL_cover_r2 := (gw_c hw_24 (gw_c hw_25 (gw_c hw_26 (gw_c hw_27 (gw_c hw_543 (gw_c hw_544 (gw_c hw_545 (gw_c hw_546 (gw_c hw_805 (gw_c hw_806 (gw_c hw_807 (gw_c hw_415 (gw_c hw_808 (gw_c hw_809 (gw_c hw_810 (gw_c hw_414 (gw_c hw_416 (gw_c hw_417 (gw_c hw_418 (gw_c hw_49 (gw_c hw_419 (gw_c hw_811 (gw_c hw_812 (gw_c hw_813 gw_n))))))))))))))))))))))))
set_option maxRecDepth 20000 in
theorem gT_wsL_cover_r3 : GoodIn lw_tbl wsL_cover_r3 := (gw_c hw_814 gw_n)
set_option maxRecDepth 20000 in
theorem gT_wsL_cover : GoodIn lw_tbl wsL_cover := gw_c hw_800 (goodIn_app (goodIn_app (goodIn_app (goodIn_app (goodIn_app (goodIn_app gT_wsL_cover_r1 (goodIn_app gT_wsL_cover_r2 gT_wsL_cover_r3)) gU_wsX100) gU_wsX60) gU_wsX10) gVX_389) gVX_386)
set_option maxRecDepth 20000 in
theorem gT_wsL_game_r1 : GoodIn lw_tbl wsL_game_r1 := (gw_c hw_556 (gw_c hw_1 (gw_c hw_816 (gw_c hw_817 (gw_c hw_818 (gw_c hw_5 (gw_c hw_819 (gw_c hw_618 (gw_c hw_14 (gw_c hw_539 (gw_c hw_565 (gw_c hw_566 (gw_c hw_567 (gw_c hw_568 (gw_c hw_569 (gw_c hw_570 (gw_c hw_11 (gw_c hw_17 (gw_c hw_28 (gw_c hw_22 (gw_c hw_23 (gw_c hw_24 (gw_c hw_25 (gw_c hw_26 gw_n))))))))))))))))))))))))
set_option maxRecDepth 20000 in
theorem gT_wsL_game_r2 : GoodIn lw_tbl wsL_game_r2 := (gw_c hw_27 (gw_c hw_543 (gw_c hw_544 (gw_c hw_545 (gw_c hw_546 (gw_c hw_820 (gw_c hw_821 (gw_c hw_822 (gw_c hw_415 (gw_c hw_823 (gw_c hw_689 gw_n)))))))))))
set_option maxRecDepth 20000 in
theorem gT_wsL_game : GoodIn lw_tbl wsL_game := gw_c hw_815 (goodIn_app (goodIn_app (goodIn_app (goodIn_app (goodIn_app (goodIn_app (goodIn_app gT_wsL_game_r1 gT_wsL_game_r2) gU_wsX100) gU_wsX40) gU_wsX60) gU_wsX20) gVX_389) gVX_386)
set_option maxRecDepth 20000 in
theorem gT_wsL_round_r1 : GoodIn lw_tbl wsL_round_r1 := (gw_c hw_1 (gw_c hw_825 (gw_c hw_826 (gw_c hw_827 (gw_c hw_5 (gw_c hw_828 (gw_c hw_829 (gw_c hw_11 (gw_c hw_830 (gw_c hw_831 (gw_c hw_832 (gw_c hw_833 (gw_c hw_834 (gw_c hw_835 (gw_c hw_537 (gw_c hw_22 (gw_c hw_23 (gw_c hw_24 (gw_c hw_25 (gw_c hw_26 (gw_c hw_27 (gw_c hw_28 (gw_c hw_543 (gw_c hw_544 gw_n))))))))))))))))))))))))
set_option maxRecDepth 20000 in
theorem gT_wsL_round_r2 : GoodIn lw_tbl wsL_round_r2 := (gw_c hw_545 (gw_c hw_546 (gw_c hw_836 (gw_c hw_837 (gw_c hw_838 (gw_c hw_839 (gw_c hw_840 (gw_c hw_841 (gw_c hw_842 (gw_c hw_843 (gw_c hw_70 (gw_c hw_71 (gw_c hw_72 (gw_c hw_844 (gw_c hw_845 (gw_c hw_846 (gw_c hw_847 (gw_c hw_848 (gw_c hw_849 (gw_c hw_850 (gw_c hw_851 (gw_c hw_435 (gw_c hw_436 (gw_c hw_54 gw_n))))))))))))))))))))))))
set_option maxRecDepth 20000 in
theorem gT_wsL_round_r3 : GoodIn lw_tbl wsL_round_r3 := (gw_c hw_437 (gw_c hw_164 (gw_c hw_852 (gw_c hw_853 (gw_c hw_854 (gw_c hw_855 (gw_c hw_856 (gw_c hw_857 (gw_c hw_418 (gw_c hw_49 (gw_c hw_419 (gw_c hw_858 (gw_c hw_859 (gw_c hw_860 gw_n))))))))))))))
theorem gU_wsX50 : GoodIn lw_tbl wsX50 := (gw_c hw_861 (gw_c hw_862 (gw_c hw_863 gw_n)))
set_option maxRecDepth 20000 in
theorem gT_wsL_round : GoodIn lw_tbl wsL_round := gw_c hw_824 (goodIn_app (goodIn_app (goodIn_app (goodIn_app (goodIn_app gT_wsL_round_r1 (goodIn_app gT_wsL_round_r2 gT_wsL_round_r3)) gU_wsX100) gU_wsX50) gU_wsX60) gVX_386)
set_option maxRecDepth 20000 in
theorem gT_wsL_by_r1 : GoodIn lw_tbl wsL_by_r1 := (gw_c hw_1 (gw_c hw_865 (gw_c hw_866 (gw_c hw_867 (gw_c hw_5 (gw_c hw_868 (gw_c hw_829 (gw_c hw_11 (gw_c hw_14 (gw_c hw_539 (gw_c hw_540 (gw_c hw_830 (gw_c hw_832 (gw_c hw_833 (gw_c hw_834 (gw_c hw_835 (gw_c hw_537 (gw_c hw_22 (gw_c hw_23 (gw_c hw_24 (gw_c hw_25 (gw_c hw_26 (gw_c hw_27 (gw_c hw_28 gw_n))))))))))))))))))))))))
set_option maxRecDepth 20000 in
theorem gT_wsL_by_r2 : GoodIn lw_tbl wsL_by_r2 := (gw_c hw_869 (gw_c hw_870 (gw_c hw_871 (gw_c hw_839 (gw_c hw_872 (gw_c hw_841 (gw_c hw_842 (gw_c hw_850 (gw_c hw_873 (gw_c hw_403 (gw_c hw_49 (gw_c hw_404 (gw_c hw_843 (gw_c hw_70 (gw_c hw_71 (gw_c hw_72 (gw_c hw_851 (gw_c hw_435 (gw_c hw_436 (gw_c hw_54 (gw_c hw_437 (gw_c hw_164 (gw_c hw_844 (gw_c hw_845 gw_n))))))))))))))))))))))))
set_option maxRecDepth 20000 in
theorem gT_wsL_by_r3 : GoodIn lw_tbl wsL_by_r3 := (gw_c hw_846 (gw_c hw_847 (gw_c hw_848 (gw_c hw_849 (gw_c hw_852 (gw_c hw_853 (gw_c hw_854 (gw_c hw_855 (gw_c hw_856 (gw_c hw_857 (gw_c hw_418 (gw_c hw_419 (gw_c hw_858 (gw_c hw_859 (gw_c hw_860 gw_n)))))))))))))))
set_option maxRecDepth 20000 in
theorem gT_wsL_by : GoodIn lw_tbl wsL_by := gw_c hw_864 (goodIn_app (goodIn_app (goodIn_app (goodIn_app (goodIn_app (goodIn_app (goodIn_app gT_wsL_by_r1 (goodIn_app gT_wsL_by_r2 gT_wsL_by_r3)) gU_wsX100) gU_wsX40) gU_wsX20) gU_wsX50) gU_wsX60) gVX_386)
set_option maxRecDepth 20000 in
theorem gT_wsL_share_r1 : GoodIn lw_tbl wsL_share_r1 := (gw_c hw_574 (gw_c hw_556 (gw_c hw_1 (gw_c hw_875 (gw_c hw_876 (gw_c hw_877 (gw_c hw_5 (gw_c hw_878 (gw_c hw_618 (gw_c hw_14 (gw_c hw_539 (gw_c hw_579 (gw_c hw_580 (gw_c hw_581 (gw_c hw_582 (gw_c hw_583 (gw_c hw_584 (gw_c hw_11 (gw_c hw_561 (gw_c hw_562 (gw_c hw_28 (gw_c hw_565 (gw_c hw_566 (gw_c hw_567 gw_n))))))))))))))))))))))))
set_option maxRecDepth 20000 in
theorem gT_wsL_share_r2 : GoodIn lw_tbl wsL_share_r2 := (gw_c hw_568 (gw_c hw_569 (gw_c hw_570 (gw_c hw_17 (gw_c hw_585 (gw_c hw_442 (gw_c hw_443 (gw_c hw_22 (gw_c hw_23 (gw_c hw_24 (gw_c hw_25 (gw_c hw_26 (gw_c hw_27 (gw_c hw_879 (gw_c hw_880 (gw_c hw_881 (gw_c hw_415 (gw_c hw_882 (gw_c hw_689 (gw_c hw_883 (gw_c hw_552 (gw_c hw_553 (gw_c hw_201 (gw_c hw_554 gw_n))))))))))))))))))))))))
set_option maxRecDepth 20000 in
theorem gT_wsL_share_r3 : GoodIn lw_tbl wsL_share_r3 := (gw_c hw_203 gw_n)
set_option maxRecDepth 20000 in
theorem gT_wsL_share : GoodIn lw_tbl wsL_share := gw_c hw_874 (goodIn_app (goodIn_app (goodIn_app (goodIn_app (goodIn_app (goodIn_app (goodIn_app (goodIn_app gT_wsL_share_r1 (goodIn_app gT_wsL_share_r2 gT_wsL_share_r3)) gU_wsX100) gU_wsX40) gU_wsX60) gU_wsX20) gVX_392) gVX_389) gVX_386)
set_option maxRecDepth 20000 in
theorem gT_wsL_ahead_r1 : GoodIn lw_tbl wsL_ahead_r1 := (gw_c hw_556 (gw_c hw_1 (gw_c hw_885 (gw_c hw_886 (gw_c hw_887 (gw_c hw_5 (gw_c hw_888 (gw_c hw_640 (gw_c hw_14 (gw_c hw_539 (gw_c hw_11 (gw_c hw_12 (gw_c hw_889 (gw_c hw_618 (gw_c hw_629 (gw_c hw_565 (gw_c hw_566 (gw_c hw_567 (gw_c hw_568 (gw_c hw_569 (gw_c hw_570 (gw_c hw_17 (gw_c hw_28 (gw_c hw_22 gw_n))))))))))))))))))))))))
set_option maxRecDepth 20000 in
theorem gT_wsL_ahead_r2 : GoodIn lw_tbl wsL_ahead_r2 := (gw_c hw_23 (gw_c hw_24 (gw_c hw_25 (gw_c hw_26 (gw_c hw_27 (gw_c hw_543 (gw_c hw_544 (gw_c hw_545 (gw_c hw_546 (gw_c hw_890 (gw_c hw_891 (gw_c hw_892 (gw_c hw_423 (gw_c hw_893 (gw_c hw_894 (gw_c hw_425 (gw_c hw_427 (gw_c hw_426 (gw_c hw_895 (gw_c hw_896 (gw_c hw_370 (gw_c hw_371 (gw_c hw_201 (gw_c hw_372 gw_n))))))))))))))))))))))))
set_option maxRecDepth 20000 in
theorem gT_wsL_ahead_r3 : GoodIn lw_tbl wsL_ahead_r3 := (gw_c hw_368 (gw_c hw_373 (gw_c hw_374 (gw_c hw_375 (gw_c hw_376 (gw_c hw_203 (gw_c hw_204 (gw_c hw_205 (gw_c hw_206 (gw_c hw_207 (gw_c hw_208 (gw_c hw_209 (gw_c hw_448 (gw_c hw_449 (gw_c hw_450 (gw_c hw_451 (gw_c hw_402 (gw_c hw_403 (gw_c hw_49 (gw_c hw_404 (gw_c hw_452 (gw_c hw_453 (gw_c hw_454 (gw_c hw_455 gw_n))))))))))))))))))))))))
set_option maxRecDepth 20000 in
theorem gT_wsL_ahead_r4 : GoodIn lw_tbl wsL_ahead_r4 := (gw_c hw_456 (gw_c hw_457 (gw_c hw_458 (gw_c hw_459 (gw_c hw_460 (gw_c hw_461 (gw_c hw_462 (gw_c hw_463 (gw_c hw_464 (gw_c hw_465 (gw_c hw_466 (gw_c hw_467 (gw_c hw_468 (gw_c hw_444 (gw_c hw_445 (gw_c hw_446 (gw_c hw_447 (gw_c hw_469 (gw_c hw_470 (gw_c hw_471 (gw_c hw_180 (gw_c hw_472 (gw_c hw_183 (gw_c hw_182 gw_n))))))))))))))))))))))))
set_option maxRecDepth 20000 in
theorem gT_wsL_ahead_r5 : GoodIn lw_tbl wsL_ahead_r5 := (gw_c hw_473 (gw_c hw_474 (gw_c hw_475 (gw_c hw_476 (gw_c hw_477 (gw_c hw_571 (gw_c hw_552 (gw_c hw_553 (gw_c hw_554 (gw_c hw_697 (gw_c hw_698 (gw_c hw_699 (gw_c hw_415 (gw_c hw_700 (gw_c hw_701 (gw_c hw_702 (gw_c hw_703 (gw_c hw_634 (gw_c hw_709 (gw_c hw_710 (gw_c hw_711 (gw_c hw_712 (gw_c hw_713 (gw_c hw_714 gw_n))))))))))))))))))))))))
set_option maxRecDepth 20000 in
theorem gT_wsL_ahead_r6 : GoodIn lw_tbl wsL_ahead_r6 := (gw_c hw_715 (gw_c hw_716 (gw_c hw_717 (gw_c hw_689 (gw_c hw_718 (gw_c hw_70 (gw_c hw_71 (gw_c hw_72 (gw_c hw_690 (gw_c hw_410 (gw_c hw_411 (gw_c hw_412 gw_n))))))))))))
set_option maxRecDepth 20000 in
theorem gT_wsL_ahead : GoodIn lw_tbl wsL_ahead := gw_c hw_884 (goodIn_app (goodIn_app (goodIn_app (goodIn_app (goodIn_app (goodIn_app (goodIn_app (goodIn_app (goodIn_app (goodIn_app gT_wsL_ahead_r1 (goodIn_app gT_wsL_ahead_r2 (goodIn_app gT_wsL_ahead_r3 (goodIn_app gT_wsL_ahead_r4 (goodIn_app gT_wsL_ahead_r5 gT_wsL_ahead_r6))))) gU_wsX100) gU_wsX40) gU_wsX80) gU_wsX60) gU_wsX20) gU_wsX30) gU_wsX10) gVX_389) gVX_386)
set_option maxRecDepth 20000 in
theorem gT_wsL_decade_r1 : GoodIn lw_tbl wsL_decade_r1 := (gw_c hw_1 (gw_c hw_898 (gw_c hw_899 (gw_c hw_900 (gw_c hw_5 (gw_c hw_901 (gw_c hw_640 (gw_c hw_14 (gw_c hw_539 (gw_c hw_11 (gw_c hw_12 (gw_c hw_17 (gw_c hw_902 (gw_c hw_903 (gw_c hw_904 (gw_c hw_905 (gw_c hw_906 (gw_c hw_907 (gw_c hw_908 (gw_c hw_909 (gw_c hw_22 (gw_c hw_23 (gw_c hw_24 (gw_c hw_25 gw_n))))))))))))))))))))))))
set_option maxRecDepth 20000 in
theorem gT_wsL_decade_r2 : GoodIn lw_tbl wsL_decade_r2 := (gw_c hw_26 (gw_c hw_27 (gw_c hw_28 (gw_c hw_543 (gw_c hw_544 (gw_c hw_545 (gw_c hw_546 (gw_c hw_890 (gw_c hw_891 (gw_c hw_892 (gw_c hw_423 (gw_c hw_893 (gw_c hw_894 (gw_c hw_425 (gw_c hw_427 (gw_c hw_426 (gw_c hw_895 (gw_c hw_896 (gw_c hw_370 (gw_c hw_371 (gw_c hw_201 (gw_c hw_372 (gw_c hw_368 (gw_c hw_373 gw_n))))))))))))))))))))))))
set_option maxRecDepth 20000 in
theorem gT_wsL_decade_r3 : GoodIn lw_tbl wsL_decade_r3 := (gw_c hw_374 (gw_c hw_375 (gw_c hw_376 (gw_c hw_203 (gw_c hw_204 (gw_c hw_205 (gw_c hw_206 (gw_c hw_207 (gw_c hw_208 (gw_c hw_209 (gw_c hw_448 (gw_c hw_449 (gw_c hw_450 (gw_c hw_451 (gw_c hw_402 (gw_c hw_403 (gw_c hw_49 (gw_c hw_404 (gw_c hw_452 (gw_c hw_453 (gw_c hw_454 (gw_c hw_455 (gw_c hw_456 (gw_c hw_457 gw_n))))))))))))))))))))))))
set_option maxRecDepth 20000 in
theorem gT_wsL_decade_r4 : GoodIn lw_tbl wsL_decade_r4 := (gw_c hw_458 (gw_c hw_459 (gw_c hw_460 (gw_c hw_461 (gw_c hw_462 (gw_c hw_463 (gw_c hw_464 (gw_c hw_465 (gw_c hw_466 (gw_c hw_467 (gw_c hw_468 (gw_c hw_444 (gw_c hw_445 (gw_c hw_446 (gw_c hw_447 (gw_c hw_469 (gw_c hw_470 (gw_c hw_471 (gw_c hw_180 (gw_c hw_472 (gw_c hw_183 (gw_c hw_182 (gw_c hw_473 (gw_c hw_474 gw_n))))))))))))))))))))))))
set_option maxRecDepth 20000 in
theorem gT_wsL_decade_r5 : GoodIn lw_tbl wsL_decade_r5 := (gw_c hw_475 (gw_c hw_476 (gw_c hw_477 (gw_c hw_910 (gw_c hw_911 (gw_c hw_912 (gw_c hw_913 (gw_c hw_914 (gw_c hw_915 (gw_c hw_916 (gw_c hw_917 (gw_c hw_918 (gw_c hw_552 (gw_c hw_553 (gw_c hw_554 (gw_c hw_919 (gw_c hw_764 (gw_c hw_765 (gw_c hw_766 (gw_c hw_767 (gw_c hw_768 (gw_c hw_769 gw_n))))))))))))))))))))))
set_option maxRecDepth 20000 in
theorem gT_wsL_decade : GoodIn lw_tbl wsL_decade := gw_c hw_897 (goodIn_app (goodIn_app (goodIn_app (goodIn_app (goodIn_app (goodIn_app (goodIn_app (goodIn_app gT_wsL_decade_r1 (goodIn_app gT_wsL_decade_r2 (goodIn_app gT_wsL_decade_r3 (goodIn_app gT_wsL_decade_r4 gT_wsL_decade_r5)))) gU_wsX100) gU_wsX40) gU_wsX60) gU_wsX20) gU_wsX80) gU_wsX30) gVX_386)
set_option maxRecDepth 20000 in
theorem gT_wsL_span_r1 : GoodIn lw_tbl wsL_span_r1 := (gw_c hw_1 (gw_c hw_921 (gw_c hw_922 (gw_c hw_923 (gw_c hw_5 (gw_c hw_924 (gw_c hw_11 (gw_c hw_17 (gw_c hw_640 (gw_c hw_14 (gw_c hw_539 (gw_c hw_12 (gw_c hw_902 (gw_c hw_903 (gw_c hw_925 (gw_c hw_403 (gw_c hw_49 (gw_c hw_404 (gw_c hw_926 (gw_c hw_48 (gw_c hw_50 (gw_c hw_904 (gw_c hw_22 (gw_c hw_23 gw_n))))))))))))))))))))))))
set_option maxRecDepth 20000 in
theorem gT_wsL_span_r2 : GoodIn lw_tbl wsL_span_r2 := (gw_c hw_24 (gw_c hw_25 (gw_c hw_26 (gw_c hw_27 (gw_c hw_28 (gw_c hw_906 (gw_c hw_907 (gw_c hw_908 (gw_c hw_909 (gw_c hw_543 (gw_c hw_544 (gw_c hw_545 (gw_c hw_546 (gw_c hw_890 (gw_c hw_891 (gw_c hw_892 (gw_c hw_423 (gw_c hw_893 (gw_c hw_894 (gw_c hw_425 (gw_c hw_427 (gw_c hw_426 (gw_c hw_895 (gw_c hw_896 gw_n))))))))))))))))))))))))
set_option maxRecDepth 20000 in
theorem gT_wsL_span_r3 : GoodIn lw_tbl wsL_span_r3 := (gw_c hw_370 (gw_c hw_371 (gw_c hw_201 (gw_c hw_372 (gw_c hw_368 (gw_c hw_373 (gw_c hw_374 (gw_c hw_375 (gw_c hw_376 (gw_c hw_203 (gw_c hw_204 (gw_c hw_205 (gw_c hw_206 (gw_c hw_207 (gw_c hw_208 (gw_c hw_209 (gw_c hw_448 (gw_c hw_449 (gw_c hw_450 (gw_c hw_451 (gw_c hw_402 (gw_c hw_452 (gw_c hw_453 (gw_c hw_454 gw_n))))))))))))))))))))))))
set_option maxRecDepth 20000 in
theorem gT_wsL_span_r4 : GoodIn lw_tbl wsL_span_r4 := (gw_c hw_455 (gw_c hw_456 (gw_c hw_457 (gw_c hw_458 (gw_c hw_459 (gw_c hw_460 (gw_c hw_461 (gw_c hw_462 (gw_c hw_463 (gw_c hw_464 (gw_c hw_465 (gw_c hw_466 (gw_c hw_467 (gw_c hw_468 (gw_c hw_444 (gw_c hw_445 (gw_c hw_446 (gw_c hw_447 (gw_c hw_469 (gw_c hw_470 (gw_c hw_471 (gw_c hw_180 (gw_c hw_472 (gw_c hw_183 gw_n))))))))))))))))))))))))
set_option maxRecDepth 20000 in
theorem gT_wsL_span_r5 : GoodIn lw_tbl wsL_span_r5 := (gw_c hw_182 (gw_c hw_473 (gw_c hw_474 (gw_c hw_475 (gw_c hw_476 (gw_c hw_477 (gw_c hw_910 (gw_c hw_911 (gw_c hw_912 (gw_c hw_913 (gw_c hw_914 (gw_c hw_915 (gw_c hw_916 (gw_c hw_917 (gw_c hw_918 (gw_c hw_552 (gw_c hw_553 (gw_c hw_554 gw_n))))))))))))))))))
set_option maxRecDepth 20000 in
theorem gT_wsL_span : GoodIn lw_tbl wsL_span := gw_c hw_920 (goodIn_app (goodIn_app (goodIn_app (goodIn_app (goodIn_app (goodIn_app (goodIn_app (goodIn_app gT_wsL_span_r1 (goodIn_app gT_wsL_span_r2 (goodIn_app gT_wsL_span_r3 (goodIn_app gT_wsL_span_r4 gT_wsL_span_r5)))) gU_wsX100) gU_wsX60) gU_wsX40) gU_wsX20) gU_wsX80) gU_wsX30) gVX_386)
theorem gU_wsX110 : GoodIn lw_tbl wsX110 := (gw_c hw_931 (gw_c hw_932 (gw_c hw_933 (gw_c hw_934 (gw_c hw_935 (gw_c hw_936 (gw_c hw_937 (gw_c hw_938 (gw_c hw_939 (gw_c hw_940 (gw_c hw_941 (gw_c hw_942 (gw_c hw_943 (gw_c hw_944 (gw_c hw_945 (gw_c hw_946 (gw_c hw_947 (gw_c hw_948 (gw_c hw_949 (gw_c hw_950 (gw_c hw_951 (gw_c hw_952 (gw_c hw_953 (gw_c hw_954 (gw_c hw_955 (gw_c hw_956 (gw_c hw_957 (gw_c hw_958 (gw_c hw_959 (gw_c hw_960 (gw_c hw_961 (gw_c hw_962 (gw_c hw_963 (gw_c hw_964 (gw_c hw_965 (gw_c hw_966 (gw_c hw_967 (gw_c hw_968 (gw_c hw_969 (gw_c hw_970 (gw_c hw_971 (gw_c hw_972 (gw_c hw_973 (gw_c hw_974 gw_n))))))))))))))))))))))))))))))))))))))))))))
set_option maxRecDepth 20000 in
theorem gT_wsX11_feed : GoodIn lw_tbl wsX11_feed := gw_c hw_927 (goodIn_app (gw_c hw_928 (gw_c hw_929 (gw_c hw_930 gw_n))) gU_wsX110)
set_option maxRecDepth 20000 in
theorem gT_wsX11_street_r1 : GoodIn lw_tbl wsX11_street_r1 := (gw_c hw_928 (gw_c hw_929 (gw_c hw_976 (gw_c hw_977 (gw_c hw_978 (gw_c hw_979 (gw_c hw_980 (gw_c hw_981 (gw_c hw_982 (gw_c hw_983 (gw_c hw_984 (gw_c hw_985 (gw_c hw_986 (gw_c hw_987 (gw_c hw_988 (gw_c hw_989 (gw_c hw_990 (gw_c hw_991 (gw_c hw_992 (gw_c hw_993 (gw_c hw_994 (gw_c hw_995 (gw_c hw_996 (gw_c hw_997 gw_n))))))))))))))))))))))))
set_option maxRecDepth 20000 in
theorem gT_wsX11_street_r2 : GoodIn lw_tbl wsX11_street_r2 := (gw_c hw_998 (gw_c hw_999 (gw_c hw_1000 (gw_c hw_1001 (gw_c hw_1002 (gw_c hw_1003 (gw_c hw_1004 (gw_c hw_930 (gw_c hw_1005 (gw_c hw_1006 (gw_c hw_1007 (gw_c hw_1008 (gw_c hw_1009 (gw_c hw_1010 (gw_c hw_1011 (gw_c hw_1012 (gw_c hw_1013 (gw_c hw_1014 (gw_c hw_1015 (gw_c hw_1016 (gw_c hw_1017 (gw_c hw_1018 (gw_c hw_1019 (gw_c hw_1020 gw_n))))))))))))))))))))))))
set_option maxRecDepth 20000 in
theorem gT_wsX11_street_r3 : GoodIn lw_tbl wsX11_street_r3 := (gw_c hw_1021 (gw_c hw_1022 (gw_c hw_1023 (gw_c hw_1024 (gw_c hw_1025 (gw_c hw_1026 (gw_c hw_1027 (gw_c hw_1028 (gw_c hw_1029 (gw_c hw_1030 (gw_c hw_1031 (gw_c hw_1032 (gw_c hw_1033 (gw_c hw_1034 (gw_c hw_1035 (gw_c hw_1036 (gw_c hw_1037 (gw_c hw_1038 (gw_c hw_1039 (gw_c hw_1040 (gw_c hw_1041 (gw_c hw_1042 (gw_c hw_1043 (gw_c hw_1044 gw_n))))))))))))))))))))))))
set_option maxRecDepth 20000 in
theorem gT_wsX11_street_r4 : GoodIn lw_tbl wsX11_street_r4 := (gw_c hw_1045 (gw_c hw_1046 (gw_c hw_1047 (gw_c hw_1048 (gw_c hw_1049 (gw_c hw_1050 (gw_c hw_1051 (gw_c hw_1052 (gw_c hw_1053 (gw_c hw_1054 (gw_c hw_1055 (gw_c hw_1056 (gw_c hw_1057 (gw_c hw_1058 (gw_c hw_1059 (gw_c hw_1060 (gw_c hw_1061 (gw_c hw_1062 (gw_c hw_1063 (gw_c hw_1064 (gw_c hw_1065 (gw_c hw_1066 (gw_c hw_1067 (gw_c hw_1068 gw_n))))))))))))))))))))))))
set_option maxRecDepth 20000 in
theorem gT_wsX11_street_r5 : GoodIn lw_tbl wsX11_street_r5 := (gw_c hw_1069 (gw_c hw_1070 (gw_c hw_1071 (gw_c hw_1072 (gw_c hw_1073 (gw_c hw_1074 gw_n))))))
set_option maxRecDepth 20000 in
theorem gT_wsX11_street : GoodIn lw_tbl wsX11_street := gw_c hw_975 (goodIn_app (goodIn_app gT_wsX11_street_r1 (goodIn_app gT_wsX11_street_r2 (goodIn_app gT_wsX11_street_r3 (goodIn_app gT_wsX11_street_r4 gT_wsX11_street_r5)))) gU_wsX110)
set_option maxRecDepth 20000 in
theorem gT_wsX11_law_r1 : GoodIn lw_tbl wsX11_law_r1 := (gw_c hw_928 (gw_c hw_929 (gw_c hw_1076 (gw_c hw_976 (gw_c hw_977 (gw_c hw_978 (gw_c hw_979 (gw_c hw_1067 (gw_c hw_1077 (gw_c hw_1078 (gw_c hw_981 (gw_c hw_982 (gw_c hw_983 (gw_c hw_984 (gw_c hw_985 (gw_c hw_986 (gw_c hw_987 (gw_c hw_988 (gw_c hw_989 (gw_c hw_990 (gw_c hw_991 (gw_c hw_992 (gw_c hw_993 (gw_c hw_994 gw_n))))))))))))))))))))))))
set_option maxRecDepth 20000 in
theorem gT_wsX11_law_r2 : GoodIn lw_tbl wsX11_law_r2 := (gw_c hw_995 (gw_c hw_996 (gw_c hw_997 (gw_c hw_998 (gw_c hw_999 (gw_c hw_1000 (gw_c hw_1001 (gw_c hw_1002 (gw_c hw_1003 (gw_c hw_1004 (gw_c hw_930 (gw_c hw_1079 (gw_c hw_1080 (gw_c hw_1081 (gw_c hw_1082 (gw_c hw_1083 (gw_c hw_1084 (gw_c hw_1085 (gw_c hw_1086 (gw_c hw_1087 (gw_c hw_1088 (gw_c hw_1089 (gw_c hw_1090 (gw_c hw_1091 gw_n))))))))))))))))))))))))
set_option maxRecDepth 20000 in
theorem gT_wsX11_law_r3 : GoodIn lw_tbl wsX11_law_r3 := (gw_c hw_1092 (gw_c hw_1093 (gw_c hw_1094 (gw_c hw_1021 (gw_c hw_1022 (gw_c hw_1023 (gw_c hw_1024 (gw_c hw_1025 (gw_c hw_1026 (gw_c hw_1027 (gw_c hw_1028 (gw_c hw_1029 (gw_c hw_1030 (gw_c hw_1031 (gw_c hw_1032 (gw_c hw_1033 (gw_c hw_1034 (gw_c hw_1095 (gw_c hw_1096 (gw_c hw_1097 (gw_c hw_1098 (gw_c hw_1035 (gw_c hw_1036 (gw_c hw_1037 gw_n))))))))))))))))))))))))
set_option maxRecDepth 20000 in
theorem gT_wsX11_law_r4 : GoodIn lw_tbl wsX11_law_r4 := (gw_c hw_1038 (gw_c hw_1039 (gw_c hw_1040 (gw_c hw_1041 (gw_c hw_1042 (gw_c hw_1051 (gw_c hw_1052 (gw_c hw_1053 (gw_c hw_1054 (gw_c hw_1099 (gw_c hw_1100 (gw_c hw_1101 (gw_c hw_1102 (gw_c hw_1103 (gw_c hw_1104 (gw_c hw_1105 (gw_c hw_1106 (gw_c hw_1043 (gw_c hw_1044 (gw_c hw_1045 (gw_c hw_1046 (gw_c hw_1047 (gw_c hw_1048 (gw_c hw_1049 gw_n))))))))))))))))))))))))
set_option maxRecDepth 20000 in
theorem gT_wsX11_law_r5 : GoodIn lw_tbl wsX11_law_r5 := (gw_c hw_1050 (gw_c hw_1107 (gw_c hw_1108 (gw_c hw_1109 (gw_c hw_1110 (gw_c hw_1055 (gw_c hw_1056 (gw_c hw_1057 (gw_c hw_1058 (gw_c hw_1072 (gw_c hw_1073 (gw_c hw_1074 gw_n))))))))))))
set_option maxRecDepth 20000 in
theorem gT_wsX11_law : GoodIn lw_tbl wsX11_law := gw_c hw_1075 (goodIn_app (goodIn_app gT_wsX11_law_r1 (goodIn_app gT_wsX11_law_r2 (goodIn_app gT_wsX11_law_r3 (goodIn_app gT_wsX11_law_r4 gT_wsX11_law_r5)))) gU_wsX110)
set_option maxRecDepth 20000 in
theorem gT_wsX11_work_r1 : GoodIn lw_tbl wsX11_work_r1 := (gw_c hw_928 (gw_c hw_929 (gw_c hw_1069 (gw_c hw_979 (gw_c hw_1112 (gw_c hw_976 (gw_c hw_977 (gw_c hw_978 (gw_c hw_1066 (gw_c hw_1113 (gw_c hw_1114 (gw_c hw_1115 (gw_c hw_1070 (gw_c hw_981 (gw_c hw_982 (gw_c hw_983 (gw_c hw_984 (gw_c hw_985 (gw_c hw_986 (gw_c hw_987 (gw_c hw_988 (gw_c hw_989 (gw_c hw_990 (gw_c hw_991 gw_n))))))))))))))))))))))))
set_option maxRecDepth 20000 in
theorem gT_wsX11_work_r2 : GoodIn lw_tbl wsX11_work_r2 := (gw_c hw_992 (gw_c hw_993 (gw_c hw_994 (gw_c hw_995 (gw_c hw_996 (gw_c hw_997 (gw_c hw_998 (gw_c hw_999 (gw_c hw_1000 (gw_c hw_1001 (gw_c hw_1002 (gw_c hw_1003 (gw_c hw_1004 (gw_c hw_930 (gw_c hw_1116 (gw_c hw_1117 (gw_c hw_1118 (gw_c hw_1119 (gw_c hw_1120 (gw_c hw_980 (gw_c hw_1063 (gw_c hw_1121 (gw_c hw_1122 (gw_c hw_1123 gw_n))))))))))))))))))))))))
set_option maxRecDepth 20000 in
theorem gT_wsX11_work_r3 : GoodIn lw_tbl wsX11_work_r3 := (gw_c hw_1124 (gw_c hw_1021 (gw_c hw_1022 (gw_c hw_1023 (gw_c hw_1024 (gw_c hw_1025 (gw_c hw_1026 (gw_c hw_1027 (gw_c hw_1028 (gw_c hw_1029 (gw_c hw_1030 (gw_c hw_1031 (gw_c hw_1032 (gw_c hw_1033 (gw_c hw_1034 (gw_c hw_1035 (gw_c hw_1036 (gw_c hw_1037 (gw_c hw_1038 (gw_c hw_1095 (gw_c hw_1096 (gw_c hw_1097 (gw_c hw_1098 (gw_c hw_1039 gw_n))))))))))))))))))))))))
set_option maxRecDepth 20000 in
theorem gT_wsX11_work_r4 : GoodIn lw_tbl wsX11_work_r4 := (gw_c hw_1040 (gw_c hw_1041 (gw_c hw_1042 (gw_c hw_1043 (gw_c hw_1044 (gw_c hw_1045 (gw_c hw_1046 (gw_c hw_1047 (gw_c hw_1048 (gw_c hw_1049 (gw_c hw_1050 (gw_c hw_1051 (gw_c hw_1052 (gw_c hw_1053 (gw_c hw_1054 (gw_c hw_1055 (gw_c hw_1056 (gw_c hw_1057 (gw_c hw_1058 (gw_c hw_1125 (gw_c hw_1126 (gw_c hw_1127 (gw_c hw_1128 (gw_c hw_1129 gw_n))))))))))))))))))))))))
set_option maxRecDepth 20000 in
theorem gT_wsX11_work_r5 : GoodIn lw_tbl wsX11_work_r5 := (gw_c hw_1130 (gw_c hw_1131 (gw_c hw_1132 (gw_c hw_1133 (gw_c hw_1134 (gw_c hw_1135 (gw_c hw_1136 (gw_c hw_1137 (gw_c hw_1138 (gw_c hw_1139 (gw_c hw_1140 (gw_c hw_1141 (gw_c hw_1142 (gw_c hw_1143 (gw_c hw_1144 (gw_c hw_1145 (gw_c hw_1146 (gw_c hw_1147 (gw_c hw_1148 (gw_c hw_1149 (gw_c hw_1150 (gw_c hw_1151 (gw_c hw_1152 (gw_c hw_1153 gw_n))))))))))))))))))))))))
set_option maxRecDepth 20000 in
theorem gT_wsX11_work_r6 : GoodIn lw_tbl wsX11_work_r6 := (gw_c hw_1154 (gw_c hw_1155 (gw_c hw_1156 (gw_c hw_1157 (gw_c hw_1158 (gw_c hw_1159 (gw_c hw_1160 (gw_c hw_1161 (gw_c hw_1162 (gw_c hw_1163 (gw_c hw_1064 (gw_c hw_1164 (gw_c hw_1165 (gw_c hw_1166 (gw_c hw_1167 (gw_c hw_1168 (gw_c hw_1169 (gw_c hw_1170 (gw_c hw_1171 (gw_c hw_1172 (gw_c hw_1173 (gw_c hw_1174 (gw_c hw_1175 (gw_c hw_1176 gw_n))))))))))))))))))))))))
set_option maxRecDepth 20000 in
theorem gT_wsX11_work_r7 : GoodIn lw_tbl wsX11_work_r7 := (gw_c hw_1177 (gw_c hw_1065 (gw_c hw_1178 (gw_c hw_1179 (gw_c hw_1180 (gw_c hw_1181 (gw_c hw_1182 (gw_c hw_1183 (gw_c hw_1184 (gw_c hw_1185 (gw_c hw_1186 (gw_c hw_1187 (gw_c hw_1188 (gw_c hw_1189 (gw_c hw_1067 (gw_c hw_1078 (gw_c hw_1190 (gw_c hw_1191 (gw_c hw_1192 (gw_c hw_1193 (gw_c hw_1194 (gw_c hw_1195 (gw_c hw_1196 (gw_c hw_1197 gw_n))))))))))))))))))))))))
set_option maxRecDepth 20000 in
theorem gT_wsX11_work_r8 : GoodIn lw_tbl wsX11_work_r8 := (gw_c hw_1198 (gw_c hw_1199 (gw_c hw_1200 (gw_c hw_1201 (gw_c hw_1202 (gw_c hw_1203 (gw_c hw_1204 (gw_c hw_1205 (gw_c hw_1206 gw_n)))))))))
set_option maxRecDepth 20000 in
theorem gT_wsX11_work : GoodIn lw_tbl wsX11_work := gw_c hw_1111 (goodIn_app (goodIn_app gT_wsX11_work_r1 (goodIn_app gT_wsX11_work_r2 (goodIn_app gT_wsX11_work_r3 (goodIn_app gT_wsX11_work_r4 (goodIn_app gT_wsX11_work_r5 (goodIn_app gT_wsX11_work_r6 (goodIn_app gT_wsX11_work_r7 gT_wsX11_work_r8))))))) gU_wsX110)
set_option maxRecDepth 20000 in
theorem gT_wsX11_book_r1 : GoodIn lw_tbl wsX11_book_r1 := (gw_c hw_928 (gw_c hw_929 (gw_c hw_976 (gw_c hw_977 (gw_c hw_978 (gw_c hw_1208 (gw_c hw_979 (gw_c hw_1068 (gw_c hw_1209 (gw_c hw_981 (gw_c hw_982 (gw_c hw_983 (gw_c hw_984 (gw_c hw_985 (gw_c hw_986 (gw_c hw_987 (gw_c hw_988 (gw_c hw_989 (gw_c hw_990 (gw_c hw_991 (gw_c hw_992 (gw_c hw_993 (gw_c hw_994 (gw_c hw_995 gw_n))))))))))))))))))))))))
set_option maxRecDepth 20000 in
theorem gT_wsX11_book_r2 : GoodIn lw_tbl wsX11_book_r2 := (gw_c hw_996 (gw_c hw_997 (gw_c hw_998 (gw_c hw_999 (gw_c hw_1000 (gw_c hw_1001 (gw_c hw_1002 (gw_c hw_1003 (gw_c hw_1004 (gw_c hw_930 (gw_c hw_1043 (gw_c hw_1044 (gw_c hw_1045 (gw_c hw_1046 (gw_c hw_1047 (gw_c hw_1048 (gw_c hw_1049 (gw_c hw_1050 (gw_c hw_1035 (gw_c hw_1036 (gw_c hw_1037 (gw_c hw_1038 (gw_c hw_1051 (gw_c hw_1052 gw_n))))))))))))))))))))))))
set_option maxRecDepth 20000 in
theorem gT_wsX11_book_r3 : GoodIn lw_tbl wsX11_book_r3 := (gw_c hw_1053 (gw_c hw_1054 (gw_c hw_1055 (gw_c hw_1056 (gw_c hw_1057 (gw_c hw_1058 (gw_c hw_1072 (gw_c hw_1073 (gw_c hw_1074 gw_n)))))))))
set_option maxRecDepth 20000 in
theorem gT_wsX11_book : GoodIn lw_tbl wsX11_book := gw_c hw_1207 (goodIn_app (goodIn_app gT_wsX11_book_r1 (goodIn_app gT_wsX11_book_r2 gT_wsX11_book_r3)) gU_wsX110)
set_option maxRecDepth 20000 in
theorem gT_wsX11_fault : GoodIn lw_tbl wsX11_fault := gw_c hw_1210 (goodIn_app (gw_c hw_928 (gw_c hw_979 gw_n)) gU_wsX110)
set_option maxRecDepth 20000 in
theorem gT_wsX11_undo : GoodIn lw_tbl wsX11_undo := gw_c hw_1211 (goodIn_app (gw_c hw_928 (gw_c hw_1069 (gw_c hw_1113 (gw_c hw_1066 (gw_c hw_1070 (gw_c hw_1125 (gw_c hw_1126 (gw_c hw_983 (gw_c hw_1127 gw_n))))))))) gU_wsX110)
set_option maxRecDepth 20000 in
theorem gT_wsX11_told : GoodIn lw_tbl wsX11_told := gw_c hw_1212 (goodIn_app (gw_c hw_928 (gw_c hw_980 (gw_c hw_1066 (gw_c hw_1068 (gw_c hw_1070 (gw_c hw_981 (gw_c hw_982 (gw_c hw_983 (gw_c hw_984 (gw_c hw_985 (gw_c hw_986 (gw_c hw_987 (gw_c hw_988 (gw_c hw_989 (gw_c hw_1213 (gw_c hw_1214 (gw_c hw_1215 (gw_c hw_1216 (gw_c hw_1217 (gw_c hw_1218 (gw_c hw_1219 (gw_c hw_1201 (gw_c hw_1202 (gw_c hw_1203 gw_n)))))))))))))))))))))))) gU_wsX110)
set_option maxRecDepth 20000 in
theorem gT_wsX11_pane : GoodIn lw_tbl wsX11_pane := gw_c hw_1220 (goodIn_app (gw_c hw_928 (gw_c hw_1063 (gw_c hw_1066 (gw_c hw_1221 (gw_c hw_1222 (gw_c hw_1223 (gw_c hw_983 (gw_c hw_1224 (gw_c hw_980 (gw_c hw_981 (gw_c hw_982 (gw_c hw_984 (gw_c hw_985 (gw_c hw_986 (gw_c hw_987 (gw_c hw_988 (gw_c hw_989 (gw_c hw_1217 (gw_c hw_1218 (gw_c hw_1219 gw_n)))))))))))))))))))) gU_wsX110)
set_option maxRecDepth 20000 in
theorem gT_wsX11_shows_r1 : GoodIn lw_tbl wsX11_shows_r1 := (gw_c hw_928 (gw_c hw_1066 (gw_c hw_1226 (gw_c hw_1227 (gw_c hw_1228 (gw_c hw_983 (gw_c hw_1229 (gw_c hw_1221 (gw_c hw_1222 (gw_c hw_1223 (gw_c hw_1224 (gw_c hw_980 (gw_c hw_981 (gw_c hw_982 (gw_c hw_984 (gw_c hw_985 (gw_c hw_986 (gw_c hw_987 (gw_c hw_988 (gw_c hw_989 (gw_c hw_1144 (gw_c hw_1145 (gw_c hw_1146 (gw_c hw_1147 gw_n))))))))))))))))))))))))
set_option maxRecDepth 20000 in
theorem gT_wsX11_shows_r2 : GoodIn lw_tbl wsX11_shows_r2 := (gw_c hw_1063 (gw_c hw_1171 (gw_c hw_1172 (gw_c hw_1173 (gw_c hw_1157 (gw_c hw_1158 (gw_c hw_1159 gw_n)))))))
set_option maxRecDepth 20000 in
theorem gT_wsX11_shows : GoodIn lw_tbl wsX11_shows := gw_c hw_1225 (goodIn_app (goodIn_app gT_wsX11_shows_r1 gT_wsX11_shows_r2) gU_wsX110)
set_option maxRecDepth 20000 in
theorem gT_wsX11_deep_r1 : GoodIn lw_tbl wsX11_deep_r1 := (gw_c hw_928 (gw_c hw_1066 (gw_c hw_1226 (gw_c hw_1227 (gw_c hw_1228 (gw_c hw_983 (gw_c hw_1229 (gw_c hw_1221 (gw_c hw_1222 (gw_c hw_1223 (gw_c hw_1224 (gw_c hw_980 (gw_c hw_981 (gw_c hw_982 (gw_c hw_984 (gw_c hw_985 (gw_c hw_986 (gw_c hw_987 (gw_c hw_988 (gw_c hw_989 (gw_c hw_1144 (gw_c hw_1145 (gw_c hw_1146 (gw_c hw_1147 gw_n))))))))))))))))))))))))
set_option maxRecDepth 20000 in
theorem gT_wsX11_deep_r2 : GoodIn lw_tbl wsX11_deep_r2 := (gw_c hw_1063 (gw_c hw_1171 (gw_c hw_1172 (gw_c hw_1173 gw_n))))
set_option maxRecDepth 20000 in
theorem gT_wsX11_deep : GoodIn lw_tbl wsX11_deep := gw_c hw_1230 (goodIn_app (goodIn_app gT_wsX11_deep_r1 gT_wsX11_deep_r2) gU_wsX110)
set_option maxRecDepth 20000 in
theorem gT_wsX11_film_r1 : GoodIn lw_tbl wsX11_film_r1 := (gw_c hw_928 (gw_c hw_1066 (gw_c hw_1226 (gw_c hw_1227 (gw_c hw_1228 (gw_c hw_983 (gw_c hw_1229 (gw_c hw_1221 (gw_c hw_1222 (gw_c hw_1223 (gw_c hw_1224 (gw_c hw_980 (gw_c hw_981 (gw_c hw_982 (gw_c hw_984 (gw_c hw_985 (gw_c hw_986 (gw_c hw_987 (gw_c hw_988 (gw_c hw_989 (gw_c hw_1144 (gw_c hw_1145 (gw_c hw_1146 (gw_c hw_1147 gw_n))))))))))))))))))))))))
set_option maxRecDepth 20000 in
theorem gT_wsX11_film_r2 : GoodIn lw_tbl wsX11_film_r2 := (gw_c hw_1063 (gw_c hw_1171 (gw_c hw_1172 (gw_c hw_1173 (gw_c hw_1157 (gw_c hw_1158 (gw_c hw_1159 gw_n)))))))
set_option maxRecDepth 20000 in
theorem gT_wsX11_film : GoodIn lw_tbl wsX11_film := gw_c hw_1231 (goodIn_app (goodIn_app gT_wsX11_film_r1 gT_wsX11_film_r2) gU_wsX110)
set_option maxRecDepth 20000 in
theorem gT_wsX11_films : GoodIn lw_tbl wsX11_films := gw_c hw_1232 (goodIn_app (gw_c hw_928 (gw_c hw_1066 (gw_c hw_980 (gw_c hw_981 (gw_c hw_982 (gw_c hw_983 (gw_c hw_984 (gw_c hw_985 (gw_c hw_986 (gw_c hw_987 (gw_c hw_988 (gw_c hw_989 (gw_c hw_1233 (gw_c hw_1234 (gw_c hw_1235 gw_n))))))))))))))) gU_wsX110)
set_option maxRecDepth 20000 in
theorem gT_wsX11_have : GoodIn lw_tbl wsX11_have := gw_c hw_1236 (goodIn_app (gw_c hw_928 (gw_c hw_1066 (gw_c hw_1221 (gw_c hw_1222 (gw_c hw_1223 (gw_c hw_983 (gw_c hw_1224 (gw_c hw_980 (gw_c hw_981 (gw_c hw_982 (gw_c hw_984 (gw_c hw_985 (gw_c hw_986 (gw_c hw_987 (gw_c hw_988 (gw_c hw_989 (gw_c hw_1233 (gw_c hw_1234 (gw_c hw_1235 gw_n))))))))))))))))))) gU_wsX110)
set_option maxRecDepth 20000 in
theorem gT_wsX11_showing_r1 : GoodIn lw_tbl wsX11_showing_r1 := (gw_c hw_928 (gw_c hw_1066 (gw_c hw_1221 (gw_c hw_1222 (gw_c hw_1223 (gw_c hw_983 (gw_c hw_1224 (gw_c hw_980 (gw_c hw_981 (gw_c hw_982 (gw_c hw_984 (gw_c hw_985 (gw_c hw_986 (gw_c hw_987 (gw_c hw_988 (gw_c hw_989 (gw_c hw_1140 (gw_c hw_1141 (gw_c hw_1142 (gw_c hw_1143 (gw_c hw_1144 (gw_c hw_1145 (gw_c hw_1146 (gw_c hw_1147 gw_n))))))))))))))))))))))))
set_option maxRecDepth 20000 in
theorem gT_wsX11_showing_r2 : GoodIn lw_tbl wsX11_showing_r2 := (gw_c hw_1063 (gw_c hw_1157 (gw_c hw_1158 (gw_c hw_1159 gw_n))))
set_option maxRecDepth 20000 in
theorem gT_wsX11_showing : GoodIn lw_tbl wsX11_showing := gw_c hw_1237 (goodIn_app (goodIn_app gT_wsX11_showing_r1 gT_wsX11_showing_r2) gU_wsX110)
set_option maxRecDepth 20000 in
theorem gT_wsX11_settles_r1 : GoodIn lw_tbl wsX11_settles_r1 := (gw_c hw_928 (gw_c hw_1066 (gw_c hw_1226 (gw_c hw_1227 (gw_c hw_1228 (gw_c hw_983 (gw_c hw_1229 (gw_c hw_1221 (gw_c hw_1222 (gw_c hw_1223 (gw_c hw_1224 (gw_c hw_980 (gw_c hw_981 (gw_c hw_982 (gw_c hw_984 (gw_c hw_985 (gw_c hw_986 (gw_c hw_987 (gw_c hw_988 (gw_c hw_989 (gw_c hw_1144 (gw_c hw_1145 (gw_c hw_1146 (gw_c hw_1147 gw_n))))))))))))))))))))))))
set_option maxRecDepth 20000 in
theorem gT_wsX11_settles_r2 : GoodIn lw_tbl wsX11_settles_r2 := (gw_c hw_1063 (gw_c hw_1178 (gw_c hw_1179 (gw_c hw_1180 (gw_c hw_1181 (gw_c hw_1182 (gw_c hw_1183 (gw_c hw_1184 (gw_c hw_1185 (gw_c hw_1157 (gw_c hw_1158 (gw_c hw_1159 (gw_c hw_1186 (gw_c hw_1187 (gw_c hw_1188 (gw_c hw_1189 (gw_c hw_1067 (gw_c hw_1078 (gw_c hw_1190 (gw_c hw_1191 (gw_c hw_1192 (gw_c hw_1193 (gw_c hw_1154 (gw_c hw_1155 gw_n))))))))))))))))))))))))
set_option maxRecDepth 20000 in
theorem gT_wsX11_settles_r3 : GoodIn lw_tbl wsX11_settles_r3 := (gw_c hw_1156 (gw_c hw_1194 (gw_c hw_1195 (gw_c hw_1196 gw_n))))
set_option maxRecDepth 20000 in
theorem gT_wsX11_settles : GoodIn lw_tbl wsX11_settles := gw_c hw_1238 (goodIn_app (goodIn_app gT_wsX11_settles_r1 (goodIn_app gT_wsX11_settles_r2 gT_wsX11_settles_r3)) gU_wsX110)
set_option maxRecDepth 20000 in
theorem gT_wsX11_order_r1 : GoodIn lw_tbl wsX11_order_r1 := (gw_c hw_928 (gw_c hw_1064 (gw_c hw_1240 (gw_c hw_1241 (gw_c hw_1242 (gw_c hw_983 (gw_c hw_1243 (gw_c hw_980 (gw_c hw_981 (gw_c hw_982 (gw_c hw_984 (gw_c hw_985 (gw_c hw_986 (gw_c hw_987 (gw_c hw_988 (gw_c hw_989 (gw_c hw_1244 (gw_c hw_1245 (gw_c hw_1246 (gw_c hw_1247 (gw_c hw_1066 (gw_c hw_1183 (gw_c hw_1184 (gw_c hw_1185 gw_n))))))))))))))))))))))))
set_option maxRecDepth 20000 in
theorem gT_wsX11_order_r2 : GoodIn lw_tbl wsX11_order_r2 := (gw_c hw_1164 (gw_c hw_1165 (gw_c hw_1166 (gw_c hw_1167 (gw_c hw_1168 (gw_c hw_1169 (gw_c hw_1170 (gw_c hw_1171 (gw_c hw_1172 (gw_c hw_1173 (gw_c hw_1157 (gw_c hw_1158 (gw_c hw_1159 (gw_c hw_1233 (gw_c hw_1234 (gw_c hw_1235 gw_n))))))))))))))))
set_option maxRecDepth 20000 in
theorem gT_wsX11_order : GoodIn lw_tbl wsX11_order := gw_c hw_1239 (goodIn_app (goodIn_app gT_wsX11_order_r1 gT_wsX11_order_r2) gU_wsX110)
set_option maxRecDepth 20000 in
theorem gT_wsX11_needs_r1 : GoodIn lw_tbl wsX11_needs_r1 := (gw_c hw_928 (gw_c hw_1066 (gw_c hw_1064 (gw_c hw_1240 (gw_c hw_1241 (gw_c hw_1242 (gw_c hw_983 (gw_c hw_1243 (gw_c hw_980 (gw_c hw_981 (gw_c hw_982 (gw_c hw_984 (gw_c hw_985 (gw_c hw_986 (gw_c hw_987 (gw_c hw_988 (gw_c hw_989 (gw_c hw_1168 (gw_c hw_1169 (gw_c hw_1170 (gw_c hw_1171 (gw_c hw_1172 (gw_c hw_1173 (gw_c hw_1249 gw_n))))))))))))))))))))))))
set_option maxRecDepth 20000 in
theorem gT_wsX11_needs_r2 : GoodIn lw_tbl wsX11_needs_r2 := (gw_c hw_1250 (gw_c hw_1251 (gw_c hw_1157 (gw_c hw_1158 (gw_c hw_1159 gw_n)))))
set_option maxRecDepth 20000 in
theorem gT_wsX11_needs : GoodIn lw_tbl wsX11_needs := gw_c hw_1248 (goodIn_app (goodIn_app gT_wsX11_needs_r1 gT_wsX11_needs_r2) gU_wsX110)
set_option maxRecDepth 20000 in
theorem gT_wsX11_lost_r1 : GoodIn lw_tbl wsX11_lost_r1 := (gw_c hw_928 (gw_c hw_980 (gw_c hw_1244 (gw_c hw_1245 (gw_c hw_1246 (gw_c hw_983 (gw_c hw_1247 (gw_c hw_1066 (gw_c hw_1064 (gw_c hw_1183 (gw_c hw_1184 (gw_c hw_1185 (gw_c hw_1164 (gw_c hw_1165 (gw_c hw_1166 (gw_c hw_1167 (gw_c hw_1168 (gw_c hw_1169 (gw_c hw_1170 (gw_c hw_1171 (gw_c hw_1172 (gw_c hw_1173 (gw_c hw_1157 (gw_c hw_1158 gw_n))))))))))))))))))))))))
set_option maxRecDepth 20000 in
theorem gT_wsX11_lost_r2 : GoodIn lw_tbl wsX11_lost_r2 := (gw_c hw_1159 (gw_c hw_1233 (gw_c hw_1234 (gw_c hw_1235 gw_n))))
set_option maxRecDepth 20000 in
theorem gT_wsX11_lost : GoodIn lw_tbl wsX11_lost := gw_c hw_1252 (goodIn_app (goodIn_app gT_wsX11_lost_r1 gT_wsX11_lost_r2) gU_wsX110)
set_option maxRecDepth 20000 in
theorem gT_wsX11_cost_r1 : GoodIn lw_tbl wsX11_cost_r1 := (gw_c hw_928 (gw_c hw_1221 (gw_c hw_1222 (gw_c hw_1223 (gw_c hw_983 (gw_c hw_1224 (gw_c hw_980 (gw_c hw_981 (gw_c hw_982 (gw_c hw_984 (gw_c hw_985 (gw_c hw_986 (gw_c hw_987 (gw_c hw_988 (gw_c hw_989 (gw_c hw_1254 (gw_c hw_1255 (gw_c hw_1256 (gw_c hw_1257 (gw_c hw_1258 (gw_c hw_1259 (gw_c hw_1260 (gw_c hw_1261 (gw_c hw_1140 gw_n))))))))))))))))))))))))
set_option maxRecDepth 20000 in
theorem gT_wsX11_cost_r2 : GoodIn lw_tbl wsX11_cost_r2 := (gw_c hw_1141 (gw_c hw_1142 (gw_c hw_1143 (gw_c hw_1144 (gw_c hw_1145 (gw_c hw_1146 (gw_c hw_1147 (gw_c hw_1063 (gw_c hw_1262 (gw_c hw_1263 (gw_c hw_1264 (gw_c hw_1265 (gw_c hw_1066 (gw_c hw_1183 (gw_c hw_1184 (gw_c hw_1185 (gw_c hw_1249 (gw_c hw_1250 (gw_c hw_1251 (gw_c hw_1157 (gw_c hw_1158 (gw_c hw_1159 gw_n))))))))))))))))))))))
set_option maxRecDepth 20000 in
theorem gT_wsX11_cost : GoodIn lw_tbl wsX11_cost := gw_c hw_1253 (goodIn_app (goodIn_app gT_wsX11_cost_r1 gT_wsX11_cost_r2) gU_wsX110)
set_option maxRecDepth 20000 in
theorem gT_wsX11_view_r1 : GoodIn lw_tbl wsX11_view_r1 := (gw_c hw_928 (gw_c hw_1221 (gw_c hw_1222 (gw_c hw_1223 (gw_c hw_983 (gw_c hw_1224 (gw_c hw_980 (gw_c hw_981 (gw_c hw_982 (gw_c hw_984 (gw_c hw_985 (gw_c hw_986 (gw_c hw_987 (gw_c hw_988 (gw_c hw_989 (gw_c hw_1254 (gw_c hw_1255 (gw_c hw_1256 (gw_c hw_1257 (gw_c hw_1258 (gw_c hw_1259 (gw_c hw_1260 (gw_c hw_1261 (gw_c hw_1140 gw_n))))))))))))))))))))))))
set_option maxRecDepth 20000 in
theorem gT_wsX11_view_r2 : GoodIn lw_tbl wsX11_view_r2 := (gw_c hw_1141 (gw_c hw_1142 (gw_c hw_1143 (gw_c hw_1144 (gw_c hw_1145 (gw_c hw_1146 (gw_c hw_1147 (gw_c hw_1063 (gw_c hw_1262 (gw_c hw_1263 (gw_c hw_1264 (gw_c hw_1265 (gw_c hw_1066 (gw_c hw_1183 (gw_c hw_1184 (gw_c hw_1185 (gw_c hw_1249 (gw_c hw_1250 (gw_c hw_1251 (gw_c hw_1157 (gw_c hw_1158 (gw_c hw_1159 gw_n))))))))))))))))))))))
set_option maxRecDepth 20000 in
theorem gT_wsX11_view : GoodIn lw_tbl wsX11_view := gw_c hw_1266 (goodIn_app (goodIn_app gT_wsX11_view_r1 gT_wsX11_view_r2) gU_wsX110)
set_option maxRecDepth 20000 in
theorem gT_wsX11_seams_r1 : GoodIn lw_tbl wsX11_seams_r1 := (gw_c hw_928 (gw_c hw_1066 (gw_c hw_1221 (gw_c hw_1222 (gw_c hw_1223 (gw_c hw_983 (gw_c hw_1224 (gw_c hw_980 (gw_c hw_981 (gw_c hw_982 (gw_c hw_984 (gw_c hw_985 (gw_c hw_986 (gw_c hw_987 (gw_c hw_988 (gw_c hw_989 (gw_c hw_1268 (gw_c hw_1269 (gw_c hw_1270 (gw_c hw_1271 (gw_c hw_1157 (gw_c hw_1158 (gw_c hw_1159 (gw_c hw_1140 gw_n))))))))))))))))))))))))
set_option maxRecDepth 20000 in
theorem gT_wsX11_seams_r2 : GoodIn lw_tbl wsX11_seams_r2 := (gw_c hw_1141 (gw_c hw_1142 (gw_c hw_1143 (gw_c hw_1144 (gw_c hw_1145 (gw_c hw_1146 (gw_c hw_1147 (gw_c hw_1063 gw_n))))))))
set_option maxRecDepth 20000 in
theorem gT_wsX11_seams : GoodIn lw_tbl wsX11_seams := gw_c hw_1267 (goodIn_app (goodIn_app gT_wsX11_seams_r1 gT_wsX11_seams_r2) gU_wsX110)
set_option maxRecDepth 20000 in
theorem gT_wsX11_sights : GoodIn lw_tbl wsX11_sights := gw_c hw_1272 (goodIn_app (gw_c hw_928 (gw_c hw_1066 (gw_c hw_1221 (gw_c hw_1222 (gw_c hw_1223 (gw_c hw_983 (gw_c hw_1224 (gw_c hw_980 (gw_c hw_981 (gw_c hw_982 (gw_c hw_984 (gw_c hw_985 (gw_c hw_986 (gw_c hw_987 (gw_c hw_988 (gw_c hw_989 (gw_c hw_1273 (gw_c hw_1274 (gw_c hw_1275 (gw_c hw_1157 (gw_c hw_1158 (gw_c hw_1159 gw_n)))))))))))))))))))))) gU_wsX110)
set_option maxRecDepth 20000 in
theorem gT_wsX11_alike_r1 : GoodIn lw_tbl wsX11_alike_r1 := (gw_c hw_928 (gw_c hw_1066 (gw_c hw_1221 (gw_c hw_1222 (gw_c hw_1223 (gw_c hw_983 (gw_c hw_1224 (gw_c hw_980 (gw_c hw_981 (gw_c hw_982 (gw_c hw_984 (gw_c hw_985 (gw_c hw_986 (gw_c hw_987 (gw_c hw_988 (gw_c hw_989 (gw_c hw_1140 (gw_c hw_1141 (gw_c hw_1142 (gw_c hw_1143 (gw_c hw_1144 (gw_c hw_1145 (gw_c hw_1146 (gw_c hw_1147 gw_n))))))))))))))))))))))))
set_option maxRecDepth 20000 in
theorem gT_wsX11_alike_r2 : GoodIn lw_tbl wsX11_alike_r2 := (gw_c hw_1063 (gw_c hw_1157 (gw_c hw_1158 (gw_c hw_1159 gw_n))))
set_option maxRecDepth 20000 in
theorem gT_wsX11_alike : GoodIn lw_tbl wsX11_alike := gw_c hw_1276 (goodIn_app (goodIn_app gT_wsX11_alike_r1 gT_wsX11_alike_r2) gU_wsX110)
set_option maxRecDepth 20000 in
theorem gT_wsX11_oldest : GoodIn lw_tbl wsX11_oldest := gw_c hw_1277 (goodIn_app (gw_c hw_928 (gw_c hw_1066 (gw_c hw_1221 (gw_c hw_1222 (gw_c hw_1223 (gw_c hw_983 (gw_c hw_1224 (gw_c hw_980 (gw_c hw_981 (gw_c hw_982 (gw_c hw_984 (gw_c hw_985 (gw_c hw_986 (gw_c hw_987 (gw_c hw_988 (gw_c hw_989 (gw_c hw_1233 (gw_c hw_1234 (gw_c hw_1235 (gw_c hw_1157 (gw_c hw_1158 (gw_c hw_1159 gw_n)))))))))))))))))))))) gU_wsX110)
set_option maxRecDepth 20000 in
theorem gT_wsX11_thick : GoodIn lw_tbl wsX11_thick := gw_c hw_1278 (goodIn_app (gw_c hw_928 (gw_c hw_980 (gw_c hw_1066 gw_n))) gU_wsX110)
set_option maxRecDepth 20000 in
theorem gT_wsX11_patch_r1 : GoodIn lw_tbl wsX11_patch_r1 := (gw_c hw_928 (gw_c hw_1066 (gw_c hw_1221 (gw_c hw_1222 (gw_c hw_1223 (gw_c hw_983 (gw_c hw_1224 (gw_c hw_980 (gw_c hw_981 (gw_c hw_982 (gw_c hw_984 (gw_c hw_985 (gw_c hw_986 (gw_c hw_987 (gw_c hw_988 (gw_c hw_989 (gw_c hw_1157 (gw_c hw_1158 (gw_c hw_1159 (gw_c hw_1280 (gw_c hw_1281 (gw_c hw_1282 (gw_c hw_1283 (gw_c hw_1140 gw_n))))))))))))))))))))))))
set_option maxRecDepth 20000 in
theorem gT_wsX11_patch_r2 : GoodIn lw_tbl wsX11_patch_r2 := (gw_c hw_1141 (gw_c hw_1142 (gw_c hw_1143 (gw_c hw_1144 (gw_c hw_1145 (gw_c hw_1146 (gw_c hw_1147 (gw_c hw_1063 (gw_c hw_1183 (gw_c hw_1184 (gw_c hw_1185 (gw_c hw_1148 (gw_c hw_1149 (gw_c hw_1150 gw_n))))))))))))))
set_option maxRecDepth 20000 in
theorem gT_wsX11_patch : GoodIn lw_tbl wsX11_patch := gw_c hw_1279 (goodIn_app (goodIn_app gT_wsX11_patch_r1 gT_wsX11_patch_r2) gU_wsX110)
set_option maxRecDepth 20000 in
theorem gT_wsX11_tells_r1 : GoodIn lw_tbl wsX11_tells_r1 := (gw_c hw_928 (gw_c hw_1221 (gw_c hw_1222 (gw_c hw_1223 (gw_c hw_983 (gw_c hw_1224 (gw_c hw_980 (gw_c hw_981 (gw_c hw_982 (gw_c hw_984 (gw_c hw_985 (gw_c hw_986 (gw_c hw_987 (gw_c hw_988 (gw_c hw_989 (gw_c hw_1285 (gw_c hw_1286 (gw_c hw_1287 (gw_c hw_1288 (gw_c hw_1289 (gw_c hw_1290 (gw_c hw_1291 (gw_c hw_1292 (gw_c hw_1068 gw_n))))))))))))))))))))))))
set_option maxRecDepth 20000 in
theorem gT_wsX11_tells_r2 : GoodIn lw_tbl wsX11_tells_r2 := (gw_c hw_1209 (gw_c hw_1066 (gw_c hw_1144 (gw_c hw_1145 (gw_c hw_1146 (gw_c hw_1147 (gw_c hw_1063 (gw_c hw_1171 (gw_c hw_1172 (gw_c hw_1173 (gw_c hw_1157 (gw_c hw_1158 (gw_c hw_1159 gw_n)))))))))))))
set_option maxRecDepth 20000 in
theorem gT_wsX11_tells : GoodIn lw_tbl wsX11_tells := gw_c hw_1284 (goodIn_app (goodIn_app gT_wsX11_tells_r1 gT_wsX11_tells_r2) gU_wsX110)
set_option maxRecDepth 20000 in
theorem gT_wsX11_look_r1 : GoodIn lw_tbl wsX11_look_r1 := (gw_c hw_928 (gw_c hw_1221 (gw_c hw_1222 (gw_c hw_1223 (gw_c hw_983 (gw_c hw_1224 (gw_c hw_980 (gw_c hw_981 (gw_c hw_982 (gw_c hw_984 (gw_c hw_985 (gw_c hw_986 (gw_c hw_987 (gw_c hw_988 (gw_c hw_989 (gw_c hw_1285 (gw_c hw_1286 (gw_c hw_1287 (gw_c hw_1288 (gw_c hw_1289 (gw_c hw_1290 (gw_c hw_1291 (gw_c hw_1292 (gw_c hw_1068 gw_n))))))))))))))))))))))))
set_option maxRecDepth 20000 in
theorem gT_wsX11_look_r2 : GoodIn lw_tbl wsX11_look_r2 := (gw_c hw_1209 (gw_c hw_1066 (gw_c hw_1144 (gw_c hw_1145 (gw_c hw_1146 (gw_c hw_1147 (gw_c hw_1063 (gw_c hw_1171 (gw_c hw_1172 (gw_c hw_1173 (gw_c hw_1157 (gw_c hw_1158 (gw_c hw_1159 (gw_c hw_1140 (gw_c hw_1141 (gw_c hw_1142 (gw_c hw_1143 (gw_c hw_1294 (gw_c hw_1295 (gw_c hw_1296 (gw_c hw_1297 (gw_c hw_1298 (gw_c hw_1299 (gw_c hw_1300 gw_n))))))))))))))))))))))))
set_option maxRecDepth 20000 in
theorem gT_wsX11_look_r3 : GoodIn lw_tbl wsX11_look_r3 := (gw_c hw_1301 (gw_c hw_1183 (gw_c hw_1184 (gw_c hw_1185 (gw_c hw_1194 (gw_c hw_1195 (gw_c hw_1196 gw_n)))))))
set_option maxRecDepth 20000 in
theorem gT_wsX11_look : GoodIn lw_tbl wsX11_look := gw_c hw_1293 (goodIn_app (goodIn_app gT_wsX11_look_r1 (goodIn_app gT_wsX11_look_r2 gT_wsX11_look_r3)) gU_wsX110)
set_option maxRecDepth 20000 in
theorem gT_wsX11_cover_r1 : GoodIn lw_tbl wsX11_cover_r1 := (gw_c hw_928 (gw_c hw_1303 (gw_c hw_1221 (gw_c hw_1222 (gw_c hw_1223 (gw_c hw_983 (gw_c hw_1224 (gw_c hw_980 (gw_c hw_981 (gw_c hw_982 (gw_c hw_984 (gw_c hw_985 (gw_c hw_986 (gw_c hw_987 (gw_c hw_988 (gw_c hw_989 (gw_c hw_1254 (gw_c hw_1255 (gw_c hw_1256 (gw_c hw_1257 (gw_c hw_1258 (gw_c hw_1259 (gw_c hw_1260 (gw_c hw_1261 gw_n))))))))))))))))))))))))
set_option maxRecDepth 20000 in
theorem gT_wsX11_cover_r2 : GoodIn lw_tbl wsX11_cover_r2 := (gw_c hw_1140 (gw_c hw_1141 (gw_c hw_1142 (gw_c hw_1143 (gw_c hw_1144 (gw_c hw_1145 (gw_c hw_1146 (gw_c hw_1147 (gw_c hw_1063 (gw_c hw_1304 (gw_c hw_1305 (gw_c hw_1306 (gw_c hw_1307 (gw_c hw_1308 (gw_c hw_1309 (gw_c hw_1310 (gw_c hw_1311 (gw_c hw_1148 (gw_c hw_1149 (gw_c hw_1150 gw_n))))))))))))))))))))
set_option maxRecDepth 20000 in
theorem gT_wsX11_cover : GoodIn lw_tbl wsX11_cover := gw_c hw_1302 (goodIn_app (goodIn_app gT_wsX11_cover_r1 gT_wsX11_cover_r2) gU_wsX110)
set_option maxRecDepth 20000 in
theorem gT_wsX11_game : GoodIn lw_tbl wsX11_game := gw_c hw_1312 (goodIn_app (gw_c hw_928 (gw_c hw_1066 (gw_c hw_1221 (gw_c hw_1222 (gw_c hw_1223 (gw_c hw_983 (gw_c hw_1224 (gw_c hw_980 (gw_c hw_981 (gw_c hw_982 (gw_c hw_984 (gw_c hw_985 (gw_c hw_986 (gw_c hw_987 (gw_c hw_988 (gw_c hw_989 gw_n)))))))))))))))) gU_wsX110)
set_option maxRecDepth 20000 in
theorem gT_wsX11_round_r1 : GoodIn lw_tbl wsX11_round_r1 := (gw_c hw_928 (gw_c hw_1314 (gw_c hw_1315 (gw_c hw_1316 (gw_c hw_1317 (gw_c hw_1318 (gw_c hw_983 (gw_c hw_1319 (gw_c hw_980 (gw_c hw_981 (gw_c hw_982 (gw_c hw_984 (gw_c hw_985 (gw_c hw_986 (gw_c hw_987 (gw_c hw_988 (gw_c hw_989 (gw_c hw_1320 (gw_c hw_1321 (gw_c hw_1322 (gw_c hw_1323 (gw_c hw_1064 (gw_c hw_1183 (gw_c hw_1184 gw_n))))))))))))))))))))))))
set_option maxRecDepth 20000 in
theorem gT_wsX11_round_r2 : GoodIn lw_tbl wsX11_round_r2 := (gw_c hw_1185 (gw_c hw_1324 (gw_c hw_1325 (gw_c hw_1326 (gw_c hw_1327 (gw_c hw_1328 (gw_c hw_1329 (gw_c hw_1330 (gw_c hw_1331 (gw_c hw_1063 (gw_c hw_1148 (gw_c hw_1149 (gw_c hw_1150 gw_n)))))))))))))
set_option maxRecDepth 20000 in
theorem gT_wsX11_round : GoodIn lw_tbl wsX11_round := gw_c hw_1313 (goodIn_app (goodIn_app gT_wsX11_round_r1 gT_wsX11_round_r2) gU_wsX110)
set_option maxRecDepth 20000 in
theorem gT_wsX11_by_r1 : GoodIn lw_tbl wsX11_by_r1 := (gw_c hw_928 (gw_c hw_980 (gw_c hw_1064 (gw_c hw_1066 (gw_c hw_1316 (gw_c hw_1317 (gw_c hw_1318 (gw_c hw_983 (gw_c hw_1319 (gw_c hw_981 (gw_c hw_982 (gw_c hw_984 (gw_c hw_985 (gw_c hw_986 (gw_c hw_987 (gw_c hw_988 (gw_c hw_989 (gw_c hw_1183 (gw_c hw_1184 (gw_c hw_1185 (gw_c hw_1320 (gw_c hw_1321 (gw_c hw_1322 (gw_c hw_1323 gw_n))))))))))))))))))))))))
set_option maxRecDepth 20000 in
theorem gT_wsX11_by_r2 : GoodIn lw_tbl wsX11_by_r2 := (gw_c hw_1333 (gw_c hw_1334 (gw_c hw_1335 (gw_c hw_1336 (gw_c hw_1328 (gw_c hw_1329 (gw_c hw_1330 (gw_c hw_1331 (gw_c hw_1063 (gw_c hw_1148 (gw_c hw_1149 (gw_c hw_1150 gw_n))))))))))))
set_option maxRecDepth 20000 in
theorem gT_wsX11_by : GoodIn lw_tbl wsX11_by := gw_c hw_1332 (goodIn_app (goodIn_app gT_wsX11_by_r1 gT_wsX11_by_r2) gU_wsX110)
set_option maxRecDepth 20000 in
theorem gT_wsX11_share_r1 : GoodIn lw_tbl wsX11_share_r1 := (gw_c hw_928 (gw_c hw_1066 (gw_c hw_1226 (gw_c hw_1227 (gw_c hw_1228 (gw_c hw_983 (gw_c hw_1229 (gw_c hw_1221 (gw_c hw_1222 (gw_c hw_1223 (gw_c hw_1224 (gw_c hw_980 (gw_c hw_981 (gw_c hw_982 (gw_c hw_984 (gw_c hw_985 (gw_c hw_986 (gw_c hw_987 (gw_c hw_988 (gw_c hw_989 (gw_c hw_1144 (gw_c hw_1145 (gw_c hw_1146 (gw_c hw_1147 gw_n))))))))))))))))))))))))
set_option maxRecDepth 20000 in
theorem gT_wsX11_share_r2 : GoodIn lw_tbl wsX11_share_r2 := (gw_c hw_1063 (gw_c hw_1217 (gw_c hw_1218 (gw_c hw_1219 (gw_c hw_1171 (gw_c hw_1172 (gw_c hw_1173 gw_n)))))))
set_option maxRecDepth 20000 in
theorem gT_wsX11_share : GoodIn lw_tbl wsX11_share := gw_c hw_1337 (goodIn_app (goodIn_app gT_wsX11_share_r1 gT_wsX11_share_r2) gU_wsX110)
set_option maxRecDepth 20000 in
theorem gT_wsX11_ahead_r1 : GoodIn lw_tbl wsX11_ahead_r1 := (gw_c hw_928 (gw_c hw_1066 (gw_c hw_1339 (gw_c hw_1221 (gw_c hw_1222 (gw_c hw_1223 (gw_c hw_983 (gw_c hw_1224 (gw_c hw_980 (gw_c hw_981 (gw_c hw_982 (gw_c hw_984 (gw_c hw_985 (gw_c hw_986 (gw_c hw_987 (gw_c hw_988 (gw_c hw_989 (gw_c hw_1125 (gw_c hw_1126 (gw_c hw_1127 (gw_c hw_1160 (gw_c hw_1161 (gw_c hw_1162 (gw_c hw_1163 gw_n))))))))))))))))))))))))
set_option maxRecDepth 20000 in
theorem gT_wsX11_ahead_r2 : GoodIn lw_tbl wsX11_ahead_r2 := (gw_c hw_1064 (gw_c hw_1164 (gw_c hw_1165 (gw_c hw_1166 (gw_c hw_1167 (gw_c hw_1168 (gw_c hw_1169 (gw_c hw_1170 (gw_c hw_1171 (gw_c hw_1172 (gw_c hw_1173 (gw_c hw_1157 (gw_c hw_1158 (gw_c hw_1159 (gw_c hw_1174 (gw_c hw_1175 (gw_c hw_1176 (gw_c hw_1177 (gw_c hw_1065 (gw_c hw_1151 (gw_c hw_1152 (gw_c hw_1153 (gw_c hw_1154 (gw_c hw_1155 gw_n))))))))))))))))))))))))
set_option maxRecDepth 20000 in
theorem gT_wsX11_ahead_r3 : GoodIn lw_tbl wsX11_ahead_r3 := (gw_c hw_1156 (gw_c hw_1140 (gw_c hw_1141 (gw_c hw_1142 (gw_c hw_1143 (gw_c hw_1144 (gw_c hw_1145 (gw_c hw_1146 (gw_c hw_1147 (gw_c hw_1063 (gw_c hw_1178 (gw_c hw_1179 (gw_c hw_1180 (gw_c hw_1181 (gw_c hw_1182 (gw_c hw_1183 (gw_c hw_1184 (gw_c hw_1185 (gw_c hw_1186 (gw_c hw_1187 (gw_c hw_1188 (gw_c hw_1189 (gw_c hw_1067 (gw_c hw_1078 gw_n))))))))))))))))))))))))
set_option maxRecDepth 20000 in
theorem gT_wsX11_ahead_r4 : GoodIn lw_tbl wsX11_ahead_r4 := (gw_c hw_1190 (gw_c hw_1191 (gw_c hw_1192 (gw_c hw_1193 (gw_c hw_1194 (gw_c hw_1195 (gw_c hw_1196 (gw_c hw_1197 (gw_c hw_1198 (gw_c hw_1199 (gw_c hw_1200 (gw_c hw_1217 (gw_c hw_1218 (gw_c hw_1219 (gw_c hw_1268 (gw_c hw_1269 (gw_c hw_1270 (gw_c hw_1271 (gw_c hw_1273 (gw_c hw_1274 (gw_c hw_1275 gw_n)))))))))))))))))))))
set_option maxRecDepth 20000 in
theorem gT_wsX11_ahead : GoodIn lw_tbl wsX11_ahead := gw_c hw_1338 (goodIn_app (goodIn_app gT_wsX11_ahead_r1 (goodIn_app gT_wsX11_ahead_r2 (goodIn_app gT_wsX11_ahead_r3 gT_wsX11_ahead_r4))) gU_wsX110)
set_option maxRecDepth 20000 in
theorem gT_wsX11_decade_r1 : GoodIn lw_tbl wsX11_decade_r1 := (gw_c hw_928 (gw_c hw_1339 (gw_c hw_1066 (gw_c hw_981 (gw_c hw_982 (gw_c hw_983 (gw_c hw_984 (gw_c hw_985 (gw_c hw_986 (gw_c hw_987 (gw_c hw_988 (gw_c hw_989 (gw_c hw_1341 (gw_c hw_1342 (gw_c hw_1343 (gw_c hw_1344 (gw_c hw_1345 (gw_c hw_980 (gw_c hw_1346 (gw_c hw_1125 (gw_c hw_1126 (gw_c hw_1127 (gw_c hw_1183 (gw_c hw_1184 gw_n))))))))))))))))))))))))
set_option maxRecDepth 20000 in
theorem gT_wsX11_decade_r2 : GoodIn lw_tbl wsX11_decade_r2 := (gw_c hw_1185 (gw_c hw_1204 (gw_c hw_1205 (gw_c hw_1206 (gw_c hw_1160 (gw_c hw_1161 (gw_c hw_1162 (gw_c hw_1163 (gw_c hw_1064 (gw_c hw_1164 (gw_c hw_1165 (gw_c hw_1166 (gw_c hw_1167 (gw_c hw_1168 (gw_c hw_1169 (gw_c hw_1170 (gw_c hw_1171 (gw_c hw_1172 (gw_c hw_1173 (gw_c hw_1157 (gw_c hw_1158 (gw_c hw_1159 (gw_c hw_1174 (gw_c hw_1175 gw_n))))))))))))))))))))))))
set_option maxRecDepth 20000 in
theorem gT_wsX11_decade_r3 : GoodIn lw_tbl wsX11_decade_r3 := (gw_c hw_1176 (gw_c hw_1177 (gw_c hw_1065 (gw_c hw_1151 (gw_c hw_1152 (gw_c hw_1153 (gw_c hw_1154 (gw_c hw_1155 (gw_c hw_1156 (gw_c hw_1140 (gw_c hw_1141 (gw_c hw_1142 (gw_c hw_1143 (gw_c hw_1144 (gw_c hw_1145 (gw_c hw_1146 (gw_c hw_1147 (gw_c hw_1063 (gw_c hw_1178 (gw_c hw_1179 (gw_c hw_1180 (gw_c hw_1181 (gw_c hw_1182 (gw_c hw_1186 gw_n))))))))))))))))))))))))
set_option maxRecDepth 20000 in
theorem gT_wsX11_decade_r4 : GoodIn lw_tbl wsX11_decade_r4 := (gw_c hw_1187 (gw_c hw_1188 (gw_c hw_1189 (gw_c hw_1067 (gw_c hw_1078 (gw_c hw_1190 (gw_c hw_1191 (gw_c hw_1192 (gw_c hw_1193 (gw_c hw_1194 (gw_c hw_1195 (gw_c hw_1196 (gw_c hw_1197 (gw_c hw_1198 (gw_c hw_1199 (gw_c hw_1200 (gw_c hw_1213 (gw_c hw_1214 (gw_c hw_1215 (gw_c hw_1216 (gw_c hw_1217 (gw_c hw_1218 (gw_c hw_1219 (gw_c hw_1347 gw_n))))))))))))))))))))))))
set_option maxRecDepth 20000 in
theorem gT_wsX11_decade_r5 : GoodIn lw_tbl wsX11_decade_r5 := (gw_c hw_1348 (gw_c hw_1349 gw_n))
set_option maxRecDepth 20000 in
theorem gT_wsX11_decade : GoodIn lw_tbl wsX11_decade := gw_c hw_1340 (goodIn_app (goodIn_app gT_wsX11_decade_r1 (goodIn_app gT_wsX11_decade_r2 (goodIn_app gT_wsX11_decade_r3 (goodIn_app gT_wsX11_decade_r4 gT_wsX11_decade_r5)))) gU_wsX110)
set_option maxRecDepth 20000 in
theorem gT_wsX11_span_r1 : GoodIn lw_tbl wsX11_span_r1 := (gw_c hw_928 (gw_c hw_1339 (gw_c hw_981 (gw_c hw_982 (gw_c hw_983 (gw_c hw_984 (gw_c hw_1221 (gw_c hw_1222 (gw_c hw_1223 (gw_c hw_1224 (gw_c hw_980 (gw_c hw_985 (gw_c hw_986 (gw_c hw_987 (gw_c hw_988 (gw_c hw_989 (gw_c hw_1341 (gw_c hw_1342 (gw_c hw_1343 (gw_c hw_1344 (gw_c hw_1066 (gw_c hw_1345 (gw_c hw_1346 (gw_c hw_1125 gw_n))))))))))))))))))))))))
set_option maxRecDepth 20000 in
theorem gT_wsX11_span_r2 : GoodIn lw_tbl wsX11_span_r2 := (gw_c hw_1126 (gw_c hw_1127 (gw_c hw_1183 (gw_c hw_1184 (gw_c hw_1185 (gw_c hw_1204 (gw_c hw_1205 (gw_c hw_1206 (gw_c hw_1160 (gw_c hw_1161 (gw_c hw_1162 (gw_c hw_1163 (gw_c hw_1064 (gw_c hw_1164 (gw_c hw_1165 (gw_c hw_1166 (gw_c hw_1167 (gw_c hw_1168 (gw_c hw_1169 (gw_c hw_1170 (gw_c hw_1171 (gw_c hw_1172 (gw_c hw_1173 (gw_c hw_1157 gw_n))))))))))))))))))))))))
set_option maxRecDepth 20000 in
theorem gT_wsX11_span_r3 : GoodIn lw_tbl wsX11_span_r3 := (gw_c hw_1158 (gw_c hw_1159 (gw_c hw_1174 (gw_c hw_1175 (gw_c hw_1176 (gw_c hw_1177 (gw_c hw_1065 (gw_c hw_1151 (gw_c hw_1152 (gw_c hw_1153 (gw_c hw_1154 (gw_c hw_1155 (gw_c hw_1156 (gw_c hw_1140 (gw_c hw_1141 (gw_c hw_1142 (gw_c hw_1143 (gw_c hw_1144 (gw_c hw_1145 (gw_c hw_1146 (gw_c hw_1147 (gw_c hw_1063 (gw_c hw_1178 (gw_c hw_1179 gw_n))))))))))))))))))))))))
set_option maxRecDepth 20000 in
theorem gT_wsX11_span_r4 : GoodIn lw_tbl wsX11_span_r4 := (gw_c hw_1180 (gw_c hw_1181 (gw_c hw_1182 (gw_c hw_1186 (gw_c hw_1187 (gw_c hw_1188 (gw_c hw_1189 (gw_c hw_1067 (gw_c hw_1078 (gw_c hw_1190 (gw_c hw_1191 (gw_c hw_1192 (gw_c hw_1193 (gw_c hw_1194 (gw_c hw_1195 (gw_c hw_1196 (gw_c hw_1197 (gw_c hw_1198 (gw_c hw_1199 (gw_c hw_1200 (gw_c hw_1213 (gw_c hw_1214 (gw_c hw_1215 (gw_c hw_1216 gw_n))))))))))))))))))))))))
set_option maxRecDepth 20000 in
theorem gT_wsX11_span_r5 : GoodIn lw_tbl wsX11_span_r5 := (gw_c hw_1217 (gw_c hw_1218 (gw_c hw_1219 gw_n)))
set_option maxRecDepth 20000 in
theorem gT_wsX11_span : GoodIn lw_tbl wsX11_span := gw_c hw_1350 (goodIn_app (goodIn_app gT_wsX11_span_r1 (goodIn_app gT_wsX11_span_r2 (goodIn_app gT_wsX11_span_r3 (goodIn_app gT_wsX11_span_r4 gT_wsX11_span_r5)))) gU_wsX110)
set_option maxRecDepth 20000 in
theorem gT_wsX11_image : GoodIn lw_tbl wsX11_image := gw_c hw_1351 (goodIn_app (gw_c hw_928 (gw_c hw_1071 (gw_c hw_1352 (gw_c hw_1353 (gw_c hw_1354 (gw_c hw_1355 (gw_c hw_983 (gw_c hw_1356 (gw_c hw_1357 (gw_c hw_1069 (gw_c hw_1066 (gw_c hw_1113 (gw_c hw_1358 (gw_c hw_1359 (gw_c hw_1360 (gw_c hw_1361 gw_n)))))))))))))))) gU_wsX110)
set_option maxRecDepth 20000 in
theorem gT_wsX11_restore : GoodIn lw_tbl wsX11_restore := gw_c hw_1362 (goodIn_app (gw_c hw_928 (gw_c hw_1071 (gw_c hw_1352 (gw_c hw_1070 (gw_c hw_1353 (gw_c hw_1354 (gw_c hw_1355 (gw_c hw_983 (gw_c hw_1356 (gw_c hw_1357 (gw_c hw_1069 (gw_c hw_1066 (gw_c hw_1113 (gw_c hw_1358 (gw_c hw_1359 (gw_c hw_1360 (gw_c hw_1361 gw_n))))))))))))))))) gU_wsX110)
set_option maxRecDepth 20000 in
theorem gT_wsX11_status : GoodIn lw_tbl wsX11_status := gw_c hw_1363 (goodIn_app (gw_c hw_928 (gw_c hw_989 (gw_c hw_981 (gw_c hw_982 (gw_c hw_983 (gw_c hw_984 gw_n)))))) gU_wsX110)
set_option maxRecDepth 20000 in
theorem gT_wsX11_count : GoodIn lw_tbl wsX11_count := gw_c hw_1364 (goodIn_app (gw_c hw_928 (gw_c hw_1071 (gw_c hw_929 (gw_c hw_1069 gw_n)))) gU_wsX110)
set_option maxRecDepth 20000 in
theorem gT_wsX11_thrown : GoodIn lw_tbl wsX11_thrown := gw_c hw_1365 (goodIn_app (gw_c hw_928 gw_n) gU_wsX110)
set_option maxRecDepth 20000 in
theorem gT_wsX11_init_r1 : GoodIn lw_tbl wsX11_init_r1 := (gw_c hw_1367 (gw_c hw_365 (gw_c hw_366 (gw_c hw_979 (gw_c hw_367 (gw_c hw_930 (gw_c hw_989 (gw_c hw_1009 (gw_c hw_980 (gw_c hw_1368 (gw_c hw_1014 (gw_c hw_1063 (gw_c hw_1016 (gw_c hw_1065 (gw_c hw_1015 (gw_c hw_1064 (gw_c hw_1078 (gw_c hw_1077 (gw_c hw_1209 (gw_c hw_1208 (gw_c hw_1190 (gw_c hw_1182 (gw_c hw_1120 (gw_c hw_1066 gw_n))))))))))))))))))))))))
set_option maxRecDepth 20000 in
theorem gT_wsX11_init_r2 : GoodIn lw_tbl wsX11_init_r2 := (gw_c hw_1339 (gw_c hw_1113 (gw_c hw_1352 (gw_c hw_1005 (gw_c hw_1006 (gw_c hw_1007 (gw_c hw_983 (gw_c hw_1008 (gw_c hw_1059 (gw_c hw_1060 (gw_c hw_1061 (gw_c hw_1062 (gw_c hw_1067 (gw_c hw_1068 (gw_c hw_1069 (gw_c hw_1070 (gw_c hw_1071 (gw_c hw_1072 (gw_c hw_1073 (gw_c hw_1074 gw_n))))))))))))))))))))
set_option maxRecDepth 20000 in
theorem gT_wsX11_init : GoodIn lw_tbl wsX11_init := gw_c hw_1366 (goodIn_app (goodIn_app gT_wsX11_init_r1 gT_wsX11_init_r2) gU_wsX110)
set_option maxRecDepth 20000 in
theorem gT_wsX10_feed : GoodIn lw_tbl wsX10_feed := gw_c hw_1369 (goodIn_app (goodIn_app (gw_c hw_8 (gw_c hw_9 (gw_c hw_1370 (gw_c hw_1371 (gw_c hw_1372 (gw_c hw_32 (gw_c hw_1373 (gw_c hw_1374 (gw_c hw_1375 (gw_c hw_1376 (gw_c hw_1377 (gw_c hw_1378 (gw_c hw_43 gw_n))))))))))))) gU_wsX100) gU_wsX70)
set_option maxRecDepth 20000 in
theorem gT_wsX10_fault : GoodIn lw_tbl wsX10_fault := gw_c hw_1379 (goodIn_app (goodIn_app (gw_c hw_8 (gw_c hw_1380 gw_n)) gU_wsX100) gU_wsX70)
set_option maxRecDepth 20000 in
theorem gT_wsX10_undo_r1 : GoodIn lw_tbl wsX10_undo_r1 := (gw_c hw_14 (gw_c hw_309 (gw_c hw_16 (gw_c hw_1382 (gw_c hw_1383 (gw_c hw_1384 (gw_c hw_194 (gw_c hw_1385 (gw_c hw_197 (gw_c hw_196 (gw_c hw_355 (gw_c hw_356 (gw_c hw_357 (gw_c hw_358 (gw_c hw_359 (gw_c hw_360 (gw_c hw_361 (gw_c hw_201 (gw_c hw_362 (gw_c hw_363 (gw_c hw_364 (gw_c hw_365 (gw_c hw_366 (gw_c hw_367 gw_n))))))))))))))))))))))))
set_option maxRecDepth 20000 in
theorem gT_wsX10_undo_r2 : GoodIn lw_tbl wsX10_undo_r2 := (gw_c hw_368 (gw_c hw_203 (gw_c hw_204 (gw_c hw_369 (gw_c hw_370 (gw_c hw_371 (gw_c hw_372 (gw_c hw_373 (gw_c hw_374 (gw_c hw_375 (gw_c hw_376 (gw_c hw_205 (gw_c hw_206 (gw_c hw_207 (gw_c hw_208 (gw_c hw_209 gw_n))))))))))))))))
set_option maxRecDepth 20000 in
theorem gT_wsX10_undo : GoodIn lw_tbl wsX10_undo := gw_c hw_1381 (goodIn_app (goodIn_app (goodIn_app (goodIn_app gT_wsX10_undo_r1 gT_wsX10_undo_r2) gU_wsX100) gU_wsX40) gU_wsX20)
set_option maxRecDepth 20000 in
theorem gT_wsX10_lost_r1 : GoodIn lw_tbl wsX10_lost_r1 := (gw_c hw_11 (gw_c hw_537 (gw_c hw_654 (gw_c hw_655 (gw_c hw_656 (gw_c hw_5 (gw_c hw_657 (gw_c hw_14 (gw_c hw_539 (gw_c hw_540 (gw_c hw_658 (gw_c hw_659 (gw_c hw_439 (gw_c hw_440 (gw_c hw_54 (gw_c hw_441 (gw_c hw_164 (gw_c hw_442 (gw_c hw_443 (gw_c hw_660 (gw_c hw_435 (gw_c hw_436 (gw_c hw_437 (gw_c hw_586 gw_n))))))))))))))))))))))))
set_option maxRecDepth 20000 in
theorem gT_wsX10_lost_r2 : GoodIn lw_tbl wsX10_lost_r2 := (gw_c hw_445 (gw_c hw_446 (gw_c hw_201 (gw_c hw_447 (gw_c hw_203 (gw_c hw_368 (gw_c hw_661 (gw_c hw_610 (gw_c hw_611 (gw_c hw_612 (gw_c hw_409 (gw_c hw_410 (gw_c hw_411 (gw_c hw_412 gw_n))))))))))))))
set_option maxRecDepth 20000 in
theorem gT_wsX10_lost : GoodIn lw_tbl wsX10_lost := gw_c hw_1386 (goodIn_app (goodIn_app (goodIn_app (goodIn_app (goodIn_app gT_wsX10_lost_r1 gT_wsX10_lost_r2) gU_wsX100) gU_wsX60) gU_wsX40) gU_wsX20)
set_option maxRecDepth 20000 in
theorem gT_wsX10_thick : GoodIn lw_tbl wsX10_thick := gw_c hw_1387 (goodIn_app (goodIn_app (goodIn_app (gw_c hw_14 (gw_c hw_539 (gw_c hw_1388 (gw_c hw_1389 (gw_c hw_1390 (gw_c hw_201 (gw_c hw_1391 (gw_c hw_203 gw_n)))))))) gU_wsX100) gU_wsX40) gU_wsX20)
set_option maxRecDepth 20000 in
theorem gT_wsX10_image_r1 : GoodIn lw_tbl wsX10_image_r1 := (gw_c hw_15 (gw_c hw_1393 (gw_c hw_1394 (gw_c hw_1395 (gw_c hw_194 (gw_c hw_14 (gw_c hw_1396 (gw_c hw_1397 (gw_c hw_1398 (gw_c hw_365 (gw_c hw_366 (gw_c hw_360 (gw_c hw_361 (gw_c hw_201 (gw_c hw_196 (gw_c hw_359 (gw_c hw_362 (gw_c hw_363 (gw_c hw_364 (gw_c hw_367 (gw_c hw_368 (gw_c hw_203 (gw_c hw_204 (gw_c hw_1399 gw_n))))))))))))))))))))))))
set_option maxRecDepth 20000 in
theorem gT_wsX10_image_r2 : GoodIn lw_tbl wsX10_image_r2 := (gw_c hw_1400 (gw_c hw_1401 (gw_c hw_1402 (gw_c hw_197 (gw_c hw_369 (gw_c hw_370 (gw_c hw_371 (gw_c hw_372 (gw_c hw_373 (gw_c hw_374 (gw_c hw_375 (gw_c hw_376 (gw_c hw_205 (gw_c hw_206 (gw_c hw_207 (gw_c hw_208 (gw_c hw_209 (gw_c hw_355 (gw_c hw_356 (gw_c hw_357 (gw_c hw_358 gw_n)))))))))))))))))))))
set_option maxRecDepth 20000 in
theorem gT_wsX10_image : GoodIn lw_tbl wsX10_image := gw_c hw_1392 (goodIn_app (goodIn_app (goodIn_app (goodIn_app gT_wsX10_image_r1 gT_wsX10_image_r2) gU_wsX100) gU_wsX40) gU_wsX20)
set_option maxRecDepth 20000 in
theorem gT_wsX10_restore_r1 : GoodIn lw_tbl wsX10_restore_r1 := (gw_c hw_15 (gw_c hw_1393 (gw_c hw_14 (gw_c hw_16 (gw_c hw_1399 (gw_c hw_1400 (gw_c hw_1401 (gw_c hw_194 (gw_c hw_1402 (gw_c hw_196 (gw_c hw_197 (gw_c hw_369 (gw_c hw_370 (gw_c hw_371 (gw_c hw_201 (gw_c hw_372 (gw_c hw_368 (gw_c hw_373 (gw_c hw_374 (gw_c hw_375 (gw_c hw_376 (gw_c hw_203 (gw_c hw_204 (gw_c hw_205 gw_n))))))))))))))))))))))))
set_option maxRecDepth 20000 in
theorem gT_wsX10_restore_r2 : GoodIn lw_tbl wsX10_restore_r2 := (gw_c hw_206 (gw_c hw_207 (gw_c hw_208 (gw_c hw_209 (gw_c hw_355 (gw_c hw_356 (gw_c hw_357 (gw_c hw_358 (gw_c hw_359 (gw_c hw_360 (gw_c hw_361 (gw_c hw_362 (gw_c hw_363 (gw_c hw_364 (gw_c hw_365 (gw_c hw_366 (gw_c hw_367 gw_n)))))))))))))))))
set_option maxRecDepth 20000 in
theorem gT_wsX10_restore : GoodIn lw_tbl wsX10_restore := gw_c hw_1403 (goodIn_app (goodIn_app (goodIn_app (goodIn_app gT_wsX10_restore_r1 gT_wsX10_restore_r2) gU_wsX100) gU_wsX40) gU_wsX20)
set_option maxRecDepth 20000 in
theorem gT_wsX10_status : GoodIn lw_tbl wsX10_status := gw_c hw_1404 (goodIn_app (gw_c hw_28 gw_n) gU_wsX100)
set_option maxRecDepth 20000 in
theorem gT_wsX10_count : GoodIn lw_tbl wsX10_count := gw_c hw_1405 (goodIn_app (goodIn_app (goodIn_app (gw_c hw_15 (gw_c hw_8 (gw_c hw_9 (gw_c hw_14 (gw_c hw_309 gw_n))))) gU_wsX100) gU_wsX70) gU_wsX40)
set_option maxRecDepth 20000 in
theorem gT_wsX10_init_r1 : GoodIn lw_tbl wsX10_init_r1 := (gw_c hw_1407 (gw_c hw_365 (gw_c hw_366 (gw_c hw_1408 (gw_c hw_1409 (gw_c hw_32 (gw_c hw_8 (gw_c hw_1410 (gw_c hw_1411 (gw_c hw_54 (gw_c hw_11 (gw_c hw_7 (gw_c hw_1412 (gw_c hw_1413 (gw_c hw_180 (gw_c hw_12 (gw_c hw_272 (gw_c hw_1414 (gw_c hw_1415 (gw_c hw_187 (gw_c hw_13 (gw_c hw_512 (gw_c hw_1416 (gw_c hw_1417 gw_n))))))))))))))))))))))))
set_option maxRecDepth 20000 in
theorem gT_wsX10_init_r2 : GoodIn lw_tbl wsX10_init_r2 := (gw_c hw_415 (gw_c hw_618 (gw_c hw_1418 (gw_c hw_1419 (gw_c hw_839 (gw_c hw_829 (gw_c hw_1394 (gw_c hw_1395 (gw_c hw_194 (gw_c hw_14 (gw_c hw_1420 (gw_c hw_1421 (gw_c hw_423 (gw_c hw_640 (gw_c hw_1422 (gw_c hw_1423 (gw_c hw_316 (gw_c hw_539 (gw_c hw_310 (gw_c hw_1393 (gw_c hw_367 (gw_c hw_28 (gw_c hw_1424 (gw_c hw_1425 gw_n))))))))))))))))))))))))
set_option maxRecDepth 20000 in
theorem gT_wsX10_init_r3 : GoodIn lw_tbl wsX10_init_r3 := (gw_c hw_1426 (gw_c hw_1427 (gw_c hw_43 (gw_c hw_37 (gw_c hw_1428 (gw_c hw_1429 (gw_c hw_1430 (gw_c hw_1431 (gw_c hw_150 (gw_c hw_151 (gw_c hw_152 (gw_c hw_153 (gw_c hw_154 (gw_c hw_68 (gw_c hw_164 (gw_c hw_58 (gw_c hw_59 (gw_c hw_60 (gw_c hw_61 (gw_c hw_62 (gw_c hw_63 (gw_c hw_64 (gw_c hw_65 (gw_c hw_66 gw_n))))))))))))))))))))))))
set_option maxRecDepth 20000 in
theorem gT_wsX10_init_r4 : GoodIn lw_tbl wsX10_init_r4 := (gw_c hw_67 (gw_c hw_69 (gw_c hw_70 (gw_c hw_71 (gw_c hw_72 (gw_c hw_1432 (gw_c hw_1433 (gw_c hw_1434 (gw_c hw_1435 (gw_c hw_182 (gw_c hw_473 (gw_c hw_1436 (gw_c hw_178 (gw_c hw_179 (gw_c hw_181 (gw_c hw_183 (gw_c hw_1437 (gw_c hw_1438 (gw_c hw_1439 (gw_c hw_526 (gw_c hw_527 (gw_c hw_1440 (gw_c hw_1441 (gw_c hw_1442 gw_n))))))))))))))))))))))))
set_option maxRecDepth 20000 in
theorem gT_wsX10_init_r5 : GoodIn lw_tbl wsX10_init_r5 := (gw_c hw_713 (gw_c hw_809 (gw_c hw_1443 (gw_c hw_1444 (gw_c hw_1445 (gw_c hw_841 (gw_c hw_1396 (gw_c hw_1397 (gw_c hw_1398 (gw_c hw_360 (gw_c hw_361 (gw_c hw_201 (gw_c hw_196 (gw_c hw_359 (gw_c hw_362 (gw_c hw_363 (gw_c hw_364 (gw_c hw_368 (gw_c hw_203 (gw_c hw_204 (gw_c hw_1446 (gw_c hw_1447 (gw_c hw_1448 (gw_c hw_1449 gw_n))))))))))))))))))))))))
set_option maxRecDepth 20000 in
theorem gT_wsX10_init_r6 : GoodIn lw_tbl wsX10_init_r6 := (gw_c hw_894 (gw_c hw_456 (gw_c hw_895 (gw_c hw_1450 (gw_c hw_1451 (gw_c hw_1452 (gw_c hw_1453 (gw_c hw_329 (gw_c hw_344 (gw_c hw_345 (gw_c hw_347 (gw_c hw_349 (gw_c hw_330 (gw_c hw_331 (gw_c hw_395 (gw_c hw_397 gw_n))))))))))))))))
set_option maxRecDepth 20000 in
theorem gT_wsX10_init : GoodIn lw_tbl wsX10_init := gw_c hw_1406 (goodIn_app (goodIn_app (goodIn_app (goodIn_app (goodIn_app (goodIn_app (goodIn_app (goodIn_app (goodIn_app (goodIn_app (goodIn_app (goodIn_app gT_wsX10_init_r1 (goodIn_app gT_wsX10_init_r2 (goodIn_app gT_wsX10_init_r3 (goodIn_app gT_wsX10_init_r4 (goodIn_app gT_wsX10_init_r5 gT_wsX10_init_r6))))) gU_wsX70) gU_wsX100) gU_wsX60) gU_wsX30) gU_wsX00) gU_wsX10) gU_wsX50) gU_wsX40) gU_wsX80) gU_wsX90) gU_wsX20)
