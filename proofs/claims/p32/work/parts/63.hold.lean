theorem fa_n {α : Type} {P : α → Prop} : ∀ c ∈ ([] : List α), P c := fun _ h => absurd h List.not_mem_nil
theorem fa_c {α : Type} {P : α → Prop} {a : α} {l : List α} (h1 : P a) (h2 : ∀ c ∈ l, P c) : ∀ c ∈ a :: l, P c := List.forall_mem_cons.mpr ⟨h1, h2⟩
theorem fa_a {α : Type} {P : α → Prop} {l m : List α} (h1 : ∀ c ∈ l, P c) (h2 : ∀ c ∈ m, P c) : ∀ c ∈ l ++ m, P c := fun c h => (List.mem_append.mp h).elim (h1 c) (h2 c)
theorem okCTt : okCT CT = true := by decide +kernel
theorem okRTt : okCT RT = true := by decide +kernel
def RQ_0 : List ctr := [r_0, r_1, r_2, r_3, r_4, r_5, r_6, r_7, r_8, r_9, r_10, r_11, r_12, r_13, r_14, r_15, r_16, r_17, r_18, r_19, r_20, r_21, r_22, r_23, r_24, r_25, r_26, r_27, r_28, r_29, r_30, r_31, r_32, r_33, r_34, r_35, r_36, r_37, r_38, r_39, r_40, r_41, r_42, r_43, r_44, r_45, r_46, r_47, r_48, r_49, r_50, r_51, r_52, r_53, r_54, r_55, r_56, r_57, r_58, r_59]
theorem rq_0 : ∀ c ∈ RQ_0, Rul c := (fa_c rul_0 (fa_c rul_1 (fa_c rul_2 (fa_c rul_3 (fa_c rul_4 (fa_c rul_5 (fa_c rul_6 (fa_c rul_7 (fa_c rul_8 (fa_c rul_9 (fa_c rul_10 (fa_c rul_11 (fa_c rul_12 (fa_c rul_13 (fa_c rul_14 (fa_c rul_15 (fa_c rul_16 (fa_c rul_17 (fa_c rul_18 (fa_c rul_19 (fa_c rul_20 (fa_c rul_21 (fa_c rul_22 (fa_c rul_23 (fa_c rul_24 (fa_c rul_25 (fa_c rul_26 (fa_c rul_27 (fa_c rul_28 (fa_c rul_29 (fa_c rul_30 (fa_c rul_31 (fa_c rul_32 (fa_c rul_33 (fa_c rul_34 (fa_c rul_35 (fa_c rul_36 (fa_c rul_37 (fa_c rul_38 (fa_c rul_39 (fa_c rul_40 (fa_c rul_41 (fa_c rul_42 (fa_c rul_43 (fa_c rul_44 (fa_c rul_45 (fa_c rul_46 (fa_c rul_47 (fa_c rul_48 (fa_c rul_49 (fa_c rul_50 (fa_c rul_51 (fa_c rul_52 (fa_c rul_53 (fa_c rul_54 (fa_c rul_55 (fa_c rul_56 (fa_c rul_57 (fa_c rul_58 (fa_c rul_59 fa_n))))))))))))))))))))))))))))))))))))))))))))))))))))))))))))
def RQ_1 : List ctr := [r_60, r_61, r_62, r_63, r_64, r_65, r_66, r_67, r_68, r_69, r_70, r_71, r_72, r_73, r_74, r_75, r_76, r_77, r_78, r_79, r_80, r_81, r_82, r_83, r_84, r_85, r_86, r_87, r_88, r_89, r_90, r_91, r_92, r_93, r_94, r_95, r_96, r_97, r_98, r_99, r_100, r_101, r_102, r_103, r_104, r_105, r_106, r_107, r_108, r_109, r_110, r_111, r_112, r_113, r_114, r_115, r_116, r_117, r_118, r_119]
theorem rq_1 : ∀ c ∈ RQ_1, Rul c := (fa_c rul_60 (fa_c rul_61 (fa_c rul_62 (fa_c rul_63 (fa_c rul_64 (fa_c rul_65 (fa_c rul_66 (fa_c rul_67 (fa_c rul_68 (fa_c rul_69 (fa_c rul_70 (fa_c rul_71 (fa_c rul_72 (fa_c rul_73 (fa_c rul_74 (fa_c rul_75 (fa_c rul_76 (fa_c rul_77 (fa_c rul_78 (fa_c rul_79 (fa_c rul_80 (fa_c rul_81 (fa_c rul_82 (fa_c rul_83 (fa_c rul_84 (fa_c rul_85 (fa_c rul_86 (fa_c rul_87 (fa_c rul_88 (fa_c rul_89 (fa_c rul_90 (fa_c rul_91 (fa_c rul_92 (fa_c rul_93 (fa_c rul_94 (fa_c rul_95 (fa_c rul_96 (fa_c rul_97 (fa_c rul_98 (fa_c rul_99 (fa_c rul_100 (fa_c rul_101 (fa_c rul_102 (fa_c rul_103 (fa_c rul_104 (fa_c rul_105 (fa_c rul_106 (fa_c rul_107 (fa_c rul_108 (fa_c rul_109 (fa_c rul_110 (fa_c rul_111 (fa_c rul_112 (fa_c rul_113 (fa_c rul_114 (fa_c rul_115 (fa_c rul_116 (fa_c rul_117 (fa_c rul_118 (fa_c rul_119 fa_n))))))))))))))))))))))))))))))))))))))))))))))))))))))))))))
def RQ_2 : List ctr := [r_120, r_121, r_122, r_123, r_124, r_125, r_126, r_127, r_128, r_129, r_130, r_131, r_132, r_133, r_134, r_135, r_136, r_137, r_138, r_139, r_140, r_141, r_142, r_143, r_144, r_145, r_146, r_147, r_148, r_149, r_150, r_151, r_152, r_153, r_154, r_155, r_156, r_157, r_158, r_159, r_160, r_161, r_162, r_163, r_164, r_165, r_166, r_167, r_168, r_169, r_170, r_171, r_172, r_173, r_174, r_175, r_176, r_177, r_178, r_179]
theorem rq_2 : ∀ c ∈ RQ_2, Rul c := (fa_c rul_120 (fa_c rul_121 (fa_c rul_122 (fa_c rul_123 (fa_c rul_124 (fa_c rul_125 (fa_c rul_126 (fa_c rul_127 (fa_c rul_128 (fa_c rul_129 (fa_c rul_130 (fa_c rul_131 (fa_c rul_132 (fa_c rul_133 (fa_c rul_134 (fa_c rul_135 (fa_c rul_136 (fa_c rul_137 (fa_c rul_138 (fa_c rul_139 (fa_c rul_140 (fa_c rul_141 (fa_c rul_142 (fa_c rul_143 (fa_c rul_144 (fa_c rul_145 (fa_c rul_146 (fa_c rul_147 (fa_c rul_148 (fa_c rul_149 (fa_c rul_150 (fa_c rul_151 (fa_c rul_152 (fa_c rul_153 (fa_c rul_154 (fa_c rul_155 (fa_c rul_156 (fa_c rul_157 (fa_c rul_158 (fa_c rul_159 (fa_c rul_160 (fa_c rul_161 (fa_c rul_162 (fa_c rul_163 (fa_c rul_164 (fa_c rul_165 (fa_c rul_166 (fa_c rul_167 (fa_c rul_168 (fa_c rul_169 (fa_c rul_170 (fa_c rul_171 (fa_c rul_172 (fa_c rul_173 (fa_c rul_174 (fa_c rul_175 (fa_c rul_176 (fa_c rul_177 (fa_c rul_178 (fa_c rul_179 fa_n))))))))))))))))))))))))))))))))))))))))))))))))))))))))))))
def RQ_3 : List ctr := [r_180, r_181, r_182, r_183, r_184, r_185, r_186, r_187, r_188, r_189, r_190, r_191, r_192, r_193, r_194, r_195, r_196, r_197, r_198, r_199, r_200, r_201, r_202, r_203, r_204, r_205, r_206, r_207, r_208, r_209, r_210, r_211, r_212, r_213, r_214, r_215, r_216, r_217, r_218, r_219, r_220, r_221, r_222, r_223, r_224, r_225, r_226, r_227, r_228, r_229, r_230, r_231, r_232, r_233, r_234, r_235, r_236, r_237, r_238, r_239]
theorem rq_3 : ∀ c ∈ RQ_3, Rul c := (fa_c rul_180 (fa_c rul_181 (fa_c rul_182 (fa_c rul_183 (fa_c rul_184 (fa_c rul_185 (fa_c rul_186 (fa_c rul_187 (fa_c rul_188 (fa_c rul_189 (fa_c rul_190 (fa_c rul_191 (fa_c rul_192 (fa_c rul_193 (fa_c rul_194 (fa_c rul_195 (fa_c rul_196 (fa_c rul_197 (fa_c rul_198 (fa_c rul_199 (fa_c rul_200 (fa_c rul_201 (fa_c rul_202 (fa_c rul_203 (fa_c rul_204 (fa_c rul_205 (fa_c rul_206 (fa_c rul_207 (fa_c rul_208 (fa_c rul_209 (fa_c rul_210 (fa_c rul_211 (fa_c rul_212 (fa_c rul_213 (fa_c rul_214 (fa_c rul_215 (fa_c rul_216 (fa_c rul_217 (fa_c rul_218 (fa_c rul_219 (fa_c rul_220 (fa_c rul_221 (fa_c rul_222 (fa_c rul_223 (fa_c rul_224 (fa_c rul_225 (fa_c rul_226 (fa_c rul_227 (fa_c rul_228 (fa_c rul_229 (fa_c rul_230 (fa_c rul_231 (fa_c rul_232 (fa_c rul_233 (fa_c rul_234 (fa_c rul_235 (fa_c rul_236 (fa_c rul_237 (fa_c rul_238 (fa_c rul_239 fa_n))))))))))))))))))))))))))))))))))))))))))))))))))))))))))))
def RQ_4 : List ctr := [r_240, r_241, r_242, r_243, r_244, r_245, r_246, r_247, r_248, r_249, r_250, r_251, r_252, r_253, r_254, r_255, r_256, r_257, r_258, r_259, r_260, r_261, r_262, r_263, r_264, r_265, r_266, r_267, r_268, r_269, r_270, r_271, r_272, r_273, r_274, r_275, r_276, r_277, r_278, r_279, r_280, r_281, r_282, r_283, r_284, r_285, r_286, r_287, r_288, r_289, r_290, r_291, r_292, r_293, r_294, r_295, r_296, r_297, r_298, r_299]
theorem rq_4 : ∀ c ∈ RQ_4, Rul c := (fa_c rul_240 (fa_c rul_241 (fa_c rul_242 (fa_c rul_243 (fa_c rul_244 (fa_c rul_245 (fa_c rul_246 (fa_c rul_247 (fa_c rul_248 (fa_c rul_249 (fa_c rul_250 (fa_c rul_251 (fa_c rul_252 (fa_c rul_253 (fa_c rul_254 (fa_c rul_255 (fa_c rul_256 (fa_c rul_257 (fa_c rul_258 (fa_c rul_259 (fa_c rul_260 (fa_c rul_261 (fa_c rul_262 (fa_c rul_263 (fa_c rul_264 (fa_c rul_265 (fa_c rul_266 (fa_c rul_267 (fa_c rul_268 (fa_c rul_269 (fa_c rul_270 (fa_c rul_271 (fa_c rul_272 (fa_c rul_273 (fa_c rul_274 (fa_c rul_275 (fa_c rul_276 (fa_c rul_277 (fa_c rul_278 (fa_c rul_279 (fa_c rul_280 (fa_c rul_281 (fa_c rul_282 (fa_c rul_283 (fa_c rul_284 (fa_c rul_285 (fa_c rul_286 (fa_c rul_287 (fa_c rul_288 (fa_c rul_289 (fa_c rul_290 (fa_c rul_291 (fa_c rul_292 (fa_c rul_293 (fa_c rul_294 (fa_c rul_295 (fa_c rul_296 (fa_c rul_297 (fa_c rul_298 (fa_c rul_299 fa_n))))))))))))))))))))))))))))))))))))))))))))))))))))))))))))
def RQ_5 : List ctr := [r_300, r_301, r_302, r_303, r_304, r_305, r_306, r_307, r_308, r_309, r_310, r_311, r_312, r_313, r_314, r_315, r_316, r_317, r_318, r_319, r_320, r_321, r_322, r_323, r_324, r_325, r_326, r_327, r_328, r_329, r_330, r_331, r_332, r_333, r_334, r_335, r_336, r_337, r_338, r_339, r_340, r_341, r_342, r_343, r_344, r_345, r_346, r_347, r_348, r_349, r_350, r_351, r_352, r_353, r_354, r_355, r_356, r_357, r_358, r_359]
theorem rq_5 : ∀ c ∈ RQ_5, Rul c := (fa_c rul_300 (fa_c rul_301 (fa_c rul_302 (fa_c rul_303 (fa_c rul_304 (fa_c rul_305 (fa_c rul_306 (fa_c rul_307 (fa_c rul_308 (fa_c rul_309 (fa_c rul_310 (fa_c rul_311 (fa_c rul_312 (fa_c rul_313 (fa_c rul_314 (fa_c rul_315 (fa_c rul_316 (fa_c rul_317 (fa_c rul_318 (fa_c rul_319 (fa_c rul_320 (fa_c rul_321 (fa_c rul_322 (fa_c rul_323 (fa_c rul_324 (fa_c rul_325 (fa_c rul_326 (fa_c rul_327 (fa_c rul_328 (fa_c rul_329 (fa_c rul_330 (fa_c rul_331 (fa_c rul_332 (fa_c rul_333 (fa_c rul_334 (fa_c rul_335 (fa_c rul_336 (fa_c rul_337 (fa_c rul_338 (fa_c rul_339 (fa_c rul_340 (fa_c rul_341 (fa_c rul_342 (fa_c rul_343 (fa_c rul_344 (fa_c rul_345 (fa_c rul_346 (fa_c rul_347 (fa_c rul_348 (fa_c rul_349 (fa_c rul_350 (fa_c rul_351 (fa_c rul_352 (fa_c rul_353 (fa_c rul_354 (fa_c rul_355 (fa_c rul_356 (fa_c rul_357 (fa_c rul_358 (fa_c rul_359 fa_n))))))))))))))))))))))))))))))))))))))))))))))))))))))))))))
def RQ_6 : List ctr := [r_360, r_361, r_362, r_363, r_364, r_365, r_366, r_367, r_368, r_369, r_370, r_371, r_372, r_373, r_374, r_375, r_376, r_377, r_378, r_379, r_380, r_381, r_382, r_383, r_384, r_385, r_386, r_387, r_388, r_389, r_390, r_391, r_392, r_393, r_394, r_395, r_396, r_397, r_398, r_399, r_400, r_401, r_402, r_403, r_404, r_405, r_406, r_407, r_408, r_409, r_410, r_411, r_412, r_413, r_414, r_415, r_416, r_417, r_418, r_419]
theorem rq_6 : ∀ c ∈ RQ_6, Rul c := (fa_c rul_360 (fa_c rul_361 (fa_c rul_362 (fa_c rul_363 (fa_c rul_364 (fa_c rul_365 (fa_c rul_366 (fa_c rul_367 (fa_c rul_368 (fa_c rul_369 (fa_c rul_370 (fa_c rul_371 (fa_c rul_372 (fa_c rul_373 (fa_c rul_374 (fa_c rul_375 (fa_c rul_376 (fa_c rul_377 (fa_c rul_378 (fa_c rul_379 (fa_c rul_380 (fa_c rul_381 (fa_c rul_382 (fa_c rul_383 (fa_c rul_384 (fa_c rul_385 (fa_c rul_386 (fa_c rul_387 (fa_c rul_388 (fa_c rul_389 (fa_c rul_390 (fa_c rul_391 (fa_c rul_392 (fa_c rul_393 (fa_c rul_394 (fa_c rul_395 (fa_c rul_396 (fa_c rul_397 (fa_c rul_398 (fa_c rul_399 (fa_c rul_400 (fa_c rul_401 (fa_c rul_402 (fa_c rul_403 (fa_c rul_404 (fa_c rul_405 (fa_c rul_406 (fa_c rul_407 (fa_c rul_408 (fa_c rul_409 (fa_c rul_410 (fa_c rul_411 (fa_c rul_412 (fa_c rul_413 (fa_c rul_414 (fa_c rul_415 (fa_c rul_416 (fa_c rul_417 (fa_c rul_418 (fa_c rul_419 fa_n))))))))))))))))))))))))))))))))))))))))))))))))))))))))))))
def RQ_7 : List ctr := [r_420, r_421, r_422, r_423, r_424, r_425, r_426, r_427, r_428, r_429, r_430, r_431, r_432, r_433, r_434, r_435, r_436, r_437, r_438, r_439, r_440, r_441, r_442, r_443, r_444, r_445, r_446, r_447, r_448, r_449, r_450, r_451, r_452, r_453, r_454, r_455, r_456, r_457, r_458, r_459, r_460, r_461, r_462, r_463, r_464, r_465, r_466, r_467, r_468, r_469, r_470, r_471, r_472, r_473, r_474, r_475, r_476, r_477, r_478, r_479]
theorem rq_7 : ∀ c ∈ RQ_7, Rul c := (fa_c rul_420 (fa_c rul_421 (fa_c rul_422 (fa_c rul_423 (fa_c rul_424 (fa_c rul_425 (fa_c rul_426 (fa_c rul_427 (fa_c rul_428 (fa_c rul_429 (fa_c rul_430 (fa_c rul_431 (fa_c rul_432 (fa_c rul_433 (fa_c rul_434 (fa_c rul_435 (fa_c rul_436 (fa_c rul_437 (fa_c rul_438 (fa_c rul_439 (fa_c rul_440 (fa_c rul_441 (fa_c rul_442 (fa_c rul_443 (fa_c rul_444 (fa_c rul_445 (fa_c rul_446 (fa_c rul_447 (fa_c rul_448 (fa_c rul_449 (fa_c rul_450 (fa_c rul_451 (fa_c rul_452 (fa_c rul_453 (fa_c rul_454 (fa_c rul_455 (fa_c rul_456 (fa_c rul_457 (fa_c rul_458 (fa_c rul_459 (fa_c rul_460 (fa_c rul_461 (fa_c rul_462 (fa_c rul_463 (fa_c rul_464 (fa_c rul_465 (fa_c rul_466 (fa_c rul_467 (fa_c rul_468 (fa_c rul_469 (fa_c rul_470 (fa_c rul_471 (fa_c rul_472 (fa_c rul_473 (fa_c rul_474 (fa_c rul_475 (fa_c rul_476 (fa_c rul_477 (fa_c rul_478 (fa_c rul_479 fa_n))))))))))))))))))))))))))))))))))))))))))))))))))))))))))))
def RQ_8 : List ctr := [r_480, r_481, r_482, r_483, r_484, r_485, r_486, r_487, r_488, r_489, r_490, r_491, r_492, r_493, r_494, r_495, r_496, r_497, r_498, r_499, r_500, r_501, r_502, r_503, r_504, r_505, r_506, r_507, r_508, r_509, r_510, r_511, r_512, r_513, r_514, r_515, r_516, r_517, r_518, r_519, r_520, r_521, r_522, r_523, r_524, r_525, r_526, r_527, r_528, r_529, r_530, r_531, r_532, r_533, r_534, r_535, r_536, r_537, r_538, r_539]
theorem rq_8 : ∀ c ∈ RQ_8, Rul c := (fa_c rul_480 (fa_c rul_481 (fa_c rul_482 (fa_c rul_483 (fa_c rul_484 (fa_c rul_485 (fa_c rul_486 (fa_c rul_487 (fa_c rul_488 (fa_c rul_489 (fa_c rul_490 (fa_c rul_491 (fa_c rul_492 (fa_c rul_493 (fa_c rul_494 (fa_c rul_495 (fa_c rul_496 (fa_c rul_497 (fa_c rul_498 (fa_c rul_499 (fa_c rul_500 (fa_c rul_501 (fa_c rul_502 (fa_c rul_503 (fa_c rul_504 (fa_c rul_505 (fa_c rul_506 (fa_c rul_507 (fa_c rul_508 (fa_c rul_509 (fa_c rul_510 (fa_c rul_511 (fa_c rul_512 (fa_c rul_513 (fa_c rul_514 (fa_c rul_515 (fa_c rul_516 (fa_c rul_517 (fa_c rul_518 (fa_c rul_519 (fa_c rul_520 (fa_c rul_521 (fa_c rul_522 (fa_c rul_523 (fa_c rul_524 (fa_c rul_525 (fa_c rul_526 (fa_c rul_527 (fa_c rul_528 (fa_c rul_529 (fa_c rul_530 (fa_c rul_531 (fa_c rul_532 (fa_c rul_533 (fa_c rul_534 (fa_c rul_535 (fa_c rul_536 (fa_c rul_537 (fa_c rul_538 (fa_c rul_539 fa_n))))))))))))))))))))))))))))))))))))))))))))))))))))))))))))
def RQ_9 : List ctr := [r_540, r_541, r_542, r_543, r_544, r_545, r_546, r_547, r_548, r_549, r_550, r_551, r_552, r_553, r_554, r_555, r_556, r_557, r_558, r_559, r_560, r_561, r_562, r_563, r_564, r_565, r_566, r_567, r_568, r_569, r_570, r_571, r_572, r_573, r_574, r_575, r_576, r_577, r_578, r_579, r_580, r_581, r_582, r_583, r_584, r_585, r_586, r_587, r_588, r_589, r_590, r_591, r_592, r_593, r_594, r_595, r_596, r_597, r_598, r_599]
theorem rq_9 : ∀ c ∈ RQ_9, Rul c := (fa_c rul_540 (fa_c rul_541 (fa_c rul_542 (fa_c rul_543 (fa_c rul_544 (fa_c rul_545 (fa_c rul_546 (fa_c rul_547 (fa_c rul_548 (fa_c rul_549 (fa_c rul_550 (fa_c rul_551 (fa_c rul_552 (fa_c rul_553 (fa_c rul_554 (fa_c rul_555 (fa_c rul_556 (fa_c rul_557 (fa_c rul_558 (fa_c rul_559 (fa_c rul_560 (fa_c rul_561 (fa_c rul_562 (fa_c rul_563 (fa_c rul_564 (fa_c rul_565 (fa_c rul_566 (fa_c rul_567 (fa_c rul_568 (fa_c rul_569 (fa_c rul_570 (fa_c rul_571 (fa_c rul_572 (fa_c rul_573 (fa_c rul_574 (fa_c rul_575 (fa_c rul_576 (fa_c rul_577 (fa_c rul_578 (fa_c rul_579 (fa_c rul_580 (fa_c rul_581 (fa_c rul_582 (fa_c rul_583 (fa_c rul_584 (fa_c rul_585 (fa_c rul_586 (fa_c rul_587 (fa_c rul_588 (fa_c rul_589 (fa_c rul_590 (fa_c rul_591 (fa_c rul_592 (fa_c rul_593 (fa_c rul_594 (fa_c rul_595 (fa_c rul_596 (fa_c rul_597 (fa_c rul_598 (fa_c rul_599 fa_n))))))))))))))))))))))))))))))))))))))))))))))))))))))))))))
def RQ_10 : List ctr := [r_600, r_601, r_602, r_603, r_604, r_605, r_606, r_607, r_608, r_609, r_610, r_611, r_612, r_613, r_614, r_615, r_616, r_617, r_618, r_619, r_620, r_621, r_622, r_623, r_624, r_625, r_626, r_627, r_628, r_629, r_630, r_631, r_632, r_633, r_634, r_635, r_636, r_637, r_638, r_639, r_640, r_641, r_642, r_643, r_644, r_645, r_646, r_647, r_648, r_649, r_650, r_651, r_652, r_653, r_654, r_655, r_656, r_657, r_658, r_659]
theorem rq_10 : ∀ c ∈ RQ_10, Rul c := (fa_c rul_600 (fa_c rul_601 (fa_c rul_602 (fa_c rul_603 (fa_c rul_604 (fa_c rul_605 (fa_c rul_606 (fa_c rul_607 (fa_c rul_608 (fa_c rul_609 (fa_c rul_610 (fa_c rul_611 (fa_c rul_612 (fa_c rul_613 (fa_c rul_614 (fa_c rul_615 (fa_c rul_616 (fa_c rul_617 (fa_c rul_618 (fa_c rul_619 (fa_c rul_620 (fa_c rul_621 (fa_c rul_622 (fa_c rul_623 (fa_c rul_624 (fa_c rul_625 (fa_c rul_626 (fa_c rul_627 (fa_c rul_628 (fa_c rul_629 (fa_c rul_630 (fa_c rul_631 (fa_c rul_632 (fa_c rul_633 (fa_c rul_634 (fa_c rul_635 (fa_c rul_636 (fa_c rul_637 (fa_c rul_638 (fa_c rul_639 (fa_c rul_640 (fa_c rul_641 (fa_c rul_642 (fa_c rul_643 (fa_c rul_644 (fa_c rul_645 (fa_c rul_646 (fa_c rul_647 (fa_c rul_648 (fa_c rul_649 (fa_c rul_650 (fa_c rul_651 (fa_c rul_652 (fa_c rul_653 (fa_c rul_654 (fa_c rul_655 (fa_c rul_656 (fa_c rul_657 (fa_c rul_658 (fa_c rul_659 fa_n))))))))))))))))))))))))))))))))))))))))))))))))))))))))))))
def RQ_11 : List ctr := [r_660, r_661, r_662, r_663, r_664, r_665, r_666, r_667, r_668, r_669, r_670, r_671, r_672, r_673, r_674, r_675, r_676, r_677, r_678, r_679, r_680, r_681, r_682, r_683, r_684, r_685, r_686, r_687, r_688, r_689, r_690, r_691, r_692, r_693, r_694, r_695, r_696, r_697, r_698, r_699, r_700, r_701, r_702, r_703, r_704, r_705, r_706, r_707, r_708, r_709, r_710, r_711, r_712, r_713, r_714, r_715, r_716, r_717, r_718, r_719]
theorem rq_11 : ∀ c ∈ RQ_11, Rul c := (fa_c rul_660 (fa_c rul_661 (fa_c rul_662 (fa_c rul_663 (fa_c rul_664 (fa_c rul_665 (fa_c rul_666 (fa_c rul_667 (fa_c rul_668 (fa_c rul_669 (fa_c rul_670 (fa_c rul_671 (fa_c rul_672 (fa_c rul_673 (fa_c rul_674 (fa_c rul_675 (fa_c rul_676 (fa_c rul_677 (fa_c rul_678 (fa_c rul_679 (fa_c rul_680 (fa_c rul_681 (fa_c rul_682 (fa_c rul_683 (fa_c rul_684 (fa_c rul_685 (fa_c rul_686 (fa_c rul_687 (fa_c rul_688 (fa_c rul_689 (fa_c rul_690 (fa_c rul_691 (fa_c rul_692 (fa_c rul_693 (fa_c rul_694 (fa_c rul_695 (fa_c rul_696 (fa_c rul_697 (fa_c rul_698 (fa_c rul_699 (fa_c rul_700 (fa_c rul_701 (fa_c rul_702 (fa_c rul_703 (fa_c rul_704 (fa_c rul_705 (fa_c rul_706 (fa_c rul_707 (fa_c rul_708 (fa_c rul_709 (fa_c rul_710 (fa_c rul_711 (fa_c rul_712 (fa_c rul_713 (fa_c rul_714 (fa_c rul_715 (fa_c rul_716 (fa_c rul_717 (fa_c rul_718 (fa_c rul_719 fa_n))))))))))))))))))))))))))))))))))))))))))))))))))))))))))))
def RQ_12 : List ctr := [r_720, r_721, r_722, r_723, r_724, r_725, r_726, r_727, r_728, r_729, r_730, r_731, r_732, r_733, r_734, r_735, r_736, r_737, r_738, r_739, r_740, r_741, r_742, r_743, r_744, r_745, r_746, r_747, r_748, r_749, r_750, r_751, r_752, r_753, r_754, r_755, r_756, r_757, r_758, r_759, r_760, r_761, r_762, r_763, r_764, r_765, r_766, r_767, r_768, r_769, r_770, r_771, r_772, r_773, r_774, r_775, r_776, r_777, r_778, r_779]
theorem rq_12 : ∀ c ∈ RQ_12, Rul c := (fa_c rul_720 (fa_c rul_721 (fa_c rul_722 (fa_c rul_723 (fa_c rul_724 (fa_c rul_725 (fa_c rul_726 (fa_c rul_727 (fa_c rul_728 (fa_c rul_729 (fa_c rul_730 (fa_c rul_731 (fa_c rul_732 (fa_c rul_733 (fa_c rul_734 (fa_c rul_735 (fa_c rul_736 (fa_c rul_737 (fa_c rul_738 (fa_c rul_739 (fa_c rul_740 (fa_c rul_741 (fa_c rul_742 (fa_c rul_743 (fa_c rul_744 (fa_c rul_745 (fa_c rul_746 (fa_c rul_747 (fa_c rul_748 (fa_c rul_749 (fa_c rul_750 (fa_c rul_751 (fa_c rul_752 (fa_c rul_753 (fa_c rul_754 (fa_c rul_755 (fa_c rul_756 (fa_c rul_757 (fa_c rul_758 (fa_c rul_759 (fa_c rul_760 (fa_c rul_761 (fa_c rul_762 (fa_c rul_763 (fa_c rul_764 (fa_c rul_765 (fa_c rul_766 (fa_c rul_767 (fa_c rul_768 (fa_c rul_769 (fa_c rul_770 (fa_c rul_771 (fa_c rul_772 (fa_c rul_773 (fa_c rul_774 (fa_c rul_775 (fa_c rul_776 (fa_c rul_777 (fa_c rul_778 (fa_c rul_779 fa_n))))))))))))))))))))))))))))))))))))))))))))))))))))))))))))
def RQ_13 : List ctr := [r_780, r_781, r_782, r_783, r_784, r_785, r_786, r_787, r_788, r_789, r_790, r_791, r_792, r_793, r_794, r_795, r_796, r_797, r_798, r_799, r_800, r_801, r_802, r_803, r_804, r_805, r_806, r_807, r_808, r_809, r_810, r_811, r_812, r_813, r_814, r_815, r_816, r_817, r_818, r_819, r_820, r_821, r_822, r_823, r_824, r_825, r_826, r_827, r_828, r_829, r_830, r_831, r_832, r_833, r_834, r_835, r_836, r_837, r_838, r_839]
theorem rq_13 : ∀ c ∈ RQ_13, Rul c := (fa_c rul_780 (fa_c rul_781 (fa_c rul_782 (fa_c rul_783 (fa_c rul_784 (fa_c rul_785 (fa_c rul_786 (fa_c rul_787 (fa_c rul_788 (fa_c rul_789 (fa_c rul_790 (fa_c rul_791 (fa_c rul_792 (fa_c rul_793 (fa_c rul_794 (fa_c rul_795 (fa_c rul_796 (fa_c rul_797 (fa_c rul_798 (fa_c rul_799 (fa_c rul_800 (fa_c rul_801 (fa_c rul_802 (fa_c rul_803 (fa_c rul_804 (fa_c rul_805 (fa_c rul_806 (fa_c rul_807 (fa_c rul_808 (fa_c rul_809 (fa_c rul_810 (fa_c rul_811 (fa_c rul_812 (fa_c rul_813 (fa_c rul_814 (fa_c rul_815 (fa_c rul_816 (fa_c rul_817 (fa_c rul_818 (fa_c rul_819 (fa_c rul_820 (fa_c rul_821 (fa_c rul_822 (fa_c rul_823 (fa_c rul_824 (fa_c rul_825 (fa_c rul_826 (fa_c rul_827 (fa_c rul_828 (fa_c rul_829 (fa_c rul_830 (fa_c rul_831 (fa_c rul_832 (fa_c rul_833 (fa_c rul_834 (fa_c rul_835 (fa_c rul_836 (fa_c rul_837 (fa_c rul_838 (fa_c rul_839 fa_n))))))))))))))))))))))))))))))))))))))))))))))))))))))))))))
def RQ_14 : List ctr := [r_840, r_841, r_842, r_843, r_844, r_845, r_846, r_847, r_848, r_849, r_850, r_851, r_852, r_853, r_854, r_855, r_856, r_857, r_858, r_859, r_860, r_861, r_862, r_863, r_864, r_865, r_866, r_867, r_868, r_869, r_870, r_871, r_872, r_873, r_874, r_875, r_876, r_877, r_878, r_879, r_880, r_881, r_882, r_883, r_884, r_885, r_886, r_887, r_888, r_889, r_890, r_891, r_892, r_893, r_894, r_895, r_896, r_897, r_898, r_899]
theorem rq_14 : ∀ c ∈ RQ_14, Rul c := (fa_c rul_840 (fa_c rul_841 (fa_c rul_842 (fa_c rul_843 (fa_c rul_844 (fa_c rul_845 (fa_c rul_846 (fa_c rul_847 (fa_c rul_848 (fa_c rul_849 (fa_c rul_850 (fa_c rul_851 (fa_c rul_852 (fa_c rul_853 (fa_c rul_854 (fa_c rul_855 (fa_c rul_856 (fa_c rul_857 (fa_c rul_858 (fa_c rul_859 (fa_c rul_860 (fa_c rul_861 (fa_c rul_862 (fa_c rul_863 (fa_c rul_864 (fa_c rul_865 (fa_c rul_866 (fa_c rul_867 (fa_c rul_868 (fa_c rul_869 (fa_c rul_870 (fa_c rul_871 (fa_c rul_872 (fa_c rul_873 (fa_c rul_874 (fa_c rul_875 (fa_c rul_876 (fa_c rul_877 (fa_c rul_878 (fa_c rul_879 (fa_c rul_880 (fa_c rul_881 (fa_c rul_882 (fa_c rul_883 (fa_c rul_884 (fa_c rul_885 (fa_c rul_886 (fa_c rul_887 (fa_c rul_888 (fa_c rul_889 (fa_c rul_890 (fa_c rul_891 (fa_c rul_892 (fa_c rul_893 (fa_c rul_894 (fa_c rul_895 (fa_c rul_896 (fa_c rul_897 (fa_c rul_898 (fa_c rul_899 fa_n))))))))))))))))))))))))))))))))))))))))))))))))))))))))))))
def RQ_15 : List ctr := [r_900, r_901, r_902, r_903, r_904, r_905, r_906, r_907, r_908, r_909, r_910, r_911, r_912, r_913, r_914, r_915, r_916, r_917, r_918, r_919, r_920, r_921, r_922, r_923, r_924, r_925, r_926, r_927, r_928, r_929, r_930, r_931, r_932, r_933, r_934, r_935, r_936, r_937, r_938, r_939, r_940, r_941, r_942, r_943, r_944, r_945, r_946, r_947, r_948, r_949, r_950, r_951, r_952, r_953, r_954, r_955, r_956, r_957, r_958, r_959]
theorem rq_15 : ∀ c ∈ RQ_15, Rul c := (fa_c rul_900 (fa_c rul_901 (fa_c rul_902 (fa_c rul_903 (fa_c rul_904 (fa_c rul_905 (fa_c rul_906 (fa_c rul_907 (fa_c rul_908 (fa_c rul_909 (fa_c rul_910 (fa_c rul_911 (fa_c rul_912 (fa_c rul_913 (fa_c rul_914 (fa_c rul_915 (fa_c rul_916 (fa_c rul_917 (fa_c rul_918 (fa_c rul_919 (fa_c rul_920 (fa_c rul_921 (fa_c rul_922 (fa_c rul_923 (fa_c rul_924 (fa_c rul_925 (fa_c rul_926 (fa_c rul_927 (fa_c rul_928 (fa_c rul_929 (fa_c rul_930 (fa_c rul_931 (fa_c rul_932 (fa_c rul_933 (fa_c rul_934 (fa_c rul_935 (fa_c rul_936 (fa_c rul_937 (fa_c rul_938 (fa_c rul_939 (fa_c rul_940 (fa_c rul_941 (fa_c rul_942 (fa_c rul_943 (fa_c rul_944 (fa_c rul_945 (fa_c rul_946 (fa_c rul_947 (fa_c rul_948 (fa_c rul_949 (fa_c rul_950 (fa_c rul_951 (fa_c rul_952 (fa_c rul_953 (fa_c rul_954 (fa_c rul_955 (fa_c rul_956 (fa_c rul_957 (fa_c rul_958 (fa_c rul_959 fa_n))))))))))))))))))))))))))))))))))))))))))))))))))))))))))))
def RQ_16 : List ctr := [r_960, r_961, r_962, r_963, r_964, r_965, r_966, r_967, r_968, r_969, r_970, r_971, r_972, r_973, r_974, r_975, r_976, r_977, r_978, r_979, r_980, r_981, r_982, r_983, r_984, r_985, r_986, r_987, r_988, r_989, r_990, r_991, r_992, r_993, r_994, r_995, r_996, r_997, r_998, r_999, r_1000, r_1001, r_1002, r_1003, r_1004, r_1005, r_1006, r_1007, r_1008, r_1009, r_1010, r_1011, r_1012, r_1013]
theorem rq_16 : ∀ c ∈ RQ_16, Rul c := (fa_c rul_960 (fa_c rul_961 (fa_c rul_962 (fa_c rul_963 (fa_c rul_964 (fa_c rul_965 (fa_c rul_966 (fa_c rul_967 (fa_c rul_968 (fa_c rul_969 (fa_c rul_970 (fa_c rul_971 (fa_c rul_972 (fa_c rul_973 (fa_c rul_974 (fa_c rul_975 (fa_c rul_976 (fa_c rul_977 (fa_c rul_978 (fa_c rul_979 (fa_c rul_980 (fa_c rul_981 (fa_c rul_982 (fa_c rul_983 (fa_c rul_984 (fa_c rul_985 (fa_c rul_986 (fa_c rul_987 (fa_c rul_988 (fa_c rul_989 (fa_c rul_990 (fa_c rul_991 (fa_c rul_992 (fa_c rul_993 (fa_c rul_994 (fa_c rul_995 (fa_c rul_996 (fa_c rul_997 (fa_c rul_998 (fa_c rul_999 (fa_c rul_1000 (fa_c rul_1001 (fa_c rul_1002 (fa_c rul_1003 (fa_c rul_1004 (fa_c rul_1005 (fa_c rul_1006 (fa_c rul_1007 (fa_c rul_1008 (fa_c rul_1009 (fa_c rul_1010 (fa_c rul_1011 (fa_c rul_1012 (fa_c rul_1013 fa_n))))))))))))))))))))))))))))))))))))))))))))))))))))))
set_option maxRecDepth 100000 in
theorem RT_eq : RT = (RQ_0 ++ (RQ_1 ++ (RQ_2 ++ (RQ_3 ++ (RQ_4 ++ (RQ_5 ++ (RQ_6 ++ (RQ_7 ++ (RQ_8 ++ (RQ_9 ++ (RQ_10 ++ (RQ_11 ++ (RQ_12 ++ (RQ_13 ++ (RQ_14 ++ (RQ_15 ++ RQ_16)))))))))))))))) := rfl
theorem rulT : ∀ cc ∈ RT, Rul cc := by
  rw [RT_eq]
  exact (fa_a rq_0 (fa_a rq_1 (fa_a rq_2 (fa_a rq_3 (fa_a rq_4 (fa_a rq_5 (fa_a rq_6 (fa_a rq_7 (fa_a rq_8 (fa_a rq_9 (fa_a rq_10 (fa_a rq_11 (fa_a rq_12 (fa_a rq_13 (fa_a rq_14 (fa_a rq_15 rq_16))))))))))))))))
def LoH (c : ctr) : Prop := (∀ cc ∈ CT, ctd cc < ctd c → Hold cc) → Hold c
theorem h_0 : LoH k_0 := fun h => ck_ok rulT okRTt okCTt zb_0 fa_n h
theorem h_1 : LoH k_1 := fun h => ck_ok rulT okRTt okCTt zb_1 fa_n h
theorem h_2 : LoH k_2 := fun h => ck_ok rulT okRTt okCTt zb_2 fa_n h
theorem h_3 : LoH k_3 := fun h => ck_ok rulT okRTt okCTt zb_3 fa_n h
theorem h_4 : LoH k_4 := fun h => ck_ok rulT okRTt okCTt zb_4 fa_n h
theorem h_5 : LoH k_5 := fun h => ck_ok rulT okRTt okCTt zb_5 fa_n h
theorem h_6 : LoH k_6 := fun h => ck_ok rulT okRTt okCTt zb_6 fa_n h
theorem h_7 : LoH k_7 := fun h => ck_ok rulT okRTt okCTt zb_7 fa_n h
theorem h_8 : LoH k_8 := fun h => ck_ok rulT okRTt okCTt zb_8 fa_n h
theorem h_9 : LoH k_9 := fun _ => hold_9
theorem h_10 : LoH k_10 := fun h => ck_ok rulT okRTt okCTt zb_10 fa_n h
theorem h_11 : LoH k_11 := fun h => ck_ok rulT okRTt okCTt zb_11 fa_n h
theorem h_12 : LoH k_12 := fun h => ck_ok rulT okRTt okCTt zb_12 fa_n h
theorem h_13 : LoH k_13 := fun h => ck_ok rulT okRTt okCTt zb_13 fa_n h
theorem h_14 : LoH k_14 := fun h => ck_ok rulT okRTt okCTt zb_14 fa_n h
theorem h_15 : LoH k_15 := fun h => ck_ok rulT okRTt okCTt zb_15 fa_n h
theorem h_16 : LoH k_16 := fun h => ck_ok rulT okRTt okCTt zb_16 fa_n h
theorem h_17 : LoH k_17 := fun h => ck_ok rulT okRTt okCTt zb_17 fa_n h
theorem h_18 : LoH k_18 := fun h => ck_ok rulT okRTt okCTt zb_18 (fa_c (Or.inl ⟨_, zb_18_0⟩) fa_n) h
theorem h_19 : LoH k_19 := fun h => ck_ok rulT okRTt okCTt zb_19 fa_n h
theorem h_20 : LoH k_20 := fun h => ck_ok rulT okRTt okCTt zb_20 fa_n h
theorem h_21 : LoH k_21 := fun h => ck_ok rulT okRTt okCTt zb_21 fa_n h
theorem h_22 : LoH k_22 := fun h => ck_ok rulT okRTt okCTt zb_22 fa_n h
theorem h_23 : LoH k_23 := fun h => ck_ok rulT okRTt okCTt zb_23 (fa_c (Or.inl ⟨_, zb_23_0⟩) fa_n) h
theorem h_24 : LoH k_24 := fun h => ck_ok rulT okRTt okCTt zb_24 (fa_c (Or.inl ⟨_, zb_24_0⟩) fa_n) h
theorem h_25 : LoH k_25 := fun h => ck_ok rulT okRTt okCTt zb_25 (fa_c (Or.inl ⟨_, zb_25_0⟩) fa_n) h
theorem h_26 : LoH k_26 := fun h => ck_ok rulT okRTt okCTt zb_26 (fa_c (Or.inl ⟨_, zb_26_0⟩) fa_n) h
theorem h_27 : LoH k_27 := fun h => ck_ok rulT okRTt okCTt zb_27 (fa_c (Or.inl ⟨_, zb_27_0⟩) fa_n) h
theorem h_28 : LoH k_28 := fun h => ck_ok rulT okRTt okCTt zb_28 fa_n h
theorem h_29 : LoH k_29 := fun h => ck_ok rulT okRTt okCTt zb_29 fa_n h
theorem h_30 : LoH k_30 := fun h => ck_ok rulT okRTt okCTt zb_30 fa_n h
theorem h_31 : LoH k_31 := fun h => ck_ok rulT okRTt okCTt zb_31 (fa_c (Or.inl ⟨_, zb_31_0⟩) fa_n) h
theorem h_32 : LoH k_32 := fun h => ck_ok rulT okRTt okCTt zb_32 (fa_c (Or.inl ⟨_, zb_32_0⟩) fa_n) h
theorem h_33 : LoH k_33 := fun h => ck_ok rulT okRTt okCTt zb_33 fa_n h
theorem h_34 : LoH k_34 := fun h => ck_ok rulT okRTt okCTt zb_34 fa_n h
theorem h_35 : LoH k_35 := fun h => ck_ok rulT okRTt okCTt zb_35 fa_n h
theorem h_36 : LoH k_36 := fun h => ck_ok rulT okRTt okCTt zb_36 (fa_c (Or.inl ⟨_, zb_36_0⟩) fa_n) h
theorem h_37 : LoH k_37 := fun h => ck_ok rulT okRTt okCTt zb_37 fa_n h
theorem h_38 : LoH k_38 := fun h => ck_ok rulT okRTt okCTt zb_38 fa_n h
theorem h_39 : LoH k_39 := fun h => ck_ok rulT okRTt okCTt zb_39 fa_n h
theorem h_40 : LoH k_40 := fun h => ck_ok rulT okRTt okCTt zb_40 fa_n h
theorem h_41 : LoH k_41 := fun h => ck_ok rulT okRTt okCTt zb_41 fa_n h
theorem h_42 : LoH k_42 := fun h => ck_ok rulT okRTt okCTt zb_42 (fa_c (Or.inl ⟨_, zb_42_0⟩) fa_n) h
theorem h_43 : LoH k_43 := fun h => ck_ok rulT okRTt okCTt zb_43 (fa_c (Or.inl ⟨_, zb_43_0⟩) fa_n) h
theorem h_44 : LoH k_44 := fun h => ck_ok rulT okRTt okCTt zb_44 fa_n h
theorem h_45 : LoH k_45 := fun h => ck_ok rulT okRTt okCTt zb_45 fa_n h
theorem h_46 : LoH k_46 := fun h => ck_ok rulT okRTt okCTt zb_46 fa_n h
theorem h_47 : LoH k_47 := fun h => ck_ok rulT okRTt okCTt zb_47 (fa_c (Or.inl ⟨_, zb_47_0⟩) fa_n) h
theorem h_48 : LoH k_48 := fun h => ck_ok rulT okRTt okCTt zb_48 fa_n h
theorem h_49 : LoH k_49 := fun h => ck_ok rulT okRTt okCTt zb_49 fa_n h
theorem h_50 : LoH k_50 := fun h => ck_ok rulT okRTt okCTt zb_50 fa_n h
theorem h_51 : LoH k_51 := fun h => ck_ok rulT okRTt okCTt zb_51 fa_n h
theorem h_52 : LoH k_52 := fun h => ck_ok rulT okRTt okCTt zb_52 fa_n h
theorem h_53 : LoH k_53 := fun h => ck_ok rulT okRTt okCTt zb_53 (fa_c (Or.inl ⟨_, zb_53_0⟩) fa_n) h
theorem h_54 : LoH k_54 := fun h => ck_ok rulT okRTt okCTt zb_54 (fa_c (Or.inl ⟨_, zb_54_0⟩) fa_n) h
theorem h_55 : LoH k_55 := fun h => ck_ok rulT okRTt okCTt zb_55 (fa_c (Or.inl ⟨_, zb_55_0⟩) fa_n) h
theorem h_56 : LoH k_56 := fun h => ck_ok rulT okRTt okCTt zb_56 (fa_c (Or.inl ⟨_, zb_56_0⟩) fa_n) h
theorem h_57 : LoH k_57 := fun h => ck_ok rulT okRTt okCTt zb_57 fa_n h
theorem h_58 : LoH k_58 := fun h => ck_ok rulT okRTt okCTt zb_58 fa_n h
theorem h_59 : LoH k_59 := fun h => ck_ok rulT okRTt okCTt zb_59 fa_n h
theorem h_60 : LoH k_60 := fun h => ck_ok rulT okRTt okCTt zb_60 fa_n h
theorem h_61 : LoH k_61 := fun h => ck_ok rulT okRTt okCTt zb_61 fa_n h
theorem h_62 : LoH k_62 := fun h => ck_ok rulT okRTt okCTt zb_62 fa_n h
theorem h_63 : LoH k_63 := fun h => ck_ok rulT okRTt okCTt zb_63 fa_n h
theorem h_64 : LoH k_64 := fun h => ck_ok rulT okRTt okCTt zb_64 fa_n h
theorem h_65 : LoH k_65 := fun h => ck_ok rulT okRTt okCTt zb_65 fa_n h
theorem h_66 : LoH k_66 := fun h => ck_ok rulT okRTt okCTt zb_66 fa_n h
theorem h_67 : LoH k_67 := fun h => ck_ok rulT okRTt okCTt zb_67 (fa_c (Or.inl ⟨_, zb_67_0⟩) fa_n) h
theorem h_68 : LoH k_68 := fun h => ck_ok rulT okRTt okCTt zb_68 fa_n h
theorem h_69 : LoH k_69 := fun h => ck_ok rulT okRTt okCTt zb_69 (fa_c (Or.inl ⟨_, zb_69_0⟩) fa_n) h
theorem h_70 : LoH k_70 := fun h => ck_ok rulT okRTt okCTt zb_70 fa_n h
theorem h_71 : LoH k_71 := fun h => ck_ok rulT okRTt okCTt zb_71 (fa_c (Or.inl ⟨_, zb_71_0⟩) fa_n) h
theorem h_72 : LoH k_72 := fun h => ck_ok rulT okRTt okCTt zb_72 fa_n h
theorem h_73 : LoH k_73 := fun h => ck_ok rulT okRTt okCTt zb_73 fa_n h
theorem h_74 : LoH k_74 := fun h => ck_ok rulT okRTt okCTt zb_74 fa_n h
theorem h_75 : LoH k_75 := fun h => ck_ok rulT okRTt okCTt zb_75 fa_n h
theorem h_76 : LoH k_76 := fun h => ck_ok rulT okRTt okCTt zb_76 fa_n h
theorem h_77 : LoH k_77 := fun h => ck_ok rulT okRTt okCTt zb_77 fa_n h
theorem h_78 : LoH k_78 := fun h => ck_ok rulT okRTt okCTt zb_78 fa_n h
theorem h_79 : LoH k_79 := fun h => ck_ok rulT okRTt okCTt zb_79 fa_n h
theorem h_80 : LoH k_80 := fun h => ck_ok rulT okRTt okCTt zb_80 fa_n h
theorem h_81 : LoH k_81 := fun h => ck_ok rulT okRTt okCTt zb_81 (fa_c (Or.inl ⟨_, zb_81_0⟩) (fa_c (Or.inl ⟨_, zb_81_1⟩) fa_n)) h
theorem h_82 : LoH k_82 := fun h => ck_ok rulT okRTt okCTt zb_82 (fa_c (Or.inl ⟨_, zb_82_0⟩) fa_n) h
theorem h_83 : LoH k_83 := fun h => ck_ok rulT okRTt okCTt zb_83 (fa_c (Or.inl ⟨_, zb_83_0⟩) fa_n) h
theorem h_84 : LoH k_84 := fun h => ck_ok rulT okRTt okCTt zb_84 fa_n h
theorem h_85 : LoH k_85 := fun h => ck_ok rulT okRTt okCTt zb_85 (fa_c (Or.inl ⟨_, zb_85_0⟩) fa_n) h
theorem h_86 : LoH k_86 := fun h => ck_ok rulT okRTt okCTt zb_86 fa_n h
theorem h_87 : LoH k_87 := fun h => ck_ok rulT okRTt okCTt zb_87 fa_n h
theorem h_88 : LoH k_88 := fun h => ck_ok rulT okRTt okCTt zb_88 fa_n h
theorem h_89 : LoH k_89 := fun h => ck_ok rulT okRTt okCTt zb_89 (fa_c (Or.inl ⟨_, zb_89_0⟩) fa_n) h
theorem h_90 : LoH k_90 := fun h => ck_ok rulT okRTt okCTt zb_90 fa_n h
theorem h_91 : LoH k_91 := fun h => ck_ok rulT okRTt okCTt zb_91 (fa_c (Or.inl ⟨_, zb_91_0⟩) fa_n) h
theorem h_92 : LoH k_92 := fun h => ck_ok rulT okRTt okCTt zb_92 (fa_c (Or.inl ⟨_, zb_92_0⟩) (fa_c (Or.inl ⟨_, zb_92_1⟩) fa_n)) h
theorem h_93 : LoH k_93 := fun h => ck_ok rulT okRTt okCTt zb_93 (fa_c (Or.inl ⟨_, zb_93_0⟩) fa_n) h
theorem h_94 : LoH k_94 := fun h => ck_ok rulT okRTt okCTt zb_94 (fa_c (Or.inl ⟨_, zb_94_0⟩) (fa_c (Or.inl ⟨_, zb_94_1⟩) fa_n)) h
theorem h_95 : LoH k_95 := fun h => ck_ok rulT okRTt okCTt zb_95 (fa_c (Or.inl ⟨_, zb_95_0⟩) (fa_c (Or.inl ⟨_, zb_95_1⟩) fa_n)) h
theorem h_96 : LoH k_96 := fun h => ck_ok rulT okRTt okCTt zb_96 (fa_c (Or.inl ⟨_, zb_96_0⟩) fa_n) h
theorem h_97 : LoH k_97 := fun h => ck_ok rulT okRTt okCTt zb_97 (fa_c (Or.inl ⟨_, zb_97_0⟩) (fa_c (Or.inl ⟨_, zb_97_1⟩) fa_n)) h
theorem h_98 : LoH k_98 := fun h => ck_ok rulT okRTt okCTt zb_98 fa_n h
theorem h_99 : LoH k_99 := fun h => ck_ok rulT okRTt okCTt zb_99 (fa_c (Or.inl ⟨_, zb_99_0⟩) fa_n) h
theorem h_100 : LoH k_100 := fun h => ck_ok rulT okRTt okCTt zb_100 fa_n h
theorem h_101 : LoH k_101 := fun h => ck_ok rulT okRTt okCTt zb_101 fa_n h
theorem h_102 : LoH k_102 := fun h => ck_ok rulT okRTt okCTt zb_102 (fa_c (Or.inl ⟨_, zb_102_0⟩) (fa_c (Or.inl ⟨_, zb_102_1⟩) fa_n)) h
theorem h_103 : LoH k_103 := fun h => ck_ok rulT okRTt okCTt zb_103 (fa_c (Or.inl ⟨_, zb_103_0⟩) (fa_c (Or.inl ⟨_, zb_103_1⟩) fa_n)) h
theorem h_104 : LoH k_104 := fun h => ck_ok rulT okRTt okCTt zb_104 fa_n h
theorem h_105 : LoH k_105 := fun h => ck_ok rulT okRTt okCTt zb_105 (fa_c (Or.inl ⟨_, zb_105_0⟩) fa_n) h
theorem h_106 : LoH k_106 := fun h => ck_ok rulT okRTt okCTt zb_106 (fa_c (Or.inl ⟨_, zb_106_0⟩) (fa_c (Or.inl ⟨_, zb_106_1⟩) fa_n)) h
theorem h_107 : LoH k_107 := fun h => ck_ok rulT okRTt okCTt zb_107 fa_n h
theorem h_108 : LoH k_108 := fun h => ck_ok rulT okRTt okCTt zb_108 (fa_c (Or.inl ⟨_, zb_108_0⟩) (fa_c (Or.inl ⟨_, zb_108_1⟩) fa_n)) h
theorem h_109 : LoH k_109 := fun h => ck_ok rulT okRTt okCTt zb_109 fa_n h
theorem h_110 : LoH k_110 := fun h => ck_ok rulT okRTt okCTt zb_110 fa_n h
theorem h_111 : LoH k_111 := fun h => ck_ok rulT okRTt okCTt zb_111 (fa_c (Or.inl ⟨_, zb_111_0⟩) fa_n) h
theorem h_112 : LoH k_112 := fun h => ck_ok rulT okRTt okCTt zb_112 (fa_c (Or.inl ⟨_, zb_112_0⟩) fa_n) h
theorem h_113 : LoH k_113 := fun h => ck_ok rulT okRTt okCTt zb_113 (fa_c (Or.inl ⟨_, zb_113_0⟩) fa_n) h
theorem h_114 : LoH k_114 := fun h => ck_ok rulT okRTt okCTt zb_114 (fa_c (Or.inl ⟨_, zb_114_0⟩) fa_n) h
theorem h_115 : LoH k_115 := fun h => ck_ok rulT okRTt okCTt zb_115 (fa_c (Or.inl ⟨_, zb_115_0⟩) fa_n) h
theorem h_116 : LoH k_116 := fun h => ck_ok rulT okRTt okCTt zb_116 (fa_c (Or.inl ⟨_, zb_116_0⟩) fa_n) h
theorem h_117 : LoH k_117 := fun h => ck_ok rulT okRTt okCTt zb_117 (fa_c (Or.inl ⟨_, zb_117_0⟩) fa_n) h
theorem h_118 : LoH k_118 := fun h => ck_ok rulT okRTt okCTt zb_118 (fa_c (Or.inl ⟨_, zb_118_0⟩) fa_n) h
theorem h_119 : LoH k_119 := fun h => ck_ok rulT okRTt okCTt zb_119 (fa_c (Or.inl ⟨_, zb_119_0⟩) fa_n) h
theorem h_120 : LoH k_120 := fun h => ck_ok rulT okRTt okCTt zb_120 (fa_c (Or.inl ⟨_, zb_120_0⟩) fa_n) h
theorem h_121 : LoH k_121 := fun h => ck_ok rulT okRTt okCTt zb_121 (fa_c (Or.inl ⟨_, zb_121_0⟩) fa_n) h
theorem h_122 : LoH k_122 := fun h => ck_ok rulT okRTt okCTt zb_122 fa_n h
theorem h_123 : LoH k_123 := fun h => ck_ok rulT okRTt okCTt zb_123 (fa_c (Or.inl ⟨_, zb_123_0⟩) fa_n) h
theorem h_124 : LoH k_124 := fun h => ck_ok rulT okRTt okCTt zb_124 (fa_c (Or.inl ⟨_, zb_124_0⟩) fa_n) h
theorem h_125 : LoH k_125 := fun h => ck_ok rulT okRTt okCTt zb_125 fa_n h
theorem h_126 : LoH k_126 := fun h => ck_ok rulT okRTt okCTt zb_126 (fa_c (Or.inl ⟨_, zb_126_0⟩) fa_n) h
theorem h_127 : LoH k_127 := fun h => ck_ok rulT okRTt okCTt zb_127 (fa_c (Or.inl ⟨_, zb_127_0⟩) fa_n) h
theorem h_128 : LoH k_128 := fun h => ck_ok rulT okRTt okCTt zb_128 fa_n h
theorem h_129 : LoH k_129 := fun h => ck_ok rulT okRTt okCTt zb_129 (fa_c (Or.inl ⟨_, zb_129_0⟩) fa_n) h
theorem h_130 : LoH k_130 := fun h => ck_ok rulT okRTt okCTt zb_130 (fa_c (Or.inl ⟨_, zb_130_0⟩) fa_n) h
theorem h_131 : LoH k_131 := fun h => ck_ok rulT okRTt okCTt zb_131 fa_n h
theorem h_132 : LoH k_132 := fun h => ck_ok rulT okRTt okCTt zb_132 (fa_c (Or.inl ⟨_, zb_132_0⟩) fa_n) h
theorem h_133 : LoH k_133 := fun h => ck_ok rulT okRTt okCTt zb_133 (fa_c (Or.inl ⟨_, zb_133_0⟩) fa_n) h
theorem h_134 : LoH k_134 := fun h => ck_ok rulT okRTt okCTt zb_134 fa_n h
theorem h_135 : LoH k_135 := fun h => ck_ok rulT okRTt okCTt zb_135 (fa_c (Or.inl ⟨_, zb_135_0⟩) fa_n) h
theorem h_136 : LoH k_136 := fun h => ck_ok rulT okRTt okCTt zb_136 (fa_c (Or.inl ⟨_, zb_136_0⟩) fa_n) h
theorem h_137 : LoH k_137 := fun h => ck_ok rulT okRTt okCTt zb_137 fa_n h
theorem h_138 : LoH k_138 := fun h => ck_ok rulT okRTt okCTt zb_138 (fa_c (Or.inl ⟨_, zb_138_0⟩) fa_n) h
theorem h_139 : LoH k_139 := fun h => ck_ok rulT okRTt okCTt zb_139 (fa_c (Or.inl ⟨_, zb_139_0⟩) fa_n) h
theorem h_140 : LoH k_140 := fun h => ck_ok rulT okRTt okCTt zb_140 fa_n h
theorem h_141 : LoH k_141 := fun h => ck_ok rulT okRTt okCTt zb_141 (fa_c (Or.inl ⟨_, zb_141_0⟩) fa_n) h
theorem h_142 : LoH k_142 := fun h => ck_ok rulT okRTt okCTt zb_142 (fa_c (Or.inl ⟨_, zb_142_0⟩) fa_n) h
theorem h_143 : LoH k_143 := fun h => ck_ok rulT okRTt okCTt zb_143 fa_n h
theorem h_144 : LoH k_144 := fun h => ck_ok rulT okRTt okCTt zb_144 (fa_c (Or.inl ⟨_, zb_144_0⟩) fa_n) h
theorem h_145 : LoH k_145 := fun h => ck_ok rulT okRTt okCTt zb_145 (fa_c (Or.inl ⟨_, zb_145_0⟩) fa_n) h
theorem h_146 : LoH k_146 := fun h => ck_ok rulT okRTt okCTt zb_146 fa_n h
theorem h_147 : LoH k_147 := fun h => ck_ok rulT okRTt okCTt zb_147 (fa_c (Or.inl ⟨_, zb_147_0⟩) fa_n) h
theorem h_148 : LoH k_148 := fun h => ck_ok rulT okRTt okCTt zb_148 (fa_c (Or.inl ⟨_, zb_148_0⟩) fa_n) h
theorem h_149 : LoH k_149 := fun h => ck_ok rulT okRTt okCTt zb_149 fa_n h
theorem h_150 : LoH k_150 := fun h => ck_ok rulT okRTt okCTt zb_150 (fa_c (Or.inl ⟨_, zb_150_0⟩) fa_n) h
theorem h_151 : LoH k_151 := fun h => ck_ok rulT okRTt okCTt zb_151 (fa_c (Or.inl ⟨_, zb_151_0⟩) fa_n) h
theorem h_152 : LoH k_152 := fun h => ck_ok rulT okRTt okCTt zb_152 fa_n h
theorem h_153 : LoH k_153 := fun h => ck_ok rulT okRTt okCTt zb_153 (fa_c (Or.inl ⟨_, zb_153_0⟩) fa_n) h
theorem h_154 : LoH k_154 := fun h => ck_ok rulT okRTt okCTt zb_154 (fa_c (Or.inl ⟨_, zb_154_0⟩) fa_n) h
theorem h_155 : LoH k_155 := fun h => ck_ok rulT okRTt okCTt zb_155 fa_n h
theorem h_156 : LoH k_156 := fun h => ck_ok rulT okRTt okCTt zb_156 (fa_c (Or.inl ⟨_, zb_156_0⟩) fa_n) h
theorem h_157 : LoH k_157 := fun h => ck_ok rulT okRTt okCTt zb_157 (fa_c (Or.inl ⟨_, zb_157_0⟩) fa_n) h
theorem h_158 : LoH k_158 := fun h => ck_ok rulT okRTt okCTt zb_158 fa_n h
theorem h_159 : LoH k_159 := fun h => ck_ok rulT okRTt okCTt zb_159 (fa_c (Or.inl ⟨_, zb_159_0⟩) fa_n) h
theorem h_160 : LoH k_160 := fun h => ck_ok rulT okRTt okCTt zb_160 (fa_c (Or.inl ⟨_, zb_160_0⟩) fa_n) h
theorem h_161 : LoH k_161 := fun h => ck_ok rulT okRTt okCTt zb_161 fa_n h
theorem h_162 : LoH k_162 := fun h => ck_ok rulT okRTt okCTt zb_162 (fa_c (Or.inl ⟨_, zb_162_0⟩) fa_n) h
theorem h_163 : LoH k_163 := fun h => ck_ok rulT okRTt okCTt zb_163 (fa_c (Or.inl ⟨_, zb_163_0⟩) fa_n) h
theorem h_164 : LoH k_164 := fun h => ck_ok rulT okRTt okCTt zb_164 fa_n h
theorem h_165 : LoH k_165 := fun h => ck_ok rulT okRTt okCTt zb_165 (fa_c (Or.inl ⟨_, zb_165_0⟩) fa_n) h
theorem h_166 : LoH k_166 := fun h => ck_ok rulT okRTt okCTt zb_166 (fa_c (Or.inl ⟨_, zb_166_0⟩) fa_n) h
theorem h_167 : LoH k_167 := fun h => ck_ok rulT okRTt okCTt zb_167 fa_n h
theorem h_168 : LoH k_168 := fun h => ck_ok rulT okRTt okCTt zb_168 (fa_c (Or.inl ⟨_, zb_168_0⟩) fa_n) h
theorem h_169 : LoH k_169 := fun h => ck_ok rulT okRTt okCTt zb_169 (fa_c (Or.inl ⟨_, zb_169_0⟩) fa_n) h
theorem h_170 : LoH k_170 := fun h => ck_ok rulT okRTt okCTt zb_170 fa_n h
theorem h_171 : LoH k_171 := fun h => ck_ok rulT okRTt okCTt zb_171 fa_n h
theorem h_172 : LoH k_172 := fun h => ck_ok rulT okRTt okCTt zb_172 fa_n h
theorem h_173 : LoH k_173 := fun h => ck_ok rulT okRTt okCTt zb_173 fa_n h
theorem h_174 : LoH k_174 := fun h => ck_ok rulT okRTt okCTt zb_174 fa_n h
theorem h_175 : LoH k_175 := fun h => ck_ok rulT okRTt okCTt zb_175 fa_n h
theorem h_176 : LoH k_176 := fun h => ck_ok rulT okRTt okCTt zb_176 (fa_c (Or.inl ⟨_, zb_176_0⟩) fa_n) h
theorem h_177 : LoH k_177 := fun h => ck_ok rulT okRTt okCTt zb_177 fa_n h
theorem h_178 : LoH k_178 := fun h => ck_ok rulT okRTt okCTt zb_178 fa_n h
theorem h_179 : LoH k_179 := fun h => ck_ok rulT okRTt okCTt zb_179 (fa_c (Or.inl ⟨_, zb_179_0⟩) fa_n) h
theorem h_180 : LoH k_180 := fun h => ck_ok rulT okRTt okCTt zb_180 (fa_c (Or.inl ⟨_, zb_180_0⟩) fa_n) h
theorem h_181 : LoH k_181 := fun h => ck_ok rulT okRTt okCTt zb_181 fa_n h
theorem h_182 : LoH k_182 := fun h => ck_ok rulT okRTt okCTt zb_182 fa_n h
theorem h_183 : LoH k_183 := fun h => ck_ok rulT okRTt okCTt zb_183 (fa_c (Or.inl ⟨_, zb_183_0⟩) (fa_c (Or.inl ⟨_, zb_183_1⟩) fa_n)) h
theorem h_184 : LoH k_184 := fun h => ck_ok rulT okRTt okCTt zb_184 (fa_c (Or.inl ⟨_, zb_184_0⟩) (fa_c (Or.inl ⟨_, zb_184_1⟩) fa_n)) h
theorem h_185 : LoH k_185 := fun h => ck_ok rulT okRTt okCTt zb_185 fa_n h
theorem h_186 : LoH k_186 := fun h => ck_ok rulT okRTt okCTt zb_186 (fa_c (Or.inl ⟨_, zb_186_0⟩) (fa_c (Or.inl ⟨_, zb_186_1⟩) fa_n)) h
theorem h_187 : LoH k_187 := fun h => ck_ok rulT okRTt okCTt zb_187 (fa_c (Or.inl ⟨_, zb_187_0⟩) (fa_c (Or.inl ⟨_, zb_187_1⟩) fa_n)) h
theorem h_188 : LoH k_188 := fun h => ck_ok rulT okRTt okCTt zb_188 fa_n h
theorem h_189 : LoH k_189 := fun h => ck_ok rulT okRTt okCTt zb_189 (fa_c (Or.inl ⟨_, zb_189_0⟩) (fa_c (Or.inl ⟨_, zb_189_1⟩) fa_n)) h
theorem h_190 : LoH k_190 := fun h => ck_ok rulT okRTt okCTt zb_190 (fa_c (Or.inl ⟨_, zb_190_0⟩) (fa_c (Or.inl ⟨_, zb_190_1⟩) fa_n)) h
theorem h_191 : LoH k_191 := fun h => ck_ok rulT okRTt okCTt zb_191 fa_n h
theorem h_192 : LoH k_192 := fun h => ck_ok rulT okRTt okCTt zb_192 (fa_c (Or.inl ⟨_, zb_192_0⟩) (fa_c (Or.inl ⟨_, zb_192_1⟩) fa_n)) h
theorem h_193 : LoH k_193 := fun h => ck_ok rulT okRTt okCTt zb_193 (fa_c (Or.inl ⟨_, zb_193_0⟩) (fa_c (Or.inl ⟨_, zb_193_1⟩) fa_n)) h
theorem h_194 : LoH k_194 := fun h => ck_ok rulT okRTt okCTt zb_194 fa_n h
theorem h_195 : LoH k_195 := fun h => ck_ok rulT okRTt okCTt zb_195 (fa_c (Or.inl ⟨_, zb_195_0⟩) (fa_c (Or.inl ⟨_, zb_195_1⟩) fa_n)) h
theorem h_196 : LoH k_196 := fun h => ck_ok rulT okRTt okCTt zb_196 (fa_c (Or.inl ⟨_, zb_196_0⟩) (fa_c (Or.inl ⟨_, zb_196_1⟩) (fa_c (Or.inl ⟨_, zb_196_2⟩) (fa_c (Or.inl ⟨_, zb_196_3⟩) fa_n)))) h
theorem h_197 : LoH k_197 := fun h => ck_ok rulT okRTt okCTt zb_197 (fa_c (Or.inl ⟨_, zb_197_0⟩) fa_n) h
theorem h_198 : LoH k_198 := fun h => ck_ok rulT okRTt okCTt zb_198 (fa_c (Or.inl ⟨_, zb_198_0⟩) fa_n) h
theorem h_199 : LoH k_199 := fun h => ck_ok rulT okRTt okCTt zb_199 (fa_c (Or.inl ⟨_, zb_199_0⟩) (fa_c (Or.inl ⟨_, zb_199_1⟩) fa_n)) h
theorem h_200 : LoH k_200 := fun h => ck_ok rulT okRTt okCTt zb_200 (fa_c (Or.inl ⟨_, zb_200_0⟩) (fa_c (Or.inl ⟨_, zb_200_1⟩) (fa_c (Or.inl ⟨_, zb_200_2⟩) (fa_c (Or.inl ⟨_, zb_200_3⟩) fa_n)))) h
theorem h_201 : LoH k_201 := fun h => ck_ok rulT okRTt okCTt zb_201 (fa_c (Or.inl ⟨_, zb_201_0⟩) fa_n) h
theorem h_202 : LoH k_202 := fun h => ck_ok rulT okRTt okCTt zb_202 (fa_c (Or.inl ⟨_, zb_202_0⟩) fa_n) h
theorem h_203 : LoH k_203 := fun h => ck_ok rulT okRTt okCTt zb_203 fa_n h
theorem h_204 : LoH k_204 := fun h => hold_204 (h k_51 (List.mem_of_getElem? (i := 51) rfl) (by decide))
theorem h_205 : LoH k_205 := fun _ => hold_205
theorem h_206 : LoH k_206 := fun h => ck_ok rulT okRTt okCTt zb_206 (fa_c (Or.inl ⟨_, zb_206_0⟩) fa_n) h
theorem h_207 : LoH k_207 := fun h => ck_ok rulT okRTt okCTt zb_207 (fa_c (Or.inl ⟨_, zb_207_0⟩) fa_n) h
theorem h_208 : LoH k_208 := fun h => hold_208 (h k_52 (List.mem_of_getElem? (i := 52) rfl) (by decide))
theorem h_209 : LoH k_209 := fun _ => hold_209
theorem h_210 : LoH k_210 := fun h => ck_ok rulT okRTt okCTt zb_210 (fa_c (Or.inl ⟨_, zb_210_0⟩) fa_n) h
theorem h_211 : LoH k_211 := fun h => ck_ok rulT okRTt okCTt zb_211 (fa_c (Or.inl ⟨_, zb_211_0⟩) fa_n) h
theorem h_212 : LoH k_212 := fun h => ck_ok rulT okRTt okCTt zb_212 fa_n h
theorem h_213 : LoH k_213 := fun h => ck_ok rulT okRTt okCTt zb_213 fa_n h
theorem h_214 : LoH k_214 := fun h => ck_ok rulT okRTt okCTt zb_214 fa_n h
theorem h_215 : LoH k_215 := fun h => ck_ok rulT okRTt okCTt zb_215 fa_n h
theorem h_216 : LoH k_216 := fun h => ck_ok rulT okRTt okCTt zb_216 fa_n h
theorem h_217 : LoH k_217 := fun h => ck_ok rulT okRTt okCTt zb_217 fa_n h
theorem h_218 : LoH k_218 := fun h => ck_ok rulT okRTt okCTt zb_218 fa_n h
theorem h_219 : LoH k_219 := fun h => ck_ok rulT okRTt okCTt zb_219 fa_n h
theorem h_220 : LoH k_220 := fun h => ck_ok rulT okRTt okCTt zb_220 fa_n h
theorem h_221 : LoH k_221 := fun h => ck_ok rulT okRTt okCTt zb_221 fa_n h
theorem h_222 : LoH k_222 := fun h => ck_ok rulT okRTt okCTt zb_222 fa_n h
theorem h_223 : LoH k_223 := fun h => ck_ok rulT okRTt okCTt zb_223 fa_n h
theorem h_224 : LoH k_224 := fun h => ck_ok rulT okRTt okCTt zb_224 fa_n h
theorem h_225 : LoH k_225 := fun h => ck_ok rulT okRTt okCTt zb_225 fa_n h
theorem h_226 : LoH k_226 := fun h => ck_ok rulT okRTt okCTt zb_226 fa_n h
theorem h_227 : LoH k_227 := fun h => ck_ok rulT okRTt okCTt zb_227 fa_n h
theorem h_228 : LoH k_228 := fun h => ck_ok rulT okRTt okCTt zb_228 fa_n h
theorem h_229 : LoH k_229 := fun h => ck_ok rulT okRTt okCTt zb_229 fa_n h
theorem h_230 : LoH k_230 := fun h => ck_ok rulT okRTt okCTt zb_230 fa_n h
theorem h_231 : LoH k_231 := fun h => ck_ok rulT okRTt okCTt zb_231 fa_n h
theorem h_232 : LoH k_232 := fun h => ck_ok rulT okRTt okCTt zb_232 fa_n h
theorem h_233 : LoH k_233 := fun h => ck_ok rulT okRTt okCTt zb_233 fa_n h
theorem h_234 : LoH k_234 := fun h => ck_ok rulT okRTt okCTt zb_234 fa_n h
theorem h_235 : LoH k_235 := fun h => ck_ok rulT okRTt okCTt zb_235 fa_n h
theorem h_236 : LoH k_236 := fun h => ck_ok rulT okRTt okCTt zb_236 fa_n h
theorem h_237 : LoH k_237 := fun h => ck_ok rulT okRTt okCTt zb_237 fa_n h
theorem h_238 : LoH k_238 := fun h => ck_ok rulT okRTt okCTt zb_238 fa_n h
theorem h_239 : LoH k_239 := fun h => ck_ok rulT okRTt okCTt zb_239 fa_n h
theorem h_240 : LoH k_240 := fun h => ck_ok rulT okRTt okCTt zb_240 fa_n h
theorem h_241 : LoH k_241 := fun h => ck_ok rulT okRTt okCTt zb_241 fa_n h
theorem h_242 : LoH k_242 := fun h => ck_ok rulT okRTt okCTt zb_242 fa_n h
theorem h_243 : LoH k_243 := fun h => ck_ok rulT okRTt okCTt zb_243 fa_n h
theorem h_244 : LoH k_244 := fun h => ck_ok rulT okRTt okCTt zb_244 fa_n h
theorem h_245 : LoH k_245 := fun h => ck_ok rulT okRTt okCTt zb_245 fa_n h
theorem h_246 : LoH k_246 := fun h => ck_ok rulT okRTt okCTt zb_246 fa_n h
theorem h_247 : LoH k_247 := fun h => ck_ok rulT okRTt okCTt zb_247 fa_n h
theorem h_248 : LoH k_248 := fun h => ck_ok rulT okRTt okCTt zb_248 fa_n h
theorem h_249 : LoH k_249 := fun h => ck_ok rulT okRTt okCTt zb_249 fa_n h
theorem h_250 : LoH k_250 := fun h => ck_ok rulT okRTt okCTt zb_250 fa_n h
theorem h_251 : LoH k_251 := fun h => ck_ok rulT okRTt okCTt zb_251 fa_n h
theorem h_252 : LoH k_252 := fun h => ck_ok rulT okRTt okCTt zb_252 fa_n h
theorem h_253 : LoH k_253 := fun h => ck_ok rulT okRTt okCTt zb_253 fa_n h
theorem h_254 : LoH k_254 := fun h => ck_ok rulT okRTt okCTt zb_254 fa_n h
theorem h_255 : LoH k_255 := fun h => ck_ok rulT okRTt okCTt zb_255 fa_n h
theorem h_256 : LoH k_256 := fun h => ck_ok rulT okRTt okCTt zb_256 fa_n h
theorem h_257 : LoH k_257 := fun h => ck_ok rulT okRTt okCTt zb_257 fa_n h
theorem h_258 : LoH k_258 := fun h => ck_ok rulT okRTt okCTt zb_258 fa_n h
theorem h_259 : LoH k_259 := fun h => ck_ok rulT okRTt okCTt zb_259 fa_n h
theorem h_260 : LoH k_260 := fun h => ck_ok rulT okRTt okCTt zb_260 fa_n h
theorem h_261 : LoH k_261 := fun h => ck_ok rulT okRTt okCTt zb_261 fa_n h
theorem h_262 : LoH k_262 := fun h => ck_ok rulT okRTt okCTt zb_262 fa_n h
theorem h_263 : LoH k_263 := fun h => ck_ok rulT okRTt okCTt zb_263 fa_n h
theorem h_264 : LoH k_264 := fun h => ck_ok rulT okRTt okCTt zb_264 fa_n h
theorem h_265 : LoH k_265 := fun h => ck_ok rulT okRTt okCTt zb_265 (fa_c (Or.inl ⟨_, zb_265_0⟩) fa_n) h
theorem h_266 : LoH k_266 := fun h => ck_ok rulT okRTt okCTt zb_266 (fa_c (Or.inl ⟨_, zb_266_0⟩) fa_n) h
theorem h_267 : LoH k_267 := fun h => ck_ok rulT okRTt okCTt zb_267 fa_n h
theorem h_268 : LoH k_268 := fun h => ck_ok rulT okRTt okCTt zb_268 fa_n h
theorem h_269 : LoH k_269 := fun h => ck_ok rulT okRTt okCTt zb_269 fa_n h
theorem h_270 : LoH k_270 := fun h => ck_ok rulT okRTt okCTt zb_270 fa_n h
theorem h_271 : LoH k_271 := fun h => ck_ok rulT okRTt okCTt zb_271 fa_n h
theorem h_272 : LoH k_272 := fun h => ck_ok rulT okRTt okCTt zb_272 (fa_c (Or.inl ⟨_, zb_272_0⟩) fa_n) h
theorem h_273 : LoH k_273 := fun h => ck_ok rulT okRTt okCTt zb_273 fa_n h
theorem h_274 : LoH k_274 := fun h => ck_ok rulT okRTt okCTt zb_274 fa_n h
theorem h_275 : LoH k_275 := fun h => ck_ok rulT okRTt okCTt zb_275 fa_n h
theorem h_276 : LoH k_276 := fun h => ck_ok rulT okRTt okCTt zb_276 (fa_c (Or.inl ⟨_, zb_276_0⟩) (fa_c (Or.inl ⟨_, zb_276_1⟩) fa_n)) h
theorem h_277 : LoH k_277 := fun h => ck_ok rulT okRTt okCTt zb_277 fa_n h
theorem h_278 : LoH k_278 := fun h => ck_ok rulT okRTt okCTt zb_278 fa_n h
theorem h_279 : LoH k_279 := fun h => ck_ok rulT okRTt okCTt zb_279 fa_n h
theorem h_280 : LoH k_280 := fun h => ck_ok rulT okRTt okCTt zb_280 (fa_c (Or.inl ⟨_, zb_280_0⟩) fa_n) h
theorem h_281 : LoH k_281 := fun h => ck_ok rulT okRTt okCTt zb_281 (fa_c (Or.inl ⟨_, zb_281_0⟩) (fa_c (Or.inl ⟨_, zb_281_1⟩) fa_n)) h
theorem h_282 : LoH k_282 := fun h => ck_ok rulT okRTt okCTt zb_282 (fa_c (Or.inl ⟨_, zb_282_0⟩) (fa_c (Or.inl ⟨_, zb_282_1⟩) (fa_c (Or.inl ⟨_, zb_282_2⟩) (fa_c (Or.inl ⟨_, zb_282_3⟩) (fa_c (Or.inl ⟨_, zb_282_4⟩) fa_n))))) h
theorem h_283 : LoH k_283 := fun h => ck_ok rulT okRTt okCTt zb_283 fa_n h
theorem h_284 : LoH k_284 := fun h => ck_ok rulT okRTt okCTt zb_284 (fa_c (Or.inl ⟨_, zb_284_0⟩) (fa_c (Or.inl ⟨_, zb_284_1⟩) (fa_c (Or.inl ⟨_, zb_284_2⟩) fa_n))) h
theorem h_285 : LoH k_285 := fun h => ck_ok rulT okRTt okCTt zb_285 fa_n h
theorem h_286 : LoH k_286 := fun h => ck_ok rulT okRTt okCTt zb_286 fa_n h
theorem h_287 : LoH k_287 := fun h => ck_ok rulT okRTt okCTt zb_287 fa_n h
theorem h_288 : LoH k_288 := fun h => ck_ok rulT okRTt okCTt zb_288 fa_n h
theorem h_289 : LoH k_289 := fun h => ck_ok rulT okRTt okCTt zb_289 fa_n h
theorem h_290 : LoH k_290 := fun h => ck_ok rulT okRTt okCTt zb_290 fa_n h
theorem h_291 : LoH k_291 := fun h => ck_ok rulT okRTt okCTt zb_291 fa_n h
theorem h_292 : LoH k_292 := fun h => ck_ok rulT okRTt okCTt zb_292 fa_n h
theorem h_293 : LoH k_293 := fun h => ck_ok rulT okRTt okCTt zb_293 fa_n h
theorem h_294 : LoH k_294 := fun h => ck_ok rulT okRTt okCTt zb_294 fa_n h
theorem h_295 : LoH k_295 := fun h => ck_ok rulT okRTt okCTt zb_295 (fa_c (Or.inl ⟨_, zb_295_0⟩) (fa_c (Or.inl ⟨_, zb_295_1⟩) (fa_c (Or.inl ⟨_, zb_295_2⟩) fa_n))) h
theorem h_296 : LoH k_296 := fun h => ck_ok rulT okRTt okCTt zb_296 fa_n h
theorem h_297 : LoH k_297 := fun h => ck_ok rulT okRTt okCTt zb_297 (fa_c (Or.inl ⟨_, zb_297_0⟩) fa_n) h
theorem h_298 : LoH k_298 := fun h => ck_ok rulT okRTt okCTt zb_298 fa_n h
theorem h_299 : LoH k_299 := fun h => ck_ok rulT okRTt okCTt zb_299 (fa_c (Or.inl ⟨_, zb_299_0⟩) (fa_c (Or.inl ⟨_, zb_299_1⟩) fa_n)) h
theorem h_300 : LoH k_300 := fun h => ck_ok rulT okRTt okCTt zb_300 fa_n h
theorem h_301 : LoH k_301 := fun h => ck_ok rulT okRTt okCTt zb_301 fa_n h
theorem h_302 : LoH k_302 := fun h => ck_ok rulT okRTt okCTt zb_302 (fa_c (Or.inl ⟨_, zb_302_0⟩) fa_n) h
theorem h_303 : LoH k_303 := fun h => ck_ok rulT okRTt okCTt zb_303 (fa_c (Or.inl ⟨_, zb_303_0⟩) (fa_c (Or.inl ⟨_, zb_303_1⟩) fa_n)) h
theorem h_304 : LoH k_304 := fun h => ck_ok rulT okRTt okCTt zb_304 fa_n h
theorem h_305 : LoH k_305 := fun h => ck_ok rulT okRTt okCTt zb_305 (fa_c (Or.inl ⟨_, zb_305_0⟩) (fa_c (Or.inl ⟨_, zb_305_1⟩) fa_n)) h
theorem h_306 : LoH k_306 := fun h => ck_ok rulT okRTt okCTt zb_306 (fa_c (Or.inl ⟨_, zb_306_0⟩) fa_n) h
theorem h_307 : LoH k_307 := fun h => ck_ok rulT okRTt okCTt zb_307 (fa_c (Or.inl ⟨_, zb_307_0⟩) (fa_c (Or.inl ⟨_, zb_307_1⟩) fa_n)) h
theorem h_308 : LoH k_308 := fun h => ck_ok rulT okRTt okCTt zb_308 fa_n h
theorem h_309 : LoH k_309 := fun h => ck_ok rulT okRTt okCTt zb_309 (fa_c (Or.inl ⟨_, zb_309_0⟩) fa_n) h
theorem h_310 : LoH k_310 := fun h => ck_ok rulT okRTt okCTt zb_310 fa_n h
theorem h_311 : LoH k_311 := fun h => ck_ok rulT okRTt okCTt zb_311 fa_n h
theorem h_312 : LoH k_312 := fun h => ck_ok rulT okRTt okCTt zb_312 (fa_c (Or.inl ⟨_, zb_312_0⟩) fa_n) h
theorem h_313 : LoH k_313 := fun h => ck_ok rulT okRTt okCTt zb_313 fa_n h
theorem h_314 : LoH k_314 := fun h => ck_ok rulT okRTt okCTt zb_314 (fa_c (Or.inl ⟨_, zb_314_0⟩) (fa_c (Or.inl ⟨_, zb_314_1⟩) (fa_c (Or.inl ⟨_, zb_314_2⟩) fa_n))) h
theorem h_315 : LoH k_315 := fun h => ck_ok rulT okRTt okCTt zb_315 (fa_c (Or.inl ⟨_, zb_315_0⟩) (fa_c (Or.inl ⟨_, zb_315_1⟩) (fa_c (Or.inl ⟨_, zb_315_2⟩) fa_n))) h
theorem h_316 : LoH k_316 := fun h => ck_ok rulT okRTt okCTt zb_316 fa_n h
theorem h_317 : LoH k_317 := fun h => ck_ok rulT okRTt okCTt zb_317 fa_n h
theorem h_318 : LoH k_318 := fun h => ck_ok rulT okRTt okCTt zb_318 fa_n h
theorem h_319 : LoH k_319 := fun h => ck_ok rulT okRTt okCTt zb_319 fa_n h
theorem h_320 : LoH k_320 := fun h => ck_ok rulT okRTt okCTt zb_320 fa_n h
theorem h_321 : LoH k_321 := fun h => ck_ok rulT okRTt okCTt zb_321 fa_n h
theorem h_322 : LoH k_322 := fun h => ck_ok rulT okRTt okCTt zb_322 fa_n h
theorem h_323 : LoH k_323 := fun h => ck_ok rulT okRTt okCTt zb_323 fa_n h
theorem h_324 : LoH k_324 := fun h => ck_ok rulT okRTt okCTt zb_324 fa_n h
theorem h_325 : LoH k_325 := fun h => ck_ok rulT okRTt okCTt zb_325 fa_n h
theorem h_326 : LoH k_326 := fun h => ck_ok rulT okRTt okCTt zb_326 fa_n h
theorem h_327 : LoH k_327 := fun h => ck_ok rulT okRTt okCTt zb_327 fa_n h
theorem h_328 : LoH k_328 := fun h => ck_ok rulT okRTt okCTt zb_328 fa_n h
theorem h_329 : LoH k_329 := fun h => ck_ok rulT okRTt okCTt zb_329 fa_n h
theorem h_330 : LoH k_330 := fun h => ck_ok rulT okRTt okCTt zb_330 fa_n h
theorem h_331 : LoH k_331 := fun h => ck_ok rulT okRTt okCTt zb_331 fa_n h
theorem h_332 : LoH k_332 := fun h => ck_ok rulT okRTt okCTt zb_332 (fa_c (Or.inl ⟨_, zb_332_0⟩) (fa_c (Or.inl ⟨_, zb_332_1⟩) (fa_c (Or.inr hc_332) (fa_c (Or.inl ⟨_, zb_332_3⟩) (fa_c (Or.inl ⟨_, zb_332_4⟩) (fa_c (Or.inl ⟨_, zb_332_5⟩) (fa_c (Or.inl ⟨_, zb_332_6⟩) (fa_c (Or.inl ⟨_, zb_332_7⟩) (fa_c (Or.inl ⟨_, zb_332_8⟩) fa_n))))))))) h
theorem h_333 : LoH k_333 := fun h => ck_ok rulT okRTt okCTt zb_333 fa_n h
theorem h_334 : LoH k_334 := fun h => ck_ok rulT okRTt okCTt zb_334 fa_n h
theorem h_335 : LoH k_335 := fun h => ck_ok rulT okRTt okCTt zb_335 fa_n h
theorem h_336 : LoH k_336 := fun h => ck_ok rulT okRTt okCTt zb_336 fa_n h
theorem h_337 : LoH k_337 := fun h => ck_ok rulT okRTt okCTt zb_337 fa_n h
theorem h_338 : LoH k_338 := fun h => ck_ok rulT okRTt okCTt zb_338 (fa_c (Or.inl ⟨_, zb_338_0⟩) fa_n) h
theorem h_339 : LoH k_339 := fun h => ck_ok rulT okRTt okCTt zb_339 (fa_c (Or.inr hc_339) (fa_c (Or.inl ⟨_, zb_339_1⟩) (fa_c (Or.inl ⟨_, zb_339_2⟩) fa_n))) h
theorem h_340 : LoH k_340 := fun h => ck_ok rulT okRTt okCTt zb_340 (fa_c (Or.inl ⟨_, zb_340_0⟩) (fa_c (Or.inl ⟨_, zb_340_1⟩) (fa_c (Or.inl ⟨_, zb_340_2⟩) (fa_c (Or.inl ⟨_, zb_340_3⟩) (fa_c (Or.inl ⟨_, zb_340_4⟩) (fa_c (Or.inl ⟨_, zb_340_5⟩) fa_n)))))) h
theorem h_341 : LoH k_341 := fun h => ck_ok rulT okRTt okCTt zb_341 (fa_c (Or.inl ⟨_, zb_341_0⟩) (fa_c (Or.inl ⟨_, zb_341_1⟩) (fa_c (Or.inl ⟨_, zb_341_2⟩) fa_n))) h
theorem h_342 : LoH k_342 := fun h => ck_ok rulT okRTt okCTt zb_342 (fa_c (Or.inr hc_342) (fa_c (Or.inl ⟨_, zb_342_1⟩) (fa_c (Or.inl ⟨_, zb_342_2⟩) fa_n))) h
theorem h_343 : LoH k_343 := fun h => ck_ok rulT okRTt okCTt zb_343 (fa_c (Or.inl ⟨_, zb_343_0⟩) (fa_c (Or.inl ⟨_, zb_343_1⟩) (fa_c (Or.inl ⟨_, zb_343_2⟩) (fa_c (Or.inl ⟨_, zb_343_3⟩) (fa_c (Or.inl ⟨_, zb_343_4⟩) (fa_c (Or.inl ⟨_, zb_343_5⟩) fa_n)))))) h
theorem h_344 : LoH k_344 := fun h => ck_ok rulT okRTt okCTt zb_344 (fa_c (Or.inl ⟨_, zb_344_0⟩) (fa_c (Or.inl ⟨_, zb_344_1⟩) (fa_c (Or.inl ⟨_, zb_344_2⟩) fa_n))) h
theorem h_345 : LoH k_345 := fun h => ck_ok rulT okRTt okCTt zb_345 (fa_c (Or.inl ⟨_, zb_345_0⟩) fa_n) h
theorem h_346 : LoH k_346 := fun h => ck_ok rulT okRTt okCTt zb_346 fa_n h
theorem h_347 : LoH k_347 := fun h => ck_ok rulT okRTt okCTt zb_347 (fa_c (Or.inl ⟨_, zb_347_0⟩) fa_n) h
theorem h_348 : LoH k_348 := fun h => ck_ok rulT okRTt okCTt zb_348 (fa_c (Or.inl ⟨_, zb_348_0⟩) fa_n) h
theorem h_349 : LoH k_349 := fun h => ck_ok rulT okRTt okCTt zb_349 fa_n h
theorem h_350 : LoH k_350 := fun h => ck_ok rulT okRTt okCTt zb_350 (fa_c (Or.inl ⟨_, zb_350_0⟩) fa_n) h
theorem h_351 : LoH k_351 := fun h => ck_ok rulT okRTt okCTt zb_351 (fa_c (Or.inl ⟨_, zb_351_0⟩) fa_n) h
theorem h_352 : LoH k_352 := fun _ => hold_352
theorem h_353 : LoH k_353 := fun _ => hold_353
theorem h_354 : LoH k_354 := fun _ => hold_354
theorem h_355 : LoH k_355 := fun h => ck_ok rulT okRTt okCTt zb_355 fa_n h
theorem h_356 : LoH k_356 := fun _ => hold_356
theorem h_357 : LoH k_357 := fun _ => hold_357
theorem h_358 : LoH k_358 := fun h => ck_ok rulT okRTt okCTt zb_358 (fa_c (Or.inl ⟨_, zb_358_0⟩) fa_n) h
theorem h_359 : LoH k_359 := fun h => ck_ok rulT okRTt okCTt zb_359 (fa_c (Or.inl ⟨_, zb_359_0⟩) (fa_c (Or.inl ⟨_, zb_359_1⟩) (fa_c (Or.inl ⟨_, zb_359_2⟩) (fa_c (Or.inl ⟨_, zb_359_3⟩) fa_n)))) h
theorem h_360 : LoH k_360 := fun h => ck_ok rulT okRTt okCTt zb_360 (fa_c (Or.inl ⟨_, zb_360_0⟩) (fa_c (Or.inl ⟨_, zb_360_1⟩) fa_n)) h
theorem h_361 : LoH k_361 := fun h => ck_ok rulT okRTt okCTt zb_361 fa_n h
theorem h_362 : LoH k_362 := fun h => ck_ok rulT okRTt okCTt zb_362 fa_n h
theorem h_363 : LoH k_363 := fun _ => hold_363
theorem h_364 : LoH k_364 := fun _ => hold_364
theorem h_365 : LoH k_365 := fun h => ck_ok rulT okRTt okCTt zb_365 (fa_c (Or.inl ⟨_, zb_365_0⟩) fa_n) h
theorem h_366 : LoH k_366 := fun h => ck_ok rulT okRTt okCTt zb_366 (fa_c (Or.inl ⟨_, zb_366_0⟩) (fa_c (Or.inl ⟨_, zb_366_1⟩) (fa_c (Or.inl ⟨_, zb_366_2⟩) (fa_c (Or.inl ⟨_, zb_366_3⟩) fa_n)))) h
theorem h_367 : LoH k_367 := fun h => ck_ok rulT okRTt okCTt zb_367 (fa_c (Or.inl ⟨_, zb_367_0⟩) (fa_c (Or.inl ⟨_, zb_367_1⟩) fa_n)) h
theorem h_368 : LoH k_368 := fun h => ck_ok rulT okRTt okCTt zb_368 fa_n h
theorem h_369 : LoH k_369 := fun h => ck_ok rulT okRTt okCTt zb_369 fa_n h
theorem h_370 : LoH k_370 := fun h => ck_ok rulT okRTt okCTt zb_370 fa_n h
theorem h_371 : LoH k_371 := fun h => ck_ok rulT okRTt okCTt zb_371 (fa_c (Or.inl ⟨_, zb_371_0⟩) fa_n) h
theorem h_372 : LoH k_372 := fun h => ck_ok rulT okRTt okCTt zb_372 (fa_c (Or.inl ⟨_, zb_372_0⟩) fa_n) h
theorem h_373 : LoH k_373 := fun h => ck_ok rulT okRTt okCTt zb_373 (fa_c (Or.inl ⟨_, zb_373_0⟩) (fa_c (Or.inl ⟨_, zb_373_1⟩) (fa_c (Or.inl ⟨_, zb_373_2⟩) (fa_c (Or.inl ⟨_, zb_373_3⟩) (fa_c (Or.inl ⟨_, zb_373_4⟩) fa_n))))) h
theorem h_374 : LoH k_374 := fun h => ck_ok rulT okRTt okCTt zb_374 fa_n h
theorem h_375 : LoH k_375 := fun h => ck_ok rulT okRTt okCTt zb_375 fa_n h
theorem h_376 : LoH k_376 := fun h => ck_ok rulT okRTt okCTt zb_376 (fa_c (Or.inl ⟨_, zb_376_0⟩) (fa_c (Or.inl ⟨_, zb_376_1⟩) fa_n)) h
theorem h_377 : LoH k_377 := fun h => ck_ok rulT okRTt okCTt zb_377 (fa_c (Or.inl ⟨_, zb_377_0⟩) fa_n) h
theorem h_378 : LoH k_378 := fun h => ck_ok rulT okRTt okCTt zb_378 (fa_c (Or.inl ⟨_, zb_378_0⟩) fa_n) h
theorem h_379 : LoH k_379 := fun h => ck_ok rulT okRTt okCTt zb_379 fa_n h
theorem h_380 : LoH k_380 := fun h => ck_ok rulT okRTt okCTt zb_380 fa_n h
theorem h_381 : LoH k_381 := fun h => ck_ok rulT okRTt okCTt zb_381 fa_n h
theorem h_382 : LoH k_382 := fun h => ck_ok rulT okRTt okCTt zb_382 fa_n h
theorem h_383 : LoH k_383 := fun h => ck_ok rulT okRTt okCTt zb_383 fa_n h
theorem h_384 : LoH k_384 := fun h => ck_ok rulT okRTt okCTt zb_384 fa_n h
theorem h_385 : LoH k_385 := fun h => ck_ok rulT okRTt okCTt zb_385 fa_n h
theorem h_386 : LoH k_386 := fun h => ck_ok rulT okRTt okCTt zb_386 (fa_c (Or.inl ⟨_, zb_386_0⟩) fa_n) h
theorem h_387 : LoH k_387 := fun h => ck_ok rulT okRTt okCTt zb_387 fa_n h
theorem h_388 : LoH k_388 := fun h => ck_ok rulT okRTt okCTt zb_388 fa_n h
theorem h_389 : LoH k_389 := fun h => ck_ok rulT okRTt okCTt zb_389 fa_n h
theorem h_390 : LoH k_390 := fun h => ck_ok rulT okRTt okCTt zb_390 fa_n h
theorem h_391 : LoH k_391 := fun h => ck_ok rulT okRTt okCTt zb_391 fa_n h
theorem h_392 : LoH k_392 := fun h => ck_ok rulT okRTt okCTt zb_392 fa_n h
theorem h_393 : LoH k_393 := fun h => ck_ok rulT okRTt okCTt zb_393 fa_n h
theorem h_394 : LoH k_394 := fun h => ck_ok rulT okRTt okCTt zb_394 fa_n h
theorem h_395 : LoH k_395 := fun h => ck_ok rulT okRTt okCTt zb_395 fa_n h
theorem h_396 : LoH k_396 := fun h => ck_ok rulT okRTt okCTt zb_396 fa_n h
theorem h_397 : LoH k_397 := fun h => ck_ok rulT okRTt okCTt zb_397 fa_n h
theorem h_398 : LoH k_398 := fun h => ck_ok rulT okRTt okCTt zb_398 fa_n h
theorem h_399 : LoH k_399 := fun h => ck_ok rulT okRTt okCTt zb_399 fa_n h
theorem h_400 : LoH k_400 := fun h => ck_ok rulT okRTt okCTt zb_400 fa_n h
theorem h_401 : LoH k_401 := fun h => ck_ok rulT okRTt okCTt zb_401 (fa_c (Or.inl ⟨_, zb_401_0⟩) (fa_c (Or.inl ⟨_, zb_401_1⟩) (fa_c (Or.inl ⟨_, zb_401_2⟩) (fa_c (Or.inl ⟨_, zb_401_3⟩) (fa_c (Or.inl ⟨_, zb_401_4⟩) (fa_c (Or.inl ⟨_, zb_401_5⟩) (fa_c (Or.inl ⟨_, zb_401_6⟩) (fa_c (Or.inl ⟨_, zb_401_7⟩) (fa_c (Or.inl ⟨_, zb_401_8⟩) fa_n))))))))) h
theorem h_402 : LoH k_402 := fun h => ck_ok rulT okRTt okCTt zb_402 (fa_c (Or.inl ⟨_, zb_402_0⟩) (fa_c (Or.inl ⟨_, zb_402_1⟩) (fa_c (Or.inl ⟨_, zb_402_2⟩) (fa_c (Or.inl ⟨_, zb_402_3⟩) (fa_c (Or.inl ⟨_, zb_402_4⟩) (fa_c (Or.inl ⟨_, zb_402_5⟩) (fa_c (Or.inl ⟨_, zb_402_6⟩) (fa_c (Or.inl ⟨_, zb_402_7⟩) (fa_c (Or.inl ⟨_, zb_402_8⟩) (fa_c (Or.inl ⟨_, zb_402_9⟩) (fa_c (Or.inl ⟨_, zb_402_10⟩) (fa_c (Or.inl ⟨_, zb_402_11⟩) (fa_c (Or.inl ⟨_, zb_402_12⟩) (fa_c (Or.inl ⟨_, zb_402_13⟩) (fa_c (Or.inl ⟨_, zb_402_14⟩) (fa_c (Or.inl ⟨_, zb_402_15⟩) (fa_c (Or.inl ⟨_, zb_402_16⟩) (fa_c (Or.inl ⟨_, zb_402_17⟩) (fa_c (Or.inl ⟨_, zb_402_18⟩) (fa_c (Or.inl ⟨_, zb_402_19⟩) (fa_c (Or.inl ⟨_, zb_402_20⟩) (fa_c (Or.inl ⟨_, zb_402_21⟩) (fa_c (Or.inl ⟨_, zb_402_22⟩) fa_n))))))))))))))))))))))) h
theorem h_403 : LoH k_403 := fun h => ck_ok rulT okRTt okCTt zb_403 (fa_c (Or.inl ⟨_, zb_403_0⟩) (fa_c (Or.inl ⟨_, zb_403_1⟩) (fa_c (Or.inl ⟨_, zb_403_2⟩) (fa_c (Or.inl ⟨_, zb_403_3⟩) (fa_c (Or.inl ⟨_, zb_403_4⟩) (fa_c (Or.inl ⟨_, zb_403_5⟩) (fa_c (Or.inl ⟨_, zb_403_6⟩) (fa_c (Or.inl ⟨_, zb_403_7⟩) fa_n)))))))) h
theorem h_404 : LoH k_404 := fun h => ck_ok rulT okRTt okCTt zb_404 fa_n h
theorem h_405 : LoH k_405 := fun h => ck_ok rulT okRTt okCTt zb_405 fa_n h
theorem h_406 : LoH k_406 := fun h => ck_ok rulT okRTt okCTt zb_406 fa_n h
theorem h_407 : LoH k_407 := fun h => ck_ok rulT okRTt okCTt zb_407 fa_n h
theorem h_408 : LoH k_408 := fun h => ck_ok rulT okRTt okCTt zb_408 fa_n h
theorem h_409 : LoH k_409 := fun h => ck_ok rulT okRTt okCTt zb_409 fa_n h
theorem h_410 : LoH k_410 := fun h => ck_ok rulT okRTt okCTt zb_410 fa_n h
theorem h_411 : LoH k_411 := fun h => ck_ok rulT okRTt okCTt zb_411 fa_n h
theorem h_412 : LoH k_412 := fun h => ck_ok rulT okRTt okCTt zb_412 fa_n h
theorem h_413 : LoH k_413 := fun h => ck_ok rulT okRTt okCTt zb_413 fa_n h
theorem h_414 : LoH k_414 := fun h => ck_ok rulT okRTt okCTt zb_414 fa_n h
theorem h_415 : LoH k_415 := fun h => ck_ok rulT okRTt okCTt zb_415 fa_n h
theorem h_416 : LoH k_416 := fun h => ck_ok rulT okRTt okCTt zb_416 fa_n h
theorem h_417 : LoH k_417 := fun h => ck_ok rulT okRTt okCTt zb_417 fa_n h
theorem h_418 : LoH k_418 := fun h => ck_ok rulT okRTt okCTt zb_418 fa_n h
theorem h_419 : LoH k_419 := fun h => ck_ok rulT okRTt okCTt zb_419 fa_n h
theorem h_420 : LoH k_420 := fun h => ck_ok rulT okRTt okCTt zb_420 fa_n h
theorem h_421 : LoH k_421 := fun h => ck_ok rulT okRTt okCTt zb_421 (fa_c (Or.inl ⟨_, zb_421_0⟩) fa_n) h
theorem h_422 : LoH k_422 := fun h => ck_ok rulT okRTt okCTt zb_422 (fa_c (Or.inl ⟨_, zb_422_0⟩) fa_n) h
theorem h_423 : LoH k_423 := fun h => ck_ok rulT okRTt okCTt zb_423 (fa_c (Or.inl ⟨_, zb_423_0⟩) fa_n) h
theorem h_424 : LoH k_424 := fun h => ck_ok rulT okRTt okCTt zb_424 (fa_c (Or.inl ⟨_, zb_424_0⟩) fa_n) h
theorem h_425 : LoH k_425 := fun h => ck_ok rulT okRTt okCTt zb_425 (fa_c (Or.inl ⟨_, zb_425_0⟩) fa_n) h
theorem h_426 : LoH k_426 := fun h => ck_ok rulT okRTt okCTt zb_426 fa_n h
theorem h_427 : LoH k_427 := fun h => ck_ok rulT okRTt okCTt zb_427 fa_n h
theorem h_428 : LoH k_428 := fun h => ck_ok rulT okRTt okCTt zb_428 fa_n h
theorem h_429 : LoH k_429 := fun h => ck_ok rulT okRTt okCTt zb_429 fa_n h
theorem h_430 : LoH k_430 := fun h => ck_ok rulT okRTt okCTt zb_430 fa_n h
theorem h_431 : LoH k_431 := fun h => ck_ok rulT okRTt okCTt zb_431 fa_n h
theorem h_432 : LoH k_432 := fun h => ck_ok rulT okRTt okCTt zb_432 (fa_c (Or.inl ⟨_, zb_432_0⟩) fa_n) h
theorem h_433 : LoH k_433 := fun h => ck_ok rulT okRTt okCTt zb_433 (fa_c (Or.inl ⟨_, zb_433_0⟩) fa_n) h
theorem h_434 : LoH k_434 := fun h => ck_ok rulT okRTt okCTt zb_434 (fa_c (Or.inl ⟨_, zb_434_0⟩) fa_n) h
theorem h_435 : LoH k_435 := fun h => ck_ok rulT okRTt okCTt zb_435 (fa_c (Or.inl ⟨_, zb_435_0⟩) fa_n) h
theorem h_436 : LoH k_436 := fun h => ck_ok rulT okRTt okCTt zb_436 fa_n h
theorem h_437 : LoH k_437 := fun h => ck_ok rulT okRTt okCTt zb_437 fa_n h
theorem h_438 : LoH k_438 := fun h => ck_ok rulT okRTt okCTt zb_438 (fa_c (Or.inl ⟨_, zb_438_0⟩) fa_n) h
theorem h_439 : LoH k_439 := fun h => ck_ok rulT okRTt okCTt zb_439 (fa_c (Or.inl ⟨_, zb_439_0⟩) fa_n) h
theorem h_440 : LoH k_440 := fun h => ck_ok rulT okRTt okCTt zb_440 (fa_c (Or.inl ⟨_, zb_440_0⟩) fa_n) h
theorem h_441 : LoH k_441 := fun h => ck_ok rulT okRTt okCTt zb_441 (fa_c (Or.inl ⟨_, zb_441_0⟩) fa_n) h
theorem h_442 : LoH k_442 := fun h => ck_ok rulT okRTt okCTt zb_442 fa_n h
theorem h_443 : LoH k_443 := fun h => ck_ok rulT okRTt okCTt zb_443 (fa_c (Or.inl ⟨_, zb_443_0⟩) fa_n) h
theorem h_444 : LoH k_444 := fun h => ck_ok rulT okRTt okCTt zb_444 (fa_c (Or.inl ⟨_, zb_444_0⟩) fa_n) h
theorem h_445 : LoH k_445 := fun h => ck_ok rulT okRTt okCTt zb_445 (fa_c (Or.inl ⟨_, zb_445_0⟩) fa_n) h
theorem h_446 : LoH k_446 := fun h => ck_ok rulT okRTt okCTt zb_446 (fa_c (Or.inl ⟨_, zb_446_0⟩) fa_n) h
theorem h_447 : LoH k_447 := fun h => ck_ok rulT okRTt okCTt zb_447 (fa_c (Or.inl ⟨_, zb_447_0⟩) fa_n) h
theorem h_448 : LoH k_448 := fun h => ck_ok rulT okRTt okCTt zb_448 fa_n h
theorem h_449 : LoH k_449 := fun h => ck_ok rulT okRTt okCTt zb_449 (fa_c (Or.inl ⟨_, zb_449_0⟩) fa_n) h
theorem h_450 : LoH k_450 := fun h => ck_ok rulT okRTt okCTt zb_450 (fa_c (Or.inl ⟨_, zb_450_0⟩) (fa_c (Or.inl ⟨_, zb_450_1⟩) (fa_c (Or.inl ⟨_, zb_450_2⟩) (fa_c (Or.inl ⟨_, zb_450_3⟩) (fa_c (Or.inl ⟨_, zb_450_4⟩) fa_n))))) h
theorem h_451 : LoH k_451 := fun h => ck_ok rulT okRTt okCTt zb_451 (fa_c (Or.inl ⟨_, zb_451_0⟩) (fa_c (Or.inl ⟨_, zb_451_1⟩) (fa_c (Or.inl ⟨_, zb_451_2⟩) (fa_c (Or.inl ⟨_, zb_451_3⟩) (fa_c (Or.inl ⟨_, zb_451_4⟩) fa_n))))) h
theorem h_452 : LoH k_452 := fun h => ck_ok rulT okRTt okCTt zb_452 fa_n h
theorem h_453 : LoH k_453 := fun h => ck_ok rulT okRTt okCTt zb_453 fa_n h
theorem h_454 : LoH k_454 := fun h => ck_ok rulT okRTt okCTt zb_454 fa_n h
theorem h_455 : LoH k_455 := fun h => ck_ok rulT okRTt okCTt zb_455 fa_n h
theorem h_456 : LoH k_456 := fun h => ck_ok rulT okRTt okCTt zb_456 fa_n h
theorem h_457 : LoH k_457 := fun h => ck_ok rulT okRTt okCTt zb_457 fa_n h
theorem h_458 : LoH k_458 := fun h => ck_ok rulT okRTt okCTt zb_458 fa_n h
theorem h_459 : LoH k_459 := fun h => ck_ok rulT okRTt okCTt zb_459 fa_n h
theorem h_460 : LoH k_460 := fun h => ck_ok rulT okRTt okCTt zb_460 fa_n h
theorem h_461 : LoH k_461 := fun h => ck_ok rulT okRTt okCTt zb_461 fa_n h
theorem h_462 : LoH k_462 := fun h => ck_ok rulT okRTt okCTt zb_462 fa_n h
theorem h_463 : LoH k_463 := fun h => ck_ok rulT okRTt okCTt zb_463 fa_n h
theorem h_464 : LoH k_464 := fun h => ck_ok rulT okRTt okCTt zb_464 fa_n h
theorem h_465 : LoH k_465 := fun h => ck_ok rulT okRTt okCTt zb_465 fa_n h
theorem h_466 : LoH k_466 := fun h => ck_ok rulT okRTt okCTt zb_466 fa_n h
theorem h_467 : LoH k_467 := fun h => ck_ok rulT okRTt okCTt zb_467 fa_n h
theorem h_468 : LoH k_468 := fun h => ck_ok rulT okRTt okCTt zb_468 fa_n h
theorem h_469 : LoH k_469 := fun h => ck_ok rulT okRTt okCTt zb_469 fa_n h
theorem h_470 : LoH k_470 := fun h => ck_ok rulT okRTt okCTt zb_470 fa_n h
theorem h_471 : LoH k_471 := fun h => ck_ok rulT okRTt okCTt zb_471 fa_n h
theorem h_472 : LoH k_472 := fun h => ck_ok rulT okRTt okCTt zb_472 fa_n h
theorem h_473 : LoH k_473 := fun h => ck_ok rulT okRTt okCTt zb_473 fa_n h
theorem h_474 : LoH k_474 := fun h => ck_ok rulT okRTt okCTt zb_474 fa_n h
theorem h_475 : LoH k_475 := fun h => ck_ok rulT okRTt okCTt zb_475 fa_n h
theorem h_476 : LoH k_476 := fun h => ck_ok rulT okRTt okCTt zb_476 fa_n h
theorem h_477 : LoH k_477 := fun h => ck_ok rulT okRTt okCTt zb_477 fa_n h
theorem h_478 : LoH k_478 := fun h => ck_ok rulT okRTt okCTt zb_478 fa_n h
theorem h_479 : LoH k_479 := fun h => ck_ok rulT okRTt okCTt zb_479 fa_n h
theorem h_480 : LoH k_480 := fun h => ck_ok rulT okRTt okCTt zb_480 fa_n h
theorem h_481 : LoH k_481 := fun h => ck_ok rulT okRTt okCTt zb_481 fa_n h
theorem h_482 : LoH k_482 := fun h => ck_ok rulT okRTt okCTt zb_482 fa_n h
theorem h_483 : LoH k_483 := fun h => ck_ok rulT okRTt okCTt zb_483 fa_n h
theorem h_484 : LoH k_484 := fun h => ck_ok rulT okRTt okCTt zb_484 fa_n h
theorem h_485 : LoH k_485 := fun h => ck_ok rulT okRTt okCTt zb_485 fa_n h
theorem h_486 : LoH k_486 := fun h => ck_ok rulT okRTt okCTt zb_486 fa_n h
theorem h_487 : LoH k_487 := fun h => ck_ok rulT okRTt okCTt zb_487 fa_n h
theorem h_488 : LoH k_488 := fun h => ck_ok rulT okRTt okCTt zb_488 fa_n h
theorem h_489 : LoH k_489 := fun h => ck_ok rulT okRTt okCTt zb_489 fa_n h
theorem h_490 : LoH k_490 := fun h => ck_ok rulT okRTt okCTt zb_490 fa_n h
theorem h_491 : LoH k_491 := fun h => ck_ok rulT okRTt okCTt zb_491 fa_n h
theorem h_492 : LoH k_492 := fun h => ck_ok rulT okRTt okCTt zb_492 fa_n h
theorem h_493 : LoH k_493 := fun h => ck_ok rulT okRTt okCTt zb_493 fa_n h
theorem h_494 : LoH k_494 := fun h => ck_ok rulT okRTt okCTt zb_494 fa_n h
theorem h_495 : LoH k_495 := fun h => ck_ok rulT okRTt okCTt zb_495 fa_n h
theorem h_496 : LoH k_496 := fun h => ck_ok rulT okRTt okCTt zb_496 fa_n h
theorem h_497 : LoH k_497 := fun h => ck_ok rulT okRTt okCTt zb_497 (fa_c (Or.inl ⟨_, zb_497_0⟩) (fa_c (Or.inl ⟨_, zb_497_1⟩) (fa_c (Or.inl ⟨_, zb_497_2⟩) (fa_c (Or.inl ⟨_, zb_497_3⟩) (fa_c (Or.inl ⟨_, zb_497_4⟩) (fa_c (Or.inl ⟨_, zb_497_5⟩) (fa_c (Or.inl ⟨_, zb_497_6⟩) (fa_c (Or.inl ⟨_, zb_497_7⟩) (fa_c (Or.inl ⟨_, zb_497_8⟩) (fa_c (Or.inl ⟨_, zb_497_9⟩) fa_n)))))))))) h
theorem h_498 : LoH k_498 := fun h => ck_ok rulT okRTt okCTt zb_498 fa_n h
theorem h_499 : LoH k_499 := fun h => ck_ok rulT okRTt okCTt zb_499 (fa_c (Or.inl ⟨_, zb_499_0⟩) (fa_c (Or.inl ⟨_, zb_499_1⟩) (fa_c (Or.inl ⟨_, zb_499_2⟩) fa_n))) h
theorem h_500 : LoH k_500 := fun h => ck_ok rulT okRTt okCTt zb_500 (fa_c (Or.inl ⟨_, zb_500_0⟩) fa_n) h
theorem h_501 : LoH k_501 := fun h => ck_ok rulT okRTt okCTt zb_501 (fa_c (Or.inl ⟨_, zb_501_0⟩) (fa_c (Or.inl ⟨_, zb_501_1⟩) fa_n)) h
theorem h_502 : LoH k_502 := fun h => ck_ok rulT okRTt okCTt zb_502 fa_n h
theorem h_503 : LoH k_503 := fun h => ck_ok rulT okRTt okCTt zb_503 fa_n h
theorem h_504 : LoH k_504 := fun h => ck_ok rulT okRTt okCTt zb_504 (fa_c (Or.inl ⟨_, zb_504_0⟩) (fa_c (Or.inl ⟨_, zb_504_1⟩) (fa_c (Or.inl ⟨_, zb_504_2⟩) (fa_c (Or.inl ⟨_, zb_504_3⟩) (fa_c (Or.inl ⟨_, zb_504_4⟩) (fa_c (Or.inl ⟨_, zb_504_5⟩) (fa_c (Or.inl ⟨_, zb_504_6⟩) (fa_c (Or.inl ⟨_, zb_504_7⟩) (fa_c (Or.inl ⟨_, zb_504_8⟩) (fa_c (Or.inl ⟨_, zb_504_9⟩) (fa_c (Or.inl ⟨_, zb_504_10⟩) (fa_c (Or.inl ⟨_, zb_504_11⟩) fa_n)))))))))))) h
theorem h_505 : LoH k_505 := fun h => ck_ok rulT okRTt okCTt zb_505 fa_n h
theorem h_506 : LoH k_506 := fun h => ck_ok rulT okRTt okCTt zb_506 fa_n h
theorem h_507 : LoH k_507 := fun h => ck_ok rulT okRTt okCTt zb_507 (fa_c (Or.inl ⟨_, zb_507_0⟩) (fa_c (Or.inl ⟨_, zb_507_1⟩) (fa_c (Or.inl ⟨_, zb_507_2⟩) (fa_c (Or.inl ⟨_, zb_507_3⟩) (fa_c (Or.inl ⟨_, zb_507_4⟩) (fa_c (Or.inl ⟨_, zb_507_5⟩) (fa_c (Or.inl ⟨_, zb_507_6⟩) (fa_c (Or.inl ⟨_, zb_507_7⟩) (fa_c (Or.inl ⟨_, zb_507_8⟩) (fa_c (Or.inl ⟨_, zb_507_9⟩) (fa_c (Or.inl ⟨_, zb_507_10⟩) (fa_c (Or.inl ⟨_, zb_507_11⟩) (fa_c (Or.inl ⟨_, zb_507_12⟩) fa_n))))))))))))) h
theorem h_508 : LoH k_508 := fun h => ck_ok rulT okRTt okCTt zb_508 (fa_c (Or.inl ⟨_, zb_508_0⟩) fa_n) h
theorem h_509 : LoH k_509 := fun h => ck_ok rulT okRTt okCTt zb_509 (fa_c (Or.inl ⟨_, zb_509_0⟩) (fa_c (Or.inl ⟨_, zb_509_1⟩) fa_n)) h
theorem h_510 : LoH k_510 := fun h => ck_ok rulT okRTt okCTt zb_510 fa_n h
theorem h_511 : LoH k_511 := fun h => ck_ok rulT okRTt okCTt zb_511 fa_n h
theorem h_512 : LoH k_512 := fun h => ck_ok rulT okRTt okCTt zb_512 (fa_c (Or.inl ⟨_, zb_512_0⟩) (fa_c (Or.inl ⟨_, zb_512_1⟩) (fa_c (Or.inl ⟨_, zb_512_2⟩) (fa_c (Or.inl ⟨_, zb_512_3⟩) (fa_c (Or.inl ⟨_, zb_512_4⟩) (fa_c (Or.inl ⟨_, zb_512_5⟩) (fa_c (Or.inl ⟨_, zb_512_6⟩) (fa_c (Or.inl ⟨_, zb_512_7⟩) (fa_c (Or.inl ⟨_, zb_512_8⟩) (fa_c (Or.inl ⟨_, zb_512_9⟩) (fa_c (Or.inl ⟨_, zb_512_10⟩) (fa_c (Or.inl ⟨_, zb_512_11⟩) fa_n)))))))))))) h
theorem h_513 : LoH k_513 := fun h => ck_ok rulT okRTt okCTt zb_513 fa_n h
theorem h_514 : LoH k_514 := fun h => ck_ok rulT okRTt okCTt zb_514 fa_n h
theorem h_515 : LoH k_515 := fun h => ck_ok rulT okRTt okCTt zb_515 (fa_c (Or.inl ⟨_, zb_515_0⟩) (fa_c (Or.inl ⟨_, zb_515_1⟩) (fa_c (Or.inl ⟨_, zb_515_2⟩) (fa_c (Or.inl ⟨_, zb_515_3⟩) (fa_c (Or.inl ⟨_, zb_515_4⟩) (fa_c (Or.inl ⟨_, zb_515_5⟩) (fa_c (Or.inl ⟨_, zb_515_6⟩) (fa_c (Or.inl ⟨_, zb_515_7⟩) (fa_c (Or.inl ⟨_, zb_515_8⟩) (fa_c (Or.inl ⟨_, zb_515_9⟩) (fa_c (Or.inl ⟨_, zb_515_10⟩) (fa_c (Or.inl ⟨_, zb_515_11⟩) (fa_c (Or.inl ⟨_, zb_515_12⟩) fa_n))))))))))))) h
theorem h_516 : LoH k_516 := fun h => ck_ok rulT okRTt okCTt zb_516 (fa_c (Or.inl ⟨_, zb_516_0⟩) (fa_c (Or.inl ⟨_, zb_516_1⟩) (fa_c (Or.inl ⟨_, zb_516_2⟩) (fa_c (Or.inl ⟨_, zb_516_3⟩) fa_n)))) h
theorem h_517 : LoH k_517 := fun h => ck_ok rulT okRTt okCTt zb_517 (fa_c (Or.inl ⟨_, zb_517_0⟩) (fa_c (Or.inl ⟨_, zb_517_1⟩) (fa_c (Or.inl ⟨_, zb_517_2⟩) (fa_c (Or.inl ⟨_, zb_517_3⟩) fa_n)))) h
theorem h_518 : LoH k_518 := fun h => ck_ok rulT okRTt okCTt zb_518 (fa_c (Or.inl ⟨_, zb_518_0⟩) fa_n) h
theorem h_519 : LoH k_519 := fun h => ck_ok rulT okRTt okCTt zb_519 fa_n h
theorem h_520 : LoH k_520 := fun h => ck_ok rulT okRTt okCTt zb_520 fa_n h
theorem h_521 : LoH k_521 := fun h => ck_ok rulT okRTt okCTt zb_521 fa_n h
theorem h_522 : LoH k_522 := fun h => ck_ok rulT okRTt okCTt zb_522 fa_n h
theorem h_523 : LoH k_523 := fun h => ck_ok rulT okRTt okCTt zb_523 fa_n h
theorem h_524 : LoH k_524 := fun h => ck_ok rulT okRTt okCTt zb_524 fa_n h
theorem h_525 : LoH k_525 := fun h => ck_ok rulT okRTt okCTt zb_525 fa_n h
theorem h_526 : LoH k_526 := fun h => ck_ok rulT okRTt okCTt zb_526 fa_n h
theorem h_527 : LoH k_527 := fun h => ck_ok rulT okRTt okCTt zb_527 fa_n h
theorem h_528 : LoH k_528 := fun h => ck_ok rulT okRTt okCTt zb_528 fa_n h
theorem h_529 : LoH k_529 := fun h => ck_ok rulT okRTt okCTt zb_529 fa_n h
theorem h_530 : LoH k_530 := fun h => ck_ok rulT okRTt okCTt zb_530 fa_n h
theorem h_531 : LoH k_531 := fun h => ck_ok rulT okRTt okCTt zb_531 fa_n h
theorem h_532 : LoH k_532 := fun h => ck_ok rulT okRTt okCTt zb_532 fa_n h
theorem h_533 : LoH k_533 := fun h => ck_ok rulT okRTt okCTt zb_533 fa_n h
theorem h_534 : LoH k_534 := fun h => ck_ok rulT okRTt okCTt zb_534 fa_n h
theorem h_535 : LoH k_535 := fun h => ck_ok rulT okRTt okCTt zb_535 fa_n h
theorem h_536 : LoH k_536 := fun h => ck_ok rulT okRTt okCTt zb_536 fa_n h
theorem h_537 : LoH k_537 := fun h => ck_ok rulT okRTt okCTt zb_537 fa_n h
theorem h_538 : LoH k_538 := fun h => ck_ok rulT okRTt okCTt zb_538 fa_n h
theorem h_539 : LoH k_539 := fun h => ck_ok rulT okRTt okCTt zb_539 fa_n h
theorem h_540 : LoH k_540 := fun h => ck_ok rulT okRTt okCTt zb_540 fa_n h
theorem h_541 : LoH k_541 := fun h => ck_ok rulT okRTt okCTt zb_541 fa_n h
theorem h_542 : LoH k_542 := fun h => ck_ok rulT okRTt okCTt zb_542 fa_n h
theorem h_543 : LoH k_543 := fun h => ck_ok rulT okRTt okCTt zb_543 fa_n h
theorem h_544 : LoH k_544 := fun h => ck_ok rulT okRTt okCTt zb_544 fa_n h
theorem h_545 : LoH k_545 := fun h => ck_ok rulT okRTt okCTt zb_545 fa_n h
theorem h_546 : LoH k_546 := fun h => ck_ok rulT okRTt okCTt zb_546 fa_n h
theorem h_547 : LoH k_547 := fun h => ck_ok rulT okRTt okCTt zb_547 fa_n h
theorem h_548 : LoH k_548 := fun h => ck_ok rulT okRTt okCTt zb_548 fa_n h
theorem h_549 : LoH k_549 := fun h => ck_ok rulT okRTt okCTt zb_549 fa_n h
theorem h_550 : LoH k_550 := fun h => ck_ok rulT okRTt okCTt zb_550 fa_n h
theorem h_551 : LoH k_551 := fun h => ck_ok rulT okRTt okCTt zb_551 fa_n h
theorem h_552 : LoH k_552 := fun h => ck_ok rulT okRTt okCTt zb_552 fa_n h
theorem h_553 : LoH k_553 := fun h => ck_ok rulT okRTt okCTt zb_553 fa_n h
theorem h_554 : LoH k_554 := fun h => ck_ok rulT okRTt okCTt zb_554 fa_n h
theorem h_555 : LoH k_555 := fun h => ck_ok rulT okRTt okCTt zb_555 (fa_c (Or.inl ⟨_, zb_555_0⟩) (fa_c (Or.inl ⟨_, zb_555_1⟩) (fa_c (Or.inl ⟨_, zb_555_2⟩) (fa_c (Or.inl ⟨_, zb_555_3⟩) fa_n)))) h
theorem h_556 : LoH k_556 := fun h => ck_ok rulT okRTt okCTt zb_556 (fa_c (Or.inl ⟨_, zb_556_0⟩) (fa_c (Or.inl ⟨_, zb_556_1⟩) (fa_c (Or.inl ⟨_, zb_556_2⟩) (fa_c (Or.inl ⟨_, zb_556_3⟩) fa_n)))) h
theorem h_557 : LoH k_557 := fun h => ck_ok rulT okRTt okCTt zb_557 fa_n h
theorem h_558 : LoH k_558 := fun h => ck_ok rulT okRTt okCTt zb_558 fa_n h
theorem h_559 : LoH k_559 := fun h => ck_ok rulT okRTt okCTt zb_559 fa_n h
theorem h_560 : LoH k_560 := fun h => ck_ok rulT okRTt okCTt zb_560 fa_n h
theorem h_561 : LoH k_561 := fun h => ck_ok rulT okRTt okCTt zb_561 fa_n h
theorem h_562 : LoH k_562 := fun h => ck_ok rulT okRTt okCTt zb_562 (fa_c (Or.inl ⟨_, zb_562_0⟩) fa_n) h
theorem h_563 : LoH k_563 := fun h => ck_ok rulT okRTt okCTt zb_563 fa_n h
theorem h_564 : LoH k_564 := fun h => ck_ok rulT okRTt okCTt zb_564 (fa_c (Or.inl ⟨_, zb_564_0⟩) fa_n) h
theorem h_565 : LoH k_565 := fun h => ck_ok rulT okRTt okCTt zb_565 fa_n h
theorem h_566 : LoH k_566 := fun h => ck_ok rulT okRTt okCTt zb_566 (fa_c (Or.inl ⟨_, zb_566_0⟩) fa_n) h
theorem h_567 : LoH k_567 := fun h => ck_ok rulT okRTt okCTt zb_567 (fa_c (Or.inl ⟨_, zb_567_0⟩) (fa_c (Or.inl ⟨_, zb_567_1⟩) (fa_c (Or.inl ⟨_, zb_567_2⟩) fa_n))) h
theorem h_568 : LoH k_568 := fun h => ck_ok rulT okRTt okCTt zb_568 (fa_c (Or.inl ⟨_, zb_568_0⟩) (fa_c (Or.inl ⟨_, zb_568_1⟩) (fa_c (Or.inl ⟨_, zb_568_2⟩) fa_n))) h
theorem h_569 : LoH k_569 := fun h => ck_ok rulT okRTt okCTt zb_569 fa_n h
theorem h_570 : LoH k_570 := fun h => ck_ok rulT okRTt okCTt zb_570 fa_n h
theorem h_571 : LoH k_571 := fun h => ck_ok rulT okRTt okCTt zb_571 fa_n h
theorem h_572 : LoH k_572 := fun h => ck_ok rulT okRTt okCTt zb_572 fa_n h
theorem h_573 : LoH k_573 := fun h => ck_ok rulT okRTt okCTt zb_573 fa_n h
theorem h_574 : LoH k_574 := fun h => ck_ok rulT okRTt okCTt zb_574 fa_n h
theorem h_575 : LoH k_575 := fun h => ck_ok rulT okRTt okCTt zb_575 fa_n h
theorem h_576 : LoH k_576 := fun h => ck_ok rulT okRTt okCTt zb_576 fa_n h
theorem h_577 : LoH k_577 := fun h => ck_ok rulT okRTt okCTt zb_577 fa_n h
theorem h_578 : LoH k_578 := fun h => ck_ok rulT okRTt okCTt zb_578 (fa_c (Or.inl ⟨_, zb_578_0⟩) fa_n) h
theorem h_579 : LoH k_579 := fun h => ck_ok rulT okRTt okCTt zb_579 (fa_c (Or.inl ⟨_, zb_579_0⟩) fa_n) h
theorem h_580 : LoH k_580 := fun h => ck_ok rulT okRTt okCTt zb_580 (fa_c (Or.inl ⟨_, zb_580_0⟩) fa_n) h
theorem h_581 : LoH k_581 := fun h => ck_ok rulT okRTt okCTt zb_581 (fa_c (Or.inl ⟨_, zb_581_0⟩) fa_n) h
theorem h_582 : LoH k_582 := fun h => ck_ok rulT okRTt okCTt zb_582 (fa_c (Or.inl ⟨_, zb_582_0⟩) fa_n) h
theorem h_583 : LoH k_583 := fun h => ck_ok rulT okRTt okCTt zb_583 (fa_c (Or.inl ⟨_, zb_583_0⟩) fa_n) h
theorem h_584 : LoH k_584 := fun h => ck_ok rulT okRTt okCTt zb_584 (fa_c (Or.inl ⟨_, zb_584_0⟩) fa_n) h
theorem h_585 : LoH k_585 := fun h => ck_ok rulT okRTt okCTt zb_585 (fa_c (Or.inl ⟨_, zb_585_0⟩) fa_n) h
theorem h_586 : LoH k_586 := fun h => ck_ok rulT okRTt okCTt zb_586 (fa_c (Or.inl ⟨_, zb_586_0⟩) fa_n) h
theorem h_587 : LoH k_587 := fun h => ck_ok rulT okRTt okCTt zb_587 (fa_c (Or.inl ⟨_, zb_587_0⟩) fa_n) h
theorem h_588 : LoH k_588 := fun h => ck_ok rulT okRTt okCTt zb_588 (fa_c (Or.inl ⟨_, zb_588_0⟩) fa_n) h
theorem h_589 : LoH k_589 := fun h => ck_ok rulT okRTt okCTt zb_589 fa_n h
theorem h_590 : LoH k_590 := fun h => ck_ok rulT okRTt okCTt zb_590 (fa_c (Or.inl ⟨_, zb_590_0⟩) fa_n) h
theorem h_591 : LoH k_591 := fun h => ck_ok rulT okRTt okCTt zb_591 fa_n h
theorem h_592 : LoH k_592 := fun h => ck_ok rulT okRTt okCTt zb_592 fa_n h
theorem h_593 : LoH k_593 := fun h => ck_ok rulT okRTt okCTt zb_593 fa_n h
theorem h_594 : LoH k_594 := fun h => ck_ok rulT okRTt okCTt zb_594 fa_n h
theorem h_595 : LoH k_595 := fun h => ck_ok rulT okRTt okCTt zb_595 (fa_c (Or.inl ⟨_, zb_595_0⟩) (fa_c (Or.inl ⟨_, zb_595_1⟩) (fa_c (Or.inl ⟨_, zb_595_2⟩) fa_n))) h
theorem h_596 : LoH k_596 := fun h => ck_ok rulT okRTt okCTt zb_596 (fa_c (Or.inl ⟨_, zb_596_0⟩) (fa_c (Or.inl ⟨_, zb_596_1⟩) (fa_c (Or.inl ⟨_, zb_596_2⟩) fa_n))) h
theorem h_597 : LoH k_597 := fun h => ck_ok rulT okRTt okCTt zb_597 (fa_c (Or.inl ⟨_, zb_597_0⟩) (fa_c (Or.inl ⟨_, zb_597_1⟩) (fa_c (Or.inl ⟨_, zb_597_2⟩) fa_n))) h
theorem h_598 : LoH k_598 := fun h => ck_ok rulT okRTt okCTt zb_598 (fa_c (Or.inl ⟨_, zb_598_0⟩) (fa_c (Or.inl ⟨_, zb_598_1⟩) (fa_c (Or.inl ⟨_, zb_598_2⟩) (fa_c (Or.inl ⟨_, zb_598_3⟩) (fa_c (Or.inl ⟨_, zb_598_4⟩) (fa_c (Or.inl ⟨_, zb_598_5⟩) (fa_c (Or.inl ⟨_, zb_598_6⟩) (fa_c (Or.inl ⟨_, zb_598_7⟩) (fa_c (Or.inl ⟨_, zb_598_8⟩) (fa_c (Or.inl ⟨_, zb_598_9⟩) (fa_c (Or.inl ⟨_, zb_598_10⟩) (fa_c (Or.inl ⟨_, zb_598_11⟩) fa_n)))))))))))) h
theorem h_599 : LoH k_599 := fun h => ck_ok rulT okRTt okCTt zb_599 fa_n h
theorem h_600 : LoH k_600 := fun h => ck_ok rulT okRTt okCTt zb_600 (fa_c (Or.inl ⟨_, zb_600_0⟩) (fa_c (Or.inl ⟨_, zb_600_1⟩) (fa_c (Or.inl ⟨_, zb_600_2⟩) (fa_c (Or.inl ⟨_, zb_600_3⟩) (fa_c (Or.inl ⟨_, zb_600_4⟩) (fa_c (Or.inl ⟨_, zb_600_5⟩) (fa_c (Or.inl ⟨_, zb_600_6⟩) (fa_c (Or.inl ⟨_, zb_600_7⟩) (fa_c (Or.inl ⟨_, zb_600_8⟩) (fa_c (Or.inl ⟨_, zb_600_9⟩) (fa_c (Or.inl ⟨_, zb_600_10⟩) (fa_c (Or.inl ⟨_, zb_600_11⟩) fa_n)))))))))))) h
theorem h_601 : LoH k_601 := fun h => ck_ok rulT okRTt okCTt zb_601 fa_n h
theorem h_602 : LoH k_602 := fun h => ck_ok rulT okRTt okCTt zb_602 fa_n h
theorem h_603 : LoH k_603 := fun h => ck_ok rulT okRTt okCTt zb_603 fa_n h
theorem h_604 : LoH k_604 := fun h => ck_ok rulT okRTt okCTt zb_604 fa_n h
theorem h_605 : LoH k_605 := fun h => ck_ok rulT okRTt okCTt zb_605 (fa_c (Or.inl ⟨_, zb_605_0⟩) fa_n) h
theorem h_606 : LoH k_606 := fun h => ck_ok rulT okRTt okCTt zb_606 fa_n h
theorem h_607 : LoH k_607 := fun h => ck_ok rulT okRTt okCTt zb_607 fa_n h
def CH_0 : List ctr := [k_0, k_1, k_2, k_3, k_4, k_5, k_6, k_7, k_8, k_9, k_10, k_11, k_12, k_13, k_14, k_15, k_16, k_17, k_18, k_19, k_20, k_21, k_22, k_23, k_24, k_25, k_26, k_27, k_28, k_29, k_30, k_31, k_32, k_33, k_34, k_35, k_36, k_37, k_38, k_39]
theorem ch_0 : ∀ c ∈ CH_0, LoH c := (fa_c h_0 (fa_c h_1 (fa_c h_2 (fa_c h_3 (fa_c h_4 (fa_c h_5 (fa_c h_6 (fa_c h_7 (fa_c h_8 (fa_c h_9 (fa_c h_10 (fa_c h_11 (fa_c h_12 (fa_c h_13 (fa_c h_14 (fa_c h_15 (fa_c h_16 (fa_c h_17 (fa_c h_18 (fa_c h_19 (fa_c h_20 (fa_c h_21 (fa_c h_22 (fa_c h_23 (fa_c h_24 (fa_c h_25 (fa_c h_26 (fa_c h_27 (fa_c h_28 (fa_c h_29 (fa_c h_30 (fa_c h_31 (fa_c h_32 (fa_c h_33 (fa_c h_34 (fa_c h_35 (fa_c h_36 (fa_c h_37 (fa_c h_38 (fa_c h_39 fa_n))))))))))))))))))))))))))))))))))))))))
def CH_1 : List ctr := [k_40, k_41, k_42, k_43, k_44, k_45, k_46, k_47, k_48, k_49, k_50, k_51, k_52, k_53, k_54, k_55, k_56, k_57, k_58, k_59, k_60, k_61, k_62, k_63, k_64, k_65, k_66, k_67, k_68, k_69, k_70, k_71, k_72, k_73, k_74, k_75, k_76, k_77, k_78, k_79]
theorem ch_1 : ∀ c ∈ CH_1, LoH c := (fa_c h_40 (fa_c h_41 (fa_c h_42 (fa_c h_43 (fa_c h_44 (fa_c h_45 (fa_c h_46 (fa_c h_47 (fa_c h_48 (fa_c h_49 (fa_c h_50 (fa_c h_51 (fa_c h_52 (fa_c h_53 (fa_c h_54 (fa_c h_55 (fa_c h_56 (fa_c h_57 (fa_c h_58 (fa_c h_59 (fa_c h_60 (fa_c h_61 (fa_c h_62 (fa_c h_63 (fa_c h_64 (fa_c h_65 (fa_c h_66 (fa_c h_67 (fa_c h_68 (fa_c h_69 (fa_c h_70 (fa_c h_71 (fa_c h_72 (fa_c h_73 (fa_c h_74 (fa_c h_75 (fa_c h_76 (fa_c h_77 (fa_c h_78 (fa_c h_79 fa_n))))))))))))))))))))))))))))))))))))))))
def CH_2 : List ctr := [k_80, k_81, k_82, k_83, k_84, k_85, k_86, k_87, k_88, k_89, k_90, k_91, k_92, k_93, k_94, k_95, k_96, k_97, k_98, k_99, k_100, k_101, k_102, k_103, k_104, k_105, k_106, k_107, k_108, k_109, k_110, k_111, k_112, k_113, k_114, k_115, k_116, k_117, k_118, k_119]
theorem ch_2 : ∀ c ∈ CH_2, LoH c := (fa_c h_80 (fa_c h_81 (fa_c h_82 (fa_c h_83 (fa_c h_84 (fa_c h_85 (fa_c h_86 (fa_c h_87 (fa_c h_88 (fa_c h_89 (fa_c h_90 (fa_c h_91 (fa_c h_92 (fa_c h_93 (fa_c h_94 (fa_c h_95 (fa_c h_96 (fa_c h_97 (fa_c h_98 (fa_c h_99 (fa_c h_100 (fa_c h_101 (fa_c h_102 (fa_c h_103 (fa_c h_104 (fa_c h_105 (fa_c h_106 (fa_c h_107 (fa_c h_108 (fa_c h_109 (fa_c h_110 (fa_c h_111 (fa_c h_112 (fa_c h_113 (fa_c h_114 (fa_c h_115 (fa_c h_116 (fa_c h_117 (fa_c h_118 (fa_c h_119 fa_n))))))))))))))))))))))))))))))))))))))))
def CH_3 : List ctr := [k_120, k_121, k_122, k_123, k_124, k_125, k_126, k_127, k_128, k_129, k_130, k_131, k_132, k_133, k_134, k_135, k_136, k_137, k_138, k_139, k_140, k_141, k_142, k_143, k_144, k_145, k_146, k_147, k_148, k_149, k_150, k_151, k_152, k_153, k_154, k_155, k_156, k_157, k_158, k_159]
theorem ch_3 : ∀ c ∈ CH_3, LoH c := (fa_c h_120 (fa_c h_121 (fa_c h_122 (fa_c h_123 (fa_c h_124 (fa_c h_125 (fa_c h_126 (fa_c h_127 (fa_c h_128 (fa_c h_129 (fa_c h_130 (fa_c h_131 (fa_c h_132 (fa_c h_133 (fa_c h_134 (fa_c h_135 (fa_c h_136 (fa_c h_137 (fa_c h_138 (fa_c h_139 (fa_c h_140 (fa_c h_141 (fa_c h_142 (fa_c h_143 (fa_c h_144 (fa_c h_145 (fa_c h_146 (fa_c h_147 (fa_c h_148 (fa_c h_149 (fa_c h_150 (fa_c h_151 (fa_c h_152 (fa_c h_153 (fa_c h_154 (fa_c h_155 (fa_c h_156 (fa_c h_157 (fa_c h_158 (fa_c h_159 fa_n))))))))))))))))))))))))))))))))))))))))
def CH_4 : List ctr := [k_160, k_161, k_162, k_163, k_164, k_165, k_166, k_167, k_168, k_169, k_170, k_171, k_172, k_173, k_174, k_175, k_176, k_177, k_178, k_179, k_180, k_181, k_182, k_183, k_184, k_185, k_186, k_187, k_188, k_189, k_190, k_191, k_192, k_193, k_194, k_195, k_196, k_197, k_198, k_199]
theorem ch_4 : ∀ c ∈ CH_4, LoH c := (fa_c h_160 (fa_c h_161 (fa_c h_162 (fa_c h_163 (fa_c h_164 (fa_c h_165 (fa_c h_166 (fa_c h_167 (fa_c h_168 (fa_c h_169 (fa_c h_170 (fa_c h_171 (fa_c h_172 (fa_c h_173 (fa_c h_174 (fa_c h_175 (fa_c h_176 (fa_c h_177 (fa_c h_178 (fa_c h_179 (fa_c h_180 (fa_c h_181 (fa_c h_182 (fa_c h_183 (fa_c h_184 (fa_c h_185 (fa_c h_186 (fa_c h_187 (fa_c h_188 (fa_c h_189 (fa_c h_190 (fa_c h_191 (fa_c h_192 (fa_c h_193 (fa_c h_194 (fa_c h_195 (fa_c h_196 (fa_c h_197 (fa_c h_198 (fa_c h_199 fa_n))))))))))))))))))))))))))))))))))))))))
def CH_5 : List ctr := [k_200, k_201, k_202, k_203, k_204, k_205, k_206, k_207, k_208, k_209, k_210, k_211, k_212, k_213, k_214, k_215, k_216, k_217, k_218, k_219, k_220, k_221, k_222, k_223, k_224, k_225, k_226, k_227, k_228, k_229, k_230, k_231, k_232, k_233, k_234, k_235, k_236, k_237, k_238, k_239]
theorem ch_5 : ∀ c ∈ CH_5, LoH c := (fa_c h_200 (fa_c h_201 (fa_c h_202 (fa_c h_203 (fa_c h_204 (fa_c h_205 (fa_c h_206 (fa_c h_207 (fa_c h_208 (fa_c h_209 (fa_c h_210 (fa_c h_211 (fa_c h_212 (fa_c h_213 (fa_c h_214 (fa_c h_215 (fa_c h_216 (fa_c h_217 (fa_c h_218 (fa_c h_219 (fa_c h_220 (fa_c h_221 (fa_c h_222 (fa_c h_223 (fa_c h_224 (fa_c h_225 (fa_c h_226 (fa_c h_227 (fa_c h_228 (fa_c h_229 (fa_c h_230 (fa_c h_231 (fa_c h_232 (fa_c h_233 (fa_c h_234 (fa_c h_235 (fa_c h_236 (fa_c h_237 (fa_c h_238 (fa_c h_239 fa_n))))))))))))))))))))))))))))))))))))))))
def CH_6 : List ctr := [k_240, k_241, k_242, k_243, k_244, k_245, k_246, k_247, k_248, k_249, k_250, k_251, k_252, k_253, k_254, k_255, k_256, k_257, k_258, k_259, k_260, k_261, k_262, k_263, k_264, k_265, k_266, k_267, k_268, k_269, k_270, k_271, k_272, k_273, k_274, k_275, k_276, k_277, k_278, k_279]
theorem ch_6 : ∀ c ∈ CH_6, LoH c := (fa_c h_240 (fa_c h_241 (fa_c h_242 (fa_c h_243 (fa_c h_244 (fa_c h_245 (fa_c h_246 (fa_c h_247 (fa_c h_248 (fa_c h_249 (fa_c h_250 (fa_c h_251 (fa_c h_252 (fa_c h_253 (fa_c h_254 (fa_c h_255 (fa_c h_256 (fa_c h_257 (fa_c h_258 (fa_c h_259 (fa_c h_260 (fa_c h_261 (fa_c h_262 (fa_c h_263 (fa_c h_264 (fa_c h_265 (fa_c h_266 (fa_c h_267 (fa_c h_268 (fa_c h_269 (fa_c h_270 (fa_c h_271 (fa_c h_272 (fa_c h_273 (fa_c h_274 (fa_c h_275 (fa_c h_276 (fa_c h_277 (fa_c h_278 (fa_c h_279 fa_n))))))))))))))))))))))))))))))))))))))))
def CH_7 : List ctr := [k_280, k_281, k_282, k_283, k_284, k_285, k_286, k_287, k_288, k_289, k_290, k_291, k_292, k_293, k_294, k_295, k_296, k_297, k_298, k_299, k_300, k_301, k_302, k_303, k_304, k_305, k_306, k_307, k_308, k_309, k_310, k_311, k_312, k_313, k_314, k_315, k_316, k_317, k_318, k_319]
theorem ch_7 : ∀ c ∈ CH_7, LoH c := (fa_c h_280 (fa_c h_281 (fa_c h_282 (fa_c h_283 (fa_c h_284 (fa_c h_285 (fa_c h_286 (fa_c h_287 (fa_c h_288 (fa_c h_289 (fa_c h_290 (fa_c h_291 (fa_c h_292 (fa_c h_293 (fa_c h_294 (fa_c h_295 (fa_c h_296 (fa_c h_297 (fa_c h_298 (fa_c h_299 (fa_c h_300 (fa_c h_301 (fa_c h_302 (fa_c h_303 (fa_c h_304 (fa_c h_305 (fa_c h_306 (fa_c h_307 (fa_c h_308 (fa_c h_309 (fa_c h_310 (fa_c h_311 (fa_c h_312 (fa_c h_313 (fa_c h_314 (fa_c h_315 (fa_c h_316 (fa_c h_317 (fa_c h_318 (fa_c h_319 fa_n))))))))))))))))))))))))))))))))))))))))
def CH_8 : List ctr := [k_320, k_321, k_322, k_323, k_324, k_325, k_326, k_327, k_328, k_329, k_330, k_331, k_332, k_333, k_334, k_335, k_336, k_337, k_338, k_339, k_340, k_341, k_342, k_343, k_344, k_345, k_346, k_347, k_348, k_349, k_350, k_351, k_352, k_353, k_354, k_355, k_356, k_357, k_358, k_359]
theorem ch_8 : ∀ c ∈ CH_8, LoH c := (fa_c h_320 (fa_c h_321 (fa_c h_322 (fa_c h_323 (fa_c h_324 (fa_c h_325 (fa_c h_326 (fa_c h_327 (fa_c h_328 (fa_c h_329 (fa_c h_330 (fa_c h_331 (fa_c h_332 (fa_c h_333 (fa_c h_334 (fa_c h_335 (fa_c h_336 (fa_c h_337 (fa_c h_338 (fa_c h_339 (fa_c h_340 (fa_c h_341 (fa_c h_342 (fa_c h_343 (fa_c h_344 (fa_c h_345 (fa_c h_346 (fa_c h_347 (fa_c h_348 (fa_c h_349 (fa_c h_350 (fa_c h_351 (fa_c h_352 (fa_c h_353 (fa_c h_354 (fa_c h_355 (fa_c h_356 (fa_c h_357 (fa_c h_358 (fa_c h_359 fa_n))))))))))))))))))))))))))))))))))))))))
def CH_9 : List ctr := [k_360, k_361, k_362, k_363, k_364, k_365, k_366, k_367, k_368, k_369, k_370, k_371, k_372, k_373, k_374, k_375, k_376, k_377, k_378, k_379, k_380, k_381, k_382, k_383, k_384, k_385, k_386, k_387, k_388, k_389, k_390, k_391, k_392, k_393, k_394, k_395, k_396, k_397, k_398, k_399]
theorem ch_9 : ∀ c ∈ CH_9, LoH c := (fa_c h_360 (fa_c h_361 (fa_c h_362 (fa_c h_363 (fa_c h_364 (fa_c h_365 (fa_c h_366 (fa_c h_367 (fa_c h_368 (fa_c h_369 (fa_c h_370 (fa_c h_371 (fa_c h_372 (fa_c h_373 (fa_c h_374 (fa_c h_375 (fa_c h_376 (fa_c h_377 (fa_c h_378 (fa_c h_379 (fa_c h_380 (fa_c h_381 (fa_c h_382 (fa_c h_383 (fa_c h_384 (fa_c h_385 (fa_c h_386 (fa_c h_387 (fa_c h_388 (fa_c h_389 (fa_c h_390 (fa_c h_391 (fa_c h_392 (fa_c h_393 (fa_c h_394 (fa_c h_395 (fa_c h_396 (fa_c h_397 (fa_c h_398 (fa_c h_399 fa_n))))))))))))))))))))))))))))))))))))))))
def CH_10 : List ctr := [k_400, k_401, k_402, k_403, k_404, k_405, k_406, k_407, k_408, k_409, k_410, k_411, k_412, k_413, k_414, k_415, k_416, k_417, k_418, k_419, k_420, k_421, k_422, k_423, k_424, k_425, k_426, k_427, k_428, k_429, k_430, k_431, k_432, k_433, k_434, k_435, k_436, k_437, k_438, k_439]
theorem ch_10 : ∀ c ∈ CH_10, LoH c := (fa_c h_400 (fa_c h_401 (fa_c h_402 (fa_c h_403 (fa_c h_404 (fa_c h_405 (fa_c h_406 (fa_c h_407 (fa_c h_408 (fa_c h_409 (fa_c h_410 (fa_c h_411 (fa_c h_412 (fa_c h_413 (fa_c h_414 (fa_c h_415 (fa_c h_416 (fa_c h_417 (fa_c h_418 (fa_c h_419 (fa_c h_420 (fa_c h_421 (fa_c h_422 (fa_c h_423 (fa_c h_424 (fa_c h_425 (fa_c h_426 (fa_c h_427 (fa_c h_428 (fa_c h_429 (fa_c h_430 (fa_c h_431 (fa_c h_432 (fa_c h_433 (fa_c h_434 (fa_c h_435 (fa_c h_436 (fa_c h_437 (fa_c h_438 (fa_c h_439 fa_n))))))))))))))))))))))))))))))))))))))))
def CH_11 : List ctr := [k_440, k_441, k_442, k_443, k_444, k_445, k_446, k_447, k_448, k_449, k_450, k_451, k_452, k_453, k_454, k_455, k_456, k_457, k_458, k_459, k_460, k_461, k_462, k_463, k_464, k_465, k_466, k_467, k_468, k_469, k_470, k_471, k_472, k_473, k_474, k_475, k_476, k_477, k_478, k_479]
theorem ch_11 : ∀ c ∈ CH_11, LoH c := (fa_c h_440 (fa_c h_441 (fa_c h_442 (fa_c h_443 (fa_c h_444 (fa_c h_445 (fa_c h_446 (fa_c h_447 (fa_c h_448 (fa_c h_449 (fa_c h_450 (fa_c h_451 (fa_c h_452 (fa_c h_453 (fa_c h_454 (fa_c h_455 (fa_c h_456 (fa_c h_457 (fa_c h_458 (fa_c h_459 (fa_c h_460 (fa_c h_461 (fa_c h_462 (fa_c h_463 (fa_c h_464 (fa_c h_465 (fa_c h_466 (fa_c h_467 (fa_c h_468 (fa_c h_469 (fa_c h_470 (fa_c h_471 (fa_c h_472 (fa_c h_473 (fa_c h_474 (fa_c h_475 (fa_c h_476 (fa_c h_477 (fa_c h_478 (fa_c h_479 fa_n))))))))))))))))))))))))))))))))))))))))
def CH_12 : List ctr := [k_480, k_481, k_482, k_483, k_484, k_485, k_486, k_487, k_488, k_489, k_490, k_491, k_492, k_493, k_494, k_495, k_496, k_497, k_498, k_499, k_500, k_501, k_502, k_503, k_504, k_505, k_506, k_507, k_508, k_509, k_510, k_511, k_512, k_513, k_514, k_515, k_516, k_517, k_518, k_519]
theorem ch_12 : ∀ c ∈ CH_12, LoH c := (fa_c h_480 (fa_c h_481 (fa_c h_482 (fa_c h_483 (fa_c h_484 (fa_c h_485 (fa_c h_486 (fa_c h_487 (fa_c h_488 (fa_c h_489 (fa_c h_490 (fa_c h_491 (fa_c h_492 (fa_c h_493 (fa_c h_494 (fa_c h_495 (fa_c h_496 (fa_c h_497 (fa_c h_498 (fa_c h_499 (fa_c h_500 (fa_c h_501 (fa_c h_502 (fa_c h_503 (fa_c h_504 (fa_c h_505 (fa_c h_506 (fa_c h_507 (fa_c h_508 (fa_c h_509 (fa_c h_510 (fa_c h_511 (fa_c h_512 (fa_c h_513 (fa_c h_514 (fa_c h_515 (fa_c h_516 (fa_c h_517 (fa_c h_518 (fa_c h_519 fa_n))))))))))))))))))))))))))))))))))))))))
def CH_13 : List ctr := [k_520, k_521, k_522, k_523, k_524, k_525, k_526, k_527, k_528, k_529, k_530, k_531, k_532, k_533, k_534, k_535, k_536, k_537, k_538, k_539, k_540, k_541, k_542, k_543, k_544, k_545, k_546, k_547, k_548, k_549, k_550, k_551, k_552, k_553, k_554, k_555, k_556, k_557, k_558, k_559]
theorem ch_13 : ∀ c ∈ CH_13, LoH c := (fa_c h_520 (fa_c h_521 (fa_c h_522 (fa_c h_523 (fa_c h_524 (fa_c h_525 (fa_c h_526 (fa_c h_527 (fa_c h_528 (fa_c h_529 (fa_c h_530 (fa_c h_531 (fa_c h_532 (fa_c h_533 (fa_c h_534 (fa_c h_535 (fa_c h_536 (fa_c h_537 (fa_c h_538 (fa_c h_539 (fa_c h_540 (fa_c h_541 (fa_c h_542 (fa_c h_543 (fa_c h_544 (fa_c h_545 (fa_c h_546 (fa_c h_547 (fa_c h_548 (fa_c h_549 (fa_c h_550 (fa_c h_551 (fa_c h_552 (fa_c h_553 (fa_c h_554 (fa_c h_555 (fa_c h_556 (fa_c h_557 (fa_c h_558 (fa_c h_559 fa_n))))))))))))))))))))))))))))))))))))))))
def CH_14 : List ctr := [k_560, k_561, k_562, k_563, k_564, k_565, k_566, k_567, k_568, k_569, k_570, k_571, k_572, k_573, k_574, k_575, k_576, k_577, k_578, k_579, k_580, k_581, k_582, k_583, k_584, k_585, k_586, k_587, k_588, k_589, k_590, k_591, k_592, k_593, k_594, k_595, k_596, k_597, k_598, k_599]
theorem ch_14 : ∀ c ∈ CH_14, LoH c := (fa_c h_560 (fa_c h_561 (fa_c h_562 (fa_c h_563 (fa_c h_564 (fa_c h_565 (fa_c h_566 (fa_c h_567 (fa_c h_568 (fa_c h_569 (fa_c h_570 (fa_c h_571 (fa_c h_572 (fa_c h_573 (fa_c h_574 (fa_c h_575 (fa_c h_576 (fa_c h_577 (fa_c h_578 (fa_c h_579 (fa_c h_580 (fa_c h_581 (fa_c h_582 (fa_c h_583 (fa_c h_584 (fa_c h_585 (fa_c h_586 (fa_c h_587 (fa_c h_588 (fa_c h_589 (fa_c h_590 (fa_c h_591 (fa_c h_592 (fa_c h_593 (fa_c h_594 (fa_c h_595 (fa_c h_596 (fa_c h_597 (fa_c h_598 (fa_c h_599 fa_n))))))))))))))))))))))))))))))))))))))))
def CH_15 : List ctr := [k_600, k_601, k_602, k_603, k_604, k_605, k_606, k_607]
theorem ch_15 : ∀ c ∈ CH_15, LoH c := (fa_c h_600 (fa_c h_601 (fa_c h_602 (fa_c h_603 (fa_c h_604 (fa_c h_605 (fa_c h_606 (fa_c h_607 fa_n))))))))
set_option maxRecDepth 100000 in
theorem CT_eq : CT = (CH_0 ++ (CH_1 ++ (CH_2 ++ (CH_3 ++ (CH_4 ++ (CH_5 ++ (CH_6 ++ (CH_7 ++ (CH_8 ++ (CH_9 ++ (CH_10 ++ (CH_11 ++ (CH_12 ++ (CH_13 ++ (CH_14 ++ CH_15))))))))))))))) := rfl
theorem allL : ∀ c ∈ CT, LoH c := by
  rw [CT_eq]
  exact (fa_a ch_0 (fa_a ch_1 (fa_a ch_2 (fa_a ch_3 (fa_a ch_4 (fa_a ch_5 (fa_a ch_6 (fa_a ch_7 (fa_a ch_8 (fa_a ch_9 (fa_a ch_10 (fa_a ch_11 (fa_a ch_12 (fa_a ch_13 (fa_a ch_14 ch_15)))))))))))))))
theorem allH : ∀ c ∈ CT, Hold c := all_hold allL
theorem lawU : ∀ u ∈ u_608, (∃ z, ckC CT RT k_608 u_608 u z = true) ∨ HandCut CT k_608 u_608 u := (fa_c (Or.inl ⟨_, zb_608_0⟩) (fa_c (Or.inl ⟨_, zb_608_1⟩) (fa_c (Or.inl ⟨_, zb_608_2⟩) (fa_c (Or.inl ⟨_, zb_608_3⟩) (fa_c (Or.inl ⟨_, zb_608_4⟩) (fa_c (Or.inl ⟨_, zb_608_5⟩) (fa_c (Or.inl ⟨_, zb_608_6⟩) (fa_c (Or.inl ⟨_, zb_608_7⟩) (fa_c (Or.inl ⟨_, zb_608_8⟩) (fa_c (Or.inl ⟨_, zb_608_9⟩) (fa_c (Or.inl ⟨_, zb_608_10⟩) (fa_c (Or.inl ⟨_, zb_608_11⟩) (fa_c (Or.inl ⟨_, zb_608_12⟩) (fa_c (Or.inl ⟨_, zb_608_13⟩) (fa_c (Or.inl ⟨_, zb_608_14⟩) (fa_c (Or.inl ⟨_, zb_608_15⟩) (fa_c (Or.inl ⟨_, zb_608_16⟩) (fa_c (Or.inl ⟨_, zb_608_17⟩) (fa_c (Or.inl ⟨_, zb_608_18⟩) (fa_c (Or.inl ⟨_, zb_608_19⟩) (fa_c (Or.inl ⟨_, zb_608_20⟩) (fa_c (Or.inl ⟨_, zb_608_21⟩) (fa_c (Or.inl ⟨_, zb_608_22⟩) (fa_c (Or.inl ⟨_, zb_608_23⟩) (fa_c (Or.inl ⟨_, zb_608_24⟩) (fa_c (Or.inl ⟨_, zb_608_25⟩) (fa_c (Or.inl ⟨_, zb_608_26⟩) (fa_c (Or.inl ⟨_, zb_608_27⟩) (fa_c (Or.inl ⟨_, zb_608_28⟩) (fa_c (Or.inl ⟨_, zb_608_29⟩) (fa_c (Or.inl ⟨_, zb_608_30⟩) (fa_c (Or.inl ⟨_, zb_608_31⟩) (fa_c (Or.inl ⟨_, zb_608_32⟩) fa_n)))))))))))))))))))))))))))))))))
