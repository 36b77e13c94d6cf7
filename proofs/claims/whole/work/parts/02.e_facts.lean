theorem ck_RX0_55 : CKS RX0 55 yX3_slice cX3_slice 4 (some .int) 4 := ⟨⟨Or.inl wd_183, wd_184, wd_185, ⟨by decide +kernel, by decide +kernel⟩, by decide +kernel⟩, wd_186⟩
theorem ck_RX10_103 : CKV RX10 103 yX4_isDone cX4_isDone 5 (some .boolean) 2 4 := ⟨⟨Or.inl wd_187, wd_188, wd_189, ⟨by decide +kernel, by decide +kernel⟩, by decide +kernel⟩, wd_190, wd_191, by decide, TX4, 6, rfl⟩
theorem ck_RX10_107 : CKS RX10 107 yX10_isAccount cX10_isAccount 1 (some .boolean) 1 := ⟨⟨Or.inl wd_192, wd_193, wd_194, ⟨by decide +kernel, by decide +kernel⟩, by decide +kernel⟩, wd_195⟩
theorem ck_RX10_110 : CKV RX10 110 yX1_copyFrom cX1_copyFrom 3 none 1 1 := ⟨⟨Or.inl wd_196, wd_197, wd_198, ⟨by decide +kernel, by decide +kernel⟩, by decide +kernel⟩, wd_199, wd_200, by decide, TX1, 5, rfl⟩
theorem ck_RX10_113 : CKV RX10 113 yX1_hasBegun cX1_hasBegun 2 (some .boolean) 1 1 := ⟨⟨Or.inl wd_201, wd_202, wd_198, ⟨by decide +kernel, by decide +kernel⟩, by decide +kernel⟩, wd_203, wd_204, by decide, TX1, 5, rfl⟩
theorem ck_RX10_126 : CKV RX10 126 yX5_has cX5_has 2 (some .boolean) 1 5 := ⟨⟨Or.inl wd_205, wd_206, wd_207, ⟨by decide +kernel, by decide +kernel⟩, by decide +kernel⟩, wd_208, wd_209, by decide, TX5, 11, rfl⟩
theorem ck_RX10_140 : CKV RX10 140 yX1_startAccount cX1_startAccount 5 (some .int) 3 1 := ⟨⟨Or.inl wd_210, wd_211, wd_198, ⟨by decide +kernel, by decide +kernel⟩, by decide +kernel⟩, wd_212, wd_213, by decide, TX1, 5, rfl⟩
theorem ck_RX10_144 : CKV RX10 144 yX1_putPlan cX1_putPlan 5 (some .int) 2 1 := ⟨⟨Or.inl wd_214, wd_215, wd_198, ⟨by decide +kernel, by decide +kernel⟩, by decide +kernel⟩, wd_216, wd_217, by decide, TX1, 5, rfl⟩
theorem ck_RX10_148 : CKV RX10 148 yX1_putSeats cX1_putSeats 5 (some .int) 2 1 := ⟨⟨Or.inl wd_218, wd_219, wd_198, ⟨by decide +kernel, by decide +kernel⟩, by decide +kernel⟩, wd_220, wd_221, by decide, TX1, 5, rfl⟩
theorem ck_RX10_151 : CKV RX10 151 yX1_putPaused cX1_putPaused 5 (some .int) 2 1 := ⟨⟨Or.inl wd_222, wd_223, wd_198, ⟨by decide +kernel, by decide +kernel⟩, by decide +kernel⟩, wd_224, wd_225, by decide, TX1, 5, rfl⟩
theorem ck_RX10_155 : CKV RX10 155 yX1_endAccount cX1_endAccount 4 (some .int) 1 1 := ⟨⟨Or.inl wd_226, wd_227, wd_198, ⟨by decide +kernel, by decide +kernel⟩, by decide +kernel⟩, wd_228, wd_229, by decide, TX1, 5, rfl⟩
theorem ck_RX10_158 : CKV RX10 158 yX1_putAnchor cX1_putAnchor 6 (some .int) 2 1 := ⟨⟨Or.inl wd_230, wd_231, wd_198, ⟨by decide +kernel, by decide +kernel⟩, by decide +kernel⟩, wd_232, wd_233, by decide, TX1, 5, rfl⟩
theorem ck_RX10_161 : CKV RX10 161 yX1_addUnits cX1_addUnits 4 (some .int) 2 1 := ⟨⟨Or.inl wd_234, wd_235, wd_198, ⟨by decide +kernel, by decide +kernel⟩, by decide +kernel⟩, wd_236, wd_237, by decide, TX1, 5, rfl⟩
theorem ck_RX10_164 : CKV RX10 164 yX1_passDays cX1_passDays 3 (some .int) 1 1 := ⟨⟨Or.inl wd_238, wd_239, wd_198, ⟨by decide +kernel, by decide +kernel⟩, by decide +kernel⟩, wd_240, wd_241, by decide, TX1, 5, rfl⟩
theorem ck_RX10_167 : CKV RX10 167 yX1_grantFavour cX1_grantFavour 3 (some .int) 2 1 := ⟨⟨Or.inl wd_242, wd_243, wd_198, ⟨by decide +kernel, by decide +kernel⟩, by decide +kernel⟩, wd_244, wd_245, by decide, TX1, 5, rfl⟩
theorem ck_RX10_170 : CKV RX10 170 yX1_takePayment cX1_takePayment 4 (some .int) 2 1 := ⟨⟨Or.inl wd_246, wd_247, wd_198, ⟨by decide +kernel, by decide +kernel⟩, by decide +kernel⟩, wd_248, wd_249, by decide, TX1, 5, rfl⟩
theorem ck_RX10_173 : CKV RX10 173 yX1_writeReminder cX1_writeReminder 6 (some .int) 1 1 := ⟨⟨Or.inl wd_250, wd_251, wd_198, ⟨by decide +kernel, by decide +kernel⟩, by decide +kernel⟩, wd_252, wd_253, by decide, TX1, 5, rfl⟩
theorem ck_RX10_176 : CKV RX10 176 yX1_turnRound cX1_turnRound 5 (some .int) 1 1 := ⟨⟨Or.inl wd_254, wd_255, wd_198, ⟨by decide +kernel, by decide +kernel⟩, by decide +kernel⟩, wd_256, wd_257, by decide, TX1, 5, rfl⟩
theorem ck_RX10_179 : CKV RX10 179 yX5_sumOfKind cX5_sumOfKind 5 (some .int) 2 5 := ⟨⟨Or.inl wd_258, wd_259, wd_207, ⟨by decide +kernel, by decide +kernel⟩, by decide +kernel⟩, wd_260, wd_261, by decide, TX5, 11, rfl⟩
theorem ck_RX10_185 : CKV RX10 185 yX9_worth cX9_worth 5 (some .int) 2 9 := ⟨⟨Or.inl wd_262, wd_263, wd_264, ⟨by decide +kernel, by decide +kernel⟩, by decide +kernel⟩, wd_265, wd_266, by decide, TX9, 8, rfl⟩
theorem ck_RX10_189 : CKV RX10 189 yX5_howManyOf cX5_howManyOf 4 (some .int) 1 5 := ⟨⟨Or.inl wd_267, wd_268, wd_207, ⟨by decide +kernel, by decide +kernel⟩, by decide +kernel⟩, wd_269, wd_270, by decide, TX5, 11, rfl⟩
theorem ck_RX10_192 : CKV RX10 192 yX0_tell cX0_tell 2 (some .int) 1 0 := ⟨⟨Or.inl wd_271, wd_272, wd_273, ⟨by decide +kernel, by decide +kernel⟩, by decide +kernel⟩, wd_274, wd_275, by decide, TX0, 14, rfl⟩
theorem ck_RX10_198 : CKV RX10 198 yX5_sumLate cX5_sumLate 8 (some .int) 3 5 := ⟨⟨Or.inl wd_276, wd_277, wd_207, ⟨by decide +kernel, by decide +kernel⟩, by decide +kernel⟩, wd_278, wd_279, by decide, TX5, 11, rfl⟩
theorem ck_RX10_201 : CKV RX10 201 yX5_tellOpen cX5_tellOpen 10 (some .int) 3 5 := ⟨⟨Or.inl wd_280, wd_281, wd_207, ⟨by decide +kernel, by decide +kernel⟩, by decide +kernel⟩, wd_282, wd_283, by decide, TX5, 11, rfl⟩
theorem ck_RX10_204 : CKV RX10 204 yX5_sumEarned cX5_sumEarned 5 (some .int) 2 5 := ⟨⟨Or.inl wd_284, wd_285, wd_207, ⟨by decide +kernel, by decide +kernel⟩, by decide +kernel⟩, wd_286, wd_287, by decide, TX5, 11, rfl⟩
theorem ck_RX10_207 : CKV RX10 207 yX5_sumOfPeriod cX5_sumOfPeriod 5 (some .int) 2 5 := ⟨⟨Or.inl wd_288, wd_289, wd_207, ⟨by decide +kernel, by decide +kernel⟩, by decide +kernel⟩, wd_290, wd_291, by decide, TX5, 11, rfl⟩
theorem ck_RX10_210 : CKV RX10 210 yX1_taxesOf cX1_taxesOf 6 (some .int) 2 1 := ⟨⟨Or.inl wd_292, wd_293, wd_198, ⟨by decide +kernel, by decide +kernel⟩, by decide +kernel⟩, wd_294, wd_295, by decide, TX1, 5, rfl⟩
theorem ck_RX10_213 : CKV RX10 213 yX1_isRunning cX1_isRunning 2 (some .boolean) 1 1 := ⟨⟨Or.inl wd_296, wd_297, wd_198, ⟨by decide +kernel, by decide +kernel⟩, by decide +kernel⟩, wd_298, wd_299, by decide, TX1, 5, rfl⟩
theorem ck_RX10_216 : CKS RX10 216 yX10_isPlan cX10_isPlan 1 (some .boolean) 1 := ⟨⟨Or.inl wd_300, wd_301, wd_194, ⟨by decide +kernel, by decide +kernel⟩, by decide +kernel⟩, wd_302⟩
theorem ck_RX10_222 : CKV RX10 222 yX1_quoteOn cX1_quoteOn 4 (some .int) 3 1 := ⟨⟨Or.inl wd_303, wd_304, wd_198, ⟨by decide +kernel, by decide +kernel⟩, by decide +kernel⟩, wd_305, wd_306, by decide, TX1, 5, rfl⟩
theorem ck_RX10_226 : CKV RX10 226 yX1_cheapestDay cX1_cheapestDay 7 (some .int) 2 1 := ⟨⟨Or.inl wd_307, wd_308, wd_198, ⟨by decide +kernel, by decide +kernel⟩, by decide +kernel⟩, wd_309, wd_310, by decide, TX1, 5, rfl⟩
theorem ck_RX10_230 : CKV RX10 230 yX1_cheapestChange cX1_cheapestChange 6 (some .int) 1 1 := ⟨⟨Or.inl wd_311, wd_312, wd_198, ⟨by decide +kernel, by decide +kernel⟩, by decide +kernel⟩, wd_313, wd_314, by decide, TX1, 5, rfl⟩
theorem ck_RX10_234 : CKV RX10 234 yX1_canPassDay cX1_canPassDay 4 (some .boolean) 0 1 := ⟨⟨Or.inl wd_315, wd_316, wd_198, ⟨by decide +kernel, by decide +kernel⟩, by decide +kernel⟩, wd_317, wd_318, by decide, TX1, 5, rfl⟩
theorem ck_RX10_238 : CKV RX10 238 yX1_passDay cX1_passDay 3 none 0 1 := ⟨⟨Or.inl wd_319, wd_320, wd_198, ⟨by decide +kernel, by decide +kernel⟩, by decide +kernel⟩, wd_321, wd_322, by decide, TX1, 5, rfl⟩
theorem ck_RX10_241 : CKV RX10 241 yX1_taxOf cX1_taxOf 8 (some .int) 1 1 := ⟨⟨Or.inl wd_323, wd_324, wd_198, ⟨by decide +kernel, by decide +kernel⟩, by decide +kernel⟩, wd_325, wd_326, by decide, TX1, 5, rfl⟩
theorem ck_RX10_247 : CKV RX10 247 yX5_openOf cX5_openOf 5 (some .int) 2 5 := ⟨⟨Or.inl wd_327, wd_328, wd_207, ⟨by decide +kernel, by decide +kernel⟩, by decide +kernel⟩, wd_329, wd_330, by decide, TX5, 11, rfl⟩
theorem ck_RX10_250 : CKV RX10 250 yX5_sumWritten cX5_sumWritten 5 (some .int) 2 5 := ⟨⟨Or.inl wd_331, wd_332, wd_207, ⟨by decide +kernel, by decide +kernel⟩, by decide +kernel⟩, wd_333, wd_334, by decide, TX5, 11, rfl⟩
theorem ck_RX10_253 : CKV RX10 253 yX5_tell cX5_tell 3 (some .int) 2 5 := ⟨⟨Or.inl wd_335, wd_336, wd_207, ⟨by decide +kernel, by decide +kernel⟩, by decide +kernel⟩, wd_337, wd_338, by decide, TX5, 11, rfl⟩
theorem ck_RX10_255 : CKV RX10 255 yX6_write cX6_write 3 none 2 6 := ⟨⟨Or.inl wd_339, wd_340, wd_341, ⟨by decide +kernel, by decide +kernel⟩, by decide +kernel⟩, wd_342, wd_343, by decide, TX6, 3, rfl⟩
theorem ck_RX10_262 : CKV RX10 262 yX6_byteAt cX6_byteAt 2 (some .int) 1 6 := ⟨⟨Or.inl wd_344, wd_345, wd_341, ⟨by decide +kernel, by decide +kernel⟩, by decide +kernel⟩, wd_346, wd_347, by decide, TX6, 3, rfl⟩
theorem ck_RX10_265 : CKV RX10 265 yX9_termsOf cX9_termsOf 2 (some (.object "SlicedBills$PlanTerms")) 1 9 := ⟨⟨Or.inl wd_348, wd_349, wd_264, ⟨by decide +kernel, by decide +kernel⟩, by decide +kernel⟩, wd_350, wd_351, by decide, TX9, 8, rfl⟩
theorem ck_RX10_269 : CKV RX10 269 yX7_tell cX7_tell 2 (some .int) 1 7 := ⟨⟨Or.inl wd_352, wd_353, wd_354, ⟨by decide +kernel, by decide +kernel⟩, by decide +kernel⟩, wd_355, wd_356, by decide, TX7, 11, rfl⟩
theorem ck_RX10_272 : CKV RX10 272 yX1_begunBits cX1_begunBits 3 (some .int) 0 1 := ⟨⟨Or.inl wd_357, wd_358, wd_198, ⟨by decide +kernel, by decide +kernel⟩, by decide +kernel⟩, wd_359, wd_360, by decide, TX1, 5, rfl⟩
theorem ck_RX10_276 : CKV RX10 276 yX1_endedBits cX1_endedBits 3 (some .int) 0 1 := ⟨⟨Or.inl wd_361, wd_362, wd_198, ⟨by decide +kernel, by decide +kernel⟩, by decide +kernel⟩, wd_363, wd_364, by decide, TX1, 5, rfl⟩
theorem ck_RX10_279 : CKV RX10 279 yX1_pausedBits cX1_pausedBits 3 (some .int) 0 1 := ⟨⟨Or.inl wd_365, wd_366, wd_198, ⟨by decide +kernel, by decide +kernel⟩, by decide +kernel⟩, wd_367, wd_368, by decide, TX1, 5, rfl⟩
theorem ck_RX10_282 : CKV RX10 282 yX9_tell cX9_tell 2 (some .int) 1 9 := ⟨⟨Or.inl wd_369, wd_370, wd_264, ⟨by decide +kernel, by decide +kernel⟩, by decide +kernel⟩, wd_371, wd_372, by decide, TX9, 8, rfl⟩
theorem ck_RX10_283 : CKS RX10 283 yX10_areUnits cX10_areUnits 1 (some .boolean) 1 := ⟨⟨Or.inl wd_373, wd_374, wd_194, ⟨by decide +kernel, by decide +kernel⟩, by decide +kernel⟩, wd_375⟩
theorem ck_RX10_286 : CKV RX10 286 yX7_usageOf cX7_usageOf 3 (some .int) 1 7 := ⟨⟨Or.inl wd_376, wd_377, wd_354, ⟨by decide +kernel, by decide +kernel⟩, by decide +kernel⟩, wd_378, wd_379, by decide, TX7, 11, rfl⟩
theorem ck_RX10_290 : CKV RX10 290 yX7_mostUnits cX7_mostUnits 3 (some .int) 1 7 := ⟨⟨Or.inl wd_380, wd_381, wd_354, ⟨by decide +kernel, by decide +kernel⟩, by decide +kernel⟩, wd_382, wd_383, by decide, TX7, 11, rfl⟩
theorem ck_RX10_293 : CKV RX10 293 yX9_cheapestPlan cX9_cheapestPlan 6 (some .int) 1 9 := ⟨⟨Or.inl wd_384, wd_385, wd_264, ⟨by decide +kernel, by decide +kernel⟩, by decide +kernel⟩, wd_386, wd_387, by decide, TX9, 8, rfl⟩
theorem ck_RX10_297 : CKS RX10 297 yX10_isAnchor cX10_isAnchor 1 (some .boolean) 1 := ⟨⟨Or.inl wd_388, wd_389, wd_194, ⟨by decide +kernel, by decide +kernel⟩, by decide +kernel⟩, wd_390⟩
theorem ck_RX10_300 : CKS RX10 300 yX10_isDay cX10_isDay 1 (some .boolean) 1 := ⟨⟨Or.inl wd_391, wd_392, wd_194, ⟨by decide +kernel, by decide +kernel⟩, by decide +kernel⟩, wd_393⟩
theorem ck_RX10_303 : CKV RX10 303 yX3_lastTurn cX3_lastTurn 5 (some .int) 2 3 := ⟨⟨Or.inl wd_394, wd_395, wd_185, ⟨by decide +kernel, by decide +kernel⟩, by decide +kernel⟩, wd_396, wd_397, by decide, TX3, 1, rfl⟩
theorem ck_RX10_306 : CKV RX10 306 yX3_nextTurn cX3_nextTurn 5 (some .int) 2 3 := ⟨⟨Or.inl wd_398, wd_399, wd_185, ⟨by decide +kernel, by decide +kernel⟩, by decide +kernel⟩, wd_400, wd_401, by decide, TX3, 1, rfl⟩
theorem ck_RX10_309 : CKS RX10 309 yX3_slice cX3_slice 4 (some .int) 4 := ⟨⟨Or.inl wd_402, wd_184, wd_185, ⟨by decide +kernel, by decide +kernel⟩, by decide +kernel⟩, wd_186⟩
theorem ck_RX10_313 : CKV RX10 313 yX3_yearOf cX3_yearOf 2 (some .int) 1 3 := ⟨⟨Or.inl wd_403, wd_404, wd_185, ⟨by decide +kernel, by decide +kernel⟩, by decide +kernel⟩, wd_405, wd_406, by decide, TX3, 1, rfl⟩
theorem ck_RX10_316 : CKV RX10 316 yX3_monthOf cX3_monthOf 2 (some .int) 1 3 := ⟨⟨Or.inl wd_407, wd_408, wd_185, ⟨by decide +kernel, by decide +kernel⟩, by decide +kernel⟩, wd_409, wd_410, by decide, TX3, 1, rfl⟩
theorem ck_RX10_319 : CKV RX10 319 yX3_dayOfMonth cX3_dayOfMonth 2 (some .int) 1 3 := ⟨⟨Or.inl wd_411, wd_412, wd_185, ⟨by decide +kernel, by decide +kernel⟩, by decide +kernel⟩, wd_413, wd_414, by decide, TX3, 1, rfl⟩
theorem ck_RX10_322 : CKV RX10 322 yX3_dayOf cX3_dayOf 5 (some .int) 3 3 := ⟨⟨Or.inl wd_415, wd_416, wd_185, ⟨by decide +kernel, by decide +kernel⟩, by decide +kernel⟩, wd_417, wd_418, by decide, TX3, 1, rfl⟩
theorem ck_RX10_62 : CKV RX10 62 yX10_putOnTape cX10_putOnTape 3 none 1 10 := ⟨⟨Or.inl wd_419, wd_420, wd_194, ⟨by decide +kernel, by decide +kernel⟩, by decide +kernel⟩, wd_421, wd_422, by decide, TX10, 10, rfl⟩
theorem ck_RX10_66 : CKV RX10 66 yX10_hasText cX10_hasText 2 (some .boolean) 1 10 := ⟨⟨Or.inl wd_423, wd_424, wd_194, ⟨by decide +kernel, by decide +kernel⟩, by decide +kernel⟩, wd_425, wd_426, by decide, TX10, 10, rfl⟩
theorem ck_RX10_79 : CKV RX10 79 yX2_read cX2_read 4 (some .int) 1 2 := ⟨⟨Or.inl wd_427, wd_428, wd_429, ⟨by decide +kernel, by decide +kernel⟩, by decide +kernel⟩, wd_430, wd_431, by decide, TX2, 2, rfl⟩
theorem ck_RX10_90 : CKV RX10 90 yX9_copyFrom cX9_copyFrom 3 none 1 9 := ⟨⟨Or.inl wd_432, wd_433, wd_264, ⟨by decide +kernel, by decide +kernel⟩, by decide +kernel⟩, wd_434, wd_435, by decide, TX9, 8, rfl⟩
theorem ck_RX10_99 : CKV RX10 99 yX4_read cX4_read 4 (some .int) 1 4 := ⟨⟨Or.inl wd_436, wd_437, wd_189, ⟨by decide +kernel, by decide +kernel⟩, by decide +kernel⟩, wd_438, wd_439, by decide, TX4, 6, rfl⟩
theorem ck_RX11_101 : CKV RX11 101 yX11_here cX11_here 1 (some .int) 0 11 := ⟨⟨Or.inl wd_440, wd_441, wd_442, ⟨by decide +kernel, by decide +kernel⟩, by decide +kernel⟩, wd_443, wd_444, by decide, TX11, 22, rfl⟩
theorem ck_RX11_105 : CKV RX11 105 yX11_wrongAt cX11_wrongAt 3 (some .boolean) 2 11 := ⟨⟨Or.inl wd_445, wd_446, wd_442, ⟨by decide +kernel, by decide +kernel⟩, by decide +kernel⟩, wd_447, wd_448, by decide, TX11, 22, rfl⟩
theorem ck_RX11_122 : CKV RX11 122 yX11_takesSign cX11_takesSign 2 (some .boolean) 1 11 := ⟨⟨Or.inl wd_449, wd_450, wd_442, ⟨by decide +kernel, by decide +kernel⟩, by decide +kernel⟩, wd_451, wd_452, by decide, TX11, 22, rfl⟩
theorem ck_RX11_125 : CKS RX11 125 yX11_isDigit cX11_isDigit 1 (some .boolean) 1 := ⟨⟨Or.inl wd_453, wd_454, wd_442, ⟨by decide +kernel, by decide +kernel⟩, by decide +kernel⟩, wd_455⟩
theorem ck_RX11_131 : CKV RX11 131 yX11_readsNumber cX11_readsNumber 4 (some .boolean) 2 11 := ⟨⟨Or.inl wd_456, wd_457, wd_442, ⟨by decide +kernel, by decide +kernel⟩, by decide +kernel⟩, wd_458, wd_459, by decide, TX11, 22, rfl⟩
theorem ck_RX11_134 : CKV RX11 134 yX11_readsWord cX11_readsWord 1 none 0 11 := ⟨⟨Or.inl wd_460, wd_461, wd_442, ⟨by decide +kernel, by decide +kernel⟩, by decide +kernel⟩, wd_462, wd_463, by decide, TX11, 22, rfl⟩
theorem ck_RX11_141 : CKV RX11 141 yX11_keepsNumber cX11_keepsNumber 2 (some .boolean) 1 11 := ⟨⟨Or.inl wd_464, wd_465, wd_442, ⟨by decide +kernel, by decide +kernel⟩, by decide +kernel⟩, wd_466, wd_467, by decide, TX11, 22, rfl⟩
theorem ck_RX11_146 : CKV RX11 146 yX11_readsLess cX11_readsLess 1 (some .boolean) 0 11 := ⟨⟨Or.inl wd_468, wd_469, wd_442, ⟨by decide +kernel, by decide +kernel⟩, by decide +kernel⟩, wd_470, wd_471, by decide, TX11, 22, rfl⟩
theorem ck_RX11_152 : CKV RX11 152 yX11_readsTax cX11_readsTax 3 (some .boolean) 0 11 := ⟨⟨Or.inl wd_472, wd_473, wd_442, ⟨by decide +kernel, by decide +kernel⟩, by decide +kernel⟩, wd_474, wd_475, by decide, TX11, 22, rfl⟩
theorem ck_RX11_174 : CKS RX11 174 yX11_isClauseWord cX11_isClauseWord 2 (some .boolean) 1 := ⟨⟨Or.inl wd_476, wd_477, wd_442, ⟨by decide +kernel, by decide +kernel⟩, by decide +kernel⟩, wd_478⟩
theorem ck_RX11_178 : CKV RX11 178 yX11_readsOfAll cX11_readsOfAll 3 (some .boolean) 1 11 := ⟨⟨Or.inl wd_479, wd_480, wd_442, ⟨by decide +kernel, by decide +kernel⟩, by decide +kernel⟩, wd_481, wd_482, by decide, TX11, 22, rfl⟩
theorem ck_RX11_181 : CKV RX11 181 yX11_readsPlan cX11_readsPlan 1 (some .boolean) 0 11 := ⟨⟨Or.inl wd_483, wd_484, wd_442, ⟨by decide +kernel, by decide +kernel⟩, by decide +kernel⟩, wd_485, wd_486, by decide, TX11, 22, rfl⟩
theorem ck_RX11_184 : CKV RX11 184 yX11_readsTier cX11_readsTier 4 (some .boolean) 1 11 := ⟨⟨Or.inl wd_487, wd_488, wd_442, ⟨by decide +kernel, by decide +kernel⟩, by decide +kernel⟩, wd_489, wd_490, by decide, TX11, 22, rfl⟩
theorem ck_RX11_187 : CKV RX11 187 yX11_readsBulk cX11_readsBulk 4 (some .boolean) 1 11 := ⟨⟨Or.inl wd_491, wd_492, wd_442, ⟨by decide +kernel, by decide +kernel⟩, by decide +kernel⟩, wd_493, wd_494, by decide, TX11, 22, rfl⟩
theorem ck_RX11_190 : CKV RX11 190 yX11_readsMode cX11_readsMode 2 (some .boolean) 1 11 := ⟨⟨Or.inl wd_495, wd_496, wd_442, ⟨by decide +kernel, by decide +kernel⟩, by decide +kernel⟩, wd_497, wd_498, by decide, TX11, 22, rfl⟩
theorem ck_RX11_194 : CKV RX11 194 yX11_readsClause cX11_readsClause 4 (some .boolean) 0 11 := ⟨⟨Or.inl wd_499, wd_500, wd_442, ⟨by decide +kernel, by decide +kernel⟩, by decide +kernel⟩, wd_501, wd_502, by decide, TX11, 22, rfl⟩
theorem ck_RX11_197 : CKS RX11 197 yX11_isPlan cX11_isPlan 1 (some .boolean) 1 := ⟨⟨Or.inl wd_503, wd_504, wd_442, ⟨by decide +kernel, by decide +kernel⟩, by decide +kernel⟩, wd_505⟩
theorem ck_RX11_200 : CKV RX11 200 yX11_planOf cX11_planOf 3 (some .int) 2 11 := ⟨⟨Or.inl wd_506, wd_507, wd_442, ⟨by decide +kernel, by decide +kernel⟩, by decide +kernel⟩, wd_508, wd_509, by decide, TX11, 22, rfl⟩
theorem ck_RX11_203 : CKS RX11 203 yX11_max cX11_max 2 (some .int) 2 := ⟨⟨Or.inl wd_510, wd_511, wd_442, ⟨by decide +kernel, by decide +kernel⟩, by decide +kernel⟩, wd_512⟩
theorem ck_RX11_206 : CKV RX11 206 yX11_usageOf cX11_usageOf 8 (some .int) 2 11 := ⟨⟨Or.inl wd_513, wd_514, wd_442, ⟨by decide +kernel, by decide +kernel⟩, by decide +kernel⟩, wd_515, wd_516, by decide, TX11, 22, rfl⟩
theorem ck_RX11_210 : CKS RX11 210 yX11_isNumber cX11_isNumber 1 (some .boolean) 1 := ⟨⟨Or.inl wd_517, wd_518, wd_442, ⟨by decide +kernel, by decide +kernel⟩, by decide +kernel⟩, wd_519⟩
theorem ck_RX11_213 : CKV RX11 213 yX11_of cX11_of 3 (some .int) 2 11 := ⟨⟨Or.inl wd_520, wd_521, wd_442, ⟨by decide +kernel, by decide +kernel⟩, by decide +kernel⟩, wd_522, wd_523, by decide, TX11, 22, rfl⟩
theorem ck_RX11_216 : CKV RX11 216 yX11_isBegun cX11_isBegun 2 (some .boolean) 1 11 := ⟨⟨Or.inl wd_524, wd_525, wd_442, ⟨by decide +kernel, by decide +kernel⟩, by decide +kernel⟩, wd_526, wd_527, by decide, TX11, 22, rfl⟩
theorem ck_RX11_219 : CKV RX11 219 yX11_entryOf cX11_entryOf 3 (some .int) 2 11 := ⟨⟨Or.inl wd_528, wd_529, wd_442, ⟨by decide +kernel, by decide +kernel⟩, by decide +kernel⟩, wd_530, wd_531, by decide, TX11, 22, rfl⟩
theorem ck_RX11_222 : CKV RX11 222 yX11_worthBy cX11_worthBy 6 (some .int) 2 11 := ⟨⟨Or.inl wd_532, wd_533, wd_442, ⟨by decide +kernel, by decide +kernel⟩, by decide +kernel⟩, wd_534, wd_535, by decide, TX11, 22, rfl⟩
theorem ck_RX11_225 : CKV RX11 225 yX11_leftBy cX11_leftBy 4 (some .int) 3 11 := ⟨⟨Or.inl wd_536, wd_537, wd_442, ⟨by decide +kernel, by decide +kernel⟩, by decide +kernel⟩, wd_538, wd_539, by decide, TX11, 22, rfl⟩
theorem ck_RX11_229 : CKV RX11 229 yX11_writes cX11_writes 7 (some .int) 5 11 := ⟨⟨Or.inl wd_540, wd_541, wd_442, ⟨by decide +kernel, by decide +kernel⟩, by decide +kernel⟩, wd_542, wd_543, by decide, TX11, 22, rfl⟩
theorem ck_RX11_233 : CKV RX11 233 yX11_sets cX11_sets 4 none 3 11 := ⟨⟨Or.inl wd_544, wd_545, wd_442, ⟨by decide +kernel, by decide +kernel⟩, by decide +kernel⟩, wd_546, wd_547, by decide, TX11, 22, rfl⟩
theorem ck_RX11_237 : CKV RX11 237 yX11_opens cX11_opens 3 none 2 11 := ⟨⟨Or.inl wd_548, wd_549, wd_442, ⟨by decide +kernel, by decide +kernel⟩, by decide +kernel⟩, wd_550, wd_551, by decide, TX11, 22, rfl⟩
theorem ck_RX11_241 : CKV RX11 241 yX11_charges cX11_charges 2 (some .int) 1 11 := ⟨⟨Or.inl wd_552, wd_553, wd_442, ⟨by decide +kernel, by decide +kernel⟩, by decide +kernel⟩, wd_554, wd_555, by decide, TX11, 22, rfl⟩
theorem ck_RX11_244 : CKV RX11 244 yX11_isOn cX11_isOn 2 (some .boolean) 1 11 := ⟨⟨Or.inl wd_556, wd_557, wd_442, ⟨by decide +kernel, by decide +kernel⟩, by decide +kernel⟩, wd_558, wd_559, by decide, TX11, 22, rfl⟩
theorem ck_RX11_249 : CKV RX11 249 yX11_credits cX11_credits 2 (some .int) 1 11 := ⟨⟨Or.inl wd_560, wd_561, wd_442, ⟨by decide +kernel, by decide +kernel⟩, by decide +kernel⟩, wd_562, wd_563, by decide, TX11, 22, rfl⟩
theorem ck_RX11_252 : CKV RX11 252 yX11_uses cX11_uses 3 (some .int) 1 11 := ⟨⟨Or.inl wd_564, wd_565, wd_442, ⟨by decide +kernel, by decide +kernel⟩, by decide +kernel⟩, wd_566, wd_567, by decide, TX11, 22, rfl⟩
theorem ck_RX11_256 : CKV RX11 256 yX11_turnsOn cX11_turnsOn 3 (some .boolean) 2 11 := ⟨⟨Or.inl wd_568, wd_569, wd_442, ⟨by decide +kernel, by decide +kernel⟩, by decide +kernel⟩, wd_570, wd_571, by decide, TX11, 22, rfl⟩
theorem ck_RX11_259 : CKV RX11 259 yX11_mayPass cX11_mayPass 4 (some .boolean) 0 11 := ⟨⟨Or.inl wd_572, wd_573, wd_442, ⟨by decide +kernel, by decide +kernel⟩, by decide +kernel⟩, wd_574, wd_575, by decide, TX11, 22, rfl⟩
theorem ck_RX11_262 : CKV RX11 262 yX11_pass cX11_pass 4 (some .int) 1 11 := ⟨⟨Or.inl wd_576, wd_577, wd_442, ⟨by decide +kernel, by decide +kernel⟩, by decide +kernel⟩, wd_578, wd_579, by decide, TX11, 22, rfl⟩
theorem ck_RX11_265 : CKV RX11 265 yX11_allOf cX11_allOf 4 (some .int) 1 11 := ⟨⟨Or.inl wd_580, wd_581, wd_442, ⟨by decide +kernel, by decide +kernel⟩, by decide +kernel⟩, wd_582, wd_583, by decide, TX11, 22, rfl⟩
theorem ck_RX11_268 : CKV RX11 268 yX11_isEntry cX11_isEntry 2 (some .boolean) 1 11 := ⟨⟨Or.inl wd_584, wd_585, wd_442, ⟨by decide +kernel, by decide +kernel⟩, by decide +kernel⟩, wd_586, wd_587, by decide, TX11, 22, rfl⟩
theorem ck_RX11_278 : CKV RX11 278 yX11_readsAccount cX11_readsAccount 1 (some .boolean) 0 11 := ⟨⟨Or.inl wd_588, wd_589, wd_442, ⟨by decide +kernel, by decide +kernel⟩, by decide +kernel⟩, wd_590, wd_591, by decide, TX11, 22, rfl⟩
theorem ck_RX11_303 : CKS RX11 303 yX11_isDeed cX11_isDeed 2 (some .boolean) 1 := ⟨⟨Or.inl wd_592, wd_593, wd_442, ⟨by decide +kernel, by decide +kernel⟩, by decide +kernel⟩, wd_594⟩
theorem ck_RX11_306 : CKV RX11 306 yX11_readsRest cX11_readsRest 3 (some .boolean) 1 11 := ⟨⟨Or.inl wd_595, wd_596, wd_442, ⟨by decide +kernel, by decide +kernel⟩, by decide +kernel⟩, wd_597, wd_598, by decide, TX11, 22, rfl⟩
theorem ck_RX11_309 : CKV RX11 309 yX11_readsStep cX11_readsStep 1 (some .boolean) 0 11 := ⟨⟨Or.inl wd_599, wd_600, wd_442, ⟨by decide +kernel, by decide +kernel⟩, by decide +kernel⟩, wd_601, wd_602, by decide, TX11, 22, rfl⟩
theorem ck_RX11_312 : CKV RX11 312 yX11_begin cX11_begin 5 (some .int) 3 11 := ⟨⟨Or.inl wd_603, wd_604, wd_442, ⟨by decide +kernel, by decide +kernel⟩, by decide +kernel⟩, wd_605, wd_606, by decide, TX11, 22, rfl⟩
theorem ck_RX11_315 : CKV RX11 315 yX11_change cX11_change 4 (some .int) 2 11 := ⟨⟨Or.inl wd_607, wd_608, wd_442, ⟨by decide +kernel, by decide +kernel⟩, by decide +kernel⟩, wd_609, wd_610, by decide, TX11, 22, rfl⟩
theorem ck_RX11_318 : CKV RX11 318 yX11_seats cX11_seats 4 (some .int) 2 11 := ⟨⟨Or.inl wd_611, wd_612, wd_442, ⟨by decide +kernel, by decide +kernel⟩, by decide +kernel⟩, wd_613, wd_614, by decide, TX11, 22, rfl⟩
theorem ck_RX11_321 : CKV RX11 321 yX11_pay cX11_pay 3 (some .int) 2 11 := ⟨⟨Or.inl wd_615, wd_616, wd_442, ⟨by decide +kernel, by decide +kernel⟩, by decide +kernel⟩, wd_617, wd_618, by decide, TX11, 22, rfl⟩
theorem ck_RX11_324 : CKV RX11 324 yX11_remind cX11_remind 3 (some .int) 1 11 := ⟨⟨Or.inl wd_619, wd_620, wd_442, ⟨by decide +kernel, by decide +kernel⟩, by decide +kernel⟩, wd_621, wd_622, by decide, TX11, 22, rfl⟩
theorem ck_RX11_327 : CKV RX11 327 yX11_pause cX11_pause 4 (some .int) 2 11 := ⟨⟨Or.inl wd_623, wd_624, wd_442, ⟨by decide +kernel, by decide +kernel⟩, by decide +kernel⟩, wd_625, wd_626, by decide, TX11, 22, rfl⟩
theorem ck_RX11_331 : CKV RX11 331 yX11_giveUp cX11_giveUp 3 (some .int) 1 11 := ⟨⟨Or.inl wd_627, wd_628, wd_442, ⟨by decide +kernel, by decide +kernel⟩, by decide +kernel⟩, wd_629, wd_630, by decide, TX11, 22, rfl⟩
theorem ck_RX11_334 : CKV RX11 334 yX11_use cX11_use 3 (some .int) 2 11 := ⟨⟨Or.inl wd_631, wd_632, wd_442, ⟨by decide +kernel, by decide +kernel⟩, by decide +kernel⟩, wd_633, wd_634, by decide, TX11, 22, rfl⟩
theorem ck_RX11_337 : CKV RX11 337 yX11_days cX11_days 2 (some .int) 1 11 := ⟨⟨Or.inl wd_635, wd_636, wd_442, ⟨by decide +kernel, by decide +kernel⟩, by decide +kernel⟩, wd_637, wd_638, by decide, TX11, 22, rfl⟩
theorem ck_RX11_340 : CKV RX11 340 yX11_favour cX11_favour 3 (some .int) 2 11 := ⟨⟨Or.inl wd_639, wd_640, wd_442, ⟨by decide +kernel, by decide +kernel⟩, by decide +kernel⟩, wd_641, wd_642, by decide, TX11, 22, rfl⟩
theorem ck_RX11_343 : CKV RX11 343 yX11_move cX11_move 4 (some .int) 2 11 := ⟨⟨Or.inl wd_643, wd_644, wd_442, ⟨by decide +kernel, by decide +kernel⟩, by decide +kernel⟩, wd_645, wd_646, by decide, TX11, 22, rfl⟩
theorem ck_RX11_346 : CKV RX11 346 yX11_turn cX11_turn 4 (some .int) 1 11 := ⟨⟨Or.inl wd_647, wd_648, wd_442, ⟨by decide +kernel, by decide +kernel⟩, by decide +kernel⟩, wd_649, wd_650, by decide, TX11, 22, rfl⟩
theorem ck_RX11_349 : CKV RX11 349 yX11_does cX11_does 5 (some .boolean) 1 11 := ⟨⟨Or.inl wd_651, wd_652, wd_442, ⟨by decide +kernel, by decide +kernel⟩, by decide +kernel⟩, wd_653, wd_654, by decide, TX11, 22, rfl⟩
theorem ck_RX11_352 : CKV RX11 352 yX11_isLong cX11_isLong 2 (some .boolean) 1 11 := ⟨⟨Or.inl wd_655, wd_656, wd_442, ⟨by decide +kernel, by decide +kernel⟩, by decide +kernel⟩, wd_657, wd_658, by decide, TX11, 22, rfl⟩
theorem ck_RX11_355 : CKV RX11 355 yX11_readsDeeds cX11_readsDeeds 3 (some .boolean) 1 11 := ⟨⟨Or.inl wd_659, wd_660, wd_442, ⟨by decide +kernel, by decide +kernel⟩, by decide +kernel⟩, wd_661, wd_662, by decide, TX11, 22, rfl⟩
theorem ck_RX11_358 : CKV RX11 358 yX11_doesAll cX11_doesAll 2 (some .int) 0 11 := ⟨⟨Or.inl wd_663, wd_664, wd_442, ⟨by decide +kernel, by decide +kernel⟩, by decide +kernel⟩, wd_665, wd_666, by decide, TX11, 22, rfl⟩
theorem ck_RX11_361 : CKV RX11 361 yX11_copies cX11_copies 4 none 2 11 := ⟨⟨Or.inl wd_667, wd_668, wd_442, ⟨by decide +kernel, by decide +kernel⟩, by decide +kernel⟩, wd_669, wd_670, by decide, TX11, 22, rfl⟩
theorem ck_RX11_364 : CKV RX11 364 yX11_bitsOf cX11_bitsOf 4 (some .int) 1 11 := ⟨⟨Or.inl wd_671, wd_672, wd_442, ⟨by decide +kernel, by decide +kernel⟩, by decide +kernel⟩, wd_673, wd_674, by decide, TX11, 22, rfl⟩
theorem ck_RX11_367 : CKV RX11 367 yX11_sumOf cX11_sumOf 5 (some .int) 2 11 := ⟨⟨Or.inl wd_675, wd_676, wd_442, ⟨by decide +kernel, by decide +kernel⟩, by decide +kernel⟩, wd_677, wd_678, by decide, TX11, 22, rfl⟩
theorem ck_RX11_370 : CKV RX11 370 yX11_worth cX11_worth 2 (some .int) 1 11 := ⟨⟨Or.inl wd_679, wd_680, wd_442, ⟨by decide +kernel, by decide +kernel⟩, by decide +kernel⟩, wd_681, wd_682, by decide, TX11, 22, rfl⟩
theorem ck_RX11_376 : CKV RX11 376 yX11_says cX11_says 2 none 1 11 := ⟨⟨Or.inl wd_683, wd_684, wd_442, ⟨by decide +kernel, by decide +kernel⟩, by decide +kernel⟩, wd_685, wd_686, by decide, TX11, 22, rfl⟩
theorem ck_RX11_381 : CKV RX11 381 yX11_saysNumber cX11_saysNumber 6 none 2 11 := ⟨⟨Or.inl wd_687, wd_688, wd_442, ⟨by decide +kernel, by decide +kernel⟩, by decide +kernel⟩, wd_689, wd_690, by decide, TX11, 22, rfl⟩
theorem ck_RX11_392 : CKV RX11 392 yX11_saysDate cX11_saysDate 2 none 1 11 := ⟨⟨Or.inl wd_691, wd_692, wd_442, ⟨by decide +kernel, by decide +kernel⟩, by decide +kernel⟩, wd_693, wd_694, by decide, TX11, 22, rfl⟩
theorem ck_RX11_397 : CKV RX11 397 yX11_saysWord cX11_saysWord 4 none 1 11 := ⟨⟨Or.inl wd_695, wd_696, wd_442, ⟨by decide +kernel, by decide +kernel⟩, by decide +kernel⟩, wd_697, wd_698, by decide, TX11, 22, rfl⟩
theorem ck_RX11_401 : CKS RX11 401 yX11_kindWord cX11_kindWord 1 (some .long) 1 := ⟨⟨Or.inl wd_699, wd_700, wd_442, ⟨by decide +kernel, by decide +kernel⟩, by decide +kernel⟩, wd_701⟩
theorem ck_RX11_405 : CKV RX11 405 yX11_laysLine cX11_laysLine 4 none 1 11 := ⟨⟨Or.inl wd_702, wd_703, wd_442, ⟨by decide +kernel, by decide +kernel⟩, by decide +kernel⟩, wd_704, wd_705, by decide, TX11, 22, rfl⟩
theorem ck_RX11_411 : CKV RX11 411 yX11_covers cX11_covers 4 none 1 11 := ⟨⟨Or.inl wd_706, wd_707, wd_442, ⟨by decide +kernel, by decide +kernel⟩, by decide +kernel⟩, wd_708, wd_709, by decide, TX11, 22, rfl⟩
theorem ck_RX11_414 : CKV RX11 414 yX11_lateOn cX11_lateOn 5 (some .int) 2 11 := ⟨⟨Or.inl wd_710, wd_711, wd_442, ⟨by decide +kernel, by decide +kernel⟩, by decide +kernel⟩, wd_712, wd_713, by decide, TX11, 22, rfl⟩
theorem ck_RX11_417 : CKV RX11 417 yX11_isRemindedToday cX11_isRemindedToday 3 (some .boolean) 1 11 := ⟨⟨Or.inl wd_714, wd_715, wd_442, ⟨by decide +kernel, by decide +kernel⟩, by decide +kernel⟩, wd_716, wd_717, by decide, TX11, 22, rfl⟩
theorem ck_RX11_42 : CKS RX11 42 yX11_lengthOf cX11_lengthOf 2 (some .int) 1 := ⟨⟨Or.inl wd_718, wd_719, wd_442, ⟨by decide +kernel, by decide +kernel⟩, by decide +kernel⟩, wd_720⟩
theorem ck_RX11_422 : CKV RX11 422 yX11_earnedOf cX11_earnedOf 5 (some .int) 2 11 := ⟨⟨Or.inl wd_721, wd_722, wd_442, ⟨by decide +kernel, by decide +kernel⟩, by decide +kernel⟩, wd_723, wd_724, by decide, TX11, 22, rfl⟩
theorem ck_RX11_425 : CKV RX11 425 yX11_rateOn cX11_rateOn 4 (some .int) 1 11 := ⟨⟨Or.inl wd_725, wd_726, wd_442, ⟨by decide +kernel, by decide +kernel⟩, by decide +kernel⟩, wd_727, wd_728, by decide, TX11, 22, rfl⟩
theorem ck_RX11_428 : CKV RX11 428 yX11_taxAhead cX11_taxAhead 7 (some .int) 3 11 := ⟨⟨Or.inl wd_729, wd_730, wd_442, ⟨by decide +kernel, by decide +kernel⟩, by decide +kernel⟩, wd_731, wd_732, by decide, TX11, 22, rfl⟩
theorem ck_RX11_431 : CKV RX11 431 yX11_quoteOf cX11_quoteOf 4 (some .int) 3 11 := ⟨⟨Or.inl wd_733, wd_734, wd_442, ⟨by decide +kernel, by decide +kernel⟩, by decide +kernel⟩, wd_735, wd_736, by decide, TX11, 22, rfl⟩
theorem ck_RX11_46 : CKS RX11 46 yX11_min cX11_min 2 (some .int) 2 := ⟨⟨Or.inl wd_737, wd_738, wd_442, ⟨by decide +kernel, by decide +kernel⟩, by decide +kernel⟩, wd_739⟩
theorem ck_RX11_50 : CKV RX11 50 yX11_monthOf cX11_monthOf 3 (some .int) 1 11 := ⟨⟨Or.inl wd_740, wd_741, wd_442, ⟨by decide +kernel, by decide +kernel⟩, by decide +kernel⟩, wd_742, wd_743, by decide, TX11, 22, rfl⟩
theorem ck_RX11_53 : CKV RX11 53 yX11_turnIn cX11_turnIn 3 (some .int) 2 11 := ⟨⟨Or.inl wd_744, wd_745, wd_442, ⟨by decide +kernel, by decide +kernel⟩, by decide +kernel⟩, wd_746, wd_747, by decide, TX11, 22, rfl⟩
theorem ck_RX11_56 : CKS RX11 56 yX11_in cX11_in 3 (some .boolean) 3 := ⟨⟨Or.inl wd_748, wd_749, wd_442, ⟨by decide +kernel, by decide +kernel⟩, by decide +kernel⟩, wd_750⟩
theorem ck_RX11_60 : CKS RX11 60 yX11_isAnchor cX11_isAnchor 1 (some .boolean) 1 := ⟨⟨Or.inl wd_751, wd_752, wd_442, ⟨by decide +kernel, by decide +kernel⟩, by decide +kernel⟩, wd_753⟩
theorem ck_RX11_64 : CKS RX11 64 yX11_isDay cX11_isDay 1 (some .boolean) 1 := ⟨⟨Or.inl wd_754, wd_755, wd_442, ⟨by decide +kernel, by decide +kernel⟩, by decide +kernel⟩, wd_756⟩
theorem ck_RX11_67 : CKV RX11 67 yX11_lastTurn cX11_lastTurn 4 (some .int) 2 11 := ⟨⟨Or.inl wd_757, wd_758, wd_442, ⟨by decide +kernel, by decide +kernel⟩, by decide +kernel⟩, wd_759, wd_760, by decide, TX11, 22, rfl⟩
theorem ck_RX11_70 : CKV RX11 70 yX11_nextTurn cX11_nextTurn 4 (some .int) 2 11 := ⟨⟨Or.inl wd_761, wd_762, wd_442, ⟨by decide +kernel, by decide +kernel⟩, by decide +kernel⟩, wd_763, wd_764, by decide, TX11, 22, rfl⟩
theorem ck_RX11_73 : CKV RX11 73 yX11_yearOf cX11_yearOf 2 (some .int) 1 11 := ⟨⟨Or.inl wd_765, wd_766, wd_442, ⟨by decide +kernel, by decide +kernel⟩, by decide +kernel⟩, wd_767, wd_768, by decide, TX11, 22, rfl⟩
theorem ck_RX11_76 : CKV RX11 76 yX11_dateOf cX11_dateOf 4 (some .int) 2 11 := ⟨⟨Or.inl wd_769, wd_770, wd_442, ⟨by decide +kernel, by decide +kernel⟩, by decide +kernel⟩, wd_771, wd_772, by decide, TX11, 22, rfl⟩
theorem ck_RX11_80 : CKV RX11 80 yX11_slice cX11_slice 7 (some .int) 4 11 := ⟨⟨Or.inl wd_773, wd_774, wd_442, ⟨by decide +kernel, by decide +kernel⟩, by decide +kernel⟩, wd_775, wd_776, by decide, TX11, 22, rfl⟩
theorem ck_RX11_88 : CKV RX11 88 yX11_types cX11_types 3 none 1 11 := ⟨⟨Or.inl wd_777, wd_778, wd_442, ⟨by decide +kernel, by decide +kernel⟩, by decide +kernel⟩, wd_779, wd_780, by decide, TX11, 22, rfl⟩
theorem ck_RX1_101 : CKV RX1 101 yX9_termsOf cX9_termsOf 2 (some (.object "SlicedBills$PlanTerms")) 1 9 := ⟨⟨Or.inl wd_781, wd_349, wd_264, ⟨by decide +kernel, by decide +kernel⟩, by decide +kernel⟩, wd_350, wd_351, by decide, TX9, 8, rfl⟩
theorem ck_RX1_108 : CKV RX1 108 yX7_usageOf cX7_usageOf 3 (some .int) 1 7 := ⟨⟨Or.inl wd_782, wd_377, wd_354, ⟨by decide +kernel, by decide +kernel⟩, by decide +kernel⟩, wd_378, wd_379, by decide, TX7, 11, rfl⟩
theorem ck_RX1_120 : CKV RX1 120 yX3_lastTurn cX3_lastTurn 5 (some .int) 2 3 := ⟨⟨Or.inl wd_783, wd_395, wd_185, ⟨by decide +kernel, by decide +kernel⟩, by decide +kernel⟩, wd_396, wd_397, by decide, TX3, 1, rfl⟩
theorem ck_RX1_128 : CKV RX1 128 yX3_nextTurn cX3_nextTurn 5 (some .int) 2 3 := ⟨⟨Or.inl wd_784, wd_399, wd_185, ⟨by decide +kernel, by decide +kernel⟩, by decide +kernel⟩, wd_400, wd_401, by decide, TX3, 1, rfl⟩
theorem ck_RX1_131 : CKS RX1 131 yX10_isPlan cX10_isPlan 1 (some .boolean) 1 := ⟨⟨Or.inr ⟨_, List.mem_of_getElem? (i := 68) rfl⟩, wd_301, wd_194, ⟨by decide +kernel, by decide +kernel⟩, by decide +kernel⟩, wd_302⟩
theorem ck_RX1_134 : CKS RX1 134 yX10_isAnchor cX10_isAnchor 1 (some .boolean) 1 := ⟨⟨Or.inr ⟨_, List.mem_of_getElem? (i := 69) rfl⟩, wd_389, wd_194, ⟨by decide +kernel, by decide +kernel⟩, by decide +kernel⟩, wd_390⟩
theorem ck_RX1_137 : CKV RX1 137 yX5_haveRoom cX5_haveRoom 2 (some .boolean) 1 5 := ⟨⟨Or.inl wd_785, wd_786, wd_207, ⟨by decide +kernel, by decide +kernel⟩, by decide +kernel⟩, wd_787, wd_788, by decide, TX5, 11, rfl⟩
theorem ck_RX1_143 : CKV RX1 143 yX1_startPeriod cX1_startPeriod 3 none 2 1 := ⟨⟨Or.inl wd_789, wd_790, wd_198, ⟨by decide +kernel, by decide +kernel⟩, by decide +kernel⟩, wd_791, wd_792, by decide, TX1, 5, rfl⟩
theorem ck_RX1_147 : CKV RX1 147 yX1_writeCharge cX1_writeCharge 2 (some .int) 1 1 := ⟨⟨Or.inl wd_793, wd_794, wd_198, ⟨by decide +kernel, by decide +kernel⟩, by decide +kernel⟩, wd_795, wd_796, by decide, TX1, 5, rfl⟩
theorem ck_RX1_151 : CKV RX1 151 yX1_isRunning cX1_isRunning 2 (some .boolean) 1 1 := ⟨⟨Or.inl wd_797, wd_297, wd_198, ⟨by decide +kernel, by decide +kernel⟩, by decide +kernel⟩, wd_298, wd_299, by decide, TX1, 5, rfl⟩
theorem ck_RX1_156 : CKV RX1 156 yX1_writeCredit cX1_writeCredit 2 (some .int) 1 1 := ⟨⟨Or.inl wd_798, wd_799, wd_198, ⟨by decide +kernel, by decide +kernel⟩, by decide +kernel⟩, wd_800, wd_801, by decide, TX1, 5, rfl⟩
theorem ck_RX1_162 : CKV RX1 162 yX1_writeUsage cX1_writeUsage 3 (some .int) 1 1 := ⟨⟨Or.inl wd_802, wd_803, wd_198, ⟨by decide +kernel, by decide +kernel⟩, by decide +kernel⟩, wd_804, wd_805, by decide, TX1, 5, rfl⟩
theorem ck_RX1_171 : CKV RX1 171 yX5_sumLate cX5_sumLate 8 (some .int) 3 5 := ⟨⟨Or.inl wd_806, wd_277, wd_207, ⟨by decide +kernel, by decide +kernel⟩, by decide +kernel⟩, wd_278, wd_279, by decide, TX5, 11, rfl⟩
theorem ck_RX1_175 : CKV RX1 175 yX5_haveFeeOn cX5_haveFeeOn 4 (some .boolean) 2 5 := ⟨⟨Or.inl wd_807, wd_808, wd_207, ⟨by decide +kernel, by decide +kernel⟩, by decide +kernel⟩, wd_809, wd_810, by decide, TX5, 11, rfl⟩
theorem ck_RX1_192 : CKV RX1 192 yX5_has cX5_has 2 (some .boolean) 1 5 := ⟨⟨Or.inl wd_811, wd_206, wd_207, ⟨by decide +kernel, by decide +kernel⟩, by decide +kernel⟩, wd_208, wd_209, by decide, TX5, 11, rfl⟩
theorem ck_RX1_220 : CKV RX1 220 yX5_link cX5_link 3 none 2 5 := ⟨⟨Or.inl wd_812, wd_813, wd_207, ⟨by decide +kernel, by decide +kernel⟩, by decide +kernel⟩, wd_814, wd_815, by decide, TX5, 11, rfl⟩
theorem ck_RX1_224 : CKV RX1 224 yX1_canPassDay cX1_canPassDay 4 (some .boolean) 0 1 := ⟨⟨Or.inl wd_816, wd_316, wd_198, ⟨by decide +kernel, by decide +kernel⟩, by decide +kernel⟩, wd_317, wd_318, by decide, TX1, 5, rfl⟩
theorem ck_RX1_228 : CKV RX1 228 yX1_passDay cX1_passDay 3 none 0 1 := ⟨⟨Or.inl wd_817, wd_320, wd_198, ⟨by decide +kernel, by decide +kernel⟩, by decide +kernel⟩, wd_321, wd_322, by decide, TX1, 5, rfl⟩
theorem ck_RX1_231 : CKV RX1 231 yX5_isOf cX5_isOf 3 (some .boolean) 2 5 := ⟨⟨Or.inr ⟨_, List.mem_of_getElem? (i := 70) rfl⟩, wd_818, wd_207, ⟨by decide +kernel, by decide +kernel⟩, by decide +kernel⟩, wd_819, wd_820, by decide, TX5, 11, rfl⟩
theorem ck_RX1_237 : CKV RX1 237 yX9_rateOn cX9_rateOn 4 (some .int) 1 9 := ⟨⟨Or.inl wd_821, wd_822, wd_264, ⟨by decide +kernel, by decide +kernel⟩, by decide +kernel⟩, wd_823, wd_824, by decide, TX9, 8, rfl⟩
theorem ck_RX1_240 : CKV RX1 240 yX1_hasRate cX1_hasRate 4 (some .boolean) 3 1 := ⟨⟨Or.inl wd_825, wd_826, wd_198, ⟨by decide +kernel, by decide +kernel⟩, by decide +kernel⟩, wd_827, wd_828, by decide, TX1, 5, rfl⟩
theorem ck_RX1_247 : CKV RX1 247 yX1_quoteOn cX1_quoteOn 4 (some .int) 3 1 := ⟨⟨Or.inl wd_829, wd_304, wd_198, ⟨by decide +kernel, by decide +kernel⟩, by decide +kernel⟩, wd_305, wd_306, by decide, TX1, 5, rfl⟩
theorem ck_RX1_38 : CKV RX1 38 yX9_copyFrom cX9_copyFrom 3 none 1 9 := ⟨⟨Or.inl wd_830, wd_433, wd_264, ⟨by decide +kernel, by decide +kernel⟩, by decide +kernel⟩, wd_434, wd_435, by decide, TX9, 8, rfl⟩
theorem ck_RX1_42 : CKV RX1 42 yX0_copyFrom cX0_copyFrom 2 none 1 0 := ⟨⟨Or.inl wd_831, wd_832, wd_273, ⟨by decide +kernel, by decide +kernel⟩, by decide +kernel⟩, wd_833, wd_834, by decide, TX0, 14, rfl⟩
theorem ck_RX1_45 : CKV RX1 45 yX5_copyFrom cX5_copyFrom 2 none 1 5 := ⟨⟨Or.inl wd_835, wd_836, wd_207, ⟨by decide +kernel, by decide +kernel⟩, by decide +kernel⟩, wd_837, wd_838, by decide, TX5, 11, rfl⟩
theorem ck_RX1_52 : CKS RX1 52 yX10_isAccount cX10_isAccount 1 (some .boolean) 1 := ⟨⟨Or.inr ⟨_, List.mem_of_getElem? (i := 67) rfl⟩, wd_193, wd_194, ⟨by decide +kernel, by decide +kernel⟩, by decide +kernel⟩, wd_195⟩
theorem ck_RX1_60 : CKV RX1 60 yX1_hasBegun cX1_hasBegun 2 (some .boolean) 1 1 := ⟨⟨Or.inl wd_839, wd_202, wd_198, ⟨by decide +kernel, by decide +kernel⟩, by decide +kernel⟩, wd_203, wd_204, by decide, TX1, 5, rfl⟩
theorem ck_RX1_69 : CKV RX1 69 yX5_add cX5_add 6 (some .int) 4 5 := ⟨⟨Or.inl wd_840, wd_841, wd_207, ⟨by decide +kernel, by decide +kernel⟩, by decide +kernel⟩, wd_842, wd_843, by decide, TX5, 11, rfl⟩
theorem ck_RX1_79 : CKV RX1 79 yX5_describe cX5_describe 6 none 5 5 := ⟨⟨Or.inl wd_844, wd_845, wd_207, ⟨by decide +kernel, by decide +kernel⟩, by decide +kernel⟩, wd_846, wd_847, by decide, TX5, 11, rfl⟩
theorem ck_RX1_89 : CKV RX1 89 yX9_worth cX9_worth 5 (some .int) 2 9 := ⟨⟨Or.inl wd_848, wd_263, wd_264, ⟨by decide +kernel, by decide +kernel⟩, by decide +kernel⟩, wd_265, wd_266, by decide, TX9, 8, rfl⟩
theorem ck_RX1_93 : CKV RX1 93 yX0_partToEnd cX0_partToEnd 3 (some .int) 2 0 := ⟨⟨Or.inl wd_849, wd_850, wd_273, ⟨by decide +kernel, by decide +kernel⟩, by decide +kernel⟩, wd_851, wd_852, by decide, TX0, 14, rfl⟩
theorem ck_RX1_97 : CKV RX1 97 yX1_write cX1_write 7 (some .int) 5 1 := ⟨⟨Or.inl wd_853, wd_854, wd_198, ⟨by decide +kernel, by decide +kernel⟩, by decide +kernel⟩, wd_855, wd_856, by decide, TX1, 5, rfl⟩
theorem ck_RX2_100 : CKV RX2 100 yX9_termsOf cX9_termsOf 2 (some (.object "SlicedBills$PlanTerms")) 1 9 := ⟨⟨Or.inl wd_857, wd_349, wd_264, ⟨by decide +kernel, by decide +kernel⟩, by decide +kernel⟩, wd_350, wd_351, by decide, TX9, 8, rfl⟩
theorem ck_RX2_119 : CKV RX2 119 yX2_readTier cX2_readTier 4 none 1 2 := ⟨⟨Or.inl wd_858, wd_859, wd_429, ⟨by decide +kernel, by decide +kernel⟩, by decide +kernel⟩, wd_860, wd_861, by decide, TX2, 2, rfl⟩
theorem ck_RX2_135 : CKV RX2 135 yX2_readBulk cX2_readBulk 4 none 1 2 := ⟨⟨Or.inl wd_862, wd_863, wd_429, ⟨by decide +kernel, by decide +kernel⟩, by decide +kernel⟩, wd_864, wd_865, by decide, TX2, 2, rfl⟩
theorem ck_RX2_138 : CKV RX2 138 yX7_isAboveBounds cX7_isAboveBounds 2 (some .boolean) 1 7 := ⟨⟨Or.inl wd_866, wd_867, wd_354, ⟨by decide +kernel, by decide +kernel⟩, by decide +kernel⟩, wd_868, wd_869, by decide, TX7, 11, rfl⟩
theorem ck_RX2_141 : CKV RX2 141 yX7_addTier cX7_addTier 3 none 2 7 := ⟨⟨Or.inl wd_870, wd_871, wd_354, ⟨by decide +kernel, by decide +kernel⟩, by decide +kernel⟩, wd_872, wd_873, by decide, TX7, 11, rfl⟩
theorem ck_RX2_144 : CKV RX2 144 yX7_isAboveBulks cX7_isAboveBulks 2 (some .boolean) 1 7 := ⟨⟨Or.inl wd_874, wd_875, wd_354, ⟨by decide +kernel, by decide +kernel⟩, by decide +kernel⟩, wd_876, wd_877, by decide, TX7, 11, rfl⟩
theorem ck_RX2_147 : CKV RX2 147 yX7_addBulk cX7_addBulk 3 none 2 7 := ⟨⟨Or.inl wd_878, wd_879, wd_354, ⟨by decide +kernel, by decide +kernel⟩, by decide +kernel⟩, wd_880, wd_881, by decide, TX7, 11, rfl⟩
theorem ck_RX2_27 : CKV RX2 27 yX8_start cX8_start 2 none 1 8 := ⟨⟨Or.inl wd_882, wd_883, wd_884, ⟨by decide +kernel, by decide +kernel⟩, by decide +kernel⟩, wd_885, wd_886, by decide, TX8, 5, rfl⟩
theorem ck_RX2_31 : CKV RX2 31 yX9_clear cX9_clear 2 none 0 9 := ⟨⟨Or.inl wd_887, wd_888, wd_264, ⟨by decide +kernel, by decide +kernel⟩, by decide +kernel⟩, wd_889, wd_890, by decide, TX9, 8, rfl⟩
theorem ck_RX2_38 : CKV RX2 38 yX8_mark cX8_mark 3 none 2 8 := ⟨⟨Or.inl wd_891, wd_892, wd_884, ⟨by decide +kernel, by decide +kernel⟩, by decide +kernel⟩, wd_893, wd_894, by decide, TX8, 5, rfl⟩
theorem ck_RX2_42 : CKV RX2 42 yX2_readClause cX2_readClause 3 none 0 2 := ⟨⟨Or.inl wd_895, wd_896, wd_429, ⟨by decide +kernel, by decide +kernel⟩, by decide +kernel⟩, wd_897, wd_898, by decide, TX2, 2, rfl⟩
theorem ck_RX2_48 : CKV RX2 48 yX8_goesOn cX8_goesOn 1 (some .boolean) 0 8 := ⟨⟨Or.inl wd_899, wd_900, wd_884, ⟨by decide +kernel, by decide +kernel⟩, by decide +kernel⟩, wd_901, wd_902, by decide, TX8, 5, rfl⟩
theorem ck_RX2_52 : CKV RX2 52 yX8_faultAnswer cX8_faultAnswer 1 (some .int) 0 8 := ⟨⟨Or.inl wd_903, wd_904, wd_884, ⟨by decide +kernel, by decide +kernel⟩, by decide +kernel⟩, wd_905, wd_906, by decide, TX8, 5, rfl⟩
theorem ck_RX2_58 : CKV RX2 58 yX8_word cX8_word 6 (some .int) 1 8 := ⟨⟨Or.inl wd_907, wd_908, wd_884, ⟨by decide +kernel, by decide +kernel⟩, by decide +kernel⟩, wd_909, wd_910, by decide, TX8, 5, rfl⟩
theorem ck_RX2_65 : CKV RX2 65 yX8_blank cX8_blank 1 none 0 8 := ⟨⟨Or.inl wd_911, wd_912, wd_884, ⟨by decide +kernel, by decide +kernel⟩, by decide +kernel⟩, wd_913, wd_914, by decide, TX8, 5, rfl⟩
theorem ck_RX2_68 : CKV RX2 68 yX8_isSound cX8_isSound 1 (some .boolean) 0 8 := ⟨⟨Or.inl wd_915, wd_916, wd_884, ⟨by decide +kernel, by decide +kernel⟩, by decide +kernel⟩, wd_917, wd_918, by decide, TX8, 5, rfl⟩
theorem ck_RX2_71 : CKV RX2 71 yX8_number cX8_number 6 (some .int) 2 8 := ⟨⟨Or.inl wd_919, wd_920, wd_884, ⟨by decide +kernel, by decide +kernel⟩, by decide +kernel⟩, wd_921, wd_922, by decide, TX8, 5, rfl⟩
theorem ck_RX2_84 : CKV RX2 84 yX2_readTax cX2_readTax 3 none 0 2 := ⟨⟨Or.inl wd_923, wd_924, wd_429, ⟨by decide +kernel, by decide +kernel⟩, by decide +kernel⟩, wd_925, wd_926, by decide, TX2, 2, rfl⟩
theorem ck_RX2_87 : CKV RX2 87 yX2_readOfPlan cX2_readOfPlan 4 none 1 2 := ⟨⟨Or.inl wd_927, wd_928, wd_429, ⟨by decide +kernel, by decide +kernel⟩, by decide +kernel⟩, wd_929, wd_930, by decide, TX2, 2, rfl⟩
theorem ck_RX2_90 : CKV RX2 90 yX9_isAboveTaxes cX9_isAboveTaxes 2 (some .boolean) 1 9 := ⟨⟨Or.inl wd_931, wd_932, wd_264, ⟨by decide +kernel, by decide +kernel⟩, by decide +kernel⟩, wd_933, wd_934, by decide, TX9, 8, rfl⟩
theorem ck_RX2_94 : CKV RX2 94 yX9_addTax cX9_addTax 3 none 2 9 := ⟨⟨Or.inl wd_935, wd_936, wd_264, ⟨by decide +kernel, by decide +kernel⟩, by decide +kernel⟩, wd_937, wd_938, by decide, TX9, 8, rfl⟩
theorem ck_RX2_97 : CKV RX2 97 yX8_planLetter cX8_planLetter 2 (some .int) 0 8 := ⟨⟨Or.inl wd_939, wd_940, wd_884, ⟨by decide +kernel, by decide +kernel⟩, by decide +kernel⟩, wd_941, wd_942, by decide, TX8, 5, rfl⟩
theorem ck_RX3_28 : CKV RX3 28 yX3_monthWith cX3_monthWith 3 (some .int) 1 3 := ⟨⟨Or.inl wd_943, wd_944, wd_185, ⟨by decide +kernel, by decide +kernel⟩, by decide +kernel⟩, wd_945, wd_946, by decide, TX3, 1, rfl⟩
theorem ck_RX3_31 : CKV RX3 31 yX3_turnIn cX3_turnIn 3 (some .int) 2 3 := ⟨⟨Or.inl wd_947, wd_948, wd_185, ⟨by decide +kernel, by decide +kernel⟩, by decide +kernel⟩, wd_949, wd_950, by decide, TX3, 1, rfl⟩
theorem ck_RX4_103 : CKV RX4 103 yX1_addUnits cX1_addUnits 4 (some .int) 2 1 := ⟨⟨Or.inl wd_951, wd_235, wd_198, ⟨by decide +kernel, by decide +kernel⟩, by decide +kernel⟩, wd_236, wd_237, by decide, TX1, 5, rfl⟩
theorem ck_RX4_106 : CKV RX4 106 yX1_passDays cX1_passDays 3 (some .int) 1 1 := ⟨⟨Or.inl wd_952, wd_239, wd_198, ⟨by decide +kernel, by decide +kernel⟩, by decide +kernel⟩, wd_240, wd_241, by decide, TX1, 5, rfl⟩
theorem ck_RX4_109 : CKV RX4 109 yX1_grantFavour cX1_grantFavour 3 (some .int) 2 1 := ⟨⟨Or.inl wd_953, wd_243, wd_198, ⟨by decide +kernel, by decide +kernel⟩, by decide +kernel⟩, wd_244, wd_245, by decide, TX1, 5, rfl⟩
theorem ck_RX4_112 : CKV RX4 112 yX1_takePayment cX1_takePayment 4 (some .int) 2 1 := ⟨⟨Or.inl wd_954, wd_247, wd_198, ⟨by decide +kernel, by decide +kernel⟩, by decide +kernel⟩, wd_248, wd_249, by decide, TX1, 5, rfl⟩
theorem ck_RX4_115 : CKV RX4 115 yX1_writeReminder cX1_writeReminder 6 (some .int) 1 1 := ⟨⟨Or.inl wd_955, wd_251, wd_198, ⟨by decide +kernel, by decide +kernel⟩, by decide +kernel⟩, wd_252, wd_253, by decide, TX1, 5, rfl⟩
theorem ck_RX4_118 : CKV RX4 118 yX1_putAnchor cX1_putAnchor 6 (some .int) 2 1 := ⟨⟨Or.inl wd_956, wd_231, wd_198, ⟨by decide +kernel, by decide +kernel⟩, by decide +kernel⟩, wd_232, wd_233, by decide, TX1, 5, rfl⟩
theorem ck_RX4_121 : CKV RX4 121 yX1_turnRound cX1_turnRound 5 (some .int) 1 1 := ⟨⟨Or.inl wd_957, wd_255, wd_198, ⟨by decide +kernel, by decide +kernel⟩, by decide +kernel⟩, wd_256, wd_257, by decide, TX1, 5, rfl⟩
theorem ck_RX4_33 : CKV RX4 33 yX8_start cX8_start 2 none 1 8 := ⟨⟨Or.inl wd_958, wd_883, wd_884, ⟨by decide +kernel, by decide +kernel⟩, by decide +kernel⟩, wd_885, wd_886, by decide, TX8, 5, rfl⟩
theorem ck_RX4_44 : CKV RX4 44 yX8_mark cX8_mark 3 none 2 8 := ⟨⟨Or.inl wd_959, wd_892, wd_884, ⟨by decide +kernel, by decide +kernel⟩, by decide +kernel⟩, wd_893, wd_894, by decide, TX8, 5, rfl⟩
theorem ck_RX4_48 : CKV RX4 48 yX4_readStep cX4_readStep 3 none 1 4 := ⟨⟨Or.inl wd_960, wd_961, wd_189, ⟨by decide +kernel, by decide +kernel⟩, by decide +kernel⟩, wd_962, wd_963, by decide, TX4, 6, rfl⟩
theorem ck_RX4_51 : CKV RX4 51 yX8_goesOn cX8_goesOn 1 (some .boolean) 0 8 := ⟨⟨Or.inl wd_964, wd_900, wd_884, ⟨by decide +kernel, by decide +kernel⟩, by decide +kernel⟩, wd_901, wd_902, by decide, TX8, 5, rfl⟩
theorem ck_RX4_55 : CKV RX4 55 yX8_faultAnswer cX8_faultAnswer 1 (some .int) 0 8 := ⟨⟨Or.inl wd_965, wd_904, wd_884, ⟨by decide +kernel, by decide +kernel⟩, by decide +kernel⟩, wd_905, wd_906, by decide, TX8, 5, rfl⟩
theorem ck_RX4_61 : CKV RX4 61 yX8_word cX8_word 6 (some .int) 1 8 := ⟨⟨Or.inl wd_966, wd_908, wd_884, ⟨by decide +kernel, by decide +kernel⟩, by decide +kernel⟩, wd_909, wd_910, by decide, TX8, 5, rfl⟩
theorem ck_RX4_68 : CKV RX4 68 yX8_blank cX8_blank 1 none 0 8 := ⟨⟨Or.inl wd_967, wd_912, wd_884, ⟨by decide +kernel, by decide +kernel⟩, by decide +kernel⟩, wd_913, wd_914, by decide, TX8, 5, rfl⟩
theorem ck_RX4_71 : CKV RX4 71 yX8_accountDigit cX8_accountDigit 2 (some .int) 0 8 := ⟨⟨Or.inl wd_968, wd_969, wd_884, ⟨by decide +kernel, by decide +kernel⟩, by decide +kernel⟩, wd_970, wd_971, by decide, TX8, 5, rfl⟩
theorem ck_RX4_74 : CKV RX4 74 yX8_planLetter cX8_planLetter 2 (some .int) 0 8 := ⟨⟨Or.inl wd_972, wd_940, wd_884, ⟨by decide +kernel, by decide +kernel⟩, by decide +kernel⟩, wd_941, wd_942, by decide, TX8, 5, rfl⟩
theorem ck_RX4_78 : CKV RX4 78 yX8_number cX8_number 6 (some .int) 2 8 := ⟨⟨Or.inl wd_973, wd_920, wd_884, ⟨by decide +kernel, by decide +kernel⟩, by decide +kernel⟩, wd_921, wd_922, by decide, TX8, 5, rfl⟩
theorem ck_RX4_82 : CKV RX4 82 yX1_startAccount cX1_startAccount 5 (some .int) 3 1 := ⟨⟨Or.inl wd_974, wd_211, wd_198, ⟨by decide +kernel, by decide +kernel⟩, by decide +kernel⟩, wd_212, wd_213, by decide, TX1, 5, rfl⟩
theorem ck_RX4_88 : CKV RX4 88 yX1_putPlan cX1_putPlan 5 (some .int) 2 1 := ⟨⟨Or.inl wd_975, wd_215, wd_198, ⟨by decide +kernel, by decide +kernel⟩, by decide +kernel⟩, wd_216, wd_217, by decide, TX1, 5, rfl⟩
theorem ck_RX4_92 : CKV RX4 92 yX1_putSeats cX1_putSeats 5 (some .int) 2 1 := ⟨⟨Or.inl wd_976, wd_219, wd_198, ⟨by decide +kernel, by decide +kernel⟩, by decide +kernel⟩, wd_220, wd_221, by decide, TX1, 5, rfl⟩
theorem ck_RX4_95 : CKV RX4 95 yX1_putPaused cX1_putPaused 5 (some .int) 2 1 := ⟨⟨Or.inl wd_977, wd_223, wd_198, ⟨by decide +kernel, by decide +kernel⟩, by decide +kernel⟩, wd_224, wd_225, by decide, TX1, 5, rfl⟩
theorem ck_RX4_99 : CKV RX4 99 yX1_endAccount cX1_endAccount 4 (some .int) 1 1 := ⟨⟨Or.inl wd_978, wd_227, wd_198, ⟨by decide +kernel, by decide +kernel⟩, by decide +kernel⟩, wd_228, wd_229, by decide, TX1, 5, rfl⟩
theorem ck_RX5_61 : CKV RX5 61 yX5_has cX5_has 2 (some .boolean) 1 5 := ⟨⟨Or.inl wd_979, wd_206, wd_207, ⟨by decide +kernel, by decide +kernel⟩, by decide +kernel⟩, wd_208, wd_209, by decide, TX5, 11, rfl⟩
theorem ck_RX5_65 : CKV RX5 65 yX5_isOf cX5_isOf 3 (some .boolean) 2 5 := ⟨⟨Or.inl wd_980, wd_818, wd_207, ⟨by decide +kernel, by decide +kernel⟩, by decide +kernel⟩, wd_819, wd_820, by decide, TX5, 11, rfl⟩
theorem ck_RX5_69 : CKV RX5 69 yX5_coverOf cX5_coverOf 5 (some .int) 2 5 := ⟨⟨Or.inl wd_981, wd_982, wd_207, ⟨by decide +kernel, by decide +kernel⟩, by decide +kernel⟩, wd_983, wd_984, by decide, TX5, 11, rfl⟩
theorem ck_RX5_72 : CKV RX5 72 yX5_earnedOf cX5_earnedOf 5 (some .int) 2 5 := ⟨⟨Or.inl wd_985, wd_986, wd_207, ⟨by decide +kernel, by decide +kernel⟩, by decide +kernel⟩, wd_987, wd_988, by decide, TX5, 11, rfl⟩
theorem ck_RX6_21 : CKV RX6 21 yX5_has cX5_has 2 (some .boolean) 1 5 := ⟨⟨Or.inl wd_989, wd_206, wd_207, ⟨by decide +kernel, by decide +kernel⟩, by decide +kernel⟩, wd_208, wd_209, by decide, TX5, 11, rfl⟩
theorem ck_RX6_27 : CKV RX6 27 yX6_put cX6_put 2 none 1 6 := ⟨⟨Or.inl wd_990, wd_991, wd_341, ⟨by decide +kernel, by decide +kernel⟩, by decide +kernel⟩, wd_992, wd_993, by decide, TX6, 3, rfl⟩
theorem ck_RX6_35 : CKV RX6 35 yX6_putNumber cX6_putNumber 5 none 2 6 := ⟨⟨Or.inl wd_994, wd_995, wd_341, ⟨by decide +kernel, by decide +kernel⟩, by decide +kernel⟩, wd_996, wd_997, by decide, TX6, 3, rfl⟩
theorem ck_RX6_42 : CKV RX6 42 yX6_putDate cX6_putDate 2 none 1 6 := ⟨⟨Or.inl wd_998, wd_999, wd_341, ⟨by decide +kernel, by decide +kernel⟩, by decide +kernel⟩, wd_1000, wd_1001, by decide, TX6, 3, rfl⟩
theorem ck_RX6_54 : CKV RX6 54 yX6_putKind cX6_putKind 4 none 1 6 := ⟨⟨Or.inl wd_1002, wd_1003, wd_341, ⟨by decide +kernel, by decide +kernel⟩, by decide +kernel⟩, wd_1004, wd_1005, by decide, TX6, 3, rfl⟩
theorem ck_RX6_60 : CKV RX6 60 yX6_putEuros cX6_putEuros 3 none 1 6 := ⟨⟨Or.inl wd_1006, wd_1007, wd_341, ⟨by decide +kernel, by decide +kernel⟩, by decide +kernel⟩, wd_1008, wd_1009, by decide, TX6, 3, rfl⟩
theorem ck_RX6_63 : CKV RX6 63 yX3_yearOf cX3_yearOf 2 (some .int) 1 3 := ⟨⟨Or.inl wd_1010, wd_404, wd_185, ⟨by decide +kernel, by decide +kernel⟩, by decide +kernel⟩, wd_405, wd_406, by decide, TX3, 1, rfl⟩
theorem ck_RX6_69 : CKV RX6 69 yX3_monthOf cX3_monthOf 2 (some .int) 1 3 := ⟨⟨Or.inl wd_1011, wd_408, wd_185, ⟨by decide +kernel, by decide +kernel⟩, by decide +kernel⟩, wd_409, wd_410, by decide, TX3, 1, rfl⟩
theorem ck_RX6_72 : CKV RX6 72 yX3_dayOfMonth cX3_dayOfMonth 2 (some .int) 1 3 := ⟨⟨Or.inl wd_1012, wd_412, wd_185, ⟨by decide +kernel, by decide +kernel⟩, by decide +kernel⟩, wd_413, wd_414, by decide, TX3, 1, rfl⟩
theorem ck_RX7_59 : CKV RX7 59 yX7_wholeUsage cX7_wholeUsage 3 (some .int) 1 7 := ⟨⟨Or.inl wd_1013, wd_1014, wd_354, ⟨by decide +kernel, by decide +kernel⟩, by decide +kernel⟩, wd_1015, wd_1016, by decide, TX7, 11, rfl⟩
theorem ck_RX7_63 : CKV RX7 63 yX7_addedUsage cX7_addedUsage 6 (some .int) 1 7 := ⟨⟨Or.inl wd_1017, wd_1018, wd_354, ⟨by decide +kernel, by decide +kernel⟩, by decide +kernel⟩, wd_1019, wd_1020, by decide, TX7, 11, rfl⟩
theorem ck_RX7_69 : CKV RX7 69 yX7_mostWhole cX7_mostWhole 4 (some .int) 1 7 := ⟨⟨Or.inl wd_1021, wd_1022, wd_354, ⟨by decide +kernel, by decide +kernel⟩, by decide +kernel⟩, wd_1023, wd_1024, by decide, TX7, 11, rfl⟩
theorem ck_RX7_72 : CKV RX7 72 yX7_mostAdded cX7_mostAdded 6 (some .int) 1 7 := ⟨⟨Or.inl wd_1025, wd_1026, wd_354, ⟨by decide +kernel, by decide +kernel⟩, by decide +kernel⟩, wd_1027, wd_1028, by decide, TX7, 11, rfl⟩
theorem ck_RX7_75 : CKS RX7 75 yX10_tellOf cX10_tellOf 3 (some .int) 3 := ⟨⟨Or.inr ⟨_, List.mem_of_getElem? (i := 71) rfl⟩, wd_1029, wd_194, ⟨by decide +kernel, by decide +kernel⟩, by decide +kernel⟩, wd_1030⟩
theorem ck_RX8_37 : CKV RX8 37 yX8_byteAt cX8_byteAt 2 (some .int) 1 8 := ⟨⟨Or.inl wd_1031, wd_1032, wd_884, ⟨by decide +kernel, by decide +kernel⟩, by decide +kernel⟩, wd_1033, wd_1034, by decide, TX8, 5, rfl⟩
theorem ck_RX8_41 : CKV RX8 41 yX8_mark cX8_mark 3 none 2 8 := ⟨⟨Or.inl wd_1035, wd_892, wd_884, ⟨by decide +kernel, by decide +kernel⟩, by decide +kernel⟩, wd_893, wd_894, by decide, TX8, 5, rfl⟩
theorem ck_RX8_54 : CKV RX8 54 yX8_isSame cX8_isSame 5 (some .boolean) 3 8 := ⟨⟨Or.inl wd_1036, wd_1037, wd_884, ⟨by decide +kernel, by decide +kernel⟩, by decide +kernel⟩, wd_1038, wd_1039, by decide, TX8, 5, rfl⟩
theorem ck_RX9_25 : CKV RX9 25 yX7_clear cX7_clear 1 none 0 7 := ⟨⟨Or.inl wd_1040, wd_1041, wd_354, ⟨by decide +kernel, by decide +kernel⟩, by decide +kernel⟩, wd_1042, wd_1043, by decide, TX7, 11, rfl⟩
theorem ck_RX9_44 : CKV RX9 44 yX7_copyFrom cX7_copyFrom 2 none 1 7 := ⟨⟨Or.inl wd_1044, wd_1045, wd_354, ⟨by decide +kernel, by decide +kernel⟩, by decide +kernel⟩, wd_1046, wd_1047, by decide, TX7, 11, rfl⟩
theorem ck_RX9_54 : CKV RX9 54 yX9_termsOf cX9_termsOf 2 (some (.object "SlicedBills$PlanTerms")) 1 9 := ⟨⟨Or.inl wd_1048, wd_349, wd_264, ⟨by decide +kernel, by decide +kernel⟩, by decide +kernel⟩, wd_350, wd_351, by decide, TX9, 8, rfl⟩
theorem ck_RX9_63 : CKV RX9 63 yX7_priceOf cX7_priceOf 4 (some .int) 1 7 := ⟨⟨Or.inl wd_1049, wd_1050, wd_354, ⟨by decide +kernel, by decide +kernel⟩, by decide +kernel⟩, wd_1051, wd_1052, by decide, TX7, 11, rfl⟩
theorem ck_RX9_79 : CKV RX9 79 yX7_usageOf cX7_usageOf 3 (some .int) 1 7 := ⟨⟨Or.inl wd_1053, wd_377, wd_354, ⟨by decide +kernel, by decide +kernel⟩, by decide +kernel⟩, wd_378, wd_379, by decide, TX7, 11, rfl⟩
theorem ck_RX9_82 : CKS RX9 82 yX10_tellOf cX10_tellOf 3 (some .int) 3 := ⟨⟨Or.inr ⟨_, List.mem_of_getElem? (i := 72) rfl⟩, wd_1029, wd_194, ⟨by decide +kernel, by decide +kernel⟩, by decide +kernel⟩, wd_1030⟩
theorem rfA_1_0 : ∀ o, o < 207 → GS.1 o = 1 → GS.2.2 o 0 = some 2 := by decide +kernel
theorem rf_1_0 {o : Nat} (h : IsK GS 0 207 o 1) : GS.2.2 o 0 = some 2 := rfA_1_0 o h.2.2 h.1
theorem rfA_1_1 : ∀ o, o < 207 → GS.1 o = 1 → (GS.2.2 o 1 = some (o + 1) ∧ GS.1 (o + 1) = 9 ∧ GS.2.1 (o + 1) = 0 ∧ o + 1 < 207) := by decide +kernel
theorem rf_1_1 {o : Nat} (h : IsK GS 0 207 o 1) : GS.2.2 o 1 = some (o + 1) := (rfA_1_1 o h.2.2 h.1).1
theorem kf_1_1 {o : Nat} (h : IsK GS 0 207 o 1) : IsK GS 0 207 (o + 1) 9 := ⟨(rfA_1_1 o h.2.2 h.1).2.1, Nat.le_trans h.2.1 (Nat.le_add_right _ _), (rfA_1_1 o h.2.2 h.1).2.2.2⟩
theorem ln_1_1 {o : Nat} (h : IsK GS 0 207 o 1) : GS.2.1 (o + 1) = 0 := (rfA_1_1 o h.2.2 h.1).2.2.1
theorem rfA_1_2 : ∀ o, o < 207 → GS.1 o = 1 → (GS.2.2 o 2 = some (o + 35) ∧ GS.1 (o + 35) = 15 ∧ GS.2.1 (o + 35) = 6 ∧ o + 35 < 207) := by decide +kernel
theorem rf_1_2 {o : Nat} (h : IsK GS 0 207 o 1) : GS.2.2 o 2 = some (o + 35) := (rfA_1_2 o h.2.2 h.1).1
theorem kf_1_2 {o : Nat} (h : IsK GS 0 207 o 1) : IsK GS 0 207 (o + 35) 15 := ⟨(rfA_1_2 o h.2.2 h.1).2.1, Nat.le_trans h.2.1 (Nat.le_add_right _ _), (rfA_1_2 o h.2.2 h.1).2.2.2⟩
theorem ln_1_2 {o : Nat} (h : IsK GS 0 207 o 1) : GS.2.1 (o + 35) = 6 := (rfA_1_2 o h.2.2 h.1).2.2.1
theorem rfA_1_3 : ∀ o, o < 207 → GS.1 o = 1 → (GS.2.2 o 3 = some (o + 36) ∧ GS.1 (o + 36) = 5 ∧ GS.2.1 (o + 36) = 0 ∧ o + 36 < 207) := by decide +kernel
theorem rf_1_3 {o : Nat} (h : IsK GS 0 207 o 1) : GS.2.2 o 3 = some (o + 36) := (rfA_1_3 o h.2.2 h.1).1
theorem kf_1_3 {o : Nat} (h : IsK GS 0 207 o 1) : IsK GS 0 207 (o + 36) 5 := ⟨(rfA_1_3 o h.2.2 h.1).2.1, Nat.le_trans h.2.1 (Nat.le_add_right _ _), (rfA_1_3 o h.2.2 h.1).2.2.2⟩
theorem ln_1_3 {o : Nat} (h : IsK GS 0 207 o 1) : GS.2.1 (o + 36) = 0 := (rfA_1_3 o h.2.2 h.1).2.2.1
theorem rfA_2_0 : ∀ o, o < 207 → GS.1 o = 2 → GS.2.2 o 0 = some 198 := by decide +kernel
theorem rf_2_0 {o : Nat} (h : IsK GS 0 207 o 2) : GS.2.2 o 0 = some 198 := rfA_2_0 o h.2.2 h.1
theorem rfA_2_1 : ∀ o, o < 207 → GS.1 o = 2 → GS.2.2 o 1 = some 164 := by decide +kernel
theorem rf_2_1 {o : Nat} (h : IsK GS 0 207 o 2) : GS.2.2 o 1 = some 164 := rfA_2_1 o h.2.2 h.1
theorem rfA_3_0 : ∀ o, o < 207 → GS.1 o = 3 → GS.2.2 o 0 = some 3 := by decide +kernel
theorem rf_3_0 {o : Nat} (h : IsK GS 0 207 o 3) : GS.2.2 o 0 = some 3 := rfA_3_0 o h.2.2 h.1
theorem rfA_4_0 : ∀ o, o < 207 → GS.1 o = 4 → GS.2.2 o 0 = some 204 := by decide +kernel
theorem rf_4_0 {o : Nat} (h : IsK GS 0 207 o 4) : GS.2.2 o 0 = some 204 := rfA_4_0 o h.2.2 h.1
theorem rfA_4_2 : ∀ o, o < 207 → GS.1 o = 4 → GS.2.2 o 2 = some 200 := by decide +kernel
theorem rf_4_2 {o : Nat} (h : IsK GS 0 207 o 4) : GS.2.2 o 2 = some 200 := rfA_4_2 o h.2.2 h.1
theorem rfA_4_3 : ∀ o, o < 207 → GS.1 o = 4 → GS.2.2 o 3 = some 201 := by decide +kernel
theorem rf_4_3 {o : Nat} (h : IsK GS 0 207 o 4) : GS.2.2 o 3 = some 201 := rfA_4_3 o h.2.2 h.1
theorem rfA_4_4 : ∀ o, o < 207 → GS.1 o = 4 → GS.2.2 o 4 = some 202 := by decide +kernel
theorem rf_4_4 {o : Nat} (h : IsK GS 0 207 o 4) : GS.2.2 o 4 = some 202 := rfA_4_4 o h.2.2 h.1
theorem rfA_4_5 : ∀ o, o < 207 → GS.1 o = 4 → GS.2.2 o 5 = some 203 := by decide +kernel
theorem rf_4_5 {o : Nat} (h : IsK GS 0 207 o 4) : GS.2.2 o 5 = some 203 := rfA_4_5 o h.2.2 h.1
theorem rfA_5_1 : ∀ o, o < 207 → GS.1 o = 5 → (GS.2.2 o 1 = some (o + 1) ∧ GS.1 (o + 1) = 12 ∧ GS.2.1 (o + 1) = 400 ∧ o + 1 < 207) := by decide +kernel
theorem rf_5_1 {o : Nat} (h : IsK GS 0 207 o 5) : GS.2.2 o 1 = some (o + 1) := (rfA_5_1 o h.2.2 h.1).1
theorem kf_5_1 {o : Nat} (h : IsK GS 0 207 o 5) : IsK GS 0 207 (o + 1) 12 := ⟨(rfA_5_1 o h.2.2 h.1).2.1, Nat.le_trans h.2.1 (Nat.le_add_right _ _), (rfA_5_1 o h.2.2 h.1).2.2.2⟩
theorem ln_5_1 {o : Nat} (h : IsK GS 0 207 o 5) : GS.2.1 (o + 1) = 400 := (rfA_5_1 o h.2.2 h.1).2.2.1
theorem rfA_5_2 : ∀ o, o < 207 → GS.1 o = 5 → (GS.2.2 o 2 = some (o + 2) ∧ GS.1 (o + 2) = 12 ∧ GS.2.1 (o + 2) = 400 ∧ o + 2 < 207) := by decide +kernel
theorem rf_5_2 {o : Nat} (h : IsK GS 0 207 o 5) : GS.2.2 o 2 = some (o + 2) := (rfA_5_2 o h.2.2 h.1).1
theorem kf_5_2 {o : Nat} (h : IsK GS 0 207 o 5) : IsK GS 0 207 (o + 2) 12 := ⟨(rfA_5_2 o h.2.2 h.1).2.1, Nat.le_trans h.2.1 (Nat.le_add_right _ _), (rfA_5_2 o h.2.2 h.1).2.2.2⟩
theorem ln_5_2 {o : Nat} (h : IsK GS 0 207 o 5) : GS.2.1 (o + 2) = 400 := (rfA_5_2 o h.2.2 h.1).2.2.1
theorem rfA_5_3 : ∀ o, o < 207 → GS.1 o = 5 → (GS.2.2 o 3 = some (o + 3) ∧ GS.1 (o + 3) = 12 ∧ GS.2.1 (o + 3) = 400 ∧ o + 3 < 207) := by decide +kernel
theorem rf_5_3 {o : Nat} (h : IsK GS 0 207 o 5) : GS.2.2 o 3 = some (o + 3) := (rfA_5_3 o h.2.2 h.1).1
theorem kf_5_3 {o : Nat} (h : IsK GS 0 207 o 5) : IsK GS 0 207 (o + 3) 12 := ⟨(rfA_5_3 o h.2.2 h.1).2.1, Nat.le_trans h.2.1 (Nat.le_add_right _ _), (rfA_5_3 o h.2.2 h.1).2.2.2⟩
theorem ln_5_3 {o : Nat} (h : IsK GS 0 207 o 5) : GS.2.1 (o + 3) = 400 := (rfA_5_3 o h.2.2 h.1).2.2.1
theorem rfA_5_4 : ∀ o, o < 207 → GS.1 o = 5 → (GS.2.2 o 4 = some (o + 4) ∧ GS.1 (o + 4) = 12 ∧ GS.2.1 (o + 4) = 400 ∧ o + 4 < 207) := by decide +kernel
theorem rf_5_4 {o : Nat} (h : IsK GS 0 207 o 5) : GS.2.2 o 4 = some (o + 4) := (rfA_5_4 o h.2.2 h.1).1
theorem kf_5_4 {o : Nat} (h : IsK GS 0 207 o 5) : IsK GS 0 207 (o + 4) 12 := ⟨(rfA_5_4 o h.2.2 h.1).2.1, Nat.le_trans h.2.1 (Nat.le_add_right _ _), (rfA_5_4 o h.2.2 h.1).2.2.2⟩
theorem ln_5_4 {o : Nat} (h : IsK GS 0 207 o 5) : GS.2.1 (o + 4) = 400 := (rfA_5_4 o h.2.2 h.1).2.2.1
theorem rfA_5_5 : ∀ o, o < 207 → GS.1 o = 5 → (GS.2.2 o 5 = some (o + 5) ∧ GS.1 (o + 5) = 12 ∧ GS.2.1 (o + 5) = 400 ∧ o + 5 < 207) := by decide +kernel
theorem rf_5_5 {o : Nat} (h : IsK GS 0 207 o 5) : GS.2.2 o 5 = some (o + 5) := (rfA_5_5 o h.2.2 h.1).1
theorem kf_5_5 {o : Nat} (h : IsK GS 0 207 o 5) : IsK GS 0 207 (o + 5) 12 := ⟨(rfA_5_5 o h.2.2 h.1).2.1, Nat.le_trans h.2.1 (Nat.le_add_right _ _), (rfA_5_5 o h.2.2 h.1).2.2.2⟩
theorem ln_5_5 {o : Nat} (h : IsK GS 0 207 o 5) : GS.2.1 (o + 5) = 400 := (rfA_5_5 o h.2.2 h.1).2.2.1
theorem rfA_5_6 : ∀ o, o < 207 → GS.1 o = 5 → (GS.2.2 o 6 = some (o + 6) ∧ GS.1 (o + 6) = 12 ∧ GS.2.1 (o + 6) = 400 ∧ o + 6 < 207) := by decide +kernel
theorem rf_5_6 {o : Nat} (h : IsK GS 0 207 o 5) : GS.2.2 o 6 = some (o + 6) := (rfA_5_6 o h.2.2 h.1).1
theorem kf_5_6 {o : Nat} (h : IsK GS 0 207 o 5) : IsK GS 0 207 (o + 6) 12 := ⟨(rfA_5_6 o h.2.2 h.1).2.1, Nat.le_trans h.2.1 (Nat.le_add_right _ _), (rfA_5_6 o h.2.2 h.1).2.2.2⟩
theorem ln_5_6 {o : Nat} (h : IsK GS 0 207 o 5) : GS.2.1 (o + 6) = 400 := (rfA_5_6 o h.2.2 h.1).2.2.1
theorem rfA_5_7 : ∀ o, o < 207 → GS.1 o = 5 → (GS.2.2 o 7 = some (o + 7) ∧ GS.1 (o + 7) = 12 ∧ GS.2.1 (o + 7) = 400 ∧ o + 7 < 207) := by decide +kernel
theorem rf_5_7 {o : Nat} (h : IsK GS 0 207 o 5) : GS.2.2 o 7 = some (o + 7) := (rfA_5_7 o h.2.2 h.1).1
theorem kf_5_7 {o : Nat} (h : IsK GS 0 207 o 5) : IsK GS 0 207 (o + 7) 12 := ⟨(rfA_5_7 o h.2.2 h.1).2.1, Nat.le_trans h.2.1 (Nat.le_add_right _ _), (rfA_5_7 o h.2.2 h.1).2.2.2⟩
theorem ln_5_7 {o : Nat} (h : IsK GS 0 207 o 5) : GS.2.1 (o + 7) = 400 := (rfA_5_7 o h.2.2 h.1).2.2.1
theorem rfA_5_8 : ∀ o, o < 207 → GS.1 o = 5 → (GS.2.2 o 8 = some (o + 8) ∧ GS.1 (o + 8) = 12 ∧ GS.2.1 (o + 8) = 400 ∧ o + 8 < 207) := by decide +kernel
theorem rf_5_8 {o : Nat} (h : IsK GS 0 207 o 5) : GS.2.2 o 8 = some (o + 8) := (rfA_5_8 o h.2.2 h.1).1
theorem kf_5_8 {o : Nat} (h : IsK GS 0 207 o 5) : IsK GS 0 207 (o + 8) 12 := ⟨(rfA_5_8 o h.2.2 h.1).2.1, Nat.le_trans h.2.1 (Nat.le_add_right _ _), (rfA_5_8 o h.2.2 h.1).2.2.2⟩
theorem ln_5_8 {o : Nat} (h : IsK GS 0 207 o 5) : GS.2.1 (o + 8) = 400 := (rfA_5_8 o h.2.2 h.1).2.2.1
theorem rfA_5_9 : ∀ o, o < 207 → GS.1 o = 5 → (GS.2.2 o 9 = some (o + 9) ∧ GS.1 (o + 9) = 12 ∧ GS.2.1 (o + 9) = 400 ∧ o + 9 < 207) := by decide +kernel
theorem rf_5_9 {o : Nat} (h : IsK GS 0 207 o 5) : GS.2.2 o 9 = some (o + 9) := (rfA_5_9 o h.2.2 h.1).1
theorem kf_5_9 {o : Nat} (h : IsK GS 0 207 o 5) : IsK GS 0 207 (o + 9) 12 := ⟨(rfA_5_9 o h.2.2 h.1).2.1, Nat.le_trans h.2.1 (Nat.le_add_right _ _), (rfA_5_9 o h.2.2 h.1).2.2.2⟩
theorem ln_5_9 {o : Nat} (h : IsK GS 0 207 o 5) : GS.2.1 (o + 9) = 400 := (rfA_5_9 o h.2.2 h.1).2.2.1
theorem rfA_5_10 : ∀ o, o < 207 → GS.1 o = 5 → (GS.2.2 o 10 = some (o + 10) ∧ GS.1 (o + 10) = 12 ∧ GS.2.1 (o + 10) = 400 ∧ o + 10 < 207) := by decide +kernel
theorem rf_5_10 {o : Nat} (h : IsK GS 0 207 o 5) : GS.2.2 o 10 = some (o + 10) := (rfA_5_10 o h.2.2 h.1).1
theorem kf_5_10 {o : Nat} (h : IsK GS 0 207 o 5) : IsK GS 0 207 (o + 10) 12 := ⟨(rfA_5_10 o h.2.2 h.1).2.1, Nat.le_trans h.2.1 (Nat.le_add_right _ _), (rfA_5_10 o h.2.2 h.1).2.2.2⟩
theorem ln_5_10 {o : Nat} (h : IsK GS 0 207 o 5) : GS.2.1 (o + 10) = 400 := (rfA_5_10 o h.2.2 h.1).2.2.1
theorem rfA_6_0 : ∀ o, o < 207 → GS.1 o = 6 → GS.2.2 o 0 = some 2 := by decide +kernel
theorem rf_6_0 {o : Nat} (h : IsK GS 0 207 o 6) : GS.2.2 o 0 = some 2 := rfA_6_0 o h.2.2 h.1
theorem rfA_6_1 : ∀ o, o < 207 → GS.1 o = 6 → GS.2.2 o 1 = some 206 := by decide +kernel
theorem rf_6_1 {o : Nat} (h : IsK GS 0 207 o 6) : GS.2.2 o 1 = some 206 := rfA_6_1 o h.2.2 h.1
theorem rfA_7_3 : ∀ o, o < 207 → GS.1 o = 7 → (GS.2.2 o 3 = some (o + 1) ∧ GS.1 (o + 1) = 12 ∧ GS.2.1 (o + 1) = 4 ∧ o + 1 < 207) := by decide +kernel
theorem rf_7_3 {o : Nat} (h : IsK GS 0 207 o 7) : GS.2.2 o 3 = some (o + 1) := (rfA_7_3 o h.2.2 h.1).1
theorem kf_7_3 {o : Nat} (h : IsK GS 0 207 o 7) : IsK GS 0 207 (o + 1) 12 := ⟨(rfA_7_3 o h.2.2 h.1).2.1, Nat.le_trans h.2.1 (Nat.le_add_right _ _), (rfA_7_3 o h.2.2 h.1).2.2.2⟩
theorem ln_7_3 {o : Nat} (h : IsK GS 0 207 o 7) : GS.2.1 (o + 1) = 4 := (rfA_7_3 o h.2.2 h.1).2.2.1
theorem rfA_7_4 : ∀ o, o < 207 → GS.1 o = 7 → (GS.2.2 o 4 = some (o + 2) ∧ GS.1 (o + 2) = 12 ∧ GS.2.1 (o + 2) = 4 ∧ o + 2 < 207) := by decide +kernel
theorem rf_7_4 {o : Nat} (h : IsK GS 0 207 o 7) : GS.2.2 o 4 = some (o + 2) := (rfA_7_4 o h.2.2 h.1).1
theorem kf_7_4 {o : Nat} (h : IsK GS 0 207 o 7) : IsK GS 0 207 (o + 2) 12 := ⟨(rfA_7_4 o h.2.2 h.1).2.1, Nat.le_trans h.2.1 (Nat.le_add_right _ _), (rfA_7_4 o h.2.2 h.1).2.2.2⟩
theorem ln_7_4 {o : Nat} (h : IsK GS 0 207 o 7) : GS.2.1 (o + 2) = 4 := (rfA_7_4 o h.2.2 h.1).2.2.1
theorem rfA_7_9 : ∀ o, o < 207 → GS.1 o = 7 → (GS.2.2 o 9 = some (o + 3) ∧ GS.1 (o + 3) = 12 ∧ GS.2.1 (o + 3) = 3 ∧ o + 3 < 207) := by decide +kernel
theorem rf_7_9 {o : Nat} (h : IsK GS 0 207 o 7) : GS.2.2 o 9 = some (o + 3) := (rfA_7_9 o h.2.2 h.1).1
theorem kf_7_9 {o : Nat} (h : IsK GS 0 207 o 7) : IsK GS 0 207 (o + 3) 12 := ⟨(rfA_7_9 o h.2.2 h.1).2.1, Nat.le_trans h.2.1 (Nat.le_add_right _ _), (rfA_7_9 o h.2.2 h.1).2.2.2⟩
theorem ln_7_9 {o : Nat} (h : IsK GS 0 207 o 7) : GS.2.1 (o + 3) = 3 := (rfA_7_9 o h.2.2 h.1).2.2.1
theorem rfA_7_10 : ∀ o, o < 207 → GS.1 o = 7 → (GS.2.2 o 10 = some (o + 4) ∧ GS.1 (o + 4) = 12 ∧ GS.2.1 (o + 4) = 3 ∧ o + 4 < 207) := by decide +kernel
theorem rf_7_10 {o : Nat} (h : IsK GS 0 207 o 7) : GS.2.2 o 10 = some (o + 4) := (rfA_7_10 o h.2.2 h.1).1
theorem kf_7_10 {o : Nat} (h : IsK GS 0 207 o 7) : IsK GS 0 207 (o + 4) 12 := ⟨(rfA_7_10 o h.2.2 h.1).2.1, Nat.le_trans h.2.1 (Nat.le_add_right _ _), (rfA_7_10 o h.2.2 h.1).2.2.2⟩
theorem ln_7_10 {o : Nat} (h : IsK GS 0 207 o 7) : GS.2.1 (o + 4) = 3 := (rfA_7_10 o h.2.2 h.1).2.2.1
theorem rfA_8_0 : ∀ o, o < 207 → GS.1 o = 8 → GS.2.2 o 0 = some 1 := by decide +kernel
theorem rf_8_0 {o : Nat} (h : IsK GS 0 207 o 8) : GS.2.2 o 0 = some 1 := rfA_8_0 o h.2.2 h.1
theorem rfA_9_0 : ∀ o, o < 207 → GS.1 o = 9 → (GS.2.2 o 0 = some (o + 1) ∧ GS.1 (o + 1) = 16 ∧ GS.2.1 (o + 1) = 6 ∧ o + 1 < 207) := by decide +kernel
theorem rf_9_0 {o : Nat} (h : IsK GS 0 207 o 9) : GS.2.2 o 0 = some (o + 1) := (rfA_9_0 o h.2.2 h.1).1
theorem kf_9_0 {o : Nat} (h : IsK GS 0 207 o 9) : IsK GS 0 207 (o + 1) 16 := ⟨(rfA_9_0 o h.2.2 h.1).2.1, Nat.le_trans h.2.1 (Nat.le_add_right _ _), (rfA_9_0 o h.2.2 h.1).2.2.2⟩
theorem ln_9_0 {o : Nat} (h : IsK GS 0 207 o 9) : GS.2.1 (o + 1) = 6 := (rfA_9_0 o h.2.2 h.1).2.2.1
theorem rfA_9_5 : ∀ o, o < 207 → GS.1 o = 9 → (GS.2.2 o 5 = some (o + 2) ∧ GS.1 (o + 2) = 12 ∧ GS.2.1 (o + 2) = 4 ∧ o + 2 < 207) := by decide +kernel
theorem rf_9_5 {o : Nat} (h : IsK GS 0 207 o 9) : GS.2.2 o 5 = some (o + 2) := (rfA_9_5 o h.2.2 h.1).1
theorem kf_9_5 {o : Nat} (h : IsK GS 0 207 o 9) : IsK GS 0 207 (o + 2) 12 := ⟨(rfA_9_5 o h.2.2 h.1).2.1, Nat.le_trans h.2.1 (Nat.le_add_right _ _), (rfA_9_5 o h.2.2 h.1).2.2.2⟩
theorem ln_9_5 {o : Nat} (h : IsK GS 0 207 o 9) : GS.2.1 (o + 2) = 4 := (rfA_9_5 o h.2.2 h.1).2.2.1
theorem rfA_9_6 : ∀ o, o < 207 → GS.1 o = 9 → (GS.2.2 o 6 = some (o + 3) ∧ GS.1 (o + 3) = 12 ∧ GS.2.1 (o + 3) = 4 ∧ o + 3 < 207) := by decide +kernel
theorem rf_9_6 {o : Nat} (h : IsK GS 0 207 o 9) : GS.2.2 o 6 = some (o + 3) := (rfA_9_6 o h.2.2 h.1).1
theorem kf_9_6 {o : Nat} (h : IsK GS 0 207 o 9) : IsK GS 0 207 (o + 3) 12 := ⟨(rfA_9_6 o h.2.2 h.1).2.1, Nat.le_trans h.2.1 (Nat.le_add_right _ _), (rfA_9_6 o h.2.2 h.1).2.2.2⟩
theorem ln_9_6 {o : Nat} (h : IsK GS 0 207 o 9) : GS.2.1 (o + 3) = 4 := (rfA_9_6 o h.2.2 h.1).2.2.1
theorem rfA_10_0 : ∀ o, o < 207 → GS.1 o = 10 → GS.2.2 o 0 = some 1 := by decide +kernel
theorem rf_10_0 {o : Nat} (h : IsK GS 0 207 o 10) : GS.2.2 o 0 = some 1 := rfA_10_0 o h.2.2 h.1
theorem rfA_10_2 : ∀ o, o < 207 → GS.1 o = 10 → GS.2.2 o 2 = some 2 := by decide +kernel
theorem rf_10_2 {o : Nat} (h : IsK GS 0 207 o 10) : GS.2.2 o 2 = some 2 := rfA_10_2 o h.2.2 h.1
theorem rfA_10_3 : ∀ o, o < 207 → GS.1 o = 10 → GS.2.2 o 3 = some 4 := by decide +kernel
theorem rf_10_3 {o : Nat} (h : IsK GS 0 207 o 10) : GS.2.2 o 3 = some 4 := rfA_10_3 o h.2.2 h.1
theorem rfA_10_4 : ∀ o, o < 207 → GS.1 o = 10 → GS.2.2 o 4 = some 57 := by decide +kernel
theorem rf_10_4 {o : Nat} (h : IsK GS 0 207 o 10) : GS.2.2 o 4 = some 57 := rfA_10_4 o h.2.2 h.1
theorem rfA_10_5 : ∀ o, o < 207 → GS.1 o = 10 → GS.2.2 o 5 = some 110 := by decide +kernel
theorem rf_10_5 {o : Nat} (h : IsK GS 0 207 o 10) : GS.2.2 o 5 = some 110 := rfA_10_5 o h.2.2 h.1
theorem rfA_10_7 : ∀ o, o < 207 → GS.1 o = 10 → GS.2.2 o 7 = some 163 := by decide +kernel
theorem rf_10_7 {o : Nat} (h : IsK GS 0 207 o 10) : GS.2.2 o 7 = some 163 := rfA_10_7 o h.2.2 h.1
theorem rfA_10_8 : ∀ o, o < 207 → GS.1 o = 10 → GS.2.2 o 8 = some 199 := by decide +kernel
theorem rf_10_8 {o : Nat} (h : IsK GS 0 207 o 10) : GS.2.2 o 8 = some 199 := rfA_10_8 o h.2.2 h.1
theorem rfA_10_9 : ∀ o, o < 207 → GS.1 o = 10 → GS.2.2 o 9 = some 205 := by decide +kernel
theorem rf_10_9 {o : Nat} (h : IsK GS 0 207 o 10) : GS.2.2 o 9 = some 205 := rfA_10_9 o h.2.2 h.1
theorem rfA_11_0 : ∀ o, o < 218 → GS.1 o = 11 → GS.2.2 o 0 = some 208 := by decide +kernel
theorem rf_11_0 {o : Nat} (h : IsK GS 207 218 o 11) : GS.2.2 o 0 = some 208 := rfA_11_0 o h.2.2 h.1
theorem rfA_11_1 : ∀ o, o < 218 → GS.1 o = 11 → GS.2.2 o 1 = some 209 := by decide +kernel
theorem rf_11_1 {o : Nat} (h : IsK GS 207 218 o 11) : GS.2.2 o 1 = some 209 := rfA_11_1 o h.2.2 h.1
theorem rfA_11_3 : ∀ o, o < 218 → GS.1 o = 11 → GS.2.2 o 3 = some 210 := by decide +kernel
theorem rf_11_3 {o : Nat} (h : IsK GS 207 218 o 11) : GS.2.2 o 3 = some 210 := rfA_11_3 o h.2.2 h.1
theorem rfA_11_11 : ∀ o, o < 218 → GS.1 o = 11 → GS.2.2 o 11 = some 211 := by decide +kernel
theorem rf_11_11 {o : Nat} (h : IsK GS 207 218 o 11) : GS.2.2 o 11 = some 211 := rfA_11_11 o h.2.2 h.1
theorem rfA_11_13 : ∀ o, o < 218 → GS.1 o = 11 → GS.2.2 o 13 = some 212 := by decide +kernel
theorem rf_11_13 {o : Nat} (h : IsK GS 207 218 o 11) : GS.2.2 o 13 = some 212 := rfA_11_13 o h.2.2 h.1
theorem rfA_11_14 : ∀ o, o < 218 → GS.1 o = 11 → GS.2.2 o 14 = some 213 := by decide +kernel
theorem rf_11_14 {o : Nat} (h : IsK GS 207 218 o 11) : GS.2.2 o 14 = some 213 := rfA_11_14 o h.2.2 h.1
theorem rfA_11_15 : ∀ o, o < 218 → GS.1 o = 11 → GS.2.2 o 15 = some 214 := by decide +kernel
theorem rf_11_15 {o : Nat} (h : IsK GS 207 218 o 11) : GS.2.2 o 15 = some 214 := rfA_11_15 o h.2.2 h.1
theorem rfA_11_16 : ∀ o, o < 218 → GS.1 o = 11 → GS.2.2 o 16 = some 215 := by decide +kernel
theorem rf_11_16 {o : Nat} (h : IsK GS 207 218 o 11) : GS.2.2 o 16 = some 215 := rfA_11_16 o h.2.2 h.1
theorem rfA_11_18 : ∀ o, o < 218 → GS.1 o = 11 → GS.2.2 o 18 = some 216 := by decide +kernel
theorem rf_11_18 {o : Nat} (h : IsK GS 207 218 o 11) : GS.2.2 o 18 = some 216 := rfA_11_18 o h.2.2 h.1
theorem rfA_11_20 : ∀ o, o < 218 → GS.1 o = 11 → GS.2.2 o 20 = some 217 := by decide +kernel
theorem rf_11_20 {o : Nat} (h : IsK GS 207 218 o 11) : GS.2.2 o 20 = some 217 := rfA_11_20 o h.2.2 h.1
theorem kk_0 : IsK GS 0 207 0 10 := ⟨rfl, by decide, by decide⟩
theorem kk_1 : IsK GS 0 207 1 13 := ⟨rfl, by decide, by decide⟩
theorem kk_2 : IsK GS 0 207 2 3 := ⟨rfl, by decide, by decide⟩
theorem kk_3 : IsK GS 0 207 3 12 := ⟨rfl, by decide, by decide⟩
theorem kk_4 : IsK GS 0 207 4 1 := ⟨rfl, by decide, by decide⟩
theorem kk_5 : IsK GS 0 207 5 9 := ⟨rfl, by decide, by decide⟩
theorem kk_39 : IsK GS 0 207 39 15 := ⟨rfl, by decide, by decide⟩
theorem kk_40 : IsK GS 0 207 40 5 := ⟨rfl, by decide, by decide⟩
theorem kk_42 : IsK GS 0 207 42 12 := ⟨rfl, by decide, by decide⟩
theorem kk_48 : IsK GS 0 207 48 12 := ⟨rfl, by decide, by decide⟩
theorem kk_57 : IsK GS 0 207 57 1 := ⟨rfl, by decide, by decide⟩
theorem kk_110 : IsK GS 0 207 110 1 := ⟨rfl, by decide, by decide⟩
theorem kk_145 : IsK GS 0 207 145 15 := ⟨rfl, by decide, by decide⟩
theorem kk_163 : IsK GS 0 207 163 2 := ⟨rfl, by decide, by decide⟩
theorem kk_164 : IsK GS 0 207 164 9 := ⟨rfl, by decide, by decide⟩
theorem kk_198 : IsK GS 0 207 198 8 := ⟨rfl, by decide, by decide⟩
theorem kk_199 : IsK GS 0 207 199 4 := ⟨rfl, by decide, by decide⟩
theorem kk_200 : IsK GS 0 207 200 12 := ⟨rfl, by decide, by decide⟩
theorem kk_201 : IsK GS 0 207 201 12 := ⟨rfl, by decide, by decide⟩
theorem kk_202 : IsK GS 0 207 202 12 := ⟨rfl, by decide, by decide⟩
theorem kk_203 : IsK GS 0 207 203 12 := ⟨rfl, by decide, by decide⟩
theorem kk_204 : IsK GS 0 207 204 8 := ⟨rfl, by decide, by decide⟩
theorem kk_205 : IsK GS 0 207 205 6 := ⟨rfl, by decide, by decide⟩
theorem kk_206 : IsK GS 0 207 206 13 := ⟨rfl, by decide, by decide⟩
theorem kk_207 : IsK GS 207 218 207 11 := ⟨rfl, by decide, by decide⟩
theorem kk_208 : IsK GS 207 218 208 12 := ⟨rfl, by decide, by decide⟩
theorem kk_209 : IsK GS 207 218 209 12 := ⟨rfl, by decide, by decide⟩
theorem kk_210 : IsK GS 207 218 210 13 := ⟨rfl, by decide, by decide⟩
theorem kk_211 : IsK GS 207 218 211 12 := ⟨rfl, by decide, by decide⟩
theorem kk_212 : IsK GS 207 218 212 14 := ⟨rfl, by decide, by decide⟩
theorem kk_213 : IsK GS 207 218 213 12 := ⟨rfl, by decide, by decide⟩
theorem kk_214 : IsK GS 207 218 214 12 := ⟨rfl, by decide, by decide⟩
theorem kk_215 : IsK GS 207 218 215 12 := ⟨rfl, by decide, by decide⟩
theorem kk_216 : IsK GS 207 218 216 13 := ⟨rfl, by decide, by decide⟩
theorem kk_217 : IsK GS 207 218 217 12 := ⟨rfl, by decide, by decide⟩
theorem aaA_15 : ∀ a, a < 207 → GS.1 a = 15 → ∀ i, i < 6 → (GS.2.2 a i = some (a + 12 + i) ∧ GS.1 (a + 12 + i) = 0 ∧ a + 12 + i < 207) := by decide +kernel
theorem aal_15 {a : Nat} {i : Int32} (h : IsK GS 0 207 a 15) (g : vp_in i 6) : GS.2.2 a i.toNatClampNeg = some (a + 12 + i.toNatClampNeg) ∧ IsK GS 0 207 (a + 12 + i.toNatClampNeg) 0 := by
  have hl : i.toNatClampNeg < 6 := Nat.not_le.mp fun q => g (Or.inr q)
  obtain ⟨h1, h2, h3⟩ := aaA_15 a h.2.2 h.1 _ hl
  exact ⟨h1, h2, Nat.zero_le _, h3⟩
theorem aaA_16 : ∀ a, a < 207 → GS.1 a = 16 → ∀ i, i < 6 → (GS.2.2 a i = some (a + 3 + 5 * i) ∧ GS.1 (a + 3 + 5 * i) = 7 ∧ a + 3 + 5 * i < 207) := by decide +kernel
theorem aal_16 {a : Nat} {i : Int32} (h : IsK GS 0 207 a 16) (g : vp_in i 6) : GS.2.2 a i.toNatClampNeg = some (a + 3 + 5 * i.toNatClampNeg) ∧ IsK GS 0 207 (a + 3 + 5 * i.toNatClampNeg) 7 := by
  have hl : i.toNatClampNeg < 6 := Nat.not_le.mp fun q => g (Or.inr q)
  obtain ⟨h1, h2, h3⟩ := aaA_16 a h.2.2 h.1 _ hl
  exact ⟨h1, h2, Nat.zero_le _, h3⟩
theorem sw_c3 {P : Nat → Prop} {k : Nat} (hk : k < 3) (h0 : P 0) (h1 : P 1) (h2 : P 2) : P k := by
  rcases (show k = 0 ∨ k = 1 ∨ k = 2 by omega) with rfl | rfl | rfl
  · exact h0
  · exact h1
  · exact h2
theorem sw_c4 {P : Nat → Prop} {k : Nat} (hk : k < 4) (h0 : P 0) (h1 : P 1) (h2 : P 2) (h3 : P 3) : P k := by
  rcases (show k = 0 ∨ k = 1 ∨ k = 2 ∨ k = 3 by omega) with rfl | rfl | rfl | rfl
  · exact h0
  · exact h1
  · exact h2
  · exact h3
theorem sw_c5 {P : Nat → Prop} {k : Nat} (hk : k < 5) (h0 : P 0) (h1 : P 1) (h2 : P 2) (h3 : P 3) (h4 : P 4) : P k := by
  rcases (show k = 0 ∨ k = 1 ∨ k = 2 ∨ k = 3 ∨ k = 4 by omega) with rfl | rfl | rfl | rfl | rfl
  · exact h0
  · exact h1
  · exact h2
  · exact h3
  · exact h4
theorem sw_c6 {P : Nat → Prop} {k : Nat} (hk : k < 6) (h0 : P 0) (h1 : P 1) (h2 : P 2) (h3 : P 3) (h4 : P 4) (h5 : P 5) : P k := by
  rcases (show k = 0 ∨ k = 1 ∨ k = 2 ∨ k = 3 ∨ k = 4 ∨ k = 5 by omega) with rfl | rfl | rfl | rfl | rfl | rfl
  · exact h0
  · exact h1
  · exact h2
  · exact h3
  · exact h4
  · exact h5
theorem sw_c8 {P : Nat → Prop} {k : Nat} (hk : k < 8) (h0 : P 0) (h1 : P 1) (h2 : P 2) (h3 : P 3) (h4 : P 4) (h5 : P 5) (h6 : P 6) (h7 : P 7) : P k := by
  rcases (show k = 0 ∨ k = 1 ∨ k = 2 ∨ k = 3 ∨ k = 4 ∨ k = 5 ∨ k = 6 ∨ k = 7 by omega) with rfl | rfl | rfl | rfl | rfl | rfl | rfl | rfl
  · exact h0
  · exact h1
  · exact h2
  · exact h3
  · exact h4
  · exact h5
  · exact h6
  · exact h7
theorem sw_c10 {P : Nat → Prop} {k : Nat} (hk : k < 10) (h0 : P 0) (h1 : P 1) (h2 : P 2) (h3 : P 3) (h4 : P 4) (h5 : P 5) (h6 : P 6) (h7 : P 7) (h8 : P 8) (h9 : P 9) : P k := by
  rcases (show k = 0 ∨ k = 1 ∨ k = 2 ∨ k = 3 ∨ k = 4 ∨ k = 5 ∨ k = 6 ∨ k = 7 ∨ k = 8 ∨ k = 9 by omega) with rfl | rfl | rfl | rfl | rfl | rfl | rfl | rfl | rfl | rfl
  · exact h0
  · exact h1
  · exact h2
  · exact h3
  · exact h4
  · exact h5
  · exact h6
  · exact h7
  · exact h8
  · exact h9
theorem sw_c12 {P : Nat → Prop} {k : Nat} (hk : k < 12) (h0 : P 0) (h1 : P 1) (h2 : P 2) (h3 : P 3) (h4 : P 4) (h5 : P 5) (h6 : P 6) (h7 : P 7) (h8 : P 8) (h9 : P 9) (h10 : P 10) (h11 : P 11) : P k := by
  rcases (show k = 0 ∨ k = 1 ∨ k = 2 ∨ k = 3 ∨ k = 4 ∨ k = 5 ∨ k = 6 ∨ k = 7 ∨ k = 8 ∨ k = 9 ∨ k = 10 ∨ k = 11 by omega) with rfl | rfl | rfl | rfl | rfl | rfl | rfl | rfl | rfl | rfl | rfl | rfl
  · exact h0
  · exact h1
  · exact h2
  · exact h3
  · exact h4
  · exact h5
  · exact h6
  · exact h7
  · exact h8
  · exact h9
  · exact h10
  · exact h11
theorem sw_c20 {P : Nat → Prop} {k : Nat} (hk : k < 20) (h0 : P 0) (h1 : P 1) (h2 : P 2) (h3 : P 3) (h4 : P 4) (h5 : P 5) (h6 : P 6) (h7 : P 7) (h8 : P 8) (h9 : P 9) (h10 : P 10) (h11 : P 11) (h12 : P 12) (h13 : P 13) (h14 : P 14) (h15 : P 15) (h16 : P 16) (h17 : P 17) (h18 : P 18) (h19 : P 19) : P k := by
  rcases (show k = 0 ∨ k = 1 ∨ k = 2 ∨ k = 3 ∨ k = 4 ∨ k = 5 ∨ k = 6 ∨ k = 7 ∨ k = 8 ∨ k = 9 ∨ k = 10 ∨ k = 11 ∨ k = 12 ∨ k = 13 ∨ k = 14 ∨ k = 15 ∨ k = 16 ∨ k = 17 ∨ k = 18 ∨ k = 19 by omega) with rfl | rfl | rfl | rfl | rfl | rfl | rfl | rfl | rfl | rfl | rfl | rfl | rfl | rfl | rfl | rfl | rfl | rfl | rfl | rfl
  · exact h0
  · exact h1
  · exact h2
  · exact h3
  · exact h4
  · exact h5
  · exact h6
  · exact h7
  · exact h8
  · exact h9
  · exact h10
  · exact h11
  · exact h12
  · exact h13
  · exact h14
  · exact h15
  · exact h16
  · exact h17
  · exact h18
  · exact h19
theorem sw_c24 {P : Nat → Prop} {k : Nat} (hk : k < 24) (h0 : P 0) (h1 : P 1) (h2 : P 2) (h3 : P 3) (h4 : P 4) (h5 : P 5) (h6 : P 6) (h7 : P 7) (h8 : P 8) (h9 : P 9) (h10 : P 10) (h11 : P 11) (h12 : P 12) (h13 : P 13) (h14 : P 14) (h15 : P 15) (h16 : P 16) (h17 : P 17) (h18 : P 18) (h19 : P 19) (h20 : P 20) (h21 : P 21) (h22 : P 22) (h23 : P 23) : P k := by
  rcases (show k = 0 ∨ k = 1 ∨ k = 2 ∨ k = 3 ∨ k = 4 ∨ k = 5 ∨ k = 6 ∨ k = 7 ∨ k = 8 ∨ k = 9 ∨ k = 10 ∨ k = 11 ∨ k = 12 ∨ k = 13 ∨ k = 14 ∨ k = 15 ∨ k = 16 ∨ k = 17 ∨ k = 18 ∨ k = 19 ∨ k = 20 ∨ k = 21 ∨ k = 22 ∨ k = 23 by omega) with rfl | rfl | rfl | rfl | rfl | rfl | rfl | rfl | rfl | rfl | rfl | rfl | rfl | rfl | rfl | rfl | rfl | rfl | rfl | rfl | rfl | rfl | rfl | rfl
  · exact h0
  · exact h1
  · exact h2
  · exact h3
  · exact h4
  · exact h5
  · exact h6
  · exact h7
  · exact h8
  · exact h9
  · exact h10
  · exact h11
  · exact h12
  · exact h13
  · exact h14
  · exact h15
  · exact h16
  · exact h17
  · exact h18
  · exact h19
  · exact h20
  · exact h21
  · exact h22
  · exact h23
theorem sw_c43 {P : Nat → Prop} {k : Nat} (hk : k < 43) (h0 : P 0) (h1 : P 1) (h2 : P 2) (h3 : P 3) (h4 : P 4) (h5 : P 5) (h6 : P 6) (h7 : P 7) (h8 : P 8) (h9 : P 9) (h10 : P 10) (h11 : P 11) (h12 : P 12) (h13 : P 13) (h14 : P 14) (h15 : P 15) (h16 : P 16) (h17 : P 17) (h18 : P 18) (h19 : P 19) (h20 : P 20) (h21 : P 21) (h22 : P 22) (h23 : P 23) (h24 : P 24) (h25 : P 25) (h26 : P 26) (h27 : P 27) (h28 : P 28) (h29 : P 29) (h30 : P 30) (h31 : P 31) (h32 : P 32) (h33 : P 33) (h34 : P 34) (h35 : P 35) (h36 : P 36) (h37 : P 37) (h38 : P 38) (h39 : P 39) (h40 : P 40) (h41 : P 41) (h42 : P 42) : P k := by
  rcases (show k = 0 ∨ k = 1 ∨ k = 2 ∨ k = 3 ∨ k = 4 ∨ k = 5 ∨ k = 6 ∨ k = 7 ∨ k = 8 ∨ k = 9 ∨ k = 10 ∨ k = 11 ∨ k = 12 ∨ k = 13 ∨ k = 14 ∨ k = 15 ∨ k = 16 ∨ k = 17 ∨ k = 18 ∨ k = 19 ∨ k = 20 ∨ k = 21 ∨ k = 22 ∨ k = 23 ∨ k = 24 ∨ k = 25 ∨ k = 26 ∨ k = 27 ∨ k = 28 ∨ k = 29 ∨ k = 30 ∨ k = 31 ∨ k = 32 ∨ k = 33 ∨ k = 34 ∨ k = 35 ∨ k = 36 ∨ k = 37 ∨ k = 38 ∨ k = 39 ∨ k = 40 ∨ k = 41 ∨ k = 42 by omega) with rfl | rfl | rfl | rfl | rfl | rfl | rfl | rfl | rfl | rfl | rfl | rfl | rfl | rfl | rfl | rfl | rfl | rfl | rfl | rfl | rfl | rfl | rfl | rfl | rfl | rfl | rfl | rfl | rfl | rfl | rfl | rfl | rfl | rfl | rfl | rfl | rfl | rfl | rfl | rfl | rfl | rfl | rfl
  · exact h0
  · exact h1
  · exact h2
  · exact h3
  · exact h4
  · exact h5
  · exact h6
  · exact h7
  · exact h8
  · exact h9
  · exact h10
  · exact h11
  · exact h12
  · exact h13
  · exact h14
  · exact h15
  · exact h16
  · exact h17
  · exact h18
  · exact h19
  · exact h20
  · exact h21
  · exact h22
  · exact h23
  · exact h24
  · exact h25
  · exact h26
  · exact h27
  · exact h28
  · exact h29
  · exact h30
  · exact h31
  · exact h32
  · exact h33
  · exact h34
  · exact h35
  · exact h36
  · exact h37
  · exact h38
  · exact h39
  · exact h40
  · exact h41
  · exact h42
theorem lsw_out2 {d0 o1 o2 : Int} {v1 v2 : Int} {x0 : Int32} {w1 w2 : Int32} (h1 : ¬ x0 = w1) (h2 : ¬ x0 = w2) (e1 : w1.toInt = v1 := by rfl) (e2 : w2.toInt = v2 := by rfl) : Op.lookupswitch.offset (#[(v1, o1), (v2, o2)] : Array (Int × Int)).toList d0 x0.toInt = d0 := by
  have q1 : ¬ x0.toInt = v1 := fun q => h1 (Int32.toInt_inj.mp (q.trans e1.symm))
  have q2 : ¬ x0.toInt = v2 := fun q => h2 (Int32.toInt_inj.mp (q.trans e2.symm))
  have r1 : ¬ v1 = x0.toInt := fun q => q1 q.symm
  have r2 : ¬ v2 = x0.toInt := fun q => q2 q.symm
  simp [Op.lookupswitch.offset, q1, q2, r1, r2]
