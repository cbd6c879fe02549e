/-! ===== the tables are what soundness asks ===== -/
def eCol (n : Nat) (l : List (List (List ev_E))) : Prop := ∀ k x, ev_nth l k = some x → eOk (n + k) x
theorem eCn {n : Nat} : eCol n [] := fun k x h => by cases k <;> cases h
theorem eCc {n : Nat} {x : List (List ev_E)} {l : List (List (List ev_E))} (h : eOk n x) (t : eCol (n + 1) l) : eCol n (x :: l) := fun k y e => by
  cases k with
  | zero => cases e; exact h
  | succ k =>
    rw [show n + (k + 1) = n + 1 + k by omega]
    exact t k y e
def eTop (n : Nat) (l : List (List (List (List ev_E)))) : Prop := ∀ k x, ev_nth l k = some x → eCol (24 * (n + k)) x
theorem eTn {n : Nat} : eTop n [] := fun k x h => by cases k <;> cases h
theorem eTc {n : Nat} {x : List (List (List ev_E))} {l : List (List (List (List ev_E)))} (h : eCol (24 * n) x) (t : eTop (n + 1) l) : eTop n (x :: l) := fun k y e => by
  cases k with
  | zero => cases e; exact h
  | succ k =>
    rw [show n + (k + 1) = n + 1 + k by omega]
    exact t k y e
theorem e_col0 : eCol 0 [k_X0_init, k_X0_times, k_X0_set, k_X0_close, k_X0_takeFrom, k_X0_number, k_X0_mends, k_X0_sumsOf, k_X0_mendsOne, k_X0_mendsTwo, k_X1_init, k_X1_clear, k_X1_keepFirst, k_X1_readText, k_X1_adds, k_X1_addsPlace, k_X1_addsStreet, k_X1_addsRange, k_X1_sharesHouse, k_X1_isOnSide, k_X1_addsPoint, k_X1_hasHouse, k_X1_placeOf, k_X1_streetOf] := (eCc e_0 (eCc e_1 (eCc e_2 (eCc e_3 (eCc e_4 (eCc e_5 (eCc e_6 (eCc e_7 (eCc e_8 (eCc e_9 (eCc e_10 (eCc e_11 (eCc e_12 (eCc e_13 (eCc e_14 (eCc e_15 (eCc e_16 (eCc e_17 (eCc e_18 (eCc e_19 (eCc e_20 (eCc e_21 (eCc e_22 (eCc e_23 eCn))))))))))))))))))))))))
theorem e_col1 : eCol 24 [k_X1_pointOf, k_X1_isStreetOf, k_X1_spell, k_X1_hasPlace, k_X1_hasPoint, k_X1_tellPoint, k_X1_placeOfPoint, k_X1_xOf, k_X1_yOf, k_X1_tellForwarding, k_X1_tellHold, k_X1_addOrder, k_X1_askedGoal, k_X1_goalFor, k_X1_orderFor, k_X2_init, k_X2_clear, k_X2_today, k_X2_happen, k_X2_keep, k_X2_tellEvent, k_X2_tellNotice, k_X2_setWish, k_X2_setDevice] := (eCc e_24 (eCc e_25 (eCc e_26 (eCc e_27 (eCc e_28 (eCc e_29 (eCc e_30 (eCc e_31 (eCc e_32 (eCc e_33 (eCc e_34 (eCc e_35 (eCc e_36 (eCc e_37 (eCc e_38 (eCc e_39 (eCc e_40 (eCc e_41 (eCc e_42 (eCc e_43 (eCc e_44 (eCc e_45 (eCc e_46 (eCc e_47 eCn))))))))))))))))))))))))
theorem e_col2 : eCol 48 [k_X2_scanBy, k_X3_init, k_X3_clear, k_X3_has, k_X3_is, k_X3_serves, k_X3_tell, k_X3_come, k_X3_comeInAt, k_X3_keepFor, k_X3_goBack, k_X3_isAtHand, k_X3_isEnded, k_X3_isHeldTill, k_X3_isHeldAtPost, k_X3_setAddress, k_X3_fixAddress, k_X3_takeReading, k_X3_hearClerk, k_X3_postAt, k_X3_tellAbout, k_X3_goalOf, k_X3_goalPlaceOf, k_X3_priceOf] := (eCc e_48 (eCc e_49 (eCc e_50 (eCc e_51 (eCc e_52 (eCc e_53 (eCc e_54 (eCc e_55 (eCc e_56 (eCc e_57 (eCc e_58 (eCc e_59 (eCc e_60 (eCc e_61 (eCc e_62 (eCc e_63 (eCc e_64 (eCc e_65 (eCc e_66 (eCc e_67 (eCc e_68 (eCc e_69 (eCc e_70 (eCc e_71 eCn))))))))))))))))))))))))
theorem e_col3 : eCol 72 [k_X3_priceDue, k_X3_centsDue, k_X3_isFreeForLocker, k_X3_drawBars, k_X3_handAtDoor, k_X3_handAtPost, k_X3_handOver, k_X3_missAtDoor, k_X3_refuseItem, k_X3_frankItem, k_X3_claimFor, k_X3_misplaced, k_X4_init, k_X4_clear, k_X4_has, k_X4_hasBag, k_X4_make, k_X4_setNext, k_X4_firstFrom, k_X4_delay, k_X4_makeBag, k_X4_fillBag, k_X4_shutBag, k_X4_emptyBag] := (eCc e_72 (eCc e_73 (eCc e_74 (eCc e_75 (eCc e_76 (eCc e_77 (eCc e_78 (eCc e_79 (eCc e_80 (eCc e_81 (eCc e_82 (eCc e_83 (eCc e_84 (eCc e_85 (eCc e_86 (eCc e_87 (eCc e_88 (eCc e_89 (eCc e_90 (eCc e_91 (eCc e_92 (eCc e_93 (eCc e_94 (eCc e_95 eCn))))))))))))))))))))))))
theorem e_col4 : eCol 96 [k_X4_drop, k_X4_tellWay, k_X4_search, k_X4_soonestReached, k_X4_reachBy, k_X4_nextMinute, k_X4_arrive, k_X4_leaveAll, k_X4_load, k_X4_carriedBy, k_X4_overladen, k_X4_misplaced, k_X5_init, k_X5_clear, k_X5_has, k_X5_make, k_X5_tell, k_X5_freeBoxes, k_X5_boxWith, k_X5_fill, k_X5_tryKey, k_X5_keyOf, k_X5_drop, k_X5_unbar] := (eCc e_96 (eCc e_97 (eCc e_98 (eCc e_99 (eCc e_100 (eCc e_101 (eCc e_102 (eCc e_103 (eCc e_104 (eCc e_105 (eCc e_106 (eCc e_107 (eCc e_108 (eCc e_109 (eCc e_110 (eCc e_111 (eCc e_112 (eCc e_113 (eCc e_114 (eCc e_115 (eCc e_116 (eCc e_117 (eCc e_118 (eCc e_119 eCn))))))))))))))))))))))))
theorem e_col5 : eCol 120 [k_X5_misplaced, k_X6_init, k_X6_stages, k_X6_admits, k_X6_appendRecord, k_X6_append, k_X6_readsTape, k_X6_blocksFor, k_X6_writeAll, k_X6_makeBlock, k_X6_writes, k_X6_setCut, k_X6_sumOf, k_X6_hasByte, k_X6_byteAt, k_X6_change, k_X6_firstBad, k_X6_isLast, k_X6_isRight, k_X6_beginAgain, k_X6_gather, k_X6_forgetGathered, k_X6_endAgain, k_X6_readsRecord] := (eCc e_120 (eCc e_121 (eCc e_122 (eCc e_123 (eCc e_124 (eCc e_125 (eCc e_126 (eCc e_127 (eCc e_128 (eCc e_129 (eCc e_130 (eCc e_131 (eCc e_132 (eCc e_133 (eCc e_134 (eCc e_135 (eCc e_136 (eCc e_137 (eCc e_138 (eCc e_139 (eCc e_140 (eCc e_141 (eCc e_142 (eCc e_143 eCn))))))))))))))))))))))))
theorem e_col6 : eCol 144 [k_X6_wordAt, k_X7_init, k_X7_clear, k_X7_has, k_X7_isCustomer, k_X7_homeOf, k_X7_openAccount, k_X7_payIn, k_X7_hasRoomFor, k_X7_transfer, k_X7_tellBooking, k_X7_readTariff, k_X7_adds, k_X7_addsService, k_X7_addsRow, k_X7_priceFor, k_X7_hasOrder, k_X7_makeOrder, k_X7_payOrder, k_X7_giveBack, k_X7_settle, k_X7_faults, k_X8_init, k_X8_clear] := (eCc e_144 (eCc e_145 (eCc e_146 (eCc e_147 (eCc e_148 (eCc e_149 (eCc e_150 (eCc e_151 (eCc e_152 (eCc e_153 (eCc e_154 (eCc e_155 (eCc e_156 (eCc e_157 (eCc e_158 (eCc e_159 (eCc e_160 (eCc e_161 (eCc e_162 (eCc e_163 (eCc e_164 (eCc e_165 (eCc e_166 (eCc e_167 eCn))))))))))))))))))))))))
theorem e_col7 : eCol 168 [k_X8_has, k_X8_roundOf, k_X8_stopAt, k_X8_sortedAt, k_X8_setMachine, k_X8_make, k_X8_addStop, k_X8_arrangeStops, k_X8_wayOf, k_X8_between, k_X8_fromBeginning, k_X8_goToNearest, k_X8_goLeastWay, k_X8_measure, k_X8_bestNext, k_X8_sortItems, k_X8_gather, k_X8_cameAfter, k_X8_placeAmong, k_X8_rank, k_X8_feedPass, k_X8_binReached, k_X8_keepSorted, k_X8_addStray] := (eCc e_168 (eCc e_169 (eCc e_170 (eCc e_171 (eCc e_172 (eCc e_173 (eCc e_174 (eCc e_175 (eCc e_176 (eCc e_177 (eCc e_178 (eCc e_179 (eCc e_180 (eCc e_181 (eCc e_182 (eCc e_183 (eCc e_184 (eCc e_185 (eCc e_186 (eCc e_187 (eCc e_188 (eCc e_189 (eCc e_190 (eCc e_191 eCn))))))))))))))))))))))))
theorem e_col8 : eCol 192 [k_X8_sendOut, k_X8_drop, k_X8_misplaced, k_X9_init, k_X9_clear, k_X9_show, k_X9_darken, k_X9_findParts, k_X9_takePart, k_X9_takeNeighbours, k_X9_joinLines, k_X9_joinLine, k_X9_areNear, k_X9_orderParts, k_X9_goesBefore, k_X9_keepLines, k_X9_beginLine, k_X9_keepBox, k_X9_cellsOf, k_X9_isInk, k_X9_nearest, k_X9_reading, k_X9_wordEnd, k_X9_lastWordOf] := (eCc e_192 (eCc e_193 (eCc e_194 (eCc e_195 (eCc e_196 (eCc e_197 (eCc e_198 (eCc e_199 (eCc e_200 (eCc e_201 (eCc e_202 (eCc e_203 (eCc e_204 (eCc e_205 (eCc e_206 (eCc e_207 (eCc e_208 (eCc e_209 (eCc e_210 (eCc e_211 (eCc e_212 (eCc e_213 (eCc e_214 (eCc e_215 eCn))))))))))))))))))))))))
theorem e_col9 : eCol 216 [k_X9_numberOf, k_X9_streetLike, k_X9_changesTo, k_X9_tellLine, k_X9_tellSign, k_X10_init, k_X10_append, k_X10_fill, k_X10_byteAt, k_X10_hasMore, k_X10_readsEntry, k_X10_reads, k_X10_readsNumber, k_X10_readsName, k_X11_init, k_X11_sync, k_X11_cut, k_X11_start, k_X11_verify, k_X11_count, k_X11_book, k_X11_forward, k_X11_hold, k_X11_effective] := (eCc e_216 (eCc e_217 (eCc e_218 (eCc e_219 (eCc e_220 (eCc e_221 (eCc e_222 (eCc e_223 (eCc e_224 (eCc e_225 (eCc e_226 (eCc e_227 (eCc e_228 (eCc e_229 (eCc e_230 (eCc e_231 (eCc e_232 (eCc e_233 (eCc e_234 (eCc e_235 (eCc e_236 (eCc e_237 (eCc e_238 (eCc e_239 eCn))))))))))))))))))))))))
theorem e_col10 : eCol 240 [k_X11_lastPoint, k_X11_find, k_X11_pointAt, k_X11_sheet, k_X11_read, k_X11_textLine, k_X11_sign, k_X11_item, k_X11_address, k_X11_take, k_X11_clerk, k_X11_post, k_X11_about, k_X11_bar, k_X11_scan, k_X11_mended, k_X11_machine, k_X11_round, k_X11_assign, k_X11_arrange, k_X11_stop, k_X11_sort, k_X11_passes, k_X11_wrong] := (eCc e_240 (eCc e_241 (eCc e_242 (eCc e_243 (eCc e_244 (eCc e_245 (eCc e_246 (eCc e_247 (eCc e_248 (eCc e_249 (eCc e_250 (eCc e_251 (eCc e_252 (eCc e_253 (eCc e_254 (eCc e_255 (eCc e_256 (eCc e_257 (eCc e_258 (eCc e_259 (eCc e_260 (eCc e_261 (eCc e_262 (eCc e_263 eCn))))))))))))))))))))))))
theorem e_col11 : eCol 264 [k_X11_row, k_X11_out, k_X11_leg, k_X11_late, k_X11_bag, k_X11_into, k_X11_closeBag, k_X11_openBag, k_X11_bagAt, k_X11_way, k_X11_hand, k_X11_miss, k_X11_refuse, k_X11_put, k_X11_pickUp, k_X11_openBox, k_X11_lose, k_X11_account, k_X11_deposit, k_X11_balance, k_X11_entry, k_X11_tariff, k_X11_price, k_X11_frank] := (eCc e_264 (eCc e_265 (eCc e_266 (eCc e_267 (eCc e_268 (eCc e_269 (eCc e_270 (eCc e_271 (eCc e_272 (eCc e_273 (eCc e_274 (eCc e_275 (eCc e_276 (eCc e_277 (eCc e_278 (eCc e_279 (eCc e_280 (eCc e_281 (eCc e_282 (eCc e_283 (eCc e_284 (eCc e_285 (eCc e_286 (eCc e_287 eCn))))))))))))))))))))))))
theorem e_col12 : eCol 288 [k_X11_order, k_X11_payOut, k_X11_orderAt, k_X11_claim, k_X11_locker, k_X11_lockerAt, k_X11_device, k_X11_scanned, k_X11_trace, k_X11_wish, k_X11_notice, k_X11_tick, k_X11_now, k_X11_audit, k_X11_act, k_X11_clearHouse, k_X11_scanItem, k_X11_loseItem, k_X11_goOn, k_X11_beginDay, k_X11_outside, k_X11_without, k_X12_thrown, k_X12_in] := (eCc e_288 (eCc e_289 (eCc e_290 (eCc e_291 (eCc e_292 (eCc e_293 (eCc e_294 (eCc e_295 (eCc e_296 (eCc e_297 (eCc e_298 (eCc e_299 (eCc e_300 (eCc e_301 (eCc e_302 (eCc e_303 (eCc e_304 (eCc e_305 (eCc e_306 (eCc e_307 (eCc e_308 (eCc e_309 (eCc e_310 (eCc e_311 eCn))))))))))))))))))))))))
theorem e_col13 : eCol 312 [k_X12_init, k_X12_argumentsOf, k_X12_reads, k_X12_no, k_X12_full, k_X12_note, k_X12_call, k_X12_call1, k_X12_call2, k_X12_call3, k_X12_call4, k_X12_feed, k_X12_end, k_X12_at, k_X12_sum, k_X12_isRight, k_X12_make, k_X12_sync, k_X12_cut, k_X12_lacks, k_X12_next, k_X12_isRecord, k_X12_again, k_X12_start] := (eCc e_312 (eCc e_313 (eCc e_314 (eCc e_315 (eCc e_316 (eCc e_317 (eCc e_318 (eCc e_319 (eCc e_320 (eCc e_321 (eCc e_322 (eCc e_323 (eCc e_324 (eCc e_325 (eCc e_326 (eCc e_327 (eCc e_328 (eCc e_329 (eCc e_330 (eCc e_331 (eCc e_332 (eCc e_333 (eCc e_334 (eCc e_335 eCn))))))))))))))))))))))))
theorem e_col14 : eCol 336 [k_X12_verify, k_X12_octet, k_X12_poke, k_X12_empty, k_X12_today, k_X12_isPoint, k_X12_isItem, k_X12_isPlace, k_X12_isRound, k_X12_isBag, k_X12_isLocker, k_X12_isCustomer, k_X12_placeOf, k_X12_count, k_X12_event, k_X12_comes, k_X12_leaves, k_X12_comesIn, k_X12_goesBack, k_X12_look, k_X12_eat, k_X12_digits, k_X12_letters, k_X12_comma] := (eCc e_336 (eCc e_337 (eCc e_338 (eCc e_339 (eCc e_340 (eCc e_341 (eCc e_342 (eCc e_343 (eCc e_344 (eCc e_345 (eCc e_346 (eCc e_347 (eCc e_348 (eCc e_349 (eCc e_350 (eCc e_351 (eCc e_352 (eCc e_353 (eCc e_354 (eCc e_355 (eCc e_356 (eCc e_357 (eCc e_358 (eCc e_359 eCn))))))))))))))))))))))))
theorem e_col15 : eCol 360 [k_X12_placeWith, k_X12_streetWith, k_X12_has, k_X12_inRange, k_X12_pointWith, k_X12_addPlace, k_X12_addStreet, k_X12_addRange, k_X12_addPoint, k_X12_entryOfBook, k_X12_doBook, k_X12_book, k_X12_doNote, k_X12_forward, k_X12_hold, k_X12_effectiveOf, k_X12_ask, k_X12_effective, k_X12_lastPoint, k_X12_find, k_X12_xOf, k_X12_yOf, k_X12_pointAt, k_X12_findDark] := (eCc e_360 (eCc e_361 (eCc e_362 (eCc e_363 (eCc e_364 (eCc e_365 (eCc e_366 (eCc e_367 (eCc e_368 (eCc e_369 (eCc e_370 (eCc e_371 (eCc e_372 (eCc e_373 (eCc e_374 (eCc e_375 (eCc e_376 (eCc e_377 (eCc e_378 (eCc e_379 (eCc e_380 (eCc e_381 (eCc e_382 (eCc e_383 eCn))))))))))))))))))))))))
theorem e_col16 : eCol 384 [k_X12_part, k_X12_areNear, k_X12_hangTogether, k_X12_topOf, k_X12_cellsOf, k_X12_isBefore, k_X12_lay, k_X12_findLines, k_X12_nearest, k_X12_beginsWord, k_X12_numberOf, k_X12_changes, k_X12_nearestStreet, k_X12_readAddress, k_X12_doSheet, k_X12_sheet, k_X12_read, k_X12_textLine, k_X12_sign, k_X12_doItem, k_X12_item, k_X12_isEarly, k_X12_settle, k_X12_doAddress] := (eCc e_384 (eCc e_385 (eCc e_386 (eCc e_387 (eCc e_388 (eCc e_389 (eCc e_390 (eCc e_391 (eCc e_392 (eCc e_393 (eCc e_394 (eCc e_395 (eCc e_396 (eCc e_397 (eCc e_398 (eCc e_399 (eCc e_400 (eCc e_401 (eCc e_402 (eCc e_403 (eCc e_404 (eCc e_405 (eCc e_406 (eCc e_407 eCn))))))))))))))))))))))))
theorem e_col17 : eCol 408 [k_X12_address, k_X12_doTake, k_X12_take, k_X12_doClerk, k_X12_clerk, k_X12_doPost, k_X12_post, k_X12_goalOf, k_X12_priceOf, k_X12_priceDue, k_X12_centsDue, k_X12_about, k_X12_times, k_X12_power, k_X12_sumOf, k_X12_bars, k_X12_bar, k_X12_mends, k_X12_change, k_X12_mendOne, k_X12_mendTwo, k_X12_scan, k_X12_mended, k_X12_doMachine] := (eCc e_408 (eCc e_409 (eCc e_410 (eCc e_411 (eCc e_412 (eCc e_413 (eCc e_414 (eCc e_415 (eCc e_416 (eCc e_417 (eCc e_418 (eCc e_419 (eCc e_420 (eCc e_421 (eCc e_422 (eCc e_423 (eCc e_424 (eCc e_425 (eCc e_426 (eCc e_427 (eCc e_428 (eCc e_429 (eCc e_430 (eCc e_431 eCn))))))))))))))))))))))))
theorem e_col18 : eCol 432 [k_X12_machine, k_X12_doRound, k_X12_round, k_X12_pointsOf, k_X12_doAssign, k_X12_assign, k_X12_size, k_X12_far, k_X12_arrangeExactly, k_X12_arrangeByNearest, k_X12_doArrange, k_X12_arrange, k_X12_stop, k_X12_rowSize, k_X12_findFed, k_X12_gates, k_X12_pass, k_X12_doSort, k_X12_sort, k_X12_passes, k_X12_wrong, k_X12_rowAt, k_X12_row, k_X12_doOut] := (eCc e_432 (eCc e_433 (eCc e_434 (eCc e_435 (eCc e_436 (eCc e_437 (eCc e_438 (eCc e_439 (eCc e_440 (eCc e_441 (eCc e_442 (eCc e_443 (eCc e_444 (eCc e_445 (eCc e_446 (eCc e_447 (eCc e_448 (eCc e_449 (eCc e_450 (eCc e_451 (eCc e_452 (eCc e_453 (eCc e_454 (eCc e_455 eCn))))))))))))))))))))))))
theorem e_col19 : eCol 456 [k_X12_out, k_X12_from, k_X12_doLeg, k_X12_leg, k_X12_doLate, k_X12_late, k_X12_doBag, k_X12_bag, k_X12_inBag, k_X12_doInto, k_X12_into, k_X12_doClose, k_X12_closeBag, k_X12_doOpen, k_X12_openBag, k_X12_bagAt, k_X12_findWays, k_X12_way, k_X12_openOrders, k_X12_isLedgerFull, k_X12_pay, k_X12_balanceOf, k_X12_handOver, k_X12_hand] := (eCc e_456 (eCc e_457 (eCc e_458 (eCc e_459 (eCc e_460 (eCc e_461 (eCc e_462 (eCc e_463 (eCc e_464 (eCc e_465 (eCc e_466 (eCc e_467 (eCc e_468 (eCc e_469 (eCc e_470 (eCc e_471 (eCc e_472 (eCc e_473 (eCc e_474 (eCc e_475 (eCc e_476 (eCc e_477 (eCc e_478 (eCc e_479 eCn))))))))))))))))))))))))
theorem e_col20 : eCol 480 [k_X12_doMiss, k_X12_miss, k_X12_doRefuse, k_X12_refuse, k_X12_inBox, k_X12_doPut, k_X12_put, k_X12_pickUp, k_X12_keyOf, k_X12_doBox, k_X12_openBox, k_X12_doLose, k_X12_lose, k_X12_doAccount, k_X12_account, k_X12_doDeposit, k_X12_deposit, k_X12_balance, k_X12_entry, k_X12_rowOfTariff, k_X12_doTariff, k_X12_tariff, k_X12_price, k_X12_doFrank] := (eCc e_480 (eCc e_481 (eCc e_482 (eCc e_483 (eCc e_484 (eCc e_485 (eCc e_486 (eCc e_487 (eCc e_488 (eCc e_489 (eCc e_490 (eCc e_491 (eCc e_492 (eCc e_493 (eCc e_494 (eCc e_495 (eCc e_496 (eCc e_497 (eCc e_498 (eCc e_499 (eCc e_500 (eCc e_501 (eCc e_502 (eCc e_503 eCn))))))))))))))))))))))))
theorem e_col21 : eCol 504 [k_X12_frank, k_X12_doOrder, k_X12_order, k_X12_doPayOut, k_X12_payOut, k_X12_orderAt, k_X12_doClaim, k_X12_claim, k_X12_doLocker, k_X12_locker, k_X12_lockerAt, k_X12_doDevice, k_X12_device, k_X12_doScanned, k_X12_scanned, k_X12_trace, k_X12_doWish, k_X12_wish, k_X12_notice, k_X12_dayBegins, k_X12_departs, k_X12_nextMinute, k_X12_doTick, k_X12_tick] := (eCc e_504 (eCc e_505 (eCc e_506 (eCc e_507 (eCc e_508 (eCc e_509 (eCc e_510 (eCc e_511 (eCc e_512 (eCc e_513 (eCc e_514 (eCc e_515 (eCc e_516 (eCc e_517 (eCc e_518 (eCc e_519 (eCc e_520 (eCc e_521 (eCc e_522 (eCc e_523 (eCc e_524 (eCc e_525 (eCc e_526 (eCc e_527 eCn))))))))))))))))))))))))
theorem e_col22 : eCol 528 [k_X12_now, k_X12_audit, k_X12_act, k_J6_bitCount_0f7a4, k_J9_floorMod_7cf53, k_J9_abs_0f7a4, k_J9_max_7cf53, k_J9_min_7cf53, k_J7_fill_d0a16, k_J7_fill_53178, k_J7_fill_031fb, k_L_law] := (eCc e_528 (eCc e_529 (eCc e_530 (eCc e_531 (eCc e_532 (eCc e_533 (eCc e_534 (eCc e_535 (eCc e_536 (eCc e_537 (eCc e_538 (eCc e_539 eCn))))))))))))
theorem e_top : eTop 0 cod_tab := (eTc e_col0 (eTc e_col1 (eTc e_col2 (eTc e_col3 (eTc e_col4 (eTc e_col5 (eTc e_col6 (eTc e_col7 (eTc e_col8 (eTc e_col9 (eTc e_col10 (eTc e_col11 (eTc e_col12 (eTc e_col13 (eTc e_col14 (eTc e_col15 (eTc e_col16 (eTc e_col17 (eTc e_col18 (eTc e_col19 (eTc e_col20 (eTc e_col21 (eTc e_col22 eTn)))))))))))))))))))))))
theorem nth_mem {α : Type} : ∀ {l : List α} {i : Nat} {x : α}, ev_nth l i = some x → x ∈ l
  | [], i, _, h => by cases i <;> cases h
  | a :: l, 0, x, h => by cases h; exact List.mem_cons_self
  | a :: l, i + 1, x, h => List.mem_cons_of_mem _ (nth_mem (l := l) h)
theorem fnd_mem {n : Nat} {q : Instr × (Nat × (Int × List Nat))} : ∀ {l : List ev_E}, ev_fnd l n = some q → (n, q) ∈ l
  | [], h => by cases h
  | a :: l, h => by
    have h1 : (bif Nat.beq a.1 n then some a.2 else ev_fnd l n) = some q := h
    cases hb : Nat.beq a.1 n with
    | true =>
      rw [hb] at h1
      have e : a.1 = n := Nat.eq_of_beq_eq_true hb
      have e2 : a.2 = q := Option.some.inj h1
      rw [← e, ← e2]
      exact List.mem_cons_self
    | false =>
      rw [hb] at h1
      exact List.mem_cons_of_mem _ (fnd_mem (l := l) h1)
theorem fnd2_mem {t : List (List ev_E)} {n : Nat} {q : Instr × (Nat × (Int × List Nat))} (h : ev_fnd2 t n = some q) : ∃ r ∈ t, (n, q) ∈ r := by
  unfold ev_fnd2 at h
  split at h
  · next r hr => exact ⟨r, nth_mem hr, fnd_mem h⟩
  · cases h
theorem cod_ok {M pc : Nat} {q : Instr × (Nat × (Int × List Nat))} (h : ev_fnd2 (codT M) pc = some q) : decode (bysT M) pc = .ok (q.1, q.2.1) ∧ chkI M pc q.2.1 q.2.2.1 q.1 = true := by
  unfold codT at h
  split at h
  · next r hr =>
    cases hx : ev_nth r (M % 24) with
    | none =>
      rw [hx] at h
      obtain ⟨r', h1, -⟩ := fnd2_mem h
      exact absurd h1 List.not_mem_nil
    | some x =>
      rw [hx] at h
      have h1 := e_top (M / 24) r hr (M % 24) x hx
      rw [show 24 * (0 + M / 24) + M % 24 = M by omega] at h1
      obtain ⟨r', h2, h3⟩ := fnd2_mem h
      have h2 : r' ∈ x := h2
      have h4 : chkE M (pc, q) = true := List.all_eq_true.mp (List.all_eq_true.mp h1 r' h2) _ h3
      obtain ⟨h5, h6⟩ := (Bool.and_eq_true _ _).mp h4
      exact ⟨of_decide_eq_true h5, h6⟩
  · obtain ⟨r', h1, -⟩ := fnd2_mem h
    exact absurd h1 List.not_mem_nil
def staOk (q : Nat × (Nat × (Nat × Nat))) : Bool := match q with
  | (0, _) => false
  | (5, _) => false
  | (t, (n, (_, w))) => Nat.ble n 60000 && (Nat.ble 5 t || Nat.ble 1 w)
theorem sta_p {b : Bool} {x y : Nat × (Nat × (Nat × Nat))} (h1 : staOk x = true) (h2 : staOk y = true) : staOk (bif b then x else y) = true := by cases b <;> assumption
theorem sta_ok (g : Nat) : staOk (shp_sta g) = true := by
  unfold shp_sta
  repeat (first | exact rfl | refine sta_p rfl ?_)
theorem shp_hi {g : Nat} (h : 1000 ≤ g) : shpT g = shp_sta g := by
  unfold shpT
  rw [show Nat.ble 1000 g = true from Nat.ble_eq.mpr h]
  rfl
def chkS (g : Nat) (q : Nat × (Nat × (Nat × Nat))) : Bool := match q with
  | (0, (ci, (w, _))) => (match clsT[ci]? with
    | some rr => Nat.beq rr.2.2 w
    | none => false)
  | (5, (n, (f, _))) => Nat.ble n 60000 && Nat.ble (f + 1) 1000 && Nat.ble n (sn_cnt (shpT f)) && Nat.ble (g + 1 + n) 1000
  | (_, (n, _)) => Nat.ble n 60000
def chkG (g : Nat) : Bool := chkS g (shpT g) && (List.range (sn_cnt (shpT g))).all fun i => Nat.beq (shpT (g + i)).1 (shpT g).1 && Nat.beq (shpT (g + i)).2.1 (shpT g).2.1 && Nat.beq (shpT (g + i)).2.2.2 (shpT g).2.2.2
theorem chk_G : (List.range 1000).all chkG = true := by decide +kernel
theorem chk_S {g : Nat} (h : g < 1000) : chkS g (shpT g) = true := ((Bool.and_eq_true _ _).mp (List.all_eq_true.mp chk_G g (List.mem_range.mpr h))).1
theorem chk_R {g i : Nat} (h : g < 1000) (hi : i < sn_cnt (shpT g)) : (shpT (g + i)).1 = (shpT g).1 ∧ (shpT (g + i)).2.1 = (shpT g).2.1 ∧ (shpT (g + i)).2.2.2 = (shpT g).2.2.2 := by
  have h1 := List.all_eq_true.mp ((Bool.and_eq_true _ _).mp (List.all_eq_true.mp chk_G g (List.mem_range.mpr h))).2 i (List.mem_range.mpr hi)
  obtain ⟨h2, h3⟩ := (Bool.and_eq_true _ _).mp h1
  obtain ⟨h4, h5⟩ := (Bool.and_eq_true _ _).mp h2
  exact ⟨beq_of h4, beq_of h5, beq_of h3⟩
theorem shp_0 (g : Nat) (w : Nat × (Nat × Nat)) (h : shpT g = (0, w)) : g < 1000 := Nat.not_le.mp fun z => by
  have h1 := sta_ok g
  rw [← shp_hi z, h] at h1
  cases h1
theorem shp_5 (g : Nat) (w : Nat × (Nat × Nat)) (h : shpT g = (5, w)) : g < 1000 := Nat.not_le.mp fun z => by
  have h1 := sta_ok g
  rw [← shp_hi z, h] at h1
  cases h1
theorem shp_w (g t n y : Nat) (h : shpT g = (t, (n, (y, 0)))) (ht : t < 5) : g < 1000 := Nat.not_le.mp fun z => by
  have h1 := sta_ok g
  rw [← shp_hi z, h] at h1
  unfold staOk at h1
  split at h1
  · cases h1
  · cases h1
  · next e =>
    cases e
    have h2 := ((Bool.and_eq_true _ _).mp h1).2
    rcases (Bool.or_eq_true _ _).mp h2 with h3 | h3
    · have := ble_of h3
      omega
    · cases h3
theorem shp_n (g t n : Nat) (y : Nat × Nat) (h : shpT g = (t, (n, y))) (ht : 1 ≤ t) : n ≤ 60000 := by
  by_cases z : 1000 ≤ g
  · have h1 := sta_ok g
    rw [← shp_hi z, h] at h1
    unfold staOk at h1
    split at h1
    · cases h1
    · cases h1
    · next e =>
      cases e
      exact ble_of ((Bool.and_eq_true _ _).mp h1).1
  · have h1 := chk_S (Nat.not_le.mp z)
    rw [h] at h1
    unfold chkS at h1
    split at h1
    · next e => cases e; omega
    · next e =>
      cases e
      exact ble_of ((Bool.and_eq_true _ _).mp ((Bool.and_eq_true _ _).mp ((Bool.and_eq_true _ _).mp h1).1).1).1
    · next e => cases e; exact ble_of h1
theorem shp_five {g n f w : Nat} (h : shpT g = (5, (n, (f, w)))) : (f < 1000 ∧ n ≤ sn_cnt (shpT f)) ∧ g + 1 + n ≤ 1000 := by
  have h1 := chk_S (shp_5 g _ h)
  rw [h] at h1
  have h1 : (Nat.ble n 60000 && Nat.ble (f + 1) 1000 && Nat.ble n (sn_cnt (shpT f)) && Nat.ble (g + 1 + n) 1000) = true := h1
  obtain ⟨h2, h3⟩ := (Bool.and_eq_true _ _).mp h1
  obtain ⟨h4, h5⟩ := (Bool.and_eq_true _ _).mp h2
  obtain ⟨h6, h7⟩ := (Bool.and_eq_true _ _).mp h4
  exact ⟨⟨ble_of h7, ble_of h5⟩, ble_of h3⟩
theorem shp_obj (g ci w y : Nat) (h : shpT g = (0, (ci, (w, y)))) : ∃ rr : vw_C, clsT[ci]? = some rr ∧ rr.2.2 = w := by
  have h1 := chk_S (shp_0 g _ h)
  rw [h] at h1
  have h1 : (match clsT[ci]? with
    | some rr => Nat.beq rr.2.2 w
    | none => false) = true := h1
  split at h1
  · next rr hrr => exact ⟨rr, hrr, beq_of h1⟩
  · cases h1
theorem snX {ad : Nat → Nat} {base : Nat} (had : ∀ g, g < 1000 → ad g = base + g) : sn_X shpT ad base := ⟨fun _ _ h hi => chk_R h hi, fun _ _ _ _ h => (shp_five h).1, had⟩
theorem ly_all : ((List.range 13).all fun ci => (List.range (clsT.getD ci ("", fdT [], 0)).2.2).all fun k => hasP wl_ly ci k) = true := by decide +kernel
theorem cls_nm0 : ∀ ci, ci < 13 → (clsT.getD ci ("", fdT [], 0)).1 = cnm ci
  | 0, _ => rfl
  | 1, _ => rfl
  | 2, _ => rfl
  | 3, _ => rfl
  | 4, _ => rfl
  | 5, _ => rfl
  | 6, _ => rfl
  | 7, _ => rfl
  | 8, _ => rfl
  | 9, _ => rfl
  | 10, _ => rfl
  | 11, _ => rfl
  | 12, _ => rfl
  | n + 13, h => absurd h (by omega)
theorem nmT0 : ∀ a, a < 2 → ∀ b, b < 2 → a ≠ b → (fdT fdX0 a).2.1 ≠ (fdT fdX0 b).2.1 := by decide +kernel
theorem nmT1 : ∀ a, a < 16 → ∀ b, b < 16 → a ≠ b → (fdT fdX1 a).2.1 ≠ (fdT fdX1 b).2.1 := by decide +kernel
theorem nmT2 : ∀ a, a < 11 → ∀ b, b < 11 → a ≠ b → (fdT fdX2 a).2.1 ≠ (fdT fdX2 b).2.1 := by decide +kernel
theorem nmT3 : ∀ a, a < 9 → ∀ b, b < 9 → a ≠ b → (fdT fdX3 a).2.1 ≠ (fdT fdX3 b).2.1 := by decide +kernel
theorem nmT4 : ∀ a, a < 12 → ∀ b, b < 12 → a ≠ b → (fdT fdX4 a).2.1 ≠ (fdT fdX4 b).2.1 := by decide +kernel
theorem nmT5 : ∀ a, a < 8 → ∀ b, b < 8 → a ≠ b → (fdT fdX5 a).2.1 ≠ (fdT fdX5 b).2.1 := by decide +kernel
theorem nmT6 : ∀ a, a < 16 → ∀ b, b < 16 → a ≠ b → (fdT fdX6 a).2.1 ≠ (fdT fdX6 b).2.1 := by decide +kernel
theorem nmT7 : ∀ a, a < 15 → ∀ b, b < 15 → a ≠ b → (fdT fdX7 a).2.1 ≠ (fdT fdX7 b).2.1 := by decide +kernel
theorem nmT8 : ∀ a, a < 20 → ∀ b, b < 20 → a ≠ b → (fdT fdX8 a).2.1 ≠ (fdT fdX8 b).2.1 := by decide +kernel
theorem nmT9 : ∀ a, a < 18 → ∀ b, b < 18 → a ≠ b → (fdT fdX9 a).2.1 ≠ (fdT fdX9 b).2.1 := by decide +kernel
theorem nmT10 : ∀ a, a < 6 → ∀ b, b < 6 → a ≠ b → (fdT fdX10 a).2.1 ≠ (fdT fdX10 b).2.1 := by decide +kernel
theorem nmT11 : ∀ a, a < 12 → ∀ b, b < 12 → a ≠ b → (fdT fdX11 a).2.1 ≠ (fdT fdX11 b).2.1 := by decide +kernel
theorem nmT12 : ∀ a, a < 180 → ∀ b, b < 180 → a ≠ b → (fdT fdX12 a).2.1 ≠ (fdT fdX12 b).2.1 := by decide +kernel
theorem nm_all : ∀ ci, ci < 13 → ∀ a, a < (clsT.getD ci ("", fdT [], 0)).2.2 → ∀ b, b < (clsT.getD ci ("", fdT [], 0)).2.2 → a ≠ b → ((clsT.getD ci ("", fdT [], 0)).2.1 a).2.1 ≠ ((clsT.getD ci ("", fdT [], 0)).2.1 b).2.1
  | 0, _ => nmT0
  | 1, _ => nmT1
  | 2, _ => nmT2
  | 3, _ => nmT3
  | 4, _ => nmT4
  | 5, _ => nmT5
  | 6, _ => nmT6
  | 7, _ => nmT7
  | 8, _ => nmT8
  | 9, _ => nmT9
  | 10, _ => nmT10
  | 11, _ => nmT11
  | 12, _ => nmT12
  | n + 13, h => absurd h (by omega)
theorem clsT_C : sn_C clsT TsT := fun ci rr h => by
  obtain ⟨h1, e⟩ := cls_at h
  refine ⟨fun w hw => ?_, ⟨fun k => (parseFieldDescriptor (rr.2.1 k).2.2.1).getD .int, fun k hk => ?_⟩, ?_⟩
  · obtain ⟨k, hk, rfl⟩ := List.mem_map.mp hw
    have hk := List.mem_range.mp hk
    subst e
    have h2 := TsT_ly (ci, k) (hasP_mem (List.all_eq_true.mp (List.all_eq_true.mp ly_all ci (List.mem_range.mpr h1)) k (List.mem_range.mpr hk)))
    rw [cls_nm0 ci h1]
    exact h2
  · obtain ⟨ty, h2, -⟩ := ty_ok ci k rr h hk
    simp only [h2, Option.getD_some]
  · subst e
    exact nm_all ci h1
theorem dv_ref {ty : FieldType} (h : ty.isReference = true) : defaultValue ty = .null := by cases ty <;> first | rfl | cases h
theorem clsT_Ty : sn_Ty clsT ftyT := fun ci rr h => by
  obtain ⟨h1, e⟩ := cls_at h
  refine ⟨fun k => (parseFieldDescriptor (rr.2.1 k).2.2.1).getD .int, fun k hk => ?_, fun k hk => ?_⟩
  · obtain ⟨ty, h2, -⟩ := ty_ok ci k rr h hk
    simp only [h2, Option.getD_some]
  · obtain ⟨ty, h2, e0, e1, e2, e3⟩ := ty_ok ci k rr h hk
    simp only [h2, Option.getD_some]
    subst e
    have h3 := ty_all ci k h1 hk
    unfold tyOk at h3
    split at h3
    · split at h3
      · next e => rw [e, e0 e]; rfl
      · next e => rw [e, e1 e]; rfl
      · next e => rw [e, e2 e]; rfl
      · next e => rw [e, dv_ref (e3 e)]; rfl
      · cases h3
    · cases h3
theorem pf_all : ((List.range 900).all fun c => plainFor (namT c)) = true := by decide +kernel
theorem soX {ad : Nat → Nat} {base : Nat} {prm : Nat → Option (List ev_V → ev_M → Option ev_O)} (had : ∀ g, g < 1000 → ad g = base + g) (hp : ∀ c, prm c = none → c < 900) (hle : ∀ c w as x o, prm c = some w → w as x = some o → ev_le x o.1) : so_X shpT ftyT clsT ad base codT datT prm bysT namT rtyT frmT lcoT TsT nwsT stsT :=
  ⟨snX had, shp_0, shp_w, fun g t n y h => shp_n g t n y h, fun _ _ _ _ h => (shp_five h).2, shp_obj, clsT_C, clsT_Ty, TsT_good,
    fun M pc q h => chkI_ok hp (cod_ok h).1 (cod_ok h).2, hle, fun c h => List.all_eq_true.mp pf_all c (List.mem_range.mpr (hp c h))⟩
