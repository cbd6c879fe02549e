theorem e_150 : (k_X7_openAccount.all fun row => row.all (chkE 150)) = true := by decide +kernel
theorem e_151 : (k_X7_payIn.all fun row => row.all (chkE 151)) = true := by decide +kernel
theorem e_152 : (k_X7_hasRoomFor.all fun row => row.all (chkE 152)) = true := by decide +kernel
theorem e_153 : (k_X7_transfer.all fun row => row.all (chkE 153)) = true := by decide +kernel
theorem e_154 : (k_X7_tellBooking.all fun row => row.all (chkE 154)) = true := by decide +kernel
theorem e_155 : (k_X7_readTariff.all fun row => row.all (chkE 155)) = true := by decide +kernel
theorem e_156 : (k_X7_adds.all fun row => row.all (chkE 156)) = true := by decide +kernel
theorem e_157 : (k_X7_addsService.all fun row => row.all (chkE 157)) = true := by decide +kernel
theorem e_158 : (k_X7_addsRow.all fun row => row.all (chkE 158)) = true := by decide +kernel
theorem e_159 : (k_X7_priceFor.all fun row => row.all (chkE 159)) = true := by decide +kernel
theorem e_160 : (k_X7_hasOrder.all fun row => row.all (chkE 160)) = true := by decide +kernel
theorem e_161 : (k_X7_makeOrder.all fun row => row.all (chkE 161)) = true := by decide +kernel
theorem e_162 : (k_X7_payOrder.all fun row => row.all (chkE 162)) = true := by decide +kernel
theorem e_163 : (k_X7_giveBack.all fun row => row.all (chkE 163)) = true := by decide +kernel
theorem e_164 : (k_X7_settle.all fun row => row.all (chkE 164)) = true := by decide +kernel
theorem e_165 : (k_X7_faults.all fun row => row.all (chkE 165)) = true := by decide +kernel
theorem e_166 : (k_X8_init.all fun row => row.all (chkE 166)) = true := by decide +kernel
theorem e_167 : (k_X8_clear.all fun row => row.all (chkE 167)) = true := by decide +kernel
theorem e_168 : (k_X8_has.all fun row => row.all (chkE 168)) = true := by decide +kernel
theorem e_169 : (k_X8_roundOf.all fun row => row.all (chkE 169)) = true := by decide +kernel
theorem e_170 : (k_X8_stopAt.all fun row => row.all (chkE 170)) = true := by decide +kernel
theorem e_171 : (k_X8_sortedAt.all fun row => row.all (chkE 171)) = true := by decide +kernel
theorem e_172 : (k_X8_setMachine.all fun row => row.all (chkE 172)) = true := by decide +kernel
theorem e_173 : (k_X8_make.all fun row => row.all (chkE 173)) = true := by decide +kernel
theorem e_174 : (k_X8_addStop.all fun row => row.all (chkE 174)) = true := by decide +kernel
theorem e_175 : (k_X8_arrangeStops.all fun row => row.all (chkE 175)) = true := by decide +kernel
theorem e_176 : (k_X8_wayOf.all fun row => row.all (chkE 176)) = true := by decide +kernel
theorem e_177 : (k_X8_between.all fun row => row.all (chkE 177)) = true := by decide +kernel
theorem e_178 : (k_X8_fromBeginning.all fun row => row.all (chkE 178)) = true := by decide +kernel
theorem e_179 : (k_X8_goToNearest.all fun row => row.all (chkE 179)) = true := by decide +kernel
theorem e_180 : (k_X8_goLeastWay.all fun row => row.all (chkE 180)) = true := by decide +kernel
theorem e_181 : (k_X8_measure.all fun row => row.all (chkE 181)) = true := by decide +kernel
theorem e_182 : (k_X8_bestNext.all fun row => row.all (chkE 182)) = true := by decide +kernel
theorem e_183 : (k_X8_sortItems.all fun row => row.all (chkE 183)) = true := by decide +kernel
theorem e_184 : (k_X8_gather.all fun row => row.all (chkE 184)) = true := by decide +kernel
theorem e_185 : (k_X8_cameAfter.all fun row => row.all (chkE 185)) = true := by decide +kernel
theorem e_186 : (k_X8_placeAmong.all fun row => row.all (chkE 186)) = true := by decide +kernel
theorem e_187 : (k_X8_rank.all fun row => row.all (chkE 187)) = true := by decide +kernel
theorem e_188 : (k_X8_feedPass.all fun row => row.all (chkE 188)) = true := by decide +kernel
theorem e_189 : (k_X8_binReached.all fun row => row.all (chkE 189)) = true := by decide +kernel
theorem e_190 : (k_X8_keepSorted.all fun row => row.all (chkE 190)) = true := by decide +kernel
theorem e_191 : (k_X8_addStray.all fun row => row.all (chkE 191)) = true := by decide +kernel
theorem e_192 : (k_X8_sendOut.all fun row => row.all (chkE 192)) = true := by decide +kernel
theorem e_193 : (k_X8_drop.all fun row => row.all (chkE 193)) = true := by decide +kernel
theorem e_194 : (k_X8_misplaced.all fun row => row.all (chkE 194)) = true := by decide +kernel
theorem e_195 : (k_X9_init.all fun row => row.all (chkE 195)) = true := by decide +kernel
theorem e_196 : (k_X9_clear.all fun row => row.all (chkE 196)) = true := by decide +kernel
theorem e_197 : (k_X9_show.all fun row => row.all (chkE 197)) = true := by decide +kernel
theorem e_198 : (k_X9_darken.all fun row => row.all (chkE 198)) = true := by decide +kernel
theorem e_199 : (k_X9_findParts.all fun row => row.all (chkE 199)) = true := by decide +kernel
theorem e_200 : (k_X9_takePart.all fun row => row.all (chkE 200)) = true := by decide +kernel
theorem e_201 : (k_X9_takeNeighbours.all fun row => row.all (chkE 201)) = true := by decide +kernel
theorem e_202 : (k_X9_joinLines.all fun row => row.all (chkE 202)) = true := by decide +kernel
theorem e_203 : (k_X9_joinLine.all fun row => row.all (chkE 203)) = true := by decide +kernel
theorem e_204 : (k_X9_areNear.all fun row => row.all (chkE 204)) = true := by decide +kernel
theorem e_205 : (k_X9_orderParts.all fun row => row.all (chkE 205)) = true := by decide +kernel
theorem e_206 : (k_X9_goesBefore.all fun row => row.all (chkE 206)) = true := by decide +kernel
theorem e_207 : (k_X9_keepLines.all fun row => row.all (chkE 207)) = true := by decide +kernel
theorem e_208 : (k_X9_beginLine.all fun row => row.all (chkE 208)) = true := by decide +kernel
theorem e_209 : (k_X9_keepBox.all fun row => row.all (chkE 209)) = true := by decide +kernel
theorem e_210 : (k_X9_cellsOf.all fun row => row.all (chkE 210)) = true := by decide +kernel
theorem e_211 : (k_X9_isInk.all fun row => row.all (chkE 211)) = true := by decide +kernel
theorem e_212 : (k_X9_nearest.all fun row => row.all (chkE 212)) = true := by decide +kernel
theorem e_213 : (k_X9_reading.all fun row => row.all (chkE 213)) = true := by decide +kernel
theorem e_214 : (k_X9_wordEnd.all fun row => row.all (chkE 214)) = true := by decide +kernel
theorem e_215 : (k_X9_lastWordOf.all fun row => row.all (chkE 215)) = true := by decide +kernel
theorem e_216 : (k_X9_numberOf.all fun row => row.all (chkE 216)) = true := by decide +kernel
theorem e_217 : (k_X9_streetLike.all fun row => row.all (chkE 217)) = true := by decide +kernel
theorem e_218 : (k_X9_changesTo.all fun row => row.all (chkE 218)) = true := by decide +kernel
theorem e_219 : (k_X9_tellLine.all fun row => row.all (chkE 219)) = true := by decide +kernel
theorem e_220 : (k_X9_tellSign.all fun row => row.all (chkE 220)) = true := by decide +kernel
theorem e_221 : (k_X10_init.all fun row => row.all (chkE 221)) = true := by decide +kernel
theorem e_222 : (k_X10_append.all fun row => row.all (chkE 222)) = true := by decide +kernel
theorem e_223 : (k_X10_fill.all fun row => row.all (chkE 223)) = true := by decide +kernel
theorem e_224 : (k_X10_byteAt.all fun row => row.all (chkE 224)) = true := by decide +kernel
theorem e_225 : (k_X10_hasMore.all fun row => row.all (chkE 225)) = true := by decide +kernel
theorem e_226 : (k_X10_readsEntry.all fun row => row.all (chkE 226)) = true := by decide +kernel
theorem e_227 : (k_X10_reads.all fun row => row.all (chkE 227)) = true := by decide +kernel
theorem e_228 : (k_X10_readsNumber.all fun row => row.all (chkE 228)) = true := by decide +kernel
theorem e_229 : (k_X10_readsName.all fun row => row.all (chkE 229)) = true := by decide +kernel
theorem e_230 : (k_X11_init.all fun row => row.all (chkE 230)) = true := by decide +kernel
theorem e_231 : (k_X11_sync.all fun row => row.all (chkE 231)) = true := by decide +kernel
theorem e_232 : (k_X11_cut.all fun row => row.all (chkE 232)) = true := by decide +kernel
theorem e_233 : (k_X11_start.all fun row => row.all (chkE 233)) = true := by decide +kernel
theorem e_234 : (k_X11_verify.all fun row => row.all (chkE 234)) = true := by decide +kernel
theorem e_235 : (k_X11_count.all fun row => row.all (chkE 235)) = true := by decide +kernel
theorem e_236 : (k_X11_book.all fun row => row.all (chkE 236)) = true := by decide +kernel
theorem e_237 : (k_X11_forward.all fun row => row.all (chkE 237)) = true := by decide +kernel
theorem e_238 : (k_X11_hold.all fun row => row.all (chkE 238)) = true := by decide +kernel
theorem e_239 : (k_X11_effective.all fun row => row.all (chkE 239)) = true := by decide +kernel
theorem e_240 : (k_X11_lastPoint.all fun row => row.all (chkE 240)) = true := by decide +kernel
theorem e_241 : (k_X11_find.all fun row => row.all (chkE 241)) = true := by decide +kernel
theorem e_242 : (k_X11_pointAt.all fun row => row.all (chkE 242)) = true := by decide +kernel
theorem e_243 : (k_X11_sheet.all fun row => row.all (chkE 243)) = true := by decide +kernel
theorem e_244 : (k_X11_read.all fun row => row.all (chkE 244)) = true := by decide +kernel
theorem e_245 : (k_X11_textLine.all fun row => row.all (chkE 245)) = true := by decide +kernel
theorem e_246 : (k_X11_sign.all fun row => row.all (chkE 246)) = true := by decide +kernel
theorem e_247 : (k_X11_item.all fun row => row.all (chkE 247)) = true := by decide +kernel
theorem e_248 : (k_X11_address.all fun row => row.all (chkE 248)) = true := by decide +kernel
theorem e_249 : (k_X11_take.all fun row => row.all (chkE 249)) = true := by decide +kernel
theorem e_250 : (k_X11_clerk.all fun row => row.all (chkE 250)) = true := by decide +kernel
theorem e_251 : (k_X11_post.all fun row => row.all (chkE 251)) = true := by decide +kernel
theorem e_252 : (k_X11_about.all fun row => row.all (chkE 252)) = true := by decide +kernel
theorem e_253 : (k_X11_bar.all fun row => row.all (chkE 253)) = true := by decide +kernel
theorem e_254 : (k_X11_scan.all fun row => row.all (chkE 254)) = true := by decide +kernel
theorem e_255 : (k_X11_mended.all fun row => row.all (chkE 255)) = true := by decide +kernel
theorem e_256 : (k_X11_machine.all fun row => row.all (chkE 256)) = true := by decide +kernel
theorem e_257 : (k_X11_round.all fun row => row.all (chkE 257)) = true := by decide +kernel
theorem e_258 : (k_X11_assign.all fun row => row.all (chkE 258)) = true := by decide +kernel
theorem e_259 : (k_X11_arrange.all fun row => row.all (chkE 259)) = true := by decide +kernel
theorem e_260 : (k_X11_stop.all fun row => row.all (chkE 260)) = true := by decide +kernel
theorem e_261 : (k_X11_sort.all fun row => row.all (chkE 261)) = true := by decide +kernel
theorem e_262 : (k_X11_passes.all fun row => row.all (chkE 262)) = true := by decide +kernel
theorem e_263 : (k_X11_wrong.all fun row => row.all (chkE 263)) = true := by decide +kernel
theorem e_264 : (k_X11_row.all fun row => row.all (chkE 264)) = true := by decide +kernel
theorem e_265 : (k_X11_out.all fun row => row.all (chkE 265)) = true := by decide +kernel
theorem e_266 : (k_X11_leg.all fun row => row.all (chkE 266)) = true := by decide +kernel
theorem e_267 : (k_X11_late.all fun row => row.all (chkE 267)) = true := by decide +kernel
theorem e_268 : (k_X11_bag.all fun row => row.all (chkE 268)) = true := by decide +kernel
theorem e_269 : (k_X11_into.all fun row => row.all (chkE 269)) = true := by decide +kernel
theorem e_270 : (k_X11_closeBag.all fun row => row.all (chkE 270)) = true := by decide +kernel
theorem e_271 : (k_X11_openBag.all fun row => row.all (chkE 271)) = true := by decide +kernel
theorem e_272 : (k_X11_bagAt.all fun row => row.all (chkE 272)) = true := by decide +kernel
theorem e_273 : (k_X11_way.all fun row => row.all (chkE 273)) = true := by decide +kernel
theorem e_274 : (k_X11_hand.all fun row => row.all (chkE 274)) = true := by decide +kernel
theorem e_275 : (k_X11_miss.all fun row => row.all (chkE 275)) = true := by decide +kernel
theorem e_276 : (k_X11_refuse.all fun row => row.all (chkE 276)) = true := by decide +kernel
theorem e_277 : (k_X11_put.all fun row => row.all (chkE 277)) = true := by decide +kernel
theorem e_278 : (k_X11_pickUp.all fun row => row.all (chkE 278)) = true := by decide +kernel
theorem e_279 : (k_X11_openBox.all fun row => row.all (chkE 279)) = true := by decide +kernel
theorem e_280 : (k_X11_lose.all fun row => row.all (chkE 280)) = true := by decide +kernel
theorem e_281 : (k_X11_account.all fun row => row.all (chkE 281)) = true := by decide +kernel
theorem e_282 : (k_X11_deposit.all fun row => row.all (chkE 282)) = true := by decide +kernel
theorem e_283 : (k_X11_balance.all fun row => row.all (chkE 283)) = true := by decide +kernel
theorem e_284 : (k_X11_entry.all fun row => row.all (chkE 284)) = true := by decide +kernel
theorem e_285 : (k_X11_tariff.all fun row => row.all (chkE 285)) = true := by decide +kernel
theorem e_286 : (k_X11_price.all fun row => row.all (chkE 286)) = true := by decide +kernel
theorem e_287 : (k_X11_frank.all fun row => row.all (chkE 287)) = true := by decide +kernel
theorem e_288 : (k_X11_order.all fun row => row.all (chkE 288)) = true := by decide +kernel
theorem e_289 : (k_X11_payOut.all fun row => row.all (chkE 289)) = true := by decide +kernel
theorem e_290 : (k_X11_orderAt.all fun row => row.all (chkE 290)) = true := by decide +kernel
theorem e_291 : (k_X11_claim.all fun row => row.all (chkE 291)) = true := by decide +kernel
theorem e_292 : (k_X11_locker.all fun row => row.all (chkE 292)) = true := by decide +kernel
theorem e_293 : (k_X11_lockerAt.all fun row => row.all (chkE 293)) = true := by decide +kernel
theorem e_294 : (k_X11_device.all fun row => row.all (chkE 294)) = true := by decide +kernel
theorem e_295 : (k_X11_scanned.all fun row => row.all (chkE 295)) = true := by decide +kernel
theorem e_296 : (k_X11_trace.all fun row => row.all (chkE 296)) = true := by decide +kernel
theorem e_297 : (k_X11_wish.all fun row => row.all (chkE 297)) = true := by decide +kernel
theorem e_298 : (k_X11_notice.all fun row => row.all (chkE 298)) = true := by decide +kernel
theorem e_299 : (k_X11_tick.all fun row => row.all (chkE 299)) = true := by decide +kernel
theorem e_300 : (k_X11_now.all fun row => row.all (chkE 300)) = true := by decide +kernel
theorem e_301 : (k_X11_audit.all fun row => row.all (chkE 301)) = true := by decide +kernel
theorem e_302_0 : (((k_X11_act.drop 0).take 12).all fun row => row.all (chkE 302)) = true := by decide +kernel
theorem e_302_1 : (((k_X11_act.drop 12).take 12).all fun row => row.all (chkE 302)) = true := by decide +kernel
theorem e_302_2 : (((k_X11_act.drop 24).take 12).all fun row => row.all (chkE 302)) = true := by decide +kernel
theorem e_302_3 : (((k_X11_act.drop 36).take 12).all fun row => row.all (chkE 302)) = true := by decide +kernel
theorem e_302 : (k_X11_act.all fun row => row.all (chkE 302)) = true := by
  have h : k_X11_act = (k_X11_act.drop 0).take 12 ++ ((k_X11_act.drop 12).take 12 ++ ((k_X11_act.drop 24).take 12 ++ ((k_X11_act.drop 36).take 12))) := by rfl
  rw [h]
  simp only [List.all_append, e_302_0, e_302_1, e_302_2, e_302_3, Bool.and_true]
theorem e_303 : (k_X11_clearHouse.all fun row => row.all (chkE 303)) = true := by decide +kernel
theorem e_304 : (k_X11_scanItem.all fun row => row.all (chkE 304)) = true := by decide +kernel
theorem e_305 : (k_X11_loseItem.all fun row => row.all (chkE 305)) = true := by decide +kernel
theorem e_306 : (k_X11_goOn.all fun row => row.all (chkE 306)) = true := by decide +kernel
theorem e_307 : (k_X11_beginDay.all fun row => row.all (chkE 307)) = true := by decide +kernel
theorem e_308 : (k_X11_outside.all fun row => row.all (chkE 308)) = true := by decide +kernel
theorem e_309 : (k_X11_without.all fun row => row.all (chkE 309)) = true := by decide +kernel
theorem e_310 : (k_X12_thrown.all fun row => row.all (chkE 310)) = true := by decide +kernel
theorem e_311 : (k_X12_in.all fun row => row.all (chkE 311)) = true := by decide +kernel
theorem e_312_0 : (((k_X12_init.drop 0).take 12).all fun row => row.all (chkE 312)) = true := by decide +kernel
theorem e_312_1 : (((k_X12_init.drop 12).take 12).all fun row => row.all (chkE 312)) = true := by decide +kernel
theorem e_312_2 : (((k_X12_init.drop 24).take 12).all fun row => row.all (chkE 312)) = true := by decide +kernel
theorem e_312_3 : (((k_X12_init.drop 36).take 12).all fun row => row.all (chkE 312)) = true := by decide +kernel
theorem e_312_4 : (((k_X12_init.drop 48).take 12).all fun row => row.all (chkE 312)) = true := by decide +kernel
theorem e_312_5 : (((k_X12_init.drop 60).take 12).all fun row => row.all (chkE 312)) = true := by decide +kernel
theorem e_312_6 : (((k_X12_init.drop 72).take 12).all fun row => row.all (chkE 312)) = true := by decide +kernel
theorem e_312_7 : (((k_X12_init.drop 84).take 12).all fun row => row.all (chkE 312)) = true := by decide +kernel
theorem e_312 : (k_X12_init.all fun row => row.all (chkE 312)) = true := by
  have h : k_X12_init = (k_X12_init.drop 0).take 12 ++ ((k_X12_init.drop 12).take 12 ++ ((k_X12_init.drop 24).take 12 ++ ((k_X12_init.drop 36).take 12 ++ ((k_X12_init.drop 48).take 12 ++ ((k_X12_init.drop 60).take 12 ++ ((k_X12_init.drop 72).take 12 ++ ((k_X12_init.drop 84).take 12))))))) := by rfl
  rw [h]
  simp only [List.all_append, e_312_0, e_312_1, e_312_2, e_312_3, e_312_4, e_312_5, e_312_6, e_312_7, Bool.and_true]
theorem e_313 : (k_X12_argumentsOf.all fun row => row.all (chkE 313)) = true := by decide +kernel
theorem e_314 : (k_X12_reads.all fun row => row.all (chkE 314)) = true := by decide +kernel
theorem e_315 : (k_X12_no.all fun row => row.all (chkE 315)) = true := by decide +kernel
theorem e_316 : (k_X12_full.all fun row => row.all (chkE 316)) = true := by decide +kernel
theorem e_317 : (k_X12_note.all fun row => row.all (chkE 317)) = true := by decide +kernel
theorem e_318 : (k_X12_call.all fun row => row.all (chkE 318)) = true := by decide +kernel
theorem e_319 : (k_X12_call1.all fun row => row.all (chkE 319)) = true := by decide +kernel
