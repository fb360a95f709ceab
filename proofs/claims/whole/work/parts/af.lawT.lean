/-! THE LAW: its code, the table -/
def kL_law : Cd := [kL_law_0, kL_law_1, kL_law_2, kL_law_3, kL_law_4, kL_law_5, kL_law_6, kL_law_7, kL_law_8, kL_law_9, kL_law_10, kL_law_11, kL_law_12, kL_law_13, kL_law_14, kL_law_15, kL_law_16, kL_law_17, kL_law_18, kL_law_19, kL_law_20, kL_law_21, kL_law_22, kL_law_23, kL_law_24, kL_law_25, kL_law_26, kL_law_27, kL_law_28, kL_law_29, kL_law_30, kL_law_31, kL_law_32, kL_law_33, kL_law_34, kL_law_35, kL_law_36, kL_law_37, kL_law_38, kL_law_39, kL_law_40, kL_law_41, kL_law_42, kL_law_43, kL_law_44, kL_law_45, kL_law_46, kL_law_47, kL_law_48, kL_law_49, kL_law_50, kL_law_51, kL_law_52, kL_law_53, kL_law_54, kL_law_55, kL_law_56, kL_law_57, kL_law_58, kL_law_59, kL_law_60, kL_law_61, kL_law_62, kL_law_63, kL_law_64, kL_law_65, kL_law_66, kL_law_67, kL_law_68, kL_law_69, kL_law_70, kL_law_71, kL_law_72, kL_law_73, kL_law_74, kL_law_75, kL_law_76, kL_law_77, kL_law_78, kL_law_79, kL_law_80, kL_law_81, kL_law_82, kL_law_83, kL_law_84, kL_law_85, kL_law_86, kL_law_87, kL_law_88, kL_law_89, kL_law_90, kL_law_91, kL_law_92, kL_law_93, kL_law_94, kL_law_95, kL_law_96, kL_law_97, kL_law_98, kL_law_99, kL_law_100, kL_law_101, kL_law_102, kL_law_103, kL_law_104, kL_law_105, kL_law_106, kL_law_107]
theorem zL_law : SndC mL_law 0 kL_law := SndC.c zL_law_0 (by decide) (SndC.c zL_law_1 (by decide) (SndC.c zL_law_2 (by decide) (SndC.c zL_law_3 (by decide) (SndC.c zL_law_4 (by decide) (SndC.c zL_law_5 (by decide) (SndC.c zL_law_6 (by decide) (SndC.c zL_law_7 (by decide) (SndC.c zL_law_8 (by decide) (SndC.c zL_law_9 (by decide) (SndC.c zL_law_10 (by decide) (SndC.c zL_law_11 (by decide) (SndC.c zL_law_12 (by decide) (SndC.c zL_law_13 (by decide) (SndC.c zL_law_14 (by decide) (SndC.c zL_law_15 (by decide) (SndC.c zL_law_16 (by decide) (SndC.c zL_law_17 (by decide) (SndC.c zL_law_18 (by decide) (SndC.c zL_law_19 (by decide) (SndC.c zL_law_20 (by decide) (SndC.c zL_law_21 (by decide) (SndC.c zL_law_22 (by decide) (SndC.c zL_law_23 (by decide) (SndC.c zL_law_24 (by decide) (SndC.c zL_law_25 (by decide) (SndC.c zL_law_26 (by decide) (SndC.c zL_law_27 (by decide) (SndC.c zL_law_28 (by decide) (SndC.c zL_law_29 (by decide) (SndC.c zL_law_30 (by decide) (SndC.c zL_law_31 (by decide) (SndC.c zL_law_32 (by decide) (SndC.c zL_law_33 (by decide) (SndC.c zL_law_34 (by decide) (SndC.c zL_law_35 (by decide) (SndC.c zL_law_36 (by decide) (SndC.c zL_law_37 (by decide) (SndC.c zL_law_38 (by decide) (SndC.c zL_law_39 (by decide) (SndC.c zL_law_40 (by decide) (SndC.c zL_law_41 (by decide) (SndC.c zL_law_42 (by decide) (SndC.c zL_law_43 (by decide) (SndC.c zL_law_44 (by decide) (SndC.c zL_law_45 (by decide) (SndC.c zL_law_46 (by decide) (SndC.c zL_law_47 (by decide) (SndC.c zL_law_48 (by decide) (SndC.c zL_law_49 (by decide) (SndC.c zL_law_50 (by decide) (SndC.c zL_law_51 (by decide) (SndC.c zL_law_52 (by decide) (SndC.c zL_law_53 (by decide) (SndC.c zL_law_54 (by decide) (SndC.c zL_law_55 (by decide) (SndC.c zL_law_56 (by decide) (SndC.c zL_law_57 (by decide) (SndC.c zL_law_58 (by decide) (SndC.c zL_law_59 (by decide) (SndC.c zL_law_60 (by decide) (SndC.c zL_law_61 (by decide) (SndC.c zL_law_62 (by decide) (SndC.c zL_law_63 (by decide) (SndC.c zL_law_64 (by decide) (SndC.c zL_law_65 (by decide) (SndC.c zL_law_66 (by decide) (SndC.c zL_law_67 (by decide) (SndC.c zL_law_68 (by decide) (SndC.c zL_law_69 (by decide) (SndC.c zL_law_70 (by decide) (SndC.c zL_law_71 (by decide) (SndC.c zL_law_72 (by decide) (SndC.c zL_law_73 (by decide) (SndC.c zL_law_74 (by decide) (SndC.c zL_law_75 (by decide) (SndC.c zL_law_76 (by decide) (SndC.c zL_law_77 (by decide) (SndC.c zL_law_78 (by decide) (SndC.c zL_law_79 (by decide) (SndC.c zL_law_80 (by decide) (SndC.c zL_law_81 (by decide) (SndC.c zL_law_82 (by decide) (SndC.c zL_law_83 (by decide) (SndC.c zL_law_84 (by decide) (SndC.c zL_law_85 (by decide) (SndC.c zL_law_86 (by decide) (SndC.c zL_law_87 (by decide) (SndC.c zL_law_88 (by decide) (SndC.c zL_law_89 (by decide) (SndC.c zL_law_90 (by decide) (SndC.c zL_law_91 (by decide) (SndC.c zL_law_92 (by decide) (SndC.c zL_law_93 (by decide) (SndC.c zL_law_94 (by decide) (SndC.c zL_law_95 (by decide) (SndC.c zL_law_96 (by decide) (SndC.c zL_law_97 (by decide) (SndC.c zL_law_98 (by decide) (SndC.c zL_law_99 (by decide) (SndC.c zL_law_100 (by decide) (SndC.c zL_law_101 (by decide) (SndC.c zL_law_102 (by decide) (SndC.c zL_law_103 (by decide) (SndC.c zL_law_104 (by decide) (SndC.c zL_law_105 (by decide) (SndC.c zL_law_106 (by decide) (SndC.c zL_law_107 (by decide) (SndC.n))))))))))))))))))))))))))))))))))))))))))))))))))))))))))))))))))))))))))))))))))))))))))))))))))))))))))))
theorem aL_law_0 : at_ kL_law 0 = (0, oNew 13 14 3) := rfl
theorem aL_law_3 : at_ kL_law 3 = (0, oDup 4) := rfl
theorem aL_law_4 : at_ kL_law 4 = (2, oInvI mX11_init 0 7) := rfl
theorem aL_law_7 : at_ kL_law 7 = (0, oRstore 1 8) := rfl
theorem aL_law_8 : at_ kL_law 8 = (0, oNew 14 90 11) := rfl
theorem aL_law_11 : at_ kL_law 11 = (0, oDup 12) := rfl
theorem aL_law_12 : at_ kL_law 12 = (2, oInvI mX12_init 0 15) := rfl
theorem aL_law_15 : at_ kL_law 15 = (0, oRstore 2 16) := rfl
theorem aL_law_16 : at_ kL_law 16 = (0, oPush (vI 0) 17) := rfl
theorem aL_law_17 : at_ kL_law 17 = (0, oIstore 3 18) := rfl
theorem aL_law_18 : at_ kL_law 18 = (1, oIload 3 19) := rfl
theorem aL_law_19 : at_ kL_law 19 = (0, oRload 0 20) := rfl
theorem aL_law_20 : at_ kL_law 20 = (0, oAlenX 21) := rfl
theorem aL_law_21 : at_ kL_law 21 = (0, oPush (vI 6) 23) := rfl
theorem aL_law_23 : at_ kL_law 23 = (0, oIsub 24) := rfl
theorem aL_law_24 : at_ kL_law 24 = (0, oIcGt 1724 27) := rfl
theorem aL_law_27 : at_ kL_law 27 = (0, oRload 0 28) := rfl
theorem aL_law_28 : at_ kL_law 28 = (0, oIload 3 29) := rfl
theorem aL_law_29 : at_ kL_law 29 = (0, oIaldX 30) := rfl
theorem aL_law_30 : at_ kL_law 30 = (0, oPush (vI 63) 32) := rfl
theorem aL_law_32 : at_ kL_law 32 = (0, oIand 33) := rfl
theorem aL_law_33 : at_ kL_law 33 = (0, oSwitch 0 39 [208, 231, 274, 347, 410, 444, 467, 500, 543, 586, 629, 662, 715, 738, 781, 824, 867, 910, 964, 997, 1030, 1043, 1066, 1119, 1142, 1195, 1228, 1261, 1304, 1347, 1380, 1413, 1462, 1485, 1508, 1521, 1554, 1577, 1636, 1695] 1718) := rfl
theorem aL_law_208 : at_ kL_law 208 = (0, oRload 1 209) := rfl
theorem aL_law_209 : at_ kL_law 209 = (0, oRload 0 210) := rfl
theorem aL_law_210 : at_ kL_law 210 = (0, oIload 3 211) := rfl
theorem aL_law_211 : at_ kL_law 211 = (0, oPush (vI 1) 212) := rfl
theorem aL_law_212 : at_ kL_law 212 = (0, oIadd 213) := rfl
theorem aL_law_213 : at_ kL_law 213 = (0, oIaldX 214) := rfl
theorem aL_law_214 : at_ kL_law 214 = (2, oInvV 13 mX11_days 1 217) := rfl
theorem aL_law_217 : at_ kL_law 217 = (0, oRload 2 218) := rfl
theorem aL_law_218 : at_ kL_law 218 = (0, oRload 0 219) := rfl
theorem aL_law_219 : at_ kL_law 219 = (0, oIload 3 220) := rfl
theorem aL_law_220 : at_ kL_law 220 = (0, oPush (vI 1) 221) := rfl
theorem aL_law_221 : at_ kL_law 221 = (0, oIadd 222) := rfl
theorem aL_law_222 : at_ kL_law 222 = (0, oIaldX 223) := rfl
theorem aL_law_223 : at_ kL_law 223 = (2, oInvV 14 mX12_days 1 226) := rfl
theorem aL_law_226 : at_ kL_law 226 = (0, oIcEq 1718 229) := rfl
theorem aL_law_229 : at_ kL_law 229 = (0, oPush (vI 0) 230) := rfl
theorem aL_law_230 : at_ kL_law 230 = (0, oRetZ) := rfl
theorem aL_law_231 : at_ kL_law 231 = (0, oRload 1 232) := rfl
theorem aL_law_232 : at_ kL_law 232 = (0, oRload 0 233) := rfl
theorem aL_law_233 : at_ kL_law 233 = (0, oIload 3 234) := rfl
theorem aL_law_234 : at_ kL_law 234 = (0, oPush (vI 1) 235) := rfl
theorem aL_law_235 : at_ kL_law 235 = (0, oIadd 236) := rfl
theorem aL_law_236 : at_ kL_law 236 = (0, oIaldX 237) := rfl
theorem aL_law_237 : at_ kL_law 237 = (0, oRload 0 238) := rfl
theorem aL_law_238 : at_ kL_law 238 = (0, oIload 3 239) := rfl
theorem aL_law_239 : at_ kL_law 239 = (0, oPush (vI 2) 240) := rfl
theorem aL_law_240 : at_ kL_law 240 = (0, oIadd 241) := rfl
theorem aL_law_241 : at_ kL_law 241 = (0, oIaldX 242) := rfl
theorem aL_law_242 : at_ kL_law 242 = (0, oRload 0 243) := rfl
theorem aL_law_243 : at_ kL_law 243 = (0, oIload 3 244) := rfl
theorem aL_law_244 : at_ kL_law 244 = (0, oPush (vI 3) 245) := rfl
theorem aL_law_245 : at_ kL_law 245 = (0, oIadd 246) := rfl
theorem aL_law_246 : at_ kL_law 246 = (0, oIaldX 247) := rfl
theorem aL_law_247 : at_ kL_law 247 = (2, oInvV 13 mX11_row 3 250) := rfl
theorem aL_law_250 : at_ kL_law 250 = (0, oRload 2 251) := rfl
theorem aL_law_251 : at_ kL_law 251 = (0, oRload 0 252) := rfl
theorem aL_law_252 : at_ kL_law 252 = (0, oIload 3 253) := rfl
theorem aL_law_253 : at_ kL_law 253 = (0, oPush (vI 1) 254) := rfl
theorem aL_law_254 : at_ kL_law 254 = (0, oIadd 255) := rfl
theorem aL_law_255 : at_ kL_law 255 = (0, oIaldX 256) := rfl
theorem aL_law_256 : at_ kL_law 256 = (0, oRload 0 257) := rfl
theorem aL_law_257 : at_ kL_law 257 = (0, oIload 3 258) := rfl
theorem aL_law_258 : at_ kL_law 258 = (0, oPush (vI 2) 259) := rfl
theorem aL_law_259 : at_ kL_law 259 = (0, oIadd 260) := rfl
theorem aL_law_260 : at_ kL_law 260 = (0, oIaldX 261) := rfl
theorem aL_law_261 : at_ kL_law 261 = (0, oRload 0 262) := rfl
theorem aL_law_262 : at_ kL_law 262 = (0, oIload 3 263) := rfl
theorem aL_law_263 : at_ kL_law 263 = (0, oPush (vI 3) 264) := rfl
theorem aL_law_264 : at_ kL_law 264 = (0, oIadd 265) := rfl
theorem aL_law_265 : at_ kL_law 265 = (0, oIaldX 266) := rfl
theorem aL_law_266 : at_ kL_law 266 = (2, oInvV 14 mX12_row 3 269) := rfl
theorem aL_law_269 : at_ kL_law 269 = (0, oIcEq 1718 272) := rfl
theorem aL_law_272 : at_ kL_law 272 = (0, oPush (vI 0) 273) := rfl
theorem aL_law_273 : at_ kL_law 273 = (0, oRetZ) := rfl
theorem aL_law_274 : at_ kL_law 274 = (0, oRload 1 275) := rfl
theorem aL_law_275 : at_ kL_law 275 = (0, oRload 0 276) := rfl
theorem aL_law_276 : at_ kL_law 276 = (0, oIload 3 277) := rfl
theorem aL_law_277 : at_ kL_law 277 = (0, oPush (vI 1) 278) := rfl
theorem aL_law_278 : at_ kL_law 278 = (0, oIadd 279) := rfl
theorem aL_law_279 : at_ kL_law 279 = (0, oIaldX 280) := rfl
theorem aL_law_280 : at_ kL_law 280 = (0, oRload 0 281) := rfl
theorem aL_law_281 : at_ kL_law 281 = (0, oIload 3 282) := rfl
theorem aL_law_282 : at_ kL_law 282 = (0, oPush (vI 2) 283) := rfl
theorem aL_law_283 : at_ kL_law 283 = (0, oIadd 284) := rfl
theorem aL_law_284 : at_ kL_law 284 = (0, oIaldX 285) := rfl
theorem aL_law_285 : at_ kL_law 285 = (0, oRload 0 286) := rfl
theorem aL_law_286 : at_ kL_law 286 = (0, oIload 3 287) := rfl
theorem aL_law_287 : at_ kL_law 287 = (0, oPush (vI 3) 288) := rfl
theorem aL_law_288 : at_ kL_law 288 = (0, oIadd 289) := rfl
theorem aL_law_289 : at_ kL_law 289 = (0, oIaldX 290) := rfl
theorem aL_law_290 : at_ kL_law 290 = (0, oI2l 291) := rfl
theorem aL_law_291 : at_ kL_law 291 = (0, oPush (vI 32) 293) := rfl
theorem aL_law_293 : at_ kL_law 293 = (0, oLshl 294) := rfl
theorem aL_law_294 : at_ kL_law 294 = (0, oRload 0 295) := rfl
theorem aL_law_295 : at_ kL_law 295 = (0, oIload 3 296) := rfl
theorem aL_law_296 : at_ kL_law 296 = (0, oPush (vI 4) 297) := rfl
theorem aL_law_297 : at_ kL_law 297 = (0, oIadd 298) := rfl
theorem aL_law_298 : at_ kL_law 298 = (0, oIaldX 299) := rfl
theorem aL_law_299 : at_ kL_law 299 = (0, oI2l 300) := rfl
theorem aL_law_300 : at_ kL_law 300 = (0, oPush (vL 4294967295) 303) := rfl
theorem aL_law_303 : at_ kL_law 303 = (0, oLand 304) := rfl
theorem aL_law_304 : at_ kL_law 304 = (0, oLor 305) := rfl
theorem aL_law_305 : at_ kL_law 305 = (2, oInvV 13 mX11_set 3 308) := rfl
theorem aL_law_308 : at_ kL_law 308 = (0, oRload 2 309) := rfl
theorem aL_law_309 : at_ kL_law 309 = (0, oRload 0 310) := rfl
theorem aL_law_310 : at_ kL_law 310 = (0, oIload 3 311) := rfl
theorem aL_law_311 : at_ kL_law 311 = (0, oPush (vI 1) 312) := rfl
theorem aL_law_312 : at_ kL_law 312 = (0, oIadd 313) := rfl
theorem aL_law_313 : at_ kL_law 313 = (0, oIaldX 314) := rfl
theorem aL_law_314 : at_ kL_law 314 = (0, oRload 0 315) := rfl
theorem aL_law_315 : at_ kL_law 315 = (0, oIload 3 316) := rfl
theorem aL_law_316 : at_ kL_law 316 = (0, oPush (vI 2) 317) := rfl
theorem aL_law_317 : at_ kL_law 317 = (0, oIadd 318) := rfl
theorem aL_law_318 : at_ kL_law 318 = (0, oIaldX 319) := rfl
theorem aL_law_319 : at_ kL_law 319 = (0, oRload 0 320) := rfl
theorem aL_law_320 : at_ kL_law 320 = (0, oIload 3 321) := rfl
theorem aL_law_321 : at_ kL_law 321 = (0, oPush (vI 3) 322) := rfl
theorem aL_law_322 : at_ kL_law 322 = (0, oIadd 323) := rfl
theorem aL_law_323 : at_ kL_law 323 = (0, oIaldX 324) := rfl
theorem aL_law_324 : at_ kL_law 324 = (0, oI2l 325) := rfl
theorem aL_law_325 : at_ kL_law 325 = (0, oPush (vI 32) 327) := rfl
theorem aL_law_327 : at_ kL_law 327 = (0, oLshl 328) := rfl
theorem aL_law_328 : at_ kL_law 328 = (0, oRload 0 329) := rfl
theorem aL_law_329 : at_ kL_law 329 = (0, oIload 3 330) := rfl
theorem aL_law_330 : at_ kL_law 330 = (0, oPush (vI 4) 331) := rfl
theorem aL_law_331 : at_ kL_law 331 = (0, oIadd 332) := rfl
theorem aL_law_332 : at_ kL_law 332 = (0, oIaldX 333) := rfl
theorem aL_law_333 : at_ kL_law 333 = (0, oI2l 334) := rfl
theorem aL_law_334 : at_ kL_law 334 = (0, oPush (vL 4294967295) 337) := rfl
theorem aL_law_337 : at_ kL_law 337 = (0, oLand 338) := rfl
theorem aL_law_338 : at_ kL_law 338 = (0, oLor 339) := rfl
theorem aL_law_339 : at_ kL_law 339 = (2, oInvV 14 mX12_set 3 342) := rfl
theorem aL_law_342 : at_ kL_law 342 = (0, oIcEq 1718 345) := rfl
theorem aL_law_345 : at_ kL_law 345 = (0, oPush (vI 0) 346) := rfl
theorem aL_law_346 : at_ kL_law 346 = (0, oRetZ) := rfl
theorem aL_law_347 : at_ kL_law 347 = (0, oRload 1 348) := rfl
theorem aL_law_348 : at_ kL_law 348 = (0, oRload 0 349) := rfl
theorem aL_law_349 : at_ kL_law 349 = (0, oIload 3 350) := rfl
theorem aL_law_350 : at_ kL_law 350 = (0, oPush (vI 1) 351) := rfl
theorem aL_law_351 : at_ kL_law 351 = (0, oIadd 352) := rfl
theorem aL_law_352 : at_ kL_law 352 = (0, oIaldX 353) := rfl
theorem aL_law_353 : at_ kL_law 353 = (0, oRload 0 354) := rfl
theorem aL_law_354 : at_ kL_law 354 = (0, oIload 3 355) := rfl
theorem aL_law_355 : at_ kL_law 355 = (0, oPush (vI 2) 356) := rfl
theorem aL_law_356 : at_ kL_law 356 = (0, oIadd 357) := rfl
theorem aL_law_357 : at_ kL_law 357 = (0, oIaldX 358) := rfl
theorem aL_law_358 : at_ kL_law 358 = (0, oRload 0 359) := rfl
theorem aL_law_359 : at_ kL_law 359 = (0, oIload 3 360) := rfl
theorem aL_law_360 : at_ kL_law 360 = (0, oPush (vI 3) 361) := rfl
theorem aL_law_361 : at_ kL_law 361 = (0, oIadd 362) := rfl
theorem aL_law_362 : at_ kL_law 362 = (0, oIaldX 363) := rfl
theorem aL_law_363 : at_ kL_law 363 = (0, oRload 0 364) := rfl
theorem aL_law_364 : at_ kL_law 364 = (0, oIload 3 365) := rfl
theorem aL_law_365 : at_ kL_law 365 = (0, oPush (vI 4) 366) := rfl
theorem aL_law_366 : at_ kL_law 366 = (0, oIadd 367) := rfl
theorem aL_law_367 : at_ kL_law 367 = (0, oIaldX 368) := rfl
theorem aL_law_368 : at_ kL_law 368 = (0, oRload 0 369) := rfl
theorem aL_law_369 : at_ kL_law 369 = (0, oIload 3 370) := rfl
theorem aL_law_370 : at_ kL_law 370 = (0, oPush (vI 5) 371) := rfl
theorem aL_law_371 : at_ kL_law 371 = (0, oIadd 372) := rfl
theorem aL_law_372 : at_ kL_law 372 = (0, oIaldX 373) := rfl
theorem aL_law_373 : at_ kL_law 373 = (2, oInvV 13 mX11_copy 5 376) := rfl
theorem aL_law_376 : at_ kL_law 376 = (0, oRload 2 377) := rfl
theorem aL_law_377 : at_ kL_law 377 = (0, oRload 0 378) := rfl
theorem aL_law_378 : at_ kL_law 378 = (0, oIload 3 379) := rfl
theorem aL_law_379 : at_ kL_law 379 = (0, oPush (vI 1) 380) := rfl
theorem aL_law_380 : at_ kL_law 380 = (0, oIadd 381) := rfl
theorem aL_law_381 : at_ kL_law 381 = (0, oIaldX 382) := rfl
theorem aL_law_382 : at_ kL_law 382 = (0, oRload 0 383) := rfl
theorem aL_law_383 : at_ kL_law 383 = (0, oIload 3 384) := rfl
theorem aL_law_384 : at_ kL_law 384 = (0, oPush (vI 2) 385) := rfl
theorem aL_law_385 : at_ kL_law 385 = (0, oIadd 386) := rfl
theorem aL_law_386 : at_ kL_law 386 = (0, oIaldX 387) := rfl
theorem aL_law_387 : at_ kL_law 387 = (0, oRload 0 388) := rfl
theorem aL_law_388 : at_ kL_law 388 = (0, oIload 3 389) := rfl
theorem aL_law_389 : at_ kL_law 389 = (0, oPush (vI 3) 390) := rfl
theorem aL_law_390 : at_ kL_law 390 = (0, oIadd 391) := rfl
theorem aL_law_391 : at_ kL_law 391 = (0, oIaldX 392) := rfl
theorem aL_law_392 : at_ kL_law 392 = (0, oRload 0 393) := rfl
theorem aL_law_393 : at_ kL_law 393 = (0, oIload 3 394) := rfl
theorem aL_law_394 : at_ kL_law 394 = (0, oPush (vI 4) 395) := rfl
theorem aL_law_395 : at_ kL_law 395 = (0, oIadd 396) := rfl
theorem aL_law_396 : at_ kL_law 396 = (0, oIaldX 397) := rfl
theorem aL_law_397 : at_ kL_law 397 = (0, oRload 0 398) := rfl
theorem aL_law_398 : at_ kL_law 398 = (0, oIload 3 399) := rfl
theorem aL_law_399 : at_ kL_law 399 = (0, oPush (vI 5) 400) := rfl
theorem aL_law_400 : at_ kL_law 400 = (0, oIadd 401) := rfl
theorem aL_law_401 : at_ kL_law 401 = (0, oIaldX 402) := rfl
theorem aL_law_402 : at_ kL_law 402 = (2, oInvV 14 mX12_copy 5 405) := rfl
theorem aL_law_405 : at_ kL_law 405 = (0, oIcEq 1718 408) := rfl
theorem aL_law_408 : at_ kL_law 408 = (0, oPush (vI 0) 409) := rfl
theorem aL_law_409 : at_ kL_law 409 = (0, oRetZ) := rfl
theorem aL_law_410 : at_ kL_law 410 = (0, oRload 1 411) := rfl
theorem aL_law_411 : at_ kL_law 411 = (0, oRload 0 412) := rfl
theorem aL_law_412 : at_ kL_law 412 = (0, oIload 3 413) := rfl
theorem aL_law_413 : at_ kL_law 413 = (0, oPush (vI 1) 414) := rfl
theorem aL_law_414 : at_ kL_law 414 = (0, oIadd 415) := rfl
theorem aL_law_415 : at_ kL_law 415 = (0, oIaldX 416) := rfl
theorem aL_law_416 : at_ kL_law 416 = (0, oRload 0 417) := rfl
theorem aL_law_417 : at_ kL_law 417 = (0, oIload 3 418) := rfl
theorem aL_law_418 : at_ kL_law 418 = (0, oPush (vI 2) 419) := rfl
theorem aL_law_419 : at_ kL_law 419 = (0, oIadd 420) := rfl
theorem aL_law_420 : at_ kL_law 420 = (0, oIaldX 421) := rfl
theorem aL_law_421 : at_ kL_law 421 = (2, oInvV 13 mX11_element 2 424) := rfl
theorem aL_law_424 : at_ kL_law 424 = (0, oRload 2 425) := rfl
theorem aL_law_425 : at_ kL_law 425 = (0, oRload 0 426) := rfl
theorem aL_law_426 : at_ kL_law 426 = (0, oIload 3 427) := rfl
theorem aL_law_427 : at_ kL_law 427 = (0, oPush (vI 1) 428) := rfl
theorem aL_law_428 : at_ kL_law 428 = (0, oIadd 429) := rfl
theorem aL_law_429 : at_ kL_law 429 = (0, oIaldX 430) := rfl
theorem aL_law_430 : at_ kL_law 430 = (0, oRload 0 431) := rfl
theorem aL_law_431 : at_ kL_law 431 = (0, oIload 3 432) := rfl
theorem aL_law_432 : at_ kL_law 432 = (0, oPush (vI 2) 433) := rfl
theorem aL_law_433 : at_ kL_law 433 = (0, oIadd 434) := rfl
theorem aL_law_434 : at_ kL_law 434 = (0, oIaldX 435) := rfl
theorem aL_law_435 : at_ kL_law 435 = (2, oInvV 14 mX12_element 2 438) := rfl
theorem aL_law_438 : at_ kL_law 438 = (0, oLcmp 439) := rfl
theorem aL_law_439 : at_ kL_law 439 = (0, oIfEq 1718 442) := rfl
theorem aL_law_442 : at_ kL_law 442 = (0, oPush (vI 0) 443) := rfl
theorem aL_law_443 : at_ kL_law 443 = (0, oRetZ) := rfl
theorem aL_law_444 : at_ kL_law 444 = (0, oRload 1 445) := rfl
theorem aL_law_445 : at_ kL_law 445 = (0, oRload 0 446) := rfl
theorem aL_law_446 : at_ kL_law 446 = (0, oIload 3 447) := rfl
theorem aL_law_447 : at_ kL_law 447 = (0, oPush (vI 1) 448) := rfl
theorem aL_law_448 : at_ kL_law 448 = (0, oIadd 449) := rfl
theorem aL_law_449 : at_ kL_law 449 = (0, oIaldX 450) := rfl
theorem aL_law_450 : at_ kL_law 450 = (2, oInvV 13 mX11_holds 1 453) := rfl
theorem aL_law_453 : at_ kL_law 453 = (0, oRload 2 454) := rfl
theorem aL_law_454 : at_ kL_law 454 = (0, oRload 0 455) := rfl
theorem aL_law_455 : at_ kL_law 455 = (0, oIload 3 456) := rfl
theorem aL_law_456 : at_ kL_law 456 = (0, oPush (vI 1) 457) := rfl
theorem aL_law_457 : at_ kL_law 457 = (0, oIadd 458) := rfl
theorem aL_law_458 : at_ kL_law 458 = (0, oIaldX 459) := rfl
theorem aL_law_459 : at_ kL_law 459 = (2, oInvV 14 mX12_holds 1 462) := rfl
theorem aL_law_462 : at_ kL_law 462 = (0, oIcEq 1718 465) := rfl
theorem aL_law_465 : at_ kL_law 465 = (0, oPush (vI 0) 466) := rfl
theorem aL_law_466 : at_ kL_law 466 = (0, oRetZ) := rfl
theorem aL_law_467 : at_ kL_law 467 = (0, oRload 1 468) := rfl
theorem aL_law_468 : at_ kL_law 468 = (0, oRload 0 469) := rfl
theorem aL_law_469 : at_ kL_law 469 = (0, oIload 3 470) := rfl
theorem aL_law_470 : at_ kL_law 470 = (0, oPush (vI 1) 471) := rfl
theorem aL_law_471 : at_ kL_law 471 = (0, oIadd 472) := rfl
theorem aL_law_472 : at_ kL_law 472 = (0, oIaldX 473) := rfl
theorem aL_law_473 : at_ kL_law 473 = (0, oRload 0 474) := rfl
theorem aL_law_474 : at_ kL_law 474 = (0, oIload 3 475) := rfl
theorem aL_law_475 : at_ kL_law 475 = (0, oPush (vI 2) 476) := rfl
theorem aL_law_476 : at_ kL_law 476 = (0, oIadd 477) := rfl
theorem aL_law_477 : at_ kL_law 477 = (0, oIaldX 478) := rfl
theorem aL_law_478 : at_ kL_law 478 = (2, oInvV 13 mX11_says 2 481) := rfl
theorem aL_law_481 : at_ kL_law 481 = (0, oRload 2 482) := rfl
theorem aL_law_482 : at_ kL_law 482 = (0, oRload 0 483) := rfl
theorem aL_law_483 : at_ kL_law 483 = (0, oIload 3 484) := rfl
theorem aL_law_484 : at_ kL_law 484 = (0, oPush (vI 1) 485) := rfl
theorem aL_law_485 : at_ kL_law 485 = (0, oIadd 486) := rfl
theorem aL_law_486 : at_ kL_law 486 = (0, oIaldX 487) := rfl
theorem aL_law_487 : at_ kL_law 487 = (0, oRload 0 488) := rfl
theorem aL_law_488 : at_ kL_law 488 = (0, oIload 3 489) := rfl
theorem aL_law_489 : at_ kL_law 489 = (0, oPush (vI 2) 490) := rfl
theorem aL_law_490 : at_ kL_law 490 = (0, oIadd 491) := rfl
theorem aL_law_491 : at_ kL_law 491 = (0, oIaldX 492) := rfl
theorem aL_law_492 : at_ kL_law 492 = (2, oInvV 14 mX12_says 2 495) := rfl
theorem aL_law_495 : at_ kL_law 495 = (0, oIcEq 1718 498) := rfl
theorem aL_law_498 : at_ kL_law 498 = (0, oPush (vI 0) 499) := rfl
theorem aL_law_499 : at_ kL_law 499 = (0, oRetZ) := rfl
theorem aL_law_500 : at_ kL_law 500 = (0, oRload 1 501) := rfl
theorem aL_law_501 : at_ kL_law 501 = (0, oRload 0 502) := rfl
theorem aL_law_502 : at_ kL_law 502 = (0, oIload 3 503) := rfl
theorem aL_law_503 : at_ kL_law 503 = (0, oPush (vI 1) 504) := rfl
theorem aL_law_504 : at_ kL_law 504 = (0, oIadd 505) := rfl
theorem aL_law_505 : at_ kL_law 505 = (0, oIaldX 506) := rfl
theorem aL_law_506 : at_ kL_law 506 = (0, oRload 0 507) := rfl
theorem aL_law_507 : at_ kL_law 507 = (0, oIload 3 508) := rfl
theorem aL_law_508 : at_ kL_law 508 = (0, oPush (vI 2) 509) := rfl
theorem aL_law_509 : at_ kL_law 509 = (0, oIadd 510) := rfl
theorem aL_law_510 : at_ kL_law 510 = (0, oIaldX 511) := rfl
theorem aL_law_511 : at_ kL_law 511 = (0, oRload 0 512) := rfl
theorem aL_law_512 : at_ kL_law 512 = (0, oIload 3 513) := rfl
theorem aL_law_513 : at_ kL_law 513 = (0, oPush (vI 3) 514) := rfl
theorem aL_law_514 : at_ kL_law 514 = (0, oIadd 515) := rfl
theorem aL_law_515 : at_ kL_law 515 = (0, oIaldX 516) := rfl
theorem aL_law_516 : at_ kL_law 516 = (2, oInvV 13 mX11_advert 3 519) := rfl
theorem aL_law_519 : at_ kL_law 519 = (0, oRload 2 520) := rfl
theorem aL_law_520 : at_ kL_law 520 = (0, oRload 0 521) := rfl
theorem aL_law_521 : at_ kL_law 521 = (0, oIload 3 522) := rfl
theorem aL_law_522 : at_ kL_law 522 = (0, oPush (vI 1) 523) := rfl
theorem aL_law_523 : at_ kL_law 523 = (0, oIadd 524) := rfl
theorem aL_law_524 : at_ kL_law 524 = (0, oIaldX 525) := rfl
theorem aL_law_525 : at_ kL_law 525 = (0, oRload 0 526) := rfl
theorem aL_law_526 : at_ kL_law 526 = (0, oIload 3 527) := rfl
theorem aL_law_527 : at_ kL_law 527 = (0, oPush (vI 2) 528) := rfl
theorem aL_law_528 : at_ kL_law 528 = (0, oIadd 529) := rfl
theorem aL_law_529 : at_ kL_law 529 = (0, oIaldX 530) := rfl
theorem aL_law_530 : at_ kL_law 530 = (0, oRload 0 531) := rfl
theorem aL_law_531 : at_ kL_law 531 = (0, oIload 3 532) := rfl
theorem aL_law_532 : at_ kL_law 532 = (0, oPush (vI 3) 533) := rfl
theorem aL_law_533 : at_ kL_law 533 = (0, oIadd 534) := rfl
theorem aL_law_534 : at_ kL_law 534 = (0, oIaldX 535) := rfl
theorem aL_law_535 : at_ kL_law 535 = (2, oInvV 14 mX12_advert 3 538) := rfl
theorem aL_law_538 : at_ kL_law 538 = (0, oIcEq 1718 541) := rfl
theorem aL_law_541 : at_ kL_law 541 = (0, oPush (vI 0) 542) := rfl
theorem aL_law_542 : at_ kL_law 542 = (0, oRetZ) := rfl
theorem aL_law_543 : at_ kL_law 543 = (0, oRload 1 544) := rfl
theorem aL_law_544 : at_ kL_law 544 = (0, oRload 0 545) := rfl
theorem aL_law_545 : at_ kL_law 545 = (0, oIload 3 546) := rfl
theorem aL_law_546 : at_ kL_law 546 = (0, oPush (vI 1) 547) := rfl
theorem aL_law_547 : at_ kL_law 547 = (0, oIadd 548) := rfl
theorem aL_law_548 : at_ kL_law 548 = (0, oIaldX 549) := rfl
theorem aL_law_549 : at_ kL_law 549 = (0, oRload 0 550) := rfl
theorem aL_law_550 : at_ kL_law 550 = (0, oIload 3 551) := rfl
theorem aL_law_551 : at_ kL_law 551 = (0, oPush (vI 2) 552) := rfl
theorem aL_law_552 : at_ kL_law 552 = (0, oIadd 553) := rfl
theorem aL_law_553 : at_ kL_law 553 = (0, oIaldX 554) := rfl
theorem aL_law_554 : at_ kL_law 554 = (0, oRload 0 555) := rfl
theorem aL_law_555 : at_ kL_law 555 = (0, oIload 3 556) := rfl
theorem aL_law_556 : at_ kL_law 556 = (0, oPush (vI 3) 557) := rfl
theorem aL_law_557 : at_ kL_law 557 = (0, oIadd 558) := rfl
theorem aL_law_558 : at_ kL_law 558 = (0, oIaldX 559) := rfl
theorem aL_law_559 : at_ kL_law 559 = (2, oInvV 13 mX11_print 3 562) := rfl
theorem aL_law_562 : at_ kL_law 562 = (0, oRload 2 563) := rfl
theorem aL_law_563 : at_ kL_law 563 = (0, oRload 0 564) := rfl
theorem aL_law_564 : at_ kL_law 564 = (0, oIload 3 565) := rfl
theorem aL_law_565 : at_ kL_law 565 = (0, oPush (vI 1) 566) := rfl
theorem aL_law_566 : at_ kL_law 566 = (0, oIadd 567) := rfl
theorem aL_law_567 : at_ kL_law 567 = (0, oIaldX 568) := rfl
theorem aL_law_568 : at_ kL_law 568 = (0, oRload 0 569) := rfl
theorem aL_law_569 : at_ kL_law 569 = (0, oIload 3 570) := rfl
theorem aL_law_570 : at_ kL_law 570 = (0, oPush (vI 2) 571) := rfl
theorem aL_law_571 : at_ kL_law 571 = (0, oIadd 572) := rfl
theorem aL_law_572 : at_ kL_law 572 = (0, oIaldX 573) := rfl
theorem aL_law_573 : at_ kL_law 573 = (0, oRload 0 574) := rfl
theorem aL_law_574 : at_ kL_law 574 = (0, oIload 3 575) := rfl
theorem aL_law_575 : at_ kL_law 575 = (0, oPush (vI 3) 576) := rfl
theorem aL_law_576 : at_ kL_law 576 = (0, oIadd 577) := rfl
theorem aL_law_577 : at_ kL_law 577 = (0, oIaldX 578) := rfl
theorem aL_law_578 : at_ kL_law 578 = (2, oInvV 14 mX12_print 3 581) := rfl
theorem aL_law_581 : at_ kL_law 581 = (0, oIcEq 1718 584) := rfl
theorem aL_law_584 : at_ kL_law 584 = (0, oPush (vI 0) 585) := rfl
theorem aL_law_585 : at_ kL_law 585 = (0, oRetZ) := rfl
theorem aL_law_586 : at_ kL_law 586 = (0, oRload 1 587) := rfl
theorem aL_law_587 : at_ kL_law 587 = (0, oRload 0 588) := rfl
theorem aL_law_588 : at_ kL_law 588 = (0, oIload 3 589) := rfl
theorem aL_law_589 : at_ kL_law 589 = (0, oPush (vI 1) 590) := rfl
theorem aL_law_590 : at_ kL_law 590 = (0, oIadd 591) := rfl
theorem aL_law_591 : at_ kL_law 591 = (0, oIaldX 592) := rfl
theorem aL_law_592 : at_ kL_law 592 = (0, oRload 0 593) := rfl
theorem aL_law_593 : at_ kL_law 593 = (0, oIload 3 594) := rfl
theorem aL_law_594 : at_ kL_law 594 = (0, oPush (vI 2) 595) := rfl
theorem aL_law_595 : at_ kL_law 595 = (0, oIadd 596) := rfl
theorem aL_law_596 : at_ kL_law 596 = (0, oIaldX 597) := rfl
theorem aL_law_597 : at_ kL_law 597 = (0, oRload 0 598) := rfl
theorem aL_law_598 : at_ kL_law 598 = (0, oIload 3 599) := rfl
theorem aL_law_599 : at_ kL_law 599 = (0, oPush (vI 3) 600) := rfl
theorem aL_law_600 : at_ kL_law 600 = (0, oIadd 601) := rfl
theorem aL_law_601 : at_ kL_law 601 = (0, oIaldX 602) := rfl
theorem aL_law_602 : at_ kL_law 602 = (2, oInvV 13 mX11_saw 3 605) := rfl
theorem aL_law_605 : at_ kL_law 605 = (0, oRload 2 606) := rfl
theorem aL_law_606 : at_ kL_law 606 = (0, oRload 0 607) := rfl
theorem aL_law_607 : at_ kL_law 607 = (0, oIload 3 608) := rfl
theorem aL_law_608 : at_ kL_law 608 = (0, oPush (vI 1) 609) := rfl
theorem aL_law_609 : at_ kL_law 609 = (0, oIadd 610) := rfl
theorem aL_law_610 : at_ kL_law 610 = (0, oIaldX 611) := rfl
theorem aL_law_611 : at_ kL_law 611 = (0, oRload 0 612) := rfl
theorem aL_law_612 : at_ kL_law 612 = (0, oIload 3 613) := rfl
theorem aL_law_613 : at_ kL_law 613 = (0, oPush (vI 2) 614) := rfl
theorem aL_law_614 : at_ kL_law 614 = (0, oIadd 615) := rfl
theorem aL_law_615 : at_ kL_law 615 = (0, oIaldX 616) := rfl
theorem aL_law_616 : at_ kL_law 616 = (0, oRload 0 617) := rfl
theorem aL_law_617 : at_ kL_law 617 = (0, oIload 3 618) := rfl
theorem aL_law_618 : at_ kL_law 618 = (0, oPush (vI 3) 619) := rfl
theorem aL_law_619 : at_ kL_law 619 = (0, oIadd 620) := rfl
theorem aL_law_620 : at_ kL_law 620 = (0, oIaldX 621) := rfl
theorem aL_law_621 : at_ kL_law 621 = (2, oInvV 14 mX12_saw 3 624) := rfl
theorem aL_law_624 : at_ kL_law 624 = (0, oIcEq 1718 627) := rfl
theorem aL_law_627 : at_ kL_law 627 = (0, oPush (vI 0) 628) := rfl
theorem aL_law_628 : at_ kL_law 628 = (0, oRetZ) := rfl
theorem aL_law_629 : at_ kL_law 629 = (0, oRload 1 630) := rfl
theorem aL_law_630 : at_ kL_law 630 = (0, oRload 0 631) := rfl
theorem aL_law_631 : at_ kL_law 631 = (0, oIload 3 632) := rfl
theorem aL_law_632 : at_ kL_law 632 = (0, oPush (vI 1) 633) := rfl
theorem aL_law_633 : at_ kL_law 633 = (0, oIadd 634) := rfl
theorem aL_law_634 : at_ kL_law 634 = (0, oIaldX 635) := rfl
theorem aL_law_635 : at_ kL_law 635 = (0, oRload 0 636) := rfl
theorem aL_law_636 : at_ kL_law 636 = (0, oIload 3 637) := rfl
theorem aL_law_637 : at_ kL_law 637 = (0, oPush (vI 2) 638) := rfl
theorem aL_law_638 : at_ kL_law 638 = (0, oIadd 639) := rfl
theorem aL_law_639 : at_ kL_law 639 = (0, oIaldX 640) := rfl
theorem aL_law_640 : at_ kL_law 640 = (2, oInvV 13 mX11_about 2 643) := rfl
theorem aL_law_643 : at_ kL_law 643 = (0, oRload 2 644) := rfl
theorem aL_law_644 : at_ kL_law 644 = (0, oRload 0 645) := rfl
theorem aL_law_645 : at_ kL_law 645 = (0, oIload 3 646) := rfl
theorem aL_law_646 : at_ kL_law 646 = (0, oPush (vI 1) 647) := rfl
theorem aL_law_647 : at_ kL_law 647 = (0, oIadd 648) := rfl
theorem aL_law_648 : at_ kL_law 648 = (0, oIaldX 649) := rfl
theorem aL_law_649 : at_ kL_law 649 = (0, oRload 0 650) := rfl
theorem aL_law_650 : at_ kL_law 650 = (0, oIload 3 651) := rfl
theorem aL_law_651 : at_ kL_law 651 = (0, oPush (vI 2) 652) := rfl
theorem aL_law_652 : at_ kL_law 652 = (0, oIadd 653) := rfl
theorem aL_law_653 : at_ kL_law 653 = (0, oIaldX 654) := rfl
theorem aL_law_654 : at_ kL_law 654 = (2, oInvV 14 mX12_about 2 657) := rfl
theorem aL_law_657 : at_ kL_law 657 = (0, oIcEq 1718 660) := rfl
theorem aL_law_660 : at_ kL_law 660 = (0, oPush (vI 0) 661) := rfl
theorem aL_law_661 : at_ kL_law 661 = (0, oRetZ) := rfl
theorem aL_law_662 : at_ kL_law 662 = (0, oRload 1 663) := rfl
theorem aL_law_663 : at_ kL_law 663 = (0, oRload 0 664) := rfl
theorem aL_law_664 : at_ kL_law 664 = (0, oIload 3 665) := rfl
theorem aL_law_665 : at_ kL_law 665 = (0, oPush (vI 1) 666) := rfl
theorem aL_law_666 : at_ kL_law 666 = (0, oIadd 667) := rfl
theorem aL_law_667 : at_ kL_law 667 = (0, oIaldX 668) := rfl
theorem aL_law_668 : at_ kL_law 668 = (0, oRload 0 669) := rfl
theorem aL_law_669 : at_ kL_law 669 = (0, oIload 3 670) := rfl
theorem aL_law_670 : at_ kL_law 670 = (0, oPush (vI 2) 671) := rfl
theorem aL_law_671 : at_ kL_law 671 = (0, oIadd 672) := rfl
theorem aL_law_672 : at_ kL_law 672 = (0, oIaldX 673) := rfl
theorem aL_law_673 : at_ kL_law 673 = (0, oRload 0 674) := rfl
theorem aL_law_674 : at_ kL_law 674 = (0, oIload 3 675) := rfl
theorem aL_law_675 : at_ kL_law 675 = (0, oPush (vI 3) 676) := rfl
theorem aL_law_676 : at_ kL_law 676 = (0, oIadd 677) := rfl
theorem aL_law_677 : at_ kL_law 677 = (0, oIaldX 678) := rfl
theorem aL_law_678 : at_ kL_law 678 = (0, oRload 0 679) := rfl
theorem aL_law_679 : at_ kL_law 679 = (0, oIload 3 680) := rfl
theorem aL_law_680 : at_ kL_law 680 = (0, oPush (vI 4) 681) := rfl
theorem aL_law_681 : at_ kL_law 681 = (0, oIadd 682) := rfl
theorem aL_law_682 : at_ kL_law 682 = (0, oIaldX 683) := rfl
theorem aL_law_683 : at_ kL_law 683 = (2, oInvV 13 mX11_phrase 4 686) := rfl
theorem aL_law_686 : at_ kL_law 686 = (0, oRload 2 687) := rfl
theorem aL_law_687 : at_ kL_law 687 = (0, oRload 0 688) := rfl
theorem aL_law_688 : at_ kL_law 688 = (0, oIload 3 689) := rfl
theorem aL_law_689 : at_ kL_law 689 = (0, oPush (vI 1) 690) := rfl
theorem aL_law_690 : at_ kL_law 690 = (0, oIadd 691) := rfl
theorem aL_law_691 : at_ kL_law 691 = (0, oIaldX 692) := rfl
theorem aL_law_692 : at_ kL_law 692 = (0, oRload 0 693) := rfl
theorem aL_law_693 : at_ kL_law 693 = (0, oIload 3 694) := rfl
theorem aL_law_694 : at_ kL_law 694 = (0, oPush (vI 2) 695) := rfl
theorem aL_law_695 : at_ kL_law 695 = (0, oIadd 696) := rfl
theorem aL_law_696 : at_ kL_law 696 = (0, oIaldX 697) := rfl
theorem aL_law_697 : at_ kL_law 697 = (0, oRload 0 698) := rfl
theorem aL_law_698 : at_ kL_law 698 = (0, oIload 3 699) := rfl
theorem aL_law_699 : at_ kL_law 699 = (0, oPush (vI 3) 700) := rfl
theorem aL_law_700 : at_ kL_law 700 = (0, oIadd 701) := rfl
theorem aL_law_701 : at_ kL_law 701 = (0, oIaldX 702) := rfl
theorem aL_law_702 : at_ kL_law 702 = (0, oRload 0 703) := rfl
theorem aL_law_703 : at_ kL_law 703 = (0, oIload 3 704) := rfl
theorem aL_law_704 : at_ kL_law 704 = (0, oPush (vI 4) 705) := rfl
theorem aL_law_705 : at_ kL_law 705 = (0, oIadd 706) := rfl
theorem aL_law_706 : at_ kL_law 706 = (0, oIaldX 707) := rfl
theorem aL_law_707 : at_ kL_law 707 = (2, oInvV 14 mX12_phrase 4 710) := rfl
theorem aL_law_710 : at_ kL_law 710 = (0, oIcEq 1718 713) := rfl
theorem aL_law_713 : at_ kL_law 713 = (0, oPush (vI 0) 714) := rfl
theorem aL_law_714 : at_ kL_law 714 = (0, oRetZ) := rfl
theorem aL_law_715 : at_ kL_law 715 = (0, oRload 1 716) := rfl
theorem aL_law_716 : at_ kL_law 716 = (0, oRload 0 717) := rfl
theorem aL_law_717 : at_ kL_law 717 = (0, oIload 3 718) := rfl
theorem aL_law_718 : at_ kL_law 718 = (0, oPush (vI 1) 719) := rfl
theorem aL_law_719 : at_ kL_law 719 = (0, oIadd 720) := rfl
theorem aL_law_720 : at_ kL_law 720 = (0, oIaldX 721) := rfl
theorem aL_law_721 : at_ kL_law 721 = (2, oInvV 13 mX11_unphrase 1 724) := rfl
theorem aL_law_724 : at_ kL_law 724 = (0, oRload 2 725) := rfl
theorem aL_law_725 : at_ kL_law 725 = (0, oRload 0 726) := rfl
theorem aL_law_726 : at_ kL_law 726 = (0, oIload 3 727) := rfl
theorem aL_law_727 : at_ kL_law 727 = (0, oPush (vI 1) 728) := rfl
theorem aL_law_728 : at_ kL_law 728 = (0, oIadd 729) := rfl
theorem aL_law_729 : at_ kL_law 729 = (0, oIaldX 730) := rfl
theorem aL_law_730 : at_ kL_law 730 = (2, oInvV 14 mX12_unphrase 1 733) := rfl
theorem aL_law_733 : at_ kL_law 733 = (0, oIcEq 1718 736) := rfl
theorem aL_law_736 : at_ kL_law 736 = (0, oPush (vI 0) 737) := rfl
theorem aL_law_737 : at_ kL_law 737 = (0, oRetZ) := rfl
theorem aL_law_738 : at_ kL_law 738 = (0, oRload 1 739) := rfl
theorem aL_law_739 : at_ kL_law 739 = (0, oRload 0 740) := rfl
theorem aL_law_740 : at_ kL_law 740 = (0, oIload 3 741) := rfl
theorem aL_law_741 : at_ kL_law 741 = (0, oPush (vI 1) 742) := rfl
theorem aL_law_742 : at_ kL_law 742 = (0, oIadd 743) := rfl
theorem aL_law_743 : at_ kL_law 743 = (0, oIaldX 744) := rfl
theorem aL_law_744 : at_ kL_law 744 = (0, oRload 0 745) := rfl
theorem aL_law_745 : at_ kL_law 745 = (0, oIload 3 746) := rfl
theorem aL_law_746 : at_ kL_law 746 = (0, oPush (vI 2) 747) := rfl
theorem aL_law_747 : at_ kL_law 747 = (0, oIadd 748) := rfl
theorem aL_law_748 : at_ kL_law 748 = (0, oIaldX 749) := rfl
theorem aL_law_749 : at_ kL_law 749 = (0, oRload 0 750) := rfl
theorem aL_law_750 : at_ kL_law 750 = (0, oIload 3 751) := rfl
theorem aL_law_751 : at_ kL_law 751 = (0, oPush (vI 3) 752) := rfl
theorem aL_law_752 : at_ kL_law 752 = (0, oIadd 753) := rfl
theorem aL_law_753 : at_ kL_law 753 = (0, oIaldX 754) := rfl
theorem aL_law_754 : at_ kL_law 754 = (2, oInvV 13 mX11_claims 3 757) := rfl
theorem aL_law_757 : at_ kL_law 757 = (0, oRload 2 758) := rfl
theorem aL_law_758 : at_ kL_law 758 = (0, oRload 0 759) := rfl
theorem aL_law_759 : at_ kL_law 759 = (0, oIload 3 760) := rfl
theorem aL_law_760 : at_ kL_law 760 = (0, oPush (vI 1) 761) := rfl
theorem aL_law_761 : at_ kL_law 761 = (0, oIadd 762) := rfl
theorem aL_law_762 : at_ kL_law 762 = (0, oIaldX 763) := rfl
theorem aL_law_763 : at_ kL_law 763 = (0, oRload 0 764) := rfl
theorem aL_law_764 : at_ kL_law 764 = (0, oIload 3 765) := rfl
theorem aL_law_765 : at_ kL_law 765 = (0, oPush (vI 2) 766) := rfl
theorem aL_law_766 : at_ kL_law 766 = (0, oIadd 767) := rfl
theorem aL_law_767 : at_ kL_law 767 = (0, oIaldX 768) := rfl
theorem aL_law_768 : at_ kL_law 768 = (0, oRload 0 769) := rfl
theorem aL_law_769 : at_ kL_law 769 = (0, oIload 3 770) := rfl
theorem aL_law_770 : at_ kL_law 770 = (0, oPush (vI 3) 771) := rfl
theorem aL_law_771 : at_ kL_law 771 = (0, oIadd 772) := rfl
theorem aL_law_772 : at_ kL_law 772 = (0, oIaldX 773) := rfl
theorem aL_law_773 : at_ kL_law 773 = (2, oInvV 14 mX12_claims 3 776) := rfl
theorem aL_law_776 : at_ kL_law 776 = (0, oIcEq 1718 779) := rfl
theorem aL_law_779 : at_ kL_law 779 = (0, oPush (vI 0) 780) := rfl
theorem aL_law_780 : at_ kL_law 780 = (0, oRetZ) := rfl
theorem aL_law_781 : at_ kL_law 781 = (0, oRload 1 782) := rfl
theorem aL_law_782 : at_ kL_law 782 = (0, oRload 0 783) := rfl
theorem aL_law_783 : at_ kL_law 783 = (0, oIload 3 784) := rfl
theorem aL_law_784 : at_ kL_law 784 = (0, oPush (vI 1) 785) := rfl
theorem aL_law_785 : at_ kL_law 785 = (0, oIadd 786) := rfl
theorem aL_law_786 : at_ kL_law 786 = (0, oIaldX 787) := rfl
theorem aL_law_787 : at_ kL_law 787 = (0, oRload 0 788) := rfl
theorem aL_law_788 : at_ kL_law 788 = (0, oIload 3 789) := rfl
theorem aL_law_789 : at_ kL_law 789 = (0, oPush (vI 2) 790) := rfl
theorem aL_law_790 : at_ kL_law 790 = (0, oIadd 791) := rfl
theorem aL_law_791 : at_ kL_law 791 = (0, oIaldX 792) := rfl
theorem aL_law_792 : at_ kL_law 792 = (0, oRload 0 793) := rfl
theorem aL_law_793 : at_ kL_law 793 = (0, oIload 3 794) := rfl
theorem aL_law_794 : at_ kL_law 794 = (0, oPush (vI 3) 795) := rfl
theorem aL_law_795 : at_ kL_law 795 = (0, oIadd 796) := rfl
theorem aL_law_796 : at_ kL_law 796 = (0, oIaldX 797) := rfl
theorem aL_law_797 : at_ kL_law 797 = (2, oInvV 13 mX11_claim 3 800) := rfl
theorem aL_law_800 : at_ kL_law 800 = (0, oRload 2 801) := rfl
theorem aL_law_801 : at_ kL_law 801 = (0, oRload 0 802) := rfl
theorem aL_law_802 : at_ kL_law 802 = (0, oIload 3 803) := rfl
theorem aL_law_803 : at_ kL_law 803 = (0, oPush (vI 1) 804) := rfl
theorem aL_law_804 : at_ kL_law 804 = (0, oIadd 805) := rfl
theorem aL_law_805 : at_ kL_law 805 = (0, oIaldX 806) := rfl
theorem aL_law_806 : at_ kL_law 806 = (0, oRload 0 807) := rfl
theorem aL_law_807 : at_ kL_law 807 = (0, oIload 3 808) := rfl
theorem aL_law_808 : at_ kL_law 808 = (0, oPush (vI 2) 809) := rfl
theorem aL_law_809 : at_ kL_law 809 = (0, oIadd 810) := rfl
theorem aL_law_810 : at_ kL_law 810 = (0, oIaldX 811) := rfl
theorem aL_law_811 : at_ kL_law 811 = (0, oRload 0 812) := rfl
theorem aL_law_812 : at_ kL_law 812 = (0, oIload 3 813) := rfl
theorem aL_law_813 : at_ kL_law 813 = (0, oPush (vI 3) 814) := rfl
theorem aL_law_814 : at_ kL_law 814 = (0, oIadd 815) := rfl
theorem aL_law_815 : at_ kL_law 815 = (0, oIaldX 816) := rfl
theorem aL_law_816 : at_ kL_law 816 = (2, oInvV 14 mX12_claim 3 819) := rfl
theorem aL_law_819 : at_ kL_law 819 = (0, oIcEq 1718 822) := rfl
theorem aL_law_822 : at_ kL_law 822 = (0, oPush (vI 0) 823) := rfl
theorem aL_law_823 : at_ kL_law 823 = (0, oRetZ) := rfl
theorem aL_law_824 : at_ kL_law 824 = (0, oRload 1 825) := rfl
theorem aL_law_825 : at_ kL_law 825 = (0, oRload 0 826) := rfl
theorem aL_law_826 : at_ kL_law 826 = (0, oIload 3 827) := rfl
theorem aL_law_827 : at_ kL_law 827 = (0, oPush (vI 1) 828) := rfl
theorem aL_law_828 : at_ kL_law 828 = (0, oIadd 829) := rfl
theorem aL_law_829 : at_ kL_law 829 = (0, oIaldX 830) := rfl
theorem aL_law_830 : at_ kL_law 830 = (0, oRload 0 831) := rfl
theorem aL_law_831 : at_ kL_law 831 = (0, oIload 3 832) := rfl
theorem aL_law_832 : at_ kL_law 832 = (0, oPush (vI 2) 833) := rfl
theorem aL_law_833 : at_ kL_law 833 = (0, oIadd 834) := rfl
theorem aL_law_834 : at_ kL_law 834 = (0, oIaldX 835) := rfl
theorem aL_law_835 : at_ kL_law 835 = (0, oRload 0 836) := rfl
theorem aL_law_836 : at_ kL_law 836 = (0, oIload 3 837) := rfl
theorem aL_law_837 : at_ kL_law 837 = (0, oPush (vI 3) 838) := rfl
theorem aL_law_838 : at_ kL_law 838 = (0, oIadd 839) := rfl
theorem aL_law_839 : at_ kL_law 839 = (0, oIaldX 840) := rfl
theorem aL_law_840 : at_ kL_law 840 = (2, oInvV 13 mX11_keep 3 843) := rfl
theorem aL_law_843 : at_ kL_law 843 = (0, oRload 2 844) := rfl
theorem aL_law_844 : at_ kL_law 844 = (0, oRload 0 845) := rfl
theorem aL_law_845 : at_ kL_law 845 = (0, oIload 3 846) := rfl
theorem aL_law_846 : at_ kL_law 846 = (0, oPush (vI 1) 847) := rfl
theorem aL_law_847 : at_ kL_law 847 = (0, oIadd 848) := rfl
theorem aL_law_848 : at_ kL_law 848 = (0, oIaldX 849) := rfl
theorem aL_law_849 : at_ kL_law 849 = (0, oRload 0 850) := rfl
theorem aL_law_850 : at_ kL_law 850 = (0, oIload 3 851) := rfl
theorem aL_law_851 : at_ kL_law 851 = (0, oPush (vI 2) 852) := rfl
theorem aL_law_852 : at_ kL_law 852 = (0, oIadd 853) := rfl
theorem aL_law_853 : at_ kL_law 853 = (0, oIaldX 854) := rfl
theorem aL_law_854 : at_ kL_law 854 = (0, oRload 0 855) := rfl
theorem aL_law_855 : at_ kL_law 855 = (0, oIload 3 856) := rfl
theorem aL_law_856 : at_ kL_law 856 = (0, oPush (vI 3) 857) := rfl
theorem aL_law_857 : at_ kL_law 857 = (0, oIadd 858) := rfl
theorem aL_law_858 : at_ kL_law 858 = (0, oIaldX 859) := rfl
theorem aL_law_859 : at_ kL_law 859 = (2, oInvV 14 mX12_keep 3 862) := rfl
theorem aL_law_862 : at_ kL_law 862 = (0, oIcEq 1718 865) := rfl
theorem aL_law_865 : at_ kL_law 865 = (0, oPush (vI 0) 866) := rfl
theorem aL_law_866 : at_ kL_law 866 = (0, oRetZ) := rfl
theorem aL_law_867 : at_ kL_law 867 = (0, oRload 1 868) := rfl
theorem aL_law_868 : at_ kL_law 868 = (0, oRload 0 869) := rfl
theorem aL_law_869 : at_ kL_law 869 = (0, oIload 3 870) := rfl
theorem aL_law_870 : at_ kL_law 870 = (0, oPush (vI 1) 871) := rfl
theorem aL_law_871 : at_ kL_law 871 = (0, oIadd 872) := rfl
theorem aL_law_872 : at_ kL_law 872 = (0, oIaldX 873) := rfl
theorem aL_law_873 : at_ kL_law 873 = (0, oRload 0 874) := rfl
theorem aL_law_874 : at_ kL_law 874 = (0, oIload 3 875) := rfl
theorem aL_law_875 : at_ kL_law 875 = (0, oPush (vI 2) 876) := rfl
theorem aL_law_876 : at_ kL_law 876 = (0, oIadd 877) := rfl
theorem aL_law_877 : at_ kL_law 877 = (0, oIaldX 878) := rfl
theorem aL_law_878 : at_ kL_law 878 = (0, oRload 0 879) := rfl
theorem aL_law_879 : at_ kL_law 879 = (0, oIload 3 880) := rfl
theorem aL_law_880 : at_ kL_law 880 = (0, oPush (vI 3) 881) := rfl
theorem aL_law_881 : at_ kL_law 881 = (0, oIadd 882) := rfl
theorem aL_law_882 : at_ kL_law 882 = (0, oIaldX 883) := rfl
theorem aL_law_883 : at_ kL_law 883 = (2, oInvV 13 mX11_proof 3 886) := rfl
theorem aL_law_886 : at_ kL_law 886 = (0, oRload 2 887) := rfl
theorem aL_law_887 : at_ kL_law 887 = (0, oRload 0 888) := rfl
theorem aL_law_888 : at_ kL_law 888 = (0, oIload 3 889) := rfl
theorem aL_law_889 : at_ kL_law 889 = (0, oPush (vI 1) 890) := rfl
theorem aL_law_890 : at_ kL_law 890 = (0, oIadd 891) := rfl
theorem aL_law_891 : at_ kL_law 891 = (0, oIaldX 892) := rfl
theorem aL_law_892 : at_ kL_law 892 = (0, oRload 0 893) := rfl
theorem aL_law_893 : at_ kL_law 893 = (0, oIload 3 894) := rfl
theorem aL_law_894 : at_ kL_law 894 = (0, oPush (vI 2) 895) := rfl
theorem aL_law_895 : at_ kL_law 895 = (0, oIadd 896) := rfl
theorem aL_law_896 : at_ kL_law 896 = (0, oIaldX 897) := rfl
theorem aL_law_897 : at_ kL_law 897 = (0, oRload 0 898) := rfl
theorem aL_law_898 : at_ kL_law 898 = (0, oIload 3 899) := rfl
theorem aL_law_899 : at_ kL_law 899 = (0, oPush (vI 3) 900) := rfl
theorem aL_law_900 : at_ kL_law 900 = (0, oIadd 901) := rfl
theorem aL_law_901 : at_ kL_law 901 = (0, oIaldX 902) := rfl
theorem aL_law_902 : at_ kL_law 902 = (2, oInvV 14 mX12_proof 3 905) := rfl
theorem aL_law_905 : at_ kL_law 905 = (0, oIcEq 1718 908) := rfl
theorem aL_law_908 : at_ kL_law 908 = (0, oPush (vI 0) 909) := rfl
theorem aL_law_909 : at_ kL_law 909 = (0, oRetZ) := rfl
theorem aL_law_910 : at_ kL_law 910 = (0, oRload 1 911) := rfl
theorem aL_law_911 : at_ kL_law 911 = (0, oRload 0 912) := rfl
theorem aL_law_912 : at_ kL_law 912 = (0, oIload 3 913) := rfl
theorem aL_law_913 : at_ kL_law 913 = (0, oPush (vI 1) 914) := rfl
theorem aL_law_914 : at_ kL_law 914 = (0, oIadd 915) := rfl
theorem aL_law_915 : at_ kL_law 915 = (0, oIaldX 916) := rfl
theorem aL_law_916 : at_ kL_law 916 = (0, oRload 0 917) := rfl
theorem aL_law_917 : at_ kL_law 917 = (0, oIload 3 918) := rfl
theorem aL_law_918 : at_ kL_law 918 = (0, oPush (vI 2) 919) := rfl
theorem aL_law_919 : at_ kL_law 919 = (0, oIadd 920) := rfl
theorem aL_law_920 : at_ kL_law 920 = (0, oIaldX 921) := rfl
theorem aL_law_921 : at_ kL_law 921 = (0, oRload 0 922) := rfl
theorem aL_law_922 : at_ kL_law 922 = (0, oIload 3 923) := rfl
theorem aL_law_923 : at_ kL_law 923 = (0, oPush (vI 3) 924) := rfl
theorem aL_law_924 : at_ kL_law 924 = (0, oIadd 925) := rfl
theorem aL_law_925 : at_ kL_law 925 = (0, oIaldX 926) := rfl
theorem aL_law_926 : at_ kL_law 926 = (0, oRload 0 927) := rfl
theorem aL_law_927 : at_ kL_law 927 = (0, oIload 3 928) := rfl
theorem aL_law_928 : at_ kL_law 928 = (0, oPush (vI 4) 929) := rfl
theorem aL_law_929 : at_ kL_law 929 = (0, oIadd 930) := rfl
theorem aL_law_930 : at_ kL_law 930 = (0, oIaldX 931) := rfl
theorem aL_law_931 : at_ kL_law 931 = (2, oInvV 13 mX11_results 4 934) := rfl
theorem aL_law_934 : at_ kL_law 934 = (0, oRload 2 935) := rfl
theorem aL_law_935 : at_ kL_law 935 = (0, oRload 0 936) := rfl
theorem aL_law_936 : at_ kL_law 936 = (0, oIload 3 937) := rfl
theorem aL_law_937 : at_ kL_law 937 = (0, oPush (vI 1) 938) := rfl
theorem aL_law_938 : at_ kL_law 938 = (0, oIadd 939) := rfl
theorem aL_law_939 : at_ kL_law 939 = (0, oIaldX 940) := rfl
theorem aL_law_940 : at_ kL_law 940 = (0, oRload 0 941) := rfl
theorem aL_law_941 : at_ kL_law 941 = (0, oIload 3 942) := rfl
theorem aL_law_942 : at_ kL_law 942 = (0, oPush (vI 2) 943) := rfl
theorem aL_law_943 : at_ kL_law 943 = (0, oIadd 944) := rfl
theorem aL_law_944 : at_ kL_law 944 = (0, oIaldX 945) := rfl
theorem aL_law_945 : at_ kL_law 945 = (0, oRload 0 946) := rfl
theorem aL_law_946 : at_ kL_law 946 = (0, oIload 3 947) := rfl
theorem aL_law_947 : at_ kL_law 947 = (0, oPush (vI 3) 948) := rfl
theorem aL_law_948 : at_ kL_law 948 = (0, oIadd 949) := rfl
theorem aL_law_949 : at_ kL_law 949 = (0, oIaldX 950) := rfl
theorem aL_law_950 : at_ kL_law 950 = (0, oRload 0 951) := rfl
theorem aL_law_951 : at_ kL_law 951 = (0, oIload 3 952) := rfl
theorem aL_law_952 : at_ kL_law 952 = (0, oPush (vI 4) 953) := rfl
theorem aL_law_953 : at_ kL_law 953 = (0, oIadd 954) := rfl
theorem aL_law_954 : at_ kL_law 954 = (0, oIaldX 955) := rfl
theorem aL_law_955 : at_ kL_law 955 = (2, oInvV 14 mX12_results 4 958) := rfl
theorem aL_law_958 : at_ kL_law 958 = (0, oLcmp 959) := rfl
theorem aL_law_959 : at_ kL_law 959 = (0, oIfEq 1718 962) := rfl
theorem aL_law_962 : at_ kL_law 962 = (0, oPush (vI 0) 963) := rfl
theorem aL_law_963 : at_ kL_law 963 = (0, oRetZ) := rfl
theorem aL_law_964 : at_ kL_law 964 = (0, oRload 1 965) := rfl
theorem aL_law_965 : at_ kL_law 965 = (0, oRload 0 966) := rfl
theorem aL_law_966 : at_ kL_law 966 = (0, oIload 3 967) := rfl
theorem aL_law_967 : at_ kL_law 967 = (0, oPush (vI 1) 968) := rfl
theorem aL_law_968 : at_ kL_law 968 = (0, oIadd 969) := rfl
theorem aL_law_969 : at_ kL_law 969 = (0, oIaldX 970) := rfl
theorem aL_law_970 : at_ kL_law 970 = (0, oRload 0 971) := rfl
theorem aL_law_971 : at_ kL_law 971 = (0, oIload 3 972) := rfl
theorem aL_law_972 : at_ kL_law 972 = (0, oPush (vI 2) 973) := rfl
theorem aL_law_973 : at_ kL_law 973 = (0, oIadd 974) := rfl
theorem aL_law_974 : at_ kL_law 974 = (0, oIaldX 975) := rfl
theorem aL_law_975 : at_ kL_law 975 = (2, oInvV 13 mX11_measure 2 978) := rfl
theorem aL_law_978 : at_ kL_law 978 = (0, oRload 2 979) := rfl
theorem aL_law_979 : at_ kL_law 979 = (0, oRload 0 980) := rfl
theorem aL_law_980 : at_ kL_law 980 = (0, oIload 3 981) := rfl
theorem aL_law_981 : at_ kL_law 981 = (0, oPush (vI 1) 982) := rfl
theorem aL_law_982 : at_ kL_law 982 = (0, oIadd 983) := rfl
theorem aL_law_983 : at_ kL_law 983 = (0, oIaldX 984) := rfl
theorem aL_law_984 : at_ kL_law 984 = (0, oRload 0 985) := rfl
theorem aL_law_985 : at_ kL_law 985 = (0, oIload 3 986) := rfl
theorem aL_law_986 : at_ kL_law 986 = (0, oPush (vI 2) 987) := rfl
theorem aL_law_987 : at_ kL_law 987 = (0, oIadd 988) := rfl
theorem aL_law_988 : at_ kL_law 988 = (0, oIaldX 989) := rfl
theorem aL_law_989 : at_ kL_law 989 = (2, oInvV 14 mX12_measure 2 992) := rfl
theorem aL_law_992 : at_ kL_law 992 = (0, oIcEq 1718 995) := rfl
theorem aL_law_995 : at_ kL_law 995 = (0, oPush (vI 0) 996) := rfl
theorem aL_law_996 : at_ kL_law 996 = (0, oRetZ) := rfl
theorem aL_law_997 : at_ kL_law 997 = (0, oRload 1 998) := rfl
theorem aL_law_998 : at_ kL_law 998 = (0, oRload 0 999) := rfl
theorem aL_law_999 : at_ kL_law 999 = (0, oIload 3 1000) := rfl
theorem aL_law_1000 : at_ kL_law 1000 = (0, oPush (vI 1) 1001) := rfl
theorem aL_law_1001 : at_ kL_law 1001 = (0, oIadd 1002) := rfl
theorem aL_law_1002 : at_ kL_law 1002 = (0, oIaldX 1003) := rfl
theorem aL_law_1003 : at_ kL_law 1003 = (0, oRload 0 1004) := rfl
theorem aL_law_1004 : at_ kL_law 1004 = (0, oIload 3 1005) := rfl
theorem aL_law_1005 : at_ kL_law 1005 = (0, oPush (vI 2) 1006) := rfl
theorem aL_law_1006 : at_ kL_law 1006 = (0, oIadd 1007) := rfl
theorem aL_law_1007 : at_ kL_law 1007 = (0, oIaldX 1008) := rfl
theorem aL_law_1008 : at_ kL_law 1008 = (2, oInvV 13 mX11_rule 2 1011) := rfl
theorem aL_law_1011 : at_ kL_law 1011 = (0, oRload 2 1012) := rfl
theorem aL_law_1012 : at_ kL_law 1012 = (0, oRload 0 1013) := rfl
theorem aL_law_1013 : at_ kL_law 1013 = (0, oIload 3 1014) := rfl
theorem aL_law_1014 : at_ kL_law 1014 = (0, oPush (vI 1) 1015) := rfl
theorem aL_law_1015 : at_ kL_law 1015 = (0, oIadd 1016) := rfl
theorem aL_law_1016 : at_ kL_law 1016 = (0, oIaldX 1017) := rfl
theorem aL_law_1017 : at_ kL_law 1017 = (0, oRload 0 1018) := rfl
theorem aL_law_1018 : at_ kL_law 1018 = (0, oIload 3 1019) := rfl
theorem aL_law_1019 : at_ kL_law 1019 = (0, oPush (vI 2) 1020) := rfl
theorem aL_law_1020 : at_ kL_law 1020 = (0, oIadd 1021) := rfl
theorem aL_law_1021 : at_ kL_law 1021 = (0, oIaldX 1022) := rfl
theorem aL_law_1022 : at_ kL_law 1022 = (2, oInvV 14 mX12_rule 2 1025) := rfl
theorem aL_law_1025 : at_ kL_law 1025 = (0, oIcEq 1718 1028) := rfl
theorem aL_law_1028 : at_ kL_law 1028 = (0, oPush (vI 0) 1029) := rfl
theorem aL_law_1029 : at_ kL_law 1029 = (0, oRetZ) := rfl
theorem aL_law_1030 : at_ kL_law 1030 = (0, oRload 1 1031) := rfl
theorem aL_law_1031 : at_ kL_law 1031 = (2, oInvV 13 mX11_fault 0 1034) := rfl
theorem aL_law_1034 : at_ kL_law 1034 = (0, oRload 2 1035) := rfl
theorem aL_law_1035 : at_ kL_law 1035 = (2, oInvV 14 mX12_fault 0 1038) := rfl
theorem aL_law_1038 : at_ kL_law 1038 = (0, oIcEq 1718 1041) := rfl
theorem aL_law_1041 : at_ kL_law 1041 = (0, oPush (vI 0) 1042) := rfl
theorem aL_law_1042 : at_ kL_law 1042 = (0, oRetZ) := rfl
theorem aL_law_1043 : at_ kL_law 1043 = (0, oRload 1 1044) := rfl
theorem aL_law_1044 : at_ kL_law 1044 = (0, oRload 0 1045) := rfl
theorem aL_law_1045 : at_ kL_law 1045 = (0, oIload 3 1046) := rfl
theorem aL_law_1046 : at_ kL_law 1046 = (0, oPush (vI 1) 1047) := rfl
theorem aL_law_1047 : at_ kL_law 1047 = (0, oIadd 1048) := rfl
theorem aL_law_1048 : at_ kL_law 1048 = (0, oIaldX 1049) := rfl
theorem aL_law_1049 : at_ kL_law 1049 = (2, oInvV 13 mX11_strike 1 1052) := rfl
theorem aL_law_1052 : at_ kL_law 1052 = (0, oRload 2 1053) := rfl
theorem aL_law_1053 : at_ kL_law 1053 = (0, oRload 0 1054) := rfl
theorem aL_law_1054 : at_ kL_law 1054 = (0, oIload 3 1055) := rfl
theorem aL_law_1055 : at_ kL_law 1055 = (0, oPush (vI 1) 1056) := rfl
theorem aL_law_1056 : at_ kL_law 1056 = (0, oIadd 1057) := rfl
theorem aL_law_1057 : at_ kL_law 1057 = (0, oIaldX 1058) := rfl
theorem aL_law_1058 : at_ kL_law 1058 = (2, oInvV 14 mX12_strike 1 1061) := rfl
theorem aL_law_1061 : at_ kL_law 1061 = (0, oIcEq 1718 1064) := rfl
theorem aL_law_1064 : at_ kL_law 1064 = (0, oPush (vI 0) 1065) := rfl
theorem aL_law_1065 : at_ kL_law 1065 = (0, oRetZ) := rfl
theorem aL_law_1066 : at_ kL_law 1066 = (0, oRload 1 1067) := rfl
theorem aL_law_1067 : at_ kL_law 1067 = (0, oRload 0 1068) := rfl
theorem aL_law_1068 : at_ kL_law 1068 = (0, oIload 3 1069) := rfl
theorem aL_law_1069 : at_ kL_law 1069 = (0, oPush (vI 1) 1070) := rfl
theorem aL_law_1070 : at_ kL_law 1070 = (0, oIadd 1071) := rfl
theorem aL_law_1071 : at_ kL_law 1071 = (0, oIaldX 1072) := rfl
theorem aL_law_1072 : at_ kL_law 1072 = (0, oRload 0 1073) := rfl
theorem aL_law_1073 : at_ kL_law 1073 = (0, oIload 3 1074) := rfl
theorem aL_law_1074 : at_ kL_law 1074 = (0, oPush (vI 2) 1075) := rfl
theorem aL_law_1075 : at_ kL_law 1075 = (0, oIadd 1076) := rfl
theorem aL_law_1076 : at_ kL_law 1076 = (0, oIaldX 1077) := rfl
theorem aL_law_1077 : at_ kL_law 1077 = (0, oRload 0 1078) := rfl
theorem aL_law_1078 : at_ kL_law 1078 = (0, oIload 3 1079) := rfl
theorem aL_law_1079 : at_ kL_law 1079 = (0, oPush (vI 3) 1080) := rfl
theorem aL_law_1080 : at_ kL_law 1080 = (0, oIadd 1081) := rfl
theorem aL_law_1081 : at_ kL_law 1081 = (0, oIaldX 1082) := rfl
theorem aL_law_1082 : at_ kL_law 1082 = (0, oRload 0 1083) := rfl
theorem aL_law_1083 : at_ kL_law 1083 = (0, oIload 3 1084) := rfl
theorem aL_law_1084 : at_ kL_law 1084 = (0, oPush (vI 4) 1085) := rfl
theorem aL_law_1085 : at_ kL_law 1085 = (0, oIadd 1086) := rfl
theorem aL_law_1086 : at_ kL_law 1086 = (0, oIaldX 1087) := rfl
theorem aL_law_1087 : at_ kL_law 1087 = (2, oInvV 13 mX11_bars 4 1090) := rfl
theorem aL_law_1090 : at_ kL_law 1090 = (0, oRload 2 1091) := rfl
theorem aL_law_1091 : at_ kL_law 1091 = (0, oRload 0 1092) := rfl
theorem aL_law_1092 : at_ kL_law 1092 = (0, oIload 3 1093) := rfl
theorem aL_law_1093 : at_ kL_law 1093 = (0, oPush (vI 1) 1094) := rfl
theorem aL_law_1094 : at_ kL_law 1094 = (0, oIadd 1095) := rfl
theorem aL_law_1095 : at_ kL_law 1095 = (0, oIaldX 1096) := rfl
theorem aL_law_1096 : at_ kL_law 1096 = (0, oRload 0 1097) := rfl
theorem aL_law_1097 : at_ kL_law 1097 = (0, oIload 3 1098) := rfl
theorem aL_law_1098 : at_ kL_law 1098 = (0, oPush (vI 2) 1099) := rfl
theorem aL_law_1099 : at_ kL_law 1099 = (0, oIadd 1100) := rfl
theorem aL_law_1100 : at_ kL_law 1100 = (0, oIaldX 1101) := rfl
theorem aL_law_1101 : at_ kL_law 1101 = (0, oRload 0 1102) := rfl
theorem aL_law_1102 : at_ kL_law 1102 = (0, oIload 3 1103) := rfl
theorem aL_law_1103 : at_ kL_law 1103 = (0, oPush (vI 3) 1104) := rfl
theorem aL_law_1104 : at_ kL_law 1104 = (0, oIadd 1105) := rfl
theorem aL_law_1105 : at_ kL_law 1105 = (0, oIaldX 1106) := rfl
theorem aL_law_1106 : at_ kL_law 1106 = (0, oRload 0 1107) := rfl
theorem aL_law_1107 : at_ kL_law 1107 = (0, oIload 3 1108) := rfl
theorem aL_law_1108 : at_ kL_law 1108 = (0, oPush (vI 4) 1109) := rfl
theorem aL_law_1109 : at_ kL_law 1109 = (0, oIadd 1110) := rfl
theorem aL_law_1110 : at_ kL_law 1110 = (0, oIaldX 1111) := rfl
theorem aL_law_1111 : at_ kL_law 1111 = (2, oInvV 14 mX12_bars 4 1114) := rfl
theorem aL_law_1114 : at_ kL_law 1114 = (0, oIcEq 1718 1117) := rfl
theorem aL_law_1117 : at_ kL_law 1117 = (0, oPush (vI 0) 1118) := rfl
theorem aL_law_1118 : at_ kL_law 1118 = (0, oRetZ) := rfl
theorem aL_law_1119 : at_ kL_law 1119 = (0, oRload 1 1120) := rfl
theorem aL_law_1120 : at_ kL_law 1120 = (0, oRload 0 1121) := rfl
theorem aL_law_1121 : at_ kL_law 1121 = (0, oIload 3 1122) := rfl
theorem aL_law_1122 : at_ kL_law 1122 = (0, oPush (vI 1) 1123) := rfl
theorem aL_law_1123 : at_ kL_law 1123 = (0, oIadd 1124) := rfl
theorem aL_law_1124 : at_ kL_law 1124 = (0, oIaldX 1125) := rfl
theorem aL_law_1125 : at_ kL_law 1125 = (2, oInvV 13 mX11_seat 1 1128) := rfl
theorem aL_law_1128 : at_ kL_law 1128 = (0, oRload 2 1129) := rfl
theorem aL_law_1129 : at_ kL_law 1129 = (0, oRload 0 1130) := rfl
theorem aL_law_1130 : at_ kL_law 1130 = (0, oIload 3 1131) := rfl
theorem aL_law_1131 : at_ kL_law 1131 = (0, oPush (vI 1) 1132) := rfl
theorem aL_law_1132 : at_ kL_law 1132 = (0, oIadd 1133) := rfl
theorem aL_law_1133 : at_ kL_law 1133 = (0, oIaldX 1134) := rfl
theorem aL_law_1134 : at_ kL_law 1134 = (2, oInvV 14 mX12_seat 1 1137) := rfl
theorem aL_law_1137 : at_ kL_law 1137 = (0, oIcEq 1718 1140) := rfl
theorem aL_law_1140 : at_ kL_law 1140 = (0, oPush (vI 0) 1141) := rfl
theorem aL_law_1141 : at_ kL_law 1141 = (0, oRetZ) := rfl
theorem aL_law_1142 : at_ kL_law 1142 = (0, oRload 1 1143) := rfl
theorem aL_law_1143 : at_ kL_law 1143 = (0, oRload 0 1144) := rfl
theorem aL_law_1144 : at_ kL_law 1144 = (0, oIload 3 1145) := rfl
theorem aL_law_1145 : at_ kL_law 1145 = (0, oPush (vI 1) 1146) := rfl
theorem aL_law_1146 : at_ kL_law 1146 = (0, oIadd 1147) := rfl
theorem aL_law_1147 : at_ kL_law 1147 = (0, oIaldX 1148) := rfl
theorem aL_law_1148 : at_ kL_law 1148 = (0, oRload 0 1149) := rfl
theorem aL_law_1149 : at_ kL_law 1149 = (0, oIload 3 1150) := rfl
theorem aL_law_1150 : at_ kL_law 1150 = (0, oPush (vI 2) 1151) := rfl
theorem aL_law_1151 : at_ kL_law 1151 = (0, oIadd 1152) := rfl
theorem aL_law_1152 : at_ kL_law 1152 = (0, oIaldX 1153) := rfl
theorem aL_law_1153 : at_ kL_law 1153 = (0, oRload 0 1154) := rfl
theorem aL_law_1154 : at_ kL_law 1154 = (0, oIload 3 1155) := rfl
theorem aL_law_1155 : at_ kL_law 1155 = (0, oPush (vI 3) 1156) := rfl
theorem aL_law_1156 : at_ kL_law 1156 = (0, oIadd 1157) := rfl
theorem aL_law_1157 : at_ kL_law 1157 = (0, oIaldX 1158) := rfl
theorem aL_law_1158 : at_ kL_law 1158 = (0, oRload 0 1159) := rfl
theorem aL_law_1159 : at_ kL_law 1159 = (0, oIload 3 1160) := rfl
theorem aL_law_1160 : at_ kL_law 1160 = (0, oPush (vI 4) 1161) := rfl
theorem aL_law_1161 : at_ kL_law 1161 = (0, oIadd 1162) := rfl
theorem aL_law_1162 : at_ kL_law 1162 = (0, oIaldX 1163) := rfl
theorem aL_law_1163 : at_ kL_law 1163 = (2, oInvV 13 mX11_decide 4 1166) := rfl
theorem aL_law_1166 : at_ kL_law 1166 = (0, oRload 2 1167) := rfl
theorem aL_law_1167 : at_ kL_law 1167 = (0, oRload 0 1168) := rfl
theorem aL_law_1168 : at_ kL_law 1168 = (0, oIload 3 1169) := rfl
theorem aL_law_1169 : at_ kL_law 1169 = (0, oPush (vI 1) 1170) := rfl
theorem aL_law_1170 : at_ kL_law 1170 = (0, oIadd 1171) := rfl
theorem aL_law_1171 : at_ kL_law 1171 = (0, oIaldX 1172) := rfl
theorem aL_law_1172 : at_ kL_law 1172 = (0, oRload 0 1173) := rfl
theorem aL_law_1173 : at_ kL_law 1173 = (0, oIload 3 1174) := rfl
theorem aL_law_1174 : at_ kL_law 1174 = (0, oPush (vI 2) 1175) := rfl
theorem aL_law_1175 : at_ kL_law 1175 = (0, oIadd 1176) := rfl
theorem aL_law_1176 : at_ kL_law 1176 = (0, oIaldX 1177) := rfl
theorem aL_law_1177 : at_ kL_law 1177 = (0, oRload 0 1178) := rfl
theorem aL_law_1178 : at_ kL_law 1178 = (0, oIload 3 1179) := rfl
theorem aL_law_1179 : at_ kL_law 1179 = (0, oPush (vI 3) 1180) := rfl
theorem aL_law_1180 : at_ kL_law 1180 = (0, oIadd 1181) := rfl
theorem aL_law_1181 : at_ kL_law 1181 = (0, oIaldX 1182) := rfl
theorem aL_law_1182 : at_ kL_law 1182 = (0, oRload 0 1183) := rfl
theorem aL_law_1183 : at_ kL_law 1183 = (0, oIload 3 1184) := rfl
theorem aL_law_1184 : at_ kL_law 1184 = (0, oPush (vI 4) 1185) := rfl
theorem aL_law_1185 : at_ kL_law 1185 = (0, oIadd 1186) := rfl
theorem aL_law_1186 : at_ kL_law 1186 = (0, oIaldX 1187) := rfl
theorem aL_law_1187 : at_ kL_law 1187 = (2, oInvV 14 mX12_decide 4 1190) := rfl
theorem aL_law_1190 : at_ kL_law 1190 = (0, oIcEq 1718 1193) := rfl
theorem aL_law_1193 : at_ kL_law 1193 = (0, oPush (vI 0) 1194) := rfl
theorem aL_law_1194 : at_ kL_law 1194 = (0, oRetZ) := rfl
theorem aL_law_1195 : at_ kL_law 1195 = (0, oRload 1 1196) := rfl
theorem aL_law_1196 : at_ kL_law 1196 = (0, oRload 0 1197) := rfl
theorem aL_law_1197 : at_ kL_law 1197 = (0, oIload 3 1198) := rfl
theorem aL_law_1198 : at_ kL_law 1198 = (0, oPush (vI 1) 1199) := rfl
theorem aL_law_1199 : at_ kL_law 1199 = (0, oIadd 1200) := rfl
theorem aL_law_1200 : at_ kL_law 1200 = (0, oIaldX 1201) := rfl
theorem aL_law_1201 : at_ kL_law 1201 = (0, oRload 0 1202) := rfl
theorem aL_law_1202 : at_ kL_law 1202 = (0, oIload 3 1203) := rfl
theorem aL_law_1203 : at_ kL_law 1203 = (0, oPush (vI 2) 1204) := rfl
theorem aL_law_1204 : at_ kL_law 1204 = (0, oIadd 1205) := rfl
theorem aL_law_1205 : at_ kL_law 1205 = (0, oIaldX 1206) := rfl
theorem aL_law_1206 : at_ kL_law 1206 = (2, oInvV 13 mX11_ruling 2 1209) := rfl
theorem aL_law_1209 : at_ kL_law 1209 = (0, oRload 2 1210) := rfl
theorem aL_law_1210 : at_ kL_law 1210 = (0, oRload 0 1211) := rfl
theorem aL_law_1211 : at_ kL_law 1211 = (0, oIload 3 1212) := rfl
theorem aL_law_1212 : at_ kL_law 1212 = (0, oPush (vI 1) 1213) := rfl
theorem aL_law_1213 : at_ kL_law 1213 = (0, oIadd 1214) := rfl
theorem aL_law_1214 : at_ kL_law 1214 = (0, oIaldX 1215) := rfl
theorem aL_law_1215 : at_ kL_law 1215 = (0, oRload 0 1216) := rfl
theorem aL_law_1216 : at_ kL_law 1216 = (0, oIload 3 1217) := rfl
theorem aL_law_1217 : at_ kL_law 1217 = (0, oPush (vI 2) 1218) := rfl
theorem aL_law_1218 : at_ kL_law 1218 = (0, oIadd 1219) := rfl
theorem aL_law_1219 : at_ kL_law 1219 = (0, oIaldX 1220) := rfl
theorem aL_law_1220 : at_ kL_law 1220 = (2, oInvV 14 mX12_ruling 2 1223) := rfl
theorem aL_law_1223 : at_ kL_law 1223 = (0, oIcEq 1718 1226) := rfl
theorem aL_law_1226 : at_ kL_law 1226 = (0, oPush (vI 0) 1227) := rfl
theorem aL_law_1227 : at_ kL_law 1227 = (0, oRetZ) := rfl
theorem aL_law_1228 : at_ kL_law 1228 = (0, oRload 1 1229) := rfl
theorem aL_law_1229 : at_ kL_law 1229 = (0, oRload 0 1230) := rfl
theorem aL_law_1230 : at_ kL_law 1230 = (0, oIload 3 1231) := rfl
theorem aL_law_1231 : at_ kL_law 1231 = (0, oPush (vI 1) 1232) := rfl
theorem aL_law_1232 : at_ kL_law 1232 = (0, oIadd 1233) := rfl
theorem aL_law_1233 : at_ kL_law 1233 = (0, oIaldX 1234) := rfl
theorem aL_law_1234 : at_ kL_law 1234 = (0, oRload 0 1235) := rfl
theorem aL_law_1235 : at_ kL_law 1235 = (0, oIload 3 1236) := rfl
theorem aL_law_1236 : at_ kL_law 1236 = (0, oPush (vI 2) 1237) := rfl
theorem aL_law_1237 : at_ kL_law 1237 = (0, oIadd 1238) := rfl
theorem aL_law_1238 : at_ kL_law 1238 = (0, oIaldX 1239) := rfl
theorem aL_law_1239 : at_ kL_law 1239 = (2, oInvV 13 mX11_kin 2 1242) := rfl
theorem aL_law_1242 : at_ kL_law 1242 = (0, oRload 2 1243) := rfl
theorem aL_law_1243 : at_ kL_law 1243 = (0, oRload 0 1244) := rfl
theorem aL_law_1244 : at_ kL_law 1244 = (0, oIload 3 1245) := rfl
theorem aL_law_1245 : at_ kL_law 1245 = (0, oPush (vI 1) 1246) := rfl
theorem aL_law_1246 : at_ kL_law 1246 = (0, oIadd 1247) := rfl
theorem aL_law_1247 : at_ kL_law 1247 = (0, oIaldX 1248) := rfl
theorem aL_law_1248 : at_ kL_law 1248 = (0, oRload 0 1249) := rfl
theorem aL_law_1249 : at_ kL_law 1249 = (0, oIload 3 1250) := rfl
theorem aL_law_1250 : at_ kL_law 1250 = (0, oPush (vI 2) 1251) := rfl
theorem aL_law_1251 : at_ kL_law 1251 = (0, oIadd 1252) := rfl
theorem aL_law_1252 : at_ kL_law 1252 = (0, oIaldX 1253) := rfl
theorem aL_law_1253 : at_ kL_law 1253 = (2, oInvV 14 mX12_kin 2 1256) := rfl
theorem aL_law_1256 : at_ kL_law 1256 = (0, oIcEq 1718 1259) := rfl
theorem aL_law_1259 : at_ kL_law 1259 = (0, oPush (vI 0) 1260) := rfl
theorem aL_law_1260 : at_ kL_law 1260 = (0, oRetZ) := rfl
theorem aL_law_1261 : at_ kL_law 1261 = (0, oRload 1 1262) := rfl
theorem aL_law_1262 : at_ kL_law 1262 = (0, oRload 0 1263) := rfl
theorem aL_law_1263 : at_ kL_law 1263 = (0, oIload 3 1264) := rfl
theorem aL_law_1264 : at_ kL_law 1264 = (0, oPush (vI 1) 1265) := rfl
theorem aL_law_1265 : at_ kL_law 1265 = (0, oIadd 1266) := rfl
theorem aL_law_1266 : at_ kL_law 1266 = (0, oIaldX 1267) := rfl
theorem aL_law_1267 : at_ kL_law 1267 = (0, oRload 0 1268) := rfl
theorem aL_law_1268 : at_ kL_law 1268 = (0, oIload 3 1269) := rfl
theorem aL_law_1269 : at_ kL_law 1269 = (0, oPush (vI 2) 1270) := rfl
theorem aL_law_1270 : at_ kL_law 1270 = (0, oIadd 1271) := rfl
theorem aL_law_1271 : at_ kL_law 1271 = (0, oIaldX 1272) := rfl
theorem aL_law_1272 : at_ kL_law 1272 = (0, oRload 0 1273) := rfl
theorem aL_law_1273 : at_ kL_law 1273 = (0, oIload 3 1274) := rfl
theorem aL_law_1274 : at_ kL_law 1274 = (0, oPush (vI 3) 1275) := rfl
theorem aL_law_1275 : at_ kL_law 1275 = (0, oIadd 1276) := rfl
theorem aL_law_1276 : at_ kL_law 1276 = (0, oIaldX 1277) := rfl
theorem aL_law_1277 : at_ kL_law 1277 = (2, oInvV 13 mX11_like 3 1280) := rfl
theorem aL_law_1280 : at_ kL_law 1280 = (0, oRload 2 1281) := rfl
theorem aL_law_1281 : at_ kL_law 1281 = (0, oRload 0 1282) := rfl
theorem aL_law_1282 : at_ kL_law 1282 = (0, oIload 3 1283) := rfl
theorem aL_law_1283 : at_ kL_law 1283 = (0, oPush (vI 1) 1284) := rfl
theorem aL_law_1284 : at_ kL_law 1284 = (0, oIadd 1285) := rfl
theorem aL_law_1285 : at_ kL_law 1285 = (0, oIaldX 1286) := rfl
theorem aL_law_1286 : at_ kL_law 1286 = (0, oRload 0 1287) := rfl
theorem aL_law_1287 : at_ kL_law 1287 = (0, oIload 3 1288) := rfl
theorem aL_law_1288 : at_ kL_law 1288 = (0, oPush (vI 2) 1289) := rfl
theorem aL_law_1289 : at_ kL_law 1289 = (0, oIadd 1290) := rfl
theorem aL_law_1290 : at_ kL_law 1290 = (0, oIaldX 1291) := rfl
theorem aL_law_1291 : at_ kL_law 1291 = (0, oRload 0 1292) := rfl
theorem aL_law_1292 : at_ kL_law 1292 = (0, oIload 3 1293) := rfl
theorem aL_law_1293 : at_ kL_law 1293 = (0, oPush (vI 3) 1294) := rfl
theorem aL_law_1294 : at_ kL_law 1294 = (0, oIadd 1295) := rfl
theorem aL_law_1295 : at_ kL_law 1295 = (0, oIaldX 1296) := rfl
theorem aL_law_1296 : at_ kL_law 1296 = (2, oInvV 14 mX12_like 3 1299) := rfl
theorem aL_law_1299 : at_ kL_law 1299 = (0, oIcEq 1718 1302) := rfl
theorem aL_law_1302 : at_ kL_law 1302 = (0, oPush (vI 0) 1303) := rfl
theorem aL_law_1303 : at_ kL_law 1303 = (0, oRetZ) := rfl
theorem aL_law_1304 : at_ kL_law 1304 = (0, oRload 1 1305) := rfl
theorem aL_law_1305 : at_ kL_law 1305 = (0, oRload 0 1306) := rfl
theorem aL_law_1306 : at_ kL_law 1306 = (0, oIload 3 1307) := rfl
theorem aL_law_1307 : at_ kL_law 1307 = (0, oPush (vI 1) 1308) := rfl
theorem aL_law_1308 : at_ kL_law 1308 = (0, oIadd 1309) := rfl
theorem aL_law_1309 : at_ kL_law 1309 = (0, oIaldX 1310) := rfl
theorem aL_law_1310 : at_ kL_law 1310 = (0, oRload 0 1311) := rfl
theorem aL_law_1311 : at_ kL_law 1311 = (0, oIload 3 1312) := rfl
theorem aL_law_1312 : at_ kL_law 1312 = (0, oPush (vI 2) 1313) := rfl
theorem aL_law_1313 : at_ kL_law 1313 = (0, oIadd 1314) := rfl
theorem aL_law_1314 : at_ kL_law 1314 = (0, oIaldX 1315) := rfl
theorem aL_law_1315 : at_ kL_law 1315 = (0, oRload 0 1316) := rfl
theorem aL_law_1316 : at_ kL_law 1316 = (0, oIload 3 1317) := rfl
theorem aL_law_1317 : at_ kL_law 1317 = (0, oPush (vI 3) 1318) := rfl
theorem aL_law_1318 : at_ kL_law 1318 = (0, oIadd 1319) := rfl
theorem aL_law_1319 : at_ kL_law 1319 = (0, oIaldX 1320) := rfl
theorem aL_law_1320 : at_ kL_law 1320 = (2, oInvV 13 mX11_apart 3 1323) := rfl
theorem aL_law_1323 : at_ kL_law 1323 = (0, oRload 2 1324) := rfl
theorem aL_law_1324 : at_ kL_law 1324 = (0, oRload 0 1325) := rfl
theorem aL_law_1325 : at_ kL_law 1325 = (0, oIload 3 1326) := rfl
theorem aL_law_1326 : at_ kL_law 1326 = (0, oPush (vI 1) 1327) := rfl
theorem aL_law_1327 : at_ kL_law 1327 = (0, oIadd 1328) := rfl
theorem aL_law_1328 : at_ kL_law 1328 = (0, oIaldX 1329) := rfl
theorem aL_law_1329 : at_ kL_law 1329 = (0, oRload 0 1330) := rfl
theorem aL_law_1330 : at_ kL_law 1330 = (0, oIload 3 1331) := rfl
theorem aL_law_1331 : at_ kL_law 1331 = (0, oPush (vI 2) 1332) := rfl
theorem aL_law_1332 : at_ kL_law 1332 = (0, oIadd 1333) := rfl
theorem aL_law_1333 : at_ kL_law 1333 = (0, oIaldX 1334) := rfl
theorem aL_law_1334 : at_ kL_law 1334 = (0, oRload 0 1335) := rfl
theorem aL_law_1335 : at_ kL_law 1335 = (0, oIload 3 1336) := rfl
theorem aL_law_1336 : at_ kL_law 1336 = (0, oPush (vI 3) 1337) := rfl
theorem aL_law_1337 : at_ kL_law 1337 = (0, oIadd 1338) := rfl
theorem aL_law_1338 : at_ kL_law 1338 = (0, oIaldX 1339) := rfl
theorem aL_law_1339 : at_ kL_law 1339 = (2, oInvV 14 mX12_apart 3 1342) := rfl
theorem aL_law_1342 : at_ kL_law 1342 = (0, oIcEq 1718 1345) := rfl
theorem aL_law_1345 : at_ kL_law 1345 = (0, oPush (vI 0) 1346) := rfl
theorem aL_law_1346 : at_ kL_law 1346 = (0, oRetZ) := rfl
theorem aL_law_1347 : at_ kL_law 1347 = (0, oRload 1 1348) := rfl
theorem aL_law_1348 : at_ kL_law 1348 = (0, oRload 0 1349) := rfl
theorem aL_law_1349 : at_ kL_law 1349 = (0, oIload 3 1350) := rfl
theorem aL_law_1350 : at_ kL_law 1350 = (0, oPush (vI 1) 1351) := rfl
theorem aL_law_1351 : at_ kL_law 1351 = (0, oIadd 1352) := rfl
theorem aL_law_1352 : at_ kL_law 1352 = (0, oIaldX 1353) := rfl
theorem aL_law_1353 : at_ kL_law 1353 = (0, oRload 0 1354) := rfl
theorem aL_law_1354 : at_ kL_law 1354 = (0, oIload 3 1355) := rfl
theorem aL_law_1355 : at_ kL_law 1355 = (0, oPush (vI 2) 1356) := rfl
theorem aL_law_1356 : at_ kL_law 1356 = (0, oIadd 1357) := rfl
theorem aL_law_1357 : at_ kL_law 1357 = (0, oIaldX 1358) := rfl
theorem aL_law_1358 : at_ kL_law 1358 = (2, oInvV 13 mX11_binding 2 1361) := rfl
theorem aL_law_1361 : at_ kL_law 1361 = (0, oRload 2 1362) := rfl
theorem aL_law_1362 : at_ kL_law 1362 = (0, oRload 0 1363) := rfl
theorem aL_law_1363 : at_ kL_law 1363 = (0, oIload 3 1364) := rfl
theorem aL_law_1364 : at_ kL_law 1364 = (0, oPush (vI 1) 1365) := rfl
theorem aL_law_1365 : at_ kL_law 1365 = (0, oIadd 1366) := rfl
theorem aL_law_1366 : at_ kL_law 1366 = (0, oIaldX 1367) := rfl
theorem aL_law_1367 : at_ kL_law 1367 = (0, oRload 0 1368) := rfl
theorem aL_law_1368 : at_ kL_law 1368 = (0, oIload 3 1369) := rfl
theorem aL_law_1369 : at_ kL_law 1369 = (0, oPush (vI 2) 1370) := rfl
theorem aL_law_1370 : at_ kL_law 1370 = (0, oIadd 1371) := rfl
theorem aL_law_1371 : at_ kL_law 1371 = (0, oIaldX 1372) := rfl
theorem aL_law_1372 : at_ kL_law 1372 = (2, oInvV 14 mX12_binding 2 1375) := rfl
theorem aL_law_1375 : at_ kL_law 1375 = (0, oIcEq 1718 1378) := rfl
theorem aL_law_1378 : at_ kL_law 1378 = (0, oPush (vI 0) 1379) := rfl
theorem aL_law_1379 : at_ kL_law 1379 = (0, oRetZ) := rfl
theorem aL_law_1380 : at_ kL_law 1380 = (0, oRload 1 1381) := rfl
theorem aL_law_1381 : at_ kL_law 1381 = (0, oRload 0 1382) := rfl
theorem aL_law_1382 : at_ kL_law 1382 = (0, oIload 3 1383) := rfl
theorem aL_law_1383 : at_ kL_law 1383 = (0, oPush (vI 1) 1384) := rfl
theorem aL_law_1384 : at_ kL_law 1384 = (0, oIadd 1385) := rfl
theorem aL_law_1385 : at_ kL_law 1385 = (0, oIaldX 1386) := rfl
theorem aL_law_1386 : at_ kL_law 1386 = (0, oRload 0 1387) := rfl
theorem aL_law_1387 : at_ kL_law 1387 = (0, oIload 3 1388) := rfl
theorem aL_law_1388 : at_ kL_law 1388 = (0, oPush (vI 2) 1389) := rfl
theorem aL_law_1389 : at_ kL_law 1389 = (0, oIadd 1390) := rfl
theorem aL_law_1390 : at_ kL_law 1390 = (0, oIaldX 1391) := rfl
theorem aL_law_1391 : at_ kL_law 1391 = (2, oInvV 13 mX11_clash 2 1394) := rfl
theorem aL_law_1394 : at_ kL_law 1394 = (0, oRload 2 1395) := rfl
theorem aL_law_1395 : at_ kL_law 1395 = (0, oRload 0 1396) := rfl
theorem aL_law_1396 : at_ kL_law 1396 = (0, oIload 3 1397) := rfl
theorem aL_law_1397 : at_ kL_law 1397 = (0, oPush (vI 1) 1398) := rfl
theorem aL_law_1398 : at_ kL_law 1398 = (0, oIadd 1399) := rfl
theorem aL_law_1399 : at_ kL_law 1399 = (0, oIaldX 1400) := rfl
theorem aL_law_1400 : at_ kL_law 1400 = (0, oRload 0 1401) := rfl
theorem aL_law_1401 : at_ kL_law 1401 = (0, oIload 3 1402) := rfl
theorem aL_law_1402 : at_ kL_law 1402 = (0, oPush (vI 2) 1403) := rfl
theorem aL_law_1403 : at_ kL_law 1403 = (0, oIadd 1404) := rfl
theorem aL_law_1404 : at_ kL_law 1404 = (0, oIaldX 1405) := rfl
theorem aL_law_1405 : at_ kL_law 1405 = (2, oInvV 14 mX12_clash 2 1408) := rfl
theorem aL_law_1408 : at_ kL_law 1408 = (0, oIcEq 1718 1411) := rfl
theorem aL_law_1411 : at_ kL_law 1411 = (0, oPush (vI 0) 1412) := rfl
theorem aL_law_1412 : at_ kL_law 1412 = (0, oRetZ) := rfl
theorem aL_law_1413 : at_ kL_law 1413 = (0, oRload 1 1414) := rfl
theorem aL_law_1414 : at_ kL_law 1414 = (0, oRload 0 1415) := rfl
theorem aL_law_1415 : at_ kL_law 1415 = (0, oIload 3 1416) := rfl
theorem aL_law_1416 : at_ kL_law 1416 = (0, oPush (vI 1) 1417) := rfl
theorem aL_law_1417 : at_ kL_law 1417 = (0, oIadd 1418) := rfl
theorem aL_law_1418 : at_ kL_law 1418 = (0, oIaldX 1419) := rfl
theorem aL_law_1419 : at_ kL_law 1419 = (0, oRload 0 1420) := rfl
theorem aL_law_1420 : at_ kL_law 1420 = (0, oIload 3 1421) := rfl
theorem aL_law_1421 : at_ kL_law 1421 = (0, oPush (vI 2) 1422) := rfl
theorem aL_law_1422 : at_ kL_law 1422 = (0, oIadd 1423) := rfl
theorem aL_law_1423 : at_ kL_law 1423 = (0, oIaldX 1424) := rfl
theorem aL_law_1424 : at_ kL_law 1424 = (0, oIfEq 1431 1427) := rfl
theorem aL_law_1427 : at_ kL_law 1427 = (0, oPush (vI 1) 1428) := rfl
theorem aL_law_1428 : at_ kL_law 1428 = (0, oGoto 1432) := rfl
theorem aL_law_1431 : at_ kL_law 1431 = (0, oPush (vI 0) 1432) := rfl
theorem aL_law_1432 : at_ kL_law 1432 = (2, oInvV 13 mX11_appeal 2 1435) := rfl
theorem aL_law_1435 : at_ kL_law 1435 = (0, oRload 2 1436) := rfl
theorem aL_law_1436 : at_ kL_law 1436 = (0, oRload 0 1437) := rfl
theorem aL_law_1437 : at_ kL_law 1437 = (0, oIload 3 1438) := rfl
theorem aL_law_1438 : at_ kL_law 1438 = (0, oPush (vI 1) 1439) := rfl
theorem aL_law_1439 : at_ kL_law 1439 = (0, oIadd 1440) := rfl
theorem aL_law_1440 : at_ kL_law 1440 = (0, oIaldX 1441) := rfl
theorem aL_law_1441 : at_ kL_law 1441 = (0, oRload 0 1442) := rfl
theorem aL_law_1442 : at_ kL_law 1442 = (0, oIload 3 1443) := rfl
theorem aL_law_1443 : at_ kL_law 1443 = (0, oPush (vI 2) 1444) := rfl
theorem aL_law_1444 : at_ kL_law 1444 = (0, oIadd 1445) := rfl
theorem aL_law_1445 : at_ kL_law 1445 = (0, oIaldX 1446) := rfl
theorem aL_law_1446 : at_ kL_law 1446 = (0, oIfEq 1453 1449) := rfl
theorem aL_law_1449 : at_ kL_law 1449 = (0, oPush (vI 1) 1450) := rfl
theorem aL_law_1450 : at_ kL_law 1450 = (0, oGoto 1454) := rfl
theorem aL_law_1453 : at_ kL_law 1453 = (0, oPush (vI 0) 1454) := rfl
theorem aL_law_1454 : at_ kL_law 1454 = (2, oInvV 14 mX12_appeal 2 1457) := rfl
theorem aL_law_1457 : at_ kL_law 1457 = (0, oIcEq 1718 1460) := rfl
theorem aL_law_1460 : at_ kL_law 1460 = (0, oPush (vI 0) 1461) := rfl
theorem aL_law_1461 : at_ kL_law 1461 = (0, oRetZ) := rfl
theorem aL_law_1462 : at_ kL_law 1462 = (0, oRload 1 1463) := rfl
theorem aL_law_1463 : at_ kL_law 1463 = (0, oRload 0 1464) := rfl
theorem aL_law_1464 : at_ kL_law 1464 = (0, oIload 3 1465) := rfl
theorem aL_law_1465 : at_ kL_law 1465 = (0, oPush (vI 1) 1466) := rfl
theorem aL_law_1466 : at_ kL_law 1466 = (0, oIadd 1467) := rfl
theorem aL_law_1467 : at_ kL_law 1467 = (0, oIaldX 1468) := rfl
theorem aL_law_1468 : at_ kL_law 1468 = (2, oInvV 13 mX11_step 1 1471) := rfl
theorem aL_law_1471 : at_ kL_law 1471 = (0, oRload 2 1472) := rfl
theorem aL_law_1472 : at_ kL_law 1472 = (0, oRload 0 1473) := rfl
theorem aL_law_1473 : at_ kL_law 1473 = (0, oIload 3 1474) := rfl
theorem aL_law_1474 : at_ kL_law 1474 = (0, oPush (vI 1) 1475) := rfl
theorem aL_law_1475 : at_ kL_law 1475 = (0, oIadd 1476) := rfl
theorem aL_law_1476 : at_ kL_law 1476 = (0, oIaldX 1477) := rfl
theorem aL_law_1477 : at_ kL_law 1477 = (2, oInvV 14 mX12_step 1 1480) := rfl
theorem aL_law_1480 : at_ kL_law 1480 = (0, oIcEq 1718 1483) := rfl
theorem aL_law_1483 : at_ kL_law 1483 = (0, oPush (vI 0) 1484) := rfl
theorem aL_law_1484 : at_ kL_law 1484 = (0, oRetZ) := rfl
theorem aL_law_1485 : at_ kL_law 1485 = (0, oRload 1 1486) := rfl
theorem aL_law_1486 : at_ kL_law 1486 = (0, oRload 0 1487) := rfl
theorem aL_law_1487 : at_ kL_law 1487 = (0, oIload 3 1488) := rfl
theorem aL_law_1488 : at_ kL_law 1488 = (0, oPush (vI 1) 1489) := rfl
theorem aL_law_1489 : at_ kL_law 1489 = (0, oIadd 1490) := rfl
theorem aL_law_1490 : at_ kL_law 1490 = (0, oIaldX 1491) := rfl
theorem aL_law_1491 : at_ kL_law 1491 = (2, oInvV 13 mX11_least 1 1494) := rfl
theorem aL_law_1494 : at_ kL_law 1494 = (0, oRload 2 1495) := rfl
theorem aL_law_1495 : at_ kL_law 1495 = (0, oRload 0 1496) := rfl
theorem aL_law_1496 : at_ kL_law 1496 = (0, oIload 3 1497) := rfl
theorem aL_law_1497 : at_ kL_law 1497 = (0, oPush (vI 1) 1498) := rfl
theorem aL_law_1498 : at_ kL_law 1498 = (0, oIadd 1499) := rfl
theorem aL_law_1499 : at_ kL_law 1499 = (0, oIaldX 1500) := rfl
theorem aL_law_1500 : at_ kL_law 1500 = (2, oInvV 14 mX12_least 1 1503) := rfl
theorem aL_law_1503 : at_ kL_law 1503 = (0, oIcEq 1718 1506) := rfl
theorem aL_law_1506 : at_ kL_law 1506 = (0, oPush (vI 0) 1507) := rfl
theorem aL_law_1507 : at_ kL_law 1507 = (0, oRetZ) := rfl
theorem aL_law_1508 : at_ kL_law 1508 = (0, oRload 1 1509) := rfl
theorem aL_law_1509 : at_ kL_law 1509 = (2, oInvV 13 mX11_leastSet 0 1512) := rfl
theorem aL_law_1512 : at_ kL_law 1512 = (0, oRload 2 1513) := rfl
theorem aL_law_1513 : at_ kL_law 1513 = (2, oInvV 14 mX12_leastSet 0 1516) := rfl
theorem aL_law_1516 : at_ kL_law 1516 = (0, oIcEq 1718 1519) := rfl
theorem aL_law_1519 : at_ kL_law 1519 = (0, oPush (vI 0) 1520) := rfl
theorem aL_law_1520 : at_ kL_law 1520 = (0, oRetZ) := rfl
theorem aL_law_1521 : at_ kL_law 1521 = (0, oRload 1 1522) := rfl
theorem aL_law_1522 : at_ kL_law 1522 = (0, oRload 0 1523) := rfl
theorem aL_law_1523 : at_ kL_law 1523 = (0, oIload 3 1524) := rfl
theorem aL_law_1524 : at_ kL_law 1524 = (0, oPush (vI 1) 1525) := rfl
theorem aL_law_1525 : at_ kL_law 1525 = (0, oIadd 1526) := rfl
theorem aL_law_1526 : at_ kL_law 1526 = (0, oIaldX 1527) := rfl
theorem aL_law_1527 : at_ kL_law 1527 = (0, oRload 0 1528) := rfl
theorem aL_law_1528 : at_ kL_law 1528 = (0, oIload 3 1529) := rfl
theorem aL_law_1529 : at_ kL_law 1529 = (0, oPush (vI 2) 1530) := rfl
theorem aL_law_1530 : at_ kL_law 1530 = (0, oIadd 1531) := rfl
theorem aL_law_1531 : at_ kL_law 1531 = (0, oIaldX 1532) := rfl
theorem aL_law_1532 : at_ kL_law 1532 = (2, oInvV 13 mX11_judge 2 1535) := rfl
theorem aL_law_1535 : at_ kL_law 1535 = (0, oRload 2 1536) := rfl
theorem aL_law_1536 : at_ kL_law 1536 = (0, oRload 0 1537) := rfl
theorem aL_law_1537 : at_ kL_law 1537 = (0, oIload 3 1538) := rfl
theorem aL_law_1538 : at_ kL_law 1538 = (0, oPush (vI 1) 1539) := rfl
theorem aL_law_1539 : at_ kL_law 1539 = (0, oIadd 1540) := rfl
theorem aL_law_1540 : at_ kL_law 1540 = (0, oIaldX 1541) := rfl
theorem aL_law_1541 : at_ kL_law 1541 = (0, oRload 0 1542) := rfl
theorem aL_law_1542 : at_ kL_law 1542 = (0, oIload 3 1543) := rfl
theorem aL_law_1543 : at_ kL_law 1543 = (0, oPush (vI 2) 1544) := rfl
theorem aL_law_1544 : at_ kL_law 1544 = (0, oIadd 1545) := rfl
theorem aL_law_1545 : at_ kL_law 1545 = (0, oIaldX 1546) := rfl
theorem aL_law_1546 : at_ kL_law 1546 = (2, oInvV 14 mX12_judge 2 1549) := rfl
theorem aL_law_1549 : at_ kL_law 1549 = (0, oIcEq 1718 1552) := rfl
theorem aL_law_1552 : at_ kL_law 1552 = (0, oPush (vI 0) 1553) := rfl
theorem aL_law_1553 : at_ kL_law 1553 = (0, oRetZ) := rfl
theorem aL_law_1554 : at_ kL_law 1554 = (0, oRload 1 1555) := rfl
theorem aL_law_1555 : at_ kL_law 1555 = (0, oRload 0 1556) := rfl
theorem aL_law_1556 : at_ kL_law 1556 = (0, oIload 3 1557) := rfl
theorem aL_law_1557 : at_ kL_law 1557 = (0, oPush (vI 1) 1558) := rfl
theorem aL_law_1558 : at_ kL_law 1558 = (0, oIadd 1559) := rfl
theorem aL_law_1559 : at_ kL_law 1559 = (0, oIaldX 1560) := rfl
theorem aL_law_1560 : at_ kL_law 1560 = (2, oInvV 13 mX11_beside 1 1563) := rfl
theorem aL_law_1563 : at_ kL_law 1563 = (0, oRload 2 1564) := rfl
theorem aL_law_1564 : at_ kL_law 1564 = (0, oRload 0 1565) := rfl
theorem aL_law_1565 : at_ kL_law 1565 = (0, oIload 3 1566) := rfl
theorem aL_law_1566 : at_ kL_law 1566 = (0, oPush (vI 1) 1567) := rfl
theorem aL_law_1567 : at_ kL_law 1567 = (0, oIadd 1568) := rfl
theorem aL_law_1568 : at_ kL_law 1568 = (0, oIaldX 1569) := rfl
theorem aL_law_1569 : at_ kL_law 1569 = (2, oInvV 14 mX12_beside 1 1572) := rfl
theorem aL_law_1572 : at_ kL_law 1572 = (0, oIcEq 1718 1575) := rfl
theorem aL_law_1575 : at_ kL_law 1575 = (0, oPush (vI 0) 1576) := rfl
theorem aL_law_1576 : at_ kL_law 1576 = (0, oRetZ) := rfl
theorem aL_law_1577 : at_ kL_law 1577 = (0, oRload 1 1578) := rfl
theorem aL_law_1578 : at_ kL_law 1578 = (0, oRload 0 1579) := rfl
theorem aL_law_1579 : at_ kL_law 1579 = (0, oIload 3 1580) := rfl
theorem aL_law_1580 : at_ kL_law 1580 = (0, oPush (vI 1) 1581) := rfl
theorem aL_law_1581 : at_ kL_law 1581 = (0, oIadd 1582) := rfl
theorem aL_law_1582 : at_ kL_law 1582 = (0, oIaldX 1583) := rfl
theorem aL_law_1583 : at_ kL_law 1583 = (0, oRload 0 1584) := rfl
theorem aL_law_1584 : at_ kL_law 1584 = (0, oIload 3 1585) := rfl
theorem aL_law_1585 : at_ kL_law 1585 = (0, oPush (vI 2) 1586) := rfl
theorem aL_law_1586 : at_ kL_law 1586 = (0, oIadd 1587) := rfl
theorem aL_law_1587 : at_ kL_law 1587 = (0, oIaldX 1588) := rfl
theorem aL_law_1588 : at_ kL_law 1588 = (0, oRload 0 1589) := rfl
theorem aL_law_1589 : at_ kL_law 1589 = (0, oIload 3 1590) := rfl
theorem aL_law_1590 : at_ kL_law 1590 = (0, oPush (vI 3) 1591) := rfl
theorem aL_law_1591 : at_ kL_law 1591 = (0, oIadd 1592) := rfl
theorem aL_law_1592 : at_ kL_law 1592 = (0, oIaldX 1593) := rfl
theorem aL_law_1593 : at_ kL_law 1593 = (0, oIfEq 1600 1596) := rfl
theorem aL_law_1596 : at_ kL_law 1596 = (0, oPush (vI 1) 1597) := rfl
theorem aL_law_1597 : at_ kL_law 1597 = (0, oGoto 1601) := rfl
theorem aL_law_1600 : at_ kL_law 1600 = (0, oPush (vI 0) 1601) := rfl
theorem aL_law_1601 : at_ kL_law 1601 = (2, oInvV 13 mX11_stop 3 1604) := rfl
theorem aL_law_1604 : at_ kL_law 1604 = (0, oRload 2 1605) := rfl
theorem aL_law_1605 : at_ kL_law 1605 = (0, oRload 0 1606) := rfl
theorem aL_law_1606 : at_ kL_law 1606 = (0, oIload 3 1607) := rfl
theorem aL_law_1607 : at_ kL_law 1607 = (0, oPush (vI 1) 1608) := rfl
theorem aL_law_1608 : at_ kL_law 1608 = (0, oIadd 1609) := rfl
theorem aL_law_1609 : at_ kL_law 1609 = (0, oIaldX 1610) := rfl
theorem aL_law_1610 : at_ kL_law 1610 = (0, oRload 0 1611) := rfl
theorem aL_law_1611 : at_ kL_law 1611 = (0, oIload 3 1612) := rfl
theorem aL_law_1612 : at_ kL_law 1612 = (0, oPush (vI 2) 1613) := rfl
theorem aL_law_1613 : at_ kL_law 1613 = (0, oIadd 1614) := rfl
theorem aL_law_1614 : at_ kL_law 1614 = (0, oIaldX 1615) := rfl
theorem aL_law_1615 : at_ kL_law 1615 = (0, oRload 0 1616) := rfl
theorem aL_law_1616 : at_ kL_law 1616 = (0, oIload 3 1617) := rfl
theorem aL_law_1617 : at_ kL_law 1617 = (0, oPush (vI 3) 1618) := rfl
theorem aL_law_1618 : at_ kL_law 1618 = (0, oIadd 1619) := rfl
theorem aL_law_1619 : at_ kL_law 1619 = (0, oIaldX 1620) := rfl
theorem aL_law_1620 : at_ kL_law 1620 = (0, oIfEq 1627 1623) := rfl
theorem aL_law_1623 : at_ kL_law 1623 = (0, oPush (vI 1) 1624) := rfl
theorem aL_law_1624 : at_ kL_law 1624 = (0, oGoto 1628) := rfl
theorem aL_law_1627 : at_ kL_law 1627 = (0, oPush (vI 0) 1628) := rfl
theorem aL_law_1628 : at_ kL_law 1628 = (2, oInvV 14 mX12_stop 3 1631) := rfl
theorem aL_law_1631 : at_ kL_law 1631 = (0, oIcEq 1718 1634) := rfl
theorem aL_law_1634 : at_ kL_law 1634 = (0, oPush (vI 0) 1635) := rfl
theorem aL_law_1635 : at_ kL_law 1635 = (0, oRetZ) := rfl
theorem aL_law_1636 : at_ kL_law 1636 = (0, oRload 1 1637) := rfl
theorem aL_law_1637 : at_ kL_law 1637 = (0, oRload 0 1638) := rfl
theorem aL_law_1638 : at_ kL_law 1638 = (0, oIload 3 1639) := rfl
theorem aL_law_1639 : at_ kL_law 1639 = (0, oPush (vI 1) 1640) := rfl
theorem aL_law_1640 : at_ kL_law 1640 = (0, oIadd 1641) := rfl
theorem aL_law_1641 : at_ kL_law 1641 = (0, oIaldX 1642) := rfl
theorem aL_law_1642 : at_ kL_law 1642 = (0, oRload 0 1643) := rfl
theorem aL_law_1643 : at_ kL_law 1643 = (0, oIload 3 1644) := rfl
theorem aL_law_1644 : at_ kL_law 1644 = (0, oPush (vI 2) 1645) := rfl
theorem aL_law_1645 : at_ kL_law 1645 = (0, oIadd 1646) := rfl
theorem aL_law_1646 : at_ kL_law 1646 = (0, oIaldX 1647) := rfl
theorem aL_law_1647 : at_ kL_law 1647 = (0, oRload 0 1648) := rfl
theorem aL_law_1648 : at_ kL_law 1648 = (0, oIload 3 1649) := rfl
theorem aL_law_1649 : at_ kL_law 1649 = (0, oPush (vI 3) 1650) := rfl
theorem aL_law_1650 : at_ kL_law 1650 = (0, oIadd 1651) := rfl
theorem aL_law_1651 : at_ kL_law 1651 = (0, oIaldX 1652) := rfl
theorem aL_law_1652 : at_ kL_law 1652 = (0, oIfEq 1659 1655) := rfl
theorem aL_law_1655 : at_ kL_law 1655 = (0, oPush (vI 1) 1656) := rfl
theorem aL_law_1656 : at_ kL_law 1656 = (0, oGoto 1660) := rfl
theorem aL_law_1659 : at_ kL_law 1659 = (0, oPush (vI 0) 1660) := rfl
theorem aL_law_1660 : at_ kL_law 1660 = (2, oInvV 13 mX11_stopped 3 1663) := rfl
theorem aL_law_1663 : at_ kL_law 1663 = (0, oRload 2 1664) := rfl
theorem aL_law_1664 : at_ kL_law 1664 = (0, oRload 0 1665) := rfl
theorem aL_law_1665 : at_ kL_law 1665 = (0, oIload 3 1666) := rfl
theorem aL_law_1666 : at_ kL_law 1666 = (0, oPush (vI 1) 1667) := rfl
theorem aL_law_1667 : at_ kL_law 1667 = (0, oIadd 1668) := rfl
theorem aL_law_1668 : at_ kL_law 1668 = (0, oIaldX 1669) := rfl
theorem aL_law_1669 : at_ kL_law 1669 = (0, oRload 0 1670) := rfl
theorem aL_law_1670 : at_ kL_law 1670 = (0, oIload 3 1671) := rfl
theorem aL_law_1671 : at_ kL_law 1671 = (0, oPush (vI 2) 1672) := rfl
theorem aL_law_1672 : at_ kL_law 1672 = (0, oIadd 1673) := rfl
theorem aL_law_1673 : at_ kL_law 1673 = (0, oIaldX 1674) := rfl
theorem aL_law_1674 : at_ kL_law 1674 = (0, oRload 0 1675) := rfl
theorem aL_law_1675 : at_ kL_law 1675 = (0, oIload 3 1676) := rfl
theorem aL_law_1676 : at_ kL_law 1676 = (0, oPush (vI 3) 1677) := rfl
theorem aL_law_1677 : at_ kL_law 1677 = (0, oIadd 1678) := rfl
theorem aL_law_1678 : at_ kL_law 1678 = (0, oIaldX 1679) := rfl
theorem aL_law_1679 : at_ kL_law 1679 = (0, oIfEq 1686 1682) := rfl
theorem aL_law_1682 : at_ kL_law 1682 = (0, oPush (vI 1) 1683) := rfl
theorem aL_law_1683 : at_ kL_law 1683 = (0, oGoto 1687) := rfl
theorem aL_law_1686 : at_ kL_law 1686 = (0, oPush (vI 0) 1687) := rfl
theorem aL_law_1687 : at_ kL_law 1687 = (2, oInvV 14 mX12_stopped 3 1690) := rfl
theorem aL_law_1690 : at_ kL_law 1690 = (0, oIcEq 1718 1693) := rfl
theorem aL_law_1693 : at_ kL_law 1693 = (0, oPush (vI 0) 1694) := rfl
theorem aL_law_1694 : at_ kL_law 1694 = (0, oRetZ) := rfl
theorem aL_law_1695 : at_ kL_law 1695 = (0, oRload 1 1696) := rfl
theorem aL_law_1696 : at_ kL_law 1696 = (0, oRload 0 1697) := rfl
theorem aL_law_1697 : at_ kL_law 1697 = (0, oIload 3 1698) := rfl
theorem aL_law_1698 : at_ kL_law 1698 = (0, oPush (vI 1) 1699) := rfl
theorem aL_law_1699 : at_ kL_law 1699 = (0, oIadd 1700) := rfl
theorem aL_law_1700 : at_ kL_law 1700 = (0, oIaldX 1701) := rfl
theorem aL_law_1701 : at_ kL_law 1701 = (2, oInvV 13 mX11_status 1 1704) := rfl
theorem aL_law_1704 : at_ kL_law 1704 = (0, oRload 2 1705) := rfl
theorem aL_law_1705 : at_ kL_law 1705 = (0, oRload 0 1706) := rfl
theorem aL_law_1706 : at_ kL_law 1706 = (0, oIload 3 1707) := rfl
theorem aL_law_1707 : at_ kL_law 1707 = (0, oPush (vI 1) 1708) := rfl
theorem aL_law_1708 : at_ kL_law 1708 = (0, oIadd 1709) := rfl
theorem aL_law_1709 : at_ kL_law 1709 = (0, oIaldX 1710) := rfl
theorem aL_law_1710 : at_ kL_law 1710 = (2, oInvV 14 mX12_status 1 1713) := rfl
theorem aL_law_1713 : at_ kL_law 1713 = (0, oIcEq 1718 1716) := rfl
theorem aL_law_1716 : at_ kL_law 1716 = (0, oPush (vI 0) 1717) := rfl
theorem aL_law_1717 : at_ kL_law 1717 = (0, oRetZ) := rfl
theorem aL_law_1718 : at_ kL_law 1718 = (0, oIinc 3 6 1721) := rfl
theorem aL_law_1721 : at_ kL_law 1721 = (0, oGoto 18) := rfl
theorem aL_law_1724 : at_ kL_law 1724 = (0, oPush (vI 1) 1725) := rfl
theorem aL_law_1725 : at_ kL_law 1725 = (0, oRetZ) := rfl
