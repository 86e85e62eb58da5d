theorem lw_c0 {G : zG} {X : zX} {w : zW} {b j N : Nat} {xs : Nat → Int32} (hX : zOk G X code 4 "LetterWallsLaw" 2048) (hs : zscr X b N xs) (hN : N ≤ 384) (hj : j + 6 ≤ N) (hR : Rel w) (k : ∀ w2, Rel w2 → zZ G X w2 1478 (lwL G b j) []) : zZ G X w 208 (lwL G b j) [] := by
  obtain ⟨r, w1, w2, h1, h2, h3⟩ := op_wall hR ((lwA xs j 1)) ((lwA xs j 2))
  refine z_aload_n 208 hX dL_law_208 rfl ?_
  refine z_aload_n 209 hX dL_law_209 rfl ?_
  refine z_iload_n 210 hX dL_law_210 rfl ?_
  refine z_iconst (v := nI 1) 211 hX dL_law_211 (by decide +kernel) ?_
  refine z_iadd 212 hX dL_law_212 ?_
  refine z_sld 213 hX dL_law_213 hs (lw_inL hN hj (by decide)) ?_
  refine z_aload_n 214 hX dL_law_214 rfl ?_
  refine z_iload_n 215 hX dL_law_215 rfl ?_
  refine z_iconst (v := nI 2) 216 hX dL_law_216 (by decide +kernel) ?_
  refine z_iadd 217 hX dL_law_217 ?_
  refine z_sld 218 hX dL_law_218 hs (lw_inL hN hj (by decide)) ?_
  refine z_callV (C := RX11) (T := TX11) (N := 11) (As := [.int (lwA xs j 1), .int (lwA xs j 2)]) (rest := []) 219 hX dL_law_219 (c_X11_wall (zgd0 hX) h1) zw439 zw440 zw441 zw72 zw442 zdl_X11_wall (rfl : shp 0 = (11, 0)) (by decide) rfl rfl rfl rfl (Nat.le_of_ble_eq_true rfl) (Nat.le_of_ble_eq_true rfl) (Nat.le_of_ble_eq_true rfl) ?_
  refine z_aload_n 222 hX dL_law_222 rfl ?_
  refine z_aload_n 223 hX dL_law_223 rfl ?_
  refine z_iload_n 224 hX dL_law_224 rfl ?_
  refine z_iconst (v := nI 1) 225 hX dL_law_225 (by decide +kernel) ?_
  refine z_iadd 226 hX dL_law_226 ?_
  refine z_sld 227 hX dL_law_227 hs (lw_inL hN hj (by decide)) ?_
  refine z_aload_n 228 hX dL_law_228 rfl ?_
  refine z_iload_n 229 hX dL_law_229 rfl ?_
  refine z_iconst (v := nI 2) 230 hX dL_law_230 (by decide +kernel) ?_
  refine z_iadd 231 hX dL_law_231 ?_
  refine z_sld 232 hX dL_law_232 hs (lw_inL hN hj (by decide)) ?_
  refine z_callV (C := RX12) (T := TX12) (N := 28) (As := [.int (lwA xs j 1), .int (lwA xs j 2)]) (rest := [.int r]) 233 hX dL_law_233 (c_X12_wall (zgd0 hX) h2) zw1183 zw1184 zw1185 zw84 zw1186 zdl_X12_wall (rfl : shp 128 = (12, 0)) (by decide) rfl rfl rfl rfl (Nat.le_of_ble_eq_true rfl) (Nat.le_of_ble_eq_true rfl) (Nat.le_of_ble_eq_true rfl) ?_
  exact z_icmp_eq (inst := inferInstance) (E1 := some ()) (E2 := some ()) (r := ()) 236 1478 hX dL_law_236 (by decide) (ite_self _) (fun _ _ => k w2 h3) (fun q _ => absurd rfl q)
theorem lw_c1 {G : zG} {X : zX} {w : zW} {b j N : Nat} {xs : Nat → Int32} (hX : zOk G X code 4 "LetterWallsLaw" 2048) (hs : zscr X b N xs) (hN : N ≤ 384) (hj : j + 6 ≤ N) (hR : Rel w) (k : ∀ w2, Rel w2 → zZ G X w2 1478 (lwL G b j) []) : zZ G X w 241 (lwL G b j) [] := by
  obtain ⟨r, w1, w2, h1, h2, h3⟩ := op_wallIs hR ((lwA xs j 1)) ((lwA xs j 2))
  refine z_aload_n 241 hX dL_law_241 rfl ?_
  refine z_aload_n 242 hX dL_law_242 rfl ?_
  refine z_iload_n 243 hX dL_law_243 rfl ?_
  refine z_iconst (v := nI 1) 244 hX dL_law_244 (by decide +kernel) ?_
  refine z_iadd 245 hX dL_law_245 ?_
  refine z_sld 246 hX dL_law_246 hs (lw_inL hN hj (by decide)) ?_
  refine z_aload_n 247 hX dL_law_247 rfl ?_
  refine z_iload_n 248 hX dL_law_248 rfl ?_
  refine z_iconst (v := nI 2) 249 hX dL_law_249 (by decide +kernel) ?_
  refine z_iadd 250 hX dL_law_250 ?_
  refine z_sld 251 hX dL_law_251 hs (lw_inL hN hj (by decide)) ?_
  refine z_callV (C := RX11) (T := TX11) (N := 11) (As := [.int (lwA xs j 1), .int (lwA xs j 2)]) (rest := []) 252 hX dL_law_252 (c_X11_wallIs (zgd0 hX) h1) zw455 zw456 zw457 zw72 zw458 zdl_X11_wallIs (rfl : shp 0 = (11, 0)) (by decide) rfl rfl rfl rfl (Nat.le_of_ble_eq_true rfl) (Nat.le_of_ble_eq_true rfl) (Nat.le_of_ble_eq_true rfl) ?_
  refine z_aload_n 255 hX dL_law_255 rfl ?_
  refine z_aload_n 256 hX dL_law_256 rfl ?_
  refine z_iload_n 257 hX dL_law_257 rfl ?_
  refine z_iconst (v := nI 1) 258 hX dL_law_258 (by decide +kernel) ?_
  refine z_iadd 259 hX dL_law_259 ?_
  refine z_sld 260 hX dL_law_260 hs (lw_inL hN hj (by decide)) ?_
  refine z_aload_n 261 hX dL_law_261 rfl ?_
  refine z_iload_n 262 hX dL_law_262 rfl ?_
  refine z_iconst (v := nI 2) 263 hX dL_law_263 (by decide +kernel) ?_
  refine z_iadd 264 hX dL_law_264 ?_
  refine z_sld 265 hX dL_law_265 hs (lw_inL hN hj (by decide)) ?_
  refine z_callV (C := RX12) (T := TX12) (N := 28) (As := [.int (lwA xs j 1), .int (lwA xs j 2)]) (rest := [.int r]) 266 hX dL_law_266 (c_X12_wallIs (zgd0 hX) h2) zw1187 zw1188 zw1189 zw84 zw1190 zdl_X12_wallIs (rfl : shp 128 = (12, 0)) (by decide) rfl rfl rfl rfl (Nat.le_of_ble_eq_true rfl) (Nat.le_of_ble_eq_true rfl) (Nat.le_of_ble_eq_true rfl) ?_
  exact z_icmp_eq (inst := inferInstance) (E1 := some ()) (E2 := some ()) (r := ()) 269 1478 hX dL_law_269 (by decide) (ite_self _) (fun _ _ => k w2 h3) (fun q _ => absurd rfl q)
theorem lw_c2 {G : zG} {X : zX} {w : zW} {b j N : Nat} {xs : Nat → Int32} (hX : zOk G X code 4 "LetterWallsLaw" 2048) (hs : zscr X b N xs) (hN : N ≤ 384) (hj : j + 6 ≤ N) (hR : Rel w) (k : ∀ w2, Rel w2 → zZ G X w2 1478 (lwL G b j) []) : zZ G X w 274 (lwL G b j) [] := by
  obtain ⟨r, w1, w2, h1, h2, h3⟩ := op_as hR ((lwA xs j 1)) ((lwA xs j 2))
  refine z_aload_n 274 hX dL_law_274 rfl ?_
  refine z_aload_n 275 hX dL_law_275 rfl ?_
  refine z_iload_n 276 hX dL_law_276 rfl ?_
  refine z_iconst (v := nI 1) 277 hX dL_law_277 (by decide +kernel) ?_
  refine z_iadd 278 hX dL_law_278 ?_
  refine z_sld 279 hX dL_law_279 hs (lw_inL hN hj (by decide)) ?_
  refine z_aload_n 280 hX dL_law_280 rfl ?_
  refine z_iload_n 281 hX dL_law_281 rfl ?_
  refine z_iconst (v := nI 2) 282 hX dL_law_282 (by decide +kernel) ?_
  refine z_iadd 283 hX dL_law_283 ?_
  refine z_sld 284 hX dL_law_284 hs (lw_inL hN hj (by decide)) ?_
  refine z_callV (C := RX11) (T := TX11) (N := 11) (As := [.int (lwA xs j 1), .int (lwA xs j 2)]) (rest := []) 285 hX dL_law_285 (c_X11_as (zgd0 hX) h1) zw557 zw558 zw559 zw72 zw560 zdl_X11_as (rfl : shp 0 = (11, 0)) (by decide) rfl rfl rfl rfl (Nat.le_of_ble_eq_true rfl) (Nat.le_of_ble_eq_true rfl) (Nat.le_of_ble_eq_true rfl) ?_
  refine z_aload_n 288 hX dL_law_288 rfl ?_
  refine z_aload_n 289 hX dL_law_289 rfl ?_
  refine z_iload_n 290 hX dL_law_290 rfl ?_
  refine z_iconst (v := nI 1) 291 hX dL_law_291 (by decide +kernel) ?_
  refine z_iadd 292 hX dL_law_292 ?_
  refine z_sld 293 hX dL_law_293 hs (lw_inL hN hj (by decide)) ?_
  refine z_aload_n 294 hX dL_law_294 rfl ?_
  refine z_iload_n 295 hX dL_law_295 rfl ?_
  refine z_iconst (v := nI 2) 296 hX dL_law_296 (by decide +kernel) ?_
  refine z_iadd 297 hX dL_law_297 ?_
  refine z_sld 298 hX dL_law_298 hs (lw_inL hN hj (by decide)) ?_
  refine z_callV (C := RX12) (T := TX12) (N := 28) (As := [.int (lwA xs j 1), .int (lwA xs j 2)]) (rest := [.int r]) 299 hX dL_law_299 (c_X12_as (zgd0 hX) h2) zw1268 zw1269 zw1270 zw84 zw1271 zdl_X12_as (rfl : shp 128 = (12, 0)) (by decide) rfl rfl rfl rfl (Nat.le_of_ble_eq_true rfl) (Nat.le_of_ble_eq_true rfl) (Nat.le_of_ble_eq_true rfl) ?_
  exact z_icmp_eq (inst := inferInstance) (E1 := some ()) (E2 := some ()) (r := ()) 302 1478 hX dL_law_302 (by decide) (ite_self _) (fun _ _ => k w2 h3) (fun q _ => absurd rfl q)
theorem lw_c3 {G : zG} {X : zX} {w : zW} {b j N : Nat} {xs : Nat → Int32} (hX : zOk G X code 4 "LetterWallsLaw" 2048) (hs : zscr X b N xs) (hN : N ≤ 384) (hj : j + 6 ≤ N) (hR : Rel w) (k : ∀ w2, Rel w2 → zZ G X w2 1478 (lwL G b j) []) : zZ G X w 307 (lwL G b j) [] := by
  obtain ⟨r, w1, w2, h1, h2, h3⟩ := op_set hR ((lwA xs j 1)) ((lwA xs j 2)) ((lwA xs j 3))
  refine z_aload_n 307 hX dL_law_307 rfl ?_
  refine z_aload_n 308 hX dL_law_308 rfl ?_
  refine z_iload_n 309 hX dL_law_309 rfl ?_
  refine z_iconst (v := nI 1) 310 hX dL_law_310 (by decide +kernel) ?_
  refine z_iadd 311 hX dL_law_311 ?_
  refine z_sld 312 hX dL_law_312 hs (lw_inL hN hj (by decide)) ?_
  refine z_aload_n 313 hX dL_law_313 rfl ?_
  refine z_iload_n 314 hX dL_law_314 rfl ?_
  refine z_iconst (v := nI 2) 315 hX dL_law_315 (by decide +kernel) ?_
  refine z_iadd 316 hX dL_law_316 ?_
  refine z_sld 317 hX dL_law_317 hs (lw_inL hN hj (by decide)) ?_
  refine z_aload_n 318 hX dL_law_318 rfl ?_
  refine z_iload_n 319 hX dL_law_319 rfl ?_
  refine z_iconst (v := nI 3) 320 hX dL_law_320 (by decide +kernel) ?_
  refine z_iadd 321 hX dL_law_321 ?_
  refine z_sld 322 hX dL_law_322 hs (lw_inL hN hj (by decide)) ?_
  refine z_callV (C := RX11) (T := TX11) (N := 11) (As := [.int (lwA xs j 1), .int (lwA xs j 2), .int (lwA xs j 3)]) (rest := []) 323 hX dL_law_323 (c_X11_set (zgd0 hX) h1) zw562 zw563 zw564 zw72 zw565 zdl_X11_set (rfl : shp 0 = (11, 0)) (by decide) rfl rfl rfl rfl (Nat.le_of_ble_eq_true rfl) (Nat.le_of_ble_eq_true rfl) (Nat.le_of_ble_eq_true rfl) ?_
  refine z_aload_n 326 hX dL_law_326 rfl ?_
  refine z_aload_n 327 hX dL_law_327 rfl ?_
  refine z_iload_n 328 hX dL_law_328 rfl ?_
  refine z_iconst (v := nI 1) 329 hX dL_law_329 (by decide +kernel) ?_
  refine z_iadd 330 hX dL_law_330 ?_
  refine z_sld 331 hX dL_law_331 hs (lw_inL hN hj (by decide)) ?_
  refine z_aload_n 332 hX dL_law_332 rfl ?_
  refine z_iload_n 333 hX dL_law_333 rfl ?_
  refine z_iconst (v := nI 2) 334 hX dL_law_334 (by decide +kernel) ?_
  refine z_iadd 335 hX dL_law_335 ?_
  refine z_sld 336 hX dL_law_336 hs (lw_inL hN hj (by decide)) ?_
  refine z_aload_n 337 hX dL_law_337 rfl ?_
  refine z_iload_n 338 hX dL_law_338 rfl ?_
  refine z_iconst (v := nI 3) 339 hX dL_law_339 (by decide +kernel) ?_
  refine z_iadd 340 hX dL_law_340 ?_
  refine z_sld 341 hX dL_law_341 hs (lw_inL hN hj (by decide)) ?_
  refine z_callV (C := RX12) (T := TX12) (N := 28) (As := [.int (lwA xs j 1), .int (lwA xs j 2), .int (lwA xs j 3)]) (rest := [.int r]) 342 hX dL_law_342 (c_X12_set (zgd0 hX) h2) zw1275 zw1276 zw1277 zw84 zw1278 zdl_X12_set (rfl : shp 128 = (12, 0)) (by decide) rfl rfl rfl rfl (Nat.le_of_ble_eq_true rfl) (Nat.le_of_ble_eq_true rfl) (Nat.le_of_ble_eq_true rfl) ?_
  exact z_icmp_eq (inst := inferInstance) (E1 := some ()) (E2 := some ()) (r := ()) 345 1478 hX dL_law_345 (by decide) (ite_self _) (fun _ _ => k w2 h3) (fun q _ => absurd rfl q)
theorem lw_c4 {G : zG} {X : zX} {w : zW} {b j N : Nat} {xs : Nat → Int32} (hX : zOk G X code 4 "LetterWallsLaw" 2048) (hs : zscr X b N xs) (hN : N ≤ 384) (hj : j + 6 ≤ N) (hR : Rel w) (k : ∀ w2, Rel w2 → zZ G X w2 1478 (lwL G b j) []) : zZ G X w 350 (lwL G b j) [] := by
  obtain ⟨r, w1, w2, h1, h2, h3⟩ := op_brick hR ((lwA xs j 1)) ((lwA xs j 2)) ((lwA xs j 3))
  refine z_aload_n 350 hX dL_law_350 rfl ?_
  refine z_aload_n 351 hX dL_law_351 rfl ?_
  refine z_iload_n 352 hX dL_law_352 rfl ?_
  refine z_iconst (v := nI 1) 353 hX dL_law_353 (by decide +kernel) ?_
  refine z_iadd 354 hX dL_law_354 ?_
  refine z_sld 355 hX dL_law_355 hs (lw_inL hN hj (by decide)) ?_
  refine z_aload_n 356 hX dL_law_356 rfl ?_
  refine z_iload_n 357 hX dL_law_357 rfl ?_
  refine z_iconst (v := nI 2) 358 hX dL_law_358 (by decide +kernel) ?_
  refine z_iadd 359 hX dL_law_359 ?_
  refine z_sld 360 hX dL_law_360 hs (lw_inL hN hj (by decide)) ?_
  refine z_aload_n 361 hX dL_law_361 rfl ?_
  refine z_iload_n 362 hX dL_law_362 rfl ?_
  refine z_iconst (v := nI 3) 363 hX dL_law_363 (by decide +kernel) ?_
  refine z_iadd 364 hX dL_law_364 ?_
  refine z_sld 365 hX dL_law_365 hs (lw_inL hN hj (by decide)) ?_
  refine z_callV (C := RX11) (T := TX11) (N := 11) (As := [.int (lwA xs j 1), .int (lwA xs j 2), .int (lwA xs j 3)]) (rest := []) 366 hX dL_law_366 (c_X11_brick (zgd0 hX) h1) zw566 zw567 zw568 zw72 zw569 zdl_X11_brick (rfl : shp 0 = (11, 0)) (by decide) rfl rfl rfl rfl (Nat.le_of_ble_eq_true rfl) (Nat.le_of_ble_eq_true rfl) (Nat.le_of_ble_eq_true rfl) ?_
  refine z_aload_n 369 hX dL_law_369 rfl ?_
  refine z_aload_n 370 hX dL_law_370 rfl ?_
  refine z_iload_n 371 hX dL_law_371 rfl ?_
  refine z_iconst (v := nI 1) 372 hX dL_law_372 (by decide +kernel) ?_
  refine z_iadd 373 hX dL_law_373 ?_
  refine z_sld 374 hX dL_law_374 hs (lw_inL hN hj (by decide)) ?_
  refine z_aload_n 375 hX dL_law_375 rfl ?_
  refine z_iload_n 376 hX dL_law_376 rfl ?_
  refine z_iconst (v := nI 2) 377 hX dL_law_377 (by decide +kernel) ?_
  refine z_iadd 378 hX dL_law_378 ?_
  refine z_sld 379 hX dL_law_379 hs (lw_inL hN hj (by decide)) ?_
  refine z_aload_n 380 hX dL_law_380 rfl ?_
  refine z_iload_n 381 hX dL_law_381 rfl ?_
  refine z_iconst (v := nI 3) 382 hX dL_law_382 (by decide +kernel) ?_
  refine z_iadd 383 hX dL_law_383 ?_
  refine z_sld 384 hX dL_law_384 hs (lw_inL hN hj (by decide)) ?_
  refine z_callV (C := RX12) (T := TX12) (N := 28) (As := [.int (lwA xs j 1), .int (lwA xs j 2), .int (lwA xs j 3)]) (rest := [.int r]) 385 hX dL_law_385 (c_X12_brick (zgd0 hX) h2) zw1279 zw1280 zw1281 zw84 zw1282 zdl_X12_brick (rfl : shp 128 = (12, 0)) (by decide) rfl rfl rfl rfl (Nat.le_of_ble_eq_true rfl) (Nat.le_of_ble_eq_true rfl) (Nat.le_of_ble_eq_true rfl) ?_
  exact z_icmp_eq (inst := inferInstance) (E1 := some ()) (E2 := some ()) (r := ()) 388 1478 hX dL_law_388 (by decide) (ite_self _) (fun _ _ => k w2 h3) (fun q _ => absurd rfl q)
theorem lw_c5 {G : zG} {X : zX} {w : zW} {b j N : Nat} {xs : Nat → Int32} (hX : zOk G X code 4 "LetterWallsLaw" 2048) (hs : zscr X b N xs) (hN : N ≤ 384) (hj : j + 6 ≤ N) (hR : Rel w) (k : ∀ w2, Rel w2 → zZ G X w2 1478 (lwL G b j) []) : zZ G X w 393 (lwL G b j) [] := by
  obtain ⟨r, w1, w2, h1, h2, h3⟩ := op_brickOf hR ((lwA xs j 1)) ((lwA xs j 2))
  refine z_aload_n 393 hX dL_law_393 rfl ?_
  refine z_aload_n 394 hX dL_law_394 rfl ?_
  refine z_iload_n 395 hX dL_law_395 rfl ?_
  refine z_iconst (v := nI 1) 396 hX dL_law_396 (by decide +kernel) ?_
  refine z_iadd 397 hX dL_law_397 ?_
  refine z_sld 398 hX dL_law_398 hs (lw_inL hN hj (by decide)) ?_
  refine z_aload_n 399 hX dL_law_399 rfl ?_
  refine z_iload_n 400 hX dL_law_400 rfl ?_
  refine z_iconst (v := nI 2) 401 hX dL_law_401 (by decide +kernel) ?_
  refine z_iadd 402 hX dL_law_402 ?_
  refine z_sld 403 hX dL_law_403 hs (lw_inL hN hj (by decide)) ?_
  refine z_callV (C := RX11) (T := TX11) (N := 11) (As := [.int (lwA xs j 1), .int (lwA xs j 2)]) (rest := []) 404 hX dL_law_404 (c_X11_brickOf (zgd0 hX) h1) zw574 zw575 zw576 zw72 zw577 zdl_X11_brickOf (rfl : shp 0 = (11, 0)) (by decide) rfl rfl rfl rfl (Nat.le_of_ble_eq_true rfl) (Nat.le_of_ble_eq_true rfl) (Nat.le_of_ble_eq_true rfl) ?_
  refine z_aload_n 407 hX dL_law_407 rfl ?_
  refine z_aload_n 408 hX dL_law_408 rfl ?_
  refine z_iload_n 409 hX dL_law_409 rfl ?_
  refine z_iconst (v := nI 1) 410 hX dL_law_410 (by decide +kernel) ?_
  refine z_iadd 411 hX dL_law_411 ?_
  refine z_sld 412 hX dL_law_412 hs (lw_inL hN hj (by decide)) ?_
  refine z_aload_n 413 hX dL_law_413 rfl ?_
  refine z_iload_n 414 hX dL_law_414 rfl ?_
  refine z_iconst (v := nI 2) 415 hX dL_law_415 (by decide +kernel) ?_
  refine z_iadd 416 hX dL_law_416 ?_
  refine z_sld 417 hX dL_law_417 hs (lw_inL hN hj (by decide)) ?_
  refine z_callV (C := RX12) (T := TX12) (N := 28) (As := [.int (lwA xs j 1), .int (lwA xs j 2)]) (rest := [.int r]) 418 hX dL_law_418 (c_X12_brickOf (zgd0 hX) h2) zw1287 zw1288 zw1289 zw84 zw1290 zdl_X12_brickOf (rfl : shp 128 = (12, 0)) (by decide) rfl rfl rfl rfl (Nat.le_of_ble_eq_true rfl) (Nat.le_of_ble_eq_true rfl) (Nat.le_of_ble_eq_true rfl) ?_
  exact z_icmp_eq (inst := inferInstance) (E1 := some ()) (E2 := some ()) (r := ()) 421 1478 hX dL_law_421 (by decide) (ite_self _) (fun _ _ => k w2 h3) (fun q _ => absurd rfl q)
theorem lw_c6 {G : zG} {X : zX} {w : zW} {b j N : Nat} {xs : Nat → Int32} (hX : zOk G X code 4 "LetterWallsLaw" 2048) (hs : zscr X b N xs) (hN : N ≤ 384) (hj : j + 6 ≤ N) (hR : Rel w) (k : ∀ w2, Rel w2 → zZ G X w2 1478 (lwL G b j) []) : zZ G X w 426 (lwL G b j) [] := by
  obtain ⟨r, w1, w2, h1, h2, h3⟩ := op_readAs hR ((lwA xs j 1)) ((lwA xs j 2))
  refine z_aload_n 426 hX dL_law_426 rfl ?_
  refine z_aload_n 427 hX dL_law_427 rfl ?_
  refine z_iload_n 428 hX dL_law_428 rfl ?_
  refine z_iconst (v := nI 1) 429 hX dL_law_429 (by decide +kernel) ?_
  refine z_iadd 430 hX dL_law_430 ?_
  refine z_sld 431 hX dL_law_431 hs (lw_inL hN hj (by decide)) ?_
  refine z_aload_n 432 hX dL_law_432 rfl ?_
  refine z_iload_n 433 hX dL_law_433 rfl ?_
  refine z_iconst (v := nI 2) 434 hX dL_law_434 (by decide +kernel) ?_
  refine z_iadd 435 hX dL_law_435 ?_
  refine z_sld 436 hX dL_law_436 hs (lw_inL hN hj (by decide)) ?_
  refine z_callV (C := RX11) (T := TX11) (N := 11) (As := [.int (lwA xs j 1), .int (lwA xs j 2)]) (rest := []) 437 hX dL_law_437 (c_X11_readAs (zgd0 hX) h1) zw578 zw579 zw580 zw72 zw581 zdl_X11_readAs (rfl : shp 0 = (11, 0)) (by decide) rfl rfl rfl rfl (Nat.le_of_ble_eq_true rfl) (Nat.le_of_ble_eq_true rfl) (Nat.le_of_ble_eq_true rfl) ?_
  refine z_aload_n 440 hX dL_law_440 rfl ?_
  refine z_aload_n 441 hX dL_law_441 rfl ?_
  refine z_iload_n 442 hX dL_law_442 rfl ?_
  refine z_iconst (v := nI 1) 443 hX dL_law_443 (by decide +kernel) ?_
  refine z_iadd 444 hX dL_law_444 ?_
  refine z_sld 445 hX dL_law_445 hs (lw_inL hN hj (by decide)) ?_
  refine z_aload_n 446 hX dL_law_446 rfl ?_
  refine z_iload_n 447 hX dL_law_447 rfl ?_
  refine z_iconst (v := nI 2) 448 hX dL_law_448 (by decide +kernel) ?_
  refine z_iadd 449 hX dL_law_449 ?_
  refine z_sld 450 hX dL_law_450 hs (lw_inL hN hj (by decide)) ?_
  refine z_callV (C := RX12) (T := TX12) (N := 28) (As := [.int (lwA xs j 1), .int (lwA xs j 2)]) (rest := [.int r]) 451 hX dL_law_451 (c_X12_readAs (zgd0 hX) h2) zw1291 zw1292 zw1293 zw84 zw1294 zdl_X12_readAs (rfl : shp 128 = (12, 0)) (by decide) rfl rfl rfl rfl (Nat.le_of_ble_eq_true rfl) (Nat.le_of_ble_eq_true rfl) (Nat.le_of_ble_eq_true rfl) ?_
  exact z_icmp_eq (inst := inferInstance) (E1 := some ()) (E2 := some ()) (r := ()) 454 1478 hX dL_law_454 (by decide) (ite_self _) (fun _ _ => k w2 h3) (fun q _ => absurd rfl q)
theorem lw_c7 {G : zG} {X : zX} {w : zW} {b j N : Nat} {xs : Nat → Int32} (hX : zOk G X code 4 "LetterWallsLaw" 2048) (hs : zscr X b N xs) (hN : N ≤ 384) (hj : j + 6 ≤ N) (hR : Rel w) (k : ∀ w2, Rel w2 → zZ G X w2 1478 (lwL G b j) []) : zZ G X w 459 (lwL G b j) [] := by
  obtain ⟨r, w1, w2, h1, h2, h3⟩ := op_word hR ((lwA xs j 1)) ((lwA xs j 2))
  refine z_aload_n 459 hX dL_law_459 rfl ?_
  refine z_aload_n 460 hX dL_law_460 rfl ?_
  refine z_iload_n 461 hX dL_law_461 rfl ?_
  refine z_iconst (v := nI 1) 462 hX dL_law_462 (by decide +kernel) ?_
  refine z_iadd 463 hX dL_law_463 ?_
  refine z_sld 464 hX dL_law_464 hs (lw_inL hN hj (by decide)) ?_
  refine z_aload_n 465 hX dL_law_465 rfl ?_
  refine z_iload_n 466 hX dL_law_466 rfl ?_
  refine z_iconst (v := nI 2) 467 hX dL_law_467 (by decide +kernel) ?_
  refine z_iadd 468 hX dL_law_468 ?_
  refine z_sld 469 hX dL_law_469 hs (lw_inL hN hj (by decide)) ?_
  refine z_callV (C := RX11) (T := TX11) (N := 11) (As := [.int (lwA xs j 1), .int (lwA xs j 2)]) (rest := []) 470 hX dL_law_470 (c_X11_word (zgd0 hX) h1) zw582 zw583 zw584 zw72 zw585 zdl_X11_word (rfl : shp 0 = (11, 0)) (by decide) rfl rfl rfl rfl (Nat.le_of_ble_eq_true rfl) (Nat.le_of_ble_eq_true rfl) (Nat.le_of_ble_eq_true rfl) ?_
  refine z_aload_n 473 hX dL_law_473 rfl ?_
  refine z_aload_n 474 hX dL_law_474 rfl ?_
  refine z_iload_n 475 hX dL_law_475 rfl ?_
  refine z_iconst (v := nI 1) 476 hX dL_law_476 (by decide +kernel) ?_
  refine z_iadd 477 hX dL_law_477 ?_
  refine z_sld 478 hX dL_law_478 hs (lw_inL hN hj (by decide)) ?_
  refine z_aload_n 479 hX dL_law_479 rfl ?_
  refine z_iload_n 480 hX dL_law_480 rfl ?_
  refine z_iconst (v := nI 2) 481 hX dL_law_481 (by decide +kernel) ?_
  refine z_iadd 482 hX dL_law_482 ?_
  refine z_sld 483 hX dL_law_483 hs (lw_inL hN hj (by decide)) ?_
  refine z_callV (C := RX12) (T := TX12) (N := 28) (As := [.int (lwA xs j 1), .int (lwA xs j 2)]) (rest := [.int r]) 484 hX dL_law_484 (c_X12_word (zgd0 hX) h2) zw1295 zw1296 zw1297 zw84 zw1298 zdl_X12_word (rfl : shp 128 = (12, 0)) (by decide) rfl rfl rfl rfl (Nat.le_of_ble_eq_true rfl) (Nat.le_of_ble_eq_true rfl) (Nat.le_of_ble_eq_true rfl) ?_
  exact z_icmp_eq (inst := inferInstance) (E1 := some ()) (E2 := some ()) (r := ()) 487 1478 hX dL_law_487 (by decide) (ite_self _) (fun _ _ => k w2 h3) (fun q _ => absurd rfl q)
theorem lw_c8 {G : zG} {X : zX} {w : zW} {b j N : Nat} {xs : Nat → Int32} (hX : zOk G X code 4 "LetterWallsLaw" 2048) (hs : zscr X b N xs) (hN : N ≤ 384) (hj : j + 6 ≤ N) (hR : Rel w) (k : ∀ w2, Rel w2 → zZ G X w2 1478 (lwL G b j) []) : zZ G X w 492 (lwL G b j) [] := by
  obtain ⟨r, w1, w2, h1, h2, h3⟩ := op_letter hR ((lwA xs j 1)) ((lwA xs j 2))
  refine z_aload_n 492 hX dL_law_492 rfl ?_
  refine z_aload_n 493 hX dL_law_493 rfl ?_
  refine z_iload_n 494 hX dL_law_494 rfl ?_
  refine z_iconst (v := nI 1) 495 hX dL_law_495 (by decide +kernel) ?_
  refine z_iadd 496 hX dL_law_496 ?_
  refine z_sld 497 hX dL_law_497 hs (lw_inL hN hj (by decide)) ?_
  refine z_aload_n 498 hX dL_law_498 rfl ?_
  refine z_iload_n 499 hX dL_law_499 rfl ?_
  refine z_iconst (v := nI 2) 500 hX dL_law_500 (by decide +kernel) ?_
  refine z_iadd 501 hX dL_law_501 ?_
  refine z_sld 502 hX dL_law_502 hs (lw_inL hN hj (by decide)) ?_
  refine z_callV (C := RX11) (T := TX11) (N := 11) (As := [.int (lwA xs j 1), .int (lwA xs j 2)]) (rest := []) 503 hX dL_law_503 (c_X11_letter (zgd0 hX) h1) zw591 zw592 zw593 zw72 zw594 zdl_X11_letter (rfl : shp 0 = (11, 0)) (by decide) rfl rfl rfl rfl (Nat.le_of_ble_eq_true rfl) (Nat.le_of_ble_eq_true rfl) (Nat.le_of_ble_eq_true rfl) ?_
  refine z_aload_n 506 hX dL_law_506 rfl ?_
  refine z_aload_n 507 hX dL_law_507 rfl ?_
  refine z_iload_n 508 hX dL_law_508 rfl ?_
  refine z_iconst (v := nI 1) 509 hX dL_law_509 (by decide +kernel) ?_
  refine z_iadd 510 hX dL_law_510 ?_
  refine z_sld 511 hX dL_law_511 hs (lw_inL hN hj (by decide)) ?_
  refine z_aload_n 512 hX dL_law_512 rfl ?_
  refine z_iload_n 513 hX dL_law_513 rfl ?_
  refine z_iconst (v := nI 2) 514 hX dL_law_514 (by decide +kernel) ?_
  refine z_iadd 515 hX dL_law_515 ?_
  refine z_sld 516 hX dL_law_516 hs (lw_inL hN hj (by decide)) ?_
  refine z_callV (C := RX12) (T := TX12) (N := 28) (As := [.int (lwA xs j 1), .int (lwA xs j 2)]) (rest := [.int r]) 517 hX dL_law_517 (c_X12_letter (zgd0 hX) h2) zw1299 zw1300 zw1301 zw84 zw1302 zdl_X12_letter (rfl : shp 128 = (12, 0)) (by decide) rfl rfl rfl rfl (Nat.le_of_ble_eq_true rfl) (Nat.le_of_ble_eq_true rfl) (Nat.le_of_ble_eq_true rfl) ?_
  exact z_icmp_eq (inst := inferInstance) (E1 := some ()) (E2 := some ()) (r := ()) 520 1478 hX dL_law_520 (by decide) (ite_self _) (fun _ _ => k w2 h3) (fun q _ => absurd rfl q)
theorem lw_c9 {G : zG} {X : zX} {w : zW} {b j N : Nat} {xs : Nat → Int32} (hX : zOk G X code 4 "LetterWallsLaw" 2048) (hs : zscr X b N xs) (hN : N ≤ 384) (hj : j + 6 ≤ N) (hR : Rel w) (k : ∀ w2, Rel w2 → zZ G X w2 1478 (lwL G b j) []) : zZ G X w 525 (lwL G b j) [] := by
  obtain ⟨r, w1, w2, h1, h2, h3⟩ := op_wordIs hR ((lwA xs j 1)) ((lwA xs j 2))
  refine z_aload_n 525 hX dL_law_525 rfl ?_
  refine z_aload_n 526 hX dL_law_526 rfl ?_
  refine z_iload_n 527 hX dL_law_527 rfl ?_
  refine z_iconst (v := nI 1) 528 hX dL_law_528 (by decide +kernel) ?_
  refine z_iadd 529 hX dL_law_529 ?_
  refine z_sld 530 hX dL_law_530 hs (lw_inL hN hj (by decide)) ?_
  refine z_aload_n 531 hX dL_law_531 rfl ?_
  refine z_iload_n 532 hX dL_law_532 rfl ?_
  refine z_iconst (v := nI 2) 533 hX dL_law_533 (by decide +kernel) ?_
  refine z_iadd 534 hX dL_law_534 ?_
  refine z_sld 535 hX dL_law_535 hs (lw_inL hN hj (by decide)) ?_
  refine z_callV (C := RX11) (T := TX11) (N := 11) (As := [.int (lwA xs j 1), .int (lwA xs j 2)]) (rest := []) 536 hX dL_law_536 (c_X11_wordIs (zgd0 hX) h1) zw599 zw600 zw601 zw72 zw602 zdl_X11_wordIs (rfl : shp 0 = (11, 0)) (by decide) rfl rfl rfl rfl (Nat.le_of_ble_eq_true rfl) (Nat.le_of_ble_eq_true rfl) (Nat.le_of_ble_eq_true rfl) ?_
  refine z_aload_n 539 hX dL_law_539 rfl ?_
  refine z_aload_n 540 hX dL_law_540 rfl ?_
  refine z_iload_n 541 hX dL_law_541 rfl ?_
  refine z_iconst (v := nI 1) 542 hX dL_law_542 (by decide +kernel) ?_
  refine z_iadd 543 hX dL_law_543 ?_
  refine z_sld 544 hX dL_law_544 hs (lw_inL hN hj (by decide)) ?_
  refine z_aload_n 545 hX dL_law_545 rfl ?_
  refine z_iload_n 546 hX dL_law_546 rfl ?_
  refine z_iconst (v := nI 2) 547 hX dL_law_547 (by decide +kernel) ?_
  refine z_iadd 548 hX dL_law_548 ?_
  refine z_sld 549 hX dL_law_549 hs (lw_inL hN hj (by decide)) ?_
  refine z_callV (C := RX12) (T := TX12) (N := 28) (As := [.int (lwA xs j 1), .int (lwA xs j 2)]) (rest := [.int r]) 550 hX dL_law_550 (c_X12_wordIs (zgd0 hX) h2) zw1307 zw1308 zw1309 zw84 zw1310 zdl_X12_wordIs (rfl : shp 128 = (12, 0)) (by decide) rfl rfl rfl rfl (Nat.le_of_ble_eq_true rfl) (Nat.le_of_ble_eq_true rfl) (Nat.le_of_ble_eq_true rfl) ?_
  exact z_icmp_eq (inst := inferInstance) (E1 := some ()) (E2 := some ()) (r := ()) 553 1478 hX dL_law_553 (by decide) (ite_self _) (fun _ _ => k w2 h3) (fun q _ => absurd rfl q)
theorem lw_c10 {G : zG} {X : zX} {w : zW} {b j N : Nat} {xs : Nat → Int32} (hX : zOk G X code 4 "LetterWallsLaw" 2048) (hs : zscr X b N xs) (hN : N ≤ 384) (hj : j + 6 ≤ N) (hR : Rel w) (k : ∀ w2, Rel w2 → zZ G X w2 1478 (lwL G b j) []) : zZ G X w 558 (lwL G b j) [] := by
  obtain ⟨r, w1, w2, h1, h2, h3⟩ := op_feed hR (((((lwA xs j 1)).toInt64 <<< (((nI 32)).toInt64 &&& 63)) ||| (((lwA xs j 2)).toInt64 &&& (4294967295)))) ((lwA xs j 3))
  refine z_aload_n 558 hX dL_law_558 rfl ?_
  refine z_aload_n 559 hX dL_law_559 rfl ?_
  refine z_iload_n 560 hX dL_law_560 rfl ?_
  refine z_iconst (v := nI 1) 561 hX dL_law_561 (by decide +kernel) ?_
  refine z_iadd 562 hX dL_law_562 ?_
  refine z_sld 563 hX dL_law_563 hs (lw_inL hN hj (by decide)) ?_
  refine z_i2l 564 hX dL_law_564 ?_
  refine z_bipush (v := nI 32) 565 hX dL_law_565 (by decide +kernel) ?_
  refine z_lshl 567 hX dL_law_567 ?_
  refine z_aload_n 568 hX dL_law_568 rfl ?_
  refine z_iload_n 569 hX dL_law_569 rfl ?_
  refine z_iconst (v := nI 2) 570 hX dL_law_570 (by decide +kernel) ?_
  refine z_iadd 571 hX dL_law_571 ?_
  refine z_sld 572 hX dL_law_572 hs (lw_inL hN hj (by decide)) ?_
  refine z_i2l 573 hX dL_law_573 ?_
  refine z_ldc2 574 hX dL_law_574 zw1497 ?_
  refine z_land 577 hX dL_law_577 ?_
  refine z_lor 578 hX dL_law_578 ?_
  refine z_aload_n 579 hX dL_law_579 rfl ?_
  refine z_iload_n 580 hX dL_law_580 rfl ?_
  refine z_iconst (v := nI 3) 581 hX dL_law_581 (by decide +kernel) ?_
  refine z_iadd 582 hX dL_law_582 ?_
  refine z_sld 583 hX dL_law_583 hs (lw_inL hN hj (by decide)) ?_
  refine z_callV (C := RX11) (T := TX11) (N := 11) (As := [.long ((((lwA xs j 1)).toInt64 <<< (((nI 32)).toInt64 &&& 63)) ||| (((lwA xs j 2)).toInt64 &&& (4294967295))), .int (lwA xs j 3)]) (rest := []) 584 hX dL_law_584 (c_X11_feed (zgd0 hX) h1) zw603 zw604 zw605 zw72 zw606 zdl_X11_feed (rfl : shp 0 = (11, 0)) (by decide) rfl rfl rfl rfl (Nat.le_of_ble_eq_true rfl) (Nat.le_of_ble_eq_true rfl) (Nat.le_of_ble_eq_true rfl) ?_
  refine z_aload_n 587 hX dL_law_587 rfl ?_
  refine z_aload_n 588 hX dL_law_588 rfl ?_
  refine z_iload_n 589 hX dL_law_589 rfl ?_
  refine z_iconst (v := nI 1) 590 hX dL_law_590 (by decide +kernel) ?_
  refine z_iadd 591 hX dL_law_591 ?_
  refine z_sld 592 hX dL_law_592 hs (lw_inL hN hj (by decide)) ?_
  refine z_i2l 593 hX dL_law_593 ?_
  refine z_bipush (v := nI 32) 594 hX dL_law_594 (by decide +kernel) ?_
  refine z_lshl 596 hX dL_law_596 ?_
  refine z_aload_n 597 hX dL_law_597 rfl ?_
  refine z_iload_n 598 hX dL_law_598 rfl ?_
  refine z_iconst (v := nI 2) 599 hX dL_law_599 (by decide +kernel) ?_
  refine z_iadd 600 hX dL_law_600 ?_
  refine z_sld 601 hX dL_law_601 hs (lw_inL hN hj (by decide)) ?_
  refine z_i2l 602 hX dL_law_602 ?_
  refine z_ldc2 603 hX dL_law_603 zw1497 ?_
  refine z_land 606 hX dL_law_606 ?_
  refine z_lor 607 hX dL_law_607 ?_
  refine z_aload_n 608 hX dL_law_608 rfl ?_
  refine z_iload_n 609 hX dL_law_609 rfl ?_
  refine z_iconst (v := nI 3) 610 hX dL_law_610 (by decide +kernel) ?_
  refine z_iadd 611 hX dL_law_611 ?_
  refine z_sld 612 hX dL_law_612 hs (lw_inL hN hj (by decide)) ?_
  refine z_callV (C := RX12) (T := TX12) (N := 28) (As := [.long ((((lwA xs j 1)).toInt64 <<< (((nI 32)).toInt64 &&& 63)) ||| (((lwA xs j 2)).toInt64 &&& (4294967295))), .int (lwA xs j 3)]) (rest := [.int r]) 613 hX dL_law_613 (c_X12_feed (zgd0 hX) h2) zw1118 zw1119 zw1120 zw84 zw1121 zdl_X12_feed (rfl : shp 128 = (12, 0)) (by decide) rfl rfl rfl rfl (Nat.le_of_ble_eq_true rfl) (Nat.le_of_ble_eq_true rfl) (Nat.le_of_ble_eq_true rfl) ?_
  exact z_icmp_eq (inst := inferInstance) (E1 := some ()) (E2 := some ()) (r := ()) 616 1478 hX dL_law_616 (by decide) (ite_self _) (fun _ _ => k w2 h3) (fun q _ => absurd rfl q)
theorem lw_c11 {G : zG} {X : zX} {w : zW} {b j N : Nat} {xs : Nat → Int32} (hX : zOk G X code 4 "LetterWallsLaw" 2048) (hs : zscr X b N xs) (hN : N ≤ 384) (hj : j + 6 ≤ N) (hR : Rel w) (k : ∀ w2, Rel w2 → zZ G X w2 1478 (lwL G b j) []) : zZ G X w 621 (lwL G b j) [] := by
  obtain ⟨r, w1, w2, h1, h2, h3⟩ := op_text hR ((lwA xs j 1))
  refine z_aload_n 621 hX dL_law_621 rfl ?_
  refine z_aload_n 622 hX dL_law_622 rfl ?_
  refine z_iload_n 623 hX dL_law_623 rfl ?_
  refine z_iconst (v := nI 1) 624 hX dL_law_624 (by decide +kernel) ?_
  refine z_iadd 625 hX dL_law_625 ?_
  refine z_sld 626 hX dL_law_626 hs (lw_inL hN hj (by decide)) ?_
  refine z_callV (C := RX11) (T := TX11) (N := 11) (As := [.int (lwA xs j 1)]) (rest := []) 627 hX dL_law_627 (c_X11_text (zgd0 hX) h1) zw607 zw608 zw609 zw72 zw610 zdl_X11_text (rfl : shp 0 = (11, 0)) (by decide) rfl rfl rfl rfl (Nat.le_of_ble_eq_true rfl) (Nat.le_of_ble_eq_true rfl) (Nat.le_of_ble_eq_true rfl) ?_
  refine z_aload_n 630 hX dL_law_630 rfl ?_
  refine z_aload_n 631 hX dL_law_631 rfl ?_
  refine z_iload_n 632 hX dL_law_632 rfl ?_
  refine z_iconst (v := nI 1) 633 hX dL_law_633 (by decide +kernel) ?_
  refine z_iadd 634 hX dL_law_634 ?_
  refine z_sld 635 hX dL_law_635 hs (lw_inL hN hj (by decide)) ?_
  refine z_callV (C := RX12) (T := TX12) (N := 28) (As := [.int (lwA xs j 1)]) (rest := [.int r]) 636 hX dL_law_636 (c_X12_text (zgd0 hX) h2) zw1131 zw1132 zw1133 zw84 zw1134 zdl_X12_text (rfl : shp 128 = (12, 0)) (by decide) rfl rfl rfl rfl (Nat.le_of_ble_eq_true rfl) (Nat.le_of_ble_eq_true rfl) (Nat.le_of_ble_eq_true rfl) ?_
  exact z_icmp_eq (inst := inferInstance) (E1 := some ()) (E2 := some ()) (r := ()) 639 1478 hX dL_law_639 (by decide) (ite_self _) (fun _ _ => k w2 h3) (fun q _ => absurd rfl q)
theorem lw_c12 {G : zG} {X : zX} {w : zW} {b j N : Nat} {xs : Nat → Int32} (hX : zOk G X code 4 "LetterWallsLaw" 2048) (hs : zscr X b N xs) (hN : N ≤ 384) (hj : j + 6 ≤ N) (hR : Rel w) (k : ∀ w2, Rel w2 → zZ G X w2 1478 (lwL G b j) []) : zZ G X w 644 (lwL G b j) [] := by
  obtain ⟨r, w1, w2, h1, h2, h3⟩ := op_untell hR ((lwA xs j 1))
  refine z_aload_n 644 hX dL_law_644 rfl ?_
  refine z_aload_n 645 hX dL_law_645 rfl ?_
  refine z_iload_n 646 hX dL_law_646 rfl ?_
  refine z_iconst (v := nI 1) 647 hX dL_law_647 (by decide +kernel) ?_
  refine z_iadd 648 hX dL_law_648 ?_
  refine z_sld 649 hX dL_law_649 hs (lw_inL hN hj (by decide)) ?_
  refine z_callV (C := RX11) (T := TX11) (N := 11) (As := [.int (lwA xs j 1)]) (rest := []) 650 hX dL_law_650 (c_X11_untell (zgd0 hX) h1) zw744 zw745 zw746 zw72 zw747 zdl_X11_untell (rfl : shp 0 = (11, 0)) (by decide) rfl rfl rfl rfl (Nat.le_of_ble_eq_true rfl) (Nat.le_of_ble_eq_true rfl) (Nat.le_of_ble_eq_true rfl) ?_
  refine z_aload_n 653 hX dL_law_653 rfl ?_
  refine z_aload_n 654 hX dL_law_654 rfl ?_
  refine z_iload_n 655 hX dL_law_655 rfl ?_
  refine z_iconst (v := nI 1) 656 hX dL_law_656 (by decide +kernel) ?_
  refine z_iadd 657 hX dL_law_657 ?_
  refine z_sld 658 hX dL_law_658 hs (lw_inL hN hj (by decide)) ?_
  refine z_callV (C := RX12) (T := TX12) (N := 28) (As := [.int (lwA xs j 1)]) (rest := [.int r]) 659 hX dL_law_659 (c_X12_untell (zgd0 hX) h2) zw1175 zw1176 zw1177 zw84 zw1178 zdl_X12_untell (rfl : shp 128 = (12, 0)) (by decide) rfl rfl rfl rfl (Nat.le_of_ble_eq_true rfl) (Nat.le_of_ble_eq_true rfl) (Nat.le_of_ble_eq_true rfl) ?_
  exact z_icmp_eq (inst := inferInstance) (E1 := some ()) (E2 := some ()) (r := ()) 662 1478 hX dL_law_662 (by decide) (ite_self _) (fun _ _ => k w2 h3) (fun q _ => absurd rfl q)
theorem lw_c13 {G : zG} {X : zX} {w : zW} {b j N : Nat} {xs : Nat → Int32} (hX : zOk G X code 4 "LetterWallsLaw" 2048) (hs : zscr X b N xs) (hN : N ≤ 384) (hj : j + 6 ≤ N) (hR : Rel w) (k : ∀ w2, Rel w2 → zZ G X w2 1478 (lwL G b j) []) : zZ G X w 667 (lwL G b j) [] := by
  obtain ⟨r, w1, w2, h1, h2, h3⟩ := op_says hR ((lwA xs j 1)) ((lwA xs j 2))
  refine z_aload_n 667 hX dL_law_667 rfl ?_
  refine z_aload_n 668 hX dL_law_668 rfl ?_
  refine z_iload_n 669 hX dL_law_669 rfl ?_
  refine z_iconst (v := nI 1) 670 hX dL_law_670 (by decide +kernel) ?_
  refine z_iadd 671 hX dL_law_671 ?_
  refine z_sld 672 hX dL_law_672 hs (lw_inL hN hj (by decide)) ?_
  refine z_aload_n 673 hX dL_law_673 rfl ?_
  refine z_iload_n 674 hX dL_law_674 rfl ?_
  refine z_iconst (v := nI 2) 675 hX dL_law_675 (by decide +kernel) ?_
  refine z_iadd 676 hX dL_law_676 ?_
  refine z_sld 677 hX dL_law_677 hs (lw_inL hN hj (by decide)) ?_
  refine z_callV (C := RX11) (T := TX11) (N := 11) (As := [.int (lwA xs j 1), .int (lwA xs j 2)]) (rest := []) 678 hX dL_law_678 (c_X11_says (zgd0 hX) h1) zw749 zw750 zw751 zw72 zw752 zdl_X11_says (rfl : shp 0 = (11, 0)) (by decide) rfl rfl rfl rfl (Nat.le_of_ble_eq_true rfl) (Nat.le_of_ble_eq_true rfl) (Nat.le_of_ble_eq_true rfl) ?_
  refine z_aload_n 681 hX dL_law_681 rfl ?_
  refine z_aload_n 682 hX dL_law_682 rfl ?_
  refine z_iload_n 683 hX dL_law_683 rfl ?_
  refine z_iconst (v := nI 1) 684 hX dL_law_684 (by decide +kernel) ?_
  refine z_iadd 685 hX dL_law_685 ?_
  refine z_sld 686 hX dL_law_686 hs (lw_inL hN hj (by decide)) ?_
  refine z_aload_n 687 hX dL_law_687 rfl ?_
  refine z_iload_n 688 hX dL_law_688 rfl ?_
  refine z_iconst (v := nI 2) 689 hX dL_law_689 (by decide +kernel) ?_
  refine z_iadd 690 hX dL_law_690 ?_
  refine z_sld 691 hX dL_law_691 hs (lw_inL hN hj (by decide)) ?_
  refine z_callV (C := RX12) (T := TX12) (N := 28) (As := [.int (lwA xs j 1), .int (lwA xs j 2)]) (rest := [.int r]) 692 hX dL_law_692 (c_X12_says (zgd0 hX) h2) zw1311 zw1312 zw1313 zw84 zw1314 zdl_X12_says (rfl : shp 128 = (12, 0)) (by decide) rfl rfl rfl rfl (Nat.le_of_ble_eq_true rfl) (Nat.le_of_ble_eq_true rfl) (Nat.le_of_ble_eq_true rfl) ?_
  exact z_icmp_eq (inst := inferInstance) (E1 := some ()) (E2 := some ()) (r := ()) 695 1478 hX dL_law_695 (by decide) (ite_self _) (fun _ _ => k w2 h3) (fun q _ => absurd rfl q)
theorem lw_c14 {G : zG} {X : zX} {w : zW} {b j N : Nat} {xs : Nat → Int32} (hX : zOk G X code 4 "LetterWallsLaw" 2048) (hs : zscr X b N xs) (hN : N ≤ 384) (hj : j + 6 ≤ N) (hR : Rel w) (k : ∀ w2, Rel w2 → zZ G X w2 1478 (lwL G b j) []) : zZ G X w 700 (lwL G b j) [] := by
  obtain ⟨r, w1, w2, h1, h2, h3⟩ := op_doors hR ((lwA xs j 1)) ((lwA xs j 2))
  refine z_aload_n 700 hX dL_law_700 rfl ?_
  refine z_aload_n 701 hX dL_law_701 rfl ?_
  refine z_iload_n 702 hX dL_law_702 rfl ?_
  refine z_iconst (v := nI 1) 703 hX dL_law_703 (by decide +kernel) ?_
  refine z_iadd 704 hX dL_law_704 ?_
  refine z_sld 705 hX dL_law_705 hs (lw_inL hN hj (by decide)) ?_
  refine z_aload_n 706 hX dL_law_706 rfl ?_
  refine z_iload_n 707 hX dL_law_707 rfl ?_
  refine z_iconst (v := nI 2) 708 hX dL_law_708 (by decide +kernel) ?_
  refine z_iadd 709 hX dL_law_709 ?_
  refine z_sld 710 hX dL_law_710 hs (lw_inL hN hj (by decide)) ?_
  refine z_callV (C := RX11) (T := TX11) (N := 11) (As := [.int (lwA xs j 1), .int (lwA xs j 2)]) (rest := []) 711 hX dL_law_711 (c_X11_doors (zgd0 hX) h1) zw762 zw763 zw764 zw72 zw765 zdl_X11_doors (rfl : shp 0 = (11, 0)) (by decide) rfl rfl rfl rfl (Nat.le_of_ble_eq_true rfl) (Nat.le_of_ble_eq_true rfl) (Nat.le_of_ble_eq_true rfl) ?_
  refine z_aload_n 714 hX dL_law_714 rfl ?_
  refine z_aload_n 715 hX dL_law_715 rfl ?_
  refine z_iload_n 716 hX dL_law_716 rfl ?_
  refine z_iconst (v := nI 1) 717 hX dL_law_717 (by decide +kernel) ?_
  refine z_iadd 718 hX dL_law_718 ?_
  refine z_sld 719 hX dL_law_719 hs (lw_inL hN hj (by decide)) ?_
  refine z_aload_n 720 hX dL_law_720 rfl ?_
  refine z_iload_n 721 hX dL_law_721 rfl ?_
  refine z_iconst (v := nI 2) 722 hX dL_law_722 (by decide +kernel) ?_
  refine z_iadd 723 hX dL_law_723 ?_
  refine z_sld 724 hX dL_law_724 hs (lw_inL hN hj (by decide)) ?_
  refine z_callV (C := RX12) (T := TX12) (N := 28) (As := [.int (lwA xs j 1), .int (lwA xs j 2)]) (rest := [.int r]) 725 hX dL_law_725 (c_X12_doors (zgd0 hX) h2) zw1319 zw1320 zw1321 zw84 zw1322 zdl_X12_doors (rfl : shp 128 = (12, 0)) (by decide) rfl rfl rfl rfl (Nat.le_of_ble_eq_true rfl) (Nat.le_of_ble_eq_true rfl) (Nat.le_of_ble_eq_true rfl) ?_
  exact z_icmp_eq (inst := inferInstance) (E1 := some ()) (E2 := some ()) (r := ()) 728 1478 hX dL_law_728 (by decide) (ite_self _) (fun _ _ => k w2 h3) (fun q _ => absurd rfl q)
theorem lw_c15 {G : zG} {X : zX} {w : zW} {b j N : Nat} {xs : Nat → Int32} (hX : zOk G X code 4 "LetterWallsLaw" 2048) (hs : zscr X b N xs) (hN : N ≤ 384) (hj : j + 6 ≤ N) (hR : Rel w) (k : ∀ w2, Rel w2 → zZ G X w2 1478 (lwL G b j) []) : zZ G X w 733 (lwL G b j) [] := by
  obtain ⟨r, w1, w2, h1, h2, h3⟩ := op_spare hR ((lwA xs j 1))
  refine z_aload_n 733 hX dL_law_733 rfl ?_
  refine z_aload_n 734 hX dL_law_734 rfl ?_
  refine z_iload_n 735 hX dL_law_735 rfl ?_
  refine z_iconst (v := nI 1) 736 hX dL_law_736 (by decide +kernel) ?_
  refine z_iadd 737 hX dL_law_737 ?_
  refine z_sld 738 hX dL_law_738 hs (lw_inL hN hj (by decide)) ?_
  refine z_callV (C := RX11) (T := TX11) (N := 11) (As := [.int (lwA xs j 1)]) (rest := []) 739 hX dL_law_739 (c_X11_spare (zgd0 hX) h1) zw777 zw778 zw779 zw72 zw780 zdl_X11_spare (rfl : shp 0 = (11, 0)) (by decide) rfl rfl rfl rfl (Nat.le_of_ble_eq_true rfl) (Nat.le_of_ble_eq_true rfl) (Nat.le_of_ble_eq_true rfl) ?_
  refine z_aload_n 742 hX dL_law_742 rfl ?_
  refine z_aload_n 743 hX dL_law_743 rfl ?_
  refine z_iload_n 744 hX dL_law_744 rfl ?_
  refine z_iconst (v := nI 1) 745 hX dL_law_745 (by decide +kernel) ?_
  refine z_iadd 746 hX dL_law_746 ?_
  refine z_sld 747 hX dL_law_747 hs (lw_inL hN hj (by decide)) ?_
  refine z_callV (C := RX12) (T := TX12) (N := 28) (As := [.int (lwA xs j 1)]) (rest := [.int r]) 748 hX dL_law_748 (c_X12_spare (zgd0 hX) h2) zw1327 zw1328 zw1329 zw84 zw1330 zdl_X12_spare (rfl : shp 128 = (12, 0)) (by decide) rfl rfl rfl rfl (Nat.le_of_ble_eq_true rfl) (Nat.le_of_ble_eq_true rfl) (Nat.le_of_ble_eq_true rfl) ?_
  exact z_icmp_eq (inst := inferInstance) (E1 := some ()) (E2 := some ()) (r := ()) 751 1478 hX dL_law_751 (by decide) (ite_self _) (fun _ _ => k w2 h3) (fun q _ => absurd rfl q)
theorem lw_c16 {G : zG} {X : zX} {w : zW} {b j N : Nat} {xs : Nat → Int32} (hX : zOk G X code 4 "LetterWallsLaw" 2048) (hs : zscr X b N xs) (hN : N ≤ 384) (hj : j + 6 ≤ N) (hR : Rel w) (k : ∀ w2, Rel w2 → zZ G X w2 1478 (lwL G b j) []) : zZ G X w 756 (lwL G b j) [] := by
  obtain ⟨r, w1, w2, h1, h2, h3⟩ := op_others hR ((lwA xs j 1)) ((lwA xs j 2))
  refine z_aload_n 756 hX dL_law_756 rfl ?_
  refine z_aload_n 757 hX dL_law_757 rfl ?_
  refine z_iload_n 758 hX dL_law_758 rfl ?_
  refine z_iconst (v := nI 1) 759 hX dL_law_759 (by decide +kernel) ?_
  refine z_iadd 760 hX dL_law_760 ?_
  refine z_sld 761 hX dL_law_761 hs (lw_inL hN hj (by decide)) ?_
  refine z_aload_n 762 hX dL_law_762 rfl ?_
  refine z_iload_n 763 hX dL_law_763 rfl ?_
  refine z_iconst (v := nI 2) 764 hX dL_law_764 (by decide +kernel) ?_
  refine z_iadd 765 hX dL_law_765 ?_
  refine z_sld 766 hX dL_law_766 hs (lw_inL hN hj (by decide)) ?_
  refine z_callV (C := RX11) (T := TX11) (N := 11) (As := [.int (lwA xs j 1), .int (lwA xs j 2)]) (rest := []) 767 hX dL_law_767 (c_X11_others (zgd0 hX) h1) zw785 zw786 zw787 zw72 zw788 zdl_X11_others (rfl : shp 0 = (11, 0)) (by decide) rfl rfl rfl rfl (Nat.le_of_ble_eq_true rfl) (Nat.le_of_ble_eq_true rfl) (Nat.le_of_ble_eq_true rfl) ?_
  refine z_aload_n 770 hX dL_law_770 rfl ?_
  refine z_aload_n 771 hX dL_law_771 rfl ?_
  refine z_iload_n 772 hX dL_law_772 rfl ?_
  refine z_iconst (v := nI 1) 773 hX dL_law_773 (by decide +kernel) ?_
  refine z_iadd 774 hX dL_law_774 ?_
  refine z_sld 775 hX dL_law_775 hs (lw_inL hN hj (by decide)) ?_
  refine z_aload_n 776 hX dL_law_776 rfl ?_
  refine z_iload_n 777 hX dL_law_777 rfl ?_
  refine z_iconst (v := nI 2) 778 hX dL_law_778 (by decide +kernel) ?_
  refine z_iadd 779 hX dL_law_779 ?_
  refine z_sld 780 hX dL_law_780 hs (lw_inL hN hj (by decide)) ?_
  refine z_callV (C := RX12) (T := TX12) (N := 28) (As := [.int (lwA xs j 1), .int (lwA xs j 2)]) (rest := [.int r]) 781 hX dL_law_781 (c_X12_others (zgd0 hX) h2) zw1331 zw1332 zw1333 zw84 zw1334 zdl_X12_others (rfl : shp 128 = (12, 0)) (by decide) rfl rfl rfl rfl (Nat.le_of_ble_eq_true rfl) (Nat.le_of_ble_eq_true rfl) (Nat.le_of_ble_eq_true rfl) ?_
  exact z_icmp_eq (inst := inferInstance) (E1 := some ()) (E2 := some ()) (r := ()) 784 1478 hX dL_law_784 (by decide) (ite_self _) (fun _ _ => k w2 h3) (fun q _ => absurd rfl q)
theorem lw_c17 {G : zG} {X : zX} {w : zW} {b j N : Nat} {xs : Nat → Int32} (hX : zOk G X code 4 "LetterWallsLaw" 2048) (hs : zscr X b N xs) (hN : N ≤ 384) (hj : j + 6 ≤ N) (hR : Rel w) (k : ∀ w2, Rel w2 → zZ G X w2 1478 (lwL G b j) []) : zZ G X w 789 (lwL G b j) [] := by
  obtain ⟨r, w1, w2, h1, h2, h3⟩ := op_steps hR ((lwA xs j 1))
  refine z_aload_n 789 hX dL_law_789 rfl ?_
  refine z_aload_n 790 hX dL_law_790 rfl ?_
  refine z_iload_n 791 hX dL_law_791 rfl ?_
  refine z_iconst (v := nI 1) 792 hX dL_law_792 (by decide +kernel) ?_
  refine z_iadd 793 hX dL_law_793 ?_
  refine z_sld 794 hX dL_law_794 hs (lw_inL hN hj (by decide)) ?_
  refine z_callV (C := RX11) (T := TX11) (N := 11) (As := [.int (lwA xs j 1)]) (rest := []) 795 hX dL_law_795 (c_X11_steps (zgd0 hX) h1) zw793 zw794 zw795 zw72 zw796 zdl_X11_steps (rfl : shp 0 = (11, 0)) (by decide) rfl rfl rfl rfl (Nat.le_of_ble_eq_true rfl) (Nat.le_of_ble_eq_true rfl) (Nat.le_of_ble_eq_true rfl) ?_
  refine z_aload_n 798 hX dL_law_798 rfl ?_
  refine z_aload_n 799 hX dL_law_799 rfl ?_
  refine z_iload_n 800 hX dL_law_800 rfl ?_
  refine z_iconst (v := nI 1) 801 hX dL_law_801 (by decide +kernel) ?_
  refine z_iadd 802 hX dL_law_802 ?_
  refine z_sld 803 hX dL_law_803 hs (lw_inL hN hj (by decide)) ?_
  refine z_callV (C := RX12) (T := TX12) (N := 28) (As := [.int (lwA xs j 1)]) (rest := [.int r]) 804 hX dL_law_804 (c_X12_steps (zgd0 hX) h2) zw1339 zw1340 zw1341 zw84 zw1342 zdl_X12_steps (rfl : shp 128 = (12, 0)) (by decide) rfl rfl rfl rfl (Nat.le_of_ble_eq_true rfl) (Nat.le_of_ble_eq_true rfl) (Nat.le_of_ble_eq_true rfl) ?_
  exact z_icmp_eq (inst := inferInstance) (E1 := some ()) (E2 := some ()) (r := ()) 807 1478 hX dL_law_807 (by decide) (ite_self _) (fun _ _ => k w2 h3) (fun q _ => absurd rfl q)
theorem lw_c18 {G : zG} {X : zX} {w : zW} {b j N : Nat} {xs : Nat → Int32} (hX : zOk G X code 4 "LetterWallsLaw" 2048) (hs : zscr X b N xs) (hN : N ≤ 384) (hj : j + 6 ≤ N) (hR : Rel w) (k : ∀ w2, Rel w2 → zZ G X w2 1478 (lwL G b j) []) : zZ G X w 812 (lwL G b j) [] := by
  obtain ⟨r, w1, w2, h1, h2, h3⟩ := op_mends hR ((lwA xs j 1))
  refine z_aload_n 812 hX dL_law_812 rfl ?_
  refine z_aload_n 813 hX dL_law_813 rfl ?_
  refine z_iload_n 814 hX dL_law_814 rfl ?_
  refine z_iconst (v := nI 1) 815 hX dL_law_815 (by decide +kernel) ?_
  refine z_iadd 816 hX dL_law_816 ?_
  refine z_sld 817 hX dL_law_817 hs (lw_inL hN hj (by decide)) ?_
  refine z_callV (C := RX11) (T := TX11) (N := 11) (As := [.int (lwA xs j 1)]) (rest := []) 818 hX dL_law_818 (c_X11_mends (zgd0 hX) h1) zw803 zw804 zw805 zw72 zw806 zdl_X11_mends (rfl : shp 0 = (11, 0)) (by decide) rfl rfl rfl rfl (Nat.le_of_ble_eq_true rfl) (Nat.le_of_ble_eq_true rfl) (Nat.le_of_ble_eq_true rfl) ?_
  refine z_aload_n 821 hX dL_law_821 rfl ?_
  refine z_aload_n 822 hX dL_law_822 rfl ?_
  refine z_iload_n 823 hX dL_law_823 rfl ?_
  refine z_iconst (v := nI 1) 824 hX dL_law_824 (by decide +kernel) ?_
  refine z_iadd 825 hX dL_law_825 ?_
  refine z_sld 826 hX dL_law_826 hs (lw_inL hN hj (by decide)) ?_
  refine z_callV (C := RX12) (T := TX12) (N := 28) (As := [.int (lwA xs j 1)]) (rest := [.int r]) 827 hX dL_law_827 (c_X12_mends (zgd0 hX) h2) zw1346 zw1347 zw1348 zw84 zw1349 zdl_X12_mends (rfl : shp 128 = (12, 0)) (by decide) rfl rfl rfl rfl (Nat.le_of_ble_eq_true rfl) (Nat.le_of_ble_eq_true rfl) (Nat.le_of_ble_eq_true rfl) ?_
  exact z_icmp_eq (inst := inferInstance) (E1 := some ()) (E2 := some ()) (r := ()) 830 1478 hX dL_law_830 (by decide) (ite_self _) (fun _ _ => k w2 h3) (fun q _ => absurd rfl q)
theorem lw_c19 {G : zG} {X : zX} {w : zW} {b j N : Nat} {xs : Nat → Int32} (hX : zOk G X code 4 "LetterWallsLaw" 2048) (hs : zscr X b N xs) (hN : N ≤ 384) (hj : j + 6 ≤ N) (hR : Rel w) (k : ∀ w2, Rel w2 → zZ G X w2 1478 (lwL G b j) []) : zZ G X w 835 (lwL G b j) [] := by
  obtain ⟨r, w1, w2, h1, h2, h3⟩ := op_wish hR ((lwA xs j 1)) ((lwA xs j 2))
  refine z_aload_n 835 hX dL_law_835 rfl ?_
  refine z_aload_n 836 hX dL_law_836 rfl ?_
  refine z_iload_n 837 hX dL_law_837 rfl ?_
  refine z_iconst (v := nI 1) 838 hX dL_law_838 (by decide +kernel) ?_
  refine z_iadd 839 hX dL_law_839 ?_
  refine z_sld 840 hX dL_law_840 hs (lw_inL hN hj (by decide)) ?_
  refine z_aload_n 841 hX dL_law_841 rfl ?_
  refine z_iload_n 842 hX dL_law_842 rfl ?_
  refine z_iconst (v := nI 2) 843 hX dL_law_843 (by decide +kernel) ?_
  refine z_iadd 844 hX dL_law_844 ?_
  refine z_sld 845 hX dL_law_845 hs (lw_inL hN hj (by decide)) ?_
  refine z_callV (C := RX11) (T := TX11) (N := 11) (As := [.int (lwA xs j 1), .int (lwA xs j 2)]) (rest := []) 846 hX dL_law_846 (c_X11_wish (zgd0 hX) h1) zw822 zw823 zw824 zw72 zw825 zdl_X11_wish (rfl : shp 0 = (11, 0)) (by decide) rfl rfl rfl rfl (Nat.le_of_ble_eq_true rfl) (Nat.le_of_ble_eq_true rfl) (Nat.le_of_ble_eq_true rfl) ?_
  refine z_aload_n 849 hX dL_law_849 rfl ?_
  refine z_aload_n 850 hX dL_law_850 rfl ?_
  refine z_iload_n 851 hX dL_law_851 rfl ?_
  refine z_iconst (v := nI 1) 852 hX dL_law_852 (by decide +kernel) ?_
  refine z_iadd 853 hX dL_law_853 ?_
  refine z_sld 854 hX dL_law_854 hs (lw_inL hN hj (by decide)) ?_
  refine z_aload_n 855 hX dL_law_855 rfl ?_
  refine z_iload_n 856 hX dL_law_856 rfl ?_
  refine z_iconst (v := nI 2) 857 hX dL_law_857 (by decide +kernel) ?_
  refine z_iadd 858 hX dL_law_858 ?_
  refine z_sld 859 hX dL_law_859 hs (lw_inL hN hj (by decide)) ?_
  refine z_callV (C := RX12) (T := TX12) (N := 28) (As := [.int (lwA xs j 1), .int (lwA xs j 2)]) (rest := [.int r]) 860 hX dL_law_860 (c_X12_wish (zgd0 hX) h2) zw1350 zw1351 zw1352 zw84 zw1353 zdl_X12_wish (rfl : shp 128 = (12, 0)) (by decide) rfl rfl rfl rfl (Nat.le_of_ble_eq_true rfl) (Nat.le_of_ble_eq_true rfl) (Nat.le_of_ble_eq_true rfl) ?_
  exact z_icmp_eq (inst := inferInstance) (E1 := some ()) (E2 := some ()) (r := ()) 863 1478 hX dL_law_863 (by decide) (ite_self _) (fun _ _ => k w2 h3) (fun q _ => absurd rfl q)
theorem lw_c20 {G : zG} {X : zX} {w : zW} {b j N : Nat} {xs : Nat → Int32} (hX : zOk G X code 4 "LetterWallsLaw" 2048) (hs : zscr X b N xs) (hN : N ≤ 384) (hj : j + 6 ≤ N) (hR : Rel w) (k : ∀ w2, Rel w2 → zZ G X w2 1478 (lwL G b j) []) : zZ G X w 868 (lwL G b j) [] := by
  obtain ⟨r, w1, w2, h1, h2, h3⟩ := op_heap hR ((lwA xs j 1)) ((lwA xs j 2))
  refine z_aload_n 868 hX dL_law_868 rfl ?_
  refine z_aload_n 869 hX dL_law_869 rfl ?_
  refine z_iload_n 870 hX dL_law_870 rfl ?_
  refine z_iconst (v := nI 1) 871 hX dL_law_871 (by decide +kernel) ?_
  refine z_iadd 872 hX dL_law_872 ?_
  refine z_sld 873 hX dL_law_873 hs (lw_inL hN hj (by decide)) ?_
  refine z_aload_n 874 hX dL_law_874 rfl ?_
  refine z_iload_n 875 hX dL_law_875 rfl ?_
  refine z_iconst (v := nI 2) 876 hX dL_law_876 (by decide +kernel) ?_
  refine z_iadd 877 hX dL_law_877 ?_
  refine z_sld 878 hX dL_law_878 hs (lw_inL hN hj (by decide)) ?_
  refine z_callV (C := RX11) (T := TX11) (N := 11) (As := [.int (lwA xs j 1), .int (lwA xs j 2)]) (rest := []) 879 hX dL_law_879 (c_X11_heap (zgd0 hX) h1) zw838 zw839 zw840 zw72 zw841 zdl_X11_heap (rfl : shp 0 = (11, 0)) (by decide) rfl rfl rfl rfl (Nat.le_of_ble_eq_true rfl) (Nat.le_of_ble_eq_true rfl) (Nat.le_of_ble_eq_true rfl) ?_
  refine z_aload_n 882 hX dL_law_882 rfl ?_
  refine z_aload_n 883 hX dL_law_883 rfl ?_
  refine z_iload_n 884 hX dL_law_884 rfl ?_
  refine z_iconst (v := nI 1) 885 hX dL_law_885 (by decide +kernel) ?_
  refine z_iadd 886 hX dL_law_886 ?_
  refine z_sld 887 hX dL_law_887 hs (lw_inL hN hj (by decide)) ?_
  refine z_aload_n 888 hX dL_law_888 rfl ?_
  refine z_iload_n 889 hX dL_law_889 rfl ?_
  refine z_iconst (v := nI 2) 890 hX dL_law_890 (by decide +kernel) ?_
  refine z_iadd 891 hX dL_law_891 ?_
  refine z_sld 892 hX dL_law_892 hs (lw_inL hN hj (by decide)) ?_
  refine z_callV (C := RX12) (T := TX12) (N := 28) (As := [.int (lwA xs j 1), .int (lwA xs j 2)]) (rest := [.int r]) 893 hX dL_law_893 (c_X12_heap (zgd0 hX) h2) zw1357 zw1358 zw1359 zw84 zw1360 zdl_X12_heap (rfl : shp 128 = (12, 0)) (by decide) rfl rfl rfl rfl (Nat.le_of_ble_eq_true rfl) (Nat.le_of_ble_eq_true rfl) (Nat.le_of_ble_eq_true rfl) ?_
  exact z_icmp_eq (inst := inferInstance) (E1 := some ()) (E2 := some ()) (r := ()) 896 1478 hX dL_law_896 (by decide) (ite_self _) (fun _ _ => k w2 h3) (fun q _ => absurd rfl q)
theorem lw_c21 {G : zG} {X : zX} {w : zW} {b j N : Nat} {xs : Nat → Int32} (hX : zOk G X code 4 "LetterWallsLaw" 2048) (hs : zscr X b N xs) (hN : N ≤ 384) (hj : j + 6 ≤ N) (hR : Rel w) (k : ∀ w2, Rel w2 → zZ G X w2 1478 (lwL G b j) []) : zZ G X w 901 (lwL G b j) [] := by
  obtain ⟨r, w1, w2, h1, h2, h3⟩ := op_price hR ((lwA xs j 1))
  refine z_aload_n 901 hX dL_law_901 rfl ?_
  refine z_aload_n 902 hX dL_law_902 rfl ?_
  refine z_iload_n 903 hX dL_law_903 rfl ?_
  refine z_iconst (v := nI 1) 904 hX dL_law_904 (by decide +kernel) ?_
  refine z_iadd 905 hX dL_law_905 ?_
  refine z_sld 906 hX dL_law_906 hs (lw_inL hN hj (by decide)) ?_
  refine z_callV (C := RX11) (T := TX11) (N := 11) (As := [.int (lwA xs j 1)]) (rest := []) 907 hX dL_law_907 (c_X11_price (zgd0 hX) h1) zw842 zw843 zw844 zw72 zw845 zdl_X11_price (rfl : shp 0 = (11, 0)) (by decide) rfl rfl rfl rfl (Nat.le_of_ble_eq_true rfl) (Nat.le_of_ble_eq_true rfl) (Nat.le_of_ble_eq_true rfl) ?_
  refine z_aload_n 910 hX dL_law_910 rfl ?_
  refine z_aload_n 911 hX dL_law_911 rfl ?_
  refine z_iload_n 912 hX dL_law_912 rfl ?_
  refine z_iconst (v := nI 1) 913 hX dL_law_913 (by decide +kernel) ?_
  refine z_iadd 914 hX dL_law_914 ?_
  refine z_sld 915 hX dL_law_915 hs (lw_inL hN hj (by decide)) ?_
  refine z_callV (C := RX12) (T := TX12) (N := 28) (As := [.int (lwA xs j 1)]) (rest := [.int r]) 916 hX dL_law_916 (c_X12_price (zgd0 hX) h2) zw1361 zw1362 zw1363 zw84 zw1364 zdl_X12_price (rfl : shp 128 = (12, 0)) (by decide) rfl rfl rfl rfl (Nat.le_of_ble_eq_true rfl) (Nat.le_of_ble_eq_true rfl) (Nat.le_of_ble_eq_true rfl) ?_
  exact z_icmp_eq (inst := inferInstance) (E1 := some ()) (E2 := some ()) (r := ()) 919 1478 hX dL_law_919 (by decide) (ite_self _) (fun _ _ => k w2 h3) (fun q _ => absurd rfl q)
theorem lw_c22 {G : zG} {X : zX} {w : zW} {b j N : Nat} {xs : Nat → Int32} (hX : zOk G X code 4 "LetterWallsLaw" 2048) (hs : zscr X b N xs) (hN : N ≤ 384) (hj : j + 6 ≤ N) (hR : Rel w) (k : ∀ w2, Rel w2 → zZ G X w2 1478 (lwL G b j) []) : zZ G X w 924 (lwL G b j) [] := by
  obtain ⟨r, w1, w2, h1, h2, h3⟩ := op_have hR ((lwA xs j 1)) ((lwA xs j 2))
  refine z_aload_n 924 hX dL_law_924 rfl ?_
  refine z_aload_n 925 hX dL_law_925 rfl ?_
  refine z_iload_n 926 hX dL_law_926 rfl ?_
  refine z_iconst (v := nI 1) 927 hX dL_law_927 (by decide +kernel) ?_
  refine z_iadd 928 hX dL_law_928 ?_
  refine z_sld 929 hX dL_law_929 hs (lw_inL hN hj (by decide)) ?_
  refine z_aload_n 930 hX dL_law_930 rfl ?_
  refine z_iload_n 931 hX dL_law_931 rfl ?_
  refine z_iconst (v := nI 2) 932 hX dL_law_932 (by decide +kernel) ?_
  refine z_iadd 933 hX dL_law_933 ?_
  refine z_sld 934 hX dL_law_934 hs (lw_inL hN hj (by decide)) ?_
  refine z_callV (C := RX11) (T := TX11) (N := 11) (As := [.int (lwA xs j 1), .int (lwA xs j 2)]) (rest := []) 935 hX dL_law_935 (c_X11_have (zgd0 hX) h1) zw847 zw848 zw849 zw72 zw850 zdl_X11_have (rfl : shp 0 = (11, 0)) (by decide) rfl rfl rfl rfl (Nat.le_of_ble_eq_true rfl) (Nat.le_of_ble_eq_true rfl) (Nat.le_of_ble_eq_true rfl) ?_
  refine z_aload_n 938 hX dL_law_938 rfl ?_
  refine z_aload_n 939 hX dL_law_939 rfl ?_
  refine z_iload_n 940 hX dL_law_940 rfl ?_
  refine z_iconst (v := nI 1) 941 hX dL_law_941 (by decide +kernel) ?_
  refine z_iadd 942 hX dL_law_942 ?_
  refine z_sld 943 hX dL_law_943 hs (lw_inL hN hj (by decide)) ?_
  refine z_aload_n 944 hX dL_law_944 rfl ?_
  refine z_iload_n 945 hX dL_law_945 rfl ?_
  refine z_iconst (v := nI 2) 946 hX dL_law_946 (by decide +kernel) ?_
  refine z_iadd 947 hX dL_law_947 ?_
  refine z_sld 948 hX dL_law_948 hs (lw_inL hN hj (by decide)) ?_
  refine z_callV (C := RX12) (T := TX12) (N := 28) (As := [.int (lwA xs j 1), .int (lwA xs j 2)]) (rest := [.int r]) 949 hX dL_law_949 (c_X12_have (zgd0 hX) h2) zw1365 zw1366 zw1367 zw84 zw1368 zdl_X12_have (rfl : shp 128 = (12, 0)) (by decide) rfl rfl rfl rfl (Nat.le_of_ble_eq_true rfl) (Nat.le_of_ble_eq_true rfl) (Nat.le_of_ble_eq_true rfl) ?_
  exact z_icmp_eq (inst := inferInstance) (E1 := some ()) (E2 := some ()) (r := ()) 952 1478 hX dL_law_952 (by decide) (ite_self _) (fun _ _ => k w2 h3) (fun q _ => absurd rfl q)
theorem lw_c23 {G : zG} {X : zX} {w : zW} {b j N : Nat} {xs : Nat → Int32} (hX : zOk G X code 4 "LetterWallsLaw" 2048) (hs : zscr X b N xs) (hN : N ≤ 384) (hj : j + 6 ≤ N) (hR : Rel w) (k : ∀ w2, Rel w2 → zZ G X w2 1478 (lwL G b j) []) : zZ G X w 957 (lwL G b j) [] := by
  obtain ⟨r, w1, w2, h1, h2, h3⟩ := op_lay hR ((lwA xs j 1)) ((lwA xs j 2)) ((lwA xs j 3)) ((lwA xs j 4))
  refine z_aload_n 957 hX dL_law_957 rfl ?_
  refine z_aload_n 958 hX dL_law_958 rfl ?_
  refine z_iload_n 959 hX dL_law_959 rfl ?_
  refine z_iconst (v := nI 1) 960 hX dL_law_960 (by decide +kernel) ?_
  refine z_iadd 961 hX dL_law_961 ?_
  refine z_sld 962 hX dL_law_962 hs (lw_inL hN hj (by decide)) ?_
  refine z_aload_n 963 hX dL_law_963 rfl ?_
  refine z_iload_n 964 hX dL_law_964 rfl ?_
  refine z_iconst (v := nI 2) 965 hX dL_law_965 (by decide +kernel) ?_
  refine z_iadd 966 hX dL_law_966 ?_
  refine z_sld 967 hX dL_law_967 hs (lw_inL hN hj (by decide)) ?_
  refine z_aload_n 968 hX dL_law_968 rfl ?_
  refine z_iload_n 969 hX dL_law_969 rfl ?_
  refine z_iconst (v := nI 3) 970 hX dL_law_970 (by decide +kernel) ?_
  refine z_iadd 971 hX dL_law_971 ?_
  refine z_sld 972 hX dL_law_972 hs (lw_inL hN hj (by decide)) ?_
  refine z_aload_n 973 hX dL_law_973 rfl ?_
  refine z_iload_n 974 hX dL_law_974 rfl ?_
  refine z_iconst (v := nI 4) 975 hX dL_law_975 (by decide +kernel) ?_
  refine z_iadd 976 hX dL_law_976 ?_
  refine z_sld 977 hX dL_law_977 hs (lw_inL hN hj (by decide)) ?_
  refine z_callV (C := RX11) (T := TX11) (N := 11) (As := [.int (lwA xs j 1), .int (lwA xs j 2), .int (lwA xs j 3), .int (lwA xs j 4)]) (rest := []) 978 hX dL_law_978 (c_X11_lay (zgd0 hX) h1) zw852 zw853 zw854 zw72 zw855 zdl_X11_lay (rfl : shp 0 = (11, 0)) (by decide) rfl rfl rfl rfl (Nat.le_of_ble_eq_true rfl) (Nat.le_of_ble_eq_true rfl) (Nat.le_of_ble_eq_true rfl) ?_
  refine z_aload_n 981 hX dL_law_981 rfl ?_
  refine z_aload_n 982 hX dL_law_982 rfl ?_
  refine z_iload_n 983 hX dL_law_983 rfl ?_
  refine z_iconst (v := nI 1) 984 hX dL_law_984 (by decide +kernel) ?_
  refine z_iadd 985 hX dL_law_985 ?_
  refine z_sld 986 hX dL_law_986 hs (lw_inL hN hj (by decide)) ?_
  refine z_aload_n 987 hX dL_law_987 rfl ?_
  refine z_iload_n 988 hX dL_law_988 rfl ?_
  refine z_iconst (v := nI 2) 989 hX dL_law_989 (by decide +kernel) ?_
  refine z_iadd 990 hX dL_law_990 ?_
  refine z_sld 991 hX dL_law_991 hs (lw_inL hN hj (by decide)) ?_
  refine z_aload_n 992 hX dL_law_992 rfl ?_
  refine z_iload_n 993 hX dL_law_993 rfl ?_
  refine z_iconst (v := nI 3) 994 hX dL_law_994 (by decide +kernel) ?_
  refine z_iadd 995 hX dL_law_995 ?_
  refine z_sld 996 hX dL_law_996 hs (lw_inL hN hj (by decide)) ?_
  refine z_aload_n 997 hX dL_law_997 rfl ?_
  refine z_iload_n 998 hX dL_law_998 rfl ?_
  refine z_iconst (v := nI 4) 999 hX dL_law_999 (by decide +kernel) ?_
  refine z_iadd 1000 hX dL_law_1000 ?_
  refine z_sld 1001 hX dL_law_1001 hs (lw_inL hN hj (by decide)) ?_
  refine z_callV (C := RX12) (T := TX12) (N := 28) (As := [.int (lwA xs j 1), .int (lwA xs j 2), .int (lwA xs j 3), .int (lwA xs j 4)]) (rest := [.int r]) 1002 hX dL_law_1002 (c_X12_lay (zgd0 hX) h2) zw1370 zw1371 zw1372 zw84 zw1373 zdl_X12_lay (rfl : shp 128 = (12, 0)) (by decide) rfl rfl rfl rfl (Nat.le_of_ble_eq_true rfl) (Nat.le_of_ble_eq_true rfl) (Nat.le_of_ble_eq_true rfl) ?_
  exact z_icmp_eq (inst := inferInstance) (E1 := some ()) (E2 := some ()) (r := ()) 1005 1478 hX dL_law_1005 (by decide) (ite_self _) (fun _ _ => k w2 h3) (fun q _ => absurd rfl q)
theorem lw_c24 {G : zG} {X : zX} {w : zW} {b j N : Nat} {xs : Nat → Int32} (hX : zOk G X code 4 "LetterWallsLaw" 2048) (hs : zscr X b N xs) (hN : N ≤ 384) (hj : j + 6 ≤ N) (hR : Rel w) (k : ∀ w2, Rel w2 → zZ G X w2 1478 (lwL G b j) []) : zZ G X w 1010 (lwL G b j) [] := by
  obtain ⟨r, w1, w2, h1, h2, h3⟩ := op_falls hR ((lwA xs j 1))
  refine z_aload_n 1010 hX dL_law_1010 rfl ?_
  refine z_aload_n 1011 hX dL_law_1011 rfl ?_
  refine z_iload_n 1012 hX dL_law_1012 rfl ?_
  refine z_iconst (v := nI 1) 1013 hX dL_law_1013 (by decide +kernel) ?_
  refine z_iadd 1014 hX dL_law_1014 ?_
  refine z_sld 1015 hX dL_law_1015 hs (lw_inL hN hj (by decide)) ?_
  refine z_callV (C := RX11) (T := TX11) (N := 11) (As := [.int (lwA xs j 1)]) (rest := []) 1016 hX dL_law_1016 (c_X11_falls (zgd0 hX) h1) zw860 zw861 zw862 zw72 zw863 zdl_X11_falls (rfl : shp 0 = (11, 0)) (by decide) rfl rfl rfl rfl (Nat.le_of_ble_eq_true rfl) (Nat.le_of_ble_eq_true rfl) (Nat.le_of_ble_eq_true rfl) ?_
  refine z_aload_n 1019 hX dL_law_1019 rfl ?_
  refine z_aload_n 1020 hX dL_law_1020 rfl ?_
  refine z_iload_n 1021 hX dL_law_1021 rfl ?_
  refine z_iconst (v := nI 1) 1022 hX dL_law_1022 (by decide +kernel) ?_
  refine z_iadd 1023 hX dL_law_1023 ?_
  refine z_sld 1024 hX dL_law_1024 hs (lw_inL hN hj (by decide)) ?_
  refine z_callV (C := RX12) (T := TX12) (N := 28) (As := [.int (lwA xs j 1)]) (rest := [.int r]) 1025 hX dL_law_1025 (c_X12_falls (zgd0 hX) h2) zw1378 zw1379 zw1380 zw84 zw1381 zdl_X12_falls (rfl : shp 128 = (12, 0)) (by decide) rfl rfl rfl rfl (Nat.le_of_ble_eq_true rfl) (Nat.le_of_ble_eq_true rfl) (Nat.le_of_ble_eq_true rfl) ?_
  exact z_icmp_eq (inst := inferInstance) (E1 := some ()) (E2 := some ()) (r := ()) 1028 1478 hX dL_law_1028 (by decide) (ite_self _) (fun _ _ => k w2 h3) (fun q _ => absurd rfl q)
theorem lw_c25 {G : zG} {X : zX} {w : zW} {b j N : Nat} {xs : Nat → Int32} (hX : zOk G X code 4 "LetterWallsLaw" 2048) (hs : zscr X b N xs) (hN : N ≤ 384) (hj : j + 6 ≤ N) (hR : Rel w) (k : ∀ w2, Rel w2 → zZ G X w2 1478 (lwL G b j) []) : zZ G X w 1033 (lwL G b j) [] := by
  obtain ⟨r, w1, w2, h1, h2, h3⟩ := op_builds hR ((lwA xs j 1)) ((lwA xs j 2))
  refine z_aload_n 1033 hX dL_law_1033 rfl ?_
  refine z_aload_n 1034 hX dL_law_1034 rfl ?_
  refine z_iload_n 1035 hX dL_law_1035 rfl ?_
  refine z_iconst (v := nI 1) 1036 hX dL_law_1036 (by decide +kernel) ?_
  refine z_iadd 1037 hX dL_law_1037 ?_
  refine z_sld 1038 hX dL_law_1038 hs (lw_inL hN hj (by decide)) ?_
  refine z_aload_n 1039 hX dL_law_1039 rfl ?_
  refine z_iload_n 1040 hX dL_law_1040 rfl ?_
  refine z_iconst (v := nI 2) 1041 hX dL_law_1041 (by decide +kernel) ?_
  refine z_iadd 1042 hX dL_law_1042 ?_
  refine z_sld 1043 hX dL_law_1043 hs (lw_inL hN hj (by decide)) ?_
  refine z_callV (C := RX11) (T := TX11) (N := 11) (As := [.int (lwA xs j 1), .int (lwA xs j 2)]) (rest := []) 1044 hX dL_law_1044 (c_X11_builds (zgd0 hX) h1) zw868 zw869 zw870 zw72 zw871 zdl_X11_builds (rfl : shp 0 = (11, 0)) (by decide) rfl rfl rfl rfl (Nat.le_of_ble_eq_true rfl) (Nat.le_of_ble_eq_true rfl) (Nat.le_of_ble_eq_true rfl) ?_
  refine z_aload_n 1047 hX dL_law_1047 rfl ?_
  refine z_aload_n 1048 hX dL_law_1048 rfl ?_
  refine z_iload_n 1049 hX dL_law_1049 rfl ?_
  refine z_iconst (v := nI 1) 1050 hX dL_law_1050 (by decide +kernel) ?_
  refine z_iadd 1051 hX dL_law_1051 ?_
  refine z_sld 1052 hX dL_law_1052 hs (lw_inL hN hj (by decide)) ?_
  refine z_aload_n 1053 hX dL_law_1053 rfl ?_
  refine z_iload_n 1054 hX dL_law_1054 rfl ?_
  refine z_iconst (v := nI 2) 1055 hX dL_law_1055 (by decide +kernel) ?_
  refine z_iadd 1056 hX dL_law_1056 ?_
  refine z_sld 1057 hX dL_law_1057 hs (lw_inL hN hj (by decide)) ?_
  refine z_callV (C := RX12) (T := TX12) (N := 28) (As := [.int (lwA xs j 1), .int (lwA xs j 2)]) (rest := [.int r]) 1058 hX dL_law_1058 (c_X12_builds (zgd0 hX) h2) zw1386 zw1387 zw1388 zw84 zw1389 zdl_X12_builds (rfl : shp 128 = (12, 0)) (by decide) rfl rfl rfl rfl (Nat.le_of_ble_eq_true rfl) (Nat.le_of_ble_eq_true rfl) (Nat.le_of_ble_eq_true rfl) ?_
  exact z_icmp_eq (inst := inferInstance) (E1 := some ()) (E2 := some ()) (r := ()) 1061 1478 hX dL_law_1061 (by decide) (ite_self _) (fun _ _ => k w2 h3) (fun q _ => absurd rfl q)
theorem lw_c26 {G : zG} {X : zX} {w : zW} {b j N : Nat} {xs : Nat → Int32} (hX : zOk G X code 4 "LetterWallsLaw" 2048) (hs : zscr X b N xs) (hN : N ≤ 384) (hj : j + 6 ≤ N) (hR : Rel w) (k : ∀ w2, Rel w2 → zZ G X w2 1478 (lwL G b j) []) : zZ G X w 1066 (lwL G b j) [] := by
  obtain ⟨r, w1, w2, h1, h2, h3⟩ := op_years hR ((lwA xs j 1))
  refine z_aload_n 1066 hX dL_law_1066 rfl ?_
  refine z_aload_n 1067 hX dL_law_1067 rfl ?_
  refine z_iload_n 1068 hX dL_law_1068 rfl ?_
  refine z_iconst (v := nI 1) 1069 hX dL_law_1069 (by decide +kernel) ?_
  refine z_iadd 1070 hX dL_law_1070 ?_
  refine z_sld 1071 hX dL_law_1071 hs (lw_inL hN hj (by decide)) ?_
  refine z_callV (C := RX11) (T := TX11) (N := 11) (As := [.int (lwA xs j 1)]) (rest := []) 1072 hX dL_law_1072 (c_X11_years (zgd0 hX) h1) zw896 zw897 zw898 zw72 zw899 zdl_X11_years (rfl : shp 0 = (11, 0)) (by decide) rfl rfl rfl rfl (Nat.le_of_ble_eq_true rfl) (Nat.le_of_ble_eq_true rfl) (Nat.le_of_ble_eq_true rfl) ?_
  refine z_aload_n 1075 hX dL_law_1075 rfl ?_
  refine z_aload_n 1076 hX dL_law_1076 rfl ?_
  refine z_iload_n 1077 hX dL_law_1077 rfl ?_
  refine z_iconst (v := nI 1) 1078 hX dL_law_1078 (by decide +kernel) ?_
  refine z_iadd 1079 hX dL_law_1079 ?_
  refine z_sld 1080 hX dL_law_1080 hs (lw_inL hN hj (by decide)) ?_
  refine z_callV (C := RX12) (T := TX12) (N := 28) (As := [.int (lwA xs j 1)]) (rest := [.int r]) 1081 hX dL_law_1081 (c_X12_years (zgd0 hX) h2) zw1402 zw1403 zw1404 zw84 zw1405 zdl_X12_years (rfl : shp 128 = (12, 0)) (by decide) rfl rfl rfl rfl (Nat.le_of_ble_eq_true rfl) (Nat.le_of_ble_eq_true rfl) (Nat.le_of_ble_eq_true rfl) ?_
  exact z_icmp_eq (inst := inferInstance) (E1 := some ()) (E2 := some ()) (r := ()) 1084 1478 hX dL_law_1084 (by decide) (ite_self _) (fun _ _ => k w2 h3) (fun q _ => absurd rfl q)
theorem lw_c27 {G : zG} {X : zX} {w : zW} {b j N : Nat} {xs : Nat → Int32} (hX : zOk G X code 4 "LetterWallsLaw" 2048) (hs : zscr X b N xs) (hN : N ≤ 384) (hj : j + 6 ≤ N) (hR : Rel w) (k : ∀ w2, Rel w2 → zZ G X w2 1478 (lwL G b j) []) : zZ G X w 1089 (lwL G b j) [] := by
  obtain ⟨r, w1, w2, h1, h2, h3⟩ := op_seed hR ((lwA xs j 1))
  refine z_aload_n 1089 hX dL_law_1089 rfl ?_
  refine z_aload_n 1090 hX dL_law_1090 rfl ?_
  refine z_iload_n 1091 hX dL_law_1091 rfl ?_
  refine z_iconst (v := nI 1) 1092 hX dL_law_1092 (by decide +kernel) ?_
  refine z_iadd 1093 hX dL_law_1093 ?_
  refine z_sld 1094 hX dL_law_1094 hs (lw_inL hN hj (by decide)) ?_
  refine z_callV (C := RX11) (T := TX11) (N := 11) (As := [.int (lwA xs j 1)]) (rest := []) 1095 hX dL_law_1095 (c_X11_seed (zgd0 hX) h1) zw910 zw911 zw912 zw72 zw913 zdl_X11_seed (rfl : shp 0 = (11, 0)) (by decide) rfl rfl rfl rfl (Nat.le_of_ble_eq_true rfl) (Nat.le_of_ble_eq_true rfl) (Nat.le_of_ble_eq_true rfl) ?_
  refine z_aload_n 1098 hX dL_law_1098 rfl ?_
  refine z_aload_n 1099 hX dL_law_1099 rfl ?_
  refine z_iload_n 1100 hX dL_law_1100 rfl ?_
  refine z_iconst (v := nI 1) 1101 hX dL_law_1101 (by decide +kernel) ?_
  refine z_iadd 1102 hX dL_law_1102 ?_
  refine z_sld 1103 hX dL_law_1103 hs (lw_inL hN hj (by decide)) ?_
  refine z_callV (C := RX12) (T := TX12) (N := 28) (As := [.int (lwA xs j 1)]) (rest := [.int r]) 1104 hX dL_law_1104 (c_X12_seed (zgd0 hX) h2) zw1411 zw1412 zw1413 zw84 zw1414 zdl_X12_seed (rfl : shp 128 = (12, 0)) (by decide) rfl rfl rfl rfl (Nat.le_of_ble_eq_true rfl) (Nat.le_of_ble_eq_true rfl) (Nat.le_of_ble_eq_true rfl) ?_
  exact z_icmp_eq (inst := inferInstance) (E1 := some ()) (E2 := some ()) (r := ()) 1107 1478 hX dL_law_1107 (by decide) (ite_self _) (fun _ _ => k w2 h3) (fun q _ => absurd rfl q)
theorem lw_c28 {G : zG} {X : zX} {w : zW} {b j N : Nat} {xs : Nat → Int32} (hX : zOk G X code 4 "LetterWallsLaw" 2048) (hs : zscr X b N xs) (hN : N ≤ 384) (hj : j + 6 ≤ N) (hR : Rel w) (k : ∀ w2, Rel w2 → zZ G X w2 1478 (lwL G b j) []) : zZ G X w 1112 (lwL G b j) [] := by
  obtain ⟨r, w1, w2, h1, h2, h3⟩ := op_voice hR ((lwA xs j 1)) ((lwA xs j 2)) ((lwA xs j 3))
  refine z_aload_n 1112 hX dL_law_1112 rfl ?_
  refine z_aload_n 1113 hX dL_law_1113 rfl ?_
  refine z_iload_n 1114 hX dL_law_1114 rfl ?_
  refine z_iconst (v := nI 1) 1115 hX dL_law_1115 (by decide +kernel) ?_
  refine z_iadd 1116 hX dL_law_1116 ?_
  refine z_sld 1117 hX dL_law_1117 hs (lw_inL hN hj (by decide)) ?_
  refine z_aload_n 1118 hX dL_law_1118 rfl ?_
  refine z_iload_n 1119 hX dL_law_1119 rfl ?_
  refine z_iconst (v := nI 2) 1120 hX dL_law_1120 (by decide +kernel) ?_
  refine z_iadd 1121 hX dL_law_1121 ?_
  refine z_sld 1122 hX dL_law_1122 hs (lw_inL hN hj (by decide)) ?_
  refine z_aload_n 1123 hX dL_law_1123 rfl ?_
  refine z_iload_n 1124 hX dL_law_1124 rfl ?_
  refine z_iconst (v := nI 3) 1125 hX dL_law_1125 (by decide +kernel) ?_
  refine z_iadd 1126 hX dL_law_1126 ?_
  refine z_sld 1127 hX dL_law_1127 hs (lw_inL hN hj (by decide)) ?_
  refine z_callV (C := RX11) (T := TX11) (N := 11) (As := [.int (lwA xs j 1), .int (lwA xs j 2), .int (lwA xs j 3)]) (rest := []) 1128 hX dL_law_1128 (c_X11_voice (zgd0 hX) h1) zw914 zw915 zw916 zw72 zw917 zdl_X11_voice (rfl : shp 0 = (11, 0)) (by decide) rfl rfl rfl rfl (Nat.le_of_ble_eq_true rfl) (Nat.le_of_ble_eq_true rfl) (Nat.le_of_ble_eq_true rfl) ?_
  refine z_aload_n 1131 hX dL_law_1131 rfl ?_
  refine z_aload_n 1132 hX dL_law_1132 rfl ?_
  refine z_iload_n 1133 hX dL_law_1133 rfl ?_
  refine z_iconst (v := nI 1) 1134 hX dL_law_1134 (by decide +kernel) ?_
  refine z_iadd 1135 hX dL_law_1135 ?_
  refine z_sld 1136 hX dL_law_1136 hs (lw_inL hN hj (by decide)) ?_
  refine z_aload_n 1137 hX dL_law_1137 rfl ?_
  refine z_iload_n 1138 hX dL_law_1138 rfl ?_
  refine z_iconst (v := nI 2) 1139 hX dL_law_1139 (by decide +kernel) ?_
  refine z_iadd 1140 hX dL_law_1140 ?_
  refine z_sld 1141 hX dL_law_1141 hs (lw_inL hN hj (by decide)) ?_
  refine z_aload_n 1142 hX dL_law_1142 rfl ?_
  refine z_iload_n 1143 hX dL_law_1143 rfl ?_
  refine z_iconst (v := nI 3) 1144 hX dL_law_1144 (by decide +kernel) ?_
  refine z_iadd 1145 hX dL_law_1145 ?_
  refine z_sld 1146 hX dL_law_1146 hs (lw_inL hN hj (by decide)) ?_
  refine z_callV (C := RX12) (T := TX12) (N := 28) (As := [.int (lwA xs j 1), .int (lwA xs j 2), .int (lwA xs j 3)]) (rest := [.int r]) 1147 hX dL_law_1147 (c_X12_voice (zgd0 hX) h2) zw1415 zw1416 zw1417 zw84 zw1418 zdl_X12_voice (rfl : shp 128 = (12, 0)) (by decide) rfl rfl rfl rfl (Nat.le_of_ble_eq_true rfl) (Nat.le_of_ble_eq_true rfl) (Nat.le_of_ble_eq_true rfl) ?_
  exact z_icmp_eq (inst := inferInstance) (E1 := some ()) (E2 := some ()) (r := ()) 1150 1478 hX dL_law_1150 (by decide) (ite_self _) (fun _ _ => k w2 h3) (fun q _ => absurd rfl q)
theorem lw_c29 {G : zG} {X : zX} {w : zW} {b j N : Nat} {xs : Nat → Int32} (hX : zOk G X code 4 "LetterWallsLaw" 2048) (hs : zscr X b N xs) (hN : N ≤ 384) (hj : j + 6 ≤ N) (hR : Rel w) (k : ∀ w2, Rel w2 → zZ G X w2 1478 (lwL G b j) []) : zZ G X w 1155 (lwL G b j) [] := by
  obtain ⟨r, w1, w2, h1, h2, h3⟩ := op_body hR ((lwA xs j 1))
  refine z_aload_n 1155 hX dL_law_1155 rfl ?_
  refine z_aload_n 1156 hX dL_law_1156 rfl ?_
  refine z_iload_n 1157 hX dL_law_1157 rfl ?_
  refine z_iconst (v := nI 1) 1158 hX dL_law_1158 (by decide +kernel) ?_
  refine z_iadd 1159 hX dL_law_1159 ?_
  refine z_sld 1160 hX dL_law_1160 hs (lw_inL hN hj (by decide)) ?_
  refine z_callV (C := RX11) (T := TX11) (N := 11) (As := [.int (lwA xs j 1)]) (rest := []) 1161 hX dL_law_1161 (c_X11_body (zgd0 hX) h1) zw941 zw942 zw943 zw72 zw944 zdl_X11_body (rfl : shp 0 = (11, 0)) (by decide) rfl rfl rfl rfl (Nat.le_of_ble_eq_true rfl) (Nat.le_of_ble_eq_true rfl) (Nat.le_of_ble_eq_true rfl) ?_
  refine z_aload_n 1164 hX dL_law_1164 rfl ?_
  refine z_aload_n 1165 hX dL_law_1165 rfl ?_
  refine z_iload_n 1166 hX dL_law_1166 rfl ?_
  refine z_iconst (v := nI 1) 1167 hX dL_law_1167 (by decide +kernel) ?_
  refine z_iadd 1168 hX dL_law_1168 ?_
  refine z_sld 1169 hX dL_law_1169 hs (lw_inL hN hj (by decide)) ?_
  refine z_callV (C := RX12) (T := TX12) (N := 28) (As := [.int (lwA xs j 1)]) (rest := [.int r]) 1170 hX dL_law_1170 (c_X12_body (zgd0 hX) h2) zw1450 zw1451 zw1452 zw84 zw1453 zdl_X12_body (rfl : shp 128 = (12, 0)) (by decide) rfl rfl rfl rfl (Nat.le_of_ble_eq_true rfl) (Nat.le_of_ble_eq_true rfl) (Nat.le_of_ble_eq_true rfl) ?_
  exact z_icmp_eq (inst := inferInstance) (E1 := some ()) (E2 := some ()) (r := ()) 1173 1478 hX dL_law_1173 (by decide) (ite_self _) (fun _ _ => k w2 h3) (fun q _ => absurd rfl q)
theorem lw_c30 {G : zG} {X : zX} {w : zW} {b j N : Nat} {xs : Nat → Int32} (hX : zOk G X code 4 "LetterWallsLaw" 2048) (hs : zscr X b N xs) (hN : N ≤ 384) (hj : j + 6 ≤ N) (hR : Rel w) (k : ∀ w2, Rel w2 → zZ G X w2 1478 (lwL G b j) []) : zZ G X w 1178 (lwL G b j) [] := by
  obtain ⟨r, w1, w2, h1, h2, h3⟩ := op_sheet hR ((lwA xs j 1)) ((lwA xs j 2)) ((lwA xs j 3))
  refine z_aload_n 1178 hX dL_law_1178 rfl ?_
  refine z_aload_n 1179 hX dL_law_1179 rfl ?_
  refine z_iload_n 1180 hX dL_law_1180 rfl ?_
  refine z_iconst (v := nI 1) 1181 hX dL_law_1181 (by decide +kernel) ?_
  refine z_iadd 1182 hX dL_law_1182 ?_
  refine z_sld 1183 hX dL_law_1183 hs (lw_inL hN hj (by decide)) ?_
  refine z_aload_n 1184 hX dL_law_1184 rfl ?_
  refine z_iload_n 1185 hX dL_law_1185 rfl ?_
  refine z_iconst (v := nI 2) 1186 hX dL_law_1186 (by decide +kernel) ?_
  refine z_iadd 1187 hX dL_law_1187 ?_
  refine z_sld 1188 hX dL_law_1188 hs (lw_inL hN hj (by decide)) ?_
  refine z_aload_n 1189 hX dL_law_1189 rfl ?_
  refine z_iload_n 1190 hX dL_law_1190 rfl ?_
  refine z_iconst (v := nI 3) 1191 hX dL_law_1191 (by decide +kernel) ?_
  refine z_iadd 1192 hX dL_law_1192 ?_
  refine z_sld 1193 hX dL_law_1193 hs (lw_inL hN hj (by decide)) ?_
  refine z_callV (C := RX11) (T := TX11) (N := 11) (As := [.int (lwA xs j 1), .int (lwA xs j 2), .int (lwA xs j 3)]) (rest := []) 1194 hX dL_law_1194 (c_X11_sheet (zgd0 hX) h1) zw945 zw946 zw947 zw72 zw948 zdl_X11_sheet (rfl : shp 0 = (11, 0)) (by decide) rfl rfl rfl rfl (Nat.le_of_ble_eq_true rfl) (Nat.le_of_ble_eq_true rfl) (Nat.le_of_ble_eq_true rfl) ?_
  refine z_aload_n 1197 hX dL_law_1197 rfl ?_
  refine z_aload_n 1198 hX dL_law_1198 rfl ?_
  refine z_iload_n 1199 hX dL_law_1199 rfl ?_
  refine z_iconst (v := nI 1) 1200 hX dL_law_1200 (by decide +kernel) ?_
  refine z_iadd 1201 hX dL_law_1201 ?_
  refine z_sld 1202 hX dL_law_1202 hs (lw_inL hN hj (by decide)) ?_
  refine z_aload_n 1203 hX dL_law_1203 rfl ?_
  refine z_iload_n 1204 hX dL_law_1204 rfl ?_
  refine z_iconst (v := nI 2) 1205 hX dL_law_1205 (by decide +kernel) ?_
  refine z_iadd 1206 hX dL_law_1206 ?_
  refine z_sld 1207 hX dL_law_1207 hs (lw_inL hN hj (by decide)) ?_
  refine z_aload_n 1208 hX dL_law_1208 rfl ?_
  refine z_iload_n 1209 hX dL_law_1209 rfl ?_
  refine z_iconst (v := nI 3) 1210 hX dL_law_1210 (by decide +kernel) ?_
  refine z_iadd 1211 hX dL_law_1211 ?_
  refine z_sld 1212 hX dL_law_1212 hs (lw_inL hN hj (by decide)) ?_
  refine z_callV (C := RX12) (T := TX12) (N := 28) (As := [.int (lwA xs j 1), .int (lwA xs j 2), .int (lwA xs j 3)]) (rest := [.int r]) 1213 hX dL_law_1213 (c_X12_sheet (zgd0 hX) h2) zw1454 zw1455 zw1456 zw84 zw1457 zdl_X12_sheet (rfl : shp 128 = (12, 0)) (by decide) rfl rfl rfl rfl (Nat.le_of_ble_eq_true rfl) (Nat.le_of_ble_eq_true rfl) (Nat.le_of_ble_eq_true rfl) ?_
  exact z_icmp_eq (inst := inferInstance) (E1 := some ()) (E2 := some ()) (r := ()) 1216 1478 hX dL_law_1216 (by decide) (ite_self _) (fun _ _ => k w2 h3) (fun q _ => absurd rfl q)
theorem lw_c31 {G : zG} {X : zX} {w : zW} {b j N : Nat} {xs : Nat → Int32} (hX : zOk G X code 4 "LetterWallsLaw" 2048) (hs : zscr X b N xs) (hN : N ≤ 384) (hj : j + 6 ≤ N) (hR : Rel w) (k : ∀ w2, Rel w2 → zZ G X w2 1478 (lwL G b j) []) : zZ G X w 1221 (lwL G b j) [] := by
  obtain ⟨r, w1, w2, h1, h2, h3⟩ := op_put hR ((lwA xs j 1)) ((lwA xs j 2)) ((lwA xs j 3))
  refine z_aload_n 1221 hX dL_law_1221 rfl ?_
  refine z_aload_n 1222 hX dL_law_1222 rfl ?_
  refine z_iload_n 1223 hX dL_law_1223 rfl ?_
  refine z_iconst (v := nI 1) 1224 hX dL_law_1224 (by decide +kernel) ?_
  refine z_iadd 1225 hX dL_law_1225 ?_
  refine z_sld 1226 hX dL_law_1226 hs (lw_inL hN hj (by decide)) ?_
  refine z_aload_n 1227 hX dL_law_1227 rfl ?_
  refine z_iload_n 1228 hX dL_law_1228 rfl ?_
  refine z_iconst (v := nI 2) 1229 hX dL_law_1229 (by decide +kernel) ?_
  refine z_iadd 1230 hX dL_law_1230 ?_
  refine z_sld 1231 hX dL_law_1231 hs (lw_inL hN hj (by decide)) ?_
  refine z_aload_n 1232 hX dL_law_1232 rfl ?_
  refine z_iload_n 1233 hX dL_law_1233 rfl ?_
  refine z_iconst (v := nI 3) 1234 hX dL_law_1234 (by decide +kernel) ?_
  refine z_iadd 1235 hX dL_law_1235 ?_
  refine z_sld 1236 hX dL_law_1236 hs (lw_inL hN hj (by decide)) ?_
  refine z_callV (C := RX11) (T := TX11) (N := 11) (As := [.int (lwA xs j 1), .int (lwA xs j 2), .int (lwA xs j 3)]) (rest := []) 1237 hX dL_law_1237 (c_X11_put (zgd0 hX) h1) zw954 zw955 zw956 zw72 zw957 zdl_X11_put (rfl : shp 0 = (11, 0)) (by decide) rfl rfl rfl rfl (Nat.le_of_ble_eq_true rfl) (Nat.le_of_ble_eq_true rfl) (Nat.le_of_ble_eq_true rfl) ?_
  refine z_aload_n 1240 hX dL_law_1240 rfl ?_
  refine z_aload_n 1241 hX dL_law_1241 rfl ?_
  refine z_iload_n 1242 hX dL_law_1242 rfl ?_
  refine z_iconst (v := nI 1) 1243 hX dL_law_1243 (by decide +kernel) ?_
  refine z_iadd 1244 hX dL_law_1244 ?_
  refine z_sld 1245 hX dL_law_1245 hs (lw_inL hN hj (by decide)) ?_
  refine z_aload_n 1246 hX dL_law_1246 rfl ?_
  refine z_iload_n 1247 hX dL_law_1247 rfl ?_
  refine z_iconst (v := nI 2) 1248 hX dL_law_1248 (by decide +kernel) ?_
  refine z_iadd 1249 hX dL_law_1249 ?_
  refine z_sld 1250 hX dL_law_1250 hs (lw_inL hN hj (by decide)) ?_
  refine z_aload_n 1251 hX dL_law_1251 rfl ?_
  refine z_iload_n 1252 hX dL_law_1252 rfl ?_
  refine z_iconst (v := nI 3) 1253 hX dL_law_1253 (by decide +kernel) ?_
  refine z_iadd 1254 hX dL_law_1254 ?_
  refine z_sld 1255 hX dL_law_1255 hs (lw_inL hN hj (by decide)) ?_
  refine z_callV (C := RX12) (T := TX12) (N := 28) (As := [.int (lwA xs j 1), .int (lwA xs j 2), .int (lwA xs j 3)]) (rest := [.int r]) 1256 hX dL_law_1256 (c_X12_put (zgd0 hX) h2) zw1458 zw1459 zw1460 zw84 zw1461 zdl_X12_put (rfl : shp 128 = (12, 0)) (by decide) rfl rfl rfl rfl (Nat.le_of_ble_eq_true rfl) (Nat.le_of_ble_eq_true rfl) (Nat.le_of_ble_eq_true rfl) ?_
  exact z_icmp_eq (inst := inferInstance) (E1 := some ()) (E2 := some ()) (r := ()) 1259 1478 hX dL_law_1259 (by decide) (ite_self _) (fun _ _ => k w2 h3) (fun q _ => absurd rfl q)
theorem lw_c32 {G : zG} {X : zX} {w : zW} {b j N : Nat} {xs : Nat → Int32} (hX : zOk G X code 4 "LetterWallsLaw" 2048) (hs : zscr X b N xs) (hN : N ≤ 384) (hj : j + 6 ≤ N) (hR : Rel w) (k : ∀ w2, Rel w2 → zZ G X w2 1478 (lwL G b j) []) : zZ G X w 1264 (lwL G b j) [] := by
  obtain ⟨r, w1, w2, h1, h2, h3⟩ := op_move hR ((lwA xs j 1)) ((lwA xs j 2)) ((lwA xs j 3)) ((lwA xs j 4)) ((lwA xs j 5))
  refine z_aload_n 1264 hX dL_law_1264 rfl ?_
  refine z_aload_n 1265 hX dL_law_1265 rfl ?_
  refine z_iload_n 1266 hX dL_law_1266 rfl ?_
  refine z_iconst (v := nI 1) 1267 hX dL_law_1267 (by decide +kernel) ?_
  refine z_iadd 1268 hX dL_law_1268 ?_
  refine z_sld 1269 hX dL_law_1269 hs (lw_inL hN hj (by decide)) ?_
  refine z_aload_n 1270 hX dL_law_1270 rfl ?_
  refine z_iload_n 1271 hX dL_law_1271 rfl ?_
  refine z_iconst (v := nI 2) 1272 hX dL_law_1272 (by decide +kernel) ?_
  refine z_iadd 1273 hX dL_law_1273 ?_
  refine z_sld 1274 hX dL_law_1274 hs (lw_inL hN hj (by decide)) ?_
  refine z_aload_n 1275 hX dL_law_1275 rfl ?_
  refine z_iload_n 1276 hX dL_law_1276 rfl ?_
  refine z_iconst (v := nI 3) 1277 hX dL_law_1277 (by decide +kernel) ?_
  refine z_iadd 1278 hX dL_law_1278 ?_
  refine z_sld 1279 hX dL_law_1279 hs (lw_inL hN hj (by decide)) ?_
  refine z_aload_n 1280 hX dL_law_1280 rfl ?_
  refine z_iload_n 1281 hX dL_law_1281 rfl ?_
  refine z_iconst (v := nI 4) 1282 hX dL_law_1282 (by decide +kernel) ?_
  refine z_iadd 1283 hX dL_law_1283 ?_
  refine z_sld 1284 hX dL_law_1284 hs (lw_inL hN hj (by decide)) ?_
  refine z_aload_n 1285 hX dL_law_1285 rfl ?_
  refine z_iload_n 1286 hX dL_law_1286 rfl ?_
  refine z_iconst (v := nI 5) 1287 hX dL_law_1287 (by decide +kernel) ?_
  refine z_iadd 1288 hX dL_law_1288 ?_
  refine z_sld 1289 hX dL_law_1289 hs (lw_inL hN hj (by decide)) ?_
  refine z_callV (C := RX11) (T := TX11) (N := 11) (As := [.int (lwA xs j 1), .int (lwA xs j 2), .int (lwA xs j 3), .int (lwA xs j 4), .int (lwA xs j 5)]) (rest := []) 1290 hX dL_law_1290 (c_X11_move (zgd0 hX) h1) zw962 zw963 zw964 zw72 zw965 zdl_X11_move (rfl : shp 0 = (11, 0)) (by decide) rfl rfl rfl rfl (Nat.le_of_ble_eq_true rfl) (Nat.le_of_ble_eq_true rfl) (Nat.le_of_ble_eq_true rfl) ?_
  refine z_aload_n 1293 hX dL_law_1293 rfl ?_
  refine z_aload_n 1294 hX dL_law_1294 rfl ?_
  refine z_iload_n 1295 hX dL_law_1295 rfl ?_
  refine z_iconst (v := nI 1) 1296 hX dL_law_1296 (by decide +kernel) ?_
  refine z_iadd 1297 hX dL_law_1297 ?_
  refine z_sld 1298 hX dL_law_1298 hs (lw_inL hN hj (by decide)) ?_
  refine z_aload_n 1299 hX dL_law_1299 rfl ?_
  refine z_iload_n 1300 hX dL_law_1300 rfl ?_
  refine z_iconst (v := nI 2) 1301 hX dL_law_1301 (by decide +kernel) ?_
  refine z_iadd 1302 hX dL_law_1302 ?_
  refine z_sld 1303 hX dL_law_1303 hs (lw_inL hN hj (by decide)) ?_
  refine z_aload_n 1304 hX dL_law_1304 rfl ?_
  refine z_iload_n 1305 hX dL_law_1305 rfl ?_
  refine z_iconst (v := nI 3) 1306 hX dL_law_1306 (by decide +kernel) ?_
  refine z_iadd 1307 hX dL_law_1307 ?_
  refine z_sld 1308 hX dL_law_1308 hs (lw_inL hN hj (by decide)) ?_
  refine z_aload_n 1309 hX dL_law_1309 rfl ?_
  refine z_iload_n 1310 hX dL_law_1310 rfl ?_
  refine z_iconst (v := nI 4) 1311 hX dL_law_1311 (by decide +kernel) ?_
  refine z_iadd 1312 hX dL_law_1312 ?_
  refine z_sld 1313 hX dL_law_1313 hs (lw_inL hN hj (by decide)) ?_
  refine z_aload_n 1314 hX dL_law_1314 rfl ?_
  refine z_iload_n 1315 hX dL_law_1315 rfl ?_
  refine z_iconst (v := nI 5) 1316 hX dL_law_1316 (by decide +kernel) ?_
  refine z_iadd 1317 hX dL_law_1317 ?_
  refine z_sld 1318 hX dL_law_1318 hs (lw_inL hN hj (by decide)) ?_
  refine z_callV (C := RX12) (T := TX12) (N := 28) (As := [.int (lwA xs j 1), .int (lwA xs j 2), .int (lwA xs j 3), .int (lwA xs j 4), .int (lwA xs j 5)]) (rest := [.int r]) 1319 hX dL_law_1319 (c_X12_move (zgd0 hX) h2) zw1462 zw1463 zw1464 zw84 zw1465 zdl_X12_move (rfl : shp 128 = (12, 0)) (by decide) rfl rfl rfl rfl (Nat.le_of_ble_eq_true rfl) (Nat.le_of_ble_eq_true rfl) (Nat.le_of_ble_eq_true rfl) ?_
  exact z_icmp_eq (inst := inferInstance) (E1 := some ()) (E2 := some ()) (r := ()) 1322 1478 hX dL_law_1322 (by decide) (ite_self _) (fun _ _ => k w2 h3) (fun q _ => absurd rfl q)
theorem lw_c33 {G : zG} {X : zX} {w : zW} {b j N : Nat} {xs : Nat → Int32} (hX : zOk G X code 4 "LetterWallsLaw" 2048) (hs : zscr X b N xs) (hN : N ≤ 384) (hj : j + 6 ≤ N) (hR : Rel w) (k : ∀ w2, Rel w2 → zZ G X w2 1478 (lwL G b j) []) : zZ G X w 1327 (lwL G b j) [] := by
  obtain ⟨r, w1, w2, h1, h2, h3⟩ := op_bricks hR ((lwA xs j 1)) ((lwA xs j 2))
  refine z_aload_n 1327 hX dL_law_1327 rfl ?_
  refine z_aload_n 1328 hX dL_law_1328 rfl ?_
  refine z_iload_n 1329 hX dL_law_1329 rfl ?_
  refine z_iconst (v := nI 1) 1330 hX dL_law_1330 (by decide +kernel) ?_
  refine z_iadd 1331 hX dL_law_1331 ?_
  refine z_sld 1332 hX dL_law_1332 hs (lw_inL hN hj (by decide)) ?_
  refine z_aload_n 1333 hX dL_law_1333 rfl ?_
  refine z_iload_n 1334 hX dL_law_1334 rfl ?_
  refine z_iconst (v := nI 2) 1335 hX dL_law_1335 (by decide +kernel) ?_
  refine z_iadd 1336 hX dL_law_1336 ?_
  refine z_sld 1337 hX dL_law_1337 hs (lw_inL hN hj (by decide)) ?_
  refine z_callV (C := RX11) (T := TX11) (N := 11) (As := [.int (lwA xs j 1), .int (lwA xs j 2)]) (rest := []) 1338 hX dL_law_1338 (c_X11_bricks (zgd0 hX) h1) zw971 zw972 zw973 zw72 zw974 zdl_X11_bricks (rfl : shp 0 = (11, 0)) (by decide) rfl rfl rfl rfl (Nat.le_of_ble_eq_true rfl) (Nat.le_of_ble_eq_true rfl) (Nat.le_of_ble_eq_true rfl) ?_
  refine z_aload_n 1341 hX dL_law_1341 rfl ?_
  refine z_aload_n 1342 hX dL_law_1342 rfl ?_
  refine z_iload_n 1343 hX dL_law_1343 rfl ?_
  refine z_iconst (v := nI 1) 1344 hX dL_law_1344 (by decide +kernel) ?_
  refine z_iadd 1345 hX dL_law_1345 ?_
  refine z_sld 1346 hX dL_law_1346 hs (lw_inL hN hj (by decide)) ?_
  refine z_aload_n 1347 hX dL_law_1347 rfl ?_
  refine z_iload_n 1348 hX dL_law_1348 rfl ?_
  refine z_iconst (v := nI 2) 1349 hX dL_law_1349 (by decide +kernel) ?_
  refine z_iadd 1350 hX dL_law_1350 ?_
  refine z_sld 1351 hX dL_law_1351 hs (lw_inL hN hj (by decide)) ?_
  refine z_callV (C := RX12) (T := TX12) (N := 28) (As := [.int (lwA xs j 1), .int (lwA xs j 2)]) (rest := [.int r]) 1352 hX dL_law_1352 (c_X12_bricks (zgd0 hX) h2) zw1466 zw1467 zw1468 zw84 zw1469 zdl_X12_bricks (rfl : shp 128 = (12, 0)) (by decide) rfl rfl rfl rfl (Nat.le_of_ble_eq_true rfl) (Nat.le_of_ble_eq_true rfl) (Nat.le_of_ble_eq_true rfl) ?_
  exact z_icmp_eq (inst := inferInstance) (E1 := some ()) (E2 := some ()) (r := ()) 1355 1478 hX dL_law_1355 (by decide) (ite_self _) (fun _ _ => k w2 h3) (fun q _ => absurd rfl q)
theorem lw_c34 {G : zG} {X : zX} {w : zW} {b j N : Nat} {xs : Nat → Int32} (hX : zOk G X code 4 "LetterWallsLaw" 2048) (hs : zscr X b N xs) (hN : N ≤ 384) (hj : j + 6 ≤ N) (hR : Rel w) (k : ∀ w2, Rel w2 → zZ G X w2 1478 (lwL G b j) []) : zZ G X w 1360 (lwL G b j) [] := by
  obtain ⟨r, w1, w2, h1, h2, h3⟩ := op_image hR 
  refine z_aload_n 1360 hX dL_law_1360 rfl ?_
  refine z_callV (C := RX11) (T := TX11) (N := 11) (As := []) (rest := []) 1361 hX dL_law_1361 (c_X11_image (zgd0 hX) h1) zw975 zw976 zw977 zw72 zw978 zdl_X11_image (rfl : shp 0 = (11, 0)) (by decide) rfl rfl rfl rfl (Nat.le_of_ble_eq_true rfl) (Nat.le_of_ble_eq_true rfl) (Nat.le_of_ble_eq_true rfl) ?_
  refine z_aload_n 1364 hX dL_law_1364 rfl ?_
  refine z_callV (C := RX12) (T := TX12) (N := 28) (As := []) (rest := [.int r]) 1365 hX dL_law_1365 (c_X12_image (zgd0 hX) h2) zw1470 zw1471 zw1472 zw84 zw1473 zdl_X12_image (rfl : shp 128 = (12, 0)) (by decide) rfl rfl rfl rfl (Nat.le_of_ble_eq_true rfl) (Nat.le_of_ble_eq_true rfl) (Nat.le_of_ble_eq_true rfl) ?_
  exact z_icmp_eq (inst := inferInstance) (E1 := some ()) (E2 := some ()) (r := ()) 1368 1478 hX dL_law_1368 (by decide) (ite_self _) (fun _ _ => k w2 h3) (fun q _ => absurd rfl q)
theorem lw_c35 {G : zG} {X : zX} {w : zW} {b j N : Nat} {xs : Nat → Int32} (hX : zOk G X code 4 "LetterWallsLaw" 2048) (hs : zscr X b N xs) (hN : N ≤ 384) (hj : j + 6 ≤ N) (hR : Rel w) (k : ∀ w2, Rel w2 → zZ G X w2 1478 (lwL G b j) []) : zZ G X w 1373 (lwL G b j) [] := by
  obtain ⟨r, w1, w2, h1, h2, h3⟩ := op_restore hR 
  refine z_aload_n 1373 hX dL_law_1373 rfl ?_
  refine z_callV (C := RX11) (T := TX11) (N := 11) (As := []) (rest := []) 1374 hX dL_law_1374 (c_X11_restore (zgd0 hX) h1) zw999 zw1000 zw1001 zw72 zw1002 zdl_X11_restore (rfl : shp 0 = (11, 0)) (by decide) rfl rfl rfl rfl (Nat.le_of_ble_eq_true rfl) (Nat.le_of_ble_eq_true rfl) (Nat.le_of_ble_eq_true rfl) ?_
  refine z_aload_n 1377 hX dL_law_1377 rfl ?_
  refine z_callV (C := RX12) (T := TX12) (N := 28) (As := []) (rest := [.int r]) 1378 hX dL_law_1378 (c_X12_restore (zgd0 hX) h2) zw1477 zw1478 zw1479 zw84 zw1480 zdl_X12_restore (rfl : shp 128 = (12, 0)) (by decide) rfl rfl rfl rfl (Nat.le_of_ble_eq_true rfl) (Nat.le_of_ble_eq_true rfl) (Nat.le_of_ble_eq_true rfl) ?_
  exact z_icmp_eq (inst := inferInstance) (E1 := some ()) (E2 := some ()) (r := ()) 1381 1478 hX dL_law_1381 (by decide) (ite_self _) (fun _ _ => k w2 h3) (fun q _ => absurd rfl q)
theorem lw_c36 {G : zG} {X : zX} {w : zW} {b j N : Nat} {xs : Nat → Int32} (hX : zOk G X code 4 "LetterWallsLaw" 2048) (hs : zscr X b N xs) (hN : N ≤ 384) (hj : j + 6 ≤ N) (hR : Rel w) (k : ∀ w2, Rel w2 → zZ G X w2 1478 (lwL G b j) []) : zZ G X w 1386 (lwL G b j) [] := by
  obtain ⟨r, w1, w2, h1, h2, h3⟩ := op_tell hR ((lwA xs j 1))
  refine z_aload_n 1386 hX dL_law_1386 rfl ?_
  refine z_aload_n 1387 hX dL_law_1387 rfl ?_
  refine z_iload_n 1388 hX dL_law_1388 rfl ?_
  refine z_iconst (v := nI 1) 1389 hX dL_law_1389 (by decide +kernel) ?_
  refine z_iadd 1390 hX dL_law_1390 ?_
  refine z_sld 1391 hX dL_law_1391 hs (lw_inL hN hj (by decide)) ?_
  refine z_callV (C := RX11) (T := TX11) (N := 11) (As := [.int (lwA xs j 1)]) (rest := []) 1392 hX dL_law_1392 (c_X11_tell (zgd0 hX) h1) zw1003 zw1004 zw1005 zw72 zw1006 zdl_X11_tell (rfl : shp 0 = (11, 0)) (by decide) rfl rfl rfl rfl (Nat.le_of_ble_eq_true rfl) (Nat.le_of_ble_eq_true rfl) (Nat.le_of_ble_eq_true rfl) ?_
  refine z_aload_n 1395 hX dL_law_1395 rfl ?_
  refine z_aload_n 1396 hX dL_law_1396 rfl ?_
  refine z_iload_n 1397 hX dL_law_1397 rfl ?_
  refine z_iconst (v := nI 1) 1398 hX dL_law_1398 (by decide +kernel) ?_
  refine z_iadd 1399 hX dL_law_1399 ?_
  refine z_sld 1400 hX dL_law_1400 hs (lw_inL hN hj (by decide)) ?_
  refine z_callV (C := RX12) (T := TX12) (N := 28) (As := [.int (lwA xs j 1)]) (rest := [.int r]) 1401 hX dL_law_1401 (c_X12_tell (zgd0 hX) h2) zw1481 zw1482 zw1483 zw84 zw1484 zdl_X12_tell (rfl : shp 128 = (12, 0)) (by decide) rfl rfl rfl rfl (Nat.le_of_ble_eq_true rfl) (Nat.le_of_ble_eq_true rfl) (Nat.le_of_ble_eq_true rfl) ?_
  exact z_icmp_eq (inst := inferInstance) (E1 := some ()) (E2 := some ()) (r := ()) 1404 1478 hX dL_law_1404 (by decide) (ite_self _) (fun _ _ => k w2 h3) (fun q _ => absurd rfl q)
theorem lw_c37 {G : zG} {X : zX} {w : zW} {b j N : Nat} {xs : Nat → Int32} (hX : zOk G X code 4 "LetterWallsLaw" 2048) (hs : zscr X b N xs) (hN : N ≤ 384) (hj : j + 6 ≤ N) (hR : Rel w) (k : ∀ w2, Rel w2 → zZ G X w2 1478 (lwL G b j) []) : zZ G X w 1409 (lwL G b j) [] := by
  obtain ⟨r, w1, w2, h1, h2, h3⟩ := op_check hR ((lwA xs j 1))
  refine z_aload_n 1409 hX dL_law_1409 rfl ?_
  refine z_aload_n 1410 hX dL_law_1410 rfl ?_
  refine z_iload_n 1411 hX dL_law_1411 rfl ?_
  refine z_iconst (v := nI 1) 1412 hX dL_law_1412 (by decide +kernel) ?_
  refine z_iadd 1413 hX dL_law_1413 ?_
  refine z_sld 1414 hX dL_law_1414 hs (lw_inL hN hj (by decide)) ?_
  refine z_callV (C := RX11) (T := TX11) (N := 11) (As := [.int (lwA xs j 1)]) (rest := []) 1415 hX dL_law_1415 (c_X11_check (zgd0 hX) h1) zw1007 zw1008 zw1009 zw72 zw1010 zdl_X11_check (rfl : shp 0 = (11, 0)) (by decide) rfl rfl rfl rfl (Nat.le_of_ble_eq_true rfl) (Nat.le_of_ble_eq_true rfl) (Nat.le_of_ble_eq_true rfl) ?_
  refine z_aload_n 1418 hX dL_law_1418 rfl ?_
  refine z_aload_n 1419 hX dL_law_1419 rfl ?_
  refine z_iload_n 1420 hX dL_law_1420 rfl ?_
  refine z_iconst (v := nI 1) 1421 hX dL_law_1421 (by decide +kernel) ?_
  refine z_iadd 1422 hX dL_law_1422 ?_
  refine z_sld 1423 hX dL_law_1423 hs (lw_inL hN hj (by decide)) ?_
  refine z_callV (C := RX12) (T := TX12) (N := 28) (As := [.int (lwA xs j 1)]) (rest := [.int r]) 1424 hX dL_law_1424 (c_X12_check (zgd0 hX) h2) zw1485 zw1486 zw1487 zw84 zw1488 zdl_X12_check (rfl : shp 128 = (12, 0)) (by decide) rfl rfl rfl rfl (Nat.le_of_ble_eq_true rfl) (Nat.le_of_ble_eq_true rfl) (Nat.le_of_ble_eq_true rfl) ?_
  exact z_icmp_eq (inst := inferInstance) (E1 := some ()) (E2 := some ()) (r := ()) 1427 1478 hX dL_law_1427 (by decide) (ite_self _) (fun _ _ => k w2 h3) (fun q _ => absurd rfl q)
theorem lw_c38 {G : zG} {X : zX} {w : zW} {b j N : Nat} {xs : Nat → Int32} (hX : zOk G X code 4 "LetterWallsLaw" 2048) (hs : zscr X b N xs) (hN : N ≤ 384) (hj : j + 6 ≤ N) (hR : Rel w) (k : ∀ w2, Rel w2 → zZ G X w2 1478 (lwL G b j) []) : zZ G X w 1432 (lwL G b j) [] := by
  obtain ⟨r, w1, w2, h1, h2, h3⟩ := op_count hR ((lwA xs j 1))
  refine z_aload_n 1432 hX dL_law_1432 rfl ?_
  refine z_aload_n 1433 hX dL_law_1433 rfl ?_
  refine z_iload_n 1434 hX dL_law_1434 rfl ?_
  refine z_iconst (v := nI 1) 1435 hX dL_law_1435 (by decide +kernel) ?_
  refine z_iadd 1436 hX dL_law_1436 ?_
  refine z_sld 1437 hX dL_law_1437 hs (lw_inL hN hj (by decide)) ?_
  refine z_callV (C := RX11) (T := TX11) (N := 11) (As := [.int (lwA xs j 1)]) (rest := []) 1438 hX dL_law_1438 (c_X11_count (zgd0 hX) h1) zw1015 zw1016 zw1017 zw72 zw1018 zdl_X11_count (rfl : shp 0 = (11, 0)) (by decide) rfl rfl rfl rfl (Nat.le_of_ble_eq_true rfl) (Nat.le_of_ble_eq_true rfl) (Nat.le_of_ble_eq_true rfl) ?_
  refine z_aload_n 1441 hX dL_law_1441 rfl ?_
  refine z_aload_n 1442 hX dL_law_1442 rfl ?_
  refine z_iload_n 1443 hX dL_law_1443 rfl ?_
  refine z_iconst (v := nI 1) 1444 hX dL_law_1444 (by decide +kernel) ?_
  refine z_iadd 1445 hX dL_law_1445 ?_
  refine z_sld 1446 hX dL_law_1446 hs (lw_inL hN hj (by decide)) ?_
  refine z_callV (C := RX12) (T := TX12) (N := 28) (As := [.int (lwA xs j 1)]) (rest := [.int r]) 1447 hX dL_law_1447 (c_X12_count (zgd0 hX) h2) zw1489 zw1490 zw1491 zw84 zw1492 zdl_X12_count (rfl : shp 128 = (12, 0)) (by decide) rfl rfl rfl rfl (Nat.le_of_ble_eq_true rfl) (Nat.le_of_ble_eq_true rfl) (Nat.le_of_ble_eq_true rfl) ?_
  exact z_icmp_eq (inst := inferInstance) (E1 := some ()) (E2 := some ()) (r := ()) 1450 1478 hX dL_law_1450 (by decide) (ite_self _) (fun _ _ => k w2 h3) (fun q _ => absurd rfl q)
theorem lw_c39 {G : zG} {X : zX} {w : zW} {b j N : Nat} {xs : Nat → Int32} (hX : zOk G X code 4 "LetterWallsLaw" 2048) (hs : zscr X b N xs) (hN : N ≤ 384) (hj : j + 6 ≤ N) (hR : Rel w) (k : ∀ w2, Rel w2 → zZ G X w2 1478 (lwL G b j) []) : zZ G X w 1455 (lwL G b j) [] := by
  obtain ⟨r, w1, w2, h1, h2, h3⟩ := op_told hR ((lwA xs j 1))
  refine z_aload_n 1455 hX dL_law_1455 rfl ?_
  refine z_aload_n 1456 hX dL_law_1456 rfl ?_
  refine z_iload_n 1457 hX dL_law_1457 rfl ?_
  refine z_iconst (v := nI 1) 1458 hX dL_law_1458 (by decide +kernel) ?_
  refine z_iadd 1459 hX dL_law_1459 ?_
  refine z_sld 1460 hX dL_law_1460 hs (lw_inL hN hj (by decide)) ?_
  refine z_callV (C := RX11) (T := TX11) (N := 11) (As := [.int (lwA xs j 1)]) (rest := []) 1461 hX dL_law_1461 (c_X11_told (zgd0 hX) h1) zw1023 zw1024 zw1025 zw72 zw1026 zdl_X11_told (rfl : shp 0 = (11, 0)) (by decide) rfl rfl rfl rfl (Nat.le_of_ble_eq_true rfl) (Nat.le_of_ble_eq_true rfl) (Nat.le_of_ble_eq_true rfl) ?_
  refine z_aload_n 1464 hX dL_law_1464 rfl ?_
  refine z_aload_n 1465 hX dL_law_1465 rfl ?_
  refine z_iload_n 1466 hX dL_law_1466 rfl ?_
  refine z_iconst (v := nI 1) 1467 hX dL_law_1467 (by decide +kernel) ?_
  refine z_iadd 1468 hX dL_law_1468 ?_
  refine z_sld 1469 hX dL_law_1469 hs (lw_inL hN hj (by decide)) ?_
  refine z_callV (C := RX12) (T := TX12) (N := 28) (As := [.int (lwA xs j 1)]) (rest := [.int r]) 1470 hX dL_law_1470 (c_X12_told (zgd0 hX) h2) zw1493 zw1494 zw1495 zw84 zw1496 zdl_X12_told (rfl : shp 128 = (12, 0)) (by decide) rfl rfl rfl rfl (Nat.le_of_ble_eq_true rfl) (Nat.le_of_ble_eq_true rfl) (Nat.le_of_ble_eq_true rfl) ?_
  exact z_icmp_eq (inst := inferInstance) (E1 := some ()) (E2 := some ()) (r := ()) 1473 1478 hX dL_law_1473 (by decide) (ite_self _) (fun _ _ => k w2 h3) (fun q _ => absurd rfl q)
