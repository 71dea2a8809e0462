/-! ===== the law: a call on both sides ===== -/
theorem law_1 {Ls i : Nat} {sx : Nat → Int} {h : MH} {Q : Option MV → MR → MH → Prop} (hsx : ∀ n, i32 (sx n)) (hL : Ls ≤ 2560) (hi : i + 5 ≤ Ls) (li : LI h) (hK : ∀ h2, LI h2 → G mL_law (11, 600000, 7302250, Ls, sx) 1427 [(0, vS true), (1, vR 0), (2, vR 633), (3, vI (i : Int))] [] (663, 83939, 663) h2 Q) : G mL_law (11, 600000, 7302250, Ls, sx) 219 [(0, vS true), (1, vR 0), (2, vR 633), (3, vI (i : Int))] [] (663, 83939, 663) h Q := by
  obtain ⟨σ, p, ct, s, c, td, rs, rt⟩ := li
  have h10 : Hd (663, 83939, 663) h 0 (eO 10 [vR 1, vR 2, vR 74]) := c.1
  refine g_aload_n (pc := 219) (r := .inl (some 0)) dL_law_219 rfl ?_
  refine g_aload_n (pc := 220) (r := .inr true) dL_law_220 rfl ?_
  refine g_iload_n (pc := 221) (x := (i : Int)) dL_law_221 rfl ?_
  refine g_iconst (pc := 222) dL_law_222 ?_
  refine g_iadd (pc := 223) dL_law_223 ?_
  refine g_sald (pc := 224) dL_law_224 (by omega) (show (i : Int) + 1 < (Ls : Int) by omega) (show (Ls : Nat) ≤ 2147483647 by omega) ?_
  refine g_callV0 (pc := 225) (as := [vI (sx ((i : Int) + 1).toNat)]) (b := 0) (st := []) lvL_18 dL_law_225 h10 (Nat.le_of_ble_eq_true rfl) (Nat.le_of_ble_eq_true rfl) (Nat.le_of_ble_eq_true rfl) (Nat.le_of_ble_eq_true rfl) (k_drop (hsx _)  c) ?_
  rintro r8 h2 ⟨rfl, c2⟩
  have rs2 := LI.ref rs c2
  obtain ⟨th2, wd2, pm2, fm2, mu2, um2, hx2⟩ := id rs2.1
  have h11 : Hd (663, 83939, 663) h2 633 (mdl 633 th2 wd2 pm2 fm2 mu2 um2 (p : Int) (ct : Int)) := hx2
  refine g_aload_n (pc := 228) (r := .inl (some 633)) dL_law_228 rfl ?_
  refine g_aload_n (pc := 229) (r := .inr true) dL_law_229 rfl ?_
  refine g_iload_n (pc := 230) (x := (i : Int)) dL_law_230 rfl ?_
  refine g_iconst (pc := 231) dL_law_231 ?_
  refine g_iadd (pc := 232) dL_law_232 ?_
  refine g_sald (pc := 233) dL_law_233 (by omega) (show (i : Int) + 1 < (Ls : Int) by omega) (show (Ls : Nat) ≤ 2147483647 by omega) ?_
  refine g_callV0 (pc := 234) (as := [vI (sx ((i : Int) + 1).toNat)]) (b := 633) (st := [vI _]) lvL_22 dL_law_234 h11 (Nat.le_of_ble_eq_true rfl) (Nat.le_of_ble_eq_true rfl) (Nat.le_of_ble_eq_true rfl) (Nat.le_of_ble_eq_true rfl) (r_drop (hsx _)  rs2) ?_
  rintro r9 h3 ⟨rfl, r3⟩
  refine g_icmp_eqS (pc := 237) (tgt := 1427) dL_law_237 (by decide) ?_
  exact hK _ (LI.mills td rt c2 r3)

theorem law_2 {Ls i : Nat} {sx : Nat → Int} {h : MH} {Q : Option MV → MR → MH → Prop} (hsx : ∀ n, i32 (sx n)) (hL : Ls ≤ 2560) (hi : i + 5 ≤ Ls) (li : LI h) (hK : ∀ h2, LI h2 → G mL_law (11, 600000, 7302250, Ls, sx) 1427 [(0, vS true), (1, vR 0), (2, vR 633), (3, vI (i : Int))] [] (663, 83939, 663) h2 Q) : G mL_law (11, 600000, 7302250, Ls, sx) 242 [(0, vS true), (1, vR 0), (2, vR 633), (3, vI (i : Int))] [] (663, 83939, 663) h Q := by
  obtain ⟨σ, p, ct, s, c, td, rs, rt⟩ := li
  have h10 : Hd (663, 83939, 663) h 0 (eO 10 [vR 1, vR 2, vR 74]) := c.1
  refine g_aload_n (pc := 242) (r := .inl (some 0)) dL_law_242 rfl ?_
  refine g_aload_n (pc := 243) (r := .inr true) dL_law_243 rfl ?_
  refine g_iload_n (pc := 244) (x := (i : Int)) dL_law_244 rfl ?_
  refine g_iconst (pc := 245) dL_law_245 ?_
  refine g_iadd (pc := 246) dL_law_246 ?_
  refine g_sald (pc := 247) dL_law_247 (by omega) (show (i : Int) + 1 < (Ls : Int) by omega) (show (Ls : Nat) ≤ 2147483647 by omega) ?_
  refine g_aload_n (pc := 248) (r := .inr true) dL_law_248 rfl ?_
  refine g_iload_n (pc := 249) (x := (i : Int)) dL_law_249 rfl ?_
  refine g_iconst (pc := 250) dL_law_250 ?_
  refine g_iadd (pc := 251) dL_law_251 ?_
  refine g_sald (pc := 252) dL_law_252 (by omega) (show (i : Int) + 2 < (Ls : Int) by omega) (show (Ls : Nat) ≤ 2147483647 by omega) ?_
  refine g_aload_n (pc := 253) (r := .inr true) dL_law_253 rfl ?_
  refine g_iload_n (pc := 254) (x := (i : Int)) dL_law_254 rfl ?_
  refine g_iconst (pc := 255) dL_law_255 ?_
  refine g_iadd (pc := 256) dL_law_256 ?_
  refine g_sald (pc := 257) dL_law_257 (by omega) (show (i : Int) + 3 < (Ls : Int) by omega) (show (Ls : Nat) ≤ 2147483647 by omega) ?_
  refine g_aload_n (pc := 258) (r := .inr true) dL_law_258 rfl ?_
  refine g_iload_n (pc := 259) (x := (i : Int)) dL_law_259 rfl ?_
  refine g_iconst (pc := 260) dL_law_260 ?_
  refine g_iadd (pc := 261) dL_law_261 ?_
  refine g_sald (pc := 262) dL_law_262 (by omega) (show (i : Int) + 4 < (Ls : Int) by omega) (show (Ls : Nat) ≤ 2147483647 by omega) ?_
  refine g_callV0 (pc := 263) (as := [vI (sx ((i : Int) + 1).toNat), vI (sx ((i : Int) + 2).toNat), vI (sx ((i : Int) + 3).toNat), vI (sx ((i : Int) + 4).toNat)]) (b := 0) (st := []) lvL_23 dL_law_263 h10 (Nat.le_of_ble_eq_true rfl) (Nat.le_of_ble_eq_true rfl) (Nat.le_of_ble_eq_true rfl) (Nat.le_of_ble_eq_true rfl) (k_table (hsx _) (hsx _) (hsx _) (hsx _)  c) ?_
  rintro r8 h2 ⟨rfl, c2⟩
  have rs2 := LI.ref rs c2
  obtain ⟨th2, wd2, pm2, fm2, mu2, um2, hx2⟩ := id rs2.1
  have h11 : Hd (663, 83939, 663) h2 633 (mdl 633 th2 wd2 pm2 fm2 mu2 um2 (p : Int) (ct : Int)) := hx2
  refine g_aload_n (pc := 266) (r := .inl (some 633)) dL_law_266 rfl ?_
  refine g_aload_n (pc := 267) (r := .inr true) dL_law_267 rfl ?_
  refine g_iload_n (pc := 268) (x := (i : Int)) dL_law_268 rfl ?_
  refine g_iconst (pc := 269) dL_law_269 ?_
  refine g_iadd (pc := 270) dL_law_270 ?_
  refine g_sald (pc := 271) dL_law_271 (by omega) (show (i : Int) + 1 < (Ls : Int) by omega) (show (Ls : Nat) ≤ 2147483647 by omega) ?_
  refine g_aload_n (pc := 272) (r := .inr true) dL_law_272 rfl ?_
  refine g_iload_n (pc := 273) (x := (i : Int)) dL_law_273 rfl ?_
  refine g_iconst (pc := 274) dL_law_274 ?_
  refine g_iadd (pc := 275) dL_law_275 ?_
  refine g_sald (pc := 276) dL_law_276 (by omega) (show (i : Int) + 2 < (Ls : Int) by omega) (show (Ls : Nat) ≤ 2147483647 by omega) ?_
  refine g_aload_n (pc := 277) (r := .inr true) dL_law_277 rfl ?_
  refine g_iload_n (pc := 278) (x := (i : Int)) dL_law_278 rfl ?_
  refine g_iconst (pc := 279) dL_law_279 ?_
  refine g_iadd (pc := 280) dL_law_280 ?_
  refine g_sald (pc := 281) dL_law_281 (by omega) (show (i : Int) + 3 < (Ls : Int) by omega) (show (Ls : Nat) ≤ 2147483647 by omega) ?_
  refine g_aload_n (pc := 282) (r := .inr true) dL_law_282 rfl ?_
  refine g_iload_n (pc := 283) (x := (i : Int)) dL_law_283 rfl ?_
  refine g_iconst (pc := 284) dL_law_284 ?_
  refine g_iadd (pc := 285) dL_law_285 ?_
  refine g_sald (pc := 286) dL_law_286 (by omega) (show (i : Int) + 4 < (Ls : Int) by omega) (show (Ls : Nat) ≤ 2147483647 by omega) ?_
  refine g_callV0 (pc := 287) (as := [vI (sx ((i : Int) + 1).toNat), vI (sx ((i : Int) + 2).toNat), vI (sx ((i : Int) + 3).toNat), vI (sx ((i : Int) + 4).toNat)]) (b := 633) (st := [vI _]) lvL_27 dL_law_287 h11 (Nat.le_of_ble_eq_true rfl) (Nat.le_of_ble_eq_true rfl) (Nat.le_of_ble_eq_true rfl) (Nat.le_of_ble_eq_true rfl) (r_table (hsx _) (hsx _) (hsx _) (hsx _)  rs2) ?_
  rintro r9 h3 ⟨rfl, r3⟩
  refine g_icmp_eqS (pc := 290) (tgt := 1427) dL_law_290 (by decide) ?_
  exact hK _ (LI.mills td rt c2 r3)

theorem law_3 {Ls i : Nat} {sx : Nat → Int} {h : MH} {Q : Option MV → MR → MH → Prop} (hsx : ∀ n, i32 (sx n)) (hL : Ls ≤ 2560) (hi : i + 5 ≤ Ls) (li : LI h) (hK : ∀ h2, LI h2 → G mL_law (11, 600000, 7302250, Ls, sx) 1427 [(0, vS true), (1, vR 0), (2, vR 633), (3, vI (i : Int))] [] (663, 83939, 663) h2 Q) : G mL_law (11, 600000, 7302250, Ls, sx) 295 [(0, vS true), (1, vR 0), (2, vR 633), (3, vI (i : Int))] [] (663, 83939, 663) h Q := by
  obtain ⟨σ, p, ct, s, c, td, rs, rt⟩ := li
  have h10 : Hd (663, 83939, 663) h 0 (eO 10 [vR 1, vR 2, vR 74]) := c.1
  refine g_aload_n (pc := 295) (r := .inl (some 0)) dL_law_295 rfl ?_
  refine g_aload_n (pc := 296) (r := .inr true) dL_law_296 rfl ?_
  refine g_iload_n (pc := 297) (x := (i : Int)) dL_law_297 rfl ?_
  refine g_iconst (pc := 298) dL_law_298 ?_
  refine g_iadd (pc := 299) dL_law_299 ?_
  refine g_sald (pc := 300) dL_law_300 (by omega) (show (i : Int) + 1 < (Ls : Int) by omega) (show (Ls : Nat) ≤ 2147483647 by omega) ?_
  refine g_aload_n (pc := 301) (r := .inr true) dL_law_301 rfl ?_
  refine g_iload_n (pc := 302) (x := (i : Int)) dL_law_302 rfl ?_
  refine g_iconst (pc := 303) dL_law_303 ?_
  refine g_iadd (pc := 304) dL_law_304 ?_
  refine g_sald (pc := 305) dL_law_305 (by omega) (show (i : Int) + 2 < (Ls : Int) by omega) (show (Ls : Nat) ≤ 2147483647 by omega) ?_
  refine g_aload_n (pc := 306) (r := .inr true) dL_law_306 rfl ?_
  refine g_iload_n (pc := 307) (x := (i : Int)) dL_law_307 rfl ?_
  refine g_iconst (pc := 308) dL_law_308 ?_
  refine g_iadd (pc := 309) dL_law_309 ?_
  refine g_sald (pc := 310) dL_law_310 (by omega) (show (i : Int) + 3 < (Ls : Int) by omega) (show (Ls : Nat) ≤ 2147483647 by omega) ?_
  refine g_callV0 (pc := 311) (as := [vI (sx ((i : Int) + 1).toNat), vI (sx ((i : Int) + 2).toNat), vI (sx ((i : Int) + 3).toNat)]) (b := 0) (st := []) lvL_28 dL_law_311 h10 (Nat.le_of_ble_eq_true rfl) (Nat.le_of_ble_eq_true rfl) (Nat.le_of_ble_eq_true rfl) (Nat.le_of_ble_eq_true rfl) (k_more (hsx _) (hsx _) (hsx _)  c) ?_
  rintro r8 h2 ⟨rfl, c2⟩
  have rs2 := LI.ref rs c2
  obtain ⟨th2, wd2, pm2, fm2, mu2, um2, hx2⟩ := id rs2.1
  have h11 : Hd (663, 83939, 663) h2 633 (mdl 633 th2 wd2 pm2 fm2 mu2 um2 (p : Int) (ct : Int)) := hx2
  refine g_aload_n (pc := 314) (r := .inl (some 633)) dL_law_314 rfl ?_
  refine g_aload_n (pc := 315) (r := .inr true) dL_law_315 rfl ?_
  refine g_iload_n (pc := 316) (x := (i : Int)) dL_law_316 rfl ?_
  refine g_iconst (pc := 317) dL_law_317 ?_
  refine g_iadd (pc := 318) dL_law_318 ?_
  refine g_sald (pc := 319) dL_law_319 (by omega) (show (i : Int) + 1 < (Ls : Int) by omega) (show (Ls : Nat) ≤ 2147483647 by omega) ?_
  refine g_aload_n (pc := 320) (r := .inr true) dL_law_320 rfl ?_
  refine g_iload_n (pc := 321) (x := (i : Int)) dL_law_321 rfl ?_
  refine g_iconst (pc := 322) dL_law_322 ?_
  refine g_iadd (pc := 323) dL_law_323 ?_
  refine g_sald (pc := 324) dL_law_324 (by omega) (show (i : Int) + 2 < (Ls : Int) by omega) (show (Ls : Nat) ≤ 2147483647 by omega) ?_
  refine g_aload_n (pc := 325) (r := .inr true) dL_law_325 rfl ?_
  refine g_iload_n (pc := 326) (x := (i : Int)) dL_law_326 rfl ?_
  refine g_iconst (pc := 327) dL_law_327 ?_
  refine g_iadd (pc := 328) dL_law_328 ?_
  refine g_sald (pc := 329) dL_law_329 (by omega) (show (i : Int) + 3 < (Ls : Int) by omega) (show (Ls : Nat) ≤ 2147483647 by omega) ?_
  refine g_callV0 (pc := 330) (as := [vI (sx ((i : Int) + 1).toNat), vI (sx ((i : Int) + 2).toNat), vI (sx ((i : Int) + 3).toNat)]) (b := 633) (st := [vI _]) lvL_32 dL_law_330 h11 (Nat.le_of_ble_eq_true rfl) (Nat.le_of_ble_eq_true rfl) (Nat.le_of_ble_eq_true rfl) (Nat.le_of_ble_eq_true rfl) (r_more (hsx _) (hsx _) (hsx _)  rs2) ?_
  rintro r9 h3 ⟨rfl, r3⟩
  refine g_icmp_eqS (pc := 333) (tgt := 1427) dL_law_333 (by decide) ?_
  exact hK _ (LI.mills td rt c2 r3)

theorem law_4 {Ls i : Nat} {sx : Nat → Int} {h : MH} {Q : Option MV → MR → MH → Prop} (hsx : ∀ n, i32 (sx n)) (hL : Ls ≤ 2560) (hi : i + 5 ≤ Ls) (li : LI h) (hK : ∀ h2, LI h2 → G mL_law (11, 600000, 7302250, Ls, sx) 1427 [(0, vS true), (1, vR 0), (2, vR 633), (3, vI (i : Int))] [] (663, 83939, 663) h2 Q) : G mL_law (11, 600000, 7302250, Ls, sx) 338 [(0, vS true), (1, vR 0), (2, vR 633), (3, vI (i : Int))] [] (663, 83939, 663) h Q := by
  obtain ⟨σ, p, ct, s, c, td, rs, rt⟩ := li
  have h10 : Hd (663, 83939, 663) h 0 (eO 10 [vR 1, vR 2, vR 74]) := c.1
  refine g_aload_n (pc := 338) (r := .inl (some 0)) dL_law_338 rfl ?_
  refine g_aload_n (pc := 339) (r := .inr true) dL_law_339 rfl ?_
  refine g_iload_n (pc := 340) (x := (i : Int)) dL_law_340 rfl ?_
  refine g_iconst (pc := 341) dL_law_341 ?_
  refine g_iadd (pc := 342) dL_law_342 ?_
  refine g_sald (pc := 343) dL_law_343 (by omega) (show (i : Int) + 1 < (Ls : Int) by omega) (show (Ls : Nat) ≤ 2147483647 by omega) ?_
  refine g_aload_n (pc := 344) (r := .inr true) dL_law_344 rfl ?_
  refine g_iload_n (pc := 345) (x := (i : Int)) dL_law_345 rfl ?_
  refine g_iconst (pc := 346) dL_law_346 ?_
  refine g_iadd (pc := 347) dL_law_347 ?_
  refine g_sald (pc := 348) dL_law_348 (by omega) (show (i : Int) + 2 < (Ls : Int) by omega) (show (Ls : Nat) ≤ 2147483647 by omega) ?_
  refine g_aload_n (pc := 349) (r := .inr true) dL_law_349 rfl ?_
  refine g_iload_n (pc := 350) (x := (i : Int)) dL_law_350 rfl ?_
  refine g_iconst (pc := 351) dL_law_351 ?_
  refine g_iadd (pc := 352) dL_law_352 ?_
  refine g_sald (pc := 353) dL_law_353 (by omega) (show (i : Int) + 3 < (Ls : Int) by omega) (show (Ls : Nat) ≤ 2147483647 by omega) ?_
  refine g_callV0 (pc := 354) (as := [vI (sx ((i : Int) + 1).toNat), vI (sx ((i : Int) + 2).toNat), vI (sx ((i : Int) + 3).toNat)]) (b := 0) (st := []) lvL_33 dL_law_354 h10 (Nat.le_of_ble_eq_true rfl) (Nat.le_of_ble_eq_true rfl) (Nat.le_of_ble_eq_true rfl) (Nat.le_of_ble_eq_true rfl) (k_plate (hsx _) (hsx _) (hsx _)  c) ?_
  rintro r8 h2 ⟨rfl, c2⟩
  have rs2 := LI.ref rs c2
  obtain ⟨th2, wd2, pm2, fm2, mu2, um2, hx2⟩ := id rs2.1
  have h11 : Hd (663, 83939, 663) h2 633 (mdl 633 th2 wd2 pm2 fm2 mu2 um2 (p : Int) (ct : Int)) := hx2
  refine g_aload_n (pc := 357) (r := .inl (some 633)) dL_law_357 rfl ?_
  refine g_aload_n (pc := 358) (r := .inr true) dL_law_358 rfl ?_
  refine g_iload_n (pc := 359) (x := (i : Int)) dL_law_359 rfl ?_
  refine g_iconst (pc := 360) dL_law_360 ?_
  refine g_iadd (pc := 361) dL_law_361 ?_
  refine g_sald (pc := 362) dL_law_362 (by omega) (show (i : Int) + 1 < (Ls : Int) by omega) (show (Ls : Nat) ≤ 2147483647 by omega) ?_
  refine g_aload_n (pc := 363) (r := .inr true) dL_law_363 rfl ?_
  refine g_iload_n (pc := 364) (x := (i : Int)) dL_law_364 rfl ?_
  refine g_iconst (pc := 365) dL_law_365 ?_
  refine g_iadd (pc := 366) dL_law_366 ?_
  refine g_sald (pc := 367) dL_law_367 (by omega) (show (i : Int) + 2 < (Ls : Int) by omega) (show (Ls : Nat) ≤ 2147483647 by omega) ?_
  refine g_aload_n (pc := 368) (r := .inr true) dL_law_368 rfl ?_
  refine g_iload_n (pc := 369) (x := (i : Int)) dL_law_369 rfl ?_
  refine g_iconst (pc := 370) dL_law_370 ?_
  refine g_iadd (pc := 371) dL_law_371 ?_
  refine g_sald (pc := 372) dL_law_372 (by omega) (show (i : Int) + 3 < (Ls : Int) by omega) (show (Ls : Nat) ≤ 2147483647 by omega) ?_
  refine g_callV0 (pc := 373) (as := [vI (sx ((i : Int) + 1).toNat), vI (sx ((i : Int) + 2).toNat), vI (sx ((i : Int) + 3).toNat)]) (b := 633) (st := [vI _]) lvL_36 dL_law_373 h11 (Nat.le_of_ble_eq_true rfl) (Nat.le_of_ble_eq_true rfl) (Nat.le_of_ble_eq_true rfl) (Nat.le_of_ble_eq_true rfl) (r_plate (hsx _) (hsx _) (hsx _)  rs2) ?_
  rintro r9 h3 ⟨rfl, r3⟩
  refine g_icmp_eqS (pc := 376) (tgt := 1427) dL_law_376 (by decide) ?_
  exact hK _ (LI.mills td rt c2 r3)

theorem law_5 {Ls i : Nat} {sx : Nat → Int} {h : MH} {Q : Option MV → MR → MH → Prop} (hsx : ∀ n, i32 (sx n)) (hL : Ls ≤ 2560) (hi : i + 5 ≤ Ls) (li : LI h) (hK : ∀ h2, LI h2 → G mL_law (11, 600000, 7302250, Ls, sx) 1427 [(0, vS true), (1, vR 0), (2, vR 633), (3, vI (i : Int))] [] (663, 83939, 663) h2 Q) : G mL_law (11, 600000, 7302250, Ls, sx) 381 [(0, vS true), (1, vR 0), (2, vR 633), (3, vI (i : Int))] [] (663, 83939, 663) h Q := by
  obtain ⟨σ, p, ct, s, c, td, rs, rt⟩ := li
  have h10 : Hd (663, 83939, 663) h 0 (eO 10 [vR 1, vR 2, vR 74]) := c.1
  refine g_aload_n (pc := 381) (r := .inl (some 0)) dL_law_381 rfl ?_
  refine g_aload_n (pc := 382) (r := .inr true) dL_law_382 rfl ?_
  refine g_iload_n (pc := 383) (x := (i : Int)) dL_law_383 rfl ?_
  refine g_iconst (pc := 384) dL_law_384 ?_
  refine g_iadd (pc := 385) dL_law_385 ?_
  refine g_sald (pc := 386) dL_law_386 (by omega) (show (i : Int) + 1 < (Ls : Int) by omega) (show (Ls : Nat) ≤ 2147483647 by omega) ?_
  refine g_aload_n (pc := 387) (r := .inr true) dL_law_387 rfl ?_
  refine g_iload_n (pc := 388) (x := (i : Int)) dL_law_388 rfl ?_
  refine g_iconst (pc := 389) dL_law_389 ?_
  refine g_iadd (pc := 390) dL_law_390 ?_
  refine g_sald (pc := 391) dL_law_391 (by omega) (show (i : Int) + 2 < (Ls : Int) by omega) (show (Ls : Nat) ≤ 2147483647 by omega) ?_
  refine g_callV0 (pc := 392) (as := [vI (sx ((i : Int) + 1).toNat), vI (sx ((i : Int) + 2).toNat)]) (b := 0) (st := []) lvL_37 dL_law_392 h10 (Nat.le_of_ble_eq_true rfl) (Nat.le_of_ble_eq_true rfl) (Nat.le_of_ble_eq_true rfl) (Nat.le_of_ble_eq_true rfl) (k_look (hsx _) (hsx _)  c) ?_
  rintro r8 h2 ⟨rfl, c2⟩
  have rs2 := LI.ref rs c2
  obtain ⟨th2, wd2, pm2, fm2, mu2, um2, hx2⟩ := id rs2.1
  have h11 : Hd (663, 83939, 663) h2 633 (mdl 633 th2 wd2 pm2 fm2 mu2 um2 (p : Int) (ct : Int)) := hx2
  refine g_aload_n (pc := 395) (r := .inl (some 633)) dL_law_395 rfl ?_
  refine g_aload_n (pc := 396) (r := .inr true) dL_law_396 rfl ?_
  refine g_iload_n (pc := 397) (x := (i : Int)) dL_law_397 rfl ?_
  refine g_iconst (pc := 398) dL_law_398 ?_
  refine g_iadd (pc := 399) dL_law_399 ?_
  refine g_sald (pc := 400) dL_law_400 (by omega) (show (i : Int) + 1 < (Ls : Int) by omega) (show (Ls : Nat) ≤ 2147483647 by omega) ?_
  refine g_aload_n (pc := 401) (r := .inr true) dL_law_401 rfl ?_
  refine g_iload_n (pc := 402) (x := (i : Int)) dL_law_402 rfl ?_
  refine g_iconst (pc := 403) dL_law_403 ?_
  refine g_iadd (pc := 404) dL_law_404 ?_
  refine g_sald (pc := 405) dL_law_405 (by omega) (show (i : Int) + 2 < (Ls : Int) by omega) (show (Ls : Nat) ≤ 2147483647 by omega) ?_
  refine g_callV0 (pc := 406) (as := [vI (sx ((i : Int) + 1).toNat), vI (sx ((i : Int) + 2).toNat)]) (b := 633) (st := [vI _]) lvL_41 dL_law_406 h11 (Nat.le_of_ble_eq_true rfl) (Nat.le_of_ble_eq_true rfl) (Nat.le_of_ble_eq_true rfl) (Nat.le_of_ble_eq_true rfl) (r_look (hsx _) (hsx _)  rs2) ?_
  rintro r9 h3 ⟨rfl, r3⟩
  refine g_icmp_eqS (pc := 409) (tgt := 1427) dL_law_409 (by decide) ?_
  exact hK _ (LI.mills td rt c2 r3)

theorem law_6 {Ls i : Nat} {sx : Nat → Int} {h : MH} {Q : Option MV → MR → MH → Prop} (hsx : ∀ n, i32 (sx n)) (hL : Ls ≤ 2560) (hi : i + 5 ≤ Ls) (li : LI h) (hK : ∀ h2, LI h2 → G mL_law (11, 600000, 7302250, Ls, sx) 1427 [(0, vS true), (1, vR 0), (2, vR 633), (3, vI (i : Int))] [] (663, 83939, 663) h2 Q) : G mL_law (11, 600000, 7302250, Ls, sx) 414 [(0, vS true), (1, vR 0), (2, vR 633), (3, vI (i : Int))] [] (663, 83939, 663) h Q := by
  obtain ⟨σ, p, ct, s, c, td, rs, rt⟩ := li
  have h10 : Hd (663, 83939, 663) h 0 (eO 10 [vR 1, vR 2, vR 74]) := c.1
  refine g_aload_n (pc := 414) (r := .inl (some 0)) dL_law_414 rfl ?_
  refine g_aload_n (pc := 415) (r := .inr true) dL_law_415 rfl ?_
  refine g_iload_n (pc := 416) (x := (i : Int)) dL_law_416 rfl ?_
  refine g_iconst (pc := 417) dL_law_417 ?_
  refine g_iadd (pc := 418) dL_law_418 ?_
  refine g_sald (pc := 419) dL_law_419 (by omega) (show (i : Int) + 1 < (Ls : Int) by omega) (show (Ls : Nat) ≤ 2147483647 by omega) ?_
  refine g_aload_n (pc := 420) (r := .inr true) dL_law_420 rfl ?_
  refine g_iload_n (pc := 421) (x := (i : Int)) dL_law_421 rfl ?_
  refine g_iconst (pc := 422) dL_law_422 ?_
  refine g_iadd (pc := 423) dL_law_423 ?_
  refine g_sald (pc := 424) dL_law_424 (by omega) (show (i : Int) + 2 < (Ls : Int) by omega) (show (Ls : Nat) ≤ 2147483647 by omega) ?_
  refine g_callV0 (pc := 425) (as := [vI (sx ((i : Int) + 1).toNat), vI (sx ((i : Int) + 2).toNat)]) (b := 0) (st := []) lvL_42 dL_law_425 h10 (Nat.le_of_ble_eq_true rfl) (Nat.le_of_ble_eq_true rfl) (Nat.le_of_ble_eq_true rfl) (Nat.le_of_ble_eq_true rfl) (k_rest (hsx _) (hsx _)  c) ?_
  rintro r8 h2 ⟨rfl, c2⟩
  have rs2 := LI.ref rs c2
  obtain ⟨th2, wd2, pm2, fm2, mu2, um2, hx2⟩ := id rs2.1
  have h11 : Hd (663, 83939, 663) h2 633 (mdl 633 th2 wd2 pm2 fm2 mu2 um2 (p : Int) (ct : Int)) := hx2
  refine g_aload_n (pc := 428) (r := .inl (some 633)) dL_law_428 rfl ?_
  refine g_aload_n (pc := 429) (r := .inr true) dL_law_429 rfl ?_
  refine g_iload_n (pc := 430) (x := (i : Int)) dL_law_430 rfl ?_
  refine g_iconst (pc := 431) dL_law_431 ?_
  refine g_iadd (pc := 432) dL_law_432 ?_
  refine g_sald (pc := 433) dL_law_433 (by omega) (show (i : Int) + 1 < (Ls : Int) by omega) (show (Ls : Nat) ≤ 2147483647 by omega) ?_
  refine g_aload_n (pc := 434) (r := .inr true) dL_law_434 rfl ?_
  refine g_iload_n (pc := 435) (x := (i : Int)) dL_law_435 rfl ?_
  refine g_iconst (pc := 436) dL_law_436 ?_
  refine g_iadd (pc := 437) dL_law_437 ?_
  refine g_sald (pc := 438) dL_law_438 (by omega) (show (i : Int) + 2 < (Ls : Int) by omega) (show (Ls : Nat) ≤ 2147483647 by omega) ?_
  refine g_callV0 (pc := 439) (as := [vI (sx ((i : Int) + 1).toNat), vI (sx ((i : Int) + 2).toNat)]) (b := 633) (st := [vI _]) lvL_45 dL_law_439 h11 (Nat.le_of_ble_eq_true rfl) (Nat.le_of_ble_eq_true rfl) (Nat.le_of_ble_eq_true rfl) (Nat.le_of_ble_eq_true rfl) (r_rest (hsx _) (hsx _)  rs2) ?_
  rintro r9 h3 ⟨rfl, r3⟩
  refine g_icmp_eqS (pc := 442) (tgt := 1427) dL_law_442 (by decide) ?_
  exact hK _ (LI.mills td rt c2 r3)

theorem law_7 {Ls i : Nat} {sx : Nat → Int} {h : MH} {Q : Option MV → MR → MH → Prop} (hsx : ∀ n, i32 (sx n)) (hL : Ls ≤ 2560) (hi : i + 5 ≤ Ls) (li : LI h) (hK : ∀ h2, LI h2 → G mL_law (11, 600000, 7302250, Ls, sx) 1427 [(0, vS true), (1, vR 0), (2, vR 633), (3, vI (i : Int))] [] (663, 83939, 663) h2 Q) : G mL_law (11, 600000, 7302250, Ls, sx) 447 [(0, vS true), (1, vR 0), (2, vR 633), (3, vI (i : Int))] [] (663, 83939, 663) h Q := by
  obtain ⟨σ, p, ct, s, c, td, rs, rt⟩ := li
  have h10 : Hd (663, 83939, 663) h 0 (eO 10 [vR 1, vR 2, vR 74]) := c.1
  refine g_aload_n (pc := 447) (r := .inl (some 0)) dL_law_447 rfl ?_
  refine g_aload_n (pc := 448) (r := .inr true) dL_law_448 rfl ?_
  refine g_iload_n (pc := 449) (x := (i : Int)) dL_law_449 rfl ?_
  refine g_iconst (pc := 450) dL_law_450 ?_
  refine g_iadd (pc := 451) dL_law_451 ?_
  refine g_sald (pc := 452) dL_law_452 (by omega) (show (i : Int) + 1 < (Ls : Int) by omega) (show (Ls : Nat) ≤ 2147483647 by omega) ?_
  refine g_aload_n (pc := 453) (r := .inr true) dL_law_453 rfl ?_
  refine g_iload_n (pc := 454) (x := (i : Int)) dL_law_454 rfl ?_
  refine g_iconst (pc := 455) dL_law_455 ?_
  refine g_iadd (pc := 456) dL_law_456 ?_
  refine g_sald (pc := 457) dL_law_457 (by omega) (show (i : Int) + 2 < (Ls : Int) by omega) (show (Ls : Nat) ≤ 2147483647 by omega) ?_
  refine g_aload_n (pc := 458) (r := .inr true) dL_law_458 rfl ?_
  refine g_iload_n (pc := 459) (x := (i : Int)) dL_law_459 rfl ?_
  refine g_iconst (pc := 460) dL_law_460 ?_
  refine g_iadd (pc := 461) dL_law_461 ?_
  refine g_sald (pc := 462) dL_law_462 (by omega) (show (i : Int) + 3 < (Ls : Int) by omega) (show (Ls : Nat) ≤ 2147483647 by omega) ?_
  refine g_callV0 (pc := 463) (as := [vI (sx ((i : Int) + 1).toNat), vI (sx ((i : Int) + 2).toNat), vI (sx ((i : Int) + 3).toNat)]) (b := 0) (st := []) lvL_46 dL_law_463 h10 (Nat.le_of_ble_eq_true rfl) (Nat.le_of_ble_eq_true rfl) (Nat.le_of_ble_eq_true rfl) (Nat.le_of_ble_eq_true rfl) (k_cell (hsx _) (hsx _) (hsx _)  c) ?_
  rintro r8 h2 ⟨rfl, c2⟩
  have rs2 := LI.ref rs c2
  obtain ⟨th2, wd2, pm2, fm2, mu2, um2, hx2⟩ := id rs2.1
  have h11 : Hd (663, 83939, 663) h2 633 (mdl 633 th2 wd2 pm2 fm2 mu2 um2 (p : Int) (ct : Int)) := hx2
  refine g_aload_n (pc := 466) (r := .inl (some 633)) dL_law_466 rfl ?_
  refine g_aload_n (pc := 467) (r := .inr true) dL_law_467 rfl ?_
  refine g_iload_n (pc := 468) (x := (i : Int)) dL_law_468 rfl ?_
  refine g_iconst (pc := 469) dL_law_469 ?_
  refine g_iadd (pc := 470) dL_law_470 ?_
  refine g_sald (pc := 471) dL_law_471 (by omega) (show (i : Int) + 1 < (Ls : Int) by omega) (show (Ls : Nat) ≤ 2147483647 by omega) ?_
  refine g_aload_n (pc := 472) (r := .inr true) dL_law_472 rfl ?_
  refine g_iload_n (pc := 473) (x := (i : Int)) dL_law_473 rfl ?_
  refine g_iconst (pc := 474) dL_law_474 ?_
  refine g_iadd (pc := 475) dL_law_475 ?_
  refine g_sald (pc := 476) dL_law_476 (by omega) (show (i : Int) + 2 < (Ls : Int) by omega) (show (Ls : Nat) ≤ 2147483647 by omega) ?_
  refine g_aload_n (pc := 477) (r := .inr true) dL_law_477 rfl ?_
  refine g_iload_n (pc := 478) (x := (i : Int)) dL_law_478 rfl ?_
  refine g_iconst (pc := 479) dL_law_479 ?_
  refine g_iadd (pc := 480) dL_law_480 ?_
  refine g_sald (pc := 481) dL_law_481 (by omega) (show (i : Int) + 3 < (Ls : Int) by omega) (show (Ls : Nat) ≤ 2147483647 by omega) ?_
  refine g_callV0 (pc := 482) (as := [vI (sx ((i : Int) + 1).toNat), vI (sx ((i : Int) + 2).toNat), vI (sx ((i : Int) + 3).toNat)]) (b := 633) (st := [vI _]) lvL_49 dL_law_482 h11 (Nat.le_of_ble_eq_true rfl) (Nat.le_of_ble_eq_true rfl) (Nat.le_of_ble_eq_true rfl) (Nat.le_of_ble_eq_true rfl) (r_cell (hsx _) (hsx _) (hsx _)  rs2) ?_
  rintro r9 h3 ⟨rfl, r3⟩
  refine g_icmp_eqS (pc := 485) (tgt := 1427) dL_law_485 (by decide) ?_
  exact hK _ (LI.mills td rt c2 r3)

theorem law_8 {Ls i : Nat} {sx : Nat → Int} {h : MH} {Q : Option MV → MR → MH → Prop} (hsx : ∀ n, i32 (sx n)) (hL : Ls ≤ 2560) (hi : i + 5 ≤ Ls) (li : LI h) (hK : ∀ h2, LI h2 → G mL_law (11, 600000, 7302250, Ls, sx) 1427 [(0, vS true), (1, vR 0), (2, vR 633), (3, vI (i : Int))] [] (663, 83939, 663) h2 Q) : G mL_law (11, 600000, 7302250, Ls, sx) 490 [(0, vS true), (1, vR 0), (2, vR 633), (3, vI (i : Int))] [] (663, 83939, 663) h Q := by
  obtain ⟨σ, p, ct, s, c, td, rs, rt⟩ := li
  have h10 : Hd (663, 83939, 663) h 0 (eO 10 [vR 1, vR 2, vR 74]) := c.1
  refine g_aload_n (pc := 490) (r := .inl (some 0)) dL_law_490 rfl ?_
  refine g_aload_n (pc := 491) (r := .inr true) dL_law_491 rfl ?_
  refine g_iload_n (pc := 492) (x := (i : Int)) dL_law_492 rfl ?_
  refine g_iconst (pc := 493) dL_law_493 ?_
  refine g_iadd (pc := 494) dL_law_494 ?_
  refine g_sald (pc := 495) dL_law_495 (by omega) (show (i : Int) + 1 < (Ls : Int) by omega) (show (Ls : Nat) ≤ 2147483647 by omega) ?_
  refine g_aload_n (pc := 496) (r := .inr true) dL_law_496 rfl ?_
  refine g_iload_n (pc := 497) (x := (i : Int)) dL_law_497 rfl ?_
  refine g_iconst (pc := 498) dL_law_498 ?_
  refine g_iadd (pc := 499) dL_law_499 ?_
  refine g_sald (pc := 500) dL_law_500 (by omega) (show (i : Int) + 2 < (Ls : Int) by omega) (show (Ls : Nat) ≤ 2147483647 by omega) ?_
  refine g_callV0 (pc := 501) (as := [vI (sx ((i : Int) + 1).toNat), vI (sx ((i : Int) + 2).toNat)]) (b := 0) (st := []) lvL_50 dL_law_501 h10 (Nat.le_of_ble_eq_true rfl) (Nat.le_of_ble_eq_true rfl) (Nat.le_of_ble_eq_true rfl) (Nat.le_of_ble_eq_true rfl) (k_turn (hsx _) (hsx _)  c) ?_
  rintro r8 h2 ⟨rfl, c2⟩
  have rs2 := LI.ref rs c2
  obtain ⟨th2, wd2, pm2, fm2, mu2, um2, hx2⟩ := id rs2.1
  have h11 : Hd (663, 83939, 663) h2 633 (mdl 633 th2 wd2 pm2 fm2 mu2 um2 (p : Int) (ct : Int)) := hx2
  refine g_aload_n (pc := 504) (r := .inl (some 633)) dL_law_504 rfl ?_
  refine g_aload_n (pc := 505) (r := .inr true) dL_law_505 rfl ?_
  refine g_iload_n (pc := 506) (x := (i : Int)) dL_law_506 rfl ?_
  refine g_iconst (pc := 507) dL_law_507 ?_
  refine g_iadd (pc := 508) dL_law_508 ?_
  refine g_sald (pc := 509) dL_law_509 (by omega) (show (i : Int) + 1 < (Ls : Int) by omega) (show (Ls : Nat) ≤ 2147483647 by omega) ?_
  refine g_aload_n (pc := 510) (r := .inr true) dL_law_510 rfl ?_
  refine g_iload_n (pc := 511) (x := (i : Int)) dL_law_511 rfl ?_
  refine g_iconst (pc := 512) dL_law_512 ?_
  refine g_iadd (pc := 513) dL_law_513 ?_
  refine g_sald (pc := 514) dL_law_514 (by omega) (show (i : Int) + 2 < (Ls : Int) by omega) (show (Ls : Nat) ≤ 2147483647 by omega) ?_
  refine g_callV0 (pc := 515) (as := [vI (sx ((i : Int) + 1).toNat), vI (sx ((i : Int) + 2).toNat)]) (b := 633) (st := [vI _]) lvL_54 dL_law_515 h11 (Nat.le_of_ble_eq_true rfl) (Nat.le_of_ble_eq_true rfl) (Nat.le_of_ble_eq_true rfl) (Nat.le_of_ble_eq_true rfl) (r_turn (hsx _) (hsx _)  rs2) ?_
  rintro r9 h3 ⟨rfl, r3⟩
  refine g_icmp_eqS (pc := 518) (tgt := 1427) dL_law_518 (by decide) ?_
  exact hK _ (LI.mills td rt c2 r3)

theorem law_9 {Ls i : Nat} {sx : Nat → Int} {h : MH} {Q : Option MV → MR → MH → Prop} (hsx : ∀ n, i32 (sx n)) (hL : Ls ≤ 2560) (hi : i + 5 ≤ Ls) (li : LI h) (hK : ∀ h2, LI h2 → G mL_law (11, 600000, 7302250, Ls, sx) 1427 [(0, vS true), (1, vR 0), (2, vR 633), (3, vI (i : Int))] [] (663, 83939, 663) h2 Q) : G mL_law (11, 600000, 7302250, Ls, sx) 523 [(0, vS true), (1, vR 0), (2, vR 633), (3, vI (i : Int))] [] (663, 83939, 663) h Q := by
  obtain ⟨σ, p, ct, s, c, td, rs, rt⟩ := li
  have h10 : Hd (663, 83939, 663) h 0 (eO 10 [vR 1, vR 2, vR 74]) := c.1
  refine g_aload_n (pc := 523) (r := .inl (some 0)) dL_law_523 rfl ?_
  refine g_aload_n (pc := 524) (r := .inr true) dL_law_524 rfl ?_
  refine g_iload_n (pc := 525) (x := (i : Int)) dL_law_525 rfl ?_
  refine g_iconst (pc := 526) dL_law_526 ?_
  refine g_iadd (pc := 527) dL_law_527 ?_
  refine g_sald (pc := 528) dL_law_528 (by omega) (show (i : Int) + 1 < (Ls : Int) by omega) (show (Ls : Nat) ≤ 2147483647 by omega) ?_
  refine g_aload_n (pc := 529) (r := .inr true) dL_law_529 rfl ?_
  refine g_iload_n (pc := 530) (x := (i : Int)) dL_law_530 rfl ?_
  refine g_iconst (pc := 531) dL_law_531 ?_
  refine g_iadd (pc := 532) dL_law_532 ?_
  refine g_sald (pc := 533) dL_law_533 (by omega) (show (i : Int) + 2 < (Ls : Int) by omega) (show (Ls : Nat) ≤ 2147483647 by omega) ?_
  refine g_i2l (pc := 534) dL_law_534 (hsx _) ?_
  refine g_bipush (pc := 535) dL_law_535 (by decide +kernel) ?_
  refine g_lshl (pc := 537) dL_law_537 ?_
  refine g_aload_n (pc := 538) (r := .inr true) dL_law_538 rfl ?_
  refine g_iload_n (pc := 539) (x := (i : Int)) dL_law_539 rfl ?_
  refine g_iconst (pc := 540) dL_law_540 ?_
  refine g_iadd (pc := 541) dL_law_541 ?_
  refine g_sald (pc := 542) dL_law_542 (by omega) (show (i : Int) + 3 < (Ls : Int) by omega) (show (Ls : Nat) ≤ 2147483647 by omega) ?_
  refine g_i2l (pc := 543) dL_law_543 (hsx _) ?_
  refine g_ldc2 (pc := 544) (n := 4294967295) dL_law_544 kcL_55 ?_
  refine g_land (pc := 547) dL_law_547 ?_
  refine g_lor (pc := 548) dL_law_548 ?_
  refine g_callV0 (pc := 549) (as := [vI (sx ((i : Int) + 1).toNat), vJ ((Int64.ofInt ((Int64.ofInt (sx ((i : Int) + 2).toNat) <<< ((Int32.ofInt 32).toInt64 &&& 63)).toInt) ||| Int64.ofInt ((Int64.ofInt (sx ((i : Int) + 3).toNat) &&& Int64.ofInt 4294967295).toInt)).toInt)]) (b := 0) (st := []) lvL_57 dL_law_549 h10 (Nat.le_of_ble_eq_true rfl) (Nat.le_of_ble_eq_true rfl) (Nat.le_of_ble_eq_true rfl) (Nat.le_of_ble_eq_true rfl) (k_leap (hsx _) (i64_of _)  c) ?_
  rintro r8 h2 ⟨rfl, c2⟩
  have rs2 := LI.ref rs c2
  obtain ⟨th2, wd2, pm2, fm2, mu2, um2, hx2⟩ := id rs2.1
  have h11 : Hd (663, 83939, 663) h2 633 (mdl 633 th2 wd2 pm2 fm2 mu2 um2 (p : Int) (ct : Int)) := hx2
  refine g_aload_n (pc := 552) (r := .inl (some 633)) dL_law_552 rfl ?_
  refine g_aload_n (pc := 553) (r := .inr true) dL_law_553 rfl ?_
  refine g_iload_n (pc := 554) (x := (i : Int)) dL_law_554 rfl ?_
  refine g_iconst (pc := 555) dL_law_555 ?_
  refine g_iadd (pc := 556) dL_law_556 ?_
  refine g_sald (pc := 557) dL_law_557 (by omega) (show (i : Int) + 1 < (Ls : Int) by omega) (show (Ls : Nat) ≤ 2147483647 by omega) ?_
  refine g_aload_n (pc := 558) (r := .inr true) dL_law_558 rfl ?_
  refine g_iload_n (pc := 559) (x := (i : Int)) dL_law_559 rfl ?_
  refine g_iconst (pc := 560) dL_law_560 ?_
  refine g_iadd (pc := 561) dL_law_561 ?_
  refine g_sald (pc := 562) dL_law_562 (by omega) (show (i : Int) + 2 < (Ls : Int) by omega) (show (Ls : Nat) ≤ 2147483647 by omega) ?_
  refine g_i2l (pc := 563) dL_law_563 (hsx _) ?_
  refine g_bipush (pc := 564) dL_law_564 (by decide +kernel) ?_
  refine g_lshl (pc := 566) dL_law_566 ?_
  refine g_aload_n (pc := 567) (r := .inr true) dL_law_567 rfl ?_
  refine g_iload_n (pc := 568) (x := (i : Int)) dL_law_568 rfl ?_
  refine g_iconst (pc := 569) dL_law_569 ?_
  refine g_iadd (pc := 570) dL_law_570 ?_
  refine g_sald (pc := 571) dL_law_571 (by omega) (show (i : Int) + 3 < (Ls : Int) by omega) (show (Ls : Nat) ≤ 2147483647 by omega) ?_
  refine g_i2l (pc := 572) dL_law_572 (hsx _) ?_
  refine g_ldc2 (pc := 573) (n := 4294967295) dL_law_573 kcL_55 ?_
  refine g_land (pc := 576) dL_law_576 ?_
  refine g_lor (pc := 577) dL_law_577 ?_
  refine g_callV0 (pc := 578) (as := [vI (sx ((i : Int) + 1).toNat), vJ ((Int64.ofInt ((Int64.ofInt (sx ((i : Int) + 2).toNat) <<< ((Int32.ofInt 32).toInt64 &&& 63)).toInt) ||| Int64.ofInt ((Int64.ofInt (sx ((i : Int) + 3).toNat) &&& Int64.ofInt 4294967295).toInt)).toInt)]) (b := 633) (st := [vI _]) lvL_61 dL_law_578 h11 (Nat.le_of_ble_eq_true rfl) (Nat.le_of_ble_eq_true rfl) (Nat.le_of_ble_eq_true rfl) (Nat.le_of_ble_eq_true rfl) (r_leap (hsx _) (i64_of _)  rs2) ?_
  rintro r9 h3 ⟨rfl, r3⟩
  refine g_icmp_eqS (pc := 581) (tgt := 1427) dL_law_581 (by decide) ?_
  exact hK _ (LI.mills td rt c2 r3)

theorem law_10 {Ls i : Nat} {sx : Nat → Int} {h : MH} {Q : Option MV → MR → MH → Prop} (hsx : ∀ n, i32 (sx n)) (hL : Ls ≤ 2560) (hi : i + 5 ≤ Ls) (li : LI h) (hK : ∀ h2, LI h2 → G mL_law (11, 600000, 7302250, Ls, sx) 1427 [(0, vS true), (1, vR 0), (2, vR 633), (3, vI (i : Int))] [] (663, 83939, 663) h2 Q) : G mL_law (11, 600000, 7302250, Ls, sx) 586 [(0, vS true), (1, vR 0), (2, vR 633), (3, vI (i : Int))] [] (663, 83939, 663) h Q := by
  obtain ⟨σ, p, ct, s, c, td, rs, rt⟩ := li
  have h10 : Hd (663, 83939, 663) h 0 (eO 10 [vR 1, vR 2, vR 74]) := c.1
  obtain ⟨W, hW⟩ := wW c (sx ((i : Int) + 1).toNat)
  refine g_aload_n (pc := 586) (r := .inl (some 0)) dL_law_586 rfl ?_
  refine g_aload_n (pc := 587) (r := .inr true) dL_law_587 rfl ?_
  refine g_iload_n (pc := 588) (x := (i : Int)) dL_law_588 rfl ?_
  refine g_iconst (pc := 589) dL_law_589 ?_
  refine g_iadd (pc := 590) dL_law_590 ?_
  refine g_sald (pc := 591) dL_law_591 (by omega) (show (i : Int) + 1 < (Ls : Int) by omega) (show (Ls : Nat) ≤ 2147483647 by omega) ?_
  refine g_aload_n (pc := 592) (r := .inr true) dL_law_592 rfl ?_
  refine g_iload_n (pc := 593) (x := (i : Int)) dL_law_593 rfl ?_
  refine g_iconst (pc := 594) dL_law_594 ?_
  refine g_iadd (pc := 595) dL_law_595 ?_
  refine g_sald (pc := 596) dL_law_596 (by omega) (show (i : Int) + 2 < (Ls : Int) by omega) (show (Ls : Nat) ≤ 2147483647 by omega) ?_
  refine g_i2l (pc := 597) dL_law_597 (hsx _) ?_
  refine g_bipush (pc := 598) dL_law_598 (by decide +kernel) ?_
  refine g_lshl (pc := 600) dL_law_600 ?_
  refine g_aload_n (pc := 601) (r := .inr true) dL_law_601 rfl ?_
  refine g_iload_n (pc := 602) (x := (i : Int)) dL_law_602 rfl ?_
  refine g_iconst (pc := 603) dL_law_603 ?_
  refine g_iadd (pc := 604) dL_law_604 ?_
  refine g_sald (pc := 605) dL_law_605 (by omega) (show (i : Int) + 3 < (Ls : Int) by omega) (show (Ls : Nat) ≤ 2147483647 by omega) ?_
  refine g_i2l (pc := 606) dL_law_606 (hsx _) ?_
  refine g_ldc2 (pc := 607) (n := 4294967295) dL_law_607 kcL_55 ?_
  refine g_land (pc := 610) dL_law_610 ?_
  refine g_lor (pc := 611) dL_law_611 ?_
  refine g_callV0 (pc := 612) (as := [vI (sx ((i : Int) + 1).toNat), vJ ((Int64.ofInt ((Int64.ofInt (sx ((i : Int) + 2).toNat) <<< ((Int32.ofInt 32).toInt64 &&& 63)).toInt) ||| Int64.ofInt ((Int64.ofInt (sx ((i : Int) + 3).toNat) &&& Int64.ofInt 4294967295).toInt)).toInt)]) (b := 0) (st := []) lvL_62 dL_law_612 h10 (Nat.le_of_ble_eq_true rfl) (Nat.le_of_ble_eq_true rfl) (Nat.le_of_ble_eq_true rfl) (Nat.le_of_ble_eq_true rfl) (k_back (hsx _) (i64_of _) hW c) ?_
  rintro r8 h2 ⟨rfl, c2⟩
  have rs2 := LI.ref rs c2
  obtain ⟨th2, wd2, pm2, fm2, mu2, um2, hx2⟩ := id rs2.1
  have h11 : Hd (663, 83939, 663) h2 633 (mdl 633 th2 wd2 pm2 fm2 mu2 um2 (p : Int) (ct : Int)) := hx2
  refine g_aload_n (pc := 615) (r := .inl (some 633)) dL_law_615 rfl ?_
  refine g_aload_n (pc := 616) (r := .inr true) dL_law_616 rfl ?_
  refine g_iload_n (pc := 617) (x := (i : Int)) dL_law_617 rfl ?_
  refine g_iconst (pc := 618) dL_law_618 ?_
  refine g_iadd (pc := 619) dL_law_619 ?_
  refine g_sald (pc := 620) dL_law_620 (by omega) (show (i : Int) + 1 < (Ls : Int) by omega) (show (Ls : Nat) ≤ 2147483647 by omega) ?_
  refine g_aload_n (pc := 621) (r := .inr true) dL_law_621 rfl ?_
  refine g_iload_n (pc := 622) (x := (i : Int)) dL_law_622 rfl ?_
  refine g_iconst (pc := 623) dL_law_623 ?_
  refine g_iadd (pc := 624) dL_law_624 ?_
  refine g_sald (pc := 625) dL_law_625 (by omega) (show (i : Int) + 2 < (Ls : Int) by omega) (show (Ls : Nat) ≤ 2147483647 by omega) ?_
  refine g_i2l (pc := 626) dL_law_626 (hsx _) ?_
  refine g_bipush (pc := 627) dL_law_627 (by decide +kernel) ?_
  refine g_lshl (pc := 629) dL_law_629 ?_
  refine g_aload_n (pc := 630) (r := .inr true) dL_law_630 rfl ?_
  refine g_iload_n (pc := 631) (x := (i : Int)) dL_law_631 rfl ?_
  refine g_iconst (pc := 632) dL_law_632 ?_
  refine g_iadd (pc := 633) dL_law_633 ?_
  refine g_sald (pc := 634) dL_law_634 (by omega) (show (i : Int) + 3 < (Ls : Int) by omega) (show (Ls : Nat) ≤ 2147483647 by omega) ?_
  refine g_i2l (pc := 635) dL_law_635 (hsx _) ?_
  refine g_ldc2 (pc := 636) (n := 4294967295) dL_law_636 kcL_55 ?_
  refine g_land (pc := 639) dL_law_639 ?_
  refine g_lor (pc := 640) dL_law_640 ?_
  refine g_callV0 (pc := 641) (as := [vI (sx ((i : Int) + 1).toNat), vJ ((Int64.ofInt ((Int64.ofInt (sx ((i : Int) + 2).toNat) <<< ((Int32.ofInt 32).toInt64 &&& 63)).toInt) ||| Int64.ofInt ((Int64.ofInt (sx ((i : Int) + 3).toNat) &&& Int64.ofInt 4294967295).toInt)).toInt)]) (b := 633) (st := [vI _]) lvL_65 dL_law_641 h11 (Nat.le_of_ble_eq_true rfl) (Nat.le_of_ble_eq_true rfl) (Nat.le_of_ble_eq_true rfl) (Nat.le_of_ble_eq_true rfl) (r_back (hsx _) (i64_of _) hW rs2) ?_
  rintro r9 h3 ⟨rfl, r3⟩
  refine g_icmp_eqS (pc := 644) (tgt := 1427) dL_law_644 (by decide) ?_
  exact hK _ (LI.mills td rt c2 r3)

theorem law_11 {Ls i : Nat} {sx : Nat → Int} {h : MH} {Q : Option MV → MR → MH → Prop} (hsx : ∀ n, i32 (sx n)) (hL : Ls ≤ 2560) (hi : i + 5 ≤ Ls) (li : LI h) (hK : ∀ h2, LI h2 → G mL_law (11, 600000, 7302250, Ls, sx) 1427 [(0, vS true), (1, vR 0), (2, vR 633), (3, vI (i : Int))] [] (663, 83939, 663) h2 Q) : G mL_law (11, 600000, 7302250, Ls, sx) 649 [(0, vS true), (1, vR 0), (2, vR 633), (3, vI (i : Int))] [] (663, 83939, 663) h Q := by
  obtain ⟨σ, p, ct, s, c, td, rs, rt⟩ := li
  have h10 : Hd (663, 83939, 663) h 0 (eO 10 [vR 1, vR 2, vR 74]) := c.1
  obtain ⟨Pd, τ, hP⟩ := wP c (sx ((i : Int) + 1).toNat)
  refine g_aload_n (pc := 649) (r := .inl (some 0)) dL_law_649 rfl ?_
  refine g_aload_n (pc := 650) (r := .inr true) dL_law_650 rfl ?_
  refine g_iload_n (pc := 651) (x := (i : Int)) dL_law_651 rfl ?_
  refine g_iconst (pc := 652) dL_law_652 ?_
  refine g_iadd (pc := 653) dL_law_653 ?_
  refine g_sald (pc := 654) dL_law_654 (by omega) (show (i : Int) + 1 < (Ls : Int) by omega) (show (Ls : Nat) ≤ 2147483647 by omega) ?_
  refine g_callV0 (pc := 655) (as := [vI (sx ((i : Int) + 1).toNat)]) (b := 0) (st := []) lvL_66 dL_law_655 h10 (Nat.le_of_ble_eq_true rfl) (Nat.le_of_ble_eq_true rfl) (Nat.le_of_ble_eq_true rfl) (Nat.le_of_ble_eq_true rfl) (k_tail (hsx _) (fun kd M n T Y P e => (hP kd M n T Y P e).1) c) ?_
  rintro r8 h2 ⟨rfl, c2⟩
  have rs2 := LI.ref rs c2
  obtain ⟨th2, wd2, pm2, fm2, mu2, um2, hx2⟩ := id rs2.1
  have h11 : Hd (663, 83939, 663) h2 633 (mdl 633 th2 wd2 pm2 fm2 mu2 um2 (p : Int) (ct : Int)) := hx2
  refine g_aload_n (pc := 658) (r := .inl (some 633)) dL_law_658 rfl ?_
  refine g_aload_n (pc := 659) (r := .inr true) dL_law_659 rfl ?_
  refine g_iload_n (pc := 660) (x := (i : Int)) dL_law_660 rfl ?_
  refine g_iconst (pc := 661) dL_law_661 ?_
  refine g_iadd (pc := 662) dL_law_662 ?_
  refine g_sald (pc := 663) dL_law_663 (by omega) (show (i : Int) + 1 < (Ls : Int) by omega) (show (Ls : Nat) ≤ 2147483647 by omega) ?_
  refine g_callV0 (pc := 664) (as := [vI (sx ((i : Int) + 1).toNat)]) (b := 633) (st := [vI _]) lvL_70 dL_law_664 h11 (Nat.le_of_ble_eq_true rfl) (Nat.le_of_ble_eq_true rfl) (Nat.le_of_ble_eq_true rfl) (Nat.le_of_ble_eq_true rfl) (r_tail (hsx _) hP rs2) ?_
  rintro r9 h3 ⟨rfl, r3⟩
  refine g_icmp_eqS (pc := 667) (tgt := 1427) dL_law_667 (by decide) ?_
  exact hK _ (LI.mills td rt c2 r3)

theorem law_12 {Ls i : Nat} {sx : Nat → Int} {h : MH} {Q : Option MV → MR → MH → Prop} (hsx : ∀ n, i32 (sx n)) (hL : Ls ≤ 2560) (hi : i + 5 ≤ Ls) (li : LI h) (hK : ∀ h2, LI h2 → G mL_law (11, 600000, 7302250, Ls, sx) 1427 [(0, vS true), (1, vR 0), (2, vR 633), (3, vI (i : Int))] [] (663, 83939, 663) h2 Q) : G mL_law (11, 600000, 7302250, Ls, sx) 672 [(0, vS true), (1, vR 0), (2, vR 633), (3, vI (i : Int))] [] (663, 83939, 663) h Q := by
  obtain ⟨σ, p, ct, s, c, td, rs, rt⟩ := li
  have h10 : Hd (663, 83939, 663) h 0 (eO 10 [vR 1, vR 2, vR 74]) := c.1
  obtain ⟨Pd, τ, hP⟩ := wP c (sx ((i : Int) + 1).toNat)
  refine g_aload_n (pc := 672) (r := .inl (some 0)) dL_law_672 rfl ?_
  refine g_aload_n (pc := 673) (r := .inr true) dL_law_673 rfl ?_
  refine g_iload_n (pc := 674) (x := (i : Int)) dL_law_674 rfl ?_
  refine g_iconst (pc := 675) dL_law_675 ?_
  refine g_iadd (pc := 676) dL_law_676 ?_
  refine g_sald (pc := 677) dL_law_677 (by omega) (show (i : Int) + 1 < (Ls : Int) by omega) (show (Ls : Nat) ≤ 2147483647 by omega) ?_
  refine g_callV0 (pc := 678) (as := [vI (sx ((i : Int) + 1).toNat)]) (b := 0) (st := []) lvL_71 dL_law_678 h10 (Nat.le_of_ble_eq_true rfl) (Nat.le_of_ble_eq_true rfl) (Nat.le_of_ble_eq_true rfl) (Nat.le_of_ble_eq_true rfl) (k_round (hsx _) (fun kd M n T Y P e => (hP kd M n T Y P e).1.1) c) ?_
  rintro r8 h2 ⟨rfl, c2⟩
  have rs2 := LI.ref rs c2
  obtain ⟨th2, wd2, pm2, fm2, mu2, um2, hx2⟩ := id rs2.1
  have h11 : Hd (663, 83939, 663) h2 633 (mdl 633 th2 wd2 pm2 fm2 mu2 um2 (p : Int) (ct : Int)) := hx2
  refine g_aload_n (pc := 681) (r := .inl (some 633)) dL_law_681 rfl ?_
  refine g_aload_n (pc := 682) (r := .inr true) dL_law_682 rfl ?_
  refine g_iload_n (pc := 683) (x := (i : Int)) dL_law_683 rfl ?_
  refine g_iconst (pc := 684) dL_law_684 ?_
  refine g_iadd (pc := 685) dL_law_685 ?_
  refine g_sald (pc := 686) dL_law_686 (by omega) (show (i : Int) + 1 < (Ls : Int) by omega) (show (Ls : Nat) ≤ 2147483647 by omega) ?_
  refine g_callV0 (pc := 687) (as := [vI (sx ((i : Int) + 1).toNat)]) (b := 633) (st := [vJ _]) lvL_75 dL_law_687 h11 (Nat.le_of_ble_eq_true rfl) (Nat.le_of_ble_eq_true rfl) (Nat.le_of_ble_eq_true rfl) (Nat.le_of_ble_eq_true rfl) (r_round (hsx _) (fun kd M n T Y P e => (hP kd M n T Y P e).1.1) rs2) ?_
  rintro r9 h3 ⟨rfl, r3⟩
  refine g_lif_eqS (pc := 690) (tgt := 1427) dL_law_690 dL_law_691 (by decide) ?_
  exact hK _ (LI.mills td rt c2 r3)

theorem law_13 {Ls i : Nat} {sx : Nat → Int} {h : MH} {Q : Option MV → MR → MH → Prop} (hsx : ∀ n, i32 (sx n)) (hL : Ls ≤ 2560) (hi : i + 5 ≤ Ls) (li : LI h) (hK : ∀ h2, LI h2 → G mL_law (11, 600000, 7302250, Ls, sx) 1427 [(0, vS true), (1, vR 0), (2, vR 633), (3, vI (i : Int))] [] (663, 83939, 663) h2 Q) : G mL_law (11, 600000, 7302250, Ls, sx) 696 [(0, vS true), (1, vR 0), (2, vR 633), (3, vI (i : Int))] [] (663, 83939, 663) h Q := by
  obtain ⟨σ, p, ct, s, c, td, rs, rt⟩ := li
  have h10 : Hd (663, 83939, 663) h 0 (eO 10 [vR 1, vR 2, vR 74]) := c.1
  obtain ⟨W, hW⟩ := wW c (sx ((i : Int) + 1).toNat)
  refine g_aload_n (pc := 696) (r := .inl (some 0)) dL_law_696 rfl ?_
  refine g_aload_n (pc := 697) (r := .inr true) dL_law_697 rfl ?_
  refine g_iload_n (pc := 698) (x := (i : Int)) dL_law_698 rfl ?_
  refine g_iconst (pc := 699) dL_law_699 ?_
  refine g_iadd (pc := 700) dL_law_700 ?_
  refine g_sald (pc := 701) dL_law_701 (by omega) (show (i : Int) + 1 < (Ls : Int) by omega) (show (Ls : Nat) ≤ 2147483647 by omega) ?_
  refine g_callV0 (pc := 702) (as := [vI (sx ((i : Int) + 1).toNat)]) (b := 0) (st := []) lvL_76 dL_law_702 h10 (Nat.le_of_ble_eq_true rfl) (Nat.le_of_ble_eq_true rfl) (Nat.le_of_ble_eq_true rfl) (Nat.le_of_ble_eq_true rfl) (k_order (hsx _) hW c) ?_
  rintro r8 h2 ⟨rfl, c2⟩
  have rs2 := LI.ref rs c2
  obtain ⟨th2, wd2, pm2, fm2, mu2, um2, hx2⟩ := id rs2.1
  have h11 : Hd (663, 83939, 663) h2 633 (mdl 633 th2 wd2 pm2 fm2 mu2 um2 (p : Int) (ct : Int)) := hx2
  refine g_aload_n (pc := 705) (r := .inl (some 633)) dL_law_705 rfl ?_
  refine g_aload_n (pc := 706) (r := .inr true) dL_law_706 rfl ?_
  refine g_iload_n (pc := 707) (x := (i : Int)) dL_law_707 rfl ?_
  refine g_iconst (pc := 708) dL_law_708 ?_
  refine g_iadd (pc := 709) dL_law_709 ?_
  refine g_sald (pc := 710) dL_law_710 (by omega) (show (i : Int) + 1 < (Ls : Int) by omega) (show (Ls : Nat) ≤ 2147483647 by omega) ?_
  refine g_callV0 (pc := 711) (as := [vI (sx ((i : Int) + 1).toNat)]) (b := 633) (st := [vJ _]) lvL_79 dL_law_711 h11 (Nat.le_of_ble_eq_true rfl) (Nat.le_of_ble_eq_true rfl) (Nat.le_of_ble_eq_true rfl) (Nat.le_of_ble_eq_true rfl) (r_order (hsx _) hW rs2) ?_
  rintro r9 h3 ⟨rfl, r3⟩
  refine g_lif_eqS (pc := 714) (tgt := 1427) dL_law_714 dL_law_715 (by decide) ?_
  exact hK _ (LI.mills td rt c2 r3)

theorem law_14 {Ls i : Nat} {sx : Nat → Int} {h : MH} {Q : Option MV → MR → MH → Prop} (hsx : ∀ n, i32 (sx n)) (hL : Ls ≤ 2560) (hi : i + 5 ≤ Ls) (li : LI h) (hK : ∀ h2, LI h2 → G mL_law (11, 600000, 7302250, Ls, sx) 1427 [(0, vS true), (1, vR 0), (2, vR 633), (3, vI (i : Int))] [] (663, 83939, 663) h2 Q) : G mL_law (11, 600000, 7302250, Ls, sx) 720 [(0, vS true), (1, vR 0), (2, vR 633), (3, vI (i : Int))] [] (663, 83939, 663) h Q := by
  obtain ⟨σ, p, ct, s, c, td, rs, rt⟩ := li
  have h10 : Hd (663, 83939, 663) h 0 (eO 10 [vR 1, vR 2, vR 74]) := c.1
  refine g_aload_n (pc := 720) (r := .inl (some 0)) dL_law_720 rfl ?_
  refine g_aload_n (pc := 721) (r := .inr true) dL_law_721 rfl ?_
  refine g_iload_n (pc := 722) (x := (i : Int)) dL_law_722 rfl ?_
  refine g_iconst (pc := 723) dL_law_723 ?_
  refine g_iadd (pc := 724) dL_law_724 ?_
  refine g_sald (pc := 725) dL_law_725 (by omega) (show (i : Int) + 1 < (Ls : Int) by omega) (show (Ls : Nat) ≤ 2147483647 by omega) ?_
  refine g_aload_n (pc := 726) (r := .inr true) dL_law_726 rfl ?_
  refine g_iload_n (pc := 727) (x := (i : Int)) dL_law_727 rfl ?_
  refine g_iconst (pc := 728) dL_law_728 ?_
  refine g_iadd (pc := 729) dL_law_729 ?_
  refine g_sald (pc := 730) dL_law_730 (by omega) (show (i : Int) + 2 < (Ls : Int) by omega) (show (Ls : Nat) ≤ 2147483647 by omega) ?_
  refine g_i2l (pc := 731) dL_law_731 (hsx _) ?_
  refine g_bipush (pc := 732) dL_law_732 (by decide +kernel) ?_
  refine g_lshl (pc := 734) dL_law_734 ?_
  refine g_aload_n (pc := 735) (r := .inr true) dL_law_735 rfl ?_
  refine g_iload_n (pc := 736) (x := (i : Int)) dL_law_736 rfl ?_
  refine g_iconst (pc := 737) dL_law_737 ?_
  refine g_iadd (pc := 738) dL_law_738 ?_
  refine g_sald (pc := 739) dL_law_739 (by omega) (show (i : Int) + 3 < (Ls : Int) by omega) (show (Ls : Nat) ≤ 2147483647 by omega) ?_
  refine g_i2l (pc := 740) dL_law_740 (hsx _) ?_
  refine g_ldc2 (pc := 741) (n := 4294967295) dL_law_741 kcL_55 ?_
  refine g_land (pc := 744) dL_law_744 ?_
  refine g_lor (pc := 745) dL_law_745 ?_
  refine g_callV0 (pc := 746) (as := [vI (sx ((i : Int) + 1).toNat), vJ ((Int64.ofInt ((Int64.ofInt (sx ((i : Int) + 2).toNat) <<< ((Int32.ofInt 32).toInt64 &&& 63)).toInt) ||| Int64.ofInt ((Int64.ofInt (sx ((i : Int) + 3).toNat) &&& Int64.ofInt 4294967295).toInt)).toInt)]) (b := 0) (st := []) lvL_80 dL_law_746 h10 (Nat.le_of_ble_eq_true rfl) (Nat.le_of_ble_eq_true rfl) (Nat.le_of_ble_eq_true rfl) (Nat.le_of_ble_eq_true rfl) (k_fixed (hsx _) (i64_of _)  c) ?_
  rintro r8 h2 ⟨rfl, c2⟩
  have rs2 := LI.ref rs c2
  obtain ⟨th2, wd2, pm2, fm2, mu2, um2, hx2⟩ := id rs2.1
  have h11 : Hd (663, 83939, 663) h2 633 (mdl 633 th2 wd2 pm2 fm2 mu2 um2 (p : Int) (ct : Int)) := hx2
  refine g_aload_n (pc := 749) (r := .inl (some 633)) dL_law_749 rfl ?_
  refine g_aload_n (pc := 750) (r := .inr true) dL_law_750 rfl ?_
  refine g_iload_n (pc := 751) (x := (i : Int)) dL_law_751 rfl ?_
  refine g_iconst (pc := 752) dL_law_752 ?_
  refine g_iadd (pc := 753) dL_law_753 ?_
  refine g_sald (pc := 754) dL_law_754 (by omega) (show (i : Int) + 1 < (Ls : Int) by omega) (show (Ls : Nat) ≤ 2147483647 by omega) ?_
  refine g_aload_n (pc := 755) (r := .inr true) dL_law_755 rfl ?_
  refine g_iload_n (pc := 756) (x := (i : Int)) dL_law_756 rfl ?_
  refine g_iconst (pc := 757) dL_law_757 ?_
  refine g_iadd (pc := 758) dL_law_758 ?_
  refine g_sald (pc := 759) dL_law_759 (by omega) (show (i : Int) + 2 < (Ls : Int) by omega) (show (Ls : Nat) ≤ 2147483647 by omega) ?_
  refine g_i2l (pc := 760) dL_law_760 (hsx _) ?_
  refine g_bipush (pc := 761) dL_law_761 (by decide +kernel) ?_
  refine g_lshl (pc := 763) dL_law_763 ?_
  refine g_aload_n (pc := 764) (r := .inr true) dL_law_764 rfl ?_
  refine g_iload_n (pc := 765) (x := (i : Int)) dL_law_765 rfl ?_
  refine g_iconst (pc := 766) dL_law_766 ?_
  refine g_iadd (pc := 767) dL_law_767 ?_
  refine g_sald (pc := 768) dL_law_768 (by omega) (show (i : Int) + 3 < (Ls : Int) by omega) (show (Ls : Nat) ≤ 2147483647 by omega) ?_
  refine g_i2l (pc := 769) dL_law_769 (hsx _) ?_
  refine g_ldc2 (pc := 770) (n := 4294967295) dL_law_770 kcL_55 ?_
  refine g_land (pc := 773) dL_law_773 ?_
  refine g_lor (pc := 774) dL_law_774 ?_
  refine g_callV0 (pc := 775) (as := [vI (sx ((i : Int) + 1).toNat), vJ ((Int64.ofInt ((Int64.ofInt (sx ((i : Int) + 2).toNat) <<< ((Int32.ofInt 32).toInt64 &&& 63)).toInt) ||| Int64.ofInt ((Int64.ofInt (sx ((i : Int) + 3).toNat) &&& Int64.ofInt 4294967295).toInt)).toInt)]) (b := 633) (st := [vJ _]) lvL_84 dL_law_775 h11 (Nat.le_of_ble_eq_true rfl) (Nat.le_of_ble_eq_true rfl) (Nat.le_of_ble_eq_true rfl) (Nat.le_of_ble_eq_true rfl) (r_fixed (hsx _) (i64_of _)  rs2) ?_
  rintro r9 h3 ⟨rfl, r3⟩
  refine g_lif_eqS (pc := 778) (tgt := 1427) dL_law_778 dL_law_779 (by decide) ?_
  exact hK _ (LI.mills td rt c2 r3)

theorem law_15 {Ls i : Nat} {sx : Nat → Int} {h : MH} {Q : Option MV → MR → MH → Prop} (hsx : ∀ n, i32 (sx n)) (hL : Ls ≤ 2560) (hi : i + 5 ≤ Ls) (li : LI h) (hK : ∀ h2, LI h2 → G mL_law (11, 600000, 7302250, Ls, sx) 1427 [(0, vS true), (1, vR 0), (2, vR 633), (3, vI (i : Int))] [] (663, 83939, 663) h2 Q) : G mL_law (11, 600000, 7302250, Ls, sx) 784 [(0, vS true), (1, vR 0), (2, vR 633), (3, vI (i : Int))] [] (663, 83939, 663) h Q := by
  obtain ⟨σ, p, ct, s, c, td, rs, rt⟩ := li
  have h10 : Hd (663, 83939, 663) h 0 (eO 10 [vR 1, vR 2, vR 74]) := c.1
  obtain ⟨Lq, hL1, hL2⟩ := wL c (sx ((i : Int) + 1).toNat)
  refine g_aload_n (pc := 784) (r := .inl (some 0)) dL_law_784 rfl ?_
  refine g_aload_n (pc := 785) (r := .inr true) dL_law_785 rfl ?_
  refine g_iload_n (pc := 786) (x := (i : Int)) dL_law_786 rfl ?_
  refine g_iconst (pc := 787) dL_law_787 ?_
  refine g_iadd (pc := 788) dL_law_788 ?_
  refine g_sald (pc := 789) dL_law_789 (by omega) (show (i : Int) + 1 < (Ls : Int) by omega) (show (Ls : Nat) ≤ 2147483647 by omega) ?_
  refine g_aload_n (pc := 790) (r := .inr true) dL_law_790 rfl ?_
  refine g_iload_n (pc := 791) (x := (i : Int)) dL_law_791 rfl ?_
  refine g_iconst (pc := 792) dL_law_792 ?_
  refine g_iadd (pc := 793) dL_law_793 ?_
  refine g_sald (pc := 794) dL_law_794 (by omega) (show (i : Int) + 2 < (Ls : Int) by omega) (show (Ls : Nat) ≤ 2147483647 by omega) ?_
  refine g_i2l (pc := 795) dL_law_795 (hsx _) ?_
  refine g_bipush (pc := 796) dL_law_796 (by decide +kernel) ?_
  refine g_lshl (pc := 798) dL_law_798 ?_
  refine g_aload_n (pc := 799) (r := .inr true) dL_law_799 rfl ?_
  refine g_iload_n (pc := 800) (x := (i : Int)) dL_law_800 rfl ?_
  refine g_iconst (pc := 801) dL_law_801 ?_
  refine g_iadd (pc := 802) dL_law_802 ?_
  refine g_sald (pc := 803) dL_law_803 (by omega) (show (i : Int) + 3 < (Ls : Int) by omega) (show (Ls : Nat) ≤ 2147483647 by omega) ?_
  refine g_i2l (pc := 804) dL_law_804 (hsx _) ?_
  refine g_ldc2 (pc := 805) (n := 4294967295) dL_law_805 kcL_55 ?_
  refine g_land (pc := 808) dL_law_808 ?_
  refine g_lor (pc := 809) dL_law_809 ?_
  refine g_callV0 (pc := 810) (as := [vI (sx ((i : Int) + 1).toNat), vJ ((Int64.ofInt ((Int64.ofInt (sx ((i : Int) + 2).toNat) <<< ((Int32.ofInt 32).toInt64 &&& 63)).toInt) ||| Int64.ofInt ((Int64.ofInt (sx ((i : Int) + 3).toNat) &&& Int64.ofInt 4294967295).toInt)).toInt)]) (b := 0) (st := []) lvL_85 dL_law_810 h10 (Nat.le_of_ble_eq_true rfl) (Nat.le_of_ble_eq_true rfl) (Nat.le_of_ble_eq_true rfl) (Nat.le_of_ble_eq_true rfl) (k_rounds (hsx _) (i64_of _) hL1 c) ?_
  rintro r8 h2 ⟨rfl, c2⟩
  have rs2 := LI.ref rs c2
  obtain ⟨th2, wd2, pm2, fm2, mu2, um2, hx2⟩ := id rs2.1
  have h11 : Hd (663, 83939, 663) h2 633 (mdl 633 th2 wd2 pm2 fm2 mu2 um2 (p : Int) (ct : Int)) := hx2
  refine g_aload_n (pc := 813) (r := .inl (some 633)) dL_law_813 rfl ?_
  refine g_aload_n (pc := 814) (r := .inr true) dL_law_814 rfl ?_
  refine g_iload_n (pc := 815) (x := (i : Int)) dL_law_815 rfl ?_
  refine g_iconst (pc := 816) dL_law_816 ?_
  refine g_iadd (pc := 817) dL_law_817 ?_
  refine g_sald (pc := 818) dL_law_818 (by omega) (show (i : Int) + 1 < (Ls : Int) by omega) (show (Ls : Nat) ≤ 2147483647 by omega) ?_
  refine g_aload_n (pc := 819) (r := .inr true) dL_law_819 rfl ?_
  refine g_iload_n (pc := 820) (x := (i : Int)) dL_law_820 rfl ?_
  refine g_iconst (pc := 821) dL_law_821 ?_
  refine g_iadd (pc := 822) dL_law_822 ?_
  refine g_sald (pc := 823) dL_law_823 (by omega) (show (i : Int) + 2 < (Ls : Int) by omega) (show (Ls : Nat) ≤ 2147483647 by omega) ?_
  refine g_i2l (pc := 824) dL_law_824 (hsx _) ?_
  refine g_bipush (pc := 825) dL_law_825 (by decide +kernel) ?_
  refine g_lshl (pc := 827) dL_law_827 ?_
  refine g_aload_n (pc := 828) (r := .inr true) dL_law_828 rfl ?_
  refine g_iload_n (pc := 829) (x := (i : Int)) dL_law_829 rfl ?_
  refine g_iconst (pc := 830) dL_law_830 ?_
  refine g_iadd (pc := 831) dL_law_831 ?_
  refine g_sald (pc := 832) dL_law_832 (by omega) (show (i : Int) + 3 < (Ls : Int) by omega) (show (Ls : Nat) ≤ 2147483647 by omega) ?_
  refine g_i2l (pc := 833) dL_law_833 (hsx _) ?_
  refine g_ldc2 (pc := 834) (n := 4294967295) dL_law_834 kcL_55 ?_
  refine g_land (pc := 837) dL_law_837 ?_
  refine g_lor (pc := 838) dL_law_838 ?_
  refine g_callV0 (pc := 839) (as := [vI (sx ((i : Int) + 1).toNat), vJ ((Int64.ofInt ((Int64.ofInt (sx ((i : Int) + 2).toNat) <<< ((Int32.ofInt 32).toInt64 &&& 63)).toInt) ||| Int64.ofInt ((Int64.ofInt (sx ((i : Int) + 3).toNat) &&& Int64.ofInt 4294967295).toInt)).toInt)]) (b := 633) (st := [vJ _]) lvL_88 dL_law_839 h11 (Nat.le_of_ble_eq_true rfl) (Nat.le_of_ble_eq_true rfl) (Nat.le_of_ble_eq_true rfl) (Nat.le_of_ble_eq_true rfl) (r_rounds (hsx _) (i64_of _) hL2 rs2) ?_
  rintro r9 h3 ⟨rfl, r3⟩
  refine g_lif_eqS (pc := 842) (tgt := 1427) dL_law_842 dL_law_843 (by decide) ?_
  exact hK _ (LI.mills td rt c2 r3)

theorem law_16 {Ls i : Nat} {sx : Nat → Int} {h : MH} {Q : Option MV → MR → MH → Prop} (hsx : ∀ n, i32 (sx n)) (hL : Ls ≤ 2560) (hi : i + 5 ≤ Ls) (li : LI h) (hK : ∀ h2, LI h2 → G mL_law (11, 600000, 7302250, Ls, sx) 1427 [(0, vS true), (1, vR 0), (2, vR 633), (3, vI (i : Int))] [] (663, 83939, 663) h2 Q) : G mL_law (11, 600000, 7302250, Ls, sx) 848 [(0, vS true), (1, vR 0), (2, vR 633), (3, vI (i : Int))] [] (663, 83939, 663) h Q := by
  obtain ⟨σ, p, ct, s, c, td, rs, rt⟩ := li
  have h10 : Hd (663, 83939, 663) h 0 (eO 10 [vR 1, vR 2, vR 74]) := c.1
  refine g_aload_n (pc := 848) (r := .inl (some 0)) dL_law_848 rfl ?_
  refine g_aload_n (pc := 849) (r := .inr true) dL_law_849 rfl ?_
  refine g_iload_n (pc := 850) (x := (i : Int)) dL_law_850 rfl ?_
  refine g_iconst (pc := 851) dL_law_851 ?_
  refine g_iadd (pc := 852) dL_law_852 ?_
  refine g_sald (pc := 853) dL_law_853 (by omega) (show (i : Int) + 1 < (Ls : Int) by omega) (show (Ls : Nat) ≤ 2147483647 by omega) ?_
  refine g_aload_n (pc := 854) (r := .inr true) dL_law_854 rfl ?_
  refine g_iload_n (pc := 855) (x := (i : Int)) dL_law_855 rfl ?_
  refine g_iconst (pc := 856) dL_law_856 ?_
  refine g_iadd (pc := 857) dL_law_857 ?_
  refine g_sald (pc := 858) dL_law_858 (by omega) (show (i : Int) + 2 < (Ls : Int) by omega) (show (Ls : Nat) ≤ 2147483647 by omega) ?_
  refine g_aload_n (pc := 859) (r := .inr true) dL_law_859 rfl ?_
  refine g_iload_n (pc := 860) (x := (i : Int)) dL_law_860 rfl ?_
  refine g_iconst (pc := 861) dL_law_861 ?_
  refine g_iadd (pc := 862) dL_law_862 ?_
  refine g_sald (pc := 863) dL_law_863 (by omega) (show (i : Int) + 3 < (Ls : Int) by omega) (show (Ls : Nat) ≤ 2147483647 by omega) ?_
  refine g_callV0 (pc := 864) (as := [vI (sx ((i : Int) + 1).toNat), vI (sx ((i : Int) + 2).toNat), vI (sx ((i : Int) + 3).toNat)]) (b := 0) (st := []) lvL_89 dL_law_864 h10 (Nat.le_of_ble_eq_true rfl) (Nat.le_of_ble_eq_true rfl) (Nat.le_of_ble_eq_true rfl) (Nat.le_of_ble_eq_true rfl) (k_part (hsx _) (hsx _) (hsx _)  c) ?_
  rintro r8 h2 ⟨rfl, c2⟩
  have rs2 := LI.ref rs c2
  obtain ⟨th2, wd2, pm2, fm2, mu2, um2, hx2⟩ := id rs2.1
  have h11 : Hd (663, 83939, 663) h2 633 (mdl 633 th2 wd2 pm2 fm2 mu2 um2 (p : Int) (ct : Int)) := hx2
  refine g_aload_n (pc := 867) (r := .inl (some 633)) dL_law_867 rfl ?_
  refine g_aload_n (pc := 868) (r := .inr true) dL_law_868 rfl ?_
  refine g_iload_n (pc := 869) (x := (i : Int)) dL_law_869 rfl ?_
  refine g_iconst (pc := 870) dL_law_870 ?_
  refine g_iadd (pc := 871) dL_law_871 ?_
  refine g_sald (pc := 872) dL_law_872 (by omega) (show (i : Int) + 1 < (Ls : Int) by omega) (show (Ls : Nat) ≤ 2147483647 by omega) ?_
  refine g_aload_n (pc := 873) (r := .inr true) dL_law_873 rfl ?_
  refine g_iload_n (pc := 874) (x := (i : Int)) dL_law_874 rfl ?_
  refine g_iconst (pc := 875) dL_law_875 ?_
  refine g_iadd (pc := 876) dL_law_876 ?_
  refine g_sald (pc := 877) dL_law_877 (by omega) (show (i : Int) + 2 < (Ls : Int) by omega) (show (Ls : Nat) ≤ 2147483647 by omega) ?_
  refine g_aload_n (pc := 878) (r := .inr true) dL_law_878 rfl ?_
  refine g_iload_n (pc := 879) (x := (i : Int)) dL_law_879 rfl ?_
  refine g_iconst (pc := 880) dL_law_880 ?_
  refine g_iadd (pc := 881) dL_law_881 ?_
  refine g_sald (pc := 882) dL_law_882 (by omega) (show (i : Int) + 3 < (Ls : Int) by omega) (show (Ls : Nat) ≤ 2147483647 by omega) ?_
  refine g_callV0 (pc := 883) (as := [vI (sx ((i : Int) + 1).toNat), vI (sx ((i : Int) + 2).toNat), vI (sx ((i : Int) + 3).toNat)]) (b := 633) (st := [vI _]) lvL_92 dL_law_883 h11 (Nat.le_of_ble_eq_true rfl) (Nat.le_of_ble_eq_true rfl) (Nat.le_of_ble_eq_true rfl) (Nat.le_of_ble_eq_true rfl) (r_part (hsx _) (hsx _) (hsx _)  rs2) ?_
  rintro r9 h3 ⟨rfl, r3⟩
  refine g_icmp_eqS (pc := 886) (tgt := 1427) dL_law_886 (by decide) ?_
  exact hK _ (LI.mills td rt c2 r3)

theorem law_17 {Ls i : Nat} {sx : Nat → Int} {h : MH} {Q : Option MV → MR → MH → Prop} (hsx : ∀ n, i32 (sx n)) (hL : Ls ≤ 2560) (hi : i + 5 ≤ Ls) (li : LI h) (hK : ∀ h2, LI h2 → G mL_law (11, 600000, 7302250, Ls, sx) 1427 [(0, vS true), (1, vR 0), (2, vR 633), (3, vI (i : Int))] [] (663, 83939, 663) h2 Q) : G mL_law (11, 600000, 7302250, Ls, sx) 891 [(0, vS true), (1, vR 0), (2, vR 633), (3, vI (i : Int))] [] (663, 83939, 663) h Q := by
  obtain ⟨σ, p, ct, s, c, td, rs, rt⟩ := li
  have h10 : Hd (663, 83939, 663) h 0 (eO 10 [vR 1, vR 2, vR 74]) := c.1
  refine g_aload_n (pc := 891) (r := .inl (some 0)) dL_law_891 rfl ?_
  refine g_aload_n (pc := 892) (r := .inr true) dL_law_892 rfl ?_
  refine g_iload_n (pc := 893) (x := (i : Int)) dL_law_893 rfl ?_
  refine g_iconst (pc := 894) dL_law_894 ?_
  refine g_iadd (pc := 895) dL_law_895 ?_
  refine g_sald (pc := 896) dL_law_896 (by omega) (show (i : Int) + 1 < (Ls : Int) by omega) (show (Ls : Nat) ≤ 2147483647 by omega) ?_
  refine g_aload_n (pc := 897) (r := .inr true) dL_law_897 rfl ?_
  refine g_iload_n (pc := 898) (x := (i : Int)) dL_law_898 rfl ?_
  refine g_iconst (pc := 899) dL_law_899 ?_
  refine g_iadd (pc := 900) dL_law_900 ?_
  refine g_sald (pc := 901) dL_law_901 (by omega) (show (i : Int) + 2 < (Ls : Int) by omega) (show (Ls : Nat) ≤ 2147483647 by omega) ?_
  refine g_aload_n (pc := 902) (r := .inr true) dL_law_902 rfl ?_
  refine g_iload_n (pc := 903) (x := (i : Int)) dL_law_903 rfl ?_
  refine g_iconst (pc := 904) dL_law_904 ?_
  refine g_iadd (pc := 905) dL_law_905 ?_
  refine g_sald (pc := 906) dL_law_906 (by omega) (show (i : Int) + 3 < (Ls : Int) by omega) (show (Ls : Nat) ≤ 2147483647 by omega) ?_
  refine g_callV0 (pc := 907) (as := [vI (sx ((i : Int) + 1).toNat), vI (sx ((i : Int) + 2).toNat), vI (sx ((i : Int) + 3).toNat)]) (b := 0) (st := []) lvL_93 dL_law_907 h10 (Nat.le_of_ble_eq_true rfl) (Nat.le_of_ble_eq_true rfl) (Nat.le_of_ble_eq_true rfl) (Nat.le_of_ble_eq_true rfl) (k_split (hsx _) (hsx _) (hsx _)  c) ?_
  rintro r8 h2 ⟨rfl, c2⟩
  have rs2 := LI.ref rs c2
  obtain ⟨th2, wd2, pm2, fm2, mu2, um2, hx2⟩ := id rs2.1
  have h11 : Hd (663, 83939, 663) h2 633 (mdl 633 th2 wd2 pm2 fm2 mu2 um2 (p : Int) (ct : Int)) := hx2
  refine g_aload_n (pc := 910) (r := .inl (some 633)) dL_law_910 rfl ?_
  refine g_aload_n (pc := 911) (r := .inr true) dL_law_911 rfl ?_
  refine g_iload_n (pc := 912) (x := (i : Int)) dL_law_912 rfl ?_
  refine g_iconst (pc := 913) dL_law_913 ?_
  refine g_iadd (pc := 914) dL_law_914 ?_
  refine g_sald (pc := 915) dL_law_915 (by omega) (show (i : Int) + 1 < (Ls : Int) by omega) (show (Ls : Nat) ≤ 2147483647 by omega) ?_
  refine g_aload_n (pc := 916) (r := .inr true) dL_law_916 rfl ?_
  refine g_iload_n (pc := 917) (x := (i : Int)) dL_law_917 rfl ?_
  refine g_iconst (pc := 918) dL_law_918 ?_
  refine g_iadd (pc := 919) dL_law_919 ?_
  refine g_sald (pc := 920) dL_law_920 (by omega) (show (i : Int) + 2 < (Ls : Int) by omega) (show (Ls : Nat) ≤ 2147483647 by omega) ?_
  refine g_aload_n (pc := 921) (r := .inr true) dL_law_921 rfl ?_
  refine g_iload_n (pc := 922) (x := (i : Int)) dL_law_922 rfl ?_
  refine g_iconst (pc := 923) dL_law_923 ?_
  refine g_iadd (pc := 924) dL_law_924 ?_
  refine g_sald (pc := 925) dL_law_925 (by omega) (show (i : Int) + 3 < (Ls : Int) by omega) (show (Ls : Nat) ≤ 2147483647 by omega) ?_
  refine g_callV0 (pc := 926) (as := [vI (sx ((i : Int) + 1).toNat), vI (sx ((i : Int) + 2).toNat), vI (sx ((i : Int) + 3).toNat)]) (b := 633) (st := [vI _]) lvL_96 dL_law_926 h11 (Nat.le_of_ble_eq_true rfl) (Nat.le_of_ble_eq_true rfl) (Nat.le_of_ble_eq_true rfl) (Nat.le_of_ble_eq_true rfl) (r_split (hsx _) (hsx _) (hsx _)  rs2) ?_
  rintro r9 h3 ⟨rfl, r3⟩
  refine g_icmp_eqS (pc := 929) (tgt := 1427) dL_law_929 (by decide) ?_
  exact hK _ (LI.mills td rt c2 r3)

theorem law_18 {Ls i : Nat} {sx : Nat → Int} {h : MH} {Q : Option MV → MR → MH → Prop} (hsx : ∀ n, i32 (sx n)) (hL : Ls ≤ 2560) (hi : i + 5 ≤ Ls) (li : LI h) (hK : ∀ h2, LI h2 → G mL_law (11, 600000, 7302250, Ls, sx) 1427 [(0, vS true), (1, vR 0), (2, vR 633), (3, vI (i : Int))] [] (663, 83939, 663) h2 Q) : G mL_law (11, 600000, 7302250, Ls, sx) 934 [(0, vS true), (1, vR 0), (2, vR 633), (3, vI (i : Int))] [] (663, 83939, 663) h Q := by
  obtain ⟨σ, p, ct, s, c, td, rs, rt⟩ := li
  have h10 : Hd (663, 83939, 663) h 0 (eO 10 [vR 1, vR 2, vR 74]) := c.1
  refine g_aload_n (pc := 934) (r := .inl (some 0)) dL_law_934 rfl ?_
  refine g_aload_n (pc := 935) (r := .inr true) dL_law_935 rfl ?_
  refine g_iload_n (pc := 936) (x := (i : Int)) dL_law_936 rfl ?_
  refine g_iconst (pc := 937) dL_law_937 ?_
  refine g_iadd (pc := 938) dL_law_938 ?_
  refine g_sald (pc := 939) dL_law_939 (by omega) (show (i : Int) + 1 < (Ls : Int) by omega) (show (Ls : Nat) ≤ 2147483647 by omega) ?_
  refine g_aload_n (pc := 940) (r := .inr true) dL_law_940 rfl ?_
  refine g_iload_n (pc := 941) (x := (i : Int)) dL_law_941 rfl ?_
  refine g_iconst (pc := 942) dL_law_942 ?_
  refine g_iadd (pc := 943) dL_law_943 ?_
  refine g_sald (pc := 944) dL_law_944 (by omega) (show (i : Int) + 2 < (Ls : Int) by omega) (show (Ls : Nat) ≤ 2147483647 by omega) ?_
  refine g_aload_n (pc := 945) (r := .inr true) dL_law_945 rfl ?_
  refine g_iload_n (pc := 946) (x := (i : Int)) dL_law_946 rfl ?_
  refine g_iconst (pc := 947) dL_law_947 ?_
  refine g_iadd (pc := 948) dL_law_948 ?_
  refine g_sald (pc := 949) dL_law_949 (by omega) (show (i : Int) + 3 < (Ls : Int) by omega) (show (Ls : Nat) ≤ 2147483647 by omega) ?_
  refine g_aload_n (pc := 950) (r := .inr true) dL_law_950 rfl ?_
  refine g_iload_n (pc := 951) (x := (i : Int)) dL_law_951 rfl ?_
  refine g_iconst (pc := 952) dL_law_952 ?_
  refine g_iadd (pc := 953) dL_law_953 ?_
  refine g_sald (pc := 954) dL_law_954 (by omega) (show (i : Int) + 4 < (Ls : Int) by omega) (show (Ls : Nat) ≤ 2147483647 by omega) ?_
  refine g_callV0 (pc := 955) (as := [vI (sx ((i : Int) + 1).toNat), vI (sx ((i : Int) + 2).toNat), vI (sx ((i : Int) + 3).toNat), vI (sx ((i : Int) + 4).toNat)]) (b := 0) (st := []) lvL_97 dL_law_955 h10 (Nat.le_of_ble_eq_true rfl) (Nat.le_of_ble_eq_true rfl) (Nat.le_of_ble_eq_true rfl) (Nat.le_of_ble_eq_true rfl) (k_join (hsx _) (hsx _) (hsx _) (hsx _)  c) ?_
  rintro r8 h2 ⟨rfl, X9, hX9, c2⟩
  have rs2 := LI.ref rs c2
  obtain ⟨th2, wd2, pm2, fm2, mu2, um2, hx2⟩ := id rs2.1
  have h11 : Hd (663, 83939, 663) h2 633 (mdl 633 th2 wd2 pm2 fm2 mu2 um2 (p : Int) (ct : Int)) := hx2
  refine g_aload_n (pc := 958) (r := .inl (some 633)) dL_law_958 rfl ?_
  refine g_aload_n (pc := 959) (r := .inr true) dL_law_959 rfl ?_
  refine g_iload_n (pc := 960) (x := (i : Int)) dL_law_960 rfl ?_
  refine g_iconst (pc := 961) dL_law_961 ?_
  refine g_iadd (pc := 962) dL_law_962 ?_
  refine g_sald (pc := 963) dL_law_963 (by omega) (show (i : Int) + 1 < (Ls : Int) by omega) (show (Ls : Nat) ≤ 2147483647 by omega) ?_
  refine g_aload_n (pc := 964) (r := .inr true) dL_law_964 rfl ?_
  refine g_iload_n (pc := 965) (x := (i : Int)) dL_law_965 rfl ?_
  refine g_iconst (pc := 966) dL_law_966 ?_
  refine g_iadd (pc := 967) dL_law_967 ?_
  refine g_sald (pc := 968) dL_law_968 (by omega) (show (i : Int) + 2 < (Ls : Int) by omega) (show (Ls : Nat) ≤ 2147483647 by omega) ?_
  refine g_aload_n (pc := 969) (r := .inr true) dL_law_969 rfl ?_
  refine g_iload_n (pc := 970) (x := (i : Int)) dL_law_970 rfl ?_
  refine g_iconst (pc := 971) dL_law_971 ?_
  refine g_iadd (pc := 972) dL_law_972 ?_
  refine g_sald (pc := 973) dL_law_973 (by omega) (show (i : Int) + 3 < (Ls : Int) by omega) (show (Ls : Nat) ≤ 2147483647 by omega) ?_
  refine g_aload_n (pc := 974) (r := .inr true) dL_law_974 rfl ?_
  refine g_iload_n (pc := 975) (x := (i : Int)) dL_law_975 rfl ?_
  refine g_iconst (pc := 976) dL_law_976 ?_
  refine g_iadd (pc := 977) dL_law_977 ?_
  refine g_sald (pc := 978) dL_law_978 (by omega) (show (i : Int) + 4 < (Ls : Int) by omega) (show (Ls : Nat) ≤ 2147483647 by omega) ?_
  refine g_callV0 (pc := 979) (as := [vI (sx ((i : Int) + 1).toNat), vI (sx ((i : Int) + 2).toNat), vI (sx ((i : Int) + 3).toNat), vI (sx ((i : Int) + 4).toNat)]) (b := 633) (st := [vI _]) lvL_100 dL_law_979 h11 (Nat.le_of_ble_eq_true rfl) (Nat.le_of_ble_eq_true rfl) (Nat.le_of_ble_eq_true rfl) (Nat.le_of_ble_eq_true rfl) (r_join (hsx _) (hsx _) (hsx _) (hsx _) hX9 rs2) ?_
  rintro r9 h3 ⟨rfl, r3⟩
  refine g_icmp_eqS (pc := 982) (tgt := 1427) dL_law_982 (by decide) ?_
  exact hK _ (LI.mills td rt c2 r3)

theorem law_19 {Ls i : Nat} {sx : Nat → Int} {h : MH} {Q : Option MV → MR → MH → Prop} (hsx : ∀ n, i32 (sx n)) (hL : Ls ≤ 2560) (hi : i + 5 ≤ Ls) (li : LI h) (hK : ∀ h2, LI h2 → G mL_law (11, 600000, 7302250, Ls, sx) 1427 [(0, vS true), (1, vR 0), (2, vR 633), (3, vI (i : Int))] [] (663, 83939, 663) h2 Q) : G mL_law (11, 600000, 7302250, Ls, sx) 987 [(0, vS true), (1, vR 0), (2, vR 633), (3, vI (i : Int))] [] (663, 83939, 663) h Q := by
  obtain ⟨σ, p, ct, s, c, td, rs, rt⟩ := li
  have h10 : Hd (663, 83939, 663) h 0 (eO 10 [vR 1, vR 2, vR 74]) := c.1
  refine g_aload_n (pc := 987) (r := .inl (some 0)) dL_law_987 rfl ?_
  refine g_aload_n (pc := 988) (r := .inr true) dL_law_988 rfl ?_
  refine g_iload_n (pc := 989) (x := (i : Int)) dL_law_989 rfl ?_
  refine g_iconst (pc := 990) dL_law_990 ?_
  refine g_iadd (pc := 991) dL_law_991 ?_
  refine g_sald (pc := 992) dL_law_992 (by omega) (show (i : Int) + 1 < (Ls : Int) by omega) (show (Ls : Nat) ≤ 2147483647 by omega) ?_
  refine g_callV0 (pc := 993) (as := [vI (sx ((i : Int) + 1).toNat)]) (b := 0) (st := []) lvL_101 dL_law_993 h10 (Nat.le_of_ble_eq_true rfl) (Nat.le_of_ble_eq_true rfl) (Nat.le_of_ble_eq_true rfl) (Nat.le_of_ble_eq_true rfl) (k_all (hsx _)  c) ?_
  rintro r8 h2 ⟨rfl, c2⟩
  have rs2 := LI.ref rs c2
  obtain ⟨th2, wd2, pm2, fm2, mu2, um2, hx2⟩ := id rs2.1
  have h11 : Hd (663, 83939, 663) h2 633 (mdl 633 th2 wd2 pm2 fm2 mu2 um2 (p : Int) (ct : Int)) := hx2
  refine g_aload_n (pc := 996) (r := .inl (some 633)) dL_law_996 rfl ?_
  refine g_aload_n (pc := 997) (r := .inr true) dL_law_997 rfl ?_
  refine g_iload_n (pc := 998) (x := (i : Int)) dL_law_998 rfl ?_
  refine g_iconst (pc := 999) dL_law_999 ?_
  refine g_iadd (pc := 1000) dL_law_1000 ?_
  refine g_sald (pc := 1001) dL_law_1001 (by omega) (show (i : Int) + 1 < (Ls : Int) by omega) (show (Ls : Nat) ≤ 2147483647 by omega) ?_
  refine g_callV0 (pc := 1002) (as := [vI (sx ((i : Int) + 1).toNat)]) (b := 633) (st := [vI _]) lvL_104 dL_law_1002 h11 (Nat.le_of_ble_eq_true rfl) (Nat.le_of_ble_eq_true rfl) (Nat.le_of_ble_eq_true rfl) (Nat.le_of_ble_eq_true rfl) (r_all (hsx _)  rs2) ?_
  rintro r9 h3 ⟨rfl, r3⟩
  refine g_icmp_eqS (pc := 1005) (tgt := 1427) dL_law_1005 (by decide) ?_
  exact hK _ (LI.mills td rt c2 r3)

theorem law_20 {Ls i : Nat} {sx : Nat → Int} {h : MH} {Q : Option MV → MR → MH → Prop} (hsx : ∀ n, i32 (sx n)) (hL : Ls ≤ 2560) (hi : i + 5 ≤ Ls) (li : LI h) (hK : ∀ h2, LI h2 → G mL_law (11, 600000, 7302250, Ls, sx) 1427 [(0, vS true), (1, vR 0), (2, vR 633), (3, vI (i : Int))] [] (663, 83939, 663) h2 Q) : G mL_law (11, 600000, 7302250, Ls, sx) 1010 [(0, vS true), (1, vR 0), (2, vR 633), (3, vI (i : Int))] [] (663, 83939, 663) h Q := by
  obtain ⟨σ, p, ct, s, c, td, rs, rt⟩ := li
  have h10 : Hd (663, 83939, 663) h 0 (eO 10 [vR 1, vR 2, vR 74]) := c.1
  obtain ⟨Sq, Z, hS⟩ := wS c (sx ((i : Int) + 1).toNat) (sx ((i : Int) + 2).toNat)
  refine g_aload_n (pc := 1010) (r := .inl (some 0)) dL_law_1010 rfl ?_
  refine g_aload_n (pc := 1011) (r := .inr true) dL_law_1011 rfl ?_
  refine g_iload_n (pc := 1012) (x := (i : Int)) dL_law_1012 rfl ?_
  refine g_iconst (pc := 1013) dL_law_1013 ?_
  refine g_iadd (pc := 1014) dL_law_1014 ?_
  refine g_sald (pc := 1015) dL_law_1015 (by omega) (show (i : Int) + 1 < (Ls : Int) by omega) (show (Ls : Nat) ≤ 2147483647 by omega) ?_
  refine g_aload_n (pc := 1016) (r := .inr true) dL_law_1016 rfl ?_
  refine g_iload_n (pc := 1017) (x := (i : Int)) dL_law_1017 rfl ?_
  refine g_iconst (pc := 1018) dL_law_1018 ?_
  refine g_iadd (pc := 1019) dL_law_1019 ?_
  refine g_sald (pc := 1020) dL_law_1020 (by omega) (show (i : Int) + 2 < (Ls : Int) by omega) (show (Ls : Nat) ≤ 2147483647 by omega) ?_
  refine g_callV0 (pc := 1021) (as := [vI (sx ((i : Int) + 1).toNat), vI (sx ((i : Int) + 2).toNat)]) (b := 0) (st := []) lvL_105 dL_law_1021 h10 (Nat.le_of_ble_eq_true rfl) (Nat.le_of_ble_eq_true rfl) (Nat.le_of_ble_eq_true rfl) (Nat.le_of_ble_eq_true rfl) (k_shortest (hsx _) (hsx _) hS c) ?_
  rintro r8 h2 ⟨rfl, c2⟩
  have rs2 := LI.ref rs c2
  obtain ⟨th2, wd2, pm2, fm2, mu2, um2, hx2⟩ := id rs2.1
  have h11 : Hd (663, 83939, 663) h2 633 (mdl 633 th2 wd2 pm2 fm2 mu2 um2 (p : Int) (ct : Int)) := hx2
  refine g_aload_n (pc := 1024) (r := .inl (some 633)) dL_law_1024 rfl ?_
  refine g_aload_n (pc := 1025) (r := .inr true) dL_law_1025 rfl ?_
  refine g_iload_n (pc := 1026) (x := (i : Int)) dL_law_1026 rfl ?_
  refine g_iconst (pc := 1027) dL_law_1027 ?_
  refine g_iadd (pc := 1028) dL_law_1028 ?_
  refine g_sald (pc := 1029) dL_law_1029 (by omega) (show (i : Int) + 1 < (Ls : Int) by omega) (show (Ls : Nat) ≤ 2147483647 by omega) ?_
  refine g_aload_n (pc := 1030) (r := .inr true) dL_law_1030 rfl ?_
  refine g_iload_n (pc := 1031) (x := (i : Int)) dL_law_1031 rfl ?_
  refine g_iconst (pc := 1032) dL_law_1032 ?_
  refine g_iadd (pc := 1033) dL_law_1033 ?_
  refine g_sald (pc := 1034) dL_law_1034 (by omega) (show (i : Int) + 2 < (Ls : Int) by omega) (show (Ls : Nat) ≤ 2147483647 by omega) ?_
  refine g_callV0 (pc := 1035) (as := [vI (sx ((i : Int) + 1).toNat), vI (sx ((i : Int) + 2).toNat)]) (b := 633) (st := [vI _]) lvL_108 dL_law_1035 h11 (Nat.le_of_ble_eq_true rfl) (Nat.le_of_ble_eq_true rfl) (Nat.le_of_ble_eq_true rfl) (Nat.le_of_ble_eq_true rfl) (r_shortest (hsx _) (hsx _) hS rs2) ?_
  rintro r9 h3 ⟨rfl, r3⟩
  refine g_icmp_eqS (pc := 1038) (tgt := 1427) dL_law_1038 (by decide) ?_
  exact hK _ (LI.mills td rt c2 r3)

theorem law_21 {Ls i : Nat} {sx : Nat → Int} {h : MH} {Q : Option MV → MR → MH → Prop} (hsx : ∀ n, i32 (sx n)) (hL : Ls ≤ 2560) (hi : i + 5 ≤ Ls) (li : LI h) (hK : ∀ h2, LI h2 → G mL_law (11, 600000, 7302250, Ls, sx) 1427 [(0, vS true), (1, vR 0), (2, vR 633), (3, vI (i : Int))] [] (663, 83939, 663) h2 Q) : G mL_law (11, 600000, 7302250, Ls, sx) 1043 [(0, vS true), (1, vR 0), (2, vR 633), (3, vI (i : Int))] [] (663, 83939, 663) h Q := by
  obtain ⟨σ, p, ct, s, c, td, rs, rt⟩ := li
  have h10 : Hd (663, 83939, 663) h 0 (eO 10 [vR 1, vR 2, vR 74]) := c.1
  obtain ⟨Sq, Z, hS⟩ := wS c (sx ((i : Int) + 1).toNat) (sx ((i : Int) + 2).toNat)
  refine g_aload_n (pc := 1043) (r := .inl (some 0)) dL_law_1043 rfl ?_
  refine g_aload_n (pc := 1044) (r := .inr true) dL_law_1044 rfl ?_
  refine g_iload_n (pc := 1045) (x := (i : Int)) dL_law_1045 rfl ?_
  refine g_iconst (pc := 1046) dL_law_1046 ?_
  refine g_iadd (pc := 1047) dL_law_1047 ?_
  refine g_sald (pc := 1048) dL_law_1048 (by omega) (show (i : Int) + 1 < (Ls : Int) by omega) (show (Ls : Nat) ≤ 2147483647 by omega) ?_
  refine g_aload_n (pc := 1049) (r := .inr true) dL_law_1049 rfl ?_
  refine g_iload_n (pc := 1050) (x := (i : Int)) dL_law_1050 rfl ?_
  refine g_iconst (pc := 1051) dL_law_1051 ?_
  refine g_iadd (pc := 1052) dL_law_1052 ?_
  refine g_sald (pc := 1053) dL_law_1053 (by omega) (show (i : Int) + 2 < (Ls : Int) by omega) (show (Ls : Nat) ≤ 2147483647 by omega) ?_
  refine g_aload_n (pc := 1054) (r := .inr true) dL_law_1054 rfl ?_
  refine g_iload_n (pc := 1055) (x := (i : Int)) dL_law_1055 rfl ?_
  refine g_iconst (pc := 1056) dL_law_1056 ?_
  refine g_iadd (pc := 1057) dL_law_1057 ?_
  refine g_sald (pc := 1058) dL_law_1058 (by omega) (show (i : Int) + 3 < (Ls : Int) by omega) (show (Ls : Nat) ≤ 2147483647 by omega) ?_
  refine g_callV0 (pc := 1059) (as := [vI (sx ((i : Int) + 1).toNat), vI (sx ((i : Int) + 2).toNat), vI (sx ((i : Int) + 3).toNat)]) (b := 0) (st := []) lvL_109 dL_law_1059 h10 (Nat.le_of_ble_eq_true rfl) (Nat.le_of_ble_eq_true rfl) (Nat.le_of_ble_eq_true rfl) (Nat.le_of_ble_eq_true rfl) (k_line (hsx _) (hsx _) (hsx _) hS c) ?_
  rintro r8 h2 ⟨rfl, c2⟩
  have rs2 := LI.ref rs c2
  obtain ⟨th2, wd2, pm2, fm2, mu2, um2, hx2⟩ := id rs2.1
  have h11 : Hd (663, 83939, 663) h2 633 (mdl 633 th2 wd2 pm2 fm2 mu2 um2 (p : Int) (ct : Int)) := hx2
  refine g_aload_n (pc := 1062) (r := .inl (some 633)) dL_law_1062 rfl ?_
  refine g_aload_n (pc := 1063) (r := .inr true) dL_law_1063 rfl ?_
  refine g_iload_n (pc := 1064) (x := (i : Int)) dL_law_1064 rfl ?_
  refine g_iconst (pc := 1065) dL_law_1065 ?_
  refine g_iadd (pc := 1066) dL_law_1066 ?_
  refine g_sald (pc := 1067) dL_law_1067 (by omega) (show (i : Int) + 1 < (Ls : Int) by omega) (show (Ls : Nat) ≤ 2147483647 by omega) ?_
  refine g_aload_n (pc := 1068) (r := .inr true) dL_law_1068 rfl ?_
  refine g_iload_n (pc := 1069) (x := (i : Int)) dL_law_1069 rfl ?_
  refine g_iconst (pc := 1070) dL_law_1070 ?_
  refine g_iadd (pc := 1071) dL_law_1071 ?_
  refine g_sald (pc := 1072) dL_law_1072 (by omega) (show (i : Int) + 2 < (Ls : Int) by omega) (show (Ls : Nat) ≤ 2147483647 by omega) ?_
  refine g_aload_n (pc := 1073) (r := .inr true) dL_law_1073 rfl ?_
  refine g_iload_n (pc := 1074) (x := (i : Int)) dL_law_1074 rfl ?_
  refine g_iconst (pc := 1075) dL_law_1075 ?_
  refine g_iadd (pc := 1076) dL_law_1076 ?_
  refine g_sald (pc := 1077) dL_law_1077 (by omega) (show (i : Int) + 3 < (Ls : Int) by omega) (show (Ls : Nat) ≤ 2147483647 by omega) ?_
  refine g_callV0 (pc := 1078) (as := [vI (sx ((i : Int) + 1).toNat), vI (sx ((i : Int) + 2).toNat), vI (sx ((i : Int) + 3).toNat)]) (b := 633) (st := [vI _]) lvL_112 dL_law_1078 h11 (Nat.le_of_ble_eq_true rfl) (Nat.le_of_ble_eq_true rfl) (Nat.le_of_ble_eq_true rfl) (Nat.le_of_ble_eq_true rfl) (r_line (hsx _) (hsx _) (hsx _) hS rs2) ?_
  rintro r9 h3 ⟨rfl, r3⟩
  refine g_icmp_eqS (pc := 1081) (tgt := 1427) dL_law_1081 (by decide) ?_
  exact hK _ (LI.mills td rt c2 r3)

theorem law_22 {Ls i : Nat} {sx : Nat → Int} {h : MH} {Q : Option MV → MR → MH → Prop} (hsx : ∀ n, i32 (sx n)) (hL : Ls ≤ 2560) (hi : i + 5 ≤ Ls) (li : LI h) (hK : ∀ h2, LI h2 → G mL_law (11, 600000, 7302250, Ls, sx) 1427 [(0, vS true), (1, vR 0), (2, vR 633), (3, vI (i : Int))] [] (663, 83939, 663) h2 Q) : G mL_law (11, 600000, 7302250, Ls, sx) 1086 [(0, vS true), (1, vR 0), (2, vR 633), (3, vI (i : Int))] [] (663, 83939, 663) h Q := by
  obtain ⟨σ, p, ct, s, c, td, rs, rt⟩ := li
  have h10 : Hd (663, 83939, 663) h 0 (eO 10 [vR 1, vR 2, vR 74]) := c.1
  refine g_aload_n (pc := 1086) (r := .inl (some 0)) dL_law_1086 rfl ?_
  refine g_aload_n (pc := 1087) (r := .inr true) dL_law_1087 rfl ?_
  refine g_iload_n (pc := 1088) (x := (i : Int)) dL_law_1088 rfl ?_
  refine g_iconst (pc := 1089) dL_law_1089 ?_
  refine g_iadd (pc := 1090) dL_law_1090 ?_
  refine g_sald (pc := 1091) dL_law_1091 (by omega) (show (i : Int) + 1 < (Ls : Int) by omega) (show (Ls : Nat) ≤ 2147483647 by omega) ?_
  refine g_aload_n (pc := 1092) (r := .inr true) dL_law_1092 rfl ?_
  refine g_iload_n (pc := 1093) (x := (i : Int)) dL_law_1093 rfl ?_
  refine g_iconst (pc := 1094) dL_law_1094 ?_
  refine g_iadd (pc := 1095) dL_law_1095 ?_
  refine g_sald (pc := 1096) dL_law_1096 (by omega) (show (i : Int) + 2 < (Ls : Int) by omega) (show (Ls : Nat) ≤ 2147483647 by omega) ?_
  refine g_aload_n (pc := 1097) (r := .inr true) dL_law_1097 rfl ?_
  refine g_iload_n (pc := 1098) (x := (i : Int)) dL_law_1098 rfl ?_
  refine g_iconst (pc := 1099) dL_law_1099 ?_
  refine g_iadd (pc := 1100) dL_law_1100 ?_
  refine g_sald (pc := 1101) dL_law_1101 (by omega) (show (i : Int) + 3 < (Ls : Int) by omega) (show (Ls : Nat) ≤ 2147483647 by omega) ?_
  refine g_aload_n (pc := 1102) (r := .inr true) dL_law_1102 rfl ?_
  refine g_iload_n (pc := 1103) (x := (i : Int)) dL_law_1103 rfl ?_
  refine g_iconst (pc := 1104) dL_law_1104 ?_
  refine g_iadd (pc := 1105) dL_law_1105 ?_
  refine g_sald (pc := 1106) dL_law_1106 (by omega) (show (i : Int) + 4 < (Ls : Int) by omega) (show (Ls : Nat) ≤ 2147483647 by omega) ?_
  refine g_callV0 (pc := 1107) (as := [vI (sx ((i : Int) + 1).toNat), vI (sx ((i : Int) + 2).toNat), vI (sx ((i : Int) + 3).toNat), vI (sx ((i : Int) + 4).toNat)]) (b := 0) (st := []) lvL_113 dL_law_1107 h10 (Nat.le_of_ble_eq_true rfl) (Nat.le_of_ble_eq_true rfl) (Nat.le_of_ble_eq_true rfl) (Nat.le_of_ble_eq_true rfl) (k_paint (hsx _) (hsx _) (hsx _) (hsx _)  c) ?_
  rintro r8 h2 ⟨rfl, c2⟩
  have rs2 := LI.ref rs c2
  obtain ⟨th2, wd2, pm2, fm2, mu2, um2, hx2⟩ := id rs2.1
  have h11 : Hd (663, 83939, 663) h2 633 (mdl 633 th2 wd2 pm2 fm2 mu2 um2 (p : Int) (ct : Int)) := hx2
  refine g_aload_n (pc := 1110) (r := .inl (some 633)) dL_law_1110 rfl ?_
  refine g_aload_n (pc := 1111) (r := .inr true) dL_law_1111 rfl ?_
  refine g_iload_n (pc := 1112) (x := (i : Int)) dL_law_1112 rfl ?_
  refine g_iconst (pc := 1113) dL_law_1113 ?_
  refine g_iadd (pc := 1114) dL_law_1114 ?_
  refine g_sald (pc := 1115) dL_law_1115 (by omega) (show (i : Int) + 1 < (Ls : Int) by omega) (show (Ls : Nat) ≤ 2147483647 by omega) ?_
  refine g_aload_n (pc := 1116) (r := .inr true) dL_law_1116 rfl ?_
  refine g_iload_n (pc := 1117) (x := (i : Int)) dL_law_1117 rfl ?_
  refine g_iconst (pc := 1118) dL_law_1118 ?_
  refine g_iadd (pc := 1119) dL_law_1119 ?_
  refine g_sald (pc := 1120) dL_law_1120 (by omega) (show (i : Int) + 2 < (Ls : Int) by omega) (show (Ls : Nat) ≤ 2147483647 by omega) ?_
  refine g_aload_n (pc := 1121) (r := .inr true) dL_law_1121 rfl ?_
  refine g_iload_n (pc := 1122) (x := (i : Int)) dL_law_1122 rfl ?_
  refine g_iconst (pc := 1123) dL_law_1123 ?_
  refine g_iadd (pc := 1124) dL_law_1124 ?_
  refine g_sald (pc := 1125) dL_law_1125 (by omega) (show (i : Int) + 3 < (Ls : Int) by omega) (show (Ls : Nat) ≤ 2147483647 by omega) ?_
  refine g_aload_n (pc := 1126) (r := .inr true) dL_law_1126 rfl ?_
  refine g_iload_n (pc := 1127) (x := (i : Int)) dL_law_1127 rfl ?_
  refine g_iconst (pc := 1128) dL_law_1128 ?_
  refine g_iadd (pc := 1129) dL_law_1129 ?_
  refine g_sald (pc := 1130) dL_law_1130 (by omega) (show (i : Int) + 4 < (Ls : Int) by omega) (show (Ls : Nat) ≤ 2147483647 by omega) ?_
  refine g_callV0 (pc := 1131) (as := [vI (sx ((i : Int) + 1).toNat), vI (sx ((i : Int) + 2).toNat), vI (sx ((i : Int) + 3).toNat), vI (sx ((i : Int) + 4).toNat)]) (b := 633) (st := [vI _]) lvL_116 dL_law_1131 h11 (Nat.le_of_ble_eq_true rfl) (Nat.le_of_ble_eq_true rfl) (Nat.le_of_ble_eq_true rfl) (Nat.le_of_ble_eq_true rfl) (r_paint (hsx _) (hsx _) (hsx _) (hsx _)  rs2) ?_
  rintro r9 h3 ⟨rfl, r3⟩
  refine g_icmp_eqS (pc := 1134) (tgt := 1427) dL_law_1134 (by decide) ?_
  exact hK _ (LI.mills td rt c2 r3)

theorem law_23 {Ls i : Nat} {sx : Nat → Int} {h : MH} {Q : Option MV → MR → MH → Prop} (hsx : ∀ n, i32 (sx n)) (hL : Ls ≤ 2560) (hi : i + 5 ≤ Ls) (li : LI h) (hK : ∀ h2, LI h2 → G mL_law (11, 600000, 7302250, Ls, sx) 1427 [(0, vS true), (1, vR 0), (2, vR 633), (3, vI (i : Int))] [] (663, 83939, 663) h2 Q) : G mL_law (11, 600000, 7302250, Ls, sx) 1139 [(0, vS true), (1, vR 0), (2, vR 633), (3, vI (i : Int))] [] (663, 83939, 663) h Q := by
  obtain ⟨σ, p, ct, s, c, td, rs, rt⟩ := li
  have h10 : Hd (663, 83939, 663) h 0 (eO 10 [vR 1, vR 2, vR 74]) := c.1
  refine g_aload_n (pc := 1139) (r := .inl (some 0)) dL_law_1139 rfl ?_
  refine g_aload_n (pc := 1140) (r := .inr true) dL_law_1140 rfl ?_
  refine g_iload_n (pc := 1141) (x := (i : Int)) dL_law_1141 rfl ?_
  refine g_iconst (pc := 1142) dL_law_1142 ?_
  refine g_iadd (pc := 1143) dL_law_1143 ?_
  refine g_sald (pc := 1144) dL_law_1144 (by omega) (show (i : Int) + 1 < (Ls : Int) by omega) (show (Ls : Nat) ≤ 2147483647 by omega) ?_
  refine g_aload_n (pc := 1145) (r := .inr true) dL_law_1145 rfl ?_
  refine g_iload_n (pc := 1146) (x := (i : Int)) dL_law_1146 rfl ?_
  refine g_iconst (pc := 1147) dL_law_1147 ?_
  refine g_iadd (pc := 1148) dL_law_1148 ?_
  refine g_sald (pc := 1149) dL_law_1149 (by omega) (show (i : Int) + 2 < (Ls : Int) by omega) (show (Ls : Nat) ≤ 2147483647 by omega) ?_
  refine g_aload_n (pc := 1150) (r := .inr true) dL_law_1150 rfl ?_
  refine g_iload_n (pc := 1151) (x := (i : Int)) dL_law_1151 rfl ?_
  refine g_iconst (pc := 1152) dL_law_1152 ?_
  refine g_iadd (pc := 1153) dL_law_1153 ?_
  refine g_sald (pc := 1154) dL_law_1154 (by omega) (show (i : Int) + 3 < (Ls : Int) by omega) (show (Ls : Nat) ≤ 2147483647 by omega) ?_
  refine g_callV0 (pc := 1155) (as := [vI (sx ((i : Int) + 1).toNat), vI (sx ((i : Int) + 2).toNat), vI (sx ((i : Int) + 3).toNat)]) (b := 0) (st := []) lvL_117 dL_law_1155 h10 (Nat.le_of_ble_eq_true rfl) (Nat.le_of_ble_eq_true rfl) (Nat.le_of_ble_eq_true rfl) (Nat.le_of_ble_eq_true rfl) (k_picture (hsx _) (hsx _) (hsx _)  c) ?_
  rintro r8 h2 ⟨rfl, c2⟩
  have rs2 := LI.ref rs c2
  obtain ⟨th2, wd2, pm2, fm2, mu2, um2, hx2⟩ := id rs2.1
  have h11 : Hd (663, 83939, 663) h2 633 (mdl 633 th2 wd2 pm2 fm2 mu2 um2 (p : Int) (ct : Int)) := hx2
  refine g_aload_n (pc := 1158) (r := .inl (some 633)) dL_law_1158 rfl ?_
  refine g_aload_n (pc := 1159) (r := .inr true) dL_law_1159 rfl ?_
  refine g_iload_n (pc := 1160) (x := (i : Int)) dL_law_1160 rfl ?_
  refine g_iconst (pc := 1161) dL_law_1161 ?_
  refine g_iadd (pc := 1162) dL_law_1162 ?_
  refine g_sald (pc := 1163) dL_law_1163 (by omega) (show (i : Int) + 1 < (Ls : Int) by omega) (show (Ls : Nat) ≤ 2147483647 by omega) ?_
  refine g_aload_n (pc := 1164) (r := .inr true) dL_law_1164 rfl ?_
  refine g_iload_n (pc := 1165) (x := (i : Int)) dL_law_1165 rfl ?_
  refine g_iconst (pc := 1166) dL_law_1166 ?_
  refine g_iadd (pc := 1167) dL_law_1167 ?_
  refine g_sald (pc := 1168) dL_law_1168 (by omega) (show (i : Int) + 2 < (Ls : Int) by omega) (show (Ls : Nat) ≤ 2147483647 by omega) ?_
  refine g_aload_n (pc := 1169) (r := .inr true) dL_law_1169 rfl ?_
  refine g_iload_n (pc := 1170) (x := (i : Int)) dL_law_1170 rfl ?_
  refine g_iconst (pc := 1171) dL_law_1171 ?_
  refine g_iadd (pc := 1172) dL_law_1172 ?_
  refine g_sald (pc := 1173) dL_law_1173 (by omega) (show (i : Int) + 3 < (Ls : Int) by omega) (show (Ls : Nat) ≤ 2147483647 by omega) ?_
  refine g_callV0 (pc := 1174) (as := [vI (sx ((i : Int) + 1).toNat), vI (sx ((i : Int) + 2).toNat), vI (sx ((i : Int) + 3).toNat)]) (b := 633) (st := [vI _]) lvL_120 dL_law_1174 h11 (Nat.le_of_ble_eq_true rfl) (Nat.le_of_ble_eq_true rfl) (Nat.le_of_ble_eq_true rfl) (Nat.le_of_ble_eq_true rfl) (r_picture (hsx _) (hsx _) (hsx _)  rs2) ?_
  rintro r9 h3 ⟨rfl, r3⟩
  refine g_icmp_eqS (pc := 1177) (tgt := 1427) dL_law_1177 (by decide) ?_
  exact hK _ (LI.mills td rt c2 r3)

theorem law_24 {Ls i : Nat} {sx : Nat → Int} {h : MH} {Q : Option MV → MR → MH → Prop} (hsx : ∀ n, i32 (sx n)) (hL : Ls ≤ 2560) (hi : i + 5 ≤ Ls) (li : LI h) (hK : ∀ h2, LI h2 → G mL_law (11, 600000, 7302250, Ls, sx) 1427 [(0, vS true), (1, vR 0), (2, vR 633), (3, vI (i : Int))] [] (663, 83939, 663) h2 Q) : G mL_law (11, 600000, 7302250, Ls, sx) 1182 [(0, vS true), (1, vR 0), (2, vR 633), (3, vI (i : Int))] [] (663, 83939, 663) h Q := by
  obtain ⟨σ, p, ct, s, c, td, rs, rt⟩ := li
  have h10 : Hd (663, 83939, 663) h 0 (eO 10 [vR 1, vR 2, vR 74]) := c.1
  obtain ⟨W, hW⟩ := wW c (sx ((i : Int) + 1).toNat)
  refine g_aload_n (pc := 1182) (r := .inl (some 0)) dL_law_1182 rfl ?_
  refine g_aload_n (pc := 1183) (r := .inr true) dL_law_1183 rfl ?_
  refine g_iload_n (pc := 1184) (x := (i : Int)) dL_law_1184 rfl ?_
  refine g_iconst (pc := 1185) dL_law_1185 ?_
  refine g_iadd (pc := 1186) dL_law_1186 ?_
  refine g_sald (pc := 1187) dL_law_1187 (by omega) (show (i : Int) + 1 < (Ls : Int) by omega) (show (Ls : Nat) ≤ 2147483647 by omega) ?_
  refine g_aload_n (pc := 1188) (r := .inr true) dL_law_1188 rfl ?_
  refine g_iload_n (pc := 1189) (x := (i : Int)) dL_law_1189 rfl ?_
  refine g_iconst (pc := 1190) dL_law_1190 ?_
  refine g_iadd (pc := 1191) dL_law_1191 ?_
  refine g_sald (pc := 1192) dL_law_1192 (by omega) (show (i : Int) + 2 < (Ls : Int) by omega) (show (Ls : Nat) ≤ 2147483647 by omega) ?_
  refine g_i2l (pc := 1193) dL_law_1193 (hsx _) ?_
  refine g_bipush (pc := 1194) dL_law_1194 (by decide +kernel) ?_
  refine g_lshl (pc := 1196) dL_law_1196 ?_
  refine g_aload_n (pc := 1197) (r := .inr true) dL_law_1197 rfl ?_
  refine g_iload_n (pc := 1198) (x := (i : Int)) dL_law_1198 rfl ?_
  refine g_iconst (pc := 1199) dL_law_1199 ?_
  refine g_iadd (pc := 1200) dL_law_1200 ?_
  refine g_sald (pc := 1201) dL_law_1201 (by omega) (show (i : Int) + 3 < (Ls : Int) by omega) (show (Ls : Nat) ≤ 2147483647 by omega) ?_
  refine g_i2l (pc := 1202) dL_law_1202 (hsx _) ?_
  refine g_ldc2 (pc := 1203) (n := 4294967295) dL_law_1203 kcL_55 ?_
  refine g_land (pc := 1206) dL_law_1206 ?_
  refine g_lor (pc := 1207) dL_law_1207 ?_
  refine g_callV0 (pc := 1208) (as := [vI (sx ((i : Int) + 1).toNat), vJ ((Int64.ofInt ((Int64.ofInt (sx ((i : Int) + 2).toNat) <<< ((Int32.ofInt 32).toInt64 &&& 63)).toInt) ||| Int64.ofInt ((Int64.ofInt (sx ((i : Int) + 3).toNat) &&& Int64.ofInt 4294967295).toInt)).toInt)]) (b := 0) (st := []) lvL_121 dL_law_1208 h10 (Nat.le_of_ble_eq_true rfl) (Nat.le_of_ble_eq_true rfl) (Nat.le_of_ble_eq_true rfl) (Nat.le_of_ble_eq_true rfl) (k_move (hsx _) (i64_of _) (fun M n T Y P e => hW 3 M n T Y P e) c) ?_
  rintro r8 h2 ⟨rfl, c2⟩
  have rs2 := LI.ref rs c2
  obtain ⟨th2, wd2, pm2, fm2, mu2, um2, hx2⟩ := id rs2.1
  have h11 : Hd (663, 83939, 663) h2 633 (mdl 633 th2 wd2 pm2 fm2 mu2 um2 (p : Int) (ct : Int)) := hx2
  refine g_aload_n (pc := 1211) (r := .inl (some 633)) dL_law_1211 rfl ?_
  refine g_aload_n (pc := 1212) (r := .inr true) dL_law_1212 rfl ?_
  refine g_iload_n (pc := 1213) (x := (i : Int)) dL_law_1213 rfl ?_
  refine g_iconst (pc := 1214) dL_law_1214 ?_
  refine g_iadd (pc := 1215) dL_law_1215 ?_
  refine g_sald (pc := 1216) dL_law_1216 (by omega) (show (i : Int) + 1 < (Ls : Int) by omega) (show (Ls : Nat) ≤ 2147483647 by omega) ?_
  refine g_aload_n (pc := 1217) (r := .inr true) dL_law_1217 rfl ?_
  refine g_iload_n (pc := 1218) (x := (i : Int)) dL_law_1218 rfl ?_
  refine g_iconst (pc := 1219) dL_law_1219 ?_
  refine g_iadd (pc := 1220) dL_law_1220 ?_
  refine g_sald (pc := 1221) dL_law_1221 (by omega) (show (i : Int) + 2 < (Ls : Int) by omega) (show (Ls : Nat) ≤ 2147483647 by omega) ?_
  refine g_i2l (pc := 1222) dL_law_1222 (hsx _) ?_
  refine g_bipush (pc := 1223) dL_law_1223 (by decide +kernel) ?_
  refine g_lshl (pc := 1225) dL_law_1225 ?_
  refine g_aload_n (pc := 1226) (r := .inr true) dL_law_1226 rfl ?_
  refine g_iload_n (pc := 1227) (x := (i : Int)) dL_law_1227 rfl ?_
  refine g_iconst (pc := 1228) dL_law_1228 ?_
  refine g_iadd (pc := 1229) dL_law_1229 ?_
  refine g_sald (pc := 1230) dL_law_1230 (by omega) (show (i : Int) + 3 < (Ls : Int) by omega) (show (Ls : Nat) ≤ 2147483647 by omega) ?_
  refine g_i2l (pc := 1231) dL_law_1231 (hsx _) ?_
  refine g_ldc2 (pc := 1232) (n := 4294967295) dL_law_1232 kcL_55 ?_
  refine g_land (pc := 1235) dL_law_1235 ?_
  refine g_lor (pc := 1236) dL_law_1236 ?_
  refine g_callV0 (pc := 1237) (as := [vI (sx ((i : Int) + 1).toNat), vJ ((Int64.ofInt ((Int64.ofInt (sx ((i : Int) + 2).toNat) <<< ((Int32.ofInt 32).toInt64 &&& 63)).toInt) ||| Int64.ofInt ((Int64.ofInt (sx ((i : Int) + 3).toNat) &&& Int64.ofInt 4294967295).toInt)).toInt)]) (b := 633) (st := [vI _]) lvL_124 dL_law_1237 h11 (Nat.le_of_ble_eq_true rfl) (Nat.le_of_ble_eq_true rfl) (Nat.le_of_ble_eq_true rfl) (Nat.le_of_ble_eq_true rfl) (r_move (hsx _) (i64_of _) (fun M n T Y P e => hW 3 M n T Y P e) rs2) ?_
  rintro r9 h3 ⟨rfl, r3⟩
  refine g_icmp_eqS (pc := 1240) (tgt := 1427) dL_law_1240 (by decide) ?_
  exact hK _ (LI.mills td rt c2 r3)

theorem law_25 {Ls i : Nat} {sx : Nat → Int} {h : MH} {Q : Option MV → MR → MH → Prop} (hsx : ∀ n, i32 (sx n)) (hL : Ls ≤ 2560) (hi : i + 5 ≤ Ls) (li : LI h) (hK : ∀ h2, LI h2 → G mL_law (11, 600000, 7302250, Ls, sx) 1427 [(0, vS true), (1, vR 0), (2, vR 633), (3, vI (i : Int))] [] (663, 83939, 663) h2 Q) : G mL_law (11, 600000, 7302250, Ls, sx) 1245 [(0, vS true), (1, vR 0), (2, vR 633), (3, vI (i : Int))] [] (663, 83939, 663) h Q := by
  obtain ⟨σ, p, ct, s, c, td, rs, rt⟩ := li
  have h10 : Hd (663, 83939, 663) h 0 (eO 10 [vR 1, vR 2, vR 74]) := c.1
  obtain ⟨W, hW⟩ := wW c (sx ((i : Int) + 1).toNat)
  obtain ⟨D, hD⟩ := wD c hW
  refine g_aload_n (pc := 1245) (r := .inl (some 0)) dL_law_1245 rfl ?_
  refine g_aload_n (pc := 1246) (r := .inr true) dL_law_1246 rfl ?_
  refine g_iload_n (pc := 1247) (x := (i : Int)) dL_law_1247 rfl ?_
  refine g_iconst (pc := 1248) dL_law_1248 ?_
  refine g_iadd (pc := 1249) dL_law_1249 ?_
  refine g_sald (pc := 1250) dL_law_1250 (by omega) (show (i : Int) + 1 < (Ls : Int) by omega) (show (Ls : Nat) ≤ 2147483647 by omega) ?_
  refine g_callV0 (pc := 1251) (as := [vI (sx ((i : Int) + 1).toNat)]) (b := 0) (st := []) lvL_125 dL_law_1251 h10 (Nat.le_of_ble_eq_true rfl) (Nat.le_of_ble_eq_true rfl) (Nat.le_of_ble_eq_true rfl) (Nat.le_of_ble_eq_true rfl) (k_seen (hsx _) (fun M n T Y P e => hW 3 M n T Y P e) hD c) ?_
  rintro r8 h2 ⟨rfl, c2⟩
  have rs2 := LI.ref rs c2
  obtain ⟨th2, wd2, pm2, fm2, mu2, um2, hx2⟩ := id rs2.1
  have h11 : Hd (663, 83939, 663) h2 633 (mdl 633 th2 wd2 pm2 fm2 mu2 um2 (p : Int) (ct : Int)) := hx2
  refine g_aload_n (pc := 1254) (r := .inl (some 633)) dL_law_1254 rfl ?_
  refine g_aload_n (pc := 1255) (r := .inr true) dL_law_1255 rfl ?_
  refine g_iload_n (pc := 1256) (x := (i : Int)) dL_law_1256 rfl ?_
  refine g_iconst (pc := 1257) dL_law_1257 ?_
  refine g_iadd (pc := 1258) dL_law_1258 ?_
  refine g_sald (pc := 1259) dL_law_1259 (by omega) (show (i : Int) + 1 < (Ls : Int) by omega) (show (Ls : Nat) ≤ 2147483647 by omega) ?_
  refine g_callV0 (pc := 1260) (as := [vI (sx ((i : Int) + 1).toNat)]) (b := 633) (st := [vJ _]) lvL_128 dL_law_1260 h11 (Nat.le_of_ble_eq_true rfl) (Nat.le_of_ble_eq_true rfl) (Nat.le_of_ble_eq_true rfl) (Nat.le_of_ble_eq_true rfl) (r_seen (hsx _) (fun M n T Y P e => hW 3 M n T Y P e) hD rs2) ?_
  rintro r9 h3 ⟨rfl, r3⟩
  refine g_lif_eqS (pc := 1263) (tgt := 1427) dL_law_1263 dL_law_1264 (by decide) ?_
  exact hK _ (LI.mills td rt c2 r3)

theorem law_31 {Ls i : Nat} {sx : Nat → Int} {h : MH} {Q : Option MV → MR → MH → Prop} (hsx : ∀ n, i32 (sx n)) (hL : Ls ≤ 2560) (hi : i + 5 ≤ Ls) (li : LI h) (hK : ∀ h2, LI h2 → G mL_law (11, 600000, 7302250, Ls, sx) 1427 [(0, vS true), (1, vR 0), (2, vR 633), (3, vI (i : Int))] [] (663, 83939, 663) h2 Q) : G mL_law (11, 600000, 7302250, Ls, sx) 1364 [(0, vS true), (1, vR 0), (2, vR 633), (3, vI (i : Int))] [] (663, 83939, 663) h Q := by
  obtain ⟨σ, p, ct, s, c, td, rs, rt⟩ := li
  have h10 : Hd (663, 83939, 663) h 0 (eO 10 [vR 1, vR 2, vR 74]) := c.1
  obtain ⟨Pd, τ, hP⟩ := wP c (sx ((i : Int) + 1).toNat)
  refine g_aload_n (pc := 1364) (r := .inl (some 0)) dL_law_1364 rfl ?_
  refine g_aload_n (pc := 1365) (r := .inr true) dL_law_1365 rfl ?_
  refine g_iload_n (pc := 1366) (x := (i : Int)) dL_law_1366 rfl ?_
  refine g_iconst (pc := 1367) dL_law_1367 ?_
  refine g_iadd (pc := 1368) dL_law_1368 ?_
  refine g_sald (pc := 1369) dL_law_1369 (by omega) (show (i : Int) + 1 < (Ls : Int) by omega) (show (Ls : Nat) ≤ 2147483647 by omega) ?_
  refine g_aload_n (pc := 1370) (r := .inr true) dL_law_1370 rfl ?_
  refine g_iload_n (pc := 1371) (x := (i : Int)) dL_law_1371 rfl ?_
  refine g_iconst (pc := 1372) dL_law_1372 ?_
  refine g_iadd (pc := 1373) dL_law_1373 ?_
  refine g_sald (pc := 1374) dL_law_1374 (by omega) (show (i : Int) + 2 < (Ls : Int) by omega) (show (Ls : Nat) ≤ 2147483647 by omega) ?_
  refine g_i2l (pc := 1375) dL_law_1375 (hsx _) ?_
  refine g_bipush (pc := 1376) dL_law_1376 (by decide +kernel) ?_
  refine g_lshl (pc := 1378) dL_law_1378 ?_
  refine g_aload_n (pc := 1379) (r := .inr true) dL_law_1379 rfl ?_
  refine g_iload_n (pc := 1380) (x := (i : Int)) dL_law_1380 rfl ?_
  refine g_iconst (pc := 1381) dL_law_1381 ?_
  refine g_iadd (pc := 1382) dL_law_1382 ?_
  refine g_sald (pc := 1383) dL_law_1383 (by omega) (show (i : Int) + 3 < (Ls : Int) by omega) (show (Ls : Nat) ≤ 2147483647 by omega) ?_
  refine g_i2l (pc := 1384) dL_law_1384 (hsx _) ?_
  refine g_ldc2 (pc := 1385) (n := 4294967295) dL_law_1385 kcL_55 ?_
  refine g_land (pc := 1388) dL_law_1388 ?_
  refine g_lor (pc := 1389) dL_law_1389 ?_
  refine g_callV0 (pc := 1390) (as := [vI (sx ((i : Int) + 1).toNat), vJ ((Int64.ofInt ((Int64.ofInt (sx ((i : Int) + 2).toNat) <<< ((Int32.ofInt 32).toInt64 &&& 63)).toInt) ||| Int64.ofInt ((Int64.ofInt (sx ((i : Int) + 3).toNat) &&& Int64.ofInt 4294967295).toInt)).toInt)]) (b := 0) (st := []) lvL_150 dL_law_1390 h10 (Nat.le_of_ble_eq_true rfl) (Nat.le_of_ble_eq_true rfl) (Nat.le_of_ble_eq_true rfl) (Nat.le_of_ble_eq_true rfl) (k_check (hsx _) (i64_of _) (fun kd M n T Y P e => (hP kd M n T Y P e).1.1) c) ?_
  rintro r8 h2 ⟨rfl, c2⟩
  have rs2 := LI.ref rs c2
  obtain ⟨th2, wd2, pm2, fm2, mu2, um2, hx2⟩ := id rs2.1
  have h11 : Hd (663, 83939, 663) h2 633 (mdl 633 th2 wd2 pm2 fm2 mu2 um2 (p : Int) (ct : Int)) := hx2
  refine g_aload_n (pc := 1393) (r := .inl (some 633)) dL_law_1393 rfl ?_
  refine g_aload_n (pc := 1394) (r := .inr true) dL_law_1394 rfl ?_
  refine g_iload_n (pc := 1395) (x := (i : Int)) dL_law_1395 rfl ?_
  refine g_iconst (pc := 1396) dL_law_1396 ?_
  refine g_iadd (pc := 1397) dL_law_1397 ?_
  refine g_sald (pc := 1398) dL_law_1398 (by omega) (show (i : Int) + 1 < (Ls : Int) by omega) (show (Ls : Nat) ≤ 2147483647 by omega) ?_
  refine g_aload_n (pc := 1399) (r := .inr true) dL_law_1399 rfl ?_
  refine g_iload_n (pc := 1400) (x := (i : Int)) dL_law_1400 rfl ?_
  refine g_iconst (pc := 1401) dL_law_1401 ?_
  refine g_iadd (pc := 1402) dL_law_1402 ?_
  refine g_sald (pc := 1403) dL_law_1403 (by omega) (show (i : Int) + 2 < (Ls : Int) by omega) (show (Ls : Nat) ≤ 2147483647 by omega) ?_
  refine g_i2l (pc := 1404) dL_law_1404 (hsx _) ?_
  refine g_bipush (pc := 1405) dL_law_1405 (by decide +kernel) ?_
  refine g_lshl (pc := 1407) dL_law_1407 ?_
  refine g_aload_n (pc := 1408) (r := .inr true) dL_law_1408 rfl ?_
  refine g_iload_n (pc := 1409) (x := (i : Int)) dL_law_1409 rfl ?_
  refine g_iconst (pc := 1410) dL_law_1410 ?_
  refine g_iadd (pc := 1411) dL_law_1411 ?_
  refine g_sald (pc := 1412) dL_law_1412 (by omega) (show (i : Int) + 3 < (Ls : Int) by omega) (show (Ls : Nat) ≤ 2147483647 by omega) ?_
  refine g_i2l (pc := 1413) dL_law_1413 (hsx _) ?_
  refine g_ldc2 (pc := 1414) (n := 4294967295) dL_law_1414 kcL_55 ?_
  refine g_land (pc := 1417) dL_law_1417 ?_
  refine g_lor (pc := 1418) dL_law_1418 ?_
  refine g_callV0 (pc := 1419) (as := [vI (sx ((i : Int) + 1).toNat), vJ ((Int64.ofInt ((Int64.ofInt (sx ((i : Int) + 2).toNat) <<< ((Int32.ofInt 32).toInt64 &&& 63)).toInt) ||| Int64.ofInt ((Int64.ofInt (sx ((i : Int) + 3).toNat) &&& Int64.ofInt 4294967295).toInt)).toInt)]) (b := 633) (st := [vI _]) lvL_154 dL_law_1419 h11 (Nat.le_of_ble_eq_true rfl) (Nat.le_of_ble_eq_true rfl) (Nat.le_of_ble_eq_true rfl) (Nat.le_of_ble_eq_true rfl) (r_check (hsx _) (i64_of _) (fun kd M n T Y P e => (hP kd M n T Y P e).1.1) rs2) ?_
  rintro r9 h3 ⟨rfl, r3⟩
  refine g_icmp_eqS (pc := 1422) (tgt := 1427) dL_law_1422 (by decide) ?_
  exact hK _ (LI.mills td rt c2 r3)
