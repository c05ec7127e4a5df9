set_option maxRecDepth 20000
theorem lc_0 {Z : Cx} {G : Gx} {b sb L ii nc ns : Nat} {xs : Nat → Int32} {Q : State → Prop} {X : Nat → Obj} {m o : Obj} (C : LC Z G b sb L xs) (hi : ii + 6 ≤ L) (hc : nc + 1 ≤ 601024) (hs : ns + 6 ≤ 7293034) (hR : R X m) (kq : ∀ (X2 : Nat → Obj) (m2 o2 : Obj), R X2 m2 → VG Z b 7 Q (Wd G.1 G.2 b (LW X2 m2 o2)) (nc + 1) (ns + 6) 1292 (lvL b sb ii) []) : VG Z b 7 Q (Wd G.1 G.2 b (LW X m o)) nc ns 208 (lvL b sb ii) [] := by
  obtain ⟨r, X2, m2, h1, h2, hR2⟩ := k_feed hR (ar xs ii 1) (ar xs ii 2) (ar xs ii 3) (ar xs ii 4) (ar xs ii 5)
  refine g_aload_n (pc := 208) C.1 dL_law_208 rfl ?_
  refine g_arg (pc := 209) C hi 1 (by decide) (c := 1) (by decide +kernel) (by decide +kernel) rfl rfl dL_law_209 dL_law_210 dL_law_212 dL_law_213 dL_law_214 ?_
  refine g_arg (pc := 215) C hi 2 (by decide) (c := 2) (by decide +kernel) (by decide +kernel) rfl rfl dL_law_215 dL_law_216 dL_law_218 dL_law_219 dL_law_220 ?_
  refine g_arg (pc := 221) C hi 3 (by decide) (c := 3) (by decide +kernel) (by decide +kernel) rfl rfl dL_law_221 dL_law_222 dL_law_224 dL_law_225 dL_law_226 ?_
  refine g_arg (pc := 227) C hi 4 (by decide) (c := 4) (by decide +kernel) (by decide +kernel) rfl rfl dL_law_227 dL_law_228 dL_law_230 dL_law_231 dL_law_232 ?_
  refine g_arg (pc := 233) C hi 5 (by decide) (c := 5) (by decide +kernel) (by decide +kernel) rfl rfl dL_law_233 dL_law_234 dL_law_236 dL_law_237 dL_law_238 ?_
  refine gw_kI (pc := 239) (v := r) (M' := LW X2 m o) (gw_cV (pc := 239) (dy := 1) (a := 0) (As := [.int (ar xs ii 1), .int (ar xs ii 2), .int (ar xs ii 3), .int (ar xs ii 4), .int (ar xs ii 5)]) C.1 cls11 sh_0 rfl lk_23 wv_X11_feed yk_X11_feed rfl (Nat.le_of_ble_eq_true rfl) (Nat.le_of_ble_eq_true rfl) (show nc + 0 ≤ 601024 by omega) (show ns + 0 ≤ 7293034 by omega) (tKL_feed h1) rfl (Nat.le_of_ble_eq_true rfl) dL_law_239) ?_
  refine g_aload_n (pc := 242) C.1 dL_law_242 rfl ?_
  refine g_arg (pc := 243) C hi 1 (by decide) (c := 1) (by decide +kernel) (by decide +kernel) rfl rfl dL_law_243 dL_law_244 dL_law_246 dL_law_247 dL_law_248 ?_
  refine g_arg (pc := 249) C hi 2 (by decide) (c := 2) (by decide +kernel) (by decide +kernel) rfl rfl dL_law_249 dL_law_250 dL_law_252 dL_law_253 dL_law_254 ?_
  refine g_arg (pc := 255) C hi 3 (by decide) (c := 3) (by decide +kernel) (by decide +kernel) rfl rfl dL_law_255 dL_law_256 dL_law_258 dL_law_259 dL_law_260 ?_
  refine g_arg (pc := 261) C hi 4 (by decide) (c := 4) (by decide +kernel) (by decide +kernel) rfl rfl dL_law_261 dL_law_262 dL_law_264 dL_law_265 dL_law_266 ?_
  refine g_arg (pc := 267) C hi 5 (by decide) (c := 5) (by decide +kernel) (by decide +kernel) rfl rfl dL_law_267 dL_law_268 dL_law_270 dL_law_271 dL_law_272 ?_
  refine gw_kI (pc := 273) (v := r) (M' := LW X2 m2 o) (gw_cV (pc := 273) (dy := 1) (a := 225) (As := [.int (ar xs ii 1), .int (ar xs ii 2), .int (ar xs ii 3), .int (ar xs ii 4), .int (ar xs ii 5)]) C.1 cls12 sh_225 rfl lk_27 wv_X12_feed yk_X12_feed rfl (Nat.le_of_ble_eq_true rfl) (Nat.le_of_ble_eq_true rfl) (show nc + 0 ≤ 601024 by omega) (show ns + 0 ≤ 7293034 by omega) (tMo_feed h2) rfl (Nat.le_of_ble_eq_true rfl) dL_law_273) ?_
  refine g_icmp_eq (pc := 276) C.1 1292 dL_law_276 rfl (fun _ => ?_) (fun h => absurd rfl h)
  exact g_widen (Nat.le_succ nc) (Nat.le_add_right ns 6) (kq X2 m2 o hR2)
theorem lc_1 {Z : Cx} {G : Gx} {b sb L ii nc ns : Nat} {xs : Nat → Int32} {Q : State → Prop} {X : Nat → Obj} {m o : Obj} (C : LC Z G b sb L xs) (hi : ii + 6 ≤ L) (hc : nc + 1 ≤ 601024) (hs : ns + 6 ≤ 7293034) (hR : R X m) (kq : ∀ (X2 : Nat → Obj) (m2 o2 : Obj), R X2 m2 → VG Z b 7 Q (Wd G.1 G.2 b (LW X2 m2 o2)) (nc + 1) (ns + 6) 1292 (lvL b sb ii) []) : VG Z b 7 Q (Wd G.1 G.2 b (LW X m o)) nc ns 281 (lvL b sb ii) [] := by
  obtain ⟨r, X2, m2, h1, h2, hR2⟩ := k_end hR (ar xs ii 1)
  refine g_aload_n (pc := 281) C.1 dL_law_281 rfl ?_
  refine g_arg (pc := 282) C hi 1 (by decide) (c := 1) (by decide +kernel) (by decide +kernel) rfl rfl dL_law_282 dL_law_283 dL_law_285 dL_law_286 dL_law_287 ?_
  refine gw_kI (pc := 288) (v := r) (M' := LW X2 m o) (gw_cV (pc := 288) (dy := 0) (a := 0) (As := [.int (ar xs ii 1)]) C.1 cls11 sh_0 rfl lk_28 wv_X11_end yk_X11_end rfl (Nat.le_of_ble_eq_true rfl) (Nat.le_of_ble_eq_true rfl) (show nc + 0 ≤ 601024 by omega) (show ns + 0 ≤ 7293034 by omega) (tKL_end h1) rfl (Nat.le_of_ble_eq_true rfl) dL_law_288) ?_
  refine g_aload_n (pc := 291) C.1 dL_law_291 rfl ?_
  refine g_arg (pc := 292) C hi 1 (by decide) (c := 1) (by decide +kernel) (by decide +kernel) rfl rfl dL_law_292 dL_law_293 dL_law_295 dL_law_296 dL_law_297 ?_
  refine gw_kI (pc := 298) (v := r) (M' := LW X2 m2 o) (gw_cV (pc := 298) (dy := 0) (a := 225) (As := [.int (ar xs ii 1)]) C.1 cls12 sh_225 rfl lk_32 wv_X12_end yk_X12_end rfl (Nat.le_of_ble_eq_true rfl) (Nat.le_of_ble_eq_true rfl) (show nc + 0 ≤ 601024 by omega) (show ns + 0 ≤ 7293034 by omega) (tMo_end h2) rfl (Nat.le_of_ble_eq_true rfl) dL_law_298) ?_
  refine g_icmp_eq (pc := 301) C.1 1292 dL_law_301 rfl (fun _ => ?_) (fun h => absurd rfl h)
  exact g_widen (Nat.le_succ nc) (Nat.le_add_right ns 6) (kq X2 m2 o hR2)
theorem lc_2 {Z : Cx} {G : Gx} {b sb L ii nc ns : Nat} {xs : Nat → Int32} {Q : State → Prop} {X : Nat → Obj} {m o : Obj} (C : LC Z G b sb L xs) (hi : ii + 6 ≤ L) (hc : nc + 1 ≤ 601024) (hs : ns + 6 ≤ 7293034) (hR : R X m) (kq : ∀ (X2 : Nat → Obj) (m2 o2 : Obj), R X2 m2 → VG Z b 7 Q (Wd G.1 G.2 b (LW X2 m2 o2)) (nc + 1) (ns + 6) 1292 (lvL b sb ii) []) : VG Z b 7 Q (Wd G.1 G.2 b (LW X m o)) nc ns 306 (lvL b sb ii) [] := by
  obtain ⟨r, X2, m2, h1, h2, hR2⟩ := k_quarter hR
  refine g_aload_n (pc := 306) C.1 dL_law_306 rfl ?_
  refine gw_kI (pc := 307) (v := r) (M' := LW X2 m o) (gw_cV (pc := 307) (dy := 6) (a := 0) (As := []) C.1 cls11 sh_0 rfl lk_33 wv_X11_quarter yk_X11_quarter rfl (Nat.le_of_ble_eq_true rfl) (Nat.le_of_ble_eq_true rfl) (show nc + 0 ≤ 601024 by omega) (show ns + 0 ≤ 7293034 by omega) (tKL_quarter h1) rfl (Nat.le_of_ble_eq_true rfl) dL_law_307) ?_
  refine g_aload_n (pc := 310) C.1 dL_law_310 rfl ?_
  refine gw_kI (pc := 311) (v := r) (M' := LW X2 m2 o) (gw_cV (pc := 311) (dy := 6) (a := 225) (As := []) C.1 cls12 sh_225 rfl lk_37 wv_X12_quarter yk_X12_quarter rfl (Nat.le_of_ble_eq_true rfl) (Nat.le_of_ble_eq_true rfl) (show nc + 0 ≤ 601024 by omega) (show ns + 0 ≤ 7293034 by omega) (tMo_quarter h2) rfl (Nat.le_of_ble_eq_true rfl) dL_law_311) ?_
  refine g_icmp_eq (pc := 314) C.1 1292 dL_law_314 rfl (fun _ => ?_) (fun h => absurd rfl h)
  exact g_widen (Nat.le_succ nc) (Nat.le_add_right ns 6) (kq X2 m2 o hR2)
theorem lc_3 {Z : Cx} {G : Gx} {b sb L ii nc ns : Nat} {xs : Nat → Int32} {Q : State → Prop} {X : Nat → Obj} {m o : Obj} (C : LC Z G b sb L xs) (hi : ii + 6 ≤ L) (hc : nc + 1 ≤ 601024) (hs : ns + 6 ≤ 7293034) (hR : R X m) (kq : ∀ (X2 : Nat → Obj) (m2 o2 : Obj), R X2 m2 → VG Z b 7 Q (Wd G.1 G.2 b (LW X2 m2 o2)) (nc + 1) (ns + 6) 1292 (lvL b sb ii) []) : VG Z b 7 Q (Wd G.1 G.2 b (LW X m o)) nc ns 319 (lvL b sb ii) [] := by
  obtain ⟨r, m2, h1, h2, hR2⟩ := k_fault hR
  refine g_aload_n (pc := 319) C.1 dL_law_319 rfl ?_
  refine gw_kI (pc := 320) (v := r) (M' := LW X m o) (gw_cV (pc := 320) (dy := 0) (a := 0) (As := []) C.1 cls11 sh_0 rfl lk_38 wv_X11_fault yk_X11_fault rfl (Nat.le_of_ble_eq_true rfl) (Nat.le_of_ble_eq_true rfl) (show nc + 0 ≤ 601024 by omega) (show ns + 0 ≤ 7293034 by omega) (tKL_fault h1) rfl (Nat.le_of_ble_eq_true rfl) dL_law_320) ?_
  refine g_aload_n (pc := 323) C.1 dL_law_323 rfl ?_
  refine gw_kI (pc := 324) (v := r) (M' := LW X m2 o) (gw_cV (pc := 324) (dy := 0) (a := 225) (As := []) C.1 cls12 sh_225 rfl lk_41 wv_X12_fault yk_X12_fault rfl (Nat.le_of_ble_eq_true rfl) (Nat.le_of_ble_eq_true rfl) (show nc + 0 ≤ 601024 by omega) (show ns + 0 ≤ 7293034 by omega) (tMo_fault h2) rfl (Nat.le_of_ble_eq_true rfl) dL_law_324) ?_
  refine g_icmp_eq (pc := 327) C.1 1292 dL_law_327 rfl (fun _ => ?_) (fun h => absurd rfl h)
  exact g_widen (Nat.le_succ nc) (Nat.le_add_right ns 6) (kq X m2 o hR2)
theorem lc_4 {Z : Cx} {G : Gx} {b sb L ii nc ns : Nat} {xs : Nat → Int32} {Q : State → Prop} {X : Nat → Obj} {m o : Obj} (C : LC Z G b sb L xs) (hi : ii + 6 ≤ L) (hc : nc + 1 ≤ 601024) (hs : ns + 6 ≤ 7293034) (hR : R X m) (kq : ∀ (X2 : Nat → Obj) (m2 o2 : Obj), R X2 m2 → VG Z b 7 Q (Wd G.1 G.2 b (LW X2 m2 o2)) (nc + 1) (ns + 6) 1292 (lvL b sb ii) []) : VG Z b 7 Q (Wd G.1 G.2 b (LW X m o)) nc ns 332 (lvL b sb ii) [] := by
  obtain ⟨r, m2, h1, h2, hR2⟩ := k_house hR (ar xs ii 1) (ar xs ii 2)
  refine g_aload_n (pc := 332) C.1 dL_law_332 rfl ?_
  refine g_arg (pc := 333) C hi 1 (by decide) (c := 1) (by decide +kernel) (by decide +kernel) rfl rfl dL_law_333 dL_law_334 dL_law_336 dL_law_337 dL_law_338 ?_
  refine g_arg (pc := 339) C hi 2 (by decide) (c := 2) (by decide +kernel) (by decide +kernel) rfl rfl dL_law_339 dL_law_340 dL_law_342 dL_law_343 dL_law_344 ?_
  refine gw_kI (pc := 345) (v := r) (M' := LW X m o) (gw_cV (pc := 345) (dy := 2) (a := 0) (As := [.int (ar xs ii 1), .int (ar xs ii 2)]) C.1 cls11 sh_0 rfl lk_42 wv_X11_house yk_X11_house rfl (Nat.le_of_ble_eq_true rfl) (Nat.le_of_ble_eq_true rfl) (show nc + 0 ≤ 601024 by omega) (show ns + 0 ≤ 7293034 by omega) (tKL_house h1) rfl (Nat.le_of_ble_eq_true rfl) dL_law_345) ?_
  refine g_aload_n (pc := 348) C.1 dL_law_348 rfl ?_
  refine g_arg (pc := 349) C hi 1 (by decide) (c := 1) (by decide +kernel) (by decide +kernel) rfl rfl dL_law_349 dL_law_350 dL_law_352 dL_law_353 dL_law_354 ?_
  refine g_arg (pc := 355) C hi 2 (by decide) (c := 2) (by decide +kernel) (by decide +kernel) rfl rfl dL_law_355 dL_law_356 dL_law_358 dL_law_359 dL_law_360 ?_
  refine gw_kI (pc := 361) (v := r) (M' := LW X m2 o) (gw_cV (pc := 361) (dy := 3) (a := 225) (As := [.int (ar xs ii 1), .int (ar xs ii 2)]) C.1 cls12 sh_225 rfl lk_45 wv_X12_house yk_X12_house rfl (Nat.le_of_ble_eq_true rfl) (Nat.le_of_ble_eq_true rfl) (show nc + 0 ≤ 601024 by omega) (show ns + 0 ≤ 7293034 by omega) (tMo_house h2) rfl (Nat.le_of_ble_eq_true rfl) dL_law_361) ?_
  refine g_icmp_eq (pc := 364) C.1 1292 dL_law_364 rfl (fun _ => ?_) (fun h => absurd rfl h)
  exact g_widen (Nat.le_succ nc) (Nat.le_add_right ns 6) (kq X m2 o hR2)
theorem lc_6 {Z : Cx} {G : Gx} {b sb L ii nc ns : Nat} {xs : Nat → Int32} {Q : State → Prop} {X : Nat → Obj} {m o : Obj} (C : LC Z G b sb L xs) (hi : ii + 6 ≤ L) (hc : nc + 1 ≤ 601024) (hs : ns + 6 ≤ 7293034) (hR : R X m) (kq : ∀ (X2 : Nat → Obj) (m2 o2 : Obj), R X2 m2 → VG Z b 7 Q (Wd G.1 G.2 b (LW X2 m2 o2)) (nc + 1) (ns + 6) 1292 (lvL b sb ii) []) : VG Z b 7 Q (Wd G.1 G.2 b (LW X m o)) nc ns 437 (lvL b sb ii) [] := by
  obtain ⟨r, m2, h1, h2, hR2⟩ := k_call hR (ar xs ii 1) (ar xs ii 2)
  refine g_aload_n (pc := 437) C.1 dL_law_437 rfl ?_
  refine g_arg (pc := 438) C hi 1 (by decide) (c := 1) (by decide +kernel) (by decide +kernel) rfl rfl dL_law_438 dL_law_439 dL_law_441 dL_law_442 dL_law_443 ?_
  refine g_arg (pc := 444) C hi 2 (by decide) (c := 2) (by decide +kernel) (by decide +kernel) rfl rfl dL_law_444 dL_law_445 dL_law_447 dL_law_448 dL_law_449 ?_
  refine gw_kI (pc := 450) (v := r) (M' := LW X m o) (gw_cV (pc := 450) (dy := 0) (a := 0) (As := [.int (ar xs ii 1), .int (ar xs ii 2)]) C.1 cls11 sh_0 rfl lk_55 wv_X11_call yk_X11_call rfl (Nat.le_of_ble_eq_true rfl) (Nat.le_of_ble_eq_true rfl) (show nc + 0 ≤ 601024 by omega) (show ns + 0 ≤ 7293034 by omega) (tKL_call h1) rfl (Nat.le_of_ble_eq_true rfl) dL_law_450) ?_
  refine g_aload_n (pc := 453) C.1 dL_law_453 rfl ?_
  refine g_arg (pc := 454) C hi 1 (by decide) (c := 1) (by decide +kernel) (by decide +kernel) rfl rfl dL_law_454 dL_law_455 dL_law_457 dL_law_458 dL_law_459 ?_
  refine g_arg (pc := 460) C hi 2 (by decide) (c := 2) (by decide +kernel) (by decide +kernel) rfl rfl dL_law_460 dL_law_461 dL_law_463 dL_law_464 dL_law_465 ?_
  refine gw_kI (pc := 466) (v := r) (M' := LW X m2 o) (gw_cV (pc := 466) (dy := 1) (a := 225) (As := [.int (ar xs ii 1), .int (ar xs ii 2)]) C.1 cls12 sh_225 rfl lk_58 wv_X12_call yk_X12_call rfl (Nat.le_of_ble_eq_true rfl) (Nat.le_of_ble_eq_true rfl) (show nc + 0 ≤ 601024 by omega) (show ns + 0 ≤ 7293034 by omega) (tMo_call h2) rfl (Nat.le_of_ble_eq_true rfl) dL_law_466) ?_
  refine g_icmp_eq (pc := 469) C.1 1292 dL_law_469 rfl (fun _ => ?_) (fun h => absurd rfl h)
  exact g_widen (Nat.le_succ nc) (Nat.le_add_right ns 6) (kq X m2 o hR2)
theorem lc_7 {Z : Cx} {G : Gx} {b sb L ii nc ns : Nat} {xs : Nat → Int32} {Q : State → Prop} {X : Nat → Obj} {m o : Obj} (C : LC Z G b sb L xs) (hi : ii + 6 ≤ L) (hc : nc + 1 ≤ 601024) (hs : ns + 6 ≤ 7293034) (hR : R X m) (kq : ∀ (X2 : Nat → Obj) (m2 o2 : Obj), R X2 m2 → VG Z b 7 Q (Wd G.1 G.2 b (LW X2 m2 o2)) (nc + 1) (ns + 6) 1292 (lvL b sb ii) []) : VG Z b 7 Q (Wd G.1 G.2 b (LW X m o)) nc ns 474 (lvL b sb ii) [] := by
  obtain ⟨r, m2, h1, h2, hR2⟩ := k_now hR (ar xs ii 1)
  refine g_aload_n (pc := 474) C.1 dL_law_474 rfl ?_
  refine g_arg (pc := 475) C hi 1 (by decide) (c := 1) (by decide +kernel) (by decide +kernel) rfl rfl dL_law_475 dL_law_476 dL_law_478 dL_law_479 dL_law_480 ?_
  refine gw_kI (pc := 481) (v := r) (M' := LW X m o) (gw_cV (pc := 481) (dy := 3) (a := 0) (As := [.int (ar xs ii 1)]) C.1 cls11 sh_0 rfl lk_59 wv_X11_now yk_X11_now rfl (Nat.le_of_ble_eq_true rfl) (Nat.le_of_ble_eq_true rfl) (show nc + 0 ≤ 601024 by omega) (show ns + 0 ≤ 7293034 by omega) (tKL_now h1) rfl (Nat.le_of_ble_eq_true rfl) dL_law_481) ?_
  refine g_aload_n (pc := 484) C.1 dL_law_484 rfl ?_
  refine g_arg (pc := 485) C hi 1 (by decide) (c := 1) (by decide +kernel) (by decide +kernel) rfl rfl dL_law_485 dL_law_486 dL_law_488 dL_law_489 dL_law_490 ?_
  refine gw_kI (pc := 491) (v := r) (M' := LW X m2 o) (gw_cV (pc := 491) (dy := 4) (a := 225) (As := [.int (ar xs ii 1)]) C.1 cls12 sh_225 rfl lk_62 wv_X12_now yk_X12_now rfl (Nat.le_of_ble_eq_true rfl) (Nat.le_of_ble_eq_true rfl) (show nc + 0 ≤ 601024 by omega) (show ns + 0 ≤ 7293034 by omega) (tMo_now h2) rfl (Nat.le_of_ble_eq_true rfl) dL_law_491) ?_
  refine g_icmp_eq (pc := 494) C.1 1292 dL_law_494 rfl (fun _ => ?_) (fun h => absurd rfl h)
  exact g_widen (Nat.le_succ nc) (Nat.le_add_right ns 6) (kq X m2 o hR2)
theorem lc_8 {Z : Cx} {G : Gx} {b sb L ii nc ns : Nat} {xs : Nat → Int32} {Q : State → Prop} {X : Nat → Obj} {m o : Obj} (C : LC Z G b sb L xs) (hi : ii + 6 ≤ L) (hc : nc + 1 ≤ 601024) (hs : ns + 6 ≤ 7293034) (hR : R X m) (kq : ∀ (X2 : Nat → Obj) (m2 o2 : Obj), R X2 m2 → VG Z b 7 Q (Wd G.1 G.2 b (LW X2 m2 o2)) (nc + 1) (ns + 6) 1292 (lvL b sb ii) []) : VG Z b 7 Q (Wd G.1 G.2 b (LW X m o)) nc ns 499 (lvL b sb ii) [] := by
  obtain ⟨r, X2, m2, h1, h2, hR2⟩ := k_knock hR (ar xs ii 1) (ar xs ii 2)
  refine g_aload_n (pc := 499) C.1 dL_law_499 rfl ?_
  refine g_arg (pc := 500) C hi 1 (by decide) (c := 1) (by decide +kernel) (by decide +kernel) rfl rfl dL_law_500 dL_law_501 dL_law_503 dL_law_504 dL_law_505 ?_
  refine g_arg (pc := 506) C hi 2 (by decide) (c := 2) (by decide +kernel) (by decide +kernel) rfl rfl dL_law_506 dL_law_507 dL_law_509 dL_law_510 dL_law_511 ?_
  refine gw_kI (pc := 512) (v := r) (M' := LW X2 m o) (gw_cV (pc := 512) (dy := 3) (a := 0) (As := [.int (ar xs ii 1), .int (ar xs ii 2)]) C.1 cls11 sh_0 rfl lk_63 wv_X11_knock yk_X11_knock rfl (Nat.le_of_ble_eq_true rfl) (Nat.le_of_ble_eq_true rfl) (show nc + 0 ≤ 601024 by omega) (show ns + 0 ≤ 7293034 by omega) (tKL_knock h1) rfl (Nat.le_of_ble_eq_true rfl) dL_law_512) ?_
  refine g_aload_n (pc := 515) C.1 dL_law_515 rfl ?_
  refine g_arg (pc := 516) C hi 1 (by decide) (c := 1) (by decide +kernel) (by decide +kernel) rfl rfl dL_law_516 dL_law_517 dL_law_519 dL_law_520 dL_law_521 ?_
  refine g_arg (pc := 522) C hi 2 (by decide) (c := 2) (by decide +kernel) (by decide +kernel) rfl rfl dL_law_522 dL_law_523 dL_law_525 dL_law_526 dL_law_527 ?_
  refine gw_kI (pc := 528) (v := r) (M' := LW X2 m2 o) (gw_cV (pc := 528) (dy := 2) (a := 225) (As := [.int (ar xs ii 1), .int (ar xs ii 2)]) C.1 cls12 sh_225 rfl lk_66 wv_X12_knock yk_X12_knock rfl (Nat.le_of_ble_eq_true rfl) (Nat.le_of_ble_eq_true rfl) (show nc + 0 ≤ 601024 by omega) (show ns + 0 ≤ 7293034 by omega) (tMo_knock h2) rfl (Nat.le_of_ble_eq_true rfl) dL_law_528) ?_
  refine g_icmp_eq (pc := 531) C.1 1292 dL_law_531 rfl (fun _ => ?_) (fun h => absurd rfl h)
  exact g_widen (Nat.le_succ nc) (Nat.le_add_right ns 6) (kq X2 m2 o hR2)
theorem lc_9 {Z : Cx} {G : Gx} {b sb L ii nc ns : Nat} {xs : Nat → Int32} {Q : State → Prop} {X : Nat → Obj} {m o : Obj} (C : LC Z G b sb L xs) (hi : ii + 6 ≤ L) (hc : nc + 1 ≤ 601024) (hs : ns + 6 ≤ 7293034) (hR : R X m) (kq : ∀ (X2 : Nat → Obj) (m2 o2 : Obj), R X2 m2 → VG Z b 7 Q (Wd G.1 G.2 b (LW X2 m2 o2)) (nc + 1) (ns + 6) 1292 (lvL b sb ii) []) : VG Z b 7 Q (Wd G.1 G.2 b (LW X m o)) nc ns 536 (lvL b sb ii) [] := by
  obtain ⟨r, X2, m2, h1, h2, hR2⟩ := k_go hR (ar xs ii 1) (ar xs ii 2)
  refine g_aload_n (pc := 536) C.1 dL_law_536 rfl ?_
  refine g_arg (pc := 537) C hi 1 (by decide) (c := 1) (by decide +kernel) (by decide +kernel) rfl rfl dL_law_537 dL_law_538 dL_law_540 dL_law_541 dL_law_542 ?_
  refine g_arg (pc := 543) C hi 2 (by decide) (c := 2) (by decide +kernel) (by decide +kernel) rfl rfl dL_law_543 dL_law_544 dL_law_546 dL_law_547 dL_law_548 ?_
  refine gw_kI (pc := 549) (v := r) (M' := LW X2 m o) (gw_cV (pc := 549) (dy := 3) (a := 0) (As := [.int (ar xs ii 1), .int (ar xs ii 2)]) C.1 cls11 sh_0 rfl lk_67 wv_X11_go yk_X11_go rfl (Nat.le_of_ble_eq_true rfl) (Nat.le_of_ble_eq_true rfl) (show nc + 0 ≤ 601024 by omega) (show ns + 0 ≤ 7293034 by omega) (tKL_go h1) rfl (Nat.le_of_ble_eq_true rfl) dL_law_549) ?_
  refine g_aload_n (pc := 552) C.1 dL_law_552 rfl ?_
  refine g_arg (pc := 553) C hi 1 (by decide) (c := 1) (by decide +kernel) (by decide +kernel) rfl rfl dL_law_553 dL_law_554 dL_law_556 dL_law_557 dL_law_558 ?_
  refine g_arg (pc := 559) C hi 2 (by decide) (c := 2) (by decide +kernel) (by decide +kernel) rfl rfl dL_law_559 dL_law_560 dL_law_562 dL_law_563 dL_law_564 ?_
  refine gw_kI (pc := 565) (v := r) (M' := LW X2 m2 o) (gw_cV (pc := 565) (dy := 2) (a := 225) (As := [.int (ar xs ii 1), .int (ar xs ii 2)]) C.1 cls12 sh_225 rfl lk_70 wv_X12_go yk_X12_go rfl (Nat.le_of_ble_eq_true rfl) (Nat.le_of_ble_eq_true rfl) (show nc + 0 ≤ 601024 by omega) (show ns + 0 ≤ 7293034 by omega) (tMo_go h2) rfl (Nat.le_of_ble_eq_true rfl) dL_law_565) ?_
  refine g_icmp_eq (pc := 568) C.1 1292 dL_law_568 rfl (fun _ => ?_) (fun h => absurd rfl h)
  exact g_widen (Nat.le_succ nc) (Nat.le_add_right ns 6) (kq X2 m2 o hR2)
theorem lc_10 {Z : Cx} {G : Gx} {b sb L ii nc ns : Nat} {xs : Nat → Int32} {Q : State → Prop} {X : Nat → Obj} {m o : Obj} (C : LC Z G b sb L xs) (hi : ii + 6 ≤ L) (hc : nc + 1 ≤ 601024) (hs : ns + 6 ≤ 7293034) (hR : R X m) (kq : ∀ (X2 : Nat → Obj) (m2 o2 : Obj), R X2 m2 → VG Z b 7 Q (Wd G.1 G.2 b (LW X2 m2 o2)) (nc + 1) (ns + 6) 1292 (lvL b sb ii) []) : VG Z b 7 Q (Wd G.1 G.2 b (LW X m o)) nc ns 573 (lvL b sb ii) [] := by
  obtain ⟨r, X2, m2, h1, h2, hR2⟩ := k_quit hR (ar xs ii 1)
  refine g_aload_n (pc := 573) C.1 dL_law_573 rfl ?_
  refine g_arg (pc := 574) C hi 1 (by decide) (c := 1) (by decide +kernel) (by decide +kernel) rfl rfl dL_law_574 dL_law_575 dL_law_577 dL_law_578 dL_law_579 ?_
  refine gw_kI (pc := 580) (v := r) (M' := LW X2 m o) (gw_cV (pc := 580) (dy := 3) (a := 0) (As := [.int (ar xs ii 1)]) C.1 cls11 sh_0 rfl lk_71 wv_X11_quit yk_X11_quit rfl (Nat.le_of_ble_eq_true rfl) (Nat.le_of_ble_eq_true rfl) (show nc + 0 ≤ 601024 by omega) (show ns + 0 ≤ 7293034 by omega) (tKL_quit h1) rfl (Nat.le_of_ble_eq_true rfl) dL_law_580) ?_
  refine g_aload_n (pc := 583) C.1 dL_law_583 rfl ?_
  refine g_arg (pc := 584) C hi 1 (by decide) (c := 1) (by decide +kernel) (by decide +kernel) rfl rfl dL_law_584 dL_law_585 dL_law_587 dL_law_588 dL_law_589 ?_
  refine gw_kI (pc := 590) (v := r) (M' := LW X2 m2 o) (gw_cV (pc := 590) (dy := 2) (a := 225) (As := [.int (ar xs ii 1)]) C.1 cls12 sh_225 rfl lk_74 wv_X12_quit yk_X12_quit rfl (Nat.le_of_ble_eq_true rfl) (Nat.le_of_ble_eq_true rfl) (show nc + 0 ≤ 601024 by omega) (show ns + 0 ≤ 7293034 by omega) (tMo_quit h2) rfl (Nat.le_of_ble_eq_true rfl) dL_law_590) ?_
  refine g_icmp_eq (pc := 593) C.1 1292 dL_law_593 rfl (fun _ => ?_) (fun h => absurd rfl h)
  exact g_widen (Nat.le_succ nc) (Nat.le_add_right ns 6) (kq X2 m2 o hR2)
theorem lc_11 {Z : Cx} {G : Gx} {b sb L ii nc ns : Nat} {xs : Nat → Int32} {Q : State → Prop} {X : Nat → Obj} {m o : Obj} (C : LC Z G b sb L xs) (hi : ii + 6 ≤ L) (hc : nc + 1 ≤ 601024) (hs : ns + 6 ≤ 7293034) (hR : R X m) (kq : ∀ (X2 : Nat → Obj) (m2 o2 : Obj), R X2 m2 → VG Z b 7 Q (Wd G.1 G.2 b (LW X2 m2 o2)) (nc + 1) (ns + 6) 1292 (lvL b sb ii) []) : VG Z b 7 Q (Wd G.1 G.2 b (LW X m o)) nc ns 598 (lvL b sb ii) [] := by
  obtain ⟨r, X2, m2, h1, h2, hR2⟩ := k_meets hR (ar xs ii 1) (ar xs ii 2)
  refine g_aload_n (pc := 598) C.1 dL_law_598 rfl ?_
  refine g_arg (pc := 599) C hi 1 (by decide) (c := 1) (by decide +kernel) (by decide +kernel) rfl rfl dL_law_599 dL_law_600 dL_law_602 dL_law_603 dL_law_604 ?_
  refine g_arg (pc := 605) C hi 2 (by decide) (c := 2) (by decide +kernel) (by decide +kernel) rfl rfl dL_law_605 dL_law_606 dL_law_608 dL_law_609 dL_law_610 ?_
  refine gw_kI (pc := 611) (v := r) (M' := LW X2 m o) (gw_cV (pc := 611) (dy := 3) (a := 0) (As := [.int (ar xs ii 1), .int (ar xs ii 2)]) C.1 cls11 sh_0 rfl lk_75 wv_X11_meets yk_X11_meets rfl (Nat.le_of_ble_eq_true rfl) (Nat.le_of_ble_eq_true rfl) (show nc + 0 ≤ 601024 by omega) (show ns + 0 ≤ 7293034 by omega) (tKL_meets h1) rfl (Nat.le_of_ble_eq_true rfl) dL_law_611) ?_
  refine g_aload_n (pc := 614) C.1 dL_law_614 rfl ?_
  refine g_arg (pc := 615) C hi 1 (by decide) (c := 1) (by decide +kernel) (by decide +kernel) rfl rfl dL_law_615 dL_law_616 dL_law_618 dL_law_619 dL_law_620 ?_
  refine g_arg (pc := 621) C hi 2 (by decide) (c := 2) (by decide +kernel) (by decide +kernel) rfl rfl dL_law_621 dL_law_622 dL_law_624 dL_law_625 dL_law_626 ?_
  refine gw_kI (pc := 627) (v := r) (M' := LW X2 m2 o) (gw_cV (pc := 627) (dy := 2) (a := 225) (As := [.int (ar xs ii 1), .int (ar xs ii 2)]) C.1 cls12 sh_225 rfl lk_78 wv_X12_meets yk_X12_meets rfl (Nat.le_of_ble_eq_true rfl) (Nat.le_of_ble_eq_true rfl) (show nc + 0 ≤ 601024 by omega) (show ns + 0 ≤ 7293034 by omega) (tMo_meets h2) rfl (Nat.le_of_ble_eq_true rfl) dL_law_627) ?_
  refine g_icmp_eq (pc := 630) C.1 1292 dL_law_630 rfl (fun _ => ?_) (fun h => absurd rfl h)
  exact g_widen (Nat.le_succ nc) (Nat.le_add_right ns 6) (kq X2 m2 o hR2)
theorem lc_12 {Z : Cx} {G : Gx} {b sb L ii nc ns : Nat} {xs : Nat → Int32} {Q : State → Prop} {X : Nat → Obj} {m o : Obj} (C : LC Z G b sb L xs) (hi : ii + 6 ≤ L) (hc : nc + 1 ≤ 601024) (hs : ns + 6 ≤ 7293034) (hR : R X m) (kq : ∀ (X2 : Nat → Obj) (m2 o2 : Obj), R X2 m2 → VG Z b 7 Q (Wd G.1 G.2 b (LW X2 m2 o2)) (nc + 1) (ns + 6) 1292 (lvL b sb ii) []) : VG Z b 7 Q (Wd G.1 G.2 b (LW X m o)) nc ns 635 (lvL b sb ii) [] := by
  obtain ⟨r, X2, m2, h1, h2, hR2⟩ := k_calls hR (ar xs ii 1) (ar xs ii 2)
  refine g_aload_n (pc := 635) C.1 dL_law_635 rfl ?_
  refine g_arg (pc := 636) C hi 1 (by decide) (c := 1) (by decide +kernel) (by decide +kernel) rfl rfl dL_law_636 dL_law_637 dL_law_639 dL_law_640 dL_law_641 ?_
  refine g_arg (pc := 642) C hi 2 (by decide) (c := 2) (by decide +kernel) (by decide +kernel) rfl rfl dL_law_642 dL_law_643 dL_law_645 dL_law_646 dL_law_647 ?_
  refine gw_kI (pc := 648) (v := r) (M' := LW X2 m o) (gw_cV (pc := 648) (dy := 3) (a := 0) (As := [.int (ar xs ii 1), .int (ar xs ii 2)]) C.1 cls11 sh_0 rfl lk_79 wv_X11_calls yk_X11_calls rfl (Nat.le_of_ble_eq_true rfl) (Nat.le_of_ble_eq_true rfl) (show nc + 0 ≤ 601024 by omega) (show ns + 0 ≤ 7293034 by omega) (tKL_calls h1) rfl (Nat.le_of_ble_eq_true rfl) dL_law_648) ?_
  refine g_aload_n (pc := 651) C.1 dL_law_651 rfl ?_
  refine g_arg (pc := 652) C hi 1 (by decide) (c := 1) (by decide +kernel) (by decide +kernel) rfl rfl dL_law_652 dL_law_653 dL_law_655 dL_law_656 dL_law_657 ?_
  refine g_arg (pc := 658) C hi 2 (by decide) (c := 2) (by decide +kernel) (by decide +kernel) rfl rfl dL_law_658 dL_law_659 dL_law_661 dL_law_662 dL_law_663 ?_
  refine gw_kI (pc := 664) (v := r) (M' := LW X2 m2 o) (gw_cV (pc := 664) (dy := 2) (a := 225) (As := [.int (ar xs ii 1), .int (ar xs ii 2)]) C.1 cls12 sh_225 rfl lk_82 wv_X12_calls yk_X12_calls rfl (Nat.le_of_ble_eq_true rfl) (Nat.le_of_ble_eq_true rfl) (show nc + 0 ≤ 601024 by omega) (show ns + 0 ≤ 7293034 by omega) (tMo_calls h2) rfl (Nat.le_of_ble_eq_true rfl) dL_law_664) ?_
  refine g_icmp_eq (pc := 667) C.1 1292 dL_law_667 rfl (fun _ => ?_) (fun h => absurd rfl h)
  exact g_widen (Nat.le_succ nc) (Nat.le_add_right ns 6) (kq X2 m2 o hR2)
theorem lc_13 {Z : Cx} {G : Gx} {b sb L ii nc ns : Nat} {xs : Nat → Int32} {Q : State → Prop} {X : Nat → Obj} {m o : Obj} (C : LC Z G b sb L xs) (hi : ii + 6 ≤ L) (hc : nc + 1 ≤ 601024) (hs : ns + 6 ≤ 7293034) (hR : R X m) (kq : ∀ (X2 : Nat → Obj) (m2 o2 : Obj), R X2 m2 → VG Z b 7 Q (Wd G.1 G.2 b (LW X2 m2 o2)) (nc + 1) (ns + 6) 1292 (lvL b sb ii) []) : VG Z b 7 Q (Wd G.1 G.2 b (LW X m o)) nc ns 672 (lvL b sb ii) [] := by
  obtain ⟨r, X2, m2, h1, h2, hR2⟩ := k_ticks hR (ar xs ii 1)
  refine g_aload_n (pc := 672) C.1 dL_law_672 rfl ?_
  refine g_arg (pc := 673) C hi 1 (by decide) (c := 1) (by decide +kernel) (by decide +kernel) rfl rfl dL_law_673 dL_law_674 dL_law_676 dL_law_677 dL_law_678 ?_
  refine gw_kI (pc := 679) (v := r) (M' := LW X2 m o) (gw_cV (pc := 679) (dy := 6) (a := 0) (As := [.int (ar xs ii 1)]) C.1 cls11 sh_0 rfl lk_83 wv_X11_ticks yk_X11_ticks rfl (Nat.le_of_ble_eq_true rfl) (Nat.le_of_ble_eq_true rfl) (show nc + 0 ≤ 601024 by omega) (show ns + 0 ≤ 7293034 by omega) (tKL_ticks h1) rfl (Nat.le_of_ble_eq_true rfl) dL_law_679) ?_
  refine g_aload_n (pc := 682) C.1 dL_law_682 rfl ?_
  refine g_arg (pc := 683) C hi 1 (by decide) (c := 1) (by decide +kernel) (by decide +kernel) rfl rfl dL_law_683 dL_law_684 dL_law_686 dL_law_687 dL_law_688 ?_
  refine gw_kI (pc := 689) (v := r) (M' := LW X2 m2 o) (gw_cV (pc := 689) (dy := 6) (a := 225) (As := [.int (ar xs ii 1)]) C.1 cls12 sh_225 rfl lk_86 wv_X12_ticks yk_X12_ticks rfl (Nat.le_of_ble_eq_true rfl) (Nat.le_of_ble_eq_true rfl) (show nc + 0 ≤ 601024 by omega) (show ns + 0 ≤ 7293034 by omega) (tMo_ticks h2) rfl (Nat.le_of_ble_eq_true rfl) dL_law_689) ?_
  refine g_icmp_eq (pc := 692) C.1 1292 dL_law_692 rfl (fun _ => ?_) (fun h => absurd rfl h)
  exact g_widen (Nat.le_succ nc) (Nat.le_add_right ns 6) (kq X2 m2 o hR2)
theorem lc_14 {Z : Cx} {G : Gx} {b sb L ii nc ns : Nat} {xs : Nat → Int32} {Q : State → Prop} {X : Nat → Obj} {m o : Obj} (C : LC Z G b sb L xs) (hi : ii + 6 ≤ L) (hc : nc + 1 ≤ 601024) (hs : ns + 6 ≤ 7293034) (hR : R X m) (kq : ∀ (X2 : Nat → Obj) (m2 o2 : Obj), R X2 m2 → VG Z b 7 Q (Wd G.1 G.2 b (LW X2 m2 o2)) (nc + 1) (ns + 6) 1292 (lvL b sb ii) []) : VG Z b 7 Q (Wd G.1 G.2 b (LW X m o)) nc ns 697 (lvL b sb ii) [] := by
  obtain ⟨r, X2, m2, h1, h2, hR2⟩ := k_undo hR
  refine g_aload_n (pc := 697) C.1 dL_law_697 rfl ?_
  refine gw_kI (pc := 698) (v := r) (M' := LW X2 m o) (gw_cV (pc := 698) (dy := 3) (a := 0) (As := []) C.1 cls11 sh_0 rfl lk_87 wv_X11_undo yk_X11_undo rfl (Nat.le_of_ble_eq_true rfl) (Nat.le_of_ble_eq_true rfl) (show nc + 0 ≤ 601024 by omega) (show ns + 0 ≤ 7293034 by omega) (tKL_undo h1) rfl (Nat.le_of_ble_eq_true rfl) dL_law_698) ?_
  refine g_aload_n (pc := 701) C.1 dL_law_701 rfl ?_
  refine gw_kI (pc := 702) (v := r) (M' := LW X2 m2 o) (gw_cV (pc := 702) (dy := 0) (a := 225) (As := []) C.1 cls12 sh_225 rfl lk_90 wv_X12_undo yk_X12_undo rfl (Nat.le_of_ble_eq_true rfl) (Nat.le_of_ble_eq_true rfl) (show nc + 0 ≤ 601024 by omega) (show ns + 0 ≤ 7293034 by omega) (tMo_undo h2) rfl (Nat.le_of_ble_eq_true rfl) dL_law_702) ?_
  refine g_icmp_eq (pc := 705) C.1 1292 dL_law_705 rfl (fun _ => ?_) (fun h => absurd rfl h)
  exact g_widen (Nat.le_succ nc) (Nat.le_add_right ns 6) (kq X2 m2 o hR2)
theorem lc_15 {Z : Cx} {G : Gx} {b sb L ii nc ns : Nat} {xs : Nat → Int32} {Q : State → Prop} {X : Nat → Obj} {m o : Obj} (C : LC Z G b sb L xs) (hi : ii + 6 ≤ L) (hc : nc + 1 ≤ 601024) (hs : ns + 6 ≤ 7293034) (hR : R X m) (kq : ∀ (X2 : Nat → Obj) (m2 o2 : Obj), R X2 m2 → VG Z b 7 Q (Wd G.1 G.2 b (LW X2 m2 o2)) (nc + 1) (ns + 6) 1292 (lvL b sb ii) []) : VG Z b 7 Q (Wd G.1 G.2 b (LW X m o)) nc ns 710 (lvL b sb ii) [] := by
  obtain ⟨r, m2, h1, h2, hR2⟩ := k_answer hR (ar xs ii 1)
  refine g_aload_n (pc := 710) C.1 dL_law_710 rfl ?_
  refine g_arg (pc := 711) C hi 1 (by decide) (c := 1) (by decide +kernel) (by decide +kernel) rfl rfl dL_law_711 dL_law_712 dL_law_714 dL_law_715 dL_law_716 ?_
  refine gw_kI (pc := 717) (v := r) (M' := LW X m o) (gw_cV (pc := 717) (dy := 4) (a := 0) (As := [.int (ar xs ii 1)]) C.1 cls11 sh_0 rfl lk_91 wv_X11_answer yk_X11_answer rfl (Nat.le_of_ble_eq_true rfl) (Nat.le_of_ble_eq_true rfl) (show nc + 0 ≤ 601024 by omega) (show ns + 0 ≤ 7293034 by omega) (tKL_answer h1) rfl (Nat.le_of_ble_eq_true rfl) dL_law_717) ?_
  refine g_aload_n (pc := 720) C.1 dL_law_720 rfl ?_
  refine g_arg (pc := 721) C hi 1 (by decide) (c := 1) (by decide +kernel) (by decide +kernel) rfl rfl dL_law_721 dL_law_722 dL_law_724 dL_law_725 dL_law_726 ?_
  refine gw_kI (pc := 727) (v := r) (M' := LW X m2 o) (gw_cV (pc := 727) (dy := 4) (a := 225) (As := [.int (ar xs ii 1)]) C.1 cls12 sh_225 rfl lk_94 wv_X12_answer yk_X12_answer rfl (Nat.le_of_ble_eq_true rfl) (Nat.le_of_ble_eq_true rfl) (show nc + 0 ≤ 601024 by omega) (show ns + 0 ≤ 7293034 by omega) (tMo_answer h2) rfl (Nat.le_of_ble_eq_true rfl) dL_law_727) ?_
  refine g_icmp_eq (pc := 730) C.1 1292 dL_law_730 rfl (fun _ => ?_) (fun h => absurd rfl h)
  exact g_widen (Nat.le_succ nc) (Nat.le_add_right ns 6) (kq X m2 o hR2)
theorem lc_16 {Z : Cx} {G : Gx} {b sb L ii nc ns : Nat} {xs : Nat → Int32} {Q : State → Prop} {X : Nat → Obj} {m o : Obj} (C : LC Z G b sb L xs) (hi : ii + 6 ≤ L) (hc : nc + 1 ≤ 601024) (hs : ns + 6 ≤ 7293034) (hR : R X m) (kq : ∀ (X2 : Nat → Obj) (m2 o2 : Obj), R X2 m2 → VG Z b 7 Q (Wd G.1 G.2 b (LW X2 m2 o2)) (nc + 1) (ns + 6) 1292 (lvL b sb ii) []) : VG Z b 7 Q (Wd G.1 G.2 b (LW X m o)) nc ns 735 (lvL b sb ii) [] := by
  obtain ⟨r, X2, m2, h1, h2, hR2⟩ := k_most hR
  refine g_aload_n (pc := 735) C.1 dL_law_735 rfl ?_
  refine gw_kI (pc := 736) (v := r) (M' := LW X2 m o) (gw_cV (pc := 736) (dy := 4) (a := 0) (As := []) C.1 cls11 sh_0 rfl lk_95 wv_X11_most yk_X11_most rfl (Nat.le_of_ble_eq_true rfl) (Nat.le_of_ble_eq_true rfl) (show nc + 0 ≤ 601024 by omega) (show ns + 0 ≤ 7293034 by omega) (tKL_most h1) rfl (Nat.le_of_ble_eq_true rfl) dL_law_736) ?_
  refine g_aload_n (pc := 739) C.1 dL_law_739 rfl ?_
  refine gw_kI (pc := 740) (v := r) (M' := LW X2 m2 o) (gw_cV (pc := 740) (dy := 4) (a := 225) (As := []) C.1 cls12 sh_225 rfl lk_98 wv_X12_most yk_X12_most rfl (Nat.le_of_ble_eq_true rfl) (Nat.le_of_ble_eq_true rfl) (show nc + 0 ≤ 601024 by omega) (show ns + 0 ≤ 7293034 by omega) (tMo_most h2) rfl (Nat.le_of_ble_eq_true rfl) dL_law_740) ?_
  refine g_icmp_eq (pc := 743) C.1 1292 dL_law_743 rfl (fun _ => ?_) (fun h => absurd rfl h)
  exact g_widen (Nat.le_succ nc) (Nat.le_add_right ns 6) (kq X2 m2 o hR2)
theorem lc_17 {Z : Cx} {G : Gx} {b sb L ii nc ns : Nat} {xs : Nat → Int32} {Q : State → Prop} {X : Nat → Obj} {m o : Obj} (C : LC Z G b sb L xs) (hi : ii + 6 ≤ L) (hc : nc + 1 ≤ 601024) (hs : ns + 6 ≤ 7293034) (hR : R X m) (kq : ∀ (X2 : Nat → Obj) (m2 o2 : Obj), R X2 m2 → VG Z b 7 Q (Wd G.1 G.2 b (LW X2 m2 o2)) (nc + 1) (ns + 6) 1292 (lvL b sb ii) []) : VG Z b 7 Q (Wd G.1 G.2 b (LW X m o)) nc ns 748 (lvL b sb ii) [] := by
  obtain ⟨r, m2, h1, h2, hR2⟩ := k_those hR
  refine g_aload_n (pc := 748) C.1 dL_law_748 rfl ?_
  refine gw_kI (pc := 749) (v := r) (M' := LW X m o) (gw_cV (pc := 749) (dy := 0) (a := 0) (As := []) C.1 cls11 sh_0 rfl lk_99 wv_X11_those yk_X11_those rfl (Nat.le_of_ble_eq_true rfl) (Nat.le_of_ble_eq_true rfl) (show nc + 0 ≤ 601024 by omega) (show ns + 0 ≤ 7293034 by omega) (tKL_those h1) rfl (Nat.le_of_ble_eq_true rfl) dL_law_749) ?_
  refine g_aload_n (pc := 752) C.1 dL_law_752 rfl ?_
  refine gw_kI (pc := 753) (v := r) (M' := LW X m2 o) (gw_cV (pc := 753) (dy := 0) (a := 225) (As := []) C.1 cls12 sh_225 rfl lk_102 wv_X12_those yk_X12_those rfl (Nat.le_of_ble_eq_true rfl) (Nat.le_of_ble_eq_true rfl) (show nc + 0 ≤ 601024 by omega) (show ns + 0 ≤ 7293034 by omega) (tMo_those h2) rfl (Nat.le_of_ble_eq_true rfl) dL_law_753) ?_
  refine g_icmp_eq (pc := 756) C.1 1292 dL_law_756 rfl (fun _ => ?_) (fun h => absurd rfl h)
  exact g_widen (Nat.le_succ nc) (Nat.le_add_right ns 6) (kq X m2 o hR2)
theorem lc_18 {Z : Cx} {G : Gx} {b sb L ii nc ns : Nat} {xs : Nat → Int32} {Q : State → Prop} {X : Nat → Obj} {m o : Obj} (C : LC Z G b sb L xs) (hi : ii + 6 ≤ L) (hc : nc + 1 ≤ 601024) (hs : ns + 6 ≤ 7293034) (hR : R X m) (kq : ∀ (X2 : Nat → Obj) (m2 o2 : Obj), R X2 m2 → VG Z b 7 Q (Wd G.1 G.2 b (LW X2 m2 o2)) (nc + 1) (ns + 6) 1292 (lvL b sb ii) []) : VG Z b 7 Q (Wd G.1 G.2 b (LW X m o)) nc ns 761 (lvL b sb ii) [] := by
  obtain ⟨r, X2, m2, h1, h2, hR2⟩ := k_chain hR (ar xs ii 1) (ar xs ii 2)
  refine g_aload_n (pc := 761) C.1 dL_law_761 rfl ?_
  refine g_arg (pc := 762) C hi 1 (by decide) (c := 1) (by decide +kernel) (by decide +kernel) rfl rfl dL_law_762 dL_law_763 dL_law_765 dL_law_766 dL_law_767 ?_
  refine g_arg (pc := 768) C hi 2 (by decide) (c := 2) (by decide +kernel) (by decide +kernel) rfl rfl dL_law_768 dL_law_769 dL_law_771 dL_law_772 dL_law_773 ?_
  refine gw_kI (pc := 774) (v := r) (M' := LW X2 m o) (gw_cV (pc := 774) (dy := 4) (a := 0) (As := [.int (ar xs ii 1), .int (ar xs ii 2)]) C.1 cls11 sh_0 rfl lk_103 wv_X11_chain yk_X11_chain rfl (Nat.le_of_ble_eq_true rfl) (Nat.le_of_ble_eq_true rfl) (show nc + 0 ≤ 601024 by omega) (show ns + 0 ≤ 7293034 by omega) (tKL_chain h1) rfl (Nat.le_of_ble_eq_true rfl) dL_law_774) ?_
  refine g_aload_n (pc := 777) C.1 dL_law_777 rfl ?_
  refine g_arg (pc := 778) C hi 1 (by decide) (c := 1) (by decide +kernel) (by decide +kernel) rfl rfl dL_law_778 dL_law_779 dL_law_781 dL_law_782 dL_law_783 ?_
  refine g_arg (pc := 784) C hi 2 (by decide) (c := 2) (by decide +kernel) (by decide +kernel) rfl rfl dL_law_784 dL_law_785 dL_law_787 dL_law_788 dL_law_789 ?_
  refine gw_kI (pc := 790) (v := r) (M' := LW X2 m2 o) (gw_cV (pc := 790) (dy := 2) (a := 225) (As := [.int (ar xs ii 1), .int (ar xs ii 2)]) C.1 cls12 sh_225 rfl lk_106 wv_X12_chain yk_X12_chain rfl (Nat.le_of_ble_eq_true rfl) (Nat.le_of_ble_eq_true rfl) (show nc + 0 ≤ 601024 by omega) (show ns + 0 ≤ 7293034 by omega) (tMo_chain h2) rfl (Nat.le_of_ble_eq_true rfl) dL_law_790) ?_
  refine g_icmp_eq (pc := 793) C.1 1292 dL_law_793 rfl (fun _ => ?_) (fun h => absurd rfl h)
  exact g_widen (Nat.le_succ nc) (Nat.le_add_right ns 6) (kq X2 m2 o hR2)
theorem lc_19 {Z : Cx} {G : Gx} {b sb L ii nc ns : Nat} {xs : Nat → Int32} {Q : State → Prop} {X : Nat → Obj} {m o : Obj} (C : LC Z G b sb L xs) (hi : ii + 6 ≤ L) (hc : nc + 1 ≤ 601024) (hs : ns + 6 ≤ 7293034) (hR : R X m) (kq : ∀ (X2 : Nat → Obj) (m2 o2 : Obj), R X2 m2 → VG Z b 7 Q (Wd G.1 G.2 b (LW X2 m2 o2)) (nc + 1) (ns + 6) 1292 (lvL b sb ii) []) : VG Z b 7 Q (Wd G.1 G.2 b (LW X m o)) nc ns 798 (lvL b sb ii) [] := by
  obtain ⟨r, m2, h1, h2, hR2⟩ := k_chainAt hR (ar xs ii 1)
  refine g_aload_n (pc := 798) C.1 dL_law_798 rfl ?_
  refine g_arg (pc := 799) C hi 1 (by decide) (c := 1) (by decide +kernel) (by decide +kernel) rfl rfl dL_law_799 dL_law_800 dL_law_802 dL_law_803 dL_law_804 ?_
  refine gw_kI (pc := 805) (v := r) (M' := LW X m o) (gw_cV (pc := 805) (dy := 1) (a := 0) (As := [.int (ar xs ii 1)]) C.1 cls11 sh_0 rfl lk_107 wv_X11_chainAt yk_X11_chainAt rfl (Nat.le_of_ble_eq_true rfl) (Nat.le_of_ble_eq_true rfl) (show nc + 0 ≤ 601024 by omega) (show ns + 0 ≤ 7293034 by omega) (tKL_chainAt h1) rfl (Nat.le_of_ble_eq_true rfl) dL_law_805) ?_
  refine g_aload_n (pc := 808) C.1 dL_law_808 rfl ?_
  refine g_arg (pc := 809) C hi 1 (by decide) (c := 1) (by decide +kernel) (by decide +kernel) rfl rfl dL_law_809 dL_law_810 dL_law_812 dL_law_813 dL_law_814 ?_
  refine gw_kI (pc := 815) (v := r) (M' := LW X m2 o) (gw_cV (pc := 815) (dy := 1) (a := 225) (As := [.int (ar xs ii 1)]) C.1 cls12 sh_225 rfl lk_110 wv_X12_chainAt yk_X12_chainAt rfl (Nat.le_of_ble_eq_true rfl) (Nat.le_of_ble_eq_true rfl) (show nc + 0 ≤ 601024 by omega) (show ns + 0 ≤ 7293034 by omega) (tMo_chainAt h2) rfl (Nat.le_of_ble_eq_true rfl) dL_law_815) ?_
  refine g_icmp_eq (pc := 818) C.1 1292 dL_law_818 rfl (fun _ => ?_) (fun h => absurd rfl h)
  exact g_widen (Nat.le_succ nc) (Nat.le_add_right ns 6) (kq X m2 o hR2)
theorem lc_20 {Z : Cx} {G : Gx} {b sb L ii nc ns : Nat} {xs : Nat → Int32} {Q : State → Prop} {X : Nat → Obj} {m o : Obj} (C : LC Z G b sb L xs) (hi : ii + 6 ≤ L) (hc : nc + 1 ≤ 601024) (hs : ns + 6 ≤ 7293034) (hR : R X m) (kq : ∀ (X2 : Nat → Obj) (m2 o2 : Obj), R X2 m2 → VG Z b 7 Q (Wd G.1 G.2 b (LW X2 m2 o2)) (nc + 1) (ns + 6) 1292 (lvL b sb ii) []) : VG Z b 7 Q (Wd G.1 G.2 b (LW X m o)) nc ns 823 (lvL b sb ii) [] := by
  obtain ⟨r, X2, m2, h1, h2, hR2⟩ := k_who hR
  refine g_aload_n (pc := 823) C.1 dL_law_823 rfl ?_
  refine gw_kI (pc := 824) (v := r) (M' := LW X2 m o) (gw_cV (pc := 824) (dy := 3) (a := 0) (As := []) C.1 cls11 sh_0 rfl lk_111 wv_X11_who yk_X11_who rfl (Nat.le_of_ble_eq_true rfl) (Nat.le_of_ble_eq_true rfl) (show nc + 0 ≤ 601024 by omega) (show ns + 0 ≤ 7293034 by omega) (tKL_who h1) rfl (Nat.le_of_ble_eq_true rfl) dL_law_824) ?_
  refine g_aload_n (pc := 827) C.1 dL_law_827 rfl ?_
  refine gw_kI (pc := 828) (v := r) (M' := LW X2 m2 o) (gw_cV (pc := 828) (dy := 2) (a := 225) (As := []) C.1 cls12 sh_225 rfl lk_114 wv_X12_who yk_X12_who rfl (Nat.le_of_ble_eq_true rfl) (Nat.le_of_ble_eq_true rfl) (show nc + 0 ≤ 601024 by omega) (show ns + 0 ≤ 7293034 by omega) (tMo_who h2) rfl (Nat.le_of_ble_eq_true rfl) dL_law_828) ?_
  refine g_icmp_eq (pc := 831) C.1 1292 dL_law_831 rfl (fun _ => ?_) (fun h => absurd rfl h)
  exact g_widen (Nat.le_succ nc) (Nat.le_add_right ns 6) (kq X2 m2 o hR2)
theorem lc_21 {Z : Cx} {G : Gx} {b sb L ii nc ns : Nat} {xs : Nat → Int32} {Q : State → Prop} {X : Nat → Obj} {m o : Obj} (C : LC Z G b sb L xs) (hi : ii + 6 ≤ L) (hc : nc + 1 ≤ 601024) (hs : ns + 6 ≤ 7293034) (hR : R X m) (kq : ∀ (X2 : Nat → Obj) (m2 o2 : Obj), R X2 m2 → VG Z b 7 Q (Wd G.1 G.2 b (LW X2 m2 o2)) (nc + 1) (ns + 6) 1292 (lvL b sb ii) []) : VG Z b 7 Q (Wd G.1 G.2 b (LW X m o)) nc ns 836 (lvL b sb ii) [] := by
  obtain ⟨r, m2, h1, h2, hR2⟩ := k_ask hR
  refine g_aload_n (pc := 836) C.1 dL_law_836 rfl ?_
  refine gw_kI (pc := 837) (v := r) (M' := LW X m o) (gw_cV (pc := 837) (dy := 0) (a := 0) (As := []) C.1 cls11 sh_0 rfl lk_115 wv_X11_ask yk_X11_ask rfl (Nat.le_of_ble_eq_true rfl) (Nat.le_of_ble_eq_true rfl) (show nc + 0 ≤ 601024 by omega) (show ns + 0 ≤ 7293034 by omega) (tKL_ask h1) rfl (Nat.le_of_ble_eq_true rfl) dL_law_837) ?_
  refine g_aload_n (pc := 840) C.1 dL_law_840 rfl ?_
  refine gw_kI (pc := 841) (v := r) (M' := LW X m2 o) (gw_cV (pc := 841) (dy := 0) (a := 225) (As := []) C.1 cls12 sh_225 rfl lk_118 wv_X12_ask yk_X12_ask rfl (Nat.le_of_ble_eq_true rfl) (Nat.le_of_ble_eq_true rfl) (show nc + 0 ≤ 601024 by omega) (show ns + 0 ≤ 7293034 by omega) (tMo_ask h2) rfl (Nat.le_of_ble_eq_true rfl) dL_law_841) ?_
  refine g_icmp_eq (pc := 844) C.1 1292 dL_law_844 rfl (fun _ => ?_) (fun h => absurd rfl h)
  exact g_widen (Nat.le_succ nc) (Nat.le_add_right ns 6) (kq X m2 o hR2)
theorem lc_22 {Z : Cx} {G : Gx} {b sb L ii nc ns : Nat} {xs : Nat → Int32} {Q : State → Prop} {X : Nat → Obj} {m o : Obj} (C : LC Z G b sb L xs) (hi : ii + 6 ≤ L) (hc : nc + 1 ≤ 601024) (hs : ns + 6 ≤ 7293034) (hR : R X m) (kq : ∀ (X2 : Nat → Obj) (m2 o2 : Obj), R X2 m2 → VG Z b 7 Q (Wd G.1 G.2 b (LW X2 m2 o2)) (nc + 1) (ns + 6) 1292 (lvL b sb ii) []) : VG Z b 7 Q (Wd G.1 G.2 b (LW X m o)) nc ns 849 (lvL b sb ii) [] := by
  obtain ⟨r, X2, m2, h1, h2, hR2⟩ := k_opens hR (ar xs ii 1)
  refine g_aload_n (pc := 849) C.1 dL_law_849 rfl ?_
  refine g_arg (pc := 850) C hi 1 (by decide) (c := 1) (by decide +kernel) (by decide +kernel) rfl rfl dL_law_850 dL_law_851 dL_law_853 dL_law_854 dL_law_855 ?_
  refine gw_kI (pc := 856) (v := r) (M' := LW X2 m o) (gw_cV (pc := 856) (dy := 5) (a := 0) (As := [.int (ar xs ii 1)]) C.1 cls11 sh_0 rfl lk_119 wv_X11_opens yk_X11_opens rfl (Nat.le_of_ble_eq_true rfl) (Nat.le_of_ble_eq_true rfl) (show nc + 0 ≤ 601024 by omega) (show ns + 0 ≤ 7293034 by omega) (tKL_opens h1) rfl (Nat.le_of_ble_eq_true rfl) dL_law_856) ?_
  refine g_aload_n (pc := 859) C.1 dL_law_859 rfl ?_
  refine g_arg (pc := 860) C hi 1 (by decide) (c := 1) (by decide +kernel) (by decide +kernel) rfl rfl dL_law_860 dL_law_861 dL_law_863 dL_law_864 dL_law_865 ?_
  refine gw_kI (pc := 866) (v := r) (M' := LW X2 m2 o) (gw_cV (pc := 866) (dy := 5) (a := 225) (As := [.int (ar xs ii 1)]) C.1 cls12 sh_225 rfl lk_122 wv_X12_opens yk_X12_opens rfl (Nat.le_of_ble_eq_true rfl) (Nat.le_of_ble_eq_true rfl) (show nc + 0 ≤ 601024 by omega) (show ns + 0 ≤ 7293034 by omega) (tMo_opens h2) rfl (Nat.le_of_ble_eq_true rfl) dL_law_866) ?_
  refine g_icmp_eq (pc := 869) C.1 1292 dL_law_869 rfl (fun _ => ?_) (fun h => absurd rfl h)
  exact g_widen (Nat.le_succ nc) (Nat.le_add_right ns 6) (kq X2 m2 o hR2)
theorem lc_23 {Z : Cx} {G : Gx} {b sb L ii nc ns : Nat} {xs : Nat → Int32} {Q : State → Prop} {X : Nat → Obj} {m o : Obj} (C : LC Z G b sb L xs) (hi : ii + 6 ≤ L) (hc : nc + 1 ≤ 601024) (hs : ns + 6 ≤ 7293034) (hR : R X m) (kq : ∀ (X2 : Nat → Obj) (m2 o2 : Obj), R X2 m2 → VG Z b 7 Q (Wd G.1 G.2 b (LW X2 m2 o2)) (nc + 1) (ns + 6) 1292 (lvL b sb ii) []) : VG Z b 7 Q (Wd G.1 G.2 b (LW X m o)) nc ns 874 (lvL b sb ii) [] := by
  obtain ⟨r, X2, m2, h1, h2, hR2⟩ := k_known hR
  refine g_aload_n (pc := 874) C.1 dL_law_874 rfl ?_
  refine gw_kI (pc := 875) (v := r) (M' := LW X2 m o) (gw_cV (pc := 875) (dy := 5) (a := 0) (As := []) C.1 cls11 sh_0 rfl lk_123 wv_X11_known yk_X11_known rfl (Nat.le_of_ble_eq_true rfl) (Nat.le_of_ble_eq_true rfl) (show nc + 0 ≤ 601024 by omega) (show ns + 0 ≤ 7293034 by omega) (tKL_known h1) rfl (Nat.le_of_ble_eq_true rfl) dL_law_875) ?_
  refine g_aload_n (pc := 878) C.1 dL_law_878 rfl ?_
  refine gw_kI (pc := 879) (v := r) (M' := LW X2 m2 o) (gw_cV (pc := 879) (dy := 5) (a := 225) (As := []) C.1 cls12 sh_225 rfl lk_126 wv_X12_known yk_X12_known rfl (Nat.le_of_ble_eq_true rfl) (Nat.le_of_ble_eq_true rfl) (show nc + 0 ≤ 601024 by omega) (show ns + 0 ≤ 7293034 by omega) (tMo_known h2) rfl (Nat.le_of_ble_eq_true rfl) dL_law_879) ?_
  refine g_icmp_eq (pc := 882) C.1 1292 dL_law_882 rfl (fun _ => ?_) (fun h => absurd rfl h)
  exact g_widen (Nat.le_succ nc) (Nat.le_add_right ns 6) (kq X2 m2 o hR2)
theorem lc_24 {Z : Cx} {G : Gx} {b sb L ii nc ns : Nat} {xs : Nat → Int32} {Q : State → Prop} {X : Nat → Obj} {m o : Obj} (C : LC Z G b sb L xs) (hi : ii + 6 ≤ L) (hc : nc + 1 ≤ 601024) (hs : ns + 6 ≤ 7293034) (hR : R X m) (kq : ∀ (X2 : Nat → Obj) (m2 o2 : Obj), R X2 m2 → VG Z b 7 Q (Wd G.1 G.2 b (LW X2 m2 o2)) (nc + 1) (ns + 6) 1292 (lvL b sb ii) []) : VG Z b 7 Q (Wd G.1 G.2 b (LW X m o)) nc ns 887 (lvL b sb ii) [] := by
  obtain ⟨r, X2, m2, h1, h2, hR2⟩ := k_meet hR (ar xs ii 1) (ar xs ii 2)
  refine g_aload_n (pc := 887) C.1 dL_law_887 rfl ?_
  refine g_arg (pc := 888) C hi 1 (by decide) (c := 1) (by decide +kernel) (by decide +kernel) rfl rfl dL_law_888 dL_law_889 dL_law_891 dL_law_892 dL_law_893 ?_
  refine g_arg (pc := 894) C hi 2 (by decide) (c := 2) (by decide +kernel) (by decide +kernel) rfl rfl dL_law_894 dL_law_895 dL_law_897 dL_law_898 dL_law_899 ?_
  refine gw_kI (pc := 900) (v := r) (M' := LW X2 m o) (gw_cV (pc := 900) (dy := 5) (a := 0) (As := [.int (ar xs ii 1), .int (ar xs ii 2)]) C.1 cls11 sh_0 rfl lk_127 wv_X11_meet yk_X11_meet rfl (Nat.le_of_ble_eq_true rfl) (Nat.le_of_ble_eq_true rfl) (show nc + 0 ≤ 601024 by omega) (show ns + 0 ≤ 7293034 by omega) (tKL_meet h1) rfl (Nat.le_of_ble_eq_true rfl) dL_law_900) ?_
  refine g_aload_n (pc := 903) C.1 dL_law_903 rfl ?_
  refine g_arg (pc := 904) C hi 1 (by decide) (c := 1) (by decide +kernel) (by decide +kernel) rfl rfl dL_law_904 dL_law_905 dL_law_907 dL_law_908 dL_law_909 ?_
  refine g_arg (pc := 910) C hi 2 (by decide) (c := 2) (by decide +kernel) (by decide +kernel) rfl rfl dL_law_910 dL_law_911 dL_law_913 dL_law_914 dL_law_915 ?_
  refine gw_kI (pc := 916) (v := r) (M' := LW X2 m2 o) (gw_cV (pc := 916) (dy := 5) (a := 225) (As := [.int (ar xs ii 1), .int (ar xs ii 2)]) C.1 cls12 sh_225 rfl lk_130 wv_X12_meet yk_X12_meet rfl (Nat.le_of_ble_eq_true rfl) (Nat.le_of_ble_eq_true rfl) (show nc + 0 ≤ 601024 by omega) (show ns + 0 ≤ 7293034 by omega) (tMo_meet h2) rfl (Nat.le_of_ble_eq_true rfl) dL_law_916) ?_
  refine g_icmp_eq (pc := 919) C.1 1292 dL_law_919 rfl (fun _ => ?_) (fun h => absurd rfl h)
  exact g_widen (Nat.le_succ nc) (Nat.le_add_right ns 6) (kq X2 m2 o hR2)
theorem lc_25 {Z : Cx} {G : Gx} {b sb L ii nc ns : Nat} {xs : Nat → Int32} {Q : State → Prop} {X : Nat → Obj} {m o : Obj} (C : LC Z G b sb L xs) (hi : ii + 6 ≤ L) (hc : nc + 1 ≤ 601024) (hs : ns + 6 ≤ 7293034) (hR : R X m) (kq : ∀ (X2 : Nat → Obj) (m2 o2 : Obj), R X2 m2 → VG Z b 7 Q (Wd G.1 G.2 b (LW X2 m2 o2)) (nc + 1) (ns + 6) 1292 (lvL b sb ii) []) : VG Z b 7 Q (Wd G.1 G.2 b (LW X m o)) nc ns 924 (lvL b sb ii) [] := by
  obtain ⟨r, m2, h1, h2, hR2⟩ := k_busiest hR
  refine g_aload_n (pc := 924) C.1 dL_law_924 rfl ?_
  refine gw_kI (pc := 925) (v := r) (M' := LW X m o) (gw_cV (pc := 925) (dy := 1) (a := 0) (As := []) C.1 cls11 sh_0 rfl lk_131 wv_X11_busiest yk_X11_busiest rfl (Nat.le_of_ble_eq_true rfl) (Nat.le_of_ble_eq_true rfl) (show nc + 0 ≤ 601024 by omega) (show ns + 0 ≤ 7293034 by omega) (tKL_busiest h1) rfl (Nat.le_of_ble_eq_true rfl) dL_law_925) ?_
  refine g_aload_n (pc := 928) C.1 dL_law_928 rfl ?_
  refine gw_kI (pc := 929) (v := r) (M' := LW X m2 o) (gw_cV (pc := 929) (dy := 0) (a := 225) (As := []) C.1 cls12 sh_225 rfl lk_134 wv_X12_busiest yk_X12_busiest rfl (Nat.le_of_ble_eq_true rfl) (Nat.le_of_ble_eq_true rfl) (show nc + 0 ≤ 601024 by omega) (show ns + 0 ≤ 7293034 by omega) (tMo_busiest h2) rfl (Nat.le_of_ble_eq_true rfl) dL_law_929) ?_
  refine g_icmp_eq (pc := 932) C.1 1292 dL_law_932 rfl (fun _ => ?_) (fun h => absurd rfl h)
  exact g_widen (Nat.le_succ nc) (Nat.le_add_right ns 6) (kq X m2 o hR2)
theorem lc_27 {Z : Cx} {G : Gx} {b sb L ii nc ns : Nat} {xs : Nat → Int32} {Q : State → Prop} {X : Nat → Obj} {m o : Obj} (C : LC Z G b sb L xs) (hi : ii + 6 ≤ L) (hc : nc + 1 ≤ 601024) (hs : ns + 6 ≤ 7293034) (hR : R X m) (kq : ∀ (X2 : Nat → Obj) (m2 o2 : Obj), R X2 m2 → VG Z b 7 Q (Wd G.1 G.2 b (LW X2 m2 o2)) (nc + 1) (ns + 6) 1292 (lvL b sb ii) []) : VG Z b 7 Q (Wd G.1 G.2 b (LW X m o)) nc ns 993 (lvL b sb ii) [] := by
  obtain ⟨r, X2, m2, h1, h2, hR2⟩ := k_tag hR (ar xs ii 1)
  refine g_aload_n (pc := 993) C.1 dL_law_993 rfl ?_
  refine g_arg (pc := 994) C hi 1 (by decide) (c := 1) (by decide +kernel) (by decide +kernel) rfl rfl dL_law_994 dL_law_995 dL_law_997 dL_law_998 dL_law_999 ?_
  refine gw_kI (pc := 1000) (v := r) (M' := LW X2 m o) (gw_cV (pc := 1000) (dy := 8) (a := 0) (As := [.int (ar xs ii 1)]) C.1 cls11 sh_0 rfl lk_139 wv_X11_tag yk_X11_tag rfl (Nat.le_of_ble_eq_true rfl) (Nat.le_of_ble_eq_true rfl) (show nc + 0 ≤ 601024 by omega) (show ns + 0 ≤ 7293034 by omega) (tKL_tag h1) rfl (Nat.le_of_ble_eq_true rfl) dL_law_1000) ?_
  refine g_aload_n (pc := 1003) C.1 dL_law_1003 rfl ?_
  refine g_arg (pc := 1004) C hi 1 (by decide) (c := 1) (by decide +kernel) (by decide +kernel) rfl rfl dL_law_1004 dL_law_1005 dL_law_1007 dL_law_1008 dL_law_1009 ?_
  refine gw_kI (pc := 1010) (v := r) (M' := LW X2 m2 o) (gw_cV (pc := 1010) (dy := 3) (a := 225) (As := [.int (ar xs ii 1)]) C.1 cls12 sh_225 rfl lk_142 wv_X12_tag yk_X12_tag rfl (Nat.le_of_ble_eq_true rfl) (Nat.le_of_ble_eq_true rfl) (show nc + 0 ≤ 601024 by omega) (show ns + 0 ≤ 7293034 by omega) (tMo_tag h2) rfl (Nat.le_of_ble_eq_true rfl) dL_law_1010) ?_
  refine g_icmp_eq (pc := 1013) C.1 1292 dL_law_1013 rfl (fun _ => ?_) (fun h => absurd rfl h)
  exact g_widen (Nat.le_succ nc) (Nat.le_add_right ns 6) (kq X2 m2 o hR2)
theorem lc_28 {Z : Cx} {G : Gx} {b sb L ii nc ns : Nat} {xs : Nat → Int32} {Q : State → Prop} {X : Nat → Obj} {m o : Obj} (C : LC Z G b sb L xs) (hi : ii + 6 ≤ L) (hc : nc + 1 ≤ 601024) (hs : ns + 6 ≤ 7293034) (hR : R X m) (kq : ∀ (X2 : Nat → Obj) (m2 o2 : Obj), R X2 m2 → VG Z b 7 Q (Wd G.1 G.2 b (LW X2 m2 o2)) (nc + 1) (ns + 6) 1292 (lvL b sb ii) []) : VG Z b 7 Q (Wd G.1 G.2 b (LW X m o)) nc ns 1018 (lvL b sb ii) [] := by
  obtain ⟨r, m2, h1, h2, hR2⟩ := k_byteAt hR (ar xs ii 1)
  refine g_aload_n (pc := 1018) C.1 dL_law_1018 rfl ?_
  refine g_arg (pc := 1019) C hi 1 (by decide) (c := 1) (by decide +kernel) (by decide +kernel) rfl rfl dL_law_1019 dL_law_1020 dL_law_1022 dL_law_1023 dL_law_1024 ?_
  refine gw_kI (pc := 1025) (v := r) (M' := LW X m o) (gw_cV (pc := 1025) (dy := 1) (a := 0) (As := [.int (ar xs ii 1)]) C.1 cls11 sh_0 rfl lk_143 wv_X11_byteAt yk_X11_byteAt rfl (Nat.le_of_ble_eq_true rfl) (Nat.le_of_ble_eq_true rfl) (show nc + 0 ≤ 601024 by omega) (show ns + 0 ≤ 7293034 by omega) (tKL_byteAt h1) rfl (Nat.le_of_ble_eq_true rfl) dL_law_1025) ?_
  refine g_aload_n (pc := 1028) C.1 dL_law_1028 rfl ?_
  refine g_arg (pc := 1029) C hi 1 (by decide) (c := 1) (by decide +kernel) (by decide +kernel) rfl rfl dL_law_1029 dL_law_1030 dL_law_1032 dL_law_1033 dL_law_1034 ?_
  refine gw_kI (pc := 1035) (v := r) (M' := LW X m2 o) (gw_cV (pc := 1035) (dy := 1) (a := 225) (As := [.int (ar xs ii 1)]) C.1 cls12 sh_225 rfl lk_146 wv_X12_byteAt yk_X12_byteAt rfl (Nat.le_of_ble_eq_true rfl) (Nat.le_of_ble_eq_true rfl) (show nc + 0 ≤ 601024 by omega) (show ns + 0 ≤ 7293034 by omega) (tMo_byteAt h2) rfl (Nat.le_of_ble_eq_true rfl) dL_law_1035) ?_
  refine g_icmp_eq (pc := 1038) C.1 1292 dL_law_1038 rfl (fun _ => ?_) (fun h => absurd rfl h)
  exact g_widen (Nat.le_succ nc) (Nat.le_add_right ns 6) (kq X m2 o hR2)
theorem lc_29 {Z : Cx} {G : Gx} {b sb L ii nc ns : Nat} {xs : Nat → Int32} {Q : State → Prop} {X : Nat → Obj} {m o : Obj} (C : LC Z G b sb L xs) (hi : ii + 6 ≤ L) (hc : nc + 1 ≤ 601024) (hs : ns + 6 ≤ 7293034) (hR : R X m) (kq : ∀ (X2 : Nat → Obj) (m2 o2 : Obj), R X2 m2 → VG Z b 7 Q (Wd G.1 G.2 b (LW X2 m2 o2)) (nc + 1) (ns + 6) 1292 (lvL b sb ii) []) : VG Z b 7 Q (Wd G.1 G.2 b (LW X m o)) nc ns 1043 (lvL b sb ii) [] := by
  obtain ⟨r, X2, m2, h1, h2, hR2⟩ := k_drawn hR (ar xs ii 1) (ar xs ii 2)
  refine g_aload_n (pc := 1043) C.1 dL_law_1043 rfl ?_
  refine g_arg (pc := 1044) C hi 1 (by decide) (c := 1) (by decide +kernel) (by decide +kernel) rfl rfl dL_law_1044 dL_law_1045 dL_law_1047 dL_law_1048 dL_law_1049 ?_
  refine g_arg (pc := 1050) C hi 2 (by decide) (c := 2) (by decide +kernel) (by decide +kernel) rfl rfl dL_law_1050 dL_law_1051 dL_law_1053 dL_law_1054 dL_law_1055 ?_
  refine gw_kI (pc := 1056) (v := r) (M' := LW X2 m o) (gw_cV (pc := 1056) (dy := 6) (a := 0) (As := [.int (ar xs ii 1), .int (ar xs ii 2)]) C.1 cls11 sh_0 rfl lk_147 wv_X11_drawn yk_X11_drawn rfl (Nat.le_of_ble_eq_true rfl) (Nat.le_of_ble_eq_true rfl) (show nc + 0 ≤ 601024 by omega) (show ns + 0 ≤ 7293034 by omega) (tKL_drawn h1) rfl (Nat.le_of_ble_eq_true rfl) dL_law_1056) ?_
  refine g_aload_n (pc := 1059) C.1 dL_law_1059 rfl ?_
  refine g_arg (pc := 1060) C hi 1 (by decide) (c := 1) (by decide +kernel) (by decide +kernel) rfl rfl dL_law_1060 dL_law_1061 dL_law_1063 dL_law_1064 dL_law_1065 ?_
  refine g_arg (pc := 1066) C hi 2 (by decide) (c := 2) (by decide +kernel) (by decide +kernel) rfl rfl dL_law_1066 dL_law_1067 dL_law_1069 dL_law_1070 dL_law_1071 ?_
  refine gw_kI (pc := 1072) (v := r) (M' := LW X2 m2 o) (gw_cV (pc := 1072) (dy := 6) (a := 225) (As := [.int (ar xs ii 1), .int (ar xs ii 2)]) C.1 cls12 sh_225 rfl lk_150 wv_X12_drawn yk_X12_drawn rfl (Nat.le_of_ble_eq_true rfl) (Nat.le_of_ble_eq_true rfl) (show nc + 0 ≤ 601024 by omega) (show ns + 0 ≤ 7293034 by omega) (tMo_drawn h2) rfl (Nat.le_of_ble_eq_true rfl) dL_law_1072) ?_
  refine g_icmp_eq (pc := 1075) C.1 1292 dL_law_1075 rfl (fun _ => ?_) (fun h => absurd rfl h)
  exact g_widen (Nat.le_succ nc) (Nat.le_add_right ns 6) (kq X2 m2 o hR2)
theorem lc_30 {Z : Cx} {G : Gx} {b sb L ii nc ns : Nat} {xs : Nat → Int32} {Q : State → Prop} {X : Nat → Obj} {m o : Obj} (C : LC Z G b sb L xs) (hi : ii + 6 ≤ L) (hc : nc + 1 ≤ 601024) (hs : ns + 6 ≤ 7293034) (hR : R X m) (kq : ∀ (X2 : Nat → Obj) (m2 o2 : Obj), R X2 m2 → VG Z b 7 Q (Wd G.1 G.2 b (LW X2 m2 o2)) (nc + 1) (ns + 6) 1292 (lvL b sb ii) []) : VG Z b 7 Q (Wd G.1 G.2 b (LW X m o)) nc ns 1080 (lvL b sb ii) [] := by
  obtain ⟨r, X2, m2, h1, h2, hR2⟩ := k_odds hR (ar xs ii 1) (ar xs ii 2) (ar xs ii 3)
  refine g_aload_n (pc := 1080) C.1 dL_law_1080 rfl ?_
  refine g_arg (pc := 1081) C hi 1 (by decide) (c := 1) (by decide +kernel) (by decide +kernel) rfl rfl dL_law_1081 dL_law_1082 dL_law_1084 dL_law_1085 dL_law_1086 ?_
  refine g_arg (pc := 1087) C hi 2 (by decide) (c := 2) (by decide +kernel) (by decide +kernel) rfl rfl dL_law_1087 dL_law_1088 dL_law_1090 dL_law_1091 dL_law_1092 ?_
  refine g_arg (pc := 1093) C hi 3 (by decide) (c := 3) (by decide +kernel) (by decide +kernel) rfl rfl dL_law_1093 dL_law_1094 dL_law_1096 dL_law_1097 dL_law_1098 ?_
  refine gw_kI (pc := 1099) (v := r) (M' := LW X2 m o) (gw_cV (pc := 1099) (dy := 6) (a := 0) (As := [.int (ar xs ii 1), .int (ar xs ii 2), .int (ar xs ii 3)]) C.1 cls11 sh_0 rfl lk_151 wv_X11_odds yk_X11_odds rfl (Nat.le_of_ble_eq_true rfl) (Nat.le_of_ble_eq_true rfl) (show nc + 0 ≤ 601024 by omega) (show ns + 0 ≤ 7293034 by omega) (tKL_odds h1) rfl (Nat.le_of_ble_eq_true rfl) dL_law_1099) ?_
  refine g_aload_n (pc := 1102) C.1 dL_law_1102 rfl ?_
  refine g_arg (pc := 1103) C hi 1 (by decide) (c := 1) (by decide +kernel) (by decide +kernel) rfl rfl dL_law_1103 dL_law_1104 dL_law_1106 dL_law_1107 dL_law_1108 ?_
  refine g_arg (pc := 1109) C hi 2 (by decide) (c := 2) (by decide +kernel) (by decide +kernel) rfl rfl dL_law_1109 dL_law_1110 dL_law_1112 dL_law_1113 dL_law_1114 ?_
  refine g_arg (pc := 1115) C hi 3 (by decide) (c := 3) (by decide +kernel) (by decide +kernel) rfl rfl dL_law_1115 dL_law_1116 dL_law_1118 dL_law_1119 dL_law_1120 ?_
  refine gw_kI (pc := 1121) (v := r) (M' := LW X2 m2 o) (gw_cV (pc := 1121) (dy := 6) (a := 225) (As := [.int (ar xs ii 1), .int (ar xs ii 2), .int (ar xs ii 3)]) C.1 cls12 sh_225 rfl lk_155 wv_X12_odds yk_X12_odds rfl (Nat.le_of_ble_eq_true rfl) (Nat.le_of_ble_eq_true rfl) (show nc + 0 ≤ 601024 by omega) (show ns + 0 ≤ 7293034 by omega) (tMo_odds h2) rfl (Nat.le_of_ble_eq_true rfl) dL_law_1121) ?_
  refine g_icmp_eq (pc := 1124) C.1 1292 dL_law_1124 rfl (fun _ => ?_) (fun h => absurd rfl h)
  exact g_widen (Nat.le_succ nc) (Nat.le_add_right ns 6) (kq X2 m2 o hR2)
theorem lc_31 {Z : Cx} {G : Gx} {b sb L ii nc ns : Nat} {xs : Nat → Int32} {Q : State → Prop} {X : Nat → Obj} {m o : Obj} (C : LC Z G b sb L xs) (hi : ii + 6 ≤ L) (hc : nc + 1 ≤ 601024) (hs : ns + 6 ≤ 7293034) (hR : R X m) (kq : ∀ (X2 : Nat → Obj) (m2 o2 : Obj), R X2 m2 → VG Z b 7 Q (Wd G.1 G.2 b (LW X2 m2 o2)) (nc + 1) (ns + 6) 1292 (lvL b sb ii) []) : VG Z b 7 Q (Wd G.1 G.2 b (LW X m o)) nc ns 1129 (lvL b sb ii) [] := by
  obtain ⟨r, X2, m2, h1, h2, hR2⟩ := k_book hR (ar xs ii 1)
  refine g_aload_n (pc := 1129) C.1 dL_law_1129 rfl ?_
  refine g_arg (pc := 1130) C hi 1 (by decide) (c := 1) (by decide +kernel) (by decide +kernel) rfl rfl dL_law_1130 dL_law_1131 dL_law_1133 dL_law_1134 dL_law_1135 ?_
  refine gw_kI (pc := 1136) (v := r) (M' := LW X2 m o) (gw_cV (pc := 1136) (dy := 7) (a := 0) (As := [.int (ar xs ii 1)]) C.1 cls11 sh_0 rfl lk_156 wv_X11_book yk_X11_book rfl (Nat.le_of_ble_eq_true rfl) (Nat.le_of_ble_eq_true rfl) (show nc + 0 ≤ 601024 by omega) (show ns + 0 ≤ 7293034 by omega) (tKL_book h1) rfl (Nat.le_of_ble_eq_true rfl) dL_law_1136) ?_
  refine g_aload_n (pc := 1139) C.1 dL_law_1139 rfl ?_
  refine g_arg (pc := 1140) C hi 1 (by decide) (c := 1) (by decide +kernel) (by decide +kernel) rfl rfl dL_law_1140 dL_law_1141 dL_law_1143 dL_law_1144 dL_law_1145 ?_
  refine gw_kI (pc := 1146) (v := r) (M' := LW X2 m2 o) (gw_cV (pc := 1146) (dy := 7) (a := 225) (As := [.int (ar xs ii 1)]) C.1 cls12 sh_225 rfl lk_159 wv_X12_book yk_X12_book rfl (Nat.le_of_ble_eq_true rfl) (Nat.le_of_ble_eq_true rfl) (show nc + 0 ≤ 601024 by omega) (show ns + 0 ≤ 7293034 by omega) (tMo_book h2) rfl (Nat.le_of_ble_eq_true rfl) dL_law_1146) ?_
  refine g_icmp_eq (pc := 1149) C.1 1292 dL_law_1149 rfl (fun _ => ?_) (fun h => absurd rfl h)
  exact g_widen (Nat.le_succ nc) (Nat.le_add_right ns 6) (kq X2 m2 o hR2)
theorem lc_32 {Z : Cx} {G : Gx} {b sb L ii nc ns : Nat} {xs : Nat → Int32} {Q : State → Prop} {X : Nat → Obj} {m o : Obj} (C : LC Z G b sb L xs) (hi : ii + 6 ≤ L) (hc : nc + 1 ≤ 601024) (hs : ns + 6 ≤ 7293034) (hR : R X m) (kq : ∀ (X2 : Nat → Obj) (m2 o2 : Obj), R X2 m2 → VG Z b 7 Q (Wd G.1 G.2 b (LW X2 m2 o2)) (nc + 1) (ns + 6) 1292 (lvL b sb ii) []) : VG Z b 7 Q (Wd G.1 G.2 b (LW X m o)) nc ns 1154 (lvL b sb ii) [] := by
  obtain ⟨r, m2, h1, h2, hR2⟩ := k_told hR (ar xs ii 1)
  refine g_aload_n (pc := 1154) C.1 dL_law_1154 rfl ?_
  refine g_arg (pc := 1155) C hi 1 (by decide) (c := 1) (by decide +kernel) (by decide +kernel) rfl rfl dL_law_1155 dL_law_1156 dL_law_1158 dL_law_1159 dL_law_1160 ?_
  refine gw_kI (pc := 1161) (v := r) (M' := LW X m o) (gw_cV (pc := 1161) (dy := 1) (a := 0) (As := [.int (ar xs ii 1)]) C.1 cls11 sh_0 rfl lk_160 wv_X11_told yk_X11_told rfl (Nat.le_of_ble_eq_true rfl) (Nat.le_of_ble_eq_true rfl) (show nc + 0 ≤ 601024 by omega) (show ns + 0 ≤ 7293034 by omega) (tKL_told h1) rfl (Nat.le_of_ble_eq_true rfl) dL_law_1161) ?_
  refine g_aload_n (pc := 1164) C.1 dL_law_1164 rfl ?_
  refine g_arg (pc := 1165) C hi 1 (by decide) (c := 1) (by decide +kernel) (by decide +kernel) rfl rfl dL_law_1165 dL_law_1166 dL_law_1168 dL_law_1169 dL_law_1170 ?_
  refine gw_kI (pc := 1171) (v := r) (M' := LW X m2 o) (gw_cV (pc := 1171) (dy := 1) (a := 225) (As := [.int (ar xs ii 1)]) C.1 cls12 sh_225 rfl lk_163 wv_X12_told yk_X12_told rfl (Nat.le_of_ble_eq_true rfl) (Nat.le_of_ble_eq_true rfl) (show nc + 0 ≤ 601024 by omega) (show ns + 0 ≤ 7293034 by omega) (tMo_told h2) rfl (Nat.le_of_ble_eq_true rfl) dL_law_1171) ?_
  refine g_icmp_eq (pc := 1174) C.1 1292 dL_law_1174 rfl (fun _ => ?_) (fun h => absurd rfl h)
  exact g_widen (Nat.le_succ nc) (Nat.le_add_right ns 6) (kq X m2 o hR2)
theorem lc_33 {Z : Cx} {G : Gx} {b sb L ii nc ns : Nat} {xs : Nat → Int32} {Q : State → Prop} {X : Nat → Obj} {m o : Obj} (C : LC Z G b sb L xs) (hi : ii + 6 ≤ L) (hc : nc + 1 ≤ 601024) (hs : ns + 6 ≤ 7293034) (hR : R X m) (kq : ∀ (X2 : Nat → Obj) (m2 o2 : Obj), R X2 m2 → VG Z b 7 Q (Wd G.1 G.2 b (LW X2 m2 o2)) (nc + 1) (ns + 6) 1292 (lvL b sb ii) []) : VG Z b 7 Q (Wd G.1 G.2 b (LW X m o)) nc ns 1179 (lvL b sb ii) [] := by
  obtain ⟨r, X2, m2, h1, h2, hR2⟩ := k_sentence hR
  refine g_aload_n (pc := 1179) C.1 dL_law_1179 rfl ?_
  refine gw_kI (pc := 1180) (v := r) (M' := LW X2 m o) (gw_cV (pc := 1180) (dy := 54) (a := 0) (As := []) C.1 cls11 sh_0 rfl lk_164 wv_X11_sentence yk_X11_sentence rfl (Nat.le_of_ble_eq_true rfl) (Nat.le_of_ble_eq_true rfl) (show nc + 0 ≤ 601024 by omega) (show ns + 0 ≤ 7293034 by omega) (tKL_sentence h1) rfl (Nat.le_of_ble_eq_true rfl) dL_law_1180) ?_
  refine g_aload_n (pc := 1183) C.1 dL_law_1183 rfl ?_
  refine gw_kI (pc := 1184) (v := r) (M' := LW X2 m2 o) (gw_cV (pc := 1184) (dy := 3) (a := 225) (As := []) C.1 cls12 sh_225 rfl lk_167 wv_X12_sentence yk_X12_sentence rfl (Nat.le_of_ble_eq_true rfl) (Nat.le_of_ble_eq_true rfl) (show nc + 0 ≤ 601024 by omega) (show ns + 0 ≤ 7293034 by omega) (tMo_sentence h2) rfl (Nat.le_of_ble_eq_true rfl) dL_law_1184) ?_
  refine g_icmp_eq (pc := 1187) C.1 1292 dL_law_1187 rfl (fun _ => ?_) (fun h => absurd rfl h)
  exact g_widen (Nat.le_succ nc) (Nat.le_add_right ns 6) (kq X2 m2 o hR2)
theorem lc_34 {Z : Cx} {G : Gx} {b sb L ii nc ns : Nat} {xs : Nat → Int32} {Q : State → Prop} {X : Nat → Obj} {m o : Obj} (C : LC Z G b sb L xs) (hi : ii + 6 ≤ L) (hc : nc + 1 ≤ 601024) (hs : ns + 6 ≤ 7293034) (hR : R X m) (kq : ∀ (X2 : Nat → Obj) (m2 o2 : Obj), R X2 m2 → VG Z b 7 Q (Wd G.1 G.2 b (LW X2 m2 o2)) (nc + 1) (ns + 6) 1292 (lvL b sb ii) []) : VG Z b 7 Q (Wd G.1 G.2 b (LW X m o)) nc ns 1192 (lvL b sb ii) [] := by
  obtain ⟨r, X2, m2, h1, h2, hR2⟩ := k_said hR (ar xs ii 1)
  refine g_aload_n (pc := 1192) C.1 dL_law_1192 rfl ?_
  refine g_arg (pc := 1193) C hi 1 (by decide) (c := 1) (by decide +kernel) (by decide +kernel) rfl rfl dL_law_1193 dL_law_1194 dL_law_1196 dL_law_1197 dL_law_1198 ?_
  refine gw_kI (pc := 1199) (v := r) (M' := LW X2 m o) (gw_cV (pc := 1199) (dy := 6) (a := 0) (As := [.int (ar xs ii 1)]) C.1 cls11 sh_0 rfl lk_168 wv_X11_said yk_X11_said rfl (Nat.le_of_ble_eq_true rfl) (Nat.le_of_ble_eq_true rfl) (show nc + 0 ≤ 601024 by omega) (show ns + 0 ≤ 7293034 by omega) (tKL_said h1) rfl (Nat.le_of_ble_eq_true rfl) dL_law_1199) ?_
  refine g_aload_n (pc := 1202) C.1 dL_law_1202 rfl ?_
  refine g_arg (pc := 1203) C hi 1 (by decide) (c := 1) (by decide +kernel) (by decide +kernel) rfl rfl dL_law_1203 dL_law_1204 dL_law_1206 dL_law_1207 dL_law_1208 ?_
  refine gw_kI (pc := 1209) (v := r) (M' := LW X2 m2 o) (gw_cV (pc := 1209) (dy := 3) (a := 225) (As := [.int (ar xs ii 1)]) C.1 cls12 sh_225 rfl lk_171 wv_X12_said yk_X12_said rfl (Nat.le_of_ble_eq_true rfl) (Nat.le_of_ble_eq_true rfl) (show nc + 0 ≤ 601024 by omega) (show ns + 0 ≤ 7293034 by omega) (tMo_said h2) rfl (Nat.le_of_ble_eq_true rfl) dL_law_1209) ?_
  refine g_icmp_eq (pc := 1212) C.1 1292 dL_law_1212 rfl (fun _ => ?_) (fun h => absurd rfl h)
  exact g_widen (Nat.le_succ nc) (Nat.le_add_right ns 6) (kq X2 m2 o hR2)
theorem lc_35 {Z : Cx} {G : Gx} {b sb L ii nc ns : Nat} {xs : Nat → Int32} {Q : State → Prop} {X : Nat → Obj} {m o : Obj} (C : LC Z G b sb L xs) (hi : ii + 6 ≤ L) (hc : nc + 1 ≤ 601024) (hs : ns + 6 ≤ 7293034) (hR : R X m) (kq : ∀ (X2 : Nat → Obj) (m2 o2 : Obj), R X2 m2 → VG Z b 7 Q (Wd G.1 G.2 b (LW X2 m2 o2)) (nc + 1) (ns + 6) 1292 (lvL b sb ii) []) : VG Z b 7 Q (Wd G.1 G.2 b (LW X m o)) nc ns 1217 (lvL b sb ii) [] := by
  obtain ⟨r, X2, m2, h1, h2, hR2⟩ := k_image hR (ar xs ii 1)
  refine g_aload_n (pc := 1217) C.1 dL_law_1217 rfl ?_
  refine g_arg (pc := 1218) C hi 1 (by decide) (c := 1) (by decide +kernel) (by decide +kernel) rfl rfl dL_law_1218 dL_law_1219 dL_law_1221 dL_law_1222 dL_law_1223 ?_
  refine gw_kI (pc := 1224) (v := r) (M' := LW X2 m o) (gw_cV (pc := 1224) (dy := 3) (a := 0) (As := [.int (ar xs ii 1)]) C.1 cls11 sh_0 rfl lk_172 wv_X11_image yk_X11_image rfl (Nat.le_of_ble_eq_true rfl) (Nat.le_of_ble_eq_true rfl) (show nc + 0 ≤ 601024 by omega) (show ns + 0 ≤ 7293034 by omega) (tKL_image h1) rfl (Nat.le_of_ble_eq_true rfl) dL_law_1224) ?_
  refine g_aload_n (pc := 1227) C.1 dL_law_1227 rfl ?_
  refine g_arg (pc := 1228) C hi 1 (by decide) (c := 1) (by decide +kernel) (by decide +kernel) rfl rfl dL_law_1228 dL_law_1229 dL_law_1231 dL_law_1232 dL_law_1233 ?_
  refine gw_kI (pc := 1234) (v := r) (M' := LW X2 m2 o) (gw_cV (pc := 1234) (dy := 1) (a := 225) (As := [.int (ar xs ii 1)]) C.1 cls12 sh_225 rfl lk_175 wv_X12_image yk_X12_image rfl (Nat.le_of_ble_eq_true rfl) (Nat.le_of_ble_eq_true rfl) (show nc + 0 ≤ 601024 by omega) (show ns + 0 ≤ 7293034 by omega) (tMo_image h2) rfl (Nat.le_of_ble_eq_true rfl) dL_law_1234) ?_
  refine g_icmp_eq (pc := 1237) C.1 1292 dL_law_1237 rfl (fun _ => ?_) (fun h => absurd rfl h)
  exact g_widen (Nat.le_succ nc) (Nat.le_add_right ns 6) (kq X2 m2 o hR2)
theorem lc_36 {Z : Cx} {G : Gx} {b sb L ii nc ns : Nat} {xs : Nat → Int32} {Q : State → Prop} {X : Nat → Obj} {m o : Obj} (C : LC Z G b sb L xs) (hi : ii + 6 ≤ L) (hc : nc + 1 ≤ 601024) (hs : ns + 6 ≤ 7293034) (hR : R X m) (kq : ∀ (X2 : Nat → Obj) (m2 o2 : Obj), R X2 m2 → VG Z b 7 Q (Wd G.1 G.2 b (LW X2 m2 o2)) (nc + 1) (ns + 6) 1292 (lvL b sb ii) []) : VG Z b 7 Q (Wd G.1 G.2 b (LW X m o)) nc ns 1242 (lvL b sb ii) [] := by
  obtain ⟨r, X2, m2, h1, h2, hR2⟩ := k_restore hR (ar xs ii 1)
  refine g_aload_n (pc := 1242) C.1 dL_law_1242 rfl ?_
  refine g_arg (pc := 1243) C hi 1 (by decide) (c := 1) (by decide +kernel) (by decide +kernel) rfl rfl dL_law_1243 dL_law_1244 dL_law_1246 dL_law_1247 dL_law_1248 ?_
  refine gw_kI (pc := 1249) (v := r) (M' := LW X2 m o) (gw_cV (pc := 1249) (dy := 3) (a := 0) (As := [.int (ar xs ii 1)]) C.1 cls11 sh_0 rfl lk_176 wv_X11_restore yk_X11_restore rfl (Nat.le_of_ble_eq_true rfl) (Nat.le_of_ble_eq_true rfl) (show nc + 0 ≤ 601024 by omega) (show ns + 0 ≤ 7293034 by omega) (tKL_restore h1) rfl (Nat.le_of_ble_eq_true rfl) dL_law_1249) ?_
  refine g_aload_n (pc := 1252) C.1 dL_law_1252 rfl ?_
  refine g_arg (pc := 1253) C hi 1 (by decide) (c := 1) (by decide +kernel) (by decide +kernel) rfl rfl dL_law_1253 dL_law_1254 dL_law_1256 dL_law_1257 dL_law_1258 ?_
  refine gw_kI (pc := 1259) (v := r) (M' := LW X2 m2 o) (gw_cV (pc := 1259) (dy := 1) (a := 225) (As := [.int (ar xs ii 1)]) C.1 cls12 sh_225 rfl lk_179 wv_X12_restore yk_X12_restore rfl (Nat.le_of_ble_eq_true rfl) (Nat.le_of_ble_eq_true rfl) (show nc + 0 ≤ 601024 by omega) (show ns + 0 ≤ 7293034 by omega) (tMo_restore h2) rfl (Nat.le_of_ble_eq_true rfl) dL_law_1259) ?_
  refine g_icmp_eq (pc := 1262) C.1 1292 dL_law_1262 rfl (fun _ => ?_) (fun h => absurd rfl h)
  exact g_widen (Nat.le_succ nc) (Nat.le_add_right ns 6) (kq X2 m2 o hR2)
theorem lc_37 {Z : Cx} {G : Gx} {b sb L ii nc ns : Nat} {xs : Nat → Int32} {Q : State → Prop} {X : Nat → Obj} {m o : Obj} (C : LC Z G b sb L xs) (hi : ii + 6 ≤ L) (hc : nc + 1 ≤ 601024) (hs : ns + 6 ≤ 7293034) (hR : R X m) (kq : ∀ (X2 : Nat → Obj) (m2 o2 : Obj), R X2 m2 → VG Z b 7 Q (Wd G.1 G.2 b (LW X2 m2 o2)) (nc + 1) (ns + 6) 1292 (lvL b sb ii) []) : VG Z b 7 Q (Wd G.1 G.2 b (LW X m o)) nc ns 1267 (lvL b sb ii) [] := by
  obtain ⟨r, m2, h1, h2, hR2⟩ := k_count hR (ar xs ii 1)
  refine g_aload_n (pc := 1267) C.1 dL_law_1267 rfl ?_
  refine g_arg (pc := 1268) C hi 1 (by decide) (c := 1) (by decide +kernel) (by decide +kernel) rfl rfl dL_law_1268 dL_law_1269 dL_law_1271 dL_law_1272 dL_law_1273 ?_
  refine gw_kI (pc := 1274) (v := r) (M' := LW X m o) (gw_cV (pc := 1274) (dy := 0) (a := 0) (As := [.int (ar xs ii 1)]) C.1 cls11 sh_0 rfl lk_180 wv_X11_count yk_X11_count rfl (Nat.le_of_ble_eq_true rfl) (Nat.le_of_ble_eq_true rfl) (show nc + 0 ≤ 601024 by omega) (show ns + 0 ≤ 7293034 by omega) (tKL_count h1) rfl (Nat.le_of_ble_eq_true rfl) dL_law_1274) ?_
  refine g_aload_n (pc := 1277) C.1 dL_law_1277 rfl ?_
  refine g_arg (pc := 1278) C hi 1 (by decide) (c := 1) (by decide +kernel) (by decide +kernel) rfl rfl dL_law_1278 dL_law_1279 dL_law_1281 dL_law_1282 dL_law_1283 ?_
  refine gw_kI (pc := 1284) (v := r) (M' := LW X m2 o) (gw_cV (pc := 1284) (dy := 1) (a := 225) (As := [.int (ar xs ii 1)]) C.1 cls12 sh_225 rfl lk_183 wv_X12_count yk_X12_count rfl (Nat.le_of_ble_eq_true rfl) (Nat.le_of_ble_eq_true rfl) (show nc + 0 ≤ 601024 by omega) (show ns + 0 ≤ 7293034 by omega) (tMo_count h2) rfl (Nat.le_of_ble_eq_true rfl) dL_law_1284) ?_
  refine g_icmp_eq (pc := 1287) C.1 1292 dL_law_1287 rfl (fun _ => ?_) (fun h => absurd rfl h)
  exact g_widen (Nat.le_succ nc) (Nat.le_add_right ns 6) (kq X m2 o hR2)
theorem lc_5 {Z : Cx} {G : Gx} {b sb L ii nc ns : Nat} {xs : Nat → Int32} {Q : State → Prop} {X : Nat → Obj} {m o : Obj} (C : LC Z G b sb L xs) (hi : ii + 6 ≤ L) (hc : nc + 1 ≤ 601024) (hs : ns + 6 ≤ 7293034) (hR : R X m) (kq : ∀ (X2 : Nat → Obj) (m2 o2 : Obj), R X2 m2 → VG Z b 7 Q (Wd G.1 G.2 b (LW X2 m2 o2)) (nc + 1) (ns + 6) 1292 (lvL b sb ii) []) : VG Z b 7 Q (Wd G.1 G.2 b (LW X m o)) nc ns 369 (lvL b sb ii) [] := by
  obtain ⟨z, r, m2, h1, h2, hR2, hz⟩ := k_person hR (ar xs ii 1) (ar xs ii 2)
  have hend : ∀ (k : Int32) (o2 : Obj), VG Z b 7 Q (Wd G.1 G.2 b (LW X m2 o2)) (nc + 1) (ns + 6) 434 (lvR b sb ii k r) [] := fun k o2 => g_goto (pc := 434) C.1 1292 dL_law_434 rfl (g_lv (fun i v h => by
    rcases (show i = 0 ∨ i = 1 ∨ i = 2 ∨ i = 3 ∨ i = 4 ∨ i = 5 ∨ i = 6 ∨ 7 ≤ i by omega) with rfl | rfl | rfl | rfl | rfl | rfl | rfl | h7
    · exact h
    · exact h
    · exact h
    · exact h
    · exact h
    · cases h
    · cases h
    · rw [List.getElem?_eq_none (show (lvL b sb ii).length ≤ i from h7)] at h; cases h) (kq X m2 o2 hR2))
  have hmid : ∀ (k : Int32) (o2 : Obj), m2.1 0 0 = k → (k = 1 ∨ (k = 0 ∧ o2.2 0 (Int32.toNatClampNeg 0) = i2l r)) → VG Z b 7 Q (Wd G.1 G.2 b (LW X m o2)) (nc + 1) (ns + 6) 386 (lvL b sb ii) [.int k] := by
    intro k o2 hk hko
    refine g_istore (pc := 386) C.1 dL_law_386 (Nat.le_of_ble_eq_true rfl) rfl ?_
    refine g_aload_n (pc := 388) C.1 dL_law_388 rfl ?_
    refine g_arg (pc := 389) C hi 1 (by decide) (c := 1) (by decide +kernel) (by decide +kernel) rfl rfl dL_law_389 dL_law_390 dL_law_392 dL_law_393 dL_law_394 ?_
    refine g_arg (pc := 395) C hi 2 (by decide) (c := 2) (by decide +kernel) (by decide +kernel) rfl rfl dL_law_395 dL_law_396 dL_law_398 dL_law_399 dL_law_400 ?_
    refine gw_kI (pc := 401) (v := r) (M' := LW X m2 o2) (gw_cV (pc := 401) (dy := 2) (a := 225) (As := [.int (ar xs ii 1), .int (ar xs ii 2)]) C.1 cls12 sh_225 rfl lk_51 wv_X12_person yk_X12_person rfl (Nat.le_of_ble_eq_true rfl) (Nat.le_of_ble_eq_true rfl) (show nc + 1 + 0 ≤ 601024 by omega) (show ns + 6 + 0 ≤ 7293034 by omega) (tMo_person h2) rfl (Nat.le_of_ble_eq_true rfl) dL_law_401) ?_
    refine g_istore (pc := 404) C.1 dL_law_404 (Nat.le_of_ble_eq_true rfl) rfl ?_
    refine g_aload_n (pc := 406) C.1 dL_law_406 rfl ?_
    refine gw_kI (pc := 407) (v := m2.1 0 0) (M' := LW X m2 o2) (gw_cV (pc := 407) (dy := 0) (a := 225) (As := []) C.1 cls12 sh_225 rfl lk_52 wv_X12_thrown yk_X12_thrown rfl (Nat.le_of_ble_eq_true rfl) (Nat.le_of_ble_eq_true rfl) (show nc + 1 + 0 ≤ 601024 by omega) (show ns + 6 + 0 ≤ 7293034 by omega) (tMo_thrown (m := m2) (va_up_self _ _ _) rfl) rfl (Nat.le_of_ble_eq_true rfl) dL_law_407) ?_
    refine g_iload (pc := 410) C.1 dL_law_410 rfl ?_
    refine g_icmp_eq (pc := 412) C.1 417 dL_law_412 rfl (fun _ => ?_) (fun h => absurd hk h)
    refine g_iload (pc := 417) C.1 dL_law_417 rfl ?_
    refine g_if_ne (pc := 419) C.1 434 dL_law_419 rfl (fun h => hend k o2) (fun h => ?_)
    have ho : o2.2 0 (Int32.toNatClampNeg 0) = i2l r := by
      rcases hko with h3 | h3
      · exact absurd (h3.symm.trans h) (by decide)
      · exact h3.2
    refine g_aload_n (pc := 422) C.1 dL_law_422 rfl ?_
    refine g_iconst (pc := 423) C.1 0 dL_law_423 (by decide +kernel) ?_
    refine gw_lald (pc := 424) (s := o2) C.1 sh_244q rfl in01 rfl dL_law_424 ?_
    refine g_iload (pc := 425) C.1 dL_law_425 rfl ?_
    refine g_i2l (pc := 427) C.1 dL_law_427 ?_
    refine g_lcmp (pc := 428) C.1 dL_law_428 ?_
    exact g_if_eq (pc := 429) C.1 434 dL_law_429 rfl (fun _ => hend k o2) (fun h4 => absurd ((lg_cmp_eq _ _).mpr ho) h4)
  refine g_aload_n (pc := 369) C.1 dL_law_369 rfl ?_
  refine g_arg (pc := 370) C hi 1 (by decide) (c := 1) (by decide +kernel) (by decide +kernel) rfl rfl dL_law_370 dL_law_371 dL_law_373 dL_law_374 dL_law_375 ?_
  refine g_arg (pc := 376) C hi 2 (by decide) (c := 2) (by decide +kernel) (by decide +kernel) rfl rfl dL_law_376 dL_law_377 dL_law_379 dL_law_380 dL_law_381 ?_
  refine g_aload_n (pc := 382) C.1 dL_law_382 rfl ?_
  rcases hz with ⟨rfl, e0⟩ | ⟨rfl, e0⟩
  · refine gw_kH (pc := 383) (v := 0) (M' := outW (LW X m o) r) (g_cH (pc := 383) (dy := 7) (mc := 1) (ms := 6) (As := [.ref (b + 0), .int (ar xs ii 1), .int (ar xs ii 2), .ref (b + 244)]) C.1 C.2.2.2.2.2.1 lk_L_person sta_L_person ini_L cdw_L_person yk_L_person rfl (Nat.le_of_ble_eq_true rfl) (Nat.le_of_ble_eq_true rfl) (show nc + 1 ≤ 601024 by omega) (show ns + 6 ≤ 7293034 by omega) (wL_person (d := 0) (XX := X) (YY := va_up (va_up M0 244 o) 225 m) C.2.2.2.2.2.2 h1 ⟨fun r2 h => (by cases h; exact ⟨rfl, rfl⟩), fun h => (by cases h)⟩) rfl (Nat.le_of_ble_eq_true rfl) dL_law_383) ?_
    refine g_toM (outW_LW X m o r) ?_
    exact hmid 0 _ e0 (Or.inr ⟨rfl, va_sL o r⟩)
  · refine gw_kH (pc := 383) (v := 1) (M' := LW X m o) (g_cH (pc := 383) (dy := 7) (mc := 1) (ms := 6) (As := [.ref (b + 0), .int (ar xs ii 1), .int (ar xs ii 2), .ref (b + 244)]) C.1 C.2.2.2.2.2.1 lk_L_person sta_L_person ini_L cdw_L_person yk_L_person rfl (Nat.le_of_ble_eq_true rfl) (Nat.le_of_ble_eq_true rfl) (show nc + 1 ≤ 601024 by omega) (show ns + 6 ≤ 7293034 by omega) (wL_person (d := 0) (XX := X) (YY := va_up (va_up M0 244 o) 225 m) C.2.2.2.2.2.2 h1 ⟨fun r2 h => (by cases h), fun _ => ⟨rfl, rfl⟩⟩) rfl (Nat.le_of_ble_eq_true rfl) dL_law_383) ?_
    exact hmid 1 o e0 (Or.inl rfl)
theorem lc_26 {Z : Cx} {G : Gx} {b sb L ii nc ns : Nat} {xs : Nat → Int32} {Q : State → Prop} {X : Nat → Obj} {m o : Obj} (C : LC Z G b sb L xs) (hi : ii + 6 ≤ L) (hc : nc + 1 ≤ 601024) (hs : ns + 6 ≤ 7293034) (hR : R X m) (kq : ∀ (X2 : Nat → Obj) (m2 o2 : Obj), R X2 m2 → VG Z b 7 Q (Wd G.1 G.2 b (LW X2 m2 o2)) (nc + 1) (ns + 6) 1292 (lvL b sb ii) []) : VG Z b 7 Q (Wd G.1 G.2 b (LW X m o)) nc ns 937 (lvL b sb ii) [] := by
  obtain ⟨z, r, m2, h1, h2, hR2, hz⟩ := k_mean hR (ar xs ii 1)
  have hend : ∀ (k : Int32) (o2 : Obj), VG Z b 7 Q (Wd G.1 G.2 b (LW X m2 o2)) (nc + 1) (ns + 6) 990 (lvR b sb ii k r) [] := fun k o2 => g_goto (pc := 990) C.1 1292 dL_law_990 rfl (g_lv (fun i v h => by
    rcases (show i = 0 ∨ i = 1 ∨ i = 2 ∨ i = 3 ∨ i = 4 ∨ i = 5 ∨ i = 6 ∨ 7 ≤ i by omega) with rfl | rfl | rfl | rfl | rfl | rfl | rfl | h7
    · exact h
    · exact h
    · exact h
    · exact h
    · exact h
    · cases h
    · cases h
    · rw [List.getElem?_eq_none (show (lvL b sb ii).length ≤ i from h7)] at h; cases h) (kq X m2 o2 hR2))
  have hmid : ∀ (k : Int32) (o2 : Obj), m2.1 0 0 = k → (k = 1 ∨ (k = 0 ∧ o2.2 0 (Int32.toNatClampNeg 0) = i2l r)) → VG Z b 7 Q (Wd G.1 G.2 b (LW X m o2)) (nc + 1) (ns + 6) 948 (lvL b sb ii) [.int k] := by
    intro k o2 hk hko
    refine g_istore (pc := 948) C.1 dL_law_948 (Nat.le_of_ble_eq_true rfl) rfl ?_
    refine g_aload_n (pc := 950) C.1 dL_law_950 rfl ?_
    refine g_arg (pc := 951) C hi 1 (by decide) (c := 1) (by decide +kernel) (by decide +kernel) rfl rfl dL_law_951 dL_law_952 dL_law_954 dL_law_955 dL_law_956 ?_
    refine gw_kI (pc := 957) (v := r) (M' := LW X m2 o2) (gw_cV (pc := 957) (dy := 1) (a := 225) (As := [.int (ar xs ii 1)]) C.1 cls12 sh_225 rfl lk_138 wv_X12_mean yk_X12_mean rfl (Nat.le_of_ble_eq_true rfl) (Nat.le_of_ble_eq_true rfl) (show nc + 1 + 0 ≤ 601024 by omega) (show ns + 6 + 0 ≤ 7293034 by omega) (tMo_mean h2) rfl (Nat.le_of_ble_eq_true rfl) dL_law_957) ?_
    refine g_istore (pc := 960) C.1 dL_law_960 (Nat.le_of_ble_eq_true rfl) rfl ?_
    refine g_aload_n (pc := 962) C.1 dL_law_962 rfl ?_
    refine gw_kI (pc := 963) (v := m2.1 0 0) (M' := LW X m2 o2) (gw_cV (pc := 963) (dy := 0) (a := 225) (As := []) C.1 cls12 sh_225 rfl lk_52 wv_X12_thrown yk_X12_thrown rfl (Nat.le_of_ble_eq_true rfl) (Nat.le_of_ble_eq_true rfl) (show nc + 1 + 0 ≤ 601024 by omega) (show ns + 6 + 0 ≤ 7293034 by omega) (tMo_thrown (m := m2) (va_up_self _ _ _) rfl) rfl (Nat.le_of_ble_eq_true rfl) dL_law_963) ?_
    refine g_iload (pc := 966) C.1 dL_law_966 rfl ?_
    refine g_icmp_eq (pc := 968) C.1 973 dL_law_968 rfl (fun _ => ?_) (fun h => absurd hk h)
    refine g_iload (pc := 973) C.1 dL_law_973 rfl ?_
    refine g_if_ne (pc := 975) C.1 990 dL_law_975 rfl (fun h => hend k o2) (fun h => ?_)
    have ho : o2.2 0 (Int32.toNatClampNeg 0) = i2l r := by
      rcases hko with h3 | h3
      · exact absurd (h3.symm.trans h) (by decide)
      · exact h3.2
    refine g_aload_n (pc := 978) C.1 dL_law_978 rfl ?_
    refine g_iconst (pc := 979) C.1 0 dL_law_979 (by decide +kernel) ?_
    refine gw_lald (pc := 980) (s := o2) C.1 sh_244q rfl in01 rfl dL_law_980 ?_
    refine g_iload (pc := 981) C.1 dL_law_981 rfl ?_
    refine g_i2l (pc := 983) C.1 dL_law_983 ?_
    refine g_lcmp (pc := 984) C.1 dL_law_984 ?_
    exact g_if_eq (pc := 985) C.1 990 dL_law_985 rfl (fun _ => hend k o2) (fun h4 => absurd ((lg_cmp_eq _ _).mpr ho) h4)
  refine g_aload_n (pc := 937) C.1 dL_law_937 rfl ?_
  refine g_arg (pc := 938) C hi 1 (by decide) (c := 1) (by decide +kernel) (by decide +kernel) rfl rfl dL_law_938 dL_law_939 dL_law_941 dL_law_942 dL_law_943 ?_
  refine g_aload_n (pc := 944) C.1 dL_law_944 rfl ?_
  rcases hz with ⟨rfl, e0⟩ | ⟨rfl, e0⟩
  · refine gw_kH (pc := 945) (v := 0) (M' := outW (LW X m o) r) (g_cH (pc := 945) (dy := 7) (mc := 1) (ms := 6) (As := [.ref (b + 0), .int (ar xs ii 1), .ref (b + 244)]) C.1 C.2.2.2.2.2.1 lk_L_mean sta_L_mean ini_L cdw_L_mean yk_L_mean rfl (Nat.le_of_ble_eq_true rfl) (Nat.le_of_ble_eq_true rfl) (show nc + 1 ≤ 601024 by omega) (show ns + 6 ≤ 7293034 by omega) (wL_mean (d := 0) (XX := X) (YY := va_up (va_up M0 244 o) 225 m) C.2.2.2.2.2.2 h1 ⟨fun r2 h => (by cases h; exact ⟨rfl, rfl⟩), fun h => (by cases h)⟩) rfl (Nat.le_of_ble_eq_true rfl) dL_law_945) ?_
    refine g_toM (outW_LW X m o r) ?_
    exact hmid 0 _ e0 (Or.inr ⟨rfl, va_sL o r⟩)
  · refine gw_kH (pc := 945) (v := 1) (M' := LW X m o) (g_cH (pc := 945) (dy := 7) (mc := 1) (ms := 6) (As := [.ref (b + 0), .int (ar xs ii 1), .ref (b + 244)]) C.1 C.2.2.2.2.2.1 lk_L_mean sta_L_mean ini_L cdw_L_mean yk_L_mean rfl (Nat.le_of_ble_eq_true rfl) (Nat.le_of_ble_eq_true rfl) (show nc + 1 ≤ 601024 by omega) (show ns + 6 ≤ 7293034 by omega) (wL_mean (d := 0) (XX := X) (YY := va_up (va_up M0 244 o) 225 m) C.2.2.2.2.2.2 h1 ⟨fun r2 h => (by cases h), fun _ => ⟨rfl, rfl⟩⟩) rfl (Nat.le_of_ble_eq_true rfl) dL_law_945) ?_
    exact hmid 1 o e0 (Or.inl rfl)
