theorem cls0 : cOK 0 RX0 TX0 11 tyX0 := ⟨rfl, (by decide +kernel), tyX0_ok, nmX0⟩
theorem cls1 : cOK 1 RX1 TX1 3 tyX1 := ⟨rfl, (by decide +kernel), tyX1_ok, nmX1⟩
theorem cls2 : cOK 2 RX2 TX2 3 tyX2 := ⟨rfl, (by decide +kernel), tyX2_ok, nmX2⟩
theorem cls3 : cOK 3 RX3 TX3 2 tyX3 := ⟨rfl, (by decide +kernel), tyX3_ok, nmX3⟩
theorem cls4 : cOK 4 RX4 TX4 3 tyX4 := ⟨rfl, (by decide +kernel), tyX4_ok, nmX4⟩
theorem cls5 : cOK 5 RX5 TX5 11 tyX5 := ⟨rfl, (by decide +kernel), tyX5_ok, nmX5⟩
theorem cls6 : cOK 6 RX6 TX6 6 tyX6 := ⟨rfl, (by decide +kernel), tyX6_ok, nmX6⟩
theorem cls7 : cOK 7 RX7 TX7 7 tyX7 := ⟨rfl, (by decide +kernel), tyX7_ok, nmX7⟩
theorem cls8 : cOK 8 RX8 TX8 15 tyX8 := ⟨rfl, (by decide +kernel), tyX8_ok, nmX8⟩
theorem cls9 : cOK 9 RX9 TX9 4 tyX9 := ⟨rfl, (by decide +kernel), tyX9_ok, nmX9⟩
theorem cls10 : cOK 10 RX10 TX10 11 tyX10 := ⟨rfl, (by decide +kernel), tyX10_ok, nmX10⟩
theorem cls11 : cOK 11 RX11 TX11 15 tyX11 := ⟨rfl, (by decide +kernel), tyX11_ok, nmX11⟩
theorem cls12 : cOK 12 RX12 TX12 48 tyX12 := ⟨rfl, (by decide +kernel), tyX12_ok, nmX12⟩
theorem fl_KL_10 : Cond.fieldLink RX11 10 (TX11 0).1 (TX11 0).2.1 (TX11 0).2.2.1 ∈ Tg := tg 564 (by decide +kernel) (by decide +kernel)
theorem fl_KL_19 : Cond.fieldLink RX11 19 (TX11 1).1 (TX11 1).2.1 (TX11 1).2.2.1 ∈ Tg := tg 565 (by decide +kernel) (by decide +kernel)
theorem fl_KL_23 : Cond.fieldLink RX11 23 (TX11 2).1 (TX11 2).2.1 (TX11 2).2.2.1 ∈ Tg := tg 566 (by decide +kernel) (by decide +kernel)
theorem fl_KL_26 : Cond.fieldLink RX11 26 (TX11 3).1 (TX11 3).2.1 (TX11 3).2.2.1 ∈ Tg := tg 567 (by decide +kernel) (by decide +kernel)
theorem fl_KL_29 : Cond.fieldLink RX11 29 (TX11 4).1 (TX11 4).2.1 (TX11 4).2.2.1 ∈ Tg := tg 568 (by decide +kernel) (by decide +kernel)
theorem fl_KL_34 : Cond.fieldLink RX11 34 (TX9 0).1 (TX9 0).2.1 (TX9 0).2.2.1 ∈ Tg := tg 413 (by decide +kernel) (by decide +kernel)
theorem fl_KL_41 : Cond.fieldLink RX11 41 (TX11 5).1 (TX11 5).2.1 (TX11 5).2.2.1 ∈ Tg := tg 569 (by decide +kernel) (by decide +kernel)
theorem fl_KL_48 : Cond.fieldLink RX11 48 (TX11 6).1 (TX11 6).2.1 (TX11 6).2.2.1 ∈ Tg := tg 570 (by decide +kernel) (by decide +kernel)
theorem fl_KL_57 : Cond.fieldLink RX11 57 (TX11 7).1 (TX11 7).2.1 (TX11 7).2.2.1 ∈ Tg := tg 571 (by decide +kernel) (by decide +kernel)
theorem fl_KL_66 : Cond.fieldLink RX11 66 (TX11 8).1 (TX11 8).2.1 (TX11 8).2.2.1 ∈ Tg := tg 572 (by decide +kernel) (by decide +kernel)
theorem fl_KL_73 : Cond.fieldLink RX11 73 (TX11 9).1 (TX11 9).2.1 (TX11 9).2.2.1 ∈ Tg := tg 573 (by decide +kernel) (by decide +kernel)
theorem fl_KL_80 : Cond.fieldLink RX11 80 (TX11 10).1 (TX11 10).2.1 (TX11 10).2.2.1 ∈ Tg := tg 574 (by decide +kernel) (by decide +kernel)
theorem fl_KL_93 : Cond.fieldLink RX11 93 (TX11 11).1 (TX11 11).2.1 (TX11 11).2.2.1 ∈ Tg := tg 575 (by decide +kernel) (by decide +kernel)
theorem fl_KL_97 : Cond.fieldLink RX11 97 (TX11 13).1 (TX11 13).2.1 (TX11 13).2.2.1 ∈ Tg := tg 577 (by decide +kernel) (by decide +kernel)
theorem fl_KL_101 : Cond.fieldLink RX11 101 (TX11 14).1 (TX11 14).2.1 (TX11 14).2.2.1 ∈ Tg := tg 578 (by decide +kernel) (by decide +kernel)
theorem fl_KL_104 : Cond.fieldLink RX11 104 (TX10 1).1 (TX10 1).2.1 (TX10 1).2.2.1 ∈ Tg := tg 214 (by decide +kernel) (by decide +kernel)
theorem fl_KL_118 : Cond.fieldLink RX11 118 (TX10 3).1 (TX10 3).2.1 (TX10 3).2.2.1 ∈ Tg := tg 218 (by decide +kernel) (by decide +kernel)
theorem fl_KL_121 : Cond.fieldLink RX11 121 (TX9 2).1 (TX9 2).2.1 (TX9 2).2.2.1 ∈ Tg := tg 418 (by decide +kernel) (by decide +kernel)
theorem fl_KL_137 : Cond.fieldLink RX11 137 (TX11 12).1 (TX11 12).2.1 (TX11 12).2.2.1 ∈ Tg := tg 576 (by decide +kernel) (by decide +kernel)
theorem fl_KL_140 : Cond.fieldLink RX11 140 (TX9 1).1 (TX9 1).2.1 (TX9 1).2.2.1 ∈ Tg := tg 416 (by decide +kernel) (by decide +kernel)
theorem fl_KL_172 : Cond.fieldLink RX11 172 (TX8 3).1 (TX8 3).2.1 (TX8 3).2.2.1 ∈ Tg := tg 336 (by decide +kernel) (by decide +kernel)
theorem fl_KL_175 : Cond.fieldLink RX11 175 (TX8 4).1 (TX8 4).2.1 (TX8 4).2.2.1 ∈ Tg := tg 339 (by decide +kernel) (by decide +kernel)
theorem fl_KL_179 : Cond.fieldLink RX11 179 (TX8 5).1 (TX8 5).2.1 (TX8 5).2.2.1 ∈ Tg := tg 341 (by decide +kernel) (by decide +kernel)
theorem fl_KL_182 : Cond.fieldLink RX11 182 (TX8 1).1 (TX8 1).2.1 (TX8 1).2.2.1 ∈ Tg := tg 331 (by decide +kernel) (by decide +kernel)
theorem fl_KL_194 : Cond.fieldLink RX11 194 (TX8 2).1 (TX8 2).2.1 (TX8 2).2.2.1 ∈ Tg := tg 334 (by decide +kernel) (by decide +kernel)
theorem fl_KL_271 : Cond.fieldLink RX11 271 (TX5 4).1 (TX5 4).2.1 (TX5 4).2.2.1 ∈ Tg := tg 290 (by decide +kernel) (by decide +kernel)
theorem fl_KL_284 : Cond.fieldLink RX11 284 (TX2 0).1 (TX2 0).2.1 (TX2 0).2.2.1 ∈ Tg := tg 554 (by decide +kernel) (by decide +kernel)
theorem fl_KL_297 : Cond.fieldLink RX11 297 (TX0 1).1 (TX0 1).2.1 (TX0 1).2.2.1 ∈ Tg := tg 484 (by decide +kernel) (by decide +kernel)
theorem fl_KL_300 : Cond.fieldLink RX11 300 (TX0 0).1 (TX0 0).2.1 (TX0 0).2.2.1 ∈ Tg := tg 482 (by decide +kernel) (by decide +kernel)
theorem fl_KL_312 : Cond.fieldLink RX11 312 (TX7 0).1 (TX7 0).2.1 (TX7 0).2.2.1 ∈ Tg := tg 389 (by decide +kernel) (by decide +kernel)
theorem fl_KL_325 : Cond.fieldLink RX11 325 (TX9 3).1 (TX9 3).2.1 (TX9 3).2.2.1 ∈ Tg := tg 419 (by decide +kernel) (by decide +kernel)
theorem fl_KL_329 : Cond.fieldLink RX11 329 (TX5 3).1 (TX5 3).2.1 (TX5 3).2.2.1 ∈ Tg := tg 285 (by decide +kernel) (by decide +kernel)
theorem fl_KL_332 : Cond.fieldLink RX11 332 (TX5 0).1 (TX5 0).2.1 (TX5 0).2.2.1 ∈ Tg := tg 273 (by decide +kernel) (by decide +kernel)
theorem fl_KL_335 : Cond.fieldLink RX11 335 (TX5 1).1 (TX5 1).2.1 (TX5 1).2.2.1 ∈ Tg := tg 277 (by decide +kernel) (by decide +kernel)
theorem fl_KL_338 : Cond.fieldLink RX11 338 (TX5 2).1 (TX5 2).2.1 (TX5 2).2.2.1 ∈ Tg := tg 281 (by decide +kernel) (by decide +kernel)
theorem fl_KL_341 : Cond.fieldLink RX11 341 (TX10 2).1 (TX10 2).2.1 (TX10 2).2.2.1 ∈ Tg := tg 217 (by decide +kernel) (by decide +kernel)
theorem fl_Bk_9 : Cond.fieldLink RX0 9 (TX0 4).1 (TX0 4).2.1 (TX0 4).2.2.1 ∈ Tg := tg 487 (by decide +kernel) (by decide +kernel)
theorem fl_Bk_15 : Cond.fieldLink RX0 15 (TX0 5).1 (TX0 5).2.1 (TX0 5).2.2.1 ∈ Tg := tg 488 (by decide +kernel) (by decide +kernel)
theorem fl_Bk_18 : Cond.fieldLink RX0 18 (TX0 6).1 (TX0 6).2.1 (TX0 6).2.2.1 ∈ Tg := tg 489 (by decide +kernel) (by decide +kernel)
theorem fl_Bk_21 : Cond.fieldLink RX0 21 (TX0 2).1 (TX0 2).2.1 (TX0 2).2.2.1 ∈ Tg := tg 485 (by decide +kernel) (by decide +kernel)
theorem fl_Bk_25 : Cond.fieldLink RX0 25 (TX0 3).1 (TX0 3).2.1 (TX0 3).2.2.1 ∈ Tg := tg 486 (by decide +kernel) (by decide +kernel)
theorem fl_Bk_29 : Cond.fieldLink RX0 29 (TX0 7).1 (TX0 7).2.1 (TX0 7).2.2.1 ∈ Tg := tg 490 (by decide +kernel) (by decide +kernel)
theorem fl_Bk_78 : Cond.fieldLink RX0 78 (TX10 4).1 (TX10 4).2.1 (TX10 4).2.2.1 ∈ Tg := tg 221 (by decide +kernel) (by decide +kernel)
theorem fl_Bk_81 : Cond.fieldLink RX0 81 (TX10 5).1 (TX10 5).2.1 (TX10 5).2.2.1 ∈ Tg := tg 225 (by decide +kernel) (by decide +kernel)
theorem fl_Bk_101 : Cond.fieldLink RX0 101 (TX0 0).1 (TX0 0).2.1 (TX0 0).2.2.1 ∈ Tg := tg 481 (by decide +kernel) (by decide +kernel)
theorem fl_Bk_104 : Cond.fieldLink RX0 104 (TX0 1).1 (TX0 1).2.1 (TX0 1).2.2.1 ∈ Tg := tg 483 (by decide +kernel) (by decide +kernel)
theorem fl_Bk_111 : Cond.fieldLink RX0 111 (TX0 8).1 (TX0 8).2.1 (TX0 8).2.2.1 ∈ Tg := tg 491 (by decide +kernel) (by decide +kernel)
theorem fl_Bk_115 : Cond.fieldLink RX0 115 (TX8 1).1 (TX8 1).2.1 (TX8 1).2.2.1 ∈ Tg := tg 332 (by decide +kernel) (by decide +kernel)
theorem fl_Bk_120 : Cond.fieldLink RX0 120 (TX0 9).1 (TX0 9).2.1 (TX0 9).2.2.1 ∈ Tg := tg 492 (by decide +kernel) (by decide +kernel)
theorem fl_Bk_126 : Cond.fieldLink RX0 126 (TX0 10).1 (TX0 10).2.1 (TX0 10).2.2.1 ∈ Tg := tg 493 (by decide +kernel) (by decide +kernel)
theorem fl_Ch_9 : Cond.fieldLink RX1 9 (TX1 0).1 (TX1 0).2.1 (TX1 0).2.2.1 ∈ Tg := tg 537 (by decide +kernel) (by decide +kernel)
theorem fl_Ch_15 : Cond.fieldLink RX1 15 (TX1 1).1 (TX1 1).2.1 (TX1 1).2.2.1 ∈ Tg := tg 538 (by decide +kernel) (by decide +kernel)
theorem fl_Ch_36 : Cond.fieldLink RX1 36 (TX1 2).1 (TX1 2).2.1 (TX1 2).2.2.1 ∈ Tg := tg 539 (by decide +kernel) (by decide +kernel)
theorem fl_La_11 : Cond.fieldLink RX2 11 (TX2 1).1 (TX2 1).2.1 (TX2 1).2.2.1 ∈ Tg := tg 555 (by decide +kernel) (by decide +kernel)
theorem fl_La_15 : Cond.fieldLink RX2 15 (TX2 2).1 (TX2 2).2.1 (TX2 2).2.2.1 ∈ Tg := tg 556 (by decide +kernel) (by decide +kernel)
theorem fl_La_19 : Cond.fieldLink RX2 19 (TX8 0).1 (TX8 0).2.1 (TX8 0).2.2.1 ∈ Tg := tg 328 (by decide +kernel) (by decide +kernel)
theorem fl_La_25 : Cond.fieldLink RX2 25 (TX2 0).1 (TX2 0).2.1 (TX2 0).2.2.1 ∈ Tg := tg 553 (by decide +kernel) (by decide +kernel)
theorem fl_Mt_11 : Cond.fieldLink RX3 11 (TX3 0).1 (TX3 0).2.1 (TX3 0).2.2.1 ∈ Tg := tg 523 (by decide +kernel) (by decide +kernel)
theorem fl_Mt_15 : Cond.fieldLink RX3 15 (TX3 1).1 (TX3 1).2.1 (TX3 1).2.2.1 ∈ Tg := tg 524 (by decide +kernel) (by decide +kernel)
theorem fl_Pa_13 : Cond.fieldLink RX4 13 (TX4 0).1 (TX4 0).2.1 (TX4 0).2.2.1 ∈ Tg := tg 438 (by decide +kernel) (by decide +kernel)
theorem fl_Pa_20 : Cond.fieldLink RX4 20 (TX4 2).1 (TX4 2).2.1 (TX4 2).2.2.1 ∈ Tg := tg 440 (by decide +kernel) (by decide +kernel)
theorem fl_Pa_32 : Cond.fieldLink RX4 32 (TX4 1).1 (TX4 1).2.1 (TX4 1).2.2.1 ∈ Tg := tg 439 (by decide +kernel) (by decide +kernel)
theorem fl_Qu_9 : Cond.fieldLink RX5 9 (TX5 0).1 (TX5 0).2.1 (TX5 0).2.2.1 ∈ Tg := tg 270 (by decide +kernel) (by decide +kernel)
theorem fl_Qu_15 : Cond.fieldLink RX5 15 (TX5 1).1 (TX5 1).2.1 (TX5 1).2.2.1 ∈ Tg := tg 274 (by decide +kernel) (by decide +kernel)
theorem fl_Qu_18 : Cond.fieldLink RX5 18 (TX5 2).1 (TX5 2).2.1 (TX5 2).2.2.1 ∈ Tg := tg 278 (by decide +kernel) (by decide +kernel)
theorem fl_Qu_21 : Cond.fieldLink RX5 21 (TX5 5).1 (TX5 5).2.1 (TX5 5).2.2.1 ∈ Tg := tg 291 (by decide +kernel) (by decide +kernel)
theorem fl_Qu_25 : Cond.fieldLink RX5 25 (TX5 6).1 (TX5 6).2.1 (TX5 6).2.2.1 ∈ Tg := tg 292 (by decide +kernel) (by decide +kernel)
theorem fl_Qu_28 : Cond.fieldLink RX5 28 (TX5 7).1 (TX5 7).2.1 (TX5 7).2.2.1 ∈ Tg := tg 293 (by decide +kernel) (by decide +kernel)
theorem fl_Qu_32 : Cond.fieldLink RX5 32 (TX5 8).1 (TX5 8).2.1 (TX5 8).2.2.1 ∈ Tg := tg 294 (by decide +kernel) (by decide +kernel)
theorem fl_Qu_35 : Cond.fieldLink RX5 35 (TX5 9).1 (TX5 9).2.1 (TX5 9).2.2.1 ∈ Tg := tg 295 (by decide +kernel) (by decide +kernel)
theorem fl_Qu_38 : Cond.fieldLink RX5 38 (TX5 10).1 (TX5 10).2.1 (TX5 10).2.2.1 ∈ Tg := tg 296 (by decide +kernel) (by decide +kernel)
theorem fl_Qu_41 : Cond.fieldLink RX5 41 (TX5 3).1 (TX5 3).2.1 (TX5 3).2.2.1 ∈ Tg := tg 282 (by decide +kernel) (by decide +kernel)
theorem fl_Qu_44 : Cond.fieldLink RX5 44 (TX5 4).1 (TX5 4).2.1 (TX5 4).2.2.1 ∈ Tg := tg 286 (by decide +kernel) (by decide +kernel)
theorem fl_Qr_9 : Cond.fieldLink RX6 9 (TX6 0).1 (TX6 0).2.1 (TX6 0).2.2.1 ∈ Tg := tg 456 (by decide +kernel) (by decide +kernel)
theorem fl_Qr_21 : Cond.fieldLink RX6 21 (TX6 1).1 (TX6 1).2.1 (TX6 1).2.2.1 ∈ Tg := tg 457 (by decide +kernel) (by decide +kernel)
theorem fl_Qr_26 : Cond.fieldLink RX6 26 (TX6 2).1 (TX6 2).2.1 (TX6 2).2.2.1 ∈ Tg := tg 458 (by decide +kernel) (by decide +kernel)
theorem fl_Qr_35 : Cond.fieldLink RX6 35 (TX6 3).1 (TX6 3).2.1 (TX6 3).2.2.1 ∈ Tg := tg 459 (by decide +kernel) (by decide +kernel)
theorem fl_Qr_39 : Cond.fieldLink RX6 39 (TX6 4).1 (TX6 4).2.1 (TX6 4).2.2.1 ∈ Tg := tg 460 (by decide +kernel) (by decide +kernel)
theorem fl_Qr_42 : Cond.fieldLink RX6 42 (TX6 5).1 (TX6 5).2.1 (TX6 5).2.2.1 ∈ Tg := tg 461 (by decide +kernel) (by decide +kernel)
theorem fl_Qr_61 : Cond.fieldLink RX6 61 (TX10 4).1 (TX10 4).2.1 (TX10 4).2.2.1 ∈ Tg := tg 220 (by decide +kernel) (by decide +kernel)
theorem fl_Qr_69 : Cond.fieldLink RX6 69 (TX10 5).1 (TX10 5).2.1 (TX10 5).2.2.1 ∈ Tg := tg 224 (by decide +kernel) (by decide +kernel)
theorem fl_Qr_96 : Cond.fieldLink RX6 96 (TX5 3).1 (TX5 3).2.1 (TX5 3).2.2.1 ∈ Tg := tg 283 (by decide +kernel) (by decide +kernel)
theorem fl_Qr_99 : Cond.fieldLink RX6 99 (TX5 4).1 (TX5 4).2.1 (TX5 4).2.2.1 ∈ Tg := tg 287 (by decide +kernel) (by decide +kernel)
theorem fl_Qr_106 : Cond.fieldLink RX6 106 (TX5 0).1 (TX5 0).2.1 (TX5 0).2.2.1 ∈ Tg := tg 271 (by decide +kernel) (by decide +kernel)
theorem fl_Qr_109 : Cond.fieldLink RX6 109 (TX5 1).1 (TX5 1).2.1 (TX5 1).2.2.1 ∈ Tg := tg 275 (by decide +kernel) (by decide +kernel)
theorem fl_Qr_112 : Cond.fieldLink RX6 112 (TX5 2).1 (TX5 2).2.1 (TX5 2).2.2.1 ∈ Tg := tg 279 (by decide +kernel) (by decide +kernel)
theorem fl_Qr_149 : Cond.fieldLink RX6 149 (TX8 3).1 (TX8 3).2.1 (TX8 3).2.2.1 ∈ Tg := tg 337 (by decide +kernel) (by decide +kernel)
theorem fl_Sy_11 : Cond.fieldLink RX7 11 (TX7 2).1 (TX7 2).2.1 (TX7 2).2.2.1 ∈ Tg := tg 391 (by decide +kernel) (by decide +kernel)
theorem fl_Sy_15 : Cond.fieldLink RX7 15 (TX7 3).1 (TX7 3).2.1 (TX7 3).2.2.1 ∈ Tg := tg 392 (by decide +kernel) (by decide +kernel)
theorem fl_Sy_18 : Cond.fieldLink RX7 18 (TX7 4).1 (TX7 4).2.1 (TX7 4).2.2.1 ∈ Tg := tg 393 (by decide +kernel) (by decide +kernel)
theorem fl_Sy_21 : Cond.fieldLink RX7 21 (TX7 5).1 (TX7 5).2.1 (TX7 5).2.2.1 ∈ Tg := tg 394 (by decide +kernel) (by decide +kernel)
theorem fl_Sy_24 : Cond.fieldLink RX7 24 (TX7 0).1 (TX7 0).2.1 (TX7 0).2.2.1 ∈ Tg := tg 388 (by decide +kernel) (by decide +kernel)
theorem fl_Sy_28 : Cond.fieldLink RX7 28 (TX7 1).1 (TX7 1).2.1 (TX7 1).2.2.1 ∈ Tg := tg 390 (by decide +kernel) (by decide +kernel)
theorem fl_Sy_79 : Cond.fieldLink RX7 79 (TX10 4).1 (TX10 4).2.1 (TX10 4).2.2.1 ∈ Tg := tg 222 (by decide +kernel) (by decide +kernel)
theorem fl_Sy_82 : Cond.fieldLink RX7 82 (TX10 5).1 (TX10 5).2.1 (TX10 5).2.2.1 ∈ Tg := tg 226 (by decide +kernel) (by decide +kernel)
theorem fl_Sy_112 : Cond.fieldLink RX7 112 (TX7 6).1 (TX7 6).2.1 (TX7 6).2.2.1 ∈ Tg := tg 395 (by decide +kernel) (by decide +kernel)
theorem fl_Sy_125 : Cond.fieldLink RX7 125 (TX8 0).1 (TX8 0).2.1 (TX8 0).2.2.1 ∈ Tg := tg 329 (by decide +kernel) (by decide +kernel)
theorem fl_Sy_131 : Cond.fieldLink RX7 131 (TX5 4).1 (TX5 4).2.1 (TX5 4).2.2.1 ∈ Tg := tg 289 (by decide +kernel) (by decide +kernel)
theorem fl_Sc_9 : Cond.fieldLink RX8 9 (TX8 4).1 (TX8 4).2.1 (TX8 4).2.2.1 ∈ Tg := tg 338 (by decide +kernel) (by decide +kernel)
theorem fl_Sc_15 : Cond.fieldLink RX8 15 (TX8 5).1 (TX8 5).2.1 (TX8 5).2.2.1 ∈ Tg := tg 340 (by decide +kernel) (by decide +kernel)
theorem fl_Sc_18 : Cond.fieldLink RX8 18 (TX8 6).1 (TX8 6).2.1 (TX8 6).2.2.1 ∈ Tg := tg 342 (by decide +kernel) (by decide +kernel)
theorem fl_Sc_21 : Cond.fieldLink RX8 21 (TX8 7).1 (TX8 7).2.1 (TX8 7).2.2.1 ∈ Tg := tg 343 (by decide +kernel) (by decide +kernel)
theorem fl_Sc_24 : Cond.fieldLink RX8 24 (TX8 8).1 (TX8 8).2.1 (TX8 8).2.2.1 ∈ Tg := tg 344 (by decide +kernel) (by decide +kernel)
theorem fl_Sc_27 : Cond.fieldLink RX8 27 (TX8 9).1 (TX8 9).2.1 (TX8 9).2.2.1 ∈ Tg := tg 345 (by decide +kernel) (by decide +kernel)
theorem fl_Sc_30 : Cond.fieldLink RX8 30 (TX8 10).1 (TX8 10).2.1 (TX8 10).2.2.1 ∈ Tg := tg 346 (by decide +kernel) (by decide +kernel)
theorem fl_Sc_33 : Cond.fieldLink RX8 33 (TX8 11).1 (TX8 11).2.1 (TX8 11).2.2.1 ∈ Tg := tg 347 (by decide +kernel) (by decide +kernel)
theorem fl_Sc_36 : Cond.fieldLink RX8 36 (TX8 12).1 (TX8 12).2.1 (TX8 12).2.2.1 ∈ Tg := tg 348 (by decide +kernel) (by decide +kernel)
theorem fl_Sc_39 : Cond.fieldLink RX8 39 (TX8 13).1 (TX8 13).2.1 (TX8 13).2.2.1 ∈ Tg := tg 349 (by decide +kernel) (by decide +kernel)
theorem fl_Sc_42 : Cond.fieldLink RX8 42 (TX8 0).1 (TX8 0).2.1 (TX8 0).2.2.1 ∈ Tg := tg 327 (by decide +kernel) (by decide +kernel)
theorem fl_Sc_46 : Cond.fieldLink RX8 46 (TX8 1).1 (TX8 1).2.1 (TX8 1).2.2.1 ∈ Tg := tg 330 (by decide +kernel) (by decide +kernel)
theorem fl_Sc_50 : Cond.fieldLink RX8 50 (TX8 2).1 (TX8 2).2.1 (TX8 2).2.2.1 ∈ Tg := tg 333 (by decide +kernel) (by decide +kernel)
theorem fl_Sc_53 : Cond.fieldLink RX8 53 (TX8 3).1 (TX8 3).2.1 (TX8 3).2.2.1 ∈ Tg := tg 335 (by decide +kernel) (by decide +kernel)
theorem fl_Sc_92 : Cond.fieldLink RX8 92 (TX5 4).1 (TX5 4).2.1 (TX5 4).2.2.1 ∈ Tg := tg 288 (by decide +kernel) (by decide +kernel)
theorem fl_Sc_95 : Cond.fieldLink RX8 95 (TX5 3).1 (TX5 3).2.1 (TX5 3).2.2.1 ∈ Tg := tg 284 (by decide +kernel) (by decide +kernel)
theorem fl_Sc_122 : Cond.fieldLink RX8 122 (TX8 14).1 (TX8 14).2.1 (TX8 14).2.2.1 ∈ Tg := tg 350 (by decide +kernel) (by decide +kernel)
theorem fl_Sc_165 : Cond.fieldLink RX8 165 (TX5 0).1 (TX5 0).2.1 (TX5 0).2.2.1 ∈ Tg := tg 272 (by decide +kernel) (by decide +kernel)
theorem fl_Sc_171 : Cond.fieldLink RX8 171 (TX5 2).1 (TX5 2).2.1 (TX5 2).2.2.1 ∈ Tg := tg 280 (by decide +kernel) (by decide +kernel)
theorem fl_Sc_180 : Cond.fieldLink RX8 180 (TX5 1).1 (TX5 1).2.1 (TX5 1).2.2.1 ∈ Tg := tg 276 (by decide +kernel) (by decide +kernel)
theorem fl_St_10 : Cond.fieldLink RX9 10 (TX9 0).1 (TX9 0).2.1 (TX9 0).2.2.1 ∈ Tg := tg 412 (by decide +kernel) (by decide +kernel)
theorem fl_St_21 : Cond.fieldLink RX9 21 (TX9 1).1 (TX9 1).2.1 (TX9 1).2.2.1 ∈ Tg := tg 415 (by decide +kernel) (by decide +kernel)
theorem fl_St_28 : Cond.fieldLink RX9 28 (TX9 2).1 (TX9 2).2.1 (TX9 2).2.2.1 ∈ Tg := tg 417 (by decide +kernel) (by decide +kernel)
theorem fl_Ta_15 : Cond.fieldLink RX10 15 (TX10 0).1 (TX10 0).2.1 (TX10 0).2.2.1 ∈ Tg := tg 212 (by decide +kernel) (by decide +kernel)
theorem fl_Ta_19 : Cond.fieldLink RX10 19 (TX10 7).1 (TX10 7).2.1 (TX10 7).2.2.1 ∈ Tg := tg 229 (by decide +kernel) (by decide +kernel)
theorem fl_Ta_43 : Cond.fieldLink RX10 43 (TX10 1).1 (TX10 1).2.1 (TX10 1).2.2.1 ∈ Tg := tg 215 (by decide +kernel) (by decide +kernel)
theorem fl_Ta_47 : Cond.fieldLink RX10 47 (TX10 8).1 (TX10 8).2.1 (TX10 8).2.2.1 ∈ Tg := tg 230 (by decide +kernel) (by decide +kernel)
theorem fl_Ta_50 : Cond.fieldLink RX10 50 (TX10 9).1 (TX10 9).2.1 (TX10 9).2.2.1 ∈ Tg := tg 231 (by decide +kernel) (by decide +kernel)
theorem fl_Ta_53 : Cond.fieldLink RX10 53 (TX10 2).1 (TX10 2).2.1 (TX10 2).2.2.1 ∈ Tg := tg 216 (by decide +kernel) (by decide +kernel)
theorem fl_Ta_56 : Cond.fieldLink RX10 56 (TX10 3).1 (TX10 3).2.1 (TX10 3).2.2.1 ∈ Tg := tg 219 (by decide +kernel) (by decide +kernel)
theorem fl_Ta_70 : Cond.fieldLink RX10 70 (TX10 10).1 (TX10 10).2.1 (TX10 10).2.2.1 ∈ Tg := tg 232 (by decide +kernel) (by decide +kernel)
theorem fl_Ta_73 : Cond.fieldLink RX10 73 (TX10 5).1 (TX10 5).2.1 (TX10 5).2.2.1 ∈ Tg := tg 227 (by decide +kernel) (by decide +kernel)
theorem fl_Ta_76 : Cond.fieldLink RX10 76 (TX10 4).1 (TX10 4).2.1 (TX10 4).2.2.1 ∈ Tg := tg 223 (by decide +kernel) (by decide +kernel)
theorem fl_Ta_88 : Cond.fieldLink RX10 88 (TX10 6).1 (TX10 6).2.1 (TX10 6).2.2.1 ∈ Tg := tg 228 (by decide +kernel) (by decide +kernel)
theorem fl_Mo_1 : Cond.fieldLink RX12 1 (TX12 0).1 (TX12 0).2.1 (TX12 0).2.2.1 ∈ Tg := tg 1524 (by decide +kernel) (by decide +kernel)
theorem fl_Mo_7 : Cond.fieldLink RX12 7 (TX12 2).1 (TX12 2).2.1 (TX12 2).2.2.1 ∈ Tg := tg 1526 (by decide +kernel) (by decide +kernel)
theorem fl_Mo_14 : Cond.fieldLink RX12 14 (TX12 1).1 (TX12 1).2.1 (TX12 1).2.2.1 ∈ Tg := tg 1525 (by decide +kernel) (by decide +kernel)
theorem fl_Mo_18 : Cond.fieldLink RX12 18 (TX12 3).1 (TX12 3).2.1 (TX12 3).2.2.1 ∈ Tg := tg 1527 (by decide +kernel) (by decide +kernel)
theorem fl_Mo_21 : Cond.fieldLink RX12 21 (TX12 4).1 (TX12 4).2.1 (TX12 4).2.2.1 ∈ Tg := tg 1528 (by decide +kernel) (by decide +kernel)
theorem fl_Mo_24 : Cond.fieldLink RX12 24 (TX12 5).1 (TX12 5).2.1 (TX12 5).2.2.1 ∈ Tg := tg 1529 (by decide +kernel) (by decide +kernel)
theorem fl_Mo_33 : Cond.fieldLink RX12 33 (TX12 6).1 (TX12 6).2.1 (TX12 6).2.2.1 ∈ Tg := tg 1530 (by decide +kernel) (by decide +kernel)
theorem fl_Mo_37 : Cond.fieldLink RX12 37 (TX12 7).1 (TX12 7).2.1 (TX12 7).2.2.1 ∈ Tg := tg 1531 (by decide +kernel) (by decide +kernel)
theorem fl_Mo_40 : Cond.fieldLink RX12 40 (TX12 8).1 (TX12 8).2.1 (TX12 8).2.2.1 ∈ Tg := tg 1532 (by decide +kernel) (by decide +kernel)
theorem fl_Mo_43 : Cond.fieldLink RX12 43 (TX12 9).1 (TX12 9).2.1 (TX12 9).2.2.1 ∈ Tg := tg 1533 (by decide +kernel) (by decide +kernel)
theorem fl_Mo_47 : Cond.fieldLink RX12 47 (TX12 10).1 (TX12 10).2.1 (TX12 10).2.2.1 ∈ Tg := tg 1534 (by decide +kernel) (by decide +kernel)
theorem fl_Mo_50 : Cond.fieldLink RX12 50 (TX12 21).1 (TX12 21).2.1 (TX12 21).2.2.1 ∈ Tg := tg 1545 (by decide +kernel) (by decide +kernel)
theorem fl_Mo_53 : Cond.fieldLink RX12 53 (TX12 22).1 (TX12 22).2.1 (TX12 22).2.2.1 ∈ Tg := tg 1546 (by decide +kernel) (by decide +kernel)
theorem fl_Mo_56 : Cond.fieldLink RX12 56 (TX12 26).1 (TX12 26).2.1 (TX12 26).2.2.1 ∈ Tg := tg 1550 (by decide +kernel) (by decide +kernel)
theorem fl_Mo_60 : Cond.fieldLink RX12 60 (TX12 27).1 (TX12 27).2.1 (TX12 27).2.2.1 ∈ Tg := tg 1551 (by decide +kernel) (by decide +kernel)
theorem fl_Mo_63 : Cond.fieldLink RX12 63 (TX12 28).1 (TX12 28).2.1 (TX12 28).2.2.1 ∈ Tg := tg 1552 (by decide +kernel) (by decide +kernel)
theorem fl_Mo_66 : Cond.fieldLink RX12 66 (TX12 29).1 (TX12 29).2.1 (TX12 29).2.2.1 ∈ Tg := tg 1553 (by decide +kernel) (by decide +kernel)
theorem fl_Mo_69 : Cond.fieldLink RX12 69 (TX12 32).1 (TX12 32).2.1 (TX12 32).2.2.1 ∈ Tg := tg 1556 (by decide +kernel) (by decide +kernel)
theorem fl_Mo_72 : Cond.fieldLink RX12 72 (TX12 36).1 (TX12 36).2.1 (TX12 36).2.2.1 ∈ Tg := tg 1560 (by decide +kernel) (by decide +kernel)
theorem fl_Mo_75 : Cond.fieldLink RX12 75 (TX12 38).1 (TX12 38).2.1 (TX12 38).2.2.1 ∈ Tg := tg 1562 (by decide +kernel) (by decide +kernel)
theorem fl_Mo_78 : Cond.fieldLink RX12 78 (TX12 44).1 (TX12 44).2.1 (TX12 44).2.2.1 ∈ Tg := tg 1568 (by decide +kernel) (by decide +kernel)
theorem fl_Mo_81 : Cond.fieldLink RX12 81 (TX12 45).1 (TX12 45).2.1 (TX12 45).2.2.1 ∈ Tg := tg 1569 (by decide +kernel) (by decide +kernel)
theorem fl_Mo_84 : Cond.fieldLink RX12 84 (TX12 46).1 (TX12 46).2.1 (TX12 46).2.2.1 ∈ Tg := tg 1570 (by decide +kernel) (by decide +kernel)
theorem fl_Mo_87 : Cond.fieldLink RX12 87 (TX12 47).1 (TX12 47).2.1 (TX12 47).2.2.1 ∈ Tg := tg 1571 (by decide +kernel) (by decide +kernel)
theorem fl_Mo_155 : Cond.fieldLink RX12 155 (TX12 12).1 (TX12 12).2.1 (TX12 12).2.2.1 ∈ Tg := tg 1536 (by decide +kernel) (by decide +kernel)
theorem fl_Mo_158 : Cond.fieldLink RX12 158 (TX12 13).1 (TX12 13).2.1 (TX12 13).2.2.1 ∈ Tg := tg 1537 (by decide +kernel) (by decide +kernel)
theorem fl_Mo_161 : Cond.fieldLink RX12 161 (TX12 11).1 (TX12 11).2.1 (TX12 11).2.2.1 ∈ Tg := tg 1535 (by decide +kernel) (by decide +kernel)
theorem fl_Mo_171 : Cond.fieldLink RX12 171 (TX12 14).1 (TX12 14).2.1 (TX12 14).2.2.1 ∈ Tg := tg 1538 (by decide +kernel) (by decide +kernel)
theorem fl_Mo_174 : Cond.fieldLink RX12 174 (TX12 17).1 (TX12 17).2.1 (TX12 17).2.2.1 ∈ Tg := tg 1541 (by decide +kernel) (by decide +kernel)
theorem fl_Mo_178 : Cond.fieldLink RX12 178 (TX12 15).1 (TX12 15).2.1 (TX12 15).2.2.1 ∈ Tg := tg 1539 (by decide +kernel) (by decide +kernel)
theorem fl_Mo_181 : Cond.fieldLink RX12 181 (TX12 16).1 (TX12 16).2.1 (TX12 16).2.2.1 ∈ Tg := tg 1540 (by decide +kernel) (by decide +kernel)
theorem fl_Mo_197 : Cond.fieldLink RX12 197 (TX12 18).1 (TX12 18).2.1 (TX12 18).2.2.1 ∈ Tg := tg 1542 (by decide +kernel) (by decide +kernel)
theorem fl_Mo_215 : Cond.fieldLink RX12 215 (TX12 20).1 (TX12 20).2.1 (TX12 20).2.2.1 ∈ Tg := tg 1544 (by decide +kernel) (by decide +kernel)
theorem fl_Mo_262 : Cond.fieldLink RX12 262 (TX12 19).1 (TX12 19).2.1 (TX12 19).2.2.1 ∈ Tg := tg 1543 (by decide +kernel) (by decide +kernel)
theorem fl_Mo_271 : Cond.fieldLink RX12 271 (TX12 23).1 (TX12 23).2.1 (TX12 23).2.2.1 ∈ Tg := tg 1547 (by decide +kernel) (by decide +kernel)
theorem fl_Mo_354 : Cond.fieldLink RX12 354 (TX12 25).1 (TX12 25).2.1 (TX12 25).2.2.1 ∈ Tg := tg 1549 (by decide +kernel) (by decide +kernel)
theorem fl_Mo_358 : Cond.fieldLink RX12 358 (TX12 24).1 (TX12 24).2.1 (TX12 24).2.2.1 ∈ Tg := tg 1548 (by decide +kernel) (by decide +kernel)
theorem fl_Mo_370 : Cond.fieldLink RX12 370 (TX12 31).1 (TX12 31).2.1 (TX12 31).2.2.1 ∈ Tg := tg 1555 (by decide +kernel) (by decide +kernel)
theorem fl_Mo_373 : Cond.fieldLink RX12 373 (TX12 30).1 (TX12 30).2.1 (TX12 30).2.2.1 ∈ Tg := tg 1554 (by decide +kernel) (by decide +kernel)
theorem fl_Mo_385 : Cond.fieldLink RX12 385 (TX12 33).1 (TX12 33).2.1 (TX12 33).2.2.1 ∈ Tg := tg 1557 (by decide +kernel) (by decide +kernel)
theorem fl_Mo_404 : Cond.fieldLink RX12 404 (TX12 34).1 (TX12 34).2.1 (TX12 34).2.2.1 ∈ Tg := tg 1558 (by decide +kernel) (by decide +kernel)
theorem fl_Mo_417 : Cond.fieldLink RX12 417 (TX12 35).1 (TX12 35).2.1 (TX12 35).2.2.1 ∈ Tg := tg 1559 (by decide +kernel) (by decide +kernel)
theorem fl_Mo_427 : Cond.fieldLink RX12 427 (TX12 37).1 (TX12 37).2.1 (TX12 37).2.2.1 ∈ Tg := tg 1561 (by decide +kernel) (by decide +kernel)
theorem fl_Mo_430 : Cond.fieldLink RX12 430 (TX12 39).1 (TX12 39).2.1 (TX12 39).2.2.1 ∈ Tg := tg 1563 (by decide +kernel) (by decide +kernel)
theorem fl_Mo_433 : Cond.fieldLink RX12 433 (TX12 41).1 (TX12 41).2.1 (TX12 41).2.2.1 ∈ Tg := tg 1565 (by decide +kernel) (by decide +kernel)
theorem fl_Mo_439 : Cond.fieldLink RX12 439 (TX12 42).1 (TX12 42).2.1 (TX12 42).2.2.1 ∈ Tg := tg 1566 (by decide +kernel) (by decide +kernel)
theorem fl_Mo_445 : Cond.fieldLink RX12 445 (TX12 40).1 (TX12 40).2.1 (TX12 40).2.2.1 ∈ Tg := tg 1564 (by decide +kernel) (by decide +kernel)
theorem fl_Mo_448 : Cond.fieldLink RX12 448 (TX12 43).1 (TX12 43).2.1 (TX12 43).2.2.1 ∈ Tg := tg 1567 (by decide +kernel) (by decide +kernel)
theorem ml_KL_107 : Cond.methodLink RX11 107 yX10_addFour ∈ Tg := tg 614 (by decide +kernel) (by decide +kernel)
theorem ml_KL_111 : Cond.methodLink RX11 111 yX6_readAll ∈ Tg := tg 626 (by decide +kernel) (by decide +kernel)
theorem ml_KL_115 : Cond.methodLink RX11 115 yX11_finishReading ∈ Tg := tg 812 (by decide +kernel) (by decide +kernel)
theorem ml_KL_125 : Cond.methodLink RX11 125 yX7_clear ∈ Tg := tg 816 (by decide +kernel) (by decide +kernel)
theorem ml_KL_130 : Cond.methodLink RX11 130 yX9_copyFrom ∈ Tg := tg 820 (by decide +kernel) (by decide +kernel)
theorem ml_KL_134 : Cond.methodLink RX11 134 yX4_forget ∈ Tg := tg 841 (by decide +kernel) (by decide +kernel)
theorem ml_KL_143 : Cond.methodLink RX11 143 yX5_hasHouse ∈ Tg := tg 853 (by decide +kernel) (by decide +kernel)
theorem ml_KL_149 : Cond.methodLink RX11 149 yX5_placeOf ∈ Tg := tg 854 (by decide +kernel) (by decide +kernel)
theorem ml_KL_153 : Cond.methodLink RX11 153 yX5_livingIn ∈ Tg := tg 858 (by decide +kernel) (by decide +kernel)
theorem ml_KL_156 : Cond.methodLink RX11 156 yX8_strangersOf ∈ Tg := tg 859 (by decide +kernel) (by decide +kernel)
theorem ml_KL_159 : Cond.methodLink RX11 159 yX8_thoseAt ∈ Tg := tg 863 (by decide +kernel) (by decide +kernel)
theorem ml_KL_163 : Cond.methodLink RX11 163 yX5_hasPerson ∈ Tg := tg 1044 (by decide +kernel) (by decide +kernel)
theorem ml_KL_169 : Cond.methodLink RX11 169 yX8_detail ∈ Tg := tg 1454 (by decide +kernel) (by decide +kernel)
theorem ml_KL_185 : Cond.methodLink RX11 185 yX8_thoseWhoAre ∈ Tg := tg 875 (by decide +kernel) (by decide +kernel)
theorem ml_KL_188 : Cond.methodLink RX11 188 yX8_housesWithStrangers ∈ Tg := tg 879 (by decide +kernel) (by decide +kernel)
theorem ml_KL_191 : Cond.methodLink RX11 191 yX8_openedInAll ∈ Tg := tg 884 (by decide +kernel) (by decide +kernel)
theorem ml_KL_197 : Cond.methodLink RX11 197 yX4_note ∈ Tg := tg 892 (by decide +kernel) (by decide +kernel)
theorem ml_KL_201 : Cond.methodLink RX11 201 yX8_tryKnock ∈ Tg := tg 901 (by decide +kernel) (by decide +kernel)
theorem ml_KL_204 : Cond.methodLink RX11 204 yX4_keepIfDone ∈ Tg := tg 906 (by decide +kernel) (by decide +kernel)
theorem ml_KL_207 : Cond.methodLink RX11 207 yX8_tryGo ∈ Tg := tg 918 (by decide +kernel) (by decide +kernel)
theorem ml_KL_210 : Cond.methodLink RX11 210 yX8_tryQuit ∈ Tg := tg 926 (by decide +kernel) (by decide +kernel)
theorem ml_KL_213 : Cond.methodLink RX11 213 yX8_tryMeet ∈ Tg := tg 938 (by decide +kernel) (by decide +kernel)
theorem ml_KL_216 : Cond.methodLink RX11 216 yX8_tryCall ∈ Tg := tg 943 (by decide +kernel) (by decide +kernel)
theorem ml_KL_219 : Cond.methodLink RX11 219 yX8_letTicksGo ∈ Tg := tg 948 (by decide +kernel) (by decide +kernel)
theorem ml_KL_222 : Cond.methodLink RX11 222 yX4_keepIfAny ∈ Tg := tg 994 (by decide +kernel) (by decide +kernel)
theorem ml_KL_225 : Cond.methodLink RX11 225 yX4_bringBack ∈ Tg := tg 1002 (by decide +kernel) (by decide +kernel)
theorem ml_KL_229 : Cond.methodLink RX11 229 yX8_isKnocking ∈ Tg := tg 1010 (by decide +kernel) (by decide +kernel)
theorem ml_KL_232 : Cond.methodLink RX11 232 yX8_answererOf ∈ Tg := tg 1014 (by decide +kernel) (by decide +kernel)
theorem ml_KL_235 : Cond.methodLink RX11 235 yX3_greatestSet ∈ Tg := tg 1019 (by decide +kernel) (by decide +kernel)
theorem ml_KL_238 : Cond.methodLink RX11 238 yJ6_bitCount_0f7a4 ∈ Tg := tg 1035 (by decide +kernel) (by decide +kernel)
theorem ml_KL_243 : Cond.methodLink RX11 243 yX1_find ∈ Tg := tg 1045 (by decide +kernel) (by decide +kernel)
theorem ml_KL_247 : Cond.methodLink RX11 247 yX1_personAt ∈ Tg := tg 1069 (by decide +kernel) (by decide +kernel)
theorem ml_KL_250 : Cond.methodLink RX11 250 yX11_whoByPairs ∈ Tg := tg 1077 (by decide +kernel) (by decide +kernel)
theorem ml_KL_253 : Cond.methodLink RX11 253 yX8_bestToAsk ∈ Tg := tg 1086 (by decide +kernel) (by decide +kernel)
theorem ml_KL_256 : Cond.methodLink RX11 256 yX8_copyFrom ∈ Tg := tg 1102 (by decide +kernel) (by decide +kernel)
theorem ml_KL_258 : Cond.methodLink RX11 258 yX8_letTickGo ∈ Tg := tg 1103 (by decide +kernel) (by decide +kernel)
theorem ml_KL_261 : Cond.methodLink RX11 261 yX8_isInside ∈ Tg := tg 1104 (by decide +kernel) (by decide +kernel)
theorem ml_KL_264 : Cond.methodLink RX11 264 yX8_areTogether ∈ Tg := tg 1116 (by decide +kernel) (by decide +kernel)
theorem ml_KL_268 : Cond.methodLink RX11 268 yX8_whoOpenedMost ∈ Tg := tg 1128 (by decide +kernel) (by decide +kernel)
theorem ml_KL_274 : Cond.methodLink RX11 274 yX8_knownInAll ∈ Tg := tg 1462 (by decide +kernel) (by decide +kernel)
theorem ml_KL_277 : Cond.methodLink RX11 277 yX11_commonDivisor ∈ Tg := tg 1466 (by decide +kernel) (by decide +kernel)
theorem ml_KL_280 : Cond.methodLink RX11 280 yX2_write ∈ Tg := tg 1136 (by decide +kernel) (by decide +kernel)
theorem ml_KL_285 : Cond.methodLink RX11 285 yX2_signAt ∈ Tg := tg 1184 (by decide +kernel) (by decide +kernel)
theorem ml_KL_288 : Cond.methodLink RX11 288 yX8_letDrawnTicksGo ∈ Tg := tg 1192 (by decide +kernel) (by decide +kernel)
theorem ml_KL_291 : Cond.methodLink RX11 291 yX0_readAll ∈ Tg := tg 1217 (by decide +kernel) (by decide +kernel)
theorem ml_KL_294 : Cond.methodLink RX11 294 yX0_live ∈ Tg := tg 1256 (by decide +kernel) (by decide +kernel)
theorem ml_KL_303 : Cond.methodLink RX11 303 yX0_tell ∈ Tg := tg 1277 (by decide +kernel) (by decide +kernel)
theorem ml_KL_306 : Cond.methodLink RX11 306 yX7_readAll ∈ Tg := tg 1285 (by decide +kernel) (by decide +kernel)
theorem ml_KL_309 : Cond.methodLink RX11 309 yX7_copyFrom ∈ Tg := tg 1333 (by decide +kernel) (by decide +kernel)
theorem ml_KL_315 : Cond.methodLink RX11 315 yX7_trueOf ∈ Tg := tg 1338 (by decide +kernel) (by decide +kernel)
theorem ml_KL_318 : Cond.methodLink RX11 318 yX11_bitInOrder ∈ Tg := tg 1368 (by decide +kernel) (by decide +kernel)
theorem ml_KL_321 : Cond.methodLink RX11 321 yX11_imageOf ∈ Tg := tg 1373 (by decide +kernel) (by decide +kernel)
theorem ml_KL_344 : Cond.methodLink RX11 344 yX10_byteOf ∈ Tg := tg 1081 (by decide +kernel) (by decide +kernel)
theorem ml_KL_347 : Cond.methodLink RX11 347 yX8_whomJustTheseKnow ∈ Tg := tg 1082 (by decide +kernel) (by decide +kernel)
theorem ml_KL_350 : Cond.methodLink RX11 350 yX11_hasBit ∈ Tg := tg 1064 (by decide +kernel) (by decide +kernel)
theorem ml_Bk_33 : Cond.methodLink RX0 33 yX10_startReading ∈ Tg := tg 1221 (by decide +kernel) (by decide +kernel)
theorem ml_Bk_39 : Cond.methodLink RX0 39 yX10_isEnd ∈ Tg := tg 1222 (by decide +kernel) (by decide +kernel)
theorem ml_Bk_43 : Cond.methodLink RX0 43 yX0_readLine ∈ Tg := tg 1223 (by decide +kernel) (by decide +kernel)
theorem ml_Bk_46 : Cond.methodLink RX0 46 yX10_takeLineEnd ∈ Tg := tg 1255 (by decide +kernel) (by decide +kernel)
theorem ml_Bk_49 : Cond.methodLink RX0 49 yX10_isWord ∈ Tg := tg 1227 (by decide +kernel) (by decide +kernel)
theorem ml_Bk_53 : Cond.methodLink RX0 53 yX10_personHere ∈ Tg := tg 1228 (by decide +kernel) (by decide +kernel)
theorem ml_Bk_57 : Cond.methodLink RX0 57 yX10_refuse ∈ Tg := tg 1229 (by decide +kernel) (by decide +kernel)
theorem ml_Bk_61 : Cond.methodLink RX0 61 yX0_readTicks ∈ Tg := tg 1230 (by decide +kernel) (by decide +kernel)
theorem ml_Bk_64 : Cond.methodLink RX0 64 yX0_readAct ∈ Tg := tg 1239 (by decide +kernel) (by decide +kernel)
theorem ml_Bk_67 : Cond.methodLink RX0 67 yX10_takeNumber ∈ Tg := tg 1234 (by decide +kernel) (by decide +kernel)
theorem ml_Bk_71 : Cond.methodLink RX0 71 yX0_add ∈ Tg := tg 1235 (by decide +kernel) (by decide +kernel)
theorem ml_Bk_75 : Cond.methodLink RX0 75 yX10_take ∈ Tg := tg 1243 (by decide +kernel) (by decide +kernel)
theorem ml_Bk_84 : Cond.methodLink RX0 84 yX10_takeHouse ∈ Tg := tg 1244 (by decide +kernel) (by decide +kernel)
theorem ml_Bk_87 : Cond.methodLink RX0 87 yX0_addAct ∈ Tg := tg 1245 (by decide +kernel) (by decide +kernel)
theorem ml_Bk_91 : Cond.methodLink RX0 91 yX10_takeOneOf ∈ Tg := tg 1249 (by decide +kernel) (by decide +kernel)
theorem ml_Bk_94 : Cond.methodLink RX0 94 yX10_takePerson ∈ Tg := tg 1250 (by decide +kernel) (by decide +kernel)
theorem ml_Bk_97 : Cond.methodLink RX0 97 yX0_addMeeting ∈ Tg := tg 1251 (by decide +kernel) (by decide +kernel)
theorem ml_Bk_107 : Cond.methodLink RX0 107 yX0_liveLine ∈ Tg := tg 1260 (by decide +kernel) (by decide +kernel)
theorem ml_Bk_123 : Cond.methodLink RX0 123 yX8_thoseWhoAre ∈ Tg := tg 1272 (by decide +kernel) (by decide +kernel)
theorem ml_Bk_129 : Cond.methodLink RX0 129 yX8_tryKnock ∈ Tg := tg 1263 (by decide +kernel) (by decide +kernel)
theorem ml_Bk_132 : Cond.methodLink RX0 132 yX0_reason ∈ Tg := tg 1264 (by decide +kernel) (by decide +kernel)
theorem ml_Bk_135 : Cond.methodLink RX0 135 yX8_tryGo ∈ Tg := tg 1267 (by decide +kernel) (by decide +kernel)
theorem ml_Bk_138 : Cond.methodLink RX0 138 yX8_tryQuit ∈ Tg := tg 1268 (by decide +kernel) (by decide +kernel)
theorem ml_Bk_141 : Cond.methodLink RX0 141 yX8_tryMeet ∈ Tg := tg 1269 (by decide +kernel) (by decide +kernel)
theorem ml_Bk_144 : Cond.methodLink RX0 144 yX8_tryCall ∈ Tg := tg 1270 (by decide +kernel) (by decide +kernel)
theorem ml_Bk_147 : Cond.methodLink RX0 147 yX8_letTickGo ∈ Tg := tg 1271 (by decide +kernel) (by decide +kernel)
theorem ml_Ch_22 : Cond.methodLink RX1 22 yX1_knownToAny ∈ Tg := tg 1050 (by decide +kernel) (by decide +kernel)
theorem ml_Ch_26 : Cond.methodLink RX1 26 yX1_walk ∈ Tg := tg 1057 (by decide +kernel) (by decide +kernel)
theorem ml_Ch_30 : Cond.methodLink RX1 30 yX8_knownTo ∈ Tg := tg 1053 (by decide +kernel) (by decide +kernel)
theorem ml_La_29 : Cond.methodLink RX2 29 yX5_nameOfPerson ∈ Tg := tg 1140 (by decide +kernel) (by decide +kernel)
theorem ml_La_35 : Cond.methodLink RX2 35 yX2_addWord ∈ Tg := tg 1144 (by decide +kernel) (by decide +kernel)
theorem ml_La_39 : Cond.methodLink RX2 39 yX8_isInLane ∈ Tg := tg 1152 (by decide +kernel) (by decide +kernel)
theorem ml_La_45 : Cond.methodLink RX2 45 yX2_addText ∈ Tg := tg 1154 (by decide +kernel) (by decide +kernel)
theorem ml_La_49 : Cond.methodLink RX2 49 yX8_detail ∈ Tg := tg 1160 (by decide +kernel) (by decide +kernel)
theorem ml_La_53 : Cond.methodLink RX2 53 yX2_addDigits ∈ Tg := tg 1164 (by decide +kernel) (by decide +kernel)
theorem ml_La_59 : Cond.methodLink RX2 59 yX2_addWay ∈ Tg := tg 1169 (by decide +kernel) (by decide +kernel)
theorem ml_La_62 : Cond.methodLink RX2 62 yX8_isKnocking ∈ Tg := tg 1173 (by decide +kernel) (by decide +kernel)
theorem ml_La_69 : Cond.methodLink RX2 69 yX5_nameOfHouse ∈ Tg := tg 1176 (by decide +kernel) (by decide +kernel)
theorem ml_La_72 : Cond.methodLink RX2 72 yJ0_length_8abf5 ∈ Tg := tg 1158 (by decide +kernel) (by decide +kernel)
theorem ml_La_78 : Cond.methodLink RX2 78 yJ0_charAt_5068e ∈ Tg := tg 1159 (by decide +kernel) (by decide +kernel)
theorem ml_La_82 : Cond.methodLink RX2 82 yX2_add ∈ Tg := tg 1148 (by decide +kernel) (by decide +kernel)
theorem ml_Mt_19 : Cond.methodLink RX3 19 yX8_thoseWhoCouldAnswer ∈ Tg := tg 1023 (by decide +kernel) (by decide +kernel)
theorem ml_Mt_25 : Cond.methodLink RX3 25 yX3_canBeOpen ∈ Tg := tg 1024 (by decide +kernel) (by decide +kernel)
theorem ml_Mt_29 : Cond.methodLink RX3 29 yJ6_bitCount_0f7a4 ∈ Tg := tg 1029 (by decide +kernel) (by decide +kernel)
theorem ml_Pa_24 : Cond.methodLink RX4 24 yX4_roomBehind ∈ Tg := tg 896 (by decide +kernel) (by decide +kernel)
theorem ml_Pa_28 : Cond.methodLink RX4 28 yX8_copyFrom ∈ Tg := tg 900 (by decide +kernel) (by decide +kernel)
theorem ml_Pa_35 : Cond.methodLink RX4 35 yX4_keep ∈ Tg := tg 910 (by decide +kernel) (by decide +kernel)
theorem ml_Qu_47 : Cond.methodLink RX5 47 arraycopyName ∈ Tg := tg 828 (by decide +kernel) (by decide +kernel)
theorem ml_Qu_53 : Cond.methodLink RX5 53 yX5_hasHouse ∈ Tg := tg 730 (by decide +kernel) (by decide +kernel)
theorem ml_Qu_57 : Cond.methodLink RX5 57 yX5_hasPerson ∈ Tg := tg 746 (by decide +kernel) (by decide +kernel)
theorem ml_Qr_27 : Cond.methodLink RX6 27 yX5_clear ∈ Tg := tg 630 (by decide +kernel) (by decide +kernel)
theorem ml_Qr_32 : Cond.methodLink RX6 32 yX8_clear ∈ Tg := tg 634 (by decide +kernel) (by decide +kernel)
theorem ml_Qr_45 : Cond.methodLink RX6 45 yX10_startReading ∈ Tg := tg 638 (by decide +kernel) (by decide +kernel)
theorem ml_Qr_51 : Cond.methodLink RX6 51 yX10_isEnd ∈ Tg := tg 664 (by decide +kernel) (by decide +kernel)
theorem ml_Qr_55 : Cond.methodLink RX6 55 yX6_readLine ∈ Tg := tg 668 (by decide +kernel) (by decide +kernel)
theorem ml_Qr_58 : Cond.methodLink RX6 58 yX10_takeLineEnd ∈ Tg := tg 804 (by decide +kernel) (by decide +kernel)
theorem ml_Qr_65 : Cond.methodLink RX6 65 yX6_refuse ∈ Tg := tg 672 (by decide +kernel) (by decide +kernel)
theorem ml_Qr_72 : Cond.methodLink RX6 72 yX6_readLane ∈ Tg := tg 680 (by decide +kernel) (by decide +kernel)
theorem ml_Qr_75 : Cond.methodLink RX6 75 yX6_readHouse ∈ Tg := tg 689 (by decide +kernel) (by decide +kernel)
theorem ml_Qr_78 : Cond.methodLink RX6 78 yX6_readPerson ∈ Tg := tg 709 (by decide +kernel) (by decide +kernel)
theorem ml_Qr_81 : Cond.methodLink RX6 81 yX6_readKnows ∈ Tg := tg 758 (by decide +kernel) (by decide +kernel)
theorem ml_Qr_84 : Cond.methodLink RX6 84 yX6_readCalls ∈ Tg := tg 778 (by decide +kernel) (by decide +kernel)
theorem ml_Qr_87 : Cond.methodLink RX6 87 yX6_readEar ∈ Tg := tg 796 (by decide +kernel) (by decide +kernel)
theorem ml_Qr_90 : Cond.methodLink RX6 90 yX6_readStay ∈ Tg := tg 800 (by decide +kernel) (by decide +kernel)
theorem ml_Qr_93 : Cond.methodLink RX6 93 yX10_refuse ∈ Tg := tg 676 (by decide +kernel) (by decide +kernel)
theorem ml_Qr_102 : Cond.methodLink RX6 102 yX10_takeNumber ∈ Tg := tg 684 (by decide +kernel) (by decide +kernel)
theorem ml_Qr_115 : Cond.methodLink RX6 115 yX10_takeNewName ∈ Tg := tg 693 (by decide +kernel) (by decide +kernel)
theorem ml_Qr_119 : Cond.methodLink RX6 119 yX5_addHouse ∈ Tg := tg 705 (by decide +kernel) (by decide +kernel)
theorem ml_Qr_123 : Cond.methodLink RX6 123 yX10_take ∈ Tg := tg 713 (by decide +kernel) (by decide +kernel)
theorem ml_Qr_126 : Cond.methodLink RX6 126 yX10_isWord ∈ Tg := tg 714 (by decide +kernel) (by decide +kernel)
theorem ml_Qr_129 : Cond.methodLink RX6 129 yX10_houseHere ∈ Tg := tg 718 (by decide +kernel) (by decide +kernel)
theorem ml_Qr_133 : Cond.methodLink RX6 133 yX10_takeOneOf ∈ Tg := tg 722 (by decide +kernel) (by decide +kernel)
theorem ml_Qr_136 : Cond.methodLink RX6 136 yX5_addPerson ∈ Tg := tg 726 (by decide +kernel) (by decide +kernel)
theorem ml_Qr_140 : Cond.methodLink RX6 140 yX8_addPerson ∈ Tg := tg 734 (by decide +kernel) (by decide +kernel)
theorem ml_Qr_143 : Cond.methodLink RX6 143 yX10_takePerson ∈ Tg := tg 762 (by decide +kernel) (by decide +kernel)
theorem ml_Qr_146 : Cond.methodLink RX6 146 yX8_tryMeet ∈ Tg := tg 770 (by decide +kernel) (by decide +kernel)
theorem ml_Qr_152 : Cond.methodLink RX6 152 yX10_takeHouse ∈ Tg := tg 782 (by decide +kernel) (by decide +kernel)
theorem ml_Qr_155 : Cond.methodLink RX6 155 yX8_tryCall ∈ Tg := tg 787 (by decide +kernel) (by decide +kernel)
theorem ml_Sy_31 : Cond.methodLink RX7 31 arraycopyName ∈ Tg := tg 840 (by decide +kernel) (by decide +kernel)
theorem ml_Sy_37 : Cond.methodLink RX7 37 yX7_clear ∈ Tg := tg 1289 (by decide +kernel) (by decide +kernel)
theorem ml_Sy_40 : Cond.methodLink RX7 40 yX10_startReading ∈ Tg := tg 1290 (by decide +kernel) (by decide +kernel)
theorem ml_Sy_46 : Cond.methodLink RX7 46 yX7_readCond ∈ Tg := tg 1291 (by decide +kernel) (by decide +kernel)
theorem ml_Sy_50 : Cond.methodLink RX7 50 yX10_isEnd ∈ Tg := tg 1332 (by decide +kernel) (by decide +kernel)
theorem ml_Sy_54 : Cond.methodLink RX7 54 yX7_refuse ∈ Tg := tg 1303 (by decide +kernel) (by decide +kernel)
theorem ml_Sy_58 : Cond.methodLink RX7 58 yX10_refuse ∈ Tg := tg 1306 (by decide +kernel) (by decide +kernel)
theorem ml_Sy_61 : Cond.methodLink RX7 61 yX7_readOne ∈ Tg := tg 1295 (by decide +kernel) (by decide +kernel)
theorem ml_Sy_64 : Cond.methodLink RX7 64 yX7_add ∈ Tg := tg 1316 (by decide +kernel) (by decide +kernel)
theorem ml_Sy_68 : Cond.methodLink RX7 68 yX10_isWord ∈ Tg := tg 1331 (by decide +kernel) (by decide +kernel)
theorem ml_Sy_72 : Cond.methodLink RX7 72 yX10_take ∈ Tg := tg 1311 (by decide +kernel) (by decide +kernel)
theorem ml_Sy_75 : Cond.methodLink RX7 75 yX10_isSignOf ∈ Tg := tg 1299 (by decide +kernel) (by decide +kernel)
theorem ml_Sy_85 : Cond.methodLink RX7 85 yX7_canBeginOne ∈ Tg := tg 1300 (by decide +kernel) (by decide +kernel)
theorem ml_Sy_88 : Cond.methodLink RX7 88 yX7_readBracket ∈ Tg := tg 1307 (by decide +kernel) (by decide +kernel)
theorem ml_Sy_91 : Cond.methodLink RX7 91 yX7_readNot ∈ Tg := tg 1312 (by decide +kernel) (by decide +kernel)
theorem ml_Sy_94 : Cond.methodLink RX7 94 yX7_readPlainOne ∈ Tg := tg 1320 (by decide +kernel) (by decide +kernel)
theorem ml_Sy_97 : Cond.methodLink RX7 97 yX10_takePerson ∈ Tg := tg 1324 (by decide +kernel) (by decide +kernel)
theorem ml_Sy_101 : Cond.methodLink RX7 101 yX10_takeHouse ∈ Tg := tg 1325 (by decide +kernel) (by decide +kernel)
theorem ml_Sy_104 : Cond.methodLink RX7 104 yX10_takeCompare ∈ Tg := tg 1326 (by decide +kernel) (by decide +kernel)
theorem ml_Sy_108 : Cond.methodLink RX7 108 yX10_takeNumber ∈ Tg := tg 1330 (by decide +kernel) (by decide +kernel)
theorem ml_Sy_115 : Cond.methodLink RX7 115 yX7_pop ∈ Tg := tg 1342 (by decide +kernel) (by decide +kernel)
theorem ml_Sy_118 : Cond.methodLink RX7 118 yX7_push ∈ Tg := tg 1346 (by decide +kernel) (by decide +kernel)
theorem ml_Sy_121 : Cond.methodLink RX7 121 yX7_personsOf ∈ Tg := tg 1350 (by decide +kernel) (by decide +kernel)
theorem ml_Sy_136 : Cond.methodLink RX7 136 yX7_isTrueOf ∈ Tg := tg 1353 (by decide +kernel) (by decide +kernel)
theorem ml_Sy_140 : Cond.methodLink RX7 140 yX8_isInLane ∈ Tg := tg 1356 (by decide +kernel) (by decide +kernel)
theorem ml_Sy_143 : Cond.methodLink RX7 143 yX8_isKnocking ∈ Tg := tg 1357 (by decide +kernel) (by decide +kernel)
theorem ml_Sy_146 : Cond.methodLink RX7 146 yX8_isInside ∈ Tg := tg 1358 (by decide +kernel) (by decide +kernel)
theorem ml_Sy_149 : Cond.methodLink RX7 149 yX5_isStern ∈ Tg := tg 1359 (by decide +kernel) (by decide +kernel)
theorem ml_Sy_152 : Cond.methodLink RX7 152 yX8_doesKnow ∈ Tg := tg 1360 (by decide +kernel) (by decide +kernel)
theorem ml_Sy_156 : Cond.methodLink RX7 156 yX5_homeOf ∈ Tg := tg 1361 (by decide +kernel) (by decide +kernel)
theorem ml_Sy_159 : Cond.methodLink RX7 159 yX8_detail ∈ Tg := tg 1362 (by decide +kernel) (by decide +kernel)
theorem ml_Sy_162 : Cond.methodLink RX7 162 yX7_compares ∈ Tg := tg 1363 (by decide +kernel) (by decide +kernel)
theorem ml_Sy_166 : Cond.methodLink RX7 166 yX8_knownTo ∈ Tg := tg 1366 (by decide +kernel) (by decide +kernel)
theorem ml_Sy_169 : Cond.methodLink RX7 169 yJ6_bitCount_0f7a4 ∈ Tg := tg 1367 (by decide +kernel) (by decide +kernel)
theorem ml_Sc_56 : Cond.methodLink RX8 56 arraycopyName ∈ Tg := tg 835 (by decide +kernel) (by decide +kernel)
theorem ml_Sc_62 : Cond.methodLink RX8 62 yX5_hasPerson ∈ Tg := tg 738 (by decide +kernel) (by decide +kernel)
theorem ml_Sc_68 : Cond.methodLink RX8 68 yX5_homeOf ∈ Tg := tg 742 (by decide +kernel) (by decide +kernel)
theorem ml_Sc_72 : Cond.methodLink RX8 72 yX5_livingIn ∈ Tg := tg 747 (by decide +kernel) (by decide +kernel)
theorem ml_Sc_75 : Cond.methodLink RX8 75 yX8_makeKnown ∈ Tg := tg 751 (by decide +kernel) (by decide +kernel)
theorem ml_Sc_79 : Cond.methodLink RX8 79 yX8_housesToCallAt ∈ Tg := tg 792 (by decide +kernel) (by decide +kernel)
theorem ml_Sc_82 : Cond.methodLink RX8 82 yX5_isStern ∈ Tg := tg 990 (by decide +kernel) (by decide +kernel)
theorem ml_Sc_85 : Cond.methodLink RX8 85 yX8_isInLane ∈ Tg := tg 1120 (by decide +kernel) (by decide +kernel)
theorem ml_Sc_98 : Cond.methodLink RX8 98 yX8_strangersOf ∈ Tg := tg 883 (by decide +kernel) (by decide +kernel)
theorem ml_Sc_101 : Cond.methodLink RX8 101 yJ6_bitCount_0f7a4 ∈ Tg := tg 1090 (by decide +kernel) (by decide +kernel)
theorem ml_Sc_106 : Cond.methodLink RX8 106 yX5_hasHouse ∈ Tg := tg 791 (by decide +kernel) (by decide +kernel)
theorem ml_Sc_109 : Cond.methodLink RX8 109 yX5_placeOf ∈ Tg := tg 905 (by decide +kernel) (by decide +kernel)
theorem ml_Sc_112 : Cond.methodLink RX8 112 yX8_putInLane ∈ Tg := tg 930 (by decide +kernel) (by decide +kernel)
theorem ml_Sc_116 : Cond.methodLink RX8 116 yX8_doesKnow ∈ Tg := tg 774 (by decide +kernel) (by decide +kernel)
theorem ml_Sc_119 : Cond.methodLink RX8 119 yX8_letTickGo ∈ Tg := tg 952 (by decide +kernel) (by decide +kernel)
theorem ml_Sc_125 : Cond.methodLink RX8 125 yX8_actByDraw ∈ Tg := tg 1196 (by decide +kernel) (by decide +kernel)
theorem ml_Sc_128 : Cond.methodLink RX8 128 yX8_draw ∈ Tg := tg 1200 (by decide +kernel) (by decide +kernel)
theorem ml_Sc_131 : Cond.methodLink RX8 131 yX8_tryKnock ∈ Tg := tg 1205 (by decide +kernel) (by decide +kernel)
theorem ml_Sc_135 : Cond.methodLink RX8 135 yX8_tryGo ∈ Tg := tg 1206 (by decide +kernel) (by decide +kernel)
theorem ml_Sc_138 : Cond.methodLink RX8 138 yX8_tryCall ∈ Tg := tg 1207 (by decide +kernel) (by decide +kernel)
theorem ml_Sc_141 : Cond.methodLink RX8 141 yX8_tryQuit ∈ Tg := tg 1208 (by decide +kernel) (by decide +kernel)
theorem ml_Sc_145 : Cond.methodLink RX8 145 yJ9_min_7cf53 ∈ Tg := tg 956 (by decide +kernel) (by decide +kernel)
theorem ml_Sc_150 : Cond.methodLink RX8 150 yX8_stayOn ∈ Tg := tg 959 (by decide +kernel) (by decide +kernel)
theorem ml_Sc_153 : Cond.methodLink RX8 153 yX8_walkOn ∈ Tg := tg 963 (by decide +kernel) (by decide +kernel)
theorem ml_Sc_156 : Cond.methodLink RX8 156 yX8_callAtDoor ∈ Tg := tg 967 (by decide +kernel) (by decide +kernel)
theorem ml_Sc_159 : Cond.methodLink RX8 159 yX8_answererOf ∈ Tg := tg 975 (by decide +kernel) (by decide +kernel)
theorem ml_Sc_162 : Cond.methodLink RX8 162 yX8_openDoor ∈ Tg := tg 986 (by decide +kernel) (by decide +kernel)
theorem ml_Sc_168 : Cond.methodLink RX8 168 yX8_dropCall ∈ Tg := tg 971 (by decide +kernel) (by decide +kernel)
theorem ml_Sc_174 : Cond.methodLink RX8 174 yX8_thoseWhoCouldAnswer ∈ Tg := tg 979 (by decide +kernel) (by decide +kernel)
theorem ml_Sc_177 : Cond.methodLink RX8 177 yJ9_abs_0f7a4 ∈ Tg := tg 983 (by decide +kernel) (by decide +kernel)
theorem ml_Sc_183 : Cond.methodLink RX8 183 yJ9_max_7cf53 ∈ Tg := tg 1091 (by decide +kernel) (by decide +kernel)
theorem ml_St_32 : Cond.methodLink RX9 32 yX5_copyFrom ∈ Tg := tg 824 (by decide +kernel) (by decide +kernel)
theorem ml_St_35 : Cond.methodLink RX9 35 yX8_copyFrom ∈ Tg := tg 831 (by decide +kernel) (by decide +kernel)
theorem ml_St_38 : Cond.methodLink RX9 38 yX7_copyFrom ∈ Tg := tg 836 (by decide +kernel) (by decide +kernel)
theorem ml_Ta_59 : Cond.methodLink RX10 59 yX10_take ∈ Tg := tg 642 (by decide +kernel) (by decide +kernel)
theorem ml_Ta_62 : Cond.methodLink RX10 62 yX10_byteOf ∈ Tg := tg 646 (by decide +kernel) (by decide +kernel)
theorem ml_Ta_66 : Cond.methodLink RX10 66 yX10_isBlank ∈ Tg := tg 650 (by decide +kernel) (by decide +kernel)
theorem ml_Ta_79 : Cond.methodLink RX10 79 yX10_isSign ∈ Tg := tg 653 (by decide +kernel) (by decide +kernel)
theorem ml_Ta_82 : Cond.methodLink RX10 82 yX10_takeRun ∈ Tg := tg 656 (by decide +kernel) (by decide +kernel)
theorem ml_Ta_85 : Cond.methodLink RX10 85 yX10_nameWord ∈ Tg := tg 660 (by decide +kernel) (by decide +kernel)
theorem ml_Ta_92 : Cond.methodLink RX10 92 yX10_isSignOf ∈ Tg := tg 808 (by decide +kernel) (by decide +kernel)
theorem ml_Ta_96 : Cond.methodLink RX10 96 yX10_refuse ∈ Tg := tg 688 (by decide +kernel) (by decide +kernel)
theorem ml_Ta_99 : Cond.methodLink RX10 99 yX5_findHouse ∈ Tg := tg 697 (by decide +kernel) (by decide +kernel)
theorem ml_Ta_105 : Cond.methodLink RX10 105 yX5_findPerson ∈ Tg := tg 701 (by decide +kernel) (by decide +kernel)
theorem ml_Ta_108 : Cond.methodLink RX10 108 yX10_houseHere ∈ Tg := tg 786 (by decide +kernel) (by decide +kernel)
theorem ml_Ta_112 : Cond.methodLink RX10 112 yX10_personHere ∈ Tg := tg 766 (by decide +kernel) (by decide +kernel)
theorem ml_Mo_10 : Cond.methodLink RX12 10 yX12_four ∈ Tg := tg 1477 (by decide +kernel) (by decide +kernel)
theorem ml_Mo_148 : Cond.methodLink RX12 148 yX12_clears ∈ Tg := tg 1520 (by decide +kernel) (by decide +kernel)
theorem ml_Mo_151 : Cond.methodLink RX12 151 yX12_peek ∈ Tg := tg 1681 (by decide +kernel) (by decide +kernel)
theorem ml_Mo_164 : Cond.methodLink RX12 164 yX12_isSmall ∈ Tg := tg 1685 (by decide +kernel) (by decide +kernel)
theorem ml_Mo_168 : Cond.methodLink RX12 168 yX12_isDigit ∈ Tg := tg 1688 (by decide +kernel) (by decide +kernel)
theorem ml_Mo_184 : Cond.methodLink RX12 184 yX12_isSign ∈ Tg := tg 1772 (by decide +kernel) (by decide +kernel)
theorem ml_Mo_187 : Cond.methodLink RX12 187 yX12_bad ∈ Tg := tg 1706 (by decide +kernel) (by decide +kernel)
theorem ml_Mo_190 : Cond.methodLink RX12 190 yX12_next ∈ Tg := tg 1677 (by decide +kernel) (by decide +kernel)
theorem ml_Mo_193 : Cond.methodLink RX12 193 yX12_isIn ∈ Tg := tg 1718 (by decide +kernel) (by decide +kernel)
theorem ml_Mo_200 : Cond.methodLink RX12 200 yX12_takes ∈ Tg := tg 1714 (by decide +kernel) (by decide +kernel)
theorem ml_Mo_204 : Cond.methodLink RX12 204 yX12_isName ∈ Tg := tg 1729 (by decide +kernel) (by decide +kernel)
theorem ml_Mo_208 : Cond.methodLink RX12 208 yX12_seek ∈ Tg := tg 1733 (by decide +kernel) (by decide +kernel)
theorem ml_Mo_212 : Cond.methodLink RX12 212 yX12_looksAt ∈ Tg := tg 1745 (by decide +kernel) (by decide +kernel)
theorem ml_Mo_218 : Cond.methodLink RX12 218 yX12_bitOf ∈ Tg := tg 1703 (by decide +kernel) (by decide +kernel)
theorem ml_Mo_221 : Cond.methodLink RX12 221 yX12_isWord ∈ Tg := tg 1695 (by decide +kernel) (by decide +kernel)
theorem ml_Mo_225 : Cond.methodLink RX12 225 yX12_once ∈ Tg := tg 1699 (by decide +kernel) (by decide +kernel)
theorem ml_Mo_228 : Cond.methodLink RX12 228 yX12_puts ∈ Tg := tg 1710 (by decide +kernel) (by decide +kernel)
theorem ml_Mo_231 : Cond.methodLink RX12 231 yX12_readHouse ∈ Tg := tg 1721 (by decide +kernel) (by decide +kernel)
theorem ml_Mo_234 : Cond.methodLink RX12 234 yX12_readPerson ∈ Tg := tg 1737 (by decide +kernel) (by decide +kernel)
theorem ml_Mo_237 : Cond.methodLink RX12 237 yX12_readKnows ∈ Tg := tg 1760 (by decide +kernel) (by decide +kernel)
theorem ml_Mo_240 : Cond.methodLink RX12 240 yX12_readCalls ∈ Tg := tg 1764 (by decide +kernel) (by decide +kernel)
theorem ml_Mo_243 : Cond.methodLink RX12 243 yX12_fresh ∈ Tg := tg 1725 (by decide +kernel) (by decide +kernel)
theorem ml_Mo_246 : Cond.methodLink RX12 246 yX12_wayWord ∈ Tg := tg 1753 (by decide +kernel) (by decide +kernel)
theorem ml_Mo_249 : Cond.methodLink RX12 249 yX12_takesName ∈ Tg := tg 1741 (by decide +kernel) (by decide +kernel)
theorem ml_Mo_252 : Cond.methodLink RX12 252 yX12_takesWay ∈ Tg := tg 1749 (by decide +kernel) (by decide +kernel)
theorem ml_Mo_255 : Cond.methodLink RX12 255 yX12_knowsIn ∈ Tg := tg 1757 (by decide +kernel) (by decide +kernel)
theorem ml_Mo_259 : Cond.methodLink RX12 259 yX12_taken ∈ Tg := tg 1673 (by decide +kernel) (by decide +kernel)
theorem ml_Mo_265 : Cond.methodLink RX12 265 yX12_readLine ∈ Tg := tg 1691 (by decide +kernel) (by decide +kernel)
theorem ml_Mo_268 : Cond.methodLink RX12 268 yX12_sign ∈ Tg := tg 1768 (by decide +kernel) (by decide +kernel)
theorem ml_Mo_274 : Cond.methodLink RX12 274 yX12_dwellers ∈ Tg := tg 1788 (by decide +kernel) (by decide +kernel)
theorem ml_Mo_278 : Cond.methodLink RX12 278 yX12_isStranger ∈ Tg := tg 1796 (by decide +kernel) (by decide +kernel)
theorem ml_Mo_281 : Cond.methodLink RX12 281 yX12_strangers ∈ Tg := tg 1792 (by decide +kernel) (by decide +kernel)
theorem ml_Mo_284 : Cond.methodLink RX12 284 yX12_isHouse ∈ Tg := tg 1784 (by decide +kernel) (by decide +kernel)
theorem ml_Mo_287 : Cond.methodLink RX12 287 yX12_areAt ∈ Tg := tg 1800 (by decide +kernel) (by decide +kernel)
theorem ml_Mo_290 : Cond.methodLink RX12 290 yX12_isPerson ∈ Tg := tg 1808 (by decide +kernel) (by decide +kernel)
theorem ml_Mo_293 : Cond.methodLink RX12 293 yX12_throwsIf ∈ Tg := tg 1812 (by decide +kernel) (by decide +kernel)
theorem ml_Mo_297 : Cond.methodLink RX12 297 yX12_are ∈ Tg := tg 1824 (by decide +kernel) (by decide +kernel)
theorem ml_Mo_300 : Cond.methodLink RX12 300 yX12_openHouses ∈ Tg := tg 1828 (by decide +kernel) (by decide +kernel)
theorem ml_Mo_303 : Cond.methodLink RX12 303 yX12_callOf ∈ Tg := tg 1872 (by decide +kernel) (by decide +kernel)
theorem ml_Mo_307 : Cond.methodLink RX12 307 yX12_canAnswer ∈ Tg := tg 1905 (by decide +kernel) (by decide +kernel)
theorem ml_Mo_310 : Cond.methodLink RX12 310 yX12_stands ∈ Tg := tg 1844 (by decide +kernel) (by decide +kernel)
theorem ml_Mo_314 : Cond.methodLink RX12 314 yX12_walks ∈ Tg := tg 1892 (by decide +kernel) (by decide +kernel)
theorem ml_Mo_317 : Cond.methodLink RX12 317 yX12_strikes ∈ Tg := tg 1896 (by decide +kernel) (by decide +kernel)
theorem ml_Mo_320 : Cond.methodLink RX12 320 yX12_answers ∈ Tg := tg 1900 (by decide +kernel) (by decide +kernel)
theorem ml_Mo_323 : Cond.methodLink RX12 323 yX12_opens0 ∈ Tg := tg 1909 (by decide +kernel) (by decide +kernel)
theorem ml_Mo_327 : Cond.methodLink RX12 327 yX12_tick ∈ Tg := tg 1888 (by decide +kernel) (by decide +kernel)
theorem ml_Mo_330 : Cond.methodLink RX12 330 yX12_whyKnock ∈ Tg := tg 1836 (by decide +kernel) (by decide +kernel)
theorem ml_Mo_333 : Cond.methodLink RX12 333 yX12_stores ∈ Tg := tg 1840 (by decide +kernel) (by decide +kernel)
theorem ml_Mo_336 : Cond.methodLink RX12 336 yX12_whyGo ∈ Tg := tg 1852 (by decide +kernel) (by decide +kernel)
theorem ml_Mo_339 : Cond.methodLink RX12 339 yX12_whyCall ∈ Tg := tg 1868 (by decide +kernel) (by decide +kernel)
theorem ml_Mo_342 : Cond.methodLink RX12 342 yX12_books ∈ Tg := tg 1876 (by decide +kernel) (by decide +kernel)
theorem ml_Mo_345 : Cond.methodLink RX12 345 yX12_goesOn ∈ Tg := tg 1884 (by decide +kernel) (by decide +kernel)
theorem ml_Mo_348 : Cond.methodLink RX12 348 yX12_bits ∈ Tg := tg 1925 (by decide +kernel) (by decide +kernel)
theorem ml_Mo_351 : Cond.methodLink RX12 351 yX12_areAnswered ∈ Tg := tg 1928 (by decide +kernel) (by decide +kernel)
theorem ml_Mo_361 : Cond.methodLink RX12 361 yX12_octet ∈ Tg := tg 1948 (by decide +kernel) (by decide +kernel)
theorem ml_Mo_364 : Cond.methodLink RX12 364 yX12_greater ∈ Tg := tg 1960 (by decide +kernel) (by decide +kernel)
theorem ml_Mo_367 : Cond.methodLink RX12 367 yX12_isMeant ∈ Tg := tg 1952 (by decide +kernel) (by decide +kernel)
theorem ml_Mo_376 : Cond.methodLink RX12 376 yX12_leftBy ∈ Tg := tg 1956 (by decide +kernel) (by decide +kernel)
theorem ml_Mo_379 : Cond.methodLink RX12 379 yX12_tries ∈ Tg := tg 1971 (by decide +kernel) (by decide +kernel)
theorem ml_Mo_382 : Cond.methodLink RX12 382 yX12_brings ∈ Tg := tg 1975 (by decide +kernel) (by decide +kernel)
theorem ml_Mo_390 : Cond.methodLink RX12 390 yX12_lays ∈ Tg := tg 2004 (by decide +kernel) (by decide +kernel)
theorem ml_Mo_393 : Cond.methodLink RX12 393 yX12_spells ∈ Tg := tg 1999 (by decide +kernel) (by decide +kernel)
theorem ml_Mo_397 : Cond.methodLink RX12 397 yX12_says ∈ Tg := tg 2008 (by decide +kernel) (by decide +kernel)
theorem ml_Mo_408 : Cond.methodLink RX12 408 yX12_draw ∈ Tg := tg 2030 (by decide +kernel) (by decide +kernel)
theorem ml_Mo_411 : Cond.methodLink RX12 411 yX12_drawPerson ∈ Tg := tg 2026 (by decide +kernel) (by decide +kernel)
theorem ml_Mo_414 : Cond.methodLink RX12 414 yX12_draws ∈ Tg := tg 2022 (by decide +kernel) (by decide +kernel)
theorem ml_Mo_420 : Cond.methodLink RX12 420 yX12_bookLine ∈ Tg := tg 2043 (by decide +kernel) (by decide +kernel)
theorem ml_Mo_423 : Cond.methodLink RX12 423 yX12_does ∈ Tg := tg 2047 (by decide +kernel) (by decide +kernel)
theorem ml_Mo_436 : Cond.methodLink RX12 436 yX12_code ∈ Tg := tg 2063 (by decide +kernel) (by decide +kernel)
theorem ml_Mo_442 : Cond.methodLink RX12 442 yX12_leafOf ∈ Tg := tg 2079 (by decide +kernel) (by decide +kernel)
theorem ml_Mo_451 : Cond.methodLink RX12 451 yX12_nots ∈ Tg := tg 2059 (by decide +kernel) (by decide +kernel)
theorem ml_Mo_454 : Cond.methodLink RX12 454 yX12_joins ∈ Tg := tg 2067 (by decide +kernel) (by decide +kernel)
theorem ml_Mo_457 : Cond.methodLink RX12 457 yX12_behind ∈ Tg := tg 2071 (by decide +kernel) (by decide +kernel)
theorem ml_Mo_460 : Cond.methodLink RX12 460 yX12_operand ∈ Tg := tg 2075 (by decide +kernel) (by decide +kernel)
theorem ml_Mo_463 : Cond.methodLink RX12 463 yX12_isLeaf ∈ Tg := tg 2091 (by decide +kernel) (by decide +kernel)
theorem ml_Mo_467 : Cond.methodLink RX12 467 yX12_isSaid ∈ Tg := tg 2087 (by decide +kernel) (by decide +kernel)
theorem mn_Ch_18 : Cond.methodLinkNest RX1 18 yX11_hasBit "KnockLane" ∈ Tn := tn 1049 (by decide +kernel)
theorem mn_Ch_40 : Cond.methodLinkNest RX1 40 yX11_bitInOrder "KnockLane" ∈ Tn := tn 1061 (by decide +kernel)
theorem mn_Mt_34 : Cond.methodLinkNest RX3 34 yX11_hasBit "KnockLane" ∈ Tn := tn 1028 (by decide +kernel)
theorem mn_Sc_88 : Cond.methodLinkNest RX8 88 yX11_hasBit "KnockLane" ∈ Tn := tn 755 (by decide +kernel)
theorem cst_Sc_144 : Cond.constant RX8 144 (1103515245 : Int32) ∈ Tg := tg 1204 (by decide +kernel) (by decide +kernel)
theorem cst_Mo_306 : Cond.constant RX12 306 (1000000 : Int32) ∈ Tg := tg 1904 (by decide +kernel) (by decide +kernel)
theorem cst_Mo_407 : Cond.constant RX12 407 (1103515245 : Int32) ∈ Tg := tg 2034 (by decide +kernel) (by decide +kernel)
theorem cst_JI_265 : Cond.constant RJ6 265 (1431655765 : Int32) ∈ Tg := tg 1032 (by decide +kernel) (by decide +kernel)
theorem cst_JI_266 : Cond.constant RJ6 266 (858993459 : Int32) ∈ Tg := tg 1033 (by decide +kernel) (by decide +kernel)
theorem cst_JI_267 : Cond.constant RJ6 267 (252645135 : Int32) ∈ Tg := tg 1034 (by decide +kernel) (by decide +kernel)
theorem cl2_Mo_90 : Cond.constantLong RX12 90 (1818324581 : Int64) ∈ Tg := tg 1491 (by decide +kernel) (by decide +kernel)
theorem cl2_Mo_92 : Cond.constantLong RX12 92 (448546567013 : Int64) ∈ Tg := tg 1492 (by decide +kernel) (by decide +kernel)
theorem cl2_Mo_94 : Cond.constantLong RX12 94 (123581014175598 : Int64) ∈ Tg := tg 1493 (by decide +kernel) (by decide +kernel)
theorem cl2_Mo_96 : Cond.constantLong RX12 96 (500135193968 : Int64) ∈ Tg := tg 1494 (by decide +kernel) (by decide +kernel)
theorem cl2_Mo_98 : Cond.constantLong RX12 98 (461414299507 : Int64) ∈ Tg := tg 1495 (by decide +kernel) (by decide +kernel)
theorem cl2_Mo_100 : Cond.constantLong RX12 100 (426836257907 : Int64) ∈ Tg := tg 1496 (by decide +kernel) (by decide +kernel)
theorem cl2_Mo_102 : Cond.constantLong RX12 102 (6644082 : Int64) ∈ Tg := tg 1497 (by decide +kernel) (by decide +kernel)
theorem cl2_Mo_104 : Cond.constantLong RX12 104 (1937006969 : Int64) ∈ Tg := tg 1498 (by decide +kernel) (by decide +kernel)
theorem cl2_Mo_106 : Cond.constantLong RX12 106 (30064 : Int64) ∈ Tg := tg 1499 (by decide +kernel) (by decide +kernel)
theorem cl2_Mo_108 : Cond.constantLong RX12 108 (1685026670 : Int64) ∈ Tg := tg 1500 (by decide +kernel) (by decide +kernel)
theorem cl2_Mo_110 : Cond.constantLong RX12 110 (126943688025203 : Int64) ∈ Tg := tg 1501 (by decide +kernel) (by decide +kernel)
theorem cl2_Mo_112 : Cond.constantLong RX12 112 (1802071652 : Int64) ∈ Tg := tg 1502 (by decide +kernel) (by decide +kernel)
theorem cl2_Mo_114 : Cond.constantLong RX12 114 (495874044526 : Int64) ∈ Tg := tg 1503 (by decide +kernel) (by decide +kernel)
theorem cl2_Mo_116 : Cond.constantLong RX12 116 (118122059361139 : Int64) ∈ Tg := tg 1504 (by decide +kernel) (by decide +kernel)
theorem cl2_Mo_118 : Cond.constantLong RX12 118 (1735353715 : Int64) ∈ Tg := tg 1505 (by decide +kernel) (by decide +kernel)
theorem cl2_Mo_120 : Cond.constantLong RX12 120 (487301149811 : Int64) ∈ Tg := tg 1506 (by decide +kernel) (by decide +kernel)
theorem cl2_Mo_122 : Cond.constantLong RX12 122 (469852583027 : Int64) ∈ Tg := tg 1507 (by decide +kernel) (by decide +kernel)
theorem cl2_Mo_124 : Cond.constantLong RX12 124 (1953063787 : Int64) ∈ Tg := tg 1508 (by decide +kernel) (by decide +kernel)
theorem cl2_Mo_126 : Cond.constantLong RX12 126 (28530 : Int64) ∈ Tg := tg 1509 (by decide +kernel) (by decide +kernel)
theorem cl2_Mo_128 : Cond.constantLong RX12 128 (6385252 : Int64) ∈ Tg := tg 1510 (by decide +kernel) (by decide +kernel)
theorem cl2_Mo_130 : Cond.constantLong RX12 130 (7237492 : Int64) ∈ Tg := tg 1511 (by decide +kernel) (by decide +kernel)
theorem cl2_Mo_132 : Cond.constantLong RX12 132 (33602640515001959 : Int64) ∈ Tg := tg 1512 (by decide +kernel) (by decide +kernel)
theorem cl2_Mo_134 : Cond.constantLong RX12 134 (7741247282290978407 : Int64) ∈ Tg := tg 1513 (by decide +kernel) (by decide +kernel)
theorem cl2_Mo_136 : Cond.constantLong RX12 136 (115923103605861 : Int64) ∈ Tg := tg 1514 (by decide +kernel) (by decide +kernel)
theorem cl2_Mo_138 : Cond.constantLong RX12 138 (28518 : Int64) ∈ Tg := tg 1515 (by decide +kernel) (by decide +kernel)
theorem cl2_Mo_140 : Cond.constantLong RX12 140 (482854658917 : Int64) ∈ Tg := tg 1516 (by decide +kernel) (by decide +kernel)
theorem cl2_Mo_142 : Cond.constantLong RX12 142 (461414299502 : Int64) ∈ Tg := tg 1517 (by decide +kernel) (by decide +kernel)
theorem cl2_Mo_144 : Cond.constantLong RX12 144 (131260264768868 : Int64) ∈ Tg := tg 1518 (by decide +kernel) (by decide +kernel)
theorem cl2_Mo_146 : Cond.constantLong RX12 146 (121450625394034 : Int64) ∈ Tg := tg 1519 (by decide +kernel) (by decide +kernel)
theorem cl2_Mo_388 : Cond.constantLong RX12 388 (255 : Int64) ∈ Tg := tg 2003 (by decide +kernel) (by decide +kernel)
theorem cl2_Mo_400 : Cond.constantLong RX12 400 (24948 : Int64) ∈ Tg := tg 2012 (by decide +kernel) (by decide +kernel)
theorem cl2_Mo_402 : Cond.constantLong RX12 402 (26990 : Int64) ∈ Tg := tg 2013 (by decide +kernel) (by decide +kernel)
set_option maxRecDepth 20000 in
theorem wv_X11_finishReading : wV yX11_finishReading cX11_finishReading 1 none := ⟨tg 814 (by decide +kernel) (by decide +kernel), tg 12 (by decide +kernel) (by decide +kernel), tg 117 (by decide +kernel) (by decide +kernel), tg 815 rfl rfl⟩
set_option maxRecDepth 20000 in
theorem wv_X11_imageOf : wV yX11_imageOf cX11_imageOf 2 (some (.object "KnockLane$Street")) := ⟨tg 1375 (by decide +kernel) (by decide +kernel), tg 45 (by decide +kernel) (by decide +kernel), tg 117 (by decide +kernel) (by decide +kernel), tg 1376 rfl rfl⟩
set_option maxRecDepth 20000 in
theorem wv_X11_whoByPairs : wV yX11_whoByPairs cX11_whoByPairs 6 (some .int) := ⟨tg 1079 (by decide +kernel) (by decide +kernel), tg 23 (by decide +kernel) (by decide +kernel), tg 117 (by decide +kernel) (by decide +kernel), tg 1080 rfl rfl⟩
set_option maxRecDepth 20000 in
theorem wv_X0_add : wV yX0_add cX0_add 4 none := ⟨tg 1237 (by decide +kernel) (by decide +kernel), tg 33 (by decide +kernel) (by decide +kernel), tg 129 (by decide +kernel) (by decide +kernel), tg 1238 rfl rfl⟩
set_option maxRecDepth 20000 in
theorem wv_X0_addAct : wV yX0_addAct cX0_addAct 4 (some .boolean) := ⟨tg 1247 (by decide +kernel) (by decide +kernel), tg 35 (by decide +kernel) (by decide +kernel), tg 129 (by decide +kernel) (by decide +kernel), tg 1248 rfl rfl⟩
set_option maxRecDepth 20000 in
theorem wv_X0_addMeeting : wV yX0_addMeeting cX0_addMeeting 3 (some .boolean) := ⟨tg 1253 (by decide +kernel) (by decide +kernel), tg 36 (by decide +kernel) (by decide +kernel), tg 129 (by decide +kernel) (by decide +kernel), tg 1254 rfl rfl⟩
set_option maxRecDepth 20000 in
theorem wv_X0_live : wV yX0_live cX0_live 3 none := ⟨tg 1257 (by decide +kernel) (by decide +kernel), tg 1258 (by decide +kernel) (by decide +kernel), tg 129 (by decide +kernel) (by decide +kernel), tg 1259 rfl rfl⟩
set_option maxRecDepth 20000 in
theorem wv_X0_readAct : wV yX0_readAct cX0_readAct 3 (some .boolean) := ⟨tg 1241 (by decide +kernel) (by decide +kernel), tg 34 (by decide +kernel) (by decide +kernel), tg 129 (by decide +kernel) (by decide +kernel), tg 1242 rfl rfl⟩
set_option maxRecDepth 20000 in
theorem wv_X0_readAll : wV yX0_readAll cX0_readAll 2 (some .boolean) := ⟨tg 1218 (by decide +kernel) (by decide +kernel), tg 1219 (by decide +kernel) (by decide +kernel), tg 129 (by decide +kernel) (by decide +kernel), tg 1220 rfl rfl⟩
set_option maxRecDepth 20000 in
theorem wv_X0_readLine : wV yX0_readLine cX0_readLine 3 (some .boolean) := ⟨tg 1225 (by decide +kernel) (by decide +kernel), tg 31 (by decide +kernel) (by decide +kernel), tg 129 (by decide +kernel) (by decide +kernel), tg 1226 rfl rfl⟩
set_option maxRecDepth 20000 in
theorem wv_X0_readTicks : wV yX0_readTicks cX0_readTicks 2 (some .boolean) := ⟨tg 1232 (by decide +kernel) (by decide +kernel), tg 32 (by decide +kernel) (by decide +kernel), tg 129 (by decide +kernel) (by decide +kernel), tg 1233 rfl rfl⟩
set_option maxRecDepth 20000 in
theorem wv_X0_tell : wV yX0_tell cX0_tell 2 (some .int) := ⟨tg 1278 (by decide +kernel) (by decide +kernel), tg 1279 (by decide +kernel) (by decide +kernel), tg 129 (by decide +kernel) (by decide +kernel), tg 1280 rfl rfl⟩
set_option maxRecDepth 20000 in
theorem wv_X1_find : wV yX1_find cX1_find 5 (some .int) := ⟨tg 1046 (by decide +kernel) (by decide +kernel), tg 1047 (by decide +kernel) (by decide +kernel), tg 131 (by decide +kernel) (by decide +kernel), tg 1048 rfl rfl⟩
set_option maxRecDepth 20000 in
theorem wv_X1_personAt : wV yX1_personAt cX1_personAt 2 (some .int) := ⟨tg 1070 (by decide +kernel) (by decide +kernel), tg 1071 (by decide +kernel) (by decide +kernel), tg 131 (by decide +kernel) (by decide +kernel), tg 1072 rfl rfl⟩
set_option maxRecDepth 20000 in
theorem wv_X1_walk : wV yX1_walk cX1_walk 5 none := ⟨tg 1059 (by decide +kernel) (by decide +kernel), tg 22 (by decide +kernel) (by decide +kernel), tg 131 (by decide +kernel) (by decide +kernel), tg 1060 rfl rfl⟩
set_option maxRecDepth 20000 in
theorem wv_X2_add : wV yX2_add cX2_add 2 none := ⟨tg 1150 (by decide +kernel) (by decide +kernel), tg 25 (by decide +kernel) (by decide +kernel), tg 132 (by decide +kernel) (by decide +kernel), tg 1151 rfl rfl⟩
set_option maxRecDepth 20000 in
theorem wv_X2_addDigits : wV yX2_addDigits cX2_addDigits 2 none := ⟨tg 1166 (by decide +kernel) (by decide +kernel), tg 27 (by decide +kernel) (by decide +kernel), tg 132 (by decide +kernel) (by decide +kernel), tg 1167 rfl rfl⟩
set_option maxRecDepth 20000 in
theorem wv_X2_addText : wV yX2_addText cX2_addText 3 none := ⟨tg 1156 (by decide +kernel) (by decide +kernel), tg 26 (by decide +kernel) (by decide +kernel), tg 132 (by decide +kernel) (by decide +kernel), tg 1157 rfl rfl⟩
set_option maxRecDepth 20000 in
theorem wv_X2_addWay : wV yX2_addWay cX2_addWay 2 none := ⟨tg 1171 (by decide +kernel) (by decide +kernel), tg 28 (by decide +kernel) (by decide +kernel), tg 132 (by decide +kernel) (by decide +kernel), tg 1172 rfl rfl⟩
set_option maxRecDepth 20000 in
theorem wv_X2_addWord : wV yX2_addWord cX2_addWord 5 none := ⟨tg 1146 (by decide +kernel) (by decide +kernel), tg 24 (by decide +kernel) (by decide +kernel), tg 132 (by decide +kernel) (by decide +kernel), tg 1147 rfl rfl⟩
set_option maxRecDepth 20000 in
theorem wv_X2_signAt : wV yX2_signAt cX2_signAt 2 (some .int) := ⟨tg 1185 (by decide +kernel) (by decide +kernel), tg 1186 (by decide +kernel) (by decide +kernel), tg 132 (by decide +kernel) (by decide +kernel), tg 1187 rfl rfl⟩
set_option maxRecDepth 20000 in
theorem wv_X2_write : wV yX2_write cX2_write 4 none := ⟨tg 1137 (by decide +kernel) (by decide +kernel), tg 1138 (by decide +kernel) (by decide +kernel), tg 132 (by decide +kernel) (by decide +kernel), tg 1139 rfl rfl⟩
set_option maxRecDepth 20000 in
theorem wv_X3_canBeOpen : wV yX3_canBeOpen cX3_canBeOpen 5 (some .boolean) := ⟨tg 1026 (by decide +kernel) (by decide +kernel), tg 21 (by decide +kernel) (by decide +kernel), tg 130 (by decide +kernel) (by decide +kernel), tg 1027 rfl rfl⟩
set_option maxRecDepth 20000 in
theorem wv_X3_greatestSet : wV yX3_greatestSet cX3_greatestSet 4 (some .int) := ⟨tg 1020 (by decide +kernel) (by decide +kernel), tg 1021 (by decide +kernel) (by decide +kernel), tg 130 (by decide +kernel) (by decide +kernel), tg 1022 rfl rfl⟩
set_option maxRecDepth 20000 in
theorem wv_X4_bringBack : wV yX4_bringBack cX4_bringBack 3 (some .int) := ⟨tg 1003 (by decide +kernel) (by decide +kernel), tg 1004 (by decide +kernel) (by decide +kernel), tg 127 (by decide +kernel) (by decide +kernel), tg 1005 rfl rfl⟩
set_option maxRecDepth 20000 in
theorem wv_X4_forget : wV yX4_forget cX4_forget 1 none := ⟨tg 842 (by decide +kernel) (by decide +kernel), tg 843 (by decide +kernel) (by decide +kernel), tg 127 (by decide +kernel) (by decide +kernel), tg 844 rfl rfl⟩
set_option maxRecDepth 20000 in
theorem wv_X4_keep : wV yX4_keep cX4_keep 1 none := ⟨tg 912 (by decide +kernel) (by decide +kernel), tg 14 (by decide +kernel) (by decide +kernel), tg 127 (by decide +kernel) (by decide +kernel), tg 913 rfl rfl⟩
set_option maxRecDepth 20000 in
theorem wv_X4_keepIfAny : wV yX4_keepIfAny cX4_keepIfAny 2 (some .int) := ⟨tg 995 (by decide +kernel) (by decide +kernel), tg 996 (by decide +kernel) (by decide +kernel), tg 127 (by decide +kernel) (by decide +kernel), tg 997 rfl rfl⟩
set_option maxRecDepth 20000 in
theorem wv_X4_keepIfDone : wV yX4_keepIfDone cX4_keepIfDone 2 (some .int) := ⟨tg 907 (by decide +kernel) (by decide +kernel), tg 908 (by decide +kernel) (by decide +kernel), tg 127 (by decide +kernel) (by decide +kernel), tg 909 rfl rfl⟩
set_option maxRecDepth 20000 in
theorem wv_X4_note : wV yX4_note cX4_note 3 none := ⟨tg 893 (by decide +kernel) (by decide +kernel), tg 894 (by decide +kernel) (by decide +kernel), tg 127 (by decide +kernel) (by decide +kernel), tg 895 rfl rfl⟩
set_option maxRecDepth 20000 in
theorem wv_X4_roomBehind : wV yX4_roomBehind cX4_roomBehind 3 (some (.object "KnockLane$Scene")) := ⟨tg 898 (by decide +kernel) (by decide +kernel), tg 13 (by decide +kernel) (by decide +kernel), tg 127 (by decide +kernel) (by decide +kernel), tg 899 rfl rfl⟩
set_option maxRecDepth 20000 in
theorem wv_X5_addHouse : wV yX5_addHouse cX5_addHouse 4 none := ⟨tg 706 (by decide +kernel) (by decide +kernel), tg 707 (by decide +kernel) (by decide +kernel), tg 124 (by decide +kernel) (by decide +kernel), tg 708 rfl rfl⟩
set_option maxRecDepth 20000 in
theorem wv_X5_addPerson : wV yX5_addPerson cX5_addPerson 5 none := ⟨tg 727 (by decide +kernel) (by decide +kernel), tg 728 (by decide +kernel) (by decide +kernel), tg 124 (by decide +kernel) (by decide +kernel), tg 729 rfl rfl⟩
set_option maxRecDepth 20000 in
theorem wv_X5_clear : wV yX5_clear cX5_clear 1 none := ⟨tg 631 (by decide +kernel) (by decide +kernel), tg 632 (by decide +kernel) (by decide +kernel), tg 124 (by decide +kernel) (by decide +kernel), tg 633 rfl rfl⟩
set_option maxRecDepth 20000 in
theorem wv_X5_copyFrom : wV yX5_copyFrom cX5_copyFrom 2 none := ⟨tg 825 (by decide +kernel) (by decide +kernel), tg 826 (by decide +kernel) (by decide +kernel), tg 124 (by decide +kernel) (by decide +kernel), tg 827 rfl rfl⟩
set_option maxRecDepth 20000 in
theorem wv_X5_findHouse : wV yX5_findHouse cX5_findHouse 4 (some .int) := ⟨tg 698 (by decide +kernel) (by decide +kernel), tg 699 (by decide +kernel) (by decide +kernel), tg 124 (by decide +kernel) (by decide +kernel), tg 700 rfl rfl⟩
set_option maxRecDepth 20000 in
theorem wv_X5_findPerson : wV yX5_findPerson cX5_findPerson 4 (some .int) := ⟨tg 702 (by decide +kernel) (by decide +kernel), tg 703 (by decide +kernel) (by decide +kernel), tg 124 (by decide +kernel) (by decide +kernel), tg 704 rfl rfl⟩
set_option maxRecDepth 20000 in
theorem wv_X5_hasHouse : wV yX5_hasHouse cX5_hasHouse 2 (some .boolean) := ⟨tg 731 (by decide +kernel) (by decide +kernel), tg 732 (by decide +kernel) (by decide +kernel), tg 124 (by decide +kernel) (by decide +kernel), tg 733 rfl rfl⟩
set_option maxRecDepth 20000 in
theorem wv_X5_hasPerson : wV yX5_hasPerson cX5_hasPerson 2 (some .boolean) := ⟨tg 739 (by decide +kernel) (by decide +kernel), tg 740 (by decide +kernel) (by decide +kernel), tg 124 (by decide +kernel) (by decide +kernel), tg 741 rfl rfl⟩
set_option maxRecDepth 20000 in
theorem wv_X5_homeOf : wV yX5_homeOf cX5_homeOf 2 (some .int) := ⟨tg 743 (by decide +kernel) (by decide +kernel), tg 744 (by decide +kernel) (by decide +kernel), tg 124 (by decide +kernel) (by decide +kernel), tg 745 rfl rfl⟩
set_option maxRecDepth 20000 in
theorem wv_X5_isStern : wV yX5_isStern cX5_isStern 2 (some .boolean) := ⟨tg 991 (by decide +kernel) (by decide +kernel), tg 992 (by decide +kernel) (by decide +kernel), tg 124 (by decide +kernel) (by decide +kernel), tg 993 rfl rfl⟩
set_option maxRecDepth 20000 in
theorem wv_X5_livingIn : wV yX5_livingIn cX5_livingIn 2 (some .int) := ⟨tg 748 (by decide +kernel) (by decide +kernel), tg 749 (by decide +kernel) (by decide +kernel), tg 124 (by decide +kernel) (by decide +kernel), tg 750 rfl rfl⟩
set_option maxRecDepth 20000 in
theorem wv_X5_nameOfHouse : wV yX5_nameOfHouse cX5_nameOfHouse 2 (some .long) := ⟨tg 1177 (by decide +kernel) (by decide +kernel), tg 1178 (by decide +kernel) (by decide +kernel), tg 124 (by decide +kernel) (by decide +kernel), tg 1179 rfl rfl⟩
set_option maxRecDepth 20000 in
theorem wv_X5_nameOfPerson : wV yX5_nameOfPerson cX5_nameOfPerson 2 (some .long) := ⟨tg 1141 (by decide +kernel) (by decide +kernel), tg 1142 (by decide +kernel) (by decide +kernel), tg 124 (by decide +kernel) (by decide +kernel), tg 1143 rfl rfl⟩
set_option maxRecDepth 20000 in
theorem wv_X5_placeOf : wV yX5_placeOf cX5_placeOf 2 (some .int) := ⟨tg 855 (by decide +kernel) (by decide +kernel), tg 856 (by decide +kernel) (by decide +kernel), tg 124 (by decide +kernel) (by decide +kernel), tg 857 rfl rfl⟩
set_option maxRecDepth 20000 in
theorem wv_X6_readAll : wV yX6_readAll cX6_readAll 2 (some .int) := ⟨tg 627 (by decide +kernel) (by decide +kernel), tg 628 (by decide +kernel) (by decide +kernel), tg 128 (by decide +kernel) (by decide +kernel), tg 629 rfl rfl⟩
set_option maxRecDepth 20000 in
theorem wv_X6_readCalls : wV yX6_readCalls cX6_readCalls 3 (some .boolean) := ⟨tg 780 (by decide +kernel) (by decide +kernel), tg 9 (by decide +kernel) (by decide +kernel), tg 128 (by decide +kernel) (by decide +kernel), tg 781 rfl rfl⟩
set_option maxRecDepth 20000 in
theorem wv_X6_readEar : wV yX6_readEar cX6_readEar 1 (some .boolean) := ⟨tg 798 (by decide +kernel) (by decide +kernel), tg 10 (by decide +kernel) (by decide +kernel), tg 128 (by decide +kernel) (by decide +kernel), tg 799 rfl rfl⟩
set_option maxRecDepth 20000 in
theorem wv_X6_readHouse : wV yX6_readHouse cX6_readHouse 4 (some .boolean) := ⟨tg 691 (by decide +kernel) (by decide +kernel), tg 5 (by decide +kernel) (by decide +kernel), tg 128 (by decide +kernel) (by decide +kernel), tg 692 rfl rfl⟩
set_option maxRecDepth 20000 in
theorem wv_X6_readKnows : wV yX6_readKnows cX6_readKnows 3 (some .boolean) := ⟨tg 760 (by decide +kernel) (by decide +kernel), tg 8 (by decide +kernel) (by decide +kernel), tg 128 (by decide +kernel) (by decide +kernel), tg 761 rfl rfl⟩
set_option maxRecDepth 20000 in
theorem wv_X6_readLane : wV yX6_readLane cX6_readLane 1 (some .boolean) := ⟨tg 682 (by decide +kernel) (by decide +kernel), tg 4 (by decide +kernel) (by decide +kernel), tg 128 (by decide +kernel) (by decide +kernel), tg 683 rfl rfl⟩
set_option maxRecDepth 20000 in
theorem wv_X6_readLine : wV yX6_readLine cX6_readLine 1 (some .boolean) := ⟨tg 670 (by decide +kernel) (by decide +kernel), tg 2 (by decide +kernel) (by decide +kernel), tg 128 (by decide +kernel) (by decide +kernel), tg 671 rfl rfl⟩
set_option maxRecDepth 20000 in
theorem wv_X6_readPerson : wV yX6_readPerson cX6_readPerson 8 (some .boolean) := ⟨tg 711 (by decide +kernel) (by decide +kernel), tg 6 (by decide +kernel) (by decide +kernel), tg 128 (by decide +kernel) (by decide +kernel), tg 712 rfl rfl⟩
set_option maxRecDepth 20000 in
theorem wv_X6_readStay : wV yX6_readStay cX6_readStay 1 (some .boolean) := ⟨tg 802 (by decide +kernel) (by decide +kernel), tg 11 (by decide +kernel) (by decide +kernel), tg 128 (by decide +kernel) (by decide +kernel), tg 803 rfl rfl⟩
set_option maxRecDepth 20000 in
theorem wv_X6_refuse : wV yX6_refuse cX6_refuse 2 (some .boolean) := ⟨tg 674 (by decide +kernel) (by decide +kernel), tg 3 (by decide +kernel) (by decide +kernel), tg 128 (by decide +kernel) (by decide +kernel), tg 675 rfl rfl⟩
set_option maxRecDepth 20000 in
theorem wv_X7_add : wV yX7_add cX7_add 4 none := ⟨tg 1318 (by decide +kernel) (by decide +kernel), tg 41 (by decide +kernel) (by decide +kernel), tg 126 (by decide +kernel) (by decide +kernel), tg 1319 rfl rfl⟩
set_option maxRecDepth 20000 in
theorem wv_X7_clear : wV yX7_clear cX7_clear 1 none := ⟨tg 817 (by decide +kernel) (by decide +kernel), tg 818 (by decide +kernel) (by decide +kernel), tg 126 (by decide +kernel) (by decide +kernel), tg 819 rfl rfl⟩
set_option maxRecDepth 20000 in
theorem wv_X7_copyFrom : wV yX7_copyFrom cX7_copyFrom 2 none := ⟨tg 837 (by decide +kernel) (by decide +kernel), tg 838 (by decide +kernel) (by decide +kernel), tg 126 (by decide +kernel) (by decide +kernel), tg 839 rfl rfl⟩
set_option maxRecDepth 20000 in
theorem wv_X7_pop : wV yX7_pop cX7_pop 1 (some .int) := ⟨tg 1344 (by decide +kernel) (by decide +kernel), tg 43 (by decide +kernel) (by decide +kernel), tg 126 (by decide +kernel) (by decide +kernel), tg 1345 rfl rfl⟩
set_option maxRecDepth 20000 in
theorem wv_X7_push : wV yX7_push cX7_push 2 none := ⟨tg 1348 (by decide +kernel) (by decide +kernel), tg 44 (by decide +kernel) (by decide +kernel), tg 126 (by decide +kernel) (by decide +kernel), tg 1349 rfl rfl⟩
set_option maxRecDepth 20000 in
theorem wv_X7_readAll : wV yX7_readAll cX7_readAll 3 (some .boolean) := ⟨tg 1286 (by decide +kernel) (by decide +kernel), tg 1287 (by decide +kernel) (by decide +kernel), tg 126 (by decide +kernel) (by decide +kernel), tg 1288 rfl rfl⟩
set_option maxRecDepth 20000 in
theorem wv_X7_readBracket : wV yX7_readBracket cX7_readBracket 4 (some .boolean) := ⟨tg 1309 (by decide +kernel) (by decide +kernel), tg 39 (by decide +kernel) (by decide +kernel), tg 126 (by decide +kernel) (by decide +kernel), tg 1310 rfl rfl⟩
set_option maxRecDepth 20000 in
theorem wv_X7_readCond : wV yX7_readCond cX7_readCond 7 (some .boolean) := ⟨tg 1293 (by decide +kernel) (by decide +kernel), tg 37 (by decide +kernel) (by decide +kernel), tg 126 (by decide +kernel) (by decide +kernel), tg 1294 rfl rfl⟩
set_option maxRecDepth 20000 in
theorem wv_X7_readNot : wV yX7_readNot cX7_readNot 4 (some .boolean) := ⟨tg 1314 (by decide +kernel) (by decide +kernel), tg 40 (by decide +kernel) (by decide +kernel), tg 126 (by decide +kernel) (by decide +kernel), tg 1315 rfl rfl⟩
set_option maxRecDepth 20000 in
theorem wv_X7_readOne : wV yX7_readOne cX7_readOne 6 (some .boolean) := ⟨tg 1297 (by decide +kernel) (by decide +kernel), tg 38 (by decide +kernel) (by decide +kernel), tg 126 (by decide +kernel) (by decide +kernel), tg 1298 rfl rfl⟩
set_option maxRecDepth 20000 in
theorem wv_X7_readPlainOne : wV yX7_readPlainOne cX7_readPlainOne 6 (some .boolean) := ⟨tg 1322 (by decide +kernel) (by decide +kernel), tg 42 (by decide +kernel) (by decide +kernel), tg 126 (by decide +kernel) (by decide +kernel), tg 1323 rfl rfl⟩
set_option maxRecDepth 20000 in
theorem wv_X7_trueOf : wV yX7_trueOf cX7_trueOf 3 (some .int) := ⟨tg 1339 (by decide +kernel) (by decide +kernel), tg 1340 (by decide +kernel) (by decide +kernel), tg 126 (by decide +kernel) (by decide +kernel), tg 1341 rfl rfl⟩
set_option maxRecDepth 20000 in
theorem wv_X8_actByDraw : wV yX8_actByDraw cX8_actByDraw 2 none := ⟨tg 1198 (by decide +kernel) (by decide +kernel), tg 29 (by decide +kernel) (by decide +kernel), tg 125 (by decide +kernel) (by decide +kernel), tg 1199 rfl rfl⟩
set_option maxRecDepth 20000 in
theorem wv_X8_addPerson : wV yX8_addPerson cX8_addPerson 4 none := ⟨tg 735 (by decide +kernel) (by decide +kernel), tg 736 (by decide +kernel) (by decide +kernel), tg 125 (by decide +kernel) (by decide +kernel), tg 737 rfl rfl⟩
set_option maxRecDepth 20000 in
theorem wv_X8_answererOf : wV yX8_answererOf cX8_answererOf 8 (some .int) := ⟨tg 976 (by decide +kernel) (by decide +kernel), tg 977 (by decide +kernel) (by decide +kernel), tg 125 (by decide +kernel) (by decide +kernel), tg 978 rfl rfl⟩
set_option maxRecDepth 20000 in
theorem wv_X8_areTogether : wV yX8_areTogether cX8_areTogether 3 (some .boolean) := ⟨tg 1117 (by decide +kernel) (by decide +kernel), tg 1118 (by decide +kernel) (by decide +kernel), tg 125 (by decide +kernel) (by decide +kernel), tg 1119 rfl rfl⟩
set_option maxRecDepth 20000 in
theorem wv_X8_bestToAsk : wV yX8_bestToAsk cX8_bestToAsk 9 (some .int) := ⟨tg 1087 (by decide +kernel) (by decide +kernel), tg 1088 (by decide +kernel) (by decide +kernel), tg 125 (by decide +kernel) (by decide +kernel), tg 1089 rfl rfl⟩
set_option maxRecDepth 20000 in
theorem wv_X8_callAtDoor : wV yX8_callAtDoor cX8_callAtDoor 3 none := ⟨tg 969 (by decide +kernel) (by decide +kernel), tg 18 (by decide +kernel) (by decide +kernel), tg 125 (by decide +kernel) (by decide +kernel), tg 970 rfl rfl⟩
set_option maxRecDepth 20000 in
theorem wv_X8_clear : wV yX8_clear cX8_clear 1 none := ⟨tg 635 (by decide +kernel) (by decide +kernel), tg 636 (by decide +kernel) (by decide +kernel), tg 125 (by decide +kernel) (by decide +kernel), tg 637 rfl rfl⟩
set_option maxRecDepth 20000 in
theorem wv_X8_copyFrom : wV yX8_copyFrom cX8_copyFrom 2 none := ⟨tg 832 (by decide +kernel) (by decide +kernel), tg 833 (by decide +kernel) (by decide +kernel), tg 125 (by decide +kernel) (by decide +kernel), tg 834 rfl rfl⟩
set_option maxRecDepth 20000 in
theorem wv_X8_detail : wV yX8_detail cX8_detail 3 (some .int) := ⟨tg 1161 (by decide +kernel) (by decide +kernel), tg 1162 (by decide +kernel) (by decide +kernel), tg 125 (by decide +kernel) (by decide +kernel), tg 1163 rfl rfl⟩
set_option maxRecDepth 20000 in
theorem wv_X8_doesKnow : wV yX8_doesKnow cX8_doesKnow 3 (some .boolean) := ⟨tg 775 (by decide +kernel) (by decide +kernel), tg 776 (by decide +kernel) (by decide +kernel), tg 125 (by decide +kernel) (by decide +kernel), tg 777 rfl rfl⟩
set_option maxRecDepth 20000 in
theorem wv_X8_draw : wV yX8_draw cX8_draw 2 (some .int) := ⟨tg 1202 (by decide +kernel) (by decide +kernel), tg 30 (by decide +kernel) (by decide +kernel), tg 125 (by decide +kernel) (by decide +kernel), tg 1203 rfl rfl⟩
set_option maxRecDepth 20000 in
theorem wv_X8_dropCall : wV yX8_dropCall cX8_dropCall 3 none := ⟨tg 973 (by decide +kernel) (by decide +kernel), tg 19 (by decide +kernel) (by decide +kernel), tg 125 (by decide +kernel) (by decide +kernel), tg 974 rfl rfl⟩
set_option maxRecDepth 20000 in
theorem wv_X8_housesToCallAt : wV yX8_housesToCallAt cX8_housesToCallAt 4 (some .int) := ⟨tg 793 (by decide +kernel) (by decide +kernel), tg 794 (by decide +kernel) (by decide +kernel), tg 125 (by decide +kernel) (by decide +kernel), tg 795 rfl rfl⟩
set_option maxRecDepth 20000 in
theorem wv_X8_housesWithStrangers : wV yX8_housesWithStrangers cX8_housesWithStrangers 3 (some .int) := ⟨tg 880 (by decide +kernel) (by decide +kernel), tg 881 (by decide +kernel) (by decide +kernel), tg 125 (by decide +kernel) (by decide +kernel), tg 882 rfl rfl⟩
set_option maxRecDepth 20000 in
theorem wv_X8_isInLane : wV yX8_isInLane cX8_isInLane 2 (some .boolean) := ⟨tg 1121 (by decide +kernel) (by decide +kernel), tg 1122 (by decide +kernel) (by decide +kernel), tg 125 (by decide +kernel) (by decide +kernel), tg 1123 rfl rfl⟩
set_option maxRecDepth 20000 in
theorem wv_X8_isInside : wV yX8_isInside cX8_isInside 2 (some .boolean) := ⟨tg 1105 (by decide +kernel) (by decide +kernel), tg 1106 (by decide +kernel) (by decide +kernel), tg 125 (by decide +kernel) (by decide +kernel), tg 1107 rfl rfl⟩
set_option maxRecDepth 20000 in
theorem wv_X8_isKnocking : wV yX8_isKnocking cX8_isKnocking 2 (some .boolean) := ⟨tg 1011 (by decide +kernel) (by decide +kernel), tg 1012 (by decide +kernel) (by decide +kernel), tg 125 (by decide +kernel) (by decide +kernel), tg 1013 rfl rfl⟩
set_option maxRecDepth 20000 in
theorem wv_X8_knownInAll : wV yX8_knownInAll cX8_knownInAll 3 (some .int) := ⟨tg 1463 (by decide +kernel) (by decide +kernel), tg 1464 (by decide +kernel) (by decide +kernel), tg 125 (by decide +kernel) (by decide +kernel), tg 1465 rfl rfl⟩
set_option maxRecDepth 20000 in
theorem wv_X8_knownTo : wV yX8_knownTo cX8_knownTo 2 (some .int) := ⟨tg 1054 (by decide +kernel) (by decide +kernel), tg 1055 (by decide +kernel) (by decide +kernel), tg 125 (by decide +kernel) (by decide +kernel), tg 1056 rfl rfl⟩
set_option maxRecDepth 20000 in
theorem wv_X8_letDrawnTicksGo : wV yX8_letDrawnTicksGo cX8_letDrawnTicksGo 5 (some .int) := ⟨tg 1193 (by decide +kernel) (by decide +kernel), tg 1194 (by decide +kernel) (by decide +kernel), tg 125 (by decide +kernel) (by decide +kernel), tg 1195 rfl rfl⟩
set_option maxRecDepth 20000 in
theorem wv_X8_letTickGo : wV yX8_letTickGo cX8_letTickGo 5 none := ⟨tg 953 (by decide +kernel) (by decide +kernel), tg 954 (by decide +kernel) (by decide +kernel), tg 125 (by decide +kernel) (by decide +kernel), tg 955 rfl rfl⟩
set_option maxRecDepth 20000 in
theorem wv_X8_letTicksGo : wV yX8_letTicksGo cX8_letTicksGo 3 (some .int) := ⟨tg 949 (by decide +kernel) (by decide +kernel), tg 950 (by decide +kernel) (by decide +kernel), tg 125 (by decide +kernel) (by decide +kernel), tg 951 rfl rfl⟩
set_option maxRecDepth 20000 in
theorem wv_X8_makeKnown : wV yX8_makeKnown cX8_makeKnown 4 none := ⟨tg 753 (by decide +kernel) (by decide +kernel), tg 7 (by decide +kernel) (by decide +kernel), tg 125 (by decide +kernel) (by decide +kernel), tg 754 rfl rfl⟩
set_option maxRecDepth 20000 in
theorem wv_X8_openDoor : wV yX8_openDoor cX8_openDoor 4 none := ⟨tg 988 (by decide +kernel) (by decide +kernel), tg 20 (by decide +kernel) (by decide +kernel), tg 125 (by decide +kernel) (by decide +kernel), tg 989 rfl rfl⟩
set_option maxRecDepth 20000 in
theorem wv_X8_openedInAll : wV yX8_openedInAll cX8_openedInAll 3 (some .int) := ⟨tg 885 (by decide +kernel) (by decide +kernel), tg 886 (by decide +kernel) (by decide +kernel), tg 125 (by decide +kernel) (by decide +kernel), tg 887 rfl rfl⟩
set_option maxRecDepth 20000 in
theorem wv_X8_putInLane : wV yX8_putInLane cX8_putInLane 2 none := ⟨tg 932 (by decide +kernel) (by decide +kernel), tg 15 (by decide +kernel) (by decide +kernel), tg 125 (by decide +kernel) (by decide +kernel), tg 933 rfl rfl⟩
set_option maxRecDepth 20000 in
theorem wv_X8_stayOn : wV yX8_stayOn cX8_stayOn 2 none := ⟨tg 961 (by decide +kernel) (by decide +kernel), tg 16 (by decide +kernel) (by decide +kernel), tg 125 (by decide +kernel) (by decide +kernel), tg 962 rfl rfl⟩
set_option maxRecDepth 20000 in
theorem wv_X8_strangersOf : wV yX8_strangersOf cX8_strangersOf 5 (some .int) := ⟨tg 860 (by decide +kernel) (by decide +kernel), tg 861 (by decide +kernel) (by decide +kernel), tg 125 (by decide +kernel) (by decide +kernel), tg 862 rfl rfl⟩
set_option maxRecDepth 20000 in
theorem wv_X8_thoseAt : wV yX8_thoseAt cX8_thoseAt 5 (some .int) := ⟨tg 864 (by decide +kernel) (by decide +kernel), tg 865 (by decide +kernel) (by decide +kernel), tg 125 (by decide +kernel) (by decide +kernel), tg 866 rfl rfl⟩
set_option maxRecDepth 20000 in
theorem wv_X8_thoseWhoAre : wV yX8_thoseWhoAre cX8_thoseWhoAre 4 (some .int) := ⟨tg 876 (by decide +kernel) (by decide +kernel), tg 877 (by decide +kernel) (by decide +kernel), tg 125 (by decide +kernel) (by decide +kernel), tg 878 rfl rfl⟩
set_option maxRecDepth 20000 in
theorem wv_X8_thoseWhoCouldAnswer : wV yX8_thoseWhoCouldAnswer cX8_thoseWhoCouldAnswer 4 (some .int) := ⟨tg 980 (by decide +kernel) (by decide +kernel), tg 981 (by decide +kernel) (by decide +kernel), tg 125 (by decide +kernel) (by decide +kernel), tg 982 rfl rfl⟩
set_option maxRecDepth 20000 in
theorem wv_X8_tryCall : wV yX8_tryCall cX8_tryCall 3 (some .int) := ⟨tg 788 (by decide +kernel) (by decide +kernel), tg 789 (by decide +kernel) (by decide +kernel), tg 125 (by decide +kernel) (by decide +kernel), tg 790 rfl rfl⟩
set_option maxRecDepth 20000 in
theorem wv_X8_tryGo : wV yX8_tryGo cX8_tryGo 3 (some .int) := ⟨tg 919 (by decide +kernel) (by decide +kernel), tg 920 (by decide +kernel) (by decide +kernel), tg 125 (by decide +kernel) (by decide +kernel), tg 921 rfl rfl⟩
set_option maxRecDepth 20000 in
theorem wv_X8_tryKnock : wV yX8_tryKnock cX8_tryKnock 3 (some .int) := ⟨tg 902 (by decide +kernel) (by decide +kernel), tg 903 (by decide +kernel) (by decide +kernel), tg 125 (by decide +kernel) (by decide +kernel), tg 904 rfl rfl⟩
set_option maxRecDepth 20000 in
theorem wv_X8_tryMeet : wV yX8_tryMeet cX8_tryMeet 3 (some .int) := ⟨tg 771 (by decide +kernel) (by decide +kernel), tg 772 (by decide +kernel) (by decide +kernel), tg 125 (by decide +kernel) (by decide +kernel), tg 773 rfl rfl⟩
set_option maxRecDepth 20000 in
theorem wv_X8_tryQuit : wV yX8_tryQuit cX8_tryQuit 2 (some .int) := ⟨tg 927 (by decide +kernel) (by decide +kernel), tg 928 (by decide +kernel) (by decide +kernel), tg 125 (by decide +kernel) (by decide +kernel), tg 929 rfl rfl⟩
set_option maxRecDepth 20000 in
theorem wv_X8_walkOn : wV yX8_walkOn cX8_walkOn 3 none := ⟨tg 965 (by decide +kernel) (by decide +kernel), tg 17 (by decide +kernel) (by decide +kernel), tg 125 (by decide +kernel) (by decide +kernel), tg 966 rfl rfl⟩
set_option maxRecDepth 20000 in
theorem wv_X8_whoOpenedMost : wV yX8_whoOpenedMost cX8_whoOpenedMost 4 (some .int) := ⟨tg 1129 (by decide +kernel) (by decide +kernel), tg 1130 (by decide +kernel) (by decide +kernel), tg 125 (by decide +kernel) (by decide +kernel), tg 1131 rfl rfl⟩
set_option maxRecDepth 20000 in
theorem wv_X8_whomJustTheseKnow : wV yX8_whomJustTheseKnow cX8_whomJustTheseKnow 5 (some .int) := ⟨tg 1083 (by decide +kernel) (by decide +kernel), tg 1084 (by decide +kernel) (by decide +kernel), tg 125 (by decide +kernel) (by decide +kernel), tg 1085 rfl rfl⟩
set_option maxRecDepth 20000 in
theorem wv_X9_copyFrom : wV yX9_copyFrom cX9_copyFrom 2 none := ⟨tg 821 (by decide +kernel) (by decide +kernel), tg 822 (by decide +kernel) (by decide +kernel), tg 123 (by decide +kernel) (by decide +kernel), tg 823 rfl rfl⟩
set_option maxRecDepth 20000 in
theorem wv_X10_addFour : wV yX10_addFour cX10_addFour 3 none := ⟨tg 615 (by decide +kernel) (by decide +kernel), tg 616 (by decide +kernel) (by decide +kernel), tg 118 (by decide +kernel) (by decide +kernel), tg 617 rfl rfl⟩
set_option maxRecDepth 20000 in
theorem wv_X10_byteOf : wV yX10_byteOf cX10_byteOf 2 (some .int) := ⟨tg 647 (by decide +kernel) (by decide +kernel), tg 648 (by decide +kernel) (by decide +kernel), tg 118 (by decide +kernel) (by decide +kernel), tg 649 rfl rfl⟩
set_option maxRecDepth 20000 in
theorem wv_X10_houseHere : wV yX10_houseHere cX10_houseHere 3 (some .int) := ⟨tg 719 (by decide +kernel) (by decide +kernel), tg 720 (by decide +kernel) (by decide +kernel), tg 118 (by decide +kernel) (by decide +kernel), tg 721 rfl rfl⟩
set_option maxRecDepth 20000 in
theorem wv_X10_isEnd : wV yX10_isEnd cX10_isEnd 1 (some .boolean) := ⟨tg 665 (by decide +kernel) (by decide +kernel), tg 666 (by decide +kernel) (by decide +kernel), tg 118 (by decide +kernel) (by decide +kernel), tg 667 rfl rfl⟩
set_option maxRecDepth 20000 in
theorem wv_X10_isSignOf : wV yX10_isSignOf cX10_isSignOf 2 (some .boolean) := ⟨tg 809 (by decide +kernel) (by decide +kernel), tg 810 (by decide +kernel) (by decide +kernel), tg 118 (by decide +kernel) (by decide +kernel), tg 811 rfl rfl⟩
set_option maxRecDepth 20000 in
theorem wv_X10_isWord : wV yX10_isWord cX10_isWord 2 (some .boolean) := ⟨tg 715 (by decide +kernel) (by decide +kernel), tg 716 (by decide +kernel) (by decide +kernel), tg 118 (by decide +kernel) (by decide +kernel), tg 717 rfl rfl⟩
set_option maxRecDepth 20000 in
theorem wv_X10_nameWord : wV yX10_nameWord cX10_nameWord 2 none := ⟨tg 662 (by decide +kernel) (by decide +kernel), tg 1 (by decide +kernel) (by decide +kernel), tg 118 (by decide +kernel) (by decide +kernel), tg 663 rfl rfl⟩
set_option maxRecDepth 20000 in
theorem wv_X10_personHere : wV yX10_personHere cX10_personHere 3 (some .int) := ⟨tg 767 (by decide +kernel) (by decide +kernel), tg 768 (by decide +kernel) (by decide +kernel), tg 118 (by decide +kernel) (by decide +kernel), tg 769 rfl rfl⟩
set_option maxRecDepth 20000 in
theorem wv_X10_refuse : wV yX10_refuse cX10_refuse 2 (some .int) := ⟨tg 677 (by decide +kernel) (by decide +kernel), tg 678 (by decide +kernel) (by decide +kernel), tg 118 (by decide +kernel) (by decide +kernel), tg 679 rfl rfl⟩
set_option maxRecDepth 20000 in
theorem wv_X10_startReading : wV yX10_startReading cX10_startReading 2 none := ⟨tg 639 (by decide +kernel) (by decide +kernel), tg 640 (by decide +kernel) (by decide +kernel), tg 118 (by decide +kernel) (by decide +kernel), tg 641 rfl rfl⟩
set_option maxRecDepth 20000 in
theorem wv_X10_take : wV yX10_take cX10_take 1 none := ⟨tg 643 (by decide +kernel) (by decide +kernel), tg 644 (by decide +kernel) (by decide +kernel), tg 118 (by decide +kernel) (by decide +kernel), tg 645 rfl rfl⟩
set_option maxRecDepth 20000 in
theorem wv_X10_takeCompare : wV yX10_takeCompare cX10_takeCompare 1 (some .int) := ⟨tg 1327 (by decide +kernel) (by decide +kernel), tg 1328 (by decide +kernel) (by decide +kernel), tg 118 (by decide +kernel) (by decide +kernel), tg 1329 rfl rfl⟩
set_option maxRecDepth 20000 in
theorem wv_X10_takeHouse : wV yX10_takeHouse cX10_takeHouse 2 (some .int) := ⟨tg 783 (by decide +kernel) (by decide +kernel), tg 784 (by decide +kernel) (by decide +kernel), tg 118 (by decide +kernel) (by decide +kernel), tg 785 rfl rfl⟩
set_option maxRecDepth 20000 in
theorem wv_X10_takeLineEnd : wV yX10_takeLineEnd cX10_takeLineEnd 1 (some .boolean) := ⟨tg 805 (by decide +kernel) (by decide +kernel), tg 806 (by decide +kernel) (by decide +kernel), tg 118 (by decide +kernel) (by decide +kernel), tg 807 rfl rfl⟩
set_option maxRecDepth 20000 in
theorem wv_X10_takeNewName : wV yX10_takeNewName cX10_takeNewName 2 (some .long) := ⟨tg 694 (by decide +kernel) (by decide +kernel), tg 695 (by decide +kernel) (by decide +kernel), tg 118 (by decide +kernel) (by decide +kernel), tg 696 rfl rfl⟩
set_option maxRecDepth 20000 in
theorem wv_X10_takeNumber : wV yX10_takeNumber cX10_takeNumber 3 (some .int) := ⟨tg 685 (by decide +kernel) (by decide +kernel), tg 686 (by decide +kernel) (by decide +kernel), tg 118 (by decide +kernel) (by decide +kernel), tg 687 rfl rfl⟩
set_option maxRecDepth 20000 in
theorem wv_X10_takeOneOf : wV yX10_takeOneOf cX10_takeOneOf 3 (some .int) := ⟨tg 723 (by decide +kernel) (by decide +kernel), tg 724 (by decide +kernel) (by decide +kernel), tg 118 (by decide +kernel) (by decide +kernel), tg 725 rfl rfl⟩
set_option maxRecDepth 20000 in
theorem wv_X10_takePerson : wV yX10_takePerson cX10_takePerson 2 (some .int) := ⟨tg 763 (by decide +kernel) (by decide +kernel), tg 764 (by decide +kernel) (by decide +kernel), tg 118 (by decide +kernel) (by decide +kernel), tg 765 rfl rfl⟩
set_option maxRecDepth 20000 in
theorem wv_X10_takeRun : wV yX10_takeRun cX10_takeRun 4 none := ⟨tg 658 (by decide +kernel) (by decide +kernel), tg 0 (by decide +kernel) (by decide +kernel), tg 118 (by decide +kernel) (by decide +kernel), tg 659 rfl rfl⟩
set_option maxRecDepth 20000 in
theorem wv_X12_answers : wV yX12_answers cX12_answers 8 (some .int) := ⟨tg 1902 (by decide +kernel) (by decide +kernel), tg 91 (by decide +kernel) (by decide +kernel), tg 133 (by decide +kernel) (by decide +kernel), tg 1903 rfl rfl⟩
set_option maxRecDepth 20000 in
theorem wv_X12_are : wV yX12_are cX12_are 4 (some .int) := ⟨tg 1826 (by decide +kernel) (by decide +kernel), tg 78 (by decide +kernel) (by decide +kernel), tg 133 (by decide +kernel) (by decide +kernel), tg 1827 rfl rfl⟩
set_option maxRecDepth 20000 in
theorem wv_X12_areAnswered : wV yX12_areAnswered cX12_areAnswered 6 (some .boolean) := ⟨tg 1930 (by decide +kernel) (by decide +kernel), tg 94 (by decide +kernel) (by decide +kernel), tg 133 (by decide +kernel) (by decide +kernel), tg 1931 rfl rfl⟩
set_option maxRecDepth 20000 in
theorem wv_X12_areAt : wV yX12_areAt cX12_areAt 5 (some .int) := ⟨tg 1802 (by decide +kernel) (by decide +kernel), tg 75 (by decide +kernel) (by decide +kernel), tg 133 (by decide +kernel) (by decide +kernel), tg 1803 rfl rfl⟩
set_option maxRecDepth 20000 in
theorem wv_X12_bad : wV yX12_bad cX12_bad 2 (some .boolean) := ⟨tg 1708 (by decide +kernel) (by decide +kernel), tg 55 (by decide +kernel) (by decide +kernel), tg 133 (by decide +kernel) (by decide +kernel), tg 1709 rfl rfl⟩
set_option maxRecDepth 20000 in
theorem wv_X12_behind : wV yX12_behind cX12_behind 1 (some .boolean) := ⟨tg 2073 (by decide +kernel) (by decide +kernel), tg 111 (by decide +kernel) (by decide +kernel), tg 133 (by decide +kernel) (by decide +kernel), tg 2074 rfl rfl⟩
set_option maxRecDepth 20000 in
theorem wv_X12_bookLine : wV yX12_bookLine cX12_bookLine 6 (some .boolean) := ⟨tg 2045 (by decide +kernel) (by decide +kernel), tg 106 (by decide +kernel) (by decide +kernel), tg 133 (by decide +kernel) (by decide +kernel), tg 2046 rfl rfl⟩
set_option maxRecDepth 20000 in
theorem wv_X12_books : wV yX12_books cX12_books 3 none := ⟨tg 1878 (by decide +kernel) (by decide +kernel), tg 86 (by decide +kernel) (by decide +kernel), tg 133 (by decide +kernel) (by decide +kernel), tg 1879 rfl rfl⟩
set_option maxRecDepth 20000 in
theorem wv_X12_brings : wV yX12_brings cX12_brings 2 none := ⟨tg 1977 (by decide +kernel) (by decide +kernel), tg 99 (by decide +kernel) (by decide +kernel), tg 133 (by decide +kernel) (by decide +kernel), tg 1978 rfl rfl⟩
set_option maxRecDepth 20000 in
theorem wv_X12_callOf : wV yX12_callOf cX12_callOf 4 (some .int) := ⟨tg 1874 (by decide +kernel) (by decide +kernel), tg 85 (by decide +kernel) (by decide +kernel), tg 133 (by decide +kernel) (by decide +kernel), tg 1875 rfl rfl⟩
set_option maxRecDepth 20000 in
theorem wv_X12_canAnswer : wV yX12_canAnswer cX12_canAnswer 4 (some .boolean) := ⟨tg 1907 (by decide +kernel) (by decide +kernel), tg 92 (by decide +kernel) (by decide +kernel), tg 133 (by decide +kernel) (by decide +kernel), tg 1908 rfl rfl⟩
set_option maxRecDepth 20000 in
theorem wv_X12_clears : wV yX12_clears cX12_clears 2 none := ⟨tg 1522 (by decide +kernel) (by decide +kernel), tg 48 (by decide +kernel) (by decide +kernel), tg 133 (by decide +kernel) (by decide +kernel), tg 1523 rfl rfl⟩
set_option maxRecDepth 20000 in
theorem wv_X12_code : wV yX12_code cX12_code 4 none := ⟨tg 2065 (by decide +kernel) (by decide +kernel), tg 109 (by decide +kernel) (by decide +kernel), tg 133 (by decide +kernel) (by decide +kernel), tg 2066 rfl rfl⟩
set_option maxRecDepth 20000 in
theorem wv_X12_does : wV yX12_does cX12_does 5 (some .int) := ⟨tg 2049 (by decide +kernel) (by decide +kernel), tg 107 (by decide +kernel) (by decide +kernel), tg 133 (by decide +kernel) (by decide +kernel), tg 2050 rfl rfl⟩
set_option maxRecDepth 20000 in
theorem wv_X12_draw : wV yX12_draw cX12_draw 2 (some .int) := ⟨tg 2032 (by decide +kernel) (by decide +kernel), tg 105 (by decide +kernel) (by decide +kernel), tg 133 (by decide +kernel) (by decide +kernel), tg 2033 rfl rfl⟩
set_option maxRecDepth 20000 in
theorem wv_X12_drawPerson : wV yX12_drawPerson cX12_drawPerson 4 none := ⟨tg 2028 (by decide +kernel) (by decide +kernel), tg 104 (by decide +kernel) (by decide +kernel), tg 133 (by decide +kernel) (by decide +kernel), tg 2029 rfl rfl⟩
set_option maxRecDepth 20000 in
theorem wv_X12_draws : wV yX12_draws cX12_draws 5 (some .int) := ⟨tg 2024 (by decide +kernel) (by decide +kernel), tg 103 (by decide +kernel) (by decide +kernel), tg 133 (by decide +kernel) (by decide +kernel), tg 2025 rfl rfl⟩
set_option maxRecDepth 20000 in
theorem wv_X12_dwellers : wV yX12_dwellers cX12_dwellers 4 (some .int) := ⟨tg 1790 (by decide +kernel) (by decide +kernel), tg 72 (by decide +kernel) (by decide +kernel), tg 133 (by decide +kernel) (by decide +kernel), tg 1791 rfl rfl⟩
set_option maxRecDepth 20000 in
theorem wv_X12_four : wV yX12_four cX12_four 3 none := ⟨tg 1479 (by decide +kernel) (by decide +kernel), tg 47 (by decide +kernel) (by decide +kernel), tg 133 (by decide +kernel) (by decide +kernel), tg 1481 rfl rfl⟩
set_option maxRecDepth 20000 in
theorem wv_X12_fresh : wV yX12_fresh cX12_fresh 2 (some .boolean) := ⟨tg 1727 (by decide +kernel) (by decide +kernel), tg 59 (by decide +kernel) (by decide +kernel), tg 133 (by decide +kernel) (by decide +kernel), tg 1728 rfl rfl⟩
set_option maxRecDepth 20000 in
theorem wv_X12_goesOn : wV yX12_goesOn cX12_goesOn 3 (some .int) := ⟨tg 1886 (by decide +kernel) (by decide +kernel), tg 87 (by decide +kernel) (by decide +kernel), tg 133 (by decide +kernel) (by decide +kernel), tg 1887 rfl rfl⟩
set_option maxRecDepth 20000 in
theorem wv_X12_isHouse : wV yX12_isHouse cX12_isHouse 2 (some .boolean) := ⟨tg 1786 (by decide +kernel) (by decide +kernel), tg 71 (by decide +kernel) (by decide +kernel), tg 133 (by decide +kernel) (by decide +kernel), tg 1787 rfl rfl⟩
set_option maxRecDepth 20000 in
theorem wv_X12_isLeaf : wV yX12_isLeaf cX12_isLeaf 6 (some .boolean) := ⟨tg 2093 (by decide +kernel) (by decide +kernel), tg 115 (by decide +kernel) (by decide +kernel), tg 133 (by decide +kernel) (by decide +kernel), tg 2094 rfl rfl⟩
set_option maxRecDepth 20000 in
theorem wv_X12_isMeant : wV yX12_isMeant cX12_isMeant 4 (some .boolean) := ⟨tg 1954 (by decide +kernel) (by decide +kernel), tg 96 (by decide +kernel) (by decide +kernel), tg 133 (by decide +kernel) (by decide +kernel), tg 1955 rfl rfl⟩
set_option maxRecDepth 20000 in
theorem wv_X12_isName : wV yX12_isName cX12_isName 3 (some .boolean) := ⟨tg 1731 (by decide +kernel) (by decide +kernel), tg 60 (by decide +kernel) (by decide +kernel), tg 133 (by decide +kernel) (by decide +kernel), tg 1732 rfl rfl⟩
set_option maxRecDepth 20000 in
theorem wv_X12_isPerson : wV yX12_isPerson cX12_isPerson 2 (some .boolean) := ⟨tg 1810 (by decide +kernel) (by decide +kernel), tg 76 (by decide +kernel) (by decide +kernel), tg 133 (by decide +kernel) (by decide +kernel), tg 1811 rfl rfl⟩
set_option maxRecDepth 20000 in
theorem wv_X12_isSaid : wV yX12_isSaid cX12_isSaid 5 (some .boolean) := ⟨tg 2089 (by decide +kernel) (by decide +kernel), tg 114 (by decide +kernel) (by decide +kernel), tg 133 (by decide +kernel) (by decide +kernel), tg 2090 rfl rfl⟩
set_option maxRecDepth 20000 in
theorem wv_X12_isSign : wV yX12_isSign cX12_isSign 2 (some .boolean) := ⟨tg 1774 (by decide +kernel) (by decide +kernel), tg 70 (by decide +kernel) (by decide +kernel), tg 133 (by decide +kernel) (by decide +kernel), tg 1775 rfl rfl⟩
set_option maxRecDepth 20000 in
theorem wv_X12_isStranger : wV yX12_isStranger cX12_isStranger 3 (some .boolean) := ⟨tg 1798 (by decide +kernel) (by decide +kernel), tg 74 (by decide +kernel) (by decide +kernel), tg 133 (by decide +kernel) (by decide +kernel), tg 1799 rfl rfl⟩
set_option maxRecDepth 20000 in
theorem wv_X12_isWord : wV yX12_isWord cX12_isWord 3 (some .boolean) := ⟨tg 1697 (by decide +kernel) (by decide +kernel), tg 53 (by decide +kernel) (by decide +kernel), tg 133 (by decide +kernel) (by decide +kernel), tg 1698 rfl rfl⟩
set_option maxRecDepth 20000 in
theorem wv_X12_joins : wV yX12_joins cX12_joins 2 none := ⟨tg 2069 (by decide +kernel) (by decide +kernel), tg 110 (by decide +kernel) (by decide +kernel), tg 133 (by decide +kernel) (by decide +kernel), tg 2070 rfl rfl⟩
set_option maxRecDepth 20000 in
theorem wv_X12_lays : wV yX12_lays cX12_lays 2 none := ⟨tg 2006 (by decide +kernel) (by decide +kernel), tg 101 (by decide +kernel) (by decide +kernel), tg 133 (by decide +kernel) (by decide +kernel), tg 2007 rfl rfl⟩
set_option maxRecDepth 20000 in
theorem wv_X12_leafOf : wV yX12_leafOf cX12_leafOf 1 (some .int) := ⟨tg 2081 (by decide +kernel) (by decide +kernel), tg 113 (by decide +kernel) (by decide +kernel), tg 133 (by decide +kernel) (by decide +kernel), tg 2082 rfl rfl⟩
set_option maxRecDepth 20000 in
theorem wv_X12_leftBy : wV yX12_leftBy cX12_leftBy 5 (some .int) := ⟨tg 1958 (by decide +kernel) (by decide +kernel), tg 97 (by decide +kernel) (by decide +kernel), tg 133 (by decide +kernel) (by decide +kernel), tg 1959 rfl rfl⟩
set_option maxRecDepth 20000 in
theorem wv_X12_looksAt : wV yX12_looksAt cX12_looksAt 3 (some .boolean) := ⟨tg 1747 (by decide +kernel) (by decide +kernel), tg 64 (by decide +kernel) (by decide +kernel), tg 133 (by decide +kernel) (by decide +kernel), tg 1748 rfl rfl⟩
set_option maxRecDepth 20000 in
theorem wv_X12_next : wV yX12_next cX12_next 4 none := ⟨tg 1679 (by decide +kernel) (by decide +kernel), tg 50 (by decide +kernel) (by decide +kernel), tg 133 (by decide +kernel) (by decide +kernel), tg 1680 rfl rfl⟩
set_option maxRecDepth 20000 in
theorem wv_X12_nots : wV yX12_nots cX12_nots 1 none := ⟨tg 2061 (by decide +kernel) (by decide +kernel), tg 108 (by decide +kernel) (by decide +kernel), tg 133 (by decide +kernel) (by decide +kernel), tg 2062 rfl rfl⟩
set_option maxRecDepth 20000 in
theorem wv_X12_octet : wV yX12_octet cX12_octet 2 (some .int) := ⟨tg 1950 (by decide +kernel) (by decide +kernel), tg 95 (by decide +kernel) (by decide +kernel), tg 133 (by decide +kernel) (by decide +kernel), tg 1951 rfl rfl⟩
set_option maxRecDepth 20000 in
theorem wv_X12_once : wV yX12_once cX12_once 2 (some .boolean) := ⟨tg 1701 (by decide +kernel) (by decide +kernel), tg 54 (by decide +kernel) (by decide +kernel), tg 133 (by decide +kernel) (by decide +kernel), tg 1702 rfl rfl⟩
set_option maxRecDepth 20000 in
theorem wv_X12_openHouses : wV yX12_openHouses cX12_openHouses 3 (some .int) := ⟨tg 1830 (by decide +kernel) (by decide +kernel), tg 79 (by decide +kernel) (by decide +kernel), tg 133 (by decide +kernel) (by decide +kernel), tg 1831 rfl rfl⟩
set_option maxRecDepth 20000 in
theorem wv_X12_opens0 : wV yX12_opens0 cX12_opens0 6 none := ⟨tg 1911 (by decide +kernel) (by decide +kernel), tg 93 (by decide +kernel) (by decide +kernel), tg 133 (by decide +kernel) (by decide +kernel), tg 1912 rfl rfl⟩
set_option maxRecDepth 20000 in
theorem wv_X12_operand : wV yX12_operand cX12_operand 5 (some .boolean) := ⟨tg 2077 (by decide +kernel) (by decide +kernel), tg 112 (by decide +kernel) (by decide +kernel), tg 133 (by decide +kernel) (by decide +kernel), tg 2078 rfl rfl⟩
set_option maxRecDepth 20000 in
theorem wv_X12_peek : wV yX12_peek cX12_peek 1 (some .int) := ⟨tg 1683 (by decide +kernel) (by decide +kernel), tg 51 (by decide +kernel) (by decide +kernel), tg 133 (by decide +kernel) (by decide +kernel), tg 1684 rfl rfl⟩
set_option maxRecDepth 20000 in
theorem wv_X12_puts : wV yX12_puts cX12_puts 4 (some .boolean) := ⟨tg 1712 (by decide +kernel) (by decide +kernel), tg 56 (by decide +kernel) (by decide +kernel), tg 133 (by decide +kernel) (by decide +kernel), tg 1713 rfl rfl⟩
set_option maxRecDepth 20000 in
theorem wv_X12_readCalls : wV yX12_readCalls cX12_readCalls 5 (some .boolean) := ⟨tg 1766 (by decide +kernel) (by decide +kernel), tg 68 (by decide +kernel) (by decide +kernel), tg 133 (by decide +kernel) (by decide +kernel), tg 1767 rfl rfl⟩
set_option maxRecDepth 20000 in
theorem wv_X12_readHouse : wV yX12_readHouse cX12_readHouse 2 (some .boolean) := ⟨tg 1723 (by decide +kernel) (by decide +kernel), tg 58 (by decide +kernel) (by decide +kernel), tg 133 (by decide +kernel) (by decide +kernel), tg 1724 rfl rfl⟩
set_option maxRecDepth 20000 in
theorem wv_X12_readKnows : wV yX12_readKnows cX12_readKnows 2 (some .boolean) := ⟨tg 1762 (by decide +kernel) (by decide +kernel), tg 67 (by decide +kernel) (by decide +kernel), tg 133 (by decide +kernel) (by decide +kernel), tg 1763 rfl rfl⟩
set_option maxRecDepth 20000 in
theorem wv_X12_readLine : wV yX12_readLine cX12_readLine 1 (some .boolean) := ⟨tg 1693 (by decide +kernel) (by decide +kernel), tg 52 (by decide +kernel) (by decide +kernel), tg 133 (by decide +kernel) (by decide +kernel), tg 1694 rfl rfl⟩
set_option maxRecDepth 20000 in
theorem wv_X12_readPerson : wV yX12_readPerson cX12_readPerson 4 (some .boolean) := ⟨tg 1739 (by decide +kernel) (by decide +kernel), tg 62 (by decide +kernel) (by decide +kernel), tg 133 (by decide +kernel) (by decide +kernel), tg 1740 rfl rfl⟩
set_option maxRecDepth 20000 in
theorem wv_X12_says : wV yX12_says cX12_says 3 none := ⟨tg 2010 (by decide +kernel) (by decide +kernel), tg 102 (by decide +kernel) (by decide +kernel), tg 133 (by decide +kernel) (by decide +kernel), tg 2011 rfl rfl⟩
set_option maxRecDepth 20000 in
theorem wv_X12_seek : wV yX12_seek cX12_seek 4 (some .int) := ⟨tg 1735 (by decide +kernel) (by decide +kernel), tg 61 (by decide +kernel) (by decide +kernel), tg 133 (by decide +kernel) (by decide +kernel), tg 1736 rfl rfl⟩
set_option maxRecDepth 20000 in
theorem wv_X12_sign : wV yX12_sign cX12_sign 2 (some .boolean) := ⟨tg 1770 (by decide +kernel) (by decide +kernel), tg 69 (by decide +kernel) (by decide +kernel), tg 133 (by decide +kernel) (by decide +kernel), tg 1771 rfl rfl⟩
set_option maxRecDepth 20000 in
theorem wv_X12_spells : wV yX12_spells cX12_spells 4 none := ⟨tg 2001 (by decide +kernel) (by decide +kernel), tg 100 (by decide +kernel) (by decide +kernel), tg 133 (by decide +kernel) (by decide +kernel), tg 2002 rfl rfl⟩
set_option maxRecDepth 20000 in
theorem wv_X12_stands : wV yX12_stands cX12_stands 4 none := ⟨tg 1846 (by decide +kernel) (by decide +kernel), tg 82 (by decide +kernel) (by decide +kernel), tg 133 (by decide +kernel) (by decide +kernel), tg 1847 rfl rfl⟩
set_option maxRecDepth 20000 in
theorem wv_X12_stores : wV yX12_stores cX12_stores 2 none := ⟨tg 1842 (by decide +kernel) (by decide +kernel), tg 81 (by decide +kernel) (by decide +kernel), tg 133 (by decide +kernel) (by decide +kernel), tg 1843 rfl rfl⟩
set_option maxRecDepth 20000 in
theorem wv_X12_strangers : wV yX12_strangers cX12_strangers 4 (some .int) := ⟨tg 1794 (by decide +kernel) (by decide +kernel), tg 73 (by decide +kernel) (by decide +kernel), tg 133 (by decide +kernel) (by decide +kernel), tg 1795 rfl rfl⟩
set_option maxRecDepth 20000 in
theorem wv_X12_strikes : wV yX12_strikes cX12_strikes 3 none := ⟨tg 1898 (by decide +kernel) (by decide +kernel), tg 90 (by decide +kernel) (by decide +kernel), tg 133 (by decide +kernel) (by decide +kernel), tg 1899 rfl rfl⟩
set_option maxRecDepth 20000 in
theorem wv_X12_taken : wV yX12_taken cX12_taken 2 none := ⟨tg 1675 (by decide +kernel) (by decide +kernel), tg 49 (by decide +kernel) (by decide +kernel), tg 133 (by decide +kernel) (by decide +kernel), tg 1676 rfl rfl⟩
set_option maxRecDepth 20000 in
theorem wv_X12_takes : wV yX12_takes cX12_takes 3 (some .boolean) := ⟨tg 1716 (by decide +kernel) (by decide +kernel), tg 57 (by decide +kernel) (by decide +kernel), tg 133 (by decide +kernel) (by decide +kernel), tg 1717 rfl rfl⟩
set_option maxRecDepth 20000 in
theorem wv_X12_takesName : wV yX12_takesName cX12_takesName 3 (some .boolean) := ⟨tg 1743 (by decide +kernel) (by decide +kernel), tg 63 (by decide +kernel) (by decide +kernel), tg 133 (by decide +kernel) (by decide +kernel), tg 1744 rfl rfl⟩
set_option maxRecDepth 20000 in
theorem wv_X12_takesWay : wV yX12_takesWay cX12_takesWay 1 (some .boolean) := ⟨tg 1751 (by decide +kernel) (by decide +kernel), tg 65 (by decide +kernel) (by decide +kernel), tg 133 (by decide +kernel) (by decide +kernel), tg 1752 rfl rfl⟩
set_option maxRecDepth 20000 in
theorem wv_X12_throwsIf : wV yX12_throwsIf cX12_throwsIf 2 (some .boolean) := ⟨tg 1814 (by decide +kernel) (by decide +kernel), tg 77 (by decide +kernel) (by decide +kernel), tg 133 (by decide +kernel) (by decide +kernel), tg 1815 rfl rfl⟩
set_option maxRecDepth 20000 in
theorem wv_X12_tick : wV yX12_tick cX12_tick 4 none := ⟨tg 1890 (by decide +kernel) (by decide +kernel), tg 88 (by decide +kernel) (by decide +kernel), tg 133 (by decide +kernel) (by decide +kernel), tg 1891 rfl rfl⟩
set_option maxRecDepth 20000 in
theorem wv_X12_tries : wV yX12_tries cX12_tries 2 none := ⟨tg 1973 (by decide +kernel) (by decide +kernel), tg 98 (by decide +kernel) (by decide +kernel), tg 133 (by decide +kernel) (by decide +kernel), tg 1974 rfl rfl⟩
set_option maxRecDepth 20000 in
theorem wv_X12_walks : wV yX12_walks cX12_walks 3 none := ⟨tg 1894 (by decide +kernel) (by decide +kernel), tg 89 (by decide +kernel) (by decide +kernel), tg 133 (by decide +kernel) (by decide +kernel), tg 1895 rfl rfl⟩
set_option maxRecDepth 20000 in
theorem wv_X12_wayWord : wV yX12_wayWord cX12_wayWord 1 (some .int) := ⟨tg 1755 (by decide +kernel) (by decide +kernel), tg 66 (by decide +kernel) (by decide +kernel), tg 133 (by decide +kernel) (by decide +kernel), tg 1756 rfl rfl⟩
set_option maxRecDepth 20000 in
theorem wv_X12_whyCall : wV yX12_whyCall cX12_whyCall 3 (some .int) := ⟨tg 1870 (by decide +kernel) (by decide +kernel), tg 84 (by decide +kernel) (by decide +kernel), tg 133 (by decide +kernel) (by decide +kernel), tg 1871 rfl rfl⟩
set_option maxRecDepth 20000 in
theorem wv_X12_whyGo : wV yX12_whyGo cX12_whyGo 3 (some .int) := ⟨tg 1854 (by decide +kernel) (by decide +kernel), tg 83 (by decide +kernel) (by decide +kernel), tg 133 (by decide +kernel) (by decide +kernel), tg 1855 rfl rfl⟩
set_option maxRecDepth 20000 in
theorem wv_X12_whyKnock : wV yX12_whyKnock cX12_whyKnock 3 (some .int) := ⟨tg 1838 (by decide +kernel) (by decide +kernel), tg 80 (by decide +kernel) (by decide +kernel), tg 133 (by decide +kernel) (by decide +kernel), tg 1839 rfl rfl⟩
set_option maxRecDepth 20000 in
theorem ws_X11_bitInOrder : wSt yX11_bitInOrder cX11_bitInOrder 4 (some .int) := ⟨tg 1062 (by decide +kernel) (by decide +kernel), tg 117 (by decide +kernel) (by decide +kernel), tg 1063 rfl rfl⟩
set_option maxRecDepth 20000 in
theorem ws_X11_commonDivisor : wSt yX11_commonDivisor cX11_commonDivisor 3 (some .int) := ⟨tg 1467 (by decide +kernel) (by decide +kernel), tg 117 (by decide +kernel) (by decide +kernel), tg 1468 rfl rfl⟩
set_option maxRecDepth 20000 in
theorem ws_X11_hasBit : wSt yX11_hasBit cX11_hasBit 2 (some .boolean) := ⟨tg 756 (by decide +kernel) (by decide +kernel), tg 117 (by decide +kernel) (by decide +kernel), tg 757 rfl rfl⟩
set_option maxRecDepth 20000 in
theorem ws_X0_liveLine : wSt yX0_liveLine cX0_liveLine 5 (some .int) := ⟨tg 1261 (by decide +kernel) (by decide +kernel), tg 129 (by decide +kernel) (by decide +kernel), tg 1262 rfl rfl⟩
set_option maxRecDepth 20000 in
theorem ws_X0_reason : wSt yX0_reason cX0_reason 2 (some .int) := ⟨tg 1265 (by decide +kernel) (by decide +kernel), tg 129 (by decide +kernel) (by decide +kernel), tg 1266 rfl rfl⟩
set_option maxRecDepth 20000 in
theorem ws_X1_knownToAny : wSt yX1_knownToAny cX1_knownToAny 4 (some .int) := ⟨tg 1051 (by decide +kernel) (by decide +kernel), tg 131 (by decide +kernel) (by decide +kernel), tg 1052 rfl rfl⟩
set_option maxRecDepth 20000 in
theorem ws_X7_canBeginOne : wSt yX7_canBeginOne cX7_canBeginOne 1 (some .boolean) := ⟨tg 1301 (by decide +kernel) (by decide +kernel), tg 126 (by decide +kernel) (by decide +kernel), tg 1302 rfl rfl⟩
set_option maxRecDepth 20000 in
theorem ws_X7_compares : wSt yX7_compares cX7_compares 3 (some .boolean) := ⟨tg 1364 (by decide +kernel) (by decide +kernel), tg 126 (by decide +kernel) (by decide +kernel), tg 1365 rfl rfl⟩
set_option maxRecDepth 20000 in
theorem ws_X7_isTrueOf : wSt yX7_isTrueOf cX7_isTrueOf 5 (some .boolean) := ⟨tg 1354 (by decide +kernel) (by decide +kernel), tg 126 (by decide +kernel) (by decide +kernel), tg 1355 rfl rfl⟩
set_option maxRecDepth 20000 in
theorem ws_X7_personsOf : wSt yX7_personsOf cX7_personsOf 6 (some .int) := ⟨tg 1351 (by decide +kernel) (by decide +kernel), tg 126 (by decide +kernel) (by decide +kernel), tg 1352 rfl rfl⟩
set_option maxRecDepth 20000 in
theorem ws_X7_refuse : wSt yX7_refuse cX7_refuse 2 (some .boolean) := ⟨tg 1304 (by decide +kernel) (by decide +kernel), tg 126 (by decide +kernel) (by decide +kernel), tg 1305 rfl rfl⟩
set_option maxRecDepth 20000 in
theorem ws_X10_isBlank : wSt yX10_isBlank cX10_isBlank 1 (some .boolean) := ⟨tg 651 (by decide +kernel) (by decide +kernel), tg 118 (by decide +kernel) (by decide +kernel), tg 652 rfl rfl⟩
set_option maxRecDepth 20000 in
theorem ws_X10_isSign : wSt yX10_isSign cX10_isSign 1 (some .boolean) := ⟨tg 654 (by decide +kernel) (by decide +kernel), tg 118 (by decide +kernel) (by decide +kernel), tg 655 rfl rfl⟩
set_option maxRecDepth 20000 in
theorem ws_X12_bitOf : wSt yX12_bitOf cX12_bitOf 2 (some .boolean) := ⟨tg 1704 (by decide +kernel) (by decide +kernel), tg 133 (by decide +kernel) (by decide +kernel), tg 1705 rfl rfl⟩
set_option maxRecDepth 20000 in
theorem ws_X12_bits : wSt yX12_bits cX12_bits 3 (some .int) := ⟨tg 1926 (by decide +kernel) (by decide +kernel), tg 133 (by decide +kernel) (by decide +kernel), tg 1927 rfl rfl⟩
set_option maxRecDepth 20000 in
theorem ws_X12_greater : wSt yX12_greater cX12_greater 2 (some .int) := ⟨tg 1961 (by decide +kernel) (by decide +kernel), tg 133 (by decide +kernel) (by decide +kernel), tg 1962 rfl rfl⟩
set_option maxRecDepth 20000 in
theorem ws_X12_isDigit : wSt yX12_isDigit cX12_isDigit 1 (some .boolean) := ⟨tg 1689 (by decide +kernel) (by decide +kernel), tg 133 (by decide +kernel) (by decide +kernel), tg 1690 rfl rfl⟩
set_option maxRecDepth 20000 in
theorem ws_X12_isIn : wSt yX12_isIn cX12_isIn 3 (some .boolean) := ⟨tg 1719 (by decide +kernel) (by decide +kernel), tg 133 (by decide +kernel) (by decide +kernel), tg 1720 rfl rfl⟩
set_option maxRecDepth 20000 in
theorem ws_X12_isSmall : wSt yX12_isSmall cX12_isSmall 1 (some .boolean) := ⟨tg 1686 (by decide +kernel) (by decide +kernel), tg 133 (by decide +kernel) (by decide +kernel), tg 1687 rfl rfl⟩
set_option maxRecDepth 20000 in
theorem ws_X12_knowsIn : wSt yX12_knowsIn cX12_knowsIn 4 none := ⟨tg 1758 (by decide +kernel) (by decide +kernel), tg 133 (by decide +kernel) (by decide +kernel), tg 1759 rfl rfl⟩
set_option maxRecDepth 20000 in
theorem ws_J6_bitCount_0f7a4 : wSt yJ6_bitCount_0f7a4 cJ6_bitCount_0f7a4 1 (some .int) := ⟨tg 1030 (by decide +kernel) (by decide +kernel), tg 140 (by decide +kernel) (by decide +kernel), tg 1031 rfl rfl⟩
theorem yk_X11_bitInOrder : yOK yX11_bitInOrder 2 := ⟨by decide +kernel, by decide +kernel, by decide +kernel⟩
theorem yk_X11_commonDivisor : yOK yX11_commonDivisor 2 := ⟨by decide +kernel, by decide +kernel, by decide +kernel⟩
theorem yk_X11_finishReading : yOK yX11_finishReading 0 := ⟨by decide +kernel, by decide +kernel, by decide +kernel⟩
theorem yk_X11_hasBit : yOK yX11_hasBit 2 := ⟨by decide +kernel, by decide +kernel, by decide +kernel⟩
theorem yk_X11_imageOf : yOK yX11_imageOf 1 := ⟨by decide +kernel, by decide +kernel, by decide +kernel⟩
theorem yk_X11_whoByPairs : yOK yX11_whoByPairs 0 := ⟨by decide +kernel, by decide +kernel, by decide +kernel⟩
theorem yk_X0_add : yOK yX0_add 3 := ⟨by decide +kernel, by decide +kernel, by decide +kernel⟩
theorem yk_X0_addAct : yOK yX0_addAct 3 := ⟨by decide +kernel, by decide +kernel, by decide +kernel⟩
theorem yk_X0_addMeeting : yOK yX0_addMeeting 2 := ⟨by decide +kernel, by decide +kernel, by decide +kernel⟩
theorem yk_X0_live : yOK yX0_live 1 := ⟨by decide +kernel, by decide +kernel, by decide +kernel⟩
theorem yk_X0_liveLine : yOK yX0_liveLine 4 := ⟨by decide +kernel, by decide +kernel, by decide +kernel⟩
theorem yk_X0_readAct : yOK yX0_readAct 1 := ⟨by decide +kernel, by decide +kernel, by decide +kernel⟩
theorem yk_X0_readAll : yOK yX0_readAll 0 := ⟨by decide +kernel, by decide +kernel, by decide +kernel⟩
theorem yk_X0_readLine : yOK yX0_readLine 0 := ⟨by decide +kernel, by decide +kernel, by decide +kernel⟩
theorem yk_X0_readTicks : yOK yX0_readTicks 0 := ⟨by decide +kernel, by decide +kernel, by decide +kernel⟩
theorem yk_X0_reason : yOK yX0_reason 2 := ⟨by decide +kernel, by decide +kernel, by decide +kernel⟩
theorem yk_X0_tell : yOK yX0_tell 1 := ⟨by decide +kernel, by decide +kernel, by decide +kernel⟩
theorem yk_X1_find : yOK yX1_find 3 := ⟨by decide +kernel, by decide +kernel, by decide +kernel⟩
theorem yk_X1_knownToAny : yOK yX1_knownToAny 2 := ⟨by decide +kernel, by decide +kernel, by decide +kernel⟩
theorem yk_X1_personAt : yOK yX1_personAt 1 := ⟨by decide +kernel, by decide +kernel, by decide +kernel⟩
theorem yk_X1_walk : yOK yX1_walk 3 := ⟨by decide +kernel, by decide +kernel, by decide +kernel⟩
theorem yk_X2_add : yOK yX2_add 1 := ⟨by decide +kernel, by decide +kernel, by decide +kernel⟩
theorem yk_X2_addDigits : yOK yX2_addDigits 1 := ⟨by decide +kernel, by decide +kernel, by decide +kernel⟩
theorem yk_X2_addText : yOK yX2_addText 1 := ⟨by decide +kernel, by decide +kernel, by decide +kernel⟩
theorem yk_X2_addWay : yOK yX2_addWay 1 := ⟨by decide +kernel, by decide +kernel, by decide +kernel⟩
theorem yk_X2_addWord : yOK yX2_addWord 1 := ⟨by decide +kernel, by decide +kernel, by decide +kernel⟩
theorem yk_X2_signAt : yOK yX2_signAt 1 := ⟨by decide +kernel, by decide +kernel, by decide +kernel⟩
theorem yk_X2_write : yOK yX2_write 2 := ⟨by decide +kernel, by decide +kernel, by decide +kernel⟩
theorem yk_X3_canBeOpen : yOK yX3_canBeOpen 1 := ⟨by decide +kernel, by decide +kernel, by decide +kernel⟩
theorem yk_X3_greatestSet : yOK yX3_greatestSet 1 := ⟨by decide +kernel, by decide +kernel, by decide +kernel⟩
theorem yk_X4_bringBack : yOK yX4_bringBack 1 := ⟨by decide +kernel, by decide +kernel, by decide +kernel⟩
theorem yk_X4_forget : yOK yX4_forget 0 := ⟨by decide +kernel, by decide +kernel, by decide +kernel⟩
theorem yk_X4_keep : yOK yX4_keep 0 := ⟨by decide +kernel, by decide +kernel, by decide +kernel⟩
theorem yk_X4_keepIfAny : yOK yX4_keepIfAny 1 := ⟨by decide +kernel, by decide +kernel, by decide +kernel⟩
theorem yk_X4_keepIfDone : yOK yX4_keepIfDone 1 := ⟨by decide +kernel, by decide +kernel, by decide +kernel⟩
theorem yk_X4_note : yOK yX4_note 1 := ⟨by decide +kernel, by decide +kernel, by decide +kernel⟩
theorem yk_X4_roomBehind : yOK yX4_roomBehind 1 := ⟨by decide +kernel, by decide +kernel, by decide +kernel⟩
theorem yk_X5_addHouse : yOK yX5_addHouse 2 := ⟨by decide +kernel, by decide +kernel, by decide +kernel⟩
theorem yk_X5_addPerson : yOK yX5_addPerson 3 := ⟨by decide +kernel, by decide +kernel, by decide +kernel⟩
theorem yk_X5_clear : yOK yX5_clear 0 := ⟨by decide +kernel, by decide +kernel, by decide +kernel⟩
theorem yk_X5_copyFrom : yOK yX5_copyFrom 1 := ⟨by decide +kernel, by decide +kernel, by decide +kernel⟩
theorem yk_X5_findHouse : yOK yX5_findHouse 1 := ⟨by decide +kernel, by decide +kernel, by decide +kernel⟩
theorem yk_X5_findPerson : yOK yX5_findPerson 1 := ⟨by decide +kernel, by decide +kernel, by decide +kernel⟩
theorem yk_X5_hasHouse : yOK yX5_hasHouse 1 := ⟨by decide +kernel, by decide +kernel, by decide +kernel⟩
theorem yk_X5_hasPerson : yOK yX5_hasPerson 1 := ⟨by decide +kernel, by decide +kernel, by decide +kernel⟩
theorem yk_X5_homeOf : yOK yX5_homeOf 1 := ⟨by decide +kernel, by decide +kernel, by decide +kernel⟩
theorem yk_X5_isStern : yOK yX5_isStern 1 := ⟨by decide +kernel, by decide +kernel, by decide +kernel⟩
theorem yk_X5_livingIn : yOK yX5_livingIn 1 := ⟨by decide +kernel, by decide +kernel, by decide +kernel⟩
theorem yk_X5_nameOfHouse : yOK yX5_nameOfHouse 1 := ⟨by decide +kernel, by decide +kernel, by decide +kernel⟩
theorem yk_X5_nameOfPerson : yOK yX5_nameOfPerson 1 := ⟨by decide +kernel, by decide +kernel, by decide +kernel⟩
theorem yk_X5_placeOf : yOK yX5_placeOf 1 := ⟨by decide +kernel, by decide +kernel, by decide +kernel⟩
theorem yk_X6_readAll : yOK yX6_readAll 0 := ⟨by decide +kernel, by decide +kernel, by decide +kernel⟩
theorem yk_X6_readCalls : yOK yX6_readCalls 0 := ⟨by decide +kernel, by decide +kernel, by decide +kernel⟩
theorem yk_X6_readEar : yOK yX6_readEar 0 := ⟨by decide +kernel, by decide +kernel, by decide +kernel⟩
theorem yk_X6_readHouse : yOK yX6_readHouse 0 := ⟨by decide +kernel, by decide +kernel, by decide +kernel⟩
theorem yk_X6_readKnows : yOK yX6_readKnows 0 := ⟨by decide +kernel, by decide +kernel, by decide +kernel⟩
theorem yk_X6_readLane : yOK yX6_readLane 0 := ⟨by decide +kernel, by decide +kernel, by decide +kernel⟩
theorem yk_X6_readLine : yOK yX6_readLine 0 := ⟨by decide +kernel, by decide +kernel, by decide +kernel⟩
theorem yk_X6_readPerson : yOK yX6_readPerson 0 := ⟨by decide +kernel, by decide +kernel, by decide +kernel⟩
theorem yk_X6_readStay : yOK yX6_readStay 0 := ⟨by decide +kernel, by decide +kernel, by decide +kernel⟩
theorem yk_X6_refuse : yOK yX6_refuse 1 := ⟨by decide +kernel, by decide +kernel, by decide +kernel⟩
theorem yk_X7_add : yOK yX7_add 3 := ⟨by decide +kernel, by decide +kernel, by decide +kernel⟩
theorem yk_X7_canBeginOne : yOK yX7_canBeginOne 1 := ⟨by decide +kernel, by decide +kernel, by decide +kernel⟩
theorem yk_X7_clear : yOK yX7_clear 0 := ⟨by decide +kernel, by decide +kernel, by decide +kernel⟩
theorem yk_X7_compares : yOK yX7_compares 3 := ⟨by decide +kernel, by decide +kernel, by decide +kernel⟩
theorem yk_X7_copyFrom : yOK yX7_copyFrom 1 := ⟨by decide +kernel, by decide +kernel, by decide +kernel⟩
theorem yk_X7_isTrueOf : yOK yX7_isTrueOf 5 := ⟨by decide +kernel, by decide +kernel, by decide +kernel⟩
theorem yk_X7_personsOf : yOK yX7_personsOf 4 := ⟨by decide +kernel, by decide +kernel, by decide +kernel⟩
theorem yk_X7_pop : yOK yX7_pop 0 := ⟨by decide +kernel, by decide +kernel, by decide +kernel⟩
theorem yk_X7_push : yOK yX7_push 1 := ⟨by decide +kernel, by decide +kernel, by decide +kernel⟩
theorem yk_X7_readAll : yOK yX7_readAll 2 := ⟨by decide +kernel, by decide +kernel, by decide +kernel⟩
theorem yk_X7_readBracket : yOK yX7_readBracket 3 := ⟨by decide +kernel, by decide +kernel, by decide +kernel⟩
theorem yk_X7_readCond : yOK yX7_readCond 3 := ⟨by decide +kernel, by decide +kernel, by decide +kernel⟩
theorem yk_X7_readNot : yOK yX7_readNot 3 := ⟨by decide +kernel, by decide +kernel, by decide +kernel⟩
theorem yk_X7_readOne : yOK yX7_readOne 3 := ⟨by decide +kernel, by decide +kernel, by decide +kernel⟩
theorem yk_X7_readPlainOne : yOK yX7_readPlainOne 3 := ⟨by decide +kernel, by decide +kernel, by decide +kernel⟩
theorem yk_X7_refuse : yOK yX7_refuse 2 := ⟨by decide +kernel, by decide +kernel, by decide +kernel⟩
theorem yk_X7_trueOf : yOK yX7_trueOf 1 := ⟨by decide +kernel, by decide +kernel, by decide +kernel⟩
theorem yk_X8_actByDraw : yOK yX8_actByDraw 1 := ⟨by decide +kernel, by decide +kernel, by decide +kernel⟩
theorem yk_X8_addPerson : yOK yX8_addPerson 3 := ⟨by decide +kernel, by decide +kernel, by decide +kernel⟩
theorem yk_X8_answererOf : yOK yX8_answererOf 2 := ⟨by decide +kernel, by decide +kernel, by decide +kernel⟩
theorem yk_X8_areTogether : yOK yX8_areTogether 2 := ⟨by decide +kernel, by decide +kernel, by decide +kernel⟩
theorem yk_X8_bestToAsk : yOK yX8_bestToAsk 1 := ⟨by decide +kernel, by decide +kernel, by decide +kernel⟩
theorem yk_X8_callAtDoor : yOK yX8_callAtDoor 1 := ⟨by decide +kernel, by decide +kernel, by decide +kernel⟩
theorem yk_X8_clear : yOK yX8_clear 0 := ⟨by decide +kernel, by decide +kernel, by decide +kernel⟩
theorem yk_X8_copyFrom : yOK yX8_copyFrom 1 := ⟨by decide +kernel, by decide +kernel, by decide +kernel⟩
theorem yk_X8_detail : yOK yX8_detail 2 := ⟨by decide +kernel, by decide +kernel, by decide +kernel⟩
theorem yk_X8_doesKnow : yOK yX8_doesKnow 2 := ⟨by decide +kernel, by decide +kernel, by decide +kernel⟩
theorem yk_X8_draw : yOK yX8_draw 1 := ⟨by decide +kernel, by decide +kernel, by decide +kernel⟩
theorem yk_X8_dropCall : yOK yX8_dropCall 1 := ⟨by decide +kernel, by decide +kernel, by decide +kernel⟩
theorem yk_X8_housesToCallAt : yOK yX8_housesToCallAt 1 := ⟨by decide +kernel, by decide +kernel, by decide +kernel⟩
theorem yk_X8_housesWithStrangers : yOK yX8_housesWithStrangers 0 := ⟨by decide +kernel, by decide +kernel, by decide +kernel⟩
theorem yk_X8_isInLane : yOK yX8_isInLane 1 := ⟨by decide +kernel, by decide +kernel, by decide +kernel⟩
theorem yk_X8_isInside : yOK yX8_isInside 1 := ⟨by decide +kernel, by decide +kernel, by decide +kernel⟩
theorem yk_X8_isKnocking : yOK yX8_isKnocking 1 := ⟨by decide +kernel, by decide +kernel, by decide +kernel⟩
theorem yk_X8_knownInAll : yOK yX8_knownInAll 0 := ⟨by decide +kernel, by decide +kernel, by decide +kernel⟩
theorem yk_X8_knownTo : yOK yX8_knownTo 1 := ⟨by decide +kernel, by decide +kernel, by decide +kernel⟩
theorem yk_X8_letDrawnTicksGo : yOK yX8_letDrawnTicksGo 2 := ⟨by decide +kernel, by decide +kernel, by decide +kernel⟩
theorem yk_X8_letTickGo : yOK yX8_letTickGo 0 := ⟨by decide +kernel, by decide +kernel, by decide +kernel⟩
theorem yk_X8_letTicksGo : yOK yX8_letTicksGo 1 := ⟨by decide +kernel, by decide +kernel, by decide +kernel⟩
theorem yk_X8_makeKnown : yOK yX8_makeKnown 2 := ⟨by decide +kernel, by decide +kernel, by decide +kernel⟩
theorem yk_X8_openDoor : yOK yX8_openDoor 2 := ⟨by decide +kernel, by decide +kernel, by decide +kernel⟩
theorem yk_X8_openedInAll : yOK yX8_openedInAll 0 := ⟨by decide +kernel, by decide +kernel, by decide +kernel⟩
theorem yk_X8_putInLane : yOK yX8_putInLane 1 := ⟨by decide +kernel, by decide +kernel, by decide +kernel⟩
theorem yk_X8_stayOn : yOK yX8_stayOn 1 := ⟨by decide +kernel, by decide +kernel, by decide +kernel⟩
theorem yk_X8_strangersOf : yOK yX8_strangersOf 1 := ⟨by decide +kernel, by decide +kernel, by decide +kernel⟩
theorem yk_X8_thoseAt : yOK yX8_thoseAt 2 := ⟨by decide +kernel, by decide +kernel, by decide +kernel⟩
theorem yk_X8_thoseWhoAre : yOK yX8_thoseWhoAre 1 := ⟨by decide +kernel, by decide +kernel, by decide +kernel⟩
theorem yk_X8_thoseWhoCouldAnswer : yOK yX8_thoseWhoCouldAnswer 1 := ⟨by decide +kernel, by decide +kernel, by decide +kernel⟩
theorem yk_X8_tryCall : yOK yX8_tryCall 2 := ⟨by decide +kernel, by decide +kernel, by decide +kernel⟩
theorem yk_X8_tryGo : yOK yX8_tryGo 2 := ⟨by decide +kernel, by decide +kernel, by decide +kernel⟩
theorem yk_X8_tryKnock : yOK yX8_tryKnock 2 := ⟨by decide +kernel, by decide +kernel, by decide +kernel⟩
theorem yk_X8_tryMeet : yOK yX8_tryMeet 2 := ⟨by decide +kernel, by decide +kernel, by decide +kernel⟩
theorem yk_X8_tryQuit : yOK yX8_tryQuit 1 := ⟨by decide +kernel, by decide +kernel, by decide +kernel⟩
theorem yk_X8_walkOn : yOK yX8_walkOn 1 := ⟨by decide +kernel, by decide +kernel, by decide +kernel⟩
theorem yk_X8_whoOpenedMost : yOK yX8_whoOpenedMost 0 := ⟨by decide +kernel, by decide +kernel, by decide +kernel⟩
theorem yk_X8_whomJustTheseKnow : yOK yX8_whomJustTheseKnow 2 := ⟨by decide +kernel, by decide +kernel, by decide +kernel⟩
theorem yk_X9_copyFrom : yOK yX9_copyFrom 1 := ⟨by decide +kernel, by decide +kernel, by decide +kernel⟩
theorem yk_X10_addFour : yOK yX10_addFour 1 := ⟨by decide +kernel, by decide +kernel, by decide +kernel⟩
theorem yk_X10_byteOf : yOK yX10_byteOf 1 := ⟨by decide +kernel, by decide +kernel, by decide +kernel⟩
theorem yk_X10_houseHere : yOK yX10_houseHere 1 := ⟨by decide +kernel, by decide +kernel, by decide +kernel⟩
theorem yk_X10_isBlank : yOK yX10_isBlank 1 := ⟨by decide +kernel, by decide +kernel, by decide +kernel⟩
theorem yk_X10_isEnd : yOK yX10_isEnd 0 := ⟨by decide +kernel, by decide +kernel, by decide +kernel⟩
theorem yk_X10_isSign : yOK yX10_isSign 1 := ⟨by decide +kernel, by decide +kernel, by decide +kernel⟩
theorem yk_X10_isSignOf : yOK yX10_isSignOf 1 := ⟨by decide +kernel, by decide +kernel, by decide +kernel⟩
theorem yk_X10_isWord : yOK yX10_isWord 1 := ⟨by decide +kernel, by decide +kernel, by decide +kernel⟩
theorem yk_X10_nameWord : yOK yX10_nameWord 0 := ⟨by decide +kernel, by decide +kernel, by decide +kernel⟩
theorem yk_X10_personHere : yOK yX10_personHere 1 := ⟨by decide +kernel, by decide +kernel, by decide +kernel⟩
theorem yk_X10_refuse : yOK yX10_refuse 1 := ⟨by decide +kernel, by decide +kernel, by decide +kernel⟩
theorem yk_X10_startReading : yOK yX10_startReading 1 := ⟨by decide +kernel, by decide +kernel, by decide +kernel⟩
theorem yk_X10_take : yOK yX10_take 0 := ⟨by decide +kernel, by decide +kernel, by decide +kernel⟩
theorem yk_X10_takeCompare : yOK yX10_takeCompare 0 := ⟨by decide +kernel, by decide +kernel, by decide +kernel⟩
theorem yk_X10_takeHouse : yOK yX10_takeHouse 1 := ⟨by decide +kernel, by decide +kernel, by decide +kernel⟩
theorem yk_X10_takeLineEnd : yOK yX10_takeLineEnd 0 := ⟨by decide +kernel, by decide +kernel, by decide +kernel⟩
theorem yk_X10_takeNewName : yOK yX10_takeNewName 1 := ⟨by decide +kernel, by decide +kernel, by decide +kernel⟩
theorem yk_X10_takeNumber : yOK yX10_takeNumber 2 := ⟨by decide +kernel, by decide +kernel, by decide +kernel⟩
theorem yk_X10_takeOneOf : yOK yX10_takeOneOf 2 := ⟨by decide +kernel, by decide +kernel, by decide +kernel⟩
theorem yk_X10_takePerson : yOK yX10_takePerson 1 := ⟨by decide +kernel, by decide +kernel, by decide +kernel⟩
theorem yk_X10_takeRun : yOK yX10_takeRun 0 := ⟨by decide +kernel, by decide +kernel, by decide +kernel⟩
theorem yk_X12_answers : yOK yX12_answers 2 := ⟨by decide +kernel, by decide +kernel, by decide +kernel⟩
theorem yk_X12_are : yOK yX12_are 1 := ⟨by decide +kernel, by decide +kernel, by decide +kernel⟩
theorem yk_X12_areAnswered : yOK yX12_areAnswered 1 := ⟨by decide +kernel, by decide +kernel, by decide +kernel⟩
theorem yk_X12_areAt : yOK yX12_areAt 2 := ⟨by decide +kernel, by decide +kernel, by decide +kernel⟩
theorem yk_X12_bad : yOK yX12_bad 1 := ⟨by decide +kernel, by decide +kernel, by decide +kernel⟩
theorem yk_X12_behind : yOK yX12_behind 0 := ⟨by decide +kernel, by decide +kernel, by decide +kernel⟩
theorem yk_X12_bitOf : yOK yX12_bitOf 2 := ⟨by decide +kernel, by decide +kernel, by decide +kernel⟩
theorem yk_X12_bits : yOK yX12_bits 1 := ⟨by decide +kernel, by decide +kernel, by decide +kernel⟩
theorem yk_X12_bookLine : yOK yX12_bookLine 0 := ⟨by decide +kernel, by decide +kernel, by decide +kernel⟩
theorem yk_X12_books : yOK yX12_books 2 := ⟨by decide +kernel, by decide +kernel, by decide +kernel⟩
theorem yk_X12_brings : yOK yX12_brings 0 := ⟨by decide +kernel, by decide +kernel, by decide +kernel⟩
theorem yk_X12_callOf : yOK yX12_callOf 2 := ⟨by decide +kernel, by decide +kernel, by decide +kernel⟩
theorem yk_X12_canAnswer : yOK yX12_canAnswer 2 := ⟨by decide +kernel, by decide +kernel, by decide +kernel⟩
theorem yk_X12_clears : yOK yX12_clears 0 := ⟨by decide +kernel, by decide +kernel, by decide +kernel⟩
theorem yk_X12_code : yOK yX12_code 3 := ⟨by decide +kernel, by decide +kernel, by decide +kernel⟩
theorem yk_X12_does : yOK yX12_does 3 := ⟨by decide +kernel, by decide +kernel, by decide +kernel⟩
theorem yk_X12_draw : yOK yX12_draw 1 := ⟨by decide +kernel, by decide +kernel, by decide +kernel⟩
theorem yk_X12_drawPerson : yOK yX12_drawPerson 1 := ⟨by decide +kernel, by decide +kernel, by decide +kernel⟩
theorem yk_X12_draws : yOK yX12_draws 2 := ⟨by decide +kernel, by decide +kernel, by decide +kernel⟩
theorem yk_X12_dwellers : yOK yX12_dwellers 1 := ⟨by decide +kernel, by decide +kernel, by decide +kernel⟩
theorem yk_X12_four : yOK yX12_four 1 := ⟨by decide +kernel, by decide +kernel, by decide +kernel⟩
theorem yk_X12_fresh : yOK yX12_fresh 1 := ⟨by decide +kernel, by decide +kernel, by decide +kernel⟩
theorem yk_X12_goesOn : yOK yX12_goesOn 1 := ⟨by decide +kernel, by decide +kernel, by decide +kernel⟩
theorem yk_X12_greater : yOK yX12_greater 2 := ⟨by decide +kernel, by decide +kernel, by decide +kernel⟩
theorem yk_X12_isDigit : yOK yX12_isDigit 1 := ⟨by decide +kernel, by decide +kernel, by decide +kernel⟩
theorem yk_X12_isHouse : yOK yX12_isHouse 1 := ⟨by decide +kernel, by decide +kernel, by decide +kernel⟩
theorem yk_X12_isIn : yOK yX12_isIn 3 := ⟨by decide +kernel, by decide +kernel, by decide +kernel⟩
theorem yk_X12_isLeaf : yOK yX12_isLeaf 4 := ⟨by decide +kernel, by decide +kernel, by decide +kernel⟩
theorem yk_X12_isMeant : yOK yX12_isMeant 1 := ⟨by decide +kernel, by decide +kernel, by decide +kernel⟩
theorem yk_X12_isName : yOK yX12_isName 0 := ⟨by decide +kernel, by decide +kernel, by decide +kernel⟩
theorem yk_X12_isPerson : yOK yX12_isPerson 1 := ⟨by decide +kernel, by decide +kernel, by decide +kernel⟩
theorem yk_X12_isSaid : yOK yX12_isSaid 1 := ⟨by decide +kernel, by decide +kernel, by decide +kernel⟩
theorem yk_X12_isSign : yOK yX12_isSign 1 := ⟨by decide +kernel, by decide +kernel, by decide +kernel⟩
theorem yk_X12_isSmall : yOK yX12_isSmall 1 := ⟨by decide +kernel, by decide +kernel, by decide +kernel⟩
theorem yk_X12_isStranger : yOK yX12_isStranger 2 := ⟨by decide +kernel, by decide +kernel, by decide +kernel⟩
theorem yk_X12_isWord : yOK yX12_isWord 1 := ⟨by decide +kernel, by decide +kernel, by decide +kernel⟩
theorem yk_X12_joins : yOK yX12_joins 1 := ⟨by decide +kernel, by decide +kernel, by decide +kernel⟩
theorem yk_X12_knowsIn : yOK yX12_knowsIn 4 := ⟨by decide +kernel, by decide +kernel, by decide +kernel⟩
theorem yk_X12_lays : yOK yX12_lays 1 := ⟨by decide +kernel, by decide +kernel, by decide +kernel⟩
theorem yk_X12_leafOf : yOK yX12_leafOf 0 := ⟨by decide +kernel, by decide +kernel, by decide +kernel⟩
theorem yk_X12_leftBy : yOK yX12_leftBy 2 := ⟨by decide +kernel, by decide +kernel, by decide +kernel⟩
theorem yk_X12_looksAt : yOK yX12_looksAt 2 := ⟨by decide +kernel, by decide +kernel, by decide +kernel⟩
theorem yk_X12_next : yOK yX12_next 0 := ⟨by decide +kernel, by decide +kernel, by decide +kernel⟩
theorem yk_X12_nots : yOK yX12_nots 0 := ⟨by decide +kernel, by decide +kernel, by decide +kernel⟩
theorem yk_X12_octet : yOK yX12_octet 1 := ⟨by decide +kernel, by decide +kernel, by decide +kernel⟩
theorem yk_X12_once : yOK yX12_once 1 := ⟨by decide +kernel, by decide +kernel, by decide +kernel⟩
theorem yk_X12_openHouses : yOK yX12_openHouses 0 := ⟨by decide +kernel, by decide +kernel, by decide +kernel⟩
theorem yk_X12_opens0 : yOK yX12_opens0 2 := ⟨by decide +kernel, by decide +kernel, by decide +kernel⟩
theorem yk_X12_operand : yOK yX12_operand 0 := ⟨by decide +kernel, by decide +kernel, by decide +kernel⟩
theorem yk_X12_peek : yOK yX12_peek 0 := ⟨by decide +kernel, by decide +kernel, by decide +kernel⟩
theorem yk_X12_puts : yOK yX12_puts 3 := ⟨by decide +kernel, by decide +kernel, by decide +kernel⟩
theorem yk_X12_readCalls : yOK yX12_readCalls 0 := ⟨by decide +kernel, by decide +kernel, by decide +kernel⟩
theorem yk_X12_readHouse : yOK yX12_readHouse 0 := ⟨by decide +kernel, by decide +kernel, by decide +kernel⟩
theorem yk_X12_readKnows : yOK yX12_readKnows 0 := ⟨by decide +kernel, by decide +kernel, by decide +kernel⟩
theorem yk_X12_readLine : yOK yX12_readLine 0 := ⟨by decide +kernel, by decide +kernel, by decide +kernel⟩
theorem yk_X12_readPerson : yOK yX12_readPerson 0 := ⟨by decide +kernel, by decide +kernel, by decide +kernel⟩
theorem yk_X12_says : yOK yX12_says 1 := ⟨by decide +kernel, by decide +kernel, by decide +kernel⟩
theorem yk_X12_seek : yOK yX12_seek 2 := ⟨by decide +kernel, by decide +kernel, by decide +kernel⟩
theorem yk_X12_sign : yOK yX12_sign 1 := ⟨by decide +kernel, by decide +kernel, by decide +kernel⟩
theorem yk_X12_spells : yOK yX12_spells 1 := ⟨by decide +kernel, by decide +kernel, by decide +kernel⟩
theorem yk_X12_stands : yOK yX12_stands 3 := ⟨by decide +kernel, by decide +kernel, by decide +kernel⟩
theorem yk_X12_stores : yOK yX12_stores 0 := ⟨by decide +kernel, by decide +kernel, by decide +kernel⟩
theorem yk_X12_strangers : yOK yX12_strangers 1 := ⟨by decide +kernel, by decide +kernel, by decide +kernel⟩
theorem yk_X12_strikes : yOK yX12_strikes 1 := ⟨by decide +kernel, by decide +kernel, by decide +kernel⟩
theorem yk_X12_taken : yOK yX12_taken 1 := ⟨by decide +kernel, by decide +kernel, by decide +kernel⟩
theorem yk_X12_takes : yOK yX12_takes 2 := ⟨by decide +kernel, by decide +kernel, by decide +kernel⟩
theorem yk_X12_takesName : yOK yX12_takesName 2 := ⟨by decide +kernel, by decide +kernel, by decide +kernel⟩
theorem yk_X12_takesWay : yOK yX12_takesWay 0 := ⟨by decide +kernel, by decide +kernel, by decide +kernel⟩
theorem yk_X12_throwsIf : yOK yX12_throwsIf 1 := ⟨by decide +kernel, by decide +kernel, by decide +kernel⟩
theorem yk_X12_tick : yOK yX12_tick 0 := ⟨by decide +kernel, by decide +kernel, by decide +kernel⟩
theorem yk_X12_tries : yOK yX12_tries 0 := ⟨by decide +kernel, by decide +kernel, by decide +kernel⟩
theorem yk_X12_walks : yOK yX12_walks 1 := ⟨by decide +kernel, by decide +kernel, by decide +kernel⟩
theorem yk_X12_wayWord : yOK yX12_wayWord 0 := ⟨by decide +kernel, by decide +kernel, by decide +kernel⟩
theorem yk_X12_whyCall : yOK yX12_whyCall 2 := ⟨by decide +kernel, by decide +kernel, by decide +kernel⟩
theorem yk_X12_whyGo : yOK yX12_whyGo 2 := ⟨by decide +kernel, by decide +kernel, by decide +kernel⟩
theorem yk_X12_whyKnock : yOK yX12_whyKnock 2 := ⟨by decide +kernel, by decide +kernel, by decide +kernel⟩
theorem yk_J6_bitCount_0f7a4 : yOK yJ6_bitCount_0f7a4 1 := ⟨by decide +kernel, by decide +kernel, by decide +kernel⟩
theorem wAC_in : ∀ w ∈ wAC, w ∈ Tg := List.forall_mem_cons.mpr ⟨tg 830 (by decide +kernel) (by decide +kernel), List.forall_mem_cons.mpr ⟨tg 829 (by decide +kernel) (by decide +kernel), List.forall_mem_cons.mpr ⟨tg 134 (by decide +kernel) (by decide +kernel), fun _ h => absurd h List.not_mem_nil⟩⟩⟩
