set_option maxRecDepth 20000
theorem wi_X11_init : wI yX11_init cX11_init 1 := ⟨tg 144 (by decide +kernel) (by decide +kernel), tg 117 (by decide +kernel) (by decide +kernel), tg 145 rfl rfl, rfl⟩
theorem yi_X11_init : yOK yX11_init 0 := ⟨by decide +kernel, by decide +kernel, by decide +kernel⟩
theorem om_X11_1 : Cond.methodLink RX11 1 Lib.objectInit ∈ Tg := tg 146 (by decide +kernel) (by decide +kernel)
theorem kl_X11_7 : Cond.classLink RX11 7 RX10 ∈ Tg := tg 149 (by decide +kernel) (by decide +kernel)
theorem il_X11_9 : Cond.methodLinkNest RX11 9 yX10_init "KnockLane" ∈ Tn := tn 151 (by decide +kernel)
theorem cfl_X11_10 : Cond.fieldLink RX11 10 (TX11 0).1 (TX11 0).2.1 (TX11 0).2.2.1 ∈ Tg := tg 564 (by decide +kernel) (by decide +kernel)
theorem kl_X11_16 : Cond.classLink RX11 16 RX9 ∈ Tg := tg 258 (by decide +kernel) (by decide +kernel)
theorem il_X11_18 : Cond.methodLinkNest RX11 18 yX9_init "KnockLane" ∈ Tn := tn 260 (by decide +kernel)
theorem cfl_X11_19 : Cond.fieldLink RX11 19 (TX11 1).1 (TX11 1).2.1 (TX11 1).2.2.1 ∈ Tg := tg 565 (by decide +kernel) (by decide +kernel)
theorem cfl_X11_23 : Cond.fieldLink RX11 23 (TX11 2).1 (TX11 2).2.1 (TX11 2).2.2.1 ∈ Tg := tg 566 (by decide +kernel) (by decide +kernel)
theorem cfl_X11_26 : Cond.fieldLink RX11 26 (TX11 3).1 (TX11 3).2.1 (TX11 3).2.2.1 ∈ Tg := tg 567 (by decide +kernel) (by decide +kernel)
theorem cfl_X11_29 : Cond.fieldLink RX11 29 (TX11 4).1 (TX11 4).2.1 (TX11 4).2.2.1 ∈ Tg := tg 568 (by decide +kernel) (by decide +kernel)
theorem kl_X11_32 : Cond.classLink RX11 32 RX4 ∈ Tg := tg 429 (by decide +kernel) (by decide +kernel)
theorem cfl_X11_34 : Cond.fieldLink RX11 34 (TX9 0).1 (TX9 0).2.1 (TX9 0).2.2.1 ∈ Tg := tg 413 (by decide +kernel) (by decide +kernel)
theorem il_X11_38 : Cond.methodLink RX11 38 yX4_init ∈ Tg := tg 431 (by decide +kernel) (by decide +kernel)
theorem cfl_X11_41 : Cond.fieldLink RX11 41 (TX11 5).1 (TX11 5).2.1 (TX11 5).2.2.1 ∈ Tg := tg 569 (by decide +kernel) (by decide +kernel)
theorem kl_X11_45 : Cond.classLink RX11 45 RX8 ∈ Tg := tg 448 (by decide +kernel) (by decide +kernel)
theorem il_X11_47 : Cond.methodLink RX11 47 yX8_init ∈ Tg := tg 449 (by decide +kernel) (by decide +kernel)
theorem cfl_X11_48 : Cond.fieldLink RX11 48 (TX11 6).1 (TX11 6).2.1 (TX11 6).2.2.1 ∈ Tg := tg 570 (by decide +kernel) (by decide +kernel)
theorem kl_X11_52 : Cond.classLink RX11 52 RX6 ∈ Tg := tg 450 (by decide +kernel) (by decide +kernel)
theorem il_X11_54 : Cond.methodLink RX11 54 yX6_init ∈ Tg := tg 452 (by decide +kernel) (by decide +kernel)
theorem cfl_X11_57 : Cond.fieldLink RX11 57 (TX11 7).1 (TX11 7).2.1 (TX11 7).2.2.1 ∈ Tg := tg 571 (by decide +kernel) (by decide +kernel)
theorem kl_X11_61 : Cond.classLink RX11 61 RX0 ∈ Tg := tg 475 (by decide +kernel) (by decide +kernel)
theorem il_X11_63 : Cond.methodLink RX11 63 yX0_init ∈ Tg := tg 477 (by decide +kernel) (by decide +kernel)
theorem cfl_X11_66 : Cond.fieldLink RX11 66 (TX11 8).1 (TX11 8).2.1 (TX11 8).2.2.1 ∈ Tg := tg 572 (by decide +kernel) (by decide +kernel)
theorem kl_X11_70 : Cond.classLink RX11 70 RX3 ∈ Tg := tg 517 (by decide +kernel) (by decide +kernel)
theorem il_X11_72 : Cond.methodLinkNest RX11 72 yX3_init "KnockLane" ∈ Tn := tn 519 (by decide +kernel)
theorem cfl_X11_73 : Cond.fieldLink RX11 73 (TX11 9).1 (TX11 9).2.1 (TX11 9).2.2.1 ∈ Tg := tg 573 (by decide +kernel) (by decide +kernel)
theorem kl_X11_77 : Cond.classLink RX11 77 RX1 ∈ Tg := tg 531 (by decide +kernel) (by decide +kernel)
theorem il_X11_79 : Cond.methodLinkNest RX11 79 yX1_init "KnockLane" ∈ Tn := tn 533 (by decide +kernel)
theorem cfl_X11_80 : Cond.fieldLink RX11 80 (TX11 10).1 (TX11 10).2.1 (TX11 10).2.2.1 ∈ Tg := tg 574 (by decide +kernel) (by decide +kernel)
theorem kl_X11_84 : Cond.classLink RX11 84 RX2 ∈ Tg := tg 547 (by decide +kernel) (by decide +kernel)
theorem cfl_X11_86 : Cond.fieldLink RX11 86 (TX10 0).1 (TX10 0).2.1 (TX10 0).2.2.1 ∈ Tg := tg 213 (by decide +kernel) (by decide +kernel)
theorem il_X11_90 : Cond.methodLink RX11 90 yX2_init ∈ Tg := tg 549 (by decide +kernel) (by decide +kernel)
theorem cfl_X11_93 : Cond.fieldLink RX11 93 (TX11 11).1 (TX11 11).2.1 (TX11 11).2.2.1 ∈ Tg := tg 575 (by decide +kernel) (by decide +kernel)
theorem cfl_X11_97 : Cond.fieldLink RX11 97 (TX11 13).1 (TX11 13).2.1 (TX11 13).2.2.1 ∈ Tg := tg 577 (by decide +kernel) (by decide +kernel)
theorem cfl_X11_101 : Cond.fieldLink RX11 101 (TX11 14).1 (TX11 14).2.1 (TX11 14).2.2.1 ∈ Tg := tg 578 (by decide +kernel) (by decide +kernel)
def kl1 (b : Nat) (G : Gx) (cf : Nat → va_E) : Nat → va_E := va_up (ctX10 b G 1 2 (va_up (cf) 1 (.inr (10, [.null, .int 0, .int 0, .int 0, .int 0, .int 0, .long 0, .null, .int 0, .int 0, .int 0])))) 0 (.inr (11, [.ref (b + 1), .null, .null, .null, .null, .null, .null, .null, .null, .null, .null, .null, .int 0, .int 0, .int 0]))
def kl2 (b : Nat) (G : Gx) (cf : Nat → va_E) : Nat → va_E := va_up (ctX9 b G 4 5 (va_up (kl1 b G cf) 4 (.inr (9, [.null, .null, .null, .int 0])))) 0 (.inr (11, [.ref (b + 1), .ref (b + 4), .null, .null, .null, .null, .null, .null, .null, .null, .null, .null, .int 0, .int 0, .int 0]))
def kl3 (b : Nat) (G : Gx) (cf : Nat → va_E) : Nat → va_E := va_up (ctX9 b G 28 29 (va_up (kl2 b G cf) 28 (.inr (9, [.null, .null, .null, .int 0])))) 0 (.inr (11, [.ref (b + 1), .ref (b + 4), .ref (b + 28), .null, .null, .null, .null, .null, .null, .null, .null, .null, .int 0, .int 0, .int 0]))
def kl4 (b : Nat) (G : Gx) (cf : Nat → va_E) : Nat → va_E := va_up (ctX9 b G 52 53 (va_up (kl3 b G cf) 52 (.inr (9, [.null, .null, .null, .int 0])))) 0 (.inr (11, [.ref (b + 1), .ref (b + 4), .ref (b + 28), .ref (b + 52), .null, .null, .null, .null, .null, .null, .null, .null, .int 0, .int 0, .int 0]))
def kl5 (b : Nat) (G : Gx) (cf : Nat → va_E) : Nat → va_E := va_up (ctX9 b G 76 77 (va_up (kl4 b G cf) 76 (.inr (9, [.null, .null, .null, .int 0])))) 0 (.inr (11, [.ref (b + 1), .ref (b + 4), .ref (b + 28), .ref (b + 52), .ref (b + 76), .null, .null, .null, .null, .null, .null, .null, .int 0, .int 0, .int 0]))
def kl6 (b : Nat) (G : Gx) (cf : Nat → va_E) : Nat → va_E := va_up (ctX4 b G 100 101 (b + 5) (va_up (kl5 b G cf) 100 (.inr (4, [.null, .int 0, .int 0])))) 0 (.inr (11, [.ref (b + 1), .ref (b + 4), .ref (b + 28), .ref (b + 52), .ref (b + 76), .ref (b + 100), .null, .null, .null, .null, .null, .null, .int 0, .int 0, .int 0]))
def kl7 (b : Nat) (G : Gx) (cf : Nat → va_E) : Nat → va_E := va_up (ctX8 b G 201 202 (b + 5) (va_up (kl6 b G cf) 201 (.inr (8, [.null, .int 0, .int 0, .int 0, .null, .null, .null, .null, .null, .null, .null, .null, .null, .null, .int 0])))) 0 (.inr (11, [.ref (b + 1), .ref (b + 4), .ref (b + 28), .ref (b + 52), .ref (b + 76), .ref (b + 100), .ref (b + 201), .null, .null, .null, .null, .null, .int 0, .int 0, .int 0]))
def kl8 (b : Nat) (G : Gx) (cf : Nat → va_E) : Nat → va_E := va_up (ctX6 212 (b + 1) (b + 29) (b + 36) (va_up (kl7 b G cf) 212 (.inr (6, [.null, .null, .null, .int 0, .int 0, .int 0])))) 0 (.inr (11, [.ref (b + 1), .ref (b + 4), .ref (b + 28), .ref (b + 52), .ref (b + 76), .ref (b + 100), .ref (b + 201), .ref (b + 212), .null, .null, .null, .null, .int 0, .int 0, .int 0]))
def kl9 (b : Nat) (G : Gx) (cf : Nat → va_E) : Nat → va_E := va_up (ctX0 b G 213 214 (b + 1) (b + 5) (va_up (kl8 b G cf) 213 (.inr (0, [.int 0, .int 0, .null, .null, .null, .null, .null, .int 0, .int 0, .int 0, .int 0])))) 0 (.inr (11, [.ref (b + 1), .ref (b + 4), .ref (b + 28), .ref (b + 52), .ref (b + 76), .ref (b + 100), .ref (b + 201), .ref (b + 212), .ref (b + 213), .null, .null, .null, .int 0, .int 0, .int 0]))
def kl10 (b : Nat) (G : Gx) (cf : Nat → va_E) : Nat → va_E := va_up (ctX3 b G 217 218 (va_up (kl9 b G cf) 217 (.inr (3, [.null, .null])))) 0 (.inr (11, [.ref (b + 1), .ref (b + 4), .ref (b + 28), .ref (b + 52), .ref (b + 76), .ref (b + 100), .ref (b + 201), .ref (b + 212), .ref (b + 213), .ref (b + 217), .null, .null, .int 0, .int 0, .int 0]))
def kl11 (b : Nat) (G : Gx) (cf : Nat → va_E) : Nat → va_E := va_up (ctX1 b G 220 221 (va_up (kl10 b G cf) 220 (.inr (1, [.null, .null, .int 0])))) 0 (.inr (11, [.ref (b + 1), .ref (b + 4), .ref (b + 28), .ref (b + 52), .ref (b + 76), .ref (b + 100), .ref (b + 201), .ref (b + 212), .ref (b + 213), .ref (b + 217), .ref (b + 220), .null, .int 0, .int 0, .int 0]))
def kl12 (b : Nat) (G : Gx) (cf : Nat → va_E) : Nat → va_E := va_up (ctX2 b G 223 224 (b + 2) (va_up (kl11 b G cf) 223 (.inr (2, [.int 0, .null, .null])))) 0 (.inr (11, [.ref (b + 1), .ref (b + 4), .ref (b + 28), .ref (b + 52), .ref (b + 76), .ref (b + 100), .ref (b + 201), .ref (b + 212), .ref (b + 213), .ref (b + 217), .ref (b + 220), .ref (b + 223), .int 0, .int 0, .int 0]))
def kl13 (b : Nat) (G : Gx) (cf : Nat → va_E) : Nat → va_E := va_up (kl12 b G cf) 0 (.inr (11, [.ref (b + 1), .ref (b + 4), .ref (b + 28), .ref (b + 52), .ref (b + 76), .ref (b + 100), .ref (b + 201), .ref (b + 212), .ref (b + 213), .ref (b + 217), .ref (b + 220), .ref (b + 223), .int 0, .int (-1), .int 0]))
def kl14 (b : Nat) (G : Gx) (cf : Nat → va_E) : Nat → va_E := va_up (kl13 b G cf) 0 (.inr (11, [.ref (b + 1), .ref (b + 4), .ref (b + 28), .ref (b + 52), .ref (b + 76), .ref (b + 100), .ref (b + 201), .ref (b + 212), .ref (b + 213), .ref (b + 217), .ref (b + 220), .ref (b + 223), .int 0, .int (-1), .int (-1)]))
theorem kX11 {l : Launch} {G : Gx} {b d : Nat} {cf : Nat → va_E} (he : cf 0 = .inr (11, [.null, .null, .null, .null, .null, .null, .null, .null, .null, .null, .null, .null, .int 0, .int 0, .int 0])) : MetP l G b yX11_init cX11_init 1 none (d + 8) 224 3787 [.ref (b + 0)] (WS G b 1 cf) (pV b (WS G b 225 (kl14 b G cf))) := by
  refine metP_start [some (.ref (b + 0))] (by decide +kernel) (Nat.le_of_ble_eq_true rfl) rfl ?_
  intro X hX ok h0 hnm
  have hz : Sz X b 0 1 := h0.sz
  refine g_wk ?_
  refine g_aload_n (pc := 0) ok dX11_init_0 rfl ?_
  refine g_oinit (pc := 1) ok om_X11_1 oi_i oi_c (show 1 ≤ d + 8 by omega) (Nat.le_trans (Nat.le_of_ble_eq_true rfl : _ ≤ 60) (show 60 ≤ 60 * (d + 8) by omega)) dX11_init_1 ?_
  refine g_aload_n (pc := 4) ok dX11_init_4 rfl ?_
  refine g_new (pc := 5) ok cls10 kl_X11_7 in_X10 ii_X10 (hz.up 0) df_X10 (Nat.le_of_ble_eq_true rfl) (Nat.le_of_ble_eq_true rfl) dX11_init_5 ?_
  refine g_dup (pc := 8) ok dX11_init_8 rfl ?_
  refine g_ws (hz.up 1) ?_
  refine g_kV (pc := 9) (g_cIN (dy := d + 0 + 7) (mc := 2) (ms := 969) (a := b + 1) (As := []) ok il_X11_9 wi_X10_init yi_X10_init rfl (show d + 0 + 7 + 1 ≤ d + 8 by omega) (show 8 + (1 + 11) + 60 * (d + 0 + 7) ≤ 60 * (d + 8) by omega) (Nat.le_of_ble_eq_true rfl) (Nat.le_of_ble_eq_true rfl) (kX10 (d := d + 0) (K := 2) (a := 1) (show 1 < 2 by omega) va_upS) rfl (Nat.le_of_ble_eq_true rfl) dX11_init_9) ?_
  refine g_wk ?_
  refine g_putF (pc := 12) ok hnm (a := 0) (k := 0) cls11 (show 0 < 4 by omega) ((ctX10_ne (show 0 < 2 by omega) (show 0 ≠ 1 by omega)).trans (va_upN (show 0 ≠ 1 by omega) he)) (Nat.le_of_ble_eq_true rfl) cfl_X11_10 rfl rfl rfl rfl (Nat.le_of_ble_eq_true rfl) dX11_init_12 ?_
  refine g_to (show _ = kl1 b G cf from rfl) ?_
  have hf1_0 : kl1 b G cf 0 = .inr (11, [.ref (b + 1), .null, .null, .null, .null, .null, .null, .null, .null, .null, .null, .null, .int 0, .int 0, .int 0]) := va_upS
  have hf1_1 : kl1 b G cf 1 = .inr (10, [.ref (b + 2), .int 0, .int 0, .int 0, .int 0, .int 0, .long 0, .ref (b + 3), .int 0, .int 0, .int 0]) := (va_upN (show 1 ≠ 0 by omega) ctX10_a)
  refine g_aload_n (pc := 15) ok dX11_init_15 rfl ?_
  refine g_new (pc := 16) ok cls9 kl_X11_16 in_X9 ii_X9 (hz.up 3) df_X9 (Nat.le_of_ble_eq_true rfl) (Nat.le_of_ble_eq_true rfl) dX11_init_16 ?_
  refine g_dup (pc := 19) ok dX11_init_19 rfl ?_
  refine g_ws (hz.up 4) ?_
  refine g_kV (pc := 20) (g_cIN (dy := d + 5 + 2) (mc := 23) (ms := 323) (a := b + 4) (As := []) ok il_X11_18 wi_X9_init yi_X9_init rfl (show d + 5 + 2 + 1 ≤ d + 8 by omega) (show 8 + (1 + 11) + 60 * (d + 5 + 2) ≤ 60 * (d + 8) by omega) (Nat.le_of_ble_eq_true rfl) (Nat.le_of_ble_eq_true rfl) (kX9 (d := d + 5) (K := 5) (a := 4) (show 4 < 5 by omega) va_upS) rfl (Nat.le_of_ble_eq_true rfl) dX11_init_20) ?_
  refine g_wk ?_
  refine g_putF (pc := 23) ok hnm (a := 0) (k := 1) cls11 (show 0 < 28 by omega) ((ctX9_ne (show 0 < 5 by omega) (show 0 ≠ 4 by omega)).trans (va_upN (show 0 ≠ 4 by omega) hf1_0)) (Nat.le_of_ble_eq_true rfl) cfl_X11_19 rfl rfl rfl rfl (Nat.le_of_ble_eq_true rfl) dX11_init_23 ?_
  refine g_to (show _ = kl2 b G cf from rfl) ?_
  have hf2_0 : kl2 b G cf 0 = .inr (11, [.ref (b + 1), .ref (b + 4), .null, .null, .null, .null, .null, .null, .null, .null, .null, .null, .int 0, .int 0, .int 0]) := va_upS
  have hf2_1 : kl2 b G cf 1 = .inr (10, [.ref (b + 2), .int 0, .int 0, .int 0, .int 0, .int 0, .long 0, .ref (b + 3), .int 0, .int 0, .int 0]) := (va_upN (show 1 ≠ 0 by omega) ((ctX9_ne (show 1 < 5 by omega) (show 1 ≠ 4 by omega)).trans (va_upN (show 1 ≠ 4 by omega) hf1_1)))
  have hf2_4 : kl2 b G cf 4 = .inr (9, [.ref (b + 5), .ref (b + 12), .ref (b + 23), .int 0]) := (va_upN (show 4 ≠ 0 by omega) ctX9_a)
  refine g_aload_n (pc := 26) ok dX11_init_26 rfl ?_
  refine g_new (pc := 27) ok cls9 kl_X11_16 in_X9 ii_X9 (hz.up 27) df_X9 (Nat.le_of_ble_eq_true rfl) (Nat.le_of_ble_eq_true rfl) dX11_init_27 ?_
  refine g_dup (pc := 30) ok dX11_init_30 rfl ?_
  refine g_ws (hz.up 28) ?_
  refine g_kV (pc := 31) (g_cIN (dy := d + 5 + 2) (mc := 23) (ms := 323) (a := b + 28) (As := []) ok il_X11_18 wi_X9_init yi_X9_init rfl (show d + 5 + 2 + 1 ≤ d + 8 by omega) (show 8 + (1 + 11) + 60 * (d + 5 + 2) ≤ 60 * (d + 8) by omega) (Nat.le_of_ble_eq_true rfl) (Nat.le_of_ble_eq_true rfl) (kX9 (d := d + 5) (K := 29) (a := 28) (show 28 < 29 by omega) va_upS) rfl (Nat.le_of_ble_eq_true rfl) dX11_init_31) ?_
  refine g_wk ?_
  refine g_putF (pc := 34) ok hnm (a := 0) (k := 2) cls11 (show 0 < 52 by omega) ((ctX9_ne (show 0 < 29 by omega) (show 0 ≠ 28 by omega)).trans (va_upN (show 0 ≠ 28 by omega) hf2_0)) (Nat.le_of_ble_eq_true rfl) cfl_X11_23 rfl rfl rfl rfl (Nat.le_of_ble_eq_true rfl) dX11_init_34 ?_
  refine g_to (show _ = kl3 b G cf from rfl) ?_
  have hf3_0 : kl3 b G cf 0 = .inr (11, [.ref (b + 1), .ref (b + 4), .ref (b + 28), .null, .null, .null, .null, .null, .null, .null, .null, .null, .int 0, .int 0, .int 0]) := va_upS
  have hf3_1 : kl3 b G cf 1 = .inr (10, [.ref (b + 2), .int 0, .int 0, .int 0, .int 0, .int 0, .long 0, .ref (b + 3), .int 0, .int 0, .int 0]) := (va_upN (show 1 ≠ 0 by omega) ((ctX9_ne (show 1 < 29 by omega) (show 1 ≠ 28 by omega)).trans (va_upN (show 1 ≠ 28 by omega) hf2_1)))
  have hf3_4 : kl3 b G cf 4 = .inr (9, [.ref (b + 5), .ref (b + 12), .ref (b + 23), .int 0]) := (va_upN (show 4 ≠ 0 by omega) ((ctX9_ne (show 4 < 29 by omega) (show 4 ≠ 28 by omega)).trans (va_upN (show 4 ≠ 28 by omega) hf2_4)))
  have hf3_28 : kl3 b G cf 28 = .inr (9, [.ref (b + 29), .ref (b + 36), .ref (b + 47), .int 0]) := (va_upN (show 28 ≠ 0 by omega) ctX9_a)
  refine g_aload_n (pc := 37) ok dX11_init_37 rfl ?_
  refine g_new (pc := 38) ok cls9 kl_X11_16 in_X9 ii_X9 (hz.up 51) df_X9 (Nat.le_of_ble_eq_true rfl) (Nat.le_of_ble_eq_true rfl) dX11_init_38 ?_
  refine g_dup (pc := 41) ok dX11_init_41 rfl ?_
  refine g_ws (hz.up 52) ?_
  refine g_kV (pc := 42) (g_cIN (dy := d + 5 + 2) (mc := 23) (ms := 323) (a := b + 52) (As := []) ok il_X11_18 wi_X9_init yi_X9_init rfl (show d + 5 + 2 + 1 ≤ d + 8 by omega) (show 8 + (1 + 11) + 60 * (d + 5 + 2) ≤ 60 * (d + 8) by omega) (Nat.le_of_ble_eq_true rfl) (Nat.le_of_ble_eq_true rfl) (kX9 (d := d + 5) (K := 53) (a := 52) (show 52 < 53 by omega) va_upS) rfl (Nat.le_of_ble_eq_true rfl) dX11_init_42) ?_
  refine g_wk ?_
  refine g_putF (pc := 45) ok hnm (a := 0) (k := 3) cls11 (show 0 < 76 by omega) ((ctX9_ne (show 0 < 53 by omega) (show 0 ≠ 52 by omega)).trans (va_upN (show 0 ≠ 52 by omega) hf3_0)) (Nat.le_of_ble_eq_true rfl) cfl_X11_26 rfl rfl rfl rfl (Nat.le_of_ble_eq_true rfl) dX11_init_45 ?_
  refine g_to (show _ = kl4 b G cf from rfl) ?_
  have hf4_0 : kl4 b G cf 0 = .inr (11, [.ref (b + 1), .ref (b + 4), .ref (b + 28), .ref (b + 52), .null, .null, .null, .null, .null, .null, .null, .null, .int 0, .int 0, .int 0]) := va_upS
  have hf4_1 : kl4 b G cf 1 = .inr (10, [.ref (b + 2), .int 0, .int 0, .int 0, .int 0, .int 0, .long 0, .ref (b + 3), .int 0, .int 0, .int 0]) := (va_upN (show 1 ≠ 0 by omega) ((ctX9_ne (show 1 < 53 by omega) (show 1 ≠ 52 by omega)).trans (va_upN (show 1 ≠ 52 by omega) hf3_1)))
  have hf4_4 : kl4 b G cf 4 = .inr (9, [.ref (b + 5), .ref (b + 12), .ref (b + 23), .int 0]) := (va_upN (show 4 ≠ 0 by omega) ((ctX9_ne (show 4 < 53 by omega) (show 4 ≠ 52 by omega)).trans (va_upN (show 4 ≠ 52 by omega) hf3_4)))
  have hf4_28 : kl4 b G cf 28 = .inr (9, [.ref (b + 29), .ref (b + 36), .ref (b + 47), .int 0]) := (va_upN (show 28 ≠ 0 by omega) ((ctX9_ne (show 28 < 53 by omega) (show 28 ≠ 52 by omega)).trans (va_upN (show 28 ≠ 52 by omega) hf3_28)))
  have hf4_52 : kl4 b G cf 52 = .inr (9, [.ref (b + 53), .ref (b + 60), .ref (b + 71), .int 0]) := (va_upN (show 52 ≠ 0 by omega) ctX9_a)
  refine g_aload_n (pc := 48) ok dX11_init_48 rfl ?_
  refine g_new (pc := 49) ok cls9 kl_X11_16 in_X9 ii_X9 (hz.up 75) df_X9 (Nat.le_of_ble_eq_true rfl) (Nat.le_of_ble_eq_true rfl) dX11_init_49 ?_
  refine g_dup (pc := 52) ok dX11_init_52 rfl ?_
  refine g_ws (hz.up 76) ?_
  refine g_kV (pc := 53) (g_cIN (dy := d + 5 + 2) (mc := 23) (ms := 323) (a := b + 76) (As := []) ok il_X11_18 wi_X9_init yi_X9_init rfl (show d + 5 + 2 + 1 ≤ d + 8 by omega) (show 8 + (1 + 11) + 60 * (d + 5 + 2) ≤ 60 * (d + 8) by omega) (Nat.le_of_ble_eq_true rfl) (Nat.le_of_ble_eq_true rfl) (kX9 (d := d + 5) (K := 77) (a := 76) (show 76 < 77 by omega) va_upS) rfl (Nat.le_of_ble_eq_true rfl) dX11_init_53) ?_
  refine g_wk ?_
  refine g_putF (pc := 56) ok hnm (a := 0) (k := 4) cls11 (show 0 < 100 by omega) ((ctX9_ne (show 0 < 77 by omega) (show 0 ≠ 76 by omega)).trans (va_upN (show 0 ≠ 76 by omega) hf4_0)) (Nat.le_of_ble_eq_true rfl) cfl_X11_29 rfl rfl rfl rfl (Nat.le_of_ble_eq_true rfl) dX11_init_56 ?_
  refine g_to (show _ = kl5 b G cf from rfl) ?_
  have hf5_0 : kl5 b G cf 0 = .inr (11, [.ref (b + 1), .ref (b + 4), .ref (b + 28), .ref (b + 52), .ref (b + 76), .null, .null, .null, .null, .null, .null, .null, .int 0, .int 0, .int 0]) := va_upS
  have hf5_1 : kl5 b G cf 1 = .inr (10, [.ref (b + 2), .int 0, .int 0, .int 0, .int 0, .int 0, .long 0, .ref (b + 3), .int 0, .int 0, .int 0]) := (va_upN (show 1 ≠ 0 by omega) ((ctX9_ne (show 1 < 77 by omega) (show 1 ≠ 76 by omega)).trans (va_upN (show 1 ≠ 76 by omega) hf4_1)))
  have hf5_4 : kl5 b G cf 4 = .inr (9, [.ref (b + 5), .ref (b + 12), .ref (b + 23), .int 0]) := (va_upN (show 4 ≠ 0 by omega) ((ctX9_ne (show 4 < 77 by omega) (show 4 ≠ 76 by omega)).trans (va_upN (show 4 ≠ 76 by omega) hf4_4)))
  have hf5_28 : kl5 b G cf 28 = .inr (9, [.ref (b + 29), .ref (b + 36), .ref (b + 47), .int 0]) := (va_upN (show 28 ≠ 0 by omega) ((ctX9_ne (show 28 < 77 by omega) (show 28 ≠ 76 by omega)).trans (va_upN (show 28 ≠ 76 by omega) hf4_28)))
  have hf5_52 : kl5 b G cf 52 = .inr (9, [.ref (b + 53), .ref (b + 60), .ref (b + 71), .int 0]) := (va_upN (show 52 ≠ 0 by omega) ((ctX9_ne (show 52 < 77 by omega) (show 52 ≠ 76 by omega)).trans (va_upN (show 52 ≠ 76 by omega) hf4_52)))
  have hf5_76 : kl5 b G cf 76 = .inr (9, [.ref (b + 77), .ref (b + 84), .ref (b + 95), .int 0]) := (va_upN (show 76 ≠ 0 by omega) ctX9_a)
  refine g_aload_n (pc := 59) ok dX11_init_59 rfl ?_
  refine g_new (pc := 60) ok cls4 kl_X11_32 in_X4 ii_X4 (hz.up 99) df_X4 (Nat.le_of_ble_eq_true rfl) (Nat.le_of_ble_eq_true rfl) dX11_init_60 ?_
  refine g_dup (pc := 63) ok dX11_init_63 rfl ?_
  refine g_aload_n (pc := 64) ok dX11_init_64 rfl ?_
  refine g_get (pc := 65) (a := 0) (k := 1) ok cls11 (show 0 < 101 by omega) (va_upN (show 0 ≠ 100 by omega) hf5_0) (Nat.le_of_ble_eq_true rfl) cfl_X11_19 rfl dX11_init_65 ?_
  refine g_get (pc := 68) (a := 4) (k := 0) ok cls9 (show 4 < 101 by omega) (va_upN (show 4 ≠ 100 by omega) hf5_4) (Nat.le_of_ble_eq_true rfl) cfl_X11_34 rfl dX11_init_68 ?_
  refine g_ws (hz.up 100) ?_
  refine g_kV (pc := 71) (g_cI (dy := d + 5 + 2) (mc := 100) (ms := 936) (a := b + 100) (As := [.ref (b + 5)]) ok il_X11_38 wi_X4_init yi_X4_init rfl (show d + 5 + 2 + 1 ≤ d + 8 by omega) (show 8 + (3 + 11) + 60 * (d + 5 + 2) ≤ 60 * (d + 8) by omega) (Nat.le_of_ble_eq_true rfl) (Nat.le_of_ble_eq_true rfl) (kX4 (d := d + 5) (K := 101) (a := 100) (show 100 < 101 by omega) va_upS) rfl (Nat.le_of_ble_eq_true rfl) dX11_init_71) ?_
  refine g_wk ?_
  refine g_putF (pc := 74) ok hnm (a := 0) (k := 5) cls11 (show 0 < 201 by omega) ((ctX4_ne (show 0 < 101 by omega) (show 0 ≠ 100 by omega)).trans (va_upN (show 0 ≠ 100 by omega) hf5_0)) (Nat.le_of_ble_eq_true rfl) cfl_X11_41 rfl rfl rfl rfl (Nat.le_of_ble_eq_true rfl) dX11_init_74 ?_
  refine g_to (show _ = kl6 b G cf from rfl) ?_
  have hf6_0 : kl6 b G cf 0 = .inr (11, [.ref (b + 1), .ref (b + 4), .ref (b + 28), .ref (b + 52), .ref (b + 76), .ref (b + 100), .null, .null, .null, .null, .null, .null, .int 0, .int 0, .int 0]) := va_upS
  have hf6_1 : kl6 b G cf 1 = .inr (10, [.ref (b + 2), .int 0, .int 0, .int 0, .int 0, .int 0, .long 0, .ref (b + 3), .int 0, .int 0, .int 0]) := (va_upN (show 1 ≠ 0 by omega) ((ctX4_ne (show 1 < 101 by omega) (show 1 ≠ 100 by omega)).trans (va_upN (show 1 ≠ 100 by omega) hf5_1)))
  have hf6_4 : kl6 b G cf 4 = .inr (9, [.ref (b + 5), .ref (b + 12), .ref (b + 23), .int 0]) := (va_upN (show 4 ≠ 0 by omega) ((ctX4_ne (show 4 < 101 by omega) (show 4 ≠ 100 by omega)).trans (va_upN (show 4 ≠ 100 by omega) hf5_4)))
  have hf6_28 : kl6 b G cf 28 = .inr (9, [.ref (b + 29), .ref (b + 36), .ref (b + 47), .int 0]) := (va_upN (show 28 ≠ 0 by omega) ((ctX4_ne (show 28 < 101 by omega) (show 28 ≠ 100 by omega)).trans (va_upN (show 28 ≠ 100 by omega) hf5_28)))
  have hf6_52 : kl6 b G cf 52 = .inr (9, [.ref (b + 53), .ref (b + 60), .ref (b + 71), .int 0]) := (va_upN (show 52 ≠ 0 by omega) ((ctX4_ne (show 52 < 101 by omega) (show 52 ≠ 100 by omega)).trans (va_upN (show 52 ≠ 100 by omega) hf5_52)))
  have hf6_76 : kl6 b G cf 76 = .inr (9, [.ref (b + 77), .ref (b + 84), .ref (b + 95), .int 0]) := (va_upN (show 76 ≠ 0 by omega) ((ctX4_ne (show 76 < 101 by omega) (show 76 ≠ 100 by omega)).trans (va_upN (show 76 ≠ 100 by omega) hf5_76)))
  refine g_aload_n (pc := 77) ok dX11_init_77 rfl ?_
  refine g_new (pc := 78) ok cls8 kl_X11_45 in_X8 ii_X8 (hz.up 200) df_X8 (Nat.le_of_ble_eq_true rfl) (Nat.le_of_ble_eq_true rfl) dX11_init_78 ?_
  refine g_dup (pc := 81) ok dX11_init_81 rfl ?_
  refine g_aload_n (pc := 82) ok dX11_init_82 rfl ?_
  refine g_get (pc := 83) (a := 0) (k := 1) ok cls11 (show 0 < 202 by omega) (va_upN (show 0 ≠ 201 by omega) hf6_0) (Nat.le_of_ble_eq_true rfl) cfl_X11_19 rfl dX11_init_83 ?_
  refine g_get (pc := 86) (a := 4) (k := 0) ok cls9 (show 4 < 202 by omega) (va_upN (show 4 ≠ 201 by omega) hf6_4) (Nat.le_of_ble_eq_true rfl) cfl_X11_34 rfl dX11_init_86 ?_
  refine g_ws (hz.up 201) ?_
  refine g_kV (pc := 89) (g_cI (dy := d + 6 + 1) (mc := 10) (ms := 88) (a := b + 201) (As := [.ref (b + 5)]) ok il_X11_47 wi_X8_init yi_X8_init rfl (show d + 6 + 1 + 1 ≤ d + 8 by omega) (show 8 + (2 + 11) + 60 * (d + 6 + 1) ≤ 60 * (d + 8) by omega) (Nat.le_of_ble_eq_true rfl) (Nat.le_of_ble_eq_true rfl) (kX8 (d := d + 6) (K := 202) (a := 201) (show 201 < 202 by omega) va_upS) rfl (Nat.le_of_ble_eq_true rfl) dX11_init_89) ?_
  refine g_wk ?_
  refine g_putF (pc := 92) ok hnm (a := 0) (k := 6) cls11 (show 0 < 212 by omega) ((ctX8_ne (show 0 < 202 by omega) (show 0 ≠ 201 by omega)).trans (va_upN (show 0 ≠ 201 by omega) hf6_0)) (Nat.le_of_ble_eq_true rfl) cfl_X11_48 rfl rfl rfl rfl (Nat.le_of_ble_eq_true rfl) dX11_init_92 ?_
  refine g_to (show _ = kl7 b G cf from rfl) ?_
  have hf7_0 : kl7 b G cf 0 = .inr (11, [.ref (b + 1), .ref (b + 4), .ref (b + 28), .ref (b + 52), .ref (b + 76), .ref (b + 100), .ref (b + 201), .null, .null, .null, .null, .null, .int 0, .int 0, .int 0]) := va_upS
  have hf7_1 : kl7 b G cf 1 = .inr (10, [.ref (b + 2), .int 0, .int 0, .int 0, .int 0, .int 0, .long 0, .ref (b + 3), .int 0, .int 0, .int 0]) := (va_upN (show 1 ≠ 0 by omega) ((ctX8_ne (show 1 < 202 by omega) (show 1 ≠ 201 by omega)).trans (va_upN (show 1 ≠ 201 by omega) hf6_1)))
  have hf7_4 : kl7 b G cf 4 = .inr (9, [.ref (b + 5), .ref (b + 12), .ref (b + 23), .int 0]) := (va_upN (show 4 ≠ 0 by omega) ((ctX8_ne (show 4 < 202 by omega) (show 4 ≠ 201 by omega)).trans (va_upN (show 4 ≠ 201 by omega) hf6_4)))
  have hf7_28 : kl7 b G cf 28 = .inr (9, [.ref (b + 29), .ref (b + 36), .ref (b + 47), .int 0]) := (va_upN (show 28 ≠ 0 by omega) ((ctX8_ne (show 28 < 202 by omega) (show 28 ≠ 201 by omega)).trans (va_upN (show 28 ≠ 201 by omega) hf6_28)))
  have hf7_52 : kl7 b G cf 52 = .inr (9, [.ref (b + 53), .ref (b + 60), .ref (b + 71), .int 0]) := (va_upN (show 52 ≠ 0 by omega) ((ctX8_ne (show 52 < 202 by omega) (show 52 ≠ 201 by omega)).trans (va_upN (show 52 ≠ 201 by omega) hf6_52)))
  have hf7_76 : kl7 b G cf 76 = .inr (9, [.ref (b + 77), .ref (b + 84), .ref (b + 95), .int 0]) := (va_upN (show 76 ≠ 0 by omega) ((ctX8_ne (show 76 < 202 by omega) (show 76 ≠ 201 by omega)).trans (va_upN (show 76 ≠ 201 by omega) hf6_76)))
  refine g_aload_n (pc := 95) ok dX11_init_95 rfl ?_
  refine g_new (pc := 96) ok cls6 kl_X11_52 in_X6 ii_X6 (hz.up 211) df_X6 (Nat.le_of_ble_eq_true rfl) (Nat.le_of_ble_eq_true rfl) dX11_init_96 ?_
  refine g_dup (pc := 99) ok dX11_init_99 rfl ?_
  refine g_aload_n (pc := 100) ok dX11_init_100 rfl ?_
  refine g_get (pc := 101) (a := 0) (k := 0) ok cls11 (show 0 < 213 by omega) (va_upN (show 0 ≠ 212 by omega) hf7_0) (Nat.le_of_ble_eq_true rfl) cfl_X11_10 rfl dX11_init_101 ?_
  refine g_aload_n (pc := 104) ok dX11_init_104 rfl ?_
  refine g_get (pc := 105) (a := 0) (k := 2) ok cls11 (show 0 < 213 by omega) (va_upN (show 0 ≠ 212 by omega) hf7_0) (Nat.le_of_ble_eq_true rfl) cfl_X11_23 rfl dX11_init_105 ?_
  refine g_ws (hz.up 212) ?_
  refine g_kV (pc := 108) (g_cI (dy := d + 6 + 1) (mc := 0) (ms := 0) (a := b + 212) (As := [.ref (b + 1), .ref (b + 28)]) ok il_X11_54 wi_X6_init yi_X6_init rfl (show d + 6 + 1 + 1 ≤ d + 8 by omega) (show 8 + (3 + 11) + 60 * (d + 6 + 1) ≤ 60 * (d + 8) by omega) (Nat.le_of_ble_eq_true rfl) (Nat.le_of_ble_eq_true rfl) (kX6 (d := d + 6) (K := 213) (a := 212) (s := 28) (v1 := b + 1) (show 212 < 213 by omega) va_upS (show 28 < 213 by omega) (show 28 ≠ 212 by omega) (va_upN (show 28 ≠ 212 by omega) hf7_28)) rfl (Nat.le_of_ble_eq_true rfl) dX11_init_108) ?_
  refine g_wk ?_
  refine g_putF (pc := 111) ok hnm (a := 0) (k := 7) cls11 (show 0 < 213 by omega) ((ctX6_ne (show 0 ≠ 212 by omega)).trans (va_upN (show 0 ≠ 212 by omega) hf7_0)) (Nat.le_of_ble_eq_true rfl) cfl_X11_57 rfl rfl rfl rfl (Nat.le_of_ble_eq_true rfl) dX11_init_111 ?_
  refine g_to (show _ = kl8 b G cf from rfl) ?_
  have hf8_0 : kl8 b G cf 0 = .inr (11, [.ref (b + 1), .ref (b + 4), .ref (b + 28), .ref (b + 52), .ref (b + 76), .ref (b + 100), .ref (b + 201), .ref (b + 212), .null, .null, .null, .null, .int 0, .int 0, .int 0]) := va_upS
  have hf8_1 : kl8 b G cf 1 = .inr (10, [.ref (b + 2), .int 0, .int 0, .int 0, .int 0, .int 0, .long 0, .ref (b + 3), .int 0, .int 0, .int 0]) := (va_upN (show 1 ≠ 0 by omega) ((ctX6_ne (show 1 ≠ 212 by omega)).trans (va_upN (show 1 ≠ 212 by omega) hf7_1)))
  have hf8_4 : kl8 b G cf 4 = .inr (9, [.ref (b + 5), .ref (b + 12), .ref (b + 23), .int 0]) := (va_upN (show 4 ≠ 0 by omega) ((ctX6_ne (show 4 ≠ 212 by omega)).trans (va_upN (show 4 ≠ 212 by omega) hf7_4)))
  have hf8_28 : kl8 b G cf 28 = .inr (9, [.ref (b + 29), .ref (b + 36), .ref (b + 47), .int 0]) := (va_upN (show 28 ≠ 0 by omega) ((ctX6_ne (show 28 ≠ 212 by omega)).trans (va_upN (show 28 ≠ 212 by omega) hf7_28)))
  have hf8_52 : kl8 b G cf 52 = .inr (9, [.ref (b + 53), .ref (b + 60), .ref (b + 71), .int 0]) := (va_upN (show 52 ≠ 0 by omega) ((ctX6_ne (show 52 ≠ 212 by omega)).trans (va_upN (show 52 ≠ 212 by omega) hf7_52)))
  have hf8_76 : kl8 b G cf 76 = .inr (9, [.ref (b + 77), .ref (b + 84), .ref (b + 95), .int 0]) := (va_upN (show 76 ≠ 0 by omega) ((ctX6_ne (show 76 ≠ 212 by omega)).trans (va_upN (show 76 ≠ 212 by omega) hf7_76)))
  refine g_aload_n (pc := 114) ok dX11_init_114 rfl ?_
  refine g_new (pc := 115) ok cls0 kl_X11_61 in_X0 ii_X0 (hz.up 212) df_X0 (Nat.le_of_ble_eq_true rfl) (Nat.le_of_ble_eq_true rfl) dX11_init_115 ?_
  refine g_dup (pc := 118) ok dX11_init_118 rfl ?_
  refine g_aload_n (pc := 119) ok dX11_init_119 rfl ?_
  refine g_get (pc := 120) (a := 0) (k := 0) ok cls11 (show 0 < 214 by omega) (va_upN (show 0 ≠ 213 by omega) hf8_0) (Nat.le_of_ble_eq_true rfl) cfl_X11_10 rfl dX11_init_120 ?_
  refine g_aload_n (pc := 123) ok dX11_init_123 rfl ?_
  refine g_get (pc := 124) (a := 0) (k := 1) ok cls11 (show 0 < 214 by omega) (va_upN (show 0 ≠ 213 by omega) hf8_0) (Nat.le_of_ble_eq_true rfl) cfl_X11_19 rfl dX11_init_124 ?_
  refine g_get (pc := 127) (a := 4) (k := 0) ok cls9 (show 4 < 214 by omega) (va_upN (show 4 ≠ 213 by omega) hf8_4) (Nat.le_of_ble_eq_true rfl) cfl_X11_34 rfl dX11_init_127 ?_
  refine g_ws (hz.up 213) ?_
  refine g_kV (pc := 130) (g_cI (dy := d + 6 + 1) (mc := 3) (ms := 120) (a := b + 213) (As := [.ref (b + 1), .ref (b + 5)]) ok il_X11_63 wi_X0_init yi_X0_init rfl (show d + 6 + 1 + 1 ≤ d + 8 by omega) (show 8 + (3 + 11) + 60 * (d + 6 + 1) ≤ 60 * (d + 8) by omega) (Nat.le_of_ble_eq_true rfl) (Nat.le_of_ble_eq_true rfl) (kX0 (d := d + 6) (K := 214) (a := 213) (show 213 < 214 by omega) va_upS) rfl (Nat.le_of_ble_eq_true rfl) dX11_init_130) ?_
  refine g_wk ?_
  refine g_putF (pc := 133) ok hnm (a := 0) (k := 8) cls11 (show 0 < 217 by omega) ((ctX0_ne (show 0 < 214 by omega) (show 0 ≠ 213 by omega)).trans (va_upN (show 0 ≠ 213 by omega) hf8_0)) (Nat.le_of_ble_eq_true rfl) cfl_X11_66 rfl rfl rfl rfl (Nat.le_of_ble_eq_true rfl) dX11_init_133 ?_
  refine g_to (show _ = kl9 b G cf from rfl) ?_
  have hf9_0 : kl9 b G cf 0 = .inr (11, [.ref (b + 1), .ref (b + 4), .ref (b + 28), .ref (b + 52), .ref (b + 76), .ref (b + 100), .ref (b + 201), .ref (b + 212), .ref (b + 213), .null, .null, .null, .int 0, .int 0, .int 0]) := va_upS
  have hf9_1 : kl9 b G cf 1 = .inr (10, [.ref (b + 2), .int 0, .int 0, .int 0, .int 0, .int 0, .long 0, .ref (b + 3), .int 0, .int 0, .int 0]) := (va_upN (show 1 ≠ 0 by omega) ((ctX0_ne (show 1 < 214 by omega) (show 1 ≠ 213 by omega)).trans (va_upN (show 1 ≠ 213 by omega) hf8_1)))
  have hf9_4 : kl9 b G cf 4 = .inr (9, [.ref (b + 5), .ref (b + 12), .ref (b + 23), .int 0]) := (va_upN (show 4 ≠ 0 by omega) ((ctX0_ne (show 4 < 214 by omega) (show 4 ≠ 213 by omega)).trans (va_upN (show 4 ≠ 213 by omega) hf8_4)))
  have hf9_28 : kl9 b G cf 28 = .inr (9, [.ref (b + 29), .ref (b + 36), .ref (b + 47), .int 0]) := (va_upN (show 28 ≠ 0 by omega) ((ctX0_ne (show 28 < 214 by omega) (show 28 ≠ 213 by omega)).trans (va_upN (show 28 ≠ 213 by omega) hf8_28)))
  have hf9_52 : kl9 b G cf 52 = .inr (9, [.ref (b + 53), .ref (b + 60), .ref (b + 71), .int 0]) := (va_upN (show 52 ≠ 0 by omega) ((ctX0_ne (show 52 < 214 by omega) (show 52 ≠ 213 by omega)).trans (va_upN (show 52 ≠ 213 by omega) hf8_52)))
  have hf9_76 : kl9 b G cf 76 = .inr (9, [.ref (b + 77), .ref (b + 84), .ref (b + 95), .int 0]) := (va_upN (show 76 ≠ 0 by omega) ((ctX0_ne (show 76 < 214 by omega) (show 76 ≠ 213 by omega)).trans (va_upN (show 76 ≠ 213 by omega) hf8_76)))
  refine g_aload_n (pc := 136) ok dX11_init_136 rfl ?_
  refine g_new (pc := 137) ok cls3 kl_X11_70 in_X3 ii_X3 (hz.up 216) df_X3 (Nat.le_of_ble_eq_true rfl) (Nat.le_of_ble_eq_true rfl) dX11_init_137 ?_
  refine g_dup (pc := 140) ok dX11_init_140 rfl ?_
  refine g_ws (hz.up 217) ?_
  refine g_kV (pc := 141) (g_cIN (dy := d + 6 + 1) (mc := 2) (ms := 264) (a := b + 217) (As := []) ok il_X11_72 wi_X3_init yi_X3_init rfl (show d + 6 + 1 + 1 ≤ d + 8 by omega) (show 8 + (1 + 11) + 60 * (d + 6 + 1) ≤ 60 * (d + 8) by omega) (Nat.le_of_ble_eq_true rfl) (Nat.le_of_ble_eq_true rfl) (kX3 (d := d + 6) (K := 218) (a := 217) (show 217 < 218 by omega) va_upS) rfl (Nat.le_of_ble_eq_true rfl) dX11_init_141) ?_
  refine g_wk ?_
  refine g_putF (pc := 144) ok hnm (a := 0) (k := 9) cls11 (show 0 < 220 by omega) ((ctX3_ne (show 0 < 218 by omega) (show 0 ≠ 217 by omega)).trans (va_upN (show 0 ≠ 217 by omega) hf9_0)) (Nat.le_of_ble_eq_true rfl) cfl_X11_73 rfl rfl rfl rfl (Nat.le_of_ble_eq_true rfl) dX11_init_144 ?_
  refine g_to (show _ = kl10 b G cf from rfl) ?_
  have hf10_0 : kl10 b G cf 0 = .inr (11, [.ref (b + 1), .ref (b + 4), .ref (b + 28), .ref (b + 52), .ref (b + 76), .ref (b + 100), .ref (b + 201), .ref (b + 212), .ref (b + 213), .ref (b + 217), .null, .null, .int 0, .int 0, .int 0]) := va_upS
  have hf10_1 : kl10 b G cf 1 = .inr (10, [.ref (b + 2), .int 0, .int 0, .int 0, .int 0, .int 0, .long 0, .ref (b + 3), .int 0, .int 0, .int 0]) := (va_upN (show 1 ≠ 0 by omega) ((ctX3_ne (show 1 < 218 by omega) (show 1 ≠ 217 by omega)).trans (va_upN (show 1 ≠ 217 by omega) hf9_1)))
  have hf10_4 : kl10 b G cf 4 = .inr (9, [.ref (b + 5), .ref (b + 12), .ref (b + 23), .int 0]) := (va_upN (show 4 ≠ 0 by omega) ((ctX3_ne (show 4 < 218 by omega) (show 4 ≠ 217 by omega)).trans (va_upN (show 4 ≠ 217 by omega) hf9_4)))
  have hf10_28 : kl10 b G cf 28 = .inr (9, [.ref (b + 29), .ref (b + 36), .ref (b + 47), .int 0]) := (va_upN (show 28 ≠ 0 by omega) ((ctX3_ne (show 28 < 218 by omega) (show 28 ≠ 217 by omega)).trans (va_upN (show 28 ≠ 217 by omega) hf9_28)))
  have hf10_52 : kl10 b G cf 52 = .inr (9, [.ref (b + 53), .ref (b + 60), .ref (b + 71), .int 0]) := (va_upN (show 52 ≠ 0 by omega) ((ctX3_ne (show 52 < 218 by omega) (show 52 ≠ 217 by omega)).trans (va_upN (show 52 ≠ 217 by omega) hf9_52)))
  have hf10_76 : kl10 b G cf 76 = .inr (9, [.ref (b + 77), .ref (b + 84), .ref (b + 95), .int 0]) := (va_upN (show 76 ≠ 0 by omega) ((ctX3_ne (show 76 < 218 by omega) (show 76 ≠ 217 by omega)).trans (va_upN (show 76 ≠ 217 by omega) hf9_76)))
  refine g_aload_n (pc := 147) ok dX11_init_147 rfl ?_
  refine g_new (pc := 148) ok cls1 kl_X11_77 in_X1 ii_X1 (hz.up 219) df_X1 (Nat.le_of_ble_eq_true rfl) (Nat.le_of_ble_eq_true rfl) dX11_init_148 ?_
  refine g_dup (pc := 151) ok dX11_init_151 rfl ?_
  refine g_ws (hz.up 220) ?_
  refine g_kV (pc := 152) (g_cIN (dy := d + 6 + 1) (mc := 2) (ms := 16) (a := b + 220) (As := []) ok il_X11_79 wi_X1_init yi_X1_init rfl (show d + 6 + 1 + 1 ≤ d + 8 by omega) (show 8 + (1 + 11) + 60 * (d + 6 + 1) ≤ 60 * (d + 8) by omega) (Nat.le_of_ble_eq_true rfl) (Nat.le_of_ble_eq_true rfl) (kX1 (d := d + 6) (K := 221) (a := 220) (show 220 < 221 by omega) va_upS) rfl (Nat.le_of_ble_eq_true rfl) dX11_init_152) ?_
  refine g_wk ?_
  refine g_putF (pc := 155) ok hnm (a := 0) (k := 10) cls11 (show 0 < 223 by omega) ((ctX1_ne (show 0 < 221 by omega) (show 0 ≠ 220 by omega)).trans (va_upN (show 0 ≠ 220 by omega) hf10_0)) (Nat.le_of_ble_eq_true rfl) cfl_X11_80 rfl rfl rfl rfl (Nat.le_of_ble_eq_true rfl) dX11_init_155 ?_
  refine g_to (show _ = kl11 b G cf from rfl) ?_
  have hf11_0 : kl11 b G cf 0 = .inr (11, [.ref (b + 1), .ref (b + 4), .ref (b + 28), .ref (b + 52), .ref (b + 76), .ref (b + 100), .ref (b + 201), .ref (b + 212), .ref (b + 213), .ref (b + 217), .ref (b + 220), .null, .int 0, .int 0, .int 0]) := va_upS
  have hf11_1 : kl11 b G cf 1 = .inr (10, [.ref (b + 2), .int 0, .int 0, .int 0, .int 0, .int 0, .long 0, .ref (b + 3), .int 0, .int 0, .int 0]) := (va_upN (show 1 ≠ 0 by omega) ((ctX1_ne (show 1 < 221 by omega) (show 1 ≠ 220 by omega)).trans (va_upN (show 1 ≠ 220 by omega) hf10_1)))
  have hf11_4 : kl11 b G cf 4 = .inr (9, [.ref (b + 5), .ref (b + 12), .ref (b + 23), .int 0]) := (va_upN (show 4 ≠ 0 by omega) ((ctX1_ne (show 4 < 221 by omega) (show 4 ≠ 220 by omega)).trans (va_upN (show 4 ≠ 220 by omega) hf10_4)))
  have hf11_28 : kl11 b G cf 28 = .inr (9, [.ref (b + 29), .ref (b + 36), .ref (b + 47), .int 0]) := (va_upN (show 28 ≠ 0 by omega) ((ctX1_ne (show 28 < 221 by omega) (show 28 ≠ 220 by omega)).trans (va_upN (show 28 ≠ 220 by omega) hf10_28)))
  have hf11_52 : kl11 b G cf 52 = .inr (9, [.ref (b + 53), .ref (b + 60), .ref (b + 71), .int 0]) := (va_upN (show 52 ≠ 0 by omega) ((ctX1_ne (show 52 < 221 by omega) (show 52 ≠ 220 by omega)).trans (va_upN (show 52 ≠ 220 by omega) hf10_52)))
  have hf11_76 : kl11 b G cf 76 = .inr (9, [.ref (b + 77), .ref (b + 84), .ref (b + 95), .int 0]) := (va_upN (show 76 ≠ 0 by omega) ((ctX1_ne (show 76 < 221 by omega) (show 76 ≠ 220 by omega)).trans (va_upN (show 76 ≠ 220 by omega) hf10_76)))
  refine g_aload_n (pc := 158) ok dX11_init_158 rfl ?_
  refine g_new (pc := 159) ok cls2 kl_X11_84 in_X2 ii_X2 (hz.up 222) df_X2 (Nat.le_of_ble_eq_true rfl) (Nat.le_of_ble_eq_true rfl) dX11_init_159 ?_
  refine g_dup (pc := 162) ok dX11_init_162 rfl ?_
  refine g_aload_n (pc := 163) ok dX11_init_163 rfl ?_
  refine g_get (pc := 164) (a := 0) (k := 0) ok cls11 (show 0 < 224 by omega) (va_upN (show 0 ≠ 223 by omega) hf11_0) (Nat.le_of_ble_eq_true rfl) cfl_X11_10 rfl dX11_init_164 ?_
  refine g_get (pc := 167) (a := 1) (k := 0) ok cls10 (show 1 < 224 by omega) (va_upN (show 1 ≠ 223 by omega) hf11_1) (Nat.le_of_ble_eq_true rfl) cfl_X11_86 rfl dX11_init_167 ?_
  refine g_ws (hz.up 223) ?_
  refine g_kV (pc := 170) (g_cI (dy := d + 6 + 1) (mc := 1) (ms := 32) (a := b + 223) (As := [.ref (b + 2)]) ok il_X11_90 wi_X2_init yi_X2_init rfl (show d + 6 + 1 + 1 ≤ d + 8 by omega) (show 8 + (2 + 11) + 60 * (d + 6 + 1) ≤ 60 * (d + 8) by omega) (Nat.le_of_ble_eq_true rfl) (Nat.le_of_ble_eq_true rfl) (kX2 (d := d + 6) (K := 224) (a := 223) (show 223 < 224 by omega) va_upS) rfl (Nat.le_of_ble_eq_true rfl) dX11_init_170) ?_
  refine g_wk ?_
  refine g_putF (pc := 173) ok hnm (a := 0) (k := 11) cls11 (show 0 < 225 by omega) ((ctX2_ne (show 0 < 224 by omega) (show 0 ≠ 223 by omega)).trans (va_upN (show 0 ≠ 223 by omega) hf11_0)) (Nat.le_of_ble_eq_true rfl) cfl_X11_93 rfl rfl rfl rfl (Nat.le_of_ble_eq_true rfl) dX11_init_173 ?_
  refine g_to (show _ = kl12 b G cf from rfl) ?_
  have hf12_0 : kl12 b G cf 0 = .inr (11, [.ref (b + 1), .ref (b + 4), .ref (b + 28), .ref (b + 52), .ref (b + 76), .ref (b + 100), .ref (b + 201), .ref (b + 212), .ref (b + 213), .ref (b + 217), .ref (b + 220), .ref (b + 223), .int 0, .int 0, .int 0]) := va_upS
  have hf12_1 : kl12 b G cf 1 = .inr (10, [.ref (b + 2), .int 0, .int 0, .int 0, .int 0, .int 0, .long 0, .ref (b + 3), .int 0, .int 0, .int 0]) := (va_upN (show 1 ≠ 0 by omega) ((ctX2_ne (show 1 < 224 by omega) (show 1 ≠ 223 by omega)).trans (va_upN (show 1 ≠ 223 by omega) hf11_1)))
  have hf12_4 : kl12 b G cf 4 = .inr (9, [.ref (b + 5), .ref (b + 12), .ref (b + 23), .int 0]) := (va_upN (show 4 ≠ 0 by omega) ((ctX2_ne (show 4 < 224 by omega) (show 4 ≠ 223 by omega)).trans (va_upN (show 4 ≠ 223 by omega) hf11_4)))
  have hf12_28 : kl12 b G cf 28 = .inr (9, [.ref (b + 29), .ref (b + 36), .ref (b + 47), .int 0]) := (va_upN (show 28 ≠ 0 by omega) ((ctX2_ne (show 28 < 224 by omega) (show 28 ≠ 223 by omega)).trans (va_upN (show 28 ≠ 223 by omega) hf11_28)))
  have hf12_52 : kl12 b G cf 52 = .inr (9, [.ref (b + 53), .ref (b + 60), .ref (b + 71), .int 0]) := (va_upN (show 52 ≠ 0 by omega) ((ctX2_ne (show 52 < 224 by omega) (show 52 ≠ 223 by omega)).trans (va_upN (show 52 ≠ 223 by omega) hf11_52)))
  have hf12_76 : kl12 b G cf 76 = .inr (9, [.ref (b + 77), .ref (b + 84), .ref (b + 95), .int 0]) := (va_upN (show 76 ≠ 0 by omega) ((ctX2_ne (show 76 < 224 by omega) (show 76 ≠ 223 by omega)).trans (va_upN (show 76 ≠ 223 by omega) hf11_76)))
  refine g_aload_n (pc := 176) ok dX11_init_176 rfl ?_
  refine g_iconst (pc := 177) ok (-1) dX11_init_177 (by decide +kernel) ?_
  refine g_put (pc := 178) ok (a := 0) (k := 13) cls11 (show 0 < 225 by omega) hf12_0 (Nat.le_of_ble_eq_true rfl) cfl_X11_97 rfl rfl rfl (Nat.le_of_ble_eq_true rfl) dX11_init_178 ?_
  refine g_to (show _ = kl13 b G cf from rfl) ?_
  have hf13_0 : kl13 b G cf 0 = .inr (11, [.ref (b + 1), .ref (b + 4), .ref (b + 28), .ref (b + 52), .ref (b + 76), .ref (b + 100), .ref (b + 201), .ref (b + 212), .ref (b + 213), .ref (b + 217), .ref (b + 220), .ref (b + 223), .int 0, .int (-1), .int 0]) := va_upS
  have hf13_1 : kl13 b G cf 1 = .inr (10, [.ref (b + 2), .int 0, .int 0, .int 0, .int 0, .int 0, .long 0, .ref (b + 3), .int 0, .int 0, .int 0]) := (va_upN (show 1 ≠ 0 by omega) hf12_1)
  have hf13_4 : kl13 b G cf 4 = .inr (9, [.ref (b + 5), .ref (b + 12), .ref (b + 23), .int 0]) := (va_upN (show 4 ≠ 0 by omega) hf12_4)
  have hf13_28 : kl13 b G cf 28 = .inr (9, [.ref (b + 29), .ref (b + 36), .ref (b + 47), .int 0]) := (va_upN (show 28 ≠ 0 by omega) hf12_28)
  have hf13_52 : kl13 b G cf 52 = .inr (9, [.ref (b + 53), .ref (b + 60), .ref (b + 71), .int 0]) := (va_upN (show 52 ≠ 0 by omega) hf12_52)
  have hf13_76 : kl13 b G cf 76 = .inr (9, [.ref (b + 77), .ref (b + 84), .ref (b + 95), .int 0]) := (va_upN (show 76 ≠ 0 by omega) hf12_76)
  refine g_aload_n (pc := 181) ok dX11_init_181 rfl ?_
  refine g_iconst (pc := 182) ok (-1) dX11_init_182 (by decide +kernel) ?_
  refine g_put (pc := 183) ok (a := 0) (k := 14) cls11 (show 0 < 225 by omega) hf13_0 (Nat.le_of_ble_eq_true rfl) cfl_X11_101 rfl rfl rfl (Nat.le_of_ble_eq_true rfl) dX11_init_183 ?_
  refine g_to (show _ = kl14 b G cf from rfl) ?_
  have hf14_0 : kl14 b G cf 0 = .inr (11, [.ref (b + 1), .ref (b + 4), .ref (b + 28), .ref (b + 52), .ref (b + 76), .ref (b + 100), .ref (b + 201), .ref (b + 212), .ref (b + 213), .ref (b + 217), .ref (b + 220), .ref (b + 223), .int 0, .int (-1), .int (-1)]) := va_upS
  have hf14_1 : kl14 b G cf 1 = .inr (10, [.ref (b + 2), .int 0, .int 0, .int 0, .int 0, .int 0, .long 0, .ref (b + 3), .int 0, .int 0, .int 0]) := (va_upN (show 1 ≠ 0 by omega) hf13_1)
  have hf14_4 : kl14 b G cf 4 = .inr (9, [.ref (b + 5), .ref (b + 12), .ref (b + 23), .int 0]) := (va_upN (show 4 ≠ 0 by omega) hf13_4)
  have hf14_28 : kl14 b G cf 28 = .inr (9, [.ref (b + 29), .ref (b + 36), .ref (b + 47), .int 0]) := (va_upN (show 28 ≠ 0 by omega) hf13_28)
  have hf14_52 : kl14 b G cf 52 = .inr (9, [.ref (b + 53), .ref (b + 60), .ref (b + 71), .int 0]) := (va_upN (show 52 ≠ 0 by omega) hf13_52)
  have hf14_76 : kl14 b G cf 76 = .inr (9, [.ref (b + 77), .ref (b + 84), .ref (b + 95), .int 0]) := (va_upN (show 76 ≠ 0 by omega) hf13_76)
  refine g_ws (hz.up 224) ?_
  exact g_vret (pc := 186) ok dX11_init_186 (fun _ h => h)
