set_option maxRecDepth 20000
theorem wi_X6_init : wI yX6_init cX6_init 3 := ⟨tg 453 (by decide +kernel) (by decide +kernel), tg 128 (by decide +kernel) (by decide +kernel), tg 454 rfl rfl, rfl⟩
theorem yi_X6_init : yOK yX6_init 2 := ⟨by decide +kernel, by decide +kernel, by decide +kernel⟩
theorem om_X6_3 : Cond.methodLink RX6 3 Lib.objectInit ∈ Tg := tg 455 (by decide +kernel) (by decide +kernel)
theorem cfl_X6_9 : Cond.fieldLink RX6 9 (TX6 0).1 (TX6 0).2.1 (TX6 0).2.2.1 ∈ Tg := tg 456 (by decide +kernel) (by decide +kernel)
theorem cfl_X6_21 : Cond.fieldLink RX6 21 (TX6 1).1 (TX6 1).2.1 (TX6 1).2.2.1 ∈ Tg := tg 457 (by decide +kernel) (by decide +kernel)
theorem cfl_X6_26 : Cond.fieldLink RX6 26 (TX6 2).1 (TX6 2).2.1 (TX6 2).2.2.1 ∈ Tg := tg 458 (by decide +kernel) (by decide +kernel)
theorem cfl_X6_15 : Cond.fieldLink RX6 15 (TX9 0).1 (TX9 0).2.1 (TX9 0).2.2.1 ∈ Tg := tg 411 (by decide +kernel) (by decide +kernel)
theorem cfl_X6_22 : Cond.fieldLink RX6 22 (TX9 1).1 (TX9 1).2.1 (TX9 1).2.2.1 ∈ Tg := tg 414 (by decide +kernel) (by decide +kernel)
def ctX6 (a v1 q1 q2 : Nat) (cf : Nat → va_E) : Nat → va_E := va_up (va_up (va_up cf a (.inr (6, [.ref v1, .null, .null, .int 0, .int 0, .int 0]))) a (.inr (6, [.ref v1, .ref q1, .null, .int 0, .int 0, .int 0]))) a (.inr (6, [.ref v1, .ref q1, .ref q2, .int 0, .int 0, .int 0]))
theorem ctX6_ne {a v1 q1 q2 q : Nat} {cf : Nat → va_E} (h2 : q ≠ a) : ctX6 a v1 q1 q2 cf q = cf q := by
  unfold ctX6
  rw [va_up_ne _ _ h2, va_up_ne _ _ h2, va_up_ne _ _ h2]
theorem kX6 {l : Launch} {G : Gx} {b d a K s v1 q1 q2 : Nat} {v3 v4 : Value} {cf : Nat → va_E} (ha : a < K) (he : cf a = .inr (6, [.null, .null, .null, .int 0, .int 0, .int 0])) (hs : s < K) (hsa : s ≠ a) (hes : cf s = .inr (9, [.ref q1, .ref q2, v3, v4])) : MetP l G b yX6_init cX6_init 3 none (d + 1) 0 0 [.ref (b + a), .ref v1, .ref (b + s)] (WS G b K cf) (pV b (WS G b (K + 0) (ctX6 a v1 q1 q2 cf))) := by
  refine metP_start [some (.ref (b + a)), some (.ref v1), some (.ref (b + s))] (by decide +kernel) (Nat.le_of_ble_eq_true rfl) rfl ?_
  intro X hX ok h0 hnm
  have hz : Sz X b 0 K := h0.sz
  refine g_wk ?_
  refine g_aload_n (pc := 0) ok dX6_init_0 rfl ?_
  refine g_oinit (pc := 1) ok om_X6_3 oi_i oi_c (show 1 ≤ d + 1 by omega) (Nat.le_trans (Nat.le_of_ble_eq_true rfl : _ ≤ 60) (show 60 ≤ 60 * (d + 1) by omega)) dX6_init_1 ?_
  refine g_aload_n (pc := 4) ok dX6_init_4 rfl ?_
  refine g_aload_n (pc := 5) ok dX6_init_5 rfl ?_
  refine g_putF (pc := 6) ok hnm (k := 0) cls6 ha he (Nat.le_of_ble_eq_true rfl) cfl_X6_9 rfl rfl rfl rfl (Nat.le_of_ble_eq_true rfl) dX6_init_6 ?_
  refine g_aload_n (pc := 9) ok dX6_init_9 rfl ?_
  refine g_aload_n (pc := 10) ok dX6_init_10 rfl ?_
  refine g_get (pc := 11) (k := 0) ok cls9 hs (va_upN hsa hes) (Nat.le_of_ble_eq_true rfl) cfl_X6_15 rfl dX6_init_11 ?_
  refine g_putF (pc := 14) ok hnm (k := 1) cls6 ha va_upS (Nat.le_of_ble_eq_true rfl) cfl_X6_21 rfl rfl rfl rfl (Nat.le_of_ble_eq_true rfl) dX6_init_14 ?_
  refine g_aload_n (pc := 17) ok dX6_init_17 rfl ?_
  refine g_aload_n (pc := 18) ok dX6_init_18 rfl ?_
  refine g_get (pc := 19) (k := 1) ok cls9 hs (va_upN hsa (va_upN hsa hes)) (Nat.le_of_ble_eq_true rfl) cfl_X6_22 rfl dX6_init_19 ?_
  refine g_putF (pc := 22) ok hnm (k := 2) cls6 ha va_upS (Nat.le_of_ble_eq_true rfl) cfl_X6_26 rfl rfl rfl rfl (Nat.le_of_ble_eq_true rfl) dX6_init_22 ?_
  refine g_ws hz ?_
  exact g_vret (pc := 25) ok dX6_init_25 (fun _ h => h)
