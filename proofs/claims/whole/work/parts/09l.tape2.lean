set_option maxRecDepth 20000
theorem wi_X10_init : wI yX10_init cX10_init 1 := ⟨tg 152 (by decide +kernel) (by decide +kernel), tg 118 (by decide +kernel) (by decide +kernel), tg 153 rfl rfl, rfl⟩
theorem yi_X10_init : yOK yX10_init 0 := ⟨by decide +kernel, by decide +kernel, by decide +kernel⟩
theorem om_X10_3 : Cond.methodLink RX10 3 Lib.objectInit ∈ Tg := tg 154 (by decide +kernel) (by decide +kernel)
theorem cfl_X10_15 : Cond.fieldLink RX10 15 (TX10 0).1 (TX10 0).2.1 (TX10 0).2.2.1 ∈ Tg := tg 212 (by decide +kernel) (by decide +kernel)
theorem cfl_X10_19 : Cond.fieldLink RX10 19 (TX10 7).1 (TX10 7).2.1 (TX10 7).2.2.1 ∈ Tg := tg 229 (by decide +kernel) (by decide +kernel)
def ctX10 (b : Nat) (G : Gx) (a K : Nat) (cf : Nat → va_E) : Nat → va_E := va_up (va_up (va_up (rowJ G cf K wd2.2) a (.inr (10, [.ref (b + K), .int 0, .int 0, .int 0, .int 0, .int 0, .long 0, .null, .int 0, .int 0, .int 0]))) (K + 1) (.inl (G.2 1, 940, .inl (fun _ => 0)))) a (.inr (10, [.ref (b + K), .int 0, .int 0, .int 0, .int 0, .int 0, .long 0, .ref (b + (K + 1)), .int 0, .int 0, .int 0]))
theorem kX10 {l : Launch} {G : Gx} {b d a K : Nat} {cf : Nat → va_E} (ha : a < K) (he : cf a = .inr (10, [.null, .int 0, .int 0, .int 0, .int 0, .int 0, .long 0, .null, .int 0, .int 0, .int 0])) : MetP l G b yX10_init cX10_init 1 none (d + 7) 2 969 [.ref (b + a)] (WS G b K cf) (pV b (WS G b (K + 2) (ctX10 b G a K cf))) := by
  refine metP_start [some (.ref (b + a))] (by decide +kernel) (Nat.le_of_ble_eq_true rfl) rfl ?_
  intro X hX ok h0 hnm
  have hz : Sz X b 0 K := h0.sz
  refine g_wk ?_
  refine g_aload_n (pc := 0) ok dX10_init_0 rfl ?_
  refine g_oinit (pc := 1) ok om_X10_3 oi_i oi_c (show 1 ≤ d + 7 by omega) (Nat.le_trans (Nat.le_of_ble_eq_true rfl : _ ≤ 60) (show 60 ≤ 60 * (d + 7) by omega)) dX10_init_1 ?_
  refine g_aload_n (pc := 4) ok dX10_init_4 rfl ?_
  refine g_ws hz ?_
  refine g_kR (pc := 5) (g_cS (dy := d + 6) (mc := 1) (ms := 29) (As := []) ok ml_Ta_9 ws_X10_codes yk_X10_codes rfl (Nat.le_refl _) (show 8 + (2 + 11) + 60 * (d + 6) ≤ 60 * (d + 7) by omega) (Nat.le_of_ble_eq_true rfl) (Nat.le_of_ble_eq_true rfl) (kcodes (d := d) (K := K)) rfl (Nat.le_of_ble_eq_true rfl) dX10_init_5) ?_
  refine g_wk ?_
  refine g_putF (pc := 8) ok hnm (k := 0) cls10 (show a < (K + 1) by omega) (va_upN (show a ≠ K by omega) he) (Nat.le_of_ble_eq_true rfl) cfl_X10_15 rfl rfl rfl rfl (Nat.le_of_ble_eq_true rfl) dX10_init_8 ?_
  refine g_aload_n (pc := 11) ok dX10_init_11 rfl ?_
  refine g_sipush (pc := 12) ok 940 dX10_init_12 (by decide +kernel) ?_
  refine g_newaB' (pc := 15) (N := 940) ok (hz.up 1) (by decide) (by decide +kernel) (Nat.le_of_ble_eq_true rfl) (Nat.le_of_ble_eq_true rfl) (Nat.le_of_ble_eq_true rfl) dX10_init_15 ?_
  refine g_putF (pc := 17) ok hnm (k := 7) cls10 (show a < (K + 2) by omega) (va_upN (show a ≠ (K + 1) by omega) va_upS) (Nat.le_of_ble_eq_true rfl) cfl_X10_19 rfl rfl rfl rfl (Nat.le_of_ble_eq_true rfl) dX10_init_17 ?_
  refine g_ws (hz.up 2) ?_
  exact g_vret (pc := 20) ok dX10_init_20 (fun _ h => h)
theorem ctX10_ne {G : Gx} {b a K q : Nat} {cf : Nat → va_E} (h1 : q < K) (h2 : q ≠ a) : ctX10 b G a K cf q = cf q := by
  unfold ctX10 rowJ
  rw [va_up_ne _ _ h2, va_up_ne _ _ (show q ≠ (K + 1) by omega), va_up_ne _ _ h2, va_up_ne _ _ (show q ≠ K by omega)]
theorem ctX10_a {G : Gx} {b a K : Nat} {cf : Nat → va_E} : ctX10 b G a K cf a = .inr (10, [.ref (b + K), .int 0, .int 0, .int 0, .int 0, .int 0, .long 0, .ref (b + (K + 1)), .int 0, .int 0, .int 0]) := by
  unfold ctX10
  rw [va_up_self]
theorem ctX9_a {G : Gx} {b a K : Nat} {cf : Nat → va_E} : ctX9 b G a K cf a = .inr (9, [.ref (b + K), .ref (b + (K + 7)), .ref (b + (K + 18)), .int 0]) := by
  unfold ctX9
  rw [va_up_self]
theorem ctX9_ne {G : Gx} {b a K q : Nat} {cf : Nat → va_E} (h1 : q < K) (h2 : q ≠ a) : ctX9 b G a K cf q = cf q := by
  unfold ctX9
  rw [va_up_ne _ _ h2, ctX7_ne (show q < K + 19 by omega) (show q ≠ K + 18 by omega), va_up_ne _ _ (show q ≠ K + 18 by omega), va_up_ne _ _ h2, ctX8_ne (show q < K + 8 by omega) (show q ≠ K + 7 by omega), va_up_ne _ _ (show q ≠ K + 7 by omega), va_up_ne _ _ h2, ctX5_ne (show q < K + 1 by omega) (show q ≠ K by omega), va_up_ne _ _ (show q ≠ K by omega)]
theorem pcX4_ne0 {G : Gx} {b a K v1 q : Nat} {cf : Nat → va_E} (h1 : q < K) (h2 : q ≠ a) : pcX4_0 b G a K v1 cf q = cf q := by
  unfold pcX4_0
  rw [va_up_ne _ _ h2, va_up_ne _ _ (show q ≠ K by omega)]
theorem pcX4_ne1 {G : Gx} {b a K v1 q : Nat} {cf : Nat → va_E} (h1 : q < K) (h2 : q ≠ a) : pcX4_1 b G a K v1 cf q = cf q := by
  unfold pcX4_1
  rw [va_up_ne _ _ (show q ≠ K by omega), ctX8_ne (show q < K + 2 by omega) (show q ≠ K + 1 by omega), va_up_ne _ _ (show q ≠ K + 1 by omega), pcX4_ne0 h1 h2]
theorem pcX4_ne2 {G : Gx} {b a K v1 q : Nat} {cf : Nat → va_E} (h1 : q < K) (h2 : q ≠ a) : pcX4_2 b G a K v1 cf q = cf q := by
  unfold pcX4_2
  rw [va_up_ne _ _ (show q ≠ K by omega), ctX8_ne (show q < K + 13 by omega) (show q ≠ K + 12 by omega), va_up_ne _ _ (show q ≠ K + 12 by omega), pcX4_ne1 h1 h2]
theorem pcX4_ne3 {G : Gx} {b a K v1 q : Nat} {cf : Nat → va_E} (h1 : q < K) (h2 : q ≠ a) : pcX4_3 b G a K v1 cf q = cf q := by
  unfold pcX4_3
  rw [va_up_ne _ _ (show q ≠ K by omega), ctX8_ne (show q < K + 24 by omega) (show q ≠ K + 23 by omega), va_up_ne _ _ (show q ≠ K + 23 by omega), pcX4_ne2 h1 h2]
theorem pcX4_ne4 {G : Gx} {b a K v1 q : Nat} {cf : Nat → va_E} (h1 : q < K) (h2 : q ≠ a) : pcX4_4 b G a K v1 cf q = cf q := by
  unfold pcX4_4
  rw [va_up_ne _ _ (show q ≠ K by omega), ctX8_ne (show q < K + 35 by omega) (show q ≠ K + 34 by omega), va_up_ne _ _ (show q ≠ K + 34 by omega), pcX4_ne3 h1 h2]
theorem pcX4_ne5 {G : Gx} {b a K v1 q : Nat} {cf : Nat → va_E} (h1 : q < K) (h2 : q ≠ a) : pcX4_5 b G a K v1 cf q = cf q := by
  unfold pcX4_5
  rw [va_up_ne _ _ (show q ≠ K by omega), ctX8_ne (show q < K + 46 by omega) (show q ≠ K + 45 by omega), va_up_ne _ _ (show q ≠ K + 45 by omega), pcX4_ne4 h1 h2]
theorem pcX4_ne6 {G : Gx} {b a K v1 q : Nat} {cf : Nat → va_E} (h1 : q < K) (h2 : q ≠ a) : pcX4_6 b G a K v1 cf q = cf q := by
  unfold pcX4_6
  rw [va_up_ne _ _ (show q ≠ K by omega), ctX8_ne (show q < K + 57 by omega) (show q ≠ K + 56 by omega), va_up_ne _ _ (show q ≠ K + 56 by omega), pcX4_ne5 h1 h2]
theorem pcX4_ne7 {G : Gx} {b a K v1 q : Nat} {cf : Nat → va_E} (h1 : q < K) (h2 : q ≠ a) : pcX4_7 b G a K v1 cf q = cf q := by
  unfold pcX4_7
  rw [va_up_ne _ _ (show q ≠ K by omega), ctX8_ne (show q < K + 68 by omega) (show q ≠ K + 67 by omega), va_up_ne _ _ (show q ≠ K + 67 by omega), pcX4_ne6 h1 h2]
theorem pcX4_ne8 {G : Gx} {b a K v1 q : Nat} {cf : Nat → va_E} (h1 : q < K) (h2 : q ≠ a) : pcX4_8 b G a K v1 cf q = cf q := by
  unfold pcX4_8
  rw [va_up_ne _ _ (show q ≠ K by omega), ctX8_ne (show q < K + 79 by omega) (show q ≠ K + 78 by omega), va_up_ne _ _ (show q ≠ K + 78 by omega), pcX4_ne7 h1 h2]
theorem pcX4_ne9 {G : Gx} {b a K v1 q : Nat} {cf : Nat → va_E} (h1 : q < K) (h2 : q ≠ a) : pcX4_9 b G a K v1 cf q = cf q := by
  unfold pcX4_9
  rw [va_up_ne _ _ (show q ≠ K by omega), ctX8_ne (show q < K + 90 by omega) (show q ≠ K + 89 by omega), va_up_ne _ _ (show q ≠ K + 89 by omega), pcX4_ne8 h1 h2]
theorem ctX4_ne {G : Gx} {b a K v1 q : Nat} {cf : Nat → va_E} (h1 : q < K) (h2 : q ≠ a) : ctX4 b G a K v1 cf q = cf q := pcX4_ne9 h1 h2
