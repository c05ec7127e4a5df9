set_option maxRecDepth 20000
theorem ctX8_a {G : Gx} {b a K v1 : Nat} {cf : Nat → va_E} : ctX8 b G a K v1 cf a = .inr (8, [.ref v1, .int 0, .int 0, .int 0, .ref (b + K), .ref (b + (K + 1)), .ref (b + (K + 2)), .ref (b + (K + 3)), .ref (b + (K + 4)), .ref (b + (K + 5)), .ref (b + (K + 6)), .ref (b + (K + 7)), .ref (b + (K + 8)), .ref (b + (K + 9)), .int 0]) := by
  unfold ctX8
  rw [va_up_self]
theorem wi_X4_init : wI yX4_init cX4_init 3 := ⟨tg 432 (by decide +kernel) (by decide +kernel), tg 127 (by decide +kernel) (by decide +kernel), tg 433 rfl rfl, rfl⟩
theorem yi_X4_init : yOK yX4_init 1 := ⟨by decide +kernel, by decide +kernel, by decide +kernel⟩
theorem om_X4_3 : Cond.methodLink RX4 3 Lib.objectInit ∈ Tg := tg 434 (by decide +kernel) (by decide +kernel)
theorem cfl_X4_13 : Cond.fieldLink RX4 13 (TX4 0).1 (TX4 0).2.1 (TX4 0).2.2.1 ∈ Tg := tg 438 (by decide +kernel) (by decide +kernel)
theorem kl_X4_11 : Cond.classLink RX4 11 RX8 ∈ Tg := tg 435 (by decide +kernel) (by decide +kernel)
theorem il_X4_17 : Cond.methodLink RX4 17 yX8_init ∈ Tg := tg 437 (by decide +kernel) (by decide +kernel)
def pcX4_0 (b : Nat) (G : Gx) (a K v1 : Nat) (cf : Nat → va_E) : Nat → va_E := va_up (va_up (cf) K (.inl (G.2 5, 9, .inr (.inr (.inr (.inr (fun _ => none))))))) a (.inr (4, [.ref (b + K), .int 0, .int 0]))
def pcX4_1 (b : Nat) (G : Gx) (a K v1 : Nat) (cf : Nat → va_E) : Nat → va_E := va_up (ctX8 b G (K + 1) (K + 2) v1 (va_up (pcX4_0 b G a K v1 cf) (K + 1) (.inr (8, [.null, .int 0, .int 0, .int 0, .null, .null, .null, .null, .null, .null, .null, .null, .null, .null, .int 0])))) K (.inl (G.2 5, 9, .inr (.inr (.inr (.inr (va_up (fun _ => none) 0 (some (b + (K + 1)))))))))
def pcX4_2 (b : Nat) (G : Gx) (a K v1 : Nat) (cf : Nat → va_E) : Nat → va_E := va_up (ctX8 b G (K + 12) (K + 13) v1 (va_up (pcX4_1 b G a K v1 cf) (K + 12) (.inr (8, [.null, .int 0, .int 0, .int 0, .null, .null, .null, .null, .null, .null, .null, .null, .null, .null, .int 0])))) K (.inl (G.2 5, 9, .inr (.inr (.inr (.inr (va_up (va_up (fun _ => none) 0 (some (b + (K + 1)))) 1 (some (b + (K + 12)))))))))
def pcX4_3 (b : Nat) (G : Gx) (a K v1 : Nat) (cf : Nat → va_E) : Nat → va_E := va_up (ctX8 b G (K + 23) (K + 24) v1 (va_up (pcX4_2 b G a K v1 cf) (K + 23) (.inr (8, [.null, .int 0, .int 0, .int 0, .null, .null, .null, .null, .null, .null, .null, .null, .null, .null, .int 0])))) K (.inl (G.2 5, 9, .inr (.inr (.inr (.inr (va_up (va_up (va_up (fun _ => none) 0 (some (b + (K + 1)))) 1 (some (b + (K + 12)))) 2 (some (b + (K + 23)))))))))
def pcX4_4 (b : Nat) (G : Gx) (a K v1 : Nat) (cf : Nat → va_E) : Nat → va_E := va_up (ctX8 b G (K + 34) (K + 35) v1 (va_up (pcX4_3 b G a K v1 cf) (K + 34) (.inr (8, [.null, .int 0, .int 0, .int 0, .null, .null, .null, .null, .null, .null, .null, .null, .null, .null, .int 0])))) K (.inl (G.2 5, 9, .inr (.inr (.inr (.inr (va_up (va_up (va_up (va_up (fun _ => none) 0 (some (b + (K + 1)))) 1 (some (b + (K + 12)))) 2 (some (b + (K + 23)))) 3 (some (b + (K + 34)))))))))
def pcX4_5 (b : Nat) (G : Gx) (a K v1 : Nat) (cf : Nat → va_E) : Nat → va_E := va_up (ctX8 b G (K + 45) (K + 46) v1 (va_up (pcX4_4 b G a K v1 cf) (K + 45) (.inr (8, [.null, .int 0, .int 0, .int 0, .null, .null, .null, .null, .null, .null, .null, .null, .null, .null, .int 0])))) K (.inl (G.2 5, 9, .inr (.inr (.inr (.inr (va_up (va_up (va_up (va_up (va_up (fun _ => none) 0 (some (b + (K + 1)))) 1 (some (b + (K + 12)))) 2 (some (b + (K + 23)))) 3 (some (b + (K + 34)))) 4 (some (b + (K + 45)))))))))
def pcX4_6 (b : Nat) (G : Gx) (a K v1 : Nat) (cf : Nat → va_E) : Nat → va_E := va_up (ctX8 b G (K + 56) (K + 57) v1 (va_up (pcX4_5 b G a K v1 cf) (K + 56) (.inr (8, [.null, .int 0, .int 0, .int 0, .null, .null, .null, .null, .null, .null, .null, .null, .null, .null, .int 0])))) K (.inl (G.2 5, 9, .inr (.inr (.inr (.inr (va_up (va_up (va_up (va_up (va_up (va_up (fun _ => none) 0 (some (b + (K + 1)))) 1 (some (b + (K + 12)))) 2 (some (b + (K + 23)))) 3 (some (b + (K + 34)))) 4 (some (b + (K + 45)))) 5 (some (b + (K + 56)))))))))
def pcX4_7 (b : Nat) (G : Gx) (a K v1 : Nat) (cf : Nat → va_E) : Nat → va_E := va_up (ctX8 b G (K + 67) (K + 68) v1 (va_up (pcX4_6 b G a K v1 cf) (K + 67) (.inr (8, [.null, .int 0, .int 0, .int 0, .null, .null, .null, .null, .null, .null, .null, .null, .null, .null, .int 0])))) K (.inl (G.2 5, 9, .inr (.inr (.inr (.inr (va_up (va_up (va_up (va_up (va_up (va_up (va_up (fun _ => none) 0 (some (b + (K + 1)))) 1 (some (b + (K + 12)))) 2 (some (b + (K + 23)))) 3 (some (b + (K + 34)))) 4 (some (b + (K + 45)))) 5 (some (b + (K + 56)))) 6 (some (b + (K + 67)))))))))
def pcX4_8 (b : Nat) (G : Gx) (a K v1 : Nat) (cf : Nat → va_E) : Nat → va_E := va_up (ctX8 b G (K + 78) (K + 79) v1 (va_up (pcX4_7 b G a K v1 cf) (K + 78) (.inr (8, [.null, .int 0, .int 0, .int 0, .null, .null, .null, .null, .null, .null, .null, .null, .null, .null, .int 0])))) K (.inl (G.2 5, 9, .inr (.inr (.inr (.inr (va_up (va_up (va_up (va_up (va_up (va_up (va_up (va_up (fun _ => none) 0 (some (b + (K + 1)))) 1 (some (b + (K + 12)))) 2 (some (b + (K + 23)))) 3 (some (b + (K + 34)))) 4 (some (b + (K + 45)))) 5 (some (b + (K + 56)))) 6 (some (b + (K + 67)))) 7 (some (b + (K + 78)))))))))
def pcX4_9 (b : Nat) (G : Gx) (a K v1 : Nat) (cf : Nat → va_E) : Nat → va_E := va_up (ctX8 b G (K + 89) (K + 90) v1 (va_up (pcX4_8 b G a K v1 cf) (K + 89) (.inr (8, [.null, .int 0, .int 0, .int 0, .null, .null, .null, .null, .null, .null, .null, .null, .null, .null, .int 0])))) K (.inl (G.2 5, 9, .inr (.inr (.inr (.inr (va_up (va_up (va_up (va_up (va_up (va_up (va_up (va_up (va_up (fun _ => none) 0 (some (b + (K + 1)))) 1 (some (b + (K + 12)))) 2 (some (b + (K + 23)))) 3 (some (b + (K + 34)))) 4 (some (b + (K + 45)))) 5 (some (b + (K + 56)))) 6 (some (b + (K + 67)))) 7 (some (b + (K + 78)))) 8 (some (b + (K + 89)))))))))
theorem g_to {X : Cx} {G : Gx} {b nL nc ns K : Nat} {Q : State → Prop} {pc : Nat} {lv : List (Option Value)} {st : List Value} {cf cf' : Nat → va_E} (h : cf = cf') (k : VG X b nL Q (WK G b K cf') nc ns pc lv st) : VG X b nL Q (WK G b K cf) nc ns pc lv st := by rw [h]; exact k
def ctX4 (b : Nat) (G : Gx) (a K v1 : Nat) (cf : Nat → va_E) : Nat → va_E := pcX4_9 b G a K v1 cf
theorem kX4 {l : Launch} {G : Gx} {b d a K v1 : Nat} {cf : Nat → va_E} (ha : a < K) (he : cf a = .inr (4, [.null, .int 0, .int 0])) : MetP l G b yX4_init cX4_init 3 none (d + 2) 100 936 [.ref (b + a), .ref v1] (WS G b K cf) (pV b (WS G b (K + 100) (ctX4 b G a K v1 cf))) := by
  refine metP_start [some (.ref (b + a)), some (.ref v1), none] (by decide +kernel) (Nat.le_of_ble_eq_true rfl) rfl ?_
  intro X hX ok h0 hnm
  have hz : Sz X b 0 K := h0.sz
  refine g_wk ?_
  refine g_aload_n (pc := 0) ok dX4_init_0 rfl ?_
  refine g_oinit (pc := 1) ok om_X4_3 oi_i oi_c (show 1 ≤ d + 2 by omega) (Nat.le_trans (Nat.le_of_ble_eq_true rfl : _ ≤ 60) (show 60 ≤ 60 * (d + 2) by omega)) dX4_init_1 ?_
  refine g_aload_n (pc := 4) ok dX4_init_4 rfl ?_
  refine g_bipush (pc := 5) ok 9 dX4_init_5 (by decide +kernel) ?_
  refine g_newq (pc := 7) (N := 9) ok kl_X4_11 (hz.up 0) (by decide) (by decide +kernel) (Nat.le_of_ble_eq_true rfl) (Nat.le_of_ble_eq_true rfl) (Nat.le_of_ble_eq_true rfl) dX4_init_7 ?_
  refine g_putF (pc := 10) ok hnm (k := 0) cls4 (show a < (K + 1) by omega) (va_upN (show a ≠ K by omega) he) (Nat.le_of_ble_eq_true rfl) cfl_X4_13 rfl rfl rfl rfl (Nat.le_of_ble_eq_true rfl) dX4_init_10 ?_
  refine g_iconst (pc := 13) ok 0 dX4_init_13 (by decide +kernel) ?_
  refine g_istore_n (pc := 14) ok dX4_init_14 (Nat.le_of_ble_eq_true rfl) rfl ?_
  refine g_to (show _ = pcX4_0 b G a K v1 cf from rfl) ?_
  have he0 : pcX4_0 b G a K v1 cf a = .inr (4, [.ref (b + K), .int 0, .int 0]) := va_upS
  have hr0 : pcX4_0 b G a K v1 cf K = .inl (G.2 5, 9, .inr (.inr (.inr (.inr (fun _ => none))))) := va_upN (show K ≠ a by omega) va_upS
  refine g_iload_n (pc := 15) ok dX4_init_15 rfl ?_
  refine g_bipush (pc := 16) ok 9 dX4_init_16 (by decide +kernel) ?_
  refine g_icmp_ge (pc := 18) ok 41 dX4_init_18 rfl (fun h => absurd h (by decide)) (fun _ => ?_)
  refine g_aload_n (pc := 21) ok dX4_init_21 rfl ?_
  refine g_get (pc := 22) (k := 0) ok cls4 (show a < (K + 1) by omega) he0 (Nat.le_of_ble_eq_true rfl) cfl_X4_13 rfl dX4_init_22 ?_
  refine g_iload_n (pc := 25) ok dX4_init_25 rfl ?_
  refine g_new (pc := 26) ok cls8 kl_X4_11 in_X8 ii_X8 (hz.up 1) df_X8 (Nat.le_of_ble_eq_true rfl) (Nat.le_of_ble_eq_true rfl) dX4_init_26 ?_
  refine g_dup (pc := 29) ok dX4_init_29 rfl ?_
  refine g_aload_n (pc := 30) ok dX4_init_30 rfl ?_
  refine g_ws (hz.up 2) ?_
  refine g_kV (pc := 31) (g_cI (dy := d + 1) (mc := 10) (ms := 88) (a := b + (K + 1)) (As := [.ref v1]) ok il_X4_17 wi_X8_init yi_X8_init rfl (Nat.le_refl _) (show 8 + (2 + 11) + 60 * (d + 1) ≤ 60 * (d + 2) by omega) (Nat.le_of_ble_eq_true rfl) (Nat.le_of_ble_eq_true rfl) (kX8 (K := (K + 2)) (show (K + 1) < (K + 2) by omega) va_upS) rfl (Nat.le_of_ble_eq_true rfl) dX4_init_31) ?_
  refine g_wk ?_
  refine g_astq (pc := 34) ok (show K < (K + 12) by omega) ((ctX8_ne (show K < (K + 2) by omega) (show K ≠ (K + 1) by omega)).trans (va_upN (show K ≠ (K + 1) by omega) hr0)) (show (K + 1) < (K + 12) by omega) ctX8_a (by unfold vp_in; decide) dX4_init_34 ?_
  refine g_to (show _ = pcX4_1 b G a K v1 cf from rfl) ?_
  have he1 : pcX4_1 b G a K v1 cf a = .inr (4, [.ref (b + K), .int 0, .int 0]) := va_upN (show a ≠ K by omega) ((ctX8_ne (show a < (K + 2) by omega) (show a ≠ (K + 1) by omega)).trans (va_upN (show a ≠ (K + 1) by omega) he0))
  have hr1 : pcX4_1 b G a K v1 cf K = .inl (G.2 5, 9, .inr (.inr (.inr (.inr (va_up (fun _ => none) 0 (some (b + (K + 1)))))))) := va_upS
  refine g_iinc (pc := 35) ok 1 dX4_init_35 (by decide +kernel) rfl (Nat.le_of_ble_eq_true rfl) rfl ?_
  refine g_goto (pc := 38) ok 15 dX4_init_38 rfl ?_
  refine g_iload_n (pc := 15) ok dX4_init_15 rfl ?_
  refine g_bipush (pc := 16) ok 9 dX4_init_16 (by decide +kernel) ?_
  refine g_icmp_ge (pc := 18) ok 41 dX4_init_18 rfl (fun h => absurd h (by decide)) (fun _ => ?_)
  refine g_aload_n (pc := 21) ok dX4_init_21 rfl ?_
  refine g_get (pc := 22) (k := 0) ok cls4 (show a < (K + 12) by omega) he1 (Nat.le_of_ble_eq_true rfl) cfl_X4_13 rfl dX4_init_22 ?_
  refine g_iload_n (pc := 25) ok dX4_init_25 rfl ?_
  refine g_new (pc := 26) ok cls8 kl_X4_11 in_X8 ii_X8 (hz.up 12) df_X8 (Nat.le_of_ble_eq_true rfl) (Nat.le_of_ble_eq_true rfl) dX4_init_26 ?_
  refine g_dup (pc := 29) ok dX4_init_29 rfl ?_
  refine g_aload_n (pc := 30) ok dX4_init_30 rfl ?_
  refine g_ws (hz.up 13) ?_
  refine g_kV (pc := 31) (g_cI (dy := d + 1) (mc := 10) (ms := 88) (a := b + (K + 12)) (As := [.ref v1]) ok il_X4_17 wi_X8_init yi_X8_init rfl (Nat.le_refl _) (show 8 + (2 + 11) + 60 * (d + 1) ≤ 60 * (d + 2) by omega) (Nat.le_of_ble_eq_true rfl) (Nat.le_of_ble_eq_true rfl) (kX8 (K := (K + 13)) (show (K + 12) < (K + 13) by omega) va_upS) rfl (Nat.le_of_ble_eq_true rfl) dX4_init_31) ?_
  refine g_wk ?_
  refine g_astq (pc := 34) ok (show K < (K + 23) by omega) ((ctX8_ne (show K < (K + 13) by omega) (show K ≠ (K + 12) by omega)).trans (va_upN (show K ≠ (K + 12) by omega) hr1)) (show (K + 12) < (K + 23) by omega) ctX8_a (by unfold vp_in; decide) dX4_init_34 ?_
  refine g_to (show _ = pcX4_2 b G a K v1 cf from rfl) ?_
  have he2 : pcX4_2 b G a K v1 cf a = .inr (4, [.ref (b + K), .int 0, .int 0]) := va_upN (show a ≠ K by omega) ((ctX8_ne (show a < (K + 13) by omega) (show a ≠ (K + 12) by omega)).trans (va_upN (show a ≠ (K + 12) by omega) he1))
  have hr2 : pcX4_2 b G a K v1 cf K = .inl (G.2 5, 9, .inr (.inr (.inr (.inr (va_up (va_up (fun _ => none) 0 (some (b + (K + 1)))) 1 (some (b + (K + 12)))))))) := va_upS
  refine g_iinc (pc := 35) ok 1 dX4_init_35 (by decide +kernel) rfl (Nat.le_of_ble_eq_true rfl) rfl ?_
  refine g_goto (pc := 38) ok 15 dX4_init_38 rfl ?_
  refine g_iload_n (pc := 15) ok dX4_init_15 rfl ?_
  refine g_bipush (pc := 16) ok 9 dX4_init_16 (by decide +kernel) ?_
  refine g_icmp_ge (pc := 18) ok 41 dX4_init_18 rfl (fun h => absurd h (by decide)) (fun _ => ?_)
  refine g_aload_n (pc := 21) ok dX4_init_21 rfl ?_
  refine g_get (pc := 22) (k := 0) ok cls4 (show a < (K + 23) by omega) he2 (Nat.le_of_ble_eq_true rfl) cfl_X4_13 rfl dX4_init_22 ?_
  refine g_iload_n (pc := 25) ok dX4_init_25 rfl ?_
  refine g_new (pc := 26) ok cls8 kl_X4_11 in_X8 ii_X8 (hz.up 23) df_X8 (Nat.le_of_ble_eq_true rfl) (Nat.le_of_ble_eq_true rfl) dX4_init_26 ?_
  refine g_dup (pc := 29) ok dX4_init_29 rfl ?_
  refine g_aload_n (pc := 30) ok dX4_init_30 rfl ?_
  refine g_ws (hz.up 24) ?_
  refine g_kV (pc := 31) (g_cI (dy := d + 1) (mc := 10) (ms := 88) (a := b + (K + 23)) (As := [.ref v1]) ok il_X4_17 wi_X8_init yi_X8_init rfl (Nat.le_refl _) (show 8 + (2 + 11) + 60 * (d + 1) ≤ 60 * (d + 2) by omega) (Nat.le_of_ble_eq_true rfl) (Nat.le_of_ble_eq_true rfl) (kX8 (K := (K + 24)) (show (K + 23) < (K + 24) by omega) va_upS) rfl (Nat.le_of_ble_eq_true rfl) dX4_init_31) ?_
  refine g_wk ?_
  refine g_astq (pc := 34) ok (show K < (K + 34) by omega) ((ctX8_ne (show K < (K + 24) by omega) (show K ≠ (K + 23) by omega)).trans (va_upN (show K ≠ (K + 23) by omega) hr2)) (show (K + 23) < (K + 34) by omega) ctX8_a (by unfold vp_in; decide) dX4_init_34 ?_
  refine g_to (show _ = pcX4_3 b G a K v1 cf from rfl) ?_
  have he3 : pcX4_3 b G a K v1 cf a = .inr (4, [.ref (b + K), .int 0, .int 0]) := va_upN (show a ≠ K by omega) ((ctX8_ne (show a < (K + 24) by omega) (show a ≠ (K + 23) by omega)).trans (va_upN (show a ≠ (K + 23) by omega) he2))
  have hr3 : pcX4_3 b G a K v1 cf K = .inl (G.2 5, 9, .inr (.inr (.inr (.inr (va_up (va_up (va_up (fun _ => none) 0 (some (b + (K + 1)))) 1 (some (b + (K + 12)))) 2 (some (b + (K + 23)))))))) := va_upS
  refine g_iinc (pc := 35) ok 1 dX4_init_35 (by decide +kernel) rfl (Nat.le_of_ble_eq_true rfl) rfl ?_
  refine g_goto (pc := 38) ok 15 dX4_init_38 rfl ?_
  refine g_iload_n (pc := 15) ok dX4_init_15 rfl ?_
  refine g_bipush (pc := 16) ok 9 dX4_init_16 (by decide +kernel) ?_
  refine g_icmp_ge (pc := 18) ok 41 dX4_init_18 rfl (fun h => absurd h (by decide)) (fun _ => ?_)
  refine g_aload_n (pc := 21) ok dX4_init_21 rfl ?_
  refine g_get (pc := 22) (k := 0) ok cls4 (show a < (K + 34) by omega) he3 (Nat.le_of_ble_eq_true rfl) cfl_X4_13 rfl dX4_init_22 ?_
  refine g_iload_n (pc := 25) ok dX4_init_25 rfl ?_
  refine g_new (pc := 26) ok cls8 kl_X4_11 in_X8 ii_X8 (hz.up 34) df_X8 (Nat.le_of_ble_eq_true rfl) (Nat.le_of_ble_eq_true rfl) dX4_init_26 ?_
  refine g_dup (pc := 29) ok dX4_init_29 rfl ?_
  refine g_aload_n (pc := 30) ok dX4_init_30 rfl ?_
  refine g_ws (hz.up 35) ?_
  refine g_kV (pc := 31) (g_cI (dy := d + 1) (mc := 10) (ms := 88) (a := b + (K + 34)) (As := [.ref v1]) ok il_X4_17 wi_X8_init yi_X8_init rfl (Nat.le_refl _) (show 8 + (2 + 11) + 60 * (d + 1) ≤ 60 * (d + 2) by omega) (Nat.le_of_ble_eq_true rfl) (Nat.le_of_ble_eq_true rfl) (kX8 (K := (K + 35)) (show (K + 34) < (K + 35) by omega) va_upS) rfl (Nat.le_of_ble_eq_true rfl) dX4_init_31) ?_
  refine g_wk ?_
  refine g_astq (pc := 34) ok (show K < (K + 45) by omega) ((ctX8_ne (show K < (K + 35) by omega) (show K ≠ (K + 34) by omega)).trans (va_upN (show K ≠ (K + 34) by omega) hr3)) (show (K + 34) < (K + 45) by omega) ctX8_a (by unfold vp_in; decide) dX4_init_34 ?_
  refine g_to (show _ = pcX4_4 b G a K v1 cf from rfl) ?_
  have he4 : pcX4_4 b G a K v1 cf a = .inr (4, [.ref (b + K), .int 0, .int 0]) := va_upN (show a ≠ K by omega) ((ctX8_ne (show a < (K + 35) by omega) (show a ≠ (K + 34) by omega)).trans (va_upN (show a ≠ (K + 34) by omega) he3))
  have hr4 : pcX4_4 b G a K v1 cf K = .inl (G.2 5, 9, .inr (.inr (.inr (.inr (va_up (va_up (va_up (va_up (fun _ => none) 0 (some (b + (K + 1)))) 1 (some (b + (K + 12)))) 2 (some (b + (K + 23)))) 3 (some (b + (K + 34)))))))) := va_upS
  refine g_iinc (pc := 35) ok 1 dX4_init_35 (by decide +kernel) rfl (Nat.le_of_ble_eq_true rfl) rfl ?_
  refine g_goto (pc := 38) ok 15 dX4_init_38 rfl ?_
  refine g_iload_n (pc := 15) ok dX4_init_15 rfl ?_
  refine g_bipush (pc := 16) ok 9 dX4_init_16 (by decide +kernel) ?_
  refine g_icmp_ge (pc := 18) ok 41 dX4_init_18 rfl (fun h => absurd h (by decide)) (fun _ => ?_)
  refine g_aload_n (pc := 21) ok dX4_init_21 rfl ?_
  refine g_get (pc := 22) (k := 0) ok cls4 (show a < (K + 45) by omega) he4 (Nat.le_of_ble_eq_true rfl) cfl_X4_13 rfl dX4_init_22 ?_
  refine g_iload_n (pc := 25) ok dX4_init_25 rfl ?_
  refine g_new (pc := 26) ok cls8 kl_X4_11 in_X8 ii_X8 (hz.up 45) df_X8 (Nat.le_of_ble_eq_true rfl) (Nat.le_of_ble_eq_true rfl) dX4_init_26 ?_
  refine g_dup (pc := 29) ok dX4_init_29 rfl ?_
  refine g_aload_n (pc := 30) ok dX4_init_30 rfl ?_
  refine g_ws (hz.up 46) ?_
  refine g_kV (pc := 31) (g_cI (dy := d + 1) (mc := 10) (ms := 88) (a := b + (K + 45)) (As := [.ref v1]) ok il_X4_17 wi_X8_init yi_X8_init rfl (Nat.le_refl _) (show 8 + (2 + 11) + 60 * (d + 1) ≤ 60 * (d + 2) by omega) (Nat.le_of_ble_eq_true rfl) (Nat.le_of_ble_eq_true rfl) (kX8 (K := (K + 46)) (show (K + 45) < (K + 46) by omega) va_upS) rfl (Nat.le_of_ble_eq_true rfl) dX4_init_31) ?_
  refine g_wk ?_
  refine g_astq (pc := 34) ok (show K < (K + 56) by omega) ((ctX8_ne (show K < (K + 46) by omega) (show K ≠ (K + 45) by omega)).trans (va_upN (show K ≠ (K + 45) by omega) hr4)) (show (K + 45) < (K + 56) by omega) ctX8_a (by unfold vp_in; decide) dX4_init_34 ?_
  refine g_to (show _ = pcX4_5 b G a K v1 cf from rfl) ?_
  have he5 : pcX4_5 b G a K v1 cf a = .inr (4, [.ref (b + K), .int 0, .int 0]) := va_upN (show a ≠ K by omega) ((ctX8_ne (show a < (K + 46) by omega) (show a ≠ (K + 45) by omega)).trans (va_upN (show a ≠ (K + 45) by omega) he4))
  have hr5 : pcX4_5 b G a K v1 cf K = .inl (G.2 5, 9, .inr (.inr (.inr (.inr (va_up (va_up (va_up (va_up (va_up (fun _ => none) 0 (some (b + (K + 1)))) 1 (some (b + (K + 12)))) 2 (some (b + (K + 23)))) 3 (some (b + (K + 34)))) 4 (some (b + (K + 45)))))))) := va_upS
  refine g_iinc (pc := 35) ok 1 dX4_init_35 (by decide +kernel) rfl (Nat.le_of_ble_eq_true rfl) rfl ?_
  refine g_goto (pc := 38) ok 15 dX4_init_38 rfl ?_
  refine g_iload_n (pc := 15) ok dX4_init_15 rfl ?_
  refine g_bipush (pc := 16) ok 9 dX4_init_16 (by decide +kernel) ?_
  refine g_icmp_ge (pc := 18) ok 41 dX4_init_18 rfl (fun h => absurd h (by decide)) (fun _ => ?_)
  refine g_aload_n (pc := 21) ok dX4_init_21 rfl ?_
  refine g_get (pc := 22) (k := 0) ok cls4 (show a < (K + 56) by omega) he5 (Nat.le_of_ble_eq_true rfl) cfl_X4_13 rfl dX4_init_22 ?_
  refine g_iload_n (pc := 25) ok dX4_init_25 rfl ?_
  refine g_new (pc := 26) ok cls8 kl_X4_11 in_X8 ii_X8 (hz.up 56) df_X8 (Nat.le_of_ble_eq_true rfl) (Nat.le_of_ble_eq_true rfl) dX4_init_26 ?_
  refine g_dup (pc := 29) ok dX4_init_29 rfl ?_
  refine g_aload_n (pc := 30) ok dX4_init_30 rfl ?_
  refine g_ws (hz.up 57) ?_
  refine g_kV (pc := 31) (g_cI (dy := d + 1) (mc := 10) (ms := 88) (a := b + (K + 56)) (As := [.ref v1]) ok il_X4_17 wi_X8_init yi_X8_init rfl (Nat.le_refl _) (show 8 + (2 + 11) + 60 * (d + 1) ≤ 60 * (d + 2) by omega) (Nat.le_of_ble_eq_true rfl) (Nat.le_of_ble_eq_true rfl) (kX8 (K := (K + 57)) (show (K + 56) < (K + 57) by omega) va_upS) rfl (Nat.le_of_ble_eq_true rfl) dX4_init_31) ?_
  refine g_wk ?_
  refine g_astq (pc := 34) ok (show K < (K + 67) by omega) ((ctX8_ne (show K < (K + 57) by omega) (show K ≠ (K + 56) by omega)).trans (va_upN (show K ≠ (K + 56) by omega) hr5)) (show (K + 56) < (K + 67) by omega) ctX8_a (by unfold vp_in; decide) dX4_init_34 ?_
  refine g_to (show _ = pcX4_6 b G a K v1 cf from rfl) ?_
  have he6 : pcX4_6 b G a K v1 cf a = .inr (4, [.ref (b + K), .int 0, .int 0]) := va_upN (show a ≠ K by omega) ((ctX8_ne (show a < (K + 57) by omega) (show a ≠ (K + 56) by omega)).trans (va_upN (show a ≠ (K + 56) by omega) he5))
  have hr6 : pcX4_6 b G a K v1 cf K = .inl (G.2 5, 9, .inr (.inr (.inr (.inr (va_up (va_up (va_up (va_up (va_up (va_up (fun _ => none) 0 (some (b + (K + 1)))) 1 (some (b + (K + 12)))) 2 (some (b + (K + 23)))) 3 (some (b + (K + 34)))) 4 (some (b + (K + 45)))) 5 (some (b + (K + 56)))))))) := va_upS
  refine g_iinc (pc := 35) ok 1 dX4_init_35 (by decide +kernel) rfl (Nat.le_of_ble_eq_true rfl) rfl ?_
  refine g_goto (pc := 38) ok 15 dX4_init_38 rfl ?_
  refine g_iload_n (pc := 15) ok dX4_init_15 rfl ?_
  refine g_bipush (pc := 16) ok 9 dX4_init_16 (by decide +kernel) ?_
  refine g_icmp_ge (pc := 18) ok 41 dX4_init_18 rfl (fun h => absurd h (by decide)) (fun _ => ?_)
  refine g_aload_n (pc := 21) ok dX4_init_21 rfl ?_
  refine g_get (pc := 22) (k := 0) ok cls4 (show a < (K + 67) by omega) he6 (Nat.le_of_ble_eq_true rfl) cfl_X4_13 rfl dX4_init_22 ?_
  refine g_iload_n (pc := 25) ok dX4_init_25 rfl ?_
  refine g_new (pc := 26) ok cls8 kl_X4_11 in_X8 ii_X8 (hz.up 67) df_X8 (Nat.le_of_ble_eq_true rfl) (Nat.le_of_ble_eq_true rfl) dX4_init_26 ?_
  refine g_dup (pc := 29) ok dX4_init_29 rfl ?_
  refine g_aload_n (pc := 30) ok dX4_init_30 rfl ?_
  refine g_ws (hz.up 68) ?_
  refine g_kV (pc := 31) (g_cI (dy := d + 1) (mc := 10) (ms := 88) (a := b + (K + 67)) (As := [.ref v1]) ok il_X4_17 wi_X8_init yi_X8_init rfl (Nat.le_refl _) (show 8 + (2 + 11) + 60 * (d + 1) ≤ 60 * (d + 2) by omega) (Nat.le_of_ble_eq_true rfl) (Nat.le_of_ble_eq_true rfl) (kX8 (K := (K + 68)) (show (K + 67) < (K + 68) by omega) va_upS) rfl (Nat.le_of_ble_eq_true rfl) dX4_init_31) ?_
  refine g_wk ?_
  refine g_astq (pc := 34) ok (show K < (K + 78) by omega) ((ctX8_ne (show K < (K + 68) by omega) (show K ≠ (K + 67) by omega)).trans (va_upN (show K ≠ (K + 67) by omega) hr6)) (show (K + 67) < (K + 78) by omega) ctX8_a (by unfold vp_in; decide) dX4_init_34 ?_
  refine g_to (show _ = pcX4_7 b G a K v1 cf from rfl) ?_
  have he7 : pcX4_7 b G a K v1 cf a = .inr (4, [.ref (b + K), .int 0, .int 0]) := va_upN (show a ≠ K by omega) ((ctX8_ne (show a < (K + 68) by omega) (show a ≠ (K + 67) by omega)).trans (va_upN (show a ≠ (K + 67) by omega) he6))
  have hr7 : pcX4_7 b G a K v1 cf K = .inl (G.2 5, 9, .inr (.inr (.inr (.inr (va_up (va_up (va_up (va_up (va_up (va_up (va_up (fun _ => none) 0 (some (b + (K + 1)))) 1 (some (b + (K + 12)))) 2 (some (b + (K + 23)))) 3 (some (b + (K + 34)))) 4 (some (b + (K + 45)))) 5 (some (b + (K + 56)))) 6 (some (b + (K + 67)))))))) := va_upS
  refine g_iinc (pc := 35) ok 1 dX4_init_35 (by decide +kernel) rfl (Nat.le_of_ble_eq_true rfl) rfl ?_
  refine g_goto (pc := 38) ok 15 dX4_init_38 rfl ?_
  refine g_iload_n (pc := 15) ok dX4_init_15 rfl ?_
  refine g_bipush (pc := 16) ok 9 dX4_init_16 (by decide +kernel) ?_
  refine g_icmp_ge (pc := 18) ok 41 dX4_init_18 rfl (fun h => absurd h (by decide)) (fun _ => ?_)
  refine g_aload_n (pc := 21) ok dX4_init_21 rfl ?_
  refine g_get (pc := 22) (k := 0) ok cls4 (show a < (K + 78) by omega) he7 (Nat.le_of_ble_eq_true rfl) cfl_X4_13 rfl dX4_init_22 ?_
  refine g_iload_n (pc := 25) ok dX4_init_25 rfl ?_
  refine g_new (pc := 26) ok cls8 kl_X4_11 in_X8 ii_X8 (hz.up 78) df_X8 (Nat.le_of_ble_eq_true rfl) (Nat.le_of_ble_eq_true rfl) dX4_init_26 ?_
  refine g_dup (pc := 29) ok dX4_init_29 rfl ?_
  refine g_aload_n (pc := 30) ok dX4_init_30 rfl ?_
  refine g_ws (hz.up 79) ?_
  refine g_kV (pc := 31) (g_cI (dy := d + 1) (mc := 10) (ms := 88) (a := b + (K + 78)) (As := [.ref v1]) ok il_X4_17 wi_X8_init yi_X8_init rfl (Nat.le_refl _) (show 8 + (2 + 11) + 60 * (d + 1) ≤ 60 * (d + 2) by omega) (Nat.le_of_ble_eq_true rfl) (Nat.le_of_ble_eq_true rfl) (kX8 (K := (K + 79)) (show (K + 78) < (K + 79) by omega) va_upS) rfl (Nat.le_of_ble_eq_true rfl) dX4_init_31) ?_
  refine g_wk ?_
  refine g_astq (pc := 34) ok (show K < (K + 89) by omega) ((ctX8_ne (show K < (K + 79) by omega) (show K ≠ (K + 78) by omega)).trans (va_upN (show K ≠ (K + 78) by omega) hr7)) (show (K + 78) < (K + 89) by omega) ctX8_a (by unfold vp_in; decide) dX4_init_34 ?_
  refine g_to (show _ = pcX4_8 b G a K v1 cf from rfl) ?_
  have he8 : pcX4_8 b G a K v1 cf a = .inr (4, [.ref (b + K), .int 0, .int 0]) := va_upN (show a ≠ K by omega) ((ctX8_ne (show a < (K + 79) by omega) (show a ≠ (K + 78) by omega)).trans (va_upN (show a ≠ (K + 78) by omega) he7))
  have hr8 : pcX4_8 b G a K v1 cf K = .inl (G.2 5, 9, .inr (.inr (.inr (.inr (va_up (va_up (va_up (va_up (va_up (va_up (va_up (va_up (fun _ => none) 0 (some (b + (K + 1)))) 1 (some (b + (K + 12)))) 2 (some (b + (K + 23)))) 3 (some (b + (K + 34)))) 4 (some (b + (K + 45)))) 5 (some (b + (K + 56)))) 6 (some (b + (K + 67)))) 7 (some (b + (K + 78)))))))) := va_upS
  refine g_iinc (pc := 35) ok 1 dX4_init_35 (by decide +kernel) rfl (Nat.le_of_ble_eq_true rfl) rfl ?_
  refine g_goto (pc := 38) ok 15 dX4_init_38 rfl ?_
  refine g_iload_n (pc := 15) ok dX4_init_15 rfl ?_
  refine g_bipush (pc := 16) ok 9 dX4_init_16 (by decide +kernel) ?_
  refine g_icmp_ge (pc := 18) ok 41 dX4_init_18 rfl (fun h => absurd h (by decide)) (fun _ => ?_)
  refine g_aload_n (pc := 21) ok dX4_init_21 rfl ?_
  refine g_get (pc := 22) (k := 0) ok cls4 (show a < (K + 89) by omega) he8 (Nat.le_of_ble_eq_true rfl) cfl_X4_13 rfl dX4_init_22 ?_
  refine g_iload_n (pc := 25) ok dX4_init_25 rfl ?_
  refine g_new (pc := 26) ok cls8 kl_X4_11 in_X8 ii_X8 (hz.up 89) df_X8 (Nat.le_of_ble_eq_true rfl) (Nat.le_of_ble_eq_true rfl) dX4_init_26 ?_
  refine g_dup (pc := 29) ok dX4_init_29 rfl ?_
  refine g_aload_n (pc := 30) ok dX4_init_30 rfl ?_
  refine g_ws (hz.up 90) ?_
  refine g_kV (pc := 31) (g_cI (dy := d + 1) (mc := 10) (ms := 88) (a := b + (K + 89)) (As := [.ref v1]) ok il_X4_17 wi_X8_init yi_X8_init rfl (Nat.le_refl _) (show 8 + (2 + 11) + 60 * (d + 1) ≤ 60 * (d + 2) by omega) (Nat.le_of_ble_eq_true rfl) (Nat.le_of_ble_eq_true rfl) (kX8 (K := (K + 90)) (show (K + 89) < (K + 90) by omega) va_upS) rfl (Nat.le_of_ble_eq_true rfl) dX4_init_31) ?_
  refine g_wk ?_
  refine g_astq (pc := 34) ok (show K < (K + 100) by omega) ((ctX8_ne (show K < (K + 90) by omega) (show K ≠ (K + 89) by omega)).trans (va_upN (show K ≠ (K + 89) by omega) hr8)) (show (K + 89) < (K + 100) by omega) ctX8_a (by unfold vp_in; decide) dX4_init_34 ?_
  refine g_to (show _ = pcX4_9 b G a K v1 cf from rfl) ?_
  have he9 : pcX4_9 b G a K v1 cf a = .inr (4, [.ref (b + K), .int 0, .int 0]) := va_upN (show a ≠ K by omega) ((ctX8_ne (show a < (K + 90) by omega) (show a ≠ (K + 89) by omega)).trans (va_upN (show a ≠ (K + 89) by omega) he8))
  have hr9 : pcX4_9 b G a K v1 cf K = .inl (G.2 5, 9, .inr (.inr (.inr (.inr (va_up (va_up (va_up (va_up (va_up (va_up (va_up (va_up (va_up (fun _ => none) 0 (some (b + (K + 1)))) 1 (some (b + (K + 12)))) 2 (some (b + (K + 23)))) 3 (some (b + (K + 34)))) 4 (some (b + (K + 45)))) 5 (some (b + (K + 56)))) 6 (some (b + (K + 67)))) 7 (some (b + (K + 78)))) 8 (some (b + (K + 89)))))))) := va_upS
  refine g_iinc (pc := 35) ok 1 dX4_init_35 (by decide +kernel) rfl (Nat.le_of_ble_eq_true rfl) rfl ?_
  refine g_goto (pc := 38) ok 15 dX4_init_38 rfl ?_
  refine g_iload_n (pc := 15) ok dX4_init_15 rfl ?_
  refine g_bipush (pc := 16) ok 9 dX4_init_16 (by decide +kernel) ?_
  refine g_icmp_ge (pc := 18) ok 41 dX4_init_18 rfl (fun _ => ?_) (fun h => absurd (by decide) h)
  refine g_ws (hz.up 100) ?_
  exact g_vret (pc := 41) ok dX4_init_41 (fun _ h => h)
