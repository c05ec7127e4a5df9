set_option maxRecDepth 20000
theorem oi_i : Cond.instanceMethod Lib.objectInit ∈ Tg := tg 147 (by decide +kernel) (by decide +kernel)
theorem oi_c : Cond.code Lib.objectInit ⟨#[177]⟩ 1 none ∈ Tg := tg 148 rfl rfl
theorem ac_I : Cond.arrayClass .int ∈ Tg := tg 320 (by decide +kernel) (by decide +kernel)
theorem ac_B : Cond.arrayClass .byte ∈ Tg := tg 257 (by decide +kernel) (by decide +kernel)
theorem ac_Z : Cond.arrayClass .boolean ∈ Tg := tg 530 (by decide +kernel) (by decide +kernel)
theorem ac_J : Cond.arrayClass .long ∈ Tg := tg 256 (by decide +kernel) (by decide +kernel)
theorem va_upS {α : Type} {A : Nat → α} {i : Nat} {v : α} : va_up A i v i = v := by rw [va_up_self]
theorem va_upN {α : Type} {A : Nat → α} {i q : Nat} {v w : α} (h : q ≠ i) (e : A q = w) : va_up A i v q = w := by rw [va_up_ne _ _ h]; exact e
theorem g_newaI' {X : Cx} {G : Gx} {b nL nc ns K : Nat} {Q : State → Prop} {R : Room} {pc : Nat} {lv : List (Option Value)} {st : List Value} {cc : ByteArray} {own : String} {ret : Option FieldType} {cf : Nat → va_E} (ok : OKg X G b cc nL own ret R) {N : Nat} {n : Int32} (h0 : Sz X b nc K) (hn : ¬ n < 0) (hN : n.toNatClampNeg = N) (hby : N * componentBytes .int ≤ 536870912) (hcc : nc + 1 ≤ R.cells) (hss : ns + N ≤ R.slots) (hd : decode cc pc = .ok (.newarray .int, 2)) (k : VG X b nL Q (WK G b (K + 1) (va_up cf K (.inl (G.2 2, N, .inl (fun _ => 0))))) (nc + 1) (ns + N) (pc + 2) lv (.ref (b + K) :: st)) : VG X b nL Q (WK G b K cf) nc ns pc lv (.int n :: st) := g_newaI (t := 1) (atype := .int) ok rfl (fun h => h) rfl ac_I h0 hn hN hby hcc hss hd k
theorem g_newaB' {X : Cx} {G : Gx} {b nL nc ns K : Nat} {Q : State → Prop} {R : Room} {pc : Nat} {lv : List (Option Value)} {st : List Value} {cc : ByteArray} {own : String} {ret : Option FieldType} {cf : Nat → va_E} (ok : OKg X G b cc nL own ret R) {N : Nat} {n : Int32} (h0 : Sz X b nc K) (hn : ¬ n < 0) (hN : n.toNatClampNeg = N) (hby : N * componentBytes .byte ≤ 536870912) (hcc : nc + 1 ≤ R.cells) (hss : ns + N ≤ R.slots) (hd : decode cc pc = .ok (.newarray .byte, 2)) (k : VG X b nL Q (WK G b (K + 1) (va_up cf K (.inl (G.2 1, N, .inl (fun _ => 0))))) (nc + 1) (ns + N) (pc + 2) lv (.ref (b + K) :: st)) : VG X b nL Q (WK G b K cf) nc ns pc lv (.int n :: st) := g_newaI (t := 0) (atype := .byte) ok rfl (fun h => h) rfl ac_B h0 hn hN hby hcc hss hd k
theorem g_newaZ' {X : Cx} {G : Gx} {b nL nc ns K : Nat} {Q : State → Prop} {R : Room} {pc : Nat} {lv : List (Option Value)} {st : List Value} {cc : ByteArray} {own : String} {ret : Option FieldType} {cf : Nat → va_E} (ok : OKg X G b cc nL own ret R) {N : Nat} {n : Int32} (h0 : Sz X b nc K) (hn : ¬ n < 0) (hN : n.toNatClampNeg = N) (hby : N * componentBytes .boolean ≤ 536870912) (hcc : nc + 1 ≤ R.cells) (hss : ns + N ≤ R.slots) (hd : decode cc pc = .ok (.newarray .boolean, 2)) (k : VG X b nL Q (WK G b (K + 1) (va_up cf K (.inl (G.2 4, N, .inl (fun _ => 0))))) (nc + 1) (ns + N) (pc + 2) lv (.ref (b + K) :: st)) : VG X b nL Q (WK G b K cf) nc ns pc lv (.int n :: st) := g_newaI (t := 3) (atype := .boolean) ok rfl (fun h => h) rfl ac_Z h0 hn hN hby hcc hss hd k
theorem in_X0 : Cond.instantiable RX0 11 ∈ Tg := tg 476 (by decide +kernel) (by decide +kernel)
theorem ii_X0 : Cond.initialized RX0 ∈ Tg := tg 129 (by decide +kernel) (by decide +kernel)
theorem df_X0 : ∀ j, j < 11 → defaultValue (tyX0 j) = vp_V [.int 0, .int 0, .null, .null, .null, .null, .null, .int 0, .int 0, .int 0, .int 0] j := by
  intro j hj
  rcases (show j = 0 ∨ j = 1 ∨ j = 2 ∨ j = 3 ∨ j = 4 ∨ j = 5 ∨ j = 6 ∨ j = 7 ∨ j = 8 ∨ j = 9 ∨ j = 10 by omega) with rfl | rfl | rfl | rfl | rfl | rfl | rfl | rfl | rfl | rfl | rfl <;> rfl
theorem in_X1 : Cond.instantiable RX1 3 ∈ Tg := tg 532 (by decide +kernel) (by decide +kernel)
theorem ii_X1 : Cond.initialized RX1 ∈ Tg := tg 131 (by decide +kernel) (by decide +kernel)
theorem df_X1 : ∀ j, j < 3 → defaultValue (tyX1 j) = vp_V [.null, .null, .int 0] j := by
  intro j hj
  rcases (show j = 0 ∨ j = 1 ∨ j = 2 by omega) with rfl | rfl | rfl <;> rfl
theorem in_X2 : Cond.instantiable RX2 3 ∈ Tg := tg 548 (by decide +kernel) (by decide +kernel)
theorem ii_X2 : Cond.initialized RX2 ∈ Tg := tg 132 (by decide +kernel) (by decide +kernel)
theorem df_X2 : ∀ j, j < 3 → defaultValue (tyX2 j) = vp_V [.int 0, .null, .null] j := by
  intro j hj
  rcases (show j = 0 ∨ j = 1 ∨ j = 2 by omega) with rfl | rfl | rfl <;> rfl
theorem in_X3 : Cond.instantiable RX3 2 ∈ Tg := tg 518 (by decide +kernel) (by decide +kernel)
theorem ii_X3 : Cond.initialized RX3 ∈ Tg := tg 130 (by decide +kernel) (by decide +kernel)
theorem df_X3 : ∀ j, j < 2 → defaultValue (tyX3 j) = vp_V [.null, .null] j := by
  intro j hj
  rcases (show j = 0 ∨ j = 1 by omega) with rfl | rfl <;> rfl
theorem in_X4 : Cond.instantiable RX4 3 ∈ Tg := tg 430 (by decide +kernel) (by decide +kernel)
theorem ii_X4 : Cond.initialized RX4 ∈ Tg := tg 127 (by decide +kernel) (by decide +kernel)
theorem df_X4 : ∀ j, j < 3 → defaultValue (tyX4 j) = vp_V [.null, .int 0, .int 0] j := by
  intro j hj
  rcases (show j = 0 ∨ j = 1 ∨ j = 2 by omega) with rfl | rfl | rfl <;> rfl
theorem in_X5 : Cond.instantiable RX5 11 ∈ Tg := tg 265 (by decide +kernel) (by decide +kernel)
theorem ii_X5 : Cond.initialized RX5 ∈ Tg := tg 124 (by decide +kernel) (by decide +kernel)
theorem df_X5 : ∀ j, j < 11 → defaultValue (tyX5 j) = vp_V [.int 0, .int 0, .int 0, .int 0, .int 0, .null, .null, .null, .null, .null, .null] j := by
  intro j hj
  rcases (show j = 0 ∨ j = 1 ∨ j = 2 ∨ j = 3 ∨ j = 4 ∨ j = 5 ∨ j = 6 ∨ j = 7 ∨ j = 8 ∨ j = 9 ∨ j = 10 by omega) with rfl | rfl | rfl | rfl | rfl | rfl | rfl | rfl | rfl | rfl | rfl <;> rfl
theorem in_X6 : Cond.instantiable RX6 6 ∈ Tg := tg 451 (by decide +kernel) (by decide +kernel)
theorem ii_X6 : Cond.initialized RX6 ∈ Tg := tg 128 (by decide +kernel) (by decide +kernel)
theorem df_X6 : ∀ j, j < 6 → defaultValue (tyX6 j) = vp_V [.null, .null, .null, .int 0, .int 0, .int 0] j := by
  intro j hj
  rcases (show j = 0 ∨ j = 1 ∨ j = 2 ∨ j = 3 ∨ j = 4 ∨ j = 5 by omega) with rfl | rfl | rfl | rfl | rfl | rfl <;> rfl
theorem in_X7 : Cond.instantiable RX7 7 ∈ Tg := tg 383 (by decide +kernel) (by decide +kernel)
theorem ii_X7 : Cond.initialized RX7 ∈ Tg := tg 126 (by decide +kernel) (by decide +kernel)
theorem df_X7 : ∀ j, j < 7 → defaultValue (tyX7 j) = vp_V [.int 0, .int 0, .null, .null, .null, .null, .int 0] j := by
  intro j hj
  rcases (show j = 0 ∨ j = 1 ∨ j = 2 ∨ j = 3 ∨ j = 4 ∨ j = 5 ∨ j = 6 by omega) with rfl | rfl | rfl | rfl | rfl | rfl | rfl <;> rfl
theorem in_X8 : Cond.instantiable RX8 15 ∈ Tg := tg 322 (by decide +kernel) (by decide +kernel)
theorem ii_X8 : Cond.initialized RX8 ∈ Tg := tg 125 (by decide +kernel) (by decide +kernel)
theorem df_X8 : ∀ j, j < 15 → defaultValue (tyX8 j) = vp_V [.null, .int 0, .int 0, .int 0, .null, .null, .null, .null, .null, .null, .null, .null, .null, .null, .int 0] j := by
  intro j hj
  rcases (show j = 0 ∨ j = 1 ∨ j = 2 ∨ j = 3 ∨ j = 4 ∨ j = 5 ∨ j = 6 ∨ j = 7 ∨ j = 8 ∨ j = 9 ∨ j = 10 ∨ j = 11 ∨ j = 12 ∨ j = 13 ∨ j = 14 by omega) with rfl | rfl | rfl | rfl | rfl | rfl | rfl | rfl | rfl | rfl | rfl | rfl | rfl | rfl | rfl <;> rfl
theorem in_X9 : Cond.instantiable RX9 4 ∈ Tg := tg 259 (by decide +kernel) (by decide +kernel)
theorem ii_X9 : Cond.initialized RX9 ∈ Tg := tg 123 (by decide +kernel) (by decide +kernel)
theorem df_X9 : ∀ j, j < 4 → defaultValue (tyX9 j) = vp_V [.null, .null, .null, .int 0] j := by
  intro j hj
  rcases (show j = 0 ∨ j = 1 ∨ j = 2 ∨ j = 3 by omega) with rfl | rfl | rfl | rfl <;> rfl
theorem in_X10 : Cond.instantiable RX10 11 ∈ Tg := tg 150 (by decide +kernel) (by decide +kernel)
theorem ii_X10 : Cond.initialized RX10 ∈ Tg := tg 118 (by decide +kernel) (by decide +kernel)
theorem df_X10 : ∀ j, j < 11 → defaultValue (tyX10 j) = vp_V [.null, .int 0, .int 0, .int 0, .int 0, .int 0, .long 0, .null, .int 0, .int 0, .int 0] j := by
  intro j hj
  rcases (show j = 0 ∨ j = 1 ∨ j = 2 ∨ j = 3 ∨ j = 4 ∨ j = 5 ∨ j = 6 ∨ j = 7 ∨ j = 8 ∨ j = 9 ∨ j = 10 by omega) with rfl | rfl | rfl | rfl | rfl | rfl | rfl | rfl | rfl | rfl | rfl <;> rfl
theorem in_X11 : Cond.instantiable RX11 15 ∈ Tg := tg 142 (by decide +kernel) (by decide +kernel)
theorem ii_X11 : Cond.initialized RX11 ∈ Tg := tg 117 (by decide +kernel) (by decide +kernel)
theorem df_X11 : ∀ j, j < 15 → defaultValue (tyX11 j) = vp_V [.null, .null, .null, .null, .null, .null, .null, .null, .null, .null, .null, .null, .int 0, .int 0, .int 0] j := by
  intro j hj
  rcases (show j = 0 ∨ j = 1 ∨ j = 2 ∨ j = 3 ∨ j = 4 ∨ j = 5 ∨ j = 6 ∨ j = 7 ∨ j = 8 ∨ j = 9 ∨ j = 10 ∨ j = 11 ∨ j = 12 ∨ j = 13 ∨ j = 14 by omega) with rfl | rfl | rfl | rfl | rfl | rfl | rfl | rfl | rfl | rfl | rfl | rfl | rfl | rfl | rfl <;> rfl
theorem in_X12 : Cond.instantiable RX12 48 ∈ Tg := tg 1480 (by decide +kernel) (by decide +kernel)
theorem ii_X12 : Cond.initialized RX12 ∈ Tg := tg 133 (by decide +kernel) (by decide +kernel)
theorem df_X12 : ∀ j, j < 48 → defaultValue (tyX12 j) = vp_V [.int 0, .null, .int 0, .int 0, .int 0, .int 0, .null, .null, .null, .null, .null, .int 0, .int 0, .int 0, .int 0, .int 0, .int 0, .long 0, .int 0, .int 0, .int 0, .null, .null, .int 0, .int 0, .int 0, .null, .null, .null, .int 0, .int 0, .int 0, .null, .int 0, .int 0, .int 0, .null, .int 0, .null, .int 0, .int 0, .int 0, .int 0, .int 0, .null, .null, .null, .null] j := by
  intro j hj
  rcases (show j = 0 ∨ j = 1 ∨ j = 2 ∨ j = 3 ∨ j = 4 ∨ j = 5 ∨ j = 6 ∨ j = 7 ∨ j = 8 ∨ j = 9 ∨ j = 10 ∨ j = 11 ∨ j = 12 ∨ j = 13 ∨ j = 14 ∨ j = 15 ∨ j = 16 ∨ j = 17 ∨ j = 18 ∨ j = 19 ∨ j = 20 ∨ j = 21 ∨ j = 22 ∨ j = 23 ∨ j = 24 ∨ j = 25 ∨ j = 26 ∨ j = 27 ∨ j = 28 ∨ j = 29 ∨ j = 30 ∨ j = 31 ∨ j = 32 ∨ j = 33 ∨ j = 34 ∨ j = 35 ∨ j = 36 ∨ j = 37 ∨ j = 38 ∨ j = 39 ∨ j = 40 ∨ j = 41 ∨ j = 42 ∨ j = 43 ∨ j = 44 ∨ j = 45 ∨ j = 46 ∨ j = 47 by omega) with rfl | rfl | rfl | rfl | rfl | rfl | rfl | rfl | rfl | rfl | rfl | rfl | rfl | rfl | rfl | rfl | rfl | rfl | rfl | rfl | rfl | rfl | rfl | rfl | rfl | rfl | rfl | rfl | rfl | rfl | rfl | rfl | rfl | rfl | rfl | rfl | rfl | rfl | rfl | rfl | rfl | rfl | rfl | rfl | rfl | rfl | rfl | rfl <;> rfl
theorem wi_X3_init : wI yX3_init cX3_init 1 := ⟨tg 520 (by decide +kernel) (by decide +kernel), tg 130 (by decide +kernel) (by decide +kernel), tg 521 rfl rfl, rfl⟩
theorem yi_X3_init : yOK yX3_init 0 := ⟨by decide +kernel, by decide +kernel, by decide +kernel⟩
theorem om_X3_3 : Cond.methodLink RX3 3 Lib.objectInit ∈ Tg := tg 522 (by decide +kernel) (by decide +kernel)
theorem cfl_X3_11 : Cond.fieldLink RX3 11 (TX3 0).1 (TX3 0).2.1 (TX3 0).2.2.1 ∈ Tg := tg 523 (by decide +kernel) (by decide +kernel)
theorem cfl_X3_15 : Cond.fieldLink RX3 15 (TX3 1).1 (TX3 1).2.1 (TX3 1).2.2.1 ∈ Tg := tg 524 (by decide +kernel) (by decide +kernel)
def ctX3 (b : Nat) (G : Gx) (a K : Nat) (cf : Nat → va_E) : Nat → va_E := va_up (va_up (va_up (va_up (cf) K (.inl (G.2 4, 256, .inl (fun _ => 0)))) a (.inr (3, [.ref (b + K), .null]))) (K + 1) (.inl (G.2 2, 8, .inl (fun _ => 0)))) a (.inr (3, [.ref (b + K), .ref (b + (K + 1))]))
theorem kX3 {l : Launch} {G : Gx} {b d a K : Nat} {cf : Nat → va_E} (ha : a < K) (he : cf a = .inr (3, [.null, .null])) : MetP l G b yX3_init cX3_init 1 none (d + 1) 2 264 [.ref (b + a)] (WS G b K cf) (pV b (WS G b (K + 2) (ctX3 b G a K cf))) := by
  refine metP_start [some (.ref (b + a))] (by decide +kernel) (Nat.le_of_ble_eq_true rfl) rfl ?_
  intro X hX ok h0 hnm
  have hz : Sz X b 0 K := h0.sz
  refine g_wk ?_
  refine g_aload_n (pc := 0) ok dX3_init_0 rfl ?_
  refine g_oinit (pc := 1) ok om_X3_3 oi_i oi_c (show 1 ≤ d + 1 by omega) (Nat.le_trans (Nat.le_of_ble_eq_true rfl : _ ≤ 60) (show 60 ≤ 60 * (d + 1) by omega)) dX3_init_1 ?_
  refine g_aload_n (pc := 4) ok dX3_init_4 rfl ?_
  refine g_sipush (pc := 5) ok 256 dX3_init_5 (by decide +kernel) ?_
  refine g_newaZ' (pc := 8) (N := 256) ok (hz.up 0) (by decide) (by decide +kernel) (Nat.le_of_ble_eq_true rfl) (Nat.le_of_ble_eq_true rfl) (Nat.le_of_ble_eq_true rfl) dX3_init_8 ?_
  refine g_putF (pc := 10) ok hnm (k := 0) cls3 (show a < (K + 1) by omega) (va_upN (show a ≠ K by omega) he) (Nat.le_of_ble_eq_true rfl) cfl_X3_11 rfl rfl rfl rfl (Nat.le_of_ble_eq_true rfl) dX3_init_10 ?_
  refine g_aload_n (pc := 13) ok dX3_init_13 rfl ?_
  refine g_bipush (pc := 14) ok 8 dX3_init_14 (by decide +kernel) ?_
  refine g_newaI' (pc := 16) (N := 8) ok (hz.up 1) (by decide) (by decide +kernel) (Nat.le_of_ble_eq_true rfl) (Nat.le_of_ble_eq_true rfl) (Nat.le_of_ble_eq_true rfl) dX3_init_16 ?_
  refine g_putF (pc := 18) ok hnm (k := 1) cls3 (show a < (K + 2) by omega) (va_upN (show a ≠ (K + 1) by omega) va_upS) (Nat.le_of_ble_eq_true rfl) cfl_X3_15 rfl rfl rfl rfl (Nat.le_of_ble_eq_true rfl) dX3_init_18 ?_
  refine g_ws (hz.up 2) ?_
  exact g_vret (pc := 21) ok dX3_init_21 (fun _ h => h)
theorem ctX3_ne {G : Gx} {b a K q : Nat} {cf : Nat → va_E} (h1 : q < K) (h2 : q ≠ a) : ctX3 b G a K cf q = cf q := by
  unfold ctX3
  rw [va_up_ne _ _ h2, va_up_ne _ _ (show q ≠ (K + 1) by omega), va_up_ne _ _ h2, va_up_ne _ _ (show q ≠ K by omega)]
theorem wi_X1_init : wI yX1_init cX1_init 1 := ⟨tg 534 (by decide +kernel) (by decide +kernel), tg 131 (by decide +kernel) (by decide +kernel), tg 535 rfl rfl, rfl⟩
theorem yi_X1_init : yOK yX1_init 0 := ⟨by decide +kernel, by decide +kernel, by decide +kernel⟩
theorem om_X1_3 : Cond.methodLink RX1 3 Lib.objectInit ∈ Tg := tg 536 (by decide +kernel) (by decide +kernel)
theorem cfl_X1_9 : Cond.fieldLink RX1 9 (TX1 0).1 (TX1 0).2.1 (TX1 0).2.2.1 ∈ Tg := tg 537 (by decide +kernel) (by decide +kernel)
theorem cfl_X1_15 : Cond.fieldLink RX1 15 (TX1 1).1 (TX1 1).2.1 (TX1 1).2.2.1 ∈ Tg := tg 538 (by decide +kernel) (by decide +kernel)
def ctX1 (b : Nat) (G : Gx) (a K : Nat) (cf : Nat → va_E) : Nat → va_E := va_up (va_up (va_up (va_up (cf) K (.inl (G.2 2, 8, .inl (fun _ => 0)))) a (.inr (1, [.ref (b + K), .null, .int 0]))) (K + 1) (.inl (G.2 2, 8, .inl (fun _ => 0)))) a (.inr (1, [.ref (b + K), .ref (b + (K + 1)), .int 0]))
theorem kX1 {l : Launch} {G : Gx} {b d a K : Nat} {cf : Nat → va_E} (ha : a < K) (he : cf a = .inr (1, [.null, .null, .int 0])) : MetP l G b yX1_init cX1_init 1 none (d + 1) 2 16 [.ref (b + a)] (WS G b K cf) (pV b (WS G b (K + 2) (ctX1 b G a K cf))) := by
  refine metP_start [some (.ref (b + a))] (by decide +kernel) (Nat.le_of_ble_eq_true rfl) rfl ?_
  intro X hX ok h0 hnm
  have hz : Sz X b 0 K := h0.sz
  refine g_wk ?_
  refine g_aload_n (pc := 0) ok dX1_init_0 rfl ?_
  refine g_oinit (pc := 1) ok om_X1_3 oi_i oi_c (show 1 ≤ d + 1 by omega) (Nat.le_trans (Nat.le_of_ble_eq_true rfl : _ ≤ 60) (show 60 ≤ 60 * (d + 1) by omega)) dX1_init_1 ?_
  refine g_aload_n (pc := 4) ok dX1_init_4 rfl ?_
  refine g_bipush (pc := 5) ok 8 dX1_init_5 (by decide +kernel) ?_
  refine g_newaI' (pc := 7) (N := 8) ok (hz.up 0) (by decide) (by decide +kernel) (Nat.le_of_ble_eq_true rfl) (Nat.le_of_ble_eq_true rfl) (Nat.le_of_ble_eq_true rfl) dX1_init_7 ?_
  refine g_putF (pc := 9) ok hnm (k := 0) cls1 (show a < (K + 1) by omega) (va_upN (show a ≠ K by omega) he) (Nat.le_of_ble_eq_true rfl) cfl_X1_9 rfl rfl rfl rfl (Nat.le_of_ble_eq_true rfl) dX1_init_9 ?_
  refine g_aload_n (pc := 12) ok dX1_init_12 rfl ?_
  refine g_bipush (pc := 13) ok 8 dX1_init_13 (by decide +kernel) ?_
  refine g_newaI' (pc := 15) (N := 8) ok (hz.up 1) (by decide) (by decide +kernel) (Nat.le_of_ble_eq_true rfl) (Nat.le_of_ble_eq_true rfl) (Nat.le_of_ble_eq_true rfl) dX1_init_15 ?_
  refine g_putF (pc := 17) ok hnm (k := 1) cls1 (show a < (K + 2) by omega) (va_upN (show a ≠ (K + 1) by omega) va_upS) (Nat.le_of_ble_eq_true rfl) cfl_X1_15 rfl rfl rfl rfl (Nat.le_of_ble_eq_true rfl) dX1_init_17 ?_
  refine g_ws (hz.up 2) ?_
  exact g_vret (pc := 20) ok dX1_init_20 (fun _ h => h)
theorem ctX1_ne {G : Gx} {b a K q : Nat} {cf : Nat → va_E} (h1 : q < K) (h2 : q ≠ a) : ctX1 b G a K cf q = cf q := by
  unfold ctX1
  rw [va_up_ne _ _ h2, va_up_ne _ _ (show q ≠ (K + 1) by omega), va_up_ne _ _ h2, va_up_ne _ _ (show q ≠ K by omega)]
theorem wi_X2_init : wI yX2_init cX2_init 2 := ⟨tg 550 (by decide +kernel) (by decide +kernel), tg 132 (by decide +kernel) (by decide +kernel), tg 551 rfl rfl, rfl⟩
theorem yi_X2_init : yOK yX2_init 1 := ⟨by decide +kernel, by decide +kernel, by decide +kernel⟩
theorem om_X2_3 : Cond.methodLink RX2 3 Lib.objectInit ∈ Tg := tg 552 (by decide +kernel) (by decide +kernel)
theorem cfl_X2_11 : Cond.fieldLink RX2 11 (TX2 1).1 (TX2 1).2.1 (TX2 1).2.2.1 ∈ Tg := tg 555 (by decide +kernel) (by decide +kernel)
theorem cfl_X2_15 : Cond.fieldLink RX2 15 (TX2 2).1 (TX2 2).2.1 (TX2 2).2.2.1 ∈ Tg := tg 556 (by decide +kernel) (by decide +kernel)
def ctX2 (b : Nat) (G : Gx) (a K : Nat) (v1 : Nat) (cf : Nat → va_E) : Nat → va_E := va_up (va_up (va_up (cf) K (.inl (G.2 1, 32, .inl (fun _ => 0)))) a (.inr (2, [.int 0, .ref (b + K), .null]))) a (.inr (2, [.int 0, .ref (b + K), .ref v1]))
theorem kX2 {l : Launch} {G : Gx} {b d a K : Nat} {v1 : Nat} {cf : Nat → va_E} (ha : a < K) (he : cf a = .inr (2, [.int 0, .null, .null])) : MetP l G b yX2_init cX2_init 2 none (d + 1) 1 32 [.ref (b + a), .ref v1] (WS G b K cf) (pV b (WS G b (K + 1) (ctX2 b G a K v1 cf))) := by
  refine metP_start [some (.ref (b + a)), some (.ref v1)] (by decide +kernel) (Nat.le_of_ble_eq_true rfl) rfl ?_
  intro X hX ok h0 hnm
  have hz : Sz X b 0 K := h0.sz
  refine g_wk ?_
  refine g_aload_n (pc := 0) ok dX2_init_0 rfl ?_
  refine g_oinit (pc := 1) ok om_X2_3 oi_i oi_c (show 1 ≤ d + 1 by omega) (Nat.le_trans (Nat.le_of_ble_eq_true rfl : _ ≤ 60) (show 60 ≤ 60 * (d + 1) by omega)) dX2_init_1 ?_
  refine g_aload_n (pc := 4) ok dX2_init_4 rfl ?_
  refine g_bipush (pc := 5) ok 32 dX2_init_5 (by decide +kernel) ?_
  refine g_newaB' (pc := 7) (N := 32) ok (hz.up 0) (by decide) (by decide +kernel) (Nat.le_of_ble_eq_true rfl) (Nat.le_of_ble_eq_true rfl) (Nat.le_of_ble_eq_true rfl) dX2_init_7 ?_
  refine g_putF (pc := 9) ok hnm (k := 1) cls2 (show a < (K + 1) by omega) (va_upN (show a ≠ K by omega) he) (Nat.le_of_ble_eq_true rfl) cfl_X2_11 rfl rfl rfl rfl (Nat.le_of_ble_eq_true rfl) dX2_init_9 ?_
  refine g_aload_n (pc := 12) ok dX2_init_12 rfl ?_
  refine g_aload_n (pc := 13) ok dX2_init_13 rfl ?_
  refine g_putF (pc := 14) ok hnm (k := 2) cls2 (show a < (K + 1) by omega) va_upS (Nat.le_of_ble_eq_true rfl) cfl_X2_15 rfl rfl rfl rfl (Nat.le_of_ble_eq_true rfl) dX2_init_14 ?_
  refine g_ws (hz.up 1) ?_
  exact g_vret (pc := 17) ok dX2_init_17 (fun _ h => h)
theorem ctX2_ne {G : Gx} {b a K q : Nat} {v1 : Nat} {cf : Nat → va_E} (h1 : q < K) (h2 : q ≠ a) : ctX2 b G a K v1 cf q = cf q := by
  unfold ctX2
  rw [va_up_ne _ _ h2, va_up_ne _ _ h2, va_up_ne _ _ (show q ≠ K by omega)]
theorem wi_X5_init : wI yX5_init cX5_init 1 := ⟨tg 267 (by decide +kernel) (by decide +kernel), tg 124 (by decide +kernel) (by decide +kernel), tg 268 rfl rfl, rfl⟩
theorem yi_X5_init : yOK yX5_init 0 := ⟨by decide +kernel, by decide +kernel, by decide +kernel⟩
theorem om_X5_3 : Cond.methodLink RX5 3 Lib.objectInit ∈ Tg := tg 269 (by decide +kernel) (by decide +kernel)
theorem cfl_X5_9 : Cond.fieldLink RX5 9 (TX5 0).1 (TX5 0).2.1 (TX5 0).2.2.1 ∈ Tg := tg 270 (by decide +kernel) (by decide +kernel)
theorem cfl_X5_15 : Cond.fieldLink RX5 15 (TX5 1).1 (TX5 1).2.1 (TX5 1).2.2.1 ∈ Tg := tg 274 (by decide +kernel) (by decide +kernel)
theorem cfl_X5_18 : Cond.fieldLink RX5 18 (TX5 2).1 (TX5 2).2.1 (TX5 2).2.2.1 ∈ Tg := tg 278 (by decide +kernel) (by decide +kernel)
theorem cfl_X5_21 : Cond.fieldLink RX5 21 (TX5 5).1 (TX5 5).2.1 (TX5 5).2.2.1 ∈ Tg := tg 291 (by decide +kernel) (by decide +kernel)
theorem cfl_X5_25 : Cond.fieldLink RX5 25 (TX5 6).1 (TX5 6).2.1 (TX5 6).2.2.1 ∈ Tg := tg 292 (by decide +kernel) (by decide +kernel)
theorem cfl_X5_28 : Cond.fieldLink RX5 28 (TX5 7).1 (TX5 7).2.1 (TX5 7).2.2.1 ∈ Tg := tg 293 (by decide +kernel) (by decide +kernel)
theorem cfl_X5_32 : Cond.fieldLink RX5 32 (TX5 8).1 (TX5 8).2.1 (TX5 8).2.2.1 ∈ Tg := tg 294 (by decide +kernel) (by decide +kernel)
theorem cfl_X5_35 : Cond.fieldLink RX5 35 (TX5 9).1 (TX5 9).2.1 (TX5 9).2.2.1 ∈ Tg := tg 295 (by decide +kernel) (by decide +kernel)
theorem cfl_X5_38 : Cond.fieldLink RX5 38 (TX5 10).1 (TX5 10).2.1 (TX5 10).2.2.1 ∈ Tg := tg 296 (by decide +kernel) (by decide +kernel)
def ctX5 (b : Nat) (G : Gx) (a K : Nat) (cf : Nat → va_E) : Nat → va_E := va_up (va_up (va_up (va_up (va_up (va_up (va_up (va_up (va_up (va_up (va_up (va_up (va_up (va_up (va_up (cf) a (.inr (5, [.int 10, .int 0, .int 0, .int 0, .int 0, .null, .null, .null, .null, .null, .null]))) a (.inr (5, [.int 10, .int 2, .int 0, .int 0, .int 0, .null, .null, .null, .null, .null, .null]))) a (.inr (5, [.int 10, .int 2, .int 3, .int 0, .int 0, .null, .null, .null, .null, .null, .null]))) K (.inl (G.2 2, 6, .inl (fun _ => 0)))) a (.inr (5, [.int 10, .int 2, .int 3, .int 0, .int 0, .ref (b + K), .null, .null, .null, .null, .null]))) (K + 1) (.inl (G.2 2, 6, .inl (fun _ => 0)))) a (.inr (5, [.int 10, .int 2, .int 3, .int 0, .int 0, .ref (b + K), .ref (b + (K + 1)), .null, .null, .null, .null]))) (K + 2) (.inl (G.2 3, 6, .inr (.inl (fun _ => 0))))) a (.inr (5, [.int 10, .int 2, .int 3, .int 0, .int 0, .ref (b + K), .ref (b + (K + 1)), .ref (b + (K + 2)), .null, .null, .null]))) (K + 3) (.inl (G.2 2, 8, .inl (fun _ => 0)))) a (.inr (5, [.int 10, .int 2, .int 3, .int 0, .int 0, .ref (b + K), .ref (b + (K + 1)), .ref (b + (K + 2)), .ref (b + (K + 3)), .null, .null]))) (K + 4) (.inl (G.2 2, 8, .inl (fun _ => 0)))) a (.inr (5, [.int 10, .int 2, .int 3, .int 0, .int 0, .ref (b + K), .ref (b + (K + 1)), .ref (b + (K + 2)), .ref (b + (K + 3)), .ref (b + (K + 4)), .null]))) (K + 5) (.inl (G.2 3, 8, .inr (.inl (fun _ => 0))))) a (.inr (5, [.int 10, .int 2, .int 3, .int 0, .int 0, .ref (b + K), .ref (b + (K + 1)), .ref (b + (K + 2)), .ref (b + (K + 3)), .ref (b + (K + 4)), .ref (b + (K + 5))]))
theorem kX5 {l : Launch} {G : Gx} {b d a K : Nat} {cf : Nat → va_E} (ha : a < K) (he : cf a = .inr (5, [.int 0, .int 0, .int 0, .int 0, .int 0, .null, .null, .null, .null, .null, .null])) : MetP l G b yX5_init cX5_init 1 none (d + 1) 6 42 [.ref (b + a)] (WS G b K cf) (pV b (WS G b (K + 6) (ctX5 b G a K cf))) := by
  refine metP_start [some (.ref (b + a))] (by decide +kernel) (Nat.le_of_ble_eq_true rfl) rfl ?_
  intro X hX ok h0 hnm
  have hz : Sz X b 0 K := h0.sz
  refine g_wk ?_
  refine g_aload_n (pc := 0) ok dX5_init_0 rfl ?_
  refine g_oinit (pc := 1) ok om_X5_3 oi_i oi_c (show 1 ≤ d + 1 by omega) (Nat.le_trans (Nat.le_of_ble_eq_true rfl : _ ≤ 60) (show 60 ≤ 60 * (d + 1) by omega)) dX5_init_1 ?_
  refine g_aload_n (pc := 4) ok dX5_init_4 rfl ?_
  refine g_bipush (pc := 5) ok 10 dX5_init_5 (by decide +kernel) ?_
  refine g_put (pc := 7) ok (k := 0) cls5 (show a < K by omega) he (Nat.le_of_ble_eq_true rfl) cfl_X5_9 rfl rfl rfl (Nat.le_of_ble_eq_true rfl) dX5_init_7 ?_
  refine g_aload_n (pc := 10) ok dX5_init_10 rfl ?_
  refine g_iconst (pc := 11) ok 2 dX5_init_11 (by decide +kernel) ?_
  refine g_put (pc := 12) ok (k := 1) cls5 (show a < K by omega) va_upS (Nat.le_of_ble_eq_true rfl) cfl_X5_15 rfl rfl rfl (Nat.le_of_ble_eq_true rfl) dX5_init_12 ?_
  refine g_aload_n (pc := 15) ok dX5_init_15 rfl ?_
  refine g_iconst (pc := 16) ok 3 dX5_init_16 (by decide +kernel) ?_
  refine g_put (pc := 17) ok (k := 2) cls5 (show a < K by omega) va_upS (Nat.le_of_ble_eq_true rfl) cfl_X5_18 rfl rfl rfl (Nat.le_of_ble_eq_true rfl) dX5_init_17 ?_
  refine g_aload_n (pc := 20) ok dX5_init_20 rfl ?_
  refine g_bipush (pc := 21) ok 6 dX5_init_21 (by decide +kernel) ?_
  refine g_newaI' (pc := 23) (N := 6) ok (hz.up 0) (by decide) (by decide +kernel) (Nat.le_of_ble_eq_true rfl) (Nat.le_of_ble_eq_true rfl) (Nat.le_of_ble_eq_true rfl) dX5_init_23 ?_
  refine g_putF (pc := 25) ok hnm (k := 5) cls5 (show a < (K + 1) by omega) (va_upN (show a ≠ K by omega) va_upS) (Nat.le_of_ble_eq_true rfl) cfl_X5_21 rfl rfl rfl rfl (Nat.le_of_ble_eq_true rfl) dX5_init_25 ?_
  refine g_aload_n (pc := 28) ok dX5_init_28 rfl ?_
  refine g_bipush (pc := 29) ok 6 dX5_init_29 (by decide +kernel) ?_
  refine g_newaI' (pc := 31) (N := 6) ok (hz.up 1) (by decide) (by decide +kernel) (Nat.le_of_ble_eq_true rfl) (Nat.le_of_ble_eq_true rfl) (Nat.le_of_ble_eq_true rfl) dX5_init_31 ?_
  refine g_putF (pc := 33) ok hnm (k := 6) cls5 (show a < (K + 2) by omega) (va_upN (show a ≠ (K + 1) by omega) va_upS) (Nat.le_of_ble_eq_true rfl) cfl_X5_25 rfl rfl rfl rfl (Nat.le_of_ble_eq_true rfl) dX5_init_33 ?_
  refine g_aload_n (pc := 36) ok dX5_init_36 rfl ?_
  refine g_bipush (pc := 37) ok 6 dX5_init_37 (by decide +kernel) ?_
  refine g_newaJ (pc := 39) (N := 6) ok ac_J (hz.up 2) (by decide) (by decide +kernel) (Nat.le_of_ble_eq_true rfl) (Nat.le_of_ble_eq_true rfl) (Nat.le_of_ble_eq_true rfl) dX5_init_39 ?_
  refine g_putF (pc := 41) ok hnm (k := 7) cls5 (show a < (K + 3) by omega) (va_upN (show a ≠ (K + 2) by omega) va_upS) (Nat.le_of_ble_eq_true rfl) cfl_X5_28 rfl rfl rfl rfl (Nat.le_of_ble_eq_true rfl) dX5_init_41 ?_
  refine g_aload_n (pc := 44) ok dX5_init_44 rfl ?_
  refine g_bipush (pc := 45) ok 8 dX5_init_45 (by decide +kernel) ?_
  refine g_newaI' (pc := 47) (N := 8) ok (hz.up 3) (by decide) (by decide +kernel) (Nat.le_of_ble_eq_true rfl) (Nat.le_of_ble_eq_true rfl) (Nat.le_of_ble_eq_true rfl) dX5_init_47 ?_
  refine g_putF (pc := 49) ok hnm (k := 8) cls5 (show a < (K + 4) by omega) (va_upN (show a ≠ (K + 3) by omega) va_upS) (Nat.le_of_ble_eq_true rfl) cfl_X5_32 rfl rfl rfl rfl (Nat.le_of_ble_eq_true rfl) dX5_init_49 ?_
  refine g_aload_n (pc := 52) ok dX5_init_52 rfl ?_
  refine g_bipush (pc := 53) ok 8 dX5_init_53 (by decide +kernel) ?_
  refine g_newaI' (pc := 55) (N := 8) ok (hz.up 4) (by decide) (by decide +kernel) (Nat.le_of_ble_eq_true rfl) (Nat.le_of_ble_eq_true rfl) (Nat.le_of_ble_eq_true rfl) dX5_init_55 ?_
  refine g_putF (pc := 57) ok hnm (k := 9) cls5 (show a < (K + 5) by omega) (va_upN (show a ≠ (K + 4) by omega) va_upS) (Nat.le_of_ble_eq_true rfl) cfl_X5_35 rfl rfl rfl rfl (Nat.le_of_ble_eq_true rfl) dX5_init_57 ?_
  refine g_aload_n (pc := 60) ok dX5_init_60 rfl ?_
  refine g_bipush (pc := 61) ok 8 dX5_init_61 (by decide +kernel) ?_
  refine g_newaJ (pc := 63) (N := 8) ok ac_J (hz.up 5) (by decide) (by decide +kernel) (Nat.le_of_ble_eq_true rfl) (Nat.le_of_ble_eq_true rfl) (Nat.le_of_ble_eq_true rfl) dX5_init_63 ?_
  refine g_putF (pc := 65) ok hnm (k := 10) cls5 (show a < (K + 6) by omega) (va_upN (show a ≠ (K + 5) by omega) va_upS) (Nat.le_of_ble_eq_true rfl) cfl_X5_38 rfl rfl rfl rfl (Nat.le_of_ble_eq_true rfl) dX5_init_65 ?_
  refine g_ws (hz.up 6) ?_
  exact g_vret (pc := 68) ok dX5_init_68 (fun _ h => h)
theorem ctX5_ne {G : Gx} {b a K q : Nat} {cf : Nat → va_E} (h1 : q < K) (h2 : q ≠ a) : ctX5 b G a K cf q = cf q := by
  unfold ctX5
  rw [va_up_ne _ _ h2, va_up_ne _ _ (show q ≠ (K + 5) by omega), va_up_ne _ _ h2, va_up_ne _ _ (show q ≠ (K + 4) by omega), va_up_ne _ _ h2, va_up_ne _ _ (show q ≠ (K + 3) by omega), va_up_ne _ _ h2, va_up_ne _ _ (show q ≠ (K + 2) by omega), va_up_ne _ _ h2, va_up_ne _ _ (show q ≠ (K + 1) by omega), va_up_ne _ _ h2, va_up_ne _ _ (show q ≠ K by omega), va_up_ne _ _ h2, va_up_ne _ _ h2, va_up_ne _ _ h2]
theorem wi_X7_init : wI yX7_init cX7_init 1 := ⟨tg 385 (by decide +kernel) (by decide +kernel), tg 126 (by decide +kernel) (by decide +kernel), tg 386 rfl rfl, rfl⟩
theorem yi_X7_init : yOK yX7_init 0 := ⟨by decide +kernel, by decide +kernel, by decide +kernel⟩
theorem om_X7_3 : Cond.methodLink RX7 3 Lib.objectInit ∈ Tg := tg 387 (by decide +kernel) (by decide +kernel)
theorem cfl_X7_11 : Cond.fieldLink RX7 11 (TX7 2).1 (TX7 2).2.1 (TX7 2).2.2.1 ∈ Tg := tg 391 (by decide +kernel) (by decide +kernel)
theorem cfl_X7_15 : Cond.fieldLink RX7 15 (TX7 3).1 (TX7 3).2.1 (TX7 3).2.2.1 ∈ Tg := tg 392 (by decide +kernel) (by decide +kernel)
theorem cfl_X7_18 : Cond.fieldLink RX7 18 (TX7 4).1 (TX7 4).2.1 (TX7 4).2.2.1 ∈ Tg := tg 393 (by decide +kernel) (by decide +kernel)
theorem cfl_X7_21 : Cond.fieldLink RX7 21 (TX7 5).1 (TX7 5).2.1 (TX7 5).2.2.1 ∈ Tg := tg 394 (by decide +kernel) (by decide +kernel)
def ctX7 (b : Nat) (G : Gx) (a K : Nat) (cf : Nat → va_E) : Nat → va_E := va_up (va_up (va_up (va_up (va_up (va_up (va_up (va_up (cf) K (.inl (G.2 2, 40, .inl (fun _ => 0)))) a (.inr (7, [.int 0, .int 0, .ref (b + K), .null, .null, .null, .int 0]))) (K + 1) (.inl (G.2 2, 40, .inl (fun _ => 0)))) a (.inr (7, [.int 0, .int 0, .ref (b + K), .ref (b + (K + 1)), .null, .null, .int 0]))) (K + 2) (.inl (G.2 2, 40, .inl (fun _ => 0)))) a (.inr (7, [.int 0, .int 0, .ref (b + K), .ref (b + (K + 1)), .ref (b + (K + 2)), .null, .int 0]))) (K + 3) (.inl (G.2 2, 40, .inl (fun _ => 0)))) a (.inr (7, [.int 0, .int 0, .ref (b + K), .ref (b + (K + 1)), .ref (b + (K + 2)), .ref (b + (K + 3)), .int 0]))
theorem kX7 {l : Launch} {G : Gx} {b d a K : Nat} {cf : Nat → va_E} (ha : a < K) (he : cf a = .inr (7, [.int 0, .int 0, .null, .null, .null, .null, .int 0])) : MetP l G b yX7_init cX7_init 1 none (d + 1) 4 160 [.ref (b + a)] (WS G b K cf) (pV b (WS G b (K + 4) (ctX7 b G a K cf))) := by
  refine metP_start [some (.ref (b + a))] (by decide +kernel) (Nat.le_of_ble_eq_true rfl) rfl ?_
  intro X hX ok h0 hnm
  have hz : Sz X b 0 K := h0.sz
  refine g_wk ?_
  refine g_aload_n (pc := 0) ok dX7_init_0 rfl ?_
  refine g_oinit (pc := 1) ok om_X7_3 oi_i oi_c (show 1 ≤ d + 1 by omega) (Nat.le_trans (Nat.le_of_ble_eq_true rfl : _ ≤ 60) (show 60 ≤ 60 * (d + 1) by omega)) dX7_init_1 ?_
  refine g_aload_n (pc := 4) ok dX7_init_4 rfl ?_
  refine g_bipush (pc := 5) ok 40 dX7_init_5 (by decide +kernel) ?_
  refine g_newaI' (pc := 7) (N := 40) ok (hz.up 0) (by decide) (by decide +kernel) (Nat.le_of_ble_eq_true rfl) (Nat.le_of_ble_eq_true rfl) (Nat.le_of_ble_eq_true rfl) dX7_init_7 ?_
  refine g_putF (pc := 9) ok hnm (k := 2) cls7 (show a < (K + 1) by omega) (va_upN (show a ≠ K by omega) he) (Nat.le_of_ble_eq_true rfl) cfl_X7_11 rfl rfl rfl rfl (Nat.le_of_ble_eq_true rfl) dX7_init_9 ?_
  refine g_aload_n (pc := 12) ok dX7_init_12 rfl ?_
  refine g_bipush (pc := 13) ok 40 dX7_init_13 (by decide +kernel) ?_
  refine g_newaI' (pc := 15) (N := 40) ok (hz.up 1) (by decide) (by decide +kernel) (Nat.le_of_ble_eq_true rfl) (Nat.le_of_ble_eq_true rfl) (Nat.le_of_ble_eq_true rfl) dX7_init_15 ?_
  refine g_putF (pc := 17) ok hnm (k := 3) cls7 (show a < (K + 2) by omega) (va_upN (show a ≠ (K + 1) by omega) va_upS) (Nat.le_of_ble_eq_true rfl) cfl_X7_15 rfl rfl rfl rfl (Nat.le_of_ble_eq_true rfl) dX7_init_17 ?_
  refine g_aload_n (pc := 20) ok dX7_init_20 rfl ?_
  refine g_bipush (pc := 21) ok 40 dX7_init_21 (by decide +kernel) ?_
  refine g_newaI' (pc := 23) (N := 40) ok (hz.up 2) (by decide) (by decide +kernel) (Nat.le_of_ble_eq_true rfl) (Nat.le_of_ble_eq_true rfl) (Nat.le_of_ble_eq_true rfl) dX7_init_23 ?_
  refine g_putF (pc := 25) ok hnm (k := 4) cls7 (show a < (K + 3) by omega) (va_upN (show a ≠ (K + 2) by omega) va_upS) (Nat.le_of_ble_eq_true rfl) cfl_X7_18 rfl rfl rfl rfl (Nat.le_of_ble_eq_true rfl) dX7_init_25 ?_
  refine g_aload_n (pc := 28) ok dX7_init_28 rfl ?_
  refine g_bipush (pc := 29) ok 40 dX7_init_29 (by decide +kernel) ?_
  refine g_newaI' (pc := 31) (N := 40) ok (hz.up 3) (by decide) (by decide +kernel) (Nat.le_of_ble_eq_true rfl) (Nat.le_of_ble_eq_true rfl) (Nat.le_of_ble_eq_true rfl) dX7_init_31 ?_
  refine g_putF (pc := 33) ok hnm (k := 5) cls7 (show a < (K + 4) by omega) (va_upN (show a ≠ (K + 3) by omega) va_upS) (Nat.le_of_ble_eq_true rfl) cfl_X7_21 rfl rfl rfl rfl (Nat.le_of_ble_eq_true rfl) dX7_init_33 ?_
  refine g_ws (hz.up 4) ?_
  exact g_vret (pc := 36) ok dX7_init_36 (fun _ h => h)
theorem ctX7_ne {G : Gx} {b a K q : Nat} {cf : Nat → va_E} (h1 : q < K) (h2 : q ≠ a) : ctX7 b G a K cf q = cf q := by
  unfold ctX7
  rw [va_up_ne _ _ h2, va_up_ne _ _ (show q ≠ (K + 3) by omega), va_up_ne _ _ h2, va_up_ne _ _ (show q ≠ (K + 2) by omega), va_up_ne _ _ h2, va_up_ne _ _ (show q ≠ (K + 1) by omega), va_up_ne _ _ h2, va_up_ne _ _ (show q ≠ K by omega)]
theorem wi_X8_init : wI yX8_init cX8_init 2 := ⟨tg 324 (by decide +kernel) (by decide +kernel), tg 125 (by decide +kernel) (by decide +kernel), tg 325 rfl rfl, rfl⟩
theorem yi_X8_init : yOK yX8_init 1 := ⟨by decide +kernel, by decide +kernel, by decide +kernel⟩
theorem om_X8_3 : Cond.methodLink RX8 3 Lib.objectInit ∈ Tg := tg 326 (by decide +kernel) (by decide +kernel)
theorem cfl_X8_9 : Cond.fieldLink RX8 9 (TX8 4).1 (TX8 4).2.1 (TX8 4).2.2.1 ∈ Tg := tg 338 (by decide +kernel) (by decide +kernel)
theorem cfl_X8_15 : Cond.fieldLink RX8 15 (TX8 5).1 (TX8 5).2.1 (TX8 5).2.2.1 ∈ Tg := tg 340 (by decide +kernel) (by decide +kernel)
theorem cfl_X8_18 : Cond.fieldLink RX8 18 (TX8 6).1 (TX8 6).2.1 (TX8 6).2.2.1 ∈ Tg := tg 342 (by decide +kernel) (by decide +kernel)
theorem cfl_X8_21 : Cond.fieldLink RX8 21 (TX8 7).1 (TX8 7).2.1 (TX8 7).2.2.1 ∈ Tg := tg 343 (by decide +kernel) (by decide +kernel)
theorem cfl_X8_24 : Cond.fieldLink RX8 24 (TX8 8).1 (TX8 8).2.1 (TX8 8).2.2.1 ∈ Tg := tg 344 (by decide +kernel) (by decide +kernel)
theorem cfl_X8_27 : Cond.fieldLink RX8 27 (TX8 9).1 (TX8 9).2.1 (TX8 9).2.2.1 ∈ Tg := tg 345 (by decide +kernel) (by decide +kernel)
theorem cfl_X8_30 : Cond.fieldLink RX8 30 (TX8 10).1 (TX8 10).2.1 (TX8 10).2.2.1 ∈ Tg := tg 346 (by decide +kernel) (by decide +kernel)
theorem cfl_X8_33 : Cond.fieldLink RX8 33 (TX8 11).1 (TX8 11).2.1 (TX8 11).2.2.1 ∈ Tg := tg 347 (by decide +kernel) (by decide +kernel)
theorem cfl_X8_36 : Cond.fieldLink RX8 36 (TX8 12).1 (TX8 12).2.1 (TX8 12).2.2.1 ∈ Tg := tg 348 (by decide +kernel) (by decide +kernel)
theorem cfl_X8_39 : Cond.fieldLink RX8 39 (TX8 13).1 (TX8 13).2.1 (TX8 13).2.2.1 ∈ Tg := tg 349 (by decide +kernel) (by decide +kernel)
theorem cfl_X8_42 : Cond.fieldLink RX8 42 (TX8 0).1 (TX8 0).2.1 (TX8 0).2.2.1 ∈ Tg := tg 327 (by decide +kernel) (by decide +kernel)
def ctX8 (b : Nat) (G : Gx) (a K : Nat) (v1 : Nat) (cf : Nat → va_E) : Nat → va_E := va_up (va_up (va_up (va_up (va_up (va_up (va_up (va_up (va_up (va_up (va_up (va_up (va_up (va_up (va_up (va_up (va_up (va_up (va_up (va_up (va_up (cf) K (.inl (G.2 2, 12, .inl (fun _ => 0)))) a (.inr (8, [.null, .int 0, .int 0, .int 0, .ref (b + K), .null, .null, .null, .null, .null, .null, .null, .null, .null, .int 0]))) (K + 1) (.inl (G.2 2, 12, .inl (fun _ => 0)))) a (.inr (8, [.null, .int 0, .int 0, .int 0, .ref (b + K), .ref (b + (K + 1)), .null, .null, .null, .null, .null, .null, .null, .null, .int 0]))) (K + 2) (.inl (G.2 2, 8, .inl (fun _ => 0)))) a (.inr (8, [.null, .int 0, .int 0, .int 0, .ref (b + K), .ref (b + (K + 1)), .ref (b + (K + 2)), .null, .null, .null, .null, .null, .null, .null, .int 0]))) (K + 3) (.inl (G.2 2, 8, .inl (fun _ => 0)))) a (.inr (8, [.null, .int 0, .int 0, .int 0, .ref (b + K), .ref (b + (K + 1)), .ref (b + (K + 2)), .ref (b + (K + 3)), .null, .null, .null, .null, .null, .null, .int 0]))) (K + 4) (.inl (G.2 2, 8, .inl (fun _ => 0)))) a (.inr (8, [.null, .int 0, .int 0, .int 0, .ref (b + K), .ref (b + (K + 1)), .ref (b + (K + 2)), .ref (b + (K + 3)), .ref (b + (K + 4)), .null, .null, .null, .null, .null, .int 0]))) (K + 5) (.inl (G.2 2, 8, .inl (fun _ => 0)))) a (.inr (8, [.null, .int 0, .int 0, .int 0, .ref (b + K), .ref (b + (K + 1)), .ref (b + (K + 2)), .ref (b + (K + 3)), .ref (b + (K + 4)), .ref (b + (K + 5)), .null, .null, .null, .null, .int 0]))) (K + 6) (.inl (G.2 2, 8, .inl (fun _ => 0)))) a (.inr (8, [.null, .int 0, .int 0, .int 0, .ref (b + K), .ref (b + (K + 1)), .ref (b + (K + 2)), .ref (b + (K + 3)), .ref (b + (K + 4)), .ref (b + (K + 5)), .ref (b + (K + 6)), .null, .null, .null, .int 0]))) (K + 7) (.inl (G.2 2, 8, .inl (fun _ => 0)))) a (.inr (8, [.null, .int 0, .int 0, .int 0, .ref (b + K), .ref (b + (K + 1)), .ref (b + (K + 2)), .ref (b + (K + 3)), .ref (b + (K + 4)), .ref (b + (K + 5)), .ref (b + (K + 6)), .ref (b + (K + 7)), .null, .null, .int 0]))) (K + 8) (.inl (G.2 2, 8, .inl (fun _ => 0)))) a (.inr (8, [.null, .int 0, .int 0, .int 0, .ref (b + K), .ref (b + (K + 1)), .ref (b + (K + 2)), .ref (b + (K + 3)), .ref (b + (K + 4)), .ref (b + (K + 5)), .ref (b + (K + 6)), .ref (b + (K + 7)), .ref (b + (K + 8)), .null, .int 0]))) (K + 9) (.inl (G.2 2, 8, .inl (fun _ => 0)))) a (.inr (8, [.null, .int 0, .int 0, .int 0, .ref (b + K), .ref (b + (K + 1)), .ref (b + (K + 2)), .ref (b + (K + 3)), .ref (b + (K + 4)), .ref (b + (K + 5)), .ref (b + (K + 6)), .ref (b + (K + 7)), .ref (b + (K + 8)), .ref (b + (K + 9)), .int 0]))) a (.inr (8, [.ref v1, .int 0, .int 0, .int 0, .ref (b + K), .ref (b + (K + 1)), .ref (b + (K + 2)), .ref (b + (K + 3)), .ref (b + (K + 4)), .ref (b + (K + 5)), .ref (b + (K + 6)), .ref (b + (K + 7)), .ref (b + (K + 8)), .ref (b + (K + 9)), .int 0]))
theorem kX8 {l : Launch} {G : Gx} {b d a K : Nat} {v1 : Nat} {cf : Nat → va_E} (ha : a < K) (he : cf a = .inr (8, [.null, .int 0, .int 0, .int 0, .null, .null, .null, .null, .null, .null, .null, .null, .null, .null, .int 0])) : MetP l G b yX8_init cX8_init 2 none (d + 1) 10 88 [.ref (b + a), .ref v1] (WS G b K cf) (pV b (WS G b (K + 10) (ctX8 b G a K v1 cf))) := by
  refine metP_start [some (.ref (b + a)), some (.ref v1)] (by decide +kernel) (Nat.le_of_ble_eq_true rfl) rfl ?_
  intro X hX ok h0 hnm
  have hz : Sz X b 0 K := h0.sz
  refine g_wk ?_
  refine g_aload_n (pc := 0) ok dX8_init_0 rfl ?_
  refine g_oinit (pc := 1) ok om_X8_3 oi_i oi_c (show 1 ≤ d + 1 by omega) (Nat.le_trans (Nat.le_of_ble_eq_true rfl : _ ≤ 60) (show 60 ≤ 60 * (d + 1) by omega)) dX8_init_1 ?_
  refine g_aload_n (pc := 4) ok dX8_init_4 rfl ?_
  refine g_bipush (pc := 5) ok 12 dX8_init_5 (by decide +kernel) ?_
  refine g_newaI' (pc := 7) (N := 12) ok (hz.up 0) (by decide) (by decide +kernel) (Nat.le_of_ble_eq_true rfl) (Nat.le_of_ble_eq_true rfl) (Nat.le_of_ble_eq_true rfl) dX8_init_7 ?_
  refine g_putF (pc := 9) ok hnm (k := 4) cls8 (show a < (K + 1) by omega) (va_upN (show a ≠ K by omega) he) (Nat.le_of_ble_eq_true rfl) cfl_X8_9 rfl rfl rfl rfl (Nat.le_of_ble_eq_true rfl) dX8_init_9 ?_
  refine g_aload_n (pc := 12) ok dX8_init_12 rfl ?_
  refine g_bipush (pc := 13) ok 12 dX8_init_13 (by decide +kernel) ?_
  refine g_newaI' (pc := 15) (N := 12) ok (hz.up 1) (by decide) (by decide +kernel) (Nat.le_of_ble_eq_true rfl) (Nat.le_of_ble_eq_true rfl) (Nat.le_of_ble_eq_true rfl) dX8_init_15 ?_
  refine g_putF (pc := 17) ok hnm (k := 5) cls8 (show a < (K + 2) by omega) (va_upN (show a ≠ (K + 1) by omega) va_upS) (Nat.le_of_ble_eq_true rfl) cfl_X8_15 rfl rfl rfl rfl (Nat.le_of_ble_eq_true rfl) dX8_init_17 ?_
  refine g_aload_n (pc := 20) ok dX8_init_20 rfl ?_
  refine g_bipush (pc := 21) ok 8 dX8_init_21 (by decide +kernel) ?_
  refine g_newaI' (pc := 23) (N := 8) ok (hz.up 2) (by decide) (by decide +kernel) (Nat.le_of_ble_eq_true rfl) (Nat.le_of_ble_eq_true rfl) (Nat.le_of_ble_eq_true rfl) dX8_init_23 ?_
  refine g_putF (pc := 25) ok hnm (k := 6) cls8 (show a < (K + 3) by omega) (va_upN (show a ≠ (K + 2) by omega) va_upS) (Nat.le_of_ble_eq_true rfl) cfl_X8_18 rfl rfl rfl rfl (Nat.le_of_ble_eq_true rfl) dX8_init_25 ?_
  refine g_aload_n (pc := 28) ok dX8_init_28 rfl ?_
  refine g_bipush (pc := 29) ok 8 dX8_init_29 (by decide +kernel) ?_
  refine g_newaI' (pc := 31) (N := 8) ok (hz.up 3) (by decide) (by decide +kernel) (Nat.le_of_ble_eq_true rfl) (Nat.le_of_ble_eq_true rfl) (Nat.le_of_ble_eq_true rfl) dX8_init_31 ?_
  refine g_putF (pc := 33) ok hnm (k := 7) cls8 (show a < (K + 4) by omega) (va_upN (show a ≠ (K + 3) by omega) va_upS) (Nat.le_of_ble_eq_true rfl) cfl_X8_21 rfl rfl rfl rfl (Nat.le_of_ble_eq_true rfl) dX8_init_33 ?_
  refine g_aload_n (pc := 36) ok dX8_init_36 rfl ?_
  refine g_bipush (pc := 37) ok 8 dX8_init_37 (by decide +kernel) ?_
  refine g_newaI' (pc := 39) (N := 8) ok (hz.up 4) (by decide) (by decide +kernel) (Nat.le_of_ble_eq_true rfl) (Nat.le_of_ble_eq_true rfl) (Nat.le_of_ble_eq_true rfl) dX8_init_39 ?_
  refine g_putF (pc := 41) ok hnm (k := 8) cls8 (show a < (K + 5) by omega) (va_upN (show a ≠ (K + 4) by omega) va_upS) (Nat.le_of_ble_eq_true rfl) cfl_X8_24 rfl rfl rfl rfl (Nat.le_of_ble_eq_true rfl) dX8_init_41 ?_
  refine g_aload_n (pc := 44) ok dX8_init_44 rfl ?_
  refine g_bipush (pc := 45) ok 8 dX8_init_45 (by decide +kernel) ?_
  refine g_newaI' (pc := 47) (N := 8) ok (hz.up 5) (by decide) (by decide +kernel) (Nat.le_of_ble_eq_true rfl) (Nat.le_of_ble_eq_true rfl) (Nat.le_of_ble_eq_true rfl) dX8_init_47 ?_
  refine g_putF (pc := 49) ok hnm (k := 9) cls8 (show a < (K + 6) by omega) (va_upN (show a ≠ (K + 5) by omega) va_upS) (Nat.le_of_ble_eq_true rfl) cfl_X8_27 rfl rfl rfl rfl (Nat.le_of_ble_eq_true rfl) dX8_init_49 ?_
  refine g_aload_n (pc := 52) ok dX8_init_52 rfl ?_
  refine g_bipush (pc := 53) ok 8 dX8_init_53 (by decide +kernel) ?_
  refine g_newaI' (pc := 55) (N := 8) ok (hz.up 6) (by decide) (by decide +kernel) (Nat.le_of_ble_eq_true rfl) (Nat.le_of_ble_eq_true rfl) (Nat.le_of_ble_eq_true rfl) dX8_init_55 ?_
  refine g_putF (pc := 57) ok hnm (k := 10) cls8 (show a < (K + 7) by omega) (va_upN (show a ≠ (K + 6) by omega) va_upS) (Nat.le_of_ble_eq_true rfl) cfl_X8_30 rfl rfl rfl rfl (Nat.le_of_ble_eq_true rfl) dX8_init_57 ?_
  refine g_aload_n (pc := 60) ok dX8_init_60 rfl ?_
  refine g_bipush (pc := 61) ok 8 dX8_init_61 (by decide +kernel) ?_
  refine g_newaI' (pc := 63) (N := 8) ok (hz.up 7) (by decide) (by decide +kernel) (Nat.le_of_ble_eq_true rfl) (Nat.le_of_ble_eq_true rfl) (Nat.le_of_ble_eq_true rfl) dX8_init_63 ?_
  refine g_putF (pc := 65) ok hnm (k := 11) cls8 (show a < (K + 8) by omega) (va_upN (show a ≠ (K + 7) by omega) va_upS) (Nat.le_of_ble_eq_true rfl) cfl_X8_33 rfl rfl rfl rfl (Nat.le_of_ble_eq_true rfl) dX8_init_65 ?_
  refine g_aload_n (pc := 68) ok dX8_init_68 rfl ?_
  refine g_bipush (pc := 69) ok 8 dX8_init_69 (by decide +kernel) ?_
  refine g_newaI' (pc := 71) (N := 8) ok (hz.up 8) (by decide) (by decide +kernel) (Nat.le_of_ble_eq_true rfl) (Nat.le_of_ble_eq_true rfl) (Nat.le_of_ble_eq_true rfl) dX8_init_71 ?_
  refine g_putF (pc := 73) ok hnm (k := 12) cls8 (show a < (K + 9) by omega) (va_upN (show a ≠ (K + 8) by omega) va_upS) (Nat.le_of_ble_eq_true rfl) cfl_X8_36 rfl rfl rfl rfl (Nat.le_of_ble_eq_true rfl) dX8_init_73 ?_
  refine g_aload_n (pc := 76) ok dX8_init_76 rfl ?_
  refine g_bipush (pc := 77) ok 8 dX8_init_77 (by decide +kernel) ?_
  refine g_newaI' (pc := 79) (N := 8) ok (hz.up 9) (by decide) (by decide +kernel) (Nat.le_of_ble_eq_true rfl) (Nat.le_of_ble_eq_true rfl) (Nat.le_of_ble_eq_true rfl) dX8_init_79 ?_
  refine g_putF (pc := 81) ok hnm (k := 13) cls8 (show a < (K + 10) by omega) (va_upN (show a ≠ (K + 9) by omega) va_upS) (Nat.le_of_ble_eq_true rfl) cfl_X8_39 rfl rfl rfl rfl (Nat.le_of_ble_eq_true rfl) dX8_init_81 ?_
  refine g_aload_n (pc := 84) ok dX8_init_84 rfl ?_
  refine g_aload_n (pc := 85) ok dX8_init_85 rfl ?_
  refine g_putF (pc := 86) ok hnm (k := 0) cls8 (show a < (K + 10) by omega) va_upS (Nat.le_of_ble_eq_true rfl) cfl_X8_42 rfl rfl rfl rfl (Nat.le_of_ble_eq_true rfl) dX8_init_86 ?_
  refine g_ws (hz.up 10) ?_
  exact g_vret (pc := 89) ok dX8_init_89 (fun _ h => h)
theorem ctX8_ne {G : Gx} {b a K q : Nat} {v1 : Nat} {cf : Nat → va_E} (h1 : q < K) (h2 : q ≠ a) : ctX8 b G a K v1 cf q = cf q := by
  unfold ctX8
  rw [va_up_ne _ _ h2, va_up_ne _ _ h2, va_up_ne _ _ (show q ≠ (K + 9) by omega), va_up_ne _ _ h2, va_up_ne _ _ (show q ≠ (K + 8) by omega), va_up_ne _ _ h2, va_up_ne _ _ (show q ≠ (K + 7) by omega), va_up_ne _ _ h2, va_up_ne _ _ (show q ≠ (K + 6) by omega), va_up_ne _ _ h2, va_up_ne _ _ (show q ≠ (K + 5) by omega), va_up_ne _ _ h2, va_up_ne _ _ (show q ≠ (K + 4) by omega), va_up_ne _ _ h2, va_up_ne _ _ (show q ≠ (K + 3) by omega), va_up_ne _ _ h2, va_up_ne _ _ (show q ≠ (K + 2) by omega), va_up_ne _ _ h2, va_up_ne _ _ (show q ≠ (K + 1) by omega), va_up_ne _ _ h2, va_up_ne _ _ (show q ≠ K by omega)]
theorem wi_X0_init : wI yX0_init cX0_init 3 := ⟨tg 478 (by decide +kernel) (by decide +kernel), tg 129 (by decide +kernel) (by decide +kernel), tg 479 rfl rfl, rfl⟩
theorem yi_X0_init : yOK yX0_init 2 := ⟨by decide +kernel, by decide +kernel, by decide +kernel⟩
theorem om_X0_3 : Cond.methodLink RX0 3 Lib.objectInit ∈ Tg := tg 480 (by decide +kernel) (by decide +kernel)
theorem cfl_X0_9 : Cond.fieldLink RX0 9 (TX0 4).1 (TX0 4).2.1 (TX0 4).2.2.1 ∈ Tg := tg 487 (by decide +kernel) (by decide +kernel)
theorem cfl_X0_15 : Cond.fieldLink RX0 15 (TX0 5).1 (TX0 5).2.1 (TX0 5).2.2.1 ∈ Tg := tg 488 (by decide +kernel) (by decide +kernel)
theorem cfl_X0_18 : Cond.fieldLink RX0 18 (TX0 6).1 (TX0 6).2.1 (TX0 6).2.2.1 ∈ Tg := tg 489 (by decide +kernel) (by decide +kernel)
theorem cfl_X0_21 : Cond.fieldLink RX0 21 (TX0 2).1 (TX0 2).2.1 (TX0 2).2.2.1 ∈ Tg := tg 485 (by decide +kernel) (by decide +kernel)
theorem cfl_X0_25 : Cond.fieldLink RX0 25 (TX0 3).1 (TX0 3).2.1 (TX0 3).2.2.1 ∈ Tg := tg 486 (by decide +kernel) (by decide +kernel)
def ctX0 (b : Nat) (G : Gx) (a K : Nat) (v1 : Nat) (v2 : Nat) (cf : Nat → va_E) : Nat → va_E := va_up (va_up (va_up (va_up (va_up (va_up (va_up (va_up (cf) K (.inl (G.2 2, 40, .inl (fun _ => 0)))) a (.inr (0, [.int 0, .int 0, .null, .null, .ref (b + K), .null, .null, .int 0, .int 0, .int 0, .int 0]))) (K + 1) (.inl (G.2 2, 40, .inl (fun _ => 0)))) a (.inr (0, [.int 0, .int 0, .null, .null, .ref (b + K), .ref (b + (K + 1)), .null, .int 0, .int 0, .int 0, .int 0]))) (K + 2) (.inl (G.2 2, 40, .inl (fun _ => 0)))) a (.inr (0, [.int 0, .int 0, .null, .null, .ref (b + K), .ref (b + (K + 1)), .ref (b + (K + 2)), .int 0, .int 0, .int 0, .int 0]))) a (.inr (0, [.int 0, .int 0, .ref v1, .null, .ref (b + K), .ref (b + (K + 1)), .ref (b + (K + 2)), .int 0, .int 0, .int 0, .int 0]))) a (.inr (0, [.int 0, .int 0, .ref v1, .ref v2, .ref (b + K), .ref (b + (K + 1)), .ref (b + (K + 2)), .int 0, .int 0, .int 0, .int 0]))
theorem kX0 {l : Launch} {G : Gx} {b d a K : Nat} {v1 : Nat} {v2 : Nat} {cf : Nat → va_E} (ha : a < K) (he : cf a = .inr (0, [.int 0, .int 0, .null, .null, .null, .null, .null, .int 0, .int 0, .int 0, .int 0])) : MetP l G b yX0_init cX0_init 3 none (d + 1) 3 120 [.ref (b + a), .ref v1, .ref v2] (WS G b K cf) (pV b (WS G b (K + 3) (ctX0 b G a K v1 v2 cf))) := by
  refine metP_start [some (.ref (b + a)), some (.ref v1), some (.ref v2)] (by decide +kernel) (Nat.le_of_ble_eq_true rfl) rfl ?_
  intro X hX ok h0 hnm
  have hz : Sz X b 0 K := h0.sz
  refine g_wk ?_
  refine g_aload_n (pc := 0) ok dX0_init_0 rfl ?_
  refine g_oinit (pc := 1) ok om_X0_3 oi_i oi_c (show 1 ≤ d + 1 by omega) (Nat.le_trans (Nat.le_of_ble_eq_true rfl : _ ≤ 60) (show 60 ≤ 60 * (d + 1) by omega)) dX0_init_1 ?_
  refine g_aload_n (pc := 4) ok dX0_init_4 rfl ?_
  refine g_bipush (pc := 5) ok 40 dX0_init_5 (by decide +kernel) ?_
  refine g_newaI' (pc := 7) (N := 40) ok (hz.up 0) (by decide) (by decide +kernel) (Nat.le_of_ble_eq_true rfl) (Nat.le_of_ble_eq_true rfl) (Nat.le_of_ble_eq_true rfl) dX0_init_7 ?_
  refine g_putF (pc := 9) ok hnm (k := 4) cls0 (show a < (K + 1) by omega) (va_upN (show a ≠ K by omega) he) (Nat.le_of_ble_eq_true rfl) cfl_X0_9 rfl rfl rfl rfl (Nat.le_of_ble_eq_true rfl) dX0_init_9 ?_
  refine g_aload_n (pc := 12) ok dX0_init_12 rfl ?_
  refine g_bipush (pc := 13) ok 40 dX0_init_13 (by decide +kernel) ?_
  refine g_newaI' (pc := 15) (N := 40) ok (hz.up 1) (by decide) (by decide +kernel) (Nat.le_of_ble_eq_true rfl) (Nat.le_of_ble_eq_true rfl) (Nat.le_of_ble_eq_true rfl) dX0_init_15 ?_
  refine g_putF (pc := 17) ok hnm (k := 5) cls0 (show a < (K + 2) by omega) (va_upN (show a ≠ (K + 1) by omega) va_upS) (Nat.le_of_ble_eq_true rfl) cfl_X0_15 rfl rfl rfl rfl (Nat.le_of_ble_eq_true rfl) dX0_init_17 ?_
  refine g_aload_n (pc := 20) ok dX0_init_20 rfl ?_
  refine g_bipush (pc := 21) ok 40 dX0_init_21 (by decide +kernel) ?_
  refine g_newaI' (pc := 23) (N := 40) ok (hz.up 2) (by decide) (by decide +kernel) (Nat.le_of_ble_eq_true rfl) (Nat.le_of_ble_eq_true rfl) (Nat.le_of_ble_eq_true rfl) dX0_init_23 ?_
  refine g_putF (pc := 25) ok hnm (k := 6) cls0 (show a < (K + 3) by omega) (va_upN (show a ≠ (K + 2) by omega) va_upS) (Nat.le_of_ble_eq_true rfl) cfl_X0_18 rfl rfl rfl rfl (Nat.le_of_ble_eq_true rfl) dX0_init_25 ?_
  refine g_aload_n (pc := 28) ok dX0_init_28 rfl ?_
  refine g_aload_n (pc := 29) ok dX0_init_29 rfl ?_
  refine g_putF (pc := 30) ok hnm (k := 2) cls0 (show a < (K + 3) by omega) va_upS (Nat.le_of_ble_eq_true rfl) cfl_X0_21 rfl rfl rfl rfl (Nat.le_of_ble_eq_true rfl) dX0_init_30 ?_
  refine g_aload_n (pc := 33) ok dX0_init_33 rfl ?_
  refine g_aload_n (pc := 34) ok dX0_init_34 rfl ?_
  refine g_putF (pc := 35) ok hnm (k := 3) cls0 (show a < (K + 3) by omega) va_upS (Nat.le_of_ble_eq_true rfl) cfl_X0_25 rfl rfl rfl rfl (Nat.le_of_ble_eq_true rfl) dX0_init_35 ?_
  refine g_ws (hz.up 3) ?_
  exact g_vret (pc := 38) ok dX0_init_38 (fun _ h => h)
theorem ctX0_ne {G : Gx} {b a K q : Nat} {v1 : Nat} {v2 : Nat} {cf : Nat → va_E} (h1 : q < K) (h2 : q ≠ a) : ctX0 b G a K v1 v2 cf q = cf q := by
  unfold ctX0
  rw [va_up_ne _ _ h2, va_up_ne _ _ h2, va_up_ne _ _ h2, va_up_ne _ _ (show q ≠ (K + 2) by omega), va_up_ne _ _ h2, va_up_ne _ _ (show q ≠ (K + 1) by omega), va_up_ne _ _ h2, va_up_ne _ _ (show q ≠ K by omega)]
theorem wi_X9_init : wI yX9_init cX9_init 1 := ⟨tg 261 (by decide +kernel) (by decide +kernel), tg 123 (by decide +kernel) (by decide +kernel), tg 262 rfl rfl, rfl⟩
theorem yi_X9_init : yOK yX9_init 0 := ⟨by decide +kernel, by decide +kernel, by decide +kernel⟩
theorem om_X9_1 : Cond.methodLink RX9 1 Lib.objectInit ∈ Tg := tg 263 (by decide +kernel) (by decide +kernel)
theorem kl_X9_7 : Cond.classLink RX9 7 RX5 ∈ Tg := tg 264 (by decide +kernel) (by decide +kernel)
theorem il_X9_9 : Cond.methodLinkNest RX9 9 yX5_init "KnockLane" ∈ Tn := tn 266 (by decide +kernel)
theorem cfl_X9_10 : Cond.fieldLink RX9 10 (TX9 0).1 (TX9 0).2.1 (TX9 0).2.2.1 ∈ Tg := tg 412 (by decide +kernel) (by decide +kernel)
theorem kl_X9_16 : Cond.classLink RX9 16 RX8 ∈ Tg := tg 321 (by decide +kernel) (by decide +kernel)
theorem il_X9_18 : Cond.methodLink RX9 18 yX8_init ∈ Tg := tg 323 (by decide +kernel) (by decide +kernel)
theorem cfl_X9_21 : Cond.fieldLink RX9 21 (TX9 1).1 (TX9 1).2.1 (TX9 1).2.2.1 ∈ Tg := tg 415 (by decide +kernel) (by decide +kernel)
theorem kl_X9_25 : Cond.classLink RX9 25 RX7 ∈ Tg := tg 382 (by decide +kernel) (by decide +kernel)
theorem il_X9_27 : Cond.methodLinkNest RX9 27 yX7_init "KnockLane" ∈ Tn := tn 384 (by decide +kernel)
theorem cfl_X9_28 : Cond.fieldLink RX9 28 (TX9 2).1 (TX9 2).2.1 (TX9 2).2.2.1 ∈ Tg := tg 417 (by decide +kernel) (by decide +kernel)
def ctX9 (b : Nat) (G : Gx) (a K : Nat) (cf : Nat → va_E) : Nat → va_E := va_up (ctX7 b G (K + 18) (K + 19) (va_up (va_up (ctX8 b G (K + 7) (K + 8) ((b + K)) (va_up (va_up (ctX5 b G K (K + 1) (va_up (cf) K (.inr (5, [.int 0, .int 0, .int 0, .int 0, .int 0, .null, .null, .null, .null, .null, .null])))) a (.inr (9, [.ref (b + K), .null, .null, .int 0]))) (K + 7) (.inr (8, [.null, .int 0, .int 0, .int 0, .null, .null, .null, .null, .null, .null, .null, .null, .null, .null, .int 0])))) a (.inr (9, [.ref (b + K), .ref (b + (K + 7)), .null, .int 0]))) (K + 18) (.inr (7, [.int 0, .int 0, .null, .null, .null, .null, .int 0])))) a (.inr (9, [.ref (b + K), .ref (b + (K + 7)), .ref (b + (K + 18)), .int 0]))
theorem kX9 {l : Launch} {G : Gx} {b d a K : Nat} {cf : Nat → va_E} (ha : a < K) (he : cf a = .inr (9, [.null, .null, .null, .int 0])) : MetP l G b yX9_init cX9_init 1 none (d + 2) 23 323 [.ref (b + a)] (WS G b K cf) (pV b (WS G b (K + 23) (ctX9 b G a K cf))) := by
  refine metP_start [some (.ref (b + a))] (by decide +kernel) (Nat.le_of_ble_eq_true rfl) rfl ?_
  intro X hX ok h0 hnm
  have hz : Sz X b 0 K := h0.sz
  refine g_wk ?_
  refine g_aload_n (pc := 0) ok dX9_init_0 rfl ?_
  refine g_oinit (pc := 1) ok om_X9_1 oi_i oi_c (show 1 ≤ d + 2 by omega) (Nat.le_trans (Nat.le_of_ble_eq_true rfl : _ ≤ 60) (show 60 ≤ 60 * (d + 2) by omega)) dX9_init_1 ?_
  refine g_aload_n (pc := 4) ok dX9_init_4 rfl ?_
  refine g_new (pc := 5) ok cls5 kl_X9_7 in_X5 ii_X5 (hz.up 0) df_X5 (Nat.le_of_ble_eq_true rfl) (Nat.le_of_ble_eq_true rfl) dX9_init_5 ?_
  refine g_dup (pc := 8) ok dX9_init_8 rfl ?_
  refine g_ws (hz.up 1) ?_
  refine g_kV (pc := 9) (g_cIN (dy := d + 1) (mc := 6) (ms := 42) (a := b + K) (As := []) ok il_X9_9 wi_X5_init yi_X5_init rfl (Nat.le_refl _) (show 8 + (1 + 11) + 60 * (d + 1) ≤ 60 * (d + 2) by omega) (Nat.le_of_ble_eq_true rfl) (Nat.le_of_ble_eq_true rfl) (kX5 (K := (K + 1)) (show K < (K + 1) by omega) va_upS) rfl (Nat.le_of_ble_eq_true rfl) dX9_init_9) ?_
  refine g_wk ?_
  refine g_putF (pc := 12) ok hnm (k := 0) cls9 (show a < (K + 7) by omega) ((ctX5_ne (show a < (K + 1) by omega) (show a ≠ K by omega)).trans (va_upN (show a ≠ K by omega) he)) (Nat.le_of_ble_eq_true rfl) cfl_X9_10 rfl rfl rfl rfl (Nat.le_of_ble_eq_true rfl) dX9_init_12 ?_
  refine g_aload_n (pc := 15) ok dX9_init_15 rfl ?_
  refine g_new (pc := 16) ok cls8 kl_X9_16 in_X8 ii_X8 (hz.up 7) df_X8 (Nat.le_of_ble_eq_true rfl) (Nat.le_of_ble_eq_true rfl) dX9_init_16 ?_
  refine g_dup (pc := 19) ok dX9_init_19 rfl ?_
  refine g_aload_n (pc := 20) ok dX9_init_20 rfl ?_
  refine g_get (pc := 21) (k := 0) ok cls9 (show a < (K + 8) by omega) (va_upN (show a ≠ (K + 7) by omega) va_upS) (Nat.le_of_ble_eq_true rfl) cfl_X9_10 rfl dX9_init_21 ?_
  refine g_ws (hz.up 8) ?_
  refine g_kV (pc := 24) (g_cI (dy := d + 1) (mc := 10) (ms := 88) (a := b + (K + 7)) (As := [.ref (b + K)]) ok il_X9_18 wi_X8_init yi_X8_init rfl (Nat.le_refl _) (show 8 + (2 + 11) + 60 * (d + 1) ≤ 60 * (d + 2) by omega) (Nat.le_of_ble_eq_true rfl) (Nat.le_of_ble_eq_true rfl) (kX8 (K := (K + 8)) (show (K + 7) < (K + 8) by omega) va_upS) rfl (Nat.le_of_ble_eq_true rfl) dX9_init_24) ?_
  refine g_wk ?_
  refine g_putF (pc := 27) ok hnm (k := 1) cls9 (show a < (K + 18) by omega) ((ctX8_ne (show a < (K + 8) by omega) (show a ≠ (K + 7) by omega)).trans (va_upN (show a ≠ (K + 7) by omega) va_upS)) (Nat.le_of_ble_eq_true rfl) cfl_X9_21 rfl rfl rfl rfl (Nat.le_of_ble_eq_true rfl) dX9_init_27 ?_
  refine g_aload_n (pc := 30) ok dX9_init_30 rfl ?_
  refine g_new (pc := 31) ok cls7 kl_X9_25 in_X7 ii_X7 (hz.up 18) df_X7 (Nat.le_of_ble_eq_true rfl) (Nat.le_of_ble_eq_true rfl) dX9_init_31 ?_
  refine g_dup (pc := 34) ok dX9_init_34 rfl ?_
  refine g_ws (hz.up 19) ?_
  refine g_kV (pc := 35) (g_cIN (dy := d + 1) (mc := 4) (ms := 160) (a := b + (K + 18)) (As := []) ok il_X9_27 wi_X7_init yi_X7_init rfl (Nat.le_refl _) (show 8 + (1 + 11) + 60 * (d + 1) ≤ 60 * (d + 2) by omega) (Nat.le_of_ble_eq_true rfl) (Nat.le_of_ble_eq_true rfl) (kX7 (K := (K + 19)) (show (K + 18) < (K + 19) by omega) va_upS) rfl (Nat.le_of_ble_eq_true rfl) dX9_init_35) ?_
  refine g_wk ?_
  refine g_putF (pc := 38) ok hnm (k := 2) cls9 (show a < (K + 23) by omega) ((ctX7_ne (show a < (K + 19) by omega) (show a ≠ (K + 18) by omega)).trans (va_upN (show a ≠ (K + 18) by omega) va_upS)) (Nat.le_of_ble_eq_true rfl) cfl_X9_28 rfl rfl rfl rfl (Nat.le_of_ble_eq_true rfl) dX9_init_38 ?_
  refine g_ws (hz.up 23) ?_
  exact g_vret (pc := 41) ok dX9_init_41 (fun _ h => h)
