theorem vKL_most {Z : Cx} {G : Gx} {b : Nat} {YY : Nat → Obj} {X : Nat → Obj} (ok : OK Z G b cX11_most 1 4 RX11 (some .int)) : VO Z G b 1 (fun (r : Int32 × (Nat → Obj)) => QX Z b (qI G b r.1 (mx r.2 YY))) (mx X YY) 0 [some (.ref (b + 0))] [] ((fKL_most X).bind some) := by
  unfold fKL_most
  refine r_aload_n (pc := 0) ok dX11_most_0 rfl ?_
  refine r_aload_n (pc := 1) ok dX11_most_1 rfl ?_
  refine r_getR (pc := 2) ok cls11 sh_0 (k := 9) rfl (Nat.le_of_ble_eq_true rfl) rfl dX11_most_2 fl_KL_73 ?_
  refine r_aload_n (pc := 5) ok dX11_most_5 rfl ?_
  refine r_getR (pc := 6) ok cls11 sh_0 (k := 1) rfl (Nat.le_of_ble_eq_true rfl) rfl dX11_most_6 fl_KL_19 ?_
  refine r_getR (pc := 9) ok cls9 sh_4 (k := 1) rfl (Nat.le_of_ble_eq_true rfl) rfl dX11_most_9 fl_KL_140 ?_
  refine k_I (pc := 12) (fun r1 => r1.1) (fun r1 => mx ((va_up X 217 r1.2)) YY) (fun r1 hr_ => c_V (n := 1) ok cls3 sh_217 rfl ml_KL_235 wv_X3_greatestSet yk_X3_greatestSet rfl (Nat.le_of_ble_eq_true rfl) (Nat.le_of_ble_eq_true rfl) (met_cast (by rw [up_eta]) rfl (tMt_greatestSet (rfl) (rfl) hr_)) rfl (Nat.le_of_ble_eq_true rfl) dX11_most_12) (fun r1 => ?_)
  refine r_bndX (wf := (fun x_ => mx x_ YY)) (fun X2 => ?_)
  refine r_putG (pc := 15) ok cls11 sh_0 (k := 13) rfl (Nat.le_of_ble_eq_true rfl) (Nat.le_of_ble_eq_true rfl) rfl rfl rfl dX11_most_15 fl_KL_97 (fun X3 => ?_)
  refine r_aload_n (pc := 18) ok dX11_most_18 rfl ?_
  refine r_getI (pc := 19) ok cls11 sh_0 (k := 13) rfl (Nat.le_of_ble_eq_true rfl) (mx_l (Nat.le_of_ble_eq_true rfl) rfl) dX11_most_19 fl_KL_97 ?_
  refine k_I (pc := 22) (fun r4 => r4) (fun r4 => mx X3 YY) (fun r4 hr_ => c_S (n := 1) ok ml_KL_238 ws_J6_bitCount_0f7a4 yk_J6_bitCount_0f7a4 rfl (Nat.le_of_ble_eq_true rfl) (Nat.le_of_ble_eq_true rfl) (tJI_bitCount hr_) rfl (Nat.le_of_ble_eq_true rfl) dX11_most_22) (fun r4 => ?_)
  exact r_iret (pc := 25) ok dX11_most_25 rfl
theorem tKL_most {l : Launch} {G : Gx} {b : Nat} {YY : Nat → Obj} {X : Nat → Obj} {r : Int32 × (Nat → Obj)} (hr : fKL_most X = some r) : MetG l G b yX11_most cX11_most 1 (some .int) 4 [.ref (b + 0)] (mx X YY) (qI G b r.1 (mx r.2 YY)) := by
  refine met_start [some (.ref (b + 0))] (by decide +kernel) (Nat.le_of_ble_eq_true rfl) rfl (fun Z hl ok => ?_)
  clear hl
  exact vKL_most ok r (by rw [hr]; rfl)
theorem vKL_those {Z : Cx} {G : Gx} {b : Nat} {YY : Nat → Obj} {X : Nat → Obj} (ok : OK Z G b cX11_those 1 0 RX11 (some .int)) : VO Z G b 1 (fun (r : Int32) => QX Z b (qI G b r (mx X YY))) (mx X YY) 0 [some (.ref (b + 0))] [] ((fKL_those X).bind some) := by
  unfold fKL_those
  refine r_aload_n (pc := 0) ok dX11_those_0 rfl ?_
  refine r_getI (pc := 1) ok cls11 sh_0 (k := 13) rfl (Nat.le_of_ble_eq_true rfl) (mx_l (Nat.le_of_ble_eq_true rfl) rfl) dX11_those_1 fl_KL_97 ?_
  exact r_iret (pc := 4) ok dX11_those_4 rfl
theorem tKL_those {l : Launch} {G : Gx} {b : Nat} {YY : Nat → Obj} {X : Nat → Obj} {r : Int32} (hr : fKL_those X = some r) : MetG l G b yX11_those cX11_those 1 (some .int) 0 [.ref (b + 0)] (mx X YY) (qI G b r (mx X YY)) := by
  refine met_start [some (.ref (b + 0))] (by decide +kernel) (Nat.le_of_ble_eq_true rfl) rfl (fun Z hl ok => ?_)
  clear hl
  exact vKL_those ok r (by rw [hr]; rfl)
theorem vSc_knownTo {Z : Cx} {G : Gx} {b : Nat} {io : Nat} {XX YY : Nat → Obj} {q : Obj} {sc : Obj} {v1 : Int32} (ok : OK Z G b cX8_knownTo 2 1 RX8 (some .int)) (ho : isSc io) (hr_q : XX (qid io) = q) (hr_sc : XX io = sc) : VO Z G b 2 (fun (r : Int32) => QX Z b (qI G b r (mx XX YY))) (mx XX YY) 0 [some (.ref (b + io)), some (.int v1)] [] ((fSc_knownTo q sc v1).bind some) := by
  unfold fSc_knownTo
  refine r_aload_n (pc := 0) ok dX8_knownTo_0 rfl ?_
  refine r_getR (pc := 1) ok cls8 (sc_sh ho) (k := 0) rfl (Nat.le_of_ble_eq_true rfl) rfl dX8_knownTo_1 fl_Sc_42 ?_
  refine r_iload_n (pc := 4) ok dX8_knownTo_4 rfl ?_
  refine k_I (pc := 5) (fun r1 => r1) (fun r1 => mx XX YY) (fun r1 hr_ => c_V (n := 1) ok cls5 (qu_sh (qid_qu ho)) rfl ml_Sc_62 wv_X5_hasPerson yk_X5_hasPerson rfl (Nat.le_of_ble_eq_true rfl) (Nat.le_of_ble_eq_true rfl) (tQu_hasPerson (qid_qu ho) (hr_q) hr_) rfl (Nat.le_of_ble_eq_true rfl) dX8_knownTo_5) (fun r1 => ?_)
  refine r_if_eq (pc := 8) ok 20 dX8_knownTo_8 rfl (fun _ => ?_) (fun _ => ?_)
  · refine r_iconst (pc := 20) ok (0 : Int32) dX8_knownTo_20 ci_0 ?_
    exact r_iret (pc := 21) ok dX8_knownTo_21 rfl
  · refine r_aload_n (pc := 11) ok dX8_knownTo_11 rfl ?_
    refine r_getR (pc := 12) ok cls8 (sc_sh ho) (k := 11) rfl (Nat.le_of_ble_eq_true rfl) rfl dX8_knownTo_12 fl_Sc_33 ?_
    refine r_iload_n (pc := 15) ok dX8_knownTo_15 rfl ?_
    refine r_iald (pc := 16) ok (sc_s8 ho) (Nat.add_sub_cancel_left _ _) (mx_l (sc_lt ho) (hr_sc)) dX8_knownTo_16 (fun i2 => ?_)
    refine r_goto (pc := 17) ok 21 dX8_knownTo_17 rfl ?_
    exact r_iret (pc := 21) ok dX8_knownTo_21 rfl
theorem tSc_knownTo {l : Launch} {G : Gx} {b : Nat} {io : Nat} {XX YY : Nat → Obj} {q : Obj} {sc : Obj} {v1 : Int32} (ho : isSc io) (hr_q : XX (qid io) = q) (hr_sc : XX io = sc) {r : Int32} (hr : fSc_knownTo q sc v1 = some r) : MetG l G b yX8_knownTo cX8_knownTo 2 (some .int) 1 [.ref (b + io), .int v1] (mx XX YY) (qI G b r (mx XX YY)) := by
  refine met_start [some (.ref (b + io)), some (.int v1)] (by decide +kernel) (Nat.le_of_ble_eq_true rfl) rfl (fun Z hl ok => ?_)
  clear hl
  exact vSc_knownTo ok ho hr_q hr_sc r (by rw [hr]; rfl)
theorem wCh_knownToAny_L4 {Z : Cx} {G : Gx} {b : Nat} {XX YY : Nat → Obj} {q : Obj} {sc : Obj} {v1 : Int32} (ok : OK Z G b cX1_knownToAny 4 2 RX1 (some .int)) (hr_q : XX 5 = q) (hr_sc : XX 12 = sc) {K : ((Int32 × Int32) ⊕ (Int32)) → Option (Int32)} (hc : ∀ (a : Int32 × Int32), VO Z G b 4 (fun (r : Int32) => QX Z b (qI G b r (mx XX YY))) (mx XX YY) 4 [some (.ref (b + 12)), some (.int v1), some (.int a.1), some (.int a.2)] [] (K (.inl a))) (hx : ∀ (e : Int32), VO Z G b 4 (fun (r : Int32) => QX Z b (qI G b r (mx XX YY))) (mx XX YY) 32 [none, none, some (.int e), none] [] (K (.inr e))) : ∀ (a : Int32 × Int32), VO Z G b 4 (fun (r : Int32) => QX Z b (qI G b r (mx XX YY))) (mx XX YY) 4 [some (.ref (b + 12)), some (.int v1), some (.int a.1), some (.int a.2)] [] ((fCh_knownToAny_L4 q sc v1 a).bind K) := by
  intro a
  unfold fCh_knownToAny_L4
  refine r_iload_n (pc := 4) ok dX1_knownToAny_4 rfl ?_
  refine r_bipush (pc := 5) ok (8 : Int32) dX1_knownToAny_5 cb_8 ?_
  refine r_icmp_ge (pc := 7) ok 32 dX1_knownToAny_7 rfl (fun _ => ?_) (fun _ => ?_)
  · refine r_lv (lk_n (lk_n (lk_s (lk_n lk_0 _) _) _) _) ?_
    exact hx a.1
  · refine r_iload_n (pc := 10) ok dX1_knownToAny_10 rfl ?_
    refine r_iload_n (pc := 11) ok dX1_knownToAny_11 rfl ?_
    refine k_I (pc := 12) (fun r1 => r1) (fun r1 => mx XX YY) (fun r1 hr_ => c_SN (n := 2) ok mn_Ch_18 ws_X11_hasBit yk_X11_hasBit rfl (Nat.le_of_ble_eq_true rfl) (Nat.le_of_ble_eq_true rfl) (tKL_hasBit hr_) rfl (Nat.le_of_ble_eq_true rfl) dX1_knownToAny_12) (fun r1 => ?_)
    refine r_if_eq (pc := 15) ok 26 dX1_knownToAny_15 rfl (fun _ => ?_) (fun _ => ?_)
    · refine r_iinc (pc := 26) ok (1 : Int32) dX1_knownToAny_26 ci_1 rfl (Nat.le_of_ble_eq_true rfl) rfl ?_
      refine r_goto (pc := 29) ok 4 dX1_knownToAny_29 rfl ?_
      exact hc (a.1, (a.2 + (1 : Int32)))
    · refine r_iload_n (pc := 18) ok dX1_knownToAny_18 rfl ?_
      refine r_aload_n (pc := 19) ok dX1_knownToAny_19 rfl ?_
      refine r_iload_n (pc := 20) ok dX1_knownToAny_20 rfl ?_
      refine k_I (pc := 21) (fun r2 => r2) (fun r2 => mx XX YY) (fun r2 hr_ => c_V (n := 1) ok cls8 sh_12 rfl ml_Ch_30 wv_X8_knownTo yk_X8_knownTo rfl (Nat.le_of_ble_eq_true rfl) (Nat.le_of_ble_eq_true rfl) (tSc_knownTo (sc_c (o := 12) (by decide)) (hr_q) (hr_sc) hr_) rfl (Nat.le_of_ble_eq_true rfl) dX1_knownToAny_21) (fun r2 => ?_)
      refine r_ior (pc := 24) ok dX1_knownToAny_24 ?_
      refine r_bndI (fun x3 => ?_)
      refine r_istore_n (pc := 25) ok dX1_knownToAny_25 (Nat.le_of_ble_eq_true rfl) rfl ?_
      refine r_iinc (pc := 26) ok (1 : Int32) dX1_knownToAny_26 ci_1 rfl (Nat.le_of_ble_eq_true rfl) rfl ?_
      refine r_goto (pc := 29) ok 4 dX1_knownToAny_29 rfl ?_
      exact hc (x3, (a.2 + (1 : Int32)))
theorem vCh_knownToAny {Z : Cx} {G : Gx} {b : Nat} {XX YY : Nat → Obj} {q : Obj} {sc : Obj} {v1 : Int32} (ok : OK Z G b cX1_knownToAny 4 2 RX1 (some .int)) (hr_q : XX 5 = q) (hr_sc : XX 12 = sc) : VO Z G b 4 (fun (r : Int32) => QX Z b (qI G b r (mx XX YY))) (mx XX YY) 0 [some (.ref (b + 12)), some (.int v1), none, none] [] ((fCh_knownToAny q sc v1).bind some) := by
  unfold fCh_knownToAny
  refine r_iconst (pc := 0) ok (0 : Int32) dX1_knownToAny_0 ci_0 ?_
  refine r_istore_n (pc := 1) ok dX1_knownToAny_1 (Nat.le_of_ble_eq_true rfl) rfl ?_
  refine r_iconst (pc := 2) ok (0 : Int32) dX1_knownToAny_2 ci_0 ?_
  refine r_istore_n (pc := 3) ok dX1_knownToAny_3 (Nat.le_of_ble_eq_true rfl) rfl ?_
  refine r_iter (P := fun (a4 : Int32 × Int32) o => VO Z G b 4 (fun (r : Int32) => QX Z b (qI G b r (mx XX YY))) (mx XX YY) 4 [some (.ref (b + 12)), some (.int v1), some (.int a4.1), some (.int a4.2)] [] o) (E := fun (e_4 : Int32) o => VO Z G b 4 (fun (r : Int32) => QX Z b (qI G b r (mx XX YY))) (mx XX YY) 32 [none, none, some (.int e_4), none] [] o) (fun _ => r_none) (fun K hc hx => wCh_knownToAny_L4 ok hr_q hr_sc (K := K) hc hx) (fun e4 => ?_) FU ((0 : Int32), (0 : Int32))
  refine r_iload_n (pc := 32) ok dX1_knownToAny_32 rfl ?_
  exact r_iret (pc := 33) ok dX1_knownToAny_33 rfl
theorem tCh_knownToAny {l : Launch} {G : Gx} {b : Nat} {XX YY : Nat → Obj} {q : Obj} {sc : Obj} {v1 : Int32} (hr_q : XX 5 = q) (hr_sc : XX 12 = sc) {r : Int32} (hr : fCh_knownToAny q sc v1 = some r) : MetG l G b yX1_knownToAny cX1_knownToAny 4 (some .int) 2 [.ref (b + 12), .int v1] (mx XX YY) (qI G b r (mx XX YY)) := by
  refine met_start [some (.ref (b + 12)), some (.int v1), none, none] (by decide +kernel) (Nat.le_of_ble_eq_true rfl) rfl (fun Z hl ok => ?_)
  clear hl
  exact vCh_knownToAny ok hr_q hr_sc r (by rw [hr]; rfl)
theorem wKL_bitInOrder_L4 {Z : Cx} {G : Gx} {b : Nat} {XX YY : Nat → Obj} {v0 : Int32} {v1 : Int32} (ok : OK Z G b cX11_bitInOrder 4 1 RX11 (some .int)) {K : ((Int32 × Int32) ⊕ ((Unit) ⊕ (Int32))) → Option (Int32)} (hc : ∀ (a : Int32 × Int32), VO Z G b 4 (fun (r : Int32) => QX Z b (qI G b r (mx XX YY))) (mx XX YY) 4 [some (.int v0), some (.int v1), some (.int a.1), some (.int a.2)] [] (K (.inl a))) (hx : ∀ (z : (Unit) ⊕ (Int32)), (∀ (e : Unit), z = .inl e → VO Z G b 4 (fun (r : Int32) => QX Z b (qI G b r (mx XX YY))) (mx XX YY) 34 [none, none, none, none] [] (K (.inr z))) ∧ (∀ (r : Int32), z = .inr r → K (.inr z) = some r)) : ∀ (a : Int32 × Int32), VO Z G b 4 (fun (r : Int32) => QX Z b (qI G b r (mx XX YY))) (mx XX YY) 4 [some (.int v0), some (.int v1), some (.int a.1), some (.int a.2)] [] ((fKL_bitInOrder_L4 v0 v1 a).bind K) := by
  intro a
  unfold fKL_bitInOrder_L4
  refine r_iload_n (pc := 4) ok dX11_bitInOrder_4 rfl ?_
  refine r_bipush (pc := 5) ok (8 : Int32) dX11_bitInOrder_5 cb_8 ?_
  refine r_icmp_ge (pc := 7) ok 34 dX11_bitInOrder_7 rfl (fun _ => ?_) (fun _ => ?_)
  · refine r_lv (lk_n (lk_n (lk_n (lk_n lk_0 _) _) _) _) ?_
    exact (hx (.inl ())).1 _ rfl
  · refine r_iload_n (pc := 10) ok dX11_bitInOrder_10 rfl ?_
    refine r_iload_n (pc := 11) ok dX11_bitInOrder_11 rfl ?_
    refine k_I (pc := 12) (fun r1 => r1) (fun r1 => mx XX YY) (fun r1 hr_ => c_S (n := 2) ok ml_KL_350 ws_X11_hasBit yk_X11_hasBit rfl (Nat.le_of_ble_eq_true rfl) (Nat.le_of_ble_eq_true rfl) (tKL_hasBit hr_) rfl (Nat.le_of_ble_eq_true rfl) dX11_bitInOrder_12) (fun r1 => ?_)
    refine r_if_eq (pc := 15) ok 28 dX11_bitInOrder_15 rfl (fun _ => ?_) (fun _ => ?_)
    · refine r_iinc (pc := 28) ok (1 : Int32) dX11_bitInOrder_28 ci_1 rfl (Nat.le_of_ble_eq_true rfl) rfl ?_
      refine r_goto (pc := 31) ok 4 dX11_bitInOrder_31 rfl ?_
      exact hc (a.1, (a.2 + (1 : Int32)))
    · refine r_iload_n (pc := 18) ok dX11_bitInOrder_18 rfl ?_
      refine r_iload_n (pc := 19) ok dX11_bitInOrder_19 rfl ?_
      refine r_icmp_ne (pc := 20) ok 25 dX11_bitInOrder_20 rfl (fun _ => ?_) (fun _ => ?_)
      · refine r_iload_n (pc := 23) ok dX11_bitInOrder_23 rfl ?_
        refine r_eq ((hx (.inr a.2)).2 _ rfl) ?_
        exact r_iret (pc := 24) ok dX11_bitInOrder_24 rfl
      · refine r_iinc (pc := 25) ok (1 : Int32) dX11_bitInOrder_25 ci_1 rfl (Nat.le_of_ble_eq_true rfl) rfl ?_
        refine r_iinc (pc := 28) ok (1 : Int32) dX11_bitInOrder_28 ci_1 rfl (Nat.le_of_ble_eq_true rfl) rfl ?_
        refine r_goto (pc := 31) ok 4 dX11_bitInOrder_31 rfl ?_
        exact hc ((a.1 + (1 : Int32)), (a.2 + (1 : Int32)))
theorem vKL_bitInOrder {Z : Cx} {G : Gx} {b : Nat} {XX YY : Nat → Obj} {v0 : Int32} {v1 : Int32} (ok : OK Z G b cX11_bitInOrder 4 1 RX11 (some .int)) : VO Z G b 4 (fun (r : Int32) => QX Z b (qI G b r (mx XX YY))) (mx XX YY) 0 [some (.int v0), some (.int v1), none, none] [] ((fKL_bitInOrder v0 v1).bind some) := by
  unfold fKL_bitInOrder
  refine r_iconst (pc := 0) ok (0 : Int32) dX11_bitInOrder_0 ci_0 ?_
  refine r_istore_n (pc := 1) ok dX11_bitInOrder_1 (Nat.le_of_ble_eq_true rfl) rfl ?_
  refine r_iconst (pc := 2) ok (0 : Int32) dX11_bitInOrder_2 ci_0 ?_
  refine r_istore_n (pc := 3) ok dX11_bitInOrder_3 (Nat.le_of_ble_eq_true rfl) rfl ?_
  refine r_iter (P := fun (a4 : Int32 × Int32) o => VO Z G b 4 (fun (r : Int32) => QX Z b (qI G b r (mx XX YY))) (mx XX YY) 4 [some (.int v0), some (.int v1), some (.int a4.1), some (.int a4.2)] [] o) (E := fun (z : (Unit) ⊕ (Int32)) o => (∀ (e_4 : Unit), z = .inl e_4 → VO Z G b 4 (fun (r : Int32) => QX Z b (qI G b r (mx XX YY))) (mx XX YY) 34 [none, none, none, none] [] o) ∧ (∀ (r : Int32), z = .inr r → o = some r)) (fun _ => r_none) (fun K hc hx => wKL_bitInOrder_L4 ok (K := K) hc hx) (fun z => ⟨fun e2 hz => ?_, fun r hz => ?_⟩) FU ((0 : Int32), (0 : Int32))
  · subst hz
    refine r_inl ?_
    refine r_iconst (pc := 34) ok (-1 : Int32) dX11_bitInOrder_34 ci_m1 ?_
    exact r_iret (pc := 35) ok dX11_bitInOrder_35 rfl
  · subst hz
    rfl
theorem tKL_bitInOrder {l : Launch} {G : Gx} {b : Nat} {XX YY : Nat → Obj} {v0 : Int32} {v1 : Int32} {r : Int32} (hr : fKL_bitInOrder v0 v1 = some r) : MetG l G b yX11_bitInOrder cX11_bitInOrder 4 (some .int) 1 [.int v0, .int v1] (mx XX YY) (qI G b r (mx XX YY)) := by
  refine met_start [some (.int v0), some (.int v1), none, none] (by decide +kernel) (Nat.le_of_ble_eq_true rfl) rfl (fun Z hl ok => ?_)
  clear hl
  exact vKL_bitInOrder ok r (by rw [hr]; rfl)
theorem wCh_walk_L17 {Z : Cx} {G : Gx} {b : Nat} {XX YY : Nat → Obj} {q : Obj} {sc : Obj} (ok : OK Z G b cX1_walk 5 2 RX1 none) (hr_q : XX 5 = q) (hr_sc : XX 12 = sc) {K : ((Int32 × Obj) ⊕ (Obj)) → Option (Obj)} (hc : ∀ (a : Int32 × Obj), VO Z G b 5 (fun (r : Obj) => QX Z b (qV G b (mx (va_up XX 220 r) YY))) (mx (va_up XX 220 a.2) YY) 17 [some (.ref (b + 220)), some (.ref (b + 12)), none, none, some (.int a.1)] [] (K (.inl a))) (hx : ∀ (e : Obj), VO Z G b 5 (fun (r : Obj) => QX Z b (qV G b (mx (va_up XX 220 r) YY))) (mx (va_up XX 220 e) YY) 90 [none, none, none, none, none] [] (K (.inr e))) : ∀ (a : Int32 × Obj), VO Z G b 5 (fun (r : Obj) => QX Z b (qV G b (mx (va_up XX 220 r) YY))) (mx (va_up XX 220 a.2) YY) 17 [some (.ref (b + 220)), some (.ref (b + 12)), none, none, some (.int a.1)] [] ((fCh_walk_L17 q sc a).bind K) := by
  intro a
  unfold fCh_walk_L17
  refine r_iload (pc := 17) ok dX1_walk_17 rfl ?_
  refine r_if_lt (pc := 19) ok 90 dX1_walk_19 rfl (fun _ => ?_) (fun _ => ?_)
  · refine r_lv (lk_n (lk_n (lk_n (lk_n (lk_n lk_0 _) _) _) _) _) ?_
    exact hx a.2
  · refine r_iload (pc := 22) ok dX1_walk_22 rfl ?_
    refine r_bipush (pc := 24) ok (8 : Int32) dX1_walk_24 cb_8 ?_
    refine r_icmp_ge (pc := 26) ok 90 dX1_walk_26 rfl (fun _ => ?_) (fun _ => ?_)
    · refine r_lv (lk_n (lk_n (lk_n (lk_n (lk_n lk_0 _) _) _) _) _) ?_
      exact hx a.2
    · refine r_aload_n (pc := 29) ok dX1_walk_29 rfl ?_
      refine r_getI (pc := 30) ok cls1 sh_220 (k := 2) rfl (Nat.le_of_ble_eq_true rfl) (mx_l (Nat.le_of_ble_eq_true rfl) (va_up_self _ _ _)) dX1_walk_30 fl_Ch_36 ?_
      refine r_bipush (pc := 33) ok (8 : Int32) dX1_walk_33 cb_8 ?_
      refine r_icmp_ge (pc := 35) ok 90 dX1_walk_35 rfl (fun _ => ?_) (fun _ => ?_)
      · refine r_lv (lk_n (lk_n (lk_n (lk_n (lk_n lk_0 _) _) _) _) _) ?_
        exact hx a.2
      · refine r_aload_n (pc := 38) ok dX1_walk_38 rfl ?_
        refine r_getR (pc := 39) ok cls1 sh_220 (k := 0) rfl (Nat.le_of_ble_eq_true rfl) rfl dX1_walk_39 fl_Ch_9 ?_
        refine r_aload_n (pc := 42) ok dX1_walk_42 rfl ?_
        refine r_getI (pc := 43) ok cls1 sh_220 (k := 2) rfl (Nat.le_of_ble_eq_true rfl) (mx_l (Nat.le_of_ble_eq_true rfl) (va_up_self _ _ _)) dX1_walk_43 fl_Ch_36 ?_
        refine r_aload_n (pc := 46) ok dX1_walk_46 rfl ?_
        refine r_aload_n (pc := 47) ok dX1_walk_47 rfl ?_
        refine r_getR (pc := 48) ok cls1 sh_220 (k := 0) rfl (Nat.le_of_ble_eq_true rfl) rfl dX1_walk_48 fl_Ch_9 ?_
        refine r_aload_n (pc := 51) ok dX1_walk_51 rfl ?_
        refine r_getI (pc := 52) ok cls1 sh_220 (k := 2) rfl (Nat.le_of_ble_eq_true rfl) (mx_l (Nat.le_of_ble_eq_true rfl) (va_up_self _ _ _)) dX1_walk_52 fl_Ch_36 ?_
        refine r_iconst (pc := 55) ok (1 : Int32) dX1_walk_55 ci_1 ?_
        refine r_isub (pc := 56) ok dX1_walk_56 ?_
        refine r_iald (pc := 57) ok sh_221 (j := 1) rfl (mx_l (Nat.le_of_ble_eq_true rfl) (va_up_self _ _ _)) dX1_walk_57 (fun i4 => ?_)
        refine k_I (pc := 58) (fun r5 => r5) (fun r5 => mx (va_up XX 220 a.2) YY) (fun r5 hr_ => c_V (n := 1) ok cls8 sh_12 rfl ml_Ch_30 wv_X8_knownTo yk_X8_knownTo rfl (Nat.le_of_ble_eq_true rfl) (Nat.le_of_ble_eq_true rfl) (tSc_knownTo (sc_c (o := 12) (by decide)) ((va_up_ne _ _ (by decide)).trans (hr_q)) ((va_up_ne _ _ (by decide)).trans (hr_sc)) hr_) rfl (Nat.le_of_ble_eq_true rfl) dX1_walk_58) (fun r5 => ?_)
        refine r_aload_n (pc := 61) ok dX1_walk_61 rfl ?_
        refine r_getR (pc := 62) ok cls1 sh_220 (k := 1) rfl (Nat.le_of_ble_eq_true rfl) rfl dX1_walk_62 fl_Ch_15 ?_
        refine r_iload (pc := 65) ok dX1_walk_65 rfl ?_
        refine r_iald (pc := 67) ok sh_222 (j := 2) rfl (mx_l (Nat.le_of_ble_eq_true rfl) (va_up_self _ _ _)) dX1_walk_67 (fun i6 => ?_)
        refine r_iand (pc := 68) ok dX1_walk_68 ?_
        refine r_iconst (pc := 69) ok (0 : Int32) dX1_walk_69 ci_0 ?_
        refine k_I (pc := 70) (fun r7 => r7) (fun r7 => mx (va_up XX 220 a.2) YY) (fun r7 hr_ => c_SN (n := 2) ok mn_Ch_40 ws_X11_bitInOrder yk_X11_bitInOrder rfl (Nat.le_of_ble_eq_true rfl) (Nat.le_of_ble_eq_true rfl) (tKL_bitInOrder hr_) rfl (Nat.le_of_ble_eq_true rfl) dX1_walk_70) (fun r7 => ?_)
        refine r_iast (pc := 73) ok sh_221 (j := 1) rfl rfl (fun s_ => mx (va_up XX 220 s_) YY) (pm_l (Nat.le_of_ble_eq_true rfl) (pm_0 _ _)).1 (pm_l (Nat.le_of_ble_eq_true rfl) (pm_0 _ _)).2 dX1_walk_73 (fun i8 s9 => ?_)
        refine r_aload_n (pc := 74) ok dX1_walk_74 rfl ?_
        refine r_dup (pc := 75) ok dX1_walk_75 rfl ?_
        refine r_getI (pc := 76) ok cls1 sh_220 (k := 2) rfl (Nat.le_of_ble_eq_true rfl) (mx_l (Nat.le_of_ble_eq_true rfl) (va_up_self _ _ _)) dX1_walk_76 fl_Ch_36 ?_
        refine r_iconst (pc := 79) ok (1 : Int32) dX1_walk_79 ci_1 ?_
        refine r_iadd (pc := 80) ok dX1_walk_80 ?_
        refine r_putI (pc := 81) ok cls1 sh_220 (k := 2) rfl (Nat.le_of_ble_eq_true rfl) (fun s_ => mx (va_up XX 220 s_) YY) (pm_l (Nat.le_of_ble_eq_true rfl) (pm_0 _ _)).1 (pm_l (Nat.le_of_ble_eq_true rfl) (pm_0 _ _)).2 rfl rfl rfl dX1_walk_81 fl_Ch_36 (fun s10 => ?_)
        refine r_iinc (pc := 84) ok (-1 : Int32) dX1_walk_84 ci_m1 rfl (Nat.le_of_ble_eq_true rfl) rfl ?_
        refine r_goto (pc := 87) ok 17 dX1_walk_87 rfl ?_
        exact hc ((a.1 + (-1 : Int32)), s10)
theorem vCh_walk {Z : Cx} {G : Gx} {b : Nat} {XX YY : Nat → Obj} {q : Obj} {sc : Obj} {ch : Obj} {v2 : Int32} {v3 : Int32} (ok : OK Z G b cX1_walk 5 2 RX1 none) (hr_q : XX 5 = q) (hr_sc : XX 12 = sc) : VO Z G b 5 (fun (r : Obj) => QX Z b (qV G b (mx (va_up XX 220 r) YY))) (mx (va_up XX 220 ch) YY) 0 [some (.ref (b + 220)), some (.ref (b + 12)), some (.int v2), some (.int v3), none] [] ((fCh_walk q sc ch v2 v3).bind some) := by
  unfold fCh_walk
  refine r_aload_n (pc := 0) ok dX1_walk_0 rfl ?_
  refine r_getR (pc := 1) ok cls1 sh_220 (k := 0) rfl (Nat.le_of_ble_eq_true rfl) rfl dX1_walk_1 fl_Ch_9 ?_
  refine r_iconst (pc := 4) ok (0 : Int32) dX1_walk_4 ci_0 ?_
  refine r_iload_n (pc := 5) ok dX1_walk_5 rfl ?_
  refine r_iastc (pc := 6) ok sh_221 (j := 1) rfl (i := 0) (by decide +kernel) rfl (fun s_ => mx (va_up XX 220 s_) YY) (pm_l (Nat.le_of_ble_eq_true rfl) (pm_0 _ _)).1 (pm_l (Nat.le_of_ble_eq_true rfl) (pm_0 _ _)).2 dX1_walk_6 (fun s1 => ?_)
  refine r_aload_n (pc := 7) ok dX1_walk_7 rfl ?_
  refine r_iconst (pc := 8) ok (1 : Int32) dX1_walk_8 ci_1 ?_
  refine r_putI (pc := 9) ok cls1 sh_220 (k := 2) rfl (Nat.le_of_ble_eq_true rfl) (fun s_ => mx (va_up XX 220 s_) YY) (pm_l (Nat.le_of_ble_eq_true rfl) (pm_0 _ _)).1 (pm_l (Nat.le_of_ble_eq_true rfl) (pm_0 _ _)).2 rfl rfl rfl dX1_walk_9 fl_Ch_36 (fun s2 => ?_)
  refine r_iload_n (pc := 12) ok dX1_walk_12 rfl ?_
  refine r_iconst (pc := 13) ok (1 : Int32) dX1_walk_13 ci_1 ?_
  refine r_isub (pc := 14) ok dX1_walk_14 ?_
  refine r_bndI (fun x3 => ?_)
  refine r_istore (pc := 15) ok dX1_walk_15 (Nat.le_of_ble_eq_true rfl) rfl ?_
  refine r_lv (lk_s (lk_s (lk_n (lk_n (lk_s lk_0 _) _) _) _) _) ?_
  refine r_iter (P := fun (a17 : Int32 × Obj) o => VO Z G b 5 (fun (r : Obj) => QX Z b (qV G b (mx (va_up XX 220 r) YY))) (mx (va_up XX 220 a17.2) YY) 17 [some (.ref (b + 220)), some (.ref (b + 12)), none, none, some (.int a17.1)] [] o) (E := fun (e_17 : Obj) o => VO Z G b 5 (fun (r : Obj) => QX Z b (qV G b (mx (va_up XX 220 r) YY))) (mx (va_up XX 220 e_17) YY) 90 [none, none, none, none, none] [] o) (fun _ => r_none) (fun K hc hx => wCh_walk_L17 ok hr_q hr_sc (K := K) hc hx) (fun e11 => ?_) FU (x3, s2)
  exact r_vret (pc := 90) ok dX1_walk_90 rfl
theorem tCh_walk {l : Launch} {G : Gx} {b : Nat} {XX YY : Nat → Obj} {q : Obj} {sc : Obj} {ch : Obj} {v2 : Int32} {v3 : Int32} (hr_q : XX 5 = q) (hr_sc : XX 12 = sc) {r : Obj} (hr : fCh_walk q sc ch v2 v3 = some r) : MetG l G b yX1_walk cX1_walk 5 none 2 [.ref (b + 220), .ref (b + 12), .int v2, .int v3] (mx (va_up XX 220 ch) YY) (qV G b (mx (va_up XX 220 r) YY)) := by
  refine met_start [some (.ref (b + 220)), some (.ref (b + 12)), some (.int v2), some (.int v3), none] (by decide +kernel) (Nat.le_of_ble_eq_true rfl) rfl (fun Z hl ok => ?_)
  clear hl
  exact vCh_walk ok hr_q hr_sc r (by rw [hr]; rfl)
theorem wCh_find_L12 {Z : Cx} {G : Gx} {b : Nat} {XX YY : Nat → Obj} {q : Obj} {sc : Obj} {v2 : Int32} (ok : OK Z G b cX1_find 5 3 RX1 (some .int)) (hr_q : XX 5 = q) (hr_sc : XX 12 = sc) {K : ((Int32 × Obj) ⊕ (Int32 × Obj)) → Option (Int32 × Obj)} (hc : ∀ (a : Int32 × Obj), VO Z G b 5 (fun (r : Int32 × Obj) => QX Z b (qI G b r.1 (mx (va_up XX 220 r.2) YY))) (mx (va_up XX 220 a.2) YY) 12 [some (.ref (b + 220)), some (.ref (b + 12)), some (.int v2), none, some (.int a.1)] [] (K (.inl a))) (hx : ∀ (e : Int32 × Obj), VO Z G b 5 (fun (r : Int32 × Obj) => QX Z b (qI G b r.1 (mx (va_up XX 220 r.2) YY))) (mx (va_up XX 220 e.2) YY) 61 [some (.ref (b + 220)), some (.ref (b + 12)), some (.int v2), none, some (.int e.1)] [] (K (.inr e))) : ∀ (a : Int32 × Obj), VO Z G b 5 (fun (r : Int32 × Obj) => QX Z b (qI G b r.1 (mx (va_up XX 220 r.2) YY))) (mx (va_up XX 220 a.2) YY) 12 [some (.ref (b + 220)), some (.ref (b + 12)), some (.int v2), none, some (.int a.1)] [] ((fCh_find_L12 q sc v2 a).bind K) := by
  intro a
  unfold fCh_find_L12
  refine r_iload (pc := 12) ok dX1_find_12 rfl ?_
  refine r_iconst (pc := 14) ok (1 : Int32) dX1_find_14 ci_1 ?_
  refine r_iadd (pc := 15) ok dX1_find_15 ?_
  refine r_bipush (pc := 16) ok (8 : Int32) dX1_find_16 cb_8 ?_
  refine r_icmp_ge (pc := 18) ok 61 dX1_find_18 rfl (fun _ => ?_) (fun _ => ?_)
  · exact hx (a.1, a.2)
  · refine r_aload_n (pc := 21) ok dX1_find_21 rfl ?_
    refine r_getR (pc := 22) ok cls1 sh_220 (k := 1) rfl (Nat.le_of_ble_eq_true rfl) rfl dX1_find_22 fl_Ch_15 ?_
    refine r_iload (pc := 25) ok dX1_find_25 rfl ?_
    refine r_iald (pc := 27) ok sh_222 (j := 2) rfl (mx_l (Nat.le_of_ble_eq_true rfl) (va_up_self _ _ _)) dX1_find_27 (fun i2 => ?_)
    refine r_iload_n (pc := 28) ok dX1_find_28 rfl ?_
    refine k_I (pc := 29) (fun r3 => r3) (fun r3 => mx (va_up XX 220 a.2) YY) (fun r3 hr_ => c_SN (n := 2) ok mn_Ch_18 ws_X11_hasBit yk_X11_hasBit rfl (Nat.le_of_ble_eq_true rfl) (Nat.le_of_ble_eq_true rfl) (tKL_hasBit hr_) rfl (Nat.le_of_ble_eq_true rfl) dX1_find_29) (fun r3 => ?_)
    refine r_if_ne (pc := 32) ok 61 dX1_find_32 rfl (fun _ => ?_) (fun _ => ?_)
    · refine r_iinc (pc := 35) ok (1 : Int32) dX1_find_35 ci_1 rfl (Nat.le_of_ble_eq_true rfl) rfl ?_
      refine r_aload_n (pc := 38) ok dX1_find_38 rfl ?_
      refine r_getR (pc := 39) ok cls1 sh_220 (k := 1) rfl (Nat.le_of_ble_eq_true rfl) rfl dX1_find_39 fl_Ch_15 ?_
      refine r_iload (pc := 42) ok dX1_find_42 rfl ?_
      refine r_aload_n (pc := 44) ok dX1_find_44 rfl ?_
      refine r_aload_n (pc := 45) ok dX1_find_45 rfl ?_
      refine r_getR (pc := 46) ok cls1 sh_220 (k := 1) rfl (Nat.le_of_ble_eq_true rfl) rfl dX1_find_46 fl_Ch_15 ?_
      refine r_iload (pc := 49) ok dX1_find_49 rfl ?_
      refine r_iconst (pc := 51) ok (1 : Int32) dX1_find_51 ci_1 ?_
      refine r_isub (pc := 52) ok dX1_find_52 ?_
      refine r_iald (pc := 53) ok sh_222 (j := 2) rfl (mx_l (Nat.le_of_ble_eq_true rfl) (va_up_self _ _ _)) dX1_find_53 (fun i4 => ?_)
      refine k_I (pc := 54) (fun r5 => r5) (fun r5 => mx (va_up XX 220 a.2) YY) (fun r5 hr_ => c_S (n := 2) ok ml_Ch_22 ws_X1_knownToAny yk_X1_knownToAny rfl (Nat.le_of_ble_eq_true rfl) (Nat.le_of_ble_eq_true rfl) (tCh_knownToAny ((va_up_ne _ _ (by decide)).trans (hr_q)) ((va_up_ne _ _ (by decide)).trans (hr_sc)) hr_) rfl (Nat.le_of_ble_eq_true rfl) dX1_find_54) (fun r5 => ?_)
      refine r_iast (pc := 57) ok sh_222 (j := 2) rfl rfl (fun s_ => mx (va_up XX 220 s_) YY) (pm_l (Nat.le_of_ble_eq_true rfl) (pm_0 _ _)).1 (pm_l (Nat.le_of_ble_eq_true rfl) (pm_0 _ _)).2 dX1_find_57 (fun i6 s7 => ?_)
      refine r_goto (pc := 58) ok 12 dX1_find_58 rfl ?_
      exact hc ((a.1 + (1 : Int32)), s7)
    · exact hx (a.1, a.2)
theorem vCh_find {Z : Cx} {G : Gx} {b : Nat} {XX YY : Nat → Obj} {q : Obj} {sc : Obj} {ch : Obj} {v2 : Int32} {v3 : Int32} (ok : OK Z G b cX1_find 5 3 RX1 (some .int)) (hr_q : XX 5 = q) (hr_sc : XX 12 = sc) : VO Z G b 5 (fun (r : Int32 × Obj) => QX Z b (qI G b r.1 (mx (va_up XX 220 r.2) YY))) (mx (va_up XX 220 ch) YY) 0 [some (.ref (b + 220)), some (.ref (b + 12)), some (.int v2), some (.int v3), none] [] ((fCh_find q sc ch v2 v3).bind some) := by
  unfold fCh_find
  refine r_aload_n (pc := 0) ok dX1_find_0 rfl ?_
  refine r_getR (pc := 1) ok cls1 sh_220 (k := 1) rfl (Nat.le_of_ble_eq_true rfl) rfl dX1_find_1 fl_Ch_15 ?_
  refine r_iconst (pc := 4) ok (0 : Int32) dX1_find_4 ci_0 ?_
  refine r_iconst (pc := 5) ok (1 : Int32) dX1_find_5 ci_1 ?_
  refine r_iload_n (pc := 6) ok dX1_find_6 rfl ?_
  refine r_ishl (pc := 7) ok dX1_find_7 ?_
  refine r_iastc (pc := 8) ok sh_222 (j := 2) rfl (i := 0) (by decide +kernel) rfl (fun s_ => mx (va_up XX 220 s_) YY) (pm_l (Nat.le_of_ble_eq_true rfl) (pm_0 _ _)).1 (pm_l (Nat.le_of_ble_eq_true rfl) (pm_0 _ _)).2 dX1_find_8 (fun s1 => ?_)
  refine r_iconst (pc := 9) ok (0 : Int32) dX1_find_9 ci_0 ?_
  refine r_istore (pc := 10) ok dX1_find_10 (Nat.le_of_ble_eq_true rfl) rfl ?_
  refine r_lv (lk_s (lk_s (lk_s (lk_n (lk_s lk_0 _) _) _) _) _) ?_
  refine r_iter (P := fun (a12 : Int32 × Obj) o => VO Z G b 5 (fun (r : Int32 × Obj) => QX Z b (qI G b r.1 (mx (va_up XX 220 r.2) YY))) (mx (va_up XX 220 a12.2) YY) 12 [some (.ref (b + 220)), some (.ref (b + 12)), some (.int v2), none, some (.int a12.1)] [] o) (E := fun (e_12 : Int32 × Obj) o => VO Z G b 5 (fun (r : Int32 × Obj) => QX Z b (qI G b r.1 (mx (va_up XX 220 r.2) YY))) (mx (va_up XX 220 e_12.2) YY) 61 [some (.ref (b + 220)), some (.ref (b + 12)), some (.int v2), none, some (.int e_12.1)] [] o) (fun _ => r_none) (fun K hc hx => wCh_find_L12 ok hr_q hr_sc (K := K) hc hx) (fun e8 => ?_) FU ((0 : Int32), s1)
  refine r_aload_n (pc := 61) ok dX1_find_61 rfl ?_
  refine r_getR (pc := 62) ok cls1 sh_220 (k := 1) rfl (Nat.le_of_ble_eq_true rfl) rfl dX1_find_62 fl_Ch_15 ?_
  refine r_iload (pc := 65) ok dX1_find_65 rfl ?_
  refine r_iald (pc := 67) ok sh_222 (j := 2) rfl (mx_l (Nat.le_of_ble_eq_true rfl) (va_up_self _ _ _)) dX1_find_67 (fun i9 => ?_)
  refine r_iload_n (pc := 68) ok dX1_find_68 rfl ?_
  refine k_I (pc := 69) (fun r10 => r10) (fun r10 => mx (va_up XX 220 e8.2) YY) (fun r10 hr_ => c_SN (n := 2) ok mn_Ch_18 ws_X11_hasBit yk_X11_hasBit rfl (Nat.le_of_ble_eq_true rfl) (Nat.le_of_ble_eq_true rfl) (tKL_hasBit hr_) rfl (Nat.le_of_ble_eq_true rfl) dX1_find_69) (fun r10 => ?_)
  refine r_if_ne (pc := 72) ok 77 dX1_find_72 rfl (fun _ => ?_) (fun _ => ?_)
  · refine r_iconst (pc := 75) ok (-1 : Int32) dX1_find_75 ci_m1 ?_
    exact r_iret (pc := 76) ok dX1_find_76 rfl
  · refine r_aload_n (pc := 77) ok dX1_find_77 rfl ?_
    refine r_aload_n (pc := 78) ok dX1_find_78 rfl ?_
    refine r_iload_n (pc := 79) ok dX1_find_79 rfl ?_
    refine r_iload (pc := 80) ok dX1_find_80 rfl ?_
    refine k_V (pc := 82)  (fun r11 => mx (va_up XX 220 r11) YY) (fun r11 hr_ => c_V (n := 3) ok cls1 sh_220 rfl ml_Ch_26 wv_X1_walk yk_X1_walk rfl (Nat.le_of_ble_eq_true rfl) (Nat.le_of_ble_eq_true rfl) (tCh_walk (hr_q) (hr_sc) hr_) rfl (Nat.le_of_ble_eq_true rfl) dX1_find_82) (fun r11 => ?_)
    refine r_iload (pc := 85) ok dX1_find_85 rfl ?_
    exact r_iret (pc := 87) ok dX1_find_87 rfl
theorem tCh_find {l : Launch} {G : Gx} {b : Nat} {XX YY : Nat → Obj} {q : Obj} {sc : Obj} {ch : Obj} {v2 : Int32} {v3 : Int32} (hr_q : XX 5 = q) (hr_sc : XX 12 = sc) {r : Int32 × Obj} (hr : fCh_find q sc ch v2 v3 = some r) : MetG l G b yX1_find cX1_find 5 (some .int) 3 [.ref (b + 220), .ref (b + 12), .int v2, .int v3] (mx (va_up XX 220 ch) YY) (qI G b r.1 (mx (va_up XX 220 r.2) YY)) := by
  refine met_start [some (.ref (b + 220)), some (.ref (b + 12)), some (.int v2), some (.int v3), none] (by decide +kernel) (Nat.le_of_ble_eq_true rfl) rfl (fun Z hl ok => ?_)
  clear hl
  exact vCh_find ok hr_q hr_sc r (by rw [hr]; rfl)
theorem vKL_chain {Z : Cx} {G : Gx} {b : Nat} {YY : Nat → Obj} {X : Nat → Obj} {v1 : Int32} {v2 : Int32} (ok : OK Z G b cX11_chain 3 4 RX11 (some .int)) : VO Z G b 3 (fun (r : Int32 × (Nat → Obj)) => QX Z b (qI G b r.1 (mx r.2 YY))) (mx X YY) 0 [some (.ref (b + 0)), some (.int v1), some (.int v2)] [] ((fKL_chain X v1 v2).bind some) := by
  unfold fKL_chain
  refine r_aload_n (pc := 0) ok dX11_chain_0 rfl ?_
  refine r_getR (pc := 1) ok cls11 sh_0 (k := 1) rfl (Nat.le_of_ble_eq_true rfl) rfl dX11_chain_1 fl_KL_19 ?_
  refine r_getR (pc := 4) ok cls9 sh_4 (k := 0) rfl (Nat.le_of_ble_eq_true rfl) rfl dX11_chain_4 fl_KL_34 ?_
  refine r_iload_n (pc := 7) ok dX11_chain_7 rfl ?_
  refine k_I (pc := 8) (fun r1 => r1) (fun r1 => mx X YY) (fun r1 hr_ => c_V (n := 1) ok cls5 sh_5 rfl ml_KL_163 wv_X5_hasPerson yk_X5_hasPerson rfl (Nat.le_of_ble_eq_true rfl) (Nat.le_of_ble_eq_true rfl) (tQu_hasPerson (qu_c (o := 5) (by decide)) (rfl) hr_) rfl (Nat.le_of_ble_eq_true rfl) dX11_chain_8) (fun r1 => ?_)
  refine r_if_eq (pc := 11) ok 28 dX11_chain_11 rfl (fun _ => ?_) (fun _ => ?_)
  · refine r_iconst (pc := 28) ok (-1 : Int32) dX11_chain_28 ci_m1 ?_
    exact r_iret (pc := 29) ok dX11_chain_29 rfl
  · refine r_aload_n (pc := 14) ok dX11_chain_14 rfl ?_
    refine r_getR (pc := 15) ok cls11 sh_0 (k := 1) rfl (Nat.le_of_ble_eq_true rfl) rfl dX11_chain_15 fl_KL_19 ?_
    refine r_getR (pc := 18) ok cls9 sh_4 (k := 0) rfl (Nat.le_of_ble_eq_true rfl) rfl dX11_chain_18 fl_KL_34 ?_
    refine r_iload_n (pc := 21) ok dX11_chain_21 rfl ?_
    refine k_I (pc := 22) (fun r2 => r2) (fun r2 => mx X YY) (fun r2 hr_ => c_V (n := 1) ok cls5 sh_5 rfl ml_KL_163 wv_X5_hasPerson yk_X5_hasPerson rfl (Nat.le_of_ble_eq_true rfl) (Nat.le_of_ble_eq_true rfl) (tQu_hasPerson (qu_c (o := 5) (by decide)) (rfl) hr_) rfl (Nat.le_of_ble_eq_true rfl) dX11_chain_22) (fun r2 => ?_)
    refine r_if_ne (pc := 25) ok 30 dX11_chain_25 rfl (fun _ => ?_) (fun _ => ?_)
    · refine r_iconst (pc := 28) ok (-1 : Int32) dX11_chain_28 ci_m1 ?_
      exact r_iret (pc := 29) ok dX11_chain_29 rfl
    · refine r_aload_n (pc := 30) ok dX11_chain_30 rfl ?_
      refine r_getR (pc := 31) ok cls11 sh_0 (k := 10) rfl (Nat.le_of_ble_eq_true rfl) rfl dX11_chain_31 fl_KL_80 ?_
      refine r_aload_n (pc := 34) ok dX11_chain_34 rfl ?_
      refine r_getR (pc := 35) ok cls11 sh_0 (k := 1) rfl (Nat.le_of_ble_eq_true rfl) rfl dX11_chain_35 fl_KL_19 ?_
      refine r_getR (pc := 38) ok cls9 sh_4 (k := 1) rfl (Nat.le_of_ble_eq_true rfl) rfl dX11_chain_38 fl_KL_140 ?_
      refine r_iload_n (pc := 41) ok dX11_chain_41 rfl ?_
      refine r_iload_n (pc := 42) ok dX11_chain_42 rfl ?_
      refine k_I (pc := 43) (fun r3 => r3.1) (fun r3 => mx ((va_up X 220 r3.2)) YY) (fun r3 hr_ => c_V (n := 3) ok cls1 sh_220 rfl ml_KL_243 wv_X1_find yk_X1_find rfl (Nat.le_of_ble_eq_true rfl) (Nat.le_of_ble_eq_true rfl) (met_cast (by rw [up_eta]) rfl (tCh_find (rfl) (rfl) hr_)) rfl (Nat.le_of_ble_eq_true rfl) dX11_chain_43) (fun r3 => ?_)
      refine r_bndX (wf := (fun x_ => mx x_ YY)) (fun X4 => ?_)
      exact r_iret (pc := 46) ok dX11_chain_46 rfl
theorem tKL_chain {l : Launch} {G : Gx} {b : Nat} {YY : Nat → Obj} {X : Nat → Obj} {v1 : Int32} {v2 : Int32} {r : Int32 × (Nat → Obj)} (hr : fKL_chain X v1 v2 = some r) : MetG l G b yX11_chain cX11_chain 3 (some .int) 4 [.ref (b + 0), .int v1, .int v2] (mx X YY) (qI G b r.1 (mx r.2 YY)) := by
  refine met_start [some (.ref (b + 0)), some (.int v1), some (.int v2)] (by decide +kernel) (Nat.le_of_ble_eq_true rfl) rfl (fun Z hl ok => ?_)
  clear hl
  exact vKL_chain ok r (by rw [hr]; rfl)
theorem vCh_personAt {Z : Cx} {G : Gx} {b : Nat} {XX YY : Nat → Obj} {ch : Obj} {v1 : Int32} (ok : OK Z G b cX1_personAt 2 0 RX1 (some .int)) (hr_ch : XX 220 = ch) : VO Z G b 2 (fun (r : Int32) => QX Z b (qI G b r (mx XX YY))) (mx XX YY) 0 [some (.ref (b + 220)), some (.int v1)] [] ((fCh_personAt ch v1).bind some) := by
  unfold fCh_personAt
  refine r_iload_n (pc := 0) ok dX1_personAt_0 rfl ?_
  refine r_if_lt (pc := 1) ok 27 dX1_personAt_1 rfl (fun _ => ?_) (fun _ => ?_)
  · refine r_iconst (pc := 27) ok (-1 : Int32) dX1_personAt_27 ci_m1 ?_
    exact r_iret (pc := 28) ok dX1_personAt_28 rfl
  · refine r_iload_n (pc := 4) ok dX1_personAt_4 rfl ?_
    refine r_aload_n (pc := 5) ok dX1_personAt_5 rfl ?_
    refine r_getI (pc := 6) ok cls1 sh_220 (k := 2) rfl (Nat.le_of_ble_eq_true rfl) (mx_l (Nat.le_of_ble_eq_true rfl) (hr_ch)) dX1_personAt_6 fl_Ch_36 ?_
    refine r_icmp_ge (pc := 9) ok 27 dX1_personAt_9 rfl (fun _ => ?_) (fun _ => ?_)
    · refine r_iconst (pc := 27) ok (-1 : Int32) dX1_personAt_27 ci_m1 ?_
      exact r_iret (pc := 28) ok dX1_personAt_28 rfl
    · refine r_iload_n (pc := 12) ok dX1_personAt_12 rfl ?_
      refine r_bipush (pc := 13) ok (8 : Int32) dX1_personAt_13 cb_8 ?_
      refine r_icmp_ge (pc := 15) ok 27 dX1_personAt_15 rfl (fun _ => ?_) (fun _ => ?_)
      · refine r_iconst (pc := 27) ok (-1 : Int32) dX1_personAt_27 ci_m1 ?_
        exact r_iret (pc := 28) ok dX1_personAt_28 rfl
      · refine r_aload_n (pc := 18) ok dX1_personAt_18 rfl ?_
        refine r_getR (pc := 19) ok cls1 sh_220 (k := 0) rfl (Nat.le_of_ble_eq_true rfl) rfl dX1_personAt_19 fl_Ch_9 ?_
        refine r_iload_n (pc := 22) ok dX1_personAt_22 rfl ?_
        refine r_iald (pc := 23) ok sh_221 (j := 1) rfl (mx_l (Nat.le_of_ble_eq_true rfl) (hr_ch)) dX1_personAt_23 (fun i1 => ?_)
        refine r_goto (pc := 24) ok 28 dX1_personAt_24 rfl ?_
        exact r_iret (pc := 28) ok dX1_personAt_28 rfl
theorem tCh_personAt {l : Launch} {G : Gx} {b : Nat} {XX YY : Nat → Obj} {ch : Obj} {v1 : Int32} (hr_ch : XX 220 = ch) {r : Int32} (hr : fCh_personAt ch v1 = some r) : MetG l G b yX1_personAt cX1_personAt 2 (some .int) 0 [.ref (b + 220), .int v1] (mx XX YY) (qI G b r (mx XX YY)) := by
  refine met_start [some (.ref (b + 220)), some (.int v1)] (by decide +kernel) (Nat.le_of_ble_eq_true rfl) rfl (fun Z hl ok => ?_)
  clear hl
  exact vCh_personAt ok hr_ch r (by rw [hr]; rfl)
theorem vKL_chainAt {Z : Cx} {G : Gx} {b : Nat} {YY : Nat → Obj} {X : Nat → Obj} {v1 : Int32} (ok : OK Z G b cX11_chainAt 2 1 RX11 (some .int)) : VO Z G b 2 (fun (r : Int32) => QX Z b (qI G b r (mx X YY))) (mx X YY) 0 [some (.ref (b + 0)), some (.int v1)] [] ((fKL_chainAt X v1).bind some) := by
  unfold fKL_chainAt
  refine r_aload_n (pc := 0) ok dX11_chainAt_0 rfl ?_
  refine r_getR (pc := 1) ok cls11 sh_0 (k := 10) rfl (Nat.le_of_ble_eq_true rfl) rfl dX11_chainAt_1 fl_KL_80 ?_
  refine r_iload_n (pc := 4) ok dX11_chainAt_4 rfl ?_
  refine k_I (pc := 5) (fun r1 => r1) (fun r1 => mx X YY) (fun r1 hr_ => c_V (n := 1) ok cls1 sh_220 rfl ml_KL_247 wv_X1_personAt yk_X1_personAt rfl (Nat.le_of_ble_eq_true rfl) (Nat.le_of_ble_eq_true rfl) (tCh_personAt (rfl) hr_) rfl (Nat.le_of_ble_eq_true rfl) dX11_chainAt_5) (fun r1 => ?_)
  exact r_iret (pc := 8) ok dX11_chainAt_8 rfl
theorem tKL_chainAt {l : Launch} {G : Gx} {b : Nat} {YY : Nat → Obj} {X : Nat → Obj} {v1 : Int32} {r : Int32} (hr : fKL_chainAt X v1 = some r) : MetG l G b yX11_chainAt cX11_chainAt 2 (some .int) 1 [.ref (b + 0), .int v1] (mx X YY) (qI G b r (mx X YY)) := by
  refine met_start [some (.ref (b + 0)), some (.int v1)] (by decide +kernel) (Nat.le_of_ble_eq_true rfl) rfl (fun Z hl ok => ?_)
  clear hl
  exact vKL_chainAt ok r (by rw [hr]; rfl)
theorem wSc_whomJustTheseKnow_L13 {Z : Cx} {G : Gx} {b : Nat} {io : Nat} {XX YY : Nat → Obj} {q : Obj} {sc : Obj} {v1 : Int32} {v2 : Int32} (ok : OK Z G b cX8_whomJustTheseKnow 5 1 RX8 (some .int)) (ho : isSc io) (hr_q : XX (qid io) = q) (hr_sc : XX io = sc) {K : ((Int32 × Int32) ⊕ (Int32)) → Option (Int32)} (hc : ∀ (a : Int32 × Int32), VO Z G b 5 (fun (r : Int32) => QX Z b (qI G b r (mx XX YY))) (mx XX YY) 13 [some (.ref (b + io)), some (.int v1), some (.int v2), some (.int a.1), some (.int a.2)] [] (K (.inl a))) (hx : ∀ (e : Int32), VO Z G b 5 (fun (r : Int32) => QX Z b (qI G b r (mx XX YY))) (mx XX YY) 71 [none, none, none, some (.int e), none] [] (K (.inr e))) : ∀ (a : Int32 × Int32), VO Z G b 5 (fun (r : Int32) => QX Z b (qI G b r (mx XX YY))) (mx XX YY) 13 [some (.ref (b + io)), some (.int v1), some (.int v2), some (.int a.1), some (.int a.2)] [] ((fSc_whomJustTheseKnow_L13 q sc v1 v2 a).bind K) := by
  intro a
  unfold fSc_whomJustTheseKnow_L13
  refine r_iload (pc := 13) ok dX8_whomJustTheseKnow_13 rfl ?_
  refine r_bipush (pc := 15) ok (8 : Int32) dX8_whomJustTheseKnow_15 cb_8 ?_
  refine r_icmp_ge (pc := 17) ok 71 dX8_whomJustTheseKnow_17 rfl (fun _ => ?_) (fun _ => ?_)
  · refine r_lv (lk_n (lk_n (lk_n (lk_s (lk_n lk_0 _) _) _) _) _) ?_
    exact hx a.1
  · refine r_iload (pc := 20) ok dX8_whomJustTheseKnow_20 rfl ?_
    refine r_aload_n (pc := 22) ok dX8_whomJustTheseKnow_22 rfl ?_
    refine r_getR (pc := 23) ok cls8 (sc_sh ho) (k := 0) rfl (Nat.le_of_ble_eq_true rfl) rfl dX8_whomJustTheseKnow_23 fl_Sc_42 ?_
    refine r_getI (pc := 26) ok cls5 (qu_sh (qid_qu ho)) (k := 4) rfl (Nat.le_of_ble_eq_true rfl) (mx_l (qu_lt (qid_qu ho)) (hr_q)) dX8_whomJustTheseKnow_26 fl_Sc_92 ?_
    refine r_icmp_ge (pc := 29) ok 71 dX8_whomJustTheseKnow_29 rfl (fun _ => ?_) (fun _ => ?_)
    · refine r_lv (lk_n (lk_n (lk_n (lk_s (lk_n lk_0 _) _) _) _) _) ?_
      exact hx a.1
    · refine r_iload_n (pc := 32) ok dX8_whomJustTheseKnow_32 rfl ?_
      refine r_iload_n (pc := 33) ok dX8_whomJustTheseKnow_33 rfl ?_
      refine r_ior (pc := 34) ok dX8_whomJustTheseKnow_34 ?_
      refine r_iload (pc := 35) ok dX8_whomJustTheseKnow_35 rfl ?_
      refine k_I (pc := 37) (fun r1 => r1) (fun r1 => mx XX YY) (fun r1 hr_ => c_SN (n := 2) ok mn_Sc_88 ws_X11_hasBit yk_X11_hasBit rfl (Nat.le_of_ble_eq_true rfl) (Nat.le_of_ble_eq_true rfl) (tKL_hasBit hr_) rfl (Nat.le_of_ble_eq_true rfl) dX8_whomJustTheseKnow_37) (fun r1 => ?_)
      refine r_if_ne (pc := 40) ok 65 dX8_whomJustTheseKnow_40 rfl (fun _ => ?_) (fun _ => ?_)
      · refine r_aload_n (pc := 43) ok dX8_whomJustTheseKnow_43 rfl ?_
        refine r_getR (pc := 44) ok cls8 (sc_sh ho) (k := 11) rfl (Nat.le_of_ble_eq_true rfl) rfl dX8_whomJustTheseKnow_44 fl_Sc_33 ?_
        refine r_iload (pc := 47) ok dX8_whomJustTheseKnow_47 rfl ?_
        refine r_iald (pc := 49) ok (sc_s8 ho) (Nat.add_sub_cancel_left _ _) (mx_l (sc_lt ho) (hr_sc)) dX8_whomJustTheseKnow_49 (fun i2 => ?_)
        refine r_iload_n (pc := 50) ok dX8_whomJustTheseKnow_50 rfl ?_
        refine r_iload_n (pc := 51) ok dX8_whomJustTheseKnow_51 rfl ?_
        refine r_ior (pc := 52) ok dX8_whomJustTheseKnow_52 ?_
        refine r_iand (pc := 53) ok dX8_whomJustTheseKnow_53 ?_
        refine r_iload_n (pc := 54) ok dX8_whomJustTheseKnow_54 rfl ?_
        refine r_icmp_ne (pc := 55) ok 65 dX8_whomJustTheseKnow_55 rfl (fun _ => ?_) (fun _ => ?_)
        · refine r_iload_n (pc := 58) ok dX8_whomJustTheseKnow_58 rfl ?_
          refine r_iconst (pc := 59) ok (1 : Int32) dX8_whomJustTheseKnow_59 ci_1 ?_
          refine r_iload (pc := 60) ok dX8_whomJustTheseKnow_60 rfl ?_
          refine r_ishl (pc := 62) ok dX8_whomJustTheseKnow_62 ?_
          refine r_ior (pc := 63) ok dX8_whomJustTheseKnow_63 ?_
          refine r_bndI (fun x3 => ?_)
          refine r_istore_n (pc := 64) ok dX8_whomJustTheseKnow_64 (Nat.le_of_ble_eq_true rfl) rfl ?_
          refine r_iinc (pc := 65) ok (1 : Int32) dX8_whomJustTheseKnow_65 ci_1 rfl (Nat.le_of_ble_eq_true rfl) rfl ?_
          refine r_goto (pc := 68) ok 13 dX8_whomJustTheseKnow_68 rfl ?_
          exact hc (x3, (a.2 + (1 : Int32)))
        · refine r_iinc (pc := 65) ok (1 : Int32) dX8_whomJustTheseKnow_65 ci_1 rfl (Nat.le_of_ble_eq_true rfl) rfl ?_
          refine r_goto (pc := 68) ok 13 dX8_whomJustTheseKnow_68 rfl ?_
          exact hc (a.1, (a.2 + (1 : Int32)))
      · refine r_iinc (pc := 65) ok (1 : Int32) dX8_whomJustTheseKnow_65 ci_1 rfl (Nat.le_of_ble_eq_true rfl) rfl ?_
        refine r_goto (pc := 68) ok 13 dX8_whomJustTheseKnow_68 rfl ?_
        exact hc (a.1, (a.2 + (1 : Int32)))
theorem vSc_whomJustTheseKnow {Z : Cx} {G : Gx} {b : Nat} {io : Nat} {XX YY : Nat → Obj} {q : Obj} {sc : Obj} {v1 : Int32} {v2 : Int32} (ok : OK Z G b cX8_whomJustTheseKnow 5 1 RX8 (some .int)) (ho : isSc io) (hr_q : XX (qid io) = q) (hr_sc : XX io = sc) : VO Z G b 5 (fun (r : Int32) => QX Z b (qI G b r (mx XX YY))) (mx XX YY) 0 [some (.ref (b + io)), some (.int v1), some (.int v2), none, none] [] ((fSc_whomJustTheseKnow q sc v1 v2).bind some) := by
  unfold fSc_whomJustTheseKnow
  refine r_iload_n (pc := 0) ok dX8_whomJustTheseKnow_0 rfl ?_
  refine r_iload_n (pc := 1) ok dX8_whomJustTheseKnow_1 rfl ?_
  refine r_iand (pc := 2) ok dX8_whomJustTheseKnow_2 ?_
  refine r_if_eq (pc := 3) ok 8 dX8_whomJustTheseKnow_3 rfl (fun _ => ?_) (fun _ => ?_)
  · refine r_iconst (pc := 8) ok (0 : Int32) dX8_whomJustTheseKnow_8 ci_0 ?_
    refine r_istore_n (pc := 9) ok dX8_whomJustTheseKnow_9 (Nat.le_of_ble_eq_true rfl) rfl ?_
    refine r_iconst (pc := 10) ok (0 : Int32) dX8_whomJustTheseKnow_10 ci_0 ?_
    refine r_istore (pc := 11) ok dX8_whomJustTheseKnow_11 (Nat.le_of_ble_eq_true rfl) rfl ?_
    refine r_iter (P := fun (a13 : Int32 × Int32) o => VO Z G b 5 (fun (r : Int32) => QX Z b (qI G b r (mx XX YY))) (mx XX YY) 13 [some (.ref (b + io)), some (.int v1), some (.int v2), some (.int a13.1), some (.int a13.2)] [] o) (E := fun (e_13 : Int32) o => VO Z G b 5 (fun (r : Int32) => QX Z b (qI G b r (mx XX YY))) (mx XX YY) 71 [none, none, none, some (.int e_13), none] [] o) (fun _ => r_none) (fun K hc hx => wSc_whomJustTheseKnow_L13 ok ho hr_q hr_sc (K := K) hc hx) (fun e4 => ?_) FU ((0 : Int32), (0 : Int32))
    refine r_iload_n (pc := 71) ok dX8_whomJustTheseKnow_71 rfl ?_
    exact r_iret (pc := 72) ok dX8_whomJustTheseKnow_72 rfl
  · refine r_iconst (pc := 6) ok (0 : Int32) dX8_whomJustTheseKnow_6 ci_0 ?_
    exact r_iret (pc := 7) ok dX8_whomJustTheseKnow_7 rfl
theorem tSc_whomJustTheseKnow {l : Launch} {G : Gx} {b : Nat} {io : Nat} {XX YY : Nat → Obj} {q : Obj} {sc : Obj} {v1 : Int32} {v2 : Int32} (ho : isSc io) (hr_q : XX (qid io) = q) (hr_sc : XX io = sc) {r : Int32} (hr : fSc_whomJustTheseKnow q sc v1 v2 = some r) : MetG l G b yX8_whomJustTheseKnow cX8_whomJustTheseKnow 5 (some .int) 1 [.ref (b + io), .int v1, .int v2] (mx XX YY) (qI G b r (mx XX YY)) := by
  refine met_start [some (.ref (b + io)), some (.int v1), some (.int v2), none, none] (by decide +kernel) (Nat.le_of_ble_eq_true rfl) rfl (fun Z hl ok => ?_)
  clear hl
  exact vSc_whomJustTheseKnow ok ho hr_q hr_sc r (by rw [hr]; rfl)
theorem wKL_whoByPairs_L43 {Z : Cx} {G : Gx} {b : Nat} {YY : Nat → Obj} {X : Nat → Obj} (ok : OK Z G b cX11_whoByPairs 6 2 RX11 (some .int)) {K : ((Int32 × Int32 × Int32) ⊕ ((Int32 × Int32) ⊕ (Int32))) → Option (Int32)} (hc : ∀ (a : Int32 × Int32 × Int32), VO Z G b 6 (fun (r : Int32) => QX Z b (qI G b r (mx X YY))) (mx X YY) 43 [some (.ref (b + 0)), some (.int a.1), some (.int a.2.1), some (.int a.2.2), none, none] [] (K (.inl a))) (hx : ∀ (z : (Int32 × Int32) ⊕ (Int32)), (∀ (e : Int32 × Int32), z = .inl e → VO Z G b 6 (fun (r : Int32) => QX Z b (qI G b r (mx X YY))) (mx X YY) 133 [some (.ref (b + 0)), some (.int e.1), some (.int e.2), none, none, none] [] (K (.inr z))) ∧ (∀ (r : Int32), z = .inr r → K (.inr z) = some r)) : ∀ (a : Int32 × Int32 × Int32), VO Z G b 6 (fun (r : Int32) => QX Z b (qI G b r (mx X YY))) (mx X YY) 43 [some (.ref (b + 0)), some (.int a.1), some (.int a.2.1), some (.int a.2.2), none, none] [] ((fKL_whoByPairs_L43 X a).bind K) := by
  intro a
  unfold fKL_whoByPairs_L43
  refine r_iload_n (pc := 43) ok dX11_whoByPairs_43 rfl ?_
  refine r_aload_n (pc := 44) ok dX11_whoByPairs_44 rfl ?_
  refine r_getR (pc := 45) ok cls11 sh_0 (k := 0) rfl (Nat.le_of_ble_eq_true rfl) rfl dX11_whoByPairs_45 fl_KL_10 ?_
  refine r_getI (pc := 48) ok cls10 sh_1 (k := 1) rfl (Nat.le_of_ble_eq_true rfl) (mx_l (Nat.le_of_ble_eq_true rfl) rfl) dX11_whoByPairs_48 fl_KL_104 ?_
  refine r_icmp_ge (pc := 51) ok 133 dX11_whoByPairs_51 rfl (fun _ => ?_) (fun _ => ?_)
  · refine r_lv (lk_s (lk_s (lk_s (lk_n (lk_n (lk_n lk_0 _) _) _) _) _) _) ?_
    exact (hx (.inl (a.1, a.2.1))).1 _ rfl
  · refine r_aload_n (pc := 54) ok dX11_whoByPairs_54 rfl ?_
    refine r_getR (pc := 55) ok cls11 sh_0 (k := 0) rfl (Nat.le_of_ble_eq_true rfl) rfl dX11_whoByPairs_55 fl_KL_10 ?_
    refine r_iload_n (pc := 58) ok dX11_whoByPairs_58 rfl ?_
    refine k_I (pc := 59) (fun r1 => r1) (fun r1 => mx X YY) (fun r1 hr_ => c_V (n := 1) ok cls10 sh_1 rfl ml_KL_344 wv_X10_byteOf yk_X10_byteOf rfl (Nat.le_of_ble_eq_true rfl) (Nat.le_of_ble_eq_true rfl) (tTa_byteOf (rfl) hr_) rfl (Nat.le_of_ble_eq_true rfl) dX11_whoByPairs_59) (fun r1 => ?_)
    refine r_istore (pc := 62) ok dX11_whoByPairs_62 (Nat.le_of_ble_eq_true rfl) rfl ?_
    refine r_aload_n (pc := 64) ok dX11_whoByPairs_64 rfl ?_
    refine r_getR (pc := 65) ok cls11 sh_0 (k := 0) rfl (Nat.le_of_ble_eq_true rfl) rfl dX11_whoByPairs_65 fl_KL_10 ?_
    refine r_iload_n (pc := 68) ok dX11_whoByPairs_68 rfl ?_
    refine r_iconst (pc := 69) ok (1 : Int32) dX11_whoByPairs_69 ci_1 ?_
    refine r_iadd (pc := 70) ok dX11_whoByPairs_70 ?_
    refine k_I (pc := 71) (fun r2 => r2) (fun r2 => mx X YY) (fun r2 hr_ => c_V (n := 1) ok cls10 sh_1 rfl ml_KL_344 wv_X10_byteOf yk_X10_byteOf rfl (Nat.le_of_ble_eq_true rfl) (Nat.le_of_ble_eq_true rfl) (tTa_byteOf (rfl) hr_) rfl (Nat.le_of_ble_eq_true rfl) dX11_whoByPairs_71) (fun r2 => ?_)
    refine r_istore (pc := 74) ok dX11_whoByPairs_74 (Nat.le_of_ble_eq_true rfl) rfl ?_
    refine r_aload_n (pc := 76) ok dX11_whoByPairs_76 rfl ?_
    refine r_getR (pc := 77) ok cls11 sh_0 (k := 1) rfl (Nat.le_of_ble_eq_true rfl) rfl dX11_whoByPairs_77 fl_KL_19 ?_
    refine r_getR (pc := 80) ok cls9 sh_4 (k := 0) rfl (Nat.le_of_ble_eq_true rfl) rfl dX11_whoByPairs_80 fl_KL_34 ?_
    refine r_iload (pc := 83) ok dX11_whoByPairs_83 rfl ?_
    refine k_I (pc := 85) (fun r3 => r3) (fun r3 => mx X YY) (fun r3 hr_ => c_V (n := 1) ok cls5 sh_5 rfl ml_KL_163 wv_X5_hasPerson yk_X5_hasPerson rfl (Nat.le_of_ble_eq_true rfl) (Nat.le_of_ble_eq_true rfl) (tQu_hasPerson (qu_c (o := 5) (by decide)) (rfl) hr_) rfl (Nat.le_of_ble_eq_true rfl) dX11_whoByPairs_85) (fun r3 => ?_)
    refine r_if_eq (pc := 88) ok 102 dX11_whoByPairs_88 rfl (fun _ => ?_) (fun _ => ?_)
    · refine r_iconst (pc := 102) ok (-1 : Int32) dX11_whoByPairs_102 ci_m1 ?_
      refine r_eq ((hx (.inr (-1 : Int32))).2 _ rfl) ?_
      exact r_iret (pc := 103) ok dX11_whoByPairs_103 rfl
    · refine r_iload (pc := 91) ok dX11_whoByPairs_91 rfl ?_
      refine r_if_lt (pc := 93) ok 102 dX11_whoByPairs_93 rfl (fun _ => ?_) (fun _ => ?_)
      · refine r_iconst (pc := 102) ok (-1 : Int32) dX11_whoByPairs_102 ci_m1 ?_
        refine r_eq ((hx (.inr (-1 : Int32))).2 _ rfl) ?_
        exact r_iret (pc := 103) ok dX11_whoByPairs_103 rfl
      · refine r_iload (pc := 96) ok dX11_whoByPairs_96 rfl ?_
        refine r_iconst (pc := 98) ok (1 : Int32) dX11_whoByPairs_98 ci_1 ?_
        refine r_icmp_le (pc := 99) ok 104 dX11_whoByPairs_99 rfl (fun _ => ?_) (fun _ => ?_)
        · refine r_iload (pc := 104) ok dX11_whoByPairs_104 rfl ?_
          refine r_iconst (pc := 106) ok (1 : Int32) dX11_whoByPairs_106 ci_1 ?_
          refine r_icmp_ne (pc := 107) ok 120 dX11_whoByPairs_107 rfl (fun _ => ?_) (fun _ => ?_)
          · refine r_iload_n (pc := 110) ok dX11_whoByPairs_110 rfl ?_
            refine r_iconst (pc := 111) ok (1 : Int32) dX11_whoByPairs_111 ci_1 ?_
            refine r_iload (pc := 112) ok dX11_whoByPairs_112 rfl ?_
            refine r_ishl (pc := 114) ok dX11_whoByPairs_114 ?_
            refine r_ior (pc := 115) ok dX11_whoByPairs_115 ?_
            refine r_bndI (fun x4 => ?_)
            refine r_istore_n (pc := 116) ok dX11_whoByPairs_116 (Nat.le_of_ble_eq_true rfl) rfl ?_
            refine r_goto (pc := 117) ok 127 dX11_whoByPairs_117 rfl ?_
            refine r_iinc (pc := 127) ok (2 : Int32) dX11_whoByPairs_127 ci_2 rfl (Nat.le_of_ble_eq_true rfl) rfl ?_
            refine r_goto (pc := 130) ok 43 dX11_whoByPairs_130 rfl ?_
            refine r_lv (lk_s (lk_s (lk_s (lk_s (lk_n (lk_n lk_0 _) _) _) _) _) _) ?_
            exact hc (x4, a.2.1, (a.2.2 + (2 : Int32)))
          · refine r_iload_n (pc := 120) ok dX11_whoByPairs_120 rfl ?_
            refine r_iconst (pc := 121) ok (1 : Int32) dX11_whoByPairs_121 ci_1 ?_
            refine r_iload (pc := 122) ok dX11_whoByPairs_122 rfl ?_
            refine r_ishl (pc := 124) ok dX11_whoByPairs_124 ?_
            refine r_ior (pc := 125) ok dX11_whoByPairs_125 ?_
            refine r_bndI (fun x5 => ?_)
            refine r_istore_n (pc := 126) ok dX11_whoByPairs_126 (Nat.le_of_ble_eq_true rfl) rfl ?_
            refine r_iinc (pc := 127) ok (2 : Int32) dX11_whoByPairs_127 ci_2 rfl (Nat.le_of_ble_eq_true rfl) rfl ?_
            refine r_goto (pc := 130) ok 43 dX11_whoByPairs_130 rfl ?_
            refine r_lv (lk_s (lk_s (lk_s (lk_s (lk_n (lk_n lk_0 _) _) _) _) _) _) ?_
            exact hc (a.1, x5, (a.2.2 + (2 : Int32)))
        · refine r_iconst (pc := 102) ok (-1 : Int32) dX11_whoByPairs_102 ci_m1 ?_
          refine r_eq ((hx (.inr (-1 : Int32))).2 _ rfl) ?_
          exact r_iret (pc := 103) ok dX11_whoByPairs_103 rfl
theorem vKL_whoByPairs {Z : Cx} {G : Gx} {b : Nat} {YY : Nat → Obj} {X : Nat → Obj} (ok : OK Z G b cX11_whoByPairs 6 2 RX11 (some .int)) : VO Z G b 6 (fun (r : Int32) => QX Z b (qI G b r (mx X YY))) (mx X YY) 0 [some (.ref (b + 0)), none, none, none, none, none] [] ((fKL_whoByPairs X).bind some) := by
  unfold fKL_whoByPairs
  refine r_aload_n (pc := 0) ok dX11_whoByPairs_0 rfl ?_
  refine r_getR (pc := 1) ok cls11 sh_0 (k := 0) rfl (Nat.le_of_ble_eq_true rfl) rfl dX11_whoByPairs_1 fl_KL_10 ?_
  refine r_getI (pc := 4) ok cls10 sh_1 (k := 1) rfl (Nat.le_of_ble_eq_true rfl) (mx_l (Nat.le_of_ble_eq_true rfl) rfl) dX11_whoByPairs_4 fl_KL_104 ?_
  refine r_iconst (pc := 7) ok (2 : Int32) dX11_whoByPairs_7 ci_2 ?_
  refine r_icmp_lt (pc := 8) ok 35 dX11_whoByPairs_8 rfl (fun _ => ?_) (fun _ => ?_)
  · refine r_iconst (pc := 35) ok (-1 : Int32) dX11_whoByPairs_35 ci_m1 ?_
    exact r_iret (pc := 36) ok dX11_whoByPairs_36 rfl
  · refine r_aload_n (pc := 11) ok dX11_whoByPairs_11 rfl ?_
    refine r_getR (pc := 12) ok cls11 sh_0 (k := 0) rfl (Nat.le_of_ble_eq_true rfl) rfl dX11_whoByPairs_12 fl_KL_10 ?_
    refine r_getI (pc := 15) ok cls10 sh_1 (k := 1) rfl (Nat.le_of_ble_eq_true rfl) (mx_l (Nat.le_of_ble_eq_true rfl) rfl) dX11_whoByPairs_15 fl_KL_104 ?_
    refine r_bipush (pc := 18) ok (12 : Int32) dX11_whoByPairs_18 cb_12 ?_
    refine r_icmp_gt (pc := 20) ok 35 dX11_whoByPairs_20 rfl (fun _ => ?_) (fun _ => ?_)
    · refine r_iconst (pc := 35) ok (-1 : Int32) dX11_whoByPairs_35 ci_m1 ?_
      exact r_iret (pc := 36) ok dX11_whoByPairs_36 rfl
    · refine r_aload_n (pc := 23) ok dX11_whoByPairs_23 rfl ?_
      refine r_getR (pc := 24) ok cls11 sh_0 (k := 0) rfl (Nat.le_of_ble_eq_true rfl) rfl dX11_whoByPairs_24 fl_KL_10 ?_
      refine r_getI (pc := 27) ok cls10 sh_1 (k := 1) rfl (Nat.le_of_ble_eq_true rfl) (mx_l (Nat.le_of_ble_eq_true rfl) rfl) dX11_whoByPairs_27 fl_KL_104 ?_
      refine r_iconst (pc := 30) ok (2 : Int32) dX11_whoByPairs_30 ci_2 ?_
      refine r_iremc (pc := 31) ok dX11_whoByPairs_31 (by decide +kernel) ?_
      refine r_if_eq (pc := 32) ok 37 dX11_whoByPairs_32 rfl (fun _ => ?_) (fun _ => ?_)
      · refine r_iconst (pc := 37) ok (0 : Int32) dX11_whoByPairs_37 ci_0 ?_
        refine r_istore_n (pc := 38) ok dX11_whoByPairs_38 (Nat.le_of_ble_eq_true rfl) rfl ?_
        refine r_iconst (pc := 39) ok (0 : Int32) dX11_whoByPairs_39 ci_0 ?_
        refine r_istore_n (pc := 40) ok dX11_whoByPairs_40 (Nat.le_of_ble_eq_true rfl) rfl ?_
        refine r_iconst (pc := 41) ok (0 : Int32) dX11_whoByPairs_41 ci_0 ?_
        refine r_istore_n (pc := 42) ok dX11_whoByPairs_42 (Nat.le_of_ble_eq_true rfl) rfl ?_
        refine r_iter (P := fun (a43 : Int32 × Int32 × Int32) o => VO Z G b 6 (fun (r : Int32) => QX Z b (qI G b r (mx X YY))) (mx X YY) 43 [some (.ref (b + 0)), some (.int a43.1), some (.int a43.2.1), some (.int a43.2.2), none, none] [] o) (E := fun (z : (Int32 × Int32) ⊕ (Int32)) o => (∀ (e_43 : Int32 × Int32), z = .inl e_43 → VO Z G b 6 (fun (r : Int32) => QX Z b (qI G b r (mx X YY))) (mx X YY) 133 [some (.ref (b + 0)), some (.int e_43.1), some (.int e_43.2), none, none, none] [] o) ∧ (∀ (r : Int32), z = .inr r → o = some r)) (fun _ => r_none) (fun K hc hx => wKL_whoByPairs_L43 ok (K := K) hc hx) (fun z => ⟨fun e6 hz => ?_, fun r hz => ?_⟩) FU ((0 : Int32), (0 : Int32), (0 : Int32))
        · subst hz
          refine r_inl ?_
          refine r_aload_n (pc := 133) ok dX11_whoByPairs_133 rfl ?_
          refine r_getR (pc := 134) ok cls11 sh_0 (k := 1) rfl (Nat.le_of_ble_eq_true rfl) rfl dX11_whoByPairs_134 fl_KL_19 ?_
          refine r_getR (pc := 137) ok cls9 sh_4 (k := 1) rfl (Nat.le_of_ble_eq_true rfl) rfl dX11_whoByPairs_137 fl_KL_140 ?_
          refine r_iload_n (pc := 140) ok dX11_whoByPairs_140 rfl ?_
          refine r_iload_n (pc := 141) ok dX11_whoByPairs_141 rfl ?_
          refine k_I (pc := 142) (fun r7 => r7) (fun r7 => mx X YY) (fun r7 hr_ => c_V (n := 2) ok cls8 sh_12 rfl ml_KL_347 wv_X8_whomJustTheseKnow yk_X8_whomJustTheseKnow rfl (Nat.le_of_ble_eq_true rfl) (Nat.le_of_ble_eq_true rfl) (tSc_whomJustTheseKnow (sc_c (o := 12) (by decide)) (rfl) (rfl) hr_) rfl (Nat.le_of_ble_eq_true rfl) dX11_whoByPairs_142) (fun r7 => ?_)
          exact r_iret (pc := 145) ok dX11_whoByPairs_145 rfl
        · subst hz
          rfl
      · refine r_iconst (pc := 35) ok (-1 : Int32) dX11_whoByPairs_35 ci_m1 ?_
        exact r_iret (pc := 36) ok dX11_whoByPairs_36 rfl
theorem tKL_whoByPairs {l : Launch} {G : Gx} {b : Nat} {YY : Nat → Obj} {X : Nat → Obj} {r : Int32} (hr : fKL_whoByPairs X = some r) : MetG l G b yX11_whoByPairs cX11_whoByPairs 6 (some .int) 2 [.ref (b + 0)] (mx X YY) (qI G b r (mx X YY)) := by
  refine met_start [some (.ref (b + 0)), none, none, none, none, none] (by decide +kernel) (Nat.le_of_ble_eq_true rfl) rfl (fun Z hl ok => ?_)
  clear hl
  exact vKL_whoByPairs ok r (by rw [hr]; rfl)
theorem wSc_bestToAsk_L7 {Z : Cx} {G : Gx} {b : Nat} {io : Nat} {XX YY : Nat → Obj} {q : Obj} {sc : Obj} {v1 : Int32} (ok : OK Z G b cX8_bestToAsk 9 1 RX8 (some .int)) (ho : isSc io) (hr_q : XX (qid io) = q) (hr_sc : XX io = sc) {K : ((Int32 × Int32 × Int32) ⊕ (Int32)) → Option (Int32)} (hc : ∀ (a : Int32 × Int32 × Int32), VO Z G b 9 (fun (r : Int32) => QX Z b (qI G b r (mx XX YY))) (mx XX YY) 7 [some (.ref (b + io)), some (.int v1), some (.int a.1), some (.int a.2.1), some (.int a.2.2), none, none, none, none] [] (K (.inl a))) (hx : ∀ (e : Int32), VO Z G b 9 (fun (r : Int32) => QX Z b (qI G b r (mx XX YY))) (mx XX YY) 109 [none, none, some (.int e), none, none, none, none, none, none] [] (K (.inr e))) : ∀ (a : Int32 × Int32 × Int32), VO Z G b 9 (fun (r : Int32) => QX Z b (qI G b r (mx XX YY))) (mx XX YY) 7 [some (.ref (b + io)), some (.int v1), some (.int a.1), some (.int a.2.1), some (.int a.2.2), none, none, none, none] [] ((fSc_bestToAsk_L7 q sc v1 a).bind K) := by
  intro a
  unfold fSc_bestToAsk_L7
  refine r_iload (pc := 7) ok dX8_bestToAsk_7 rfl ?_
  refine r_bipush (pc := 9) ok (8 : Int32) dX8_bestToAsk_9 cb_8 ?_
  refine r_icmp_ge (pc := 11) ok 109 dX8_bestToAsk_11 rfl (fun _ => ?_) (fun _ => ?_)
  · refine r_lv (lk_n (lk_n (lk_s (lk_n (lk_n (lk_n (lk_n (lk_n (lk_n lk_0 _) _) _) _) _) _) _) _) _) ?_
    exact hx a.1
  · refine r_iload (pc := 14) ok dX8_bestToAsk_14 rfl ?_
    refine r_aload_n (pc := 16) ok dX8_bestToAsk_16 rfl ?_
    refine r_getR (pc := 17) ok cls8 (sc_sh ho) (k := 0) rfl (Nat.le_of_ble_eq_true rfl) rfl dX8_bestToAsk_17 fl_Sc_42 ?_
    refine r_getI (pc := 20) ok cls5 (qu_sh (qid_qu ho)) (k := 4) rfl (Nat.le_of_ble_eq_true rfl) (mx_l (qu_lt (qid_qu ho)) (hr_q)) dX8_bestToAsk_20 fl_Sc_92 ?_
    refine r_icmp_ge (pc := 23) ok 109 dX8_bestToAsk_23 rfl (fun _ => ?_) (fun _ => ?_)
    · refine r_lv (lk_n (lk_n (lk_s (lk_n (lk_n (lk_n (lk_n (lk_n (lk_n lk_0 _) _) _) _) _) _) _) _) _) ?_
      exact hx a.1
    · refine r_iload_n (pc := 26) ok dX8_bestToAsk_26 rfl ?_
      refine r_iconst (pc := 27) ok (1 : Int32) dX8_bestToAsk_27 ci_1 ?_
      refine r_iload (pc := 28) ok dX8_bestToAsk_28 rfl ?_
      refine r_ishl (pc := 30) ok dX8_bestToAsk_30 ?_
      refine r_iand (pc := 31) ok dX8_bestToAsk_31 ?_
      refine r_bndI (fun x1 => ?_)
      refine r_istore (pc := 32) ok dX8_bestToAsk_32 (Nat.le_of_ble_eq_true rfl) rfl ?_
      refine r_iload_n (pc := 34) ok dX8_bestToAsk_34 rfl ?_
      refine r_aload_n (pc := 35) ok dX8_bestToAsk_35 rfl ?_
      refine r_getR (pc := 36) ok cls8 (sc_sh ho) (k := 11) rfl (Nat.le_of_ble_eq_true rfl) rfl dX8_bestToAsk_36 fl_Sc_33 ?_
      refine r_iload (pc := 39) ok dX8_bestToAsk_39 rfl ?_
      refine r_iald (pc := 41) ok (sc_s8 ho) (Nat.add_sub_cancel_left _ _) (mx_l (sc_lt ho) (hr_sc)) dX8_bestToAsk_41 (fun i2 => ?_)
      refine r_iand (pc := 42) ok dX8_bestToAsk_42 ?_
      refine k_I (pc := 43) (fun r3 => r3) (fun r3 => mx XX YY) (fun r3 hr_ => c_S (n := 1) ok ml_Sc_101 ws_J6_bitCount_0f7a4 yk_J6_bitCount_0f7a4 rfl (Nat.le_of_ble_eq_true rfl) (Nat.le_of_ble_eq_true rfl) (tJI_bitCount hr_) rfl (Nat.le_of_ble_eq_true rfl) dX8_bestToAsk_43) (fun r3 => ?_)
      refine r_istore (pc := 46) ok dX8_bestToAsk_46 (Nat.le_of_ble_eq_true rfl) rfl ?_
      refine r_iload_n (pc := 48) ok dX8_bestToAsk_48 rfl ?_
      refine r_aload_n (pc := 49) ok dX8_bestToAsk_49 rfl ?_
      refine r_getR (pc := 50) ok cls8 (sc_sh ho) (k := 11) rfl (Nat.le_of_ble_eq_true rfl) rfl dX8_bestToAsk_50 fl_Sc_33 ?_
      refine r_iload (pc := 53) ok dX8_bestToAsk_53 rfl ?_
      refine r_iald (pc := 55) ok (sc_s8 ho) (Nat.add_sub_cancel_left _ _) (mx_l (sc_lt ho) (hr_sc)) dX8_bestToAsk_55 (fun i4 => ?_)
      refine r_iconst (pc := 56) ok (-1 : Int32) dX8_bestToAsk_56 ci_m1 ?_
      refine r_ixor (pc := 57) ok dX8_bestToAsk_57 ?_
      refine r_iand (pc := 58) ok dX8_bestToAsk_58 ?_
      refine r_iload (pc := 59) ok dX8_bestToAsk_59 rfl ?_
      refine r_iconst (pc := 61) ok (-1 : Int32) dX8_bestToAsk_61 ci_m1 ?_
      refine r_ixor (pc := 62) ok dX8_bestToAsk_62 ?_
      refine r_iand (pc := 63) ok dX8_bestToAsk_63 ?_
      refine k_I (pc := 64) (fun r5 => r5) (fun r5 => mx XX YY) (fun r5 hr_ => c_S (n := 1) ok ml_Sc_101 ws_J6_bitCount_0f7a4 yk_J6_bitCount_0f7a4 rfl (Nat.le_of_ble_eq_true rfl) (Nat.le_of_ble_eq_true rfl) (tJI_bitCount hr_) rfl (Nat.le_of_ble_eq_true rfl) dX8_bestToAsk_64) (fun r5 => ?_)
      refine r_istore (pc := 67) ok dX8_bestToAsk_67 (Nat.le_of_ble_eq_true rfl) rfl ?_
      refine r_iload (pc := 69) ok dX8_bestToAsk_69 rfl ?_
      refine r_iload (pc := 71) ok dX8_bestToAsk_71 rfl ?_
      refine r_mmax (pc := 73) ok ml_Sc_183 (Nat.le_of_ble_eq_true rfl) (Nat.le_of_ble_eq_true rfl) dX8_bestToAsk_73 (fun r6 => ?_)
      refine r_iload (pc := 76) ok dX8_bestToAsk_76 rfl ?_
      refine k_I (pc := 78) (fun r7 => r7) (fun r7 => mx XX YY) (fun r7 hr_ => c_S (n := 1) ok ml_Sc_101 ws_J6_bitCount_0f7a4 yk_J6_bitCount_0f7a4 rfl (Nat.le_of_ble_eq_true rfl) (Nat.le_of_ble_eq_true rfl) (tJI_bitCount hr_) rfl (Nat.le_of_ble_eq_true rfl) dX8_bestToAsk_78) (fun r7 => ?_)
      refine r_mmax (pc := 81) ok ml_Sc_183 (Nat.le_of_ble_eq_true rfl) (Nat.le_of_ble_eq_true rfl) dX8_bestToAsk_81 (fun r8 => ?_)
      refine r_istore (pc := 84) ok dX8_bestToAsk_84 (Nat.le_of_ble_eq_true rfl) rfl ?_
      refine r_iload_n (pc := 86) ok dX8_bestToAsk_86 rfl ?_
      refine r_iconst (pc := 87) ok (-1 : Int32) dX8_bestToAsk_87 ci_m1 ?_
      refine r_icmp_eq (pc := 88) ok 97 dX8_bestToAsk_88 rfl (fun _ => ?_) (fun _ => ?_)
      · refine r_iload (pc := 97) ok dX8_bestToAsk_97 rfl ?_
        refine r_istore_n (pc := 99) ok dX8_bestToAsk_99 (Nat.le_of_ble_eq_true rfl) rfl ?_
        refine r_iload (pc := 100) ok dX8_bestToAsk_100 rfl ?_
        refine r_istore_n (pc := 102) ok dX8_bestToAsk_102 (Nat.le_of_ble_eq_true rfl) rfl ?_
        refine r_iinc (pc := 103) ok (1 : Int32) dX8_bestToAsk_103 ci_1 rfl (Nat.le_of_ble_eq_true rfl) rfl ?_
        refine r_goto (pc := 106) ok 7 dX8_bestToAsk_106 rfl ?_
        refine r_lv (lk_s (lk_s (lk_s (lk_s (lk_s (lk_n (lk_n (lk_n (lk_n lk_0 _) _) _) _) _) _) _) _) _) ?_
        exact hc (a.2.2, r8, (a.2.2 + (1 : Int32)))
      · refine r_iload (pc := 91) ok dX8_bestToAsk_91 rfl ?_
        refine r_iload_n (pc := 93) ok dX8_bestToAsk_93 rfl ?_
        refine r_icmp_ge (pc := 94) ok 103 dX8_bestToAsk_94 rfl (fun _ => ?_) (fun _ => ?_)
        · refine r_iinc (pc := 103) ok (1 : Int32) dX8_bestToAsk_103 ci_1 rfl (Nat.le_of_ble_eq_true rfl) rfl ?_
          refine r_goto (pc := 106) ok 7 dX8_bestToAsk_106 rfl ?_
          refine r_lv (lk_s (lk_s (lk_s (lk_s (lk_s (lk_n (lk_n (lk_n (lk_n lk_0 _) _) _) _) _) _) _) _) _) ?_
          exact hc (a.1, a.2.1, (a.2.2 + (1 : Int32)))
        · refine r_iload (pc := 97) ok dX8_bestToAsk_97 rfl ?_
          refine r_istore_n (pc := 99) ok dX8_bestToAsk_99 (Nat.le_of_ble_eq_true rfl) rfl ?_
          refine r_iload (pc := 100) ok dX8_bestToAsk_100 rfl ?_
          refine r_istore_n (pc := 102) ok dX8_bestToAsk_102 (Nat.le_of_ble_eq_true rfl) rfl ?_
          refine r_iinc (pc := 103) ok (1 : Int32) dX8_bestToAsk_103 ci_1 rfl (Nat.le_of_ble_eq_true rfl) rfl ?_
          refine r_goto (pc := 106) ok 7 dX8_bestToAsk_106 rfl ?_
          refine r_lv (lk_s (lk_s (lk_s (lk_s (lk_s (lk_n (lk_n (lk_n (lk_n lk_0 _) _) _) _) _) _) _) _) _) ?_
          exact hc (a.2.2, r8, (a.2.2 + (1 : Int32)))
theorem vSc_bestToAsk {Z : Cx} {G : Gx} {b : Nat} {io : Nat} {XX YY : Nat → Obj} {q : Obj} {sc : Obj} {v1 : Int32} (ok : OK Z G b cX8_bestToAsk 9 1 RX8 (some .int)) (ho : isSc io) (hr_q : XX (qid io) = q) (hr_sc : XX io = sc) : VO Z G b 9 (fun (r : Int32) => QX Z b (qI G b r (mx XX YY))) (mx XX YY) 0 [some (.ref (b + io)), some (.int v1), none, none, none, none, none, none, none] [] ((fSc_bestToAsk q sc v1).bind some) := by
  unfold fSc_bestToAsk
  refine r_iconst (pc := 0) ok (-1 : Int32) dX8_bestToAsk_0 ci_m1 ?_
  refine r_istore_n (pc := 1) ok dX8_bestToAsk_1 (Nat.le_of_ble_eq_true rfl) rfl ?_
  refine r_iconst (pc := 2) ok (0 : Int32) dX8_bestToAsk_2 ci_0 ?_
  refine r_istore_n (pc := 3) ok dX8_bestToAsk_3 (Nat.le_of_ble_eq_true rfl) rfl ?_
  refine r_iconst (pc := 4) ok (0 : Int32) dX8_bestToAsk_4 ci_0 ?_
  refine r_istore (pc := 5) ok dX8_bestToAsk_5 (Nat.le_of_ble_eq_true rfl) rfl ?_
  refine r_iter (P := fun (a7 : Int32 × Int32 × Int32) o => VO Z G b 9 (fun (r : Int32) => QX Z b (qI G b r (mx XX YY))) (mx XX YY) 7 [some (.ref (b + io)), some (.int v1), some (.int a7.1), some (.int a7.2.1), some (.int a7.2.2), none, none, none, none] [] o) (E := fun (e_7 : Int32) o => VO Z G b 9 (fun (r : Int32) => QX Z b (qI G b r (mx XX YY))) (mx XX YY) 109 [none, none, some (.int e_7), none, none, none, none, none, none] [] o) (fun _ => r_none) (fun K hc hx => wSc_bestToAsk_L7 ok ho hr_q hr_sc (K := K) hc hx) (fun e9 => ?_) FU ((-1 : Int32), (0 : Int32), (0 : Int32))
  refine r_iload_n (pc := 109) ok dX8_bestToAsk_109 rfl ?_
  exact r_iret (pc := 110) ok dX8_bestToAsk_110 rfl
theorem tSc_bestToAsk {l : Launch} {G : Gx} {b : Nat} {io : Nat} {XX YY : Nat → Obj} {q : Obj} {sc : Obj} {v1 : Int32} (ho : isSc io) (hr_q : XX (qid io) = q) (hr_sc : XX io = sc) {r : Int32} (hr : fSc_bestToAsk q sc v1 = some r) : MetG l G b yX8_bestToAsk cX8_bestToAsk 9 (some .int) 1 [.ref (b + io), .int v1] (mx XX YY) (qI G b r (mx XX YY)) := by
  refine met_start [some (.ref (b + io)), some (.int v1), none, none, none, none, none, none, none] (by decide +kernel) (Nat.le_of_ble_eq_true rfl) rfl (fun Z hl ok => ?_)
  clear hl
  exact vSc_bestToAsk ok ho hr_q hr_sc r (by rw [hr]; rfl)
theorem vKL_who {Z : Cx} {G : Gx} {b : Nat} {YY : Nat → Obj} {X : Nat → Obj} (ok : OK Z G b cX11_who 2 3 RX11 (some .int)) : VO Z G b 2 (fun (r : Int32 × (Nat → Obj)) => QX Z b (qI G b r.1 (mx r.2 YY))) (mx X YY) 0 [some (.ref (b + 0)), none] [] ((fKL_who X).bind some) := by
  unfold fKL_who
  refine r_aload_n (pc := 0) ok dX11_who_0 rfl ?_
  refine k_I (pc := 1) (fun r1 => r1) (fun r1 => mx X YY) (fun r1 hr_ => c_V (n := 0) ok cls11 sh_0 rfl ml_KL_250 wv_X11_whoByPairs yk_X11_whoByPairs rfl (Nat.le_of_ble_eq_true rfl) (Nat.le_of_ble_eq_true rfl) (tKL_whoByPairs hr_) rfl (Nat.le_of_ble_eq_true rfl) dX11_who_1) (fun r1 => ?_)
  refine r_istore_n (pc := 4) ok dX11_who_4 (Nat.le_of_ble_eq_true rfl) rfl ?_
  refine r_aload_n (pc := 5) ok dX11_who_5 rfl ?_
  refine r_getR (pc := 6) ok cls11 sh_0 (k := 0) rfl (Nat.le_of_ble_eq_true rfl) rfl dX11_who_6 fl_KL_10 ?_
  refine r_iconst (pc := 9) ok (0 : Int32) dX11_who_9 ci_0 ?_
  refine r_putG (pc := 10) ok cls10 sh_1 (k := 1) rfl (Nat.le_of_ble_eq_true rfl) (Nat.le_of_ble_eq_true rfl) rfl rfl rfl dX11_who_10 fl_KL_104 (fun X2 => ?_)
  refine r_iload_n (pc := 13) ok dX11_who_13 rfl ?_
  refine r_if_le (pc := 14) ok 32 dX11_who_14 rfl (fun _ => ?_) (fun _ => ?_)
  · refine r_iload_n (pc := 32) ok dX11_who_32 rfl ?_
    exact r_iret (pc := 33) ok dX11_who_33 rfl
  · refine r_aload_n (pc := 17) ok dX11_who_17 rfl ?_
    refine r_aload_n (pc := 18) ok dX11_who_18 rfl ?_
    refine r_getR (pc := 19) ok cls11 sh_0 (k := 1) rfl (Nat.le_of_ble_eq_true rfl) rfl dX11_who_19 fl_KL_19 ?_
    refine r_getR (pc := 22) ok cls9 sh_4 (k := 1) rfl (Nat.le_of_ble_eq_true rfl) rfl dX11_who_22 fl_KL_140 ?_
    refine r_iload_n (pc := 25) ok dX11_who_25 rfl ?_
    refine k_I (pc := 26) (fun r3 => r3) (fun r3 => mx X2 YY) (fun r3 hr_ => c_V (n := 1) ok cls8 sh_12 rfl ml_KL_253 wv_X8_bestToAsk yk_X8_bestToAsk rfl (Nat.le_of_ble_eq_true rfl) (Nat.le_of_ble_eq_true rfl) (tSc_bestToAsk (sc_c (o := 12) (by decide)) (rfl) (rfl) hr_) rfl (Nat.le_of_ble_eq_true rfl) dX11_who_26) (fun r3 => ?_)
    refine r_putG (pc := 29) ok cls11 sh_0 (k := 14) rfl (Nat.le_of_ble_eq_true rfl) (Nat.le_of_ble_eq_true rfl) rfl rfl rfl dX11_who_29 fl_KL_101 (fun X4 => ?_)
    refine r_iload_n (pc := 32) ok dX11_who_32 rfl ?_
    exact r_iret (pc := 33) ok dX11_who_33 rfl
theorem tKL_who {l : Launch} {G : Gx} {b : Nat} {YY : Nat → Obj} {X : Nat → Obj} {r : Int32 × (Nat → Obj)} (hr : fKL_who X = some r) : MetG l G b yX11_who cX11_who 2 (some .int) 3 [.ref (b + 0)] (mx X YY) (qI G b r.1 (mx r.2 YY)) := by
  refine met_start [some (.ref (b + 0)), none] (by decide +kernel) (Nat.le_of_ble_eq_true rfl) rfl (fun Z hl ok => ?_)
  clear hl
  exact vKL_who ok r (by rw [hr]; rfl)
theorem vKL_ask {Z : Cx} {G : Gx} {b : Nat} {YY : Nat → Obj} {X : Nat → Obj} (ok : OK Z G b cX11_ask 1 0 RX11 (some .int)) : VO Z G b 1 (fun (r : Int32) => QX Z b (qI G b r (mx X YY))) (mx X YY) 0 [some (.ref (b + 0))] [] ((fKL_ask X).bind some) := by
  unfold fKL_ask
  refine r_aload_n (pc := 0) ok dX11_ask_0 rfl ?_
  refine r_getI (pc := 1) ok cls11 sh_0 (k := 14) rfl (Nat.le_of_ble_eq_true rfl) (mx_l (Nat.le_of_ble_eq_true rfl) rfl) dX11_ask_1 fl_KL_101 ?_
  exact r_iret (pc := 4) ok dX11_ask_4 rfl
theorem tKL_ask {l : Launch} {G : Gx} {b : Nat} {YY : Nat → Obj} {X : Nat → Obj} {r : Int32} (hr : fKL_ask X = some r) : MetG l G b yX11_ask cX11_ask 1 (some .int) 0 [.ref (b + 0)] (mx X YY) (qI G b r (mx X YY)) := by
  refine met_start [some (.ref (b + 0))] (by decide +kernel) (Nat.le_of_ble_eq_true rfl) rfl (fun Z hl ok => ?_)
  clear hl
  exact vKL_ask ok r (by rw [hr]; rfl)
theorem vSc_isInside {Z : Cx} {G : Gx} {b : Nat} {io : Nat} {XX YY : Nat → Obj} {q : Obj} {sc : Obj} {v1 : Int32} (ok : OK Z G b cX8_isInside 2 1 RX8 (some .boolean)) (ho : isSc io) (hr_q : XX (qid io) = q) (hr_sc : XX io = sc) : VO Z G b 2 (fun (r : Int32) => QX Z b (qI G b r (mx XX YY))) (mx XX YY) 0 [some (.ref (b + io)), some (.int v1)] [] ((fSc_isInside q sc v1).bind some) := by
  unfold fSc_isInside
  refine r_aload_n (pc := 0) ok dX8_isInside_0 rfl ?_
  refine r_getR (pc := 1) ok cls8 (sc_sh ho) (k := 0) rfl (Nat.le_of_ble_eq_true rfl) rfl dX8_isInside_1 fl_Sc_42 ?_
  refine r_iload_n (pc := 4) ok dX8_isInside_4 rfl ?_
  refine k_I (pc := 5) (fun r1 => r1) (fun r1 => mx XX YY) (fun r1 hr_ => c_V (n := 1) ok cls5 (qu_sh (qid_qu ho)) rfl ml_Sc_62 wv_X5_hasPerson yk_X5_hasPerson rfl (Nat.le_of_ble_eq_true rfl) (Nat.le_of_ble_eq_true rfl) (tQu_hasPerson (qid_qu ho) (hr_q) hr_) rfl (Nat.le_of_ble_eq_true rfl) dX8_isInside_5) (fun r1 => ?_)
  refine r_if_eq (pc := 8) ok 25 dX8_isInside_8 rfl (fun _ => ?_) (fun _ => ?_)
  · refine r_iconst (pc := 25) ok (0 : Int32) dX8_isInside_25 ci_0 ?_
    exact r_zret (pc := 26) ok dX8_isInside_26 za_0 rfl
  · refine r_aload_n (pc := 11) ok dX8_isInside_11 rfl ?_
    refine r_getR (pc := 12) ok cls8 (sc_sh ho) (k := 6) rfl (Nat.le_of_ble_eq_true rfl) rfl dX8_isInside_12 fl_Sc_18 ?_
    refine r_iload_n (pc := 15) ok dX8_isInside_15 rfl ?_
    refine r_iald (pc := 16) ok (sc_s3 ho) (Nat.add_sub_cancel_left _ _) (mx_l (sc_lt ho) (hr_sc)) dX8_isInside_16 (fun i2 => ?_)
    refine r_iconst (pc := 17) ok (2 : Int32) dX8_isInside_17 ci_2 ?_
    refine r_icmp_ne (pc := 18) ok 25 dX8_isInside_18 rfl (fun _ => ?_) (fun _ => ?_)
    · refine r_iconst (pc := 21) ok (1 : Int32) dX8_isInside_21 ci_1 ?_
      refine r_goto (pc := 22) ok 26 dX8_isInside_22 rfl ?_
      exact r_zret (pc := 26) ok dX8_isInside_26 za_1 rfl
    · refine r_iconst (pc := 25) ok (0 : Int32) dX8_isInside_25 ci_0 ?_
      exact r_zret (pc := 26) ok dX8_isInside_26 za_0 rfl
theorem tSc_isInside {l : Launch} {G : Gx} {b : Nat} {io : Nat} {XX YY : Nat → Obj} {q : Obj} {sc : Obj} {v1 : Int32} (ho : isSc io) (hr_q : XX (qid io) = q) (hr_sc : XX io = sc) {r : Int32} (hr : fSc_isInside q sc v1 = some r) : MetG l G b yX8_isInside cX8_isInside 2 (some .boolean) 1 [.ref (b + io), .int v1] (mx XX YY) (qI G b r (mx XX YY)) := by
  refine met_start [some (.ref (b + io)), some (.int v1)] (by decide +kernel) (Nat.le_of_ble_eq_true rfl) rfl (fun Z hl ok => ?_)
  clear hl
  exact vSc_isInside ok ho hr_q hr_sc r (by rw [hr]; rfl)
theorem wKL_opens_L32 {Z : Cx} {G : Gx} {b : Nat} {YY : Nat → Obj} {v1 : Int32} (ok : OK Z G b cX11_opens 3 5 RX11 (some .int)) {K : ((Int32 × (Nat → Obj)) ⊕ (((Nat → Obj)) ⊕ (Int32 × (Nat → Obj)))) → Option (Int32 × (Nat → Obj))} (hc : ∀ (a : Int32 × (Nat → Obj)), VO Z G b 3 (fun (r : Int32 × (Nat → Obj)) => QX Z b (qI G b r.1 (mx r.2 YY))) (mx a.2 YY) 32 [some (.ref (b + 0)), some (.int v1), some (.int a.1)] [] (K (.inl a))) (hx : ∀ (z : ((Nat → Obj)) ⊕ (Int32 × (Nat → Obj))), (∀ (e : (Nat → Obj)), z = .inl e → VO Z G b 3 (fun (r : Int32 × (Nat → Obj)) => QX Z b (qI G b r.1 (mx r.2 YY))) (mx e YY) 76 [none, none, none] [] (K (.inr z))) ∧ (∀ (r : Int32 × (Nat → Obj)), z = .inr r → K (.inr z) = some r)) : ∀ (a : Int32 × (Nat → Obj)), VO Z G b 3 (fun (r : Int32 × (Nat → Obj)) => QX Z b (qI G b r.1 (mx r.2 YY))) (mx a.2 YY) 32 [some (.ref (b + 0)), some (.int v1), some (.int a.1)] [] ((fKL_opens_L32 v1 a).bind K) := by
  intro a
  unfold fKL_opens_L32
  refine r_iload_n (pc := 32) ok dX11_opens_32 rfl ?_
  refine r_sipush (pc := 33) ok (300 : Int32) dX11_opens_33 cs_300 ?_
  refine r_icmp_gt (pc := 36) ok 76 dX11_opens_36 rfl (fun _ => ?_) (fun _ => ?_)
  · refine r_lv (lk_n (lk_n (lk_n lk_0 _) _) _) ?_
    exact (hx (.inl a.2)).1 _ rfl
  · refine r_aload_n (pc := 39) ok dX11_opens_39 rfl ?_
    refine r_getR (pc := 40) ok cls11 sh_0 (k := 6) rfl (Nat.le_of_ble_eq_true rfl) rfl dX11_opens_40 fl_KL_48 ?_
    refine r_iload_n (pc := 43) ok dX11_opens_43 rfl ?_
    refine k_I (pc := 44) (fun r4 => r4) (fun r4 => mx a.2 YY) (fun r4 hr_ => c_V (n := 1) ok cls8 sh_201 rfl ml_KL_229 wv_X8_isKnocking yk_X8_isKnocking rfl (Nat.le_of_ble_eq_true rfl) (Nat.le_of_ble_eq_true rfl) (tSc_isKnocking (sc_c (o := 201) (by decide)) (rfl) (rfl) hr_) rfl (Nat.le_of_ble_eq_true rfl) dX11_opens_44) (fun r4 => ?_)
    refine r_if_eq (pc := 47) ok 76 dX11_opens_47 rfl (fun _ => ?_) (fun _ => ?_)
    · refine r_lv (lk_n (lk_n (lk_n lk_0 _) _) _) ?_
      exact (hx (.inl a.2)).1 _ rfl
    · refine r_aload_n (pc := 50) ok dX11_opens_50 rfl ?_
      refine r_getR (pc := 51) ok cls11 sh_0 (k := 6) rfl (Nat.le_of_ble_eq_true rfl) rfl dX11_opens_51 fl_KL_48 ?_
      refine k_V (pc := 54)  (fun r5 => mx ((va_up a.2 201 r5)) YY) (fun r5 hr_ => c_V (n := 0) ok cls8 sh_201 rfl ml_KL_258 wv_X8_letTickGo yk_X8_letTickGo rfl (Nat.le_of_ble_eq_true rfl) (Nat.le_of_ble_eq_true rfl) (met_cast (by rw [up_eta]) rfl (tSc_letTickGo (sc_c (o := 201) (by decide)) (rfl) hr_)) rfl (Nat.le_of_ble_eq_true rfl) dX11_opens_54) (fun r5 => ?_)
      refine r_bndX (wf := (fun x_ => mx x_ YY)) (fun X6 => ?_)
      refine r_aload_n (pc := 57) ok dX11_opens_57 rfl ?_
      refine r_getR (pc := 58) ok cls11 sh_0 (k := 6) rfl (Nat.le_of_ble_eq_true rfl) rfl dX11_opens_58 fl_KL_48 ?_
      refine r_iload_n (pc := 61) ok dX11_opens_61 rfl ?_
      refine k_I (pc := 62) (fun r7 => r7) (fun r7 => mx X6 YY) (fun r7 hr_ => c_V (n := 1) ok cls8 sh_201 rfl ml_KL_261 wv_X8_isInside yk_X8_isInside rfl (Nat.le_of_ble_eq_true rfl) (Nat.le_of_ble_eq_true rfl) (tSc_isInside (sc_c (o := 201) (by decide)) (rfl) (rfl) hr_) rfl (Nat.le_of_ble_eq_true rfl) dX11_opens_62) (fun r7 => ?_)
      refine r_if_eq (pc := 65) ok 70 dX11_opens_65 rfl (fun _ => ?_) (fun _ => ?_)
      · refine r_iinc (pc := 70) ok (1 : Int32) dX11_opens_70 ci_1 rfl (Nat.le_of_ble_eq_true rfl) rfl ?_
        refine r_goto (pc := 73) ok 32 dX11_opens_73 rfl ?_
        exact hc ((a.1 + (1 : Int32)), X6)
      · refine r_iload_n (pc := 68) ok dX11_opens_68 rfl ?_
        refine r_eq ((hx (.inr (a.1, X6))).2 _ rfl) ?_
        exact r_iret (pc := 69) ok dX11_opens_69 rfl
theorem vKL_opens {Z : Cx} {G : Gx} {b : Nat} {YY : Nat → Obj} {X : Nat → Obj} {v1 : Int32} (ok : OK Z G b cX11_opens 3 5 RX11 (some .int)) : VO Z G b 3 (fun (r : Int32 × (Nat → Obj)) => QX Z b (qI G b r.1 (mx r.2 YY))) (mx X YY) 0 [some (.ref (b + 0)), some (.int v1), none] [] ((fKL_opens X v1).bind some) := by
  unfold fKL_opens
  refine r_aload_n (pc := 0) ok dX11_opens_0 rfl ?_
  refine r_getR (pc := 1) ok cls11 sh_0 (k := 1) rfl (Nat.le_of_ble_eq_true rfl) rfl dX11_opens_1 fl_KL_19 ?_
  refine r_getR (pc := 4) ok cls9 sh_4 (k := 1) rfl (Nat.le_of_ble_eq_true rfl) rfl dX11_opens_4 fl_KL_140 ?_
  refine r_iload_n (pc := 7) ok dX11_opens_7 rfl ?_
  refine k_I (pc := 8) (fun r1 => r1) (fun r1 => mx X YY) (fun r1 hr_ => c_V (n := 1) ok cls8 sh_12 rfl ml_KL_229 wv_X8_isKnocking yk_X8_isKnocking rfl (Nat.le_of_ble_eq_true rfl) (Nat.le_of_ble_eq_true rfl) (tSc_isKnocking (sc_c (o := 12) (by decide)) (rfl) (rfl) hr_) rfl (Nat.le_of_ble_eq_true rfl) dX11_opens_8) (fun r1 => ?_)
  refine r_if_ne (pc := 11) ok 16 dX11_opens_11 rfl (fun _ => ?_) (fun _ => ?_)
  · refine r_iconst (pc := 14) ok (-1 : Int32) dX11_opens_14 ci_m1 ?_
    exact r_iret (pc := 15) ok dX11_opens_15 rfl
  · refine r_aload_n (pc := 16) ok dX11_opens_16 rfl ?_
    refine r_getR (pc := 17) ok cls11 sh_0 (k := 6) rfl (Nat.le_of_ble_eq_true rfl) rfl dX11_opens_17 fl_KL_48 ?_
    refine r_aload_n (pc := 20) ok dX11_opens_20 rfl ?_
    refine r_getR (pc := 21) ok cls11 sh_0 (k := 1) rfl (Nat.le_of_ble_eq_true rfl) rfl dX11_opens_21 fl_KL_19 ?_
    refine r_getR (pc := 24) ok cls9 sh_4 (k := 1) rfl (Nat.le_of_ble_eq_true rfl) rfl dX11_opens_24 fl_KL_140 ?_
    refine k_V (pc := 27)  (fun r2 => mx ((va_up X 201 r2)) YY) (fun r2 hr_ => c_V (n := 1) ok cls8 sh_201 rfl ml_KL_256 wv_X8_copyFrom yk_X8_copyFrom rfl (Nat.le_of_ble_eq_true rfl) (Nat.le_of_ble_eq_true rfl) (met_cast (by rw [up_eta]) rfl (tSc_copyFrom (sc_c (o := 201) (by decide)) (sc_c (o := 12) (by decide)) (by decide) (rfl) hr_)) rfl (Nat.le_of_ble_eq_true rfl) dX11_opens_27) (fun r2 => ?_)
    refine r_bndX (wf := (fun x_ => mx x_ YY)) (fun X3 => ?_)
    refine r_iconst (pc := 30) ok (1 : Int32) dX11_opens_30 ci_1 ?_
    refine r_istore_n (pc := 31) ok dX11_opens_31 (Nat.le_of_ble_eq_true rfl) rfl ?_
    refine r_iter (P := fun (a32 : Int32 × (Nat → Obj)) o => VO Z G b 3 (fun (r : Int32 × (Nat → Obj)) => QX Z b (qI G b r.1 (mx r.2 YY))) (mx a32.2 YY) 32 [some (.ref (b + 0)), some (.int v1), some (.int a32.1)] [] o) (E := fun (z : ((Nat → Obj)) ⊕ (Int32 × (Nat → Obj))) o => (∀ (e_32 : (Nat → Obj)), z = .inl e_32 → VO Z G b 3 (fun (r : Int32 × (Nat → Obj)) => QX Z b (qI G b r.1 (mx r.2 YY))) (mx e_32 YY) 76 [none, none, none] [] o) ∧ (∀ (r : Int32 × (Nat → Obj)), z = .inr r → o = some r)) (fun _ => r_none) (fun K hc hx => wKL_opens_L32 ok (K := K) hc hx) (fun z => ⟨fun e8 hz => ?_, fun r hz => ?_⟩) FU ((1 : Int32), X3)
    · subst hz
      refine r_inl ?_
      refine r_iconst (pc := 76) ok (-1 : Int32) dX11_opens_76 ci_m1 ?_
      exact r_iret (pc := 77) ok dX11_opens_77 rfl
    · subst hz
      rfl
theorem tKL_opens {l : Launch} {G : Gx} {b : Nat} {YY : Nat → Obj} {X : Nat → Obj} {v1 : Int32} {r : Int32 × (Nat → Obj)} (hr : fKL_opens X v1 = some r) : MetG l G b yX11_opens cX11_opens 3 (some .int) 5 [.ref (b + 0), .int v1] (mx X YY) (qI G b r.1 (mx r.2 YY)) := by
  refine met_start [some (.ref (b + 0)), some (.int v1), none] (by decide +kernel) (Nat.le_of_ble_eq_true rfl) rfl (fun Z hl ok => ?_)
  clear hl
  exact vKL_opens ok r (by rw [hr]; rfl)
theorem wKL_known_L16 {Z : Cx} {G : Gx} {b : Nat} {YY : Nat → Obj} (ok : OK Z G b cX11_known 2 5 RX11 (some .int)) {K : ((Int32 × (Nat → Obj)) ⊕ (((Nat → Obj)) ⊕ (Int32 × (Nat → Obj)))) → Option (Int32 × (Nat → Obj))} (hc : ∀ (a : Int32 × (Nat → Obj)), VO Z G b 2 (fun (r : Int32 × (Nat → Obj)) => QX Z b (qI G b r.1 (mx r.2 YY))) (mx a.2 YY) 16 [some (.ref (b + 0)), some (.int a.1)] [] (K (.inl a))) (hx : ∀ (z : ((Nat → Obj)) ⊕ (Int32 × (Nat → Obj))), (∀ (e : (Nat → Obj)), z = .inl e → VO Z G b 2 (fun (r : Int32 × (Nat → Obj)) => QX Z b (qI G b r.1 (mx r.2 YY))) (mx e YY) 48 [none, none] [] (K (.inr z))) ∧ (∀ (r : Int32 × (Nat → Obj)), z = .inr r → K (.inr z) = some r)) : ∀ (a : Int32 × (Nat → Obj)), VO Z G b 2 (fun (r : Int32 × (Nat → Obj)) => QX Z b (qI G b r.1 (mx r.2 YY))) (mx a.2 YY) 16 [some (.ref (b + 0)), some (.int a.1)] [] ((fKL_known_L16 a).bind K) := by
  intro a
  unfold fKL_known_L16
  refine r_iload_n (pc := 16) ok dX11_known_16 rfl ?_
  refine r_sipush (pc := 17) ok (300 : Int32) dX11_known_17 cs_300 ?_
  refine r_icmp_gt (pc := 20) ok 48 dX11_known_20 rfl (fun _ => ?_) (fun _ => ?_)
  · refine r_lv (lk_n (lk_n lk_0 _) _) ?_
    exact (hx (.inl a.2)).1 _ rfl
  · refine r_aload_n (pc := 23) ok dX11_known_23 rfl ?_
    refine r_getR (pc := 24) ok cls11 sh_0 (k := 6) rfl (Nat.le_of_ble_eq_true rfl) rfl dX11_known_24 fl_KL_48 ?_
    refine k_I (pc := 27) (fun r3 => r3) (fun r3 => mx a.2 YY) (fun r3 hr_ => c_V (n := 0) ok cls8 sh_201 rfl ml_KL_188 wv_X8_housesWithStrangers yk_X8_housesWithStrangers rfl (Nat.le_of_ble_eq_true rfl) (Nat.le_of_ble_eq_true rfl) (tSc_housesWithStrangers (sc_c (o := 201) (by decide)) (rfl) (rfl) hr_) rfl (Nat.le_of_ble_eq_true rfl) dX11_known_27) (fun r3 => ?_)
    refine r_if_ne (pc := 30) ok 35 dX11_known_30 rfl (fun _ => ?_) (fun _ => ?_)
    · refine r_iload_n (pc := 33) ok dX11_known_33 rfl ?_
      refine r_eq ((hx (.inr (a.1, a.2))).2 _ rfl) ?_
      exact r_iret (pc := 34) ok dX11_known_34 rfl
    · refine r_aload_n (pc := 35) ok dX11_known_35 rfl ?_
      refine r_getR (pc := 36) ok cls11 sh_0 (k := 6) rfl (Nat.le_of_ble_eq_true rfl) rfl dX11_known_36 fl_KL_48 ?_
      refine k_V (pc := 39)  (fun r4 => mx ((va_up a.2 201 r4)) YY) (fun r4 hr_ => c_V (n := 0) ok cls8 sh_201 rfl ml_KL_258 wv_X8_letTickGo yk_X8_letTickGo rfl (Nat.le_of_ble_eq_true rfl) (Nat.le_of_ble_eq_true rfl) (met_cast (by rw [up_eta]) rfl (tSc_letTickGo (sc_c (o := 201) (by decide)) (rfl) hr_)) rfl (Nat.le_of_ble_eq_true rfl) dX11_known_39) (fun r4 => ?_)
      refine r_bndX (wf := (fun x_ => mx x_ YY)) (fun X5 => ?_)
      refine r_iinc (pc := 42) ok (1 : Int32) dX11_known_42 ci_1 rfl (Nat.le_of_ble_eq_true rfl) rfl ?_
      refine r_goto (pc := 45) ok 16 dX11_known_45 rfl ?_
      exact hc ((a.1 + (1 : Int32)), X5)
theorem vKL_known {Z : Cx} {G : Gx} {b : Nat} {YY : Nat → Obj} {X : Nat → Obj} (ok : OK Z G b cX11_known 2 5 RX11 (some .int)) : VO Z G b 2 (fun (r : Int32 × (Nat → Obj)) => QX Z b (qI G b r.1 (mx r.2 YY))) (mx X YY) 0 [some (.ref (b + 0)), none] [] ((fKL_known X).bind some) := by
  unfold fKL_known
  refine r_aload_n (pc := 0) ok dX11_known_0 rfl ?_
  refine r_getR (pc := 1) ok cls11 sh_0 (k := 6) rfl (Nat.le_of_ble_eq_true rfl) rfl dX11_known_1 fl_KL_48 ?_
  refine r_aload_n (pc := 4) ok dX11_known_4 rfl ?_
  refine r_getR (pc := 5) ok cls11 sh_0 (k := 1) rfl (Nat.le_of_ble_eq_true rfl) rfl dX11_known_5 fl_KL_19 ?_
  refine r_getR (pc := 8) ok cls9 sh_4 (k := 1) rfl (Nat.le_of_ble_eq_true rfl) rfl dX11_known_8 fl_KL_140 ?_
  refine k_V (pc := 11)  (fun r1 => mx ((va_up X 201 r1)) YY) (fun r1 hr_ => c_V (n := 1) ok cls8 sh_201 rfl ml_KL_256 wv_X8_copyFrom yk_X8_copyFrom rfl (Nat.le_of_ble_eq_true rfl) (Nat.le_of_ble_eq_true rfl) (met_cast (by rw [up_eta]) rfl (tSc_copyFrom (sc_c (o := 201) (by decide)) (sc_c (o := 12) (by decide)) (by decide) (rfl) hr_)) rfl (Nat.le_of_ble_eq_true rfl) dX11_known_11) (fun r1 => ?_)
  refine r_bndX (wf := (fun x_ => mx x_ YY)) (fun X2 => ?_)
  refine r_iconst (pc := 14) ok (0 : Int32) dX11_known_14 ci_0 ?_
  refine r_istore_n (pc := 15) ok dX11_known_15 (Nat.le_of_ble_eq_true rfl) rfl ?_
  refine r_iter (P := fun (a16 : Int32 × (Nat → Obj)) o => VO Z G b 2 (fun (r : Int32 × (Nat → Obj)) => QX Z b (qI G b r.1 (mx r.2 YY))) (mx a16.2 YY) 16 [some (.ref (b + 0)), some (.int a16.1)] [] o) (E := fun (z : ((Nat → Obj)) ⊕ (Int32 × (Nat → Obj))) o => (∀ (e_16 : (Nat → Obj)), z = .inl e_16 → VO Z G b 2 (fun (r : Int32 × (Nat → Obj)) => QX Z b (qI G b r.1 (mx r.2 YY))) (mx e_16 YY) 48 [none, none] [] o) ∧ (∀ (r : Int32 × (Nat → Obj)), z = .inr r → o = some r)) (fun _ => r_none) (fun K hc hx => wKL_known_L16 ok (K := K) hc hx) (fun z => ⟨fun e6 hz => ?_, fun r hz => ?_⟩) FU ((0 : Int32), X2)
  · subst hz
    refine r_inl ?_
    refine r_iconst (pc := 48) ok (-1 : Int32) dX11_known_48 ci_m1 ?_
    exact r_iret (pc := 49) ok dX11_known_49 rfl
  · subst hz
    rfl
theorem tKL_known {l : Launch} {G : Gx} {b : Nat} {YY : Nat → Obj} {X : Nat → Obj} {r : Int32 × (Nat → Obj)} (hr : fKL_known X = some r) : MetG l G b yX11_known cX11_known 2 (some .int) 5 [.ref (b + 0)] (mx X YY) (qI G b r.1 (mx r.2 YY)) := by
  refine met_start [some (.ref (b + 0)), none] (by decide +kernel) (Nat.le_of_ble_eq_true rfl) rfl (fun Z hl ok => ?_)
  clear hl
  exact vKL_known ok r (by rw [hr]; rfl)
theorem vSc_isInLane {Z : Cx} {G : Gx} {b : Nat} {io : Nat} {XX YY : Nat → Obj} {q : Obj} {sc : Obj} {v1 : Int32} (ok : OK Z G b cX8_isInLane 2 1 RX8 (some .boolean)) (ho : isSc io) (hr_q : XX (qid io) = q) (hr_sc : XX io = sc) : VO Z G b 2 (fun (r : Int32) => QX Z b (qI G b r (mx XX YY))) (mx XX YY) 0 [some (.ref (b + io)), some (.int v1)] [] ((fSc_isInLane q sc v1).bind some) := by
  unfold fSc_isInLane
  refine r_aload_n (pc := 0) ok dX8_isInLane_0 rfl ?_
  refine r_getR (pc := 1) ok cls8 (sc_sh ho) (k := 0) rfl (Nat.le_of_ble_eq_true rfl) rfl dX8_isInLane_1 fl_Sc_42 ?_
  refine r_iload_n (pc := 4) ok dX8_isInLane_4 rfl ?_
  refine k_I (pc := 5) (fun r1 => r1) (fun r1 => mx XX YY) (fun r1 hr_ => c_V (n := 1) ok cls5 (qu_sh (qid_qu ho)) rfl ml_Sc_62 wv_X5_hasPerson yk_X5_hasPerson rfl (Nat.le_of_ble_eq_true rfl) (Nat.le_of_ble_eq_true rfl) (tQu_hasPerson (qid_qu ho) (hr_q) hr_) rfl (Nat.le_of_ble_eq_true rfl) dX8_isInLane_5) (fun r1 => ?_)
  refine r_if_eq (pc := 8) ok 24 dX8_isInLane_8 rfl (fun _ => ?_) (fun _ => ?_)
  · refine r_iconst (pc := 24) ok (0 : Int32) dX8_isInLane_24 ci_0 ?_
    exact r_zret (pc := 25) ok dX8_isInLane_25 za_0 rfl
  · refine r_aload_n (pc := 11) ok dX8_isInLane_11 rfl ?_
    refine r_getR (pc := 12) ok cls8 (sc_sh ho) (k := 6) rfl (Nat.le_of_ble_eq_true rfl) rfl dX8_isInLane_12 fl_Sc_18 ?_
    refine r_iload_n (pc := 15) ok dX8_isInLane_15 rfl ?_
    refine r_iald (pc := 16) ok (sc_s3 ho) (Nat.add_sub_cancel_left _ _) (mx_l (sc_lt ho) (hr_sc)) dX8_isInLane_16 (fun i2 => ?_)
    refine r_if_ne (pc := 17) ok 24 dX8_isInLane_17 rfl (fun _ => ?_) (fun _ => ?_)
    · refine r_iconst (pc := 20) ok (1 : Int32) dX8_isInLane_20 ci_1 ?_
      refine r_goto (pc := 21) ok 25 dX8_isInLane_21 rfl ?_
      exact r_zret (pc := 25) ok dX8_isInLane_25 za_1 rfl
    · refine r_iconst (pc := 24) ok (0 : Int32) dX8_isInLane_24 ci_0 ?_
      exact r_zret (pc := 25) ok dX8_isInLane_25 za_0 rfl
theorem tSc_isInLane {l : Launch} {G : Gx} {b : Nat} {io : Nat} {XX YY : Nat → Obj} {q : Obj} {sc : Obj} {v1 : Int32} (ho : isSc io) (hr_q : XX (qid io) = q) (hr_sc : XX io = sc) {r : Int32} (hr : fSc_isInLane q sc v1 = some r) : MetG l G b yX8_isInLane cX8_isInLane 2 (some .boolean) 1 [.ref (b + io), .int v1] (mx XX YY) (qI G b r (mx XX YY)) := by
  refine met_start [some (.ref (b + io)), some (.int v1)] (by decide +kernel) (Nat.le_of_ble_eq_true rfl) rfl (fun Z hl ok => ?_)
  clear hl
  exact vSc_isInLane ok ho hr_q hr_sc r (by rw [hr]; rfl)
theorem vSc_areTogether {Z : Cx} {G : Gx} {b : Nat} {io : Nat} {XX YY : Nat → Obj} {q : Obj} {sc : Obj} {v1 : Int32} {v2 : Int32} (ok : OK Z G b cX8_areTogether 3 2 RX8 (some .boolean)) (ho : isSc io) (hr_q : XX (qid io) = q) (hr_sc : XX io = sc) : VO Z G b 3 (fun (r : Int32) => QX Z b (qI G b r (mx XX YY))) (mx XX YY) 0 [some (.ref (b + io)), some (.int v1), some (.int v2)] [] ((fSc_areTogether q sc v1 v2).bind some) := by
  unfold fSc_areTogether
  refine r_aload_n (pc := 0) ok dX8_areTogether_0 rfl ?_
  refine r_iload_n (pc := 1) ok dX8_areTogether_1 rfl ?_
  refine k_I (pc := 2) (fun r1 => r1) (fun r1 => mx XX YY) (fun r1 hr_ => c_V (n := 1) ok cls8 (sc_sh ho) rfl ml_Sc_85 wv_X8_isInLane yk_X8_isInLane rfl (Nat.le_of_ble_eq_true rfl) (Nat.le_of_ble_eq_true rfl) (tSc_isInLane ho (hr_q) (hr_sc) hr_) rfl (Nat.le_of_ble_eq_true rfl) dX8_areTogether_2) (fun r1 => ?_)
  refine r_if_eq (pc := 5) ok 35 dX8_areTogether_5 rfl (fun _ => ?_) (fun _ => ?_)
  · refine r_iconst (pc := 35) ok (0 : Int32) dX8_areTogether_35 ci_0 ?_
    exact r_zret (pc := 36) ok dX8_areTogether_36 za_0 rfl
  · refine r_aload_n (pc := 8) ok dX8_areTogether_8 rfl ?_
    refine r_iload_n (pc := 9) ok dX8_areTogether_9 rfl ?_
    refine k_I (pc := 10) (fun r2 => r2) (fun r2 => mx XX YY) (fun r2 hr_ => c_V (n := 1) ok cls8 (sc_sh ho) rfl ml_Sc_85 wv_X8_isInLane yk_X8_isInLane rfl (Nat.le_of_ble_eq_true rfl) (Nat.le_of_ble_eq_true rfl) (tSc_isInLane ho (hr_q) (hr_sc) hr_) rfl (Nat.le_of_ble_eq_true rfl) dX8_areTogether_10) (fun r2 => ?_)
    refine r_if_eq (pc := 13) ok 35 dX8_areTogether_13 rfl (fun _ => ?_) (fun _ => ?_)
    · refine r_iconst (pc := 35) ok (0 : Int32) dX8_areTogether_35 ci_0 ?_
      exact r_zret (pc := 36) ok dX8_areTogether_36 za_0 rfl
    · refine r_aload_n (pc := 16) ok dX8_areTogether_16 rfl ?_
      refine r_getR (pc := 17) ok cls8 (sc_sh ho) (k := 7) rfl (Nat.le_of_ble_eq_true rfl) rfl dX8_areTogether_17 fl_Sc_21 ?_
      refine r_iload_n (pc := 20) ok dX8_areTogether_20 rfl ?_
      refine r_iald (pc := 21) ok (sc_s4 ho) (Nat.add_sub_cancel_left _ _) (mx_l (sc_lt ho) (hr_sc)) dX8_areTogether_21 (fun i3 => ?_)
      refine r_aload_n (pc := 22) ok dX8_areTogether_22 rfl ?_
      refine r_getR (pc := 23) ok cls8 (sc_sh ho) (k := 7) rfl (Nat.le_of_ble_eq_true rfl) rfl dX8_areTogether_23 fl_Sc_21 ?_
      refine r_iload_n (pc := 26) ok dX8_areTogether_26 rfl ?_
      refine r_iald (pc := 27) ok (sc_s4 ho) (Nat.add_sub_cancel_left _ _) (mx_l (sc_lt ho) (hr_sc)) dX8_areTogether_27 (fun i4 => ?_)
      refine r_icmp_ne (pc := 28) ok 35 dX8_areTogether_28 rfl (fun _ => ?_) (fun _ => ?_)
      · refine r_iconst (pc := 31) ok (1 : Int32) dX8_areTogether_31 ci_1 ?_
        refine r_goto (pc := 32) ok 36 dX8_areTogether_32 rfl ?_
        exact r_zret (pc := 36) ok dX8_areTogether_36 za_1 rfl
      · refine r_iconst (pc := 35) ok (0 : Int32) dX8_areTogether_35 ci_0 ?_
        exact r_zret (pc := 36) ok dX8_areTogether_36 za_0 rfl
theorem tSc_areTogether {l : Launch} {G : Gx} {b : Nat} {io : Nat} {XX YY : Nat → Obj} {q : Obj} {sc : Obj} {v1 : Int32} {v2 : Int32} (ho : isSc io) (hr_q : XX (qid io) = q) (hr_sc : XX io = sc) {r : Int32} (hr : fSc_areTogether q sc v1 v2 = some r) : MetG l G b yX8_areTogether cX8_areTogether 3 (some .boolean) 2 [.ref (b + io), .int v1, .int v2] (mx XX YY) (qI G b r (mx XX YY)) := by
  refine met_start [some (.ref (b + io)), some (.int v1), some (.int v2)] (by decide +kernel) (Nat.le_of_ble_eq_true rfl) rfl (fun Z hl ok => ?_)
  clear hl
  exact vSc_areTogether ok ho hr_q hr_sc r (by rw [hr]; rfl)
theorem wKL_meet_L51 {Z : Cx} {G : Gx} {b : Nat} {YY : Nat → Obj} {v1 : Int32} {v2 : Int32} (ok : OK Z G b cX11_meet 4 5 RX11 (some .int)) {K : ((Int32 × (Nat → Obj)) ⊕ (((Nat → Obj)) ⊕ (Int32 × (Nat → Obj)))) → Option (Int32 × (Nat → Obj))} (hc : ∀ (a : Int32 × (Nat → Obj)), VO Z G b 4 (fun (r : Int32 × (Nat → Obj)) => QX Z b (qI G b r.1 (mx r.2 YY))) (mx a.2 YY) 51 [some (.ref (b + 0)), some (.int v1), some (.int v2), some (.int a.1)] [] (K (.inl a))) (hx : ∀ (z : ((Nat → Obj)) ⊕ (Int32 × (Nat → Obj))), (∀ (e : (Nat → Obj)), z = .inl e → VO Z G b 4 (fun (r : Int32 × (Nat → Obj)) => QX Z b (qI G b r.1 (mx r.2 YY))) (mx e YY) 85 [none, none, none, none] [] (K (.inr z))) ∧ (∀ (r : Int32 × (Nat → Obj)), z = .inr r → K (.inr z) = some r)) : ∀ (a : Int32 × (Nat → Obj)), VO Z G b 4 (fun (r : Int32 × (Nat → Obj)) => QX Z b (qI G b r.1 (mx r.2 YY))) (mx a.2 YY) 51 [some (.ref (b + 0)), some (.int v1), some (.int v2), some (.int a.1)] [] ((fKL_meet_L51 v1 v2 a).bind K) := by
  intro a
  unfold fKL_meet_L51
  refine r_iload_n (pc := 51) ok dX11_meet_51 rfl ?_
  refine r_sipush (pc := 52) ok (300 : Int32) dX11_meet_52 cs_300 ?_
  refine r_icmp_gt (pc := 55) ok 85 dX11_meet_55 rfl (fun _ => ?_) (fun _ => ?_)
  · refine r_lv (lk_n (lk_n (lk_n (lk_n lk_0 _) _) _) _) ?_
    exact (hx (.inl a.2)).1 _ rfl
  · refine r_aload_n (pc := 58) ok dX11_meet_58 rfl ?_
    refine r_getR (pc := 59) ok cls11 sh_0 (k := 6) rfl (Nat.le_of_ble_eq_true rfl) rfl dX11_meet_59 fl_KL_48 ?_
    refine r_iload_n (pc := 62) ok dX11_meet_62 rfl ?_
    refine r_iload_n (pc := 63) ok dX11_meet_63 rfl ?_
    refine k_I (pc := 64) (fun r5 => r5) (fun r5 => mx a.2 YY) (fun r5 hr_ => c_V (n := 2) ok cls8 sh_201 rfl ml_KL_264 wv_X8_areTogether yk_X8_areTogether rfl (Nat.le_of_ble_eq_true rfl) (Nat.le_of_ble_eq_true rfl) (tSc_areTogether (sc_c (o := 201) (by decide)) (rfl) (rfl) hr_) rfl (Nat.le_of_ble_eq_true rfl) dX11_meet_64) (fun r5 => ?_)
    refine r_if_eq (pc := 67) ok 72 dX11_meet_67 rfl (fun _ => ?_) (fun _ => ?_)
    · refine r_aload_n (pc := 72) ok dX11_meet_72 rfl ?_
      refine r_getR (pc := 73) ok cls11 sh_0 (k := 6) rfl (Nat.le_of_ble_eq_true rfl) rfl dX11_meet_73 fl_KL_48 ?_
      refine k_V (pc := 76)  (fun r6 => mx ((va_up a.2 201 r6)) YY) (fun r6 hr_ => c_V (n := 0) ok cls8 sh_201 rfl ml_KL_258 wv_X8_letTickGo yk_X8_letTickGo rfl (Nat.le_of_ble_eq_true rfl) (Nat.le_of_ble_eq_true rfl) (met_cast (by rw [up_eta]) rfl (tSc_letTickGo (sc_c (o := 201) (by decide)) (rfl) hr_)) rfl (Nat.le_of_ble_eq_true rfl) dX11_meet_76) (fun r6 => ?_)
      refine r_bndX (wf := (fun x_ => mx x_ YY)) (fun X7 => ?_)
      refine r_iinc (pc := 79) ok (1 : Int32) dX11_meet_79 ci_1 rfl (Nat.le_of_ble_eq_true rfl) rfl ?_
      refine r_goto (pc := 82) ok 51 dX11_meet_82 rfl ?_
      exact hc ((a.1 + (1 : Int32)), X7)
    · refine r_iload_n (pc := 70) ok dX11_meet_70 rfl ?_
      refine r_eq ((hx (.inr (a.1, a.2))).2 _ rfl) ?_
      exact r_iret (pc := 71) ok dX11_meet_71 rfl
theorem vKL_meet {Z : Cx} {G : Gx} {b : Nat} {YY : Nat → Obj} {X : Nat → Obj} {v1 : Int32} {v2 : Int32} (ok : OK Z G b cX11_meet 4 5 RX11 (some .int)) : VO Z G b 4 (fun (r : Int32 × (Nat → Obj)) => QX Z b (qI G b r.1 (mx r.2 YY))) (mx X YY) 0 [some (.ref (b + 0)), some (.int v1), some (.int v2), none] [] ((fKL_meet X v1 v2).bind some) := by
  unfold fKL_meet
  refine r_iload_n (pc := 0) ok dX11_meet_0 rfl ?_
  refine r_iload_n (pc := 1) ok dX11_meet_1 rfl ?_
  refine r_icmp_eq (pc := 2) ok 33 dX11_meet_2 rfl (fun _ => ?_) (fun _ => ?_)
  · refine r_iconst (pc := 33) ok (-1 : Int32) dX11_meet_33 ci_m1 ?_
    exact r_iret (pc := 34) ok dX11_meet_34 rfl
  · refine r_aload_n (pc := 5) ok dX11_meet_5 rfl ?_
    refine r_getR (pc := 6) ok cls11 sh_0 (k := 1) rfl (Nat.le_of_ble_eq_true rfl) rfl dX11_meet_6 fl_KL_19 ?_
    refine r_getR (pc := 9) ok cls9 sh_4 (k := 0) rfl (Nat.le_of_ble_eq_true rfl) rfl dX11_meet_9 fl_KL_34 ?_
    refine r_iload_n (pc := 12) ok dX11_meet_12 rfl ?_
    refine k_I (pc := 13) (fun r1 => r1) (fun r1 => mx X YY) (fun r1 hr_ => c_V (n := 1) ok cls5 sh_5 rfl ml_KL_163 wv_X5_hasPerson yk_X5_hasPerson rfl (Nat.le_of_ble_eq_true rfl) (Nat.le_of_ble_eq_true rfl) (tQu_hasPerson (qu_c (o := 5) (by decide)) (rfl) hr_) rfl (Nat.le_of_ble_eq_true rfl) dX11_meet_13) (fun r1 => ?_)
    refine r_if_eq (pc := 16) ok 33 dX11_meet_16 rfl (fun _ => ?_) (fun _ => ?_)
    · refine r_iconst (pc := 33) ok (-1 : Int32) dX11_meet_33 ci_m1 ?_
      exact r_iret (pc := 34) ok dX11_meet_34 rfl
    · refine r_aload_n (pc := 19) ok dX11_meet_19 rfl ?_
      refine r_getR (pc := 20) ok cls11 sh_0 (k := 1) rfl (Nat.le_of_ble_eq_true rfl) rfl dX11_meet_20 fl_KL_19 ?_
      refine r_getR (pc := 23) ok cls9 sh_4 (k := 0) rfl (Nat.le_of_ble_eq_true rfl) rfl dX11_meet_23 fl_KL_34 ?_
      refine r_iload_n (pc := 26) ok dX11_meet_26 rfl ?_
      refine k_I (pc := 27) (fun r2 => r2) (fun r2 => mx X YY) (fun r2 hr_ => c_V (n := 1) ok cls5 sh_5 rfl ml_KL_163 wv_X5_hasPerson yk_X5_hasPerson rfl (Nat.le_of_ble_eq_true rfl) (Nat.le_of_ble_eq_true rfl) (tQu_hasPerson (qu_c (o := 5) (by decide)) (rfl) hr_) rfl (Nat.le_of_ble_eq_true rfl) dX11_meet_27) (fun r2 => ?_)
      refine r_if_ne (pc := 30) ok 35 dX11_meet_30 rfl (fun _ => ?_) (fun _ => ?_)
      · refine r_iconst (pc := 33) ok (-1 : Int32) dX11_meet_33 ci_m1 ?_
        exact r_iret (pc := 34) ok dX11_meet_34 rfl
      · refine r_aload_n (pc := 35) ok dX11_meet_35 rfl ?_
        refine r_getR (pc := 36) ok cls11 sh_0 (k := 6) rfl (Nat.le_of_ble_eq_true rfl) rfl dX11_meet_36 fl_KL_48 ?_
        refine r_aload_n (pc := 39) ok dX11_meet_39 rfl ?_
        refine r_getR (pc := 40) ok cls11 sh_0 (k := 1) rfl (Nat.le_of_ble_eq_true rfl) rfl dX11_meet_40 fl_KL_19 ?_
        refine r_getR (pc := 43) ok cls9 sh_4 (k := 1) rfl (Nat.le_of_ble_eq_true rfl) rfl dX11_meet_43 fl_KL_140 ?_
        refine k_V (pc := 46)  (fun r3 => mx ((va_up X 201 r3)) YY) (fun r3 hr_ => c_V (n := 1) ok cls8 sh_201 rfl ml_KL_256 wv_X8_copyFrom yk_X8_copyFrom rfl (Nat.le_of_ble_eq_true rfl) (Nat.le_of_ble_eq_true rfl) (met_cast (by rw [up_eta]) rfl (tSc_copyFrom (sc_c (o := 201) (by decide)) (sc_c (o := 12) (by decide)) (by decide) (rfl) hr_)) rfl (Nat.le_of_ble_eq_true rfl) dX11_meet_46) (fun r3 => ?_)
        refine r_bndX (wf := (fun x_ => mx x_ YY)) (fun X4 => ?_)
        refine r_iconst (pc := 49) ok (0 : Int32) dX11_meet_49 ci_0 ?_
        refine r_istore_n (pc := 50) ok dX11_meet_50 (Nat.le_of_ble_eq_true rfl) rfl ?_
        refine r_iter (P := fun (a51 : Int32 × (Nat → Obj)) o => VO Z G b 4 (fun (r : Int32 × (Nat → Obj)) => QX Z b (qI G b r.1 (mx r.2 YY))) (mx a51.2 YY) 51 [some (.ref (b + 0)), some (.int v1), some (.int v2), some (.int a51.1)] [] o) (E := fun (z : ((Nat → Obj)) ⊕ (Int32 × (Nat → Obj))) o => (∀ (e_51 : (Nat → Obj)), z = .inl e_51 → VO Z G b 4 (fun (r : Int32 × (Nat → Obj)) => QX Z b (qI G b r.1 (mx r.2 YY))) (mx e_51 YY) 85 [none, none, none, none] [] o) ∧ (∀ (r : Int32 × (Nat → Obj)), z = .inr r → o = some r)) (fun _ => r_none) (fun K hc hx => wKL_meet_L51 ok (K := K) hc hx) (fun z => ⟨fun e8 hz => ?_, fun r hz => ?_⟩) FU ((0 : Int32), X4)
        · subst hz
          refine r_inl ?_
          refine r_iconst (pc := 85) ok (-1 : Int32) dX11_meet_85 ci_m1 ?_
          exact r_iret (pc := 86) ok dX11_meet_86 rfl
        · subst hz
          rfl
theorem tKL_meet {l : Launch} {G : Gx} {b : Nat} {YY : Nat → Obj} {X : Nat → Obj} {v1 : Int32} {v2 : Int32} {r : Int32 × (Nat → Obj)} (hr : fKL_meet X v1 v2 = some r) : MetG l G b yX11_meet cX11_meet 4 (some .int) 5 [.ref (b + 0), .int v1, .int v2] (mx X YY) (qI G b r.1 (mx r.2 YY)) := by
  refine met_start [some (.ref (b + 0)), some (.int v1), some (.int v2), none] (by decide +kernel) (Nat.le_of_ble_eq_true rfl) rfl (fun Z hl ok => ?_)
  clear hl
  exact vKL_meet ok r (by rw [hr]; rfl)
theorem wSc_whoOpenedMost_L6 {Z : Cx} {G : Gx} {b : Nat} {io : Nat} {XX YY : Nat → Obj} {q : Obj} {sc : Obj} (ok : OK Z G b cX8_whoOpenedMost 4 0 RX8 (some .int)) (ho : isSc io) (hr_q : XX (qid io) = q) (hr_sc : XX io = sc) {K : ((Int32 × Int32 × Int32) ⊕ (Int32)) → Option (Int32)} (hc : ∀ (a : Int32 × Int32 × Int32), VO Z G b 4 (fun (r : Int32) => QX Z b (qI G b r (mx XX YY))) (mx XX YY) 6 [some (.ref (b + io)), some (.int a.1), some (.int a.2.1), some (.int a.2.2)] [] (K (.inl a))) (hx : ∀ (e : Int32), VO Z G b 4 (fun (r : Int32) => QX Z b (qI G b r (mx XX YY))) (mx XX YY) 48 [none, some (.int e), none, none] [] (K (.inr e))) : ∀ (a : Int32 × Int32 × Int32), VO Z G b 4 (fun (r : Int32) => QX Z b (qI G b r (mx XX YY))) (mx XX YY) 6 [some (.ref (b + io)), some (.int a.1), some (.int a.2.1), some (.int a.2.2)] [] ((fSc_whoOpenedMost_L6 q sc a).bind K) := by
  intro a
  unfold fSc_whoOpenedMost_L6
  refine r_iload_n (pc := 6) ok dX8_whoOpenedMost_6 rfl ?_
  refine r_bipush (pc := 7) ok (8 : Int32) dX8_whoOpenedMost_7 cb_8 ?_
  refine r_icmp_ge (pc := 9) ok 48 dX8_whoOpenedMost_9 rfl (fun _ => ?_) (fun _ => ?_)
  · refine r_lv (lk_n (lk_s (lk_n (lk_n lk_0 _) _) _) _) ?_
    exact hx a.1
  · refine r_iload_n (pc := 12) ok dX8_whoOpenedMost_12 rfl ?_
    refine r_aload_n (pc := 13) ok dX8_whoOpenedMost_13 rfl ?_
    refine r_getR (pc := 14) ok cls8 (sc_sh ho) (k := 0) rfl (Nat.le_of_ble_eq_true rfl) rfl dX8_whoOpenedMost_14 fl_Sc_42 ?_
    refine r_getI (pc := 17) ok cls5 (qu_sh (qid_qu ho)) (k := 4) rfl (Nat.le_of_ble_eq_true rfl) (mx_l (qu_lt (qid_qu ho)) (hr_q)) dX8_whoOpenedMost_17 fl_Sc_92 ?_
    refine r_icmp_ge (pc := 20) ok 48 dX8_whoOpenedMost_20 rfl (fun _ => ?_) (fun _ => ?_)
    · refine r_lv (lk_n (lk_s (lk_n (lk_n lk_0 _) _) _) _) ?_
      exact hx a.1
    · refine r_aload_n (pc := 23) ok dX8_whoOpenedMost_23 rfl ?_
      refine r_getR (pc := 24) ok cls8 (sc_sh ho) (k := 13) rfl (Nat.le_of_ble_eq_true rfl) rfl dX8_whoOpenedMost_24 fl_Sc_39 ?_
      refine r_iload_n (pc := 27) ok dX8_whoOpenedMost_27 rfl ?_
      refine r_iald (pc := 28) ok (sc_s10 ho) (Nat.add_sub_cancel_left _ _) (mx_l (sc_lt ho) (hr_sc)) dX8_whoOpenedMost_28 (fun i1 => ?_)
      refine r_iload_n (pc := 29) ok dX8_whoOpenedMost_29 rfl ?_
      refine r_icmp_le (pc := 30) ok 42 dX8_whoOpenedMost_30 rfl (fun _ => ?_) (fun _ => ?_)
      · refine r_iinc (pc := 42) ok (1 : Int32) dX8_whoOpenedMost_42 ci_1 rfl (Nat.le_of_ble_eq_true rfl) rfl ?_
        refine r_goto (pc := 45) ok 6 dX8_whoOpenedMost_45 rfl ?_
        exact hc (a.1, a.2.1, (a.2.2 + (1 : Int32)))
      · refine r_iload_n (pc := 33) ok dX8_whoOpenedMost_33 rfl ?_
        refine r_istore_n (pc := 34) ok dX8_whoOpenedMost_34 (Nat.le_of_ble_eq_true rfl) rfl ?_
        refine r_aload_n (pc := 35) ok dX8_whoOpenedMost_35 rfl ?_
        refine r_getR (pc := 36) ok cls8 (sc_sh ho) (k := 13) rfl (Nat.le_of_ble_eq_true rfl) rfl dX8_whoOpenedMost_36 fl_Sc_39 ?_
        refine r_iload_n (pc := 39) ok dX8_whoOpenedMost_39 rfl ?_
        refine r_iald (pc := 40) ok (sc_s10 ho) (Nat.add_sub_cancel_left _ _) (mx_l (sc_lt ho) (hr_sc)) dX8_whoOpenedMost_40 (fun i2 => ?_)
        refine r_bndI (fun x3 => ?_)
        refine r_istore_n (pc := 41) ok dX8_whoOpenedMost_41 (Nat.le_of_ble_eq_true rfl) rfl ?_
        refine r_iinc (pc := 42) ok (1 : Int32) dX8_whoOpenedMost_42 ci_1 rfl (Nat.le_of_ble_eq_true rfl) rfl ?_
        refine r_goto (pc := 45) ok 6 dX8_whoOpenedMost_45 rfl ?_
        exact hc (a.2.2, x3, (a.2.2 + (1 : Int32)))
theorem vSc_whoOpenedMost {Z : Cx} {G : Gx} {b : Nat} {io : Nat} {XX YY : Nat → Obj} {q : Obj} {sc : Obj} (ok : OK Z G b cX8_whoOpenedMost 4 0 RX8 (some .int)) (ho : isSc io) (hr_q : XX (qid io) = q) (hr_sc : XX io = sc) : VO Z G b 4 (fun (r : Int32) => QX Z b (qI G b r (mx XX YY))) (mx XX YY) 0 [some (.ref (b + io)), none, none, none] [] ((fSc_whoOpenedMost q sc).bind some) := by
  unfold fSc_whoOpenedMost
  refine r_iconst (pc := 0) ok (-1 : Int32) dX8_whoOpenedMost_0 ci_m1 ?_
  refine r_istore_n (pc := 1) ok dX8_whoOpenedMost_1 (Nat.le_of_ble_eq_true rfl) rfl ?_
  refine r_iconst (pc := 2) ok (0 : Int32) dX8_whoOpenedMost_2 ci_0 ?_
  refine r_istore_n (pc := 3) ok dX8_whoOpenedMost_3 (Nat.le_of_ble_eq_true rfl) rfl ?_
  refine r_iconst (pc := 4) ok (0 : Int32) dX8_whoOpenedMost_4 ci_0 ?_
  refine r_istore_n (pc := 5) ok dX8_whoOpenedMost_5 (Nat.le_of_ble_eq_true rfl) rfl ?_
  refine r_iter (P := fun (a6 : Int32 × Int32 × Int32) o => VO Z G b 4 (fun (r : Int32) => QX Z b (qI G b r (mx XX YY))) (mx XX YY) 6 [some (.ref (b + io)), some (.int a6.1), some (.int a6.2.1), some (.int a6.2.2)] [] o) (E := fun (e_6 : Int32) o => VO Z G b 4 (fun (r : Int32) => QX Z b (qI G b r (mx XX YY))) (mx XX YY) 48 [none, some (.int e_6), none, none] [] o) (fun _ => r_none) (fun K hc hx => wSc_whoOpenedMost_L6 ok ho hr_q hr_sc (K := K) hc hx) (fun e4 => ?_) FU ((-1 : Int32), (0 : Int32), (0 : Int32))
  refine r_iload_n (pc := 48) ok dX8_whoOpenedMost_48 rfl ?_
  exact r_iret (pc := 49) ok dX8_whoOpenedMost_49 rfl
theorem tSc_whoOpenedMost {l : Launch} {G : Gx} {b : Nat} {io : Nat} {XX YY : Nat → Obj} {q : Obj} {sc : Obj} (ho : isSc io) (hr_q : XX (qid io) = q) (hr_sc : XX io = sc) {r : Int32} (hr : fSc_whoOpenedMost q sc = some r) : MetG l G b yX8_whoOpenedMost cX8_whoOpenedMost 4 (some .int) 0 [.ref (b + io)] (mx XX YY) (qI G b r (mx XX YY)) := by
  refine met_start [some (.ref (b + io)), none, none, none] (by decide +kernel) (Nat.le_of_ble_eq_true rfl) rfl (fun Z hl ok => ?_)
  clear hl
  exact vSc_whoOpenedMost ok ho hr_q hr_sc r (by rw [hr]; rfl)
theorem vKL_busiest {Z : Cx} {G : Gx} {b : Nat} {YY : Nat → Obj} {X : Nat → Obj} (ok : OK Z G b cX11_busiest 1 1 RX11 (some .int)) : VO Z G b 1 (fun (r : Int32) => QX Z b (qI G b r (mx X YY))) (mx X YY) 0 [some (.ref (b + 0))] [] ((fKL_busiest X).bind some) := by
  unfold fKL_busiest
  refine r_aload_n (pc := 0) ok dX11_busiest_0 rfl ?_
  refine r_getR (pc := 1) ok cls11 sh_0 (k := 1) rfl (Nat.le_of_ble_eq_true rfl) rfl dX11_busiest_1 fl_KL_19 ?_
  refine r_getR (pc := 4) ok cls9 sh_4 (k := 1) rfl (Nat.le_of_ble_eq_true rfl) rfl dX11_busiest_4 fl_KL_140 ?_
  refine k_I (pc := 7) (fun r1 => r1) (fun r1 => mx X YY) (fun r1 hr_ => c_V (n := 0) ok cls8 sh_12 rfl ml_KL_268 wv_X8_whoOpenedMost yk_X8_whoOpenedMost rfl (Nat.le_of_ble_eq_true rfl) (Nat.le_of_ble_eq_true rfl) (tSc_whoOpenedMost (sc_c (o := 12) (by decide)) (rfl) (rfl) hr_) rfl (Nat.le_of_ble_eq_true rfl) dX11_busiest_7) (fun r1 => ?_)
  exact r_iret (pc := 10) ok dX11_busiest_10 rfl
theorem tKL_busiest {l : Launch} {G : Gx} {b : Nat} {YY : Nat → Obj} {X : Nat → Obj} {r : Int32} (hr : fKL_busiest X = some r) : MetG l G b yX11_busiest cX11_busiest 1 (some .int) 1 [.ref (b + 0)] (mx X YY) (qI G b r (mx X YY)) := by
  refine met_start [some (.ref (b + 0))] (by decide +kernel) (Nat.le_of_ble_eq_true rfl) rfl (fun Z hl ok => ?_)
  clear hl
  exact vKL_busiest ok r (by rw [hr]; rfl)
theorem wSc_knownInAll_L4 {Z : Cx} {G : Gx} {b : Nat} {io : Nat} {XX YY : Nat → Obj} {q : Obj} {sc : Obj} (ok : OK Z G b cX8_knownInAll 3 1 RX8 (some .int)) (ho : isSc io) (hr_q : XX (qid io) = q) (hr_sc : XX io = sc) {K : ((Int32 × Int32) ⊕ (Int32)) → Option (Int32)} (hc : ∀ (a : Int32 × Int32), VO Z G b 3 (fun (r : Int32) => QX Z b (qI G b r (mx XX YY))) (mx XX YY) 4 [some (.ref (b + io)), some (.int a.1), some (.int a.2)] [] (K (.inl a))) (hx : ∀ (e : Int32), VO Z G b 3 (fun (r : Int32) => QX Z b (qI G b r (mx XX YY))) (mx XX YY) 39 [none, some (.int e), none] [] (K (.inr e))) : ∀ (a : Int32 × Int32), VO Z G b 3 (fun (r : Int32) => QX Z b (qI G b r (mx XX YY))) (mx XX YY) 4 [some (.ref (b + io)), some (.int a.1), some (.int a.2)] [] ((fSc_knownInAll_L4 q sc a).bind K) := by
  intro a
  unfold fSc_knownInAll_L4
  refine r_iload_n (pc := 4) ok dX8_knownInAll_4 rfl ?_
  refine r_bipush (pc := 5) ok (8 : Int32) dX8_knownInAll_5 cb_8 ?_
  refine r_icmp_ge (pc := 7) ok 39 dX8_knownInAll_7 rfl (fun _ => ?_) (fun _ => ?_)
  · refine r_lv (lk_n (lk_s (lk_n lk_0 _) _) _) ?_
    exact hx a.1
  · refine r_iload_n (pc := 10) ok dX8_knownInAll_10 rfl ?_
    refine r_aload_n (pc := 11) ok dX8_knownInAll_11 rfl ?_
    refine r_getR (pc := 12) ok cls8 (sc_sh ho) (k := 0) rfl (Nat.le_of_ble_eq_true rfl) rfl dX8_knownInAll_12 fl_Sc_42 ?_
    refine r_getI (pc := 15) ok cls5 (qu_sh (qid_qu ho)) (k := 4) rfl (Nat.le_of_ble_eq_true rfl) (mx_l (qu_lt (qid_qu ho)) (hr_q)) dX8_knownInAll_15 fl_Sc_92 ?_
    refine r_icmp_ge (pc := 18) ok 39 dX8_knownInAll_18 rfl (fun _ => ?_) (fun _ => ?_)
    · refine r_lv (lk_n (lk_s (lk_n lk_0 _) _) _) ?_
      exact hx a.1
    · refine r_iload_n (pc := 21) ok dX8_knownInAll_21 rfl ?_
      refine r_aload_n (pc := 22) ok dX8_knownInAll_22 rfl ?_
      refine r_getR (pc := 23) ok cls8 (sc_sh ho) (k := 11) rfl (Nat.le_of_ble_eq_true rfl) rfl dX8_knownInAll_23 fl_Sc_33 ?_
      refine r_iload_n (pc := 26) ok dX8_knownInAll_26 rfl ?_
      refine r_iald (pc := 27) ok (sc_s8 ho) (Nat.add_sub_cancel_left _ _) (mx_l (sc_lt ho) (hr_sc)) dX8_knownInAll_27 (fun i1 => ?_)
      refine k_I (pc := 28) (fun r2 => r2) (fun r2 => mx XX YY) (fun r2 hr_ => c_S (n := 1) ok ml_Sc_101 ws_J6_bitCount_0f7a4 yk_J6_bitCount_0f7a4 rfl (Nat.le_of_ble_eq_true rfl) (Nat.le_of_ble_eq_true rfl) (tJI_bitCount hr_) rfl (Nat.le_of_ble_eq_true rfl) dX8_knownInAll_28) (fun r2 => ?_)
      refine r_iadd (pc := 31) ok dX8_knownInAll_31 ?_
      refine r_bndI (fun x3 => ?_)
      refine r_istore_n (pc := 32) ok dX8_knownInAll_32 (Nat.le_of_ble_eq_true rfl) rfl ?_
      refine r_iinc (pc := 33) ok (1 : Int32) dX8_knownInAll_33 ci_1 rfl (Nat.le_of_ble_eq_true rfl) rfl ?_
      refine r_goto (pc := 36) ok 4 dX8_knownInAll_36 rfl ?_
      exact hc (x3, (a.2 + (1 : Int32)))
theorem vSc_knownInAll {Z : Cx} {G : Gx} {b : Nat} {io : Nat} {XX YY : Nat → Obj} {q : Obj} {sc : Obj} (ok : OK Z G b cX8_knownInAll 3 1 RX8 (some .int)) (ho : isSc io) (hr_q : XX (qid io) = q) (hr_sc : XX io = sc) : VO Z G b 3 (fun (r : Int32) => QX Z b (qI G b r (mx XX YY))) (mx XX YY) 0 [some (.ref (b + io)), none, none] [] ((fSc_knownInAll q sc).bind some) := by
  unfold fSc_knownInAll
  refine r_iconst (pc := 0) ok (0 : Int32) dX8_knownInAll_0 ci_0 ?_
  refine r_istore_n (pc := 1) ok dX8_knownInAll_1 (Nat.le_of_ble_eq_true rfl) rfl ?_
  refine r_iconst (pc := 2) ok (0 : Int32) dX8_knownInAll_2 ci_0 ?_
  refine r_istore_n (pc := 3) ok dX8_knownInAll_3 (Nat.le_of_ble_eq_true rfl) rfl ?_
  refine r_iter (P := fun (a4 : Int32 × Int32) o => VO Z G b 3 (fun (r : Int32) => QX Z b (qI G b r (mx XX YY))) (mx XX YY) 4 [some (.ref (b + io)), some (.int a4.1), some (.int a4.2)] [] o) (E := fun (e_4 : Int32) o => VO Z G b 3 (fun (r : Int32) => QX Z b (qI G b r (mx XX YY))) (mx XX YY) 39 [none, some (.int e_4), none] [] o) (fun _ => r_none) (fun K hc hx => wSc_knownInAll_L4 ok ho hr_q hr_sc (K := K) hc hx) (fun e4 => ?_) FU ((0 : Int32), (0 : Int32))
  refine r_iload_n (pc := 39) ok dX8_knownInAll_39 rfl ?_
  exact r_iret (pc := 40) ok dX8_knownInAll_40 rfl
theorem tSc_knownInAll {l : Launch} {G : Gx} {b : Nat} {io : Nat} {XX YY : Nat → Obj} {q : Obj} {sc : Obj} (ho : isSc io) (hr_q : XX (qid io) = q) (hr_sc : XX io = sc) {r : Int32} (hr : fSc_knownInAll q sc = some r) : MetG l G b yX8_knownInAll cX8_knownInAll 3 (some .int) 1 [.ref (b + io)] (mx XX YY) (qI G b r (mx XX YY)) := by
  refine met_start [some (.ref (b + io)), none, none] (by decide +kernel) (Nat.le_of_ble_eq_true rfl) rfl (fun Z hl ok => ?_)
  clear hl
  exact vSc_knownInAll ok ho hr_q hr_sc r (by rw [hr]; rfl)
theorem wKL_commonDivisor_L2 {Z : Cx} {G : Gx} {b : Nat} {XX YY : Nat → Obj} {v0 : Int32} {v1 : Int32} (ok : OK Z G b cX11_commonDivisor 3 0 RX11 (some .int)) {K : ((Int32) ⊕ ((Unit) ⊕ (Int32))) → Option (Int32)} (hc : ∀ (a : Int32), VO Z G b 3 (fun (r : Int32) => QX Z b (qI G b r (mx XX YY))) (mx XX YY) 2 [some (.int v0), some (.int v1), some (.int a)] [] (K (.inl a))) (hx : ∀ (z : (Unit) ⊕ (Int32)), (∀ (e : Unit), z = .inl e → VO Z G b 3 (fun (r : Int32) => QX Z b (qI G b r (mx XX YY))) (mx XX YY) 27 [none, none, none] [] (K (.inr z))) ∧ (∀ (r : Int32), z = .inr r → K (.inr z) = some r)) : ∀ (a : Int32), VO Z G b 3 (fun (r : Int32) => QX Z b (qI G b r (mx XX YY))) (mx XX YY) 2 [some (.int v0), some (.int v1), some (.int a)] [] ((fKL_commonDivisor_L2 v0 v1 a).bind K) := by
  intro a
  unfold fKL_commonDivisor_L2
  refine r_iload_n (pc := 2) ok dX11_commonDivisor_2 rfl ?_
  refine r_iconst (pc := 3) ok (1 : Int32) dX11_commonDivisor_3 ci_1 ?_
  refine r_icmp_le (pc := 4) ok 27 dX11_commonDivisor_4 rfl (fun _ => ?_) (fun _ => ?_)
  · refine r_lv (lk_n (lk_n (lk_n lk_0 _) _) _) ?_
    exact (hx (.inl ())).1 _ rfl
  · refine r_iload_n (pc := 7) ok dX11_commonDivisor_7 rfl ?_
    refine r_iload_n (pc := 8) ok dX11_commonDivisor_8 rfl ?_
    refine r_irem (o := none) (pc := 9) ok dX11_commonDivisor_9 ?_
    refine r_if_ne (pc := 10) ok 21 dX11_commonDivisor_10 rfl (fun _ => ?_) (fun _ => ?_)
    · refine r_iload_n (pc := 13) ok dX11_commonDivisor_13 rfl ?_
      refine r_iload_n (pc := 14) ok dX11_commonDivisor_14 rfl ?_
      refine r_irem (o := none) (pc := 15) ok dX11_commonDivisor_15 ?_
      refine r_if_ne (pc := 16) ok 21 dX11_commonDivisor_16 rfl (fun _ => ?_) (fun _ => ?_)
      · refine r_iload_n (pc := 19) ok dX11_commonDivisor_19 rfl ?_
        refine r_eq ((hx (.inr a)).2 _ rfl) ?_
        exact r_iret (pc := 20) ok dX11_commonDivisor_20 rfl
      · refine r_iinc (pc := 21) ok (-1 : Int32) dX11_commonDivisor_21 ci_m1 rfl (Nat.le_of_ble_eq_true rfl) rfl ?_
        refine r_goto (pc := 24) ok 2 dX11_commonDivisor_24 rfl ?_
        exact hc (a + (-1 : Int32))
    · refine r_iinc (pc := 21) ok (-1 : Int32) dX11_commonDivisor_21 ci_m1 rfl (Nat.le_of_ble_eq_true rfl) rfl ?_
      refine r_goto (pc := 24) ok 2 dX11_commonDivisor_24 rfl ?_
      exact hc (a + (-1 : Int32))
theorem vKL_commonDivisor {Z : Cx} {G : Gx} {b : Nat} {XX YY : Nat → Obj} {v0 : Int32} {v1 : Int32} (ok : OK Z G b cX11_commonDivisor 3 0 RX11 (some .int)) : VO Z G b 3 (fun (r : Int32) => QX Z b (qI G b r (mx XX YY))) (mx XX YY) 0 [some (.int v0), some (.int v1), none] [] ((fKL_commonDivisor v0 v1).bind some) := by
  unfold fKL_commonDivisor
  refine r_iload_n (pc := 0) ok dX11_commonDivisor_0 rfl ?_
  refine r_istore_n (pc := 1) ok dX11_commonDivisor_1 (Nat.le_of_ble_eq_true rfl) rfl ?_
  refine r_iter (P := fun (a2 : Int32) o => VO Z G b 3 (fun (r : Int32) => QX Z b (qI G b r (mx XX YY))) (mx XX YY) 2 [some (.int v0), some (.int v1), some (.int a2)] [] o) (E := fun (z : (Unit) ⊕ (Int32)) o => (∀ (e_2 : Unit), z = .inl e_2 → VO Z G b 3 (fun (r : Int32) => QX Z b (qI G b r (mx XX YY))) (mx XX YY) 27 [none, none, none] [] o) ∧ (∀ (r : Int32), z = .inr r → o = some r)) (fun _ => r_none) (fun K hc hx => wKL_commonDivisor_L2 ok (K := K) hc hx) (fun z => ⟨fun e1 hz => ?_, fun r hz => ?_⟩) FU v1
  · subst hz
    refine r_inl ?_
    refine r_iconst (pc := 27) ok (1 : Int32) dX11_commonDivisor_27 ci_1 ?_
    exact r_iret (pc := 28) ok dX11_commonDivisor_28 rfl
  · subst hz
    rfl
theorem tKL_commonDivisor {l : Launch} {G : Gx} {b : Nat} {XX YY : Nat → Obj} {v0 : Int32} {v1 : Int32} {r : Int32} (hr : fKL_commonDivisor v0 v1 = some r) : MetG l G b yX11_commonDivisor cX11_commonDivisor 3 (some .int) 0 [.int v0, .int v1] (mx XX YY) (qI G b r (mx XX YY)) := by
  refine met_start [some (.int v0), some (.int v1), none] (by decide +kernel) (Nat.le_of_ble_eq_true rfl) rfl (fun Z hl ok => ?_)
  clear hl
  exact vKL_commonDivisor ok r (by rw [hr]; rfl)
theorem vQu_nameOfPerson {Z : Cx} {G : Gx} {b : Nat} {iq : Nat} {XX YY : Nat → Obj} {q : Obj} {v1 : Int32} (ok : OK Z G b cX5_nameOfPerson 2 1 RX5 (some .long)) (hq : isQu iq) (hr_q : XX iq = q) : VO Z G b 2 (fun (r : Int64) => QX Z b (qJ G b r (mx XX YY))) (mx XX YY) 0 [some (.ref (b + iq)), some (.int v1)] [] ((fQu_nameOfPerson q v1).bind some) := by
  unfold fQu_nameOfPerson
  refine r_aload_n (pc := 0) ok dX5_nameOfPerson_0 rfl ?_
  refine r_iload_n (pc := 1) ok dX5_nameOfPerson_1 rfl ?_
  refine k_I (pc := 2) (fun r1 => r1) (fun r1 => mx XX YY) (fun r1 hr_ => c_V (n := 1) ok cls5 (qu_sh hq) rfl ml_Qu_57 wv_X5_hasPerson yk_X5_hasPerson rfl (Nat.le_of_ble_eq_true rfl) (Nat.le_of_ble_eq_true rfl) (tQu_hasPerson hq (hr_q) hr_) rfl (Nat.le_of_ble_eq_true rfl) dX5_nameOfPerson_2) (fun r1 => ?_)
  refine r_if_eq (pc := 5) ok 17 dX5_nameOfPerson_5 rfl (fun _ => ?_) (fun _ => ?_)
  · refine r_lconst (pc := 17) ok (0 : Int64) dX5_nameOfPerson_17 (by decide +kernel) ?_
    exact r_lret (pc := 18) ok dX5_nameOfPerson_18 rfl
  · refine r_aload_n (pc := 8) ok dX5_nameOfPerson_8 rfl ?_
    refine r_getR (pc := 9) ok cls5 (qu_sh hq) (k := 10) rfl (Nat.le_of_ble_eq_true rfl) rfl dX5_nameOfPerson_9 fl_Qu_38 ?_
    refine r_iload_n (pc := 12) ok dX5_nameOfPerson_12 rfl ?_
    refine r_lald (pc := 13) ok (qu_s6 hq) (Nat.add_sub_cancel_left _ _) (mx_l (qu_lt hq) (hr_q)) dX5_nameOfPerson_13 (fun i2 => ?_)
    refine r_goto (pc := 14) ok 18 dX5_nameOfPerson_14 rfl ?_
    exact r_lret (pc := 18) ok dX5_nameOfPerson_18 rfl
theorem tQu_nameOfPerson {l : Launch} {G : Gx} {b : Nat} {iq : Nat} {XX YY : Nat → Obj} {q : Obj} {v1 : Int32} (hq : isQu iq) (hr_q : XX iq = q) {r : Int64} (hr : fQu_nameOfPerson q v1 = some r) : MetG l G b yX5_nameOfPerson cX5_nameOfPerson 2 (some .long) 1 [.ref (b + iq), .int v1] (mx XX YY) (qJ G b r (mx XX YY)) := by
  refine met_start [some (.ref (b + iq)), some (.int v1)] (by decide +kernel) (Nat.le_of_ble_eq_true rfl) rfl (fun Z hl ok => ?_)
  clear hl
  exact vQu_nameOfPerson ok hq hr_q r (by rw [hr]; rfl)
theorem vLa_add {Z : Cx} {G : Gx} {b : Nat} {XX YY : Nat → Obj} {la : Obj} {v1 : Int32} (ok : OK Z G b cX2_add 2 0 RX2 none) : VO Z G b 2 (fun (r : Obj) => QX Z b (qV G b (mx (va_up XX 223 r) YY))) (mx (va_up XX 223 la) YY) 0 [some (.ref (b + 223)), some (.int v1)] [] ((fLa_add la v1).bind some) := by
  unfold fLa_add
  refine r_aload_n (pc := 0) ok dX2_add_0 rfl ?_
  refine r_getI (pc := 1) ok cls2 sh_223 (k := 0) rfl (Nat.le_of_ble_eq_true rfl) (mx_l (Nat.le_of_ble_eq_true rfl) (va_up_self _ _ _)) dX2_add_1 fl_La_25 ?_
  refine r_bipush (pc := 4) ok (32 : Int32) dX2_add_4 cb_32 ?_
  refine r_icmp_ge (pc := 6) ok 30 dX2_add_6 rfl (fun _ => ?_) (fun _ => ?_)
  · exact r_vret (pc := 30) ok dX2_add_30 rfl
  · refine r_aload_n (pc := 9) ok dX2_add_9 rfl ?_
    refine r_getR (pc := 10) ok cls2 sh_223 (k := 1) rfl (Nat.le_of_ble_eq_true rfl) rfl dX2_add_10 fl_La_11 ?_
    refine r_aload_n (pc := 13) ok dX2_add_13 rfl ?_
    refine r_getI (pc := 14) ok cls2 sh_223 (k := 0) rfl (Nat.le_of_ble_eq_true rfl) (mx_l (Nat.le_of_ble_eq_true rfl) (va_up_self _ _ _)) dX2_add_14 fl_La_25 ?_
    refine r_iload_n (pc := 17) ok dX2_add_17 rfl ?_
    refine r_i2b (pc := 18) ok dX2_add_18 ?_
    refine r_bast (pc := 19) ok sh_224 (j := 1) rfl rfl (fun s_ => mx (va_up XX 223 s_) YY) (pm_l (Nat.le_of_ble_eq_true rfl) (pm_0 _ _)).1 (pm_l (Nat.le_of_ble_eq_true rfl) (pm_0 _ _)).2 dX2_add_19 (fun i1 s2 => ?_)
    refine r_aload_n (pc := 20) ok dX2_add_20 rfl ?_
    refine r_dup (pc := 21) ok dX2_add_21 rfl ?_
    refine r_getI (pc := 22) ok cls2 sh_223 (k := 0) rfl (Nat.le_of_ble_eq_true rfl) (mx_l (Nat.le_of_ble_eq_true rfl) (va_up_self _ _ _)) dX2_add_22 fl_La_25 ?_
    refine r_iconst (pc := 25) ok (1 : Int32) dX2_add_25 ci_1 ?_
    refine r_iadd (pc := 26) ok dX2_add_26 ?_
    refine r_putI (pc := 27) ok cls2 sh_223 (k := 0) rfl (Nat.le_of_ble_eq_true rfl) (fun s_ => mx (va_up XX 223 s_) YY) (pm_l (Nat.le_of_ble_eq_true rfl) (pm_0 _ _)).1 (pm_l (Nat.le_of_ble_eq_true rfl) (pm_0 _ _)).2 rfl rfl rfl dX2_add_27 fl_La_25 (fun s3 => ?_)
    exact r_vret (pc := 30) ok dX2_add_30 rfl
theorem tLa_add {l : Launch} {G : Gx} {b : Nat} {XX YY : Nat → Obj} {la : Obj} {v1 : Int32} {r : Obj} (hr : fLa_add la v1 = some r) : MetG l G b yX2_add cX2_add 2 none 0 [.ref (b + 223), .int v1] (mx (va_up XX 223 la) YY) (qV G b (mx (va_up XX 223 r) YY)) := by
  refine met_start [some (.ref (b + 223)), some (.int v1)] (by decide +kernel) (Nat.le_of_ble_eq_true rfl) rfl (fun Z hl ok => ?_)
  clear hl
  exact vLa_add ok r (by rw [hr]; rfl)
theorem wLa_addWord_L3 {Z : Cx} {G : Gx} {b : Nat} {XX YY : Nat → Obj} {v1 : Int64} (ok : OK Z G b cX2_addWord 5 1 RX2 none) {K : ((Int32 × Obj) ⊕ (Obj)) → Option (Obj)} (hc : ∀ (a : Int32 × Obj), VO Z G b 5 (fun (r : Obj) => QX Z b (qV G b (mx (va_up XX 223 r) YY))) (mx (va_up XX 223 a.2) YY) 3 [some (.ref (b + 223)), some (.long v1), none, some (.int a.1), none] [] (K (.inl a))) (hx : ∀ (e : Obj), VO Z G b 5 (fun (r : Obj) => QX Z b (qV G b (mx (va_up XX 223 r) YY))) (mx (va_up XX 223 e) YY) 36 [none, none, none, none, none] [] (K (.inr e))) : ∀ (a : Int32 × Obj), VO Z G b 5 (fun (r : Obj) => QX Z b (qV G b (mx (va_up XX 223 r) YY))) (mx (va_up XX 223 a.2) YY) 3 [some (.ref (b + 223)), some (.long v1), none, some (.int a.1), none] [] ((fLa_addWord_L3 v1 a).bind K) := by
  intro a
  unfold fLa_addWord_L3
  refine r_iload_n (pc := 3) ok dX2_addWord_3 rfl ?_
  refine r_if_lt (pc := 4) ok 36 dX2_addWord_4 rfl (fun _ => ?_) (fun _ => ?_)
  · refine r_lv (lk_n (lk_n (lk_n (lk_n (lk_n lk_0 _) _) _) _) _) ?_
    exact hx a.2
  · refine r_lload_n (pc := 7) ok dX2_addWord_7 rfl ?_
    refine r_iload_n (pc := 8) ok dX2_addWord_8 rfl ?_
    refine r_lshr (pc := 9) ok dX2_addWord_9 ?_
    refine r_l2i (pc := 10) ok dX2_addWord_10 ?_
    refine r_bipush (pc := 11) ok (31 : Int32) dX2_addWord_11 cb_31 ?_
    refine r_iand (pc := 13) ok dX2_addWord_13 ?_
    refine r_bndI (fun x1 => ?_)
    refine r_istore (pc := 14) ok dX2_addWord_14 (Nat.le_of_ble_eq_true rfl) rfl ?_
    refine r_iload (pc := 16) ok dX2_addWord_16 rfl ?_
    refine r_if_eq (pc := 18) ok 30 dX2_addWord_18 rfl (fun _ => ?_) (fun _ => ?_)
    · refine r_iinc (pc := 30) ok (-5 : Int32) dX2_addWord_30 ci_m5 rfl (Nat.le_of_ble_eq_true rfl) rfl ?_
      refine r_goto (pc := 33) ok 3 dX2_addWord_33 rfl ?_
      refine r_lv (lk_s (lk_s (lk_n (lk_s (lk_n lk_0 _) _) _) _) _) ?_
      exact hc ((a.1 + (-5 : Int32)), a.2)
    · refine r_aload_n (pc := 21) ok dX2_addWord_21 rfl ?_
      refine r_iload (pc := 22) ok dX2_addWord_22 rfl ?_
      refine r_bipush (pc := 24) ok (96 : Int32) dX2_addWord_24 cb_96 ?_
      refine r_iadd (pc := 26) ok dX2_addWord_26 ?_
      refine k_V (pc := 27)  (fun r2 => mx (va_up XX 223 r2) YY) (fun r2 hr_ => c_V (n := 1) ok cls2 sh_223 rfl ml_La_82 wv_X2_add yk_X2_add rfl (Nat.le_of_ble_eq_true rfl) (Nat.le_of_ble_eq_true rfl) (tLa_add hr_) rfl (Nat.le_of_ble_eq_true rfl) dX2_addWord_27) (fun r2 => ?_)
      refine r_iinc (pc := 30) ok (-5 : Int32) dX2_addWord_30 ci_m5 rfl (Nat.le_of_ble_eq_true rfl) rfl ?_
      refine r_goto (pc := 33) ok 3 dX2_addWord_33 rfl ?_
      refine r_lv (lk_s (lk_s (lk_n (lk_s (lk_n lk_0 _) _) _) _) _) ?_
      exact hc ((a.1 + (-5 : Int32)), r2)
theorem vLa_addWord {Z : Cx} {G : Gx} {b : Nat} {XX YY : Nat → Obj} {la : Obj} {v1 : Int64} (ok : OK Z G b cX2_addWord 5 1 RX2 none) : VO Z G b 5 (fun (r : Obj) => QX Z b (qV G b (mx (va_up XX 223 r) YY))) (mx (va_up XX 223 la) YY) 0 [some (.ref (b + 223)), some (.long v1), none, none, none] [] ((fLa_addWord la v1).bind some) := by
  unfold fLa_addWord
  refine r_bipush (pc := 0) ok (35 : Int32) dX2_addWord_0 cb_35 ?_
  refine r_istore_n (pc := 2) ok dX2_addWord_2 (Nat.le_of_ble_eq_true rfl) rfl ?_
  refine r_iter (P := fun (a3 : Int32 × Obj) o => VO Z G b 5 (fun (r : Obj) => QX Z b (qV G b (mx (va_up XX 223 r) YY))) (mx (va_up XX 223 a3.2) YY) 3 [some (.ref (b + 223)), some (.long v1), none, some (.int a3.1), none] [] o) (E := fun (e_3 : Obj) o => VO Z G b 5 (fun (r : Obj) => QX Z b (qV G b (mx (va_up XX 223 r) YY))) (mx (va_up XX 223 e_3) YY) 36 [none, none, none, none, none] [] o) (fun _ => r_none) (fun K hc hx => wLa_addWord_L3 ok (K := K) hc hx) (fun e3 => ?_) FU ((35 : Int32), la)
  exact r_vret (pc := 36) ok dX2_addWord_36 rfl
theorem tLa_addWord {l : Launch} {G : Gx} {b : Nat} {XX YY : Nat → Obj} {la : Obj} {v1 : Int64} {r : Obj} (hr : fLa_addWord la v1 = some r) : MetG l G b yX2_addWord cX2_addWord 5 none 1 [.ref (b + 223), .long v1] (mx (va_up XX 223 la) YY) (qV G b (mx (va_up XX 223 r) YY)) := by
  refine met_start [some (.ref (b + 223)), some (.long v1), none, none, none] (by decide +kernel) (Nat.le_of_ble_eq_true rfl) rfl (fun Z hl ok => ?_)
  clear hl
  exact vLa_addWord ok r (by rw [hr]; rfl)
theorem wLa_addText_L2 {Z : Cx} {G : Gx} {b : Nat} {XX YY : Nat → Obj} {v1 : Nat} (ok : OK Z G b cX2_addText 3 6 RX2 none) (hstr : v1 < 7) {K : ((Int32 × Obj) ⊕ (Obj)) → Option (Obj)} (hc : ∀ (a : Int32 × Obj), VO Z G b 3 (fun (r : Obj) => QX Z b (qV G b (mx (va_up XX 223 r) YY))) (mx (va_up XX 223 a.2) YY) 2 [some (.ref (b + 223)), some (.ref (aS G v1)), some (.int a.1)] [] (K (.inl a))) (hx : ∀ (e : Obj), VO Z G b 3 (fun (r : Obj) => QX Z b (qV G b (mx (va_up XX 223 r) YY))) (mx (va_up XX 223 e) YY) 25 [none, none, none] [] (K (.inr e))) : ∀ (a : Int32 × Obj), VO Z G b 3 (fun (r : Obj) => QX Z b (qV G b (mx (va_up XX 223 r) YY))) (mx (va_up XX 223 a.2) YY) 2 [some (.ref (b + 223)), some (.ref (aS G v1)), some (.int a.1)] [] ((fLa_addText_L2 v1 a).bind K) := by
  intro a
  unfold fLa_addText_L2
  refine r_iload_n (pc := 2) ok dX2_addText_2 rfl ?_
  refine r_aload_n (pc := 3) ok dX2_addText_3 rfl ?_
  refine r_slen (pc := 4) ok hstr ml_La_72 (Nat.le_of_ble_eq_true rfl) (Nat.le_of_ble_eq_true rfl) dX2_addText_4 ?_
  refine r_icmp_ge (pc := 7) ok 25 dX2_addText_7 rfl (fun _ => ?_) (fun _ => ?_)
  · refine r_lv (lk_n (lk_n (lk_n lk_0 _) _) _) ?_
    exact hx a.2
  · refine r_aload_n (pc := 10) ok dX2_addText_10 rfl ?_
    refine r_aload_n (pc := 11) ok dX2_addText_11 rfl ?_
    refine r_iload_n (pc := 12) ok dX2_addText_12 rfl ?_
    refine r_sat (pc := 13) ok hstr ml_La_78 (Nat.le_of_ble_eq_true rfl) (Nat.le_of_ble_eq_true rfl) dX2_addText_13 (fun c1 => ?_)
    refine k_V (pc := 16)  (fun r2 => mx (va_up XX 223 r2) YY) (fun r2 hr_ => c_V (n := 1) ok cls2 sh_223 rfl ml_La_82 wv_X2_add yk_X2_add rfl (Nat.le_of_ble_eq_true rfl) (Nat.le_of_ble_eq_true rfl) (tLa_add hr_) rfl (Nat.le_of_ble_eq_true rfl) dX2_addText_16) (fun r2 => ?_)
    refine r_iinc (pc := 19) ok (1 : Int32) dX2_addText_19 ci_1 rfl (Nat.le_of_ble_eq_true rfl) rfl ?_
    refine r_goto (pc := 22) ok 2 dX2_addText_22 rfl ?_
    exact hc ((a.1 + (1 : Int32)), r2)
theorem vLa_addText {Z : Cx} {G : Gx} {b : Nat} {XX YY : Nat → Obj} {la : Obj} {v1 : Nat} (ok : OK Z G b cX2_addText 3 6 RX2 none) (hstr : v1 < 7) : VO Z G b 3 (fun (r : Obj) => QX Z b (qV G b (mx (va_up XX 223 r) YY))) (mx (va_up XX 223 la) YY) 0 [some (.ref (b + 223)), some (.ref (aS G v1)), none] [] ((fLa_addText la v1).bind some) := by
  unfold fLa_addText
  refine r_iconst (pc := 0) ok (0 : Int32) dX2_addText_0 ci_0 ?_
  refine r_istore_n (pc := 1) ok dX2_addText_1 (Nat.le_of_ble_eq_true rfl) rfl ?_
  refine r_iter (P := fun (a2 : Int32 × Obj) o => VO Z G b 3 (fun (r : Obj) => QX Z b (qV G b (mx (va_up XX 223 r) YY))) (mx (va_up XX 223 a2.2) YY) 2 [some (.ref (b + 223)), some (.ref (aS G v1)), some (.int a2.1)] [] o) (E := fun (e_2 : Obj) o => VO Z G b 3 (fun (r : Obj) => QX Z b (qV G b (mx (va_up XX 223 r) YY))) (mx (va_up XX 223 e_2) YY) 25 [none, none, none] [] o) (fun _ => r_none) (fun K hc hx => wLa_addText_L2 ok hstr (K := K) hc hx) (fun e3 => ?_) FU ((0 : Int32), la)
  exact r_vret (pc := 25) ok dX2_addText_25 rfl
theorem tLa_addText {l : Launch} {G : Gx} {b : Nat} {XX YY : Nat → Obj} {la : Obj} {v1 : Nat} (hstr : v1 < 7) {r : Obj} (hr : fLa_addText la v1 = some r) : MetG l G b yX2_addText cX2_addText 3 none 6 [.ref (b + 223), .ref (aS G v1)] (mx (va_up XX 223 la) YY) (qV G b (mx (va_up XX 223 r) YY)) := by
  refine met_start [some (.ref (b + 223)), some (.ref (aS G v1)), none] (by decide +kernel) (Nat.le_of_ble_eq_true rfl) rfl (fun Z hl ok => ?_)
  subst hl
  exact vLa_addText ok hstr r (by rw [hr]; rfl)
theorem wLa_addDigits_J17 {Z : Cx} {G : Gx} {b : Nat} {XX YY : Nat → Obj} {la : Obj} {v1 : Int32} (ok : OK Z G b cX2_addDigits 2 1 RX2 none) : VO Z G b 2 (fun (r : Obj) => QX Z b (qV G b (mx (va_up XX 223 r) YY))) (mx (va_up XX 223 la) YY) 17 [some (.ref (b + 223)), some (.int v1)] [] ((fLa_addDigits_J17 la v1).bind some) := by
  unfold fLa_addDigits_J17
  refine r_aload_n (pc := 17) ok dX2_addDigits_17 rfl ?_
  refine r_bipush (pc := 18) ok (48 : Int32) dX2_addDigits_18 cb_48 ?_
  refine r_iload_n (pc := 20) ok dX2_addDigits_20 rfl ?_
  refine r_bipush (pc := 21) ok (10 : Int32) dX2_addDigits_21 cb_10 ?_
  refine r_iremc (pc := 23) ok dX2_addDigits_23 (by decide +kernel) ?_
  refine r_iadd (pc := 24) ok dX2_addDigits_24 ?_
  refine k_V (pc := 25)  (fun r1 => mx (va_up XX 223 r1) YY) (fun r1 hr_ => c_V (n := 1) ok cls2 sh_223 rfl ml_La_82 wv_X2_add yk_X2_add rfl (Nat.le_of_ble_eq_true rfl) (Nat.le_of_ble_eq_true rfl) (tLa_add hr_) rfl (Nat.le_of_ble_eq_true rfl) dX2_addDigits_25) (fun r1 => ?_)
  exact r_vret (pc := 28) ok dX2_addDigits_28 rfl
theorem vLa_addDigits {Z : Cx} {G : Gx} {b : Nat} {XX YY : Nat → Obj} {la : Obj} {v1 : Int32} (ok : OK Z G b cX2_addDigits 2 1 RX2 none) : VO Z G b 2 (fun (r : Obj) => QX Z b (qV G b (mx (va_up XX 223 r) YY))) (mx (va_up XX 223 la) YY) 0 [some (.ref (b + 223)), some (.int v1)] [] ((fLa_addDigits la v1).bind some) := by
  unfold fLa_addDigits
  refine r_iload_n (pc := 0) ok dX2_addDigits_0 rfl ?_
  refine r_bipush (pc := 1) ok (10 : Int32) dX2_addDigits_1 cb_10 ?_
  refine r_icmp_lt (pc := 3) ok 17 dX2_addDigits_3 rfl (fun _ => ?_) (fun _ => ?_)
  · exact wLa_addDigits_J17 ok
  · refine r_aload_n (pc := 6) ok dX2_addDigits_6 rfl ?_
    refine r_bipush (pc := 7) ok (48 : Int32) dX2_addDigits_7 cb_48 ?_
    refine r_iload_n (pc := 9) ok dX2_addDigits_9 rfl ?_
    refine r_bipush (pc := 10) ok (10 : Int32) dX2_addDigits_10 cb_10 ?_
    refine r_idivc (pc := 12) ok dX2_addDigits_12 (by decide +kernel) ?_
    refine r_iadd (pc := 13) ok dX2_addDigits_13 ?_
    refine k_V (pc := 14)  (fun r2 => mx (va_up XX 223 r2) YY) (fun r2 hr_ => c_V (n := 1) ok cls2 sh_223 rfl ml_La_82 wv_X2_add yk_X2_add rfl (Nat.le_of_ble_eq_true rfl) (Nat.le_of_ble_eq_true rfl) (tLa_add hr_) rfl (Nat.le_of_ble_eq_true rfl) dX2_addDigits_14) (fun r2 => ?_)
    exact wLa_addDigits_J17 ok
theorem tLa_addDigits {l : Launch} {G : Gx} {b : Nat} {XX YY : Nat → Obj} {la : Obj} {v1 : Int32} {r : Obj} (hr : fLa_addDigits la v1 = some r) : MetG l G b yX2_addDigits cX2_addDigits 2 none 1 [.ref (b + 223), .int v1] (mx (va_up XX 223 la) YY) (qV G b (mx (va_up XX 223 r) YY)) := by
  refine met_start [some (.ref (b + 223)), some (.int v1)] (by decide +kernel) (Nat.le_of_ble_eq_true rfl) rfl (fun Z hl ok => ?_)
  clear hl
  exact vLa_addDigits ok r (by rw [hr]; rfl)
theorem vLa_addWay {Z : Cx} {G : Gx} {b : Nat} {XX YY : Nat → Obj} {ta : Obj} {la : Obj} {v1 : Int32} (ok : OK Z G b cX2_addWay 2 2 RX2 none) (hr_ta : XX 1 = ta) : VO Z G b 2 (fun (r : Obj) => QX Z b (qV G b (mx (va_up XX 223 r) YY))) (mx (va_up XX 223 la) YY) 0 [some (.ref (b + 223)), some (.int v1)] [] ((fLa_addWay ta la v1).bind some) := by
  unfold fLa_addWay
  refine r_iload_n (pc := 0) ok dX2_addWay_0 rfl ?_
  refine r_if_lt (pc := 1) ok 20 dX2_addWay_1 rfl (fun _ => ?_) (fun _ => ?_)
  · exact r_vret (pc := 20) ok dX2_addWay_20 rfl
  · refine r_iload_n (pc := 4) ok dX2_addWay_4 rfl ?_
    refine r_bipush (pc := 5) ok (29 : Int32) dX2_addWay_5 cb_29 ?_
    refine r_icmp_ge (pc := 7) ok 20 dX2_addWay_7 rfl (fun _ => ?_) (fun _ => ?_)
    · exact r_vret (pc := 20) ok dX2_addWay_20 rfl
    · refine r_aload_n (pc := 10) ok dX2_addWay_10 rfl ?_
      refine r_aload_n (pc := 11) ok dX2_addWay_11 rfl ?_
      refine r_getR (pc := 12) ok cls2 sh_223 (k := 2) rfl (Nat.le_of_ble_eq_true rfl) rfl dX2_addWay_12 fl_La_15 ?_
      refine r_iload_n (pc := 15) ok dX2_addWay_15 rfl ?_
      refine r_lald (pc := 16) ok sh_2 (j := 1) rfl (mx_l (Nat.le_of_ble_eq_true rfl) ((va_up_ne _ _ (by decide)).trans (hr_ta))) dX2_addWay_16 (fun i1 => ?_)
      refine k_V (pc := 17)  (fun r2 => mx (va_up XX 223 r2) YY) (fun r2 hr_ => c_V (n := 1) ok cls2 sh_223 rfl ml_La_35 wv_X2_addWord yk_X2_addWord rfl (Nat.le_of_ble_eq_true rfl) (Nat.le_of_ble_eq_true rfl) (tLa_addWord hr_) rfl (Nat.le_of_ble_eq_true rfl) dX2_addWay_17) (fun r2 => ?_)
      exact r_vret (pc := 20) ok dX2_addWay_20 rfl
theorem tLa_addWay {l : Launch} {G : Gx} {b : Nat} {XX YY : Nat → Obj} {ta : Obj} {la : Obj} {v1 : Int32} (hr_ta : XX 1 = ta) {r : Obj} (hr : fLa_addWay ta la v1 = some r) : MetG l G b yX2_addWay cX2_addWay 2 none 2 [.ref (b + 223), .int v1] (mx (va_up XX 223 la) YY) (qV G b (mx (va_up XX 223 r) YY)) := by
  refine met_start [some (.ref (b + 223)), some (.int v1)] (by decide +kernel) (Nat.le_of_ble_eq_true rfl) rfl (fun Z hl ok => ?_)
  clear hl
  exact vLa_addWay ok hr_ta r (by rw [hr]; rfl)
theorem vQu_nameOfHouse {Z : Cx} {G : Gx} {b : Nat} {iq : Nat} {XX YY : Nat → Obj} {q : Obj} {v1 : Int32} (ok : OK Z G b cX5_nameOfHouse 2 1 RX5 (some .long)) (hq : isQu iq) (hr_q : XX iq = q) : VO Z G b 2 (fun (r : Int64) => QX Z b (qJ G b r (mx XX YY))) (mx XX YY) 0 [some (.ref (b + iq)), some (.int v1)] [] ((fQu_nameOfHouse q v1).bind some) := by
  unfold fQu_nameOfHouse
  refine r_aload_n (pc := 0) ok dX5_nameOfHouse_0 rfl ?_
  refine r_iload_n (pc := 1) ok dX5_nameOfHouse_1 rfl ?_
  refine k_I (pc := 2) (fun r1 => r1) (fun r1 => mx XX YY) (fun r1 hr_ => c_V (n := 1) ok cls5 (qu_sh hq) rfl ml_Qu_53 wv_X5_hasHouse yk_X5_hasHouse rfl (Nat.le_of_ble_eq_true rfl) (Nat.le_of_ble_eq_true rfl) (tQu_hasHouse hq (hr_q) hr_) rfl (Nat.le_of_ble_eq_true rfl) dX5_nameOfHouse_2) (fun r1 => ?_)
  refine r_if_eq (pc := 5) ok 17 dX5_nameOfHouse_5 rfl (fun _ => ?_) (fun _ => ?_)
  · refine r_lconst (pc := 17) ok (0 : Int64) dX5_nameOfHouse_17 (by decide +kernel) ?_
    exact r_lret (pc := 18) ok dX5_nameOfHouse_18 rfl
  · refine r_aload_n (pc := 8) ok dX5_nameOfHouse_8 rfl ?_
    refine r_getR (pc := 9) ok cls5 (qu_sh hq) (k := 7) rfl (Nat.le_of_ble_eq_true rfl) rfl dX5_nameOfHouse_9 fl_Qu_28 ?_
    refine r_iload_n (pc := 12) ok dX5_nameOfHouse_12 rfl ?_
    refine r_lald (pc := 13) ok (qu_s3 hq) (Nat.add_sub_cancel_left _ _) (mx_l (qu_lt hq) (hr_q)) dX5_nameOfHouse_13 (fun i2 => ?_)
    refine r_goto (pc := 14) ok 18 dX5_nameOfHouse_14 rfl ?_
    exact r_lret (pc := 18) ok dX5_nameOfHouse_18 rfl
theorem tQu_nameOfHouse {l : Launch} {G : Gx} {b : Nat} {iq : Nat} {XX YY : Nat → Obj} {q : Obj} {v1 : Int32} (hq : isQu iq) (hr_q : XX iq = q) {r : Int64} (hr : fQu_nameOfHouse q v1 = some r) : MetG l G b yX5_nameOfHouse cX5_nameOfHouse 2 (some .long) 1 [.ref (b + iq), .int v1] (mx XX YY) (qJ G b r (mx XX YY)) := by
  refine met_start [some (.ref (b + iq)), some (.int v1)] (by decide +kernel) (Nat.le_of_ble_eq_true rfl) rfl (fun Z hl ok => ?_)
  clear hl
  exact vQu_nameOfHouse ok hq hr_q r (by rw [hr]; rfl)
theorem vLa_write {Z : Cx} {G : Gx} {b : Nat} {XX YY : Nat → Obj} {q : Obj} {ta : Obj} {sc : Obj} {la : Obj} {v2 : Int32} (ok : OK Z G b cX2_write 4 7 RX2 none) (hr_q : XX 5 = q) (hr_ta : XX 1 = ta) (hr_sc : XX 12 = sc) : VO Z G b 4 (fun (r : Obj) => QX Z b (qV G b (mx (va_up XX 223 r) YY))) (mx (va_up XX 223 la) YY) 0 [some (.ref (b + 223)), some (.ref (b + 12)), some (.int v2), none] [] ((fLa_write q ta sc la v2).bind some) := by
  unfold fLa_write
  refine r_aload_n (pc := 0) ok dX2_write_0 rfl ?_
  refine r_getR (pc := 1) ok cls8 sh_12 (k := 0) rfl (Nat.le_of_ble_eq_true rfl) rfl dX2_write_1 fl_La_19 ?_
  refine r_astore_n (pc := 4) ok dX2_write_4 (Nat.le_of_ble_eq_true rfl) rfl ?_
  refine r_aload_n (pc := 5) ok dX2_write_5 rfl ?_
  refine r_iconst (pc := 6) ok (0 : Int32) dX2_write_6 ci_0 ?_
  refine r_putI (pc := 7) ok cls2 sh_223 (k := 0) rfl (Nat.le_of_ble_eq_true rfl) (fun s_ => mx (va_up XX 223 s_) YY) (pm_l (Nat.le_of_ble_eq_true rfl) (pm_0 _ _)).1 (pm_l (Nat.le_of_ble_eq_true rfl) (pm_0 _ _)).2 rfl rfl rfl dX2_write_7 fl_La_25 (fun s1 => ?_)
  refine r_aload_n (pc := 10) ok dX2_write_10 rfl ?_
  refine r_aload_n (pc := 11) ok dX2_write_11 rfl ?_
  refine r_iload_n (pc := 12) ok dX2_write_12 rfl ?_
  refine k_J (pc := 13) (fun r2 => r2) (fun r2 => mx (va_up XX 223 s1) YY) (fun r2 hr_ => c_V (n := 1) ok cls5 sh_5 rfl ml_La_29 wv_X5_nameOfPerson yk_X5_nameOfPerson rfl (Nat.le_of_ble_eq_true rfl) (Nat.le_of_ble_eq_true rfl) (tQu_nameOfPerson (qu_c (o := 5) (by decide)) ((va_up_ne _ _ (by decide)).trans (hr_q)) hr_) rfl (Nat.le_of_ble_eq_true rfl) dX2_write_13) (fun r2 => ?_)
  refine k_V (pc := 16)  (fun r3 => mx (va_up XX 223 r3) YY) (fun r3 hr_ => c_V (n := 1) ok cls2 sh_223 rfl ml_La_35 wv_X2_addWord yk_X2_addWord rfl (Nat.le_of_ble_eq_true rfl) (Nat.le_of_ble_eq_true rfl) (tLa_addWord hr_) rfl (Nat.le_of_ble_eq_true rfl) dX2_write_16) (fun r3 => ?_)
  refine r_aload_n (pc := 19) ok dX2_write_19 rfl ?_
  refine r_iload_n (pc := 20) ok dX2_write_20 rfl ?_
  refine k_I (pc := 21) (fun r4 => r4) (fun r4 => mx (va_up XX 223 r3) YY) (fun r4 hr_ => c_V (n := 1) ok cls8 sh_12 rfl ml_La_39 wv_X8_isInLane yk_X8_isInLane rfl (Nat.le_of_ble_eq_true rfl) (Nat.le_of_ble_eq_true rfl) (tSc_isInLane (sc_c (o := 12) (by decide)) ((va_up_ne _ _ (by decide)).trans (hr_q)) ((va_up_ne _ _ (by decide)).trans (hr_sc)) hr_) rfl (Nat.le_of_ble_eq_true rfl) dX2_write_21) (fun r4 => ?_)
  refine r_if_eq (pc := 24) ok 63 dX2_write_24 rfl (fun _ => ?_) (fun _ => ?_)
  · refine r_aload_n (pc := 63) ok dX2_write_63 rfl ?_
    refine r_aload_n (pc := 64) ok dX2_write_64 rfl ?_
    refine r_iload_n (pc := 65) ok dX2_write_65 rfl ?_
    refine k_I (pc := 66) (fun r5 => r5) (fun r5 => mx (va_up XX 223 r3) YY) (fun r5 hr_ => c_V (n := 1) ok cls8 sh_12 rfl ml_La_62 wv_X8_isKnocking yk_X8_isKnocking rfl (Nat.le_of_ble_eq_true rfl) (Nat.le_of_ble_eq_true rfl) (tSc_isKnocking (sc_c (o := 12) (by decide)) ((va_up_ne _ _ (by decide)).trans (hr_q)) ((va_up_ne _ _ (by decide)).trans (hr_sc)) hr_) rfl (Nat.le_of_ble_eq_true rfl) dX2_write_66) (fun r5 => ?_)
    refine r_if_eq (pc := 69) ok 77 dX2_write_69 rfl (fun _ => ?_) (fun _ => ?_)
    · refine r_lds (pc := 77) ok (i := 6) dX2_write_77 rfl ?_
      refine k_V (pc := 79)  (fun r6 => mx (va_up XX 223 r6) YY) (fun r6 hr_ => c_V (n := 1) ok cls2 sh_223 rfl ml_La_45 wv_X2_addText yk_X2_addText rfl (Nat.le_of_ble_eq_true rfl) (Nat.le_of_ble_eq_true rfl) (tLa_addText (by decide) hr_) rfl (Nat.le_of_ble_eq_true rfl) dX2_write_79) (fun r6 => ?_)
      refine r_aload_n (pc := 82) ok dX2_write_82 rfl ?_
      refine r_aload_n (pc := 83) ok dX2_write_83 rfl ?_
      refine r_aload_n (pc := 84) ok dX2_write_84 rfl ?_
      refine r_iload_n (pc := 85) ok dX2_write_85 rfl ?_
      refine r_iconst (pc := 86) ok (3 : Int32) dX2_write_86 ci_3 ?_
      refine k_I (pc := 87) (fun r7 => r7) (fun r7 => mx (va_up XX 223 r6) YY) (fun r7 hr_ => c_V (n := 2) ok cls8 sh_12 rfl ml_La_49 wv_X8_detail yk_X8_detail rfl (Nat.le_of_ble_eq_true rfl) (Nat.le_of_ble_eq_true rfl) (tSc_detail (sc_c (o := 12) (by decide)) ((va_up_ne _ _ (by decide)).trans (hr_q)) ((va_up_ne _ _ (by decide)).trans (hr_sc)) hr_) rfl (Nat.le_of_ble_eq_true rfl) dX2_write_87) (fun r7 => ?_)
      refine k_J (pc := 90) (fun r8 => r8) (fun r8 => mx (va_up XX 223 r6) YY) (fun r8 hr_ => c_V (n := 1) ok cls5 sh_5 rfl ml_La_69 wv_X5_nameOfHouse yk_X5_nameOfHouse rfl (Nat.le_of_ble_eq_true rfl) (Nat.le_of_ble_eq_true rfl) (tQu_nameOfHouse (qu_c (o := 5) (by decide)) ((va_up_ne _ _ (by decide)).trans (hr_q)) hr_) rfl (Nat.le_of_ble_eq_true rfl) dX2_write_90) (fun r8 => ?_)
      refine k_V (pc := 93)  (fun r9 => mx (va_up XX 223 r9) YY) (fun r9 hr_ => c_V (n := 1) ok cls2 sh_223 rfl ml_La_35 wv_X2_addWord yk_X2_addWord rfl (Nat.le_of_ble_eq_true rfl) (Nat.le_of_ble_eq_true rfl) (tLa_addWord hr_) rfl (Nat.le_of_ble_eq_true rfl) dX2_write_93) (fun r9 => ?_)
      exact r_vret (pc := 96) ok dX2_write_96 rfl
    · refine r_lds (pc := 72) ok (i := 5) dX2_write_72 rfl ?_
      refine r_goto (pc := 74) ok 79 dX2_write_74 rfl ?_
      refine k_V (pc := 79)  (fun r10 => mx (va_up XX 223 r10) YY) (fun r10 hr_ => c_V (n := 1) ok cls2 sh_223 rfl ml_La_45 wv_X2_addText yk_X2_addText rfl (Nat.le_of_ble_eq_true rfl) (Nat.le_of_ble_eq_true rfl) (tLa_addText (by decide) hr_) rfl (Nat.le_of_ble_eq_true rfl) dX2_write_79) (fun r10 => ?_)
      refine r_aload_n (pc := 82) ok dX2_write_82 rfl ?_
      refine r_aload_n (pc := 83) ok dX2_write_83 rfl ?_
      refine r_aload_n (pc := 84) ok dX2_write_84 rfl ?_
      refine r_iload_n (pc := 85) ok dX2_write_85 rfl ?_
      refine r_iconst (pc := 86) ok (3 : Int32) dX2_write_86 ci_3 ?_
      refine k_I (pc := 87) (fun r11 => r11) (fun r11 => mx (va_up XX 223 r10) YY) (fun r11 hr_ => c_V (n := 2) ok cls8 sh_12 rfl ml_La_49 wv_X8_detail yk_X8_detail rfl (Nat.le_of_ble_eq_true rfl) (Nat.le_of_ble_eq_true rfl) (tSc_detail (sc_c (o := 12) (by decide)) ((va_up_ne _ _ (by decide)).trans (hr_q)) ((va_up_ne _ _ (by decide)).trans (hr_sc)) hr_) rfl (Nat.le_of_ble_eq_true rfl) dX2_write_87) (fun r11 => ?_)
      refine k_J (pc := 90) (fun r12 => r12) (fun r12 => mx (va_up XX 223 r10) YY) (fun r12 hr_ => c_V (n := 1) ok cls5 sh_5 rfl ml_La_69 wv_X5_nameOfHouse yk_X5_nameOfHouse rfl (Nat.le_of_ble_eq_true rfl) (Nat.le_of_ble_eq_true rfl) (tQu_nameOfHouse (qu_c (o := 5) (by decide)) ((va_up_ne _ _ (by decide)).trans (hr_q)) hr_) rfl (Nat.le_of_ble_eq_true rfl) dX2_write_90) (fun r12 => ?_)
      refine k_V (pc := 93)  (fun r13 => mx (va_up XX 223 r13) YY) (fun r13 hr_ => c_V (n := 1) ok cls2 sh_223 rfl ml_La_35 wv_X2_addWord yk_X2_addWord rfl (Nat.le_of_ble_eq_true rfl) (Nat.le_of_ble_eq_true rfl) (tLa_addWord hr_) rfl (Nat.le_of_ble_eq_true rfl) dX2_write_93) (fun r13 => ?_)
      exact r_vret (pc := 96) ok dX2_write_96 rfl
  · refine r_aload_n (pc := 27) ok dX2_write_27 rfl ?_
    refine r_lds (pc := 28) ok (i := 3) dX2_write_28 rfl ?_
    refine k_V (pc := 30)  (fun r14 => mx (va_up XX 223 r14) YY) (fun r14 hr_ => c_V (n := 1) ok cls2 sh_223 rfl ml_La_45 wv_X2_addText yk_X2_addText rfl (Nat.le_of_ble_eq_true rfl) (Nat.le_of_ble_eq_true rfl) (tLa_addText (by decide) hr_) rfl (Nat.le_of_ble_eq_true rfl) dX2_write_30) (fun r14 => ?_)
    refine r_aload_n (pc := 33) ok dX2_write_33 rfl ?_
    refine r_aload_n (pc := 34) ok dX2_write_34 rfl ?_
    refine r_iload_n (pc := 35) ok dX2_write_35 rfl ?_
    refine r_iconst (pc := 36) ok (1 : Int32) dX2_write_36 ci_1 ?_
    refine k_I (pc := 37) (fun r15 => r15) (fun r15 => mx (va_up XX 223 r14) YY) (fun r15 hr_ => c_V (n := 2) ok cls8 sh_12 rfl ml_La_49 wv_X8_detail yk_X8_detail rfl (Nat.le_of_ble_eq_true rfl) (Nat.le_of_ble_eq_true rfl) (tSc_detail (sc_c (o := 12) (by decide)) ((va_up_ne _ _ (by decide)).trans (hr_q)) ((va_up_ne _ _ (by decide)).trans (hr_sc)) hr_) rfl (Nat.le_of_ble_eq_true rfl) dX2_write_37) (fun r15 => ?_)
    refine k_V (pc := 40)  (fun r16 => mx (va_up XX 223 r16) YY) (fun r16 hr_ => c_V (n := 1) ok cls2 sh_223 rfl ml_La_53 wv_X2_addDigits yk_X2_addDigits rfl (Nat.le_of_ble_eq_true rfl) (Nat.le_of_ble_eq_true rfl) (tLa_addDigits hr_) rfl (Nat.le_of_ble_eq_true rfl) dX2_write_40) (fun r16 => ?_)
    refine r_aload_n (pc := 43) ok dX2_write_43 rfl ?_
    refine r_lds (pc := 44) ok (i := 4) dX2_write_44 rfl ?_
    refine k_V (pc := 46)  (fun r17 => mx (va_up XX 223 r17) YY) (fun r17 hr_ => c_V (n := 1) ok cls2 sh_223 rfl ml_La_45 wv_X2_addText yk_X2_addText rfl (Nat.le_of_ble_eq_true rfl) (Nat.le_of_ble_eq_true rfl) (tLa_addText (by decide) hr_) rfl (Nat.le_of_ble_eq_true rfl) dX2_write_46) (fun r17 => ?_)
    refine r_aload_n (pc := 49) ok dX2_write_49 rfl ?_
    refine r_bipush (pc := 50) ok (8 : Int32) dX2_write_50 cb_8 ?_
    refine r_aload_n (pc := 52) ok dX2_write_52 rfl ?_
    refine r_iload_n (pc := 53) ok dX2_write_53 rfl ?_
    refine r_iconst (pc := 54) ok (2 : Int32) dX2_write_54 ci_2 ?_
    refine k_I (pc := 55) (fun r18 => r18) (fun r18 => mx (va_up XX 223 r17) YY) (fun r18 hr_ => c_V (n := 2) ok cls8 sh_12 rfl ml_La_49 wv_X8_detail yk_X8_detail rfl (Nat.le_of_ble_eq_true rfl) (Nat.le_of_ble_eq_true rfl) (tSc_detail (sc_c (o := 12) (by decide)) ((va_up_ne _ _ (by decide)).trans (hr_q)) ((va_up_ne _ _ (by decide)).trans (hr_sc)) hr_) rfl (Nat.le_of_ble_eq_true rfl) dX2_write_55) (fun r18 => ?_)
    refine r_iadd (pc := 58) ok dX2_write_58 ?_
    refine k_V (pc := 59)  (fun r19 => mx (va_up XX 223 r19) YY) (fun r19 hr_ => c_V (n := 1) ok cls2 sh_223 rfl ml_La_59 wv_X2_addWay yk_X2_addWay rfl (Nat.le_of_ble_eq_true rfl) (Nat.le_of_ble_eq_true rfl) (tLa_addWay (hr_ta) hr_) rfl (Nat.le_of_ble_eq_true rfl) dX2_write_59) (fun r19 => ?_)
    exact r_vret (pc := 62) ok dX2_write_62 rfl
theorem tLa_write {l : Launch} {G : Gx} {b : Nat} {XX YY : Nat → Obj} {q : Obj} {ta : Obj} {sc : Obj} {la : Obj} {v2 : Int32} (hr_q : XX 5 = q) (hr_ta : XX 1 = ta) (hr_sc : XX 12 = sc) {r : Obj} (hr : fLa_write q ta sc la v2 = some r) : MetG l G b yX2_write cX2_write 4 none 7 [.ref (b + 223), .ref (b + 12), .int v2] (mx (va_up XX 223 la) YY) (qV G b (mx (va_up XX 223 r) YY)) := by
  refine met_start [some (.ref (b + 223)), some (.ref (b + 12)), some (.int v2), none] (by decide +kernel) (Nat.le_of_ble_eq_true rfl) rfl (fun Z hl ok => ?_)
  clear hl
  exact vLa_write ok hr_q hr_ta hr_sc r (by rw [hr]; rfl)
theorem vKL_tag {Z : Cx} {G : Gx} {b : Nat} {YY : Nat → Obj} {X : Nat → Obj} {v1 : Int32} (ok : OK Z G b cX11_tag 2 8 RX11 (some .int)) : VO Z G b 2 (fun (r : Int32 × (Nat → Obj)) => QX Z b (qI G b r.1 (mx r.2 YY))) (mx X YY) 0 [some (.ref (b + 0)), some (.int v1)] [] ((fKL_tag X v1).bind some) := by
  unfold fKL_tag
  refine r_aload_n (pc := 0) ok dX11_tag_0 rfl ?_
  refine r_getR (pc := 1) ok cls11 sh_0 (k := 1) rfl (Nat.le_of_ble_eq_true rfl) rfl dX11_tag_1 fl_KL_19 ?_
  refine r_getR (pc := 4) ok cls9 sh_4 (k := 0) rfl (Nat.le_of_ble_eq_true rfl) rfl dX11_tag_4 fl_KL_34 ?_
  refine r_iload_n (pc := 7) ok dX11_tag_7 rfl ?_
  refine k_I (pc := 8) (fun r1 => r1) (fun r1 => mx X YY) (fun r1 hr_ => c_V (n := 1) ok cls5 sh_5 rfl ml_KL_163 wv_X5_hasPerson yk_X5_hasPerson rfl (Nat.le_of_ble_eq_true rfl) (Nat.le_of_ble_eq_true rfl) (tQu_hasPerson (qu_c (o := 5) (by decide)) (rfl) hr_) rfl (Nat.le_of_ble_eq_true rfl) dX11_tag_8) (fun r1 => ?_)
  refine r_if_ne (pc := 11) ok 16 dX11_tag_11 rfl (fun _ => ?_) (fun _ => ?_)
  · refine r_iconst (pc := 14) ok (-1 : Int32) dX11_tag_14 ci_m1 ?_
    exact r_iret (pc := 15) ok dX11_tag_15 rfl
  · refine r_aload_n (pc := 16) ok dX11_tag_16 rfl ?_
    refine r_getR (pc := 17) ok cls11 sh_0 (k := 11) rfl (Nat.le_of_ble_eq_true rfl) rfl dX11_tag_17 fl_KL_93 ?_
    refine r_aload_n (pc := 20) ok dX11_tag_20 rfl ?_
    refine r_getR (pc := 21) ok cls11 sh_0 (k := 1) rfl (Nat.le_of_ble_eq_true rfl) rfl dX11_tag_21 fl_KL_19 ?_
    refine r_getR (pc := 24) ok cls9 sh_4 (k := 1) rfl (Nat.le_of_ble_eq_true rfl) rfl dX11_tag_24 fl_KL_140 ?_
    refine r_iload_n (pc := 27) ok dX11_tag_27 rfl ?_
    refine k_V (pc := 28)  (fun r2 => mx ((va_up X 223 r2)) YY) (fun r2 hr_ => c_V (n := 2) ok cls2 sh_223 rfl ml_KL_280 wv_X2_write yk_X2_write rfl (Nat.le_of_ble_eq_true rfl) (Nat.le_of_ble_eq_true rfl) (met_cast (by rw [up_eta]) rfl (tLa_write (rfl) (rfl) (rfl) hr_)) rfl (Nat.le_of_ble_eq_true rfl) dX11_tag_28) (fun r2 => ?_)
    refine r_bndX (wf := (fun x_ => mx x_ YY)) (fun X3 => ?_)
    refine r_aload_n (pc := 31) ok dX11_tag_31 rfl ?_
    refine r_getR (pc := 32) ok cls11 sh_0 (k := 11) rfl (Nat.le_of_ble_eq_true rfl) rfl dX11_tag_32 fl_KL_93 ?_
    refine r_getI (pc := 35) ok cls2 sh_223 (k := 0) rfl (Nat.le_of_ble_eq_true rfl) (mx_l (Nat.le_of_ble_eq_true rfl) rfl) dX11_tag_35 fl_KL_284 ?_
    exact r_iret (pc := 38) ok dX11_tag_38 rfl
theorem tKL_tag {l : Launch} {G : Gx} {b : Nat} {YY : Nat → Obj} {X : Nat → Obj} {v1 : Int32} {r : Int32 × (Nat → Obj)} (hr : fKL_tag X v1 = some r) : MetG l G b yX11_tag cX11_tag 2 (some .int) 8 [.ref (b + 0), .int v1] (mx X YY) (qI G b r.1 (mx r.2 YY)) := by
  refine met_start [some (.ref (b + 0)), some (.int v1)] (by decide +kernel) (Nat.le_of_ble_eq_true rfl) rfl (fun Z hl ok => ?_)
  clear hl
  exact vKL_tag ok r (by rw [hr]; rfl)
theorem vLa_signAt {Z : Cx} {G : Gx} {b : Nat} {XX YY : Nat → Obj} {la : Obj} {v1 : Int32} (ok : OK Z G b cX2_signAt 2 0 RX2 (some .int)) (hr_la : XX 223 = la) : VO Z G b 2 (fun (r : Int32) => QX Z b (qI G b r (mx XX YY))) (mx XX YY) 0 [some (.ref (b + 223)), some (.int v1)] [] ((fLa_signAt la v1).bind some) := by
  unfold fLa_signAt
  refine r_iload_n (pc := 0) ok dX2_signAt_0 rfl ?_
  refine r_if_lt (pc := 1) ok 31 dX2_signAt_1 rfl (fun _ => ?_) (fun _ => ?_)
  · refine r_iconst (pc := 31) ok (-1 : Int32) dX2_signAt_31 ci_m1 ?_
    exact r_iret (pc := 32) ok dX2_signAt_32 rfl
  · refine r_iload_n (pc := 4) ok dX2_signAt_4 rfl ?_
    refine r_aload_n (pc := 5) ok dX2_signAt_5 rfl ?_
    refine r_getI (pc := 6) ok cls2 sh_223 (k := 0) rfl (Nat.le_of_ble_eq_true rfl) (mx_l (Nat.le_of_ble_eq_true rfl) (hr_la)) dX2_signAt_6 fl_La_25 ?_
    refine r_icmp_ge (pc := 9) ok 31 dX2_signAt_9 rfl (fun _ => ?_) (fun _ => ?_)
    · refine r_iconst (pc := 31) ok (-1 : Int32) dX2_signAt_31 ci_m1 ?_
      exact r_iret (pc := 32) ok dX2_signAt_32 rfl
    · refine r_iload_n (pc := 12) ok dX2_signAt_12 rfl ?_
      refine r_bipush (pc := 13) ok (32 : Int32) dX2_signAt_13 cb_32 ?_
      refine r_icmp_ge (pc := 15) ok 31 dX2_signAt_15 rfl (fun _ => ?_) (fun _ => ?_)
      · refine r_iconst (pc := 31) ok (-1 : Int32) dX2_signAt_31 ci_m1 ?_
        exact r_iret (pc := 32) ok dX2_signAt_32 rfl
      · refine r_aload_n (pc := 18) ok dX2_signAt_18 rfl ?_
        refine r_getR (pc := 19) ok cls2 sh_223 (k := 1) rfl (Nat.le_of_ble_eq_true rfl) rfl dX2_signAt_19 fl_La_11 ?_
        refine r_iload_n (pc := 22) ok dX2_signAt_22 rfl ?_
        refine r_bald (pc := 23) ok sh_224 (j := 1) rfl (mx_l (Nat.le_of_ble_eq_true rfl) (hr_la)) dX2_signAt_23 (fun i1 => ?_)
        refine r_sipush (pc := 24) ok (255 : Int32) dX2_signAt_24 cs_255 ?_
        refine r_iand (pc := 27) ok dX2_signAt_27 ?_
        refine r_goto (pc := 28) ok 32 dX2_signAt_28 rfl ?_
        exact r_iret (pc := 32) ok dX2_signAt_32 rfl
theorem tLa_signAt {l : Launch} {G : Gx} {b : Nat} {XX YY : Nat → Obj} {la : Obj} {v1 : Int32} (hr_la : XX 223 = la) {r : Int32} (hr : fLa_signAt la v1 = some r) : MetG l G b yX2_signAt cX2_signAt 2 (some .int) 0 [.ref (b + 223), .int v1] (mx XX YY) (qI G b r (mx XX YY)) := by
  refine met_start [some (.ref (b + 223)), some (.int v1)] (by decide +kernel) (Nat.le_of_ble_eq_true rfl) rfl (fun Z hl ok => ?_)
  clear hl
  exact vLa_signAt ok hr_la r (by rw [hr]; rfl)
theorem vKL_byteAt {Z : Cx} {G : Gx} {b : Nat} {YY : Nat → Obj} {X : Nat → Obj} {v1 : Int32} (ok : OK Z G b cX11_byteAt 2 1 RX11 (some .int)) : VO Z G b 2 (fun (r : Int32) => QX Z b (qI G b r (mx X YY))) (mx X YY) 0 [some (.ref (b + 0)), some (.int v1)] [] ((fKL_byteAt X v1).bind some) := by
  unfold fKL_byteAt
  refine r_aload_n (pc := 0) ok dX11_byteAt_0 rfl ?_
  refine r_getR (pc := 1) ok cls11 sh_0 (k := 11) rfl (Nat.le_of_ble_eq_true rfl) rfl dX11_byteAt_1 fl_KL_93 ?_
  refine r_iload_n (pc := 4) ok dX11_byteAt_4 rfl ?_
  refine k_I (pc := 5) (fun r1 => r1) (fun r1 => mx X YY) (fun r1 hr_ => c_V (n := 1) ok cls2 sh_223 rfl ml_KL_285 wv_X2_signAt yk_X2_signAt rfl (Nat.le_of_ble_eq_true rfl) (Nat.le_of_ble_eq_true rfl) (tLa_signAt (rfl) hr_) rfl (Nat.le_of_ble_eq_true rfl) dX11_byteAt_5) (fun r1 => ?_)
  exact r_iret (pc := 8) ok dX11_byteAt_8 rfl
theorem tKL_byteAt {l : Launch} {G : Gx} {b : Nat} {YY : Nat → Obj} {X : Nat → Obj} {v1 : Int32} {r : Int32} (hr : fKL_byteAt X v1 = some r) : MetG l G b yX11_byteAt cX11_byteAt 2 (some .int) 1 [.ref (b + 0), .int v1] (mx X YY) (qI G b r (mx X YY)) := by
  refine met_start [some (.ref (b + 0)), some (.int v1)] (by decide +kernel) (Nat.le_of_ble_eq_true rfl) rfl (fun Z hl ok => ?_)
  clear hl
  exact vKL_byteAt ok r (by rw [hr]; rfl)
theorem vSc_draw {Z : Cx} {G : Gx} {b : Nat} {io : Nat} {XX YY : Nat → Obj} {sc : Obj} {v1 : Int32} (ok : OK Z G b cX8_draw 2 0 RX8 (some .int)) (ho : isSc io) : VO Z G b 2 (fun (r : Int32 × Obj) => QX Z b (qI G b r.1 (mx (va_up XX io r.2) YY))) (mx (va_up XX io sc) YY) 0 [some (.ref (b + io)), some (.int v1)] [] ((fSc_draw sc v1).bind some) := by
  unfold fSc_draw
  refine r_aload_n (pc := 0) ok dX8_draw_0 rfl ?_
  refine r_aload_n (pc := 1) ok dX8_draw_1 rfl ?_
  refine r_getI (pc := 2) ok cls8 (sc_sh ho) (k := 14) rfl (Nat.le_of_ble_eq_true rfl) (mx_l (sc_lt ho) (va_up_self _ _ _)) dX8_draw_2 fl_Sc_122 ?_
  refine r_ldc (pc := 5) ok (1103515245 : Int32) dX8_draw_5 cst_Sc_144 ?_
  refine r_imul (pc := 7) ok dX8_draw_7 ?_
  refine r_sipush (pc := 8) ok (12345 : Int32) dX8_draw_8 cs_12345 ?_
  refine r_iadd (pc := 11) ok dX8_draw_11 ?_
  refine r_putI (pc := 12) ok cls8 (sc_sh ho) (k := 14) rfl (Nat.le_of_ble_eq_true rfl) (fun s_ => mx (va_up XX io s_) YY) (pm_l (sc_lt ho) (pm_0 _ _)).1 (pm_l (sc_lt ho) (pm_0 _ _)).2 rfl rfl rfl dX8_draw_12 fl_Sc_122 (fun s1 => ?_)
  refine r_iload_n (pc := 15) ok dX8_draw_15 rfl ?_
  refine r_if_le (pc := 16) ok 31 dX8_draw_16 rfl (fun _ => ?_) (fun _ => ?_)
  · refine r_iconst (pc := 31) ok (0 : Int32) dX8_draw_31 ci_0 ?_
    exact r_iret (pc := 32) ok dX8_draw_32 rfl
  · refine r_aload_n (pc := 19) ok dX8_draw_19 rfl ?_
    refine r_getI (pc := 20) ok cls8 (sc_sh ho) (k := 14) rfl (Nat.le_of_ble_eq_true rfl) (mx_l (sc_lt ho) (va_up_self _ _ _)) dX8_draw_20 fl_Sc_122 ?_
    refine r_bipush (pc := 23) ok (8 : Int32) dX8_draw_23 cb_8 ?_
    refine r_iushr (pc := 25) ok dX8_draw_25 ?_
    refine r_iload_n (pc := 26) ok dX8_draw_26 rfl ?_
    refine r_irem (o := none) (pc := 27) ok dX8_draw_27 ?_
    refine r_goto (pc := 28) ok 32 dX8_draw_28 rfl ?_
    exact r_iret (pc := 32) ok dX8_draw_32 rfl
theorem tSc_draw {l : Launch} {G : Gx} {b : Nat} {io : Nat} {XX YY : Nat → Obj} {sc : Obj} {v1 : Int32} (ho : isSc io) {r : Int32 × Obj} (hr : fSc_draw sc v1 = some r) : MetG l G b yX8_draw cX8_draw 2 (some .int) 0 [.ref (b + io), .int v1] (mx (va_up XX io sc) YY) (qI G b r.1 (mx (va_up XX io r.2) YY)) := by
  refine met_start [some (.ref (b + io)), some (.int v1)] (by decide +kernel) (Nat.le_of_ble_eq_true rfl) rfl (fun Z hl ok => ?_)
  clear hl
  exact vSc_draw ok ho r (by rw [hr]; rfl)
theorem vSc_actByDraw {Z : Cx} {G : Gx} {b : Nat} {io : Nat} {XX YY : Nat → Obj} {q : Obj} {sc : Obj} {v1 : Int32} (ok : OK Z G b cX8_actByDraw 2 3 RX8 none) (ho : isSc io) (hr_q : XX (qid io) = q) : VO Z G b 2 (fun (r : Obj) => QX Z b (qV G b (mx (va_up XX io r) YY))) (mx (va_up XX io sc) YY) 0 [some (.ref (b + io)), some (.int v1)] [] ((fSc_actByDraw q sc v1).bind some) := by
  unfold fSc_actByDraw
  refine r_aload_n (pc := 0) ok dX8_actByDraw_0 rfl ?_
  refine r_bipush (pc := 1) ok (8 : Int32) dX8_actByDraw_1 cb_8 ?_
  refine k_I (pc := 3) (fun r1 => r1.1) (fun r1 => mx (va_up XX io r1.2) YY) (fun r1 hr_ => c_V (n := 1) ok cls8 (sc_sh ho) rfl ml_Sc_128 wv_X8_draw yk_X8_draw rfl (Nat.le_of_ble_eq_true rfl) (Nat.le_of_ble_eq_true rfl) (tSc_draw ho hr_) rfl (Nat.le_of_ble_eq_true rfl) dX8_actByDraw_3) (fun r1 => ?_)
  refine r_ite (fun hs0 => ?_) (fun hs0 => ?_)
  · refine r_tsw (pc := 6) ok 36 (0 : Int32) dX8_actByDraw_6 hs0 (by decide +kernel) (by decide +kernel) rfl rfl ?_
    refine r_aload_n (pc := 36) ok dX8_actByDraw_36 rfl ?_
    refine r_getR (pc := 37) ok cls8 (sc_sh ho) (k := 0) rfl (Nat.le_of_ble_eq_true rfl) rfl dX8_actByDraw_37 fl_Sc_42 ?_
    refine r_getI (pc := 40) ok cls5 (qu_sh (qid_qu ho)) (k := 3) rfl (Nat.le_of_ble_eq_true rfl) (mx_l (qu_lt (qid_qu ho)) ((va_up_ne _ _ (qid_ne ho)).trans (hr_q))) dX8_actByDraw_40 fl_Sc_95 ?_
    refine r_if_le (pc := 43) ok 119 dX8_actByDraw_43 rfl (fun _ => ?_) (fun _ => ?_)
    · exact r_vret (pc := 119) ok dX8_actByDraw_119 rfl
    · refine r_aload_n (pc := 46) ok dX8_actByDraw_46 rfl ?_
      refine r_iload_n (pc := 47) ok dX8_actByDraw_47 rfl ?_
      refine r_aload_n (pc := 48) ok dX8_actByDraw_48 rfl ?_
      refine r_aload_n (pc := 49) ok dX8_actByDraw_49 rfl ?_
      refine r_getR (pc := 50) ok cls8 (sc_sh ho) (k := 0) rfl (Nat.le_of_ble_eq_true rfl) rfl dX8_actByDraw_50 fl_Sc_42 ?_
      refine r_getI (pc := 53) ok cls5 (qu_sh (qid_qu ho)) (k := 3) rfl (Nat.le_of_ble_eq_true rfl) (mx_l (qu_lt (qid_qu ho)) ((va_up_ne _ _ (qid_ne ho)).trans (hr_q))) dX8_actByDraw_53 fl_Sc_95 ?_
      refine k_I (pc := 56) (fun r2 => r2.1) (fun r2 => mx (va_up XX io r2.2) YY) (fun r2 hr_ => c_V (n := 1) ok cls8 (sc_sh ho) rfl ml_Sc_128 wv_X8_draw yk_X8_draw rfl (Nat.le_of_ble_eq_true rfl) (Nat.le_of_ble_eq_true rfl) (tSc_draw ho hr_) rfl (Nat.le_of_ble_eq_true rfl) dX8_actByDraw_56) (fun r2 => ?_)
      refine k_I (pc := 59) (fun r3 => r3.1) (fun r3 => mx (va_up XX io r3.2) YY) (fun r3 hr_ => c_V (n := 2) ok cls8 (sc_sh ho) rfl ml_Sc_131 wv_X8_tryKnock yk_X8_tryKnock rfl (Nat.le_of_ble_eq_true rfl) (Nat.le_of_ble_eq_true rfl) (tSc_tryKnock ho (hr_q) hr_) rfl (Nat.le_of_ble_eq_true rfl) dX8_actByDraw_59) (fun r3 => ?_)
      refine r_pop (pc := 62) ok dX8_actByDraw_62 rfl ?_
      refine r_goto (pc := 63) ok 119 dX8_actByDraw_63 rfl ?_
      exact r_vret (pc := 119) ok dX8_actByDraw_119 rfl
  refine r_ite (fun hs1 => ?_) (fun hs1 => ?_)
  · refine r_tsw (pc := 6) ok 66 (1 : Int32) dX8_actByDraw_6 hs1 (by decide +kernel) (by decide +kernel) rfl rfl ?_
    refine r_aload_n (pc := 66) ok dX8_actByDraw_66 rfl ?_
    refine r_iload_n (pc := 67) ok dX8_actByDraw_67 rfl ?_
    refine r_aload_n (pc := 68) ok dX8_actByDraw_68 rfl ?_
    refine r_iconst (pc := 69) ok (3 : Int32) dX8_actByDraw_69 ci_3 ?_
    refine k_I (pc := 70) (fun r4 => r4.1) (fun r4 => mx (va_up XX io r4.2) YY) (fun r4 hr_ => c_V (n := 1) ok cls8 (sc_sh ho) rfl ml_Sc_128 wv_X8_draw yk_X8_draw rfl (Nat.le_of_ble_eq_true rfl) (Nat.le_of_ble_eq_true rfl) (tSc_draw ho hr_) rfl (Nat.le_of_ble_eq_true rfl) dX8_actByDraw_70) (fun r4 => ?_)
    refine k_I (pc := 73) (fun r5 => r5.1) (fun r5 => mx (va_up XX io r5.2) YY) (fun r5 hr_ => c_V (n := 2) ok cls8 (sc_sh ho) rfl ml_Sc_135 wv_X8_tryGo yk_X8_tryGo rfl (Nat.le_of_ble_eq_true rfl) (Nat.le_of_ble_eq_true rfl) (tSc_tryGo ho (hr_q) hr_) rfl (Nat.le_of_ble_eq_true rfl) dX8_actByDraw_73) (fun r5 => ?_)
    refine r_pop (pc := 76) ok dX8_actByDraw_76 rfl ?_
    refine r_goto (pc := 77) ok 119 dX8_actByDraw_77 rfl ?_
    exact r_vret (pc := 119) ok dX8_actByDraw_119 rfl
  refine r_ite (fun hs2 => ?_) (fun hs2 => ?_)
  · refine r_tsw (pc := 6) ok 80 (2 : Int32) dX8_actByDraw_6 hs2 (by decide +kernel) (by decide +kernel) rfl rfl ?_
    refine r_aload_n (pc := 80) ok dX8_actByDraw_80 rfl ?_
    refine r_getR (pc := 81) ok cls8 (sc_sh ho) (k := 0) rfl (Nat.le_of_ble_eq_true rfl) rfl dX8_actByDraw_81 fl_Sc_42 ?_
    refine r_getI (pc := 84) ok cls5 (qu_sh (qid_qu ho)) (k := 3) rfl (Nat.le_of_ble_eq_true rfl) (mx_l (qu_lt (qid_qu ho)) ((va_up_ne _ _ (qid_ne ho)).trans (hr_q))) dX8_actByDraw_84 fl_Sc_95 ?_
    refine r_if_le (pc := 87) ok 119 dX8_actByDraw_87 rfl (fun _ => ?_) (fun _ => ?_)
    · exact r_vret (pc := 119) ok dX8_actByDraw_119 rfl
    · refine r_aload_n (pc := 90) ok dX8_actByDraw_90 rfl ?_
      refine r_iload_n (pc := 91) ok dX8_actByDraw_91 rfl ?_
      refine r_aload_n (pc := 92) ok dX8_actByDraw_92 rfl ?_
      refine r_aload_n (pc := 93) ok dX8_actByDraw_93 rfl ?_
      refine r_getR (pc := 94) ok cls8 (sc_sh ho) (k := 0) rfl (Nat.le_of_ble_eq_true rfl) rfl dX8_actByDraw_94 fl_Sc_42 ?_
      refine r_getI (pc := 97) ok cls5 (qu_sh (qid_qu ho)) (k := 3) rfl (Nat.le_of_ble_eq_true rfl) (mx_l (qu_lt (qid_qu ho)) ((va_up_ne _ _ (qid_ne ho)).trans (hr_q))) dX8_actByDraw_97 fl_Sc_95 ?_
      refine k_I (pc := 100) (fun r6 => r6.1) (fun r6 => mx (va_up XX io r6.2) YY) (fun r6 hr_ => c_V (n := 1) ok cls8 (sc_sh ho) rfl ml_Sc_128 wv_X8_draw yk_X8_draw rfl (Nat.le_of_ble_eq_true rfl) (Nat.le_of_ble_eq_true rfl) (tSc_draw ho hr_) rfl (Nat.le_of_ble_eq_true rfl) dX8_actByDraw_100) (fun r6 => ?_)
      refine k_I (pc := 103) (fun r7 => r7.1) (fun r7 => mx (va_up XX io r7.2) YY) (fun r7 hr_ => c_V (n := 2) ok cls8 (sc_sh ho) rfl ml_Sc_138 wv_X8_tryCall yk_X8_tryCall rfl (Nat.le_of_ble_eq_true rfl) (Nat.le_of_ble_eq_true rfl) (tSc_tryCall ho (hr_q) hr_) rfl (Nat.le_of_ble_eq_true rfl) dX8_actByDraw_103) (fun r7 => ?_)
      refine r_pop (pc := 106) ok dX8_actByDraw_106 rfl ?_
      refine r_goto (pc := 107) ok 119 dX8_actByDraw_107 rfl ?_
      exact r_vret (pc := 119) ok dX8_actByDraw_119 rfl
  refine r_ite (fun hs3 => ?_) (fun hs3 => ?_)
  · refine r_tsw (pc := 6) ok 110 (3 : Int32) dX8_actByDraw_6 hs3 (by decide +kernel) (by decide +kernel) rfl rfl ?_
    refine r_aload_n (pc := 110) ok dX8_actByDraw_110 rfl ?_
    refine r_iload_n (pc := 111) ok dX8_actByDraw_111 rfl ?_
    refine k_I (pc := 112) (fun r8 => r8.1) (fun r8 => mx (va_up XX io r8.2) YY) (fun r8 hr_ => c_V (n := 1) ok cls8 (sc_sh ho) rfl ml_Sc_141 wv_X8_tryQuit yk_X8_tryQuit rfl (Nat.le_of_ble_eq_true rfl) (Nat.le_of_ble_eq_true rfl) (tSc_tryQuit ho (hr_q) hr_) rfl (Nat.le_of_ble_eq_true rfl) dX8_actByDraw_112) (fun r8 => ?_)
    refine r_pop (pc := 115) ok dX8_actByDraw_115 rfl ?_
    refine r_goto (pc := 116) ok 119 dX8_actByDraw_116 rfl ?_
    exact r_vret (pc := 119) ok dX8_actByDraw_119 rfl
  refine r_tswd (pc := 6) ok 119 dX8_actByDraw_6 (tsw_out4 hs0 hs1 hs2 hs3) rfl ?_
  exact r_vret (pc := 119) ok dX8_actByDraw_119 rfl
theorem tSc_actByDraw {l : Launch} {G : Gx} {b : Nat} {io : Nat} {XX YY : Nat → Obj} {q : Obj} {sc : Obj} {v1 : Int32} (ho : isSc io) (hr_q : XX (qid io) = q) {r : Obj} (hr : fSc_actByDraw q sc v1 = some r) : MetG l G b yX8_actByDraw cX8_actByDraw 2 none 3 [.ref (b + io), .int v1] (mx (va_up XX io sc) YY) (qV G b (mx (va_up XX io r) YY)) := by
  refine met_start [some (.ref (b + io)), some (.int v1)] (by decide +kernel) (Nat.le_of_ble_eq_true rfl) rfl (fun Z hl ok => ?_)
  clear hl
  exact vSc_actByDraw ok ho hr_q r (by rw [hr]; rfl)
theorem wSc_letDrawnTicksGo_L25 {Z : Cx} {G : Gx} {b : Nat} {io : Nat} {XX YY : Nat → Obj} {q : Obj} {v1 : Int32} {v3 : Int32} (ok : OK Z G b cX8_letDrawnTicksGo 5 5 RX8 (some .int)) (ho : isSc io) (hr_q : XX (qid io) = q) {K : ((Int32 × Obj) ⊕ (Obj)) → Option (Int32 × Obj)} (hc : ∀ (a : Int32 × Obj), VO Z G b 5 (fun (r : Int32 × Obj) => QX Z b (qI G b r.1 (mx (va_up XX io r.2) YY))) (mx (va_up XX io a.2) YY) 25 [some (.ref (b + io)), some (.int v1), none, some (.int v3), some (.int a.1)] [] (K (.inl a))) (hx : ∀ (e : Obj), VO Z G b 5 (fun (r : Int32 × Obj) => QX Z b (qI G b r.1 (mx (va_up XX io r.2) YY))) (mx (va_up XX io e) YY) 49 [some (.ref (b + io)), some (.int v1), none, some (.int v3), none] [] (K (.inr e))) : ∀ (a : Int32 × Obj), VO Z G b 5 (fun (r : Int32 × Obj) => QX Z b (qI G b r.1 (mx (va_up XX io r.2) YY))) (mx (va_up XX io a.2) YY) 25 [some (.ref (b + io)), some (.int v1), none, some (.int v3), some (.int a.1)] [] ((fSc_letDrawnTicksGo_L25 q a).bind K) := by
  intro a
  unfold fSc_letDrawnTicksGo_L25
  refine r_iload (pc := 25) ok dX8_letDrawnTicksGo_25 rfl ?_
  refine r_aload_n (pc := 27) ok dX8_letDrawnTicksGo_27 rfl ?_
  refine r_getR (pc := 28) ok cls8 (sc_sh ho) (k := 0) rfl (Nat.le_of_ble_eq_true rfl) rfl dX8_letDrawnTicksGo_28 fl_Sc_42 ?_
  refine r_getI (pc := 31) ok cls5 (qu_sh (qid_qu ho)) (k := 4) rfl (Nat.le_of_ble_eq_true rfl) (mx_l (qu_lt (qid_qu ho)) ((va_up_ne _ _ (qid_ne ho)).trans (hr_q))) dX8_letDrawnTicksGo_31 fl_Sc_92 ?_
  refine r_icmp_ge (pc := 34) ok 49 dX8_letDrawnTicksGo_34 rfl (fun _ => ?_) (fun _ => ?_)
  · refine r_lv (lk_s (lk_s (lk_n (lk_s (lk_n lk_0 _) _) _) _) _) ?_
    exact hx a.2
  · refine r_aload_n (pc := 37) ok dX8_letDrawnTicksGo_37 rfl ?_
    refine r_iload (pc := 38) ok dX8_letDrawnTicksGo_38 rfl ?_
    refine k_V (pc := 40)  (fun r2 => mx (va_up XX io r2) YY) (fun r2 hr_ => c_V (n := 1) ok cls8 (sc_sh ho) rfl ml_Sc_125 wv_X8_actByDraw yk_X8_actByDraw rfl (Nat.le_of_ble_eq_true rfl) (Nat.le_of_ble_eq_true rfl) (tSc_actByDraw ho (hr_q) hr_) rfl (Nat.le_of_ble_eq_true rfl) dX8_letDrawnTicksGo_40) (fun r2 => ?_)
    refine r_iinc (pc := 43) ok (1 : Int32) dX8_letDrawnTicksGo_43 ci_1 rfl (Nat.le_of_ble_eq_true rfl) rfl ?_
    refine r_goto (pc := 46) ok 25 dX8_letDrawnTicksGo_46 rfl ?_
    exact hc ((a.1 + (1 : Int32)), r2)
theorem wSc_letDrawnTicksGo_L7 {Z : Cx} {G : Gx} {b : Nat} {io : Nat} {XX YY : Nat → Obj} {q : Obj} {v1 : Int32} (ok : OK Z G b cX8_letDrawnTicksGo 5 5 RX8 (some .int)) (ho : isSc io) (hr_q : XX (qid io) = q) {K : ((Int32 × Obj) ⊕ (Int32 × Obj)) → Option (Int32 × Obj)} (hc : ∀ (a : Int32 × Obj), VO Z G b 5 (fun (r : Int32 × Obj) => QX Z b (qI G b r.1 (mx (va_up XX io r.2) YY))) (mx (va_up XX io a.2) YY) 7 [some (.ref (b + io)), some (.int v1), none, some (.int a.1), none] [] (K (.inl a))) (hx : ∀ (e : Int32 × Obj), VO Z G b 5 (fun (r : Int32 × Obj) => QX Z b (qI G b r.1 (mx (va_up XX io r.2) YY))) (mx (va_up XX io e.2) YY) 59 [none, none, none, some (.int e.1), none] [] (K (.inr e))) : ∀ (a : Int32 × Obj), VO Z G b 5 (fun (r : Int32 × Obj) => QX Z b (qI G b r.1 (mx (va_up XX io r.2) YY))) (mx (va_up XX io a.2) YY) 7 [some (.ref (b + io)), some (.int v1), none, some (.int a.1), none] [] ((fSc_letDrawnTicksGo_L7 q v1 a).bind K) := by
  intro a
  unfold fSc_letDrawnTicksGo_L7
  refine r_iload_n (pc := 7) ok dX8_letDrawnTicksGo_7 rfl ?_
  refine r_iload_n (pc := 8) ok dX8_letDrawnTicksGo_8 rfl ?_
  refine r_icmp_ge (pc := 9) ok 59 dX8_letDrawnTicksGo_9 rfl (fun _ => ?_) (fun _ => ?_)
  · refine r_lv (lk_n (lk_n (lk_n (lk_s (lk_n lk_0 _) _) _) _) _) ?_
    exact hx (a.1, a.2)
  · refine r_aload_n (pc := 12) ok dX8_letDrawnTicksGo_12 rfl ?_
    refine r_getI (pc := 13) ok cls8 (sc_sh ho) (k := 1) rfl (Nat.le_of_ble_eq_true rfl) (mx_l (sc_lt ho) (va_up_self _ _ _)) dX8_letDrawnTicksGo_13 fl_Sc_46 ?_
    refine r_sipush (pc := 16) ok (1000 : Int32) dX8_letDrawnTicksGo_16 cs_1000 ?_
    refine r_icmp_ge (pc := 19) ok 59 dX8_letDrawnTicksGo_19 rfl (fun _ => ?_) (fun _ => ?_)
    · refine r_lv (lk_n (lk_n (lk_n (lk_s (lk_n lk_0 _) _) _) _) _) ?_
      exact hx (a.1, a.2)
    · refine r_iconst (pc := 22) ok (0 : Int32) dX8_letDrawnTicksGo_22 ci_0 ?_
      refine r_istore (pc := 23) ok dX8_letDrawnTicksGo_23 (Nat.le_of_ble_eq_true rfl) rfl ?_
      refine r_iter (P := fun (a25 : Int32 × Obj) o => VO Z G b 5 (fun (r : Int32 × Obj) => QX Z b (qI G b r.1 (mx (va_up XX io r.2) YY))) (mx (va_up XX io a25.2) YY) 25 [some (.ref (b + io)), some (.int v1), none, some (.int a.1), some (.int a25.1)] [] o) (E := fun (e_25 : Obj) o => VO Z G b 5 (fun (r : Int32 × Obj) => QX Z b (qI G b r.1 (mx (va_up XX io r.2) YY))) (mx (va_up XX io e_25) YY) 49 [some (.ref (b + io)), some (.int v1), none, some (.int a.1), none] [] o) (fun _ => r_none) (fun K hc hx => wSc_letDrawnTicksGo_L25 ok ho hr_q (K := K) hc hx) (fun e3 => ?_) FU ((0 : Int32), a.2)
      refine r_aload_n (pc := 49) ok dX8_letDrawnTicksGo_49 rfl ?_
      refine k_V (pc := 50)  (fun r4 => mx (va_up XX io r4) YY) (fun r4 hr_ => c_V (n := 0) ok cls8 (sc_sh ho) rfl ml_Sc_119 wv_X8_letTickGo yk_X8_letTickGo rfl (Nat.le_of_ble_eq_true rfl) (Nat.le_of_ble_eq_true rfl) (tSc_letTickGo ho (hr_q) hr_) rfl (Nat.le_of_ble_eq_true rfl) dX8_letDrawnTicksGo_50) (fun r4 => ?_)
      refine r_iinc (pc := 53) ok (1 : Int32) dX8_letDrawnTicksGo_53 ci_1 rfl (Nat.le_of_ble_eq_true rfl) rfl ?_
      refine r_goto (pc := 56) ok 7 dX8_letDrawnTicksGo_56 rfl ?_
      exact hc ((a.1 + (1 : Int32)), r4)
theorem vSc_letDrawnTicksGo {Z : Cx} {G : Gx} {b : Nat} {io : Nat} {XX YY : Nat → Obj} {q : Obj} {sc : Obj} {v1 : Int32} {v2 : Int32} (ok : OK Z G b cX8_letDrawnTicksGo 5 5 RX8 (some .int)) (ho : isSc io) (hr_q : XX (qid io) = q) : VO Z G b 5 (fun (r : Int32 × Obj) => QX Z b (qI G b r.1 (mx (va_up XX io r.2) YY))) (mx (va_up XX io sc) YY) 0 [some (.ref (b + io)), some (.int v1), some (.int v2), none, none] [] ((fSc_letDrawnTicksGo q sc v1 v2).bind some) := by
  unfold fSc_letDrawnTicksGo
  refine r_aload_n (pc := 0) ok dX8_letDrawnTicksGo_0 rfl ?_
  refine r_iload_n (pc := 1) ok dX8_letDrawnTicksGo_1 rfl ?_
  refine r_putI (pc := 2) ok cls8 (sc_sh ho) (k := 14) rfl (Nat.le_of_ble_eq_true rfl) (fun s_ => mx (va_up XX io s_) YY) (pm_l (sc_lt ho) (pm_0 _ _)).1 (pm_l (sc_lt ho) (pm_0 _ _)).2 rfl rfl rfl dX8_letDrawnTicksGo_2 fl_Sc_122 (fun s1 => ?_)
  refine r_iconst (pc := 5) ok (0 : Int32) dX8_letDrawnTicksGo_5 ci_0 ?_
  refine r_istore_n (pc := 6) ok dX8_letDrawnTicksGo_6 (Nat.le_of_ble_eq_true rfl) rfl ?_
  refine r_lv (lk_s (lk_s (lk_n (lk_s (lk_n lk_0 _) _) _) _) _) ?_
  refine r_iter (P := fun (a7 : Int32 × Obj) o => VO Z G b 5 (fun (r : Int32 × Obj) => QX Z b (qI G b r.1 (mx (va_up XX io r.2) YY))) (mx (va_up XX io a7.2) YY) 7 [some (.ref (b + io)), some (.int v1), none, some (.int a7.1), none] [] o) (E := fun (e_7 : Int32 × Obj) o => VO Z G b 5 (fun (r : Int32 × Obj) => QX Z b (qI G b r.1 (mx (va_up XX io r.2) YY))) (mx (va_up XX io e_7.2) YY) 59 [none, none, none, some (.int e_7.1), none] [] o) (fun _ => r_none) (fun K hc hx => wSc_letDrawnTicksGo_L7 ok ho hr_q (K := K) hc hx) (fun e5 => ?_) FU ((0 : Int32), s1)
  refine r_iload_n (pc := 59) ok dX8_letDrawnTicksGo_59 rfl ?_
  exact r_iret (pc := 60) ok dX8_letDrawnTicksGo_60 rfl
theorem tSc_letDrawnTicksGo {l : Launch} {G : Gx} {b : Nat} {io : Nat} {XX YY : Nat → Obj} {q : Obj} {sc : Obj} {v1 : Int32} {v2 : Int32} (ho : isSc io) (hr_q : XX (qid io) = q) {r : Int32 × Obj} (hr : fSc_letDrawnTicksGo q sc v1 v2 = some r) : MetG l G b yX8_letDrawnTicksGo cX8_letDrawnTicksGo 5 (some .int) 5 [.ref (b + io), .int v1, .int v2] (mx (va_up XX io sc) YY) (qI G b r.1 (mx (va_up XX io r.2) YY)) := by
  refine met_start [some (.ref (b + io)), some (.int v1), some (.int v2), none, none] (by decide +kernel) (Nat.le_of_ble_eq_true rfl) rfl (fun Z hl ok => ?_)
  clear hl
  exact vSc_letDrawnTicksGo ok ho hr_q r (by rw [hr]; rfl)
theorem vKL_drawn {Z : Cx} {G : Gx} {b : Nat} {YY : Nat → Obj} {X : Nat → Obj} {v1 : Int32} {v2 : Int32} (ok : OK Z G b cX11_drawn 3 6 RX11 (some .int)) : VO Z G b 3 (fun (r : Int32 × (Nat → Obj)) => QX Z b (qI G b r.1 (mx r.2 YY))) (mx X YY) 0 [some (.ref (b + 0)), some (.int v1), some (.int v2)] [] ((fKL_drawn X v1 v2).bind some) := by
  unfold fKL_drawn
  refine r_iload_n (pc := 0) ok dX11_drawn_0 rfl ?_
  refine r_iconst (pc := 1) ok (1 : Int32) dX11_drawn_1 ci_1 ?_
  refine r_icmp_lt (pc := 2) ok 11 dX11_drawn_2 rfl (fun _ => ?_) (fun _ => ?_)
  · refine r_iconst (pc := 11) ok (-1 : Int32) dX11_drawn_11 ci_m1 ?_
    exact r_iret (pc := 12) ok dX11_drawn_12 rfl
  · refine r_iload_n (pc := 5) ok dX11_drawn_5 rfl ?_
    refine r_bipush (pc := 6) ok (60 : Int32) dX11_drawn_6 cb_60 ?_
    refine r_icmp_le (pc := 8) ok 13 dX11_drawn_8 rfl (fun _ => ?_) (fun _ => ?_)
    · refine r_aload_n (pc := 13) ok dX11_drawn_13 rfl ?_
      refine r_getR (pc := 14) ok cls11 sh_0 (k := 5) rfl (Nat.le_of_ble_eq_true rfl) rfl dX11_drawn_14 fl_KL_41 ?_
      refine r_aload_n (pc := 17) ok dX11_drawn_17 rfl ?_
      refine r_getR (pc := 18) ok cls11 sh_0 (k := 1) rfl (Nat.le_of_ble_eq_true rfl) rfl dX11_drawn_18 fl_KL_19 ?_
      refine r_getR (pc := 21) ok cls9 sh_4 (k := 1) rfl (Nat.le_of_ble_eq_true rfl) rfl dX11_drawn_21 fl_KL_140 ?_
      refine k_V (pc := 24)  (fun r1 => mx r1 YY) (fun r1 hr_ => c_V (n := 1) ok cls4 sh_100 rfl ml_KL_197 wv_X4_note yk_X4_note rfl (Nat.le_of_ble_eq_true rfl) (Nat.le_of_ble_eq_true rfl) (tPa_note hr_) rfl (Nat.le_of_ble_eq_true rfl) dX11_drawn_24) (fun r1 => ?_)
      refine r_aload_n (pc := 27) ok dX11_drawn_27 rfl ?_
      refine r_getR (pc := 28) ok cls11 sh_0 (k := 5) rfl (Nat.le_of_ble_eq_true rfl) rfl dX11_drawn_28 fl_KL_41 ?_
      refine r_aload_n (pc := 31) ok dX11_drawn_31 rfl ?_
      refine r_getR (pc := 32) ok cls11 sh_0 (k := 1) rfl (Nat.le_of_ble_eq_true rfl) rfl dX11_drawn_32 fl_KL_19 ?_
      refine r_getR (pc := 35) ok cls9 sh_4 (k := 1) rfl (Nat.le_of_ble_eq_true rfl) rfl dX11_drawn_35 fl_KL_140 ?_
      refine r_iload_n (pc := 38) ok dX11_drawn_38 rfl ?_
      refine r_iload_n (pc := 39) ok dX11_drawn_39 rfl ?_
      refine k_I (pc := 40) (fun r2 => r2.1) (fun r2 => mx ((va_up r1 12 r2.2)) YY) (fun r2 hr_ => c_V (n := 2) ok cls8 sh_12 rfl ml_KL_288 wv_X8_letDrawnTicksGo yk_X8_letDrawnTicksGo rfl (Nat.le_of_ble_eq_true rfl) (Nat.le_of_ble_eq_true rfl) (met_cast (by rw [up_eta]) rfl (tSc_letDrawnTicksGo (sc_c (o := 12) (by decide)) (rfl) hr_)) rfl (Nat.le_of_ble_eq_true rfl) dX11_drawn_40) (fun r2 => ?_)
      refine r_bndX (wf := (fun x_ => mx x_ YY)) (fun X3 => ?_)
      refine k_I (pc := 43) (fun r4 => r4.1) (fun r4 => mx r4.2 YY) (fun r4 hr_ => c_V (n := 1) ok cls4 sh_100 rfl ml_KL_222 wv_X4_keepIfAny yk_X4_keepIfAny rfl (Nat.le_of_ble_eq_true rfl) (Nat.le_of_ble_eq_true rfl) (tPa_keepIfAny hr_) rfl (Nat.le_of_ble_eq_true rfl) dX11_drawn_43) (fun r4 => ?_)
      exact r_iret (pc := 46) ok dX11_drawn_46 rfl
    · refine r_iconst (pc := 11) ok (-1 : Int32) dX11_drawn_11 ci_m1 ?_
      exact r_iret (pc := 12) ok dX11_drawn_12 rfl
theorem tKL_drawn {l : Launch} {G : Gx} {b : Nat} {YY : Nat → Obj} {X : Nat → Obj} {v1 : Int32} {v2 : Int32} {r : Int32 × (Nat → Obj)} (hr : fKL_drawn X v1 v2 = some r) : MetG l G b yX11_drawn cX11_drawn 3 (some .int) 6 [.ref (b + 0), .int v1, .int v2] (mx X YY) (qI G b r.1 (mx r.2 YY)) := by
  refine met_start [some (.ref (b + 0)), some (.int v1), some (.int v2)] (by decide +kernel) (Nat.le_of_ble_eq_true rfl) rfl (fun Z hl ok => ?_)
  clear hl
  exact vKL_drawn ok r (by rw [hr]; rfl)
theorem wKL_odds_L33 {Z : Cx} {G : Gx} {b : Nat} {YY : Nat → Obj} {v1 : Int32} {v2 : Int32} {v3 : Int32} (ok : OK Z G b cX11_odds 6 6 RX11 (some .int)) {K : ((Int32 × Int32 × (Nat → Obj)) ⊕ (Int32 × (Nat → Obj))) → Option (Int32 × (Nat → Obj))} (hc : ∀ (a : Int32 × Int32 × (Nat → Obj)), VO Z G b 6 (fun (r : Int32 × (Nat → Obj)) => QX Z b (qI G b r.1 (mx r.2 YY))) (mx a.2.2 YY) 33 [some (.ref (b + 0)), some (.int v1), some (.int v2), some (.int v3), some (.int a.1), some (.int a.2.1)] [] (K (.inl a))) (hx : ∀ (e : Int32 × (Nat → Obj)), VO Z G b 6 (fun (r : Int32 × (Nat → Obj)) => QX Z b (qI G b r.1 (mx r.2 YY))) (mx e.2 YY) 87 [none, none, none, none, some (.int e.1), none] [] (K (.inr e))) : ∀ (a : Int32 × Int32 × (Nat → Obj)), VO Z G b 6 (fun (r : Int32 × (Nat → Obj)) => QX Z b (qI G b r.1 (mx r.2 YY))) (mx a.2.2 YY) 33 [some (.ref (b + 0)), some (.int v1), some (.int v2), some (.int v3), some (.int a.1), some (.int a.2.1)] [] ((fKL_odds_L33 v1 v2 v3 a).bind K) := by
  intro a
  unfold fKL_odds_L33
  refine r_iload (pc := 33) ok dX11_odds_33 rfl ?_
  refine r_iload_n (pc := 35) ok dX11_odds_35 rfl ?_
  refine r_icmp_ge (pc := 36) ok 87 dX11_odds_36 rfl (fun _ => ?_) (fun _ => ?_)
  · refine r_lv (lk_n (lk_n (lk_n (lk_n (lk_s (lk_n lk_0 _) _) _) _) _) _) ?_
    exact hx (a.1, a.2.2)
  · refine r_aload_n (pc := 39) ok dX11_odds_39 rfl ?_
    refine r_getR (pc := 40) ok cls11 sh_0 (k := 6) rfl (Nat.le_of_ble_eq_true rfl) rfl dX11_odds_40 fl_KL_48 ?_
    refine r_aload_n (pc := 43) ok dX11_odds_43 rfl ?_
    refine r_getR (pc := 44) ok cls11 sh_0 (k := 1) rfl (Nat.le_of_ble_eq_true rfl) rfl dX11_odds_44 fl_KL_19 ?_
    refine r_getR (pc := 47) ok cls9 sh_4 (k := 1) rfl (Nat.le_of_ble_eq_true rfl) rfl dX11_odds_47 fl_KL_140 ?_
    refine k_V (pc := 50)  (fun r2 => mx ((va_up a.2.2 201 r2)) YY) (fun r2 hr_ => c_V (n := 1) ok cls8 sh_201 rfl ml_KL_256 wv_X8_copyFrom yk_X8_copyFrom rfl (Nat.le_of_ble_eq_true rfl) (Nat.le_of_ble_eq_true rfl) (met_cast (by rw [up_eta]) rfl (tSc_copyFrom (sc_c (o := 201) (by decide)) (sc_c (o := 12) (by decide)) (by decide) (rfl) hr_)) rfl (Nat.le_of_ble_eq_true rfl) dX11_odds_50) (fun r2 => ?_)
    refine r_bndX (wf := (fun x_ => mx x_ YY)) (fun X3 => ?_)
    refine r_aload_n (pc := 53) ok dX11_odds_53 rfl ?_
    refine r_getR (pc := 54) ok cls11 sh_0 (k := 6) rfl (Nat.le_of_ble_eq_true rfl) rfl dX11_odds_54 fl_KL_48 ?_
    refine r_bipush (pc := 57) ok (20 : Int32) dX11_odds_57 cb_20 ?_
    refine r_iload_n (pc := 59) ok dX11_odds_59 rfl ?_
    refine r_iload (pc := 60) ok dX11_odds_60 rfl ?_
    refine r_iadd (pc := 62) ok dX11_odds_62 ?_
    refine k_I (pc := 63) (fun r4 => r4.1) (fun r4 => mx ((va_up X3 201 r4.2)) YY) (fun r4 hr_ => c_V (n := 2) ok cls8 sh_201 rfl ml_KL_288 wv_X8_letDrawnTicksGo yk_X8_letDrawnTicksGo rfl (Nat.le_of_ble_eq_true rfl) (Nat.le_of_ble_eq_true rfl) (met_cast (by rw [up_eta]) rfl (tSc_letDrawnTicksGo (sc_c (o := 201) (by decide)) (rfl) hr_)) rfl (Nat.le_of_ble_eq_true rfl) dX11_odds_63) (fun r4 => ?_)
    refine r_bndX (wf := (fun x_ => mx x_ YY)) (fun X5 => ?_)
    refine r_pop (pc := 66) ok dX11_odds_66 rfl ?_
    refine r_aload_n (pc := 67) ok dX11_odds_67 rfl ?_
    refine r_getR (pc := 68) ok cls11 sh_0 (k := 6) rfl (Nat.le_of_ble_eq_true rfl) rfl dX11_odds_68 fl_KL_48 ?_
    refine r_iload_n (pc := 71) ok dX11_odds_71 rfl ?_
    refine k_I (pc := 72) (fun r6 => r6) (fun r6 => mx X5 YY) (fun r6 hr_ => c_V (n := 1) ok cls8 sh_201 rfl ml_KL_261 wv_X8_isInside yk_X8_isInside rfl (Nat.le_of_ble_eq_true rfl) (Nat.le_of_ble_eq_true rfl) (tSc_isInside (sc_c (o := 201) (by decide)) (rfl) (rfl) hr_) rfl (Nat.le_of_ble_eq_true rfl) dX11_odds_72) (fun r6 => ?_)
    refine r_if_eq (pc := 75) ok 81 dX11_odds_75 rfl (fun _ => ?_) (fun _ => ?_)
    · refine r_iinc (pc := 81) ok (1 : Int32) dX11_odds_81 ci_1 rfl (Nat.le_of_ble_eq_true rfl) rfl ?_
      refine r_goto (pc := 84) ok 33 dX11_odds_84 rfl ?_
      exact hc (a.1, (a.2.1 + (1 : Int32)), X5)
    · refine r_iinc (pc := 78) ok (1 : Int32) dX11_odds_78 ci_1 rfl (Nat.le_of_ble_eq_true rfl) rfl ?_
      refine r_iinc (pc := 81) ok (1 : Int32) dX11_odds_81 ci_1 rfl (Nat.le_of_ble_eq_true rfl) rfl ?_
      refine r_goto (pc := 84) ok 33 dX11_odds_84 rfl ?_
      exact hc ((a.1 + (1 : Int32)), (a.2.1 + (1 : Int32)), X5)
theorem vKL_odds {Z : Cx} {G : Gx} {b : Nat} {YY : Nat → Obj} {X : Nat → Obj} {v1 : Int32} {v2 : Int32} {v3 : Int32} (ok : OK Z G b cX11_odds 6 6 RX11 (some .int)) : VO Z G b 6 (fun (r : Int32 × (Nat → Obj)) => QX Z b (qI G b r.1 (mx r.2 YY))) (mx X YY) 0 [some (.ref (b + 0)), some (.int v1), some (.int v2), some (.int v3), none, none] [] ((fKL_odds X v1 v2 v3).bind some) := by
  unfold fKL_odds
  refine r_aload_n (pc := 0) ok dX11_odds_0 rfl ?_
  refine r_getR (pc := 1) ok cls11 sh_0 (k := 1) rfl (Nat.le_of_ble_eq_true rfl) rfl dX11_odds_1 fl_KL_19 ?_
  refine r_getR (pc := 4) ok cls9 sh_4 (k := 0) rfl (Nat.le_of_ble_eq_true rfl) rfl dX11_odds_4 fl_KL_34 ?_
  refine r_iload_n (pc := 7) ok dX11_odds_7 rfl ?_
  refine k_I (pc := 8) (fun r1 => r1) (fun r1 => mx X YY) (fun r1 hr_ => c_V (n := 1) ok cls5 sh_5 rfl ml_KL_163 wv_X5_hasPerson yk_X5_hasPerson rfl (Nat.le_of_ble_eq_true rfl) (Nat.le_of_ble_eq_true rfl) (tQu_hasPerson (qu_c (o := 5) (by decide)) (rfl) hr_) rfl (Nat.le_of_ble_eq_true rfl) dX11_odds_8) (fun r1 => ?_)
  refine r_if_eq (pc := 11) ok 25 dX11_odds_11 rfl (fun _ => ?_) (fun _ => ?_)
  · refine r_iconst (pc := 25) ok (-1 : Int32) dX11_odds_25 ci_m1 ?_
    exact r_iret (pc := 26) ok dX11_odds_26 rfl
  · refine r_iload_n (pc := 14) ok dX11_odds_14 rfl ?_
    refine r_iconst (pc := 15) ok (1 : Int32) dX11_odds_15 ci_1 ?_
    refine r_icmp_lt (pc := 16) ok 25 dX11_odds_16 rfl (fun _ => ?_) (fun _ => ?_)
    · refine r_iconst (pc := 25) ok (-1 : Int32) dX11_odds_25 ci_m1 ?_
      exact r_iret (pc := 26) ok dX11_odds_26 rfl
    · refine r_iload_n (pc := 19) ok dX11_odds_19 rfl ?_
      refine r_bipush (pc := 20) ok (30 : Int32) dX11_odds_20 cb_30 ?_
      refine r_icmp_le (pc := 22) ok 27 dX11_odds_22 rfl (fun _ => ?_) (fun _ => ?_)
      · refine r_iconst (pc := 27) ok (0 : Int32) dX11_odds_27 ci_0 ?_
        refine r_istore (pc := 28) ok dX11_odds_28 (Nat.le_of_ble_eq_true rfl) rfl ?_
        refine r_iconst (pc := 30) ok (0 : Int32) dX11_odds_30 ci_0 ?_
        refine r_istore (pc := 31) ok dX11_odds_31 (Nat.le_of_ble_eq_true rfl) rfl ?_
        refine r_iter (P := fun (a33 : Int32 × Int32 × (Nat → Obj)) o => VO Z G b 6 (fun (r : Int32 × (Nat → Obj)) => QX Z b (qI G b r.1 (mx r.2 YY))) (mx a33.2.2 YY) 33 [some (.ref (b + 0)), some (.int v1), some (.int v2), some (.int v3), some (.int a33.1), some (.int a33.2.1)] [] o) (E := fun (e_33 : Int32 × (Nat → Obj)) o => VO Z G b 6 (fun (r : Int32 × (Nat → Obj)) => QX Z b (qI G b r.1 (mx r.2 YY))) (mx e_33.2 YY) 87 [none, none, none, none, some (.int e_33.1), none] [] o) (fun _ => r_none) (fun K hc hx => wKL_odds_L33 ok (K := K) hc hx) (fun e7 => ?_) FU ((0 : Int32), (0 : Int32), X)
        refine r_iload (pc := 87) ok dX11_odds_87 rfl ?_
        exact r_iret (pc := 89) ok dX11_odds_89 rfl
      · refine r_iconst (pc := 25) ok (-1 : Int32) dX11_odds_25 ci_m1 ?_
        exact r_iret (pc := 26) ok dX11_odds_26 rfl
theorem tKL_odds {l : Launch} {G : Gx} {b : Nat} {YY : Nat → Obj} {X : Nat → Obj} {v1 : Int32} {v2 : Int32} {v3 : Int32} {r : Int32 × (Nat → Obj)} (hr : fKL_odds X v1 v2 v3 = some r) : MetG l G b yX11_odds cX11_odds 6 (some .int) 6 [.ref (b + 0), .int v1, .int v2, .int v3] (mx X YY) (qI G b r.1 (mx r.2 YY)) := by
  refine met_start [some (.ref (b + 0)), some (.int v1), some (.int v2), some (.int v3), none, none] (by decide +kernel) (Nat.le_of_ble_eq_true rfl) rfl (fun Z hl ok => ?_)
  clear hl
  exact vKL_odds ok r (by rw [hr]; rfl)
theorem vBk_add {Z : Cx} {G : Gx} {b : Nat} {XX YY : Nat → Obj} {bk : Obj} {v1 : Int32} {v2 : Int32} {v3 : Int32} (ok : OK Z G b cX0_add 4 0 RX0 none) : VO Z G b 4 (fun (r : Obj) => QX Z b (qV G b (mx (va_up XX 213 r) YY))) (mx (va_up XX 213 bk) YY) 0 [some (.ref (b + 213)), some (.int v1), some (.int v2), some (.int v3)] [] ((fBk_add bk v1 v2 v3).bind some) := by
  unfold fBk_add
  refine r_aload_n (pc := 0) ok dX0_add_0 rfl ?_
  refine r_getI (pc := 1) ok cls0 sh_213 (k := 7) rfl (Nat.le_of_ble_eq_true rfl) (mx_l (Nat.le_of_ble_eq_true rfl) (va_up_self _ _ _)) dX0_add_1 fl_Bk_29 ?_
  refine r_bipush (pc := 4) ok (40 : Int32) dX0_add_4 cb_40 ?_
  refine r_icmp_ge (pc := 6) ok 49 dX0_add_6 rfl (fun _ => ?_) (fun _ => ?_)
  · exact r_vret (pc := 49) ok dX0_add_49 rfl
  · refine r_aload_n (pc := 9) ok dX0_add_9 rfl ?_
    refine r_getR (pc := 10) ok cls0 sh_213 (k := 4) rfl (Nat.le_of_ble_eq_true rfl) rfl dX0_add_10 fl_Bk_9 ?_
    refine r_aload_n (pc := 13) ok dX0_add_13 rfl ?_
    refine r_getI (pc := 14) ok cls0 sh_213 (k := 7) rfl (Nat.le_of_ble_eq_true rfl) (mx_l (Nat.le_of_ble_eq_true rfl) (va_up_self _ _ _)) dX0_add_14 fl_Bk_29 ?_
    refine r_iload_n (pc := 17) ok dX0_add_17 rfl ?_
    refine r_iast (pc := 18) ok sh_214 (j := 1) rfl rfl (fun s_ => mx (va_up XX 213 s_) YY) (pm_l (Nat.le_of_ble_eq_true rfl) (pm_0 _ _)).1 (pm_l (Nat.le_of_ble_eq_true rfl) (pm_0 _ _)).2 dX0_add_18 (fun i1 s2 => ?_)
    refine r_aload_n (pc := 19) ok dX0_add_19 rfl ?_
    refine r_getR (pc := 20) ok cls0 sh_213 (k := 5) rfl (Nat.le_of_ble_eq_true rfl) rfl dX0_add_20 fl_Bk_15 ?_
    refine r_aload_n (pc := 23) ok dX0_add_23 rfl ?_
    refine r_getI (pc := 24) ok cls0 sh_213 (k := 7) rfl (Nat.le_of_ble_eq_true rfl) (mx_l (Nat.le_of_ble_eq_true rfl) (va_up_self _ _ _)) dX0_add_24 fl_Bk_29 ?_
    refine r_iload_n (pc := 27) ok dX0_add_27 rfl ?_
    refine r_iast (pc := 28) ok sh_215 (j := 2) rfl rfl (fun s_ => mx (va_up XX 213 s_) YY) (pm_l (Nat.le_of_ble_eq_true rfl) (pm_0 _ _)).1 (pm_l (Nat.le_of_ble_eq_true rfl) (pm_0 _ _)).2 dX0_add_28 (fun i3 s4 => ?_)
    refine r_aload_n (pc := 29) ok dX0_add_29 rfl ?_
    refine r_getR (pc := 30) ok cls0 sh_213 (k := 6) rfl (Nat.le_of_ble_eq_true rfl) rfl dX0_add_30 fl_Bk_18 ?_
    refine r_aload_n (pc := 33) ok dX0_add_33 rfl ?_
    refine r_getI (pc := 34) ok cls0 sh_213 (k := 7) rfl (Nat.le_of_ble_eq_true rfl) (mx_l (Nat.le_of_ble_eq_true rfl) (va_up_self _ _ _)) dX0_add_34 fl_Bk_29 ?_
    refine r_iload_n (pc := 37) ok dX0_add_37 rfl ?_
    refine r_iast (pc := 38) ok sh_216 (j := 3) rfl rfl (fun s_ => mx (va_up XX 213 s_) YY) (pm_l (Nat.le_of_ble_eq_true rfl) (pm_0 _ _)).1 (pm_l (Nat.le_of_ble_eq_true rfl) (pm_0 _ _)).2 dX0_add_38 (fun i5 s6 => ?_)
    refine r_aload_n (pc := 39) ok dX0_add_39 rfl ?_
    refine r_dup (pc := 40) ok dX0_add_40 rfl ?_
    refine r_getI (pc := 41) ok cls0 sh_213 (k := 7) rfl (Nat.le_of_ble_eq_true rfl) (mx_l (Nat.le_of_ble_eq_true rfl) (va_up_self _ _ _)) dX0_add_41 fl_Bk_29 ?_
    refine r_iconst (pc := 44) ok (1 : Int32) dX0_add_44 ci_1 ?_
    refine r_iadd (pc := 45) ok dX0_add_45 ?_
    refine r_putI (pc := 46) ok cls0 sh_213 (k := 7) rfl (Nat.le_of_ble_eq_true rfl) (fun s_ => mx (va_up XX 213 s_) YY) (pm_l (Nat.le_of_ble_eq_true rfl) (pm_0 _ _)).1 (pm_l (Nat.le_of_ble_eq_true rfl) (pm_0 _ _)).2 rfl rfl rfl dX0_add_46 fl_Bk_29 (fun s7 => ?_)
    exact r_vret (pc := 49) ok dX0_add_49 rfl
theorem tBk_add {l : Launch} {G : Gx} {b : Nat} {XX YY : Nat → Obj} {bk : Obj} {v1 : Int32} {v2 : Int32} {v3 : Int32} {r : Obj} (hr : fBk_add bk v1 v2 v3 = some r) : MetG l G b yX0_add cX0_add 4 none 0 [.ref (b + 213), .int v1, .int v2, .int v3] (mx (va_up XX 213 bk) YY) (qV G b (mx (va_up XX 213 r) YY)) := by
  refine met_start [some (.ref (b + 213)), some (.int v1), some (.int v2), some (.int v3)] (by decide +kernel) (Nat.le_of_ble_eq_true rfl) rfl (fun Z hl ok => ?_)
  clear hl
  exact vBk_add ok r (by rw [hr]; rfl)
theorem vBk_readTicks {Z : Cx} {G : Gx} {b : Nat} {XX YY : Nat → Obj} {bk : Obj} {ta : Obj} (ok : OK Z G b cX0_readTicks 2 3 RX0 (some .boolean)) : VO Z G b 2 (fun (r : Int32 × Obj × Obj) => QX Z b (qI G b r.1 (mx (va_up (va_up XX 213 r.2.1) 1 r.2.2) YY))) (mx (va_up (va_up XX 213 bk) 1 ta) YY) 0 [some (.ref (b + 213)), none] [] ((fBk_readTicks bk ta).bind some) := by
  unfold fBk_readTicks
  refine r_aload_n (pc := 0) ok dX0_readTicks_0 rfl ?_
  refine r_getR (pc := 1) ok cls0 sh_213 (k := 2) rfl (Nat.le_of_ble_eq_true rfl) rfl dX0_readTicks_1 fl_Bk_21 ?_
  refine r_iconst (pc := 4) ok (1 : Int32) dX0_readTicks_4 ci_1 ?_
  refine r_bipush (pc := 5) ok (60 : Int32) dX0_readTicks_5 cb_60 ?_
  refine k_I (pc := 7) (fun r1 => r1.1) (fun r1 => mx (va_up (va_up XX 213 bk) 1 r1.2) YY) (fun r1 hr_ => c_V (n := 2) ok cls10 sh_1 rfl ml_Bk_67 wv_X10_takeNumber yk_X10_takeNumber rfl (Nat.le_of_ble_eq_true rfl) (Nat.le_of_ble_eq_true rfl) (tTa_takeNumber hr_) rfl (Nat.le_of_ble_eq_true rfl) dX0_readTicks_7) (fun r1 => ?_)
  refine r_istore_n (pc := 10) ok dX0_readTicks_10 (Nat.le_of_ble_eq_true rfl) rfl ?_
  refine r_aload_n (pc := 11) ok dX0_readTicks_11 rfl ?_
  refine r_bipush (pc := 12) ok (17 : Int32) dX0_readTicks_12 cb_17 ?_
  refine r_iload_n (pc := 14) ok dX0_readTicks_14 rfl ?_
  refine r_iconst (pc := 15) ok (0 : Int32) dX0_readTicks_15 ci_0 ?_
  refine k_V (pc := 16)  (fun r2 => mx (va_up (va_up XX 213 r2) 1 r1.2) YY) (fun r2 hr_ => c_V (n := 3) ok cls0 sh_213 rfl ml_Bk_71 wv_X0_add yk_X0_add rfl (Nat.le_of_ble_eq_true rfl) (Nat.le_of_ble_eq_true rfl) (met_cast (congrArg (fun A_ => mx A_ YY) (up_co XX bk r1.2 (show 213 ≠ 1 from by decide))) (congrArg (fun A_ => qV G b (mx A_ YY)) (up_co XX r2 r1.2 (show 213 ≠ 1 from by decide))) (tBk_add hr_)) rfl (Nat.le_of_ble_eq_true rfl) dX0_readTicks_16) (fun r2 => ?_)
  refine r_iload_n (pc := 19) ok dX0_readTicks_19 rfl ?_
  refine r_iconst (pc := 20) ok (-1 : Int32) dX0_readTicks_20 ci_m1 ?_
  refine r_icmp_eq (pc := 21) ok 28 dX0_readTicks_21 rfl (fun _ => ?_) (fun _ => ?_)
  · refine r_iconst (pc := 28) ok (0 : Int32) dX0_readTicks_28 ci_0 ?_
    exact r_zret (pc := 29) ok dX0_readTicks_29 za_0 rfl
  · refine r_iconst (pc := 24) ok (1 : Int32) dX0_readTicks_24 ci_1 ?_
    refine r_goto (pc := 25) ok 29 dX0_readTicks_25 rfl ?_
    exact r_zret (pc := 29) ok dX0_readTicks_29 za_1 rfl
theorem tBk_readTicks {l : Launch} {G : Gx} {b : Nat} {XX YY : Nat → Obj} {bk : Obj} {ta : Obj} {r : Int32 × Obj × Obj} (hr : fBk_readTicks bk ta = some r) : MetG l G b yX0_readTicks cX0_readTicks 2 (some .boolean) 3 [.ref (b + 213)] (mx (va_up (va_up XX 213 bk) 1 ta) YY) (qI G b r.1 (mx (va_up (va_up XX 213 r.2.1) 1 r.2.2) YY)) := by
  refine met_start [some (.ref (b + 213)), none] (by decide +kernel) (Nat.le_of_ble_eq_true rfl) rfl (fun Z hl ok => ?_)
  clear hl
  exact vBk_readTicks ok r (by rw [hr]; rfl)
theorem vBk_addAct {Z : Cx} {G : Gx} {b : Nat} {XX YY : Nat → Obj} {bk : Obj} {v1 : Int32} {v2 : Int32} {v3 : Int32} (ok : OK Z G b cX0_addAct 4 1 RX0 (some .boolean)) : VO Z G b 4 (fun (r : Int32 × Obj) => QX Z b (qI G b r.1 (mx (va_up XX 213 r.2) YY))) (mx (va_up XX 213 bk) YY) 0 [some (.ref (b + 213)), some (.int v1), some (.int v2), some (.int v3)] [] ((fBk_addAct bk v1 v2 v3).bind some) := by
  unfold fBk_addAct
  refine r_aload_n (pc := 0) ok dX0_addAct_0 rfl ?_
  refine r_iload_n (pc := 1) ok dX0_addAct_1 rfl ?_
  refine r_iload_n (pc := 2) ok dX0_addAct_2 rfl ?_
  refine r_iload_n (pc := 3) ok dX0_addAct_3 rfl ?_
  refine k_V (pc := 4)  (fun r1 => mx (va_up XX 213 r1) YY) (fun r1 hr_ => c_V (n := 3) ok cls0 sh_213 rfl ml_Bk_71 wv_X0_add yk_X0_add rfl (Nat.le_of_ble_eq_true rfl) (Nat.le_of_ble_eq_true rfl) (tBk_add hr_) rfl (Nat.le_of_ble_eq_true rfl) dX0_addAct_4) (fun r1 => ?_)
  refine r_iload_n (pc := 7) ok dX0_addAct_7 rfl ?_
  refine r_iconst (pc := 8) ok (-1 : Int32) dX0_addAct_8 ci_m1 ?_
  refine r_icmp_eq (pc := 9) ok 16 dX0_addAct_9 rfl (fun _ => ?_) (fun _ => ?_)
  · refine r_iconst (pc := 16) ok (0 : Int32) dX0_addAct_16 ci_0 ?_
    exact r_zret (pc := 17) ok dX0_addAct_17 za_0 rfl
  · refine r_iconst (pc := 12) ok (1 : Int32) dX0_addAct_12 ci_1 ?_
    refine r_goto (pc := 13) ok 17 dX0_addAct_13 rfl ?_
    exact r_zret (pc := 17) ok dX0_addAct_17 za_1 rfl
theorem tBk_addAct {l : Launch} {G : Gx} {b : Nat} {XX YY : Nat → Obj} {bk : Obj} {v1 : Int32} {v2 : Int32} {v3 : Int32} {r : Int32 × Obj} (hr : fBk_addAct bk v1 v2 v3 = some r) : MetG l G b yX0_addAct cX0_addAct 4 (some .boolean) 1 [.ref (b + 213), .int v1, .int v2, .int v3] (mx (va_up XX 213 bk) YY) (qI G b r.1 (mx (va_up XX 213 r.2) YY)) := by
  refine met_start [some (.ref (b + 213)), some (.int v1), some (.int v2), some (.int v3)] (by decide +kernel) (Nat.le_of_ble_eq_true rfl) rfl (fun Z hl ok => ?_)
  clear hl
  exact vBk_addAct ok r (by rw [hr]; rfl)
theorem wBk_addMeeting_J21 {Z : Cx} {G : Gx} {b : Nat} {XX YY : Nat → Obj} {bk : Obj} {ta : Obj} {v1 : Int32} {v2 : Int32} (ok : OK Z G b cX0_addMeeting 3 2 RX0 (some .boolean)) : VO Z G b 3 (fun (r : Int32 × Obj × Obj) => QX Z b (qI G b r.1 (mx (va_up (va_up XX 213 r.2.1) 1 r.2.2) YY))) (mx (va_up (va_up XX 213 bk) 1 ta) YY) 21 [some (.ref (b + 213)), some (.int v1), some (.int v2)] [] ((fBk_addMeeting_J21 bk ta v1 v2).bind some) := by
  unfold fBk_addMeeting_J21
  refine r_aload_n (pc := 21) ok dX0_addMeeting_21 rfl ?_
  refine r_bipush (pc := 22) ok (16 : Int32) dX0_addMeeting_22 cb_16 ?_
  refine r_iload_n (pc := 24) ok dX0_addMeeting_24 rfl ?_
  refine r_iload_n (pc := 25) ok dX0_addMeeting_25 rfl ?_
  refine k_I (pc := 26) (fun r1 => r1.1) (fun r1 => mx (va_up (va_up XX 213 r1.2) 1 ta) YY) (fun r1 hr_ => c_V (n := 3) ok cls0 sh_213 rfl ml_Bk_87 wv_X0_addAct yk_X0_addAct rfl (Nat.le_of_ble_eq_true rfl) (Nat.le_of_ble_eq_true rfl) (met_cast (congrArg (fun A_ => mx A_ YY) (up_co XX bk ta (show 213 ≠ 1 from by decide))) (congrArg (fun A_ => qI G b r1.1 (mx A_ YY)) (up_co XX r1.2 ta (show 213 ≠ 1 from by decide))) (tBk_addAct hr_)) rfl (Nat.le_of_ble_eq_true rfl) dX0_addMeeting_26) (fun r1 => ?_)
  exact r_zret (pc := 29) ok dX0_addMeeting_29 rfl rfl
theorem vBk_addMeeting {Z : Cx} {G : Gx} {b : Nat} {XX YY : Nat → Obj} {bk : Obj} {ta : Obj} {v1 : Int32} {v2 : Int32} (ok : OK Z G b cX0_addMeeting 3 2 RX0 (some .boolean)) : VO Z G b 3 (fun (r : Int32 × Obj × Obj) => QX Z b (qI G b r.1 (mx (va_up (va_up XX 213 r.2.1) 1 r.2.2) YY))) (mx (va_up (va_up XX 213 bk) 1 ta) YY) 0 [some (.ref (b + 213)), some (.int v1), some (.int v2)] [] ((fBk_addMeeting bk ta v1 v2).bind some) := by
  unfold fBk_addMeeting
  refine r_iload_n (pc := 0) ok dX0_addMeeting_0 rfl ?_
  refine r_iconst (pc := 1) ok (-1 : Int32) dX0_addMeeting_1 ci_m1 ?_
  refine r_icmp_eq (pc := 2) ok 21 dX0_addMeeting_2 rfl (fun _ => ?_) (fun _ => ?_)
  · exact wBk_addMeeting_J21 ok
  · refine r_iload_n (pc := 5) ok dX0_addMeeting_5 rfl ?_
    refine r_iload_n (pc := 6) ok dX0_addMeeting_6 rfl ?_
    refine r_icmp_ne (pc := 7) ok 21 dX0_addMeeting_7 rfl (fun _ => ?_) (fun _ => ?_)
    · refine r_aload_n (pc := 10) ok dX0_addMeeting_10 rfl ?_
      refine r_getR (pc := 11) ok cls0 sh_213 (k := 2) rfl (Nat.le_of_ble_eq_true rfl) rfl dX0_addMeeting_11 fl_Bk_21 ?_
      refine r_iconst (pc := 14) ok (3 : Int32) dX0_addMeeting_14 ci_3 ?_
      refine k_I (pc := 15) (fun r2 => r2.1) (fun r2 => mx (va_up (va_up XX 213 bk) 1 r2.2) YY) (fun r2 hr_ => c_V (n := 1) ok cls10 sh_1 rfl ml_Bk_57 wv_X10_refuse yk_X10_refuse rfl (Nat.le_of_ble_eq_true rfl) (Nat.le_of_ble_eq_true rfl) (tTa_refuse hr_) rfl (Nat.le_of_ble_eq_true rfl) dX0_addMeeting_15) (fun r2 => ?_)
      refine r_pop (pc := 18) ok dX0_addMeeting_18 rfl ?_
      refine r_iconst (pc := 19) ok (0 : Int32) dX0_addMeeting_19 ci_0 ?_
      exact r_zret (pc := 20) ok dX0_addMeeting_20 za_0 rfl
    · exact wBk_addMeeting_J21 ok
theorem tBk_addMeeting {l : Launch} {G : Gx} {b : Nat} {XX YY : Nat → Obj} {bk : Obj} {ta : Obj} {v1 : Int32} {v2 : Int32} {r : Int32 × Obj × Obj} (hr : fBk_addMeeting bk ta v1 v2 = some r) : MetG l G b yX0_addMeeting cX0_addMeeting 3 (some .boolean) 2 [.ref (b + 213), .int v1, .int v2] (mx (va_up (va_up XX 213 bk) 1 ta) YY) (qI G b r.1 (mx (va_up (va_up XX 213 r.2.1) 1 r.2.2) YY)) := by
  refine met_start [some (.ref (b + 213)), some (.int v1), some (.int v2)] (by decide +kernel) (Nat.le_of_ble_eq_true rfl) rfl (fun Z hl ok => ?_)
  clear hl
  exact vBk_addMeeting ok r (by rw [hr]; rfl)
theorem wBk_readAct_J29 {Z : Cx} {G : Gx} {b : Nat} {XX YY : Nat → Obj} {q : Obj} {bk : Obj} {ta : Obj} {v1 : Int32} {k0 : Int32} (ok : OK Z G b cX0_readAct 3 3 RX0 (some .boolean)) (hr_q : XX 5 = q) : VO Z G b 3 (fun (r : Int32 × Obj × Obj) => QX Z b (qI G b r.1 (mx (va_up (va_up XX 213 r.2.1) 1 r.2.2) YY))) (mx (va_up (va_up XX 213 bk) 1 ta) YY) 29 [some (.ref (b + 213)), some (.int v1), none] [.int k0] ((fBk_readAct_J29 q bk ta v1 k0).bind some) := by
  unfold fBk_readAct_J29
  refine r_istore_n (pc := 29) ok dX0_readAct_29 (Nat.le_of_ble_eq_true rfl) rfl ?_
  refine r_iload_n (pc := 30) ok dX0_readAct_30 rfl ?_
  refine r_ite (fun hs0 => ?_) (fun hs0 => ?_)
  · refine r_tsw (pc := 31) ok 92 (5 : Int32) dX0_readAct_31 hs0 (by decide +kernel) (by decide +kernel) rfl rfl ?_
    refine r_aload_n (pc := 92) ok dX0_readAct_92 rfl ?_
    refine r_iload_n (pc := 93) ok dX0_readAct_93 rfl ?_
    refine r_iload_n (pc := 94) ok dX0_readAct_94 rfl ?_
    refine r_aload_n (pc := 95) ok dX0_readAct_95 rfl ?_
    refine r_getR (pc := 96) ok cls0 sh_213 (k := 2) rfl (Nat.le_of_ble_eq_true rfl) rfl dX0_readAct_96 fl_Bk_21 ?_
    refine r_aload_n (pc := 99) ok dX0_readAct_99 rfl ?_
    refine r_getR (pc := 100) ok cls0 sh_213 (k := 3) rfl (Nat.le_of_ble_eq_true rfl) rfl dX0_readAct_100 fl_Bk_25 ?_
    refine k_I (pc := 103) (fun r2 => r2.1) (fun r2 => mx (va_up (va_up XX 213 bk) 1 r2.2) YY) (fun r2 hr_ => c_V (n := 1) ok cls10 sh_1 rfl ml_Bk_84 wv_X10_takeHouse yk_X10_takeHouse rfl (Nat.le_of_ble_eq_true rfl) (Nat.le_of_ble_eq_true rfl) (tTa_takeHouse (qu_c (o := 5) (by decide)) ((va_up_ne _ _ (by decide)).trans (hr_q)) hr_) rfl (Nat.le_of_ble_eq_true rfl) dX0_readAct_103) (fun r2 => ?_)
    refine k_I (pc := 106) (fun r3 => r3.1) (fun r3 => mx (va_up (va_up XX 213 r3.2) 1 r2.2) YY) (fun r3 hr_ => c_V (n := 3) ok cls0 sh_213 rfl ml_Bk_87 wv_X0_addAct yk_X0_addAct rfl (Nat.le_of_ble_eq_true rfl) (Nat.le_of_ble_eq_true rfl) (met_cast (congrArg (fun A_ => mx A_ YY) (up_co XX bk r2.2 (show 213 ≠ 1 from by decide))) (congrArg (fun A_ => qI G b r3.1 (mx A_ YY)) (up_co XX r3.2 r2.2 (show 213 ≠ 1 from by decide))) (tBk_addAct hr_)) rfl (Nat.le_of_ble_eq_true rfl) dX0_readAct_106) (fun r3 => ?_)
    exact r_zret (pc := 109) ok dX0_readAct_109 rfl rfl
  refine r_ite (fun hs1 => ?_) (fun hs1 => ?_)
  · refine r_tsw (pc := 31) ok 92 (13 : Int32) dX0_readAct_31 hs1 (by decide +kernel) (by decide +kernel) rfl rfl ?_
    refine r_aload_n (pc := 92) ok dX0_readAct_92 rfl ?_
    refine r_iload_n (pc := 93) ok dX0_readAct_93 rfl ?_
    refine r_iload_n (pc := 94) ok dX0_readAct_94 rfl ?_
    refine r_aload_n (pc := 95) ok dX0_readAct_95 rfl ?_
    refine r_getR (pc := 96) ok cls0 sh_213 (k := 2) rfl (Nat.le_of_ble_eq_true rfl) rfl dX0_readAct_96 fl_Bk_21 ?_
    refine r_aload_n (pc := 99) ok dX0_readAct_99 rfl ?_
    refine r_getR (pc := 100) ok cls0 sh_213 (k := 3) rfl (Nat.le_of_ble_eq_true rfl) rfl dX0_readAct_100 fl_Bk_25 ?_
    refine k_I (pc := 103) (fun r4 => r4.1) (fun r4 => mx (va_up (va_up XX 213 bk) 1 r4.2) YY) (fun r4 hr_ => c_V (n := 1) ok cls10 sh_1 rfl ml_Bk_84 wv_X10_takeHouse yk_X10_takeHouse rfl (Nat.le_of_ble_eq_true rfl) (Nat.le_of_ble_eq_true rfl) (tTa_takeHouse (qu_c (o := 5) (by decide)) ((va_up_ne _ _ (by decide)).trans (hr_q)) hr_) rfl (Nat.le_of_ble_eq_true rfl) dX0_readAct_103) (fun r4 => ?_)
    refine k_I (pc := 106) (fun r5 => r5.1) (fun r5 => mx (va_up (va_up XX 213 r5.2) 1 r4.2) YY) (fun r5 hr_ => c_V (n := 3) ok cls0 sh_213 rfl ml_Bk_87 wv_X0_addAct yk_X0_addAct rfl (Nat.le_of_ble_eq_true rfl) (Nat.le_of_ble_eq_true rfl) (met_cast (congrArg (fun A_ => mx A_ YY) (up_co XX bk r4.2 (show 213 ≠ 1 from by decide))) (congrArg (fun A_ => qI G b r5.1 (mx A_ YY)) (up_co XX r5.2 r4.2 (show 213 ≠ 1 from by decide))) (tBk_addAct hr_)) rfl (Nat.le_of_ble_eq_true rfl) dX0_readAct_106) (fun r5 => ?_)
    exact r_zret (pc := 109) ok dX0_readAct_109 rfl rfl
  refine r_ite (fun hs2 => ?_) (fun hs2 => ?_)
  · refine r_tsw (pc := 31) ok 110 (14 : Int32) dX0_readAct_31 hs2 (by decide +kernel) (by decide +kernel) rfl rfl ?_
    refine r_aload_n (pc := 110) ok dX0_readAct_110 rfl ?_
    refine r_iload_n (pc := 111) ok dX0_readAct_111 rfl ?_
    refine r_iload_n (pc := 112) ok dX0_readAct_112 rfl ?_
    refine r_aload_n (pc := 113) ok dX0_readAct_113 rfl ?_
    refine r_getR (pc := 114) ok cls0 sh_213 (k := 2) rfl (Nat.le_of_ble_eq_true rfl) rfl dX0_readAct_114 fl_Bk_21 ?_
    refine r_bipush (pc := 117) ok (8 : Int32) dX0_readAct_117 cb_8 ?_
    refine r_bipush (pc := 119) ok (10 : Int32) dX0_readAct_119 cb_10 ?_
    refine k_I (pc := 121) (fun r6 => r6.1) (fun r6 => mx (va_up (va_up XX 213 bk) 1 r6.2) YY) (fun r6 hr_ => c_V (n := 2) ok cls10 sh_1 rfl ml_Bk_91 wv_X10_takeOneOf yk_X10_takeOneOf rfl (Nat.le_of_ble_eq_true rfl) (Nat.le_of_ble_eq_true rfl) (tTa_takeOneOf hr_) rfl (Nat.le_of_ble_eq_true rfl) dX0_readAct_121) (fun r6 => ?_)
    refine k_I (pc := 124) (fun r7 => r7.1) (fun r7 => mx (va_up (va_up XX 213 r7.2) 1 r6.2) YY) (fun r7 hr_ => c_V (n := 3) ok cls0 sh_213 rfl ml_Bk_87 wv_X0_addAct yk_X0_addAct rfl (Nat.le_of_ble_eq_true rfl) (Nat.le_of_ble_eq_true rfl) (met_cast (congrArg (fun A_ => mx A_ YY) (up_co XX bk r6.2 (show 213 ≠ 1 from by decide))) (congrArg (fun A_ => qI G b r7.1 (mx A_ YY)) (up_co XX r7.2 r6.2 (show 213 ≠ 1 from by decide))) (tBk_addAct hr_)) rfl (Nat.le_of_ble_eq_true rfl) dX0_readAct_124) (fun r7 => ?_)
    exact r_zret (pc := 127) ok dX0_readAct_127 rfl rfl
  refine r_ite (fun hs3 => ?_) (fun hs3 => ?_)
  · refine r_tsw (pc := 31) ok 128 (15 : Int32) dX0_readAct_31 hs3 (by decide +kernel) (by decide +kernel) rfl rfl ?_
    refine r_aload_n (pc := 128) ok dX0_readAct_128 rfl ?_
    refine r_iload_n (pc := 129) ok dX0_readAct_129 rfl ?_
    refine r_iload_n (pc := 130) ok dX0_readAct_130 rfl ?_
    refine r_iconst (pc := 131) ok (0 : Int32) dX0_readAct_131 ci_0 ?_
    refine k_I (pc := 132) (fun r8 => r8.1) (fun r8 => mx (va_up (va_up XX 213 r8.2) 1 ta) YY) (fun r8 hr_ => c_V (n := 3) ok cls0 sh_213 rfl ml_Bk_87 wv_X0_addAct yk_X0_addAct rfl (Nat.le_of_ble_eq_true rfl) (Nat.le_of_ble_eq_true rfl) (met_cast (congrArg (fun A_ => mx A_ YY) (up_co XX bk ta (show 213 ≠ 1 from by decide))) (congrArg (fun A_ => qI G b r8.1 (mx A_ YY)) (up_co XX r8.2 ta (show 213 ≠ 1 from by decide))) (tBk_addAct hr_)) rfl (Nat.le_of_ble_eq_true rfl) dX0_readAct_132) (fun r8 => ?_)
    exact r_zret (pc := 135) ok dX0_readAct_135 rfl rfl
  refine r_ite (fun hs4 => ?_) (fun hs4 => ?_)
  · refine r_tsw (pc := 31) ok 136 (16 : Int32) dX0_readAct_31 hs4 (by decide +kernel) (by decide +kernel) rfl rfl ?_
    refine r_aload_n (pc := 136) ok dX0_readAct_136 rfl ?_
    refine r_iload_n (pc := 137) ok dX0_readAct_137 rfl ?_
    refine r_aload_n (pc := 138) ok dX0_readAct_138 rfl ?_
    refine r_getR (pc := 139) ok cls0 sh_213 (k := 2) rfl (Nat.le_of_ble_eq_true rfl) rfl dX0_readAct_139 fl_Bk_21 ?_
    refine r_aload_n (pc := 142) ok dX0_readAct_142 rfl ?_
    refine r_getR (pc := 143) ok cls0 sh_213 (k := 3) rfl (Nat.le_of_ble_eq_true rfl) rfl dX0_readAct_143 fl_Bk_25 ?_
    refine k_I (pc := 146) (fun r9 => r9.1) (fun r9 => mx (va_up (va_up XX 213 bk) 1 r9.2) YY) (fun r9 hr_ => c_V (n := 1) ok cls10 sh_1 rfl ml_Bk_94 wv_X10_takePerson yk_X10_takePerson rfl (Nat.le_of_ble_eq_true rfl) (Nat.le_of_ble_eq_true rfl) (tTa_takePerson (qu_c (o := 5) (by decide)) ((va_up_ne _ _ (by decide)).trans (hr_q)) hr_) rfl (Nat.le_of_ble_eq_true rfl) dX0_readAct_146) (fun r9 => ?_)
    refine k_I (pc := 149) (fun r10 => r10.1) (fun r10 => mx (va_up (va_up XX 213 r10.2.1) 1 r10.2.2) YY) (fun r10 hr_ => c_V (n := 2) ok cls0 sh_213 rfl ml_Bk_97 wv_X0_addMeeting yk_X0_addMeeting rfl (Nat.le_of_ble_eq_true rfl) (Nat.le_of_ble_eq_true rfl) (tBk_addMeeting hr_) rfl (Nat.le_of_ble_eq_true rfl) dX0_readAct_149) (fun r10 => ?_)
    exact r_zret (pc := 152) ok dX0_readAct_152 rfl rfl
  refine tsw_cases (lo := 5) (hi := 16) (x := k0) (fun hx => ?_) (fun k hk hx => ?_)
  · refine r_tswd (pc := 31) ok 153 dX0_readAct_31 hx rfl ?_
    refine r_aload_n (pc := 153) ok dX0_readAct_153 rfl ?_
    refine r_getR (pc := 154) ok cls0 sh_213 (k := 2) rfl (Nat.le_of_ble_eq_true rfl) rfl dX0_readAct_154 fl_Bk_21 ?_
    refine r_iconst (pc := 157) ok (1 : Int32) dX0_readAct_157 ci_1 ?_
    refine k_I (pc := 158) (fun r11 => r11.1) (fun r11 => mx (va_up (va_up XX 213 bk) 1 r11.2) YY) (fun r11 hr_ => c_V (n := 1) ok cls10 sh_1 rfl ml_Bk_57 wv_X10_refuse yk_X10_refuse rfl (Nat.le_of_ble_eq_true rfl) (Nat.le_of_ble_eq_true rfl) (tTa_refuse hr_) rfl (Nat.le_of_ble_eq_true rfl) dX0_readAct_158) (fun r11 => ?_)
    refine r_pop (pc := 161) ok dX0_readAct_161 rfl ?_
    refine r_iconst (pc := 162) ok (0 : Int32) dX0_readAct_162 ci_0 ?_
    exact r_zret (pc := 163) ok dX0_readAct_163 za_0 rfl
  · have h8 : k0 = (5 : Int32) ∨ k0 = (6 : Int32) ∨ k0 = (7 : Int32) ∨ k0 = (8 : Int32) ∨ k0 = (9 : Int32) ∨ k0 = (10 : Int32) ∨ k0 = (11 : Int32) ∨ k0 = (12 : Int32) ∨ k0 = (13 : Int32) ∨ k0 = (14 : Int32) ∨ k0 = (15 : Int32) ∨ k0 = (16 : Int32) := tsw_enum_5_16 hk hx
    rcases h8 with h9 | h9 | h9 | h9 | h9 | h9 | h9 | h9 | h9 | h9 | h9 | h9
    · exact absurd h9 hs0
    · refine r_tsw (pc := 31) ok 153 (6 : Int32) dX0_readAct_31 h9 (by decide +kernel) (by decide +kernel) rfl rfl ?_
      refine r_aload_n (pc := 153) ok dX0_readAct_153 rfl ?_
      refine r_getR (pc := 154) ok cls0 sh_213 (k := 2) rfl (Nat.le_of_ble_eq_true rfl) rfl dX0_readAct_154 fl_Bk_21 ?_
      refine r_iconst (pc := 157) ok (1 : Int32) dX0_readAct_157 ci_1 ?_
      refine k_I (pc := 158) (fun r11 => r11.1) (fun r11 => mx (va_up (va_up XX 213 bk) 1 r11.2) YY) (fun r11 hr_ => c_V (n := 1) ok cls10 sh_1 rfl ml_Bk_57 wv_X10_refuse yk_X10_refuse rfl (Nat.le_of_ble_eq_true rfl) (Nat.le_of_ble_eq_true rfl) (tTa_refuse hr_) rfl (Nat.le_of_ble_eq_true rfl) dX0_readAct_158) (fun r11 => ?_)
      refine r_pop (pc := 161) ok dX0_readAct_161 rfl ?_
      refine r_iconst (pc := 162) ok (0 : Int32) dX0_readAct_162 ci_0 ?_
      exact r_zret (pc := 163) ok dX0_readAct_163 za_0 rfl
    · refine r_tsw (pc := 31) ok 153 (7 : Int32) dX0_readAct_31 h9 (by decide +kernel) (by decide +kernel) rfl rfl ?_
      refine r_aload_n (pc := 153) ok dX0_readAct_153 rfl ?_
      refine r_getR (pc := 154) ok cls0 sh_213 (k := 2) rfl (Nat.le_of_ble_eq_true rfl) rfl dX0_readAct_154 fl_Bk_21 ?_
      refine r_iconst (pc := 157) ok (1 : Int32) dX0_readAct_157 ci_1 ?_
      refine k_I (pc := 158) (fun r11 => r11.1) (fun r11 => mx (va_up (va_up XX 213 bk) 1 r11.2) YY) (fun r11 hr_ => c_V (n := 1) ok cls10 sh_1 rfl ml_Bk_57 wv_X10_refuse yk_X10_refuse rfl (Nat.le_of_ble_eq_true rfl) (Nat.le_of_ble_eq_true rfl) (tTa_refuse hr_) rfl (Nat.le_of_ble_eq_true rfl) dX0_readAct_158) (fun r11 => ?_)
      refine r_pop (pc := 161) ok dX0_readAct_161 rfl ?_
      refine r_iconst (pc := 162) ok (0 : Int32) dX0_readAct_162 ci_0 ?_
      exact r_zret (pc := 163) ok dX0_readAct_163 za_0 rfl
    · refine r_tsw (pc := 31) ok 153 (8 : Int32) dX0_readAct_31 h9 (by decide +kernel) (by decide +kernel) rfl rfl ?_
      refine r_aload_n (pc := 153) ok dX0_readAct_153 rfl ?_
      refine r_getR (pc := 154) ok cls0 sh_213 (k := 2) rfl (Nat.le_of_ble_eq_true rfl) rfl dX0_readAct_154 fl_Bk_21 ?_
      refine r_iconst (pc := 157) ok (1 : Int32) dX0_readAct_157 ci_1 ?_
      refine k_I (pc := 158) (fun r11 => r11.1) (fun r11 => mx (va_up (va_up XX 213 bk) 1 r11.2) YY) (fun r11 hr_ => c_V (n := 1) ok cls10 sh_1 rfl ml_Bk_57 wv_X10_refuse yk_X10_refuse rfl (Nat.le_of_ble_eq_true rfl) (Nat.le_of_ble_eq_true rfl) (tTa_refuse hr_) rfl (Nat.le_of_ble_eq_true rfl) dX0_readAct_158) (fun r11 => ?_)
      refine r_pop (pc := 161) ok dX0_readAct_161 rfl ?_
      refine r_iconst (pc := 162) ok (0 : Int32) dX0_readAct_162 ci_0 ?_
      exact r_zret (pc := 163) ok dX0_readAct_163 za_0 rfl
    · refine r_tsw (pc := 31) ok 153 (9 : Int32) dX0_readAct_31 h9 (by decide +kernel) (by decide +kernel) rfl rfl ?_
      refine r_aload_n (pc := 153) ok dX0_readAct_153 rfl ?_
      refine r_getR (pc := 154) ok cls0 sh_213 (k := 2) rfl (Nat.le_of_ble_eq_true rfl) rfl dX0_readAct_154 fl_Bk_21 ?_
      refine r_iconst (pc := 157) ok (1 : Int32) dX0_readAct_157 ci_1 ?_
      refine k_I (pc := 158) (fun r11 => r11.1) (fun r11 => mx (va_up (va_up XX 213 bk) 1 r11.2) YY) (fun r11 hr_ => c_V (n := 1) ok cls10 sh_1 rfl ml_Bk_57 wv_X10_refuse yk_X10_refuse rfl (Nat.le_of_ble_eq_true rfl) (Nat.le_of_ble_eq_true rfl) (tTa_refuse hr_) rfl (Nat.le_of_ble_eq_true rfl) dX0_readAct_158) (fun r11 => ?_)
      refine r_pop (pc := 161) ok dX0_readAct_161 rfl ?_
      refine r_iconst (pc := 162) ok (0 : Int32) dX0_readAct_162 ci_0 ?_
      exact r_zret (pc := 163) ok dX0_readAct_163 za_0 rfl
    · refine r_tsw (pc := 31) ok 153 (10 : Int32) dX0_readAct_31 h9 (by decide +kernel) (by decide +kernel) rfl rfl ?_
      refine r_aload_n (pc := 153) ok dX0_readAct_153 rfl ?_
      refine r_getR (pc := 154) ok cls0 sh_213 (k := 2) rfl (Nat.le_of_ble_eq_true rfl) rfl dX0_readAct_154 fl_Bk_21 ?_
      refine r_iconst (pc := 157) ok (1 : Int32) dX0_readAct_157 ci_1 ?_
      refine k_I (pc := 158) (fun r11 => r11.1) (fun r11 => mx (va_up (va_up XX 213 bk) 1 r11.2) YY) (fun r11 hr_ => c_V (n := 1) ok cls10 sh_1 rfl ml_Bk_57 wv_X10_refuse yk_X10_refuse rfl (Nat.le_of_ble_eq_true rfl) (Nat.le_of_ble_eq_true rfl) (tTa_refuse hr_) rfl (Nat.le_of_ble_eq_true rfl) dX0_readAct_158) (fun r11 => ?_)
      refine r_pop (pc := 161) ok dX0_readAct_161 rfl ?_
      refine r_iconst (pc := 162) ok (0 : Int32) dX0_readAct_162 ci_0 ?_
      exact r_zret (pc := 163) ok dX0_readAct_163 za_0 rfl
    · refine r_tsw (pc := 31) ok 153 (11 : Int32) dX0_readAct_31 h9 (by decide +kernel) (by decide +kernel) rfl rfl ?_
      refine r_aload_n (pc := 153) ok dX0_readAct_153 rfl ?_
      refine r_getR (pc := 154) ok cls0 sh_213 (k := 2) rfl (Nat.le_of_ble_eq_true rfl) rfl dX0_readAct_154 fl_Bk_21 ?_
      refine r_iconst (pc := 157) ok (1 : Int32) dX0_readAct_157 ci_1 ?_
      refine k_I (pc := 158) (fun r11 => r11.1) (fun r11 => mx (va_up (va_up XX 213 bk) 1 r11.2) YY) (fun r11 hr_ => c_V (n := 1) ok cls10 sh_1 rfl ml_Bk_57 wv_X10_refuse yk_X10_refuse rfl (Nat.le_of_ble_eq_true rfl) (Nat.le_of_ble_eq_true rfl) (tTa_refuse hr_) rfl (Nat.le_of_ble_eq_true rfl) dX0_readAct_158) (fun r11 => ?_)
      refine r_pop (pc := 161) ok dX0_readAct_161 rfl ?_
      refine r_iconst (pc := 162) ok (0 : Int32) dX0_readAct_162 ci_0 ?_
      exact r_zret (pc := 163) ok dX0_readAct_163 za_0 rfl
    · refine r_tsw (pc := 31) ok 153 (12 : Int32) dX0_readAct_31 h9 (by decide +kernel) (by decide +kernel) rfl rfl ?_
      refine r_aload_n (pc := 153) ok dX0_readAct_153 rfl ?_
      refine r_getR (pc := 154) ok cls0 sh_213 (k := 2) rfl (Nat.le_of_ble_eq_true rfl) rfl dX0_readAct_154 fl_Bk_21 ?_
      refine r_iconst (pc := 157) ok (1 : Int32) dX0_readAct_157 ci_1 ?_
      refine k_I (pc := 158) (fun r11 => r11.1) (fun r11 => mx (va_up (va_up XX 213 bk) 1 r11.2) YY) (fun r11 hr_ => c_V (n := 1) ok cls10 sh_1 rfl ml_Bk_57 wv_X10_refuse yk_X10_refuse rfl (Nat.le_of_ble_eq_true rfl) (Nat.le_of_ble_eq_true rfl) (tTa_refuse hr_) rfl (Nat.le_of_ble_eq_true rfl) dX0_readAct_158) (fun r11 => ?_)
      refine r_pop (pc := 161) ok dX0_readAct_161 rfl ?_
      refine r_iconst (pc := 162) ok (0 : Int32) dX0_readAct_162 ci_0 ?_
      exact r_zret (pc := 163) ok dX0_readAct_163 za_0 rfl
    · exact absurd h9 hs1
    · exact absurd h9 hs2
    · exact absurd h9 hs3
    · exact absurd h9 hs4
theorem vBk_readAct {Z : Cx} {G : Gx} {b : Nat} {XX YY : Nat → Obj} {q : Obj} {bk : Obj} {ta : Obj} {v1 : Int32} (ok : OK Z G b cX0_readAct 3 3 RX0 (some .boolean)) (hr_q : XX 5 = q) : VO Z G b 3 (fun (r : Int32 × Obj × Obj) => QX Z b (qI G b r.1 (mx (va_up (va_up XX 213 r.2.1) 1 r.2.2) YY))) (mx (va_up (va_up XX 213 bk) 1 ta) YY) 0 [some (.ref (b + 213)), some (.int v1), none] [] ((fBk_readAct q bk ta v1).bind some) := by
  unfold fBk_readAct
  refine r_aload_n (pc := 0) ok dX0_readAct_0 rfl ?_
  refine r_getR (pc := 1) ok cls0 sh_213 (k := 2) rfl (Nat.le_of_ble_eq_true rfl) rfl dX0_readAct_1 fl_Bk_21 ?_
  refine k_V (pc := 4)  (fun r1 => mx (va_up (va_up XX 213 bk) 1 r1) YY) (fun r1 hr_ => c_V (n := 0) ok cls10 sh_1 rfl ml_Bk_75 wv_X10_take yk_X10_take rfl (Nat.le_of_ble_eq_true rfl) (Nat.le_of_ble_eq_true rfl) (tTa_take hr_) rfl (Nat.le_of_ble_eq_true rfl) dX0_readAct_4) (fun r1 => ?_)
  refine r_aload_n (pc := 7) ok dX0_readAct_7 rfl ?_
  refine r_getR (pc := 8) ok cls0 sh_213 (k := 2) rfl (Nat.le_of_ble_eq_true rfl) rfl dX0_readAct_8 fl_Bk_21 ?_
  refine r_getI (pc := 11) ok cls10 sh_1 (k := 4) rfl (Nat.le_of_ble_eq_true rfl) (mx_l (Nat.le_of_ble_eq_true rfl) (va_up_self _ _ _)) dX0_readAct_11 fl_Bk_78 ?_
  refine r_iconst (pc := 14) ok (1 : Int32) dX0_readAct_14 ci_1 ?_
  refine r_icmp_ne (pc := 15) ok 28 dX0_readAct_15 rfl (fun _ => ?_) (fun _ => ?_)
  · refine r_aload_n (pc := 18) ok dX0_readAct_18 rfl ?_
    refine r_getR (pc := 19) ok cls0 sh_213 (k := 2) rfl (Nat.le_of_ble_eq_true rfl) rfl dX0_readAct_19 fl_Bk_21 ?_
    refine r_getI (pc := 22) ok cls10 sh_1 (k := 5) rfl (Nat.le_of_ble_eq_true rfl) (mx_l (Nat.le_of_ble_eq_true rfl) (va_up_self _ _ _)) dX0_readAct_22 fl_Bk_81 ?_
    refine r_goto (pc := 25) ok 29 dX0_readAct_25 rfl ?_
    exact wBk_readAct_J29 ok hr_q
  · refine r_iconst (pc := 28) ok (-1 : Int32) dX0_readAct_28 ci_m1 ?_
    exact wBk_readAct_J29 ok hr_q
theorem tBk_readAct {l : Launch} {G : Gx} {b : Nat} {XX YY : Nat → Obj} {q : Obj} {bk : Obj} {ta : Obj} {v1 : Int32} (hr_q : XX 5 = q) {r : Int32 × Obj × Obj} (hr : fBk_readAct q bk ta v1 = some r) : MetG l G b yX0_readAct cX0_readAct 3 (some .boolean) 3 [.ref (b + 213), .int v1] (mx (va_up (va_up XX 213 bk) 1 ta) YY) (qI G b r.1 (mx (va_up (va_up XX 213 r.2.1) 1 r.2.2) YY)) := by
  refine met_start [some (.ref (b + 213)), some (.int v1), none] (by decide +kernel) (Nat.le_of_ble_eq_true rfl) rfl (fun Z hl ok => ?_)
  clear hl
  exact vBk_readAct ok hr_q r (by rw [hr]; rfl)
theorem wBk_readLine_J41 {Z : Cx} {G : Gx} {b : Nat} {XX YY : Nat → Obj} {q : Obj} {bk : Obj} {ta : Obj} {v1 : Int32} {v2 : Int32} (ok : OK Z G b cX0_readLine 3 4 RX0 (some .boolean)) (hr_q : XX 5 = q) : VO Z G b 3 (fun (r : Int32 × Obj × Obj) => QX Z b (qI G b r.1 (mx (va_up (va_up XX 213 r.2.1) 1 r.2.2) YY))) (mx (va_up (va_up XX 213 bk) 1 ta) YY) 41 [some (.ref (b + 213)), some (.int v1), some (.int v2)] [] ((fBk_readLine_J41 q bk ta v1 v2).bind some) := by
  unfold fBk_readLine_J41
  refine r_aload_n (pc := 41) ok dX0_readLine_41 rfl ?_
  refine r_getI (pc := 42) ok cls0 sh_213 (k := 7) rfl (Nat.le_of_ble_eq_true rfl) (mx_l (Nat.le_of_ble_eq_true rfl) ((va_up_ne _ _ (by decide)).trans (va_up_self _ _ _))) dX0_readLine_42 fl_Bk_29 ?_
  refine r_bipush (pc := 45) ok (40 : Int32) dX0_readLine_45 cb_40 ?_
  refine r_icmp_lt (pc := 47) ok 61 dX0_readLine_47 rfl (fun _ => ?_) (fun _ => ?_)
  · refine r_iload_n (pc := 61) ok dX0_readLine_61 rfl ?_
    refine r_if_eq (pc := 62) ok 72 dX0_readLine_62 rfl (fun _ => ?_) (fun _ => ?_)
    · refine r_aload_n (pc := 72) ok dX0_readLine_72 rfl ?_
      refine r_iload_n (pc := 73) ok dX0_readLine_73 rfl ?_
      refine k_I (pc := 74) (fun r3 => r3.1) (fun r3 => mx (va_up (va_up XX 213 r3.2.1) 1 r3.2.2) YY) (fun r3 hr_ => c_V (n := 1) ok cls0 sh_213 rfl ml_Bk_64 wv_X0_readAct yk_X0_readAct rfl (Nat.le_of_ble_eq_true rfl) (Nat.le_of_ble_eq_true rfl) (tBk_readAct (hr_q) hr_) rfl (Nat.le_of_ble_eq_true rfl) dX0_readLine_74) (fun r3 => ?_)
      exact r_zret (pc := 77) ok dX0_readLine_77 rfl rfl
    · refine r_aload_n (pc := 65) ok dX0_readLine_65 rfl ?_
      refine k_I (pc := 66) (fun r4 => r4.1) (fun r4 => mx (va_up (va_up XX 213 r4.2.1) 1 r4.2.2) YY) (fun r4 hr_ => c_V (n := 0) ok cls0 sh_213 rfl ml_Bk_61 wv_X0_readTicks yk_X0_readTicks rfl (Nat.le_of_ble_eq_true rfl) (Nat.le_of_ble_eq_true rfl) (tBk_readTicks hr_) rfl (Nat.le_of_ble_eq_true rfl) dX0_readLine_66) (fun r4 => ?_)
      refine r_goto (pc := 69) ok 77 dX0_readLine_69 rfl ?_
      exact r_zret (pc := 77) ok dX0_readLine_77 rfl rfl
  · refine r_aload_n (pc := 50) ok dX0_readLine_50 rfl ?_
    refine r_getR (pc := 51) ok cls0 sh_213 (k := 2) rfl (Nat.le_of_ble_eq_true rfl) rfl dX0_readLine_51 fl_Bk_21 ?_
    refine r_iconst (pc := 54) ok (4 : Int32) dX0_readLine_54 ci_4 ?_
    refine k_I (pc := 55) (fun r5 => r5.1) (fun r5 => mx (va_up (va_up XX 213 bk) 1 r5.2) YY) (fun r5 hr_ => c_V (n := 1) ok cls10 sh_1 rfl ml_Bk_57 wv_X10_refuse yk_X10_refuse rfl (Nat.le_of_ble_eq_true rfl) (Nat.le_of_ble_eq_true rfl) (tTa_refuse hr_) rfl (Nat.le_of_ble_eq_true rfl) dX0_readLine_55) (fun r5 => ?_)
    refine r_pop (pc := 58) ok dX0_readLine_58 rfl ?_
    refine r_iconst (pc := 59) ok (0 : Int32) dX0_readLine_59 ci_0 ?_
    exact r_zret (pc := 60) ok dX0_readLine_60 za_0 rfl
theorem wBk_readLine_J29 {Z : Cx} {G : Gx} {b : Nat} {XX YY : Nat → Obj} {q : Obj} {bk : Obj} {ta : Obj} {v1 : Int32} {k0 : Int32} (ok : OK Z G b cX0_readLine 3 4 RX0 (some .boolean)) (hr_q : XX 5 = q) : VO Z G b 3 (fun (r : Int32 × Obj × Obj) => QX Z b (qI G b r.1 (mx (va_up (va_up XX 213 r.2.1) 1 r.2.2) YY))) (mx (va_up (va_up XX 213 bk) 1 ta) YY) 29 [some (.ref (b + 213)), some (.int v1), none] [.int k0] ((fBk_readLine_J29 q bk ta v1 k0).bind some) := by
  unfold fBk_readLine_J29
  refine r_istore_n (pc := 29) ok dX0_readLine_29 (Nat.le_of_ble_eq_true rfl) rfl ?_
  refine r_iload_n (pc := 30) ok dX0_readLine_30 rfl ?_
  refine r_if_ne (pc := 31) ok 41 dX0_readLine_31 rfl (fun _ => ?_) (fun _ => ?_)
  · refine r_iload_n (pc := 34) ok dX0_readLine_34 rfl ?_
    refine r_iconst (pc := 35) ok (-1 : Int32) dX0_readLine_35 ci_m1 ?_
    refine r_icmp_ne (pc := 36) ok 41 dX0_readLine_36 rfl (fun _ => ?_) (fun _ => ?_)
    · refine r_iconst (pc := 39) ok (0 : Int32) dX0_readLine_39 ci_0 ?_
      exact r_zret (pc := 40) ok dX0_readLine_40 za_0 rfl
    · exact wBk_readLine_J41 ok hr_q
  · exact wBk_readLine_J41 ok hr_q
theorem vBk_readLine {Z : Cx} {G : Gx} {b : Nat} {XX YY : Nat → Obj} {q : Obj} {bk : Obj} {ta : Obj} (ok : OK Z G b cX0_readLine 3 4 RX0 (some .boolean)) (hr_q : XX 5 = q) : VO Z G b 3 (fun (r : Int32 × Obj × Obj) => QX Z b (qI G b r.1 (mx (va_up (va_up XX 213 r.2.1) 1 r.2.2) YY))) (mx (va_up (va_up XX 213 bk) 1 ta) YY) 0 [some (.ref (b + 213)), none, none] [] ((fBk_readLine q bk ta).bind some) := by
  unfold fBk_readLine
  refine r_aload_n (pc := 0) ok dX0_readLine_0 rfl ?_
  refine r_getR (pc := 1) ok cls0 sh_213 (k := 2) rfl (Nat.le_of_ble_eq_true rfl) rfl dX0_readLine_1 fl_Bk_21 ?_
  refine r_bipush (pc := 4) ok (17 : Int32) dX0_readLine_4 cb_17 ?_
  refine k_I (pc := 6) (fun r1 => r1) (fun r1 => mx (va_up (va_up XX 213 bk) 1 ta) YY) (fun r1 hr_ => c_V (n := 1) ok cls10 sh_1 rfl ml_Bk_49 wv_X10_isWord yk_X10_isWord rfl (Nat.le_of_ble_eq_true rfl) (Nat.le_of_ble_eq_true rfl) (tTa_isWord (va_up_self _ _ _) hr_) rfl (Nat.le_of_ble_eq_true rfl) dX0_readLine_6) (fun r1 => ?_)
  refine r_istore_n (pc := 9) ok dX0_readLine_9 (Nat.le_of_ble_eq_true rfl) rfl ?_
  refine r_iload_n (pc := 10) ok dX0_readLine_10 rfl ?_
  refine r_if_eq (pc := 11) ok 18 dX0_readLine_11 rfl (fun _ => ?_) (fun _ => ?_)
  · refine r_aload_n (pc := 18) ok dX0_readLine_18 rfl ?_
    refine r_getR (pc := 19) ok cls0 sh_213 (k := 2) rfl (Nat.le_of_ble_eq_true rfl) rfl dX0_readLine_19 fl_Bk_21 ?_
    refine r_aload_n (pc := 22) ok dX0_readLine_22 rfl ?_
    refine r_getR (pc := 23) ok cls0 sh_213 (k := 3) rfl (Nat.le_of_ble_eq_true rfl) rfl dX0_readLine_23 fl_Bk_25 ?_
    refine k_I (pc := 26) (fun r2 => r2.1) (fun r2 => mx (va_up (va_up XX 213 bk) 1 r2.2) YY) (fun r2 hr_ => c_V (n := 1) ok cls10 sh_1 rfl ml_Bk_53 wv_X10_personHere yk_X10_personHere rfl (Nat.le_of_ble_eq_true rfl) (Nat.le_of_ble_eq_true rfl) (tTa_personHere (qu_c (o := 5) (by decide)) ((va_up_ne _ _ (by decide)).trans (hr_q)) hr_) rfl (Nat.le_of_ble_eq_true rfl) dX0_readLine_26) (fun r2 => ?_)
    exact wBk_readLine_J29 ok hr_q
  · refine r_iconst (pc := 14) ok (-1 : Int32) dX0_readLine_14 ci_m1 ?_
    refine r_goto (pc := 15) ok 29 dX0_readLine_15 rfl ?_
    exact wBk_readLine_J29 ok hr_q
theorem tBk_readLine {l : Launch} {G : Gx} {b : Nat} {XX YY : Nat → Obj} {q : Obj} {bk : Obj} {ta : Obj} (hr_q : XX 5 = q) {r : Int32 × Obj × Obj} (hr : fBk_readLine q bk ta = some r) : MetG l G b yX0_readLine cX0_readLine 3 (some .boolean) 4 [.ref (b + 213)] (mx (va_up (va_up XX 213 bk) 1 ta) YY) (qI G b r.1 (mx (va_up (va_up XX 213 r.2.1) 1 r.2.2) YY)) := by
  refine met_start [some (.ref (b + 213)), none, none] (by decide +kernel) (Nat.le_of_ble_eq_true rfl) rfl (fun Z hl ok => ?_)
  clear hl
  exact vBk_readLine ok hr_q r (by rw [hr]; rfl)
theorem wBk_readAll_L17 {Z : Cx} {G : Gx} {b : Nat} {XX YY : Nat → Obj} {q : Obj} (ok : OK Z G b cX0_readAll 2 5 RX0 (some .boolean)) (hr_q : XX 5 = q) {K : ((Int32 × Obj × Obj) ⊕ ((Obj × Obj) ⊕ (Int32 × Obj × Obj))) → Option (Int32 × Obj × Obj)} (hc : ∀ (a : Int32 × Obj × Obj), VO Z G b 2 (fun (r : Int32 × Obj × Obj) => QX Z b (qI G b r.1 (mx (va_up (va_up XX 213 r.2.1) 1 r.2.2) YY))) (mx (va_up (va_up XX 213 a.2.1) 1 a.2.2) YY) 17 [some (.ref (b + 213)), some (.int a.1)] [] (K (.inl a))) (hx : ∀ (z : (Obj × Obj) ⊕ (Int32 × Obj × Obj)), (∀ (e : Obj × Obj), z = .inl e → VO Z G b 2 (fun (r : Int32 × Obj × Obj) => QX Z b (qI G b r.1 (mx (va_up (va_up XX 213 r.2.1) 1 r.2.2) YY))) (mx (va_up (va_up XX 213 e.1) 1 e.2) YY) 59 [none, none] [] (K (.inr z))) ∧ (∀ (r : Int32 × Obj × Obj), z = .inr r → K (.inr z) = some r)) : ∀ (a : Int32 × Obj × Obj), VO Z G b 2 (fun (r : Int32 × Obj × Obj) => QX Z b (qI G b r.1 (mx (va_up (va_up XX 213 r.2.1) 1 r.2.2) YY))) (mx (va_up (va_up XX 213 a.2.1) 1 a.2.2) YY) 17 [some (.ref (b + 213)), some (.int a.1)] [] ((fBk_readAll_L17 q a).bind K) := by
  intro a
  unfold fBk_readAll_L17
  refine r_iload_n (pc := 17) ok dX0_readAll_17 rfl ?_
  refine r_sipush (pc := 18) ok (940 : Int32) dX0_readAll_18 cs_940 ?_
  refine r_icmp_ge (pc := 21) ok 59 dX0_readAll_21 rfl (fun _ => ?_) (fun _ => ?_)
  · refine r_lv (lk_n (lk_n lk_0 _) _) ?_
    exact (hx (.inl (a.2.1, a.2.2))).1 _ rfl
  · refine r_aload_n (pc := 24) ok dX0_readAll_24 rfl ?_
    refine r_getR (pc := 25) ok cls0 sh_213 (k := 2) rfl (Nat.le_of_ble_eq_true rfl) rfl dX0_readAll_25 fl_Bk_21 ?_
    refine k_I (pc := 28) (fun r3 => r3) (fun r3 => mx (va_up (va_up XX 213 a.2.1) 1 a.2.2) YY) (fun r3 hr_ => c_V (n := 0) ok cls10 sh_1 rfl ml_Bk_39 wv_X10_isEnd yk_X10_isEnd rfl (Nat.le_of_ble_eq_true rfl) (Nat.le_of_ble_eq_true rfl) (tTa_isEnd (va_up_self _ _ _) hr_) rfl (Nat.le_of_ble_eq_true rfl) dX0_readAll_28) (fun r3 => ?_)
    refine r_if_ne (pc := 31) ok 59 dX0_readAll_31 rfl (fun _ => ?_) (fun _ => ?_)
    · refine r_aload_n (pc := 34) ok dX0_readAll_34 rfl ?_
      refine k_I (pc := 35) (fun r4 => r4.1) (fun r4 => mx (va_up (va_up XX 213 r4.2.1) 1 r4.2.2) YY) (fun r4 hr_ => c_V (n := 0) ok cls0 sh_213 rfl ml_Bk_43 wv_X0_readLine yk_X0_readLine rfl (Nat.le_of_ble_eq_true rfl) (Nat.le_of_ble_eq_true rfl) (tBk_readLine (hr_q) hr_) rfl (Nat.le_of_ble_eq_true rfl) dX0_readAll_35) (fun r4 => ?_)
      refine r_if_eq (pc := 38) ok 51 dX0_readAll_38 rfl (fun _ => ?_) (fun _ => ?_)
      · refine r_iconst (pc := 51) ok (0 : Int32) dX0_readAll_51 ci_0 ?_
        refine r_eq ((hx (.inr ((0 : Int32), r4.2.1, r4.2.2))).2 _ rfl) ?_
        exact r_zret (pc := 52) ok dX0_readAll_52 za_0 rfl
      · refine r_aload_n (pc := 41) ok dX0_readAll_41 rfl ?_
        refine r_getR (pc := 42) ok cls0 sh_213 (k := 2) rfl (Nat.le_of_ble_eq_true rfl) rfl dX0_readAll_42 fl_Bk_21 ?_
        refine k_I (pc := 45) (fun r5 => r5.1) (fun r5 => mx (va_up (va_up XX 213 r4.2.1) 1 r5.2) YY) (fun r5 hr_ => c_V (n := 0) ok cls10 sh_1 rfl ml_Bk_46 wv_X10_takeLineEnd yk_X10_takeLineEnd rfl (Nat.le_of_ble_eq_true rfl) (Nat.le_of_ble_eq_true rfl) (tTa_takeLineEnd hr_) rfl (Nat.le_of_ble_eq_true rfl) dX0_readAll_45) (fun r5 => ?_)
        refine r_if_ne (pc := 48) ok 53 dX0_readAll_48 rfl (fun _ => ?_) (fun _ => ?_)
        · refine r_iconst (pc := 51) ok (0 : Int32) dX0_readAll_51 ci_0 ?_
          refine r_eq ((hx (.inr ((0 : Int32), r4.2.1, r5.2))).2 _ rfl) ?_
          exact r_zret (pc := 52) ok dX0_readAll_52 za_0 rfl
        · refine r_iinc (pc := 53) ok (1 : Int32) dX0_readAll_53 ci_1 rfl (Nat.le_of_ble_eq_true rfl) rfl ?_
          refine r_goto (pc := 56) ok 17 dX0_readAll_56 rfl ?_
          exact hc ((a.1 + (1 : Int32)), r4.2.1, r5.2)
    · refine r_lv (lk_n (lk_n lk_0 _) _) ?_
      exact (hx (.inl (a.2.1, a.2.2))).1 _ rfl
theorem vBk_readAll {Z : Cx} {G : Gx} {b : Nat} {XX YY : Nat → Obj} {q : Obj} {bk : Obj} {ta : Obj} (ok : OK Z G b cX0_readAll 2 5 RX0 (some .boolean)) (hr_q : XX 5 = q) : VO Z G b 2 (fun (r : Int32 × Obj × Obj) => QX Z b (qI G b r.1 (mx (va_up (va_up XX 213 r.2.1) 1 r.2.2) YY))) (mx (va_up (va_up XX 213 bk) 1 ta) YY) 0 [some (.ref (b + 213)), none] [] ((fBk_readAll q bk ta).bind some) := by
  unfold fBk_readAll
  refine r_aload_n (pc := 0) ok dX0_readAll_0 rfl ?_
  refine r_iconst (pc := 1) ok (0 : Int32) dX0_readAll_1 ci_0 ?_
  refine r_putI (pc := 2) ok cls0 sh_213 (k := 7) rfl (Nat.le_of_ble_eq_true rfl) (fun s_ => mx (va_up (va_up XX 213 s_) 1 ta) YY) (pm_l (Nat.le_of_ble_eq_true rfl) (pm_s (by decide) (pm_0 _ _))).1 (pm_l (Nat.le_of_ble_eq_true rfl) (pm_s (by decide) (pm_0 _ _))).2 rfl rfl rfl dX0_readAll_2 fl_Bk_29 (fun s1 => ?_)
  refine r_aload_n (pc := 5) ok dX0_readAll_5 rfl ?_
  refine r_getR (pc := 6) ok cls0 sh_213 (k := 2) rfl (Nat.le_of_ble_eq_true rfl) rfl dX0_readAll_6 fl_Bk_21 ?_
  refine r_sipush (pc := 9) ok (400 : Int32) dX0_readAll_9 cs_400 ?_
  refine k_V (pc := 12)  (fun r2 => mx (va_up (va_up XX 213 s1) 1 r2) YY) (fun r2 hr_ => c_V (n := 1) ok cls10 sh_1 rfl ml_Bk_33 wv_X10_startReading yk_X10_startReading rfl (Nat.le_of_ble_eq_true rfl) (Nat.le_of_ble_eq_true rfl) (tTa_startReading hr_) rfl (Nat.le_of_ble_eq_true rfl) dX0_readAll_12) (fun r2 => ?_)
  refine r_iconst (pc := 15) ok (0 : Int32) dX0_readAll_15 ci_0 ?_
  refine r_istore_n (pc := 16) ok dX0_readAll_16 (Nat.le_of_ble_eq_true rfl) rfl ?_
  refine r_iter (P := fun (a17 : Int32 × Obj × Obj) o => VO Z G b 2 (fun (r : Int32 × Obj × Obj) => QX Z b (qI G b r.1 (mx (va_up (va_up XX 213 r.2.1) 1 r.2.2) YY))) (mx (va_up (va_up XX 213 a17.2.1) 1 a17.2.2) YY) 17 [some (.ref (b + 213)), some (.int a17.1)] [] o) (E := fun (z : (Obj × Obj) ⊕ (Int32 × Obj × Obj)) o => (∀ (e_17 : Obj × Obj), z = .inl e_17 → VO Z G b 2 (fun (r : Int32 × Obj × Obj) => QX Z b (qI G b r.1 (mx (va_up (va_up XX 213 r.2.1) 1 r.2.2) YY))) (mx (va_up (va_up XX 213 e_17.1) 1 e_17.2) YY) 59 [none, none] [] o) ∧ (∀ (r : Int32 × Obj × Obj), z = .inr r → o = some r)) (fun _ => r_none) (fun K hc hx => wBk_readAll_L17 ok hr_q (K := K) hc hx) (fun z => ⟨fun e6 hz => ?_, fun r hz => ?_⟩) FU ((0 : Int32), s1, r2)
  · subst hz
    refine r_inl ?_
    refine r_iconst (pc := 59) ok (1 : Int32) dX0_readAll_59 ci_1 ?_
    exact r_zret (pc := 60) ok dX0_readAll_60 za_1 rfl
  · subst hz
    rfl
theorem tBk_readAll {l : Launch} {G : Gx} {b : Nat} {XX YY : Nat → Obj} {q : Obj} {bk : Obj} {ta : Obj} (hr_q : XX 5 = q) {r : Int32 × Obj × Obj} (hr : fBk_readAll q bk ta = some r) : MetG l G b yX0_readAll cX0_readAll 2 (some .boolean) 5 [.ref (b + 213)] (mx (va_up (va_up XX 213 bk) 1 ta) YY) (qI G b r.1 (mx (va_up (va_up XX 213 r.2.1) 1 r.2.2) YY)) := by
  refine met_start [some (.ref (b + 213)), none] (by decide +kernel) (Nat.le_of_ble_eq_true rfl) rfl (fun Z hl ok => ?_)
  clear hl
  exact vBk_readAll ok hr_q r (by rw [hr]; rfl)
theorem vBk_reason {Z : Cx} {G : Gx} {b : Nat} {XX YY : Nat → Obj} {v0 : Int32} {v1 : Int32} (ok : OK Z G b cX0_reason 2 0 RX0 (some .int)) : VO Z G b 2 (fun (r : Int32) => QX Z b (qI G b r (mx XX YY))) (mx XX YY) 0 [some (.int v0), some (.int v1)] [] ((fBk_reason v0 v1).bind some) := by
  unfold fBk_reason
  refine r_iload_n (pc := 0) ok dX0_reason_0 rfl ?_
  refine r_if_ne (pc := 1) ok 8 dX0_reason_1 rfl (fun _ => ?_) (fun _ => ?_)
  · refine r_iconst (pc := 4) ok (0 : Int32) dX0_reason_4 ci_0 ?_
    refine r_goto (pc := 5) ok 11 dX0_reason_5 rfl ?_
    exact r_iret (pc := 11) ok dX0_reason_11 rfl
  · refine r_iload_n (pc := 8) ok dX0_reason_8 rfl ?_
    refine r_iload_n (pc := 9) ok dX0_reason_9 rfl ?_
    refine r_iadd (pc := 10) ok dX0_reason_10 ?_
    exact r_iret (pc := 11) ok dX0_reason_11 rfl
theorem tBk_reason {l : Launch} {G : Gx} {b : Nat} {XX YY : Nat → Obj} {v0 : Int32} {v1 : Int32} {r : Int32} (hr : fBk_reason v0 v1 = some r) : MetG l G b yX0_reason cX0_reason 2 (some .int) 0 [.int v0, .int v1] (mx XX YY) (qI G b r (mx XX YY)) := by
  refine met_start [some (.int v0), some (.int v1)] (by decide +kernel) (Nat.le_of_ble_eq_true rfl) rfl (fun Z hl ok => ?_)
  clear hl
  exact vBk_reason ok r (by rw [hr]; rfl)
theorem wBk_liveLine_L140 {Z : Cx} {G : Gx} {b : Nat} {io : Nat} {XX YY : Nat → Obj} {q : Obj} {v2 : Int32} (ok : OK Z G b cX0_liveLine 5 5 RX0 (some .int)) (ho : isSc io) (hr_q : XX (qid io) = q) {K : ((Int32 × Obj) ⊕ (Obj)) → Option (Int32 × Obj)} (hc : ∀ (a : Int32 × Obj), VO Z G b 5 (fun (r : Int32 × Obj) => QX Z b (qI G b r.1 (mx (va_up XX io r.2) YY))) (mx (va_up XX io a.2) YY) 140 [some (.ref (b + io)), none, some (.int v2), none, some (.int a.1)] [] (K (.inl a))) (hx : ∀ (e : Obj), VO Z G b 5 (fun (r : Int32 × Obj) => QX Z b (qI G b r.1 (mx (va_up XX io r.2) YY))) (mx (va_up XX io e) YY) 156 [none, none, none, none, none] [] (K (.inr e))) : ∀ (a : Int32 × Obj), VO Z G b 5 (fun (r : Int32 × Obj) => QX Z b (qI G b r.1 (mx (va_up XX io r.2) YY))) (mx (va_up XX io a.2) YY) 140 [some (.ref (b + io)), none, some (.int v2), none, some (.int a.1)] [] ((fBk_liveLine_L140 q v2 a).bind K) := by
  intro a
  unfold fBk_liveLine_L140
  refine r_iload (pc := 140) ok dX0_liveLine_140 rfl ?_
  refine r_iload_n (pc := 142) ok dX0_liveLine_142 rfl ?_
  refine r_icmp_ge (pc := 143) ok 156 dX0_liveLine_143 rfl (fun _ => ?_) (fun _ => ?_)
  · refine r_lv (lk_n (lk_n (lk_n (lk_n (lk_n lk_0 _) _) _) _) _) ?_
    exact hx a.2
  · refine r_aload_n (pc := 146) ok dX0_liveLine_146 rfl ?_
    refine k_V (pc := 147)  (fun r11 => mx (va_up XX io r11) YY) (fun r11 hr_ => c_V (n := 0) ok cls8 (sc_sh ho) rfl ml_Bk_147 wv_X8_letTickGo yk_X8_letTickGo rfl (Nat.le_of_ble_eq_true rfl) (Nat.le_of_ble_eq_true rfl) (tSc_letTickGo ho (hr_q) hr_) rfl (Nat.le_of_ble_eq_true rfl) dX0_liveLine_147) (fun r11 => ?_)
    refine r_iinc (pc := 150) ok (1 : Int32) dX0_liveLine_150 ci_1 rfl (Nat.le_of_ble_eq_true rfl) rfl ?_
    refine r_goto (pc := 153) ok 140 dX0_liveLine_153 rfl ?_
    exact hc ((a.1 + (1 : Int32)), r11)
theorem vBk_liveLine {Z : Cx} {G : Gx} {b : Nat} {io : Nat} {XX YY : Nat → Obj} {q : Obj} {sc : Obj} {v1 : Int32} {v2 : Int32} {v3 : Int32} (ok : OK Z G b cX0_liveLine 5 5 RX0 (some .int)) (ho : isSc io) (hr_q : XX (qid io) = q) : VO Z G b 5 (fun (r : Int32 × Obj) => QX Z b (qI G b r.1 (mx (va_up XX io r.2) YY))) (mx (va_up XX io sc) YY) 0 [some (.ref (b + io)), some (.int v1), some (.int v2), some (.int v3), none] [] ((fBk_liveLine q sc v1 v2 v3).bind some) := by
  unfold fBk_liveLine
  refine r_iload_n (pc := 0) ok dX0_liveLine_0 rfl ?_
  refine r_ite (fun hs0 => ?_) (fun hs0 => ?_)
  · refine r_tsw (pc := 1) ok 110 (5 : Int32) dX0_liveLine_1 hs0 (by decide +kernel) (by decide +kernel) rfl rfl ?_
    refine r_bipush (pc := 110) ok (40 : Int32) dX0_liveLine_110 cb_40 ?_
    refine r_aload_n (pc := 112) ok dX0_liveLine_112 rfl ?_
    refine r_iload_n (pc := 113) ok dX0_liveLine_113 rfl ?_
    refine r_iload_n (pc := 114) ok dX0_liveLine_114 rfl ?_
    refine k_I (pc := 115) (fun r1 => r1.1) (fun r1 => mx (va_up XX io r1.2) YY) (fun r1 hr_ => c_V (n := 2) ok cls8 (sc_sh ho) rfl ml_Bk_144 wv_X8_tryCall yk_X8_tryCall rfl (Nat.le_of_ble_eq_true rfl) (Nat.le_of_ble_eq_true rfl) (tSc_tryCall ho (hr_q) hr_) rfl (Nat.le_of_ble_eq_true rfl) dX0_liveLine_115) (fun r1 => ?_)
    refine k_I (pc := 118) (fun r2 => r2) (fun r2 => mx (va_up XX io r1.2) YY) (fun r2 hr_ => c_S (n := 2) ok ml_Bk_132 ws_X0_reason yk_X0_reason rfl (Nat.le_of_ble_eq_true rfl) (Nat.le_of_ble_eq_true rfl) (tBk_reason hr_) rfl (Nat.le_of_ble_eq_true rfl) dX0_liveLine_118) (fun r2 => ?_)
    exact r_iret (pc := 121) ok dX0_liveLine_121 rfl
  refine r_ite (fun hs1 => ?_) (fun hs1 => ?_)
  · refine r_tsw (pc := 1) ok 64 (13 : Int32) dX0_liveLine_1 hs1 (by decide +kernel) (by decide +kernel) rfl rfl ?_
    refine r_iconst (pc := 64) ok (0 : Int32) dX0_liveLine_64 ci_0 ?_
    refine r_aload_n (pc := 65) ok dX0_liveLine_65 rfl ?_
    refine r_iload_n (pc := 66) ok dX0_liveLine_66 rfl ?_
    refine r_iload_n (pc := 67) ok dX0_liveLine_67 rfl ?_
    refine k_I (pc := 68) (fun r3 => r3.1) (fun r3 => mx (va_up XX io r3.2) YY) (fun r3 hr_ => c_V (n := 2) ok cls8 (sc_sh ho) rfl ml_Bk_129 wv_X8_tryKnock yk_X8_tryKnock rfl (Nat.le_of_ble_eq_true rfl) (Nat.le_of_ble_eq_true rfl) (tSc_tryKnock ho (hr_q) hr_) rfl (Nat.le_of_ble_eq_true rfl) dX0_liveLine_68) (fun r3 => ?_)
    refine k_I (pc := 71) (fun r4 => r4) (fun r4 => mx (va_up XX io r3.2) YY) (fun r4 hr_ => c_S (n := 2) ok ml_Bk_132 ws_X0_reason yk_X0_reason rfl (Nat.le_of_ble_eq_true rfl) (Nat.le_of_ble_eq_true rfl) (tBk_reason hr_) rfl (Nat.le_of_ble_eq_true rfl) dX0_liveLine_71) (fun r4 => ?_)
    exact r_iret (pc := 74) ok dX0_liveLine_74 rfl
  refine r_ite (fun hs2 => ?_) (fun hs2 => ?_)
  · refine r_tsw (pc := 1) ok 75 (14 : Int32) dX0_liveLine_1 hs2 (by decide +kernel) (by decide +kernel) rfl rfl ?_
    refine r_bipush (pc := 75) ok (10 : Int32) dX0_liveLine_75 cb_10 ?_
    refine r_aload_n (pc := 77) ok dX0_liveLine_77 rfl ?_
    refine r_iload_n (pc := 78) ok dX0_liveLine_78 rfl ?_
    refine r_iload_n (pc := 79) ok dX0_liveLine_79 rfl ?_
    refine k_I (pc := 80) (fun r5 => r5.1) (fun r5 => mx (va_up XX io r5.2) YY) (fun r5 hr_ => c_V (n := 2) ok cls8 (sc_sh ho) rfl ml_Bk_135 wv_X8_tryGo yk_X8_tryGo rfl (Nat.le_of_ble_eq_true rfl) (Nat.le_of_ble_eq_true rfl) (tSc_tryGo ho (hr_q) hr_) rfl (Nat.le_of_ble_eq_true rfl) dX0_liveLine_80) (fun r5 => ?_)
    refine k_I (pc := 83) (fun r6 => r6) (fun r6 => mx (va_up XX io r5.2) YY) (fun r6 hr_ => c_S (n := 2) ok ml_Bk_132 ws_X0_reason yk_X0_reason rfl (Nat.le_of_ble_eq_true rfl) (Nat.le_of_ble_eq_true rfl) (tBk_reason hr_) rfl (Nat.le_of_ble_eq_true rfl) dX0_liveLine_83) (fun r6 => ?_)
    exact r_iret (pc := 86) ok dX0_liveLine_86 rfl
  refine r_ite (fun hs3 => ?_) (fun hs3 => ?_)
  · refine r_tsw (pc := 1) ok 87 (15 : Int32) dX0_liveLine_1 hs3 (by decide +kernel) (by decide +kernel) rfl rfl ?_
    refine r_bipush (pc := 87) ok (20 : Int32) dX0_liveLine_87 cb_20 ?_
    refine r_aload_n (pc := 89) ok dX0_liveLine_89 rfl ?_
    refine r_iload_n (pc := 90) ok dX0_liveLine_90 rfl ?_
    refine k_I (pc := 91) (fun r7 => r7.1) (fun r7 => mx (va_up XX io r7.2) YY) (fun r7 hr_ => c_V (n := 1) ok cls8 (sc_sh ho) rfl ml_Bk_138 wv_X8_tryQuit yk_X8_tryQuit rfl (Nat.le_of_ble_eq_true rfl) (Nat.le_of_ble_eq_true rfl) (tSc_tryQuit ho (hr_q) hr_) rfl (Nat.le_of_ble_eq_true rfl) dX0_liveLine_91) (fun r7 => ?_)
    refine k_I (pc := 94) (fun r8 => r8) (fun r8 => mx (va_up XX io r7.2) YY) (fun r8 hr_ => c_S (n := 2) ok ml_Bk_132 ws_X0_reason yk_X0_reason rfl (Nat.le_of_ble_eq_true rfl) (Nat.le_of_ble_eq_true rfl) (tBk_reason hr_) rfl (Nat.le_of_ble_eq_true rfl) dX0_liveLine_94) (fun r8 => ?_)
    exact r_iret (pc := 97) ok dX0_liveLine_97 rfl
  refine r_ite (fun hs4 => ?_) (fun hs4 => ?_)
  · refine r_tsw (pc := 1) ok 98 (16 : Int32) dX0_liveLine_1 hs4 (by decide +kernel) (by decide +kernel) rfl rfl ?_
    refine r_bipush (pc := 98) ok (30 : Int32) dX0_liveLine_98 cb_30 ?_
    refine r_aload_n (pc := 100) ok dX0_liveLine_100 rfl ?_
    refine r_iload_n (pc := 101) ok dX0_liveLine_101 rfl ?_
    refine r_iload_n (pc := 102) ok dX0_liveLine_102 rfl ?_
    refine k_I (pc := 103) (fun r9 => r9.1) (fun r9 => mx (va_up XX io r9.2) YY) (fun r9 hr_ => c_V (n := 2) ok cls8 (sc_sh ho) rfl ml_Bk_141 wv_X8_tryMeet yk_X8_tryMeet rfl (Nat.le_of_ble_eq_true rfl) (Nat.le_of_ble_eq_true rfl) (tSc_tryMeet ho (hr_q) hr_) rfl (Nat.le_of_ble_eq_true rfl) dX0_liveLine_103) (fun r9 => ?_)
    refine k_I (pc := 106) (fun r10 => r10) (fun r10 => mx (va_up XX io r9.2) YY) (fun r10 hr_ => c_S (n := 2) ok ml_Bk_132 ws_X0_reason yk_X0_reason rfl (Nat.le_of_ble_eq_true rfl) (Nat.le_of_ble_eq_true rfl) (tBk_reason hr_) rfl (Nat.le_of_ble_eq_true rfl) dX0_liveLine_106) (fun r10 => ?_)
    exact r_iret (pc := 109) ok dX0_liveLine_109 rfl
  refine tsw_cases (lo := 5) (hi := 16) (x := v1) (fun hx => ?_) (fun k hk hx => ?_)
  · refine r_tswd (pc := 1) ok 122 dX0_liveLine_1 hx rfl ?_
    refine r_aload_n (pc := 122) ok dX0_liveLine_122 rfl ?_
    refine r_getI (pc := 123) ok cls8 (sc_sh ho) (k := 1) rfl (Nat.le_of_ble_eq_true rfl) (mx_l (sc_lt ho) (va_up_self _ _ _)) dX0_liveLine_123 fl_Bk_115 ?_
    refine r_iload_n (pc := 126) ok dX0_liveLine_126 rfl ?_
    refine r_iadd (pc := 127) ok dX0_liveLine_127 ?_
    refine r_sipush (pc := 128) ok (1000 : Int32) dX0_liveLine_128 cs_1000 ?_
    refine r_icmp_le (pc := 131) ok 137 dX0_liveLine_131 rfl (fun _ => ?_) (fun _ => ?_)
    · refine r_iconst (pc := 137) ok (0 : Int32) dX0_liveLine_137 ci_0 ?_
      refine r_istore (pc := 138) ok dX0_liveLine_138 (Nat.le_of_ble_eq_true rfl) rfl ?_
      refine r_lv (lk_s (lk_n (lk_s (lk_n (lk_s lk_0 _) _) _) _) _) ?_
      refine r_iter (P := fun (a140 : Int32 × Obj) o => VO Z G b 5 (fun (r : Int32 × Obj) => QX Z b (qI G b r.1 (mx (va_up XX io r.2) YY))) (mx (va_up XX io a140.2) YY) 140 [some (.ref (b + io)), none, some (.int v2), none, some (.int a140.1)] [] o) (E := fun (e_140 : Obj) o => VO Z G b 5 (fun (r : Int32 × Obj) => QX Z b (qI G b r.1 (mx (va_up XX io r.2) YY))) (mx (va_up XX io e_140) YY) 156 [none, none, none, none, none] [] o) (fun _ => r_none) (fun K hc hx => wBk_liveLine_L140 ok ho hr_q (K := K) hc hx) (fun e12 => ?_) FU ((0 : Int32), sc)
      refine r_iconst (pc := 156) ok (0 : Int32) dX0_liveLine_156 ci_0 ?_
      exact r_iret (pc := 157) ok dX0_liveLine_157 rfl
    · refine r_bipush (pc := 134) ok (51 : Int32) dX0_liveLine_134 cb_51 ?_
      exact r_iret (pc := 136) ok dX0_liveLine_136 rfl
  · have h8 : v1 = (5 : Int32) ∨ v1 = (6 : Int32) ∨ v1 = (7 : Int32) ∨ v1 = (8 : Int32) ∨ v1 = (9 : Int32) ∨ v1 = (10 : Int32) ∨ v1 = (11 : Int32) ∨ v1 = (12 : Int32) ∨ v1 = (13 : Int32) ∨ v1 = (14 : Int32) ∨ v1 = (15 : Int32) ∨ v1 = (16 : Int32) := tsw_enum_5_16 hk hx
    rcases h8 with h9 | h9 | h9 | h9 | h9 | h9 | h9 | h9 | h9 | h9 | h9 | h9
    · exact absurd h9 hs0
    · refine r_tsw (pc := 1) ok 122 (6 : Int32) dX0_liveLine_1 h9 (by decide +kernel) (by decide +kernel) rfl rfl ?_
      refine r_aload_n (pc := 122) ok dX0_liveLine_122 rfl ?_
      refine r_getI (pc := 123) ok cls8 (sc_sh ho) (k := 1) rfl (Nat.le_of_ble_eq_true rfl) (mx_l (sc_lt ho) (va_up_self _ _ _)) dX0_liveLine_123 fl_Bk_115 ?_
      refine r_iload_n (pc := 126) ok dX0_liveLine_126 rfl ?_
      refine r_iadd (pc := 127) ok dX0_liveLine_127 ?_
      refine r_sipush (pc := 128) ok (1000 : Int32) dX0_liveLine_128 cs_1000 ?_
      refine r_icmp_le (pc := 131) ok 137 dX0_liveLine_131 rfl (fun _ => ?_) (fun _ => ?_)
      · refine r_iconst (pc := 137) ok (0 : Int32) dX0_liveLine_137 ci_0 ?_
        refine r_istore (pc := 138) ok dX0_liveLine_138 (Nat.le_of_ble_eq_true rfl) rfl ?_
        refine r_lv (lk_s (lk_n (lk_s (lk_n (lk_s lk_0 _) _) _) _) _) ?_
        refine r_iter (P := fun (a140 : Int32 × Obj) o => VO Z G b 5 (fun (r : Int32 × Obj) => QX Z b (qI G b r.1 (mx (va_up XX io r.2) YY))) (mx (va_up XX io a140.2) YY) 140 [some (.ref (b + io)), none, some (.int v2), none, some (.int a140.1)] [] o) (E := fun (e_140 : Obj) o => VO Z G b 5 (fun (r : Int32 × Obj) => QX Z b (qI G b r.1 (mx (va_up XX io r.2) YY))) (mx (va_up XX io e_140) YY) 156 [none, none, none, none, none] [] o) (fun _ => r_none) (fun K hc hx => wBk_liveLine_L140 ok ho hr_q (K := K) hc hx) (fun e12 => ?_) FU ((0 : Int32), sc)
        refine r_iconst (pc := 156) ok (0 : Int32) dX0_liveLine_156 ci_0 ?_
        exact r_iret (pc := 157) ok dX0_liveLine_157 rfl
      · refine r_bipush (pc := 134) ok (51 : Int32) dX0_liveLine_134 cb_51 ?_
        exact r_iret (pc := 136) ok dX0_liveLine_136 rfl
    · refine r_tsw (pc := 1) ok 122 (7 : Int32) dX0_liveLine_1 h9 (by decide +kernel) (by decide +kernel) rfl rfl ?_
      refine r_aload_n (pc := 122) ok dX0_liveLine_122 rfl ?_
      refine r_getI (pc := 123) ok cls8 (sc_sh ho) (k := 1) rfl (Nat.le_of_ble_eq_true rfl) (mx_l (sc_lt ho) (va_up_self _ _ _)) dX0_liveLine_123 fl_Bk_115 ?_
      refine r_iload_n (pc := 126) ok dX0_liveLine_126 rfl ?_
      refine r_iadd (pc := 127) ok dX0_liveLine_127 ?_
      refine r_sipush (pc := 128) ok (1000 : Int32) dX0_liveLine_128 cs_1000 ?_
      refine r_icmp_le (pc := 131) ok 137 dX0_liveLine_131 rfl (fun _ => ?_) (fun _ => ?_)
      · refine r_iconst (pc := 137) ok (0 : Int32) dX0_liveLine_137 ci_0 ?_
        refine r_istore (pc := 138) ok dX0_liveLine_138 (Nat.le_of_ble_eq_true rfl) rfl ?_
        refine r_lv (lk_s (lk_n (lk_s (lk_n (lk_s lk_0 _) _) _) _) _) ?_
        refine r_iter (P := fun (a140 : Int32 × Obj) o => VO Z G b 5 (fun (r : Int32 × Obj) => QX Z b (qI G b r.1 (mx (va_up XX io r.2) YY))) (mx (va_up XX io a140.2) YY) 140 [some (.ref (b + io)), none, some (.int v2), none, some (.int a140.1)] [] o) (E := fun (e_140 : Obj) o => VO Z G b 5 (fun (r : Int32 × Obj) => QX Z b (qI G b r.1 (mx (va_up XX io r.2) YY))) (mx (va_up XX io e_140) YY) 156 [none, none, none, none, none] [] o) (fun _ => r_none) (fun K hc hx => wBk_liveLine_L140 ok ho hr_q (K := K) hc hx) (fun e12 => ?_) FU ((0 : Int32), sc)
        refine r_iconst (pc := 156) ok (0 : Int32) dX0_liveLine_156 ci_0 ?_
        exact r_iret (pc := 157) ok dX0_liveLine_157 rfl
      · refine r_bipush (pc := 134) ok (51 : Int32) dX0_liveLine_134 cb_51 ?_
        exact r_iret (pc := 136) ok dX0_liveLine_136 rfl
    · refine r_tsw (pc := 1) ok 122 (8 : Int32) dX0_liveLine_1 h9 (by decide +kernel) (by decide +kernel) rfl rfl ?_
      refine r_aload_n (pc := 122) ok dX0_liveLine_122 rfl ?_
      refine r_getI (pc := 123) ok cls8 (sc_sh ho) (k := 1) rfl (Nat.le_of_ble_eq_true rfl) (mx_l (sc_lt ho) (va_up_self _ _ _)) dX0_liveLine_123 fl_Bk_115 ?_
      refine r_iload_n (pc := 126) ok dX0_liveLine_126 rfl ?_
      refine r_iadd (pc := 127) ok dX0_liveLine_127 ?_
      refine r_sipush (pc := 128) ok (1000 : Int32) dX0_liveLine_128 cs_1000 ?_
      refine r_icmp_le (pc := 131) ok 137 dX0_liveLine_131 rfl (fun _ => ?_) (fun _ => ?_)
      · refine r_iconst (pc := 137) ok (0 : Int32) dX0_liveLine_137 ci_0 ?_
        refine r_istore (pc := 138) ok dX0_liveLine_138 (Nat.le_of_ble_eq_true rfl) rfl ?_
        refine r_lv (lk_s (lk_n (lk_s (lk_n (lk_s lk_0 _) _) _) _) _) ?_
        refine r_iter (P := fun (a140 : Int32 × Obj) o => VO Z G b 5 (fun (r : Int32 × Obj) => QX Z b (qI G b r.1 (mx (va_up XX io r.2) YY))) (mx (va_up XX io a140.2) YY) 140 [some (.ref (b + io)), none, some (.int v2), none, some (.int a140.1)] [] o) (E := fun (e_140 : Obj) o => VO Z G b 5 (fun (r : Int32 × Obj) => QX Z b (qI G b r.1 (mx (va_up XX io r.2) YY))) (mx (va_up XX io e_140) YY) 156 [none, none, none, none, none] [] o) (fun _ => r_none) (fun K hc hx => wBk_liveLine_L140 ok ho hr_q (K := K) hc hx) (fun e12 => ?_) FU ((0 : Int32), sc)
        refine r_iconst (pc := 156) ok (0 : Int32) dX0_liveLine_156 ci_0 ?_
        exact r_iret (pc := 157) ok dX0_liveLine_157 rfl
      · refine r_bipush (pc := 134) ok (51 : Int32) dX0_liveLine_134 cb_51 ?_
        exact r_iret (pc := 136) ok dX0_liveLine_136 rfl
    · refine r_tsw (pc := 1) ok 122 (9 : Int32) dX0_liveLine_1 h9 (by decide +kernel) (by decide +kernel) rfl rfl ?_
      refine r_aload_n (pc := 122) ok dX0_liveLine_122 rfl ?_
      refine r_getI (pc := 123) ok cls8 (sc_sh ho) (k := 1) rfl (Nat.le_of_ble_eq_true rfl) (mx_l (sc_lt ho) (va_up_self _ _ _)) dX0_liveLine_123 fl_Bk_115 ?_
      refine r_iload_n (pc := 126) ok dX0_liveLine_126 rfl ?_
      refine r_iadd (pc := 127) ok dX0_liveLine_127 ?_
      refine r_sipush (pc := 128) ok (1000 : Int32) dX0_liveLine_128 cs_1000 ?_
      refine r_icmp_le (pc := 131) ok 137 dX0_liveLine_131 rfl (fun _ => ?_) (fun _ => ?_)
      · refine r_iconst (pc := 137) ok (0 : Int32) dX0_liveLine_137 ci_0 ?_
        refine r_istore (pc := 138) ok dX0_liveLine_138 (Nat.le_of_ble_eq_true rfl) rfl ?_
        refine r_lv (lk_s (lk_n (lk_s (lk_n (lk_s lk_0 _) _) _) _) _) ?_
        refine r_iter (P := fun (a140 : Int32 × Obj) o => VO Z G b 5 (fun (r : Int32 × Obj) => QX Z b (qI G b r.1 (mx (va_up XX io r.2) YY))) (mx (va_up XX io a140.2) YY) 140 [some (.ref (b + io)), none, some (.int v2), none, some (.int a140.1)] [] o) (E := fun (e_140 : Obj) o => VO Z G b 5 (fun (r : Int32 × Obj) => QX Z b (qI G b r.1 (mx (va_up XX io r.2) YY))) (mx (va_up XX io e_140) YY) 156 [none, none, none, none, none] [] o) (fun _ => r_none) (fun K hc hx => wBk_liveLine_L140 ok ho hr_q (K := K) hc hx) (fun e12 => ?_) FU ((0 : Int32), sc)
        refine r_iconst (pc := 156) ok (0 : Int32) dX0_liveLine_156 ci_0 ?_
        exact r_iret (pc := 157) ok dX0_liveLine_157 rfl
      · refine r_bipush (pc := 134) ok (51 : Int32) dX0_liveLine_134 cb_51 ?_
        exact r_iret (pc := 136) ok dX0_liveLine_136 rfl
    · refine r_tsw (pc := 1) ok 122 (10 : Int32) dX0_liveLine_1 h9 (by decide +kernel) (by decide +kernel) rfl rfl ?_
      refine r_aload_n (pc := 122) ok dX0_liveLine_122 rfl ?_
      refine r_getI (pc := 123) ok cls8 (sc_sh ho) (k := 1) rfl (Nat.le_of_ble_eq_true rfl) (mx_l (sc_lt ho) (va_up_self _ _ _)) dX0_liveLine_123 fl_Bk_115 ?_
      refine r_iload_n (pc := 126) ok dX0_liveLine_126 rfl ?_
      refine r_iadd (pc := 127) ok dX0_liveLine_127 ?_
      refine r_sipush (pc := 128) ok (1000 : Int32) dX0_liveLine_128 cs_1000 ?_
      refine r_icmp_le (pc := 131) ok 137 dX0_liveLine_131 rfl (fun _ => ?_) (fun _ => ?_)
      · refine r_iconst (pc := 137) ok (0 : Int32) dX0_liveLine_137 ci_0 ?_
        refine r_istore (pc := 138) ok dX0_liveLine_138 (Nat.le_of_ble_eq_true rfl) rfl ?_
        refine r_lv (lk_s (lk_n (lk_s (lk_n (lk_s lk_0 _) _) _) _) _) ?_
        refine r_iter (P := fun (a140 : Int32 × Obj) o => VO Z G b 5 (fun (r : Int32 × Obj) => QX Z b (qI G b r.1 (mx (va_up XX io r.2) YY))) (mx (va_up XX io a140.2) YY) 140 [some (.ref (b + io)), none, some (.int v2), none, some (.int a140.1)] [] o) (E := fun (e_140 : Obj) o => VO Z G b 5 (fun (r : Int32 × Obj) => QX Z b (qI G b r.1 (mx (va_up XX io r.2) YY))) (mx (va_up XX io e_140) YY) 156 [none, none, none, none, none] [] o) (fun _ => r_none) (fun K hc hx => wBk_liveLine_L140 ok ho hr_q (K := K) hc hx) (fun e12 => ?_) FU ((0 : Int32), sc)
        refine r_iconst (pc := 156) ok (0 : Int32) dX0_liveLine_156 ci_0 ?_
        exact r_iret (pc := 157) ok dX0_liveLine_157 rfl
      · refine r_bipush (pc := 134) ok (51 : Int32) dX0_liveLine_134 cb_51 ?_
        exact r_iret (pc := 136) ok dX0_liveLine_136 rfl
    · refine r_tsw (pc := 1) ok 122 (11 : Int32) dX0_liveLine_1 h9 (by decide +kernel) (by decide +kernel) rfl rfl ?_
      refine r_aload_n (pc := 122) ok dX0_liveLine_122 rfl ?_
      refine r_getI (pc := 123) ok cls8 (sc_sh ho) (k := 1) rfl (Nat.le_of_ble_eq_true rfl) (mx_l (sc_lt ho) (va_up_self _ _ _)) dX0_liveLine_123 fl_Bk_115 ?_
      refine r_iload_n (pc := 126) ok dX0_liveLine_126 rfl ?_
      refine r_iadd (pc := 127) ok dX0_liveLine_127 ?_
      refine r_sipush (pc := 128) ok (1000 : Int32) dX0_liveLine_128 cs_1000 ?_
      refine r_icmp_le (pc := 131) ok 137 dX0_liveLine_131 rfl (fun _ => ?_) (fun _ => ?_)
      · refine r_iconst (pc := 137) ok (0 : Int32) dX0_liveLine_137 ci_0 ?_
        refine r_istore (pc := 138) ok dX0_liveLine_138 (Nat.le_of_ble_eq_true rfl) rfl ?_
        refine r_lv (lk_s (lk_n (lk_s (lk_n (lk_s lk_0 _) _) _) _) _) ?_
        refine r_iter (P := fun (a140 : Int32 × Obj) o => VO Z G b 5 (fun (r : Int32 × Obj) => QX Z b (qI G b r.1 (mx (va_up XX io r.2) YY))) (mx (va_up XX io a140.2) YY) 140 [some (.ref (b + io)), none, some (.int v2), none, some (.int a140.1)] [] o) (E := fun (e_140 : Obj) o => VO Z G b 5 (fun (r : Int32 × Obj) => QX Z b (qI G b r.1 (mx (va_up XX io r.2) YY))) (mx (va_up XX io e_140) YY) 156 [none, none, none, none, none] [] o) (fun _ => r_none) (fun K hc hx => wBk_liveLine_L140 ok ho hr_q (K := K) hc hx) (fun e12 => ?_) FU ((0 : Int32), sc)
        refine r_iconst (pc := 156) ok (0 : Int32) dX0_liveLine_156 ci_0 ?_
        exact r_iret (pc := 157) ok dX0_liveLine_157 rfl
      · refine r_bipush (pc := 134) ok (51 : Int32) dX0_liveLine_134 cb_51 ?_
        exact r_iret (pc := 136) ok dX0_liveLine_136 rfl
    · refine r_tsw (pc := 1) ok 122 (12 : Int32) dX0_liveLine_1 h9 (by decide +kernel) (by decide +kernel) rfl rfl ?_
      refine r_aload_n (pc := 122) ok dX0_liveLine_122 rfl ?_
      refine r_getI (pc := 123) ok cls8 (sc_sh ho) (k := 1) rfl (Nat.le_of_ble_eq_true rfl) (mx_l (sc_lt ho) (va_up_self _ _ _)) dX0_liveLine_123 fl_Bk_115 ?_
      refine r_iload_n (pc := 126) ok dX0_liveLine_126 rfl ?_
      refine r_iadd (pc := 127) ok dX0_liveLine_127 ?_
      refine r_sipush (pc := 128) ok (1000 : Int32) dX0_liveLine_128 cs_1000 ?_
      refine r_icmp_le (pc := 131) ok 137 dX0_liveLine_131 rfl (fun _ => ?_) (fun _ => ?_)
      · refine r_iconst (pc := 137) ok (0 : Int32) dX0_liveLine_137 ci_0 ?_
        refine r_istore (pc := 138) ok dX0_liveLine_138 (Nat.le_of_ble_eq_true rfl) rfl ?_
        refine r_lv (lk_s (lk_n (lk_s (lk_n (lk_s lk_0 _) _) _) _) _) ?_
        refine r_iter (P := fun (a140 : Int32 × Obj) o => VO Z G b 5 (fun (r : Int32 × Obj) => QX Z b (qI G b r.1 (mx (va_up XX io r.2) YY))) (mx (va_up XX io a140.2) YY) 140 [some (.ref (b + io)), none, some (.int v2), none, some (.int a140.1)] [] o) (E := fun (e_140 : Obj) o => VO Z G b 5 (fun (r : Int32 × Obj) => QX Z b (qI G b r.1 (mx (va_up XX io r.2) YY))) (mx (va_up XX io e_140) YY) 156 [none, none, none, none, none] [] o) (fun _ => r_none) (fun K hc hx => wBk_liveLine_L140 ok ho hr_q (K := K) hc hx) (fun e12 => ?_) FU ((0 : Int32), sc)
        refine r_iconst (pc := 156) ok (0 : Int32) dX0_liveLine_156 ci_0 ?_
        exact r_iret (pc := 157) ok dX0_liveLine_157 rfl
      · refine r_bipush (pc := 134) ok (51 : Int32) dX0_liveLine_134 cb_51 ?_
        exact r_iret (pc := 136) ok dX0_liveLine_136 rfl
    · exact absurd h9 hs1
    · exact absurd h9 hs2
    · exact absurd h9 hs3
    · exact absurd h9 hs4
theorem tBk_liveLine {l : Launch} {G : Gx} {b : Nat} {io : Nat} {XX YY : Nat → Obj} {q : Obj} {sc : Obj} {v1 : Int32} {v2 : Int32} {v3 : Int32} (ho : isSc io) (hr_q : XX (qid io) = q) {r : Int32 × Obj} (hr : fBk_liveLine q sc v1 v2 v3 = some r) : MetG l G b yX0_liveLine cX0_liveLine 5 (some .int) 5 [.ref (b + io), .int v1, .int v2, .int v3] (mx (va_up XX io sc) YY) (qI G b r.1 (mx (va_up XX io r.2) YY)) := by
  refine met_start [some (.ref (b + io)), some (.int v1), some (.int v2), some (.int v3), none] (by decide +kernel) (Nat.le_of_ble_eq_true rfl) rfl (fun Z hl ok => ?_)
  clear hl
  exact vBk_liveLine ok ho hr_q r (by rw [hr]; rfl)
