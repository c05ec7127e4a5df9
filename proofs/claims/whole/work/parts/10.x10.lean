theorem wTa_addFour_L3 {Z : Cx} {G : Gx} {b : Nat} {XX YY : Nat → Obj} {v1 : Int32} (ok : OK Z G b cX10_addFour 3 0 RX10 none) {K : ((Int32 × Obj) ⊕ (Obj)) → Option (Obj)} (hc : ∀ (a : Int32 × Obj), VO Z G b 3 (fun (r : Obj) => QX Z b (qV G b (mx (va_up XX 1 r) YY))) (mx (va_up XX 1 a.2) YY) 3 [some (.ref (b + 1)), some (.int v1), some (.int a.1)] [] (K (.inl a))) (hx : ∀ (e : Obj), VO Z G b 3 (fun (r : Obj) => QX Z b (qV G b (mx (va_up XX 1 r) YY))) (mx (va_up XX 1 e) YY) 46 [none, none, none] [] (K (.inr e))) : ∀ (a : Int32 × Obj), VO Z G b 3 (fun (r : Obj) => QX Z b (qV G b (mx (va_up XX 1 r) YY))) (mx (va_up XX 1 a.2) YY) 3 [some (.ref (b + 1)), some (.int v1), some (.int a.1)] [] ((fTa_addFour_L3 v1 a).bind K) := by
  intro a
  unfold fTa_addFour_L3
  refine r_iload_n (pc := 3) ok dX10_addFour_3 rfl ?_
  refine r_if_lt (pc := 4) ok 46 dX10_addFour_4 rfl (fun _ => ?_) (fun _ => ?_)
  · refine r_lv (lk_n (lk_n (lk_n lk_0 _) _) _) ?_
    exact hx a.2
  · refine r_aload_n (pc := 7) ok dX10_addFour_7 rfl ?_
    refine r_getI (pc := 8) ok cls10 sh_1 (k := 1) rfl (Nat.le_of_ble_eq_true rfl) (mx_l (Nat.le_of_ble_eq_true rfl) (va_up_self _ _ _)) dX10_addFour_8 fl_Ta_43 ?_
    refine r_sipush (pc := 11) ok (940 : Int32) dX10_addFour_11 cs_940 ?_
    refine r_icmp_ge (pc := 14) ok 46 dX10_addFour_14 rfl (fun _ => ?_) (fun _ => ?_)
    · refine r_lv (lk_n (lk_n (lk_n lk_0 _) _) _) ?_
      exact hx a.2
    · refine r_aload_n (pc := 17) ok dX10_addFour_17 rfl ?_
      refine r_getR (pc := 18) ok cls10 sh_1 (k := 7) rfl (Nat.le_of_ble_eq_true rfl) rfl dX10_addFour_18 fl_Ta_19 ?_
      refine r_aload_n (pc := 21) ok dX10_addFour_21 rfl ?_
      refine r_getI (pc := 22) ok cls10 sh_1 (k := 1) rfl (Nat.le_of_ble_eq_true rfl) (mx_l (Nat.le_of_ble_eq_true rfl) (va_up_self _ _ _)) dX10_addFour_22 fl_Ta_43 ?_
      refine r_iload_n (pc := 25) ok dX10_addFour_25 rfl ?_
      refine r_iload_n (pc := 26) ok dX10_addFour_26 rfl ?_
      refine r_ishr (pc := 27) ok dX10_addFour_27 ?_
      refine r_i2b (pc := 28) ok dX10_addFour_28 ?_
      refine r_bast (pc := 29) ok sh_3 (j := 2) rfl rfl (fun s_ => mx (va_up XX 1 s_) YY) (pm_l (Nat.le_of_ble_eq_true rfl) (pm_0 _ _)).1 (pm_l (Nat.le_of_ble_eq_true rfl) (pm_0 _ _)).2 dX10_addFour_29 (fun i1 s2 => ?_)
      refine r_aload_n (pc := 30) ok dX10_addFour_30 rfl ?_
      refine r_dup (pc := 31) ok dX10_addFour_31 rfl ?_
      refine r_getI (pc := 32) ok cls10 sh_1 (k := 1) rfl (Nat.le_of_ble_eq_true rfl) (mx_l (Nat.le_of_ble_eq_true rfl) (va_up_self _ _ _)) dX10_addFour_32 fl_Ta_43 ?_
      refine r_iconst (pc := 35) ok (1 : Int32) dX10_addFour_35 ci_1 ?_
      refine r_iadd (pc := 36) ok dX10_addFour_36 ?_
      refine r_putI (pc := 37) ok cls10 sh_1 (k := 1) rfl (Nat.le_of_ble_eq_true rfl) (fun s_ => mx (va_up XX 1 s_) YY) (pm_l (Nat.le_of_ble_eq_true rfl) (pm_0 _ _)).1 (pm_l (Nat.le_of_ble_eq_true rfl) (pm_0 _ _)).2 rfl rfl rfl dX10_addFour_37 fl_Ta_43 (fun s3 => ?_)
      refine r_iinc (pc := 40) ok (-8 : Int32) dX10_addFour_40 ci_m8 rfl (Nat.le_of_ble_eq_true rfl) rfl ?_
      refine r_goto (pc := 43) ok 3 dX10_addFour_43 rfl ?_
      exact hc ((a.1 + (-8 : Int32)), s3)
theorem vTa_addFour {Z : Cx} {G : Gx} {b : Nat} {XX YY : Nat → Obj} {ta : Obj} {v1 : Int32} (ok : OK Z G b cX10_addFour 3 0 RX10 none) : VO Z G b 3 (fun (r : Obj) => QX Z b (qV G b (mx (va_up XX 1 r) YY))) (mx (va_up XX 1 ta) YY) 0 [some (.ref (b + 1)), some (.int v1), none] [] ((fTa_addFour ta v1).bind some) := by
  unfold fTa_addFour
  refine r_bipush (pc := 0) ok (24 : Int32) dX10_addFour_0 cb_24 ?_
  refine r_istore_n (pc := 2) ok dX10_addFour_2 (Nat.le_of_ble_eq_true rfl) rfl ?_
  refine r_iter (P := fun (a3 : Int32 × Obj) o => VO Z G b 3 (fun (r : Obj) => QX Z b (qV G b (mx (va_up XX 1 r) YY))) (mx (va_up XX 1 a3.2) YY) 3 [some (.ref (b + 1)), some (.int v1), some (.int a3.1)] [] o) (E := fun (e_3 : Obj) o => VO Z G b 3 (fun (r : Obj) => QX Z b (qV G b (mx (va_up XX 1 r) YY))) (mx (va_up XX 1 e_3) YY) 46 [none, none, none] [] o) (fun _ => r_none) (fun K hc hx => wTa_addFour_L3 ok (K := K) hc hx) (fun e4 => ?_) FU ((24 : Int32), ta)
  exact r_vret (pc := 46) ok dX10_addFour_46 rfl
theorem tTa_addFour {l : Launch} {G : Gx} {b : Nat} {XX YY : Nat → Obj} {ta : Obj} {v1 : Int32} {r : Obj} (hr : fTa_addFour ta v1 = some r) : MetG l G b yX10_addFour cX10_addFour 3 none 0 [.ref (b + 1), .int v1] (mx (va_up XX 1 ta) YY) (qV G b (mx (va_up XX 1 r) YY)) := by
  refine met_start [some (.ref (b + 1)), some (.int v1), none] (by decide +kernel) (Nat.le_of_ble_eq_true rfl) rfl (fun Z hl ok => ?_)
  clear hl
  exact vTa_addFour ok r (by rw [hr]; rfl)
theorem vKL_feed {Z : Cx} {G : Gx} {b : Nat} {YY : Nat → Obj} {X : Nat → Obj} {v1 : Int32} {v2 : Int32} {v3 : Int32} {v4 : Int32} {v5 : Int32} (ok : OK Z G b cX11_feed 6 1 RX11 (some .int)) : VO Z G b 6 (fun (r : Int32 × (Nat → Obj)) => QX Z b (qI G b r.1 (mx r.2 YY))) (mx X YY) 0 [some (.ref (b + 0)), some (.int v1), some (.int v2), some (.int v3), some (.int v4), some (.int v5)] [] ((fKL_feed X v1 v2 v3 v4 v5).bind some) := by
  unfold fKL_feed
  refine r_aload_n (pc := 0) ok dX11_feed_0 rfl ?_
  refine r_getR (pc := 1) ok cls11 sh_0 (k := 0) rfl (Nat.le_of_ble_eq_true rfl) rfl dX11_feed_1 fl_KL_10 ?_
  refine r_getI (pc := 4) ok cls10 sh_1 (k := 1) rfl (Nat.le_of_ble_eq_true rfl) (mx_l (Nat.le_of_ble_eq_true rfl) rfl) dX11_feed_4 fl_KL_104 ?_
  refine r_bipush (pc := 7) ok (20 : Int32) dX11_feed_7 cb_20 ?_
  refine r_iadd (pc := 9) ok dX11_feed_9 ?_
  refine r_sipush (pc := 10) ok (940 : Int32) dX11_feed_10 cs_940 ?_
  refine r_icmp_le (pc := 13) ok 18 dX11_feed_13 rfl (fun _ => ?_) (fun _ => ?_)
  · refine r_aload_n (pc := 18) ok dX11_feed_18 rfl ?_
    refine r_getR (pc := 19) ok cls11 sh_0 (k := 0) rfl (Nat.le_of_ble_eq_true rfl) rfl dX11_feed_19 fl_KL_10 ?_
    refine r_iload_n (pc := 22) ok dX11_feed_22 rfl ?_
    refine k_V (pc := 23)  (fun r1 => mx ((va_up X 1 r1)) YY) (fun r1 hr_ => c_V (n := 1) ok cls10 sh_1 rfl ml_KL_107 wv_X10_addFour yk_X10_addFour rfl (Nat.le_of_ble_eq_true rfl) (Nat.le_of_ble_eq_true rfl) (met_cast (by rw [up_eta]) rfl (tTa_addFour hr_)) rfl (Nat.le_of_ble_eq_true rfl) dX11_feed_23) (fun r1 => ?_)
    refine r_bndX (wf := (fun x_ => mx x_ YY)) (fun X2 => ?_)
    refine r_aload_n (pc := 26) ok dX11_feed_26 rfl ?_
    refine r_getR (pc := 27) ok cls11 sh_0 (k := 0) rfl (Nat.le_of_ble_eq_true rfl) rfl dX11_feed_27 fl_KL_10 ?_
    refine r_iload_n (pc := 30) ok dX11_feed_30 rfl ?_
    refine k_V (pc := 31)  (fun r3 => mx ((va_up X2 1 r3)) YY) (fun r3 hr_ => c_V (n := 1) ok cls10 sh_1 rfl ml_KL_107 wv_X10_addFour yk_X10_addFour rfl (Nat.le_of_ble_eq_true rfl) (Nat.le_of_ble_eq_true rfl) (met_cast (by rw [up_eta]) rfl (tTa_addFour hr_)) rfl (Nat.le_of_ble_eq_true rfl) dX11_feed_31) (fun r3 => ?_)
    refine r_bndX (wf := (fun x_ => mx x_ YY)) (fun X4 => ?_)
    refine r_aload_n (pc := 34) ok dX11_feed_34 rfl ?_
    refine r_getR (pc := 35) ok cls11 sh_0 (k := 0) rfl (Nat.le_of_ble_eq_true rfl) rfl dX11_feed_35 fl_KL_10 ?_
    refine r_iload_n (pc := 38) ok dX11_feed_38 rfl ?_
    refine k_V (pc := 39)  (fun r5 => mx ((va_up X4 1 r5)) YY) (fun r5 hr_ => c_V (n := 1) ok cls10 sh_1 rfl ml_KL_107 wv_X10_addFour yk_X10_addFour rfl (Nat.le_of_ble_eq_true rfl) (Nat.le_of_ble_eq_true rfl) (met_cast (by rw [up_eta]) rfl (tTa_addFour hr_)) rfl (Nat.le_of_ble_eq_true rfl) dX11_feed_39) (fun r5 => ?_)
    refine r_bndX (wf := (fun x_ => mx x_ YY)) (fun X6 => ?_)
    refine r_aload_n (pc := 42) ok dX11_feed_42 rfl ?_
    refine r_getR (pc := 43) ok cls11 sh_0 (k := 0) rfl (Nat.le_of_ble_eq_true rfl) rfl dX11_feed_43 fl_KL_10 ?_
    refine r_iload (pc := 46) ok dX11_feed_46 rfl ?_
    refine k_V (pc := 48)  (fun r7 => mx ((va_up X6 1 r7)) YY) (fun r7 hr_ => c_V (n := 1) ok cls10 sh_1 rfl ml_KL_107 wv_X10_addFour yk_X10_addFour rfl (Nat.le_of_ble_eq_true rfl) (Nat.le_of_ble_eq_true rfl) (met_cast (by rw [up_eta]) rfl (tTa_addFour hr_)) rfl (Nat.le_of_ble_eq_true rfl) dX11_feed_48) (fun r7 => ?_)
    refine r_bndX (wf := (fun x_ => mx x_ YY)) (fun X8 => ?_)
    refine r_aload_n (pc := 51) ok dX11_feed_51 rfl ?_
    refine r_getR (pc := 52) ok cls11 sh_0 (k := 0) rfl (Nat.le_of_ble_eq_true rfl) rfl dX11_feed_52 fl_KL_10 ?_
    refine r_iload (pc := 55) ok dX11_feed_55 rfl ?_
    refine k_V (pc := 57)  (fun r9 => mx ((va_up X8 1 r9)) YY) (fun r9 hr_ => c_V (n := 1) ok cls10 sh_1 rfl ml_KL_107 wv_X10_addFour yk_X10_addFour rfl (Nat.le_of_ble_eq_true rfl) (Nat.le_of_ble_eq_true rfl) (met_cast (by rw [up_eta]) rfl (tTa_addFour hr_)) rfl (Nat.le_of_ble_eq_true rfl) dX11_feed_57) (fun r9 => ?_)
    refine r_bndX (wf := (fun x_ => mx x_ YY)) (fun X10 => ?_)
    refine r_aload_n (pc := 60) ok dX11_feed_60 rfl ?_
    refine r_getR (pc := 61) ok cls11 sh_0 (k := 0) rfl (Nat.le_of_ble_eq_true rfl) rfl dX11_feed_61 fl_KL_10 ?_
    refine r_getI (pc := 64) ok cls10 sh_1 (k := 1) rfl (Nat.le_of_ble_eq_true rfl) (mx_l (Nat.le_of_ble_eq_true rfl) rfl) dX11_feed_64 fl_KL_104 ?_
    exact r_iret (pc := 67) ok dX11_feed_67 rfl
  · refine r_iconst (pc := 16) ok (-1 : Int32) dX11_feed_16 ci_m1 ?_
    exact r_iret (pc := 17) ok dX11_feed_17 rfl
theorem tKL_feed {l : Launch} {G : Gx} {b : Nat} {YY : Nat → Obj} {X : Nat → Obj} {v1 : Int32} {v2 : Int32} {v3 : Int32} {v4 : Int32} {v5 : Int32} {r : Int32 × (Nat → Obj)} (hr : fKL_feed X v1 v2 v3 v4 v5 = some r) : MetG l G b yX11_feed cX11_feed 6 (some .int) 1 [.ref (b + 0), .int v1, .int v2, .int v3, .int v4, .int v5] (mx X YY) (qI G b r.1 (mx r.2 YY)) := by
  refine met_start [some (.ref (b + 0)), some (.int v1), some (.int v2), some (.int v3), some (.int v4), some (.int v5)] (by decide +kernel) (Nat.le_of_ble_eq_true rfl) rfl (fun Z hl ok => ?_)
  clear hl
  exact vKL_feed ok r (by rw [hr]; rfl)
theorem vKL_end {Z : Cx} {G : Gx} {b : Nat} {YY : Nat → Obj} {X : Nat → Obj} {v1 : Int32} (ok : OK Z G b cX11_end 2 0 RX11 (some .boolean)) : VO Z G b 2 (fun (r : Int32 × (Nat → Obj)) => QX Z b (qI G b r.1 (mx r.2 YY))) (mx X YY) 0 [some (.ref (b + 0)), some (.int v1)] [] ((fKL_end X v1).bind some) := by
  unfold fKL_end
  refine r_iload_n (pc := 0) ok dX11_end_0 rfl ?_
  refine r_if_lt (pc := 1) ok 15 dX11_end_1 rfl (fun _ => ?_) (fun _ => ?_)
  · refine r_iconst (pc := 15) ok (0 : Int32) dX11_end_15 ci_0 ?_
    exact r_zret (pc := 16) ok dX11_end_16 za_0 rfl
  · refine r_iload_n (pc := 4) ok dX11_end_4 rfl ?_
    refine r_aload_n (pc := 5) ok dX11_end_5 rfl ?_
    refine r_getR (pc := 6) ok cls11 sh_0 (k := 0) rfl (Nat.le_of_ble_eq_true rfl) rfl dX11_end_6 fl_KL_10 ?_
    refine r_getI (pc := 9) ok cls10 sh_1 (k := 1) rfl (Nat.le_of_ble_eq_true rfl) (mx_l (Nat.le_of_ble_eq_true rfl) rfl) dX11_end_9 fl_KL_104 ?_
    refine r_icmp_le (pc := 12) ok 17 dX11_end_12 rfl (fun _ => ?_) (fun _ => ?_)
    · refine r_aload_n (pc := 17) ok dX11_end_17 rfl ?_
      refine r_getR (pc := 18) ok cls11 sh_0 (k := 0) rfl (Nat.le_of_ble_eq_true rfl) rfl dX11_end_18 fl_KL_10 ?_
      refine r_iload_n (pc := 21) ok dX11_end_21 rfl ?_
      refine r_putG (pc := 22) ok cls10 sh_1 (k := 1) rfl (Nat.le_of_ble_eq_true rfl) (Nat.le_of_ble_eq_true rfl) rfl rfl rfl dX11_end_22 fl_KL_104 (fun X1 => ?_)
      refine r_iconst (pc := 25) ok (1 : Int32) dX11_end_25 ci_1 ?_
      exact r_zret (pc := 26) ok dX11_end_26 za_1 rfl
    · refine r_iconst (pc := 15) ok (0 : Int32) dX11_end_15 ci_0 ?_
      exact r_zret (pc := 16) ok dX11_end_16 za_0 rfl
theorem tKL_end {l : Launch} {G : Gx} {b : Nat} {YY : Nat → Obj} {X : Nat → Obj} {v1 : Int32} {r : Int32 × (Nat → Obj)} (hr : fKL_end X v1 = some r) : MetG l G b yX11_end cX11_end 2 (some .boolean) 0 [.ref (b + 0), .int v1] (mx X YY) (qI G b r.1 (mx r.2 YY)) := by
  refine met_start [some (.ref (b + 0)), some (.int v1)] (by decide +kernel) (Nat.le_of_ble_eq_true rfl) rfl (fun Z hl ok => ?_)
  clear hl
  exact vKL_end ok r (by rw [hr]; rfl)
theorem vQu_clear {Z : Cx} {G : Gx} {b : Nat} {iq : Nat} {XX YY : Nat → Obj} {q : Obj} (ok : OK Z G b cX5_clear 1 0 RX5 none) (hq : isQu iq) : VO Z G b 1 (fun (r : Obj) => QX Z b (qV G b (mx (va_up XX iq r) YY))) (mx (va_up XX iq q) YY) 0 [some (.ref (b + iq))] [] ((fQu_clear q).bind some) := by
  unfold fQu_clear
  refine r_aload_n (pc := 0) ok dX5_clear_0 rfl ?_
  refine r_bipush (pc := 1) ok (10 : Int32) dX5_clear_1 cb_10 ?_
  refine r_putI (pc := 3) ok cls5 (qu_sh hq) (k := 0) rfl (Nat.le_of_ble_eq_true rfl) (fun s_ => mx (va_up XX iq s_) YY) (pm_l (qu_lt hq) (pm_0 _ _)).1 (pm_l (qu_lt hq) (pm_0 _ _)).2 rfl rfl rfl dX5_clear_3 fl_Qu_9 (fun s1 => ?_)
  refine r_aload_n (pc := 6) ok dX5_clear_6 rfl ?_
  refine r_iconst (pc := 7) ok (2 : Int32) dX5_clear_7 ci_2 ?_
  refine r_putI (pc := 8) ok cls5 (qu_sh hq) (k := 1) rfl (Nat.le_of_ble_eq_true rfl) (fun s_ => mx (va_up XX iq s_) YY) (pm_l (qu_lt hq) (pm_0 _ _)).1 (pm_l (qu_lt hq) (pm_0 _ _)).2 rfl rfl rfl dX5_clear_8 fl_Qu_15 (fun s2 => ?_)
  refine r_aload_n (pc := 11) ok dX5_clear_11 rfl ?_
  refine r_iconst (pc := 12) ok (3 : Int32) dX5_clear_12 ci_3 ?_
  refine r_putI (pc := 13) ok cls5 (qu_sh hq) (k := 2) rfl (Nat.le_of_ble_eq_true rfl) (fun s_ => mx (va_up XX iq s_) YY) (pm_l (qu_lt hq) (pm_0 _ _)).1 (pm_l (qu_lt hq) (pm_0 _ _)).2 rfl rfl rfl dX5_clear_13 fl_Qu_18 (fun s3 => ?_)
  refine r_aload_n (pc := 16) ok dX5_clear_16 rfl ?_
  refine r_iconst (pc := 17) ok (0 : Int32) dX5_clear_17 ci_0 ?_
  refine r_putI (pc := 18) ok cls5 (qu_sh hq) (k := 3) rfl (Nat.le_of_ble_eq_true rfl) (fun s_ => mx (va_up XX iq s_) YY) (pm_l (qu_lt hq) (pm_0 _ _)).1 (pm_l (qu_lt hq) (pm_0 _ _)).2 rfl rfl rfl dX5_clear_18 fl_Qu_41 (fun s4 => ?_)
  refine r_aload_n (pc := 21) ok dX5_clear_21 rfl ?_
  refine r_iconst (pc := 22) ok (0 : Int32) dX5_clear_22 ci_0 ?_
  refine r_putI (pc := 23) ok cls5 (qu_sh hq) (k := 4) rfl (Nat.le_of_ble_eq_true rfl) (fun s_ => mx (va_up XX iq s_) YY) (pm_l (qu_lt hq) (pm_0 _ _)).1 (pm_l (qu_lt hq) (pm_0 _ _)).2 rfl rfl rfl dX5_clear_23 fl_Qu_44 (fun s5 => ?_)
  exact r_vret (pc := 26) ok dX5_clear_26 rfl
theorem tQu_clear {l : Launch} {G : Gx} {b : Nat} {iq : Nat} {XX YY : Nat → Obj} {q : Obj} (hq : isQu iq) {r : Obj} (hr : fQu_clear q = some r) : MetG l G b yX5_clear cX5_clear 1 none 0 [.ref (b + iq)] (mx (va_up XX iq q) YY) (qV G b (mx (va_up XX iq r) YY)) := by
  refine met_start [some (.ref (b + iq))] (by decide +kernel) (Nat.le_of_ble_eq_true rfl) rfl (fun Z hl ok => ?_)
  clear hl
  exact vQu_clear ok hq r (by rw [hr]; rfl)
theorem vSc_clear {Z : Cx} {G : Gx} {b : Nat} {io : Nat} {XX YY : Nat → Obj} {sc : Obj} (ok : OK Z G b cX8_clear 1 0 RX8 none) (ho : isSc io) : VO Z G b 1 (fun (r : Obj) => QX Z b (qV G b (mx (va_up XX io r) YY))) (mx (va_up XX io sc) YY) 0 [some (.ref (b + io))] [] ((fSc_clear sc).bind some) := by
  unfold fSc_clear
  refine r_aload_n (pc := 0) ok dX8_clear_0 rfl ?_
  refine r_iconst (pc := 1) ok (0 : Int32) dX8_clear_1 ci_0 ?_
  refine r_putI (pc := 2) ok cls8 (sc_sh ho) (k := 1) rfl (Nat.le_of_ble_eq_true rfl) (fun s_ => mx (va_up XX io s_) YY) (pm_l (sc_lt ho) (pm_0 _ _)).1 (pm_l (sc_lt ho) (pm_0 _ _)).2 rfl rfl rfl dX8_clear_2 fl_Sc_46 (fun s1 => ?_)
  refine r_aload_n (pc := 5) ok dX8_clear_5 rfl ?_
  refine r_iconst (pc := 6) ok (0 : Int32) dX8_clear_6 ci_0 ?_
  refine r_putI (pc := 7) ok cls8 (sc_sh ho) (k := 2) rfl (Nat.le_of_ble_eq_true rfl) (fun s_ => mx (va_up XX io s_) YY) (pm_l (sc_lt ho) (pm_0 _ _)).1 (pm_l (sc_lt ho) (pm_0 _ _)).2 rfl rfl rfl dX8_clear_7 fl_Sc_50 (fun s2 => ?_)
  refine r_aload_n (pc := 10) ok dX8_clear_10 rfl ?_
  refine r_iconst (pc := 11) ok (0 : Int32) dX8_clear_11 ci_0 ?_
  refine r_putI (pc := 12) ok cls8 (sc_sh ho) (k := 3) rfl (Nat.le_of_ble_eq_true rfl) (fun s_ => mx (va_up XX io s_) YY) (pm_l (sc_lt ho) (pm_0 _ _)).1 (pm_l (sc_lt ho) (pm_0 _ _)).2 rfl rfl rfl dX8_clear_12 fl_Sc_53 (fun s3 => ?_)
  exact r_vret (pc := 15) ok dX8_clear_15 rfl
theorem tSc_clear {l : Launch} {G : Gx} {b : Nat} {io : Nat} {XX YY : Nat → Obj} {sc : Obj} (ho : isSc io) {r : Obj} (hr : fSc_clear sc = some r) : MetG l G b yX8_clear cX8_clear 1 none 0 [.ref (b + io)] (mx (va_up XX io sc) YY) (qV G b (mx (va_up XX io r) YY)) := by
  refine met_start [some (.ref (b + io))] (by decide +kernel) (Nat.le_of_ble_eq_true rfl) rfl (fun Z hl ok => ?_)
  clear hl
  exact vSc_clear ok ho r (by rw [hr]; rfl)
theorem vTa_byteOf {Z : Cx} {G : Gx} {b : Nat} {XX YY : Nat → Obj} {ta : Obj} {v1 : Int32} (ok : OK Z G b cX10_byteOf 2 0 RX10 (some .int)) (hr_ta : XX 1 = ta) : VO Z G b 2 (fun (r : Int32) => QX Z b (qI G b r (mx XX YY))) (mx XX YY) 0 [some (.ref (b + 1)), some (.int v1)] [] ((fTa_byteOf ta v1).bind some) := by
  unfold fTa_byteOf
  refine r_iload_n (pc := 0) ok dX10_byteOf_0 rfl ?_
  refine r_if_lt (pc := 1) ok 32 dX10_byteOf_1 rfl (fun _ => ?_) (fun _ => ?_)
  · refine r_iconst (pc := 32) ok (-1 : Int32) dX10_byteOf_32 ci_m1 ?_
    exact r_iret (pc := 33) ok dX10_byteOf_33 rfl
  · refine r_iload_n (pc := 4) ok dX10_byteOf_4 rfl ?_
    refine r_aload_n (pc := 5) ok dX10_byteOf_5 rfl ?_
    refine r_getI (pc := 6) ok cls10 sh_1 (k := 1) rfl (Nat.le_of_ble_eq_true rfl) (mx_l (Nat.le_of_ble_eq_true rfl) (hr_ta)) dX10_byteOf_6 fl_Ta_43 ?_
    refine r_icmp_ge (pc := 9) ok 32 dX10_byteOf_9 rfl (fun _ => ?_) (fun _ => ?_)
    · refine r_iconst (pc := 32) ok (-1 : Int32) dX10_byteOf_32 ci_m1 ?_
      exact r_iret (pc := 33) ok dX10_byteOf_33 rfl
    · refine r_iload_n (pc := 12) ok dX10_byteOf_12 rfl ?_
      refine r_sipush (pc := 13) ok (940 : Int32) dX10_byteOf_13 cs_940 ?_
      refine r_icmp_ge (pc := 16) ok 32 dX10_byteOf_16 rfl (fun _ => ?_) (fun _ => ?_)
      · refine r_iconst (pc := 32) ok (-1 : Int32) dX10_byteOf_32 ci_m1 ?_
        exact r_iret (pc := 33) ok dX10_byteOf_33 rfl
      · refine r_aload_n (pc := 19) ok dX10_byteOf_19 rfl ?_
        refine r_getR (pc := 20) ok cls10 sh_1 (k := 7) rfl (Nat.le_of_ble_eq_true rfl) rfl dX10_byteOf_20 fl_Ta_19 ?_
        refine r_iload_n (pc := 23) ok dX10_byteOf_23 rfl ?_
        refine r_bald (pc := 24) ok sh_3 (j := 2) rfl (mx_l (Nat.le_of_ble_eq_true rfl) (hr_ta)) dX10_byteOf_24 (fun i1 => ?_)
        refine r_sipush (pc := 25) ok (255 : Int32) dX10_byteOf_25 cs_255 ?_
        refine r_iand (pc := 28) ok dX10_byteOf_28 ?_
        refine r_goto (pc := 29) ok 33 dX10_byteOf_29 rfl ?_
        exact r_iret (pc := 33) ok dX10_byteOf_33 rfl
theorem tTa_byteOf {l : Launch} {G : Gx} {b : Nat} {XX YY : Nat → Obj} {ta : Obj} {v1 : Int32} (hr_ta : XX 1 = ta) {r : Int32} (hr : fTa_byteOf ta v1 = some r) : MetG l G b yX10_byteOf cX10_byteOf 2 (some .int) 0 [.ref (b + 1), .int v1] (mx XX YY) (qI G b r (mx XX YY)) := by
  refine met_start [some (.ref (b + 1)), some (.int v1)] (by decide +kernel) (Nat.le_of_ble_eq_true rfl) rfl (fun Z hl ok => ?_)
  clear hl
  exact vTa_byteOf ok hr_ta r (by rw [hr]; rfl)
theorem vTa_isBlank {Z : Cx} {G : Gx} {b : Nat} {XX YY : Nat → Obj} {v0 : Int32} (ok : OK Z G b cX10_isBlank 1 0 RX10 (some .boolean)) : VO Z G b 1 (fun (r : Int32) => QX Z b (qI G b r (mx XX YY))) (mx XX YY) 0 [some (.int v0)] [] ((fTa_isBlank v0).bind some) := by
  unfold fTa_isBlank
  refine r_iload_n (pc := 0) ok dX10_isBlank_0 rfl ?_
  refine r_bipush (pc := 1) ok (32 : Int32) dX10_isBlank_1 cb_32 ?_
  refine r_icmp_eq (pc := 3) ok 12 dX10_isBlank_3 rfl (fun _ => ?_) (fun _ => ?_)
  · refine r_iconst (pc := 12) ok (1 : Int32) dX10_isBlank_12 ci_1 ?_
    refine r_goto (pc := 13) ok 17 dX10_isBlank_13 rfl ?_
    exact r_zret (pc := 17) ok dX10_isBlank_17 za_1 rfl
  · refine r_iload_n (pc := 6) ok dX10_isBlank_6 rfl ?_
    refine r_bipush (pc := 7) ok (10 : Int32) dX10_isBlank_7 cb_10 ?_
    refine r_icmp_ne (pc := 9) ok 16 dX10_isBlank_9 rfl (fun _ => ?_) (fun _ => ?_)
    · refine r_iconst (pc := 12) ok (1 : Int32) dX10_isBlank_12 ci_1 ?_
      refine r_goto (pc := 13) ok 17 dX10_isBlank_13 rfl ?_
      exact r_zret (pc := 17) ok dX10_isBlank_17 za_1 rfl
    · refine r_iconst (pc := 16) ok (0 : Int32) dX10_isBlank_16 ci_0 ?_
      exact r_zret (pc := 17) ok dX10_isBlank_17 za_0 rfl
theorem tTa_isBlank {l : Launch} {G : Gx} {b : Nat} {XX YY : Nat → Obj} {v0 : Int32} {r : Int32} (hr : fTa_isBlank v0 = some r) : MetG l G b yX10_isBlank cX10_isBlank 1 (some .boolean) 0 [.int v0] (mx XX YY) (qI G b r (mx XX YY)) := by
  refine met_start [some (.int v0)] (by decide +kernel) (Nat.le_of_ble_eq_true rfl) rfl (fun Z hl ok => ?_)
  clear hl
  exact vTa_isBlank ok r (by rw [hr]; rfl)
theorem vTa_isSign {Z : Cx} {G : Gx} {b : Nat} {XX YY : Nat → Obj} {v0 : Int32} (ok : OK Z G b cX10_isSign 1 0 RX10 (some .boolean)) : VO Z G b 1 (fun (r : Int32) => QX Z b (qI G b r (mx XX YY))) (mx XX YY) 0 [some (.int v0)] [] ((fTa_isSign v0).bind some) := by
  unfold fTa_isSign
  refine r_iload_n (pc := 0) ok dX10_isSign_0 rfl ?_
  refine r_bipush (pc := 1) ok (59 : Int32) dX10_isSign_1 cb_59 ?_
  refine r_icmp_eq (pc := 3) ok 36 dX10_isSign_3 rfl (fun _ => ?_) (fun _ => ?_)
  · refine r_iconst (pc := 36) ok (1 : Int32) dX10_isSign_36 ci_1 ?_
    refine r_goto (pc := 37) ok 41 dX10_isSign_37 rfl ?_
    exact r_zret (pc := 41) ok dX10_isSign_41 za_1 rfl
  · refine r_iload_n (pc := 6) ok dX10_isSign_6 rfl ?_
    refine r_bipush (pc := 7) ok (60 : Int32) dX10_isSign_7 cb_60 ?_
    refine r_icmp_eq (pc := 9) ok 36 dX10_isSign_9 rfl (fun _ => ?_) (fun _ => ?_)
    · refine r_iconst (pc := 36) ok (1 : Int32) dX10_isSign_36 ci_1 ?_
      refine r_goto (pc := 37) ok 41 dX10_isSign_37 rfl ?_
      exact r_zret (pc := 41) ok dX10_isSign_41 za_1 rfl
    · refine r_iload_n (pc := 12) ok dX10_isSign_12 rfl ?_
      refine r_bipush (pc := 13) ok (61 : Int32) dX10_isSign_13 cb_61 ?_
      refine r_icmp_eq (pc := 15) ok 36 dX10_isSign_15 rfl (fun _ => ?_) (fun _ => ?_)
      · refine r_iconst (pc := 36) ok (1 : Int32) dX10_isSign_36 ci_1 ?_
        refine r_goto (pc := 37) ok 41 dX10_isSign_37 rfl ?_
        exact r_zret (pc := 41) ok dX10_isSign_41 za_1 rfl
      · refine r_iload_n (pc := 18) ok dX10_isSign_18 rfl ?_
        refine r_bipush (pc := 19) ok (62 : Int32) dX10_isSign_19 cb_62 ?_
        refine r_icmp_eq (pc := 21) ok 36 dX10_isSign_21 rfl (fun _ => ?_) (fun _ => ?_)
        · refine r_iconst (pc := 36) ok (1 : Int32) dX10_isSign_36 ci_1 ?_
          refine r_goto (pc := 37) ok 41 dX10_isSign_37 rfl ?_
          exact r_zret (pc := 41) ok dX10_isSign_41 za_1 rfl
        · refine r_iload_n (pc := 24) ok dX10_isSign_24 rfl ?_
          refine r_bipush (pc := 25) ok (40 : Int32) dX10_isSign_25 cb_40 ?_
          refine r_icmp_eq (pc := 27) ok 36 dX10_isSign_27 rfl (fun _ => ?_) (fun _ => ?_)
          · refine r_iconst (pc := 36) ok (1 : Int32) dX10_isSign_36 ci_1 ?_
            refine r_goto (pc := 37) ok 41 dX10_isSign_37 rfl ?_
            exact r_zret (pc := 41) ok dX10_isSign_41 za_1 rfl
          · refine r_iload_n (pc := 30) ok dX10_isSign_30 rfl ?_
            refine r_bipush (pc := 31) ok (41 : Int32) dX10_isSign_31 cb_41 ?_
            refine r_icmp_ne (pc := 33) ok 40 dX10_isSign_33 rfl (fun _ => ?_) (fun _ => ?_)
            · refine r_iconst (pc := 36) ok (1 : Int32) dX10_isSign_36 ci_1 ?_
              refine r_goto (pc := 37) ok 41 dX10_isSign_37 rfl ?_
              exact r_zret (pc := 41) ok dX10_isSign_41 za_1 rfl
            · refine r_iconst (pc := 40) ok (0 : Int32) dX10_isSign_40 ci_0 ?_
              exact r_zret (pc := 41) ok dX10_isSign_41 za_0 rfl
theorem tTa_isSign {l : Launch} {G : Gx} {b : Nat} {XX YY : Nat → Obj} {v0 : Int32} {r : Int32} (hr : fTa_isSign v0 = some r) : MetG l G b yX10_isSign cX10_isSign 1 (some .boolean) 0 [.int v0] (mx XX YY) (qI G b r (mx XX YY)) := by
  refine met_start [some (.int v0)] (by decide +kernel) (Nat.le_of_ble_eq_true rfl) rfl (fun Z hl ok => ?_)
  clear hl
  exact vTa_isSign ok r (by rw [hr]; rfl)
theorem wTa_takeRun_J79 {Z : Cx} {G : Gx} {b : Nat} {XX YY : Nat → Obj} {ta : Obj} {v1 : Int32} {v2 : Int32} {v3 : Int32} (ok : OK Z G b cX10_takeRun 4 0 RX10 none) {K : ((Int32 × Int32 × Obj) ⊕ (Int32 × Int32 × Obj)) → Option (Obj)} (hc : ∀ (a : Int32 × Int32 × Obj), VO Z G b 4 (fun (r : Obj) => QX Z b (qV G b (mx (va_up XX 1 r) YY))) (mx (va_up XX 1 a.2.2) YY) 14 [some (.ref (b + 1)), some (.int a.1), some (.int a.2.1), none] [] (K (.inl a))) (hx : ∀ (e : Int32 × Int32 × Obj), VO Z G b 4 (fun (r : Obj) => QX Z b (qV G b (mx (va_up XX 1 r) YY))) (mx (va_up XX 1 e.2.2) YY) 123 [some (.ref (b + 1)), some (.int e.1), some (.int e.2.1), none] [] (K (.inr e))) : VO Z G b 4 (fun (r : Obj) => QX Z b (qV G b (mx (va_up XX 1 r) YY))) (mx (va_up XX 1 ta) YY) 79 [some (.ref (b + 1)), some (.int v1), some (.int v2), some (.int v3)] [] ((fTa_takeRun_J79 ta v1 v2 v3).bind K) := by
  unfold fTa_takeRun_J79
  refine r_iload_n (pc := 79) ok dX10_takeRun_79 rfl ?_
  refine r_bipush (pc := 80) ok (48 : Int32) dX10_takeRun_80 cb_48 ?_
  refine r_icmp_lt (pc := 82) ok 123 dX10_takeRun_82 rfl (fun _ => ?_) (fun _ => ?_)
  · refine r_lv (lk_s (lk_s (lk_s (lk_n lk_0 _) _) _) _) ?_
    exact hx (v1, v2, ta)
  · refine r_iload_n (pc := 85) ok dX10_takeRun_85 rfl ?_
    refine r_bipush (pc := 86) ok (57 : Int32) dX10_takeRun_86 cb_57 ?_
    refine r_icmp_gt (pc := 88) ok 123 dX10_takeRun_88 rfl (fun _ => ?_) (fun _ => ?_)
    · refine r_lv (lk_s (lk_s (lk_s (lk_n lk_0 _) _) _) _) ?_
      exact hx (v1, v2, ta)
    · refine r_iinc (pc := 91) ok (1 : Int32) dX10_takeRun_91 ci_1 rfl (Nat.le_of_ble_eq_true rfl) rfl ?_
      refine r_aload_n (pc := 94) ok dX10_takeRun_94 rfl ?_
      refine r_aload_n (pc := 95) ok dX10_takeRun_95 rfl ?_
      refine r_getI (pc := 96) ok cls10 sh_1 (k := 5) rfl (Nat.le_of_ble_eq_true rfl) (mx_l (Nat.le_of_ble_eq_true rfl) (va_up_self _ _ _)) dX10_takeRun_96 fl_Ta_73 ?_
      refine r_bipush (pc := 99) ok (10 : Int32) dX10_takeRun_99 cb_10 ?_
      refine r_imul (pc := 101) ok dX10_takeRun_101 ?_
      refine r_iload_n (pc := 102) ok dX10_takeRun_102 rfl ?_
      refine r_iadd (pc := 103) ok dX10_takeRun_103 ?_
      refine r_bipush (pc := 104) ok (48 : Int32) dX10_takeRun_104 cb_48 ?_
      refine r_isub (pc := 106) ok dX10_takeRun_106 ?_
      refine r_putI (pc := 107) ok cls10 sh_1 (k := 5) rfl (Nat.le_of_ble_eq_true rfl) (fun s_ => mx (va_up XX 1 s_) YY) (pm_l (Nat.le_of_ble_eq_true rfl) (pm_0 _ _)).1 (pm_l (Nat.le_of_ble_eq_true rfl) (pm_0 _ _)).2 rfl rfl rfl dX10_takeRun_107 fl_Ta_73 (fun s5 => ?_)
      refine r_aload_n (pc := 110) ok dX10_takeRun_110 rfl ?_
      refine r_dup (pc := 111) ok dX10_takeRun_111 rfl ?_
      refine r_getI (pc := 112) ok cls10 sh_1 (k := 9) rfl (Nat.le_of_ble_eq_true rfl) (mx_l (Nat.le_of_ble_eq_true rfl) (va_up_self _ _ _)) dX10_takeRun_112 fl_Ta_50 ?_
      refine r_iconst (pc := 115) ok (1 : Int32) dX10_takeRun_115 ci_1 ?_
      refine r_iadd (pc := 116) ok dX10_takeRun_116 ?_
      refine r_putI (pc := 117) ok cls10 sh_1 (k := 9) rfl (Nat.le_of_ble_eq_true rfl) (fun s_ => mx (va_up XX 1 s_) YY) (pm_l (Nat.le_of_ble_eq_true rfl) (pm_0 _ _)).1 (pm_l (Nat.le_of_ble_eq_true rfl) (pm_0 _ _)).2 rfl rfl rfl dX10_takeRun_117 fl_Ta_50 (fun s6 => ?_)
      refine r_goto (pc := 120) ok 14 dX10_takeRun_120 rfl ?_
      refine r_lv (lk_s (lk_s (lk_s (lk_n lk_0 _) _) _) _) ?_
      exact hc (v1, (v2 + (1 : Int32)), s6)
theorem wTa_takeRun_L14 {Z : Cx} {G : Gx} {b : Nat} {XX YY : Nat → Obj} (ok : OK Z G b cX10_takeRun 4 0 RX10 none) {K : ((Int32 × Int32 × Obj) ⊕ (Int32 × Int32 × Obj)) → Option (Obj)} (hc : ∀ (a : Int32 × Int32 × Obj), VO Z G b 4 (fun (r : Obj) => QX Z b (qV G b (mx (va_up XX 1 r) YY))) (mx (va_up XX 1 a.2.2) YY) 14 [some (.ref (b + 1)), some (.int a.1), some (.int a.2.1), none] [] (K (.inl a))) (hx : ∀ (e : Int32 × Int32 × Obj), VO Z G b 4 (fun (r : Obj) => QX Z b (qV G b (mx (va_up XX 1 r) YY))) (mx (va_up XX 1 e.2.2) YY) 123 [some (.ref (b + 1)), some (.int e.1), some (.int e.2.1), none] [] (K (.inr e))) : ∀ (a : Int32 × Int32 × Obj), VO Z G b 4 (fun (r : Obj) => QX Z b (qV G b (mx (va_up XX 1 r) YY))) (mx (va_up XX 1 a.2.2) YY) 14 [some (.ref (b + 1)), some (.int a.1), some (.int a.2.1), none] [] ((fTa_takeRun_L14 a).bind K) := by
  intro a
  unfold fTa_takeRun_L14
  refine r_aload_n (pc := 14) ok dX10_takeRun_14 rfl ?_
  refine r_getI (pc := 15) ok cls10 sh_1 (k := 9) rfl (Nat.le_of_ble_eq_true rfl) (mx_l (Nat.le_of_ble_eq_true rfl) (va_up_self _ _ _)) dX10_takeRun_15 fl_Ta_50 ?_
  refine r_aload_n (pc := 18) ok dX10_takeRun_18 rfl ?_
  refine r_getI (pc := 19) ok cls10 sh_1 (k := 1) rfl (Nat.le_of_ble_eq_true rfl) (mx_l (Nat.le_of_ble_eq_true rfl) (va_up_self _ _ _)) dX10_takeRun_19 fl_Ta_43 ?_
  refine r_icmp_ge (pc := 22) ok 123 dX10_takeRun_22 rfl (fun _ => ?_) (fun _ => ?_)
  · exact hx (a.1, a.2.1, a.2.2)
  · refine r_aload_n (pc := 25) ok dX10_takeRun_25 rfl ?_
    refine r_getI (pc := 26) ok cls10 sh_1 (k := 9) rfl (Nat.le_of_ble_eq_true rfl) (mx_l (Nat.le_of_ble_eq_true rfl) (va_up_self _ _ _)) dX10_takeRun_26 fl_Ta_50 ?_
    refine r_sipush (pc := 29) ok (940 : Int32) dX10_takeRun_29 cs_940 ?_
    refine r_icmp_ge (pc := 32) ok 123 dX10_takeRun_32 rfl (fun _ => ?_) (fun _ => ?_)
    · exact hx (a.1, a.2.1, a.2.2)
    · refine r_aload_n (pc := 35) ok dX10_takeRun_35 rfl ?_
      refine r_getR (pc := 36) ok cls10 sh_1 (k := 7) rfl (Nat.le_of_ble_eq_true rfl) rfl dX10_takeRun_36 fl_Ta_19 ?_
      refine r_aload_n (pc := 39) ok dX10_takeRun_39 rfl ?_
      refine r_getI (pc := 40) ok cls10 sh_1 (k := 9) rfl (Nat.le_of_ble_eq_true rfl) (mx_l (Nat.le_of_ble_eq_true rfl) (va_up_self _ _ _)) dX10_takeRun_40 fl_Ta_50 ?_
      refine r_bald (pc := 43) ok sh_3 (j := 2) rfl (mx_l (Nat.le_of_ble_eq_true rfl) (va_up_self _ _ _)) dX10_takeRun_43 (fun i3 => ?_)
      refine r_bndI (fun x4 => ?_)
      refine r_istore_n (pc := 44) ok dX10_takeRun_44 (Nat.le_of_ble_eq_true rfl) rfl ?_
      refine r_iload_n (pc := 45) ok dX10_takeRun_45 rfl ?_
      refine r_bipush (pc := 46) ok (97 : Int32) dX10_takeRun_46 cb_97 ?_
      refine r_icmp_lt (pc := 48) ok 79 dX10_takeRun_48 rfl (fun _ => ?_) (fun _ => ?_)
      · exact wTa_takeRun_J79 ok (K := K) hc hx
      · refine r_iload_n (pc := 51) ok dX10_takeRun_51 rfl ?_
        refine r_bipush (pc := 52) ok (122 : Int32) dX10_takeRun_52 cb_122 ?_
        refine r_icmp_gt (pc := 54) ok 79 dX10_takeRun_54 rfl (fun _ => ?_) (fun _ => ?_)
        · exact wTa_takeRun_J79 ok (K := K) hc hx
        · refine r_iinc (pc := 57) ok (1 : Int32) dX10_takeRun_57 ci_1 rfl (Nat.le_of_ble_eq_true rfl) rfl ?_
          refine r_aload_n (pc := 60) ok dX10_takeRun_60 rfl ?_
          refine r_aload_n (pc := 61) ok dX10_takeRun_61 rfl ?_
          refine r_getJ (pc := 62) ok cls10 sh_1 (k := 6) rfl (Nat.le_of_ble_eq_true rfl) (mx_l (Nat.le_of_ble_eq_true rfl) (va_up_self _ _ _)) dX10_takeRun_62 fl_Ta_88 ?_
          refine r_iconst (pc := 65) ok (5 : Int32) dX10_takeRun_65 ci_5 ?_
          refine r_lshl (pc := 66) ok dX10_takeRun_66 ?_
          refine r_iload_n (pc := 67) ok dX10_takeRun_67 rfl ?_
          refine r_bipush (pc := 68) ok (96 : Int32) dX10_takeRun_68 cb_96 ?_
          refine r_isub (pc := 70) ok dX10_takeRun_70 ?_
          refine r_i2l (pc := 71) ok dX10_takeRun_71 ?_
          refine r_lor (pc := 72) ok dX10_takeRun_72 ?_
          refine r_putJ (pc := 73) ok cls10 sh_1 (k := 6) rfl (Nat.le_of_ble_eq_true rfl) (fun s_ => mx (va_up XX 1 s_) YY) (pm_l (Nat.le_of_ble_eq_true rfl) (pm_0 _ _)).1 (pm_l (Nat.le_of_ble_eq_true rfl) (pm_0 _ _)).2 rfl rfl rfl dX10_takeRun_73 fl_Ta_88 (fun s7 => ?_)
          refine r_goto (pc := 76) ok 110 dX10_takeRun_76 rfl ?_
          refine r_aload_n (pc := 110) ok dX10_takeRun_110 rfl ?_
          refine r_dup (pc := 111) ok dX10_takeRun_111 rfl ?_
          refine r_getI (pc := 112) ok cls10 sh_1 (k := 9) rfl (Nat.le_of_ble_eq_true rfl) (mx_l (Nat.le_of_ble_eq_true rfl) (va_up_self _ _ _)) dX10_takeRun_112 fl_Ta_50 ?_
          refine r_iconst (pc := 115) ok (1 : Int32) dX10_takeRun_115 ci_1 ?_
          refine r_iadd (pc := 116) ok dX10_takeRun_116 ?_
          refine r_putI (pc := 117) ok cls10 sh_1 (k := 9) rfl (Nat.le_of_ble_eq_true rfl) (fun s_ => mx (va_up XX 1 s_) YY) (pm_l (Nat.le_of_ble_eq_true rfl) (pm_0 _ _)).1 (pm_l (Nat.le_of_ble_eq_true rfl) (pm_0 _ _)).2 rfl rfl rfl dX10_takeRun_117 fl_Ta_50 (fun s8 => ?_)
          refine r_goto (pc := 120) ok 14 dX10_takeRun_120 rfl ?_
          refine r_lv (lk_s (lk_s (lk_s (lk_n lk_0 _) _) _) _) ?_
          exact hc ((a.1 + (1 : Int32)), a.2.1, s8)
theorem wTa_takeRun_J146 {Z : Cx} {G : Gx} {b : Nat} {XX YY : Nat → Obj} {ta : Obj} {v1 : Int32} {v2 : Int32} (ok : OK Z G b cX10_takeRun 4 0 RX10 none) : VO Z G b 4 (fun (r : Obj) => QX Z b (qV G b (mx (va_up XX 1 r) YY))) (mx (va_up XX 1 ta) YY) 146 [some (.ref (b + 1)), some (.int v1), some (.int v2), none] [] ((fTa_takeRun_J146 ta v1 v2).bind some) := by
  unfold fTa_takeRun_J146
  refine r_aload_n (pc := 146) ok dX10_takeRun_146 rfl ?_
  refine r_iload_n (pc := 147) ok dX10_takeRun_147 rfl ?_
  refine r_if_ne (pc := 148) ok 165 dX10_takeRun_148 rfl (fun _ => ?_) (fun _ => ?_)
  · refine r_iload_n (pc := 151) ok dX10_takeRun_151 rfl ?_
    refine r_iconst (pc := 152) ok (1 : Int32) dX10_takeRun_152 ci_1 ?_
    refine r_icmp_lt (pc := 153) ok 165 dX10_takeRun_153 rfl (fun _ => ?_) (fun _ => ?_)
    · refine r_iconst (pc := 165) ok (5 : Int32) dX10_takeRun_165 ci_5 ?_
      refine r_putI (pc := 166) ok cls10 sh_1 (k := 4) rfl (Nat.le_of_ble_eq_true rfl) (fun s_ => mx (va_up XX 1 s_) YY) (pm_l (Nat.le_of_ble_eq_true rfl) (pm_0 _ _)).1 (pm_l (Nat.le_of_ble_eq_true rfl) (pm_0 _ _)).2 rfl rfl rfl dX10_takeRun_166 fl_Ta_76 (fun s10 => ?_)
      exact r_vret (pc := 169) ok dX10_takeRun_169 rfl
    · refine r_iload_n (pc := 156) ok dX10_takeRun_156 rfl ?_
      refine r_iconst (pc := 157) ok (3 : Int32) dX10_takeRun_157 ci_3 ?_
      refine r_icmp_gt (pc := 158) ok 165 dX10_takeRun_158 rfl (fun _ => ?_) (fun _ => ?_)
      · refine r_iconst (pc := 165) ok (5 : Int32) dX10_takeRun_165 ci_5 ?_
        refine r_putI (pc := 166) ok cls10 sh_1 (k := 4) rfl (Nat.le_of_ble_eq_true rfl) (fun s_ => mx (va_up XX 1 s_) YY) (pm_l (Nat.le_of_ble_eq_true rfl) (pm_0 _ _)).1 (pm_l (Nat.le_of_ble_eq_true rfl) (pm_0 _ _)).2 rfl rfl rfl dX10_takeRun_166 fl_Ta_76 (fun s11 => ?_)
        exact r_vret (pc := 169) ok dX10_takeRun_169 rfl
      · refine r_iconst (pc := 161) ok (3 : Int32) dX10_takeRun_161 ci_3 ?_
        refine r_goto (pc := 162) ok 166 dX10_takeRun_162 rfl ?_
        refine r_putI (pc := 166) ok cls10 sh_1 (k := 4) rfl (Nat.le_of_ble_eq_true rfl) (fun s_ => mx (va_up XX 1 s_) YY) (pm_l (Nat.le_of_ble_eq_true rfl) (pm_0 _ _)).1 (pm_l (Nat.le_of_ble_eq_true rfl) (pm_0 _ _)).2 rfl rfl rfl dX10_takeRun_166 fl_Ta_76 (fun s12 => ?_)
        exact r_vret (pc := 169) ok dX10_takeRun_169 rfl
  · refine r_iconst (pc := 165) ok (5 : Int32) dX10_takeRun_165 ci_5 ?_
    refine r_putI (pc := 166) ok cls10 sh_1 (k := 4) rfl (Nat.le_of_ble_eq_true rfl) (fun s_ => mx (va_up XX 1 s_) YY) (pm_l (Nat.le_of_ble_eq_true rfl) (pm_0 _ _)).1 (pm_l (Nat.le_of_ble_eq_true rfl) (pm_0 _ _)).2 rfl rfl rfl dX10_takeRun_166 fl_Ta_76 (fun s13 => ?_)
    exact r_vret (pc := 169) ok dX10_takeRun_169 rfl
theorem vTa_takeRun {Z : Cx} {G : Gx} {b : Nat} {XX YY : Nat → Obj} {ta : Obj} (ok : OK Z G b cX10_takeRun 4 0 RX10 none) : VO Z G b 4 (fun (r : Obj) => QX Z b (qV G b (mx (va_up XX 1 r) YY))) (mx (va_up XX 1 ta) YY) 0 [some (.ref (b + 1)), none, none, none] [] ((fTa_takeRun ta).bind some) := by
  unfold fTa_takeRun
  refine r_iconst (pc := 0) ok (0 : Int32) dX10_takeRun_0 ci_0 ?_
  refine r_istore_n (pc := 1) ok dX10_takeRun_1 (Nat.le_of_ble_eq_true rfl) rfl ?_
  refine r_iconst (pc := 2) ok (0 : Int32) dX10_takeRun_2 ci_0 ?_
  refine r_istore_n (pc := 3) ok dX10_takeRun_3 (Nat.le_of_ble_eq_true rfl) rfl ?_
  refine r_aload_n (pc := 4) ok dX10_takeRun_4 rfl ?_
  refine r_lconst (pc := 5) ok (0 : Int64) dX10_takeRun_5 (by decide +kernel) ?_
  refine r_putJ (pc := 6) ok cls10 sh_1 (k := 6) rfl (Nat.le_of_ble_eq_true rfl) (fun s_ => mx (va_up XX 1 s_) YY) (pm_l (Nat.le_of_ble_eq_true rfl) (pm_0 _ _)).1 (pm_l (Nat.le_of_ble_eq_true rfl) (pm_0 _ _)).2 rfl rfl rfl dX10_takeRun_6 fl_Ta_88 (fun s1 => ?_)
  refine r_aload_n (pc := 9) ok dX10_takeRun_9 rfl ?_
  refine r_iconst (pc := 10) ok (0 : Int32) dX10_takeRun_10 ci_0 ?_
  refine r_putI (pc := 11) ok cls10 sh_1 (k := 5) rfl (Nat.le_of_ble_eq_true rfl) (fun s_ => mx (va_up XX 1 s_) YY) (pm_l (Nat.le_of_ble_eq_true rfl) (pm_0 _ _)).1 (pm_l (Nat.le_of_ble_eq_true rfl) (pm_0 _ _)).2 rfl rfl rfl dX10_takeRun_11 fl_Ta_73 (fun s2 => ?_)
  refine r_iter (P := fun (a14 : Int32 × Int32 × Obj) o => VO Z G b 4 (fun (r : Obj) => QX Z b (qV G b (mx (va_up XX 1 r) YY))) (mx (va_up XX 1 a14.2.2) YY) 14 [some (.ref (b + 1)), some (.int a14.1), some (.int a14.2.1), none] [] o) (E := fun (e_14 : Int32 × Int32 × Obj) o => VO Z G b 4 (fun (r : Obj) => QX Z b (qV G b (mx (va_up XX 1 r) YY))) (mx (va_up XX 1 e_14.2.2) YY) 123 [some (.ref (b + 1)), some (.int e_14.1), some (.int e_14.2.1), none] [] o) (fun _ => r_none) (fun K hc hx => wTa_takeRun_L14 ok (K := K) hc hx) (fun e9 => ?_) FU ((0 : Int32), (0 : Int32), s2)
  refine r_iload_n (pc := 123) ok dX10_takeRun_123 rfl ?_
  refine r_if_ne (pc := 124) ok 146 dX10_takeRun_124 rfl (fun _ => ?_) (fun _ => ?_)
  · refine r_iload_n (pc := 127) ok dX10_takeRun_127 rfl ?_
    refine r_iconst (pc := 128) ok (1 : Int32) dX10_takeRun_128 ci_1 ?_
    refine r_icmp_lt (pc := 129) ok 146 dX10_takeRun_129 rfl (fun _ => ?_) (fun _ => ?_)
    · exact wTa_takeRun_J146 ok
    · refine r_iload_n (pc := 132) ok dX10_takeRun_132 rfl ?_
      refine r_bipush (pc := 133) ok (8 : Int32) dX10_takeRun_133 cb_8 ?_
      refine r_icmp_gt (pc := 135) ok 146 dX10_takeRun_135 rfl (fun _ => ?_) (fun _ => ?_)
      · exact wTa_takeRun_J146 ok
      · refine r_aload_n (pc := 138) ok dX10_takeRun_138 rfl ?_
        refine r_iconst (pc := 139) ok (2 : Int32) dX10_takeRun_139 ci_2 ?_
        refine r_putI (pc := 140) ok cls10 sh_1 (k := 4) rfl (Nat.le_of_ble_eq_true rfl) (fun s_ => mx (va_up XX 1 s_) YY) (pm_l (Nat.le_of_ble_eq_true rfl) (pm_0 _ _)).1 (pm_l (Nat.le_of_ble_eq_true rfl) (pm_0 _ _)).2 rfl rfl rfl dX10_takeRun_140 fl_Ta_76 (fun s14 => ?_)
        refine r_goto (pc := 143) ok 169 dX10_takeRun_143 rfl ?_
        exact r_vret (pc := 169) ok dX10_takeRun_169 rfl
  · exact wTa_takeRun_J146 ok
theorem tTa_takeRun {l : Launch} {G : Gx} {b : Nat} {XX YY : Nat → Obj} {ta : Obj} {r : Obj} (hr : fTa_takeRun ta = some r) : MetG l G b yX10_takeRun cX10_takeRun 4 none 0 [.ref (b + 1)] (mx (va_up XX 1 ta) YY) (qV G b (mx (va_up XX 1 r) YY)) := by
  refine met_start [some (.ref (b + 1)), none, none, none] (by decide +kernel) (Nat.le_of_ble_eq_true rfl) rfl (fun Z hl ok => ?_)
  clear hl
  exact vTa_takeRun ok r (by rw [hr]; rfl)
theorem wTa_nameWord_L2 {Z : Cx} {G : Gx} {b : Nat} {XX YY : Nat → Obj} (ok : OK Z G b cX10_nameWord 2 0 RX10 none) {K : ((Int32 × Obj) ⊕ (Obj)) → Option (Obj)} (hc : ∀ (a : Int32 × Obj), VO Z G b 2 (fun (r : Obj) => QX Z b (qV G b (mx (va_up XX 1 r) YY))) (mx (va_up XX 1 a.2) YY) 2 [some (.ref (b + 1)), some (.int a.1)] [] (K (.inl a))) (hx : ∀ (e : Obj), VO Z G b 2 (fun (r : Obj) => QX Z b (qV G b (mx (va_up XX 1 r) YY))) (mx (va_up XX 1 e) YY) 46 [none, none] [] (K (.inr e))) : ∀ (a : Int32 × Obj), VO Z G b 2 (fun (r : Obj) => QX Z b (qV G b (mx (va_up XX 1 r) YY))) (mx (va_up XX 1 a.2) YY) 2 [some (.ref (b + 1)), some (.int a.1)] [] ((fTa_nameWord_L2 a).bind K) := by
  intro a
  unfold fTa_nameWord_L2
  refine r_iload_n (pc := 2) ok dX10_nameWord_2 rfl ?_
  refine r_bipush (pc := 3) ok (29 : Int32) dX10_nameWord_3 cb_29 ?_
  refine r_icmp_ge (pc := 5) ok 46 dX10_nameWord_5 rfl (fun _ => ?_) (fun _ => ?_)
  · refine r_lv (lk_n (lk_n lk_0 _) _) ?_
    exact hx a.2
  · refine r_aload_n (pc := 8) ok dX10_nameWord_8 rfl ?_
    refine r_getI (pc := 9) ok cls10 sh_1 (k := 4) rfl (Nat.le_of_ble_eq_true rfl) (mx_l (Nat.le_of_ble_eq_true rfl) (va_up_self _ _ _)) dX10_nameWord_9 fl_Ta_76 ?_
    refine r_iconst (pc := 12) ok (2 : Int32) dX10_nameWord_12 ci_2 ?_
    refine r_icmp_ne (pc := 13) ok 46 dX10_nameWord_13 rfl (fun _ => ?_) (fun _ => ?_)
    · refine r_aload_n (pc := 16) ok dX10_nameWord_16 rfl ?_
      refine r_getR (pc := 17) ok cls10 sh_1 (k := 0) rfl (Nat.le_of_ble_eq_true rfl) rfl dX10_nameWord_17 fl_Ta_15 ?_
      refine r_iload_n (pc := 20) ok dX10_nameWord_20 rfl ?_
      refine r_lald (pc := 21) ok sh_2 (j := 1) rfl (mx_l (Nat.le_of_ble_eq_true rfl) (va_up_self _ _ _)) dX10_nameWord_21 (fun i1 => ?_)
      refine r_aload_n (pc := 22) ok dX10_nameWord_22 rfl ?_
      refine r_getJ (pc := 23) ok cls10 sh_1 (k := 6) rfl (Nat.le_of_ble_eq_true rfl) (mx_l (Nat.le_of_ble_eq_true rfl) (va_up_self _ _ _)) dX10_nameWord_23 fl_Ta_88 ?_
      refine r_lcmp (pc := 26) ok dX10_nameWord_26 ?_
      refine r_if_ne (pc := 27) ok 40 dX10_nameWord_27 rfl (fun _ => ?_) (fun _ => ?_)
      · refine r_aload_n (pc := 30) ok dX10_nameWord_30 rfl ?_
        refine r_iconst (pc := 31) ok (1 : Int32) dX10_nameWord_31 ci_1 ?_
        refine r_putI (pc := 32) ok cls10 sh_1 (k := 4) rfl (Nat.le_of_ble_eq_true rfl) (fun s_ => mx (va_up XX 1 s_) YY) (pm_l (Nat.le_of_ble_eq_true rfl) (pm_0 _ _)).1 (pm_l (Nat.le_of_ble_eq_true rfl) (pm_0 _ _)).2 rfl rfl rfl dX10_nameWord_32 fl_Ta_76 (fun s2 => ?_)
        refine r_aload_n (pc := 35) ok dX10_nameWord_35 rfl ?_
        refine r_iload_n (pc := 36) ok dX10_nameWord_36 rfl ?_
        refine r_putI (pc := 37) ok cls10 sh_1 (k := 5) rfl (Nat.le_of_ble_eq_true rfl) (fun s_ => mx (va_up XX 1 s_) YY) (pm_l (Nat.le_of_ble_eq_true rfl) (pm_0 _ _)).1 (pm_l (Nat.le_of_ble_eq_true rfl) (pm_0 _ _)).2 rfl rfl rfl dX10_nameWord_37 fl_Ta_73 (fun s3 => ?_)
        refine r_iinc (pc := 40) ok (1 : Int32) dX10_nameWord_40 ci_1 rfl (Nat.le_of_ble_eq_true rfl) rfl ?_
        refine r_goto (pc := 43) ok 2 dX10_nameWord_43 rfl ?_
        exact hc ((a.1 + (1 : Int32)), s3)
      · refine r_iinc (pc := 40) ok (1 : Int32) dX10_nameWord_40 ci_1 rfl (Nat.le_of_ble_eq_true rfl) rfl ?_
        refine r_goto (pc := 43) ok 2 dX10_nameWord_43 rfl ?_
        exact hc ((a.1 + (1 : Int32)), a.2)
    · refine r_lv (lk_n (lk_n lk_0 _) _) ?_
      exact hx a.2
theorem vTa_nameWord {Z : Cx} {G : Gx} {b : Nat} {XX YY : Nat → Obj} {ta : Obj} (ok : OK Z G b cX10_nameWord 2 0 RX10 none) : VO Z G b 2 (fun (r : Obj) => QX Z b (qV G b (mx (va_up XX 1 r) YY))) (mx (va_up XX 1 ta) YY) 0 [some (.ref (b + 1)), none] [] ((fTa_nameWord ta).bind some) := by
  unfold fTa_nameWord
  refine r_iconst (pc := 0) ok (0 : Int32) dX10_nameWord_0 ci_0 ?_
  refine r_istore_n (pc := 1) ok dX10_nameWord_1 (Nat.le_of_ble_eq_true rfl) rfl ?_
  refine r_iter (P := fun (a2 : Int32 × Obj) o => VO Z G b 2 (fun (r : Obj) => QX Z b (qV G b (mx (va_up XX 1 r) YY))) (mx (va_up XX 1 a2.2) YY) 2 [some (.ref (b + 1)), some (.int a2.1)] [] o) (E := fun (e_2 : Obj) o => VO Z G b 2 (fun (r : Obj) => QX Z b (qV G b (mx (va_up XX 1 r) YY))) (mx (va_up XX 1 e_2) YY) 46 [none, none] [] o) (fun _ => r_none) (fun K hc hx => wTa_nameWord_L2 ok (K := K) hc hx) (fun e4 => ?_) FU ((0 : Int32), ta)
  exact r_vret (pc := 46) ok dX10_nameWord_46 rfl
theorem tTa_nameWord {l : Launch} {G : Gx} {b : Nat} {XX YY : Nat → Obj} {ta : Obj} {r : Obj} (hr : fTa_nameWord ta = some r) : MetG l G b yX10_nameWord cX10_nameWord 2 none 0 [.ref (b + 1)] (mx (va_up XX 1 ta) YY) (qV G b (mx (va_up XX 1 r) YY)) := by
  refine met_start [some (.ref (b + 1)), none] (by decide +kernel) (Nat.le_of_ble_eq_true rfl) rfl (fun Z hl ok => ?_)
  clear hl
  exact vTa_nameWord ok r (by rw [hr]; rfl)
theorem wTa_take_L0 {Z : Cx} {G : Gx} {b : Nat} {XX YY : Nat → Obj} (ok : OK Z G b cX10_take 1 1 RX10 none) {K : ((Obj) ⊕ (Obj)) → Option (Obj)} (hc : ∀ (a : Obj), VO Z G b 1 (fun (r : Obj) => QX Z b (qV G b (mx (va_up XX 1 r) YY))) (mx (va_up XX 1 a) YY) 0 [some (.ref (b + 1))] [] (K (.inl a))) (hx : ∀ (e : Obj), VO Z G b 1 (fun (r : Obj) => QX Z b (qV G b (mx (va_up XX 1 r) YY))) (mx (va_up XX 1 e) YY) 38 [some (.ref (b + 1))] [] (K (.inr e))) : ∀ (a : Obj), VO Z G b 1 (fun (r : Obj) => QX Z b (qV G b (mx (va_up XX 1 r) YY))) (mx (va_up XX 1 a) YY) 0 [some (.ref (b + 1))] [] ((fTa_take_L0 a).bind K) := by
  intro a
  unfold fTa_take_L0
  refine r_aload_n (pc := 0) ok dX10_take_0 rfl ?_
  refine r_getI (pc := 1) ok cls10 sh_1 (k := 9) rfl (Nat.le_of_ble_eq_true rfl) (mx_l (Nat.le_of_ble_eq_true rfl) (va_up_self _ _ _)) dX10_take_1 fl_Ta_50 ?_
  refine r_aload_n (pc := 4) ok dX10_take_4 rfl ?_
  refine r_getI (pc := 5) ok cls10 sh_1 (k := 1) rfl (Nat.le_of_ble_eq_true rfl) (mx_l (Nat.le_of_ble_eq_true rfl) (va_up_self _ _ _)) dX10_take_5 fl_Ta_43 ?_
  refine r_icmp_ge (pc := 8) ok 38 dX10_take_8 rfl (fun _ => ?_) (fun _ => ?_)
  · exact hx a
  · refine r_aload_n (pc := 11) ok dX10_take_11 rfl ?_
    refine r_aload_n (pc := 12) ok dX10_take_12 rfl ?_
    refine r_getI (pc := 13) ok cls10 sh_1 (k := 9) rfl (Nat.le_of_ble_eq_true rfl) (mx_l (Nat.le_of_ble_eq_true rfl) (va_up_self _ _ _)) dX10_take_13 fl_Ta_50 ?_
    refine k_I (pc := 16) (fun r1 => r1) (fun r1 => mx (va_up XX 1 a) YY) (fun r1 hr_ => c_V (n := 1) ok cls10 sh_1 rfl ml_Ta_62 wv_X10_byteOf yk_X10_byteOf rfl (Nat.le_of_ble_eq_true rfl) (Nat.le_of_ble_eq_true rfl) (tTa_byteOf (va_up_self _ _ _) hr_) rfl (Nat.le_of_ble_eq_true rfl) dX10_take_16) (fun r1 => ?_)
    refine k_I (pc := 19) (fun r2 => r2) (fun r2 => mx (va_up XX 1 a) YY) (fun r2 hr_ => c_S (n := 1) ok ml_Ta_66 ws_X10_isBlank yk_X10_isBlank rfl (Nat.le_of_ble_eq_true rfl) (Nat.le_of_ble_eq_true rfl) (tTa_isBlank hr_) rfl (Nat.le_of_ble_eq_true rfl) dX10_take_19) (fun r2 => ?_)
    refine r_if_eq (pc := 22) ok 38 dX10_take_22 rfl (fun _ => ?_) (fun _ => ?_)
    · exact hx a
    · refine r_aload_n (pc := 25) ok dX10_take_25 rfl ?_
      refine r_dup (pc := 26) ok dX10_take_26 rfl ?_
      refine r_getI (pc := 27) ok cls10 sh_1 (k := 9) rfl (Nat.le_of_ble_eq_true rfl) (mx_l (Nat.le_of_ble_eq_true rfl) (va_up_self _ _ _)) dX10_take_27 fl_Ta_50 ?_
      refine r_iconst (pc := 30) ok (1 : Int32) dX10_take_30 ci_1 ?_
      refine r_iadd (pc := 31) ok dX10_take_31 ?_
      refine r_putI (pc := 32) ok cls10 sh_1 (k := 9) rfl (Nat.le_of_ble_eq_true rfl) (fun s_ => mx (va_up XX 1 s_) YY) (pm_l (Nat.le_of_ble_eq_true rfl) (pm_0 _ _)).1 (pm_l (Nat.le_of_ble_eq_true rfl) (pm_0 _ _)).2 rfl rfl rfl dX10_take_32 fl_Ta_50 (fun s3 => ?_)
      refine r_goto (pc := 35) ok 0 dX10_take_35 rfl ?_
      exact hc s3
theorem wTa_take_J96 {Z : Cx} {G : Gx} {b : Nat} {XX YY : Nat → Obj} {ta : Obj} (ok : OK Z G b cX10_take 1 1 RX10 none) : VO Z G b 1 (fun (r : Obj) => QX Z b (qV G b (mx (va_up XX 1 r) YY))) (mx (va_up XX 1 ta) YY) 96 [some (.ref (b + 1))] [] ((fTa_take_J96 ta).bind some) := by
  unfold fTa_take_J96
  refine r_aload_n (pc := 96) ok dX10_take_96 rfl ?_
  refine r_getI (pc := 97) ok cls10 sh_1 (k := 9) rfl (Nat.le_of_ble_eq_true rfl) (mx_l (Nat.le_of_ble_eq_true rfl) (va_up_self _ _ _)) dX10_take_97 fl_Ta_50 ?_
  refine r_aload_n (pc := 100) ok dX10_take_100 rfl ?_
  refine r_getI (pc := 101) ok cls10 sh_1 (k := 1) rfl (Nat.le_of_ble_eq_true rfl) (mx_l (Nat.le_of_ble_eq_true rfl) (va_up_self _ _ _)) dX10_take_101 fl_Ta_43 ?_
  refine r_icmp_lt (pc := 104) ok 115 dX10_take_104 rfl (fun _ => ?_) (fun _ => ?_)
  · refine r_aload_n (pc := 115) ok dX10_take_115 rfl ?_
    refine r_getI (pc := 116) ok cls10 sh_1 (k := 5) rfl (Nat.le_of_ble_eq_true rfl) (mx_l (Nat.le_of_ble_eq_true rfl) (va_up_self _ _ _)) dX10_take_116 fl_Ta_73 ?_
    refine k_I (pc := 119) (fun r8 => r8) (fun r8 => mx (va_up XX 1 ta) YY) (fun r8 hr_ => c_S (n := 1) ok ml_Ta_79 ws_X10_isSign yk_X10_isSign rfl (Nat.le_of_ble_eq_true rfl) (Nat.le_of_ble_eq_true rfl) (tTa_isSign hr_) rfl (Nat.le_of_ble_eq_true rfl) dX10_take_119) (fun r8 => ?_)
    refine r_if_eq (pc := 122) ok 143 dX10_take_122 rfl (fun _ => ?_) (fun _ => ?_)
    · refine r_aload_n (pc := 143) ok dX10_take_143 rfl ?_
      refine k_V (pc := 144)  (fun r9 => mx (va_up XX 1 r9) YY) (fun r9 hr_ => c_V (n := 0) ok cls10 sh_1 rfl ml_Ta_82 wv_X10_takeRun yk_X10_takeRun rfl (Nat.le_of_ble_eq_true rfl) (Nat.le_of_ble_eq_true rfl) (tTa_takeRun hr_) rfl (Nat.le_of_ble_eq_true rfl) dX10_take_144) (fun r9 => ?_)
      refine r_aload_n (pc := 147) ok dX10_take_147 rfl ?_
      refine k_V (pc := 148)  (fun r10 => mx (va_up XX 1 r10) YY) (fun r10 hr_ => c_V (n := 0) ok cls10 sh_1 rfl ml_Ta_85 wv_X10_nameWord yk_X10_nameWord rfl (Nat.le_of_ble_eq_true rfl) (Nat.le_of_ble_eq_true rfl) (tTa_nameWord hr_) rfl (Nat.le_of_ble_eq_true rfl) dX10_take_148) (fun r10 => ?_)
      exact r_vret (pc := 151) ok dX10_take_151 rfl
    · refine r_aload_n (pc := 125) ok dX10_take_125 rfl ?_
      refine r_iconst (pc := 126) ok (4 : Int32) dX10_take_126 ci_4 ?_
      refine r_putI (pc := 127) ok cls10 sh_1 (k := 4) rfl (Nat.le_of_ble_eq_true rfl) (fun s_ => mx (va_up XX 1 s_) YY) (pm_l (Nat.le_of_ble_eq_true rfl) (pm_0 _ _)).1 (pm_l (Nat.le_of_ble_eq_true rfl) (pm_0 _ _)).2 rfl rfl rfl dX10_take_127 fl_Ta_76 (fun s11 => ?_)
      refine r_aload_n (pc := 130) ok dX10_take_130 rfl ?_
      refine r_dup (pc := 131) ok dX10_take_131 rfl ?_
      refine r_getI (pc := 132) ok cls10 sh_1 (k := 9) rfl (Nat.le_of_ble_eq_true rfl) (mx_l (Nat.le_of_ble_eq_true rfl) (va_up_self _ _ _)) dX10_take_132 fl_Ta_50 ?_
      refine r_iconst (pc := 135) ok (1 : Int32) dX10_take_135 ci_1 ?_
      refine r_iadd (pc := 136) ok dX10_take_136 ?_
      refine r_putI (pc := 137) ok cls10 sh_1 (k := 9) rfl (Nat.le_of_ble_eq_true rfl) (fun s_ => mx (va_up XX 1 s_) YY) (pm_l (Nat.le_of_ble_eq_true rfl) (pm_0 _ _)).1 (pm_l (Nat.le_of_ble_eq_true rfl) (pm_0 _ _)).2 rfl rfl rfl dX10_take_137 fl_Ta_50 (fun s12 => ?_)
      refine r_goto (pc := 140) ok 151 dX10_take_140 rfl ?_
      exact r_vret (pc := 151) ok dX10_take_151 rfl
  · refine r_aload_n (pc := 107) ok dX10_take_107 rfl ?_
    refine r_iconst (pc := 108) ok (0 : Int32) dX10_take_108 ci_0 ?_
    refine r_putI (pc := 109) ok cls10 sh_1 (k := 4) rfl (Nat.le_of_ble_eq_true rfl) (fun s_ => mx (va_up XX 1 s_) YY) (pm_l (Nat.le_of_ble_eq_true rfl) (pm_0 _ _)).1 (pm_l (Nat.le_of_ble_eq_true rfl) (pm_0 _ _)).2 rfl rfl rfl dX10_take_109 fl_Ta_76 (fun s13 => ?_)
    refine r_goto (pc := 112) ok 151 dX10_take_112 rfl ?_
    exact r_vret (pc := 151) ok dX10_take_151 rfl
theorem vTa_take {Z : Cx} {G : Gx} {b : Nat} {XX YY : Nat → Obj} {ta : Obj} (ok : OK Z G b cX10_take 1 1 RX10 none) : VO Z G b 1 (fun (r : Obj) => QX Z b (qV G b (mx (va_up XX 1 r) YY))) (mx (va_up XX 1 ta) YY) 0 [some (.ref (b + 1))] [] ((fTa_take ta).bind some) := by
  unfold fTa_take
  refine r_iter (P := fun (a0 : Obj) o => VO Z G b 1 (fun (r : Obj) => QX Z b (qV G b (mx (va_up XX 1 r) YY))) (mx (va_up XX 1 a0) YY) 0 [some (.ref (b + 1))] [] o) (E := fun (e_0 : Obj) o => VO Z G b 1 (fun (r : Obj) => QX Z b (qV G b (mx (va_up XX 1 r) YY))) (mx (va_up XX 1 e_0) YY) 38 [some (.ref (b + 1))] [] o) (fun _ => r_none) (fun K hc hx => wTa_take_L0 ok (K := K) hc hx) (fun e4 => ?_) FU ta
  refine r_aload_n (pc := 38) ok dX10_take_38 rfl ?_
  refine r_aload_n (pc := 39) ok dX10_take_39 rfl ?_
  refine r_getI (pc := 40) ok cls10 sh_1 (k := 9) rfl (Nat.le_of_ble_eq_true rfl) (mx_l (Nat.le_of_ble_eq_true rfl) (va_up_self _ _ _)) dX10_take_40 fl_Ta_50 ?_
  refine r_putI (pc := 43) ok cls10 sh_1 (k := 10) rfl (Nat.le_of_ble_eq_true rfl) (fun s_ => mx (va_up XX 1 s_) YY) (pm_l (Nat.le_of_ble_eq_true rfl) (pm_0 _ _)).1 (pm_l (Nat.le_of_ble_eq_true rfl) (pm_0 _ _)).2 rfl rfl rfl dX10_take_43 fl_Ta_70 (fun s5 => ?_)
  refine r_aload_n (pc := 46) ok dX10_take_46 rfl ?_
  refine r_aload_n (pc := 47) ok dX10_take_47 rfl ?_
  refine r_aload_n (pc := 48) ok dX10_take_48 rfl ?_
  refine r_getI (pc := 49) ok cls10 sh_1 (k := 9) rfl (Nat.le_of_ble_eq_true rfl) (mx_l (Nat.le_of_ble_eq_true rfl) (va_up_self _ _ _)) dX10_take_49 fl_Ta_50 ?_
  refine k_I (pc := 52) (fun r6 => r6) (fun r6 => mx (va_up XX 1 s5) YY) (fun r6 hr_ => c_V (n := 1) ok cls10 sh_1 rfl ml_Ta_62 wv_X10_byteOf yk_X10_byteOf rfl (Nat.le_of_ble_eq_true rfl) (Nat.le_of_ble_eq_true rfl) (tTa_byteOf (va_up_self _ _ _) hr_) rfl (Nat.le_of_ble_eq_true rfl) dX10_take_52) (fun r6 => ?_)
  refine r_putI (pc := 55) ok cls10 sh_1 (k := 5) rfl (Nat.le_of_ble_eq_true rfl) (fun s_ => mx (va_up XX 1 s_) YY) (pm_l (Nat.le_of_ble_eq_true rfl) (pm_0 _ _)).1 (pm_l (Nat.le_of_ble_eq_true rfl) (pm_0 _ _)).2 rfl rfl rfl dX10_take_55 fl_Ta_73 (fun s7 => ?_)
  refine r_aload_n (pc := 58) ok dX10_take_58 rfl ?_
  refine r_getI (pc := 59) ok cls10 sh_1 (k := 1) rfl (Nat.le_of_ble_eq_true rfl) (mx_l (Nat.le_of_ble_eq_true rfl) (va_up_self _ _ _)) dX10_take_59 fl_Ta_43 ?_
  refine r_aload_n (pc := 62) ok dX10_take_62 rfl ?_
  refine r_getI (pc := 63) ok cls10 sh_1 (k := 8) rfl (Nat.le_of_ble_eq_true rfl) (mx_l (Nat.le_of_ble_eq_true rfl) (va_up_self _ _ _)) dX10_take_63 fl_Ta_47 ?_
  refine r_icmp_le (pc := 66) ok 96 dX10_take_66 rfl (fun _ => ?_) (fun _ => ?_)
  · exact wTa_take_J96 ok
  · refine r_aload_n (pc := 69) ok dX10_take_69 rfl ?_
    refine r_getI (pc := 70) ok cls10 sh_1 (k := 9) rfl (Nat.le_of_ble_eq_true rfl) (mx_l (Nat.le_of_ble_eq_true rfl) (va_up_self _ _ _)) dX10_take_70 fl_Ta_50 ?_
    refine r_aload_n (pc := 73) ok dX10_take_73 rfl ?_
    refine r_getI (pc := 74) ok cls10 sh_1 (k := 8) rfl (Nat.le_of_ble_eq_true rfl) (mx_l (Nat.le_of_ble_eq_true rfl) (va_up_self _ _ _)) dX10_take_74 fl_Ta_47 ?_
    refine r_icmp_lt (pc := 77) ok 96 dX10_take_77 rfl (fun _ => ?_) (fun _ => ?_)
    · exact wTa_take_J96 ok
    · refine r_aload_n (pc := 80) ok dX10_take_80 rfl ?_
      refine r_aload_n (pc := 81) ok dX10_take_81 rfl ?_
      refine r_getI (pc := 82) ok cls10 sh_1 (k := 8) rfl (Nat.le_of_ble_eq_true rfl) (mx_l (Nat.le_of_ble_eq_true rfl) (va_up_self _ _ _)) dX10_take_82 fl_Ta_47 ?_
      refine r_putI (pc := 85) ok cls10 sh_1 (k := 10) rfl (Nat.le_of_ble_eq_true rfl) (fun s_ => mx (va_up XX 1 s_) YY) (pm_l (Nat.le_of_ble_eq_true rfl) (pm_0 _ _)).1 (pm_l (Nat.le_of_ble_eq_true rfl) (pm_0 _ _)).2 rfl rfl rfl dX10_take_85 fl_Ta_70 (fun s14 => ?_)
      refine r_aload_n (pc := 88) ok dX10_take_88 rfl ?_
      refine r_iconst (pc := 89) ok (5 : Int32) dX10_take_89 ci_5 ?_
      refine r_putI (pc := 90) ok cls10 sh_1 (k := 4) rfl (Nat.le_of_ble_eq_true rfl) (fun s_ => mx (va_up XX 1 s_) YY) (pm_l (Nat.le_of_ble_eq_true rfl) (pm_0 _ _)).1 (pm_l (Nat.le_of_ble_eq_true rfl) (pm_0 _ _)).2 rfl rfl rfl dX10_take_90 fl_Ta_76 (fun s15 => ?_)
      refine r_goto (pc := 93) ok 151 dX10_take_93 rfl ?_
      exact r_vret (pc := 151) ok dX10_take_151 rfl
theorem tTa_take {l : Launch} {G : Gx} {b : Nat} {XX YY : Nat → Obj} {ta : Obj} {r : Obj} (hr : fTa_take ta = some r) : MetG l G b yX10_take cX10_take 1 none 1 [.ref (b + 1)] (mx (va_up XX 1 ta) YY) (qV G b (mx (va_up XX 1 r) YY)) := by
  refine met_start [some (.ref (b + 1))] (by decide +kernel) (Nat.le_of_ble_eq_true rfl) rfl (fun Z hl ok => ?_)
  clear hl
  exact vTa_take ok r (by rw [hr]; rfl)
theorem vTa_startReading {Z : Cx} {G : Gx} {b : Nat} {XX YY : Nat → Obj} {ta : Obj} {v1 : Int32} (ok : OK Z G b cX10_startReading 2 2 RX10 none) : VO Z G b 2 (fun (r : Obj) => QX Z b (qV G b (mx (va_up XX 1 r) YY))) (mx (va_up XX 1 ta) YY) 0 [some (.ref (b + 1)), some (.int v1)] [] ((fTa_startReading ta v1).bind some) := by
  unfold fTa_startReading
  refine r_aload_n (pc := 0) ok dX10_startReading_0 rfl ?_
  refine r_iload_n (pc := 1) ok dX10_startReading_1 rfl ?_
  refine r_putI (pc := 2) ok cls10 sh_1 (k := 8) rfl (Nat.le_of_ble_eq_true rfl) (fun s_ => mx (va_up XX 1 s_) YY) (pm_l (Nat.le_of_ble_eq_true rfl) (pm_0 _ _)).1 (pm_l (Nat.le_of_ble_eq_true rfl) (pm_0 _ _)).2 rfl rfl rfl dX10_startReading_2 fl_Ta_47 (fun s1 => ?_)
  refine r_aload_n (pc := 5) ok dX10_startReading_5 rfl ?_
  refine r_iconst (pc := 6) ok (0 : Int32) dX10_startReading_6 ci_0 ?_
  refine r_putI (pc := 7) ok cls10 sh_1 (k := 9) rfl (Nat.le_of_ble_eq_true rfl) (fun s_ => mx (va_up XX 1 s_) YY) (pm_l (Nat.le_of_ble_eq_true rfl) (pm_0 _ _)).1 (pm_l (Nat.le_of_ble_eq_true rfl) (pm_0 _ _)).2 rfl rfl rfl dX10_startReading_7 fl_Ta_50 (fun s2 => ?_)
  refine r_aload_n (pc := 10) ok dX10_startReading_10 rfl ?_
  refine r_iconst (pc := 11) ok (0 : Int32) dX10_startReading_11 ci_0 ?_
  refine r_putI (pc := 12) ok cls10 sh_1 (k := 2) rfl (Nat.le_of_ble_eq_true rfl) (fun s_ => mx (va_up XX 1 s_) YY) (pm_l (Nat.le_of_ble_eq_true rfl) (pm_0 _ _)).1 (pm_l (Nat.le_of_ble_eq_true rfl) (pm_0 _ _)).2 rfl rfl rfl dX10_startReading_12 fl_Ta_53 (fun s3 => ?_)
  refine r_aload_n (pc := 15) ok dX10_startReading_15 rfl ?_
  refine r_iconst (pc := 16) ok (0 : Int32) dX10_startReading_16 ci_0 ?_
  refine r_putI (pc := 17) ok cls10 sh_1 (k := 3) rfl (Nat.le_of_ble_eq_true rfl) (fun s_ => mx (va_up XX 1 s_) YY) (pm_l (Nat.le_of_ble_eq_true rfl) (pm_0 _ _)).1 (pm_l (Nat.le_of_ble_eq_true rfl) (pm_0 _ _)).2 rfl rfl rfl dX10_startReading_17 fl_Ta_56 (fun s4 => ?_)
  refine r_aload_n (pc := 20) ok dX10_startReading_20 rfl ?_
  refine k_V (pc := 21)  (fun r5 => mx (va_up XX 1 r5) YY) (fun r5 hr_ => c_V (n := 0) ok cls10 sh_1 rfl ml_Ta_59 wv_X10_take yk_X10_take rfl (Nat.le_of_ble_eq_true rfl) (Nat.le_of_ble_eq_true rfl) (tTa_take hr_) rfl (Nat.le_of_ble_eq_true rfl) dX10_startReading_21) (fun r5 => ?_)
  exact r_vret (pc := 24) ok dX10_startReading_24 rfl
theorem tTa_startReading {l : Launch} {G : Gx} {b : Nat} {XX YY : Nat → Obj} {ta : Obj} {v1 : Int32} {r : Obj} (hr : fTa_startReading ta v1 = some r) : MetG l G b yX10_startReading cX10_startReading 2 none 2 [.ref (b + 1), .int v1] (mx (va_up XX 1 ta) YY) (qV G b (mx (va_up XX 1 r) YY)) := by
  refine met_start [some (.ref (b + 1)), some (.int v1)] (by decide +kernel) (Nat.le_of_ble_eq_true rfl) rfl (fun Z hl ok => ?_)
  clear hl
  exact vTa_startReading ok r (by rw [hr]; rfl)
theorem vTa_isEnd {Z : Cx} {G : Gx} {b : Nat} {XX YY : Nat → Obj} {ta : Obj} (ok : OK Z G b cX10_isEnd 1 0 RX10 (some .boolean)) (hr_ta : XX 1 = ta) : VO Z G b 1 (fun (r : Int32) => QX Z b (qI G b r (mx XX YY))) (mx XX YY) 0 [some (.ref (b + 1))] [] ((fTa_isEnd ta).bind some) := by
  unfold fTa_isEnd
  refine r_aload_n (pc := 0) ok dX10_isEnd_0 rfl ?_
  refine r_getI (pc := 1) ok cls10 sh_1 (k := 4) rfl (Nat.le_of_ble_eq_true rfl) (mx_l (Nat.le_of_ble_eq_true rfl) (hr_ta)) dX10_isEnd_1 fl_Ta_76 ?_
  refine r_if_ne (pc := 4) ok 11 dX10_isEnd_4 rfl (fun _ => ?_) (fun _ => ?_)
  · refine r_iconst (pc := 7) ok (1 : Int32) dX10_isEnd_7 ci_1 ?_
    refine r_goto (pc := 8) ok 12 dX10_isEnd_8 rfl ?_
    exact r_zret (pc := 12) ok dX10_isEnd_12 za_1 rfl
  · refine r_iconst (pc := 11) ok (0 : Int32) dX10_isEnd_11 ci_0 ?_
    exact r_zret (pc := 12) ok dX10_isEnd_12 za_0 rfl
theorem tTa_isEnd {l : Launch} {G : Gx} {b : Nat} {XX YY : Nat → Obj} {ta : Obj} (hr_ta : XX 1 = ta) {r : Int32} (hr : fTa_isEnd ta = some r) : MetG l G b yX10_isEnd cX10_isEnd 1 (some .boolean) 0 [.ref (b + 1)] (mx XX YY) (qI G b r (mx XX YY)) := by
  refine met_start [some (.ref (b + 1))] (by decide +kernel) (Nat.le_of_ble_eq_true rfl) rfl (fun Z hl ok => ?_)
  clear hl
  exact vTa_isEnd ok hr_ta r (by rw [hr]; rfl)
theorem vTa_refuse {Z : Cx} {G : Gx} {b : Nat} {XX YY : Nat → Obj} {ta : Obj} {v1 : Int32} (ok : OK Z G b cX10_refuse 2 0 RX10 (some .int)) : VO Z G b 2 (fun (r : Int32 × Obj) => QX Z b (qI G b r.1 (mx (va_up XX 1 r.2) YY))) (mx (va_up XX 1 ta) YY) 0 [some (.ref (b + 1)), some (.int v1)] [] ((fTa_refuse ta v1).bind some) := by
  unfold fTa_refuse
  refine r_aload_n (pc := 0) ok dX10_refuse_0 rfl ?_
  refine r_iload_n (pc := 1) ok dX10_refuse_1 rfl ?_
  refine r_putI (pc := 2) ok cls10 sh_1 (k := 2) rfl (Nat.le_of_ble_eq_true rfl) (fun s_ => mx (va_up XX 1 s_) YY) (pm_l (Nat.le_of_ble_eq_true rfl) (pm_0 _ _)).1 (pm_l (Nat.le_of_ble_eq_true rfl) (pm_0 _ _)).2 rfl rfl rfl dX10_refuse_2 fl_Ta_53 (fun s1 => ?_)
  refine r_aload_n (pc := 5) ok dX10_refuse_5 rfl ?_
  refine r_aload_n (pc := 6) ok dX10_refuse_6 rfl ?_
  refine r_getI (pc := 7) ok cls10 sh_1 (k := 10) rfl (Nat.le_of_ble_eq_true rfl) (mx_l (Nat.le_of_ble_eq_true rfl) (va_up_self _ _ _)) dX10_refuse_7 fl_Ta_70 ?_
  refine r_putI (pc := 10) ok cls10 sh_1 (k := 3) rfl (Nat.le_of_ble_eq_true rfl) (fun s_ => mx (va_up XX 1 s_) YY) (pm_l (Nat.le_of_ble_eq_true rfl) (pm_0 _ _)).1 (pm_l (Nat.le_of_ble_eq_true rfl) (pm_0 _ _)).2 rfl rfl rfl dX10_refuse_10 fl_Ta_56 (fun s2 => ?_)
  refine r_iconst (pc := 13) ok (-1 : Int32) dX10_refuse_13 ci_m1 ?_
  exact r_iret (pc := 14) ok dX10_refuse_14 rfl
theorem tTa_refuse {l : Launch} {G : Gx} {b : Nat} {XX YY : Nat → Obj} {ta : Obj} {v1 : Int32} {r : Int32 × Obj} (hr : fTa_refuse ta v1 = some r) : MetG l G b yX10_refuse cX10_refuse 2 (some .int) 0 [.ref (b + 1), .int v1] (mx (va_up XX 1 ta) YY) (qI G b r.1 (mx (va_up XX 1 r.2) YY)) := by
  refine met_start [some (.ref (b + 1)), some (.int v1)] (by decide +kernel) (Nat.le_of_ble_eq_true rfl) rfl (fun Z hl ok => ?_)
  clear hl
  exact vTa_refuse ok r (by rw [hr]; rfl)
theorem vQr_refuse {Z : Cx} {G : Gx} {b : Nat} {XX YY : Nat → Obj} {ta : Obj} {v1 : Int32} (ok : OK Z G b cX6_refuse 2 1 RX6 (some .boolean)) : VO Z G b 2 (fun (r : Int32 × Obj) => QX Z b (qI G b r.1 (mx (va_up XX 1 r.2) YY))) (mx (va_up XX 1 ta) YY) 0 [some (.ref (b + 212)), some (.int v1)] [] ((fQr_refuse ta v1).bind some) := by
  unfold fQr_refuse
  refine r_aload_n (pc := 0) ok dX6_refuse_0 rfl ?_
  refine r_getR (pc := 1) ok cls6 sh_212 (k := 0) rfl (Nat.le_of_ble_eq_true rfl) rfl dX6_refuse_1 fl_Qr_9 ?_
  refine r_iload_n (pc := 4) ok dX6_refuse_4 rfl ?_
  refine k_I (pc := 5) (fun r1 => r1.1) (fun r1 => mx (va_up XX 1 r1.2) YY) (fun r1 hr_ => c_V (n := 1) ok cls10 sh_1 rfl ml_Qr_93 wv_X10_refuse yk_X10_refuse rfl (Nat.le_of_ble_eq_true rfl) (Nat.le_of_ble_eq_true rfl) (tTa_refuse hr_) rfl (Nat.le_of_ble_eq_true rfl) dX6_refuse_5) (fun r1 => ?_)
  refine r_pop (pc := 8) ok dX6_refuse_8 rfl ?_
  refine r_iconst (pc := 9) ok (0 : Int32) dX6_refuse_9 ci_0 ?_
  exact r_zret (pc := 10) ok dX6_refuse_10 za_0 rfl
theorem tQr_refuse {l : Launch} {G : Gx} {b : Nat} {XX YY : Nat → Obj} {ta : Obj} {v1 : Int32} {r : Int32 × Obj} (hr : fQr_refuse ta v1 = some r) : MetG l G b yX6_refuse cX6_refuse 2 (some .boolean) 1 [.ref (b + 212), .int v1] (mx (va_up XX 1 ta) YY) (qI G b r.1 (mx (va_up XX 1 r.2) YY)) := by
  refine met_start [some (.ref (b + 212)), some (.int v1)] (by decide +kernel) (Nat.le_of_ble_eq_true rfl) rfl (fun Z hl ok => ?_)
  clear hl
  exact vQr_refuse ok r (by rw [hr]; rfl)
theorem wTa_takeNumber_J34 {Z : Cx} {G : Gx} {b : Nat} {XX YY : Nat → Obj} {ta : Obj} (ok : OK Z G b cX10_takeNumber 3 2 RX10 (some .int)) : VO Z G b 3 (fun (r : Int32 × Obj) => QX Z b (qI G b r.1 (mx (va_up XX 1 r.2) YY))) (mx (va_up XX 1 ta) YY) 34 [some (.ref (b + 1)), none, none] [] ((fTa_takeNumber_J34 ta).bind some) := by
  unfold fTa_takeNumber_J34
  refine r_aload_n (pc := 34) ok dX10_takeNumber_34 rfl ?_
  refine r_iconst (pc := 35) ok (2 : Int32) dX10_takeNumber_35 ci_2 ?_
  refine k_I (pc := 36) (fun r2 => r2.1) (fun r2 => mx (va_up XX 1 r2.2) YY) (fun r2 hr_ => c_V (n := 1) ok cls10 sh_1 rfl ml_Ta_96 wv_X10_refuse yk_X10_refuse rfl (Nat.le_of_ble_eq_true rfl) (Nat.le_of_ble_eq_true rfl) (tTa_refuse hr_) rfl (Nat.le_of_ble_eq_true rfl) dX10_takeNumber_36) (fun r2 => ?_)
  refine r_goto (pc := 39) ok 46 dX10_takeNumber_39 rfl ?_
  exact r_iret (pc := 46) ok dX10_takeNumber_46 rfl
theorem vTa_takeNumber {Z : Cx} {G : Gx} {b : Nat} {XX YY : Nat → Obj} {ta : Obj} {v1 : Int32} {v2 : Int32} (ok : OK Z G b cX10_takeNumber 3 2 RX10 (some .int)) : VO Z G b 3 (fun (r : Int32 × Obj) => QX Z b (qI G b r.1 (mx (va_up XX 1 r.2) YY))) (mx (va_up XX 1 ta) YY) 0 [some (.ref (b + 1)), some (.int v1), some (.int v2)] [] ((fTa_takeNumber ta v1 v2).bind some) := by
  unfold fTa_takeNumber
  refine r_aload_n (pc := 0) ok dX10_takeNumber_0 rfl ?_
  refine k_V (pc := 1)  (fun r1 => mx (va_up XX 1 r1) YY) (fun r1 hr_ => c_V (n := 0) ok cls10 sh_1 rfl ml_Ta_59 wv_X10_take yk_X10_take rfl (Nat.le_of_ble_eq_true rfl) (Nat.le_of_ble_eq_true rfl) (tTa_take hr_) rfl (Nat.le_of_ble_eq_true rfl) dX10_takeNumber_1) (fun r1 => ?_)
  refine r_aload_n (pc := 4) ok dX10_takeNumber_4 rfl ?_
  refine r_getI (pc := 5) ok cls10 sh_1 (k := 4) rfl (Nat.le_of_ble_eq_true rfl) (mx_l (Nat.le_of_ble_eq_true rfl) (va_up_self _ _ _)) dX10_takeNumber_5 fl_Ta_76 ?_
  refine r_iconst (pc := 8) ok (3 : Int32) dX10_takeNumber_8 ci_3 ?_
  refine r_icmp_eq (pc := 9) ok 18 dX10_takeNumber_9 rfl (fun _ => ?_) (fun _ => ?_)
  · refine r_aload_n (pc := 18) ok dX10_takeNumber_18 rfl ?_
    refine r_getI (pc := 19) ok cls10 sh_1 (k := 5) rfl (Nat.le_of_ble_eq_true rfl) (mx_l (Nat.le_of_ble_eq_true rfl) (va_up_self _ _ _)) dX10_takeNumber_19 fl_Ta_73 ?_
    refine r_iload_n (pc := 22) ok dX10_takeNumber_22 rfl ?_
    refine r_icmp_lt (pc := 23) ok 34 dX10_takeNumber_23 rfl (fun _ => ?_) (fun _ => ?_)
    · refine r_lv (lk_s (lk_n (lk_n lk_0 _) _) _) ?_
      exact wTa_takeNumber_J34 ok
    · refine r_aload_n (pc := 26) ok dX10_takeNumber_26 rfl ?_
      refine r_getI (pc := 27) ok cls10 sh_1 (k := 5) rfl (Nat.le_of_ble_eq_true rfl) (mx_l (Nat.le_of_ble_eq_true rfl) (va_up_self _ _ _)) dX10_takeNumber_27 fl_Ta_73 ?_
      refine r_iload_n (pc := 30) ok dX10_takeNumber_30 rfl ?_
      refine r_icmp_le (pc := 31) ok 42 dX10_takeNumber_31 rfl (fun _ => ?_) (fun _ => ?_)
      · refine r_aload_n (pc := 42) ok dX10_takeNumber_42 rfl ?_
        refine r_getI (pc := 43) ok cls10 sh_1 (k := 5) rfl (Nat.le_of_ble_eq_true rfl) (mx_l (Nat.le_of_ble_eq_true rfl) (va_up_self _ _ _)) dX10_takeNumber_43 fl_Ta_73 ?_
        exact r_iret (pc := 46) ok dX10_takeNumber_46 rfl
      · refine r_lv (lk_s (lk_n (lk_n lk_0 _) _) _) ?_
        exact wTa_takeNumber_J34 ok
  · refine r_aload_n (pc := 12) ok dX10_takeNumber_12 rfl ?_
    refine r_iconst (pc := 13) ok (1 : Int32) dX10_takeNumber_13 ci_1 ?_
    refine k_I (pc := 14) (fun r3 => r3.1) (fun r3 => mx (va_up XX 1 r3.2) YY) (fun r3 hr_ => c_V (n := 1) ok cls10 sh_1 rfl ml_Ta_96 wv_X10_refuse yk_X10_refuse rfl (Nat.le_of_ble_eq_true rfl) (Nat.le_of_ble_eq_true rfl) (tTa_refuse hr_) rfl (Nat.le_of_ble_eq_true rfl) dX10_takeNumber_14) (fun r3 => ?_)
    exact r_iret (pc := 17) ok dX10_takeNumber_17 rfl
theorem tTa_takeNumber {l : Launch} {G : Gx} {b : Nat} {XX YY : Nat → Obj} {ta : Obj} {v1 : Int32} {v2 : Int32} {r : Int32 × Obj} (hr : fTa_takeNumber ta v1 v2 = some r) : MetG l G b yX10_takeNumber cX10_takeNumber 3 (some .int) 2 [.ref (b + 1), .int v1, .int v2] (mx (va_up XX 1 ta) YY) (qI G b r.1 (mx (va_up XX 1 r.2) YY)) := by
  refine met_start [some (.ref (b + 1)), some (.int v1), some (.int v2)] (by decide +kernel) (Nat.le_of_ble_eq_true rfl) rfl (fun Z hl ok => ?_)
  clear hl
  exact vTa_takeNumber ok r (by rw [hr]; rfl)
theorem vQr_readStay {Z : Cx} {G : Gx} {b : Nat} {XX YY : Nat → Obj} {q : Obj} {qr : Obj} {ta : Obj} (ok : OK Z G b cX6_readStay 1 3 RX6 (some .boolean)) : VO Z G b 1 (fun (r : Int32 × Obj × Obj × Obj) => QX Z b (qI G b r.1 (mx (va_up (va_up (va_up XX 29 r.2.1) 212 r.2.2.1) 1 r.2.2.2) YY))) (mx (va_up (va_up (va_up XX 29 q) 212 qr) 1 ta) YY) 0 [some (.ref (b + 212))] [] ((fQr_readStay q qr ta).bind some) := by
  unfold fQr_readStay
  refine r_aload_n (pc := 0) ok dX6_readStay_0 rfl ?_
  refine r_getI (pc := 1) ok cls6 sh_212 (k := 5) rfl (Nat.le_of_ble_eq_true rfl) (mx_l (Nat.le_of_ble_eq_true rfl) ((va_up_ne _ _ (by decide)).trans (va_up_self _ _ _))) dX6_readStay_1 fl_Qr_42 ?_
  refine r_if_eq (pc := 4) ok 13 dX6_readStay_4 rfl (fun _ => ?_) (fun _ => ?_)
  · refine r_aload_n (pc := 13) ok dX6_readStay_13 rfl ?_
    refine r_iconst (pc := 14) ok (1 : Int32) dX6_readStay_14 ci_1 ?_
    refine r_putI (pc := 15) ok cls6 sh_212 (k := 5) rfl (Nat.le_of_ble_eq_true rfl) (fun s_ => mx (va_up (va_up (va_up XX 29 q) 212 s_) 1 ta) YY) (pm_l (Nat.le_of_ble_eq_true rfl) (pm_s (by decide) (pm_0 _ _))).1 (pm_l (Nat.le_of_ble_eq_true rfl) (pm_s (by decide) (pm_0 _ _))).2 rfl rfl rfl dX6_readStay_15 fl_Qr_42 (fun s1 => ?_)
    refine r_aload_n (pc := 18) ok dX6_readStay_18 rfl ?_
    refine r_getR (pc := 19) ok cls6 sh_212 (k := 1) rfl (Nat.le_of_ble_eq_true rfl) rfl dX6_readStay_19 fl_Qr_21 ?_
    refine r_aload_n (pc := 22) ok dX6_readStay_22 rfl ?_
    refine r_getR (pc := 23) ok cls6 sh_212 (k := 0) rfl (Nat.le_of_ble_eq_true rfl) rfl dX6_readStay_23 fl_Qr_9 ?_
    refine r_iconst (pc := 26) ok (1 : Int32) dX6_readStay_26 ci_1 ?_
    refine r_bipush (pc := 27) ok (30 : Int32) dX6_readStay_27 cb_30 ?_
    refine k_I (pc := 29) (fun r2 => r2.1) (fun r2 => mx (va_up (va_up (va_up XX 29 q) 212 s1) 1 r2.2) YY) (fun r2 hr_ => c_V (n := 2) ok cls10 sh_1 rfl ml_Qr_102 wv_X10_takeNumber yk_X10_takeNumber rfl (Nat.le_of_ble_eq_true rfl) (Nat.le_of_ble_eq_true rfl) (tTa_takeNumber hr_) rfl (Nat.le_of_ble_eq_true rfl) dX6_readStay_29) (fun r2 => ?_)
    refine r_putI (pc := 32) ok cls5 sh_29 (k := 2) rfl (Nat.le_of_ble_eq_true rfl) (fun s_ => mx (va_up (va_up (va_up XX 29 s_) 212 s1) 1 r2.2) YY) (pm_l (Nat.le_of_ble_eq_true rfl) (pm_s (by decide) (pm_s (by decide) (pm_0 _ _)))).1 (pm_l (Nat.le_of_ble_eq_true rfl) (pm_s (by decide) (pm_s (by decide) (pm_0 _ _)))).2 rfl rfl rfl dX6_readStay_32 fl_Qr_112 (fun s3 => ?_)
    refine r_aload_n (pc := 35) ok dX6_readStay_35 rfl ?_
    refine r_getR (pc := 36) ok cls6 sh_212 (k := 1) rfl (Nat.le_of_ble_eq_true rfl) rfl dX6_readStay_36 fl_Qr_21 ?_
    refine r_getI (pc := 39) ok cls5 sh_29 (k := 2) rfl (Nat.le_of_ble_eq_true rfl) (mx_l (Nat.le_of_ble_eq_true rfl) ((va_up_ne _ _ (by decide)).trans ((va_up_ne _ _ (by decide)).trans (va_up_self _ _ _)))) dX6_readStay_39 fl_Qr_112 ?_
    refine r_iconst (pc := 42) ok (-1 : Int32) dX6_readStay_42 ci_m1 ?_
    refine r_icmp_eq (pc := 43) ok 50 dX6_readStay_43 rfl (fun _ => ?_) (fun _ => ?_)
    · refine r_iconst (pc := 50) ok (0 : Int32) dX6_readStay_50 ci_0 ?_
      exact r_zret (pc := 51) ok dX6_readStay_51 za_0 rfl
    · refine r_iconst (pc := 46) ok (1 : Int32) dX6_readStay_46 ci_1 ?_
      refine r_goto (pc := 47) ok 51 dX6_readStay_47 rfl ?_
      exact r_zret (pc := 51) ok dX6_readStay_51 za_1 rfl
  · refine r_aload_n (pc := 7) ok dX6_readStay_7 rfl ?_
    refine r_iconst (pc := 8) ok (3 : Int32) dX6_readStay_8 ci_3 ?_
    refine k_I (pc := 9) (fun r4 => r4.1) (fun r4 => mx (va_up (va_up (va_up XX 29 q) 212 qr) 1 r4.2) YY) (fun r4 hr_ => c_V (n := 1) ok cls6 sh_212 rfl ml_Qr_65 wv_X6_refuse yk_X6_refuse rfl (Nat.le_of_ble_eq_true rfl) (Nat.le_of_ble_eq_true rfl) (tQr_refuse hr_) rfl (Nat.le_of_ble_eq_true rfl) dX6_readStay_9) (fun r4 => ?_)
    exact r_zret (pc := 12) ok dX6_readStay_12 rfl rfl
theorem tQr_readStay {l : Launch} {G : Gx} {b : Nat} {XX YY : Nat → Obj} {q : Obj} {qr : Obj} {ta : Obj} {r : Int32 × Obj × Obj × Obj} (hr : fQr_readStay q qr ta = some r) : MetG l G b yX6_readStay cX6_readStay 1 (some .boolean) 3 [.ref (b + 212)] (mx (va_up (va_up (va_up XX 29 q) 212 qr) 1 ta) YY) (qI G b r.1 (mx (va_up (va_up (va_up XX 29 r.2.1) 212 r.2.2.1) 1 r.2.2.2) YY)) := by
  refine met_start [some (.ref (b + 212))] (by decide +kernel) (Nat.le_of_ble_eq_true rfl) rfl (fun Z hl ok => ?_)
  clear hl
  exact vQr_readStay ok r (by rw [hr]; rfl)
theorem vQr_readEar {Z : Cx} {G : Gx} {b : Nat} {XX YY : Nat → Obj} {q : Obj} {qr : Obj} {ta : Obj} (ok : OK Z G b cX6_readEar 1 3 RX6 (some .boolean)) : VO Z G b 1 (fun (r : Int32 × Obj × Obj × Obj) => QX Z b (qI G b r.1 (mx (va_up (va_up (va_up XX 29 r.2.1) 212 r.2.2.1) 1 r.2.2.2) YY))) (mx (va_up (va_up (va_up XX 29 q) 212 qr) 1 ta) YY) 0 [some (.ref (b + 212))] [] ((fQr_readEar q qr ta).bind some) := by
  unfold fQr_readEar
  refine r_aload_n (pc := 0) ok dX6_readEar_0 rfl ?_
  refine r_getI (pc := 1) ok cls6 sh_212 (k := 4) rfl (Nat.le_of_ble_eq_true rfl) (mx_l (Nat.le_of_ble_eq_true rfl) ((va_up_ne _ _ (by decide)).trans (va_up_self _ _ _))) dX6_readEar_1 fl_Qr_39 ?_
  refine r_if_eq (pc := 4) ok 13 dX6_readEar_4 rfl (fun _ => ?_) (fun _ => ?_)
  · refine r_aload_n (pc := 13) ok dX6_readEar_13 rfl ?_
    refine r_iconst (pc := 14) ok (1 : Int32) dX6_readEar_14 ci_1 ?_
    refine r_putI (pc := 15) ok cls6 sh_212 (k := 4) rfl (Nat.le_of_ble_eq_true rfl) (fun s_ => mx (va_up (va_up (va_up XX 29 q) 212 s_) 1 ta) YY) (pm_l (Nat.le_of_ble_eq_true rfl) (pm_s (by decide) (pm_0 _ _))).1 (pm_l (Nat.le_of_ble_eq_true rfl) (pm_s (by decide) (pm_0 _ _))).2 rfl rfl rfl dX6_readEar_15 fl_Qr_39 (fun s1 => ?_)
    refine r_aload_n (pc := 18) ok dX6_readEar_18 rfl ?_
    refine r_getR (pc := 19) ok cls6 sh_212 (k := 1) rfl (Nat.le_of_ble_eq_true rfl) rfl dX6_readEar_19 fl_Qr_21 ?_
    refine r_aload_n (pc := 22) ok dX6_readEar_22 rfl ?_
    refine r_getR (pc := 23) ok cls6 sh_212 (k := 0) rfl (Nat.le_of_ble_eq_true rfl) rfl dX6_readEar_23 fl_Qr_9 ?_
    refine r_iconst (pc := 26) ok (0 : Int32) dX6_readEar_26 ci_0 ?_
    refine r_bipush (pc := 27) ok (9 : Int32) dX6_readEar_27 cb_9 ?_
    refine k_I (pc := 29) (fun r2 => r2.1) (fun r2 => mx (va_up (va_up (va_up XX 29 q) 212 s1) 1 r2.2) YY) (fun r2 hr_ => c_V (n := 2) ok cls10 sh_1 rfl ml_Qr_102 wv_X10_takeNumber yk_X10_takeNumber rfl (Nat.le_of_ble_eq_true rfl) (Nat.le_of_ble_eq_true rfl) (tTa_takeNumber hr_) rfl (Nat.le_of_ble_eq_true rfl) dX6_readEar_29) (fun r2 => ?_)
    refine r_putI (pc := 32) ok cls5 sh_29 (k := 1) rfl (Nat.le_of_ble_eq_true rfl) (fun s_ => mx (va_up (va_up (va_up XX 29 s_) 212 s1) 1 r2.2) YY) (pm_l (Nat.le_of_ble_eq_true rfl) (pm_s (by decide) (pm_s (by decide) (pm_0 _ _)))).1 (pm_l (Nat.le_of_ble_eq_true rfl) (pm_s (by decide) (pm_s (by decide) (pm_0 _ _)))).2 rfl rfl rfl dX6_readEar_32 fl_Qr_109 (fun s3 => ?_)
    refine r_aload_n (pc := 35) ok dX6_readEar_35 rfl ?_
    refine r_getR (pc := 36) ok cls6 sh_212 (k := 1) rfl (Nat.le_of_ble_eq_true rfl) rfl dX6_readEar_36 fl_Qr_21 ?_
    refine r_getI (pc := 39) ok cls5 sh_29 (k := 1) rfl (Nat.le_of_ble_eq_true rfl) (mx_l (Nat.le_of_ble_eq_true rfl) ((va_up_ne _ _ (by decide)).trans ((va_up_ne _ _ (by decide)).trans (va_up_self _ _ _)))) dX6_readEar_39 fl_Qr_109 ?_
    refine r_iconst (pc := 42) ok (-1 : Int32) dX6_readEar_42 ci_m1 ?_
    refine r_icmp_eq (pc := 43) ok 50 dX6_readEar_43 rfl (fun _ => ?_) (fun _ => ?_)
    · refine r_iconst (pc := 50) ok (0 : Int32) dX6_readEar_50 ci_0 ?_
      exact r_zret (pc := 51) ok dX6_readEar_51 za_0 rfl
    · refine r_iconst (pc := 46) ok (1 : Int32) dX6_readEar_46 ci_1 ?_
      refine r_goto (pc := 47) ok 51 dX6_readEar_47 rfl ?_
      exact r_zret (pc := 51) ok dX6_readEar_51 za_1 rfl
  · refine r_aload_n (pc := 7) ok dX6_readEar_7 rfl ?_
    refine r_iconst (pc := 8) ok (3 : Int32) dX6_readEar_8 ci_3 ?_
    refine k_I (pc := 9) (fun r4 => r4.1) (fun r4 => mx (va_up (va_up (va_up XX 29 q) 212 qr) 1 r4.2) YY) (fun r4 hr_ => c_V (n := 1) ok cls6 sh_212 rfl ml_Qr_65 wv_X6_refuse yk_X6_refuse rfl (Nat.le_of_ble_eq_true rfl) (Nat.le_of_ble_eq_true rfl) (tQr_refuse hr_) rfl (Nat.le_of_ble_eq_true rfl) dX6_readEar_9) (fun r4 => ?_)
    exact r_zret (pc := 12) ok dX6_readEar_12 rfl rfl
theorem tQr_readEar {l : Launch} {G : Gx} {b : Nat} {XX YY : Nat → Obj} {q : Obj} {qr : Obj} {ta : Obj} {r : Int32 × Obj × Obj × Obj} (hr : fQr_readEar q qr ta = some r) : MetG l G b yX6_readEar cX6_readEar 1 (some .boolean) 3 [.ref (b + 212)] (mx (va_up (va_up (va_up XX 29 q) 212 qr) 1 ta) YY) (qI G b r.1 (mx (va_up (va_up (va_up XX 29 r.2.1) 212 r.2.2.1) 1 r.2.2.2) YY)) := by
  refine met_start [some (.ref (b + 212))] (by decide +kernel) (Nat.le_of_ble_eq_true rfl) rfl (fun Z hl ok => ?_)
  clear hl
  exact vQr_readEar ok r (by rw [hr]; rfl)
theorem wQu_findPerson_L2 {Z : Cx} {G : Gx} {b : Nat} {iq : Nat} {XX YY : Nat → Obj} {q : Obj} {v1 : Int64} (ok : OK Z G b cX5_findPerson 4 0 RX5 (some .int)) (hq : isQu iq) (hr_q : XX iq = q) {K : ((Int32) ⊕ ((Unit) ⊕ (Int32))) → Option (Int32)} (hc : ∀ (a : Int32), VO Z G b 4 (fun (r : Int32) => QX Z b (qI G b r (mx XX YY))) (mx XX YY) 2 [some (.ref (b + iq)), some (.long v1), none, some (.int a)] [] (K (.inl a))) (hx : ∀ (z : (Unit) ⊕ (Int32)), (∀ (e : Unit), z = .inl e → VO Z G b 4 (fun (r : Int32) => QX Z b (qI G b r (mx XX YY))) (mx XX YY) 35 [none, none, none, none] [] (K (.inr z))) ∧ (∀ (r : Int32), z = .inr r → K (.inr z) = some r)) : ∀ (a : Int32), VO Z G b 4 (fun (r : Int32) => QX Z b (qI G b r (mx XX YY))) (mx XX YY) 2 [some (.ref (b + iq)), some (.long v1), none, some (.int a)] [] ((fQu_findPerson_L2 q v1 a).bind K) := by
  intro a
  unfold fQu_findPerson_L2
  refine r_iload_n (pc := 2) ok dX5_findPerson_2 rfl ?_
  refine r_aload_n (pc := 3) ok dX5_findPerson_3 rfl ?_
  refine r_getI (pc := 4) ok cls5 (qu_sh hq) (k := 4) rfl (Nat.le_of_ble_eq_true rfl) (mx_l (qu_lt hq) (hr_q)) dX5_findPerson_4 fl_Qu_44 ?_
  refine r_icmp_ge (pc := 7) ok 35 dX5_findPerson_7 rfl (fun _ => ?_) (fun _ => ?_)
  · refine r_lv (lk_n (lk_n (lk_n (lk_n lk_0 _) _) _) _) ?_
    exact (hx (.inl ())).1 _ rfl
  · refine r_iload_n (pc := 10) ok dX5_findPerson_10 rfl ?_
    refine r_bipush (pc := 11) ok (8 : Int32) dX5_findPerson_11 cb_8 ?_
    refine r_icmp_ge (pc := 13) ok 35 dX5_findPerson_13 rfl (fun _ => ?_) (fun _ => ?_)
    · refine r_lv (lk_n (lk_n (lk_n (lk_n lk_0 _) _) _) _) ?_
      exact (hx (.inl ())).1 _ rfl
    · refine r_aload_n (pc := 16) ok dX5_findPerson_16 rfl ?_
      refine r_getR (pc := 17) ok cls5 (qu_sh hq) (k := 10) rfl (Nat.le_of_ble_eq_true rfl) rfl dX5_findPerson_17 fl_Qu_38 ?_
      refine r_iload_n (pc := 20) ok dX5_findPerson_20 rfl ?_
      refine r_lald (pc := 21) ok (qu_s6 hq) (Nat.add_sub_cancel_left _ _) (mx_l (qu_lt hq) (hr_q)) dX5_findPerson_21 (fun i1 => ?_)
      refine r_lload_n (pc := 22) ok dX5_findPerson_22 rfl ?_
      refine r_lcmp (pc := 23) ok dX5_findPerson_23 ?_
      refine r_if_ne (pc := 24) ok 29 dX5_findPerson_24 rfl (fun _ => ?_) (fun _ => ?_)
      · refine r_iload_n (pc := 27) ok dX5_findPerson_27 rfl ?_
        refine r_eq ((hx (.inr a)).2 _ rfl) ?_
        exact r_iret (pc := 28) ok dX5_findPerson_28 rfl
      · refine r_iinc (pc := 29) ok (1 : Int32) dX5_findPerson_29 ci_1 rfl (Nat.le_of_ble_eq_true rfl) rfl ?_
        refine r_goto (pc := 32) ok 2 dX5_findPerson_32 rfl ?_
        exact hc (a + (1 : Int32))
theorem vQu_findPerson {Z : Cx} {G : Gx} {b : Nat} {iq : Nat} {XX YY : Nat → Obj} {q : Obj} {v1 : Int64} (ok : OK Z G b cX5_findPerson 4 0 RX5 (some .int)) (hq : isQu iq) (hr_q : XX iq = q) : VO Z G b 4 (fun (r : Int32) => QX Z b (qI G b r (mx XX YY))) (mx XX YY) 0 [some (.ref (b + iq)), some (.long v1), none, none] [] ((fQu_findPerson q v1).bind some) := by
  unfold fQu_findPerson
  refine r_iconst (pc := 0) ok (0 : Int32) dX5_findPerson_0 ci_0 ?_
  refine r_istore_n (pc := 1) ok dX5_findPerson_1 (Nat.le_of_ble_eq_true rfl) rfl ?_
  refine r_iter (P := fun (a2 : Int32) o => VO Z G b 4 (fun (r : Int32) => QX Z b (qI G b r (mx XX YY))) (mx XX YY) 2 [some (.ref (b + iq)), some (.long v1), none, some (.int a2)] [] o) (E := fun (z : (Unit) ⊕ (Int32)) o => (∀ (e_2 : Unit), z = .inl e_2 → VO Z G b 4 (fun (r : Int32) => QX Z b (qI G b r (mx XX YY))) (mx XX YY) 35 [none, none, none, none] [] o) ∧ (∀ (r : Int32), z = .inr r → o = some r)) (fun _ => r_none) (fun K hc hx => wQu_findPerson_L2 ok hq hr_q (K := K) hc hx) (fun z => ⟨fun e2 hz => ?_, fun r hz => ?_⟩) FU (0 : Int32)
  · subst hz
    refine r_inl ?_
    refine r_iconst (pc := 35) ok (-1 : Int32) dX5_findPerson_35 ci_m1 ?_
    exact r_iret (pc := 36) ok dX5_findPerson_36 rfl
  · subst hz
    rfl
theorem tQu_findPerson {l : Launch} {G : Gx} {b : Nat} {iq : Nat} {XX YY : Nat → Obj} {q : Obj} {v1 : Int64} (hq : isQu iq) (hr_q : XX iq = q) {r : Int32} (hr : fQu_findPerson q v1 = some r) : MetG l G b yX5_findPerson cX5_findPerson 4 (some .int) 0 [.ref (b + iq), .long v1] (mx XX YY) (qI G b r (mx XX YY)) := by
  refine met_start [some (.ref (b + iq)), some (.long v1), none, none] (by decide +kernel) (Nat.le_of_ble_eq_true rfl) rfl (fun Z hl ok => ?_)
  clear hl
  exact vQu_findPerson ok hq hr_q r (by rw [hr]; rfl)
theorem vTa_personHere {Z : Cx} {G : Gx} {b : Nat} {iq : Nat} {XX YY : Nat → Obj} {q : Obj} {ta : Obj} (ok : OK Z G b cX10_personHere 3 1 RX10 (some .int)) (hq : isQu iq) (hr_q : XX iq = q) : VO Z G b 3 (fun (r : Int32 × Obj) => QX Z b (qI G b r.1 (mx (va_up XX 1 r.2) YY))) (mx (va_up XX 1 ta) YY) 0 [some (.ref (b + 1)), some (.ref (b + iq)), none] [] ((fTa_personHere q ta).bind some) := by
  unfold fTa_personHere
  refine r_aload_n (pc := 0) ok dX10_personHere_0 rfl ?_
  refine r_getI (pc := 1) ok cls10 sh_1 (k := 4) rfl (Nat.le_of_ble_eq_true rfl) (mx_l (Nat.le_of_ble_eq_true rfl) (va_up_self _ _ _)) dX10_personHere_1 fl_Ta_76 ?_
  refine r_iconst (pc := 4) ok (2 : Int32) dX10_personHere_4 ci_2 ?_
  refine r_icmp_eq (pc := 5) ok 14 dX10_personHere_5 rfl (fun _ => ?_) (fun _ => ?_)
  · refine r_aload_n (pc := 14) ok dX10_personHere_14 rfl ?_
    refine r_aload_n (pc := 15) ok dX10_personHere_15 rfl ?_
    refine r_getJ (pc := 16) ok cls10 sh_1 (k := 6) rfl (Nat.le_of_ble_eq_true rfl) (mx_l (Nat.le_of_ble_eq_true rfl) (va_up_self _ _ _)) dX10_personHere_16 fl_Ta_88 ?_
    refine k_I (pc := 19) (fun r1 => r1) (fun r1 => mx (va_up XX 1 ta) YY) (fun r1 hr_ => c_V (n := 1) ok cls5 (qu_sh hq) rfl ml_Ta_105 wv_X5_findPerson yk_X5_findPerson rfl (Nat.le_of_ble_eq_true rfl) (Nat.le_of_ble_eq_true rfl) (tQu_findPerson hq ((va_up_ne _ _ (qu_ne hq (by decide))).trans (hr_q)) hr_) rfl (Nat.le_of_ble_eq_true rfl) dX10_personHere_19) (fun r1 => ?_)
    refine r_istore_n (pc := 22) ok dX10_personHere_22 (Nat.le_of_ble_eq_true rfl) rfl ?_
    refine r_iload_n (pc := 23) ok dX10_personHere_23 rfl ?_
    refine r_iconst (pc := 24) ok (-1 : Int32) dX10_personHere_24 ci_m1 ?_
    refine r_icmp_ne (pc := 25) ok 36 dX10_personHere_25 rfl (fun _ => ?_) (fun _ => ?_)
    · refine r_aload_n (pc := 28) ok dX10_personHere_28 rfl ?_
      refine r_iconst (pc := 29) ok (3 : Int32) dX10_personHere_29 ci_3 ?_
      refine k_I (pc := 30) (fun r2 => r2.1) (fun r2 => mx (va_up XX 1 r2.2) YY) (fun r2 hr_ => c_V (n := 1) ok cls10 sh_1 rfl ml_Ta_96 wv_X10_refuse yk_X10_refuse rfl (Nat.le_of_ble_eq_true rfl) (Nat.le_of_ble_eq_true rfl) (tTa_refuse hr_) rfl (Nat.le_of_ble_eq_true rfl) dX10_personHere_30) (fun r2 => ?_)
      refine r_goto (pc := 33) ok 37 dX10_personHere_33 rfl ?_
      exact r_iret (pc := 37) ok dX10_personHere_37 rfl
    · refine r_iload_n (pc := 36) ok dX10_personHere_36 rfl ?_
      exact r_iret (pc := 37) ok dX10_personHere_37 rfl
  · refine r_aload_n (pc := 8) ok dX10_personHere_8 rfl ?_
    refine r_iconst (pc := 9) ok (1 : Int32) dX10_personHere_9 ci_1 ?_
    refine k_I (pc := 10) (fun r3 => r3.1) (fun r3 => mx (va_up XX 1 r3.2) YY) (fun r3 hr_ => c_V (n := 1) ok cls10 sh_1 rfl ml_Ta_96 wv_X10_refuse yk_X10_refuse rfl (Nat.le_of_ble_eq_true rfl) (Nat.le_of_ble_eq_true rfl) (tTa_refuse hr_) rfl (Nat.le_of_ble_eq_true rfl) dX10_personHere_10) (fun r3 => ?_)
    exact r_iret (pc := 13) ok dX10_personHere_13 rfl
theorem tTa_personHere {l : Launch} {G : Gx} {b : Nat} {iq : Nat} {XX YY : Nat → Obj} {q : Obj} {ta : Obj} (hq : isQu iq) (hr_q : XX iq = q) {r : Int32 × Obj} (hr : fTa_personHere q ta = some r) : MetG l G b yX10_personHere cX10_personHere 3 (some .int) 1 [.ref (b + 1), .ref (b + iq)] (mx (va_up XX 1 ta) YY) (qI G b r.1 (mx (va_up XX 1 r.2) YY)) := by
  refine met_start [some (.ref (b + 1)), some (.ref (b + iq)), none] (by decide +kernel) (Nat.le_of_ble_eq_true rfl) rfl (fun Z hl ok => ?_)
  clear hl
  exact vTa_personHere ok hq hr_q r (by rw [hr]; rfl)
theorem vTa_takePerson {Z : Cx} {G : Gx} {b : Nat} {iq : Nat} {XX YY : Nat → Obj} {q : Obj} {ta : Obj} (ok : OK Z G b cX10_takePerson 2 2 RX10 (some .int)) (hq : isQu iq) (hr_q : XX iq = q) : VO Z G b 2 (fun (r : Int32 × Obj) => QX Z b (qI G b r.1 (mx (va_up XX 1 r.2) YY))) (mx (va_up XX 1 ta) YY) 0 [some (.ref (b + 1)), some (.ref (b + iq))] [] ((fTa_takePerson q ta).bind some) := by
  unfold fTa_takePerson
  refine r_aload_n (pc := 0) ok dX10_takePerson_0 rfl ?_
  refine k_V (pc := 1)  (fun r1 => mx (va_up XX 1 r1) YY) (fun r1 hr_ => c_V (n := 0) ok cls10 sh_1 rfl ml_Ta_59 wv_X10_take yk_X10_take rfl (Nat.le_of_ble_eq_true rfl) (Nat.le_of_ble_eq_true rfl) (tTa_take hr_) rfl (Nat.le_of_ble_eq_true rfl) dX10_takePerson_1) (fun r1 => ?_)
  refine r_aload_n (pc := 4) ok dX10_takePerson_4 rfl ?_
  refine r_aload_n (pc := 5) ok dX10_takePerson_5 rfl ?_
  refine k_I (pc := 6) (fun r2 => r2.1) (fun r2 => mx (va_up XX 1 r2.2) YY) (fun r2 hr_ => c_V (n := 1) ok cls10 sh_1 rfl ml_Ta_112 wv_X10_personHere yk_X10_personHere rfl (Nat.le_of_ble_eq_true rfl) (Nat.le_of_ble_eq_true rfl) (tTa_personHere hq (hr_q) hr_) rfl (Nat.le_of_ble_eq_true rfl) dX10_takePerson_6) (fun r2 => ?_)
  exact r_iret (pc := 9) ok dX10_takePerson_9 rfl
theorem tTa_takePerson {l : Launch} {G : Gx} {b : Nat} {iq : Nat} {XX YY : Nat → Obj} {q : Obj} {ta : Obj} (hq : isQu iq) (hr_q : XX iq = q) {r : Int32 × Obj} (hr : fTa_takePerson q ta = some r) : MetG l G b yX10_takePerson cX10_takePerson 2 (some .int) 2 [.ref (b + 1), .ref (b + iq)] (mx (va_up XX 1 ta) YY) (qI G b r.1 (mx (va_up XX 1 r.2) YY)) := by
  refine met_start [some (.ref (b + 1)), some (.ref (b + iq))] (by decide +kernel) (Nat.le_of_ble_eq_true rfl) rfl (fun Z hl ok => ?_)
  clear hl
  exact vTa_takePerson ok hq hr_q r (by rw [hr]; rfl)
theorem vQu_hasPerson {Z : Cx} {G : Gx} {b : Nat} {iq : Nat} {XX YY : Nat → Obj} {q : Obj} {v1 : Int32} (ok : OK Z G b cX5_hasPerson 2 0 RX5 (some .boolean)) (hq : isQu iq) (hr_q : XX iq = q) : VO Z G b 2 (fun (r : Int32) => QX Z b (qI G b r (mx XX YY))) (mx XX YY) 0 [some (.ref (b + iq)), some (.int v1)] [] ((fQu_hasPerson q v1).bind some) := by
  unfold fQu_hasPerson
  refine r_iload_n (pc := 0) ok dX5_hasPerson_0 rfl ?_
  refine r_if_lt (pc := 1) ok 22 dX5_hasPerson_1 rfl (fun _ => ?_) (fun _ => ?_)
  · refine r_iconst (pc := 22) ok (0 : Int32) dX5_hasPerson_22 ci_0 ?_
    exact r_zret (pc := 23) ok dX5_hasPerson_23 za_0 rfl
  · refine r_iload_n (pc := 4) ok dX5_hasPerson_4 rfl ?_
    refine r_aload_n (pc := 5) ok dX5_hasPerson_5 rfl ?_
    refine r_getI (pc := 6) ok cls5 (qu_sh hq) (k := 4) rfl (Nat.le_of_ble_eq_true rfl) (mx_l (qu_lt hq) (hr_q)) dX5_hasPerson_6 fl_Qu_44 ?_
    refine r_icmp_ge (pc := 9) ok 22 dX5_hasPerson_9 rfl (fun _ => ?_) (fun _ => ?_)
    · refine r_iconst (pc := 22) ok (0 : Int32) dX5_hasPerson_22 ci_0 ?_
      exact r_zret (pc := 23) ok dX5_hasPerson_23 za_0 rfl
    · refine r_iload_n (pc := 12) ok dX5_hasPerson_12 rfl ?_
      refine r_bipush (pc := 13) ok (8 : Int32) dX5_hasPerson_13 cb_8 ?_
      refine r_icmp_ge (pc := 15) ok 22 dX5_hasPerson_15 rfl (fun _ => ?_) (fun _ => ?_)
      · refine r_iconst (pc := 22) ok (0 : Int32) dX5_hasPerson_22 ci_0 ?_
        exact r_zret (pc := 23) ok dX5_hasPerson_23 za_0 rfl
      · refine r_iconst (pc := 18) ok (1 : Int32) dX5_hasPerson_18 ci_1 ?_
        refine r_goto (pc := 19) ok 23 dX5_hasPerson_19 rfl ?_
        exact r_zret (pc := 23) ok dX5_hasPerson_23 za_1 rfl
theorem tQu_hasPerson {l : Launch} {G : Gx} {b : Nat} {iq : Nat} {XX YY : Nat → Obj} {q : Obj} {v1 : Int32} (hq : isQu iq) (hr_q : XX iq = q) {r : Int32} (hr : fQu_hasPerson q v1 = some r) : MetG l G b yX5_hasPerson cX5_hasPerson 2 (some .boolean) 0 [.ref (b + iq), .int v1] (mx XX YY) (qI G b r (mx XX YY)) := by
  refine met_start [some (.ref (b + iq)), some (.int v1)] (by decide +kernel) (Nat.le_of_ble_eq_true rfl) rfl (fun Z hl ok => ?_)
  clear hl
  exact vQu_hasPerson ok hq hr_q r (by rw [hr]; rfl)
theorem vQu_hasHouse {Z : Cx} {G : Gx} {b : Nat} {iq : Nat} {XX YY : Nat → Obj} {q : Obj} {v1 : Int32} (ok : OK Z G b cX5_hasHouse 2 0 RX5 (some .boolean)) (hq : isQu iq) (hr_q : XX iq = q) : VO Z G b 2 (fun (r : Int32) => QX Z b (qI G b r (mx XX YY))) (mx XX YY) 0 [some (.ref (b + iq)), some (.int v1)] [] ((fQu_hasHouse q v1).bind some) := by
  unfold fQu_hasHouse
  refine r_iload_n (pc := 0) ok dX5_hasHouse_0 rfl ?_
  refine r_if_lt (pc := 1) ok 22 dX5_hasHouse_1 rfl (fun _ => ?_) (fun _ => ?_)
  · refine r_iconst (pc := 22) ok (0 : Int32) dX5_hasHouse_22 ci_0 ?_
    exact r_zret (pc := 23) ok dX5_hasHouse_23 za_0 rfl
  · refine r_iload_n (pc := 4) ok dX5_hasHouse_4 rfl ?_
    refine r_aload_n (pc := 5) ok dX5_hasHouse_5 rfl ?_
    refine r_getI (pc := 6) ok cls5 (qu_sh hq) (k := 3) rfl (Nat.le_of_ble_eq_true rfl) (mx_l (qu_lt hq) (hr_q)) dX5_hasHouse_6 fl_Qu_41 ?_
    refine r_icmp_ge (pc := 9) ok 22 dX5_hasHouse_9 rfl (fun _ => ?_) (fun _ => ?_)
    · refine r_iconst (pc := 22) ok (0 : Int32) dX5_hasHouse_22 ci_0 ?_
      exact r_zret (pc := 23) ok dX5_hasHouse_23 za_0 rfl
    · refine r_iload_n (pc := 12) ok dX5_hasHouse_12 rfl ?_
      refine r_bipush (pc := 13) ok (6 : Int32) dX5_hasHouse_13 cb_6 ?_
      refine r_icmp_ge (pc := 15) ok 22 dX5_hasHouse_15 rfl (fun _ => ?_) (fun _ => ?_)
      · refine r_iconst (pc := 22) ok (0 : Int32) dX5_hasHouse_22 ci_0 ?_
        exact r_zret (pc := 23) ok dX5_hasHouse_23 za_0 rfl
      · refine r_iconst (pc := 18) ok (1 : Int32) dX5_hasHouse_18 ci_1 ?_
        refine r_goto (pc := 19) ok 23 dX5_hasHouse_19 rfl ?_
        exact r_zret (pc := 23) ok dX5_hasHouse_23 za_1 rfl
theorem tQu_hasHouse {l : Launch} {G : Gx} {b : Nat} {iq : Nat} {XX YY : Nat → Obj} {q : Obj} {v1 : Int32} (hq : isQu iq) (hr_q : XX iq = q) {r : Int32} (hr : fQu_hasHouse q v1 = some r) : MetG l G b yX5_hasHouse cX5_hasHouse 2 (some .boolean) 0 [.ref (b + iq), .int v1] (mx XX YY) (qI G b r (mx XX YY)) := by
  refine met_start [some (.ref (b + iq)), some (.int v1)] (by decide +kernel) (Nat.le_of_ble_eq_true rfl) rfl (fun Z hl ok => ?_)
  clear hl
  exact vQu_hasHouse ok hq hr_q r (by rw [hr]; rfl)
theorem vQu_homeOf {Z : Cx} {G : Gx} {b : Nat} {iq : Nat} {XX YY : Nat → Obj} {q : Obj} {v1 : Int32} (ok : OK Z G b cX5_homeOf 2 1 RX5 (some .int)) (hq : isQu iq) (hr_q : XX iq = q) : VO Z G b 2 (fun (r : Int32) => QX Z b (qI G b r (mx XX YY))) (mx XX YY) 0 [some (.ref (b + iq)), some (.int v1)] [] ((fQu_homeOf q v1).bind some) := by
  unfold fQu_homeOf
  refine r_aload_n (pc := 0) ok dX5_homeOf_0 rfl ?_
  refine r_iload_n (pc := 1) ok dX5_homeOf_1 rfl ?_
  refine k_I (pc := 2) (fun r1 => r1) (fun r1 => mx XX YY) (fun r1 hr_ => c_V (n := 1) ok cls5 (qu_sh hq) rfl ml_Qu_57 wv_X5_hasPerson yk_X5_hasPerson rfl (Nat.le_of_ble_eq_true rfl) (Nat.le_of_ble_eq_true rfl) (tQu_hasPerson hq (hr_q) hr_) rfl (Nat.le_of_ble_eq_true rfl) dX5_homeOf_2) (fun r1 => ?_)
  refine r_if_eq (pc := 5) ok 17 dX5_homeOf_5 rfl (fun _ => ?_) (fun _ => ?_)
  · refine r_iconst (pc := 17) ok (-1 : Int32) dX5_homeOf_17 ci_m1 ?_
    exact r_iret (pc := 18) ok dX5_homeOf_18 rfl
  · refine r_aload_n (pc := 8) ok dX5_homeOf_8 rfl ?_
    refine r_getR (pc := 9) ok cls5 (qu_sh hq) (k := 8) rfl (Nat.le_of_ble_eq_true rfl) rfl dX5_homeOf_9 fl_Qu_32 ?_
    refine r_iload_n (pc := 12) ok dX5_homeOf_12 rfl ?_
    refine r_iald (pc := 13) ok (qu_s4 hq) (Nat.add_sub_cancel_left _ _) (mx_l (qu_lt hq) (hr_q)) dX5_homeOf_13 (fun i2 => ?_)
    refine r_goto (pc := 14) ok 18 dX5_homeOf_14 rfl ?_
    exact r_iret (pc := 18) ok dX5_homeOf_18 rfl
theorem tQu_homeOf {l : Launch} {G : Gx} {b : Nat} {iq : Nat} {XX YY : Nat → Obj} {q : Obj} {v1 : Int32} (hq : isQu iq) (hr_q : XX iq = q) {r : Int32} (hr : fQu_homeOf q v1 = some r) : MetG l G b yX5_homeOf cX5_homeOf 2 (some .int) 1 [.ref (b + iq), .int v1] (mx XX YY) (qI G b r (mx XX YY)) := by
  refine met_start [some (.ref (b + iq)), some (.int v1)] (by decide +kernel) (Nat.le_of_ble_eq_true rfl) rfl (fun Z hl ok => ?_)
  clear hl
  exact vQu_homeOf ok hq hr_q r (by rw [hr]; rfl)
theorem wSc_housesToCallAt_L4 {Z : Cx} {G : Gx} {b : Nat} {io : Nat} {XX YY : Nat → Obj} {sc : Obj} {v1 : Int32} (ok : OK Z G b cX8_housesToCallAt 4 0 RX8 (some .int)) (ho : isSc io) (hr_sc : XX io = sc) {K : ((Int32 × Int32) ⊕ (Int32)) → Option (Int32)} (hc : ∀ (a : Int32 × Int32), VO Z G b 4 (fun (r : Int32) => QX Z b (qI G b r (mx XX YY))) (mx XX YY) 4 [some (.ref (b + io)), some (.int v1), some (.int a.1), some (.int a.2)] [] (K (.inl a))) (hx : ∀ (e : Int32), VO Z G b 4 (fun (r : Int32) => QX Z b (qI G b r (mx XX YY))) (mx XX YY) 45 [none, none, some (.int e), none] [] (K (.inr e))) : ∀ (a : Int32 × Int32), VO Z G b 4 (fun (r : Int32) => QX Z b (qI G b r (mx XX YY))) (mx XX YY) 4 [some (.ref (b + io)), some (.int v1), some (.int a.1), some (.int a.2)] [] ((fSc_housesToCallAt_L4 sc v1 a).bind K) := by
  intro a
  unfold fSc_housesToCallAt_L4
  refine r_iload_n (pc := 4) ok dX8_housesToCallAt_4 rfl ?_
  refine r_aload_n (pc := 5) ok dX8_housesToCallAt_5 rfl ?_
  refine r_getI (pc := 6) ok cls8 (sc_sh ho) (k := 3) rfl (Nat.le_of_ble_eq_true rfl) (mx_l (sc_lt ho) (hr_sc)) dX8_housesToCallAt_6 fl_Sc_53 ?_
  refine r_icmp_ge (pc := 9) ok 45 dX8_housesToCallAt_9 rfl (fun _ => ?_) (fun _ => ?_)
  · refine r_lv (lk_n (lk_n (lk_s (lk_n lk_0 _) _) _) _) ?_
    exact hx a.1
  · refine r_iload_n (pc := 12) ok dX8_housesToCallAt_12 rfl ?_
    refine r_bipush (pc := 13) ok (12 : Int32) dX8_housesToCallAt_13 cb_12 ?_
    refine r_icmp_ge (pc := 15) ok 45 dX8_housesToCallAt_15 rfl (fun _ => ?_) (fun _ => ?_)
    · refine r_lv (lk_n (lk_n (lk_s (lk_n lk_0 _) _) _) _) ?_
      exact hx a.1
    · refine r_aload_n (pc := 18) ok dX8_housesToCallAt_18 rfl ?_
      refine r_getR (pc := 19) ok cls8 (sc_sh ho) (k := 4) rfl (Nat.le_of_ble_eq_true rfl) rfl dX8_housesToCallAt_19 fl_Sc_9 ?_
      refine r_iload_n (pc := 22) ok dX8_housesToCallAt_22 rfl ?_
      refine r_iald (pc := 23) ok (sc_s1 ho) (Nat.add_sub_cancel_left _ _) (mx_l (sc_lt ho) (hr_sc)) dX8_housesToCallAt_23 (fun i1 => ?_)
      refine r_iload_n (pc := 24) ok dX8_housesToCallAt_24 rfl ?_
      refine r_icmp_ne (pc := 25) ok 39 dX8_housesToCallAt_25 rfl (fun _ => ?_) (fun _ => ?_)
      · refine r_iload_n (pc := 28) ok dX8_housesToCallAt_28 rfl ?_
        refine r_iconst (pc := 29) ok (1 : Int32) dX8_housesToCallAt_29 ci_1 ?_
        refine r_aload_n (pc := 30) ok dX8_housesToCallAt_30 rfl ?_
        refine r_getR (pc := 31) ok cls8 (sc_sh ho) (k := 5) rfl (Nat.le_of_ble_eq_true rfl) rfl dX8_housesToCallAt_31 fl_Sc_15 ?_
        refine r_iload_n (pc := 34) ok dX8_housesToCallAt_34 rfl ?_
        refine r_iald (pc := 35) ok (sc_s2 ho) (Nat.add_sub_cancel_left _ _) (mx_l (sc_lt ho) (hr_sc)) dX8_housesToCallAt_35 (fun i2 => ?_)
        refine r_ishl (pc := 36) ok dX8_housesToCallAt_36 ?_
        refine r_ior (pc := 37) ok dX8_housesToCallAt_37 ?_
        refine r_bndI (fun x3 => ?_)
        refine r_istore_n (pc := 38) ok dX8_housesToCallAt_38 (Nat.le_of_ble_eq_true rfl) rfl ?_
        refine r_iinc (pc := 39) ok (1 : Int32) dX8_housesToCallAt_39 ci_1 rfl (Nat.le_of_ble_eq_true rfl) rfl ?_
        refine r_goto (pc := 42) ok 4 dX8_housesToCallAt_42 rfl ?_
        exact hc (x3, (a.2 + (1 : Int32)))
      · refine r_iinc (pc := 39) ok (1 : Int32) dX8_housesToCallAt_39 ci_1 rfl (Nat.le_of_ble_eq_true rfl) rfl ?_
        refine r_goto (pc := 42) ok 4 dX8_housesToCallAt_42 rfl ?_
        exact hc (a.1, (a.2 + (1 : Int32)))
theorem vSc_housesToCallAt {Z : Cx} {G : Gx} {b : Nat} {io : Nat} {XX YY : Nat → Obj} {sc : Obj} {v1 : Int32} (ok : OK Z G b cX8_housesToCallAt 4 0 RX8 (some .int)) (ho : isSc io) (hr_sc : XX io = sc) : VO Z G b 4 (fun (r : Int32) => QX Z b (qI G b r (mx XX YY))) (mx XX YY) 0 [some (.ref (b + io)), some (.int v1), none, none] [] ((fSc_housesToCallAt sc v1).bind some) := by
  unfold fSc_housesToCallAt
  refine r_iconst (pc := 0) ok (0 : Int32) dX8_housesToCallAt_0 ci_0 ?_
  refine r_istore_n (pc := 1) ok dX8_housesToCallAt_1 (Nat.le_of_ble_eq_true rfl) rfl ?_
  refine r_iconst (pc := 2) ok (0 : Int32) dX8_housesToCallAt_2 ci_0 ?_
  refine r_istore_n (pc := 3) ok dX8_housesToCallAt_3 (Nat.le_of_ble_eq_true rfl) rfl ?_
  refine r_iter (P := fun (a4 : Int32 × Int32) o => VO Z G b 4 (fun (r : Int32) => QX Z b (qI G b r (mx XX YY))) (mx XX YY) 4 [some (.ref (b + io)), some (.int v1), some (.int a4.1), some (.int a4.2)] [] o) (E := fun (e_4 : Int32) o => VO Z G b 4 (fun (r : Int32) => QX Z b (qI G b r (mx XX YY))) (mx XX YY) 45 [none, none, some (.int e_4), none] [] o) (fun _ => r_none) (fun K hc hx => wSc_housesToCallAt_L4 ok ho hr_sc (K := K) hc hx) (fun e4 => ?_) FU ((0 : Int32), (0 : Int32))
  refine r_iload_n (pc := 45) ok dX8_housesToCallAt_45 rfl ?_
  exact r_iret (pc := 46) ok dX8_housesToCallAt_46 rfl
theorem tSc_housesToCallAt {l : Launch} {G : Gx} {b : Nat} {io : Nat} {XX YY : Nat → Obj} {sc : Obj} {v1 : Int32} (ho : isSc io) (hr_sc : XX io = sc) {r : Int32} (hr : fSc_housesToCallAt sc v1 = some r) : MetG l G b yX8_housesToCallAt cX8_housesToCallAt 4 (some .int) 0 [.ref (b + io), .int v1] (mx XX YY) (qI G b r (mx XX YY)) := by
  refine met_start [some (.ref (b + io)), some (.int v1), none, none] (by decide +kernel) (Nat.le_of_ble_eq_true rfl) rfl (fun Z hl ok => ?_)
  clear hl
  exact vSc_housesToCallAt ok ho hr_sc r (by rw [hr]; rfl)
theorem vKL_hasBit {Z : Cx} {G : Gx} {b : Nat} {XX YY : Nat → Obj} {v0 : Int32} {v1 : Int32} (ok : OK Z G b cX11_hasBit 2 0 RX11 (some .boolean)) : VO Z G b 2 (fun (r : Int32) => QX Z b (qI G b r (mx XX YY))) (mx XX YY) 0 [some (.int v0), some (.int v1)] [] ((fKL_hasBit v0 v1).bind some) := by
  unfold fKL_hasBit
  refine r_iload_n (pc := 0) ok dX11_hasBit_0 rfl ?_
  refine r_iload_n (pc := 1) ok dX11_hasBit_1 rfl ?_
  refine r_ishr (pc := 2) ok dX11_hasBit_2 ?_
  refine r_iconst (pc := 3) ok (1 : Int32) dX11_hasBit_3 ci_1 ?_
  refine r_iand (pc := 4) ok dX11_hasBit_4 ?_
  refine r_iconst (pc := 5) ok (1 : Int32) dX11_hasBit_5 ci_1 ?_
  refine r_icmp_ne (pc := 6) ok 13 dX11_hasBit_6 rfl (fun _ => ?_) (fun _ => ?_)
  · refine r_iconst (pc := 9) ok (1 : Int32) dX11_hasBit_9 ci_1 ?_
    refine r_goto (pc := 10) ok 14 dX11_hasBit_10 rfl ?_
    exact r_zret (pc := 14) ok dX11_hasBit_14 za_1 rfl
  · refine r_iconst (pc := 13) ok (0 : Int32) dX11_hasBit_13 ci_0 ?_
    exact r_zret (pc := 14) ok dX11_hasBit_14 za_0 rfl
theorem tKL_hasBit {l : Launch} {G : Gx} {b : Nat} {XX YY : Nat → Obj} {v0 : Int32} {v1 : Int32} {r : Int32} (hr : fKL_hasBit v0 v1 = some r) : MetG l G b yX11_hasBit cX11_hasBit 2 (some .boolean) 0 [.int v0, .int v1] (mx XX YY) (qI G b r (mx XX YY)) := by
  refine met_start [some (.int v0), some (.int v1)] (by decide +kernel) (Nat.le_of_ble_eq_true rfl) rfl (fun Z hl ok => ?_)
  clear hl
  exact vKL_hasBit ok r (by rw [hr]; rfl)
theorem vSc_tryCall {Z : Cx} {G : Gx} {b : Nat} {io : Nat} {XX YY : Nat → Obj} {q : Obj} {sc : Obj} {v1 : Int32} {v2 : Int32} (ok : OK Z G b cX8_tryCall 3 2 RX8 (some .int)) (ho : isSc io) (hr_q : XX (qid io) = q) : VO Z G b 3 (fun (r : Int32 × Obj) => QX Z b (qI G b r.1 (mx (va_up XX io r.2) YY))) (mx (va_up XX io sc) YY) 0 [some (.ref (b + io)), some (.int v1), some (.int v2)] [] ((fSc_tryCall q sc v1 v2).bind some) := by
  unfold fSc_tryCall
  refine r_aload_n (pc := 0) ok dX8_tryCall_0 rfl ?_
  refine r_getR (pc := 1) ok cls8 (sc_sh ho) (k := 0) rfl (Nat.le_of_ble_eq_true rfl) rfl dX8_tryCall_1 fl_Sc_42 ?_
  refine r_iload_n (pc := 4) ok dX8_tryCall_4 rfl ?_
  refine k_I (pc := 5) (fun r1 => r1) (fun r1 => mx (va_up XX io sc) YY) (fun r1 hr_ => c_V (n := 1) ok cls5 (qu_sh (qid_qu ho)) rfl ml_Sc_62 wv_X5_hasPerson yk_X5_hasPerson rfl (Nat.le_of_ble_eq_true rfl) (Nat.le_of_ble_eq_true rfl) (tQu_hasPerson (qid_qu ho) ((va_up_ne _ _ (qid_ne ho)).trans (hr_q)) hr_) rfl (Nat.le_of_ble_eq_true rfl) dX8_tryCall_5) (fun r1 => ?_)
  refine r_if_eq (pc := 8) ok 22 dX8_tryCall_8 rfl (fun _ => ?_) (fun _ => ?_)
  · refine r_iconst (pc := 22) ok (-1 : Int32) dX8_tryCall_22 ci_m1 ?_
    exact r_iret (pc := 23) ok dX8_tryCall_23 rfl
  · refine r_aload_n (pc := 11) ok dX8_tryCall_11 rfl ?_
    refine r_getR (pc := 12) ok cls8 (sc_sh ho) (k := 0) rfl (Nat.le_of_ble_eq_true rfl) rfl dX8_tryCall_12 fl_Sc_42 ?_
    refine r_iload_n (pc := 15) ok dX8_tryCall_15 rfl ?_
    refine k_I (pc := 16) (fun r2 => r2) (fun r2 => mx (va_up XX io sc) YY) (fun r2 hr_ => c_V (n := 1) ok cls5 (qu_sh (qid_qu ho)) rfl ml_Sc_106 wv_X5_hasHouse yk_X5_hasHouse rfl (Nat.le_of_ble_eq_true rfl) (Nat.le_of_ble_eq_true rfl) (tQu_hasHouse (qid_qu ho) ((va_up_ne _ _ (qid_ne ho)).trans (hr_q)) hr_) rfl (Nat.le_of_ble_eq_true rfl) dX8_tryCall_16) (fun r2 => ?_)
    refine r_if_ne (pc := 19) ok 24 dX8_tryCall_19 rfl (fun _ => ?_) (fun _ => ?_)
    · refine r_iconst (pc := 22) ok (-1 : Int32) dX8_tryCall_22 ci_m1 ?_
      exact r_iret (pc := 23) ok dX8_tryCall_23 rfl
    · refine r_aload_n (pc := 24) ok dX8_tryCall_24 rfl ?_
      refine r_getR (pc := 25) ok cls8 (sc_sh ho) (k := 0) rfl (Nat.le_of_ble_eq_true rfl) rfl dX8_tryCall_25 fl_Sc_42 ?_
      refine r_iload_n (pc := 28) ok dX8_tryCall_28 rfl ?_
      refine k_I (pc := 29) (fun r3 => r3) (fun r3 => mx (va_up XX io sc) YY) (fun r3 hr_ => c_V (n := 1) ok cls5 (qu_sh (qid_qu ho)) rfl ml_Sc_68 wv_X5_homeOf yk_X5_homeOf rfl (Nat.le_of_ble_eq_true rfl) (Nat.le_of_ble_eq_true rfl) (tQu_homeOf (qid_qu ho) ((va_up_ne _ _ (qid_ne ho)).trans (hr_q)) hr_) rfl (Nat.le_of_ble_eq_true rfl) dX8_tryCall_29) (fun r3 => ?_)
      refine r_iload_n (pc := 32) ok dX8_tryCall_32 rfl ?_
      refine r_icmp_ne (pc := 33) ok 38 dX8_tryCall_33 rfl (fun _ => ?_) (fun _ => ?_)
      · refine r_iconst (pc := 36) ok (1 : Int32) dX8_tryCall_36 ci_1 ?_
        exact r_iret (pc := 37) ok dX8_tryCall_37 rfl
      · refine r_aload_n (pc := 38) ok dX8_tryCall_38 rfl ?_
        refine r_iload_n (pc := 39) ok dX8_tryCall_39 rfl ?_
        refine k_I (pc := 40) (fun r4 => r4) (fun r4 => mx (va_up XX io sc) YY) (fun r4 hr_ => c_V (n := 1) ok cls8 (sc_sh ho) rfl ml_Sc_79 wv_X8_housesToCallAt yk_X8_housesToCallAt rfl (Nat.le_of_ble_eq_true rfl) (Nat.le_of_ble_eq_true rfl) (tSc_housesToCallAt ho (va_up_self _ _ _) hr_) rfl (Nat.le_of_ble_eq_true rfl) dX8_tryCall_40) (fun r4 => ?_)
        refine r_iload_n (pc := 43) ok dX8_tryCall_43 rfl ?_
        refine k_I (pc := 44) (fun r5 => r5) (fun r5 => mx (va_up XX io sc) YY) (fun r5 hr_ => c_SN (n := 2) ok mn_Sc_88 ws_X11_hasBit yk_X11_hasBit rfl (Nat.le_of_ble_eq_true rfl) (Nat.le_of_ble_eq_true rfl) (tKL_hasBit hr_) rfl (Nat.le_of_ble_eq_true rfl) dX8_tryCall_44) (fun r5 => ?_)
        refine r_if_eq (pc := 47) ok 52 dX8_tryCall_47 rfl (fun _ => ?_) (fun _ => ?_)
        · refine r_aload_n (pc := 52) ok dX8_tryCall_52 rfl ?_
          refine r_getI (pc := 53) ok cls8 (sc_sh ho) (k := 3) rfl (Nat.le_of_ble_eq_true rfl) (mx_l (sc_lt ho) (va_up_self _ _ _)) dX8_tryCall_53 fl_Sc_53 ?_
          refine r_if_lt (pc := 56) ok 68 dX8_tryCall_56 rfl (fun _ => ?_) (fun _ => ?_)
          · refine r_iconst (pc := 68) ok (3 : Int32) dX8_tryCall_68 ci_3 ?_
            exact r_iret (pc := 69) ok dX8_tryCall_69 rfl
          · refine r_aload_n (pc := 59) ok dX8_tryCall_59 rfl ?_
            refine r_getI (pc := 60) ok cls8 (sc_sh ho) (k := 3) rfl (Nat.le_of_ble_eq_true rfl) (mx_l (sc_lt ho) (va_up_self _ _ _)) dX8_tryCall_60 fl_Sc_53 ?_
            refine r_bipush (pc := 63) ok (12 : Int32) dX8_tryCall_63 cb_12 ?_
            refine r_icmp_lt (pc := 65) ok 70 dX8_tryCall_65 rfl (fun _ => ?_) (fun _ => ?_)
            · refine r_aload_n (pc := 70) ok dX8_tryCall_70 rfl ?_
              refine r_getR (pc := 71) ok cls8 (sc_sh ho) (k := 4) rfl (Nat.le_of_ble_eq_true rfl) rfl dX8_tryCall_71 fl_Sc_9 ?_
              refine r_aload_n (pc := 74) ok dX8_tryCall_74 rfl ?_
              refine r_getI (pc := 75) ok cls8 (sc_sh ho) (k := 3) rfl (Nat.le_of_ble_eq_true rfl) (mx_l (sc_lt ho) (va_up_self _ _ _)) dX8_tryCall_75 fl_Sc_53 ?_
              refine r_iload_n (pc := 78) ok dX8_tryCall_78 rfl ?_
              refine r_iast (pc := 79) ok (sc_s1 ho) (Nat.add_sub_cancel_left _ _) rfl (fun s_ => mx (va_up XX io s_) YY) (pm_l (sc_lt ho) (pm_0 _ _)).1 (pm_l (sc_lt ho) (pm_0 _ _)).2 dX8_tryCall_79 (fun i6 s7 => ?_)
              refine r_aload_n (pc := 80) ok dX8_tryCall_80 rfl ?_
              refine r_getR (pc := 81) ok cls8 (sc_sh ho) (k := 5) rfl (Nat.le_of_ble_eq_true rfl) rfl dX8_tryCall_81 fl_Sc_15 ?_
              refine r_aload_n (pc := 84) ok dX8_tryCall_84 rfl ?_
              refine r_getI (pc := 85) ok cls8 (sc_sh ho) (k := 3) rfl (Nat.le_of_ble_eq_true rfl) (mx_l (sc_lt ho) (va_up_self _ _ _)) dX8_tryCall_85 fl_Sc_53 ?_
              refine r_iload_n (pc := 88) ok dX8_tryCall_88 rfl ?_
              refine r_iast (pc := 89) ok (sc_s2 ho) (Nat.add_sub_cancel_left _ _) rfl (fun s_ => mx (va_up XX io s_) YY) (pm_l (sc_lt ho) (pm_0 _ _)).1 (pm_l (sc_lt ho) (pm_0 _ _)).2 dX8_tryCall_89 (fun i8 s9 => ?_)
              refine r_aload_n (pc := 90) ok dX8_tryCall_90 rfl ?_
              refine r_dup (pc := 91) ok dX8_tryCall_91 rfl ?_
              refine r_getI (pc := 92) ok cls8 (sc_sh ho) (k := 3) rfl (Nat.le_of_ble_eq_true rfl) (mx_l (sc_lt ho) (va_up_self _ _ _)) dX8_tryCall_92 fl_Sc_53 ?_
              refine r_iconst (pc := 95) ok (1 : Int32) dX8_tryCall_95 ci_1 ?_
              refine r_iadd (pc := 96) ok dX8_tryCall_96 ?_
              refine r_putI (pc := 97) ok cls8 (sc_sh ho) (k := 3) rfl (Nat.le_of_ble_eq_true rfl) (fun s_ => mx (va_up XX io s_) YY) (pm_l (sc_lt ho) (pm_0 _ _)).1 (pm_l (sc_lt ho) (pm_0 _ _)).2 rfl rfl rfl dX8_tryCall_97 fl_Sc_53 (fun s10 => ?_)
              refine r_iconst (pc := 100) ok (0 : Int32) dX8_tryCall_100 ci_0 ?_
              exact r_iret (pc := 101) ok dX8_tryCall_101 rfl
            · refine r_iconst (pc := 68) ok (3 : Int32) dX8_tryCall_68 ci_3 ?_
              exact r_iret (pc := 69) ok dX8_tryCall_69 rfl
        · refine r_iconst (pc := 50) ok (2 : Int32) dX8_tryCall_50 ci_2 ?_
          exact r_iret (pc := 51) ok dX8_tryCall_51 rfl
theorem tSc_tryCall {l : Launch} {G : Gx} {b : Nat} {io : Nat} {XX YY : Nat → Obj} {q : Obj} {sc : Obj} {v1 : Int32} {v2 : Int32} (ho : isSc io) (hr_q : XX (qid io) = q) {r : Int32 × Obj} (hr : fSc_tryCall q sc v1 v2 = some r) : MetG l G b yX8_tryCall cX8_tryCall 3 (some .int) 2 [.ref (b + io), .int v1, .int v2] (mx (va_up XX io sc) YY) (qI G b r.1 (mx (va_up XX io r.2) YY)) := by
  refine met_start [some (.ref (b + io)), some (.int v1), some (.int v2)] (by decide +kernel) (Nat.le_of_ble_eq_true rfl) rfl (fun Z hl ok => ?_)
  clear hl
  exact vSc_tryCall ok ho hr_q r (by rw [hr]; rfl)
theorem wQu_findHouse_L2 {Z : Cx} {G : Gx} {b : Nat} {iq : Nat} {XX YY : Nat → Obj} {q : Obj} {v1 : Int64} (ok : OK Z G b cX5_findHouse 4 0 RX5 (some .int)) (hq : isQu iq) (hr_q : XX iq = q) {K : ((Int32) ⊕ ((Unit) ⊕ (Int32))) → Option (Int32)} (hc : ∀ (a : Int32), VO Z G b 4 (fun (r : Int32) => QX Z b (qI G b r (mx XX YY))) (mx XX YY) 2 [some (.ref (b + iq)), some (.long v1), none, some (.int a)] [] (K (.inl a))) (hx : ∀ (z : (Unit) ⊕ (Int32)), (∀ (e : Unit), z = .inl e → VO Z G b 4 (fun (r : Int32) => QX Z b (qI G b r (mx XX YY))) (mx XX YY) 35 [none, none, none, none] [] (K (.inr z))) ∧ (∀ (r : Int32), z = .inr r → K (.inr z) = some r)) : ∀ (a : Int32), VO Z G b 4 (fun (r : Int32) => QX Z b (qI G b r (mx XX YY))) (mx XX YY) 2 [some (.ref (b + iq)), some (.long v1), none, some (.int a)] [] ((fQu_findHouse_L2 q v1 a).bind K) := by
  intro a
  unfold fQu_findHouse_L2
  refine r_iload_n (pc := 2) ok dX5_findHouse_2 rfl ?_
  refine r_aload_n (pc := 3) ok dX5_findHouse_3 rfl ?_
  refine r_getI (pc := 4) ok cls5 (qu_sh hq) (k := 3) rfl (Nat.le_of_ble_eq_true rfl) (mx_l (qu_lt hq) (hr_q)) dX5_findHouse_4 fl_Qu_41 ?_
  refine r_icmp_ge (pc := 7) ok 35 dX5_findHouse_7 rfl (fun _ => ?_) (fun _ => ?_)
  · refine r_lv (lk_n (lk_n (lk_n (lk_n lk_0 _) _) _) _) ?_
    exact (hx (.inl ())).1 _ rfl
  · refine r_iload_n (pc := 10) ok dX5_findHouse_10 rfl ?_
    refine r_bipush (pc := 11) ok (6 : Int32) dX5_findHouse_11 cb_6 ?_
    refine r_icmp_ge (pc := 13) ok 35 dX5_findHouse_13 rfl (fun _ => ?_) (fun _ => ?_)
    · refine r_lv (lk_n (lk_n (lk_n (lk_n lk_0 _) _) _) _) ?_
      exact (hx (.inl ())).1 _ rfl
    · refine r_aload_n (pc := 16) ok dX5_findHouse_16 rfl ?_
      refine r_getR (pc := 17) ok cls5 (qu_sh hq) (k := 7) rfl (Nat.le_of_ble_eq_true rfl) rfl dX5_findHouse_17 fl_Qu_28 ?_
      refine r_iload_n (pc := 20) ok dX5_findHouse_20 rfl ?_
      refine r_lald (pc := 21) ok (qu_s3 hq) (Nat.add_sub_cancel_left _ _) (mx_l (qu_lt hq) (hr_q)) dX5_findHouse_21 (fun i1 => ?_)
      refine r_lload_n (pc := 22) ok dX5_findHouse_22 rfl ?_
      refine r_lcmp (pc := 23) ok dX5_findHouse_23 ?_
      refine r_if_ne (pc := 24) ok 29 dX5_findHouse_24 rfl (fun _ => ?_) (fun _ => ?_)
      · refine r_iload_n (pc := 27) ok dX5_findHouse_27 rfl ?_
        refine r_eq ((hx (.inr a)).2 _ rfl) ?_
        exact r_iret (pc := 28) ok dX5_findHouse_28 rfl
      · refine r_iinc (pc := 29) ok (1 : Int32) dX5_findHouse_29 ci_1 rfl (Nat.le_of_ble_eq_true rfl) rfl ?_
        refine r_goto (pc := 32) ok 2 dX5_findHouse_32 rfl ?_
        exact hc (a + (1 : Int32))
theorem vQu_findHouse {Z : Cx} {G : Gx} {b : Nat} {iq : Nat} {XX YY : Nat → Obj} {q : Obj} {v1 : Int64} (ok : OK Z G b cX5_findHouse 4 0 RX5 (some .int)) (hq : isQu iq) (hr_q : XX iq = q) : VO Z G b 4 (fun (r : Int32) => QX Z b (qI G b r (mx XX YY))) (mx XX YY) 0 [some (.ref (b + iq)), some (.long v1), none, none] [] ((fQu_findHouse q v1).bind some) := by
  unfold fQu_findHouse
  refine r_iconst (pc := 0) ok (0 : Int32) dX5_findHouse_0 ci_0 ?_
  refine r_istore_n (pc := 1) ok dX5_findHouse_1 (Nat.le_of_ble_eq_true rfl) rfl ?_
  refine r_iter (P := fun (a2 : Int32) o => VO Z G b 4 (fun (r : Int32) => QX Z b (qI G b r (mx XX YY))) (mx XX YY) 2 [some (.ref (b + iq)), some (.long v1), none, some (.int a2)] [] o) (E := fun (z : (Unit) ⊕ (Int32)) o => (∀ (e_2 : Unit), z = .inl e_2 → VO Z G b 4 (fun (r : Int32) => QX Z b (qI G b r (mx XX YY))) (mx XX YY) 35 [none, none, none, none] [] o) ∧ (∀ (r : Int32), z = .inr r → o = some r)) (fun _ => r_none) (fun K hc hx => wQu_findHouse_L2 ok hq hr_q (K := K) hc hx) (fun z => ⟨fun e2 hz => ?_, fun r hz => ?_⟩) FU (0 : Int32)
  · subst hz
    refine r_inl ?_
    refine r_iconst (pc := 35) ok (-1 : Int32) dX5_findHouse_35 ci_m1 ?_
    exact r_iret (pc := 36) ok dX5_findHouse_36 rfl
  · subst hz
    rfl
theorem tQu_findHouse {l : Launch} {G : Gx} {b : Nat} {iq : Nat} {XX YY : Nat → Obj} {q : Obj} {v1 : Int64} (hq : isQu iq) (hr_q : XX iq = q) {r : Int32} (hr : fQu_findHouse q v1 = some r) : MetG l G b yX5_findHouse cX5_findHouse 4 (some .int) 0 [.ref (b + iq), .long v1] (mx XX YY) (qI G b r (mx XX YY)) := by
  refine met_start [some (.ref (b + iq)), some (.long v1), none, none] (by decide +kernel) (Nat.le_of_ble_eq_true rfl) rfl (fun Z hl ok => ?_)
  clear hl
  exact vQu_findHouse ok hq hr_q r (by rw [hr]; rfl)
theorem vTa_houseHere {Z : Cx} {G : Gx} {b : Nat} {iq : Nat} {XX YY : Nat → Obj} {q : Obj} {ta : Obj} (ok : OK Z G b cX10_houseHere 3 1 RX10 (some .int)) (hq : isQu iq) (hr_q : XX iq = q) : VO Z G b 3 (fun (r : Int32 × Obj) => QX Z b (qI G b r.1 (mx (va_up XX 1 r.2) YY))) (mx (va_up XX 1 ta) YY) 0 [some (.ref (b + 1)), some (.ref (b + iq)), none] [] ((fTa_houseHere q ta).bind some) := by
  unfold fTa_houseHere
  refine r_aload_n (pc := 0) ok dX10_houseHere_0 rfl ?_
  refine r_getI (pc := 1) ok cls10 sh_1 (k := 4) rfl (Nat.le_of_ble_eq_true rfl) (mx_l (Nat.le_of_ble_eq_true rfl) (va_up_self _ _ _)) dX10_houseHere_1 fl_Ta_76 ?_
  refine r_iconst (pc := 4) ok (2 : Int32) dX10_houseHere_4 ci_2 ?_
  refine r_icmp_eq (pc := 5) ok 14 dX10_houseHere_5 rfl (fun _ => ?_) (fun _ => ?_)
  · refine r_aload_n (pc := 14) ok dX10_houseHere_14 rfl ?_
    refine r_aload_n (pc := 15) ok dX10_houseHere_15 rfl ?_
    refine r_getJ (pc := 16) ok cls10 sh_1 (k := 6) rfl (Nat.le_of_ble_eq_true rfl) (mx_l (Nat.le_of_ble_eq_true rfl) (va_up_self _ _ _)) dX10_houseHere_16 fl_Ta_88 ?_
    refine k_I (pc := 19) (fun r1 => r1) (fun r1 => mx (va_up XX 1 ta) YY) (fun r1 hr_ => c_V (n := 1) ok cls5 (qu_sh hq) rfl ml_Ta_99 wv_X5_findHouse yk_X5_findHouse rfl (Nat.le_of_ble_eq_true rfl) (Nat.le_of_ble_eq_true rfl) (tQu_findHouse hq ((va_up_ne _ _ (qu_ne hq (by decide))).trans (hr_q)) hr_) rfl (Nat.le_of_ble_eq_true rfl) dX10_houseHere_19) (fun r1 => ?_)
    refine r_istore_n (pc := 22) ok dX10_houseHere_22 (Nat.le_of_ble_eq_true rfl) rfl ?_
    refine r_iload_n (pc := 23) ok dX10_houseHere_23 rfl ?_
    refine r_iconst (pc := 24) ok (-1 : Int32) dX10_houseHere_24 ci_m1 ?_
    refine r_icmp_ne (pc := 25) ok 36 dX10_houseHere_25 rfl (fun _ => ?_) (fun _ => ?_)
    · refine r_aload_n (pc := 28) ok dX10_houseHere_28 rfl ?_
      refine r_iconst (pc := 29) ok (3 : Int32) dX10_houseHere_29 ci_3 ?_
      refine k_I (pc := 30) (fun r2 => r2.1) (fun r2 => mx (va_up XX 1 r2.2) YY) (fun r2 hr_ => c_V (n := 1) ok cls10 sh_1 rfl ml_Ta_96 wv_X10_refuse yk_X10_refuse rfl (Nat.le_of_ble_eq_true rfl) (Nat.le_of_ble_eq_true rfl) (tTa_refuse hr_) rfl (Nat.le_of_ble_eq_true rfl) dX10_houseHere_30) (fun r2 => ?_)
      refine r_goto (pc := 33) ok 37 dX10_houseHere_33 rfl ?_
      exact r_iret (pc := 37) ok dX10_houseHere_37 rfl
    · refine r_iload_n (pc := 36) ok dX10_houseHere_36 rfl ?_
      exact r_iret (pc := 37) ok dX10_houseHere_37 rfl
  · refine r_aload_n (pc := 8) ok dX10_houseHere_8 rfl ?_
    refine r_iconst (pc := 9) ok (1 : Int32) dX10_houseHere_9 ci_1 ?_
    refine k_I (pc := 10) (fun r3 => r3.1) (fun r3 => mx (va_up XX 1 r3.2) YY) (fun r3 hr_ => c_V (n := 1) ok cls10 sh_1 rfl ml_Ta_96 wv_X10_refuse yk_X10_refuse rfl (Nat.le_of_ble_eq_true rfl) (Nat.le_of_ble_eq_true rfl) (tTa_refuse hr_) rfl (Nat.le_of_ble_eq_true rfl) dX10_houseHere_10) (fun r3 => ?_)
    exact r_iret (pc := 13) ok dX10_houseHere_13 rfl
theorem tTa_houseHere {l : Launch} {G : Gx} {b : Nat} {iq : Nat} {XX YY : Nat → Obj} {q : Obj} {ta : Obj} (hq : isQu iq) (hr_q : XX iq = q) {r : Int32 × Obj} (hr : fTa_houseHere q ta = some r) : MetG l G b yX10_houseHere cX10_houseHere 3 (some .int) 1 [.ref (b + 1), .ref (b + iq)] (mx (va_up XX 1 ta) YY) (qI G b r.1 (mx (va_up XX 1 r.2) YY)) := by
  refine met_start [some (.ref (b + 1)), some (.ref (b + iq)), none] (by decide +kernel) (Nat.le_of_ble_eq_true rfl) rfl (fun Z hl ok => ?_)
  clear hl
  exact vTa_houseHere ok hq hr_q r (by rw [hr]; rfl)
theorem vTa_takeHouse {Z : Cx} {G : Gx} {b : Nat} {iq : Nat} {XX YY : Nat → Obj} {q : Obj} {ta : Obj} (ok : OK Z G b cX10_takeHouse 2 2 RX10 (some .int)) (hq : isQu iq) (hr_q : XX iq = q) : VO Z G b 2 (fun (r : Int32 × Obj) => QX Z b (qI G b r.1 (mx (va_up XX 1 r.2) YY))) (mx (va_up XX 1 ta) YY) 0 [some (.ref (b + 1)), some (.ref (b + iq))] [] ((fTa_takeHouse q ta).bind some) := by
  unfold fTa_takeHouse
  refine r_aload_n (pc := 0) ok dX10_takeHouse_0 rfl ?_
  refine k_V (pc := 1)  (fun r1 => mx (va_up XX 1 r1) YY) (fun r1 hr_ => c_V (n := 0) ok cls10 sh_1 rfl ml_Ta_59 wv_X10_take yk_X10_take rfl (Nat.le_of_ble_eq_true rfl) (Nat.le_of_ble_eq_true rfl) (tTa_take hr_) rfl (Nat.le_of_ble_eq_true rfl) dX10_takeHouse_1) (fun r1 => ?_)
  refine r_aload_n (pc := 4) ok dX10_takeHouse_4 rfl ?_
  refine r_aload_n (pc := 5) ok dX10_takeHouse_5 rfl ?_
  refine k_I (pc := 6) (fun r2 => r2.1) (fun r2 => mx (va_up XX 1 r2.2) YY) (fun r2 hr_ => c_V (n := 1) ok cls10 sh_1 rfl ml_Ta_108 wv_X10_houseHere yk_X10_houseHere rfl (Nat.le_of_ble_eq_true rfl) (Nat.le_of_ble_eq_true rfl) (tTa_houseHere hq (hr_q) hr_) rfl (Nat.le_of_ble_eq_true rfl) dX10_takeHouse_6) (fun r2 => ?_)
  exact r_iret (pc := 9) ok dX10_takeHouse_9 rfl
theorem tTa_takeHouse {l : Launch} {G : Gx} {b : Nat} {iq : Nat} {XX YY : Nat → Obj} {q : Obj} {ta : Obj} (hq : isQu iq) (hr_q : XX iq = q) {r : Int32 × Obj} (hr : fTa_takeHouse q ta = some r) : MetG l G b yX10_takeHouse cX10_takeHouse 2 (some .int) 2 [.ref (b + 1), .ref (b + iq)] (mx (va_up XX 1 ta) YY) (qI G b r.1 (mx (va_up XX 1 r.2) YY)) := by
  refine met_start [some (.ref (b + 1)), some (.ref (b + iq))] (by decide +kernel) (Nat.le_of_ble_eq_true rfl) rfl (fun Z hl ok => ?_)
  clear hl
  exact vTa_takeHouse ok hq hr_q r (by rw [hr]; rfl)
theorem wQr_readCalls_J50 {Z : Cx} {G : Gx} {b : Nat} {XX YY : Nat → Obj} {q : Obj} {ta : Obj} {sc : Obj} {v1 : Int32} {k0 : Int32} (ok : OK Z G b cX6_readCalls 3 3 RX6 (some .boolean)) (hr_q : XX 29 = q) : VO Z G b 3 (fun (r : Int32 × Obj × Obj) => QX Z b (qI G b r.1 (mx (va_up (va_up XX 1 r.2.1) 36 r.2.2) YY))) (mx (va_up (va_up XX 1 ta) 36 sc) YY) 50 [some (.ref (b + 212)), some (.int v1), none] [.int k0] ((fQr_readCalls_J50 q ta sc v1 k0).bind some) := by
  unfold fQr_readCalls_J50
  refine r_istore_n (pc := 50) ok dX6_readCalls_50 (Nat.le_of_ble_eq_true rfl) rfl ?_
  refine r_iload_n (pc := 51) ok dX6_readCalls_51 rfl ?_
  refine r_iconst (pc := 52) ok (-1 : Int32) dX6_readCalls_52 ci_m1 ?_
  refine r_icmp_ne (pc := 53) ok 58 dX6_readCalls_53 rfl (fun _ => ?_) (fun _ => ?_)
  · refine r_iconst (pc := 56) ok (0 : Int32) dX6_readCalls_56 ci_0 ?_
    exact r_zret (pc := 57) ok dX6_readCalls_57 za_0 rfl
  · refine r_aload_n (pc := 58) ok dX6_readCalls_58 rfl ?_
    refine r_getR (pc := 59) ok cls6 sh_212 (k := 2) rfl (Nat.le_of_ble_eq_true rfl) rfl dX6_readCalls_59 fl_Qr_26 ?_
    refine r_iload_n (pc := 62) ok dX6_readCalls_62 rfl ?_
    refine r_iload_n (pc := 63) ok dX6_readCalls_63 rfl ?_
    refine k_I (pc := 64) (fun r2 => r2.1) (fun r2 => mx (va_up (va_up XX 1 ta) 36 r2.2) YY) (fun r2 hr_ => c_V (n := 2) ok cls8 sh_36 rfl ml_Qr_155 wv_X8_tryCall yk_X8_tryCall rfl (Nat.le_of_ble_eq_true rfl) (Nat.le_of_ble_eq_true rfl) (tSc_tryCall (sc_c (o := 36) (by decide)) ((va_up_ne _ _ (by decide)).trans (hr_q)) hr_) rfl (Nat.le_of_ble_eq_true rfl) dX6_readCalls_64) (fun r2 => ?_)
    refine r_if_eq (pc := 67) ok 78 dX6_readCalls_67 rfl (fun _ => ?_) (fun _ => ?_)
    · refine r_iconst (pc := 78) ok (1 : Int32) dX6_readCalls_78 ci_1 ?_
      refine r_goto (pc := 79) ok 83 dX6_readCalls_79 rfl ?_
      exact r_zret (pc := 83) ok dX6_readCalls_83 za_1 rfl
    · refine r_aload_n (pc := 70) ok dX6_readCalls_70 rfl ?_
      refine r_iconst (pc := 71) ok (3 : Int32) dX6_readCalls_71 ci_3 ?_
      refine k_I (pc := 72) (fun r3 => r3.1) (fun r3 => mx (va_up (va_up XX 1 r3.2) 36 r2.2) YY) (fun r3 hr_ => c_V (n := 1) ok cls6 sh_212 rfl ml_Qr_65 wv_X6_refuse yk_X6_refuse rfl (Nat.le_of_ble_eq_true rfl) (Nat.le_of_ble_eq_true rfl) (met_cast (congrArg (fun A_ => mx A_ YY) (up_co XX ta r2.2 (show 1 ≠ 36 from by decide))) (congrArg (fun A_ => qI G b r3.1 (mx A_ YY)) (up_co XX r3.2 r2.2 (show 1 ≠ 36 from by decide))) (tQr_refuse hr_)) rfl (Nat.le_of_ble_eq_true rfl) dX6_readCalls_72) (fun r3 => ?_)
      refine r_if_eq (pc := 75) ok 82 dX6_readCalls_75 rfl (fun _ => ?_) (fun _ => ?_)
      · refine r_iconst (pc := 82) ok (0 : Int32) dX6_readCalls_82 ci_0 ?_
        exact r_zret (pc := 83) ok dX6_readCalls_83 za_0 rfl
      · refine r_iconst (pc := 78) ok (1 : Int32) dX6_readCalls_78 ci_1 ?_
        refine r_goto (pc := 79) ok 83 dX6_readCalls_79 rfl ?_
        exact r_zret (pc := 83) ok dX6_readCalls_83 za_1 rfl
theorem vQr_readCalls {Z : Cx} {G : Gx} {b : Nat} {XX YY : Nat → Obj} {q : Obj} {ta : Obj} {sc : Obj} (ok : OK Z G b cX6_readCalls 3 3 RX6 (some .boolean)) (hr_q : XX 29 = q) : VO Z G b 3 (fun (r : Int32 × Obj × Obj) => QX Z b (qI G b r.1 (mx (va_up (va_up XX 1 r.2.1) 36 r.2.2) YY))) (mx (va_up (va_up XX 1 ta) 36 sc) YY) 0 [some (.ref (b + 212)), none, none] [] ((fQr_readCalls q ta sc).bind some) := by
  unfold fQr_readCalls
  refine r_aload_n (pc := 0) ok dX6_readCalls_0 rfl ?_
  refine r_getR (pc := 1) ok cls6 sh_212 (k := 2) rfl (Nat.le_of_ble_eq_true rfl) rfl dX6_readCalls_1 fl_Qr_26 ?_
  refine r_getI (pc := 4) ok cls8 sh_36 (k := 3) rfl (Nat.le_of_ble_eq_true rfl) (mx_l (Nat.le_of_ble_eq_true rfl) (va_up_self _ _ _)) dX6_readCalls_4 fl_Qr_149 ?_
  refine r_bipush (pc := 7) ok (12 : Int32) dX6_readCalls_7 cb_12 ?_
  refine r_icmp_lt (pc := 9) ok 18 dX6_readCalls_9 rfl (fun _ => ?_) (fun _ => ?_)
  · refine r_aload_n (pc := 18) ok dX6_readCalls_18 rfl ?_
    refine r_getR (pc := 19) ok cls6 sh_212 (k := 0) rfl (Nat.le_of_ble_eq_true rfl) rfl dX6_readCalls_19 fl_Qr_9 ?_
    refine r_aload_n (pc := 22) ok dX6_readCalls_22 rfl ?_
    refine r_getR (pc := 23) ok cls6 sh_212 (k := 1) rfl (Nat.le_of_ble_eq_true rfl) rfl dX6_readCalls_23 fl_Qr_21 ?_
    refine k_I (pc := 26) (fun r1 => r1.1) (fun r1 => mx (va_up (va_up XX 1 r1.2) 36 sc) YY) (fun r1 hr_ => c_V (n := 1) ok cls10 sh_1 rfl ml_Qr_143 wv_X10_takePerson yk_X10_takePerson rfl (Nat.le_of_ble_eq_true rfl) (Nat.le_of_ble_eq_true rfl) (met_cast (congrArg (fun A_ => mx A_ YY) (up_co XX ta sc (show 1 ≠ 36 from by decide))) (congrArg (fun A_ => qI G b r1.1 (mx A_ YY)) (up_co XX r1.2 sc (show 1 ≠ 36 from by decide))) (tTa_takePerson (qu_c (o := 29) (by decide)) ((va_up_ne _ _ (by decide)).trans (hr_q)) hr_)) rfl (Nat.le_of_ble_eq_true rfl) dX6_readCalls_26) (fun r1 => ?_)
    refine r_istore_n (pc := 29) ok dX6_readCalls_29 (Nat.le_of_ble_eq_true rfl) rfl ?_
    refine r_iload_n (pc := 30) ok dX6_readCalls_30 rfl ?_
    refine r_iconst (pc := 31) ok (-1 : Int32) dX6_readCalls_31 ci_m1 ?_
    refine r_icmp_ne (pc := 32) ok 39 dX6_readCalls_32 rfl (fun _ => ?_) (fun _ => ?_)
    · refine r_iconst (pc := 35) ok (-1 : Int32) dX6_readCalls_35 ci_m1 ?_
      refine r_goto (pc := 36) ok 50 dX6_readCalls_36 rfl ?_
      exact wQr_readCalls_J50 ok hr_q
    · refine r_aload_n (pc := 39) ok dX6_readCalls_39 rfl ?_
      refine r_getR (pc := 40) ok cls6 sh_212 (k := 0) rfl (Nat.le_of_ble_eq_true rfl) rfl dX6_readCalls_40 fl_Qr_9 ?_
      refine r_aload_n (pc := 43) ok dX6_readCalls_43 rfl ?_
      refine r_getR (pc := 44) ok cls6 sh_212 (k := 1) rfl (Nat.le_of_ble_eq_true rfl) rfl dX6_readCalls_44 fl_Qr_21 ?_
      refine k_I (pc := 47) (fun r4 => r4.1) (fun r4 => mx (va_up (va_up XX 1 r4.2) 36 sc) YY) (fun r4 hr_ => c_V (n := 1) ok cls10 sh_1 rfl ml_Qr_152 wv_X10_takeHouse yk_X10_takeHouse rfl (Nat.le_of_ble_eq_true rfl) (Nat.le_of_ble_eq_true rfl) (met_cast (congrArg (fun A_ => mx A_ YY) (up_co XX r1.2 sc (show 1 ≠ 36 from by decide))) (congrArg (fun A_ => qI G b r4.1 (mx A_ YY)) (up_co XX r4.2 sc (show 1 ≠ 36 from by decide))) (tTa_takeHouse (qu_c (o := 29) (by decide)) ((va_up_ne _ _ (by decide)).trans (hr_q)) hr_)) rfl (Nat.le_of_ble_eq_true rfl) dX6_readCalls_47) (fun r4 => ?_)
      exact wQr_readCalls_J50 ok hr_q
  · refine r_aload_n (pc := 12) ok dX6_readCalls_12 rfl ?_
    refine r_iconst (pc := 13) ok (4 : Int32) dX6_readCalls_13 ci_4 ?_
    refine k_I (pc := 14) (fun r5 => r5.1) (fun r5 => mx (va_up (va_up XX 1 r5.2) 36 sc) YY) (fun r5 hr_ => c_V (n := 1) ok cls6 sh_212 rfl ml_Qr_65 wv_X6_refuse yk_X6_refuse rfl (Nat.le_of_ble_eq_true rfl) (Nat.le_of_ble_eq_true rfl) (met_cast (congrArg (fun A_ => mx A_ YY) (up_co XX ta sc (show 1 ≠ 36 from by decide))) (congrArg (fun A_ => qI G b r5.1 (mx A_ YY)) (up_co XX r5.2 sc (show 1 ≠ 36 from by decide))) (tQr_refuse hr_)) rfl (Nat.le_of_ble_eq_true rfl) dX6_readCalls_14) (fun r5 => ?_)
    exact r_zret (pc := 17) ok dX6_readCalls_17 rfl rfl
theorem tQr_readCalls {l : Launch} {G : Gx} {b : Nat} {XX YY : Nat → Obj} {q : Obj} {ta : Obj} {sc : Obj} (hr_q : XX 29 = q) {r : Int32 × Obj × Obj} (hr : fQr_readCalls q ta sc = some r) : MetG l G b yX6_readCalls cX6_readCalls 3 (some .boolean) 3 [.ref (b + 212)] (mx (va_up (va_up XX 1 ta) 36 sc) YY) (qI G b r.1 (mx (va_up (va_up XX 1 r.2.1) 36 r.2.2) YY)) := by
  refine met_start [some (.ref (b + 212)), none, none] (by decide +kernel) (Nat.le_of_ble_eq_true rfl) rfl (fun Z hl ok => ?_)
  clear hl
  exact vQr_readCalls ok hr_q r (by rw [hr]; rfl)
theorem vSc_doesKnow {Z : Cx} {G : Gx} {b : Nat} {io : Nat} {XX YY : Nat → Obj} {q : Obj} {sc : Obj} {v1 : Int32} {v2 : Int32} (ok : OK Z G b cX8_doesKnow 3 1 RX8 (some .boolean)) (ho : isSc io) (hr_q : XX (qid io) = q) (hr_sc : XX io = sc) : VO Z G b 3 (fun (r : Int32) => QX Z b (qI G b r (mx XX YY))) (mx XX YY) 0 [some (.ref (b + io)), some (.int v1), some (.int v2)] [] ((fSc_doesKnow q sc v1 v2).bind some) := by
  unfold fSc_doesKnow
  refine r_aload_n (pc := 0) ok dX8_doesKnow_0 rfl ?_
  refine r_getR (pc := 1) ok cls8 (sc_sh ho) (k := 0) rfl (Nat.le_of_ble_eq_true rfl) rfl dX8_doesKnow_1 fl_Sc_42 ?_
  refine r_iload_n (pc := 4) ok dX8_doesKnow_4 rfl ?_
  refine k_I (pc := 5) (fun r1 => r1) (fun r1 => mx XX YY) (fun r1 hr_ => c_V (n := 1) ok cls5 (qu_sh (qid_qu ho)) rfl ml_Sc_62 wv_X5_hasPerson yk_X5_hasPerson rfl (Nat.le_of_ble_eq_true rfl) (Nat.le_of_ble_eq_true rfl) (tQu_hasPerson (qid_qu ho) (hr_q) hr_) rfl (Nat.le_of_ble_eq_true rfl) dX8_doesKnow_5) (fun r1 => ?_)
  refine r_if_eq (pc := 8) ok 39 dX8_doesKnow_8 rfl (fun _ => ?_) (fun _ => ?_)
  · refine r_iconst (pc := 39) ok (0 : Int32) dX8_doesKnow_39 ci_0 ?_
    exact r_zret (pc := 40) ok dX8_doesKnow_40 za_0 rfl
  · refine r_aload_n (pc := 11) ok dX8_doesKnow_11 rfl ?_
    refine r_getR (pc := 12) ok cls8 (sc_sh ho) (k := 0) rfl (Nat.le_of_ble_eq_true rfl) rfl dX8_doesKnow_12 fl_Sc_42 ?_
    refine r_iload_n (pc := 15) ok dX8_doesKnow_15 rfl ?_
    refine k_I (pc := 16) (fun r2 => r2) (fun r2 => mx XX YY) (fun r2 hr_ => c_V (n := 1) ok cls5 (qu_sh (qid_qu ho)) rfl ml_Sc_62 wv_X5_hasPerson yk_X5_hasPerson rfl (Nat.le_of_ble_eq_true rfl) (Nat.le_of_ble_eq_true rfl) (tQu_hasPerson (qid_qu ho) (hr_q) hr_) rfl (Nat.le_of_ble_eq_true rfl) dX8_doesKnow_16) (fun r2 => ?_)
    refine r_if_eq (pc := 19) ok 39 dX8_doesKnow_19 rfl (fun _ => ?_) (fun _ => ?_)
    · refine r_iconst (pc := 39) ok (0 : Int32) dX8_doesKnow_39 ci_0 ?_
      exact r_zret (pc := 40) ok dX8_doesKnow_40 za_0 rfl
    · refine r_aload_n (pc := 22) ok dX8_doesKnow_22 rfl ?_
      refine r_getR (pc := 23) ok cls8 (sc_sh ho) (k := 11) rfl (Nat.le_of_ble_eq_true rfl) rfl dX8_doesKnow_23 fl_Sc_33 ?_
      refine r_iload_n (pc := 26) ok dX8_doesKnow_26 rfl ?_
      refine r_iald (pc := 27) ok (sc_s8 ho) (Nat.add_sub_cancel_left _ _) (mx_l (sc_lt ho) (hr_sc)) dX8_doesKnow_27 (fun i3 => ?_)
      refine r_iload_n (pc := 28) ok dX8_doesKnow_28 rfl ?_
      refine k_I (pc := 29) (fun r4 => r4) (fun r4 => mx XX YY) (fun r4 hr_ => c_SN (n := 2) ok mn_Sc_88 ws_X11_hasBit yk_X11_hasBit rfl (Nat.le_of_ble_eq_true rfl) (Nat.le_of_ble_eq_true rfl) (tKL_hasBit hr_) rfl (Nat.le_of_ble_eq_true rfl) dX8_doesKnow_29) (fun r4 => ?_)
      refine r_if_eq (pc := 32) ok 39 dX8_doesKnow_32 rfl (fun _ => ?_) (fun _ => ?_)
      · refine r_iconst (pc := 39) ok (0 : Int32) dX8_doesKnow_39 ci_0 ?_
        exact r_zret (pc := 40) ok dX8_doesKnow_40 za_0 rfl
      · refine r_iconst (pc := 35) ok (1 : Int32) dX8_doesKnow_35 ci_1 ?_
        refine r_goto (pc := 36) ok 40 dX8_doesKnow_36 rfl ?_
        exact r_zret (pc := 40) ok dX8_doesKnow_40 za_1 rfl
theorem tSc_doesKnow {l : Launch} {G : Gx} {b : Nat} {io : Nat} {XX YY : Nat → Obj} {q : Obj} {sc : Obj} {v1 : Int32} {v2 : Int32} (ho : isSc io) (hr_q : XX (qid io) = q) (hr_sc : XX io = sc) {r : Int32} (hr : fSc_doesKnow q sc v1 v2 = some r) : MetG l G b yX8_doesKnow cX8_doesKnow 3 (some .boolean) 1 [.ref (b + io), .int v1, .int v2] (mx XX YY) (qI G b r (mx XX YY)) := by
  refine met_start [some (.ref (b + io)), some (.int v1), some (.int v2)] (by decide +kernel) (Nat.le_of_ble_eq_true rfl) rfl (fun Z hl ok => ?_)
  clear hl
  exact vSc_doesKnow ok ho hr_q hr_sc r (by rw [hr]; rfl)
theorem wSc_makeKnown_L24 {Z : Cx} {G : Gx} {b : Nat} {io : Nat} {XX YY : Nat → Obj} {q : Obj} {v1 : Int32} {v2 : Int32} (ok : OK Z G b cX8_makeKnown 4 1 RX8 none) (ho : isSc io) (hr_q : XX (qid io) = q) {K : ((Int32 × Obj) ⊕ (Obj)) → Option (Obj)} (hc : ∀ (a : Int32 × Obj), VO Z G b 4 (fun (r : Obj) => QX Z b (qV G b (mx (va_up XX io r) YY))) (mx (va_up XX io a.2) YY) 24 [some (.ref (b + io)), some (.int v1), some (.int v2), some (.int a.1)] [] (K (.inl a))) (hx : ∀ (e : Obj), VO Z G b 4 (fun (r : Obj) => QX Z b (qV G b (mx (va_up XX io r) YY))) (mx (va_up XX io e) YY) 67 [none, none, none, none] [] (K (.inr e))) : ∀ (a : Int32 × Obj), VO Z G b 4 (fun (r : Obj) => QX Z b (qV G b (mx (va_up XX io r) YY))) (mx (va_up XX io a.2) YY) 24 [some (.ref (b + io)), some (.int v1), some (.int v2), some (.int a.1)] [] ((fSc_makeKnown_L24 q v1 v2 a).bind K) := by
  intro a
  unfold fSc_makeKnown_L24
  refine r_iload_n (pc := 24) ok dX8_makeKnown_24 rfl ?_
  refine r_bipush (pc := 25) ok (8 : Int32) dX8_makeKnown_25 cb_8 ?_
  refine r_icmp_ge (pc := 27) ok 67 dX8_makeKnown_27 rfl (fun _ => ?_) (fun _ => ?_)
  · refine r_lv (lk_n (lk_n (lk_n (lk_n lk_0 _) _) _) _) ?_
    exact hx a.2
  · refine r_iload_n (pc := 30) ok dX8_makeKnown_30 rfl ?_
    refine r_aload_n (pc := 31) ok dX8_makeKnown_31 rfl ?_
    refine r_getR (pc := 32) ok cls8 (sc_sh ho) (k := 0) rfl (Nat.le_of_ble_eq_true rfl) rfl dX8_makeKnown_32 fl_Sc_42 ?_
    refine r_getI (pc := 35) ok cls5 (qu_sh (qid_qu ho)) (k := 4) rfl (Nat.le_of_ble_eq_true rfl) (mx_l (qu_lt (qid_qu ho)) ((va_up_ne _ _ (qid_ne ho)).trans (hr_q))) dX8_makeKnown_35 fl_Sc_92 ?_
    refine r_icmp_ge (pc := 38) ok 67 dX8_makeKnown_38 rfl (fun _ => ?_) (fun _ => ?_)
    · refine r_lv (lk_n (lk_n (lk_n (lk_n lk_0 _) _) _) _) ?_
      exact hx a.2
    · refine r_iload_n (pc := 41) ok dX8_makeKnown_41 rfl ?_
      refine r_iload_n (pc := 42) ok dX8_makeKnown_42 rfl ?_
      refine k_I (pc := 43) (fun r5 => r5) (fun r5 => mx (va_up XX io a.2) YY) (fun r5 hr_ => c_SN (n := 2) ok mn_Sc_88 ws_X11_hasBit yk_X11_hasBit rfl (Nat.le_of_ble_eq_true rfl) (Nat.le_of_ble_eq_true rfl) (tKL_hasBit hr_) rfl (Nat.le_of_ble_eq_true rfl) dX8_makeKnown_43) (fun r5 => ?_)
      refine r_if_eq (pc := 46) ok 61 dX8_makeKnown_46 rfl (fun _ => ?_) (fun _ => ?_)
      · refine r_iinc (pc := 61) ok (1 : Int32) dX8_makeKnown_61 ci_1 rfl (Nat.le_of_ble_eq_true rfl) rfl ?_
        refine r_goto (pc := 64) ok 24 dX8_makeKnown_64 rfl ?_
        exact hc ((a.1 + (1 : Int32)), a.2)
      · refine r_aload_n (pc := 49) ok dX8_makeKnown_49 rfl ?_
        refine r_getR (pc := 50) ok cls8 (sc_sh ho) (k := 11) rfl (Nat.le_of_ble_eq_true rfl) rfl dX8_makeKnown_50 fl_Sc_33 ?_
        refine r_iload_n (pc := 53) ok dX8_makeKnown_53 rfl ?_
        refine r_dup2 (pc := 54) ok dX8_makeKnown_54 rfl rfl ?_
        refine r_iald (pc := 55) ok (sc_s8 ho) (Nat.add_sub_cancel_left _ _) (mx_l (sc_lt ho) (va_up_self _ _ _)) dX8_makeKnown_55 (fun i6 => ?_)
        refine r_iconst (pc := 56) ok (1 : Int32) dX8_makeKnown_56 ci_1 ?_
        refine r_iload_n (pc := 57) ok dX8_makeKnown_57 rfl ?_
        refine r_ishl (pc := 58) ok dX8_makeKnown_58 ?_
        refine r_ior (pc := 59) ok dX8_makeKnown_59 ?_
        refine r_iast (pc := 60) ok (sc_s8 ho) (Nat.add_sub_cancel_left _ _) rfl (fun s_ => mx (va_up XX io s_) YY) (pm_l (sc_lt ho) (pm_0 _ _)).1 (pm_l (sc_lt ho) (pm_0 _ _)).2 dX8_makeKnown_60 (fun i7 s8 => ?_)
        refine r_iinc (pc := 61) ok (1 : Int32) dX8_makeKnown_61 ci_1 rfl (Nat.le_of_ble_eq_true rfl) rfl ?_
        refine r_goto (pc := 64) ok 24 dX8_makeKnown_64 rfl ?_
        exact hc ((a.1 + (1 : Int32)), s8)
theorem vSc_makeKnown {Z : Cx} {G : Gx} {b : Nat} {io : Nat} {XX YY : Nat → Obj} {q : Obj} {sc : Obj} {v1 : Int32} {v2 : Int32} (ok : OK Z G b cX8_makeKnown 4 1 RX8 none) (ho : isSc io) (hr_q : XX (qid io) = q) : VO Z G b 4 (fun (r : Obj) => QX Z b (qV G b (mx (va_up XX io r) YY))) (mx (va_up XX io sc) YY) 0 [some (.ref (b + io)), some (.int v1), some (.int v2), none] [] ((fSc_makeKnown q sc v1 v2).bind some) := by
  unfold fSc_makeKnown
  refine r_aload_n (pc := 0) ok dX8_makeKnown_0 rfl ?_
  refine r_getR (pc := 1) ok cls8 (sc_sh ho) (k := 0) rfl (Nat.le_of_ble_eq_true rfl) rfl dX8_makeKnown_1 fl_Sc_42 ?_
  refine r_iload_n (pc := 4) ok dX8_makeKnown_4 rfl ?_
  refine k_I (pc := 5) (fun r1 => r1) (fun r1 => mx (va_up XX io sc) YY) (fun r1 hr_ => c_V (n := 1) ok cls5 (qu_sh (qid_qu ho)) rfl ml_Sc_62 wv_X5_hasPerson yk_X5_hasPerson rfl (Nat.le_of_ble_eq_true rfl) (Nat.le_of_ble_eq_true rfl) (tQu_hasPerson (qid_qu ho) ((va_up_ne _ _ (qid_ne ho)).trans (hr_q)) hr_) rfl (Nat.le_of_ble_eq_true rfl) dX8_makeKnown_5) (fun r1 => ?_)
  refine r_if_ne (pc := 8) ok 12 dX8_makeKnown_8 rfl (fun _ => ?_) (fun _ => ?_)
  · exact r_vret (pc := 11) ok dX8_makeKnown_11 rfl
  · refine r_aload_n (pc := 12) ok dX8_makeKnown_12 rfl ?_
    refine r_getR (pc := 13) ok cls8 (sc_sh ho) (k := 11) rfl (Nat.le_of_ble_eq_true rfl) rfl dX8_makeKnown_13 fl_Sc_33 ?_
    refine r_iload_n (pc := 16) ok dX8_makeKnown_16 rfl ?_
    refine r_dup2 (pc := 17) ok dX8_makeKnown_17 rfl rfl ?_
    refine r_iald (pc := 18) ok (sc_s8 ho) (Nat.add_sub_cancel_left _ _) (mx_l (sc_lt ho) (va_up_self _ _ _)) dX8_makeKnown_18 (fun i2 => ?_)
    refine r_iload_n (pc := 19) ok dX8_makeKnown_19 rfl ?_
    refine r_ior (pc := 20) ok dX8_makeKnown_20 ?_
    refine r_iast (pc := 21) ok (sc_s8 ho) (Nat.add_sub_cancel_left _ _) rfl (fun s_ => mx (va_up XX io s_) YY) (pm_l (sc_lt ho) (pm_0 _ _)).1 (pm_l (sc_lt ho) (pm_0 _ _)).2 dX8_makeKnown_21 (fun i3 s4 => ?_)
    refine r_iconst (pc := 22) ok (0 : Int32) dX8_makeKnown_22 ci_0 ?_
    refine r_istore_n (pc := 23) ok dX8_makeKnown_23 (Nat.le_of_ble_eq_true rfl) rfl ?_
    refine r_iter (P := fun (a24 : Int32 × Obj) o => VO Z G b 4 (fun (r : Obj) => QX Z b (qV G b (mx (va_up XX io r) YY))) (mx (va_up XX io a24.2) YY) 24 [some (.ref (b + io)), some (.int v1), some (.int v2), some (.int a24.1)] [] o) (E := fun (e_24 : Obj) o => VO Z G b 4 (fun (r : Obj) => QX Z b (qV G b (mx (va_up XX io r) YY))) (mx (va_up XX io e_24) YY) 67 [none, none, none, none] [] o) (fun _ => r_none) (fun K hc hx => wSc_makeKnown_L24 ok ho hr_q (K := K) hc hx) (fun e9 => ?_) FU ((0 : Int32), s4)
    exact r_vret (pc := 67) ok dX8_makeKnown_67 rfl
theorem tSc_makeKnown {l : Launch} {G : Gx} {b : Nat} {io : Nat} {XX YY : Nat → Obj} {q : Obj} {sc : Obj} {v1 : Int32} {v2 : Int32} (ho : isSc io) (hr_q : XX (qid io) = q) {r : Obj} (hr : fSc_makeKnown q sc v1 v2 = some r) : MetG l G b yX8_makeKnown cX8_makeKnown 4 none 1 [.ref (b + io), .int v1, .int v2] (mx (va_up XX io sc) YY) (qV G b (mx (va_up XX io r) YY)) := by
  refine met_start [some (.ref (b + io)), some (.int v1), some (.int v2), none] (by decide +kernel) (Nat.le_of_ble_eq_true rfl) rfl (fun Z hl ok => ?_)
  clear hl
  exact vSc_makeKnown ok ho hr_q r (by rw [hr]; rfl)
theorem vSc_tryMeet {Z : Cx} {G : Gx} {b : Nat} {io : Nat} {XX YY : Nat → Obj} {q : Obj} {sc : Obj} {v1 : Int32} {v2 : Int32} (ok : OK Z G b cX8_tryMeet 3 2 RX8 (some .int)) (ho : isSc io) (hr_q : XX (qid io) = q) : VO Z G b 3 (fun (r : Int32 × Obj) => QX Z b (qI G b r.1 (mx (va_up XX io r.2) YY))) (mx (va_up XX io sc) YY) 0 [some (.ref (b + io)), some (.int v1), some (.int v2)] [] ((fSc_tryMeet q sc v1 v2).bind some) := by
  unfold fSc_tryMeet
  refine r_iload_n (pc := 0) ok dX8_tryMeet_0 rfl ?_
  refine r_iload_n (pc := 1) ok dX8_tryMeet_1 rfl ?_
  refine r_icmp_eq (pc := 2) ok 27 dX8_tryMeet_2 rfl (fun _ => ?_) (fun _ => ?_)
  · refine r_iconst (pc := 27) ok (-1 : Int32) dX8_tryMeet_27 ci_m1 ?_
    exact r_iret (pc := 28) ok dX8_tryMeet_28 rfl
  · refine r_aload_n (pc := 5) ok dX8_tryMeet_5 rfl ?_
    refine r_getR (pc := 6) ok cls8 (sc_sh ho) (k := 0) rfl (Nat.le_of_ble_eq_true rfl) rfl dX8_tryMeet_6 fl_Sc_42 ?_
    refine r_iload_n (pc := 9) ok dX8_tryMeet_9 rfl ?_
    refine k_I (pc := 10) (fun r1 => r1) (fun r1 => mx (va_up XX io sc) YY) (fun r1 hr_ => c_V (n := 1) ok cls5 (qu_sh (qid_qu ho)) rfl ml_Sc_62 wv_X5_hasPerson yk_X5_hasPerson rfl (Nat.le_of_ble_eq_true rfl) (Nat.le_of_ble_eq_true rfl) (tQu_hasPerson (qid_qu ho) ((va_up_ne _ _ (qid_ne ho)).trans (hr_q)) hr_) rfl (Nat.le_of_ble_eq_true rfl) dX8_tryMeet_10) (fun r1 => ?_)
    refine r_if_eq (pc := 13) ok 27 dX8_tryMeet_13 rfl (fun _ => ?_) (fun _ => ?_)
    · refine r_iconst (pc := 27) ok (-1 : Int32) dX8_tryMeet_27 ci_m1 ?_
      exact r_iret (pc := 28) ok dX8_tryMeet_28 rfl
    · refine r_aload_n (pc := 16) ok dX8_tryMeet_16 rfl ?_
      refine r_getR (pc := 17) ok cls8 (sc_sh ho) (k := 0) rfl (Nat.le_of_ble_eq_true rfl) rfl dX8_tryMeet_17 fl_Sc_42 ?_
      refine r_iload_n (pc := 20) ok dX8_tryMeet_20 rfl ?_
      refine k_I (pc := 21) (fun r2 => r2) (fun r2 => mx (va_up XX io sc) YY) (fun r2 hr_ => c_V (n := 1) ok cls5 (qu_sh (qid_qu ho)) rfl ml_Sc_62 wv_X5_hasPerson yk_X5_hasPerson rfl (Nat.le_of_ble_eq_true rfl) (Nat.le_of_ble_eq_true rfl) (tQu_hasPerson (qid_qu ho) ((va_up_ne _ _ (qid_ne ho)).trans (hr_q)) hr_) rfl (Nat.le_of_ble_eq_true rfl) dX8_tryMeet_21) (fun r2 => ?_)
      refine r_if_ne (pc := 24) ok 29 dX8_tryMeet_24 rfl (fun _ => ?_) (fun _ => ?_)
      · refine r_iconst (pc := 27) ok (-1 : Int32) dX8_tryMeet_27 ci_m1 ?_
        exact r_iret (pc := 28) ok dX8_tryMeet_28 rfl
      · refine r_aload_n (pc := 29) ok dX8_tryMeet_29 rfl ?_
        refine r_iload_n (pc := 30) ok dX8_tryMeet_30 rfl ?_
        refine r_iload_n (pc := 31) ok dX8_tryMeet_31 rfl ?_
        refine k_I (pc := 32) (fun r3 => r3) (fun r3 => mx (va_up XX io sc) YY) (fun r3 hr_ => c_V (n := 2) ok cls8 (sc_sh ho) rfl ml_Sc_116 wv_X8_doesKnow yk_X8_doesKnow rfl (Nat.le_of_ble_eq_true rfl) (Nat.le_of_ble_eq_true rfl) (tSc_doesKnow ho ((va_up_ne _ _ (qid_ne ho)).trans (hr_q)) (va_up_self _ _ _) hr_) rfl (Nat.le_of_ble_eq_true rfl) dX8_tryMeet_32) (fun r3 => ?_)
        refine r_if_eq (pc := 35) ok 40 dX8_tryMeet_35 rfl (fun _ => ?_) (fun _ => ?_)
        · refine r_aload_n (pc := 40) ok dX8_tryMeet_40 rfl ?_
          refine r_iload_n (pc := 41) ok dX8_tryMeet_41 rfl ?_
          refine r_iconst (pc := 42) ok (1 : Int32) dX8_tryMeet_42 ci_1 ?_
          refine r_iload_n (pc := 43) ok dX8_tryMeet_43 rfl ?_
          refine r_ishl (pc := 44) ok dX8_tryMeet_44 ?_
          refine k_V (pc := 45)  (fun r4 => mx (va_up XX io r4) YY) (fun r4 hr_ => c_V (n := 2) ok cls8 (sc_sh ho) rfl ml_Sc_75 wv_X8_makeKnown yk_X8_makeKnown rfl (Nat.le_of_ble_eq_true rfl) (Nat.le_of_ble_eq_true rfl) (tSc_makeKnown ho (hr_q) hr_) rfl (Nat.le_of_ble_eq_true rfl) dX8_tryMeet_45) (fun r4 => ?_)
          refine r_iconst (pc := 48) ok (0 : Int32) dX8_tryMeet_48 ci_0 ?_
          exact r_iret (pc := 49) ok dX8_tryMeet_49 rfl
        · refine r_iconst (pc := 38) ok (1 : Int32) dX8_tryMeet_38 ci_1 ?_
          exact r_iret (pc := 39) ok dX8_tryMeet_39 rfl
theorem tSc_tryMeet {l : Launch} {G : Gx} {b : Nat} {io : Nat} {XX YY : Nat → Obj} {q : Obj} {sc : Obj} {v1 : Int32} {v2 : Int32} (ho : isSc io) (hr_q : XX (qid io) = q) {r : Int32 × Obj} (hr : fSc_tryMeet q sc v1 v2 = some r) : MetG l G b yX8_tryMeet cX8_tryMeet 3 (some .int) 2 [.ref (b + io), .int v1, .int v2] (mx (va_up XX io sc) YY) (qI G b r.1 (mx (va_up XX io r.2) YY)) := by
  refine met_start [some (.ref (b + io)), some (.int v1), some (.int v2)] (by decide +kernel) (Nat.le_of_ble_eq_true rfl) rfl (fun Z hl ok => ?_)
  clear hl
  exact vSc_tryMeet ok ho hr_q r (by rw [hr]; rfl)
theorem wQr_readKnows_J32 {Z : Cx} {G : Gx} {b : Nat} {XX YY : Nat → Obj} {q : Obj} {ta : Obj} {sc : Obj} {v1 : Int32} {k0 : Int32} (ok : OK Z G b cX6_readKnows 3 3 RX6 (some .boolean)) (hr_q : XX 29 = q) : VO Z G b 3 (fun (r : Int32 × Obj × Obj) => QX Z b (qI G b r.1 (mx (va_up (va_up XX 1 r.2.1) 36 r.2.2) YY))) (mx (va_up (va_up XX 1 ta) 36 sc) YY) 32 [some (.ref (b + 212)), some (.int v1), none] [.int k0] ((fQr_readKnows_J32 q ta sc v1 k0).bind some) := by
  unfold fQr_readKnows_J32
  refine r_istore_n (pc := 32) ok dX6_readKnows_32 (Nat.le_of_ble_eq_true rfl) rfl ?_
  refine r_iload_n (pc := 33) ok dX6_readKnows_33 rfl ?_
  refine r_iconst (pc := 34) ok (-1 : Int32) dX6_readKnows_34 ci_m1 ?_
  refine r_icmp_ne (pc := 35) ok 40 dX6_readKnows_35 rfl (fun _ => ?_) (fun _ => ?_)
  · refine r_iconst (pc := 38) ok (0 : Int32) dX6_readKnows_38 ci_0 ?_
    exact r_zret (pc := 39) ok dX6_readKnows_39 za_0 rfl
  · refine r_aload_n (pc := 40) ok dX6_readKnows_40 rfl ?_
    refine r_getR (pc := 41) ok cls6 sh_212 (k := 2) rfl (Nat.le_of_ble_eq_true rfl) rfl dX6_readKnows_41 fl_Qr_26 ?_
    refine r_iload_n (pc := 44) ok dX6_readKnows_44 rfl ?_
    refine r_iload_n (pc := 45) ok dX6_readKnows_45 rfl ?_
    refine k_I (pc := 46) (fun r2 => r2.1) (fun r2 => mx (va_up (va_up XX 1 ta) 36 r2.2) YY) (fun r2 hr_ => c_V (n := 2) ok cls8 sh_36 rfl ml_Qr_146 wv_X8_tryMeet yk_X8_tryMeet rfl (Nat.le_of_ble_eq_true rfl) (Nat.le_of_ble_eq_true rfl) (tSc_tryMeet (sc_c (o := 36) (by decide)) ((va_up_ne _ _ (by decide)).trans (hr_q)) hr_) rfl (Nat.le_of_ble_eq_true rfl) dX6_readKnows_46) (fun r2 => ?_)
    refine r_if_eq (pc := 49) ok 60 dX6_readKnows_49 rfl (fun _ => ?_) (fun _ => ?_)
    · refine r_iconst (pc := 60) ok (1 : Int32) dX6_readKnows_60 ci_1 ?_
      refine r_goto (pc := 61) ok 65 dX6_readKnows_61 rfl ?_
      exact r_zret (pc := 65) ok dX6_readKnows_65 za_1 rfl
    · refine r_aload_n (pc := 52) ok dX6_readKnows_52 rfl ?_
      refine r_iconst (pc := 53) ok (3 : Int32) dX6_readKnows_53 ci_3 ?_
      refine k_I (pc := 54) (fun r3 => r3.1) (fun r3 => mx (va_up (va_up XX 1 r3.2) 36 r2.2) YY) (fun r3 hr_ => c_V (n := 1) ok cls6 sh_212 rfl ml_Qr_65 wv_X6_refuse yk_X6_refuse rfl (Nat.le_of_ble_eq_true rfl) (Nat.le_of_ble_eq_true rfl) (met_cast (congrArg (fun A_ => mx A_ YY) (up_co XX ta r2.2 (show 1 ≠ 36 from by decide))) (congrArg (fun A_ => qI G b r3.1 (mx A_ YY)) (up_co XX r3.2 r2.2 (show 1 ≠ 36 from by decide))) (tQr_refuse hr_)) rfl (Nat.le_of_ble_eq_true rfl) dX6_readKnows_54) (fun r3 => ?_)
      refine r_if_eq (pc := 57) ok 64 dX6_readKnows_57 rfl (fun _ => ?_) (fun _ => ?_)
      · refine r_iconst (pc := 64) ok (0 : Int32) dX6_readKnows_64 ci_0 ?_
        exact r_zret (pc := 65) ok dX6_readKnows_65 za_0 rfl
      · refine r_iconst (pc := 60) ok (1 : Int32) dX6_readKnows_60 ci_1 ?_
        refine r_goto (pc := 61) ok 65 dX6_readKnows_61 rfl ?_
        exact r_zret (pc := 65) ok dX6_readKnows_65 za_1 rfl
theorem vQr_readKnows {Z : Cx} {G : Gx} {b : Nat} {XX YY : Nat → Obj} {q : Obj} {ta : Obj} {sc : Obj} (ok : OK Z G b cX6_readKnows 3 3 RX6 (some .boolean)) (hr_q : XX 29 = q) : VO Z G b 3 (fun (r : Int32 × Obj × Obj) => QX Z b (qI G b r.1 (mx (va_up (va_up XX 1 r.2.1) 36 r.2.2) YY))) (mx (va_up (va_up XX 1 ta) 36 sc) YY) 0 [some (.ref (b + 212)), none, none] [] ((fQr_readKnows q ta sc).bind some) := by
  unfold fQr_readKnows
  refine r_aload_n (pc := 0) ok dX6_readKnows_0 rfl ?_
  refine r_getR (pc := 1) ok cls6 sh_212 (k := 0) rfl (Nat.le_of_ble_eq_true rfl) rfl dX6_readKnows_1 fl_Qr_9 ?_
  refine r_aload_n (pc := 4) ok dX6_readKnows_4 rfl ?_
  refine r_getR (pc := 5) ok cls6 sh_212 (k := 1) rfl (Nat.le_of_ble_eq_true rfl) rfl dX6_readKnows_5 fl_Qr_21 ?_
  refine k_I (pc := 8) (fun r1 => r1.1) (fun r1 => mx (va_up (va_up XX 1 r1.2) 36 sc) YY) (fun r1 hr_ => c_V (n := 1) ok cls10 sh_1 rfl ml_Qr_143 wv_X10_takePerson yk_X10_takePerson rfl (Nat.le_of_ble_eq_true rfl) (Nat.le_of_ble_eq_true rfl) (met_cast (congrArg (fun A_ => mx A_ YY) (up_co XX ta sc (show 1 ≠ 36 from by decide))) (congrArg (fun A_ => qI G b r1.1 (mx A_ YY)) (up_co XX r1.2 sc (show 1 ≠ 36 from by decide))) (tTa_takePerson (qu_c (o := 29) (by decide)) ((va_up_ne _ _ (by decide)).trans (hr_q)) hr_)) rfl (Nat.le_of_ble_eq_true rfl) dX6_readKnows_8) (fun r1 => ?_)
  refine r_istore_n (pc := 11) ok dX6_readKnows_11 (Nat.le_of_ble_eq_true rfl) rfl ?_
  refine r_iload_n (pc := 12) ok dX6_readKnows_12 rfl ?_
  refine r_iconst (pc := 13) ok (-1 : Int32) dX6_readKnows_13 ci_m1 ?_
  refine r_icmp_ne (pc := 14) ok 21 dX6_readKnows_14 rfl (fun _ => ?_) (fun _ => ?_)
  · refine r_iconst (pc := 17) ok (-1 : Int32) dX6_readKnows_17 ci_m1 ?_
    refine r_goto (pc := 18) ok 32 dX6_readKnows_18 rfl ?_
    exact wQr_readKnows_J32 ok hr_q
  · refine r_aload_n (pc := 21) ok dX6_readKnows_21 rfl ?_
    refine r_getR (pc := 22) ok cls6 sh_212 (k := 0) rfl (Nat.le_of_ble_eq_true rfl) rfl dX6_readKnows_22 fl_Qr_9 ?_
    refine r_aload_n (pc := 25) ok dX6_readKnows_25 rfl ?_
    refine r_getR (pc := 26) ok cls6 sh_212 (k := 1) rfl (Nat.le_of_ble_eq_true rfl) rfl dX6_readKnows_26 fl_Qr_21 ?_
    refine k_I (pc := 29) (fun r4 => r4.1) (fun r4 => mx (va_up (va_up XX 1 r4.2) 36 sc) YY) (fun r4 hr_ => c_V (n := 1) ok cls10 sh_1 rfl ml_Qr_143 wv_X10_takePerson yk_X10_takePerson rfl (Nat.le_of_ble_eq_true rfl) (Nat.le_of_ble_eq_true rfl) (met_cast (congrArg (fun A_ => mx A_ YY) (up_co XX r1.2 sc (show 1 ≠ 36 from by decide))) (congrArg (fun A_ => qI G b r4.1 (mx A_ YY)) (up_co XX r4.2 sc (show 1 ≠ 36 from by decide))) (tTa_takePerson (qu_c (o := 29) (by decide)) ((va_up_ne _ _ (by decide)).trans (hr_q)) hr_)) rfl (Nat.le_of_ble_eq_true rfl) dX6_readKnows_29) (fun r4 => ?_)
    exact wQr_readKnows_J32 ok hr_q
theorem tQr_readKnows {l : Launch} {G : Gx} {b : Nat} {XX YY : Nat → Obj} {q : Obj} {ta : Obj} {sc : Obj} (hr_q : XX 29 = q) {r : Int32 × Obj × Obj} (hr : fQr_readKnows q ta sc = some r) : MetG l G b yX6_readKnows cX6_readKnows 3 (some .boolean) 3 [.ref (b + 212)] (mx (va_up (va_up XX 1 ta) 36 sc) YY) (qI G b r.1 (mx (va_up (va_up XX 1 r.2.1) 36 r.2.2) YY)) := by
  refine met_start [some (.ref (b + 212)), none, none] (by decide +kernel) (Nat.le_of_ble_eq_true rfl) rfl (fun Z hl ok => ?_)
  clear hl
  exact vQr_readKnows ok hr_q r (by rw [hr]; rfl)
theorem wTa_takeNewName_J44 {Z : Cx} {G : Gx} {b : Nat} {iq : Nat} {XX YY : Nat → Obj} {q : Obj} {ta : Obj} (ok : OK Z G b cX10_takeNewName 2 2 RX10 (some .long)) (hq : isQu iq) (hr_q : XX iq = q) : VO Z G b 2 (fun (r : Int64 × Obj) => QX Z b (qJ G b r.1 (mx (va_up XX 1 r.2) YY))) (mx (va_up XX 1 ta) YY) 44 [some (.ref (b + 1)), none] [] ((fTa_takeNewName_J44 ta).bind some) := by
  unfold fTa_takeNewName_J44
  refine r_aload_n (pc := 44) ok dX10_takeNewName_44 rfl ?_
  refine r_iconst (pc := 45) ok (3 : Int32) dX10_takeNewName_45 ci_3 ?_
  refine k_I (pc := 46) (fun r4 => r4.1) (fun r4 => mx (va_up XX 1 r4.2) YY) (fun r4 hr_ => c_V (n := 1) ok cls10 sh_1 rfl ml_Ta_96 wv_X10_refuse yk_X10_refuse rfl (Nat.le_of_ble_eq_true rfl) (Nat.le_of_ble_eq_true rfl) (tTa_refuse hr_) rfl (Nat.le_of_ble_eq_true rfl) dX10_takeNewName_46) (fun r4 => ?_)
  refine r_pop (pc := 49) ok dX10_takeNewName_49 rfl ?_
  refine r_lconst (pc := 50) ok (0 : Int64) dX10_takeNewName_50 (by decide +kernel) ?_
  exact r_lret (pc := 51) ok dX10_takeNewName_51 rfl
theorem vTa_takeNewName {Z : Cx} {G : Gx} {b : Nat} {iq : Nat} {XX YY : Nat → Obj} {q : Obj} {ta : Obj} (ok : OK Z G b cX10_takeNewName 2 2 RX10 (some .long)) (hq : isQu iq) (hr_q : XX iq = q) : VO Z G b 2 (fun (r : Int64 × Obj) => QX Z b (qJ G b r.1 (mx (va_up XX 1 r.2) YY))) (mx (va_up XX 1 ta) YY) 0 [some (.ref (b + 1)), some (.ref (b + iq))] [] ((fTa_takeNewName q ta).bind some) := by
  unfold fTa_takeNewName
  refine r_aload_n (pc := 0) ok dX10_takeNewName_0 rfl ?_
  refine k_V (pc := 1)  (fun r1 => mx (va_up XX 1 r1) YY) (fun r1 hr_ => c_V (n := 0) ok cls10 sh_1 rfl ml_Ta_59 wv_X10_take yk_X10_take rfl (Nat.le_of_ble_eq_true rfl) (Nat.le_of_ble_eq_true rfl) (tTa_take hr_) rfl (Nat.le_of_ble_eq_true rfl) dX10_takeNewName_1) (fun r1 => ?_)
  refine r_aload_n (pc := 4) ok dX10_takeNewName_4 rfl ?_
  refine r_getI (pc := 5) ok cls10 sh_1 (k := 4) rfl (Nat.le_of_ble_eq_true rfl) (mx_l (Nat.le_of_ble_eq_true rfl) (va_up_self _ _ _)) dX10_takeNewName_5 fl_Ta_76 ?_
  refine r_iconst (pc := 8) ok (2 : Int32) dX10_takeNewName_8 ci_2 ?_
  refine r_icmp_eq (pc := 9) ok 20 dX10_takeNewName_9 rfl (fun _ => ?_) (fun _ => ?_)
  · refine r_aload_n (pc := 20) ok dX10_takeNewName_20 rfl ?_
    refine r_aload_n (pc := 21) ok dX10_takeNewName_21 rfl ?_
    refine r_getJ (pc := 22) ok cls10 sh_1 (k := 6) rfl (Nat.le_of_ble_eq_true rfl) (mx_l (Nat.le_of_ble_eq_true rfl) (va_up_self _ _ _)) dX10_takeNewName_22 fl_Ta_88 ?_
    refine k_I (pc := 25) (fun r2 => r2) (fun r2 => mx (va_up XX 1 r1) YY) (fun r2 hr_ => c_V (n := 1) ok cls5 (qu_sh hq) rfl ml_Ta_99 wv_X5_findHouse yk_X5_findHouse rfl (Nat.le_of_ble_eq_true rfl) (Nat.le_of_ble_eq_true rfl) (tQu_findHouse hq ((va_up_ne _ _ (qu_ne hq (by decide))).trans (hr_q)) hr_) rfl (Nat.le_of_ble_eq_true rfl) dX10_takeNewName_25) (fun r2 => ?_)
    refine r_iconst (pc := 28) ok (-1 : Int32) dX10_takeNewName_28 ci_m1 ?_
    refine r_icmp_ne (pc := 29) ok 44 dX10_takeNewName_29 rfl (fun _ => ?_) (fun _ => ?_)
    · refine r_aload_n (pc := 32) ok dX10_takeNewName_32 rfl ?_
      refine r_aload_n (pc := 33) ok dX10_takeNewName_33 rfl ?_
      refine r_getJ (pc := 34) ok cls10 sh_1 (k := 6) rfl (Nat.le_of_ble_eq_true rfl) (mx_l (Nat.le_of_ble_eq_true rfl) (va_up_self _ _ _)) dX10_takeNewName_34 fl_Ta_88 ?_
      refine k_I (pc := 37) (fun r3 => r3) (fun r3 => mx (va_up XX 1 r1) YY) (fun r3 hr_ => c_V (n := 1) ok cls5 (qu_sh hq) rfl ml_Ta_105 wv_X5_findPerson yk_X5_findPerson rfl (Nat.le_of_ble_eq_true rfl) (Nat.le_of_ble_eq_true rfl) (tQu_findPerson hq ((va_up_ne _ _ (qu_ne hq (by decide))).trans (hr_q)) hr_) rfl (Nat.le_of_ble_eq_true rfl) dX10_takeNewName_37) (fun r3 => ?_)
      refine r_iconst (pc := 40) ok (-1 : Int32) dX10_takeNewName_40 ci_m1 ?_
      refine r_icmp_eq (pc := 41) ok 52 dX10_takeNewName_41 rfl (fun _ => ?_) (fun _ => ?_)
      · refine r_aload_n (pc := 52) ok dX10_takeNewName_52 rfl ?_
        refine r_getJ (pc := 53) ok cls10 sh_1 (k := 6) rfl (Nat.le_of_ble_eq_true rfl) (mx_l (Nat.le_of_ble_eq_true rfl) (va_up_self _ _ _)) dX10_takeNewName_53 fl_Ta_88 ?_
        exact r_lret (pc := 56) ok dX10_takeNewName_56 rfl
      · refine r_lv (lk_s (lk_n lk_0 _) _) ?_
        exact wTa_takeNewName_J44 ok hq hr_q
    · refine r_lv (lk_s (lk_n lk_0 _) _) ?_
      exact wTa_takeNewName_J44 ok hq hr_q
  · refine r_aload_n (pc := 12) ok dX10_takeNewName_12 rfl ?_
    refine r_iconst (pc := 13) ok (1 : Int32) dX10_takeNewName_13 ci_1 ?_
    refine k_I (pc := 14) (fun r5 => r5.1) (fun r5 => mx (va_up XX 1 r5.2) YY) (fun r5 hr_ => c_V (n := 1) ok cls10 sh_1 rfl ml_Ta_96 wv_X10_refuse yk_X10_refuse rfl (Nat.le_of_ble_eq_true rfl) (Nat.le_of_ble_eq_true rfl) (tTa_refuse hr_) rfl (Nat.le_of_ble_eq_true rfl) dX10_takeNewName_14) (fun r5 => ?_)
    refine r_pop (pc := 17) ok dX10_takeNewName_17 rfl ?_
    refine r_lconst (pc := 18) ok (0 : Int64) dX10_takeNewName_18 (by decide +kernel) ?_
    exact r_lret (pc := 19) ok dX10_takeNewName_19 rfl
theorem tTa_takeNewName {l : Launch} {G : Gx} {b : Nat} {iq : Nat} {XX YY : Nat → Obj} {q : Obj} {ta : Obj} (hq : isQu iq) (hr_q : XX iq = q) {r : Int64 × Obj} (hr : fTa_takeNewName q ta = some r) : MetG l G b yX10_takeNewName cX10_takeNewName 2 (some .long) 2 [.ref (b + 1), .ref (b + iq)] (mx (va_up XX 1 ta) YY) (qJ G b r.1 (mx (va_up XX 1 r.2) YY)) := by
  refine met_start [some (.ref (b + 1)), some (.ref (b + iq))] (by decide +kernel) (Nat.le_of_ble_eq_true rfl) rfl (fun Z hl ok => ?_)
  clear hl
  exact vTa_takeNewName ok hq hr_q r (by rw [hr]; rfl)
theorem vTa_isWord {Z : Cx} {G : Gx} {b : Nat} {XX YY : Nat → Obj} {ta : Obj} {v1 : Int32} (ok : OK Z G b cX10_isWord 2 0 RX10 (some .boolean)) (hr_ta : XX 1 = ta) : VO Z G b 2 (fun (r : Int32) => QX Z b (qI G b r (mx XX YY))) (mx XX YY) 0 [some (.ref (b + 1)), some (.int v1)] [] ((fTa_isWord ta v1).bind some) := by
  unfold fTa_isWord
  refine r_aload_n (pc := 0) ok dX10_isWord_0 rfl ?_
  refine r_getI (pc := 1) ok cls10 sh_1 (k := 4) rfl (Nat.le_of_ble_eq_true rfl) (mx_l (Nat.le_of_ble_eq_true rfl) (hr_ta)) dX10_isWord_1 fl_Ta_76 ?_
  refine r_iconst (pc := 4) ok (1 : Int32) dX10_isWord_4 ci_1 ?_
  refine r_icmp_ne (pc := 5) ok 20 dX10_isWord_5 rfl (fun _ => ?_) (fun _ => ?_)
  · refine r_aload_n (pc := 8) ok dX10_isWord_8 rfl ?_
    refine r_getI (pc := 9) ok cls10 sh_1 (k := 5) rfl (Nat.le_of_ble_eq_true rfl) (mx_l (Nat.le_of_ble_eq_true rfl) (hr_ta)) dX10_isWord_9 fl_Ta_73 ?_
    refine r_iload_n (pc := 12) ok dX10_isWord_12 rfl ?_
    refine r_icmp_ne (pc := 13) ok 20 dX10_isWord_13 rfl (fun _ => ?_) (fun _ => ?_)
    · refine r_iconst (pc := 16) ok (1 : Int32) dX10_isWord_16 ci_1 ?_
      refine r_goto (pc := 17) ok 21 dX10_isWord_17 rfl ?_
      exact r_zret (pc := 21) ok dX10_isWord_21 za_1 rfl
    · refine r_iconst (pc := 20) ok (0 : Int32) dX10_isWord_20 ci_0 ?_
      exact r_zret (pc := 21) ok dX10_isWord_21 za_0 rfl
  · refine r_iconst (pc := 20) ok (0 : Int32) dX10_isWord_20 ci_0 ?_
    exact r_zret (pc := 21) ok dX10_isWord_21 za_0 rfl
theorem tTa_isWord {l : Launch} {G : Gx} {b : Nat} {XX YY : Nat → Obj} {ta : Obj} {v1 : Int32} (hr_ta : XX 1 = ta) {r : Int32} (hr : fTa_isWord ta v1 = some r) : MetG l G b yX10_isWord cX10_isWord 2 (some .boolean) 0 [.ref (b + 1), .int v1] (mx XX YY) (qI G b r (mx XX YY)) := by
  refine met_start [some (.ref (b + 1)), some (.int v1)] (by decide +kernel) (Nat.le_of_ble_eq_true rfl) rfl (fun Z hl ok => ?_)
  clear hl
  exact vTa_isWord ok hr_ta r (by rw [hr]; rfl)
theorem vQu_addPerson {Z : Cx} {G : Gx} {b : Nat} {iq : Nat} {XX YY : Nat → Obj} {q : Obj} {v1 : Int64} {v3 : Int32} {v4 : Int32} (ok : OK Z G b cX5_addPerson 5 1 RX5 none) (hq : isQu iq) : VO Z G b 5 (fun (r : Obj) => QX Z b (qV G b (mx (va_up XX iq r) YY))) (mx (va_up XX iq q) YY) 0 [some (.ref (b + iq)), some (.long v1), none, some (.int v3), some (.int v4)] [] ((fQu_addPerson q v1 v3 v4).bind some) := by
  unfold fQu_addPerson
  refine r_aload_n (pc := 0) ok dX5_addPerson_0 rfl ?_
  refine r_getI (pc := 1) ok cls5 (qu_sh hq) (k := 4) rfl (Nat.le_of_ble_eq_true rfl) (mx_l (qu_lt hq) (va_up_self _ _ _)) dX5_addPerson_1 fl_Qu_44 ?_
  refine r_bipush (pc := 4) ok (8 : Int32) dX5_addPerson_4 cb_8 ?_
  refine r_icmp_ge (pc := 6) ok 73 dX5_addPerson_6 rfl (fun _ => ?_) (fun _ => ?_)
  · exact r_vret (pc := 73) ok dX5_addPerson_73 rfl
  · refine r_aload_n (pc := 9) ok dX5_addPerson_9 rfl ?_
    refine r_getR (pc := 10) ok cls5 (qu_sh hq) (k := 10) rfl (Nat.le_of_ble_eq_true rfl) rfl dX5_addPerson_10 fl_Qu_38 ?_
    refine r_aload_n (pc := 13) ok dX5_addPerson_13 rfl ?_
    refine r_getI (pc := 14) ok cls5 (qu_sh hq) (k := 4) rfl (Nat.le_of_ble_eq_true rfl) (mx_l (qu_lt hq) (va_up_self _ _ _)) dX5_addPerson_14 fl_Qu_44 ?_
    refine r_lload_n (pc := 17) ok dX5_addPerson_17 rfl ?_
    refine r_last (pc := 18) ok (qu_s6 hq) (Nat.add_sub_cancel_left _ _) rfl (fun s_ => mx (va_up XX iq s_) YY) (pm_l (qu_lt hq) (pm_0 _ _)).1 (pm_l (qu_lt hq) (pm_0 _ _)).2 dX5_addPerson_18 (fun i1 s2 => ?_)
    refine r_aload_n (pc := 19) ok dX5_addPerson_19 rfl ?_
    refine r_getR (pc := 20) ok cls5 (qu_sh hq) (k := 8) rfl (Nat.le_of_ble_eq_true rfl) rfl dX5_addPerson_20 fl_Qu_32 ?_
    refine r_aload_n (pc := 23) ok dX5_addPerson_23 rfl ?_
    refine r_getI (pc := 24) ok cls5 (qu_sh hq) (k := 4) rfl (Nat.le_of_ble_eq_true rfl) (mx_l (qu_lt hq) (va_up_self _ _ _)) dX5_addPerson_24 fl_Qu_44 ?_
    refine r_iload_n (pc := 27) ok dX5_addPerson_27 rfl ?_
    refine r_iast (pc := 28) ok (qu_s4 hq) (Nat.add_sub_cancel_left _ _) rfl (fun s_ => mx (va_up XX iq s_) YY) (pm_l (qu_lt hq) (pm_0 _ _)).1 (pm_l (qu_lt hq) (pm_0 _ _)).2 dX5_addPerson_28 (fun i3 s4 => ?_)
    refine r_aload_n (pc := 29) ok dX5_addPerson_29 rfl ?_
    refine r_getR (pc := 30) ok cls5 (qu_sh hq) (k := 9) rfl (Nat.le_of_ble_eq_true rfl) rfl dX5_addPerson_30 fl_Qu_35 ?_
    refine r_aload_n (pc := 33) ok dX5_addPerson_33 rfl ?_
    refine r_getI (pc := 34) ok cls5 (qu_sh hq) (k := 4) rfl (Nat.le_of_ble_eq_true rfl) (mx_l (qu_lt hq) (va_up_self _ _ _)) dX5_addPerson_34 fl_Qu_44 ?_
    refine r_iload (pc := 37) ok dX5_addPerson_37 rfl ?_
    refine r_iast (pc := 39) ok (qu_s5 hq) (Nat.add_sub_cancel_left _ _) rfl (fun s_ => mx (va_up XX iq s_) YY) (pm_l (qu_lt hq) (pm_0 _ _)).1 (pm_l (qu_lt hq) (pm_0 _ _)).2 dX5_addPerson_39 (fun i5 s6 => ?_)
    refine r_aload_n (pc := 40) ok dX5_addPerson_40 rfl ?_
    refine r_iload_n (pc := 41) ok dX5_addPerson_41 rfl ?_
    refine k_I (pc := 42) (fun r7 => r7) (fun r7 => mx (va_up XX iq s6) YY) (fun r7 hr_ => c_V (n := 1) ok cls5 (qu_sh hq) rfl ml_Qu_53 wv_X5_hasHouse yk_X5_hasHouse rfl (Nat.le_of_ble_eq_true rfl) (Nat.le_of_ble_eq_true rfl) (tQu_hasHouse hq (va_up_self _ _ _) hr_) rfl (Nat.le_of_ble_eq_true rfl) dX5_addPerson_42) (fun r7 => ?_)
    refine r_if_eq (pc := 45) ok 63 dX5_addPerson_45 rfl (fun _ => ?_) (fun _ => ?_)
    · refine r_aload_n (pc := 63) ok dX5_addPerson_63 rfl ?_
      refine r_dup (pc := 64) ok dX5_addPerson_64 rfl ?_
      refine r_getI (pc := 65) ok cls5 (qu_sh hq) (k := 4) rfl (Nat.le_of_ble_eq_true rfl) (mx_l (qu_lt hq) (va_up_self _ _ _)) dX5_addPerson_65 fl_Qu_44 ?_
      refine r_iconst (pc := 68) ok (1 : Int32) dX5_addPerson_68 ci_1 ?_
      refine r_iadd (pc := 69) ok dX5_addPerson_69 ?_
      refine r_putI (pc := 70) ok cls5 (qu_sh hq) (k := 4) rfl (Nat.le_of_ble_eq_true rfl) (fun s_ => mx (va_up XX iq s_) YY) (pm_l (qu_lt hq) (pm_0 _ _)).1 (pm_l (qu_lt hq) (pm_0 _ _)).2 rfl rfl rfl dX5_addPerson_70 fl_Qu_44 (fun s8 => ?_)
      exact r_vret (pc := 73) ok dX5_addPerson_73 rfl
    · refine r_aload_n (pc := 48) ok dX5_addPerson_48 rfl ?_
      refine r_getR (pc := 49) ok cls5 (qu_sh hq) (k := 6) rfl (Nat.le_of_ble_eq_true rfl) rfl dX5_addPerson_49 fl_Qu_25 ?_
      refine r_iload_n (pc := 52) ok dX5_addPerson_52 rfl ?_
      refine r_dup2 (pc := 53) ok dX5_addPerson_53 rfl rfl ?_
      refine r_iald (pc := 54) ok (qu_s2 hq) (Nat.add_sub_cancel_left _ _) (mx_l (qu_lt hq) (va_up_self _ _ _)) dX5_addPerson_54 (fun i9 => ?_)
      refine r_iconst (pc := 55) ok (1 : Int32) dX5_addPerson_55 ci_1 ?_
      refine r_aload_n (pc := 56) ok dX5_addPerson_56 rfl ?_
      refine r_getI (pc := 57) ok cls5 (qu_sh hq) (k := 4) rfl (Nat.le_of_ble_eq_true rfl) (mx_l (qu_lt hq) (va_up_self _ _ _)) dX5_addPerson_57 fl_Qu_44 ?_
      refine r_ishl (pc := 60) ok dX5_addPerson_60 ?_
      refine r_ior (pc := 61) ok dX5_addPerson_61 ?_
      refine r_iast (pc := 62) ok (qu_s2 hq) (Nat.add_sub_cancel_left _ _) rfl (fun s_ => mx (va_up XX iq s_) YY) (pm_l (qu_lt hq) (pm_0 _ _)).1 (pm_l (qu_lt hq) (pm_0 _ _)).2 dX5_addPerson_62 (fun i10 s11 => ?_)
      refine r_aload_n (pc := 63) ok dX5_addPerson_63 rfl ?_
      refine r_dup (pc := 64) ok dX5_addPerson_64 rfl ?_
      refine r_getI (pc := 65) ok cls5 (qu_sh hq) (k := 4) rfl (Nat.le_of_ble_eq_true rfl) (mx_l (qu_lt hq) (va_up_self _ _ _)) dX5_addPerson_65 fl_Qu_44 ?_
      refine r_iconst (pc := 68) ok (1 : Int32) dX5_addPerson_68 ci_1 ?_
      refine r_iadd (pc := 69) ok dX5_addPerson_69 ?_
      refine r_putI (pc := 70) ok cls5 (qu_sh hq) (k := 4) rfl (Nat.le_of_ble_eq_true rfl) (fun s_ => mx (va_up XX iq s_) YY) (pm_l (qu_lt hq) (pm_0 _ _)).1 (pm_l (qu_lt hq) (pm_0 _ _)).2 rfl rfl rfl dX5_addPerson_70 fl_Qu_44 (fun s12 => ?_)
      exact r_vret (pc := 73) ok dX5_addPerson_73 rfl
theorem tQu_addPerson {l : Launch} {G : Gx} {b : Nat} {iq : Nat} {XX YY : Nat → Obj} {q : Obj} {v1 : Int64} {v3 : Int32} {v4 : Int32} (hq : isQu iq) {r : Obj} (hr : fQu_addPerson q v1 v3 v4 = some r) : MetG l G b yX5_addPerson cX5_addPerson 5 none 1 [.ref (b + iq), .long v1, .int v3, .int v4] (mx (va_up XX iq q) YY) (qV G b (mx (va_up XX iq r) YY)) := by
  refine met_start [some (.ref (b + iq)), some (.long v1), none, some (.int v3), some (.int v4)] (by decide +kernel) (Nat.le_of_ble_eq_true rfl) rfl (fun Z hl ok => ?_)
  clear hl
  exact vQu_addPerson ok hq r (by rw [hr]; rfl)
theorem vQu_livingIn {Z : Cx} {G : Gx} {b : Nat} {iq : Nat} {XX YY : Nat → Obj} {q : Obj} {v1 : Int32} (ok : OK Z G b cX5_livingIn 2 0 RX5 (some .int)) (hq : isQu iq) (hr_q : XX iq = q) : VO Z G b 2 (fun (r : Int32) => QX Z b (qI G b r (mx XX YY))) (mx XX YY) 0 [some (.ref (b + iq)), some (.int v1)] [] ((fQu_livingIn q v1).bind some) := by
  unfold fQu_livingIn
  refine r_iload_n (pc := 0) ok dX5_livingIn_0 rfl ?_
  refine r_if_lt (pc := 1) ok 27 dX5_livingIn_1 rfl (fun _ => ?_) (fun _ => ?_)
  · refine r_iconst (pc := 27) ok (0 : Int32) dX5_livingIn_27 ci_0 ?_
    exact r_iret (pc := 28) ok dX5_livingIn_28 rfl
  · refine r_iload_n (pc := 4) ok dX5_livingIn_4 rfl ?_
    refine r_aload_n (pc := 5) ok dX5_livingIn_5 rfl ?_
    refine r_getI (pc := 6) ok cls5 (qu_sh hq) (k := 3) rfl (Nat.le_of_ble_eq_true rfl) (mx_l (qu_lt hq) (hr_q)) dX5_livingIn_6 fl_Qu_41 ?_
    refine r_icmp_ge (pc := 9) ok 27 dX5_livingIn_9 rfl (fun _ => ?_) (fun _ => ?_)
    · refine r_iconst (pc := 27) ok (0 : Int32) dX5_livingIn_27 ci_0 ?_
      exact r_iret (pc := 28) ok dX5_livingIn_28 rfl
    · refine r_iload_n (pc := 12) ok dX5_livingIn_12 rfl ?_
      refine r_bipush (pc := 13) ok (6 : Int32) dX5_livingIn_13 cb_6 ?_
      refine r_icmp_ge (pc := 15) ok 27 dX5_livingIn_15 rfl (fun _ => ?_) (fun _ => ?_)
      · refine r_iconst (pc := 27) ok (0 : Int32) dX5_livingIn_27 ci_0 ?_
        exact r_iret (pc := 28) ok dX5_livingIn_28 rfl
      · refine r_aload_n (pc := 18) ok dX5_livingIn_18 rfl ?_
        refine r_getR (pc := 19) ok cls5 (qu_sh hq) (k := 6) rfl (Nat.le_of_ble_eq_true rfl) rfl dX5_livingIn_19 fl_Qu_25 ?_
        refine r_iload_n (pc := 22) ok dX5_livingIn_22 rfl ?_
        refine r_iald (pc := 23) ok (qu_s2 hq) (Nat.add_sub_cancel_left _ _) (mx_l (qu_lt hq) (hr_q)) dX5_livingIn_23 (fun i1 => ?_)
        refine r_goto (pc := 24) ok 28 dX5_livingIn_24 rfl ?_
        exact r_iret (pc := 28) ok dX5_livingIn_28 rfl
theorem tQu_livingIn {l : Launch} {G : Gx} {b : Nat} {iq : Nat} {XX YY : Nat → Obj} {q : Obj} {v1 : Int32} (hq : isQu iq) (hr_q : XX iq = q) {r : Int32} (hr : fQu_livingIn q v1 = some r) : MetG l G b yX5_livingIn cX5_livingIn 2 (some .int) 0 [.ref (b + iq), .int v1] (mx XX YY) (qI G b r (mx XX YY)) := by
  refine met_start [some (.ref (b + iq)), some (.int v1)] (by decide +kernel) (Nat.le_of_ble_eq_true rfl) rfl (fun Z hl ok => ?_)
  clear hl
  exact vQu_livingIn ok hq hr_q r (by rw [hr]; rfl)
theorem vSc_addPerson {Z : Cx} {G : Gx} {b : Nat} {io : Nat} {XX YY : Nat → Obj} {q : Obj} {sc : Obj} {v1 : Int32} {v2 : Int32} {v3 : Int32} (ok : OK Z G b cX8_addPerson 4 2 RX8 none) (ho : isSc io) (hr_q : XX (qid io) = q) : VO Z G b 4 (fun (r : Obj) => QX Z b (qV G b (mx (va_up XX io r) YY))) (mx (va_up XX io sc) YY) 0 [some (.ref (b + io)), some (.int v1), some (.int v2), some (.int v3)] [] ((fSc_addPerson q sc v1 v2 v3).bind some) := by
  unfold fSc_addPerson
  refine r_aload_n (pc := 0) ok dX8_addPerson_0 rfl ?_
  refine r_getR (pc := 1) ok cls8 (sc_sh ho) (k := 0) rfl (Nat.le_of_ble_eq_true rfl) rfl dX8_addPerson_1 fl_Sc_42 ?_
  refine r_iload_n (pc := 4) ok dX8_addPerson_4 rfl ?_
  refine k_I (pc := 5) (fun r1 => r1) (fun r1 => mx (va_up XX io sc) YY) (fun r1 hr_ => c_V (n := 1) ok cls5 (qu_sh (qid_qu ho)) rfl ml_Sc_62 wv_X5_hasPerson yk_X5_hasPerson rfl (Nat.le_of_ble_eq_true rfl) (Nat.le_of_ble_eq_true rfl) (tQu_hasPerson (qid_qu ho) ((va_up_ne _ _ (qid_ne ho)).trans (hr_q)) hr_) rfl (Nat.le_of_ble_eq_true rfl) dX8_addPerson_5) (fun r1 => ?_)
  refine r_if_ne (pc := 8) ok 12 dX8_addPerson_8 rfl (fun _ => ?_) (fun _ => ?_)
  · exact r_vret (pc := 11) ok dX8_addPerson_11 rfl
  · refine r_aload_n (pc := 12) ok dX8_addPerson_12 rfl ?_
    refine r_getR (pc := 13) ok cls8 (sc_sh ho) (k := 6) rfl (Nat.le_of_ble_eq_true rfl) rfl dX8_addPerson_13 fl_Sc_18 ?_
    refine r_iload_n (pc := 16) ok dX8_addPerson_16 rfl ?_
    refine r_iconst (pc := 17) ok (0 : Int32) dX8_addPerson_17 ci_0 ?_
    refine r_iast (pc := 18) ok (sc_s3 ho) (Nat.add_sub_cancel_left _ _) rfl (fun s_ => mx (va_up XX io s_) YY) (pm_l (sc_lt ho) (pm_0 _ _)).1 (pm_l (sc_lt ho) (pm_0 _ _)).2 dX8_addPerson_18 (fun i2 s3 => ?_)
    refine r_aload_n (pc := 19) ok dX8_addPerson_19 rfl ?_
    refine r_getR (pc := 20) ok cls8 (sc_sh ho) (k := 7) rfl (Nat.le_of_ble_eq_true rfl) rfl dX8_addPerson_20 fl_Sc_21 ?_
    refine r_iload_n (pc := 23) ok dX8_addPerson_23 rfl ?_
    refine r_iload_n (pc := 24) ok dX8_addPerson_24 rfl ?_
    refine r_iast (pc := 25) ok (sc_s4 ho) (Nat.add_sub_cancel_left _ _) rfl (fun s_ => mx (va_up XX io s_) YY) (pm_l (sc_lt ho) (pm_0 _ _)).1 (pm_l (sc_lt ho) (pm_0 _ _)).2 dX8_addPerson_25 (fun i4 s5 => ?_)
    refine r_aload_n (pc := 26) ok dX8_addPerson_26 rfl ?_
    refine r_getR (pc := 27) ok cls8 (sc_sh ho) (k := 8) rfl (Nat.le_of_ble_eq_true rfl) rfl dX8_addPerson_27 fl_Sc_24 ?_
    refine r_iload_n (pc := 30) ok dX8_addPerson_30 rfl ?_
    refine r_iload_n (pc := 31) ok dX8_addPerson_31 rfl ?_
    refine r_iast (pc := 32) ok (sc_s5 ho) (Nat.add_sub_cancel_left _ _) rfl (fun s_ => mx (va_up XX io s_) YY) (pm_l (sc_lt ho) (pm_0 _ _)).1 (pm_l (sc_lt ho) (pm_0 _ _)).2 dX8_addPerson_32 (fun i6 s7 => ?_)
    refine r_aload_n (pc := 33) ok dX8_addPerson_33 rfl ?_
    refine r_getR (pc := 34) ok cls8 (sc_sh ho) (k := 9) rfl (Nat.le_of_ble_eq_true rfl) rfl dX8_addPerson_34 fl_Sc_27 ?_
    refine r_iload_n (pc := 37) ok dX8_addPerson_37 rfl ?_
    refine r_iconst (pc := 38) ok (-1 : Int32) dX8_addPerson_38 ci_m1 ?_
    refine r_iast (pc := 39) ok (sc_s6 ho) (Nat.add_sub_cancel_left _ _) rfl (fun s_ => mx (va_up XX io s_) YY) (pm_l (sc_lt ho) (pm_0 _ _)).1 (pm_l (sc_lt ho) (pm_0 _ _)).2 dX8_addPerson_39 (fun i8 s9 => ?_)
    refine r_aload_n (pc := 40) ok dX8_addPerson_40 rfl ?_
    refine r_getR (pc := 41) ok cls8 (sc_sh ho) (k := 10) rfl (Nat.le_of_ble_eq_true rfl) rfl dX8_addPerson_41 fl_Sc_30 ?_
    refine r_iload_n (pc := 44) ok dX8_addPerson_44 rfl ?_
    refine r_iconst (pc := 45) ok (0 : Int32) dX8_addPerson_45 ci_0 ?_
    refine r_iast (pc := 46) ok (sc_s7 ho) (Nat.add_sub_cancel_left _ _) rfl (fun s_ => mx (va_up XX io s_) YY) (pm_l (sc_lt ho) (pm_0 _ _)).1 (pm_l (sc_lt ho) (pm_0 _ _)).2 dX8_addPerson_46 (fun i10 s11 => ?_)
    refine r_aload_n (pc := 47) ok dX8_addPerson_47 rfl ?_
    refine r_getR (pc := 48) ok cls8 (sc_sh ho) (k := 11) rfl (Nat.le_of_ble_eq_true rfl) rfl dX8_addPerson_48 fl_Sc_33 ?_
    refine r_iload_n (pc := 51) ok dX8_addPerson_51 rfl ?_
    refine r_iconst (pc := 52) ok (0 : Int32) dX8_addPerson_52 ci_0 ?_
    refine r_iast (pc := 53) ok (sc_s8 ho) (Nat.add_sub_cancel_left _ _) rfl (fun s_ => mx (va_up XX io s_) YY) (pm_l (sc_lt ho) (pm_0 _ _)).1 (pm_l (sc_lt ho) (pm_0 _ _)).2 dX8_addPerson_53 (fun i12 s13 => ?_)
    refine r_aload_n (pc := 54) ok dX8_addPerson_54 rfl ?_
    refine r_getR (pc := 55) ok cls8 (sc_sh ho) (k := 12) rfl (Nat.le_of_ble_eq_true rfl) rfl dX8_addPerson_55 fl_Sc_36 ?_
    refine r_iload_n (pc := 58) ok dX8_addPerson_58 rfl ?_
    refine r_iconst (pc := 59) ok (0 : Int32) dX8_addPerson_59 ci_0 ?_
    refine r_iast (pc := 60) ok (sc_s9 ho) (Nat.add_sub_cancel_left _ _) rfl (fun s_ => mx (va_up XX io s_) YY) (pm_l (sc_lt ho) (pm_0 _ _)).1 (pm_l (sc_lt ho) (pm_0 _ _)).2 dX8_addPerson_60 (fun i14 s15 => ?_)
    refine r_aload_n (pc := 61) ok dX8_addPerson_61 rfl ?_
    refine r_getR (pc := 62) ok cls8 (sc_sh ho) (k := 13) rfl (Nat.le_of_ble_eq_true rfl) rfl dX8_addPerson_62 fl_Sc_39 ?_
    refine r_iload_n (pc := 65) ok dX8_addPerson_65 rfl ?_
    refine r_iconst (pc := 66) ok (0 : Int32) dX8_addPerson_66 ci_0 ?_
    refine r_iast (pc := 67) ok (sc_s10 ho) (Nat.add_sub_cancel_left _ _) rfl (fun s_ => mx (va_up XX io s_) YY) (pm_l (sc_lt ho) (pm_0 _ _)).1 (pm_l (sc_lt ho) (pm_0 _ _)).2 dX8_addPerson_67 (fun i16 s17 => ?_)
    refine r_aload_n (pc := 68) ok dX8_addPerson_68 rfl ?_
    refine r_iload_n (pc := 69) ok dX8_addPerson_69 rfl ?_
    refine r_aload_n (pc := 70) ok dX8_addPerson_70 rfl ?_
    refine r_getR (pc := 71) ok cls8 (sc_sh ho) (k := 0) rfl (Nat.le_of_ble_eq_true rfl) rfl dX8_addPerson_71 fl_Sc_42 ?_
    refine r_aload_n (pc := 74) ok dX8_addPerson_74 rfl ?_
    refine r_getR (pc := 75) ok cls8 (sc_sh ho) (k := 0) rfl (Nat.le_of_ble_eq_true rfl) rfl dX8_addPerson_75 fl_Sc_42 ?_
    refine r_iload_n (pc := 78) ok dX8_addPerson_78 rfl ?_
    refine k_I (pc := 79) (fun r18 => r18) (fun r18 => mx (va_up XX io s17) YY) (fun r18 hr_ => c_V (n := 1) ok cls5 (qu_sh (qid_qu ho)) rfl ml_Sc_68 wv_X5_homeOf yk_X5_homeOf rfl (Nat.le_of_ble_eq_true rfl) (Nat.le_of_ble_eq_true rfl) (tQu_homeOf (qid_qu ho) ((va_up_ne _ _ (qid_ne ho)).trans (hr_q)) hr_) rfl (Nat.le_of_ble_eq_true rfl) dX8_addPerson_79) (fun r18 => ?_)
    refine k_I (pc := 82) (fun r19 => r19) (fun r19 => mx (va_up XX io s17) YY) (fun r19 hr_ => c_V (n := 1) ok cls5 (qu_sh (qid_qu ho)) rfl ml_Sc_72 wv_X5_livingIn yk_X5_livingIn rfl (Nat.le_of_ble_eq_true rfl) (Nat.le_of_ble_eq_true rfl) (tQu_livingIn (qid_qu ho) ((va_up_ne _ _ (qid_ne ho)).trans (hr_q)) hr_) rfl (Nat.le_of_ble_eq_true rfl) dX8_addPerson_82) (fun r19 => ?_)
    refine r_iconst (pc := 85) ok (1 : Int32) dX8_addPerson_85 ci_1 ?_
    refine r_iload_n (pc := 86) ok dX8_addPerson_86 rfl ?_
    refine r_ishl (pc := 87) ok dX8_addPerson_87 ?_
    refine r_iconst (pc := 88) ok (-1 : Int32) dX8_addPerson_88 ci_m1 ?_
    refine r_ixor (pc := 89) ok dX8_addPerson_89 ?_
    refine r_iand (pc := 90) ok dX8_addPerson_90 ?_
    refine k_V (pc := 91)  (fun r20 => mx (va_up XX io r20) YY) (fun r20 hr_ => c_V (n := 2) ok cls8 (sc_sh ho) rfl ml_Sc_75 wv_X8_makeKnown yk_X8_makeKnown rfl (Nat.le_of_ble_eq_true rfl) (Nat.le_of_ble_eq_true rfl) (tSc_makeKnown ho (hr_q) hr_) rfl (Nat.le_of_ble_eq_true rfl) dX8_addPerson_91) (fun r20 => ?_)
    exact r_vret (pc := 94) ok dX8_addPerson_94 rfl
theorem tSc_addPerson {l : Launch} {G : Gx} {b : Nat} {io : Nat} {XX YY : Nat → Obj} {q : Obj} {sc : Obj} {v1 : Int32} {v2 : Int32} {v3 : Int32} (ho : isSc io) (hr_q : XX (qid io) = q) {r : Obj} (hr : fSc_addPerson q sc v1 v2 v3 = some r) : MetG l G b yX8_addPerson cX8_addPerson 4 none 2 [.ref (b + io), .int v1, .int v2, .int v3] (mx (va_up XX io sc) YY) (qV G b (mx (va_up XX io r) YY)) := by
  refine met_start [some (.ref (b + io)), some (.int v1), some (.int v2), some (.int v3)] (by decide +kernel) (Nat.le_of_ble_eq_true rfl) rfl (fun Z hl ok => ?_)
  clear hl
  exact vSc_addPerson ok ho hr_q r (by rw [hr]; rfl)
theorem wTa_takeOneOf_J28 {Z : Cx} {G : Gx} {b : Nat} {XX YY : Nat → Obj} {ta : Obj} (ok : OK Z G b cX10_takeOneOf 3 2 RX10 (some .int)) : VO Z G b 3 (fun (r : Int32 × Obj) => QX Z b (qI G b r.1 (mx (va_up XX 1 r.2) YY))) (mx (va_up XX 1 ta) YY) 28 [some (.ref (b + 1)), none, none] [] ((fTa_takeOneOf_J28 ta).bind some) := by
  unfold fTa_takeOneOf_J28
  refine r_aload_n (pc := 28) ok dX10_takeOneOf_28 rfl ?_
  refine r_iconst (pc := 29) ok (1 : Int32) dX10_takeOneOf_29 ci_1 ?_
  refine k_I (pc := 30) (fun r2 => r2.1) (fun r2 => mx (va_up XX 1 r2.2) YY) (fun r2 hr_ => c_V (n := 1) ok cls10 sh_1 rfl ml_Ta_96 wv_X10_refuse yk_X10_refuse rfl (Nat.le_of_ble_eq_true rfl) (Nat.le_of_ble_eq_true rfl) (tTa_refuse hr_) rfl (Nat.le_of_ble_eq_true rfl) dX10_takeOneOf_30) (fun r2 => ?_)
  exact r_iret (pc := 33) ok dX10_takeOneOf_33 rfl
theorem vTa_takeOneOf {Z : Cx} {G : Gx} {b : Nat} {XX YY : Nat → Obj} {ta : Obj} {v1 : Int32} {v2 : Int32} (ok : OK Z G b cX10_takeOneOf 3 2 RX10 (some .int)) : VO Z G b 3 (fun (r : Int32 × Obj) => QX Z b (qI G b r.1 (mx (va_up XX 1 r.2) YY))) (mx (va_up XX 1 ta) YY) 0 [some (.ref (b + 1)), some (.int v1), some (.int v2)] [] ((fTa_takeOneOf ta v1 v2).bind some) := by
  unfold fTa_takeOneOf
  refine r_aload_n (pc := 0) ok dX10_takeOneOf_0 rfl ?_
  refine k_V (pc := 1)  (fun r1 => mx (va_up XX 1 r1) YY) (fun r1 hr_ => c_V (n := 0) ok cls10 sh_1 rfl ml_Ta_59 wv_X10_take yk_X10_take rfl (Nat.le_of_ble_eq_true rfl) (Nat.le_of_ble_eq_true rfl) (tTa_take hr_) rfl (Nat.le_of_ble_eq_true rfl) dX10_takeOneOf_1) (fun r1 => ?_)
  refine r_aload_n (pc := 4) ok dX10_takeOneOf_4 rfl ?_
  refine r_getI (pc := 5) ok cls10 sh_1 (k := 4) rfl (Nat.le_of_ble_eq_true rfl) (mx_l (Nat.le_of_ble_eq_true rfl) (va_up_self _ _ _)) dX10_takeOneOf_5 fl_Ta_76 ?_
  refine r_iconst (pc := 8) ok (1 : Int32) dX10_takeOneOf_8 ci_1 ?_
  refine r_icmp_ne (pc := 9) ok 28 dX10_takeOneOf_9 rfl (fun _ => ?_) (fun _ => ?_)
  · refine r_aload_n (pc := 12) ok dX10_takeOneOf_12 rfl ?_
    refine r_getI (pc := 13) ok cls10 sh_1 (k := 5) rfl (Nat.le_of_ble_eq_true rfl) (mx_l (Nat.le_of_ble_eq_true rfl) (va_up_self _ _ _)) dX10_takeOneOf_13 fl_Ta_73 ?_
    refine r_iload_n (pc := 16) ok dX10_takeOneOf_16 rfl ?_
    refine r_icmp_lt (pc := 17) ok 28 dX10_takeOneOf_17 rfl (fun _ => ?_) (fun _ => ?_)
    · refine r_lv (lk_s (lk_n (lk_n lk_0 _) _) _) ?_
      exact wTa_takeOneOf_J28 ok
    · refine r_aload_n (pc := 20) ok dX10_takeOneOf_20 rfl ?_
      refine r_getI (pc := 21) ok cls10 sh_1 (k := 5) rfl (Nat.le_of_ble_eq_true rfl) (mx_l (Nat.le_of_ble_eq_true rfl) (va_up_self _ _ _)) dX10_takeOneOf_21 fl_Ta_73 ?_
      refine r_iload_n (pc := 24) ok dX10_takeOneOf_24 rfl ?_
      refine r_icmp_le (pc := 25) ok 34 dX10_takeOneOf_25 rfl (fun _ => ?_) (fun _ => ?_)
      · refine r_aload_n (pc := 34) ok dX10_takeOneOf_34 rfl ?_
        refine r_getI (pc := 35) ok cls10 sh_1 (k := 5) rfl (Nat.le_of_ble_eq_true rfl) (mx_l (Nat.le_of_ble_eq_true rfl) (va_up_self _ _ _)) dX10_takeOneOf_35 fl_Ta_73 ?_
        refine r_iload_n (pc := 38) ok dX10_takeOneOf_38 rfl ?_
        refine r_isub (pc := 39) ok dX10_takeOneOf_39 ?_
        exact r_iret (pc := 40) ok dX10_takeOneOf_40 rfl
      · refine r_lv (lk_s (lk_n (lk_n lk_0 _) _) _) ?_
        exact wTa_takeOneOf_J28 ok
  · refine r_lv (lk_s (lk_n (lk_n lk_0 _) _) _) ?_
    exact wTa_takeOneOf_J28 ok
theorem tTa_takeOneOf {l : Launch} {G : Gx} {b : Nat} {XX YY : Nat → Obj} {ta : Obj} {v1 : Int32} {v2 : Int32} {r : Int32 × Obj} (hr : fTa_takeOneOf ta v1 v2 = some r) : MetG l G b yX10_takeOneOf cX10_takeOneOf 3 (some .int) 2 [.ref (b + 1), .int v1, .int v2] (mx (va_up XX 1 ta) YY) (qI G b r.1 (mx (va_up XX 1 r.2) YY)) := by
  refine met_start [some (.ref (b + 1)), some (.int v1), some (.int v2)] (by decide +kernel) (Nat.le_of_ble_eq_true rfl) rfl (fun Z hl ok => ?_)
  clear hl
  exact vTa_takeOneOf ok r (by rw [hr]; rfl)
theorem wQr_readPerson_J150 {Z : Cx} {G : Gx} {b : Nat} {XX YY : Nat → Obj} {q : Obj} {ta : Obj} {sc : Obj} {v1 : Int64} {v4 : Int32} {v5 : Int32} {v6 : Int32} {k0 : Int32} (ok : OK Z G b cX6_readPerson 8 3 RX6 (some .boolean)) : VO Z G b 8 (fun (r : Int32 × Obj × Obj × Obj) => QX Z b (qI G b r.1 (mx (va_up (va_up (va_up XX 29 r.2.1) 1 r.2.2.1) 36 r.2.2.2) YY))) (mx (va_up (va_up (va_up XX 29 q) 1 ta) 36 sc) YY) 150 [some (.ref (b + 212)), some (.long v1), none, none, some (.int v4), some (.int v5), some (.int v6), none] [.int k0] ((fQr_readPerson_J150 q ta sc v1 v4 v5 v6 k0).bind some) := by
  unfold fQr_readPerson_J150
  refine r_istore (pc := 150) ok dX6_readPerson_150 (Nat.le_of_ble_eq_true rfl) rfl ?_
  refine r_iload (pc := 152) ok dX6_readPerson_152 rfl ?_
  refine r_iconst (pc := 154) ok (-1 : Int32) dX6_readPerson_154 ci_m1 ?_
  refine r_icmp_ne (pc := 155) ok 160 dX6_readPerson_155 rfl (fun _ => ?_) (fun _ => ?_)
  · refine r_iconst (pc := 158) ok (0 : Int32) dX6_readPerson_158 ci_0 ?_
    exact r_zret (pc := 159) ok dX6_readPerson_159 za_0 rfl
  · refine r_aload_n (pc := 160) ok dX6_readPerson_160 rfl ?_
    refine r_getR (pc := 161) ok cls6 sh_212 (k := 1) rfl (Nat.le_of_ble_eq_true rfl) rfl dX6_readPerson_161 fl_Qr_21 ?_
    refine r_lload_n (pc := 164) ok dX6_readPerson_164 rfl ?_
    refine r_iload (pc := 165) ok dX6_readPerson_165 rfl ?_
    refine r_iload (pc := 167) ok dX6_readPerson_167 rfl ?_
    refine k_V (pc := 169)  (fun r6 => mx (va_up (va_up (va_up XX 29 r6) 1 ta) 36 sc) YY) (fun r6 hr_ => c_V (n := 3) ok cls5 sh_29 rfl ml_Qr_136 wv_X5_addPerson yk_X5_addPerson rfl (Nat.le_of_ble_eq_true rfl) (Nat.le_of_ble_eq_true rfl) (met_cast (congrArg (fun A_ => mx A_ YY) ((congrArg (fun A_ => (va_up A_ 36 sc)) (up_co XX q ta (show 29 ≠ 1 from by decide))).trans (up_co (va_up XX 1 ta) q sc (show 29 ≠ 36 from by decide)))) (congrArg (fun A_ => qV G b (mx A_ YY)) ((congrArg (fun A_ => (va_up A_ 36 sc)) (up_co XX r6 ta (show 29 ≠ 1 from by decide))).trans (up_co (va_up XX 1 ta) r6 sc (show 29 ≠ 36 from by decide)))) (tQu_addPerson (qu_c (o := 29) (by decide)) hr_)) rfl (Nat.le_of_ble_eq_true rfl) dX6_readPerson_169) (fun r6 => ?_)
    refine r_aload_n (pc := 172) ok dX6_readPerson_172 rfl ?_
    refine r_getR (pc := 173) ok cls6 sh_212 (k := 2) rfl (Nat.le_of_ble_eq_true rfl) rfl dX6_readPerson_173 fl_Qr_26 ?_
    refine r_aload_n (pc := 176) ok dX6_readPerson_176 rfl ?_
    refine r_getR (pc := 177) ok cls6 sh_212 (k := 1) rfl (Nat.le_of_ble_eq_true rfl) rfl dX6_readPerson_177 fl_Qr_21 ?_
    refine r_getI (pc := 180) ok cls5 sh_29 (k := 4) rfl (Nat.le_of_ble_eq_true rfl) (mx_l (Nat.le_of_ble_eq_true rfl) ((va_up_ne _ _ (by decide)).trans ((va_up_ne _ _ (by decide)).trans (va_up_self _ _ _)))) dX6_readPerson_180 fl_Qr_99 ?_
    refine r_iconst (pc := 183) ok (1 : Int32) dX6_readPerson_183 ci_1 ?_
    refine r_isub (pc := 184) ok dX6_readPerson_184 ?_
    refine r_iload (pc := 185) ok dX6_readPerson_185 rfl ?_
    refine r_iload (pc := 187) ok dX6_readPerson_187 rfl ?_
    refine k_V (pc := 189)  (fun r7 => mx (va_up (va_up (va_up XX 29 r6) 1 ta) 36 r7) YY) (fun r7 hr_ => c_V (n := 3) ok cls8 sh_36 rfl ml_Qr_140 wv_X8_addPerson yk_X8_addPerson rfl (Nat.le_of_ble_eq_true rfl) (Nat.le_of_ble_eq_true rfl) (tSc_addPerson (sc_c (o := 36) (by decide)) ((va_up_ne _ _ (by decide)).trans (va_up_self _ _ _)) hr_) rfl (Nat.le_of_ble_eq_true rfl) dX6_readPerson_189) (fun r7 => ?_)
    refine r_iconst (pc := 192) ok (1 : Int32) dX6_readPerson_192 ci_1 ?_
    exact r_zret (pc := 193) ok dX6_readPerson_193 za_1 rfl
theorem wQr_readPerson_J127 {Z : Cx} {G : Gx} {b : Nat} {XX YY : Nat → Obj} {q : Obj} {ta : Obj} {sc : Obj} {v1 : Int64} {v4 : Int32} {v5 : Int32} {k0 : Int32} (ok : OK Z G b cX6_readPerson 8 3 RX6 (some .boolean)) : VO Z G b 8 (fun (r : Int32 × Obj × Obj × Obj) => QX Z b (qI G b r.1 (mx (va_up (va_up (va_up XX 29 r.2.1) 1 r.2.2.1) 36 r.2.2.2) YY))) (mx (va_up (va_up (va_up XX 29 q) 1 ta) 36 sc) YY) 127 [some (.ref (b + 212)), some (.long v1), none, none, some (.int v4), some (.int v5), none, none] [.int k0] ((fQr_readPerson_J127 q ta sc v1 v4 v5 k0).bind some) := by
  unfold fQr_readPerson_J127
  refine r_istore (pc := 127) ok dX6_readPerson_127 (Nat.le_of_ble_eq_true rfl) rfl ?_
  refine r_iload (pc := 129) ok dX6_readPerson_129 rfl ?_
  refine r_iconst (pc := 131) ok (-1 : Int32) dX6_readPerson_131 ci_m1 ?_
  refine r_icmp_ne (pc := 132) ok 139 dX6_readPerson_132 rfl (fun _ => ?_) (fun _ => ?_)
  · refine r_iconst (pc := 135) ok (-1 : Int32) dX6_readPerson_135 ci_m1 ?_
    refine r_goto (pc := 136) ok 150 dX6_readPerson_136 rfl ?_
    exact wQr_readPerson_J150 ok
  · refine r_aload_n (pc := 139) ok dX6_readPerson_139 rfl ?_
    refine r_getR (pc := 140) ok cls6 sh_212 (k := 0) rfl (Nat.le_of_ble_eq_true rfl) rfl dX6_readPerson_140 fl_Qr_9 ?_
    refine r_bipush (pc := 143) ok (11 : Int32) dX6_readPerson_143 cb_11 ?_
    refine r_bipush (pc := 145) ok (12 : Int32) dX6_readPerson_145 cb_12 ?_
    refine k_I (pc := 147) (fun r8 => r8.1) (fun r8 => mx (va_up (va_up (va_up XX 29 q) 1 r8.2) 36 sc) YY) (fun r8 hr_ => c_V (n := 2) ok cls10 sh_1 rfl ml_Qr_133 wv_X10_takeOneOf yk_X10_takeOneOf rfl (Nat.le_of_ble_eq_true rfl) (Nat.le_of_ble_eq_true rfl) (met_cast (congrArg (fun A_ => mx A_ YY) (up_co (va_up XX 29 q) ta sc (show 1 ≠ 36 from by decide))) (congrArg (fun A_ => qI G b r8.1 (mx A_ YY)) (up_co (va_up XX 29 q) r8.2 sc (show 1 ≠ 36 from by decide))) (tTa_takeOneOf hr_)) rfl (Nat.le_of_ble_eq_true rfl) dX6_readPerson_147) (fun r8 => ?_)
    exact wQr_readPerson_J150 ok
theorem wQr_readPerson_J87 {Z : Cx} {G : Gx} {b : Nat} {XX YY : Nat → Obj} {q : Obj} {ta : Obj} {sc : Obj} {v1 : Int64} {v4 : Int32} (ok : OK Z G b cX6_readPerson 8 3 RX6 (some .boolean)) : VO Z G b 8 (fun (r : Int32 × Obj × Obj × Obj) => QX Z b (qI G b r.1 (mx (va_up (va_up (va_up XX 29 r.2.1) 1 r.2.2.1) 36 r.2.2.2) YY))) (mx (va_up (va_up (va_up XX 29 q) 1 ta) 36 sc) YY) 87 [some (.ref (b + 212)), some (.long v1), none, none, some (.int v4), none, none, none] [] ((fQr_readPerson_J87 q ta sc v1 v4).bind some) := by
  unfold fQr_readPerson_J87
  refine r_aload_n (pc := 87) ok dX6_readPerson_87 rfl ?_
  refine r_getR (pc := 88) ok cls6 sh_212 (k := 0) rfl (Nat.le_of_ble_eq_true rfl) rfl dX6_readPerson_88 fl_Qr_9 ?_
  refine r_iconst (pc := 91) ok (0 : Int32) dX6_readPerson_91 ci_0 ?_
  refine r_aload_n (pc := 92) ok dX6_readPerson_92 rfl ?_
  refine r_getR (pc := 93) ok cls6 sh_212 (k := 1) rfl (Nat.le_of_ble_eq_true rfl) rfl dX6_readPerson_93 fl_Qr_21 ?_
  refine r_getI (pc := 96) ok cls5 sh_29 (k := 0) rfl (Nat.le_of_ble_eq_true rfl) (mx_l (Nat.le_of_ble_eq_true rfl) ((va_up_ne _ _ (by decide)).trans ((va_up_ne _ _ (by decide)).trans (va_up_self _ _ _)))) dX6_readPerson_96 fl_Qr_106 ?_
  refine r_iconst (pc := 99) ok (1 : Int32) dX6_readPerson_99 ci_1 ?_
  refine r_isub (pc := 100) ok dX6_readPerson_100 ?_
  refine k_I (pc := 101) (fun r5 => r5.1) (fun r5 => mx (va_up (va_up (va_up XX 29 q) 1 r5.2) 36 sc) YY) (fun r5 hr_ => c_V (n := 2) ok cls10 sh_1 rfl ml_Qr_102 wv_X10_takeNumber yk_X10_takeNumber rfl (Nat.le_of_ble_eq_true rfl) (Nat.le_of_ble_eq_true rfl) (met_cast (congrArg (fun A_ => mx A_ YY) (up_co (va_up XX 29 q) ta sc (show 1 ≠ 36 from by decide))) (congrArg (fun A_ => qI G b r5.1 (mx A_ YY)) (up_co (va_up XX 29 q) r5.2 sc (show 1 ≠ 36 from by decide))) (tTa_takeNumber hr_)) rfl (Nat.le_of_ble_eq_true rfl) dX6_readPerson_101) (fun r5 => ?_)
  refine r_istore (pc := 104) ok dX6_readPerson_104 (Nat.le_of_ble_eq_true rfl) rfl ?_
  refine r_iload (pc := 106) ok dX6_readPerson_106 rfl ?_
  refine r_iconst (pc := 108) ok (-1 : Int32) dX6_readPerson_108 ci_m1 ?_
  refine r_icmp_ne (pc := 109) ok 116 dX6_readPerson_109 rfl (fun _ => ?_) (fun _ => ?_)
  · refine r_iconst (pc := 112) ok (-1 : Int32) dX6_readPerson_112 ci_m1 ?_
    refine r_goto (pc := 113) ok 127 dX6_readPerson_113 rfl ?_
    exact wQr_readPerson_J127 ok
  · refine r_aload_n (pc := 116) ok dX6_readPerson_116 rfl ?_
    refine r_getR (pc := 117) ok cls6 sh_212 (k := 0) rfl (Nat.le_of_ble_eq_true rfl) rfl dX6_readPerson_117 fl_Qr_9 ?_
    refine r_bipush (pc := 120) ok (8 : Int32) dX6_readPerson_120 cb_8 ?_
    refine r_bipush (pc := 122) ok (10 : Int32) dX6_readPerson_122 cb_10 ?_
    refine k_I (pc := 124) (fun r9 => r9.1) (fun r9 => mx (va_up (va_up (va_up XX 29 q) 1 r9.2) 36 sc) YY) (fun r9 hr_ => c_V (n := 2) ok cls10 sh_1 rfl ml_Qr_133 wv_X10_takeOneOf yk_X10_takeOneOf rfl (Nat.le_of_ble_eq_true rfl) (Nat.le_of_ble_eq_true rfl) (met_cast (congrArg (fun A_ => mx A_ YY) (up_co (va_up XX 29 q) r5.2 sc (show 1 ≠ 36 from by decide))) (congrArg (fun A_ => qI G b r9.1 (mx A_ YY)) (up_co (va_up XX 29 q) r9.2 sc (show 1 ≠ 36 from by decide))) (tTa_takeOneOf hr_)) rfl (Nat.le_of_ble_eq_true rfl) dX6_readPerson_124) (fun r9 => ?_)
    exact wQr_readPerson_J127 ok
theorem wQr_readPerson_J73 {Z : Cx} {G : Gx} {b : Nat} {XX YY : Nat → Obj} {q : Obj} {ta : Obj} {sc : Obj} {v1 : Int64} {v3 : Int32} {k0 : Int32} (ok : OK Z G b cX6_readPerson 8 3 RX6 (some .boolean)) : VO Z G b 8 (fun (r : Int32 × Obj × Obj × Obj) => QX Z b (qI G b r.1 (mx (va_up (va_up (va_up XX 29 r.2.1) 1 r.2.2.1) 36 r.2.2.2) YY))) (mx (va_up (va_up (va_up XX 29 q) 1 ta) 36 sc) YY) 73 [some (.ref (b + 212)), some (.long v1), none, some (.int v3), none, none, none, none] [.int k0] ((fQr_readPerson_J73 q ta sc v1 v3 k0).bind some) := by
  unfold fQr_readPerson_J73
  refine r_istore (pc := 73) ok dX6_readPerson_73 (Nat.le_of_ble_eq_true rfl) rfl ?_
  refine r_iload_n (pc := 75) ok dX6_readPerson_75 rfl ?_
  refine r_if_ne (pc := 76) ok 87 dX6_readPerson_76 rfl (fun _ => ?_) (fun _ => ?_)
  · refine r_iload (pc := 79) ok dX6_readPerson_79 rfl ?_
    refine r_iconst (pc := 81) ok (-1 : Int32) dX6_readPerson_81 ci_m1 ?_
    refine r_icmp_ne (pc := 82) ok 87 dX6_readPerson_82 rfl (fun _ => ?_) (fun _ => ?_)
    · refine r_iconst (pc := 85) ok (0 : Int32) dX6_readPerson_85 ci_0 ?_
      exact r_zret (pc := 86) ok dX6_readPerson_86 za_0 rfl
    · refine r_lv (lk_s (lk_s (lk_n (lk_n (lk_s (lk_n (lk_n (lk_n lk_0 _) _) _) _) _) _) _) _) ?_
      exact wQr_readPerson_J87 ok
  · refine r_lv (lk_s (lk_s (lk_n (lk_n (lk_s (lk_n (lk_n (lk_n lk_0 _) _) _) _) _) _) _) _) ?_
    exact wQr_readPerson_J87 ok
theorem vQr_readPerson {Z : Cx} {G : Gx} {b : Nat} {XX YY : Nat → Obj} {q : Obj} {ta : Obj} {sc : Obj} (ok : OK Z G b cX6_readPerson 8 3 RX6 (some .boolean)) : VO Z G b 8 (fun (r : Int32 × Obj × Obj × Obj) => QX Z b (qI G b r.1 (mx (va_up (va_up (va_up XX 29 r.2.1) 1 r.2.2.1) 36 r.2.2.2) YY))) (mx (va_up (va_up (va_up XX 29 q) 1 ta) 36 sc) YY) 0 [some (.ref (b + 212)), none, none, none, none, none, none, none] [] ((fQr_readPerson q ta sc).bind some) := by
  unfold fQr_readPerson
  refine r_aload_n (pc := 0) ok dX6_readPerson_0 rfl ?_
  refine r_getR (pc := 1) ok cls6 sh_212 (k := 1) rfl (Nat.le_of_ble_eq_true rfl) rfl dX6_readPerson_1 fl_Qr_21 ?_
  refine r_getI (pc := 4) ok cls5 sh_29 (k := 4) rfl (Nat.le_of_ble_eq_true rfl) (mx_l (Nat.le_of_ble_eq_true rfl) ((va_up_ne _ _ (by decide)).trans ((va_up_ne _ _ (by decide)).trans (va_up_self _ _ _)))) dX6_readPerson_4 fl_Qr_99 ?_
  refine r_bipush (pc := 7) ok (8 : Int32) dX6_readPerson_7 cb_8 ?_
  refine r_icmp_lt (pc := 9) ok 18 dX6_readPerson_9 rfl (fun _ => ?_) (fun _ => ?_)
  · refine r_aload_n (pc := 18) ok dX6_readPerson_18 rfl ?_
    refine r_getR (pc := 19) ok cls6 sh_212 (k := 0) rfl (Nat.le_of_ble_eq_true rfl) rfl dX6_readPerson_19 fl_Qr_9 ?_
    refine r_aload_n (pc := 22) ok dX6_readPerson_22 rfl ?_
    refine r_getR (pc := 23) ok cls6 sh_212 (k := 1) rfl (Nat.le_of_ble_eq_true rfl) rfl dX6_readPerson_23 fl_Qr_21 ?_
    refine k_J (pc := 26) (fun r1 => r1.1) (fun r1 => mx (va_up (va_up (va_up XX 29 q) 1 r1.2) 36 sc) YY) (fun r1 hr_ => c_V (n := 1) ok cls10 sh_1 rfl ml_Qr_115 wv_X10_takeNewName yk_X10_takeNewName rfl (Nat.le_of_ble_eq_true rfl) (Nat.le_of_ble_eq_true rfl) (met_cast (congrArg (fun A_ => mx A_ YY) (up_co (va_up XX 29 q) ta sc (show 1 ≠ 36 from by decide))) (congrArg (fun A_ => qJ G b r1.1 (mx A_ YY)) (up_co (va_up XX 29 q) r1.2 sc (show 1 ≠ 36 from by decide))) (tTa_takeNewName (qu_c (o := 29) (by decide)) ((va_up_ne _ _ (by decide)).trans (va_up_self _ _ _)) hr_)) rfl (Nat.le_of_ble_eq_true rfl) dX6_readPerson_26) (fun r1 => ?_)
    refine r_lstore_n (pc := 29) ok dX6_readPerson_29 (Nat.le_of_ble_eq_true rfl) rfl ?_
    refine r_lload_n (pc := 30) ok dX6_readPerson_30 rfl ?_
    refine r_lconst (pc := 31) ok (0 : Int64) dX6_readPerson_31 (by decide +kernel) ?_
    refine r_lcmp (pc := 32) ok dX6_readPerson_32 ?_
    refine r_if_ne (pc := 33) ok 38 dX6_readPerson_33 rfl (fun _ => ?_) (fun _ => ?_)
    · refine r_iconst (pc := 36) ok (0 : Int32) dX6_readPerson_36 ci_0 ?_
      exact r_zret (pc := 37) ok dX6_readPerson_37 za_0 rfl
    · refine r_aload_n (pc := 38) ok dX6_readPerson_38 rfl ?_
      refine r_getR (pc := 39) ok cls6 sh_212 (k := 0) rfl (Nat.le_of_ble_eq_true rfl) rfl dX6_readPerson_39 fl_Qr_9 ?_
      refine k_V (pc := 42)  (fun r2 => mx (va_up (va_up (va_up XX 29 q) 1 r2) 36 sc) YY) (fun r2 hr_ => c_V (n := 0) ok cls10 sh_1 rfl ml_Qr_123 wv_X10_take yk_X10_take rfl (Nat.le_of_ble_eq_true rfl) (Nat.le_of_ble_eq_true rfl) (met_cast (congrArg (fun A_ => mx A_ YY) (up_co (va_up XX 29 q) r1.2 sc (show 1 ≠ 36 from by decide))) (congrArg (fun A_ => qV G b (mx A_ YY)) (up_co (va_up XX 29 q) r2 sc (show 1 ≠ 36 from by decide))) (tTa_take hr_)) rfl (Nat.le_of_ble_eq_true rfl) dX6_readPerson_42) (fun r2 => ?_)
      refine r_aload_n (pc := 45) ok dX6_readPerson_45 rfl ?_
      refine r_getR (pc := 46) ok cls6 sh_212 (k := 0) rfl (Nat.le_of_ble_eq_true rfl) rfl dX6_readPerson_46 fl_Qr_9 ?_
      refine r_iconst (pc := 49) ok (3 : Int32) dX6_readPerson_49 ci_3 ?_
      refine k_I (pc := 50) (fun r3 => r3) (fun r3 => mx (va_up (va_up (va_up XX 29 q) 1 r2) 36 sc) YY) (fun r3 hr_ => c_V (n := 1) ok cls10 sh_1 rfl ml_Qr_126 wv_X10_isWord yk_X10_isWord rfl (Nat.le_of_ble_eq_true rfl) (Nat.le_of_ble_eq_true rfl) (tTa_isWord ((va_up_ne _ _ (by decide)).trans (va_up_self _ _ _)) hr_) rfl (Nat.le_of_ble_eq_true rfl) dX6_readPerson_50) (fun r3 => ?_)
      refine r_istore_n (pc := 53) ok dX6_readPerson_53 (Nat.le_of_ble_eq_true rfl) rfl ?_
      refine r_iload_n (pc := 54) ok dX6_readPerson_54 rfl ?_
      refine r_if_eq (pc := 55) ok 62 dX6_readPerson_55 rfl (fun _ => ?_) (fun _ => ?_)
      · refine r_aload_n (pc := 62) ok dX6_readPerson_62 rfl ?_
        refine r_getR (pc := 63) ok cls6 sh_212 (k := 0) rfl (Nat.le_of_ble_eq_true rfl) rfl dX6_readPerson_63 fl_Qr_9 ?_
        refine r_aload_n (pc := 66) ok dX6_readPerson_66 rfl ?_
        refine r_getR (pc := 67) ok cls6 sh_212 (k := 1) rfl (Nat.le_of_ble_eq_true rfl) rfl dX6_readPerson_67 fl_Qr_21 ?_
        refine k_I (pc := 70) (fun r4 => r4.1) (fun r4 => mx (va_up (va_up (va_up XX 29 q) 1 r4.2) 36 sc) YY) (fun r4 hr_ => c_V (n := 1) ok cls10 sh_1 rfl ml_Qr_129 wv_X10_houseHere yk_X10_houseHere rfl (Nat.le_of_ble_eq_true rfl) (Nat.le_of_ble_eq_true rfl) (met_cast (congrArg (fun A_ => mx A_ YY) (up_co (va_up XX 29 q) r2 sc (show 1 ≠ 36 from by decide))) (congrArg (fun A_ => qI G b r4.1 (mx A_ YY)) (up_co (va_up XX 29 q) r4.2 sc (show 1 ≠ 36 from by decide))) (tTa_houseHere (qu_c (o := 29) (by decide)) ((va_up_ne _ _ (by decide)).trans (va_up_self _ _ _)) hr_)) rfl (Nat.le_of_ble_eq_true rfl) dX6_readPerson_70) (fun r4 => ?_)
        exact wQr_readPerson_J73 ok
      · refine r_iconst (pc := 58) ok (-1 : Int32) dX6_readPerson_58 ci_m1 ?_
        refine r_goto (pc := 59) ok 73 dX6_readPerson_59 rfl ?_
        exact wQr_readPerson_J73 ok
  · refine r_aload_n (pc := 12) ok dX6_readPerson_12 rfl ?_
    refine r_iconst (pc := 13) ok (4 : Int32) dX6_readPerson_13 ci_4 ?_
    refine k_I (pc := 14) (fun r10 => r10.1) (fun r10 => mx (va_up (va_up (va_up XX 29 q) 1 r10.2) 36 sc) YY) (fun r10 hr_ => c_V (n := 1) ok cls6 sh_212 rfl ml_Qr_65 wv_X6_refuse yk_X6_refuse rfl (Nat.le_of_ble_eq_true rfl) (Nat.le_of_ble_eq_true rfl) (met_cast (congrArg (fun A_ => mx A_ YY) (up_co (va_up XX 29 q) ta sc (show 1 ≠ 36 from by decide))) (congrArg (fun A_ => qI G b r10.1 (mx A_ YY)) (up_co (va_up XX 29 q) r10.2 sc (show 1 ≠ 36 from by decide))) (tQr_refuse hr_)) rfl (Nat.le_of_ble_eq_true rfl) dX6_readPerson_14) (fun r10 => ?_)
    exact r_zret (pc := 17) ok dX6_readPerson_17 rfl rfl
theorem tQr_readPerson {l : Launch} {G : Gx} {b : Nat} {XX YY : Nat → Obj} {q : Obj} {ta : Obj} {sc : Obj} {r : Int32 × Obj × Obj × Obj} (hr : fQr_readPerson q ta sc = some r) : MetG l G b yX6_readPerson cX6_readPerson 8 (some .boolean) 3 [.ref (b + 212)] (mx (va_up (va_up (va_up XX 29 q) 1 ta) 36 sc) YY) (qI G b r.1 (mx (va_up (va_up (va_up XX 29 r.2.1) 1 r.2.2.1) 36 r.2.2.2) YY)) := by
  refine met_start [some (.ref (b + 212)), none, none, none, none, none, none, none] (by decide +kernel) (Nat.le_of_ble_eq_true rfl) rfl (fun Z hl ok => ?_)
  clear hl
  exact vQr_readPerson ok r (by rw [hr]; rfl)
theorem vQu_addHouse {Z : Cx} {G : Gx} {b : Nat} {iq : Nat} {XX YY : Nat → Obj} {q : Obj} {v1 : Int64} {v3 : Int32} (ok : OK Z G b cX5_addHouse 4 0 RX5 none) (hq : isQu iq) : VO Z G b 4 (fun (r : Obj) => QX Z b (qV G b (mx (va_up XX iq r) YY))) (mx (va_up XX iq q) YY) 0 [some (.ref (b + iq)), some (.long v1), none, some (.int v3)] [] ((fQu_addHouse q v1 v3).bind some) := by
  unfold fQu_addHouse
  refine r_aload_n (pc := 0) ok dX5_addHouse_0 rfl ?_
  refine r_getI (pc := 1) ok cls5 (qu_sh hq) (k := 3) rfl (Nat.le_of_ble_eq_true rfl) (mx_l (qu_lt hq) (va_up_self _ _ _)) dX5_addHouse_1 fl_Qu_41 ?_
  refine r_bipush (pc := 4) ok (6 : Int32) dX5_addHouse_4 cb_6 ?_
  refine r_icmp_ge (pc := 6) ok 49 dX5_addHouse_6 rfl (fun _ => ?_) (fun _ => ?_)
  · exact r_vret (pc := 49) ok dX5_addHouse_49 rfl
  · refine r_aload_n (pc := 9) ok dX5_addHouse_9 rfl ?_
    refine r_getR (pc := 10) ok cls5 (qu_sh hq) (k := 7) rfl (Nat.le_of_ble_eq_true rfl) rfl dX5_addHouse_10 fl_Qu_28 ?_
    refine r_aload_n (pc := 13) ok dX5_addHouse_13 rfl ?_
    refine r_getI (pc := 14) ok cls5 (qu_sh hq) (k := 3) rfl (Nat.le_of_ble_eq_true rfl) (mx_l (qu_lt hq) (va_up_self _ _ _)) dX5_addHouse_14 fl_Qu_41 ?_
    refine r_lload_n (pc := 17) ok dX5_addHouse_17 rfl ?_
    refine r_last (pc := 18) ok (qu_s3 hq) (Nat.add_sub_cancel_left _ _) rfl (fun s_ => mx (va_up XX iq s_) YY) (pm_l (qu_lt hq) (pm_0 _ _)).1 (pm_l (qu_lt hq) (pm_0 _ _)).2 dX5_addHouse_18 (fun i1 s2 => ?_)
    refine r_aload_n (pc := 19) ok dX5_addHouse_19 rfl ?_
    refine r_getR (pc := 20) ok cls5 (qu_sh hq) (k := 5) rfl (Nat.le_of_ble_eq_true rfl) rfl dX5_addHouse_20 fl_Qu_21 ?_
    refine r_aload_n (pc := 23) ok dX5_addHouse_23 rfl ?_
    refine r_getI (pc := 24) ok cls5 (qu_sh hq) (k := 3) rfl (Nat.le_of_ble_eq_true rfl) (mx_l (qu_lt hq) (va_up_self _ _ _)) dX5_addHouse_24 fl_Qu_41 ?_
    refine r_iload_n (pc := 27) ok dX5_addHouse_27 rfl ?_
    refine r_iast (pc := 28) ok (qu_s1 hq) (Nat.add_sub_cancel_left _ _) rfl (fun s_ => mx (va_up XX iq s_) YY) (pm_l (qu_lt hq) (pm_0 _ _)).1 (pm_l (qu_lt hq) (pm_0 _ _)).2 dX5_addHouse_28 (fun i3 s4 => ?_)
    refine r_aload_n (pc := 29) ok dX5_addHouse_29 rfl ?_
    refine r_getR (pc := 30) ok cls5 (qu_sh hq) (k := 6) rfl (Nat.le_of_ble_eq_true rfl) rfl dX5_addHouse_30 fl_Qu_25 ?_
    refine r_aload_n (pc := 33) ok dX5_addHouse_33 rfl ?_
    refine r_getI (pc := 34) ok cls5 (qu_sh hq) (k := 3) rfl (Nat.le_of_ble_eq_true rfl) (mx_l (qu_lt hq) (va_up_self _ _ _)) dX5_addHouse_34 fl_Qu_41 ?_
    refine r_iconst (pc := 37) ok (0 : Int32) dX5_addHouse_37 ci_0 ?_
    refine r_iast (pc := 38) ok (qu_s2 hq) (Nat.add_sub_cancel_left _ _) rfl (fun s_ => mx (va_up XX iq s_) YY) (pm_l (qu_lt hq) (pm_0 _ _)).1 (pm_l (qu_lt hq) (pm_0 _ _)).2 dX5_addHouse_38 (fun i5 s6 => ?_)
    refine r_aload_n (pc := 39) ok dX5_addHouse_39 rfl ?_
    refine r_dup (pc := 40) ok dX5_addHouse_40 rfl ?_
    refine r_getI (pc := 41) ok cls5 (qu_sh hq) (k := 3) rfl (Nat.le_of_ble_eq_true rfl) (mx_l (qu_lt hq) (va_up_self _ _ _)) dX5_addHouse_41 fl_Qu_41 ?_
    refine r_iconst (pc := 44) ok (1 : Int32) dX5_addHouse_44 ci_1 ?_
    refine r_iadd (pc := 45) ok dX5_addHouse_45 ?_
    refine r_putI (pc := 46) ok cls5 (qu_sh hq) (k := 3) rfl (Nat.le_of_ble_eq_true rfl) (fun s_ => mx (va_up XX iq s_) YY) (pm_l (qu_lt hq) (pm_0 _ _)).1 (pm_l (qu_lt hq) (pm_0 _ _)).2 rfl rfl rfl dX5_addHouse_46 fl_Qu_41 (fun s7 => ?_)
    exact r_vret (pc := 49) ok dX5_addHouse_49 rfl
theorem tQu_addHouse {l : Launch} {G : Gx} {b : Nat} {iq : Nat} {XX YY : Nat → Obj} {q : Obj} {v1 : Int64} {v3 : Int32} (hq : isQu iq) {r : Obj} (hr : fQu_addHouse q v1 v3 = some r) : MetG l G b yX5_addHouse cX5_addHouse 4 none 0 [.ref (b + iq), .long v1, .int v3] (mx (va_up XX iq q) YY) (qV G b (mx (va_up XX iq r) YY)) := by
  refine met_start [some (.ref (b + iq)), some (.long v1), none, some (.int v3)] (by decide +kernel) (Nat.le_of_ble_eq_true rfl) rfl (fun Z hl ok => ?_)
  clear hl
  exact vQu_addHouse ok hq r (by rw [hr]; rfl)
theorem vQr_readHouse {Z : Cx} {G : Gx} {b : Nat} {XX YY : Nat → Obj} {q : Obj} {ta : Obj} (ok : OK Z G b cX6_readHouse 4 3 RX6 (some .boolean)) : VO Z G b 4 (fun (r : Int32 × Obj × Obj) => QX Z b (qI G b r.1 (mx (va_up (va_up XX 29 r.2.1) 1 r.2.2) YY))) (mx (va_up (va_up XX 29 q) 1 ta) YY) 0 [some (.ref (b + 212)), none, none, none] [] ((fQr_readHouse q ta).bind some) := by
  unfold fQr_readHouse
  refine r_aload_n (pc := 0) ok dX6_readHouse_0 rfl ?_
  refine r_getR (pc := 1) ok cls6 sh_212 (k := 1) rfl (Nat.le_of_ble_eq_true rfl) rfl dX6_readHouse_1 fl_Qr_21 ?_
  refine r_getI (pc := 4) ok cls5 sh_29 (k := 3) rfl (Nat.le_of_ble_eq_true rfl) (mx_l (Nat.le_of_ble_eq_true rfl) ((va_up_ne _ _ (by decide)).trans (va_up_self _ _ _))) dX6_readHouse_4 fl_Qr_96 ?_
  refine r_bipush (pc := 7) ok (6 : Int32) dX6_readHouse_7 cb_6 ?_
  refine r_icmp_lt (pc := 9) ok 18 dX6_readHouse_9 rfl (fun _ => ?_) (fun _ => ?_)
  · refine r_aload_n (pc := 18) ok dX6_readHouse_18 rfl ?_
    refine r_getR (pc := 19) ok cls6 sh_212 (k := 0) rfl (Nat.le_of_ble_eq_true rfl) rfl dX6_readHouse_19 fl_Qr_9 ?_
    refine r_aload_n (pc := 22) ok dX6_readHouse_22 rfl ?_
    refine r_getR (pc := 23) ok cls6 sh_212 (k := 1) rfl (Nat.le_of_ble_eq_true rfl) rfl dX6_readHouse_23 fl_Qr_21 ?_
    refine k_J (pc := 26) (fun r1 => r1.1) (fun r1 => mx (va_up (va_up XX 29 q) 1 r1.2) YY) (fun r1 hr_ => c_V (n := 1) ok cls10 sh_1 rfl ml_Qr_115 wv_X10_takeNewName yk_X10_takeNewName rfl (Nat.le_of_ble_eq_true rfl) (Nat.le_of_ble_eq_true rfl) (tTa_takeNewName (qu_c (o := 29) (by decide)) (va_up_self _ _ _) hr_) rfl (Nat.le_of_ble_eq_true rfl) dX6_readHouse_26) (fun r1 => ?_)
    refine r_lstore_n (pc := 29) ok dX6_readHouse_29 (Nat.le_of_ble_eq_true rfl) rfl ?_
    refine r_lload_n (pc := 30) ok dX6_readHouse_30 rfl ?_
    refine r_lconst (pc := 31) ok (0 : Int64) dX6_readHouse_31 (by decide +kernel) ?_
    refine r_lcmp (pc := 32) ok dX6_readHouse_32 ?_
    refine r_if_ne (pc := 33) ok 38 dX6_readHouse_33 rfl (fun _ => ?_) (fun _ => ?_)
    · refine r_iconst (pc := 36) ok (0 : Int32) dX6_readHouse_36 ci_0 ?_
      exact r_zret (pc := 37) ok dX6_readHouse_37 za_0 rfl
    · refine r_aload_n (pc := 38) ok dX6_readHouse_38 rfl ?_
      refine r_getR (pc := 39) ok cls6 sh_212 (k := 0) rfl (Nat.le_of_ble_eq_true rfl) rfl dX6_readHouse_39 fl_Qr_9 ?_
      refine r_iconst (pc := 42) ok (0 : Int32) dX6_readHouse_42 ci_0 ?_
      refine r_aload_n (pc := 43) ok dX6_readHouse_43 rfl ?_
      refine r_getR (pc := 44) ok cls6 sh_212 (k := 1) rfl (Nat.le_of_ble_eq_true rfl) rfl dX6_readHouse_44 fl_Qr_21 ?_
      refine r_getI (pc := 47) ok cls5 sh_29 (k := 0) rfl (Nat.le_of_ble_eq_true rfl) (mx_l (Nat.le_of_ble_eq_true rfl) ((va_up_ne _ _ (by decide)).trans (va_up_self _ _ _))) dX6_readHouse_47 fl_Qr_106 ?_
      refine r_iconst (pc := 50) ok (1 : Int32) dX6_readHouse_50 ci_1 ?_
      refine r_isub (pc := 51) ok dX6_readHouse_51 ?_
      refine k_I (pc := 52) (fun r2 => r2.1) (fun r2 => mx (va_up (va_up XX 29 q) 1 r2.2) YY) (fun r2 hr_ => c_V (n := 2) ok cls10 sh_1 rfl ml_Qr_102 wv_X10_takeNumber yk_X10_takeNumber rfl (Nat.le_of_ble_eq_true rfl) (Nat.le_of_ble_eq_true rfl) (tTa_takeNumber hr_) rfl (Nat.le_of_ble_eq_true rfl) dX6_readHouse_52) (fun r2 => ?_)
      refine r_istore_n (pc := 55) ok dX6_readHouse_55 (Nat.le_of_ble_eq_true rfl) rfl ?_
      refine r_iload_n (pc := 56) ok dX6_readHouse_56 rfl ?_
      refine r_iconst (pc := 57) ok (-1 : Int32) dX6_readHouse_57 ci_m1 ?_
      refine r_icmp_ne (pc := 58) ok 63 dX6_readHouse_58 rfl (fun _ => ?_) (fun _ => ?_)
      · refine r_iconst (pc := 61) ok (0 : Int32) dX6_readHouse_61 ci_0 ?_
        exact r_zret (pc := 62) ok dX6_readHouse_62 za_0 rfl
      · refine r_aload_n (pc := 63) ok dX6_readHouse_63 rfl ?_
        refine r_getR (pc := 64) ok cls6 sh_212 (k := 1) rfl (Nat.le_of_ble_eq_true rfl) rfl dX6_readHouse_64 fl_Qr_21 ?_
        refine r_lload_n (pc := 67) ok dX6_readHouse_67 rfl ?_
        refine r_iload_n (pc := 68) ok dX6_readHouse_68 rfl ?_
        refine k_V (pc := 69)  (fun r3 => mx (va_up (va_up XX 29 r3) 1 r2.2) YY) (fun r3 hr_ => c_V (n := 2) ok cls5 sh_29 rfl ml_Qr_119 wv_X5_addHouse yk_X5_addHouse rfl (Nat.le_of_ble_eq_true rfl) (Nat.le_of_ble_eq_true rfl) (met_cast (congrArg (fun A_ => mx A_ YY) (up_co XX q r2.2 (show 29 ≠ 1 from by decide))) (congrArg (fun A_ => qV G b (mx A_ YY)) (up_co XX r3 r2.2 (show 29 ≠ 1 from by decide))) (tQu_addHouse (qu_c (o := 29) (by decide)) hr_)) rfl (Nat.le_of_ble_eq_true rfl) dX6_readHouse_69) (fun r3 => ?_)
        refine r_iconst (pc := 72) ok (1 : Int32) dX6_readHouse_72 ci_1 ?_
        exact r_zret (pc := 73) ok dX6_readHouse_73 za_1 rfl
  · refine r_aload_n (pc := 12) ok dX6_readHouse_12 rfl ?_
    refine r_iconst (pc := 13) ok (4 : Int32) dX6_readHouse_13 ci_4 ?_
    refine k_I (pc := 14) (fun r4 => r4.1) (fun r4 => mx (va_up (va_up XX 29 q) 1 r4.2) YY) (fun r4 hr_ => c_V (n := 1) ok cls6 sh_212 rfl ml_Qr_65 wv_X6_refuse yk_X6_refuse rfl (Nat.le_of_ble_eq_true rfl) (Nat.le_of_ble_eq_true rfl) (tQr_refuse hr_) rfl (Nat.le_of_ble_eq_true rfl) dX6_readHouse_14) (fun r4 => ?_)
    exact r_zret (pc := 17) ok dX6_readHouse_17 rfl rfl
theorem tQr_readHouse {l : Launch} {G : Gx} {b : Nat} {XX YY : Nat → Obj} {q : Obj} {ta : Obj} {r : Int32 × Obj × Obj} (hr : fQr_readHouse q ta = some r) : MetG l G b yX6_readHouse cX6_readHouse 4 (some .boolean) 3 [.ref (b + 212)] (mx (va_up (va_up XX 29 q) 1 ta) YY) (qI G b r.1 (mx (va_up (va_up XX 29 r.2.1) 1 r.2.2) YY)) := by
  refine met_start [some (.ref (b + 212)), none, none, none] (by decide +kernel) (Nat.le_of_ble_eq_true rfl) rfl (fun Z hl ok => ?_)
  clear hl
  exact vQr_readHouse ok r (by rw [hr]; rfl)
theorem wQr_readLane_J27 {Z : Cx} {G : Gx} {b : Nat} {XX YY : Nat → Obj} {q : Obj} {qr : Obj} {ta : Obj} (ok : OK Z G b cX6_readLane 1 3 RX6 (some .boolean)) : VO Z G b 1 (fun (r : Int32 × Obj × Obj × Obj) => QX Z b (qI G b r.1 (mx (va_up (va_up (va_up XX 29 r.2.1) 212 r.2.2.1) 1 r.2.2.2) YY))) (mx (va_up (va_up (va_up XX 29 q) 212 qr) 1 ta) YY) 27 [some (.ref (b + 212))] [] ((fQr_readLane_J27 q qr ta).bind some) := by
  unfold fQr_readLane_J27
  refine r_aload_n (pc := 27) ok dX6_readLane_27 rfl ?_
  refine r_iconst (pc := 28) ok (3 : Int32) dX6_readLane_28 ci_3 ?_
  refine k_I (pc := 29) (fun r1 => r1.1) (fun r1 => mx (va_up (va_up (va_up XX 29 q) 212 qr) 1 r1.2) YY) (fun r1 hr_ => c_V (n := 1) ok cls6 sh_212 rfl ml_Qr_65 wv_X6_refuse yk_X6_refuse rfl (Nat.le_of_ble_eq_true rfl) (Nat.le_of_ble_eq_true rfl) (tQr_refuse hr_) rfl (Nat.le_of_ble_eq_true rfl) dX6_readLane_29) (fun r1 => ?_)
  exact r_zret (pc := 32) ok dX6_readLane_32 rfl rfl
theorem vQr_readLane {Z : Cx} {G : Gx} {b : Nat} {XX YY : Nat → Obj} {q : Obj} {qr : Obj} {ta : Obj} (ok : OK Z G b cX6_readLane 1 3 RX6 (some .boolean)) : VO Z G b 1 (fun (r : Int32 × Obj × Obj × Obj) => QX Z b (qI G b r.1 (mx (va_up (va_up (va_up XX 29 r.2.1) 212 r.2.2.1) 1 r.2.2.2) YY))) (mx (va_up (va_up (va_up XX 29 q) 212 qr) 1 ta) YY) 0 [some (.ref (b + 212))] [] ((fQr_readLane q qr ta).bind some) := by
  unfold fQr_readLane
  refine r_aload_n (pc := 0) ok dX6_readLane_0 rfl ?_
  refine r_getI (pc := 1) ok cls6 sh_212 (k := 3) rfl (Nat.le_of_ble_eq_true rfl) (mx_l (Nat.le_of_ble_eq_true rfl) ((va_up_ne _ _ (by decide)).trans (va_up_self _ _ _))) dX6_readLane_1 fl_Qr_35 ?_
  refine r_if_ne (pc := 4) ok 27 dX6_readLane_4 rfl (fun _ => ?_) (fun _ => ?_)
  · refine r_aload_n (pc := 7) ok dX6_readLane_7 rfl ?_
    refine r_getR (pc := 8) ok cls6 sh_212 (k := 1) rfl (Nat.le_of_ble_eq_true rfl) rfl dX6_readLane_8 fl_Qr_21 ?_
    refine r_getI (pc := 11) ok cls5 sh_29 (k := 3) rfl (Nat.le_of_ble_eq_true rfl) (mx_l (Nat.le_of_ble_eq_true rfl) ((va_up_ne _ _ (by decide)).trans ((va_up_ne _ _ (by decide)).trans (va_up_self _ _ _)))) dX6_readLane_11 fl_Qr_96 ?_
    refine r_if_gt (pc := 14) ok 27 dX6_readLane_14 rfl (fun _ => ?_) (fun _ => ?_)
    · exact wQr_readLane_J27 ok
    · refine r_aload_n (pc := 17) ok dX6_readLane_17 rfl ?_
      refine r_getR (pc := 18) ok cls6 sh_212 (k := 1) rfl (Nat.le_of_ble_eq_true rfl) rfl dX6_readLane_18 fl_Qr_21 ?_
      refine r_getI (pc := 21) ok cls5 sh_29 (k := 4) rfl (Nat.le_of_ble_eq_true rfl) (mx_l (Nat.le_of_ble_eq_true rfl) ((va_up_ne _ _ (by decide)).trans ((va_up_ne _ _ (by decide)).trans (va_up_self _ _ _)))) dX6_readLane_21 fl_Qr_99 ?_
      refine r_if_le (pc := 24) ok 33 dX6_readLane_24 rfl (fun _ => ?_) (fun _ => ?_)
      · refine r_aload_n (pc := 33) ok dX6_readLane_33 rfl ?_
        refine r_iconst (pc := 34) ok (1 : Int32) dX6_readLane_34 ci_1 ?_
        refine r_putI (pc := 35) ok cls6 sh_212 (k := 3) rfl (Nat.le_of_ble_eq_true rfl) (fun s_ => mx (va_up (va_up (va_up XX 29 q) 212 s_) 1 ta) YY) (pm_l (Nat.le_of_ble_eq_true rfl) (pm_s (by decide) (pm_0 _ _))).1 (pm_l (Nat.le_of_ble_eq_true rfl) (pm_s (by decide) (pm_0 _ _))).2 rfl rfl rfl dX6_readLane_35 fl_Qr_35 (fun s2 => ?_)
        refine r_aload_n (pc := 38) ok dX6_readLane_38 rfl ?_
        refine r_getR (pc := 39) ok cls6 sh_212 (k := 1) rfl (Nat.le_of_ble_eq_true rfl) rfl dX6_readLane_39 fl_Qr_21 ?_
        refine r_aload_n (pc := 42) ok dX6_readLane_42 rfl ?_
        refine r_getR (pc := 43) ok cls6 sh_212 (k := 0) rfl (Nat.le_of_ble_eq_true rfl) rfl dX6_readLane_43 fl_Qr_9 ?_
        refine r_iconst (pc := 46) ok (2 : Int32) dX6_readLane_46 ci_2 ?_
        refine r_bipush (pc := 47) ok (20 : Int32) dX6_readLane_47 cb_20 ?_
        refine k_I (pc := 49) (fun r3 => r3.1) (fun r3 => mx (va_up (va_up (va_up XX 29 q) 212 s2) 1 r3.2) YY) (fun r3 hr_ => c_V (n := 2) ok cls10 sh_1 rfl ml_Qr_102 wv_X10_takeNumber yk_X10_takeNumber rfl (Nat.le_of_ble_eq_true rfl) (Nat.le_of_ble_eq_true rfl) (tTa_takeNumber hr_) rfl (Nat.le_of_ble_eq_true rfl) dX6_readLane_49) (fun r3 => ?_)
        refine r_putI (pc := 52) ok cls5 sh_29 (k := 0) rfl (Nat.le_of_ble_eq_true rfl) (fun s_ => mx (va_up (va_up (va_up XX 29 s_) 212 s2) 1 r3.2) YY) (pm_l (Nat.le_of_ble_eq_true rfl) (pm_s (by decide) (pm_s (by decide) (pm_0 _ _)))).1 (pm_l (Nat.le_of_ble_eq_true rfl) (pm_s (by decide) (pm_s (by decide) (pm_0 _ _)))).2 rfl rfl rfl dX6_readLane_52 fl_Qr_106 (fun s4 => ?_)
        refine r_aload_n (pc := 55) ok dX6_readLane_55 rfl ?_
        refine r_getR (pc := 56) ok cls6 sh_212 (k := 1) rfl (Nat.le_of_ble_eq_true rfl) rfl dX6_readLane_56 fl_Qr_21 ?_
        refine r_getI (pc := 59) ok cls5 sh_29 (k := 0) rfl (Nat.le_of_ble_eq_true rfl) (mx_l (Nat.le_of_ble_eq_true rfl) ((va_up_ne _ _ (by decide)).trans ((va_up_ne _ _ (by decide)).trans (va_up_self _ _ _)))) dX6_readLane_59 fl_Qr_106 ?_
        refine r_iconst (pc := 62) ok (-1 : Int32) dX6_readLane_62 ci_m1 ?_
        refine r_icmp_eq (pc := 63) ok 70 dX6_readLane_63 rfl (fun _ => ?_) (fun _ => ?_)
        · refine r_iconst (pc := 70) ok (0 : Int32) dX6_readLane_70 ci_0 ?_
          exact r_zret (pc := 71) ok dX6_readLane_71 za_0 rfl
        · refine r_iconst (pc := 66) ok (1 : Int32) dX6_readLane_66 ci_1 ?_
          refine r_goto (pc := 67) ok 71 dX6_readLane_67 rfl ?_
          exact r_zret (pc := 71) ok dX6_readLane_71 za_1 rfl
      · exact wQr_readLane_J27 ok
  · exact wQr_readLane_J27 ok
theorem tQr_readLane {l : Launch} {G : Gx} {b : Nat} {XX YY : Nat → Obj} {q : Obj} {qr : Obj} {ta : Obj} {r : Int32 × Obj × Obj × Obj} (hr : fQr_readLane q qr ta = some r) : MetG l G b yX6_readLane cX6_readLane 1 (some .boolean) 3 [.ref (b + 212)] (mx (va_up (va_up (va_up XX 29 q) 212 qr) 1 ta) YY) (qI G b r.1 (mx (va_up (va_up (va_up XX 29 r.2.1) 212 r.2.2.1) 1 r.2.2.2) YY)) := by
  refine met_start [some (.ref (b + 212))] (by decide +kernel) (Nat.le_of_ble_eq_true rfl) rfl (fun Z hl ok => ?_)
  clear hl
  exact vQr_readLane ok r (by rw [hr]; rfl)
theorem vQr_readLine {Z : Cx} {G : Gx} {b : Nat} {XX YY : Nat → Obj} {q : Obj} {qr : Obj} {ta : Obj} {sc : Obj} (ok : OK Z G b cX6_readLine 1 4 RX6 (some .boolean)) : VO Z G b 1 (fun (r : Int32 × Obj × Obj × Obj × Obj) => QX Z b (qI G b r.1 (mx (va_up (va_up (va_up (va_up XX 29 r.2.1) 212 r.2.2.1) 1 r.2.2.2.1) 36 r.2.2.2.2) YY))) (mx (va_up (va_up (va_up (va_up XX 29 q) 212 qr) 1 ta) 36 sc) YY) 0 [some (.ref (b + 212))] [] ((fQr_readLine q qr ta sc).bind some) := by
  unfold fQr_readLine
  refine r_aload_n (pc := 0) ok dX6_readLine_0 rfl ?_
  refine r_getR (pc := 1) ok cls6 sh_212 (k := 0) rfl (Nat.le_of_ble_eq_true rfl) rfl dX6_readLine_1 fl_Qr_9 ?_
  refine r_getI (pc := 4) ok cls10 sh_1 (k := 4) rfl (Nat.le_of_ble_eq_true rfl) (mx_l (Nat.le_of_ble_eq_true rfl) ((va_up_ne _ _ (by decide)).trans (va_up_self _ _ _))) dX6_readLine_4 fl_Qr_61 ?_
  refine r_iconst (pc := 7) ok (1 : Int32) dX6_readLine_7 ci_1 ?_
  refine r_icmp_eq (pc := 8) ok 17 dX6_readLine_8 rfl (fun _ => ?_) (fun _ => ?_)
  · refine r_aload_n (pc := 17) ok dX6_readLine_17 rfl ?_
    refine r_getR (pc := 18) ok cls6 sh_212 (k := 0) rfl (Nat.le_of_ble_eq_true rfl) rfl dX6_readLine_18 fl_Qr_9 ?_
    refine r_getI (pc := 21) ok cls10 sh_1 (k := 5) rfl (Nat.le_of_ble_eq_true rfl) (mx_l (Nat.le_of_ble_eq_true rfl) ((va_up_ne _ _ (by decide)).trans (va_up_self _ _ _))) dX6_readLine_21 fl_Qr_69 ?_
    refine r_ite (fun hs0 => ?_) (fun hs0 => ?_)
    · refine r_tsw (pc := 24) ok 72 (0 : Int32) dX6_readLine_24 hs0 (by decide +kernel) (by decide +kernel) rfl rfl ?_
      refine r_aload_n (pc := 72) ok dX6_readLine_72 rfl ?_
      refine k_I (pc := 73) (fun r1 => r1.1) (fun r1 => mx (va_up (va_up (va_up (va_up XX 29 r1.2.1) 212 r1.2.2.1) 1 r1.2.2.2) 36 sc) YY) (fun r1 hr_ => c_V (n := 0) ok cls6 sh_212 rfl ml_Qr_72 wv_X6_readLane yk_X6_readLane rfl (Nat.le_of_ble_eq_true rfl) (Nat.le_of_ble_eq_true rfl) (met_cast (congrArg (fun A_ => mx A_ YY) ((congrArg (fun A_ => (va_up (va_up A_ 1 ta) 36 sc)) (up_co XX q qr (show 29 ≠ 212 from by decide))).trans ((congrArg (fun A_ => (va_up A_ 36 sc)) (up_co (va_up XX 212 qr) q ta (show 29 ≠ 1 from by decide))).trans ((up_co (va_up (va_up XX 212 qr) 1 ta) q sc (show 29 ≠ 36 from by decide)).trans ((congrArg (fun A_ => (va_up (va_up A_ 36 sc) 29 q)) (up_co XX qr ta (show 212 ≠ 1 from by decide))).trans ((congrArg (fun A_ => (va_up A_ 29 q)) (up_co (va_up XX 1 ta) qr sc (show 212 ≠ 36 from by decide))).trans ((up_co (va_up (va_up XX 1 ta) 36 sc) qr q (show 212 ≠ 29 from by decide)).trans ((congrArg (fun A_ => (va_up (va_up A_ 29 q) 212 qr)) (up_co XX ta sc (show 1 ≠ 36 from by decide))).trans ((congrArg (fun A_ => (va_up A_ 212 qr)) (up_co (va_up XX 36 sc) ta q (show 1 ≠ 29 from by decide))).trans (up_co (va_up (va_up XX 36 sc) 29 q) ta qr (show 1 ≠ 212 from by decide))))))))))) (congrArg (fun A_ => qI G b r1.1 (mx A_ YY)) ((congrArg (fun A_ => (va_up (va_up A_ 1 r1.2.2.2) 36 sc)) (up_co XX r1.2.1 r1.2.2.1 (show 29 ≠ 212 from by decide))).trans ((congrArg (fun A_ => (va_up A_ 36 sc)) (up_co (va_up XX 212 r1.2.2.1) r1.2.1 r1.2.2.2 (show 29 ≠ 1 from by decide))).trans ((up_co (va_up (va_up XX 212 r1.2.2.1) 1 r1.2.2.2) r1.2.1 sc (show 29 ≠ 36 from by decide)).trans ((congrArg (fun A_ => (va_up (va_up A_ 36 sc) 29 r1.2.1)) (up_co XX r1.2.2.1 r1.2.2.2 (show 212 ≠ 1 from by decide))).trans ((congrArg (fun A_ => (va_up A_ 29 r1.2.1)) (up_co (va_up XX 1 r1.2.2.2) r1.2.2.1 sc (show 212 ≠ 36 from by decide))).trans ((up_co (va_up (va_up XX 1 r1.2.2.2) 36 sc) r1.2.2.1 r1.2.1 (show 212 ≠ 29 from by decide)).trans ((congrArg (fun A_ => (va_up (va_up A_ 29 r1.2.1) 212 r1.2.2.1)) (up_co XX r1.2.2.2 sc (show 1 ≠ 36 from by decide))).trans ((congrArg (fun A_ => (va_up A_ 212 r1.2.2.1)) (up_co (va_up XX 36 sc) r1.2.2.2 r1.2.1 (show 1 ≠ 29 from by decide))).trans (up_co (va_up (va_up XX 36 sc) 29 r1.2.1) r1.2.2.2 r1.2.2.1 (show 1 ≠ 212 from by decide))))))))))) (tQr_readLane hr_)) rfl (Nat.le_of_ble_eq_true rfl) dX6_readLine_73) (fun r1 => ?_)
      exact r_zret (pc := 76) ok dX6_readLine_76 rfl rfl
    refine r_ite (fun hs1 => ?_) (fun hs1 => ?_)
    · refine r_tsw (pc := 24) ok 77 (1 : Int32) dX6_readLine_24 hs1 (by decide +kernel) (by decide +kernel) rfl rfl ?_
      refine r_aload_n (pc := 77) ok dX6_readLine_77 rfl ?_
      refine k_I (pc := 78) (fun r2 => r2.1) (fun r2 => mx (va_up (va_up (va_up (va_up XX 29 r2.2.1) 212 qr) 1 r2.2.2) 36 sc) YY) (fun r2 hr_ => c_V (n := 0) ok cls6 sh_212 rfl ml_Qr_75 wv_X6_readHouse yk_X6_readHouse rfl (Nat.le_of_ble_eq_true rfl) (Nat.le_of_ble_eq_true rfl) (met_cast (congrArg (fun A_ => mx A_ YY) ((congrArg (fun A_ => (va_up (va_up A_ 1 ta) 36 sc)) (up_co XX q qr (show 29 ≠ 212 from by decide))).trans ((congrArg (fun A_ => (va_up A_ 36 sc)) (up_co (va_up XX 212 qr) q ta (show 29 ≠ 1 from by decide))).trans ((up_co (va_up (va_up XX 212 qr) 1 ta) q sc (show 29 ≠ 36 from by decide)).trans ((congrArg (fun A_ => (va_up A_ 29 q)) (up_co (va_up XX 212 qr) ta sc (show 1 ≠ 36 from by decide))).trans (up_co (va_up (va_up XX 212 qr) 36 sc) ta q (show 1 ≠ 29 from by decide))))))) (congrArg (fun A_ => qI G b r2.1 (mx A_ YY)) ((congrArg (fun A_ => (va_up (va_up A_ 1 r2.2.2) 36 sc)) (up_co XX r2.2.1 qr (show 29 ≠ 212 from by decide))).trans ((congrArg (fun A_ => (va_up A_ 36 sc)) (up_co (va_up XX 212 qr) r2.2.1 r2.2.2 (show 29 ≠ 1 from by decide))).trans ((up_co (va_up (va_up XX 212 qr) 1 r2.2.2) r2.2.1 sc (show 29 ≠ 36 from by decide)).trans ((congrArg (fun A_ => (va_up A_ 29 r2.2.1)) (up_co (va_up XX 212 qr) r2.2.2 sc (show 1 ≠ 36 from by decide))).trans (up_co (va_up (va_up XX 212 qr) 36 sc) r2.2.2 r2.2.1 (show 1 ≠ 29 from by decide))))))) (tQr_readHouse hr_)) rfl (Nat.le_of_ble_eq_true rfl) dX6_readLine_78) (fun r2 => ?_)
      exact r_zret (pc := 81) ok dX6_readLine_81 rfl rfl
    refine r_ite (fun hs2 => ?_) (fun hs2 => ?_)
    · refine r_tsw (pc := 24) ok 82 (2 : Int32) dX6_readLine_24 hs2 (by decide +kernel) (by decide +kernel) rfl rfl ?_
      refine r_aload_n (pc := 82) ok dX6_readLine_82 rfl ?_
      refine k_I (pc := 83) (fun r3 => r3.1) (fun r3 => mx (va_up (va_up (va_up (va_up XX 29 r3.2.1) 212 qr) 1 r3.2.2.1) 36 r3.2.2.2) YY) (fun r3 hr_ => c_V (n := 0) ok cls6 sh_212 rfl ml_Qr_78 wv_X6_readPerson yk_X6_readPerson rfl (Nat.le_of_ble_eq_true rfl) (Nat.le_of_ble_eq_true rfl) (met_cast (congrArg (fun A_ => mx A_ YY) ((congrArg (fun A_ => (va_up (va_up A_ 1 ta) 36 sc)) (up_co XX q qr (show 29 ≠ 212 from by decide))).trans ((congrArg (fun A_ => (va_up A_ 36 sc)) (up_co (va_up XX 212 qr) q ta (show 29 ≠ 1 from by decide))).trans ((up_co (va_up (va_up XX 212 qr) 1 ta) q sc (show 29 ≠ 36 from by decide)).trans ((congrArg (fun A_ => (va_up A_ 29 q)) (up_co (va_up XX 212 qr) ta sc (show 1 ≠ 36 from by decide))).trans ((up_co (va_up (va_up XX 212 qr) 36 sc) ta q (show 1 ≠ 29 from by decide)).trans ((congrArg (fun A_ => (va_up A_ 1 ta)) (up_co (va_up XX 212 qr) sc q (show 36 ≠ 29 from by decide))).trans (up_co (va_up (va_up XX 212 qr) 29 q) sc ta (show 36 ≠ 1 from by decide))))))))) (congrArg (fun A_ => qI G b r3.1 (mx A_ YY)) ((congrArg (fun A_ => (va_up (va_up A_ 1 r3.2.2.1) 36 r3.2.2.2)) (up_co XX r3.2.1 qr (show 29 ≠ 212 from by decide))).trans ((congrArg (fun A_ => (va_up A_ 36 r3.2.2.2)) (up_co (va_up XX 212 qr) r3.2.1 r3.2.2.1 (show 29 ≠ 1 from by decide))).trans ((up_co (va_up (va_up XX 212 qr) 1 r3.2.2.1) r3.2.1 r3.2.2.2 (show 29 ≠ 36 from by decide)).trans ((congrArg (fun A_ => (va_up A_ 29 r3.2.1)) (up_co (va_up XX 212 qr) r3.2.2.1 r3.2.2.2 (show 1 ≠ 36 from by decide))).trans ((up_co (va_up (va_up XX 212 qr) 36 r3.2.2.2) r3.2.2.1 r3.2.1 (show 1 ≠ 29 from by decide)).trans ((congrArg (fun A_ => (va_up A_ 1 r3.2.2.1)) (up_co (va_up XX 212 qr) r3.2.2.2 r3.2.1 (show 36 ≠ 29 from by decide))).trans (up_co (va_up (va_up XX 212 qr) 29 r3.2.1) r3.2.2.2 r3.2.2.1 (show 36 ≠ 1 from by decide))))))))) (tQr_readPerson hr_)) rfl (Nat.le_of_ble_eq_true rfl) dX6_readLine_83) (fun r3 => ?_)
      exact r_zret (pc := 86) ok dX6_readLine_86 rfl rfl
    refine r_ite (fun hs3 => ?_) (fun hs3 => ?_)
    · refine r_tsw (pc := 24) ok 87 (4 : Int32) dX6_readLine_24 hs3 (by decide +kernel) (by decide +kernel) rfl rfl ?_
      refine r_aload_n (pc := 87) ok dX6_readLine_87 rfl ?_
      refine k_I (pc := 88) (fun r4 => r4.1) (fun r4 => mx (va_up (va_up (va_up (va_up XX 29 q) 212 qr) 1 r4.2.1) 36 r4.2.2) YY) (fun r4 hr_ => c_V (n := 0) ok cls6 sh_212 rfl ml_Qr_81 wv_X6_readKnows yk_X6_readKnows rfl (Nat.le_of_ble_eq_true rfl) (Nat.le_of_ble_eq_true rfl) (tQr_readKnows ((va_up_ne _ _ (by decide)).trans (va_up_self _ _ _)) hr_) rfl (Nat.le_of_ble_eq_true rfl) dX6_readLine_88) (fun r4 => ?_)
      exact r_zret (pc := 91) ok dX6_readLine_91 rfl rfl
    refine r_ite (fun hs4 => ?_) (fun hs4 => ?_)
    · refine r_tsw (pc := 24) ok 92 (5 : Int32) dX6_readLine_24 hs4 (by decide +kernel) (by decide +kernel) rfl rfl ?_
      refine r_aload_n (pc := 92) ok dX6_readLine_92 rfl ?_
      refine k_I (pc := 93) (fun r5 => r5.1) (fun r5 => mx (va_up (va_up (va_up (va_up XX 29 q) 212 qr) 1 r5.2.1) 36 r5.2.2) YY) (fun r5 hr_ => c_V (n := 0) ok cls6 sh_212 rfl ml_Qr_84 wv_X6_readCalls yk_X6_readCalls rfl (Nat.le_of_ble_eq_true rfl) (Nat.le_of_ble_eq_true rfl) (tQr_readCalls ((va_up_ne _ _ (by decide)).trans (va_up_self _ _ _)) hr_) rfl (Nat.le_of_ble_eq_true rfl) dX6_readLine_93) (fun r5 => ?_)
      exact r_zret (pc := 96) ok dX6_readLine_96 rfl rfl
    refine r_ite (fun hs5 => ?_) (fun hs5 => ?_)
    · refine r_tsw (pc := 24) ok 97 (6 : Int32) dX6_readLine_24 hs5 (by decide +kernel) (by decide +kernel) rfl rfl ?_
      refine r_aload_n (pc := 97) ok dX6_readLine_97 rfl ?_
      refine k_I (pc := 98) (fun r6 => r6.1) (fun r6 => mx (va_up (va_up (va_up (va_up XX 29 r6.2.1) 212 r6.2.2.1) 1 r6.2.2.2) 36 sc) YY) (fun r6 hr_ => c_V (n := 0) ok cls6 sh_212 rfl ml_Qr_87 wv_X6_readEar yk_X6_readEar rfl (Nat.le_of_ble_eq_true rfl) (Nat.le_of_ble_eq_true rfl) (met_cast (congrArg (fun A_ => mx A_ YY) ((congrArg (fun A_ => (va_up (va_up A_ 1 ta) 36 sc)) (up_co XX q qr (show 29 ≠ 212 from by decide))).trans ((congrArg (fun A_ => (va_up A_ 36 sc)) (up_co (va_up XX 212 qr) q ta (show 29 ≠ 1 from by decide))).trans ((up_co (va_up (va_up XX 212 qr) 1 ta) q sc (show 29 ≠ 36 from by decide)).trans ((congrArg (fun A_ => (va_up (va_up A_ 36 sc) 29 q)) (up_co XX qr ta (show 212 ≠ 1 from by decide))).trans ((congrArg (fun A_ => (va_up A_ 29 q)) (up_co (va_up XX 1 ta) qr sc (show 212 ≠ 36 from by decide))).trans ((up_co (va_up (va_up XX 1 ta) 36 sc) qr q (show 212 ≠ 29 from by decide)).trans ((congrArg (fun A_ => (va_up (va_up A_ 29 q) 212 qr)) (up_co XX ta sc (show 1 ≠ 36 from by decide))).trans ((congrArg (fun A_ => (va_up A_ 212 qr)) (up_co (va_up XX 36 sc) ta q (show 1 ≠ 29 from by decide))).trans (up_co (va_up (va_up XX 36 sc) 29 q) ta qr (show 1 ≠ 212 from by decide))))))))))) (congrArg (fun A_ => qI G b r6.1 (mx A_ YY)) ((congrArg (fun A_ => (va_up (va_up A_ 1 r6.2.2.2) 36 sc)) (up_co XX r6.2.1 r6.2.2.1 (show 29 ≠ 212 from by decide))).trans ((congrArg (fun A_ => (va_up A_ 36 sc)) (up_co (va_up XX 212 r6.2.2.1) r6.2.1 r6.2.2.2 (show 29 ≠ 1 from by decide))).trans ((up_co (va_up (va_up XX 212 r6.2.2.1) 1 r6.2.2.2) r6.2.1 sc (show 29 ≠ 36 from by decide)).trans ((congrArg (fun A_ => (va_up (va_up A_ 36 sc) 29 r6.2.1)) (up_co XX r6.2.2.1 r6.2.2.2 (show 212 ≠ 1 from by decide))).trans ((congrArg (fun A_ => (va_up A_ 29 r6.2.1)) (up_co (va_up XX 1 r6.2.2.2) r6.2.2.1 sc (show 212 ≠ 36 from by decide))).trans ((up_co (va_up (va_up XX 1 r6.2.2.2) 36 sc) r6.2.2.1 r6.2.1 (show 212 ≠ 29 from by decide)).trans ((congrArg (fun A_ => (va_up (va_up A_ 29 r6.2.1) 212 r6.2.2.1)) (up_co XX r6.2.2.2 sc (show 1 ≠ 36 from by decide))).trans ((congrArg (fun A_ => (va_up A_ 212 r6.2.2.1)) (up_co (va_up XX 36 sc) r6.2.2.2 r6.2.1 (show 1 ≠ 29 from by decide))).trans (up_co (va_up (va_up XX 36 sc) 29 r6.2.1) r6.2.2.2 r6.2.2.1 (show 1 ≠ 212 from by decide))))))))))) (tQr_readEar hr_)) rfl (Nat.le_of_ble_eq_true rfl) dX6_readLine_98) (fun r6 => ?_)
      exact r_zret (pc := 101) ok dX6_readLine_101 rfl rfl
    refine r_ite (fun hs6 => ?_) (fun hs6 => ?_)
    · refine r_tsw (pc := 24) ok 102 (7 : Int32) dX6_readLine_24 hs6 (by decide +kernel) (by decide +kernel) rfl rfl ?_
      refine r_aload_n (pc := 102) ok dX6_readLine_102 rfl ?_
      refine k_I (pc := 103) (fun r7 => r7.1) (fun r7 => mx (va_up (va_up (va_up (va_up XX 29 r7.2.1) 212 r7.2.2.1) 1 r7.2.2.2) 36 sc) YY) (fun r7 hr_ => c_V (n := 0) ok cls6 sh_212 rfl ml_Qr_90 wv_X6_readStay yk_X6_readStay rfl (Nat.le_of_ble_eq_true rfl) (Nat.le_of_ble_eq_true rfl) (met_cast (congrArg (fun A_ => mx A_ YY) ((congrArg (fun A_ => (va_up (va_up A_ 1 ta) 36 sc)) (up_co XX q qr (show 29 ≠ 212 from by decide))).trans ((congrArg (fun A_ => (va_up A_ 36 sc)) (up_co (va_up XX 212 qr) q ta (show 29 ≠ 1 from by decide))).trans ((up_co (va_up (va_up XX 212 qr) 1 ta) q sc (show 29 ≠ 36 from by decide)).trans ((congrArg (fun A_ => (va_up (va_up A_ 36 sc) 29 q)) (up_co XX qr ta (show 212 ≠ 1 from by decide))).trans ((congrArg (fun A_ => (va_up A_ 29 q)) (up_co (va_up XX 1 ta) qr sc (show 212 ≠ 36 from by decide))).trans ((up_co (va_up (va_up XX 1 ta) 36 sc) qr q (show 212 ≠ 29 from by decide)).trans ((congrArg (fun A_ => (va_up (va_up A_ 29 q) 212 qr)) (up_co XX ta sc (show 1 ≠ 36 from by decide))).trans ((congrArg (fun A_ => (va_up A_ 212 qr)) (up_co (va_up XX 36 sc) ta q (show 1 ≠ 29 from by decide))).trans (up_co (va_up (va_up XX 36 sc) 29 q) ta qr (show 1 ≠ 212 from by decide))))))))))) (congrArg (fun A_ => qI G b r7.1 (mx A_ YY)) ((congrArg (fun A_ => (va_up (va_up A_ 1 r7.2.2.2) 36 sc)) (up_co XX r7.2.1 r7.2.2.1 (show 29 ≠ 212 from by decide))).trans ((congrArg (fun A_ => (va_up A_ 36 sc)) (up_co (va_up XX 212 r7.2.2.1) r7.2.1 r7.2.2.2 (show 29 ≠ 1 from by decide))).trans ((up_co (va_up (va_up XX 212 r7.2.2.1) 1 r7.2.2.2) r7.2.1 sc (show 29 ≠ 36 from by decide)).trans ((congrArg (fun A_ => (va_up (va_up A_ 36 sc) 29 r7.2.1)) (up_co XX r7.2.2.1 r7.2.2.2 (show 212 ≠ 1 from by decide))).trans ((congrArg (fun A_ => (va_up A_ 29 r7.2.1)) (up_co (va_up XX 1 r7.2.2.2) r7.2.2.1 sc (show 212 ≠ 36 from by decide))).trans ((up_co (va_up (va_up XX 1 r7.2.2.2) 36 sc) r7.2.2.1 r7.2.1 (show 212 ≠ 29 from by decide)).trans ((congrArg (fun A_ => (va_up (va_up A_ 29 r7.2.1) 212 r7.2.2.1)) (up_co XX r7.2.2.2 sc (show 1 ≠ 36 from by decide))).trans ((congrArg (fun A_ => (va_up A_ 212 r7.2.2.1)) (up_co (va_up XX 36 sc) r7.2.2.2 r7.2.1 (show 1 ≠ 29 from by decide))).trans (up_co (va_up (va_up XX 36 sc) 29 r7.2.1) r7.2.2.2 r7.2.2.1 (show 1 ≠ 212 from by decide))))))))))) (tQr_readStay hr_)) rfl (Nat.le_of_ble_eq_true rfl) dX6_readLine_103) (fun r7 => ?_)
      exact r_zret (pc := 106) ok dX6_readLine_106 rfl rfl
    refine tsw_cases (lo := 0) (hi := 7) (x := (ta.1 0 5)) (fun hx => ?_) (fun k hk hx => ?_)
    · refine r_tswd (pc := 24) ok 107 dX6_readLine_24 hx rfl ?_
      refine r_aload_n (pc := 107) ok dX6_readLine_107 rfl ?_
      refine r_iconst (pc := 108) ok (1 : Int32) dX6_readLine_108 ci_1 ?_
      refine k_I (pc := 109) (fun r8 => r8.1) (fun r8 => mx (va_up (va_up (va_up (va_up XX 29 q) 212 qr) 1 r8.2) 36 sc) YY) (fun r8 hr_ => c_V (n := 1) ok cls6 sh_212 rfl ml_Qr_65 wv_X6_refuse yk_X6_refuse rfl (Nat.le_of_ble_eq_true rfl) (Nat.le_of_ble_eq_true rfl) (met_cast (congrArg (fun A_ => mx A_ YY) (up_co (va_up (va_up XX 29 q) 212 qr) ta sc (show 1 ≠ 36 from by decide))) (congrArg (fun A_ => qI G b r8.1 (mx A_ YY)) (up_co (va_up (va_up XX 29 q) 212 qr) r8.2 sc (show 1 ≠ 36 from by decide))) (tQr_refuse hr_)) rfl (Nat.le_of_ble_eq_true rfl) dX6_readLine_109) (fun r8 => ?_)
      exact r_zret (pc := 112) ok dX6_readLine_112 rfl rfl
    · have h8 : (ta.1 0 5) = (0 : Int32) ∨ (ta.1 0 5) = (1 : Int32) ∨ (ta.1 0 5) = (2 : Int32) ∨ (ta.1 0 5) = (3 : Int32) ∨ (ta.1 0 5) = (4 : Int32) ∨ (ta.1 0 5) = (5 : Int32) ∨ (ta.1 0 5) = (6 : Int32) ∨ (ta.1 0 5) = (7 : Int32) := tsw_enum_0_7 hk hx
      rcases h8 with h9 | h9 | h9 | h9 | h9 | h9 | h9 | h9
      · exact absurd h9 hs0
      · exact absurd h9 hs1
      · exact absurd h9 hs2
      · refine r_tsw (pc := 24) ok 107 (3 : Int32) dX6_readLine_24 h9 (by decide +kernel) (by decide +kernel) rfl rfl ?_
        refine r_aload_n (pc := 107) ok dX6_readLine_107 rfl ?_
        refine r_iconst (pc := 108) ok (1 : Int32) dX6_readLine_108 ci_1 ?_
        refine k_I (pc := 109) (fun r8 => r8.1) (fun r8 => mx (va_up (va_up (va_up (va_up XX 29 q) 212 qr) 1 r8.2) 36 sc) YY) (fun r8 hr_ => c_V (n := 1) ok cls6 sh_212 rfl ml_Qr_65 wv_X6_refuse yk_X6_refuse rfl (Nat.le_of_ble_eq_true rfl) (Nat.le_of_ble_eq_true rfl) (met_cast (congrArg (fun A_ => mx A_ YY) (up_co (va_up (va_up XX 29 q) 212 qr) ta sc (show 1 ≠ 36 from by decide))) (congrArg (fun A_ => qI G b r8.1 (mx A_ YY)) (up_co (va_up (va_up XX 29 q) 212 qr) r8.2 sc (show 1 ≠ 36 from by decide))) (tQr_refuse hr_)) rfl (Nat.le_of_ble_eq_true rfl) dX6_readLine_109) (fun r8 => ?_)
        exact r_zret (pc := 112) ok dX6_readLine_112 rfl rfl
      · exact absurd h9 hs3
      · exact absurd h9 hs4
      · exact absurd h9 hs5
      · exact absurd h9 hs6
  · refine r_aload_n (pc := 11) ok dX6_readLine_11 rfl ?_
    refine r_iconst (pc := 12) ok (1 : Int32) dX6_readLine_12 ci_1 ?_
    refine k_I (pc := 13) (fun r9 => r9.1) (fun r9 => mx (va_up (va_up (va_up (va_up XX 29 q) 212 qr) 1 r9.2) 36 sc) YY) (fun r9 hr_ => c_V (n := 1) ok cls6 sh_212 rfl ml_Qr_65 wv_X6_refuse yk_X6_refuse rfl (Nat.le_of_ble_eq_true rfl) (Nat.le_of_ble_eq_true rfl) (met_cast (congrArg (fun A_ => mx A_ YY) (up_co (va_up (va_up XX 29 q) 212 qr) ta sc (show 1 ≠ 36 from by decide))) (congrArg (fun A_ => qI G b r9.1 (mx A_ YY)) (up_co (va_up (va_up XX 29 q) 212 qr) r9.2 sc (show 1 ≠ 36 from by decide))) (tQr_refuse hr_)) rfl (Nat.le_of_ble_eq_true rfl) dX6_readLine_13) (fun r9 => ?_)
    exact r_zret (pc := 16) ok dX6_readLine_16 rfl rfl
theorem tQr_readLine {l : Launch} {G : Gx} {b : Nat} {XX YY : Nat → Obj} {q : Obj} {qr : Obj} {ta : Obj} {sc : Obj} {r : Int32 × Obj × Obj × Obj × Obj} (hr : fQr_readLine q qr ta sc = some r) : MetG l G b yX6_readLine cX6_readLine 1 (some .boolean) 4 [.ref (b + 212)] (mx (va_up (va_up (va_up (va_up XX 29 q) 212 qr) 1 ta) 36 sc) YY) (qI G b r.1 (mx (va_up (va_up (va_up (va_up XX 29 r.2.1) 212 r.2.2.1) 1 r.2.2.2.1) 36 r.2.2.2.2) YY)) := by
  refine met_start [some (.ref (b + 212))] (by decide +kernel) (Nat.le_of_ble_eq_true rfl) rfl (fun Z hl ok => ?_)
  clear hl
  exact vQr_readLine ok r (by rw [hr]; rfl)
theorem vTa_isSignOf {Z : Cx} {G : Gx} {b : Nat} {XX YY : Nat → Obj} {ta : Obj} {v1 : Int32} (ok : OK Z G b cX10_isSignOf 2 0 RX10 (some .boolean)) (hr_ta : XX 1 = ta) : VO Z G b 2 (fun (r : Int32) => QX Z b (qI G b r (mx XX YY))) (mx XX YY) 0 [some (.ref (b + 1)), some (.int v1)] [] ((fTa_isSignOf ta v1).bind some) := by
  unfold fTa_isSignOf
  refine r_aload_n (pc := 0) ok dX10_isSignOf_0 rfl ?_
  refine r_getI (pc := 1) ok cls10 sh_1 (k := 4) rfl (Nat.le_of_ble_eq_true rfl) (mx_l (Nat.le_of_ble_eq_true rfl) (hr_ta)) dX10_isSignOf_1 fl_Ta_76 ?_
  refine r_iconst (pc := 4) ok (4 : Int32) dX10_isSignOf_4 ci_4 ?_
  refine r_icmp_ne (pc := 5) ok 20 dX10_isSignOf_5 rfl (fun _ => ?_) (fun _ => ?_)
  · refine r_aload_n (pc := 8) ok dX10_isSignOf_8 rfl ?_
    refine r_getI (pc := 9) ok cls10 sh_1 (k := 5) rfl (Nat.le_of_ble_eq_true rfl) (mx_l (Nat.le_of_ble_eq_true rfl) (hr_ta)) dX10_isSignOf_9 fl_Ta_73 ?_
    refine r_iload_n (pc := 12) ok dX10_isSignOf_12 rfl ?_
    refine r_icmp_ne (pc := 13) ok 20 dX10_isSignOf_13 rfl (fun _ => ?_) (fun _ => ?_)
    · refine r_iconst (pc := 16) ok (1 : Int32) dX10_isSignOf_16 ci_1 ?_
      refine r_goto (pc := 17) ok 21 dX10_isSignOf_17 rfl ?_
      exact r_zret (pc := 21) ok dX10_isSignOf_21 za_1 rfl
    · refine r_iconst (pc := 20) ok (0 : Int32) dX10_isSignOf_20 ci_0 ?_
      exact r_zret (pc := 21) ok dX10_isSignOf_21 za_0 rfl
  · refine r_iconst (pc := 20) ok (0 : Int32) dX10_isSignOf_20 ci_0 ?_
    exact r_zret (pc := 21) ok dX10_isSignOf_21 za_0 rfl
theorem tTa_isSignOf {l : Launch} {G : Gx} {b : Nat} {XX YY : Nat → Obj} {ta : Obj} {v1 : Int32} (hr_ta : XX 1 = ta) {r : Int32} (hr : fTa_isSignOf ta v1 = some r) : MetG l G b yX10_isSignOf cX10_isSignOf 2 (some .boolean) 0 [.ref (b + 1), .int v1] (mx XX YY) (qI G b r (mx XX YY)) := by
  refine met_start [some (.ref (b + 1)), some (.int v1)] (by decide +kernel) (Nat.le_of_ble_eq_true rfl) rfl (fun Z hl ok => ?_)
  clear hl
  exact vTa_isSignOf ok hr_ta r (by rw [hr]; rfl)
theorem vTa_takeLineEnd {Z : Cx} {G : Gx} {b : Nat} {XX YY : Nat → Obj} {ta : Obj} (ok : OK Z G b cX10_takeLineEnd 1 2 RX10 (some .boolean)) : VO Z G b 1 (fun (r : Int32 × Obj) => QX Z b (qI G b r.1 (mx (va_up XX 1 r.2) YY))) (mx (va_up XX 1 ta) YY) 0 [some (.ref (b + 1))] [] ((fTa_takeLineEnd ta).bind some) := by
  unfold fTa_takeLineEnd
  refine r_aload_n (pc := 0) ok dX10_takeLineEnd_0 rfl ?_
  refine k_V (pc := 1)  (fun r1 => mx (va_up XX 1 r1) YY) (fun r1 hr_ => c_V (n := 0) ok cls10 sh_1 rfl ml_Ta_59 wv_X10_take yk_X10_take rfl (Nat.le_of_ble_eq_true rfl) (Nat.le_of_ble_eq_true rfl) (tTa_take hr_) rfl (Nat.le_of_ble_eq_true rfl) dX10_takeLineEnd_1) (fun r1 => ?_)
  refine r_aload_n (pc := 4) ok dX10_takeLineEnd_4 rfl ?_
  refine r_bipush (pc := 5) ok (59 : Int32) dX10_takeLineEnd_5 cb_59 ?_
  refine k_I (pc := 7) (fun r2 => r2) (fun r2 => mx (va_up XX 1 r1) YY) (fun r2 hr_ => c_V (n := 1) ok cls10 sh_1 rfl ml_Ta_92 wv_X10_isSignOf yk_X10_isSignOf rfl (Nat.le_of_ble_eq_true rfl) (Nat.le_of_ble_eq_true rfl) (tTa_isSignOf (va_up_self _ _ _) hr_) rfl (Nat.le_of_ble_eq_true rfl) dX10_takeLineEnd_7) (fun r2 => ?_)
  refine r_if_ne (pc := 10) ok 21 dX10_takeLineEnd_10 rfl (fun _ => ?_) (fun _ => ?_)
  · refine r_aload_n (pc := 13) ok dX10_takeLineEnd_13 rfl ?_
    refine r_iconst (pc := 14) ok (1 : Int32) dX10_takeLineEnd_14 ci_1 ?_
    refine k_I (pc := 15) (fun r3 => r3.1) (fun r3 => mx (va_up XX 1 r3.2) YY) (fun r3 hr_ => c_V (n := 1) ok cls10 sh_1 rfl ml_Ta_96 wv_X10_refuse yk_X10_refuse rfl (Nat.le_of_ble_eq_true rfl) (Nat.le_of_ble_eq_true rfl) (tTa_refuse hr_) rfl (Nat.le_of_ble_eq_true rfl) dX10_takeLineEnd_15) (fun r3 => ?_)
    refine r_pop (pc := 18) ok dX10_takeLineEnd_18 rfl ?_
    refine r_iconst (pc := 19) ok (0 : Int32) dX10_takeLineEnd_19 ci_0 ?_
    exact r_zret (pc := 20) ok dX10_takeLineEnd_20 za_0 rfl
  · refine r_aload_n (pc := 21) ok dX10_takeLineEnd_21 rfl ?_
    refine k_V (pc := 22)  (fun r4 => mx (va_up XX 1 r4) YY) (fun r4 hr_ => c_V (n := 0) ok cls10 sh_1 rfl ml_Ta_59 wv_X10_take yk_X10_take rfl (Nat.le_of_ble_eq_true rfl) (Nat.le_of_ble_eq_true rfl) (tTa_take hr_) rfl (Nat.le_of_ble_eq_true rfl) dX10_takeLineEnd_22) (fun r4 => ?_)
    refine r_iconst (pc := 25) ok (1 : Int32) dX10_takeLineEnd_25 ci_1 ?_
    exact r_zret (pc := 26) ok dX10_takeLineEnd_26 za_1 rfl
theorem tTa_takeLineEnd {l : Launch} {G : Gx} {b : Nat} {XX YY : Nat → Obj} {ta : Obj} {r : Int32 × Obj} (hr : fTa_takeLineEnd ta = some r) : MetG l G b yX10_takeLineEnd cX10_takeLineEnd 1 (some .boolean) 2 [.ref (b + 1)] (mx (va_up XX 1 ta) YY) (qI G b r.1 (mx (va_up XX 1 r.2) YY)) := by
  refine met_start [some (.ref (b + 1))] (by decide +kernel) (Nat.le_of_ble_eq_true rfl) rfl (fun Z hl ok => ?_)
  clear hl
  exact vTa_takeLineEnd ok r (by rw [hr]; rfl)
theorem wQr_readAll_L41 {Z : Cx} {G : Gx} {b : Nat} {XX YY : Nat → Obj} (ok : OK Z G b cX6_readAll 2 5 RX6 (some .int)) {K : ((Int32 × Obj × Obj × Obj × Obj) ⊕ ((Int32 × Obj × Obj × Obj × Obj) ⊕ (Int32 × Obj × Obj × Obj × Obj))) → Option (Int32 × Obj × Obj × Obj × Obj)} (hc : ∀ (a : Int32 × Obj × Obj × Obj × Obj), VO Z G b 2 (fun (r : Int32 × Obj × Obj × Obj × Obj) => QX Z b (qI G b r.1 (mx (va_up (va_up (va_up (va_up XX 29 r.2.1) 212 r.2.2.1) 1 r.2.2.2.1) 36 r.2.2.2.2) YY))) (mx (va_up (va_up (va_up (va_up XX 29 a.2.1) 212 a.2.2.1) 1 a.2.2.2.1) 36 a.2.2.2.2) YY) 41 [some (.ref (b + 212)), some (.int a.1)] [] (K (.inl a))) (hx : ∀ (z : (Int32 × Obj × Obj × Obj × Obj) ⊕ (Int32 × Obj × Obj × Obj × Obj)), (∀ (e : Int32 × Obj × Obj × Obj × Obj), z = .inl e → VO Z G b 2 (fun (r : Int32 × Obj × Obj × Obj × Obj) => QX Z b (qI G b r.1 (mx (va_up (va_up (va_up (va_up XX 29 r.2.1) 212 r.2.2.1) 1 r.2.2.2.1) 36 r.2.2.2.2) YY))) (mx (va_up (va_up (va_up (va_up XX 29 e.2.1) 212 e.2.2.1) 1 e.2.2.2.1) 36 e.2.2.2.2) YY) 83 [none, some (.int e.1)] [] (K (.inr z))) ∧ (∀ (r : Int32 × Obj × Obj × Obj × Obj), z = .inr r → K (.inr z) = some r)) : ∀ (a : Int32 × Obj × Obj × Obj × Obj), VO Z G b 2 (fun (r : Int32 × Obj × Obj × Obj × Obj) => QX Z b (qI G b r.1 (mx (va_up (va_up (va_up (va_up XX 29 r.2.1) 212 r.2.2.1) 1 r.2.2.2.1) 36 r.2.2.2.2) YY))) (mx (va_up (va_up (va_up (va_up XX 29 a.2.1) 212 a.2.2.1) 1 a.2.2.2.1) 36 a.2.2.2.2) YY) 41 [some (.ref (b + 212)), some (.int a.1)] [] ((fQr_readAll_L41 a).bind K) := by
  intro a
  unfold fQr_readAll_L41
  refine r_iload_n (pc := 41) ok dX6_readAll_41 rfl ?_
  refine r_sipush (pc := 42) ok (940 : Int32) dX6_readAll_42 cs_940 ?_
  refine r_icmp_ge (pc := 45) ok 83 dX6_readAll_45 rfl (fun _ => ?_) (fun _ => ?_)
  · refine r_lv (lk_n (lk_s lk_0 _) _) ?_
    exact (hx (.inl (a.1, a.2.1, a.2.2.1, a.2.2.2.1, a.2.2.2.2))).1 _ rfl
  · refine r_aload_n (pc := 48) ok dX6_readAll_48 rfl ?_
    refine r_getR (pc := 49) ok cls6 sh_212 (k := 0) rfl (Nat.le_of_ble_eq_true rfl) rfl dX6_readAll_49 fl_Qr_9 ?_
    refine k_I (pc := 52) (fun r7 => r7) (fun r7 => mx (va_up (va_up (va_up (va_up XX 29 a.2.1) 212 a.2.2.1) 1 a.2.2.2.1) 36 a.2.2.2.2) YY) (fun r7 hr_ => c_V (n := 0) ok cls10 sh_1 rfl ml_Qr_51 wv_X10_isEnd yk_X10_isEnd rfl (Nat.le_of_ble_eq_true rfl) (Nat.le_of_ble_eq_true rfl) (tTa_isEnd ((va_up_ne _ _ (by decide)).trans (va_up_self _ _ _)) hr_) rfl (Nat.le_of_ble_eq_true rfl) dX6_readAll_52) (fun r7 => ?_)
    refine r_if_ne (pc := 55) ok 83 dX6_readAll_55 rfl (fun _ => ?_) (fun _ => ?_)
    · refine r_aload_n (pc := 58) ok dX6_readAll_58 rfl ?_
      refine k_I (pc := 59) (fun r8 => r8.1) (fun r8 => mx (va_up (va_up (va_up (va_up XX 29 r8.2.1) 212 r8.2.2.1) 1 r8.2.2.2.1) 36 r8.2.2.2.2) YY) (fun r8 hr_ => c_V (n := 0) ok cls6 sh_212 rfl ml_Qr_55 wv_X6_readLine yk_X6_readLine rfl (Nat.le_of_ble_eq_true rfl) (Nat.le_of_ble_eq_true rfl) (tQr_readLine hr_) rfl (Nat.le_of_ble_eq_true rfl) dX6_readAll_59) (fun r8 => ?_)
      refine r_if_eq (pc := 62) ok 75 dX6_readAll_62 rfl (fun _ => ?_) (fun _ => ?_)
      · refine r_iconst (pc := 75) ok (-1 : Int32) dX6_readAll_75 ci_m1 ?_
        refine r_eq ((hx (.inr ((-1 : Int32), r8.2.1, r8.2.2.1, r8.2.2.2.1, r8.2.2.2.2))).2 _ rfl) ?_
        exact r_iret (pc := 76) ok dX6_readAll_76 rfl
      · refine r_aload_n (pc := 65) ok dX6_readAll_65 rfl ?_
        refine r_getR (pc := 66) ok cls6 sh_212 (k := 0) rfl (Nat.le_of_ble_eq_true rfl) rfl dX6_readAll_66 fl_Qr_9 ?_
        refine k_I (pc := 69) (fun r9 => r9.1) (fun r9 => mx (va_up (va_up (va_up (va_up XX 29 r8.2.1) 212 r8.2.2.1) 1 r9.2) 36 r8.2.2.2.2) YY) (fun r9 hr_ => c_V (n := 0) ok cls10 sh_1 rfl ml_Qr_58 wv_X10_takeLineEnd yk_X10_takeLineEnd rfl (Nat.le_of_ble_eq_true rfl) (Nat.le_of_ble_eq_true rfl) (met_cast (congrArg (fun A_ => mx A_ YY) (up_co (va_up (va_up XX 29 r8.2.1) 212 r8.2.2.1) r8.2.2.2.1 r8.2.2.2.2 (show 1 ≠ 36 from by decide))) (congrArg (fun A_ => qI G b r9.1 (mx A_ YY)) (up_co (va_up (va_up XX 29 r8.2.1) 212 r8.2.2.1) r9.2 r8.2.2.2.2 (show 1 ≠ 36 from by decide))) (tTa_takeLineEnd hr_)) rfl (Nat.le_of_ble_eq_true rfl) dX6_readAll_69) (fun r9 => ?_)
        refine r_if_ne (pc := 72) ok 77 dX6_readAll_72 rfl (fun _ => ?_) (fun _ => ?_)
        · refine r_iconst (pc := 75) ok (-1 : Int32) dX6_readAll_75 ci_m1 ?_
          refine r_eq ((hx (.inr ((-1 : Int32), r8.2.1, r8.2.2.1, r9.2, r8.2.2.2.2))).2 _ rfl) ?_
          exact r_iret (pc := 76) ok dX6_readAll_76 rfl
        · refine r_iinc (pc := 77) ok (1 : Int32) dX6_readAll_77 ci_1 rfl (Nat.le_of_ble_eq_true rfl) rfl ?_
          refine r_goto (pc := 80) ok 41 dX6_readAll_80 rfl ?_
          exact hc ((a.1 + (1 : Int32)), r8.2.1, r8.2.2.1, r9.2, r8.2.2.2.2)
    · refine r_lv (lk_n (lk_s lk_0 _) _) ?_
      exact (hx (.inl (a.1, a.2.1, a.2.2.1, a.2.2.2.1, a.2.2.2.2))).1 _ rfl
theorem vQr_readAll {Z : Cx} {G : Gx} {b : Nat} {XX YY : Nat → Obj} {q : Obj} {qr : Obj} {ta : Obj} {sc : Obj} (ok : OK Z G b cX6_readAll 2 5 RX6 (some .int)) : VO Z G b 2 (fun (r : Int32 × Obj × Obj × Obj × Obj) => QX Z b (qI G b r.1 (mx (va_up (va_up (va_up (va_up XX 29 r.2.1) 212 r.2.2.1) 1 r.2.2.2.1) 36 r.2.2.2.2) YY))) (mx (va_up (va_up (va_up (va_up XX 29 q) 212 qr) 1 ta) 36 sc) YY) 0 [some (.ref (b + 212)), none] [] ((fQr_readAll q qr ta sc).bind some) := by
  unfold fQr_readAll
  refine r_aload_n (pc := 0) ok dX6_readAll_0 rfl ?_
  refine r_getR (pc := 1) ok cls6 sh_212 (k := 1) rfl (Nat.le_of_ble_eq_true rfl) rfl dX6_readAll_1 fl_Qr_21 ?_
  refine k_V (pc := 4)  (fun r1 => mx (va_up (va_up (va_up (va_up XX 29 r1) 212 qr) 1 ta) 36 sc) YY) (fun r1 hr_ => c_V (n := 0) ok cls5 sh_29 rfl ml_Qr_27 wv_X5_clear yk_X5_clear rfl (Nat.le_of_ble_eq_true rfl) (Nat.le_of_ble_eq_true rfl) (met_cast (congrArg (fun A_ => mx A_ YY) ((congrArg (fun A_ => (va_up (va_up A_ 1 ta) 36 sc)) (up_co XX q qr (show 29 ≠ 212 from by decide))).trans ((congrArg (fun A_ => (va_up A_ 36 sc)) (up_co (va_up XX 212 qr) q ta (show 29 ≠ 1 from by decide))).trans (up_co (va_up (va_up XX 212 qr) 1 ta) q sc (show 29 ≠ 36 from by decide))))) (congrArg (fun A_ => qV G b (mx A_ YY)) ((congrArg (fun A_ => (va_up (va_up A_ 1 ta) 36 sc)) (up_co XX r1 qr (show 29 ≠ 212 from by decide))).trans ((congrArg (fun A_ => (va_up A_ 36 sc)) (up_co (va_up XX 212 qr) r1 ta (show 29 ≠ 1 from by decide))).trans (up_co (va_up (va_up XX 212 qr) 1 ta) r1 sc (show 29 ≠ 36 from by decide))))) (tQu_clear (qu_c (o := 29) (by decide)) hr_)) rfl (Nat.le_of_ble_eq_true rfl) dX6_readAll_4) (fun r1 => ?_)
  refine r_aload_n (pc := 7) ok dX6_readAll_7 rfl ?_
  refine r_getR (pc := 8) ok cls6 sh_212 (k := 2) rfl (Nat.le_of_ble_eq_true rfl) rfl dX6_readAll_8 fl_Qr_26 ?_
  refine k_V (pc := 11)  (fun r2 => mx (va_up (va_up (va_up (va_up XX 29 r1) 212 qr) 1 ta) 36 r2) YY) (fun r2 hr_ => c_V (n := 0) ok cls8 sh_36 rfl ml_Qr_32 wv_X8_clear yk_X8_clear rfl (Nat.le_of_ble_eq_true rfl) (Nat.le_of_ble_eq_true rfl) (tSc_clear (sc_c (o := 36) (by decide)) hr_) rfl (Nat.le_of_ble_eq_true rfl) dX6_readAll_11) (fun r2 => ?_)
  refine r_aload_n (pc := 14) ok dX6_readAll_14 rfl ?_
  refine r_iconst (pc := 15) ok (0 : Int32) dX6_readAll_15 ci_0 ?_
  refine r_putI (pc := 16) ok cls6 sh_212 (k := 3) rfl (Nat.le_of_ble_eq_true rfl) (fun s_ => mx (va_up (va_up (va_up (va_up XX 29 r1) 212 s_) 1 ta) 36 r2) YY) (pm_l (Nat.le_of_ble_eq_true rfl) (pm_s (by decide) (pm_s (by decide) (pm_0 _ _)))).1 (pm_l (Nat.le_of_ble_eq_true rfl) (pm_s (by decide) (pm_s (by decide) (pm_0 _ _)))).2 rfl rfl rfl dX6_readAll_16 fl_Qr_35 (fun s3 => ?_)
  refine r_aload_n (pc := 19) ok dX6_readAll_19 rfl ?_
  refine r_iconst (pc := 20) ok (0 : Int32) dX6_readAll_20 ci_0 ?_
  refine r_putI (pc := 21) ok cls6 sh_212 (k := 4) rfl (Nat.le_of_ble_eq_true rfl) (fun s_ => mx (va_up (va_up (va_up (va_up XX 29 r1) 212 s_) 1 ta) 36 r2) YY) (pm_l (Nat.le_of_ble_eq_true rfl) (pm_s (by decide) (pm_s (by decide) (pm_0 _ _)))).1 (pm_l (Nat.le_of_ble_eq_true rfl) (pm_s (by decide) (pm_s (by decide) (pm_0 _ _)))).2 rfl rfl rfl dX6_readAll_21 fl_Qr_39 (fun s4 => ?_)
  refine r_aload_n (pc := 24) ok dX6_readAll_24 rfl ?_
  refine r_iconst (pc := 25) ok (0 : Int32) dX6_readAll_25 ci_0 ?_
  refine r_putI (pc := 26) ok cls6 sh_212 (k := 5) rfl (Nat.le_of_ble_eq_true rfl) (fun s_ => mx (va_up (va_up (va_up (va_up XX 29 r1) 212 s_) 1 ta) 36 r2) YY) (pm_l (Nat.le_of_ble_eq_true rfl) (pm_s (by decide) (pm_s (by decide) (pm_0 _ _)))).1 (pm_l (Nat.le_of_ble_eq_true rfl) (pm_s (by decide) (pm_s (by decide) (pm_0 _ _)))).2 rfl rfl rfl dX6_readAll_26 fl_Qr_42 (fun s5 => ?_)
  refine r_aload_n (pc := 29) ok dX6_readAll_29 rfl ?_
  refine r_getR (pc := 30) ok cls6 sh_212 (k := 0) rfl (Nat.le_of_ble_eq_true rfl) rfl dX6_readAll_30 fl_Qr_9 ?_
  refine r_sipush (pc := 33) ok (900 : Int32) dX6_readAll_33 cs_900 ?_
  refine k_V (pc := 36)  (fun r6 => mx (va_up (va_up (va_up (va_up XX 29 r1) 212 s5) 1 r6) 36 r2) YY) (fun r6 hr_ => c_V (n := 1) ok cls10 sh_1 rfl ml_Qr_45 wv_X10_startReading yk_X10_startReading rfl (Nat.le_of_ble_eq_true rfl) (Nat.le_of_ble_eq_true rfl) (met_cast (congrArg (fun A_ => mx A_ YY) (up_co (va_up (va_up XX 29 r1) 212 s5) ta r2 (show 1 ≠ 36 from by decide))) (congrArg (fun A_ => qV G b (mx A_ YY)) (up_co (va_up (va_up XX 29 r1) 212 s5) r6 r2 (show 1 ≠ 36 from by decide))) (tTa_startReading hr_)) rfl (Nat.le_of_ble_eq_true rfl) dX6_readAll_36) (fun r6 => ?_)
  refine r_iconst (pc := 39) ok (0 : Int32) dX6_readAll_39 ci_0 ?_
  refine r_istore_n (pc := 40) ok dX6_readAll_40 (Nat.le_of_ble_eq_true rfl) rfl ?_
  refine r_iter (P := fun (a41 : Int32 × Obj × Obj × Obj × Obj) o => VO Z G b 2 (fun (r : Int32 × Obj × Obj × Obj × Obj) => QX Z b (qI G b r.1 (mx (va_up (va_up (va_up (va_up XX 29 r.2.1) 212 r.2.2.1) 1 r.2.2.2.1) 36 r.2.2.2.2) YY))) (mx (va_up (va_up (va_up (va_up XX 29 a41.2.1) 212 a41.2.2.1) 1 a41.2.2.2.1) 36 a41.2.2.2.2) YY) 41 [some (.ref (b + 212)), some (.int a41.1)] [] o) (E := fun (z : (Int32 × Obj × Obj × Obj × Obj) ⊕ (Int32 × Obj × Obj × Obj × Obj)) o => (∀ (e_41 : Int32 × Obj × Obj × Obj × Obj), z = .inl e_41 → VO Z G b 2 (fun (r : Int32 × Obj × Obj × Obj × Obj) => QX Z b (qI G b r.1 (mx (va_up (va_up (va_up (va_up XX 29 r.2.1) 212 r.2.2.1) 1 r.2.2.2.1) 36 r.2.2.2.2) YY))) (mx (va_up (va_up (va_up (va_up XX 29 e_41.2.1) 212 e_41.2.2.1) 1 e_41.2.2.2.1) 36 e_41.2.2.2.2) YY) 83 [none, some (.int e_41.1)] [] o) ∧ (∀ (r : Int32 × Obj × Obj × Obj × Obj), z = .inr r → o = some r)) (fun _ => r_none) (fun K hc hx => wQr_readAll_L41 ok (K := K) hc hx) (fun z => ⟨fun e10 hz => ?_, fun r hz => ?_⟩) FU ((0 : Int32), r1, s5, r6, r2)
  · subst hz
    refine r_inl ?_
    refine r_iload_n (pc := 83) ok dX6_readAll_83 rfl ?_
    exact r_iret (pc := 84) ok dX6_readAll_84 rfl
  · subst hz
    rfl
theorem tQr_readAll {l : Launch} {G : Gx} {b : Nat} {XX YY : Nat → Obj} {q : Obj} {qr : Obj} {ta : Obj} {sc : Obj} {r : Int32 × Obj × Obj × Obj × Obj} (hr : fQr_readAll q qr ta sc = some r) : MetG l G b yX6_readAll cX6_readAll 2 (some .int) 5 [.ref (b + 212)] (mx (va_up (va_up (va_up (va_up XX 29 q) 212 qr) 1 ta) 36 sc) YY) (qI G b r.1 (mx (va_up (va_up (va_up (va_up XX 29 r.2.1) 212 r.2.2.1) 1 r.2.2.2.1) 36 r.2.2.2.2) YY)) := by
  refine met_start [some (.ref (b + 212)), none] (by decide +kernel) (Nat.le_of_ble_eq_true rfl) rfl (fun Z hl ok => ?_)
  clear hl
  exact vQr_readAll ok r (by rw [hr]; rfl)
theorem vKL_finishReading {Z : Cx} {G : Gx} {b : Nat} {YY : Nat → Obj} {X : Nat → Obj} (ok : OK Z G b cX11_finishReading 1 0 RX11 none) : VO Z G b 1 (fun (r : (Nat → Obj)) => QX Z b (qV G b (mx r YY))) (mx X YY) 0 [some (.ref (b + 0))] [] ((fKL_finishReading X).bind some) := by
  unfold fKL_finishReading
  refine r_aload_n (pc := 0) ok dX11_finishReading_0 rfl ?_
  refine r_aload_n (pc := 1) ok dX11_finishReading_1 rfl ?_
  refine r_getR (pc := 2) ok cls11 sh_0 (k := 0) rfl (Nat.le_of_ble_eq_true rfl) rfl dX11_finishReading_2 fl_KL_10 ?_
  refine r_getI (pc := 5) ok cls10 sh_1 (k := 2) rfl (Nat.le_of_ble_eq_true rfl) (mx_l (Nat.le_of_ble_eq_true rfl) rfl) dX11_finishReading_5 fl_KL_341 ?_
  refine r_putG (pc := 8) ok cls11 sh_0 (k := 12) rfl (Nat.le_of_ble_eq_true rfl) (Nat.le_of_ble_eq_true rfl) rfl rfl rfl dX11_finishReading_8 fl_KL_137 (fun X1 => ?_)
  refine r_aload_n (pc := 11) ok dX11_finishReading_11 rfl ?_
  refine r_getR (pc := 12) ok cls11 sh_0 (k := 0) rfl (Nat.le_of_ble_eq_true rfl) rfl dX11_finishReading_12 fl_KL_10 ?_
  refine r_iconst (pc := 15) ok (0 : Int32) dX11_finishReading_15 ci_0 ?_
  refine r_putG (pc := 16) ok cls10 sh_1 (k := 1) rfl (Nat.le_of_ble_eq_true rfl) (Nat.le_of_ble_eq_true rfl) rfl rfl rfl dX11_finishReading_16 fl_KL_104 (fun X2 => ?_)
  exact r_vret (pc := 19) ok dX11_finishReading_19 rfl
theorem tKL_finishReading {l : Launch} {G : Gx} {b : Nat} {YY : Nat → Obj} {X : Nat → Obj} {r : (Nat → Obj)} (hr : fKL_finishReading X = some r) : MetG l G b yX11_finishReading cX11_finishReading 1 none 0 [.ref (b + 0)] (mx X YY) (qV G b (mx r YY)) := by
  refine met_start [some (.ref (b + 0))] (by decide +kernel) (Nat.le_of_ble_eq_true rfl) rfl (fun Z hl ok => ?_)
  clear hl
  exact vKL_finishReading ok r (by rw [hr]; rfl)
theorem vSy_clear {Z : Cx} {G : Gx} {b : Nat} {XX YY : Nat → Obj} {sy : Obj} (ok : OK Z G b cX7_clear 1 0 RX7 none) : VO Z G b 1 (fun (r : Obj) => QX Z b (qV G b (mx (va_up XX 47 r) YY))) (mx (va_up XX 47 sy) YY) 0 [some (.ref (b + 47))] [] ((fSy_clear sy).bind some) := by
  unfold fSy_clear
  refine r_aload_n (pc := 0) ok dX7_clear_0 rfl ?_
  refine r_iconst (pc := 1) ok (0 : Int32) dX7_clear_1 ci_0 ?_
  refine r_putI (pc := 2) ok cls7 sh_47 (k := 0) rfl (Nat.le_of_ble_eq_true rfl) (fun s_ => mx (va_up XX 47 s_) YY) (pm_l (Nat.le_of_ble_eq_true rfl) (pm_0 _ _)).1 (pm_l (Nat.le_of_ble_eq_true rfl) (pm_0 _ _)).2 rfl rfl rfl dX7_clear_2 fl_Sy_24 (fun s1 => ?_)
  refine r_aload_n (pc := 5) ok dX7_clear_5 rfl ?_
  refine r_iconst (pc := 6) ok (0 : Int32) dX7_clear_6 ci_0 ?_
  refine r_putI (pc := 7) ok cls7 sh_47 (k := 1) rfl (Nat.le_of_ble_eq_true rfl) (fun s_ => mx (va_up XX 47 s_) YY) (pm_l (Nat.le_of_ble_eq_true rfl) (pm_0 _ _)).1 (pm_l (Nat.le_of_ble_eq_true rfl) (pm_0 _ _)).2 rfl rfl rfl dX7_clear_7 fl_Sy_28 (fun s2 => ?_)
  exact r_vret (pc := 10) ok dX7_clear_10 rfl
theorem tSy_clear {l : Launch} {G : Gx} {b : Nat} {XX YY : Nat → Obj} {sy : Obj} {r : Obj} (hr : fSy_clear sy = some r) : MetG l G b yX7_clear cX7_clear 1 none 0 [.ref (b + 47)] (mx (va_up XX 47 sy) YY) (qV G b (mx (va_up XX 47 r) YY)) := by
  refine met_start [some (.ref (b + 47))] (by decide +kernel) (Nat.le_of_ble_eq_true rfl) rfl (fun Z hl ok => ?_)
  clear hl
  exact vSy_clear ok r (by rw [hr]; rfl)
