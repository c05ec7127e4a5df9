theorem vMo_thrown {Z : Cx} {G : Gx} {b : Nat} {XX YY : Nat → Obj} {m : Obj} (ok : OK Z G b cX12_thrown 1 0 RX12 (some .int)) (hm : YY 225 = m) : VO Z G b 1 (fun (r : Int32) => QX Z b (qI G b r (mx XX YY))) (mx XX YY) 0 [some (.ref (b + 225))] [] ((fMo_thrown m).bind some) := by
  unfold fMo_thrown
  refine r_aload_n (pc := 0) ok dX12_thrown_0 rfl ?_
  refine r_getI (pc := 1) ok cls12 sh_225 (k := 0) rfl (Nat.le_of_ble_eq_true rfl) (mx_r (by decide) hm) dX12_thrown_1 fl_Mo_1 ?_
  exact r_iret (pc := 4) ok dX12_thrown_4 rfl
theorem tMo_thrown {l : Launch} {G : Gx} {b : Nat} {XX YY : Nat → Obj} {m : Obj} (hm : YY 225 = m) {r : Int32} (hr : fMo_thrown m = some r) : MetG l G b yX12_thrown cX12_thrown 1 (some .int) 0 [.ref (b + 225)] (mx XX YY) (qI G b r (mx XX YY)) := by
  refine met_start [some (.ref (b + 225))] (by decide +kernel) (Nat.le_of_ble_eq_true rfl) rfl (fun Z hl ok => ?_)
  clear hl
  exact vMo_thrown ok hm r (by rw [hr]; rfl)
theorem vMo_throwsIf {Z : Cx} {G : Gx} {b : Nat} {XX YY : Nat → Obj} {m : Obj} {v1 : Int32} (ok : OK Z G b cX12_throwsIf 2 0 RX12 (some .boolean)) : VO Z G b 2 (fun (r : Int32 × Obj) => QX Z b (qI G b r.1 (mx XX (va_up YY 225 r.2)))) (mx XX (va_up YY 225 m)) 0 [some (.ref (b + 225)), some (.int v1)] [] ((fMo_throwsIf m v1).bind some) := by
  unfold fMo_throwsIf
  refine r_aload_n (pc := 0) ok dX12_throwsIf_0 rfl ?_
  refine r_iload_n (pc := 1) ok dX12_throwsIf_1 rfl ?_
  refine r_if_eq (pc := 2) ok 9 dX12_throwsIf_2 rfl (fun _ => ?_) (fun _ => ?_)
  · refine r_iconst (pc := 9) ok (0 : Int32) dX12_throwsIf_9 ci_0 ?_
    refine r_putI (pc := 10) ok cls12 sh_225 (k := 0) rfl (Nat.le_of_ble_eq_true rfl) (fun s_ => mx XX (va_up YY 225 s_)) (pm_r _ _).1 (pm_r _ _).2 rfl rfl rfl dX12_throwsIf_10 fl_Mo_1 (fun s1 => ?_)
    refine r_iload_n (pc := 13) ok dX12_throwsIf_13 rfl ?_
    exact r_zret (pc := 14) ok dX12_throwsIf_14 rfl rfl
  · refine r_iconst (pc := 5) ok (1 : Int32) dX12_throwsIf_5 ci_1 ?_
    refine r_goto (pc := 6) ok 10 dX12_throwsIf_6 rfl ?_
    refine r_putI (pc := 10) ok cls12 sh_225 (k := 0) rfl (Nat.le_of_ble_eq_true rfl) (fun s_ => mx XX (va_up YY 225 s_)) (pm_r _ _).1 (pm_r _ _).2 rfl rfl rfl dX12_throwsIf_10 fl_Mo_1 (fun s2 => ?_)
    refine r_iload_n (pc := 13) ok dX12_throwsIf_13 rfl ?_
    exact r_zret (pc := 14) ok dX12_throwsIf_14 rfl rfl
theorem tMo_throwsIf {l : Launch} {G : Gx} {b : Nat} {XX YY : Nat → Obj} {m : Obj} {v1 : Int32} {r : Int32 × Obj} (hr : fMo_throwsIf m v1 = some r) : MetG l G b yX12_throwsIf cX12_throwsIf 2 (some .boolean) 0 [.ref (b + 225), .int v1] (mx XX (va_up YY 225 m)) (qI G b r.1 (mx XX (va_up YY 225 r.2))) := by
  refine met_start [some (.ref (b + 225)), some (.int v1)] (by decide +kernel) (Nat.le_of_ble_eq_true rfl) rfl (fun Z hl ok => ?_)
  clear hl
  exact vMo_throwsIf ok r (by rw [hr]; rfl)
theorem wMo_four_L3 {Z : Cx} {G : Gx} {b : Nat} {XX YY : Nat → Obj} {v1 : Int32} (ok : OK Z G b cX12_four 3 0 RX12 none) {K : ((Int32 × Obj) ⊕ (Obj)) → Option (Obj)} (hc : ∀ (a : Int32 × Obj), VO Z G b 3 (fun (r : Obj) => QX Z b (qV G b (mx XX (va_up YY 225 r)))) (mx XX (va_up YY 225 a.2)) 3 [some (.ref (b + 225)), some (.int v1), some (.int a.1)] [] (K (.inl a))) (hx : ∀ (e : Obj), VO Z G b 3 (fun (r : Obj) => QX Z b (qV G b (mx XX (va_up YY 225 r)))) (mx XX (va_up YY 225 e)) 36 [none, none, none] [] (K (.inr e))) : ∀ (a : Int32 × Obj), VO Z G b 3 (fun (r : Obj) => QX Z b (qV G b (mx XX (va_up YY 225 r)))) (mx XX (va_up YY 225 a.2)) 3 [some (.ref (b + 225)), some (.int v1), some (.int a.1)] [] ((fMo_four_L3 v1 a).bind K) := by
  intro a
  unfold fMo_four_L3
  refine r_iload_n (pc := 3) ok dX12_four_3 rfl ?_
  refine r_if_lt (pc := 4) ok 36 dX12_four_4 rfl (fun _ => ?_) (fun _ => ?_)
  · refine r_lv (lk_n (lk_n (lk_n lk_0 _) _) _) ?_
    exact hx a.2
  · refine r_aload_n (pc := 7) ok dX12_four_7 rfl ?_
    refine r_getR (pc := 8) ok cls12 sh_225 (k := 1) rfl (Nat.le_of_ble_eq_true rfl) rfl dX12_four_8 fl_Mo_14 ?_
    refine r_aload_n (pc := 11) ok dX12_four_11 rfl ?_
    refine r_getI (pc := 12) ok cls12 sh_225 (k := 2) rfl (Nat.le_of_ble_eq_true rfl) (mx_r (by decide) (va_up_self _ _ _)) dX12_four_12 fl_Mo_7 ?_
    refine r_iload_n (pc := 15) ok dX12_four_15 rfl ?_
    refine r_iload_n (pc := 16) ok dX12_four_16 rfl ?_
    refine r_ishr (pc := 17) ok dX12_four_17 ?_
    refine r_i2b (pc := 18) ok dX12_four_18 ?_
    refine r_bast (pc := 19) ok sh_226 (j := 1) rfl rfl (fun s_ => mx XX (va_up YY 225 s_)) (pm_r _ _).1 (pm_r _ _).2 dX12_four_19 (fun i1 s2 => ?_)
    refine r_aload_n (pc := 20) ok dX12_four_20 rfl ?_
    refine r_dup (pc := 21) ok dX12_four_21 rfl ?_
    refine r_getI (pc := 22) ok cls12 sh_225 (k := 2) rfl (Nat.le_of_ble_eq_true rfl) (mx_r (by decide) (va_up_self _ _ _)) dX12_four_22 fl_Mo_7 ?_
    refine r_iconst (pc := 25) ok (1 : Int32) dX12_four_25 ci_1 ?_
    refine r_iadd (pc := 26) ok dX12_four_26 ?_
    refine r_putI (pc := 27) ok cls12 sh_225 (k := 2) rfl (Nat.le_of_ble_eq_true rfl) (fun s_ => mx XX (va_up YY 225 s_)) (pm_r _ _).1 (pm_r _ _).2 rfl rfl rfl dX12_four_27 fl_Mo_7 (fun s3 => ?_)
    refine r_iinc (pc := 30) ok (-8 : Int32) dX12_four_30 ci_m8 rfl (Nat.le_of_ble_eq_true rfl) rfl ?_
    refine r_goto (pc := 33) ok 3 dX12_four_33 rfl ?_
    exact hc ((a.1 + (-8 : Int32)), s3)
theorem vMo_four {Z : Cx} {G : Gx} {b : Nat} {XX YY : Nat → Obj} {m : Obj} {v1 : Int32} (ok : OK Z G b cX12_four 3 0 RX12 none) : VO Z G b 3 (fun (r : Obj) => QX Z b (qV G b (mx XX (va_up YY 225 r)))) (mx XX (va_up YY 225 m)) 0 [some (.ref (b + 225)), some (.int v1), none] [] ((fMo_four m v1).bind some) := by
  unfold fMo_four
  refine r_bipush (pc := 0) ok (24 : Int32) dX12_four_0 cb_24 ?_
  refine r_istore_n (pc := 2) ok dX12_four_2 (Nat.le_of_ble_eq_true rfl) rfl ?_
  refine r_iter (P := fun (a3 : Int32 × Obj) o => VO Z G b 3 (fun (r : Obj) => QX Z b (qV G b (mx XX (va_up YY 225 r)))) (mx XX (va_up YY 225 a3.2)) 3 [some (.ref (b + 225)), some (.int v1), some (.int a3.1)] [] o) (E := fun (e_3 : Obj) o => VO Z G b 3 (fun (r : Obj) => QX Z b (qV G b (mx XX (va_up YY 225 r)))) (mx XX (va_up YY 225 e_3)) 36 [none, none, none] [] o) (fun _ => r_none) (fun K hc hx => wMo_four_L3 ok (K := K) hc hx) (fun e4 => ?_) FU ((24 : Int32), m)
  exact r_vret (pc := 36) ok dX12_four_36 rfl
theorem tMo_four {l : Launch} {G : Gx} {b : Nat} {XX YY : Nat → Obj} {m : Obj} {v1 : Int32} {r : Obj} (hr : fMo_four m v1 = some r) : MetG l G b yX12_four cX12_four 3 none 0 [.ref (b + 225), .int v1] (mx XX (va_up YY 225 m)) (qV G b (mx XX (va_up YY 225 r))) := by
  refine met_start [some (.ref (b + 225)), some (.int v1), none] (by decide +kernel) (Nat.le_of_ble_eq_true rfl) rfl (fun Z hl ok => ?_)
  clear hl
  exact vMo_four ok r (by rw [hr]; rfl)
theorem vMo_feed {Z : Cx} {G : Gx} {b : Nat} {XX YY : Nat → Obj} {m : Obj} {v1 : Int32} {v2 : Int32} {v3 : Int32} {v4 : Int32} {v5 : Int32} (ok : OK Z G b cX12_feed 6 1 RX12 (some .int)) : VO Z G b 6 (fun (r : Int32 × Obj) => QX Z b (qI G b r.1 (mx XX (va_up YY 225 r.2)))) (mx XX (va_up YY 225 m)) 0 [some (.ref (b + 225)), some (.int v1), some (.int v2), some (.int v3), some (.int v4), some (.int v5)] [] ((fMo_feed m v1 v2 v3 v4 v5).bind some) := by
  unfold fMo_feed
  refine r_aload_n (pc := 0) ok dX12_feed_0 rfl ?_
  refine r_iconst (pc := 1) ok (0 : Int32) dX12_feed_1 ci_0 ?_
  refine r_putI (pc := 2) ok cls12 sh_225 (k := 0) rfl (Nat.le_of_ble_eq_true rfl) (fun s_ => mx XX (va_up YY 225 s_)) (pm_r _ _).1 (pm_r _ _).2 rfl rfl rfl dX12_feed_2 fl_Mo_1 (fun s1 => ?_)
  refine r_aload_n (pc := 5) ok dX12_feed_5 rfl ?_
  refine r_getI (pc := 6) ok cls12 sh_225 (k := 2) rfl (Nat.le_of_ble_eq_true rfl) (mx_r (by decide) (va_up_self _ _ _)) dX12_feed_6 fl_Mo_7 ?_
  refine r_bipush (pc := 9) ok (20 : Int32) dX12_feed_9 cb_20 ?_
  refine r_iadd (pc := 11) ok dX12_feed_11 ?_
  refine r_sipush (pc := 12) ok (940 : Int32) dX12_feed_12 cs_940 ?_
  refine r_icmp_le (pc := 15) ok 20 dX12_feed_15 rfl (fun _ => ?_) (fun _ => ?_)
  · refine r_aload_n (pc := 20) ok dX12_feed_20 rfl ?_
    refine r_iload_n (pc := 21) ok dX12_feed_21 rfl ?_
    refine k_V (pc := 22)  (fun r2 => mx XX (va_up YY 225 r2)) (fun r2 hr_ => c_V (n := 1) ok cls12 sh_225 rfl ml_Mo_10 wv_X12_four yk_X12_four rfl (Nat.le_of_ble_eq_true rfl) (Nat.le_of_ble_eq_true rfl) (tMo_four hr_) rfl (Nat.le_of_ble_eq_true rfl) dX12_feed_22) (fun r2 => ?_)
    refine r_aload_n (pc := 25) ok dX12_feed_25 rfl ?_
    refine r_iload_n (pc := 26) ok dX12_feed_26 rfl ?_
    refine k_V (pc := 27)  (fun r3 => mx XX (va_up YY 225 r3)) (fun r3 hr_ => c_V (n := 1) ok cls12 sh_225 rfl ml_Mo_10 wv_X12_four yk_X12_four rfl (Nat.le_of_ble_eq_true rfl) (Nat.le_of_ble_eq_true rfl) (tMo_four hr_) rfl (Nat.le_of_ble_eq_true rfl) dX12_feed_27) (fun r3 => ?_)
    refine r_aload_n (pc := 30) ok dX12_feed_30 rfl ?_
    refine r_iload_n (pc := 31) ok dX12_feed_31 rfl ?_
    refine k_V (pc := 32)  (fun r4 => mx XX (va_up YY 225 r4)) (fun r4 hr_ => c_V (n := 1) ok cls12 sh_225 rfl ml_Mo_10 wv_X12_four yk_X12_four rfl (Nat.le_of_ble_eq_true rfl) (Nat.le_of_ble_eq_true rfl) (tMo_four hr_) rfl (Nat.le_of_ble_eq_true rfl) dX12_feed_32) (fun r4 => ?_)
    refine r_aload_n (pc := 35) ok dX12_feed_35 rfl ?_
    refine r_iload (pc := 36) ok dX12_feed_36 rfl ?_
    refine k_V (pc := 38)  (fun r5 => mx XX (va_up YY 225 r5)) (fun r5 hr_ => c_V (n := 1) ok cls12 sh_225 rfl ml_Mo_10 wv_X12_four yk_X12_four rfl (Nat.le_of_ble_eq_true rfl) (Nat.le_of_ble_eq_true rfl) (tMo_four hr_) rfl (Nat.le_of_ble_eq_true rfl) dX12_feed_38) (fun r5 => ?_)
    refine r_aload_n (pc := 41) ok dX12_feed_41 rfl ?_
    refine r_iload (pc := 42) ok dX12_feed_42 rfl ?_
    refine k_V (pc := 44)  (fun r6 => mx XX (va_up YY 225 r6)) (fun r6 hr_ => c_V (n := 1) ok cls12 sh_225 rfl ml_Mo_10 wv_X12_four yk_X12_four rfl (Nat.le_of_ble_eq_true rfl) (Nat.le_of_ble_eq_true rfl) (tMo_four hr_) rfl (Nat.le_of_ble_eq_true rfl) dX12_feed_44) (fun r6 => ?_)
    refine r_aload_n (pc := 47) ok dX12_feed_47 rfl ?_
    refine r_getI (pc := 48) ok cls12 sh_225 (k := 2) rfl (Nat.le_of_ble_eq_true rfl) (mx_r (by decide) (va_up_self _ _ _)) dX12_feed_48 fl_Mo_7 ?_
    exact r_iret (pc := 51) ok dX12_feed_51 rfl
  · refine r_iconst (pc := 18) ok (-1 : Int32) dX12_feed_18 ci_m1 ?_
    exact r_iret (pc := 19) ok dX12_feed_19 rfl
theorem tMo_feed {l : Launch} {G : Gx} {b : Nat} {XX YY : Nat → Obj} {m : Obj} {v1 : Int32} {v2 : Int32} {v3 : Int32} {v4 : Int32} {v5 : Int32} {r : Int32 × Obj} (hr : fMo_feed m v1 v2 v3 v4 v5 = some r) : MetG l G b yX12_feed cX12_feed 6 (some .int) 1 [.ref (b + 225), .int v1, .int v2, .int v3, .int v4, .int v5] (mx XX (va_up YY 225 m)) (qI G b r.1 (mx XX (va_up YY 225 r.2))) := by
  refine met_start [some (.ref (b + 225)), some (.int v1), some (.int v2), some (.int v3), some (.int v4), some (.int v5)] (by decide +kernel) (Nat.le_of_ble_eq_true rfl) rfl (fun Z hl ok => ?_)
  clear hl
  exact vMo_feed ok r (by rw [hr]; rfl)
theorem vMo_end {Z : Cx} {G : Gx} {b : Nat} {XX YY : Nat → Obj} {m : Obj} {v1 : Int32} (ok : OK Z G b cX12_end 2 0 RX12 (some .boolean)) : VO Z G b 2 (fun (r : Int32 × Obj) => QX Z b (qI G b r.1 (mx XX (va_up YY 225 r.2)))) (mx XX (va_up YY 225 m)) 0 [some (.ref (b + 225)), some (.int v1)] [] ((fMo_end m v1).bind some) := by
  unfold fMo_end
  refine r_aload_n (pc := 0) ok dX12_end_0 rfl ?_
  refine r_iconst (pc := 1) ok (0 : Int32) dX12_end_1 ci_0 ?_
  refine r_putI (pc := 2) ok cls12 sh_225 (k := 0) rfl (Nat.le_of_ble_eq_true rfl) (fun s_ => mx XX (va_up YY 225 s_)) (pm_r _ _).1 (pm_r _ _).2 rfl rfl rfl dX12_end_2 fl_Mo_1 (fun s1 => ?_)
  refine r_iload_n (pc := 5) ok dX12_end_5 rfl ?_
  refine r_if_lt (pc := 6) ok 17 dX12_end_6 rfl (fun _ => ?_) (fun _ => ?_)
  · refine r_iconst (pc := 17) ok (0 : Int32) dX12_end_17 ci_0 ?_
    exact r_zret (pc := 18) ok dX12_end_18 za_0 rfl
  · refine r_iload_n (pc := 9) ok dX12_end_9 rfl ?_
    refine r_aload_n (pc := 10) ok dX12_end_10 rfl ?_
    refine r_getI (pc := 11) ok cls12 sh_225 (k := 2) rfl (Nat.le_of_ble_eq_true rfl) (mx_r (by decide) (va_up_self _ _ _)) dX12_end_11 fl_Mo_7 ?_
    refine r_icmp_le (pc := 14) ok 19 dX12_end_14 rfl (fun _ => ?_) (fun _ => ?_)
    · refine r_aload_n (pc := 19) ok dX12_end_19 rfl ?_
      refine r_iload_n (pc := 20) ok dX12_end_20 rfl ?_
      refine r_putI (pc := 21) ok cls12 sh_225 (k := 2) rfl (Nat.le_of_ble_eq_true rfl) (fun s_ => mx XX (va_up YY 225 s_)) (pm_r _ _).1 (pm_r _ _).2 rfl rfl rfl dX12_end_21 fl_Mo_7 (fun s2 => ?_)
      refine r_iconst (pc := 24) ok (1 : Int32) dX12_end_24 ci_1 ?_
      exact r_zret (pc := 25) ok dX12_end_25 za_1 rfl
    · refine r_iconst (pc := 17) ok (0 : Int32) dX12_end_17 ci_0 ?_
      exact r_zret (pc := 18) ok dX12_end_18 za_0 rfl
theorem tMo_end {l : Launch} {G : Gx} {b : Nat} {XX YY : Nat → Obj} {m : Obj} {v1 : Int32} {r : Int32 × Obj} (hr : fMo_end m v1 = some r) : MetG l G b yX12_end cX12_end 2 (some .boolean) 0 [.ref (b + 225), .int v1] (mx XX (va_up YY 225 m)) (qI G b r.1 (mx XX (va_up YY 225 r.2))) := by
  refine met_start [some (.ref (b + 225)), some (.int v1)] (by decide +kernel) (Nat.le_of_ble_eq_true rfl) rfl (fun Z hl ok => ?_)
  clear hl
  exact vMo_end ok r (by rw [hr]; rfl)
theorem vMo_taken {Z : Cx} {G : Gx} {b : Nat} {XX YY : Nat → Obj} {m : Obj} {v1 : Int32} (ok : OK Z G b cX12_taken 2 0 RX12 none) : VO Z G b 2 (fun (r : Obj) => QX Z b (qV G b (mx XX (va_up YY 225 r)))) (mx XX (va_up YY 225 m)) 0 [some (.ref (b + 225)), some (.int v1)] [] ((fMo_taken m v1).bind some) := by
  unfold fMo_taken
  refine r_aload_n (pc := 0) ok dX12_taken_0 rfl ?_
  refine r_aload_n (pc := 1) ok dX12_taken_1 rfl ?_
  refine r_getI (pc := 2) ok cls12 sh_225 (k := 2) rfl (Nat.le_of_ble_eq_true rfl) (mx_r (by decide) (va_up_self _ _ _)) dX12_taken_2 fl_Mo_7 ?_
  refine r_putI (pc := 5) ok cls12 sh_225 (k := 3) rfl (Nat.le_of_ble_eq_true rfl) (fun s_ => mx XX (va_up YY 225 s_)) (pm_r _ _).1 (pm_r _ _).2 rfl rfl rfl dX12_taken_5 fl_Mo_18 (fun s1 => ?_)
  refine r_aload_n (pc := 8) ok dX12_taken_8 rfl ?_
  refine r_iconst (pc := 9) ok (0 : Int32) dX12_taken_9 ci_0 ?_
  refine r_putI (pc := 10) ok cls12 sh_225 (k := 2) rfl (Nat.le_of_ble_eq_true rfl) (fun s_ => mx XX (va_up YY 225 s_)) (pm_r _ _).1 (pm_r _ _).2 rfl rfl rfl dX12_taken_10 fl_Mo_7 (fun s2 => ?_)
  refine r_aload_n (pc := 13) ok dX12_taken_13 rfl ?_
  refine r_iconst (pc := 14) ok (0 : Int32) dX12_taken_14 ci_0 ?_
  refine r_putI (pc := 15) ok cls12 sh_225 (k := 4) rfl (Nat.le_of_ble_eq_true rfl) (fun s_ => mx XX (va_up YY 225 s_)) (pm_r _ _).1 (pm_r _ _).2 rfl rfl rfl dX12_taken_15 fl_Mo_21 (fun s3 => ?_)
  refine r_aload_n (pc := 18) ok dX12_taken_18 rfl ?_
  refine r_iload_n (pc := 19) ok dX12_taken_19 rfl ?_
  refine r_putI (pc := 20) ok cls12 sh_225 (k := 5) rfl (Nat.le_of_ble_eq_true rfl) (fun s_ => mx XX (va_up YY 225 s_)) (pm_r _ _).1 (pm_r _ _).2 rfl rfl rfl dX12_taken_20 fl_Mo_24 (fun s4 => ?_)
  exact r_vret (pc := 23) ok dX12_taken_23 rfl
theorem tMo_taken {l : Launch} {G : Gx} {b : Nat} {XX YY : Nat → Obj} {m : Obj} {v1 : Int32} {r : Obj} (hr : fMo_taken m v1 = some r) : MetG l G b yX12_taken cX12_taken 2 none 0 [.ref (b + 225), .int v1] (mx XX (va_up YY 225 m)) (qV G b (mx XX (va_up YY 225 r))) := by
  refine met_start [some (.ref (b + 225)), some (.int v1)] (by decide +kernel) (Nat.le_of_ble_eq_true rfl) rfl (fun Z hl ok => ?_)
  clear hl
  exact vMo_taken ok r (by rw [hr]; rfl)
theorem vMo_isIn {Z : Cx} {G : Gx} {b : Nat} {XX YY : Nat → Obj} {v0 : Int32} {v1 : Int32} {v2 : Int32} (ok : OK Z G b cX12_isIn 3 0 RX12 (some .boolean)) : VO Z G b 3 (fun (r : Int32) => QX Z b (qI G b r (mx XX YY))) (mx XX YY) 0 [some (.int v0), some (.int v1), some (.int v2)] [] ((fMo_isIn v0 v1 v2).bind some) := by
  unfold fMo_isIn
  refine r_iload_n (pc := 0) ok dX12_isIn_0 rfl ?_
  refine r_iload_n (pc := 1) ok dX12_isIn_1 rfl ?_
  refine r_icmp_lt (pc := 2) ok 14 dX12_isIn_2 rfl (fun _ => ?_) (fun _ => ?_)
  · refine r_iconst (pc := 14) ok (0 : Int32) dX12_isIn_14 ci_0 ?_
    exact r_zret (pc := 15) ok dX12_isIn_15 za_0 rfl
  · refine r_iload_n (pc := 5) ok dX12_isIn_5 rfl ?_
    refine r_iload_n (pc := 6) ok dX12_isIn_6 rfl ?_
    refine r_icmp_gt (pc := 7) ok 14 dX12_isIn_7 rfl (fun _ => ?_) (fun _ => ?_)
    · refine r_iconst (pc := 14) ok (0 : Int32) dX12_isIn_14 ci_0 ?_
      exact r_zret (pc := 15) ok dX12_isIn_15 za_0 rfl
    · refine r_iconst (pc := 10) ok (1 : Int32) dX12_isIn_10 ci_1 ?_
      refine r_goto (pc := 11) ok 15 dX12_isIn_11 rfl ?_
      exact r_zret (pc := 15) ok dX12_isIn_15 za_1 rfl
theorem tMo_isIn {l : Launch} {G : Gx} {b : Nat} {XX YY : Nat → Obj} {v0 : Int32} {v1 : Int32} {v2 : Int32} {r : Int32} (hr : fMo_isIn v0 v1 v2 = some r) : MetG l G b yX12_isIn cX12_isIn 3 (some .boolean) 0 [.int v0, .int v1, .int v2] (mx XX YY) (qI G b r (mx XX YY)) := by
  refine met_start [some (.int v0), some (.int v1), some (.int v2)] (by decide +kernel) (Nat.le_of_ble_eq_true rfl) rfl (fun Z hl ok => ?_)
  clear hl
  exact vMo_isIn ok r (by rw [hr]; rfl)
theorem vMo_bitOf {Z : Cx} {G : Gx} {b : Nat} {XX YY : Nat → Obj} {v0 : Int32} {v1 : Int32} (ok : OK Z G b cX12_bitOf 2 0 RX12 (some .boolean)) : VO Z G b 2 (fun (r : Int32) => QX Z b (qI G b r (mx XX YY))) (mx XX YY) 0 [some (.int v0), some (.int v1)] [] ((fMo_bitOf v0 v1).bind some) := by
  unfold fMo_bitOf
  refine r_iload_n (pc := 0) ok dX12_bitOf_0 rfl ?_
  refine r_iload_n (pc := 1) ok dX12_bitOf_1 rfl ?_
  refine r_ishr (pc := 2) ok dX12_bitOf_2 ?_
  refine r_iconst (pc := 3) ok (1 : Int32) dX12_bitOf_3 ci_1 ?_
  refine r_iand (pc := 4) ok dX12_bitOf_4 ?_
  refine r_iconst (pc := 5) ok (1 : Int32) dX12_bitOf_5 ci_1 ?_
  refine r_icmp_ne (pc := 6) ok 13 dX12_bitOf_6 rfl (fun _ => ?_) (fun _ => ?_)
  · refine r_iconst (pc := 9) ok (1 : Int32) dX12_bitOf_9 ci_1 ?_
    refine r_goto (pc := 10) ok 14 dX12_bitOf_10 rfl ?_
    exact r_zret (pc := 14) ok dX12_bitOf_14 za_1 rfl
  · refine r_iconst (pc := 13) ok (0 : Int32) dX12_bitOf_13 ci_0 ?_
    exact r_zret (pc := 14) ok dX12_bitOf_14 za_0 rfl
theorem tMo_bitOf {l : Launch} {G : Gx} {b : Nat} {XX YY : Nat → Obj} {v0 : Int32} {v1 : Int32} {r : Int32} (hr : fMo_bitOf v0 v1 = some r) : MetG l G b yX12_bitOf cX12_bitOf 2 (some .boolean) 0 [.int v0, .int v1] (mx XX YY) (qI G b r (mx XX YY)) := by
  refine met_start [some (.int v0), some (.int v1)] (by decide +kernel) (Nat.le_of_ble_eq_true rfl) rfl (fun Z hl ok => ?_)
  clear hl
  exact vMo_bitOf ok r (by rw [hr]; rfl)
theorem vMo_greater {Z : Cx} {G : Gx} {b : Nat} {XX YY : Nat → Obj} {v0 : Int32} {v1 : Int32} (ok : OK Z G b cX12_greater 2 0 RX12 (some .int)) : VO Z G b 2 (fun (r : Int32) => QX Z b (qI G b r (mx XX YY))) (mx XX YY) 0 [some (.int v0), some (.int v1)] [] ((fMo_greater v0 v1).bind some) := by
  unfold fMo_greater
  refine r_iload_n (pc := 0) ok dX12_greater_0 rfl ?_
  refine r_iload_n (pc := 1) ok dX12_greater_1 rfl ?_
  refine r_icmp_le (pc := 2) ok 9 dX12_greater_2 rfl (fun _ => ?_) (fun _ => ?_)
  · refine r_iload_n (pc := 9) ok dX12_greater_9 rfl ?_
    exact r_iret (pc := 10) ok dX12_greater_10 rfl
  · refine r_iload_n (pc := 5) ok dX12_greater_5 rfl ?_
    refine r_goto (pc := 6) ok 10 dX12_greater_6 rfl ?_
    exact r_iret (pc := 10) ok dX12_greater_10 rfl
theorem tMo_greater {l : Launch} {G : Gx} {b : Nat} {XX YY : Nat → Obj} {v0 : Int32} {v1 : Int32} {r : Int32} (hr : fMo_greater v0 v1 = some r) : MetG l G b yX12_greater cX12_greater 2 (some .int) 0 [.int v0, .int v1] (mx XX YY) (qI G b r (mx XX YY)) := by
  refine met_start [some (.int v0), some (.int v1)] (by decide +kernel) (Nat.le_of_ble_eq_true rfl) rfl (fun Z hl ok => ?_)
  clear hl
  exact vMo_greater ok r (by rw [hr]; rfl)
theorem wMo_bits_L4 {Z : Cx} {G : Gx} {b : Nat} {XX YY : Nat → Obj} (ok : OK Z G b cX12_bits 3 0 RX12 (some .int)) {K : ((Int32 × Int32) ⊕ (Int32)) → Option (Int32)} (hc : ∀ (a : Int32 × Int32), VO Z G b 3 (fun (r : Int32) => QX Z b (qI G b r (mx XX YY))) (mx XX YY) 4 [none, some (.int a.1), some (.int a.2)] [] (K (.inl a))) (hx : ∀ (e : Int32), VO Z G b 3 (fun (r : Int32) => QX Z b (qI G b r (mx XX YY))) (mx XX YY) 20 [none, some (.int e), none] [] (K (.inr e))) : ∀ (a : Int32 × Int32), VO Z G b 3 (fun (r : Int32) => QX Z b (qI G b r (mx XX YY))) (mx XX YY) 4 [none, some (.int a.1), some (.int a.2)] [] ((fMo_bits_L4 a).bind K) := by
  intro a
  unfold fMo_bits_L4
  refine r_iload_n (pc := 4) ok dX12_bits_4 rfl ?_
  refine r_if_eq (pc := 5) ok 20 dX12_bits_5 rfl (fun _ => ?_) (fun _ => ?_)
  · refine r_lv (lk_n (lk_s (lk_n lk_0 _) _) _) ?_
    exact hx a.1
  · refine r_iinc (pc := 8) ok (1 : Int32) dX12_bits_8 ci_1 rfl (Nat.le_of_ble_eq_true rfl) rfl ?_
    refine r_iload_n (pc := 11) ok dX12_bits_11 rfl ?_
    refine r_iload_n (pc := 12) ok dX12_bits_12 rfl ?_
    refine r_iconst (pc := 13) ok (1 : Int32) dX12_bits_13 ci_1 ?_
    refine r_isub (pc := 14) ok dX12_bits_14 ?_
    refine r_iand (pc := 15) ok dX12_bits_15 ?_
    refine r_bndI (fun x1 => ?_)
    refine r_istore_n (pc := 16) ok dX12_bits_16 (Nat.le_of_ble_eq_true rfl) rfl ?_
    refine r_goto (pc := 17) ok 4 dX12_bits_17 rfl ?_
    exact hc ((a.1 + (1 : Int32)), x1)
theorem vMo_bits {Z : Cx} {G : Gx} {b : Nat} {XX YY : Nat → Obj} {v0 : Int32} (ok : OK Z G b cX12_bits 3 0 RX12 (some .int)) : VO Z G b 3 (fun (r : Int32) => QX Z b (qI G b r (mx XX YY))) (mx XX YY) 0 [some (.int v0), none, none] [] ((fMo_bits v0).bind some) := by
  unfold fMo_bits
  refine r_iconst (pc := 0) ok (0 : Int32) dX12_bits_0 ci_0 ?_
  refine r_istore_n (pc := 1) ok dX12_bits_1 (Nat.le_of_ble_eq_true rfl) rfl ?_
  refine r_iload_n (pc := 2) ok dX12_bits_2 rfl ?_
  refine r_istore_n (pc := 3) ok dX12_bits_3 (Nat.le_of_ble_eq_true rfl) rfl ?_
  refine r_lv (lk_n (lk_s (lk_s lk_0 _) _) _) ?_
  refine r_iter (P := fun (a4 : Int32 × Int32) o => VO Z G b 3 (fun (r : Int32) => QX Z b (qI G b r (mx XX YY))) (mx XX YY) 4 [none, some (.int a4.1), some (.int a4.2)] [] o) (E := fun (e_4 : Int32) o => VO Z G b 3 (fun (r : Int32) => QX Z b (qI G b r (mx XX YY))) (mx XX YY) 20 [none, some (.int e_4), none] [] o) (fun _ => r_none) (fun K hc hx => wMo_bits_L4 ok (K := K) hc hx) (fun e2 => ?_) FU ((0 : Int32), v0)
  refine r_iload_n (pc := 20) ok dX12_bits_20 rfl ?_
  exact r_iret (pc := 21) ok dX12_bits_21 rfl
theorem tMo_bits {l : Launch} {G : Gx} {b : Nat} {XX YY : Nat → Obj} {v0 : Int32} {r : Int32} (hr : fMo_bits v0 = some r) : MetG l G b yX12_bits cX12_bits 3 (some .int) 0 [.int v0] (mx XX YY) (qI G b r (mx XX YY)) := by
  refine met_start [some (.int v0), none, none] (by decide +kernel) (Nat.le_of_ble_eq_true rfl) rfl (fun Z hl ok => ?_)
  clear hl
  exact vMo_bits ok r (by rw [hr]; rfl)
theorem vMo_octet {Z : Cx} {G : Gx} {b : Nat} {XX YY : Nat → Obj} {m : Obj} {v1 : Int32} (ok : OK Z G b cX12_octet 2 0 RX12 (some .int)) (hm : YY 225 = m) : VO Z G b 2 (fun (r : Int32) => QX Z b (qI G b r (mx XX YY))) (mx XX YY) 0 [some (.ref (b + 225)), some (.int v1)] [] ((fMo_octet m v1).bind some) := by
  unfold fMo_octet
  refine r_aload_n (pc := 0) ok dX12_octet_0 rfl ?_
  refine r_getR (pc := 1) ok cls12 sh_225 (k := 1) rfl (Nat.le_of_ble_eq_true rfl) rfl dX12_octet_1 fl_Mo_14 ?_
  refine r_iload_n (pc := 4) ok dX12_octet_4 rfl ?_
  refine r_bald (pc := 5) ok sh_226 (j := 1) rfl (mx_r (by decide) hm) dX12_octet_5 (fun i1 => ?_)
  refine r_sipush (pc := 6) ok (255 : Int32) dX12_octet_6 cs_255 ?_
  refine r_iand (pc := 9) ok dX12_octet_9 ?_
  exact r_iret (pc := 10) ok dX12_octet_10 rfl
theorem tMo_octet {l : Launch} {G : Gx} {b : Nat} {XX YY : Nat → Obj} {m : Obj} {v1 : Int32} (hm : YY 225 = m) {r : Int32} (hr : fMo_octet m v1 = some r) : MetG l G b yX12_octet cX12_octet 2 (some .int) 0 [.ref (b + 225), .int v1] (mx XX YY) (qI G b r (mx XX YY)) := by
  refine met_start [some (.ref (b + 225)), some (.int v1)] (by decide +kernel) (Nat.le_of_ble_eq_true rfl) rfl (fun Z hl ok => ?_)
  clear hl
  exact vMo_octet ok hm r (by rw [hr]; rfl)
theorem wMo_clears_L2 {Z : Cx} {G : Gx} {b : Nat} {XX YY : Nat → Obj} (ok : OK Z G b cX12_clears 2 0 RX12 none) {K : ((Int32 × Obj) ⊕ (Obj)) → Option (Obj)} (hc : ∀ (a : Int32 × Obj), VO Z G b 2 (fun (r : Obj) => QX Z b (qV G b (mx XX (va_up YY 225 r)))) (mx XX (va_up YY 225 a.2)) 2 [some (.ref (b + 225)), some (.int a.1)] [] (K (.inl a))) (hx : ∀ (e : Obj), VO Z G b 2 (fun (r : Obj) => QX Z b (qV G b (mx XX (va_up YY 225 r)))) (mx XX (va_up YY 225 e)) 21 [some (.ref (b + 225)), none] [] (K (.inr e))) : ∀ (a : Int32 × Obj), VO Z G b 2 (fun (r : Obj) => QX Z b (qV G b (mx XX (va_up YY 225 r)))) (mx XX (va_up YY 225 a.2)) 2 [some (.ref (b + 225)), some (.int a.1)] [] ((fMo_clears_L2 a).bind K) := by
  intro a
  unfold fMo_clears_L2
  refine r_iload_n (pc := 2) ok dX12_clears_2 rfl ?_
  refine r_bipush (pc := 3) ok (69 : Int32) dX12_clears_3 cb_69 ?_
  refine r_icmp_ge (pc := 5) ok 21 dX12_clears_5 rfl (fun _ => ?_) (fun _ => ?_)
  · refine r_lv (lk_s (lk_n lk_0 _) _) ?_
    exact hx a.2
  · refine r_aload_n (pc := 8) ok dX12_clears_8 rfl ?_
    refine r_getR (pc := 9) ok cls12 sh_225 (k := 7) rfl (Nat.le_of_ble_eq_true rfl) rfl dX12_clears_9 fl_Mo_37 ?_
    refine r_iload_n (pc := 12) ok dX12_clears_12 rfl ?_
    refine r_iconst (pc := 13) ok (0 : Int32) dX12_clears_13 ci_0 ?_
    refine r_iast (pc := 14) ok sh_228 (j := 3) rfl rfl (fun s_ => mx XX (va_up YY 225 s_)) (pm_r _ _).1 (pm_r _ _).2 dX12_clears_14 (fun i1 s2 => ?_)
    refine r_iinc (pc := 15) ok (1 : Int32) dX12_clears_15 ci_1 rfl (Nat.le_of_ble_eq_true rfl) rfl ?_
    refine r_goto (pc := 18) ok 2 dX12_clears_18 rfl ?_
    exact hc ((a.1 + (1 : Int32)), s2)
theorem vMo_clears {Z : Cx} {G : Gx} {b : Nat} {XX YY : Nat → Obj} {m : Obj} (ok : OK Z G b cX12_clears 2 0 RX12 none) : VO Z G b 2 (fun (r : Obj) => QX Z b (qV G b (mx XX (va_up YY 225 r)))) (mx XX (va_up YY 225 m)) 0 [some (.ref (b + 225)), none] [] ((fMo_clears m).bind some) := by
  unfold fMo_clears
  refine r_iconst (pc := 0) ok (0 : Int32) dX12_clears_0 ci_0 ?_
  refine r_istore_n (pc := 1) ok dX12_clears_1 (Nat.le_of_ble_eq_true rfl) rfl ?_
  refine r_iter (P := fun (a2 : Int32 × Obj) o => VO Z G b 2 (fun (r : Obj) => QX Z b (qV G b (mx XX (va_up YY 225 r)))) (mx XX (va_up YY 225 a2.2)) 2 [some (.ref (b + 225)), some (.int a2.1)] [] o) (E := fun (e_2 : Obj) o => VO Z G b 2 (fun (r : Obj) => QX Z b (qV G b (mx XX (va_up YY 225 r)))) (mx XX (va_up YY 225 e_2)) 21 [some (.ref (b + 225)), none] [] o) (fun _ => r_none) (fun K hc hx => wMo_clears_L2 ok (K := K) hc hx) (fun e3 => ?_) FU ((0 : Int32), m)
  refine r_aload_n (pc := 21) ok dX12_clears_21 rfl ?_
  refine r_getR (pc := 22) ok cls12 sh_225 (k := 7) rfl (Nat.le_of_ble_eq_true rfl) rfl dX12_clears_22 fl_Mo_37 ?_
  refine r_iconst (pc := 25) ok (2 : Int32) dX12_clears_25 ci_2 ?_
  refine r_bipush (pc := 26) ok (10 : Int32) dX12_clears_26 cb_10 ?_
  refine r_iastc (pc := 28) ok sh_228 (j := 3) rfl (i := 2) (by decide +kernel) rfl (fun s_ => mx XX (va_up YY 225 s_)) (pm_r _ _).1 (pm_r _ _).2 dX12_clears_28 (fun s4 => ?_)
  refine r_aload_n (pc := 29) ok dX12_clears_29 rfl ?_
  refine r_getR (pc := 30) ok cls12 sh_225 (k := 7) rfl (Nat.le_of_ble_eq_true rfl) rfl dX12_clears_30 fl_Mo_37 ?_
  refine r_iconst (pc := 33) ok (3 : Int32) dX12_clears_33 ci_3 ?_
  refine r_iconst (pc := 34) ok (2 : Int32) dX12_clears_34 ci_2 ?_
  refine r_iastc (pc := 35) ok sh_228 (j := 3) rfl (i := 3) (by decide +kernel) rfl (fun s_ => mx XX (va_up YY 225 s_)) (pm_r _ _).1 (pm_r _ _).2 dX12_clears_35 (fun s5 => ?_)
  refine r_aload_n (pc := 36) ok dX12_clears_36 rfl ?_
  refine r_getR (pc := 37) ok cls12 sh_225 (k := 7) rfl (Nat.le_of_ble_eq_true rfl) rfl dX12_clears_37 fl_Mo_37 ?_
  refine r_iconst (pc := 40) ok (4 : Int32) dX12_clears_40 ci_4 ?_
  refine r_iconst (pc := 41) ok (3 : Int32) dX12_clears_41 ci_3 ?_
  refine r_iastc (pc := 42) ok sh_228 (j := 3) rfl (i := 4) (by decide +kernel) rfl (fun s_ => mx XX (va_up YY 225 s_)) (pm_r _ _).1 (pm_r _ _).2 dX12_clears_42 (fun s6 => ?_)
  exact r_vret (pc := 43) ok dX12_clears_43 rfl
theorem tMo_clears {l : Launch} {G : Gx} {b : Nat} {XX YY : Nat → Obj} {m : Obj} {r : Obj} (hr : fMo_clears m = some r) : MetG l G b yX12_clears cX12_clears 2 none 0 [.ref (b + 225)] (mx XX (va_up YY 225 m)) (qV G b (mx XX (va_up YY 225 r))) := by
  refine met_start [some (.ref (b + 225)), none] (by decide +kernel) (Nat.le_of_ble_eq_true rfl) rfl (fun Z hl ok => ?_)
  clear hl
  exact vMo_clears ok r (by rw [hr]; rfl)
theorem vMo_peek {Z : Cx} {G : Gx} {b : Nat} {XX YY : Nat → Obj} {m : Obj} (ok : OK Z G b cX12_peek 1 0 RX12 (some .int)) (hm : YY 225 = m) : VO Z G b 1 (fun (r : Int32) => QX Z b (qI G b r (mx XX YY))) (mx XX YY) 0 [some (.ref (b + 225))] [] ((fMo_peek m).bind some) := by
  unfold fMo_peek
  refine r_aload_n (pc := 0) ok dX12_peek_0 rfl ?_
  refine r_getI (pc := 1) ok cls12 sh_225 (k := 4) rfl (Nat.le_of_ble_eq_true rfl) (mx_r (by decide) hm) dX12_peek_1 fl_Mo_21 ?_
  refine r_aload_n (pc := 4) ok dX12_peek_4 rfl ?_
  refine r_getI (pc := 5) ok cls12 sh_225 (k := 3) rfl (Nat.le_of_ble_eq_true rfl) (mx_r (by decide) hm) dX12_peek_5 fl_Mo_18 ?_
  refine r_icmp_ge (pc := 8) ok 27 dX12_peek_8 rfl (fun _ => ?_) (fun _ => ?_)
  · refine r_iconst (pc := 27) ok (-1 : Int32) dX12_peek_27 ci_m1 ?_
    exact r_iret (pc := 28) ok dX12_peek_28 rfl
  · refine r_aload_n (pc := 11) ok dX12_peek_11 rfl ?_
    refine r_getR (pc := 12) ok cls12 sh_225 (k := 1) rfl (Nat.le_of_ble_eq_true rfl) rfl dX12_peek_12 fl_Mo_14 ?_
    refine r_aload_n (pc := 15) ok dX12_peek_15 rfl ?_
    refine r_getI (pc := 16) ok cls12 sh_225 (k := 4) rfl (Nat.le_of_ble_eq_true rfl) (mx_r (by decide) hm) dX12_peek_16 fl_Mo_21 ?_
    refine r_bald (pc := 19) ok sh_226 (j := 1) rfl (mx_r (by decide) hm) dX12_peek_19 (fun i1 => ?_)
    refine r_sipush (pc := 20) ok (255 : Int32) dX12_peek_20 cs_255 ?_
    refine r_iand (pc := 23) ok dX12_peek_23 ?_
    refine r_goto (pc := 24) ok 28 dX12_peek_24 rfl ?_
    exact r_iret (pc := 28) ok dX12_peek_28 rfl
theorem tMo_peek {l : Launch} {G : Gx} {b : Nat} {XX YY : Nat → Obj} {m : Obj} (hm : YY 225 = m) {r : Int32} (hr : fMo_peek m = some r) : MetG l G b yX12_peek cX12_peek 1 (some .int) 0 [.ref (b + 225)] (mx XX YY) (qI G b r (mx XX YY)) := by
  refine met_start [some (.ref (b + 225))] (by decide +kernel) (Nat.le_of_ble_eq_true rfl) rfl (fun Z hl ok => ?_)
  clear hl
  exact vMo_peek ok hm r (by rw [hr]; rfl)
theorem vMo_isSmall {Z : Cx} {G : Gx} {b : Nat} {XX YY : Nat → Obj} {v0 : Int32} (ok : OK Z G b cX12_isSmall 1 0 RX12 (some .boolean)) : VO Z G b 1 (fun (r : Int32) => QX Z b (qI G b r (mx XX YY))) (mx XX YY) 0 [some (.int v0)] [] ((fMo_isSmall v0).bind some) := by
  unfold fMo_isSmall
  refine r_iload_n (pc := 0) ok dX12_isSmall_0 rfl ?_
  refine r_bipush (pc := 1) ok (97 : Int32) dX12_isSmall_1 cb_97 ?_
  refine r_icmp_lt (pc := 3) ok 16 dX12_isSmall_3 rfl (fun _ => ?_) (fun _ => ?_)
  · refine r_iconst (pc := 16) ok (0 : Int32) dX12_isSmall_16 ci_0 ?_
    exact r_zret (pc := 17) ok dX12_isSmall_17 za_0 rfl
  · refine r_iload_n (pc := 6) ok dX12_isSmall_6 rfl ?_
    refine r_bipush (pc := 7) ok (122 : Int32) dX12_isSmall_7 cb_122 ?_
    refine r_icmp_gt (pc := 9) ok 16 dX12_isSmall_9 rfl (fun _ => ?_) (fun _ => ?_)
    · refine r_iconst (pc := 16) ok (0 : Int32) dX12_isSmall_16 ci_0 ?_
      exact r_zret (pc := 17) ok dX12_isSmall_17 za_0 rfl
    · refine r_iconst (pc := 12) ok (1 : Int32) dX12_isSmall_12 ci_1 ?_
      refine r_goto (pc := 13) ok 17 dX12_isSmall_13 rfl ?_
      exact r_zret (pc := 17) ok dX12_isSmall_17 za_1 rfl
theorem tMo_isSmall {l : Launch} {G : Gx} {b : Nat} {XX YY : Nat → Obj} {v0 : Int32} {r : Int32} (hr : fMo_isSmall v0 = some r) : MetG l G b yX12_isSmall cX12_isSmall 1 (some .boolean) 0 [.int v0] (mx XX YY) (qI G b r (mx XX YY)) := by
  refine met_start [some (.int v0)] (by decide +kernel) (Nat.le_of_ble_eq_true rfl) rfl (fun Z hl ok => ?_)
  clear hl
  exact vMo_isSmall ok r (by rw [hr]; rfl)
theorem vMo_isDigit {Z : Cx} {G : Gx} {b : Nat} {XX YY : Nat → Obj} {v0 : Int32} (ok : OK Z G b cX12_isDigit 1 0 RX12 (some .boolean)) : VO Z G b 1 (fun (r : Int32) => QX Z b (qI G b r (mx XX YY))) (mx XX YY) 0 [some (.int v0)] [] ((fMo_isDigit v0).bind some) := by
  unfold fMo_isDigit
  refine r_iload_n (pc := 0) ok dX12_isDigit_0 rfl ?_
  refine r_bipush (pc := 1) ok (48 : Int32) dX12_isDigit_1 cb_48 ?_
  refine r_icmp_lt (pc := 3) ok 16 dX12_isDigit_3 rfl (fun _ => ?_) (fun _ => ?_)
  · refine r_iconst (pc := 16) ok (0 : Int32) dX12_isDigit_16 ci_0 ?_
    exact r_zret (pc := 17) ok dX12_isDigit_17 za_0 rfl
  · refine r_iload_n (pc := 6) ok dX12_isDigit_6 rfl ?_
    refine r_bipush (pc := 7) ok (57 : Int32) dX12_isDigit_7 cb_57 ?_
    refine r_icmp_gt (pc := 9) ok 16 dX12_isDigit_9 rfl (fun _ => ?_) (fun _ => ?_)
    · refine r_iconst (pc := 16) ok (0 : Int32) dX12_isDigit_16 ci_0 ?_
      exact r_zret (pc := 17) ok dX12_isDigit_17 za_0 rfl
    · refine r_iconst (pc := 12) ok (1 : Int32) dX12_isDigit_12 ci_1 ?_
      refine r_goto (pc := 13) ok 17 dX12_isDigit_13 rfl ?_
      exact r_zret (pc := 17) ok dX12_isDigit_17 za_1 rfl
theorem tMo_isDigit {l : Launch} {G : Gx} {b : Nat} {XX YY : Nat → Obj} {v0 : Int32} {r : Int32} (hr : fMo_isDigit v0 = some r) : MetG l G b yX12_isDigit cX12_isDigit 1 (some .boolean) 0 [.int v0] (mx XX YY) (qI G b r (mx XX YY)) := by
  refine met_start [some (.int v0)] (by decide +kernel) (Nat.le_of_ble_eq_true rfl) rfl (fun Z hl ok => ?_)
  clear hl
  exact vMo_isDigit ok r (by rw [hr]; rfl)
theorem wMo_next_L0 {Z : Cx} {G : Gx} {b : Nat} {XX YY : Nat → Obj} (ok : OK Z G b cX12_next 4 1 RX12 none) {K : ((Obj) ⊕ (Obj)) → Option (Obj)} (hc : ∀ (a : Obj), VO Z G b 4 (fun (r : Obj) => QX Z b (qV G b (mx XX (va_up YY 225 r)))) (mx XX (va_up YY 225 a)) 0 [some (.ref (b + 225)), none, none, none] [] (K (.inl a))) (hx : ∀ (e : Obj), VO Z G b 4 (fun (r : Obj) => QX Z b (qV G b (mx XX (va_up YY 225 r)))) (mx XX (va_up YY 225 e)) 31 [some (.ref (b + 225)), none, none, none] [] (K (.inr e))) : ∀ (a : Obj), VO Z G b 4 (fun (r : Obj) => QX Z b (qV G b (mx XX (va_up YY 225 r)))) (mx XX (va_up YY 225 a)) 0 [some (.ref (b + 225)), none, none, none] [] ((fMo_next_L0 a).bind K) := by
  intro a
  unfold fMo_next_L0
  refine r_aload_n (pc := 0) ok dX12_next_0 rfl ?_
  refine k_I (pc := 1) (fun r1 => r1) (fun r1 => mx XX (va_up YY 225 a)) (fun r1 hr_ => c_V (n := 0) ok cls12 sh_225 rfl ml_Mo_151 wv_X12_peek yk_X12_peek rfl (Nat.le_of_ble_eq_true rfl) (Nat.le_of_ble_eq_true rfl) (tMo_peek (va_up_self _ _ _) hr_) rfl (Nat.le_of_ble_eq_true rfl) dX12_next_1) (fun r1 => ?_)
  refine r_bipush (pc := 4) ok (32 : Int32) dX12_next_4 cb_32 ?_
  refine r_icmp_eq (pc := 6) ok 18 dX12_next_6 rfl (fun _ => ?_) (fun _ => ?_)
  · refine r_aload_n (pc := 18) ok dX12_next_18 rfl ?_
    refine r_dup (pc := 19) ok dX12_next_19 rfl ?_
    refine r_getI (pc := 20) ok cls12 sh_225 (k := 4) rfl (Nat.le_of_ble_eq_true rfl) (mx_r (by decide) (va_up_self _ _ _)) dX12_next_20 fl_Mo_21 ?_
    refine r_iconst (pc := 23) ok (1 : Int32) dX12_next_23 ci_1 ?_
    refine r_iadd (pc := 24) ok dX12_next_24 ?_
    refine r_putI (pc := 25) ok cls12 sh_225 (k := 4) rfl (Nat.le_of_ble_eq_true rfl) (fun s_ => mx XX (va_up YY 225 s_)) (pm_r _ _).1 (pm_r _ _).2 rfl rfl rfl dX12_next_25 fl_Mo_21 (fun s2 => ?_)
    refine r_goto (pc := 28) ok 0 dX12_next_28 rfl ?_
    exact hc s2
  · refine r_aload_n (pc := 9) ok dX12_next_9 rfl ?_
    refine k_I (pc := 10) (fun r3 => r3) (fun r3 => mx XX (va_up YY 225 a)) (fun r3 hr_ => c_V (n := 0) ok cls12 sh_225 rfl ml_Mo_151 wv_X12_peek yk_X12_peek rfl (Nat.le_of_ble_eq_true rfl) (Nat.le_of_ble_eq_true rfl) (tMo_peek (va_up_self _ _ _) hr_) rfl (Nat.le_of_ble_eq_true rfl) dX12_next_10) (fun r3 => ?_)
    refine r_bipush (pc := 13) ok (10 : Int32) dX12_next_13 cb_10 ?_
    refine r_icmp_ne (pc := 15) ok 31 dX12_next_15 rfl (fun _ => ?_) (fun _ => ?_)
    · refine r_aload_n (pc := 18) ok dX12_next_18 rfl ?_
      refine r_dup (pc := 19) ok dX12_next_19 rfl ?_
      refine r_getI (pc := 20) ok cls12 sh_225 (k := 4) rfl (Nat.le_of_ble_eq_true rfl) (mx_r (by decide) (va_up_self _ _ _)) dX12_next_20 fl_Mo_21 ?_
      refine r_iconst (pc := 23) ok (1 : Int32) dX12_next_23 ci_1 ?_
      refine r_iadd (pc := 24) ok dX12_next_24 ?_
      refine r_putI (pc := 25) ok cls12 sh_225 (k := 4) rfl (Nat.le_of_ble_eq_true rfl) (fun s_ => mx XX (va_up YY 225 s_)) (pm_r _ _).1 (pm_r _ _).2 rfl rfl rfl dX12_next_25 fl_Mo_21 (fun s4 => ?_)
      refine r_goto (pc := 28) ok 0 dX12_next_28 rfl ?_
      exact hc s4
    · exact hx a
theorem wMo_next_J145 {Z : Cx} {G : Gx} {b : Nat} {XX YY : Nat → Obj} {m : Obj} {v1 : Int32} {k1 : Int32} (ok : OK Z G b cX12_next 4 1 RX12 none) : VO Z G b 4 (fun (r : Obj) => QX Z b (qV G b (mx XX (va_up YY 225 r)))) (mx XX (va_up YY 225 m)) 145 [some (.ref (b + 225)), some (.int v1), none, none] [.int k1, .ref (b + 225)] ((fMo_next_J145 m v1 k1).bind some) := by
  unfold fMo_next_J145
  refine r_putI (pc := 145) ok cls12 sh_225 (k := 11) rfl (Nat.le_of_ble_eq_true rfl) (fun s_ => mx XX (va_up YY 225 s_)) (pm_r _ _).1 (pm_r _ _).2 rfl rfl rfl dX12_next_145 fl_Mo_161 (fun s11 => ?_)
  refine r_aload_n (pc := 148) ok dX12_next_148 rfl ?_
  refine r_iload_n (pc := 149) ok dX12_next_149 rfl ?_
  refine r_putI (pc := 150) ok cls12 sh_225 (k := 14) rfl (Nat.le_of_ble_eq_true rfl) (fun s_ => mx XX (va_up YY 225 s_)) (pm_r _ _).1 (pm_r _ _).2 rfl rfl rfl dX12_next_150 fl_Mo_171 (fun s12 => ?_)
  refine r_aload_n (pc := 153) ok dX12_next_153 rfl ?_
  refine r_dup (pc := 154) ok dX12_next_154 rfl ?_
  refine r_getI (pc := 155) ok cls12 sh_225 (k := 4) rfl (Nat.le_of_ble_eq_true rfl) (mx_r (by decide) (va_up_self _ _ _)) dX12_next_155 fl_Mo_21 ?_
  refine r_iconst (pc := 158) ok (1 : Int32) dX12_next_158 ci_1 ?_
  refine r_iadd (pc := 159) ok dX12_next_159 ?_
  refine r_putI (pc := 160) ok cls12 sh_225 (k := 4) rfl (Nat.le_of_ble_eq_true rfl) (fun s_ => mx XX (va_up YY 225 s_)) (pm_r _ _).1 (pm_r _ _).2 rfl rfl rfl dX12_next_160 fl_Mo_21 (fun s13 => ?_)
  exact r_vret (pc := 163) ok dX12_next_163 rfl
theorem wMo_next_J140 {Z : Cx} {G : Gx} {b : Nat} {XX YY : Nat → Obj} {m : Obj} {v1 : Int32} (ok : OK Z G b cX12_next 4 1 RX12 none) : VO Z G b 4 (fun (r : Obj) => QX Z b (qV G b (mx XX (va_up YY 225 r)))) (mx XX (va_up YY 225 m)) 140 [some (.ref (b + 225)), some (.int v1), none, none] [.ref (b + 225)] ((fMo_next_J140 m v1).bind some) := by
  unfold fMo_next_J140
  refine r_iconst (pc := 140) ok (3 : Int32) dX12_next_140 ci_3 ?_
  refine r_goto (pc := 141) ok 145 dX12_next_141 rfl ?_
  exact wMo_next_J145 ok
theorem wMo_next_J144 {Z : Cx} {G : Gx} {b : Nat} {XX YY : Nat → Obj} {m : Obj} {v1 : Int32} (ok : OK Z G b cX12_next 4 1 RX12 none) : VO Z G b 4 (fun (r : Obj) => QX Z b (qV G b (mx XX (va_up YY 225 r)))) (mx XX (va_up YY 225 m)) 144 [some (.ref (b + 225)), some (.int v1), none, none] [.ref (b + 225)] ((fMo_next_J144 m v1).bind some) := by
  unfold fMo_next_J144
  refine r_iconst (pc := 144) ok (4 : Int32) dX12_next_144 ci_4 ?_
  exact wMo_next_J145 ok
theorem wMo_next_J275 {Z : Cx} {G : Gx} {b : Nat} {XX YY : Nat → Obj} {m : Obj} {v2 : Int32} {v3 : Int32} (ok : OK Z G b cX12_next 4 1 RX12 none) {K : ((Int32 × Obj) ⊕ (Int32 × Obj)) → Option (Obj)} (hc : ∀ (a : Int32 × Obj), VO Z G b 4 (fun (r : Obj) => QX Z b (qV G b (mx XX (va_up YY 225 r)))) (mx XX (va_up YY 225 a.2)) 181 [some (.ref (b + 225)), none, some (.int v2), some (.int a.1)] [] (K (.inl a))) (hx : ∀ (e : Int32 × Obj), VO Z G b 4 (fun (r : Obj) => QX Z b (qV G b (mx XX (va_up YY 225 r)))) (mx XX (va_up YY 225 e.2)) 298 [some (.ref (b + 225)), none, some (.int v2), some (.int e.1)] [] (K (.inr e))) : VO Z G b 4 (fun (r : Obj) => QX Z b (qV G b (mx XX (va_up YY 225 r)))) (mx XX (va_up YY 225 m)) 275 [some (.ref (b + 225)), none, some (.int v2), some (.int v3)] [] ((fMo_next_J275 m v3).bind K) := by
  unfold fMo_next_J275
  refine r_aload_n (pc := 275) ok dX12_next_275 rfl ?_
  refine r_dup (pc := 276) ok dX12_next_276 rfl ?_
  refine r_getI (pc := 277) ok cls12 sh_225 (k := 13) rfl (Nat.le_of_ble_eq_true rfl) (mx_r (by decide) (va_up_self _ _ _)) dX12_next_277 fl_Mo_158 ?_
  refine r_iconst (pc := 280) ok (1 : Int32) dX12_next_280 ci_1 ?_
  refine r_iadd (pc := 281) ok dX12_next_281 ?_
  refine r_putI (pc := 282) ok cls12 sh_225 (k := 13) rfl (Nat.le_of_ble_eq_true rfl) (fun s_ => mx XX (va_up YY 225 s_)) (pm_r _ _).1 (pm_r _ _).2 rfl rfl rfl dX12_next_282 fl_Mo_158 (fun s21 => ?_)
  refine r_aload_n (pc := 285) ok dX12_next_285 rfl ?_
  refine r_dup (pc := 286) ok dX12_next_286 rfl ?_
  refine r_getI (pc := 287) ok cls12 sh_225 (k := 4) rfl (Nat.le_of_ble_eq_true rfl) (mx_r (by decide) (va_up_self _ _ _)) dX12_next_287 fl_Mo_21 ?_
  refine r_iconst (pc := 290) ok (1 : Int32) dX12_next_290 ci_1 ?_
  refine r_iadd (pc := 291) ok dX12_next_291 ?_
  refine r_putI (pc := 292) ok cls12 sh_225 (k := 4) rfl (Nat.le_of_ble_eq_true rfl) (fun s_ => mx XX (va_up YY 225 s_)) (pm_r _ _).1 (pm_r _ _).2 rfl rfl rfl dX12_next_292 fl_Mo_21 (fun s22 => ?_)
  refine r_goto (pc := 295) ok 181 dX12_next_295 rfl ?_
  exact hc (v3, s22)
theorem wMo_next_J248 {Z : Cx} {G : Gx} {b : Nat} {XX YY : Nat → Obj} {m : Obj} {v2 : Int32} {v3 : Int32} (ok : OK Z G b cX12_next 4 1 RX12 none) {K : ((Int32 × Obj) ⊕ (Int32 × Obj)) → Option (Obj)} (hc : ∀ (a : Int32 × Obj), VO Z G b 4 (fun (r : Obj) => QX Z b (qV G b (mx XX (va_up YY 225 r)))) (mx XX (va_up YY 225 a.2)) 181 [some (.ref (b + 225)), none, some (.int v2), some (.int a.1)] [] (K (.inl a))) (hx : ∀ (e : Int32 × Obj), VO Z G b 4 (fun (r : Obj) => QX Z b (qV G b (mx XX (va_up YY 225 r)))) (mx XX (va_up YY 225 e.2)) 298 [some (.ref (b + 225)), none, some (.int v2), some (.int e.1)] [] (K (.inr e))) : VO Z G b 4 (fun (r : Obj) => QX Z b (qV G b (mx XX (va_up YY 225 r)))) (mx XX (va_up YY 225 m)) 248 [some (.ref (b + 225)), none, some (.int v2), some (.int v3)] [] ((fMo_next_J248 m v3).bind K) := by
  unfold fMo_next_J248
  refine r_aload_n (pc := 248) ok dX12_next_248 rfl ?_
  refine r_getI (pc := 249) ok cls12 sh_225 (k := 13) rfl (Nat.le_of_ble_eq_true rfl) (mx_r (by decide) (va_up_self _ _ _)) dX12_next_249 fl_Mo_158 ?_
  refine r_iconst (pc := 252) ok (3 : Int32) dX12_next_252 ci_3 ?_
  refine r_icmp_ge (pc := 253) ok 275 dX12_next_253 rfl (fun _ => ?_) (fun _ => ?_)
  · exact wMo_next_J275 ok (K := K) hc hx
  · refine r_aload_n (pc := 256) ok dX12_next_256 rfl ?_
    refine r_bipush (pc := 257) ok (10 : Int32) dX12_next_257 cb_10 ?_
    refine r_aload_n (pc := 259) ok dX12_next_259 rfl ?_
    refine r_getI (pc := 260) ok cls12 sh_225 (k := 14) rfl (Nat.le_of_ble_eq_true rfl) (mx_r (by decide) (va_up_self _ _ _)) dX12_next_260 fl_Mo_171 ?_
    refine r_imul (pc := 263) ok dX12_next_263 ?_
    refine r_aload_n (pc := 264) ok dX12_next_264 rfl ?_
    refine k_I (pc := 265) (fun r23 => r23) (fun r23 => mx XX (va_up YY 225 m)) (fun r23 hr_ => c_V (n := 0) ok cls12 sh_225 rfl ml_Mo_151 wv_X12_peek yk_X12_peek rfl (Nat.le_of_ble_eq_true rfl) (Nat.le_of_ble_eq_true rfl) (tMo_peek (va_up_self _ _ _) hr_) rfl (Nat.le_of_ble_eq_true rfl) dX12_next_265) (fun r23 => ?_)
    refine r_iadd (pc := 268) ok dX12_next_268 ?_
    refine r_bipush (pc := 269) ok (48 : Int32) dX12_next_269 cb_48 ?_
    refine r_isub (pc := 271) ok dX12_next_271 ?_
    refine r_putI (pc := 272) ok cls12 sh_225 (k := 14) rfl (Nat.le_of_ble_eq_true rfl) (fun s_ => mx XX (va_up YY 225 s_)) (pm_r _ _).1 (pm_r _ _).2 rfl rfl rfl dX12_next_272 fl_Mo_171 (fun s24 => ?_)
    exact wMo_next_J275 ok (K := K) hc hx
theorem wMo_next_J221 {Z : Cx} {G : Gx} {b : Nat} {XX YY : Nat → Obj} {m : Obj} {v2 : Int32} {k0 : Int32} (ok : OK Z G b cX12_next 4 1 RX12 none) {K : ((Int32 × Obj) ⊕ (Int32 × Obj)) → Option (Obj)} (hc : ∀ (a : Int32 × Obj), VO Z G b 4 (fun (r : Obj) => QX Z b (qV G b (mx XX (va_up YY 225 r)))) (mx XX (va_up YY 225 a.2)) 181 [some (.ref (b + 225)), none, some (.int v2), some (.int a.1)] [] (K (.inl a))) (hx : ∀ (e : Int32 × Obj), VO Z G b 4 (fun (r : Obj) => QX Z b (qV G b (mx XX (va_up YY 225 r)))) (mx XX (va_up YY 225 e.2)) 298 [some (.ref (b + 225)), none, some (.int v2), some (.int e.1)] [] (K (.inr e))) : VO Z G b 4 (fun (r : Obj) => QX Z b (qV G b (mx XX (va_up YY 225 r)))) (mx XX (va_up YY 225 m)) 221 [some (.ref (b + 225)), none, some (.int v2), none] [.int k0] ((fMo_next_J221 m k0).bind K) := by
  unfold fMo_next_J221
  refine r_istore_n (pc := 221) ok dX12_next_221 (Nat.le_of_ble_eq_true rfl) rfl ?_
  refine r_aload_n (pc := 222) ok dX12_next_222 rfl ?_
  refine r_getI (pc := 223) ok cls12 sh_225 (k := 13) rfl (Nat.le_of_ble_eq_true rfl) (mx_r (by decide) (va_up_self _ _ _)) dX12_next_223 fl_Mo_158 ?_
  refine r_bipush (pc := 226) ok (8 : Int32) dX12_next_226 cb_8 ?_
  refine r_icmp_ge (pc := 228) ok 248 dX12_next_228 rfl (fun _ => ?_) (fun _ => ?_)
  · exact wMo_next_J248 ok (K := K) hc hx
  · refine r_aload_n (pc := 231) ok dX12_next_231 rfl ?_
    refine r_aload_n (pc := 232) ok dX12_next_232 rfl ?_
    refine r_getJ (pc := 233) ok cls12 sh_225 (k := 17) rfl (Nat.le_of_ble_eq_true rfl) (mx_r (by decide) (va_up_self _ _ _)) dX12_next_233 fl_Mo_174 ?_
    refine r_bipush (pc := 236) ok (8 : Int32) dX12_next_236 cb_8 ?_
    refine r_lshl (pc := 238) ok dX12_next_238 ?_
    refine r_aload_n (pc := 239) ok dX12_next_239 rfl ?_
    refine k_I (pc := 240) (fun r25 => r25) (fun r25 => mx XX (va_up YY 225 m)) (fun r25 hr_ => c_V (n := 0) ok cls12 sh_225 rfl ml_Mo_151 wv_X12_peek yk_X12_peek rfl (Nat.le_of_ble_eq_true rfl) (Nat.le_of_ble_eq_true rfl) (tMo_peek (va_up_self _ _ _) hr_) rfl (Nat.le_of_ble_eq_true rfl) dX12_next_240) (fun r25 => ?_)
    refine r_i2l (pc := 243) ok dX12_next_243 ?_
    refine r_lor (pc := 244) ok dX12_next_244 ?_
    refine r_putJ (pc := 245) ok cls12 sh_225 (k := 17) rfl (Nat.le_of_ble_eq_true rfl) (fun s_ => mx XX (va_up YY 225 s_)) (pm_r _ _).1 (pm_r _ _).2 rfl rfl rfl dX12_next_245 fl_Mo_174 (fun s26 => ?_)
    exact wMo_next_J248 ok (K := K) hc hx
theorem wMo_next_J220 {Z : Cx} {G : Gx} {b : Nat} {XX YY : Nat → Obj} {m : Obj} {v2 : Int32} (ok : OK Z G b cX12_next 4 1 RX12 none) {K : ((Int32 × Obj) ⊕ (Int32 × Obj)) → Option (Obj)} (hc : ∀ (a : Int32 × Obj), VO Z G b 4 (fun (r : Obj) => QX Z b (qV G b (mx XX (va_up YY 225 r)))) (mx XX (va_up YY 225 a.2)) 181 [some (.ref (b + 225)), none, some (.int v2), some (.int a.1)] [] (K (.inl a))) (hx : ∀ (e : Int32 × Obj), VO Z G b 4 (fun (r : Obj) => QX Z b (qV G b (mx XX (va_up YY 225 r)))) (mx XX (va_up YY 225 e.2)) 298 [some (.ref (b + 225)), none, some (.int v2), some (.int e.1)] [] (K (.inr e))) : VO Z G b 4 (fun (r : Obj) => QX Z b (qV G b (mx XX (va_up YY 225 r)))) (mx XX (va_up YY 225 m)) 220 [some (.ref (b + 225)), none, some (.int v2), none] [] ((fMo_next_J220 m).bind K) := by
  unfold fMo_next_J220
  refine r_iconst (pc := 220) ok (0 : Int32) dX12_next_220 ci_0 ?_
  exact wMo_next_J221 ok (K := K) hc hx
theorem wMo_next_J201 {Z : Cx} {G : Gx} {b : Nat} {XX YY : Nat → Obj} {m : Obj} {v2 : Int32} {v3 : Int32} (ok : OK Z G b cX12_next 4 1 RX12 none) {K : ((Int32 × Obj) ⊕ (Int32 × Obj)) → Option (Obj)} (hc : ∀ (a : Int32 × Obj), VO Z G b 4 (fun (r : Obj) => QX Z b (qV G b (mx XX (va_up YY 225 r)))) (mx XX (va_up YY 225 a.2)) 181 [some (.ref (b + 225)), none, some (.int v2), some (.int a.1)] [] (K (.inl a))) (hx : ∀ (e : Int32 × Obj), VO Z G b 4 (fun (r : Obj) => QX Z b (qV G b (mx XX (va_up YY 225 r)))) (mx XX (va_up YY 225 e.2)) 298 [some (.ref (b + 225)), none, some (.int v2), some (.int e.1)] [] (K (.inr e))) : VO Z G b 4 (fun (r : Obj) => QX Z b (qV G b (mx XX (va_up YY 225 r)))) (mx XX (va_up YY 225 m)) 201 [some (.ref (b + 225)), none, some (.int v2), some (.int v3)] [] ((fMo_next_J201 m v2 v3).bind K) := by
  unfold fMo_next_J201
  refine r_iload_n (pc := 201) ok dX12_next_201 rfl ?_
  refine r_if_eq (pc := 202) ok 220 dX12_next_202 rfl (fun _ => ?_) (fun _ => ?_)
  · refine r_lv (lk_s (lk_n (lk_s (lk_n lk_0 _) _) _) _) ?_
    exact wMo_next_J220 ok (K := K) hc hx
  · refine r_aload_n (pc := 205) ok dX12_next_205 rfl ?_
    refine k_I (pc := 206) (fun r27 => r27) (fun r27 => mx XX (va_up YY 225 m)) (fun r27 hr_ => c_V (n := 0) ok cls12 sh_225 rfl ml_Mo_151 wv_X12_peek yk_X12_peek rfl (Nat.le_of_ble_eq_true rfl) (Nat.le_of_ble_eq_true rfl) (tMo_peek (va_up_self _ _ _) hr_) rfl (Nat.le_of_ble_eq_true rfl) dX12_next_206) (fun r27 => ?_)
    refine k_I (pc := 209) (fun r28 => r28) (fun r28 => mx XX (va_up YY 225 m)) (fun r28 hr_ => c_S (n := 1) ok ml_Mo_164 ws_X12_isSmall yk_X12_isSmall rfl (Nat.le_of_ble_eq_true rfl) (Nat.le_of_ble_eq_true rfl) (tMo_isSmall hr_) rfl (Nat.le_of_ble_eq_true rfl) dX12_next_209) (fun r28 => ?_)
    refine r_iload_n (pc := 212) ok dX12_next_212 rfl ?_
    refine r_icmp_ne (pc := 213) ok 220 dX12_next_213 rfl (fun _ => ?_) (fun _ => ?_)
    · refine r_iconst (pc := 216) ok (1 : Int32) dX12_next_216 ci_1 ?_
      refine r_goto (pc := 217) ok 221 dX12_next_217 rfl ?_
      refine r_lv (lk_s (lk_n (lk_s (lk_n lk_0 _) _) _) _) ?_
      exact wMo_next_J221 ok (K := K) hc hx
    · refine r_lv (lk_s (lk_n (lk_s (lk_n lk_0 _) _) _) _) ?_
      exact wMo_next_J220 ok (K := K) hc hx
theorem wMo_next_L181 {Z : Cx} {G : Gx} {b : Nat} {XX YY : Nat → Obj} {v2 : Int32} (ok : OK Z G b cX12_next 4 1 RX12 none) {K : ((Int32 × Obj) ⊕ (Int32 × Obj)) → Option (Obj)} (hc : ∀ (a : Int32 × Obj), VO Z G b 4 (fun (r : Obj) => QX Z b (qV G b (mx XX (va_up YY 225 r)))) (mx XX (va_up YY 225 a.2)) 181 [some (.ref (b + 225)), none, some (.int v2), some (.int a.1)] [] (K (.inl a))) (hx : ∀ (e : Int32 × Obj), VO Z G b 4 (fun (r : Obj) => QX Z b (qV G b (mx XX (va_up YY 225 r)))) (mx XX (va_up YY 225 e.2)) 298 [some (.ref (b + 225)), none, some (.int v2), some (.int e.1)] [] (K (.inr e))) : ∀ (a : Int32 × Obj), VO Z G b 4 (fun (r : Obj) => QX Z b (qV G b (mx XX (va_up YY 225 r)))) (mx XX (va_up YY 225 a.2)) 181 [some (.ref (b + 225)), none, some (.int v2), some (.int a.1)] [] ((fMo_next_L181 v2 a).bind K) := by
  intro a
  unfold fMo_next_L181
  refine r_aload_n (pc := 181) ok dX12_next_181 rfl ?_
  refine k_I (pc := 182) (fun r17 => r17) (fun r17 => mx XX (va_up YY 225 a.2)) (fun r17 hr_ => c_V (n := 0) ok cls12 sh_225 rfl ml_Mo_151 wv_X12_peek yk_X12_peek rfl (Nat.le_of_ble_eq_true rfl) (Nat.le_of_ble_eq_true rfl) (tMo_peek (va_up_self _ _ _) hr_) rfl (Nat.le_of_ble_eq_true rfl) dX12_next_182) (fun r17 => ?_)
  refine k_I (pc := 185) (fun r18 => r18) (fun r18 => mx XX (va_up YY 225 a.2)) (fun r18 hr_ => c_S (n := 1) ok ml_Mo_164 ws_X12_isSmall yk_X12_isSmall rfl (Nat.le_of_ble_eq_true rfl) (Nat.le_of_ble_eq_true rfl) (tMo_isSmall hr_) rfl (Nat.le_of_ble_eq_true rfl) dX12_next_185) (fun r18 => ?_)
  refine r_if_ne (pc := 188) ok 201 dX12_next_188 rfl (fun _ => ?_) (fun _ => ?_)
  · refine r_aload_n (pc := 191) ok dX12_next_191 rfl ?_
    refine k_I (pc := 192) (fun r19 => r19) (fun r19 => mx XX (va_up YY 225 a.2)) (fun r19 hr_ => c_V (n := 0) ok cls12 sh_225 rfl ml_Mo_151 wv_X12_peek yk_X12_peek rfl (Nat.le_of_ble_eq_true rfl) (Nat.le_of_ble_eq_true rfl) (tMo_peek (va_up_self _ _ _) hr_) rfl (Nat.le_of_ble_eq_true rfl) dX12_next_192) (fun r19 => ?_)
    refine k_I (pc := 195) (fun r20 => r20) (fun r20 => mx XX (va_up YY 225 a.2)) (fun r20 hr_ => c_S (n := 1) ok ml_Mo_168 ws_X12_isDigit yk_X12_isDigit rfl (Nat.le_of_ble_eq_true rfl) (Nat.le_of_ble_eq_true rfl) (tMo_isDigit hr_) rfl (Nat.le_of_ble_eq_true rfl) dX12_next_195) (fun r20 => ?_)
    refine r_if_eq (pc := 198) ok 298 dX12_next_198 rfl (fun _ => ?_) (fun _ => ?_)
    · exact hx (a.1, a.2)
    · exact wMo_next_J201 ok (K := K) hc hx
  · exact wMo_next_J201 ok (K := K) hc hx
theorem wMo_next_J317 {Z : Cx} {G : Gx} {b : Nat} {XX YY : Nat → Obj} {m : Obj} {v2 : Int32} {k1 : Int32} {k2 : Int32} (ok : OK Z G b cX12_next 4 1 RX12 none) : VO Z G b 4 (fun (r : Obj) => QX Z b (qV G b (mx XX (va_up YY 225 r)))) (mx XX (va_up YY 225 m)) 317 [none, none, some (.int v2), none] [.int k2, .int k1, .ref (b + 225)] ((fMo_next_J317 m v2 k1 k2).bind some) := by
  unfold fMo_next_J317
  refine r_icmp_le (pc := 317) ok 324 dX12_next_317 rfl (fun _ => ?_) (fun _ => ?_)
  · refine r_iload_n (pc := 324) ok dX12_next_324 rfl ?_
    refine r_if_eq (pc := 325) ok 332 dX12_next_325 rfl (fun _ => ?_) (fun _ => ?_)
    · refine r_iconst (pc := 332) ok (2 : Int32) dX12_next_332 ci_2 ?_
      refine r_putI (pc := 333) ok cls12 sh_225 (k := 11) rfl (Nat.le_of_ble_eq_true rfl) (fun s_ => mx XX (va_up YY 225 s_)) (pm_r _ _).1 (pm_r _ _).2 rfl rfl rfl dX12_next_333 fl_Mo_161 (fun s31 => ?_)
      exact r_vret (pc := 336) ok dX12_next_336 rfl
    · refine r_iconst (pc := 328) ok (1 : Int32) dX12_next_328 ci_1 ?_
      refine r_goto (pc := 329) ok 333 dX12_next_329 rfl ?_
      refine r_putI (pc := 333) ok cls12 sh_225 (k := 11) rfl (Nat.le_of_ble_eq_true rfl) (fun s_ => mx XX (va_up YY 225 s_)) (pm_r _ _).1 (pm_r _ _).2 rfl rfl rfl dX12_next_333 fl_Mo_161 (fun s32 => ?_)
      exact r_vret (pc := 336) ok dX12_next_336 rfl
  · refine r_iconst (pc := 320) ok (4 : Int32) dX12_next_320 ci_4 ?_
    refine r_goto (pc := 321) ok 333 dX12_next_321 rfl ?_
    refine r_putI (pc := 333) ok cls12 sh_225 (k := 11) rfl (Nat.le_of_ble_eq_true rfl) (fun s_ => mx XX (va_up YY 225 s_)) (pm_r _ _).1 (pm_r _ _).2 rfl rfl rfl dX12_next_333 fl_Mo_161 (fun s33 => ?_)
    exact r_vret (pc := 336) ok dX12_next_336 rfl
theorem wMo_next_J164 {Z : Cx} {G : Gx} {b : Nat} {XX YY : Nat → Obj} {m : Obj} {v1 : Int32} (ok : OK Z G b cX12_next 4 1 RX12 none) : VO Z G b 4 (fun (r : Obj) => QX Z b (qV G b (mx XX (va_up YY 225 r)))) (mx XX (va_up YY 225 m)) 164 [some (.ref (b + 225)), some (.int v1), none, none] [] ((fMo_next_J164 m v1).bind some) := by
  unfold fMo_next_J164
  refine r_iload_n (pc := 164) ok dX12_next_164 rfl ?_
  refine k_I (pc := 165) (fun r14 => r14) (fun r14 => mx XX (va_up YY 225 m)) (fun r14 hr_ => c_S (n := 1) ok ml_Mo_164 ws_X12_isSmall yk_X12_isSmall rfl (Nat.le_of_ble_eq_true rfl) (Nat.le_of_ble_eq_true rfl) (tMo_isSmall hr_) rfl (Nat.le_of_ble_eq_true rfl) dX12_next_165) (fun r14 => ?_)
  refine r_istore_n (pc := 168) ok dX12_next_168 (Nat.le_of_ble_eq_true rfl) rfl ?_
  refine r_iconst (pc := 169) ok (1 : Int32) dX12_next_169 ci_1 ?_
  refine r_istore_n (pc := 170) ok dX12_next_170 (Nat.le_of_ble_eq_true rfl) rfl ?_
  refine r_aload_n (pc := 171) ok dX12_next_171 rfl ?_
  refine r_lconst (pc := 172) ok (0 : Int64) dX12_next_172 (by decide +kernel) ?_
  refine r_putJ (pc := 173) ok cls12 sh_225 (k := 17) rfl (Nat.le_of_ble_eq_true rfl) (fun s_ => mx XX (va_up YY 225 s_)) (pm_r _ _).1 (pm_r _ _).2 rfl rfl rfl dX12_next_173 fl_Mo_174 (fun s15 => ?_)
  refine r_aload_n (pc := 176) ok dX12_next_176 rfl ?_
  refine r_iconst (pc := 177) ok (0 : Int32) dX12_next_177 ci_0 ?_
  refine r_putI (pc := 178) ok cls12 sh_225 (k := 14) rfl (Nat.le_of_ble_eq_true rfl) (fun s_ => mx XX (va_up YY 225 s_)) (pm_r _ _).1 (pm_r _ _).2 rfl rfl rfl dX12_next_178 fl_Mo_171 (fun s16 => ?_)
  refine r_lv (lk_s (lk_n (lk_s (lk_s lk_0 _) _) _) _) ?_
  refine r_iter (P := fun (a181 : Int32 × Obj) o => VO Z G b 4 (fun (r : Obj) => QX Z b (qV G b (mx XX (va_up YY 225 r)))) (mx XX (va_up YY 225 a181.2)) 181 [some (.ref (b + 225)), none, some (.int r14), some (.int a181.1)] [] o) (E := fun (e_181 : Int32 × Obj) o => VO Z G b 4 (fun (r : Obj) => QX Z b (qV G b (mx XX (va_up YY 225 r)))) (mx XX (va_up YY 225 e_181.2)) 298 [some (.ref (b + 225)), none, some (.int r14), some (.int e_181.1)] [] o) (fun _ => r_none) (fun K hc hx => wMo_next_L181 ok (K := K) hc hx) (fun e29 => ?_) FU ((1 : Int32), s16)
  refine r_aload_n (pc := 298) ok dX12_next_298 rfl ?_
  refine r_iload_n (pc := 299) ok dX12_next_299 rfl ?_
  refine r_if_eq (pc := 300) ok 320 dX12_next_300 rfl (fun _ => ?_) (fun _ => ?_)
  · refine r_iconst (pc := 320) ok (4 : Int32) dX12_next_320 ci_4 ?_
    refine r_goto (pc := 321) ok 333 dX12_next_321 rfl ?_
    refine r_putI (pc := 333) ok cls12 sh_225 (k := 11) rfl (Nat.le_of_ble_eq_true rfl) (fun s_ => mx XX (va_up YY 225 s_)) (pm_r _ _).1 (pm_r _ _).2 rfl rfl rfl dX12_next_333 fl_Mo_161 (fun s30 => ?_)
    exact r_vret (pc := 336) ok dX12_next_336 rfl
  · refine r_aload_n (pc := 303) ok dX12_next_303 rfl ?_
    refine r_getI (pc := 304) ok cls12 sh_225 (k := 13) rfl (Nat.le_of_ble_eq_true rfl) (mx_r (by decide) (va_up_self _ _ _)) dX12_next_304 fl_Mo_158 ?_
    refine r_iload_n (pc := 307) ok dX12_next_307 rfl ?_
    refine r_if_eq (pc := 308) ok 316 dX12_next_308 rfl (fun _ => ?_) (fun _ => ?_)
    · refine r_iconst (pc := 316) ok (3 : Int32) dX12_next_316 ci_3 ?_
      refine r_lv (lk_n (lk_n (lk_s (lk_n lk_0 _) _) _) _) ?_
      exact wMo_next_J317 ok
    · refine r_bipush (pc := 311) ok (8 : Int32) dX12_next_311 cb_8 ?_
      refine r_goto (pc := 313) ok 317 dX12_next_313 rfl ?_
      refine r_lv (lk_n (lk_n (lk_s (lk_n lk_0 _) _) _) _) ?_
      exact wMo_next_J317 ok
theorem wMo_next_J80 {Z : Cx} {G : Gx} {b : Nat} {XX YY : Nat → Obj} {m : Obj} (ok : OK Z G b cX12_next 4 1 RX12 none) : VO Z G b 4 (fun (r : Obj) => QX Z b (qV G b (mx XX (va_up YY 225 r)))) (mx XX (va_up YY 225 m)) 80 [some (.ref (b + 225)), none, none, none] [] ((fMo_next_J80 m).bind some) := by
  unfold fMo_next_J80
  refine r_aload_n (pc := 80) ok dX12_next_80 rfl ?_
  refine k_I (pc := 81) (fun r8 => r8) (fun r8 => mx XX (va_up YY 225 m)) (fun r8 hr_ => c_V (n := 0) ok cls12 sh_225 rfl ml_Mo_151 wv_X12_peek yk_X12_peek rfl (Nat.le_of_ble_eq_true rfl) (Nat.le_of_ble_eq_true rfl) (tMo_peek (va_up_self _ _ _) hr_) rfl (Nat.le_of_ble_eq_true rfl) dX12_next_81) (fun r8 => ?_)
  refine r_istore_n (pc := 84) ok dX12_next_84 (Nat.le_of_ble_eq_true rfl) rfl ?_
  refine r_iload_n (pc := 85) ok dX12_next_85 rfl ?_
  refine r_if_ge (pc := 86) ok 95 dX12_next_86 rfl (fun _ => ?_) (fun _ => ?_)
  · refine r_iload_n (pc := 95) ok dX12_next_95 rfl ?_
    refine k_I (pc := 96) (fun r9 => r9) (fun r9 => mx XX (va_up YY 225 m)) (fun r9 hr_ => c_S (n := 1) ok ml_Mo_164 ws_X12_isSmall yk_X12_isSmall rfl (Nat.le_of_ble_eq_true rfl) (Nat.le_of_ble_eq_true rfl) (tMo_isSmall hr_) rfl (Nat.le_of_ble_eq_true rfl) dX12_next_96) (fun r9 => ?_)
    refine r_if_ne (pc := 99) ok 164 dX12_next_99 rfl (fun _ => ?_) (fun _ => ?_)
    · refine r_iload_n (pc := 102) ok dX12_next_102 rfl ?_
      refine k_I (pc := 103) (fun r10 => r10) (fun r10 => mx XX (va_up YY 225 m)) (fun r10 hr_ => c_S (n := 1) ok ml_Mo_168 ws_X12_isDigit yk_X12_isDigit rfl (Nat.le_of_ble_eq_true rfl) (Nat.le_of_ble_eq_true rfl) (tMo_isDigit hr_) rfl (Nat.le_of_ble_eq_true rfl) dX12_next_103) (fun r10 => ?_)
      refine r_if_ne (pc := 106) ok 164 dX12_next_106 rfl (fun _ => ?_) (fun _ => ?_)
      · refine r_aload_n (pc := 109) ok dX12_next_109 rfl ?_
        refine r_iload_n (pc := 110) ok dX12_next_110 rfl ?_
        refine r_bipush (pc := 111) ok (59 : Int32) dX12_next_111 cb_59 ?_
        refine r_icmp_eq (pc := 113) ok 140 dX12_next_113 rfl (fun _ => ?_) (fun _ => ?_)
        · exact wMo_next_J140 ok
        · refine r_iload_n (pc := 116) ok dX12_next_116 rfl ?_
          refine r_bipush (pc := 117) ok (40 : Int32) dX12_next_117 cb_40 ?_
          refine r_icmp_eq (pc := 119) ok 140 dX12_next_119 rfl (fun _ => ?_) (fun _ => ?_)
          · exact wMo_next_J140 ok
          · refine r_iload_n (pc := 122) ok dX12_next_122 rfl ?_
            refine r_bipush (pc := 123) ok (41 : Int32) dX12_next_123 cb_41 ?_
            refine r_icmp_eq (pc := 125) ok 140 dX12_next_125 rfl (fun _ => ?_) (fun _ => ?_)
            · exact wMo_next_J140 ok
            · refine r_iload_n (pc := 128) ok dX12_next_128 rfl ?_
              refine r_bipush (pc := 129) ok (60 : Int32) dX12_next_129 cb_60 ?_
              refine r_icmp_lt (pc := 131) ok 144 dX12_next_131 rfl (fun _ => ?_) (fun _ => ?_)
              · exact wMo_next_J144 ok
              · refine r_iload_n (pc := 134) ok dX12_next_134 rfl ?_
                refine r_bipush (pc := 135) ok (62 : Int32) dX12_next_135 cb_62 ?_
                refine r_icmp_gt (pc := 137) ok 144 dX12_next_137 rfl (fun _ => ?_) (fun _ => ?_)
                · exact wMo_next_J144 ok
                · exact wMo_next_J140 ok
      · exact wMo_next_J164 ok
    · exact wMo_next_J164 ok
  · refine r_aload_n (pc := 89) ok dX12_next_89 rfl ?_
    refine r_iconst (pc := 90) ok (0 : Int32) dX12_next_90 ci_0 ?_
    refine r_putI (pc := 91) ok cls12 sh_225 (k := 11) rfl (Nat.le_of_ble_eq_true rfl) (fun s_ => mx XX (va_up YY 225 s_)) (pm_r _ _).1 (pm_r _ _).2 rfl rfl rfl dX12_next_91 fl_Mo_161 (fun s34 => ?_)
    exact r_vret (pc := 94) ok dX12_next_94 rfl
theorem vMo_next {Z : Cx} {G : Gx} {b : Nat} {XX YY : Nat → Obj} {m : Obj} (ok : OK Z G b cX12_next 4 1 RX12 none) : VO Z G b 4 (fun (r : Obj) => QX Z b (qV G b (mx XX (va_up YY 225 r)))) (mx XX (va_up YY 225 m)) 0 [some (.ref (b + 225)), none, none, none] [] ((fMo_next m).bind some) := by
  unfold fMo_next
  refine r_iter (P := fun (a0 : Obj) o => VO Z G b 4 (fun (r : Obj) => QX Z b (qV G b (mx XX (va_up YY 225 r)))) (mx XX (va_up YY 225 a0)) 0 [some (.ref (b + 225)), none, none, none] [] o) (E := fun (e_0 : Obj) o => VO Z G b 4 (fun (r : Obj) => QX Z b (qV G b (mx XX (va_up YY 225 r)))) (mx XX (va_up YY 225 e_0)) 31 [some (.ref (b + 225)), none, none, none] [] o) (fun _ => r_none) (fun K hc hx => wMo_next_L0 ok (K := K) hc hx) (fun e5 => ?_) FU m
  refine r_aload_n (pc := 31) ok dX12_next_31 rfl ?_
  refine r_aload_n (pc := 32) ok dX12_next_32 rfl ?_
  refine r_getI (pc := 33) ok cls12 sh_225 (k := 4) rfl (Nat.le_of_ble_eq_true rfl) (mx_r (by decide) (va_up_self _ _ _)) dX12_next_33 fl_Mo_21 ?_
  refine r_putI (pc := 36) ok cls12 sh_225 (k := 12) rfl (Nat.le_of_ble_eq_true rfl) (fun s_ => mx XX (va_up YY 225 s_)) (pm_r _ _).1 (pm_r _ _).2 rfl rfl rfl dX12_next_36 fl_Mo_155 (fun s6 => ?_)
  refine r_aload_n (pc := 39) ok dX12_next_39 rfl ?_
  refine r_iconst (pc := 40) ok (0 : Int32) dX12_next_40 ci_0 ?_
  refine r_putI (pc := 41) ok cls12 sh_225 (k := 13) rfl (Nat.le_of_ble_eq_true rfl) (fun s_ => mx XX (va_up YY 225 s_)) (pm_r _ _).1 (pm_r _ _).2 rfl rfl rfl dX12_next_41 fl_Mo_158 (fun s7 => ?_)
  refine r_aload_n (pc := 44) ok dX12_next_44 rfl ?_
  refine r_getI (pc := 45) ok cls12 sh_225 (k := 3) rfl (Nat.le_of_ble_eq_true rfl) (mx_r (by decide) (va_up_self _ _ _)) dX12_next_45 fl_Mo_18 ?_
  refine r_aload_n (pc := 48) ok dX12_next_48 rfl ?_
  refine r_getI (pc := 49) ok cls12 sh_225 (k := 5) rfl (Nat.le_of_ble_eq_true rfl) (mx_r (by decide) (va_up_self _ _ _)) dX12_next_49 fl_Mo_24 ?_
  refine r_icmp_le (pc := 52) ok 80 dX12_next_52 rfl (fun _ => ?_) (fun _ => ?_)
  · exact wMo_next_J80 ok
  · refine r_aload_n (pc := 55) ok dX12_next_55 rfl ?_
    refine r_getI (pc := 56) ok cls12 sh_225 (k := 4) rfl (Nat.le_of_ble_eq_true rfl) (mx_r (by decide) (va_up_self _ _ _)) dX12_next_56 fl_Mo_21 ?_
    refine r_aload_n (pc := 59) ok dX12_next_59 rfl ?_
    refine r_getI (pc := 60) ok cls12 sh_225 (k := 5) rfl (Nat.le_of_ble_eq_true rfl) (mx_r (by decide) (va_up_self _ _ _)) dX12_next_60 fl_Mo_24 ?_
    refine r_icmp_lt (pc := 63) ok 80 dX12_next_63 rfl (fun _ => ?_) (fun _ => ?_)
    · exact wMo_next_J80 ok
    · refine r_aload_n (pc := 66) ok dX12_next_66 rfl ?_
      refine r_aload_n (pc := 67) ok dX12_next_67 rfl ?_
      refine r_getI (pc := 68) ok cls12 sh_225 (k := 5) rfl (Nat.le_of_ble_eq_true rfl) (mx_r (by decide) (va_up_self _ _ _)) dX12_next_68 fl_Mo_24 ?_
      refine r_putI (pc := 71) ok cls12 sh_225 (k := 12) rfl (Nat.le_of_ble_eq_true rfl) (fun s_ => mx XX (va_up YY 225 s_)) (pm_r _ _).1 (pm_r _ _).2 rfl rfl rfl dX12_next_71 fl_Mo_155 (fun s35 => ?_)
      refine r_aload_n (pc := 74) ok dX12_next_74 rfl ?_
      refine r_iconst (pc := 75) ok (4 : Int32) dX12_next_75 ci_4 ?_
      refine r_putI (pc := 76) ok cls12 sh_225 (k := 11) rfl (Nat.le_of_ble_eq_true rfl) (fun s_ => mx XX (va_up YY 225 s_)) (pm_r _ _).1 (pm_r _ _).2 rfl rfl rfl dX12_next_76 fl_Mo_161 (fun s36 => ?_)
      exact r_vret (pc := 79) ok dX12_next_79 rfl
theorem tMo_next {l : Launch} {G : Gx} {b : Nat} {XX YY : Nat → Obj} {m : Obj} {r : Obj} (hr : fMo_next m = some r) : MetG l G b yX12_next cX12_next 4 none 1 [.ref (b + 225)] (mx XX (va_up YY 225 m)) (qV G b (mx XX (va_up YY 225 r))) := by
  refine met_start [some (.ref (b + 225)), none, none, none] (by decide +kernel) (Nat.le_of_ble_eq_true rfl) rfl (fun Z hl ok => ?_)
  clear hl
  exact vMo_next ok r (by rw [hr]; rfl)
theorem vMo_bad {Z : Cx} {G : Gx} {b : Nat} {XX YY : Nat → Obj} {m : Obj} {v1 : Int32} (ok : OK Z G b cX12_bad 2 0 RX12 (some .boolean)) : VO Z G b 2 (fun (r : Int32 × Obj) => QX Z b (qI G b r.1 (mx XX (va_up YY 225 r.2)))) (mx XX (va_up YY 225 m)) 0 [some (.ref (b + 225)), some (.int v1)] [] ((fMo_bad m v1).bind some) := by
  unfold fMo_bad
  refine r_aload_n (pc := 0) ok dX12_bad_0 rfl ?_
  refine r_iload_n (pc := 1) ok dX12_bad_1 rfl ?_
  refine r_putI (pc := 2) ok cls12 sh_225 (k := 15) rfl (Nat.le_of_ble_eq_true rfl) (fun s_ => mx XX (va_up YY 225 s_)) (pm_r _ _).1 (pm_r _ _).2 rfl rfl rfl dX12_bad_2 fl_Mo_178 (fun s1 => ?_)
  refine r_aload_n (pc := 5) ok dX12_bad_5 rfl ?_
  refine r_aload_n (pc := 6) ok dX12_bad_6 rfl ?_
  refine r_getI (pc := 7) ok cls12 sh_225 (k := 12) rfl (Nat.le_of_ble_eq_true rfl) (mx_r (by decide) (va_up_self _ _ _)) dX12_bad_7 fl_Mo_155 ?_
  refine r_putI (pc := 10) ok cls12 sh_225 (k := 16) rfl (Nat.le_of_ble_eq_true rfl) (fun s_ => mx XX (va_up YY 225 s_)) (pm_r _ _).1 (pm_r _ _).2 rfl rfl rfl dX12_bad_10 fl_Mo_181 (fun s2 => ?_)
  refine r_iconst (pc := 13) ok (0 : Int32) dX12_bad_13 ci_0 ?_
  exact r_zret (pc := 14) ok dX12_bad_14 za_0 rfl
theorem tMo_bad {l : Launch} {G : Gx} {b : Nat} {XX YY : Nat → Obj} {m : Obj} {v1 : Int32} {r : Int32 × Obj} (hr : fMo_bad m v1 = some r) : MetG l G b yX12_bad cX12_bad 2 (some .boolean) 0 [.ref (b + 225), .int v1] (mx XX (va_up YY 225 m)) (qI G b r.1 (mx XX (va_up YY 225 r.2))) := by
  refine met_start [some (.ref (b + 225)), some (.int v1)] (by decide +kernel) (Nat.le_of_ble_eq_true rfl) rfl (fun Z hl ok => ?_)
  clear hl
  exact vMo_bad ok r (by rw [hr]; rfl)
theorem vMo_isWord {Z : Cx} {G : Gx} {b : Nat} {XX YY : Nat → Obj} {m : Obj} {v1 : Int64} (ok : OK Z G b cX12_isWord 3 0 RX12 (some .boolean)) (hm : YY 225 = m) : VO Z G b 3 (fun (r : Int32) => QX Z b (qI G b r (mx XX YY))) (mx XX YY) 0 [some (.ref (b + 225)), some (.long v1), none] [] ((fMo_isWord m v1).bind some) := by
  unfold fMo_isWord
  refine r_aload_n (pc := 0) ok dX12_isWord_0 rfl ?_
  refine r_getI (pc := 1) ok cls12 sh_225 (k := 11) rfl (Nat.le_of_ble_eq_true rfl) (mx_r (by decide) hm) dX12_isWord_1 fl_Mo_161 ?_
  refine r_iconst (pc := 4) ok (1 : Int32) dX12_isWord_4 ci_1 ?_
  refine r_icmp_ne (pc := 5) ok 21 dX12_isWord_5 rfl (fun _ => ?_) (fun _ => ?_)
  · refine r_aload_n (pc := 8) ok dX12_isWord_8 rfl ?_
    refine r_getJ (pc := 9) ok cls12 sh_225 (k := 17) rfl (Nat.le_of_ble_eq_true rfl) (mx_r (by decide) hm) dX12_isWord_9 fl_Mo_174 ?_
    refine r_lload_n (pc := 12) ok dX12_isWord_12 rfl ?_
    refine r_lcmp (pc := 13) ok dX12_isWord_13 ?_
    refine r_if_ne (pc := 14) ok 21 dX12_isWord_14 rfl (fun _ => ?_) (fun _ => ?_)
    · refine r_iconst (pc := 17) ok (1 : Int32) dX12_isWord_17 ci_1 ?_
      refine r_goto (pc := 18) ok 22 dX12_isWord_18 rfl ?_
      exact r_zret (pc := 22) ok dX12_isWord_22 za_1 rfl
    · refine r_iconst (pc := 21) ok (0 : Int32) dX12_isWord_21 ci_0 ?_
      exact r_zret (pc := 22) ok dX12_isWord_22 za_0 rfl
  · refine r_iconst (pc := 21) ok (0 : Int32) dX12_isWord_21 ci_0 ?_
    exact r_zret (pc := 22) ok dX12_isWord_22 za_0 rfl
theorem tMo_isWord {l : Launch} {G : Gx} {b : Nat} {XX YY : Nat → Obj} {m : Obj} {v1 : Int64} (hm : YY 225 = m) {r : Int32} (hr : fMo_isWord m v1 = some r) : MetG l G b yX12_isWord cX12_isWord 3 (some .boolean) 0 [.ref (b + 225), .long v1] (mx XX YY) (qI G b r (mx XX YY)) := by
  refine met_start [some (.ref (b + 225)), some (.long v1), none] (by decide +kernel) (Nat.le_of_ble_eq_true rfl) rfl (fun Z hl ok => ?_)
  clear hl
  exact vMo_isWord ok hm r (by rw [hr]; rfl)
theorem vMo_isSign {Z : Cx} {G : Gx} {b : Nat} {XX YY : Nat → Obj} {m : Obj} {v1 : Int32} (ok : OK Z G b cX12_isSign 2 0 RX12 (some .boolean)) (hm : YY 225 = m) : VO Z G b 2 (fun (r : Int32) => QX Z b (qI G b r (mx XX YY))) (mx XX YY) 0 [some (.ref (b + 225)), some (.int v1)] [] ((fMo_isSign m v1).bind some) := by
  unfold fMo_isSign
  refine r_aload_n (pc := 0) ok dX12_isSign_0 rfl ?_
  refine r_getI (pc := 1) ok cls12 sh_225 (k := 11) rfl (Nat.le_of_ble_eq_true rfl) (mx_r (by decide) hm) dX12_isSign_1 fl_Mo_161 ?_
  refine r_iconst (pc := 4) ok (3 : Int32) dX12_isSign_4 ci_3 ?_
  refine r_icmp_ne (pc := 5) ok 20 dX12_isSign_5 rfl (fun _ => ?_) (fun _ => ?_)
  · refine r_aload_n (pc := 8) ok dX12_isSign_8 rfl ?_
    refine r_getI (pc := 9) ok cls12 sh_225 (k := 14) rfl (Nat.le_of_ble_eq_true rfl) (mx_r (by decide) hm) dX12_isSign_9 fl_Mo_171 ?_
    refine r_iload_n (pc := 12) ok dX12_isSign_12 rfl ?_
    refine r_icmp_ne (pc := 13) ok 20 dX12_isSign_13 rfl (fun _ => ?_) (fun _ => ?_)
    · refine r_iconst (pc := 16) ok (1 : Int32) dX12_isSign_16 ci_1 ?_
      refine r_goto (pc := 17) ok 21 dX12_isSign_17 rfl ?_
      exact r_zret (pc := 21) ok dX12_isSign_21 za_1 rfl
    · refine r_iconst (pc := 20) ok (0 : Int32) dX12_isSign_20 ci_0 ?_
      exact r_zret (pc := 21) ok dX12_isSign_21 za_0 rfl
  · refine r_iconst (pc := 20) ok (0 : Int32) dX12_isSign_20 ci_0 ?_
    exact r_zret (pc := 21) ok dX12_isSign_21 za_0 rfl
theorem tMo_isSign {l : Launch} {G : Gx} {b : Nat} {XX YY : Nat → Obj} {m : Obj} {v1 : Int32} (hm : YY 225 = m) {r : Int32} (hr : fMo_isSign m v1 = some r) : MetG l G b yX12_isSign cX12_isSign 2 (some .boolean) 0 [.ref (b + 225), .int v1] (mx XX YY) (qI G b r (mx XX YY)) := by
  refine met_start [some (.ref (b + 225)), some (.int v1)] (by decide +kernel) (Nat.le_of_ble_eq_true rfl) rfl (fun Z hl ok => ?_)
  clear hl
  exact vMo_isSign ok hm r (by rw [hr]; rfl)
theorem vMo_sign {Z : Cx} {G : Gx} {b : Nat} {XX YY : Nat → Obj} {m : Obj} {v1 : Int32} (ok : OK Z G b cX12_sign 2 2 RX12 (some .boolean)) : VO Z G b 2 (fun (r : Int32 × Obj) => QX Z b (qI G b r.1 (mx XX (va_up YY 225 r.2)))) (mx XX (va_up YY 225 m)) 0 [some (.ref (b + 225)), some (.int v1)] [] ((fMo_sign m v1).bind some) := by
  unfold fMo_sign
  refine r_aload_n (pc := 0) ok dX12_sign_0 rfl ?_
  refine r_iload_n (pc := 1) ok dX12_sign_1 rfl ?_
  refine k_I (pc := 2) (fun r1 => r1) (fun r1 => mx XX (va_up YY 225 m)) (fun r1 hr_ => c_V (n := 1) ok cls12 sh_225 rfl ml_Mo_184 wv_X12_isSign yk_X12_isSign rfl (Nat.le_of_ble_eq_true rfl) (Nat.le_of_ble_eq_true rfl) (tMo_isSign (va_up_self _ _ _) hr_) rfl (Nat.le_of_ble_eq_true rfl) dX12_sign_2) (fun r1 => ?_)
  refine r_if_ne (pc := 5) ok 14 dX12_sign_5 rfl (fun _ => ?_) (fun _ => ?_)
  · refine r_aload_n (pc := 8) ok dX12_sign_8 rfl ?_
    refine r_iconst (pc := 9) ok (1 : Int32) dX12_sign_9 ci_1 ?_
    refine k_I (pc := 10) (fun r2 => r2.1) (fun r2 => mx XX (va_up YY 225 r2.2)) (fun r2 hr_ => c_V (n := 1) ok cls12 sh_225 rfl ml_Mo_187 wv_X12_bad yk_X12_bad rfl (Nat.le_of_ble_eq_true rfl) (Nat.le_of_ble_eq_true rfl) (tMo_bad hr_) rfl (Nat.le_of_ble_eq_true rfl) dX12_sign_10) (fun r2 => ?_)
    exact r_zret (pc := 13) ok dX12_sign_13 rfl rfl
  · refine r_aload_n (pc := 14) ok dX12_sign_14 rfl ?_
    refine k_V (pc := 15)  (fun r3 => mx XX (va_up YY 225 r3)) (fun r3 hr_ => c_V (n := 0) ok cls12 sh_225 rfl ml_Mo_190 wv_X12_next yk_X12_next rfl (Nat.le_of_ble_eq_true rfl) (Nat.le_of_ble_eq_true rfl) (tMo_next hr_) rfl (Nat.le_of_ble_eq_true rfl) dX12_sign_15) (fun r3 => ?_)
    refine r_iconst (pc := 18) ok (1 : Int32) dX12_sign_18 ci_1 ?_
    exact r_zret (pc := 19) ok dX12_sign_19 za_1 rfl
theorem tMo_sign {l : Launch} {G : Gx} {b : Nat} {XX YY : Nat → Obj} {m : Obj} {v1 : Int32} {r : Int32 × Obj} (hr : fMo_sign m v1 = some r) : MetG l G b yX12_sign cX12_sign 2 (some .boolean) 2 [.ref (b + 225), .int v1] (mx XX (va_up YY 225 m)) (qI G b r.1 (mx XX (va_up YY 225 r.2))) := by
  refine met_start [some (.ref (b + 225)), some (.int v1)] (by decide +kernel) (Nat.le_of_ble_eq_true rfl) rfl (fun Z hl ok => ?_)
  clear hl
  exact vMo_sign ok r (by rw [hr]; rfl)
theorem wMo_isName_L16 {Z : Cx} {G : Gx} {b : Nat} {XX YY : Nat → Obj} {m : Obj} (ok : OK Z G b cX12_isName 3 0 RX12 (some .boolean)) (hm : YY 225 = m) {K : ((Int32 × Int32) ⊕ (Int32)) → Option (Int32)} (hc : ∀ (a : Int32 × Int32), VO Z G b 3 (fun (r : Int32) => QX Z b (qI G b r (mx XX YY))) (mx XX YY) 16 [some (.ref (b + 225)), some (.int a.1), some (.int a.2)] [] (K (.inl a))) (hx : ∀ (e : Int32), VO Z G b 3 (fun (r : Int32) => QX Z b (qI G b r (mx XX YY))) (mx XX YY) 52 [none, some (.int e), none] [] (K (.inr e))) : ∀ (a : Int32 × Int32), VO Z G b 3 (fun (r : Int32) => QX Z b (qI G b r (mx XX YY))) (mx XX YY) 16 [some (.ref (b + 225)), some (.int a.1), some (.int a.2)] [] ((fMo_isName_L16 m a).bind K) := by
  intro a
  unfold fMo_isName_L16
  refine r_iload_n (pc := 16) ok dX12_isName_16 rfl ?_
  refine r_bipush (pc := 17) ok (29 : Int32) dX12_isName_17 cb_29 ?_
  refine r_icmp_ge (pc := 19) ok 52 dX12_isName_19 rfl (fun _ => ?_) (fun _ => ?_)
  · refine r_lv (lk_n (lk_s (lk_n lk_0 _) _) _) ?_
    exact hx a.1
  · refine r_iload_n (pc := 22) ok dX12_isName_22 rfl ?_
    refine r_if_eq (pc := 23) ok 44 dX12_isName_23 rfl (fun _ => ?_) (fun _ => ?_)
    · refine r_iconst (pc := 44) ok (0 : Int32) dX12_isName_44 ci_0 ?_
      refine r_istore_n (pc := 45) ok dX12_isName_45 (Nat.le_of_ble_eq_true rfl) rfl ?_
      refine r_iinc (pc := 46) ok (1 : Int32) dX12_isName_46 ci_1 rfl (Nat.le_of_ble_eq_true rfl) rfl ?_
      refine r_goto (pc := 49) ok 16 dX12_isName_49 rfl ?_
      exact hc ((0 : Int32), (a.2 + (1 : Int32)))
    · refine r_aload_n (pc := 26) ok dX12_isName_26 rfl ?_
      refine r_getJ (pc := 27) ok cls12 sh_225 (k := 17) rfl (Nat.le_of_ble_eq_true rfl) (mx_r (by decide) hm) dX12_isName_27 fl_Mo_174 ?_
      refine r_aload_n (pc := 30) ok dX12_isName_30 rfl ?_
      refine r_getR (pc := 31) ok cls12 sh_225 (k := 10) rfl (Nat.le_of_ble_eq_true rfl) rfl dX12_isName_31 fl_Mo_47 ?_
      refine r_iload_n (pc := 34) ok dX12_isName_34 rfl ?_
      refine r_lald (pc := 35) ok sh_231 (j := 6) rfl (mx_r (by decide) hm) dX12_isName_35 (fun i1 => ?_)
      refine r_lcmp (pc := 36) ok dX12_isName_36 ?_
      refine r_if_eq (pc := 37) ok 44 dX12_isName_37 rfl (fun _ => ?_) (fun _ => ?_)
      · refine r_iconst (pc := 44) ok (0 : Int32) dX12_isName_44 ci_0 ?_
        refine r_istore_n (pc := 45) ok dX12_isName_45 (Nat.le_of_ble_eq_true rfl) rfl ?_
        refine r_iinc (pc := 46) ok (1 : Int32) dX12_isName_46 ci_1 rfl (Nat.le_of_ble_eq_true rfl) rfl ?_
        refine r_goto (pc := 49) ok 16 dX12_isName_49 rfl ?_
        exact hc ((0 : Int32), (a.2 + (1 : Int32)))
      · refine r_iconst (pc := 40) ok (1 : Int32) dX12_isName_40 ci_1 ?_
        refine r_goto (pc := 41) ok 45 dX12_isName_41 rfl ?_
        refine r_istore_n (pc := 45) ok dX12_isName_45 (Nat.le_of_ble_eq_true rfl) rfl ?_
        refine r_iinc (pc := 46) ok (1 : Int32) dX12_isName_46 ci_1 rfl (Nat.le_of_ble_eq_true rfl) rfl ?_
        refine r_goto (pc := 49) ok 16 dX12_isName_49 rfl ?_
        exact hc ((1 : Int32), (a.2 + (1 : Int32)))
theorem wMo_isName_J13 {Z : Cx} {G : Gx} {b : Nat} {XX YY : Nat → Obj} {m : Obj} {k0 : Int32} (ok : OK Z G b cX12_isName 3 0 RX12 (some .boolean)) (hm : YY 225 = m) : VO Z G b 3 (fun (r : Int32) => QX Z b (qI G b r (mx XX YY))) (mx XX YY) 13 [some (.ref (b + 225)), none, none] [.int k0] ((fMo_isName_J13 m k0).bind some) := by
  unfold fMo_isName_J13
  refine r_istore_n (pc := 13) ok dX12_isName_13 (Nat.le_of_ble_eq_true rfl) rfl ?_
  refine r_iconst (pc := 14) ok (0 : Int32) dX12_isName_14 ci_0 ?_
  refine r_istore_n (pc := 15) ok dX12_isName_15 (Nat.le_of_ble_eq_true rfl) rfl ?_
  refine r_iter (P := fun (a16 : Int32 × Int32) o => VO Z G b 3 (fun (r : Int32) => QX Z b (qI G b r (mx XX YY))) (mx XX YY) 16 [some (.ref (b + 225)), some (.int a16.1), some (.int a16.2)] [] o) (E := fun (e_16 : Int32) o => VO Z G b 3 (fun (r : Int32) => QX Z b (qI G b r (mx XX YY))) (mx XX YY) 52 [none, some (.int e_16), none] [] o) (fun _ => r_none) (fun K hc hx => wMo_isName_L16 ok hm (K := K) hc hx) (fun e2 => ?_) FU (k0, (0 : Int32))
  refine r_iload_n (pc := 52) ok dX12_isName_52 rfl ?_
  exact r_zret (pc := 53) ok dX12_isName_53 rfl rfl
theorem vMo_isName {Z : Cx} {G : Gx} {b : Nat} {XX YY : Nat → Obj} {m : Obj} (ok : OK Z G b cX12_isName 3 0 RX12 (some .boolean)) (hm : YY 225 = m) : VO Z G b 3 (fun (r : Int32) => QX Z b (qI G b r (mx XX YY))) (mx XX YY) 0 [some (.ref (b + 225)), none, none] [] ((fMo_isName m).bind some) := by
  unfold fMo_isName
  refine r_aload_n (pc := 0) ok dX12_isName_0 rfl ?_
  refine r_getI (pc := 1) ok cls12 sh_225 (k := 11) rfl (Nat.le_of_ble_eq_true rfl) (mx_r (by decide) hm) dX12_isName_1 fl_Mo_161 ?_
  refine r_iconst (pc := 4) ok (1 : Int32) dX12_isName_4 ci_1 ?_
  refine r_icmp_ne (pc := 5) ok 12 dX12_isName_5 rfl (fun _ => ?_) (fun _ => ?_)
  · refine r_iconst (pc := 8) ok (1 : Int32) dX12_isName_8 ci_1 ?_
    refine r_goto (pc := 9) ok 13 dX12_isName_9 rfl ?_
    exact wMo_isName_J13 ok hm
  · refine r_iconst (pc := 12) ok (0 : Int32) dX12_isName_12 ci_0 ?_
    exact wMo_isName_J13 ok hm
theorem tMo_isName {l : Launch} {G : Gx} {b : Nat} {XX YY : Nat → Obj} {m : Obj} (hm : YY 225 = m) {r : Int32} (hr : fMo_isName m = some r) : MetG l G b yX12_isName cX12_isName 3 (some .boolean) 0 [.ref (b + 225)] (mx XX YY) (qI G b r (mx XX YY)) := by
  refine met_start [some (.ref (b + 225)), none, none] (by decide +kernel) (Nat.le_of_ble_eq_true rfl) rfl (fun Z hl ok => ?_)
  clear hl
  exact vMo_isName ok hm r (by rw [hr]; rfl)
theorem vMo_takes {Z : Cx} {G : Gx} {b : Nat} {XX YY : Nat → Obj} {m : Obj} {v1 : Int32} {v2 : Int32} (ok : OK Z G b cX12_takes 3 2 RX12 (some .boolean)) : VO Z G b 3 (fun (r : Int32 × Obj) => QX Z b (qI G b r.1 (mx XX (va_up YY 225 r.2)))) (mx XX (va_up YY 225 m)) 0 [some (.ref (b + 225)), some (.int v1), some (.int v2)] [] ((fMo_takes m v1 v2).bind some) := by
  unfold fMo_takes
  refine r_aload_n (pc := 0) ok dX12_takes_0 rfl ?_
  refine r_getI (pc := 1) ok cls12 sh_225 (k := 11) rfl (Nat.le_of_ble_eq_true rfl) (mx_r (by decide) (va_up_self _ _ _)) dX12_takes_1 fl_Mo_161 ?_
  refine r_iconst (pc := 4) ok (2 : Int32) dX12_takes_4 ci_2 ?_
  refine r_icmp_eq (pc := 5) ok 14 dX12_takes_5 rfl (fun _ => ?_) (fun _ => ?_)
  · refine r_aload_n (pc := 14) ok dX12_takes_14 rfl ?_
    refine r_getI (pc := 15) ok cls12 sh_225 (k := 14) rfl (Nat.le_of_ble_eq_true rfl) (mx_r (by decide) (va_up_self _ _ _)) dX12_takes_15 fl_Mo_171 ?_
    refine r_iload_n (pc := 18) ok dX12_takes_18 rfl ?_
    refine r_iload_n (pc := 19) ok dX12_takes_19 rfl ?_
    refine k_I (pc := 20) (fun r1 => r1) (fun r1 => mx XX (va_up YY 225 m)) (fun r1 hr_ => c_S (n := 3) ok ml_Mo_193 ws_X12_isIn yk_X12_isIn rfl (Nat.le_of_ble_eq_true rfl) (Nat.le_of_ble_eq_true rfl) (tMo_isIn hr_) rfl (Nat.le_of_ble_eq_true rfl) dX12_takes_20) (fun r1 => ?_)
    refine r_if_ne (pc := 23) ok 32 dX12_takes_23 rfl (fun _ => ?_) (fun _ => ?_)
    · refine r_aload_n (pc := 26) ok dX12_takes_26 rfl ?_
      refine r_iconst (pc := 27) ok (2 : Int32) dX12_takes_27 ci_2 ?_
      refine k_I (pc := 28) (fun r2 => r2.1) (fun r2 => mx XX (va_up YY 225 r2.2)) (fun r2 hr_ => c_V (n := 1) ok cls12 sh_225 rfl ml_Mo_187 wv_X12_bad yk_X12_bad rfl (Nat.le_of_ble_eq_true rfl) (Nat.le_of_ble_eq_true rfl) (tMo_bad hr_) rfl (Nat.le_of_ble_eq_true rfl) dX12_takes_28) (fun r2 => ?_)
      exact r_zret (pc := 31) ok dX12_takes_31 rfl rfl
    · refine r_aload_n (pc := 32) ok dX12_takes_32 rfl ?_
      refine r_aload_n (pc := 33) ok dX12_takes_33 rfl ?_
      refine r_getI (pc := 34) ok cls12 sh_225 (k := 14) rfl (Nat.le_of_ble_eq_true rfl) (mx_r (by decide) (va_up_self _ _ _)) dX12_takes_34 fl_Mo_171 ?_
      refine r_putI (pc := 37) ok cls12 sh_225 (k := 18) rfl (Nat.le_of_ble_eq_true rfl) (fun s_ => mx XX (va_up YY 225 s_)) (pm_r _ _).1 (pm_r _ _).2 rfl rfl rfl dX12_takes_37 fl_Mo_197 (fun s3 => ?_)
      refine r_aload_n (pc := 40) ok dX12_takes_40 rfl ?_
      refine k_V (pc := 41)  (fun r4 => mx XX (va_up YY 225 r4)) (fun r4 hr_ => c_V (n := 0) ok cls12 sh_225 rfl ml_Mo_190 wv_X12_next yk_X12_next rfl (Nat.le_of_ble_eq_true rfl) (Nat.le_of_ble_eq_true rfl) (tMo_next hr_) rfl (Nat.le_of_ble_eq_true rfl) dX12_takes_41) (fun r4 => ?_)
      refine r_iconst (pc := 44) ok (1 : Int32) dX12_takes_44 ci_1 ?_
      exact r_zret (pc := 45) ok dX12_takes_45 za_1 rfl
  · refine r_aload_n (pc := 8) ok dX12_takes_8 rfl ?_
    refine r_iconst (pc := 9) ok (1 : Int32) dX12_takes_9 ci_1 ?_
    refine k_I (pc := 10) (fun r5 => r5.1) (fun r5 => mx XX (va_up YY 225 r5.2)) (fun r5 hr_ => c_V (n := 1) ok cls12 sh_225 rfl ml_Mo_187 wv_X12_bad yk_X12_bad rfl (Nat.le_of_ble_eq_true rfl) (Nat.le_of_ble_eq_true rfl) (tMo_bad hr_) rfl (Nat.le_of_ble_eq_true rfl) dX12_takes_10) (fun r5 => ?_)
    exact r_zret (pc := 13) ok dX12_takes_13 rfl rfl
theorem tMo_takes {l : Launch} {G : Gx} {b : Nat} {XX YY : Nat → Obj} {m : Obj} {v1 : Int32} {v2 : Int32} {r : Int32 × Obj} (hr : fMo_takes m v1 v2 = some r) : MetG l G b yX12_takes cX12_takes 3 (some .boolean) 2 [.ref (b + 225), .int v1, .int v2] (mx XX (va_up YY 225 m)) (qI G b r.1 (mx XX (va_up YY 225 r.2))) := by
  refine met_start [some (.ref (b + 225)), some (.int v1), some (.int v2)] (by decide +kernel) (Nat.le_of_ble_eq_true rfl) rfl (fun Z hl ok => ?_)
  clear hl
  exact vMo_takes ok r (by rw [hr]; rfl)
theorem vMo_puts {Z : Cx} {G : Gx} {b : Nat} {XX YY : Nat → Obj} {m : Obj} {v1 : Int32} {v2 : Int32} {v3 : Int32} (ok : OK Z G b cX12_puts 4 3 RX12 (some .boolean)) : VO Z G b 4 (fun (r : Int32 × Obj) => QX Z b (qI G b r.1 (mx XX (va_up YY 225 r.2)))) (mx XX (va_up YY 225 m)) 0 [some (.ref (b + 225)), some (.int v1), some (.int v2), some (.int v3)] [] ((fMo_puts m v1 v2 v3).bind some) := by
  unfold fMo_puts
  refine r_aload_n (pc := 0) ok dX12_puts_0 rfl ?_
  refine r_iload_n (pc := 1) ok dX12_puts_1 rfl ?_
  refine r_iload_n (pc := 2) ok dX12_puts_2 rfl ?_
  refine k_I (pc := 3) (fun r1 => r1.1) (fun r1 => mx XX (va_up YY 225 r1.2)) (fun r1 hr_ => c_V (n := 2) ok cls12 sh_225 rfl ml_Mo_200 wv_X12_takes yk_X12_takes rfl (Nat.le_of_ble_eq_true rfl) (Nat.le_of_ble_eq_true rfl) (tMo_takes hr_) rfl (Nat.le_of_ble_eq_true rfl) dX12_puts_3) (fun r1 => ?_)
  refine r_if_ne (pc := 6) ok 11 dX12_puts_6 rfl (fun _ => ?_) (fun _ => ?_)
  · refine r_iconst (pc := 9) ok (0 : Int32) dX12_puts_9 ci_0 ?_
    exact r_zret (pc := 10) ok dX12_puts_10 za_0 rfl
  · refine r_aload_n (pc := 11) ok dX12_puts_11 rfl ?_
    refine r_getR (pc := 12) ok cls12 sh_225 (k := 7) rfl (Nat.le_of_ble_eq_true rfl) rfl dX12_puts_12 fl_Mo_37 ?_
    refine r_iload_n (pc := 15) ok dX12_puts_15 rfl ?_
    refine r_aload_n (pc := 16) ok dX12_puts_16 rfl ?_
    refine r_getI (pc := 17) ok cls12 sh_225 (k := 18) rfl (Nat.le_of_ble_eq_true rfl) (mx_r (by decide) (va_up_self _ _ _)) dX12_puts_17 fl_Mo_197 ?_
    refine r_iast (pc := 20) ok sh_228 (j := 3) rfl rfl (fun s_ => mx XX (va_up YY 225 s_)) (pm_r _ _).1 (pm_r _ _).2 dX12_puts_20 (fun i2 s3 => ?_)
    refine r_iconst (pc := 21) ok (1 : Int32) dX12_puts_21 ci_1 ?_
    exact r_zret (pc := 22) ok dX12_puts_22 za_1 rfl
theorem tMo_puts {l : Launch} {G : Gx} {b : Nat} {XX YY : Nat → Obj} {m : Obj} {v1 : Int32} {v2 : Int32} {v3 : Int32} {r : Int32 × Obj} (hr : fMo_puts m v1 v2 v3 = some r) : MetG l G b yX12_puts cX12_puts 4 (some .boolean) 3 [.ref (b + 225), .int v1, .int v2, .int v3] (mx XX (va_up YY 225 m)) (qI G b r.1 (mx XX (va_up YY 225 r.2))) := by
  refine met_start [some (.ref (b + 225)), some (.int v1), some (.int v2), some (.int v3)] (by decide +kernel) (Nat.le_of_ble_eq_true rfl) rfl (fun Z hl ok => ?_)
  clear hl
  exact vMo_puts ok r (by rw [hr]; rfl)
theorem wMo_seek_L2 {Z : Cx} {G : Gx} {b : Nat} {XX YY : Nat → Obj} {m : Obj} {v1 : Int32} {v2 : Int32} (ok : OK Z G b cX12_seek 4 0 RX12 (some .int)) (hm : YY 225 = m) {K : ((Int32) ⊕ ((Unit) ⊕ (Int32))) → Option (Int32)} (hc : ∀ (a : Int32), VO Z G b 4 (fun (r : Int32) => QX Z b (qI G b r (mx XX YY))) (mx XX YY) 2 [some (.ref (b + 225)), some (.int v1), some (.int v2), some (.int a)] [] (K (.inl a))) (hx : ∀ (z : (Unit) ⊕ (Int32)), (∀ (e : Unit), z = .inl e → VO Z G b 4 (fun (r : Int32) => QX Z b (qI G b r (mx XX YY))) (mx XX YY) 31 [none, none, none, none] [] (K (.inr z))) ∧ (∀ (r : Int32), z = .inr r → K (.inr z) = some r)) : ∀ (a : Int32), VO Z G b 4 (fun (r : Int32) => QX Z b (qI G b r (mx XX YY))) (mx XX YY) 2 [some (.ref (b + 225)), some (.int v1), some (.int v2), some (.int a)] [] ((fMo_seek_L2 m v1 v2 a).bind K) := by
  intro a
  unfold fMo_seek_L2
  refine r_iload_n (pc := 2) ok dX12_seek_2 rfl ?_
  refine r_iload_n (pc := 3) ok dX12_seek_3 rfl ?_
  refine r_icmp_ge (pc := 4) ok 31 dX12_seek_4 rfl (fun _ => ?_) (fun _ => ?_)
  · refine r_lv (lk_n (lk_n (lk_n (lk_n lk_0 _) _) _) _) ?_
    exact (hx (.inl ())).1 _ rfl
  · refine r_aload_n (pc := 7) ok dX12_seek_7 rfl ?_
    refine r_getR (pc := 8) ok cls12 sh_225 (k := 9) rfl (Nat.le_of_ble_eq_true rfl) rfl dX12_seek_8 fl_Mo_43 ?_
    refine r_iload_n (pc := 11) ok dX12_seek_11 rfl ?_
    refine r_iload_n (pc := 12) ok dX12_seek_12 rfl ?_
    refine r_iadd (pc := 13) ok dX12_seek_13 ?_
    refine r_lald (pc := 14) ok sh_230 (j := 5) rfl (mx_r (by decide) hm) dX12_seek_14 (fun i1 => ?_)
    refine r_aload_n (pc := 15) ok dX12_seek_15 rfl ?_
    refine r_getJ (pc := 16) ok cls12 sh_225 (k := 17) rfl (Nat.le_of_ble_eq_true rfl) (mx_r (by decide) hm) dX12_seek_16 fl_Mo_174 ?_
    refine r_lcmp (pc := 19) ok dX12_seek_19 ?_
    refine r_if_ne (pc := 20) ok 25 dX12_seek_20 rfl (fun _ => ?_) (fun _ => ?_)
    · refine r_iload_n (pc := 23) ok dX12_seek_23 rfl ?_
      refine r_eq ((hx (.inr a)).2 _ rfl) ?_
      exact r_iret (pc := 24) ok dX12_seek_24 rfl
    · refine r_iinc (pc := 25) ok (1 : Int32) dX12_seek_25 ci_1 rfl (Nat.le_of_ble_eq_true rfl) rfl ?_
      refine r_goto (pc := 28) ok 2 dX12_seek_28 rfl ?_
      exact hc (a + (1 : Int32))
theorem vMo_seek {Z : Cx} {G : Gx} {b : Nat} {XX YY : Nat → Obj} {m : Obj} {v1 : Int32} {v2 : Int32} (ok : OK Z G b cX12_seek 4 0 RX12 (some .int)) (hm : YY 225 = m) : VO Z G b 4 (fun (r : Int32) => QX Z b (qI G b r (mx XX YY))) (mx XX YY) 0 [some (.ref (b + 225)), some (.int v1), some (.int v2), none] [] ((fMo_seek m v1 v2).bind some) := by
  unfold fMo_seek
  refine r_iconst (pc := 0) ok (0 : Int32) dX12_seek_0 ci_0 ?_
  refine r_istore_n (pc := 1) ok dX12_seek_1 (Nat.le_of_ble_eq_true rfl) rfl ?_
  refine r_iter (P := fun (a2 : Int32) o => VO Z G b 4 (fun (r : Int32) => QX Z b (qI G b r (mx XX YY))) (mx XX YY) 2 [some (.ref (b + 225)), some (.int v1), some (.int v2), some (.int a2)] [] o) (E := fun (z : (Unit) ⊕ (Int32)) o => (∀ (e_2 : Unit), z = .inl e_2 → VO Z G b 4 (fun (r : Int32) => QX Z b (qI G b r (mx XX YY))) (mx XX YY) 31 [none, none, none, none] [] o) ∧ (∀ (r : Int32), z = .inr r → o = some r)) (fun _ => r_none) (fun K hc hx => wMo_seek_L2 ok hm (K := K) hc hx) (fun z => ⟨fun e2 hz => ?_, fun r hz => ?_⟩) FU (0 : Int32)
  · subst hz
    refine r_inl ?_
    refine r_iconst (pc := 31) ok (-1 : Int32) dX12_seek_31 ci_m1 ?_
    exact r_iret (pc := 32) ok dX12_seek_32 rfl
  · subst hz
    rfl
theorem tMo_seek {l : Launch} {G : Gx} {b : Nat} {XX YY : Nat → Obj} {m : Obj} {v1 : Int32} {v2 : Int32} (hm : YY 225 = m) {r : Int32} (hr : fMo_seek m v1 v2 = some r) : MetG l G b yX12_seek cX12_seek 4 (some .int) 0 [.ref (b + 225), .int v1, .int v2] (mx XX YY) (qI G b r (mx XX YY)) := by
  refine met_start [some (.ref (b + 225)), some (.int v1), some (.int v2), none] (by decide +kernel) (Nat.le_of_ble_eq_true rfl) rfl (fun Z hl ok => ?_)
  clear hl
  exact vMo_seek ok hm r (by rw [hr]; rfl)
theorem wMo_fresh_J43 {Z : Cx} {G : Gx} {b : Nat} {XX YY : Nat → Obj} {m : Obj} (ok : OK Z G b cX12_fresh 2 2 RX12 (some .boolean)) : VO Z G b 2 (fun (r : Int32 × Obj) => QX Z b (qI G b r.1 (mx XX (va_up YY 225 r.2)))) (mx XX (va_up YY 225 m)) 43 [some (.ref (b + 225)), none] [] ((fMo_fresh_J43 m).bind some) := by
  unfold fMo_fresh_J43
  refine r_aload_n (pc := 43) ok dX12_fresh_43 rfl ?_
  refine r_iconst (pc := 44) ok (3 : Int32) dX12_fresh_44 ci_3 ?_
  refine k_I (pc := 45) (fun r4 => r4.1) (fun r4 => mx XX (va_up YY 225 r4.2)) (fun r4 hr_ => c_V (n := 1) ok cls12 sh_225 rfl ml_Mo_187 wv_X12_bad yk_X12_bad rfl (Nat.le_of_ble_eq_true rfl) (Nat.le_of_ble_eq_true rfl) (tMo_bad hr_) rfl (Nat.le_of_ble_eq_true rfl) dX12_fresh_45) (fun r4 => ?_)
  exact r_zret (pc := 48) ok dX12_fresh_48 rfl rfl
theorem vMo_fresh {Z : Cx} {G : Gx} {b : Nat} {XX YY : Nat → Obj} {m : Obj} {v1 : Int32} (ok : OK Z G b cX12_fresh 2 2 RX12 (some .boolean)) : VO Z G b 2 (fun (r : Int32 × Obj) => QX Z b (qI G b r.1 (mx XX (va_up YY 225 r.2)))) (mx XX (va_up YY 225 m)) 0 [some (.ref (b + 225)), some (.int v1)] [] ((fMo_fresh m v1).bind some) := by
  unfold fMo_fresh
  refine r_aload_n (pc := 0) ok dX12_fresh_0 rfl ?_
  refine k_I (pc := 1) (fun r1 => r1) (fun r1 => mx XX (va_up YY 225 m)) (fun r1 hr_ => c_V (n := 0) ok cls12 sh_225 rfl ml_Mo_204 wv_X12_isName yk_X12_isName rfl (Nat.le_of_ble_eq_true rfl) (Nat.le_of_ble_eq_true rfl) (tMo_isName (va_up_self _ _ _) hr_) rfl (Nat.le_of_ble_eq_true rfl) dX12_fresh_1) (fun r1 => ?_)
  refine r_if_ne (pc := 4) ok 13 dX12_fresh_4 rfl (fun _ => ?_) (fun _ => ?_)
  · refine r_aload_n (pc := 7) ok dX12_fresh_7 rfl ?_
    refine r_iconst (pc := 8) ok (1 : Int32) dX12_fresh_8 ci_1 ?_
    refine k_I (pc := 9) (fun r2 => r2.1) (fun r2 => mx XX (va_up YY 225 r2.2)) (fun r2 hr_ => c_V (n := 1) ok cls12 sh_225 rfl ml_Mo_187 wv_X12_bad yk_X12_bad rfl (Nat.le_of_ble_eq_true rfl) (Nat.le_of_ble_eq_true rfl) (tMo_bad hr_) rfl (Nat.le_of_ble_eq_true rfl) dX12_fresh_9) (fun r2 => ?_)
    exact r_zret (pc := 12) ok dX12_fresh_12 rfl rfl
  · refine r_aload_n (pc := 13) ok dX12_fresh_13 rfl ?_
    refine r_bipush (pc := 14) ok (14 : Int32) dX12_fresh_14 cb_14 ?_
    refine r_aload_n (pc := 16) ok dX12_fresh_16 rfl ?_
    refine r_getR (pc := 17) ok cls12 sh_225 (k := 7) rfl (Nat.le_of_ble_eq_true rfl) rfl dX12_fresh_17 fl_Mo_37 ?_
    refine r_iconst (pc := 20) ok (0 : Int32) dX12_fresh_20 ci_0 ?_
    refine r_ialdc (pc := 21) ok sh_228 (j := 3) rfl (i := 0) (by decide +kernel) (mx_r (by decide) (va_up_self _ _ _)) dX12_fresh_21 ?_
    refine k_I (pc := 22) (fun r3 => r3) (fun r3 => mx XX (va_up YY 225 m)) (fun r3 hr_ => c_V (n := 2) ok cls12 sh_225 rfl ml_Mo_208 wv_X12_seek yk_X12_seek rfl (Nat.le_of_ble_eq_true rfl) (Nat.le_of_ble_eq_true rfl) (tMo_seek (va_up_self _ _ _) hr_) rfl (Nat.le_of_ble_eq_true rfl) dX12_fresh_22) (fun r3 => ?_)
    refine r_if_ge (pc := 25) ok 43 dX12_fresh_25 rfl (fun _ => ?_) (fun _ => ?_)
    · refine r_lv (lk_s (lk_n lk_0 _) _) ?_
      exact wMo_fresh_J43 ok
    · refine r_aload_n (pc := 28) ok dX12_fresh_28 rfl ?_
      refine r_bipush (pc := 29) ok (20 : Int32) dX12_fresh_29 cb_20 ?_
      refine r_aload_n (pc := 31) ok dX12_fresh_31 rfl ?_
      refine r_getR (pc := 32) ok cls12 sh_225 (k := 7) rfl (Nat.le_of_ble_eq_true rfl) rfl dX12_fresh_32 fl_Mo_37 ?_
      refine r_iconst (pc := 35) ok (1 : Int32) dX12_fresh_35 ci_1 ?_
      refine r_ialdc (pc := 36) ok sh_228 (j := 3) rfl (i := 1) (by decide +kernel) (mx_r (by decide) (va_up_self _ _ _)) dX12_fresh_36 ?_
      refine k_I (pc := 37) (fun r5 => r5) (fun r5 => mx XX (va_up YY 225 m)) (fun r5 hr_ => c_V (n := 2) ok cls12 sh_225 rfl ml_Mo_208 wv_X12_seek yk_X12_seek rfl (Nat.le_of_ble_eq_true rfl) (Nat.le_of_ble_eq_true rfl) (tMo_seek (va_up_self _ _ _) hr_) rfl (Nat.le_of_ble_eq_true rfl) dX12_fresh_37) (fun r5 => ?_)
      refine r_if_lt (pc := 40) ok 49 dX12_fresh_40 rfl (fun _ => ?_) (fun _ => ?_)
      · refine r_aload_n (pc := 49) ok dX12_fresh_49 rfl ?_
        refine r_getR (pc := 50) ok cls12 sh_225 (k := 9) rfl (Nat.le_of_ble_eq_true rfl) rfl dX12_fresh_50 fl_Mo_43 ?_
        refine r_iload_n (pc := 53) ok dX12_fresh_53 rfl ?_
        refine r_aload_n (pc := 54) ok dX12_fresh_54 rfl ?_
        refine r_getJ (pc := 55) ok cls12 sh_225 (k := 17) rfl (Nat.le_of_ble_eq_true rfl) (mx_r (by decide) (va_up_self _ _ _)) dX12_fresh_55 fl_Mo_174 ?_
        refine r_last (pc := 58) ok sh_230 (j := 5) rfl rfl (fun s_ => mx XX (va_up YY 225 s_)) (pm_r _ _).1 (pm_r _ _).2 dX12_fresh_58 (fun i6 s7 => ?_)
        refine r_aload_n (pc := 59) ok dX12_fresh_59 rfl ?_
        refine k_V (pc := 60)  (fun r8 => mx XX (va_up YY 225 r8)) (fun r8 hr_ => c_V (n := 0) ok cls12 sh_225 rfl ml_Mo_190 wv_X12_next yk_X12_next rfl (Nat.le_of_ble_eq_true rfl) (Nat.le_of_ble_eq_true rfl) (tMo_next hr_) rfl (Nat.le_of_ble_eq_true rfl) dX12_fresh_60) (fun r8 => ?_)
        refine r_iconst (pc := 63) ok (1 : Int32) dX12_fresh_63 ci_1 ?_
        exact r_zret (pc := 64) ok dX12_fresh_64 za_1 rfl
      · refine r_lv (lk_s (lk_n lk_0 _) _) ?_
        exact wMo_fresh_J43 ok
theorem tMo_fresh {l : Launch} {G : Gx} {b : Nat} {XX YY : Nat → Obj} {m : Obj} {v1 : Int32} {r : Int32 × Obj} (hr : fMo_fresh m v1 = some r) : MetG l G b yX12_fresh cX12_fresh 2 (some .boolean) 2 [.ref (b + 225), .int v1] (mx XX (va_up YY 225 m)) (qI G b r.1 (mx XX (va_up YY 225 r.2))) := by
  refine met_start [some (.ref (b + 225)), some (.int v1)] (by decide +kernel) (Nat.le_of_ble_eq_true rfl) rfl (fun Z hl ok => ?_)
  clear hl
  exact vMo_fresh ok r (by rw [hr]; rfl)
theorem vMo_looksAt {Z : Cx} {G : Gx} {b : Nat} {XX YY : Nat → Obj} {m : Obj} {v1 : Int32} {v2 : Int32} (ok : OK Z G b cX12_looksAt 3 1 RX12 (some .boolean)) : VO Z G b 3 (fun (r : Int32 × Obj) => QX Z b (qI G b r.1 (mx XX (va_up YY 225 r.2)))) (mx XX (va_up YY 225 m)) 0 [some (.ref (b + 225)), some (.int v1), some (.int v2)] [] ((fMo_looksAt m v1 v2).bind some) := by
  unfold fMo_looksAt
  refine r_aload_n (pc := 0) ok dX12_looksAt_0 rfl ?_
  refine k_I (pc := 1) (fun r1 => r1) (fun r1 => mx XX (va_up YY 225 m)) (fun r1 hr_ => c_V (n := 0) ok cls12 sh_225 rfl ml_Mo_204 wv_X12_isName yk_X12_isName rfl (Nat.le_of_ble_eq_true rfl) (Nat.le_of_ble_eq_true rfl) (tMo_isName (va_up_self _ _ _) hr_) rfl (Nat.le_of_ble_eq_true rfl) dX12_looksAt_1) (fun r1 => ?_)
  refine r_if_ne (pc := 4) ok 13 dX12_looksAt_4 rfl (fun _ => ?_) (fun _ => ?_)
  · refine r_aload_n (pc := 7) ok dX12_looksAt_7 rfl ?_
    refine r_iconst (pc := 8) ok (1 : Int32) dX12_looksAt_8 ci_1 ?_
    refine k_I (pc := 9) (fun r2 => r2.1) (fun r2 => mx XX (va_up YY 225 r2.2)) (fun r2 hr_ => c_V (n := 1) ok cls12 sh_225 rfl ml_Mo_187 wv_X12_bad yk_X12_bad rfl (Nat.le_of_ble_eq_true rfl) (Nat.le_of_ble_eq_true rfl) (tMo_bad hr_) rfl (Nat.le_of_ble_eq_true rfl) dX12_looksAt_9) (fun r2 => ?_)
    exact r_zret (pc := 12) ok dX12_looksAt_12 rfl rfl
  · refine r_aload_n (pc := 13) ok dX12_looksAt_13 rfl ?_
    refine r_aload_n (pc := 14) ok dX12_looksAt_14 rfl ?_
    refine r_iload_n (pc := 15) ok dX12_looksAt_15 rfl ?_
    refine r_iload_n (pc := 16) ok dX12_looksAt_16 rfl ?_
    refine k_I (pc := 17) (fun r3 => r3) (fun r3 => mx XX (va_up YY 225 m)) (fun r3 hr_ => c_V (n := 2) ok cls12 sh_225 rfl ml_Mo_208 wv_X12_seek yk_X12_seek rfl (Nat.le_of_ble_eq_true rfl) (Nat.le_of_ble_eq_true rfl) (tMo_seek (va_up_self _ _ _) hr_) rfl (Nat.le_of_ble_eq_true rfl) dX12_looksAt_17) (fun r3 => ?_)
    refine r_putI (pc := 20) ok cls12 sh_225 (k := 18) rfl (Nat.le_of_ble_eq_true rfl) (fun s_ => mx XX (va_up YY 225 s_)) (pm_r _ _).1 (pm_r _ _).2 rfl rfl rfl dX12_looksAt_20 fl_Mo_197 (fun s4 => ?_)
    refine r_aload_n (pc := 23) ok dX12_looksAt_23 rfl ?_
    refine r_getI (pc := 24) ok cls12 sh_225 (k := 18) rfl (Nat.le_of_ble_eq_true rfl) (mx_r (by decide) (va_up_self _ _ _)) dX12_looksAt_24 fl_Mo_197 ?_
    refine r_if_ge (pc := 27) ok 38 dX12_looksAt_27 rfl (fun _ => ?_) (fun _ => ?_)
    · refine r_iconst (pc := 38) ok (1 : Int32) dX12_looksAt_38 ci_1 ?_
      refine r_goto (pc := 39) ok 43 dX12_looksAt_39 rfl ?_
      exact r_zret (pc := 43) ok dX12_looksAt_43 za_1 rfl
    · refine r_aload_n (pc := 30) ok dX12_looksAt_30 rfl ?_
      refine r_iconst (pc := 31) ok (3 : Int32) dX12_looksAt_31 ci_3 ?_
      refine k_I (pc := 32) (fun r5 => r5.1) (fun r5 => mx XX (va_up YY 225 r5.2)) (fun r5 hr_ => c_V (n := 1) ok cls12 sh_225 rfl ml_Mo_187 wv_X12_bad yk_X12_bad rfl (Nat.le_of_ble_eq_true rfl) (Nat.le_of_ble_eq_true rfl) (tMo_bad hr_) rfl (Nat.le_of_ble_eq_true rfl) dX12_looksAt_32) (fun r5 => ?_)
      refine r_if_eq (pc := 35) ok 42 dX12_looksAt_35 rfl (fun _ => ?_) (fun _ => ?_)
      · refine r_iconst (pc := 42) ok (0 : Int32) dX12_looksAt_42 ci_0 ?_
        exact r_zret (pc := 43) ok dX12_looksAt_43 za_0 rfl
      · refine r_iconst (pc := 38) ok (1 : Int32) dX12_looksAt_38 ci_1 ?_
        refine r_goto (pc := 39) ok 43 dX12_looksAt_39 rfl ?_
        exact r_zret (pc := 43) ok dX12_looksAt_43 za_1 rfl
theorem tMo_looksAt {l : Launch} {G : Gx} {b : Nat} {XX YY : Nat → Obj} {m : Obj} {v1 : Int32} {v2 : Int32} {r : Int32 × Obj} (hr : fMo_looksAt m v1 v2 = some r) : MetG l G b yX12_looksAt cX12_looksAt 3 (some .boolean) 1 [.ref (b + 225), .int v1, .int v2] (mx XX (va_up YY 225 m)) (qI G b r.1 (mx XX (va_up YY 225 r.2))) := by
  refine met_start [some (.ref (b + 225)), some (.int v1), some (.int v2)] (by decide +kernel) (Nat.le_of_ble_eq_true rfl) rfl (fun Z hl ok => ?_)
  clear hl
  exact vMo_looksAt ok r (by rw [hr]; rfl)
theorem vMo_takesName {Z : Cx} {G : Gx} {b : Nat} {XX YY : Nat → Obj} {m : Obj} {v1 : Int32} {v2 : Int32} (ok : OK Z G b cX12_takesName 3 2 RX12 (some .boolean)) : VO Z G b 3 (fun (r : Int32 × Obj) => QX Z b (qI G b r.1 (mx XX (va_up YY 225 r.2)))) (mx XX (va_up YY 225 m)) 0 [some (.ref (b + 225)), some (.int v1), some (.int v2)] [] ((fMo_takesName m v1 v2).bind some) := by
  unfold fMo_takesName
  refine r_aload_n (pc := 0) ok dX12_takesName_0 rfl ?_
  refine r_iload_n (pc := 1) ok dX12_takesName_1 rfl ?_
  refine r_iload_n (pc := 2) ok dX12_takesName_2 rfl ?_
  refine k_I (pc := 3) (fun r1 => r1.1) (fun r1 => mx XX (va_up YY 225 r1.2)) (fun r1 hr_ => c_V (n := 2) ok cls12 sh_225 rfl ml_Mo_212 wv_X12_looksAt yk_X12_looksAt rfl (Nat.le_of_ble_eq_true rfl) (Nat.le_of_ble_eq_true rfl) (tMo_looksAt hr_) rfl (Nat.le_of_ble_eq_true rfl) dX12_takesName_3) (fun r1 => ?_)
  refine r_if_ne (pc := 6) ok 11 dX12_takesName_6 rfl (fun _ => ?_) (fun _ => ?_)
  · refine r_iconst (pc := 9) ok (0 : Int32) dX12_takesName_9 ci_0 ?_
    exact r_zret (pc := 10) ok dX12_takesName_10 za_0 rfl
  · refine r_aload_n (pc := 11) ok dX12_takesName_11 rfl ?_
    refine k_V (pc := 12)  (fun r2 => mx XX (va_up YY 225 r2)) (fun r2 hr_ => c_V (n := 0) ok cls12 sh_225 rfl ml_Mo_190 wv_X12_next yk_X12_next rfl (Nat.le_of_ble_eq_true rfl) (Nat.le_of_ble_eq_true rfl) (tMo_next hr_) rfl (Nat.le_of_ble_eq_true rfl) dX12_takesName_12) (fun r2 => ?_)
    refine r_iconst (pc := 15) ok (1 : Int32) dX12_takesName_15 ci_1 ?_
    exact r_zret (pc := 16) ok dX12_takesName_16 za_1 rfl
theorem tMo_takesName {l : Launch} {G : Gx} {b : Nat} {XX YY : Nat → Obj} {m : Obj} {v1 : Int32} {v2 : Int32} {r : Int32 × Obj} (hr : fMo_takesName m v1 v2 = some r) : MetG l G b yX12_takesName cX12_takesName 3 (some .boolean) 2 [.ref (b + 225), .int v1, .int v2] (mx XX (va_up YY 225 m)) (qI G b r.1 (mx XX (va_up YY 225 r.2))) := by
  refine met_start [some (.ref (b + 225)), some (.int v1), some (.int v2)] (by decide +kernel) (Nat.le_of_ble_eq_true rfl) rfl (fun Z hl ok => ?_)
  clear hl
  exact vMo_takesName ok r (by rw [hr]; rfl)
theorem vMo_once {Z : Cx} {G : Gx} {b : Nat} {XX YY : Nat → Obj} {m : Obj} {v1 : Int32} (ok : OK Z G b cX12_once 2 2 RX12 (some .boolean)) : VO Z G b 2 (fun (r : Int32 × Obj) => QX Z b (qI G b r.1 (mx XX (va_up YY 225 r.2)))) (mx XX (va_up YY 225 m)) 0 [some (.ref (b + 225)), some (.int v1)] [] ((fMo_once m v1).bind some) := by
  unfold fMo_once
  refine r_aload_n (pc := 0) ok dX12_once_0 rfl ?_
  refine r_getI (pc := 1) ok cls12 sh_225 (k := 20) rfl (Nat.le_of_ble_eq_true rfl) (mx_r (by decide) (va_up_self _ _ _)) dX12_once_1 fl_Mo_215 ?_
  refine r_iload_n (pc := 4) ok dX12_once_4 rfl ?_
  refine k_I (pc := 5) (fun r1 => r1) (fun r1 => mx XX (va_up YY 225 m)) (fun r1 hr_ => c_S (n := 2) ok ml_Mo_218 ws_X12_bitOf yk_X12_bitOf rfl (Nat.le_of_ble_eq_true rfl) (Nat.le_of_ble_eq_true rfl) (tMo_bitOf hr_) rfl (Nat.le_of_ble_eq_true rfl) dX12_once_5) (fun r1 => ?_)
  refine r_if_eq (pc := 8) ok 17 dX12_once_8 rfl (fun _ => ?_) (fun _ => ?_)
  · refine r_aload_n (pc := 17) ok dX12_once_17 rfl ?_
    refine r_dup (pc := 18) ok dX12_once_18 rfl ?_
    refine r_getI (pc := 19) ok cls12 sh_225 (k := 20) rfl (Nat.le_of_ble_eq_true rfl) (mx_r (by decide) (va_up_self _ _ _)) dX12_once_19 fl_Mo_215 ?_
    refine r_iconst (pc := 22) ok (1 : Int32) dX12_once_22 ci_1 ?_
    refine r_iload_n (pc := 23) ok dX12_once_23 rfl ?_
    refine r_ishl (pc := 24) ok dX12_once_24 ?_
    refine r_ior (pc := 25) ok dX12_once_25 ?_
    refine r_putI (pc := 26) ok cls12 sh_225 (k := 20) rfl (Nat.le_of_ble_eq_true rfl) (fun s_ => mx XX (va_up YY 225 s_)) (pm_r _ _).1 (pm_r _ _).2 rfl rfl rfl dX12_once_26 fl_Mo_215 (fun s2 => ?_)
    refine r_aload_n (pc := 29) ok dX12_once_29 rfl ?_
    refine k_V (pc := 30)  (fun r3 => mx XX (va_up YY 225 r3)) (fun r3 hr_ => c_V (n := 0) ok cls12 sh_225 rfl ml_Mo_190 wv_X12_next yk_X12_next rfl (Nat.le_of_ble_eq_true rfl) (Nat.le_of_ble_eq_true rfl) (tMo_next hr_) rfl (Nat.le_of_ble_eq_true rfl) dX12_once_30) (fun r3 => ?_)
    refine r_iconst (pc := 33) ok (1 : Int32) dX12_once_33 ci_1 ?_
    exact r_zret (pc := 34) ok dX12_once_34 za_1 rfl
  · refine r_aload_n (pc := 11) ok dX12_once_11 rfl ?_
    refine r_iconst (pc := 12) ok (3 : Int32) dX12_once_12 ci_3 ?_
    refine k_I (pc := 13) (fun r4 => r4.1) (fun r4 => mx XX (va_up YY 225 r4.2)) (fun r4 hr_ => c_V (n := 1) ok cls12 sh_225 rfl ml_Mo_187 wv_X12_bad yk_X12_bad rfl (Nat.le_of_ble_eq_true rfl) (Nat.le_of_ble_eq_true rfl) (tMo_bad hr_) rfl (Nat.le_of_ble_eq_true rfl) dX12_once_13) (fun r4 => ?_)
    exact r_zret (pc := 16) ok dX12_once_16 rfl rfl
theorem tMo_once {l : Launch} {G : Gx} {b : Nat} {XX YY : Nat → Obj} {m : Obj} {v1 : Int32} {r : Int32 × Obj} (hr : fMo_once m v1 = some r) : MetG l G b yX12_once cX12_once 2 (some .boolean) 2 [.ref (b + 225), .int v1] (mx XX (va_up YY 225 m)) (qI G b r.1 (mx XX (va_up YY 225 r.2))) := by
  refine met_start [some (.ref (b + 225)), some (.int v1)] (by decide +kernel) (Nat.le_of_ble_eq_true rfl) rfl (fun Z hl ok => ?_)
  clear hl
  exact vMo_once ok r (by rw [hr]; rfl)
theorem vMo_readHouse {Z : Cx} {G : Gx} {b : Nat} {XX YY : Nat → Obj} {m : Obj} (ok : OK Z G b cX12_readHouse 2 4 RX12 (some .boolean)) : VO Z G b 2 (fun (r : Int32 × Obj) => QX Z b (qI G b r.1 (mx XX (va_up YY 225 r.2)))) (mx XX (va_up YY 225 m)) 0 [some (.ref (b + 225)), none] [] ((fMo_readHouse m).bind some) := by
  unfold fMo_readHouse
  refine r_aload_n (pc := 0) ok dX12_readHouse_0 rfl ?_
  refine r_getR (pc := 1) ok cls12 sh_225 (k := 7) rfl (Nat.le_of_ble_eq_true rfl) rfl dX12_readHouse_1 fl_Mo_37 ?_
  refine r_iconst (pc := 4) ok (0 : Int32) dX12_readHouse_4 ci_0 ?_
  refine r_ialdc (pc := 5) ok sh_228 (j := 3) rfl (i := 0) (by decide +kernel) (mx_r (by decide) (va_up_self _ _ _)) dX12_readHouse_5 ?_
  refine r_bndI (fun x1 => ?_)
  refine r_istore_n (pc := 6) ok dX12_readHouse_6 (Nat.le_of_ble_eq_true rfl) rfl ?_
  refine r_iload_n (pc := 7) ok dX12_readHouse_7 rfl ?_
  refine r_bipush (pc := 8) ok (6 : Int32) dX12_readHouse_8 cb_6 ?_
  refine r_icmp_ne (pc := 10) ok 19 dX12_readHouse_10 rfl (fun _ => ?_) (fun _ => ?_)
  · refine r_aload_n (pc := 13) ok dX12_readHouse_13 rfl ?_
    refine r_iconst (pc := 14) ok (4 : Int32) dX12_readHouse_14 ci_4 ?_
    refine k_I (pc := 15) (fun r2 => r2.1) (fun r2 => mx XX (va_up YY 225 r2.2)) (fun r2 hr_ => c_V (n := 1) ok cls12 sh_225 rfl ml_Mo_187 wv_X12_bad yk_X12_bad rfl (Nat.le_of_ble_eq_true rfl) (Nat.le_of_ble_eq_true rfl) (tMo_bad hr_) rfl (Nat.le_of_ble_eq_true rfl) dX12_readHouse_15) (fun r2 => ?_)
    exact r_zret (pc := 18) ok dX12_readHouse_18 rfl rfl
  · refine r_aload_n (pc := 19) ok dX12_readHouse_19 rfl ?_
    refine r_dup (pc := 20) ok dX12_readHouse_20 rfl ?_
    refine r_getI (pc := 21) ok cls12 sh_225 (k := 20) rfl (Nat.le_of_ble_eq_true rfl) (mx_r (by decide) (va_up_self _ _ _)) dX12_readHouse_21 fl_Mo_215 ?_
    refine r_iconst (pc := 24) ok (1 : Int32) dX12_readHouse_24 ci_1 ?_
    refine r_ior (pc := 25) ok dX12_readHouse_25 ?_
    refine r_putI (pc := 26) ok cls12 sh_225 (k := 20) rfl (Nat.le_of_ble_eq_true rfl) (fun s_ => mx XX (va_up YY 225 s_)) (pm_r _ _).1 (pm_r _ _).2 rfl rfl rfl dX12_readHouse_26 fl_Mo_215 (fun s3 => ?_)
    refine r_aload_n (pc := 29) ok dX12_readHouse_29 rfl ?_
    refine k_V (pc := 30)  (fun r4 => mx XX (va_up YY 225 r4)) (fun r4 hr_ => c_V (n := 0) ok cls12 sh_225 rfl ml_Mo_190 wv_X12_next yk_X12_next rfl (Nat.le_of_ble_eq_true rfl) (Nat.le_of_ble_eq_true rfl) (tMo_next hr_) rfl (Nat.le_of_ble_eq_true rfl) dX12_readHouse_30) (fun r4 => ?_)
    refine r_aload_n (pc := 33) ok dX12_readHouse_33 rfl ?_
    refine r_bipush (pc := 34) ok (14 : Int32) dX12_readHouse_34 cb_14 ?_
    refine r_iload_n (pc := 36) ok dX12_readHouse_36 rfl ?_
    refine r_iadd (pc := 37) ok dX12_readHouse_37 ?_
    refine k_I (pc := 38) (fun r5 => r5.1) (fun r5 => mx XX (va_up YY 225 r5.2)) (fun r5 hr_ => c_V (n := 1) ok cls12 sh_225 rfl ml_Mo_243 wv_X12_fresh yk_X12_fresh rfl (Nat.le_of_ble_eq_true rfl) (Nat.le_of_ble_eq_true rfl) (tMo_fresh hr_) rfl (Nat.le_of_ble_eq_true rfl) dX12_readHouse_38) (fun r5 => ?_)
    refine r_if_eq (pc := 41) ok 63 dX12_readHouse_41 rfl (fun _ => ?_) (fun _ => ?_)
    · refine r_iconst (pc := 63) ok (0 : Int32) dX12_readHouse_63 ci_0 ?_
      exact r_zret (pc := 64) ok dX12_readHouse_64 za_0 rfl
    · refine r_aload_n (pc := 44) ok dX12_readHouse_44 rfl ?_
      refine r_iconst (pc := 45) ok (5 : Int32) dX12_readHouse_45 ci_5 ?_
      refine r_iload_n (pc := 46) ok dX12_readHouse_46 rfl ?_
      refine r_iadd (pc := 47) ok dX12_readHouse_47 ?_
      refine r_iconst (pc := 48) ok (0 : Int32) dX12_readHouse_48 ci_0 ?_
      refine r_aload_n (pc := 49) ok dX12_readHouse_49 rfl ?_
      refine r_getR (pc := 50) ok cls12 sh_225 (k := 7) rfl (Nat.le_of_ble_eq_true rfl) rfl dX12_readHouse_50 fl_Mo_37 ?_
      refine r_iconst (pc := 53) ok (2 : Int32) dX12_readHouse_53 ci_2 ?_
      refine r_ialdc (pc := 54) ok sh_228 (j := 3) rfl (i := 2) (by decide +kernel) (mx_r (by decide) (va_up_self _ _ _)) dX12_readHouse_54 ?_
      refine r_iconst (pc := 55) ok (1 : Int32) dX12_readHouse_55 ci_1 ?_
      refine r_isub (pc := 56) ok dX12_readHouse_56 ?_
      refine k_I (pc := 57) (fun r6 => r6.1) (fun r6 => mx XX (va_up YY 225 r6.2)) (fun r6 hr_ => c_V (n := 3) ok cls12 sh_225 rfl ml_Mo_228 wv_X12_puts yk_X12_puts rfl (Nat.le_of_ble_eq_true rfl) (Nat.le_of_ble_eq_true rfl) (tMo_puts hr_) rfl (Nat.le_of_ble_eq_true rfl) dX12_readHouse_57) (fun r6 => ?_)
      refine r_if_ne (pc := 60) ok 65 dX12_readHouse_60 rfl (fun _ => ?_) (fun _ => ?_)
      · refine r_iconst (pc := 63) ok (0 : Int32) dX12_readHouse_63 ci_0 ?_
        exact r_zret (pc := 64) ok dX12_readHouse_64 za_0 rfl
      · refine r_aload_n (pc := 65) ok dX12_readHouse_65 rfl ?_
        refine r_getR (pc := 66) ok cls12 sh_225 (k := 7) rfl (Nat.le_of_ble_eq_true rfl) rfl dX12_readHouse_66 fl_Mo_37 ?_
        refine r_iconst (pc := 69) ok (0 : Int32) dX12_readHouse_69 ci_0 ?_
        refine r_dup2 (pc := 70) ok dX12_readHouse_70 rfl rfl ?_
        refine r_ialdc (pc := 71) ok sh_228 (j := 3) rfl (i := 0) (by decide +kernel) (mx_r (by decide) (va_up_self _ _ _)) dX12_readHouse_71 ?_
        refine r_iconst (pc := 72) ok (1 : Int32) dX12_readHouse_72 ci_1 ?_
        refine r_iadd (pc := 73) ok dX12_readHouse_73 ?_
        refine r_iastc (pc := 74) ok sh_228 (j := 3) rfl (i := 0) (by decide +kernel) rfl (fun s_ => mx XX (va_up YY 225 s_)) (pm_r _ _).1 (pm_r _ _).2 dX12_readHouse_74 (fun s7 => ?_)
        refine r_iconst (pc := 75) ok (1 : Int32) dX12_readHouse_75 ci_1 ?_
        exact r_zret (pc := 76) ok dX12_readHouse_76 za_1 rfl
theorem tMo_readHouse {l : Launch} {G : Gx} {b : Nat} {XX YY : Nat → Obj} {m : Obj} {r : Int32 × Obj} (hr : fMo_readHouse m = some r) : MetG l G b yX12_readHouse cX12_readHouse 2 (some .boolean) 4 [.ref (b + 225)] (mx XX (va_up YY 225 m)) (qI G b r.1 (mx XX (va_up YY 225 r.2))) := by
  refine met_start [some (.ref (b + 225)), none] (by decide +kernel) (Nat.le_of_ble_eq_true rfl) rfl (fun Z hl ok => ?_)
  clear hl
  exact vMo_readHouse ok r (by rw [hr]; rfl)
theorem vMo_wayWord {Z : Cx} {G : Gx} {b : Nat} {XX YY : Nat → Obj} {m : Obj} (ok : OK Z G b cX12_wayWord 1 1 RX12 (some .int)) (hm : YY 225 = m) : VO Z G b 1 (fun (r : Int32) => QX Z b (qI G b r (mx XX YY))) (mx XX YY) 0 [some (.ref (b + 225))] [] ((fMo_wayWord m).bind some) := by
  unfold fMo_wayWord
  refine r_aload_n (pc := 0) ok dX12_wayWord_0 rfl ?_
  refine r_ldc2 (pc := 1) ok (30064 : Int64) dX12_wayWord_1 cl2_Mo_106 ?_
  refine k_I (pc := 4) (fun r1 => r1) (fun r1 => mx XX YY) (fun r1 hr_ => c_V (n := 1) ok cls12 sh_225 rfl ml_Mo_221 wv_X12_isWord yk_X12_isWord rfl (Nat.le_of_ble_eq_true rfl) (Nat.le_of_ble_eq_true rfl) (tMo_isWord (hm) hr_) rfl (Nat.le_of_ble_eq_true rfl) dX12_wayWord_4) (fun r1 => ?_)
  refine r_if_eq (pc := 7) ok 14 dX12_wayWord_7 rfl (fun _ => ?_) (fun _ => ?_)
  · refine r_aload_n (pc := 14) ok dX12_wayWord_14 rfl ?_
    refine r_ldc2 (pc := 15) ok (1685026670 : Int64) dX12_wayWord_15 cl2_Mo_108 ?_
    refine k_I (pc := 18) (fun r2 => r2) (fun r2 => mx XX YY) (fun r2 hr_ => c_V (n := 1) ok cls12 sh_225 rfl ml_Mo_221 wv_X12_isWord yk_X12_isWord rfl (Nat.le_of_ble_eq_true rfl) (Nat.le_of_ble_eq_true rfl) (tMo_isWord (hm) hr_) rfl (Nat.le_of_ble_eq_true rfl) dX12_wayWord_18) (fun r2 => ?_)
    refine r_if_eq (pc := 21) ok 28 dX12_wayWord_21 rfl (fun _ => ?_) (fun _ => ?_)
    · refine r_aload_n (pc := 28) ok dX12_wayWord_28 rfl ?_
      refine r_ldc2 (pc := 29) ok (126943688025203 : Int64) dX12_wayWord_29 cl2_Mo_110 ?_
      refine k_I (pc := 32) (fun r3 => r3) (fun r3 => mx XX YY) (fun r3 hr_ => c_V (n := 1) ok cls12 sh_225 rfl ml_Mo_221 wv_X12_isWord yk_X12_isWord rfl (Nat.le_of_ble_eq_true rfl) (Nat.le_of_ble_eq_true rfl) (tMo_isWord (hm) hr_) rfl (Nat.le_of_ble_eq_true rfl) dX12_wayWord_32) (fun r3 => ?_)
      refine r_if_eq (pc := 35) ok 42 dX12_wayWord_35 rfl (fun _ => ?_) (fun _ => ?_)
      · refine r_iconst (pc := 42) ok (-1 : Int32) dX12_wayWord_42 ci_m1 ?_
        exact r_iret (pc := 43) ok dX12_wayWord_43 rfl
      · refine r_iconst (pc := 38) ok (2 : Int32) dX12_wayWord_38 ci_2 ?_
        refine r_goto (pc := 39) ok 43 dX12_wayWord_39 rfl ?_
        exact r_iret (pc := 43) ok dX12_wayWord_43 rfl
    · refine r_iconst (pc := 24) ok (1 : Int32) dX12_wayWord_24 ci_1 ?_
      refine r_goto (pc := 25) ok 43 dX12_wayWord_25 rfl ?_
      exact r_iret (pc := 43) ok dX12_wayWord_43 rfl
  · refine r_iconst (pc := 10) ok (0 : Int32) dX12_wayWord_10 ci_0 ?_
    refine r_goto (pc := 11) ok 43 dX12_wayWord_11 rfl ?_
    exact r_iret (pc := 43) ok dX12_wayWord_43 rfl
theorem tMo_wayWord {l : Launch} {G : Gx} {b : Nat} {XX YY : Nat → Obj} {m : Obj} (hm : YY 225 = m) {r : Int32} (hr : fMo_wayWord m = some r) : MetG l G b yX12_wayWord cX12_wayWord 1 (some .int) 1 [.ref (b + 225)] (mx XX YY) (qI G b r (mx XX YY)) := by
  refine met_start [some (.ref (b + 225))] (by decide +kernel) (Nat.le_of_ble_eq_true rfl) rfl (fun Z hl ok => ?_)
  clear hl
  exact vMo_wayWord ok hm r (by rw [hr]; rfl)
theorem vMo_takesWay {Z : Cx} {G : Gx} {b : Nat} {XX YY : Nat → Obj} {m : Obj} (ok : OK Z G b cX12_takesWay 1 2 RX12 (some .boolean)) : VO Z G b 1 (fun (r : Int32 × Obj) => QX Z b (qI G b r.1 (mx XX (va_up YY 225 r.2)))) (mx XX (va_up YY 225 m)) 0 [some (.ref (b + 225))] [] ((fMo_takesWay m).bind some) := by
  unfold fMo_takesWay
  refine r_aload_n (pc := 0) ok dX12_takesWay_0 rfl ?_
  refine r_aload_n (pc := 1) ok dX12_takesWay_1 rfl ?_
  refine k_I (pc := 2) (fun r1 => r1) (fun r1 => mx XX (va_up YY 225 m)) (fun r1 hr_ => c_V (n := 0) ok cls12 sh_225 rfl ml_Mo_246 wv_X12_wayWord yk_X12_wayWord rfl (Nat.le_of_ble_eq_true rfl) (Nat.le_of_ble_eq_true rfl) (tMo_wayWord (va_up_self _ _ _) hr_) rfl (Nat.le_of_ble_eq_true rfl) dX12_takesWay_2) (fun r1 => ?_)
  refine r_putI (pc := 5) ok cls12 sh_225 (k := 18) rfl (Nat.le_of_ble_eq_true rfl) (fun s_ => mx XX (va_up YY 225 s_)) (pm_r _ _).1 (pm_r _ _).2 rfl rfl rfl dX12_takesWay_5 fl_Mo_197 (fun s2 => ?_)
  refine r_aload_n (pc := 8) ok dX12_takesWay_8 rfl ?_
  refine r_getI (pc := 9) ok cls12 sh_225 (k := 18) rfl (Nat.le_of_ble_eq_true rfl) (mx_r (by decide) (va_up_self _ _ _)) dX12_takesWay_9 fl_Mo_197 ?_
  refine r_if_ge (pc := 12) ok 21 dX12_takesWay_12 rfl (fun _ => ?_) (fun _ => ?_)
  · refine r_aload_n (pc := 21) ok dX12_takesWay_21 rfl ?_
    refine k_V (pc := 22)  (fun r3 => mx XX (va_up YY 225 r3)) (fun r3 hr_ => c_V (n := 0) ok cls12 sh_225 rfl ml_Mo_190 wv_X12_next yk_X12_next rfl (Nat.le_of_ble_eq_true rfl) (Nat.le_of_ble_eq_true rfl) (tMo_next hr_) rfl (Nat.le_of_ble_eq_true rfl) dX12_takesWay_22) (fun r3 => ?_)
    refine r_iconst (pc := 25) ok (1 : Int32) dX12_takesWay_25 ci_1 ?_
    exact r_zret (pc := 26) ok dX12_takesWay_26 za_1 rfl
  · refine r_aload_n (pc := 15) ok dX12_takesWay_15 rfl ?_
    refine r_iconst (pc := 16) ok (1 : Int32) dX12_takesWay_16 ci_1 ?_
    refine k_I (pc := 17) (fun r4 => r4.1) (fun r4 => mx XX (va_up YY 225 r4.2)) (fun r4 hr_ => c_V (n := 1) ok cls12 sh_225 rfl ml_Mo_187 wv_X12_bad yk_X12_bad rfl (Nat.le_of_ble_eq_true rfl) (Nat.le_of_ble_eq_true rfl) (tMo_bad hr_) rfl (Nat.le_of_ble_eq_true rfl) dX12_takesWay_17) (fun r4 => ?_)
    exact r_zret (pc := 20) ok dX12_takesWay_20 rfl rfl
theorem tMo_takesWay {l : Launch} {G : Gx} {b : Nat} {XX YY : Nat → Obj} {m : Obj} {r : Int32 × Obj} (hr : fMo_takesWay m = some r) : MetG l G b yX12_takesWay cX12_takesWay 1 (some .boolean) 2 [.ref (b + 225)] (mx XX (va_up YY 225 m)) (qI G b r.1 (mx XX (va_up YY 225 r.2))) := by
  refine met_start [some (.ref (b + 225))] (by decide +kernel) (Nat.le_of_ble_eq_true rfl) rfl (fun Z hl ok => ?_)
  clear hl
  exact vMo_takesWay ok r (by rw [hr]; rfl)
theorem vMo_knowsIn_3 {Z : Cx} {G : Gx} {b : Nat} {XX YY : Nat → Obj} {m : Obj} {v1 : Int32} {v2 : Int32} {v3 : Int32} (ok : OK Z G b cX12_knowsIn 4 0 RX12 none) : VO Z G b 4 (fun (r : Obj) => QX Z b (qV G b (mx XX (va_up YY 225 r)))) (mx XX (va_up YY 225 m)) 0 [some (.ref (b + 228)), some (.int v1), some (.int v2), some (.int v3)] [] ((fMo_knowsIn_3 m v1 v2 v3).bind some) := by
  unfold fMo_knowsIn_3
  refine r_aload_n (pc := 0) ok dX12_knowsIn_0 rfl ?_
  refine r_iload_n (pc := 1) ok dX12_knowsIn_1 rfl ?_
  refine r_iload_n (pc := 2) ok dX12_knowsIn_2 rfl ?_
  refine r_iadd (pc := 3) ok dX12_knowsIn_3 ?_
  refine r_dup2 (pc := 4) ok dX12_knowsIn_4 rfl rfl ?_
  refine r_iald (pc := 5) ok sh_228 (j := 3) rfl (mx_r (by decide) (va_up_self _ _ _)) dX12_knowsIn_5 (fun i1 => ?_)
  refine r_iconst (pc := 6) ok (1 : Int32) dX12_knowsIn_6 ci_1 ?_
  refine r_iload_n (pc := 7) ok dX12_knowsIn_7 rfl ?_
  refine r_ishl (pc := 8) ok dX12_knowsIn_8 ?_
  refine r_ior (pc := 9) ok dX12_knowsIn_9 ?_
  refine r_iast (pc := 10) ok sh_228 (j := 3) rfl rfl (fun s_ => mx XX (va_up YY 225 s_)) (pm_r _ _).1 (pm_r _ _).2 dX12_knowsIn_10 (fun i2 s3 => ?_)
  refine r_aload_n (pc := 11) ok dX12_knowsIn_11 rfl ?_
  refine r_iload_n (pc := 12) ok dX12_knowsIn_12 rfl ?_
  refine r_iload_n (pc := 13) ok dX12_knowsIn_13 rfl ?_
  refine r_iadd (pc := 14) ok dX12_knowsIn_14 ?_
  refine r_dup2 (pc := 15) ok dX12_knowsIn_15 rfl rfl ?_
  refine r_iald (pc := 16) ok sh_228 (j := 3) rfl (mx_r (by decide) (va_up_self _ _ _)) dX12_knowsIn_16 (fun i4 => ?_)
  refine r_iconst (pc := 17) ok (1 : Int32) dX12_knowsIn_17 ci_1 ?_
  refine r_iload_n (pc := 18) ok dX12_knowsIn_18 rfl ?_
  refine r_ishl (pc := 19) ok dX12_knowsIn_19 ?_
  refine r_ior (pc := 20) ok dX12_knowsIn_20 ?_
  refine r_iast (pc := 21) ok sh_228 (j := 3) rfl rfl (fun s_ => mx XX (va_up YY 225 s_)) (pm_r _ _).1 (pm_r _ _).2 dX12_knowsIn_21 (fun i5 s6 => ?_)
  exact r_vret (pc := 22) ok dX12_knowsIn_22 rfl
theorem tMo_knowsIn_3 {l : Launch} {G : Gx} {b : Nat} {XX YY : Nat → Obj} {m : Obj} {v1 : Int32} {v2 : Int32} {v3 : Int32} {r : Obj} (hr : fMo_knowsIn_3 m v1 v2 v3 = some r) : MetG l G b yX12_knowsIn cX12_knowsIn 4 none 0 [.ref (b + 228), .int v1, .int v2, .int v3] (mx XX (va_up YY 225 m)) (qV G b (mx XX (va_up YY 225 r))) := by
  refine met_start [some (.ref (b + 228)), some (.int v1), some (.int v2), some (.int v3)] (by decide +kernel) (Nat.le_of_ble_eq_true rfl) rfl (fun Z hl ok => ?_)
  clear hl
  exact vMo_knowsIn_3 ok r (by rw [hr]; rfl)
theorem wMo_readPerson_L202 {Z : Cx} {G : Gx} {b : Nat} {XX YY : Nat → Obj} {v1 : Int32} (ok : OK Z G b cX12_readPerson 4 4 RX12 (some .boolean)) {K : ((Int32 × Obj) ⊕ (Obj)) → Option (Int32 × Obj)} (hc : ∀ (a : Int32 × Obj), VO Z G b 4 (fun (r : Int32 × Obj) => QX Z b (qI G b r.1 (mx XX (va_up YY 225 r.2)))) (mx XX (va_up YY 225 a.2)) 202 [some (.ref (b + 225)), some (.int v1), none, some (.int a.1)] [] (K (.inl a))) (hx : ∀ (e : Obj), VO Z G b 4 (fun (r : Int32 × Obj) => QX Z b (qI G b r.1 (mx XX (va_up YY 225 r.2)))) (mx XX (va_up YY 225 e)) 257 [some (.ref (b + 225)), none, none, none] [] (K (.inr e))) : ∀ (a : Int32 × Obj), VO Z G b 4 (fun (r : Int32 × Obj) => QX Z b (qI G b r.1 (mx XX (va_up YY 225 r.2)))) (mx XX (va_up YY 225 a.2)) 202 [some (.ref (b + 225)), some (.int v1), none, some (.int a.1)] [] ((fMo_readPerson_L202 v1 a).bind K) := by
  intro a
  unfold fMo_readPerson_L202
  refine r_iload_n (pc := 202) ok dX12_readPerson_202 rfl ?_
  refine r_iload_n (pc := 203) ok dX12_readPerson_203 rfl ?_
  refine r_icmp_ge (pc := 204) ok 257 dX12_readPerson_204 rfl (fun _ => ?_) (fun _ => ?_)
  · refine r_lv (lk_s (lk_n (lk_n (lk_n lk_0 _) _) _) _) ?_
    exact hx a.2
  · refine r_aload_n (pc := 207) ok dX12_readPerson_207 rfl ?_
    refine r_getR (pc := 208) ok cls12 sh_225 (k := 7) rfl (Nat.le_of_ble_eq_true rfl) rfl dX12_readPerson_208 fl_Mo_37 ?_
    refine r_bipush (pc := 211) ok (11 : Int32) dX12_readPerson_211 cb_11 ?_
    refine r_iload_n (pc := 213) ok dX12_readPerson_213 rfl ?_
    refine r_iadd (pc := 214) ok dX12_readPerson_214 ?_
    refine r_iald (pc := 215) ok sh_228 (j := 3) rfl (mx_r (by decide) (va_up_self _ _ _)) dX12_readPerson_215 (fun i22 => ?_)
    refine r_if_le (pc := 216) ok 251 dX12_readPerson_216 rfl (fun _ => ?_) (fun _ => ?_)
    · refine r_iinc (pc := 251) ok (1 : Int32) dX12_readPerson_251 ci_1 rfl (Nat.le_of_ble_eq_true rfl) rfl ?_
      refine r_goto (pc := 254) ok 202 dX12_readPerson_254 rfl ?_
      exact hc ((a.1 + (1 : Int32)), a.2)
    · refine r_aload_n (pc := 219) ok dX12_readPerson_219 rfl ?_
      refine r_getR (pc := 220) ok cls12 sh_225 (k := 7) rfl (Nat.le_of_ble_eq_true rfl) rfl dX12_readPerson_220 fl_Mo_37 ?_
      refine r_bipush (pc := 223) ok (11 : Int32) dX12_readPerson_223 cb_11 ?_
      refine r_iload_n (pc := 225) ok dX12_readPerson_225 rfl ?_
      refine r_iadd (pc := 226) ok dX12_readPerson_226 ?_
      refine r_iald (pc := 227) ok sh_228 (j := 3) rfl (mx_r (by decide) (va_up_self _ _ _)) dX12_readPerson_227 (fun i23 => ?_)
      refine r_aload_n (pc := 228) ok dX12_readPerson_228 rfl ?_
      refine r_getR (pc := 229) ok cls12 sh_225 (k := 7) rfl (Nat.le_of_ble_eq_true rfl) rfl dX12_readPerson_229 fl_Mo_37 ?_
      refine r_bipush (pc := 232) ok (11 : Int32) dX12_readPerson_232 cb_11 ?_
      refine r_iload_n (pc := 234) ok dX12_readPerson_234 rfl ?_
      refine r_iadd (pc := 235) ok dX12_readPerson_235 ?_
      refine r_iald (pc := 236) ok sh_228 (j := 3) rfl (mx_r (by decide) (va_up_self _ _ _)) dX12_readPerson_236 (fun i24 => ?_)
      refine r_icmp_ne (pc := 237) ok 251 dX12_readPerson_237 rfl (fun _ => ?_) (fun _ => ?_)
      · refine r_aload_n (pc := 240) ok dX12_readPerson_240 rfl ?_
        refine r_getR (pc := 241) ok cls12 sh_225 (k := 7) rfl (Nat.le_of_ble_eq_true rfl) rfl dX12_readPerson_241 fl_Mo_37 ?_
        refine r_bipush (pc := 244) ok (36 : Int32) dX12_readPerson_244 cb_36 ?_
        refine r_iload_n (pc := 246) ok dX12_readPerson_246 rfl ?_
        refine r_iload_n (pc := 247) ok dX12_readPerson_247 rfl ?_
        refine k_V (pc := 248)  (fun r25 => mx XX (va_up YY 225 r25)) (fun r25 hr_ => c_S (n := 4) ok ml_Mo_255 ws_X12_knowsIn yk_X12_knowsIn rfl (Nat.le_of_ble_eq_true rfl) (Nat.le_of_ble_eq_true rfl) (tMo_knowsIn_3 hr_) rfl (Nat.le_of_ble_eq_true rfl) dX12_readPerson_248) (fun r25 => ?_)
        refine r_iinc (pc := 251) ok (1 : Int32) dX12_readPerson_251 ci_1 rfl (Nat.le_of_ble_eq_true rfl) rfl ?_
        refine r_goto (pc := 254) ok 202 dX12_readPerson_254 rfl ?_
        exact hc ((a.1 + (1 : Int32)), r25)
      · refine r_iinc (pc := 251) ok (1 : Int32) dX12_readPerson_251 ci_1 rfl (Nat.le_of_ble_eq_true rfl) rfl ?_
        refine r_goto (pc := 254) ok 202 dX12_readPerson_254 rfl ?_
        exact hc ((a.1 + (1 : Int32)), a.2)
theorem wMo_readPerson_J194 {Z : Cx} {G : Gx} {b : Nat} {XX YY : Nat → Obj} {m : Obj} {v1 : Int32} {k1 : Int32} {k2 : Int32} {k3 : Int32} (ok : OK Z G b cX12_readPerson 4 4 RX12 (some .boolean)) : VO Z G b 4 (fun (r : Int32 × Obj) => QX Z b (qI G b r.1 (mx XX (va_up YY 225 r.2)))) (mx XX (va_up YY 225 m)) 194 [some (.ref (b + 225)), some (.int v1), none, none] [.int k3, .int k2, .int k1, .ref (b + 228)] ((fMo_readPerson_J194 m v1 k1 k2 k3).bind some) := by
  unfold fMo_readPerson_J194
  refine r_ior (pc := 194) ok dX12_readPerson_194 ?_
  refine r_iast (pc := 195) ok sh_228 (j := 3) rfl rfl (fun s_ => mx XX (va_up YY 225 s_)) (pm_r _ _).1 (pm_r _ _).2 dX12_readPerson_195 (fun i19 s20 => ?_)
  refine r_aload_n (pc := 196) ok dX12_readPerson_196 rfl ?_
  refine k_V (pc := 197)  (fun r21 => mx XX (va_up YY 225 r21)) (fun r21 hr_ => c_V (n := 0) ok cls12 sh_225 rfl ml_Mo_190 wv_X12_next yk_X12_next rfl (Nat.le_of_ble_eq_true rfl) (Nat.le_of_ble_eq_true rfl) (tMo_next hr_) rfl (Nat.le_of_ble_eq_true rfl) dX12_readPerson_197) (fun r21 => ?_)
  refine r_iconst (pc := 200) ok (0 : Int32) dX12_readPerson_200 ci_0 ?_
  refine r_istore_n (pc := 201) ok dX12_readPerson_201 (Nat.le_of_ble_eq_true rfl) rfl ?_
  refine r_iter (P := fun (a202 : Int32 × Obj) o => VO Z G b 4 (fun (r : Int32 × Obj) => QX Z b (qI G b r.1 (mx XX (va_up YY 225 r.2)))) (mx XX (va_up YY 225 a202.2)) 202 [some (.ref (b + 225)), some (.int v1), none, some (.int a202.1)] [] o) (E := fun (e_202 : Obj) o => VO Z G b 4 (fun (r : Int32 × Obj) => QX Z b (qI G b r.1 (mx XX (va_up YY 225 r.2)))) (mx XX (va_up YY 225 e_202)) 257 [some (.ref (b + 225)), none, none, none] [] o) (fun _ => r_none) (fun K hc hx => wMo_readPerson_L202 ok (K := K) hc hx) (fun e26 => ?_) FU ((0 : Int32), r21)
  refine r_aload_n (pc := 257) ok dX12_readPerson_257 rfl ?_
  refine r_getR (pc := 258) ok cls12 sh_225 (k := 7) rfl (Nat.le_of_ble_eq_true rfl) rfl dX12_readPerson_258 fl_Mo_37 ?_
  refine r_iconst (pc := 261) ok (1 : Int32) dX12_readPerson_261 ci_1 ?_
  refine r_dup2 (pc := 262) ok dX12_readPerson_262 rfl rfl ?_
  refine r_ialdc (pc := 263) ok sh_228 (j := 3) rfl (i := 1) (by decide +kernel) (mx_r (by decide) (va_up_self _ _ _)) dX12_readPerson_263 ?_
  refine r_iconst (pc := 264) ok (1 : Int32) dX12_readPerson_264 ci_1 ?_
  refine r_iadd (pc := 265) ok dX12_readPerson_265 ?_
  refine r_iastc (pc := 266) ok sh_228 (j := 3) rfl (i := 1) (by decide +kernel) rfl (fun s_ => mx XX (va_up YY 225 s_)) (pm_r _ _).1 (pm_r _ _).2 dX12_readPerson_266 (fun s27 => ?_)
  refine r_iconst (pc := 267) ok (1 : Int32) dX12_readPerson_267 ci_1 ?_
  exact r_zret (pc := 268) ok dX12_readPerson_268 za_1 rfl
theorem wMo_readPerson_J175 {Z : Cx} {G : Gx} {b : Nat} {XX YY : Nat → Obj} {m : Obj} {v1 : Int32} {v2 : Int32} (ok : OK Z G b cX12_readPerson 4 4 RX12 (some .boolean)) : VO Z G b 4 (fun (r : Int32 × Obj) => QX Z b (qI G b r.1 (mx XX (va_up YY 225 r.2)))) (mx XX (va_up YY 225 m)) 175 [some (.ref (b + 225)), some (.int v1), some (.int v2), none] [] ((fMo_readPerson_J175 m v1 v2).bind some) := by
  unfold fMo_readPerson_J175
  refine r_aload_n (pc := 175) ok dX12_readPerson_175 rfl ?_
  refine r_getR (pc := 176) ok cls12 sh_225 (k := 7) rfl (Nat.le_of_ble_eq_true rfl) rfl dX12_readPerson_176 fl_Mo_37 ?_
  refine r_bipush (pc := 179) ok (35 : Int32) dX12_readPerson_179 cb_35 ?_
  refine r_dup2 (pc := 181) ok dX12_readPerson_181 rfl rfl ?_
  refine r_ialdc (pc := 182) ok sh_228 (j := 3) rfl (i := 35) (by decide +kernel) (mx_r (by decide) (va_up_self _ _ _)) dX12_readPerson_182 ?_
  refine r_iload_n (pc := 183) ok dX12_readPerson_183 rfl ?_
  refine r_if_eq (pc := 184) ok 193 dX12_readPerson_184 rfl (fun _ => ?_) (fun _ => ?_)
  · refine r_iconst (pc := 193) ok (0 : Int32) dX12_readPerson_193 ci_0 ?_
    refine r_lv (lk_s (lk_s (lk_n (lk_n lk_0 _) _) _) _) ?_
    exact wMo_readPerson_J194 ok
  · refine r_iconst (pc := 187) ok (1 : Int32) dX12_readPerson_187 ci_1 ?_
    refine r_iload_n (pc := 188) ok dX12_readPerson_188 rfl ?_
    refine r_ishl (pc := 189) ok dX12_readPerson_189 ?_
    refine r_goto (pc := 190) ok 194 dX12_readPerson_190 rfl ?_
    refine r_lv (lk_s (lk_s (lk_n (lk_n lk_0 _) _) _) _) ?_
    exact wMo_readPerson_J194 ok
theorem wMo_readPerson_J105 {Z : Cx} {G : Gx} {b : Nat} {XX YY : Nat → Obj} {m : Obj} {v1 : Int32} (ok : OK Z G b cX12_readPerson 4 4 RX12 (some .boolean)) : VO Z G b 4 (fun (r : Int32 × Obj) => QX Z b (qI G b r.1 (mx XX (va_up YY 225 r.2)))) (mx XX (va_up YY 225 m)) 105 [some (.ref (b + 225)), some (.int v1), none, none] [] ((fMo_readPerson_J105 m v1).bind some) := by
  unfold fMo_readPerson_J105
  refine r_aload_n (pc := 105) ok dX12_readPerson_105 rfl ?_
  refine r_bipush (pc := 106) ok (19 : Int32) dX12_readPerson_106 cb_19 ?_
  refine r_iload_n (pc := 108) ok dX12_readPerson_108 rfl ?_
  refine r_iadd (pc := 109) ok dX12_readPerson_109 ?_
  refine r_iconst (pc := 110) ok (0 : Int32) dX12_readPerson_110 ci_0 ?_
  refine r_aload_n (pc := 111) ok dX12_readPerson_111 rfl ?_
  refine r_getR (pc := 112) ok cls12 sh_225 (k := 7) rfl (Nat.le_of_ble_eq_true rfl) rfl dX12_readPerson_112 fl_Mo_37 ?_
  refine r_iconst (pc := 115) ok (2 : Int32) dX12_readPerson_115 ci_2 ?_
  refine r_ialdc (pc := 116) ok sh_228 (j := 3) rfl (i := 2) (by decide +kernel) (mx_r (by decide) (va_up_self _ _ _)) dX12_readPerson_116 ?_
  refine r_iconst (pc := 117) ok (1 : Int32) dX12_readPerson_117 ci_1 ?_
  refine r_isub (pc := 118) ok dX12_readPerson_118 ?_
  refine k_I (pc := 119) (fun r12 => r12.1) (fun r12 => mx XX (va_up YY 225 r12.2)) (fun r12 hr_ => c_V (n := 3) ok cls12 sh_225 rfl ml_Mo_228 wv_X12_puts yk_X12_puts rfl (Nat.le_of_ble_eq_true rfl) (Nat.le_of_ble_eq_true rfl) (tMo_puts hr_) rfl (Nat.le_of_ble_eq_true rfl) dX12_readPerson_119) (fun r12 => ?_)
  refine r_if_eq (pc := 122) ok 132 dX12_readPerson_122 rfl (fun _ => ?_) (fun _ => ?_)
  · refine r_iconst (pc := 132) ok (0 : Int32) dX12_readPerson_132 ci_0 ?_
    exact r_zret (pc := 133) ok dX12_readPerson_133 za_0 rfl
  · refine r_aload_n (pc := 125) ok dX12_readPerson_125 rfl ?_
    refine k_I (pc := 126) (fun r13 => r13.1) (fun r13 => mx XX (va_up YY 225 r13.2)) (fun r13 hr_ => c_V (n := 0) ok cls12 sh_225 rfl ml_Mo_252 wv_X12_takesWay yk_X12_takesWay rfl (Nat.le_of_ble_eq_true rfl) (Nat.le_of_ble_eq_true rfl) (tMo_takesWay hr_) rfl (Nat.le_of_ble_eq_true rfl) dX12_readPerson_126) (fun r13 => ?_)
    refine r_if_ne (pc := 129) ok 134 dX12_readPerson_129 rfl (fun _ => ?_) (fun _ => ?_)
    · refine r_iconst (pc := 132) ok (0 : Int32) dX12_readPerson_132 ci_0 ?_
      exact r_zret (pc := 133) ok dX12_readPerson_133 za_0 rfl
    · refine r_aload_n (pc := 134) ok dX12_readPerson_134 rfl ?_
      refine r_getR (pc := 135) ok cls12 sh_225 (k := 7) rfl (Nat.le_of_ble_eq_true rfl) rfl dX12_readPerson_135 fl_Mo_37 ?_
      refine r_bipush (pc := 138) ok (27 : Int32) dX12_readPerson_138 cb_27 ?_
      refine r_iload_n (pc := 140) ok dX12_readPerson_140 rfl ?_
      refine r_iadd (pc := 141) ok dX12_readPerson_141 ?_
      refine r_aload_n (pc := 142) ok dX12_readPerson_142 rfl ?_
      refine r_getI (pc := 143) ok cls12 sh_225 (k := 18) rfl (Nat.le_of_ble_eq_true rfl) (mx_r (by decide) (va_up_self _ _ _)) dX12_readPerson_143 fl_Mo_197 ?_
      refine r_iast (pc := 146) ok sh_228 (j := 3) rfl rfl (fun s_ => mx XX (va_up YY 225 s_)) (pm_r _ _).1 (pm_r _ _).2 dX12_readPerson_146 (fun i14 s15 => ?_)
      refine r_aload_n (pc := 147) ok dX12_readPerson_147 rfl ?_
      refine r_ldc2 (pc := 148) ok (495874044526 : Int64) dX12_readPerson_148 cl2_Mo_114 ?_
      refine k_I (pc := 151) (fun r16 => r16) (fun r16 => mx XX (va_up YY 225 s15)) (fun r16 hr_ => c_V (n := 1) ok cls12 sh_225 rfl ml_Mo_221 wv_X12_isWord yk_X12_isWord rfl (Nat.le_of_ble_eq_true rfl) (Nat.le_of_ble_eq_true rfl) (tMo_isWord (va_up_self _ _ _) hr_) rfl (Nat.le_of_ble_eq_true rfl) dX12_readPerson_151) (fun r16 => ?_)
      refine r_istore_n (pc := 154) ok dX12_readPerson_154 (Nat.le_of_ble_eq_true rfl) rfl ?_
      refine r_iload_n (pc := 155) ok dX12_readPerson_155 rfl ?_
      refine r_if_ne (pc := 156) ok 175 dX12_readPerson_156 rfl (fun _ => ?_) (fun _ => ?_)
      · refine r_aload_n (pc := 159) ok dX12_readPerson_159 rfl ?_
        refine r_ldc2 (pc := 160) ok (1802071652 : Int64) dX12_readPerson_160 cl2_Mo_112 ?_
        refine k_I (pc := 163) (fun r17 => r17) (fun r17 => mx XX (va_up YY 225 s15)) (fun r17 hr_ => c_V (n := 1) ok cls12 sh_225 rfl ml_Mo_221 wv_X12_isWord yk_X12_isWord rfl (Nat.le_of_ble_eq_true rfl) (Nat.le_of_ble_eq_true rfl) (tMo_isWord (va_up_self _ _ _) hr_) rfl (Nat.le_of_ble_eq_true rfl) dX12_readPerson_163) (fun r17 => ?_)
        refine r_if_ne (pc := 166) ok 175 dX12_readPerson_166 rfl (fun _ => ?_) (fun _ => ?_)
        · refine r_aload_n (pc := 169) ok dX12_readPerson_169 rfl ?_
          refine r_iconst (pc := 170) ok (1 : Int32) dX12_readPerson_170 ci_1 ?_
          refine k_I (pc := 171) (fun r18 => r18.1) (fun r18 => mx XX (va_up YY 225 r18.2)) (fun r18 hr_ => c_V (n := 1) ok cls12 sh_225 rfl ml_Mo_187 wv_X12_bad yk_X12_bad rfl (Nat.le_of_ble_eq_true rfl) (Nat.le_of_ble_eq_true rfl) (tMo_bad hr_) rfl (Nat.le_of_ble_eq_true rfl) dX12_readPerson_171) (fun r18 => ?_)
          exact r_zret (pc := 174) ok dX12_readPerson_174 rfl rfl
        · exact wMo_readPerson_J175 ok
      · exact wMo_readPerson_J175 ok
theorem vMo_readPerson {Z : Cx} {G : Gx} {b : Nat} {XX YY : Nat → Obj} {m : Obj} (ok : OK Z G b cX12_readPerson 4 4 RX12 (some .boolean)) : VO Z G b 4 (fun (r : Int32 × Obj) => QX Z b (qI G b r.1 (mx XX (va_up YY 225 r.2)))) (mx XX (va_up YY 225 m)) 0 [some (.ref (b + 225)), none, none, none] [] ((fMo_readPerson m).bind some) := by
  unfold fMo_readPerson
  refine r_aload_n (pc := 0) ok dX12_readPerson_0 rfl ?_
  refine r_getR (pc := 1) ok cls12 sh_225 (k := 7) rfl (Nat.le_of_ble_eq_true rfl) rfl dX12_readPerson_1 fl_Mo_37 ?_
  refine r_iconst (pc := 4) ok (1 : Int32) dX12_readPerson_4 ci_1 ?_
  refine r_ialdc (pc := 5) ok sh_228 (j := 3) rfl (i := 1) (by decide +kernel) (mx_r (by decide) (va_up_self _ _ _)) dX12_readPerson_5 ?_
  refine r_bndI (fun x1 => ?_)
  refine r_istore_n (pc := 6) ok dX12_readPerson_6 (Nat.le_of_ble_eq_true rfl) rfl ?_
  refine r_iload_n (pc := 7) ok dX12_readPerson_7 rfl ?_
  refine r_bipush (pc := 8) ok (8 : Int32) dX12_readPerson_8 cb_8 ?_
  refine r_icmp_ne (pc := 10) ok 19 dX12_readPerson_10 rfl (fun _ => ?_) (fun _ => ?_)
  · refine r_aload_n (pc := 13) ok dX12_readPerson_13 rfl ?_
    refine r_iconst (pc := 14) ok (4 : Int32) dX12_readPerson_14 ci_4 ?_
    refine k_I (pc := 15) (fun r2 => r2.1) (fun r2 => mx XX (va_up YY 225 r2.2)) (fun r2 hr_ => c_V (n := 1) ok cls12 sh_225 rfl ml_Mo_187 wv_X12_bad yk_X12_bad rfl (Nat.le_of_ble_eq_true rfl) (Nat.le_of_ble_eq_true rfl) (tMo_bad hr_) rfl (Nat.le_of_ble_eq_true rfl) dX12_readPerson_15) (fun r2 => ?_)
    exact r_zret (pc := 18) ok dX12_readPerson_18 rfl rfl
  · refine r_aload_n (pc := 19) ok dX12_readPerson_19 rfl ?_
    refine r_dup (pc := 20) ok dX12_readPerson_20 rfl ?_
    refine r_getI (pc := 21) ok cls12 sh_225 (k := 20) rfl (Nat.le_of_ble_eq_true rfl) (mx_r (by decide) (va_up_self _ _ _)) dX12_readPerson_21 fl_Mo_215 ?_
    refine r_iconst (pc := 24) ok (1 : Int32) dX12_readPerson_24 ci_1 ?_
    refine r_ior (pc := 25) ok dX12_readPerson_25 ?_
    refine r_putI (pc := 26) ok cls12 sh_225 (k := 20) rfl (Nat.le_of_ble_eq_true rfl) (fun s_ => mx XX (va_up YY 225 s_)) (pm_r _ _).1 (pm_r _ _).2 rfl rfl rfl dX12_readPerson_26 fl_Mo_215 (fun s3 => ?_)
    refine r_aload_n (pc := 29) ok dX12_readPerson_29 rfl ?_
    refine k_V (pc := 30)  (fun r4 => mx XX (va_up YY 225 r4)) (fun r4 hr_ => c_V (n := 0) ok cls12 sh_225 rfl ml_Mo_190 wv_X12_next yk_X12_next rfl (Nat.le_of_ble_eq_true rfl) (Nat.le_of_ble_eq_true rfl) (tMo_next hr_) rfl (Nat.le_of_ble_eq_true rfl) dX12_readPerson_30) (fun r4 => ?_)
    refine r_aload_n (pc := 33) ok dX12_readPerson_33 rfl ?_
    refine r_bipush (pc := 34) ok (20 : Int32) dX12_readPerson_34 cb_20 ?_
    refine r_iload_n (pc := 36) ok dX12_readPerson_36 rfl ?_
    refine r_iadd (pc := 37) ok dX12_readPerson_37 ?_
    refine k_I (pc := 38) (fun r5 => r5.1) (fun r5 => mx XX (va_up YY 225 r5.2)) (fun r5 hr_ => c_V (n := 1) ok cls12 sh_225 rfl ml_Mo_243 wv_X12_fresh yk_X12_fresh rfl (Nat.le_of_ble_eq_true rfl) (Nat.le_of_ble_eq_true rfl) (tMo_fresh hr_) rfl (Nat.le_of_ble_eq_true rfl) dX12_readPerson_38) (fun r5 => ?_)
    refine r_if_ne (pc := 41) ok 46 dX12_readPerson_41 rfl (fun _ => ?_) (fun _ => ?_)
    · refine r_iconst (pc := 44) ok (0 : Int32) dX12_readPerson_44 ci_0 ?_
      exact r_zret (pc := 45) ok dX12_readPerson_45 za_0 rfl
    · refine r_aload_n (pc := 46) ok dX12_readPerson_46 rfl ?_
      refine r_getR (pc := 47) ok cls12 sh_225 (k := 7) rfl (Nat.le_of_ble_eq_true rfl) rfl dX12_readPerson_47 fl_Mo_37 ?_
      refine r_bipush (pc := 50) ok (11 : Int32) dX12_readPerson_50 cb_11 ?_
      refine r_iload_n (pc := 52) ok dX12_readPerson_52 rfl ?_
      refine r_iadd (pc := 53) ok dX12_readPerson_53 ?_
      refine r_iconst (pc := 54) ok (0 : Int32) dX12_readPerson_54 ci_0 ?_
      refine r_iast (pc := 55) ok sh_228 (j := 3) rfl rfl (fun s_ => mx XX (va_up YY 225 s_)) (pm_r _ _).1 (pm_r _ _).2 dX12_readPerson_55 (fun i6 s7 => ?_)
      refine r_aload_n (pc := 56) ok dX12_readPerson_56 rfl ?_
      refine r_ldc2 (pc := 57) ok (500135193968 : Int64) dX12_readPerson_57 cl2_Mo_96 ?_
      refine k_I (pc := 60) (fun r8 => r8) (fun r8 => mx XX (va_up YY 225 s7)) (fun r8 hr_ => c_V (n := 1) ok cls12 sh_225 rfl ml_Mo_221 wv_X12_isWord yk_X12_isWord rfl (Nat.le_of_ble_eq_true rfl) (Nat.le_of_ble_eq_true rfl) (tMo_isWord (va_up_self _ _ _) hr_) rfl (Nat.le_of_ble_eq_true rfl) dX12_readPerson_60) (fun r8 => ?_)
      refine r_if_eq (pc := 63) ok 73 dX12_readPerson_63 rfl (fun _ => ?_) (fun _ => ?_)
      · refine r_aload_n (pc := 73) ok dX12_readPerson_73 rfl ?_
        refine r_bipush (pc := 74) ok (14 : Int32) dX12_readPerson_74 cb_14 ?_
        refine r_aload_n (pc := 76) ok dX12_readPerson_76 rfl ?_
        refine r_getR (pc := 77) ok cls12 sh_225 (k := 7) rfl (Nat.le_of_ble_eq_true rfl) rfl dX12_readPerson_77 fl_Mo_37 ?_
        refine r_iconst (pc := 80) ok (0 : Int32) dX12_readPerson_80 ci_0 ?_
        refine r_ialdc (pc := 81) ok sh_228 (j := 3) rfl (i := 0) (by decide +kernel) (mx_r (by decide) (va_up_self _ _ _)) dX12_readPerson_81 ?_
        refine k_I (pc := 82) (fun r9 => r9.1) (fun r9 => mx XX (va_up YY 225 r9.2)) (fun r9 hr_ => c_V (n := 2) ok cls12 sh_225 rfl ml_Mo_249 wv_X12_takesName yk_X12_takesName rfl (Nat.le_of_ble_eq_true rfl) (Nat.le_of_ble_eq_true rfl) (tMo_takesName hr_) rfl (Nat.le_of_ble_eq_true rfl) dX12_readPerson_82) (fun r9 => ?_)
        refine r_if_ne (pc := 85) ok 90 dX12_readPerson_85 rfl (fun _ => ?_) (fun _ => ?_)
        · refine r_iconst (pc := 88) ok (0 : Int32) dX12_readPerson_88 ci_0 ?_
          exact r_zret (pc := 89) ok dX12_readPerson_89 za_0 rfl
        · refine r_aload_n (pc := 90) ok dX12_readPerson_90 rfl ?_
          refine r_getR (pc := 91) ok cls12 sh_225 (k := 7) rfl (Nat.le_of_ble_eq_true rfl) rfl dX12_readPerson_91 fl_Mo_37 ?_
          refine r_bipush (pc := 94) ok (11 : Int32) dX12_readPerson_94 cb_11 ?_
          refine r_iload_n (pc := 96) ok dX12_readPerson_96 rfl ?_
          refine r_iadd (pc := 97) ok dX12_readPerson_97 ?_
          refine r_aload_n (pc := 98) ok dX12_readPerson_98 rfl ?_
          refine r_getI (pc := 99) ok cls12 sh_225 (k := 18) rfl (Nat.le_of_ble_eq_true rfl) (mx_r (by decide) (va_up_self _ _ _)) dX12_readPerson_99 fl_Mo_197 ?_
          refine r_iconst (pc := 102) ok (1 : Int32) dX12_readPerson_102 ci_1 ?_
          refine r_iadd (pc := 103) ok dX12_readPerson_103 ?_
          refine r_iast (pc := 104) ok sh_228 (j := 3) rfl rfl (fun s_ => mx XX (va_up YY 225 s_)) (pm_r _ _).1 (pm_r _ _).2 dX12_readPerson_104 (fun i10 s11 => ?_)
          exact wMo_readPerson_J105 ok
      · refine r_aload_n (pc := 66) ok dX12_readPerson_66 rfl ?_
        refine k_V (pc := 67)  (fun r28 => mx XX (va_up YY 225 r28)) (fun r28 hr_ => c_V (n := 0) ok cls12 sh_225 rfl ml_Mo_190 wv_X12_next yk_X12_next rfl (Nat.le_of_ble_eq_true rfl) (Nat.le_of_ble_eq_true rfl) (tMo_next hr_) rfl (Nat.le_of_ble_eq_true rfl) dX12_readPerson_67) (fun r28 => ?_)
        refine r_goto (pc := 70) ok 105 dX12_readPerson_70 rfl ?_
        exact wMo_readPerson_J105 ok
theorem tMo_readPerson {l : Launch} {G : Gx} {b : Nat} {XX YY : Nat → Obj} {m : Obj} {r : Int32 × Obj} (hr : fMo_readPerson m = some r) : MetG l G b yX12_readPerson cX12_readPerson 4 (some .boolean) 4 [.ref (b + 225)] (mx XX (va_up YY 225 m)) (qI G b r.1 (mx XX (va_up YY 225 r.2))) := by
  refine met_start [some (.ref (b + 225)), none, none, none] (by decide +kernel) (Nat.le_of_ble_eq_true rfl) rfl (fun Z hl ok => ?_)
  clear hl
  exact vMo_readPerson ok r (by rw [hr]; rfl)
theorem wMo_readKnows_J70 {Z : Cx} {G : Gx} {b : Nat} {XX YY : Nat → Obj} {m : Obj} (ok : OK Z G b cX12_readKnows 2 3 RX12 (some .boolean)) : VO Z G b 2 (fun (r : Int32 × Obj) => QX Z b (qI G b r.1 (mx XX (va_up YY 225 r.2)))) (mx XX (va_up YY 225 m)) 70 [some (.ref (b + 225)), none] [] ((fMo_readKnows_J70 m).bind some) := by
  unfold fMo_readKnows_J70
  refine r_aload_n (pc := 70) ok dX12_readKnows_70 rfl ?_
  refine r_iconst (pc := 71) ok (3 : Int32) dX12_readKnows_71 ci_3 ?_
  refine k_I (pc := 72) (fun r5 => r5.1) (fun r5 => mx XX (va_up YY 225 r5.2)) (fun r5 hr_ => c_V (n := 1) ok cls12 sh_225 rfl ml_Mo_187 wv_X12_bad yk_X12_bad rfl (Nat.le_of_ble_eq_true rfl) (Nat.le_of_ble_eq_true rfl) (tMo_bad hr_) rfl (Nat.le_of_ble_eq_true rfl) dX12_readKnows_72) (fun r5 => ?_)
  exact r_zret (pc := 75) ok dX12_readKnows_75 rfl rfl
theorem vMo_readKnows {Z : Cx} {G : Gx} {b : Nat} {XX YY : Nat → Obj} {m : Obj} (ok : OK Z G b cX12_readKnows 2 3 RX12 (some .boolean)) : VO Z G b 2 (fun (r : Int32 × Obj) => QX Z b (qI G b r.1 (mx XX (va_up YY 225 r.2)))) (mx XX (va_up YY 225 m)) 0 [some (.ref (b + 225)), none] [] ((fMo_readKnows m).bind some) := by
  unfold fMo_readKnows
  refine r_aload_n (pc := 0) ok dX12_readKnows_0 rfl ?_
  refine k_V (pc := 1)  (fun r1 => mx XX (va_up YY 225 r1)) (fun r1 hr_ => c_V (n := 0) ok cls12 sh_225 rfl ml_Mo_190 wv_X12_next yk_X12_next rfl (Nat.le_of_ble_eq_true rfl) (Nat.le_of_ble_eq_true rfl) (tMo_next hr_) rfl (Nat.le_of_ble_eq_true rfl) dX12_readKnows_1) (fun r1 => ?_)
  refine r_aload_n (pc := 4) ok dX12_readKnows_4 rfl ?_
  refine r_bipush (pc := 5) ok (20 : Int32) dX12_readKnows_5 cb_20 ?_
  refine r_aload_n (pc := 7) ok dX12_readKnows_7 rfl ?_
  refine r_getR (pc := 8) ok cls12 sh_225 (k := 7) rfl (Nat.le_of_ble_eq_true rfl) rfl dX12_readKnows_8 fl_Mo_37 ?_
  refine r_iconst (pc := 11) ok (1 : Int32) dX12_readKnows_11 ci_1 ?_
  refine r_ialdc (pc := 12) ok sh_228 (j := 3) rfl (i := 1) (by decide +kernel) (mx_r (by decide) (va_up_self _ _ _)) dX12_readKnows_12 ?_
  refine k_I (pc := 13) (fun r2 => r2.1) (fun r2 => mx XX (va_up YY 225 r2.2)) (fun r2 hr_ => c_V (n := 2) ok cls12 sh_225 rfl ml_Mo_249 wv_X12_takesName yk_X12_takesName rfl (Nat.le_of_ble_eq_true rfl) (Nat.le_of_ble_eq_true rfl) (tMo_takesName hr_) rfl (Nat.le_of_ble_eq_true rfl) dX12_readKnows_13) (fun r2 => ?_)
  refine r_if_ne (pc := 16) ok 21 dX12_readKnows_16 rfl (fun _ => ?_) (fun _ => ?_)
  · refine r_iconst (pc := 19) ok (0 : Int32) dX12_readKnows_19 ci_0 ?_
    exact r_zret (pc := 20) ok dX12_readKnows_20 za_0 rfl
  · refine r_aload_n (pc := 21) ok dX12_readKnows_21 rfl ?_
    refine r_getI (pc := 22) ok cls12 sh_225 (k := 18) rfl (Nat.le_of_ble_eq_true rfl) (mx_r (by decide) (va_up_self _ _ _)) dX12_readKnows_22 fl_Mo_197 ?_
    refine r_bndI (fun x3 => ?_)
    refine r_istore_n (pc := 25) ok dX12_readKnows_25 (Nat.le_of_ble_eq_true rfl) rfl ?_
    refine r_aload_n (pc := 26) ok dX12_readKnows_26 rfl ?_
    refine r_bipush (pc := 27) ok (20 : Int32) dX12_readKnows_27 cb_20 ?_
    refine r_aload_n (pc := 29) ok dX12_readKnows_29 rfl ?_
    refine r_getR (pc := 30) ok cls12 sh_225 (k := 7) rfl (Nat.le_of_ble_eq_true rfl) rfl dX12_readKnows_30 fl_Mo_37 ?_
    refine r_iconst (pc := 33) ok (1 : Int32) dX12_readKnows_33 ci_1 ?_
    refine r_ialdc (pc := 34) ok sh_228 (j := 3) rfl (i := 1) (by decide +kernel) (mx_r (by decide) (va_up_self _ _ _)) dX12_readKnows_34 ?_
    refine k_I (pc := 35) (fun r4 => r4.1) (fun r4 => mx XX (va_up YY 225 r4.2)) (fun r4 hr_ => c_V (n := 2) ok cls12 sh_225 rfl ml_Mo_212 wv_X12_looksAt yk_X12_looksAt rfl (Nat.le_of_ble_eq_true rfl) (Nat.le_of_ble_eq_true rfl) (tMo_looksAt hr_) rfl (Nat.le_of_ble_eq_true rfl) dX12_readKnows_35) (fun r4 => ?_)
    refine r_if_ne (pc := 38) ok 43 dX12_readKnows_38 rfl (fun _ => ?_) (fun _ => ?_)
    · refine r_iconst (pc := 41) ok (0 : Int32) dX12_readKnows_41 ci_0 ?_
      exact r_zret (pc := 42) ok dX12_readKnows_42 za_0 rfl
    · refine r_aload_n (pc := 43) ok dX12_readKnows_43 rfl ?_
      refine r_getI (pc := 44) ok cls12 sh_225 (k := 18) rfl (Nat.le_of_ble_eq_true rfl) (mx_r (by decide) (va_up_self _ _ _)) dX12_readKnows_44 fl_Mo_197 ?_
      refine r_iload_n (pc := 47) ok dX12_readKnows_47 rfl ?_
      refine r_icmp_eq (pc := 48) ok 70 dX12_readKnows_48 rfl (fun _ => ?_) (fun _ => ?_)
      · refine r_lv (lk_s (lk_n lk_0 _) _) ?_
        exact wMo_readKnows_J70 ok
      · refine r_aload_n (pc := 51) ok dX12_readKnows_51 rfl ?_
        refine r_getR (pc := 52) ok cls12 sh_225 (k := 7) rfl (Nat.le_of_ble_eq_true rfl) rfl dX12_readKnows_52 fl_Mo_37 ?_
        refine r_bipush (pc := 55) ok (36 : Int32) dX12_readKnows_55 cb_36 ?_
        refine r_iload_n (pc := 57) ok dX12_readKnows_57 rfl ?_
        refine r_iadd (pc := 58) ok dX12_readKnows_58 ?_
        refine r_iald (pc := 59) ok sh_228 (j := 3) rfl (mx_r (by decide) (va_up_self _ _ _)) dX12_readKnows_59 (fun i6 => ?_)
        refine r_aload_n (pc := 60) ok dX12_readKnows_60 rfl ?_
        refine r_getI (pc := 61) ok cls12 sh_225 (k := 18) rfl (Nat.le_of_ble_eq_true rfl) (mx_r (by decide) (va_up_self _ _ _)) dX12_readKnows_61 fl_Mo_197 ?_
        refine k_I (pc := 64) (fun r7 => r7) (fun r7 => mx XX (va_up YY 225 r4.2)) (fun r7 hr_ => c_S (n := 2) ok ml_Mo_218 ws_X12_bitOf yk_X12_bitOf rfl (Nat.le_of_ble_eq_true rfl) (Nat.le_of_ble_eq_true rfl) (tMo_bitOf hr_) rfl (Nat.le_of_ble_eq_true rfl) dX12_readKnows_64) (fun r7 => ?_)
        refine r_if_eq (pc := 67) ok 76 dX12_readKnows_67 rfl (fun _ => ?_) (fun _ => ?_)
        · refine r_aload_n (pc := 76) ok dX12_readKnows_76 rfl ?_
          refine r_getR (pc := 77) ok cls12 sh_225 (k := 7) rfl (Nat.le_of_ble_eq_true rfl) rfl dX12_readKnows_77 fl_Mo_37 ?_
          refine r_bipush (pc := 80) ok (36 : Int32) dX12_readKnows_80 cb_36 ?_
          refine r_iload_n (pc := 82) ok dX12_readKnows_82 rfl ?_
          refine r_aload_n (pc := 83) ok dX12_readKnows_83 rfl ?_
          refine r_getI (pc := 84) ok cls12 sh_225 (k := 18) rfl (Nat.le_of_ble_eq_true rfl) (mx_r (by decide) (va_up_self _ _ _)) dX12_readKnows_84 fl_Mo_197 ?_
          refine k_V (pc := 87)  (fun r8 => mx XX (va_up YY 225 r8)) (fun r8 hr_ => c_S (n := 4) ok ml_Mo_255 ws_X12_knowsIn yk_X12_knowsIn rfl (Nat.le_of_ble_eq_true rfl) (Nat.le_of_ble_eq_true rfl) (tMo_knowsIn_3 hr_) rfl (Nat.le_of_ble_eq_true rfl) dX12_readKnows_87) (fun r8 => ?_)
          refine r_aload_n (pc := 90) ok dX12_readKnows_90 rfl ?_
          refine k_V (pc := 91)  (fun r9 => mx XX (va_up YY 225 r9)) (fun r9 hr_ => c_V (n := 0) ok cls12 sh_225 rfl ml_Mo_190 wv_X12_next yk_X12_next rfl (Nat.le_of_ble_eq_true rfl) (Nat.le_of_ble_eq_true rfl) (tMo_next hr_) rfl (Nat.le_of_ble_eq_true rfl) dX12_readKnows_91) (fun r9 => ?_)
          refine r_iconst (pc := 94) ok (1 : Int32) dX12_readKnows_94 ci_1 ?_
          exact r_zret (pc := 95) ok dX12_readKnows_95 za_1 rfl
        · refine r_lv (lk_s (lk_n lk_0 _) _) ?_
          exact wMo_readKnows_J70 ok
theorem tMo_readKnows {l : Launch} {G : Gx} {b : Nat} {XX YY : Nat → Obj} {m : Obj} {r : Int32 × Obj} (hr : fMo_readKnows m = some r) : MetG l G b yX12_readKnows cX12_readKnows 2 (some .boolean) 3 [.ref (b + 225)] (mx XX (va_up YY 225 m)) (qI G b r.1 (mx XX (va_up YY 225 r.2))) := by
  refine met_start [some (.ref (b + 225)), none] (by decide +kernel) (Nat.le_of_ble_eq_true rfl) rfl (fun Z hl ok => ?_)
  clear hl
  exact vMo_readKnows ok r (by rw [hr]; rfl)
theorem wMo_readCalls_L90 {Z : Cx} {G : Gx} {b : Nat} {XX YY : Nat → Obj} {m : Obj} {v1 : Int32} {v2 : Int32} (ok : OK Z G b cX12_readCalls 5 3 RX12 (some .boolean)) {K : ((Int32 × Int32) ⊕ (Int32)) → Option (Int32 × Obj)} (hc : ∀ (a : Int32 × Int32), VO Z G b 5 (fun (r : Int32 × Obj) => QX Z b (qI G b r.1 (mx XX (va_up YY 225 r.2)))) (mx XX (va_up YY 225 m)) 90 [some (.ref (b + 225)), some (.int v1), some (.int v2), some (.int a.1), some (.int a.2)] [] (K (.inl a))) (hx : ∀ (e : Int32), VO Z G b 5 (fun (r : Int32 × Obj) => QX Z b (qI G b r.1 (mx XX (va_up YY 225 r.2)))) (mx XX (va_up YY 225 m)) 143 [some (.ref (b + 225)), some (.int v1), some (.int v2), some (.int e), none] [] (K (.inr e))) : ∀ (a : Int32 × Int32), VO Z G b 5 (fun (r : Int32 × Obj) => QX Z b (qI G b r.1 (mx XX (va_up YY 225 r.2)))) (mx XX (va_up YY 225 m)) 90 [some (.ref (b + 225)), some (.int v1), some (.int v2), some (.int a.1), some (.int a.2)] [] ((fMo_readCalls_L90 m v1 v2 a).bind K) := by
  intro a
  unfold fMo_readCalls_L90
  refine r_iload (pc := 90) ok dX12_readCalls_90 rfl ?_
  refine r_iload_n (pc := 92) ok dX12_readCalls_92 rfl ?_
  refine r_icmp_ge (pc := 93) ok 143 dX12_readCalls_93 rfl (fun _ => ?_) (fun _ => ?_)
  · refine r_lv (lk_s (lk_s (lk_s (lk_s (lk_n lk_0 _) _) _) _) _) ?_
    exact hx a.1
  · refine r_iload_n (pc := 96) ok dX12_readCalls_96 rfl ?_
    refine r_if_ne (pc := 97) ok 131 dX12_readCalls_97 rfl (fun _ => ?_) (fun _ => ?_)
    · refine r_aload_n (pc := 100) ok dX12_readCalls_100 rfl ?_
      refine r_getR (pc := 101) ok cls12 sh_225 (k := 7) rfl (Nat.le_of_ble_eq_true rfl) rfl dX12_readCalls_101 fl_Mo_37 ?_
      refine r_bipush (pc := 104) ok (45 : Int32) dX12_readCalls_104 cb_45 ?_
      refine r_iload (pc := 106) ok dX12_readCalls_106 rfl ?_
      refine r_iadd (pc := 108) ok dX12_readCalls_108 ?_
      refine r_iald (pc := 109) ok sh_228 (j := 3) rfl (mx_r (by decide) (va_up_self _ _ _)) dX12_readCalls_109 (fun i8 => ?_)
      refine r_iload_n (pc := 110) ok dX12_readCalls_110 rfl ?_
      refine r_icmp_ne (pc := 111) ok 135 dX12_readCalls_111 rfl (fun _ => ?_) (fun _ => ?_)
      · refine r_aload_n (pc := 114) ok dX12_readCalls_114 rfl ?_
        refine r_getR (pc := 115) ok cls12 sh_225 (k := 7) rfl (Nat.le_of_ble_eq_true rfl) rfl dX12_readCalls_115 fl_Mo_37 ?_
        refine r_bipush (pc := 118) ok (57 : Int32) dX12_readCalls_118 cb_57 ?_
        refine r_iload (pc := 120) ok dX12_readCalls_120 rfl ?_
        refine r_iadd (pc := 122) ok dX12_readCalls_122 ?_
        refine r_iald (pc := 123) ok sh_228 (j := 3) rfl (mx_r (by decide) (va_up_self _ _ _)) dX12_readCalls_123 (fun i9 => ?_)
        refine r_aload_n (pc := 124) ok dX12_readCalls_124 rfl ?_
        refine r_getI (pc := 125) ok cls12 sh_225 (k := 18) rfl (Nat.le_of_ble_eq_true rfl) (mx_r (by decide) (va_up_self _ _ _)) dX12_readCalls_125 fl_Mo_197 ?_
        refine r_icmp_ne (pc := 128) ok 135 dX12_readCalls_128 rfl (fun _ => ?_) (fun _ => ?_)
        · refine r_iconst (pc := 131) ok (1 : Int32) dX12_readCalls_131 ci_1 ?_
          refine r_goto (pc := 132) ok 136 dX12_readCalls_132 rfl ?_
          refine r_istore_n (pc := 136) ok dX12_readCalls_136 (Nat.le_of_ble_eq_true rfl) rfl ?_
          refine r_iinc (pc := 137) ok (1 : Int32) dX12_readCalls_137 ci_1 rfl (Nat.le_of_ble_eq_true rfl) rfl ?_
          refine r_goto (pc := 140) ok 90 dX12_readCalls_140 rfl ?_
          exact hc ((1 : Int32), (a.2 + (1 : Int32)))
        · refine r_iconst (pc := 135) ok (0 : Int32) dX12_readCalls_135 ci_0 ?_
          refine r_istore_n (pc := 136) ok dX12_readCalls_136 (Nat.le_of_ble_eq_true rfl) rfl ?_
          refine r_iinc (pc := 137) ok (1 : Int32) dX12_readCalls_137 ci_1 rfl (Nat.le_of_ble_eq_true rfl) rfl ?_
          refine r_goto (pc := 140) ok 90 dX12_readCalls_140 rfl ?_
          exact hc ((0 : Int32), (a.2 + (1 : Int32)))
      · refine r_iconst (pc := 135) ok (0 : Int32) dX12_readCalls_135 ci_0 ?_
        refine r_istore_n (pc := 136) ok dX12_readCalls_136 (Nat.le_of_ble_eq_true rfl) rfl ?_
        refine r_iinc (pc := 137) ok (1 : Int32) dX12_readCalls_137 ci_1 rfl (Nat.le_of_ble_eq_true rfl) rfl ?_
        refine r_goto (pc := 140) ok 90 dX12_readCalls_140 rfl ?_
        exact hc ((0 : Int32), (a.2 + (1 : Int32)))
    · refine r_iconst (pc := 131) ok (1 : Int32) dX12_readCalls_131 ci_1 ?_
      refine r_goto (pc := 132) ok 136 dX12_readCalls_132 rfl ?_
      refine r_istore_n (pc := 136) ok dX12_readCalls_136 (Nat.le_of_ble_eq_true rfl) rfl ?_
      refine r_iinc (pc := 137) ok (1 : Int32) dX12_readCalls_137 ci_1 rfl (Nat.le_of_ble_eq_true rfl) rfl ?_
      refine r_goto (pc := 140) ok 90 dX12_readCalls_140 rfl ?_
      exact hc ((1 : Int32), (a.2 + (1 : Int32)))
theorem wMo_readCalls_J86 {Z : Cx} {G : Gx} {b : Nat} {XX YY : Nat → Obj} {m : Obj} {v1 : Int32} {v2 : Int32} {k0 : Int32} (ok : OK Z G b cX12_readCalls 5 3 RX12 (some .boolean)) : VO Z G b 5 (fun (r : Int32 × Obj) => QX Z b (qI G b r.1 (mx XX (va_up YY 225 r.2)))) (mx XX (va_up YY 225 m)) 86 [some (.ref (b + 225)), some (.int v1), some (.int v2), none, none] [.int k0] ((fMo_readCalls_J86 m v1 v2 k0).bind some) := by
  unfold fMo_readCalls_J86
  refine r_istore_n (pc := 86) ok dX12_readCalls_86 (Nat.le_of_ble_eq_true rfl) rfl ?_
  refine r_iconst (pc := 87) ok (0 : Int32) dX12_readCalls_87 ci_0 ?_
  refine r_istore (pc := 88) ok dX12_readCalls_88 (Nat.le_of_ble_eq_true rfl) rfl ?_
  refine r_iter (P := fun (a90 : Int32 × Int32) o => VO Z G b 5 (fun (r : Int32 × Obj) => QX Z b (qI G b r.1 (mx XX (va_up YY 225 r.2)))) (mx XX (va_up YY 225 m)) 90 [some (.ref (b + 225)), some (.int v1), some (.int v2), some (.int a90.1), some (.int a90.2)] [] o) (E := fun (e_90 : Int32) o => VO Z G b 5 (fun (r : Int32 × Obj) => QX Z b (qI G b r.1 (mx XX (va_up YY 225 r.2)))) (mx XX (va_up YY 225 m)) 143 [some (.ref (b + 225)), some (.int v1), some (.int v2), some (.int e_90), none] [] o) (fun _ => r_none) (fun K hc hx => wMo_readCalls_L90 ok (K := K) hc hx) (fun e10 => ?_) FU (k0, (0 : Int32))
  refine r_iload_n (pc := 143) ok dX12_readCalls_143 rfl ?_
  refine r_if_eq (pc := 144) ok 153 dX12_readCalls_144 rfl (fun _ => ?_) (fun _ => ?_)
  · refine r_aload_n (pc := 153) ok dX12_readCalls_153 rfl ?_
    refine r_getR (pc := 154) ok cls12 sh_225 (k := 7) rfl (Nat.le_of_ble_eq_true rfl) rfl dX12_readCalls_154 fl_Mo_37 ?_
    refine r_bipush (pc := 157) ok (45 : Int32) dX12_readCalls_157 cb_45 ?_
    refine r_iload_n (pc := 159) ok dX12_readCalls_159 rfl ?_
    refine r_iadd (pc := 160) ok dX12_readCalls_160 ?_
    refine r_iload_n (pc := 161) ok dX12_readCalls_161 rfl ?_
    refine r_iast (pc := 162) ok sh_228 (j := 3) rfl rfl (fun s_ => mx XX (va_up YY 225 s_)) (pm_r _ _).1 (pm_r _ _).2 dX12_readCalls_162 (fun i11 s12 => ?_)
    refine r_aload_n (pc := 163) ok dX12_readCalls_163 rfl ?_
    refine r_getR (pc := 164) ok cls12 sh_225 (k := 7) rfl (Nat.le_of_ble_eq_true rfl) rfl dX12_readCalls_164 fl_Mo_37 ?_
    refine r_bipush (pc := 167) ok (57 : Int32) dX12_readCalls_167 cb_57 ?_
    refine r_iload_n (pc := 169) ok dX12_readCalls_169 rfl ?_
    refine r_iadd (pc := 170) ok dX12_readCalls_170 ?_
    refine r_aload_n (pc := 171) ok dX12_readCalls_171 rfl ?_
    refine r_getI (pc := 172) ok cls12 sh_225 (k := 18) rfl (Nat.le_of_ble_eq_true rfl) (mx_r (by decide) (va_up_self _ _ _)) dX12_readCalls_172 fl_Mo_197 ?_
    refine r_iast (pc := 175) ok sh_228 (j := 3) rfl rfl (fun s_ => mx XX (va_up YY 225 s_)) (pm_r _ _).1 (pm_r _ _).2 dX12_readCalls_175 (fun i13 s14 => ?_)
    refine r_aload_n (pc := 176) ok dX12_readCalls_176 rfl ?_
    refine r_getR (pc := 177) ok cls12 sh_225 (k := 7) rfl (Nat.le_of_ble_eq_true rfl) rfl dX12_readCalls_177 fl_Mo_37 ?_
    refine r_bipush (pc := 180) ok (44 : Int32) dX12_readCalls_180 cb_44 ?_
    refine r_dup2 (pc := 182) ok dX12_readCalls_182 rfl rfl ?_
    refine r_ialdc (pc := 183) ok sh_228 (j := 3) rfl (i := 44) (by decide +kernel) (mx_r (by decide) (va_up_self _ _ _)) dX12_readCalls_183 ?_
    refine r_iconst (pc := 184) ok (1 : Int32) dX12_readCalls_184 ci_1 ?_
    refine r_iadd (pc := 185) ok dX12_readCalls_185 ?_
    refine r_iastc (pc := 186) ok sh_228 (j := 3) rfl (i := 44) (by decide +kernel) rfl (fun s_ => mx XX (va_up YY 225 s_)) (pm_r _ _).1 (pm_r _ _).2 dX12_readCalls_186 (fun s15 => ?_)
    refine r_aload_n (pc := 187) ok dX12_readCalls_187 rfl ?_
    refine k_V (pc := 188)  (fun r16 => mx XX (va_up YY 225 r16)) (fun r16 hr_ => c_V (n := 0) ok cls12 sh_225 rfl ml_Mo_190 wv_X12_next yk_X12_next rfl (Nat.le_of_ble_eq_true rfl) (Nat.le_of_ble_eq_true rfl) (tMo_next hr_) rfl (Nat.le_of_ble_eq_true rfl) dX12_readCalls_188) (fun r16 => ?_)
    refine r_iconst (pc := 191) ok (1 : Int32) dX12_readCalls_191 ci_1 ?_
    exact r_zret (pc := 192) ok dX12_readCalls_192 za_1 rfl
  · refine r_aload_n (pc := 147) ok dX12_readCalls_147 rfl ?_
    refine r_iconst (pc := 148) ok (3 : Int32) dX12_readCalls_148 ci_3 ?_
    refine k_I (pc := 149) (fun r17 => r17.1) (fun r17 => mx XX (va_up YY 225 r17.2)) (fun r17 hr_ => c_V (n := 1) ok cls12 sh_225 rfl ml_Mo_187 wv_X12_bad yk_X12_bad rfl (Nat.le_of_ble_eq_true rfl) (Nat.le_of_ble_eq_true rfl) (tMo_bad hr_) rfl (Nat.le_of_ble_eq_true rfl) dX12_readCalls_149) (fun r17 => ?_)
    exact r_zret (pc := 152) ok dX12_readCalls_152 rfl rfl
theorem vMo_readCalls {Z : Cx} {G : Gx} {b : Nat} {XX YY : Nat → Obj} {m : Obj} (ok : OK Z G b cX12_readCalls 5 3 RX12 (some .boolean)) : VO Z G b 5 (fun (r : Int32 × Obj) => QX Z b (qI G b r.1 (mx XX (va_up YY 225 r.2)))) (mx XX (va_up YY 225 m)) 0 [some (.ref (b + 225)), none, none, none, none] [] ((fMo_readCalls m).bind some) := by
  unfold fMo_readCalls
  refine r_aload_n (pc := 0) ok dX12_readCalls_0 rfl ?_
  refine r_getR (pc := 1) ok cls12 sh_225 (k := 7) rfl (Nat.le_of_ble_eq_true rfl) rfl dX12_readCalls_1 fl_Mo_37 ?_
  refine r_bipush (pc := 4) ok (44 : Int32) dX12_readCalls_4 cb_44 ?_
  refine r_ialdc (pc := 6) ok sh_228 (j := 3) rfl (i := 44) (by decide +kernel) (mx_r (by decide) (va_up_self _ _ _)) dX12_readCalls_6 ?_
  refine r_bndI (fun x1 => ?_)
  refine r_istore_n (pc := 7) ok dX12_readCalls_7 (Nat.le_of_ble_eq_true rfl) rfl ?_
  refine r_iload_n (pc := 8) ok dX12_readCalls_8 rfl ?_
  refine r_bipush (pc := 9) ok (12 : Int32) dX12_readCalls_9 cb_12 ?_
  refine r_icmp_ne (pc := 11) ok 20 dX12_readCalls_11 rfl (fun _ => ?_) (fun _ => ?_)
  · refine r_aload_n (pc := 14) ok dX12_readCalls_14 rfl ?_
    refine r_iconst (pc := 15) ok (4 : Int32) dX12_readCalls_15 ci_4 ?_
    refine k_I (pc := 16) (fun r2 => r2.1) (fun r2 => mx XX (va_up YY 225 r2.2)) (fun r2 hr_ => c_V (n := 1) ok cls12 sh_225 rfl ml_Mo_187 wv_X12_bad yk_X12_bad rfl (Nat.le_of_ble_eq_true rfl) (Nat.le_of_ble_eq_true rfl) (tMo_bad hr_) rfl (Nat.le_of_ble_eq_true rfl) dX12_readCalls_16) (fun r2 => ?_)
    exact r_zret (pc := 19) ok dX12_readCalls_19 rfl rfl
  · refine r_aload_n (pc := 20) ok dX12_readCalls_20 rfl ?_
    refine k_V (pc := 21)  (fun r3 => mx XX (va_up YY 225 r3)) (fun r3 hr_ => c_V (n := 0) ok cls12 sh_225 rfl ml_Mo_190 wv_X12_next yk_X12_next rfl (Nat.le_of_ble_eq_true rfl) (Nat.le_of_ble_eq_true rfl) (tMo_next hr_) rfl (Nat.le_of_ble_eq_true rfl) dX12_readCalls_21) (fun r3 => ?_)
    refine r_aload_n (pc := 24) ok dX12_readCalls_24 rfl ?_
    refine r_bipush (pc := 25) ok (20 : Int32) dX12_readCalls_25 cb_20 ?_
    refine r_aload_n (pc := 27) ok dX12_readCalls_27 rfl ?_
    refine r_getR (pc := 28) ok cls12 sh_225 (k := 7) rfl (Nat.le_of_ble_eq_true rfl) rfl dX12_readCalls_28 fl_Mo_37 ?_
    refine r_iconst (pc := 31) ok (1 : Int32) dX12_readCalls_31 ci_1 ?_
    refine r_ialdc (pc := 32) ok sh_228 (j := 3) rfl (i := 1) (by decide +kernel) (mx_r (by decide) (va_up_self _ _ _)) dX12_readCalls_32 ?_
    refine k_I (pc := 33) (fun r4 => r4.1) (fun r4 => mx XX (va_up YY 225 r4.2)) (fun r4 hr_ => c_V (n := 2) ok cls12 sh_225 rfl ml_Mo_249 wv_X12_takesName yk_X12_takesName rfl (Nat.le_of_ble_eq_true rfl) (Nat.le_of_ble_eq_true rfl) (tMo_takesName hr_) rfl (Nat.le_of_ble_eq_true rfl) dX12_readCalls_33) (fun r4 => ?_)
    refine r_if_ne (pc := 36) ok 41 dX12_readCalls_36 rfl (fun _ => ?_) (fun _ => ?_)
    · refine r_iconst (pc := 39) ok (0 : Int32) dX12_readCalls_39 ci_0 ?_
      exact r_zret (pc := 40) ok dX12_readCalls_40 za_0 rfl
    · refine r_aload_n (pc := 41) ok dX12_readCalls_41 rfl ?_
      refine r_getI (pc := 42) ok cls12 sh_225 (k := 18) rfl (Nat.le_of_ble_eq_true rfl) (mx_r (by decide) (va_up_self _ _ _)) dX12_readCalls_42 fl_Mo_197 ?_
      refine r_bndI (fun x5 => ?_)
      refine r_istore_n (pc := 45) ok dX12_readCalls_45 (Nat.le_of_ble_eq_true rfl) rfl ?_
      refine r_aload_n (pc := 46) ok dX12_readCalls_46 rfl ?_
      refine r_bipush (pc := 47) ok (14 : Int32) dX12_readCalls_47 cb_14 ?_
      refine r_aload_n (pc := 49) ok dX12_readCalls_49 rfl ?_
      refine r_getR (pc := 50) ok cls12 sh_225 (k := 7) rfl (Nat.le_of_ble_eq_true rfl) rfl dX12_readCalls_50 fl_Mo_37 ?_
      refine r_iconst (pc := 53) ok (0 : Int32) dX12_readCalls_53 ci_0 ?_
      refine r_ialdc (pc := 54) ok sh_228 (j := 3) rfl (i := 0) (by decide +kernel) (mx_r (by decide) (va_up_self _ _ _)) dX12_readCalls_54 ?_
      refine k_I (pc := 55) (fun r6 => r6.1) (fun r6 => mx XX (va_up YY 225 r6.2)) (fun r6 hr_ => c_V (n := 2) ok cls12 sh_225 rfl ml_Mo_212 wv_X12_looksAt yk_X12_looksAt rfl (Nat.le_of_ble_eq_true rfl) (Nat.le_of_ble_eq_true rfl) (tMo_looksAt hr_) rfl (Nat.le_of_ble_eq_true rfl) dX12_readCalls_55) (fun r6 => ?_)
      refine r_if_ne (pc := 58) ok 63 dX12_readCalls_58 rfl (fun _ => ?_) (fun _ => ?_)
      · refine r_iconst (pc := 61) ok (0 : Int32) dX12_readCalls_61 ci_0 ?_
        exact r_zret (pc := 62) ok dX12_readCalls_62 za_0 rfl
      · refine r_aload_n (pc := 63) ok dX12_readCalls_63 rfl ?_
        refine r_getR (pc := 64) ok cls12 sh_225 (k := 7) rfl (Nat.le_of_ble_eq_true rfl) rfl dX12_readCalls_64 fl_Mo_37 ?_
        refine r_bipush (pc := 67) ok (11 : Int32) dX12_readCalls_67 cb_11 ?_
        refine r_iload_n (pc := 69) ok dX12_readCalls_69 rfl ?_
        refine r_iadd (pc := 70) ok dX12_readCalls_70 ?_
        refine r_iald (pc := 71) ok sh_228 (j := 3) rfl (mx_r (by decide) (va_up_self _ _ _)) dX12_readCalls_71 (fun i7 => ?_)
        refine r_aload_n (pc := 72) ok dX12_readCalls_72 rfl ?_
        refine r_getI (pc := 73) ok cls12 sh_225 (k := 18) rfl (Nat.le_of_ble_eq_true rfl) (mx_r (by decide) (va_up_self _ _ _)) dX12_readCalls_73 fl_Mo_197 ?_
        refine r_iconst (pc := 76) ok (1 : Int32) dX12_readCalls_76 ci_1 ?_
        refine r_iadd (pc := 77) ok dX12_readCalls_77 ?_
        refine r_icmp_ne (pc := 78) ok 85 dX12_readCalls_78 rfl (fun _ => ?_) (fun _ => ?_)
        · refine r_iconst (pc := 81) ok (1 : Int32) dX12_readCalls_81 ci_1 ?_
          refine r_goto (pc := 82) ok 86 dX12_readCalls_82 rfl ?_
          exact wMo_readCalls_J86 ok
        · refine r_iconst (pc := 85) ok (0 : Int32) dX12_readCalls_85 ci_0 ?_
          exact wMo_readCalls_J86 ok
theorem tMo_readCalls {l : Launch} {G : Gx} {b : Nat} {XX YY : Nat → Obj} {m : Obj} {r : Int32 × Obj} (hr : fMo_readCalls m = some r) : MetG l G b yX12_readCalls cX12_readCalls 5 (some .boolean) 3 [.ref (b + 225)] (mx XX (va_up YY 225 m)) (qI G b r.1 (mx XX (va_up YY 225 r.2))) := by
  refine met_start [some (.ref (b + 225)), none, none, none, none] (by decide +kernel) (Nat.le_of_ble_eq_true rfl) rfl (fun Z hl ok => ?_)
  clear hl
  exact vMo_readCalls ok r (by rw [hr]; rfl)
theorem vMo_readLine {Z : Cx} {G : Gx} {b : Nat} {XX YY : Nat → Obj} {m : Obj} (ok : OK Z G b cX12_readLine 1 5 RX12 (some .boolean)) : VO Z G b 1 (fun (r : Int32 × Obj) => QX Z b (qI G b r.1 (mx XX (va_up YY 225 r.2)))) (mx XX (va_up YY 225 m)) 0 [some (.ref (b + 225))] [] ((fMo_readLine m).bind some) := by
  unfold fMo_readLine
  refine r_aload_n (pc := 0) ok dX12_readLine_0 rfl ?_
  refine r_ldc2 (pc := 1) ok (1818324581 : Int64) dX12_readLine_1 cl2_Mo_90 ?_
  refine k_I (pc := 4) (fun r1 => r1) (fun r1 => mx XX (va_up YY 225 m)) (fun r1 hr_ => c_V (n := 1) ok cls12 sh_225 rfl ml_Mo_221 wv_X12_isWord yk_X12_isWord rfl (Nat.le_of_ble_eq_true rfl) (Nat.le_of_ble_eq_true rfl) (tMo_isWord (va_up_self _ _ _) hr_) rfl (Nat.le_of_ble_eq_true rfl) dX12_readLine_4) (fun r1 => ?_)
  refine r_if_eq (pc := 7) ok 35 dX12_readLine_7 rfl (fun _ => ?_) (fun _ => ?_)
  · refine r_aload_n (pc := 35) ok dX12_readLine_35 rfl ?_
    refine r_ldc2 (pc := 36) ok (6644082 : Int64) dX12_readLine_36 cl2_Mo_102 ?_
    refine k_I (pc := 39) (fun r2 => r2) (fun r2 => mx XX (va_up YY 225 m)) (fun r2 hr_ => c_V (n := 1) ok cls12 sh_225 rfl ml_Mo_221 wv_X12_isWord yk_X12_isWord rfl (Nat.le_of_ble_eq_true rfl) (Nat.le_of_ble_eq_true rfl) (tMo_isWord (va_up_self _ _ _) hr_) rfl (Nat.le_of_ble_eq_true rfl) dX12_readLine_39) (fun r2 => ?_)
    refine r_if_eq (pc := 42) ok 70 dX12_readLine_42 rfl (fun _ => ?_) (fun _ => ?_)
    · refine r_aload_n (pc := 70) ok dX12_readLine_70 rfl ?_
      refine r_ldc2 (pc := 71) ok (1937006969 : Int64) dX12_readLine_71 cl2_Mo_104 ?_
      refine k_I (pc := 74) (fun r3 => r3) (fun r3 => mx XX (va_up YY 225 m)) (fun r3 hr_ => c_V (n := 1) ok cls12 sh_225 rfl ml_Mo_221 wv_X12_isWord yk_X12_isWord rfl (Nat.le_of_ble_eq_true rfl) (Nat.le_of_ble_eq_true rfl) (tMo_isWord (va_up_self _ _ _) hr_) rfl (Nat.le_of_ble_eq_true rfl) dX12_readLine_74) (fun r3 => ?_)
      refine r_if_eq (pc := 77) ok 105 dX12_readLine_77 rfl (fun _ => ?_) (fun _ => ?_)
      · refine r_aload_n (pc := 105) ok dX12_readLine_105 rfl ?_
        refine r_ldc2 (pc := 106) ok (448546567013 : Int64) dX12_readLine_106 cl2_Mo_92 ?_
        refine k_I (pc := 109) (fun r4 => r4) (fun r4 => mx XX (va_up YY 225 m)) (fun r4 hr_ => c_V (n := 1) ok cls12 sh_225 rfl ml_Mo_221 wv_X12_isWord yk_X12_isWord rfl (Nat.le_of_ble_eq_true rfl) (Nat.le_of_ble_eq_true rfl) (tMo_isWord (va_up_self _ _ _) hr_) rfl (Nat.le_of_ble_eq_true rfl) dX12_readLine_109) (fun r4 => ?_)
        refine r_if_eq (pc := 112) ok 120 dX12_readLine_112 rfl (fun _ => ?_) (fun _ => ?_)
        · refine r_aload_n (pc := 120) ok dX12_readLine_120 rfl ?_
          refine r_ldc2 (pc := 121) ok (123581014175598 : Int64) dX12_readLine_121 cl2_Mo_94 ?_
          refine k_I (pc := 124) (fun r5 => r5) (fun r5 => mx XX (va_up YY 225 m)) (fun r5 hr_ => c_V (n := 1) ok cls12 sh_225 rfl ml_Mo_221 wv_X12_isWord yk_X12_isWord rfl (Nat.le_of_ble_eq_true rfl) (Nat.le_of_ble_eq_true rfl) (tMo_isWord (va_up_self _ _ _) hr_) rfl (Nat.le_of_ble_eq_true rfl) dX12_readLine_124) (fun r5 => ?_)
          refine r_if_eq (pc := 127) ok 135 dX12_readLine_127 rfl (fun _ => ?_) (fun _ => ?_)
          · refine r_aload_n (pc := 135) ok dX12_readLine_135 rfl ?_
            refine r_ldc2 (pc := 136) ok (461414299507 : Int64) dX12_readLine_136 cl2_Mo_98 ?_
            refine k_I (pc := 139) (fun r6 => r6) (fun r6 => mx XX (va_up YY 225 m)) (fun r6 hr_ => c_V (n := 1) ok cls12 sh_225 rfl ml_Mo_221 wv_X12_isWord yk_X12_isWord rfl (Nat.le_of_ble_eq_true rfl) (Nat.le_of_ble_eq_true rfl) (tMo_isWord (va_up_self _ _ _) hr_) rfl (Nat.le_of_ble_eq_true rfl) dX12_readLine_139) (fun r6 => ?_)
            refine r_if_eq (pc := 142) ok 150 dX12_readLine_142 rfl (fun _ => ?_) (fun _ => ?_)
            · refine r_aload_n (pc := 150) ok dX12_readLine_150 rfl ?_
              refine r_ldc2 (pc := 151) ok (426836257907 : Int64) dX12_readLine_151 cl2_Mo_100 ?_
              refine k_I (pc := 154) (fun r7 => r7) (fun r7 => mx XX (va_up YY 225 m)) (fun r7 hr_ => c_V (n := 1) ok cls12 sh_225 rfl ml_Mo_221 wv_X12_isWord yk_X12_isWord rfl (Nat.le_of_ble_eq_true rfl) (Nat.le_of_ble_eq_true rfl) (tMo_isWord (va_up_self _ _ _) hr_) rfl (Nat.le_of_ble_eq_true rfl) dX12_readLine_154) (fun r7 => ?_)
              refine r_if_eq (pc := 157) ok 167 dX12_readLine_157 rfl (fun _ => ?_) (fun _ => ?_)
              · refine r_aload_n (pc := 167) ok dX12_readLine_167 rfl ?_
                refine r_iconst (pc := 168) ok (1 : Int32) dX12_readLine_168 ci_1 ?_
                refine k_I (pc := 169) (fun r8 => r8.1) (fun r8 => mx XX (va_up YY 225 r8.2)) (fun r8 hr_ => c_V (n := 1) ok cls12 sh_225 rfl ml_Mo_187 wv_X12_bad yk_X12_bad rfl (Nat.le_of_ble_eq_true rfl) (Nat.le_of_ble_eq_true rfl) (tMo_bad hr_) rfl (Nat.le_of_ble_eq_true rfl) dX12_readLine_169) (fun r8 => ?_)
                exact r_zret (pc := 172) ok dX12_readLine_172 rfl rfl
              · refine r_aload_n (pc := 160) ok dX12_readLine_160 rfl ?_
                refine k_I (pc := 161) (fun r9 => r9.1) (fun r9 => mx XX (va_up YY 225 r9.2)) (fun r9 hr_ => c_V (n := 0) ok cls12 sh_225 rfl ml_Mo_240 wv_X12_readCalls yk_X12_readCalls rfl (Nat.le_of_ble_eq_true rfl) (Nat.le_of_ble_eq_true rfl) (tMo_readCalls hr_) rfl (Nat.le_of_ble_eq_true rfl) dX12_readLine_161) (fun r9 => ?_)
                refine r_goto (pc := 164) ok 172 dX12_readLine_164 rfl ?_
                exact r_zret (pc := 172) ok dX12_readLine_172 rfl rfl
            · refine r_aload_n (pc := 145) ok dX12_readLine_145 rfl ?_
              refine k_I (pc := 146) (fun r10 => r10.1) (fun r10 => mx XX (va_up YY 225 r10.2)) (fun r10 hr_ => c_V (n := 0) ok cls12 sh_225 rfl ml_Mo_237 wv_X12_readKnows yk_X12_readKnows rfl (Nat.le_of_ble_eq_true rfl) (Nat.le_of_ble_eq_true rfl) (tMo_readKnows hr_) rfl (Nat.le_of_ble_eq_true rfl) dX12_readLine_146) (fun r10 => ?_)
              exact r_zret (pc := 149) ok dX12_readLine_149 rfl rfl
          · refine r_aload_n (pc := 130) ok dX12_readLine_130 rfl ?_
            refine k_I (pc := 131) (fun r11 => r11.1) (fun r11 => mx XX (va_up YY 225 r11.2)) (fun r11 hr_ => c_V (n := 0) ok cls12 sh_225 rfl ml_Mo_234 wv_X12_readPerson yk_X12_readPerson rfl (Nat.le_of_ble_eq_true rfl) (Nat.le_of_ble_eq_true rfl) (tMo_readPerson hr_) rfl (Nat.le_of_ble_eq_true rfl) dX12_readLine_131) (fun r11 => ?_)
            exact r_zret (pc := 134) ok dX12_readLine_134 rfl rfl
        · refine r_aload_n (pc := 115) ok dX12_readLine_115 rfl ?_
          refine k_I (pc := 116) (fun r12 => r12.1) (fun r12 => mx XX (va_up YY 225 r12.2)) (fun r12 hr_ => c_V (n := 0) ok cls12 sh_225 rfl ml_Mo_231 wv_X12_readHouse yk_X12_readHouse rfl (Nat.le_of_ble_eq_true rfl) (Nat.le_of_ble_eq_true rfl) (tMo_readHouse hr_) rfl (Nat.le_of_ble_eq_true rfl) dX12_readLine_116) (fun r12 => ?_)
          exact r_zret (pc := 119) ok dX12_readLine_119 rfl rfl
      · refine r_aload_n (pc := 80) ok dX12_readLine_80 rfl ?_
        refine r_iconst (pc := 81) ok (2 : Int32) dX12_readLine_81 ci_2 ?_
        refine k_I (pc := 82) (fun r13 => r13.1) (fun r13 => mx XX (va_up YY 225 r13.2)) (fun r13 hr_ => c_V (n := 1) ok cls12 sh_225 rfl ml_Mo_225 wv_X12_once yk_X12_once rfl (Nat.le_of_ble_eq_true rfl) (Nat.le_of_ble_eq_true rfl) (tMo_once hr_) rfl (Nat.le_of_ble_eq_true rfl) dX12_readLine_82) (fun r13 => ?_)
        refine r_if_eq (pc := 85) ok 103 dX12_readLine_85 rfl (fun _ => ?_) (fun _ => ?_)
        · refine r_iconst (pc := 103) ok (0 : Int32) dX12_readLine_103 ci_0 ?_
          exact r_zret (pc := 104) ok dX12_readLine_104 za_0 rfl
        · refine r_aload_n (pc := 88) ok dX12_readLine_88 rfl ?_
          refine r_iconst (pc := 89) ok (4 : Int32) dX12_readLine_89 ci_4 ?_
          refine r_iconst (pc := 90) ok (1 : Int32) dX12_readLine_90 ci_1 ?_
          refine r_bipush (pc := 91) ok (30 : Int32) dX12_readLine_91 cb_30 ?_
          refine k_I (pc := 93) (fun r14 => r14.1) (fun r14 => mx XX (va_up YY 225 r14.2)) (fun r14 hr_ => c_V (n := 3) ok cls12 sh_225 rfl ml_Mo_228 wv_X12_puts yk_X12_puts rfl (Nat.le_of_ble_eq_true rfl) (Nat.le_of_ble_eq_true rfl) (tMo_puts hr_) rfl (Nat.le_of_ble_eq_true rfl) dX12_readLine_93) (fun r14 => ?_)
          refine r_if_eq (pc := 96) ok 103 dX12_readLine_96 rfl (fun _ => ?_) (fun _ => ?_)
          · refine r_iconst (pc := 103) ok (0 : Int32) dX12_readLine_103 ci_0 ?_
            exact r_zret (pc := 104) ok dX12_readLine_104 za_0 rfl
          · refine r_iconst (pc := 99) ok (1 : Int32) dX12_readLine_99 ci_1 ?_
            refine r_goto (pc := 100) ok 104 dX12_readLine_100 rfl ?_
            exact r_zret (pc := 104) ok dX12_readLine_104 za_1 rfl
    · refine r_aload_n (pc := 45) ok dX12_readLine_45 rfl ?_
      refine r_iconst (pc := 46) ok (1 : Int32) dX12_readLine_46 ci_1 ?_
      refine k_I (pc := 47) (fun r15 => r15.1) (fun r15 => mx XX (va_up YY 225 r15.2)) (fun r15 hr_ => c_V (n := 1) ok cls12 sh_225 rfl ml_Mo_225 wv_X12_once yk_X12_once rfl (Nat.le_of_ble_eq_true rfl) (Nat.le_of_ble_eq_true rfl) (tMo_once hr_) rfl (Nat.le_of_ble_eq_true rfl) dX12_readLine_47) (fun r15 => ?_)
      refine r_if_eq (pc := 50) ok 68 dX12_readLine_50 rfl (fun _ => ?_) (fun _ => ?_)
      · refine r_iconst (pc := 68) ok (0 : Int32) dX12_readLine_68 ci_0 ?_
        exact r_zret (pc := 69) ok dX12_readLine_69 za_0 rfl
      · refine r_aload_n (pc := 53) ok dX12_readLine_53 rfl ?_
        refine r_iconst (pc := 54) ok (3 : Int32) dX12_readLine_54 ci_3 ?_
        refine r_iconst (pc := 55) ok (0 : Int32) dX12_readLine_55 ci_0 ?_
        refine r_bipush (pc := 56) ok (9 : Int32) dX12_readLine_56 cb_9 ?_
        refine k_I (pc := 58) (fun r16 => r16.1) (fun r16 => mx XX (va_up YY 225 r16.2)) (fun r16 hr_ => c_V (n := 3) ok cls12 sh_225 rfl ml_Mo_228 wv_X12_puts yk_X12_puts rfl (Nat.le_of_ble_eq_true rfl) (Nat.le_of_ble_eq_true rfl) (tMo_puts hr_) rfl (Nat.le_of_ble_eq_true rfl) dX12_readLine_58) (fun r16 => ?_)
        refine r_if_eq (pc := 61) ok 68 dX12_readLine_61 rfl (fun _ => ?_) (fun _ => ?_)
        · refine r_iconst (pc := 68) ok (0 : Int32) dX12_readLine_68 ci_0 ?_
          exact r_zret (pc := 69) ok dX12_readLine_69 za_0 rfl
        · refine r_iconst (pc := 64) ok (1 : Int32) dX12_readLine_64 ci_1 ?_
          refine r_goto (pc := 65) ok 69 dX12_readLine_65 rfl ?_
          exact r_zret (pc := 69) ok dX12_readLine_69 za_1 rfl
  · refine r_aload_n (pc := 10) ok dX12_readLine_10 rfl ?_
    refine r_iconst (pc := 11) ok (0 : Int32) dX12_readLine_11 ci_0 ?_
    refine k_I (pc := 12) (fun r17 => r17.1) (fun r17 => mx XX (va_up YY 225 r17.2)) (fun r17 hr_ => c_V (n := 1) ok cls12 sh_225 rfl ml_Mo_225 wv_X12_once yk_X12_once rfl (Nat.le_of_ble_eq_true rfl) (Nat.le_of_ble_eq_true rfl) (tMo_once hr_) rfl (Nat.le_of_ble_eq_true rfl) dX12_readLine_12) (fun r17 => ?_)
    refine r_if_eq (pc := 15) ok 33 dX12_readLine_15 rfl (fun _ => ?_) (fun _ => ?_)
    · refine r_iconst (pc := 33) ok (0 : Int32) dX12_readLine_33 ci_0 ?_
      exact r_zret (pc := 34) ok dX12_readLine_34 za_0 rfl
    · refine r_aload_n (pc := 18) ok dX12_readLine_18 rfl ?_
      refine r_iconst (pc := 19) ok (2 : Int32) dX12_readLine_19 ci_2 ?_
      refine r_iconst (pc := 20) ok (2 : Int32) dX12_readLine_20 ci_2 ?_
      refine r_bipush (pc := 21) ok (20 : Int32) dX12_readLine_21 cb_20 ?_
      refine k_I (pc := 23) (fun r18 => r18.1) (fun r18 => mx XX (va_up YY 225 r18.2)) (fun r18 hr_ => c_V (n := 3) ok cls12 sh_225 rfl ml_Mo_228 wv_X12_puts yk_X12_puts rfl (Nat.le_of_ble_eq_true rfl) (Nat.le_of_ble_eq_true rfl) (tMo_puts hr_) rfl (Nat.le_of_ble_eq_true rfl) dX12_readLine_23) (fun r18 => ?_)
      refine r_if_eq (pc := 26) ok 33 dX12_readLine_26 rfl (fun _ => ?_) (fun _ => ?_)
      · refine r_iconst (pc := 33) ok (0 : Int32) dX12_readLine_33 ci_0 ?_
        exact r_zret (pc := 34) ok dX12_readLine_34 za_0 rfl
      · refine r_iconst (pc := 29) ok (1 : Int32) dX12_readLine_29 ci_1 ?_
        refine r_goto (pc := 30) ok 34 dX12_readLine_30 rfl ?_
        exact r_zret (pc := 34) ok dX12_readLine_34 za_1 rfl
theorem tMo_readLine {l : Launch} {G : Gx} {b : Nat} {XX YY : Nat → Obj} {m : Obj} {r : Int32 × Obj} (hr : fMo_readLine m = some r) : MetG l G b yX12_readLine cX12_readLine 1 (some .boolean) 5 [.ref (b + 225)] (mx XX (va_up YY 225 m)) (qI G b r.1 (mx XX (va_up YY 225 r.2))) := by
  refine met_start [some (.ref (b + 225))] (by decide +kernel) (Nat.le_of_ble_eq_true rfl) rfl (fun Z hl ok => ?_)
  clear hl
  exact vMo_readLine ok r (by rw [hr]; rfl)
theorem vMo_knowsIn_2 {Z : Cx} {G : Gx} {b : Nat} {XX YY : Nat → Obj} {m : Obj} {v1 : Int32} {v2 : Int32} {v3 : Int32} (ok : OK Z G b cX12_knowsIn 4 0 RX12 none) : VO Z G b 4 (fun (r : Obj) => QX Z b (qV G b (mx XX (va_up YY 225 r)))) (mx XX (va_up YY 225 m)) 0 [some (.ref (b + 227)), some (.int v1), some (.int v2), some (.int v3)] [] ((fMo_knowsIn_2 m v1 v2 v3).bind some) := by
  unfold fMo_knowsIn_2
  refine r_aload_n (pc := 0) ok dX12_knowsIn_0 rfl ?_
  refine r_iload_n (pc := 1) ok dX12_knowsIn_1 rfl ?_
  refine r_iload_n (pc := 2) ok dX12_knowsIn_2 rfl ?_
  refine r_iadd (pc := 3) ok dX12_knowsIn_3 ?_
  refine r_dup2 (pc := 4) ok dX12_knowsIn_4 rfl rfl ?_
  refine r_iald (pc := 5) ok sh_227 (j := 2) rfl (mx_r (by decide) (va_up_self _ _ _)) dX12_knowsIn_5 (fun i1 => ?_)
  refine r_iconst (pc := 6) ok (1 : Int32) dX12_knowsIn_6 ci_1 ?_
  refine r_iload_n (pc := 7) ok dX12_knowsIn_7 rfl ?_
  refine r_ishl (pc := 8) ok dX12_knowsIn_8 ?_
  refine r_ior (pc := 9) ok dX12_knowsIn_9 ?_
  refine r_iast (pc := 10) ok sh_227 (j := 2) rfl rfl (fun s_ => mx XX (va_up YY 225 s_)) (pm_r _ _).1 (pm_r _ _).2 dX12_knowsIn_10 (fun i2 s3 => ?_)
  refine r_aload_n (pc := 11) ok dX12_knowsIn_11 rfl ?_
  refine r_iload_n (pc := 12) ok dX12_knowsIn_12 rfl ?_
  refine r_iload_n (pc := 13) ok dX12_knowsIn_13 rfl ?_
  refine r_iadd (pc := 14) ok dX12_knowsIn_14 ?_
  refine r_dup2 (pc := 15) ok dX12_knowsIn_15 rfl rfl ?_
  refine r_iald (pc := 16) ok sh_227 (j := 2) rfl (mx_r (by decide) (va_up_self _ _ _)) dX12_knowsIn_16 (fun i4 => ?_)
  refine r_iconst (pc := 17) ok (1 : Int32) dX12_knowsIn_17 ci_1 ?_
  refine r_iload_n (pc := 18) ok dX12_knowsIn_18 rfl ?_
  refine r_ishl (pc := 19) ok dX12_knowsIn_19 ?_
  refine r_ior (pc := 20) ok dX12_knowsIn_20 ?_
  refine r_iast (pc := 21) ok sh_227 (j := 2) rfl rfl (fun s_ => mx XX (va_up YY 225 s_)) (pm_r _ _).1 (pm_r _ _).2 dX12_knowsIn_21 (fun i5 s6 => ?_)
  exact r_vret (pc := 22) ok dX12_knowsIn_22 rfl
theorem tMo_knowsIn_2 {l : Launch} {G : Gx} {b : Nat} {XX YY : Nat → Obj} {m : Obj} {v1 : Int32} {v2 : Int32} {v3 : Int32} {r : Obj} (hr : fMo_knowsIn_2 m v1 v2 v3 = some r) : MetG l G b yX12_knowsIn cX12_knowsIn 4 none 0 [.ref (b + 227), .int v1, .int v2, .int v3] (mx XX (va_up YY 225 m)) (qV G b (mx XX (va_up YY 225 r))) := by
  refine met_start [some (.ref (b + 227)), some (.int v1), some (.int v2), some (.int v3)] (by decide +kernel) (Nat.le_of_ble_eq_true rfl) rfl (fun Z hl ok => ?_)
  clear hl
  exact vMo_knowsIn_2 ok r (by rw [hr]; rfl)
theorem wMo_quarter_L35 {Z : Cx} {G : Gx} {b : Nat} {XX YY : Nat → Obj} (ok : OK Z G b cX12_quarter 2 6 RX12 (some .int)) {K : ((Obj) ⊕ ((Obj) ⊕ (Int32 × Obj))) → Option (Int32 × Obj)} (hc : ∀ (a : Obj), VO Z G b 2 (fun (r : Int32 × Obj) => QX Z b (qI G b r.1 (mx XX (va_up YY 225 r.2)))) (mx XX (va_up YY 225 a)) 35 [some (.ref (b + 225)), none] [] (K (.inl a))) (hx : ∀ (z : (Obj) ⊕ (Int32 × Obj)), (∀ (e : Obj), z = .inl e → VO Z G b 2 (fun (r : Int32 × Obj) => QX Z b (qI G b r.1 (mx XX (va_up YY 225 r.2)))) (mx XX (va_up YY 225 e)) 78 [some (.ref (b + 225)), none] [] (K (.inr z))) ∧ (∀ (r : Int32 × Obj), z = .inr r → K (.inr z) = some r)) : ∀ (a : Obj), VO Z G b 2 (fun (r : Int32 × Obj) => QX Z b (qI G b r.1 (mx XX (va_up YY 225 r.2)))) (mx XX (va_up YY 225 a)) 35 [some (.ref (b + 225)), none] [] ((fMo_quarter_L35 a).bind K) := by
  intro a
  unfold fMo_quarter_L35
  refine r_aload_n (pc := 35) ok dX12_quarter_35 rfl ?_
  refine r_getI (pc := 36) ok cls12 sh_225 (k := 11) rfl (Nat.le_of_ble_eq_true rfl) (mx_r (by decide) (va_up_self _ _ _)) dX12_quarter_36 fl_Mo_161 ?_
  refine r_if_eq (pc := 39) ok 78 dX12_quarter_39 rfl (fun _ => ?_) (fun _ => ?_)
  · exact (hx (.inl a)).1 _ rfl
  · refine r_aload_n (pc := 42) ok dX12_quarter_42 rfl ?_
    refine k_I (pc := 43) (fun r8 => r8.1) (fun r8 => mx XX (va_up YY 225 r8.2)) (fun r8 hr_ => c_V (n := 0) ok cls12 sh_225 rfl ml_Mo_265 wv_X12_readLine yk_X12_readLine rfl (Nat.le_of_ble_eq_true rfl) (Nat.le_of_ble_eq_true rfl) (tMo_readLine hr_) rfl (Nat.le_of_ble_eq_true rfl) dX12_quarter_43) (fun r8 => ?_)
    refine r_if_eq (pc := 46) ok 58 dX12_quarter_46 rfl (fun _ => ?_) (fun _ => ?_)
    · refine r_iconst (pc := 58) ok (-1 : Int32) dX12_quarter_58 ci_m1 ?_
      refine r_aload_n (pc := 59) ok dX12_quarter_59 rfl ?_
      refine r_getI (pc := 60) ok cls12 sh_225 (k := 16) rfl (Nat.le_of_ble_eq_true rfl) (mx_r (by decide) (va_up_self _ _ _)) dX12_quarter_60 fl_Mo_181 ?_
      refine r_isub (pc := 63) ok dX12_quarter_63 ?_
      refine r_eq ((hx (.inr (((-1 : Int32) - (r8.2.1 0 16)), r8.2))).2 _ rfl) ?_
      exact r_iret (pc := 64) ok dX12_quarter_64 rfl
    · refine r_aload_n (pc := 49) ok dX12_quarter_49 rfl ?_
      refine r_bipush (pc := 50) ok (59 : Int32) dX12_quarter_50 cb_59 ?_
      refine k_I (pc := 52) (fun r9 => r9.1) (fun r9 => mx XX (va_up YY 225 r9.2)) (fun r9 hr_ => c_V (n := 1) ok cls12 sh_225 rfl ml_Mo_268 wv_X12_sign yk_X12_sign rfl (Nat.le_of_ble_eq_true rfl) (Nat.le_of_ble_eq_true rfl) (tMo_sign hr_) rfl (Nat.le_of_ble_eq_true rfl) dX12_quarter_52) (fun r9 => ?_)
      refine r_if_ne (pc := 55) ok 65 dX12_quarter_55 rfl (fun _ => ?_) (fun _ => ?_)
      · refine r_iconst (pc := 58) ok (-1 : Int32) dX12_quarter_58 ci_m1 ?_
        refine r_aload_n (pc := 59) ok dX12_quarter_59 rfl ?_
        refine r_getI (pc := 60) ok cls12 sh_225 (k := 16) rfl (Nat.le_of_ble_eq_true rfl) (mx_r (by decide) (va_up_self _ _ _)) dX12_quarter_60 fl_Mo_181 ?_
        refine r_isub (pc := 63) ok dX12_quarter_63 ?_
        refine r_eq ((hx (.inr (((-1 : Int32) - (r9.2.1 0 16)), r9.2))).2 _ rfl) ?_
        exact r_iret (pc := 64) ok dX12_quarter_64 rfl
      · refine r_aload_n (pc := 65) ok dX12_quarter_65 rfl ?_
        refine r_dup (pc := 66) ok dX12_quarter_66 rfl ?_
        refine r_getI (pc := 67) ok cls12 sh_225 (k := 19) rfl (Nat.le_of_ble_eq_true rfl) (mx_r (by decide) (va_up_self _ _ _)) dX12_quarter_67 fl_Mo_262 ?_
        refine r_iconst (pc := 70) ok (1 : Int32) dX12_quarter_70 ci_1 ?_
        refine r_iadd (pc := 71) ok dX12_quarter_71 ?_
        refine r_putI (pc := 72) ok cls12 sh_225 (k := 19) rfl (Nat.le_of_ble_eq_true rfl) (fun s_ => mx XX (va_up YY 225 s_)) (pm_r _ _).1 (pm_r _ _).2 rfl rfl rfl dX12_quarter_72 fl_Mo_262 (fun s10 => ?_)
        refine r_goto (pc := 75) ok 35 dX12_quarter_75 rfl ?_
        exact hc s10
theorem wMo_quarter_L80 {Z : Cx} {G : Gx} {b : Nat} {XX YY : Nat → Obj} (ok : OK Z G b cX12_quarter 2 6 RX12 (some .int)) {K : ((Int32 × Obj) ⊕ (Obj)) → Option (Int32 × Obj)} (hc : ∀ (a : Int32 × Obj), VO Z G b 2 (fun (r : Int32 × Obj) => QX Z b (qI G b r.1 (mx XX (va_up YY 225 r.2)))) (mx XX (va_up YY 225 a.2)) 80 [some (.ref (b + 225)), some (.int a.1)] [] (K (.inl a))) (hx : ∀ (e : Obj), VO Z G b 2 (fun (r : Int32 × Obj) => QX Z b (qI G b r.1 (mx XX (va_up YY 225 r.2)))) (mx XX (va_up YY 225 e)) 115 [some (.ref (b + 225)), none] [] (K (.inr e))) : ∀ (a : Int32 × Obj), VO Z G b 2 (fun (r : Int32 × Obj) => QX Z b (qI G b r.1 (mx XX (va_up YY 225 r.2)))) (mx XX (va_up YY 225 a.2)) 80 [some (.ref (b + 225)), some (.int a.1)] [] ((fMo_quarter_L80 a).bind K) := by
  intro a
  unfold fMo_quarter_L80
  refine r_iload_n (pc := 80) ok dX12_quarter_80 rfl ?_
  refine r_sipush (pc := 81) ok (342 : Int32) dX12_quarter_81 cs_342 ?_
  refine r_icmp_ge (pc := 84) ok 115 dX12_quarter_84 rfl (fun _ => ?_) (fun _ => ?_)
  · refine r_lv (lk_s (lk_n lk_0 _) _) ?_
    exact hx a.2
  · refine r_aload_n (pc := 87) ok dX12_quarter_87 rfl ?_
    refine r_getR (pc := 88) ok cls12 sh_225 (k := 6) rfl (Nat.le_of_ble_eq_true rfl) rfl dX12_quarter_88 fl_Mo_33 ?_
    refine r_iload_n (pc := 91) ok dX12_quarter_91 rfl ?_
    refine r_iload_n (pc := 92) ok dX12_quarter_92 rfl ?_
    refine r_bipush (pc := 93) ok (69 : Int32) dX12_quarter_93 cb_69 ?_
    refine r_icmp_ge (pc := 95) ok 107 dX12_quarter_95 rfl (fun _ => ?_) (fun _ => ?_)
    · refine r_iconst (pc := 107) ok (0 : Int32) dX12_quarter_107 ci_0 ?_
      refine r_iast (pc := 108) ok sh_227 (j := 2) rfl rfl (fun s_ => mx XX (va_up YY 225 s_)) (pm_r _ _).1 (pm_r _ _).2 dX12_quarter_108 (fun i12 s13 => ?_)
      refine r_iinc (pc := 109) ok (1 : Int32) dX12_quarter_109 ci_1 rfl (Nat.le_of_ble_eq_true rfl) rfl ?_
      refine r_goto (pc := 112) ok 80 dX12_quarter_112 rfl ?_
      exact hc ((a.1 + (1 : Int32)), s13)
    · refine r_aload_n (pc := 98) ok dX12_quarter_98 rfl ?_
      refine r_getR (pc := 99) ok cls12 sh_225 (k := 7) rfl (Nat.le_of_ble_eq_true rfl) rfl dX12_quarter_99 fl_Mo_37 ?_
      refine r_iload_n (pc := 102) ok dX12_quarter_102 rfl ?_
      refine r_iald (pc := 103) ok sh_228 (j := 3) rfl (mx_r (by decide) (va_up_self _ _ _)) dX12_quarter_103 (fun i14 => ?_)
      refine r_goto (pc := 104) ok 108 dX12_quarter_104 rfl ?_
      refine r_iast (pc := 108) ok sh_227 (j := 2) rfl rfl (fun s_ => mx XX (va_up YY 225 s_)) (pm_r _ _).1 (pm_r _ _).2 dX12_quarter_108 (fun i15 s16 => ?_)
      refine r_iinc (pc := 109) ok (1 : Int32) dX12_quarter_109 ci_1 rfl (Nat.le_of_ble_eq_true rfl) rfl ?_
      refine r_goto (pc := 112) ok 80 dX12_quarter_112 rfl ?_
      exact hc ((a.1 + (1 : Int32)), s16)
theorem wMo_quarter_L117 {Z : Cx} {G : Gx} {b : Nat} {XX YY : Nat → Obj} (ok : OK Z G b cX12_quarter 2 6 RX12 (some .int)) {K : ((Int32 × Obj) ⊕ (Obj)) → Option (Int32 × Obj)} (hc : ∀ (a : Int32 × Obj), VO Z G b 2 (fun (r : Int32 × Obj) => QX Z b (qI G b r.1 (mx XX (va_up YY 225 r.2)))) (mx XX (va_up YY 225 a.2)) 117 [some (.ref (b + 225)), some (.int a.1)] [] (K (.inl a))) (hx : ∀ (e : Obj), VO Z G b 2 (fun (r : Int32 × Obj) => QX Z b (qI G b r.1 (mx XX (va_up YY 225 r.2)))) (mx XX (va_up YY 225 e)) 144 [some (.ref (b + 225)), none] [] (K (.inr e))) : ∀ (a : Int32 × Obj), VO Z G b 2 (fun (r : Int32 × Obj) => QX Z b (qI G b r.1 (mx XX (va_up YY 225 r.2)))) (mx XX (va_up YY 225 a.2)) 117 [some (.ref (b + 225)), some (.int a.1)] [] ((fMo_quarter_L117 a).bind K) := by
  intro a
  unfold fMo_quarter_L117
  refine r_iload_n (pc := 117) ok dX12_quarter_117 rfl ?_
  refine r_bipush (pc := 118) ok (14 : Int32) dX12_quarter_118 cb_14 ?_
  refine r_icmp_ge (pc := 120) ok 144 dX12_quarter_120 rfl (fun _ => ?_) (fun _ => ?_)
  · refine r_lv (lk_s (lk_n lk_0 _) _) ?_
    exact hx a.2
  · refine r_aload_n (pc := 123) ok dX12_quarter_123 rfl ?_
    refine r_getR (pc := 124) ok cls12 sh_225 (k := 9) rfl (Nat.le_of_ble_eq_true rfl) rfl dX12_quarter_124 fl_Mo_43 ?_
    refine r_iload_n (pc := 127) ok dX12_quarter_127 rfl ?_
    refine r_aload_n (pc := 128) ok dX12_quarter_128 rfl ?_
    refine r_getR (pc := 129) ok cls12 sh_225 (k := 9) rfl (Nat.le_of_ble_eq_true rfl) rfl dX12_quarter_129 fl_Mo_43 ?_
    refine r_bipush (pc := 132) ok (14 : Int32) dX12_quarter_132 cb_14 ?_
    refine r_iload_n (pc := 134) ok dX12_quarter_134 rfl ?_
    refine r_iadd (pc := 135) ok dX12_quarter_135 ?_
    refine r_lald (pc := 136) ok sh_230 (j := 5) rfl (mx_r (by decide) (va_up_self _ _ _)) dX12_quarter_136 (fun i18 => ?_)
    refine r_last (pc := 137) ok sh_230 (j := 5) rfl rfl (fun s_ => mx XX (va_up YY 225 s_)) (pm_r _ _).1 (pm_r _ _).2 dX12_quarter_137 (fun i19 s20 => ?_)
    refine r_iinc (pc := 138) ok (1 : Int32) dX12_quarter_138 ci_1 rfl (Nat.le_of_ble_eq_true rfl) rfl ?_
    refine r_goto (pc := 141) ok 117 dX12_quarter_141 rfl ?_
    exact hc ((a.1 + (1 : Int32)), s20)
theorem wMo_quarter_L160 {Z : Cx} {G : Gx} {b : Nat} {XX YY : Nat → Obj} (ok : OK Z G b cX12_quarter 2 6 RX12 (some .int)) {K : ((Int32 × Obj) ⊕ (Obj)) → Option (Int32 × Obj)} (hc : ∀ (a : Int32 × Obj), VO Z G b 2 (fun (r : Int32 × Obj) => QX Z b (qI G b r.1 (mx XX (va_up YY 225 r.2)))) (mx XX (va_up YY 225 a.2)) 160 [some (.ref (b + 225)), some (.int a.1)] [] (K (.inl a))) (hx : ∀ (e : Obj), VO Z G b 2 (fun (r : Int32 × Obj) => QX Z b (qI G b r.1 (mx XX (va_up YY 225 r.2)))) (mx XX (va_up YY 225 e)) 226 [some (.ref (b + 225)), none] [] (K (.inr e))) : ∀ (a : Int32 × Obj), VO Z G b 2 (fun (r : Int32 × Obj) => QX Z b (qI G b r.1 (mx XX (va_up YY 225 r.2)))) (mx XX (va_up YY 225 a.2)) 160 [some (.ref (b + 225)), some (.int a.1)] [] ((fMo_quarter_L160 a).bind K) := by
  intro a
  unfold fMo_quarter_L160
  refine r_iload_n (pc := 160) ok dX12_quarter_160 rfl ?_
  refine r_bipush (pc := 161) ok (8 : Int32) dX12_quarter_161 cb_8 ?_
  refine r_icmp_ge (pc := 163) ok 226 dX12_quarter_163 rfl (fun _ => ?_) (fun _ => ?_)
  · refine r_lv (lk_s (lk_n lk_0 _) _) ?_
    exact hx a.2
  · refine r_aload_n (pc := 166) ok dX12_quarter_166 rfl ?_
    refine r_getR (pc := 167) ok cls12 sh_225 (k := 6) rfl (Nat.le_of_ble_eq_true rfl) rfl dX12_quarter_167 fl_Mo_33 ?_
    refine r_bipush (pc := 170) ok (81 : Int32) dX12_quarter_170 cb_81 ?_
    refine r_iload_n (pc := 172) ok dX12_quarter_172 rfl ?_
    refine r_iadd (pc := 173) ok dX12_quarter_173 ?_
    refine r_aload_n (pc := 174) ok dX12_quarter_174 rfl ?_
    refine r_getR (pc := 175) ok cls12 sh_225 (k := 6) rfl (Nat.le_of_ble_eq_true rfl) rfl dX12_quarter_175 fl_Mo_33 ?_
    refine r_bipush (pc := 178) ok (19 : Int32) dX12_quarter_178 cb_19 ?_
    refine r_iload_n (pc := 180) ok dX12_quarter_180 rfl ?_
    refine r_iadd (pc := 181) ok dX12_quarter_181 ?_
    refine r_iald (pc := 182) ok sh_227 (j := 2) rfl (mx_r (by decide) (va_up_self _ _ _)) dX12_quarter_182 (fun i23 => ?_)
    refine r_iast (pc := 183) ok sh_227 (j := 2) rfl rfl (fun s_ => mx XX (va_up YY 225 s_)) (pm_r _ _).1 (pm_r _ _).2 dX12_quarter_183 (fun i24 s25 => ?_)
    refine r_aload_n (pc := 184) ok dX12_quarter_184 rfl ?_
    refine r_getR (pc := 185) ok cls12 sh_225 (k := 6) rfl (Nat.le_of_ble_eq_true rfl) rfl dX12_quarter_185 fl_Mo_33 ?_
    refine r_bipush (pc := 188) ok (89 : Int32) dX12_quarter_188 cb_89 ?_
    refine r_iload_n (pc := 190) ok dX12_quarter_190 rfl ?_
    refine r_iadd (pc := 191) ok dX12_quarter_191 ?_
    refine r_aload_n (pc := 192) ok dX12_quarter_192 rfl ?_
    refine r_getR (pc := 193) ok cls12 sh_225 (k := 6) rfl (Nat.le_of_ble_eq_true rfl) rfl dX12_quarter_193 fl_Mo_33 ?_
    refine r_bipush (pc := 196) ok (27 : Int32) dX12_quarter_196 cb_27 ?_
    refine r_iload_n (pc := 198) ok dX12_quarter_198 rfl ?_
    refine r_iadd (pc := 199) ok dX12_quarter_199 ?_
    refine r_iald (pc := 200) ok sh_227 (j := 2) rfl (mx_r (by decide) (va_up_self _ _ _)) dX12_quarter_200 (fun i26 => ?_)
    refine r_iast (pc := 201) ok sh_227 (j := 2) rfl rfl (fun s_ => mx XX (va_up YY 225 s_)) (pm_r _ _).1 (pm_r _ _).2 dX12_quarter_201 (fun i27 s28 => ?_)
    refine r_aload_n (pc := 202) ok dX12_quarter_202 rfl ?_
    refine r_getR (pc := 203) ok cls12 sh_225 (k := 6) rfl (Nat.le_of_ble_eq_true rfl) rfl dX12_quarter_203 fl_Mo_33 ?_
    refine r_bipush (pc := 206) ok (113 : Int32) dX12_quarter_206 cb_113 ?_
    refine r_iload_n (pc := 208) ok dX12_quarter_208 rfl ?_
    refine r_iadd (pc := 209) ok dX12_quarter_209 ?_
    refine r_aload_n (pc := 210) ok dX12_quarter_210 rfl ?_
    refine r_getR (pc := 211) ok cls12 sh_225 (k := 6) rfl (Nat.le_of_ble_eq_true rfl) rfl dX12_quarter_211 fl_Mo_33 ?_
    refine r_bipush (pc := 214) ok (36 : Int32) dX12_quarter_214 cb_36 ?_
    refine r_iload_n (pc := 216) ok dX12_quarter_216 rfl ?_
    refine r_iadd (pc := 217) ok dX12_quarter_217 ?_
    refine r_iald (pc := 218) ok sh_227 (j := 2) rfl (mx_r (by decide) (va_up_self _ _ _)) dX12_quarter_218 (fun i29 => ?_)
    refine r_iast (pc := 219) ok sh_227 (j := 2) rfl rfl (fun s_ => mx XX (va_up YY 225 s_)) (pm_r _ _).1 (pm_r _ _).2 dX12_quarter_219 (fun i30 s31 => ?_)
    refine r_iinc (pc := 220) ok (1 : Int32) dX12_quarter_220 ci_1 rfl (Nat.le_of_ble_eq_true rfl) rfl ?_
    refine r_goto (pc := 223) ok 160 dX12_quarter_223 rfl ?_
    exact hc ((a.1 + (1 : Int32)), s31)
theorem wMo_quarter_L228 {Z : Cx} {G : Gx} {b : Nat} {XX YY : Nat → Obj} (ok : OK Z G b cX12_quarter 2 6 RX12 (some .int)) {K : ((Int32 × Obj) ⊕ (Obj)) → Option (Int32 × Obj)} (hc : ∀ (a : Int32 × Obj), VO Z G b 2 (fun (r : Int32 × Obj) => QX Z b (qI G b r.1 (mx XX (va_up YY 225 r.2)))) (mx XX (va_up YY 225 a.2)) 228 [some (.ref (b + 225)), some (.int a.1)] [] (K (.inl a))) (hx : ∀ (e : Obj), VO Z G b 2 (fun (r : Int32 × Obj) => QX Z b (qI G b r.1 (mx XX (va_up YY 225 r.2)))) (mx XX (va_up YY 225 e)) 278 [some (.ref (b + 225)), none] [] (K (.inr e))) : ∀ (a : Int32 × Obj), VO Z G b 2 (fun (r : Int32 × Obj) => QX Z b (qI G b r.1 (mx XX (va_up YY 225 r.2)))) (mx XX (va_up YY 225 a.2)) 228 [some (.ref (b + 225)), some (.int a.1)] [] ((fMo_quarter_L228 a).bind K) := by
  intro a
  unfold fMo_quarter_L228
  refine r_iload_n (pc := 228) ok dX12_quarter_228 rfl ?_
  refine r_bipush (pc := 229) ok (12 : Int32) dX12_quarter_229 cb_12 ?_
  refine r_icmp_ge (pc := 231) ok 278 dX12_quarter_231 rfl (fun _ => ?_) (fun _ => ?_)
  · refine r_lv (lk_s (lk_n lk_0 _) _) ?_
    exact hx a.2
  · refine r_aload_n (pc := 234) ok dX12_quarter_234 rfl ?_
    refine r_getR (pc := 235) ok cls12 sh_225 (k := 6) rfl (Nat.le_of_ble_eq_true rfl) rfl dX12_quarter_235 fl_Mo_33 ?_
    refine r_sipush (pc := 238) ok (137 : Int32) dX12_quarter_238 cs_137 ?_
    refine r_iload_n (pc := 241) ok dX12_quarter_241 rfl ?_
    refine r_iadd (pc := 242) ok dX12_quarter_242 ?_
    refine r_aload_n (pc := 243) ok dX12_quarter_243 rfl ?_
    refine r_getR (pc := 244) ok cls12 sh_225 (k := 6) rfl (Nat.le_of_ble_eq_true rfl) rfl dX12_quarter_244 fl_Mo_33 ?_
    refine r_bipush (pc := 247) ok (45 : Int32) dX12_quarter_247 cb_45 ?_
    refine r_iload_n (pc := 249) ok dX12_quarter_249 rfl ?_
    refine r_iadd (pc := 250) ok dX12_quarter_250 ?_
    refine r_iald (pc := 251) ok sh_227 (j := 2) rfl (mx_r (by decide) (va_up_self _ _ _)) dX12_quarter_251 (fun i33 => ?_)
    refine r_iast (pc := 252) ok sh_227 (j := 2) rfl rfl (fun s_ => mx XX (va_up YY 225 s_)) (pm_r _ _).1 (pm_r _ _).2 dX12_quarter_252 (fun i34 s35 => ?_)
    refine r_aload_n (pc := 253) ok dX12_quarter_253 rfl ?_
    refine r_getR (pc := 254) ok cls12 sh_225 (k := 6) rfl (Nat.le_of_ble_eq_true rfl) rfl dX12_quarter_254 fl_Mo_33 ?_
    refine r_sipush (pc := 257) ok (149 : Int32) dX12_quarter_257 cs_149 ?_
    refine r_iload_n (pc := 260) ok dX12_quarter_260 rfl ?_
    refine r_iadd (pc := 261) ok dX12_quarter_261 ?_
    refine r_aload_n (pc := 262) ok dX12_quarter_262 rfl ?_
    refine r_getR (pc := 263) ok cls12 sh_225 (k := 6) rfl (Nat.le_of_ble_eq_true rfl) rfl dX12_quarter_263 fl_Mo_33 ?_
    refine r_bipush (pc := 266) ok (57 : Int32) dX12_quarter_266 cb_57 ?_
    refine r_iload_n (pc := 268) ok dX12_quarter_268 rfl ?_
    refine r_iadd (pc := 269) ok dX12_quarter_269 ?_
    refine r_iald (pc := 270) ok sh_227 (j := 2) rfl (mx_r (by decide) (va_up_self _ _ _)) dX12_quarter_270 (fun i36 => ?_)
    refine r_iast (pc := 271) ok sh_227 (j := 2) rfl rfl (fun s_ => mx XX (va_up YY 225 s_)) (pm_r _ _).1 (pm_r _ _).2 dX12_quarter_271 (fun i37 s38 => ?_)
    refine r_iinc (pc := 272) ok (1 : Int32) dX12_quarter_272 ci_1 rfl (Nat.le_of_ble_eq_true rfl) rfl ?_
    refine r_goto (pc := 275) ok 228 dX12_quarter_275 rfl ?_
    exact hc ((a.1 + (1 : Int32)), s38)
theorem vMo_quarter {Z : Cx} {G : Gx} {b : Nat} {XX YY : Nat → Obj} {m : Obj} (ok : OK Z G b cX12_quarter 2 6 RX12 (some .int)) : VO Z G b 2 (fun (r : Int32 × Obj) => QX Z b (qI G b r.1 (mx XX (va_up YY 225 r.2)))) (mx XX (va_up YY 225 m)) 0 [some (.ref (b + 225)), none] [] ((fMo_quarter m).bind some) := by
  unfold fMo_quarter
  refine r_aload_n (pc := 0) ok dX12_quarter_0 rfl ?_
  refine r_iconst (pc := 1) ok (0 : Int32) dX12_quarter_1 ci_0 ?_
  refine r_putI (pc := 2) ok cls12 sh_225 (k := 0) rfl (Nat.le_of_ble_eq_true rfl) (fun s_ => mx XX (va_up YY 225 s_)) (pm_r _ _).1 (pm_r _ _).2 rfl rfl rfl dX12_quarter_2 fl_Mo_1 (fun s1 => ?_)
  refine r_aload_n (pc := 5) ok dX12_quarter_5 rfl ?_
  refine r_sipush (pc := 6) ok (900 : Int32) dX12_quarter_6 cs_900 ?_
  refine k_V (pc := 9)  (fun r2 => mx XX (va_up YY 225 r2)) (fun r2 hr_ => c_V (n := 1) ok cls12 sh_225 rfl ml_Mo_259 wv_X12_taken yk_X12_taken rfl (Nat.le_of_ble_eq_true rfl) (Nat.le_of_ble_eq_true rfl) (tMo_taken hr_) rfl (Nat.le_of_ble_eq_true rfl) dX12_quarter_9) (fun r2 => ?_)
  refine r_aload_n (pc := 12) ok dX12_quarter_12 rfl ?_
  refine r_iconst (pc := 13) ok (0 : Int32) dX12_quarter_13 ci_0 ?_
  refine r_putI (pc := 14) ok cls12 sh_225 (k := 15) rfl (Nat.le_of_ble_eq_true rfl) (fun s_ => mx XX (va_up YY 225 s_)) (pm_r _ _).1 (pm_r _ _).2 rfl rfl rfl dX12_quarter_14 fl_Mo_178 (fun s3 => ?_)
  refine r_aload_n (pc := 17) ok dX12_quarter_17 rfl ?_
  refine r_iconst (pc := 18) ok (0 : Int32) dX12_quarter_18 ci_0 ?_
  refine r_putI (pc := 19) ok cls12 sh_225 (k := 19) rfl (Nat.le_of_ble_eq_true rfl) (fun s_ => mx XX (va_up YY 225 s_)) (pm_r _ _).1 (pm_r _ _).2 rfl rfl rfl dX12_quarter_19 fl_Mo_262 (fun s4 => ?_)
  refine r_aload_n (pc := 22) ok dX12_quarter_22 rfl ?_
  refine r_iconst (pc := 23) ok (0 : Int32) dX12_quarter_23 ci_0 ?_
  refine r_putI (pc := 24) ok cls12 sh_225 (k := 20) rfl (Nat.le_of_ble_eq_true rfl) (fun s_ => mx XX (va_up YY 225 s_)) (pm_r _ _).1 (pm_r _ _).2 rfl rfl rfl dX12_quarter_24 fl_Mo_215 (fun s5 => ?_)
  refine r_aload_n (pc := 27) ok dX12_quarter_27 rfl ?_
  refine k_V (pc := 28)  (fun r6 => mx XX (va_up YY 225 r6)) (fun r6 hr_ => c_V (n := 0) ok cls12 sh_225 rfl ml_Mo_148 wv_X12_clears yk_X12_clears rfl (Nat.le_of_ble_eq_true rfl) (Nat.le_of_ble_eq_true rfl) (tMo_clears hr_) rfl (Nat.le_of_ble_eq_true rfl) dX12_quarter_28) (fun r6 => ?_)
  refine r_aload_n (pc := 31) ok dX12_quarter_31 rfl ?_
  refine k_V (pc := 32)  (fun r7 => mx XX (va_up YY 225 r7)) (fun r7 hr_ => c_V (n := 0) ok cls12 sh_225 rfl ml_Mo_190 wv_X12_next yk_X12_next rfl (Nat.le_of_ble_eq_true rfl) (Nat.le_of_ble_eq_true rfl) (tMo_next hr_) rfl (Nat.le_of_ble_eq_true rfl) dX12_quarter_32) (fun r7 => ?_)
  refine r_iter (P := fun (a35 : Obj) o => VO Z G b 2 (fun (r : Int32 × Obj) => QX Z b (qI G b r.1 (mx XX (va_up YY 225 r.2)))) (mx XX (va_up YY 225 a35)) 35 [some (.ref (b + 225)), none] [] o) (E := fun (z : (Obj) ⊕ (Int32 × Obj)) o => (∀ (e_35 : Obj), z = .inl e_35 → VO Z G b 2 (fun (r : Int32 × Obj) => QX Z b (qI G b r.1 (mx XX (va_up YY 225 r.2)))) (mx XX (va_up YY 225 e_35)) 78 [some (.ref (b + 225)), none] [] o) ∧ (∀ (r : Int32 × Obj), z = .inr r → o = some r)) (fun _ => r_none) (fun K hc hx => wMo_quarter_L35 ok (K := K) hc hx) (fun z => ⟨fun e11 hz => ?_, fun r hz => ?_⟩) FU r7
  · subst hz
    refine r_inl ?_
    refine r_iconst (pc := 78) ok (0 : Int32) dX12_quarter_78 ci_0 ?_
    refine r_istore_n (pc := 79) ok dX12_quarter_79 (Nat.le_of_ble_eq_true rfl) rfl ?_
    refine r_iter (P := fun (a80 : Int32 × Obj) o => VO Z G b 2 (fun (r : Int32 × Obj) => QX Z b (qI G b r.1 (mx XX (va_up YY 225 r.2)))) (mx XX (va_up YY 225 a80.2)) 80 [some (.ref (b + 225)), some (.int a80.1)] [] o) (E := fun (e_80 : Obj) o => VO Z G b 2 (fun (r : Int32 × Obj) => QX Z b (qI G b r.1 (mx XX (va_up YY 225 r.2)))) (mx XX (va_up YY 225 e_80)) 115 [some (.ref (b + 225)), none] [] o) (fun _ => r_none) (fun K hc hx => wMo_quarter_L80 ok (K := K) hc hx) (fun e17 => ?_) FU ((0 : Int32), e11)
    refine r_iconst (pc := 115) ok (0 : Int32) dX12_quarter_115 ci_0 ?_
    refine r_istore_n (pc := 116) ok dX12_quarter_116 (Nat.le_of_ble_eq_true rfl) rfl ?_
    refine r_iter (P := fun (a117 : Int32 × Obj) o => VO Z G b 2 (fun (r : Int32 × Obj) => QX Z b (qI G b r.1 (mx XX (va_up YY 225 r.2)))) (mx XX (va_up YY 225 a117.2)) 117 [some (.ref (b + 225)), some (.int a117.1)] [] o) (E := fun (e_117 : Obj) o => VO Z G b 2 (fun (r : Int32 × Obj) => QX Z b (qI G b r.1 (mx XX (va_up YY 225 r.2)))) (mx XX (va_up YY 225 e_117)) 144 [some (.ref (b + 225)), none] [] o) (fun _ => r_none) (fun K hc hx => wMo_quarter_L117 ok (K := K) hc hx) (fun e21 => ?_) FU ((0 : Int32), e17)
    refine r_aload_n (pc := 144) ok dX12_quarter_144 rfl ?_
    refine r_getR (pc := 145) ok cls12 sh_225 (k := 6) rfl (Nat.le_of_ble_eq_true rfl) rfl dX12_quarter_145 fl_Mo_33 ?_
    refine r_bipush (pc := 148) ok (72 : Int32) dX12_quarter_148 cb_72 ?_
    refine r_aload_n (pc := 150) ok dX12_quarter_150 rfl ?_
    refine r_getR (pc := 151) ok cls12 sh_225 (k := 6) rfl (Nat.le_of_ble_eq_true rfl) rfl dX12_quarter_151 fl_Mo_33 ?_
    refine r_bipush (pc := 154) ok (44 : Int32) dX12_quarter_154 cb_44 ?_
    refine r_ialdc (pc := 156) ok sh_227 (j := 2) rfl (i := 44) (by decide +kernel) (mx_r (by decide) (va_up_self _ _ _)) dX12_quarter_156 ?_
    refine r_iastc (pc := 157) ok sh_227 (j := 2) rfl (i := 72) (by decide +kernel) rfl (fun s_ => mx XX (va_up YY 225 s_)) (pm_r _ _).1 (pm_r _ _).2 dX12_quarter_157 (fun s22 => ?_)
    refine r_iconst (pc := 158) ok (0 : Int32) dX12_quarter_158 ci_0 ?_
    refine r_istore_n (pc := 159) ok dX12_quarter_159 (Nat.le_of_ble_eq_true rfl) rfl ?_
    refine r_iter (P := fun (a160 : Int32 × Obj) o => VO Z G b 2 (fun (r : Int32 × Obj) => QX Z b (qI G b r.1 (mx XX (va_up YY 225 r.2)))) (mx XX (va_up YY 225 a160.2)) 160 [some (.ref (b + 225)), some (.int a160.1)] [] o) (E := fun (e_160 : Obj) o => VO Z G b 2 (fun (r : Int32 × Obj) => QX Z b (qI G b r.1 (mx XX (va_up YY 225 r.2)))) (mx XX (va_up YY 225 e_160)) 226 [some (.ref (b + 225)), none] [] o) (fun _ => r_none) (fun K hc hx => wMo_quarter_L160 ok (K := K) hc hx) (fun e32 => ?_) FU ((0 : Int32), s22)
    refine r_iconst (pc := 226) ok (0 : Int32) dX12_quarter_226 ci_0 ?_
    refine r_istore_n (pc := 227) ok dX12_quarter_227 (Nat.le_of_ble_eq_true rfl) rfl ?_
    refine r_iter (P := fun (a228 : Int32 × Obj) o => VO Z G b 2 (fun (r : Int32 × Obj) => QX Z b (qI G b r.1 (mx XX (va_up YY 225 r.2)))) (mx XX (va_up YY 225 a228.2)) 228 [some (.ref (b + 225)), some (.int a228.1)] [] o) (E := fun (e_228 : Obj) o => VO Z G b 2 (fun (r : Int32 × Obj) => QX Z b (qI G b r.1 (mx XX (va_up YY 225 r.2)))) (mx XX (va_up YY 225 e_228)) 278 [some (.ref (b + 225)), none] [] o) (fun _ => r_none) (fun K hc hx => wMo_quarter_L228 ok (K := K) hc hx) (fun e39 => ?_) FU ((0 : Int32), e32)
    refine r_aload_n (pc := 278) ok dX12_quarter_278 rfl ?_
    refine r_iconst (pc := 279) ok (0 : Int32) dX12_quarter_279 ci_0 ?_
    refine r_putI (pc := 280) ok cls12 sh_225 (k := 23) rfl (Nat.le_of_ble_eq_true rfl) (fun s_ => mx XX (va_up YY 225 s_)) (pm_r _ _).1 (pm_r _ _).2 rfl rfl rfl dX12_quarter_280 fl_Mo_271 (fun s40 => ?_)
    refine r_aload_n (pc := 283) ok dX12_quarter_283 rfl ?_
    refine r_getI (pc := 284) ok cls12 sh_225 (k := 19) rfl (Nat.le_of_ble_eq_true rfl) (mx_r (by decide) (va_up_self _ _ _)) dX12_quarter_284 fl_Mo_262 ?_
    exact r_iret (pc := 287) ok dX12_quarter_287 rfl
  · subst hz
    rfl
theorem tMo_quarter {l : Launch} {G : Gx} {b : Nat} {XX YY : Nat → Obj} {m : Obj} {r : Int32 × Obj} (hr : fMo_quarter m = some r) : MetG l G b yX12_quarter cX12_quarter 2 (some .int) 6 [.ref (b + 225)] (mx XX (va_up YY 225 m)) (qI G b r.1 (mx XX (va_up YY 225 r.2))) := by
  refine met_start [some (.ref (b + 225)), none] (by decide +kernel) (Nat.le_of_ble_eq_true rfl) rfl (fun Z hl ok => ?_)
  clear hl
  exact vMo_quarter ok r (by rw [hr]; rfl)
theorem vMo_fault {Z : Cx} {G : Gx} {b : Nat} {XX YY : Nat → Obj} {m : Obj} (ok : OK Z G b cX12_fault 1 0 RX12 (some .int)) : VO Z G b 1 (fun (r : Int32 × Obj) => QX Z b (qI G b r.1 (mx XX (va_up YY 225 r.2)))) (mx XX (va_up YY 225 m)) 0 [some (.ref (b + 225))] [] ((fMo_fault m).bind some) := by
  unfold fMo_fault
  refine r_aload_n (pc := 0) ok dX12_fault_0 rfl ?_
  refine r_iconst (pc := 1) ok (0 : Int32) dX12_fault_1 ci_0 ?_
  refine r_putI (pc := 2) ok cls12 sh_225 (k := 0) rfl (Nat.le_of_ble_eq_true rfl) (fun s_ => mx XX (va_up YY 225 s_)) (pm_r _ _).1 (pm_r _ _).2 rfl rfl rfl dX12_fault_2 fl_Mo_1 (fun s1 => ?_)
  refine r_aload_n (pc := 5) ok dX12_fault_5 rfl ?_
  refine r_getI (pc := 6) ok cls12 sh_225 (k := 15) rfl (Nat.le_of_ble_eq_true rfl) (mx_r (by decide) (va_up_self _ _ _)) dX12_fault_6 fl_Mo_178 ?_
  exact r_iret (pc := 9) ok dX12_fault_9 rfl
theorem tMo_fault {l : Launch} {G : Gx} {b : Nat} {XX YY : Nat → Obj} {m : Obj} {r : Int32 × Obj} (hr : fMo_fault m = some r) : MetG l G b yX12_fault cX12_fault 1 (some .int) 0 [.ref (b + 225)] (mx XX (va_up YY 225 m)) (qI G b r.1 (mx XX (va_up YY 225 r.2))) := by
  refine met_start [some (.ref (b + 225))] (by decide +kernel) (Nat.le_of_ble_eq_true rfl) rfl (fun Z hl ok => ?_)
  clear hl
  exact vMo_fault ok r (by rw [hr]; rfl)
theorem vMo_isHouse {Z : Cx} {G : Gx} {b : Nat} {XX YY : Nat → Obj} {m : Obj} {v1 : Int32} (ok : OK Z G b cX12_isHouse 2 1 RX12 (some .boolean)) (hm : YY 225 = m) : VO Z G b 2 (fun (r : Int32) => QX Z b (qI G b r (mx XX YY))) (mx XX YY) 0 [some (.ref (b + 225)), some (.int v1)] [] ((fMo_isHouse m v1).bind some) := by
  unfold fMo_isHouse
  refine r_iload_n (pc := 0) ok dX12_isHouse_0 rfl ?_
  refine r_iconst (pc := 1) ok (0 : Int32) dX12_isHouse_1 ci_0 ?_
  refine r_aload_n (pc := 2) ok dX12_isHouse_2 rfl ?_
  refine r_getR (pc := 3) ok cls12 sh_225 (k := 6) rfl (Nat.le_of_ble_eq_true rfl) rfl dX12_isHouse_3 fl_Mo_33 ?_
  refine r_iconst (pc := 6) ok (0 : Int32) dX12_isHouse_6 ci_0 ?_
  refine r_ialdc (pc := 7) ok sh_227 (j := 2) rfl (i := 0) (by decide +kernel) (mx_r (by decide) hm) dX12_isHouse_7 ?_
  refine r_iconst (pc := 8) ok (1 : Int32) dX12_isHouse_8 ci_1 ?_
  refine r_isub (pc := 9) ok dX12_isHouse_9 ?_
  refine k_I (pc := 10) (fun r1 => r1) (fun r1 => mx XX YY) (fun r1 hr_ => c_S (n := 3) ok ml_Mo_193 ws_X12_isIn yk_X12_isIn rfl (Nat.le_of_ble_eq_true rfl) (Nat.le_of_ble_eq_true rfl) (tMo_isIn hr_) rfl (Nat.le_of_ble_eq_true rfl) dX12_isHouse_10) (fun r1 => ?_)
  exact r_zret (pc := 13) ok dX12_isHouse_13 rfl rfl
theorem tMo_isHouse {l : Launch} {G : Gx} {b : Nat} {XX YY : Nat → Obj} {m : Obj} {v1 : Int32} (hm : YY 225 = m) {r : Int32} (hr : fMo_isHouse m v1 = some r) : MetG l G b yX12_isHouse cX12_isHouse 2 (some .boolean) 1 [.ref (b + 225), .int v1] (mx XX YY) (qI G b r (mx XX YY)) := by
  refine met_start [some (.ref (b + 225)), some (.int v1)] (by decide +kernel) (Nat.le_of_ble_eq_true rfl) rfl (fun Z hl ok => ?_)
  clear hl
  exact vMo_isHouse ok hm r (by rw [hr]; rfl)
theorem vMo_isPerson {Z : Cx} {G : Gx} {b : Nat} {XX YY : Nat → Obj} {m : Obj} {v1 : Int32} (ok : OK Z G b cX12_isPerson 2 1 RX12 (some .boolean)) (hm : YY 225 = m) : VO Z G b 2 (fun (r : Int32) => QX Z b (qI G b r (mx XX YY))) (mx XX YY) 0 [some (.ref (b + 225)), some (.int v1)] [] ((fMo_isPerson m v1).bind some) := by
  unfold fMo_isPerson
  refine r_iload_n (pc := 0) ok dX12_isPerson_0 rfl ?_
  refine r_iconst (pc := 1) ok (0 : Int32) dX12_isPerson_1 ci_0 ?_
  refine r_aload_n (pc := 2) ok dX12_isPerson_2 rfl ?_
  refine r_getR (pc := 3) ok cls12 sh_225 (k := 6) rfl (Nat.le_of_ble_eq_true rfl) rfl dX12_isPerson_3 fl_Mo_33 ?_
  refine r_iconst (pc := 6) ok (1 : Int32) dX12_isPerson_6 ci_1 ?_
  refine r_ialdc (pc := 7) ok sh_227 (j := 2) rfl (i := 1) (by decide +kernel) (mx_r (by decide) hm) dX12_isPerson_7 ?_
  refine r_iconst (pc := 8) ok (1 : Int32) dX12_isPerson_8 ci_1 ?_
  refine r_isub (pc := 9) ok dX12_isPerson_9 ?_
  refine k_I (pc := 10) (fun r1 => r1) (fun r1 => mx XX YY) (fun r1 hr_ => c_S (n := 3) ok ml_Mo_193 ws_X12_isIn yk_X12_isIn rfl (Nat.le_of_ble_eq_true rfl) (Nat.le_of_ble_eq_true rfl) (tMo_isIn hr_) rfl (Nat.le_of_ble_eq_true rfl) dX12_isPerson_10) (fun r1 => ?_)
  exact r_zret (pc := 13) ok dX12_isPerson_13 rfl rfl
theorem tMo_isPerson {l : Launch} {G : Gx} {b : Nat} {XX YY : Nat → Obj} {m : Obj} {v1 : Int32} (hm : YY 225 = m) {r : Int32} (hr : fMo_isPerson m v1 = some r) : MetG l G b yX12_isPerson cX12_isPerson 2 (some .boolean) 1 [.ref (b + 225), .int v1] (mx XX YY) (qI G b r (mx XX YY)) := by
  refine met_start [some (.ref (b + 225)), some (.int v1)] (by decide +kernel) (Nat.le_of_ble_eq_true rfl) rfl (fun Z hl ok => ?_)
  clear hl
  exact vMo_isPerson ok hm r (by rw [hr]; rfl)
theorem wMo_dwellers_L4 {Z : Cx} {G : Gx} {b : Nat} {XX YY : Nat → Obj} {m : Obj} {v1 : Int32} (ok : OK Z G b cX12_dwellers 4 0 RX12 (some .int)) (hm : YY 225 = m) {K : ((Int32 × Int32) ⊕ (Int32)) → Option (Int32)} (hc : ∀ (a : Int32 × Int32), VO Z G b 4 (fun (r : Int32) => QX Z b (qI G b r (mx XX YY))) (mx XX YY) 4 [some (.ref (b + 225)), some (.int v1), some (.int a.1), some (.int a.2)] [] (K (.inl a))) (hx : ∀ (e : Int32), VO Z G b 4 (fun (r : Int32) => QX Z b (qI G b r (mx XX YY))) (mx XX YY) 45 [none, none, some (.int e), none] [] (K (.inr e))) : ∀ (a : Int32 × Int32), VO Z G b 4 (fun (r : Int32) => QX Z b (qI G b r (mx XX YY))) (mx XX YY) 4 [some (.ref (b + 225)), some (.int v1), some (.int a.1), some (.int a.2)] [] ((fMo_dwellers_L4 m v1 a).bind K) := by
  intro a
  unfold fMo_dwellers_L4
  refine r_iload_n (pc := 4) ok dX12_dwellers_4 rfl ?_
  refine r_aload_n (pc := 5) ok dX12_dwellers_5 rfl ?_
  refine r_getR (pc := 6) ok cls12 sh_225 (k := 6) rfl (Nat.le_of_ble_eq_true rfl) rfl dX12_dwellers_6 fl_Mo_33 ?_
  refine r_iconst (pc := 9) ok (1 : Int32) dX12_dwellers_9 ci_1 ?_
  refine r_ialdc (pc := 10) ok sh_227 (j := 2) rfl (i := 1) (by decide +kernel) (mx_r (by decide) hm) dX12_dwellers_10 ?_
  refine r_icmp_ge (pc := 11) ok 45 dX12_dwellers_11 rfl (fun _ => ?_) (fun _ => ?_)
  · refine r_lv (lk_n (lk_n (lk_s (lk_n lk_0 _) _) _) _) ?_
    exact hx a.1
  · refine r_iload_n (pc := 14) ok dX12_dwellers_14 rfl ?_
    refine r_aload_n (pc := 15) ok dX12_dwellers_15 rfl ?_
    refine r_getR (pc := 16) ok cls12 sh_225 (k := 6) rfl (Nat.le_of_ble_eq_true rfl) rfl dX12_dwellers_16 fl_Mo_33 ?_
    refine r_bipush (pc := 19) ok (11 : Int32) dX12_dwellers_19 cb_11 ?_
    refine r_iload_n (pc := 21) ok dX12_dwellers_21 rfl ?_
    refine r_iadd (pc := 22) ok dX12_dwellers_22 ?_
    refine r_iald (pc := 23) ok sh_227 (j := 2) rfl (mx_r (by decide) hm) dX12_dwellers_23 (fun i1 => ?_)
    refine r_iload_n (pc := 24) ok dX12_dwellers_24 rfl ?_
    refine r_iconst (pc := 25) ok (1 : Int32) dX12_dwellers_25 ci_1 ?_
    refine r_iadd (pc := 26) ok dX12_dwellers_26 ?_
    refine r_icmp_ne (pc := 27) ok 36 dX12_dwellers_27 rfl (fun _ => ?_) (fun _ => ?_)
    · refine r_iconst (pc := 30) ok (1 : Int32) dX12_dwellers_30 ci_1 ?_
      refine r_iload_n (pc := 31) ok dX12_dwellers_31 rfl ?_
      refine r_ishl (pc := 32) ok dX12_dwellers_32 ?_
      refine r_goto (pc := 33) ok 37 dX12_dwellers_33 rfl ?_
      refine r_ior (pc := 37) ok dX12_dwellers_37 ?_
      refine r_bndI (fun x2 => ?_)
      refine r_istore_n (pc := 38) ok dX12_dwellers_38 (Nat.le_of_ble_eq_true rfl) rfl ?_
      refine r_iinc (pc := 39) ok (1 : Int32) dX12_dwellers_39 ci_1 rfl (Nat.le_of_ble_eq_true rfl) rfl ?_
      refine r_goto (pc := 42) ok 4 dX12_dwellers_42 rfl ?_
      exact hc (x2, (a.2 + (1 : Int32)))
    · refine r_iconst (pc := 36) ok (0 : Int32) dX12_dwellers_36 ci_0 ?_
      refine r_ior (pc := 37) ok dX12_dwellers_37 ?_
      refine r_bndI (fun x3 => ?_)
      refine r_istore_n (pc := 38) ok dX12_dwellers_38 (Nat.le_of_ble_eq_true rfl) rfl ?_
      refine r_iinc (pc := 39) ok (1 : Int32) dX12_dwellers_39 ci_1 rfl (Nat.le_of_ble_eq_true rfl) rfl ?_
      refine r_goto (pc := 42) ok 4 dX12_dwellers_42 rfl ?_
      exact hc (x3, (a.2 + (1 : Int32)))
theorem vMo_dwellers {Z : Cx} {G : Gx} {b : Nat} {XX YY : Nat → Obj} {m : Obj} {v1 : Int32} (ok : OK Z G b cX12_dwellers 4 0 RX12 (some .int)) (hm : YY 225 = m) : VO Z G b 4 (fun (r : Int32) => QX Z b (qI G b r (mx XX YY))) (mx XX YY) 0 [some (.ref (b + 225)), some (.int v1), none, none] [] ((fMo_dwellers m v1).bind some) := by
  unfold fMo_dwellers
  refine r_iconst (pc := 0) ok (0 : Int32) dX12_dwellers_0 ci_0 ?_
  refine r_istore_n (pc := 1) ok dX12_dwellers_1 (Nat.le_of_ble_eq_true rfl) rfl ?_
  refine r_iconst (pc := 2) ok (0 : Int32) dX12_dwellers_2 ci_0 ?_
  refine r_istore_n (pc := 3) ok dX12_dwellers_3 (Nat.le_of_ble_eq_true rfl) rfl ?_
  refine r_iter (P := fun (a4 : Int32 × Int32) o => VO Z G b 4 (fun (r : Int32) => QX Z b (qI G b r (mx XX YY))) (mx XX YY) 4 [some (.ref (b + 225)), some (.int v1), some (.int a4.1), some (.int a4.2)] [] o) (E := fun (e_4 : Int32) o => VO Z G b 4 (fun (r : Int32) => QX Z b (qI G b r (mx XX YY))) (mx XX YY) 45 [none, none, some (.int e_4), none] [] o) (fun _ => r_none) (fun K hc hx => wMo_dwellers_L4 ok hm (K := K) hc hx) (fun e4 => ?_) FU ((0 : Int32), (0 : Int32))
  refine r_iload_n (pc := 45) ok dX12_dwellers_45 rfl ?_
  exact r_iret (pc := 46) ok dX12_dwellers_46 rfl
theorem tMo_dwellers {l : Launch} {G : Gx} {b : Nat} {XX YY : Nat → Obj} {m : Obj} {v1 : Int32} (hm : YY 225 = m) {r : Int32} (hr : fMo_dwellers m v1 = some r) : MetG l G b yX12_dwellers cX12_dwellers 4 (some .int) 0 [.ref (b + 225), .int v1] (mx XX YY) (qI G b r (mx XX YY)) := by
  refine met_start [some (.ref (b + 225)), some (.int v1), none, none] (by decide +kernel) (Nat.le_of_ble_eq_true rfl) rfl (fun Z hl ok => ?_)
  clear hl
  exact vMo_dwellers ok hm r (by rw [hr]; rfl)
theorem vMo_isStranger {Z : Cx} {G : Gx} {b : Nat} {XX YY : Nat → Obj} {m : Obj} {v1 : Int32} {v2 : Int32} (ok : OK Z G b cX12_isStranger 3 1 RX12 (some .boolean)) (hm : YY 225 = m) : VO Z G b 3 (fun (r : Int32) => QX Z b (qI G b r (mx XX YY))) (mx XX YY) 0 [some (.ref (b + 225)), some (.int v1), some (.int v2)] [] ((fMo_isStranger m v1 v2).bind some) := by
  unfold fMo_isStranger
  refine r_aload_n (pc := 0) ok dX12_isStranger_0 rfl ?_
  refine r_getR (pc := 1) ok cls12 sh_225 (k := 6) rfl (Nat.le_of_ble_eq_true rfl) rfl dX12_isStranger_1 fl_Mo_33 ?_
  refine r_bipush (pc := 4) ok (113 : Int32) dX12_isStranger_4 cb_113 ?_
  refine r_iload_n (pc := 6) ok dX12_isStranger_6 rfl ?_
  refine r_iadd (pc := 7) ok dX12_isStranger_7 ?_
  refine r_iald (pc := 8) ok sh_227 (j := 2) rfl (mx_r (by decide) hm) dX12_isStranger_8 (fun i1 => ?_)
  refine r_iconst (pc := 9) ok (1 : Int32) dX12_isStranger_9 ci_1 ?_
  refine r_iload_n (pc := 10) ok dX12_isStranger_10 rfl ?_
  refine r_ishl (pc := 11) ok dX12_isStranger_11 ?_
  refine r_ior (pc := 12) ok dX12_isStranger_12 ?_
  refine r_aload_n (pc := 13) ok dX12_isStranger_13 rfl ?_
  refine r_iload_n (pc := 14) ok dX12_isStranger_14 rfl ?_
  refine k_I (pc := 15) (fun r2 => r2) (fun r2 => mx XX YY) (fun r2 hr_ => c_V (n := 1) ok cls12 sh_225 rfl ml_Mo_274 wv_X12_dwellers yk_X12_dwellers rfl (Nat.le_of_ble_eq_true rfl) (Nat.le_of_ble_eq_true rfl) (tMo_dwellers (hm) hr_) rfl (Nat.le_of_ble_eq_true rfl) dX12_isStranger_15) (fun r2 => ?_)
  refine r_iand (pc := 18) ok dX12_isStranger_18 ?_
  refine r_if_ne (pc := 19) ok 26 dX12_isStranger_19 rfl (fun _ => ?_) (fun _ => ?_)
  · refine r_iconst (pc := 22) ok (1 : Int32) dX12_isStranger_22 ci_1 ?_
    refine r_goto (pc := 23) ok 27 dX12_isStranger_23 rfl ?_
    exact r_zret (pc := 27) ok dX12_isStranger_27 za_1 rfl
  · refine r_iconst (pc := 26) ok (0 : Int32) dX12_isStranger_26 ci_0 ?_
    exact r_zret (pc := 27) ok dX12_isStranger_27 za_0 rfl
theorem tMo_isStranger {l : Launch} {G : Gx} {b : Nat} {XX YY : Nat → Obj} {m : Obj} {v1 : Int32} {v2 : Int32} (hm : YY 225 = m) {r : Int32} (hr : fMo_isStranger m v1 v2 = some r) : MetG l G b yX12_isStranger cX12_isStranger 3 (some .boolean) 1 [.ref (b + 225), .int v1, .int v2] (mx XX YY) (qI G b r (mx XX YY)) := by
  refine met_start [some (.ref (b + 225)), some (.int v1), some (.int v2)] (by decide +kernel) (Nat.le_of_ble_eq_true rfl) rfl (fun Z hl ok => ?_)
  clear hl
  exact vMo_isStranger ok hm r (by rw [hr]; rfl)
theorem wMo_strangers_L4 {Z : Cx} {G : Gx} {b : Nat} {XX YY : Nat → Obj} {m : Obj} {v1 : Int32} (ok : OK Z G b cX12_strangers 4 2 RX12 (some .int)) (hm : YY 225 = m) {K : ((Int32 × Int32) ⊕ (Int32)) → Option (Int32)} (hc : ∀ (a : Int32 × Int32), VO Z G b 4 (fun (r : Int32) => QX Z b (qI G b r (mx XX YY))) (mx XX YY) 4 [some (.ref (b + 225)), some (.int v1), some (.int a.1), some (.int a.2)] [] (K (.inl a))) (hx : ∀ (e : Int32), VO Z G b 4 (fun (r : Int32) => QX Z b (qI G b r (mx XX YY))) (mx XX YY) 39 [none, none, some (.int e), none] [] (K (.inr e))) : ∀ (a : Int32 × Int32), VO Z G b 4 (fun (r : Int32) => QX Z b (qI G b r (mx XX YY))) (mx XX YY) 4 [some (.ref (b + 225)), some (.int v1), some (.int a.1), some (.int a.2)] [] ((fMo_strangers_L4 m v1 a).bind K) := by
  intro a
  unfold fMo_strangers_L4
  refine r_iload_n (pc := 4) ok dX12_strangers_4 rfl ?_
  refine r_aload_n (pc := 5) ok dX12_strangers_5 rfl ?_
  refine r_getR (pc := 6) ok cls12 sh_225 (k := 6) rfl (Nat.le_of_ble_eq_true rfl) rfl dX12_strangers_6 fl_Mo_33 ?_
  refine r_iconst (pc := 9) ok (1 : Int32) dX12_strangers_9 ci_1 ?_
  refine r_ialdc (pc := 10) ok sh_227 (j := 2) rfl (i := 1) (by decide +kernel) (mx_r (by decide) hm) dX12_strangers_10 ?_
  refine r_icmp_ge (pc := 11) ok 39 dX12_strangers_11 rfl (fun _ => ?_) (fun _ => ?_)
  · refine r_lv (lk_n (lk_n (lk_s (lk_n lk_0 _) _) _) _) ?_
    exact hx a.1
  · refine r_iload_n (pc := 14) ok dX12_strangers_14 rfl ?_
    refine r_aload_n (pc := 15) ok dX12_strangers_15 rfl ?_
    refine r_iload_n (pc := 16) ok dX12_strangers_16 rfl ?_
    refine r_iload_n (pc := 17) ok dX12_strangers_17 rfl ?_
    refine k_I (pc := 18) (fun r1 => r1) (fun r1 => mx XX YY) (fun r1 hr_ => c_V (n := 2) ok cls12 sh_225 rfl ml_Mo_278 wv_X12_isStranger yk_X12_isStranger rfl (Nat.le_of_ble_eq_true rfl) (Nat.le_of_ble_eq_true rfl) (tMo_isStranger (hm) hr_) rfl (Nat.le_of_ble_eq_true rfl) dX12_strangers_18) (fun r1 => ?_)
    refine r_if_eq (pc := 21) ok 30 dX12_strangers_21 rfl (fun _ => ?_) (fun _ => ?_)
    · refine r_iconst (pc := 30) ok (0 : Int32) dX12_strangers_30 ci_0 ?_
      refine r_ior (pc := 31) ok dX12_strangers_31 ?_
      refine r_bndI (fun x2 => ?_)
      refine r_istore_n (pc := 32) ok dX12_strangers_32 (Nat.le_of_ble_eq_true rfl) rfl ?_
      refine r_iinc (pc := 33) ok (1 : Int32) dX12_strangers_33 ci_1 rfl (Nat.le_of_ble_eq_true rfl) rfl ?_
      refine r_goto (pc := 36) ok 4 dX12_strangers_36 rfl ?_
      exact hc (x2, (a.2 + (1 : Int32)))
    · refine r_iconst (pc := 24) ok (1 : Int32) dX12_strangers_24 ci_1 ?_
      refine r_iload_n (pc := 25) ok dX12_strangers_25 rfl ?_
      refine r_ishl (pc := 26) ok dX12_strangers_26 ?_
      refine r_goto (pc := 27) ok 31 dX12_strangers_27 rfl ?_
      refine r_ior (pc := 31) ok dX12_strangers_31 ?_
      refine r_bndI (fun x3 => ?_)
      refine r_istore_n (pc := 32) ok dX12_strangers_32 (Nat.le_of_ble_eq_true rfl) rfl ?_
      refine r_iinc (pc := 33) ok (1 : Int32) dX12_strangers_33 ci_1 rfl (Nat.le_of_ble_eq_true rfl) rfl ?_
      refine r_goto (pc := 36) ok 4 dX12_strangers_36 rfl ?_
      exact hc (x3, (a.2 + (1 : Int32)))
theorem vMo_strangers {Z : Cx} {G : Gx} {b : Nat} {XX YY : Nat → Obj} {m : Obj} {v1 : Int32} (ok : OK Z G b cX12_strangers 4 2 RX12 (some .int)) (hm : YY 225 = m) : VO Z G b 4 (fun (r : Int32) => QX Z b (qI G b r (mx XX YY))) (mx XX YY) 0 [some (.ref (b + 225)), some (.int v1), none, none] [] ((fMo_strangers m v1).bind some) := by
  unfold fMo_strangers
  refine r_iconst (pc := 0) ok (0 : Int32) dX12_strangers_0 ci_0 ?_
  refine r_istore_n (pc := 1) ok dX12_strangers_1 (Nat.le_of_ble_eq_true rfl) rfl ?_
  refine r_iconst (pc := 2) ok (0 : Int32) dX12_strangers_2 ci_0 ?_
  refine r_istore_n (pc := 3) ok dX12_strangers_3 (Nat.le_of_ble_eq_true rfl) rfl ?_
  refine r_iter (P := fun (a4 : Int32 × Int32) o => VO Z G b 4 (fun (r : Int32) => QX Z b (qI G b r (mx XX YY))) (mx XX YY) 4 [some (.ref (b + 225)), some (.int v1), some (.int a4.1), some (.int a4.2)] [] o) (E := fun (e_4 : Int32) o => VO Z G b 4 (fun (r : Int32) => QX Z b (qI G b r (mx XX YY))) (mx XX YY) 39 [none, none, some (.int e_4), none] [] o) (fun _ => r_none) (fun K hc hx => wMo_strangers_L4 ok hm (K := K) hc hx) (fun e4 => ?_) FU ((0 : Int32), (0 : Int32))
  refine r_iload_n (pc := 39) ok dX12_strangers_39 rfl ?_
  exact r_iret (pc := 40) ok dX12_strangers_40 rfl
theorem tMo_strangers {l : Launch} {G : Gx} {b : Nat} {XX YY : Nat → Obj} {m : Obj} {v1 : Int32} (hm : YY 225 = m) {r : Int32} (hr : fMo_strangers m v1 = some r) : MetG l G b yX12_strangers cX12_strangers 4 (some .int) 2 [.ref (b + 225), .int v1] (mx XX YY) (qI G b r (mx XX YY)) := by
  refine met_start [some (.ref (b + 225)), some (.int v1), none, none] (by decide +kernel) (Nat.le_of_ble_eq_true rfl) rfl (fun Z hl ok => ?_)
  clear hl
  exact vMo_strangers ok hm r (by rw [hr]; rfl)
theorem wMo_are_L4 {Z : Cx} {G : Gx} {b : Nat} {XX YY : Nat → Obj} {m : Obj} {v1 : Int32} (ok : OK Z G b cX12_are 4 0 RX12 (some .int)) (hm : YY 225 = m) {K : ((Int32 × Int32) ⊕ (Int32)) → Option (Int32)} (hc : ∀ (a : Int32 × Int32), VO Z G b 4 (fun (r : Int32) => QX Z b (qI G b r (mx XX YY))) (mx XX YY) 4 [some (.ref (b + 225)), some (.int v1), some (.int a.1), some (.int a.2)] [] (K (.inl a))) (hx : ∀ (e : Int32), VO Z G b 4 (fun (r : Int32) => QX Z b (qI G b r (mx XX YY))) (mx XX YY) 43 [none, none, some (.int e), none] [] (K (.inr e))) : ∀ (a : Int32 × Int32), VO Z G b 4 (fun (r : Int32) => QX Z b (qI G b r (mx XX YY))) (mx XX YY) 4 [some (.ref (b + 225)), some (.int v1), some (.int a.1), some (.int a.2)] [] ((fMo_are_L4 m v1 a).bind K) := by
  intro a
  unfold fMo_are_L4
  refine r_iload_n (pc := 4) ok dX12_are_4 rfl ?_
  refine r_aload_n (pc := 5) ok dX12_are_5 rfl ?_
  refine r_getR (pc := 6) ok cls12 sh_225 (k := 6) rfl (Nat.le_of_ble_eq_true rfl) rfl dX12_are_6 fl_Mo_33 ?_
  refine r_iconst (pc := 9) ok (1 : Int32) dX12_are_9 ci_1 ?_
  refine r_ialdc (pc := 10) ok sh_227 (j := 2) rfl (i := 1) (by decide +kernel) (mx_r (by decide) hm) dX12_are_10 ?_
  refine r_icmp_ge (pc := 11) ok 43 dX12_are_11 rfl (fun _ => ?_) (fun _ => ?_)
  · refine r_lv (lk_n (lk_n (lk_s (lk_n lk_0 _) _) _) _) ?_
    exact hx a.1
  · refine r_iload_n (pc := 14) ok dX12_are_14 rfl ?_
    refine r_aload_n (pc := 15) ok dX12_are_15 rfl ?_
    refine r_getR (pc := 16) ok cls12 sh_225 (k := 6) rfl (Nat.le_of_ble_eq_true rfl) rfl dX12_are_16 fl_Mo_33 ?_
    refine r_bipush (pc := 19) ok (73 : Int32) dX12_are_19 cb_73 ?_
    refine r_iload_n (pc := 21) ok dX12_are_21 rfl ?_
    refine r_iadd (pc := 22) ok dX12_are_22 ?_
    refine r_iald (pc := 23) ok sh_227 (j := 2) rfl (mx_r (by decide) hm) dX12_are_23 (fun i1 => ?_)
    refine r_iload_n (pc := 24) ok dX12_are_24 rfl ?_
    refine r_icmp_ne (pc := 25) ok 34 dX12_are_25 rfl (fun _ => ?_) (fun _ => ?_)
    · refine r_iconst (pc := 28) ok (1 : Int32) dX12_are_28 ci_1 ?_
      refine r_iload_n (pc := 29) ok dX12_are_29 rfl ?_
      refine r_ishl (pc := 30) ok dX12_are_30 ?_
      refine r_goto (pc := 31) ok 35 dX12_are_31 rfl ?_
      refine r_ior (pc := 35) ok dX12_are_35 ?_
      refine r_bndI (fun x2 => ?_)
      refine r_istore_n (pc := 36) ok dX12_are_36 (Nat.le_of_ble_eq_true rfl) rfl ?_
      refine r_iinc (pc := 37) ok (1 : Int32) dX12_are_37 ci_1 rfl (Nat.le_of_ble_eq_true rfl) rfl ?_
      refine r_goto (pc := 40) ok 4 dX12_are_40 rfl ?_
      exact hc (x2, (a.2 + (1 : Int32)))
    · refine r_iconst (pc := 34) ok (0 : Int32) dX12_are_34 ci_0 ?_
      refine r_ior (pc := 35) ok dX12_are_35 ?_
      refine r_bndI (fun x3 => ?_)
      refine r_istore_n (pc := 36) ok dX12_are_36 (Nat.le_of_ble_eq_true rfl) rfl ?_
      refine r_iinc (pc := 37) ok (1 : Int32) dX12_are_37 ci_1 rfl (Nat.le_of_ble_eq_true rfl) rfl ?_
      refine r_goto (pc := 40) ok 4 dX12_are_40 rfl ?_
      exact hc (x3, (a.2 + (1 : Int32)))
theorem vMo_are {Z : Cx} {G : Gx} {b : Nat} {XX YY : Nat → Obj} {m : Obj} {v1 : Int32} (ok : OK Z G b cX12_are 4 0 RX12 (some .int)) (hm : YY 225 = m) : VO Z G b 4 (fun (r : Int32) => QX Z b (qI G b r (mx XX YY))) (mx XX YY) 0 [some (.ref (b + 225)), some (.int v1), none, none] [] ((fMo_are m v1).bind some) := by
  unfold fMo_are
  refine r_iconst (pc := 0) ok (0 : Int32) dX12_are_0 ci_0 ?_
  refine r_istore_n (pc := 1) ok dX12_are_1 (Nat.le_of_ble_eq_true rfl) rfl ?_
  refine r_iconst (pc := 2) ok (0 : Int32) dX12_are_2 ci_0 ?_
  refine r_istore_n (pc := 3) ok dX12_are_3 (Nat.le_of_ble_eq_true rfl) rfl ?_
  refine r_iter (P := fun (a4 : Int32 × Int32) o => VO Z G b 4 (fun (r : Int32) => QX Z b (qI G b r (mx XX YY))) (mx XX YY) 4 [some (.ref (b + 225)), some (.int v1), some (.int a4.1), some (.int a4.2)] [] o) (E := fun (e_4 : Int32) o => VO Z G b 4 (fun (r : Int32) => QX Z b (qI G b r (mx XX YY))) (mx XX YY) 43 [none, none, some (.int e_4), none] [] o) (fun _ => r_none) (fun K hc hx => wMo_are_L4 ok hm (K := K) hc hx) (fun e4 => ?_) FU ((0 : Int32), (0 : Int32))
  refine r_iload_n (pc := 43) ok dX12_are_43 rfl ?_
  exact r_iret (pc := 44) ok dX12_are_44 rfl
theorem tMo_are {l : Launch} {G : Gx} {b : Nat} {XX YY : Nat → Obj} {m : Obj} {v1 : Int32} (hm : YY 225 = m) {r : Int32} (hr : fMo_are m v1 = some r) : MetG l G b yX12_are cX12_are 4 (some .int) 0 [.ref (b + 225), .int v1] (mx XX YY) (qI G b r (mx XX YY)) := by
  refine met_start [some (.ref (b + 225)), some (.int v1), none, none] (by decide +kernel) (Nat.le_of_ble_eq_true rfl) rfl (fun Z hl ok => ?_)
  clear hl
  exact vMo_are ok hm r (by rw [hr]; rfl)
theorem wMo_areAt_L5 {Z : Cx} {G : Gx} {b : Nat} {XX YY : Nat → Obj} {m : Obj} {v1 : Int32} {v2 : Int32} (ok : OK Z G b cX12_areAt 5 0 RX12 (some .int)) (hm : YY 225 = m) {K : ((Int32 × Int32) ⊕ (Int32)) → Option (Int32)} (hc : ∀ (a : Int32 × Int32), VO Z G b 5 (fun (r : Int32) => QX Z b (qI G b r (mx XX YY))) (mx XX YY) 5 [some (.ref (b + 225)), some (.int v1), some (.int v2), some (.int a.1), some (.int a.2)] [] (K (.inl a))) (hx : ∀ (e : Int32), VO Z G b 5 (fun (r : Int32) => QX Z b (qI G b r (mx XX YY))) (mx XX YY) 63 [none, none, none, some (.int e), none] [] (K (.inr e))) : ∀ (a : Int32 × Int32), VO Z G b 5 (fun (r : Int32) => QX Z b (qI G b r (mx XX YY))) (mx XX YY) 5 [some (.ref (b + 225)), some (.int v1), some (.int v2), some (.int a.1), some (.int a.2)] [] ((fMo_areAt_L5 m v1 v2 a).bind K) := by
  intro a
  unfold fMo_areAt_L5
  refine r_iload (pc := 5) ok dX12_areAt_5 rfl ?_
  refine r_aload_n (pc := 7) ok dX12_areAt_7 rfl ?_
  refine r_getR (pc := 8) ok cls12 sh_225 (k := 6) rfl (Nat.le_of_ble_eq_true rfl) rfl dX12_areAt_8 fl_Mo_33 ?_
  refine r_iconst (pc := 11) ok (1 : Int32) dX12_areAt_11 ci_1 ?_
  refine r_ialdc (pc := 12) ok sh_227 (j := 2) rfl (i := 1) (by decide +kernel) (mx_r (by decide) hm) dX12_areAt_12 ?_
  refine r_icmp_ge (pc := 13) ok 63 dX12_areAt_13 rfl (fun _ => ?_) (fun _ => ?_)
  · refine r_lv (lk_n (lk_n (lk_n (lk_s (lk_n lk_0 _) _) _) _) _) ?_
    exact hx a.1
  · refine r_iload_n (pc := 16) ok dX12_areAt_16 rfl ?_
    refine r_aload_n (pc := 17) ok dX12_areAt_17 rfl ?_
    refine r_getR (pc := 18) ok cls12 sh_225 (k := 6) rfl (Nat.le_of_ble_eq_true rfl) rfl dX12_areAt_18 fl_Mo_33 ?_
    refine r_bipush (pc := 21) ok (73 : Int32) dX12_areAt_21 cb_73 ?_
    refine r_iload (pc := 23) ok dX12_areAt_23 rfl ?_
    refine r_iadd (pc := 25) ok dX12_areAt_25 ?_
    refine r_iald (pc := 26) ok sh_227 (j := 2) rfl (mx_r (by decide) hm) dX12_areAt_26 (fun i1 => ?_)
    refine r_iload_n (pc := 27) ok dX12_areAt_27 rfl ?_
    refine r_icmp_ne (pc := 28) ok 54 dX12_areAt_28 rfl (fun _ => ?_) (fun _ => ?_)
    · refine r_aload_n (pc := 31) ok dX12_areAt_31 rfl ?_
      refine r_getR (pc := 32) ok cls12 sh_225 (k := 6) rfl (Nat.le_of_ble_eq_true rfl) rfl dX12_areAt_32 fl_Mo_33 ?_
      refine r_bipush (pc := 35) ok (97 : Int32) dX12_areAt_35 cb_97 ?_
      refine r_iload (pc := 37) ok dX12_areAt_37 rfl ?_
      refine r_iadd (pc := 39) ok dX12_areAt_39 ?_
      refine r_iald (pc := 40) ok sh_227 (j := 2) rfl (mx_r (by decide) hm) dX12_areAt_40 (fun i2 => ?_)
      refine r_iload_n (pc := 41) ok dX12_areAt_41 rfl ?_
      refine r_iconst (pc := 42) ok (1 : Int32) dX12_areAt_42 ci_1 ?_
      refine r_iadd (pc := 43) ok dX12_areAt_43 ?_
      refine r_icmp_ne (pc := 44) ok 54 dX12_areAt_44 rfl (fun _ => ?_) (fun _ => ?_)
      · refine r_iconst (pc := 47) ok (1 : Int32) dX12_areAt_47 ci_1 ?_
        refine r_iload (pc := 48) ok dX12_areAt_48 rfl ?_
        refine r_ishl (pc := 50) ok dX12_areAt_50 ?_
        refine r_goto (pc := 51) ok 55 dX12_areAt_51 rfl ?_
        refine r_ior (pc := 55) ok dX12_areAt_55 ?_
        refine r_bndI (fun x3 => ?_)
        refine r_istore_n (pc := 56) ok dX12_areAt_56 (Nat.le_of_ble_eq_true rfl) rfl ?_
        refine r_iinc (pc := 57) ok (1 : Int32) dX12_areAt_57 ci_1 rfl (Nat.le_of_ble_eq_true rfl) rfl ?_
        refine r_goto (pc := 60) ok 5 dX12_areAt_60 rfl ?_
        exact hc (x3, (a.2 + (1 : Int32)))
      · refine r_iconst (pc := 54) ok (0 : Int32) dX12_areAt_54 ci_0 ?_
        refine r_ior (pc := 55) ok dX12_areAt_55 ?_
        refine r_bndI (fun x4 => ?_)
        refine r_istore_n (pc := 56) ok dX12_areAt_56 (Nat.le_of_ble_eq_true rfl) rfl ?_
        refine r_iinc (pc := 57) ok (1 : Int32) dX12_areAt_57 ci_1 rfl (Nat.le_of_ble_eq_true rfl) rfl ?_
        refine r_goto (pc := 60) ok 5 dX12_areAt_60 rfl ?_
        exact hc (x4, (a.2 + (1 : Int32)))
    · refine r_iconst (pc := 54) ok (0 : Int32) dX12_areAt_54 ci_0 ?_
      refine r_ior (pc := 55) ok dX12_areAt_55 ?_
      refine r_bndI (fun x5 => ?_)
      refine r_istore_n (pc := 56) ok dX12_areAt_56 (Nat.le_of_ble_eq_true rfl) rfl ?_
      refine r_iinc (pc := 57) ok (1 : Int32) dX12_areAt_57 ci_1 rfl (Nat.le_of_ble_eq_true rfl) rfl ?_
      refine r_goto (pc := 60) ok 5 dX12_areAt_60 rfl ?_
      exact hc (x5, (a.2 + (1 : Int32)))
theorem vMo_areAt {Z : Cx} {G : Gx} {b : Nat} {XX YY : Nat → Obj} {m : Obj} {v1 : Int32} {v2 : Int32} (ok : OK Z G b cX12_areAt 5 0 RX12 (some .int)) (hm : YY 225 = m) : VO Z G b 5 (fun (r : Int32) => QX Z b (qI G b r (mx XX YY))) (mx XX YY) 0 [some (.ref (b + 225)), some (.int v1), some (.int v2), none, none] [] ((fMo_areAt m v1 v2).bind some) := by
  unfold fMo_areAt
  refine r_iconst (pc := 0) ok (0 : Int32) dX12_areAt_0 ci_0 ?_
  refine r_istore_n (pc := 1) ok dX12_areAt_1 (Nat.le_of_ble_eq_true rfl) rfl ?_
  refine r_iconst (pc := 2) ok (0 : Int32) dX12_areAt_2 ci_0 ?_
  refine r_istore (pc := 3) ok dX12_areAt_3 (Nat.le_of_ble_eq_true rfl) rfl ?_
  refine r_iter (P := fun (a5 : Int32 × Int32) o => VO Z G b 5 (fun (r : Int32) => QX Z b (qI G b r (mx XX YY))) (mx XX YY) 5 [some (.ref (b + 225)), some (.int v1), some (.int v2), some (.int a5.1), some (.int a5.2)] [] o) (E := fun (e_5 : Int32) o => VO Z G b 5 (fun (r : Int32) => QX Z b (qI G b r (mx XX YY))) (mx XX YY) 63 [none, none, none, some (.int e_5), none] [] o) (fun _ => r_none) (fun K hc hx => wMo_areAt_L5 ok hm (K := K) hc hx) (fun e6 => ?_) FU ((0 : Int32), (0 : Int32))
  refine r_iload_n (pc := 63) ok dX12_areAt_63 rfl ?_
  exact r_iret (pc := 64) ok dX12_areAt_64 rfl
theorem tMo_areAt {l : Launch} {G : Gx} {b : Nat} {XX YY : Nat → Obj} {m : Obj} {v1 : Int32} {v2 : Int32} (hm : YY 225 = m) {r : Int32} (hr : fMo_areAt m v1 v2 = some r) : MetG l G b yX12_areAt cX12_areAt 5 (some .int) 0 [.ref (b + 225), .int v1, .int v2] (mx XX YY) (qI G b r (mx XX YY)) := by
  refine met_start [some (.ref (b + 225)), some (.int v1), some (.int v2), none, none] (by decide +kernel) (Nat.le_of_ble_eq_true rfl) rfl (fun Z hl ok => ?_)
  clear hl
  exact vMo_areAt ok hm r (by rw [hr]; rfl)
theorem wMo_openHouses_L4 {Z : Cx} {G : Gx} {b : Nat} {XX YY : Nat → Obj} {m : Obj} (ok : OK Z G b cX12_openHouses 3 3 RX12 (some .int)) (hm : YY 225 = m) {K : ((Int32 × Int32) ⊕ (Int32)) → Option (Int32)} (hc : ∀ (a : Int32 × Int32), VO Z G b 3 (fun (r : Int32) => QX Z b (qI G b r (mx XX YY))) (mx XX YY) 4 [some (.ref (b + 225)), some (.int a.1), some (.int a.2)] [] (K (.inl a))) (hx : ∀ (e : Int32), VO Z G b 3 (fun (r : Int32) => QX Z b (qI G b r (mx XX YY))) (mx XX YY) 38 [none, some (.int e), none] [] (K (.inr e))) : ∀ (a : Int32 × Int32), VO Z G b 3 (fun (r : Int32) => QX Z b (qI G b r (mx XX YY))) (mx XX YY) 4 [some (.ref (b + 225)), some (.int a.1), some (.int a.2)] [] ((fMo_openHouses_L4 m a).bind K) := by
  intro a
  unfold fMo_openHouses_L4
  refine r_iload_n (pc := 4) ok dX12_openHouses_4 rfl ?_
  refine r_aload_n (pc := 5) ok dX12_openHouses_5 rfl ?_
  refine r_getR (pc := 6) ok cls12 sh_225 (k := 6) rfl (Nat.le_of_ble_eq_true rfl) rfl dX12_openHouses_6 fl_Mo_33 ?_
  refine r_iconst (pc := 9) ok (0 : Int32) dX12_openHouses_9 ci_0 ?_
  refine r_ialdc (pc := 10) ok sh_227 (j := 2) rfl (i := 0) (by decide +kernel) (mx_r (by decide) hm) dX12_openHouses_10 ?_
  refine r_icmp_ge (pc := 11) ok 38 dX12_openHouses_11 rfl (fun _ => ?_) (fun _ => ?_)
  · refine r_lv (lk_n (lk_s (lk_n lk_0 _) _) _) ?_
    exact hx a.1
  · refine r_iload_n (pc := 14) ok dX12_openHouses_14 rfl ?_
    refine r_aload_n (pc := 15) ok dX12_openHouses_15 rfl ?_
    refine r_iload_n (pc := 16) ok dX12_openHouses_16 rfl ?_
    refine k_I (pc := 17) (fun r1 => r1) (fun r1 => mx XX YY) (fun r1 hr_ => c_V (n := 1) ok cls12 sh_225 rfl ml_Mo_281 wv_X12_strangers yk_X12_strangers rfl (Nat.le_of_ble_eq_true rfl) (Nat.le_of_ble_eq_true rfl) (tMo_strangers (hm) hr_) rfl (Nat.le_of_ble_eq_true rfl) dX12_openHouses_17) (fun r1 => ?_)
    refine r_if_eq (pc := 20) ok 29 dX12_openHouses_20 rfl (fun _ => ?_) (fun _ => ?_)
    · refine r_iconst (pc := 29) ok (0 : Int32) dX12_openHouses_29 ci_0 ?_
      refine r_ior (pc := 30) ok dX12_openHouses_30 ?_
      refine r_bndI (fun x2 => ?_)
      refine r_istore_n (pc := 31) ok dX12_openHouses_31 (Nat.le_of_ble_eq_true rfl) rfl ?_
      refine r_iinc (pc := 32) ok (1 : Int32) dX12_openHouses_32 ci_1 rfl (Nat.le_of_ble_eq_true rfl) rfl ?_
      refine r_goto (pc := 35) ok 4 dX12_openHouses_35 rfl ?_
      exact hc (x2, (a.2 + (1 : Int32)))
    · refine r_iconst (pc := 23) ok (1 : Int32) dX12_openHouses_23 ci_1 ?_
      refine r_iload_n (pc := 24) ok dX12_openHouses_24 rfl ?_
      refine r_ishl (pc := 25) ok dX12_openHouses_25 ?_
      refine r_goto (pc := 26) ok 30 dX12_openHouses_26 rfl ?_
      refine r_ior (pc := 30) ok dX12_openHouses_30 ?_
      refine r_bndI (fun x3 => ?_)
      refine r_istore_n (pc := 31) ok dX12_openHouses_31 (Nat.le_of_ble_eq_true rfl) rfl ?_
      refine r_iinc (pc := 32) ok (1 : Int32) dX12_openHouses_32 ci_1 rfl (Nat.le_of_ble_eq_true rfl) rfl ?_
      refine r_goto (pc := 35) ok 4 dX12_openHouses_35 rfl ?_
      exact hc (x3, (a.2 + (1 : Int32)))
theorem vMo_openHouses {Z : Cx} {G : Gx} {b : Nat} {XX YY : Nat → Obj} {m : Obj} (ok : OK Z G b cX12_openHouses 3 3 RX12 (some .int)) (hm : YY 225 = m) : VO Z G b 3 (fun (r : Int32) => QX Z b (qI G b r (mx XX YY))) (mx XX YY) 0 [some (.ref (b + 225)), none, none] [] ((fMo_openHouses m).bind some) := by
  unfold fMo_openHouses
  refine r_iconst (pc := 0) ok (0 : Int32) dX12_openHouses_0 ci_0 ?_
  refine r_istore_n (pc := 1) ok dX12_openHouses_1 (Nat.le_of_ble_eq_true rfl) rfl ?_
  refine r_iconst (pc := 2) ok (0 : Int32) dX12_openHouses_2 ci_0 ?_
  refine r_istore_n (pc := 3) ok dX12_openHouses_3 (Nat.le_of_ble_eq_true rfl) rfl ?_
  refine r_iter (P := fun (a4 : Int32 × Int32) o => VO Z G b 3 (fun (r : Int32) => QX Z b (qI G b r (mx XX YY))) (mx XX YY) 4 [some (.ref (b + 225)), some (.int a4.1), some (.int a4.2)] [] o) (E := fun (e_4 : Int32) o => VO Z G b 3 (fun (r : Int32) => QX Z b (qI G b r (mx XX YY))) (mx XX YY) 38 [none, some (.int e_4), none] [] o) (fun _ => r_none) (fun K hc hx => wMo_openHouses_L4 ok hm (K := K) hc hx) (fun e4 => ?_) FU ((0 : Int32), (0 : Int32))
  refine r_iload_n (pc := 38) ok dX12_openHouses_38 rfl ?_
  exact r_iret (pc := 39) ok dX12_openHouses_39 rfl
theorem tMo_openHouses {l : Launch} {G : Gx} {b : Nat} {XX YY : Nat → Obj} {m : Obj} (hm : YY 225 = m) {r : Int32} (hr : fMo_openHouses m = some r) : MetG l G b yX12_openHouses cX12_openHouses 3 (some .int) 3 [.ref (b + 225)] (mx XX YY) (qI G b r (mx XX YY)) := by
  refine met_start [some (.ref (b + 225)), none, none] (by decide +kernel) (Nat.le_of_ble_eq_true rfl) rfl (fun Z hl ok => ?_)
  clear hl
  exact vMo_openHouses ok hm r (by rw [hr]; rfl)
theorem wMo_callOf_L2 {Z : Cx} {G : Gx} {b : Nat} {XX YY : Nat → Obj} {m : Obj} {v1 : Int32} {v2 : Int32} (ok : OK Z G b cX12_callOf 4 0 RX12 (some .int)) (hm : YY 225 = m) {K : ((Int32) ⊕ ((Unit) ⊕ (Int32))) → Option (Int32)} (hc : ∀ (a : Int32), VO Z G b 4 (fun (r : Int32) => QX Z b (qI G b r (mx XX YY))) (mx XX YY) 2 [some (.ref (b + 225)), some (.int v1), some (.int v2), some (.int a)] [] (K (.inl a))) (hx : ∀ (z : (Unit) ⊕ (Int32)), (∀ (e : Unit), z = .inl e → VO Z G b 4 (fun (r : Int32) => QX Z b (qI G b r (mx XX YY))) (mx XX YY) 85 [none, none, none, none] [] (K (.inr z))) ∧ (∀ (r : Int32), z = .inr r → K (.inr z) = some r)) : ∀ (a : Int32), VO Z G b 4 (fun (r : Int32) => QX Z b (qI G b r (mx XX YY))) (mx XX YY) 2 [some (.ref (b + 225)), some (.int v1), some (.int v2), some (.int a)] [] ((fMo_callOf_L2 m v1 v2 a).bind K) := by
  intro a
  unfold fMo_callOf_L2
  refine r_iload_n (pc := 2) ok dX12_callOf_2 rfl ?_
  refine r_aload_n (pc := 3) ok dX12_callOf_3 rfl ?_
  refine r_getR (pc := 4) ok cls12 sh_225 (k := 6) rfl (Nat.le_of_ble_eq_true rfl) rfl dX12_callOf_4 fl_Mo_33 ?_
  refine r_bipush (pc := 7) ok (72 : Int32) dX12_callOf_7 cb_72 ?_
  refine r_ialdc (pc := 9) ok sh_227 (j := 2) rfl (i := 72) (by decide +kernel) (mx_r (by decide) hm) dX12_callOf_9 ?_
  refine r_icmp_ge (pc := 10) ok 85 dX12_callOf_10 rfl (fun _ => ?_) (fun _ => ?_)
  · refine r_lv (lk_n (lk_n (lk_n (lk_n lk_0 _) _) _) _) ?_
    exact (hx (.inl ())).1 _ rfl
  · refine r_aload_n (pc := 13) ok dX12_callOf_13 rfl ?_
    refine r_getR (pc := 14) ok cls12 sh_225 (k := 6) rfl (Nat.le_of_ble_eq_true rfl) rfl dX12_callOf_14 fl_Mo_33 ?_
    refine r_sipush (pc := 17) ok (137 : Int32) dX12_callOf_17 cs_137 ?_
    refine r_iload_n (pc := 20) ok dX12_callOf_20 rfl ?_
    refine r_iadd (pc := 21) ok dX12_callOf_21 ?_
    refine r_iald (pc := 22) ok sh_227 (j := 2) rfl (mx_r (by decide) hm) dX12_callOf_22 (fun i1 => ?_)
    refine r_iload_n (pc := 23) ok dX12_callOf_23 rfl ?_
    refine r_icmp_ne (pc := 24) ok 79 dX12_callOf_24 rfl (fun _ => ?_) (fun _ => ?_)
    · refine r_iload_n (pc := 27) ok dX12_callOf_27 rfl ?_
      refine r_if_ge (pc := 28) ok 63 dX12_callOf_28 rfl (fun _ => ?_) (fun _ => ?_)
      · refine r_aload_n (pc := 63) ok dX12_callOf_63 rfl ?_
        refine r_getR (pc := 64) ok cls12 sh_225 (k := 6) rfl (Nat.le_of_ble_eq_true rfl) rfl dX12_callOf_64 fl_Mo_33 ?_
        refine r_sipush (pc := 67) ok (149 : Int32) dX12_callOf_67 cs_149 ?_
        refine r_iload_n (pc := 70) ok dX12_callOf_70 rfl ?_
        refine r_iadd (pc := 71) ok dX12_callOf_71 ?_
        refine r_iald (pc := 72) ok sh_227 (j := 2) rfl (mx_r (by decide) hm) dX12_callOf_72 (fun i2 => ?_)
        refine r_iload_n (pc := 73) ok dX12_callOf_73 rfl ?_
        refine r_icmp_ne (pc := 74) ok 79 dX12_callOf_74 rfl (fun _ => ?_) (fun _ => ?_)
        · refine r_iload_n (pc := 77) ok dX12_callOf_77 rfl ?_
          refine r_eq ((hx (.inr a)).2 _ rfl) ?_
          exact r_iret (pc := 78) ok dX12_callOf_78 rfl
        · refine r_iinc (pc := 79) ok (1 : Int32) dX12_callOf_79 ci_1 rfl (Nat.le_of_ble_eq_true rfl) rfl ?_
          refine r_goto (pc := 82) ok 2 dX12_callOf_82 rfl ?_
          exact hc (a + (1 : Int32))
      · refine r_aload_n (pc := 31) ok dX12_callOf_31 rfl ?_
        refine r_getR (pc := 32) ok cls12 sh_225 (k := 6) rfl (Nat.le_of_ble_eq_true rfl) rfl dX12_callOf_32 fl_Mo_33 ?_
        refine r_iconst (pc := 35) ok (5 : Int32) dX12_callOf_35 ci_5 ?_
        refine r_aload_n (pc := 36) ok dX12_callOf_36 rfl ?_
        refine r_getR (pc := 37) ok cls12 sh_225 (k := 6) rfl (Nat.le_of_ble_eq_true rfl) rfl dX12_callOf_37 fl_Mo_33 ?_
        refine r_sipush (pc := 40) ok (149 : Int32) dX12_callOf_40 cs_149 ?_
        refine r_iload_n (pc := 43) ok dX12_callOf_43 rfl ?_
        refine r_iadd (pc := 44) ok dX12_callOf_44 ?_
        refine r_iald (pc := 45) ok sh_227 (j := 2) rfl (mx_r (by decide) hm) dX12_callOf_45 (fun i3 => ?_)
        refine r_iadd (pc := 46) ok dX12_callOf_46 ?_
        refine r_iald (pc := 47) ok sh_227 (j := 2) rfl (mx_r (by decide) hm) dX12_callOf_47 (fun i4 => ?_)
        refine r_aload_n (pc := 48) ok dX12_callOf_48 rfl ?_
        refine r_getR (pc := 49) ok cls12 sh_225 (k := 6) rfl (Nat.le_of_ble_eq_true rfl) rfl dX12_callOf_49 fl_Mo_33 ?_
        refine r_bipush (pc := 52) ok (81 : Int32) dX12_callOf_52 cb_81 ?_
        refine r_iload_n (pc := 54) ok dX12_callOf_54 rfl ?_
        refine r_iadd (pc := 55) ok dX12_callOf_55 ?_
        refine r_iald (pc := 56) ok sh_227 (j := 2) rfl (mx_r (by decide) hm) dX12_callOf_56 (fun i5 => ?_)
        refine r_icmp_ne (pc := 57) ok 79 dX12_callOf_57 rfl (fun _ => ?_) (fun _ => ?_)
        · refine r_goto (pc := 60) ok 77 dX12_callOf_60 rfl ?_
          refine r_iload_n (pc := 77) ok dX12_callOf_77 rfl ?_
          refine r_eq ((hx (.inr a)).2 _ rfl) ?_
          exact r_iret (pc := 78) ok dX12_callOf_78 rfl
        · refine r_iinc (pc := 79) ok (1 : Int32) dX12_callOf_79 ci_1 rfl (Nat.le_of_ble_eq_true rfl) rfl ?_
          refine r_goto (pc := 82) ok 2 dX12_callOf_82 rfl ?_
          exact hc (a + (1 : Int32))
    · refine r_iinc (pc := 79) ok (1 : Int32) dX12_callOf_79 ci_1 rfl (Nat.le_of_ble_eq_true rfl) rfl ?_
      refine r_goto (pc := 82) ok 2 dX12_callOf_82 rfl ?_
      exact hc (a + (1 : Int32))
theorem vMo_callOf {Z : Cx} {G : Gx} {b : Nat} {XX YY : Nat → Obj} {m : Obj} {v1 : Int32} {v2 : Int32} (ok : OK Z G b cX12_callOf 4 0 RX12 (some .int)) (hm : YY 225 = m) : VO Z G b 4 (fun (r : Int32) => QX Z b (qI G b r (mx XX YY))) (mx XX YY) 0 [some (.ref (b + 225)), some (.int v1), some (.int v2), none] [] ((fMo_callOf m v1 v2).bind some) := by
  unfold fMo_callOf
  refine r_iconst (pc := 0) ok (0 : Int32) dX12_callOf_0 ci_0 ?_
  refine r_istore_n (pc := 1) ok dX12_callOf_1 (Nat.le_of_ble_eq_true rfl) rfl ?_
  refine r_iter (P := fun (a2 : Int32) o => VO Z G b 4 (fun (r : Int32) => QX Z b (qI G b r (mx XX YY))) (mx XX YY) 2 [some (.ref (b + 225)), some (.int v1), some (.int v2), some (.int a2)] [] o) (E := fun (z : (Unit) ⊕ (Int32)) o => (∀ (e_2 : Unit), z = .inl e_2 → VO Z G b 4 (fun (r : Int32) => QX Z b (qI G b r (mx XX YY))) (mx XX YY) 85 [none, none, none, none] [] o) ∧ (∀ (r : Int32), z = .inr r → o = some r)) (fun _ => r_none) (fun K hc hx => wMo_callOf_L2 ok hm (K := K) hc hx) (fun z => ⟨fun e6 hz => ?_, fun r hz => ?_⟩) FU (0 : Int32)
  · subst hz
    refine r_inl ?_
    refine r_iconst (pc := 85) ok (-1 : Int32) dX12_callOf_85 ci_m1 ?_
    exact r_iret (pc := 86) ok dX12_callOf_86 rfl
  · subst hz
    rfl
theorem tMo_callOf {l : Launch} {G : Gx} {b : Nat} {XX YY : Nat → Obj} {m : Obj} {v1 : Int32} {v2 : Int32} (hm : YY 225 = m) {r : Int32} (hr : fMo_callOf m v1 v2 = some r) : MetG l G b yX12_callOf cX12_callOf 4 (some .int) 0 [.ref (b + 225), .int v1, .int v2] (mx XX YY) (qI G b r (mx XX YY)) := by
  refine met_start [some (.ref (b + 225)), some (.int v1), some (.int v2), none] (by decide +kernel) (Nat.le_of_ble_eq_true rfl) rfl (fun Z hl ok => ?_)
  clear hl
  exact vMo_callOf ok hm r (by rw [hr]; rfl)
theorem vMo_house {Z : Cx} {G : Gx} {b : Nat} {XX YY : Nat → Obj} {m : Obj} {v1 : Int32} {v2 : Int32} (ok : OK Z G b cX12_house 3 3 RX12 (some .int)) : VO Z G b 3 (fun (r : Int32 × Obj) => QX Z b (qI G b r.1 (mx XX (va_up YY 225 r.2)))) (mx XX (va_up YY 225 m)) 0 [some (.ref (b + 225)), some (.int v1), some (.int v2)] [] ((fMo_house m v1 v2).bind some) := by
  unfold fMo_house
  refine r_aload_n (pc := 0) ok dX12_house_0 rfl ?_
  refine r_iconst (pc := 1) ok (0 : Int32) dX12_house_1 ci_0 ?_
  refine r_putI (pc := 2) ok cls12 sh_225 (k := 0) rfl (Nat.le_of_ble_eq_true rfl) (fun s_ => mx XX (va_up YY 225 s_)) (pm_r _ _).1 (pm_r _ _).2 rfl rfl rfl dX12_house_2 fl_Mo_1 (fun s1 => ?_)
  refine r_aload_n (pc := 5) ok dX12_house_5 rfl ?_
  refine r_iload_n (pc := 6) ok dX12_house_6 rfl ?_
  refine k_I (pc := 7) (fun r2 => r2) (fun r2 => mx XX (va_up YY 225 s1)) (fun r2 hr_ => c_V (n := 1) ok cls12 sh_225 rfl ml_Mo_284 wv_X12_isHouse yk_X12_isHouse rfl (Nat.le_of_ble_eq_true rfl) (Nat.le_of_ble_eq_true rfl) (tMo_isHouse (va_up_self _ _ _) hr_) rfl (Nat.le_of_ble_eq_true rfl) dX12_house_7) (fun r2 => ?_)
  refine r_if_ne (pc := 10) ok 15 dX12_house_10 rfl (fun _ => ?_) (fun _ => ?_)
  · refine r_iconst (pc := 13) ok (-1 : Int32) dX12_house_13 ci_m1 ?_
    exact r_iret (pc := 14) ok dX12_house_14 rfl
  · refine r_iload_n (pc := 15) ok dX12_house_15 rfl ?_
    refine r_ite (fun hs0 => ?_) (fun hs0 => ?_)
    · refine r_tsw (pc := 16) ok 52 (0 : Int32) dX12_house_16 hs0 (by decide +kernel) (by decide +kernel) rfl rfl ?_
      refine r_aload_n (pc := 52) ok dX12_house_52 rfl ?_
      refine r_getR (pc := 53) ok cls12 sh_225 (k := 6) rfl (Nat.le_of_ble_eq_true rfl) rfl dX12_house_53 fl_Mo_33 ?_
      refine r_iconst (pc := 56) ok (5 : Int32) dX12_house_56 ci_5 ?_
      refine r_iload_n (pc := 57) ok dX12_house_57 rfl ?_
      refine r_iadd (pc := 58) ok dX12_house_58 ?_
      refine r_iald (pc := 59) ok sh_227 (j := 2) rfl (mx_r (by decide) (va_up_self _ _ _)) dX12_house_59 (fun i3 => ?_)
      exact r_iret (pc := 60) ok dX12_house_60 rfl
    refine r_ite (fun hs1 => ?_) (fun hs1 => ?_)
    · refine r_tsw (pc := 16) ok 61 (1 : Int32) dX12_house_16 hs1 (by decide +kernel) (by decide +kernel) rfl rfl ?_
      refine r_aload_n (pc := 61) ok dX12_house_61 rfl ?_
      refine r_iload_n (pc := 62) ok dX12_house_62 rfl ?_
      refine k_I (pc := 63) (fun r4 => r4) (fun r4 => mx XX (va_up YY 225 s1)) (fun r4 hr_ => c_V (n := 1) ok cls12 sh_225 rfl ml_Mo_274 wv_X12_dwellers yk_X12_dwellers rfl (Nat.le_of_ble_eq_true rfl) (Nat.le_of_ble_eq_true rfl) (tMo_dwellers (va_up_self _ _ _) hr_) rfl (Nat.le_of_ble_eq_true rfl) dX12_house_63) (fun r4 => ?_)
      exact r_iret (pc := 66) ok dX12_house_66 rfl
    refine r_ite (fun hs2 => ?_) (fun hs2 => ?_)
    · refine r_tsw (pc := 16) ok 67 (2 : Int32) dX12_house_16 hs2 (by decide +kernel) (by decide +kernel) rfl rfl ?_
      refine r_aload_n (pc := 67) ok dX12_house_67 rfl ?_
      refine r_iload_n (pc := 68) ok dX12_house_68 rfl ?_
      refine k_I (pc := 69) (fun r5 => r5) (fun r5 => mx XX (va_up YY 225 s1)) (fun r5 hr_ => c_V (n := 1) ok cls12 sh_225 rfl ml_Mo_281 wv_X12_strangers yk_X12_strangers rfl (Nat.le_of_ble_eq_true rfl) (Nat.le_of_ble_eq_true rfl) (tMo_strangers (va_up_self _ _ _) hr_) rfl (Nat.le_of_ble_eq_true rfl) dX12_house_69) (fun r5 => ?_)
      exact r_iret (pc := 72) ok dX12_house_72 rfl
    refine r_ite (fun hs3 => ?_) (fun hs3 => ?_)
    · refine r_tsw (pc := 16) ok 73 (3 : Int32) dX12_house_16 hs3 (by decide +kernel) (by decide +kernel) rfl rfl ?_
      refine r_aload_n (pc := 73) ok dX12_house_73 rfl ?_
      refine r_iload_n (pc := 74) ok dX12_house_74 rfl ?_
      refine r_iconst (pc := 75) ok (1 : Int32) dX12_house_75 ci_1 ?_
      refine k_I (pc := 76) (fun r6 => r6) (fun r6 => mx XX (va_up YY 225 s1)) (fun r6 hr_ => c_V (n := 2) ok cls12 sh_225 rfl ml_Mo_287 wv_X12_areAt yk_X12_areAt rfl (Nat.le_of_ble_eq_true rfl) (Nat.le_of_ble_eq_true rfl) (tMo_areAt (va_up_self _ _ _) hr_) rfl (Nat.le_of_ble_eq_true rfl) dX12_house_76) (fun r6 => ?_)
      exact r_iret (pc := 79) ok dX12_house_79 rfl
    refine r_ite (fun hs4 => ?_) (fun hs4 => ?_)
    · refine r_tsw (pc := 16) ok 80 (4 : Int32) dX12_house_16 hs4 (by decide +kernel) (by decide +kernel) rfl rfl ?_
      refine r_aload_n (pc := 80) ok dX12_house_80 rfl ?_
      refine r_iload_n (pc := 81) ok dX12_house_81 rfl ?_
      refine r_iconst (pc := 82) ok (2 : Int32) dX12_house_82 ci_2 ?_
      refine k_I (pc := 83) (fun r7 => r7) (fun r7 => mx XX (va_up YY 225 s1)) (fun r7 hr_ => c_V (n := 2) ok cls12 sh_225 rfl ml_Mo_287 wv_X12_areAt yk_X12_areAt rfl (Nat.le_of_ble_eq_true rfl) (Nat.le_of_ble_eq_true rfl) (tMo_areAt (va_up_self _ _ _) hr_) rfl (Nat.le_of_ble_eq_true rfl) dX12_house_83) (fun r7 => ?_)
      exact r_iret (pc := 86) ok dX12_house_86 rfl
    refine r_tswd (pc := 16) ok 87 dX12_house_16 (tsw_out5 hs0 hs1 hs2 hs3 hs4) rfl ?_
    refine r_iconst (pc := 87) ok (-1 : Int32) dX12_house_87 ci_m1 ?_
    exact r_iret (pc := 88) ok dX12_house_88 rfl
theorem tMo_house {l : Launch} {G : Gx} {b : Nat} {XX YY : Nat → Obj} {m : Obj} {v1 : Int32} {v2 : Int32} {r : Int32 × Obj} (hr : fMo_house m v1 v2 = some r) : MetG l G b yX12_house cX12_house 3 (some .int) 3 [.ref (b + 225), .int v1, .int v2] (mx XX (va_up YY 225 m)) (qI G b r.1 (mx XX (va_up YY 225 r.2))) := by
  refine met_start [some (.ref (b + 225)), some (.int v1), some (.int v2)] (by decide +kernel) (Nat.le_of_ble_eq_true rfl) rfl (fun Z hl ok => ?_)
  clear hl
  exact vMo_house ok r (by rw [hr]; rfl)
