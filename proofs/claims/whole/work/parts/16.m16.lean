theorem wMo_opens_L36 {Z : Cx} {G : Gx} {b : Nat} {XX YY : Nat → Obj} {v1 : Int32} (ok : OK Z G b cX12_opens 4 5 RX12 (some .int)) {K : ((Int32 × Int32 × Obj) ⊕ (Int32 × Obj)) → Option (Int32 × Obj)} (hc : ∀ (a : Int32 × Int32 × Obj), VO Z G b 4 (fun (r : Int32 × Obj) => QX Z b (qI G b r.1 (mx XX (va_up YY 225 r.2)))) (mx XX (va_up YY 225 a.2.2)) 36 [some (.ref (b + 225)), some (.int v1), some (.int a.1), some (.int a.2.1)] [] (K (.inl a))) (hx : ∀ (e : Int32 × Obj), VO Z G b 4 (fun (r : Int32 × Obj) => QX Z b (qI G b r.1 (mx XX (va_up YY 225 r.2)))) (mx XX (va_up YY 225 e.2)) 81 [some (.ref (b + 225)), none, some (.int e.1), none] [] (K (.inr e))) : ∀ (a : Int32 × Int32 × Obj), VO Z G b 4 (fun (r : Int32 × Obj) => QX Z b (qI G b r.1 (mx XX (va_up YY 225 r.2)))) (mx XX (va_up YY 225 a.2.2)) 36 [some (.ref (b + 225)), some (.int v1), some (.int a.1), some (.int a.2.1)] [] ((fMo_opens_L36 v1 a).bind K) := by
  intro a
  unfold fMo_opens_L36
  refine r_iload_n (pc := 36) ok dX12_opens_36 rfl ?_
  refine r_sipush (pc := 37) ok (300 : Int32) dX12_opens_37 cs_300 ?_
  refine r_icmp_gt (pc := 40) ok 81 dX12_opens_40 rfl (fun _ => ?_) (fun _ => ?_)
  · refine r_lv (lk_s (lk_n (lk_s (lk_n lk_0 _) _) _) _) ?_
    exact hx (a.1, a.2.2)
  · refine r_aload_n (pc := 43) ok dX12_opens_43 rfl ?_
    refine r_getR (pc := 44) ok cls12 sh_225 (k := 6) rfl (Nat.le_of_ble_eq_true rfl) rfl dX12_opens_44 fl_Mo_33 ?_
    refine r_bipush (pc := 47) ok (73 : Int32) dX12_opens_47 cb_73 ?_
    refine r_iload_n (pc := 49) ok dX12_opens_49 rfl ?_
    refine r_iadd (pc := 50) ok dX12_opens_50 ?_
    refine r_iald (pc := 51) ok sh_227 (j := 2) rfl (mx_r (by decide) (va_up_self _ _ _)) dX12_opens_51 (fun i5 => ?_)
    refine r_iconst (pc := 52) ok (1 : Int32) dX12_opens_52 ci_1 ?_
    refine r_icmp_ne (pc := 53) ok 81 dX12_opens_53 rfl (fun _ => ?_) (fun _ => ?_)
    · refine r_aload_n (pc := 56) ok dX12_opens_56 rfl ?_
      refine k_V (pc := 57)  (fun r6 => mx XX (va_up YY 225 r6)) (fun r6 hr_ => c_V (n := 0) ok cls12 sh_225 rfl ml_Mo_327 wv_X12_tick yk_X12_tick rfl (Nat.le_of_ble_eq_true rfl) (Nat.le_of_ble_eq_true rfl) (tMo_tick hr_) rfl (Nat.le_of_ble_eq_true rfl) dX12_opens_57) (fun r6 => ?_)
      refine r_aload_n (pc := 60) ok dX12_opens_60 rfl ?_
      refine r_getR (pc := 61) ok cls12 sh_225 (k := 6) rfl (Nat.le_of_ble_eq_true rfl) rfl dX12_opens_61 fl_Mo_33 ?_
      refine r_bipush (pc := 64) ok (73 : Int32) dX12_opens_64 cb_73 ?_
      refine r_iload_n (pc := 66) ok dX12_opens_66 rfl ?_
      refine r_iadd (pc := 67) ok dX12_opens_67 ?_
      refine r_iald (pc := 68) ok sh_227 (j := 2) rfl (mx_r (by decide) (va_up_self _ _ _)) dX12_opens_68 (fun i7 => ?_)
      refine r_iconst (pc := 69) ok (2 : Int32) dX12_opens_69 ci_2 ?_
      refine r_icmp_ne (pc := 70) ok 75 dX12_opens_70 rfl (fun _ => ?_) (fun _ => ?_)
      · refine r_iload_n (pc := 73) ok dX12_opens_73 rfl ?_
        refine r_istore_n (pc := 74) ok dX12_opens_74 (Nat.le_of_ble_eq_true rfl) rfl ?_
        refine r_iinc (pc := 75) ok (1 : Int32) dX12_opens_75 ci_1 rfl (Nat.le_of_ble_eq_true rfl) rfl ?_
        refine r_goto (pc := 78) ok 36 dX12_opens_78 rfl ?_
        exact hc (a.2.1, (a.2.1 + (1 : Int32)), r6)
      · refine r_iinc (pc := 75) ok (1 : Int32) dX12_opens_75 ci_1 rfl (Nat.le_of_ble_eq_true rfl) rfl ?_
        refine r_goto (pc := 78) ok 36 dX12_opens_78 rfl ?_
        exact hc (a.1, (a.2.1 + (1 : Int32)), r6)
    · refine r_lv (lk_s (lk_n (lk_s (lk_n lk_0 _) _) _) _) ?_
      exact hx (a.1, a.2.2)
theorem vMo_opens {Z : Cx} {G : Gx} {b : Nat} {XX YY : Nat → Obj} {m : Obj} {v1 : Int32} (ok : OK Z G b cX12_opens 4 5 RX12 (some .int)) : VO Z G b 4 (fun (r : Int32 × Obj) => QX Z b (qI G b r.1 (mx XX (va_up YY 225 r.2)))) (mx XX (va_up YY 225 m)) 0 [some (.ref (b + 225)), some (.int v1), none, none] [] ((fMo_opens m v1).bind some) := by
  unfold fMo_opens
  refine r_aload_n (pc := 0) ok dX12_opens_0 rfl ?_
  refine r_iconst (pc := 1) ok (0 : Int32) dX12_opens_1 ci_0 ?_
  refine r_putI (pc := 2) ok cls12 sh_225 (k := 0) rfl (Nat.le_of_ble_eq_true rfl) (fun s_ => mx XX (va_up YY 225 s_)) (pm_r _ _).1 (pm_r _ _).2 rfl rfl rfl dX12_opens_2 fl_Mo_1 (fun s1 => ?_)
  refine r_aload_n (pc := 5) ok dX12_opens_5 rfl ?_
  refine r_iload_n (pc := 6) ok dX12_opens_6 rfl ?_
  refine k_I (pc := 7) (fun r2 => r2) (fun r2 => mx XX (va_up YY 225 s1)) (fun r2 hr_ => c_V (n := 1) ok cls12 sh_225 rfl ml_Mo_290 wv_X12_isPerson yk_X12_isPerson rfl (Nat.le_of_ble_eq_true rfl) (Nat.le_of_ble_eq_true rfl) (tMo_isPerson (va_up_self _ _ _) hr_) rfl (Nat.le_of_ble_eq_true rfl) dX12_opens_7) (fun r2 => ?_)
  refine r_if_eq (pc := 10) ok 26 dX12_opens_10 rfl (fun _ => ?_) (fun _ => ?_)
  · refine r_iconst (pc := 26) ok (-1 : Int32) dX12_opens_26 ci_m1 ?_
    exact r_iret (pc := 27) ok dX12_opens_27 rfl
  · refine r_aload_n (pc := 13) ok dX12_opens_13 rfl ?_
    refine r_getR (pc := 14) ok cls12 sh_225 (k := 6) rfl (Nat.le_of_ble_eq_true rfl) rfl dX12_opens_14 fl_Mo_33 ?_
    refine r_bipush (pc := 17) ok (73 : Int32) dX12_opens_17 cb_73 ?_
    refine r_iload_n (pc := 19) ok dX12_opens_19 rfl ?_
    refine r_iadd (pc := 20) ok dX12_opens_20 ?_
    refine r_iald (pc := 21) ok sh_227 (j := 2) rfl (mx_r (by decide) (va_up_self _ _ _)) dX12_opens_21 (fun i3 => ?_)
    refine r_iconst (pc := 22) ok (1 : Int32) dX12_opens_22 ci_1 ?_
    refine r_icmp_eq (pc := 23) ok 28 dX12_opens_23 rfl (fun _ => ?_) (fun _ => ?_)
    · refine r_aload_n (pc := 28) ok dX12_opens_28 rfl ?_
      refine k_V (pc := 29)  (fun r4 => mx XX (va_up YY 225 r4)) (fun r4 hr_ => c_V (n := 0) ok cls12 sh_225 rfl ml_Mo_379 wv_X12_tries yk_X12_tries rfl (Nat.le_of_ble_eq_true rfl) (Nat.le_of_ble_eq_true rfl) (tMo_tries hr_) rfl (Nat.le_of_ble_eq_true rfl) dX12_opens_29) (fun r4 => ?_)
      refine r_iconst (pc := 32) ok (-1 : Int32) dX12_opens_32 ci_m1 ?_
      refine r_istore_n (pc := 33) ok dX12_opens_33 (Nat.le_of_ble_eq_true rfl) rfl ?_
      refine r_iconst (pc := 34) ok (1 : Int32) dX12_opens_34 ci_1 ?_
      refine r_istore_n (pc := 35) ok dX12_opens_35 (Nat.le_of_ble_eq_true rfl) rfl ?_
      refine r_iter (P := fun (a36 : Int32 × Int32 × Obj) o => VO Z G b 4 (fun (r : Int32 × Obj) => QX Z b (qI G b r.1 (mx XX (va_up YY 225 r.2)))) (mx XX (va_up YY 225 a36.2.2)) 36 [some (.ref (b + 225)), some (.int v1), some (.int a36.1), some (.int a36.2.1)] [] o) (E := fun (e_36 : Int32 × Obj) o => VO Z G b 4 (fun (r : Int32 × Obj) => QX Z b (qI G b r.1 (mx XX (va_up YY 225 r.2)))) (mx XX (va_up YY 225 e_36.2)) 81 [some (.ref (b + 225)), none, some (.int e_36.1), none] [] o) (fun _ => r_none) (fun K hc hx => wMo_opens_L36 ok (K := K) hc hx) (fun e8 => ?_) FU ((-1 : Int32), (1 : Int32), r4)
      refine r_aload_n (pc := 81) ok dX12_opens_81 rfl ?_
      refine k_V (pc := 82)  (fun r9 => mx XX (va_up YY 225 r9)) (fun r9 hr_ => c_V (n := 0) ok cls12 sh_225 rfl ml_Mo_382 wv_X12_brings yk_X12_brings rfl (Nat.le_of_ble_eq_true rfl) (Nat.le_of_ble_eq_true rfl) (tMo_brings hr_) rfl (Nat.le_of_ble_eq_true rfl) dX12_opens_82) (fun r9 => ?_)
      refine r_iload_n (pc := 85) ok dX12_opens_85 rfl ?_
      exact r_iret (pc := 86) ok dX12_opens_86 rfl
    · refine r_iconst (pc := 26) ok (-1 : Int32) dX12_opens_26 ci_m1 ?_
      exact r_iret (pc := 27) ok dX12_opens_27 rfl
theorem tMo_opens {l : Launch} {G : Gx} {b : Nat} {XX YY : Nat → Obj} {m : Obj} {v1 : Int32} {r : Int32 × Obj} (hr : fMo_opens m v1 = some r) : MetG l G b yX12_opens cX12_opens 4 (some .int) 5 [.ref (b + 225), .int v1] (mx XX (va_up YY 225 m)) (qI G b r.1 (mx XX (va_up YY 225 r.2))) := by
  refine met_start [some (.ref (b + 225)), some (.int v1), none, none] (by decide +kernel) (Nat.le_of_ble_eq_true rfl) rfl (fun Z hl ok => ?_)
  clear hl
  exact vMo_opens ok r (by rw [hr]; rfl)
theorem wMo_known_J33 {Z : Cx} {G : Gx} {b : Nat} {XX YY : Nat → Obj} {m : Obj} {v1 : Int32} {v2 : Int32} (ok : OK Z G b cX12_known 3 5 RX12 (some .int)) {K : ((Int32 × Int32 × Obj) ⊕ (Int32 × Obj)) → Option (Int32 × Obj)} (hc : ∀ (a : Int32 × Int32 × Obj), VO Z G b 3 (fun (r : Int32 × Obj) => QX Z b (qI G b r.1 (mx XX (va_up YY 225 r.2)))) (mx XX (va_up YY 225 a.2.2)) 13 [some (.ref (b + 225)), some (.int a.1), some (.int a.2.1)] [] (K (.inl a))) (hx : ∀ (e : Int32 × Obj), VO Z G b 3 (fun (r : Int32 × Obj) => QX Z b (qI G b r.1 (mx XX (va_up YY 225 r.2)))) (mx XX (va_up YY 225 e.2)) 43 [some (.ref (b + 225)), some (.int e.1), none] [] (K (.inr e))) : VO Z G b 3 (fun (r : Int32 × Obj) => QX Z b (qI G b r.1 (mx XX (va_up YY 225 r.2)))) (mx XX (va_up YY 225 m)) 33 [some (.ref (b + 225)), some (.int v1), some (.int v2)] [] ((fMo_known_J33 m v1 v2).bind K) := by
  unfold fMo_known_J33
  refine r_aload_n (pc := 33) ok dX12_known_33 rfl ?_
  refine k_V (pc := 34)  (fun r4 => mx XX (va_up YY 225 r4)) (fun r4 hr_ => c_V (n := 0) ok cls12 sh_225 rfl ml_Mo_327 wv_X12_tick yk_X12_tick rfl (Nat.le_of_ble_eq_true rfl) (Nat.le_of_ble_eq_true rfl) (tMo_tick hr_) rfl (Nat.le_of_ble_eq_true rfl) dX12_known_34) (fun r4 => ?_)
  refine r_iinc (pc := 37) ok (1 : Int32) dX12_known_37 ci_1 rfl (Nat.le_of_ble_eq_true rfl) rfl ?_
  refine r_goto (pc := 40) ok 13 dX12_known_40 rfl ?_
  exact hc (v1, (v2 + (1 : Int32)), r4)
theorem wMo_known_L13 {Z : Cx} {G : Gx} {b : Nat} {XX YY : Nat → Obj} (ok : OK Z G b cX12_known 3 5 RX12 (some .int)) {K : ((Int32 × Int32 × Obj) ⊕ (Int32 × Obj)) → Option (Int32 × Obj)} (hc : ∀ (a : Int32 × Int32 × Obj), VO Z G b 3 (fun (r : Int32 × Obj) => QX Z b (qI G b r.1 (mx XX (va_up YY 225 r.2)))) (mx XX (va_up YY 225 a.2.2)) 13 [some (.ref (b + 225)), some (.int a.1), some (.int a.2.1)] [] (K (.inl a))) (hx : ∀ (e : Int32 × Obj), VO Z G b 3 (fun (r : Int32 × Obj) => QX Z b (qI G b r.1 (mx XX (va_up YY 225 r.2)))) (mx XX (va_up YY 225 e.2)) 43 [some (.ref (b + 225)), some (.int e.1), none] [] (K (.inr e))) : ∀ (a : Int32 × Int32 × Obj), VO Z G b 3 (fun (r : Int32 × Obj) => QX Z b (qI G b r.1 (mx XX (va_up YY 225 r.2)))) (mx XX (va_up YY 225 a.2.2)) 13 [some (.ref (b + 225)), some (.int a.1), some (.int a.2.1)] [] ((fMo_known_L13 a).bind K) := by
  intro a
  unfold fMo_known_L13
  refine r_iload_n (pc := 13) ok dX12_known_13 rfl ?_
  refine r_sipush (pc := 14) ok (300 : Int32) dX12_known_14 cs_300 ?_
  refine r_icmp_gt (pc := 17) ok 43 dX12_known_17 rfl (fun _ => ?_) (fun _ => ?_)
  · refine r_lv (lk_s (lk_s (lk_n lk_0 _) _) _) ?_
    exact hx (a.1, a.2.2)
  · refine r_iload_n (pc := 20) ok dX12_known_20 rfl ?_
    refine r_if_ge (pc := 21) ok 43 dX12_known_21 rfl (fun _ => ?_) (fun _ => ?_)
    · refine r_lv (lk_s (lk_s (lk_n lk_0 _) _) _) ?_
      exact hx (a.1, a.2.2)
    · refine r_aload_n (pc := 24) ok dX12_known_24 rfl ?_
      refine k_I (pc := 25) (fun r3 => r3) (fun r3 => mx XX (va_up YY 225 a.2.2)) (fun r3 hr_ => c_V (n := 0) ok cls12 sh_225 rfl ml_Mo_300 wv_X12_openHouses yk_X12_openHouses rfl (Nat.le_of_ble_eq_true rfl) (Nat.le_of_ble_eq_true rfl) (tMo_openHouses (va_up_self _ _ _) hr_) rfl (Nat.le_of_ble_eq_true rfl) dX12_known_25) (fun r3 => ?_)
      refine r_if_ne (pc := 28) ok 33 dX12_known_28 rfl (fun _ => ?_) (fun _ => ?_)
      · refine r_iload_n (pc := 31) ok dX12_known_31 rfl ?_
        refine r_istore_n (pc := 32) ok dX12_known_32 (Nat.le_of_ble_eq_true rfl) rfl ?_
        exact wMo_known_J33 ok (K := K) hc hx
      · exact wMo_known_J33 ok (K := K) hc hx
theorem vMo_known {Z : Cx} {G : Gx} {b : Nat} {XX YY : Nat → Obj} {m : Obj} (ok : OK Z G b cX12_known 3 5 RX12 (some .int)) : VO Z G b 3 (fun (r : Int32 × Obj) => QX Z b (qI G b r.1 (mx XX (va_up YY 225 r.2)))) (mx XX (va_up YY 225 m)) 0 [some (.ref (b + 225)), none, none] [] ((fMo_known m).bind some) := by
  unfold fMo_known
  refine r_aload_n (pc := 0) ok dX12_known_0 rfl ?_
  refine r_iconst (pc := 1) ok (0 : Int32) dX12_known_1 ci_0 ?_
  refine r_putI (pc := 2) ok cls12 sh_225 (k := 0) rfl (Nat.le_of_ble_eq_true rfl) (fun s_ => mx XX (va_up YY 225 s_)) (pm_r _ _).1 (pm_r _ _).2 rfl rfl rfl dX12_known_2 fl_Mo_1 (fun s1 => ?_)
  refine r_aload_n (pc := 5) ok dX12_known_5 rfl ?_
  refine k_V (pc := 6)  (fun r2 => mx XX (va_up YY 225 r2)) (fun r2 hr_ => c_V (n := 0) ok cls12 sh_225 rfl ml_Mo_379 wv_X12_tries yk_X12_tries rfl (Nat.le_of_ble_eq_true rfl) (Nat.le_of_ble_eq_true rfl) (tMo_tries hr_) rfl (Nat.le_of_ble_eq_true rfl) dX12_known_6) (fun r2 => ?_)
  refine r_iconst (pc := 9) ok (-1 : Int32) dX12_known_9 ci_m1 ?_
  refine r_istore_n (pc := 10) ok dX12_known_10 (Nat.le_of_ble_eq_true rfl) rfl ?_
  refine r_iconst (pc := 11) ok (0 : Int32) dX12_known_11 ci_0 ?_
  refine r_istore_n (pc := 12) ok dX12_known_12 (Nat.le_of_ble_eq_true rfl) rfl ?_
  refine r_iter (P := fun (a13 : Int32 × Int32 × Obj) o => VO Z G b 3 (fun (r : Int32 × Obj) => QX Z b (qI G b r.1 (mx XX (va_up YY 225 r.2)))) (mx XX (va_up YY 225 a13.2.2)) 13 [some (.ref (b + 225)), some (.int a13.1), some (.int a13.2.1)] [] o) (E := fun (e_13 : Int32 × Obj) o => VO Z G b 3 (fun (r : Int32 × Obj) => QX Z b (qI G b r.1 (mx XX (va_up YY 225 r.2)))) (mx XX (va_up YY 225 e_13.2)) 43 [some (.ref (b + 225)), some (.int e_13.1), none] [] o) (fun _ => r_none) (fun K hc hx => wMo_known_L13 ok (K := K) hc hx) (fun e5 => ?_) FU ((-1 : Int32), (0 : Int32), r2)
  refine r_aload_n (pc := 43) ok dX12_known_43 rfl ?_
  refine k_V (pc := 44)  (fun r6 => mx XX (va_up YY 225 r6)) (fun r6 hr_ => c_V (n := 0) ok cls12 sh_225 rfl ml_Mo_382 wv_X12_brings yk_X12_brings rfl (Nat.le_of_ble_eq_true rfl) (Nat.le_of_ble_eq_true rfl) (tMo_brings hr_) rfl (Nat.le_of_ble_eq_true rfl) dX12_known_44) (fun r6 => ?_)
  refine r_iload_n (pc := 47) ok dX12_known_47 rfl ?_
  exact r_iret (pc := 48) ok dX12_known_48 rfl
theorem tMo_known {l : Launch} {G : Gx} {b : Nat} {XX YY : Nat → Obj} {m : Obj} {r : Int32 × Obj} (hr : fMo_known m = some r) : MetG l G b yX12_known cX12_known 3 (some .int) 5 [.ref (b + 225)] (mx XX (va_up YY 225 m)) (qI G b r.1 (mx XX (va_up YY 225 r.2))) := by
  refine met_start [some (.ref (b + 225)), none, none] (by decide +kernel) (Nat.le_of_ble_eq_true rfl) rfl (fun Z hl ok => ?_)
  clear hl
  exact vMo_known ok r (by rw [hr]; rfl)
theorem wMo_meet_J97 {Z : Cx} {G : Gx} {b : Nat} {XX YY : Nat → Obj} {m : Obj} {v1 : Int32} {v2 : Int32} {v3 : Int32} {v4 : Int32} (ok : OK Z G b cX12_meet 5 5 RX12 (some .int)) {K : ((Int32 × Int32 × Obj) ⊕ (Int32 × Obj)) → Option (Int32 × Obj)} (hc : ∀ (a : Int32 × Int32 × Obj), VO Z G b 5 (fun (r : Int32 × Obj) => QX Z b (qI G b r.1 (mx XX (va_up YY 225 r.2)))) (mx XX (va_up YY 225 a.2.2)) 37 [some (.ref (b + 225)), some (.int v1), some (.int v2), some (.int a.1), some (.int a.2.1)] [] (K (.inl a))) (hx : ∀ (e : Int32 × Obj), VO Z G b 5 (fun (r : Int32 × Obj) => QX Z b (qI G b r.1 (mx XX (va_up YY 225 r.2)))) (mx XX (va_up YY 225 e.2)) 107 [some (.ref (b + 225)), none, none, some (.int e.1), none] [] (K (.inr e))) : VO Z G b 5 (fun (r : Int32 × Obj) => QX Z b (qI G b r.1 (mx XX (va_up YY 225 r.2)))) (mx XX (va_up YY 225 m)) 97 [some (.ref (b + 225)), some (.int v1), some (.int v2), some (.int v3), some (.int v4)] [] ((fMo_meet_J97 m v3 v4).bind K) := by
  unfold fMo_meet_J97
  refine r_aload_n (pc := 97) ok dX12_meet_97 rfl ?_
  refine k_V (pc := 98)  (fun r9 => mx XX (va_up YY 225 r9)) (fun r9 hr_ => c_V (n := 0) ok cls12 sh_225 rfl ml_Mo_327 wv_X12_tick yk_X12_tick rfl (Nat.le_of_ble_eq_true rfl) (Nat.le_of_ble_eq_true rfl) (tMo_tick hr_) rfl (Nat.le_of_ble_eq_true rfl) dX12_meet_98) (fun r9 => ?_)
  refine r_iinc (pc := 101) ok (1 : Int32) dX12_meet_101 ci_1 rfl (Nat.le_of_ble_eq_true rfl) rfl ?_
  refine r_goto (pc := 104) ok 37 dX12_meet_104 rfl ?_
  exact hc (v3, (v4 + (1 : Int32)), r9)
theorem wMo_meet_L37 {Z : Cx} {G : Gx} {b : Nat} {XX YY : Nat → Obj} {v1 : Int32} {v2 : Int32} (ok : OK Z G b cX12_meet 5 5 RX12 (some .int)) {K : ((Int32 × Int32 × Obj) ⊕ (Int32 × Obj)) → Option (Int32 × Obj)} (hc : ∀ (a : Int32 × Int32 × Obj), VO Z G b 5 (fun (r : Int32 × Obj) => QX Z b (qI G b r.1 (mx XX (va_up YY 225 r.2)))) (mx XX (va_up YY 225 a.2.2)) 37 [some (.ref (b + 225)), some (.int v1), some (.int v2), some (.int a.1), some (.int a.2.1)] [] (K (.inl a))) (hx : ∀ (e : Int32 × Obj), VO Z G b 5 (fun (r : Int32 × Obj) => QX Z b (qI G b r.1 (mx XX (va_up YY 225 r.2)))) (mx XX (va_up YY 225 e.2)) 107 [some (.ref (b + 225)), none, none, some (.int e.1), none] [] (K (.inr e))) : ∀ (a : Int32 × Int32 × Obj), VO Z G b 5 (fun (r : Int32 × Obj) => QX Z b (qI G b r.1 (mx XX (va_up YY 225 r.2)))) (mx XX (va_up YY 225 a.2.2)) 37 [some (.ref (b + 225)), some (.int v1), some (.int v2), some (.int a.1), some (.int a.2.1)] [] ((fMo_meet_L37 v1 v2 a).bind K) := by
  intro a
  unfold fMo_meet_L37
  refine r_iload (pc := 37) ok dX12_meet_37 rfl ?_
  refine r_sipush (pc := 39) ok (300 : Int32) dX12_meet_39 cs_300 ?_
  refine r_icmp_gt (pc := 42) ok 107 dX12_meet_42 rfl (fun _ => ?_) (fun _ => ?_)
  · refine r_lv (lk_s (lk_n (lk_n (lk_s (lk_n lk_0 _) _) _) _) _) ?_
    exact hx (a.1, a.2.2)
  · refine r_iload_n (pc := 45) ok dX12_meet_45 rfl ?_
    refine r_if_ge (pc := 46) ok 107 dX12_meet_46 rfl (fun _ => ?_) (fun _ => ?_)
    · refine r_lv (lk_s (lk_n (lk_n (lk_s (lk_n lk_0 _) _) _) _) _) ?_
      exact hx (a.1, a.2.2)
    · refine r_aload_n (pc := 49) ok dX12_meet_49 rfl ?_
      refine r_getR (pc := 50) ok cls12 sh_225 (k := 6) rfl (Nat.le_of_ble_eq_true rfl) rfl dX12_meet_50 fl_Mo_33 ?_
      refine r_bipush (pc := 53) ok (73 : Int32) dX12_meet_53 cb_73 ?_
      refine r_iload_n (pc := 55) ok dX12_meet_55 rfl ?_
      refine r_iadd (pc := 56) ok dX12_meet_56 ?_
      refine r_iald (pc := 57) ok sh_227 (j := 2) rfl (mx_r (by decide) (va_up_self _ _ _)) dX12_meet_57 (fun i5 => ?_)
      refine r_if_ne (pc := 58) ok 97 dX12_meet_58 rfl (fun _ => ?_) (fun _ => ?_)
      · refine r_aload_n (pc := 61) ok dX12_meet_61 rfl ?_
        refine r_getR (pc := 62) ok cls12 sh_225 (k := 6) rfl (Nat.le_of_ble_eq_true rfl) rfl dX12_meet_62 fl_Mo_33 ?_
        refine r_bipush (pc := 65) ok (73 : Int32) dX12_meet_65 cb_73 ?_
        refine r_iload_n (pc := 67) ok dX12_meet_67 rfl ?_
        refine r_iadd (pc := 68) ok dX12_meet_68 ?_
        refine r_iald (pc := 69) ok sh_227 (j := 2) rfl (mx_r (by decide) (va_up_self _ _ _)) dX12_meet_69 (fun i6 => ?_)
        refine r_if_ne (pc := 70) ok 97 dX12_meet_70 rfl (fun _ => ?_) (fun _ => ?_)
        · refine r_aload_n (pc := 73) ok dX12_meet_73 rfl ?_
          refine r_getR (pc := 74) ok cls12 sh_225 (k := 6) rfl (Nat.le_of_ble_eq_true rfl) rfl dX12_meet_74 fl_Mo_33 ?_
          refine r_bipush (pc := 77) ok (81 : Int32) dX12_meet_77 cb_81 ?_
          refine r_iload_n (pc := 79) ok dX12_meet_79 rfl ?_
          refine r_iadd (pc := 80) ok dX12_meet_80 ?_
          refine r_iald (pc := 81) ok sh_227 (j := 2) rfl (mx_r (by decide) (va_up_self _ _ _)) dX12_meet_81 (fun i7 => ?_)
          refine r_aload_n (pc := 82) ok dX12_meet_82 rfl ?_
          refine r_getR (pc := 83) ok cls12 sh_225 (k := 6) rfl (Nat.le_of_ble_eq_true rfl) rfl dX12_meet_83 fl_Mo_33 ?_
          refine r_bipush (pc := 86) ok (81 : Int32) dX12_meet_86 cb_81 ?_
          refine r_iload_n (pc := 88) ok dX12_meet_88 rfl ?_
          refine r_iadd (pc := 89) ok dX12_meet_89 ?_
          refine r_iald (pc := 90) ok sh_227 (j := 2) rfl (mx_r (by decide) (va_up_self _ _ _)) dX12_meet_90 (fun i8 => ?_)
          refine r_icmp_ne (pc := 91) ok 97 dX12_meet_91 rfl (fun _ => ?_) (fun _ => ?_)
          · refine r_iload (pc := 94) ok dX12_meet_94 rfl ?_
            refine r_istore_n (pc := 96) ok dX12_meet_96 (Nat.le_of_ble_eq_true rfl) rfl ?_
            exact wMo_meet_J97 ok (K := K) hc hx
          · exact wMo_meet_J97 ok (K := K) hc hx
        · exact wMo_meet_J97 ok (K := K) hc hx
      · exact wMo_meet_J97 ok (K := K) hc hx
theorem vMo_meet {Z : Cx} {G : Gx} {b : Nat} {XX YY : Nat → Obj} {m : Obj} {v1 : Int32} {v2 : Int32} (ok : OK Z G b cX12_meet 5 5 RX12 (some .int)) : VO Z G b 5 (fun (r : Int32 × Obj) => QX Z b (qI G b r.1 (mx XX (va_up YY 225 r.2)))) (mx XX (va_up YY 225 m)) 0 [some (.ref (b + 225)), some (.int v1), some (.int v2), none, none] [] ((fMo_meet m v1 v2).bind some) := by
  unfold fMo_meet
  refine r_aload_n (pc := 0) ok dX12_meet_0 rfl ?_
  refine r_iconst (pc := 1) ok (0 : Int32) dX12_meet_1 ci_0 ?_
  refine r_putI (pc := 2) ok cls12 sh_225 (k := 0) rfl (Nat.le_of_ble_eq_true rfl) (fun s_ => mx XX (va_up YY 225 s_)) (pm_r _ _).1 (pm_r _ _).2 rfl rfl rfl dX12_meet_2 fl_Mo_1 (fun s1 => ?_)
  refine r_aload_n (pc := 5) ok dX12_meet_5 rfl ?_
  refine r_iload_n (pc := 6) ok dX12_meet_6 rfl ?_
  refine k_I (pc := 7) (fun r2 => r2) (fun r2 => mx XX (va_up YY 225 s1)) (fun r2 hr_ => c_V (n := 1) ok cls12 sh_225 rfl ml_Mo_290 wv_X12_isPerson yk_X12_isPerson rfl (Nat.le_of_ble_eq_true rfl) (Nat.le_of_ble_eq_true rfl) (tMo_isPerson (va_up_self _ _ _) hr_) rfl (Nat.le_of_ble_eq_true rfl) dX12_meet_7) (fun r2 => ?_)
  refine r_if_eq (pc := 10) ok 26 dX12_meet_10 rfl (fun _ => ?_) (fun _ => ?_)
  · refine r_iconst (pc := 26) ok (-1 : Int32) dX12_meet_26 ci_m1 ?_
    exact r_iret (pc := 27) ok dX12_meet_27 rfl
  · refine r_aload_n (pc := 13) ok dX12_meet_13 rfl ?_
    refine r_iload_n (pc := 14) ok dX12_meet_14 rfl ?_
    refine k_I (pc := 15) (fun r3 => r3) (fun r3 => mx XX (va_up YY 225 s1)) (fun r3 hr_ => c_V (n := 1) ok cls12 sh_225 rfl ml_Mo_290 wv_X12_isPerson yk_X12_isPerson rfl (Nat.le_of_ble_eq_true rfl) (Nat.le_of_ble_eq_true rfl) (tMo_isPerson (va_up_self _ _ _) hr_) rfl (Nat.le_of_ble_eq_true rfl) dX12_meet_15) (fun r3 => ?_)
    refine r_if_eq (pc := 18) ok 26 dX12_meet_18 rfl (fun _ => ?_) (fun _ => ?_)
    · refine r_iconst (pc := 26) ok (-1 : Int32) dX12_meet_26 ci_m1 ?_
      exact r_iret (pc := 27) ok dX12_meet_27 rfl
    · refine r_iload_n (pc := 21) ok dX12_meet_21 rfl ?_
      refine r_iload_n (pc := 22) ok dX12_meet_22 rfl ?_
      refine r_icmp_ne (pc := 23) ok 28 dX12_meet_23 rfl (fun _ => ?_) (fun _ => ?_)
      · refine r_iconst (pc := 26) ok (-1 : Int32) dX12_meet_26 ci_m1 ?_
        exact r_iret (pc := 27) ok dX12_meet_27 rfl
      · refine r_aload_n (pc := 28) ok dX12_meet_28 rfl ?_
        refine k_V (pc := 29)  (fun r4 => mx XX (va_up YY 225 r4)) (fun r4 hr_ => c_V (n := 0) ok cls12 sh_225 rfl ml_Mo_379 wv_X12_tries yk_X12_tries rfl (Nat.le_of_ble_eq_true rfl) (Nat.le_of_ble_eq_true rfl) (tMo_tries hr_) rfl (Nat.le_of_ble_eq_true rfl) dX12_meet_29) (fun r4 => ?_)
        refine r_iconst (pc := 32) ok (-1 : Int32) dX12_meet_32 ci_m1 ?_
        refine r_istore_n (pc := 33) ok dX12_meet_33 (Nat.le_of_ble_eq_true rfl) rfl ?_
        refine r_iconst (pc := 34) ok (0 : Int32) dX12_meet_34 ci_0 ?_
        refine r_istore (pc := 35) ok dX12_meet_35 (Nat.le_of_ble_eq_true rfl) rfl ?_
        refine r_iter (P := fun (a37 : Int32 × Int32 × Obj) o => VO Z G b 5 (fun (r : Int32 × Obj) => QX Z b (qI G b r.1 (mx XX (va_up YY 225 r.2)))) (mx XX (va_up YY 225 a37.2.2)) 37 [some (.ref (b + 225)), some (.int v1), some (.int v2), some (.int a37.1), some (.int a37.2.1)] [] o) (E := fun (e_37 : Int32 × Obj) o => VO Z G b 5 (fun (r : Int32 × Obj) => QX Z b (qI G b r.1 (mx XX (va_up YY 225 r.2)))) (mx XX (va_up YY 225 e_37.2)) 107 [some (.ref (b + 225)), none, none, some (.int e_37.1), none] [] o) (fun _ => r_none) (fun K hc hx => wMo_meet_L37 ok (K := K) hc hx) (fun e10 => ?_) FU ((-1 : Int32), (0 : Int32), r4)
        refine r_aload_n (pc := 107) ok dX12_meet_107 rfl ?_
        refine k_V (pc := 108)  (fun r11 => mx XX (va_up YY 225 r11)) (fun r11 hr_ => c_V (n := 0) ok cls12 sh_225 rfl ml_Mo_382 wv_X12_brings yk_X12_brings rfl (Nat.le_of_ble_eq_true rfl) (Nat.le_of_ble_eq_true rfl) (tMo_brings hr_) rfl (Nat.le_of_ble_eq_true rfl) dX12_meet_108) (fun r11 => ?_)
        refine r_iload_n (pc := 111) ok dX12_meet_111 rfl ?_
        exact r_iret (pc := 112) ok dX12_meet_112 rfl
theorem tMo_meet {l : Launch} {G : Gx} {b : Nat} {XX YY : Nat → Obj} {m : Obj} {v1 : Int32} {v2 : Int32} {r : Int32 × Obj} (hr : fMo_meet m v1 v2 = some r) : MetG l G b yX12_meet cX12_meet 5 (some .int) 5 [.ref (b + 225), .int v1, .int v2] (mx XX (va_up YY 225 m)) (qI G b r.1 (mx XX (va_up YY 225 r.2))) := by
  refine met_start [some (.ref (b + 225)), some (.int v1), some (.int v2), none, none] (by decide +kernel) (Nat.le_of_ble_eq_true rfl) rfl (fun Z hl ok => ?_)
  clear hl
  exact vMo_meet ok r (by rw [hr]; rfl)
theorem wMo_busiest_L9 {Z : Cx} {G : Gx} {b : Nat} {XX YY : Nat → Obj} {m : Obj} (ok : OK Z G b cX12_busiest 3 0 RX12 (some .int)) {K : ((Int32 × Int32) ⊕ (Int32)) → Option (Int32 × Obj)} (hc : ∀ (a : Int32 × Int32), VO Z G b 3 (fun (r : Int32 × Obj) => QX Z b (qI G b r.1 (mx XX (va_up YY 225 r.2)))) (mx XX (va_up YY 225 m)) 9 [some (.ref (b + 225)), some (.int a.1), some (.int a.2)] [] (K (.inl a))) (hx : ∀ (e : Int32), VO Z G b 3 (fun (r : Int32 × Obj) => QX Z b (qI G b r.1 (mx XX (va_up YY 225 r.2)))) (mx XX (va_up YY 225 m)) 67 [none, some (.int e), none] [] (K (.inr e))) : ∀ (a : Int32 × Int32), VO Z G b 3 (fun (r : Int32 × Obj) => QX Z b (qI G b r.1 (mx XX (va_up YY 225 r.2)))) (mx XX (va_up YY 225 m)) 9 [some (.ref (b + 225)), some (.int a.1), some (.int a.2)] [] ((fMo_busiest_L9 m a).bind K) := by
  intro a
  unfold fMo_busiest_L9
  refine r_iload_n (pc := 9) ok dX12_busiest_9 rfl ?_
  refine r_aload_n (pc := 10) ok dX12_busiest_10 rfl ?_
  refine r_getR (pc := 11) ok cls12 sh_225 (k := 6) rfl (Nat.le_of_ble_eq_true rfl) rfl dX12_busiest_11 fl_Mo_33 ?_
  refine r_iconst (pc := 14) ok (1 : Int32) dX12_busiest_14 ci_1 ?_
  refine r_ialdc (pc := 15) ok sh_227 (j := 2) rfl (i := 1) (by decide +kernel) (mx_r (by decide) (va_up_self _ _ _)) dX12_busiest_15 ?_
  refine r_icmp_ge (pc := 16) ok 67 dX12_busiest_16 rfl (fun _ => ?_) (fun _ => ?_)
  · refine r_lv (lk_n (lk_s (lk_n lk_0 _) _) _) ?_
    exact hx a.1
  · refine r_aload_n (pc := 19) ok dX12_busiest_19 rfl ?_
    refine r_getR (pc := 20) ok cls12 sh_225 (k := 6) rfl (Nat.le_of_ble_eq_true rfl) rfl dX12_busiest_20 fl_Mo_33 ?_
    refine r_sipush (pc := 23) ok (129 : Int32) dX12_busiest_23 cs_129 ?_
    refine r_iload_n (pc := 26) ok dX12_busiest_26 rfl ?_
    refine r_iadd (pc := 27) ok dX12_busiest_27 ?_
    refine r_iald (pc := 28) ok sh_227 (j := 2) rfl (mx_r (by decide) (va_up_self _ _ _)) dX12_busiest_28 (fun i2 => ?_)
    refine r_if_le (pc := 29) ok 61 dX12_busiest_29 rfl (fun _ => ?_) (fun _ => ?_)
    · refine r_iinc (pc := 61) ok (1 : Int32) dX12_busiest_61 ci_1 rfl (Nat.le_of_ble_eq_true rfl) rfl ?_
      refine r_goto (pc := 64) ok 9 dX12_busiest_64 rfl ?_
      exact hc (a.1, (a.2 + (1 : Int32)))
    · refine r_iload_n (pc := 32) ok dX12_busiest_32 rfl ?_
      refine r_if_lt (pc := 33) ok 59 dX12_busiest_33 rfl (fun _ => ?_) (fun _ => ?_)
      · refine r_iload_n (pc := 59) ok dX12_busiest_59 rfl ?_
        refine r_istore_n (pc := 60) ok dX12_busiest_60 (Nat.le_of_ble_eq_true rfl) rfl ?_
        refine r_iinc (pc := 61) ok (1 : Int32) dX12_busiest_61 ci_1 rfl (Nat.le_of_ble_eq_true rfl) rfl ?_
        refine r_goto (pc := 64) ok 9 dX12_busiest_64 rfl ?_
        exact hc (a.2, (a.2 + (1 : Int32)))
      · refine r_aload_n (pc := 36) ok dX12_busiest_36 rfl ?_
        refine r_getR (pc := 37) ok cls12 sh_225 (k := 6) rfl (Nat.le_of_ble_eq_true rfl) rfl dX12_busiest_37 fl_Mo_33 ?_
        refine r_sipush (pc := 40) ok (129 : Int32) dX12_busiest_40 cs_129 ?_
        refine r_iload_n (pc := 43) ok dX12_busiest_43 rfl ?_
        refine r_iadd (pc := 44) ok dX12_busiest_44 ?_
        refine r_iald (pc := 45) ok sh_227 (j := 2) rfl (mx_r (by decide) (va_up_self _ _ _)) dX12_busiest_45 (fun i3 => ?_)
        refine r_aload_n (pc := 46) ok dX12_busiest_46 rfl ?_
        refine r_getR (pc := 47) ok cls12 sh_225 (k := 6) rfl (Nat.le_of_ble_eq_true rfl) rfl dX12_busiest_47 fl_Mo_33 ?_
        refine r_sipush (pc := 50) ok (129 : Int32) dX12_busiest_50 cs_129 ?_
        refine r_iload_n (pc := 53) ok dX12_busiest_53 rfl ?_
        refine r_iadd (pc := 54) ok dX12_busiest_54 ?_
        refine r_iald (pc := 55) ok sh_227 (j := 2) rfl (mx_r (by decide) (va_up_self _ _ _)) dX12_busiest_55 (fun i4 => ?_)
        refine r_icmp_le (pc := 56) ok 61 dX12_busiest_56 rfl (fun _ => ?_) (fun _ => ?_)
        · refine r_iinc (pc := 61) ok (1 : Int32) dX12_busiest_61 ci_1 rfl (Nat.le_of_ble_eq_true rfl) rfl ?_
          refine r_goto (pc := 64) ok 9 dX12_busiest_64 rfl ?_
          exact hc (a.1, (a.2 + (1 : Int32)))
        · refine r_iload_n (pc := 59) ok dX12_busiest_59 rfl ?_
          refine r_istore_n (pc := 60) ok dX12_busiest_60 (Nat.le_of_ble_eq_true rfl) rfl ?_
          refine r_iinc (pc := 61) ok (1 : Int32) dX12_busiest_61 ci_1 rfl (Nat.le_of_ble_eq_true rfl) rfl ?_
          refine r_goto (pc := 64) ok 9 dX12_busiest_64 rfl ?_
          exact hc (a.2, (a.2 + (1 : Int32)))
theorem vMo_busiest {Z : Cx} {G : Gx} {b : Nat} {XX YY : Nat → Obj} {m : Obj} (ok : OK Z G b cX12_busiest 3 0 RX12 (some .int)) : VO Z G b 3 (fun (r : Int32 × Obj) => QX Z b (qI G b r.1 (mx XX (va_up YY 225 r.2)))) (mx XX (va_up YY 225 m)) 0 [some (.ref (b + 225)), none, none] [] ((fMo_busiest m).bind some) := by
  unfold fMo_busiest
  refine r_aload_n (pc := 0) ok dX12_busiest_0 rfl ?_
  refine r_iconst (pc := 1) ok (0 : Int32) dX12_busiest_1 ci_0 ?_
  refine r_putI (pc := 2) ok cls12 sh_225 (k := 0) rfl (Nat.le_of_ble_eq_true rfl) (fun s_ => mx XX (va_up YY 225 s_)) (pm_r _ _).1 (pm_r _ _).2 rfl rfl rfl dX12_busiest_2 fl_Mo_1 (fun s1 => ?_)
  refine r_iconst (pc := 5) ok (-1 : Int32) dX12_busiest_5 ci_m1 ?_
  refine r_istore_n (pc := 6) ok dX12_busiest_6 (Nat.le_of_ble_eq_true rfl) rfl ?_
  refine r_iconst (pc := 7) ok (0 : Int32) dX12_busiest_7 ci_0 ?_
  refine r_istore_n (pc := 8) ok dX12_busiest_8 (Nat.le_of_ble_eq_true rfl) rfl ?_
  refine r_iter (P := fun (a9 : Int32 × Int32) o => VO Z G b 3 (fun (r : Int32 × Obj) => QX Z b (qI G b r.1 (mx XX (va_up YY 225 r.2)))) (mx XX (va_up YY 225 s1)) 9 [some (.ref (b + 225)), some (.int a9.1), some (.int a9.2)] [] o) (E := fun (e_9 : Int32) o => VO Z G b 3 (fun (r : Int32 × Obj) => QX Z b (qI G b r.1 (mx XX (va_up YY 225 r.2)))) (mx XX (va_up YY 225 s1)) 67 [none, some (.int e_9), none] [] o) (fun _ => r_none) (fun K hc hx => wMo_busiest_L9 ok (K := K) hc hx) (fun e5 => ?_) FU ((-1 : Int32), (0 : Int32))
  refine r_iload_n (pc := 67) ok dX12_busiest_67 rfl ?_
  exact r_iret (pc := 68) ok dX12_busiest_68 rfl
theorem tMo_busiest {l : Launch} {G : Gx} {b : Nat} {XX YY : Nat → Obj} {m : Obj} {r : Int32 × Obj} (hr : fMo_busiest m = some r) : MetG l G b yX12_busiest cX12_busiest 3 (some .int) 0 [.ref (b + 225)] (mx XX (va_up YY 225 m)) (qI G b r.1 (mx XX (va_up YY 225 r.2))) := by
  refine met_start [some (.ref (b + 225)), none, none] (by decide +kernel) (Nat.le_of_ble_eq_true rfl) rfl (fun Z hl ok => ?_)
  clear hl
  exact vMo_busiest ok r (by rw [hr]; rfl)
theorem wMo_mean_L36 {Z : Cx} {G : Gx} {b : Nat} {XX YY : Nat → Obj} {m : Obj} {v1 : Int32} (ok : OK Z G b cX12_mean 6 1 RX12 (some .int)) {K : ((Int32 × Int32) ⊕ (Int32)) → Option (Int32 × Obj)} (hc : ∀ (a : Int32 × Int32), VO Z G b 6 (fun (r : Int32 × Obj) => QX Z b (qI G b r.1 (mx XX (va_up YY 225 r.2)))) (mx XX (va_up YY 225 m)) 36 [some (.ref (b + 225)), some (.int v1), some (.int a.1), some (.int a.2), none, none] [] (K (.inl a))) (hx : ∀ (e : Int32), VO Z G b 6 (fun (r : Int32 × Obj) => QX Z b (qI G b r.1 (mx XX (va_up YY 225 r.2)))) (mx XX (va_up YY 225 m)) 67 [some (.ref (b + 225)), some (.int v1), some (.int e), none, none, none] [] (K (.inr e))) : ∀ (a : Int32 × Int32), VO Z G b 6 (fun (r : Int32 × Obj) => QX Z b (qI G b r.1 (mx XX (va_up YY 225 r.2)))) (mx XX (va_up YY 225 m)) 36 [some (.ref (b + 225)), some (.int v1), some (.int a.1), some (.int a.2), none, none] [] ((fMo_mean_L36 m a).bind K) := by
  intro a
  unfold fMo_mean_L36
  refine r_iload_n (pc := 36) ok dX12_mean_36 rfl ?_
  refine r_aload_n (pc := 37) ok dX12_mean_37 rfl ?_
  refine r_getR (pc := 38) ok cls12 sh_225 (k := 6) rfl (Nat.le_of_ble_eq_true rfl) rfl dX12_mean_38 fl_Mo_33 ?_
  refine r_iconst (pc := 41) ok (1 : Int32) dX12_mean_41 ci_1 ?_
  refine r_ialdc (pc := 42) ok sh_227 (j := 2) rfl (i := 1) (by decide +kernel) (mx_r (by decide) (va_up_self _ _ _)) dX12_mean_42 ?_
  refine r_icmp_ge (pc := 43) ok 67 dX12_mean_43 rfl (fun _ => ?_) (fun _ => ?_)
  · refine r_lv (lk_s (lk_s (lk_s (lk_n (lk_n (lk_n lk_0 _) _) _) _) _) _) ?_
    exact hx a.1
  · refine r_iload_n (pc := 46) ok dX12_mean_46 rfl ?_
    refine r_aload_n (pc := 47) ok dX12_mean_47 rfl ?_
    refine r_getR (pc := 48) ok cls12 sh_225 (k := 6) rfl (Nat.le_of_ble_eq_true rfl) rfl dX12_mean_48 fl_Mo_33 ?_
    refine r_bipush (pc := 51) ok (113 : Int32) dX12_mean_51 cb_113 ?_
    refine r_iload_n (pc := 53) ok dX12_mean_53 rfl ?_
    refine r_iadd (pc := 54) ok dX12_mean_54 ?_
    refine r_iald (pc := 55) ok sh_227 (j := 2) rfl (mx_r (by decide) (va_up_self _ _ _)) dX12_mean_55 (fun i2 => ?_)
    refine k_I (pc := 56) (fun r3 => r3) (fun r3 => mx XX (va_up YY 225 m)) (fun r3 hr_ => c_S (n := 1) ok ml_Mo_348 ws_X12_bits yk_X12_bits rfl (Nat.le_of_ble_eq_true rfl) (Nat.le_of_ble_eq_true rfl) (tMo_bits hr_) rfl (Nat.le_of_ble_eq_true rfl) dX12_mean_56) (fun r3 => ?_)
    refine r_iadd (pc := 59) ok dX12_mean_59 ?_
    refine r_bndI (fun x4 => ?_)
    refine r_istore_n (pc := 60) ok dX12_mean_60 (Nat.le_of_ble_eq_true rfl) rfl ?_
    refine r_iinc (pc := 61) ok (1 : Int32) dX12_mean_61 ci_1 rfl (Nat.le_of_ble_eq_true rfl) rfl ?_
    refine r_goto (pc := 64) ok 36 dX12_mean_64 rfl ?_
    exact hc (x4, (a.2 + (1 : Int32)))
theorem wMo_mean_L77 {Z : Cx} {G : Gx} {b : Nat} {XX YY : Nat → Obj} {m : Obj} {v1 : Int32} {v2 : Int32} (ok : OK Z G b cX12_mean 6 1 RX12 (some .int)) {K : ((Int32 × Int32) ⊕ (Int32)) → Option (Int32 × Obj)} (hc : ∀ (a : Int32 × Int32), VO Z G b 6 (fun (r : Int32 × Obj) => QX Z b (qI G b r.1 (mx XX (va_up YY 225 r.2)))) (mx XX (va_up YY 225 m)) 77 [some (.ref (b + 225)), some (.int v1), some (.int v2), some (.int a.1), some (.int a.2), none] [] (K (.inl a))) (hx : ∀ (e : Int32), VO Z G b 6 (fun (r : Int32 × Obj) => QX Z b (qI G b r.1 (mx XX (va_up YY 225 r.2)))) (mx XX (va_up YY 225 m)) 98 [some (.ref (b + 225)), some (.int v1), some (.int v2), some (.int e), none, none] [] (K (.inr e))) : ∀ (a : Int32 × Int32), VO Z G b 6 (fun (r : Int32 × Obj) => QX Z b (qI G b r.1 (mx XX (va_up YY 225 r.2)))) (mx XX (va_up YY 225 m)) 77 [some (.ref (b + 225)), some (.int v1), some (.int v2), some (.int a.1), some (.int a.2), none] [] ((fMo_mean_L77 a).bind K) := by
  intro a
  unfold fMo_mean_L77
  refine r_iload (pc := 77) ok dX12_mean_77 rfl ?_
  refine r_if_eq (pc := 79) ok 98 dX12_mean_79 rfl (fun _ => ?_) (fun _ => ?_)
  · refine r_lv (lk_s (lk_s (lk_s (lk_s (lk_n (lk_n lk_0 _) _) _) _) _) _) ?_
    exact hx a.1
  · refine r_iload_n (pc := 82) ok dX12_mean_82 rfl ?_
    refine r_iload (pc := 83) ok dX12_mean_83 rfl ?_
    refine r_irem (o := none) (pc := 85) ok dX12_mean_85 ?_
    refine r_bndI (fun x7 => ?_)
    refine r_istore (pc := 86) ok dX12_mean_86 (Nat.le_of_ble_eq_true rfl) rfl ?_
    refine r_iload (pc := 88) ok dX12_mean_88 rfl ?_
    refine r_istore_n (pc := 90) ok dX12_mean_90 (Nat.le_of_ble_eq_true rfl) rfl ?_
    refine r_iload (pc := 91) ok dX12_mean_91 rfl ?_
    refine r_istore (pc := 93) ok dX12_mean_93 (Nat.le_of_ble_eq_true rfl) rfl ?_
    refine r_goto (pc := 95) ok 77 dX12_mean_95 rfl ?_
    refine r_lv (lk_s (lk_s (lk_s (lk_s (lk_s (lk_n lk_0 _) _) _) _) _) _) ?_
    exact hc (a.2, x7)
theorem wMo_mean_J24 {Z : Cx} {G : Gx} {b : Nat} {XX YY : Nat → Obj} {m : Obj} {v1 : Int32} {k1 : Int32} (ok : OK Z G b cX12_mean 6 1 RX12 (some .int)) : VO Z G b 6 (fun (r : Int32 × Obj) => QX Z b (qI G b r.1 (mx XX (va_up YY 225 r.2)))) (mx XX (va_up YY 225 m)) 24 [some (.ref (b + 225)), some (.int v1), none, none, none, none] [.int k1, .ref (b + 225)] ((fMo_mean_J24 m v1 k1).bind some) := by
  unfold fMo_mean_J24
  refine k_I (pc := 24) (fun r1 => r1.1) (fun r1 => mx XX (va_up YY 225 r1.2)) (fun r1 hr_ => c_V (n := 1) ok cls12 sh_225 rfl ml_Mo_293 wv_X12_throwsIf yk_X12_throwsIf rfl (Nat.le_of_ble_eq_true rfl) (Nat.le_of_ble_eq_true rfl) (tMo_throwsIf hr_) rfl (Nat.le_of_ble_eq_true rfl) dX12_mean_24) (fun r1 => ?_)
  refine r_if_eq (pc := 27) ok 32 dX12_mean_27 rfl (fun _ => ?_) (fun _ => ?_)
  · refine r_iconst (pc := 32) ok (0 : Int32) dX12_mean_32 ci_0 ?_
    refine r_istore_n (pc := 33) ok dX12_mean_33 (Nat.le_of_ble_eq_true rfl) rfl ?_
    refine r_iconst (pc := 34) ok (0 : Int32) dX12_mean_34 ci_0 ?_
    refine r_istore_n (pc := 35) ok dX12_mean_35 (Nat.le_of_ble_eq_true rfl) rfl ?_
    refine r_iter (P := fun (a36 : Int32 × Int32) o => VO Z G b 6 (fun (r : Int32 × Obj) => QX Z b (qI G b r.1 (mx XX (va_up YY 225 r.2)))) (mx XX (va_up YY 225 r1.2)) 36 [some (.ref (b + 225)), some (.int v1), some (.int a36.1), some (.int a36.2), none, none] [] o) (E := fun (e_36 : Int32) o => VO Z G b 6 (fun (r : Int32 × Obj) => QX Z b (qI G b r.1 (mx XX (va_up YY 225 r.2)))) (mx XX (va_up YY 225 r1.2)) 67 [some (.ref (b + 225)), some (.int v1), some (.int e_36), none, none, none] [] o) (fun _ => r_none) (fun K hc hx => wMo_mean_L36 ok (K := K) hc hx) (fun e5 => ?_) FU ((0 : Int32), (0 : Int32))
    refine r_aload_n (pc := 67) ok dX12_mean_67 rfl ?_
    refine r_getR (pc := 68) ok cls12 sh_225 (k := 6) rfl (Nat.le_of_ble_eq_true rfl) rfl dX12_mean_68 fl_Mo_33 ?_
    refine r_iconst (pc := 71) ok (1 : Int32) dX12_mean_71 ci_1 ?_
    refine r_ialdc (pc := 72) ok sh_227 (j := 2) rfl (i := 1) (by decide +kernel) (mx_r (by decide) (va_up_self _ _ _)) dX12_mean_72 ?_
    refine r_bndI (fun x6 => ?_)
    refine r_istore_n (pc := 73) ok dX12_mean_73 (Nat.le_of_ble_eq_true rfl) rfl ?_
    refine r_iload_n (pc := 74) ok dX12_mean_74 rfl ?_
    refine r_istore (pc := 75) ok dX12_mean_75 (Nat.le_of_ble_eq_true rfl) rfl ?_
    refine r_iter (P := fun (a77 : Int32 × Int32) o => VO Z G b 6 (fun (r : Int32 × Obj) => QX Z b (qI G b r.1 (mx XX (va_up YY 225 r.2)))) (mx XX (va_up YY 225 r1.2)) 77 [some (.ref (b + 225)), some (.int v1), some (.int e5), some (.int a77.1), some (.int a77.2), none] [] o) (E := fun (e_77 : Int32) o => VO Z G b 6 (fun (r : Int32 × Obj) => QX Z b (qI G b r.1 (mx XX (va_up YY 225 r.2)))) (mx XX (va_up YY 225 r1.2)) 98 [some (.ref (b + 225)), some (.int v1), some (.int e5), some (.int e_77), none, none] [] o) (fun _ => r_none) (fun K hc hx => wMo_mean_L77 ok (K := K) hc hx) (fun e8 => ?_) FU (x6, e5)
    refine r_iload_n (pc := 98) ok dX12_mean_98 rfl ?_
    refine r_if_ne (pc := 99) ok 106 dX12_mean_99 rfl (fun _ => ?_) (fun _ => ?_)
    · refine r_iload_n (pc := 102) ok dX12_mean_102 rfl ?_
      refine r_goto (pc := 103) ok 112 dX12_mean_103 rfl ?_
      refine r_iload_n (pc := 112) ok dX12_mean_112 rfl ?_
      refine r_idiv (o := none) (pc := 113) ok dX12_mean_113 ?_
      exact r_iret (pc := 114) ok dX12_mean_114 rfl
    · refine r_aload_n (pc := 106) ok dX12_mean_106 rfl ?_
      refine r_getR (pc := 107) ok cls12 sh_225 (k := 6) rfl (Nat.le_of_ble_eq_true rfl) rfl dX12_mean_107 fl_Mo_33 ?_
      refine r_iconst (pc := 110) ok (1 : Int32) dX12_mean_110 ci_1 ?_
      refine r_ialdc (pc := 111) ok sh_227 (j := 2) rfl (i := 1) (by decide +kernel) (mx_r (by decide) (va_up_self _ _ _)) dX12_mean_111 ?_
      refine r_iload_n (pc := 112) ok dX12_mean_112 rfl ?_
      refine r_idiv (o := none) (pc := 113) ok dX12_mean_113 ?_
      exact r_iret (pc := 114) ok dX12_mean_114 rfl
  · refine r_iconst (pc := 30) ok (0 : Int32) dX12_mean_30 ci_0 ?_
    exact r_iret (pc := 31) ok dX12_mean_31 rfl
theorem wMo_mean_J19 {Z : Cx} {G : Gx} {b : Nat} {XX YY : Nat → Obj} {m : Obj} {v1 : Int32} (ok : OK Z G b cX12_mean 6 1 RX12 (some .int)) : VO Z G b 6 (fun (r : Int32 × Obj) => QX Z b (qI G b r.1 (mx XX (va_up YY 225 r.2)))) (mx XX (va_up YY 225 m)) 19 [some (.ref (b + 225)), some (.int v1), none, none, none, none] [.ref (b + 225)] ((fMo_mean_J19 m v1).bind some) := by
  unfold fMo_mean_J19
  refine r_iconst (pc := 19) ok (1 : Int32) dX12_mean_19 ci_1 ?_
  refine r_goto (pc := 20) ok 24 dX12_mean_20 rfl ?_
  exact wMo_mean_J24 ok
theorem vMo_mean {Z : Cx} {G : Gx} {b : Nat} {XX YY : Nat → Obj} {m : Obj} {v1 : Int32} (ok : OK Z G b cX12_mean 6 1 RX12 (some .int)) : VO Z G b 6 (fun (r : Int32 × Obj) => QX Z b (qI G b r.1 (mx XX (va_up YY 225 r.2)))) (mx XX (va_up YY 225 m)) 0 [some (.ref (b + 225)), some (.int v1), none, none, none, none] [] ((fMo_mean m v1).bind some) := by
  unfold fMo_mean
  refine r_aload_n (pc := 0) ok dX12_mean_0 rfl ?_
  refine r_aload_n (pc := 1) ok dX12_mean_1 rfl ?_
  refine r_getR (pc := 2) ok cls12 sh_225 (k := 6) rfl (Nat.le_of_ble_eq_true rfl) rfl dX12_mean_2 fl_Mo_33 ?_
  refine r_iconst (pc := 5) ok (1 : Int32) dX12_mean_5 ci_1 ?_
  refine r_ialdc (pc := 6) ok sh_227 (j := 2) rfl (i := 1) (by decide +kernel) (mx_r (by decide) (va_up_self _ _ _)) dX12_mean_6 ?_
  refine r_if_eq (pc := 7) ok 19 dX12_mean_7 rfl (fun _ => ?_) (fun _ => ?_)
  · exact wMo_mean_J19 ok
  · refine r_iload_n (pc := 10) ok dX12_mean_10 rfl ?_
    refine r_iconst (pc := 11) ok (0 : Int32) dX12_mean_11 ci_0 ?_
    refine r_iconst (pc := 12) ok (1 : Int32) dX12_mean_12 ci_1 ?_
    refine k_I (pc := 13) (fun r9 => r9) (fun r9 => mx XX (va_up YY 225 m)) (fun r9 hr_ => c_S (n := 3) ok ml_Mo_193 ws_X12_isIn yk_X12_isIn rfl (Nat.le_of_ble_eq_true rfl) (Nat.le_of_ble_eq_true rfl) (tMo_isIn hr_) rfl (Nat.le_of_ble_eq_true rfl) dX12_mean_13) (fun r9 => ?_)
    refine r_if_ne (pc := 16) ok 23 dX12_mean_16 rfl (fun _ => ?_) (fun _ => ?_)
    · exact wMo_mean_J19 ok
    · refine r_iconst (pc := 23) ok (0 : Int32) dX12_mean_23 ci_0 ?_
      exact wMo_mean_J24 ok
theorem tMo_mean {l : Launch} {G : Gx} {b : Nat} {XX YY : Nat → Obj} {m : Obj} {v1 : Int32} {r : Int32 × Obj} (hr : fMo_mean m v1 = some r) : MetG l G b yX12_mean cX12_mean 6 (some .int) 1 [.ref (b + 225), .int v1] (mx XX (va_up YY 225 m)) (qI G b r.1 (mx XX (va_up YY 225 r.2))) := by
  refine met_start [some (.ref (b + 225)), some (.int v1), none, none, none, none] (by decide +kernel) (Nat.le_of_ble_eq_true rfl) rfl (fun Z hl ok => ?_)
  clear hl
  exact vMo_mean ok r (by rw [hr]; rfl)
theorem vMo_lays {Z : Cx} {G : Gx} {b : Nat} {XX YY : Nat → Obj} {m : Obj} {v1 : Int32} (ok : OK Z G b cX12_lays 2 0 RX12 none) : VO Z G b 2 (fun (r : Obj) => QX Z b (qV G b (mx XX (va_up YY 225 r)))) (mx XX (va_up YY 225 m)) 0 [some (.ref (b + 225)), some (.int v1)] [] ((fMo_lays m v1).bind some) := by
  unfold fMo_lays
  refine r_aload_n (pc := 0) ok dX12_lays_0 rfl ?_
  refine r_getR (pc := 1) ok cls12 sh_225 (k := 32) rfl (Nat.le_of_ble_eq_true rfl) rfl dX12_lays_1 fl_Mo_69 ?_
  refine r_aload_n (pc := 4) ok dX12_lays_4 rfl ?_
  refine r_getI (pc := 5) ok cls12 sh_225 (k := 33) rfl (Nat.le_of_ble_eq_true rfl) (mx_r (by decide) (va_up_self _ _ _)) dX12_lays_5 fl_Mo_385 ?_
  refine r_iload_n (pc := 8) ok dX12_lays_8 rfl ?_
  refine r_i2b (pc := 9) ok dX12_lays_9 ?_
  refine r_bast (pc := 10) ok sh_237 (j := 12) rfl rfl (fun s_ => mx XX (va_up YY 225 s_)) (pm_r _ _).1 (pm_r _ _).2 dX12_lays_10 (fun i1 s2 => ?_)
  refine r_aload_n (pc := 11) ok dX12_lays_11 rfl ?_
  refine r_dup (pc := 12) ok dX12_lays_12 rfl ?_
  refine r_getI (pc := 13) ok cls12 sh_225 (k := 33) rfl (Nat.le_of_ble_eq_true rfl) (mx_r (by decide) (va_up_self _ _ _)) dX12_lays_13 fl_Mo_385 ?_
  refine r_iconst (pc := 16) ok (1 : Int32) dX12_lays_16 ci_1 ?_
  refine r_iadd (pc := 17) ok dX12_lays_17 ?_
  refine r_putI (pc := 18) ok cls12 sh_225 (k := 33) rfl (Nat.le_of_ble_eq_true rfl) (fun s_ => mx XX (va_up YY 225 s_)) (pm_r _ _).1 (pm_r _ _).2 rfl rfl rfl dX12_lays_18 fl_Mo_385 (fun s3 => ?_)
  exact r_vret (pc := 21) ok dX12_lays_21 rfl
theorem tMo_lays {l : Launch} {G : Gx} {b : Nat} {XX YY : Nat → Obj} {m : Obj} {v1 : Int32} {r : Obj} (hr : fMo_lays m v1 = some r) : MetG l G b yX12_lays cX12_lays 2 none 0 [.ref (b + 225), .int v1] (mx XX (va_up YY 225 m)) (qV G b (mx XX (va_up YY 225 r))) := by
  refine met_start [some (.ref (b + 225)), some (.int v1)] (by decide +kernel) (Nat.le_of_ble_eq_true rfl) rfl (fun Z hl ok => ?_)
  clear hl
  exact vMo_lays ok r (by rw [hr]; rfl)
theorem wMo_spells_L3 {Z : Cx} {G : Gx} {b : Nat} {XX YY : Nat → Obj} {v1 : Int64} (ok : OK Z G b cX12_spells 4 1 RX12 none) {K : ((Int32 × Obj) ⊕ (Obj)) → Option (Obj)} (hc : ∀ (a : Int32 × Obj), VO Z G b 4 (fun (r : Obj) => QX Z b (qV G b (mx XX (va_up YY 225 r)))) (mx XX (va_up YY 225 a.2)) 3 [some (.ref (b + 225)), some (.long v1), none, some (.int a.1)] [] (K (.inl a))) (hx : ∀ (e : Obj), VO Z G b 4 (fun (r : Obj) => QX Z b (qV G b (mx XX (va_up YY 225 r)))) (mx XX (va_up YY 225 e)) 37 [none, none, none, none] [] (K (.inr e))) : ∀ (a : Int32 × Obj), VO Z G b 4 (fun (r : Obj) => QX Z b (qV G b (mx XX (va_up YY 225 r)))) (mx XX (va_up YY 225 a.2)) 3 [some (.ref (b + 225)), some (.long v1), none, some (.int a.1)] [] ((fMo_spells_L3 v1 a).bind K) := by
  intro a
  unfold fMo_spells_L3
  refine r_iload_n (pc := 3) ok dX12_spells_3 rfl ?_
  refine r_if_lt (pc := 4) ok 37 dX12_spells_4 rfl (fun _ => ?_) (fun _ => ?_)
  · refine r_lv (lk_n (lk_n (lk_n (lk_n lk_0 _) _) _) _) ?_
    exact hx a.2
  · refine r_lload_n (pc := 7) ok dX12_spells_7 rfl ?_
    refine r_iload_n (pc := 8) ok dX12_spells_8 rfl ?_
    refine r_lshr (pc := 9) ok dX12_spells_9 ?_
    refine r_ldc2 (pc := 10) ok (255 : Int64) dX12_spells_10 cl2_Mo_388 ?_
    refine r_land (pc := 13) ok dX12_spells_13 ?_
    refine r_lconst (pc := 14) ok (0 : Int64) dX12_spells_14 (by decide +kernel) ?_
    refine r_lcmp (pc := 15) ok dX12_spells_15 ?_
    refine r_if_eq (pc := 16) ok 31 dX12_spells_16 rfl (fun _ => ?_) (fun _ => ?_)
    · refine r_iinc (pc := 31) ok (-8 : Int32) dX12_spells_31 ci_m8 rfl (Nat.le_of_ble_eq_true rfl) rfl ?_
      refine r_goto (pc := 34) ok 3 dX12_spells_34 rfl ?_
      exact hc ((a.1 + (-8 : Int32)), a.2)
    · refine r_aload_n (pc := 19) ok dX12_spells_19 rfl ?_
      refine r_lload_n (pc := 20) ok dX12_spells_20 rfl ?_
      refine r_iload_n (pc := 21) ok dX12_spells_21 rfl ?_
      refine r_lshr (pc := 22) ok dX12_spells_22 ?_
      refine r_ldc2 (pc := 23) ok (255 : Int64) dX12_spells_23 cl2_Mo_388 ?_
      refine r_land (pc := 26) ok dX12_spells_26 ?_
      refine r_l2i (pc := 27) ok dX12_spells_27 ?_
      refine k_V (pc := 28)  (fun r1 => mx XX (va_up YY 225 r1)) (fun r1 hr_ => c_V (n := 1) ok cls12 sh_225 rfl ml_Mo_390 wv_X12_lays yk_X12_lays rfl (Nat.le_of_ble_eq_true rfl) (Nat.le_of_ble_eq_true rfl) (tMo_lays hr_) rfl (Nat.le_of_ble_eq_true rfl) dX12_spells_28) (fun r1 => ?_)
      refine r_iinc (pc := 31) ok (-8 : Int32) dX12_spells_31 ci_m8 rfl (Nat.le_of_ble_eq_true rfl) rfl ?_
      refine r_goto (pc := 34) ok 3 dX12_spells_34 rfl ?_
      exact hc ((a.1 + (-8 : Int32)), r1)
theorem vMo_spells {Z : Cx} {G : Gx} {b : Nat} {XX YY : Nat → Obj} {m : Obj} {v1 : Int64} (ok : OK Z G b cX12_spells 4 1 RX12 none) : VO Z G b 4 (fun (r : Obj) => QX Z b (qV G b (mx XX (va_up YY 225 r)))) (mx XX (va_up YY 225 m)) 0 [some (.ref (b + 225)), some (.long v1), none, none] [] ((fMo_spells m v1).bind some) := by
  unfold fMo_spells
  refine r_bipush (pc := 0) ok (56 : Int32) dX12_spells_0 cb_56 ?_
  refine r_istore_n (pc := 2) ok dX12_spells_2 (Nat.le_of_ble_eq_true rfl) rfl ?_
  refine r_iter (P := fun (a3 : Int32 × Obj) o => VO Z G b 4 (fun (r : Obj) => QX Z b (qV G b (mx XX (va_up YY 225 r)))) (mx XX (va_up YY 225 a3.2)) 3 [some (.ref (b + 225)), some (.long v1), none, some (.int a3.1)] [] o) (E := fun (e_3 : Obj) o => VO Z G b 4 (fun (r : Obj) => QX Z b (qV G b (mx XX (va_up YY 225 r)))) (mx XX (va_up YY 225 e_3)) 37 [none, none, none, none] [] o) (fun _ => r_none) (fun K hc hx => wMo_spells_L3 ok (K := K) hc hx) (fun e2 => ?_) FU ((56 : Int32), m)
  exact r_vret (pc := 37) ok dX12_spells_37 rfl
theorem tMo_spells {l : Launch} {G : Gx} {b : Nat} {XX YY : Nat → Obj} {m : Obj} {v1 : Int64} {r : Obj} (hr : fMo_spells m v1 = some r) : MetG l G b yX12_spells cX12_spells 4 none 1 [.ref (b + 225), .long v1] (mx XX (va_up YY 225 m)) (qV G b (mx XX (va_up YY 225 r))) := by
  refine met_start [some (.ref (b + 225)), some (.long v1), none, none] (by decide +kernel) (Nat.le_of_ble_eq_true rfl) rfl (fun Z hl ok => ?_)
  clear hl
  exact vMo_spells ok r (by rw [hr]; rfl)
theorem vMo_says {Z : Cx} {G : Gx} {b : Nat} {XX YY : Nat → Obj} {m : Obj} {v1 : Int64} (ok : OK Z G b cX12_says 3 2 RX12 none) : VO Z G b 3 (fun (r : Obj) => QX Z b (qV G b (mx XX (va_up YY 225 r)))) (mx XX (va_up YY 225 m)) 0 [some (.ref (b + 225)), some (.long v1), none] [] ((fMo_says m v1).bind some) := by
  unfold fMo_says
  refine r_aload_n (pc := 0) ok dX12_says_0 rfl ?_
  refine r_bipush (pc := 1) ok (32 : Int32) dX12_says_1 cb_32 ?_
  refine k_V (pc := 3)  (fun r1 => mx XX (va_up YY 225 r1)) (fun r1 hr_ => c_V (n := 1) ok cls12 sh_225 rfl ml_Mo_390 wv_X12_lays yk_X12_lays rfl (Nat.le_of_ble_eq_true rfl) (Nat.le_of_ble_eq_true rfl) (tMo_lays hr_) rfl (Nat.le_of_ble_eq_true rfl) dX12_says_3) (fun r1 => ?_)
  refine r_aload_n (pc := 6) ok dX12_says_6 rfl ?_
  refine r_lload_n (pc := 7) ok dX12_says_7 rfl ?_
  refine k_V (pc := 8)  (fun r2 => mx XX (va_up YY 225 r2)) (fun r2 hr_ => c_V (n := 1) ok cls12 sh_225 rfl ml_Mo_393 wv_X12_spells yk_X12_spells rfl (Nat.le_of_ble_eq_true rfl) (Nat.le_of_ble_eq_true rfl) (tMo_spells hr_) rfl (Nat.le_of_ble_eq_true rfl) dX12_says_8) (fun r2 => ?_)
  exact r_vret (pc := 11) ok dX12_says_11 rfl
theorem tMo_says {l : Launch} {G : Gx} {b : Nat} {XX YY : Nat → Obj} {m : Obj} {v1 : Int64} {r : Obj} (hr : fMo_says m v1 = some r) : MetG l G b yX12_says cX12_says 3 none 2 [.ref (b + 225), .long v1] (mx XX (va_up YY 225 m)) (qV G b (mx XX (va_up YY 225 r))) := by
  refine met_start [some (.ref (b + 225)), some (.long v1), none] (by decide +kernel) (Nat.le_of_ble_eq_true rfl) rfl (fun Z hl ok => ?_)
  clear hl
  exact vMo_says ok r (by rw [hr]; rfl)
theorem wMo_tag_J222 {Z : Cx} {G : Gx} {b : Nat} {XX YY : Nat → Obj} {m : Obj} {k1 : Int64} (ok : OK Z G b cX12_tag 2 3 RX12 (some .int)) : VO Z G b 2 (fun (r : Int32 × Obj) => QX Z b (qI G b r.1 (mx XX (va_up YY 225 r.2)))) (mx XX (va_up YY 225 m)) 222 [some (.ref (b + 225)), none] [.long k1, .ref (b + 225)] ((fMo_tag_J222 m k1).bind some) := by
  unfold fMo_tag_J222
  refine k_V (pc := 222)  (fun r13 => mx XX (va_up YY 225 r13)) (fun r13 hr_ => c_V (n := 1) ok cls12 sh_225 rfl ml_Mo_397 wv_X12_says yk_X12_says rfl (Nat.le_of_ble_eq_true rfl) (Nat.le_of_ble_eq_true rfl) (tMo_says hr_) rfl (Nat.le_of_ble_eq_true rfl) dX12_tag_222) (fun r13 => ?_)
  refine r_aload_n (pc := 225) ok dX12_tag_225 rfl ?_
  refine r_getI (pc := 226) ok cls12 sh_225 (k := 33) rfl (Nat.le_of_ble_eq_true rfl) (mx_r (by decide) (va_up_self _ _ _)) dX12_tag_226 fl_Mo_385 ?_
  exact r_iret (pc := 229) ok dX12_tag_229 rfl
theorem wMo_tag_J162 {Z : Cx} {G : Gx} {b : Nat} {XX YY : Nat → Obj} {m : Obj} {v1 : Int32} (ok : OK Z G b cX12_tag 2 3 RX12 (some .int)) : VO Z G b 2 (fun (r : Int32 × Obj) => QX Z b (qI G b r.1 (mx XX (va_up YY 225 r.2)))) (mx XX (va_up YY 225 m)) 162 [some (.ref (b + 225)), some (.int v1)] [] ((fMo_tag_J162 m v1).bind some) := by
  unfold fMo_tag_J162
  refine r_aload_n (pc := 162) ok dX12_tag_162 rfl ?_
  refine r_bipush (pc := 163) ok (48 : Int32) dX12_tag_163 cb_48 ?_
  refine r_aload_n (pc := 165) ok dX12_tag_165 rfl ?_
  refine r_getR (pc := 166) ok cls12 sh_225 (k := 6) rfl (Nat.le_of_ble_eq_true rfl) rfl dX12_tag_166 fl_Mo_33 ?_
  refine r_bipush (pc := 169) ok (81 : Int32) dX12_tag_169 cb_81 ?_
  refine r_iload_n (pc := 171) ok dX12_tag_171 rfl ?_
  refine r_iadd (pc := 172) ok dX12_tag_172 ?_
  refine r_iald (pc := 173) ok sh_227 (j := 2) rfl (mx_r (by decide) (va_up_self _ _ _)) dX12_tag_173 (fun i10 => ?_)
  refine r_bipush (pc := 174) ok (10 : Int32) dX12_tag_174 cb_10 ?_
  refine r_iremc (pc := 176) ok dX12_tag_176 (by decide +kernel) ?_
  refine r_iadd (pc := 177) ok dX12_tag_177 ?_
  refine k_V (pc := 178)  (fun r11 => mx XX (va_up YY 225 r11)) (fun r11 hr_ => c_V (n := 1) ok cls12 sh_225 rfl ml_Mo_390 wv_X12_lays yk_X12_lays rfl (Nat.le_of_ble_eq_true rfl) (Nat.le_of_ble_eq_true rfl) (tMo_lays hr_) rfl (Nat.le_of_ble_eq_true rfl) dX12_tag_178) (fun r11 => ?_)
  refine r_aload_n (pc := 181) ok dX12_tag_181 rfl ?_
  refine r_aload_n (pc := 182) ok dX12_tag_182 rfl ?_
  refine r_getR (pc := 183) ok cls12 sh_225 (k := 6) rfl (Nat.le_of_ble_eq_true rfl) rfl dX12_tag_183 fl_Mo_33 ?_
  refine r_bipush (pc := 186) ok (89 : Int32) dX12_tag_186 cb_89 ?_
  refine r_iload_n (pc := 188) ok dX12_tag_188 rfl ?_
  refine r_iadd (pc := 189) ok dX12_tag_189 ?_
  refine r_iald (pc := 190) ok sh_227 (j := 2) rfl (mx_r (by decide) (va_up_self _ _ _)) dX12_tag_190 (fun i12 => ?_)
  refine r_if_ne (pc := 191) ok 200 dX12_tag_191 rfl (fun _ => ?_) (fun _ => ?_)
  · refine r_ldc2 (pc := 194) ok (30064 : Int64) dX12_tag_194 cl2_Mo_106 ?_
    refine r_goto (pc := 197) ok 222 dX12_tag_197 rfl ?_
    refine r_lv (lk_s (lk_n lk_0 _) _) ?_
    exact wMo_tag_J222 ok
  · refine r_aload_n (pc := 200) ok dX12_tag_200 rfl ?_
    refine r_getR (pc := 201) ok cls12 sh_225 (k := 6) rfl (Nat.le_of_ble_eq_true rfl) rfl dX12_tag_201 fl_Mo_33 ?_
    refine r_bipush (pc := 204) ok (89 : Int32) dX12_tag_204 cb_89 ?_
    refine r_iload_n (pc := 206) ok dX12_tag_206 rfl ?_
    refine r_iadd (pc := 207) ok dX12_tag_207 ?_
    refine r_iald (pc := 208) ok sh_227 (j := 2) rfl (mx_r (by decide) (va_up_self _ _ _)) dX12_tag_208 (fun i14 => ?_)
    refine r_iconst (pc := 209) ok (1 : Int32) dX12_tag_209 ci_1 ?_
    refine r_icmp_ne (pc := 210) ok 219 dX12_tag_210 rfl (fun _ => ?_) (fun _ => ?_)
    · refine r_ldc2 (pc := 213) ok (1685026670 : Int64) dX12_tag_213 cl2_Mo_108 ?_
      refine r_goto (pc := 216) ok 222 dX12_tag_216 rfl ?_
      refine r_lv (lk_s (lk_n lk_0 _) _) ?_
      exact wMo_tag_J222 ok
    · refine r_ldc2 (pc := 219) ok (126943688025203 : Int64) dX12_tag_219 cl2_Mo_110 ?_
      refine r_lv (lk_s (lk_n lk_0 _) _) ?_
      exact wMo_tag_J222 ok
theorem wMo_tag_J88 {Z : Cx} {G : Gx} {b : Nat} {XX YY : Nat → Obj} {m : Obj} {v1 : Int32} {k1 : Int64} (ok : OK Z G b cX12_tag 2 3 RX12 (some .int)) : VO Z G b 2 (fun (r : Int32 × Obj) => QX Z b (qI G b r.1 (mx XX (va_up YY 225 r.2)))) (mx XX (va_up YY 225 m)) 88 [some (.ref (b + 225)), some (.int v1)] [.long k1, .ref (b + 225)] ((fMo_tag_J88 m v1 k1).bind some) := by
  unfold fMo_tag_J88
  refine k_V (pc := 88)  (fun r20 => mx XX (va_up YY 225 r20)) (fun r20 hr_ => c_V (n := 1) ok cls12 sh_225 rfl ml_Mo_397 wv_X12_says yk_X12_says rfl (Nat.le_of_ble_eq_true rfl) (Nat.le_of_ble_eq_true rfl) (tMo_says hr_) rfl (Nat.le_of_ble_eq_true rfl) dX12_tag_88) (fun r20 => ?_)
  refine r_aload_n (pc := 91) ok dX12_tag_91 rfl ?_
  refine r_aload_n (pc := 92) ok dX12_tag_92 rfl ?_
  refine r_getR (pc := 93) ok cls12 sh_225 (k := 9) rfl (Nat.le_of_ble_eq_true rfl) rfl dX12_tag_93 fl_Mo_43 ?_
  refine r_aload_n (pc := 96) ok dX12_tag_96 rfl ?_
  refine r_getR (pc := 97) ok cls12 sh_225 (k := 6) rfl (Nat.le_of_ble_eq_true rfl) rfl dX12_tag_97 fl_Mo_33 ?_
  refine r_bipush (pc := 100) ok (97 : Int32) dX12_tag_100 cb_97 ?_
  refine r_iload_n (pc := 102) ok dX12_tag_102 rfl ?_
  refine r_iadd (pc := 103) ok dX12_tag_103 ?_
  refine r_iald (pc := 104) ok sh_227 (j := 2) rfl (mx_r (by decide) (va_up_self _ _ _)) dX12_tag_104 (fun i21 => ?_)
  refine r_iconst (pc := 105) ok (1 : Int32) dX12_tag_105 ci_1 ?_
  refine r_isub (pc := 106) ok dX12_tag_106 ?_
  refine r_lald (pc := 107) ok sh_230 (j := 5) rfl (mx_r (by decide) (va_up_self _ _ _)) dX12_tag_107 (fun i22 => ?_)
  refine k_V (pc := 108)  (fun r23 => mx XX (va_up YY 225 r23)) (fun r23 hr_ => c_V (n := 1) ok cls12 sh_225 rfl ml_Mo_397 wv_X12_says yk_X12_says rfl (Nat.le_of_ble_eq_true rfl) (Nat.le_of_ble_eq_true rfl) (tMo_says hr_) rfl (Nat.le_of_ble_eq_true rfl) dX12_tag_108) (fun r23 => ?_)
  refine r_aload_n (pc := 111) ok dX12_tag_111 rfl ?_
  refine r_getI (pc := 112) ok cls12 sh_225 (k := 33) rfl (Nat.le_of_ble_eq_true rfl) (mx_r (by decide) (va_up_self _ _ _)) dX12_tag_112 fl_Mo_385 ?_
  exact r_iret (pc := 115) ok dX12_tag_115 rfl
theorem wMo_tag_J65 {Z : Cx} {G : Gx} {b : Nat} {XX YY : Nat → Obj} {m : Obj} {v1 : Int32} (ok : OK Z G b cX12_tag 2 3 RX12 (some .int)) : VO Z G b 2 (fun (r : Int32 × Obj) => QX Z b (qI G b r.1 (mx XX (va_up YY 225 r.2)))) (mx XX (va_up YY 225 m)) 65 [some (.ref (b + 225)), some (.int v1)] [] ((fMo_tag_J65 m v1).bind some) := by
  unfold fMo_tag_J65
  refine r_aload_n (pc := 65) ok dX12_tag_65 rfl ?_
  refine r_aload_n (pc := 66) ok dX12_tag_66 rfl ?_
  refine r_getR (pc := 67) ok cls12 sh_225 (k := 6) rfl (Nat.le_of_ble_eq_true rfl) rfl dX12_tag_67 fl_Mo_33 ?_
  refine r_bipush (pc := 70) ok (73 : Int32) dX12_tag_70 cb_73 ?_
  refine r_iload_n (pc := 72) ok dX12_tag_72 rfl ?_
  refine r_iadd (pc := 73) ok dX12_tag_73 ?_
  refine r_iald (pc := 74) ok sh_227 (j := 2) rfl (mx_r (by decide) (va_up_self _ _ _)) dX12_tag_74 (fun i19 => ?_)
  refine r_iconst (pc := 75) ok (1 : Int32) dX12_tag_75 ci_1 ?_
  refine r_icmp_ne (pc := 76) ok 85 dX12_tag_76 rfl (fun _ => ?_) (fun _ => ?_)
  · refine r_ldc2 (pc := 79) ok (24948 : Int64) dX12_tag_79 cl2_Mo_400 ?_
    refine r_goto (pc := 82) ok 88 dX12_tag_82 rfl ?_
    exact wMo_tag_J88 ok
  · refine r_ldc2 (pc := 85) ok (26990 : Int64) dX12_tag_85 cl2_Mo_402 ?_
    exact wMo_tag_J88 ok
theorem vMo_tag {Z : Cx} {G : Gx} {b : Nat} {XX YY : Nat → Obj} {m : Obj} {v1 : Int32} (ok : OK Z G b cX12_tag 2 3 RX12 (some .int)) : VO Z G b 2 (fun (r : Int32 × Obj) => QX Z b (qI G b r.1 (mx XX (va_up YY 225 r.2)))) (mx XX (va_up YY 225 m)) 0 [some (.ref (b + 225)), some (.int v1)] [] ((fMo_tag m v1).bind some) := by
  unfold fMo_tag
  refine r_aload_n (pc := 0) ok dX12_tag_0 rfl ?_
  refine r_iconst (pc := 1) ok (0 : Int32) dX12_tag_1 ci_0 ?_
  refine r_putI (pc := 2) ok cls12 sh_225 (k := 0) rfl (Nat.le_of_ble_eq_true rfl) (fun s_ => mx XX (va_up YY 225 s_)) (pm_r _ _).1 (pm_r _ _).2 rfl rfl rfl dX12_tag_2 fl_Mo_1 (fun s1 => ?_)
  refine r_aload_n (pc := 5) ok dX12_tag_5 rfl ?_
  refine r_iload_n (pc := 6) ok dX12_tag_6 rfl ?_
  refine k_I (pc := 7) (fun r2 => r2) (fun r2 => mx XX (va_up YY 225 s1)) (fun r2 hr_ => c_V (n := 1) ok cls12 sh_225 rfl ml_Mo_290 wv_X12_isPerson yk_X12_isPerson rfl (Nat.le_of_ble_eq_true rfl) (Nat.le_of_ble_eq_true rfl) (tMo_isPerson (va_up_self _ _ _) hr_) rfl (Nat.le_of_ble_eq_true rfl) dX12_tag_7) (fun r2 => ?_)
  refine r_if_ne (pc := 10) ok 15 dX12_tag_10 rfl (fun _ => ?_) (fun _ => ?_)
  · refine r_iconst (pc := 13) ok (-1 : Int32) dX12_tag_13 ci_m1 ?_
    exact r_iret (pc := 14) ok dX12_tag_14 rfl
  · refine r_aload_n (pc := 15) ok dX12_tag_15 rfl ?_
    refine r_iconst (pc := 16) ok (0 : Int32) dX12_tag_16 ci_0 ?_
    refine r_putI (pc := 17) ok cls12 sh_225 (k := 33) rfl (Nat.le_of_ble_eq_true rfl) (fun s_ => mx XX (va_up YY 225 s_)) (pm_r _ _).1 (pm_r _ _).2 rfl rfl rfl dX12_tag_17 fl_Mo_385 (fun s3 => ?_)
    refine r_aload_n (pc := 20) ok dX12_tag_20 rfl ?_
    refine r_aload_n (pc := 21) ok dX12_tag_21 rfl ?_
    refine r_getR (pc := 22) ok cls12 sh_225 (k := 9) rfl (Nat.le_of_ble_eq_true rfl) rfl dX12_tag_22 fl_Mo_43 ?_
    refine r_bipush (pc := 25) ok (6 : Int32) dX12_tag_25 cb_6 ?_
    refine r_iload_n (pc := 27) ok dX12_tag_27 rfl ?_
    refine r_iadd (pc := 28) ok dX12_tag_28 ?_
    refine r_lald (pc := 29) ok sh_230 (j := 5) rfl (mx_r (by decide) (va_up_self _ _ _)) dX12_tag_29 (fun i4 => ?_)
    refine k_V (pc := 30)  (fun r5 => mx XX (va_up YY 225 r5)) (fun r5 hr_ => c_V (n := 1) ok cls12 sh_225 rfl ml_Mo_393 wv_X12_spells yk_X12_spells rfl (Nat.le_of_ble_eq_true rfl) (Nat.le_of_ble_eq_true rfl) (tMo_spells hr_) rfl (Nat.le_of_ble_eq_true rfl) dX12_tag_30) (fun r5 => ?_)
    refine r_aload_n (pc := 33) ok dX12_tag_33 rfl ?_
    refine r_getR (pc := 34) ok cls12 sh_225 (k := 6) rfl (Nat.le_of_ble_eq_true rfl) rfl dX12_tag_34 fl_Mo_33 ?_
    refine r_bipush (pc := 37) ok (73 : Int32) dX12_tag_37 cb_73 ?_
    refine r_iload_n (pc := 39) ok dX12_tag_39 rfl ?_
    refine r_iadd (pc := 40) ok dX12_tag_40 ?_
    refine r_iald (pc := 41) ok sh_227 (j := 2) rfl (mx_r (by decide) (va_up_self _ _ _)) dX12_tag_41 (fun i6 => ?_)
    refine r_if_eq (pc := 42) ok 116 dX12_tag_42 rfl (fun _ => ?_) (fun _ => ?_)
    · refine r_aload_n (pc := 116) ok dX12_tag_116 rfl ?_
      refine r_ldc2 (pc := 117) ok (24948 : Int64) dX12_tag_117 cl2_Mo_400 ?_
      refine k_V (pc := 120)  (fun r7 => mx XX (va_up YY 225 r7)) (fun r7 hr_ => c_V (n := 1) ok cls12 sh_225 rfl ml_Mo_397 wv_X12_says yk_X12_says rfl (Nat.le_of_ble_eq_true rfl) (Nat.le_of_ble_eq_true rfl) (tMo_says hr_) rfl (Nat.le_of_ble_eq_true rfl) dX12_tag_120) (fun r7 => ?_)
      refine r_aload_n (pc := 123) ok dX12_tag_123 rfl ?_
      refine r_bipush (pc := 124) ok (32 : Int32) dX12_tag_124 cb_32 ?_
      refine k_V (pc := 126)  (fun r8 => mx XX (va_up YY 225 r8)) (fun r8 hr_ => c_V (n := 1) ok cls12 sh_225 rfl ml_Mo_390 wv_X12_lays yk_X12_lays rfl (Nat.le_of_ble_eq_true rfl) (Nat.le_of_ble_eq_true rfl) (tMo_lays hr_) rfl (Nat.le_of_ble_eq_true rfl) dX12_tag_126) (fun r8 => ?_)
      refine r_aload_n (pc := 129) ok dX12_tag_129 rfl ?_
      refine r_getR (pc := 130) ok cls12 sh_225 (k := 6) rfl (Nat.le_of_ble_eq_true rfl) rfl dX12_tag_130 fl_Mo_33 ?_
      refine r_bipush (pc := 133) ok (81 : Int32) dX12_tag_133 cb_81 ?_
      refine r_iload_n (pc := 135) ok dX12_tag_135 rfl ?_
      refine r_iadd (pc := 136) ok dX12_tag_136 ?_
      refine r_iald (pc := 137) ok sh_227 (j := 2) rfl (mx_r (by decide) (va_up_self _ _ _)) dX12_tag_137 (fun i9 => ?_)
      refine r_bipush (pc := 138) ok (9 : Int32) dX12_tag_138 cb_9 ?_
      refine r_icmp_le (pc := 140) ok 162 dX12_tag_140 rfl (fun _ => ?_) (fun _ => ?_)
      · exact wMo_tag_J162 ok
      · refine r_aload_n (pc := 143) ok dX12_tag_143 rfl ?_
        refine r_bipush (pc := 144) ok (48 : Int32) dX12_tag_144 cb_48 ?_
        refine r_aload_n (pc := 146) ok dX12_tag_146 rfl ?_
        refine r_getR (pc := 147) ok cls12 sh_225 (k := 6) rfl (Nat.le_of_ble_eq_true rfl) rfl dX12_tag_147 fl_Mo_33 ?_
        refine r_bipush (pc := 150) ok (81 : Int32) dX12_tag_150 cb_81 ?_
        refine r_iload_n (pc := 152) ok dX12_tag_152 rfl ?_
        refine r_iadd (pc := 153) ok dX12_tag_153 ?_
        refine r_iald (pc := 154) ok sh_227 (j := 2) rfl (mx_r (by decide) (va_up_self _ _ _)) dX12_tag_154 (fun i15 => ?_)
        refine r_bipush (pc := 155) ok (10 : Int32) dX12_tag_155 cb_10 ?_
        refine r_idivc (pc := 157) ok dX12_tag_157 (by decide +kernel) ?_
        refine r_iadd (pc := 158) ok dX12_tag_158 ?_
        refine k_V (pc := 159)  (fun r16 => mx XX (va_up YY 225 r16)) (fun r16 hr_ => c_V (n := 1) ok cls12 sh_225 rfl ml_Mo_390 wv_X12_lays yk_X12_lays rfl (Nat.le_of_ble_eq_true rfl) (Nat.le_of_ble_eq_true rfl) (tMo_lays hr_) rfl (Nat.le_of_ble_eq_true rfl) dX12_tag_159) (fun r16 => ?_)
        exact wMo_tag_J162 ok
    · refine r_aload_n (pc := 45) ok dX12_tag_45 rfl ?_
      refine r_getR (pc := 46) ok cls12 sh_225 (k := 6) rfl (Nat.le_of_ble_eq_true rfl) rfl dX12_tag_46 fl_Mo_33 ?_
      refine r_bipush (pc := 49) ok (73 : Int32) dX12_tag_49 cb_73 ?_
      refine r_iload_n (pc := 51) ok dX12_tag_51 rfl ?_
      refine r_iadd (pc := 52) ok dX12_tag_52 ?_
      refine r_iald (pc := 53) ok sh_227 (j := 2) rfl (mx_r (by decide) (va_up_self _ _ _)) dX12_tag_53 (fun i17 => ?_)
      refine r_iconst (pc := 54) ok (1 : Int32) dX12_tag_54 ci_1 ?_
      refine r_icmp_ne (pc := 55) ok 65 dX12_tag_55 rfl (fun _ => ?_) (fun _ => ?_)
      · refine r_aload_n (pc := 58) ok dX12_tag_58 rfl ?_
        refine r_ldc2 (pc := 59) ok (118122059361139 : Int64) dX12_tag_59 cl2_Mo_116 ?_
        refine k_V (pc := 62)  (fun r18 => mx XX (va_up YY 225 r18)) (fun r18 hr_ => c_V (n := 1) ok cls12 sh_225 rfl ml_Mo_397 wv_X12_says yk_X12_says rfl (Nat.le_of_ble_eq_true rfl) (Nat.le_of_ble_eq_true rfl) (tMo_says hr_) rfl (Nat.le_of_ble_eq_true rfl) dX12_tag_62) (fun r18 => ?_)
        exact wMo_tag_J65 ok
      · exact wMo_tag_J65 ok
theorem tMo_tag {l : Launch} {G : Gx} {b : Nat} {XX YY : Nat → Obj} {m : Obj} {v1 : Int32} {r : Int32 × Obj} (hr : fMo_tag m v1 = some r) : MetG l G b yX12_tag cX12_tag 2 (some .int) 3 [.ref (b + 225), .int v1] (mx XX (va_up YY 225 m)) (qI G b r.1 (mx XX (va_up YY 225 r.2))) := by
  refine met_start [some (.ref (b + 225)), some (.int v1)] (by decide +kernel) (Nat.le_of_ble_eq_true rfl) rfl (fun Z hl ok => ?_)
  clear hl
  exact vMo_tag ok r (by rw [hr]; rfl)
theorem vMo_byteAt {Z : Cx} {G : Gx} {b : Nat} {XX YY : Nat → Obj} {m : Obj} {v1 : Int32} (ok : OK Z G b cX12_byteAt 2 1 RX12 (some .int)) : VO Z G b 2 (fun (r : Int32 × Obj) => QX Z b (qI G b r.1 (mx XX (va_up YY 225 r.2)))) (mx XX (va_up YY 225 m)) 0 [some (.ref (b + 225)), some (.int v1)] [] ((fMo_byteAt m v1).bind some) := by
  unfold fMo_byteAt
  refine r_aload_n (pc := 0) ok dX12_byteAt_0 rfl ?_
  refine r_iconst (pc := 1) ok (0 : Int32) dX12_byteAt_1 ci_0 ?_
  refine r_putI (pc := 2) ok cls12 sh_225 (k := 0) rfl (Nat.le_of_ble_eq_true rfl) (fun s_ => mx XX (va_up YY 225 s_)) (pm_r _ _).1 (pm_r _ _).2 rfl rfl rfl dX12_byteAt_2 fl_Mo_1 (fun s1 => ?_)
  refine r_iload_n (pc := 5) ok dX12_byteAt_5 rfl ?_
  refine r_iconst (pc := 6) ok (0 : Int32) dX12_byteAt_6 ci_0 ?_
  refine r_aload_n (pc := 7) ok dX12_byteAt_7 rfl ?_
  refine r_getI (pc := 8) ok cls12 sh_225 (k := 33) rfl (Nat.le_of_ble_eq_true rfl) (mx_r (by decide) (va_up_self _ _ _)) dX12_byteAt_8 fl_Mo_385 ?_
  refine r_iconst (pc := 11) ok (1 : Int32) dX12_byteAt_11 ci_1 ?_
  refine r_isub (pc := 12) ok dX12_byteAt_12 ?_
  refine k_I (pc := 13) (fun r2 => r2) (fun r2 => mx XX (va_up YY 225 s1)) (fun r2 hr_ => c_S (n := 3) ok ml_Mo_193 ws_X12_isIn yk_X12_isIn rfl (Nat.le_of_ble_eq_true rfl) (Nat.le_of_ble_eq_true rfl) (tMo_isIn hr_) rfl (Nat.le_of_ble_eq_true rfl) dX12_byteAt_13) (fun r2 => ?_)
  refine r_if_eq (pc := 16) ok 28 dX12_byteAt_16 rfl (fun _ => ?_) (fun _ => ?_)
  · refine r_iconst (pc := 28) ok (-1 : Int32) dX12_byteAt_28 ci_m1 ?_
    exact r_iret (pc := 29) ok dX12_byteAt_29 rfl
  · refine r_aload_n (pc := 19) ok dX12_byteAt_19 rfl ?_
    refine r_getR (pc := 20) ok cls12 sh_225 (k := 32) rfl (Nat.le_of_ble_eq_true rfl) rfl dX12_byteAt_20 fl_Mo_69 ?_
    refine r_iload_n (pc := 23) ok dX12_byteAt_23 rfl ?_
    refine r_bald (pc := 24) ok sh_237 (j := 12) rfl (mx_r (by decide) (va_up_self _ _ _)) dX12_byteAt_24 (fun i3 => ?_)
    refine r_goto (pc := 25) ok 29 dX12_byteAt_25 rfl ?_
    exact r_iret (pc := 29) ok dX12_byteAt_29 rfl
theorem tMo_byteAt {l : Launch} {G : Gx} {b : Nat} {XX YY : Nat → Obj} {m : Obj} {v1 : Int32} {r : Int32 × Obj} (hr : fMo_byteAt m v1 = some r) : MetG l G b yX12_byteAt cX12_byteAt 2 (some .int) 1 [.ref (b + 225), .int v1] (mx XX (va_up YY 225 m)) (qI G b r.1 (mx XX (va_up YY 225 r.2))) := by
  refine met_start [some (.ref (b + 225)), some (.int v1)] (by decide +kernel) (Nat.le_of_ble_eq_true rfl) rfl (fun Z hl ok => ?_)
  clear hl
  exact vMo_byteAt ok r (by rw [hr]; rfl)
theorem vMo_draw {Z : Cx} {G : Gx} {b : Nat} {XX YY : Nat → Obj} {m : Obj} {v1 : Int32} (ok : OK Z G b cX12_draw 2 0 RX12 (some .int)) : VO Z G b 2 (fun (r : Int32 × Obj) => QX Z b (qI G b r.1 (mx XX (va_up YY 225 r.2)))) (mx XX (va_up YY 225 m)) 0 [some (.ref (b + 225)), some (.int v1)] [] ((fMo_draw m v1).bind some) := by
  unfold fMo_draw
  refine r_aload_n (pc := 0) ok dX12_draw_0 rfl ?_
  refine r_aload_n (pc := 1) ok dX12_draw_1 rfl ?_
  refine r_getI (pc := 2) ok cls12 sh_225 (k := 34) rfl (Nat.le_of_ble_eq_true rfl) (mx_r (by decide) (va_up_self _ _ _)) dX12_draw_2 fl_Mo_404 ?_
  refine r_ldcw (pc := 5) ok (1103515245 : Int32) dX12_draw_5 cst_Mo_407 ?_
  refine r_imul (pc := 8) ok dX12_draw_8 ?_
  refine r_sipush (pc := 9) ok (12345 : Int32) dX12_draw_9 cs_12345 ?_
  refine r_iadd (pc := 12) ok dX12_draw_12 ?_
  refine r_putI (pc := 13) ok cls12 sh_225 (k := 34) rfl (Nat.le_of_ble_eq_true rfl) (fun s_ => mx XX (va_up YY 225 s_)) (pm_r _ _).1 (pm_r _ _).2 rfl rfl rfl dX12_draw_13 fl_Mo_404 (fun s1 => ?_)
  refine r_aload_n (pc := 16) ok dX12_draw_16 rfl ?_
  refine r_getI (pc := 17) ok cls12 sh_225 (k := 34) rfl (Nat.le_of_ble_eq_true rfl) (mx_r (by decide) (va_up_self _ _ _)) dX12_draw_17 fl_Mo_404 ?_
  refine r_bipush (pc := 20) ok (8 : Int32) dX12_draw_20 cb_8 ?_
  refine r_iushr (pc := 22) ok dX12_draw_22 ?_
  refine r_iload_n (pc := 23) ok dX12_draw_23 rfl ?_
  refine r_irem (o := none) (pc := 24) ok dX12_draw_24 ?_
  exact r_iret (pc := 25) ok dX12_draw_25 rfl
theorem tMo_draw {l : Launch} {G : Gx} {b : Nat} {XX YY : Nat → Obj} {m : Obj} {v1 : Int32} {r : Int32 × Obj} (hr : fMo_draw m v1 = some r) : MetG l G b yX12_draw cX12_draw 2 (some .int) 0 [.ref (b + 225), .int v1] (mx XX (va_up YY 225 m)) (qI G b r.1 (mx XX (va_up YY 225 r.2))) := by
  refine met_start [some (.ref (b + 225)), some (.int v1)] (by decide +kernel) (Nat.le_of_ble_eq_true rfl) rfl (fun Z hl ok => ?_)
  clear hl
  exact vMo_draw ok r (by rw [hr]; rfl)
theorem wMo_drawPerson_J112 {Z : Cx} {G : Gx} {b : Nat} {XX YY : Nat → Obj} {m : Obj} {v1 : Int32} {v2 : Int32} {v3 : Int32} (ok : OK Z G b cX12_drawPerson 4 2 RX12 none) : VO Z G b 4 (fun (r : Obj) => QX Z b (qV G b (mx XX (va_up YY 225 r)))) (mx XX (va_up YY 225 m)) 112 [some (.ref (b + 225)), some (.int v1), some (.int v2), some (.int v3)] [] ((fMo_drawPerson_J112 m v1 v2 v3).bind some) := by
  unfold fMo_drawPerson_J112
  refine r_iload_n (pc := 112) ok dX12_drawPerson_112 rfl ?_
  refine r_iconst (pc := 113) ok (2 : Int32) dX12_drawPerson_113 ci_2 ?_
  refine r_icmp_ne (pc := 114) ok 132 dX12_drawPerson_114 rfl (fun _ => ?_) (fun _ => ?_)
  · refine r_aload_n (pc := 117) ok dX12_drawPerson_117 rfl ?_
    refine r_iload_n (pc := 118) ok dX12_drawPerson_118 rfl ?_
    refine r_iload_n (pc := 119) ok dX12_drawPerson_119 rfl ?_
    refine k_I (pc := 120) (fun r11 => r11) (fun r11 => mx XX (va_up YY 225 m)) (fun r11 hr_ => c_V (n := 2) ok cls12 sh_225 rfl ml_Mo_339 wv_X12_whyCall yk_X12_whyCall rfl (Nat.le_of_ble_eq_true rfl) (Nat.le_of_ble_eq_true rfl) (tMo_whyCall (va_up_self _ _ _) hr_) rfl (Nat.le_of_ble_eq_true rfl) dX12_drawPerson_120) (fun r11 => ?_)
    refine r_if_ne (pc := 123) ok 132 dX12_drawPerson_123 rfl (fun _ => ?_) (fun _ => ?_)
    · refine r_aload_n (pc := 126) ok dX12_drawPerson_126 rfl ?_
      refine r_iload_n (pc := 127) ok dX12_drawPerson_127 rfl ?_
      refine r_iload_n (pc := 128) ok dX12_drawPerson_128 rfl ?_
      refine k_V (pc := 129)  (fun r12 => mx XX (va_up YY 225 r12)) (fun r12 hr_ => c_V (n := 2) ok cls12 sh_225 rfl ml_Mo_342 wv_X12_books yk_X12_books rfl (Nat.le_of_ble_eq_true rfl) (Nat.le_of_ble_eq_true rfl) (tMo_books hr_) rfl (Nat.le_of_ble_eq_true rfl) dX12_drawPerson_129) (fun r12 => ?_)
      exact r_vret (pc := 132) ok dX12_drawPerson_132 rfl
    · exact r_vret (pc := 132) ok dX12_drawPerson_132 rfl
  · exact r_vret (pc := 132) ok dX12_drawPerson_132 rfl
theorem wMo_drawPerson_J71 {Z : Cx} {G : Gx} {b : Nat} {XX YY : Nat → Obj} {m : Obj} {v1 : Int32} {v2 : Int32} (ok : OK Z G b cX12_drawPerson 4 2 RX12 none) : VO Z G b 4 (fun (r : Obj) => QX Z b (qV G b (mx XX (va_up YY 225 r)))) (mx XX (va_up YY 225 m)) 71 [some (.ref (b + 225)), some (.int v1), some (.int v2), none] [] ((fMo_drawPerson_J71 m v1 v2).bind some) := by
  unfold fMo_drawPerson_J71
  refine r_aload_n (pc := 71) ok dX12_drawPerson_71 rfl ?_
  refine r_getR (pc := 72) ok cls12 sh_225 (k := 6) rfl (Nat.le_of_ble_eq_true rfl) rfl dX12_drawPerson_72 fl_Mo_33 ?_
  refine r_iconst (pc := 75) ok (0 : Int32) dX12_drawPerson_75 ci_0 ?_
  refine r_ialdc (pc := 76) ok sh_227 (j := 2) rfl (i := 0) (by decide +kernel) (mx_r (by decide) (va_up_self _ _ _)) dX12_drawPerson_76 ?_
  refine r_if_ne (pc := 77) ok 81 dX12_drawPerson_77 rfl (fun _ => ?_) (fun _ => ?_)
  · exact r_vret (pc := 80) ok dX12_drawPerson_80 rfl
  · refine r_aload_n (pc := 81) ok dX12_drawPerson_81 rfl ?_
    refine r_aload_n (pc := 82) ok dX12_drawPerson_82 rfl ?_
    refine r_getR (pc := 83) ok cls12 sh_225 (k := 6) rfl (Nat.le_of_ble_eq_true rfl) rfl dX12_drawPerson_83 fl_Mo_33 ?_
    refine r_iconst (pc := 86) ok (0 : Int32) dX12_drawPerson_86 ci_0 ?_
    refine r_ialdc (pc := 87) ok sh_227 (j := 2) rfl (i := 0) (by decide +kernel) (mx_r (by decide) (va_up_self _ _ _)) dX12_drawPerson_87 ?_
    refine k_I (pc := 88) (fun r8 => r8.1) (fun r8 => mx XX (va_up YY 225 r8.2)) (fun r8 hr_ => c_V (n := 1) ok cls12 sh_225 rfl ml_Mo_408 wv_X12_draw yk_X12_draw rfl (Nat.le_of_ble_eq_true rfl) (Nat.le_of_ble_eq_true rfl) (tMo_draw hr_) rfl (Nat.le_of_ble_eq_true rfl) dX12_drawPerson_88) (fun r8 => ?_)
    refine r_istore_n (pc := 91) ok dX12_drawPerson_91 (Nat.le_of_ble_eq_true rfl) rfl ?_
    refine r_iload_n (pc := 92) ok dX12_drawPerson_92 rfl ?_
    refine r_if_ne (pc := 93) ok 112 dX12_drawPerson_93 rfl (fun _ => ?_) (fun _ => ?_)
    · refine r_aload_n (pc := 96) ok dX12_drawPerson_96 rfl ?_
      refine r_iload_n (pc := 97) ok dX12_drawPerson_97 rfl ?_
      refine r_iload_n (pc := 98) ok dX12_drawPerson_98 rfl ?_
      refine k_I (pc := 99) (fun r9 => r9) (fun r9 => mx XX (va_up YY 225 r8.2)) (fun r9 hr_ => c_V (n := 2) ok cls12 sh_225 rfl ml_Mo_330 wv_X12_whyKnock yk_X12_whyKnock rfl (Nat.le_of_ble_eq_true rfl) (Nat.le_of_ble_eq_true rfl) (tMo_whyKnock (va_up_self _ _ _) hr_) rfl (Nat.le_of_ble_eq_true rfl) dX12_drawPerson_99) (fun r9 => ?_)
      refine r_if_ne (pc := 102) ok 112 dX12_drawPerson_102 rfl (fun _ => ?_) (fun _ => ?_)
      · refine r_aload_n (pc := 105) ok dX12_drawPerson_105 rfl ?_
        refine r_iload_n (pc := 106) ok dX12_drawPerson_106 rfl ?_
        refine r_iconst (pc := 107) ok (1 : Int32) dX12_drawPerson_107 ci_1 ?_
        refine r_iload_n (pc := 108) ok dX12_drawPerson_108 rfl ?_
        refine k_V (pc := 109)  (fun r10 => mx XX (va_up YY 225 r10)) (fun r10 hr_ => c_V (n := 3) ok cls12 sh_225 rfl ml_Mo_310 wv_X12_stands yk_X12_stands rfl (Nat.le_of_ble_eq_true rfl) (Nat.le_of_ble_eq_true rfl) (tMo_stands hr_) rfl (Nat.le_of_ble_eq_true rfl) dX12_drawPerson_109) (fun r10 => ?_)
        exact wMo_drawPerson_J112 ok
      · exact wMo_drawPerson_J112 ok
    · exact wMo_drawPerson_J112 ok
theorem wMo_drawPerson_J62 {Z : Cx} {G : Gx} {b : Nat} {XX YY : Nat → Obj} {m : Obj} {v1 : Int32} {v2 : Int32} (ok : OK Z G b cX12_drawPerson 4 2 RX12 none) : VO Z G b 4 (fun (r : Obj) => QX Z b (qV G b (mx XX (va_up YY 225 r)))) (mx XX (va_up YY 225 m)) 62 [some (.ref (b + 225)), some (.int v1), some (.int v2), none] [] ((fMo_drawPerson_J62 m v1 v2).bind some) := by
  unfold fMo_drawPerson_J62
  refine r_iload_n (pc := 62) ok dX12_drawPerson_62 rfl ?_
  refine r_if_eq (pc := 63) ok 71 dX12_drawPerson_63 rfl (fun _ => ?_) (fun _ => ?_)
  · exact wMo_drawPerson_J71 ok
  · refine r_iload_n (pc := 66) ok dX12_drawPerson_66 rfl ?_
    refine r_iconst (pc := 67) ok (2 : Int32) dX12_drawPerson_67 ci_2 ?_
    refine r_icmp_ne (pc := 68) ok 80 dX12_drawPerson_68 rfl (fun _ => ?_) (fun _ => ?_)
    · exact wMo_drawPerson_J71 ok
    · exact r_vret (pc := 80) ok dX12_drawPerson_80 rfl
theorem wMo_drawPerson_J37 {Z : Cx} {G : Gx} {b : Nat} {XX YY : Nat → Obj} {m : Obj} {v1 : Int32} {v2 : Int32} (ok : OK Z G b cX12_drawPerson 4 2 RX12 none) : VO Z G b 4 (fun (r : Obj) => QX Z b (qV G b (mx XX (va_up YY 225 r)))) (mx XX (va_up YY 225 m)) 37 [some (.ref (b + 225)), some (.int v1), some (.int v2), none] [] ((fMo_drawPerson_J37 m v1 v2).bind some) := by
  unfold fMo_drawPerson_J37
  refine r_iload_n (pc := 37) ok dX12_drawPerson_37 rfl ?_
  refine r_iconst (pc := 38) ok (3 : Int32) dX12_drawPerson_38 ci_3 ?_
  refine r_icmp_ne (pc := 39) ok 62 dX12_drawPerson_39 rfl (fun _ => ?_) (fun _ => ?_)
  · refine r_aload_n (pc := 42) ok dX12_drawPerson_42 rfl ?_
    refine r_getR (pc := 43) ok cls12 sh_225 (k := 6) rfl (Nat.le_of_ble_eq_true rfl) rfl dX12_drawPerson_43 fl_Mo_33 ?_
    refine r_bipush (pc := 46) ok (73 : Int32) dX12_drawPerson_46 cb_73 ?_
    refine r_iload_n (pc := 48) ok dX12_drawPerson_48 rfl ?_
    refine r_iadd (pc := 49) ok dX12_drawPerson_49 ?_
    refine r_iald (pc := 50) ok sh_227 (j := 2) rfl (mx_r (by decide) (va_up_self _ _ _)) dX12_drawPerson_50 (fun i6 => ?_)
    refine r_iconst (pc := 51) ok (1 : Int32) dX12_drawPerson_51 ci_1 ?_
    refine r_icmp_ne (pc := 52) ok 62 dX12_drawPerson_52 rfl (fun _ => ?_) (fun _ => ?_)
    · refine r_aload_n (pc := 55) ok dX12_drawPerson_55 rfl ?_
      refine r_iload_n (pc := 56) ok dX12_drawPerson_56 rfl ?_
      refine r_iconst (pc := 57) ok (0 : Int32) dX12_drawPerson_57 ci_0 ?_
      refine r_iconst (pc := 58) ok (-1 : Int32) dX12_drawPerson_58 ci_m1 ?_
      refine k_V (pc := 59)  (fun r7 => mx XX (va_up YY 225 r7)) (fun r7 hr_ => c_V (n := 3) ok cls12 sh_225 rfl ml_Mo_310 wv_X12_stands yk_X12_stands rfl (Nat.le_of_ble_eq_true rfl) (Nat.le_of_ble_eq_true rfl) (tMo_stands hr_) rfl (Nat.le_of_ble_eq_true rfl) dX12_drawPerson_59) (fun r7 => ?_)
      exact wMo_drawPerson_J62 ok
    · exact wMo_drawPerson_J62 ok
  · exact wMo_drawPerson_J62 ok
theorem vMo_drawPerson {Z : Cx} {G : Gx} {b : Nat} {XX YY : Nat → Obj} {m : Obj} {v1 : Int32} (ok : OK Z G b cX12_drawPerson 4 2 RX12 none) : VO Z G b 4 (fun (r : Obj) => QX Z b (qV G b (mx XX (va_up YY 225 r)))) (mx XX (va_up YY 225 m)) 0 [some (.ref (b + 225)), some (.int v1), none, none] [] ((fMo_drawPerson m v1).bind some) := by
  unfold fMo_drawPerson
  refine r_aload_n (pc := 0) ok dX12_drawPerson_0 rfl ?_
  refine r_bipush (pc := 1) ok (8 : Int32) dX12_drawPerson_1 cb_8 ?_
  refine k_I (pc := 3) (fun r1 => r1.1) (fun r1 => mx XX (va_up YY 225 r1.2)) (fun r1 hr_ => c_V (n := 1) ok cls12 sh_225 rfl ml_Mo_408 wv_X12_draw yk_X12_draw rfl (Nat.le_of_ble_eq_true rfl) (Nat.le_of_ble_eq_true rfl) (tMo_draw hr_) rfl (Nat.le_of_ble_eq_true rfl) dX12_drawPerson_3) (fun r1 => ?_)
  refine r_istore_n (pc := 6) ok dX12_drawPerson_6 (Nat.le_of_ble_eq_true rfl) rfl ?_
  refine r_iload_n (pc := 7) ok dX12_drawPerson_7 rfl ?_
  refine r_iconst (pc := 8) ok (1 : Int32) dX12_drawPerson_8 ci_1 ?_
  refine r_icmp_ne (pc := 9) ok 37 dX12_drawPerson_9 rfl (fun _ => ?_) (fun _ => ?_)
  · refine r_aload_n (pc := 12) ok dX12_drawPerson_12 rfl ?_
    refine r_iconst (pc := 13) ok (3 : Int32) dX12_drawPerson_13 ci_3 ?_
    refine k_I (pc := 14) (fun r2 => r2.1) (fun r2 => mx XX (va_up YY 225 r2.2)) (fun r2 hr_ => c_V (n := 1) ok cls12 sh_225 rfl ml_Mo_408 wv_X12_draw yk_X12_draw rfl (Nat.le_of_ble_eq_true rfl) (Nat.le_of_ble_eq_true rfl) (tMo_draw hr_) rfl (Nat.le_of_ble_eq_true rfl) dX12_drawPerson_14) (fun r2 => ?_)
    refine r_istore_n (pc := 17) ok dX12_drawPerson_17 (Nat.le_of_ble_eq_true rfl) rfl ?_
    refine r_aload_n (pc := 18) ok dX12_drawPerson_18 rfl ?_
    refine r_iload_n (pc := 19) ok dX12_drawPerson_19 rfl ?_
    refine r_iload_n (pc := 20) ok dX12_drawPerson_20 rfl ?_
    refine k_I (pc := 21) (fun r3 => r3) (fun r3 => mx XX (va_up YY 225 r2.2)) (fun r3 hr_ => c_V (n := 2) ok cls12 sh_225 rfl ml_Mo_336 wv_X12_whyGo yk_X12_whyGo rfl (Nat.le_of_ble_eq_true rfl) (Nat.le_of_ble_eq_true rfl) (tMo_whyGo (va_up_self _ _ _) hr_) rfl (Nat.le_of_ble_eq_true rfl) dX12_drawPerson_21) (fun r3 => ?_)
    refine r_if_ne (pc := 24) ok 37 dX12_drawPerson_24 rfl (fun _ => ?_) (fun _ => ?_)
    · refine r_aload_n (pc := 27) ok dX12_drawPerson_27 rfl ?_
      refine r_getR (pc := 28) ok cls12 sh_225 (k := 6) rfl (Nat.le_of_ble_eq_true rfl) rfl dX12_drawPerson_28 fl_Mo_33 ?_
      refine r_bipush (pc := 31) ok (89 : Int32) dX12_drawPerson_31 cb_89 ?_
      refine r_iload_n (pc := 33) ok dX12_drawPerson_33 rfl ?_
      refine r_iadd (pc := 34) ok dX12_drawPerson_34 ?_
      refine r_iload_n (pc := 35) ok dX12_drawPerson_35 rfl ?_
      refine r_iast (pc := 36) ok sh_227 (j := 2) rfl rfl (fun s_ => mx XX (va_up YY 225 s_)) (pm_r _ _).1 (pm_r _ _).2 dX12_drawPerson_36 (fun i4 s5 => ?_)
      refine r_lv (lk_s (lk_s (lk_s (lk_n lk_0 _) _) _) _) ?_
      exact wMo_drawPerson_J37 ok
    · refine r_lv (lk_s (lk_s (lk_s (lk_n lk_0 _) _) _) _) ?_
      exact wMo_drawPerson_J37 ok
  · exact wMo_drawPerson_J37 ok
theorem tMo_drawPerson {l : Launch} {G : Gx} {b : Nat} {XX YY : Nat → Obj} {m : Obj} {v1 : Int32} {r : Obj} (hr : fMo_drawPerson m v1 = some r) : MetG l G b yX12_drawPerson cX12_drawPerson 4 none 2 [.ref (b + 225), .int v1] (mx XX (va_up YY 225 m)) (qV G b (mx XX (va_up YY 225 r))) := by
  refine met_start [some (.ref (b + 225)), some (.int v1), none, none] (by decide +kernel) (Nat.le_of_ble_eq_true rfl) rfl (fun Z hl ok => ?_)
  clear hl
  exact vMo_drawPerson ok r (by rw [hr]; rfl)
theorem wMo_draws_L28 {Z : Cx} {G : Gx} {b : Nat} {XX YY : Nat → Obj} {v1 : Int32} {v3 : Int32} (ok : OK Z G b cX12_draws 5 5 RX12 (some .int)) {K : ((Int32 × Obj) ⊕ (Obj)) → Option (Int32 × Obj)} (hc : ∀ (a : Int32 × Obj), VO Z G b 5 (fun (r : Int32 × Obj) => QX Z b (qI G b r.1 (mx XX (va_up YY 225 r.2)))) (mx XX (va_up YY 225 a.2)) 28 [some (.ref (b + 225)), some (.int v1), none, some (.int v3), some (.int a.1)] [] (K (.inl a))) (hx : ∀ (e : Obj), VO Z G b 5 (fun (r : Int32 × Obj) => QX Z b (qI G b r.1 (mx XX (va_up YY 225 r.2)))) (mx XX (va_up YY 225 e)) 51 [some (.ref (b + 225)), some (.int v1), none, some (.int v3), none] [] (K (.inr e))) : ∀ (a : Int32 × Obj), VO Z G b 5 (fun (r : Int32 × Obj) => QX Z b (qI G b r.1 (mx XX (va_up YY 225 r.2)))) (mx XX (va_up YY 225 a.2)) 28 [some (.ref (b + 225)), some (.int v1), none, some (.int v3), some (.int a.1)] [] ((fMo_draws_L28 a).bind K) := by
  intro a
  unfold fMo_draws_L28
  refine r_iload (pc := 28) ok dX12_draws_28 rfl ?_
  refine r_aload_n (pc := 30) ok dX12_draws_30 rfl ?_
  refine r_getR (pc := 31) ok cls12 sh_225 (k := 6) rfl (Nat.le_of_ble_eq_true rfl) rfl dX12_draws_31 fl_Mo_33 ?_
  refine r_iconst (pc := 34) ok (1 : Int32) dX12_draws_34 ci_1 ?_
  refine r_ialdc (pc := 35) ok sh_227 (j := 2) rfl (i := 1) (by decide +kernel) (mx_r (by decide) (va_up_self _ _ _)) dX12_draws_35 ?_
  refine r_icmp_ge (pc := 36) ok 51 dX12_draws_36 rfl (fun _ => ?_) (fun _ => ?_)
  · refine r_lv (lk_s (lk_s (lk_n (lk_s (lk_n lk_0 _) _) _) _) _) ?_
    exact hx a.2
  · refine r_aload_n (pc := 39) ok dX12_draws_39 rfl ?_
    refine r_iload (pc := 40) ok dX12_draws_40 rfl ?_
    refine k_V (pc := 42)  (fun r2 => mx XX (va_up YY 225 r2)) (fun r2 hr_ => c_V (n := 1) ok cls12 sh_225 rfl ml_Mo_411 wv_X12_drawPerson yk_X12_drawPerson rfl (Nat.le_of_ble_eq_true rfl) (Nat.le_of_ble_eq_true rfl) (tMo_drawPerson hr_) rfl (Nat.le_of_ble_eq_true rfl) dX12_draws_42) (fun r2 => ?_)
    refine r_iinc (pc := 45) ok (1 : Int32) dX12_draws_45 ci_1 rfl (Nat.le_of_ble_eq_true rfl) rfl ?_
    refine r_goto (pc := 48) ok 28 dX12_draws_48 rfl ?_
    exact hc ((a.1 + (1 : Int32)), r2)
theorem wMo_draws_L7 {Z : Cx} {G : Gx} {b : Nat} {XX YY : Nat → Obj} {v1 : Int32} (ok : OK Z G b cX12_draws 5 5 RX12 (some .int)) {K : ((Int32 × Obj) ⊕ (Int32 × Obj)) → Option (Int32 × Obj)} (hc : ∀ (a : Int32 × Obj), VO Z G b 5 (fun (r : Int32 × Obj) => QX Z b (qI G b r.1 (mx XX (va_up YY 225 r.2)))) (mx XX (va_up YY 225 a.2)) 7 [some (.ref (b + 225)), some (.int v1), none, some (.int a.1), none] [] (K (.inl a))) (hx : ∀ (e : Int32 × Obj), VO Z G b 5 (fun (r : Int32 × Obj) => QX Z b (qI G b r.1 (mx XX (va_up YY 225 r.2)))) (mx XX (va_up YY 225 e.2)) 61 [none, none, none, some (.int e.1), none] [] (K (.inr e))) : ∀ (a : Int32 × Obj), VO Z G b 5 (fun (r : Int32 × Obj) => QX Z b (qI G b r.1 (mx XX (va_up YY 225 r.2)))) (mx XX (va_up YY 225 a.2)) 7 [some (.ref (b + 225)), some (.int v1), none, some (.int a.1), none] [] ((fMo_draws_L7 v1 a).bind K) := by
  intro a
  unfold fMo_draws_L7
  refine r_iload_n (pc := 7) ok dX12_draws_7 rfl ?_
  refine r_iload_n (pc := 8) ok dX12_draws_8 rfl ?_
  refine r_icmp_ge (pc := 9) ok 61 dX12_draws_9 rfl (fun _ => ?_) (fun _ => ?_)
  · refine r_lv (lk_n (lk_n (lk_n (lk_s (lk_n lk_0 _) _) _) _) _) ?_
    exact hx (a.1, a.2)
  · refine r_aload_n (pc := 12) ok dX12_draws_12 rfl ?_
    refine r_getR (pc := 13) ok cls12 sh_225 (k := 6) rfl (Nat.le_of_ble_eq_true rfl) rfl dX12_draws_13 fl_Mo_33 ?_
    refine r_bipush (pc := 16) ok (69 : Int32) dX12_draws_16 cb_69 ?_
    refine r_ialdc (pc := 18) ok sh_227 (j := 2) rfl (i := 69) (by decide +kernel) (mx_r (by decide) (va_up_self _ _ _)) dX12_draws_18 ?_
    refine r_sipush (pc := 19) ok (1000 : Int32) dX12_draws_19 cs_1000 ?_
    refine r_icmp_ge (pc := 22) ok 61 dX12_draws_22 rfl (fun _ => ?_) (fun _ => ?_)
    · refine r_lv (lk_n (lk_n (lk_n (lk_s (lk_n lk_0 _) _) _) _) _) ?_
      exact hx (a.1, a.2)
    · refine r_iconst (pc := 25) ok (0 : Int32) dX12_draws_25 ci_0 ?_
      refine r_istore (pc := 26) ok dX12_draws_26 (Nat.le_of_ble_eq_true rfl) rfl ?_
      refine r_iter (P := fun (a28 : Int32 × Obj) o => VO Z G b 5 (fun (r : Int32 × Obj) => QX Z b (qI G b r.1 (mx XX (va_up YY 225 r.2)))) (mx XX (va_up YY 225 a28.2)) 28 [some (.ref (b + 225)), some (.int v1), none, some (.int a.1), some (.int a28.1)] [] o) (E := fun (e_28 : Obj) o => VO Z G b 5 (fun (r : Int32 × Obj) => QX Z b (qI G b r.1 (mx XX (va_up YY 225 r.2)))) (mx XX (va_up YY 225 e_28)) 51 [some (.ref (b + 225)), some (.int v1), none, some (.int a.1), none] [] o) (fun _ => r_none) (fun K hc hx => wMo_draws_L28 ok (K := K) hc hx) (fun e3 => ?_) FU ((0 : Int32), a.2)
      refine r_aload_n (pc := 51) ok dX12_draws_51 rfl ?_
      refine k_V (pc := 52)  (fun r4 => mx XX (va_up YY 225 r4)) (fun r4 hr_ => c_V (n := 0) ok cls12 sh_225 rfl ml_Mo_327 wv_X12_tick yk_X12_tick rfl (Nat.le_of_ble_eq_true rfl) (Nat.le_of_ble_eq_true rfl) (tMo_tick hr_) rfl (Nat.le_of_ble_eq_true rfl) dX12_draws_52) (fun r4 => ?_)
      refine r_iinc (pc := 55) ok (1 : Int32) dX12_draws_55 ci_1 rfl (Nat.le_of_ble_eq_true rfl) rfl ?_
      refine r_goto (pc := 58) ok 7 dX12_draws_58 rfl ?_
      exact hc ((a.1 + (1 : Int32)), r4)
theorem vMo_draws {Z : Cx} {G : Gx} {b : Nat} {XX YY : Nat → Obj} {m : Obj} {v1 : Int32} {v2 : Int32} (ok : OK Z G b cX12_draws 5 5 RX12 (some .int)) : VO Z G b 5 (fun (r : Int32 × Obj) => QX Z b (qI G b r.1 (mx XX (va_up YY 225 r.2)))) (mx XX (va_up YY 225 m)) 0 [some (.ref (b + 225)), some (.int v1), some (.int v2), none, none] [] ((fMo_draws m v1 v2).bind some) := by
  unfold fMo_draws
  refine r_aload_n (pc := 0) ok dX12_draws_0 rfl ?_
  refine r_iload_n (pc := 1) ok dX12_draws_1 rfl ?_
  refine r_putI (pc := 2) ok cls12 sh_225 (k := 34) rfl (Nat.le_of_ble_eq_true rfl) (fun s_ => mx XX (va_up YY 225 s_)) (pm_r _ _).1 (pm_r _ _).2 rfl rfl rfl dX12_draws_2 fl_Mo_404 (fun s1 => ?_)
  refine r_iconst (pc := 5) ok (0 : Int32) dX12_draws_5 ci_0 ?_
  refine r_istore_n (pc := 6) ok dX12_draws_6 (Nat.le_of_ble_eq_true rfl) rfl ?_
  refine r_lv (lk_s (lk_s (lk_n (lk_s (lk_n lk_0 _) _) _) _) _) ?_
  refine r_iter (P := fun (a7 : Int32 × Obj) o => VO Z G b 5 (fun (r : Int32 × Obj) => QX Z b (qI G b r.1 (mx XX (va_up YY 225 r.2)))) (mx XX (va_up YY 225 a7.2)) 7 [some (.ref (b + 225)), some (.int v1), none, some (.int a7.1), none] [] o) (E := fun (e_7 : Int32 × Obj) o => VO Z G b 5 (fun (r : Int32 × Obj) => QX Z b (qI G b r.1 (mx XX (va_up YY 225 r.2)))) (mx XX (va_up YY 225 e_7.2)) 61 [none, none, none, some (.int e_7.1), none] [] o) (fun _ => r_none) (fun K hc hx => wMo_draws_L7 ok (K := K) hc hx) (fun e5 => ?_) FU ((0 : Int32), s1)
  refine r_iload_n (pc := 61) ok dX12_draws_61 rfl ?_
  exact r_iret (pc := 62) ok dX12_draws_62 rfl
theorem tMo_draws {l : Launch} {G : Gx} {b : Nat} {XX YY : Nat → Obj} {m : Obj} {v1 : Int32} {v2 : Int32} {r : Int32 × Obj} (hr : fMo_draws m v1 v2 = some r) : MetG l G b yX12_draws cX12_draws 5 (some .int) 5 [.ref (b + 225), .int v1, .int v2] (mx XX (va_up YY 225 m)) (qI G b r.1 (mx XX (va_up YY 225 r.2))) := by
  refine met_start [some (.ref (b + 225)), some (.int v1), some (.int v2), none, none] (by decide +kernel) (Nat.le_of_ble_eq_true rfl) rfl (fun Z hl ok => ?_)
  clear hl
  exact vMo_draws ok r (by rw [hr]; rfl)
theorem wMo_drawn_J34 {Z : Cx} {G : Gx} {b : Nat} {XX YY : Nat → Obj} {m : Obj} {v1 : Int32} {v2 : Int32} (ok : OK Z G b cX12_drawn 3 6 RX12 (some .int)) : VO Z G b 3 (fun (r : Int32 × Obj) => QX Z b (qI G b r.1 (mx XX (va_up YY 225 r.2)))) (mx XX (va_up YY 225 m)) 34 [some (.ref (b + 225)), some (.int v1), some (.int v2)] [] ((fMo_drawn_J34 m v1 v2).bind some) := by
  unfold fMo_drawn_J34
  refine r_aload_n (pc := 34) ok dX12_drawn_34 rfl ?_
  refine r_iload_n (pc := 35) ok dX12_drawn_35 rfl ?_
  refine r_iload_n (pc := 36) ok dX12_drawn_36 rfl ?_
  refine k_I (pc := 37) (fun r3 => r3.1) (fun r3 => mx XX (va_up YY 225 r3.2)) (fun r3 hr_ => c_V (n := 2) ok cls12 sh_225 rfl ml_Mo_414 wv_X12_draws yk_X12_draws rfl (Nat.le_of_ble_eq_true rfl) (Nat.le_of_ble_eq_true rfl) (tMo_draws hr_) rfl (Nat.le_of_ble_eq_true rfl) dX12_drawn_37) (fun r3 => ?_)
  exact r_iret (pc := 40) ok dX12_drawn_40 rfl
theorem vMo_drawn {Z : Cx} {G : Gx} {b : Nat} {XX YY : Nat → Obj} {m : Obj} {v1 : Int32} {v2 : Int32} (ok : OK Z G b cX12_drawn 3 6 RX12 (some .int)) : VO Z G b 3 (fun (r : Int32 × Obj) => QX Z b (qI G b r.1 (mx XX (va_up YY 225 r.2)))) (mx XX (va_up YY 225 m)) 0 [some (.ref (b + 225)), some (.int v1), some (.int v2)] [] ((fMo_drawn m v1 v2).bind some) := by
  unfold fMo_drawn
  refine r_aload_n (pc := 0) ok dX12_drawn_0 rfl ?_
  refine r_iconst (pc := 1) ok (0 : Int32) dX12_drawn_1 ci_0 ?_
  refine r_putI (pc := 2) ok cls12 sh_225 (k := 0) rfl (Nat.le_of_ble_eq_true rfl) (fun s_ => mx XX (va_up YY 225 s_)) (pm_r _ _).1 (pm_r _ _).2 rfl rfl rfl dX12_drawn_2 fl_Mo_1 (fun s1 => ?_)
  refine r_iload_n (pc := 5) ok dX12_drawn_5 rfl ?_
  refine r_iconst (pc := 6) ok (1 : Int32) dX12_drawn_6 ci_1 ?_
  refine r_bipush (pc := 7) ok (60 : Int32) dX12_drawn_7 cb_60 ?_
  refine k_I (pc := 9) (fun r2 => r2) (fun r2 => mx XX (va_up YY 225 s1)) (fun r2 hr_ => c_S (n := 3) ok ml_Mo_193 ws_X12_isIn yk_X12_isIn rfl (Nat.le_of_ble_eq_true rfl) (Nat.le_of_ble_eq_true rfl) (tMo_isIn hr_) rfl (Nat.le_of_ble_eq_true rfl) dX12_drawn_9) (fun r2 => ?_)
  refine r_if_ne (pc := 12) ok 17 dX12_drawn_12 rfl (fun _ => ?_) (fun _ => ?_)
  · refine r_iconst (pc := 15) ok (-1 : Int32) dX12_drawn_15 ci_m1 ?_
    exact r_iret (pc := 16) ok dX12_drawn_16 rfl
  · refine r_aload_n (pc := 17) ok dX12_drawn_17 rfl ?_
    refine r_getR (pc := 18) ok cls12 sh_225 (k := 6) rfl (Nat.le_of_ble_eq_true rfl) rfl dX12_drawn_18 fl_Mo_33 ?_
    refine r_bipush (pc := 21) ok (69 : Int32) dX12_drawn_21 cb_69 ?_
    refine r_ialdc (pc := 23) ok sh_227 (j := 2) rfl (i := 69) (by decide +kernel) (mx_r (by decide) (va_up_self _ _ _)) dX12_drawn_23 ?_
    refine r_sipush (pc := 24) ok (1000 : Int32) dX12_drawn_24 cs_1000 ?_
    refine r_icmp_ge (pc := 27) ok 34 dX12_drawn_27 rfl (fun _ => ?_) (fun _ => ?_)
    · exact wMo_drawn_J34 ok
    · refine r_aload_n (pc := 30) ok dX12_drawn_30 rfl ?_
      refine k_V (pc := 31)  (fun r4 => mx XX (va_up YY 225 r4)) (fun r4 hr_ => c_V (n := 0) ok cls12 sh_225 rfl ml_Mo_333 wv_X12_stores yk_X12_stores rfl (Nat.le_of_ble_eq_true rfl) (Nat.le_of_ble_eq_true rfl) (tMo_stores hr_) rfl (Nat.le_of_ble_eq_true rfl) dX12_drawn_31) (fun r4 => ?_)
      exact wMo_drawn_J34 ok
theorem tMo_drawn {l : Launch} {G : Gx} {b : Nat} {XX YY : Nat → Obj} {m : Obj} {v1 : Int32} {v2 : Int32} {r : Int32 × Obj} (hr : fMo_drawn m v1 v2 = some r) : MetG l G b yX12_drawn cX12_drawn 3 (some .int) 6 [.ref (b + 225), .int v1, .int v2] (mx XX (va_up YY 225 m)) (qI G b r.1 (mx XX (va_up YY 225 r.2))) := by
  refine met_start [some (.ref (b + 225)), some (.int v1), some (.int v2)] (by decide +kernel) (Nat.le_of_ble_eq_true rfl) rfl (fun Z hl ok => ?_)
  clear hl
  exact vMo_drawn ok r (by rw [hr]; rfl)
theorem wMo_odds_J72 {Z : Cx} {G : Gx} {b : Nat} {XX YY : Nat → Obj} {m : Obj} {v1 : Int32} {v2 : Int32} {v3 : Int32} {v5 : Int32} {k0 : Int32} {k1 : Int32} (ok : OK Z G b cX12_odds 6 6 RX12 (some .int)) {K : ((Int32 × Int32 × Obj) ⊕ (Int32 × Obj)) → Option (Int32 × Obj)} (hc : ∀ (a : Int32 × Int32 × Obj), VO Z G b 6 (fun (r : Int32 × Obj) => QX Z b (qI G b r.1 (mx XX (va_up YY 225 r.2)))) (mx XX (va_up YY 225 a.2.2)) 35 [some (.ref (b + 225)), some (.int v1), some (.int v2), some (.int v3), some (.int a.1), some (.int a.2.1)] [] (K (.inl a))) (hx : ∀ (e : Int32 × Obj), VO Z G b 6 (fun (r : Int32 × Obj) => QX Z b (qI G b r.1 (mx XX (va_up YY 225 r.2)))) (mx XX (va_up YY 225 e.2)) 85 [none, none, none, none, some (.int e.1), none] [] (K (.inr e))) : VO Z G b 6 (fun (r : Int32 × Obj) => QX Z b (qI G b r.1 (mx XX (va_up YY 225 r.2)))) (mx XX (va_up YY 225 m)) 72 [some (.ref (b + 225)), some (.int v1), some (.int v2), some (.int v3), none, some (.int v5)] [.int k1, .int k0] ((fMo_odds_J72 m v5 k0 k1).bind K) := by
  unfold fMo_odds_J72
  refine r_iadd (pc := 72) ok dX12_odds_72 ?_
  refine r_bndI (fun x7 => ?_)
  refine r_istore (pc := 73) ok dX12_odds_73 (Nat.le_of_ble_eq_true rfl) rfl ?_
  refine r_aload_n (pc := 75) ok dX12_odds_75 rfl ?_
  refine k_V (pc := 76)  (fun r8 => mx XX (va_up YY 225 r8)) (fun r8 hr_ => c_V (n := 0) ok cls12 sh_225 rfl ml_Mo_382 wv_X12_brings yk_X12_brings rfl (Nat.le_of_ble_eq_true rfl) (Nat.le_of_ble_eq_true rfl) (tMo_brings hr_) rfl (Nat.le_of_ble_eq_true rfl) dX12_odds_76) (fun r8 => ?_)
  refine r_iinc (pc := 79) ok (1 : Int32) dX12_odds_79 ci_1 rfl (Nat.le_of_ble_eq_true rfl) rfl ?_
  refine r_goto (pc := 82) ok 35 dX12_odds_82 rfl ?_
  exact hc (x7, (v5 + (1 : Int32)), r8)
theorem wMo_odds_L35 {Z : Cx} {G : Gx} {b : Nat} {XX YY : Nat → Obj} {v1 : Int32} {v2 : Int32} {v3 : Int32} (ok : OK Z G b cX12_odds 6 6 RX12 (some .int)) {K : ((Int32 × Int32 × Obj) ⊕ (Int32 × Obj)) → Option (Int32 × Obj)} (hc : ∀ (a : Int32 × Int32 × Obj), VO Z G b 6 (fun (r : Int32 × Obj) => QX Z b (qI G b r.1 (mx XX (va_up YY 225 r.2)))) (mx XX (va_up YY 225 a.2.2)) 35 [some (.ref (b + 225)), some (.int v1), some (.int v2), some (.int v3), some (.int a.1), some (.int a.2.1)] [] (K (.inl a))) (hx : ∀ (e : Int32 × Obj), VO Z G b 6 (fun (r : Int32 × Obj) => QX Z b (qI G b r.1 (mx XX (va_up YY 225 r.2)))) (mx XX (va_up YY 225 e.2)) 85 [none, none, none, none, some (.int e.1), none] [] (K (.inr e))) : ∀ (a : Int32 × Int32 × Obj), VO Z G b 6 (fun (r : Int32 × Obj) => QX Z b (qI G b r.1 (mx XX (va_up YY 225 r.2)))) (mx XX (va_up YY 225 a.2.2)) 35 [some (.ref (b + 225)), some (.int v1), some (.int v2), some (.int v3), some (.int a.1), some (.int a.2.1)] [] ((fMo_odds_L35 v1 v2 v3 a).bind K) := by
  intro a
  unfold fMo_odds_L35
  refine r_iload (pc := 35) ok dX12_odds_35 rfl ?_
  refine r_iload_n (pc := 37) ok dX12_odds_37 rfl ?_
  refine r_icmp_ge (pc := 38) ok 85 dX12_odds_38 rfl (fun _ => ?_) (fun _ => ?_)
  · refine r_lv (lk_n (lk_n (lk_n (lk_n (lk_s (lk_n lk_0 _) _) _) _) _) _) ?_
    exact hx (a.1, a.2.2)
  · refine r_aload_n (pc := 41) ok dX12_odds_41 rfl ?_
    refine r_bipush (pc := 42) ok (20 : Int32) dX12_odds_42 cb_20 ?_
    refine r_iload_n (pc := 44) ok dX12_odds_44 rfl ?_
    refine r_iload (pc := 45) ok dX12_odds_45 rfl ?_
    refine r_iadd (pc := 47) ok dX12_odds_47 ?_
    refine k_I (pc := 48) (fun r5 => r5.1) (fun r5 => mx XX (va_up YY 225 r5.2)) (fun r5 hr_ => c_V (n := 2) ok cls12 sh_225 rfl ml_Mo_414 wv_X12_draws yk_X12_draws rfl (Nat.le_of_ble_eq_true rfl) (Nat.le_of_ble_eq_true rfl) (tMo_draws hr_) rfl (Nat.le_of_ble_eq_true rfl) dX12_odds_48) (fun r5 => ?_)
    refine r_pop (pc := 51) ok dX12_odds_51 rfl ?_
    refine r_iload (pc := 52) ok dX12_odds_52 rfl ?_
    refine r_aload_n (pc := 54) ok dX12_odds_54 rfl ?_
    refine r_getR (pc := 55) ok cls12 sh_225 (k := 6) rfl (Nat.le_of_ble_eq_true rfl) rfl dX12_odds_55 fl_Mo_33 ?_
    refine r_bipush (pc := 58) ok (73 : Int32) dX12_odds_58 cb_73 ?_
    refine r_iload_n (pc := 60) ok dX12_odds_60 rfl ?_
    refine r_iadd (pc := 61) ok dX12_odds_61 ?_
    refine r_iald (pc := 62) ok sh_227 (j := 2) rfl (mx_r (by decide) (va_up_self _ _ _)) dX12_odds_62 (fun i6 => ?_)
    refine r_iconst (pc := 63) ok (2 : Int32) dX12_odds_63 ci_2 ?_
    refine r_icmp_ne (pc := 64) ok 71 dX12_odds_64 rfl (fun _ => ?_) (fun _ => ?_)
    · refine r_iconst (pc := 67) ok (1 : Int32) dX12_odds_67 ci_1 ?_
      refine r_goto (pc := 68) ok 72 dX12_odds_68 rfl ?_
      refine r_lv (lk_s (lk_s (lk_s (lk_s (lk_n (lk_s lk_0 _) _) _) _) _) _) ?_
      exact wMo_odds_J72 ok (K := K) hc hx
    · refine r_iconst (pc := 71) ok (0 : Int32) dX12_odds_71 ci_0 ?_
      refine r_lv (lk_s (lk_s (lk_s (lk_s (lk_n (lk_s lk_0 _) _) _) _) _) _) ?_
      exact wMo_odds_J72 ok (K := K) hc hx
theorem vMo_odds {Z : Cx} {G : Gx} {b : Nat} {XX YY : Nat → Obj} {m : Obj} {v1 : Int32} {v2 : Int32} {v3 : Int32} (ok : OK Z G b cX12_odds 6 6 RX12 (some .int)) : VO Z G b 6 (fun (r : Int32 × Obj) => QX Z b (qI G b r.1 (mx XX (va_up YY 225 r.2)))) (mx XX (va_up YY 225 m)) 0 [some (.ref (b + 225)), some (.int v1), some (.int v2), some (.int v3), none, none] [] ((fMo_odds m v1 v2 v3).bind some) := by
  unfold fMo_odds
  refine r_aload_n (pc := 0) ok dX12_odds_0 rfl ?_
  refine r_iconst (pc := 1) ok (0 : Int32) dX12_odds_1 ci_0 ?_
  refine r_putI (pc := 2) ok cls12 sh_225 (k := 0) rfl (Nat.le_of_ble_eq_true rfl) (fun s_ => mx XX (va_up YY 225 s_)) (pm_r _ _).1 (pm_r _ _).2 rfl rfl rfl dX12_odds_2 fl_Mo_1 (fun s1 => ?_)
  refine r_aload_n (pc := 5) ok dX12_odds_5 rfl ?_
  refine r_iload_n (pc := 6) ok dX12_odds_6 rfl ?_
  refine k_I (pc := 7) (fun r2 => r2) (fun r2 => mx XX (va_up YY 225 s1)) (fun r2 hr_ => c_V (n := 1) ok cls12 sh_225 rfl ml_Mo_290 wv_X12_isPerson yk_X12_isPerson rfl (Nat.le_of_ble_eq_true rfl) (Nat.le_of_ble_eq_true rfl) (tMo_isPerson (va_up_self _ _ _) hr_) rfl (Nat.le_of_ble_eq_true rfl) dX12_odds_7) (fun r2 => ?_)
  refine r_if_eq (pc := 10) ok 23 dX12_odds_10 rfl (fun _ => ?_) (fun _ => ?_)
  · refine r_iconst (pc := 23) ok (-1 : Int32) dX12_odds_23 ci_m1 ?_
    exact r_iret (pc := 24) ok dX12_odds_24 rfl
  · refine r_iload_n (pc := 13) ok dX12_odds_13 rfl ?_
    refine r_iconst (pc := 14) ok (1 : Int32) dX12_odds_14 ci_1 ?_
    refine r_bipush (pc := 15) ok (30 : Int32) dX12_odds_15 cb_30 ?_
    refine k_I (pc := 17) (fun r3 => r3) (fun r3 => mx XX (va_up YY 225 s1)) (fun r3 hr_ => c_S (n := 3) ok ml_Mo_193 ws_X12_isIn yk_X12_isIn rfl (Nat.le_of_ble_eq_true rfl) (Nat.le_of_ble_eq_true rfl) (tMo_isIn hr_) rfl (Nat.le_of_ble_eq_true rfl) dX12_odds_17) (fun r3 => ?_)
    refine r_if_ne (pc := 20) ok 25 dX12_odds_20 rfl (fun _ => ?_) (fun _ => ?_)
    · refine r_iconst (pc := 23) ok (-1 : Int32) dX12_odds_23 ci_m1 ?_
      exact r_iret (pc := 24) ok dX12_odds_24 rfl
    · refine r_aload_n (pc := 25) ok dX12_odds_25 rfl ?_
      refine k_V (pc := 26)  (fun r4 => mx XX (va_up YY 225 r4)) (fun r4 hr_ => c_V (n := 0) ok cls12 sh_225 rfl ml_Mo_379 wv_X12_tries yk_X12_tries rfl (Nat.le_of_ble_eq_true rfl) (Nat.le_of_ble_eq_true rfl) (tMo_tries hr_) rfl (Nat.le_of_ble_eq_true rfl) dX12_odds_26) (fun r4 => ?_)
      refine r_iconst (pc := 29) ok (0 : Int32) dX12_odds_29 ci_0 ?_
      refine r_istore (pc := 30) ok dX12_odds_30 (Nat.le_of_ble_eq_true rfl) rfl ?_
      refine r_iconst (pc := 32) ok (0 : Int32) dX12_odds_32 ci_0 ?_
      refine r_istore (pc := 33) ok dX12_odds_33 (Nat.le_of_ble_eq_true rfl) rfl ?_
      refine r_iter (P := fun (a35 : Int32 × Int32 × Obj) o => VO Z G b 6 (fun (r : Int32 × Obj) => QX Z b (qI G b r.1 (mx XX (va_up YY 225 r.2)))) (mx XX (va_up YY 225 a35.2.2)) 35 [some (.ref (b + 225)), some (.int v1), some (.int v2), some (.int v3), some (.int a35.1), some (.int a35.2.1)] [] o) (E := fun (e_35 : Int32 × Obj) o => VO Z G b 6 (fun (r : Int32 × Obj) => QX Z b (qI G b r.1 (mx XX (va_up YY 225 r.2)))) (mx XX (va_up YY 225 e_35.2)) 85 [none, none, none, none, some (.int e_35.1), none] [] o) (fun _ => r_none) (fun K hc hx => wMo_odds_L35 ok (K := K) hc hx) (fun e9 => ?_) FU ((0 : Int32), (0 : Int32), r4)
      refine r_iload (pc := 85) ok dX12_odds_85 rfl ?_
      exact r_iret (pc := 87) ok dX12_odds_87 rfl
theorem tMo_odds {l : Launch} {G : Gx} {b : Nat} {XX YY : Nat → Obj} {m : Obj} {v1 : Int32} {v2 : Int32} {v3 : Int32} {r : Int32 × Obj} (hr : fMo_odds m v1 v2 v3 = some r) : MetG l G b yX12_odds cX12_odds 6 (some .int) 6 [.ref (b + 225), .int v1, .int v2, .int v3] (mx XX (va_up YY 225 m)) (qI G b r.1 (mx XX (va_up YY 225 r.2))) := by
  refine met_start [some (.ref (b + 225)), some (.int v1), some (.int v2), some (.int v3), none, none] (by decide +kernel) (Nat.le_of_ble_eq_true rfl) rfl (fun Z hl ok => ?_)
  clear hl
  exact vMo_odds ok r (by rw [hr]; rfl)
theorem wMo_bookLine_J289 {Z : Cx} {G : Gx} {b : Nat} {XX YY : Nat → Obj} {m : Obj} {v1 : Int32} {k0 : Int32} (ok : OK Z G b cX12_bookLine 6 3 RX12 (some .boolean)) : VO Z G b 6 (fun (r : Int32 × Obj) => QX Z b (qI G b r.1 (mx XX (va_up YY 225 r.2)))) (mx XX (va_up YY 225 m)) 289 [some (.ref (b + 225)), some (.int v1), none, none, none, none] [.int k0] ((fMo_bookLine_J289 m v1 k0).bind some) := by
  unfold fMo_bookLine_J289
  refine r_istore (pc := 289) ok dX12_bookLine_289 (Nat.le_of_ble_eq_true rfl) rfl ?_
  refine r_aload_n (pc := 291) ok dX12_bookLine_291 rfl ?_
  refine r_getR (pc := 292) ok cls12 sh_225 (k := 8) rfl (Nat.le_of_ble_eq_true rfl) rfl dX12_bookLine_292 fl_Mo_40 ?_
  refine r_iload_n (pc := 295) ok dX12_bookLine_295 rfl ?_
  refine r_iconst (pc := 296) ok (2 : Int32) dX12_bookLine_296 ci_2 ?_
  refine r_iadd (pc := 297) ok dX12_bookLine_297 ?_
  refine r_aload_n (pc := 298) ok dX12_bookLine_298 rfl ?_
  refine r_getI (pc := 299) ok cls12 sh_225 (k := 18) rfl (Nat.le_of_ble_eq_true rfl) (mx_r (by decide) (va_up_self _ _ _)) dX12_bookLine_299 fl_Mo_197 ?_
  refine r_iast (pc := 302) ok sh_229 (j := 4) rfl rfl (fun s_ => mx XX (va_up YY 225 s_)) (pm_r _ _).1 (pm_r _ _).2 dX12_bookLine_302 (fun i23 s24 => ?_)
  refine r_iload (pc := 303) ok dX12_bookLine_303 rfl ?_
  exact r_zret (pc := 305) ok dX12_bookLine_305 rfl rfl
theorem wMo_bookLine_J168 {Z : Cx} {G : Gx} {b : Nat} {XX YY : Nat → Obj} {m : Obj} {v1 : Int32} {v3 : Int32} {k0 : Int32} (ok : OK Z G b cX12_bookLine 6 3 RX12 (some .boolean)) : VO Z G b 6 (fun (r : Int32 × Obj) => QX Z b (qI G b r.1 (mx XX (va_up YY 225 r.2)))) (mx XX (va_up YY 225 m)) 168 [some (.ref (b + 225)), some (.int v1), none, some (.int v3), none, none] [.int k0] ((fMo_bookLine_J168 m v1 v3 k0).bind some) := by
  unfold fMo_bookLine_J168
  refine r_istore (pc := 168) ok dX12_bookLine_168 (Nat.le_of_ble_eq_true rfl) rfl ?_
  refine r_iload (pc := 170) ok dX12_bookLine_170 rfl ?_
  refine r_if_ge (pc := 172) ok 181 dX12_bookLine_172 rfl (fun _ => ?_) (fun _ => ?_)
  · refine r_aload_n (pc := 181) ok dX12_bookLine_181 rfl ?_
    refine k_V (pc := 182)  (fun r12 => mx XX (va_up YY 225 r12)) (fun r12 hr_ => c_V (n := 0) ok cls12 sh_225 rfl ml_Mo_190 wv_X12_next yk_X12_next rfl (Nat.le_of_ble_eq_true rfl) (Nat.le_of_ble_eq_true rfl) (tMo_next hr_) rfl (Nat.le_of_ble_eq_true rfl) dX12_bookLine_182) (fun r12 => ?_)
    refine r_aload_n (pc := 185) ok dX12_bookLine_185 rfl ?_
    refine r_getR (pc := 186) ok cls12 sh_225 (k := 8) rfl (Nat.le_of_ble_eq_true rfl) rfl dX12_bookLine_186 fl_Mo_40 ?_
    refine r_iload_n (pc := 189) ok dX12_bookLine_189 rfl ?_
    refine r_iload (pc := 190) ok dX12_bookLine_190 rfl ?_
    refine r_iast (pc := 192) ok sh_229 (j := 4) rfl rfl (fun s_ => mx XX (va_up YY 225 s_)) (pm_r _ _).1 (pm_r _ _).2 dX12_bookLine_192 (fun i13 s14 => ?_)
    refine r_aload_n (pc := 193) ok dX12_bookLine_193 rfl ?_
    refine r_getR (pc := 194) ok cls12 sh_225 (k := 8) rfl (Nat.le_of_ble_eq_true rfl) rfl dX12_bookLine_194 fl_Mo_40 ?_
    refine r_iload_n (pc := 197) ok dX12_bookLine_197 rfl ?_
    refine r_iconst (pc := 198) ok (1 : Int32) dX12_bookLine_198 ci_1 ?_
    refine r_iadd (pc := 199) ok dX12_bookLine_199 ?_
    refine r_iload_n (pc := 200) ok dX12_bookLine_200 rfl ?_
    refine r_iast (pc := 201) ok sh_229 (j := 4) rfl rfl (fun s_ => mx XX (va_up YY 225 s_)) (pm_r _ _).1 (pm_r _ _).2 dX12_bookLine_201 (fun i15 s16 => ?_)
    refine r_iload (pc := 202) ok dX12_bookLine_202 rfl ?_
    refine r_iconst (pc := 204) ok (2 : Int32) dX12_bookLine_204 ci_2 ?_
    refine r_icmp_ne (pc := 205) ok 210 dX12_bookLine_205 rfl (fun _ => ?_) (fun _ => ?_)
    · refine r_iconst (pc := 208) ok (1 : Int32) dX12_bookLine_208 ci_1 ?_
      exact r_zret (pc := 209) ok dX12_bookLine_209 za_1 rfl
    · refine r_iload (pc := 210) ok dX12_bookLine_210 rfl ?_
      refine r_iconst (pc := 212) ok (3 : Int32) dX12_bookLine_212 ci_3 ?_
      refine r_icmp_ne (pc := 213) ok 265 dX12_bookLine_213 rfl (fun _ => ?_) (fun _ => ?_)
      · refine r_aload_n (pc := 216) ok dX12_bookLine_216 rfl ?_
        refine r_bipush (pc := 217) ok (6 : Int32) dX12_bookLine_217 cb_6 ?_
        refine r_aload_n (pc := 219) ok dX12_bookLine_219 rfl ?_
        refine r_getR (pc := 220) ok cls12 sh_225 (k := 6) rfl (Nat.le_of_ble_eq_true rfl) rfl dX12_bookLine_220 fl_Mo_33 ?_
        refine r_iconst (pc := 223) ok (1 : Int32) dX12_bookLine_223 ci_1 ?_
        refine r_ialdc (pc := 224) ok sh_227 (j := 2) rfl (i := 1) (by decide +kernel) (mx_r (by decide) (va_up_self _ _ _)) dX12_bookLine_224 ?_
        refine k_I (pc := 225) (fun r17 => r17.1) (fun r17 => mx XX (va_up YY 225 r17.2)) (fun r17 hr_ => c_V (n := 2) ok cls12 sh_225 rfl ml_Mo_212 wv_X12_looksAt yk_X12_looksAt rfl (Nat.le_of_ble_eq_true rfl) (Nat.le_of_ble_eq_true rfl) (tMo_looksAt hr_) rfl (Nat.le_of_ble_eq_true rfl) dX12_bookLine_225) (fun r17 => ?_)
        refine r_if_ne (pc := 228) ok 233 dX12_bookLine_228 rfl (fun _ => ?_) (fun _ => ?_)
        · refine r_iconst (pc := 231) ok (0 : Int32) dX12_bookLine_231 ci_0 ?_
          exact r_zret (pc := 232) ok dX12_bookLine_232 za_0 rfl
        · refine r_aload_n (pc := 233) ok dX12_bookLine_233 rfl ?_
          refine r_getI (pc := 234) ok cls12 sh_225 (k := 18) rfl (Nat.le_of_ble_eq_true rfl) (mx_r (by decide) (va_up_self _ _ _)) dX12_bookLine_234 fl_Mo_197 ?_
          refine r_iload_n (pc := 237) ok dX12_bookLine_237 rfl ?_
          refine r_icmp_ne (pc := 238) ok 247 dX12_bookLine_238 rfl (fun _ => ?_) (fun _ => ?_)
          · refine r_aload_n (pc := 241) ok dX12_bookLine_241 rfl ?_
            refine r_iconst (pc := 242) ok (3 : Int32) dX12_bookLine_242 ci_3 ?_
            refine k_I (pc := 243) (fun r18 => r18.1) (fun r18 => mx XX (va_up YY 225 r18.2)) (fun r18 hr_ => c_V (n := 1) ok cls12 sh_225 rfl ml_Mo_187 wv_X12_bad yk_X12_bad rfl (Nat.le_of_ble_eq_true rfl) (Nat.le_of_ble_eq_true rfl) (tMo_bad hr_) rfl (Nat.le_of_ble_eq_true rfl) dX12_bookLine_243) (fun r18 => ?_)
            exact r_zret (pc := 246) ok dX12_bookLine_246 rfl rfl
          · refine r_aload_n (pc := 247) ok dX12_bookLine_247 rfl ?_
            refine r_getR (pc := 248) ok cls12 sh_225 (k := 8) rfl (Nat.le_of_ble_eq_true rfl) rfl dX12_bookLine_248 fl_Mo_40 ?_
            refine r_iload_n (pc := 251) ok dX12_bookLine_251 rfl ?_
            refine r_iconst (pc := 252) ok (2 : Int32) dX12_bookLine_252 ci_2 ?_
            refine r_iadd (pc := 253) ok dX12_bookLine_253 ?_
            refine r_aload_n (pc := 254) ok dX12_bookLine_254 rfl ?_
            refine r_getI (pc := 255) ok cls12 sh_225 (k := 18) rfl (Nat.le_of_ble_eq_true rfl) (mx_r (by decide) (va_up_self _ _ _)) dX12_bookLine_255 fl_Mo_197 ?_
            refine r_iast (pc := 258) ok sh_229 (j := 4) rfl rfl (fun s_ => mx XX (va_up YY 225 s_)) (pm_r _ _).1 (pm_r _ _).2 dX12_bookLine_258 (fun i19 s20 => ?_)
            refine r_aload_n (pc := 259) ok dX12_bookLine_259 rfl ?_
            refine k_V (pc := 260)  (fun r21 => mx XX (va_up YY 225 r21)) (fun r21 hr_ => c_V (n := 0) ok cls12 sh_225 rfl ml_Mo_190 wv_X12_next yk_X12_next rfl (Nat.le_of_ble_eq_true rfl) (Nat.le_of_ble_eq_true rfl) (tMo_next hr_) rfl (Nat.le_of_ble_eq_true rfl) dX12_bookLine_260) (fun r21 => ?_)
            refine r_iconst (pc := 263) ok (1 : Int32) dX12_bookLine_263 ci_1 ?_
            exact r_zret (pc := 264) ok dX12_bookLine_264 za_1 rfl
      · refine r_iload (pc := 265) ok dX12_bookLine_265 rfl ?_
        refine r_iconst (pc := 267) ok (1 : Int32) dX12_bookLine_267 ci_1 ?_
        refine r_icmp_ne (pc := 268) ok 278 dX12_bookLine_268 rfl (fun _ => ?_) (fun _ => ?_)
        · refine r_aload_n (pc := 271) ok dX12_bookLine_271 rfl ?_
          refine k_I (pc := 272) (fun r22 => r22.1) (fun r22 => mx XX (va_up YY 225 r22.2)) (fun r22 hr_ => c_V (n := 0) ok cls12 sh_225 rfl ml_Mo_252 wv_X12_takesWay yk_X12_takesWay rfl (Nat.le_of_ble_eq_true rfl) (Nat.le_of_ble_eq_true rfl) (tMo_takesWay hr_) rfl (Nat.le_of_ble_eq_true rfl) dX12_bookLine_272) (fun r22 => ?_)
          refine r_goto (pc := 275) ok 289 dX12_bookLine_275 rfl ?_
          refine r_lv (lk_s (lk_s (lk_n (lk_n (lk_n (lk_n lk_0 _) _) _) _) _) _) ?_
          exact wMo_bookLine_J289 ok
        · refine r_aload_n (pc := 278) ok dX12_bookLine_278 rfl ?_
          refine r_iconst (pc := 279) ok (0 : Int32) dX12_bookLine_279 ci_0 ?_
          refine r_aload_n (pc := 280) ok dX12_bookLine_280 rfl ?_
          refine r_getR (pc := 281) ok cls12 sh_225 (k := 6) rfl (Nat.le_of_ble_eq_true rfl) rfl dX12_bookLine_281 fl_Mo_33 ?_
          refine r_iconst (pc := 284) ok (0 : Int32) dX12_bookLine_284 ci_0 ?_
          refine r_ialdc (pc := 285) ok sh_227 (j := 2) rfl (i := 0) (by decide +kernel) (mx_r (by decide) (va_up_self _ _ _)) dX12_bookLine_285 ?_
          refine k_I (pc := 286) (fun r25 => r25.1) (fun r25 => mx XX (va_up YY 225 r25.2)) (fun r25 hr_ => c_V (n := 2) ok cls12 sh_225 rfl ml_Mo_249 wv_X12_takesName yk_X12_takesName rfl (Nat.le_of_ble_eq_true rfl) (Nat.le_of_ble_eq_true rfl) (tMo_takesName hr_) rfl (Nat.le_of_ble_eq_true rfl) dX12_bookLine_286) (fun r25 => ?_)
          refine r_lv (lk_s (lk_s (lk_n (lk_n (lk_n (lk_n lk_0 _) _) _) _) _) _) ?_
          exact wMo_bookLine_J289 ok
  · refine r_aload_n (pc := 175) ok dX12_bookLine_175 rfl ?_
    refine r_iconst (pc := 176) ok (1 : Int32) dX12_bookLine_176 ci_1 ?_
    refine k_I (pc := 177) (fun r26 => r26.1) (fun r26 => mx XX (va_up YY 225 r26.2)) (fun r26 hr_ => c_V (n := 1) ok cls12 sh_225 rfl ml_Mo_187 wv_X12_bad yk_X12_bad rfl (Nat.le_of_ble_eq_true rfl) (Nat.le_of_ble_eq_true rfl) (tMo_bad hr_) rfl (Nat.le_of_ble_eq_true rfl) dX12_bookLine_177) (fun r26 => ?_)
    exact r_zret (pc := 180) ok dX12_bookLine_180 rfl rfl
theorem wMo_bookLine_J36 {Z : Cx} {G : Gx} {b : Nat} {XX YY : Nat → Obj} {m : Obj} {v1 : Int32} {v2 : Int32} (ok : OK Z G b cX12_bookLine 6 3 RX12 (some .boolean)) : VO Z G b 6 (fun (r : Int32 × Obj) => QX Z b (qI G b r.1 (mx XX (va_up YY 225 r.2)))) (mx XX (va_up YY 225 m)) 36 [some (.ref (b + 225)), some (.int v1), some (.int v2), none, none, none] [] ((fMo_bookLine_J36 m v1 v2).bind some) := by
  unfold fMo_bookLine_J36
  refine r_aload_n (pc := 36) ok dX12_bookLine_36 rfl ?_
  refine r_getI (pc := 37) ok cls12 sh_225 (k := 35) rfl (Nat.le_of_ble_eq_true rfl) (mx_r (by decide) (va_up_self _ _ _)) dX12_bookLine_37 fl_Mo_417 ?_
  refine r_bipush (pc := 40) ok (40 : Int32) dX12_bookLine_40 cb_40 ?_
  refine r_icmp_ne (pc := 42) ok 51 dX12_bookLine_42 rfl (fun _ => ?_) (fun _ => ?_)
  · refine r_aload_n (pc := 45) ok dX12_bookLine_45 rfl ?_
    refine r_iconst (pc := 46) ok (4 : Int32) dX12_bookLine_46 ci_4 ?_
    refine k_I (pc := 47) (fun r4 => r4.1) (fun r4 => mx XX (va_up YY 225 r4.2)) (fun r4 hr_ => c_V (n := 1) ok cls12 sh_225 rfl ml_Mo_187 wv_X12_bad yk_X12_bad rfl (Nat.le_of_ble_eq_true rfl) (Nat.le_of_ble_eq_true rfl) (tMo_bad hr_) rfl (Nat.le_of_ble_eq_true rfl) dX12_bookLine_47) (fun r4 => ?_)
    exact r_zret (pc := 50) ok dX12_bookLine_50 rfl rfl
  · refine r_aload_n (pc := 51) ok dX12_bookLine_51 rfl ?_
    refine r_getI (pc := 52) ok cls12 sh_225 (k := 18) rfl (Nat.le_of_ble_eq_true rfl) (mx_r (by decide) (va_up_self _ _ _)) dX12_bookLine_52 fl_Mo_197 ?_
    refine r_bndI (fun x5 => ?_)
    refine r_istore_n (pc := 55) ok dX12_bookLine_55 (Nat.le_of_ble_eq_true rfl) rfl ?_
    refine r_aload_n (pc := 56) ok dX12_bookLine_56 rfl ?_
    refine k_V (pc := 57)  (fun r6 => mx XX (va_up YY 225 r6)) (fun r6 hr_ => c_V (n := 0) ok cls12 sh_225 rfl ml_Mo_190 wv_X12_next yk_X12_next rfl (Nat.le_of_ble_eq_true rfl) (Nat.le_of_ble_eq_true rfl) (tMo_next hr_) rfl (Nat.le_of_ble_eq_true rfl) dX12_bookLine_57) (fun r6 => ?_)
    refine r_iload_n (pc := 60) ok dX12_bookLine_60 rfl ?_
    refine r_if_eq (pc := 61) ok 97 dX12_bookLine_61 rfl (fun _ => ?_) (fun _ => ?_)
    · refine r_aload_n (pc := 97) ok dX12_bookLine_97 rfl ?_
      refine r_ldc2 (pc := 98) ok (118122059361139 : Int64) dX12_bookLine_98 cl2_Mo_116 ?_
      refine k_I (pc := 101) (fun r7 => r7) (fun r7 => mx XX (va_up YY 225 r6)) (fun r7 hr_ => c_V (n := 1) ok cls12 sh_225 rfl ml_Mo_221 wv_X12_isWord yk_X12_isWord rfl (Nat.le_of_ble_eq_true rfl) (Nat.le_of_ble_eq_true rfl) (tMo_isWord (va_up_self _ _ _) hr_) rfl (Nat.le_of_ble_eq_true rfl) dX12_bookLine_101) (fun r7 => ?_)
      refine r_if_eq (pc := 104) ok 111 dX12_bookLine_104 rfl (fun _ => ?_) (fun _ => ?_)
      · refine r_aload_n (pc := 111) ok dX12_bookLine_111 rfl ?_
        refine r_ldc2 (pc := 112) ok (1735353715 : Int64) dX12_bookLine_112 cl2_Mo_118 ?_
        refine k_I (pc := 115) (fun r8 => r8) (fun r8 => mx XX (va_up YY 225 r6)) (fun r8 hr_ => c_V (n := 1) ok cls12 sh_225 rfl ml_Mo_221 wv_X12_isWord yk_X12_isWord rfl (Nat.le_of_ble_eq_true rfl) (Nat.le_of_ble_eq_true rfl) (tMo_isWord (va_up_self _ _ _) hr_) rfl (Nat.le_of_ble_eq_true rfl) dX12_bookLine_115) (fun r8 => ?_)
        refine r_if_eq (pc := 118) ok 125 dX12_bookLine_118 rfl (fun _ => ?_) (fun _ => ?_)
        · refine r_aload_n (pc := 125) ok dX12_bookLine_125 rfl ?_
          refine r_ldc2 (pc := 126) ok (487301149811 : Int64) dX12_bookLine_126 cl2_Mo_120 ?_
          refine k_I (pc := 129) (fun r9 => r9) (fun r9 => mx XX (va_up YY 225 r6)) (fun r9 hr_ => c_V (n := 1) ok cls12 sh_225 rfl ml_Mo_221 wv_X12_isWord yk_X12_isWord rfl (Nat.le_of_ble_eq_true rfl) (Nat.le_of_ble_eq_true rfl) (tMo_isWord (va_up_self _ _ _) hr_) rfl (Nat.le_of_ble_eq_true rfl) dX12_bookLine_129) (fun r9 => ?_)
          refine r_if_eq (pc := 132) ok 139 dX12_bookLine_132 rfl (fun _ => ?_) (fun _ => ?_)
          · refine r_aload_n (pc := 139) ok dX12_bookLine_139 rfl ?_
            refine r_ldc2 (pc := 140) ok (469852583027 : Int64) dX12_bookLine_140 cl2_Mo_122 ?_
            refine k_I (pc := 143) (fun r10 => r10) (fun r10 => mx XX (va_up YY 225 r6)) (fun r10 hr_ => c_V (n := 1) ok cls12 sh_225 rfl ml_Mo_221 wv_X12_isWord yk_X12_isWord rfl (Nat.le_of_ble_eq_true rfl) (Nat.le_of_ble_eq_true rfl) (tMo_isWord (va_up_self _ _ _) hr_) rfl (Nat.le_of_ble_eq_true rfl) dX12_bookLine_143) (fun r10 => ?_)
            refine r_if_eq (pc := 146) ok 153 dX12_bookLine_146 rfl (fun _ => ?_) (fun _ => ?_)
            · refine r_aload_n (pc := 153) ok dX12_bookLine_153 rfl ?_
              refine r_ldc2 (pc := 154) ok (426836257907 : Int64) dX12_bookLine_154 cl2_Mo_100 ?_
              refine k_I (pc := 157) (fun r11 => r11) (fun r11 => mx XX (va_up YY 225 r6)) (fun r11 hr_ => c_V (n := 1) ok cls12 sh_225 rfl ml_Mo_221 wv_X12_isWord yk_X12_isWord rfl (Nat.le_of_ble_eq_true rfl) (Nat.le_of_ble_eq_true rfl) (tMo_isWord (va_up_self _ _ _) hr_) rfl (Nat.le_of_ble_eq_true rfl) dX12_bookLine_157) (fun r11 => ?_)
              refine r_if_eq (pc := 160) ok 167 dX12_bookLine_160 rfl (fun _ => ?_) (fun _ => ?_)
              · refine r_iconst (pc := 167) ok (-1 : Int32) dX12_bookLine_167 ci_m1 ?_
                refine r_lv (lk_s (lk_s (lk_n (lk_s (lk_n (lk_n lk_0 _) _) _) _) _) _) ?_
                exact wMo_bookLine_J168 ok
              · refine r_iconst (pc := 163) ok (4 : Int32) dX12_bookLine_163 ci_4 ?_
                refine r_goto (pc := 164) ok 168 dX12_bookLine_164 rfl ?_
                refine r_lv (lk_s (lk_s (lk_n (lk_s (lk_n (lk_n lk_0 _) _) _) _) _) _) ?_
                exact wMo_bookLine_J168 ok
            · refine r_iconst (pc := 149) ok (3 : Int32) dX12_bookLine_149 ci_3 ?_
              refine r_goto (pc := 150) ok 168 dX12_bookLine_150 rfl ?_
              refine r_lv (lk_s (lk_s (lk_n (lk_s (lk_n (lk_n lk_0 _) _) _) _) _) _) ?_
              exact wMo_bookLine_J168 ok
          · refine r_iconst (pc := 135) ok (2 : Int32) dX12_bookLine_135 ci_2 ?_
            refine r_goto (pc := 136) ok 168 dX12_bookLine_136 rfl ?_
            refine r_lv (lk_s (lk_s (lk_n (lk_s (lk_n (lk_n lk_0 _) _) _) _) _) _) ?_
            exact wMo_bookLine_J168 ok
        · refine r_iconst (pc := 121) ok (1 : Int32) dX12_bookLine_121 ci_1 ?_
          refine r_goto (pc := 122) ok 168 dX12_bookLine_122 rfl ?_
          refine r_lv (lk_s (lk_s (lk_n (lk_s (lk_n (lk_n lk_0 _) _) _) _) _) _) ?_
          exact wMo_bookLine_J168 ok
      · refine r_iconst (pc := 107) ok (0 : Int32) dX12_bookLine_107 ci_0 ?_
        refine r_goto (pc := 108) ok 168 dX12_bookLine_108 rfl ?_
        refine r_lv (lk_s (lk_s (lk_n (lk_s (lk_n (lk_n lk_0 _) _) _) _) _) _) ?_
        exact wMo_bookLine_J168 ok
    · refine r_aload_n (pc := 64) ok dX12_bookLine_64 rfl ?_
      refine r_getR (pc := 65) ok cls12 sh_225 (k := 8) rfl (Nat.le_of_ble_eq_true rfl) rfl dX12_bookLine_65 fl_Mo_40 ?_
      refine r_iload_n (pc := 68) ok dX12_bookLine_68 rfl ?_
      refine r_iconst (pc := 69) ok (5 : Int32) dX12_bookLine_69 ci_5 ?_
      refine r_iast (pc := 70) ok sh_229 (j := 4) rfl rfl (fun s_ => mx XX (va_up YY 225 s_)) (pm_r _ _).1 (pm_r _ _).2 dX12_bookLine_70 (fun i27 s28 => ?_)
      refine r_aload_n (pc := 71) ok dX12_bookLine_71 rfl ?_
      refine r_iconst (pc := 72) ok (1 : Int32) dX12_bookLine_72 ci_1 ?_
      refine r_bipush (pc := 73) ok (60 : Int32) dX12_bookLine_73 cb_60 ?_
      refine k_I (pc := 75) (fun r29 => r29.1) (fun r29 => mx XX (va_up YY 225 r29.2)) (fun r29 hr_ => c_V (n := 2) ok cls12 sh_225 rfl ml_Mo_200 wv_X12_takes yk_X12_takes rfl (Nat.le_of_ble_eq_true rfl) (Nat.le_of_ble_eq_true rfl) (tMo_takes hr_) rfl (Nat.le_of_ble_eq_true rfl) dX12_bookLine_75) (fun r29 => ?_)
      refine r_if_ne (pc := 78) ok 83 dX12_bookLine_78 rfl (fun _ => ?_) (fun _ => ?_)
      · refine r_iconst (pc := 81) ok (0 : Int32) dX12_bookLine_81 ci_0 ?_
        exact r_zret (pc := 82) ok dX12_bookLine_82 za_0 rfl
      · refine r_aload_n (pc := 83) ok dX12_bookLine_83 rfl ?_
        refine r_getR (pc := 84) ok cls12 sh_225 (k := 8) rfl (Nat.le_of_ble_eq_true rfl) rfl dX12_bookLine_84 fl_Mo_40 ?_
        refine r_iload_n (pc := 87) ok dX12_bookLine_87 rfl ?_
        refine r_iconst (pc := 88) ok (1 : Int32) dX12_bookLine_88 ci_1 ?_
        refine r_iadd (pc := 89) ok dX12_bookLine_89 ?_
        refine r_aload_n (pc := 90) ok dX12_bookLine_90 rfl ?_
        refine r_getI (pc := 91) ok cls12 sh_225 (k := 18) rfl (Nat.le_of_ble_eq_true rfl) (mx_r (by decide) (va_up_self _ _ _)) dX12_bookLine_91 fl_Mo_197 ?_
        refine r_iast (pc := 94) ok sh_229 (j := 4) rfl rfl (fun s_ => mx XX (va_up YY 225 s_)) (pm_r _ _).1 (pm_r _ _).2 dX12_bookLine_94 (fun i30 s31 => ?_)
        refine r_iconst (pc := 95) ok (1 : Int32) dX12_bookLine_95 ci_1 ?_
        exact r_zret (pc := 96) ok dX12_bookLine_96 za_1 rfl
theorem vMo_bookLine {Z : Cx} {G : Gx} {b : Nat} {XX YY : Nat → Obj} {m : Obj} (ok : OK Z G b cX12_bookLine 6 3 RX12 (some .boolean)) : VO Z G b 6 (fun (r : Int32 × Obj) => QX Z b (qI G b r.1 (mx XX (va_up YY 225 r.2)))) (mx XX (va_up YY 225 m)) 0 [some (.ref (b + 225)), none, none, none, none, none] [] ((fMo_bookLine m).bind some) := by
  unfold fMo_bookLine
  refine r_iconst (pc := 0) ok (3 : Int32) dX12_bookLine_0 ci_3 ?_
  refine r_aload_n (pc := 1) ok dX12_bookLine_1 rfl ?_
  refine r_getI (pc := 2) ok cls12 sh_225 (k := 35) rfl (Nat.le_of_ble_eq_true rfl) (mx_r (by decide) (va_up_self _ _ _)) dX12_bookLine_2 fl_Mo_417 ?_
  refine r_imul (pc := 5) ok dX12_bookLine_5 ?_
  refine r_bndI (fun x1 => ?_)
  refine r_istore_n (pc := 6) ok dX12_bookLine_6 (Nat.le_of_ble_eq_true rfl) rfl ?_
  refine r_aload_n (pc := 7) ok dX12_bookLine_7 rfl ?_
  refine r_ldc2 (pc := 8) ok (1953063787 : Int64) dX12_bookLine_8 cl2_Mo_124 ?_
  refine k_I (pc := 11) (fun r2 => r2) (fun r2 => mx XX (va_up YY 225 m)) (fun r2 hr_ => c_V (n := 1) ok cls12 sh_225 rfl ml_Mo_221 wv_X12_isWord yk_X12_isWord rfl (Nat.le_of_ble_eq_true rfl) (Nat.le_of_ble_eq_true rfl) (tMo_isWord (va_up_self _ _ _) hr_) rfl (Nat.le_of_ble_eq_true rfl) dX12_bookLine_11) (fun r2 => ?_)
  refine r_istore_n (pc := 14) ok dX12_bookLine_14 (Nat.le_of_ble_eq_true rfl) rfl ?_
  refine r_iload_n (pc := 15) ok dX12_bookLine_15 rfl ?_
  refine r_if_ne (pc := 16) ok 36 dX12_bookLine_16 rfl (fun _ => ?_) (fun _ => ?_)
  · refine r_aload_n (pc := 19) ok dX12_bookLine_19 rfl ?_
    refine r_bipush (pc := 20) ok (6 : Int32) dX12_bookLine_20 cb_6 ?_
    refine r_aload_n (pc := 22) ok dX12_bookLine_22 rfl ?_
    refine r_getR (pc := 23) ok cls12 sh_225 (k := 6) rfl (Nat.le_of_ble_eq_true rfl) rfl dX12_bookLine_23 fl_Mo_33 ?_
    refine r_iconst (pc := 26) ok (1 : Int32) dX12_bookLine_26 ci_1 ?_
    refine r_ialdc (pc := 27) ok sh_227 (j := 2) rfl (i := 1) (by decide +kernel) (mx_r (by decide) (va_up_self _ _ _)) dX12_bookLine_27 ?_
    refine k_I (pc := 28) (fun r3 => r3.1) (fun r3 => mx XX (va_up YY 225 r3.2)) (fun r3 hr_ => c_V (n := 2) ok cls12 sh_225 rfl ml_Mo_212 wv_X12_looksAt yk_X12_looksAt rfl (Nat.le_of_ble_eq_true rfl) (Nat.le_of_ble_eq_true rfl) (tMo_looksAt hr_) rfl (Nat.le_of_ble_eq_true rfl) dX12_bookLine_28) (fun r3 => ?_)
    refine r_if_ne (pc := 31) ok 36 dX12_bookLine_31 rfl (fun _ => ?_) (fun _ => ?_)
    · refine r_iconst (pc := 34) ok (0 : Int32) dX12_bookLine_34 ci_0 ?_
      exact r_zret (pc := 35) ok dX12_bookLine_35 za_0 rfl
    · exact wMo_bookLine_J36 ok
  · exact wMo_bookLine_J36 ok
theorem tMo_bookLine {l : Launch} {G : Gx} {b : Nat} {XX YY : Nat → Obj} {m : Obj} {r : Int32 × Obj} (hr : fMo_bookLine m = some r) : MetG l G b yX12_bookLine cX12_bookLine 6 (some .boolean) 3 [.ref (b + 225)] (mx XX (va_up YY 225 m)) (qI G b r.1 (mx XX (va_up YY 225 r.2))) := by
  refine met_start [some (.ref (b + 225)), none, none, none, none, none] (by decide +kernel) (Nat.le_of_ble_eq_true rfl) rfl (fun Z hl ok => ?_)
  clear hl
  exact vMo_bookLine ok r (by rw [hr]; rfl)
theorem wMo_does_J213 {Z : Cx} {G : Gx} {b : Nat} {XX YY : Nat → Obj} {m : Obj} {v1 : Int32} {v4 : Int32} (ok : OK Z G b cX12_does 5 6 RX12 (some .int)) : VO Z G b 5 (fun (r : Int32 × Obj) => QX Z b (qI G b r.1 (mx XX (va_up YY 225 r.2)))) (mx XX (va_up YY 225 m)) 213 [none, some (.int v1), none, none, some (.int v4)] [] ((fMo_does_J213 m v1 v4).bind some) := by
  unfold fMo_does_J213
  refine r_iload (pc := 213) ok dX12_does_213 rfl ?_
  refine r_if_le (pc := 215) ok 228 dX12_does_215 rfl (fun _ => ?_) (fun _ => ?_)
  · refine r_iconst (pc := 228) ok (0 : Int32) dX12_does_228 ci_0 ?_
    exact r_iret (pc := 229) ok dX12_does_229 rfl
  · refine r_iload (pc := 218) ok dX12_does_218 rfl ?_
    refine r_bipush (pc := 220) ok (10 : Int32) dX12_does_220 cb_10 ?_
    refine r_iload_n (pc := 222) ok dX12_does_222 rfl ?_
    refine r_imul (pc := 223) ok dX12_does_223 ?_
    refine r_iadd (pc := 224) ok dX12_does_224 ?_
    refine r_goto (pc := 225) ok 229 dX12_does_225 rfl ?_
    exact r_iret (pc := 229) ok dX12_does_229 rfl
theorem wMo_does_J107 {Z : Cx} {G : Gx} {b : Nat} {XX YY : Nat → Obj} {m : Obj} {v1 : Int32} {v2 : Int32} {k0 : Int32} (ok : OK Z G b cX12_does 5 6 RX12 (some .int)) : VO Z G b 5 (fun (r : Int32 × Obj) => QX Z b (qI G b r.1 (mx XX (va_up YY 225 r.2)))) (mx XX (va_up YY 225 m)) 107 [some (.ref (b + 225)), some (.int v1), some (.int v2), none, none] [.int k0] ((fMo_does_J107 m v1 v2 k0).bind some) := by
  unfold fMo_does_J107
  refine r_istore (pc := 107) ok dX12_does_107 (Nat.le_of_ble_eq_true rfl) rfl ?_
  refine r_iload (pc := 109) ok dX12_does_109 rfl ?_
  refine r_if_ne (pc := 111) ok 213 dX12_does_111 rfl (fun _ => ?_) (fun _ => ?_)
  · refine r_aload_n (pc := 114) ok dX12_does_114 rfl ?_
    refine r_iload_n (pc := 115) ok dX12_does_115 rfl ?_
    refine r_iconst (pc := 116) ok (0 : Int32) dX12_does_116 ci_0 ?_
    refine r_iconst (pc := 117) ok (-1 : Int32) dX12_does_117 ci_m1 ?_
    refine k_V (pc := 118)  (fun r7 => mx XX (va_up YY 225 r7)) (fun r7 hr_ => c_V (n := 3) ok cls12 sh_225 rfl ml_Mo_310 wv_X12_stands yk_X12_stands rfl (Nat.le_of_ble_eq_true rfl) (Nat.le_of_ble_eq_true rfl) (tMo_stands hr_) rfl (Nat.le_of_ble_eq_true rfl) dX12_does_118) (fun r7 => ?_)
    refine r_goto (pc := 121) ok 213 dX12_does_121 rfl ?_
    refine r_lv (lk_n (lk_s (lk_n (lk_n (lk_s lk_0 _) _) _) _) _) ?_
    exact wMo_does_J213 ok
  · refine r_lv (lk_n (lk_s (lk_n (lk_n (lk_s lk_0 _) _) _) _) _) ?_
    exact wMo_does_J213 ok
theorem wMo_does_J200 {Z : Cx} {G : Gx} {b : Nat} {XX YY : Nat → Obj} {m : Obj} {v1 : Int32} {v2 : Int32} {k0 : Int32} (ok : OK Z G b cX12_does 5 6 RX12 (some .int)) : VO Z G b 5 (fun (r : Int32 × Obj) => QX Z b (qI G b r.1 (mx XX (va_up YY 225 r.2)))) (mx XX (va_up YY 225 m)) 200 [some (.ref (b + 225)), some (.int v1), some (.int v2), none, none] [.int k0] ((fMo_does_J200 m v1 v2 k0).bind some) := by
  unfold fMo_does_J200
  refine r_istore (pc := 200) ok dX12_does_200 (Nat.le_of_ble_eq_true rfl) rfl ?_
  refine r_iload (pc := 202) ok dX12_does_202 rfl ?_
  refine r_if_ne (pc := 204) ok 213 dX12_does_204 rfl (fun _ => ?_) (fun _ => ?_)
  · refine r_aload_n (pc := 207) ok dX12_does_207 rfl ?_
    refine r_iload_n (pc := 208) ok dX12_does_208 rfl ?_
    refine k_I (pc := 209) (fun r13 => r13.1) (fun r13 => mx XX (va_up YY 225 r13.2)) (fun r13 hr_ => c_V (n := 1) ok cls12 sh_225 rfl ml_Mo_345 wv_X12_goesOn yk_X12_goesOn rfl (Nat.le_of_ble_eq_true rfl) (Nat.le_of_ble_eq_true rfl) (tMo_goesOn hr_) rfl (Nat.le_of_ble_eq_true rfl) dX12_does_209) (fun r13 => ?_)
    refine r_pop (pc := 212) ok dX12_does_212 rfl ?_
    refine r_lv (lk_n (lk_s (lk_n (lk_n (lk_s lk_0 _) _) _) _) _) ?_
    exact wMo_does_J213 ok
  · refine r_lv (lk_n (lk_s (lk_n (lk_n (lk_s lk_0 _) _) _) _) _) ?_
    exact wMo_does_J213 ok
theorem vMo_does {Z : Cx} {G : Gx} {b : Nat} {XX YY : Nat → Obj} {m : Obj} {v1 : Int32} {v2 : Int32} {v3 : Int32} (ok : OK Z G b cX12_does 5 6 RX12 (some .int)) : VO Z G b 5 (fun (r : Int32 × Obj) => QX Z b (qI G b r.1 (mx XX (va_up YY 225 r.2)))) (mx XX (va_up YY 225 m)) 0 [some (.ref (b + 225)), some (.int v1), some (.int v2), some (.int v3), none] [] ((fMo_does m v1 v2 v3).bind some) := by
  unfold fMo_does
  refine r_iconst (pc := 0) ok (0 : Int32) dX12_does_0 ci_0 ?_
  refine r_istore (pc := 1) ok dX12_does_1 (Nat.le_of_ble_eq_true rfl) rfl ?_
  refine r_iload_n (pc := 3) ok dX12_does_3 rfl ?_
  refine r_ite (fun hs0 => ?_) (fun hs0 => ?_)
  · refine r_tsw (pc := 4) ok 40 (0 : Int32) dX12_does_4 hs0 (by decide +kernel) (by decide +kernel) rfl rfl ?_
    refine r_aload_n (pc := 40) ok dX12_does_40 rfl ?_
    refine r_iload_n (pc := 41) ok dX12_does_41 rfl ?_
    refine r_iload_n (pc := 42) ok dX12_does_42 rfl ?_
    refine k_I (pc := 43) (fun r1 => r1) (fun r1 => mx XX (va_up YY 225 m)) (fun r1 hr_ => c_V (n := 2) ok cls12 sh_225 rfl ml_Mo_330 wv_X12_whyKnock yk_X12_whyKnock rfl (Nat.le_of_ble_eq_true rfl) (Nat.le_of_ble_eq_true rfl) (tMo_whyKnock (va_up_self _ _ _) hr_) rfl (Nat.le_of_ble_eq_true rfl) dX12_does_43) (fun r1 => ?_)
    refine r_istore (pc := 46) ok dX12_does_46 (Nat.le_of_ble_eq_true rfl) rfl ?_
    refine r_iload (pc := 48) ok dX12_does_48 rfl ?_
    refine r_if_ne (pc := 50) ok 213 dX12_does_50 rfl (fun _ => ?_) (fun _ => ?_)
    · refine r_aload_n (pc := 53) ok dX12_does_53 rfl ?_
      refine r_iload_n (pc := 54) ok dX12_does_54 rfl ?_
      refine r_iconst (pc := 55) ok (1 : Int32) dX12_does_55 ci_1 ?_
      refine r_iload_n (pc := 56) ok dX12_does_56 rfl ?_
      refine k_V (pc := 57)  (fun r2 => mx XX (va_up YY 225 r2)) (fun r2 hr_ => c_V (n := 3) ok cls12 sh_225 rfl ml_Mo_310 wv_X12_stands yk_X12_stands rfl (Nat.le_of_ble_eq_true rfl) (Nat.le_of_ble_eq_true rfl) (tMo_stands hr_) rfl (Nat.le_of_ble_eq_true rfl) dX12_does_57) (fun r2 => ?_)
      refine r_goto (pc := 60) ok 213 dX12_does_60 rfl ?_
      refine r_lv (lk_n (lk_s (lk_n (lk_n (lk_s lk_0 _) _) _) _) _) ?_
      exact wMo_does_J213 ok
    · refine r_lv (lk_n (lk_s (lk_n (lk_n (lk_s lk_0 _) _) _) _) _) ?_
      exact wMo_does_J213 ok
  refine r_ite (fun hs1 => ?_) (fun hs1 => ?_)
  · refine r_tsw (pc := 4) ok 63 (1 : Int32) dX12_does_4 hs1 (by decide +kernel) (by decide +kernel) rfl rfl ?_
    refine r_aload_n (pc := 63) ok dX12_does_63 rfl ?_
    refine r_iload_n (pc := 64) ok dX12_does_64 rfl ?_
    refine r_iload_n (pc := 65) ok dX12_does_65 rfl ?_
    refine k_I (pc := 66) (fun r3 => r3) (fun r3 => mx XX (va_up YY 225 m)) (fun r3 hr_ => c_V (n := 2) ok cls12 sh_225 rfl ml_Mo_336 wv_X12_whyGo yk_X12_whyGo rfl (Nat.le_of_ble_eq_true rfl) (Nat.le_of_ble_eq_true rfl) (tMo_whyGo (va_up_self _ _ _) hr_) rfl (Nat.le_of_ble_eq_true rfl) dX12_does_66) (fun r3 => ?_)
    refine r_istore (pc := 69) ok dX12_does_69 (Nat.le_of_ble_eq_true rfl) rfl ?_
    refine r_iload (pc := 71) ok dX12_does_71 rfl ?_
    refine r_if_ne (pc := 73) ok 213 dX12_does_73 rfl (fun _ => ?_) (fun _ => ?_)
    · refine r_aload_n (pc := 76) ok dX12_does_76 rfl ?_
      refine r_getR (pc := 77) ok cls12 sh_225 (k := 6) rfl (Nat.le_of_ble_eq_true rfl) rfl dX12_does_77 fl_Mo_33 ?_
      refine r_bipush (pc := 80) ok (89 : Int32) dX12_does_80 cb_89 ?_
      refine r_iload_n (pc := 82) ok dX12_does_82 rfl ?_
      refine r_iadd (pc := 83) ok dX12_does_83 ?_
      refine r_iload_n (pc := 84) ok dX12_does_84 rfl ?_
      refine r_iast (pc := 85) ok sh_227 (j := 2) rfl rfl (fun s_ => mx XX (va_up YY 225 s_)) (pm_r _ _).1 (pm_r _ _).2 dX12_does_85 (fun i4 s5 => ?_)
      refine r_goto (pc := 86) ok 213 dX12_does_86 rfl ?_
      refine r_lv (lk_n (lk_s (lk_n (lk_n (lk_s lk_0 _) _) _) _) _) ?_
      exact wMo_does_J213 ok
    · refine r_lv (lk_n (lk_s (lk_n (lk_n (lk_s lk_0 _) _) _) _) _) ?_
      exact wMo_does_J213 ok
  refine r_ite (fun hs2 => ?_) (fun hs2 => ?_)
  · refine r_tsw (pc := 4) ok 89 (2 : Int32) dX12_does_4 hs2 (by decide +kernel) (by decide +kernel) rfl rfl ?_
    refine r_aload_n (pc := 89) ok dX12_does_89 rfl ?_
    refine r_getR (pc := 90) ok cls12 sh_225 (k := 6) rfl (Nat.le_of_ble_eq_true rfl) rfl dX12_does_90 fl_Mo_33 ?_
    refine r_bipush (pc := 93) ok (73 : Int32) dX12_does_93 cb_73 ?_
    refine r_iload_n (pc := 95) ok dX12_does_95 rfl ?_
    refine r_iadd (pc := 96) ok dX12_does_96 ?_
    refine r_iald (pc := 97) ok sh_227 (j := 2) rfl (mx_r (by decide) (va_up_self _ _ _)) dX12_does_97 (fun i6 => ?_)
    refine r_iconst (pc := 98) ok (1 : Int32) dX12_does_98 ci_1 ?_
    refine r_icmp_eq (pc := 99) ok 106 dX12_does_99 rfl (fun _ => ?_) (fun _ => ?_)
    · refine r_iconst (pc := 106) ok (0 : Int32) dX12_does_106 ci_0 ?_
      refine r_lv (lk_s (lk_s (lk_s (lk_n (lk_n lk_0 _) _) _) _) _) ?_
      exact wMo_does_J107 ok
    · refine r_iconst (pc := 102) ok (1 : Int32) dX12_does_102 ci_1 ?_
      refine r_goto (pc := 103) ok 107 dX12_does_103 rfl ?_
      refine r_lv (lk_s (lk_s (lk_s (lk_n (lk_n lk_0 _) _) _) _) _) ?_
      exact wMo_does_J107 ok
  refine r_ite (fun hs3 => ?_) (fun hs3 => ?_)
  · refine r_tsw (pc := 4) ok 124 (3 : Int32) dX12_does_4 hs3 (by decide +kernel) (by decide +kernel) rfl rfl ?_
    refine r_aload_n (pc := 124) ok dX12_does_124 rfl ?_
    refine r_getR (pc := 125) ok cls12 sh_225 (k := 6) rfl (Nat.le_of_ble_eq_true rfl) rfl dX12_does_125 fl_Mo_33 ?_
    refine r_bipush (pc := 128) ok (113 : Int32) dX12_does_128 cb_113 ?_
    refine r_iload_n (pc := 130) ok dX12_does_130 rfl ?_
    refine r_iadd (pc := 131) ok dX12_does_131 ?_
    refine r_iald (pc := 132) ok sh_227 (j := 2) rfl (mx_r (by decide) (va_up_self _ _ _)) dX12_does_132 (fun i8 => ?_)
    refine r_iload_n (pc := 133) ok dX12_does_133 rfl ?_
    refine r_ishr (pc := 134) ok dX12_does_134 ?_
    refine r_iconst (pc := 135) ok (1 : Int32) dX12_does_135 ci_1 ?_
    refine r_iand (pc := 136) ok dX12_does_136 ?_
    refine r_bndI (fun x9 => ?_)
    refine r_istore (pc := 137) ok dX12_does_137 (Nat.le_of_ble_eq_true rfl) rfl ?_
    refine r_iload (pc := 139) ok dX12_does_139 rfl ?_
    refine r_if_ne (pc := 141) ok 213 dX12_does_141 rfl (fun _ => ?_) (fun _ => ?_)
    · refine r_aload_n (pc := 144) ok dX12_does_144 rfl ?_
      refine r_getR (pc := 145) ok cls12 sh_225 (k := 6) rfl (Nat.le_of_ble_eq_true rfl) rfl dX12_does_145 fl_Mo_33 ?_
      refine r_bipush (pc := 148) ok (113 : Int32) dX12_does_148 cb_113 ?_
      refine r_iload_n (pc := 150) ok dX12_does_150 rfl ?_
      refine r_iload_n (pc := 151) ok dX12_does_151 rfl ?_
      refine k_V (pc := 152)  (fun r10 => mx XX (va_up YY 225 r10)) (fun r10 hr_ => c_S (n := 4) ok ml_Mo_255 ws_X12_knowsIn yk_X12_knowsIn rfl (Nat.le_of_ble_eq_true rfl) (Nat.le_of_ble_eq_true rfl) (tMo_knowsIn_2 hr_) rfl (Nat.le_of_ble_eq_true rfl) dX12_does_152) (fun r10 => ?_)
      refine r_goto (pc := 155) ok 213 dX12_does_155 rfl ?_
      refine r_lv (lk_n (lk_s (lk_n (lk_n (lk_s lk_0 _) _) _) _) _) ?_
      exact wMo_does_J213 ok
    · refine r_lv (lk_n (lk_s (lk_n (lk_n (lk_s lk_0 _) _) _) _) _) ?_
      exact wMo_does_J213 ok
  refine r_ite (fun hs4 => ?_) (fun hs4 => ?_)
  · refine r_tsw (pc := 4) ok 158 (4 : Int32) dX12_does_4 hs4 (by decide +kernel) (by decide +kernel) rfl rfl ?_
    refine r_aload_n (pc := 158) ok dX12_does_158 rfl ?_
    refine r_iload_n (pc := 159) ok dX12_does_159 rfl ?_
    refine r_iload_n (pc := 160) ok dX12_does_160 rfl ?_
    refine k_I (pc := 161) (fun r11 => r11) (fun r11 => mx XX (va_up YY 225 m)) (fun r11 hr_ => c_V (n := 2) ok cls12 sh_225 rfl ml_Mo_339 wv_X12_whyCall yk_X12_whyCall rfl (Nat.le_of_ble_eq_true rfl) (Nat.le_of_ble_eq_true rfl) (tMo_whyCall (va_up_self _ _ _) hr_) rfl (Nat.le_of_ble_eq_true rfl) dX12_does_161) (fun r11 => ?_)
    refine r_istore (pc := 164) ok dX12_does_164 (Nat.le_of_ble_eq_true rfl) rfl ?_
    refine r_iload (pc := 166) ok dX12_does_166 rfl ?_
    refine r_if_ne (pc := 168) ok 213 dX12_does_168 rfl (fun _ => ?_) (fun _ => ?_)
    · refine r_aload_n (pc := 171) ok dX12_does_171 rfl ?_
      refine r_iload_n (pc := 172) ok dX12_does_172 rfl ?_
      refine r_iload_n (pc := 173) ok dX12_does_173 rfl ?_
      refine k_V (pc := 174)  (fun r12 => mx XX (va_up YY 225 r12)) (fun r12 hr_ => c_V (n := 2) ok cls12 sh_225 rfl ml_Mo_342 wv_X12_books yk_X12_books rfl (Nat.le_of_ble_eq_true rfl) (Nat.le_of_ble_eq_true rfl) (tMo_books hr_) rfl (Nat.le_of_ble_eq_true rfl) dX12_does_174) (fun r12 => ?_)
      refine r_goto (pc := 177) ok 213 dX12_does_177 rfl ?_
      refine r_lv (lk_n (lk_s (lk_n (lk_n (lk_s lk_0 _) _) _) _) _) ?_
      exact wMo_does_J213 ok
    · refine r_lv (lk_n (lk_s (lk_n (lk_n (lk_s lk_0 _) _) _) _) _) ?_
      exact wMo_does_J213 ok
  refine r_tswd (pc := 4) ok 180 dX12_does_4 (tsw_out5 hs0 hs1 hs2 hs3 hs4) rfl ?_
  refine r_aload_n (pc := 180) ok dX12_does_180 rfl ?_
  refine r_getR (pc := 181) ok cls12 sh_225 (k := 6) rfl (Nat.le_of_ble_eq_true rfl) rfl dX12_does_181 fl_Mo_33 ?_
  refine r_bipush (pc := 184) ok (69 : Int32) dX12_does_184 cb_69 ?_
  refine r_ialdc (pc := 186) ok sh_227 (j := 2) rfl (i := 69) (by decide +kernel) (mx_r (by decide) (va_up_self _ _ _)) dX12_does_186 ?_
  refine r_iload_n (pc := 187) ok dX12_does_187 rfl ?_
  refine r_iadd (pc := 188) ok dX12_does_188 ?_
  refine r_sipush (pc := 189) ok (1000 : Int32) dX12_does_189 cs_1000 ?_
  refine r_icmp_le (pc := 192) ok 199 dX12_does_192 rfl (fun _ => ?_) (fun _ => ?_)
  · refine r_iconst (pc := 199) ok (0 : Int32) dX12_does_199 ci_0 ?_
    refine r_lv (lk_s (lk_s (lk_s (lk_n (lk_n lk_0 _) _) _) _) _) ?_
    exact wMo_does_J200 ok
  · refine r_iconst (pc := 195) ok (1 : Int32) dX12_does_195 ci_1 ?_
    refine r_goto (pc := 196) ok 200 dX12_does_196 rfl ?_
    refine r_lv (lk_s (lk_s (lk_s (lk_n (lk_n lk_0 _) _) _) _) _) ?_
    exact wMo_does_J200 ok
theorem tMo_does {l : Launch} {G : Gx} {b : Nat} {XX YY : Nat → Obj} {m : Obj} {v1 : Int32} {v2 : Int32} {v3 : Int32} {r : Int32 × Obj} (hr : fMo_does m v1 v2 v3 = some r) : MetG l G b yX12_does cX12_does 5 (some .int) 6 [.ref (b + 225), .int v1, .int v2, .int v3] (mx XX (va_up YY 225 m)) (qI G b r.1 (mx XX (va_up YY 225 r.2))) := by
  refine met_start [some (.ref (b + 225)), some (.int v1), some (.int v2), some (.int v3), none] (by decide +kernel) (Nat.le_of_ble_eq_true rfl) rfl (fun Z hl ok => ?_)
  clear hl
  exact vMo_does ok r (by rw [hr]; rfl)
theorem wMo_book_L39 {Z : Cx} {G : Gx} {b : Nat} {XX YY : Nat → Obj} {v1 : Int32} (ok : OK Z G b cX12_book 4 7 RX12 (some .int)) {K : ((Obj) ⊕ ((Obj) ⊕ (Int32 × Obj))) → Option (Int32 × Obj)} (hc : ∀ (a : Obj), VO Z G b 4 (fun (r : Int32 × Obj) => QX Z b (qI G b r.1 (mx XX (va_up YY 225 r.2)))) (mx XX (va_up YY 225 a)) 39 [some (.ref (b + 225)), some (.int v1), none, none] [] (K (.inl a))) (hx : ∀ (z : (Obj) ⊕ (Int32 × Obj)), (∀ (e : Obj), z = .inl e → VO Z G b 4 (fun (r : Int32 × Obj) => QX Z b (qI G b r.1 (mx XX (va_up YY 225 r.2)))) (mx XX (va_up YY 225 e)) 83 [some (.ref (b + 225)), some (.int v1), none, none] [] (K (.inr z))) ∧ (∀ (r : Int32 × Obj), z = .inr r → K (.inr z) = some r)) : ∀ (a : Obj), VO Z G b 4 (fun (r : Int32 × Obj) => QX Z b (qI G b r.1 (mx XX (va_up YY 225 r.2)))) (mx XX (va_up YY 225 a)) 39 [some (.ref (b + 225)), some (.int v1), none, none] [] ((fMo_book_L39 a).bind K) := by
  intro a
  unfold fMo_book_L39
  refine r_aload_n (pc := 39) ok dX12_book_39 rfl ?_
  refine r_getI (pc := 40) ok cls12 sh_225 (k := 11) rfl (Nat.le_of_ble_eq_true rfl) (mx_r (by decide) (va_up_self _ _ _)) dX12_book_40 fl_Mo_161 ?_
  refine r_if_eq (pc := 43) ok 83 dX12_book_43 rfl (fun _ => ?_) (fun _ => ?_)
  · exact (hx (.inl a)).1 _ rfl
  · refine r_aload_n (pc := 46) ok dX12_book_46 rfl ?_
    refine k_I (pc := 47) (fun r7 => r7.1) (fun r7 => mx XX (va_up YY 225 r7.2)) (fun r7 hr_ => c_V (n := 0) ok cls12 sh_225 rfl ml_Mo_420 wv_X12_bookLine yk_X12_bookLine rfl (Nat.le_of_ble_eq_true rfl) (Nat.le_of_ble_eq_true rfl) (tMo_bookLine hr_) rfl (Nat.le_of_ble_eq_true rfl) dX12_book_47) (fun r7 => ?_)
    refine r_if_eq (pc := 50) ok 62 dX12_book_50 rfl (fun _ => ?_) (fun _ => ?_)
    · refine r_bipush (pc := 62) ok (-2 : Int32) dX12_book_62 cb_m2 ?_
      refine r_aload_n (pc := 64) ok dX12_book_64 rfl ?_
      refine r_getI (pc := 65) ok cls12 sh_225 (k := 16) rfl (Nat.le_of_ble_eq_true rfl) (mx_r (by decide) (va_up_self _ _ _)) dX12_book_65 fl_Mo_181 ?_
      refine r_isub (pc := 68) ok dX12_book_68 ?_
      refine r_eq ((hx (.inr (((-2 : Int32) - (r7.2.1 0 16)), r7.2))).2 _ rfl) ?_
      exact r_iret (pc := 69) ok dX12_book_69 rfl
    · refine r_aload_n (pc := 53) ok dX12_book_53 rfl ?_
      refine r_bipush (pc := 54) ok (59 : Int32) dX12_book_54 cb_59 ?_
      refine k_I (pc := 56) (fun r8 => r8.1) (fun r8 => mx XX (va_up YY 225 r8.2)) (fun r8 hr_ => c_V (n := 1) ok cls12 sh_225 rfl ml_Mo_268 wv_X12_sign yk_X12_sign rfl (Nat.le_of_ble_eq_true rfl) (Nat.le_of_ble_eq_true rfl) (tMo_sign hr_) rfl (Nat.le_of_ble_eq_true rfl) dX12_book_56) (fun r8 => ?_)
      refine r_if_ne (pc := 59) ok 70 dX12_book_59 rfl (fun _ => ?_) (fun _ => ?_)
      · refine r_bipush (pc := 62) ok (-2 : Int32) dX12_book_62 cb_m2 ?_
        refine r_aload_n (pc := 64) ok dX12_book_64 rfl ?_
        refine r_getI (pc := 65) ok cls12 sh_225 (k := 16) rfl (Nat.le_of_ble_eq_true rfl) (mx_r (by decide) (va_up_self _ _ _)) dX12_book_65 fl_Mo_181 ?_
        refine r_isub (pc := 68) ok dX12_book_68 ?_
        refine r_eq ((hx (.inr (((-2 : Int32) - (r8.2.1 0 16)), r8.2))).2 _ rfl) ?_
        exact r_iret (pc := 69) ok dX12_book_69 rfl
      · refine r_aload_n (pc := 70) ok dX12_book_70 rfl ?_
        refine r_dup (pc := 71) ok dX12_book_71 rfl ?_
        refine r_getI (pc := 72) ok cls12 sh_225 (k := 35) rfl (Nat.le_of_ble_eq_true rfl) (mx_r (by decide) (va_up_self _ _ _)) dX12_book_72 fl_Mo_417 ?_
        refine r_iconst (pc := 75) ok (1 : Int32) dX12_book_75 ci_1 ?_
        refine r_iadd (pc := 76) ok dX12_book_76 ?_
        refine r_putI (pc := 77) ok cls12 sh_225 (k := 35) rfl (Nat.le_of_ble_eq_true rfl) (fun s_ => mx XX (va_up YY 225 s_)) (pm_r _ _).1 (pm_r _ _).2 rfl rfl rfl dX12_book_77 fl_Mo_417 (fun s9 => ?_)
        refine r_goto (pc := 80) ok 39 dX12_book_80 rfl ?_
        exact hc s9
theorem wMo_book_L89 {Z : Cx} {G : Gx} {b : Nat} {XX YY : Nat → Obj} {v1 : Int32} (ok : OK Z G b cX12_book 4 7 RX12 (some .int)) {K : ((Int32 × Obj) ⊕ (Obj)) → Option (Int32 × Obj)} (hc : ∀ (a : Int32 × Obj), VO Z G b 4 (fun (r : Int32 × Obj) => QX Z b (qI G b r.1 (mx XX (va_up YY 225 r.2)))) (mx XX (va_up YY 225 a.2)) 89 [some (.ref (b + 225)), some (.int v1), some (.int a.1), none] [] (K (.inl a))) (hx : ∀ (e : Obj), VO Z G b 4 (fun (r : Int32 × Obj) => QX Z b (qI G b r.1 (mx XX (va_up YY 225 r.2)))) (mx XX (va_up YY 225 e)) 107 [some (.ref (b + 225)), some (.int v1), none, none] [] (K (.inr e))) : ∀ (a : Int32 × Obj), VO Z G b 4 (fun (r : Int32 × Obj) => QX Z b (qI G b r.1 (mx XX (va_up YY 225 r.2)))) (mx XX (va_up YY 225 a.2)) 89 [some (.ref (b + 225)), some (.int v1), some (.int a.1), none] [] ((fMo_book_L89 a).bind K) := by
  intro a
  unfold fMo_book_L89
  refine r_iload_n (pc := 89) ok dX12_book_89 rfl ?_
  refine r_iconst (pc := 90) ok (4 : Int32) dX12_book_90 ci_4 ?_
  refine r_icmp_ge (pc := 91) ok 107 dX12_book_91 rfl (fun _ => ?_) (fun _ => ?_)
  · refine r_lv (lk_s (lk_s (lk_n (lk_n lk_0 _) _) _) _) ?_
    exact hx a.2
  · refine r_aload_n (pc := 94) ok dX12_book_94 rfl ?_
    refine r_getR (pc := 95) ok cls12 sh_225 (k := 36) rfl (Nat.le_of_ble_eq_true rfl) rfl dX12_book_95 fl_Mo_72 ?_
    refine r_iload_n (pc := 98) ok dX12_book_98 rfl ?_
    refine r_iconst (pc := 99) ok (0 : Int32) dX12_book_99 ci_0 ?_
    refine r_iast (pc := 100) ok sh_238 (j := 13) rfl rfl (fun s_ => mx XX (va_up YY 225 s_)) (pm_r _ _).1 (pm_r _ _).2 dX12_book_100 (fun i12 s13 => ?_)
    refine r_iinc (pc := 101) ok (1 : Int32) dX12_book_101 ci_1 rfl (Nat.le_of_ble_eq_true rfl) rfl ?_
    refine r_goto (pc := 104) ok 89 dX12_book_104 rfl ?_
    exact hc ((a.1 + (1 : Int32)), s13)
theorem wMo_book_L111 {Z : Cx} {G : Gx} {b : Nat} {XX YY : Nat → Obj} {v1 : Int32} (ok : OK Z G b cX12_book 4 7 RX12 (some .int)) {K : ((Int32 × Int32 × Obj) ⊕ (Int32 × Obj)) → Option (Int32 × Obj)} (hc : ∀ (a : Int32 × Int32 × Obj), VO Z G b 4 (fun (r : Int32 × Obj) => QX Z b (qI G b r.1 (mx XX (va_up YY 225 r.2)))) (mx XX (va_up YY 225 a.2.2)) 111 [some (.ref (b + 225)), some (.int v1), some (.int a.1), some (.int a.2.1)] [] (K (.inl a))) (hx : ∀ (e : Int32 × Obj), VO Z G b 4 (fun (r : Int32 × Obj) => QX Z b (qI G b r.1 (mx XX (va_up YY 225 r.2)))) (mx XX (va_up YY 225 e.2)) 191 [some (.ref (b + 225)), some (.int v1), some (.int e.1), none] [] (K (.inr e))) : ∀ (a : Int32 × Int32 × Obj), VO Z G b 4 (fun (r : Int32 × Obj) => QX Z b (qI G b r.1 (mx XX (va_up YY 225 r.2)))) (mx XX (va_up YY 225 a.2.2)) 111 [some (.ref (b + 225)), some (.int v1), some (.int a.1), some (.int a.2.1)] [] ((fMo_book_L111 a).bind K) := by
  intro a
  unfold fMo_book_L111
  refine r_iload_n (pc := 111) ok dX12_book_111 rfl ?_
  refine r_aload_n (pc := 112) ok dX12_book_112 rfl ?_
  refine r_getI (pc := 113) ok cls12 sh_225 (k := 35) rfl (Nat.le_of_ble_eq_true rfl) (mx_r (by decide) (va_up_self _ _ _)) dX12_book_113 fl_Mo_417 ?_
  refine r_icmp_ge (pc := 116) ok 191 dX12_book_116 rfl (fun _ => ?_) (fun _ => ?_)
  · refine r_lv (lk_s (lk_s (lk_s (lk_n lk_0 _) _) _) _) ?_
    exact hx (a.1, a.2.2)
  · refine r_iload_n (pc := 119) ok dX12_book_119 rfl ?_
    refine r_if_ge (pc := 120) ok 191 dX12_book_120 rfl (fun _ => ?_) (fun _ => ?_)
    · refine r_lv (lk_s (lk_s (lk_s (lk_n lk_0 _) _) _) _) ?_
      exact hx (a.1, a.2.2)
    · refine r_aload_n (pc := 123) ok dX12_book_123 rfl ?_
      refine r_getR (pc := 124) ok cls12 sh_225 (k := 36) rfl (Nat.le_of_ble_eq_true rfl) rfl dX12_book_124 fl_Mo_72 ?_
      refine r_iconst (pc := 127) ok (0 : Int32) dX12_book_127 ci_0 ?_
      refine r_aload_n (pc := 128) ok dX12_book_128 rfl ?_
      refine r_aload_n (pc := 129) ok dX12_book_129 rfl ?_
      refine r_getR (pc := 130) ok cls12 sh_225 (k := 8) rfl (Nat.le_of_ble_eq_true rfl) rfl dX12_book_130 fl_Mo_40 ?_
      refine r_iconst (pc := 133) ok (3 : Int32) dX12_book_133 ci_3 ?_
      refine r_iload_n (pc := 134) ok dX12_book_134 rfl ?_
      refine r_imul (pc := 135) ok dX12_book_135 ?_
      refine r_iald (pc := 136) ok sh_229 (j := 4) rfl (mx_r (by decide) (va_up_self _ _ _)) dX12_book_136 (fun i15 => ?_)
      refine r_aload_n (pc := 137) ok dX12_book_137 rfl ?_
      refine r_getR (pc := 138) ok cls12 sh_225 (k := 8) rfl (Nat.le_of_ble_eq_true rfl) rfl dX12_book_138 fl_Mo_40 ?_
      refine r_iconst (pc := 141) ok (3 : Int32) dX12_book_141 ci_3 ?_
      refine r_iload_n (pc := 142) ok dX12_book_142 rfl ?_
      refine r_imul (pc := 143) ok dX12_book_143 ?_
      refine r_iconst (pc := 144) ok (1 : Int32) dX12_book_144 ci_1 ?_
      refine r_iadd (pc := 145) ok dX12_book_145 ?_
      refine r_iald (pc := 146) ok sh_229 (j := 4) rfl (mx_r (by decide) (va_up_self _ _ _)) dX12_book_146 (fun i16 => ?_)
      refine r_aload_n (pc := 147) ok dX12_book_147 rfl ?_
      refine r_getR (pc := 148) ok cls12 sh_225 (k := 8) rfl (Nat.le_of_ble_eq_true rfl) rfl dX12_book_148 fl_Mo_40 ?_
      refine r_iconst (pc := 151) ok (3 : Int32) dX12_book_151 ci_3 ?_
      refine r_iload_n (pc := 152) ok dX12_book_152 rfl ?_
      refine r_imul (pc := 153) ok dX12_book_153 ?_
      refine r_iconst (pc := 154) ok (2 : Int32) dX12_book_154 ci_2 ?_
      refine r_iadd (pc := 155) ok dX12_book_155 ?_
      refine r_iald (pc := 156) ok sh_229 (j := 4) rfl (mx_r (by decide) (va_up_self _ _ _)) dX12_book_156 (fun i17 => ?_)
      refine k_I (pc := 157) (fun r18 => r18.1) (fun r18 => mx XX (va_up YY 225 r18.2)) (fun r18 hr_ => c_V (n := 3) ok cls12 sh_225 rfl ml_Mo_423 wv_X12_does yk_X12_does rfl (Nat.le_of_ble_eq_true rfl) (Nat.le_of_ble_eq_true rfl) (tMo_does hr_) rfl (Nat.le_of_ble_eq_true rfl) dX12_book_157) (fun r18 => ?_)
      refine r_iastc (pc := 160) ok sh_238 (j := 13) rfl (i := 0) (by decide +kernel) rfl (fun s_ => mx XX (va_up YY 225 s_)) (pm_r _ _).1 (pm_r _ _).2 dX12_book_160 (fun s19 => ?_)
      refine r_aload_n (pc := 161) ok dX12_book_161 rfl ?_
      refine r_getR (pc := 162) ok cls12 sh_225 (k := 36) rfl (Nat.le_of_ble_eq_true rfl) rfl dX12_book_162 fl_Mo_72 ?_
      refine r_iconst (pc := 165) ok (0 : Int32) dX12_book_165 ci_0 ?_
      refine r_ialdc (pc := 166) ok sh_238 (j := 13) rfl (i := 0) (by decide +kernel) (mx_r (by decide) (va_up_self _ _ _)) dX12_book_166 ?_
      refine r_if_le (pc := 167) ok 175 dX12_book_167 rfl (fun _ => ?_) (fun _ => ?_)
      · refine r_aload_n (pc := 175) ok dX12_book_175 rfl ?_
        refine r_getR (pc := 176) ok cls12 sh_225 (k := 36) rfl (Nat.le_of_ble_eq_true rfl) rfl dX12_book_176 fl_Mo_72 ?_
        refine r_iconst (pc := 179) ok (1 : Int32) dX12_book_179 ci_1 ?_
        refine r_dup2 (pc := 180) ok dX12_book_180 rfl rfl ?_
        refine r_ialdc (pc := 181) ok sh_238 (j := 13) rfl (i := 1) (by decide +kernel) (mx_r (by decide) (va_up_self _ _ _)) dX12_book_181 ?_
        refine r_iconst (pc := 182) ok (1 : Int32) dX12_book_182 ci_1 ?_
        refine r_iadd (pc := 183) ok dX12_book_183 ?_
        refine r_iastc (pc := 184) ok sh_238 (j := 13) rfl (i := 1) (by decide +kernel) rfl (fun s_ => mx XX (va_up YY 225 s_)) (pm_r _ _).1 (pm_r _ _).2 dX12_book_184 (fun s20 => ?_)
        refine r_iinc (pc := 185) ok (1 : Int32) dX12_book_185 ci_1 rfl (Nat.le_of_ble_eq_true rfl) rfl ?_
        refine r_goto (pc := 188) ok 111 dX12_book_188 rfl ?_
        exact hc (a.1, (a.2.1 + (1 : Int32)), s20)
      · refine r_iload_n (pc := 170) ok dX12_book_170 rfl ?_
        refine r_istore_n (pc := 171) ok dX12_book_171 (Nat.le_of_ble_eq_true rfl) rfl ?_
        refine r_goto (pc := 172) ok 185 dX12_book_172 rfl ?_
        refine r_iinc (pc := 185) ok (1 : Int32) dX12_book_185 ci_1 rfl (Nat.le_of_ble_eq_true rfl) rfl ?_
        refine r_goto (pc := 188) ok 111 dX12_book_188 rfl ?_
        exact hc (a.2.1, (a.2.1 + (1 : Int32)), s19)
theorem wMo_book_J274 {Z : Cx} {G : Gx} {b : Nat} {XX YY : Nat → Obj} {m : Obj} {v1 : Int32} {v2 : Int32} (ok : OK Z G b cX12_book 4 7 RX12 (some .int)) : VO Z G b 4 (fun (r : Int32 × Obj) => QX Z b (qI G b r.1 (mx XX (va_up YY 225 r.2)))) (mx XX (va_up YY 225 m)) 274 [some (.ref (b + 225)), some (.int v1), some (.int v2), none] [] ((fMo_book_J274 m v1 v2).bind some) := by
  unfold fMo_book_J274
  refine r_iload_n (pc := 274) ok dX12_book_274 rfl ?_
  refine r_if_ne (pc := 275) ok 282 dX12_book_275 rfl (fun _ => ?_) (fun _ => ?_)
  · refine r_aload_n (pc := 278) ok dX12_book_278 rfl ?_
    refine k_V (pc := 279)  (fun r26 => mx XX (va_up YY 225 r26)) (fun r26 hr_ => c_V (n := 0) ok cls12 sh_225 rfl ml_Mo_382 wv_X12_brings yk_X12_brings rfl (Nat.le_of_ble_eq_true rfl) (Nat.le_of_ble_eq_true rfl) (tMo_brings hr_) rfl (Nat.le_of_ble_eq_true rfl) dX12_book_279) (fun r26 => ?_)
    refine r_iload_n (pc := 282) ok dX12_book_282 rfl ?_
    exact r_iret (pc := 283) ok dX12_book_283 rfl
  · refine r_iload_n (pc := 282) ok dX12_book_282 rfl ?_
    exact r_iret (pc := 283) ok dX12_book_283 rfl
theorem wMo_book_L240 {Z : Cx} {G : Gx} {b : Nat} {XX YY : Nat → Obj} {v1 : Int32} {v2 : Int32} (ok : OK Z G b cX12_book 4 7 RX12 (some .int)) {K : ((Int32 × Obj) ⊕ (Obj)) → Option (Int32 × Obj)} (hc : ∀ (a : Int32 × Obj), VO Z G b 4 (fun (r : Int32 × Obj) => QX Z b (qI G b r.1 (mx XX (va_up YY 225 r.2)))) (mx XX (va_up YY 225 a.2)) 240 [some (.ref (b + 225)), some (.int v1), some (.int v2), some (.int a.1)] [] (K (.inl a))) (hx : ∀ (e : Obj), VO Z G b 4 (fun (r : Int32 × Obj) => QX Z b (qI G b r.1 (mx XX (va_up YY 225 r.2)))) (mx XX (va_up YY 225 e)) 274 [some (.ref (b + 225)), some (.int v1), some (.int v2), none] [] (K (.inr e))) : ∀ (a : Int32 × Obj), VO Z G b 4 (fun (r : Int32 × Obj) => QX Z b (qI G b r.1 (mx XX (va_up YY 225 r.2)))) (mx XX (va_up YY 225 a.2)) 240 [some (.ref (b + 225)), some (.int v1), some (.int v2), some (.int a.1)] [] ((fMo_book_L240 a).bind K) := by
  intro a
  unfold fMo_book_L240
  refine r_iload_n (pc := 240) ok dX12_book_240 rfl ?_
  refine r_bipush (pc := 241) ok (92 : Int32) dX12_book_241 cb_92 ?_
  refine r_icmp_ge (pc := 243) ok 274 dX12_book_243 rfl (fun _ => ?_) (fun _ => ?_)
  · refine r_lv (lk_s (lk_s (lk_s (lk_n lk_0 _) _) _) _) ?_
    exact hx a.2
  · refine r_aload_n (pc := 246) ok dX12_book_246 rfl ?_
    refine r_getR (pc := 247) ok cls12 sh_225 (k := 21) rfl (Nat.le_of_ble_eq_true rfl) rfl dX12_book_247 fl_Mo_50 ?_
    refine r_bipush (pc := 250) ok (92 : Int32) dX12_book_250 cb_92 ?_
    refine r_aload_n (pc := 252) ok dX12_book_252 rfl ?_
    refine r_getI (pc := 253) ok cls12 sh_225 (k := 23) rfl (Nat.le_of_ble_eq_true rfl) (mx_r (by decide) (va_up_self _ _ _)) dX12_book_253 fl_Mo_271 ?_
    refine r_iconst (pc := 256) ok (1 : Int32) dX12_book_256 ci_1 ?_
    refine r_isub (pc := 257) ok dX12_book_257 ?_
    refine r_imul (pc := 258) ok dX12_book_258 ?_
    refine r_iload_n (pc := 259) ok dX12_book_259 rfl ?_
    refine r_iadd (pc := 260) ok dX12_book_260 ?_
    refine r_aload_n (pc := 261) ok dX12_book_261 rfl ?_
    refine r_getR (pc := 262) ok cls12 sh_225 (k := 22) rfl (Nat.le_of_ble_eq_true rfl) rfl dX12_book_262 fl_Mo_53 ?_
    refine r_iload_n (pc := 265) ok dX12_book_265 rfl ?_
    refine r_iald (pc := 266) ok sh_233 (j := 8) rfl (mx_r (by decide) (va_up_self _ _ _)) dX12_book_266 (fun i28 => ?_)
    refine r_iast (pc := 267) ok sh_232 (j := 7) rfl rfl (fun s_ => mx XX (va_up YY 225 s_)) (pm_r _ _).1 (pm_r _ _).2 dX12_book_267 (fun i29 s30 => ?_)
    refine r_iinc (pc := 268) ok (1 : Int32) dX12_book_268 ci_1 rfl (Nat.le_of_ble_eq_true rfl) rfl ?_
    refine r_goto (pc := 271) ok 240 dX12_book_271 rfl ?_
    exact hc ((a.1 + (1 : Int32)), s30)
theorem vMo_book {Z : Cx} {G : Gx} {b : Nat} {XX YY : Nat → Obj} {m : Obj} {v1 : Int32} (ok : OK Z G b cX12_book 4 7 RX12 (some .int)) : VO Z G b 4 (fun (r : Int32 × Obj) => QX Z b (qI G b r.1 (mx XX (va_up YY 225 r.2)))) (mx XX (va_up YY 225 m)) 0 [some (.ref (b + 225)), some (.int v1), none, none] [] ((fMo_book m v1).bind some) := by
  unfold fMo_book
  refine r_aload_n (pc := 0) ok dX12_book_0 rfl ?_
  refine r_iconst (pc := 1) ok (0 : Int32) dX12_book_1 ci_0 ?_
  refine r_putI (pc := 2) ok cls12 sh_225 (k := 0) rfl (Nat.le_of_ble_eq_true rfl) (fun s_ => mx XX (va_up YY 225 s_)) (pm_r _ _).1 (pm_r _ _).2 rfl rfl rfl dX12_book_2 fl_Mo_1 (fun s1 => ?_)
  refine r_iload_n (pc := 5) ok dX12_book_5 rfl ?_
  refine r_iconst (pc := 6) ok (0 : Int32) dX12_book_6 ci_0 ?_
  refine r_iconst (pc := 7) ok (1 : Int32) dX12_book_7 ci_1 ?_
  refine k_I (pc := 8) (fun r2 => r2) (fun r2 => mx XX (va_up YY 225 s1)) (fun r2 hr_ => c_S (n := 3) ok ml_Mo_193 ws_X12_isIn yk_X12_isIn rfl (Nat.le_of_ble_eq_true rfl) (Nat.le_of_ble_eq_true rfl) (tMo_isIn hr_) rfl (Nat.le_of_ble_eq_true rfl) dX12_book_8) (fun r2 => ?_)
  refine r_if_ne (pc := 11) ok 18 dX12_book_11 rfl (fun _ => ?_) (fun _ => ?_)
  · refine r_sipush (pc := 14) ok (-1000 : Int32) dX12_book_14 cs_m1000 ?_
    exact r_iret (pc := 17) ok dX12_book_17 rfl
  · refine r_aload_n (pc := 18) ok dX12_book_18 rfl ?_
    refine r_sipush (pc := 19) ok (400 : Int32) dX12_book_19 cs_400 ?_
    refine k_V (pc := 22)  (fun r3 => mx XX (va_up YY 225 r3)) (fun r3 hr_ => c_V (n := 1) ok cls12 sh_225 rfl ml_Mo_259 wv_X12_taken yk_X12_taken rfl (Nat.le_of_ble_eq_true rfl) (Nat.le_of_ble_eq_true rfl) (tMo_taken hr_) rfl (Nat.le_of_ble_eq_true rfl) dX12_book_22) (fun r3 => ?_)
    refine r_aload_n (pc := 25) ok dX12_book_25 rfl ?_
    refine r_iconst (pc := 26) ok (0 : Int32) dX12_book_26 ci_0 ?_
    refine r_putI (pc := 27) ok cls12 sh_225 (k := 15) rfl (Nat.le_of_ble_eq_true rfl) (fun s_ => mx XX (va_up YY 225 s_)) (pm_r _ _).1 (pm_r _ _).2 rfl rfl rfl dX12_book_27 fl_Mo_178 (fun s4 => ?_)
    refine r_aload_n (pc := 30) ok dX12_book_30 rfl ?_
    refine r_iconst (pc := 31) ok (0 : Int32) dX12_book_31 ci_0 ?_
    refine r_putI (pc := 32) ok cls12 sh_225 (k := 35) rfl (Nat.le_of_ble_eq_true rfl) (fun s_ => mx XX (va_up YY 225 s_)) (pm_r _ _).1 (pm_r _ _).2 rfl rfl rfl dX12_book_32 fl_Mo_417 (fun s5 => ?_)
    refine r_aload_n (pc := 35) ok dX12_book_35 rfl ?_
    refine k_V (pc := 36)  (fun r6 => mx XX (va_up YY 225 r6)) (fun r6 hr_ => c_V (n := 0) ok cls12 sh_225 rfl ml_Mo_190 wv_X12_next yk_X12_next rfl (Nat.le_of_ble_eq_true rfl) (Nat.le_of_ble_eq_true rfl) (tMo_next hr_) rfl (Nat.le_of_ble_eq_true rfl) dX12_book_36) (fun r6 => ?_)
    refine r_iter (P := fun (a39 : Obj) o => VO Z G b 4 (fun (r : Int32 × Obj) => QX Z b (qI G b r.1 (mx XX (va_up YY 225 r.2)))) (mx XX (va_up YY 225 a39)) 39 [some (.ref (b + 225)), some (.int v1), none, none] [] o) (E := fun (z : (Obj) ⊕ (Int32 × Obj)) o => (∀ (e_39 : Obj), z = .inl e_39 → VO Z G b 4 (fun (r : Int32 × Obj) => QX Z b (qI G b r.1 (mx XX (va_up YY 225 r.2)))) (mx XX (va_up YY 225 e_39)) 83 [some (.ref (b + 225)), some (.int v1), none, none] [] o) ∧ (∀ (r : Int32 × Obj), z = .inr r → o = some r)) (fun _ => r_none) (fun K hc hx => wMo_book_L39 ok (K := K) hc hx) (fun z => ⟨fun e10 hz => ?_, fun r hz => ?_⟩) FU r6
    · subst hz
      refine r_inl ?_
      refine r_aload_n (pc := 83) ok dX12_book_83 rfl ?_
      refine k_V (pc := 84)  (fun r11 => mx XX (va_up YY 225 r11)) (fun r11 hr_ => c_V (n := 0) ok cls12 sh_225 rfl ml_Mo_379 wv_X12_tries yk_X12_tries rfl (Nat.le_of_ble_eq_true rfl) (Nat.le_of_ble_eq_true rfl) (tMo_tries hr_) rfl (Nat.le_of_ble_eq_true rfl) dX12_book_84) (fun r11 => ?_)
      refine r_iconst (pc := 87) ok (0 : Int32) dX12_book_87 ci_0 ?_
      refine r_istore_n (pc := 88) ok dX12_book_88 (Nat.le_of_ble_eq_true rfl) rfl ?_
      refine r_iter (P := fun (a89 : Int32 × Obj) o => VO Z G b 4 (fun (r : Int32 × Obj) => QX Z b (qI G b r.1 (mx XX (va_up YY 225 r.2)))) (mx XX (va_up YY 225 a89.2)) 89 [some (.ref (b + 225)), some (.int v1), some (.int a89.1), none] [] o) (E := fun (e_89 : Obj) o => VO Z G b 4 (fun (r : Int32 × Obj) => QX Z b (qI G b r.1 (mx XX (va_up YY 225 r.2)))) (mx XX (va_up YY 225 e_89)) 107 [some (.ref (b + 225)), some (.int v1), none, none] [] o) (fun _ => r_none) (fun K hc hx => wMo_book_L89 ok (K := K) hc hx) (fun e14 => ?_) FU ((0 : Int32), r11)
      refine r_iconst (pc := 107) ok (-1 : Int32) dX12_book_107 ci_m1 ?_
      refine r_istore_n (pc := 108) ok dX12_book_108 (Nat.le_of_ble_eq_true rfl) rfl ?_
      refine r_iconst (pc := 109) ok (0 : Int32) dX12_book_109 ci_0 ?_
      refine r_istore_n (pc := 110) ok dX12_book_110 (Nat.le_of_ble_eq_true rfl) rfl ?_
      refine r_iter (P := fun (a111 : Int32 × Int32 × Obj) o => VO Z G b 4 (fun (r : Int32 × Obj) => QX Z b (qI G b r.1 (mx XX (va_up YY 225 r.2)))) (mx XX (va_up YY 225 a111.2.2)) 111 [some (.ref (b + 225)), some (.int v1), some (.int a111.1), some (.int a111.2.1)] [] o) (E := fun (e_111 : Int32 × Obj) o => VO Z G b 4 (fun (r : Int32 × Obj) => QX Z b (qI G b r.1 (mx XX (va_up YY 225 r.2)))) (mx XX (va_up YY 225 e_111.2)) 191 [some (.ref (b + 225)), some (.int v1), some (.int e_111.1), none] [] o) (fun _ => r_none) (fun K hc hx => wMo_book_L111 ok (K := K) hc hx) (fun e21 => ?_) FU ((-1 : Int32), (0 : Int32), e14)
      refine r_aload_n (pc := 191) ok dX12_book_191 rfl ?_
      refine r_getR (pc := 192) ok cls12 sh_225 (k := 36) rfl (Nat.le_of_ble_eq_true rfl) rfl dX12_book_192 fl_Mo_72 ?_
      refine r_iconst (pc := 195) ok (2 : Int32) dX12_book_195 ci_2 ?_
      refine r_aload_n (pc := 196) ok dX12_book_196 rfl ?_
      refine r_getR (pc := 197) ok cls12 sh_225 (k := 6) rfl (Nat.le_of_ble_eq_true rfl) rfl dX12_book_197 fl_Mo_33 ?_
      refine r_bipush (pc := 200) ok (69 : Int32) dX12_book_200 cb_69 ?_
      refine r_ialdc (pc := 202) ok sh_227 (j := 2) rfl (i := 69) (by decide +kernel) (mx_r (by decide) (va_up_self _ _ _)) dX12_book_202 ?_
      refine r_iastc (pc := 203) ok sh_238 (j := 13) rfl (i := 2) (by decide +kernel) rfl (fun s_ => mx XX (va_up YY 225 s_)) (pm_r _ _).1 (pm_r _ _).2 dX12_book_203 (fun s22 => ?_)
      refine r_aload_n (pc := 204) ok dX12_book_204 rfl ?_
      refine r_getR (pc := 205) ok cls12 sh_225 (k := 36) rfl (Nat.le_of_ble_eq_true rfl) rfl dX12_book_205 fl_Mo_72 ?_
      refine r_iconst (pc := 208) ok (3 : Int32) dX12_book_208 ci_3 ?_
      refine r_aload_n (pc := 209) ok dX12_book_209 rfl ?_
      refine r_iconst (pc := 210) ok (2 : Int32) dX12_book_210 ci_2 ?_
      refine k_I (pc := 211) (fun r23 => r23) (fun r23 => mx XX (va_up YY 225 s22)) (fun r23 hr_ => c_V (n := 1) ok cls12 sh_225 rfl ml_Mo_297 wv_X12_are yk_X12_are rfl (Nat.le_of_ble_eq_true rfl) (Nat.le_of_ble_eq_true rfl) (tMo_are (va_up_self _ _ _) hr_) rfl (Nat.le_of_ble_eq_true rfl) dX12_book_211) (fun r23 => ?_)
      refine r_iastc (pc := 214) ok sh_238 (j := 13) rfl (i := 3) (by decide +kernel) rfl (fun s_ => mx XX (va_up YY 225 s_)) (pm_r _ _).1 (pm_r _ _).2 dX12_book_214 (fun s24 => ?_)
      refine r_aload_n (pc := 215) ok dX12_book_215 rfl ?_
      refine r_iconst (pc := 216) ok (1 : Int32) dX12_book_216 ci_1 ?_
      refine r_putI (pc := 217) ok cls12 sh_225 (k := 37) rfl (Nat.le_of_ble_eq_true rfl) (fun s_ => mx XX (va_up YY 225 s_)) (pm_r _ _).1 (pm_r _ _).2 rfl rfl rfl dX12_book_217 fl_Mo_427 (fun s25 => ?_)
      refine r_iload_n (pc := 220) ok dX12_book_220 rfl ?_
      refine r_iconst (pc := 221) ok (1 : Int32) dX12_book_221 ci_1 ?_
      refine r_icmp_ne (pc := 222) ok 274 dX12_book_222 rfl (fun _ => ?_) (fun _ => ?_)
      · refine r_aload_n (pc := 225) ok dX12_book_225 rfl ?_
        refine r_getR (pc := 226) ok cls12 sh_225 (k := 36) rfl (Nat.le_of_ble_eq_true rfl) rfl dX12_book_226 fl_Mo_72 ?_
        refine r_iconst (pc := 229) ok (1 : Int32) dX12_book_229 ci_1 ?_
        refine r_ialdc (pc := 230) ok sh_238 (j := 13) rfl (i := 1) (by decide +kernel) (mx_r (by decide) (va_up_self _ _ _)) dX12_book_230 ?_
        refine r_if_le (pc := 231) ok 274 dX12_book_231 rfl (fun _ => ?_) (fun _ => ?_)
        · exact wMo_book_J274 ok
        · refine r_aload_n (pc := 234) ok dX12_book_234 rfl ?_
          refine k_V (pc := 235)  (fun r27 => mx XX (va_up YY 225 r27)) (fun r27 hr_ => c_V (n := 0) ok cls12 sh_225 rfl ml_Mo_333 wv_X12_stores yk_X12_stores rfl (Nat.le_of_ble_eq_true rfl) (Nat.le_of_ble_eq_true rfl) (tMo_stores hr_) rfl (Nat.le_of_ble_eq_true rfl) dX12_book_235) (fun r27 => ?_)
          refine r_iconst (pc := 238) ok (0 : Int32) dX12_book_238 ci_0 ?_
          refine r_istore_n (pc := 239) ok dX12_book_239 (Nat.le_of_ble_eq_true rfl) rfl ?_
          refine r_iter (P := fun (a240 : Int32 × Obj) o => VO Z G b 4 (fun (r : Int32 × Obj) => QX Z b (qI G b r.1 (mx XX (va_up YY 225 r.2)))) (mx XX (va_up YY 225 a240.2)) 240 [some (.ref (b + 225)), some (.int v1), some (.int e21.1), some (.int a240.1)] [] o) (E := fun (e_240 : Obj) o => VO Z G b 4 (fun (r : Int32 × Obj) => QX Z b (qI G b r.1 (mx XX (va_up YY 225 r.2)))) (mx XX (va_up YY 225 e_240)) 274 [some (.ref (b + 225)), some (.int v1), some (.int e21.1), none] [] o) (fun _ => r_none) (fun K hc hx => wMo_book_L240 ok (K := K) hc hx) (fun e31 => ?_) FU ((0 : Int32), r27)
          exact wMo_book_J274 ok
      · exact wMo_book_J274 ok
    · subst hz
      rfl
theorem tMo_book {l : Launch} {G : Gx} {b : Nat} {XX YY : Nat → Obj} {m : Obj} {v1 : Int32} {r : Int32 × Obj} (hr : fMo_book m v1 = some r) : MetG l G b yX12_book cX12_book 4 (some .int) 7 [.ref (b + 225), .int v1] (mx XX (va_up YY 225 m)) (qI G b r.1 (mx XX (va_up YY 225 r.2))) := by
  refine met_start [some (.ref (b + 225)), some (.int v1), none, none] (by decide +kernel) (Nat.le_of_ble_eq_true rfl) rfl (fun Z hl ok => ?_)
  clear hl
  exact vMo_book ok r (by rw [hr]; rfl)
theorem vMo_told {Z : Cx} {G : Gx} {b : Nat} {XX YY : Nat → Obj} {m : Obj} {v1 : Int32} (ok : OK Z G b cX12_told 2 1 RX12 (some .int)) : VO Z G b 2 (fun (r : Int32 × Obj) => QX Z b (qI G b r.1 (mx XX (va_up YY 225 r.2)))) (mx XX (va_up YY 225 m)) 0 [some (.ref (b + 225)), some (.int v1)] [] ((fMo_told m v1).bind some) := by
  unfold fMo_told
  refine r_aload_n (pc := 0) ok dX12_told_0 rfl ?_
  refine r_iconst (pc := 1) ok (0 : Int32) dX12_told_1 ci_0 ?_
  refine r_putI (pc := 2) ok cls12 sh_225 (k := 0) rfl (Nat.le_of_ble_eq_true rfl) (fun s_ => mx XX (va_up YY 225 s_)) (pm_r _ _).1 (pm_r _ _).2 rfl rfl rfl dX12_told_2 fl_Mo_1 (fun s1 => ?_)
  refine r_aload_n (pc := 5) ok dX12_told_5 rfl ?_
  refine r_getI (pc := 6) ok cls12 sh_225 (k := 37) rfl (Nat.le_of_ble_eq_true rfl) (mx_r (by decide) (va_up_self _ _ _)) dX12_told_6 fl_Mo_427 ?_
  refine r_if_eq (pc := 9) ok 30 dX12_told_9 rfl (fun _ => ?_) (fun _ => ?_)
  · refine r_iconst (pc := 30) ok (-1 : Int32) dX12_told_30 ci_m1 ?_
    exact r_iret (pc := 31) ok dX12_told_31 rfl
  · refine r_iload_n (pc := 12) ok dX12_told_12 rfl ?_
    refine r_iconst (pc := 13) ok (0 : Int32) dX12_told_13 ci_0 ?_
    refine r_iconst (pc := 14) ok (3 : Int32) dX12_told_14 ci_3 ?_
    refine k_I (pc := 15) (fun r2 => r2) (fun r2 => mx XX (va_up YY 225 s1)) (fun r2 hr_ => c_S (n := 3) ok ml_Mo_193 ws_X12_isIn yk_X12_isIn rfl (Nat.le_of_ble_eq_true rfl) (Nat.le_of_ble_eq_true rfl) (tMo_isIn hr_) rfl (Nat.le_of_ble_eq_true rfl) dX12_told_15) (fun r2 => ?_)
    refine r_if_eq (pc := 18) ok 30 dX12_told_18 rfl (fun _ => ?_) (fun _ => ?_)
    · refine r_iconst (pc := 30) ok (-1 : Int32) dX12_told_30 ci_m1 ?_
      exact r_iret (pc := 31) ok dX12_told_31 rfl
    · refine r_aload_n (pc := 21) ok dX12_told_21 rfl ?_
      refine r_getR (pc := 22) ok cls12 sh_225 (k := 36) rfl (Nat.le_of_ble_eq_true rfl) rfl dX12_told_22 fl_Mo_72 ?_
      refine r_iload_n (pc := 25) ok dX12_told_25 rfl ?_
      refine r_iald (pc := 26) ok sh_238 (j := 13) rfl (mx_r (by decide) (va_up_self _ _ _)) dX12_told_26 (fun i3 => ?_)
      refine r_goto (pc := 27) ok 31 dX12_told_27 rfl ?_
      exact r_iret (pc := 31) ok dX12_told_31 rfl
theorem tMo_told {l : Launch} {G : Gx} {b : Nat} {XX YY : Nat → Obj} {m : Obj} {v1 : Int32} {r : Int32 × Obj} (hr : fMo_told m v1 = some r) : MetG l G b yX12_told cX12_told 2 (some .int) 1 [.ref (b + 225), .int v1] (mx XX (va_up YY 225 m)) (qI G b r.1 (mx XX (va_up YY 225 r.2))) := by
  refine met_start [some (.ref (b + 225)), some (.int v1)] (by decide +kernel) (Nat.le_of_ble_eq_true rfl) rfl (fun Z hl ok => ?_)
  clear hl
  exact vMo_told ok r (by rw [hr]; rfl)
theorem vMo_code {Z : Cx} {G : Gx} {b : Nat} {XX YY : Nat → Obj} {m : Obj} {v1 : Int32} {v2 : Int32} {v3 : Int32} (ok : OK Z G b cX12_code 4 0 RX12 none) : VO Z G b 4 (fun (r : Obj) => QX Z b (qV G b (mx XX (va_up YY 225 r)))) (mx XX (va_up YY 225 m)) 0 [some (.ref (b + 225)), some (.int v1), some (.int v2), some (.int v3)] [] ((fMo_code m v1 v2 v3).bind some) := by
  unfold fMo_code
  refine r_aload_n (pc := 0) ok dX12_code_0 rfl ?_
  refine r_getR (pc := 1) ok cls12 sh_225 (k := 8) rfl (Nat.le_of_ble_eq_true rfl) rfl dX12_code_1 fl_Mo_40 ?_
  refine r_iconst (pc := 4) ok (3 : Int32) dX12_code_4 ci_3 ?_
  refine r_aload_n (pc := 5) ok dX12_code_5 rfl ?_
  refine r_getI (pc := 6) ok cls12 sh_225 (k := 39) rfl (Nat.le_of_ble_eq_true rfl) (mx_r (by decide) (va_up_self _ _ _)) dX12_code_6 fl_Mo_430 ?_
  refine r_imul (pc := 9) ok dX12_code_9 ?_
  refine r_iload_n (pc := 10) ok dX12_code_10 rfl ?_
  refine r_iast (pc := 11) ok sh_229 (j := 4) rfl rfl (fun s_ => mx XX (va_up YY 225 s_)) (pm_r _ _).1 (pm_r _ _).2 dX12_code_11 (fun i1 s2 => ?_)
  refine r_aload_n (pc := 12) ok dX12_code_12 rfl ?_
  refine r_getR (pc := 13) ok cls12 sh_225 (k := 8) rfl (Nat.le_of_ble_eq_true rfl) rfl dX12_code_13 fl_Mo_40 ?_
  refine r_iconst (pc := 16) ok (3 : Int32) dX12_code_16 ci_3 ?_
  refine r_aload_n (pc := 17) ok dX12_code_17 rfl ?_
  refine r_getI (pc := 18) ok cls12 sh_225 (k := 39) rfl (Nat.le_of_ble_eq_true rfl) (mx_r (by decide) (va_up_self _ _ _)) dX12_code_18 fl_Mo_430 ?_
  refine r_imul (pc := 21) ok dX12_code_21 ?_
  refine r_iconst (pc := 22) ok (1 : Int32) dX12_code_22 ci_1 ?_
  refine r_iadd (pc := 23) ok dX12_code_23 ?_
  refine r_iload_n (pc := 24) ok dX12_code_24 rfl ?_
  refine r_iast (pc := 25) ok sh_229 (j := 4) rfl rfl (fun s_ => mx XX (va_up YY 225 s_)) (pm_r _ _).1 (pm_r _ _).2 dX12_code_25 (fun i3 s4 => ?_)
  refine r_aload_n (pc := 26) ok dX12_code_26 rfl ?_
  refine r_getR (pc := 27) ok cls12 sh_225 (k := 8) rfl (Nat.le_of_ble_eq_true rfl) rfl dX12_code_27 fl_Mo_40 ?_
  refine r_iconst (pc := 30) ok (3 : Int32) dX12_code_30 ci_3 ?_
  refine r_aload_n (pc := 31) ok dX12_code_31 rfl ?_
  refine r_getI (pc := 32) ok cls12 sh_225 (k := 39) rfl (Nat.le_of_ble_eq_true rfl) (mx_r (by decide) (va_up_self _ _ _)) dX12_code_32 fl_Mo_430 ?_
  refine r_imul (pc := 35) ok dX12_code_35 ?_
  refine r_iconst (pc := 36) ok (2 : Int32) dX12_code_36 ci_2 ?_
  refine r_iadd (pc := 37) ok dX12_code_37 ?_
  refine r_iload_n (pc := 38) ok dX12_code_38 rfl ?_
  refine r_iast (pc := 39) ok sh_229 (j := 4) rfl rfl (fun s_ => mx XX (va_up YY 225 s_)) (pm_r _ _).1 (pm_r _ _).2 dX12_code_39 (fun i5 s6 => ?_)
  refine r_aload_n (pc := 40) ok dX12_code_40 rfl ?_
  refine r_dup (pc := 41) ok dX12_code_41 rfl ?_
  refine r_getI (pc := 42) ok cls12 sh_225 (k := 39) rfl (Nat.le_of_ble_eq_true rfl) (mx_r (by decide) (va_up_self _ _ _)) dX12_code_42 fl_Mo_430 ?_
  refine r_iconst (pc := 45) ok (1 : Int32) dX12_code_45 ci_1 ?_
  refine r_iadd (pc := 46) ok dX12_code_46 ?_
  refine r_putI (pc := 47) ok cls12 sh_225 (k := 39) rfl (Nat.le_of_ble_eq_true rfl) (fun s_ => mx XX (va_up YY 225 s_)) (pm_r _ _).1 (pm_r _ _).2 rfl rfl rfl dX12_code_47 fl_Mo_430 (fun s7 => ?_)
  exact r_vret (pc := 50) ok dX12_code_50 rfl
theorem tMo_code {l : Launch} {G : Gx} {b : Nat} {XX YY : Nat → Obj} {m : Obj} {v1 : Int32} {v2 : Int32} {v3 : Int32} {r : Obj} (hr : fMo_code m v1 v2 v3 = some r) : MetG l G b yX12_code cX12_code 4 none 0 [.ref (b + 225), .int v1, .int v2, .int v3] (mx XX (va_up YY 225 m)) (qV G b (mx XX (va_up YY 225 r))) := by
  refine met_start [some (.ref (b + 225)), some (.int v1), some (.int v2), some (.int v3)] (by decide +kernel) (Nat.le_of_ble_eq_true rfl) rfl (fun Z hl ok => ?_)
  clear hl
  exact vMo_code ok r (by rw [hr]; rfl)
theorem wMo_joins_J45 {Z : Cx} {G : Gx} {b : Nat} {XX YY : Nat → Obj} {m : Obj} {v1 : Int32} (ok : OK Z G b cX12_joins 2 1 RX12 none) {K : ((Obj) ⊕ (Obj)) → Option (Obj)} (hc : ∀ (a : Obj), VO Z G b 2 (fun (r : Obj) => QX Z b (qV G b (mx XX (va_up YY 225 r)))) (mx XX (va_up YY 225 a)) 0 [some (.ref (b + 225)), some (.int v1)] [] (K (.inl a))) (hx : ∀ (e : Obj), VO Z G b 2 (fun (r : Obj) => QX Z b (qV G b (mx XX (va_up YY 225 r)))) (mx XX (va_up YY 225 e)) 73 [none, none] [] (K (.inr e))) : VO Z G b 2 (fun (r : Obj) => QX Z b (qV G b (mx XX (va_up YY 225 r)))) (mx XX (va_up YY 225 m)) 45 [some (.ref (b + 225)), some (.int v1)] [] ((fMo_joins_J45 m).bind K) := by
  unfold fMo_joins_J45
  refine r_aload_n (pc := 45) ok dX12_joins_45 rfl ?_
  refine r_dup (pc := 46) ok dX12_joins_46 rfl ?_
  refine r_getI (pc := 47) ok cls12 sh_225 (k := 41) rfl (Nat.le_of_ble_eq_true rfl) (mx_r (by decide) (va_up_self _ _ _)) dX12_joins_47 fl_Mo_433 ?_
  refine r_iconst (pc := 50) ok (1 : Int32) dX12_joins_50 ci_1 ?_
  refine r_isub (pc := 51) ok dX12_joins_51 ?_
  refine r_putI (pc := 52) ok cls12 sh_225 (k := 41) rfl (Nat.le_of_ble_eq_true rfl) (fun s_ => mx XX (va_up YY 225 s_)) (pm_r _ _).1 (pm_r _ _).2 rfl rfl rfl dX12_joins_52 fl_Mo_433 (fun s2 => ?_)
  refine r_aload_n (pc := 55) ok dX12_joins_55 rfl ?_
  refine r_aload_n (pc := 56) ok dX12_joins_56 rfl ?_
  refine r_getR (pc := 57) ok cls12 sh_225 (k := 38) rfl (Nat.le_of_ble_eq_true rfl) rfl dX12_joins_57 fl_Mo_75 ?_
  refine r_aload_n (pc := 60) ok dX12_joins_60 rfl ?_
  refine r_getI (pc := 61) ok cls12 sh_225 (k := 41) rfl (Nat.le_of_ble_eq_true rfl) (mx_r (by decide) (va_up_self _ _ _)) dX12_joins_61 fl_Mo_433 ?_
  refine r_iald (pc := 64) ok sh_239 (j := 14) rfl (mx_r (by decide) (va_up_self _ _ _)) dX12_joins_64 (fun i3 => ?_)
  refine r_iconst (pc := 65) ok (0 : Int32) dX12_joins_65 ci_0 ?_
  refine r_iconst (pc := 66) ok (0 : Int32) dX12_joins_66 ci_0 ?_
  refine k_V (pc := 67)  (fun r4 => mx XX (va_up YY 225 r4)) (fun r4 hr_ => c_V (n := 3) ok cls12 sh_225 rfl ml_Mo_436 wv_X12_code yk_X12_code rfl (Nat.le_of_ble_eq_true rfl) (Nat.le_of_ble_eq_true rfl) (tMo_code hr_) rfl (Nat.le_of_ble_eq_true rfl) dX12_joins_67) (fun r4 => ?_)
  refine r_goto (pc := 70) ok 0 dX12_joins_70 rfl ?_
  exact hc r4
theorem wMo_joins_L0 {Z : Cx} {G : Gx} {b : Nat} {XX YY : Nat → Obj} {v1 : Int32} (ok : OK Z G b cX12_joins 2 1 RX12 none) {K : ((Obj) ⊕ (Obj)) → Option (Obj)} (hc : ∀ (a : Obj), VO Z G b 2 (fun (r : Obj) => QX Z b (qV G b (mx XX (va_up YY 225 r)))) (mx XX (va_up YY 225 a)) 0 [some (.ref (b + 225)), some (.int v1)] [] (K (.inl a))) (hx : ∀ (e : Obj), VO Z G b 2 (fun (r : Obj) => QX Z b (qV G b (mx XX (va_up YY 225 r)))) (mx XX (va_up YY 225 e)) 73 [none, none] [] (K (.inr e))) : ∀ (a : Obj), VO Z G b 2 (fun (r : Obj) => QX Z b (qV G b (mx XX (va_up YY 225 r)))) (mx XX (va_up YY 225 a)) 0 [some (.ref (b + 225)), some (.int v1)] [] ((fMo_joins_L0 v1 a).bind K) := by
  intro a
  unfold fMo_joins_L0
  refine r_aload_n (pc := 0) ok dX12_joins_0 rfl ?_
  refine r_getI (pc := 1) ok cls12 sh_225 (k := 41) rfl (Nat.le_of_ble_eq_true rfl) (mx_r (by decide) (va_up_self _ _ _)) dX12_joins_1 fl_Mo_433 ?_
  refine r_if_le (pc := 4) ok 73 dX12_joins_4 rfl (fun _ => ?_) (fun _ => ?_)
  · refine r_lv (lk_n (lk_n lk_0 _) _) ?_
    exact hx a
  · refine r_aload_n (pc := 7) ok dX12_joins_7 rfl ?_
    refine r_getR (pc := 8) ok cls12 sh_225 (k := 38) rfl (Nat.le_of_ble_eq_true rfl) rfl dX12_joins_8 fl_Mo_75 ?_
    refine r_aload_n (pc := 11) ok dX12_joins_11 rfl ?_
    refine r_getI (pc := 12) ok cls12 sh_225 (k := 41) rfl (Nat.le_of_ble_eq_true rfl) (mx_r (by decide) (va_up_self _ _ _)) dX12_joins_12 fl_Mo_433 ?_
    refine r_iconst (pc := 15) ok (1 : Int32) dX12_joins_15 ci_1 ?_
    refine r_isub (pc := 16) ok dX12_joins_16 ?_
    refine r_iald (pc := 17) ok sh_239 (j := 14) rfl (mx_r (by decide) (va_up_self _ _ _)) dX12_joins_17 (fun i1 => ?_)
    refine r_bipush (pc := 18) ok (21 : Int32) dX12_joins_18 cb_21 ?_
    refine r_icmp_eq (pc := 20) ok 45 dX12_joins_20 rfl (fun _ => ?_) (fun _ => ?_)
    · exact wMo_joins_J45 ok (K := K) hc hx
    · refine r_aload_n (pc := 23) ok dX12_joins_23 rfl ?_
      refine r_getR (pc := 24) ok cls12 sh_225 (k := 38) rfl (Nat.le_of_ble_eq_true rfl) rfl dX12_joins_24 fl_Mo_75 ?_
      refine r_aload_n (pc := 27) ok dX12_joins_27 rfl ?_
      refine r_getI (pc := 28) ok cls12 sh_225 (k := 41) rfl (Nat.le_of_ble_eq_true rfl) (mx_r (by decide) (va_up_self _ _ _)) dX12_joins_28 fl_Mo_433 ?_
      refine r_iconst (pc := 31) ok (1 : Int32) dX12_joins_31 ci_1 ?_
      refine r_isub (pc := 32) ok dX12_joins_32 ?_
      refine r_iald (pc := 33) ok sh_239 (j := 14) rfl (mx_r (by decide) (va_up_self _ _ _)) dX12_joins_33 (fun i5 => ?_)
      refine r_bipush (pc := 34) ok (22 : Int32) dX12_joins_34 cb_22 ?_
      refine r_icmp_ne (pc := 36) ok 73 dX12_joins_36 rfl (fun _ => ?_) (fun _ => ?_)
      · refine r_iload_n (pc := 39) ok dX12_joins_39 rfl ?_
        refine r_bipush (pc := 40) ok (22 : Int32) dX12_joins_40 cb_22 ?_
        refine r_icmp_ne (pc := 42) ok 73 dX12_joins_42 rfl (fun _ => ?_) (fun _ => ?_)
        · exact wMo_joins_J45 ok (K := K) hc hx
        · refine r_lv (lk_n (lk_n lk_0 _) _) ?_
          exact hx a
      · refine r_lv (lk_n (lk_n lk_0 _) _) ?_
        exact hx a
theorem vMo_joins {Z : Cx} {G : Gx} {b : Nat} {XX YY : Nat → Obj} {m : Obj} {v1 : Int32} (ok : OK Z G b cX12_joins 2 1 RX12 none) : VO Z G b 2 (fun (r : Obj) => QX Z b (qV G b (mx XX (va_up YY 225 r)))) (mx XX (va_up YY 225 m)) 0 [some (.ref (b + 225)), some (.int v1)] [] ((fMo_joins m v1).bind some) := by
  unfold fMo_joins
  refine r_iter (P := fun (a0 : Obj) o => VO Z G b 2 (fun (r : Obj) => QX Z b (qV G b (mx XX (va_up YY 225 r)))) (mx XX (va_up YY 225 a0)) 0 [some (.ref (b + 225)), some (.int v1)] [] o) (E := fun (e_0 : Obj) o => VO Z G b 2 (fun (r : Obj) => QX Z b (qV G b (mx XX (va_up YY 225 r)))) (mx XX (va_up YY 225 e_0)) 73 [none, none] [] o) (fun _ => r_none) (fun K hc hx => wMo_joins_L0 ok (K := K) hc hx) (fun e6 => ?_) FU m
  exact r_vret (pc := 73) ok dX12_joins_73 rfl
theorem tMo_joins {l : Launch} {G : Gx} {b : Nat} {XX YY : Nat → Obj} {m : Obj} {v1 : Int32} {r : Obj} (hr : fMo_joins m v1 = some r) : MetG l G b yX12_joins cX12_joins 2 none 1 [.ref (b + 225), .int v1] (mx XX (va_up YY 225 m)) (qV G b (mx XX (va_up YY 225 r))) := by
  refine met_start [some (.ref (b + 225)), some (.int v1)] (by decide +kernel) (Nat.le_of_ble_eq_true rfl) rfl (fun Z hl ok => ?_)
  clear hl
  exact vMo_joins ok r (by rw [hr]; rfl)
theorem wMo_nots_L0 {Z : Cx} {G : Gx} {b : Nat} {XX YY : Nat → Obj} (ok : OK Z G b cX12_nots 1 1 RX12 none) {K : ((Obj) ⊕ (Obj)) → Option (Obj)} (hc : ∀ (a : Obj), VO Z G b 1 (fun (r : Obj) => QX Z b (qV G b (mx XX (va_up YY 225 r)))) (mx XX (va_up YY 225 a)) 0 [some (.ref (b + 225))] [] (K (.inl a))) (hx : ∀ (e : Obj), VO Z G b 1 (fun (r : Obj) => QX Z b (qV G b (mx XX (va_up YY 225 r)))) (mx XX (va_up YY 225 e)) 54 [none] [] (K (.inr e))) : ∀ (a : Obj), VO Z G b 1 (fun (r : Obj) => QX Z b (qV G b (mx XX (va_up YY 225 r)))) (mx XX (va_up YY 225 a)) 0 [some (.ref (b + 225))] [] ((fMo_nots_L0 a).bind K) := by
  intro a
  unfold fMo_nots_L0
  refine r_aload_n (pc := 0) ok dX12_nots_0 rfl ?_
  refine r_getI (pc := 1) ok cls12 sh_225 (k := 41) rfl (Nat.le_of_ble_eq_true rfl) (mx_r (by decide) (va_up_self _ _ _)) dX12_nots_1 fl_Mo_433 ?_
  refine r_if_le (pc := 4) ok 54 dX12_nots_4 rfl (fun _ => ?_) (fun _ => ?_)
  · refine r_lv (lk_n lk_0 _) ?_
    exact hx a
  · refine r_aload_n (pc := 7) ok dX12_nots_7 rfl ?_
    refine r_getR (pc := 8) ok cls12 sh_225 (k := 38) rfl (Nat.le_of_ble_eq_true rfl) rfl dX12_nots_8 fl_Mo_75 ?_
    refine r_aload_n (pc := 11) ok dX12_nots_11 rfl ?_
    refine r_getI (pc := 12) ok cls12 sh_225 (k := 41) rfl (Nat.le_of_ble_eq_true rfl) (mx_r (by decide) (va_up_self _ _ _)) dX12_nots_12 fl_Mo_433 ?_
    refine r_iconst (pc := 15) ok (1 : Int32) dX12_nots_15 ci_1 ?_
    refine r_isub (pc := 16) ok dX12_nots_16 ?_
    refine r_iald (pc := 17) ok sh_239 (j := 14) rfl (mx_r (by decide) (va_up_self _ _ _)) dX12_nots_17 (fun i1 => ?_)
    refine r_bipush (pc := 18) ok (20 : Int32) dX12_nots_18 cb_20 ?_
    refine r_icmp_ne (pc := 20) ok 54 dX12_nots_20 rfl (fun _ => ?_) (fun _ => ?_)
    · refine r_aload_n (pc := 23) ok dX12_nots_23 rfl ?_
      refine r_dup (pc := 24) ok dX12_nots_24 rfl ?_
      refine r_getI (pc := 25) ok cls12 sh_225 (k := 41) rfl (Nat.le_of_ble_eq_true rfl) (mx_r (by decide) (va_up_self _ _ _)) dX12_nots_25 fl_Mo_433 ?_
      refine r_iconst (pc := 28) ok (1 : Int32) dX12_nots_28 ci_1 ?_
      refine r_isub (pc := 29) ok dX12_nots_29 ?_
      refine r_putI (pc := 30) ok cls12 sh_225 (k := 41) rfl (Nat.le_of_ble_eq_true rfl) (fun s_ => mx XX (va_up YY 225 s_)) (pm_r _ _).1 (pm_r _ _).2 rfl rfl rfl dX12_nots_30 fl_Mo_433 (fun s2 => ?_)
      refine r_aload_n (pc := 33) ok dX12_nots_33 rfl ?_
      refine r_dup (pc := 34) ok dX12_nots_34 rfl ?_
      refine r_getI (pc := 35) ok cls12 sh_225 (k := 42) rfl (Nat.le_of_ble_eq_true rfl) (mx_r (by decide) (va_up_self _ _ _)) dX12_nots_35 fl_Mo_439 ?_
      refine r_iconst (pc := 38) ok (1 : Int32) dX12_nots_38 ci_1 ?_
      refine r_isub (pc := 39) ok dX12_nots_39 ?_
      refine r_putI (pc := 40) ok cls12 sh_225 (k := 42) rfl (Nat.le_of_ble_eq_true rfl) (fun s_ => mx XX (va_up YY 225 s_)) (pm_r _ _).1 (pm_r _ _).2 rfl rfl rfl dX12_nots_40 fl_Mo_439 (fun s3 => ?_)
      refine r_aload_n (pc := 43) ok dX12_nots_43 rfl ?_
      refine r_bipush (pc := 44) ok (20 : Int32) dX12_nots_44 cb_20 ?_
      refine r_iconst (pc := 46) ok (0 : Int32) dX12_nots_46 ci_0 ?_
      refine r_iconst (pc := 47) ok (0 : Int32) dX12_nots_47 ci_0 ?_
      refine k_V (pc := 48)  (fun r4 => mx XX (va_up YY 225 r4)) (fun r4 hr_ => c_V (n := 3) ok cls12 sh_225 rfl ml_Mo_436 wv_X12_code yk_X12_code rfl (Nat.le_of_ble_eq_true rfl) (Nat.le_of_ble_eq_true rfl) (tMo_code hr_) rfl (Nat.le_of_ble_eq_true rfl) dX12_nots_48) (fun r4 => ?_)
      refine r_goto (pc := 51) ok 0 dX12_nots_51 rfl ?_
      exact hc r4
    · refine r_lv (lk_n lk_0 _) ?_
      exact hx a
theorem vMo_nots {Z : Cx} {G : Gx} {b : Nat} {XX YY : Nat → Obj} {m : Obj} (ok : OK Z G b cX12_nots 1 1 RX12 none) : VO Z G b 1 (fun (r : Obj) => QX Z b (qV G b (mx XX (va_up YY 225 r)))) (mx XX (va_up YY 225 m)) 0 [some (.ref (b + 225))] [] ((fMo_nots m).bind some) := by
  unfold fMo_nots
  refine r_iter (P := fun (a0 : Obj) o => VO Z G b 1 (fun (r : Obj) => QX Z b (qV G b (mx XX (va_up YY 225 r)))) (mx XX (va_up YY 225 a0)) 0 [some (.ref (b + 225))] [] o) (E := fun (e_0 : Obj) o => VO Z G b 1 (fun (r : Obj) => QX Z b (qV G b (mx XX (va_up YY 225 r)))) (mx XX (va_up YY 225 e_0)) 54 [none] [] o) (fun _ => r_none) (fun K hc hx => wMo_nots_L0 ok (K := K) hc hx) (fun e5 => ?_) FU m
  exact r_vret (pc := 54) ok dX12_nots_54 rfl
theorem tMo_nots {l : Launch} {G : Gx} {b : Nat} {XX YY : Nat → Obj} {m : Obj} {r : Obj} (hr : fMo_nots m = some r) : MetG l G b yX12_nots cX12_nots 1 none 1 [.ref (b + 225)] (mx XX (va_up YY 225 m)) (qV G b (mx XX (va_up YY 225 r))) := by
  refine met_start [some (.ref (b + 225))] (by decide +kernel) (Nat.le_of_ble_eq_true rfl) rfl (fun Z hl ok => ?_)
  clear hl
  exact vMo_nots ok r (by rw [hr]; rfl)
theorem vMo_leafOf {Z : Cx} {G : Gx} {b : Nat} {XX YY : Nat → Obj} {m : Obj} (ok : OK Z G b cX12_leafOf 1 1 RX12 (some .int)) (hm : YY 225 = m) : VO Z G b 1 (fun (r : Int32) => QX Z b (qI G b r (mx XX YY))) (mx XX YY) 0 [some (.ref (b + 225))] [] ((fMo_leafOf m).bind some) := by
  unfold fMo_leafOf
  refine r_aload_n (pc := 0) ok dX12_leafOf_0 rfl ?_
  refine r_ldc2 (pc := 1) ok (33602640515001959 : Int64) dX12_leafOf_1 cl2_Mo_132 ?_
  refine k_I (pc := 4) (fun r1 => r1) (fun r1 => mx XX YY) (fun r1 hr_ => c_V (n := 1) ok cls12 sh_225 rfl ml_Mo_221 wv_X12_isWord yk_X12_isWord rfl (Nat.le_of_ble_eq_true rfl) (Nat.le_of_ble_eq_true rfl) (tMo_isWord (hm) hr_) rfl (Nat.le_of_ble_eq_true rfl) dX12_leafOf_4) (fun r1 => ?_)
  refine r_if_eq (pc := 7) ok 14 dX12_leafOf_7 rfl (fun _ => ?_) (fun _ => ?_)
  · refine r_aload_n (pc := 14) ok dX12_leafOf_14 rfl ?_
    refine r_ldc2 (pc := 15) ok (7741247282290978407 : Int64) dX12_leafOf_15 cl2_Mo_134 ?_
    refine k_I (pc := 18) (fun r2 => r2) (fun r2 => mx XX YY) (fun r2 hr_ => c_V (n := 1) ok cls12 sh_225 rfl ml_Mo_221 wv_X12_isWord yk_X12_isWord rfl (Nat.le_of_ble_eq_true rfl) (Nat.le_of_ble_eq_true rfl) (tMo_isWord (hm) hr_) rfl (Nat.le_of_ble_eq_true rfl) dX12_leafOf_18) (fun r2 => ?_)
    refine r_if_eq (pc := 21) ok 28 dX12_leafOf_21 rfl (fun _ => ?_) (fun _ => ?_)
    · refine r_aload_n (pc := 28) ok dX12_leafOf_28 rfl ?_
      refine r_ldc2 (pc := 29) ok (115923103605861 : Int64) dX12_leafOf_29 cl2_Mo_136 ?_
      refine k_I (pc := 32) (fun r3 => r3) (fun r3 => mx XX YY) (fun r3 hr_ => c_V (n := 1) ok cls12 sh_225 rfl ml_Mo_221 wv_X12_isWord yk_X12_isWord rfl (Nat.le_of_ble_eq_true rfl) (Nat.le_of_ble_eq_true rfl) (tMo_isWord (hm) hr_) rfl (Nat.le_of_ble_eq_true rfl) dX12_leafOf_32) (fun r3 => ?_)
      refine r_if_eq (pc := 35) ok 42 dX12_leafOf_35 rfl (fun _ => ?_) (fun _ => ?_)
      · refine r_aload_n (pc := 42) ok dX12_leafOf_42 rfl ?_
        refine r_ldc2 (pc := 43) ok (495874044526 : Int64) dX12_leafOf_43 cl2_Mo_114 ?_
        refine k_I (pc := 46) (fun r4 => r4) (fun r4 => mx XX YY) (fun r4 hr_ => c_V (n := 1) ok cls12 sh_225 rfl ml_Mo_221 wv_X12_isWord yk_X12_isWord rfl (Nat.le_of_ble_eq_true rfl) (Nat.le_of_ble_eq_true rfl) (tMo_isWord (hm) hr_) rfl (Nat.le_of_ble_eq_true rfl) dX12_leafOf_46) (fun r4 => ?_)
        refine r_if_eq (pc := 49) ok 56 dX12_leafOf_49 rfl (fun _ => ?_) (fun _ => ?_)
        · refine r_aload_n (pc := 56) ok dX12_leafOf_56 rfl ?_
          refine r_ldc2 (pc := 57) ok (461414299507 : Int64) dX12_leafOf_57 cl2_Mo_98 ?_
          refine k_I (pc := 60) (fun r5 => r5) (fun r5 => mx XX YY) (fun r5 hr_ => c_V (n := 1) ok cls12 sh_225 rfl ml_Mo_221 wv_X12_isWord yk_X12_isWord rfl (Nat.le_of_ble_eq_true rfl) (Nat.le_of_ble_eq_true rfl) (tMo_isWord (hm) hr_) rfl (Nat.le_of_ble_eq_true rfl) dX12_leafOf_60) (fun r5 => ?_)
          refine r_if_eq (pc := 63) ok 70 dX12_leafOf_63 rfl (fun _ => ?_) (fun _ => ?_)
          · refine r_aload_n (pc := 70) ok dX12_leafOf_70 rfl ?_
            refine r_ldc2 (pc := 71) ok (28518 : Int64) dX12_leafOf_71 cl2_Mo_138 ?_
            refine k_I (pc := 74) (fun r6 => r6) (fun r6 => mx XX YY) (fun r6 hr_ => c_V (n := 1) ok cls12 sh_225 rfl ml_Mo_221 wv_X12_isWord yk_X12_isWord rfl (Nat.le_of_ble_eq_true rfl) (Nat.le_of_ble_eq_true rfl) (tMo_isWord (hm) hr_) rfl (Nat.le_of_ble_eq_true rfl) dX12_leafOf_74) (fun r6 => ?_)
            refine r_if_eq (pc := 77) ok 84 dX12_leafOf_77 rfl (fun _ => ?_) (fun _ => ?_)
            · refine r_aload_n (pc := 84) ok dX12_leafOf_84 rfl ?_
              refine r_ldc2 (pc := 85) ok (482854658917 : Int64) dX12_leafOf_85 cl2_Mo_140 ?_
              refine k_I (pc := 88) (fun r7 => r7) (fun r7 => mx XX YY) (fun r7 hr_ => c_V (n := 1) ok cls12 sh_225 rfl ml_Mo_221 wv_X12_isWord yk_X12_isWord rfl (Nat.le_of_ble_eq_true rfl) (Nat.le_of_ble_eq_true rfl) (tMo_isWord (hm) hr_) rfl (Nat.le_of_ble_eq_true rfl) dX12_leafOf_88) (fun r7 => ?_)
              refine r_if_eq (pc := 91) ok 99 dX12_leafOf_91 rfl (fun _ => ?_) (fun _ => ?_)
              · refine r_aload_n (pc := 99) ok dX12_leafOf_99 rfl ?_
                refine r_ldc2 (pc := 100) ok (461414299502 : Int64) dX12_leafOf_100 cl2_Mo_142 ?_
                refine k_I (pc := 103) (fun r8 => r8) (fun r8 => mx XX YY) (fun r8 hr_ => c_V (n := 1) ok cls12 sh_225 rfl ml_Mo_221 wv_X12_isWord yk_X12_isWord rfl (Nat.le_of_ble_eq_true rfl) (Nat.le_of_ble_eq_true rfl) (tMo_isWord (hm) hr_) rfl (Nat.le_of_ble_eq_true rfl) dX12_leafOf_103) (fun r8 => ?_)
                refine r_if_eq (pc := 106) ok 114 dX12_leafOf_106 rfl (fun _ => ?_) (fun _ => ?_)
                · refine r_aload_n (pc := 114) ok dX12_leafOf_114 rfl ?_
                  refine r_ldc2 (pc := 115) ok (131260264768868 : Int64) dX12_leafOf_115 cl2_Mo_144 ?_
                  refine k_I (pc := 118) (fun r9 => r9) (fun r9 => mx XX YY) (fun r9 hr_ => c_V (n := 1) ok cls12 sh_225 rfl ml_Mo_221 wv_X12_isWord yk_X12_isWord rfl (Nat.le_of_ble_eq_true rfl) (Nat.le_of_ble_eq_true rfl) (tMo_isWord (hm) hr_) rfl (Nat.le_of_ble_eq_true rfl) dX12_leafOf_118) (fun r9 => ?_)
                  refine r_if_eq (pc := 121) ok 129 dX12_leafOf_121 rfl (fun _ => ?_) (fun _ => ?_)
                  · refine r_aload_n (pc := 129) ok dX12_leafOf_129 rfl ?_
                    refine r_ldc2 (pc := 130) ok (121450625394034 : Int64) dX12_leafOf_130 cl2_Mo_146 ?_
                    refine k_I (pc := 133) (fun r10 => r10) (fun r10 => mx XX YY) (fun r10 hr_ => c_V (n := 1) ok cls12 sh_225 rfl ml_Mo_221 wv_X12_isWord yk_X12_isWord rfl (Nat.le_of_ble_eq_true rfl) (Nat.le_of_ble_eq_true rfl) (tMo_isWord (hm) hr_) rfl (Nat.le_of_ble_eq_true rfl) dX12_leafOf_133) (fun r10 => ?_)
                    refine r_if_eq (pc := 136) ok 144 dX12_leafOf_136 rfl (fun _ => ?_) (fun _ => ?_)
                    · refine r_iconst (pc := 144) ok (-1 : Int32) dX12_leafOf_144 ci_m1 ?_
                      exact r_iret (pc := 145) ok dX12_leafOf_145 rfl
                    · refine r_bipush (pc := 139) ok (9 : Int32) dX12_leafOf_139 cb_9 ?_
                      refine r_goto (pc := 141) ok 145 dX12_leafOf_141 rfl ?_
                      exact r_iret (pc := 145) ok dX12_leafOf_145 rfl
                  · refine r_bipush (pc := 124) ok (8 : Int32) dX12_leafOf_124 cb_8 ?_
                    refine r_goto (pc := 126) ok 145 dX12_leafOf_126 rfl ?_
                    exact r_iret (pc := 145) ok dX12_leafOf_145 rfl
                · refine r_bipush (pc := 109) ok (7 : Int32) dX12_leafOf_109 cb_7 ?_
                  refine r_goto (pc := 111) ok 145 dX12_leafOf_111 rfl ?_
                  exact r_iret (pc := 145) ok dX12_leafOf_145 rfl
              · refine r_bipush (pc := 94) ok (6 : Int32) dX12_leafOf_94 cb_6 ?_
                refine r_goto (pc := 96) ok 145 dX12_leafOf_96 rfl ?_
                exact r_iret (pc := 145) ok dX12_leafOf_145 rfl
            · refine r_iconst (pc := 80) ok (5 : Int32) dX12_leafOf_80 ci_5 ?_
              refine r_goto (pc := 81) ok 145 dX12_leafOf_81 rfl ?_
              exact r_iret (pc := 145) ok dX12_leafOf_145 rfl
          · refine r_iconst (pc := 66) ok (4 : Int32) dX12_leafOf_66 ci_4 ?_
            refine r_goto (pc := 67) ok 145 dX12_leafOf_67 rfl ?_
            exact r_iret (pc := 145) ok dX12_leafOf_145 rfl
        · refine r_iconst (pc := 52) ok (3 : Int32) dX12_leafOf_52 ci_3 ?_
          refine r_goto (pc := 53) ok 145 dX12_leafOf_53 rfl ?_
          exact r_iret (pc := 145) ok dX12_leafOf_145 rfl
      · refine r_iconst (pc := 38) ok (2 : Int32) dX12_leafOf_38 ci_2 ?_
        refine r_goto (pc := 39) ok 145 dX12_leafOf_39 rfl ?_
        exact r_iret (pc := 145) ok dX12_leafOf_145 rfl
    · refine r_iconst (pc := 24) ok (1 : Int32) dX12_leafOf_24 ci_1 ?_
      refine r_goto (pc := 25) ok 145 dX12_leafOf_25 rfl ?_
      exact r_iret (pc := 145) ok dX12_leafOf_145 rfl
  · refine r_iconst (pc := 10) ok (0 : Int32) dX12_leafOf_10 ci_0 ?_
    refine r_goto (pc := 11) ok 145 dX12_leafOf_11 rfl ?_
    exact r_iret (pc := 145) ok dX12_leafOf_145 rfl
theorem tMo_leafOf {l : Launch} {G : Gx} {b : Nat} {XX YY : Nat → Obj} {m : Obj} (hm : YY 225 = m) {r : Int32} (hr : fMo_leafOf m = some r) : MetG l G b yX12_leafOf cX12_leafOf 1 (some .int) 1 [.ref (b + 225)] (mx XX YY) (qI G b r (mx XX YY)) := by
  refine met_start [some (.ref (b + 225))] (by decide +kernel) (Nat.le_of_ble_eq_true rfl) rfl (fun Z hl ok => ?_)
  clear hl
  exact vMo_leafOf ok hm r (by rw [hr]; rfl)
theorem wMo_operand_J56 {Z : Cx} {G : Gx} {b : Nat} {XX YY : Nat → Obj} {m : Obj} (ok : OK Z G b cX12_operand 5 2 RX12 (some .boolean)) : VO Z G b 5 (fun (r : Int32 × Obj) => QX Z b (qI G b r.1 (mx XX (va_up YY 225 r.2)))) (mx XX (va_up YY 225 m)) 56 [some (.ref (b + 225)), none, none, none, none] [] ((fMo_operand_J56 m).bind some) := by
  unfold fMo_operand_J56
  refine r_aload_n (pc := 56) ok dX12_operand_56 rfl ?_
  refine r_iconst (pc := 57) ok (4 : Int32) dX12_operand_57 ci_4 ?_
  refine k_I (pc := 58) (fun r4 => r4.1) (fun r4 => mx XX (va_up YY 225 r4.2)) (fun r4 hr_ => c_V (n := 1) ok cls12 sh_225 rfl ml_Mo_187 wv_X12_bad yk_X12_bad rfl (Nat.le_of_ble_eq_true rfl) (Nat.le_of_ble_eq_true rfl) (tMo_bad hr_) rfl (Nat.le_of_ble_eq_true rfl) dX12_operand_58) (fun r4 => ?_)
  exact r_zret (pc := 61) ok dX12_operand_61 rfl rfl
theorem wMo_operand_J233 {Z : Cx} {G : Gx} {b : Nat} {XX YY : Nat → Obj} {m : Obj} (ok : OK Z G b cX12_operand 5 2 RX12 (some .boolean)) : VO Z G b 5 (fun (r : Int32 × Obj) => QX Z b (qI G b r.1 (mx XX (va_up YY 225 r.2)))) (mx XX (va_up YY 225 m)) 233 [some (.ref (b + 225)), none, none, none, none] [] ((fMo_operand_J233 m).bind some) := by
  unfold fMo_operand_J233
  refine r_aload_n (pc := 233) ok dX12_operand_233 rfl ?_
  refine r_iconst (pc := 234) ok (1 : Int32) dX12_operand_234 ci_1 ?_
  refine k_I (pc := 235) (fun r8 => r8.1) (fun r8 => mx XX (va_up YY 225 r8.2)) (fun r8 hr_ => c_V (n := 1) ok cls12 sh_225 rfl ml_Mo_187 wv_X12_bad yk_X12_bad rfl (Nat.le_of_ble_eq_true rfl) (Nat.le_of_ble_eq_true rfl) (tMo_bad hr_) rfl (Nat.le_of_ble_eq_true rfl) dX12_operand_235) (fun r8 => ?_)
  exact r_zret (pc := 238) ok dX12_operand_238 rfl rfl
theorem wMo_operand_J182 {Z : Cx} {G : Gx} {b : Nat} {XX YY : Nat → Obj} {m : Obj} {v3 : Int32} {k0 : Int32} (ok : OK Z G b cX12_operand 5 2 RX12 (some .boolean)) : VO Z G b 5 (fun (r : Int32 × Obj) => QX Z b (qI G b r.1 (mx XX (va_up YY 225 r.2)))) (mx XX (va_up YY 225 m)) 182 [some (.ref (b + 225)), none, none, some (.int v3), none] [.int k0] ((fMo_operand_J182 m v3 k0).bind some) := by
  unfold fMo_operand_J182
  refine r_istore (pc := 182) ok dX12_operand_182 (Nat.le_of_ble_eq_true rfl) rfl ?_
  refine r_iload (pc := 184) ok dX12_operand_184 rfl ?_
  refine r_if_ne (pc := 186) ok 191 dX12_operand_186 rfl (fun _ => ?_) (fun _ => ?_)
  · refine r_iconst (pc := 189) ok (0 : Int32) dX12_operand_189 ci_0 ?_
    exact r_zret (pc := 190) ok dX12_operand_190 za_0 rfl
  · refine r_aload_n (pc := 191) ok dX12_operand_191 rfl ?_
    refine r_iload_n (pc := 192) ok dX12_operand_192 rfl ?_
    refine r_iconst (pc := 193) ok (0 : Int32) dX12_operand_193 ci_0 ?_
    refine r_aload_n (pc := 194) ok dX12_operand_194 rfl ?_
    refine r_getI (pc := 195) ok cls12 sh_225 (k := 18) rfl (Nat.le_of_ble_eq_true rfl) (mx_r (by decide) (va_up_self _ _ _)) dX12_operand_195 fl_Mo_197 ?_
    refine k_V (pc := 198)  (fun r15 => mx XX (va_up YY 225 r15)) (fun r15 hr_ => c_V (n := 3) ok cls12 sh_225 rfl ml_Mo_436 wv_X12_code yk_X12_code rfl (Nat.le_of_ble_eq_true rfl) (Nat.le_of_ble_eq_true rfl) (tMo_code hr_) rfl (Nat.le_of_ble_eq_true rfl) dX12_operand_198) (fun r15 => ?_)
    refine r_aload_n (pc := 201) ok dX12_operand_201 rfl ?_
    refine k_V (pc := 202)  (fun r16 => mx XX (va_up YY 225 r16)) (fun r16 hr_ => c_V (n := 0) ok cls12 sh_225 rfl ml_Mo_190 wv_X12_next yk_X12_next rfl (Nat.le_of_ble_eq_true rfl) (Nat.le_of_ble_eq_true rfl) (tMo_next hr_) rfl (Nat.le_of_ble_eq_true rfl) dX12_operand_202) (fun r16 => ?_)
    refine r_iconst (pc := 205) ok (1 : Int32) dX12_operand_205 ci_1 ?_
    exact r_zret (pc := 206) ok dX12_operand_206 za_1 rfl
theorem wMo_operand_J103 {Z : Cx} {G : Gx} {b : Nat} {XX YY : Nat → Obj} {m : Obj} {k1 : Int32} {k2 : Int32} (ok : OK Z G b cX12_operand 5 2 RX12 (some .boolean)) : VO Z G b 5 (fun (r : Int32 × Obj) => QX Z b (qI G b r.1 (mx XX (va_up YY 225 r.2)))) (mx XX (va_up YY 225 m)) 103 [some (.ref (b + 225)), none, none, none, none] [.int k2, .int k1, .ref (b + 239)] ((fMo_operand_J103 m k1 k2).bind some) := by
  unfold fMo_operand_J103
  refine r_iast (pc := 103) ok sh_239 (j := 14) rfl rfl (fun s_ => mx XX (va_up YY 225 s_)) (pm_r _ _).1 (pm_r _ _).2 dX12_operand_103 (fun i19 s20 => ?_)
  refine r_aload_n (pc := 104) ok dX12_operand_104 rfl ?_
  refine r_dup (pc := 105) ok dX12_operand_105 rfl ?_
  refine r_getI (pc := 106) ok cls12 sh_225 (k := 41) rfl (Nat.le_of_ble_eq_true rfl) (mx_r (by decide) (va_up_self _ _ _)) dX12_operand_106 fl_Mo_433 ?_
  refine r_iconst (pc := 109) ok (1 : Int32) dX12_operand_109 ci_1 ?_
  refine r_iadd (pc := 110) ok dX12_operand_110 ?_
  refine r_putI (pc := 111) ok cls12 sh_225 (k := 41) rfl (Nat.le_of_ble_eq_true rfl) (fun s_ => mx XX (va_up YY 225 s_)) (pm_r _ _).1 (pm_r _ _).2 rfl rfl rfl dX12_operand_111 fl_Mo_433 (fun s21 => ?_)
  refine r_aload_n (pc := 114) ok dX12_operand_114 rfl ?_
  refine r_dup (pc := 115) ok dX12_operand_115 rfl ?_
  refine r_getI (pc := 116) ok cls12 sh_225 (k := 42) rfl (Nat.le_of_ble_eq_true rfl) (mx_r (by decide) (va_up_self _ _ _)) dX12_operand_116 fl_Mo_439 ?_
  refine r_iconst (pc := 119) ok (1 : Int32) dX12_operand_119 ci_1 ?_
  refine r_iadd (pc := 120) ok dX12_operand_120 ?_
  refine r_putI (pc := 121) ok cls12 sh_225 (k := 42) rfl (Nat.le_of_ble_eq_true rfl) (fun s_ => mx XX (va_up YY 225 s_)) (pm_r _ _).1 (pm_r _ _).2 rfl rfl rfl dX12_operand_121 fl_Mo_439 (fun s22 => ?_)
  refine r_iconst (pc := 124) ok (1 : Int32) dX12_operand_124 ci_1 ?_
  exact r_zret (pc := 125) ok dX12_operand_125 za_1 rfl
theorem wMo_operand_J84 {Z : Cx} {G : Gx} {b : Nat} {XX YY : Nat → Obj} {m : Obj} {v1 : Int32} (ok : OK Z G b cX12_operand 5 2 RX12 (some .boolean)) : VO Z G b 5 (fun (r : Int32 × Obj) => QX Z b (qI G b r.1 (mx XX (va_up YY 225 r.2)))) (mx XX (va_up YY 225 m)) 84 [some (.ref (b + 225)), some (.int v1), none, none, none] [] ((fMo_operand_J84 m v1).bind some) := by
  unfold fMo_operand_J84
  refine r_aload_n (pc := 84) ok dX12_operand_84 rfl ?_
  refine r_getR (pc := 85) ok cls12 sh_225 (k := 38) rfl (Nat.le_of_ble_eq_true rfl) rfl dX12_operand_85 fl_Mo_75 ?_
  refine r_aload_n (pc := 88) ok dX12_operand_88 rfl ?_
  refine r_getI (pc := 89) ok cls12 sh_225 (k := 41) rfl (Nat.le_of_ble_eq_true rfl) (mx_r (by decide) (va_up_self _ _ _)) dX12_operand_89 fl_Mo_433 ?_
  refine r_iload_n (pc := 92) ok dX12_operand_92 rfl ?_
  refine r_if_eq (pc := 93) ok 101 dX12_operand_93 rfl (fun _ => ?_) (fun _ => ?_)
  · refine r_bipush (pc := 101) ok (23 : Int32) dX12_operand_101 cb_23 ?_
    refine r_lv (lk_s (lk_n (lk_n (lk_n (lk_n lk_0 _) _) _) _) _) ?_
    exact wMo_operand_J103 ok
  · refine r_bipush (pc := 96) ok (20 : Int32) dX12_operand_96 cb_20 ?_
    refine r_goto (pc := 98) ok 103 dX12_operand_98 rfl ?_
    refine r_lv (lk_s (lk_n (lk_n (lk_n (lk_n lk_0 _) _) _) _) _) ?_
    exact wMo_operand_J103 ok
theorem wMo_operand_J38 {Z : Cx} {G : Gx} {b : Nat} {XX YY : Nat → Obj} {m : Obj} {v1 : Int32} {v2 : Int32} {v3 : Int32} (ok : OK Z G b cX12_operand 5 2 RX12 (some .boolean)) : VO Z G b 5 (fun (r : Int32 × Obj) => QX Z b (qI G b r.1 (mx XX (va_up YY 225 r.2)))) (mx XX (va_up YY 225 m)) 38 [some (.ref (b + 225)), some (.int v1), some (.int v2), some (.int v3), none] [] ((fMo_operand_J38 m v1 v2 v3).bind some) := by
  unfold fMo_operand_J38
  refine r_aload_n (pc := 38) ok dX12_operand_38 rfl ?_
  refine r_getI (pc := 39) ok cls12 sh_225 (k := 40) rfl (Nat.le_of_ble_eq_true rfl) (mx_r (by decide) (va_up_self _ _ _)) dX12_operand_39 fl_Mo_445 ?_
  refine r_bipush (pc := 42) ok (20 : Int32) dX12_operand_42 cb_20 ?_
  refine r_icmp_eq (pc := 44) ok 56 dX12_operand_44 rfl (fun _ => ?_) (fun _ => ?_)
  · refine r_lv (lk_s (lk_n (lk_n (lk_n (lk_n lk_0 _) _) _) _) _) ?_
    exact wMo_operand_J56 ok
  · refine r_aload_n (pc := 47) ok dX12_operand_47 rfl ?_
    refine r_getI (pc := 48) ok cls12 sh_225 (k := 42) rfl (Nat.le_of_ble_eq_true rfl) (mx_r (by decide) (va_up_self _ _ _)) dX12_operand_48 fl_Mo_439 ?_
    refine r_bipush (pc := 51) ok (8 : Int32) dX12_operand_51 cb_8 ?_
    refine r_icmp_le (pc := 53) ok 62 dX12_operand_53 rfl (fun _ => ?_) (fun _ => ?_)
    · refine r_aload_n (pc := 62) ok dX12_operand_62 rfl ?_
      refine r_dup (pc := 63) ok dX12_operand_63 rfl ?_
      refine r_getI (pc := 64) ok cls12 sh_225 (k := 40) rfl (Nat.le_of_ble_eq_true rfl) (mx_r (by decide) (va_up_self _ _ _)) dX12_operand_64 fl_Mo_445 ?_
      refine r_iconst (pc := 67) ok (1 : Int32) dX12_operand_67 ci_1 ?_
      refine r_iadd (pc := 68) ok dX12_operand_68 ?_
      refine r_putI (pc := 69) ok cls12 sh_225 (k := 40) rfl (Nat.le_of_ble_eq_true rfl) (fun s_ => mx XX (va_up YY 225 s_)) (pm_r _ _).1 (pm_r _ _).2 rfl rfl rfl dX12_operand_69 fl_Mo_445 (fun s5 => ?_)
      refine r_aload_n (pc := 72) ok dX12_operand_72 rfl ?_
      refine k_V (pc := 73)  (fun r6 => mx XX (va_up YY 225 r6)) (fun r6 hr_ => c_V (n := 0) ok cls12 sh_225 rfl ml_Mo_190 wv_X12_next yk_X12_next rfl (Nat.le_of_ble_eq_true rfl) (Nat.le_of_ble_eq_true rfl) (tMo_next hr_) rfl (Nat.le_of_ble_eq_true rfl) dX12_operand_73) (fun r6 => ?_)
      refine r_iload_n (pc := 76) ok dX12_operand_76 rfl ?_
      refine r_if_ne (pc := 77) ok 84 dX12_operand_77 rfl (fun _ => ?_) (fun _ => ?_)
      · refine r_iload_n (pc := 80) ok dX12_operand_80 rfl ?_
        refine r_if_eq (pc := 81) ok 126 dX12_operand_81 rfl (fun _ => ?_) (fun _ => ?_)
        · refine r_aload_n (pc := 126) ok dX12_operand_126 rfl ?_
          refine r_iconst (pc := 127) ok (1 : Int32) dX12_operand_127 ci_1 ?_
          refine r_putI (pc := 128) ok cls12 sh_225 (k := 43) rfl (Nat.le_of_ble_eq_true rfl) (fun s_ => mx XX (va_up YY 225 s_)) (pm_r _ _).1 (pm_r _ _).2 rfl rfl rfl dX12_operand_128 fl_Mo_448 (fun s7 => ?_)
          refine r_iload_n (pc := 131) ok dX12_operand_131 rfl ?_
          refine r_iconst (pc := 132) ok (4 : Int32) dX12_operand_132 ci_4 ?_
          refine r_icmp_ge (pc := 133) ok 145 dX12_operand_133 rfl (fun _ => ?_) (fun _ => ?_)
          · refine r_iload_n (pc := 145) ok dX12_operand_145 rfl ?_
            refine r_bipush (pc := 146) ok (6 : Int32) dX12_operand_146 cb_6 ?_
            refine r_icmp_ge (pc := 148) ok 207 dX12_operand_148 rfl (fun _ => ?_) (fun _ => ?_)
            · refine r_aload_n (pc := 207) ok dX12_operand_207 rfl ?_
              refine r_getI (pc := 208) ok cls12 sh_225 (k := 11) rfl (Nat.le_of_ble_eq_true rfl) (mx_r (by decide) (va_up_self _ _ _)) dX12_operand_208 fl_Mo_161 ?_
              refine r_iconst (pc := 211) ok (3 : Int32) dX12_operand_211 ci_3 ?_
              refine r_icmp_ne (pc := 212) ok 233 dX12_operand_212 rfl (fun _ => ?_) (fun _ => ?_)
              · refine r_aload_n (pc := 215) ok dX12_operand_215 rfl ?_
                refine r_getI (pc := 216) ok cls12 sh_225 (k := 14) rfl (Nat.le_of_ble_eq_true rfl) (mx_r (by decide) (va_up_self _ _ _)) dX12_operand_216 fl_Mo_171 ?_
                refine r_bipush (pc := 219) ok (60 : Int32) dX12_operand_219 cb_60 ?_
                refine r_icmp_lt (pc := 221) ok 233 dX12_operand_221 rfl (fun _ => ?_) (fun _ => ?_)
                · refine r_lv (lk_s (lk_n (lk_n (lk_n (lk_n lk_0 _) _) _) _) _) ?_
                  exact wMo_operand_J233 ok
                · refine r_aload_n (pc := 224) ok dX12_operand_224 rfl ?_
                  refine r_getI (pc := 225) ok cls12 sh_225 (k := 14) rfl (Nat.le_of_ble_eq_true rfl) (mx_r (by decide) (va_up_self _ _ _)) dX12_operand_225 fl_Mo_171 ?_
                  refine r_bipush (pc := 228) ok (62 : Int32) dX12_operand_228 cb_62 ?_
                  refine r_icmp_le (pc := 230) ok 239 dX12_operand_230 rfl (fun _ => ?_) (fun _ => ?_)
                  · refine r_aload_n (pc := 239) ok dX12_operand_239 rfl ?_
                    refine r_getI (pc := 240) ok cls12 sh_225 (k := 14) rfl (Nat.le_of_ble_eq_true rfl) (mx_r (by decide) (va_up_self _ _ _)) dX12_operand_240 fl_Mo_171 ?_
                    refine r_bndI (fun x9 => ?_)
                    refine r_istore (pc := 243) ok dX12_operand_243 (Nat.le_of_ble_eq_true rfl) rfl ?_
                    refine r_aload_n (pc := 245) ok dX12_operand_245 rfl ?_
                    refine k_V (pc := 246)  (fun r10 => mx XX (va_up YY 225 r10)) (fun r10 hr_ => c_V (n := 0) ok cls12 sh_225 rfl ml_Mo_190 wv_X12_next yk_X12_next rfl (Nat.le_of_ble_eq_true rfl) (Nat.le_of_ble_eq_true rfl) (tMo_next hr_) rfl (Nat.le_of_ble_eq_true rfl) dX12_operand_246) (fun r10 => ?_)
                    refine r_aload_n (pc := 249) ok dX12_operand_249 rfl ?_
                    refine r_getI (pc := 250) ok cls12 sh_225 (k := 11) rfl (Nat.le_of_ble_eq_true rfl) (mx_r (by decide) (va_up_self _ _ _)) dX12_operand_250 fl_Mo_161 ?_
                    refine r_iconst (pc := 253) ok (2 : Int32) dX12_operand_253 ci_2 ?_
                    refine r_icmp_eq (pc := 254) ok 263 dX12_operand_254 rfl (fun _ => ?_) (fun _ => ?_)
                    · refine r_aload_n (pc := 263) ok dX12_operand_263 rfl ?_
                      refine r_iload_n (pc := 264) ok dX12_operand_264 rfl ?_
                      refine r_iload (pc := 265) ok dX12_operand_265 rfl ?_
                      refine r_aload_n (pc := 267) ok dX12_operand_267 rfl ?_
                      refine r_getI (pc := 268) ok cls12 sh_225 (k := 14) rfl (Nat.le_of_ble_eq_true rfl) (mx_r (by decide) (va_up_self _ _ _)) dX12_operand_268 fl_Mo_171 ?_
                      refine k_V (pc := 271)  (fun r11 => mx XX (va_up YY 225 r11)) (fun r11 hr_ => c_V (n := 3) ok cls12 sh_225 rfl ml_Mo_436 wv_X12_code yk_X12_code rfl (Nat.le_of_ble_eq_true rfl) (Nat.le_of_ble_eq_true rfl) (tMo_code hr_) rfl (Nat.le_of_ble_eq_true rfl) dX12_operand_271) (fun r11 => ?_)
                      refine r_aload_n (pc := 274) ok dX12_operand_274 rfl ?_
                      refine k_V (pc := 275)  (fun r12 => mx XX (va_up YY 225 r12)) (fun r12 hr_ => c_V (n := 0) ok cls12 sh_225 rfl ml_Mo_190 wv_X12_next yk_X12_next rfl (Nat.le_of_ble_eq_true rfl) (Nat.le_of_ble_eq_true rfl) (tMo_next hr_) rfl (Nat.le_of_ble_eq_true rfl) dX12_operand_275) (fun r12 => ?_)
                      refine r_iconst (pc := 278) ok (1 : Int32) dX12_operand_278 ci_1 ?_
                      exact r_zret (pc := 279) ok dX12_operand_279 za_1 rfl
                    · refine r_aload_n (pc := 257) ok dX12_operand_257 rfl ?_
                      refine r_iconst (pc := 258) ok (1 : Int32) dX12_operand_258 ci_1 ?_
                      refine k_I (pc := 259) (fun r13 => r13.1) (fun r13 => mx XX (va_up YY 225 r13.2)) (fun r13 hr_ => c_V (n := 1) ok cls12 sh_225 rfl ml_Mo_187 wv_X12_bad yk_X12_bad rfl (Nat.le_of_ble_eq_true rfl) (Nat.le_of_ble_eq_true rfl) (tMo_bad hr_) rfl (Nat.le_of_ble_eq_true rfl) dX12_operand_259) (fun r13 => ?_)
                      exact r_zret (pc := 262) ok dX12_operand_262 rfl rfl
                  · refine r_lv (lk_s (lk_n (lk_n (lk_n (lk_n lk_0 _) _) _) _) _) ?_
                    exact wMo_operand_J233 ok
              · refine r_lv (lk_s (lk_n (lk_n (lk_n (lk_n lk_0 _) _) _) _) _) ?_
                exact wMo_operand_J233 ok
            · refine r_iload_n (pc := 151) ok dX12_operand_151 rfl ?_
              refine r_iconst (pc := 152) ok (4 : Int32) dX12_operand_152 ci_4 ?_
              refine r_icmp_ne (pc := 153) ok 171 dX12_operand_153 rfl (fun _ => ?_) (fun _ => ?_)
              · refine r_aload_n (pc := 156) ok dX12_operand_156 rfl ?_
                refine r_bipush (pc := 157) ok (6 : Int32) dX12_operand_157 cb_6 ?_
                refine r_aload_n (pc := 159) ok dX12_operand_159 rfl ?_
                refine r_getR (pc := 160) ok cls12 sh_225 (k := 6) rfl (Nat.le_of_ble_eq_true rfl) rfl dX12_operand_160 fl_Mo_33 ?_
                refine r_iconst (pc := 163) ok (1 : Int32) dX12_operand_163 ci_1 ?_
                refine r_ialdc (pc := 164) ok sh_227 (j := 2) rfl (i := 1) (by decide +kernel) (mx_r (by decide) (va_up_self _ _ _)) dX12_operand_164 ?_
                refine k_I (pc := 165) (fun r14 => r14.1) (fun r14 => mx XX (va_up YY 225 r14.2)) (fun r14 hr_ => c_V (n := 2) ok cls12 sh_225 rfl ml_Mo_212 wv_X12_looksAt yk_X12_looksAt rfl (Nat.le_of_ble_eq_true rfl) (Nat.le_of_ble_eq_true rfl) (tMo_looksAt hr_) rfl (Nat.le_of_ble_eq_true rfl) dX12_operand_165) (fun r14 => ?_)
                refine r_goto (pc := 168) ok 182 dX12_operand_168 rfl ?_
                refine r_lv (lk_s (lk_n (lk_n (lk_s (lk_n lk_0 _) _) _) _) _) ?_
                exact wMo_operand_J182 ok
              · refine r_aload_n (pc := 171) ok dX12_operand_171 rfl ?_
                refine r_iconst (pc := 172) ok (0 : Int32) dX12_operand_172 ci_0 ?_
                refine r_aload_n (pc := 173) ok dX12_operand_173 rfl ?_
                refine r_getR (pc := 174) ok cls12 sh_225 (k := 6) rfl (Nat.le_of_ble_eq_true rfl) rfl dX12_operand_174 fl_Mo_33 ?_
                refine r_iconst (pc := 177) ok (0 : Int32) dX12_operand_177 ci_0 ?_
                refine r_ialdc (pc := 178) ok sh_227 (j := 2) rfl (i := 0) (by decide +kernel) (mx_r (by decide) (va_up_self _ _ _)) dX12_operand_178 ?_
                refine k_I (pc := 179) (fun r17 => r17.1) (fun r17 => mx XX (va_up YY 225 r17.2)) (fun r17 hr_ => c_V (n := 2) ok cls12 sh_225 rfl ml_Mo_212 wv_X12_looksAt yk_X12_looksAt rfl (Nat.le_of_ble_eq_true rfl) (Nat.le_of_ble_eq_true rfl) (tMo_looksAt hr_) rfl (Nat.le_of_ble_eq_true rfl) dX12_operand_179) (fun r17 => ?_)
                refine r_lv (lk_s (lk_n (lk_n (lk_s (lk_n lk_0 _) _) _) _) _) ?_
                exact wMo_operand_J182 ok
          · refine r_aload_n (pc := 136) ok dX12_operand_136 rfl ?_
            refine r_iload_n (pc := 137) ok dX12_operand_137 rfl ?_
            refine r_iconst (pc := 138) ok (0 : Int32) dX12_operand_138 ci_0 ?_
            refine r_iconst (pc := 139) ok (0 : Int32) dX12_operand_139 ci_0 ?_
            refine k_V (pc := 140)  (fun r18 => mx XX (va_up YY 225 r18)) (fun r18 hr_ => c_V (n := 3) ok cls12 sh_225 rfl ml_Mo_436 wv_X12_code yk_X12_code rfl (Nat.le_of_ble_eq_true rfl) (Nat.le_of_ble_eq_true rfl) (tMo_code hr_) rfl (Nat.le_of_ble_eq_true rfl) dX12_operand_140) (fun r18 => ?_)
            refine r_iconst (pc := 143) ok (1 : Int32) dX12_operand_143 ci_1 ?_
            exact r_zret (pc := 144) ok dX12_operand_144 za_1 rfl
        · refine r_lv (lk_s (lk_s (lk_n (lk_n (lk_n lk_0 _) _) _) _) _) ?_
          exact wMo_operand_J84 ok
      · refine r_lv (lk_s (lk_s (lk_n (lk_n (lk_n lk_0 _) _) _) _) _) ?_
        exact wMo_operand_J84 ok
    · refine r_lv (lk_s (lk_n (lk_n (lk_n (lk_n lk_0 _) _) _) _) _) ?_
      exact wMo_operand_J56 ok
theorem vMo_operand {Z : Cx} {G : Gx} {b : Nat} {XX YY : Nat → Obj} {m : Obj} (ok : OK Z G b cX12_operand 5 2 RX12 (some .boolean)) : VO Z G b 5 (fun (r : Int32 × Obj) => QX Z b (qI G b r.1 (mx XX (va_up YY 225 r.2)))) (mx XX (va_up YY 225 m)) 0 [some (.ref (b + 225)), none, none, none, none] [] ((fMo_operand m).bind some) := by
  unfold fMo_operand
  refine r_aload_n (pc := 0) ok dX12_operand_0 rfl ?_
  refine r_ldc2 (pc := 1) ok (7237492 : Int64) dX12_operand_1 cl2_Mo_130 ?_
  refine k_I (pc := 4) (fun r1 => r1) (fun r1 => mx XX (va_up YY 225 m)) (fun r1 hr_ => c_V (n := 1) ok cls12 sh_225 rfl ml_Mo_221 wv_X12_isWord yk_X12_isWord rfl (Nat.le_of_ble_eq_true rfl) (Nat.le_of_ble_eq_true rfl) (tMo_isWord (va_up_self _ _ _) hr_) rfl (Nat.le_of_ble_eq_true rfl) dX12_operand_4) (fun r1 => ?_)
  refine r_istore_n (pc := 7) ok dX12_operand_7 (Nat.le_of_ble_eq_true rfl) rfl ?_
  refine r_aload_n (pc := 8) ok dX12_operand_8 rfl ?_
  refine r_bipush (pc := 9) ok (40 : Int32) dX12_operand_9 cb_40 ?_
  refine k_I (pc := 11) (fun r2 => r2) (fun r2 => mx XX (va_up YY 225 m)) (fun r2 hr_ => c_V (n := 1) ok cls12 sh_225 rfl ml_Mo_184 wv_X12_isSign yk_X12_isSign rfl (Nat.le_of_ble_eq_true rfl) (Nat.le_of_ble_eq_true rfl) (tMo_isSign (va_up_self _ _ _) hr_) rfl (Nat.le_of_ble_eq_true rfl) dX12_operand_11) (fun r2 => ?_)
  refine r_istore_n (pc := 14) ok dX12_operand_14 (Nat.le_of_ble_eq_true rfl) rfl ?_
  refine r_aload_n (pc := 15) ok dX12_operand_15 rfl ?_
  refine k_I (pc := 16) (fun r3 => r3) (fun r3 => mx XX (va_up YY 225 m)) (fun r3 hr_ => c_V (n := 0) ok cls12 sh_225 rfl ml_Mo_442 wv_X12_leafOf yk_X12_leafOf rfl (Nat.le_of_ble_eq_true rfl) (Nat.le_of_ble_eq_true rfl) (tMo_leafOf (va_up_self _ _ _) hr_) rfl (Nat.le_of_ble_eq_true rfl) dX12_operand_16) (fun r3 => ?_)
  refine r_istore_n (pc := 19) ok dX12_operand_19 (Nat.le_of_ble_eq_true rfl) rfl ?_
  refine r_iload_n (pc := 20) ok dX12_operand_20 rfl ?_
  refine r_if_ne (pc := 21) ok 38 dX12_operand_21 rfl (fun _ => ?_) (fun _ => ?_)
  · refine r_iload_n (pc := 24) ok dX12_operand_24 rfl ?_
    refine r_if_ne (pc := 25) ok 38 dX12_operand_25 rfl (fun _ => ?_) (fun _ => ?_)
    · refine r_iload_n (pc := 28) ok dX12_operand_28 rfl ?_
      refine r_if_ge (pc := 29) ok 38 dX12_operand_29 rfl (fun _ => ?_) (fun _ => ?_)
      · exact wMo_operand_J38 ok
      · refine r_aload_n (pc := 32) ok dX12_operand_32 rfl ?_
        refine r_iconst (pc := 33) ok (1 : Int32) dX12_operand_33 ci_1 ?_
        refine k_I (pc := 34) (fun r23 => r23.1) (fun r23 => mx XX (va_up YY 225 r23.2)) (fun r23 hr_ => c_V (n := 1) ok cls12 sh_225 rfl ml_Mo_187 wv_X12_bad yk_X12_bad rfl (Nat.le_of_ble_eq_true rfl) (Nat.le_of_ble_eq_true rfl) (tMo_bad hr_) rfl (Nat.le_of_ble_eq_true rfl) dX12_operand_34) (fun r23 => ?_)
        exact r_zret (pc := 37) ok dX12_operand_37 rfl rfl
    · exact wMo_operand_J38 ok
  · exact wMo_operand_J38 ok
theorem tMo_operand {l : Launch} {G : Gx} {b : Nat} {XX YY : Nat → Obj} {m : Obj} {r : Int32 × Obj} (hr : fMo_operand m = some r) : MetG l G b yX12_operand cX12_operand 5 (some .boolean) 2 [.ref (b + 225)] (mx XX (va_up YY 225 m)) (qI G b r.1 (mx XX (va_up YY 225 r.2))) := by
  refine met_start [some (.ref (b + 225)), none, none, none, none] (by decide +kernel) (Nat.le_of_ble_eq_true rfl) rfl (fun Z hl ok => ?_)
  clear hl
  exact vMo_operand ok r (by rw [hr]; rfl)
theorem wMo_behind_J114 {Z : Cx} {G : Gx} {b : Nat} {XX YY : Nat → Obj} {m : Obj} (ok : OK Z G b cX12_behind 1 2 RX12 (some .boolean)) : VO Z G b 1 (fun (r : Int32 × Obj) => QX Z b (qI G b r.1 (mx XX (va_up YY 225 r.2)))) (mx XX (va_up YY 225 m)) 114 [some (.ref (b + 225))] [] ((fMo_behind_J114 m).bind some) := by
  unfold fMo_behind_J114
  refine r_aload_n (pc := 114) ok dX12_behind_114 rfl ?_
  refine r_iconst (pc := 115) ok (1 : Int32) dX12_behind_115 ci_1 ?_
  refine k_I (pc := 116) (fun r6 => r6.1) (fun r6 => mx XX (va_up YY 225 r6.2)) (fun r6 hr_ => c_V (n := 1) ok cls12 sh_225 rfl ml_Mo_187 wv_X12_bad yk_X12_bad rfl (Nat.le_of_ble_eq_true rfl) (Nat.le_of_ble_eq_true rfl) (tMo_bad hr_) rfl (Nat.le_of_ble_eq_true rfl) dX12_behind_116) (fun r6 => ?_)
  exact r_zret (pc := 119) ok dX12_behind_119 rfl rfl
theorem wMo_behind_J70 {Z : Cx} {G : Gx} {b : Nat} {XX YY : Nat → Obj} {m : Obj} {k1 : Int32} {k2 : Int32} (ok : OK Z G b cX12_behind 1 2 RX12 (some .boolean)) : VO Z G b 1 (fun (r : Int32 × Obj) => QX Z b (qI G b r.1 (mx XX (va_up YY 225 r.2)))) (mx XX (va_up YY 225 m)) 70 [some (.ref (b + 225))] [.int k2, .int k1, .ref (b + 239)] ((fMo_behind_J70 m k1 k2).bind some) := by
  unfold fMo_behind_J70
  refine r_iast (pc := 70) ok sh_239 (j := 14) rfl rfl (fun s_ => mx XX (va_up YY 225 s_)) (pm_r _ _).1 (pm_r _ _).2 dX12_behind_70 (fun i13 s14 => ?_)
  refine r_aload_n (pc := 71) ok dX12_behind_71 rfl ?_
  refine r_dup (pc := 72) ok dX12_behind_72 rfl ?_
  refine r_getI (pc := 73) ok cls12 sh_225 (k := 41) rfl (Nat.le_of_ble_eq_true rfl) (mx_r (by decide) (va_up_self _ _ _)) dX12_behind_73 fl_Mo_433 ?_
  refine r_iconst (pc := 76) ok (1 : Int32) dX12_behind_76 ci_1 ?_
  refine r_iadd (pc := 77) ok dX12_behind_77 ?_
  refine r_putI (pc := 78) ok cls12 sh_225 (k := 41) rfl (Nat.le_of_ble_eq_true rfl) (fun s_ => mx XX (va_up YY 225 s_)) (pm_r _ _).1 (pm_r _ _).2 rfl rfl rfl dX12_behind_78 fl_Mo_433 (fun s15 => ?_)
  refine r_aload_n (pc := 81) ok dX12_behind_81 rfl ?_
  refine r_iconst (pc := 82) ok (0 : Int32) dX12_behind_82 ci_0 ?_
  refine r_putI (pc := 83) ok cls12 sh_225 (k := 43) rfl (Nat.le_of_ble_eq_true rfl) (fun s_ => mx XX (va_up YY 225 s_)) (pm_r _ _).1 (pm_r _ _).2 rfl rfl rfl dX12_behind_83 fl_Mo_448 (fun s16 => ?_)
  refine r_aload_n (pc := 86) ok dX12_behind_86 rfl ?_
  refine k_V (pc := 87)  (fun r17 => mx XX (va_up YY 225 r17)) (fun r17 hr_ => c_V (n := 0) ok cls12 sh_225 rfl ml_Mo_190 wv_X12_next yk_X12_next rfl (Nat.le_of_ble_eq_true rfl) (Nat.le_of_ble_eq_true rfl) (tMo_next hr_) rfl (Nat.le_of_ble_eq_true rfl) dX12_behind_87) (fun r17 => ?_)
  refine r_iconst (pc := 90) ok (1 : Int32) dX12_behind_90 ci_1 ?_
  exact r_zret (pc := 91) ok dX12_behind_91 za_1 rfl
theorem wMo_behind_J42 {Z : Cx} {G : Gx} {b : Nat} {XX YY : Nat → Obj} {m : Obj} {k1 : Int32} (ok : OK Z G b cX12_behind 1 2 RX12 (some .boolean)) : VO Z G b 1 (fun (r : Int32 × Obj) => QX Z b (qI G b r.1 (mx XX (va_up YY 225 r.2)))) (mx XX (va_up YY 225 m)) 42 [some (.ref (b + 225))] [.int k1, .ref (b + 225)] ((fMo_behind_J42 m k1).bind some) := by
  unfold fMo_behind_J42
  refine k_V (pc := 42)  (fun r11 => mx XX (va_up YY 225 r11)) (fun r11 hr_ => c_V (n := 1) ok cls12 sh_225 rfl ml_Mo_454 wv_X12_joins yk_X12_joins rfl (Nat.le_of_ble_eq_true rfl) (Nat.le_of_ble_eq_true rfl) (tMo_joins hr_) rfl (Nat.le_of_ble_eq_true rfl) dX12_behind_42) (fun r11 => ?_)
  refine r_aload_n (pc := 45) ok dX12_behind_45 rfl ?_
  refine r_getR (pc := 46) ok cls12 sh_225 (k := 38) rfl (Nat.le_of_ble_eq_true rfl) rfl dX12_behind_46 fl_Mo_75 ?_
  refine r_aload_n (pc := 49) ok dX12_behind_49 rfl ?_
  refine r_getI (pc := 50) ok cls12 sh_225 (k := 41) rfl (Nat.le_of_ble_eq_true rfl) (mx_r (by decide) (va_up_self _ _ _)) dX12_behind_50 fl_Mo_433 ?_
  refine r_aload_n (pc := 53) ok dX12_behind_53 rfl ?_
  refine r_ldc2 (pc := 54) ok (6385252 : Int64) dX12_behind_54 cl2_Mo_128 ?_
  refine k_I (pc := 57) (fun r12 => r12) (fun r12 => mx XX (va_up YY 225 r11)) (fun r12 hr_ => c_V (n := 1) ok cls12 sh_225 rfl ml_Mo_221 wv_X12_isWord yk_X12_isWord rfl (Nat.le_of_ble_eq_true rfl) (Nat.le_of_ble_eq_true rfl) (tMo_isWord (va_up_self _ _ _) hr_) rfl (Nat.le_of_ble_eq_true rfl) dX12_behind_57) (fun r12 => ?_)
  refine r_if_eq (pc := 60) ok 68 dX12_behind_60 rfl (fun _ => ?_) (fun _ => ?_)
  · refine r_bipush (pc := 68) ok (22 : Int32) dX12_behind_68 cb_22 ?_
    exact wMo_behind_J70 ok
  · refine r_bipush (pc := 63) ok (21 : Int32) dX12_behind_63 cb_21 ?_
    refine r_goto (pc := 65) ok 70 dX12_behind_65 rfl ?_
    exact wMo_behind_J70 ok
theorem wMo_behind_J24 {Z : Cx} {G : Gx} {b : Nat} {XX YY : Nat → Obj} {m : Obj} (ok : OK Z G b cX12_behind 1 2 RX12 (some .boolean)) : VO Z G b 1 (fun (r : Int32 × Obj) => QX Z b (qI G b r.1 (mx XX (va_up YY 225 r.2)))) (mx XX (va_up YY 225 m)) 24 [some (.ref (b + 225))] [] ((fMo_behind_J24 m).bind some) := by
  unfold fMo_behind_J24
  refine r_aload_n (pc := 24) ok dX12_behind_24 rfl ?_
  refine r_aload_n (pc := 25) ok dX12_behind_25 rfl ?_
  refine r_ldc2 (pc := 26) ok (6385252 : Int64) dX12_behind_26 cl2_Mo_128 ?_
  refine k_I (pc := 29) (fun r10 => r10) (fun r10 => mx XX (va_up YY 225 m)) (fun r10 hr_ => c_V (n := 1) ok cls12 sh_225 rfl ml_Mo_221 wv_X12_isWord yk_X12_isWord rfl (Nat.le_of_ble_eq_true rfl) (Nat.le_of_ble_eq_true rfl) (tMo_isWord (va_up_self _ _ _) hr_) rfl (Nat.le_of_ble_eq_true rfl) dX12_behind_29) (fun r10 => ?_)
  refine r_if_eq (pc := 32) ok 40 dX12_behind_32 rfl (fun _ => ?_) (fun _ => ?_)
  · refine r_bipush (pc := 40) ok (22 : Int32) dX12_behind_40 cb_22 ?_
    exact wMo_behind_J42 ok
  · refine r_bipush (pc := 35) ok (21 : Int32) dX12_behind_35 cb_21 ?_
    refine r_goto (pc := 37) ok 42 dX12_behind_37 rfl ?_
    exact wMo_behind_J42 ok
theorem vMo_behind {Z : Cx} {G : Gx} {b : Nat} {XX YY : Nat → Obj} {m : Obj} (ok : OK Z G b cX12_behind 1 2 RX12 (some .boolean)) : VO Z G b 1 (fun (r : Int32 × Obj) => QX Z b (qI G b r.1 (mx XX (va_up YY 225 r.2)))) (mx XX (va_up YY 225 m)) 0 [some (.ref (b + 225))] [] ((fMo_behind m).bind some) := by
  unfold fMo_behind
  refine r_aload_n (pc := 0) ok dX12_behind_0 rfl ?_
  refine k_V (pc := 1)  (fun r1 => mx XX (va_up YY 225 r1)) (fun r1 hr_ => c_V (n := 0) ok cls12 sh_225 rfl ml_Mo_451 wv_X12_nots yk_X12_nots rfl (Nat.le_of_ble_eq_true rfl) (Nat.le_of_ble_eq_true rfl) (tMo_nots hr_) rfl (Nat.le_of_ble_eq_true rfl) dX12_behind_1) (fun r1 => ?_)
  refine r_aload_n (pc := 4) ok dX12_behind_4 rfl ?_
  refine r_ldc2 (pc := 5) ok (6385252 : Int64) dX12_behind_5 cl2_Mo_128 ?_
  refine k_I (pc := 8) (fun r2 => r2) (fun r2 => mx XX (va_up YY 225 r1)) (fun r2 hr_ => c_V (n := 1) ok cls12 sh_225 rfl ml_Mo_221 wv_X12_isWord yk_X12_isWord rfl (Nat.le_of_ble_eq_true rfl) (Nat.le_of_ble_eq_true rfl) (tMo_isWord (va_up_self _ _ _) hr_) rfl (Nat.le_of_ble_eq_true rfl) dX12_behind_8) (fun r2 => ?_)
  refine r_if_ne (pc := 11) ok 24 dX12_behind_11 rfl (fun _ => ?_) (fun _ => ?_)
  · refine r_aload_n (pc := 14) ok dX12_behind_14 rfl ?_
    refine r_ldc2 (pc := 15) ok (28530 : Int64) dX12_behind_15 cl2_Mo_126 ?_
    refine k_I (pc := 18) (fun r3 => r3) (fun r3 => mx XX (va_up YY 225 r1)) (fun r3 hr_ => c_V (n := 1) ok cls12 sh_225 rfl ml_Mo_221 wv_X12_isWord yk_X12_isWord rfl (Nat.le_of_ble_eq_true rfl) (Nat.le_of_ble_eq_true rfl) (tMo_isWord (va_up_self _ _ _) hr_) rfl (Nat.le_of_ble_eq_true rfl) dX12_behind_18) (fun r3 => ?_)
    refine r_if_eq (pc := 21) ok 92 dX12_behind_21 rfl (fun _ => ?_) (fun _ => ?_)
    · refine r_aload_n (pc := 92) ok dX12_behind_92 rfl ?_
      refine r_bipush (pc := 93) ok (22 : Int32) dX12_behind_93 cb_22 ?_
      refine k_V (pc := 95)  (fun r4 => mx XX (va_up YY 225 r4)) (fun r4 hr_ => c_V (n := 1) ok cls12 sh_225 rfl ml_Mo_454 wv_X12_joins yk_X12_joins rfl (Nat.le_of_ble_eq_true rfl) (Nat.le_of_ble_eq_true rfl) (tMo_joins hr_) rfl (Nat.le_of_ble_eq_true rfl) dX12_behind_95) (fun r4 => ?_)
      refine r_aload_n (pc := 98) ok dX12_behind_98 rfl ?_
      refine r_bipush (pc := 99) ok (41 : Int32) dX12_behind_99 cb_41 ?_
      refine k_I (pc := 101) (fun r5 => r5) (fun r5 => mx XX (va_up YY 225 r4)) (fun r5 hr_ => c_V (n := 1) ok cls12 sh_225 rfl ml_Mo_184 wv_X12_isSign yk_X12_isSign rfl (Nat.le_of_ble_eq_true rfl) (Nat.le_of_ble_eq_true rfl) (tMo_isSign (va_up_self _ _ _) hr_) rfl (Nat.le_of_ble_eq_true rfl) dX12_behind_101) (fun r5 => ?_)
      refine r_if_eq (pc := 104) ok 114 dX12_behind_104 rfl (fun _ => ?_) (fun _ => ?_)
      · exact wMo_behind_J114 ok
      · refine r_aload_n (pc := 107) ok dX12_behind_107 rfl ?_
        refine r_getI (pc := 108) ok cls12 sh_225 (k := 41) rfl (Nat.le_of_ble_eq_true rfl) (mx_r (by decide) (va_up_self _ _ _)) dX12_behind_108 fl_Mo_433 ?_
        refine r_if_ne (pc := 111) ok 120 dX12_behind_111 rfl (fun _ => ?_) (fun _ => ?_)
        · exact wMo_behind_J114 ok
        · refine r_aload_n (pc := 120) ok dX12_behind_120 rfl ?_
          refine r_dup (pc := 121) ok dX12_behind_121 rfl ?_
          refine r_getI (pc := 122) ok cls12 sh_225 (k := 41) rfl (Nat.le_of_ble_eq_true rfl) (mx_r (by decide) (va_up_self _ _ _)) dX12_behind_122 fl_Mo_433 ?_
          refine r_iconst (pc := 125) ok (1 : Int32) dX12_behind_125 ci_1 ?_
          refine r_isub (pc := 126) ok dX12_behind_126 ?_
          refine r_putI (pc := 127) ok cls12 sh_225 (k := 41) rfl (Nat.le_of_ble_eq_true rfl) (fun s_ => mx XX (va_up YY 225 s_)) (pm_r _ _).1 (pm_r _ _).2 rfl rfl rfl dX12_behind_127 fl_Mo_433 (fun s7 => ?_)
          refine r_aload_n (pc := 130) ok dX12_behind_130 rfl ?_
          refine r_dup (pc := 131) ok dX12_behind_131 rfl ?_
          refine r_getI (pc := 132) ok cls12 sh_225 (k := 42) rfl (Nat.le_of_ble_eq_true rfl) (mx_r (by decide) (va_up_self _ _ _)) dX12_behind_132 fl_Mo_439 ?_
          refine r_iconst (pc := 135) ok (1 : Int32) dX12_behind_135 ci_1 ?_
          refine r_isub (pc := 136) ok dX12_behind_136 ?_
          refine r_putI (pc := 137) ok cls12 sh_225 (k := 42) rfl (Nat.le_of_ble_eq_true rfl) (fun s_ => mx XX (va_up YY 225 s_)) (pm_r _ _).1 (pm_r _ _).2 rfl rfl rfl dX12_behind_137 fl_Mo_439 (fun s8 => ?_)
          refine r_aload_n (pc := 140) ok dX12_behind_140 rfl ?_
          refine k_V (pc := 141)  (fun r9 => mx XX (va_up YY 225 r9)) (fun r9 hr_ => c_V (n := 0) ok cls12 sh_225 rfl ml_Mo_190 wv_X12_next yk_X12_next rfl (Nat.le_of_ble_eq_true rfl) (Nat.le_of_ble_eq_true rfl) (tMo_next hr_) rfl (Nat.le_of_ble_eq_true rfl) dX12_behind_141) (fun r9 => ?_)
          refine r_iconst (pc := 144) ok (1 : Int32) dX12_behind_144 ci_1 ?_
          exact r_zret (pc := 145) ok dX12_behind_145 za_1 rfl
    · exact wMo_behind_J24 ok
  · exact wMo_behind_J24 ok
theorem tMo_behind {l : Launch} {G : Gx} {b : Nat} {XX YY : Nat → Obj} {m : Obj} {r : Int32 × Obj} (hr : fMo_behind m = some r) : MetG l G b yX12_behind cX12_behind 1 (some .boolean) 2 [.ref (b + 225)] (mx XX (va_up YY 225 m)) (qI G b r.1 (mx XX (va_up YY 225 r.2))) := by
  refine met_start [some (.ref (b + 225))] (by decide +kernel) (Nat.le_of_ble_eq_true rfl) rfl (fun Z hl ok => ?_)
  clear hl
  exact vMo_behind ok r (by rw [hr]; rfl)
theorem wMo_sentence_J101 {Z : Cx} {G : Gx} {b : Nat} {XX YY : Nat → Obj} {m : Obj} {v1 : Int32} (ok : OK Z G b cX12_sentence 3 3 RX12 (some .int)) {K : ((Int32 × Obj) ⊕ ((Obj) ⊕ (Int32 × Obj))) → Option (Int32 × Obj)} (hc : ∀ (a : Int32 × Obj), VO Z G b 3 (fun (r : Int32 × Obj) => QX Z b (qI G b r.1 (mx XX (va_up YY 225 r.2)))) (mx XX (va_up YY 225 a.2)) 48 [some (.ref (b + 225)), some (.int a.1), none] [] (K (.inl a))) (hx : ∀ (z : (Obj) ⊕ (Int32 × Obj)), (∀ (e : Obj), z = .inl e → VO Z G b 3 (fun (r : Int32 × Obj) => QX Z b (qI G b r.1 (mx XX (va_up YY 225 r.2)))) (mx XX (va_up YY 225 e)) 132 [some (.ref (b + 225)), none, none] [] (K (.inr z))) ∧ (∀ (r : Int32 × Obj), z = .inr r → K (.inr z) = some r)) : VO Z G b 3 (fun (r : Int32 × Obj) => QX Z b (qI G b r.1 (mx XX (va_up YY 225 r.2)))) (mx XX (va_up YY 225 m)) 101 [some (.ref (b + 225)), some (.int v1), none] [] ((fMo_sentence_J101 m v1).bind K) := by
  unfold fMo_sentence_J101
  refine r_aload_n (pc := 101) ok dX12_sentence_101 rfl ?_
  refine r_getI (pc := 102) ok cls12 sh_225 (k := 43) rfl (Nat.le_of_ble_eq_true rfl) (mx_r (by decide) (va_up_self _ _ _)) dX12_sentence_102 fl_Mo_448 ?_
  refine r_if_eq (pc := 105) ok 118 dX12_sentence_105 rfl (fun _ => ?_) (fun _ => ?_)
  · refine r_aload_n (pc := 118) ok dX12_sentence_118 rfl ?_
    refine k_I (pc := 119) (fun r10 => r10.1) (fun r10 => mx XX (va_up YY 225 r10.2)) (fun r10 hr_ => c_V (n := 0) ok cls12 sh_225 rfl ml_Mo_460 wv_X12_operand yk_X12_operand rfl (Nat.le_of_ble_eq_true rfl) (Nat.le_of_ble_eq_true rfl) (tMo_operand hr_) rfl (Nat.le_of_ble_eq_true rfl) dX12_sentence_119) (fun r10 => ?_)
    refine r_if_ne (pc := 122) ok 48 dX12_sentence_122 rfl (fun _ => ?_) (fun _ => ?_)
    · refine r_iconst (pc := 125) ok (-1 : Int32) dX12_sentence_125 ci_m1 ?_
      refine r_aload_n (pc := 126) ok dX12_sentence_126 rfl ?_
      refine r_getI (pc := 127) ok cls12 sh_225 (k := 16) rfl (Nat.le_of_ble_eq_true rfl) (mx_r (by decide) (va_up_self _ _ _)) dX12_sentence_127 fl_Mo_181 ?_
      refine r_isub (pc := 130) ok dX12_sentence_130 ?_
      refine r_eq ((hx (.inr (((-1 : Int32) - (r10.2.1 0 16)), r10.2))).2 _ rfl) ?_
      exact r_iret (pc := 131) ok dX12_sentence_131 rfl
    · exact hc (v1, r10.2)
  · refine r_aload_n (pc := 108) ok dX12_sentence_108 rfl ?_
    refine k_I (pc := 109) (fun r11 => r11.1) (fun r11 => mx XX (va_up YY 225 r11.2)) (fun r11 hr_ => c_V (n := 0) ok cls12 sh_225 rfl ml_Mo_457 wv_X12_behind yk_X12_behind rfl (Nat.le_of_ble_eq_true rfl) (Nat.le_of_ble_eq_true rfl) (tMo_behind hr_) rfl (Nat.le_of_ble_eq_true rfl) dX12_sentence_109) (fun r11 => ?_)
    refine r_if_ne (pc := 112) ok 48 dX12_sentence_112 rfl (fun _ => ?_) (fun _ => ?_)
    · refine r_goto (pc := 115) ok 125 dX12_sentence_115 rfl ?_
      refine r_iconst (pc := 125) ok (-1 : Int32) dX12_sentence_125 ci_m1 ?_
      refine r_aload_n (pc := 126) ok dX12_sentence_126 rfl ?_
      refine r_getI (pc := 127) ok cls12 sh_225 (k := 16) rfl (Nat.le_of_ble_eq_true rfl) (mx_r (by decide) (va_up_self _ _ _)) dX12_sentence_127 fl_Mo_181 ?_
      refine r_isub (pc := 130) ok dX12_sentence_130 ?_
      refine r_eq ((hx (.inr (((-1 : Int32) - (r11.2.1 0 16)), r11.2))).2 _ rfl) ?_
      exact r_iret (pc := 131) ok dX12_sentence_131 rfl
    · exact hc (v1, r11.2)
theorem wMo_sentence_L48 {Z : Cx} {G : Gx} {b : Nat} {XX YY : Nat → Obj} (ok : OK Z G b cX12_sentence 3 3 RX12 (some .int)) {K : ((Int32 × Obj) ⊕ ((Obj) ⊕ (Int32 × Obj))) → Option (Int32 × Obj)} (hc : ∀ (a : Int32 × Obj), VO Z G b 3 (fun (r : Int32 × Obj) => QX Z b (qI G b r.1 (mx XX (va_up YY 225 r.2)))) (mx XX (va_up YY 225 a.2)) 48 [some (.ref (b + 225)), some (.int a.1), none] [] (K (.inl a))) (hx : ∀ (z : (Obj) ⊕ (Int32 × Obj)), (∀ (e : Obj), z = .inl e → VO Z G b 3 (fun (r : Int32 × Obj) => QX Z b (qI G b r.1 (mx XX (va_up YY 225 r.2)))) (mx XX (va_up YY 225 e)) 132 [some (.ref (b + 225)), none, none] [] (K (.inr z))) ∧ (∀ (r : Int32 × Obj), z = .inr r → K (.inr z) = some r)) : ∀ (a : Int32 × Obj), VO Z G b 3 (fun (r : Int32 × Obj) => QX Z b (qI G b r.1 (mx XX (va_up YY 225 r.2)))) (mx XX (va_up YY 225 a.2)) 48 [some (.ref (b + 225)), some (.int a.1), none] [] ((fMo_sentence_L48 a).bind K) := by
  intro a
  unfold fMo_sentence_L48
  refine r_iload_n (pc := 48) ok dX12_sentence_48 rfl ?_
  refine r_if_eq (pc := 49) ok 132 dX12_sentence_49 rfl (fun _ => ?_) (fun _ => ?_)
  · refine r_lv (lk_s (lk_n (lk_n lk_0 _) _) _) ?_
    exact (hx (.inl a.2)).1 _ rfl
  · refine r_aload_n (pc := 52) ok dX12_sentence_52 rfl ?_
    refine r_getI (pc := 53) ok cls12 sh_225 (k := 43) rfl (Nat.le_of_ble_eq_true rfl) (mx_r (by decide) (va_up_self _ _ _)) dX12_sentence_53 fl_Mo_448 ?_
    refine r_if_eq (pc := 56) ok 101 dX12_sentence_56 rfl (fun _ => ?_) (fun _ => ?_)
    · exact wMo_sentence_J101 ok (K := K) hc hx
    · refine r_aload_n (pc := 59) ok dX12_sentence_59 rfl ?_
      refine r_getI (pc := 60) ok cls12 sh_225 (k := 11) rfl (Nat.le_of_ble_eq_true rfl) (mx_r (by decide) (va_up_self _ _ _)) dX12_sentence_60 fl_Mo_161 ?_
      refine r_if_ne (pc := 63) ok 101 dX12_sentence_63 rfl (fun _ => ?_) (fun _ => ?_)
      · refine r_aload_n (pc := 66) ok dX12_sentence_66 rfl ?_
        refine k_V (pc := 67)  (fun r12 => mx XX (va_up YY 225 r12)) (fun r12 hr_ => c_V (n := 0) ok cls12 sh_225 rfl ml_Mo_451 wv_X12_nots yk_X12_nots rfl (Nat.le_of_ble_eq_true rfl) (Nat.le_of_ble_eq_true rfl) (tMo_nots hr_) rfl (Nat.le_of_ble_eq_true rfl) dX12_sentence_67) (fun r12 => ?_)
        refine r_aload_n (pc := 70) ok dX12_sentence_70 rfl ?_
        refine r_bipush (pc := 71) ok (22 : Int32) dX12_sentence_71 cb_22 ?_
        refine k_V (pc := 73)  (fun r13 => mx XX (va_up YY 225 r13)) (fun r13 hr_ => c_V (n := 1) ok cls12 sh_225 rfl ml_Mo_454 wv_X12_joins yk_X12_joins rfl (Nat.le_of_ble_eq_true rfl) (Nat.le_of_ble_eq_true rfl) (tMo_joins hr_) rfl (Nat.le_of_ble_eq_true rfl) dX12_sentence_73) (fun r13 => ?_)
        refine r_aload_n (pc := 76) ok dX12_sentence_76 rfl ?_
        refine r_getI (pc := 77) ok cls12 sh_225 (k := 41) rfl (Nat.le_of_ble_eq_true rfl) (mx_r (by decide) (va_up_self _ _ _)) dX12_sentence_77 fl_Mo_433 ?_
        refine r_if_le (pc := 80) ok 96 dX12_sentence_80 rfl (fun _ => ?_) (fun _ => ?_)
        · refine r_iconst (pc := 96) ok (0 : Int32) dX12_sentence_96 ci_0 ?_
          refine r_istore_n (pc := 97) ok dX12_sentence_97 (Nat.le_of_ble_eq_true rfl) rfl ?_
          refine r_goto (pc := 98) ok 48 dX12_sentence_98 rfl ?_
          exact hc ((0 : Int32), r13)
        · refine r_aload_n (pc := 83) ok dX12_sentence_83 rfl ?_
          refine r_iconst (pc := 84) ok (1 : Int32) dX12_sentence_84 ci_1 ?_
          refine k_I (pc := 85) (fun r14 => r14.1) (fun r14 => mx XX (va_up YY 225 r14.2)) (fun r14 hr_ => c_V (n := 1) ok cls12 sh_225 rfl ml_Mo_187 wv_X12_bad yk_X12_bad rfl (Nat.le_of_ble_eq_true rfl) (Nat.le_of_ble_eq_true rfl) (tMo_bad hr_) rfl (Nat.le_of_ble_eq_true rfl) dX12_sentence_85) (fun r14 => ?_)
          refine r_pop (pc := 88) ok dX12_sentence_88 rfl ?_
          refine r_iconst (pc := 89) ok (-1 : Int32) dX12_sentence_89 ci_m1 ?_
          refine r_aload_n (pc := 90) ok dX12_sentence_90 rfl ?_
          refine r_getI (pc := 91) ok cls12 sh_225 (k := 16) rfl (Nat.le_of_ble_eq_true rfl) (mx_r (by decide) (va_up_self _ _ _)) dX12_sentence_91 fl_Mo_181 ?_
          refine r_isub (pc := 94) ok dX12_sentence_94 ?_
          refine r_eq ((hx (.inr (((-1 : Int32) - (r14.2.1 0 16)), r14.2))).2 _ rfl) ?_
          exact r_iret (pc := 95) ok dX12_sentence_95 rfl
      · exact wMo_sentence_J101 ok (K := K) hc hx
theorem wMo_sentence_L146 {Z : Cx} {G : Gx} {b : Nat} {XX YY : Nat → Obj} (ok : OK Z G b cX12_sentence 3 3 RX12 (some .int)) {K : ((Int32 × Obj) ⊕ (Obj)) → Option (Int32 × Obj)} (hc : ∀ (a : Int32 × Obj), VO Z G b 3 (fun (r : Int32 × Obj) => QX Z b (qI G b r.1 (mx XX (va_up YY 225 r.2)))) (mx XX (va_up YY 225 a.2)) 146 [some (.ref (b + 225)), none, some (.int a.1)] [] (K (.inl a))) (hx : ∀ (e : Obj), VO Z G b 3 (fun (r : Int32 × Obj) => QX Z b (qI G b r.1 (mx XX (va_up YY 225 r.2)))) (mx XX (va_up YY 225 e)) 178 [some (.ref (b + 225)), none, none] [] (K (.inr e))) : ∀ (a : Int32 × Obj), VO Z G b 3 (fun (r : Int32 × Obj) => QX Z b (qI G b r.1 (mx XX (va_up YY 225 r.2)))) (mx XX (va_up YY 225 a.2)) 146 [some (.ref (b + 225)), none, some (.int a.1)] [] ((fMo_sentence_L146 a).bind K) := by
  intro a
  unfold fMo_sentence_L146
  refine r_iload_n (pc := 146) ok dX12_sentence_146 rfl ?_
  refine r_iconst (pc := 147) ok (3 : Int32) dX12_sentence_147 ci_3 ?_
  refine r_aload_n (pc := 148) ok dX12_sentence_148 rfl ?_
  refine r_getI (pc := 149) ok cls12 sh_225 (k := 39) rfl (Nat.le_of_ble_eq_true rfl) (mx_r (by decide) (va_up_self _ _ _)) dX12_sentence_149 fl_Mo_430 ?_
  refine r_imul (pc := 152) ok dX12_sentence_152 ?_
  refine r_icmp_ge (pc := 153) ok 178 dX12_sentence_153 rfl (fun _ => ?_) (fun _ => ?_)
  · refine r_lv (lk_s (lk_n (lk_n lk_0 _) _) _) ?_
    exact hx a.2
  · refine r_aload_n (pc := 156) ok dX12_sentence_156 rfl ?_
    refine r_getR (pc := 157) ok cls12 sh_225 (k := 6) rfl (Nat.le_of_ble_eq_true rfl) rfl dX12_sentence_157 fl_Mo_33 ?_
    refine r_sipush (pc := 160) ok (162 : Int32) dX12_sentence_160 cs_162 ?_
    refine r_iload_n (pc := 163) ok dX12_sentence_163 rfl ?_
    refine r_iadd (pc := 164) ok dX12_sentence_164 ?_
    refine r_aload_n (pc := 165) ok dX12_sentence_165 rfl ?_
    refine r_getR (pc := 166) ok cls12 sh_225 (k := 8) rfl (Nat.le_of_ble_eq_true rfl) rfl dX12_sentence_166 fl_Mo_40 ?_
    refine r_iload_n (pc := 169) ok dX12_sentence_169 rfl ?_
    refine r_iald (pc := 170) ok sh_229 (j := 4) rfl (mx_r (by decide) (va_up_self _ _ _)) dX12_sentence_170 (fun i17 => ?_)
    refine r_iast (pc := 171) ok sh_227 (j := 2) rfl rfl (fun s_ => mx XX (va_up YY 225 s_)) (pm_r _ _).1 (pm_r _ _).2 dX12_sentence_171 (fun i18 s19 => ?_)
    refine r_iinc (pc := 172) ok (1 : Int32) dX12_sentence_172 ci_1 rfl (Nat.le_of_ble_eq_true rfl) rfl ?_
    refine r_goto (pc := 175) ok 146 dX12_sentence_175 rfl ?_
    exact hc ((a.1 + (1 : Int32)), s19)
theorem vMo_sentence {Z : Cx} {G : Gx} {b : Nat} {XX YY : Nat → Obj} {m : Obj} (ok : OK Z G b cX12_sentence 3 3 RX12 (some .int)) : VO Z G b 3 (fun (r : Int32 × Obj) => QX Z b (qI G b r.1 (mx XX (va_up YY 225 r.2)))) (mx XX (va_up YY 225 m)) 0 [some (.ref (b + 225)), none, none] [] ((fMo_sentence m).bind some) := by
  unfold fMo_sentence
  refine r_aload_n (pc := 0) ok dX12_sentence_0 rfl ?_
  refine r_iconst (pc := 1) ok (0 : Int32) dX12_sentence_1 ci_0 ?_
  refine r_putI (pc := 2) ok cls12 sh_225 (k := 0) rfl (Nat.le_of_ble_eq_true rfl) (fun s_ => mx XX (va_up YY 225 s_)) (pm_r _ _).1 (pm_r _ _).2 rfl rfl rfl dX12_sentence_2 fl_Mo_1 (fun s1 => ?_)
  refine r_aload_n (pc := 5) ok dX12_sentence_5 rfl ?_
  refine r_sipush (pc := 6) ok (200 : Int32) dX12_sentence_6 cs_200 ?_
  refine k_V (pc := 9)  (fun r2 => mx XX (va_up YY 225 r2)) (fun r2 hr_ => c_V (n := 1) ok cls12 sh_225 rfl ml_Mo_259 wv_X12_taken yk_X12_taken rfl (Nat.le_of_ble_eq_true rfl) (Nat.le_of_ble_eq_true rfl) (tMo_taken hr_) rfl (Nat.le_of_ble_eq_true rfl) dX12_sentence_9) (fun r2 => ?_)
  refine r_aload_n (pc := 12) ok dX12_sentence_12 rfl ?_
  refine r_iconst (pc := 13) ok (0 : Int32) dX12_sentence_13 ci_0 ?_
  refine r_putI (pc := 14) ok cls12 sh_225 (k := 15) rfl (Nat.le_of_ble_eq_true rfl) (fun s_ => mx XX (va_up YY 225 s_)) (pm_r _ _).1 (pm_r _ _).2 rfl rfl rfl dX12_sentence_14 fl_Mo_178 (fun s3 => ?_)
  refine r_aload_n (pc := 17) ok dX12_sentence_17 rfl ?_
  refine r_iconst (pc := 18) ok (0 : Int32) dX12_sentence_18 ci_0 ?_
  refine r_putI (pc := 19) ok cls12 sh_225 (k := 39) rfl (Nat.le_of_ble_eq_true rfl) (fun s_ => mx XX (va_up YY 225 s_)) (pm_r _ _).1 (pm_r _ _).2 rfl rfl rfl dX12_sentence_19 fl_Mo_430 (fun s4 => ?_)
  refine r_aload_n (pc := 22) ok dX12_sentence_22 rfl ?_
  refine r_iconst (pc := 23) ok (0 : Int32) dX12_sentence_23 ci_0 ?_
  refine r_putI (pc := 24) ok cls12 sh_225 (k := 40) rfl (Nat.le_of_ble_eq_true rfl) (fun s_ => mx XX (va_up YY 225 s_)) (pm_r _ _).1 (pm_r _ _).2 rfl rfl rfl dX12_sentence_24 fl_Mo_445 (fun s5 => ?_)
  refine r_aload_n (pc := 27) ok dX12_sentence_27 rfl ?_
  refine r_iconst (pc := 28) ok (0 : Int32) dX12_sentence_28 ci_0 ?_
  refine r_putI (pc := 29) ok cls12 sh_225 (k := 41) rfl (Nat.le_of_ble_eq_true rfl) (fun s_ => mx XX (va_up YY 225 s_)) (pm_r _ _).1 (pm_r _ _).2 rfl rfl rfl dX12_sentence_29 fl_Mo_433 (fun s6 => ?_)
  refine r_aload_n (pc := 32) ok dX12_sentence_32 rfl ?_
  refine r_iconst (pc := 33) ok (1 : Int32) dX12_sentence_33 ci_1 ?_
  refine r_putI (pc := 34) ok cls12 sh_225 (k := 42) rfl (Nat.le_of_ble_eq_true rfl) (fun s_ => mx XX (va_up YY 225 s_)) (pm_r _ _).1 (pm_r _ _).2 rfl rfl rfl dX12_sentence_34 fl_Mo_439 (fun s7 => ?_)
  refine r_aload_n (pc := 37) ok dX12_sentence_37 rfl ?_
  refine r_iconst (pc := 38) ok (0 : Int32) dX12_sentence_38 ci_0 ?_
  refine r_putI (pc := 39) ok cls12 sh_225 (k := 43) rfl (Nat.le_of_ble_eq_true rfl) (fun s_ => mx XX (va_up YY 225 s_)) (pm_r _ _).1 (pm_r _ _).2 rfl rfl rfl dX12_sentence_39 fl_Mo_448 (fun s8 => ?_)
  refine r_aload_n (pc := 42) ok dX12_sentence_42 rfl ?_
  refine k_V (pc := 43)  (fun r9 => mx XX (va_up YY 225 r9)) (fun r9 hr_ => c_V (n := 0) ok cls12 sh_225 rfl ml_Mo_190 wv_X12_next yk_X12_next rfl (Nat.le_of_ble_eq_true rfl) (Nat.le_of_ble_eq_true rfl) (tMo_next hr_) rfl (Nat.le_of_ble_eq_true rfl) dX12_sentence_43) (fun r9 => ?_)
  refine r_iconst (pc := 46) ok (1 : Int32) dX12_sentence_46 ci_1 ?_
  refine r_istore_n (pc := 47) ok dX12_sentence_47 (Nat.le_of_ble_eq_true rfl) rfl ?_
  refine r_iter (P := fun (a48 : Int32 × Obj) o => VO Z G b 3 (fun (r : Int32 × Obj) => QX Z b (qI G b r.1 (mx XX (va_up YY 225 r.2)))) (mx XX (va_up YY 225 a48.2)) 48 [some (.ref (b + 225)), some (.int a48.1), none] [] o) (E := fun (z : (Obj) ⊕ (Int32 × Obj)) o => (∀ (e_48 : Obj), z = .inl e_48 → VO Z G b 3 (fun (r : Int32 × Obj) => QX Z b (qI G b r.1 (mx XX (va_up YY 225 r.2)))) (mx XX (va_up YY 225 e_48)) 132 [some (.ref (b + 225)), none, none] [] o) ∧ (∀ (r : Int32 × Obj), z = .inr r → o = some r)) (fun _ => r_none) (fun K hc hx => wMo_sentence_L48 ok (K := K) hc hx) (fun z => ⟨fun e15 hz => ?_, fun r hz => ?_⟩) FU ((1 : Int32), r9)
  · subst hz
    refine r_inl ?_
    refine r_aload_n (pc := 132) ok dX12_sentence_132 rfl ?_
    refine r_getR (pc := 133) ok cls12 sh_225 (k := 6) rfl (Nat.le_of_ble_eq_true rfl) rfl dX12_sentence_133 fl_Mo_33 ?_
    refine r_sipush (pc := 136) ok (161 : Int32) dX12_sentence_136 cs_161 ?_
    refine r_aload_n (pc := 139) ok dX12_sentence_139 rfl ?_
    refine r_getI (pc := 140) ok cls12 sh_225 (k := 39) rfl (Nat.le_of_ble_eq_true rfl) (mx_r (by decide) (va_up_self _ _ _)) dX12_sentence_140 fl_Mo_430 ?_
    refine r_iastc (pc := 143) ok sh_227 (j := 2) rfl (i := 161) (by decide +kernel) rfl (fun s_ => mx XX (va_up YY 225 s_)) (pm_r _ _).1 (pm_r _ _).2 dX12_sentence_143 (fun s16 => ?_)
    refine r_iconst (pc := 144) ok (0 : Int32) dX12_sentence_144 ci_0 ?_
    refine r_istore_n (pc := 145) ok dX12_sentence_145 (Nat.le_of_ble_eq_true rfl) rfl ?_
    refine r_iter (P := fun (a146 : Int32 × Obj) o => VO Z G b 3 (fun (r : Int32 × Obj) => QX Z b (qI G b r.1 (mx XX (va_up YY 225 r.2)))) (mx XX (va_up YY 225 a146.2)) 146 [some (.ref (b + 225)), none, some (.int a146.1)] [] o) (E := fun (e_146 : Obj) o => VO Z G b 3 (fun (r : Int32 × Obj) => QX Z b (qI G b r.1 (mx XX (va_up YY 225 r.2)))) (mx XX (va_up YY 225 e_146)) 178 [some (.ref (b + 225)), none, none] [] o) (fun _ => r_none) (fun K hc hx => wMo_sentence_L146 ok (K := K) hc hx) (fun e20 => ?_) FU ((0 : Int32), s16)
    refine r_aload_n (pc := 178) ok dX12_sentence_178 rfl ?_
    refine r_getI (pc := 179) ok cls12 sh_225 (k := 40) rfl (Nat.le_of_ble_eq_true rfl) (mx_r (by decide) (va_up_self _ _ _)) dX12_sentence_179 fl_Mo_445 ?_
    exact r_iret (pc := 182) ok dX12_sentence_182 rfl
  · subst hz
    rfl
theorem tMo_sentence {l : Launch} {G : Gx} {b : Nat} {XX YY : Nat → Obj} {m : Obj} {r : Int32 × Obj} (hr : fMo_sentence m = some r) : MetG l G b yX12_sentence cX12_sentence 3 (some .int) 3 [.ref (b + 225)] (mx XX (va_up YY 225 m)) (qI G b r.1 (mx XX (va_up YY 225 r.2))) := by
  refine met_start [some (.ref (b + 225)), none, none] (by decide +kernel) (Nat.le_of_ble_eq_true rfl) rfl (fun Z hl ok => ?_)
  clear hl
  exact vMo_sentence ok r (by rw [hr]; rfl)
theorem wMo_isLeaf_J146 {Z : Cx} {G : Gx} {b : Nat} {XX YY : Nat → Obj} {m : Obj} {v3 : Int32} {v4 : Int32} {k0 : Int32} (ok : OK Z G b cX12_isLeaf 6 1 RX12 (some .boolean)) (hm : YY 225 = m) : VO Z G b 6 (fun (r : Int32) => QX Z b (qI G b r (mx XX YY))) (mx XX YY) 146 [none, none, none, some (.int v3), some (.int v4), none] [.int k0] ((fMo_isLeaf_J146 v3 v4 k0).bind some) := by
  unfold fMo_isLeaf_J146
  refine r_istore (pc := 146) ok dX12_isLeaf_146 (Nat.le_of_ble_eq_true rfl) rfl ?_
  refine r_iload_n (pc := 148) ok dX12_isLeaf_148 rfl ?_
  refine r_bipush (pc := 149) ok (60 : Int32) dX12_isLeaf_149 cb_60 ?_
  refine r_icmp_ne (pc := 151) ok 169 dX12_isLeaf_151 rfl (fun _ => ?_) (fun _ => ?_)
  · refine r_iload (pc := 154) ok dX12_isLeaf_154 rfl ?_
    refine r_iload (pc := 156) ok dX12_isLeaf_156 rfl ?_
    refine r_icmp_ge (pc := 158) ok 165 dX12_isLeaf_158 rfl (fun _ => ?_) (fun _ => ?_)
    · refine r_iconst (pc := 165) ok (0 : Int32) dX12_isLeaf_165 ci_0 ?_
      refine r_goto (pc := 166) ok 202 dX12_isLeaf_166 rfl ?_
      exact r_zret (pc := 202) ok dX12_isLeaf_202 za_0 rfl
    · refine r_iconst (pc := 161) ok (1 : Int32) dX12_isLeaf_161 ci_1 ?_
      refine r_goto (pc := 162) ok 202 dX12_isLeaf_162 rfl ?_
      exact r_zret (pc := 202) ok dX12_isLeaf_202 za_1 rfl
  · refine r_iload_n (pc := 169) ok dX12_isLeaf_169 rfl ?_
    refine r_bipush (pc := 170) ok (61 : Int32) dX12_isLeaf_170 cb_61 ?_
    refine r_icmp_ne (pc := 172) ok 190 dX12_isLeaf_172 rfl (fun _ => ?_) (fun _ => ?_)
    · refine r_iload (pc := 175) ok dX12_isLeaf_175 rfl ?_
      refine r_iload (pc := 177) ok dX12_isLeaf_177 rfl ?_
      refine r_icmp_ne (pc := 179) ok 186 dX12_isLeaf_179 rfl (fun _ => ?_) (fun _ => ?_)
      · refine r_iconst (pc := 182) ok (1 : Int32) dX12_isLeaf_182 ci_1 ?_
        refine r_goto (pc := 183) ok 202 dX12_isLeaf_183 rfl ?_
        exact r_zret (pc := 202) ok dX12_isLeaf_202 za_1 rfl
      · refine r_iconst (pc := 186) ok (0 : Int32) dX12_isLeaf_186 ci_0 ?_
        refine r_goto (pc := 187) ok 202 dX12_isLeaf_187 rfl ?_
        exact r_zret (pc := 202) ok dX12_isLeaf_202 za_0 rfl
    · refine r_iload (pc := 190) ok dX12_isLeaf_190 rfl ?_
      refine r_iload (pc := 192) ok dX12_isLeaf_192 rfl ?_
      refine r_icmp_le (pc := 194) ok 201 dX12_isLeaf_194 rfl (fun _ => ?_) (fun _ => ?_)
      · refine r_iconst (pc := 201) ok (0 : Int32) dX12_isLeaf_201 ci_0 ?_
        exact r_zret (pc := 202) ok dX12_isLeaf_202 za_0 rfl
      · refine r_iconst (pc := 197) ok (1 : Int32) dX12_isLeaf_197 ci_1 ?_
        refine r_goto (pc := 198) ok 202 dX12_isLeaf_198 rfl ?_
        exact r_zret (pc := 202) ok dX12_isLeaf_202 za_1 rfl
theorem vMo_isLeaf {Z : Cx} {G : Gx} {b : Nat} {XX YY : Nat → Obj} {m : Obj} {v1 : Int32} {v2 : Int32} {v3 : Int32} {v4 : Int32} (ok : OK Z G b cX12_isLeaf 6 1 RX12 (some .boolean)) (hm : YY 225 = m) : VO Z G b 6 (fun (r : Int32) => QX Z b (qI G b r (mx XX YY))) (mx XX YY) 0 [some (.ref (b + 225)), some (.int v1), some (.int v2), some (.int v3), some (.int v4), none] [] ((fMo_isLeaf m v1 v2 v3 v4).bind some) := by
  unfold fMo_isLeaf
  refine r_iload_n (pc := 0) ok dX12_isLeaf_0 rfl ?_
  refine r_iconst (pc := 1) ok (3 : Int32) dX12_isLeaf_1 ci_3 ?_
  refine r_icmp_ge (pc := 2) ok 24 dX12_isLeaf_2 rfl (fun _ => ?_) (fun _ => ?_)
  · refine r_iload_n (pc := 24) ok dX12_isLeaf_24 rfl ?_
    refine r_iconst (pc := 25) ok (3 : Int32) dX12_isLeaf_25 ci_3 ?_
    refine r_icmp_ne (pc := 26) ok 41 dX12_isLeaf_26 rfl (fun _ => ?_) (fun _ => ?_)
    · refine r_aload_n (pc := 29) ok dX12_isLeaf_29 rfl ?_
      refine r_getR (pc := 30) ok cls12 sh_225 (k := 6) rfl (Nat.le_of_ble_eq_true rfl) rfl dX12_isLeaf_30 fl_Mo_33 ?_
      refine r_bipush (pc := 33) ok (35 : Int32) dX12_isLeaf_33 cb_35 ?_
      refine r_ialdc (pc := 35) ok sh_227 (j := 2) rfl (i := 35) (by decide +kernel) (mx_r (by decide) hm) dX12_isLeaf_35 ?_
      refine r_iload_n (pc := 36) ok dX12_isLeaf_36 rfl ?_
      refine k_I (pc := 37) (fun r1 => r1) (fun r1 => mx XX YY) (fun r1 hr_ => c_S (n := 2) ok ml_Mo_218 ws_X12_bitOf yk_X12_bitOf rfl (Nat.le_of_ble_eq_true rfl) (Nat.le_of_ble_eq_true rfl) (tMo_bitOf hr_) rfl (Nat.le_of_ble_eq_true rfl) dX12_isLeaf_37) (fun r1 => ?_)
      exact r_zret (pc := 40) ok dX12_isLeaf_40 rfl rfl
    · refine r_iload_n (pc := 41) ok dX12_isLeaf_41 rfl ?_
      refine r_iconst (pc := 42) ok (4 : Int32) dX12_isLeaf_42 ci_4 ?_
      refine r_icmp_ne (pc := 43) ok 61 dX12_isLeaf_43 rfl (fun _ => ?_) (fun _ => ?_)
      · refine r_aload_n (pc := 46) ok dX12_isLeaf_46 rfl ?_
        refine r_getR (pc := 47) ok cls12 sh_225 (k := 6) rfl (Nat.le_of_ble_eq_true rfl) rfl dX12_isLeaf_47 fl_Mo_33 ?_
        refine r_bipush (pc := 50) ok (113 : Int32) dX12_isLeaf_50 cb_113 ?_
        refine r_iload_n (pc := 52) ok dX12_isLeaf_52 rfl ?_
        refine r_iadd (pc := 53) ok dX12_isLeaf_53 ?_
        refine r_iald (pc := 54) ok sh_227 (j := 2) rfl (mx_r (by decide) hm) dX12_isLeaf_54 (fun i2 => ?_)
        refine r_iload (pc := 55) ok dX12_isLeaf_55 rfl ?_
        refine k_I (pc := 57) (fun r3 => r3) (fun r3 => mx XX YY) (fun r3 hr_ => c_S (n := 2) ok ml_Mo_218 ws_X12_bitOf yk_X12_bitOf rfl (Nat.le_of_ble_eq_true rfl) (Nat.le_of_ble_eq_true rfl) (tMo_bitOf hr_) rfl (Nat.le_of_ble_eq_true rfl) dX12_isLeaf_57) (fun r3 => ?_)
        exact r_zret (pc := 60) ok dX12_isLeaf_60 rfl rfl
      · refine r_iload_n (pc := 61) ok dX12_isLeaf_61 rfl ?_
        refine r_iconst (pc := 62) ok (5 : Int32) dX12_isLeaf_62 ci_5 ?_
        refine r_icmp_ne (pc := 63) ok 88 dX12_isLeaf_63 rfl (fun _ => ?_) (fun _ => ?_)
        · refine r_aload_n (pc := 66) ok dX12_isLeaf_66 rfl ?_
          refine r_getR (pc := 67) ok cls12 sh_225 (k := 6) rfl (Nat.le_of_ble_eq_true rfl) rfl dX12_isLeaf_67 fl_Mo_33 ?_
          refine r_bipush (pc := 70) ok (11 : Int32) dX12_isLeaf_70 cb_11 ?_
          refine r_iload_n (pc := 72) ok dX12_isLeaf_72 rfl ?_
          refine r_iadd (pc := 73) ok dX12_isLeaf_73 ?_
          refine r_iald (pc := 74) ok sh_227 (j := 2) rfl (mx_r (by decide) hm) dX12_isLeaf_74 (fun i4 => ?_)
          refine r_iload (pc := 75) ok dX12_isLeaf_75 rfl ?_
          refine r_iconst (pc := 77) ok (1 : Int32) dX12_isLeaf_77 ci_1 ?_
          refine r_iadd (pc := 78) ok dX12_isLeaf_78 ?_
          refine r_icmp_ne (pc := 79) ok 86 dX12_isLeaf_79 rfl (fun _ => ?_) (fun _ => ?_)
          · refine r_iconst (pc := 82) ok (1 : Int32) dX12_isLeaf_82 ci_1 ?_
            refine r_goto (pc := 83) ok 87 dX12_isLeaf_83 rfl ?_
            exact r_zret (pc := 87) ok dX12_isLeaf_87 za_1 rfl
          · refine r_iconst (pc := 86) ok (0 : Int32) dX12_isLeaf_86 ci_0 ?_
            exact r_zret (pc := 87) ok dX12_isLeaf_87 za_0 rfl
        · refine r_iload_n (pc := 88) ok dX12_isLeaf_88 rfl ?_
          refine r_bipush (pc := 89) ok (6 : Int32) dX12_isLeaf_89 cb_6 ?_
          refine r_icmp_ne (pc := 91) ok 106 dX12_isLeaf_91 rfl (fun _ => ?_) (fun _ => ?_)
          · refine r_aload_n (pc := 94) ok dX12_isLeaf_94 rfl ?_
            refine r_getR (pc := 95) ok cls12 sh_225 (k := 6) rfl (Nat.le_of_ble_eq_true rfl) rfl dX12_isLeaf_95 fl_Mo_33 ?_
            refine r_bipush (pc := 98) ok (81 : Int32) dX12_isLeaf_98 cb_81 ?_
            refine r_iload_n (pc := 100) ok dX12_isLeaf_100 rfl ?_
            refine r_iadd (pc := 101) ok dX12_isLeaf_101 ?_
            refine r_iald (pc := 102) ok sh_227 (j := 2) rfl (mx_r (by decide) hm) dX12_isLeaf_102 (fun i5 => ?_)
            refine r_goto (pc := 103) ok 146 dX12_isLeaf_103 rfl ?_
            refine r_lv (lk_n (lk_n (lk_n (lk_s (lk_s (lk_n lk_0 _) _) _) _) _) _) ?_
            exact wMo_isLeaf_J146 ok hm
          · refine r_iload_n (pc := 106) ok dX12_isLeaf_106 rfl ?_
            refine r_bipush (pc := 107) ok (7 : Int32) dX12_isLeaf_107 cb_7 ?_
            refine r_icmp_ne (pc := 109) ok 127 dX12_isLeaf_109 rfl (fun _ => ?_) (fun _ => ?_)
            · refine r_aload_n (pc := 112) ok dX12_isLeaf_112 rfl ?_
              refine r_getR (pc := 113) ok cls12 sh_225 (k := 6) rfl (Nat.le_of_ble_eq_true rfl) rfl dX12_isLeaf_113 fl_Mo_33 ?_
              refine r_bipush (pc := 116) ok (113 : Int32) dX12_isLeaf_116 cb_113 ?_
              refine r_iload_n (pc := 118) ok dX12_isLeaf_118 rfl ?_
              refine r_iadd (pc := 119) ok dX12_isLeaf_119 ?_
              refine r_iald (pc := 120) ok sh_227 (j := 2) rfl (mx_r (by decide) hm) dX12_isLeaf_120 (fun i6 => ?_)
              refine k_I (pc := 121) (fun r7 => r7) (fun r7 => mx XX YY) (fun r7 hr_ => c_S (n := 1) ok ml_Mo_348 ws_X12_bits yk_X12_bits rfl (Nat.le_of_ble_eq_true rfl) (Nat.le_of_ble_eq_true rfl) (tMo_bits hr_) rfl (Nat.le_of_ble_eq_true rfl) dX12_isLeaf_121) (fun r7 => ?_)
              refine r_goto (pc := 124) ok 146 dX12_isLeaf_124 rfl ?_
              refine r_lv (lk_n (lk_n (lk_n (lk_s (lk_s (lk_n lk_0 _) _) _) _) _) _) ?_
              exact wMo_isLeaf_J146 ok hm
            · refine r_iload_n (pc := 127) ok dX12_isLeaf_127 rfl ?_
              refine r_bipush (pc := 128) ok (8 : Int32) dX12_isLeaf_128 cb_8 ?_
              refine r_icmp_ne (pc := 130) ok 145 dX12_isLeaf_130 rfl (fun _ => ?_) (fun _ => ?_)
              · refine r_aload_n (pc := 133) ok dX12_isLeaf_133 rfl ?_
                refine r_getR (pc := 134) ok cls12 sh_225 (k := 6) rfl (Nat.le_of_ble_eq_true rfl) rfl dX12_isLeaf_134 fl_Mo_33 ?_
                refine r_bipush (pc := 137) ok (121 : Int32) dX12_isLeaf_137 cb_121 ?_
                refine r_iload_n (pc := 139) ok dX12_isLeaf_139 rfl ?_
                refine r_iadd (pc := 140) ok dX12_isLeaf_140 ?_
                refine r_iald (pc := 141) ok sh_227 (j := 2) rfl (mx_r (by decide) hm) dX12_isLeaf_141 (fun i8 => ?_)
                refine r_goto (pc := 142) ok 146 dX12_isLeaf_142 rfl ?_
                refine r_lv (lk_n (lk_n (lk_n (lk_s (lk_s (lk_n lk_0 _) _) _) _) _) _) ?_
                exact wMo_isLeaf_J146 ok hm
              · refine r_iload_n (pc := 145) ok dX12_isLeaf_145 rfl ?_
                refine r_lv (lk_n (lk_n (lk_n (lk_s (lk_s (lk_n lk_0 _) _) _) _) _) _) ?_
                exact wMo_isLeaf_J146 ok hm
  · refine r_aload_n (pc := 5) ok dX12_isLeaf_5 rfl ?_
    refine r_getR (pc := 6) ok cls12 sh_225 (k := 6) rfl (Nat.le_of_ble_eq_true rfl) rfl dX12_isLeaf_6 fl_Mo_33 ?_
    refine r_bipush (pc := 9) ok (73 : Int32) dX12_isLeaf_9 cb_73 ?_
    refine r_iload_n (pc := 11) ok dX12_isLeaf_11 rfl ?_
    refine r_iadd (pc := 12) ok dX12_isLeaf_12 ?_
    refine r_iald (pc := 13) ok sh_227 (j := 2) rfl (mx_r (by decide) hm) dX12_isLeaf_13 (fun i9 => ?_)
    refine r_iload_n (pc := 14) ok dX12_isLeaf_14 rfl ?_
    refine r_icmp_ne (pc := 15) ok 22 dX12_isLeaf_15 rfl (fun _ => ?_) (fun _ => ?_)
    · refine r_iconst (pc := 18) ok (1 : Int32) dX12_isLeaf_18 ci_1 ?_
      refine r_goto (pc := 19) ok 23 dX12_isLeaf_19 rfl ?_
      exact r_zret (pc := 23) ok dX12_isLeaf_23 za_1 rfl
    · refine r_iconst (pc := 22) ok (0 : Int32) dX12_isLeaf_22 ci_0 ?_
      exact r_zret (pc := 23) ok dX12_isLeaf_23 za_0 rfl
theorem tMo_isLeaf {l : Launch} {G : Gx} {b : Nat} {XX YY : Nat → Obj} {m : Obj} {v1 : Int32} {v2 : Int32} {v3 : Int32} {v4 : Int32} (hm : YY 225 = m) {r : Int32} (hr : fMo_isLeaf m v1 v2 v3 v4 = some r) : MetG l G b yX12_isLeaf cX12_isLeaf 6 (some .boolean) 1 [.ref (b + 225), .int v1, .int v2, .int v3, .int v4] (mx XX YY) (qI G b r (mx XX YY)) := by
  refine met_start [some (.ref (b + 225)), some (.int v1), some (.int v2), some (.int v3), some (.int v4), none] (by decide +kernel) (Nat.le_of_ble_eq_true rfl) rfl (fun Z hl ok => ?_)
  clear hl
  exact vMo_isLeaf ok hm r (by rw [hr]; rfl)
