theorem vQu_copyFrom {Z : Cx} {G : Gx} {b : Nat} {iq : Nat} {iq2 : Nat} {XX YY : Nat → Obj} {q2 : Obj} {q : Obj} (ok : OK Z G b cX5_copyFrom 2 1 RX5 none) (hq : isQu iq) (hq2 : isQu iq2) (hqq2 : iq2 ≠ iq) (hr_q2 : XX iq2 = q2) : VO Z G b 2 (fun (r : Obj) => QX Z b (qV G b (mx (va_up XX iq r) YY))) (mx (va_up XX iq q) YY) 0 [some (.ref (b + iq)), some (.ref (b + iq2))] [] ((fQu_copyFrom q2 q).bind some) := by
  unfold fQu_copyFrom
  refine r_aload_n (pc := 0) ok dX5_copyFrom_0 rfl ?_
  refine r_aload_n (pc := 1) ok dX5_copyFrom_1 rfl ?_
  refine r_getI (pc := 2) ok cls5 (qu_sh hq2) (k := 0) rfl (Nat.le_of_ble_eq_true rfl) (mx_l (qu_lt hq2) ((va_up_ne _ _ (hqq2)).trans (hr_q2))) dX5_copyFrom_2 fl_Qu_9 ?_
  refine r_putI (pc := 5) ok cls5 (qu_sh hq) (k := 0) rfl (Nat.le_of_ble_eq_true rfl) (fun s_ => mx (va_up XX iq s_) YY) (pm_l (qu_lt hq) (pm_0 _ _)).1 (pm_l (qu_lt hq) (pm_0 _ _)).2 rfl rfl rfl dX5_copyFrom_5 fl_Qu_9 (fun s1 => ?_)
  refine r_aload_n (pc := 8) ok dX5_copyFrom_8 rfl ?_
  refine r_aload_n (pc := 9) ok dX5_copyFrom_9 rfl ?_
  refine r_getI (pc := 10) ok cls5 (qu_sh hq2) (k := 1) rfl (Nat.le_of_ble_eq_true rfl) (mx_l (qu_lt hq2) ((va_up_ne _ _ (hqq2)).trans (hr_q2))) dX5_copyFrom_10 fl_Qu_15 ?_
  refine r_putI (pc := 13) ok cls5 (qu_sh hq) (k := 1) rfl (Nat.le_of_ble_eq_true rfl) (fun s_ => mx (va_up XX iq s_) YY) (pm_l (qu_lt hq) (pm_0 _ _)).1 (pm_l (qu_lt hq) (pm_0 _ _)).2 rfl rfl rfl dX5_copyFrom_13 fl_Qu_15 (fun s2 => ?_)
  refine r_aload_n (pc := 16) ok dX5_copyFrom_16 rfl ?_
  refine r_aload_n (pc := 17) ok dX5_copyFrom_17 rfl ?_
  refine r_getI (pc := 18) ok cls5 (qu_sh hq2) (k := 2) rfl (Nat.le_of_ble_eq_true rfl) (mx_l (qu_lt hq2) ((va_up_ne _ _ (hqq2)).trans (hr_q2))) dX5_copyFrom_18 fl_Qu_18 ?_
  refine r_putI (pc := 21) ok cls5 (qu_sh hq) (k := 2) rfl (Nat.le_of_ble_eq_true rfl) (fun s_ => mx (va_up XX iq s_) YY) (pm_l (qu_lt hq) (pm_0 _ _)).1 (pm_l (qu_lt hq) (pm_0 _ _)).2 rfl rfl rfl dX5_copyFrom_21 fl_Qu_18 (fun s3 => ?_)
  refine r_aload_n (pc := 24) ok dX5_copyFrom_24 rfl ?_
  refine r_aload_n (pc := 25) ok dX5_copyFrom_25 rfl ?_
  refine r_getI (pc := 26) ok cls5 (qu_sh hq2) (k := 3) rfl (Nat.le_of_ble_eq_true rfl) (mx_l (qu_lt hq2) ((va_up_ne _ _ (hqq2)).trans (hr_q2))) dX5_copyFrom_26 fl_Qu_41 ?_
  refine r_putI (pc := 29) ok cls5 (qu_sh hq) (k := 3) rfl (Nat.le_of_ble_eq_true rfl) (fun s_ => mx (va_up XX iq s_) YY) (pm_l (qu_lt hq) (pm_0 _ _)).1 (pm_l (qu_lt hq) (pm_0 _ _)).2 rfl rfl rfl dX5_copyFrom_29 fl_Qu_41 (fun s4 => ?_)
  refine r_aload_n (pc := 32) ok dX5_copyFrom_32 rfl ?_
  refine r_aload_n (pc := 33) ok dX5_copyFrom_33 rfl ?_
  refine r_getI (pc := 34) ok cls5 (qu_sh hq2) (k := 4) rfl (Nat.le_of_ble_eq_true rfl) (mx_l (qu_lt hq2) ((va_up_ne _ _ (hqq2)).trans (hr_q2))) dX5_copyFrom_34 fl_Qu_44 ?_
  refine r_putI (pc := 37) ok cls5 (qu_sh hq) (k := 4) rfl (Nat.le_of_ble_eq_true rfl) (fun s_ => mx (va_up XX iq s_) YY) (pm_l (qu_lt hq) (pm_0 _ _)).1 (pm_l (qu_lt hq) (pm_0 _ _)).2 rfl rfl rfl dX5_copyFrom_37 fl_Qu_44 (fun s5 => ?_)
  refine r_aload_n (pc := 40) ok dX5_copyFrom_40 rfl ?_
  refine r_getR (pc := 41) ok cls5 (qu_sh hq2) (k := 5) rfl (Nat.le_of_ble_eq_true rfl) rfl dX5_copyFrom_41 fl_Qu_21 ?_
  refine r_iconst (pc := 44) ok (0 : Int32) dX5_copyFrom_44 ci_0 ?_
  refine r_aload_n (pc := 45) ok dX5_copyFrom_45 rfl ?_
  refine r_getR (pc := 46) ok cls5 (qu_sh hq) (k := 5) rfl (Nat.le_of_ble_eq_true rfl) rfl dX5_copyFrom_46 fl_Qu_21 ?_
  refine r_iconst (pc := 49) ok (0 : Int32) dX5_copyFrom_49 ci_0 ?_
  refine r_bipush (pc := 50) ok (6 : Int32) dX5_copyFrom_50 cb_6 ?_
  refine r_icpy (pc := 52) ok (qu_s1 hq2) (Nat.add_sub_cancel_left _ _) (qu_s1 hq) (Nat.add_sub_cancel_left _ _) (fun s_ => mx (va_up XX iq s_) YY) (pm_l (qu_lt hq) (pm_0 _ _)).1 (pm_l (qu_lt hq) (pm_0 _ _)).2 (fun _ => mx_l (qu_lt hq2) ((va_up_ne _ _ (hqq2)).trans (hr_q2))) (by decide +kernel) wAC_in ml_Qu_47 (Nat.le_of_ble_eq_true rfl) (Nat.le_of_ble_eq_true rfl) dX5_copyFrom_52 (fun s6 => ?_)
  refine r_aload_n (pc := 55) ok dX5_copyFrom_55 rfl ?_
  refine r_getR (pc := 56) ok cls5 (qu_sh hq2) (k := 6) rfl (Nat.le_of_ble_eq_true rfl) rfl dX5_copyFrom_56 fl_Qu_25 ?_
  refine r_iconst (pc := 59) ok (0 : Int32) dX5_copyFrom_59 ci_0 ?_
  refine r_aload_n (pc := 60) ok dX5_copyFrom_60 rfl ?_
  refine r_getR (pc := 61) ok cls5 (qu_sh hq) (k := 6) rfl (Nat.le_of_ble_eq_true rfl) rfl dX5_copyFrom_61 fl_Qu_25 ?_
  refine r_iconst (pc := 64) ok (0 : Int32) dX5_copyFrom_64 ci_0 ?_
  refine r_bipush (pc := 65) ok (6 : Int32) dX5_copyFrom_65 cb_6 ?_
  refine r_icpy (pc := 67) ok (qu_s2 hq2) (Nat.add_sub_cancel_left _ _) (qu_s2 hq) (Nat.add_sub_cancel_left _ _) (fun s_ => mx (va_up XX iq s_) YY) (pm_l (qu_lt hq) (pm_0 _ _)).1 (pm_l (qu_lt hq) (pm_0 _ _)).2 (fun _ => mx_l (qu_lt hq2) ((va_up_ne _ _ (hqq2)).trans (hr_q2))) (by decide +kernel) wAC_in ml_Qu_47 (Nat.le_of_ble_eq_true rfl) (Nat.le_of_ble_eq_true rfl) dX5_copyFrom_67 (fun s7 => ?_)
  refine r_aload_n (pc := 70) ok dX5_copyFrom_70 rfl ?_
  refine r_getR (pc := 71) ok cls5 (qu_sh hq2) (k := 7) rfl (Nat.le_of_ble_eq_true rfl) rfl dX5_copyFrom_71 fl_Qu_28 ?_
  refine r_iconst (pc := 74) ok (0 : Int32) dX5_copyFrom_74 ci_0 ?_
  refine r_aload_n (pc := 75) ok dX5_copyFrom_75 rfl ?_
  refine r_getR (pc := 76) ok cls5 (qu_sh hq) (k := 7) rfl (Nat.le_of_ble_eq_true rfl) rfl dX5_copyFrom_76 fl_Qu_28 ?_
  refine r_iconst (pc := 79) ok (0 : Int32) dX5_copyFrom_79 ci_0 ?_
  refine r_bipush (pc := 80) ok (6 : Int32) dX5_copyFrom_80 cb_6 ?_
  refine r_lcpy (pc := 82) ok (qu_s3 hq2) (Nat.add_sub_cancel_left _ _) (qu_s3 hq) (Nat.add_sub_cancel_left _ _) (fun s_ => mx (va_up XX iq s_) YY) (pm_l (qu_lt hq) (pm_0 _ _)).1 (pm_l (qu_lt hq) (pm_0 _ _)).2 (fun _ => mx_l (qu_lt hq2) ((va_up_ne _ _ (hqq2)).trans (hr_q2))) (by decide +kernel) wAC_in ml_Qu_47 (Nat.le_of_ble_eq_true rfl) (Nat.le_of_ble_eq_true rfl) dX5_copyFrom_82 (fun s8 => ?_)
  refine r_aload_n (pc := 85) ok dX5_copyFrom_85 rfl ?_
  refine r_getR (pc := 86) ok cls5 (qu_sh hq2) (k := 8) rfl (Nat.le_of_ble_eq_true rfl) rfl dX5_copyFrom_86 fl_Qu_32 ?_
  refine r_iconst (pc := 89) ok (0 : Int32) dX5_copyFrom_89 ci_0 ?_
  refine r_aload_n (pc := 90) ok dX5_copyFrom_90 rfl ?_
  refine r_getR (pc := 91) ok cls5 (qu_sh hq) (k := 8) rfl (Nat.le_of_ble_eq_true rfl) rfl dX5_copyFrom_91 fl_Qu_32 ?_
  refine r_iconst (pc := 94) ok (0 : Int32) dX5_copyFrom_94 ci_0 ?_
  refine r_bipush (pc := 95) ok (8 : Int32) dX5_copyFrom_95 cb_8 ?_
  refine r_icpy (pc := 97) ok (qu_s4 hq2) (Nat.add_sub_cancel_left _ _) (qu_s4 hq) (Nat.add_sub_cancel_left _ _) (fun s_ => mx (va_up XX iq s_) YY) (pm_l (qu_lt hq) (pm_0 _ _)).1 (pm_l (qu_lt hq) (pm_0 _ _)).2 (fun _ => mx_l (qu_lt hq2) ((va_up_ne _ _ (hqq2)).trans (hr_q2))) (by decide +kernel) wAC_in ml_Qu_47 (Nat.le_of_ble_eq_true rfl) (Nat.le_of_ble_eq_true rfl) dX5_copyFrom_97 (fun s9 => ?_)
  refine r_aload_n (pc := 100) ok dX5_copyFrom_100 rfl ?_
  refine r_getR (pc := 101) ok cls5 (qu_sh hq2) (k := 9) rfl (Nat.le_of_ble_eq_true rfl) rfl dX5_copyFrom_101 fl_Qu_35 ?_
  refine r_iconst (pc := 104) ok (0 : Int32) dX5_copyFrom_104 ci_0 ?_
  refine r_aload_n (pc := 105) ok dX5_copyFrom_105 rfl ?_
  refine r_getR (pc := 106) ok cls5 (qu_sh hq) (k := 9) rfl (Nat.le_of_ble_eq_true rfl) rfl dX5_copyFrom_106 fl_Qu_35 ?_
  refine r_iconst (pc := 109) ok (0 : Int32) dX5_copyFrom_109 ci_0 ?_
  refine r_bipush (pc := 110) ok (8 : Int32) dX5_copyFrom_110 cb_8 ?_
  refine r_icpy (pc := 112) ok (qu_s5 hq2) (Nat.add_sub_cancel_left _ _) (qu_s5 hq) (Nat.add_sub_cancel_left _ _) (fun s_ => mx (va_up XX iq s_) YY) (pm_l (qu_lt hq) (pm_0 _ _)).1 (pm_l (qu_lt hq) (pm_0 _ _)).2 (fun _ => mx_l (qu_lt hq2) ((va_up_ne _ _ (hqq2)).trans (hr_q2))) (by decide +kernel) wAC_in ml_Qu_47 (Nat.le_of_ble_eq_true rfl) (Nat.le_of_ble_eq_true rfl) dX5_copyFrom_112 (fun s10 => ?_)
  refine r_aload_n (pc := 115) ok dX5_copyFrom_115 rfl ?_
  refine r_getR (pc := 116) ok cls5 (qu_sh hq2) (k := 10) rfl (Nat.le_of_ble_eq_true rfl) rfl dX5_copyFrom_116 fl_Qu_38 ?_
  refine r_iconst (pc := 119) ok (0 : Int32) dX5_copyFrom_119 ci_0 ?_
  refine r_aload_n (pc := 120) ok dX5_copyFrom_120 rfl ?_
  refine r_getR (pc := 121) ok cls5 (qu_sh hq) (k := 10) rfl (Nat.le_of_ble_eq_true rfl) rfl dX5_copyFrom_121 fl_Qu_38 ?_
  refine r_iconst (pc := 124) ok (0 : Int32) dX5_copyFrom_124 ci_0 ?_
  refine r_bipush (pc := 125) ok (8 : Int32) dX5_copyFrom_125 cb_8 ?_
  refine r_lcpy (pc := 127) ok (qu_s6 hq2) (Nat.add_sub_cancel_left _ _) (qu_s6 hq) (Nat.add_sub_cancel_left _ _) (fun s_ => mx (va_up XX iq s_) YY) (pm_l (qu_lt hq) (pm_0 _ _)).1 (pm_l (qu_lt hq) (pm_0 _ _)).2 (fun _ => mx_l (qu_lt hq2) ((va_up_ne _ _ (hqq2)).trans (hr_q2))) (by decide +kernel) wAC_in ml_Qu_47 (Nat.le_of_ble_eq_true rfl) (Nat.le_of_ble_eq_true rfl) dX5_copyFrom_127 (fun s11 => ?_)
  exact r_vret (pc := 130) ok dX5_copyFrom_130 rfl
theorem tQu_copyFrom {l : Launch} {G : Gx} {b : Nat} {iq : Nat} {iq2 : Nat} {XX YY : Nat → Obj} {q2 : Obj} {q : Obj} (hq : isQu iq) (hq2 : isQu iq2) (hqq2 : iq2 ≠ iq) (hr_q2 : XX iq2 = q2) {r : Obj} (hr : fQu_copyFrom q2 q = some r) : MetG l G b yX5_copyFrom cX5_copyFrom 2 none 1 [.ref (b + iq), .ref (b + iq2)] (mx (va_up XX iq q) YY) (qV G b (mx (va_up XX iq r) YY)) := by
  refine met_start [some (.ref (b + iq)), some (.ref (b + iq2))] (by decide +kernel) (Nat.le_of_ble_eq_true rfl) rfl (fun Z hl ok => ?_)
  clear hl
  exact vQu_copyFrom ok hq hq2 hqq2 hr_q2 r (by rw [hr]; rfl)
theorem vSc_copyFrom {Z : Cx} {G : Gx} {b : Nat} {io : Nat} {io2 : Nat} {XX YY : Nat → Obj} {sc2 : Obj} {sc : Obj} (ok : OK Z G b cX8_copyFrom 2 1 RX8 none) (ho : isSc io) (ho2 : isSc io2) (hoo2 : io2 ≠ io) (hr_sc2 : XX io2 = sc2) : VO Z G b 2 (fun (r : Obj) => QX Z b (qV G b (mx (va_up XX io r) YY))) (mx (va_up XX io sc) YY) 0 [some (.ref (b + io)), some (.ref (b + io2))] [] ((fSc_copyFrom sc2 sc).bind some) := by
  unfold fSc_copyFrom
  refine r_aload_n (pc := 0) ok dX8_copyFrom_0 rfl ?_
  refine r_aload_n (pc := 1) ok dX8_copyFrom_1 rfl ?_
  refine r_getI (pc := 2) ok cls8 (sc_sh ho2) (k := 1) rfl (Nat.le_of_ble_eq_true rfl) (mx_l (sc_lt ho2) ((va_up_ne _ _ (hoo2)).trans (hr_sc2))) dX8_copyFrom_2 fl_Sc_46 ?_
  refine r_putI (pc := 5) ok cls8 (sc_sh ho) (k := 1) rfl (Nat.le_of_ble_eq_true rfl) (fun s_ => mx (va_up XX io s_) YY) (pm_l (sc_lt ho) (pm_0 _ _)).1 (pm_l (sc_lt ho) (pm_0 _ _)).2 rfl rfl rfl dX8_copyFrom_5 fl_Sc_46 (fun s1 => ?_)
  refine r_aload_n (pc := 8) ok dX8_copyFrom_8 rfl ?_
  refine r_aload_n (pc := 9) ok dX8_copyFrom_9 rfl ?_
  refine r_getI (pc := 10) ok cls8 (sc_sh ho2) (k := 2) rfl (Nat.le_of_ble_eq_true rfl) (mx_l (sc_lt ho2) ((va_up_ne _ _ (hoo2)).trans (hr_sc2))) dX8_copyFrom_10 fl_Sc_50 ?_
  refine r_putI (pc := 13) ok cls8 (sc_sh ho) (k := 2) rfl (Nat.le_of_ble_eq_true rfl) (fun s_ => mx (va_up XX io s_) YY) (pm_l (sc_lt ho) (pm_0 _ _)).1 (pm_l (sc_lt ho) (pm_0 _ _)).2 rfl rfl rfl dX8_copyFrom_13 fl_Sc_50 (fun s2 => ?_)
  refine r_aload_n (pc := 16) ok dX8_copyFrom_16 rfl ?_
  refine r_aload_n (pc := 17) ok dX8_copyFrom_17 rfl ?_
  refine r_getI (pc := 18) ok cls8 (sc_sh ho2) (k := 3) rfl (Nat.le_of_ble_eq_true rfl) (mx_l (sc_lt ho2) ((va_up_ne _ _ (hoo2)).trans (hr_sc2))) dX8_copyFrom_18 fl_Sc_53 ?_
  refine r_putI (pc := 21) ok cls8 (sc_sh ho) (k := 3) rfl (Nat.le_of_ble_eq_true rfl) (fun s_ => mx (va_up XX io s_) YY) (pm_l (sc_lt ho) (pm_0 _ _)).1 (pm_l (sc_lt ho) (pm_0 _ _)).2 rfl rfl rfl dX8_copyFrom_21 fl_Sc_53 (fun s3 => ?_)
  refine r_aload_n (pc := 24) ok dX8_copyFrom_24 rfl ?_
  refine r_getR (pc := 25) ok cls8 (sc_sh ho2) (k := 4) rfl (Nat.le_of_ble_eq_true rfl) rfl dX8_copyFrom_25 fl_Sc_9 ?_
  refine r_iconst (pc := 28) ok (0 : Int32) dX8_copyFrom_28 ci_0 ?_
  refine r_aload_n (pc := 29) ok dX8_copyFrom_29 rfl ?_
  refine r_getR (pc := 30) ok cls8 (sc_sh ho) (k := 4) rfl (Nat.le_of_ble_eq_true rfl) rfl dX8_copyFrom_30 fl_Sc_9 ?_
  refine r_iconst (pc := 33) ok (0 : Int32) dX8_copyFrom_33 ci_0 ?_
  refine r_bipush (pc := 34) ok (12 : Int32) dX8_copyFrom_34 cb_12 ?_
  refine r_icpy (pc := 36) ok (sc_s1 ho2) (Nat.add_sub_cancel_left _ _) (sc_s1 ho) (Nat.add_sub_cancel_left _ _) (fun s_ => mx (va_up XX io s_) YY) (pm_l (sc_lt ho) (pm_0 _ _)).1 (pm_l (sc_lt ho) (pm_0 _ _)).2 (fun _ => mx_l (sc_lt ho2) ((va_up_ne _ _ (hoo2)).trans (hr_sc2))) (by decide +kernel) wAC_in ml_Sc_56 (Nat.le_of_ble_eq_true rfl) (Nat.le_of_ble_eq_true rfl) dX8_copyFrom_36 (fun s4 => ?_)
  refine r_aload_n (pc := 39) ok dX8_copyFrom_39 rfl ?_
  refine r_getR (pc := 40) ok cls8 (sc_sh ho2) (k := 5) rfl (Nat.le_of_ble_eq_true rfl) rfl dX8_copyFrom_40 fl_Sc_15 ?_
  refine r_iconst (pc := 43) ok (0 : Int32) dX8_copyFrom_43 ci_0 ?_
  refine r_aload_n (pc := 44) ok dX8_copyFrom_44 rfl ?_
  refine r_getR (pc := 45) ok cls8 (sc_sh ho) (k := 5) rfl (Nat.le_of_ble_eq_true rfl) rfl dX8_copyFrom_45 fl_Sc_15 ?_
  refine r_iconst (pc := 48) ok (0 : Int32) dX8_copyFrom_48 ci_0 ?_
  refine r_bipush (pc := 49) ok (12 : Int32) dX8_copyFrom_49 cb_12 ?_
  refine r_icpy (pc := 51) ok (sc_s2 ho2) (Nat.add_sub_cancel_left _ _) (sc_s2 ho) (Nat.add_sub_cancel_left _ _) (fun s_ => mx (va_up XX io s_) YY) (pm_l (sc_lt ho) (pm_0 _ _)).1 (pm_l (sc_lt ho) (pm_0 _ _)).2 (fun _ => mx_l (sc_lt ho2) ((va_up_ne _ _ (hoo2)).trans (hr_sc2))) (by decide +kernel) wAC_in ml_Sc_56 (Nat.le_of_ble_eq_true rfl) (Nat.le_of_ble_eq_true rfl) dX8_copyFrom_51 (fun s5 => ?_)
  refine r_aload_n (pc := 54) ok dX8_copyFrom_54 rfl ?_
  refine r_getR (pc := 55) ok cls8 (sc_sh ho2) (k := 6) rfl (Nat.le_of_ble_eq_true rfl) rfl dX8_copyFrom_55 fl_Sc_18 ?_
  refine r_iconst (pc := 58) ok (0 : Int32) dX8_copyFrom_58 ci_0 ?_
  refine r_aload_n (pc := 59) ok dX8_copyFrom_59 rfl ?_
  refine r_getR (pc := 60) ok cls8 (sc_sh ho) (k := 6) rfl (Nat.le_of_ble_eq_true rfl) rfl dX8_copyFrom_60 fl_Sc_18 ?_
  refine r_iconst (pc := 63) ok (0 : Int32) dX8_copyFrom_63 ci_0 ?_
  refine r_bipush (pc := 64) ok (8 : Int32) dX8_copyFrom_64 cb_8 ?_
  refine r_icpy (pc := 66) ok (sc_s3 ho2) (Nat.add_sub_cancel_left _ _) (sc_s3 ho) (Nat.add_sub_cancel_left _ _) (fun s_ => mx (va_up XX io s_) YY) (pm_l (sc_lt ho) (pm_0 _ _)).1 (pm_l (sc_lt ho) (pm_0 _ _)).2 (fun _ => mx_l (sc_lt ho2) ((va_up_ne _ _ (hoo2)).trans (hr_sc2))) (by decide +kernel) wAC_in ml_Sc_56 (Nat.le_of_ble_eq_true rfl) (Nat.le_of_ble_eq_true rfl) dX8_copyFrom_66 (fun s6 => ?_)
  refine r_aload_n (pc := 69) ok dX8_copyFrom_69 rfl ?_
  refine r_getR (pc := 70) ok cls8 (sc_sh ho2) (k := 7) rfl (Nat.le_of_ble_eq_true rfl) rfl dX8_copyFrom_70 fl_Sc_21 ?_
  refine r_iconst (pc := 73) ok (0 : Int32) dX8_copyFrom_73 ci_0 ?_
  refine r_aload_n (pc := 74) ok dX8_copyFrom_74 rfl ?_
  refine r_getR (pc := 75) ok cls8 (sc_sh ho) (k := 7) rfl (Nat.le_of_ble_eq_true rfl) rfl dX8_copyFrom_75 fl_Sc_21 ?_
  refine r_iconst (pc := 78) ok (0 : Int32) dX8_copyFrom_78 ci_0 ?_
  refine r_bipush (pc := 79) ok (8 : Int32) dX8_copyFrom_79 cb_8 ?_
  refine r_icpy (pc := 81) ok (sc_s4 ho2) (Nat.add_sub_cancel_left _ _) (sc_s4 ho) (Nat.add_sub_cancel_left _ _) (fun s_ => mx (va_up XX io s_) YY) (pm_l (sc_lt ho) (pm_0 _ _)).1 (pm_l (sc_lt ho) (pm_0 _ _)).2 (fun _ => mx_l (sc_lt ho2) ((va_up_ne _ _ (hoo2)).trans (hr_sc2))) (by decide +kernel) wAC_in ml_Sc_56 (Nat.le_of_ble_eq_true rfl) (Nat.le_of_ble_eq_true rfl) dX8_copyFrom_81 (fun s7 => ?_)
  refine r_aload_n (pc := 84) ok dX8_copyFrom_84 rfl ?_
  refine r_getR (pc := 85) ok cls8 (sc_sh ho2) (k := 8) rfl (Nat.le_of_ble_eq_true rfl) rfl dX8_copyFrom_85 fl_Sc_24 ?_
  refine r_iconst (pc := 88) ok (0 : Int32) dX8_copyFrom_88 ci_0 ?_
  refine r_aload_n (pc := 89) ok dX8_copyFrom_89 rfl ?_
  refine r_getR (pc := 90) ok cls8 (sc_sh ho) (k := 8) rfl (Nat.le_of_ble_eq_true rfl) rfl dX8_copyFrom_90 fl_Sc_24 ?_
  refine r_iconst (pc := 93) ok (0 : Int32) dX8_copyFrom_93 ci_0 ?_
  refine r_bipush (pc := 94) ok (8 : Int32) dX8_copyFrom_94 cb_8 ?_
  refine r_icpy (pc := 96) ok (sc_s5 ho2) (Nat.add_sub_cancel_left _ _) (sc_s5 ho) (Nat.add_sub_cancel_left _ _) (fun s_ => mx (va_up XX io s_) YY) (pm_l (sc_lt ho) (pm_0 _ _)).1 (pm_l (sc_lt ho) (pm_0 _ _)).2 (fun _ => mx_l (sc_lt ho2) ((va_up_ne _ _ (hoo2)).trans (hr_sc2))) (by decide +kernel) wAC_in ml_Sc_56 (Nat.le_of_ble_eq_true rfl) (Nat.le_of_ble_eq_true rfl) dX8_copyFrom_96 (fun s8 => ?_)
  refine r_aload_n (pc := 99) ok dX8_copyFrom_99 rfl ?_
  refine r_getR (pc := 100) ok cls8 (sc_sh ho2) (k := 9) rfl (Nat.le_of_ble_eq_true rfl) rfl dX8_copyFrom_100 fl_Sc_27 ?_
  refine r_iconst (pc := 103) ok (0 : Int32) dX8_copyFrom_103 ci_0 ?_
  refine r_aload_n (pc := 104) ok dX8_copyFrom_104 rfl ?_
  refine r_getR (pc := 105) ok cls8 (sc_sh ho) (k := 9) rfl (Nat.le_of_ble_eq_true rfl) rfl dX8_copyFrom_105 fl_Sc_27 ?_
  refine r_iconst (pc := 108) ok (0 : Int32) dX8_copyFrom_108 ci_0 ?_
  refine r_bipush (pc := 109) ok (8 : Int32) dX8_copyFrom_109 cb_8 ?_
  refine r_icpy (pc := 111) ok (sc_s6 ho2) (Nat.add_sub_cancel_left _ _) (sc_s6 ho) (Nat.add_sub_cancel_left _ _) (fun s_ => mx (va_up XX io s_) YY) (pm_l (sc_lt ho) (pm_0 _ _)).1 (pm_l (sc_lt ho) (pm_0 _ _)).2 (fun _ => mx_l (sc_lt ho2) ((va_up_ne _ _ (hoo2)).trans (hr_sc2))) (by decide +kernel) wAC_in ml_Sc_56 (Nat.le_of_ble_eq_true rfl) (Nat.le_of_ble_eq_true rfl) dX8_copyFrom_111 (fun s9 => ?_)
  refine r_aload_n (pc := 114) ok dX8_copyFrom_114 rfl ?_
  refine r_getR (pc := 115) ok cls8 (sc_sh ho2) (k := 10) rfl (Nat.le_of_ble_eq_true rfl) rfl dX8_copyFrom_115 fl_Sc_30 ?_
  refine r_iconst (pc := 118) ok (0 : Int32) dX8_copyFrom_118 ci_0 ?_
  refine r_aload_n (pc := 119) ok dX8_copyFrom_119 rfl ?_
  refine r_getR (pc := 120) ok cls8 (sc_sh ho) (k := 10) rfl (Nat.le_of_ble_eq_true rfl) rfl dX8_copyFrom_120 fl_Sc_30 ?_
  refine r_iconst (pc := 123) ok (0 : Int32) dX8_copyFrom_123 ci_0 ?_
  refine r_bipush (pc := 124) ok (8 : Int32) dX8_copyFrom_124 cb_8 ?_
  refine r_icpy (pc := 126) ok (sc_s7 ho2) (Nat.add_sub_cancel_left _ _) (sc_s7 ho) (Nat.add_sub_cancel_left _ _) (fun s_ => mx (va_up XX io s_) YY) (pm_l (sc_lt ho) (pm_0 _ _)).1 (pm_l (sc_lt ho) (pm_0 _ _)).2 (fun _ => mx_l (sc_lt ho2) ((va_up_ne _ _ (hoo2)).trans (hr_sc2))) (by decide +kernel) wAC_in ml_Sc_56 (Nat.le_of_ble_eq_true rfl) (Nat.le_of_ble_eq_true rfl) dX8_copyFrom_126 (fun s10 => ?_)
  refine r_aload_n (pc := 129) ok dX8_copyFrom_129 rfl ?_
  refine r_getR (pc := 130) ok cls8 (sc_sh ho2) (k := 11) rfl (Nat.le_of_ble_eq_true rfl) rfl dX8_copyFrom_130 fl_Sc_33 ?_
  refine r_iconst (pc := 133) ok (0 : Int32) dX8_copyFrom_133 ci_0 ?_
  refine r_aload_n (pc := 134) ok dX8_copyFrom_134 rfl ?_
  refine r_getR (pc := 135) ok cls8 (sc_sh ho) (k := 11) rfl (Nat.le_of_ble_eq_true rfl) rfl dX8_copyFrom_135 fl_Sc_33 ?_
  refine r_iconst (pc := 138) ok (0 : Int32) dX8_copyFrom_138 ci_0 ?_
  refine r_bipush (pc := 139) ok (8 : Int32) dX8_copyFrom_139 cb_8 ?_
  refine r_icpy (pc := 141) ok (sc_s8 ho2) (Nat.add_sub_cancel_left _ _) (sc_s8 ho) (Nat.add_sub_cancel_left _ _) (fun s_ => mx (va_up XX io s_) YY) (pm_l (sc_lt ho) (pm_0 _ _)).1 (pm_l (sc_lt ho) (pm_0 _ _)).2 (fun _ => mx_l (sc_lt ho2) ((va_up_ne _ _ (hoo2)).trans (hr_sc2))) (by decide +kernel) wAC_in ml_Sc_56 (Nat.le_of_ble_eq_true rfl) (Nat.le_of_ble_eq_true rfl) dX8_copyFrom_141 (fun s11 => ?_)
  refine r_aload_n (pc := 144) ok dX8_copyFrom_144 rfl ?_
  refine r_getR (pc := 145) ok cls8 (sc_sh ho2) (k := 12) rfl (Nat.le_of_ble_eq_true rfl) rfl dX8_copyFrom_145 fl_Sc_36 ?_
  refine r_iconst (pc := 148) ok (0 : Int32) dX8_copyFrom_148 ci_0 ?_
  refine r_aload_n (pc := 149) ok dX8_copyFrom_149 rfl ?_
  refine r_getR (pc := 150) ok cls8 (sc_sh ho) (k := 12) rfl (Nat.le_of_ble_eq_true rfl) rfl dX8_copyFrom_150 fl_Sc_36 ?_
  refine r_iconst (pc := 153) ok (0 : Int32) dX8_copyFrom_153 ci_0 ?_
  refine r_bipush (pc := 154) ok (8 : Int32) dX8_copyFrom_154 cb_8 ?_
  refine r_icpy (pc := 156) ok (sc_s9 ho2) (Nat.add_sub_cancel_left _ _) (sc_s9 ho) (Nat.add_sub_cancel_left _ _) (fun s_ => mx (va_up XX io s_) YY) (pm_l (sc_lt ho) (pm_0 _ _)).1 (pm_l (sc_lt ho) (pm_0 _ _)).2 (fun _ => mx_l (sc_lt ho2) ((va_up_ne _ _ (hoo2)).trans (hr_sc2))) (by decide +kernel) wAC_in ml_Sc_56 (Nat.le_of_ble_eq_true rfl) (Nat.le_of_ble_eq_true rfl) dX8_copyFrom_156 (fun s12 => ?_)
  refine r_aload_n (pc := 159) ok dX8_copyFrom_159 rfl ?_
  refine r_getR (pc := 160) ok cls8 (sc_sh ho2) (k := 13) rfl (Nat.le_of_ble_eq_true rfl) rfl dX8_copyFrom_160 fl_Sc_39 ?_
  refine r_iconst (pc := 163) ok (0 : Int32) dX8_copyFrom_163 ci_0 ?_
  refine r_aload_n (pc := 164) ok dX8_copyFrom_164 rfl ?_
  refine r_getR (pc := 165) ok cls8 (sc_sh ho) (k := 13) rfl (Nat.le_of_ble_eq_true rfl) rfl dX8_copyFrom_165 fl_Sc_39 ?_
  refine r_iconst (pc := 168) ok (0 : Int32) dX8_copyFrom_168 ci_0 ?_
  refine r_bipush (pc := 169) ok (8 : Int32) dX8_copyFrom_169 cb_8 ?_
  refine r_icpy (pc := 171) ok (sc_s10 ho2) (Nat.add_sub_cancel_left _ _) (sc_s10 ho) (Nat.add_sub_cancel_left _ _) (fun s_ => mx (va_up XX io s_) YY) (pm_l (sc_lt ho) (pm_0 _ _)).1 (pm_l (sc_lt ho) (pm_0 _ _)).2 (fun _ => mx_l (sc_lt ho2) ((va_up_ne _ _ (hoo2)).trans (hr_sc2))) (by decide +kernel) wAC_in ml_Sc_56 (Nat.le_of_ble_eq_true rfl) (Nat.le_of_ble_eq_true rfl) dX8_copyFrom_171 (fun s13 => ?_)
  exact r_vret (pc := 174) ok dX8_copyFrom_174 rfl
theorem tSc_copyFrom {l : Launch} {G : Gx} {b : Nat} {io : Nat} {io2 : Nat} {XX YY : Nat → Obj} {sc2 : Obj} {sc : Obj} (ho : isSc io) (ho2 : isSc io2) (hoo2 : io2 ≠ io) (hr_sc2 : XX io2 = sc2) {r : Obj} (hr : fSc_copyFrom sc2 sc = some r) : MetG l G b yX8_copyFrom cX8_copyFrom 2 none 1 [.ref (b + io), .ref (b + io2)] (mx (va_up XX io sc) YY) (qV G b (mx (va_up XX io r) YY)) := by
  refine met_start [some (.ref (b + io)), some (.ref (b + io2))] (by decide +kernel) (Nat.le_of_ble_eq_true rfl) rfl (fun Z hl ok => ?_)
  clear hl
  exact vSc_copyFrom ok ho ho2 hoo2 hr_sc2 r (by rw [hr]; rfl)
theorem vSy_copyFrom {Z : Cx} {G : Gx} {b : Nat} {iy : Nat} {iy2 : Nat} {XX YY : Nat → Obj} {sy2 : Obj} {sy : Obj} (ok : OK Z G b cX7_copyFrom 2 1 RX7 none) (hy : isSy iy) (hy2 : isSy iy2) (hyy2 : iy2 ≠ iy) (hr_sy2 : XX iy2 = sy2) : VO Z G b 2 (fun (r : Obj) => QX Z b (qV G b (mx (va_up XX iy r) YY))) (mx (va_up XX iy sy) YY) 0 [some (.ref (b + iy)), some (.ref (b + iy2))] [] ((fSy_copyFrom sy2 sy).bind some) := by
  unfold fSy_copyFrom
  refine r_aload_n (pc := 0) ok dX7_copyFrom_0 rfl ?_
  refine r_aload_n (pc := 1) ok dX7_copyFrom_1 rfl ?_
  refine r_getI (pc := 2) ok cls7 (sy_sh hy2) (k := 0) rfl (Nat.le_of_ble_eq_true rfl) (mx_l (sy_lt hy2) ((va_up_ne _ _ (hyy2)).trans (hr_sy2))) dX7_copyFrom_2 fl_Sy_24 ?_
  refine r_putI (pc := 5) ok cls7 (sy_sh hy) (k := 0) rfl (Nat.le_of_ble_eq_true rfl) (fun s_ => mx (va_up XX iy s_) YY) (pm_l (sy_lt hy) (pm_0 _ _)).1 (pm_l (sy_lt hy) (pm_0 _ _)).2 rfl rfl rfl dX7_copyFrom_5 fl_Sy_24 (fun s1 => ?_)
  refine r_aload_n (pc := 8) ok dX7_copyFrom_8 rfl ?_
  refine r_aload_n (pc := 9) ok dX7_copyFrom_9 rfl ?_
  refine r_getI (pc := 10) ok cls7 (sy_sh hy2) (k := 1) rfl (Nat.le_of_ble_eq_true rfl) (mx_l (sy_lt hy2) ((va_up_ne _ _ (hyy2)).trans (hr_sy2))) dX7_copyFrom_10 fl_Sy_28 ?_
  refine r_putI (pc := 13) ok cls7 (sy_sh hy) (k := 1) rfl (Nat.le_of_ble_eq_true rfl) (fun s_ => mx (va_up XX iy s_) YY) (pm_l (sy_lt hy) (pm_0 _ _)).1 (pm_l (sy_lt hy) (pm_0 _ _)).2 rfl rfl rfl dX7_copyFrom_13 fl_Sy_28 (fun s2 => ?_)
  refine r_aload_n (pc := 16) ok dX7_copyFrom_16 rfl ?_
  refine r_getR (pc := 17) ok cls7 (sy_sh hy2) (k := 2) rfl (Nat.le_of_ble_eq_true rfl) rfl dX7_copyFrom_17 fl_Sy_11 ?_
  refine r_iconst (pc := 20) ok (0 : Int32) dX7_copyFrom_20 ci_0 ?_
  refine r_aload_n (pc := 21) ok dX7_copyFrom_21 rfl ?_
  refine r_getR (pc := 22) ok cls7 (sy_sh hy) (k := 2) rfl (Nat.le_of_ble_eq_true rfl) rfl dX7_copyFrom_22 fl_Sy_11 ?_
  refine r_iconst (pc := 25) ok (0 : Int32) dX7_copyFrom_25 ci_0 ?_
  refine r_bipush (pc := 26) ok (40 : Int32) dX7_copyFrom_26 cb_40 ?_
  refine r_icpy (pc := 28) ok (sy_s1 hy2) (Nat.add_sub_cancel_left _ _) (sy_s1 hy) (Nat.add_sub_cancel_left _ _) (fun s_ => mx (va_up XX iy s_) YY) (pm_l (sy_lt hy) (pm_0 _ _)).1 (pm_l (sy_lt hy) (pm_0 _ _)).2 (fun _ => mx_l (sy_lt hy2) ((va_up_ne _ _ (hyy2)).trans (hr_sy2))) (by decide +kernel) wAC_in ml_Sy_31 (Nat.le_of_ble_eq_true rfl) (Nat.le_of_ble_eq_true rfl) dX7_copyFrom_28 (fun s3 => ?_)
  refine r_aload_n (pc := 31) ok dX7_copyFrom_31 rfl ?_
  refine r_getR (pc := 32) ok cls7 (sy_sh hy2) (k := 3) rfl (Nat.le_of_ble_eq_true rfl) rfl dX7_copyFrom_32 fl_Sy_15 ?_
  refine r_iconst (pc := 35) ok (0 : Int32) dX7_copyFrom_35 ci_0 ?_
  refine r_aload_n (pc := 36) ok dX7_copyFrom_36 rfl ?_
  refine r_getR (pc := 37) ok cls7 (sy_sh hy) (k := 3) rfl (Nat.le_of_ble_eq_true rfl) rfl dX7_copyFrom_37 fl_Sy_15 ?_
  refine r_iconst (pc := 40) ok (0 : Int32) dX7_copyFrom_40 ci_0 ?_
  refine r_bipush (pc := 41) ok (40 : Int32) dX7_copyFrom_41 cb_40 ?_
  refine r_icpy (pc := 43) ok (sy_s2 hy2) (Nat.add_sub_cancel_left _ _) (sy_s2 hy) (Nat.add_sub_cancel_left _ _) (fun s_ => mx (va_up XX iy s_) YY) (pm_l (sy_lt hy) (pm_0 _ _)).1 (pm_l (sy_lt hy) (pm_0 _ _)).2 (fun _ => mx_l (sy_lt hy2) ((va_up_ne _ _ (hyy2)).trans (hr_sy2))) (by decide +kernel) wAC_in ml_Sy_31 (Nat.le_of_ble_eq_true rfl) (Nat.le_of_ble_eq_true rfl) dX7_copyFrom_43 (fun s4 => ?_)
  refine r_aload_n (pc := 46) ok dX7_copyFrom_46 rfl ?_
  refine r_getR (pc := 47) ok cls7 (sy_sh hy2) (k := 4) rfl (Nat.le_of_ble_eq_true rfl) rfl dX7_copyFrom_47 fl_Sy_18 ?_
  refine r_iconst (pc := 50) ok (0 : Int32) dX7_copyFrom_50 ci_0 ?_
  refine r_aload_n (pc := 51) ok dX7_copyFrom_51 rfl ?_
  refine r_getR (pc := 52) ok cls7 (sy_sh hy) (k := 4) rfl (Nat.le_of_ble_eq_true rfl) rfl dX7_copyFrom_52 fl_Sy_18 ?_
  refine r_iconst (pc := 55) ok (0 : Int32) dX7_copyFrom_55 ci_0 ?_
  refine r_bipush (pc := 56) ok (40 : Int32) dX7_copyFrom_56 cb_40 ?_
  refine r_icpy (pc := 58) ok (sy_s3 hy2) (Nat.add_sub_cancel_left _ _) (sy_s3 hy) (Nat.add_sub_cancel_left _ _) (fun s_ => mx (va_up XX iy s_) YY) (pm_l (sy_lt hy) (pm_0 _ _)).1 (pm_l (sy_lt hy) (pm_0 _ _)).2 (fun _ => mx_l (sy_lt hy2) ((va_up_ne _ _ (hyy2)).trans (hr_sy2))) (by decide +kernel) wAC_in ml_Sy_31 (Nat.le_of_ble_eq_true rfl) (Nat.le_of_ble_eq_true rfl) dX7_copyFrom_58 (fun s5 => ?_)
  exact r_vret (pc := 61) ok dX7_copyFrom_61 rfl
theorem tSy_copyFrom {l : Launch} {G : Gx} {b : Nat} {iy : Nat} {iy2 : Nat} {XX YY : Nat → Obj} {sy2 : Obj} {sy : Obj} (hy : isSy iy) (hy2 : isSy iy2) (hyy2 : iy2 ≠ iy) (hr_sy2 : XX iy2 = sy2) {r : Obj} (hr : fSy_copyFrom sy2 sy = some r) : MetG l G b yX7_copyFrom cX7_copyFrom 2 none 1 [.ref (b + iy), .ref (b + iy2)] (mx (va_up XX iy sy) YY) (qV G b (mx (va_up XX iy r) YY)) := by
  refine met_start [some (.ref (b + iy)), some (.ref (b + iy2))] (by decide +kernel) (Nat.le_of_ble_eq_true rfl) rfl (fun Z hl ok => ?_)
  clear hl
  exact vSy_copyFrom ok hy hy2 hyy2 hr_sy2 r (by rw [hr]; rfl)
theorem vSt_copyFrom {Z : Cx} {G : Gx} {b : Nat} {iz : Nat} {iz2 : Nat} {YY : Nat → Obj} {X : Nat → Obj} (ok : OK Z G b cX9_copyFrom 2 2 RX9 none) (hz : isSt iz) (hz2 : isSt iz2) (hzz2 : iz2 ≠ iz) : VO Z G b 2 (fun (r : (Nat → Obj)) => QX Z b (qV G b (mx r YY))) (mx X YY) 0 [some (.ref (b + iz)), some (.ref (b + iz2))] [] ((fSt_copyFrom X iz iz2).bind some) := by
  unfold fSt_copyFrom
  refine r_aload_n (pc := 0) ok dX9_copyFrom_0 rfl ?_
  refine r_getR (pc := 1) ok cls9 (st_sh hz) (k := 0) rfl (Nat.le_of_ble_eq_true rfl) rfl dX9_copyFrom_1 fl_St_10 ?_
  refine r_aload_n (pc := 4) ok dX9_copyFrom_4 rfl ?_
  refine r_getR (pc := 5) ok cls9 (st_sh hz2) (k := 0) rfl (Nat.le_of_ble_eq_true rfl) rfl dX9_copyFrom_5 fl_St_10 ?_
  refine k_V (pc := 8)  (fun r1 => mx ((va_up X (iz + 1) r1)) YY) (fun r1 hr_ => c_V (n := 1) ok cls5 (qu_sh (st_qu hz)) rfl ml_St_32 wv_X5_copyFrom yk_X5_copyFrom rfl (Nat.le_of_ble_eq_true rfl) (Nat.le_of_ble_eq_true rfl) (met_cast (by rw [up_eta]) rfl (tQu_copyFrom (st_qu hz) (st_qu hz2) (st_nn hzz2) (rfl) hr_)) rfl (Nat.le_of_ble_eq_true rfl) dX9_copyFrom_8) (fun r1 => ?_)
  refine r_bndX (wf := (fun x_ => mx x_ YY)) (fun X2 => ?_)
  refine r_aload_n (pc := 11) ok dX9_copyFrom_11 rfl ?_
  refine r_getR (pc := 12) ok cls9 (st_sh hz) (k := 1) rfl (Nat.le_of_ble_eq_true rfl) rfl dX9_copyFrom_12 fl_St_21 ?_
  refine r_aload_n (pc := 15) ok dX9_copyFrom_15 rfl ?_
  refine r_getR (pc := 16) ok cls9 (st_sh hz2) (k := 1) rfl (Nat.le_of_ble_eq_true rfl) rfl dX9_copyFrom_16 fl_St_21 ?_
  refine k_V (pc := 19)  (fun r3 => mx ((va_up X2 (iz + 8) r3)) YY) (fun r3 hr_ => c_V (n := 1) ok cls8 (sc_sh (st_sc hz)) rfl ml_St_35 wv_X8_copyFrom yk_X8_copyFrom rfl (Nat.le_of_ble_eq_true rfl) (Nat.le_of_ble_eq_true rfl) (met_cast (by rw [up_eta]) rfl (tSc_copyFrom (st_sc hz) (st_sc hz2) (st_nn hzz2) (rfl) hr_)) rfl (Nat.le_of_ble_eq_true rfl) dX9_copyFrom_19) (fun r3 => ?_)
  refine r_bndX (wf := (fun x_ => mx x_ YY)) (fun X4 => ?_)
  refine r_aload_n (pc := 22) ok dX9_copyFrom_22 rfl ?_
  refine r_getR (pc := 23) ok cls9 (st_sh hz) (k := 2) rfl (Nat.le_of_ble_eq_true rfl) rfl dX9_copyFrom_23 fl_St_28 ?_
  refine r_aload_n (pc := 26) ok dX9_copyFrom_26 rfl ?_
  refine r_getR (pc := 27) ok cls9 (st_sh hz2) (k := 2) rfl (Nat.le_of_ble_eq_true rfl) rfl dX9_copyFrom_27 fl_St_28 ?_
  refine k_V (pc := 30)  (fun r5 => mx ((va_up X4 (iz + 19) r5)) YY) (fun r5 hr_ => c_V (n := 1) ok cls7 (sy_sh (st_sy hz)) rfl ml_St_38 wv_X7_copyFrom yk_X7_copyFrom rfl (Nat.le_of_ble_eq_true rfl) (Nat.le_of_ble_eq_true rfl) (met_cast (by rw [up_eta]) rfl (tSy_copyFrom (st_sy hz) (st_sy hz2) (st_nn hzz2) (rfl) hr_)) rfl (Nat.le_of_ble_eq_true rfl) dX9_copyFrom_30) (fun r5 => ?_)
  refine r_bndX (wf := (fun x_ => mx x_ YY)) (fun X6 => ?_)
  exact r_vret (pc := 33) ok dX9_copyFrom_33 rfl
theorem tSt_copyFrom {l : Launch} {G : Gx} {b : Nat} {iz : Nat} {iz2 : Nat} {YY : Nat → Obj} {X : Nat → Obj} (hz : isSt iz) (hz2 : isSt iz2) (hzz2 : iz2 ≠ iz) {r : (Nat → Obj)} (hr : fSt_copyFrom X iz iz2 = some r) : MetG l G b yX9_copyFrom cX9_copyFrom 2 none 2 [.ref (b + iz), .ref (b + iz2)] (mx X YY) (qV G b (mx r YY)) := by
  refine met_start [some (.ref (b + iz)), some (.ref (b + iz2))] (by decide +kernel) (Nat.le_of_ble_eq_true rfl) rfl (fun Z hl ok => ?_)
  clear hl
  exact vSt_copyFrom ok hz hz2 hzz2 r (by rw [hr]; rfl)
theorem vPa_forget {Z : Cx} {G : Gx} {b : Nat} {YY : Nat → Obj} {X : Nat → Obj} (ok : OK Z G b cX4_forget 1 0 RX4 none) : VO Z G b 1 (fun (r : (Nat → Obj)) => QX Z b (qV G b (mx r YY))) (mx X YY) 0 [some (.ref (b + 100))] [] ((fPa_forget X).bind some) := by
  unfold fPa_forget
  refine r_aload_n (pc := 0) ok dX4_forget_0 rfl ?_
  refine r_iconst (pc := 1) ok (0 : Int32) dX4_forget_1 ci_0 ?_
  refine r_putG (pc := 2) ok cls4 sh_100 (k := 2) rfl (Nat.le_of_ble_eq_true rfl) (Nat.le_of_ble_eq_true rfl) rfl rfl rfl dX4_forget_2 fl_Pa_20 (fun X1 => ?_)
  exact r_vret (pc := 5) ok dX4_forget_5 rfl
theorem tPa_forget {l : Launch} {G : Gx} {b : Nat} {YY : Nat → Obj} {X : Nat → Obj} {r : (Nat → Obj)} (hr : fPa_forget X = some r) : MetG l G b yX4_forget cX4_forget 1 none 0 [.ref (b + 100)] (mx X YY) (qV G b (mx r YY)) := by
  refine met_start [some (.ref (b + 100))] (by decide +kernel) (Nat.le_of_ble_eq_true rfl) rfl (fun Z hl ok => ?_)
  clear hl
  exact vPa_forget ok r (by rw [hr]; rfl)
theorem vKL_quarter {Z : Cx} {G : Gx} {b : Nat} {YY : Nat → Obj} {X : Nat → Obj} (ok : OK Z G b cX11_quarter 2 6 RX11 (some .int)) : VO Z G b 2 (fun (r : Int32 × (Nat → Obj)) => QX Z b (qI G b r.1 (mx r.2 YY))) (mx X YY) 0 [some (.ref (b + 0)), none] [] ((fKL_quarter X).bind some) := by
  unfold fKL_quarter
  refine r_aload_n (pc := 0) ok dX11_quarter_0 rfl ?_
  refine r_getR (pc := 1) ok cls11 sh_0 (k := 7) rfl (Nat.le_of_ble_eq_true rfl) rfl dX11_quarter_1 fl_KL_57 ?_
  refine k_I (pc := 4) (fun r1 => r1.1) (fun r1 => mx ((va_up (va_up (va_up (va_up X 29 r1.2.1) 212 r1.2.2.1) 1 r1.2.2.2.1) 36 r1.2.2.2.2)) YY) (fun r1 hr_ => c_V (n := 0) ok cls6 sh_212 rfl ml_KL_111 wv_X6_readAll yk_X6_readAll rfl (Nat.le_of_ble_eq_true rfl) (Nat.le_of_ble_eq_true rfl) (met_cast (by rw [up_eta, up_eta, up_eta, up_eta]) rfl (tQr_readAll hr_)) rfl (Nat.le_of_ble_eq_true rfl) dX11_quarter_4) (fun r1 => ?_)
  refine r_bndX (wf := (fun x_ => mx (va_up (va_up (va_up x_ 212 r1.2.2.1) 1 r1.2.2.2.1) 36 r1.2.2.2.2) YY)) (fun X2 => ?_)
  refine r_bndX (wf := (fun x_ => mx (va_up (va_up x_ 1 r1.2.2.2.1) 36 r1.2.2.2.2) YY)) (fun X3 => ?_)
  refine r_bndX (wf := (fun x_ => mx (va_up x_ 36 r1.2.2.2.2) YY)) (fun X4 => ?_)
  refine r_bndX (wf := (fun x_ => mx x_ YY)) (fun X5 => ?_)
  refine r_istore_n (pc := 7) ok dX11_quarter_7 (Nat.le_of_ble_eq_true rfl) rfl ?_
  refine r_aload_n (pc := 8) ok dX11_quarter_8 rfl ?_
  refine k_V (pc := 9)  (fun r6 => mx r6 YY) (fun r6 hr_ => c_V (n := 0) ok cls11 sh_0 rfl ml_KL_115 wv_X11_finishReading yk_X11_finishReading rfl (Nat.le_of_ble_eq_true rfl) (Nat.le_of_ble_eq_true rfl) (tKL_finishReading hr_) rfl (Nat.le_of_ble_eq_true rfl) dX11_quarter_9) (fun r6 => ?_)
  refine r_iload_n (pc := 12) ok dX11_quarter_12 rfl ?_
  refine r_iconst (pc := 13) ok (-1 : Int32) dX11_quarter_13 ci_m1 ?_
  refine r_icmp_ne (pc := 14) ok 27 dX11_quarter_14 rfl (fun _ => ?_) (fun _ => ?_)
  · refine r_iconst (pc := 17) ok (-1 : Int32) dX11_quarter_17 ci_m1 ?_
    refine r_aload_n (pc := 18) ok dX11_quarter_18 rfl ?_
    refine r_getR (pc := 19) ok cls11 sh_0 (k := 0) rfl (Nat.le_of_ble_eq_true rfl) rfl dX11_quarter_19 fl_KL_10 ?_
    refine r_getI (pc := 22) ok cls10 sh_1 (k := 3) rfl (Nat.le_of_ble_eq_true rfl) (mx_l (Nat.le_of_ble_eq_true rfl) rfl) dX11_quarter_22 fl_KL_118 ?_
    refine r_isub (pc := 25) ok dX11_quarter_25 ?_
    exact r_iret (pc := 26) ok dX11_quarter_26 rfl
  · refine r_aload_n (pc := 27) ok dX11_quarter_27 rfl ?_
    refine r_getR (pc := 28) ok cls11 sh_0 (k := 2) rfl (Nat.le_of_ble_eq_true rfl) rfl dX11_quarter_28 fl_KL_23 ?_
    refine r_getR (pc := 31) ok cls9 sh_28 (k := 2) rfl (Nat.le_of_ble_eq_true rfl) rfl dX11_quarter_31 fl_KL_121 ?_
    refine k_V (pc := 34)  (fun r7 => mx ((va_up r6 47 r7)) YY) (fun r7 hr_ => c_V (n := 0) ok cls7 sh_47 rfl ml_KL_125 wv_X7_clear yk_X7_clear rfl (Nat.le_of_ble_eq_true rfl) (Nat.le_of_ble_eq_true rfl) (met_cast (by rw [up_eta]) rfl (tSy_clear hr_)) rfl (Nat.le_of_ble_eq_true rfl) dX11_quarter_34) (fun r7 => ?_)
    refine r_bndX (wf := (fun x_ => mx x_ YY)) (fun X8 => ?_)
    refine r_aload_n (pc := 37) ok dX11_quarter_37 rfl ?_
    refine r_getR (pc := 38) ok cls11 sh_0 (k := 1) rfl (Nat.le_of_ble_eq_true rfl) rfl dX11_quarter_38 fl_KL_19 ?_
    refine r_aload_n (pc := 41) ok dX11_quarter_41 rfl ?_
    refine r_getR (pc := 42) ok cls11 sh_0 (k := 2) rfl (Nat.le_of_ble_eq_true rfl) rfl dX11_quarter_42 fl_KL_23 ?_
    refine k_V (pc := 45)  (fun r9 => mx r9 YY) (fun r9 hr_ => c_V (n := 1) ok cls9 sh_4 rfl ml_KL_130 wv_X9_copyFrom yk_X9_copyFrom rfl (Nat.le_of_ble_eq_true rfl) (Nat.le_of_ble_eq_true rfl) (tSt_copyFrom (st_c (o := 4) (by decide)) (st_c (o := 28) (by decide)) (by decide) hr_) rfl (Nat.le_of_ble_eq_true rfl) dX11_quarter_45) (fun r9 => ?_)
    refine r_aload_n (pc := 48) ok dX11_quarter_48 rfl ?_
    refine r_getR (pc := 49) ok cls11 sh_0 (k := 5) rfl (Nat.le_of_ble_eq_true rfl) rfl dX11_quarter_49 fl_KL_41 ?_
    refine k_V (pc := 52)  (fun r10 => mx r10 YY) (fun r10 hr_ => c_V (n := 0) ok cls4 sh_100 rfl ml_KL_134 wv_X4_forget yk_X4_forget rfl (Nat.le_of_ble_eq_true rfl) (Nat.le_of_ble_eq_true rfl) (tPa_forget hr_) rfl (Nat.le_of_ble_eq_true rfl) dX11_quarter_52) (fun r10 => ?_)
    refine r_iload_n (pc := 55) ok dX11_quarter_55 rfl ?_
    exact r_iret (pc := 56) ok dX11_quarter_56 rfl
theorem tKL_quarter {l : Launch} {G : Gx} {b : Nat} {YY : Nat → Obj} {X : Nat → Obj} {r : Int32 × (Nat → Obj)} (hr : fKL_quarter X = some r) : MetG l G b yX11_quarter cX11_quarter 2 (some .int) 6 [.ref (b + 0)] (mx X YY) (qI G b r.1 (mx r.2 YY)) := by
  refine met_start [some (.ref (b + 0)), none] (by decide +kernel) (Nat.le_of_ble_eq_true rfl) rfl (fun Z hl ok => ?_)
  clear hl
  exact vKL_quarter ok r (by rw [hr]; rfl)
theorem vKL_fault {Z : Cx} {G : Gx} {b : Nat} {YY : Nat → Obj} {X : Nat → Obj} (ok : OK Z G b cX11_fault 1 0 RX11 (some .int)) : VO Z G b 1 (fun (r : Int32) => QX Z b (qI G b r (mx X YY))) (mx X YY) 0 [some (.ref (b + 0))] [] ((fKL_fault X).bind some) := by
  unfold fKL_fault
  refine r_aload_n (pc := 0) ok dX11_fault_0 rfl ?_
  refine r_getI (pc := 1) ok cls11 sh_0 (k := 12) rfl (Nat.le_of_ble_eq_true rfl) (mx_l (Nat.le_of_ble_eq_true rfl) rfl) dX11_fault_1 fl_KL_137 ?_
  exact r_iret (pc := 4) ok dX11_fault_4 rfl
theorem tKL_fault {l : Launch} {G : Gx} {b : Nat} {YY : Nat → Obj} {X : Nat → Obj} {r : Int32} (hr : fKL_fault X = some r) : MetG l G b yX11_fault cX11_fault 1 (some .int) 0 [.ref (b + 0)] (mx X YY) (qI G b r (mx X YY)) := by
  refine met_start [some (.ref (b + 0))] (by decide +kernel) (Nat.le_of_ble_eq_true rfl) rfl (fun Z hl ok => ?_)
  clear hl
  exact vKL_fault ok r (by rw [hr]; rfl)
theorem wSc_thoseAt_L5 {Z : Cx} {G : Gx} {b : Nat} {io : Nat} {XX YY : Nat → Obj} {q : Obj} {sc : Obj} {v1 : Int32} {v2 : Int32} (ok : OK Z G b cX8_thoseAt 5 0 RX8 (some .int)) (ho : isSc io) (hr_q : XX (qid io) = q) (hr_sc : XX io = sc) {K : ((Int32 × Int32) ⊕ (Int32)) → Option (Int32)} (hc : ∀ (a : Int32 × Int32), VO Z G b 5 (fun (r : Int32) => QX Z b (qI G b r (mx XX YY))) (mx XX YY) 5 [some (.ref (b + io)), some (.int v1), some (.int v2), some (.int a.1), some (.int a.2)] [] (K (.inl a))) (hx : ∀ (e : Int32), VO Z G b 5 (fun (r : Int32) => QX Z b (qI G b r (mx XX YY))) (mx XX YY) 59 [none, none, none, some (.int e), none] [] (K (.inr e))) : ∀ (a : Int32 × Int32), VO Z G b 5 (fun (r : Int32) => QX Z b (qI G b r (mx XX YY))) (mx XX YY) 5 [some (.ref (b + io)), some (.int v1), some (.int v2), some (.int a.1), some (.int a.2)] [] ((fSc_thoseAt_L5 q sc v1 v2 a).bind K) := by
  intro a
  unfold fSc_thoseAt_L5
  refine r_iload (pc := 5) ok dX8_thoseAt_5 rfl ?_
  refine r_bipush (pc := 7) ok (8 : Int32) dX8_thoseAt_7 cb_8 ?_
  refine r_icmp_ge (pc := 9) ok 59 dX8_thoseAt_9 rfl (fun _ => ?_) (fun _ => ?_)
  · refine r_lv (lk_n (lk_n (lk_n (lk_s (lk_n lk_0 _) _) _) _) _) ?_
    exact hx a.1
  · refine r_iload (pc := 12) ok dX8_thoseAt_12 rfl ?_
    refine r_aload_n (pc := 14) ok dX8_thoseAt_14 rfl ?_
    refine r_getR (pc := 15) ok cls8 (sc_sh ho) (k := 0) rfl (Nat.le_of_ble_eq_true rfl) rfl dX8_thoseAt_15 fl_Sc_42 ?_
    refine r_getI (pc := 18) ok cls5 (qu_sh (qid_qu ho)) (k := 4) rfl (Nat.le_of_ble_eq_true rfl) (mx_l (qu_lt (qid_qu ho)) (hr_q)) dX8_thoseAt_18 fl_Sc_92 ?_
    refine r_icmp_ge (pc := 21) ok 59 dX8_thoseAt_21 rfl (fun _ => ?_) (fun _ => ?_)
    · refine r_lv (lk_n (lk_n (lk_n (lk_s (lk_n lk_0 _) _) _) _) _) ?_
      exact hx a.1
    · refine r_aload_n (pc := 24) ok dX8_thoseAt_24 rfl ?_
      refine r_getR (pc := 25) ok cls8 (sc_sh ho) (k := 6) rfl (Nat.le_of_ble_eq_true rfl) rfl dX8_thoseAt_25 fl_Sc_18 ?_
      refine r_iload (pc := 28) ok dX8_thoseAt_28 rfl ?_
      refine r_iald (pc := 30) ok (sc_s3 ho) (Nat.add_sub_cancel_left _ _) (mx_l (sc_lt ho) (hr_sc)) dX8_thoseAt_30 (fun i1 => ?_)
      refine r_iload_n (pc := 31) ok dX8_thoseAt_31 rfl ?_
      refine r_icmp_ne (pc := 32) ok 53 dX8_thoseAt_32 rfl (fun _ => ?_) (fun _ => ?_)
      · refine r_aload_n (pc := 35) ok dX8_thoseAt_35 rfl ?_
        refine r_getR (pc := 36) ok cls8 (sc_sh ho) (k := 9) rfl (Nat.le_of_ble_eq_true rfl) rfl dX8_thoseAt_36 fl_Sc_27 ?_
        refine r_iload (pc := 39) ok dX8_thoseAt_39 rfl ?_
        refine r_iald (pc := 41) ok (sc_s6 ho) (Nat.add_sub_cancel_left _ _) (mx_l (sc_lt ho) (hr_sc)) dX8_thoseAt_41 (fun i2 => ?_)
        refine r_iload_n (pc := 42) ok dX8_thoseAt_42 rfl ?_
        refine r_icmp_ne (pc := 43) ok 53 dX8_thoseAt_43 rfl (fun _ => ?_) (fun _ => ?_)
        · refine r_iload_n (pc := 46) ok dX8_thoseAt_46 rfl ?_
          refine r_iconst (pc := 47) ok (1 : Int32) dX8_thoseAt_47 ci_1 ?_
          refine r_iload (pc := 48) ok dX8_thoseAt_48 rfl ?_
          refine r_ishl (pc := 50) ok dX8_thoseAt_50 ?_
          refine r_ior (pc := 51) ok dX8_thoseAt_51 ?_
          refine r_bndI (fun x3 => ?_)
          refine r_istore_n (pc := 52) ok dX8_thoseAt_52 (Nat.le_of_ble_eq_true rfl) rfl ?_
          refine r_iinc (pc := 53) ok (1 : Int32) dX8_thoseAt_53 ci_1 rfl (Nat.le_of_ble_eq_true rfl) rfl ?_
          refine r_goto (pc := 56) ok 5 dX8_thoseAt_56 rfl ?_
          exact hc (x3, (a.2 + (1 : Int32)))
        · refine r_iinc (pc := 53) ok (1 : Int32) dX8_thoseAt_53 ci_1 rfl (Nat.le_of_ble_eq_true rfl) rfl ?_
          refine r_goto (pc := 56) ok 5 dX8_thoseAt_56 rfl ?_
          exact hc (a.1, (a.2 + (1 : Int32)))
      · refine r_iinc (pc := 53) ok (1 : Int32) dX8_thoseAt_53 ci_1 rfl (Nat.le_of_ble_eq_true rfl) rfl ?_
        refine r_goto (pc := 56) ok 5 dX8_thoseAt_56 rfl ?_
        exact hc (a.1, (a.2 + (1 : Int32)))
theorem vSc_thoseAt {Z : Cx} {G : Gx} {b : Nat} {io : Nat} {XX YY : Nat → Obj} {q : Obj} {sc : Obj} {v1 : Int32} {v2 : Int32} (ok : OK Z G b cX8_thoseAt 5 0 RX8 (some .int)) (ho : isSc io) (hr_q : XX (qid io) = q) (hr_sc : XX io = sc) : VO Z G b 5 (fun (r : Int32) => QX Z b (qI G b r (mx XX YY))) (mx XX YY) 0 [some (.ref (b + io)), some (.int v1), some (.int v2), none, none] [] ((fSc_thoseAt q sc v1 v2).bind some) := by
  unfold fSc_thoseAt
  refine r_iconst (pc := 0) ok (0 : Int32) dX8_thoseAt_0 ci_0 ?_
  refine r_istore_n (pc := 1) ok dX8_thoseAt_1 (Nat.le_of_ble_eq_true rfl) rfl ?_
  refine r_iconst (pc := 2) ok (0 : Int32) dX8_thoseAt_2 ci_0 ?_
  refine r_istore (pc := 3) ok dX8_thoseAt_3 (Nat.le_of_ble_eq_true rfl) rfl ?_
  refine r_iter (P := fun (a5 : Int32 × Int32) o => VO Z G b 5 (fun (r : Int32) => QX Z b (qI G b r (mx XX YY))) (mx XX YY) 5 [some (.ref (b + io)), some (.int v1), some (.int v2), some (.int a5.1), some (.int a5.2)] [] o) (E := fun (e_5 : Int32) o => VO Z G b 5 (fun (r : Int32) => QX Z b (qI G b r (mx XX YY))) (mx XX YY) 59 [none, none, none, some (.int e_5), none] [] o) (fun _ => r_none) (fun K hc hx => wSc_thoseAt_L5 ok ho hr_q hr_sc (K := K) hc hx) (fun e4 => ?_) FU ((0 : Int32), (0 : Int32))
  refine r_iload_n (pc := 59) ok dX8_thoseAt_59 rfl ?_
  exact r_iret (pc := 60) ok dX8_thoseAt_60 rfl
theorem tSc_thoseAt {l : Launch} {G : Gx} {b : Nat} {io : Nat} {XX YY : Nat → Obj} {q : Obj} {sc : Obj} {v1 : Int32} {v2 : Int32} (ho : isSc io) (hr_q : XX (qid io) = q) (hr_sc : XX io = sc) {r : Int32} (hr : fSc_thoseAt q sc v1 v2 = some r) : MetG l G b yX8_thoseAt cX8_thoseAt 5 (some .int) 0 [.ref (b + io), .int v1, .int v2] (mx XX YY) (qI G b r (mx XX YY)) := by
  refine met_start [some (.ref (b + io)), some (.int v1), some (.int v2), none, none] (by decide +kernel) (Nat.le_of_ble_eq_true rfl) rfl (fun Z hl ok => ?_)
  clear hl
  exact vSc_thoseAt ok ho hr_q hr_sc r (by rw [hr]; rfl)
theorem wSc_strangersOf_L14 {Z : Cx} {G : Gx} {b : Nat} {io : Nat} {XX YY : Nat → Obj} {q : Obj} {sc : Obj} {v2 : Int32} (ok : OK Z G b cX8_strangersOf 5 1 RX8 (some .int)) (ho : isSc io) (hr_q : XX (qid io) = q) (hr_sc : XX io = sc) {K : ((Int32 × Int32) ⊕ (Int32)) → Option (Int32)} (hc : ∀ (a : Int32 × Int32), VO Z G b 5 (fun (r : Int32) => QX Z b (qI G b r (mx XX YY))) (mx XX YY) 14 [some (.ref (b + io)), none, some (.int v2), some (.int a.1), some (.int a.2)] [] (K (.inl a))) (hx : ∀ (e : Int32), VO Z G b 5 (fun (r : Int32) => QX Z b (qI G b r (mx XX YY))) (mx XX YY) 63 [none, none, none, some (.int e), none] [] (K (.inr e))) : ∀ (a : Int32 × Int32), VO Z G b 5 (fun (r : Int32) => QX Z b (qI G b r (mx XX YY))) (mx XX YY) 14 [some (.ref (b + io)), none, some (.int v2), some (.int a.1), some (.int a.2)] [] ((fSc_strangersOf_L14 q sc v2 a).bind K) := by
  intro a
  unfold fSc_strangersOf_L14
  refine r_iload (pc := 14) ok dX8_strangersOf_14 rfl ?_
  refine r_bipush (pc := 16) ok (8 : Int32) dX8_strangersOf_16 cb_8 ?_
  refine r_icmp_ge (pc := 18) ok 63 dX8_strangersOf_18 rfl (fun _ => ?_) (fun _ => ?_)
  · refine r_lv (lk_n (lk_n (lk_n (lk_s (lk_n lk_0 _) _) _) _) _) ?_
    exact hx a.1
  · refine r_iload (pc := 21) ok dX8_strangersOf_21 rfl ?_
    refine r_aload_n (pc := 23) ok dX8_strangersOf_23 rfl ?_
    refine r_getR (pc := 24) ok cls8 (sc_sh ho) (k := 0) rfl (Nat.le_of_ble_eq_true rfl) rfl dX8_strangersOf_24 fl_Sc_42 ?_
    refine r_getI (pc := 27) ok cls5 (qu_sh (qid_qu ho)) (k := 4) rfl (Nat.le_of_ble_eq_true rfl) (mx_l (qu_lt (qid_qu ho)) (hr_q)) dX8_strangersOf_27 fl_Sc_92 ?_
    refine r_icmp_ge (pc := 30) ok 63 dX8_strangersOf_30 rfl (fun _ => ?_) (fun _ => ?_)
    · refine r_lv (lk_n (lk_n (lk_n (lk_s (lk_n lk_0 _) _) _) _) _) ?_
      exact hx a.1
    · refine r_aload_n (pc := 33) ok dX8_strangersOf_33 rfl ?_
      refine r_getR (pc := 34) ok cls8 (sc_sh ho) (k := 11) rfl (Nat.le_of_ble_eq_true rfl) rfl dX8_strangersOf_34 fl_Sc_33 ?_
      refine r_iload (pc := 37) ok dX8_strangersOf_37 rfl ?_
      refine r_iald (pc := 39) ok (sc_s8 ho) (Nat.add_sub_cancel_left _ _) (mx_l (sc_lt ho) (hr_sc)) dX8_strangersOf_39 (fun i2 => ?_)
      refine r_iconst (pc := 40) ok (1 : Int32) dX8_strangersOf_40 ci_1 ?_
      refine r_iload (pc := 41) ok dX8_strangersOf_41 rfl ?_
      refine r_ishl (pc := 43) ok dX8_strangersOf_43 ?_
      refine r_ior (pc := 44) ok dX8_strangersOf_44 ?_
      refine r_iload_n (pc := 45) ok dX8_strangersOf_45 rfl ?_
      refine r_iand (pc := 46) ok dX8_strangersOf_46 ?_
      refine r_if_ne (pc := 47) ok 57 dX8_strangersOf_47 rfl (fun _ => ?_) (fun _ => ?_)
      · refine r_iload_n (pc := 50) ok dX8_strangersOf_50 rfl ?_
        refine r_iconst (pc := 51) ok (1 : Int32) dX8_strangersOf_51 ci_1 ?_
        refine r_iload (pc := 52) ok dX8_strangersOf_52 rfl ?_
        refine r_ishl (pc := 54) ok dX8_strangersOf_54 ?_
        refine r_ior (pc := 55) ok dX8_strangersOf_55 ?_
        refine r_bndI (fun x3 => ?_)
        refine r_istore_n (pc := 56) ok dX8_strangersOf_56 (Nat.le_of_ble_eq_true rfl) rfl ?_
        refine r_iinc (pc := 57) ok (1 : Int32) dX8_strangersOf_57 ci_1 rfl (Nat.le_of_ble_eq_true rfl) rfl ?_
        refine r_goto (pc := 60) ok 14 dX8_strangersOf_60 rfl ?_
        exact hc (x3, (a.2 + (1 : Int32)))
      · refine r_iinc (pc := 57) ok (1 : Int32) dX8_strangersOf_57 ci_1 rfl (Nat.le_of_ble_eq_true rfl) rfl ?_
        refine r_goto (pc := 60) ok 14 dX8_strangersOf_60 rfl ?_
        exact hc (a.1, (a.2 + (1 : Int32)))
theorem vSc_strangersOf {Z : Cx} {G : Gx} {b : Nat} {io : Nat} {XX YY : Nat → Obj} {q : Obj} {sc : Obj} {v1 : Int32} (ok : OK Z G b cX8_strangersOf 5 1 RX8 (some .int)) (ho : isSc io) (hr_q : XX (qid io) = q) (hr_sc : XX io = sc) : VO Z G b 5 (fun (r : Int32) => QX Z b (qI G b r (mx XX YY))) (mx XX YY) 0 [some (.ref (b + io)), some (.int v1), none, none, none] [] ((fSc_strangersOf q sc v1).bind some) := by
  unfold fSc_strangersOf
  refine r_aload_n (pc := 0) ok dX8_strangersOf_0 rfl ?_
  refine r_getR (pc := 1) ok cls8 (sc_sh ho) (k := 0) rfl (Nat.le_of_ble_eq_true rfl) rfl dX8_strangersOf_1 fl_Sc_42 ?_
  refine r_iload_n (pc := 4) ok dX8_strangersOf_4 rfl ?_
  refine k_I (pc := 5) (fun r1 => r1) (fun r1 => mx XX YY) (fun r1 hr_ => c_V (n := 1) ok cls5 (qu_sh (qid_qu ho)) rfl ml_Sc_72 wv_X5_livingIn yk_X5_livingIn rfl (Nat.le_of_ble_eq_true rfl) (Nat.le_of_ble_eq_true rfl) (tQu_livingIn (qid_qu ho) (hr_q) hr_) rfl (Nat.le_of_ble_eq_true rfl) dX8_strangersOf_5) (fun r1 => ?_)
  refine r_istore_n (pc := 8) ok dX8_strangersOf_8 (Nat.le_of_ble_eq_true rfl) rfl ?_
  refine r_iconst (pc := 9) ok (0 : Int32) dX8_strangersOf_9 ci_0 ?_
  refine r_istore_n (pc := 10) ok dX8_strangersOf_10 (Nat.le_of_ble_eq_true rfl) rfl ?_
  refine r_iconst (pc := 11) ok (0 : Int32) dX8_strangersOf_11 ci_0 ?_
  refine r_istore (pc := 12) ok dX8_strangersOf_12 (Nat.le_of_ble_eq_true rfl) rfl ?_
  refine r_lv (lk_s (lk_n (lk_s (lk_s (lk_s lk_0 _) _) _) _) _) ?_
  refine r_iter (P := fun (a14 : Int32 × Int32) o => VO Z G b 5 (fun (r : Int32) => QX Z b (qI G b r (mx XX YY))) (mx XX YY) 14 [some (.ref (b + io)), none, some (.int r1), some (.int a14.1), some (.int a14.2)] [] o) (E := fun (e_14 : Int32) o => VO Z G b 5 (fun (r : Int32) => QX Z b (qI G b r (mx XX YY))) (mx XX YY) 63 [none, none, none, some (.int e_14), none] [] o) (fun _ => r_none) (fun K hc hx => wSc_strangersOf_L14 ok ho hr_q hr_sc (K := K) hc hx) (fun e4 => ?_) FU ((0 : Int32), (0 : Int32))
  refine r_iload_n (pc := 63) ok dX8_strangersOf_63 rfl ?_
  exact r_iret (pc := 64) ok dX8_strangersOf_64 rfl
theorem tSc_strangersOf {l : Launch} {G : Gx} {b : Nat} {io : Nat} {XX YY : Nat → Obj} {q : Obj} {sc : Obj} {v1 : Int32} (ho : isSc io) (hr_q : XX (qid io) = q) (hr_sc : XX io = sc) {r : Int32} (hr : fSc_strangersOf q sc v1 = some r) : MetG l G b yX8_strangersOf cX8_strangersOf 5 (some .int) 1 [.ref (b + io), .int v1] (mx XX YY) (qI G b r (mx XX YY)) := by
  refine met_start [some (.ref (b + io)), some (.int v1), none, none, none] (by decide +kernel) (Nat.le_of_ble_eq_true rfl) rfl (fun Z hl ok => ?_)
  clear hl
  exact vSc_strangersOf ok ho hr_q hr_sc r (by rw [hr]; rfl)
theorem vQu_placeOf {Z : Cx} {G : Gx} {b : Nat} {iq : Nat} {XX YY : Nat → Obj} {q : Obj} {v1 : Int32} (ok : OK Z G b cX5_placeOf 2 1 RX5 (some .int)) (hq : isQu iq) (hr_q : XX iq = q) : VO Z G b 2 (fun (r : Int32) => QX Z b (qI G b r (mx XX YY))) (mx XX YY) 0 [some (.ref (b + iq)), some (.int v1)] [] ((fQu_placeOf q v1).bind some) := by
  unfold fQu_placeOf
  refine r_aload_n (pc := 0) ok dX5_placeOf_0 rfl ?_
  refine r_iload_n (pc := 1) ok dX5_placeOf_1 rfl ?_
  refine k_I (pc := 2) (fun r1 => r1) (fun r1 => mx XX YY) (fun r1 hr_ => c_V (n := 1) ok cls5 (qu_sh hq) rfl ml_Qu_53 wv_X5_hasHouse yk_X5_hasHouse rfl (Nat.le_of_ble_eq_true rfl) (Nat.le_of_ble_eq_true rfl) (tQu_hasHouse hq (hr_q) hr_) rfl (Nat.le_of_ble_eq_true rfl) dX5_placeOf_2) (fun r1 => ?_)
  refine r_if_eq (pc := 5) ok 17 dX5_placeOf_5 rfl (fun _ => ?_) (fun _ => ?_)
  · refine r_iconst (pc := 17) ok (-1 : Int32) dX5_placeOf_17 ci_m1 ?_
    exact r_iret (pc := 18) ok dX5_placeOf_18 rfl
  · refine r_aload_n (pc := 8) ok dX5_placeOf_8 rfl ?_
    refine r_getR (pc := 9) ok cls5 (qu_sh hq) (k := 5) rfl (Nat.le_of_ble_eq_true rfl) rfl dX5_placeOf_9 fl_Qu_21 ?_
    refine r_iload_n (pc := 12) ok dX5_placeOf_12 rfl ?_
    refine r_iald (pc := 13) ok (qu_s1 hq) (Nat.add_sub_cancel_left _ _) (mx_l (qu_lt hq) (hr_q)) dX5_placeOf_13 (fun i2 => ?_)
    refine r_goto (pc := 14) ok 18 dX5_placeOf_14 rfl ?_
    exact r_iret (pc := 18) ok dX5_placeOf_18 rfl
theorem tQu_placeOf {l : Launch} {G : Gx} {b : Nat} {iq : Nat} {XX YY : Nat → Obj} {q : Obj} {v1 : Int32} (hq : isQu iq) (hr_q : XX iq = q) {r : Int32} (hr : fQu_placeOf q v1 = some r) : MetG l G b yX5_placeOf cX5_placeOf 2 (some .int) 1 [.ref (b + iq), .int v1] (mx XX YY) (qI G b r (mx XX YY)) := by
  refine met_start [some (.ref (b + iq)), some (.int v1)] (by decide +kernel) (Nat.le_of_ble_eq_true rfl) rfl (fun Z hl ok => ?_)
  clear hl
  exact vQu_placeOf ok hq hr_q r (by rw [hr]; rfl)
theorem vKL_house {Z : Cx} {G : Gx} {b : Nat} {YY : Nat → Obj} {X : Nat → Obj} {v1 : Int32} {v2 : Int32} (ok : OK Z G b cX11_house 4 2 RX11 (some .int)) : VO Z G b 4 (fun (r : Int32) => QX Z b (qI G b r (mx X YY))) (mx X YY) 0 [some (.ref (b + 0)), some (.int v1), some (.int v2), none] [] ((fKL_house X v1 v2).bind some) := by
  unfold fKL_house
  refine r_aload_n (pc := 0) ok dX11_house_0 rfl ?_
  refine r_getR (pc := 1) ok cls11 sh_0 (k := 1) rfl (Nat.le_of_ble_eq_true rfl) rfl dX11_house_1 fl_KL_19 ?_
  refine r_getR (pc := 4) ok cls9 sh_4 (k := 1) rfl (Nat.le_of_ble_eq_true rfl) rfl dX11_house_4 fl_KL_140 ?_
  refine r_astore_n (pc := 7) ok dX11_house_7 (Nat.le_of_ble_eq_true rfl) rfl ?_
  refine r_aload_n (pc := 8) ok dX11_house_8 rfl ?_
  refine r_getR (pc := 9) ok cls11 sh_0 (k := 1) rfl (Nat.le_of_ble_eq_true rfl) rfl dX11_house_9 fl_KL_19 ?_
  refine r_getR (pc := 12) ok cls9 sh_4 (k := 0) rfl (Nat.le_of_ble_eq_true rfl) rfl dX11_house_12 fl_KL_34 ?_
  refine r_iload_n (pc := 15) ok dX11_house_15 rfl ?_
  refine k_I (pc := 16) (fun r1 => r1) (fun r1 => mx X YY) (fun r1 hr_ => c_V (n := 1) ok cls5 sh_5 rfl ml_KL_143 wv_X5_hasHouse yk_X5_hasHouse rfl (Nat.le_of_ble_eq_true rfl) (Nat.le_of_ble_eq_true rfl) (tQu_hasHouse (qu_c (o := 5) (by decide)) (rfl) hr_) rfl (Nat.le_of_ble_eq_true rfl) dX11_house_16) (fun r1 => ?_)
  refine r_if_ne (pc := 19) ok 24 dX11_house_19 rfl (fun _ => ?_) (fun _ => ?_)
  · refine r_iconst (pc := 22) ok (-1 : Int32) dX11_house_22 ci_m1 ?_
    exact r_iret (pc := 23) ok dX11_house_23 rfl
  · refine r_iload_n (pc := 24) ok dX11_house_24 rfl ?_
    refine r_ite (fun hs0 => ?_) (fun hs0 => ?_)
    · refine r_tsw (pc := 25) ok 60 (0 : Int32) dX11_house_25 hs0 (by decide +kernel) (by decide +kernel) rfl rfl ?_
      refine r_aload_n (pc := 60) ok dX11_house_60 rfl ?_
      refine r_getR (pc := 61) ok cls11 sh_0 (k := 1) rfl (Nat.le_of_ble_eq_true rfl) rfl dX11_house_61 fl_KL_19 ?_
      refine r_getR (pc := 64) ok cls9 sh_4 (k := 0) rfl (Nat.le_of_ble_eq_true rfl) rfl dX11_house_64 fl_KL_34 ?_
      refine r_iload_n (pc := 67) ok dX11_house_67 rfl ?_
      refine k_I (pc := 68) (fun r2 => r2) (fun r2 => mx X YY) (fun r2 hr_ => c_V (n := 1) ok cls5 sh_5 rfl ml_KL_149 wv_X5_placeOf yk_X5_placeOf rfl (Nat.le_of_ble_eq_true rfl) (Nat.le_of_ble_eq_true rfl) (tQu_placeOf (qu_c (o := 5) (by decide)) (rfl) hr_) rfl (Nat.le_of_ble_eq_true rfl) dX11_house_68) (fun r2 => ?_)
      exact r_iret (pc := 71) ok dX11_house_71 rfl
    refine r_ite (fun hs1 => ?_) (fun hs1 => ?_)
    · refine r_tsw (pc := 25) ok 72 (1 : Int32) dX11_house_25 hs1 (by decide +kernel) (by decide +kernel) rfl rfl ?_
      refine r_aload_n (pc := 72) ok dX11_house_72 rfl ?_
      refine r_getR (pc := 73) ok cls11 sh_0 (k := 1) rfl (Nat.le_of_ble_eq_true rfl) rfl dX11_house_73 fl_KL_19 ?_
      refine r_getR (pc := 76) ok cls9 sh_4 (k := 0) rfl (Nat.le_of_ble_eq_true rfl) rfl dX11_house_76 fl_KL_34 ?_
      refine r_iload_n (pc := 79) ok dX11_house_79 rfl ?_
      refine k_I (pc := 80) (fun r3 => r3) (fun r3 => mx X YY) (fun r3 hr_ => c_V (n := 1) ok cls5 sh_5 rfl ml_KL_153 wv_X5_livingIn yk_X5_livingIn rfl (Nat.le_of_ble_eq_true rfl) (Nat.le_of_ble_eq_true rfl) (tQu_livingIn (qu_c (o := 5) (by decide)) (rfl) hr_) rfl (Nat.le_of_ble_eq_true rfl) dX11_house_80) (fun r3 => ?_)
      exact r_iret (pc := 83) ok dX11_house_83 rfl
    refine r_ite (fun hs2 => ?_) (fun hs2 => ?_)
    · refine r_tsw (pc := 25) ok 84 (2 : Int32) dX11_house_25 hs2 (by decide +kernel) (by decide +kernel) rfl rfl ?_
      refine r_aload_n (pc := 84) ok dX11_house_84 rfl ?_
      refine r_iload_n (pc := 85) ok dX11_house_85 rfl ?_
      refine k_I (pc := 86) (fun r4 => r4) (fun r4 => mx X YY) (fun r4 hr_ => c_V (n := 1) ok cls8 sh_12 rfl ml_KL_156 wv_X8_strangersOf yk_X8_strangersOf rfl (Nat.le_of_ble_eq_true rfl) (Nat.le_of_ble_eq_true rfl) (tSc_strangersOf (sc_c (o := 12) (by decide)) (rfl) (rfl) hr_) rfl (Nat.le_of_ble_eq_true rfl) dX11_house_86) (fun r4 => ?_)
      exact r_iret (pc := 89) ok dX11_house_89 rfl
    refine r_ite (fun hs3 => ?_) (fun hs3 => ?_)
    · refine r_tsw (pc := 25) ok 90 (3 : Int32) dX11_house_25 hs3 (by decide +kernel) (by decide +kernel) rfl rfl ?_
      refine r_aload_n (pc := 90) ok dX11_house_90 rfl ?_
      refine r_iload_n (pc := 91) ok dX11_house_91 rfl ?_
      refine r_iconst (pc := 92) ok (1 : Int32) dX11_house_92 ci_1 ?_
      refine k_I (pc := 93) (fun r5 => r5) (fun r5 => mx X YY) (fun r5 hr_ => c_V (n := 2) ok cls8 sh_12 rfl ml_KL_159 wv_X8_thoseAt yk_X8_thoseAt rfl (Nat.le_of_ble_eq_true rfl) (Nat.le_of_ble_eq_true rfl) (tSc_thoseAt (sc_c (o := 12) (by decide)) (rfl) (rfl) hr_) rfl (Nat.le_of_ble_eq_true rfl) dX11_house_93) (fun r5 => ?_)
      exact r_iret (pc := 96) ok dX11_house_96 rfl
    refine r_ite (fun hs4 => ?_) (fun hs4 => ?_)
    · refine r_tsw (pc := 25) ok 97 (4 : Int32) dX11_house_25 hs4 (by decide +kernel) (by decide +kernel) rfl rfl ?_
      refine r_aload_n (pc := 97) ok dX11_house_97 rfl ?_
      refine r_iload_n (pc := 98) ok dX11_house_98 rfl ?_
      refine r_iconst (pc := 99) ok (2 : Int32) dX11_house_99 ci_2 ?_
      refine k_I (pc := 100) (fun r6 => r6) (fun r6 => mx X YY) (fun r6 hr_ => c_V (n := 2) ok cls8 sh_12 rfl ml_KL_159 wv_X8_thoseAt yk_X8_thoseAt rfl (Nat.le_of_ble_eq_true rfl) (Nat.le_of_ble_eq_true rfl) (tSc_thoseAt (sc_c (o := 12) (by decide)) (rfl) (rfl) hr_) rfl (Nat.le_of_ble_eq_true rfl) dX11_house_100) (fun r6 => ?_)
      exact r_iret (pc := 103) ok dX11_house_103 rfl
    refine r_tswd (pc := 25) ok 104 dX11_house_25 (tsw_out5 hs0 hs1 hs2 hs3 hs4) rfl ?_
    refine r_iconst (pc := 104) ok (-1 : Int32) dX11_house_104 ci_m1 ?_
    exact r_iret (pc := 105) ok dX11_house_105 rfl
theorem tKL_house {l : Launch} {G : Gx} {b : Nat} {YY : Nat → Obj} {X : Nat → Obj} {v1 : Int32} {v2 : Int32} {r : Int32} (hr : fKL_house X v1 v2 = some r) : MetG l G b yX11_house cX11_house 4 (some .int) 2 [.ref (b + 0), .int v1, .int v2] (mx X YY) (qI G b r (mx X YY)) := by
  refine met_start [some (.ref (b + 0)), some (.int v1), some (.int v2), none] (by decide +kernel) (Nat.le_of_ble_eq_true rfl) rfl (fun Z hl ok => ?_)
  clear hl
  exact vKL_house ok r (by rw [hr]; rfl)
theorem vQu_isStern {Z : Cx} {G : Gx} {b : Nat} {iq : Nat} {XX YY : Nat → Obj} {q : Obj} {v1 : Int32} (ok : OK Z G b cX5_isStern 2 1 RX5 (some .boolean)) (hq : isQu iq) (hr_q : XX iq = q) : VO Z G b 2 (fun (r : Int32) => QX Z b (qI G b r (mx XX YY))) (mx XX YY) 0 [some (.ref (b + iq)), some (.int v1)] [] ((fQu_isStern q v1).bind some) := by
  unfold fQu_isStern
  refine r_aload_n (pc := 0) ok dX5_isStern_0 rfl ?_
  refine r_iload_n (pc := 1) ok dX5_isStern_1 rfl ?_
  refine k_I (pc := 2) (fun r1 => r1) (fun r1 => mx XX YY) (fun r1 hr_ => c_V (n := 1) ok cls5 (qu_sh hq) rfl ml_Qu_57 wv_X5_hasPerson yk_X5_hasPerson rfl (Nat.le_of_ble_eq_true rfl) (Nat.le_of_ble_eq_true rfl) (tQu_hasPerson hq (hr_q) hr_) rfl (Nat.le_of_ble_eq_true rfl) dX5_isStern_2) (fun r1 => ?_)
  refine r_if_eq (pc := 5) ok 22 dX5_isStern_5 rfl (fun _ => ?_) (fun _ => ?_)
  · refine r_iconst (pc := 22) ok (0 : Int32) dX5_isStern_22 ci_0 ?_
    exact r_zret (pc := 23) ok dX5_isStern_23 za_0 rfl
  · refine r_aload_n (pc := 8) ok dX5_isStern_8 rfl ?_
    refine r_getR (pc := 9) ok cls5 (qu_sh hq) (k := 9) rfl (Nat.le_of_ble_eq_true rfl) rfl dX5_isStern_9 fl_Qu_35 ?_
    refine r_iload_n (pc := 12) ok dX5_isStern_12 rfl ?_
    refine r_iald (pc := 13) ok (qu_s5 hq) (Nat.add_sub_cancel_left _ _) (mx_l (qu_lt hq) (hr_q)) dX5_isStern_13 (fun i2 => ?_)
    refine r_iconst (pc := 14) ok (1 : Int32) dX5_isStern_14 ci_1 ?_
    refine r_icmp_ne (pc := 15) ok 22 dX5_isStern_15 rfl (fun _ => ?_) (fun _ => ?_)
    · refine r_iconst (pc := 18) ok (1 : Int32) dX5_isStern_18 ci_1 ?_
      refine r_goto (pc := 19) ok 23 dX5_isStern_19 rfl ?_
      exact r_zret (pc := 23) ok dX5_isStern_23 za_1 rfl
    · refine r_iconst (pc := 22) ok (0 : Int32) dX5_isStern_22 ci_0 ?_
      exact r_zret (pc := 23) ok dX5_isStern_23 za_0 rfl
theorem tQu_isStern {l : Launch} {G : Gx} {b : Nat} {iq : Nat} {XX YY : Nat → Obj} {q : Obj} {v1 : Int32} (hq : isQu iq) (hr_q : XX iq = q) {r : Int32} (hr : fQu_isStern q v1 = some r) : MetG l G b yX5_isStern cX5_isStern 2 (some .boolean) 1 [.ref (b + iq), .int v1] (mx XX YY) (qI G b r (mx XX YY)) := by
  refine met_start [some (.ref (b + iq)), some (.int v1)] (by decide +kernel) (Nat.le_of_ble_eq_true rfl) rfl (fun Z hl ok => ?_)
  clear hl
  exact vQu_isStern ok hq hr_q r (by rw [hr]; rfl)
theorem vSc_detail {Z : Cx} {G : Gx} {b : Nat} {io : Nat} {XX YY : Nat → Obj} {q : Obj} {sc : Obj} {v1 : Int32} {v2 : Int32} (ok : OK Z G b cX8_detail 3 2 RX8 (some .int)) (ho : isSc io) (hr_q : XX (qid io) = q) (hr_sc : XX io = sc) : VO Z G b 3 (fun (r : Int32) => QX Z b (qI G b r (mx XX YY))) (mx XX YY) 0 [some (.ref (b + io)), some (.int v1), some (.int v2)] [] ((fSc_detail q sc v1 v2).bind some) := by
  unfold fSc_detail
  refine r_aload_n (pc := 0) ok dX8_detail_0 rfl ?_
  refine r_getR (pc := 1) ok cls8 (sc_sh ho) (k := 0) rfl (Nat.le_of_ble_eq_true rfl) rfl dX8_detail_1 fl_Sc_42 ?_
  refine r_iload_n (pc := 4) ok dX8_detail_4 rfl ?_
  refine k_I (pc := 5) (fun r1 => r1) (fun r1 => mx XX YY) (fun r1 hr_ => c_V (n := 1) ok cls5 (qu_sh (qid_qu ho)) rfl ml_Sc_62 wv_X5_hasPerson yk_X5_hasPerson rfl (Nat.le_of_ble_eq_true rfl) (Nat.le_of_ble_eq_true rfl) (tQu_hasPerson (qid_qu ho) (hr_q) hr_) rfl (Nat.le_of_ble_eq_true rfl) dX8_detail_5) (fun r1 => ?_)
  refine r_if_ne (pc := 8) ok 13 dX8_detail_8 rfl (fun _ => ?_) (fun _ => ?_)
  · refine r_iconst (pc := 11) ok (-1 : Int32) dX8_detail_11 ci_m1 ?_
    exact r_iret (pc := 12) ok dX8_detail_12 rfl
  · refine r_iload_n (pc := 13) ok dX8_detail_13 rfl ?_
    refine r_ite (fun hs0 => ?_) (fun hs0 => ?_)
    · refine r_tsw (pc := 14) ok 72 (0 : Int32) dX8_detail_14 hs0 (by decide +kernel) (by decide +kernel) rfl rfl ?_
      refine r_aload_n (pc := 72) ok dX8_detail_72 rfl ?_
      refine r_getR (pc := 73) ok cls8 (sc_sh ho) (k := 6) rfl (Nat.le_of_ble_eq_true rfl) rfl dX8_detail_73 fl_Sc_18 ?_
      refine r_iload_n (pc := 76) ok dX8_detail_76 rfl ?_
      refine r_iald (pc := 77) ok (sc_s3 ho) (Nat.add_sub_cancel_left _ _) (mx_l (sc_lt ho) (hr_sc)) dX8_detail_77 (fun i2 => ?_)
      exact r_iret (pc := 78) ok dX8_detail_78 rfl
    refine r_ite (fun hs1 => ?_) (fun hs1 => ?_)
    · refine r_tsw (pc := 14) ok 79 (1 : Int32) dX8_detail_14 hs1 (by decide +kernel) (by decide +kernel) rfl rfl ?_
      refine r_aload_n (pc := 79) ok dX8_detail_79 rfl ?_
      refine r_getR (pc := 80) ok cls8 (sc_sh ho) (k := 7) rfl (Nat.le_of_ble_eq_true rfl) rfl dX8_detail_80 fl_Sc_21 ?_
      refine r_iload_n (pc := 83) ok dX8_detail_83 rfl ?_
      refine r_iald (pc := 84) ok (sc_s4 ho) (Nat.add_sub_cancel_left _ _) (mx_l (sc_lt ho) (hr_sc)) dX8_detail_84 (fun i3 => ?_)
      exact r_iret (pc := 85) ok dX8_detail_85 rfl
    refine r_ite (fun hs2 => ?_) (fun hs2 => ?_)
    · refine r_tsw (pc := 14) ok 86 (2 : Int32) dX8_detail_14 hs2 (by decide +kernel) (by decide +kernel) rfl rfl ?_
      refine r_aload_n (pc := 86) ok dX8_detail_86 rfl ?_
      refine r_getR (pc := 87) ok cls8 (sc_sh ho) (k := 8) rfl (Nat.le_of_ble_eq_true rfl) rfl dX8_detail_87 fl_Sc_24 ?_
      refine r_iload_n (pc := 90) ok dX8_detail_90 rfl ?_
      refine r_iald (pc := 91) ok (sc_s5 ho) (Nat.add_sub_cancel_left _ _) (mx_l (sc_lt ho) (hr_sc)) dX8_detail_91 (fun i4 => ?_)
      exact r_iret (pc := 92) ok dX8_detail_92 rfl
    refine r_ite (fun hs3 => ?_) (fun hs3 => ?_)
    · refine r_tsw (pc := 14) ok 93 (3 : Int32) dX8_detail_14 hs3 (by decide +kernel) (by decide +kernel) rfl rfl ?_
      refine r_aload_n (pc := 93) ok dX8_detail_93 rfl ?_
      refine r_getR (pc := 94) ok cls8 (sc_sh ho) (k := 9) rfl (Nat.le_of_ble_eq_true rfl) rfl dX8_detail_94 fl_Sc_27 ?_
      refine r_iload_n (pc := 97) ok dX8_detail_97 rfl ?_
      refine r_iald (pc := 98) ok (sc_s6 ho) (Nat.add_sub_cancel_left _ _) (mx_l (sc_lt ho) (hr_sc)) dX8_detail_98 (fun i5 => ?_)
      exact r_iret (pc := 99) ok dX8_detail_99 rfl
    refine r_ite (fun hs4 => ?_) (fun hs4 => ?_)
    · refine r_tsw (pc := 14) ok 100 (4 : Int32) dX8_detail_14 hs4 (by decide +kernel) (by decide +kernel) rfl rfl ?_
      refine r_aload_n (pc := 100) ok dX8_detail_100 rfl ?_
      refine r_getR (pc := 101) ok cls8 (sc_sh ho) (k := 10) rfl (Nat.le_of_ble_eq_true rfl) rfl dX8_detail_101 fl_Sc_30 ?_
      refine r_iload_n (pc := 104) ok dX8_detail_104 rfl ?_
      refine r_iald (pc := 105) ok (sc_s7 ho) (Nat.add_sub_cancel_left _ _) (mx_l (sc_lt ho) (hr_sc)) dX8_detail_105 (fun i6 => ?_)
      exact r_iret (pc := 106) ok dX8_detail_106 rfl
    refine r_ite (fun hs5 => ?_) (fun hs5 => ?_)
    · refine r_tsw (pc := 14) ok 107 (5 : Int32) dX8_detail_14 hs5 (by decide +kernel) (by decide +kernel) rfl rfl ?_
      refine r_aload_n (pc := 107) ok dX8_detail_107 rfl ?_
      refine r_getR (pc := 108) ok cls8 (sc_sh ho) (k := 11) rfl (Nat.le_of_ble_eq_true rfl) rfl dX8_detail_108 fl_Sc_33 ?_
      refine r_iload_n (pc := 111) ok dX8_detail_111 rfl ?_
      refine r_iald (pc := 112) ok (sc_s8 ho) (Nat.add_sub_cancel_left _ _) (mx_l (sc_lt ho) (hr_sc)) dX8_detail_112 (fun i7 => ?_)
      exact r_iret (pc := 113) ok dX8_detail_113 rfl
    refine r_ite (fun hs6 => ?_) (fun hs6 => ?_)
    · refine r_tsw (pc := 14) ok 114 (6 : Int32) dX8_detail_14 hs6 (by decide +kernel) (by decide +kernel) rfl rfl ?_
      refine r_aload_n (pc := 114) ok dX8_detail_114 rfl ?_
      refine r_iload_n (pc := 115) ok dX8_detail_115 rfl ?_
      refine k_I (pc := 116) (fun r8 => r8) (fun r8 => mx XX YY) (fun r8 hr_ => c_V (n := 1) ok cls8 (sc_sh ho) rfl ml_Sc_79 wv_X8_housesToCallAt yk_X8_housesToCallAt rfl (Nat.le_of_ble_eq_true rfl) (Nat.le_of_ble_eq_true rfl) (tSc_housesToCallAt ho (hr_sc) hr_) rfl (Nat.le_of_ble_eq_true rfl) dX8_detail_116) (fun r8 => ?_)
      exact r_iret (pc := 119) ok dX8_detail_119 rfl
    refine r_ite (fun hs7 => ?_) (fun hs7 => ?_)
    · refine r_tsw (pc := 14) ok 120 (7 : Int32) dX8_detail_14 hs7 (by decide +kernel) (by decide +kernel) rfl rfl ?_
      refine r_aload_n (pc := 120) ok dX8_detail_120 rfl ?_
      refine r_getR (pc := 121) ok cls8 (sc_sh ho) (k := 12) rfl (Nat.le_of_ble_eq_true rfl) rfl dX8_detail_121 fl_Sc_36 ?_
      refine r_iload_n (pc := 124) ok dX8_detail_124 rfl ?_
      refine r_iald (pc := 125) ok (sc_s9 ho) (Nat.add_sub_cancel_left _ _) (mx_l (sc_lt ho) (hr_sc)) dX8_detail_125 (fun i9 => ?_)
      exact r_iret (pc := 126) ok dX8_detail_126 rfl
    refine r_ite (fun hs8 => ?_) (fun hs8 => ?_)
    · refine r_tsw (pc := 14) ok 127 (8 : Int32) dX8_detail_14 hs8 (by decide +kernel) (by decide +kernel) rfl rfl ?_
      refine r_aload_n (pc := 127) ok dX8_detail_127 rfl ?_
      refine r_getR (pc := 128) ok cls8 (sc_sh ho) (k := 13) rfl (Nat.le_of_ble_eq_true rfl) rfl dX8_detail_128 fl_Sc_39 ?_
      refine r_iload_n (pc := 131) ok dX8_detail_131 rfl ?_
      refine r_iald (pc := 132) ok (sc_s10 ho) (Nat.add_sub_cancel_left _ _) (mx_l (sc_lt ho) (hr_sc)) dX8_detail_132 (fun i10 => ?_)
      exact r_iret (pc := 133) ok dX8_detail_133 rfl
    refine r_ite (fun hs9 => ?_) (fun hs9 => ?_)
    · refine r_tsw (pc := 14) ok 134 (9 : Int32) dX8_detail_14 hs9 (by decide +kernel) (by decide +kernel) rfl rfl ?_
      refine r_aload_n (pc := 134) ok dX8_detail_134 rfl ?_
      refine r_getR (pc := 135) ok cls8 (sc_sh ho) (k := 0) rfl (Nat.le_of_ble_eq_true rfl) rfl dX8_detail_135 fl_Sc_42 ?_
      refine r_iload_n (pc := 138) ok dX8_detail_138 rfl ?_
      refine k_I (pc := 139) (fun r11 => r11) (fun r11 => mx XX YY) (fun r11 hr_ => c_V (n := 1) ok cls5 (qu_sh (qid_qu ho)) rfl ml_Sc_68 wv_X5_homeOf yk_X5_homeOf rfl (Nat.le_of_ble_eq_true rfl) (Nat.le_of_ble_eq_true rfl) (tQu_homeOf (qid_qu ho) (hr_q) hr_) rfl (Nat.le_of_ble_eq_true rfl) dX8_detail_139) (fun r11 => ?_)
      exact r_iret (pc := 142) ok dX8_detail_142 rfl
    refine r_ite (fun hs10 => ?_) (fun hs10 => ?_)
    · refine r_tsw (pc := 14) ok 143 (10 : Int32) dX8_detail_14 hs10 (by decide +kernel) (by decide +kernel) rfl rfl ?_
      refine r_aload_n (pc := 143) ok dX8_detail_143 rfl ?_
      refine r_getR (pc := 144) ok cls8 (sc_sh ho) (k := 0) rfl (Nat.le_of_ble_eq_true rfl) rfl dX8_detail_144 fl_Sc_42 ?_
      refine r_iload_n (pc := 147) ok dX8_detail_147 rfl ?_
      refine k_I (pc := 148) (fun r12 => r12) (fun r12 => mx XX YY) (fun r12 hr_ => c_V (n := 1) ok cls5 (qu_sh (qid_qu ho)) rfl ml_Sc_82 wv_X5_isStern yk_X5_isStern rfl (Nat.le_of_ble_eq_true rfl) (Nat.le_of_ble_eq_true rfl) (tQu_isStern (qid_qu ho) (hr_q) hr_) rfl (Nat.le_of_ble_eq_true rfl) dX8_detail_148) (fun r12 => ?_)
      refine r_if_eq (pc := 151) ok 158 dX8_detail_151 rfl (fun _ => ?_) (fun _ => ?_)
      · refine r_iconst (pc := 158) ok (0 : Int32) dX8_detail_158 ci_0 ?_
        exact r_iret (pc := 159) ok dX8_detail_159 rfl
      · refine r_iconst (pc := 154) ok (1 : Int32) dX8_detail_154 ci_1 ?_
        refine r_goto (pc := 155) ok 159 dX8_detail_155 rfl ?_
        exact r_iret (pc := 159) ok dX8_detail_159 rfl
    refine r_tswd (pc := 14) ok 160 dX8_detail_14 (tsw_out11 hs0 hs1 hs2 hs3 hs4 hs5 hs6 hs7 hs8 hs9 hs10) rfl ?_
    refine r_iconst (pc := 160) ok (-1 : Int32) dX8_detail_160 ci_m1 ?_
    exact r_iret (pc := 161) ok dX8_detail_161 rfl
theorem tSc_detail {l : Launch} {G : Gx} {b : Nat} {io : Nat} {XX YY : Nat → Obj} {q : Obj} {sc : Obj} {v1 : Int32} {v2 : Int32} (ho : isSc io) (hr_q : XX (qid io) = q) (hr_sc : XX io = sc) {r : Int32} (hr : fSc_detail q sc v1 v2 = some r) : MetG l G b yX8_detail cX8_detail 3 (some .int) 2 [.ref (b + io), .int v1, .int v2] (mx XX YY) (qI G b r (mx XX YY)) := by
  refine met_start [some (.ref (b + io)), some (.int v1), some (.int v2)] (by decide +kernel) (Nat.le_of_ble_eq_true rfl) rfl (fun Z hl ok => ?_)
  clear hl
  exact vSc_detail ok ho hr_q hr_sc r (by rw [hr]; rfl)
theorem vKL_call {Z : Cx} {G : Gx} {b : Nat} {YY : Nat → Obj} {X : Nat → Obj} {v1 : Int32} {v2 : Int32} (ok : OK Z G b cX11_call 4 0 RX11 (some .int)) : VO Z G b 4 (fun (r : Int32) => QX Z b (qI G b r (mx X YY))) (mx X YY) 0 [some (.ref (b + 0)), some (.int v1), some (.int v2), none] [] ((fKL_call X v1 v2).bind some) := by
  unfold fKL_call
  refine r_aload_n (pc := 0) ok dX11_call_0 rfl ?_
  refine r_getR (pc := 1) ok cls11 sh_0 (k := 1) rfl (Nat.le_of_ble_eq_true rfl) rfl dX11_call_1 fl_KL_19 ?_
  refine r_getR (pc := 4) ok cls9 sh_4 (k := 1) rfl (Nat.le_of_ble_eq_true rfl) rfl dX11_call_4 fl_KL_140 ?_
  refine r_astore_n (pc := 7) ok dX11_call_7 (Nat.le_of_ble_eq_true rfl) rfl ?_
  refine r_iload_n (pc := 8) ok dX11_call_8 rfl ?_
  refine r_if_lt (pc := 9) ok 26 dX11_call_9 rfl (fun _ => ?_) (fun _ => ?_)
  · refine r_iconst (pc := 26) ok (-1 : Int32) dX11_call_26 ci_m1 ?_
    exact r_iret (pc := 27) ok dX11_call_27 rfl
  · refine r_iload_n (pc := 12) ok dX11_call_12 rfl ?_
    refine r_aload_n (pc := 13) ok dX11_call_13 rfl ?_
    refine r_getI (pc := 14) ok cls8 sh_12 (k := 3) rfl (Nat.le_of_ble_eq_true rfl) (mx_l (Nat.le_of_ble_eq_true rfl) rfl) dX11_call_14 fl_KL_172 ?_
    refine r_icmp_ge (pc := 17) ok 26 dX11_call_17 rfl (fun _ => ?_) (fun _ => ?_)
    · refine r_iconst (pc := 26) ok (-1 : Int32) dX11_call_26 ci_m1 ?_
      exact r_iret (pc := 27) ok dX11_call_27 rfl
    · refine r_iload_n (pc := 20) ok dX11_call_20 rfl ?_
      refine r_bipush (pc := 21) ok (12 : Int32) dX11_call_21 cb_12 ?_
      refine r_icmp_lt (pc := 23) ok 28 dX11_call_23 rfl (fun _ => ?_) (fun _ => ?_)
      · refine r_iload_n (pc := 28) ok dX11_call_28 rfl ?_
        refine r_ite (fun hs0 => ?_) (fun hs0 => ?_)
        · refine r_lsw (pc := 29) ok 56 dX11_call_29 rfl (by first | (rw [hs0]; done) | (rw [hs0]; rfl)) rfl ?_
          refine r_aload_n (pc := 56) ok dX11_call_56 rfl ?_
          refine r_getR (pc := 57) ok cls8 sh_12 (k := 4) rfl (Nat.le_of_ble_eq_true rfl) rfl dX11_call_57 fl_KL_175 ?_
          refine r_iload_n (pc := 60) ok dX11_call_60 rfl ?_
          refine r_iald (pc := 61) ok sh_13 (j := 1) rfl (mx_l (Nat.le_of_ble_eq_true rfl) rfl) dX11_call_61 (fun i1 => ?_)
          exact r_iret (pc := 62) ok dX11_call_62 rfl
        refine r_ite (fun hs1 => ?_) (fun hs1 => ?_)
        · refine r_lsw (pc := 29) ok 63 dX11_call_29 rfl (by first | (rw [hs1]; done) | (rw [hs1]; rfl)) rfl ?_
          refine r_aload_n (pc := 63) ok dX11_call_63 rfl ?_
          refine r_getR (pc := 64) ok cls8 sh_12 (k := 5) rfl (Nat.le_of_ble_eq_true rfl) rfl dX11_call_64 fl_KL_179 ?_
          refine r_iload_n (pc := 67) ok dX11_call_67 rfl ?_
          refine r_iald (pc := 68) ok sh_14 (j := 2) rfl (mx_l (Nat.le_of_ble_eq_true rfl) rfl) dX11_call_68 (fun i2 => ?_)
          exact r_iret (pc := 69) ok dX11_call_69 rfl
        refine r_lsw (pc := 29) ok 70 dX11_call_29 rfl (lsw_out2 hs0 hs1) rfl ?_
        refine r_iconst (pc := 70) ok (-1 : Int32) dX11_call_70 ci_m1 ?_
        exact r_iret (pc := 71) ok dX11_call_71 rfl
      · refine r_iconst (pc := 26) ok (-1 : Int32) dX11_call_26 ci_m1 ?_
        exact r_iret (pc := 27) ok dX11_call_27 rfl
theorem tKL_call {l : Launch} {G : Gx} {b : Nat} {YY : Nat → Obj} {X : Nat → Obj} {v1 : Int32} {v2 : Int32} {r : Int32} (hr : fKL_call X v1 v2 = some r) : MetG l G b yX11_call cX11_call 4 (some .int) 0 [.ref (b + 0), .int v1, .int v2] (mx X YY) (qI G b r (mx X YY)) := by
  refine met_start [some (.ref (b + 0)), some (.int v1), some (.int v2), none] (by decide +kernel) (Nat.le_of_ble_eq_true rfl) rfl (fun Z hl ok => ?_)
  clear hl
  exact vKL_call ok r (by rw [hr]; rfl)
theorem wSc_openedInAll_L4 {Z : Cx} {G : Gx} {b : Nat} {io : Nat} {XX YY : Nat → Obj} {q : Obj} {sc : Obj} (ok : OK Z G b cX8_openedInAll 3 0 RX8 (some .int)) (ho : isSc io) (hr_q : XX (qid io) = q) (hr_sc : XX io = sc) {K : ((Int32 × Int32) ⊕ (Int32)) → Option (Int32)} (hc : ∀ (a : Int32 × Int32), VO Z G b 3 (fun (r : Int32) => QX Z b (qI G b r (mx XX YY))) (mx XX YY) 4 [some (.ref (b + io)), some (.int a.1), some (.int a.2)] [] (K (.inl a))) (hx : ∀ (e : Int32), VO Z G b 3 (fun (r : Int32) => QX Z b (qI G b r (mx XX YY))) (mx XX YY) 36 [none, some (.int e), none] [] (K (.inr e))) : ∀ (a : Int32 × Int32), VO Z G b 3 (fun (r : Int32) => QX Z b (qI G b r (mx XX YY))) (mx XX YY) 4 [some (.ref (b + io)), some (.int a.1), some (.int a.2)] [] ((fSc_openedInAll_L4 q sc a).bind K) := by
  intro a
  unfold fSc_openedInAll_L4
  refine r_iload_n (pc := 4) ok dX8_openedInAll_4 rfl ?_
  refine r_bipush (pc := 5) ok (8 : Int32) dX8_openedInAll_5 cb_8 ?_
  refine r_icmp_ge (pc := 7) ok 36 dX8_openedInAll_7 rfl (fun _ => ?_) (fun _ => ?_)
  · refine r_lv (lk_n (lk_s (lk_n lk_0 _) _) _) ?_
    exact hx a.1
  · refine r_iload_n (pc := 10) ok dX8_openedInAll_10 rfl ?_
    refine r_aload_n (pc := 11) ok dX8_openedInAll_11 rfl ?_
    refine r_getR (pc := 12) ok cls8 (sc_sh ho) (k := 0) rfl (Nat.le_of_ble_eq_true rfl) rfl dX8_openedInAll_12 fl_Sc_42 ?_
    refine r_getI (pc := 15) ok cls5 (qu_sh (qid_qu ho)) (k := 4) rfl (Nat.le_of_ble_eq_true rfl) (mx_l (qu_lt (qid_qu ho)) (hr_q)) dX8_openedInAll_15 fl_Sc_92 ?_
    refine r_icmp_ge (pc := 18) ok 36 dX8_openedInAll_18 rfl (fun _ => ?_) (fun _ => ?_)
    · refine r_lv (lk_n (lk_s (lk_n lk_0 _) _) _) ?_
      exact hx a.1
    · refine r_iload_n (pc := 21) ok dX8_openedInAll_21 rfl ?_
      refine r_aload_n (pc := 22) ok dX8_openedInAll_22 rfl ?_
      refine r_getR (pc := 23) ok cls8 (sc_sh ho) (k := 13) rfl (Nat.le_of_ble_eq_true rfl) rfl dX8_openedInAll_23 fl_Sc_39 ?_
      refine r_iload_n (pc := 26) ok dX8_openedInAll_26 rfl ?_
      refine r_iald (pc := 27) ok (sc_s10 ho) (Nat.add_sub_cancel_left _ _) (mx_l (sc_lt ho) (hr_sc)) dX8_openedInAll_27 (fun i1 => ?_)
      refine r_iadd (pc := 28) ok dX8_openedInAll_28 ?_
      refine r_bndI (fun x2 => ?_)
      refine r_istore_n (pc := 29) ok dX8_openedInAll_29 (Nat.le_of_ble_eq_true rfl) rfl ?_
      refine r_iinc (pc := 30) ok (1 : Int32) dX8_openedInAll_30 ci_1 rfl (Nat.le_of_ble_eq_true rfl) rfl ?_
      refine r_goto (pc := 33) ok 4 dX8_openedInAll_33 rfl ?_
      exact hc (x2, (a.2 + (1 : Int32)))
theorem vSc_openedInAll {Z : Cx} {G : Gx} {b : Nat} {io : Nat} {XX YY : Nat → Obj} {q : Obj} {sc : Obj} (ok : OK Z G b cX8_openedInAll 3 0 RX8 (some .int)) (ho : isSc io) (hr_q : XX (qid io) = q) (hr_sc : XX io = sc) : VO Z G b 3 (fun (r : Int32) => QX Z b (qI G b r (mx XX YY))) (mx XX YY) 0 [some (.ref (b + io)), none, none] [] ((fSc_openedInAll q sc).bind some) := by
  unfold fSc_openedInAll
  refine r_iconst (pc := 0) ok (0 : Int32) dX8_openedInAll_0 ci_0 ?_
  refine r_istore_n (pc := 1) ok dX8_openedInAll_1 (Nat.le_of_ble_eq_true rfl) rfl ?_
  refine r_iconst (pc := 2) ok (0 : Int32) dX8_openedInAll_2 ci_0 ?_
  refine r_istore_n (pc := 3) ok dX8_openedInAll_3 (Nat.le_of_ble_eq_true rfl) rfl ?_
  refine r_iter (P := fun (a4 : Int32 × Int32) o => VO Z G b 3 (fun (r : Int32) => QX Z b (qI G b r (mx XX YY))) (mx XX YY) 4 [some (.ref (b + io)), some (.int a4.1), some (.int a4.2)] [] o) (E := fun (e_4 : Int32) o => VO Z G b 3 (fun (r : Int32) => QX Z b (qI G b r (mx XX YY))) (mx XX YY) 36 [none, some (.int e_4), none] [] o) (fun _ => r_none) (fun K hc hx => wSc_openedInAll_L4 ok ho hr_q hr_sc (K := K) hc hx) (fun e3 => ?_) FU ((0 : Int32), (0 : Int32))
  refine r_iload_n (pc := 36) ok dX8_openedInAll_36 rfl ?_
  exact r_iret (pc := 37) ok dX8_openedInAll_37 rfl
theorem tSc_openedInAll {l : Launch} {G : Gx} {b : Nat} {io : Nat} {XX YY : Nat → Obj} {q : Obj} {sc : Obj} (ho : isSc io) (hr_q : XX (qid io) = q) (hr_sc : XX io = sc) {r : Int32} (hr : fSc_openedInAll q sc = some r) : MetG l G b yX8_openedInAll cX8_openedInAll 3 (some .int) 0 [.ref (b + io)] (mx XX YY) (qI G b r (mx XX YY)) := by
  refine met_start [some (.ref (b + io)), none, none] (by decide +kernel) (Nat.le_of_ble_eq_true rfl) rfl (fun Z hl ok => ?_)
  clear hl
  exact vSc_openedInAll ok ho hr_q hr_sc r (by rw [hr]; rfl)
theorem wSc_housesWithStrangers_L4 {Z : Cx} {G : Gx} {b : Nat} {io : Nat} {XX YY : Nat → Obj} {q : Obj} {sc : Obj} (ok : OK Z G b cX8_housesWithStrangers 3 2 RX8 (some .int)) (ho : isSc io) (hr_q : XX (qid io) = q) (hr_sc : XX io = sc) {K : ((Int32 × Int32) ⊕ (Int32)) → Option (Int32)} (hc : ∀ (a : Int32 × Int32), VO Z G b 3 (fun (r : Int32) => QX Z b (qI G b r (mx XX YY))) (mx XX YY) 4 [some (.ref (b + io)), some (.int a.1), some (.int a.2)] [] (K (.inl a))) (hx : ∀ (e : Int32), VO Z G b 3 (fun (r : Int32) => QX Z b (qI G b r (mx XX YY))) (mx XX YY) 35 [none, some (.int e), none] [] (K (.inr e))) : ∀ (a : Int32 × Int32), VO Z G b 3 (fun (r : Int32) => QX Z b (qI G b r (mx XX YY))) (mx XX YY) 4 [some (.ref (b + io)), some (.int a.1), some (.int a.2)] [] ((fSc_housesWithStrangers_L4 q sc a).bind K) := by
  intro a
  unfold fSc_housesWithStrangers_L4
  refine r_iload_n (pc := 4) ok dX8_housesWithStrangers_4 rfl ?_
  refine r_aload_n (pc := 5) ok dX8_housesWithStrangers_5 rfl ?_
  refine r_getR (pc := 6) ok cls8 (sc_sh ho) (k := 0) rfl (Nat.le_of_ble_eq_true rfl) rfl dX8_housesWithStrangers_6 fl_Sc_42 ?_
  refine r_getI (pc := 9) ok cls5 (qu_sh (qid_qu ho)) (k := 3) rfl (Nat.le_of_ble_eq_true rfl) (mx_l (qu_lt (qid_qu ho)) (hr_q)) dX8_housesWithStrangers_9 fl_Sc_95 ?_
  refine r_icmp_ge (pc := 12) ok 35 dX8_housesWithStrangers_12 rfl (fun _ => ?_) (fun _ => ?_)
  · refine r_lv (lk_n (lk_s (lk_n lk_0 _) _) _) ?_
    exact hx a.1
  · refine r_aload_n (pc := 15) ok dX8_housesWithStrangers_15 rfl ?_
    refine r_iload_n (pc := 16) ok dX8_housesWithStrangers_16 rfl ?_
    refine k_I (pc := 17) (fun r1 => r1) (fun r1 => mx XX YY) (fun r1 hr_ => c_V (n := 1) ok cls8 (sc_sh ho) rfl ml_Sc_98 wv_X8_strangersOf yk_X8_strangersOf rfl (Nat.le_of_ble_eq_true rfl) (Nat.le_of_ble_eq_true rfl) (tSc_strangersOf ho (hr_q) (hr_sc) hr_) rfl (Nat.le_of_ble_eq_true rfl) dX8_housesWithStrangers_17) (fun r1 => ?_)
    refine r_if_eq (pc := 20) ok 29 dX8_housesWithStrangers_20 rfl (fun _ => ?_) (fun _ => ?_)
    · refine r_iinc (pc := 29) ok (1 : Int32) dX8_housesWithStrangers_29 ci_1 rfl (Nat.le_of_ble_eq_true rfl) rfl ?_
      refine r_goto (pc := 32) ok 4 dX8_housesWithStrangers_32 rfl ?_
      exact hc (a.1, (a.2 + (1 : Int32)))
    · refine r_iload_n (pc := 23) ok dX8_housesWithStrangers_23 rfl ?_
      refine r_iconst (pc := 24) ok (1 : Int32) dX8_housesWithStrangers_24 ci_1 ?_
      refine r_iload_n (pc := 25) ok dX8_housesWithStrangers_25 rfl ?_
      refine r_ishl (pc := 26) ok dX8_housesWithStrangers_26 ?_
      refine r_ior (pc := 27) ok dX8_housesWithStrangers_27 ?_
      refine r_bndI (fun x2 => ?_)
      refine r_istore_n (pc := 28) ok dX8_housesWithStrangers_28 (Nat.le_of_ble_eq_true rfl) rfl ?_
      refine r_iinc (pc := 29) ok (1 : Int32) dX8_housesWithStrangers_29 ci_1 rfl (Nat.le_of_ble_eq_true rfl) rfl ?_
      refine r_goto (pc := 32) ok 4 dX8_housesWithStrangers_32 rfl ?_
      exact hc (x2, (a.2 + (1 : Int32)))
theorem vSc_housesWithStrangers {Z : Cx} {G : Gx} {b : Nat} {io : Nat} {XX YY : Nat → Obj} {q : Obj} {sc : Obj} (ok : OK Z G b cX8_housesWithStrangers 3 2 RX8 (some .int)) (ho : isSc io) (hr_q : XX (qid io) = q) (hr_sc : XX io = sc) : VO Z G b 3 (fun (r : Int32) => QX Z b (qI G b r (mx XX YY))) (mx XX YY) 0 [some (.ref (b + io)), none, none] [] ((fSc_housesWithStrangers q sc).bind some) := by
  unfold fSc_housesWithStrangers
  refine r_iconst (pc := 0) ok (0 : Int32) dX8_housesWithStrangers_0 ci_0 ?_
  refine r_istore_n (pc := 1) ok dX8_housesWithStrangers_1 (Nat.le_of_ble_eq_true rfl) rfl ?_
  refine r_iconst (pc := 2) ok (0 : Int32) dX8_housesWithStrangers_2 ci_0 ?_
  refine r_istore_n (pc := 3) ok dX8_housesWithStrangers_3 (Nat.le_of_ble_eq_true rfl) rfl ?_
  refine r_iter (P := fun (a4 : Int32 × Int32) o => VO Z G b 3 (fun (r : Int32) => QX Z b (qI G b r (mx XX YY))) (mx XX YY) 4 [some (.ref (b + io)), some (.int a4.1), some (.int a4.2)] [] o) (E := fun (e_4 : Int32) o => VO Z G b 3 (fun (r : Int32) => QX Z b (qI G b r (mx XX YY))) (mx XX YY) 35 [none, some (.int e_4), none] [] o) (fun _ => r_none) (fun K hc hx => wSc_housesWithStrangers_L4 ok ho hr_q hr_sc (K := K) hc hx) (fun e3 => ?_) FU ((0 : Int32), (0 : Int32))
  refine r_iload_n (pc := 35) ok dX8_housesWithStrangers_35 rfl ?_
  exact r_iret (pc := 36) ok dX8_housesWithStrangers_36 rfl
theorem tSc_housesWithStrangers {l : Launch} {G : Gx} {b : Nat} {io : Nat} {XX YY : Nat → Obj} {q : Obj} {sc : Obj} (ho : isSc io) (hr_q : XX (qid io) = q) (hr_sc : XX io = sc) {r : Int32} (hr : fSc_housesWithStrangers q sc = some r) : MetG l G b yX8_housesWithStrangers cX8_housesWithStrangers 3 (some .int) 2 [.ref (b + io)] (mx XX YY) (qI G b r (mx XX YY)) := by
  refine met_start [some (.ref (b + io)), none, none] (by decide +kernel) (Nat.le_of_ble_eq_true rfl) rfl (fun Z hl ok => ?_)
  clear hl
  exact vSc_housesWithStrangers ok ho hr_q hr_sc r (by rw [hr]; rfl)
theorem wSc_thoseWhoAre_L4 {Z : Cx} {G : Gx} {b : Nat} {io : Nat} {XX YY : Nat → Obj} {q : Obj} {sc : Obj} {v1 : Int32} (ok : OK Z G b cX8_thoseWhoAre 4 0 RX8 (some .int)) (ho : isSc io) (hr_q : XX (qid io) = q) (hr_sc : XX io = sc) {K : ((Int32 × Int32) ⊕ (Int32)) → Option (Int32)} (hc : ∀ (a : Int32 × Int32), VO Z G b 4 (fun (r : Int32) => QX Z b (qI G b r (mx XX YY))) (mx XX YY) 4 [some (.ref (b + io)), some (.int v1), some (.int a.1), some (.int a.2)] [] (K (.inl a))) (hx : ∀ (e : Int32), VO Z G b 4 (fun (r : Int32) => QX Z b (qI G b r (mx XX YY))) (mx XX YY) 43 [none, none, some (.int e), none] [] (K (.inr e))) : ∀ (a : Int32 × Int32), VO Z G b 4 (fun (r : Int32) => QX Z b (qI G b r (mx XX YY))) (mx XX YY) 4 [some (.ref (b + io)), some (.int v1), some (.int a.1), some (.int a.2)] [] ((fSc_thoseWhoAre_L4 q sc v1 a).bind K) := by
  intro a
  unfold fSc_thoseWhoAre_L4
  refine r_iload_n (pc := 4) ok dX8_thoseWhoAre_4 rfl ?_
  refine r_bipush (pc := 5) ok (8 : Int32) dX8_thoseWhoAre_5 cb_8 ?_
  refine r_icmp_ge (pc := 7) ok 43 dX8_thoseWhoAre_7 rfl (fun _ => ?_) (fun _ => ?_)
  · refine r_lv (lk_n (lk_n (lk_s (lk_n lk_0 _) _) _) _) ?_
    exact hx a.1
  · refine r_iload_n (pc := 10) ok dX8_thoseWhoAre_10 rfl ?_
    refine r_aload_n (pc := 11) ok dX8_thoseWhoAre_11 rfl ?_
    refine r_getR (pc := 12) ok cls8 (sc_sh ho) (k := 0) rfl (Nat.le_of_ble_eq_true rfl) rfl dX8_thoseWhoAre_12 fl_Sc_42 ?_
    refine r_getI (pc := 15) ok cls5 (qu_sh (qid_qu ho)) (k := 4) rfl (Nat.le_of_ble_eq_true rfl) (mx_l (qu_lt (qid_qu ho)) (hr_q)) dX8_thoseWhoAre_15 fl_Sc_92 ?_
    refine r_icmp_ge (pc := 18) ok 43 dX8_thoseWhoAre_18 rfl (fun _ => ?_) (fun _ => ?_)
    · refine r_lv (lk_n (lk_n (lk_s (lk_n lk_0 _) _) _) _) ?_
      exact hx a.1
    · refine r_aload_n (pc := 21) ok dX8_thoseWhoAre_21 rfl ?_
      refine r_getR (pc := 22) ok cls8 (sc_sh ho) (k := 6) rfl (Nat.le_of_ble_eq_true rfl) rfl dX8_thoseWhoAre_22 fl_Sc_18 ?_
      refine r_iload_n (pc := 25) ok dX8_thoseWhoAre_25 rfl ?_
      refine r_iald (pc := 26) ok (sc_s3 ho) (Nat.add_sub_cancel_left _ _) (mx_l (sc_lt ho) (hr_sc)) dX8_thoseWhoAre_26 (fun i1 => ?_)
      refine r_iload_n (pc := 27) ok dX8_thoseWhoAre_27 rfl ?_
      refine r_icmp_ne (pc := 28) ok 37 dX8_thoseWhoAre_28 rfl (fun _ => ?_) (fun _ => ?_)
      · refine r_iload_n (pc := 31) ok dX8_thoseWhoAre_31 rfl ?_
        refine r_iconst (pc := 32) ok (1 : Int32) dX8_thoseWhoAre_32 ci_1 ?_
        refine r_iload_n (pc := 33) ok dX8_thoseWhoAre_33 rfl ?_
        refine r_ishl (pc := 34) ok dX8_thoseWhoAre_34 ?_
        refine r_ior (pc := 35) ok dX8_thoseWhoAre_35 ?_
        refine r_bndI (fun x2 => ?_)
        refine r_istore_n (pc := 36) ok dX8_thoseWhoAre_36 (Nat.le_of_ble_eq_true rfl) rfl ?_
        refine r_iinc (pc := 37) ok (1 : Int32) dX8_thoseWhoAre_37 ci_1 rfl (Nat.le_of_ble_eq_true rfl) rfl ?_
        refine r_goto (pc := 40) ok 4 dX8_thoseWhoAre_40 rfl ?_
        exact hc (x2, (a.2 + (1 : Int32)))
      · refine r_iinc (pc := 37) ok (1 : Int32) dX8_thoseWhoAre_37 ci_1 rfl (Nat.le_of_ble_eq_true rfl) rfl ?_
        refine r_goto (pc := 40) ok 4 dX8_thoseWhoAre_40 rfl ?_
        exact hc (a.1, (a.2 + (1 : Int32)))
theorem vSc_thoseWhoAre {Z : Cx} {G : Gx} {b : Nat} {io : Nat} {XX YY : Nat → Obj} {q : Obj} {sc : Obj} {v1 : Int32} (ok : OK Z G b cX8_thoseWhoAre 4 0 RX8 (some .int)) (ho : isSc io) (hr_q : XX (qid io) = q) (hr_sc : XX io = sc) : VO Z G b 4 (fun (r : Int32) => QX Z b (qI G b r (mx XX YY))) (mx XX YY) 0 [some (.ref (b + io)), some (.int v1), none, none] [] ((fSc_thoseWhoAre q sc v1).bind some) := by
  unfold fSc_thoseWhoAre
  refine r_iconst (pc := 0) ok (0 : Int32) dX8_thoseWhoAre_0 ci_0 ?_
  refine r_istore_n (pc := 1) ok dX8_thoseWhoAre_1 (Nat.le_of_ble_eq_true rfl) rfl ?_
  refine r_iconst (pc := 2) ok (0 : Int32) dX8_thoseWhoAre_2 ci_0 ?_
  refine r_istore_n (pc := 3) ok dX8_thoseWhoAre_3 (Nat.le_of_ble_eq_true rfl) rfl ?_
  refine r_iter (P := fun (a4 : Int32 × Int32) o => VO Z G b 4 (fun (r : Int32) => QX Z b (qI G b r (mx XX YY))) (mx XX YY) 4 [some (.ref (b + io)), some (.int v1), some (.int a4.1), some (.int a4.2)] [] o) (E := fun (e_4 : Int32) o => VO Z G b 4 (fun (r : Int32) => QX Z b (qI G b r (mx XX YY))) (mx XX YY) 43 [none, none, some (.int e_4), none] [] o) (fun _ => r_none) (fun K hc hx => wSc_thoseWhoAre_L4 ok ho hr_q hr_sc (K := K) hc hx) (fun e3 => ?_) FU ((0 : Int32), (0 : Int32))
  refine r_iload_n (pc := 43) ok dX8_thoseWhoAre_43 rfl ?_
  exact r_iret (pc := 44) ok dX8_thoseWhoAre_44 rfl
theorem tSc_thoseWhoAre {l : Launch} {G : Gx} {b : Nat} {io : Nat} {XX YY : Nat → Obj} {q : Obj} {sc : Obj} {v1 : Int32} (ho : isSc io) (hr_q : XX (qid io) = q) (hr_sc : XX io = sc) {r : Int32} (hr : fSc_thoseWhoAre q sc v1 = some r) : MetG l G b yX8_thoseWhoAre cX8_thoseWhoAre 4 (some .int) 0 [.ref (b + io), .int v1] (mx XX YY) (qI G b r (mx XX YY)) := by
  refine met_start [some (.ref (b + io)), some (.int v1), none, none] (by decide +kernel) (Nat.le_of_ble_eq_true rfl) rfl (fun Z hl ok => ?_)
  clear hl
  exact vSc_thoseWhoAre ok ho hr_q hr_sc r (by rw [hr]; rfl)
theorem vKL_now {Z : Cx} {G : Gx} {b : Nat} {YY : Nat → Obj} {X : Nat → Obj} {v1 : Int32} (ok : OK Z G b cX11_now 3 3 RX11 (some .int)) : VO Z G b 3 (fun (r : Int32) => QX Z b (qI G b r (mx X YY))) (mx X YY) 0 [some (.ref (b + 0)), some (.int v1), none] [] ((fKL_now X v1).bind some) := by
  unfold fKL_now
  refine r_aload_n (pc := 0) ok dX11_now_0 rfl ?_
  refine r_getR (pc := 1) ok cls11 sh_0 (k := 1) rfl (Nat.le_of_ble_eq_true rfl) rfl dX11_now_1 fl_KL_19 ?_
  refine r_getR (pc := 4) ok cls9 sh_4 (k := 1) rfl (Nat.le_of_ble_eq_true rfl) rfl dX11_now_4 fl_KL_140 ?_
  refine r_astore_n (pc := 7) ok dX11_now_7 (Nat.le_of_ble_eq_true rfl) rfl ?_
  refine r_iload_n (pc := 8) ok dX11_now_8 rfl ?_
  refine r_ite (fun hs0 => ?_) (fun hs0 => ?_)
  · refine r_tsw (pc := 9) ok 56 (0 : Int32) dX11_now_9 hs0 (by decide +kernel) (by decide +kernel) rfl rfl ?_
    refine r_aload_n (pc := 56) ok dX11_now_56 rfl ?_
    refine r_getI (pc := 57) ok cls8 sh_12 (k := 1) rfl (Nat.le_of_ble_eq_true rfl) (mx_l (Nat.le_of_ble_eq_true rfl) rfl) dX11_now_57 fl_KL_182 ?_
    exact r_iret (pc := 60) ok dX11_now_60 rfl
  refine r_ite (fun hs1 => ?_) (fun hs1 => ?_)
  · refine r_tsw (pc := 9) ok 61 (1 : Int32) dX11_now_9 hs1 (by decide +kernel) (by decide +kernel) rfl rfl ?_
    refine r_aload_n (pc := 61) ok dX11_now_61 rfl ?_
    refine r_iconst (pc := 62) ok (0 : Int32) dX11_now_62 ci_0 ?_
    refine k_I (pc := 63) (fun r1 => r1) (fun r1 => mx X YY) (fun r1 hr_ => c_V (n := 1) ok cls8 sh_12 rfl ml_KL_185 wv_X8_thoseWhoAre yk_X8_thoseWhoAre rfl (Nat.le_of_ble_eq_true rfl) (Nat.le_of_ble_eq_true rfl) (tSc_thoseWhoAre (sc_c (o := 12) (by decide)) (rfl) (rfl) hr_) rfl (Nat.le_of_ble_eq_true rfl) dX11_now_63) (fun r1 => ?_)
    exact r_iret (pc := 66) ok dX11_now_66 rfl
  refine r_ite (fun hs2 => ?_) (fun hs2 => ?_)
  · refine r_tsw (pc := 9) ok 67 (2 : Int32) dX11_now_9 hs2 (by decide +kernel) (by decide +kernel) rfl rfl ?_
    refine r_aload_n (pc := 67) ok dX11_now_67 rfl ?_
    refine r_iconst (pc := 68) ok (1 : Int32) dX11_now_68 ci_1 ?_
    refine k_I (pc := 69) (fun r2 => r2) (fun r2 => mx X YY) (fun r2 hr_ => c_V (n := 1) ok cls8 sh_12 rfl ml_KL_185 wv_X8_thoseWhoAre yk_X8_thoseWhoAre rfl (Nat.le_of_ble_eq_true rfl) (Nat.le_of_ble_eq_true rfl) (tSc_thoseWhoAre (sc_c (o := 12) (by decide)) (rfl) (rfl) hr_) rfl (Nat.le_of_ble_eq_true rfl) dX11_now_69) (fun r2 => ?_)
    exact r_iret (pc := 72) ok dX11_now_72 rfl
  refine r_ite (fun hs3 => ?_) (fun hs3 => ?_)
  · refine r_tsw (pc := 9) ok 73 (3 : Int32) dX11_now_9 hs3 (by decide +kernel) (by decide +kernel) rfl rfl ?_
    refine r_aload_n (pc := 73) ok dX11_now_73 rfl ?_
    refine r_iconst (pc := 74) ok (2 : Int32) dX11_now_74 ci_2 ?_
    refine k_I (pc := 75) (fun r3 => r3) (fun r3 => mx X YY) (fun r3 hr_ => c_V (n := 1) ok cls8 sh_12 rfl ml_KL_185 wv_X8_thoseWhoAre yk_X8_thoseWhoAre rfl (Nat.le_of_ble_eq_true rfl) (Nat.le_of_ble_eq_true rfl) (tSc_thoseWhoAre (sc_c (o := 12) (by decide)) (rfl) (rfl) hr_) rfl (Nat.le_of_ble_eq_true rfl) dX11_now_75) (fun r3 => ?_)
    exact r_iret (pc := 78) ok dX11_now_78 rfl
  refine r_ite (fun hs4 => ?_) (fun hs4 => ?_)
  · refine r_tsw (pc := 9) ok 79 (4 : Int32) dX11_now_9 hs4 (by decide +kernel) (by decide +kernel) rfl rfl ?_
    refine r_aload_n (pc := 79) ok dX11_now_79 rfl ?_
    refine k_I (pc := 80) (fun r4 => r4) (fun r4 => mx X YY) (fun r4 hr_ => c_V (n := 0) ok cls8 sh_12 rfl ml_KL_188 wv_X8_housesWithStrangers yk_X8_housesWithStrangers rfl (Nat.le_of_ble_eq_true rfl) (Nat.le_of_ble_eq_true rfl) (tSc_housesWithStrangers (sc_c (o := 12) (by decide)) (rfl) (rfl) hr_) rfl (Nat.le_of_ble_eq_true rfl) dX11_now_80) (fun r4 => ?_)
    exact r_iret (pc := 83) ok dX11_now_83 rfl
  refine r_ite (fun hs5 => ?_) (fun hs5 => ?_)
  · refine r_tsw (pc := 9) ok 84 (5 : Int32) dX11_now_9 hs5 (by decide +kernel) (by decide +kernel) rfl rfl ?_
    refine r_aload_n (pc := 84) ok dX11_now_84 rfl ?_
    refine r_getI (pc := 85) ok cls8 sh_12 (k := 3) rfl (Nat.le_of_ble_eq_true rfl) (mx_l (Nat.le_of_ble_eq_true rfl) rfl) dX11_now_85 fl_KL_172 ?_
    exact r_iret (pc := 88) ok dX11_now_88 rfl
  refine r_ite (fun hs6 => ?_) (fun hs6 => ?_)
  · refine r_tsw (pc := 9) ok 89 (6 : Int32) dX11_now_9 hs6 (by decide +kernel) (by decide +kernel) rfl rfl ?_
    refine r_aload_n (pc := 89) ok dX11_now_89 rfl ?_
    refine k_I (pc := 90) (fun r5 => r5) (fun r5 => mx X YY) (fun r5 hr_ => c_V (n := 0) ok cls8 sh_12 rfl ml_KL_191 wv_X8_openedInAll yk_X8_openedInAll rfl (Nat.le_of_ble_eq_true rfl) (Nat.le_of_ble_eq_true rfl) (tSc_openedInAll (sc_c (o := 12) (by decide)) (rfl) (rfl) hr_) rfl (Nat.le_of_ble_eq_true rfl) dX11_now_90) (fun r5 => ?_)
    exact r_iret (pc := 93) ok dX11_now_93 rfl
  refine r_ite (fun hs7 => ?_) (fun hs7 => ?_)
  · refine r_tsw (pc := 9) ok 94 (7 : Int32) dX11_now_9 hs7 (by decide +kernel) (by decide +kernel) rfl rfl ?_
    refine r_aload_n (pc := 94) ok dX11_now_94 rfl ?_
    refine r_getI (pc := 95) ok cls8 sh_12 (k := 2) rfl (Nat.le_of_ble_eq_true rfl) (mx_l (Nat.le_of_ble_eq_true rfl) rfl) dX11_now_95 fl_KL_194 ?_
    exact r_iret (pc := 98) ok dX11_now_98 rfl
  refine r_tswd (pc := 9) ok 99 dX11_now_9 (tsw_out8 hs0 hs1 hs2 hs3 hs4 hs5 hs6 hs7) rfl ?_
  refine r_iconst (pc := 99) ok (-1 : Int32) dX11_now_99 ci_m1 ?_
  exact r_iret (pc := 100) ok dX11_now_100 rfl
theorem tKL_now {l : Launch} {G : Gx} {b : Nat} {YY : Nat → Obj} {X : Nat → Obj} {v1 : Int32} {r : Int32} (hr : fKL_now X v1 = some r) : MetG l G b yX11_now cX11_now 3 (some .int) 3 [.ref (b + 0), .int v1] (mx X YY) (qI G b r (mx X YY)) := by
  refine met_start [some (.ref (b + 0)), some (.int v1), none] (by decide +kernel) (Nat.le_of_ble_eq_true rfl) rfl (fun Z hl ok => ?_)
  clear hl
  exact vKL_now ok r (by rw [hr]; rfl)
theorem vPa_roomBehind {Z : Cx} {G : Gx} {b : Nat} {YY : Nat → Obj} {X : Nat → Obj} {v1 : Int32} (ok : OK Z G b cX4_roomBehind 3 0 RX4 (some (.object "KnockLane$Scene"))) : VO Z G b 3 (fun (r : Nat) => QX Z b (qQ G b (rmv b r) (mx X YY))) (mx X YY) 0 [some (.ref (b + 100)), some (.int v1), none] [] ((fPa_roomBehind X v1).bind some) := by
  unfold fPa_roomBehind
  refine r_aload_n (pc := 0) ok dX4_roomBehind_0 rfl ?_
  refine r_getI (pc := 1) ok cls4 sh_100 (k := 1) rfl (Nat.le_of_ble_eq_true rfl) (mx_l (Nat.le_of_ble_eq_true rfl) rfl) dX4_roomBehind_1 fl_Pa_32 ?_
  refine r_iload_n (pc := 4) ok dX4_roomBehind_4 rfl ?_
  refine r_iadd (pc := 5) ok dX4_roomBehind_5 ?_
  refine r_bipush (pc := 6) ok (9 : Int32) dX4_roomBehind_6 cb_9 ?_
  refine r_iremc (pc := 8) ok dX4_roomBehind_8 (by decide +kernel) ?_
  refine r_bndI (fun x1 => ?_)
  refine r_istore_n (pc := 9) ok dX4_roomBehind_9 (Nat.le_of_ble_eq_true rfl) rfl ?_
  refine r_iload_n (pc := 10) ok dX4_roomBehind_10 rfl ?_
  refine r_if_lt (pc := 11) ok 29 dX4_roomBehind_11 rfl (fun _ => ?_) (fun _ => ?_)
  · refine r_null (pc := 29) ok dX4_roomBehind_29 ?_
    exact r_aret (pc := 30) (v := none) ok dX4_roomBehind_30 (congrArg (fun v_ => QX Z b (qQ G b v_ (mx X YY))) (rmv_no (i := 9) (by decide)))
  · refine r_iload_n (pc := 14) ok dX4_roomBehind_14 rfl ?_
    refine r_bipush (pc := 15) ok (9 : Int32) dX4_roomBehind_15 cb_9 ?_
    refine r_icmp_ge (pc := 17) ok 29 dX4_roomBehind_17 rfl (fun _ => ?_) (fun _ => ?_)
    · refine r_null (pc := 29) ok dX4_roomBehind_29 ?_
      exact r_aret (pc := 30) (v := none) ok dX4_roomBehind_30 (congrArg (fun v_ => QX Z b (qQ G b v_ (mx X YY))) (rmv_no (i := 9) (by decide)))
    · refine r_aload_n (pc := 20) ok dX4_roomBehind_20 rfl ?_
      refine r_getR (pc := 21) ok cls4 sh_100 (k := 0) rfl (Nat.le_of_ble_eq_true rfl) rfl dX4_roomBehind_21 fl_Pa_13 ?_
      refine r_iload_n (pc := 24) ok dX4_roomBehind_24 rfl ?_
      refine r_aald (pc := 25) ok dX4_roomBehind_25 (fun i2 hi2 => ?_)
      refine r_goto (pc := 26) ok 30 dX4_roomBehind_26 rfl ?_
      exact r_aret (pc := 30) (v := some (b + (102 + 11 * i2))) ok dX4_roomBehind_30 (congrArg (fun v_ => QX Z b (qQ G b v_ (mx X YY))) (rmv_in hi2))
theorem tPa_roomBehind {l : Launch} {G : Gx} {b : Nat} {YY : Nat → Obj} {X : Nat → Obj} {v1 : Int32} {r : Nat} (hr : fPa_roomBehind X v1 = some r) : MetG l G b yX4_roomBehind cX4_roomBehind 3 (some (.object "KnockLane$Scene")) 0 [.ref (b + 100), .int v1] (mx X YY) (qQ G b (rmv b r) (mx X YY)) := by
  refine met_start [some (.ref (b + 100)), some (.int v1), none] (by decide +kernel) (Nat.le_of_ble_eq_true rfl) rfl (fun Z hl ok => ?_)
  clear hl
  exact vPa_roomBehind ok r (by rw [hr]; rfl)
theorem vPa_note {Z : Cx} {G : Gx} {b : Nat} {YY : Nat → Obj} {X : Nat → Obj} (ok : OK Z G b cX4_note 3 2 RX4 none) : VO Z G b 3 (fun (r : (Nat → Obj)) => QX Z b (qV G b (mx r YY))) (mx X YY) 0 [some (.ref (b + 100)), some (.ref (b + 12)), none] [] ((fPa_note X).bind some) := by
  unfold fPa_note
  refine r_aload_n (pc := 0) ok dX4_note_0 rfl ?_
  refine r_aload_n (pc := 1) ok dX4_note_1 rfl ?_
  refine r_getI (pc := 2) ok cls4 sh_100 (k := 2) rfl (Nat.le_of_ble_eq_true rfl) (mx_l (Nat.le_of_ble_eq_true rfl) rfl) dX4_note_2 fl_Pa_20 ?_
  refine k_Q (pc := 5) (fun r1 => rmv b r1) (fun r1 => mx X YY) (fun r1 hr_ => c_V (n := 1) ok cls4 sh_100 rfl ml_Pa_24 wv_X4_roomBehind yk_X4_roomBehind rfl (Nat.le_of_ble_eq_true rfl) (Nat.le_of_ble_eq_true rfl) (tPa_roomBehind hr_) rfl (Nat.le_of_ble_eq_true rfl) dX4_note_5) (fun r1 => ?_)
  refine r_ite (fun hr1 => ?_) (fun hr1 => ?_)
  · refine r_st (st' := [.ref (b + (102 + 11 * r1))]) (congrArg (fun v_ => [va_rf v_]) (rmv_in hr1)) ?_
    refine r_astore_n (pc := 8) ok dX4_note_8 (Nat.le_of_ble_eq_true rfl) rfl ?_
    refine r_aload_n (pc := 9) ok dX4_note_9 rfl ?_
    refine r_ifnull (pc := 10) ok dX4_note_10 ?_
    refine r_aload_n (pc := 13) ok dX4_note_13 rfl ?_
    refine r_aload_n (pc := 14) ok dX4_note_14 rfl ?_
    refine k_V (pc := 15)  (fun r2 => mx ((va_up X (102 + 11 * r1) r2)) YY) (fun r2 hr_ => c_V (n := 1) ok cls8 (sc_sh (past_sc hr1)) rfl ml_Pa_28 wv_X8_copyFrom yk_X8_copyFrom rfl (Nat.le_of_ble_eq_true rfl) (Nat.le_of_ble_eq_true rfl) (met_cast (by rw [up_eta]) rfl (tSc_copyFrom (past_sc hr1) (sc_c (o := 12) (by decide)) (Ne.symm (past_ne hr1 (by decide))) (rfl) hr_)) rfl (Nat.le_of_ble_eq_true rfl) dX4_note_15) (fun r2 => ?_)
    refine r_bndX (wf := (fun x_ => mx x_ YY)) (fun X3 => ?_)
    exact r_vret (pc := 18) ok dX4_note_18 rfl
  refine r_st (st' := [.null]) (congrArg (fun v_ => [va_rf v_]) (rmv_no hr1)) ?_
  refine r_astore_nN (pc := 8) ok dX4_note_8 (Nat.le_of_ble_eq_true rfl) rfl ?_
  refine r_aload_nN (pc := 9) ok dX4_note_9 rfl ?_
  refine r_ifnullN (pc := 10) ok 18 dX4_note_10 rfl ?_
  exact r_vret (pc := 18) ok dX4_note_18 rfl
theorem tPa_note {l : Launch} {G : Gx} {b : Nat} {YY : Nat → Obj} {X : Nat → Obj} {r : (Nat → Obj)} (hr : fPa_note X = some r) : MetG l G b yX4_note cX4_note 3 none 2 [.ref (b + 100), .ref (b + 12)] (mx X YY) (qV G b (mx r YY)) := by
  refine met_start [some (.ref (b + 100)), some (.ref (b + 12)), none] (by decide +kernel) (Nat.le_of_ble_eq_true rfl) rfl (fun Z hl ok => ?_)
  clear hl
  exact vPa_note ok r (by rw [hr]; rfl)
theorem vSc_tryKnock {Z : Cx} {G : Gx} {b : Nat} {io : Nat} {XX YY : Nat → Obj} {q : Obj} {sc : Obj} {v1 : Int32} {v2 : Int32} (ok : OK Z G b cX8_tryKnock 3 2 RX8 (some .int)) (ho : isSc io) (hr_q : XX (qid io) = q) : VO Z G b 3 (fun (r : Int32 × Obj) => QX Z b (qI G b r.1 (mx (va_up XX io r.2) YY))) (mx (va_up XX io sc) YY) 0 [some (.ref (b + io)), some (.int v1), some (.int v2)] [] ((fSc_tryKnock q sc v1 v2).bind some) := by
  unfold fSc_tryKnock
  refine r_aload_n (pc := 0) ok dX8_tryKnock_0 rfl ?_
  refine r_getR (pc := 1) ok cls8 (sc_sh ho) (k := 0) rfl (Nat.le_of_ble_eq_true rfl) rfl dX8_tryKnock_1 fl_Sc_42 ?_
  refine r_iload_n (pc := 4) ok dX8_tryKnock_4 rfl ?_
  refine k_I (pc := 5) (fun r1 => r1) (fun r1 => mx (va_up XX io sc) YY) (fun r1 hr_ => c_V (n := 1) ok cls5 (qu_sh (qid_qu ho)) rfl ml_Sc_62 wv_X5_hasPerson yk_X5_hasPerson rfl (Nat.le_of_ble_eq_true rfl) (Nat.le_of_ble_eq_true rfl) (tQu_hasPerson (qid_qu ho) ((va_up_ne _ _ (qid_ne ho)).trans (hr_q)) hr_) rfl (Nat.le_of_ble_eq_true rfl) dX8_tryKnock_5) (fun r1 => ?_)
  refine r_if_eq (pc := 8) ok 22 dX8_tryKnock_8 rfl (fun _ => ?_) (fun _ => ?_)
  · refine r_iconst (pc := 22) ok (-1 : Int32) dX8_tryKnock_22 ci_m1 ?_
    exact r_iret (pc := 23) ok dX8_tryKnock_23 rfl
  · refine r_aload_n (pc := 11) ok dX8_tryKnock_11 rfl ?_
    refine r_getR (pc := 12) ok cls8 (sc_sh ho) (k := 0) rfl (Nat.le_of_ble_eq_true rfl) rfl dX8_tryKnock_12 fl_Sc_42 ?_
    refine r_iload_n (pc := 15) ok dX8_tryKnock_15 rfl ?_
    refine k_I (pc := 16) (fun r2 => r2) (fun r2 => mx (va_up XX io sc) YY) (fun r2 hr_ => c_V (n := 1) ok cls5 (qu_sh (qid_qu ho)) rfl ml_Sc_106 wv_X5_hasHouse yk_X5_hasHouse rfl (Nat.le_of_ble_eq_true rfl) (Nat.le_of_ble_eq_true rfl) (tQu_hasHouse (qid_qu ho) ((va_up_ne _ _ (qid_ne ho)).trans (hr_q)) hr_) rfl (Nat.le_of_ble_eq_true rfl) dX8_tryKnock_16) (fun r2 => ?_)
    refine r_if_ne (pc := 19) ok 24 dX8_tryKnock_19 rfl (fun _ => ?_) (fun _ => ?_)
    · refine r_iconst (pc := 22) ok (-1 : Int32) dX8_tryKnock_22 ci_m1 ?_
      exact r_iret (pc := 23) ok dX8_tryKnock_23 rfl
    · refine r_aload_n (pc := 24) ok dX8_tryKnock_24 rfl ?_
      refine r_getR (pc := 25) ok cls8 (sc_sh ho) (k := 6) rfl (Nat.le_of_ble_eq_true rfl) rfl dX8_tryKnock_25 fl_Sc_18 ?_
      refine r_iload_n (pc := 28) ok dX8_tryKnock_28 rfl ?_
      refine r_iald (pc := 29) ok (sc_s3 ho) (Nat.add_sub_cancel_left _ _) (mx_l (sc_lt ho) (va_up_self _ _ _)) dX8_tryKnock_29 (fun i3 => ?_)
      refine r_if_eq (pc := 30) ok 35 dX8_tryKnock_30 rfl (fun _ => ?_) (fun _ => ?_)
      · refine r_aload_n (pc := 35) ok dX8_tryKnock_35 rfl ?_
        refine r_getR (pc := 36) ok cls8 (sc_sh ho) (k := 0) rfl (Nat.le_of_ble_eq_true rfl) rfl dX8_tryKnock_36 fl_Sc_42 ?_
        refine r_iload_n (pc := 39) ok dX8_tryKnock_39 rfl ?_
        refine k_I (pc := 40) (fun r4 => r4) (fun r4 => mx (va_up XX io sc) YY) (fun r4 hr_ => c_V (n := 1) ok cls5 (qu_sh (qid_qu ho)) rfl ml_Sc_109 wv_X5_placeOf yk_X5_placeOf rfl (Nat.le_of_ble_eq_true rfl) (Nat.le_of_ble_eq_true rfl) (tQu_placeOf (qid_qu ho) ((va_up_ne _ _ (qid_ne ho)).trans (hr_q)) hr_) rfl (Nat.le_of_ble_eq_true rfl) dX8_tryKnock_40) (fun r4 => ?_)
        refine r_aload_n (pc := 43) ok dX8_tryKnock_43 rfl ?_
        refine r_getR (pc := 44) ok cls8 (sc_sh ho) (k := 7) rfl (Nat.le_of_ble_eq_true rfl) rfl dX8_tryKnock_44 fl_Sc_21 ?_
        refine r_iload_n (pc := 47) ok dX8_tryKnock_47 rfl ?_
        refine r_iald (pc := 48) ok (sc_s4 ho) (Nat.add_sub_cancel_left _ _) (mx_l (sc_lt ho) (va_up_self _ _ _)) dX8_tryKnock_48 (fun i5 => ?_)
        refine r_icmp_eq (pc := 49) ok 54 dX8_tryKnock_49 rfl (fun _ => ?_) (fun _ => ?_)
        · refine r_aload_n (pc := 54) ok dX8_tryKnock_54 rfl ?_
          refine r_getR (pc := 55) ok cls8 (sc_sh ho) (k := 0) rfl (Nat.le_of_ble_eq_true rfl) rfl dX8_tryKnock_55 fl_Sc_42 ?_
          refine r_iload_n (pc := 58) ok dX8_tryKnock_58 rfl ?_
          refine k_I (pc := 59) (fun r6 => r6) (fun r6 => mx (va_up XX io sc) YY) (fun r6 hr_ => c_V (n := 1) ok cls5 (qu_sh (qid_qu ho)) rfl ml_Sc_68 wv_X5_homeOf yk_X5_homeOf rfl (Nat.le_of_ble_eq_true rfl) (Nat.le_of_ble_eq_true rfl) (tQu_homeOf (qid_qu ho) ((va_up_ne _ _ (qid_ne ho)).trans (hr_q)) hr_) rfl (Nat.le_of_ble_eq_true rfl) dX8_tryKnock_59) (fun r6 => ?_)
          refine r_iload_n (pc := 62) ok dX8_tryKnock_62 rfl ?_
          refine r_icmp_ne (pc := 63) ok 68 dX8_tryKnock_63 rfl (fun _ => ?_) (fun _ => ?_)
          · refine r_iconst (pc := 66) ok (3 : Int32) dX8_tryKnock_66 ci_3 ?_
            exact r_iret (pc := 67) ok dX8_tryKnock_67 rfl
          · refine r_aload_n (pc := 68) ok dX8_tryKnock_68 rfl ?_
            refine r_getR (pc := 69) ok cls8 (sc_sh ho) (k := 6) rfl (Nat.le_of_ble_eq_true rfl) rfl dX8_tryKnock_69 fl_Sc_18 ?_
            refine r_iload_n (pc := 72) ok dX8_tryKnock_72 rfl ?_
            refine r_iconst (pc := 73) ok (1 : Int32) dX8_tryKnock_73 ci_1 ?_
            refine r_iast (pc := 74) ok (sc_s3 ho) (Nat.add_sub_cancel_left _ _) rfl (fun s_ => mx (va_up XX io s_) YY) (pm_l (sc_lt ho) (pm_0 _ _)).1 (pm_l (sc_lt ho) (pm_0 _ _)).2 dX8_tryKnock_74 (fun i7 s8 => ?_)
            refine r_aload_n (pc := 75) ok dX8_tryKnock_75 rfl ?_
            refine r_getR (pc := 76) ok cls8 (sc_sh ho) (k := 9) rfl (Nat.le_of_ble_eq_true rfl) rfl dX8_tryKnock_76 fl_Sc_27 ?_
            refine r_iload_n (pc := 79) ok dX8_tryKnock_79 rfl ?_
            refine r_iload_n (pc := 80) ok dX8_tryKnock_80 rfl ?_
            refine r_iast (pc := 81) ok (sc_s6 ho) (Nat.add_sub_cancel_left _ _) rfl (fun s_ => mx (va_up XX io s_) YY) (pm_l (sc_lt ho) (pm_0 _ _)).1 (pm_l (sc_lt ho) (pm_0 _ _)).2 dX8_tryKnock_81 (fun i9 s10 => ?_)
            refine r_iconst (pc := 82) ok (0 : Int32) dX8_tryKnock_82 ci_0 ?_
            exact r_iret (pc := 83) ok dX8_tryKnock_83 rfl
        · refine r_iconst (pc := 52) ok (2 : Int32) dX8_tryKnock_52 ci_2 ?_
          exact r_iret (pc := 53) ok dX8_tryKnock_53 rfl
      · refine r_iconst (pc := 33) ok (1 : Int32) dX8_tryKnock_33 ci_1 ?_
        exact r_iret (pc := 34) ok dX8_tryKnock_34 rfl
theorem tSc_tryKnock {l : Launch} {G : Gx} {b : Nat} {io : Nat} {XX YY : Nat → Obj} {q : Obj} {sc : Obj} {v1 : Int32} {v2 : Int32} (ho : isSc io) (hr_q : XX (qid io) = q) {r : Int32 × Obj} (hr : fSc_tryKnock q sc v1 v2 = some r) : MetG l G b yX8_tryKnock cX8_tryKnock 3 (some .int) 2 [.ref (b + io), .int v1, .int v2] (mx (va_up XX io sc) YY) (qI G b r.1 (mx (va_up XX io r.2) YY)) := by
  refine met_start [some (.ref (b + io)), some (.int v1), some (.int v2)] (by decide +kernel) (Nat.le_of_ble_eq_true rfl) rfl (fun Z hl ok => ?_)
  clear hl
  exact vSc_tryKnock ok ho hr_q r (by rw [hr]; rfl)
theorem vPa_keep {Z : Cx} {G : Gx} {b : Nat} {YY : Nat → Obj} {X : Nat → Obj} (ok : OK Z G b cX4_keep 1 0 RX4 none) : VO Z G b 1 (fun (r : (Nat → Obj)) => QX Z b (qV G b (mx r YY))) (mx X YY) 0 [some (.ref (b + 100))] [] ((fPa_keep X).bind some) := by
  unfold fPa_keep
  refine r_aload_n (pc := 0) ok dX4_keep_0 rfl ?_
  refine r_getI (pc := 1) ok cls4 sh_100 (k := 2) rfl (Nat.le_of_ble_eq_true rfl) (mx_l (Nat.le_of_ble_eq_true rfl) rfl) dX4_keep_1 fl_Pa_20 ?_
  refine r_bipush (pc := 4) ok (8 : Int32) dX4_keep_4 cb_8 ?_
  refine r_icmp_ge (pc := 6) ok 22 dX4_keep_6 rfl (fun _ => ?_) (fun _ => ?_)
  · refine r_aload_n (pc := 22) ok dX4_keep_22 rfl ?_
    refine r_aload_n (pc := 23) ok dX4_keep_23 rfl ?_
    refine r_getI (pc := 24) ok cls4 sh_100 (k := 1) rfl (Nat.le_of_ble_eq_true rfl) (mx_l (Nat.le_of_ble_eq_true rfl) rfl) dX4_keep_24 fl_Pa_32 ?_
    refine r_iconst (pc := 27) ok (1 : Int32) dX4_keep_27 ci_1 ?_
    refine r_iadd (pc := 28) ok dX4_keep_28 ?_
    refine r_bipush (pc := 29) ok (9 : Int32) dX4_keep_29 cb_9 ?_
    refine r_iremc (pc := 31) ok dX4_keep_31 (by decide +kernel) ?_
    refine r_putG (pc := 32) ok cls4 sh_100 (k := 1) rfl (Nat.le_of_ble_eq_true rfl) (Nat.le_of_ble_eq_true rfl) rfl rfl rfl dX4_keep_32 fl_Pa_32 (fun X1 => ?_)
    exact r_vret (pc := 35) ok dX4_keep_35 rfl
  · refine r_aload_n (pc := 9) ok dX4_keep_9 rfl ?_
    refine r_dup (pc := 10) ok dX4_keep_10 rfl ?_
    refine r_getI (pc := 11) ok cls4 sh_100 (k := 2) rfl (Nat.le_of_ble_eq_true rfl) (mx_l (Nat.le_of_ble_eq_true rfl) rfl) dX4_keep_11 fl_Pa_20 ?_
    refine r_iconst (pc := 14) ok (1 : Int32) dX4_keep_14 ci_1 ?_
    refine r_iadd (pc := 15) ok dX4_keep_15 ?_
    refine r_putG (pc := 16) ok cls4 sh_100 (k := 2) rfl (Nat.le_of_ble_eq_true rfl) (Nat.le_of_ble_eq_true rfl) rfl rfl rfl dX4_keep_16 fl_Pa_20 (fun X2 => ?_)
    refine r_goto (pc := 19) ok 35 dX4_keep_19 rfl ?_
    exact r_vret (pc := 35) ok dX4_keep_35 rfl
theorem tPa_keep {l : Launch} {G : Gx} {b : Nat} {YY : Nat → Obj} {X : Nat → Obj} {r : (Nat → Obj)} (hr : fPa_keep X = some r) : MetG l G b yX4_keep cX4_keep 1 none 0 [.ref (b + 100)] (mx X YY) (qV G b (mx r YY)) := by
  refine met_start [some (.ref (b + 100))] (by decide +kernel) (Nat.le_of_ble_eq_true rfl) rfl (fun Z hl ok => ?_)
  clear hl
  exact vPa_keep ok r (by rw [hr]; rfl)
theorem vPa_keepIfDone {Z : Cx} {G : Gx} {b : Nat} {YY : Nat → Obj} {X : Nat → Obj} {v1 : Int32} (ok : OK Z G b cX4_keepIfDone 2 1 RX4 (some .int)) : VO Z G b 2 (fun (r : Int32 × (Nat → Obj)) => QX Z b (qI G b r.1 (mx r.2 YY))) (mx X YY) 0 [some (.ref (b + 100)), some (.int v1)] [] ((fPa_keepIfDone X v1).bind some) := by
  unfold fPa_keepIfDone
  refine r_iload_n (pc := 0) ok dX4_keepIfDone_0 rfl ?_
  refine r_if_ne (pc := 1) ok 8 dX4_keepIfDone_1 rfl (fun _ => ?_) (fun _ => ?_)
  · refine r_aload_n (pc := 4) ok dX4_keepIfDone_4 rfl ?_
    refine k_V (pc := 5)  (fun r1 => mx r1 YY) (fun r1 hr_ => c_V (n := 0) ok cls4 sh_100 rfl ml_Pa_35 wv_X4_keep yk_X4_keep rfl (Nat.le_of_ble_eq_true rfl) (Nat.le_of_ble_eq_true rfl) (tPa_keep hr_) rfl (Nat.le_of_ble_eq_true rfl) dX4_keepIfDone_5) (fun r1 => ?_)
    refine r_iload_n (pc := 8) ok dX4_keepIfDone_8 rfl ?_
    exact r_iret (pc := 9) ok dX4_keepIfDone_9 rfl
  · refine r_iload_n (pc := 8) ok dX4_keepIfDone_8 rfl ?_
    exact r_iret (pc := 9) ok dX4_keepIfDone_9 rfl
theorem tPa_keepIfDone {l : Launch} {G : Gx} {b : Nat} {YY : Nat → Obj} {X : Nat → Obj} {v1 : Int32} {r : Int32 × (Nat → Obj)} (hr : fPa_keepIfDone X v1 = some r) : MetG l G b yX4_keepIfDone cX4_keepIfDone 2 (some .int) 1 [.ref (b + 100), .int v1] (mx X YY) (qI G b r.1 (mx r.2 YY)) := by
  refine met_start [some (.ref (b + 100)), some (.int v1)] (by decide +kernel) (Nat.le_of_ble_eq_true rfl) rfl (fun Z hl ok => ?_)
  clear hl
  exact vPa_keepIfDone ok r (by rw [hr]; rfl)
theorem vKL_knock {Z : Cx} {G : Gx} {b : Nat} {YY : Nat → Obj} {X : Nat → Obj} {v1 : Int32} {v2 : Int32} (ok : OK Z G b cX11_knock 3 3 RX11 (some .int)) : VO Z G b 3 (fun (r : Int32 × (Nat → Obj)) => QX Z b (qI G b r.1 (mx r.2 YY))) (mx X YY) 0 [some (.ref (b + 0)), some (.int v1), some (.int v2)] [] ((fKL_knock X v1 v2).bind some) := by
  unfold fKL_knock
  refine r_aload_n (pc := 0) ok dX11_knock_0 rfl ?_
  refine r_getR (pc := 1) ok cls11 sh_0 (k := 5) rfl (Nat.le_of_ble_eq_true rfl) rfl dX11_knock_1 fl_KL_41 ?_
  refine r_aload_n (pc := 4) ok dX11_knock_4 rfl ?_
  refine r_getR (pc := 5) ok cls11 sh_0 (k := 1) rfl (Nat.le_of_ble_eq_true rfl) rfl dX11_knock_5 fl_KL_19 ?_
  refine r_getR (pc := 8) ok cls9 sh_4 (k := 1) rfl (Nat.le_of_ble_eq_true rfl) rfl dX11_knock_8 fl_KL_140 ?_
  refine k_V (pc := 11)  (fun r1 => mx r1 YY) (fun r1 hr_ => c_V (n := 1) ok cls4 sh_100 rfl ml_KL_197 wv_X4_note yk_X4_note rfl (Nat.le_of_ble_eq_true rfl) (Nat.le_of_ble_eq_true rfl) (tPa_note hr_) rfl (Nat.le_of_ble_eq_true rfl) dX11_knock_11) (fun r1 => ?_)
  refine r_aload_n (pc := 14) ok dX11_knock_14 rfl ?_
  refine r_getR (pc := 15) ok cls11 sh_0 (k := 5) rfl (Nat.le_of_ble_eq_true rfl) rfl dX11_knock_15 fl_KL_41 ?_
  refine r_aload_n (pc := 18) ok dX11_knock_18 rfl ?_
  refine r_getR (pc := 19) ok cls11 sh_0 (k := 1) rfl (Nat.le_of_ble_eq_true rfl) rfl dX11_knock_19 fl_KL_19 ?_
  refine r_getR (pc := 22) ok cls9 sh_4 (k := 1) rfl (Nat.le_of_ble_eq_true rfl) rfl dX11_knock_22 fl_KL_140 ?_
  refine r_iload_n (pc := 25) ok dX11_knock_25 rfl ?_
  refine r_iload_n (pc := 26) ok dX11_knock_26 rfl ?_
  refine k_I (pc := 27) (fun r2 => r2.1) (fun r2 => mx ((va_up r1 12 r2.2)) YY) (fun r2 hr_ => c_V (n := 2) ok cls8 sh_12 rfl ml_KL_201 wv_X8_tryKnock yk_X8_tryKnock rfl (Nat.le_of_ble_eq_true rfl) (Nat.le_of_ble_eq_true rfl) (met_cast (by rw [up_eta]) rfl (tSc_tryKnock (sc_c (o := 12) (by decide)) (rfl) hr_)) rfl (Nat.le_of_ble_eq_true rfl) dX11_knock_27) (fun r2 => ?_)
  refine r_bndX (wf := (fun x_ => mx x_ YY)) (fun X3 => ?_)
  refine k_I (pc := 30) (fun r4 => r4.1) (fun r4 => mx r4.2 YY) (fun r4 hr_ => c_V (n := 1) ok cls4 sh_100 rfl ml_KL_204 wv_X4_keepIfDone yk_X4_keepIfDone rfl (Nat.le_of_ble_eq_true rfl) (Nat.le_of_ble_eq_true rfl) (tPa_keepIfDone hr_) rfl (Nat.le_of_ble_eq_true rfl) dX11_knock_30) (fun r4 => ?_)
  exact r_iret (pc := 33) ok dX11_knock_33 rfl
theorem tKL_knock {l : Launch} {G : Gx} {b : Nat} {YY : Nat → Obj} {X : Nat → Obj} {v1 : Int32} {v2 : Int32} {r : Int32 × (Nat → Obj)} (hr : fKL_knock X v1 v2 = some r) : MetG l G b yX11_knock cX11_knock 3 (some .int) 3 [.ref (b + 0), .int v1, .int v2] (mx X YY) (qI G b r.1 (mx r.2 YY)) := by
  refine met_start [some (.ref (b + 0)), some (.int v1), some (.int v2)] (by decide +kernel) (Nat.le_of_ble_eq_true rfl) rfl (fun Z hl ok => ?_)
  clear hl
  exact vKL_knock ok r (by rw [hr]; rfl)
theorem vSc_tryGo {Z : Cx} {G : Gx} {b : Nat} {io : Nat} {XX YY : Nat → Obj} {q : Obj} {sc : Obj} {v1 : Int32} {v2 : Int32} (ok : OK Z G b cX8_tryGo 3 1 RX8 (some .int)) (ho : isSc io) (hr_q : XX (qid io) = q) : VO Z G b 3 (fun (r : Int32 × Obj) => QX Z b (qI G b r.1 (mx (va_up XX io r.2) YY))) (mx (va_up XX io sc) YY) 0 [some (.ref (b + io)), some (.int v1), some (.int v2)] [] ((fSc_tryGo q sc v1 v2).bind some) := by
  unfold fSc_tryGo
  refine r_aload_n (pc := 0) ok dX8_tryGo_0 rfl ?_
  refine r_getR (pc := 1) ok cls8 (sc_sh ho) (k := 0) rfl (Nat.le_of_ble_eq_true rfl) rfl dX8_tryGo_1 fl_Sc_42 ?_
  refine r_iload_n (pc := 4) ok dX8_tryGo_4 rfl ?_
  refine k_I (pc := 5) (fun r1 => r1) (fun r1 => mx (va_up XX io sc) YY) (fun r1 hr_ => c_V (n := 1) ok cls5 (qu_sh (qid_qu ho)) rfl ml_Sc_62 wv_X5_hasPerson yk_X5_hasPerson rfl (Nat.le_of_ble_eq_true rfl) (Nat.le_of_ble_eq_true rfl) (tQu_hasPerson (qid_qu ho) ((va_up_ne _ _ (qid_ne ho)).trans (hr_q)) hr_) rfl (Nat.le_of_ble_eq_true rfl) dX8_tryGo_5) (fun r1 => ?_)
  refine r_if_eq (pc := 8) ok 20 dX8_tryGo_8 rfl (fun _ => ?_) (fun _ => ?_)
  · refine r_iconst (pc := 20) ok (-1 : Int32) dX8_tryGo_20 ci_m1 ?_
    exact r_iret (pc := 21) ok dX8_tryGo_21 rfl
  · refine r_iload_n (pc := 11) ok dX8_tryGo_11 rfl ?_
    refine r_if_lt (pc := 12) ok 20 dX8_tryGo_12 rfl (fun _ => ?_) (fun _ => ?_)
    · refine r_iconst (pc := 20) ok (-1 : Int32) dX8_tryGo_20 ci_m1 ?_
      exact r_iret (pc := 21) ok dX8_tryGo_21 rfl
    · refine r_iload_n (pc := 15) ok dX8_tryGo_15 rfl ?_
      refine r_iconst (pc := 16) ok (3 : Int32) dX8_tryGo_16 ci_3 ?_
      refine r_icmp_lt (pc := 17) ok 22 dX8_tryGo_17 rfl (fun _ => ?_) (fun _ => ?_)
      · refine r_aload_n (pc := 22) ok dX8_tryGo_22 rfl ?_
        refine r_getR (pc := 23) ok cls8 (sc_sh ho) (k := 6) rfl (Nat.le_of_ble_eq_true rfl) rfl dX8_tryGo_23 fl_Sc_18 ?_
        refine r_iload_n (pc := 26) ok dX8_tryGo_26 rfl ?_
        refine r_iald (pc := 27) ok (sc_s3 ho) (Nat.add_sub_cancel_left _ _) (mx_l (sc_lt ho) (va_up_self _ _ _)) dX8_tryGo_27 (fun i2 => ?_)
        refine r_if_eq (pc := 28) ok 33 dX8_tryGo_28 rfl (fun _ => ?_) (fun _ => ?_)
        · refine r_aload_n (pc := 33) ok dX8_tryGo_33 rfl ?_
          refine r_getR (pc := 34) ok cls8 (sc_sh ho) (k := 8) rfl (Nat.le_of_ble_eq_true rfl) rfl dX8_tryGo_34 fl_Sc_24 ?_
          refine r_iload_n (pc := 37) ok dX8_tryGo_37 rfl ?_
          refine r_iald (pc := 38) ok (sc_s5 ho) (Nat.add_sub_cancel_left _ _) (mx_l (sc_lt ho) (va_up_self _ _ _)) dX8_tryGo_38 (fun i3 => ?_)
          refine r_iload_n (pc := 39) ok dX8_tryGo_39 rfl ?_
          refine r_icmp_ne (pc := 40) ok 45 dX8_tryGo_40 rfl (fun _ => ?_) (fun _ => ?_)
          · refine r_iconst (pc := 43) ok (2 : Int32) dX8_tryGo_43 ci_2 ?_
            exact r_iret (pc := 44) ok dX8_tryGo_44 rfl
          · refine r_aload_n (pc := 45) ok dX8_tryGo_45 rfl ?_
            refine r_getR (pc := 46) ok cls8 (sc_sh ho) (k := 8) rfl (Nat.le_of_ble_eq_true rfl) rfl dX8_tryGo_46 fl_Sc_24 ?_
            refine r_iload_n (pc := 49) ok dX8_tryGo_49 rfl ?_
            refine r_iload_n (pc := 50) ok dX8_tryGo_50 rfl ?_
            refine r_iast (pc := 51) ok (sc_s5 ho) (Nat.add_sub_cancel_left _ _) rfl (fun s_ => mx (va_up XX io s_) YY) (pm_l (sc_lt ho) (pm_0 _ _)).1 (pm_l (sc_lt ho) (pm_0 _ _)).2 dX8_tryGo_51 (fun i4 s5 => ?_)
            refine r_iconst (pc := 52) ok (0 : Int32) dX8_tryGo_52 ci_0 ?_
            exact r_iret (pc := 53) ok dX8_tryGo_53 rfl
        · refine r_iconst (pc := 31) ok (1 : Int32) dX8_tryGo_31 ci_1 ?_
          exact r_iret (pc := 32) ok dX8_tryGo_32 rfl
      · refine r_iconst (pc := 20) ok (-1 : Int32) dX8_tryGo_20 ci_m1 ?_
        exact r_iret (pc := 21) ok dX8_tryGo_21 rfl
theorem tSc_tryGo {l : Launch} {G : Gx} {b : Nat} {io : Nat} {XX YY : Nat → Obj} {q : Obj} {sc : Obj} {v1 : Int32} {v2 : Int32} (ho : isSc io) (hr_q : XX (qid io) = q) {r : Int32 × Obj} (hr : fSc_tryGo q sc v1 v2 = some r) : MetG l G b yX8_tryGo cX8_tryGo 3 (some .int) 1 [.ref (b + io), .int v1, .int v2] (mx (va_up XX io sc) YY) (qI G b r.1 (mx (va_up XX io r.2) YY)) := by
  refine met_start [some (.ref (b + io)), some (.int v1), some (.int v2)] (by decide +kernel) (Nat.le_of_ble_eq_true rfl) rfl (fun Z hl ok => ?_)
  clear hl
  exact vSc_tryGo ok ho hr_q r (by rw [hr]; rfl)
theorem vKL_go {Z : Cx} {G : Gx} {b : Nat} {YY : Nat → Obj} {X : Nat → Obj} {v1 : Int32} {v2 : Int32} (ok : OK Z G b cX11_go 3 3 RX11 (some .int)) : VO Z G b 3 (fun (r : Int32 × (Nat → Obj)) => QX Z b (qI G b r.1 (mx r.2 YY))) (mx X YY) 0 [some (.ref (b + 0)), some (.int v1), some (.int v2)] [] ((fKL_go X v1 v2).bind some) := by
  unfold fKL_go
  refine r_aload_n (pc := 0) ok dX11_go_0 rfl ?_
  refine r_getR (pc := 1) ok cls11 sh_0 (k := 5) rfl (Nat.le_of_ble_eq_true rfl) rfl dX11_go_1 fl_KL_41 ?_
  refine r_aload_n (pc := 4) ok dX11_go_4 rfl ?_
  refine r_getR (pc := 5) ok cls11 sh_0 (k := 1) rfl (Nat.le_of_ble_eq_true rfl) rfl dX11_go_5 fl_KL_19 ?_
  refine r_getR (pc := 8) ok cls9 sh_4 (k := 1) rfl (Nat.le_of_ble_eq_true rfl) rfl dX11_go_8 fl_KL_140 ?_
  refine k_V (pc := 11)  (fun r1 => mx r1 YY) (fun r1 hr_ => c_V (n := 1) ok cls4 sh_100 rfl ml_KL_197 wv_X4_note yk_X4_note rfl (Nat.le_of_ble_eq_true rfl) (Nat.le_of_ble_eq_true rfl) (tPa_note hr_) rfl (Nat.le_of_ble_eq_true rfl) dX11_go_11) (fun r1 => ?_)
  refine r_aload_n (pc := 14) ok dX11_go_14 rfl ?_
  refine r_getR (pc := 15) ok cls11 sh_0 (k := 5) rfl (Nat.le_of_ble_eq_true rfl) rfl dX11_go_15 fl_KL_41 ?_
  refine r_aload_n (pc := 18) ok dX11_go_18 rfl ?_
  refine r_getR (pc := 19) ok cls11 sh_0 (k := 1) rfl (Nat.le_of_ble_eq_true rfl) rfl dX11_go_19 fl_KL_19 ?_
  refine r_getR (pc := 22) ok cls9 sh_4 (k := 1) rfl (Nat.le_of_ble_eq_true rfl) rfl dX11_go_22 fl_KL_140 ?_
  refine r_iload_n (pc := 25) ok dX11_go_25 rfl ?_
  refine r_iload_n (pc := 26) ok dX11_go_26 rfl ?_
  refine k_I (pc := 27) (fun r2 => r2.1) (fun r2 => mx ((va_up r1 12 r2.2)) YY) (fun r2 hr_ => c_V (n := 2) ok cls8 sh_12 rfl ml_KL_207 wv_X8_tryGo yk_X8_tryGo rfl (Nat.le_of_ble_eq_true rfl) (Nat.le_of_ble_eq_true rfl) (met_cast (by rw [up_eta]) rfl (tSc_tryGo (sc_c (o := 12) (by decide)) (rfl) hr_)) rfl (Nat.le_of_ble_eq_true rfl) dX11_go_27) (fun r2 => ?_)
  refine r_bndX (wf := (fun x_ => mx x_ YY)) (fun X3 => ?_)
  refine k_I (pc := 30) (fun r4 => r4.1) (fun r4 => mx r4.2 YY) (fun r4 hr_ => c_V (n := 1) ok cls4 sh_100 rfl ml_KL_204 wv_X4_keepIfDone yk_X4_keepIfDone rfl (Nat.le_of_ble_eq_true rfl) (Nat.le_of_ble_eq_true rfl) (tPa_keepIfDone hr_) rfl (Nat.le_of_ble_eq_true rfl) dX11_go_30) (fun r4 => ?_)
  exact r_iret (pc := 33) ok dX11_go_33 rfl
theorem tKL_go {l : Launch} {G : Gx} {b : Nat} {YY : Nat → Obj} {X : Nat → Obj} {v1 : Int32} {v2 : Int32} {r : Int32 × (Nat → Obj)} (hr : fKL_go X v1 v2 = some r) : MetG l G b yX11_go cX11_go 3 (some .int) 3 [.ref (b + 0), .int v1, .int v2] (mx X YY) (qI G b r.1 (mx r.2 YY)) := by
  refine met_start [some (.ref (b + 0)), some (.int v1), some (.int v2)] (by decide +kernel) (Nat.le_of_ble_eq_true rfl) rfl (fun Z hl ok => ?_)
  clear hl
  exact vKL_go ok r (by rw [hr]; rfl)
theorem vSc_putInLane {Z : Cx} {G : Gx} {b : Nat} {io : Nat} {XX YY : Nat → Obj} {q : Obj} {sc : Obj} {v1 : Int32} (ok : OK Z G b cX8_putInLane 2 1 RX8 none) (ho : isSc io) (hr_q : XX (qid io) = q) : VO Z G b 2 (fun (r : Obj) => QX Z b (qV G b (mx (va_up XX io r) YY))) (mx (va_up XX io sc) YY) 0 [some (.ref (b + io)), some (.int v1)] [] ((fSc_putInLane q sc v1).bind some) := by
  unfold fSc_putInLane
  refine r_aload_n (pc := 0) ok dX8_putInLane_0 rfl ?_
  refine r_getR (pc := 1) ok cls8 (sc_sh ho) (k := 0) rfl (Nat.le_of_ble_eq_true rfl) rfl dX8_putInLane_1 fl_Sc_42 ?_
  refine r_iload_n (pc := 4) ok dX8_putInLane_4 rfl ?_
  refine k_I (pc := 5) (fun r1 => r1) (fun r1 => mx (va_up XX io sc) YY) (fun r1 hr_ => c_V (n := 1) ok cls5 (qu_sh (qid_qu ho)) rfl ml_Sc_62 wv_X5_hasPerson yk_X5_hasPerson rfl (Nat.le_of_ble_eq_true rfl) (Nat.le_of_ble_eq_true rfl) (tQu_hasPerson (qid_qu ho) ((va_up_ne _ _ (qid_ne ho)).trans (hr_q)) hr_) rfl (Nat.le_of_ble_eq_true rfl) dX8_putInLane_5) (fun r1 => ?_)
  refine r_if_eq (pc := 8) ok 32 dX8_putInLane_8 rfl (fun _ => ?_) (fun _ => ?_)
  · exact r_vret (pc := 32) ok dX8_putInLane_32 rfl
  · refine r_aload_n (pc := 11) ok dX8_putInLane_11 rfl ?_
    refine r_getR (pc := 12) ok cls8 (sc_sh ho) (k := 6) rfl (Nat.le_of_ble_eq_true rfl) rfl dX8_putInLane_12 fl_Sc_18 ?_
    refine r_iload_n (pc := 15) ok dX8_putInLane_15 rfl ?_
    refine r_iconst (pc := 16) ok (0 : Int32) dX8_putInLane_16 ci_0 ?_
    refine r_iast (pc := 17) ok (sc_s3 ho) (Nat.add_sub_cancel_left _ _) rfl (fun s_ => mx (va_up XX io s_) YY) (pm_l (sc_lt ho) (pm_0 _ _)).1 (pm_l (sc_lt ho) (pm_0 _ _)).2 dX8_putInLane_17 (fun i2 s3 => ?_)
    refine r_aload_n (pc := 18) ok dX8_putInLane_18 rfl ?_
    refine r_getR (pc := 19) ok cls8 (sc_sh ho) (k := 9) rfl (Nat.le_of_ble_eq_true rfl) rfl dX8_putInLane_19 fl_Sc_27 ?_
    refine r_iload_n (pc := 22) ok dX8_putInLane_22 rfl ?_
    refine r_iconst (pc := 23) ok (-1 : Int32) dX8_putInLane_23 ci_m1 ?_
    refine r_iast (pc := 24) ok (sc_s6 ho) (Nat.add_sub_cancel_left _ _) rfl (fun s_ => mx (va_up XX io s_) YY) (pm_l (sc_lt ho) (pm_0 _ _)).1 (pm_l (sc_lt ho) (pm_0 _ _)).2 dX8_putInLane_24 (fun i4 s5 => ?_)
    refine r_aload_n (pc := 25) ok dX8_putInLane_25 rfl ?_
    refine r_getR (pc := 26) ok cls8 (sc_sh ho) (k := 10) rfl (Nat.le_of_ble_eq_true rfl) rfl dX8_putInLane_26 fl_Sc_30 ?_
    refine r_iload_n (pc := 29) ok dX8_putInLane_29 rfl ?_
    refine r_iconst (pc := 30) ok (0 : Int32) dX8_putInLane_30 ci_0 ?_
    refine r_iast (pc := 31) ok (sc_s7 ho) (Nat.add_sub_cancel_left _ _) rfl (fun s_ => mx (va_up XX io s_) YY) (pm_l (sc_lt ho) (pm_0 _ _)).1 (pm_l (sc_lt ho) (pm_0 _ _)).2 dX8_putInLane_31 (fun i6 s7 => ?_)
    exact r_vret (pc := 32) ok dX8_putInLane_32 rfl
theorem tSc_putInLane {l : Launch} {G : Gx} {b : Nat} {io : Nat} {XX YY : Nat → Obj} {q : Obj} {sc : Obj} {v1 : Int32} (ho : isSc io) (hr_q : XX (qid io) = q) {r : Obj} (hr : fSc_putInLane q sc v1 = some r) : MetG l G b yX8_putInLane cX8_putInLane 2 none 1 [.ref (b + io), .int v1] (mx (va_up XX io sc) YY) (qV G b (mx (va_up XX io r) YY)) := by
  refine met_start [some (.ref (b + io)), some (.int v1)] (by decide +kernel) (Nat.le_of_ble_eq_true rfl) rfl (fun Z hl ok => ?_)
  clear hl
  exact vSc_putInLane ok ho hr_q r (by rw [hr]; rfl)
theorem vSc_tryQuit {Z : Cx} {G : Gx} {b : Nat} {io : Nat} {XX YY : Nat → Obj} {q : Obj} {sc : Obj} {v1 : Int32} (ok : OK Z G b cX8_tryQuit 2 2 RX8 (some .int)) (ho : isSc io) (hr_q : XX (qid io) = q) : VO Z G b 2 (fun (r : Int32 × Obj) => QX Z b (qI G b r.1 (mx (va_up XX io r.2) YY))) (mx (va_up XX io sc) YY) 0 [some (.ref (b + io)), some (.int v1)] [] ((fSc_tryQuit q sc v1).bind some) := by
  unfold fSc_tryQuit
  refine r_aload_n (pc := 0) ok dX8_tryQuit_0 rfl ?_
  refine r_getR (pc := 1) ok cls8 (sc_sh ho) (k := 0) rfl (Nat.le_of_ble_eq_true rfl) rfl dX8_tryQuit_1 fl_Sc_42 ?_
  refine r_iload_n (pc := 4) ok dX8_tryQuit_4 rfl ?_
  refine k_I (pc := 5) (fun r1 => r1) (fun r1 => mx (va_up XX io sc) YY) (fun r1 hr_ => c_V (n := 1) ok cls5 (qu_sh (qid_qu ho)) rfl ml_Sc_62 wv_X5_hasPerson yk_X5_hasPerson rfl (Nat.le_of_ble_eq_true rfl) (Nat.le_of_ble_eq_true rfl) (tQu_hasPerson (qid_qu ho) ((va_up_ne _ _ (qid_ne ho)).trans (hr_q)) hr_) rfl (Nat.le_of_ble_eq_true rfl) dX8_tryQuit_5) (fun r1 => ?_)
  refine r_if_ne (pc := 8) ok 13 dX8_tryQuit_8 rfl (fun _ => ?_) (fun _ => ?_)
  · refine r_iconst (pc := 11) ok (-1 : Int32) dX8_tryQuit_11 ci_m1 ?_
    exact r_iret (pc := 12) ok dX8_tryQuit_12 rfl
  · refine r_aload_n (pc := 13) ok dX8_tryQuit_13 rfl ?_
    refine r_getR (pc := 14) ok cls8 (sc_sh ho) (k := 6) rfl (Nat.le_of_ble_eq_true rfl) rfl dX8_tryQuit_14 fl_Sc_18 ?_
    refine r_iload_n (pc := 17) ok dX8_tryQuit_17 rfl ?_
    refine r_iald (pc := 18) ok (sc_s3 ho) (Nat.add_sub_cancel_left _ _) (mx_l (sc_lt ho) (va_up_self _ _ _)) dX8_tryQuit_18 (fun i2 => ?_)
    refine r_iconst (pc := 19) ok (1 : Int32) dX8_tryQuit_19 ci_1 ?_
    refine r_icmp_eq (pc := 20) ok 25 dX8_tryQuit_20 rfl (fun _ => ?_) (fun _ => ?_)
    · refine r_aload_n (pc := 25) ok dX8_tryQuit_25 rfl ?_
      refine r_iload_n (pc := 26) ok dX8_tryQuit_26 rfl ?_
      refine k_V (pc := 27)  (fun r3 => mx (va_up XX io r3) YY) (fun r3 hr_ => c_V (n := 1) ok cls8 (sc_sh ho) rfl ml_Sc_112 wv_X8_putInLane yk_X8_putInLane rfl (Nat.le_of_ble_eq_true rfl) (Nat.le_of_ble_eq_true rfl) (tSc_putInLane ho (hr_q) hr_) rfl (Nat.le_of_ble_eq_true rfl) dX8_tryQuit_27) (fun r3 => ?_)
      refine r_iconst (pc := 30) ok (0 : Int32) dX8_tryQuit_30 ci_0 ?_
      exact r_iret (pc := 31) ok dX8_tryQuit_31 rfl
    · refine r_iconst (pc := 23) ok (1 : Int32) dX8_tryQuit_23 ci_1 ?_
      exact r_iret (pc := 24) ok dX8_tryQuit_24 rfl
theorem tSc_tryQuit {l : Launch} {G : Gx} {b : Nat} {io : Nat} {XX YY : Nat → Obj} {q : Obj} {sc : Obj} {v1 : Int32} (ho : isSc io) (hr_q : XX (qid io) = q) {r : Int32 × Obj} (hr : fSc_tryQuit q sc v1 = some r) : MetG l G b yX8_tryQuit cX8_tryQuit 2 (some .int) 2 [.ref (b + io), .int v1] (mx (va_up XX io sc) YY) (qI G b r.1 (mx (va_up XX io r.2) YY)) := by
  refine met_start [some (.ref (b + io)), some (.int v1)] (by decide +kernel) (Nat.le_of_ble_eq_true rfl) rfl (fun Z hl ok => ?_)
  clear hl
  exact vSc_tryQuit ok ho hr_q r (by rw [hr]; rfl)
theorem vKL_quit {Z : Cx} {G : Gx} {b : Nat} {YY : Nat → Obj} {X : Nat → Obj} {v1 : Int32} (ok : OK Z G b cX11_quit 2 3 RX11 (some .int)) : VO Z G b 2 (fun (r : Int32 × (Nat → Obj)) => QX Z b (qI G b r.1 (mx r.2 YY))) (mx X YY) 0 [some (.ref (b + 0)), some (.int v1)] [] ((fKL_quit X v1).bind some) := by
  unfold fKL_quit
  refine r_aload_n (pc := 0) ok dX11_quit_0 rfl ?_
  refine r_getR (pc := 1) ok cls11 sh_0 (k := 5) rfl (Nat.le_of_ble_eq_true rfl) rfl dX11_quit_1 fl_KL_41 ?_
  refine r_aload_n (pc := 4) ok dX11_quit_4 rfl ?_
  refine r_getR (pc := 5) ok cls11 sh_0 (k := 1) rfl (Nat.le_of_ble_eq_true rfl) rfl dX11_quit_5 fl_KL_19 ?_
  refine r_getR (pc := 8) ok cls9 sh_4 (k := 1) rfl (Nat.le_of_ble_eq_true rfl) rfl dX11_quit_8 fl_KL_140 ?_
  refine k_V (pc := 11)  (fun r1 => mx r1 YY) (fun r1 hr_ => c_V (n := 1) ok cls4 sh_100 rfl ml_KL_197 wv_X4_note yk_X4_note rfl (Nat.le_of_ble_eq_true rfl) (Nat.le_of_ble_eq_true rfl) (tPa_note hr_) rfl (Nat.le_of_ble_eq_true rfl) dX11_quit_11) (fun r1 => ?_)
  refine r_aload_n (pc := 14) ok dX11_quit_14 rfl ?_
  refine r_getR (pc := 15) ok cls11 sh_0 (k := 5) rfl (Nat.le_of_ble_eq_true rfl) rfl dX11_quit_15 fl_KL_41 ?_
  refine r_aload_n (pc := 18) ok dX11_quit_18 rfl ?_
  refine r_getR (pc := 19) ok cls11 sh_0 (k := 1) rfl (Nat.le_of_ble_eq_true rfl) rfl dX11_quit_19 fl_KL_19 ?_
  refine r_getR (pc := 22) ok cls9 sh_4 (k := 1) rfl (Nat.le_of_ble_eq_true rfl) rfl dX11_quit_22 fl_KL_140 ?_
  refine r_iload_n (pc := 25) ok dX11_quit_25 rfl ?_
  refine k_I (pc := 26) (fun r2 => r2.1) (fun r2 => mx ((va_up r1 12 r2.2)) YY) (fun r2 hr_ => c_V (n := 1) ok cls8 sh_12 rfl ml_KL_210 wv_X8_tryQuit yk_X8_tryQuit rfl (Nat.le_of_ble_eq_true rfl) (Nat.le_of_ble_eq_true rfl) (met_cast (by rw [up_eta]) rfl (tSc_tryQuit (sc_c (o := 12) (by decide)) (rfl) hr_)) rfl (Nat.le_of_ble_eq_true rfl) dX11_quit_26) (fun r2 => ?_)
  refine r_bndX (wf := (fun x_ => mx x_ YY)) (fun X3 => ?_)
  refine k_I (pc := 29) (fun r4 => r4.1) (fun r4 => mx r4.2 YY) (fun r4 hr_ => c_V (n := 1) ok cls4 sh_100 rfl ml_KL_204 wv_X4_keepIfDone yk_X4_keepIfDone rfl (Nat.le_of_ble_eq_true rfl) (Nat.le_of_ble_eq_true rfl) (tPa_keepIfDone hr_) rfl (Nat.le_of_ble_eq_true rfl) dX11_quit_29) (fun r4 => ?_)
  exact r_iret (pc := 32) ok dX11_quit_32 rfl
theorem tKL_quit {l : Launch} {G : Gx} {b : Nat} {YY : Nat → Obj} {X : Nat → Obj} {v1 : Int32} {r : Int32 × (Nat → Obj)} (hr : fKL_quit X v1 = some r) : MetG l G b yX11_quit cX11_quit 2 (some .int) 3 [.ref (b + 0), .int v1] (mx X YY) (qI G b r.1 (mx r.2 YY)) := by
  refine met_start [some (.ref (b + 0)), some (.int v1)] (by decide +kernel) (Nat.le_of_ble_eq_true rfl) rfl (fun Z hl ok => ?_)
  clear hl
  exact vKL_quit ok r (by rw [hr]; rfl)
theorem vKL_meets {Z : Cx} {G : Gx} {b : Nat} {YY : Nat → Obj} {X : Nat → Obj} {v1 : Int32} {v2 : Int32} (ok : OK Z G b cX11_meets 3 3 RX11 (some .int)) : VO Z G b 3 (fun (r : Int32 × (Nat → Obj)) => QX Z b (qI G b r.1 (mx r.2 YY))) (mx X YY) 0 [some (.ref (b + 0)), some (.int v1), some (.int v2)] [] ((fKL_meets X v1 v2).bind some) := by
  unfold fKL_meets
  refine r_aload_n (pc := 0) ok dX11_meets_0 rfl ?_
  refine r_getR (pc := 1) ok cls11 sh_0 (k := 5) rfl (Nat.le_of_ble_eq_true rfl) rfl dX11_meets_1 fl_KL_41 ?_
  refine r_aload_n (pc := 4) ok dX11_meets_4 rfl ?_
  refine r_getR (pc := 5) ok cls11 sh_0 (k := 1) rfl (Nat.le_of_ble_eq_true rfl) rfl dX11_meets_5 fl_KL_19 ?_
  refine r_getR (pc := 8) ok cls9 sh_4 (k := 1) rfl (Nat.le_of_ble_eq_true rfl) rfl dX11_meets_8 fl_KL_140 ?_
  refine k_V (pc := 11)  (fun r1 => mx r1 YY) (fun r1 hr_ => c_V (n := 1) ok cls4 sh_100 rfl ml_KL_197 wv_X4_note yk_X4_note rfl (Nat.le_of_ble_eq_true rfl) (Nat.le_of_ble_eq_true rfl) (tPa_note hr_) rfl (Nat.le_of_ble_eq_true rfl) dX11_meets_11) (fun r1 => ?_)
  refine r_aload_n (pc := 14) ok dX11_meets_14 rfl ?_
  refine r_getR (pc := 15) ok cls11 sh_0 (k := 5) rfl (Nat.le_of_ble_eq_true rfl) rfl dX11_meets_15 fl_KL_41 ?_
  refine r_aload_n (pc := 18) ok dX11_meets_18 rfl ?_
  refine r_getR (pc := 19) ok cls11 sh_0 (k := 1) rfl (Nat.le_of_ble_eq_true rfl) rfl dX11_meets_19 fl_KL_19 ?_
  refine r_getR (pc := 22) ok cls9 sh_4 (k := 1) rfl (Nat.le_of_ble_eq_true rfl) rfl dX11_meets_22 fl_KL_140 ?_
  refine r_iload_n (pc := 25) ok dX11_meets_25 rfl ?_
  refine r_iload_n (pc := 26) ok dX11_meets_26 rfl ?_
  refine k_I (pc := 27) (fun r2 => r2.1) (fun r2 => mx ((va_up r1 12 r2.2)) YY) (fun r2 hr_ => c_V (n := 2) ok cls8 sh_12 rfl ml_KL_213 wv_X8_tryMeet yk_X8_tryMeet rfl (Nat.le_of_ble_eq_true rfl) (Nat.le_of_ble_eq_true rfl) (met_cast (by rw [up_eta]) rfl (tSc_tryMeet (sc_c (o := 12) (by decide)) (rfl) hr_)) rfl (Nat.le_of_ble_eq_true rfl) dX11_meets_27) (fun r2 => ?_)
  refine r_bndX (wf := (fun x_ => mx x_ YY)) (fun X3 => ?_)
  refine k_I (pc := 30) (fun r4 => r4.1) (fun r4 => mx r4.2 YY) (fun r4 hr_ => c_V (n := 1) ok cls4 sh_100 rfl ml_KL_204 wv_X4_keepIfDone yk_X4_keepIfDone rfl (Nat.le_of_ble_eq_true rfl) (Nat.le_of_ble_eq_true rfl) (tPa_keepIfDone hr_) rfl (Nat.le_of_ble_eq_true rfl) dX11_meets_30) (fun r4 => ?_)
  exact r_iret (pc := 33) ok dX11_meets_33 rfl
theorem tKL_meets {l : Launch} {G : Gx} {b : Nat} {YY : Nat → Obj} {X : Nat → Obj} {v1 : Int32} {v2 : Int32} {r : Int32 × (Nat → Obj)} (hr : fKL_meets X v1 v2 = some r) : MetG l G b yX11_meets cX11_meets 3 (some .int) 3 [.ref (b + 0), .int v1, .int v2] (mx X YY) (qI G b r.1 (mx r.2 YY)) := by
  refine met_start [some (.ref (b + 0)), some (.int v1), some (.int v2)] (by decide +kernel) (Nat.le_of_ble_eq_true rfl) rfl (fun Z hl ok => ?_)
  clear hl
  exact vKL_meets ok r (by rw [hr]; rfl)
theorem vKL_calls {Z : Cx} {G : Gx} {b : Nat} {YY : Nat → Obj} {X : Nat → Obj} {v1 : Int32} {v2 : Int32} (ok : OK Z G b cX11_calls 3 3 RX11 (some .int)) : VO Z G b 3 (fun (r : Int32 × (Nat → Obj)) => QX Z b (qI G b r.1 (mx r.2 YY))) (mx X YY) 0 [some (.ref (b + 0)), some (.int v1), some (.int v2)] [] ((fKL_calls X v1 v2).bind some) := by
  unfold fKL_calls
  refine r_aload_n (pc := 0) ok dX11_calls_0 rfl ?_
  refine r_getR (pc := 1) ok cls11 sh_0 (k := 5) rfl (Nat.le_of_ble_eq_true rfl) rfl dX11_calls_1 fl_KL_41 ?_
  refine r_aload_n (pc := 4) ok dX11_calls_4 rfl ?_
  refine r_getR (pc := 5) ok cls11 sh_0 (k := 1) rfl (Nat.le_of_ble_eq_true rfl) rfl dX11_calls_5 fl_KL_19 ?_
  refine r_getR (pc := 8) ok cls9 sh_4 (k := 1) rfl (Nat.le_of_ble_eq_true rfl) rfl dX11_calls_8 fl_KL_140 ?_
  refine k_V (pc := 11)  (fun r1 => mx r1 YY) (fun r1 hr_ => c_V (n := 1) ok cls4 sh_100 rfl ml_KL_197 wv_X4_note yk_X4_note rfl (Nat.le_of_ble_eq_true rfl) (Nat.le_of_ble_eq_true rfl) (tPa_note hr_) rfl (Nat.le_of_ble_eq_true rfl) dX11_calls_11) (fun r1 => ?_)
  refine r_aload_n (pc := 14) ok dX11_calls_14 rfl ?_
  refine r_getR (pc := 15) ok cls11 sh_0 (k := 5) rfl (Nat.le_of_ble_eq_true rfl) rfl dX11_calls_15 fl_KL_41 ?_
  refine r_aload_n (pc := 18) ok dX11_calls_18 rfl ?_
  refine r_getR (pc := 19) ok cls11 sh_0 (k := 1) rfl (Nat.le_of_ble_eq_true rfl) rfl dX11_calls_19 fl_KL_19 ?_
  refine r_getR (pc := 22) ok cls9 sh_4 (k := 1) rfl (Nat.le_of_ble_eq_true rfl) rfl dX11_calls_22 fl_KL_140 ?_
  refine r_iload_n (pc := 25) ok dX11_calls_25 rfl ?_
  refine r_iload_n (pc := 26) ok dX11_calls_26 rfl ?_
  refine k_I (pc := 27) (fun r2 => r2.1) (fun r2 => mx ((va_up r1 12 r2.2)) YY) (fun r2 hr_ => c_V (n := 2) ok cls8 sh_12 rfl ml_KL_216 wv_X8_tryCall yk_X8_tryCall rfl (Nat.le_of_ble_eq_true rfl) (Nat.le_of_ble_eq_true rfl) (met_cast (by rw [up_eta]) rfl (tSc_tryCall (sc_c (o := 12) (by decide)) (rfl) hr_)) rfl (Nat.le_of_ble_eq_true rfl) dX11_calls_27) (fun r2 => ?_)
  refine r_bndX (wf := (fun x_ => mx x_ YY)) (fun X3 => ?_)
  refine k_I (pc := 30) (fun r4 => r4.1) (fun r4 => mx r4.2 YY) (fun r4 hr_ => c_V (n := 1) ok cls4 sh_100 rfl ml_KL_204 wv_X4_keepIfDone yk_X4_keepIfDone rfl (Nat.le_of_ble_eq_true rfl) (Nat.le_of_ble_eq_true rfl) (tPa_keepIfDone hr_) rfl (Nat.le_of_ble_eq_true rfl) dX11_calls_30) (fun r4 => ?_)
  exact r_iret (pc := 33) ok dX11_calls_33 rfl
theorem tKL_calls {l : Launch} {G : Gx} {b : Nat} {YY : Nat → Obj} {X : Nat → Obj} {v1 : Int32} {v2 : Int32} {r : Int32 × (Nat → Obj)} (hr : fKL_calls X v1 v2 = some r) : MetG l G b yX11_calls cX11_calls 3 (some .int) 3 [.ref (b + 0), .int v1, .int v2] (mx X YY) (qI G b r.1 (mx r.2 YY)) := by
  refine met_start [some (.ref (b + 0)), some (.int v1), some (.int v2)] (by decide +kernel) (Nat.le_of_ble_eq_true rfl) rfl (fun Z hl ok => ?_)
  clear hl
  exact vKL_calls ok r (by rw [hr]; rfl)
theorem vSc_stayOn {Z : Cx} {G : Gx} {b : Nat} {io : Nat} {XX YY : Nat → Obj} {q : Obj} {sc : Obj} {v1 : Int32} (ok : OK Z G b cX8_stayOn 2 2 RX8 none) (ho : isSc io) (hr_q : XX (qid io) = q) : VO Z G b 2 (fun (r : Obj) => QX Z b (qV G b (mx (va_up XX io r) YY))) (mx (va_up XX io sc) YY) 0 [some (.ref (b + io)), some (.int v1)] [] ((fSc_stayOn q sc v1).bind some) := by
  unfold fSc_stayOn
  refine r_aload_n (pc := 0) ok dX8_stayOn_0 rfl ?_
  refine r_getR (pc := 1) ok cls8 (sc_sh ho) (k := 10) rfl (Nat.le_of_ble_eq_true rfl) rfl dX8_stayOn_1 fl_Sc_30 ?_
  refine r_iload_n (pc := 4) ok dX8_stayOn_4 rfl ?_
  refine r_dup2 (pc := 5) ok dX8_stayOn_5 rfl rfl ?_
  refine r_iald (pc := 6) ok (sc_s7 ho) (Nat.add_sub_cancel_left _ _) (mx_l (sc_lt ho) (va_up_self _ _ _)) dX8_stayOn_6 (fun i1 => ?_)
  refine r_iconst (pc := 7) ok (1 : Int32) dX8_stayOn_7 ci_1 ?_
  refine r_isub (pc := 8) ok dX8_stayOn_8 ?_
  refine r_iast (pc := 9) ok (sc_s7 ho) (Nat.add_sub_cancel_left _ _) rfl (fun s_ => mx (va_up XX io s_) YY) (pm_l (sc_lt ho) (pm_0 _ _)).1 (pm_l (sc_lt ho) (pm_0 _ _)).2 dX8_stayOn_9 (fun i2 s3 => ?_)
  refine r_aload_n (pc := 10) ok dX8_stayOn_10 rfl ?_
  refine r_getR (pc := 11) ok cls8 (sc_sh ho) (k := 10) rfl (Nat.le_of_ble_eq_true rfl) rfl dX8_stayOn_11 fl_Sc_30 ?_
  refine r_iload_n (pc := 14) ok dX8_stayOn_14 rfl ?_
  refine r_iald (pc := 15) ok (sc_s7 ho) (Nat.add_sub_cancel_left _ _) (mx_l (sc_lt ho) (va_up_self _ _ _)) dX8_stayOn_15 (fun i4 => ?_)
  refine r_if_gt (pc := 16) ok 24 dX8_stayOn_16 rfl (fun _ => ?_) (fun _ => ?_)
  · exact r_vret (pc := 24) ok dX8_stayOn_24 rfl
  · refine r_aload_n (pc := 19) ok dX8_stayOn_19 rfl ?_
    refine r_iload_n (pc := 20) ok dX8_stayOn_20 rfl ?_
    refine k_V (pc := 21)  (fun r5 => mx (va_up XX io r5) YY) (fun r5 hr_ => c_V (n := 1) ok cls8 (sc_sh ho) rfl ml_Sc_112 wv_X8_putInLane yk_X8_putInLane rfl (Nat.le_of_ble_eq_true rfl) (Nat.le_of_ble_eq_true rfl) (tSc_putInLane ho (hr_q) hr_) rfl (Nat.le_of_ble_eq_true rfl) dX8_stayOn_21) (fun r5 => ?_)
    exact r_vret (pc := 24) ok dX8_stayOn_24 rfl
theorem tSc_stayOn {l : Launch} {G : Gx} {b : Nat} {io : Nat} {XX YY : Nat → Obj} {q : Obj} {sc : Obj} {v1 : Int32} (ho : isSc io) (hr_q : XX (qid io) = q) {r : Obj} (hr : fSc_stayOn q sc v1 = some r) : MetG l G b yX8_stayOn cX8_stayOn 2 none 2 [.ref (b + io), .int v1] (mx (va_up XX io sc) YY) (qV G b (mx (va_up XX io r) YY)) := by
  refine met_start [some (.ref (b + io)), some (.int v1)] (by decide +kernel) (Nat.le_of_ble_eq_true rfl) rfl (fun Z hl ok => ?_)
  clear hl
  exact vSc_stayOn ok ho hr_q r (by rw [hr]; rfl)
theorem wSc_walkOn_J64 {Z : Cx} {G : Gx} {b : Nat} {io : Nat} {XX YY : Nat → Obj} {q : Obj} {sc : Obj} {v1 : Int32} (ok : OK Z G b cX8_walkOn 3 0 RX8 none) (ho : isSc io) (hr_q : XX (qid io) = q) : VO Z G b 3 (fun (r : Obj) => QX Z b (qV G b (mx (va_up XX io r) YY))) (mx (va_up XX io sc) YY) 64 [some (.ref (b + io)), some (.int v1), none] [] ((fSc_walkOn_J64 sc v1).bind some) := by
  unfold fSc_walkOn_J64
  refine r_aload_n (pc := 64) ok dX8_walkOn_64 rfl ?_
  refine r_getR (pc := 65) ok cls8 (sc_sh ho) (k := 8) rfl (Nat.le_of_ble_eq_true rfl) rfl dX8_walkOn_65 fl_Sc_24 ?_
  refine r_iload_n (pc := 68) ok dX8_walkOn_68 rfl ?_
  refine r_aload_n (pc := 69) ok dX8_walkOn_69 rfl ?_
  refine r_getR (pc := 70) ok cls8 (sc_sh ho) (k := 8) rfl (Nat.le_of_ble_eq_true rfl) rfl dX8_walkOn_70 fl_Sc_24 ?_
  refine r_iload_n (pc := 73) ok dX8_walkOn_73 rfl ?_
  refine r_iald (pc := 74) ok (sc_s5 ho) (Nat.add_sub_cancel_left _ _) (mx_l (sc_lt ho) (va_up_self _ _ _)) dX8_walkOn_74 (fun i4 => ?_)
  refine r_if_ne (pc := 75) ok 82 dX8_walkOn_75 rfl (fun _ => ?_) (fun _ => ?_)
  · refine r_iconst (pc := 78) ok (1 : Int32) dX8_walkOn_78 ci_1 ?_
    refine r_goto (pc := 79) ok 83 dX8_walkOn_79 rfl ?_
    refine r_iast (pc := 83) ok (sc_s5 ho) (Nat.add_sub_cancel_left _ _) rfl (fun s_ => mx (va_up XX io s_) YY) (pm_l (sc_lt ho) (pm_0 _ _)).1 (pm_l (sc_lt ho) (pm_0 _ _)).2 dX8_walkOn_83 (fun i5 s6 => ?_)
    refine r_goto (pc := 84) ok 94 dX8_walkOn_84 rfl ?_
    exact r_vret (pc := 94) ok dX8_walkOn_94 rfl
  · refine r_iconst (pc := 82) ok (0 : Int32) dX8_walkOn_82 ci_0 ?_
    refine r_iast (pc := 83) ok (sc_s5 ho) (Nat.add_sub_cancel_left _ _) rfl (fun s_ => mx (va_up XX io s_) YY) (pm_l (sc_lt ho) (pm_0 _ _)).1 (pm_l (sc_lt ho) (pm_0 _ _)).2 dX8_walkOn_83 (fun i7 s8 => ?_)
    refine r_goto (pc := 84) ok 94 dX8_walkOn_84 rfl ?_
    exact r_vret (pc := 94) ok dX8_walkOn_94 rfl
theorem wSc_walkOn_J48 {Z : Cx} {G : Gx} {b : Nat} {io : Nat} {XX YY : Nat → Obj} {q : Obj} {sc : Obj} {v1 : Int32} {k0 : Int32} (ok : OK Z G b cX8_walkOn 3 0 RX8 none) (ho : isSc io) (hr_q : XX (qid io) = q) : VO Z G b 3 (fun (r : Obj) => QX Z b (qV G b (mx (va_up XX io r) YY))) (mx (va_up XX io sc) YY) 48 [some (.ref (b + io)), some (.int v1), none] [.int k0] ((fSc_walkOn_J48 q sc v1 k0).bind some) := by
  unfold fSc_walkOn_J48
  refine r_istore_n (pc := 48) ok dX8_walkOn_48 (Nat.le_of_ble_eq_true rfl) rfl ?_
  refine r_iload_n (pc := 49) ok dX8_walkOn_49 rfl ?_
  refine r_if_lt (pc := 50) ok 64 dX8_walkOn_50 rfl (fun _ => ?_) (fun _ => ?_)
  · refine r_lv (lk_s (lk_s (lk_n lk_0 _) _) _) ?_
    exact wSc_walkOn_J64 ok ho hr_q
  · refine r_iload_n (pc := 53) ok dX8_walkOn_53 rfl ?_
    refine r_aload_n (pc := 54) ok dX8_walkOn_54 rfl ?_
    refine r_getR (pc := 55) ok cls8 (sc_sh ho) (k := 0) rfl (Nat.le_of_ble_eq_true rfl) rfl dX8_walkOn_55 fl_Sc_42 ?_
    refine r_getI (pc := 58) ok cls5 (qu_sh (qid_qu ho)) (k := 0) rfl (Nat.le_of_ble_eq_true rfl) (mx_l (qu_lt (qid_qu ho)) ((va_up_ne _ _ (qid_ne ho)).trans (hr_q))) dX8_walkOn_58 fl_Sc_165 ?_
    refine r_icmp_lt (pc := 61) ok 87 dX8_walkOn_61 rfl (fun _ => ?_) (fun _ => ?_)
    · refine r_aload_n (pc := 87) ok dX8_walkOn_87 rfl ?_
      refine r_getR (pc := 88) ok cls8 (sc_sh ho) (k := 7) rfl (Nat.le_of_ble_eq_true rfl) rfl dX8_walkOn_88 fl_Sc_21 ?_
      refine r_iload_n (pc := 91) ok dX8_walkOn_91 rfl ?_
      refine r_iload_n (pc := 92) ok dX8_walkOn_92 rfl ?_
      refine r_iast (pc := 93) ok (sc_s4 ho) (Nat.add_sub_cancel_left _ _) rfl (fun s_ => mx (va_up XX io s_) YY) (pm_l (sc_lt ho) (pm_0 _ _)).1 (pm_l (sc_lt ho) (pm_0 _ _)).2 dX8_walkOn_93 (fun i9 s10 => ?_)
      exact r_vret (pc := 94) ok dX8_walkOn_94 rfl
    · refine r_lv (lk_s (lk_s (lk_n lk_0 _) _) _) ?_
      exact wSc_walkOn_J64 ok ho hr_q
theorem wSc_walkOn_J20 {Z : Cx} {G : Gx} {b : Nat} {io : Nat} {XX YY : Nat → Obj} {q : Obj} {sc : Obj} {v1 : Int32} (ok : OK Z G b cX8_walkOn 3 0 RX8 none) (ho : isSc io) (hr_q : XX (qid io) = q) : VO Z G b 3 (fun (r : Obj) => QX Z b (qV G b (mx (va_up XX io r) YY))) (mx (va_up XX io sc) YY) 20 [some (.ref (b + io)), some (.int v1), none] [] ((fSc_walkOn_J20 q sc v1).bind some) := by
  unfold fSc_walkOn_J20
  refine r_aload_n (pc := 20) ok dX8_walkOn_20 rfl ?_
  refine r_getR (pc := 21) ok cls8 (sc_sh ho) (k := 8) rfl (Nat.le_of_ble_eq_true rfl) rfl dX8_walkOn_21 fl_Sc_24 ?_
  refine r_iload_n (pc := 24) ok dX8_walkOn_24 rfl ?_
  refine r_iald (pc := 25) ok (sc_s5 ho) (Nat.add_sub_cancel_left _ _) (mx_l (sc_lt ho) (va_up_self _ _ _)) dX8_walkOn_25 (fun i2 => ?_)
  refine r_if_ne (pc := 26) ok 40 dX8_walkOn_26 rfl (fun _ => ?_) (fun _ => ?_)
  · refine r_aload_n (pc := 29) ok dX8_walkOn_29 rfl ?_
    refine r_getR (pc := 30) ok cls8 (sc_sh ho) (k := 7) rfl (Nat.le_of_ble_eq_true rfl) rfl dX8_walkOn_30 fl_Sc_21 ?_
    refine r_iload_n (pc := 33) ok dX8_walkOn_33 rfl ?_
    refine r_iald (pc := 34) ok (sc_s4 ho) (Nat.add_sub_cancel_left _ _) (mx_l (sc_lt ho) (va_up_self _ _ _)) dX8_walkOn_34 (fun i3 => ?_)
    refine r_iconst (pc := 35) ok (1 : Int32) dX8_walkOn_35 ci_1 ?_
    refine r_iadd (pc := 36) ok dX8_walkOn_36 ?_
    refine r_goto (pc := 37) ok 48 dX8_walkOn_37 rfl ?_
    exact wSc_walkOn_J48 ok ho hr_q
  · refine r_aload_n (pc := 40) ok dX8_walkOn_40 rfl ?_
    refine r_getR (pc := 41) ok cls8 (sc_sh ho) (k := 7) rfl (Nat.le_of_ble_eq_true rfl) rfl dX8_walkOn_41 fl_Sc_21 ?_
    refine r_iload_n (pc := 44) ok dX8_walkOn_44 rfl ?_
    refine r_iald (pc := 45) ok (sc_s4 ho) (Nat.add_sub_cancel_left _ _) (mx_l (sc_lt ho) (va_up_self _ _ _)) dX8_walkOn_45 (fun i11 => ?_)
    refine r_iconst (pc := 46) ok (1 : Int32) dX8_walkOn_46 ci_1 ?_
    refine r_isub (pc := 47) ok dX8_walkOn_47 ?_
    exact wSc_walkOn_J48 ok ho hr_q
theorem vSc_walkOn {Z : Cx} {G : Gx} {b : Nat} {io : Nat} {XX YY : Nat → Obj} {q : Obj} {sc : Obj} {v1 : Int32} (ok : OK Z G b cX8_walkOn 3 0 RX8 none) (ho : isSc io) (hr_q : XX (qid io) = q) : VO Z G b 3 (fun (r : Obj) => QX Z b (qV G b (mx (va_up XX io r) YY))) (mx (va_up XX io sc) YY) 0 [some (.ref (b + io)), some (.int v1), none] [] ((fSc_walkOn q sc v1).bind some) := by
  unfold fSc_walkOn
  refine r_aload_n (pc := 0) ok dX8_walkOn_0 rfl ?_
  refine r_getR (pc := 1) ok cls8 (sc_sh ho) (k := 8) rfl (Nat.le_of_ble_eq_true rfl) rfl dX8_walkOn_1 fl_Sc_24 ?_
  refine r_iload_n (pc := 4) ok dX8_walkOn_4 rfl ?_
  refine r_iald (pc := 5) ok (sc_s5 ho) (Nat.add_sub_cancel_left _ _) (mx_l (sc_lt ho) (va_up_self _ _ _)) dX8_walkOn_5 (fun i1 => ?_)
  refine r_if_eq (pc := 6) ok 20 dX8_walkOn_6 rfl (fun _ => ?_) (fun _ => ?_)
  · exact wSc_walkOn_J20 ok ho hr_q
  · refine r_aload_n (pc := 9) ok dX8_walkOn_9 rfl ?_
    refine r_getR (pc := 10) ok cls8 (sc_sh ho) (k := 8) rfl (Nat.le_of_ble_eq_true rfl) rfl dX8_walkOn_10 fl_Sc_24 ?_
    refine r_iload_n (pc := 13) ok dX8_walkOn_13 rfl ?_
    refine r_iald (pc := 14) ok (sc_s5 ho) (Nat.add_sub_cancel_left _ _) (mx_l (sc_lt ho) (va_up_self _ _ _)) dX8_walkOn_14 (fun i12 => ?_)
    refine r_iconst (pc := 15) ok (1 : Int32) dX8_walkOn_15 ci_1 ?_
    refine r_icmp_eq (pc := 16) ok 20 dX8_walkOn_16 rfl (fun _ => ?_) (fun _ => ?_)
    · exact wSc_walkOn_J20 ok ho hr_q
    · exact r_vret (pc := 19) ok dX8_walkOn_19 rfl
theorem tSc_walkOn {l : Launch} {G : Gx} {b : Nat} {io : Nat} {XX YY : Nat → Obj} {q : Obj} {sc : Obj} {v1 : Int32} (ho : isSc io) (hr_q : XX (qid io) = q) {r : Obj} (hr : fSc_walkOn q sc v1 = some r) : MetG l G b yX8_walkOn cX8_walkOn 3 none 0 [.ref (b + io), .int v1] (mx (va_up XX io sc) YY) (qV G b (mx (va_up XX io r) YY)) := by
  refine met_start [some (.ref (b + io)), some (.int v1), none] (by decide +kernel) (Nat.le_of_ble_eq_true rfl) rfl (fun Z hl ok => ?_)
  clear hl
  exact vSc_walkOn ok ho hr_q r (by rw [hr]; rfl)
theorem wSc_dropCall_L2 {Z : Cx} {G : Gx} {b : Nat} {io : Nat} {XX YY : Nat → Obj} (ok : OK Z G b cX8_dropCall 3 0 RX8 none) (ho : isSc io) {K : ((Int32 × Obj) ⊕ (Obj)) → Option (Obj)} (hc : ∀ (a : Int32 × Obj), VO Z G b 3 (fun (r : Obj) => QX Z b (qV G b (mx (va_up XX io r) YY))) (mx (va_up XX io a.2) YY) 2 [some (.ref (b + io)), none, some (.int a.1)] [] (K (.inl a))) (hx : ∀ (e : Obj), VO Z G b 3 (fun (r : Obj) => QX Z b (qV G b (mx (va_up XX io r) YY))) (mx (va_up XX io e) YY) 58 [some (.ref (b + io)), none, none] [] (K (.inr e))) : ∀ (a : Int32 × Obj), VO Z G b 3 (fun (r : Obj) => QX Z b (qV G b (mx (va_up XX io r) YY))) (mx (va_up XX io a.2) YY) 2 [some (.ref (b + io)), none, some (.int a.1)] [] ((fSc_dropCall_L2 a).bind K) := by
  intro a
  unfold fSc_dropCall_L2
  refine r_iload_n (pc := 2) ok dX8_dropCall_2 rfl ?_
  refine r_if_lt (pc := 3) ok 58 dX8_dropCall_3 rfl (fun _ => ?_) (fun _ => ?_)
  · refine r_lv (lk_s (lk_n (lk_n lk_0 _) _) _) ?_
    exact hx a.2
  · refine r_iload_n (pc := 6) ok dX8_dropCall_6 rfl ?_
    refine r_iconst (pc := 7) ok (1 : Int32) dX8_dropCall_7 ci_1 ?_
    refine r_iadd (pc := 8) ok dX8_dropCall_8 ?_
    refine r_aload_n (pc := 9) ok dX8_dropCall_9 rfl ?_
    refine r_getI (pc := 10) ok cls8 (sc_sh ho) (k := 3) rfl (Nat.le_of_ble_eq_true rfl) (mx_l (sc_lt ho) (va_up_self _ _ _)) dX8_dropCall_10 fl_Sc_53 ?_
    refine r_icmp_ge (pc := 13) ok 58 dX8_dropCall_13 rfl (fun _ => ?_) (fun _ => ?_)
    · refine r_lv (lk_s (lk_n (lk_n lk_0 _) _) _) ?_
      exact hx a.2
    · refine r_iload_n (pc := 16) ok dX8_dropCall_16 rfl ?_
      refine r_iconst (pc := 17) ok (1 : Int32) dX8_dropCall_17 ci_1 ?_
      refine r_iadd (pc := 18) ok dX8_dropCall_18 ?_
      refine r_bipush (pc := 19) ok (12 : Int32) dX8_dropCall_19 cb_12 ?_
      refine r_icmp_ge (pc := 21) ok 58 dX8_dropCall_21 rfl (fun _ => ?_) (fun _ => ?_)
      · refine r_lv (lk_s (lk_n (lk_n lk_0 _) _) _) ?_
        exact hx a.2
      · refine r_aload_n (pc := 24) ok dX8_dropCall_24 rfl ?_
        refine r_getR (pc := 25) ok cls8 (sc_sh ho) (k := 4) rfl (Nat.le_of_ble_eq_true rfl) rfl dX8_dropCall_25 fl_Sc_9 ?_
        refine r_iload_n (pc := 28) ok dX8_dropCall_28 rfl ?_
        refine r_aload_n (pc := 29) ok dX8_dropCall_29 rfl ?_
        refine r_getR (pc := 30) ok cls8 (sc_sh ho) (k := 4) rfl (Nat.le_of_ble_eq_true rfl) rfl dX8_dropCall_30 fl_Sc_9 ?_
        refine r_iload_n (pc := 33) ok dX8_dropCall_33 rfl ?_
        refine r_iconst (pc := 34) ok (1 : Int32) dX8_dropCall_34 ci_1 ?_
        refine r_iadd (pc := 35) ok dX8_dropCall_35 ?_
        refine r_iald (pc := 36) ok (sc_s1 ho) (Nat.add_sub_cancel_left _ _) (mx_l (sc_lt ho) (va_up_self _ _ _)) dX8_dropCall_36 (fun i1 => ?_)
        refine r_iast (pc := 37) ok (sc_s1 ho) (Nat.add_sub_cancel_left _ _) rfl (fun s_ => mx (va_up XX io s_) YY) (pm_l (sc_lt ho) (pm_0 _ _)).1 (pm_l (sc_lt ho) (pm_0 _ _)).2 dX8_dropCall_37 (fun i2 s3 => ?_)
        refine r_aload_n (pc := 38) ok dX8_dropCall_38 rfl ?_
        refine r_getR (pc := 39) ok cls8 (sc_sh ho) (k := 5) rfl (Nat.le_of_ble_eq_true rfl) rfl dX8_dropCall_39 fl_Sc_15 ?_
        refine r_iload_n (pc := 42) ok dX8_dropCall_42 rfl ?_
        refine r_aload_n (pc := 43) ok dX8_dropCall_43 rfl ?_
        refine r_getR (pc := 44) ok cls8 (sc_sh ho) (k := 5) rfl (Nat.le_of_ble_eq_true rfl) rfl dX8_dropCall_44 fl_Sc_15 ?_
        refine r_iload_n (pc := 47) ok dX8_dropCall_47 rfl ?_
        refine r_iconst (pc := 48) ok (1 : Int32) dX8_dropCall_48 ci_1 ?_
        refine r_iadd (pc := 49) ok dX8_dropCall_49 ?_
        refine r_iald (pc := 50) ok (sc_s2 ho) (Nat.add_sub_cancel_left _ _) (mx_l (sc_lt ho) (va_up_self _ _ _)) dX8_dropCall_50 (fun i4 => ?_)
        refine r_iast (pc := 51) ok (sc_s2 ho) (Nat.add_sub_cancel_left _ _) rfl (fun s_ => mx (va_up XX io s_) YY) (pm_l (sc_lt ho) (pm_0 _ _)).1 (pm_l (sc_lt ho) (pm_0 _ _)).2 dX8_dropCall_51 (fun i5 s6 => ?_)
        refine r_iinc (pc := 52) ok (1 : Int32) dX8_dropCall_52 ci_1 rfl (Nat.le_of_ble_eq_true rfl) rfl ?_
        refine r_goto (pc := 55) ok 2 dX8_dropCall_55 rfl ?_
        exact hc ((a.1 + (1 : Int32)), s6)
theorem vSc_dropCall {Z : Cx} {G : Gx} {b : Nat} {io : Nat} {XX YY : Nat → Obj} {sc : Obj} {v1 : Int32} (ok : OK Z G b cX8_dropCall 3 0 RX8 none) (ho : isSc io) : VO Z G b 3 (fun (r : Obj) => QX Z b (qV G b (mx (va_up XX io r) YY))) (mx (va_up XX io sc) YY) 0 [some (.ref (b + io)), some (.int v1), none] [] ((fSc_dropCall sc v1).bind some) := by
  unfold fSc_dropCall
  refine r_iload_n (pc := 0) ok dX8_dropCall_0 rfl ?_
  refine r_istore_n (pc := 1) ok dX8_dropCall_1 (Nat.le_of_ble_eq_true rfl) rfl ?_
  refine r_lv (lk_s (lk_n (lk_s lk_0 _) _) _) ?_
  refine r_iter (P := fun (a2 : Int32 × Obj) o => VO Z G b 3 (fun (r : Obj) => QX Z b (qV G b (mx (va_up XX io r) YY))) (mx (va_up XX io a2.2) YY) 2 [some (.ref (b + io)), none, some (.int a2.1)] [] o) (E := fun (e_2 : Obj) o => VO Z G b 3 (fun (r : Obj) => QX Z b (qV G b (mx (va_up XX io r) YY))) (mx (va_up XX io e_2) YY) 58 [some (.ref (b + io)), none, none] [] o) (fun _ => r_none) (fun K hc hx => wSc_dropCall_L2 ok ho (K := K) hc hx) (fun e7 => ?_) FU (v1, sc)
  refine r_aload_n (pc := 58) ok dX8_dropCall_58 rfl ?_
  refine r_dup (pc := 59) ok dX8_dropCall_59 rfl ?_
  refine r_getI (pc := 60) ok cls8 (sc_sh ho) (k := 3) rfl (Nat.le_of_ble_eq_true rfl) (mx_l (sc_lt ho) (va_up_self _ _ _)) dX8_dropCall_60 fl_Sc_53 ?_
  refine r_iconst (pc := 63) ok (1 : Int32) dX8_dropCall_63 ci_1 ?_
  refine r_isub (pc := 64) ok dX8_dropCall_64 ?_
  refine r_putI (pc := 65) ok cls8 (sc_sh ho) (k := 3) rfl (Nat.le_of_ble_eq_true rfl) (fun s_ => mx (va_up XX io s_) YY) (pm_l (sc_lt ho) (pm_0 _ _)).1 (pm_l (sc_lt ho) (pm_0 _ _)).2 rfl rfl rfl dX8_dropCall_65 fl_Sc_53 (fun s8 => ?_)
  exact r_vret (pc := 68) ok dX8_dropCall_68 rfl
theorem tSc_dropCall {l : Launch} {G : Gx} {b : Nat} {io : Nat} {XX YY : Nat → Obj} {sc : Obj} {v1 : Int32} (ho : isSc io) {r : Obj} (hr : fSc_dropCall sc v1 = some r) : MetG l G b yX8_dropCall cX8_dropCall 3 none 0 [.ref (b + io), .int v1] (mx (va_up XX io sc) YY) (qV G b (mx (va_up XX io r) YY)) := by
  refine met_start [some (.ref (b + io)), some (.int v1), none] (by decide +kernel) (Nat.le_of_ble_eq_true rfl) rfl (fun Z hl ok => ?_)
  clear hl
  exact vSc_dropCall ok ho r (by rw [hr]; rfl)
theorem wSc_callAtDoor_L2 {Z : Cx} {G : Gx} {b : Nat} {io : Nat} {XX YY : Nat → Obj} {q : Obj} {sc : Obj} {v1 : Int32} (ok : OK Z G b cX8_callAtDoor 3 2 RX8 none) (ho : isSc io) (hr_q : XX (qid io) = q) {K : ((Int32) ⊕ ((Unit) ⊕ (Obj))) → Option (Obj)} (hc : ∀ (a : Int32), VO Z G b 3 (fun (r : Obj) => QX Z b (qV G b (mx (va_up XX io r) YY))) (mx (va_up XX io sc) YY) 2 [some (.ref (b + io)), some (.int v1), some (.int a)] [] (K (.inl a))) (hx : ∀ (z : (Unit) ⊕ (Obj)), (∀ (e : Unit), z = .inl e → VO Z G b 3 (fun (r : Obj) => QX Z b (qV G b (mx (va_up XX io r) YY))) (mx (va_up XX io sc) YY) 79 [none, none, none] [] (K (.inr z))) ∧ (∀ (r : Obj), z = .inr r → K (.inr z) = some r)) : ∀ (a : Int32), VO Z G b 3 (fun (r : Obj) => QX Z b (qV G b (mx (va_up XX io r) YY))) (mx (va_up XX io sc) YY) 2 [some (.ref (b + io)), some (.int v1), some (.int a)] [] ((fSc_callAtDoor_L2 q sc v1 a).bind K) := by
  intro a
  unfold fSc_callAtDoor_L2
  refine r_iload_n (pc := 2) ok dX8_callAtDoor_2 rfl ?_
  refine r_aload_n (pc := 3) ok dX8_callAtDoor_3 rfl ?_
  refine r_getI (pc := 4) ok cls8 (sc_sh ho) (k := 3) rfl (Nat.le_of_ble_eq_true rfl) (mx_l (sc_lt ho) (va_up_self _ _ _)) dX8_callAtDoor_4 fl_Sc_53 ?_
  refine r_icmp_ge (pc := 7) ok 79 dX8_callAtDoor_7 rfl (fun _ => ?_) (fun _ => ?_)
  · refine r_lv (lk_n (lk_n (lk_n lk_0 _) _) _) ?_
    exact (hx (.inl ())).1 _ rfl
  · refine r_iload_n (pc := 10) ok dX8_callAtDoor_10 rfl ?_
    refine r_bipush (pc := 11) ok (12 : Int32) dX8_callAtDoor_11 cb_12 ?_
    refine r_icmp_ge (pc := 13) ok 79 dX8_callAtDoor_13 rfl (fun _ => ?_) (fun _ => ?_)
    · refine r_lv (lk_n (lk_n (lk_n lk_0 _) _) _) ?_
      exact (hx (.inl ())).1 _ rfl
    · refine r_aload_n (pc := 16) ok dX8_callAtDoor_16 rfl ?_
      refine r_getR (pc := 17) ok cls8 (sc_sh ho) (k := 4) rfl (Nat.le_of_ble_eq_true rfl) rfl dX8_callAtDoor_17 fl_Sc_9 ?_
      refine r_iload_n (pc := 20) ok dX8_callAtDoor_20 rfl ?_
      refine r_iald (pc := 21) ok (sc_s1 ho) (Nat.add_sub_cancel_left _ _) (mx_l (sc_lt ho) (va_up_self _ _ _)) dX8_callAtDoor_21 (fun i1 => ?_)
      refine r_iload_n (pc := 22) ok dX8_callAtDoor_22 rfl ?_
      refine r_icmp_ne (pc := 23) ok 73 dX8_callAtDoor_23 rfl (fun _ => ?_) (fun _ => ?_)
      · refine r_aload_n (pc := 26) ok dX8_callAtDoor_26 rfl ?_
        refine r_getR (pc := 27) ok cls8 (sc_sh ho) (k := 0) rfl (Nat.le_of_ble_eq_true rfl) rfl dX8_callAtDoor_27 fl_Sc_42 ?_
        refine r_aload_n (pc := 30) ok dX8_callAtDoor_30 rfl ?_
        refine r_getR (pc := 31) ok cls8 (sc_sh ho) (k := 5) rfl (Nat.le_of_ble_eq_true rfl) rfl dX8_callAtDoor_31 fl_Sc_15 ?_
        refine r_iload_n (pc := 34) ok dX8_callAtDoor_34 rfl ?_
        refine r_iald (pc := 35) ok (sc_s2 ho) (Nat.add_sub_cancel_left _ _) (mx_l (sc_lt ho) (va_up_self _ _ _)) dX8_callAtDoor_35 (fun i2 => ?_)
        refine k_I (pc := 36) (fun r3 => r3) (fun r3 => mx (va_up XX io sc) YY) (fun r3 hr_ => c_V (n := 1) ok cls5 (qu_sh (qid_qu ho)) rfl ml_Sc_109 wv_X5_placeOf yk_X5_placeOf rfl (Nat.le_of_ble_eq_true rfl) (Nat.le_of_ble_eq_true rfl) (tQu_placeOf (qid_qu ho) ((va_up_ne _ _ (qid_ne ho)).trans (hr_q)) hr_) rfl (Nat.le_of_ble_eq_true rfl) dX8_callAtDoor_36) (fun r3 => ?_)
        refine r_aload_n (pc := 39) ok dX8_callAtDoor_39 rfl ?_
        refine r_getR (pc := 40) ok cls8 (sc_sh ho) (k := 7) rfl (Nat.le_of_ble_eq_true rfl) rfl dX8_callAtDoor_40 fl_Sc_21 ?_
        refine r_iload_n (pc := 43) ok dX8_callAtDoor_43 rfl ?_
        refine r_iald (pc := 44) ok (sc_s4 ho) (Nat.add_sub_cancel_left _ _) (mx_l (sc_lt ho) (va_up_self _ _ _)) dX8_callAtDoor_44 (fun i4 => ?_)
        refine r_icmp_ne (pc := 45) ok 73 dX8_callAtDoor_45 rfl (fun _ => ?_) (fun _ => ?_)
        · refine r_aload_n (pc := 48) ok dX8_callAtDoor_48 rfl ?_
          refine r_getR (pc := 49) ok cls8 (sc_sh ho) (k := 6) rfl (Nat.le_of_ble_eq_true rfl) rfl dX8_callAtDoor_49 fl_Sc_18 ?_
          refine r_iload_n (pc := 52) ok dX8_callAtDoor_52 rfl ?_
          refine r_iconst (pc := 53) ok (1 : Int32) dX8_callAtDoor_53 ci_1 ?_
          refine r_iast (pc := 54) ok (sc_s3 ho) (Nat.add_sub_cancel_left _ _) rfl (fun s_ => mx (va_up XX io s_) YY) (pm_l (sc_lt ho) (pm_0 _ _)).1 (pm_l (sc_lt ho) (pm_0 _ _)).2 dX8_callAtDoor_54 (fun i5 s6 => ?_)
          refine r_aload_n (pc := 55) ok dX8_callAtDoor_55 rfl ?_
          refine r_getR (pc := 56) ok cls8 (sc_sh ho) (k := 9) rfl (Nat.le_of_ble_eq_true rfl) rfl dX8_callAtDoor_56 fl_Sc_27 ?_
          refine r_iload_n (pc := 59) ok dX8_callAtDoor_59 rfl ?_
          refine r_aload_n (pc := 60) ok dX8_callAtDoor_60 rfl ?_
          refine r_getR (pc := 61) ok cls8 (sc_sh ho) (k := 5) rfl (Nat.le_of_ble_eq_true rfl) rfl dX8_callAtDoor_61 fl_Sc_15 ?_
          refine r_iload_n (pc := 64) ok dX8_callAtDoor_64 rfl ?_
          refine r_iald (pc := 65) ok (sc_s2 ho) (Nat.add_sub_cancel_left _ _) (mx_l (sc_lt ho) (va_up_self _ _ _)) dX8_callAtDoor_65 (fun i7 => ?_)
          refine r_iast (pc := 66) ok (sc_s6 ho) (Nat.add_sub_cancel_left _ _) rfl (fun s_ => mx (va_up XX io s_) YY) (pm_l (sc_lt ho) (pm_0 _ _)).1 (pm_l (sc_lt ho) (pm_0 _ _)).2 dX8_callAtDoor_66 (fun i8 s9 => ?_)
          refine r_aload_n (pc := 67) ok dX8_callAtDoor_67 rfl ?_
          refine r_iload_n (pc := 68) ok dX8_callAtDoor_68 rfl ?_
          refine k_V (pc := 69)  (fun r10 => mx (va_up XX io r10) YY) (fun r10 hr_ => c_V (n := 1) ok cls8 (sc_sh ho) rfl ml_Sc_168 wv_X8_dropCall yk_X8_dropCall rfl (Nat.le_of_ble_eq_true rfl) (Nat.le_of_ble_eq_true rfl) (tSc_dropCall ho hr_) rfl (Nat.le_of_ble_eq_true rfl) dX8_callAtDoor_69) (fun r10 => ?_)
          refine r_eq ((hx (.inr r10)).2 _ rfl) ?_
          exact r_vret (pc := 72) ok dX8_callAtDoor_72 rfl
        · refine r_iinc (pc := 73) ok (1 : Int32) dX8_callAtDoor_73 ci_1 rfl (Nat.le_of_ble_eq_true rfl) rfl ?_
          refine r_goto (pc := 76) ok 2 dX8_callAtDoor_76 rfl ?_
          exact hc (a + (1 : Int32))
      · refine r_iinc (pc := 73) ok (1 : Int32) dX8_callAtDoor_73 ci_1 rfl (Nat.le_of_ble_eq_true rfl) rfl ?_
        refine r_goto (pc := 76) ok 2 dX8_callAtDoor_76 rfl ?_
        exact hc (a + (1 : Int32))
theorem vSc_callAtDoor {Z : Cx} {G : Gx} {b : Nat} {io : Nat} {XX YY : Nat → Obj} {q : Obj} {sc : Obj} {v1 : Int32} (ok : OK Z G b cX8_callAtDoor 3 2 RX8 none) (ho : isSc io) (hr_q : XX (qid io) = q) : VO Z G b 3 (fun (r : Obj) => QX Z b (qV G b (mx (va_up XX io r) YY))) (mx (va_up XX io sc) YY) 0 [some (.ref (b + io)), some (.int v1), none] [] ((fSc_callAtDoor q sc v1).bind some) := by
  unfold fSc_callAtDoor
  refine r_iconst (pc := 0) ok (0 : Int32) dX8_callAtDoor_0 ci_0 ?_
  refine r_istore_n (pc := 1) ok dX8_callAtDoor_1 (Nat.le_of_ble_eq_true rfl) rfl ?_
  refine r_iter (P := fun (a2 : Int32) o => VO Z G b 3 (fun (r : Obj) => QX Z b (qV G b (mx (va_up XX io r) YY))) (mx (va_up XX io sc) YY) 2 [some (.ref (b + io)), some (.int v1), some (.int a2)] [] o) (E := fun (z : (Unit) ⊕ (Obj)) o => (∀ (e_2 : Unit), z = .inl e_2 → VO Z G b 3 (fun (r : Obj) => QX Z b (qV G b (mx (va_up XX io r) YY))) (mx (va_up XX io sc) YY) 79 [none, none, none] [] o) ∧ (∀ (r : Obj), z = .inr r → o = some r)) (fun _ => r_none) (fun K hc hx => wSc_callAtDoor_L2 ok ho hr_q (K := K) hc hx) (fun z => ⟨fun e11 hz => ?_, fun r hz => ?_⟩) FU (0 : Int32)
  · subst hz
    refine r_inl ?_
    exact r_vret (pc := 79) ok dX8_callAtDoor_79 rfl
  · subst hz
    rfl
theorem tSc_callAtDoor {l : Launch} {G : Gx} {b : Nat} {io : Nat} {XX YY : Nat → Obj} {q : Obj} {sc : Obj} {v1 : Int32} (ho : isSc io) (hr_q : XX (qid io) = q) {r : Obj} (hr : fSc_callAtDoor q sc v1 = some r) : MetG l G b yX8_callAtDoor cX8_callAtDoor 3 none 2 [.ref (b + io), .int v1] (mx (va_up XX io sc) YY) (qV G b (mx (va_up XX io r) YY)) := by
  refine met_start [some (.ref (b + io)), some (.int v1), none] (by decide +kernel) (Nat.le_of_ble_eq_true rfl) rfl (fun Z hl ok => ?_)
  clear hl
  exact vSc_callAtDoor ok ho hr_q r (by rw [hr]; rfl)
theorem wSc_thoseWhoCouldAnswer_L27 {Z : Cx} {G : Gx} {b : Nat} {io : Nat} {XX YY : Nat → Obj} {q : Obj} {sc : Obj} {v1 : Int32} (ok : OK Z G b cX8_thoseWhoCouldAnswer 4 2 RX8 (some .int)) (ho : isSc io) (hr_q : XX (qid io) = q) (hr_sc : XX io = sc) {K : ((Int32 × Int32) ⊕ (Int32)) → Option (Int32)} (hc : ∀ (a : Int32 × Int32), VO Z G b 4 (fun (r : Int32) => QX Z b (qI G b r (mx XX YY))) (mx XX YY) 27 [some (.ref (b + io)), some (.int v1), some (.int a.1), some (.int a.2)] [] (K (.inl a))) (hx : ∀ (e : Int32), VO Z G b 4 (fun (r : Int32) => QX Z b (qI G b r (mx XX YY))) (mx XX YY) 91 [some (.ref (b + io)), some (.int v1), some (.int e), none] [] (K (.inr e))) : ∀ (a : Int32 × Int32), VO Z G b 4 (fun (r : Int32) => QX Z b (qI G b r (mx XX YY))) (mx XX YY) 27 [some (.ref (b + io)), some (.int v1), some (.int a.1), some (.int a.2)] [] ((fSc_thoseWhoCouldAnswer_L27 q sc v1 a).bind K) := by
  intro a
  unfold fSc_thoseWhoCouldAnswer_L27
  refine r_iload_n (pc := 27) ok dX8_thoseWhoCouldAnswer_27 rfl ?_
  refine r_bipush (pc := 28) ok (8 : Int32) dX8_thoseWhoCouldAnswer_28 cb_8 ?_
  refine r_icmp_ge (pc := 30) ok 91 dX8_thoseWhoCouldAnswer_30 rfl (fun _ => ?_) (fun _ => ?_)
  · refine r_lv (lk_s (lk_s (lk_s (lk_n lk_0 _) _) _) _) ?_
    exact hx a.1
  · refine r_iload_n (pc := 33) ok dX8_thoseWhoCouldAnswer_33 rfl ?_
    refine r_aload_n (pc := 34) ok dX8_thoseWhoCouldAnswer_34 rfl ?_
    refine r_getR (pc := 35) ok cls8 (sc_sh ho) (k := 0) rfl (Nat.le_of_ble_eq_true rfl) rfl dX8_thoseWhoCouldAnswer_35 fl_Sc_42 ?_
    refine r_getI (pc := 38) ok cls5 (qu_sh (qid_qu ho)) (k := 4) rfl (Nat.le_of_ble_eq_true rfl) (mx_l (qu_lt (qid_qu ho)) (hr_q)) dX8_thoseWhoCouldAnswer_38 fl_Sc_92 ?_
    refine r_icmp_ge (pc := 41) ok 91 dX8_thoseWhoCouldAnswer_41 rfl (fun _ => ?_) (fun _ => ?_)
    · refine r_lv (lk_s (lk_s (lk_s (lk_n lk_0 _) _) _) _) ?_
      exact hx a.1
    · refine r_aload_n (pc := 44) ok dX8_thoseWhoCouldAnswer_44 rfl ?_
      refine r_getR (pc := 45) ok cls8 (sc_sh ho) (k := 6) rfl (Nat.le_of_ble_eq_true rfl) rfl dX8_thoseWhoCouldAnswer_45 fl_Sc_18 ?_
      refine r_iload_n (pc := 48) ok dX8_thoseWhoCouldAnswer_48 rfl ?_
      refine r_iald (pc := 49) ok (sc_s3 ho) (Nat.add_sub_cancel_left _ _) (mx_l (sc_lt ho) (hr_sc)) dX8_thoseWhoCouldAnswer_49 (fun i3 => ?_)
      refine r_if_ne (pc := 50) ok 85 dX8_thoseWhoCouldAnswer_50 rfl (fun _ => ?_) (fun _ => ?_)
      · refine r_aload_n (pc := 53) ok dX8_thoseWhoCouldAnswer_53 rfl ?_
        refine r_getR (pc := 54) ok cls8 (sc_sh ho) (k := 7) rfl (Nat.le_of_ble_eq_true rfl) rfl dX8_thoseWhoCouldAnswer_54 fl_Sc_21 ?_
        refine r_iload_n (pc := 57) ok dX8_thoseWhoCouldAnswer_57 rfl ?_
        refine r_iald (pc := 58) ok (sc_s4 ho) (Nat.add_sub_cancel_left _ _) (mx_l (sc_lt ho) (hr_sc)) dX8_thoseWhoCouldAnswer_58 (fun i4 => ?_)
        refine r_aload_n (pc := 59) ok dX8_thoseWhoCouldAnswer_59 rfl ?_
        refine r_getR (pc := 60) ok cls8 (sc_sh ho) (k := 7) rfl (Nat.le_of_ble_eq_true rfl) rfl dX8_thoseWhoCouldAnswer_60 fl_Sc_21 ?_
        refine r_iload_n (pc := 63) ok dX8_thoseWhoCouldAnswer_63 rfl ?_
        refine r_iald (pc := 64) ok (sc_s4 ho) (Nat.add_sub_cancel_left _ _) (mx_l (sc_lt ho) (hr_sc)) dX8_thoseWhoCouldAnswer_64 (fun i5 => ?_)
        refine r_isub (pc := 65) ok dX8_thoseWhoCouldAnswer_65 ?_
        refine r_mabs (pc := 66) ok ml_Sc_177 (Nat.le_of_ble_eq_true rfl) (Nat.le_of_ble_eq_true rfl) dX8_thoseWhoCouldAnswer_66 (fun r6 => ?_)
        refine r_aload_n (pc := 69) ok dX8_thoseWhoCouldAnswer_69 rfl ?_
        refine r_getR (pc := 70) ok cls8 (sc_sh ho) (k := 0) rfl (Nat.le_of_ble_eq_true rfl) rfl dX8_thoseWhoCouldAnswer_70 fl_Sc_42 ?_
        refine r_getI (pc := 73) ok cls5 (qu_sh (qid_qu ho)) (k := 1) rfl (Nat.le_of_ble_eq_true rfl) (mx_l (qu_lt (qid_qu ho)) (hr_q)) dX8_thoseWhoCouldAnswer_73 fl_Sc_180 ?_
        refine r_icmp_gt (pc := 76) ok 85 dX8_thoseWhoCouldAnswer_76 rfl (fun _ => ?_) (fun _ => ?_)
        · refine r_iinc (pc := 85) ok (1 : Int32) dX8_thoseWhoCouldAnswer_85 ci_1 rfl (Nat.le_of_ble_eq_true rfl) rfl ?_
          refine r_goto (pc := 88) ok 27 dX8_thoseWhoCouldAnswer_88 rfl ?_
          exact hc (a.1, (a.2 + (1 : Int32)))
        · refine r_iload_n (pc := 79) ok dX8_thoseWhoCouldAnswer_79 rfl ?_
          refine r_iconst (pc := 80) ok (1 : Int32) dX8_thoseWhoCouldAnswer_80 ci_1 ?_
          refine r_iload_n (pc := 81) ok dX8_thoseWhoCouldAnswer_81 rfl ?_
          refine r_ishl (pc := 82) ok dX8_thoseWhoCouldAnswer_82 ?_
          refine r_ior (pc := 83) ok dX8_thoseWhoCouldAnswer_83 ?_
          refine r_bndI (fun x7 => ?_)
          refine r_istore_n (pc := 84) ok dX8_thoseWhoCouldAnswer_84 (Nat.le_of_ble_eq_true rfl) rfl ?_
          refine r_iinc (pc := 85) ok (1 : Int32) dX8_thoseWhoCouldAnswer_85 ci_1 rfl (Nat.le_of_ble_eq_true rfl) rfl ?_
          refine r_goto (pc := 88) ok 27 dX8_thoseWhoCouldAnswer_88 rfl ?_
          exact hc (x7, (a.2 + (1 : Int32)))
      · refine r_iinc (pc := 85) ok (1 : Int32) dX8_thoseWhoCouldAnswer_85 ci_1 rfl (Nat.le_of_ble_eq_true rfl) rfl ?_
        refine r_goto (pc := 88) ok 27 dX8_thoseWhoCouldAnswer_88 rfl ?_
        exact hc (a.1, (a.2 + (1 : Int32)))
theorem vSc_thoseWhoCouldAnswer {Z : Cx} {G : Gx} {b : Nat} {io : Nat} {XX YY : Nat → Obj} {q : Obj} {sc : Obj} {v1 : Int32} (ok : OK Z G b cX8_thoseWhoCouldAnswer 4 2 RX8 (some .int)) (ho : isSc io) (hr_q : XX (qid io) = q) (hr_sc : XX io = sc) : VO Z G b 4 (fun (r : Int32) => QX Z b (qI G b r (mx XX YY))) (mx XX YY) 0 [some (.ref (b + io)), some (.int v1), none, none] [] ((fSc_thoseWhoCouldAnswer q sc v1).bind some) := by
  unfold fSc_thoseWhoCouldAnswer
  refine r_aload_n (pc := 0) ok dX8_thoseWhoCouldAnswer_0 rfl ?_
  refine r_getR (pc := 1) ok cls8 (sc_sh ho) (k := 0) rfl (Nat.le_of_ble_eq_true rfl) rfl dX8_thoseWhoCouldAnswer_1 fl_Sc_42 ?_
  refine r_iload_n (pc := 4) ok dX8_thoseWhoCouldAnswer_4 rfl ?_
  refine k_I (pc := 5) (fun r1 => r1) (fun r1 => mx XX YY) (fun r1 hr_ => c_V (n := 1) ok cls5 (qu_sh (qid_qu ho)) rfl ml_Sc_62 wv_X5_hasPerson yk_X5_hasPerson rfl (Nat.le_of_ble_eq_true rfl) (Nat.le_of_ble_eq_true rfl) (tQu_hasPerson (qid_qu ho) (hr_q) hr_) rfl (Nat.le_of_ble_eq_true rfl) dX8_thoseWhoCouldAnswer_5) (fun r1 => ?_)
  refine r_if_eq (pc := 8) ok 21 dX8_thoseWhoCouldAnswer_8 rfl (fun _ => ?_) (fun _ => ?_)
  · refine r_iconst (pc := 21) ok (0 : Int32) dX8_thoseWhoCouldAnswer_21 ci_0 ?_
    exact r_iret (pc := 22) ok dX8_thoseWhoCouldAnswer_22 rfl
  · refine r_aload_n (pc := 11) ok dX8_thoseWhoCouldAnswer_11 rfl ?_
    refine r_getR (pc := 12) ok cls8 (sc_sh ho) (k := 6) rfl (Nat.le_of_ble_eq_true rfl) rfl dX8_thoseWhoCouldAnswer_12 fl_Sc_18 ?_
    refine r_iload_n (pc := 15) ok dX8_thoseWhoCouldAnswer_15 rfl ?_
    refine r_iald (pc := 16) ok (sc_s3 ho) (Nat.add_sub_cancel_left _ _) (mx_l (sc_lt ho) (hr_sc)) dX8_thoseWhoCouldAnswer_16 (fun i2 => ?_)
    refine r_iconst (pc := 17) ok (1 : Int32) dX8_thoseWhoCouldAnswer_17 ci_1 ?_
    refine r_icmp_eq (pc := 18) ok 23 dX8_thoseWhoCouldAnswer_18 rfl (fun _ => ?_) (fun _ => ?_)
    · refine r_iconst (pc := 23) ok (0 : Int32) dX8_thoseWhoCouldAnswer_23 ci_0 ?_
      refine r_istore_n (pc := 24) ok dX8_thoseWhoCouldAnswer_24 (Nat.le_of_ble_eq_true rfl) rfl ?_
      refine r_iconst (pc := 25) ok (0 : Int32) dX8_thoseWhoCouldAnswer_25 ci_0 ?_
      refine r_istore_n (pc := 26) ok dX8_thoseWhoCouldAnswer_26 (Nat.le_of_ble_eq_true rfl) rfl ?_
      refine r_iter (P := fun (a27 : Int32 × Int32) o => VO Z G b 4 (fun (r : Int32) => QX Z b (qI G b r (mx XX YY))) (mx XX YY) 27 [some (.ref (b + io)), some (.int v1), some (.int a27.1), some (.int a27.2)] [] o) (E := fun (e_27 : Int32) o => VO Z G b 4 (fun (r : Int32) => QX Z b (qI G b r (mx XX YY))) (mx XX YY) 91 [some (.ref (b + io)), some (.int v1), some (.int e_27), none] [] o) (fun _ => r_none) (fun K hc hx => wSc_thoseWhoCouldAnswer_L27 ok ho hr_q hr_sc (K := K) hc hx) (fun e8 => ?_) FU ((0 : Int32), (0 : Int32))
      refine r_iload_n (pc := 91) ok dX8_thoseWhoCouldAnswer_91 rfl ?_
      refine r_if_ne (pc := 92) ok 99 dX8_thoseWhoCouldAnswer_92 rfl (fun _ => ?_) (fun _ => ?_)
      · refine r_iconst (pc := 95) ok (0 : Int32) dX8_thoseWhoCouldAnswer_95 ci_0 ?_
        refine r_goto (pc := 96) ok 111 dX8_thoseWhoCouldAnswer_96 rfl ?_
        exact r_iret (pc := 111) ok dX8_thoseWhoCouldAnswer_111 rfl
      · refine r_iload_n (pc := 99) ok dX8_thoseWhoCouldAnswer_99 rfl ?_
        refine r_aload_n (pc := 100) ok dX8_thoseWhoCouldAnswer_100 rfl ?_
        refine r_aload_n (pc := 101) ok dX8_thoseWhoCouldAnswer_101 rfl ?_
        refine r_getR (pc := 102) ok cls8 (sc_sh ho) (k := 9) rfl (Nat.le_of_ble_eq_true rfl) rfl dX8_thoseWhoCouldAnswer_102 fl_Sc_27 ?_
        refine r_iload_n (pc := 105) ok dX8_thoseWhoCouldAnswer_105 rfl ?_
        refine r_iald (pc := 106) ok (sc_s6 ho) (Nat.add_sub_cancel_left _ _) (mx_l (sc_lt ho) (hr_sc)) dX8_thoseWhoCouldAnswer_106 (fun i9 => ?_)
        refine k_I (pc := 107) (fun r10 => r10) (fun r10 => mx XX YY) (fun r10 hr_ => c_V (n := 1) ok cls8 (sc_sh ho) rfl ml_Sc_98 wv_X8_strangersOf yk_X8_strangersOf rfl (Nat.le_of_ble_eq_true rfl) (Nat.le_of_ble_eq_true rfl) (tSc_strangersOf ho (hr_q) (hr_sc) hr_) rfl (Nat.le_of_ble_eq_true rfl) dX8_thoseWhoCouldAnswer_107) (fun r10 => ?_)
        refine r_iand (pc := 110) ok dX8_thoseWhoCouldAnswer_110 ?_
        exact r_iret (pc := 111) ok dX8_thoseWhoCouldAnswer_111 rfl
    · refine r_iconst (pc := 21) ok (0 : Int32) dX8_thoseWhoCouldAnswer_21 ci_0 ?_
      exact r_iret (pc := 22) ok dX8_thoseWhoCouldAnswer_22 rfl
theorem tSc_thoseWhoCouldAnswer {l : Launch} {G : Gx} {b : Nat} {io : Nat} {XX YY : Nat → Obj} {q : Obj} {sc : Obj} {v1 : Int32} (ho : isSc io) (hr_q : XX (qid io) = q) (hr_sc : XX io = sc) {r : Int32} (hr : fSc_thoseWhoCouldAnswer q sc v1 = some r) : MetG l G b yX8_thoseWhoCouldAnswer cX8_thoseWhoCouldAnswer 4 (some .int) 2 [.ref (b + io), .int v1] (mx XX YY) (qI G b r (mx XX YY)) := by
  refine met_start [some (.ref (b + io)), some (.int v1), none, none] (by decide +kernel) (Nat.le_of_ble_eq_true rfl) rfl (fun Z hl ok => ?_)
  clear hl
  exact vSc_thoseWhoCouldAnswer ok ho hr_q hr_sc r (by rw [hr]; rfl)
theorem wSc_answererOf_L36 {Z : Cx} {G : Gx} {b : Nat} {io : Nat} {XX YY : Nat → Obj} {q : Obj} {sc : Obj} {v1 : Int32} {v3 : Int32} (ok : OK Z G b cX8_answererOf 8 3 RX8 (some .int)) (ho : isSc io) (hr_q : XX (qid io) = q) (hr_sc : XX io = sc) {K : ((Int32 × Int32 × Int32) ⊕ (Int32)) → Option (Int32)} (hc : ∀ (a : Int32 × Int32 × Int32), VO Z G b 8 (fun (r : Int32) => QX Z b (qI G b r (mx XX YY))) (mx XX YY) 36 [some (.ref (b + io)), some (.int v1), none, some (.int v3), some (.int a.1), some (.int a.2.1), some (.int a.2.2), none] [] (K (.inl a))) (hx : ∀ (e : Int32), VO Z G b 8 (fun (r : Int32) => QX Z b (qI G b r (mx XX YY))) (mx XX YY) 110 [none, none, none, none, some (.int e), none, none, none] [] (K (.inr e))) : ∀ (a : Int32 × Int32 × Int32), VO Z G b 8 (fun (r : Int32) => QX Z b (qI G b r (mx XX YY))) (mx XX YY) 36 [some (.ref (b + io)), some (.int v1), none, some (.int v3), some (.int a.1), some (.int a.2.1), some (.int a.2.2), none] [] ((fSc_answererOf_L36 q sc v1 v3 a).bind K) := by
  intro a
  unfold fSc_answererOf_L36
  refine r_iload (pc := 36) ok dX8_answererOf_36 rfl ?_
  refine r_bipush (pc := 38) ok (8 : Int32) dX8_answererOf_38 cb_8 ?_
  refine r_icmp_ge (pc := 40) ok 110 dX8_answererOf_40 rfl (fun _ => ?_) (fun _ => ?_)
  · refine r_lv (lk_n (lk_n (lk_n (lk_n (lk_s (lk_n (lk_n (lk_n lk_0 _) _) _) _) _) _) _) _) ?_
    exact hx a.1
  · refine r_iload (pc := 43) ok dX8_answererOf_43 rfl ?_
    refine r_aload_n (pc := 45) ok dX8_answererOf_45 rfl ?_
    refine r_getR (pc := 46) ok cls8 (sc_sh ho) (k := 0) rfl (Nat.le_of_ble_eq_true rfl) rfl dX8_answererOf_46 fl_Sc_42 ?_
    refine r_getI (pc := 49) ok cls5 (qu_sh (qid_qu ho)) (k := 4) rfl (Nat.le_of_ble_eq_true rfl) (mx_l (qu_lt (qid_qu ho)) (hr_q)) dX8_answererOf_49 fl_Sc_92 ?_
    refine r_icmp_ge (pc := 52) ok 110 dX8_answererOf_52 rfl (fun _ => ?_) (fun _ => ?_)
    · refine r_lv (lk_n (lk_n (lk_n (lk_n (lk_s (lk_n (lk_n (lk_n lk_0 _) _) _) _) _) _) _) _) ?_
      exact hx a.1
    · refine r_aload_n (pc := 55) ok dX8_answererOf_55 rfl ?_
      refine r_getR (pc := 56) ok cls8 (sc_sh ho) (k := 7) rfl (Nat.le_of_ble_eq_true rfl) rfl dX8_answererOf_56 fl_Sc_21 ?_
      refine r_iload (pc := 59) ok dX8_answererOf_59 rfl ?_
      refine r_iald (pc := 61) ok (sc_s4 ho) (Nat.add_sub_cancel_left _ _) (mx_l (sc_lt ho) (hr_sc)) dX8_answererOf_61 (fun i4 => ?_)
      refine r_aload_n (pc := 62) ok dX8_answererOf_62 rfl ?_
      refine r_getR (pc := 63) ok cls8 (sc_sh ho) (k := 7) rfl (Nat.le_of_ble_eq_true rfl) rfl dX8_answererOf_63 fl_Sc_21 ?_
      refine r_iload_n (pc := 66) ok dX8_answererOf_66 rfl ?_
      refine r_iald (pc := 67) ok (sc_s4 ho) (Nat.add_sub_cancel_left _ _) (mx_l (sc_lt ho) (hr_sc)) dX8_answererOf_67 (fun i5 => ?_)
      refine r_isub (pc := 68) ok dX8_answererOf_68 ?_
      refine r_mabs (pc := 69) ok ml_Sc_177 (Nat.le_of_ble_eq_true rfl) (Nat.le_of_ble_eq_true rfl) dX8_answererOf_69 (fun r6 => ?_)
      refine r_istore (pc := 72) ok dX8_answererOf_72 (Nat.le_of_ble_eq_true rfl) rfl ?_
      refine r_iload_n (pc := 74) ok dX8_answererOf_74 rfl ?_
      refine r_iload (pc := 75) ok dX8_answererOf_75 rfl ?_
      refine k_I (pc := 77) (fun r7 => r7) (fun r7 => mx XX YY) (fun r7 hr_ => c_SN (n := 2) ok mn_Sc_88 ws_X11_hasBit yk_X11_hasBit rfl (Nat.le_of_ble_eq_true rfl) (Nat.le_of_ble_eq_true rfl) (tKL_hasBit hr_) rfl (Nat.le_of_ble_eq_true rfl) dX8_answererOf_77) (fun r7 => ?_)
      refine r_if_eq (pc := 80) ok 104 dX8_answererOf_80 rfl (fun _ => ?_) (fun _ => ?_)
      · refine r_iinc (pc := 104) ok (1 : Int32) dX8_answererOf_104 ci_1 rfl (Nat.le_of_ble_eq_true rfl) rfl ?_
        refine r_goto (pc := 107) ok 36 dX8_answererOf_107 rfl ?_
        refine r_lv (lk_s (lk_s (lk_n (lk_s (lk_s (lk_s (lk_s (lk_n lk_0 _) _) _) _) _) _) _) _) ?_
        exact hc (a.1, a.2.1, (a.2.2 + (1 : Int32)))
      · refine r_iload (pc := 83) ok dX8_answererOf_83 rfl ?_
        refine r_iconst (pc := 85) ok (-1 : Int32) dX8_answererOf_85 ci_m1 ?_
        refine r_icmp_eq (pc := 86) ok 96 dX8_answererOf_86 rfl (fun _ => ?_) (fun _ => ?_)
        · refine r_iload (pc := 96) ok dX8_answererOf_96 rfl ?_
          refine r_istore (pc := 98) ok dX8_answererOf_98 (Nat.le_of_ble_eq_true rfl) rfl ?_
          refine r_iload (pc := 100) ok dX8_answererOf_100 rfl ?_
          refine r_istore (pc := 102) ok dX8_answererOf_102 (Nat.le_of_ble_eq_true rfl) rfl ?_
          refine r_iinc (pc := 104) ok (1 : Int32) dX8_answererOf_104 ci_1 rfl (Nat.le_of_ble_eq_true rfl) rfl ?_
          refine r_goto (pc := 107) ok 36 dX8_answererOf_107 rfl ?_
          refine r_lv (lk_s (lk_s (lk_n (lk_s (lk_s (lk_s (lk_s (lk_n lk_0 _) _) _) _) _) _) _) _) ?_
          exact hc (a.2.2, r6, (a.2.2 + (1 : Int32)))
        · refine r_iload (pc := 89) ok dX8_answererOf_89 rfl ?_
          refine r_iload (pc := 91) ok dX8_answererOf_91 rfl ?_
          refine r_icmp_ge (pc := 93) ok 104 dX8_answererOf_93 rfl (fun _ => ?_) (fun _ => ?_)
          · refine r_iinc (pc := 104) ok (1 : Int32) dX8_answererOf_104 ci_1 rfl (Nat.le_of_ble_eq_true rfl) rfl ?_
            refine r_goto (pc := 107) ok 36 dX8_answererOf_107 rfl ?_
            refine r_lv (lk_s (lk_s (lk_n (lk_s (lk_s (lk_s (lk_s (lk_n lk_0 _) _) _) _) _) _) _) _) ?_
            exact hc (a.1, a.2.1, (a.2.2 + (1 : Int32)))
          · refine r_iload (pc := 96) ok dX8_answererOf_96 rfl ?_
            refine r_istore (pc := 98) ok dX8_answererOf_98 (Nat.le_of_ble_eq_true rfl) rfl ?_
            refine r_iload (pc := 100) ok dX8_answererOf_100 rfl ?_
            refine r_istore (pc := 102) ok dX8_answererOf_102 (Nat.le_of_ble_eq_true rfl) rfl ?_
            refine r_iinc (pc := 104) ok (1 : Int32) dX8_answererOf_104 ci_1 rfl (Nat.le_of_ble_eq_true rfl) rfl ?_
            refine r_goto (pc := 107) ok 36 dX8_answererOf_107 rfl ?_
            refine r_lv (lk_s (lk_s (lk_n (lk_s (lk_s (lk_s (lk_s (lk_n lk_0 _) _) _) _) _) _) _) _) ?_
            exact hc (a.2.2, r6, (a.2.2 + (1 : Int32)))
theorem vSc_answererOf {Z : Cx} {G : Gx} {b : Nat} {io : Nat} {XX YY : Nat → Obj} {q : Obj} {sc : Obj} {v1 : Int32} {v2 : Int32} (ok : OK Z G b cX8_answererOf 8 3 RX8 (some .int)) (ho : isSc io) (hr_q : XX (qid io) = q) (hr_sc : XX io = sc) : VO Z G b 8 (fun (r : Int32) => QX Z b (qI G b r (mx XX YY))) (mx XX YY) 0 [some (.ref (b + io)), some (.int v1), some (.int v2), none, none, none, none, none] [] ((fSc_answererOf q sc v1 v2).bind some) := by
  unfold fSc_answererOf
  refine r_aload_n (pc := 0) ok dX8_answererOf_0 rfl ?_
  refine r_iload_n (pc := 1) ok dX8_answererOf_1 rfl ?_
  refine k_I (pc := 2) (fun r1 => r1) (fun r1 => mx XX YY) (fun r1 hr_ => c_V (n := 1) ok cls8 (sc_sh ho) rfl ml_Sc_174 wv_X8_thoseWhoCouldAnswer yk_X8_thoseWhoCouldAnswer rfl (Nat.le_of_ble_eq_true rfl) (Nat.le_of_ble_eq_true rfl) (tSc_thoseWhoCouldAnswer ho (hr_q) (hr_sc) hr_) rfl (Nat.le_of_ble_eq_true rfl) dX8_answererOf_2) (fun r1 => ?_)
  refine r_iload_n (pc := 5) ok dX8_answererOf_5 rfl ?_
  refine r_iconst (pc := 6) ok (-1 : Int32) dX8_answererOf_6 ci_m1 ?_
  refine r_ixor (pc := 7) ok dX8_answererOf_7 ?_
  refine r_iand (pc := 8) ok dX8_answererOf_8 ?_
  refine r_bndI (fun x2 => ?_)
  refine r_istore_n (pc := 9) ok dX8_answererOf_9 (Nat.le_of_ble_eq_true rfl) rfl ?_
  refine r_iload_n (pc := 10) ok dX8_answererOf_10 rfl ?_
  refine r_if_eq (pc := 11) ok 25 dX8_answererOf_11 rfl (fun _ => ?_) (fun _ => ?_)
  · refine r_iconst (pc := 25) ok (-1 : Int32) dX8_answererOf_25 ci_m1 ?_
    exact r_iret (pc := 26) ok dX8_answererOf_26 rfl
  · refine r_aload_n (pc := 14) ok dX8_answererOf_14 rfl ?_
    refine r_getR (pc := 15) ok cls8 (sc_sh ho) (k := 0) rfl (Nat.le_of_ble_eq_true rfl) rfl dX8_answererOf_15 fl_Sc_42 ?_
    refine r_iload_n (pc := 18) ok dX8_answererOf_18 rfl ?_
    refine k_I (pc := 19) (fun r3 => r3) (fun r3 => mx XX YY) (fun r3 hr_ => c_V (n := 1) ok cls5 (qu_sh (qid_qu ho)) rfl ml_Sc_62 wv_X5_hasPerson yk_X5_hasPerson rfl (Nat.le_of_ble_eq_true rfl) (Nat.le_of_ble_eq_true rfl) (tQu_hasPerson (qid_qu ho) (hr_q) hr_) rfl (Nat.le_of_ble_eq_true rfl) dX8_answererOf_19) (fun r3 => ?_)
    refine r_if_ne (pc := 22) ok 27 dX8_answererOf_22 rfl (fun _ => ?_) (fun _ => ?_)
    · refine r_iconst (pc := 25) ok (-1 : Int32) dX8_answererOf_25 ci_m1 ?_
      exact r_iret (pc := 26) ok dX8_answererOf_26 rfl
    · refine r_iconst (pc := 27) ok (-1 : Int32) dX8_answererOf_27 ci_m1 ?_
      refine r_istore (pc := 28) ok dX8_answererOf_28 (Nat.le_of_ble_eq_true rfl) rfl ?_
      refine r_iconst (pc := 30) ok (0 : Int32) dX8_answererOf_30 ci_0 ?_
      refine r_istore (pc := 31) ok dX8_answererOf_31 (Nat.le_of_ble_eq_true rfl) rfl ?_
      refine r_iconst (pc := 33) ok (0 : Int32) dX8_answererOf_33 ci_0 ?_
      refine r_istore (pc := 34) ok dX8_answererOf_34 (Nat.le_of_ble_eq_true rfl) rfl ?_
      refine r_lv (lk_s (lk_s (lk_n (lk_s (lk_s (lk_s (lk_s (lk_n lk_0 _) _) _) _) _) _) _) _) ?_
      refine r_iter (P := fun (a36 : Int32 × Int32 × Int32) o => VO Z G b 8 (fun (r : Int32) => QX Z b (qI G b r (mx XX YY))) (mx XX YY) 36 [some (.ref (b + io)), some (.int v1), none, some (.int x2), some (.int a36.1), some (.int a36.2.1), some (.int a36.2.2), none] [] o) (E := fun (e_36 : Int32) o => VO Z G b 8 (fun (r : Int32) => QX Z b (qI G b r (mx XX YY))) (mx XX YY) 110 [none, none, none, none, some (.int e_36), none, none, none] [] o) (fun _ => r_none) (fun K hc hx => wSc_answererOf_L36 ok ho hr_q hr_sc (K := K) hc hx) (fun e8 => ?_) FU ((-1 : Int32), (0 : Int32), (0 : Int32))
      refine r_iload (pc := 110) ok dX8_answererOf_110 rfl ?_
      exact r_iret (pc := 112) ok dX8_answererOf_112 rfl
theorem tSc_answererOf {l : Launch} {G : Gx} {b : Nat} {io : Nat} {XX YY : Nat → Obj} {q : Obj} {sc : Obj} {v1 : Int32} {v2 : Int32} (ho : isSc io) (hr_q : XX (qid io) = q) (hr_sc : XX io = sc) {r : Int32} (hr : fSc_answererOf q sc v1 v2 = some r) : MetG l G b yX8_answererOf cX8_answererOf 8 (some .int) 3 [.ref (b + io), .int v1, .int v2] (mx XX YY) (qI G b r (mx XX YY)) := by
  refine met_start [some (.ref (b + io)), some (.int v1), some (.int v2), none, none, none, none, none] (by decide +kernel) (Nat.le_of_ble_eq_true rfl) rfl (fun Z hl ok => ?_)
  clear hl
  exact vSc_answererOf ok ho hr_q hr_sc r (by rw [hr]; rfl)
theorem wSc_openDoor_J109 {Z : Cx} {G : Gx} {b : Nat} {io : Nat} {XX YY : Nat → Obj} {q : Obj} {sc : Obj} {v1 : Int32} {v3 : Int32} (ok : OK Z G b cX8_openDoor 4 2 RX8 none) (ho : isSc io) (hr_q : XX (qid io) = q) : VO Z G b 4 (fun (r : Obj) => QX Z b (qV G b (mx (va_up XX io r) YY))) (mx (va_up XX io sc) YY) 109 [some (.ref (b + io)), some (.int v1), none, some (.int v3)] [] ((fSc_openDoor_J109 q sc v1 v3).bind some) := by
  unfold fSc_openDoor_J109
  refine r_aload_n (pc := 109) ok dX8_openDoor_109 rfl ?_
  refine r_iload_n (pc := 110) ok dX8_openDoor_110 rfl ?_
  refine r_iload_n (pc := 111) ok dX8_openDoor_111 rfl ?_
  refine k_V (pc := 112)  (fun r14 => mx (va_up XX io r14) YY) (fun r14 hr_ => c_V (n := 2) ok cls8 (sc_sh ho) rfl ml_Sc_75 wv_X8_makeKnown yk_X8_makeKnown rfl (Nat.le_of_ble_eq_true rfl) (Nat.le_of_ble_eq_true rfl) (tSc_makeKnown ho (hr_q) hr_) rfl (Nat.le_of_ble_eq_true rfl) dX8_openDoor_112) (fun r14 => ?_)
  exact r_vret (pc := 115) ok dX8_openDoor_115 rfl
theorem wSc_openDoor_J89 {Z : Cx} {G : Gx} {b : Nat} {io : Nat} {XX YY : Nat → Obj} {q : Obj} {sc : Obj} {v1 : Int32} {v2 : Int32} {v3 : Int32} (ok : OK Z G b cX8_openDoor 4 2 RX8 none) (ho : isSc io) (hr_q : XX (qid io) = q) : VO Z G b 4 (fun (r : Obj) => QX Z b (qV G b (mx (va_up XX io r) YY))) (mx (va_up XX io sc) YY) 89 [some (.ref (b + io)), some (.int v1), some (.int v2), some (.int v3)] [] ((fSc_openDoor_J89 q sc v1 v2 v3).bind some) := by
  unfold fSc_openDoor_J89
  refine r_aload_n (pc := 89) ok dX8_openDoor_89 rfl ?_
  refine r_getR (pc := 90) ok cls8 (sc_sh ho) (k := 6) rfl (Nat.le_of_ble_eq_true rfl) rfl dX8_openDoor_90 fl_Sc_18 ?_
  refine r_iload_n (pc := 93) ok dX8_openDoor_93 rfl ?_
  refine r_iconst (pc := 94) ok (2 : Int32) dX8_openDoor_94 ci_2 ?_
  refine r_iast (pc := 95) ok (sc_s3 ho) (Nat.add_sub_cancel_left _ _) rfl (fun s_ => mx (va_up XX io s_) YY) (pm_l (sc_lt ho) (pm_0 _ _)).1 (pm_l (sc_lt ho) (pm_0 _ _)).2 dX8_openDoor_95 (fun i10 s11 => ?_)
  refine r_aload_n (pc := 96) ok dX8_openDoor_96 rfl ?_
  refine r_getR (pc := 97) ok cls8 (sc_sh ho) (k := 10) rfl (Nat.le_of_ble_eq_true rfl) rfl dX8_openDoor_97 fl_Sc_30 ?_
  refine r_iload_n (pc := 100) ok dX8_openDoor_100 rfl ?_
  refine r_aload_n (pc := 101) ok dX8_openDoor_101 rfl ?_
  refine r_getR (pc := 102) ok cls8 (sc_sh ho) (k := 0) rfl (Nat.le_of_ble_eq_true rfl) rfl dX8_openDoor_102 fl_Sc_42 ?_
  refine r_getI (pc := 105) ok cls5 (qu_sh (qid_qu ho)) (k := 2) rfl (Nat.le_of_ble_eq_true rfl) (mx_l (qu_lt (qid_qu ho)) ((va_up_ne _ _ (qid_ne ho)).trans (hr_q))) dX8_openDoor_105 fl_Sc_171 ?_
  refine r_iast (pc := 108) ok (sc_s7 ho) (Nat.add_sub_cancel_left _ _) rfl (fun s_ => mx (va_up XX io s_) YY) (pm_l (sc_lt ho) (pm_0 _ _)).1 (pm_l (sc_lt ho) (pm_0 _ _)).2 dX8_openDoor_108 (fun i12 s13 => ?_)
  refine r_lv (lk_s (lk_s (lk_n (lk_s lk_0 _) _) _) _) ?_
  exact wSc_openDoor_J109 ok ho hr_q
theorem vSc_openDoor {Z : Cx} {G : Gx} {b : Nat} {io : Nat} {XX YY : Nat → Obj} {q : Obj} {sc : Obj} {v1 : Int32} {v2 : Int32} (ok : OK Z G b cX8_openDoor 4 2 RX8 none) (ho : isSc io) (hr_q : XX (qid io) = q) : VO Z G b 4 (fun (r : Obj) => QX Z b (qV G b (mx (va_up XX io r) YY))) (mx (va_up XX io sc) YY) 0 [some (.ref (b + io)), some (.int v1), some (.int v2), none] [] ((fSc_openDoor q sc v1 v2).bind some) := by
  unfold fSc_openDoor
  refine r_aload_n (pc := 0) ok dX8_openDoor_0 rfl ?_
  refine r_getR (pc := 1) ok cls8 (sc_sh ho) (k := 0) rfl (Nat.le_of_ble_eq_true rfl) rfl dX8_openDoor_1 fl_Sc_42 ?_
  refine r_iload_n (pc := 4) ok dX8_openDoor_4 rfl ?_
  refine k_I (pc := 5) (fun r1 => r1) (fun r1 => mx (va_up XX io sc) YY) (fun r1 hr_ => c_V (n := 1) ok cls5 (qu_sh (qid_qu ho)) rfl ml_Sc_62 wv_X5_hasPerson yk_X5_hasPerson rfl (Nat.le_of_ble_eq_true rfl) (Nat.le_of_ble_eq_true rfl) (tQu_hasPerson (qid_qu ho) ((va_up_ne _ _ (qid_ne ho)).trans (hr_q)) hr_) rfl (Nat.le_of_ble_eq_true rfl) dX8_openDoor_5) (fun r1 => ?_)
  refine r_if_eq (pc := 8) ok 22 dX8_openDoor_8 rfl (fun _ => ?_) (fun _ => ?_)
  · exact r_vret (pc := 22) ok dX8_openDoor_22 rfl
  · refine r_aload_n (pc := 11) ok dX8_openDoor_11 rfl ?_
    refine r_getR (pc := 12) ok cls8 (sc_sh ho) (k := 0) rfl (Nat.le_of_ble_eq_true rfl) rfl dX8_openDoor_12 fl_Sc_42 ?_
    refine r_iload_n (pc := 15) ok dX8_openDoor_15 rfl ?_
    refine k_I (pc := 16) (fun r2 => r2) (fun r2 => mx (va_up XX io sc) YY) (fun r2 hr_ => c_V (n := 1) ok cls5 (qu_sh (qid_qu ho)) rfl ml_Sc_62 wv_X5_hasPerson yk_X5_hasPerson rfl (Nat.le_of_ble_eq_true rfl) (Nat.le_of_ble_eq_true rfl) (tQu_hasPerson (qid_qu ho) ((va_up_ne _ _ (qid_ne ho)).trans (hr_q)) hr_) rfl (Nat.le_of_ble_eq_true rfl) dX8_openDoor_16) (fun r2 => ?_)
    refine r_if_ne (pc := 19) ok 23 dX8_openDoor_19 rfl (fun _ => ?_) (fun _ => ?_)
    · exact r_vret (pc := 22) ok dX8_openDoor_22 rfl
    · refine r_iconst (pc := 23) ok (1 : Int32) dX8_openDoor_23 ci_1 ?_
      refine r_iload_n (pc := 24) ok dX8_openDoor_24 rfl ?_
      refine r_ishl (pc := 25) ok dX8_openDoor_25 ?_
      refine r_aload_n (pc := 26) ok dX8_openDoor_26 rfl ?_
      refine r_getR (pc := 27) ok cls8 (sc_sh ho) (k := 0) rfl (Nat.le_of_ble_eq_true rfl) rfl dX8_openDoor_27 fl_Sc_42 ?_
      refine r_aload_n (pc := 30) ok dX8_openDoor_30 rfl ?_
      refine r_getR (pc := 31) ok cls8 (sc_sh ho) (k := 9) rfl (Nat.le_of_ble_eq_true rfl) rfl dX8_openDoor_31 fl_Sc_27 ?_
      refine r_iload_n (pc := 34) ok dX8_openDoor_34 rfl ?_
      refine r_iald (pc := 35) ok (sc_s6 ho) (Nat.add_sub_cancel_left _ _) (mx_l (sc_lt ho) (va_up_self _ _ _)) dX8_openDoor_35 (fun i3 => ?_)
      refine k_I (pc := 36) (fun r4 => r4) (fun r4 => mx (va_up XX io sc) YY) (fun r4 hr_ => c_V (n := 1) ok cls5 (qu_sh (qid_qu ho)) rfl ml_Sc_72 wv_X5_livingIn yk_X5_livingIn rfl (Nat.le_of_ble_eq_true rfl) (Nat.le_of_ble_eq_true rfl) (tQu_livingIn (qid_qu ho) ((va_up_ne _ _ (qid_ne ho)).trans (hr_q)) hr_) rfl (Nat.le_of_ble_eq_true rfl) dX8_openDoor_36) (fun r4 => ?_)
      refine r_ior (pc := 39) ok dX8_openDoor_39 ?_
      refine r_bndI (fun x5 => ?_)
      refine r_istore_n (pc := 40) ok dX8_openDoor_40 (Nat.le_of_ble_eq_true rfl) rfl ?_
      refine r_aload_n (pc := 41) ok dX8_openDoor_41 rfl ?_
      refine r_getR (pc := 42) ok cls8 (sc_sh ho) (k := 13) rfl (Nat.le_of_ble_eq_true rfl) rfl dX8_openDoor_42 fl_Sc_39 ?_
      refine r_iload_n (pc := 45) ok dX8_openDoor_45 rfl ?_
      refine r_dup2 (pc := 46) ok dX8_openDoor_46 rfl rfl ?_
      refine r_iald (pc := 47) ok (sc_s10 ho) (Nat.add_sub_cancel_left _ _) (mx_l (sc_lt ho) (va_up_self _ _ _)) dX8_openDoor_47 (fun i6 => ?_)
      refine r_iconst (pc := 48) ok (1 : Int32) dX8_openDoor_48 ci_1 ?_
      refine r_iadd (pc := 49) ok dX8_openDoor_49 ?_
      refine r_iast (pc := 50) ok (sc_s10 ho) (Nat.add_sub_cancel_left _ _) rfl (fun s_ => mx (va_up XX io s_) YY) (pm_l (sc_lt ho) (pm_0 _ _)).1 (pm_l (sc_lt ho) (pm_0 _ _)).2 dX8_openDoor_50 (fun i7 s8 => ?_)
      refine r_aload_n (pc := 51) ok dX8_openDoor_51 rfl ?_
      refine r_getR (pc := 52) ok cls8 (sc_sh ho) (k := 0) rfl (Nat.le_of_ble_eq_true rfl) rfl dX8_openDoor_52 fl_Sc_42 ?_
      refine r_iload_n (pc := 55) ok dX8_openDoor_55 rfl ?_
      refine k_I (pc := 56) (fun r9 => r9) (fun r9 => mx (va_up XX io s8) YY) (fun r9 hr_ => c_V (n := 1) ok cls5 (qu_sh (qid_qu ho)) rfl ml_Sc_82 wv_X5_isStern yk_X5_isStern rfl (Nat.le_of_ble_eq_true rfl) (Nat.le_of_ble_eq_true rfl) (tQu_isStern (qid_qu ho) ((va_up_ne _ _ (qid_ne ho)).trans (hr_q)) hr_) rfl (Nat.le_of_ble_eq_true rfl) dX8_openDoor_56) (fun r9 => ?_)
      refine r_if_eq (pc := 59) ok 89 dX8_openDoor_59 rfl (fun _ => ?_) (fun _ => ?_)
      · exact wSc_openDoor_J89 ok ho hr_q
      · refine r_aload_n (pc := 62) ok dX8_openDoor_62 rfl ?_
        refine r_iload_n (pc := 63) ok dX8_openDoor_63 rfl ?_
        refine r_iload_n (pc := 64) ok dX8_openDoor_64 rfl ?_
        refine k_I (pc := 65) (fun r15 => r15) (fun r15 => mx (va_up XX io s8) YY) (fun r15 hr_ => c_V (n := 2) ok cls8 (sc_sh ho) rfl ml_Sc_116 wv_X8_doesKnow yk_X8_doesKnow rfl (Nat.le_of_ble_eq_true rfl) (Nat.le_of_ble_eq_true rfl) (tSc_doesKnow ho ((va_up_ne _ _ (qid_ne ho)).trans (hr_q)) (va_up_self _ _ _) hr_) rfl (Nat.le_of_ble_eq_true rfl) dX8_openDoor_65) (fun r15 => ?_)
        refine r_if_eq (pc := 68) ok 89 dX8_openDoor_68 rfl (fun _ => ?_) (fun _ => ?_)
        · exact wSc_openDoor_J89 ok ho hr_q
        · refine r_aload_n (pc := 71) ok dX8_openDoor_71 rfl ?_
          refine r_iload_n (pc := 72) ok dX8_openDoor_72 rfl ?_
          refine k_V (pc := 73)  (fun r16 => mx (va_up XX io r16) YY) (fun r16 hr_ => c_V (n := 1) ok cls8 (sc_sh ho) rfl ml_Sc_112 wv_X8_putInLane yk_X8_putInLane rfl (Nat.le_of_ble_eq_true rfl) (Nat.le_of_ble_eq_true rfl) (tSc_putInLane ho (hr_q) hr_) rfl (Nat.le_of_ble_eq_true rfl) dX8_openDoor_73) (fun r16 => ?_)
          refine r_aload_n (pc := 76) ok dX8_openDoor_76 rfl ?_
          refine r_dup (pc := 77) ok dX8_openDoor_77 rfl ?_
          refine r_getI (pc := 78) ok cls8 (sc_sh ho) (k := 2) rfl (Nat.le_of_ble_eq_true rfl) (mx_l (sc_lt ho) (va_up_self _ _ _)) dX8_openDoor_78 fl_Sc_50 ?_
          refine r_iconst (pc := 81) ok (1 : Int32) dX8_openDoor_81 ci_1 ?_
          refine r_iadd (pc := 82) ok dX8_openDoor_82 ?_
          refine r_putI (pc := 83) ok cls8 (sc_sh ho) (k := 2) rfl (Nat.le_of_ble_eq_true rfl) (fun s_ => mx (va_up XX io s_) YY) (pm_l (sc_lt ho) (pm_0 _ _)).1 (pm_l (sc_lt ho) (pm_0 _ _)).2 rfl rfl rfl dX8_openDoor_83 fl_Sc_50 (fun s17 => ?_)
          refine r_goto (pc := 86) ok 109 dX8_openDoor_86 rfl ?_
          refine r_lv (lk_s (lk_s (lk_n (lk_s lk_0 _) _) _) _) ?_
          exact wSc_openDoor_J109 ok ho hr_q
theorem tSc_openDoor {l : Launch} {G : Gx} {b : Nat} {io : Nat} {XX YY : Nat → Obj} {q : Obj} {sc : Obj} {v1 : Int32} {v2 : Int32} (ho : isSc io) (hr_q : XX (qid io) = q) {r : Obj} (hr : fSc_openDoor q sc v1 v2 = some r) : MetG l G b yX8_openDoor cX8_openDoor 4 none 2 [.ref (b + io), .int v1, .int v2] (mx (va_up XX io sc) YY) (qV G b (mx (va_up XX io r) YY)) := by
  refine met_start [some (.ref (b + io)), some (.int v1), some (.int v2), none] (by decide +kernel) (Nat.le_of_ble_eq_true rfl) rfl (fun Z hl ok => ?_)
  clear hl
  exact vSc_openDoor ok ho hr_q r (by rw [hr]; rfl)
theorem wSc_letTickGo_L15 {Z : Cx} {G : Gx} {b : Nat} {io : Nat} {XX YY : Nat → Obj} {q : Obj} {v1 : Int32} (ok : OK Z G b cX8_letTickGo 5 4 RX8 none) (ho : isSc io) (hr_q : XX (qid io) = q) {K : ((Int32 × Obj) ⊕ (Obj)) → Option (Obj)} (hc : ∀ (a : Int32 × Obj), VO Z G b 5 (fun (r : Obj) => QX Z b (qV G b (mx (va_up XX io r) YY))) (mx (va_up XX io a.2) YY) 15 [some (.ref (b + io)), some (.int v1), some (.int a.1), none, none] [] (K (.inl a))) (hx : ∀ (e : Obj), VO Z G b 5 (fun (r : Obj) => QX Z b (qV G b (mx (va_up XX io r) YY))) (mx (va_up XX io e) YY) 41 [some (.ref (b + io)), some (.int v1), none, none, none] [] (K (.inr e))) : ∀ (a : Int32 × Obj), VO Z G b 5 (fun (r : Obj) => QX Z b (qV G b (mx (va_up XX io r) YY))) (mx (va_up XX io a.2) YY) 15 [some (.ref (b + io)), some (.int v1), some (.int a.1), none, none] [] ((fSc_letTickGo_L15 q v1 a).bind K) := by
  intro a
  unfold fSc_letTickGo_L15
  refine r_iload_n (pc := 15) ok dX8_letTickGo_15 rfl ?_
  refine r_iload_n (pc := 16) ok dX8_letTickGo_16 rfl ?_
  refine r_icmp_ge (pc := 17) ok 41 dX8_letTickGo_17 rfl (fun _ => ?_) (fun _ => ?_)
  · refine r_lv (lk_s (lk_s (lk_n (lk_n (lk_n lk_0 _) _) _) _) _) ?_
    exact hx a.2
  · refine r_aload_n (pc := 20) ok dX8_letTickGo_20 rfl ?_
    refine r_getR (pc := 21) ok cls8 (sc_sh ho) (k := 6) rfl (Nat.le_of_ble_eq_true rfl) rfl dX8_letTickGo_21 fl_Sc_18 ?_
    refine r_iload_n (pc := 24) ok dX8_letTickGo_24 rfl ?_
    refine r_iald (pc := 25) ok (sc_s3 ho) (Nat.add_sub_cancel_left _ _) (mx_l (sc_lt ho) (va_up_self _ _ _)) dX8_letTickGo_25 (fun i2 => ?_)
    refine r_iconst (pc := 26) ok (2 : Int32) dX8_letTickGo_26 ci_2 ?_
    refine r_icmp_ne (pc := 27) ok 35 dX8_letTickGo_27 rfl (fun _ => ?_) (fun _ => ?_)
    · refine r_aload_n (pc := 30) ok dX8_letTickGo_30 rfl ?_
      refine r_iload_n (pc := 31) ok dX8_letTickGo_31 rfl ?_
      refine k_V (pc := 32)  (fun r3 => mx (va_up XX io r3) YY) (fun r3 hr_ => c_V (n := 1) ok cls8 (sc_sh ho) rfl ml_Sc_150 wv_X8_stayOn yk_X8_stayOn rfl (Nat.le_of_ble_eq_true rfl) (Nat.le_of_ble_eq_true rfl) (tSc_stayOn ho (hr_q) hr_) rfl (Nat.le_of_ble_eq_true rfl) dX8_letTickGo_32) (fun r3 => ?_)
      refine r_iinc (pc := 35) ok (1 : Int32) dX8_letTickGo_35 ci_1 rfl (Nat.le_of_ble_eq_true rfl) rfl ?_
      refine r_goto (pc := 38) ok 15 dX8_letTickGo_38 rfl ?_
      exact hc ((a.1 + (1 : Int32)), r3)
    · refine r_iinc (pc := 35) ok (1 : Int32) dX8_letTickGo_35 ci_1 rfl (Nat.le_of_ble_eq_true rfl) rfl ?_
      refine r_goto (pc := 38) ok 15 dX8_letTickGo_38 rfl ?_
      exact hc ((a.1 + (1 : Int32)), a.2)
theorem wSc_letTickGo_L43 {Z : Cx} {G : Gx} {b : Nat} {io : Nat} {XX YY : Nat → Obj} {q : Obj} {v1 : Int32} (ok : OK Z G b cX8_letTickGo 5 4 RX8 none) (ho : isSc io) (hr_q : XX (qid io) = q) {K : ((Int32 × Obj) ⊕ (Obj)) → Option (Obj)} (hc : ∀ (a : Int32 × Obj), VO Z G b 5 (fun (r : Obj) => QX Z b (qV G b (mx (va_up XX io r) YY))) (mx (va_up XX io a.2) YY) 43 [some (.ref (b + io)), some (.int v1), some (.int a.1), none, none] [] (K (.inl a))) (hx : ∀ (e : Obj), VO Z G b 5 (fun (r : Obj) => QX Z b (qV G b (mx (va_up XX io r) YY))) (mx (va_up XX io e) YY) 68 [some (.ref (b + io)), some (.int v1), none, none, none] [] (K (.inr e))) : ∀ (a : Int32 × Obj), VO Z G b 5 (fun (r : Obj) => QX Z b (qV G b (mx (va_up XX io r) YY))) (mx (va_up XX io a.2) YY) 43 [some (.ref (b + io)), some (.int v1), some (.int a.1), none, none] [] ((fSc_letTickGo_L43 q v1 a).bind K) := by
  intro a
  unfold fSc_letTickGo_L43
  refine r_iload_n (pc := 43) ok dX8_letTickGo_43 rfl ?_
  refine r_iload_n (pc := 44) ok dX8_letTickGo_44 rfl ?_
  refine r_icmp_ge (pc := 45) ok 68 dX8_letTickGo_45 rfl (fun _ => ?_) (fun _ => ?_)
  · refine r_lv (lk_s (lk_s (lk_n (lk_n (lk_n lk_0 _) _) _) _) _) ?_
    exact hx a.2
  · refine r_aload_n (pc := 48) ok dX8_letTickGo_48 rfl ?_
    refine r_getR (pc := 49) ok cls8 (sc_sh ho) (k := 6) rfl (Nat.le_of_ble_eq_true rfl) rfl dX8_letTickGo_49 fl_Sc_18 ?_
    refine r_iload_n (pc := 52) ok dX8_letTickGo_52 rfl ?_
    refine r_iald (pc := 53) ok (sc_s3 ho) (Nat.add_sub_cancel_left _ _) (mx_l (sc_lt ho) (va_up_self _ _ _)) dX8_letTickGo_53 (fun i5 => ?_)
    refine r_if_ne (pc := 54) ok 62 dX8_letTickGo_54 rfl (fun _ => ?_) (fun _ => ?_)
    · refine r_aload_n (pc := 57) ok dX8_letTickGo_57 rfl ?_
      refine r_iload_n (pc := 58) ok dX8_letTickGo_58 rfl ?_
      refine k_V (pc := 59)  (fun r6 => mx (va_up XX io r6) YY) (fun r6 hr_ => c_V (n := 1) ok cls8 (sc_sh ho) rfl ml_Sc_153 wv_X8_walkOn yk_X8_walkOn rfl (Nat.le_of_ble_eq_true rfl) (Nat.le_of_ble_eq_true rfl) (tSc_walkOn ho (hr_q) hr_) rfl (Nat.le_of_ble_eq_true rfl) dX8_letTickGo_59) (fun r6 => ?_)
      refine r_iinc (pc := 62) ok (1 : Int32) dX8_letTickGo_62 ci_1 rfl (Nat.le_of_ble_eq_true rfl) rfl ?_
      refine r_goto (pc := 65) ok 43 dX8_letTickGo_65 rfl ?_
      exact hc ((a.1 + (1 : Int32)), r6)
    · refine r_iinc (pc := 62) ok (1 : Int32) dX8_letTickGo_62 ci_1 rfl (Nat.le_of_ble_eq_true rfl) rfl ?_
      refine r_goto (pc := 65) ok 43 dX8_letTickGo_65 rfl ?_
      exact hc ((a.1 + (1 : Int32)), a.2)
theorem wSc_letTickGo_L70 {Z : Cx} {G : Gx} {b : Nat} {io : Nat} {XX YY : Nat → Obj} {q : Obj} {v1 : Int32} (ok : OK Z G b cX8_letTickGo 5 4 RX8 none) (ho : isSc io) (hr_q : XX (qid io) = q) {K : ((Int32 × Obj) ⊕ (Obj)) → Option (Obj)} (hc : ∀ (a : Int32 × Obj), VO Z G b 5 (fun (r : Obj) => QX Z b (qV G b (mx (va_up XX io r) YY))) (mx (va_up XX io a.2) YY) 70 [some (.ref (b + io)), some (.int v1), some (.int a.1), none, none] [] (K (.inl a))) (hx : ∀ (e : Obj), VO Z G b 5 (fun (r : Obj) => QX Z b (qV G b (mx (va_up XX io r) YY))) (mx (va_up XX io e) YY) 95 [some (.ref (b + io)), some (.int v1), none, none, none] [] (K (.inr e))) : ∀ (a : Int32 × Obj), VO Z G b 5 (fun (r : Obj) => QX Z b (qV G b (mx (va_up XX io r) YY))) (mx (va_up XX io a.2) YY) 70 [some (.ref (b + io)), some (.int v1), some (.int a.1), none, none] [] ((fSc_letTickGo_L70 q v1 a).bind K) := by
  intro a
  unfold fSc_letTickGo_L70
  refine r_iload_n (pc := 70) ok dX8_letTickGo_70 rfl ?_
  refine r_iload_n (pc := 71) ok dX8_letTickGo_71 rfl ?_
  refine r_icmp_ge (pc := 72) ok 95 dX8_letTickGo_72 rfl (fun _ => ?_) (fun _ => ?_)
  · refine r_lv (lk_s (lk_s (lk_n (lk_n (lk_n lk_0 _) _) _) _) _) ?_
    exact hx a.2
  · refine r_aload_n (pc := 75) ok dX8_letTickGo_75 rfl ?_
    refine r_getR (pc := 76) ok cls8 (sc_sh ho) (k := 6) rfl (Nat.le_of_ble_eq_true rfl) rfl dX8_letTickGo_76 fl_Sc_18 ?_
    refine r_iload_n (pc := 79) ok dX8_letTickGo_79 rfl ?_
    refine r_iald (pc := 80) ok (sc_s3 ho) (Nat.add_sub_cancel_left _ _) (mx_l (sc_lt ho) (va_up_self _ _ _)) dX8_letTickGo_80 (fun i8 => ?_)
    refine r_if_ne (pc := 81) ok 89 dX8_letTickGo_81 rfl (fun _ => ?_) (fun _ => ?_)
    · refine r_aload_n (pc := 84) ok dX8_letTickGo_84 rfl ?_
      refine r_iload_n (pc := 85) ok dX8_letTickGo_85 rfl ?_
      refine k_V (pc := 86)  (fun r9 => mx (va_up XX io r9) YY) (fun r9 hr_ => c_V (n := 1) ok cls8 (sc_sh ho) rfl ml_Sc_156 wv_X8_callAtDoor yk_X8_callAtDoor rfl (Nat.le_of_ble_eq_true rfl) (Nat.le_of_ble_eq_true rfl) (tSc_callAtDoor ho (hr_q) hr_) rfl (Nat.le_of_ble_eq_true rfl) dX8_letTickGo_86) (fun r9 => ?_)
      refine r_iinc (pc := 89) ok (1 : Int32) dX8_letTickGo_89 ci_1 rfl (Nat.le_of_ble_eq_true rfl) rfl ?_
      refine r_goto (pc := 92) ok 70 dX8_letTickGo_92 rfl ?_
      exact hc ((a.1 + (1 : Int32)), r9)
    · refine r_iinc (pc := 89) ok (1 : Int32) dX8_letTickGo_89 ci_1 rfl (Nat.le_of_ble_eq_true rfl) rfl ?_
      refine r_goto (pc := 92) ok 70 dX8_letTickGo_92 rfl ?_
      exact hc ((a.1 + (1 : Int32)), a.2)
theorem wSc_letTickGo_L99 {Z : Cx} {G : Gx} {b : Nat} {io : Nat} {XX YY : Nat → Obj} {q : Obj} {v1 : Int32} (ok : OK Z G b cX8_letTickGo 5 4 RX8 none) (ho : isSc io) (hr_q : XX (qid io) = q) {K : ((Int32 × Int32 × Obj) ⊕ (Obj)) → Option (Obj)} (hc : ∀ (a : Int32 × Int32 × Obj), VO Z G b 5 (fun (r : Obj) => QX Z b (qV G b (mx (va_up XX io r) YY))) (mx (va_up XX io a.2.2) YY) 99 [some (.ref (b + io)), some (.int v1), some (.int a.1), some (.int a.2.1), none] [] (K (.inl a))) (hx : ∀ (e : Obj), VO Z G b 5 (fun (r : Obj) => QX Z b (qV G b (mx (va_up XX io r) YY))) (mx (va_up XX io e) YY) 161 [some (.ref (b + io)), none, none, none, none] [] (K (.inr e))) : ∀ (a : Int32 × Int32 × Obj), VO Z G b 5 (fun (r : Obj) => QX Z b (qV G b (mx (va_up XX io r) YY))) (mx (va_up XX io a.2.2) YY) 99 [some (.ref (b + io)), some (.int v1), some (.int a.1), some (.int a.2.1), none] [] ((fSc_letTickGo_L99 q v1 a).bind K) := by
  intro a
  unfold fSc_letTickGo_L99
  refine r_iload_n (pc := 99) ok dX8_letTickGo_99 rfl ?_
  refine r_iload_n (pc := 100) ok dX8_letTickGo_100 rfl ?_
  refine r_icmp_ge (pc := 101) ok 161 dX8_letTickGo_101 rfl (fun _ => ?_) (fun _ => ?_)
  · refine r_lv (lk_s (lk_n (lk_n (lk_n (lk_n lk_0 _) _) _) _) _) ?_
    exact hx a.2.2
  · refine r_aload_n (pc := 104) ok dX8_letTickGo_104 rfl ?_
    refine r_getR (pc := 105) ok cls8 (sc_sh ho) (k := 6) rfl (Nat.le_of_ble_eq_true rfl) rfl dX8_letTickGo_105 fl_Sc_18 ?_
    refine r_iload_n (pc := 108) ok dX8_letTickGo_108 rfl ?_
    refine r_iald (pc := 109) ok (sc_s3 ho) (Nat.add_sub_cancel_left _ _) (mx_l (sc_lt ho) (va_up_self _ _ _)) dX8_letTickGo_109 (fun i11 => ?_)
    refine r_iconst (pc := 110) ok (1 : Int32) dX8_letTickGo_110 ci_1 ?_
    refine r_icmp_ne (pc := 111) ok 155 dX8_letTickGo_111 rfl (fun _ => ?_) (fun _ => ?_)
    · refine r_aload_n (pc := 114) ok dX8_letTickGo_114 rfl ?_
      refine r_iload_n (pc := 115) ok dX8_letTickGo_115 rfl ?_
      refine r_iload_n (pc := 116) ok dX8_letTickGo_116 rfl ?_
      refine k_I (pc := 117) (fun r12 => r12) (fun r12 => mx (va_up XX io a.2.2) YY) (fun r12 hr_ => c_V (n := 2) ok cls8 (sc_sh ho) rfl ml_Sc_159 wv_X8_answererOf yk_X8_answererOf rfl (Nat.le_of_ble_eq_true rfl) (Nat.le_of_ble_eq_true rfl) (tSc_answererOf ho ((va_up_ne _ _ (qid_ne ho)).trans (hr_q)) (va_up_self _ _ _) hr_) rfl (Nat.le_of_ble_eq_true rfl) dX8_letTickGo_117) (fun r12 => ?_)
      refine r_istore (pc := 120) ok dX8_letTickGo_120 (Nat.le_of_ble_eq_true rfl) rfl ?_
      refine r_iload (pc := 122) ok dX8_letTickGo_122 rfl ?_
      refine r_iconst (pc := 124) ok (-1 : Int32) dX8_letTickGo_124 ci_m1 ?_
      refine r_icmp_ne (pc := 125) ok 141 dX8_letTickGo_125 rfl (fun _ => ?_) (fun _ => ?_)
      · refine r_aload_n (pc := 128) ok dX8_letTickGo_128 rfl ?_
        refine r_getR (pc := 129) ok cls8 (sc_sh ho) (k := 12) rfl (Nat.le_of_ble_eq_true rfl) rfl dX8_letTickGo_129 fl_Sc_36 ?_
        refine r_iload_n (pc := 132) ok dX8_letTickGo_132 rfl ?_
        refine r_dup2 (pc := 133) ok dX8_letTickGo_133 rfl rfl ?_
        refine r_iald (pc := 134) ok (sc_s9 ho) (Nat.add_sub_cancel_left _ _) (mx_l (sc_lt ho) (va_up_self _ _ _)) dX8_letTickGo_134 (fun i13 => ?_)
        refine r_iconst (pc := 135) ok (1 : Int32) dX8_letTickGo_135 ci_1 ?_
        refine r_iadd (pc := 136) ok dX8_letTickGo_136 ?_
        refine r_iast (pc := 137) ok (sc_s9 ho) (Nat.add_sub_cancel_left _ _) rfl (fun s_ => mx (va_up XX io s_) YY) (pm_l (sc_lt ho) (pm_0 _ _)).1 (pm_l (sc_lt ho) (pm_0 _ _)).2 dX8_letTickGo_137 (fun i14 s15 => ?_)
        refine r_goto (pc := 138) ok 155 dX8_letTickGo_138 rfl ?_
        refine r_iinc (pc := 155) ok (1 : Int32) dX8_letTickGo_155 ci_1 rfl (Nat.le_of_ble_eq_true rfl) rfl ?_
        refine r_goto (pc := 158) ok 99 dX8_letTickGo_158 rfl ?_
        refine r_lv (lk_s (lk_s (lk_s (lk_s (lk_n lk_0 _) _) _) _) _) ?_
        exact hc (a.1, (a.2.1 + (1 : Int32)), s15)
      · refine r_iload_n (pc := 141) ok dX8_letTickGo_141 rfl ?_
        refine r_iconst (pc := 142) ok (1 : Int32) dX8_letTickGo_142 ci_1 ?_
        refine r_iload (pc := 143) ok dX8_letTickGo_143 rfl ?_
        refine r_ishl (pc := 145) ok dX8_letTickGo_145 ?_
        refine r_ior (pc := 146) ok dX8_letTickGo_146 ?_
        refine r_bndI (fun x16 => ?_)
        refine r_istore_n (pc := 147) ok dX8_letTickGo_147 (Nat.le_of_ble_eq_true rfl) rfl ?_
        refine r_aload_n (pc := 148) ok dX8_letTickGo_148 rfl ?_
        refine r_iload (pc := 149) ok dX8_letTickGo_149 rfl ?_
        refine r_iload_n (pc := 151) ok dX8_letTickGo_151 rfl ?_
        refine k_V (pc := 152)  (fun r17 => mx (va_up XX io r17) YY) (fun r17 hr_ => c_V (n := 2) ok cls8 (sc_sh ho) rfl ml_Sc_162 wv_X8_openDoor yk_X8_openDoor rfl (Nat.le_of_ble_eq_true rfl) (Nat.le_of_ble_eq_true rfl) (tSc_openDoor ho (hr_q) hr_) rfl (Nat.le_of_ble_eq_true rfl) dX8_letTickGo_152) (fun r17 => ?_)
        refine r_iinc (pc := 155) ok (1 : Int32) dX8_letTickGo_155 ci_1 rfl (Nat.le_of_ble_eq_true rfl) rfl ?_
        refine r_goto (pc := 158) ok 99 dX8_letTickGo_158 rfl ?_
        refine r_lv (lk_s (lk_s (lk_s (lk_s (lk_n lk_0 _) _) _) _) _) ?_
        exact hc (x16, (a.2.1 + (1 : Int32)), r17)
    · refine r_iinc (pc := 155) ok (1 : Int32) dX8_letTickGo_155 ci_1 rfl (Nat.le_of_ble_eq_true rfl) rfl ?_
      refine r_goto (pc := 158) ok 99 dX8_letTickGo_158 rfl ?_
      exact hc (a.1, (a.2.1 + (1 : Int32)), a.2.2)
theorem vSc_letTickGo {Z : Cx} {G : Gx} {b : Nat} {io : Nat} {XX YY : Nat → Obj} {q : Obj} {sc : Obj} (ok : OK Z G b cX8_letTickGo 5 4 RX8 none) (ho : isSc io) (hr_q : XX (qid io) = q) : VO Z G b 5 (fun (r : Obj) => QX Z b (qV G b (mx (va_up XX io r) YY))) (mx (va_up XX io sc) YY) 0 [some (.ref (b + io)), none, none, none, none] [] ((fSc_letTickGo q sc).bind some) := by
  unfold fSc_letTickGo
  refine r_bipush (pc := 0) ok (8 : Int32) dX8_letTickGo_0 cb_8 ?_
  refine r_aload_n (pc := 2) ok dX8_letTickGo_2 rfl ?_
  refine r_getR (pc := 3) ok cls8 (sc_sh ho) (k := 0) rfl (Nat.le_of_ble_eq_true rfl) rfl dX8_letTickGo_3 fl_Sc_42 ?_
  refine r_getI (pc := 6) ok cls5 (qu_sh (qid_qu ho)) (k := 4) rfl (Nat.le_of_ble_eq_true rfl) (mx_l (qu_lt (qid_qu ho)) ((va_up_ne _ _ (qid_ne ho)).trans (hr_q))) dX8_letTickGo_6 fl_Sc_92 ?_
  refine r_mmin (pc := 9) ok ml_Sc_145 (Nat.le_of_ble_eq_true rfl) (Nat.le_of_ble_eq_true rfl) dX8_letTickGo_9 (fun r1 => ?_)
  refine r_istore_n (pc := 12) ok dX8_letTickGo_12 (Nat.le_of_ble_eq_true rfl) rfl ?_
  refine r_iconst (pc := 13) ok (0 : Int32) dX8_letTickGo_13 ci_0 ?_
  refine r_istore_n (pc := 14) ok dX8_letTickGo_14 (Nat.le_of_ble_eq_true rfl) rfl ?_
  refine r_iter (P := fun (a15 : Int32 × Obj) o => VO Z G b 5 (fun (r : Obj) => QX Z b (qV G b (mx (va_up XX io r) YY))) (mx (va_up XX io a15.2) YY) 15 [some (.ref (b + io)), some (.int r1), some (.int a15.1), none, none] [] o) (E := fun (e_15 : Obj) o => VO Z G b 5 (fun (r : Obj) => QX Z b (qV G b (mx (va_up XX io r) YY))) (mx (va_up XX io e_15) YY) 41 [some (.ref (b + io)), some (.int r1), none, none, none] [] o) (fun _ => r_none) (fun K hc hx => wSc_letTickGo_L15 ok ho hr_q (K := K) hc hx) (fun e4 => ?_) FU ((0 : Int32), sc)
  refine r_iconst (pc := 41) ok (0 : Int32) dX8_letTickGo_41 ci_0 ?_
  refine r_istore_n (pc := 42) ok dX8_letTickGo_42 (Nat.le_of_ble_eq_true rfl) rfl ?_
  refine r_iter (P := fun (a43 : Int32 × Obj) o => VO Z G b 5 (fun (r : Obj) => QX Z b (qV G b (mx (va_up XX io r) YY))) (mx (va_up XX io a43.2) YY) 43 [some (.ref (b + io)), some (.int r1), some (.int a43.1), none, none] [] o) (E := fun (e_43 : Obj) o => VO Z G b 5 (fun (r : Obj) => QX Z b (qV G b (mx (va_up XX io r) YY))) (mx (va_up XX io e_43) YY) 68 [some (.ref (b + io)), some (.int r1), none, none, none] [] o) (fun _ => r_none) (fun K hc hx => wSc_letTickGo_L43 ok ho hr_q (K := K) hc hx) (fun e7 => ?_) FU ((0 : Int32), e4)
  refine r_iconst (pc := 68) ok (0 : Int32) dX8_letTickGo_68 ci_0 ?_
  refine r_istore_n (pc := 69) ok dX8_letTickGo_69 (Nat.le_of_ble_eq_true rfl) rfl ?_
  refine r_iter (P := fun (a70 : Int32 × Obj) o => VO Z G b 5 (fun (r : Obj) => QX Z b (qV G b (mx (va_up XX io r) YY))) (mx (va_up XX io a70.2) YY) 70 [some (.ref (b + io)), some (.int r1), some (.int a70.1), none, none] [] o) (E := fun (e_70 : Obj) o => VO Z G b 5 (fun (r : Obj) => QX Z b (qV G b (mx (va_up XX io r) YY))) (mx (va_up XX io e_70) YY) 95 [some (.ref (b + io)), some (.int r1), none, none, none] [] o) (fun _ => r_none) (fun K hc hx => wSc_letTickGo_L70 ok ho hr_q (K := K) hc hx) (fun e10 => ?_) FU ((0 : Int32), e7)
  refine r_iconst (pc := 95) ok (0 : Int32) dX8_letTickGo_95 ci_0 ?_
  refine r_istore_n (pc := 96) ok dX8_letTickGo_96 (Nat.le_of_ble_eq_true rfl) rfl ?_
  refine r_iconst (pc := 97) ok (0 : Int32) dX8_letTickGo_97 ci_0 ?_
  refine r_istore_n (pc := 98) ok dX8_letTickGo_98 (Nat.le_of_ble_eq_true rfl) rfl ?_
  refine r_iter (P := fun (a99 : Int32 × Int32 × Obj) o => VO Z G b 5 (fun (r : Obj) => QX Z b (qV G b (mx (va_up XX io r) YY))) (mx (va_up XX io a99.2.2) YY) 99 [some (.ref (b + io)), some (.int r1), some (.int a99.1), some (.int a99.2.1), none] [] o) (E := fun (e_99 : Obj) o => VO Z G b 5 (fun (r : Obj) => QX Z b (qV G b (mx (va_up XX io r) YY))) (mx (va_up XX io e_99) YY) 161 [some (.ref (b + io)), none, none, none, none] [] o) (fun _ => r_none) (fun K hc hx => wSc_letTickGo_L99 ok ho hr_q (K := K) hc hx) (fun e18 => ?_) FU ((0 : Int32), (0 : Int32), e10)
  refine r_aload_n (pc := 161) ok dX8_letTickGo_161 rfl ?_
  refine r_dup (pc := 162) ok dX8_letTickGo_162 rfl ?_
  refine r_getI (pc := 163) ok cls8 (sc_sh ho) (k := 1) rfl (Nat.le_of_ble_eq_true rfl) (mx_l (sc_lt ho) (va_up_self _ _ _)) dX8_letTickGo_163 fl_Sc_46 ?_
  refine r_iconst (pc := 166) ok (1 : Int32) dX8_letTickGo_166 ci_1 ?_
  refine r_iadd (pc := 167) ok dX8_letTickGo_167 ?_
  refine r_putI (pc := 168) ok cls8 (sc_sh ho) (k := 1) rfl (Nat.le_of_ble_eq_true rfl) (fun s_ => mx (va_up XX io s_) YY) (pm_l (sc_lt ho) (pm_0 _ _)).1 (pm_l (sc_lt ho) (pm_0 _ _)).2 rfl rfl rfl dX8_letTickGo_168 fl_Sc_46 (fun s19 => ?_)
  exact r_vret (pc := 171) ok dX8_letTickGo_171 rfl
theorem tSc_letTickGo {l : Launch} {G : Gx} {b : Nat} {io : Nat} {XX YY : Nat → Obj} {q : Obj} {sc : Obj} (ho : isSc io) (hr_q : XX (qid io) = q) {r : Obj} (hr : fSc_letTickGo q sc = some r) : MetG l G b yX8_letTickGo cX8_letTickGo 5 none 4 [.ref (b + io)] (mx (va_up XX io sc) YY) (qV G b (mx (va_up XX io r) YY)) := by
  refine met_start [some (.ref (b + io)), none, none, none, none] (by decide +kernel) (Nat.le_of_ble_eq_true rfl) rfl (fun Z hl ok => ?_)
  clear hl
  exact vSc_letTickGo ok ho hr_q r (by rw [hr]; rfl)
theorem wSc_letTicksGo_L2 {Z : Cx} {G : Gx} {b : Nat} {io : Nat} {XX YY : Nat → Obj} {q : Obj} {v1 : Int32} (ok : OK Z G b cX8_letTicksGo 3 5 RX8 (some .int)) (ho : isSc io) (hr_q : XX (qid io) = q) {K : ((Int32 × Obj) ⊕ (Int32 × Obj)) → Option (Int32 × Obj)} (hc : ∀ (a : Int32 × Obj), VO Z G b 3 (fun (r : Int32 × Obj) => QX Z b (qI G b r.1 (mx (va_up XX io r.2) YY))) (mx (va_up XX io a.2) YY) 2 [some (.ref (b + io)), some (.int v1), some (.int a.1)] [] (K (.inl a))) (hx : ∀ (e : Int32 × Obj), VO Z G b 3 (fun (r : Int32 × Obj) => QX Z b (qI G b r.1 (mx (va_up XX io r.2) YY))) (mx (va_up XX io e.2) YY) 27 [none, none, some (.int e.1)] [] (K (.inr e))) : ∀ (a : Int32 × Obj), VO Z G b 3 (fun (r : Int32 × Obj) => QX Z b (qI G b r.1 (mx (va_up XX io r.2) YY))) (mx (va_up XX io a.2) YY) 2 [some (.ref (b + io)), some (.int v1), some (.int a.1)] [] ((fSc_letTicksGo_L2 q v1 a).bind K) := by
  intro a
  unfold fSc_letTicksGo_L2
  refine r_iload_n (pc := 2) ok dX8_letTicksGo_2 rfl ?_
  refine r_iload_n (pc := 3) ok dX8_letTicksGo_3 rfl ?_
  refine r_icmp_ge (pc := 4) ok 27 dX8_letTicksGo_4 rfl (fun _ => ?_) (fun _ => ?_)
  · refine r_lv (lk_n (lk_n (lk_s lk_0 _) _) _) ?_
    exact hx (a.1, a.2)
  · refine r_aload_n (pc := 7) ok dX8_letTicksGo_7 rfl ?_
    refine r_getI (pc := 8) ok cls8 (sc_sh ho) (k := 1) rfl (Nat.le_of_ble_eq_true rfl) (mx_l (sc_lt ho) (va_up_self _ _ _)) dX8_letTicksGo_8 fl_Sc_46 ?_
    refine r_sipush (pc := 11) ok (1000 : Int32) dX8_letTicksGo_11 cs_1000 ?_
    refine r_icmp_ge (pc := 14) ok 27 dX8_letTicksGo_14 rfl (fun _ => ?_) (fun _ => ?_)
    · refine r_lv (lk_n (lk_n (lk_s lk_0 _) _) _) ?_
      exact hx (a.1, a.2)
    · refine r_aload_n (pc := 17) ok dX8_letTicksGo_17 rfl ?_
      refine k_V (pc := 18)  (fun r1 => mx (va_up XX io r1) YY) (fun r1 hr_ => c_V (n := 0) ok cls8 (sc_sh ho) rfl ml_Sc_119 wv_X8_letTickGo yk_X8_letTickGo rfl (Nat.le_of_ble_eq_true rfl) (Nat.le_of_ble_eq_true rfl) (tSc_letTickGo ho (hr_q) hr_) rfl (Nat.le_of_ble_eq_true rfl) dX8_letTicksGo_18) (fun r1 => ?_)
      refine r_iinc (pc := 21) ok (1 : Int32) dX8_letTicksGo_21 ci_1 rfl (Nat.le_of_ble_eq_true rfl) rfl ?_
      refine r_goto (pc := 24) ok 2 dX8_letTicksGo_24 rfl ?_
      exact hc ((a.1 + (1 : Int32)), r1)
theorem vSc_letTicksGo {Z : Cx} {G : Gx} {b : Nat} {io : Nat} {XX YY : Nat → Obj} {q : Obj} {sc : Obj} {v1 : Int32} (ok : OK Z G b cX8_letTicksGo 3 5 RX8 (some .int)) (ho : isSc io) (hr_q : XX (qid io) = q) : VO Z G b 3 (fun (r : Int32 × Obj) => QX Z b (qI G b r.1 (mx (va_up XX io r.2) YY))) (mx (va_up XX io sc) YY) 0 [some (.ref (b + io)), some (.int v1), none] [] ((fSc_letTicksGo q sc v1).bind some) := by
  unfold fSc_letTicksGo
  refine r_iconst (pc := 0) ok (0 : Int32) dX8_letTicksGo_0 ci_0 ?_
  refine r_istore_n (pc := 1) ok dX8_letTicksGo_1 (Nat.le_of_ble_eq_true rfl) rfl ?_
  refine r_iter (P := fun (a2 : Int32 × Obj) o => VO Z G b 3 (fun (r : Int32 × Obj) => QX Z b (qI G b r.1 (mx (va_up XX io r.2) YY))) (mx (va_up XX io a2.2) YY) 2 [some (.ref (b + io)), some (.int v1), some (.int a2.1)] [] o) (E := fun (e_2 : Int32 × Obj) o => VO Z G b 3 (fun (r : Int32 × Obj) => QX Z b (qI G b r.1 (mx (va_up XX io r.2) YY))) (mx (va_up XX io e_2.2) YY) 27 [none, none, some (.int e_2.1)] [] o) (fun _ => r_none) (fun K hc hx => wSc_letTicksGo_L2 ok ho hr_q (K := K) hc hx) (fun e2 => ?_) FU ((0 : Int32), sc)
  refine r_iload_n (pc := 27) ok dX8_letTicksGo_27 rfl ?_
  exact r_iret (pc := 28) ok dX8_letTicksGo_28 rfl
theorem tSc_letTicksGo {l : Launch} {G : Gx} {b : Nat} {io : Nat} {XX YY : Nat → Obj} {q : Obj} {sc : Obj} {v1 : Int32} (ho : isSc io) (hr_q : XX (qid io) = q) {r : Int32 × Obj} (hr : fSc_letTicksGo q sc v1 = some r) : MetG l G b yX8_letTicksGo cX8_letTicksGo 3 (some .int) 5 [.ref (b + io), .int v1] (mx (va_up XX io sc) YY) (qI G b r.1 (mx (va_up XX io r.2) YY)) := by
  refine met_start [some (.ref (b + io)), some (.int v1), none] (by decide +kernel) (Nat.le_of_ble_eq_true rfl) rfl (fun Z hl ok => ?_)
  clear hl
  exact vSc_letTicksGo ok ho hr_q r (by rw [hr]; rfl)
theorem vPa_keepIfAny {Z : Cx} {G : Gx} {b : Nat} {YY : Nat → Obj} {X : Nat → Obj} {v1 : Int32} (ok : OK Z G b cX4_keepIfAny 2 1 RX4 (some .int)) : VO Z G b 2 (fun (r : Int32 × (Nat → Obj)) => QX Z b (qI G b r.1 (mx r.2 YY))) (mx X YY) 0 [some (.ref (b + 100)), some (.int v1)] [] ((fPa_keepIfAny X v1).bind some) := by
  unfold fPa_keepIfAny
  refine r_iload_n (pc := 0) ok dX4_keepIfAny_0 rfl ?_
  refine r_if_le (pc := 1) ok 8 dX4_keepIfAny_1 rfl (fun _ => ?_) (fun _ => ?_)
  · refine r_iload_n (pc := 8) ok dX4_keepIfAny_8 rfl ?_
    exact r_iret (pc := 9) ok dX4_keepIfAny_9 rfl
  · refine r_aload_n (pc := 4) ok dX4_keepIfAny_4 rfl ?_
    refine k_V (pc := 5)  (fun r1 => mx r1 YY) (fun r1 hr_ => c_V (n := 0) ok cls4 sh_100 rfl ml_Pa_35 wv_X4_keep yk_X4_keep rfl (Nat.le_of_ble_eq_true rfl) (Nat.le_of_ble_eq_true rfl) (tPa_keep hr_) rfl (Nat.le_of_ble_eq_true rfl) dX4_keepIfAny_5) (fun r1 => ?_)
    refine r_iload_n (pc := 8) ok dX4_keepIfAny_8 rfl ?_
    exact r_iret (pc := 9) ok dX4_keepIfAny_9 rfl
theorem tPa_keepIfAny {l : Launch} {G : Gx} {b : Nat} {YY : Nat → Obj} {X : Nat → Obj} {v1 : Int32} {r : Int32 × (Nat → Obj)} (hr : fPa_keepIfAny X v1 = some r) : MetG l G b yX4_keepIfAny cX4_keepIfAny 2 (some .int) 1 [.ref (b + 100), .int v1] (mx X YY) (qI G b r.1 (mx r.2 YY)) := by
  refine met_start [some (.ref (b + 100)), some (.int v1)] (by decide +kernel) (Nat.le_of_ble_eq_true rfl) rfl (fun Z hl ok => ?_)
  clear hl
  exact vPa_keepIfAny ok r (by rw [hr]; rfl)
theorem vKL_ticks {Z : Cx} {G : Gx} {b : Nat} {YY : Nat → Obj} {X : Nat → Obj} {v1 : Int32} (ok : OK Z G b cX11_ticks 2 6 RX11 (some .int)) : VO Z G b 2 (fun (r : Int32 × (Nat → Obj)) => QX Z b (qI G b r.1 (mx r.2 YY))) (mx X YY) 0 [some (.ref (b + 0)), some (.int v1)] [] ((fKL_ticks X v1).bind some) := by
  unfold fKL_ticks
  refine r_iload_n (pc := 0) ok dX11_ticks_0 rfl ?_
  refine r_iconst (pc := 1) ok (1 : Int32) dX11_ticks_1 ci_1 ?_
  refine r_icmp_lt (pc := 2) ok 11 dX11_ticks_2 rfl (fun _ => ?_) (fun _ => ?_)
  · refine r_iconst (pc := 11) ok (-1 : Int32) dX11_ticks_11 ci_m1 ?_
    exact r_iret (pc := 12) ok dX11_ticks_12 rfl
  · refine r_iload_n (pc := 5) ok dX11_ticks_5 rfl ?_
    refine r_bipush (pc := 6) ok (60 : Int32) dX11_ticks_6 cb_60 ?_
    refine r_icmp_le (pc := 8) ok 13 dX11_ticks_8 rfl (fun _ => ?_) (fun _ => ?_)
    · refine r_aload_n (pc := 13) ok dX11_ticks_13 rfl ?_
      refine r_getR (pc := 14) ok cls11 sh_0 (k := 5) rfl (Nat.le_of_ble_eq_true rfl) rfl dX11_ticks_14 fl_KL_41 ?_
      refine r_aload_n (pc := 17) ok dX11_ticks_17 rfl ?_
      refine r_getR (pc := 18) ok cls11 sh_0 (k := 1) rfl (Nat.le_of_ble_eq_true rfl) rfl dX11_ticks_18 fl_KL_19 ?_
      refine r_getR (pc := 21) ok cls9 sh_4 (k := 1) rfl (Nat.le_of_ble_eq_true rfl) rfl dX11_ticks_21 fl_KL_140 ?_
      refine k_V (pc := 24)  (fun r1 => mx r1 YY) (fun r1 hr_ => c_V (n := 1) ok cls4 sh_100 rfl ml_KL_197 wv_X4_note yk_X4_note rfl (Nat.le_of_ble_eq_true rfl) (Nat.le_of_ble_eq_true rfl) (tPa_note hr_) rfl (Nat.le_of_ble_eq_true rfl) dX11_ticks_24) (fun r1 => ?_)
      refine r_aload_n (pc := 27) ok dX11_ticks_27 rfl ?_
      refine r_getR (pc := 28) ok cls11 sh_0 (k := 5) rfl (Nat.le_of_ble_eq_true rfl) rfl dX11_ticks_28 fl_KL_41 ?_
      refine r_aload_n (pc := 31) ok dX11_ticks_31 rfl ?_
      refine r_getR (pc := 32) ok cls11 sh_0 (k := 1) rfl (Nat.le_of_ble_eq_true rfl) rfl dX11_ticks_32 fl_KL_19 ?_
      refine r_getR (pc := 35) ok cls9 sh_4 (k := 1) rfl (Nat.le_of_ble_eq_true rfl) rfl dX11_ticks_35 fl_KL_140 ?_
      refine r_iload_n (pc := 38) ok dX11_ticks_38 rfl ?_
      refine k_I (pc := 39) (fun r2 => r2.1) (fun r2 => mx ((va_up r1 12 r2.2)) YY) (fun r2 hr_ => c_V (n := 1) ok cls8 sh_12 rfl ml_KL_219 wv_X8_letTicksGo yk_X8_letTicksGo rfl (Nat.le_of_ble_eq_true rfl) (Nat.le_of_ble_eq_true rfl) (met_cast (by rw [up_eta]) rfl (tSc_letTicksGo (sc_c (o := 12) (by decide)) (rfl) hr_)) rfl (Nat.le_of_ble_eq_true rfl) dX11_ticks_39) (fun r2 => ?_)
      refine r_bndX (wf := (fun x_ => mx x_ YY)) (fun X3 => ?_)
      refine k_I (pc := 42) (fun r4 => r4.1) (fun r4 => mx r4.2 YY) (fun r4 hr_ => c_V (n := 1) ok cls4 sh_100 rfl ml_KL_222 wv_X4_keepIfAny yk_X4_keepIfAny rfl (Nat.le_of_ble_eq_true rfl) (Nat.le_of_ble_eq_true rfl) (tPa_keepIfAny hr_) rfl (Nat.le_of_ble_eq_true rfl) dX11_ticks_42) (fun r4 => ?_)
      exact r_iret (pc := 45) ok dX11_ticks_45 rfl
    · refine r_iconst (pc := 11) ok (-1 : Int32) dX11_ticks_11 ci_m1 ?_
      exact r_iret (pc := 12) ok dX11_ticks_12 rfl
theorem tKL_ticks {l : Launch} {G : Gx} {b : Nat} {YY : Nat → Obj} {X : Nat → Obj} {v1 : Int32} {r : Int32 × (Nat → Obj)} (hr : fKL_ticks X v1 = some r) : MetG l G b yX11_ticks cX11_ticks 2 (some .int) 6 [.ref (b + 0), .int v1] (mx X YY) (qI G b r.1 (mx r.2 YY)) := by
  refine met_start [some (.ref (b + 0)), some (.int v1)] (by decide +kernel) (Nat.le_of_ble_eq_true rfl) rfl (fun Z hl ok => ?_)
  clear hl
  exact vKL_ticks ok r (by rw [hr]; rfl)
theorem vPa_bringBack {Z : Cx} {G : Gx} {b : Nat} {YY : Nat → Obj} {X : Nat → Obj} (ok : OK Z G b cX4_bringBack 3 2 RX4 (some .int)) : VO Z G b 3 (fun (r : Int32 × (Nat → Obj)) => QX Z b (qI G b r.1 (mx r.2 YY))) (mx X YY) 0 [some (.ref (b + 100)), some (.ref (b + 12)), none] [] ((fPa_bringBack X).bind some) := by
  unfold fPa_bringBack
  refine r_aload_n (pc := 0) ok dX4_bringBack_0 rfl ?_
  refine r_aload_n (pc := 1) ok dX4_bringBack_1 rfl ?_
  refine r_getI (pc := 2) ok cls4 sh_100 (k := 2) rfl (Nat.le_of_ble_eq_true rfl) (mx_l (Nat.le_of_ble_eq_true rfl) rfl) dX4_bringBack_2 fl_Pa_20 ?_
  refine r_iconst (pc := 5) ok (1 : Int32) dX4_bringBack_5 ci_1 ?_
  refine r_isub (pc := 6) ok dX4_bringBack_6 ?_
  refine k_Q (pc := 7) (fun r1 => rmv b r1) (fun r1 => mx X YY) (fun r1 hr_ => c_V (n := 1) ok cls4 sh_100 rfl ml_Pa_24 wv_X4_roomBehind yk_X4_roomBehind rfl (Nat.le_of_ble_eq_true rfl) (Nat.le_of_ble_eq_true rfl) (tPa_roomBehind hr_) rfl (Nat.le_of_ble_eq_true rfl) dX4_bringBack_7) (fun r1 => ?_)
  refine r_ite (fun hr1 => ?_) (fun hr1 => ?_)
  · refine r_st (st' := [.ref (b + (102 + 11 * r1))]) (congrArg (fun v_ => [va_rf v_]) (rmv_in hr1)) ?_
    refine r_astore_n (pc := 10) ok dX4_bringBack_10 (Nat.le_of_ble_eq_true rfl) rfl ?_
    refine r_aload_n (pc := 11) ok dX4_bringBack_11 rfl ?_
    refine r_getI (pc := 12) ok cls4 sh_100 (k := 2) rfl (Nat.le_of_ble_eq_true rfl) (mx_l (Nat.le_of_ble_eq_true rfl) rfl) dX4_bringBack_12 fl_Pa_20 ?_
    refine r_iconst (pc := 15) ok (1 : Int32) dX4_bringBack_15 ci_1 ?_
    refine r_icmp_lt (pc := 16) ok 23 dX4_bringBack_16 rfl (fun _ => ?_) (fun _ => ?_)
    · refine r_iconst (pc := 23) ok (-1 : Int32) dX4_bringBack_23 ci_m1 ?_
      exact r_iret (pc := 24) ok dX4_bringBack_24 rfl
    · refine r_aload_n (pc := 19) ok dX4_bringBack_19 rfl ?_
      refine r_ifnonnull (pc := 20) ok 25 dX4_bringBack_20 rfl ?_
      refine r_aload_n (pc := 25) ok dX4_bringBack_25 rfl ?_
      refine r_dup (pc := 26) ok dX4_bringBack_26 rfl ?_
      refine r_getI (pc := 27) ok cls4 sh_100 (k := 2) rfl (Nat.le_of_ble_eq_true rfl) (mx_l (Nat.le_of_ble_eq_true rfl) rfl) dX4_bringBack_27 fl_Pa_20 ?_
      refine r_iconst (pc := 30) ok (1 : Int32) dX4_bringBack_30 ci_1 ?_
      refine r_isub (pc := 31) ok dX4_bringBack_31 ?_
      refine r_putG (pc := 32) ok cls4 sh_100 (k := 2) rfl (Nat.le_of_ble_eq_true rfl) (Nat.le_of_ble_eq_true rfl) rfl rfl rfl dX4_bringBack_32 fl_Pa_20 (fun X2 => ?_)
      refine r_aload_n (pc := 35) ok dX4_bringBack_35 rfl ?_
      refine r_aload_n (pc := 36) ok dX4_bringBack_36 rfl ?_
      refine k_V (pc := 37)  (fun r3 => mx ((va_up X2 12 r3)) YY) (fun r3 hr_ => c_V (n := 1) ok cls8 sh_12 rfl ml_Pa_28 wv_X8_copyFrom yk_X8_copyFrom rfl (Nat.le_of_ble_eq_true rfl) (Nat.le_of_ble_eq_true rfl) (met_cast (by rw [up_eta]) rfl (tSc_copyFrom (sc_c (o := 12) (by decide)) (past_sc hr1) (past_ne hr1 (by decide)) (rfl) hr_)) rfl (Nat.le_of_ble_eq_true rfl) dX4_bringBack_37) (fun r3 => ?_)
      refine r_bndX (wf := (fun x_ => mx x_ YY)) (fun X4 => ?_)
      refine r_aload_n (pc := 40) ok dX4_bringBack_40 rfl ?_
      refine r_getI (pc := 41) ok cls4 sh_100 (k := 2) rfl (Nat.le_of_ble_eq_true rfl) (mx_l (Nat.le_of_ble_eq_true rfl) rfl) dX4_bringBack_41 fl_Pa_20 ?_
      exact r_iret (pc := 44) ok dX4_bringBack_44 rfl
  refine r_st (st' := [.null]) (congrArg (fun v_ => [va_rf v_]) (rmv_no hr1)) ?_
  refine r_astore_nN (pc := 10) ok dX4_bringBack_10 (Nat.le_of_ble_eq_true rfl) rfl ?_
  refine r_aload_n (pc := 11) ok dX4_bringBack_11 rfl ?_
  refine r_getI (pc := 12) ok cls4 sh_100 (k := 2) rfl (Nat.le_of_ble_eq_true rfl) (mx_l (Nat.le_of_ble_eq_true rfl) rfl) dX4_bringBack_12 fl_Pa_20 ?_
  refine r_iconst (pc := 15) ok (1 : Int32) dX4_bringBack_15 ci_1 ?_
  refine r_icmp_lt (pc := 16) ok 23 dX4_bringBack_16 rfl (fun _ => ?_) (fun _ => ?_)
  · refine r_iconst (pc := 23) ok (-1 : Int32) dX4_bringBack_23 ci_m1 ?_
    exact r_iret (pc := 24) ok dX4_bringBack_24 rfl
  · refine r_aload_nN (pc := 19) ok dX4_bringBack_19 rfl ?_
    refine r_ifnonnullN (pc := 20) ok dX4_bringBack_20 ?_
    refine r_iconst (pc := 23) ok (-1 : Int32) dX4_bringBack_23 ci_m1 ?_
    exact r_iret (pc := 24) ok dX4_bringBack_24 rfl
theorem tPa_bringBack {l : Launch} {G : Gx} {b : Nat} {YY : Nat → Obj} {X : Nat → Obj} {r : Int32 × (Nat → Obj)} (hr : fPa_bringBack X = some r) : MetG l G b yX4_bringBack cX4_bringBack 3 (some .int) 2 [.ref (b + 100), .ref (b + 12)] (mx X YY) (qI G b r.1 (mx r.2 YY)) := by
  refine met_start [some (.ref (b + 100)), some (.ref (b + 12)), none] (by decide +kernel) (Nat.le_of_ble_eq_true rfl) rfl (fun Z hl ok => ?_)
  clear hl
  exact vPa_bringBack ok r (by rw [hr]; rfl)
theorem vKL_undo {Z : Cx} {G : Gx} {b : Nat} {YY : Nat → Obj} {X : Nat → Obj} (ok : OK Z G b cX11_undo 1 3 RX11 (some .int)) : VO Z G b 1 (fun (r : Int32 × (Nat → Obj)) => QX Z b (qI G b r.1 (mx r.2 YY))) (mx X YY) 0 [some (.ref (b + 0))] [] ((fKL_undo X).bind some) := by
  unfold fKL_undo
  refine r_aload_n (pc := 0) ok dX11_undo_0 rfl ?_
  refine r_getR (pc := 1) ok cls11 sh_0 (k := 5) rfl (Nat.le_of_ble_eq_true rfl) rfl dX11_undo_1 fl_KL_41 ?_
  refine r_aload_n (pc := 4) ok dX11_undo_4 rfl ?_
  refine r_getR (pc := 5) ok cls11 sh_0 (k := 1) rfl (Nat.le_of_ble_eq_true rfl) rfl dX11_undo_5 fl_KL_19 ?_
  refine r_getR (pc := 8) ok cls9 sh_4 (k := 1) rfl (Nat.le_of_ble_eq_true rfl) rfl dX11_undo_8 fl_KL_140 ?_
  refine k_I (pc := 11) (fun r1 => r1.1) (fun r1 => mx r1.2 YY) (fun r1 hr_ => c_V (n := 1) ok cls4 sh_100 rfl ml_KL_225 wv_X4_bringBack yk_X4_bringBack rfl (Nat.le_of_ble_eq_true rfl) (Nat.le_of_ble_eq_true rfl) (tPa_bringBack hr_) rfl (Nat.le_of_ble_eq_true rfl) dX11_undo_11) (fun r1 => ?_)
  exact r_iret (pc := 14) ok dX11_undo_14 rfl
theorem tKL_undo {l : Launch} {G : Gx} {b : Nat} {YY : Nat → Obj} {X : Nat → Obj} {r : Int32 × (Nat → Obj)} (hr : fKL_undo X = some r) : MetG l G b yX11_undo cX11_undo 1 (some .int) 3 [.ref (b + 0)] (mx X YY) (qI G b r.1 (mx r.2 YY)) := by
  refine met_start [some (.ref (b + 0))] (by decide +kernel) (Nat.le_of_ble_eq_true rfl) rfl (fun Z hl ok => ?_)
  clear hl
  exact vKL_undo ok r (by rw [hr]; rfl)
theorem vSc_isKnocking {Z : Cx} {G : Gx} {b : Nat} {io : Nat} {XX YY : Nat → Obj} {q : Obj} {sc : Obj} {v1 : Int32} (ok : OK Z G b cX8_isKnocking 2 1 RX8 (some .boolean)) (ho : isSc io) (hr_q : XX (qid io) = q) (hr_sc : XX io = sc) : VO Z G b 2 (fun (r : Int32) => QX Z b (qI G b r (mx XX YY))) (mx XX YY) 0 [some (.ref (b + io)), some (.int v1)] [] ((fSc_isKnocking q sc v1).bind some) := by
  unfold fSc_isKnocking
  refine r_aload_n (pc := 0) ok dX8_isKnocking_0 rfl ?_
  refine r_getR (pc := 1) ok cls8 (sc_sh ho) (k := 0) rfl (Nat.le_of_ble_eq_true rfl) rfl dX8_isKnocking_1 fl_Sc_42 ?_
  refine r_iload_n (pc := 4) ok dX8_isKnocking_4 rfl ?_
  refine k_I (pc := 5) (fun r1 => r1) (fun r1 => mx XX YY) (fun r1 hr_ => c_V (n := 1) ok cls5 (qu_sh (qid_qu ho)) rfl ml_Sc_62 wv_X5_hasPerson yk_X5_hasPerson rfl (Nat.le_of_ble_eq_true rfl) (Nat.le_of_ble_eq_true rfl) (tQu_hasPerson (qid_qu ho) (hr_q) hr_) rfl (Nat.le_of_ble_eq_true rfl) dX8_isKnocking_5) (fun r1 => ?_)
  refine r_if_eq (pc := 8) ok 25 dX8_isKnocking_8 rfl (fun _ => ?_) (fun _ => ?_)
  · refine r_iconst (pc := 25) ok (0 : Int32) dX8_isKnocking_25 ci_0 ?_
    exact r_zret (pc := 26) ok dX8_isKnocking_26 za_0 rfl
  · refine r_aload_n (pc := 11) ok dX8_isKnocking_11 rfl ?_
    refine r_getR (pc := 12) ok cls8 (sc_sh ho) (k := 6) rfl (Nat.le_of_ble_eq_true rfl) rfl dX8_isKnocking_12 fl_Sc_18 ?_
    refine r_iload_n (pc := 15) ok dX8_isKnocking_15 rfl ?_
    refine r_iald (pc := 16) ok (sc_s3 ho) (Nat.add_sub_cancel_left _ _) (mx_l (sc_lt ho) (hr_sc)) dX8_isKnocking_16 (fun i2 => ?_)
    refine r_iconst (pc := 17) ok (1 : Int32) dX8_isKnocking_17 ci_1 ?_
    refine r_icmp_ne (pc := 18) ok 25 dX8_isKnocking_18 rfl (fun _ => ?_) (fun _ => ?_)
    · refine r_iconst (pc := 21) ok (1 : Int32) dX8_isKnocking_21 ci_1 ?_
      refine r_goto (pc := 22) ok 26 dX8_isKnocking_22 rfl ?_
      exact r_zret (pc := 26) ok dX8_isKnocking_26 za_1 rfl
    · refine r_iconst (pc := 25) ok (0 : Int32) dX8_isKnocking_25 ci_0 ?_
      exact r_zret (pc := 26) ok dX8_isKnocking_26 za_0 rfl
theorem tSc_isKnocking {l : Launch} {G : Gx} {b : Nat} {io : Nat} {XX YY : Nat → Obj} {q : Obj} {sc : Obj} {v1 : Int32} (ho : isSc io) (hr_q : XX (qid io) = q) (hr_sc : XX io = sc) {r : Int32} (hr : fSc_isKnocking q sc v1 = some r) : MetG l G b yX8_isKnocking cX8_isKnocking 2 (some .boolean) 1 [.ref (b + io), .int v1] (mx XX YY) (qI G b r (mx XX YY)) := by
  refine met_start [some (.ref (b + io)), some (.int v1)] (by decide +kernel) (Nat.le_of_ble_eq_true rfl) rfl (fun Z hl ok => ?_)
  clear hl
  exact vSc_isKnocking ok ho hr_q hr_sc r (by rw [hr]; rfl)
theorem vKL_answer {Z : Cx} {G : Gx} {b : Nat} {YY : Nat → Obj} {X : Nat → Obj} {v1 : Int32} (ok : OK Z G b cX11_answer 2 4 RX11 (some .int)) : VO Z G b 2 (fun (r : Int32) => QX Z b (qI G b r (mx X YY))) (mx X YY) 0 [some (.ref (b + 0)), some (.int v1)] [] ((fKL_answer X v1).bind some) := by
  unfold fKL_answer
  refine r_aload_n (pc := 0) ok dX11_answer_0 rfl ?_
  refine r_getR (pc := 1) ok cls11 sh_0 (k := 1) rfl (Nat.le_of_ble_eq_true rfl) rfl dX11_answer_1 fl_KL_19 ?_
  refine r_getR (pc := 4) ok cls9 sh_4 (k := 1) rfl (Nat.le_of_ble_eq_true rfl) rfl dX11_answer_4 fl_KL_140 ?_
  refine r_iload_n (pc := 7) ok dX11_answer_7 rfl ?_
  refine k_I (pc := 8) (fun r1 => r1) (fun r1 => mx X YY) (fun r1 hr_ => c_V (n := 1) ok cls8 sh_12 rfl ml_KL_229 wv_X8_isKnocking yk_X8_isKnocking rfl (Nat.le_of_ble_eq_true rfl) (Nat.le_of_ble_eq_true rfl) (tSc_isKnocking (sc_c (o := 12) (by decide)) (rfl) (rfl) hr_) rfl (Nat.le_of_ble_eq_true rfl) dX11_answer_8) (fun r1 => ?_)
  refine r_if_ne (pc := 11) ok 16 dX11_answer_11 rfl (fun _ => ?_) (fun _ => ?_)
  · refine r_iconst (pc := 14) ok (-1 : Int32) dX11_answer_14 ci_m1 ?_
    exact r_iret (pc := 15) ok dX11_answer_15 rfl
  · refine r_aload_n (pc := 16) ok dX11_answer_16 rfl ?_
    refine r_getR (pc := 17) ok cls11 sh_0 (k := 1) rfl (Nat.le_of_ble_eq_true rfl) rfl dX11_answer_17 fl_KL_19 ?_
    refine r_getR (pc := 20) ok cls9 sh_4 (k := 1) rfl (Nat.le_of_ble_eq_true rfl) rfl dX11_answer_20 fl_KL_140 ?_
    refine r_iload_n (pc := 23) ok dX11_answer_23 rfl ?_
    refine r_iconst (pc := 24) ok (0 : Int32) dX11_answer_24 ci_0 ?_
    refine k_I (pc := 25) (fun r2 => r2) (fun r2 => mx X YY) (fun r2 hr_ => c_V (n := 2) ok cls8 sh_12 rfl ml_KL_232 wv_X8_answererOf yk_X8_answererOf rfl (Nat.le_of_ble_eq_true rfl) (Nat.le_of_ble_eq_true rfl) (tSc_answererOf (sc_c (o := 12) (by decide)) (rfl) (rfl) hr_) rfl (Nat.le_of_ble_eq_true rfl) dX11_answer_25) (fun r2 => ?_)
    exact r_iret (pc := 28) ok dX11_answer_28 rfl
theorem tKL_answer {l : Launch} {G : Gx} {b : Nat} {YY : Nat → Obj} {X : Nat → Obj} {v1 : Int32} {r : Int32} (hr : fKL_answer X v1 = some r) : MetG l G b yX11_answer cX11_answer 2 (some .int) 4 [.ref (b + 0), .int v1] (mx X YY) (qI G b r (mx X YY)) := by
  refine met_start [some (.ref (b + 0)), some (.int v1)] (by decide +kernel) (Nat.le_of_ble_eq_true rfl) rfl (fun Z hl ok => ?_)
  clear hl
  exact vKL_answer ok r (by rw [hr]; rfl)
theorem vJI_bitCount {Z : Cx} {G : Gx} {b : Nat} {XX YY : Nat → Obj} {v0 : Int32} (ok : OK Z G b cJ6_bitCount_0f7a4 1 0 RJ6 (some .int)) : VO Z G b 1 (fun (r : Int32) => QX Z b (qI G b r (mx XX YY))) (mx XX YY) 0 [some (.int v0)] [] ((fJI_bitCount v0).bind some) := by
  unfold fJI_bitCount
  refine r_iload_n (pc := 0) ok dJ6_bitCount_0f7a4_0 rfl ?_
  refine r_iload_n (pc := 1) ok dJ6_bitCount_0f7a4_1 rfl ?_
  refine r_iconst (pc := 2) ok (1 : Int32) dJ6_bitCount_0f7a4_2 ci_1 ?_
  refine r_iushr (pc := 3) ok dJ6_bitCount_0f7a4_3 ?_
  refine r_ldcw (pc := 4) ok (1431655765 : Int32) dJ6_bitCount_0f7a4_4 cst_JI_265 ?_
  refine r_iand (pc := 7) ok dJ6_bitCount_0f7a4_7 ?_
  refine r_isub (pc := 8) ok dJ6_bitCount_0f7a4_8 ?_
  refine r_bndI (fun x1 => ?_)
  refine r_istore_n (pc := 9) ok dJ6_bitCount_0f7a4_9 (Nat.le_of_ble_eq_true rfl) rfl ?_
  refine r_iload_n (pc := 10) ok dJ6_bitCount_0f7a4_10 rfl ?_
  refine r_ldcw (pc := 11) ok (858993459 : Int32) dJ6_bitCount_0f7a4_11 cst_JI_266 ?_
  refine r_iand (pc := 14) ok dJ6_bitCount_0f7a4_14 ?_
  refine r_iload_n (pc := 15) ok dJ6_bitCount_0f7a4_15 rfl ?_
  refine r_iconst (pc := 16) ok (2 : Int32) dJ6_bitCount_0f7a4_16 ci_2 ?_
  refine r_iushr (pc := 17) ok dJ6_bitCount_0f7a4_17 ?_
  refine r_ldcw (pc := 18) ok (858993459 : Int32) dJ6_bitCount_0f7a4_18 cst_JI_266 ?_
  refine r_iand (pc := 21) ok dJ6_bitCount_0f7a4_21 ?_
  refine r_iadd (pc := 22) ok dJ6_bitCount_0f7a4_22 ?_
  refine r_bndI (fun x2 => ?_)
  refine r_istore_n (pc := 23) ok dJ6_bitCount_0f7a4_23 (Nat.le_of_ble_eq_true rfl) rfl ?_
  refine r_iload_n (pc := 24) ok dJ6_bitCount_0f7a4_24 rfl ?_
  refine r_iload_n (pc := 25) ok dJ6_bitCount_0f7a4_25 rfl ?_
  refine r_iconst (pc := 26) ok (4 : Int32) dJ6_bitCount_0f7a4_26 ci_4 ?_
  refine r_iushr (pc := 27) ok dJ6_bitCount_0f7a4_27 ?_
  refine r_iadd (pc := 28) ok dJ6_bitCount_0f7a4_28 ?_
  refine r_ldcw (pc := 29) ok (252645135 : Int32) dJ6_bitCount_0f7a4_29 cst_JI_267 ?_
  refine r_iand (pc := 32) ok dJ6_bitCount_0f7a4_32 ?_
  refine r_bndI (fun x3 => ?_)
  refine r_istore_n (pc := 33) ok dJ6_bitCount_0f7a4_33 (Nat.le_of_ble_eq_true rfl) rfl ?_
  refine r_iload_n (pc := 34) ok dJ6_bitCount_0f7a4_34 rfl ?_
  refine r_iload_n (pc := 35) ok dJ6_bitCount_0f7a4_35 rfl ?_
  refine r_bipush (pc := 36) ok (8 : Int32) dJ6_bitCount_0f7a4_36 cb_8 ?_
  refine r_iushr (pc := 38) ok dJ6_bitCount_0f7a4_38 ?_
  refine r_iadd (pc := 39) ok dJ6_bitCount_0f7a4_39 ?_
  refine r_bndI (fun x4 => ?_)
  refine r_istore_n (pc := 40) ok dJ6_bitCount_0f7a4_40 (Nat.le_of_ble_eq_true rfl) rfl ?_
  refine r_iload_n (pc := 41) ok dJ6_bitCount_0f7a4_41 rfl ?_
  refine r_iload_n (pc := 42) ok dJ6_bitCount_0f7a4_42 rfl ?_
  refine r_bipush (pc := 43) ok (16 : Int32) dJ6_bitCount_0f7a4_43 cb_16 ?_
  refine r_iushr (pc := 45) ok dJ6_bitCount_0f7a4_45 ?_
  refine r_iadd (pc := 46) ok dJ6_bitCount_0f7a4_46 ?_
  refine r_bndI (fun x5 => ?_)
  refine r_istore_n (pc := 47) ok dJ6_bitCount_0f7a4_47 (Nat.le_of_ble_eq_true rfl) rfl ?_
  refine r_iload_n (pc := 48) ok dJ6_bitCount_0f7a4_48 rfl ?_
  refine r_bipush (pc := 49) ok (63 : Int32) dJ6_bitCount_0f7a4_49 cb_63 ?_
  refine r_iand (pc := 51) ok dJ6_bitCount_0f7a4_51 ?_
  exact r_iret (pc := 52) ok dJ6_bitCount_0f7a4_52 rfl
theorem tJI_bitCount {l : Launch} {G : Gx} {b : Nat} {XX YY : Nat → Obj} {v0 : Int32} {r : Int32} (hr : fJI_bitCount v0 = some r) : MetG l G b yJ6_bitCount_0f7a4 cJ6_bitCount_0f7a4 1 (some .int) 0 [.int v0] (mx XX YY) (qI G b r (mx XX YY)) := by
  refine met_start [some (.int v0)] (by decide +kernel) (Nat.le_of_ble_eq_true rfl) rfl (fun Z hl ok => ?_)
  clear hl
  exact vJI_bitCount ok r (by rw [hr]; rfl)
theorem wMt_canBeOpen_L4 {Z : Cx} {G : Gx} {b : Nat} {XX YY : Nat → Obj} {mt : Obj} {v1 : Int32} (ok : OK Z G b cX3_canBeOpen 5 1 RX3 (some .boolean)) (hr_mt : XX 217 = mt) {K : ((Int32 × Int32) ⊕ ((Int32) ⊕ (Int32))) → Option (Int32)} (hc : ∀ (a : Int32 × Int32), VO Z G b 5 (fun (r : Int32) => QX Z b (qI G b r (mx XX YY))) (mx XX YY) 4 [some (.ref (b + 217)), some (.int v1), some (.int a.1), some (.int a.2), none] [] (K (.inl a))) (hx : ∀ (z : (Int32) ⊕ (Int32)), (∀ (e : Int32), z = .inl e → VO Z G b 5 (fun (r : Int32) => QX Z b (qI G b r (mx XX YY))) (mx XX YY) 67 [none, some (.int v1), some (.int e), none, none] [] (K (.inr z))) ∧ (∀ (r : Int32), z = .inr r → K (.inr z) = some r)) : ∀ (a : Int32 × Int32), VO Z G b 5 (fun (r : Int32) => QX Z b (qI G b r (mx XX YY))) (mx XX YY) 4 [some (.ref (b + 217)), some (.int v1), some (.int a.1), some (.int a.2), none] [] ((fMt_canBeOpen_L4 mt v1 a).bind K) := by
  intro a
  unfold fMt_canBeOpen_L4
  refine r_iload_n (pc := 4) ok dX3_canBeOpen_4 rfl ?_
  refine r_bipush (pc := 5) ok (8 : Int32) dX3_canBeOpen_5 cb_8 ?_
  refine r_icmp_ge (pc := 7) ok 67 dX3_canBeOpen_7 rfl (fun _ => ?_) (fun _ => ?_)
  · refine r_lv (lk_n (lk_s (lk_s (lk_n (lk_n lk_0 _) _) _) _) _) ?_
    exact (hx (.inl a.1)).1 _ rfl
  · refine r_iload_n (pc := 10) ok dX3_canBeOpen_10 rfl ?_
    refine r_iload_n (pc := 11) ok dX3_canBeOpen_11 rfl ?_
    refine k_I (pc := 12) (fun r1 => r1) (fun r1 => mx XX YY) (fun r1 hr_ => c_SN (n := 2) ok mn_Mt_34 ws_X11_hasBit yk_X11_hasBit rfl (Nat.le_of_ble_eq_true rfl) (Nat.le_of_ble_eq_true rfl) (tKL_hasBit hr_) rfl (Nat.le_of_ble_eq_true rfl) dX3_canBeOpen_12) (fun r1 => ?_)
    refine r_if_eq (pc := 15) ok 61 dX3_canBeOpen_15 rfl (fun _ => ?_) (fun _ => ?_)
    · refine r_iinc (pc := 61) ok (1 : Int32) dX3_canBeOpen_61 ci_1 rfl (Nat.le_of_ble_eq_true rfl) rfl ?_
      refine r_goto (pc := 64) ok 4 dX3_canBeOpen_64 rfl ?_
      exact hc (a.1, (a.2 + (1 : Int32)))
    · refine r_iload_n (pc := 18) ok dX3_canBeOpen_18 rfl ?_
      refine r_iconst (pc := 19) ok (1 : Int32) dX3_canBeOpen_19 ci_1 ?_
      refine r_iload_n (pc := 20) ok dX3_canBeOpen_20 rfl ?_
      refine r_ishl (pc := 21) ok dX3_canBeOpen_21 ?_
      refine r_iconst (pc := 22) ok (-1 : Int32) dX3_canBeOpen_22 ci_m1 ?_
      refine r_ixor (pc := 23) ok dX3_canBeOpen_23 ?_
      refine r_iand (pc := 24) ok dX3_canBeOpen_24 ?_
      refine r_bndI (fun x2 => ?_)
      refine r_istore (pc := 25) ok dX3_canBeOpen_25 (Nat.le_of_ble_eq_true rfl) rfl ?_
      refine r_iload (pc := 27) ok dX3_canBeOpen_27 rfl ?_
      refine r_if_lt (pc := 29) ok 50 dX3_canBeOpen_29 rfl (fun _ => ?_) (fun _ => ?_)
      · refine r_iconst (pc := 50) ok (0 : Int32) dX3_canBeOpen_50 ci_0 ?_
        refine r_eq ((hx (.inr (0 : Int32))).2 _ rfl) ?_
        exact r_zret (pc := 51) ok dX3_canBeOpen_51 za_0 rfl
      · refine r_iload (pc := 32) ok dX3_canBeOpen_32 rfl ?_
        refine r_sipush (pc := 34) ok (256 : Int32) dX3_canBeOpen_34 cs_256 ?_
        refine r_icmp_ge (pc := 37) ok 50 dX3_canBeOpen_37 rfl (fun _ => ?_) (fun _ => ?_)
        · refine r_iconst (pc := 50) ok (0 : Int32) dX3_canBeOpen_50 ci_0 ?_
          refine r_eq ((hx (.inr (0 : Int32))).2 _ rfl) ?_
          exact r_zret (pc := 51) ok dX3_canBeOpen_51 za_0 rfl
        · refine r_aload_n (pc := 40) ok dX3_canBeOpen_40 rfl ?_
          refine r_getR (pc := 41) ok cls3 sh_217 (k := 0) rfl (Nat.le_of_ble_eq_true rfl) rfl dX3_canBeOpen_41 fl_Mt_11 ?_
          refine r_iload (pc := 44) ok dX3_canBeOpen_44 rfl ?_
          refine r_zald (pc := 46) ok sh_218 (j := 1) rfl (mx_l (Nat.le_of_ble_eq_true rfl) (hr_mt)) dX3_canBeOpen_46 (fun i3 => ?_)
          refine r_if_ne (pc := 47) ok 52 dX3_canBeOpen_47 rfl (fun _ => ?_) (fun _ => ?_)
          · refine r_iconst (pc := 50) ok (0 : Int32) dX3_canBeOpen_50 ci_0 ?_
            refine r_eq ((hx (.inr (0 : Int32))).2 _ rfl) ?_
            exact r_zret (pc := 51) ok dX3_canBeOpen_51 za_0 rfl
          · refine r_iload_n (pc := 52) ok dX3_canBeOpen_52 rfl ?_
            refine r_aload_n (pc := 53) ok dX3_canBeOpen_53 rfl ?_
            refine r_getR (pc := 54) ok cls3 sh_217 (k := 1) rfl (Nat.le_of_ble_eq_true rfl) rfl dX3_canBeOpen_54 fl_Mt_15 ?_
            refine r_iload_n (pc := 57) ok dX3_canBeOpen_57 rfl ?_
            refine r_iald (pc := 58) ok sh_219 (j := 2) rfl (mx_l (Nat.le_of_ble_eq_true rfl) (hr_mt)) dX3_canBeOpen_58 (fun i4 => ?_)
            refine r_ior (pc := 59) ok dX3_canBeOpen_59 ?_
            refine r_bndI (fun x5 => ?_)
            refine r_istore_n (pc := 60) ok dX3_canBeOpen_60 (Nat.le_of_ble_eq_true rfl) rfl ?_
            refine r_iinc (pc := 61) ok (1 : Int32) dX3_canBeOpen_61 ci_1 rfl (Nat.le_of_ble_eq_true rfl) rfl ?_
            refine r_goto (pc := 64) ok 4 dX3_canBeOpen_64 rfl ?_
            refine r_lv (lk_s (lk_s (lk_s (lk_s (lk_n lk_0 _) _) _) _) _) ?_
            exact hc (x5, (a.2 + (1 : Int32)))
theorem vMt_canBeOpen {Z : Cx} {G : Gx} {b : Nat} {XX YY : Nat → Obj} {mt : Obj} {v1 : Int32} (ok : OK Z G b cX3_canBeOpen 5 1 RX3 (some .boolean)) (hr_mt : XX 217 = mt) : VO Z G b 5 (fun (r : Int32) => QX Z b (qI G b r (mx XX YY))) (mx XX YY) 0 [some (.ref (b + 217)), some (.int v1), none, none, none] [] ((fMt_canBeOpen mt v1).bind some) := by
  unfold fMt_canBeOpen
  refine r_iconst (pc := 0) ok (0 : Int32) dX3_canBeOpen_0 ci_0 ?_
  refine r_istore_n (pc := 1) ok dX3_canBeOpen_1 (Nat.le_of_ble_eq_true rfl) rfl ?_
  refine r_iconst (pc := 2) ok (0 : Int32) dX3_canBeOpen_2 ci_0 ?_
  refine r_istore_n (pc := 3) ok dX3_canBeOpen_3 (Nat.le_of_ble_eq_true rfl) rfl ?_
  refine r_iter (P := fun (a4 : Int32 × Int32) o => VO Z G b 5 (fun (r : Int32) => QX Z b (qI G b r (mx XX YY))) (mx XX YY) 4 [some (.ref (b + 217)), some (.int v1), some (.int a4.1), some (.int a4.2), none] [] o) (E := fun (z : (Int32) ⊕ (Int32)) o => (∀ (e_4 : Int32), z = .inl e_4 → VO Z G b 5 (fun (r : Int32) => QX Z b (qI G b r (mx XX YY))) (mx XX YY) 67 [none, some (.int v1), some (.int e_4), none, none] [] o) ∧ (∀ (r : Int32), z = .inr r → o = some r)) (fun _ => r_none) (fun K hc hx => wMt_canBeOpen_L4 ok hr_mt (K := K) hc hx) (fun z => ⟨fun e6 hz => ?_, fun r hz => ?_⟩) FU ((0 : Int32), (0 : Int32))
  · subst hz
    refine r_inl ?_
    refine r_iload_n (pc := 67) ok dX3_canBeOpen_67 rfl ?_
    refine k_I (pc := 68) (fun r7 => r7) (fun r7 => mx XX YY) (fun r7 hr_ => c_S (n := 1) ok ml_Mt_29 ws_J6_bitCount_0f7a4 yk_J6_bitCount_0f7a4 rfl (Nat.le_of_ble_eq_true rfl) (Nat.le_of_ble_eq_true rfl) (tJI_bitCount hr_) rfl (Nat.le_of_ble_eq_true rfl) dX3_canBeOpen_68) (fun r7 => ?_)
    refine r_iload_n (pc := 71) ok dX3_canBeOpen_71 rfl ?_
    refine k_I (pc := 72) (fun r8 => r8) (fun r8 => mx XX YY) (fun r8 hr_ => c_S (n := 1) ok ml_Mt_29 ws_J6_bitCount_0f7a4 yk_J6_bitCount_0f7a4 rfl (Nat.le_of_ble_eq_true rfl) (Nat.le_of_ble_eq_true rfl) (tJI_bitCount hr_) rfl (Nat.le_of_ble_eq_true rfl) dX3_canBeOpen_72) (fun r8 => ?_)
    refine r_icmp_lt (pc := 75) ok 82 dX3_canBeOpen_75 rfl (fun _ => ?_) (fun _ => ?_)
    · refine r_iconst (pc := 82) ok (0 : Int32) dX3_canBeOpen_82 ci_0 ?_
      exact r_zret (pc := 83) ok dX3_canBeOpen_83 za_0 rfl
    · refine r_iconst (pc := 78) ok (1 : Int32) dX3_canBeOpen_78 ci_1 ?_
      refine r_goto (pc := 79) ok 83 dX3_canBeOpen_79 rfl ?_
      exact r_zret (pc := 83) ok dX3_canBeOpen_83 za_1 rfl
  · subst hz
    rfl
theorem tMt_canBeOpen {l : Launch} {G : Gx} {b : Nat} {XX YY : Nat → Obj} {mt : Obj} {v1 : Int32} (hr_mt : XX 217 = mt) {r : Int32} (hr : fMt_canBeOpen mt v1 = some r) : MetG l G b yX3_canBeOpen cX3_canBeOpen 5 (some .boolean) 1 [.ref (b + 217), .int v1] (mx XX YY) (qI G b r (mx XX YY)) := by
  refine met_start [some (.ref (b + 217)), some (.int v1), none, none, none] (by decide +kernel) (Nat.le_of_ble_eq_true rfl) rfl (fun Z hl ok => ?_)
  clear hl
  exact vMt_canBeOpen ok hr_mt r (by rw [hr]; rfl)
theorem wMt_greatestSet_L2 {Z : Cx} {G : Gx} {b : Nat} {XX YY : Nat → Obj} {q : Obj} {sc : Obj} (ok : OK Z G b cX3_greatestSet 4 3 RX3 (some .int)) (hr_q : XX 5 = q) (hr_sc : XX 12 = sc) {K : ((Int32 × Obj) ⊕ (Obj)) → Option (Int32 × Obj)} (hc : ∀ (a : Int32 × Obj), VO Z G b 4 (fun (r : Int32 × Obj) => QX Z b (qI G b r.1 (mx (va_up XX 217 r.2) YY))) (mx (va_up XX 217 a.2) YY) 2 [some (.ref (b + 217)), some (.ref (b + 12)), some (.int a.1), none] [] (K (.inl a))) (hx : ∀ (e : Obj), VO Z G b 4 (fun (r : Int32 × Obj) => QX Z b (qI G b r.1 (mx (va_up XX 217 r.2) YY))) (mx (va_up XX 217 e) YY) 25 [some (.ref (b + 217)), none, none, none] [] (K (.inr e))) : ∀ (a : Int32 × Obj), VO Z G b 4 (fun (r : Int32 × Obj) => QX Z b (qI G b r.1 (mx (va_up XX 217 r.2) YY))) (mx (va_up XX 217 a.2) YY) 2 [some (.ref (b + 217)), some (.ref (b + 12)), some (.int a.1), none] [] ((fMt_greatestSet_L2 q sc a).bind K) := by
  intro a
  unfold fMt_greatestSet_L2
  refine r_iload_n (pc := 2) ok dX3_greatestSet_2 rfl ?_
  refine r_bipush (pc := 3) ok (8 : Int32) dX3_greatestSet_3 cb_8 ?_
  refine r_icmp_ge (pc := 5) ok 25 dX3_greatestSet_5 rfl (fun _ => ?_) (fun _ => ?_)
  · refine r_lv (lk_s (lk_n (lk_n (lk_n lk_0 _) _) _) _) ?_
    exact hx a.2
  · refine r_aload_n (pc := 8) ok dX3_greatestSet_8 rfl ?_
    refine r_getR (pc := 9) ok cls3 sh_217 (k := 1) rfl (Nat.le_of_ble_eq_true rfl) rfl dX3_greatestSet_9 fl_Mt_15 ?_
    refine r_iload_n (pc := 12) ok dX3_greatestSet_12 rfl ?_
    refine r_aload_n (pc := 13) ok dX3_greatestSet_13 rfl ?_
    refine r_iload_n (pc := 14) ok dX3_greatestSet_14 rfl ?_
    refine k_I (pc := 15) (fun r1 => r1) (fun r1 => mx (va_up XX 217 a.2) YY) (fun r1 hr_ => c_V (n := 1) ok cls8 sh_12 rfl ml_Mt_19 wv_X8_thoseWhoCouldAnswer yk_X8_thoseWhoCouldAnswer rfl (Nat.le_of_ble_eq_true rfl) (Nat.le_of_ble_eq_true rfl) (tSc_thoseWhoCouldAnswer (sc_c (o := 12) (by decide)) ((va_up_ne _ _ (by decide)).trans (hr_q)) ((va_up_ne _ _ (by decide)).trans (hr_sc)) hr_) rfl (Nat.le_of_ble_eq_true rfl) dX3_greatestSet_15) (fun r1 => ?_)
    refine r_iast (pc := 18) ok sh_219 (j := 2) rfl rfl (fun s_ => mx (va_up XX 217 s_) YY) (pm_l (Nat.le_of_ble_eq_true rfl) (pm_0 _ _)).1 (pm_l (Nat.le_of_ble_eq_true rfl) (pm_0 _ _)).2 dX3_greatestSet_18 (fun i2 s3 => ?_)
    refine r_iinc (pc := 19) ok (1 : Int32) dX3_greatestSet_19 ci_1 rfl (Nat.le_of_ble_eq_true rfl) rfl ?_
    refine r_goto (pc := 22) ok 2 dX3_greatestSet_22 rfl ?_
    exact hc ((a.1 + (1 : Int32)), s3)
theorem wMt_greatestSet_L36 {Z : Cx} {G : Gx} {b : Nat} {XX YY : Nat → Obj} {q : Obj} {sc : Obj} (ok : OK Z G b cX3_greatestSet 4 3 RX3 (some .int)) (hr_q : XX 5 = q) (hr_sc : XX 12 = sc) {K : ((Int32 × Int32 × Obj) ⊕ (Int32 × Obj)) → Option (Int32 × Obj)} (hc : ∀ (a : Int32 × Int32 × Obj), VO Z G b 4 (fun (r : Int32 × Obj) => QX Z b (qI G b r.1 (mx (va_up XX 217 r.2) YY))) (mx (va_up XX 217 a.2.2) YY) 36 [some (.ref (b + 217)), none, some (.int a.1), some (.int a.2.1)] [] (K (.inl a))) (hx : ∀ (e : Int32 × Obj), VO Z G b 4 (fun (r : Int32 × Obj) => QX Z b (qI G b r.1 (mx (va_up XX 217 r.2) YY))) (mx (va_up XX 217 e.2) YY) 82 [none, none, some (.int e.1), none] [] (K (.inr e))) : ∀ (a : Int32 × Int32 × Obj), VO Z G b 4 (fun (r : Int32 × Obj) => QX Z b (qI G b r.1 (mx (va_up XX 217 r.2) YY))) (mx (va_up XX 217 a.2.2) YY) 36 [some (.ref (b + 217)), none, some (.int a.1), some (.int a.2.1)] [] ((fMt_greatestSet_L36 a).bind K) := by
  intro a
  unfold fMt_greatestSet_L36
  refine r_iload_n (pc := 36) ok dX3_greatestSet_36 rfl ?_
  refine r_sipush (pc := 37) ok (256 : Int32) dX3_greatestSet_37 cs_256 ?_
  refine r_icmp_ge (pc := 40) ok 82 dX3_greatestSet_40 rfl (fun _ => ?_) (fun _ => ?_)
  · refine r_lv (lk_n (lk_n (lk_s (lk_n lk_0 _) _) _) _) ?_
    exact hx (a.1, a.2.2)
  · refine r_aload_n (pc := 43) ok dX3_greatestSet_43 rfl ?_
    refine r_getR (pc := 44) ok cls3 sh_217 (k := 0) rfl (Nat.le_of_ble_eq_true rfl) rfl dX3_greatestSet_44 fl_Mt_11 ?_
    refine r_iload_n (pc := 47) ok dX3_greatestSet_47 rfl ?_
    refine r_aload_n (pc := 48) ok dX3_greatestSet_48 rfl ?_
    refine r_iload_n (pc := 49) ok dX3_greatestSet_49 rfl ?_
    refine k_I (pc := 50) (fun r6 => r6) (fun r6 => mx (va_up XX 217 a.2.2) YY) (fun r6 hr_ => c_V (n := 1) ok cls3 sh_217 rfl ml_Mt_25 wv_X3_canBeOpen yk_X3_canBeOpen rfl (Nat.le_of_ble_eq_true rfl) (Nat.le_of_ble_eq_true rfl) (tMt_canBeOpen (va_up_self _ _ _) hr_) rfl (Nat.le_of_ble_eq_true rfl) dX3_greatestSet_50) (fun r6 => ?_)
    refine r_zast (pc := 53) ok sh_218 (j := 1) rfl rfl (fun s_ => mx (va_up XX 217 s_) YY) (pm_l (Nat.le_of_ble_eq_true rfl) (pm_0 _ _)).1 (pm_l (Nat.le_of_ble_eq_true rfl) (pm_0 _ _)).2 dX3_greatestSet_53 (fun i7 s8 => ?_)
    refine r_aload_n (pc := 54) ok dX3_greatestSet_54 rfl ?_
    refine r_getR (pc := 55) ok cls3 sh_217 (k := 0) rfl (Nat.le_of_ble_eq_true rfl) rfl dX3_greatestSet_55 fl_Mt_11 ?_
    refine r_iload_n (pc := 58) ok dX3_greatestSet_58 rfl ?_
    refine r_zald (pc := 59) ok sh_218 (j := 1) rfl (mx_l (Nat.le_of_ble_eq_true rfl) (va_up_self _ _ _)) dX3_greatestSet_59 (fun i9 => ?_)
    refine r_if_eq (pc := 60) ok 76 dX3_greatestSet_60 rfl (fun _ => ?_) (fun _ => ?_)
    · refine r_iinc (pc := 76) ok (1 : Int32) dX3_greatestSet_76 ci_1 rfl (Nat.le_of_ble_eq_true rfl) rfl ?_
      refine r_goto (pc := 79) ok 36 dX3_greatestSet_79 rfl ?_
      exact hc (a.1, (a.2.1 + (1 : Int32)), s8)
    · refine r_iload_n (pc := 63) ok dX3_greatestSet_63 rfl ?_
      refine k_I (pc := 64) (fun r10 => r10) (fun r10 => mx (va_up XX 217 s8) YY) (fun r10 hr_ => c_S (n := 1) ok ml_Mt_29 ws_J6_bitCount_0f7a4 yk_J6_bitCount_0f7a4 rfl (Nat.le_of_ble_eq_true rfl) (Nat.le_of_ble_eq_true rfl) (tJI_bitCount hr_) rfl (Nat.le_of_ble_eq_true rfl) dX3_greatestSet_64) (fun r10 => ?_)
      refine r_iload_n (pc := 67) ok dX3_greatestSet_67 rfl ?_
      refine k_I (pc := 68) (fun r11 => r11) (fun r11 => mx (va_up XX 217 s8) YY) (fun r11 hr_ => c_S (n := 1) ok ml_Mt_29 ws_J6_bitCount_0f7a4 yk_J6_bitCount_0f7a4 rfl (Nat.le_of_ble_eq_true rfl) (Nat.le_of_ble_eq_true rfl) (tJI_bitCount hr_) rfl (Nat.le_of_ble_eq_true rfl) dX3_greatestSet_68) (fun r11 => ?_)
      refine r_icmp_le (pc := 71) ok 76 dX3_greatestSet_71 rfl (fun _ => ?_) (fun _ => ?_)
      · refine r_iinc (pc := 76) ok (1 : Int32) dX3_greatestSet_76 ci_1 rfl (Nat.le_of_ble_eq_true rfl) rfl ?_
        refine r_goto (pc := 79) ok 36 dX3_greatestSet_79 rfl ?_
        exact hc (a.1, (a.2.1 + (1 : Int32)), s8)
      · refine r_iload_n (pc := 74) ok dX3_greatestSet_74 rfl ?_
        refine r_istore_n (pc := 75) ok dX3_greatestSet_75 (Nat.le_of_ble_eq_true rfl) rfl ?_
        refine r_iinc (pc := 76) ok (1 : Int32) dX3_greatestSet_76 ci_1 rfl (Nat.le_of_ble_eq_true rfl) rfl ?_
        refine r_goto (pc := 79) ok 36 dX3_greatestSet_79 rfl ?_
        exact hc (a.2.1, (a.2.1 + (1 : Int32)), s8)
theorem vMt_greatestSet {Z : Cx} {G : Gx} {b : Nat} {XX YY : Nat → Obj} {q : Obj} {sc : Obj} {mt : Obj} (ok : OK Z G b cX3_greatestSet 4 3 RX3 (some .int)) (hr_q : XX 5 = q) (hr_sc : XX 12 = sc) : VO Z G b 4 (fun (r : Int32 × Obj) => QX Z b (qI G b r.1 (mx (va_up XX 217 r.2) YY))) (mx (va_up XX 217 mt) YY) 0 [some (.ref (b + 217)), some (.ref (b + 12)), none, none] [] ((fMt_greatestSet q sc mt).bind some) := by
  unfold fMt_greatestSet
  refine r_iconst (pc := 0) ok (0 : Int32) dX3_greatestSet_0 ci_0 ?_
  refine r_istore_n (pc := 1) ok dX3_greatestSet_1 (Nat.le_of_ble_eq_true rfl) rfl ?_
  refine r_iter (P := fun (a2 : Int32 × Obj) o => VO Z G b 4 (fun (r : Int32 × Obj) => QX Z b (qI G b r.1 (mx (va_up XX 217 r.2) YY))) (mx (va_up XX 217 a2.2) YY) 2 [some (.ref (b + 217)), some (.ref (b + 12)), some (.int a2.1), none] [] o) (E := fun (e_2 : Obj) o => VO Z G b 4 (fun (r : Int32 × Obj) => QX Z b (qI G b r.1 (mx (va_up XX 217 r.2) YY))) (mx (va_up XX 217 e_2) YY) 25 [some (.ref (b + 217)), none, none, none] [] o) (fun _ => r_none) (fun K hc hx => wMt_greatestSet_L2 ok hr_q hr_sc (K := K) hc hx) (fun e4 => ?_) FU ((0 : Int32), mt)
  refine r_iconst (pc := 25) ok (0 : Int32) dX3_greatestSet_25 ci_0 ?_
  refine r_istore_n (pc := 26) ok dX3_greatestSet_26 (Nat.le_of_ble_eq_true rfl) rfl ?_
  refine r_aload_n (pc := 27) ok dX3_greatestSet_27 rfl ?_
  refine r_getR (pc := 28) ok cls3 sh_217 (k := 0) rfl (Nat.le_of_ble_eq_true rfl) rfl dX3_greatestSet_28 fl_Mt_11 ?_
  refine r_iconst (pc := 31) ok (0 : Int32) dX3_greatestSet_31 ci_0 ?_
  refine r_iconst (pc := 32) ok (1 : Int32) dX3_greatestSet_32 ci_1 ?_
  refine r_zastc (pc := 33) ok sh_218 (j := 1) rfl (i := 0) (by decide +kernel) za_1 (fun s_ => mx (va_up XX 217 s_) YY) (pm_l (Nat.le_of_ble_eq_true rfl) (pm_0 _ _)).1 (pm_l (Nat.le_of_ble_eq_true rfl) (pm_0 _ _)).2 dX3_greatestSet_33 (fun s5 => ?_)
  refine r_iconst (pc := 34) ok (1 : Int32) dX3_greatestSet_34 ci_1 ?_
  refine r_istore_n (pc := 35) ok dX3_greatestSet_35 (Nat.le_of_ble_eq_true rfl) rfl ?_
  refine r_iter (P := fun (a36 : Int32 × Int32 × Obj) o => VO Z G b 4 (fun (r : Int32 × Obj) => QX Z b (qI G b r.1 (mx (va_up XX 217 r.2) YY))) (mx (va_up XX 217 a36.2.2) YY) 36 [some (.ref (b + 217)), none, some (.int a36.1), some (.int a36.2.1)] [] o) (E := fun (e_36 : Int32 × Obj) o => VO Z G b 4 (fun (r : Int32 × Obj) => QX Z b (qI G b r.1 (mx (va_up XX 217 r.2) YY))) (mx (va_up XX 217 e_36.2) YY) 82 [none, none, some (.int e_36.1), none] [] o) (fun _ => r_none) (fun K hc hx => wMt_greatestSet_L36 ok hr_q hr_sc (K := K) hc hx) (fun e12 => ?_) FU ((0 : Int32), (1 : Int32), s5)
  refine r_iload_n (pc := 82) ok dX3_greatestSet_82 rfl ?_
  exact r_iret (pc := 83) ok dX3_greatestSet_83 rfl
theorem tMt_greatestSet {l : Launch} {G : Gx} {b : Nat} {XX YY : Nat → Obj} {q : Obj} {sc : Obj} {mt : Obj} (hr_q : XX 5 = q) (hr_sc : XX 12 = sc) {r : Int32 × Obj} (hr : fMt_greatestSet q sc mt = some r) : MetG l G b yX3_greatestSet cX3_greatestSet 4 (some .int) 3 [.ref (b + 217), .ref (b + 12)] (mx (va_up XX 217 mt) YY) (qI G b r.1 (mx (va_up XX 217 r.2) YY)) := by
  refine met_start [some (.ref (b + 217)), some (.ref (b + 12)), none, none] (by decide +kernel) (Nat.le_of_ble_eq_true rfl) rfl (fun Z hl ok => ?_)
  clear hl
  exact vMt_greatestSet ok hr_q hr_sc r (by rw [hr]; rfl)
