theorem wBk_live_L12 {Z : Cx} {G : Gx} {b : Nat} {io : Nat} {XX YY : Nat → Obj} {q : Obj} (ok : OK Z G b cX0_live 3 6 RX0 none) (ho : isSc io) (hr_q : XX (qid io) = q) {K : ((Int32 × Obj × Obj) ⊕ (Obj × Obj)) → Option (Obj × Obj)} (hc : ∀ (a : Int32 × Obj × Obj), VO Z G b 3 (fun (r : Obj × Obj) => QX Z b (qV G b (mx (va_up (va_up XX 213 r.1) io r.2) YY))) (mx (va_up (va_up XX 213 a.2.1) io a.2.2) YY) 12 [some (.ref (b + 213)), some (.ref (b + io)), some (.int a.1)] [] (K (.inl a))) (hx : ∀ (e : Obj × Obj), VO Z G b 3 (fun (r : Obj × Obj) => QX Z b (qV G b (mx (va_up (va_up XX 213 r.1) io r.2) YY))) (mx (va_up (va_up XX 213 e.1) io e.2) YY) 78 [some (.ref (b + 213)), some (.ref (b + io)), none] [] (K (.inr e))) : ∀ (a : Int32 × Obj × Obj), VO Z G b 3 (fun (r : Obj × Obj) => QX Z b (qV G b (mx (va_up (va_up XX 213 r.1) io r.2) YY))) (mx (va_up (va_up XX 213 a.2.1) io a.2.2) YY) 12 [some (.ref (b + 213)), some (.ref (b + io)), some (.int a.1)] [] ((fBk_live_L12 q a).bind K) := by
  intro a
  unfold fBk_live_L12
  refine r_iload_n (pc := 12) ok dX0_live_12 rfl ?_
  refine r_aload_n (pc := 13) ok dX0_live_13 rfl ?_
  refine r_getI (pc := 14) ok cls0 sh_213 (k := 7) rfl (Nat.le_of_ble_eq_true rfl) (mx_l (Nat.le_of_ble_eq_true rfl) ((va_up_ne _ _ (Ne.symm (sc_ne ho (by decide)))).trans (va_up_self _ _ _))) dX0_live_14 fl_Bk_29 ?_
  refine r_icmp_ge (pc := 17) ok 78 dX0_live_17 rfl (fun _ => ?_) (fun _ => ?_)
  · refine r_lv (lk_s (lk_s (lk_n lk_0 _) _) _) ?_
    exact hx (a.2.1, a.2.2)
  · refine r_iload_n (pc := 20) ok dX0_live_20 rfl ?_
    refine r_bipush (pc := 21) ok (40 : Int32) dX0_live_21 cb_40 ?_
    refine r_icmp_ge (pc := 23) ok 78 dX0_live_23 rfl (fun _ => ?_) (fun _ => ?_)
    · refine r_lv (lk_s (lk_s (lk_n lk_0 _) _) _) ?_
      exact hx (a.2.1, a.2.2)
    · refine r_aload_n (pc := 26) ok dX0_live_26 rfl ?_
      refine r_aload_n (pc := 27) ok dX0_live_27 rfl ?_
      refine r_aload_n (pc := 28) ok dX0_live_28 rfl ?_
      refine r_getR (pc := 29) ok cls0 sh_213 (k := 4) rfl (Nat.le_of_ble_eq_true rfl) rfl dX0_live_29 fl_Bk_9 ?_
      refine r_iload_n (pc := 32) ok dX0_live_32 rfl ?_
      refine r_iald (pc := 33) ok sh_214 (j := 1) rfl (mx_l (Nat.le_of_ble_eq_true rfl) ((va_up_ne _ _ (Ne.symm (sc_ne ho (by decide)))).trans (va_up_self _ _ _))) dX0_live_33 (fun i3 => ?_)
      refine r_aload_n (pc := 34) ok dX0_live_34 rfl ?_
      refine r_getR (pc := 35) ok cls0 sh_213 (k := 5) rfl (Nat.le_of_ble_eq_true rfl) rfl dX0_live_35 fl_Bk_15 ?_
      refine r_iload_n (pc := 38) ok dX0_live_38 rfl ?_
      refine r_iald (pc := 39) ok sh_215 (j := 2) rfl (mx_l (Nat.le_of_ble_eq_true rfl) ((va_up_ne _ _ (Ne.symm (sc_ne ho (by decide)))).trans (va_up_self _ _ _))) dX0_live_39 (fun i4 => ?_)
      refine r_aload_n (pc := 40) ok dX0_live_40 rfl ?_
      refine r_getR (pc := 41) ok cls0 sh_213 (k := 6) rfl (Nat.le_of_ble_eq_true rfl) rfl dX0_live_41 fl_Bk_18 ?_
      refine r_iload_n (pc := 44) ok dX0_live_44 rfl ?_
      refine r_iald (pc := 45) ok sh_216 (j := 3) rfl (mx_l (Nat.le_of_ble_eq_true rfl) ((va_up_ne _ _ (Ne.symm (sc_ne ho (by decide)))).trans (va_up_self _ _ _))) dX0_live_45 (fun i5 => ?_)
      refine k_I (pc := 46) (fun r6 => r6.1) (fun r6 => mx (va_up (va_up XX 213 a.2.1) io r6.2) YY) (fun r6 hr_ => c_S (n := 4) ok ml_Bk_107 ws_X0_liveLine yk_X0_liveLine rfl (Nat.le_of_ble_eq_true rfl) (Nat.le_of_ble_eq_true rfl) (tBk_liveLine ho ((va_up_ne _ _ (qu_ne (qid_qu ho) (by decide))).trans (hr_q)) hr_) rfl (Nat.le_of_ble_eq_true rfl) dX0_live_46) (fun r6 => ?_)
      refine r_putI (pc := 49) ok cls0 sh_213 (k := 0) rfl (Nat.le_of_ble_eq_true rfl) (fun s_ => mx (va_up (va_up XX 213 s_) io r6.2) YY) (pm_l (Nat.le_of_ble_eq_true rfl) (pm_s (Ne.symm (sc_ne ho (by decide))) (pm_0 _ _))).1 (pm_l (Nat.le_of_ble_eq_true rfl) (pm_s (Ne.symm (sc_ne ho (by decide))) (pm_0 _ _))).2 rfl rfl rfl dX0_live_49 fl_Bk_101 (fun s7 => ?_)
      refine r_aload_n (pc := 52) ok dX0_live_52 rfl ?_
      refine r_getI (pc := 53) ok cls0 sh_213 (k := 0) rfl (Nat.le_of_ble_eq_true rfl) (mx_l (Nat.le_of_ble_eq_true rfl) ((va_up_ne _ _ (Ne.symm (sc_ne ho (by decide)))).trans (va_up_self _ _ _))) dX0_live_53 fl_Bk_101 ?_
      refine r_if_eq (pc := 56) ok 62 dX0_live_56 rfl (fun _ => ?_) (fun _ => ?_)
      · refine r_aload_n (pc := 62) ok dX0_live_62 rfl ?_
        refine r_dup (pc := 63) ok dX0_live_63 rfl ?_
        refine r_getI (pc := 64) ok cls0 sh_213 (k := 1) rfl (Nat.le_of_ble_eq_true rfl) (mx_l (Nat.le_of_ble_eq_true rfl) ((va_up_ne _ _ (Ne.symm (sc_ne ho (by decide)))).trans (va_up_self _ _ _))) dX0_live_64 fl_Bk_104 ?_
        refine r_iconst (pc := 67) ok (1 : Int32) dX0_live_67 ci_1 ?_
        refine r_iadd (pc := 68) ok dX0_live_68 ?_
        refine r_putI (pc := 69) ok cls0 sh_213 (k := 1) rfl (Nat.le_of_ble_eq_true rfl) (fun s_ => mx (va_up (va_up XX 213 s_) io r6.2) YY) (pm_l (Nat.le_of_ble_eq_true rfl) (pm_s (Ne.symm (sc_ne ho (by decide))) (pm_0 _ _))).1 (pm_l (Nat.le_of_ble_eq_true rfl) (pm_s (Ne.symm (sc_ne ho (by decide))) (pm_0 _ _))).2 rfl rfl rfl dX0_live_69 fl_Bk_104 (fun s8 => ?_)
        refine r_iinc (pc := 72) ok (1 : Int32) dX0_live_72 ci_1 rfl (Nat.le_of_ble_eq_true rfl) rfl ?_
        refine r_goto (pc := 75) ok 12 dX0_live_75 rfl ?_
        exact hc ((a.1 + (1 : Int32)), s8, r6.2)
      · refine r_goto (pc := 59) ok 78 dX0_live_59 rfl ?_
        refine r_lv (lk_s (lk_s (lk_n lk_0 _) _) _) ?_
        exact hx (s7, r6.2)
theorem vBk_live {Z : Cx} {G : Gx} {b : Nat} {io : Nat} {XX YY : Nat → Obj} {q : Obj} {bk : Obj} {sc : Obj} (ok : OK Z G b cX0_live 3 6 RX0 none) (ho : isSc io) (hr_q : XX (qid io) = q) : VO Z G b 3 (fun (r : Obj × Obj) => QX Z b (qV G b (mx (va_up (va_up XX 213 r.1) io r.2) YY))) (mx (va_up (va_up XX 213 bk) io sc) YY) 0 [some (.ref (b + 213)), some (.ref (b + io)), none] [] ((fBk_live q bk sc).bind some) := by
  unfold fBk_live
  refine r_aload_n (pc := 0) ok dX0_live_0 rfl ?_
  refine r_iconst (pc := 1) ok (0 : Int32) dX0_live_1 ci_0 ?_
  refine r_putI (pc := 2) ok cls0 sh_213 (k := 0) rfl (Nat.le_of_ble_eq_true rfl) (fun s_ => mx (va_up (va_up XX 213 s_) io sc) YY) (pm_l (Nat.le_of_ble_eq_true rfl) (pm_s (Ne.symm (sc_ne ho (by decide))) (pm_0 _ _))).1 (pm_l (Nat.le_of_ble_eq_true rfl) (pm_s (Ne.symm (sc_ne ho (by decide))) (pm_0 _ _))).2 rfl rfl rfl dX0_live_2 fl_Bk_101 (fun s1 => ?_)
  refine r_aload_n (pc := 5) ok dX0_live_5 rfl ?_
  refine r_iconst (pc := 6) ok (0 : Int32) dX0_live_6 ci_0 ?_
  refine r_putI (pc := 7) ok cls0 sh_213 (k := 1) rfl (Nat.le_of_ble_eq_true rfl) (fun s_ => mx (va_up (va_up XX 213 s_) io sc) YY) (pm_l (Nat.le_of_ble_eq_true rfl) (pm_s (Ne.symm (sc_ne ho (by decide))) (pm_0 _ _))).1 (pm_l (Nat.le_of_ble_eq_true rfl) (pm_s (Ne.symm (sc_ne ho (by decide))) (pm_0 _ _))).2 rfl rfl rfl dX0_live_7 fl_Bk_104 (fun s2 => ?_)
  refine r_iconst (pc := 10) ok (0 : Int32) dX0_live_10 ci_0 ?_
  refine r_istore_n (pc := 11) ok dX0_live_11 (Nat.le_of_ble_eq_true rfl) rfl ?_
  refine r_iter (P := fun (a12 : Int32 × Obj × Obj) o => VO Z G b 3 (fun (r : Obj × Obj) => QX Z b (qV G b (mx (va_up (va_up XX 213 r.1) io r.2) YY))) (mx (va_up (va_up XX 213 a12.2.1) io a12.2.2) YY) 12 [some (.ref (b + 213)), some (.ref (b + io)), some (.int a12.1)] [] o) (E := fun (e_12 : Obj × Obj) o => VO Z G b 3 (fun (r : Obj × Obj) => QX Z b (qV G b (mx (va_up (va_up XX 213 r.1) io r.2) YY))) (mx (va_up (va_up XX 213 e_12.1) io e_12.2) YY) 78 [some (.ref (b + 213)), some (.ref (b + io)), none] [] o) (fun _ => r_none) (fun K hc hx => wBk_live_L12 ok ho hr_q (K := K) hc hx) (fun e9 => ?_) FU ((0 : Int32), s2, sc)
  refine r_aload_n (pc := 78) ok dX0_live_78 rfl ?_
  refine r_iconst (pc := 79) ok (1 : Int32) dX0_live_79 ci_1 ?_
  refine r_putI (pc := 80) ok cls0 sh_213 (k := 8) rfl (Nat.le_of_ble_eq_true rfl) (fun s_ => mx (va_up (va_up XX 213 s_) io e9.2) YY) (pm_l (Nat.le_of_ble_eq_true rfl) (pm_s (Ne.symm (sc_ne ho (by decide))) (pm_0 _ _))).1 (pm_l (Nat.le_of_ble_eq_true rfl) (pm_s (Ne.symm (sc_ne ho (by decide))) (pm_0 _ _))).2 rfl rfl rfl dX0_live_80 fl_Bk_111 (fun s10 => ?_)
  refine r_aload_n (pc := 83) ok dX0_live_83 rfl ?_
  refine r_aload_n (pc := 84) ok dX0_live_84 rfl ?_
  refine r_getI (pc := 85) ok cls8 (sc_sh ho) (k := 1) rfl (Nat.le_of_ble_eq_true rfl) (mx_l (sc_lt ho) (va_up_self _ _ _)) dX0_live_85 fl_Bk_115 ?_
  refine r_putI (pc := 88) ok cls0 sh_213 (k := 9) rfl (Nat.le_of_ble_eq_true rfl) (fun s_ => mx (va_up (va_up XX 213 s_) io e9.2) YY) (pm_l (Nat.le_of_ble_eq_true rfl) (pm_s (Ne.symm (sc_ne ho (by decide))) (pm_0 _ _))).1 (pm_l (Nat.le_of_ble_eq_true rfl) (pm_s (Ne.symm (sc_ne ho (by decide))) (pm_0 _ _))).2 rfl rfl rfl dX0_live_88 fl_Bk_120 (fun s11 => ?_)
  refine r_aload_n (pc := 91) ok dX0_live_91 rfl ?_
  refine r_aload_n (pc := 92) ok dX0_live_92 rfl ?_
  refine r_iconst (pc := 93) ok (2 : Int32) dX0_live_93 ci_2 ?_
  refine k_I (pc := 94) (fun r12 => r12) (fun r12 => mx (va_up (va_up XX 213 s11) io e9.2) YY) (fun r12 hr_ => c_V (n := 1) ok cls8 (sc_sh ho) rfl ml_Bk_123 wv_X8_thoseWhoAre yk_X8_thoseWhoAre rfl (Nat.le_of_ble_eq_true rfl) (Nat.le_of_ble_eq_true rfl) (tSc_thoseWhoAre ho ((va_up_ne _ _ (qid_ne ho)).trans ((va_up_ne _ _ (qu_ne (qid_qu ho) (by decide))).trans (hr_q))) (va_up_self _ _ _) hr_) rfl (Nat.le_of_ble_eq_true rfl) dX0_live_94) (fun r12 => ?_)
  refine r_putI (pc := 97) ok cls0 sh_213 (k := 10) rfl (Nat.le_of_ble_eq_true rfl) (fun s_ => mx (va_up (va_up XX 213 s_) io e9.2) YY) (pm_l (Nat.le_of_ble_eq_true rfl) (pm_s (Ne.symm (sc_ne ho (by decide))) (pm_0 _ _))).1 (pm_l (Nat.le_of_ble_eq_true rfl) (pm_s (Ne.symm (sc_ne ho (by decide))) (pm_0 _ _))).2 rfl rfl rfl dX0_live_97 fl_Bk_126 (fun s13 => ?_)
  exact r_vret (pc := 100) ok dX0_live_100 rfl
theorem tBk_live {l : Launch} {G : Gx} {b : Nat} {io : Nat} {XX YY : Nat → Obj} {q : Obj} {bk : Obj} {sc : Obj} (ho : isSc io) (hr_q : XX (qid io) = q) {r : Obj × Obj} (hr : fBk_live q bk sc = some r) : MetG l G b yX0_live cX0_live 3 none 6 [.ref (b + 213), .ref (b + io)] (mx (va_up (va_up XX 213 bk) io sc) YY) (qV G b (mx (va_up (va_up XX 213 r.1) io r.2) YY)) := by
  refine met_start [some (.ref (b + 213)), some (.ref (b + io)), none] (by decide +kernel) (Nat.le_of_ble_eq_true rfl) rfl (fun Z hl ok => ?_)
  clear hl
  exact vBk_live ok ho hr_q r (by rw [hr]; rfl)
theorem wKL_book_J115 {Z : Cx} {G : Gx} {b : Nat} {YY : Nat → Obj} {X : Nat → Obj} (ok : OK Z G b cX11_book 3 7 RX11 (some .int)) : VO Z G b 3 (fun (r : Int32 × (Nat → Obj)) => QX Z b (qI G b r.1 (mx r.2 YY))) (mx X YY) 115 [some (.ref (b + 0)), none, none] [] ((fKL_book_J115 X).bind some) := by
  unfold fKL_book_J115
  refine r_aload_n (pc := 115) ok dX11_book_115 rfl ?_
  refine r_getR (pc := 116) ok cls11 sh_0 (k := 8) rfl (Nat.le_of_ble_eq_true rfl) rfl dX11_book_116 fl_KL_66 ?_
  refine r_getI (pc := 119) ok cls0 sh_213 (k := 0) rfl (Nat.le_of_ble_eq_true rfl) (mx_l (Nat.le_of_ble_eq_true rfl) rfl) dX11_book_119 fl_KL_300 ?_
  refine r_if_ne (pc := 122) ok 129 dX11_book_122 rfl (fun _ => ?_) (fun _ => ?_)
  · refine r_iconst (pc := 125) ok (-1 : Int32) dX11_book_125 ci_m1 ?_
    refine r_goto (pc := 126) ok 136 dX11_book_126 rfl ?_
    exact r_iret (pc := 136) ok dX11_book_136 rfl
  · refine r_aload_n (pc := 129) ok dX11_book_129 rfl ?_
    refine r_getR (pc := 130) ok cls11 sh_0 (k := 8) rfl (Nat.le_of_ble_eq_true rfl) rfl dX11_book_130 fl_KL_66 ?_
    refine r_getI (pc := 133) ok cls0 sh_213 (k := 1) rfl (Nat.le_of_ble_eq_true rfl) (mx_l (Nat.le_of_ble_eq_true rfl) rfl) dX11_book_133 fl_KL_297 ?_
    exact r_iret (pc := 136) ok dX11_book_136 rfl
theorem wKL_book_J13 {Z : Cx} {G : Gx} {b : Nat} {YY : Nat → Obj} {X : Nat → Obj} {v1 : Int32} (ok : OK Z G b cX11_book 3 7 RX11 (some .int)) : VO Z G b 3 (fun (r : Int32 × (Nat → Obj)) => QX Z b (qI G b r.1 (mx r.2 YY))) (mx X YY) 13 [some (.ref (b + 0)), some (.int v1), none] [] ((fKL_book_J13 X v1).bind some) := by
  unfold fKL_book_J13
  refine r_aload_n (pc := 13) ok dX11_book_13 rfl ?_
  refine r_getR (pc := 14) ok cls11 sh_0 (k := 8) rfl (Nat.le_of_ble_eq_true rfl) rfl dX11_book_14 fl_KL_66 ?_
  refine k_I (pc := 17) (fun r1 => r1.1) (fun r1 => mx ((va_up (va_up X 213 r1.2.1) 1 r1.2.2)) YY) (fun r1 hr_ => c_V (n := 0) ok cls0 sh_213 rfl ml_KL_291 wv_X0_readAll yk_X0_readAll rfl (Nat.le_of_ble_eq_true rfl) (Nat.le_of_ble_eq_true rfl) (met_cast (by rw [up_eta, up_eta]) rfl (tBk_readAll (rfl) hr_)) rfl (Nat.le_of_ble_eq_true rfl) dX11_book_17) (fun r1 => ?_)
  refine r_bndX (wf := (fun x_ => mx (va_up x_ 1 r1.2.2) YY)) (fun X2 => ?_)
  refine r_bndX (wf := (fun x_ => mx x_ YY)) (fun X3 => ?_)
  refine r_istore_n (pc := 20) ok dX11_book_20 (Nat.le_of_ble_eq_true rfl) rfl ?_
  refine r_aload_n (pc := 21) ok dX11_book_21 rfl ?_
  refine k_V (pc := 22)  (fun r4 => mx r4 YY) (fun r4 hr_ => c_V (n := 0) ok cls11 sh_0 rfl ml_KL_115 wv_X11_finishReading yk_X11_finishReading rfl (Nat.le_of_ble_eq_true rfl) (Nat.le_of_ble_eq_true rfl) (tKL_finishReading hr_) rfl (Nat.le_of_ble_eq_true rfl) dX11_book_22) (fun r4 => ?_)
  refine r_iload_n (pc := 25) ok dX11_book_25 rfl ?_
  refine r_if_ne (pc := 26) ok 40 dX11_book_26 rfl (fun _ => ?_) (fun _ => ?_)
  · refine r_bipush (pc := 29) ok (-2 : Int32) dX11_book_29 cb_m2 ?_
    refine r_aload_n (pc := 31) ok dX11_book_31 rfl ?_
    refine r_getR (pc := 32) ok cls11 sh_0 (k := 0) rfl (Nat.le_of_ble_eq_true rfl) rfl dX11_book_32 fl_KL_10 ?_
    refine r_getI (pc := 35) ok cls10 sh_1 (k := 3) rfl (Nat.le_of_ble_eq_true rfl) (mx_l (Nat.le_of_ble_eq_true rfl) rfl) dX11_book_35 fl_KL_118 ?_
    refine r_isub (pc := 38) ok dX11_book_38 ?_
    exact r_iret (pc := 39) ok dX11_book_39 rfl
  · refine r_iload_n (pc := 40) ok dX11_book_40 rfl ?_
    refine r_if_ne (pc := 41) ok 72 dX11_book_41 rfl (fun _ => ?_) (fun _ => ?_)
    · refine r_aload_n (pc := 44) ok dX11_book_44 rfl ?_
      refine r_getR (pc := 45) ok cls11 sh_0 (k := 6) rfl (Nat.le_of_ble_eq_true rfl) rfl dX11_book_45 fl_KL_48 ?_
      refine r_aload_n (pc := 48) ok dX11_book_48 rfl ?_
      refine r_getR (pc := 49) ok cls11 sh_0 (k := 1) rfl (Nat.le_of_ble_eq_true rfl) rfl dX11_book_49 fl_KL_19 ?_
      refine r_getR (pc := 52) ok cls9 sh_4 (k := 1) rfl (Nat.le_of_ble_eq_true rfl) rfl dX11_book_52 fl_KL_140 ?_
      refine k_V (pc := 55)  (fun r5 => mx ((va_up r4 201 r5)) YY) (fun r5 hr_ => c_V (n := 1) ok cls8 sh_201 rfl ml_KL_256 wv_X8_copyFrom yk_X8_copyFrom rfl (Nat.le_of_ble_eq_true rfl) (Nat.le_of_ble_eq_true rfl) (met_cast (by rw [up_eta]) rfl (tSc_copyFrom (sc_c (o := 201) (by decide)) (sc_c (o := 12) (by decide)) (by decide) (rfl) hr_)) rfl (Nat.le_of_ble_eq_true rfl) dX11_book_55) (fun r5 => ?_)
      refine r_bndX (wf := (fun x_ => mx x_ YY)) (fun X6 => ?_)
      refine r_aload_n (pc := 58) ok dX11_book_58 rfl ?_
      refine r_getR (pc := 59) ok cls11 sh_0 (k := 8) rfl (Nat.le_of_ble_eq_true rfl) rfl dX11_book_59 fl_KL_66 ?_
      refine r_aload_n (pc := 62) ok dX11_book_62 rfl ?_
      refine r_getR (pc := 63) ok cls11 sh_0 (k := 6) rfl (Nat.le_of_ble_eq_true rfl) rfl dX11_book_63 fl_KL_48 ?_
      refine k_V (pc := 66)  (fun r7 => mx ((va_up (va_up X6 213 r7.1) 201 r7.2)) YY) (fun r7 hr_ => c_V (n := 1) ok cls0 sh_213 rfl ml_KL_294 wv_X0_live yk_X0_live rfl (Nat.le_of_ble_eq_true rfl) (Nat.le_of_ble_eq_true rfl) (met_cast (by rw [up_eta, up_eta]) rfl (tBk_live (sc_c (o := 201) (by decide)) (rfl) hr_)) rfl (Nat.le_of_ble_eq_true rfl) dX11_book_66) (fun r7 => ?_)
      refine r_bndX (wf := (fun x_ => mx (va_up x_ 201 r7.2) YY)) (fun X8 => ?_)
      refine r_bndX (wf := (fun x_ => mx x_ YY)) (fun X9 => ?_)
      refine r_goto (pc := 69) ok 115 dX11_book_69 rfl ?_
      refine r_lv (lk_s (lk_n (lk_n lk_0 _) _) _) ?_
      exact wKL_book_J115 ok
    · refine r_aload_n (pc := 72) ok dX11_book_72 rfl ?_
      refine r_getR (pc := 73) ok cls11 sh_0 (k := 5) rfl (Nat.le_of_ble_eq_true rfl) rfl dX11_book_73 fl_KL_41 ?_
      refine r_aload_n (pc := 76) ok dX11_book_76 rfl ?_
      refine r_getR (pc := 77) ok cls11 sh_0 (k := 1) rfl (Nat.le_of_ble_eq_true rfl) rfl dX11_book_77 fl_KL_19 ?_
      refine r_getR (pc := 80) ok cls9 sh_4 (k := 1) rfl (Nat.le_of_ble_eq_true rfl) rfl dX11_book_80 fl_KL_140 ?_
      refine k_V (pc := 83)  (fun r10 => mx r10 YY) (fun r10 hr_ => c_V (n := 1) ok cls4 sh_100 rfl ml_KL_197 wv_X4_note yk_X4_note rfl (Nat.le_of_ble_eq_true rfl) (Nat.le_of_ble_eq_true rfl) (tPa_note hr_) rfl (Nat.le_of_ble_eq_true rfl) dX11_book_83) (fun r10 => ?_)
      refine r_aload_n (pc := 86) ok dX11_book_86 rfl ?_
      refine r_getR (pc := 87) ok cls11 sh_0 (k := 8) rfl (Nat.le_of_ble_eq_true rfl) rfl dX11_book_87 fl_KL_66 ?_
      refine r_aload_n (pc := 90) ok dX11_book_90 rfl ?_
      refine r_getR (pc := 91) ok cls11 sh_0 (k := 1) rfl (Nat.le_of_ble_eq_true rfl) rfl dX11_book_91 fl_KL_19 ?_
      refine r_getR (pc := 94) ok cls9 sh_4 (k := 1) rfl (Nat.le_of_ble_eq_true rfl) rfl dX11_book_94 fl_KL_140 ?_
      refine k_V (pc := 97)  (fun r11 => mx ((va_up (va_up r10 213 r11.1) 12 r11.2)) YY) (fun r11 hr_ => c_V (n := 1) ok cls0 sh_213 rfl ml_KL_294 wv_X0_live yk_X0_live rfl (Nat.le_of_ble_eq_true rfl) (Nat.le_of_ble_eq_true rfl) (met_cast (by rw [up_eta, up_eta]) rfl (tBk_live (sc_c (o := 12) (by decide)) (rfl) hr_)) rfl (Nat.le_of_ble_eq_true rfl) dX11_book_97) (fun r11 => ?_)
      refine r_bndX (wf := (fun x_ => mx (va_up x_ 12 r11.2) YY)) (fun X12 => ?_)
      refine r_bndX (wf := (fun x_ => mx x_ YY)) (fun X13 => ?_)
      refine r_aload_n (pc := 100) ok dX11_book_100 rfl ?_
      refine r_getR (pc := 101) ok cls11 sh_0 (k := 5) rfl (Nat.le_of_ble_eq_true rfl) rfl dX11_book_101 fl_KL_41 ?_
      refine r_aload_n (pc := 104) ok dX11_book_104 rfl ?_
      refine r_getR (pc := 105) ok cls11 sh_0 (k := 8) rfl (Nat.le_of_ble_eq_true rfl) rfl dX11_book_105 fl_KL_66 ?_
      refine r_getI (pc := 108) ok cls0 sh_213 (k := 1) rfl (Nat.le_of_ble_eq_true rfl) (mx_l (Nat.le_of_ble_eq_true rfl) rfl) dX11_book_108 fl_KL_297 ?_
      refine k_I (pc := 111) (fun r14 => r14.1) (fun r14 => mx r14.2 YY) (fun r14 hr_ => c_V (n := 1) ok cls4 sh_100 rfl ml_KL_222 wv_X4_keepIfAny yk_X4_keepIfAny rfl (Nat.le_of_ble_eq_true rfl) (Nat.le_of_ble_eq_true rfl) (tPa_keepIfAny hr_) rfl (Nat.le_of_ble_eq_true rfl) dX11_book_111) (fun r14 => ?_)
      refine r_pop (pc := 114) ok dX11_book_114 rfl ?_
      refine r_lv (lk_s (lk_n (lk_n lk_0 _) _) _) ?_
      exact wKL_book_J115 ok
theorem vKL_book {Z : Cx} {G : Gx} {b : Nat} {YY : Nat → Obj} {X : Nat → Obj} {v1 : Int32} (ok : OK Z G b cX11_book 3 7 RX11 (some .int)) : VO Z G b 3 (fun (r : Int32 × (Nat → Obj)) => QX Z b (qI G b r.1 (mx r.2 YY))) (mx X YY) 0 [some (.ref (b + 0)), some (.int v1), none] [] ((fKL_book X v1).bind some) := by
  unfold fKL_book
  refine r_iload_n (pc := 0) ok dX11_book_0 rfl ?_
  refine r_if_eq (pc := 1) ok 13 dX11_book_1 rfl (fun _ => ?_) (fun _ => ?_)
  · exact wKL_book_J13 ok
  · refine r_iload_n (pc := 4) ok dX11_book_4 rfl ?_
    refine r_iconst (pc := 5) ok (1 : Int32) dX11_book_5 ci_1 ?_
    refine r_icmp_eq (pc := 6) ok 13 dX11_book_6 rfl (fun _ => ?_) (fun _ => ?_)
    · exact wKL_book_J13 ok
    · refine r_sipush (pc := 9) ok (-1000 : Int32) dX11_book_9 cs_m1000 ?_
      exact r_iret (pc := 12) ok dX11_book_12 rfl
theorem tKL_book {l : Launch} {G : Gx} {b : Nat} {YY : Nat → Obj} {X : Nat → Obj} {v1 : Int32} {r : Int32 × (Nat → Obj)} (hr : fKL_book X v1 = some r) : MetG l G b yX11_book cX11_book 3 (some .int) 7 [.ref (b + 0), .int v1] (mx X YY) (qI G b r.1 (mx r.2 YY)) := by
  refine met_start [some (.ref (b + 0)), some (.int v1), none] (by decide +kernel) (Nat.le_of_ble_eq_true rfl) rfl (fun Z hl ok => ?_)
  clear hl
  exact vKL_book ok r (by rw [hr]; rfl)
theorem vBk_tell {Z : Cx} {G : Gx} {b : Nat} {XX YY : Nat → Obj} {bk : Obj} {v1 : Int32} (ok : OK Z G b cX0_tell 2 0 RX0 (some .int)) (hr_bk : XX 213 = bk) : VO Z G b 2 (fun (r : Int32) => QX Z b (qI G b r (mx XX YY))) (mx XX YY) 0 [some (.ref (b + 213)), some (.int v1)] [] ((fBk_tell bk v1).bind some) := by
  unfold fBk_tell
  refine r_aload_n (pc := 0) ok dX0_tell_0 rfl ?_
  refine r_getI (pc := 1) ok cls0 sh_213 (k := 8) rfl (Nat.le_of_ble_eq_true rfl) (mx_l (Nat.le_of_ble_eq_true rfl) (hr_bk)) dX0_tell_1 fl_Bk_111 ?_
  refine r_if_ne (pc := 4) ok 9 dX0_tell_4 rfl (fun _ => ?_) (fun _ => ?_)
  · refine r_iconst (pc := 7) ok (-1 : Int32) dX0_tell_7 ci_m1 ?_
    exact r_iret (pc := 8) ok dX0_tell_8 rfl
  · refine r_iload_n (pc := 9) ok dX0_tell_9 rfl ?_
    refine r_ite (fun hs0 => ?_) (fun hs0 => ?_)
    · refine r_tsw (pc := 10) ok 40 (0 : Int32) dX0_tell_10 hs0 (by decide +kernel) (by decide +kernel) rfl rfl ?_
      refine r_aload_n (pc := 40) ok dX0_tell_40 rfl ?_
      refine r_getI (pc := 41) ok cls0 sh_213 (k := 0) rfl (Nat.le_of_ble_eq_true rfl) (mx_l (Nat.le_of_ble_eq_true rfl) (hr_bk)) dX0_tell_41 fl_Bk_101 ?_
      exact r_iret (pc := 44) ok dX0_tell_44 rfl
    refine r_ite (fun hs1 => ?_) (fun hs1 => ?_)
    · refine r_tsw (pc := 10) ok 45 (1 : Int32) dX0_tell_10 hs1 (by decide +kernel) (by decide +kernel) rfl rfl ?_
      refine r_aload_n (pc := 45) ok dX0_tell_45 rfl ?_
      refine r_getI (pc := 46) ok cls0 sh_213 (k := 1) rfl (Nat.le_of_ble_eq_true rfl) (mx_l (Nat.le_of_ble_eq_true rfl) (hr_bk)) dX0_tell_46 fl_Bk_104 ?_
      exact r_iret (pc := 49) ok dX0_tell_49 rfl
    refine r_ite (fun hs2 => ?_) (fun hs2 => ?_)
    · refine r_tsw (pc := 10) ok 50 (2 : Int32) dX0_tell_10 hs2 (by decide +kernel) (by decide +kernel) rfl rfl ?_
      refine r_aload_n (pc := 50) ok dX0_tell_50 rfl ?_
      refine r_getI (pc := 51) ok cls0 sh_213 (k := 9) rfl (Nat.le_of_ble_eq_true rfl) (mx_l (Nat.le_of_ble_eq_true rfl) (hr_bk)) dX0_tell_51 fl_Bk_120 ?_
      exact r_iret (pc := 54) ok dX0_tell_54 rfl
    refine r_ite (fun hs3 => ?_) (fun hs3 => ?_)
    · refine r_tsw (pc := 10) ok 55 (3 : Int32) dX0_tell_10 hs3 (by decide +kernel) (by decide +kernel) rfl rfl ?_
      refine r_aload_n (pc := 55) ok dX0_tell_55 rfl ?_
      refine r_getI (pc := 56) ok cls0 sh_213 (k := 10) rfl (Nat.le_of_ble_eq_true rfl) (mx_l (Nat.le_of_ble_eq_true rfl) (hr_bk)) dX0_tell_56 fl_Bk_126 ?_
      exact r_iret (pc := 59) ok dX0_tell_59 rfl
    refine r_tswd (pc := 10) ok 60 dX0_tell_10 (tsw_out4 hs0 hs1 hs2 hs3) rfl ?_
    refine r_iconst (pc := 60) ok (-1 : Int32) dX0_tell_60 ci_m1 ?_
    exact r_iret (pc := 61) ok dX0_tell_61 rfl
theorem tBk_tell {l : Launch} {G : Gx} {b : Nat} {XX YY : Nat → Obj} {bk : Obj} {v1 : Int32} (hr_bk : XX 213 = bk) {r : Int32} (hr : fBk_tell bk v1 = some r) : MetG l G b yX0_tell cX0_tell 2 (some .int) 0 [.ref (b + 213), .int v1] (mx XX YY) (qI G b r (mx XX YY)) := by
  refine met_start [some (.ref (b + 213)), some (.int v1)] (by decide +kernel) (Nat.le_of_ble_eq_true rfl) rfl (fun Z hl ok => ?_)
  clear hl
  exact vBk_tell ok hr_bk r (by rw [hr]; rfl)
theorem vKL_told {Z : Cx} {G : Gx} {b : Nat} {YY : Nat → Obj} {X : Nat → Obj} {v1 : Int32} (ok : OK Z G b cX11_told 2 1 RX11 (some .int)) : VO Z G b 2 (fun (r : Int32) => QX Z b (qI G b r (mx X YY))) (mx X YY) 0 [some (.ref (b + 0)), some (.int v1)] [] ((fKL_told X v1).bind some) := by
  unfold fKL_told
  refine r_aload_n (pc := 0) ok dX11_told_0 rfl ?_
  refine r_getR (pc := 1) ok cls11 sh_0 (k := 8) rfl (Nat.le_of_ble_eq_true rfl) rfl dX11_told_1 fl_KL_66 ?_
  refine r_iload_n (pc := 4) ok dX11_told_4 rfl ?_
  refine k_I (pc := 5) (fun r1 => r1) (fun r1 => mx X YY) (fun r1 hr_ => c_V (n := 1) ok cls0 sh_213 rfl ml_KL_303 wv_X0_tell yk_X0_tell rfl (Nat.le_of_ble_eq_true rfl) (Nat.le_of_ble_eq_true rfl) (tBk_tell (rfl) hr_) rfl (Nat.le_of_ble_eq_true rfl) dX11_told_5) (fun r1 => ?_)
  exact r_iret (pc := 8) ok dX11_told_8 rfl
theorem tKL_told {l : Launch} {G : Gx} {b : Nat} {YY : Nat → Obj} {X : Nat → Obj} {v1 : Int32} {r : Int32} (hr : fKL_told X v1 = some r) : MetG l G b yX11_told cX11_told 2 (some .int) 1 [.ref (b + 0), .int v1] (mx X YY) (qI G b r (mx X YY)) := by
  refine met_start [some (.ref (b + 0)), some (.int v1)] (by decide +kernel) (Nat.le_of_ble_eq_true rfl) rfl (fun Z hl ok => ?_)
  clear hl
  exact vKL_told ok r (by rw [hr]; rfl)
theorem vSy_canBeginOne {Z : Cx} {G : Gx} {b : Nat} {XX YY : Nat → Obj} {v0 : Int32} (ok : OK Z G b cX7_canBeginOne 1 0 RX7 (some .boolean)) : VO Z G b 1 (fun (r : Int32) => QX Z b (qI G b r (mx XX YY))) (mx XX YY) 0 [some (.int v0)] [] ((fSy_canBeginOne v0).bind some) := by
  unfold fSy_canBeginOne
  refine r_iload_n (pc := 0) ok dX7_canBeginOne_0 rfl ?_
  refine r_bipush (pc := 1) ok (12 : Int32) dX7_canBeginOne_1 cb_12 ?_
  refine r_icmp_eq (pc := 3) ok 23 dX7_canBeginOne_3 rfl (fun _ => ?_) (fun _ => ?_)
  · refine r_iconst (pc := 23) ok (1 : Int32) dX7_canBeginOne_23 ci_1 ?_
    refine r_goto (pc := 24) ok 28 dX7_canBeginOne_24 rfl ?_
    exact r_zret (pc := 28) ok dX7_canBeginOne_28 za_1 rfl
  · refine r_iload_n (pc := 6) ok dX7_canBeginOne_6 rfl ?_
    refine r_iconst (pc := 7) ok (4 : Int32) dX7_canBeginOne_7 ci_4 ?_
    refine r_icmp_eq (pc := 8) ok 23 dX7_canBeginOne_8 rfl (fun _ => ?_) (fun _ => ?_)
    · refine r_iconst (pc := 23) ok (1 : Int32) dX7_canBeginOne_23 ci_1 ?_
      refine r_goto (pc := 24) ok 28 dX7_canBeginOne_24 rfl ?_
      exact r_zret (pc := 28) ok dX7_canBeginOne_28 za_1 rfl
    · refine r_iload_n (pc := 11) ok dX7_canBeginOne_11 rfl ?_
      refine r_bipush (pc := 12) ok (20 : Int32) dX7_canBeginOne_12 cb_20 ?_
      refine r_icmp_lt (pc := 14) ok 27 dX7_canBeginOne_14 rfl (fun _ => ?_) (fun _ => ?_)
      · refine r_iconst (pc := 27) ok (0 : Int32) dX7_canBeginOne_27 ci_0 ?_
        exact r_zret (pc := 28) ok dX7_canBeginOne_28 za_0 rfl
      · refine r_iload_n (pc := 17) ok dX7_canBeginOne_17 rfl ?_
        refine r_bipush (pc := 18) ok (28 : Int32) dX7_canBeginOne_18 cb_28 ?_
        refine r_icmp_gt (pc := 20) ok 27 dX7_canBeginOne_20 rfl (fun _ => ?_) (fun _ => ?_)
        · refine r_iconst (pc := 27) ok (0 : Int32) dX7_canBeginOne_27 ci_0 ?_
          exact r_zret (pc := 28) ok dX7_canBeginOne_28 za_0 rfl
        · refine r_iconst (pc := 23) ok (1 : Int32) dX7_canBeginOne_23 ci_1 ?_
          refine r_goto (pc := 24) ok 28 dX7_canBeginOne_24 rfl ?_
          exact r_zret (pc := 28) ok dX7_canBeginOne_28 za_1 rfl
theorem tSy_canBeginOne {l : Launch} {G : Gx} {b : Nat} {XX YY : Nat → Obj} {v0 : Int32} {r : Int32} (hr : fSy_canBeginOne v0 = some r) : MetG l G b yX7_canBeginOne cX7_canBeginOne 1 (some .boolean) 0 [.int v0] (mx XX YY) (qI G b r (mx XX YY)) := by
  refine met_start [some (.int v0)] (by decide +kernel) (Nat.le_of_ble_eq_true rfl) rfl (fun Z hl ok => ?_)
  clear hl
  exact vSy_canBeginOne ok r (by rw [hr]; rfl)
theorem vSy_refuse {Z : Cx} {G : Gx} {b : Nat} {XX YY : Nat → Obj} {ta : Obj} {v1 : Int32} (ok : OK Z G b cX7_refuse 2 1 RX7 (some .boolean)) : VO Z G b 2 (fun (r : Int32 × Obj) => QX Z b (qI G b r.1 (mx (va_up XX 1 r.2) YY))) (mx (va_up XX 1 ta) YY) 0 [some (.ref (b + 1)), some (.int v1)] [] ((fSy_refuse ta v1).bind some) := by
  unfold fSy_refuse
  refine r_aload_n (pc := 0) ok dX7_refuse_0 rfl ?_
  refine r_iload_n (pc := 1) ok dX7_refuse_1 rfl ?_
  refine k_I (pc := 2) (fun r1 => r1.1) (fun r1 => mx (va_up XX 1 r1.2) YY) (fun r1 hr_ => c_V (n := 1) ok cls10 sh_1 rfl ml_Sy_58 wv_X10_refuse yk_X10_refuse rfl (Nat.le_of_ble_eq_true rfl) (Nat.le_of_ble_eq_true rfl) (tTa_refuse hr_) rfl (Nat.le_of_ble_eq_true rfl) dX7_refuse_2) (fun r1 => ?_)
  refine r_pop (pc := 5) ok dX7_refuse_5 rfl ?_
  refine r_iconst (pc := 6) ok (0 : Int32) dX7_refuse_6 ci_0 ?_
  exact r_zret (pc := 7) ok dX7_refuse_7 za_0 rfl
theorem tSy_refuse {l : Launch} {G : Gx} {b : Nat} {XX YY : Nat → Obj} {ta : Obj} {v1 : Int32} {r : Int32 × Obj} (hr : fSy_refuse ta v1 = some r) : MetG l G b yX7_refuse cX7_refuse 2 (some .boolean) 1 [.ref (b + 1), .int v1] (mx (va_up XX 1 ta) YY) (qI G b r.1 (mx (va_up XX 1 r.2) YY)) := by
  refine met_start [some (.ref (b + 1)), some (.int v1)] (by decide +kernel) (Nat.le_of_ble_eq_true rfl) rfl (fun Z hl ok => ?_)
  clear hl
  exact vSy_refuse ok r (by rw [hr]; rfl)
theorem vSy_readBracket {Z : Cx} {G : Gx} {b : Nat} {d : Nat} {XX YY : Nat → Obj} {self : Nat → Obj → Obj → Int32 → Option (Int32 × Obj × Obj)} {q : Obj} {sy : Obj} {ta : Obj} {v3 : Int32} (ok : OK Z G b cX7_readBracket 4 d RX7 (some .boolean)) (hself : recOK Z.2.1 G b q d self) (hr_q : XX 5 = q) : VO Z G b 4 (fun (r : Int32 × Obj × Obj) => QX Z b (qI G b r.1 (mx (va_up (va_up XX 47 r.2.1) 1 r.2.2) YY))) (mx (va_up (va_up XX 47 sy) 1 ta) YY) 0 [some (.ref (b + 47)), some (.ref (b + 1)), some (.ref (b + 5)), some (.int v3)] [] ((fSy_readBracket self q sy ta v3).bind some) := by
  unfold fSy_readBracket
  have hd12 := hself.1
  refine r_aload_n (pc := 0) ok dX7_readBracket_0 rfl ?_
  refine k_V (pc := 1)  (fun r1 => mx (va_up (va_up XX 47 sy) 1 r1) YY) (fun r1 hr_ => c_V (n := 0) ok cls10 sh_1 rfl ml_Sy_72 wv_X10_take yk_X10_take rfl (by omega) (by omega) (tTa_take hr_) rfl (Nat.le_of_ble_eq_true rfl) dX7_readBracket_1) (fun r1 => ?_)
  refine r_aload_n (pc := 4) ok dX7_readBracket_4 rfl ?_
  refine r_aload_n (pc := 5) ok dX7_readBracket_5 rfl ?_
  refine r_aload_n (pc := 6) ok dX7_readBracket_6 rfl ?_
  refine r_iload_n (pc := 7) ok dX7_readBracket_7 rfl ?_
  refine r_iconst (pc := 8) ok (1 : Int32) dX7_readBracket_8 ci_1 ?_
  refine r_iadd (pc := 9) ok dX7_readBracket_9 ?_
  refine k_I (pc := 10) (fun r2 => r2.1) (fun r2 => mx (va_up (va_up XX 47 r2.2.1) 1 r2.2.2) YY) (fun r2 hr_ => c_V (n := 3) ok cls7 sh_47 rfl ml_Sy_46 wv_X7_readCond yk_X7_readCond rfl (by omega) (by omega) (hself_readCond hself (XX := XX) (YY := YY) hr_q hr_) rfl (Nat.le_of_ble_eq_true rfl) dX7_readBracket_10) (fun r2 => ?_)
  refine r_if_ne (pc := 13) ok 18 dX7_readBracket_13 rfl (fun _ => ?_) (fun _ => ?_)
  · refine r_iconst (pc := 16) ok (0 : Int32) dX7_readBracket_16 ci_0 ?_
    exact r_zret (pc := 17) ok dX7_readBracket_17 za_0 rfl
  · refine r_aload_n (pc := 18) ok dX7_readBracket_18 rfl ?_
    refine r_bipush (pc := 19) ok (41 : Int32) dX7_readBracket_19 cb_41 ?_
    refine k_I (pc := 21) (fun r3 => r3) (fun r3 => mx (va_up (va_up XX 47 r2.2.1) 1 r2.2.2) YY) (fun r3 hr_ => c_V (n := 1) ok cls10 sh_1 rfl ml_Sy_75 wv_X10_isSignOf yk_X10_isSignOf rfl (by omega) (by omega) (tTa_isSignOf (va_up_self _ _ _) hr_) rfl (Nat.le_of_ble_eq_true rfl) dX7_readBracket_21) (fun r3 => ?_)
    refine r_if_ne (pc := 24) ok 33 dX7_readBracket_24 rfl (fun _ => ?_) (fun _ => ?_)
    · refine r_aload_n (pc := 27) ok dX7_readBracket_27 rfl ?_
      refine r_iconst (pc := 28) ok (1 : Int32) dX7_readBracket_28 ci_1 ?_
      refine k_I (pc := 29) (fun r4 => r4.1) (fun r4 => mx (va_up (va_up XX 47 r2.2.1) 1 r4.2) YY) (fun r4 hr_ => c_S (n := 2) ok ml_Sy_54 ws_X7_refuse yk_X7_refuse rfl (by omega) (by omega) (tSy_refuse hr_) rfl (Nat.le_of_ble_eq_true rfl) dX7_readBracket_29) (fun r4 => ?_)
      exact r_zret (pc := 32) ok dX7_readBracket_32 rfl rfl
    · refine r_aload_n (pc := 33) ok dX7_readBracket_33 rfl ?_
      refine k_V (pc := 34)  (fun r5 => mx (va_up (va_up XX 47 r2.2.1) 1 r5) YY) (fun r5 hr_ => c_V (n := 0) ok cls10 sh_1 rfl ml_Sy_72 wv_X10_take yk_X10_take rfl (by omega) (by omega) (tTa_take hr_) rfl (Nat.le_of_ble_eq_true rfl) dX7_readBracket_34) (fun r5 => ?_)
      refine r_iconst (pc := 37) ok (1 : Int32) dX7_readBracket_37 ci_1 ?_
      exact r_zret (pc := 38) ok dX7_readBracket_38 za_1 rfl
theorem tSy_readBracket {l : Launch} {G : Gx} {b : Nat} {d : Nat} {XX YY : Nat → Obj} {self : Nat → Obj → Obj → Int32 → Option (Int32 × Obj × Obj)} {q : Obj} {sy : Obj} {ta : Obj} {v3 : Int32} (hself : recOK l G b q d self) (hr_q : XX 5 = q) {r : Int32 × Obj × Obj} (hr : fSy_readBracket self q sy ta v3 = some r) : MetG l G b yX7_readBracket cX7_readBracket 4 (some .boolean) d [.ref (b + 47), .ref (b + 1), .ref (b + 5), .int v3] (mx (va_up (va_up XX 47 sy) 1 ta) YY) (qI G b r.1 (mx (va_up (va_up XX 47 r.2.1) 1 r.2.2) YY)) := by
  refine met_start [some (.ref (b + 47)), some (.ref (b + 1)), some (.ref (b + 5)), some (.int v3)] (by decide +kernel) (Nat.le_of_ble_eq_true rfl) rfl (fun Z hl ok => ?_)
  subst hl
  exact vSy_readBracket ok hself hr_q r (by rw [hr]; rfl)
theorem vSy_add {Z : Cx} {G : Gx} {b : Nat} {XX YY : Nat → Obj} {sy : Obj} {v1 : Int32} {v2 : Int32} {v3 : Int32} (ok : OK Z G b cX7_add 4 0 RX7 none) : VO Z G b 4 (fun (r : Obj) => QX Z b (qV G b (mx (va_up XX 47 r) YY))) (mx (va_up XX 47 sy) YY) 0 [some (.ref (b + 47)), some (.int v1), some (.int v2), some (.int v3)] [] ((fSy_add sy v1 v2 v3).bind some) := by
  unfold fSy_add
  refine r_aload_n (pc := 0) ok dX7_add_0 rfl ?_
  refine r_getI (pc := 1) ok cls7 sh_47 (k := 1) rfl (Nat.le_of_ble_eq_true rfl) (mx_l (Nat.le_of_ble_eq_true rfl) (va_up_self _ _ _)) dX7_add_1 fl_Sy_28 ?_
  refine r_bipush (pc := 4) ok (40 : Int32) dX7_add_4 cb_40 ?_
  refine r_icmp_ge (pc := 6) ok 49 dX7_add_6 rfl (fun _ => ?_) (fun _ => ?_)
  · exact r_vret (pc := 49) ok dX7_add_49 rfl
  · refine r_aload_n (pc := 9) ok dX7_add_9 rfl ?_
    refine r_getR (pc := 10) ok cls7 sh_47 (k := 2) rfl (Nat.le_of_ble_eq_true rfl) rfl dX7_add_10 fl_Sy_11 ?_
    refine r_aload_n (pc := 13) ok dX7_add_13 rfl ?_
    refine r_getI (pc := 14) ok cls7 sh_47 (k := 1) rfl (Nat.le_of_ble_eq_true rfl) (mx_l (Nat.le_of_ble_eq_true rfl) (va_up_self _ _ _)) dX7_add_14 fl_Sy_28 ?_
    refine r_iload_n (pc := 17) ok dX7_add_17 rfl ?_
    refine r_iast (pc := 18) ok sh_48 (j := 1) rfl rfl (fun s_ => mx (va_up XX 47 s_) YY) (pm_l (Nat.le_of_ble_eq_true rfl) (pm_0 _ _)).1 (pm_l (Nat.le_of_ble_eq_true rfl) (pm_0 _ _)).2 dX7_add_18 (fun i1 s2 => ?_)
    refine r_aload_n (pc := 19) ok dX7_add_19 rfl ?_
    refine r_getR (pc := 20) ok cls7 sh_47 (k := 3) rfl (Nat.le_of_ble_eq_true rfl) rfl dX7_add_20 fl_Sy_15 ?_
    refine r_aload_n (pc := 23) ok dX7_add_23 rfl ?_
    refine r_getI (pc := 24) ok cls7 sh_47 (k := 1) rfl (Nat.le_of_ble_eq_true rfl) (mx_l (Nat.le_of_ble_eq_true rfl) (va_up_self _ _ _)) dX7_add_24 fl_Sy_28 ?_
    refine r_iload_n (pc := 27) ok dX7_add_27 rfl ?_
    refine r_iast (pc := 28) ok sh_49 (j := 2) rfl rfl (fun s_ => mx (va_up XX 47 s_) YY) (pm_l (Nat.le_of_ble_eq_true rfl) (pm_0 _ _)).1 (pm_l (Nat.le_of_ble_eq_true rfl) (pm_0 _ _)).2 dX7_add_28 (fun i3 s4 => ?_)
    refine r_aload_n (pc := 29) ok dX7_add_29 rfl ?_
    refine r_getR (pc := 30) ok cls7 sh_47 (k := 4) rfl (Nat.le_of_ble_eq_true rfl) rfl dX7_add_30 fl_Sy_18 ?_
    refine r_aload_n (pc := 33) ok dX7_add_33 rfl ?_
    refine r_getI (pc := 34) ok cls7 sh_47 (k := 1) rfl (Nat.le_of_ble_eq_true rfl) (mx_l (Nat.le_of_ble_eq_true rfl) (va_up_self _ _ _)) dX7_add_34 fl_Sy_28 ?_
    refine r_iload_n (pc := 37) ok dX7_add_37 rfl ?_
    refine r_iast (pc := 38) ok sh_50 (j := 3) rfl rfl (fun s_ => mx (va_up XX 47 s_) YY) (pm_l (Nat.le_of_ble_eq_true rfl) (pm_0 _ _)).1 (pm_l (Nat.le_of_ble_eq_true rfl) (pm_0 _ _)).2 dX7_add_38 (fun i5 s6 => ?_)
    refine r_aload_n (pc := 39) ok dX7_add_39 rfl ?_
    refine r_dup (pc := 40) ok dX7_add_40 rfl ?_
    refine r_getI (pc := 41) ok cls7 sh_47 (k := 1) rfl (Nat.le_of_ble_eq_true rfl) (mx_l (Nat.le_of_ble_eq_true rfl) (va_up_self _ _ _)) dX7_add_41 fl_Sy_28 ?_
    refine r_iconst (pc := 44) ok (1 : Int32) dX7_add_44 ci_1 ?_
    refine r_iadd (pc := 45) ok dX7_add_45 ?_
    refine r_putI (pc := 46) ok cls7 sh_47 (k := 1) rfl (Nat.le_of_ble_eq_true rfl) (fun s_ => mx (va_up XX 47 s_) YY) (pm_l (Nat.le_of_ble_eq_true rfl) (pm_0 _ _)).1 (pm_l (Nat.le_of_ble_eq_true rfl) (pm_0 _ _)).2 rfl rfl rfl dX7_add_46 fl_Sy_28 (fun s7 => ?_)
    exact r_vret (pc := 49) ok dX7_add_49 rfl
theorem tSy_add {l : Launch} {G : Gx} {b : Nat} {XX YY : Nat → Obj} {sy : Obj} {v1 : Int32} {v2 : Int32} {v3 : Int32} {r : Obj} (hr : fSy_add sy v1 v2 v3 = some r) : MetG l G b yX7_add cX7_add 4 none 0 [.ref (b + 47), .int v1, .int v2, .int v3] (mx (va_up XX 47 sy) YY) (qV G b (mx (va_up XX 47 r) YY)) := by
  refine met_start [some (.ref (b + 47)), some (.int v1), some (.int v2), some (.int v3)] (by decide +kernel) (Nat.le_of_ble_eq_true rfl) rfl (fun Z hl ok => ?_)
  clear hl
  exact vSy_add ok r (by rw [hr]; rfl)
theorem vSy_readNot {Z : Cx} {G : Gx} {b : Nat} {d : Nat} {XX YY : Nat → Obj} {self : Nat → Obj → Obj → Int32 → Option (Int32 × Obj × Obj)} {q : Obj} {sy : Obj} {ta : Obj} {v3 : Int32} (ok : OK Z G b cX7_readNot 4 d RX7 (some .boolean)) (hself : recOK Z.2.1 G b q d self) (hr_q : XX 5 = q) : VO Z G b 4 (fun (r : Int32 × Obj × Obj) => QX Z b (qI G b r.1 (mx (va_up (va_up XX 47 r.2.1) 1 r.2.2) YY))) (mx (va_up (va_up XX 47 sy) 1 ta) YY) 0 [some (.ref (b + 47)), some (.ref (b + 1)), some (.ref (b + 5)), some (.int v3)] [] ((fSy_readNot self q sy ta v3).bind some) := by
  unfold fSy_readNot
  have hd12 := hself.1
  refine r_aload_n (pc := 0) ok dX7_readNot_0 rfl ?_
  refine k_V (pc := 1)  (fun r1 => mx (va_up (va_up XX 47 sy) 1 r1) YY) (fun r1 hr_ => c_V (n := 0) ok cls10 sh_1 rfl ml_Sy_72 wv_X10_take yk_X10_take rfl (by omega) (by omega) (tTa_take hr_) rfl (Nat.le_of_ble_eq_true rfl) dX7_readNot_1) (fun r1 => ?_)
  refine r_aload_n (pc := 4) ok dX7_readNot_4 rfl ?_
  refine r_aload_n (pc := 5) ok dX7_readNot_5 rfl ?_
  refine r_aload_n (pc := 6) ok dX7_readNot_6 rfl ?_
  refine r_iload_n (pc := 7) ok dX7_readNot_7 rfl ?_
  refine r_iconst (pc := 8) ok (1 : Int32) dX7_readNot_8 ci_1 ?_
  refine r_iadd (pc := 9) ok dX7_readNot_9 ?_
  refine k_I (pc := 10) (fun r2 => r2.1) (fun r2 => mx (va_up (va_up XX 47 r2.2.1) 1 r2.2.2) YY) (fun r2 hr_ => c_V (n := 3) ok cls7 sh_47 rfl ml_Sy_61 wv_X7_readOne yk_X7_readOne rfl (by omega) (by omega) (hself_readOne hself (XX := XX) (YY := YY) hr_q hr_) rfl (Nat.le_of_ble_eq_true rfl) dX7_readNot_10) (fun r2 => ?_)
  refine r_if_ne (pc := 13) ok 18 dX7_readNot_13 rfl (fun _ => ?_) (fun _ => ?_)
  · refine r_iconst (pc := 16) ok (0 : Int32) dX7_readNot_16 ci_0 ?_
    exact r_zret (pc := 17) ok dX7_readNot_17 za_0 rfl
  · refine r_aload_n (pc := 18) ok dX7_readNot_18 rfl ?_
    refine r_bipush (pc := 19) ok (20 : Int32) dX7_readNot_19 cb_20 ?_
    refine r_iconst (pc := 21) ok (0 : Int32) dX7_readNot_21 ci_0 ?_
    refine r_iconst (pc := 22) ok (0 : Int32) dX7_readNot_22 ci_0 ?_
    refine k_V (pc := 23)  (fun r3 => mx (va_up (va_up XX 47 r3) 1 r2.2.2) YY) (fun r3 hr_ => c_V (n := 3) ok cls7 sh_47 rfl ml_Sy_64 wv_X7_add yk_X7_add rfl (by omega) (by omega) (met_cast (congrArg (fun A_ => mx A_ YY) (up_co XX r2.2.1 r2.2.2 (show 47 ≠ 1 from by decide))) (congrArg (fun A_ => qV G b (mx A_ YY)) (up_co XX r3 r2.2.2 (show 47 ≠ 1 from by decide))) (tSy_add hr_)) rfl (Nat.le_of_ble_eq_true rfl) dX7_readNot_23) (fun r3 => ?_)
    refine r_iconst (pc := 26) ok (1 : Int32) dX7_readNot_26 ci_1 ?_
    exact r_zret (pc := 27) ok dX7_readNot_27 za_1 rfl
theorem tSy_readNot {l : Launch} {G : Gx} {b : Nat} {d : Nat} {XX YY : Nat → Obj} {self : Nat → Obj → Obj → Int32 → Option (Int32 × Obj × Obj)} {q : Obj} {sy : Obj} {ta : Obj} {v3 : Int32} (hself : recOK l G b q d self) (hr_q : XX 5 = q) {r : Int32 × Obj × Obj} (hr : fSy_readNot self q sy ta v3 = some r) : MetG l G b yX7_readNot cX7_readNot 4 (some .boolean) d [.ref (b + 47), .ref (b + 1), .ref (b + 5), .int v3] (mx (va_up (va_up XX 47 sy) 1 ta) YY) (qI G b r.1 (mx (va_up (va_up XX 47 r.2.1) 1 r.2.2) YY)) := by
  refine met_start [some (.ref (b + 47)), some (.ref (b + 1)), some (.ref (b + 5)), some (.int v3)] (by decide +kernel) (Nat.le_of_ble_eq_true rfl) rfl (fun Z hl ok => ?_)
  subst hl
  exact vSy_readNot ok hself hr_q r (by rw [hr]; rfl)
theorem vTa_takeCompare {Z : Cx} {G : Gx} {b : Nat} {XX YY : Nat → Obj} {ta : Obj} (ok : OK Z G b cX10_takeCompare 1 2 RX10 (some .int)) : VO Z G b 1 (fun (r : Int32 × Obj) => QX Z b (qI G b r.1 (mx (va_up XX 1 r.2) YY))) (mx (va_up XX 1 ta) YY) 0 [some (.ref (b + 1))] [] ((fTa_takeCompare ta).bind some) := by
  unfold fTa_takeCompare
  refine r_aload_n (pc := 0) ok dX10_takeCompare_0 rfl ?_
  refine k_V (pc := 1)  (fun r1 => mx (va_up XX 1 r1) YY) (fun r1 hr_ => c_V (n := 0) ok cls10 sh_1 rfl ml_Ta_59 wv_X10_take yk_X10_take rfl (Nat.le_of_ble_eq_true rfl) (Nat.le_of_ble_eq_true rfl) (tTa_take hr_) rfl (Nat.le_of_ble_eq_true rfl) dX10_takeCompare_1) (fun r1 => ?_)
  refine r_aload_n (pc := 4) ok dX10_takeCompare_4 rfl ?_
  refine r_bipush (pc := 5) ok (60 : Int32) dX10_takeCompare_5 cb_60 ?_
  refine k_I (pc := 7) (fun r2 => r2) (fun r2 => mx (va_up XX 1 r1) YY) (fun r2 hr_ => c_V (n := 1) ok cls10 sh_1 rfl ml_Ta_92 wv_X10_isSignOf yk_X10_isSignOf rfl (Nat.le_of_ble_eq_true rfl) (Nat.le_of_ble_eq_true rfl) (tTa_isSignOf (va_up_self _ _ _) hr_) rfl (Nat.le_of_ble_eq_true rfl) dX10_takeCompare_7) (fun r2 => ?_)
  refine r_if_ne (pc := 10) ok 31 dX10_takeCompare_10 rfl (fun _ => ?_) (fun _ => ?_)
  · refine r_aload_n (pc := 13) ok dX10_takeCompare_13 rfl ?_
    refine r_bipush (pc := 14) ok (61 : Int32) dX10_takeCompare_14 cb_61 ?_
    refine k_I (pc := 16) (fun r3 => r3) (fun r3 => mx (va_up XX 1 r1) YY) (fun r3 hr_ => c_V (n := 1) ok cls10 sh_1 rfl ml_Ta_92 wv_X10_isSignOf yk_X10_isSignOf rfl (Nat.le_of_ble_eq_true rfl) (Nat.le_of_ble_eq_true rfl) (tTa_isSignOf (va_up_self _ _ _) hr_) rfl (Nat.le_of_ble_eq_true rfl) dX10_takeCompare_16) (fun r3 => ?_)
    refine r_if_ne (pc := 19) ok 31 dX10_takeCompare_19 rfl (fun _ => ?_) (fun _ => ?_)
    · refine r_aload_n (pc := 22) ok dX10_takeCompare_22 rfl ?_
      refine r_bipush (pc := 23) ok (62 : Int32) dX10_takeCompare_23 cb_62 ?_
      refine k_I (pc := 25) (fun r4 => r4) (fun r4 => mx (va_up XX 1 r1) YY) (fun r4 hr_ => c_V (n := 1) ok cls10 sh_1 rfl ml_Ta_92 wv_X10_isSignOf yk_X10_isSignOf rfl (Nat.le_of_ble_eq_true rfl) (Nat.le_of_ble_eq_true rfl) (tTa_isSignOf (va_up_self _ _ _) hr_) rfl (Nat.le_of_ble_eq_true rfl) dX10_takeCompare_25) (fun r4 => ?_)
      refine r_if_eq (pc := 28) ok 36 dX10_takeCompare_28 rfl (fun _ => ?_) (fun _ => ?_)
      · refine r_aload_n (pc := 36) ok dX10_takeCompare_36 rfl ?_
        refine r_iconst (pc := 37) ok (1 : Int32) dX10_takeCompare_37 ci_1 ?_
        refine k_I (pc := 38) (fun r5 => r5.1) (fun r5 => mx (va_up XX 1 r5.2) YY) (fun r5 hr_ => c_V (n := 1) ok cls10 sh_1 rfl ml_Ta_96 wv_X10_refuse yk_X10_refuse rfl (Nat.le_of_ble_eq_true rfl) (Nat.le_of_ble_eq_true rfl) (tTa_refuse hr_) rfl (Nat.le_of_ble_eq_true rfl) dX10_takeCompare_38) (fun r5 => ?_)
        exact r_iret (pc := 41) ok dX10_takeCompare_41 rfl
      · refine r_aload_n (pc := 31) ok dX10_takeCompare_31 rfl ?_
        refine r_getI (pc := 32) ok cls10 sh_1 (k := 5) rfl (Nat.le_of_ble_eq_true rfl) (mx_l (Nat.le_of_ble_eq_true rfl) (va_up_self _ _ _)) dX10_takeCompare_32 fl_Ta_73 ?_
        exact r_iret (pc := 35) ok dX10_takeCompare_35 rfl
    · refine r_aload_n (pc := 31) ok dX10_takeCompare_31 rfl ?_
      refine r_getI (pc := 32) ok cls10 sh_1 (k := 5) rfl (Nat.le_of_ble_eq_true rfl) (mx_l (Nat.le_of_ble_eq_true rfl) (va_up_self _ _ _)) dX10_takeCompare_32 fl_Ta_73 ?_
      exact r_iret (pc := 35) ok dX10_takeCompare_35 rfl
  · refine r_aload_n (pc := 31) ok dX10_takeCompare_31 rfl ?_
    refine r_getI (pc := 32) ok cls10 sh_1 (k := 5) rfl (Nat.le_of_ble_eq_true rfl) (mx_l (Nat.le_of_ble_eq_true rfl) (va_up_self _ _ _)) dX10_takeCompare_32 fl_Ta_73 ?_
    exact r_iret (pc := 35) ok dX10_takeCompare_35 rfl
theorem tTa_takeCompare {l : Launch} {G : Gx} {b : Nat} {XX YY : Nat → Obj} {ta : Obj} {r : Int32 × Obj} (hr : fTa_takeCompare ta = some r) : MetG l G b yX10_takeCompare cX10_takeCompare 1 (some .int) 2 [.ref (b + 1)] (mx (va_up XX 1 ta) YY) (qI G b r.1 (mx (va_up XX 1 r.2) YY)) := by
  refine met_start [some (.ref (b + 1))] (by decide +kernel) (Nat.le_of_ble_eq_true rfl) rfl (fun Z hl ok => ?_)
  clear hl
  exact vTa_takeCompare ok r (by rw [hr]; rfl)
theorem wSy_readPlainOne_J69 {Z : Cx} {G : Gx} {b : Nat} {XX YY : Nat → Obj} {q : Obj} {sy : Obj} {ta : Obj} {v3 : Int32} {v4 : Int32} {v5 : Int32} (ok : OK Z G b cX7_readPlainOne 6 3 RX7 (some .boolean)) (hr_q : XX 5 = q) : VO Z G b 6 (fun (r : Int32 × Obj × Obj) => QX Z b (qI G b r.1 (mx (va_up (va_up XX 47 r.2.1) 1 r.2.2) YY))) (mx (va_up (va_up XX 47 sy) 1 ta) YY) 69 [some (.ref (b + 47)), some (.ref (b + 1)), none, some (.int v3), some (.int v4), some (.int v5)] [] ((fSy_readPlainOne_J69 sy ta v3 v4 v5).bind some) := by
  unfold fSy_readPlainOne_J69
  refine r_iload (pc := 69) ok dX7_readPlainOne_69 rfl ?_
  refine r_iconst (pc := 71) ok (-1 : Int32) dX7_readPlainOne_71 ci_m1 ?_
  refine r_icmp_eq (pc := 72) ok 81 dX7_readPlainOne_72 rfl (fun _ => ?_) (fun _ => ?_)
  · refine r_iconst (pc := 81) ok (0 : Int32) dX7_readPlainOne_81 ci_0 ?_
    exact r_zret (pc := 82) ok dX7_readPlainOne_82 za_0 rfl
  · refine r_iload (pc := 75) ok dX7_readPlainOne_75 rfl ?_
    refine r_iconst (pc := 77) ok (-1 : Int32) dX7_readPlainOne_77 ci_m1 ?_
    refine r_icmp_ne (pc := 78) ok 83 dX7_readPlainOne_78 rfl (fun _ => ?_) (fun _ => ?_)
    · refine r_iconst (pc := 81) ok (0 : Int32) dX7_readPlainOne_81 ci_0 ?_
      exact r_zret (pc := 82) ok dX7_readPlainOne_82 za_0 rfl
    · refine r_aload_n (pc := 83) ok dX7_readPlainOne_83 rfl ?_
      refine r_iload_n (pc := 84) ok dX7_readPlainOne_84 rfl ?_
      refine r_iload (pc := 85) ok dX7_readPlainOne_85 rfl ?_
      refine r_iload (pc := 87) ok dX7_readPlainOne_87 rfl ?_
      refine k_V (pc := 89)  (fun r2 => mx (va_up (va_up XX 47 r2) 1 ta) YY) (fun r2 hr_ => c_V (n := 3) ok cls7 sh_47 rfl ml_Sy_64 wv_X7_add yk_X7_add rfl (Nat.le_of_ble_eq_true rfl) (Nat.le_of_ble_eq_true rfl) (met_cast (congrArg (fun A_ => mx A_ YY) (up_co XX sy ta (show 47 ≠ 1 from by decide))) (congrArg (fun A_ => qV G b (mx A_ YY)) (up_co XX r2 ta (show 47 ≠ 1 from by decide))) (tSy_add hr_)) rfl (Nat.le_of_ble_eq_true rfl) dX7_readPlainOne_89) (fun r2 => ?_)
      refine r_aload_n (pc := 92) ok dX7_readPlainOne_92 rfl ?_
      refine k_V (pc := 93)  (fun r3 => mx (va_up (va_up XX 47 r2) 1 r3) YY) (fun r3 hr_ => c_V (n := 0) ok cls10 sh_1 rfl ml_Sy_72 wv_X10_take yk_X10_take rfl (Nat.le_of_ble_eq_true rfl) (Nat.le_of_ble_eq_true rfl) (tTa_take hr_) rfl (Nat.le_of_ble_eq_true rfl) dX7_readPlainOne_93) (fun r3 => ?_)
      refine r_iconst (pc := 96) ok (1 : Int32) dX7_readPlainOne_96 ci_1 ?_
      exact r_zret (pc := 97) ok dX7_readPlainOne_97 za_1 rfl
theorem wSy_readPlainOne_J67 {Z : Cx} {G : Gx} {b : Nat} {XX YY : Nat → Obj} {q : Obj} {sy : Obj} {ta : Obj} {v3 : Int32} {v4 : Int32} {k0 : Int32} (ok : OK Z G b cX7_readPlainOne 6 3 RX7 (some .boolean)) (hr_q : XX 5 = q) : VO Z G b 6 (fun (r : Int32 × Obj × Obj) => QX Z b (qI G b r.1 (mx (va_up (va_up XX 47 r.2.1) 1 r.2.2) YY))) (mx (va_up (va_up XX 47 sy) 1 ta) YY) 67 [some (.ref (b + 47)), some (.ref (b + 1)), none, some (.int v3), some (.int v4), none] [.int k0] ((fSy_readPlainOne_J67 sy ta v3 v4 k0).bind some) := by
  unfold fSy_readPlainOne_J67
  refine r_istore (pc := 67) ok dX7_readPlainOne_67 (Nat.le_of_ble_eq_true rfl) rfl ?_
  exact wSy_readPlainOne_J69 ok hr_q
theorem vSy_readPlainOne {Z : Cx} {G : Gx} {b : Nat} {XX YY : Nat → Obj} {q : Obj} {sy : Obj} {ta : Obj} {v3 : Int32} (ok : OK Z G b cX7_readPlainOne 6 3 RX7 (some .boolean)) (hr_q : XX 5 = q) : VO Z G b 6 (fun (r : Int32 × Obj × Obj) => QX Z b (qI G b r.1 (mx (va_up (va_up XX 47 r.2.1) 1 r.2.2) YY))) (mx (va_up (va_up XX 47 sy) 1 ta) YY) 0 [some (.ref (b + 47)), some (.ref (b + 1)), some (.ref (b + 5)), some (.int v3), none, none] [] ((fSy_readPlainOne q sy ta v3).bind some) := by
  unfold fSy_readPlainOne
  refine r_iconst (pc := 0) ok (0 : Int32) dX7_readPlainOne_0 ci_0 ?_
  refine r_istore (pc := 1) ok dX7_readPlainOne_1 (Nat.le_of_ble_eq_true rfl) rfl ?_
  refine r_iconst (pc := 3) ok (0 : Int32) dX7_readPlainOne_3 ci_0 ?_
  refine r_istore (pc := 4) ok dX7_readPlainOne_4 (Nat.le_of_ble_eq_true rfl) rfl ?_
  refine r_iload_n (pc := 6) ok dX7_readPlainOne_6 rfl ?_
  refine r_iconst (pc := 7) ok (4 : Int32) dX7_readPlainOne_7 ci_4 ?_
  refine r_icmp_ne (pc := 8) ok 21 dX7_readPlainOne_8 rfl (fun _ => ?_) (fun _ => ?_)
  · refine r_aload_n (pc := 11) ok dX7_readPlainOne_11 rfl ?_
    refine r_aload_n (pc := 12) ok dX7_readPlainOne_12 rfl ?_
    refine k_I (pc := 13) (fun r1 => r1.1) (fun r1 => mx (va_up (va_up XX 47 sy) 1 r1.2) YY) (fun r1 hr_ => c_V (n := 1) ok cls10 sh_1 rfl ml_Sy_97 wv_X10_takePerson yk_X10_takePerson rfl (Nat.le_of_ble_eq_true rfl) (Nat.le_of_ble_eq_true rfl) (tTa_takePerson (qu_c (o := 5) (by decide)) ((va_up_ne _ _ (by decide)).trans (hr_q)) hr_) rfl (Nat.le_of_ble_eq_true rfl) dX7_readPlainOne_13) (fun r1 => ?_)
    refine r_istore (pc := 16) ok dX7_readPlainOne_16 (Nat.le_of_ble_eq_true rfl) rfl ?_
    refine r_goto (pc := 18) ok 69 dX7_readPlainOne_18 rfl ?_
    refine r_lv (lk_s (lk_s (lk_n (lk_s (lk_s (lk_s lk_0 _) _) _) _) _) _) ?_
    exact wSy_readPlainOne_J69 ok hr_q
  · refine r_iload_n (pc := 21) ok dX7_readPlainOne_21 rfl ?_
    refine r_bipush (pc := 22) ok (24 : Int32) dX7_readPlainOne_22 cb_24 ?_
    refine r_icmp_ne (pc := 24) ok 37 dX7_readPlainOne_24 rfl (fun _ => ?_) (fun _ => ?_)
    · refine r_aload_n (pc := 27) ok dX7_readPlainOne_27 rfl ?_
      refine r_aload_n (pc := 28) ok dX7_readPlainOne_28 rfl ?_
      refine k_I (pc := 29) (fun r4 => r4.1) (fun r4 => mx (va_up (va_up XX 47 sy) 1 r4.2) YY) (fun r4 hr_ => c_V (n := 1) ok cls10 sh_1 rfl ml_Sy_101 wv_X10_takeHouse yk_X10_takeHouse rfl (Nat.le_of_ble_eq_true rfl) (Nat.le_of_ble_eq_true rfl) (tTa_takeHouse (qu_c (o := 5) (by decide)) ((va_up_ne _ _ (by decide)).trans (hr_q)) hr_) rfl (Nat.le_of_ble_eq_true rfl) dX7_readPlainOne_29) (fun r4 => ?_)
      refine r_istore (pc := 32) ok dX7_readPlainOne_32 (Nat.le_of_ble_eq_true rfl) rfl ?_
      refine r_goto (pc := 34) ok 69 dX7_readPlainOne_34 rfl ?_
      refine r_lv (lk_s (lk_s (lk_n (lk_s (lk_s (lk_s lk_0 _) _) _) _) _) _) ?_
      exact wSy_readPlainOne_J69 ok hr_q
    · refine r_iload_n (pc := 37) ok dX7_readPlainOne_37 rfl ?_
      refine r_bipush (pc := 38) ok (25 : Int32) dX7_readPlainOne_38 cb_25 ?_
      refine r_icmp_lt (pc := 40) ok 69 dX7_readPlainOne_40 rfl (fun _ => ?_) (fun _ => ?_)
      · refine r_lv (lk_s (lk_s (lk_n (lk_s (lk_s (lk_s lk_0 _) _) _) _) _) _) ?_
        exact wSy_readPlainOne_J69 ok hr_q
      · refine r_aload_n (pc := 43) ok dX7_readPlainOne_43 rfl ?_
        refine k_I (pc := 44) (fun r5 => r5.1) (fun r5 => mx (va_up (va_up XX 47 sy) 1 r5.2) YY) (fun r5 hr_ => c_V (n := 0) ok cls10 sh_1 rfl ml_Sy_104 wv_X10_takeCompare yk_X10_takeCompare rfl (Nat.le_of_ble_eq_true rfl) (Nat.le_of_ble_eq_true rfl) (tTa_takeCompare hr_) rfl (Nat.le_of_ble_eq_true rfl) dX7_readPlainOne_44) (fun r5 => ?_)
        refine r_istore (pc := 47) ok dX7_readPlainOne_47 (Nat.le_of_ble_eq_true rfl) rfl ?_
        refine r_iload (pc := 49) ok dX7_readPlainOne_49 rfl ?_
        refine r_iconst (pc := 51) ok (-1 : Int32) dX7_readPlainOne_51 ci_m1 ?_
        refine r_icmp_ne (pc := 52) ok 59 dX7_readPlainOne_52 rfl (fun _ => ?_) (fun _ => ?_)
        · refine r_iconst (pc := 55) ok (-1 : Int32) dX7_readPlainOne_55 ci_m1 ?_
          refine r_goto (pc := 56) ok 67 dX7_readPlainOne_56 rfl ?_
          refine r_lv (lk_s (lk_s (lk_n (lk_s (lk_s (lk_n lk_0 _) _) _) _) _) _) ?_
          exact wSy_readPlainOne_J67 ok hr_q
        · refine r_aload_n (pc := 59) ok dX7_readPlainOne_59 rfl ?_
          refine r_iconst (pc := 60) ok (0 : Int32) dX7_readPlainOne_60 ci_0 ?_
          refine r_sipush (pc := 61) ok (999 : Int32) dX7_readPlainOne_61 cs_999 ?_
          refine k_I (pc := 64) (fun r6 => r6.1) (fun r6 => mx (va_up (va_up XX 47 sy) 1 r6.2) YY) (fun r6 hr_ => c_V (n := 2) ok cls10 sh_1 rfl ml_Sy_108 wv_X10_takeNumber yk_X10_takeNumber rfl (Nat.le_of_ble_eq_true rfl) (Nat.le_of_ble_eq_true rfl) (tTa_takeNumber hr_) rfl (Nat.le_of_ble_eq_true rfl) dX7_readPlainOne_64) (fun r6 => ?_)
          refine r_lv (lk_s (lk_s (lk_n (lk_s (lk_s (lk_n lk_0 _) _) _) _) _) _) ?_
          exact wSy_readPlainOne_J67 ok hr_q
theorem tSy_readPlainOne {l : Launch} {G : Gx} {b : Nat} {XX YY : Nat → Obj} {q : Obj} {sy : Obj} {ta : Obj} {v3 : Int32} (hr_q : XX 5 = q) {r : Int32 × Obj × Obj} (hr : fSy_readPlainOne q sy ta v3 = some r) : MetG l G b yX7_readPlainOne cX7_readPlainOne 6 (some .boolean) 3 [.ref (b + 47), .ref (b + 1), .ref (b + 5), .int v3] (mx (va_up (va_up XX 47 sy) 1 ta) YY) (qI G b r.1 (mx (va_up (va_up XX 47 r.2.1) 1 r.2.2) YY)) := by
  refine met_start [some (.ref (b + 47)), some (.ref (b + 1)), some (.ref (b + 5)), some (.int v3), none, none] (by decide +kernel) (Nat.le_of_ble_eq_true rfl) rfl (fun Z hl ok => ?_)
  clear hl
  exact vSy_readPlainOne ok hr_q r (by rw [hr]; rfl)
theorem wSy_readOne_J60 {Z : Cx} {G : Gx} {b : Nat} {d : Nat} {XX YY : Nat → Obj} {self : Nat → Obj → Obj → Int32 → Option (Int32 × Obj × Obj)} {q : Obj} {sy : Obj} {ta : Obj} (ok : OK Z G b cX7_readOne 6 d RX7 (some .boolean)) (hself : recOK Z.2.1 G b q d self) (hr_q : XX 5 = q) : VO Z G b 6 (fun (r : Int32 × Obj × Obj) => QX Z b (qI G b r.1 (mx (va_up (va_up XX 47 r.2.1) 1 r.2.2) YY))) (mx (va_up (va_up XX 47 sy) 1 ta) YY) 60 [none, some (.ref (b + 1)), none, none, none, none] [] ((fSy_readOne_J60 self sy ta).bind some) := by
  unfold fSy_readOne_J60
  have hd12 := hself.1
  refine r_aload_n (pc := 60) ok dX7_readOne_60 rfl ?_
  refine r_iconst (pc := 61) ok (4 : Int32) dX7_readOne_61 ci_4 ?_
  refine k_I (pc := 62) (fun r4 => r4.1) (fun r4 => mx (va_up (va_up XX 47 sy) 1 r4.2) YY) (fun r4 hr_ => c_S (n := 2) ok ml_Sy_54 ws_X7_refuse yk_X7_refuse rfl (by omega) (by omega) (tSy_refuse hr_) rfl (Nat.le_of_ble_eq_true rfl) dX7_readOne_62) (fun r4 => ?_)
  exact r_zret (pc := 65) ok dX7_readOne_65 rfl rfl
theorem wSy_readOne_J45 {Z : Cx} {G : Gx} {b : Nat} {d : Nat} {XX YY : Nat → Obj} {self : Nat → Obj → Obj → Int32 → Option (Int32 × Obj × Obj)} {q : Obj} {sy : Obj} {ta : Obj} {v3 : Int32} {v4 : Int32} {v5 : Int32} (ok : OK Z G b cX7_readOne 6 d RX7 (some .boolean)) (hself : recOK Z.2.1 G b q d self) (hr_q : XX 5 = q) : VO Z G b 6 (fun (r : Int32 × Obj × Obj) => QX Z b (qI G b r.1 (mx (va_up (va_up XX 47 r.2.1) 1 r.2.2) YY))) (mx (va_up (va_up XX 47 sy) 1 ta) YY) 45 [some (.ref (b + 47)), some (.ref (b + 1)), some (.ref (b + 5)), some (.int v3), some (.int v4), some (.int v5)] [] ((fSy_readOne_J45 self q sy ta v3 v4 v5).bind some) := by
  unfold fSy_readOne_J45
  have hd12 := hself.1
  refine r_aload_n (pc := 45) ok dX7_readOne_45 rfl ?_
  refine r_getI (pc := 46) ok cls7 sh_47 (k := 0) rfl (Nat.le_of_ble_eq_true rfl) (mx_l (Nat.le_of_ble_eq_true rfl) ((va_up_ne _ _ (by decide)).trans (va_up_self _ _ _))) dX7_readOne_46 fl_Sy_24 ?_
  refine r_bipush (pc := 49) ok (20 : Int32) dX7_readOne_49 cb_20 ?_
  refine r_icmp_ge (pc := 51) ok 60 dX7_readOne_51 rfl (fun _ => ?_) (fun _ => ?_)
  · refine r_lv (lk_n (lk_s (lk_n (lk_n (lk_n (lk_n lk_0 _) _) _) _) _) _) ?_
    exact wSy_readOne_J60 ok hself hr_q
  · refine r_iload_n (pc := 54) ok dX7_readOne_54 rfl ?_
    refine r_bipush (pc := 55) ok (8 : Int32) dX7_readOne_55 cb_8 ?_
    refine r_icmp_le (pc := 57) ok 66 dX7_readOne_57 rfl (fun _ => ?_) (fun _ => ?_)
    · refine r_aload_n (pc := 66) ok dX7_readOne_66 rfl ?_
      refine r_dup (pc := 67) ok dX7_readOne_67 rfl ?_
      refine r_getI (pc := 68) ok cls7 sh_47 (k := 0) rfl (Nat.le_of_ble_eq_true rfl) (mx_l (Nat.le_of_ble_eq_true rfl) ((va_up_ne _ _ (by decide)).trans (va_up_self _ _ _))) dX7_readOne_68 fl_Sy_24 ?_
      refine r_iconst (pc := 71) ok (1 : Int32) dX7_readOne_71 ci_1 ?_
      refine r_iadd (pc := 72) ok dX7_readOne_72 ?_
      refine r_putI (pc := 73) ok cls7 sh_47 (k := 0) rfl (Nat.le_of_ble_eq_true rfl) (fun s_ => mx (va_up (va_up XX 47 s_) 1 ta) YY) (pm_l (Nat.le_of_ble_eq_true rfl) (pm_s (by decide) (pm_0 _ _))).1 (pm_l (Nat.le_of_ble_eq_true rfl) (pm_s (by decide) (pm_0 _ _))).2 rfl rfl rfl dX7_readOne_73 fl_Sy_24 (fun s5 => ?_)
      refine r_iload (pc := 76) ok dX7_readOne_76 rfl ?_
      refine r_if_eq (pc := 78) ok 89 dX7_readOne_78 rfl (fun _ => ?_) (fun _ => ?_)
      · refine r_iload (pc := 89) ok dX7_readOne_89 rfl ?_
        refine r_bipush (pc := 91) ok (20 : Int32) dX7_readOne_91 cb_20 ?_
        refine r_icmp_ne (pc := 93) ok 106 dX7_readOne_93 rfl (fun _ => ?_) (fun _ => ?_)
        · refine r_aload_n (pc := 96) ok dX7_readOne_96 rfl ?_
          refine r_aload_n (pc := 97) ok dX7_readOne_97 rfl ?_
          refine r_aload_n (pc := 98) ok dX7_readOne_98 rfl ?_
          refine r_iload_n (pc := 99) ok dX7_readOne_99 rfl ?_
          refine k_I (pc := 100) (fun r6 => r6.1) (fun r6 => mx (va_up (va_up XX 47 r6.2.1) 1 r6.2.2) YY) (fun r6 hr_ => c_V (n := 3) ok cls7 sh_47 rfl ml_Sy_91 wv_X7_readNot yk_X7_readNot rfl (by omega) (by omega) (hself_readNot hself (XX := XX) (YY := YY) hr_q hr_) rfl (Nat.le_of_ble_eq_true rfl) dX7_readOne_100) (fun r6 => ?_)
          refine r_goto (pc := 103) ok 114 dX7_readOne_103 rfl ?_
          exact r_zret (pc := 114) ok dX7_readOne_114 rfl rfl
        · refine r_aload_n (pc := 106) ok dX7_readOne_106 rfl ?_
          refine r_aload_n (pc := 107) ok dX7_readOne_107 rfl ?_
          refine r_aload_n (pc := 108) ok dX7_readOne_108 rfl ?_
          refine r_iload (pc := 109) ok dX7_readOne_109 rfl ?_
          refine k_I (pc := 111) (fun r7 => r7.1) (fun r7 => mx (va_up (va_up XX 47 r7.2.1) 1 r7.2.2) YY) (fun r7 hr_ => c_V (n := 3) ok cls7 sh_47 rfl ml_Sy_94 wv_X7_readPlainOne yk_X7_readPlainOne rfl (by omega) (by omega) (tSy_readPlainOne (hr_q) hr_) rfl (Nat.le_of_ble_eq_true rfl) dX7_readOne_111) (fun r7 => ?_)
          exact r_zret (pc := 114) ok dX7_readOne_114 rfl rfl
      · refine r_aload_n (pc := 81) ok dX7_readOne_81 rfl ?_
        refine r_aload_n (pc := 82) ok dX7_readOne_82 rfl ?_
        refine r_aload_n (pc := 83) ok dX7_readOne_83 rfl ?_
        refine r_iload_n (pc := 84) ok dX7_readOne_84 rfl ?_
        refine k_I (pc := 85) (fun r8 => r8.1) (fun r8 => mx (va_up (va_up XX 47 r8.2.1) 1 r8.2.2) YY) (fun r8 hr_ => c_V (n := 3) ok cls7 sh_47 rfl ml_Sy_88 wv_X7_readBracket yk_X7_readBracket rfl (by omega) (by omega) (hself_readBracket hself (XX := XX) (YY := YY) hr_q hr_) rfl (Nat.le_of_ble_eq_true rfl) dX7_readOne_85) (fun r8 => ?_)
        exact r_zret (pc := 88) ok dX7_readOne_88 rfl rfl
    · refine r_lv (lk_n (lk_s (lk_n (lk_n (lk_n (lk_n lk_0 _) _) _) _) _) _) ?_
      exact wSy_readOne_J60 ok hself hr_q
theorem wSy_readOne_J24 {Z : Cx} {G : Gx} {b : Nat} {d : Nat} {XX YY : Nat → Obj} {self : Nat → Obj → Obj → Int32 → Option (Int32 × Obj × Obj)} {q : Obj} {sy : Obj} {ta : Obj} {v3 : Int32} {v4 : Int32} {k0 : Int32} (ok : OK Z G b cX7_readOne 6 d RX7 (some .boolean)) (hself : recOK Z.2.1 G b q d self) (hr_q : XX 5 = q) : VO Z G b 6 (fun (r : Int32 × Obj × Obj) => QX Z b (qI G b r.1 (mx (va_up (va_up XX 47 r.2.1) 1 r.2.2) YY))) (mx (va_up (va_up XX 47 sy) 1 ta) YY) 24 [some (.ref (b + 47)), some (.ref (b + 1)), some (.ref (b + 5)), some (.int v3), some (.int v4), none] [.int k0] ((fSy_readOne_J24 self q sy ta v3 v4 k0).bind some) := by
  unfold fSy_readOne_J24
  have hd12 := hself.1
  refine r_istore (pc := 24) ok dX7_readOne_24 (Nat.le_of_ble_eq_true rfl) rfl ?_
  refine r_iload (pc := 26) ok dX7_readOne_26 rfl ?_
  refine r_if_ne (pc := 28) ok 45 dX7_readOne_28 rfl (fun _ => ?_) (fun _ => ?_)
  · refine r_iload (pc := 31) ok dX7_readOne_31 rfl ?_
    refine k_I (pc := 33) (fun r2 => r2) (fun r2 => mx (va_up (va_up XX 47 sy) 1 ta) YY) (fun r2 hr_ => c_S (n := 1) ok ml_Sy_85 ws_X7_canBeginOne yk_X7_canBeginOne rfl (by omega) (by omega) (tSy_canBeginOne hr_) rfl (Nat.le_of_ble_eq_true rfl) dX7_readOne_33) (fun r2 => ?_)
    refine r_if_ne (pc := 36) ok 45 dX7_readOne_36 rfl (fun _ => ?_) (fun _ => ?_)
    · refine r_aload_n (pc := 39) ok dX7_readOne_39 rfl ?_
      refine r_iconst (pc := 40) ok (1 : Int32) dX7_readOne_40 ci_1 ?_
      refine k_I (pc := 41) (fun r3 => r3.1) (fun r3 => mx (va_up (va_up XX 47 sy) 1 r3.2) YY) (fun r3 hr_ => c_S (n := 2) ok ml_Sy_54 ws_X7_refuse yk_X7_refuse rfl (by omega) (by omega) (tSy_refuse hr_) rfl (Nat.le_of_ble_eq_true rfl) dX7_readOne_41) (fun r3 => ?_)
      exact r_zret (pc := 44) ok dX7_readOne_44 rfl rfl
    · exact wSy_readOne_J45 ok hself hr_q
  · exact wSy_readOne_J45 ok hself hr_q
theorem vSy_readOne {Z : Cx} {G : Gx} {b : Nat} {d : Nat} {XX YY : Nat → Obj} {self : Nat → Obj → Obj → Int32 → Option (Int32 × Obj × Obj)} {q : Obj} {sy : Obj} {ta : Obj} {v3 : Int32} (ok : OK Z G b cX7_readOne 6 d RX7 (some .boolean)) (hself : recOK Z.2.1 G b q d self) (hr_q : XX 5 = q) : VO Z G b 6 (fun (r : Int32 × Obj × Obj) => QX Z b (qI G b r.1 (mx (va_up (va_up XX 47 r.2.1) 1 r.2.2) YY))) (mx (va_up (va_up XX 47 sy) 1 ta) YY) 0 [some (.ref (b + 47)), some (.ref (b + 1)), some (.ref (b + 5)), some (.int v3), none, none] [] ((fSy_readOne self q sy ta v3).bind some) := by
  unfold fSy_readOne
  have hd12 := hself.1
  refine r_aload_n (pc := 0) ok dX7_readOne_0 rfl ?_
  refine r_bipush (pc := 1) ok (40 : Int32) dX7_readOne_1 cb_40 ?_
  refine k_I (pc := 3) (fun r1 => r1) (fun r1 => mx (va_up (va_up XX 47 sy) 1 ta) YY) (fun r1 hr_ => c_V (n := 1) ok cls10 sh_1 rfl ml_Sy_75 wv_X10_isSignOf yk_X10_isSignOf rfl (by omega) (by omega) (tTa_isSignOf (va_up_self _ _ _) hr_) rfl (Nat.le_of_ble_eq_true rfl) dX7_readOne_3) (fun r1 => ?_)
  refine r_istore (pc := 6) ok dX7_readOne_6 (Nat.le_of_ble_eq_true rfl) rfl ?_
  refine r_aload_n (pc := 8) ok dX7_readOne_8 rfl ?_
  refine r_getI (pc := 9) ok cls10 sh_1 (k := 4) rfl (Nat.le_of_ble_eq_true rfl) (mx_l (Nat.le_of_ble_eq_true rfl) (va_up_self _ _ _)) dX7_readOne_9 fl_Sy_79 ?_
  refine r_iconst (pc := 12) ok (1 : Int32) dX7_readOne_12 ci_1 ?_
  refine r_icmp_ne (pc := 13) ok 23 dX7_readOne_13 rfl (fun _ => ?_) (fun _ => ?_)
  · refine r_aload_n (pc := 16) ok dX7_readOne_16 rfl ?_
    refine r_getI (pc := 17) ok cls10 sh_1 (k := 5) rfl (Nat.le_of_ble_eq_true rfl) (mx_l (Nat.le_of_ble_eq_true rfl) (va_up_self _ _ _)) dX7_readOne_17 fl_Sy_82 ?_
    refine r_goto (pc := 20) ok 24 dX7_readOne_20 rfl ?_
    exact wSy_readOne_J24 ok hself hr_q
  · refine r_iconst (pc := 23) ok (-1 : Int32) dX7_readOne_23 ci_m1 ?_
    exact wSy_readOne_J24 ok hself hr_q
theorem tSy_readOne {l : Launch} {G : Gx} {b : Nat} {d : Nat} {XX YY : Nat → Obj} {self : Nat → Obj → Obj → Int32 → Option (Int32 × Obj × Obj)} {q : Obj} {sy : Obj} {ta : Obj} {v3 : Int32} (hself : recOK l G b q d self) (hr_q : XX 5 = q) {r : Int32 × Obj × Obj} (hr : fSy_readOne self q sy ta v3 = some r) : MetG l G b yX7_readOne cX7_readOne 6 (some .boolean) d [.ref (b + 47), .ref (b + 1), .ref (b + 5), .int v3] (mx (va_up (va_up XX 47 sy) 1 ta) YY) (qI G b r.1 (mx (va_up (va_up XX 47 r.2.1) 1 r.2.2) YY)) := by
  refine met_start [some (.ref (b + 47)), some (.ref (b + 1)), some (.ref (b + 5)), some (.int v3), none, none] (by decide +kernel) (Nat.le_of_ble_eq_true rfl) rfl (fun Z hl ok => ?_)
  subst hl
  exact vSy_readOne ok hself hr_q r (by rw [hr]; rfl)
theorem wSy_readCond_J83 {Z : Cx} {G : Gx} {b : Nat} {d : Nat} {XX YY : Nat → Obj} {self : Nat → Obj → Obj → Int32 → Option (Int32 × Obj × Obj)} {q : Obj} {sy : Obj} {ta : Obj} {v3 : Int32} {v4 : Int32} {v5 : Int32} {v6 : Int32} (ok : OK Z G b cX7_readCond 7 d RX7 (some .boolean)) (hself : recOK Z.2.1 G b q d self) (hr_q : XX 5 = q) {K : ((Int32 × Int32 × Int32 × Obj × Obj) ⊕ ((Obj × Obj) ⊕ (Int32 × Obj × Obj))) → Option (Int32 × Obj × Obj)} (hc : ∀ (a : Int32 × Int32 × Int32 × Obj × Obj), VO Z G b 7 (fun (r : Int32 × Obj × Obj) => QX Z b (qI G b r.1 (mx (va_up (va_up XX 47 r.2.1) 1 r.2.2) YY))) (mx (va_up (va_up XX 47 a.2.2.2.1) 1 a.2.2.2.2) YY) 9 [some (.ref (b + 47)), some (.ref (b + 1)), some (.ref (b + 5)), some (.int v3), some (.int a.1), some (.int a.2.1), some (.int a.2.2.1)] [] (K (.inl a))) (hx : ∀ (z : (Obj × Obj) ⊕ (Int32 × Obj × Obj)), (∀ (e : Obj × Obj), z = .inl e → VO Z G b 7 (fun (r : Int32 × Obj × Obj) => QX Z b (qI G b r.1 (mx (va_up (va_up XX 47 r.2.1) 1 r.2.2) YY))) (mx (va_up (va_up XX 47 e.1) 1 e.2) YY) 93 [none, some (.ref (b + 1)), none, none, none, none, none] [] (K (.inr z))) ∧ (∀ (r : Int32 × Obj × Obj), z = .inr r → K (.inr z) = some r)) : VO Z G b 7 (fun (r : Int32 × Obj × Obj) => QX Z b (qI G b r.1 (mx (va_up (va_up XX 47 r.2.1) 1 r.2.2) YY))) (mx (va_up (va_up XX 47 sy) 1 ta) YY) 83 [some (.ref (b + 47)), some (.ref (b + 1)), some (.ref (b + 5)), some (.int v3), some (.int v4), some (.int v5), some (.int v6)] [] ((fSy_readCond_J83 self sy ta v4 v5 v6).bind K) := by
  unfold fSy_readCond_J83
  have hd12 := hself.1
  refine r_aload_n (pc := 83) ok dX7_readCond_83 rfl ?_
  refine k_V (pc := 84)  (fun r4 => mx (va_up (va_up XX 47 sy) 1 r4) YY) (fun r4 hr_ => c_V (n := 0) ok cls10 sh_1 rfl ml_Sy_72 wv_X10_take yk_X10_take rfl (by omega) (by omega) (tTa_take hr_) rfl (Nat.le_of_ble_eq_true rfl) dX7_readCond_84) (fun r4 => ?_)
  refine r_iinc (pc := 87) ok (1 : Int32) dX7_readCond_87 ci_1 rfl (Nat.le_of_ble_eq_true rfl) rfl ?_
  refine r_goto (pc := 90) ok 9 dX7_readCond_90 rfl ?_
  exact hc (v4, v5, (v6 + (1 : Int32)), sy, r4)
theorem wSy_readCond_J68 {Z : Cx} {G : Gx} {b : Nat} {d : Nat} {XX YY : Nat → Obj} {self : Nat → Obj → Obj → Int32 → Option (Int32 × Obj × Obj)} {q : Obj} {sy : Obj} {ta : Obj} {v3 : Int32} {v4 : Int32} {v6 : Int32} (ok : OK Z G b cX7_readCond 7 d RX7 (some .boolean)) (hself : recOK Z.2.1 G b q d self) (hr_q : XX 5 = q) {K : ((Int32 × Int32 × Int32 × Obj × Obj) ⊕ ((Obj × Obj) ⊕ (Int32 × Obj × Obj))) → Option (Int32 × Obj × Obj)} (hc : ∀ (a : Int32 × Int32 × Int32 × Obj × Obj), VO Z G b 7 (fun (r : Int32 × Obj × Obj) => QX Z b (qI G b r.1 (mx (va_up (va_up XX 47 r.2.1) 1 r.2.2) YY))) (mx (va_up (va_up XX 47 a.2.2.2.1) 1 a.2.2.2.2) YY) 9 [some (.ref (b + 47)), some (.ref (b + 1)), some (.ref (b + 5)), some (.int v3), some (.int a.1), some (.int a.2.1), some (.int a.2.2.1)] [] (K (.inl a))) (hx : ∀ (z : (Obj × Obj) ⊕ (Int32 × Obj × Obj)), (∀ (e : Obj × Obj), z = .inl e → VO Z G b 7 (fun (r : Int32 × Obj × Obj) => QX Z b (qI G b r.1 (mx (va_up (va_up XX 47 r.2.1) 1 r.2.2) YY))) (mx (va_up (va_up XX 47 e.1) 1 e.2) YY) 93 [none, some (.ref (b + 1)), none, none, none, none, none] [] (K (.inr z))) ∧ (∀ (r : Int32 × Obj × Obj), z = .inr r → K (.inr z) = some r)) : VO Z G b 7 (fun (r : Int32 × Obj × Obj) => QX Z b (qI G b r.1 (mx (va_up (va_up XX 47 r.2.1) 1 r.2.2) YY))) (mx (va_up (va_up XX 47 sy) 1 ta) YY) 68 [some (.ref (b + 47)), some (.ref (b + 1)), some (.ref (b + 5)), some (.int v3), some (.int v4), none, some (.int v6)] [] ((fSy_readCond_J68 self sy ta v4 v6).bind K) := by
  unfold fSy_readCond_J68
  have hd12 := hself.1
  refine r_aload_n (pc := 68) ok dX7_readCond_68 rfl ?_
  refine r_bipush (pc := 69) ok (18 : Int32) dX7_readCond_69 cb_18 ?_
  refine k_I (pc := 71) (fun r3 => r3) (fun r3 => mx (va_up (va_up XX 47 sy) 1 ta) YY) (fun r3 hr_ => c_V (n := 1) ok cls10 sh_1 rfl ml_Sy_68 wv_X10_isWord yk_X10_isWord rfl (by omega) (by omega) (tTa_isWord (va_up_self _ _ _) hr_) rfl (Nat.le_of_ble_eq_true rfl) dX7_readCond_71) (fun r3 => ?_)
  refine r_istore (pc := 74) ok dX7_readCond_74 (Nat.le_of_ble_eq_true rfl) rfl ?_
  refine r_iload (pc := 76) ok dX7_readCond_76 rfl ?_
  refine r_if_ne (pc := 78) ok 83 dX7_readCond_78 rfl (fun _ => ?_) (fun _ => ?_)
  · refine r_iconst (pc := 81) ok (1 : Int32) dX7_readCond_81 ci_1 ?_
    refine r_eq ((hx (.inr ((1 : Int32), sy, ta))).2 _ rfl) ?_
    exact r_zret (pc := 82) ok dX7_readCond_82 za_1 rfl
  · exact wSy_readCond_J83 ok hself hr_q (K := K) hc hx
theorem wSy_readCond_J42 {Z : Cx} {G : Gx} {b : Nat} {d : Nat} {XX YY : Nat → Obj} {self : Nat → Obj → Obj → Int32 → Option (Int32 × Obj × Obj)} {q : Obj} {sy : Obj} {ta : Obj} {v3 : Int32} {v5 : Int32} {v6 : Int32} (ok : OK Z G b cX7_readCond 7 d RX7 (some .boolean)) (hself : recOK Z.2.1 G b q d self) (hr_q : XX 5 = q) {K : ((Int32 × Int32 × Int32 × Obj × Obj) ⊕ ((Obj × Obj) ⊕ (Int32 × Obj × Obj))) → Option (Int32 × Obj × Obj)} (hc : ∀ (a : Int32 × Int32 × Int32 × Obj × Obj), VO Z G b 7 (fun (r : Int32 × Obj × Obj) => QX Z b (qI G b r.1 (mx (va_up (va_up XX 47 r.2.1) 1 r.2.2) YY))) (mx (va_up (va_up XX 47 a.2.2.2.1) 1 a.2.2.2.2) YY) 9 [some (.ref (b + 47)), some (.ref (b + 1)), some (.ref (b + 5)), some (.int v3), some (.int a.1), some (.int a.2.1), some (.int a.2.2.1)] [] (K (.inl a))) (hx : ∀ (z : (Obj × Obj) ⊕ (Int32 × Obj × Obj)), (∀ (e : Obj × Obj), z = .inl e → VO Z G b 7 (fun (r : Int32 × Obj × Obj) => QX Z b (qI G b r.1 (mx (va_up (va_up XX 47 r.2.1) 1 r.2.2) YY))) (mx (va_up (va_up XX 47 e.1) 1 e.2) YY) 93 [none, some (.ref (b + 1)), none, none, none, none, none] [] (K (.inr z))) ∧ (∀ (r : Int32 × Obj × Obj), z = .inr r → K (.inr z) = some r)) : VO Z G b 7 (fun (r : Int32 × Obj × Obj) => QX Z b (qI G b r.1 (mx (va_up (va_up XX 47 r.2.1) 1 r.2.2) YY))) (mx (va_up (va_up XX 47 sy) 1 ta) YY) 42 [some (.ref (b + 47)), some (.ref (b + 1)), some (.ref (b + 5)), some (.int v3), none, some (.int v5), some (.int v6)] [] ((fSy_readCond_J42 self sy ta v5 v6).bind K) := by
  unfold fSy_readCond_J42
  have hd12 := hself.1
  refine r_aload_n (pc := 42) ok dX7_readCond_42 rfl ?_
  refine r_bipush (pc := 43) ok (19 : Int32) dX7_readCond_43 cb_19 ?_
  refine k_I (pc := 45) (fun r2 => r2) (fun r2 => mx (va_up (va_up XX 47 sy) 1 ta) YY) (fun r2 hr_ => c_V (n := 1) ok cls10 sh_1 rfl ml_Sy_68 wv_X10_isWord yk_X10_isWord rfl (by omega) (by omega) (tTa_isWord (va_up_self _ _ _) hr_) rfl (Nat.le_of_ble_eq_true rfl) dX7_readCond_45) (fun r2 => ?_)
  refine r_istore (pc := 48) ok dX7_readCond_48 (Nat.le_of_ble_eq_true rfl) rfl ?_
  refine r_iload (pc := 50) ok dX7_readCond_50 rfl ?_
  refine r_if_ne (pc := 52) ok 83 dX7_readCond_52 rfl (fun _ => ?_) (fun _ => ?_)
  · refine r_iload (pc := 55) ok dX7_readCond_55 rfl ?_
    refine r_if_eq (pc := 57) ok 68 dX7_readCond_57 rfl (fun _ => ?_) (fun _ => ?_)
    · refine r_lv (lk_s (lk_s (lk_s (lk_s (lk_s (lk_n (lk_s lk_0 _) _) _) _) _) _) _) ?_
      exact wSy_readCond_J68 ok hself hr_q (K := K) hc hx
    · refine r_aload_n (pc := 60) ok dX7_readCond_60 rfl ?_
      refine r_bipush (pc := 61) ok (18 : Int32) dX7_readCond_61 cb_18 ?_
      refine r_iconst (pc := 63) ok (0 : Int32) dX7_readCond_63 ci_0 ?_
      refine r_iconst (pc := 64) ok (0 : Int32) dX7_readCond_64 ci_0 ?_
      refine k_V (pc := 65)  (fun r5 => mx (va_up (va_up XX 47 r5) 1 ta) YY) (fun r5 hr_ => c_V (n := 3) ok cls7 sh_47 rfl ml_Sy_64 wv_X7_add yk_X7_add rfl (by omega) (by omega) (met_cast (congrArg (fun A_ => mx A_ YY) (up_co XX sy ta (show 47 ≠ 1 from by decide))) (congrArg (fun A_ => qV G b (mx A_ YY)) (up_co XX r5 ta (show 47 ≠ 1 from by decide))) (tSy_add hr_)) rfl (Nat.le_of_ble_eq_true rfl) dX7_readCond_65) (fun r5 => ?_)
      refine r_lv (lk_s (lk_s (lk_s (lk_s (lk_s (lk_n (lk_s lk_0 _) _) _) _) _) _) _) ?_
      exact wSy_readCond_J68 ok hself hr_q (K := K) hc hx
  · exact wSy_readCond_J83 ok hself hr_q (K := K) hc hx
theorem wSy_readCond_L9 {Z : Cx} {G : Gx} {b : Nat} {d : Nat} {XX YY : Nat → Obj} {self : Nat → Obj → Obj → Int32 → Option (Int32 × Obj × Obj)} {q : Obj} {v3 : Int32} (ok : OK Z G b cX7_readCond 7 d RX7 (some .boolean)) (hself : recOK Z.2.1 G b q d self) (hr_q : XX 5 = q) {K : ((Int32 × Int32 × Int32 × Obj × Obj) ⊕ ((Obj × Obj) ⊕ (Int32 × Obj × Obj))) → Option (Int32 × Obj × Obj)} (hc : ∀ (a : Int32 × Int32 × Int32 × Obj × Obj), VO Z G b 7 (fun (r : Int32 × Obj × Obj) => QX Z b (qI G b r.1 (mx (va_up (va_up XX 47 r.2.1) 1 r.2.2) YY))) (mx (va_up (va_up XX 47 a.2.2.2.1) 1 a.2.2.2.2) YY) 9 [some (.ref (b + 47)), some (.ref (b + 1)), some (.ref (b + 5)), some (.int v3), some (.int a.1), some (.int a.2.1), some (.int a.2.2.1)] [] (K (.inl a))) (hx : ∀ (z : (Obj × Obj) ⊕ (Int32 × Obj × Obj)), (∀ (e : Obj × Obj), z = .inl e → VO Z G b 7 (fun (r : Int32 × Obj × Obj) => QX Z b (qI G b r.1 (mx (va_up (va_up XX 47 r.2.1) 1 r.2.2) YY))) (mx (va_up (va_up XX 47 e.1) 1 e.2) YY) 93 [none, some (.ref (b + 1)), none, none, none, none, none] [] (K (.inr z))) ∧ (∀ (r : Int32 × Obj × Obj), z = .inr r → K (.inr z) = some r)) : ∀ (a : Int32 × Int32 × Int32 × Obj × Obj), VO Z G b 7 (fun (r : Int32 × Obj × Obj) => QX Z b (qI G b r.1 (mx (va_up (va_up XX 47 r.2.1) 1 r.2.2) YY))) (mx (va_up (va_up XX 47 a.2.2.2.1) 1 a.2.2.2.2) YY) 9 [some (.ref (b + 47)), some (.ref (b + 1)), some (.ref (b + 5)), some (.int v3), some (.int a.1), some (.int a.2.1), some (.int a.2.2.1)] [] ((fSy_readCond_L9 self v3 a).bind K) := by
  intro a
  unfold fSy_readCond_L9
  have hd12 := hself.1
  refine r_iload (pc := 9) ok dX7_readCond_9 rfl ?_
  refine r_sipush (pc := 11) ok (200 : Int32) dX7_readCond_11 cs_200 ?_
  refine r_icmp_ge (pc := 14) ok 93 dX7_readCond_14 rfl (fun _ => ?_) (fun _ => ?_)
  · refine r_lv (lk_n (lk_s (lk_n (lk_n (lk_n (lk_n (lk_n lk_0 _) _) _) _) _) _) _) ?_
    exact (hx (.inl (a.2.2.2.1, a.2.2.2.2))).1 _ rfl
  · refine r_aload_n (pc := 17) ok dX7_readCond_17 rfl ?_
    refine r_aload_n (pc := 18) ok dX7_readCond_18 rfl ?_
    refine r_aload_n (pc := 19) ok dX7_readCond_19 rfl ?_
    refine r_iload_n (pc := 20) ok dX7_readCond_20 rfl ?_
    refine k_I (pc := 21) (fun r1 => r1.1) (fun r1 => mx (va_up (va_up XX 47 r1.2.1) 1 r1.2.2) YY) (fun r1 hr_ => c_V (n := 3) ok cls7 sh_47 rfl ml_Sy_61 wv_X7_readOne yk_X7_readOne rfl (by omega) (by omega) (hself_readOne hself (XX := XX) (YY := YY) hr_q hr_) rfl (Nat.le_of_ble_eq_true rfl) dX7_readCond_21) (fun r1 => ?_)
    refine r_if_ne (pc := 24) ok 29 dX7_readCond_24 rfl (fun _ => ?_) (fun _ => ?_)
    · refine r_iconst (pc := 27) ok (0 : Int32) dX7_readCond_27 ci_0 ?_
      refine r_eq ((hx (.inr ((0 : Int32), r1.2.1, r1.2.2))).2 _ rfl) ?_
      exact r_zret (pc := 28) ok dX7_readCond_28 za_0 rfl
    · refine r_iload (pc := 29) ok dX7_readCond_29 rfl ?_
      refine r_if_eq (pc := 31) ok 42 dX7_readCond_31 rfl (fun _ => ?_) (fun _ => ?_)
      · refine r_lv (lk_s (lk_s (lk_s (lk_s (lk_n (lk_s (lk_s lk_0 _) _) _) _) _) _) _) ?_
        exact wSy_readCond_J42 ok hself hr_q (K := K) hc hx
      · refine r_aload_n (pc := 34) ok dX7_readCond_34 rfl ?_
        refine r_bipush (pc := 35) ok (19 : Int32) dX7_readCond_35 cb_19 ?_
        refine r_iconst (pc := 37) ok (0 : Int32) dX7_readCond_37 ci_0 ?_
        refine r_iconst (pc := 38) ok (0 : Int32) dX7_readCond_38 ci_0 ?_
        refine k_V (pc := 39)  (fun r6 => mx (va_up (va_up XX 47 r6) 1 r1.2.2) YY) (fun r6 hr_ => c_V (n := 3) ok cls7 sh_47 rfl ml_Sy_64 wv_X7_add yk_X7_add rfl (by omega) (by omega) (met_cast (congrArg (fun A_ => mx A_ YY) (up_co XX r1.2.1 r1.2.2 (show 47 ≠ 1 from by decide))) (congrArg (fun A_ => qV G b (mx A_ YY)) (up_co XX r6 r1.2.2 (show 47 ≠ 1 from by decide))) (tSy_add hr_)) rfl (Nat.le_of_ble_eq_true rfl) dX7_readCond_39) (fun r6 => ?_)
        refine r_lv (lk_s (lk_s (lk_s (lk_s (lk_n (lk_s (lk_s lk_0 _) _) _) _) _) _) _) ?_
        exact wSy_readCond_J42 ok hself hr_q (K := K) hc hx
theorem vSy_readCond {Z : Cx} {G : Gx} {b : Nat} {d : Nat} {XX YY : Nat → Obj} {self : Nat → Obj → Obj → Int32 → Option (Int32 × Obj × Obj)} {q : Obj} {sy : Obj} {ta : Obj} {v3 : Int32} (ok : OK Z G b cX7_readCond 7 d RX7 (some .boolean)) (hself : recOK Z.2.1 G b q d self) (hr_q : XX 5 = q) : VO Z G b 7 (fun (r : Int32 × Obj × Obj) => QX Z b (qI G b r.1 (mx (va_up (va_up XX 47 r.2.1) 1 r.2.2) YY))) (mx (va_up (va_up XX 47 sy) 1 ta) YY) 0 [some (.ref (b + 47)), some (.ref (b + 1)), some (.ref (b + 5)), some (.int v3), none, none, none] [] ((fSy_readCond self q sy ta v3).bind some) := by
  unfold fSy_readCond
  have hd12 := hself.1
  refine r_iconst (pc := 0) ok (0 : Int32) dX7_readCond_0 ci_0 ?_
  refine r_istore (pc := 1) ok dX7_readCond_1 (Nat.le_of_ble_eq_true rfl) rfl ?_
  refine r_iconst (pc := 3) ok (0 : Int32) dX7_readCond_3 ci_0 ?_
  refine r_istore (pc := 4) ok dX7_readCond_4 (Nat.le_of_ble_eq_true rfl) rfl ?_
  refine r_iconst (pc := 6) ok (0 : Int32) dX7_readCond_6 ci_0 ?_
  refine r_istore (pc := 7) ok dX7_readCond_7 (Nat.le_of_ble_eq_true rfl) rfl ?_
  refine r_iter (P := fun (a9 : Int32 × Int32 × Int32 × Obj × Obj) o => VO Z G b 7 (fun (r : Int32 × Obj × Obj) => QX Z b (qI G b r.1 (mx (va_up (va_up XX 47 r.2.1) 1 r.2.2) YY))) (mx (va_up (va_up XX 47 a9.2.2.2.1) 1 a9.2.2.2.2) YY) 9 [some (.ref (b + 47)), some (.ref (b + 1)), some (.ref (b + 5)), some (.int v3), some (.int a9.1), some (.int a9.2.1), some (.int a9.2.2.1)] [] o) (E := fun (z : (Obj × Obj) ⊕ (Int32 × Obj × Obj)) o => (∀ (e_9 : Obj × Obj), z = .inl e_9 → VO Z G b 7 (fun (r : Int32 × Obj × Obj) => QX Z b (qI G b r.1 (mx (va_up (va_up XX 47 r.2.1) 1 r.2.2) YY))) (mx (va_up (va_up XX 47 e_9.1) 1 e_9.2) YY) 93 [none, some (.ref (b + 1)), none, none, none, none, none] [] o) ∧ (∀ (r : Int32 × Obj × Obj), z = .inr r → o = some r)) (fun _ => r_none) (fun K hc hx => wSy_readCond_L9 ok hself hr_q (K := K) hc hx) (fun z => ⟨fun e7 hz => ?_, fun r hz => ?_⟩) FU ((0 : Int32), (0 : Int32), (0 : Int32), sy, ta)
  · subst hz
    refine r_inl ?_
    refine r_aload_n (pc := 93) ok dX7_readCond_93 rfl ?_
    refine r_iconst (pc := 94) ok (1 : Int32) dX7_readCond_94 ci_1 ?_
    refine k_I (pc := 95) (fun r8 => r8.1) (fun r8 => mx (va_up (va_up XX 47 e7.1) 1 r8.2) YY) (fun r8 hr_ => c_S (n := 2) ok ml_Sy_54 ws_X7_refuse yk_X7_refuse rfl (by omega) (by omega) (tSy_refuse hr_) rfl (Nat.le_of_ble_eq_true rfl) dX7_readCond_95) (fun r8 => ?_)
    exact r_zret (pc := 98) ok dX7_readCond_98 rfl rfl
  · subst hz
    rfl
theorem tSy_readCond {l : Launch} {G : Gx} {b : Nat} {d : Nat} {XX YY : Nat → Obj} {self : Nat → Obj → Obj → Int32 → Option (Int32 × Obj × Obj)} {q : Obj} {sy : Obj} {ta : Obj} {v3 : Int32} (hself : recOK l G b q d self) (hr_q : XX 5 = q) {r : Int32 × Obj × Obj} (hr : fSy_readCond self q sy ta v3 = some r) : MetG l G b yX7_readCond cX7_readCond 7 (some .boolean) d [.ref (b + 47), .ref (b + 1), .ref (b + 5), .int v3] (mx (va_up (va_up XX 47 sy) 1 ta) YY) (qI G b r.1 (mx (va_up (va_up XX 47 r.2.1) 1 r.2.2) YY)) := by
  refine met_start [some (.ref (b + 47)), some (.ref (b + 1)), some (.ref (b + 5)), some (.int v3), none, none, none] (by decide +kernel) (Nat.le_of_ble_eq_true rfl) rfl (fun Z hl ok => ?_)
  subst hl
  exact vSy_readCond ok hself hr_q r (by rw [hr]; rfl)
theorem rec_all {l : Launch} {G : Gx} {b : Nat} {q : Obj} : ∀ n, recOK l G b q (13 + n) (fSy_rec n q)
  | 0 => by
    refine ⟨by omega, ?_, ?_, ?_, ?_⟩ <;> (intro XX YY sy ta v r hq hr; cases hr)
  | n + 1 => by
    have ih := rec_all (l := l) (G := G) (b := b) (q := q) n
    have e : 13 + (n + 1) - 1 = 13 + n := by omega
    refine ⟨by omega, ?_, ?_, ?_, ?_⟩ <;> (rw [e]; intro XX YY sy ta v r hq hr)
    · exact tSy_readCond ih hq hr
    · exact tSy_readOne ih hq hr
    · exact tSy_readBracket ih hq hr
    · exact tSy_readNot ih hq hr
theorem rec_readCond {l : Launch} {G : Gx} {b : Nat} {q : Obj} {XX YY : Nat → Obj} {sy ta : Obj} {v : Int32} {r : Int32 × Obj × Obj} (hq : XX 5 = q) (hr : fSy_rec 40 q 0 sy ta v = some r) : MetG l G b yX7_readCond cX7_readCond 7 (some .boolean) 52 [.ref (b + 47), .ref (b + 1), .ref (b + 5), .int v] (mx (va_up (va_up XX 47 sy) 1 ta) YY) (qI G b r.1 (mx (va_up (va_up XX 47 r.2.1) 1 r.2.2) YY)) := hself_readCond (rec_all 40) hq hr
theorem rec_readOne {l : Launch} {G : Gx} {b : Nat} {q : Obj} {XX YY : Nat → Obj} {sy ta : Obj} {v : Int32} {r : Int32 × Obj × Obj} (hq : XX 5 = q) (hr : fSy_rec 40 q 1 sy ta v = some r) : MetG l G b yX7_readOne cX7_readOne 6 (some .boolean) 52 [.ref (b + 47), .ref (b + 1), .ref (b + 5), .int v] (mx (va_up (va_up XX 47 sy) 1 ta) YY) (qI G b r.1 (mx (va_up (va_up XX 47 r.2.1) 1 r.2.2) YY)) := hself_readOne (rec_all 40) hq hr
theorem rec_readBracket {l : Launch} {G : Gx} {b : Nat} {q : Obj} {XX YY : Nat → Obj} {sy ta : Obj} {v : Int32} {r : Int32 × Obj × Obj} (hq : XX 5 = q) (hr : fSy_rec 40 q 2 sy ta v = some r) : MetG l G b yX7_readBracket cX7_readBracket 4 (some .boolean) 52 [.ref (b + 47), .ref (b + 1), .ref (b + 5), .int v] (mx (va_up (va_up XX 47 sy) 1 ta) YY) (qI G b r.1 (mx (va_up (va_up XX 47 r.2.1) 1 r.2.2) YY)) := hself_readBracket (rec_all 40) hq hr
theorem rec_readNot {l : Launch} {G : Gx} {b : Nat} {q : Obj} {XX YY : Nat → Obj} {sy ta : Obj} {v : Int32} {r : Int32 × Obj × Obj} (hq : XX 5 = q) (hr : fSy_rec 40 q 3 sy ta v = some r) : MetG l G b yX7_readNot cX7_readNot 4 (some .boolean) 52 [.ref (b + 47), .ref (b + 1), .ref (b + 5), .int v] (mx (va_up (va_up XX 47 sy) 1 ta) YY) (qI G b r.1 (mx (va_up (va_up XX 47 r.2.1) 1 r.2.2) YY)) := hself_readNot (rec_all 40) hq hr

theorem vSy_readAll {Z : Cx} {G : Gx} {b : Nat} {XX YY : Nat → Obj} {q : Obj} {sy : Obj} {ta : Obj} (ok : OK Z G b cX7_readAll 3 53 RX7 (some .boolean)) (hr_q : XX 5 = q) : VO Z G b 3 (fun (r : Int32 × Obj × Obj) => QX Z b (qI G b r.1 (mx (va_up (va_up XX 47 r.2.1) 1 r.2.2) YY))) (mx (va_up (va_up XX 47 sy) 1 ta) YY) 0 [some (.ref (b + 47)), some (.ref (b + 1)), some (.ref (b + 5))] [] ((fSy_readAll q sy ta).bind some) := by
  unfold fSy_readAll
  refine r_aload_n (pc := 0) ok dX7_readAll_0 rfl ?_
  refine k_V (pc := 1)  (fun r1 => mx (va_up (va_up XX 47 r1) 1 ta) YY) (fun r1 hr_ => c_V (n := 0) ok cls7 sh_47 rfl ml_Sy_37 wv_X7_clear yk_X7_clear rfl (Nat.le_of_ble_eq_true rfl) (Nat.le_of_ble_eq_true rfl) (met_cast (congrArg (fun A_ => mx A_ YY) (up_co XX sy ta (show 47 ≠ 1 from by decide))) (congrArg (fun A_ => qV G b (mx A_ YY)) (up_co XX r1 ta (show 47 ≠ 1 from by decide))) (tSy_clear hr_)) rfl (Nat.le_of_ble_eq_true rfl) dX7_readAll_1) (fun r1 => ?_)
  refine r_aload_n (pc := 4) ok dX7_readAll_4 rfl ?_
  refine r_sipush (pc := 5) ok (200 : Int32) dX7_readAll_5 cs_200 ?_
  refine k_V (pc := 8)  (fun r2 => mx (va_up (va_up XX 47 r1) 1 r2) YY) (fun r2 hr_ => c_V (n := 1) ok cls10 sh_1 rfl ml_Sy_40 wv_X10_startReading yk_X10_startReading rfl (Nat.le_of_ble_eq_true rfl) (Nat.le_of_ble_eq_true rfl) (tTa_startReading hr_) rfl (Nat.le_of_ble_eq_true rfl) dX7_readAll_8) (fun r2 => ?_)
  refine r_aload_n (pc := 11) ok dX7_readAll_11 rfl ?_
  refine r_aload_n (pc := 12) ok dX7_readAll_12 rfl ?_
  refine r_aload_n (pc := 13) ok dX7_readAll_13 rfl ?_
  refine r_iconst (pc := 14) ok (1 : Int32) dX7_readAll_14 ci_1 ?_
  refine k_I (pc := 15) (fun r3 => r3.1) (fun r3 => mx (va_up (va_up XX 47 r3.2.1) 1 r3.2.2) YY) (fun r3 hr_ => c_V (n := 3) ok cls7 sh_47 rfl ml_Sy_46 wv_X7_readCond yk_X7_readCond rfl (Nat.le_of_ble_eq_true rfl) (Nat.le_of_ble_eq_true rfl) (rec_readCond (XX := XX) (YY := YY) hr_q hr_) rfl (Nat.le_of_ble_eq_true rfl) dX7_readAll_15) (fun r3 => ?_)
  refine r_if_ne (pc := 18) ok 23 dX7_readAll_18 rfl (fun _ => ?_) (fun _ => ?_)
  · refine r_iconst (pc := 21) ok (0 : Int32) dX7_readAll_21 ci_0 ?_
    exact r_zret (pc := 22) ok dX7_readAll_22 za_0 rfl
  · refine r_aload_n (pc := 23) ok dX7_readAll_23 rfl ?_
    refine k_I (pc := 24) (fun r4 => r4) (fun r4 => mx (va_up (va_up XX 47 r3.2.1) 1 r3.2.2) YY) (fun r4 hr_ => c_V (n := 0) ok cls10 sh_1 rfl ml_Sy_50 wv_X10_isEnd yk_X10_isEnd rfl (Nat.le_of_ble_eq_true rfl) (Nat.le_of_ble_eq_true rfl) (tTa_isEnd (va_up_self _ _ _) hr_) rfl (Nat.le_of_ble_eq_true rfl) dX7_readAll_24) (fun r4 => ?_)
    refine r_if_ne (pc := 27) ok 38 dX7_readAll_27 rfl (fun _ => ?_) (fun _ => ?_)
    · refine r_aload_n (pc := 30) ok dX7_readAll_30 rfl ?_
      refine r_iconst (pc := 31) ok (1 : Int32) dX7_readAll_31 ci_1 ?_
      refine k_I (pc := 32) (fun r5 => r5.1) (fun r5 => mx (va_up (va_up XX 47 r3.2.1) 1 r5.2) YY) (fun r5 hr_ => c_S (n := 2) ok ml_Sy_54 ws_X7_refuse yk_X7_refuse rfl (Nat.le_of_ble_eq_true rfl) (Nat.le_of_ble_eq_true rfl) (tSy_refuse hr_) rfl (Nat.le_of_ble_eq_true rfl) dX7_readAll_32) (fun r5 => ?_)
      refine r_if_eq (pc := 35) ok 42 dX7_readAll_35 rfl (fun _ => ?_) (fun _ => ?_)
      · refine r_iconst (pc := 42) ok (0 : Int32) dX7_readAll_42 ci_0 ?_
        exact r_zret (pc := 43) ok dX7_readAll_43 za_0 rfl
      · refine r_iconst (pc := 38) ok (1 : Int32) dX7_readAll_38 ci_1 ?_
        refine r_goto (pc := 39) ok 43 dX7_readAll_39 rfl ?_
        exact r_zret (pc := 43) ok dX7_readAll_43 za_1 rfl
    · refine r_iconst (pc := 38) ok (1 : Int32) dX7_readAll_38 ci_1 ?_
      refine r_goto (pc := 39) ok 43 dX7_readAll_39 rfl ?_
      exact r_zret (pc := 43) ok dX7_readAll_43 za_1 rfl
theorem tSy_readAll {l : Launch} {G : Gx} {b : Nat} {XX YY : Nat → Obj} {q : Obj} {sy : Obj} {ta : Obj} (hr_q : XX 5 = q) {r : Int32 × Obj × Obj} (hr : fSy_readAll q sy ta = some r) : MetG l G b yX7_readAll cX7_readAll 3 (some .boolean) 53 [.ref (b + 47), .ref (b + 1), .ref (b + 5)] (mx (va_up (va_up XX 47 sy) 1 ta) YY) (qI G b r.1 (mx (va_up (va_up XX 47 r.2.1) 1 r.2.2) YY)) := by
  refine met_start [some (.ref (b + 47)), some (.ref (b + 1)), some (.ref (b + 5))] (by decide +kernel) (Nat.le_of_ble_eq_true rfl) rfl (fun Z hl ok => ?_)
  clear hl
  exact vSy_readAll ok hr_q r (by rw [hr]; rfl)
theorem vKL_sentence {Z : Cx} {G : Gx} {b : Nat} {YY : Nat → Obj} {X : Nat → Obj} (ok : OK Z G b cX11_sentence 2 54 RX11 (some .int)) : VO Z G b 2 (fun (r : Int32 × (Nat → Obj)) => QX Z b (qI G b r.1 (mx r.2 YY))) (mx X YY) 0 [some (.ref (b + 0)), none] [] ((fKL_sentence X).bind some) := by
  unfold fKL_sentence
  refine r_aload_n (pc := 0) ok dX11_sentence_0 rfl ?_
  refine r_getR (pc := 1) ok cls11 sh_0 (k := 2) rfl (Nat.le_of_ble_eq_true rfl) rfl dX11_sentence_1 fl_KL_23 ?_
  refine r_getR (pc := 4) ok cls9 sh_28 (k := 2) rfl (Nat.le_of_ble_eq_true rfl) rfl dX11_sentence_4 fl_KL_121 ?_
  refine r_aload_n (pc := 7) ok dX11_sentence_7 rfl ?_
  refine r_getR (pc := 8) ok cls11 sh_0 (k := 0) rfl (Nat.le_of_ble_eq_true rfl) rfl dX11_sentence_8 fl_KL_10 ?_
  refine r_aload_n (pc := 11) ok dX11_sentence_11 rfl ?_
  refine r_getR (pc := 12) ok cls11 sh_0 (k := 1) rfl (Nat.le_of_ble_eq_true rfl) rfl dX11_sentence_12 fl_KL_19 ?_
  refine r_getR (pc := 15) ok cls9 sh_4 (k := 0) rfl (Nat.le_of_ble_eq_true rfl) rfl dX11_sentence_15 fl_KL_34 ?_
  refine k_I (pc := 18) (fun r1 => r1.1) (fun r1 => mx ((va_up (va_up X 47 r1.2.1) 1 r1.2.2)) YY) (fun r1 hr_ => c_V (n := 2) ok cls7 sh_47 rfl ml_KL_306 wv_X7_readAll yk_X7_readAll rfl (Nat.le_of_ble_eq_true rfl) (Nat.le_of_ble_eq_true rfl) (met_cast (by rw [up_eta, up_eta]) rfl (tSy_readAll (rfl) hr_)) rfl (Nat.le_of_ble_eq_true rfl) dX11_sentence_18) (fun r1 => ?_)
  refine r_bndX (wf := (fun x_ => mx (va_up x_ 1 r1.2.2) YY)) (fun X2 => ?_)
  refine r_bndX (wf := (fun x_ => mx x_ YY)) (fun X3 => ?_)
  refine r_istore_n (pc := 21) ok dX11_sentence_21 (Nat.le_of_ble_eq_true rfl) rfl ?_
  refine r_aload_n (pc := 22) ok dX11_sentence_22 rfl ?_
  refine k_V (pc := 23)  (fun r4 => mx r4 YY) (fun r4 hr_ => c_V (n := 0) ok cls11 sh_0 rfl ml_KL_115 wv_X11_finishReading yk_X11_finishReading rfl (Nat.le_of_ble_eq_true rfl) (Nat.le_of_ble_eq_true rfl) (tKL_finishReading hr_) rfl (Nat.le_of_ble_eq_true rfl) dX11_sentence_23) (fun r4 => ?_)
  refine r_iload_n (pc := 26) ok dX11_sentence_26 rfl ?_
  refine r_if_ne (pc := 27) ok 40 dX11_sentence_27 rfl (fun _ => ?_) (fun _ => ?_)
  · refine r_iconst (pc := 30) ok (-1 : Int32) dX11_sentence_30 ci_m1 ?_
    refine r_aload_n (pc := 31) ok dX11_sentence_31 rfl ?_
    refine r_getR (pc := 32) ok cls11 sh_0 (k := 0) rfl (Nat.le_of_ble_eq_true rfl) rfl dX11_sentence_32 fl_KL_10 ?_
    refine r_getI (pc := 35) ok cls10 sh_1 (k := 3) rfl (Nat.le_of_ble_eq_true rfl) (mx_l (Nat.le_of_ble_eq_true rfl) rfl) dX11_sentence_35 fl_KL_118 ?_
    refine r_isub (pc := 38) ok dX11_sentence_38 ?_
    exact r_iret (pc := 39) ok dX11_sentence_39 rfl
  · refine r_aload_n (pc := 40) ok dX11_sentence_40 rfl ?_
    refine r_getR (pc := 41) ok cls11 sh_0 (k := 1) rfl (Nat.le_of_ble_eq_true rfl) rfl dX11_sentence_41 fl_KL_19 ?_
    refine r_getR (pc := 44) ok cls9 sh_4 (k := 2) rfl (Nat.le_of_ble_eq_true rfl) rfl dX11_sentence_44 fl_KL_121 ?_
    refine r_aload_n (pc := 47) ok dX11_sentence_47 rfl ?_
    refine r_getR (pc := 48) ok cls11 sh_0 (k := 2) rfl (Nat.le_of_ble_eq_true rfl) rfl dX11_sentence_48 fl_KL_23 ?_
    refine r_getR (pc := 51) ok cls9 sh_28 (k := 2) rfl (Nat.le_of_ble_eq_true rfl) rfl dX11_sentence_51 fl_KL_121 ?_
    refine k_V (pc := 54)  (fun r5 => mx ((va_up r4 23 r5)) YY) (fun r5 hr_ => c_V (n := 1) ok cls7 sh_23 rfl ml_KL_309 wv_X7_copyFrom yk_X7_copyFrom rfl (Nat.le_of_ble_eq_true rfl) (Nat.le_of_ble_eq_true rfl) (met_cast (by rw [up_eta]) rfl (tSy_copyFrom (sy_c (o := 23) (by decide)) (sy_c (o := 47) (by decide)) (by decide) (rfl) hr_)) rfl (Nat.le_of_ble_eq_true rfl) dX11_sentence_54) (fun r5 => ?_)
    refine r_bndX (wf := (fun x_ => mx x_ YY)) (fun X6 => ?_)
    refine r_aload_n (pc := 57) ok dX11_sentence_57 rfl ?_
    refine r_getR (pc := 58) ok cls11 sh_0 (k := 1) rfl (Nat.le_of_ble_eq_true rfl) rfl dX11_sentence_58 fl_KL_19 ?_
    refine r_getR (pc := 61) ok cls9 sh_4 (k := 2) rfl (Nat.le_of_ble_eq_true rfl) rfl dX11_sentence_61 fl_KL_121 ?_
    refine r_getI (pc := 64) ok cls7 sh_23 (k := 0) rfl (Nat.le_of_ble_eq_true rfl) (mx_l (Nat.le_of_ble_eq_true rfl) rfl) dX11_sentence_64 fl_KL_312 ?_
    exact r_iret (pc := 67) ok dX11_sentence_67 rfl
theorem tKL_sentence {l : Launch} {G : Gx} {b : Nat} {YY : Nat → Obj} {X : Nat → Obj} {r : Int32 × (Nat → Obj)} (hr : fKL_sentence X = some r) : MetG l G b yX11_sentence cX11_sentence 2 (some .int) 54 [.ref (b + 0)] (mx X YY) (qI G b r.1 (mx r.2 YY)) := by
  refine met_start [some (.ref (b + 0)), none] (by decide +kernel) (Nat.le_of_ble_eq_true rfl) rfl (fun Z hl ok => ?_)
  clear hl
  exact vKL_sentence ok r (by rw [hr]; rfl)
theorem vSy_pop {Z : Cx} {G : Gx} {b : Nat} {XX YY : Nat → Obj} {sy : Obj} (ok : OK Z G b cX7_pop 1 0 RX7 (some .int)) : VO Z G b 1 (fun (r : Int32 × Obj) => QX Z b (qI G b r.1 (mx (va_up XX 23 r.2) YY))) (mx (va_up XX 23 sy) YY) 0 [some (.ref (b + 23))] [] ((fSy_pop sy).bind some) := by
  unfold fSy_pop
  refine r_aload_n (pc := 0) ok dX7_pop_0 rfl ?_
  refine r_getI (pc := 1) ok cls7 sh_23 (k := 6) rfl (Nat.le_of_ble_eq_true rfl) (mx_l (Nat.le_of_ble_eq_true rfl) (va_up_self _ _ _)) dX7_pop_1 fl_Sy_112 ?_
  refine r_iconst (pc := 4) ok (1 : Int32) dX7_pop_4 ci_1 ?_
  refine r_icmp_lt (pc := 5) ok 17 dX7_pop_5 rfl (fun _ => ?_) (fun _ => ?_)
  · refine r_iconst (pc := 17) ok (0 : Int32) dX7_pop_17 ci_0 ?_
    exact r_iret (pc := 18) ok dX7_pop_18 rfl
  · refine r_aload_n (pc := 8) ok dX7_pop_8 rfl ?_
    refine r_getI (pc := 9) ok cls7 sh_23 (k := 6) rfl (Nat.le_of_ble_eq_true rfl) (mx_l (Nat.le_of_ble_eq_true rfl) (va_up_self _ _ _)) dX7_pop_9 fl_Sy_112 ?_
    refine r_bipush (pc := 12) ok (40 : Int32) dX7_pop_12 cb_40 ?_
    refine r_icmp_le (pc := 14) ok 19 dX7_pop_14 rfl (fun _ => ?_) (fun _ => ?_)
    · refine r_aload_n (pc := 19) ok dX7_pop_19 rfl ?_
      refine r_dup (pc := 20) ok dX7_pop_20 rfl ?_
      refine r_getI (pc := 21) ok cls7 sh_23 (k := 6) rfl (Nat.le_of_ble_eq_true rfl) (mx_l (Nat.le_of_ble_eq_true rfl) (va_up_self _ _ _)) dX7_pop_21 fl_Sy_112 ?_
      refine r_iconst (pc := 24) ok (1 : Int32) dX7_pop_24 ci_1 ?_
      refine r_isub (pc := 25) ok dX7_pop_25 ?_
      refine r_putI (pc := 26) ok cls7 sh_23 (k := 6) rfl (Nat.le_of_ble_eq_true rfl) (fun s_ => mx (va_up XX 23 s_) YY) (pm_l (Nat.le_of_ble_eq_true rfl) (pm_0 _ _)).1 (pm_l (Nat.le_of_ble_eq_true rfl) (pm_0 _ _)).2 rfl rfl rfl dX7_pop_26 fl_Sy_112 (fun s1 => ?_)
      refine r_aload_n (pc := 29) ok dX7_pop_29 rfl ?_
      refine r_getR (pc := 30) ok cls7 sh_23 (k := 5) rfl (Nat.le_of_ble_eq_true rfl) rfl dX7_pop_30 fl_Sy_21 ?_
      refine r_aload_n (pc := 33) ok dX7_pop_33 rfl ?_
      refine r_getI (pc := 34) ok cls7 sh_23 (k := 6) rfl (Nat.le_of_ble_eq_true rfl) (mx_l (Nat.le_of_ble_eq_true rfl) (va_up_self _ _ _)) dX7_pop_34 fl_Sy_112 ?_
      refine r_iald (pc := 37) ok sh_27 (j := 4) rfl (mx_l (Nat.le_of_ble_eq_true rfl) (va_up_self _ _ _)) dX7_pop_37 (fun i2 => ?_)
      exact r_iret (pc := 38) ok dX7_pop_38 rfl
    · refine r_iconst (pc := 17) ok (0 : Int32) dX7_pop_17 ci_0 ?_
      exact r_iret (pc := 18) ok dX7_pop_18 rfl
theorem tSy_pop {l : Launch} {G : Gx} {b : Nat} {XX YY : Nat → Obj} {sy : Obj} {r : Int32 × Obj} (hr : fSy_pop sy = some r) : MetG l G b yX7_pop cX7_pop 1 (some .int) 0 [.ref (b + 23)] (mx (va_up XX 23 sy) YY) (qI G b r.1 (mx (va_up XX 23 r.2) YY)) := by
  refine met_start [some (.ref (b + 23))] (by decide +kernel) (Nat.le_of_ble_eq_true rfl) rfl (fun Z hl ok => ?_)
  clear hl
  exact vSy_pop ok r (by rw [hr]; rfl)
theorem vSy_push {Z : Cx} {G : Gx} {b : Nat} {XX YY : Nat → Obj} {sy : Obj} {v1 : Int32} (ok : OK Z G b cX7_push 2 0 RX7 none) : VO Z G b 2 (fun (r : Obj) => QX Z b (qV G b (mx (va_up XX 23 r) YY))) (mx (va_up XX 23 sy) YY) 0 [some (.ref (b + 23)), some (.int v1)] [] ((fSy_push sy v1).bind some) := by
  unfold fSy_push
  refine r_aload_n (pc := 0) ok dX7_push_0 rfl ?_
  refine r_getI (pc := 1) ok cls7 sh_23 (k := 6) rfl (Nat.le_of_ble_eq_true rfl) (mx_l (Nat.le_of_ble_eq_true rfl) (va_up_self _ _ _)) dX7_push_1 fl_Sy_112 ?_
  refine r_if_lt (pc := 4) ok 36 dX7_push_4 rfl (fun _ => ?_) (fun _ => ?_)
  · exact r_vret (pc := 36) ok dX7_push_36 rfl
  · refine r_aload_n (pc := 7) ok dX7_push_7 rfl ?_
    refine r_getI (pc := 8) ok cls7 sh_23 (k := 6) rfl (Nat.le_of_ble_eq_true rfl) (mx_l (Nat.le_of_ble_eq_true rfl) (va_up_self _ _ _)) dX7_push_8 fl_Sy_112 ?_
    refine r_bipush (pc := 11) ok (40 : Int32) dX7_push_11 cb_40 ?_
    refine r_icmp_ge (pc := 13) ok 36 dX7_push_13 rfl (fun _ => ?_) (fun _ => ?_)
    · exact r_vret (pc := 36) ok dX7_push_36 rfl
    · refine r_aload_n (pc := 16) ok dX7_push_16 rfl ?_
      refine r_getR (pc := 17) ok cls7 sh_23 (k := 5) rfl (Nat.le_of_ble_eq_true rfl) rfl dX7_push_17 fl_Sy_21 ?_
      refine r_aload_n (pc := 20) ok dX7_push_20 rfl ?_
      refine r_getI (pc := 21) ok cls7 sh_23 (k := 6) rfl (Nat.le_of_ble_eq_true rfl) (mx_l (Nat.le_of_ble_eq_true rfl) (va_up_self _ _ _)) dX7_push_21 fl_Sy_112 ?_
      refine r_iload_n (pc := 24) ok dX7_push_24 rfl ?_
      refine r_iast (pc := 25) ok sh_27 (j := 4) rfl rfl (fun s_ => mx (va_up XX 23 s_) YY) (pm_l (Nat.le_of_ble_eq_true rfl) (pm_0 _ _)).1 (pm_l (Nat.le_of_ble_eq_true rfl) (pm_0 _ _)).2 dX7_push_25 (fun i1 s2 => ?_)
      refine r_aload_n (pc := 26) ok dX7_push_26 rfl ?_
      refine r_dup (pc := 27) ok dX7_push_27 rfl ?_
      refine r_getI (pc := 28) ok cls7 sh_23 (k := 6) rfl (Nat.le_of_ble_eq_true rfl) (mx_l (Nat.le_of_ble_eq_true rfl) (va_up_self _ _ _)) dX7_push_28 fl_Sy_112 ?_
      refine r_iconst (pc := 31) ok (1 : Int32) dX7_push_31 ci_1 ?_
      refine r_iadd (pc := 32) ok dX7_push_32 ?_
      refine r_putI (pc := 33) ok cls7 sh_23 (k := 6) rfl (Nat.le_of_ble_eq_true rfl) (fun s_ => mx (va_up XX 23 s_) YY) (pm_l (Nat.le_of_ble_eq_true rfl) (pm_0 _ _)).1 (pm_l (Nat.le_of_ble_eq_true rfl) (pm_0 _ _)).2 rfl rfl rfl dX7_push_33 fl_Sy_112 (fun s3 => ?_)
      exact r_vret (pc := 36) ok dX7_push_36 rfl
theorem tSy_push {l : Launch} {G : Gx} {b : Nat} {XX YY : Nat → Obj} {sy : Obj} {v1 : Int32} {r : Obj} (hr : fSy_push sy v1 = some r) : MetG l G b yX7_push cX7_push 2 none 0 [.ref (b + 23), .int v1] (mx (va_up XX 23 sy) YY) (qV G b (mx (va_up XX 23 r) YY)) := by
  refine met_start [some (.ref (b + 23)), some (.int v1)] (by decide +kernel) (Nat.le_of_ble_eq_true rfl) rfl (fun Z hl ok => ?_)
  clear hl
  exact vSy_push ok r (by rw [hr]; rfl)
theorem vSy_compares {Z : Cx} {G : Gx} {b : Nat} {XX YY : Nat → Obj} {v0 : Int32} {v1 : Int32} {v2 : Int32} (ok : OK Z G b cX7_compares 3 0 RX7 (some .boolean)) : VO Z G b 3 (fun (r : Int32) => QX Z b (qI G b r (mx XX YY))) (mx XX YY) 0 [some (.int v0), some (.int v1), some (.int v2)] [] ((fSy_compares v0 v1 v2).bind some) := by
  unfold fSy_compares
  refine r_iload_n (pc := 0) ok dX7_compares_0 rfl ?_
  refine r_bipush (pc := 1) ok (60 : Int32) dX7_compares_1 cb_60 ?_
  refine r_icmp_ne (pc := 3) ok 17 dX7_compares_3 rfl (fun _ => ?_) (fun _ => ?_)
  · refine r_iload_n (pc := 6) ok dX7_compares_6 rfl ?_
    refine r_iload_n (pc := 7) ok dX7_compares_7 rfl ?_
    refine r_icmp_ge (pc := 8) ok 15 dX7_compares_8 rfl (fun _ => ?_) (fun _ => ?_)
    · refine r_iconst (pc := 15) ok (0 : Int32) dX7_compares_15 ci_0 ?_
      exact r_zret (pc := 16) ok dX7_compares_16 za_0 rfl
    · refine r_iconst (pc := 11) ok (1 : Int32) dX7_compares_11 ci_1 ?_
      refine r_goto (pc := 12) ok 16 dX7_compares_12 rfl ?_
      exact r_zret (pc := 16) ok dX7_compares_16 za_1 rfl
  · refine r_iload_n (pc := 17) ok dX7_compares_17 rfl ?_
    refine r_bipush (pc := 18) ok (61 : Int32) dX7_compares_18 cb_61 ?_
    refine r_icmp_ne (pc := 20) ok 36 dX7_compares_20 rfl (fun _ => ?_) (fun _ => ?_)
    · refine r_iload_n (pc := 23) ok dX7_compares_23 rfl ?_
      refine r_iload_n (pc := 24) ok dX7_compares_24 rfl ?_
      refine r_icmp_ne (pc := 25) ok 32 dX7_compares_25 rfl (fun _ => ?_) (fun _ => ?_)
      · refine r_iconst (pc := 28) ok (1 : Int32) dX7_compares_28 ci_1 ?_
        refine r_goto (pc := 29) ok 46 dX7_compares_29 rfl ?_
        exact r_zret (pc := 46) ok dX7_compares_46 za_1 rfl
      · refine r_iconst (pc := 32) ok (0 : Int32) dX7_compares_32 ci_0 ?_
        refine r_goto (pc := 33) ok 46 dX7_compares_33 rfl ?_
        exact r_zret (pc := 46) ok dX7_compares_46 za_0 rfl
    · refine r_iload_n (pc := 36) ok dX7_compares_36 rfl ?_
      refine r_iload_n (pc := 37) ok dX7_compares_37 rfl ?_
      refine r_icmp_le (pc := 38) ok 45 dX7_compares_38 rfl (fun _ => ?_) (fun _ => ?_)
      · refine r_iconst (pc := 45) ok (0 : Int32) dX7_compares_45 ci_0 ?_
        exact r_zret (pc := 46) ok dX7_compares_46 za_0 rfl
      · refine r_iconst (pc := 41) ok (1 : Int32) dX7_compares_41 ci_1 ?_
        refine r_goto (pc := 42) ok 46 dX7_compares_42 rfl ?_
        exact r_zret (pc := 46) ok dX7_compares_46 za_1 rfl
theorem tSy_compares {l : Launch} {G : Gx} {b : Nat} {XX YY : Nat → Obj} {v0 : Int32} {v1 : Int32} {v2 : Int32} {r : Int32} (hr : fSy_compares v0 v1 v2 = some r) : MetG l G b yX7_compares cX7_compares 3 (some .boolean) 0 [.int v0, .int v1, .int v2] (mx XX YY) (qI G b r (mx XX YY)) := by
  refine met_start [some (.int v0), some (.int v1), some (.int v2)] (by decide +kernel) (Nat.le_of_ble_eq_true rfl) rfl (fun Z hl ok => ?_)
  clear hl
  exact vSy_compares ok r (by rw [hr]; rfl)
theorem vSy_isTrueOf {Z : Cx} {G : Gx} {b : Nat} {XX YY : Nat → Obj} {q : Obj} {sc : Obj} {v1 : Int32} {v2 : Int32} {v3 : Int32} {v4 : Int32} (ok : OK Z G b cX7_isTrueOf 5 3 RX7 (some .boolean)) (hr_q : XX 5 = q) (hr_sc : XX 12 = sc) : VO Z G b 5 (fun (r : Int32) => QX Z b (qI G b r (mx XX YY))) (mx XX YY) 0 [some (.ref (b + 12)), some (.int v1), some (.int v2), some (.int v3), some (.int v4)] [] ((fSy_isTrueOf q sc v1 v2 v3 v4).bind some) := by
  unfold fSy_isTrueOf
  refine r_iload_n (pc := 0) ok dX7_isTrueOf_0 rfl ?_
  refine r_ite (fun hs0 => ?_) (fun hs0 => ?_)
  · refine r_tsw (pc := 1) ok 139 (4 : Int32) dX7_isTrueOf_1 hs0 (by decide +kernel) (by decide +kernel) rfl rfl ?_
    refine r_aload_n (pc := 139) ok dX7_isTrueOf_139 rfl ?_
    refine r_iload_n (pc := 140) ok dX7_isTrueOf_140 rfl ?_
    refine r_iload_n (pc := 141) ok dX7_isTrueOf_141 rfl ?_
    refine k_I (pc := 142) (fun r1 => r1) (fun r1 => mx XX YY) (fun r1 hr_ => c_V (n := 2) ok cls8 sh_12 rfl ml_Sy_152 wv_X8_doesKnow yk_X8_doesKnow rfl (Nat.le_of_ble_eq_true rfl) (Nat.le_of_ble_eq_true rfl) (tSc_doesKnow (sc_c (o := 12) (by decide)) (hr_q) (hr_sc) hr_) rfl (Nat.le_of_ble_eq_true rfl) dX7_isTrueOf_142) (fun r1 => ?_)
    exact r_zret (pc := 145) ok dX7_isTrueOf_145 rfl rfl
  refine r_ite (fun hs1 => ?_) (fun hs1 => ?_)
  · refine r_tsw (pc := 1) ok 130 (12 : Int32) dX7_isTrueOf_1 hs1 (by decide +kernel) (by decide +kernel) rfl rfl ?_
    refine r_aload_n (pc := 130) ok dX7_isTrueOf_130 rfl ?_
    refine r_getR (pc := 131) ok cls8 sh_12 (k := 0) rfl (Nat.le_of_ble_eq_true rfl) rfl dX7_isTrueOf_131 fl_Sy_125 ?_
    refine r_iload_n (pc := 134) ok dX7_isTrueOf_134 rfl ?_
    refine k_I (pc := 135) (fun r2 => r2) (fun r2 => mx XX YY) (fun r2 hr_ => c_V (n := 1) ok cls5 sh_5 rfl ml_Sy_149 wv_X5_isStern yk_X5_isStern rfl (Nat.le_of_ble_eq_true rfl) (Nat.le_of_ble_eq_true rfl) (tQu_isStern (qu_c (o := 5) (by decide)) (hr_q) hr_) rfl (Nat.le_of_ble_eq_true rfl) dX7_isTrueOf_135) (fun r2 => ?_)
    exact r_zret (pc := 138) ok dX7_isTrueOf_138 rfl rfl
  refine r_ite (fun hs2 => ?_) (fun hs2 => ?_)
  · refine r_tsw (pc := 1) ok 112 (21 : Int32) dX7_isTrueOf_1 hs2 (by decide +kernel) (by decide +kernel) rfl rfl ?_
    refine r_aload_n (pc := 112) ok dX7_isTrueOf_112 rfl ?_
    refine r_iload_n (pc := 113) ok dX7_isTrueOf_113 rfl ?_
    refine k_I (pc := 114) (fun r3 => r3) (fun r3 => mx XX YY) (fun r3 hr_ => c_V (n := 1) ok cls8 sh_12 rfl ml_Sy_140 wv_X8_isInLane yk_X8_isInLane rfl (Nat.le_of_ble_eq_true rfl) (Nat.le_of_ble_eq_true rfl) (tSc_isInLane (sc_c (o := 12) (by decide)) (hr_q) (hr_sc) hr_) rfl (Nat.le_of_ble_eq_true rfl) dX7_isTrueOf_114) (fun r3 => ?_)
    exact r_zret (pc := 117) ok dX7_isTrueOf_117 rfl rfl
  refine r_ite (fun hs3 => ?_) (fun hs3 => ?_)
  · refine r_tsw (pc := 1) ok 118 (22 : Int32) dX7_isTrueOf_1 hs3 (by decide +kernel) (by decide +kernel) rfl rfl ?_
    refine r_aload_n (pc := 118) ok dX7_isTrueOf_118 rfl ?_
    refine r_iload_n (pc := 119) ok dX7_isTrueOf_119 rfl ?_
    refine k_I (pc := 120) (fun r4 => r4) (fun r4 => mx XX YY) (fun r4 hr_ => c_V (n := 1) ok cls8 sh_12 rfl ml_Sy_143 wv_X8_isKnocking yk_X8_isKnocking rfl (Nat.le_of_ble_eq_true rfl) (Nat.le_of_ble_eq_true rfl) (tSc_isKnocking (sc_c (o := 12) (by decide)) (hr_q) (hr_sc) hr_) rfl (Nat.le_of_ble_eq_true rfl) dX7_isTrueOf_120) (fun r4 => ?_)
    exact r_zret (pc := 123) ok dX7_isTrueOf_123 rfl rfl
  refine r_ite (fun hs4 => ?_) (fun hs4 => ?_)
  · refine r_tsw (pc := 1) ok 124 (23 : Int32) dX7_isTrueOf_1 hs4 (by decide +kernel) (by decide +kernel) rfl rfl ?_
    refine r_aload_n (pc := 124) ok dX7_isTrueOf_124 rfl ?_
    refine r_iload_n (pc := 125) ok dX7_isTrueOf_125 rfl ?_
    refine k_I (pc := 126) (fun r5 => r5) (fun r5 => mx XX YY) (fun r5 hr_ => c_V (n := 1) ok cls8 sh_12 rfl ml_Sy_146 wv_X8_isInside yk_X8_isInside rfl (Nat.le_of_ble_eq_true rfl) (Nat.le_of_ble_eq_true rfl) (tSc_isInside (sc_c (o := 12) (by decide)) (hr_q) (hr_sc) hr_) rfl (Nat.le_of_ble_eq_true rfl) dX7_isTrueOf_126) (fun r5 => ?_)
    exact r_zret (pc := 129) ok dX7_isTrueOf_129 rfl rfl
  refine r_ite (fun hs5 => ?_) (fun hs5 => ?_)
  · refine r_tsw (pc := 1) ok 146 (24 : Int32) dX7_isTrueOf_1 hs5 (by decide +kernel) (by decide +kernel) rfl rfl ?_
    refine r_aload_n (pc := 146) ok dX7_isTrueOf_146 rfl ?_
    refine r_getR (pc := 147) ok cls8 sh_12 (k := 0) rfl (Nat.le_of_ble_eq_true rfl) rfl dX7_isTrueOf_147 fl_Sy_125 ?_
    refine r_iload_n (pc := 150) ok dX7_isTrueOf_150 rfl ?_
    refine k_I (pc := 151) (fun r6 => r6) (fun r6 => mx XX YY) (fun r6 hr_ => c_V (n := 1) ok cls5 sh_5 rfl ml_Sy_156 wv_X5_homeOf yk_X5_homeOf rfl (Nat.le_of_ble_eq_true rfl) (Nat.le_of_ble_eq_true rfl) (tQu_homeOf (qu_c (o := 5) (by decide)) (hr_q) hr_) rfl (Nat.le_of_ble_eq_true rfl) dX7_isTrueOf_151) (fun r6 => ?_)
    refine r_iload_n (pc := 154) ok dX7_isTrueOf_154 rfl ?_
    refine r_icmp_ne (pc := 155) ok 162 dX7_isTrueOf_155 rfl (fun _ => ?_) (fun _ => ?_)
    · refine r_iconst (pc := 158) ok (1 : Int32) dX7_isTrueOf_158 ci_1 ?_
      refine r_goto (pc := 159) ok 163 dX7_isTrueOf_159 rfl ?_
      exact r_zret (pc := 163) ok dX7_isTrueOf_163 za_1 rfl
    · refine r_iconst (pc := 162) ok (0 : Int32) dX7_isTrueOf_162 ci_0 ?_
      exact r_zret (pc := 163) ok dX7_isTrueOf_163 za_0 rfl
  refine r_ite (fun hs6 => ?_) (fun hs6 => ?_)
  · refine r_tsw (pc := 1) ok 164 (25 : Int32) dX7_isTrueOf_1 hs6 (by decide +kernel) (by decide +kernel) rfl rfl ?_
    refine r_aload_n (pc := 164) ok dX7_isTrueOf_164 rfl ?_
    refine r_iload_n (pc := 165) ok dX7_isTrueOf_165 rfl ?_
    refine r_iconst (pc := 166) ok (1 : Int32) dX7_isTrueOf_166 ci_1 ?_
    refine k_I (pc := 167) (fun r7 => r7) (fun r7 => mx XX YY) (fun r7 hr_ => c_V (n := 2) ok cls8 sh_12 rfl ml_Sy_159 wv_X8_detail yk_X8_detail rfl (Nat.le_of_ble_eq_true rfl) (Nat.le_of_ble_eq_true rfl) (tSc_detail (sc_c (o := 12) (by decide)) (hr_q) (hr_sc) hr_) rfl (Nat.le_of_ble_eq_true rfl) dX7_isTrueOf_167) (fun r7 => ?_)
    refine r_iload_n (pc := 170) ok dX7_isTrueOf_170 rfl ?_
    refine r_iload (pc := 171) ok dX7_isTrueOf_171 rfl ?_
    refine k_I (pc := 173) (fun r8 => r8) (fun r8 => mx XX YY) (fun r8 hr_ => c_S (n := 3) ok ml_Sy_162 ws_X7_compares yk_X7_compares rfl (Nat.le_of_ble_eq_true rfl) (Nat.le_of_ble_eq_true rfl) (tSy_compares hr_) rfl (Nat.le_of_ble_eq_true rfl) dX7_isTrueOf_173) (fun r8 => ?_)
    exact r_zret (pc := 176) ok dX7_isTrueOf_176 rfl rfl
  refine r_ite (fun hs7 => ?_) (fun hs7 => ?_)
  · refine r_tsw (pc := 1) ok 177 (26 : Int32) dX7_isTrueOf_1 hs7 (by decide +kernel) (by decide +kernel) rfl rfl ?_
    refine r_aload_n (pc := 177) ok dX7_isTrueOf_177 rfl ?_
    refine r_iload_n (pc := 178) ok dX7_isTrueOf_178 rfl ?_
    refine k_I (pc := 179) (fun r9 => r9) (fun r9 => mx XX YY) (fun r9 hr_ => c_V (n := 1) ok cls8 sh_12 rfl ml_Sy_166 wv_X8_knownTo yk_X8_knownTo rfl (Nat.le_of_ble_eq_true rfl) (Nat.le_of_ble_eq_true rfl) (tSc_knownTo (sc_c (o := 12) (by decide)) (hr_q) (hr_sc) hr_) rfl (Nat.le_of_ble_eq_true rfl) dX7_isTrueOf_179) (fun r9 => ?_)
    refine k_I (pc := 182) (fun r10 => r10) (fun r10 => mx XX YY) (fun r10 hr_ => c_S (n := 1) ok ml_Sy_169 ws_J6_bitCount_0f7a4 yk_J6_bitCount_0f7a4 rfl (Nat.le_of_ble_eq_true rfl) (Nat.le_of_ble_eq_true rfl) (tJI_bitCount hr_) rfl (Nat.le_of_ble_eq_true rfl) dX7_isTrueOf_182) (fun r10 => ?_)
    refine r_iload_n (pc := 185) ok dX7_isTrueOf_185 rfl ?_
    refine r_iload (pc := 186) ok dX7_isTrueOf_186 rfl ?_
    refine k_I (pc := 188) (fun r11 => r11) (fun r11 => mx XX YY) (fun r11 hr_ => c_S (n := 3) ok ml_Sy_162 ws_X7_compares yk_X7_compares rfl (Nat.le_of_ble_eq_true rfl) (Nat.le_of_ble_eq_true rfl) (tSy_compares hr_) rfl (Nat.le_of_ble_eq_true rfl) dX7_isTrueOf_188) (fun r11 => ?_)
    exact r_zret (pc := 191) ok dX7_isTrueOf_191 rfl rfl
  refine r_ite (fun hs8 => ?_) (fun hs8 => ?_)
  · refine r_tsw (pc := 1) ok 192 (27 : Int32) dX7_isTrueOf_1 hs8 (by decide +kernel) (by decide +kernel) rfl rfl ?_
    refine r_aload_n (pc := 192) ok dX7_isTrueOf_192 rfl ?_
    refine r_iload_n (pc := 193) ok dX7_isTrueOf_193 rfl ?_
    refine r_bipush (pc := 194) ok (7 : Int32) dX7_isTrueOf_194 cb_7 ?_
    refine k_I (pc := 196) (fun r12 => r12) (fun r12 => mx XX YY) (fun r12 hr_ => c_V (n := 2) ok cls8 sh_12 rfl ml_Sy_159 wv_X8_detail yk_X8_detail rfl (Nat.le_of_ble_eq_true rfl) (Nat.le_of_ble_eq_true rfl) (tSc_detail (sc_c (o := 12) (by decide)) (hr_q) (hr_sc) hr_) rfl (Nat.le_of_ble_eq_true rfl) dX7_isTrueOf_196) (fun r12 => ?_)
    refine r_iload_n (pc := 199) ok dX7_isTrueOf_199 rfl ?_
    refine r_iload (pc := 200) ok dX7_isTrueOf_200 rfl ?_
    refine k_I (pc := 202) (fun r13 => r13) (fun r13 => mx XX YY) (fun r13 hr_ => c_S (n := 3) ok ml_Sy_162 ws_X7_compares yk_X7_compares rfl (Nat.le_of_ble_eq_true rfl) (Nat.le_of_ble_eq_true rfl) (tSy_compares hr_) rfl (Nat.le_of_ble_eq_true rfl) dX7_isTrueOf_202) (fun r13 => ?_)
    exact r_zret (pc := 205) ok dX7_isTrueOf_205 rfl rfl
  refine tsw_cases (lo := 4) (hi := 27) (x := v2) (fun hx => ?_) (fun k hk hx => ?_)
  · refine r_tswd (pc := 1) ok 206 dX7_isTrueOf_1 hx rfl ?_
    refine r_iload_n (pc := 206) ok dX7_isTrueOf_206 rfl ?_
    refine r_iload_n (pc := 207) ok dX7_isTrueOf_207 rfl ?_
    refine r_iload (pc := 208) ok dX7_isTrueOf_208 rfl ?_
    refine k_I (pc := 210) (fun r14 => r14) (fun r14 => mx XX YY) (fun r14 hr_ => c_S (n := 3) ok ml_Sy_162 ws_X7_compares yk_X7_compares rfl (Nat.le_of_ble_eq_true rfl) (Nat.le_of_ble_eq_true rfl) (tSy_compares hr_) rfl (Nat.le_of_ble_eq_true rfl) dX7_isTrueOf_210) (fun r14 => ?_)
    exact r_zret (pc := 213) ok dX7_isTrueOf_213 rfl rfl
  · have h8 : v2 = (4 : Int32) ∨ v2 = (5 : Int32) ∨ v2 = (6 : Int32) ∨ v2 = (7 : Int32) ∨ v2 = (8 : Int32) ∨ v2 = (9 : Int32) ∨ v2 = (10 : Int32) ∨ v2 = (11 : Int32) ∨ v2 = (12 : Int32) ∨ v2 = (13 : Int32) ∨ v2 = (14 : Int32) ∨ v2 = (15 : Int32) ∨ v2 = (16 : Int32) ∨ v2 = (17 : Int32) ∨ v2 = (18 : Int32) ∨ v2 = (19 : Int32) ∨ v2 = (20 : Int32) ∨ v2 = (21 : Int32) ∨ v2 = (22 : Int32) ∨ v2 = (23 : Int32) ∨ v2 = (24 : Int32) ∨ v2 = (25 : Int32) ∨ v2 = (26 : Int32) ∨ v2 = (27 : Int32) := tsw_enum_4_27 hk hx
    rcases h8 with h9 | h9 | h9 | h9 | h9 | h9 | h9 | h9 | h9 | h9 | h9 | h9 | h9 | h9 | h9 | h9 | h9 | h9 | h9 | h9 | h9 | h9 | h9 | h9
    · exact absurd h9 hs0
    · refine r_tsw (pc := 1) ok 206 (5 : Int32) dX7_isTrueOf_1 h9 (by decide +kernel) (by decide +kernel) rfl rfl ?_
      refine r_iload_n (pc := 206) ok dX7_isTrueOf_206 rfl ?_
      refine r_iload_n (pc := 207) ok dX7_isTrueOf_207 rfl ?_
      refine r_iload (pc := 208) ok dX7_isTrueOf_208 rfl ?_
      refine k_I (pc := 210) (fun r14 => r14) (fun r14 => mx XX YY) (fun r14 hr_ => c_S (n := 3) ok ml_Sy_162 ws_X7_compares yk_X7_compares rfl (Nat.le_of_ble_eq_true rfl) (Nat.le_of_ble_eq_true rfl) (tSy_compares hr_) rfl (Nat.le_of_ble_eq_true rfl) dX7_isTrueOf_210) (fun r14 => ?_)
      exact r_zret (pc := 213) ok dX7_isTrueOf_213 rfl rfl
    · refine r_tsw (pc := 1) ok 206 (6 : Int32) dX7_isTrueOf_1 h9 (by decide +kernel) (by decide +kernel) rfl rfl ?_
      refine r_iload_n (pc := 206) ok dX7_isTrueOf_206 rfl ?_
      refine r_iload_n (pc := 207) ok dX7_isTrueOf_207 rfl ?_
      refine r_iload (pc := 208) ok dX7_isTrueOf_208 rfl ?_
      refine k_I (pc := 210) (fun r14 => r14) (fun r14 => mx XX YY) (fun r14 hr_ => c_S (n := 3) ok ml_Sy_162 ws_X7_compares yk_X7_compares rfl (Nat.le_of_ble_eq_true rfl) (Nat.le_of_ble_eq_true rfl) (tSy_compares hr_) rfl (Nat.le_of_ble_eq_true rfl) dX7_isTrueOf_210) (fun r14 => ?_)
      exact r_zret (pc := 213) ok dX7_isTrueOf_213 rfl rfl
    · refine r_tsw (pc := 1) ok 206 (7 : Int32) dX7_isTrueOf_1 h9 (by decide +kernel) (by decide +kernel) rfl rfl ?_
      refine r_iload_n (pc := 206) ok dX7_isTrueOf_206 rfl ?_
      refine r_iload_n (pc := 207) ok dX7_isTrueOf_207 rfl ?_
      refine r_iload (pc := 208) ok dX7_isTrueOf_208 rfl ?_
      refine k_I (pc := 210) (fun r14 => r14) (fun r14 => mx XX YY) (fun r14 hr_ => c_S (n := 3) ok ml_Sy_162 ws_X7_compares yk_X7_compares rfl (Nat.le_of_ble_eq_true rfl) (Nat.le_of_ble_eq_true rfl) (tSy_compares hr_) rfl (Nat.le_of_ble_eq_true rfl) dX7_isTrueOf_210) (fun r14 => ?_)
      exact r_zret (pc := 213) ok dX7_isTrueOf_213 rfl rfl
    · refine r_tsw (pc := 1) ok 206 (8 : Int32) dX7_isTrueOf_1 h9 (by decide +kernel) (by decide +kernel) rfl rfl ?_
      refine r_iload_n (pc := 206) ok dX7_isTrueOf_206 rfl ?_
      refine r_iload_n (pc := 207) ok dX7_isTrueOf_207 rfl ?_
      refine r_iload (pc := 208) ok dX7_isTrueOf_208 rfl ?_
      refine k_I (pc := 210) (fun r14 => r14) (fun r14 => mx XX YY) (fun r14 hr_ => c_S (n := 3) ok ml_Sy_162 ws_X7_compares yk_X7_compares rfl (Nat.le_of_ble_eq_true rfl) (Nat.le_of_ble_eq_true rfl) (tSy_compares hr_) rfl (Nat.le_of_ble_eq_true rfl) dX7_isTrueOf_210) (fun r14 => ?_)
      exact r_zret (pc := 213) ok dX7_isTrueOf_213 rfl rfl
    · refine r_tsw (pc := 1) ok 206 (9 : Int32) dX7_isTrueOf_1 h9 (by decide +kernel) (by decide +kernel) rfl rfl ?_
      refine r_iload_n (pc := 206) ok dX7_isTrueOf_206 rfl ?_
      refine r_iload_n (pc := 207) ok dX7_isTrueOf_207 rfl ?_
      refine r_iload (pc := 208) ok dX7_isTrueOf_208 rfl ?_
      refine k_I (pc := 210) (fun r14 => r14) (fun r14 => mx XX YY) (fun r14 hr_ => c_S (n := 3) ok ml_Sy_162 ws_X7_compares yk_X7_compares rfl (Nat.le_of_ble_eq_true rfl) (Nat.le_of_ble_eq_true rfl) (tSy_compares hr_) rfl (Nat.le_of_ble_eq_true rfl) dX7_isTrueOf_210) (fun r14 => ?_)
      exact r_zret (pc := 213) ok dX7_isTrueOf_213 rfl rfl
    · refine r_tsw (pc := 1) ok 206 (10 : Int32) dX7_isTrueOf_1 h9 (by decide +kernel) (by decide +kernel) rfl rfl ?_
      refine r_iload_n (pc := 206) ok dX7_isTrueOf_206 rfl ?_
      refine r_iload_n (pc := 207) ok dX7_isTrueOf_207 rfl ?_
      refine r_iload (pc := 208) ok dX7_isTrueOf_208 rfl ?_
      refine k_I (pc := 210) (fun r14 => r14) (fun r14 => mx XX YY) (fun r14 hr_ => c_S (n := 3) ok ml_Sy_162 ws_X7_compares yk_X7_compares rfl (Nat.le_of_ble_eq_true rfl) (Nat.le_of_ble_eq_true rfl) (tSy_compares hr_) rfl (Nat.le_of_ble_eq_true rfl) dX7_isTrueOf_210) (fun r14 => ?_)
      exact r_zret (pc := 213) ok dX7_isTrueOf_213 rfl rfl
    · refine r_tsw (pc := 1) ok 206 (11 : Int32) dX7_isTrueOf_1 h9 (by decide +kernel) (by decide +kernel) rfl rfl ?_
      refine r_iload_n (pc := 206) ok dX7_isTrueOf_206 rfl ?_
      refine r_iload_n (pc := 207) ok dX7_isTrueOf_207 rfl ?_
      refine r_iload (pc := 208) ok dX7_isTrueOf_208 rfl ?_
      refine k_I (pc := 210) (fun r14 => r14) (fun r14 => mx XX YY) (fun r14 hr_ => c_S (n := 3) ok ml_Sy_162 ws_X7_compares yk_X7_compares rfl (Nat.le_of_ble_eq_true rfl) (Nat.le_of_ble_eq_true rfl) (tSy_compares hr_) rfl (Nat.le_of_ble_eq_true rfl) dX7_isTrueOf_210) (fun r14 => ?_)
      exact r_zret (pc := 213) ok dX7_isTrueOf_213 rfl rfl
    · exact absurd h9 hs1
    · refine r_tsw (pc := 1) ok 206 (13 : Int32) dX7_isTrueOf_1 h9 (by decide +kernel) (by decide +kernel) rfl rfl ?_
      refine r_iload_n (pc := 206) ok dX7_isTrueOf_206 rfl ?_
      refine r_iload_n (pc := 207) ok dX7_isTrueOf_207 rfl ?_
      refine r_iload (pc := 208) ok dX7_isTrueOf_208 rfl ?_
      refine k_I (pc := 210) (fun r14 => r14) (fun r14 => mx XX YY) (fun r14 hr_ => c_S (n := 3) ok ml_Sy_162 ws_X7_compares yk_X7_compares rfl (Nat.le_of_ble_eq_true rfl) (Nat.le_of_ble_eq_true rfl) (tSy_compares hr_) rfl (Nat.le_of_ble_eq_true rfl) dX7_isTrueOf_210) (fun r14 => ?_)
      exact r_zret (pc := 213) ok dX7_isTrueOf_213 rfl rfl
    · refine r_tsw (pc := 1) ok 206 (14 : Int32) dX7_isTrueOf_1 h9 (by decide +kernel) (by decide +kernel) rfl rfl ?_
      refine r_iload_n (pc := 206) ok dX7_isTrueOf_206 rfl ?_
      refine r_iload_n (pc := 207) ok dX7_isTrueOf_207 rfl ?_
      refine r_iload (pc := 208) ok dX7_isTrueOf_208 rfl ?_
      refine k_I (pc := 210) (fun r14 => r14) (fun r14 => mx XX YY) (fun r14 hr_ => c_S (n := 3) ok ml_Sy_162 ws_X7_compares yk_X7_compares rfl (Nat.le_of_ble_eq_true rfl) (Nat.le_of_ble_eq_true rfl) (tSy_compares hr_) rfl (Nat.le_of_ble_eq_true rfl) dX7_isTrueOf_210) (fun r14 => ?_)
      exact r_zret (pc := 213) ok dX7_isTrueOf_213 rfl rfl
    · refine r_tsw (pc := 1) ok 206 (15 : Int32) dX7_isTrueOf_1 h9 (by decide +kernel) (by decide +kernel) rfl rfl ?_
      refine r_iload_n (pc := 206) ok dX7_isTrueOf_206 rfl ?_
      refine r_iload_n (pc := 207) ok dX7_isTrueOf_207 rfl ?_
      refine r_iload (pc := 208) ok dX7_isTrueOf_208 rfl ?_
      refine k_I (pc := 210) (fun r14 => r14) (fun r14 => mx XX YY) (fun r14 hr_ => c_S (n := 3) ok ml_Sy_162 ws_X7_compares yk_X7_compares rfl (Nat.le_of_ble_eq_true rfl) (Nat.le_of_ble_eq_true rfl) (tSy_compares hr_) rfl (Nat.le_of_ble_eq_true rfl) dX7_isTrueOf_210) (fun r14 => ?_)
      exact r_zret (pc := 213) ok dX7_isTrueOf_213 rfl rfl
    · refine r_tsw (pc := 1) ok 206 (16 : Int32) dX7_isTrueOf_1 h9 (by decide +kernel) (by decide +kernel) rfl rfl ?_
      refine r_iload_n (pc := 206) ok dX7_isTrueOf_206 rfl ?_
      refine r_iload_n (pc := 207) ok dX7_isTrueOf_207 rfl ?_
      refine r_iload (pc := 208) ok dX7_isTrueOf_208 rfl ?_
      refine k_I (pc := 210) (fun r14 => r14) (fun r14 => mx XX YY) (fun r14 hr_ => c_S (n := 3) ok ml_Sy_162 ws_X7_compares yk_X7_compares rfl (Nat.le_of_ble_eq_true rfl) (Nat.le_of_ble_eq_true rfl) (tSy_compares hr_) rfl (Nat.le_of_ble_eq_true rfl) dX7_isTrueOf_210) (fun r14 => ?_)
      exact r_zret (pc := 213) ok dX7_isTrueOf_213 rfl rfl
    · refine r_tsw (pc := 1) ok 206 (17 : Int32) dX7_isTrueOf_1 h9 (by decide +kernel) (by decide +kernel) rfl rfl ?_
      refine r_iload_n (pc := 206) ok dX7_isTrueOf_206 rfl ?_
      refine r_iload_n (pc := 207) ok dX7_isTrueOf_207 rfl ?_
      refine r_iload (pc := 208) ok dX7_isTrueOf_208 rfl ?_
      refine k_I (pc := 210) (fun r14 => r14) (fun r14 => mx XX YY) (fun r14 hr_ => c_S (n := 3) ok ml_Sy_162 ws_X7_compares yk_X7_compares rfl (Nat.le_of_ble_eq_true rfl) (Nat.le_of_ble_eq_true rfl) (tSy_compares hr_) rfl (Nat.le_of_ble_eq_true rfl) dX7_isTrueOf_210) (fun r14 => ?_)
      exact r_zret (pc := 213) ok dX7_isTrueOf_213 rfl rfl
    · refine r_tsw (pc := 1) ok 206 (18 : Int32) dX7_isTrueOf_1 h9 (by decide +kernel) (by decide +kernel) rfl rfl ?_
      refine r_iload_n (pc := 206) ok dX7_isTrueOf_206 rfl ?_
      refine r_iload_n (pc := 207) ok dX7_isTrueOf_207 rfl ?_
      refine r_iload (pc := 208) ok dX7_isTrueOf_208 rfl ?_
      refine k_I (pc := 210) (fun r14 => r14) (fun r14 => mx XX YY) (fun r14 hr_ => c_S (n := 3) ok ml_Sy_162 ws_X7_compares yk_X7_compares rfl (Nat.le_of_ble_eq_true rfl) (Nat.le_of_ble_eq_true rfl) (tSy_compares hr_) rfl (Nat.le_of_ble_eq_true rfl) dX7_isTrueOf_210) (fun r14 => ?_)
      exact r_zret (pc := 213) ok dX7_isTrueOf_213 rfl rfl
    · refine r_tsw (pc := 1) ok 206 (19 : Int32) dX7_isTrueOf_1 h9 (by decide +kernel) (by decide +kernel) rfl rfl ?_
      refine r_iload_n (pc := 206) ok dX7_isTrueOf_206 rfl ?_
      refine r_iload_n (pc := 207) ok dX7_isTrueOf_207 rfl ?_
      refine r_iload (pc := 208) ok dX7_isTrueOf_208 rfl ?_
      refine k_I (pc := 210) (fun r14 => r14) (fun r14 => mx XX YY) (fun r14 hr_ => c_S (n := 3) ok ml_Sy_162 ws_X7_compares yk_X7_compares rfl (Nat.le_of_ble_eq_true rfl) (Nat.le_of_ble_eq_true rfl) (tSy_compares hr_) rfl (Nat.le_of_ble_eq_true rfl) dX7_isTrueOf_210) (fun r14 => ?_)
      exact r_zret (pc := 213) ok dX7_isTrueOf_213 rfl rfl
    · refine r_tsw (pc := 1) ok 206 (20 : Int32) dX7_isTrueOf_1 h9 (by decide +kernel) (by decide +kernel) rfl rfl ?_
      refine r_iload_n (pc := 206) ok dX7_isTrueOf_206 rfl ?_
      refine r_iload_n (pc := 207) ok dX7_isTrueOf_207 rfl ?_
      refine r_iload (pc := 208) ok dX7_isTrueOf_208 rfl ?_
      refine k_I (pc := 210) (fun r14 => r14) (fun r14 => mx XX YY) (fun r14 hr_ => c_S (n := 3) ok ml_Sy_162 ws_X7_compares yk_X7_compares rfl (Nat.le_of_ble_eq_true rfl) (Nat.le_of_ble_eq_true rfl) (tSy_compares hr_) rfl (Nat.le_of_ble_eq_true rfl) dX7_isTrueOf_210) (fun r14 => ?_)
      exact r_zret (pc := 213) ok dX7_isTrueOf_213 rfl rfl
    · exact absurd h9 hs2
    · exact absurd h9 hs3
    · exact absurd h9 hs4
    · exact absurd h9 hs5
    · exact absurd h9 hs6
    · exact absurd h9 hs7
    · exact absurd h9 hs8
theorem tSy_isTrueOf {l : Launch} {G : Gx} {b : Nat} {XX YY : Nat → Obj} {q : Obj} {sc : Obj} {v1 : Int32} {v2 : Int32} {v3 : Int32} {v4 : Int32} (hr_q : XX 5 = q) (hr_sc : XX 12 = sc) {r : Int32} (hr : fSy_isTrueOf q sc v1 v2 v3 v4 = some r) : MetG l G b yX7_isTrueOf cX7_isTrueOf 5 (some .boolean) 3 [.ref (b + 12), .int v1, .int v2, .int v3, .int v4] (mx XX YY) (qI G b r (mx XX YY)) := by
  refine met_start [some (.ref (b + 12)), some (.int v1), some (.int v2), some (.int v3), some (.int v4)] (by decide +kernel) (Nat.le_of_ble_eq_true rfl) rfl (fun Z hl ok => ?_)
  clear hl
  exact vSy_isTrueOf ok hr_q hr_sc r (by rw [hr]; rfl)
theorem wSy_personsOf_L6 {Z : Cx} {G : Gx} {b : Nat} {XX YY : Nat → Obj} {q : Obj} {sc : Obj} {v1 : Int32} {v2 : Int32} {v3 : Int32} (ok : OK Z G b cX7_personsOf 6 4 RX7 (some .int)) (hr_q : XX 5 = q) (hr_sc : XX 12 = sc) {K : ((Int32 × Int32) ⊕ (Int32)) → Option (Int32)} (hc : ∀ (a : Int32 × Int32), VO Z G b 6 (fun (r : Int32) => QX Z b (qI G b r (mx XX YY))) (mx XX YY) 6 [some (.ref (b + 12)), some (.int v1), some (.int v2), some (.int v3), some (.int a.1), some (.int a.2)] [] (K (.inl a))) (hx : ∀ (e : Int32), VO Z G b 6 (fun (r : Int32) => QX Z b (qI G b r (mx XX YY))) (mx XX YY) 45 [none, none, none, none, some (.int e), none] [] (K (.inr e))) : ∀ (a : Int32 × Int32), VO Z G b 6 (fun (r : Int32) => QX Z b (qI G b r (mx XX YY))) (mx XX YY) 6 [some (.ref (b + 12)), some (.int v1), some (.int v2), some (.int v3), some (.int a.1), some (.int a.2)] [] ((fSy_personsOf_L6 q sc v1 v2 v3 a).bind K) := by
  intro a
  unfold fSy_personsOf_L6
  refine r_iload (pc := 6) ok dX7_personsOf_6 rfl ?_
  refine r_aload_n (pc := 8) ok dX7_personsOf_8 rfl ?_
  refine r_getR (pc := 9) ok cls8 sh_12 (k := 0) rfl (Nat.le_of_ble_eq_true rfl) rfl dX7_personsOf_9 fl_Sy_125 ?_
  refine r_getI (pc := 12) ok cls5 sh_5 (k := 4) rfl (Nat.le_of_ble_eq_true rfl) (mx_l (Nat.le_of_ble_eq_true rfl) (hr_q)) dX7_personsOf_12 fl_Sy_131 ?_
  refine r_icmp_ge (pc := 15) ok 45 dX7_personsOf_15 rfl (fun _ => ?_) (fun _ => ?_)
  · refine r_lv (lk_n (lk_n (lk_n (lk_n (lk_s (lk_n lk_0 _) _) _) _) _) _) ?_
    exact hx a.1
  · refine r_aload_n (pc := 18) ok dX7_personsOf_18 rfl ?_
    refine r_iload (pc := 19) ok dX7_personsOf_19 rfl ?_
    refine r_iload_n (pc := 21) ok dX7_personsOf_21 rfl ?_
    refine r_iload_n (pc := 22) ok dX7_personsOf_22 rfl ?_
    refine r_iload_n (pc := 23) ok dX7_personsOf_23 rfl ?_
    refine k_I (pc := 24) (fun r1 => r1) (fun r1 => mx XX YY) (fun r1 hr_ => c_S (n := 5) ok ml_Sy_136 ws_X7_isTrueOf yk_X7_isTrueOf rfl (Nat.le_of_ble_eq_true rfl) (Nat.le_of_ble_eq_true rfl) (tSy_isTrueOf (hr_q) (hr_sc) hr_) rfl (Nat.le_of_ble_eq_true rfl) dX7_personsOf_24) (fun r1 => ?_)
    refine r_if_eq (pc := 27) ok 39 dX7_personsOf_27 rfl (fun _ => ?_) (fun _ => ?_)
    · refine r_iinc (pc := 39) ok (1 : Int32) dX7_personsOf_39 ci_1 rfl (Nat.le_of_ble_eq_true rfl) rfl ?_
      refine r_goto (pc := 42) ok 6 dX7_personsOf_42 rfl ?_
      exact hc (a.1, (a.2 + (1 : Int32)))
    · refine r_iload (pc := 30) ok dX7_personsOf_30 rfl ?_
      refine r_iconst (pc := 32) ok (1 : Int32) dX7_personsOf_32 ci_1 ?_
      refine r_iload (pc := 33) ok dX7_personsOf_33 rfl ?_
      refine r_ishl (pc := 35) ok dX7_personsOf_35 ?_
      refine r_ior (pc := 36) ok dX7_personsOf_36 ?_
      refine r_bndI (fun x2 => ?_)
      refine r_istore (pc := 37) ok dX7_personsOf_37 (Nat.le_of_ble_eq_true rfl) rfl ?_
      refine r_iinc (pc := 39) ok (1 : Int32) dX7_personsOf_39 ci_1 rfl (Nat.le_of_ble_eq_true rfl) rfl ?_
      refine r_goto (pc := 42) ok 6 dX7_personsOf_42 rfl ?_
      exact hc (x2, (a.2 + (1 : Int32)))
theorem vSy_personsOf {Z : Cx} {G : Gx} {b : Nat} {XX YY : Nat → Obj} {q : Obj} {sc : Obj} {v1 : Int32} {v2 : Int32} {v3 : Int32} (ok : OK Z G b cX7_personsOf 6 4 RX7 (some .int)) (hr_q : XX 5 = q) (hr_sc : XX 12 = sc) : VO Z G b 6 (fun (r : Int32) => QX Z b (qI G b r (mx XX YY))) (mx XX YY) 0 [some (.ref (b + 12)), some (.int v1), some (.int v2), some (.int v3), none, none] [] ((fSy_personsOf q sc v1 v2 v3).bind some) := by
  unfold fSy_personsOf
  refine r_iconst (pc := 0) ok (0 : Int32) dX7_personsOf_0 ci_0 ?_
  refine r_istore (pc := 1) ok dX7_personsOf_1 (Nat.le_of_ble_eq_true rfl) rfl ?_
  refine r_iconst (pc := 3) ok (0 : Int32) dX7_personsOf_3 ci_0 ?_
  refine r_istore (pc := 4) ok dX7_personsOf_4 (Nat.le_of_ble_eq_true rfl) rfl ?_
  refine r_iter (P := fun (a6 : Int32 × Int32) o => VO Z G b 6 (fun (r : Int32) => QX Z b (qI G b r (mx XX YY))) (mx XX YY) 6 [some (.ref (b + 12)), some (.int v1), some (.int v2), some (.int v3), some (.int a6.1), some (.int a6.2)] [] o) (E := fun (e_6 : Int32) o => VO Z G b 6 (fun (r : Int32) => QX Z b (qI G b r (mx XX YY))) (mx XX YY) 45 [none, none, none, none, some (.int e_6), none] [] o) (fun _ => r_none) (fun K hc hx => wSy_personsOf_L6 ok hr_q hr_sc (K := K) hc hx) (fun e3 => ?_) FU ((0 : Int32), (0 : Int32))
  refine r_iload (pc := 45) ok dX7_personsOf_45 rfl ?_
  exact r_iret (pc := 47) ok dX7_personsOf_47 rfl
theorem tSy_personsOf {l : Launch} {G : Gx} {b : Nat} {XX YY : Nat → Obj} {q : Obj} {sc : Obj} {v1 : Int32} {v2 : Int32} {v3 : Int32} (hr_q : XX 5 = q) (hr_sc : XX 12 = sc) {r : Int32} (hr : fSy_personsOf q sc v1 v2 v3 = some r) : MetG l G b yX7_personsOf cX7_personsOf 6 (some .int) 4 [.ref (b + 12), .int v1, .int v2, .int v3] (mx XX YY) (qI G b r (mx XX YY)) := by
  refine met_start [some (.ref (b + 12)), some (.int v1), some (.int v2), some (.int v3), none, none] (by decide +kernel) (Nat.le_of_ble_eq_true rfl) rfl (fun Z hl ok => ?_)
  clear hl
  exact vSy_personsOf ok hr_q hr_sc r (by rw [hr]; rfl)
theorem wSy_trueOf_L7 {Z : Cx} {G : Gx} {b : Nat} {XX YY : Nat → Obj} {q : Obj} {sc : Obj} (ok : OK Z G b cX7_trueOf 3 5 RX7 (some .int)) (hr_q : XX 5 = q) (hr_sc : XX 12 = sc) {K : ((Int32 × Obj) ⊕ (Obj)) → Option (Int32 × Obj)} (hc : ∀ (a : Int32 × Obj), VO Z G b 3 (fun (r : Int32 × Obj) => QX Z b (qI G b r.1 (mx (va_up XX 23 r.2) YY))) (mx (va_up XX 23 a.2) YY) 7 [some (.ref (b + 23)), some (.ref (b + 12)), some (.int a.1)] [] (K (.inl a))) (hx : ∀ (e : Obj), VO Z G b 3 (fun (r : Int32 × Obj) => QX Z b (qI G b r.1 (mx (va_up XX 23 r.2) YY))) (mx (va_up XX 23 e) YY) 131 [some (.ref (b + 23)), some (.ref (b + 12)), none] [] (K (.inr e))) : ∀ (a : Int32 × Obj), VO Z G b 3 (fun (r : Int32 × Obj) => QX Z b (qI G b r.1 (mx (va_up XX 23 r.2) YY))) (mx (va_up XX 23 a.2) YY) 7 [some (.ref (b + 23)), some (.ref (b + 12)), some (.int a.1)] [] ((fSy_trueOf_L7 q sc a).bind K) := by
  intro a
  unfold fSy_trueOf_L7
  refine r_iload_n (pc := 7) ok dX7_trueOf_7 rfl ?_
  refine r_aload_n (pc := 8) ok dX7_trueOf_8 rfl ?_
  refine r_getI (pc := 9) ok cls7 sh_23 (k := 1) rfl (Nat.le_of_ble_eq_true rfl) (mx_l (Nat.le_of_ble_eq_true rfl) (va_up_self _ _ _)) dX7_trueOf_9 fl_Sy_28 ?_
  refine r_icmp_ge (pc := 12) ok 131 dX7_trueOf_12 rfl (fun _ => ?_) (fun _ => ?_)
  · refine r_lv (lk_s (lk_s (lk_n lk_0 _) _) _) ?_
    exact hx a.2
  · refine r_iload_n (pc := 15) ok dX7_trueOf_15 rfl ?_
    refine r_bipush (pc := 16) ok (40 : Int32) dX7_trueOf_16 cb_40 ?_
    refine r_icmp_ge (pc := 18) ok 131 dX7_trueOf_18 rfl (fun _ => ?_) (fun _ => ?_)
    · refine r_lv (lk_s (lk_s (lk_n lk_0 _) _) _) ?_
      exact hx a.2
    · refine r_aload_n (pc := 21) ok dX7_trueOf_21 rfl ?_
      refine r_getR (pc := 22) ok cls7 sh_23 (k := 2) rfl (Nat.le_of_ble_eq_true rfl) rfl dX7_trueOf_22 fl_Sy_11 ?_
      refine r_iload_n (pc := 25) ok dX7_trueOf_25 rfl ?_
      refine r_iald (pc := 26) ok sh_24 (j := 1) rfl (mx_l (Nat.le_of_ble_eq_true rfl) (va_up_self _ _ _)) dX7_trueOf_26 (fun i2 => ?_)
      refine r_bipush (pc := 27) ok (18 : Int32) dX7_trueOf_27 cb_18 ?_
      refine r_icmp_ne (pc := 29) ok 48 dX7_trueOf_29 rfl (fun _ => ?_) (fun _ => ?_)
      · refine r_aload_n (pc := 32) ok dX7_trueOf_32 rfl ?_
        refine r_aload_n (pc := 33) ok dX7_trueOf_33 rfl ?_
        refine k_I (pc := 34) (fun r3 => r3.1) (fun r3 => mx (va_up XX 23 r3.2) YY) (fun r3 hr_ => c_V (n := 0) ok cls7 sh_23 rfl ml_Sy_115 wv_X7_pop yk_X7_pop rfl (Nat.le_of_ble_eq_true rfl) (Nat.le_of_ble_eq_true rfl) (tSy_pop hr_) rfl (Nat.le_of_ble_eq_true rfl) dX7_trueOf_34) (fun r3 => ?_)
        refine r_aload_n (pc := 37) ok dX7_trueOf_37 rfl ?_
        refine k_I (pc := 38) (fun r4 => r4.1) (fun r4 => mx (va_up XX 23 r4.2) YY) (fun r4 hr_ => c_V (n := 0) ok cls7 sh_23 rfl ml_Sy_115 wv_X7_pop yk_X7_pop rfl (Nat.le_of_ble_eq_true rfl) (Nat.le_of_ble_eq_true rfl) (tSy_pop hr_) rfl (Nat.le_of_ble_eq_true rfl) dX7_trueOf_38) (fun r4 => ?_)
        refine r_ior (pc := 41) ok dX7_trueOf_41 ?_
        refine k_V (pc := 42)  (fun r5 => mx (va_up XX 23 r5) YY) (fun r5 hr_ => c_V (n := 1) ok cls7 sh_23 rfl ml_Sy_118 wv_X7_push yk_X7_push rfl (Nat.le_of_ble_eq_true rfl) (Nat.le_of_ble_eq_true rfl) (tSy_push hr_) rfl (Nat.le_of_ble_eq_true rfl) dX7_trueOf_42) (fun r5 => ?_)
        refine r_goto (pc := 45) ok 125 dX7_trueOf_45 rfl ?_
        refine r_iinc (pc := 125) ok (1 : Int32) dX7_trueOf_125 ci_1 rfl (Nat.le_of_ble_eq_true rfl) rfl ?_
        refine r_goto (pc := 128) ok 7 dX7_trueOf_128 rfl ?_
        exact hc ((a.1 + (1 : Int32)), r5)
      · refine r_aload_n (pc := 48) ok dX7_trueOf_48 rfl ?_
        refine r_getR (pc := 49) ok cls7 sh_23 (k := 2) rfl (Nat.le_of_ble_eq_true rfl) rfl dX7_trueOf_49 fl_Sy_11 ?_
        refine r_iload_n (pc := 52) ok dX7_trueOf_52 rfl ?_
        refine r_iald (pc := 53) ok sh_24 (j := 1) rfl (mx_l (Nat.le_of_ble_eq_true rfl) (va_up_self _ _ _)) dX7_trueOf_53 (fun i6 => ?_)
        refine r_bipush (pc := 54) ok (19 : Int32) dX7_trueOf_54 cb_19 ?_
        refine r_icmp_ne (pc := 56) ok 75 dX7_trueOf_56 rfl (fun _ => ?_) (fun _ => ?_)
        · refine r_aload_n (pc := 59) ok dX7_trueOf_59 rfl ?_
          refine r_aload_n (pc := 60) ok dX7_trueOf_60 rfl ?_
          refine k_I (pc := 61) (fun r7 => r7.1) (fun r7 => mx (va_up XX 23 r7.2) YY) (fun r7 hr_ => c_V (n := 0) ok cls7 sh_23 rfl ml_Sy_115 wv_X7_pop yk_X7_pop rfl (Nat.le_of_ble_eq_true rfl) (Nat.le_of_ble_eq_true rfl) (tSy_pop hr_) rfl (Nat.le_of_ble_eq_true rfl) dX7_trueOf_61) (fun r7 => ?_)
          refine r_aload_n (pc := 64) ok dX7_trueOf_64 rfl ?_
          refine k_I (pc := 65) (fun r8 => r8.1) (fun r8 => mx (va_up XX 23 r8.2) YY) (fun r8 hr_ => c_V (n := 0) ok cls7 sh_23 rfl ml_Sy_115 wv_X7_pop yk_X7_pop rfl (Nat.le_of_ble_eq_true rfl) (Nat.le_of_ble_eq_true rfl) (tSy_pop hr_) rfl (Nat.le_of_ble_eq_true rfl) dX7_trueOf_65) (fun r8 => ?_)
          refine r_iand (pc := 68) ok dX7_trueOf_68 ?_
          refine k_V (pc := 69)  (fun r9 => mx (va_up XX 23 r9) YY) (fun r9 hr_ => c_V (n := 1) ok cls7 sh_23 rfl ml_Sy_118 wv_X7_push yk_X7_push rfl (Nat.le_of_ble_eq_true rfl) (Nat.le_of_ble_eq_true rfl) (tSy_push hr_) rfl (Nat.le_of_ble_eq_true rfl) dX7_trueOf_69) (fun r9 => ?_)
          refine r_goto (pc := 72) ok 125 dX7_trueOf_72 rfl ?_
          refine r_iinc (pc := 125) ok (1 : Int32) dX7_trueOf_125 ci_1 rfl (Nat.le_of_ble_eq_true rfl) rfl ?_
          refine r_goto (pc := 128) ok 7 dX7_trueOf_128 rfl ?_
          exact hc ((a.1 + (1 : Int32)), r9)
        · refine r_aload_n (pc := 75) ok dX7_trueOf_75 rfl ?_
          refine r_getR (pc := 76) ok cls7 sh_23 (k := 2) rfl (Nat.le_of_ble_eq_true rfl) rfl dX7_trueOf_76 fl_Sy_11 ?_
          refine r_iload_n (pc := 79) ok dX7_trueOf_79 rfl ?_
          refine r_iald (pc := 80) ok sh_24 (j := 1) rfl (mx_l (Nat.le_of_ble_eq_true rfl) (va_up_self _ _ _)) dX7_trueOf_80 (fun i10 => ?_)
          refine r_bipush (pc := 81) ok (20 : Int32) dX7_trueOf_81 cb_20 ?_
          refine r_icmp_ne (pc := 83) ok 99 dX7_trueOf_83 rfl (fun _ => ?_) (fun _ => ?_)
          · refine r_aload_n (pc := 86) ok dX7_trueOf_86 rfl ?_
            refine r_aload_n (pc := 87) ok dX7_trueOf_87 rfl ?_
            refine k_I (pc := 88) (fun r11 => r11.1) (fun r11 => mx (va_up XX 23 r11.2) YY) (fun r11 hr_ => c_V (n := 0) ok cls7 sh_23 rfl ml_Sy_115 wv_X7_pop yk_X7_pop rfl (Nat.le_of_ble_eq_true rfl) (Nat.le_of_ble_eq_true rfl) (tSy_pop hr_) rfl (Nat.le_of_ble_eq_true rfl) dX7_trueOf_88) (fun r11 => ?_)
            refine r_iconst (pc := 91) ok (-1 : Int32) dX7_trueOf_91 ci_m1 ?_
            refine r_ixor (pc := 92) ok dX7_trueOf_92 ?_
            refine k_V (pc := 93)  (fun r12 => mx (va_up XX 23 r12) YY) (fun r12 hr_ => c_V (n := 1) ok cls7 sh_23 rfl ml_Sy_118 wv_X7_push yk_X7_push rfl (Nat.le_of_ble_eq_true rfl) (Nat.le_of_ble_eq_true rfl) (tSy_push hr_) rfl (Nat.le_of_ble_eq_true rfl) dX7_trueOf_93) (fun r12 => ?_)
            refine r_goto (pc := 96) ok 125 dX7_trueOf_96 rfl ?_
            refine r_iinc (pc := 125) ok (1 : Int32) dX7_trueOf_125 ci_1 rfl (Nat.le_of_ble_eq_true rfl) rfl ?_
            refine r_goto (pc := 128) ok 7 dX7_trueOf_128 rfl ?_
            exact hc ((a.1 + (1 : Int32)), r12)
          · refine r_aload_n (pc := 99) ok dX7_trueOf_99 rfl ?_
            refine r_aload_n (pc := 100) ok dX7_trueOf_100 rfl ?_
            refine r_aload_n (pc := 101) ok dX7_trueOf_101 rfl ?_
            refine r_getR (pc := 102) ok cls7 sh_23 (k := 2) rfl (Nat.le_of_ble_eq_true rfl) rfl dX7_trueOf_102 fl_Sy_11 ?_
            refine r_iload_n (pc := 105) ok dX7_trueOf_105 rfl ?_
            refine r_iald (pc := 106) ok sh_24 (j := 1) rfl (mx_l (Nat.le_of_ble_eq_true rfl) (va_up_self _ _ _)) dX7_trueOf_106 (fun i13 => ?_)
            refine r_aload_n (pc := 107) ok dX7_trueOf_107 rfl ?_
            refine r_getR (pc := 108) ok cls7 sh_23 (k := 3) rfl (Nat.le_of_ble_eq_true rfl) rfl dX7_trueOf_108 fl_Sy_15 ?_
            refine r_iload_n (pc := 111) ok dX7_trueOf_111 rfl ?_
            refine r_iald (pc := 112) ok sh_25 (j := 2) rfl (mx_l (Nat.le_of_ble_eq_true rfl) (va_up_self _ _ _)) dX7_trueOf_112 (fun i14 => ?_)
            refine r_aload_n (pc := 113) ok dX7_trueOf_113 rfl ?_
            refine r_getR (pc := 114) ok cls7 sh_23 (k := 4) rfl (Nat.le_of_ble_eq_true rfl) rfl dX7_trueOf_114 fl_Sy_18 ?_
            refine r_iload_n (pc := 117) ok dX7_trueOf_117 rfl ?_
            refine r_iald (pc := 118) ok sh_26 (j := 3) rfl (mx_l (Nat.le_of_ble_eq_true rfl) (va_up_self _ _ _)) dX7_trueOf_118 (fun i15 => ?_)
            refine k_I (pc := 119) (fun r16 => r16) (fun r16 => mx (va_up XX 23 a.2) YY) (fun r16 hr_ => c_S (n := 4) ok ml_Sy_121 ws_X7_personsOf yk_X7_personsOf rfl (Nat.le_of_ble_eq_true rfl) (Nat.le_of_ble_eq_true rfl) (tSy_personsOf ((va_up_ne _ _ (by decide)).trans (hr_q)) ((va_up_ne _ _ (by decide)).trans (hr_sc)) hr_) rfl (Nat.le_of_ble_eq_true rfl) dX7_trueOf_119) (fun r16 => ?_)
            refine k_V (pc := 122)  (fun r17 => mx (va_up XX 23 r17) YY) (fun r17 hr_ => c_V (n := 1) ok cls7 sh_23 rfl ml_Sy_118 wv_X7_push yk_X7_push rfl (Nat.le_of_ble_eq_true rfl) (Nat.le_of_ble_eq_true rfl) (tSy_push hr_) rfl (Nat.le_of_ble_eq_true rfl) dX7_trueOf_122) (fun r17 => ?_)
            refine r_iinc (pc := 125) ok (1 : Int32) dX7_trueOf_125 ci_1 rfl (Nat.le_of_ble_eq_true rfl) rfl ?_
            refine r_goto (pc := 128) ok 7 dX7_trueOf_128 rfl ?_
            exact hc ((a.1 + (1 : Int32)), r17)
theorem vSy_trueOf {Z : Cx} {G : Gx} {b : Nat} {XX YY : Nat → Obj} {q : Obj} {sc : Obj} {sy : Obj} (ok : OK Z G b cX7_trueOf 3 5 RX7 (some .int)) (hr_q : XX 5 = q) (hr_sc : XX 12 = sc) : VO Z G b 3 (fun (r : Int32 × Obj) => QX Z b (qI G b r.1 (mx (va_up XX 23 r.2) YY))) (mx (va_up XX 23 sy) YY) 0 [some (.ref (b + 23)), some (.ref (b + 12)), none] [] ((fSy_trueOf q sc sy).bind some) := by
  unfold fSy_trueOf
  refine r_aload_n (pc := 0) ok dX7_trueOf_0 rfl ?_
  refine r_iconst (pc := 1) ok (0 : Int32) dX7_trueOf_1 ci_0 ?_
  refine r_putI (pc := 2) ok cls7 sh_23 (k := 6) rfl (Nat.le_of_ble_eq_true rfl) (fun s_ => mx (va_up XX 23 s_) YY) (pm_l (Nat.le_of_ble_eq_true rfl) (pm_0 _ _)).1 (pm_l (Nat.le_of_ble_eq_true rfl) (pm_0 _ _)).2 rfl rfl rfl dX7_trueOf_2 fl_Sy_112 (fun s1 => ?_)
  refine r_iconst (pc := 5) ok (0 : Int32) dX7_trueOf_5 ci_0 ?_
  refine r_istore_n (pc := 6) ok dX7_trueOf_6 (Nat.le_of_ble_eq_true rfl) rfl ?_
  refine r_iter (P := fun (a7 : Int32 × Obj) o => VO Z G b 3 (fun (r : Int32 × Obj) => QX Z b (qI G b r.1 (mx (va_up XX 23 r.2) YY))) (mx (va_up XX 23 a7.2) YY) 7 [some (.ref (b + 23)), some (.ref (b + 12)), some (.int a7.1)] [] o) (E := fun (e_7 : Obj) o => VO Z G b 3 (fun (r : Int32 × Obj) => QX Z b (qI G b r.1 (mx (va_up XX 23 r.2) YY))) (mx (va_up XX 23 e_7) YY) 131 [some (.ref (b + 23)), some (.ref (b + 12)), none] [] o) (fun _ => r_none) (fun K hc hx => wSy_trueOf_L7 ok hr_q hr_sc (K := K) hc hx) (fun e18 => ?_) FU ((0 : Int32), s1)
  refine r_aload_n (pc := 131) ok dX7_trueOf_131 rfl ?_
  refine k_I (pc := 132) (fun r19 => r19.1) (fun r19 => mx (va_up XX 23 r19.2) YY) (fun r19 hr_ => c_V (n := 0) ok cls7 sh_23 rfl ml_Sy_115 wv_X7_pop yk_X7_pop rfl (Nat.le_of_ble_eq_true rfl) (Nat.le_of_ble_eq_true rfl) (tSy_pop hr_) rfl (Nat.le_of_ble_eq_true rfl) dX7_trueOf_132) (fun r19 => ?_)
  refine r_iconst (pc := 135) ok (1 : Int32) dX7_trueOf_135 ci_1 ?_
  refine r_aload_n (pc := 136) ok dX7_trueOf_136 rfl ?_
  refine r_getR (pc := 137) ok cls8 sh_12 (k := 0) rfl (Nat.le_of_ble_eq_true rfl) rfl dX7_trueOf_137 fl_Sy_125 ?_
  refine r_getI (pc := 140) ok cls5 sh_5 (k := 4) rfl (Nat.le_of_ble_eq_true rfl) (mx_l (Nat.le_of_ble_eq_true rfl) ((va_up_ne _ _ (by decide)).trans (hr_q))) dX7_trueOf_140 fl_Sy_131 ?_
  refine r_ishl (pc := 143) ok dX7_trueOf_143 ?_
  refine r_iconst (pc := 144) ok (1 : Int32) dX7_trueOf_144 ci_1 ?_
  refine r_isub (pc := 145) ok dX7_trueOf_145 ?_
  refine r_iand (pc := 146) ok dX7_trueOf_146 ?_
  exact r_iret (pc := 147) ok dX7_trueOf_147 rfl
theorem tSy_trueOf {l : Launch} {G : Gx} {b : Nat} {XX YY : Nat → Obj} {q : Obj} {sc : Obj} {sy : Obj} (hr_q : XX 5 = q) (hr_sc : XX 12 = sc) {r : Int32 × Obj} (hr : fSy_trueOf q sc sy = some r) : MetG l G b yX7_trueOf cX7_trueOf 3 (some .int) 5 [.ref (b + 23), .ref (b + 12)] (mx (va_up XX 23 sy) YY) (qI G b r.1 (mx (va_up XX 23 r.2) YY)) := by
  refine met_start [some (.ref (b + 23)), some (.ref (b + 12)), none] (by decide +kernel) (Nat.le_of_ble_eq_true rfl) rfl (fun Z hl ok => ?_)
  clear hl
  exact vSy_trueOf ok hr_q hr_sc r (by rw [hr]; rfl)
theorem vKL_said {Z : Cx} {G : Gx} {b : Nat} {YY : Nat → Obj} {X : Nat → Obj} {v1 : Int32} (ok : OK Z G b cX11_said 3 6 RX11 (some .int)) : VO Z G b 3 (fun (r : Int32 × (Nat → Obj)) => QX Z b (qI G b r.1 (mx r.2 YY))) (mx X YY) 0 [some (.ref (b + 0)), some (.int v1), none] [] ((fKL_said X v1).bind some) := by
  unfold fKL_said
  refine r_aload_n (pc := 0) ok dX11_said_0 rfl ?_
  refine r_getR (pc := 1) ok cls11 sh_0 (k := 1) rfl (Nat.le_of_ble_eq_true rfl) rfl dX11_said_1 fl_KL_19 ?_
  refine r_getR (pc := 4) ok cls9 sh_4 (k := 2) rfl (Nat.le_of_ble_eq_true rfl) rfl dX11_said_4 fl_KL_121 ?_
  refine r_getI (pc := 7) ok cls7 sh_23 (k := 0) rfl (Nat.le_of_ble_eq_true rfl) (mx_l (Nat.le_of_ble_eq_true rfl) rfl) dX11_said_7 fl_KL_312 ?_
  refine r_if_ne (pc := 10) ok 15 dX11_said_10 rfl (fun _ => ?_) (fun _ => ?_)
  · refine r_iconst (pc := 13) ok (-1 : Int32) dX11_said_13 ci_m1 ?_
    exact r_iret (pc := 14) ok dX11_said_14 rfl
  · refine r_aload_n (pc := 15) ok dX11_said_15 rfl ?_
    refine r_getR (pc := 16) ok cls11 sh_0 (k := 1) rfl (Nat.le_of_ble_eq_true rfl) rfl dX11_said_16 fl_KL_19 ?_
    refine r_getR (pc := 19) ok cls9 sh_4 (k := 2) rfl (Nat.le_of_ble_eq_true rfl) rfl dX11_said_19 fl_KL_121 ?_
    refine r_aload_n (pc := 22) ok dX11_said_22 rfl ?_
    refine r_getR (pc := 23) ok cls11 sh_0 (k := 1) rfl (Nat.le_of_ble_eq_true rfl) rfl dX11_said_23 fl_KL_19 ?_
    refine r_getR (pc := 26) ok cls9 sh_4 (k := 1) rfl (Nat.le_of_ble_eq_true rfl) rfl dX11_said_26 fl_KL_140 ?_
    refine k_I (pc := 29) (fun r1 => r1.1) (fun r1 => mx ((va_up X 23 r1.2)) YY) (fun r1 hr_ => c_V (n := 1) ok cls7 sh_23 rfl ml_KL_315 wv_X7_trueOf yk_X7_trueOf rfl (Nat.le_of_ble_eq_true rfl) (Nat.le_of_ble_eq_true rfl) (met_cast (by rw [up_eta]) rfl (tSy_trueOf (rfl) (rfl) hr_)) rfl (Nat.le_of_ble_eq_true rfl) dX11_said_29) (fun r1 => ?_)
    refine r_bndX (wf := (fun x_ => mx x_ YY)) (fun X2 => ?_)
    refine r_istore_n (pc := 32) ok dX11_said_32 (Nat.le_of_ble_eq_true rfl) rfl ?_
    refine r_iload_n (pc := 33) ok dX11_said_33 rfl ?_
    refine r_iconst (pc := 34) ok (-1 : Int32) dX11_said_34 ci_m1 ?_
    refine r_icmp_ne (pc := 35) ok 45 dX11_said_35 rfl (fun _ => ?_) (fun _ => ?_)
    · refine r_iload_n (pc := 38) ok dX11_said_38 rfl ?_
      refine k_I (pc := 39) (fun r3 => r3) (fun r3 => mx X2 YY) (fun r3 hr_ => c_S (n := 1) ok ml_KL_238 ws_J6_bitCount_0f7a4 yk_J6_bitCount_0f7a4 rfl (Nat.le_of_ble_eq_true rfl) (Nat.le_of_ble_eq_true rfl) (tJI_bitCount hr_) rfl (Nat.le_of_ble_eq_true rfl) dX11_said_39) (fun r3 => ?_)
      refine r_goto (pc := 42) ok 50 dX11_said_42 rfl ?_
      exact r_iret (pc := 50) ok dX11_said_50 rfl
    · refine r_iload_n (pc := 45) ok dX11_said_45 rfl ?_
      refine r_iload_n (pc := 46) ok dX11_said_46 rfl ?_
      refine k_I (pc := 47) (fun r4 => r4) (fun r4 => mx X2 YY) (fun r4 hr_ => c_S (n := 2) ok ml_KL_318 ws_X11_bitInOrder yk_X11_bitInOrder rfl (Nat.le_of_ble_eq_true rfl) (Nat.le_of_ble_eq_true rfl) (tKL_bitInOrder hr_) rfl (Nat.le_of_ble_eq_true rfl) dX11_said_47) (fun r4 => ?_)
      exact r_iret (pc := 50) ok dX11_said_50 rfl
theorem tKL_said {l : Launch} {G : Gx} {b : Nat} {YY : Nat → Obj} {X : Nat → Obj} {v1 : Int32} {r : Int32 × (Nat → Obj)} (hr : fKL_said X v1 = some r) : MetG l G b yX11_said cX11_said 3 (some .int) 6 [.ref (b + 0), .int v1] (mx X YY) (qI G b r.1 (mx r.2 YY)) := by
  refine met_start [some (.ref (b + 0)), some (.int v1), none] (by decide +kernel) (Nat.le_of_ble_eq_true rfl) rfl (fun Z hl ok => ?_)
  clear hl
  exact vKL_said ok r (by rw [hr]; rfl)
theorem vKL_imageOf {Z : Cx} {G : Gx} {b : Nat} {YY : Nat → Obj} {X : Nat → Obj} {v1 : Int32} (ok : OK Z G b cX11_imageOf 2 0 RX11 (some (.object "KnockLane$Street"))) : VO Z G b 2 (fun (r : Nat) => QX Z b (qQ G b (imgv b r) (mx X YY))) (mx X YY) 0 [some (.ref (b + 0)), some (.int v1)] [] ((fKL_imageOf v1).bind some) := by
  unfold fKL_imageOf
  refine r_iload_n (pc := 0) ok dX11_imageOf_0 rfl ?_
  refine r_if_ne (pc := 1) ok 9 dX11_imageOf_1 rfl (fun _ => ?_) (fun _ => ?_)
  · refine r_aload_n (pc := 4) ok dX11_imageOf_4 rfl ?_
    refine r_getR (pc := 5) ok cls11 sh_0 (k := 3) rfl (Nat.le_of_ble_eq_true rfl) rfl dX11_imageOf_5 fl_KL_26 ?_
    exact r_aret (pc := 8) (v := some (b + 52)) ok dX11_imageOf_8 rfl
  · refine r_iload_n (pc := 9) ok dX11_imageOf_9 rfl ?_
    refine r_iconst (pc := 10) ok (1 : Int32) dX11_imageOf_10 ci_1 ?_
    refine r_icmp_ne (pc := 11) ok 21 dX11_imageOf_11 rfl (fun _ => ?_) (fun _ => ?_)
    · refine r_aload_n (pc := 14) ok dX11_imageOf_14 rfl ?_
      refine r_getR (pc := 15) ok cls11 sh_0 (k := 4) rfl (Nat.le_of_ble_eq_true rfl) rfl dX11_imageOf_15 fl_KL_29 ?_
      refine r_goto (pc := 18) ok 22 dX11_imageOf_18 rfl ?_
      exact r_aret (pc := 22) (v := some (b + 76)) ok dX11_imageOf_22 rfl
    · refine r_null (pc := 21) ok dX11_imageOf_21 ?_
      exact r_aret (pc := 22) (v := none) ok dX11_imageOf_22 rfl
theorem tKL_imageOf {l : Launch} {G : Gx} {b : Nat} {YY : Nat → Obj} {X : Nat → Obj} {v1 : Int32} {r : Nat} (hr : fKL_imageOf v1 = some r) : MetG l G b yX11_imageOf cX11_imageOf 2 (some (.object "KnockLane$Street")) 0 [.ref (b + 0), .int v1] (mx X YY) (qQ G b (imgv b r) (mx X YY)) := by
  refine met_start [some (.ref (b + 0)), some (.int v1)] (by decide +kernel) (Nat.le_of_ble_eq_true rfl) rfl (fun Z hl ok => ?_)
  clear hl
  exact vKL_imageOf ok r (by rw [hr]; rfl)
theorem vKL_image {Z : Cx} {G : Gx} {b : Nat} {YY : Nat → Obj} {X : Nat → Obj} {v1 : Int32} (ok : OK Z G b cX11_image 3 3 RX11 (some .boolean)) : VO Z G b 3 (fun (r : Int32 × (Nat → Obj)) => QX Z b (qI G b r.1 (mx r.2 YY))) (mx X YY) 0 [some (.ref (b + 0)), some (.int v1), none] [] ((fKL_image X v1).bind some) := by
  unfold fKL_image
  refine r_aload_n (pc := 0) ok dX11_image_0 rfl ?_
  refine r_iload_n (pc := 1) ok dX11_image_1 rfl ?_
  refine k_Q (pc := 2) (fun r1 => imgv b r1) (fun r1 => mx X YY) (fun r1 hr_ => c_V (n := 1) ok cls11 sh_0 rfl ml_KL_321 wv_X11_imageOf yk_X11_imageOf rfl (Nat.le_of_ble_eq_true rfl) (Nat.le_of_ble_eq_true rfl) (tKL_imageOf hr_) rfl (Nat.le_of_ble_eq_true rfl) dX11_image_2) (fun r1 => ?_)
  refine r_ite (fun hv0 => ?_) (fun hv0 => ?_)
  · refine r_st (st' := [.null]) (by rw [hv0]; rfl) ?_
    refine r_astore_nN (pc := 5) ok dX11_image_5 (Nat.le_of_ble_eq_true rfl) rfl ?_
    refine r_aload_nN (pc := 6) ok dX11_image_6 rfl ?_
    refine r_ifnonnullN (pc := 7) ok dX11_image_7 ?_
    refine r_iconst (pc := 10) ok (0 : Int32) dX11_image_10 ci_0 ?_
    exact r_zret (pc := 11) ok dX11_image_11 za_0 rfl
  refine r_ite (fun hv1 => ?_) (fun hv1 => ?_)
  · refine r_st (st' := [.ref (b + 52)]) (by rw [hv1]; rfl) ?_
    refine r_astore_n (pc := 5) ok dX11_image_5 (Nat.le_of_ble_eq_true rfl) rfl ?_
    refine r_aload_n (pc := 6) ok dX11_image_6 rfl ?_
    refine r_ifnonnull (pc := 7) ok 12 dX11_image_7 rfl ?_
    refine r_aload_n (pc := 12) ok dX11_image_12 rfl ?_
    refine r_aload_n (pc := 13) ok dX11_image_13 rfl ?_
    refine r_getR (pc := 14) ok cls11 sh_0 (k := 1) rfl (Nat.le_of_ble_eq_true rfl) rfl dX11_image_14 fl_KL_19 ?_
    refine k_V (pc := 17)  (fun r2 => mx r2 YY) (fun r2 hr_ => c_V (n := 1) ok cls9 sh_52 rfl ml_KL_130 wv_X9_copyFrom yk_X9_copyFrom rfl (Nat.le_of_ble_eq_true rfl) (Nat.le_of_ble_eq_true rfl) (tSt_copyFrom (st_c (o := 52) (by decide)) (st_c (o := 4) (by decide)) (by decide) hr_) rfl (Nat.le_of_ble_eq_true rfl) dX11_image_17) (fun r2 => ?_)
    refine r_aload_n (pc := 20) ok dX11_image_20 rfl ?_
    refine r_iconst (pc := 21) ok (1 : Int32) dX11_image_21 ci_1 ?_
    refine r_putG (pc := 22) ok cls9 sh_52 (k := 3) rfl (Nat.le_of_ble_eq_true rfl) (Nat.le_of_ble_eq_true rfl) rfl rfl rfl dX11_image_22 fl_KL_325 (fun X3 => ?_)
    refine r_iconst (pc := 25) ok (1 : Int32) dX11_image_25 ci_1 ?_
    exact r_zret (pc := 26) ok dX11_image_26 za_1 rfl
  refine r_st (st' := [.ref (b + 76)]) (by unfold imgv; rw [if_neg hv0, if_neg hv1]; rfl) ?_
  refine r_astore_n (pc := 5) ok dX11_image_5 (Nat.le_of_ble_eq_true rfl) rfl ?_
  refine r_aload_n (pc := 6) ok dX11_image_6 rfl ?_
  refine r_ifnonnull (pc := 7) ok 12 dX11_image_7 rfl ?_
  refine r_aload_n (pc := 12) ok dX11_image_12 rfl ?_
  refine r_aload_n (pc := 13) ok dX11_image_13 rfl ?_
  refine r_getR (pc := 14) ok cls11 sh_0 (k := 1) rfl (Nat.le_of_ble_eq_true rfl) rfl dX11_image_14 fl_KL_19 ?_
  refine k_V (pc := 17)  (fun r4 => mx r4 YY) (fun r4 hr_ => c_V (n := 1) ok cls9 sh_76 rfl ml_KL_130 wv_X9_copyFrom yk_X9_copyFrom rfl (Nat.le_of_ble_eq_true rfl) (Nat.le_of_ble_eq_true rfl) (tSt_copyFrom (st_c (o := 76) (by decide)) (st_c (o := 4) (by decide)) (by decide) hr_) rfl (Nat.le_of_ble_eq_true rfl) dX11_image_17) (fun r4 => ?_)
  refine r_aload_n (pc := 20) ok dX11_image_20 rfl ?_
  refine r_iconst (pc := 21) ok (1 : Int32) dX11_image_21 ci_1 ?_
  refine r_putG (pc := 22) ok cls9 sh_76 (k := 3) rfl (Nat.le_of_ble_eq_true rfl) (Nat.le_of_ble_eq_true rfl) rfl rfl rfl dX11_image_22 fl_KL_325 (fun X5 => ?_)
  refine r_iconst (pc := 25) ok (1 : Int32) dX11_image_25 ci_1 ?_
  exact r_zret (pc := 26) ok dX11_image_26 za_1 rfl
theorem tKL_image {l : Launch} {G : Gx} {b : Nat} {YY : Nat → Obj} {X : Nat → Obj} {v1 : Int32} {r : Int32 × (Nat → Obj)} (hr : fKL_image X v1 = some r) : MetG l G b yX11_image cX11_image 3 (some .boolean) 3 [.ref (b + 0), .int v1] (mx X YY) (qI G b r.1 (mx r.2 YY)) := by
  refine met_start [some (.ref (b + 0)), some (.int v1), none] (by decide +kernel) (Nat.le_of_ble_eq_true rfl) rfl (fun Z hl ok => ?_)
  clear hl
  exact vKL_image ok r (by rw [hr]; rfl)
theorem vKL_restore {Z : Cx} {G : Gx} {b : Nat} {YY : Nat → Obj} {X : Nat → Obj} {v1 : Int32} (ok : OK Z G b cX11_restore 3 3 RX11 (some .boolean)) : VO Z G b 3 (fun (r : Int32 × (Nat → Obj)) => QX Z b (qI G b r.1 (mx r.2 YY))) (mx X YY) 0 [some (.ref (b + 0)), some (.int v1), none] [] ((fKL_restore X v1).bind some) := by
  unfold fKL_restore
  refine r_aload_n (pc := 0) ok dX11_restore_0 rfl ?_
  refine r_iload_n (pc := 1) ok dX11_restore_1 rfl ?_
  refine k_Q (pc := 2) (fun r1 => imgv b r1) (fun r1 => mx X YY) (fun r1 hr_ => c_V (n := 1) ok cls11 sh_0 rfl ml_KL_321 wv_X11_imageOf yk_X11_imageOf rfl (Nat.le_of_ble_eq_true rfl) (Nat.le_of_ble_eq_true rfl) (tKL_imageOf hr_) rfl (Nat.le_of_ble_eq_true rfl) dX11_restore_2) (fun r1 => ?_)
  refine r_ite (fun hv0 => ?_) (fun hv0 => ?_)
  · refine r_st (st' := [.null]) (by rw [hv0]; rfl) ?_
    refine r_astore_nN (pc := 5) ok dX11_restore_5 (Nat.le_of_ble_eq_true rfl) rfl ?_
    refine r_aload_nN (pc := 6) ok dX11_restore_6 rfl ?_
    refine r_ifnullN (pc := 7) ok 17 dX11_restore_7 rfl ?_
    refine r_iconst (pc := 17) ok (0 : Int32) dX11_restore_17 ci_0 ?_
    exact r_zret (pc := 18) ok dX11_restore_18 za_0 rfl
  refine r_ite (fun hv1 => ?_) (fun hv1 => ?_)
  · refine r_st (st' := [.ref (b + 52)]) (by rw [hv1]; rfl) ?_
    refine r_astore_n (pc := 5) ok dX11_restore_5 (Nat.le_of_ble_eq_true rfl) rfl ?_
    refine r_aload_n (pc := 6) ok dX11_restore_6 rfl ?_
    refine r_ifnull (pc := 7) ok dX11_restore_7 ?_
    refine r_aload_n (pc := 10) ok dX11_restore_10 rfl ?_
    refine r_getI (pc := 11) ok cls9 sh_52 (k := 3) rfl (Nat.le_of_ble_eq_true rfl) (mx_l (Nat.le_of_ble_eq_true rfl) rfl) dX11_restore_11 fl_KL_325 ?_
    refine r_if_ne (pc := 14) ok 19 dX11_restore_14 rfl (fun _ => ?_) (fun _ => ?_)
    · refine r_iconst (pc := 17) ok (0 : Int32) dX11_restore_17 ci_0 ?_
      exact r_zret (pc := 18) ok dX11_restore_18 za_0 rfl
    · refine r_aload_n (pc := 19) ok dX11_restore_19 rfl ?_
      refine r_getR (pc := 20) ok cls11 sh_0 (k := 1) rfl (Nat.le_of_ble_eq_true rfl) rfl dX11_restore_20 fl_KL_19 ?_
      refine r_aload_n (pc := 23) ok dX11_restore_23 rfl ?_
      refine k_V (pc := 24)  (fun r2 => mx r2 YY) (fun r2 hr_ => c_V (n := 1) ok cls9 sh_4 rfl ml_KL_130 wv_X9_copyFrom yk_X9_copyFrom rfl (Nat.le_of_ble_eq_true rfl) (Nat.le_of_ble_eq_true rfl) (tSt_copyFrom (st_c (o := 4) (by decide)) (st_c (o := 52) (by decide)) (by decide) hr_) rfl (Nat.le_of_ble_eq_true rfl) dX11_restore_24) (fun r2 => ?_)
      refine r_aload_n (pc := 27) ok dX11_restore_27 rfl ?_
      refine r_getR (pc := 28) ok cls11 sh_0 (k := 5) rfl (Nat.le_of_ble_eq_true rfl) rfl dX11_restore_28 fl_KL_41 ?_
      refine k_V (pc := 31)  (fun r3 => mx r3 YY) (fun r3 hr_ => c_V (n := 0) ok cls4 sh_100 rfl ml_KL_134 wv_X4_forget yk_X4_forget rfl (Nat.le_of_ble_eq_true rfl) (Nat.le_of_ble_eq_true rfl) (tPa_forget hr_) rfl (Nat.le_of_ble_eq_true rfl) dX11_restore_31) (fun r3 => ?_)
      refine r_iconst (pc := 34) ok (1 : Int32) dX11_restore_34 ci_1 ?_
      exact r_zret (pc := 35) ok dX11_restore_35 za_1 rfl
  refine r_st (st' := [.ref (b + 76)]) (by unfold imgv; rw [if_neg hv0, if_neg hv1]; rfl) ?_
  refine r_astore_n (pc := 5) ok dX11_restore_5 (Nat.le_of_ble_eq_true rfl) rfl ?_
  refine r_aload_n (pc := 6) ok dX11_restore_6 rfl ?_
  refine r_ifnull (pc := 7) ok dX11_restore_7 ?_
  refine r_aload_n (pc := 10) ok dX11_restore_10 rfl ?_
  refine r_getI (pc := 11) ok cls9 sh_76 (k := 3) rfl (Nat.le_of_ble_eq_true rfl) (mx_l (Nat.le_of_ble_eq_true rfl) rfl) dX11_restore_11 fl_KL_325 ?_
  refine r_if_ne (pc := 14) ok 19 dX11_restore_14 rfl (fun _ => ?_) (fun _ => ?_)
  · refine r_iconst (pc := 17) ok (0 : Int32) dX11_restore_17 ci_0 ?_
    exact r_zret (pc := 18) ok dX11_restore_18 za_0 rfl
  · refine r_aload_n (pc := 19) ok dX11_restore_19 rfl ?_
    refine r_getR (pc := 20) ok cls11 sh_0 (k := 1) rfl (Nat.le_of_ble_eq_true rfl) rfl dX11_restore_20 fl_KL_19 ?_
    refine r_aload_n (pc := 23) ok dX11_restore_23 rfl ?_
    refine k_V (pc := 24)  (fun r4 => mx r4 YY) (fun r4 hr_ => c_V (n := 1) ok cls9 sh_4 rfl ml_KL_130 wv_X9_copyFrom yk_X9_copyFrom rfl (Nat.le_of_ble_eq_true rfl) (Nat.le_of_ble_eq_true rfl) (tSt_copyFrom (st_c (o := 4) (by decide)) (st_c (o := 76) (by decide)) (by decide) hr_) rfl (Nat.le_of_ble_eq_true rfl) dX11_restore_24) (fun r4 => ?_)
    refine r_aload_n (pc := 27) ok dX11_restore_27 rfl ?_
    refine r_getR (pc := 28) ok cls11 sh_0 (k := 5) rfl (Nat.le_of_ble_eq_true rfl) rfl dX11_restore_28 fl_KL_41 ?_
    refine k_V (pc := 31)  (fun r5 => mx r5 YY) (fun r5 hr_ => c_V (n := 0) ok cls4 sh_100 rfl ml_KL_134 wv_X4_forget yk_X4_forget rfl (Nat.le_of_ble_eq_true rfl) (Nat.le_of_ble_eq_true rfl) (tPa_forget hr_) rfl (Nat.le_of_ble_eq_true rfl) dX11_restore_31) (fun r5 => ?_)
    refine r_iconst (pc := 34) ok (1 : Int32) dX11_restore_34 ci_1 ?_
    exact r_zret (pc := 35) ok dX11_restore_35 za_1 rfl
theorem tKL_restore {l : Launch} {G : Gx} {b : Nat} {YY : Nat → Obj} {X : Nat → Obj} {v1 : Int32} {r : Int32 × (Nat → Obj)} (hr : fKL_restore X v1 = some r) : MetG l G b yX11_restore cX11_restore 3 (some .boolean) 3 [.ref (b + 0), .int v1] (mx X YY) (qI G b r.1 (mx r.2 YY)) := by
  refine met_start [some (.ref (b + 0)), some (.int v1), none] (by decide +kernel) (Nat.le_of_ble_eq_true rfl) rfl (fun Z hl ok => ?_)
  clear hl
  exact vKL_restore ok r (by rw [hr]; rfl)
theorem vKL_count {Z : Cx} {G : Gx} {b : Nat} {YY : Nat → Obj} {X : Nat → Obj} {v1 : Int32} (ok : OK Z G b cX11_count 3 0 RX11 (some .int)) : VO Z G b 3 (fun (r : Int32) => QX Z b (qI G b r (mx X YY))) (mx X YY) 0 [some (.ref (b + 0)), some (.int v1), none] [] ((fKL_count X v1).bind some) := by
  unfold fKL_count
  refine r_aload_n (pc := 0) ok dX11_count_0 rfl ?_
  refine r_getR (pc := 1) ok cls11 sh_0 (k := 1) rfl (Nat.le_of_ble_eq_true rfl) rfl dX11_count_1 fl_KL_19 ?_
  refine r_getR (pc := 4) ok cls9 sh_4 (k := 0) rfl (Nat.le_of_ble_eq_true rfl) rfl dX11_count_4 fl_KL_34 ?_
  refine r_astore_n (pc := 7) ok dX11_count_7 (Nat.le_of_ble_eq_true rfl) rfl ?_
  refine r_iload_n (pc := 8) ok dX11_count_8 rfl ?_
  refine r_ite (fun hs0 => ?_) (fun hs0 => ?_)
  · refine r_tsw (pc := 9) ok 48 (0 : Int32) dX11_count_9 hs0 (by decide +kernel) (by decide +kernel) rfl rfl ?_
    refine r_aload_n (pc := 48) ok dX11_count_48 rfl ?_
    refine r_getI (pc := 49) ok cls5 sh_5 (k := 3) rfl (Nat.le_of_ble_eq_true rfl) (mx_l (Nat.le_of_ble_eq_true rfl) rfl) dX11_count_49 fl_KL_329 ?_
    exact r_iret (pc := 52) ok dX11_count_52 rfl
  refine r_ite (fun hs1 => ?_) (fun hs1 => ?_)
  · refine r_tsw (pc := 9) ok 53 (1 : Int32) dX11_count_9 hs1 (by decide +kernel) (by decide +kernel) rfl rfl ?_
    refine r_aload_n (pc := 53) ok dX11_count_53 rfl ?_
    refine r_getI (pc := 54) ok cls5 sh_5 (k := 4) rfl (Nat.le_of_ble_eq_true rfl) (mx_l (Nat.le_of_ble_eq_true rfl) rfl) dX11_count_54 fl_KL_271 ?_
    exact r_iret (pc := 57) ok dX11_count_57 rfl
  refine r_ite (fun hs2 => ?_) (fun hs2 => ?_)
  · refine r_tsw (pc := 9) ok 58 (2 : Int32) dX11_count_9 hs2 (by decide +kernel) (by decide +kernel) rfl rfl ?_
    refine r_aload_n (pc := 58) ok dX11_count_58 rfl ?_
    refine r_getI (pc := 59) ok cls5 sh_5 (k := 0) rfl (Nat.le_of_ble_eq_true rfl) (mx_l (Nat.le_of_ble_eq_true rfl) rfl) dX11_count_59 fl_KL_332 ?_
    exact r_iret (pc := 62) ok dX11_count_62 rfl
  refine r_ite (fun hs3 => ?_) (fun hs3 => ?_)
  · refine r_tsw (pc := 9) ok 63 (3 : Int32) dX11_count_9 hs3 (by decide +kernel) (by decide +kernel) rfl rfl ?_
    refine r_aload_n (pc := 63) ok dX11_count_63 rfl ?_
    refine r_getI (pc := 64) ok cls5 sh_5 (k := 1) rfl (Nat.le_of_ble_eq_true rfl) (mx_l (Nat.le_of_ble_eq_true rfl) rfl) dX11_count_64 fl_KL_335 ?_
    exact r_iret (pc := 67) ok dX11_count_67 rfl
  refine r_ite (fun hs4 => ?_) (fun hs4 => ?_)
  · refine r_tsw (pc := 9) ok 68 (4 : Int32) dX11_count_9 hs4 (by decide +kernel) (by decide +kernel) rfl rfl ?_
    refine r_aload_n (pc := 68) ok dX11_count_68 rfl ?_
    refine r_getI (pc := 69) ok cls5 sh_5 (k := 2) rfl (Nat.le_of_ble_eq_true rfl) (mx_l (Nat.le_of_ble_eq_true rfl) rfl) dX11_count_69 fl_KL_338 ?_
    exact r_iret (pc := 72) ok dX11_count_72 rfl
  refine r_ite (fun hs5 => ?_) (fun hs5 => ?_)
  · refine r_tsw (pc := 9) ok 73 (5 : Int32) dX11_count_9 hs5 (by decide +kernel) (by decide +kernel) rfl rfl ?_
    refine r_aload_n (pc := 73) ok dX11_count_73 rfl ?_
    refine r_getR (pc := 74) ok cls11 sh_0 (k := 0) rfl (Nat.le_of_ble_eq_true rfl) rfl dX11_count_74 fl_KL_10 ?_
    refine r_getI (pc := 77) ok cls10 sh_1 (k := 1) rfl (Nat.le_of_ble_eq_true rfl) (mx_l (Nat.le_of_ble_eq_true rfl) rfl) dX11_count_77 fl_KL_104 ?_
    exact r_iret (pc := 80) ok dX11_count_80 rfl
  refine r_tswd (pc := 9) ok 81 dX11_count_9 (tsw_out6 hs0 hs1 hs2 hs3 hs4 hs5) rfl ?_
  refine r_iconst (pc := 81) ok (-1 : Int32) dX11_count_81 ci_m1 ?_
  exact r_iret (pc := 82) ok dX11_count_82 rfl
theorem tKL_count {l : Launch} {G : Gx} {b : Nat} {YY : Nat → Obj} {X : Nat → Obj} {v1 : Int32} {r : Int32} (hr : fKL_count X v1 = some r) : MetG l G b yX11_count cX11_count 3 (some .int) 0 [.ref (b + 0), .int v1] (mx X YY) (qI G b r (mx X YY)) := by
  refine met_start [some (.ref (b + 0)), some (.int v1), none] (by decide +kernel) (Nat.le_of_ble_eq_true rfl) rfl (fun Z hl ok => ?_)
  clear hl
  exact vKL_count ok r (by rw [hr]; rfl)
