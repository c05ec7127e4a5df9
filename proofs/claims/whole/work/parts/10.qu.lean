theorem vQu_clear {Z : Cx} {G : Gx} {b : Nat} {iq : Nat} {XX YY : Nat → Obj} {q : Obj} (ok : OK Z G b cX5_clear 1 0 RX5 none) (hq : isQu iq) : VO Z G b 1 (fun (r : Obj) => QX Z b (qV G b (mx (va_up XX iq r) YY))) (mx (va_up XX iq q) YY) 0 [some (.ref (b + iq))] [] ((fQu_clear q).bind some) := by
  unfold fQu_clear
  refine r_aload_n (pc := 0) ok dX5_clear_0 rfl ?_
  refine r_bipush (pc := 1) ok (10 : Int32) dX5_clear_1 cb_10 ?_
  refine r_putI (pc := 3) ok cls5 (qu_sh hq) (k := 0) rfl (Nat.le_of_ble_eq_true rfl) (fun s_ => mx (va_up XX iq s_) YY) (pm_l (qu_lt hq) (pm_0 _ _)).1 (pm_l (qu_lt hq) (pm_0 _ _)).2 rfl rfl rfl dX5_clear_3 fl_Qu_9 (fun s1 => ?_)
  refine r_aload_n (pc := 6) ok dX5_clear_6 rfl ?_
  refine r_iconst (pc := 7) ok (2 : Int32) dX5_clear_7 ci_2 ?_
  refine r_putI (pc := 8) ok cls5 (qu_sh hq) (k := 1) rfl (Nat.le_of_ble_eq_true rfl) (fun s_ => mx (va_up XX iq s_) YY) (pm_l (qu_lt hq) (pm_0 _ _)).1 (pm_l (qu_lt hq) (pm_0 _ _)).2 rfl rfl rfl dX5_clear_8 fl_Qu_15 (fun s2 => ?_)
  refine r_aload_n (pc := 11) ok dX5_clear_11 rfl ?_
  refine r_iconst (pc := 12) ok (3 : Int32) dX5_clear_12 ci_3 ?_
  refine r_putI (pc := 13) ok cls5 (qu_sh hq) (k := 2) rfl (Nat.le_of_ble_eq_true rfl) (fun s_ => mx (va_up XX iq s_) YY) (pm_l (qu_lt hq) (pm_0 _ _)).1 (pm_l (qu_lt hq) (pm_0 _ _)).2 rfl rfl rfl dX5_clear_13 fl_Qu_18 (fun s3 => ?_)
  refine r_aload_n (pc := 16) ok dX5_clear_16 rfl ?_
  refine r_iconst (pc := 17) ok (0 : Int32) dX5_clear_17 ci_0 ?_
  refine r_putI (pc := 18) ok cls5 (qu_sh hq) (k := 3) rfl (Nat.le_of_ble_eq_true rfl) (fun s_ => mx (va_up XX iq s_) YY) (pm_l (qu_lt hq) (pm_0 _ _)).1 (pm_l (qu_lt hq) (pm_0 _ _)).2 rfl rfl rfl dX5_clear_18 fl_Qu_41 (fun s4 => ?_)
  refine r_aload_n (pc := 21) ok dX5_clear_21 rfl ?_
  refine r_iconst (pc := 22) ok (0 : Int32) dX5_clear_22 ci_0 ?_
  refine r_putI (pc := 23) ok cls5 (qu_sh hq) (k := 4) rfl (Nat.le_of_ble_eq_true rfl) (fun s_ => mx (va_up XX iq s_) YY) (pm_l (qu_lt hq) (pm_0 _ _)).1 (pm_l (qu_lt hq) (pm_0 _ _)).2 rfl rfl rfl dX5_clear_23 fl_Qu_44 (fun s5 => ?_)
  exact r_vret (pc := 26) ok dX5_clear_26 rfl
theorem tQu_clear {l : Launch} {G : Gx} {b : Nat} {iq : Nat} {XX YY : Nat → Obj} {q : Obj} (hq : isQu iq) {r : Obj} (hr : fQu_clear q = some r) : MetG l G b yX5_clear cX5_clear 1 none 0 [.ref (b + iq)] (mx (va_up XX iq q) YY) (qV G b (mx (va_up XX iq r) YY)) := by
  refine met_start [some (.ref (b + iq))] (by decide +kernel) (Nat.le_of_ble_eq_true rfl) rfl (fun Z hl ok => ?_)
  clear hl
  exact vQu_clear ok hq r (by rw [hr]; rfl)
theorem wQu_findPerson_L2 {Z : Cx} {G : Gx} {b : Nat} {iq : Nat} {XX YY : Nat → Obj} {q : Obj} {v1 : Int64} (ok : OK Z G b cX5_findPerson 4 0 RX5 (some .int)) (hq : isQu iq) (hr_q : XX iq = q) {K : ((Int32) ⊕ ((Unit) ⊕ (Int32))) → Option (Int32)} (hc : ∀ (a : Int32), VO Z G b 4 (fun (r : Int32) => QX Z b (qI G b r (mx XX YY))) (mx XX YY) 2 [some (.ref (b + iq)), some (.long v1), none, some (.int a)] [] (K (.inl a))) (hx : ∀ (z : (Unit) ⊕ (Int32)), (∀ (e : Unit), z = .inl e → VO Z G b 4 (fun (r : Int32) => QX Z b (qI G b r (mx XX YY))) (mx XX YY) 35 [none, none, none, none] [] (K (.inr z))) ∧ (∀ (r : Int32), z = .inr r → K (.inr z) = some r)) : ∀ (a : Int32), VO Z G b 4 (fun (r : Int32) => QX Z b (qI G b r (mx XX YY))) (mx XX YY) 2 [some (.ref (b + iq)), some (.long v1), none, some (.int a)] [] ((fQu_findPerson_L2 q v1 a).bind K) := by
  intro a
  unfold fQu_findPerson_L2
  refine r_iload_n (pc := 2) ok dX5_findPerson_2 rfl ?_
  refine r_aload_n (pc := 3) ok dX5_findPerson_3 rfl ?_
  refine r_getI (pc := 4) ok cls5 (qu_sh hq) (k := 4) rfl (Nat.le_of_ble_eq_true rfl) (mx_l (qu_lt hq) (hr_q)) dX5_findPerson_4 fl_Qu_44 ?_
  refine r_icmp_ge (pc := 7) ok 35 dX5_findPerson_7 rfl (fun _ => ?_) (fun _ => ?_)
  · refine r_lv (lk_n (lk_n (lk_n (lk_n lk_0 _) _) _) _) ?_
    exact (hx (.inl ())).1 _ rfl
  · refine r_iload_n (pc := 10) ok dX5_findPerson_10 rfl ?_
    refine r_bipush (pc := 11) ok (8 : Int32) dX5_findPerson_11 cb_8 ?_
    refine r_icmp_ge (pc := 13) ok 35 dX5_findPerson_13 rfl (fun _ => ?_) (fun _ => ?_)
    · refine r_lv (lk_n (lk_n (lk_n (lk_n lk_0 _) _) _) _) ?_
      exact (hx (.inl ())).1 _ rfl
    · refine r_aload_n (pc := 16) ok dX5_findPerson_16 rfl ?_
      refine r_getR (pc := 17) ok cls5 (qu_sh hq) (k := 10) rfl (Nat.le_of_ble_eq_true rfl) rfl dX5_findPerson_17 fl_Qu_38 ?_
      refine r_iload_n (pc := 20) ok dX5_findPerson_20 rfl ?_
      refine r_lald (pc := 21) ok (qu_s6 hq) (Nat.add_sub_cancel_left _ _) (mx_l (qu_lt hq) (hr_q)) dX5_findPerson_21 (fun i1 => ?_)
      refine r_lload_n (pc := 22) ok dX5_findPerson_22 rfl ?_
      refine r_lcmp (pc := 23) ok dX5_findPerson_23 ?_
      refine r_if_ne (pc := 24) ok 29 dX5_findPerson_24 rfl (fun _ => ?_) (fun _ => ?_)
      · refine r_iload_n (pc := 27) ok dX5_findPerson_27 rfl ?_
        refine r_eq ((hx (.inr a)).2 _ rfl) ?_
        exact r_iret (pc := 28) ok dX5_findPerson_28 rfl
      · refine r_iinc (pc := 29) ok (1 : Int32) dX5_findPerson_29 ci_1 rfl (Nat.le_of_ble_eq_true rfl) rfl ?_
        refine r_goto (pc := 32) ok 2 dX5_findPerson_32 rfl ?_
        exact hc (a + (1 : Int32))
theorem vQu_findPerson {Z : Cx} {G : Gx} {b : Nat} {iq : Nat} {XX YY : Nat → Obj} {q : Obj} {v1 : Int64} (ok : OK Z G b cX5_findPerson 4 0 RX5 (some .int)) (hq : isQu iq) (hr_q : XX iq = q) : VO Z G b 4 (fun (r : Int32) => QX Z b (qI G b r (mx XX YY))) (mx XX YY) 0 [some (.ref (b + iq)), some (.long v1), none, none] [] ((fQu_findPerson q v1).bind some) := by
  unfold fQu_findPerson
  refine r_iconst (pc := 0) ok (0 : Int32) dX5_findPerson_0 ci_0 ?_
  refine r_istore_n (pc := 1) ok dX5_findPerson_1 (Nat.le_of_ble_eq_true rfl) rfl ?_
  refine r_iter (P := fun (a : Int32) o => VO Z G b 4 (fun (r : Int32) => QX Z b (qI G b r (mx XX YY))) (mx XX YY) 2 [some (.ref (b + iq)), some (.long v1), none, some (.int a)] [] o) (E := fun (z : (Unit) ⊕ (Int32)) o => (∀ (e : Unit), z = .inl e → VO Z G b 4 (fun (r : Int32) => QX Z b (qI G b r (mx XX YY))) (mx XX YY) 35 [none, none, none, none] [] o) ∧ (∀ (r : Int32), z = .inr r → o = some r)) (fun _ => r_none) (fun K hc hx => wQu_findPerson_L2 ok hq hr_q (K := K) hc hx) (fun z => ⟨fun e2 hz => ?_, fun r hz => ?_⟩) FU (0 : Int32)
  · subst hz
    refine r_iconst (pc := 35) ok (-1 : Int32) dX5_findPerson_35 ci_m1 ?_
    exact r_iret (pc := 36) ok dX5_findPerson_36 rfl
  · subst hz
    rfl
theorem tQu_findPerson {l : Launch} {G : Gx} {b : Nat} {iq : Nat} {XX YY : Nat → Obj} {q : Obj} {v1 : Int64} (hq : isQu iq) (hr_q : XX iq = q) {r : Int32} (hr : fQu_findPerson q v1 = some r) : MetG l G b yX5_findPerson cX5_findPerson 4 (some .int) 0 [.ref (b + iq), .long v1] (mx XX YY) (qI G b r (mx XX YY)) := by
  refine met_start [some (.ref (b + iq)), some (.long v1), none, none] (by decide +kernel) (Nat.le_of_ble_eq_true rfl) rfl (fun Z hl ok => ?_)
  clear hl
  exact vQu_findPerson ok hq hr_q r (by rw [hr]; rfl)
theorem vQu_hasPerson {Z : Cx} {G : Gx} {b : Nat} {iq : Nat} {XX YY : Nat → Obj} {q : Obj} {v1 : Int32} (ok : OK Z G b cX5_hasPerson 2 0 RX5 (some .boolean)) (hq : isQu iq) (hr_q : XX iq = q) : VO Z G b 2 (fun (r : Int32) => QX Z b (qI G b r (mx XX YY))) (mx XX YY) 0 [some (.ref (b + iq)), some (.int v1)] [] ((fQu_hasPerson q v1).bind some) := by
  unfold fQu_hasPerson
  refine r_iload_n (pc := 0) ok dX5_hasPerson_0 rfl ?_
  refine r_if_lt (pc := 1) ok 22 dX5_hasPerson_1 rfl (fun _ => ?_) (fun _ => ?_)
  · refine r_iconst (pc := 22) ok (0 : Int32) dX5_hasPerson_22 ci_0 ?_
    exact r_zret (pc := 23) ok dX5_hasPerson_23 (by decide +kernel) rfl
  · refine r_iload_n (pc := 4) ok dX5_hasPerson_4 rfl ?_
    refine r_aload_n (pc := 5) ok dX5_hasPerson_5 rfl ?_
    refine r_getI (pc := 6) ok cls5 (qu_sh hq) (k := 4) rfl (Nat.le_of_ble_eq_true rfl) (mx_l (qu_lt hq) (hr_q)) dX5_hasPerson_6 fl_Qu_44 ?_
    refine r_icmp_ge (pc := 9) ok 22 dX5_hasPerson_9 rfl (fun _ => ?_) (fun _ => ?_)
    · refine r_iconst (pc := 22) ok (0 : Int32) dX5_hasPerson_22 ci_0 ?_
      exact r_zret (pc := 23) ok dX5_hasPerson_23 (by decide +kernel) rfl
    · refine r_iload_n (pc := 12) ok dX5_hasPerson_12 rfl ?_
      refine r_bipush (pc := 13) ok (8 : Int32) dX5_hasPerson_13 cb_8 ?_
      refine r_icmp_ge (pc := 15) ok 22 dX5_hasPerson_15 rfl (fun _ => ?_) (fun _ => ?_)
      · refine r_iconst (pc := 22) ok (0 : Int32) dX5_hasPerson_22 ci_0 ?_
        exact r_zret (pc := 23) ok dX5_hasPerson_23 (by decide +kernel) rfl
      · refine r_iconst (pc := 18) ok (1 : Int32) dX5_hasPerson_18 ci_1 ?_
        refine r_goto (pc := 19) ok 23 dX5_hasPerson_19 rfl ?_
        exact r_zret (pc := 23) ok dX5_hasPerson_23 (by decide +kernel) rfl
theorem tQu_hasPerson {l : Launch} {G : Gx} {b : Nat} {iq : Nat} {XX YY : Nat → Obj} {q : Obj} {v1 : Int32} (hq : isQu iq) (hr_q : XX iq = q) {r : Int32} (hr : fQu_hasPerson q v1 = some r) : MetG l G b yX5_hasPerson cX5_hasPerson 2 (some .boolean) 0 [.ref (b + iq), .int v1] (mx XX YY) (qI G b r (mx XX YY)) := by
  refine met_start [some (.ref (b + iq)), some (.int v1)] (by decide +kernel) (Nat.le_of_ble_eq_true rfl) rfl (fun Z hl ok => ?_)
  clear hl
  exact vQu_hasPerson ok hq hr_q r (by rw [hr]; rfl)
theorem vQu_hasHouse {Z : Cx} {G : Gx} {b : Nat} {iq : Nat} {XX YY : Nat → Obj} {q : Obj} {v1 : Int32} (ok : OK Z G b cX5_hasHouse 2 0 RX5 (some .boolean)) (hq : isQu iq) (hr_q : XX iq = q) : VO Z G b 2 (fun (r : Int32) => QX Z b (qI G b r (mx XX YY))) (mx XX YY) 0 [some (.ref (b + iq)), some (.int v1)] [] ((fQu_hasHouse q v1).bind some) := by
  unfold fQu_hasHouse
  refine r_iload_n (pc := 0) ok dX5_hasHouse_0 rfl ?_
  refine r_if_lt (pc := 1) ok 22 dX5_hasHouse_1 rfl (fun _ => ?_) (fun _ => ?_)
  · refine r_iconst (pc := 22) ok (0 : Int32) dX5_hasHouse_22 ci_0 ?_
    exact r_zret (pc := 23) ok dX5_hasHouse_23 (by decide +kernel) rfl
  · refine r_iload_n (pc := 4) ok dX5_hasHouse_4 rfl ?_
    refine r_aload_n (pc := 5) ok dX5_hasHouse_5 rfl ?_
    refine r_getI (pc := 6) ok cls5 (qu_sh hq) (k := 3) rfl (Nat.le_of_ble_eq_true rfl) (mx_l (qu_lt hq) (hr_q)) dX5_hasHouse_6 fl_Qu_41 ?_
    refine r_icmp_ge (pc := 9) ok 22 dX5_hasHouse_9 rfl (fun _ => ?_) (fun _ => ?_)
    · refine r_iconst (pc := 22) ok (0 : Int32) dX5_hasHouse_22 ci_0 ?_
      exact r_zret (pc := 23) ok dX5_hasHouse_23 (by decide +kernel) rfl
    · refine r_iload_n (pc := 12) ok dX5_hasHouse_12 rfl ?_
      refine r_bipush (pc := 13) ok (6 : Int32) dX5_hasHouse_13 cb_6 ?_
      refine r_icmp_ge (pc := 15) ok 22 dX5_hasHouse_15 rfl (fun _ => ?_) (fun _ => ?_)
      · refine r_iconst (pc := 22) ok (0 : Int32) dX5_hasHouse_22 ci_0 ?_
        exact r_zret (pc := 23) ok dX5_hasHouse_23 (by decide +kernel) rfl
      · refine r_iconst (pc := 18) ok (1 : Int32) dX5_hasHouse_18 ci_1 ?_
        refine r_goto (pc := 19) ok 23 dX5_hasHouse_19 rfl ?_
        exact r_zret (pc := 23) ok dX5_hasHouse_23 (by decide +kernel) rfl
theorem tQu_hasHouse {l : Launch} {G : Gx} {b : Nat} {iq : Nat} {XX YY : Nat → Obj} {q : Obj} {v1 : Int32} (hq : isQu iq) (hr_q : XX iq = q) {r : Int32} (hr : fQu_hasHouse q v1 = some r) : MetG l G b yX5_hasHouse cX5_hasHouse 2 (some .boolean) 0 [.ref (b + iq), .int v1] (mx XX YY) (qI G b r (mx XX YY)) := by
  refine met_start [some (.ref (b + iq)), some (.int v1)] (by decide +kernel) (Nat.le_of_ble_eq_true rfl) rfl (fun Z hl ok => ?_)
  clear hl
  exact vQu_hasHouse ok hq hr_q r (by rw [hr]; rfl)
theorem vQu_homeOf {Z : Cx} {G : Gx} {b : Nat} {iq : Nat} {XX YY : Nat → Obj} {q : Obj} {v1 : Int32} (ok : OK Z G b cX5_homeOf 2 1 RX5 (some .int)) (hq : isQu iq) (hr_q : XX iq = q) : VO Z G b 2 (fun (r : Int32) => QX Z b (qI G b r (mx XX YY))) (mx XX YY) 0 [some (.ref (b + iq)), some (.int v1)] [] ((fQu_homeOf q v1).bind some) := by
  unfold fQu_homeOf
  refine r_aload_n (pc := 0) ok dX5_homeOf_0 rfl ?_
  refine r_iload_n (pc := 1) ok dX5_homeOf_1 rfl ?_
  refine k_I (pc := 2) (fun r1 => r1) (fun r1 => mx XX YY) (fun r1 hr_ => c_V (n := 1) ok cls5 (qu_sh hq) rfl ml_Qu_57 wv_X5_hasPerson yk_X5_hasPerson rfl (Nat.le_of_ble_eq_true rfl) (Nat.le_of_ble_eq_true rfl) (tQu_hasPerson hq (hr_q) hr_) rfl (Nat.le_of_ble_eq_true rfl) dX5_homeOf_2) (fun r1 => ?_)
  refine r_if_eq (pc := 5) ok 17 dX5_homeOf_5 rfl (fun _ => ?_) (fun _ => ?_)
  · refine r_iconst (pc := 17) ok (-1 : Int32) dX5_homeOf_17 ci_m1 ?_
    exact r_iret (pc := 18) ok dX5_homeOf_18 rfl
  · refine r_aload_n (pc := 8) ok dX5_homeOf_8 rfl ?_
    refine r_getR (pc := 9) ok cls5 (qu_sh hq) (k := 8) rfl (Nat.le_of_ble_eq_true rfl) rfl dX5_homeOf_9 fl_Qu_32 ?_
    refine r_iload_n (pc := 12) ok dX5_homeOf_12 rfl ?_
    refine r_iald (pc := 13) ok (qu_s4 hq) (Nat.add_sub_cancel_left _ _) (mx_l (qu_lt hq) (hr_q)) dX5_homeOf_13 (fun i2 => ?_)
    refine r_goto (pc := 14) ok 18 dX5_homeOf_14 rfl ?_
    exact r_iret (pc := 18) ok dX5_homeOf_18 rfl
theorem tQu_homeOf {l : Launch} {G : Gx} {b : Nat} {iq : Nat} {XX YY : Nat → Obj} {q : Obj} {v1 : Int32} (hq : isQu iq) (hr_q : XX iq = q) {r : Int32} (hr : fQu_homeOf q v1 = some r) : MetG l G b yX5_homeOf cX5_homeOf 2 (some .int) 1 [.ref (b + iq), .int v1] (mx XX YY) (qI G b r (mx XX YY)) := by
  refine met_start [some (.ref (b + iq)), some (.int v1)] (by decide +kernel) (Nat.le_of_ble_eq_true rfl) rfl (fun Z hl ok => ?_)
  clear hl
  exact vQu_homeOf ok hq hr_q r (by rw [hr]; rfl)
theorem wQu_findHouse_L2 {Z : Cx} {G : Gx} {b : Nat} {iq : Nat} {XX YY : Nat → Obj} {q : Obj} {v1 : Int64} (ok : OK Z G b cX5_findHouse 4 0 RX5 (some .int)) (hq : isQu iq) (hr_q : XX iq = q) {K : ((Int32) ⊕ ((Unit) ⊕ (Int32))) → Option (Int32)} (hc : ∀ (a : Int32), VO Z G b 4 (fun (r : Int32) => QX Z b (qI G b r (mx XX YY))) (mx XX YY) 2 [some (.ref (b + iq)), some (.long v1), none, some (.int a)] [] (K (.inl a))) (hx : ∀ (z : (Unit) ⊕ (Int32)), (∀ (e : Unit), z = .inl e → VO Z G b 4 (fun (r : Int32) => QX Z b (qI G b r (mx XX YY))) (mx XX YY) 35 [none, none, none, none] [] (K (.inr z))) ∧ (∀ (r : Int32), z = .inr r → K (.inr z) = some r)) : ∀ (a : Int32), VO Z G b 4 (fun (r : Int32) => QX Z b (qI G b r (mx XX YY))) (mx XX YY) 2 [some (.ref (b + iq)), some (.long v1), none, some (.int a)] [] ((fQu_findHouse_L2 q v1 a).bind K) := by
  intro a
  unfold fQu_findHouse_L2
  refine r_iload_n (pc := 2) ok dX5_findHouse_2 rfl ?_
  refine r_aload_n (pc := 3) ok dX5_findHouse_3 rfl ?_
  refine r_getI (pc := 4) ok cls5 (qu_sh hq) (k := 3) rfl (Nat.le_of_ble_eq_true rfl) (mx_l (qu_lt hq) (hr_q)) dX5_findHouse_4 fl_Qu_41 ?_
  refine r_icmp_ge (pc := 7) ok 35 dX5_findHouse_7 rfl (fun _ => ?_) (fun _ => ?_)
  · refine r_lv (lk_n (lk_n (lk_n (lk_n lk_0 _) _) _) _) ?_
    exact (hx (.inl ())).1 _ rfl
  · refine r_iload_n (pc := 10) ok dX5_findHouse_10 rfl ?_
    refine r_bipush (pc := 11) ok (6 : Int32) dX5_findHouse_11 cb_6 ?_
    refine r_icmp_ge (pc := 13) ok 35 dX5_findHouse_13 rfl (fun _ => ?_) (fun _ => ?_)
    · refine r_lv (lk_n (lk_n (lk_n (lk_n lk_0 _) _) _) _) ?_
      exact (hx (.inl ())).1 _ rfl
    · refine r_aload_n (pc := 16) ok dX5_findHouse_16 rfl ?_
      refine r_getR (pc := 17) ok cls5 (qu_sh hq) (k := 7) rfl (Nat.le_of_ble_eq_true rfl) rfl dX5_findHouse_17 fl_Qu_28 ?_
      refine r_iload_n (pc := 20) ok dX5_findHouse_20 rfl ?_
      refine r_lald (pc := 21) ok (qu_s3 hq) (Nat.add_sub_cancel_left _ _) (mx_l (qu_lt hq) (hr_q)) dX5_findHouse_21 (fun i1 => ?_)
      refine r_lload_n (pc := 22) ok dX5_findHouse_22 rfl ?_
      refine r_lcmp (pc := 23) ok dX5_findHouse_23 ?_
      refine r_if_ne (pc := 24) ok 29 dX5_findHouse_24 rfl (fun _ => ?_) (fun _ => ?_)
      · refine r_iload_n (pc := 27) ok dX5_findHouse_27 rfl ?_
        refine r_eq ((hx (.inr a)).2 _ rfl) ?_
        exact r_iret (pc := 28) ok dX5_findHouse_28 rfl
      · refine r_iinc (pc := 29) ok (1 : Int32) dX5_findHouse_29 ci_1 rfl (Nat.le_of_ble_eq_true rfl) rfl ?_
        refine r_goto (pc := 32) ok 2 dX5_findHouse_32 rfl ?_
        exact hc (a + (1 : Int32))
theorem vQu_findHouse {Z : Cx} {G : Gx} {b : Nat} {iq : Nat} {XX YY : Nat → Obj} {q : Obj} {v1 : Int64} (ok : OK Z G b cX5_findHouse 4 0 RX5 (some .int)) (hq : isQu iq) (hr_q : XX iq = q) : VO Z G b 4 (fun (r : Int32) => QX Z b (qI G b r (mx XX YY))) (mx XX YY) 0 [some (.ref (b + iq)), some (.long v1), none, none] [] ((fQu_findHouse q v1).bind some) := by
  unfold fQu_findHouse
  refine r_iconst (pc := 0) ok (0 : Int32) dX5_findHouse_0 ci_0 ?_
  refine r_istore_n (pc := 1) ok dX5_findHouse_1 (Nat.le_of_ble_eq_true rfl) rfl ?_
  refine r_iter (P := fun (a : Int32) o => VO Z G b 4 (fun (r : Int32) => QX Z b (qI G b r (mx XX YY))) (mx XX YY) 2 [some (.ref (b + iq)), some (.long v1), none, some (.int a)] [] o) (E := fun (z : (Unit) ⊕ (Int32)) o => (∀ (e : Unit), z = .inl e → VO Z G b 4 (fun (r : Int32) => QX Z b (qI G b r (mx XX YY))) (mx XX YY) 35 [none, none, none, none] [] o) ∧ (∀ (r : Int32), z = .inr r → o = some r)) (fun _ => r_none) (fun K hc hx => wQu_findHouse_L2 ok hq hr_q (K := K) hc hx) (fun z => ⟨fun e2 hz => ?_, fun r hz => ?_⟩) FU (0 : Int32)
  · subst hz
    refine r_iconst (pc := 35) ok (-1 : Int32) dX5_findHouse_35 ci_m1 ?_
    exact r_iret (pc := 36) ok dX5_findHouse_36 rfl
  · subst hz
    rfl
theorem tQu_findHouse {l : Launch} {G : Gx} {b : Nat} {iq : Nat} {XX YY : Nat → Obj} {q : Obj} {v1 : Int64} (hq : isQu iq) (hr_q : XX iq = q) {r : Int32} (hr : fQu_findHouse q v1 = some r) : MetG l G b yX5_findHouse cX5_findHouse 4 (some .int) 0 [.ref (b + iq), .long v1] (mx XX YY) (qI G b r (mx XX YY)) := by
  refine met_start [some (.ref (b + iq)), some (.long v1), none, none] (by decide +kernel) (Nat.le_of_ble_eq_true rfl) rfl (fun Z hl ok => ?_)
  clear hl
  exact vQu_findHouse ok hq hr_q r (by rw [hr]; rfl)
theorem vQu_addPerson {Z : Cx} {G : Gx} {b : Nat} {iq : Nat} {XX YY : Nat → Obj} {q : Obj} {v1 : Int64} {v3 : Int32} {v4 : Int32} (ok : OK Z G b cX5_addPerson 5 1 RX5 none) (hq : isQu iq) : VO Z G b 5 (fun (r : Obj) => QX Z b (qV G b (mx (va_up XX iq r) YY))) (mx (va_up XX iq q) YY) 0 [some (.ref (b + iq)), some (.long v1), none, some (.int v3), some (.int v4)] [] ((fQu_addPerson q v1 v3 v4).bind some) := by
  unfold fQu_addPerson
  refine r_aload_n (pc := 0) ok dX5_addPerson_0 rfl ?_
  refine r_getI (pc := 1) ok cls5 (qu_sh hq) (k := 4) rfl (Nat.le_of_ble_eq_true rfl) (mx_l (qu_lt hq) (va_up_self _ _ _)) dX5_addPerson_1 fl_Qu_44 ?_
  refine r_bipush (pc := 4) ok (8 : Int32) dX5_addPerson_4 cb_8 ?_
  refine r_icmp_ge (pc := 6) ok 73 dX5_addPerson_6 rfl (fun _ => ?_) (fun _ => ?_)
  · exact r_vret (pc := 73) ok dX5_addPerson_73 rfl
  · refine r_aload_n (pc := 9) ok dX5_addPerson_9 rfl ?_
    refine r_getR (pc := 10) ok cls5 (qu_sh hq) (k := 10) rfl (Nat.le_of_ble_eq_true rfl) rfl dX5_addPerson_10 fl_Qu_38 ?_
    refine r_aload_n (pc := 13) ok dX5_addPerson_13 rfl ?_
    refine r_getI (pc := 14) ok cls5 (qu_sh hq) (k := 4) rfl (Nat.le_of_ble_eq_true rfl) (mx_l (qu_lt hq) (va_up_self _ _ _)) dX5_addPerson_14 fl_Qu_44 ?_
    refine r_lload_n (pc := 17) ok dX5_addPerson_17 rfl ?_
    refine r_last (pc := 18) ok (qu_s6 hq) (Nat.add_sub_cancel_left _ _) rfl (fun s_ => mx (va_up XX iq s_) YY) (pm_l (qu_lt hq) (pm_0 _ _)).1 (pm_l (qu_lt hq) (pm_0 _ _)).2 dX5_addPerson_18 (fun i1 s2 => ?_)
    refine r_aload_n (pc := 19) ok dX5_addPerson_19 rfl ?_
    refine r_getR (pc := 20) ok cls5 (qu_sh hq) (k := 8) rfl (Nat.le_of_ble_eq_true rfl) rfl dX5_addPerson_20 fl_Qu_32 ?_
    refine r_aload_n (pc := 23) ok dX5_addPerson_23 rfl ?_
    refine r_getI (pc := 24) ok cls5 (qu_sh hq) (k := 4) rfl (Nat.le_of_ble_eq_true rfl) (mx_l (qu_lt hq) (va_up_self _ _ _)) dX5_addPerson_24 fl_Qu_44 ?_
    refine r_iload_n (pc := 27) ok dX5_addPerson_27 rfl ?_
    refine r_iast (pc := 28) ok (qu_s4 hq) (Nat.add_sub_cancel_left _ _) rfl (fun s_ => mx (va_up XX iq s_) YY) (pm_l (qu_lt hq) (pm_0 _ _)).1 (pm_l (qu_lt hq) (pm_0 _ _)).2 dX5_addPerson_28 (fun i3 s4 => ?_)
    refine r_aload_n (pc := 29) ok dX5_addPerson_29 rfl ?_
    refine r_getR (pc := 30) ok cls5 (qu_sh hq) (k := 9) rfl (Nat.le_of_ble_eq_true rfl) rfl dX5_addPerson_30 fl_Qu_35 ?_
    refine r_aload_n (pc := 33) ok dX5_addPerson_33 rfl ?_
    refine r_getI (pc := 34) ok cls5 (qu_sh hq) (k := 4) rfl (Nat.le_of_ble_eq_true rfl) (mx_l (qu_lt hq) (va_up_self _ _ _)) dX5_addPerson_34 fl_Qu_44 ?_
    refine r_iload (pc := 37) ok dX5_addPerson_37 rfl ?_
    refine r_iast (pc := 39) ok (qu_s5 hq) (Nat.add_sub_cancel_left _ _) rfl (fun s_ => mx (va_up XX iq s_) YY) (pm_l (qu_lt hq) (pm_0 _ _)).1 (pm_l (qu_lt hq) (pm_0 _ _)).2 dX5_addPerson_39 (fun i5 s6 => ?_)
    refine r_aload_n (pc := 40) ok dX5_addPerson_40 rfl ?_
    refine r_iload_n (pc := 41) ok dX5_addPerson_41 rfl ?_
    refine k_I (pc := 42) (fun r7 => r7) (fun r7 => mx (va_up XX iq s6) YY) (fun r7 hr_ => c_V (n := 1) ok cls5 (qu_sh hq) rfl ml_Qu_53 wv_X5_hasHouse yk_X5_hasHouse rfl (Nat.le_of_ble_eq_true rfl) (Nat.le_of_ble_eq_true rfl) (tQu_hasHouse hq (va_up_self _ _ _) hr_) rfl (Nat.le_of_ble_eq_true rfl) dX5_addPerson_42) (fun r7 => ?_)
    refine r_if_eq (pc := 45) ok 63 dX5_addPerson_45 rfl (fun _ => ?_) (fun _ => ?_)
    · refine r_aload_n (pc := 63) ok dX5_addPerson_63 rfl ?_
      refine r_dup (pc := 64) ok dX5_addPerson_64 rfl ?_
      refine r_getI (pc := 65) ok cls5 (qu_sh hq) (k := 4) rfl (Nat.le_of_ble_eq_true rfl) (mx_l (qu_lt hq) (va_up_self _ _ _)) dX5_addPerson_65 fl_Qu_44 ?_
      refine r_iconst (pc := 68) ok (1 : Int32) dX5_addPerson_68 ci_1 ?_
      refine r_iadd (pc := 69) ok dX5_addPerson_69 ?_
      refine r_putI (pc := 70) ok cls5 (qu_sh hq) (k := 4) rfl (Nat.le_of_ble_eq_true rfl) (fun s_ => mx (va_up XX iq s_) YY) (pm_l (qu_lt hq) (pm_0 _ _)).1 (pm_l (qu_lt hq) (pm_0 _ _)).2 rfl rfl rfl dX5_addPerson_70 fl_Qu_44 (fun s8 => ?_)
      exact r_vret (pc := 73) ok dX5_addPerson_73 rfl
    · refine r_aload_n (pc := 48) ok dX5_addPerson_48 rfl ?_
      refine r_getR (pc := 49) ok cls5 (qu_sh hq) (k := 6) rfl (Nat.le_of_ble_eq_true rfl) rfl dX5_addPerson_49 fl_Qu_25 ?_
      refine r_iload_n (pc := 52) ok dX5_addPerson_52 rfl ?_
      refine r_dup2 (pc := 53) ok dX5_addPerson_53 rfl rfl ?_
      refine r_iald (pc := 54) ok (qu_s2 hq) (Nat.add_sub_cancel_left _ _) (mx_l (qu_lt hq) (va_up_self _ _ _)) dX5_addPerson_54 (fun i9 => ?_)
      refine r_iconst (pc := 55) ok (1 : Int32) dX5_addPerson_55 ci_1 ?_
      refine r_aload_n (pc := 56) ok dX5_addPerson_56 rfl ?_
      refine r_getI (pc := 57) ok cls5 (qu_sh hq) (k := 4) rfl (Nat.le_of_ble_eq_true rfl) (mx_l (qu_lt hq) (va_up_self _ _ _)) dX5_addPerson_57 fl_Qu_44 ?_
      refine r_ishl (pc := 60) ok dX5_addPerson_60 ?_
      refine r_ior (pc := 61) ok dX5_addPerson_61 ?_
      refine r_iast (pc := 62) ok (qu_s2 hq) (Nat.add_sub_cancel_left _ _) rfl (fun s_ => mx (va_up XX iq s_) YY) (pm_l (qu_lt hq) (pm_0 _ _)).1 (pm_l (qu_lt hq) (pm_0 _ _)).2 dX5_addPerson_62 (fun i10 s11 => ?_)
      refine r_aload_n (pc := 63) ok dX5_addPerson_63 rfl ?_
      refine r_dup (pc := 64) ok dX5_addPerson_64 rfl ?_
      refine r_getI (pc := 65) ok cls5 (qu_sh hq) (k := 4) rfl (Nat.le_of_ble_eq_true rfl) (mx_l (qu_lt hq) (va_up_self _ _ _)) dX5_addPerson_65 fl_Qu_44 ?_
      refine r_iconst (pc := 68) ok (1 : Int32) dX5_addPerson_68 ci_1 ?_
      refine r_iadd (pc := 69) ok dX5_addPerson_69 ?_
      refine r_putI (pc := 70) ok cls5 (qu_sh hq) (k := 4) rfl (Nat.le_of_ble_eq_true rfl) (fun s_ => mx (va_up XX iq s_) YY) (pm_l (qu_lt hq) (pm_0 _ _)).1 (pm_l (qu_lt hq) (pm_0 _ _)).2 rfl rfl rfl dX5_addPerson_70 fl_Qu_44 (fun s12 => ?_)
      exact r_vret (pc := 73) ok dX5_addPerson_73 rfl
theorem tQu_addPerson {l : Launch} {G : Gx} {b : Nat} {iq : Nat} {XX YY : Nat → Obj} {q : Obj} {v1 : Int64} {v3 : Int32} {v4 : Int32} (hq : isQu iq) {r : Obj} (hr : fQu_addPerson q v1 v3 v4 = some r) : MetG l G b yX5_addPerson cX5_addPerson 5 none 1 [.ref (b + iq), .long v1, .int v3, .int v4] (mx (va_up XX iq q) YY) (qV G b (mx (va_up XX iq r) YY)) := by
  refine met_start [some (.ref (b + iq)), some (.long v1), none, some (.int v3), some (.int v4)] (by decide +kernel) (Nat.le_of_ble_eq_true rfl) rfl (fun Z hl ok => ?_)
  clear hl
  exact vQu_addPerson ok hq r (by rw [hr]; rfl)
theorem vQu_livingIn {Z : Cx} {G : Gx} {b : Nat} {iq : Nat} {XX YY : Nat → Obj} {q : Obj} {v1 : Int32} (ok : OK Z G b cX5_livingIn 2 0 RX5 (some .int)) (hq : isQu iq) (hr_q : XX iq = q) : VO Z G b 2 (fun (r : Int32) => QX Z b (qI G b r (mx XX YY))) (mx XX YY) 0 [some (.ref (b + iq)), some (.int v1)] [] ((fQu_livingIn q v1).bind some) := by
  unfold fQu_livingIn
  refine r_iload_n (pc := 0) ok dX5_livingIn_0 rfl ?_
  refine r_if_lt (pc := 1) ok 27 dX5_livingIn_1 rfl (fun _ => ?_) (fun _ => ?_)
  · refine r_iconst (pc := 27) ok (0 : Int32) dX5_livingIn_27 ci_0 ?_
    exact r_iret (pc := 28) ok dX5_livingIn_28 rfl
  · refine r_iload_n (pc := 4) ok dX5_livingIn_4 rfl ?_
    refine r_aload_n (pc := 5) ok dX5_livingIn_5 rfl ?_
    refine r_getI (pc := 6) ok cls5 (qu_sh hq) (k := 3) rfl (Nat.le_of_ble_eq_true rfl) (mx_l (qu_lt hq) (hr_q)) dX5_livingIn_6 fl_Qu_41 ?_
    refine r_icmp_ge (pc := 9) ok 27 dX5_livingIn_9 rfl (fun _ => ?_) (fun _ => ?_)
    · refine r_iconst (pc := 27) ok (0 : Int32) dX5_livingIn_27 ci_0 ?_
      exact r_iret (pc := 28) ok dX5_livingIn_28 rfl
    · refine r_iload_n (pc := 12) ok dX5_livingIn_12 rfl ?_
      refine r_bipush (pc := 13) ok (6 : Int32) dX5_livingIn_13 cb_6 ?_
      refine r_icmp_ge (pc := 15) ok 27 dX5_livingIn_15 rfl (fun _ => ?_) (fun _ => ?_)
      · refine r_iconst (pc := 27) ok (0 : Int32) dX5_livingIn_27 ci_0 ?_
        exact r_iret (pc := 28) ok dX5_livingIn_28 rfl
      · refine r_aload_n (pc := 18) ok dX5_livingIn_18 rfl ?_
        refine r_getR (pc := 19) ok cls5 (qu_sh hq) (k := 6) rfl (Nat.le_of_ble_eq_true rfl) rfl dX5_livingIn_19 fl_Qu_25 ?_
        refine r_iload_n (pc := 22) ok dX5_livingIn_22 rfl ?_
        refine r_iald (pc := 23) ok (qu_s2 hq) (Nat.add_sub_cancel_left _ _) (mx_l (qu_lt hq) (hr_q)) dX5_livingIn_23 (fun i1 => ?_)
        refine r_goto (pc := 24) ok 28 dX5_livingIn_24 rfl ?_
        exact r_iret (pc := 28) ok dX5_livingIn_28 rfl
theorem tQu_livingIn {l : Launch} {G : Gx} {b : Nat} {iq : Nat} {XX YY : Nat → Obj} {q : Obj} {v1 : Int32} (hq : isQu iq) (hr_q : XX iq = q) {r : Int32} (hr : fQu_livingIn q v1 = some r) : MetG l G b yX5_livingIn cX5_livingIn 2 (some .int) 0 [.ref (b + iq), .int v1] (mx XX YY) (qI G b r (mx XX YY)) := by
  refine met_start [some (.ref (b + iq)), some (.int v1)] (by decide +kernel) (Nat.le_of_ble_eq_true rfl) rfl (fun Z hl ok => ?_)
  clear hl
  exact vQu_livingIn ok hq hr_q r (by rw [hr]; rfl)
theorem vQu_addHouse {Z : Cx} {G : Gx} {b : Nat} {iq : Nat} {XX YY : Nat → Obj} {q : Obj} {v1 : Int64} {v3 : Int32} (ok : OK Z G b cX5_addHouse 4 0 RX5 none) (hq : isQu iq) : VO Z G b 4 (fun (r : Obj) => QX Z b (qV G b (mx (va_up XX iq r) YY))) (mx (va_up XX iq q) YY) 0 [some (.ref (b + iq)), some (.long v1), none, some (.int v3)] [] ((fQu_addHouse q v1 v3).bind some) := by
  unfold fQu_addHouse
  refine r_aload_n (pc := 0) ok dX5_addHouse_0 rfl ?_
  refine r_getI (pc := 1) ok cls5 (qu_sh hq) (k := 3) rfl (Nat.le_of_ble_eq_true rfl) (mx_l (qu_lt hq) (va_up_self _ _ _)) dX5_addHouse_1 fl_Qu_41 ?_
  refine r_bipush (pc := 4) ok (6 : Int32) dX5_addHouse_4 cb_6 ?_
  refine r_icmp_ge (pc := 6) ok 49 dX5_addHouse_6 rfl (fun _ => ?_) (fun _ => ?_)
  · exact r_vret (pc := 49) ok dX5_addHouse_49 rfl
  · refine r_aload_n (pc := 9) ok dX5_addHouse_9 rfl ?_
    refine r_getR (pc := 10) ok cls5 (qu_sh hq) (k := 7) rfl (Nat.le_of_ble_eq_true rfl) rfl dX5_addHouse_10 fl_Qu_28 ?_
    refine r_aload_n (pc := 13) ok dX5_addHouse_13 rfl ?_
    refine r_getI (pc := 14) ok cls5 (qu_sh hq) (k := 3) rfl (Nat.le_of_ble_eq_true rfl) (mx_l (qu_lt hq) (va_up_self _ _ _)) dX5_addHouse_14 fl_Qu_41 ?_
    refine r_lload_n (pc := 17) ok dX5_addHouse_17 rfl ?_
    refine r_last (pc := 18) ok (qu_s3 hq) (Nat.add_sub_cancel_left _ _) rfl (fun s_ => mx (va_up XX iq s_) YY) (pm_l (qu_lt hq) (pm_0 _ _)).1 (pm_l (qu_lt hq) (pm_0 _ _)).2 dX5_addHouse_18 (fun i1 s2 => ?_)
    refine r_aload_n (pc := 19) ok dX5_addHouse_19 rfl ?_
    refine r_getR (pc := 20) ok cls5 (qu_sh hq) (k := 5) rfl (Nat.le_of_ble_eq_true rfl) rfl dX5_addHouse_20 fl_Qu_21 ?_
    refine r_aload_n (pc := 23) ok dX5_addHouse_23 rfl ?_
    refine r_getI (pc := 24) ok cls5 (qu_sh hq) (k := 3) rfl (Nat.le_of_ble_eq_true rfl) (mx_l (qu_lt hq) (va_up_self _ _ _)) dX5_addHouse_24 fl_Qu_41 ?_
    refine r_iload_n (pc := 27) ok dX5_addHouse_27 rfl ?_
    refine r_iast (pc := 28) ok (qu_s1 hq) (Nat.add_sub_cancel_left _ _) rfl (fun s_ => mx (va_up XX iq s_) YY) (pm_l (qu_lt hq) (pm_0 _ _)).1 (pm_l (qu_lt hq) (pm_0 _ _)).2 dX5_addHouse_28 (fun i3 s4 => ?_)
    refine r_aload_n (pc := 29) ok dX5_addHouse_29 rfl ?_
    refine r_getR (pc := 30) ok cls5 (qu_sh hq) (k := 6) rfl (Nat.le_of_ble_eq_true rfl) rfl dX5_addHouse_30 fl_Qu_25 ?_
    refine r_aload_n (pc := 33) ok dX5_addHouse_33 rfl ?_
    refine r_getI (pc := 34) ok cls5 (qu_sh hq) (k := 3) rfl (Nat.le_of_ble_eq_true rfl) (mx_l (qu_lt hq) (va_up_self _ _ _)) dX5_addHouse_34 fl_Qu_41 ?_
    refine r_iconst (pc := 37) ok (0 : Int32) dX5_addHouse_37 ci_0 ?_
    refine r_iast (pc := 38) ok (qu_s2 hq) (Nat.add_sub_cancel_left _ _) rfl (fun s_ => mx (va_up XX iq s_) YY) (pm_l (qu_lt hq) (pm_0 _ _)).1 (pm_l (qu_lt hq) (pm_0 _ _)).2 dX5_addHouse_38 (fun i5 s6 => ?_)
    refine r_aload_n (pc := 39) ok dX5_addHouse_39 rfl ?_
    refine r_dup (pc := 40) ok dX5_addHouse_40 rfl ?_
    refine r_getI (pc := 41) ok cls5 (qu_sh hq) (k := 3) rfl (Nat.le_of_ble_eq_true rfl) (mx_l (qu_lt hq) (va_up_self _ _ _)) dX5_addHouse_41 fl_Qu_41 ?_
    refine r_iconst (pc := 44) ok (1 : Int32) dX5_addHouse_44 ci_1 ?_
    refine r_iadd (pc := 45) ok dX5_addHouse_45 ?_
    refine r_putI (pc := 46) ok cls5 (qu_sh hq) (k := 3) rfl (Nat.le_of_ble_eq_true rfl) (fun s_ => mx (va_up XX iq s_) YY) (pm_l (qu_lt hq) (pm_0 _ _)).1 (pm_l (qu_lt hq) (pm_0 _ _)).2 rfl rfl rfl dX5_addHouse_46 fl_Qu_41 (fun s7 => ?_)
    exact r_vret (pc := 49) ok dX5_addHouse_49 rfl
theorem tQu_addHouse {l : Launch} {G : Gx} {b : Nat} {iq : Nat} {XX YY : Nat → Obj} {q : Obj} {v1 : Int64} {v3 : Int32} (hq : isQu iq) {r : Obj} (hr : fQu_addHouse q v1 v3 = some r) : MetG l G b yX5_addHouse cX5_addHouse 4 none 0 [.ref (b + iq), .long v1, .int v3] (mx (va_up XX iq q) YY) (qV G b (mx (va_up XX iq r) YY)) := by
  refine met_start [some (.ref (b + iq)), some (.long v1), none, some (.int v3)] (by decide +kernel) (Nat.le_of_ble_eq_true rfl) rfl (fun Z hl ok => ?_)
  clear hl
  exact vQu_addHouse ok hq r (by rw [hr]; rfl)
theorem vQu_copyFrom {Z : Cx} {G : Gx} {b : Nat} {iq : Nat} {iq2 : Nat} {XX YY : Nat → Obj} {q2 : Obj} {q : Obj} (ok : OK Z G b cX5_copyFrom 2 1 RX5 none) (hq : isQu iq) (hq2 : isQu iq2) (hqq2 : iq2 ≠ iq) (hr_q2 : XX iq2 = q2) : VO Z G b 2 (fun (r : Obj) => QX Z b (qV G b (mx (va_up XX iq r) YY))) (mx (va_up XX iq q) YY) 0 [some (.ref (b + iq)), some (.ref (b + iq2))] [] ((fQu_copyFrom q2 q).bind some) := by
  unfold fQu_copyFrom
  refine r_aload_n (pc := 0) ok dX5_copyFrom_0 rfl ?_
  refine r_aload_n (pc := 1) ok dX5_copyFrom_1 rfl ?_
  refine r_getI (pc := 2) ok cls5 (qu_sh hq2) (k := 0) rfl (Nat.le_of_ble_eq_true rfl) (mx_l (qu_lt hq2) ((va_up_ne _ _ (hqq2)).trans (hr_q2))) dX5_copyFrom_2 fl_Qu_9 ?_
  refine r_putI (pc := 5) ok cls5 (qu_sh hq) (k := 0) rfl (Nat.le_of_ble_eq_true rfl) (fun s_ => mx (va_up XX iq s_) YY) (pm_l (qu_lt hq) (pm_0 _ _)).1 (pm_l (qu_lt hq) (pm_0 _ _)).2 rfl rfl rfl dX5_copyFrom_5 fl_Qu_9 (fun s1 => ?_)
  refine r_aload_n (pc := 8) ok dX5_copyFrom_8 rfl ?_
  refine r_aload_n (pc := 9) ok dX5_copyFrom_9 rfl ?_
  refine r_getI (pc := 10) ok cls5 (qu_sh hq2) (k := 1) rfl (Nat.le_of_ble_eq_true rfl) (mx_l (qu_lt hq2) ((va_up_ne _ _ (hqq2)).trans (hr_q2))) dX5_copyFrom_10 fl_Qu_15 ?_
  refine r_putI (pc := 13) ok cls5 (qu_sh hq) (k := 1) rfl (Nat.le_of_ble_eq_true rfl) (fun s_ => mx (va_up XX iq s_) YY) (pm_l (qu_lt hq) (pm_0 _ _)).1 (pm_l (qu_lt hq) (pm_0 _ _)).2 rfl rfl rfl dX5_copyFrom_13 fl_Qu_15 (fun s2 => ?_)
  refine r_aload_n (pc := 16) ok dX5_copyFrom_16 rfl ?_
  refine r_aload_n (pc := 17) ok dX5_copyFrom_17 rfl ?_
  refine r_getI (pc := 18) ok cls5 (qu_sh hq2) (k := 2) rfl (Nat.le_of_ble_eq_true rfl) (mx_l (qu_lt hq2) ((va_up_ne _ _ (hqq2)).trans (hr_q2))) dX5_copyFrom_18 fl_Qu_18 ?_
  refine r_putI (pc := 21) ok cls5 (qu_sh hq) (k := 2) rfl (Nat.le_of_ble_eq_true rfl) (fun s_ => mx (va_up XX iq s_) YY) (pm_l (qu_lt hq) (pm_0 _ _)).1 (pm_l (qu_lt hq) (pm_0 _ _)).2 rfl rfl rfl dX5_copyFrom_21 fl_Qu_18 (fun s3 => ?_)
  refine r_aload_n (pc := 24) ok dX5_copyFrom_24 rfl ?_
  refine r_aload_n (pc := 25) ok dX5_copyFrom_25 rfl ?_
  refine r_getI (pc := 26) ok cls5 (qu_sh hq2) (k := 3) rfl (Nat.le_of_ble_eq_true rfl) (mx_l (qu_lt hq2) ((va_up_ne _ _ (hqq2)).trans (hr_q2))) dX5_copyFrom_26 fl_Qu_41 ?_
  refine r_putI (pc := 29) ok cls5 (qu_sh hq) (k := 3) rfl (Nat.le_of_ble_eq_true rfl) (fun s_ => mx (va_up XX iq s_) YY) (pm_l (qu_lt hq) (pm_0 _ _)).1 (pm_l (qu_lt hq) (pm_0 _ _)).2 rfl rfl rfl dX5_copyFrom_29 fl_Qu_41 (fun s4 => ?_)
  refine r_aload_n (pc := 32) ok dX5_copyFrom_32 rfl ?_
  refine r_aload_n (pc := 33) ok dX5_copyFrom_33 rfl ?_
  refine r_getI (pc := 34) ok cls5 (qu_sh hq2) (k := 4) rfl (Nat.le_of_ble_eq_true rfl) (mx_l (qu_lt hq2) ((va_up_ne _ _ (hqq2)).trans (hr_q2))) dX5_copyFrom_34 fl_Qu_44 ?_
  refine r_putI (pc := 37) ok cls5 (qu_sh hq) (k := 4) rfl (Nat.le_of_ble_eq_true rfl) (fun s_ => mx (va_up XX iq s_) YY) (pm_l (qu_lt hq) (pm_0 _ _)).1 (pm_l (qu_lt hq) (pm_0 _ _)).2 rfl rfl rfl dX5_copyFrom_37 fl_Qu_44 (fun s5 => ?_)
  refine r_aload_n (pc := 40) ok dX5_copyFrom_40 rfl ?_
  refine r_getR (pc := 41) ok cls5 (qu_sh hq2) (k := 5) rfl (Nat.le_of_ble_eq_true rfl) rfl dX5_copyFrom_41 fl_Qu_21 ?_
  refine r_iconst (pc := 44) ok (0 : Int32) dX5_copyFrom_44 ci_0 ?_
  refine r_aload_n (pc := 45) ok dX5_copyFrom_45 rfl ?_
  refine r_getR (pc := 46) ok cls5 (qu_sh hq) (k := 5) rfl (Nat.le_of_ble_eq_true rfl) rfl dX5_copyFrom_46 fl_Qu_21 ?_
  refine r_iconst (pc := 49) ok (0 : Int32) dX5_copyFrom_49 ci_0 ?_
  refine r_bipush (pc := 50) ok (6 : Int32) dX5_copyFrom_50 cb_6 ?_
  refine r_icpy (pc := 52) ok (qu_s1 hq2) (Nat.add_sub_cancel_left _ _) (qu_s1 hq) (Nat.add_sub_cancel_left _ _) (fun s_ => mx (va_up XX iq s_) YY) (pm_l (qu_lt hq) (pm_0 _ _)).1 (pm_l (qu_lt hq) (pm_0 _ _)).2 (fun _ => mx_l (qu_lt hq2) ((va_up_ne _ _ (hqq2)).trans (hr_q2))) (by decide +kernel) wAC_in ml_Qu_47 (Nat.le_of_ble_eq_true rfl) (Nat.le_of_ble_eq_true rfl) dX5_copyFrom_52 (fun s6 => ?_)
  refine r_aload_n (pc := 55) ok dX5_copyFrom_55 rfl ?_
  refine r_getR (pc := 56) ok cls5 (qu_sh hq2) (k := 6) rfl (Nat.le_of_ble_eq_true rfl) rfl dX5_copyFrom_56 fl_Qu_25 ?_
  refine r_iconst (pc := 59) ok (0 : Int32) dX5_copyFrom_59 ci_0 ?_
  refine r_aload_n (pc := 60) ok dX5_copyFrom_60 rfl ?_
  refine r_getR (pc := 61) ok cls5 (qu_sh hq) (k := 6) rfl (Nat.le_of_ble_eq_true rfl) rfl dX5_copyFrom_61 fl_Qu_25 ?_
  refine r_iconst (pc := 64) ok (0 : Int32) dX5_copyFrom_64 ci_0 ?_
  refine r_bipush (pc := 65) ok (6 : Int32) dX5_copyFrom_65 cb_6 ?_
  refine r_icpy (pc := 67) ok (qu_s2 hq2) (Nat.add_sub_cancel_left _ _) (qu_s2 hq) (Nat.add_sub_cancel_left _ _) (fun s_ => mx (va_up XX iq s_) YY) (pm_l (qu_lt hq) (pm_0 _ _)).1 (pm_l (qu_lt hq) (pm_0 _ _)).2 (fun _ => mx_l (qu_lt hq2) ((va_up_ne _ _ (hqq2)).trans (hr_q2))) (by decide +kernel) wAC_in ml_Qu_47 (Nat.le_of_ble_eq_true rfl) (Nat.le_of_ble_eq_true rfl) dX5_copyFrom_67 (fun s7 => ?_)
  refine r_aload_n (pc := 70) ok dX5_copyFrom_70 rfl ?_
  refine r_getR (pc := 71) ok cls5 (qu_sh hq2) (k := 7) rfl (Nat.le_of_ble_eq_true rfl) rfl dX5_copyFrom_71 fl_Qu_28 ?_
  refine r_iconst (pc := 74) ok (0 : Int32) dX5_copyFrom_74 ci_0 ?_
  refine r_aload_n (pc := 75) ok dX5_copyFrom_75 rfl ?_
  refine r_getR (pc := 76) ok cls5 (qu_sh hq) (k := 7) rfl (Nat.le_of_ble_eq_true rfl) rfl dX5_copyFrom_76 fl_Qu_28 ?_
  refine r_iconst (pc := 79) ok (0 : Int32) dX5_copyFrom_79 ci_0 ?_
  refine r_bipush (pc := 80) ok (6 : Int32) dX5_copyFrom_80 cb_6 ?_
  refine r_lcpy (pc := 82) ok (qu_s3 hq2) (Nat.add_sub_cancel_left _ _) (qu_s3 hq) (Nat.add_sub_cancel_left _ _) (fun s_ => mx (va_up XX iq s_) YY) (pm_l (qu_lt hq) (pm_0 _ _)).1 (pm_l (qu_lt hq) (pm_0 _ _)).2 (fun _ => mx_l (qu_lt hq2) ((va_up_ne _ _ (hqq2)).trans (hr_q2))) (by decide +kernel) wAC_in ml_Qu_47 (Nat.le_of_ble_eq_true rfl) (Nat.le_of_ble_eq_true rfl) dX5_copyFrom_82 (fun s8 => ?_)
  refine r_aload_n (pc := 85) ok dX5_copyFrom_85 rfl ?_
  refine r_getR (pc := 86) ok cls5 (qu_sh hq2) (k := 8) rfl (Nat.le_of_ble_eq_true rfl) rfl dX5_copyFrom_86 fl_Qu_32 ?_
  refine r_iconst (pc := 89) ok (0 : Int32) dX5_copyFrom_89 ci_0 ?_
  refine r_aload_n (pc := 90) ok dX5_copyFrom_90 rfl ?_
  refine r_getR (pc := 91) ok cls5 (qu_sh hq) (k := 8) rfl (Nat.le_of_ble_eq_true rfl) rfl dX5_copyFrom_91 fl_Qu_32 ?_
  refine r_iconst (pc := 94) ok (0 : Int32) dX5_copyFrom_94 ci_0 ?_
  refine r_bipush (pc := 95) ok (8 : Int32) dX5_copyFrom_95 cb_8 ?_
  refine r_icpy (pc := 97) ok (qu_s4 hq2) (Nat.add_sub_cancel_left _ _) (qu_s4 hq) (Nat.add_sub_cancel_left _ _) (fun s_ => mx (va_up XX iq s_) YY) (pm_l (qu_lt hq) (pm_0 _ _)).1 (pm_l (qu_lt hq) (pm_0 _ _)).2 (fun _ => mx_l (qu_lt hq2) ((va_up_ne _ _ (hqq2)).trans (hr_q2))) (by decide +kernel) wAC_in ml_Qu_47 (Nat.le_of_ble_eq_true rfl) (Nat.le_of_ble_eq_true rfl) dX5_copyFrom_97 (fun s9 => ?_)
  refine r_aload_n (pc := 100) ok dX5_copyFrom_100 rfl ?_
  refine r_getR (pc := 101) ok cls5 (qu_sh hq2) (k := 9) rfl (Nat.le_of_ble_eq_true rfl) rfl dX5_copyFrom_101 fl_Qu_35 ?_
  refine r_iconst (pc := 104) ok (0 : Int32) dX5_copyFrom_104 ci_0 ?_
  refine r_aload_n (pc := 105) ok dX5_copyFrom_105 rfl ?_
  refine r_getR (pc := 106) ok cls5 (qu_sh hq) (k := 9) rfl (Nat.le_of_ble_eq_true rfl) rfl dX5_copyFrom_106 fl_Qu_35 ?_
  refine r_iconst (pc := 109) ok (0 : Int32) dX5_copyFrom_109 ci_0 ?_
  refine r_bipush (pc := 110) ok (8 : Int32) dX5_copyFrom_110 cb_8 ?_
  refine r_icpy (pc := 112) ok (qu_s5 hq2) (Nat.add_sub_cancel_left _ _) (qu_s5 hq) (Nat.add_sub_cancel_left _ _) (fun s_ => mx (va_up XX iq s_) YY) (pm_l (qu_lt hq) (pm_0 _ _)).1 (pm_l (qu_lt hq) (pm_0 _ _)).2 (fun _ => mx_l (qu_lt hq2) ((va_up_ne _ _ (hqq2)).trans (hr_q2))) (by decide +kernel) wAC_in ml_Qu_47 (Nat.le_of_ble_eq_true rfl) (Nat.le_of_ble_eq_true rfl) dX5_copyFrom_112 (fun s10 => ?_)
  refine r_aload_n (pc := 115) ok dX5_copyFrom_115 rfl ?_
  refine r_getR (pc := 116) ok cls5 (qu_sh hq2) (k := 10) rfl (Nat.le_of_ble_eq_true rfl) rfl dX5_copyFrom_116 fl_Qu_38 ?_
  refine r_iconst (pc := 119) ok (0 : Int32) dX5_copyFrom_119 ci_0 ?_
  refine r_aload_n (pc := 120) ok dX5_copyFrom_120 rfl ?_
  refine r_getR (pc := 121) ok cls5 (qu_sh hq) (k := 10) rfl (Nat.le_of_ble_eq_true rfl) rfl dX5_copyFrom_121 fl_Qu_38 ?_
  refine r_iconst (pc := 124) ok (0 : Int32) dX5_copyFrom_124 ci_0 ?_
  refine r_bipush (pc := 125) ok (8 : Int32) dX5_copyFrom_125 cb_8 ?_
  refine r_lcpy (pc := 127) ok (qu_s6 hq2) (Nat.add_sub_cancel_left _ _) (qu_s6 hq) (Nat.add_sub_cancel_left _ _) (fun s_ => mx (va_up XX iq s_) YY) (pm_l (qu_lt hq) (pm_0 _ _)).1 (pm_l (qu_lt hq) (pm_0 _ _)).2 (fun _ => mx_l (qu_lt hq2) ((va_up_ne _ _ (hqq2)).trans (hr_q2))) (by decide +kernel) wAC_in ml_Qu_47 (Nat.le_of_ble_eq_true rfl) (Nat.le_of_ble_eq_true rfl) dX5_copyFrom_127 (fun s11 => ?_)
  exact r_vret (pc := 130) ok dX5_copyFrom_130 rfl
theorem tQu_copyFrom {l : Launch} {G : Gx} {b : Nat} {iq : Nat} {iq2 : Nat} {XX YY : Nat → Obj} {q2 : Obj} {q : Obj} (hq : isQu iq) (hq2 : isQu iq2) (hqq2 : iq2 ≠ iq) (hr_q2 : XX iq2 = q2) {r : Obj} (hr : fQu_copyFrom q2 q = some r) : MetG l G b yX5_copyFrom cX5_copyFrom 2 none 1 [.ref (b + iq), .ref (b + iq2)] (mx (va_up XX iq q) YY) (qV G b (mx (va_up XX iq r) YY)) := by
  refine met_start [some (.ref (b + iq)), some (.ref (b + iq2))] (by decide +kernel) (Nat.le_of_ble_eq_true rfl) rfl (fun Z hl ok => ?_)
  clear hl
  exact vQu_copyFrom ok hq hq2 hqq2 hr_q2 r (by rw [hr]; rfl)
theorem vQu_placeOf {Z : Cx} {G : Gx} {b : Nat} {iq : Nat} {XX YY : Nat → Obj} {q : Obj} {v1 : Int32} (ok : OK Z G b cX5_placeOf 2 1 RX5 (some .int)) (hq : isQu iq) (hr_q : XX iq = q) : VO Z G b 2 (fun (r : Int32) => QX Z b (qI G b r (mx XX YY))) (mx XX YY) 0 [some (.ref (b + iq)), some (.int v1)] [] ((fQu_placeOf q v1).bind some) := by
  unfold fQu_placeOf
  refine r_aload_n (pc := 0) ok dX5_placeOf_0 rfl ?_
  refine r_iload_n (pc := 1) ok dX5_placeOf_1 rfl ?_
  refine k_I (pc := 2) (fun r1 => r1) (fun r1 => mx XX YY) (fun r1 hr_ => c_V (n := 1) ok cls5 (qu_sh hq) rfl ml_Qu_53 wv_X5_hasHouse yk_X5_hasHouse rfl (Nat.le_of_ble_eq_true rfl) (Nat.le_of_ble_eq_true rfl) (tQu_hasHouse hq (hr_q) hr_) rfl (Nat.le_of_ble_eq_true rfl) dX5_placeOf_2) (fun r1 => ?_)
  refine r_if_eq (pc := 5) ok 17 dX5_placeOf_5 rfl (fun _ => ?_) (fun _ => ?_)
  · refine r_iconst (pc := 17) ok (-1 : Int32) dX5_placeOf_17 ci_m1 ?_
    exact r_iret (pc := 18) ok dX5_placeOf_18 rfl
  · refine r_aload_n (pc := 8) ok dX5_placeOf_8 rfl ?_
    refine r_getR (pc := 9) ok cls5 (qu_sh hq) (k := 5) rfl (Nat.le_of_ble_eq_true rfl) rfl dX5_placeOf_9 fl_Qu_21 ?_
    refine r_iload_n (pc := 12) ok dX5_placeOf_12 rfl ?_
    refine r_iald (pc := 13) ok (qu_s1 hq) (Nat.add_sub_cancel_left _ _) (mx_l (qu_lt hq) (hr_q)) dX5_placeOf_13 (fun i2 => ?_)
    refine r_goto (pc := 14) ok 18 dX5_placeOf_14 rfl ?_
    exact r_iret (pc := 18) ok dX5_placeOf_18 rfl
theorem tQu_placeOf {l : Launch} {G : Gx} {b : Nat} {iq : Nat} {XX YY : Nat → Obj} {q : Obj} {v1 : Int32} (hq : isQu iq) (hr_q : XX iq = q) {r : Int32} (hr : fQu_placeOf q v1 = some r) : MetG l G b yX5_placeOf cX5_placeOf 2 (some .int) 1 [.ref (b + iq), .int v1] (mx XX YY) (qI G b r (mx XX YY)) := by
  refine met_start [some (.ref (b + iq)), some (.int v1)] (by decide +kernel) (Nat.le_of_ble_eq_true rfl) rfl (fun Z hl ok => ?_)
  clear hl
  exact vQu_placeOf ok hq hr_q r (by rw [hr]; rfl)
theorem vQu_isStern {Z : Cx} {G : Gx} {b : Nat} {iq : Nat} {XX YY : Nat → Obj} {q : Obj} {v1 : Int32} (ok : OK Z G b cX5_isStern 2 1 RX5 (some .boolean)) (hq : isQu iq) (hr_q : XX iq = q) : VO Z G b 2 (fun (r : Int32) => QX Z b (qI G b r (mx XX YY))) (mx XX YY) 0 [some (.ref (b + iq)), some (.int v1)] [] ((fQu_isStern q v1).bind some) := by
  unfold fQu_isStern
  refine r_aload_n (pc := 0) ok dX5_isStern_0 rfl ?_
  refine r_iload_n (pc := 1) ok dX5_isStern_1 rfl ?_
  refine k_I (pc := 2) (fun r1 => r1) (fun r1 => mx XX YY) (fun r1 hr_ => c_V (n := 1) ok cls5 (qu_sh hq) rfl ml_Qu_57 wv_X5_hasPerson yk_X5_hasPerson rfl (Nat.le_of_ble_eq_true rfl) (Nat.le_of_ble_eq_true rfl) (tQu_hasPerson hq (hr_q) hr_) rfl (Nat.le_of_ble_eq_true rfl) dX5_isStern_2) (fun r1 => ?_)
  refine r_if_eq (pc := 5) ok 22 dX5_isStern_5 rfl (fun _ => ?_) (fun _ => ?_)
  · refine r_iconst (pc := 22) ok (0 : Int32) dX5_isStern_22 ci_0 ?_
    exact r_zret (pc := 23) ok dX5_isStern_23 (by decide +kernel) rfl
  · refine r_aload_n (pc := 8) ok dX5_isStern_8 rfl ?_
    refine r_getR (pc := 9) ok cls5 (qu_sh hq) (k := 9) rfl (Nat.le_of_ble_eq_true rfl) rfl dX5_isStern_9 fl_Qu_35 ?_
    refine r_iload_n (pc := 12) ok dX5_isStern_12 rfl ?_
    refine r_iald (pc := 13) ok (qu_s5 hq) (Nat.add_sub_cancel_left _ _) (mx_l (qu_lt hq) (hr_q)) dX5_isStern_13 (fun i2 => ?_)
    refine r_iconst (pc := 14) ok (1 : Int32) dX5_isStern_14 ci_1 ?_
    refine r_icmp_ne (pc := 15) ok 22 dX5_isStern_15 rfl (fun _ => ?_) (fun _ => ?_)
    · refine r_iconst (pc := 18) ok (1 : Int32) dX5_isStern_18 ci_1 ?_
      refine r_goto (pc := 19) ok 23 dX5_isStern_19 rfl ?_
      exact r_zret (pc := 23) ok dX5_isStern_23 (by decide +kernel) rfl
    · refine r_iconst (pc := 22) ok (0 : Int32) dX5_isStern_22 ci_0 ?_
      exact r_zret (pc := 23) ok dX5_isStern_23 (by decide +kernel) rfl
theorem tQu_isStern {l : Launch} {G : Gx} {b : Nat} {iq : Nat} {XX YY : Nat → Obj} {q : Obj} {v1 : Int32} (hq : isQu iq) (hr_q : XX iq = q) {r : Int32} (hr : fQu_isStern q v1 = some r) : MetG l G b yX5_isStern cX5_isStern 2 (some .boolean) 1 [.ref (b + iq), .int v1] (mx XX YY) (qI G b r (mx XX YY)) := by
  refine met_start [some (.ref (b + iq)), some (.int v1)] (by decide +kernel) (Nat.le_of_ble_eq_true rfl) rfl (fun Z hl ok => ?_)
  clear hl
  exact vQu_isStern ok hq hr_q r (by rw [hr]; rfl)
theorem vQu_nameOfPerson {Z : Cx} {G : Gx} {b : Nat} {iq : Nat} {XX YY : Nat → Obj} {q : Obj} {v1 : Int32} (ok : OK Z G b cX5_nameOfPerson 2 1 RX5 (some .long)) (hq : isQu iq) (hr_q : XX iq = q) : VO Z G b 2 (fun (r : Int64) => QX Z b (qJ G b r (mx XX YY))) (mx XX YY) 0 [some (.ref (b + iq)), some (.int v1)] [] ((fQu_nameOfPerson q v1).bind some) := by
  unfold fQu_nameOfPerson
  refine r_aload_n (pc := 0) ok dX5_nameOfPerson_0 rfl ?_
  refine r_iload_n (pc := 1) ok dX5_nameOfPerson_1 rfl ?_
  refine k_I (pc := 2) (fun r1 => r1) (fun r1 => mx XX YY) (fun r1 hr_ => c_V (n := 1) ok cls5 (qu_sh hq) rfl ml_Qu_57 wv_X5_hasPerson yk_X5_hasPerson rfl (Nat.le_of_ble_eq_true rfl) (Nat.le_of_ble_eq_true rfl) (tQu_hasPerson hq (hr_q) hr_) rfl (Nat.le_of_ble_eq_true rfl) dX5_nameOfPerson_2) (fun r1 => ?_)
  refine r_if_eq (pc := 5) ok 17 dX5_nameOfPerson_5 rfl (fun _ => ?_) (fun _ => ?_)
  · refine r_lconst (pc := 17) ok (0 : Int64) dX5_nameOfPerson_17 (by decide +kernel) ?_
    exact r_lret (pc := 18) ok dX5_nameOfPerson_18 rfl
  · refine r_aload_n (pc := 8) ok dX5_nameOfPerson_8 rfl ?_
    refine r_getR (pc := 9) ok cls5 (qu_sh hq) (k := 10) rfl (Nat.le_of_ble_eq_true rfl) rfl dX5_nameOfPerson_9 fl_Qu_38 ?_
    refine r_iload_n (pc := 12) ok dX5_nameOfPerson_12 rfl ?_
    refine r_lald (pc := 13) ok (qu_s6 hq) (Nat.add_sub_cancel_left _ _) (mx_l (qu_lt hq) (hr_q)) dX5_nameOfPerson_13 (fun i2 => ?_)
    refine r_goto (pc := 14) ok 18 dX5_nameOfPerson_14 rfl ?_
    exact r_lret (pc := 18) ok dX5_nameOfPerson_18 rfl
theorem tQu_nameOfPerson {l : Launch} {G : Gx} {b : Nat} {iq : Nat} {XX YY : Nat → Obj} {q : Obj} {v1 : Int32} (hq : isQu iq) (hr_q : XX iq = q) {r : Int64} (hr : fQu_nameOfPerson q v1 = some r) : MetG l G b yX5_nameOfPerson cX5_nameOfPerson 2 (some .long) 1 [.ref (b + iq), .int v1] (mx XX YY) (qJ G b r (mx XX YY)) := by
  refine met_start [some (.ref (b + iq)), some (.int v1)] (by decide +kernel) (Nat.le_of_ble_eq_true rfl) rfl (fun Z hl ok => ?_)
  clear hl
  exact vQu_nameOfPerson ok hq hr_q r (by rw [hr]; rfl)
theorem vQu_nameOfHouse {Z : Cx} {G : Gx} {b : Nat} {iq : Nat} {XX YY : Nat → Obj} {q : Obj} {v1 : Int32} (ok : OK Z G b cX5_nameOfHouse 2 1 RX5 (some .long)) (hq : isQu iq) (hr_q : XX iq = q) : VO Z G b 2 (fun (r : Int64) => QX Z b (qJ G b r (mx XX YY))) (mx XX YY) 0 [some (.ref (b + iq)), some (.int v1)] [] ((fQu_nameOfHouse q v1).bind some) := by
  unfold fQu_nameOfHouse
  refine r_aload_n (pc := 0) ok dX5_nameOfHouse_0 rfl ?_
  refine r_iload_n (pc := 1) ok dX5_nameOfHouse_1 rfl ?_
  refine k_I (pc := 2) (fun r1 => r1) (fun r1 => mx XX YY) (fun r1 hr_ => c_V (n := 1) ok cls5 (qu_sh hq) rfl ml_Qu_53 wv_X5_hasHouse yk_X5_hasHouse rfl (Nat.le_of_ble_eq_true rfl) (Nat.le_of_ble_eq_true rfl) (tQu_hasHouse hq (hr_q) hr_) rfl (Nat.le_of_ble_eq_true rfl) dX5_nameOfHouse_2) (fun r1 => ?_)
  refine r_if_eq (pc := 5) ok 17 dX5_nameOfHouse_5 rfl (fun _ => ?_) (fun _ => ?_)
  · refine r_lconst (pc := 17) ok (0 : Int64) dX5_nameOfHouse_17 (by decide +kernel) ?_
    exact r_lret (pc := 18) ok dX5_nameOfHouse_18 rfl
  · refine r_aload_n (pc := 8) ok dX5_nameOfHouse_8 rfl ?_
    refine r_getR (pc := 9) ok cls5 (qu_sh hq) (k := 7) rfl (Nat.le_of_ble_eq_true rfl) rfl dX5_nameOfHouse_9 fl_Qu_28 ?_
    refine r_iload_n (pc := 12) ok dX5_nameOfHouse_12 rfl ?_
    refine r_lald (pc := 13) ok (qu_s3 hq) (Nat.add_sub_cancel_left _ _) (mx_l (qu_lt hq) (hr_q)) dX5_nameOfHouse_13 (fun i2 => ?_)
    refine r_goto (pc := 14) ok 18 dX5_nameOfHouse_14 rfl ?_
    exact r_lret (pc := 18) ok dX5_nameOfHouse_18 rfl
theorem tQu_nameOfHouse {l : Launch} {G : Gx} {b : Nat} {iq : Nat} {XX YY : Nat → Obj} {q : Obj} {v1 : Int32} (hq : isQu iq) (hr_q : XX iq = q) {r : Int64} (hr : fQu_nameOfHouse q v1 = some r) : MetG l G b yX5_nameOfHouse cX5_nameOfHouse 2 (some .long) 1 [.ref (b + iq), .int v1] (mx XX YY) (qJ G b r (mx XX YY)) := by
  refine met_start [some (.ref (b + iq)), some (.int v1)] (by decide +kernel) (Nat.le_of_ble_eq_true rfl) rfl (fun Z hl ok => ?_)
  clear hl
  exact vQu_nameOfHouse ok hq hr_q r (by rw [hr]; rfl)
