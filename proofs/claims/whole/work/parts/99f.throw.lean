set_option maxRecDepth 20000
theorem wv_X11_person : wV yX11_person cX11_person 3 (some .int) := ⟨tg 1390 (by decide +kernel) (by decide +kernel), tg 1391 (by decide +kernel) (by decide +kernel), tg 117 (by decide +kernel) (by decide +kernel), tg 1392 rfl rfl⟩
theorem yk_X11_person : yOK yX11_person 2 := ⟨by decide +kernel, by decide +kernel, by decide +kernel⟩
theorem wv_X11_mean : wV yX11_mean cX11_mean 5 (some .int) := ⟨tg 1459 (by decide +kernel) (by decide +kernel), tg 1460 (by decide +kernel) (by decide +kernel), tg 117 (by decide +kernel) (by decide +kernel), tg 1461 rfl rfl⟩
theorem yk_X11_mean : yOK yX11_mean 1 := ⟨by decide +kernel, by decide +kernel, by decide +kernel⟩
theorem xKL_person {l : Launch} (hst : l.stackTraces = false) {G : Gx} {b d : Nat} {XX YY : Nat → Obj} {v1 v2 : Int32} {z : Int32 ⊕ Unit} (hr : fKL_person XX v1 v2 = some z) : MetX l G b yX11_person cX11_person 3 (some .int) (d + 6) 1 6 [.ref (b + 0), .int v1, .int v2] (Wd G.1 G.2 b (mx XX YY)) (qZ G b z (mx XX YY)) (xZ G b z (mx XX YY)) := by
  refine metX_start [some (.ref (b + 0)), some (.int v1), some (.int v2)] (by decide +kernel) (Nat.le_of_ble_eq_true rfl) rfl ?_
  intro X hX ok ht hN
  have hst2 : X.2.1.stackTraces = false := by rw [hX]; exact hst
  have thr : some (.inr ()) = some z → VG X b 3 (QPx X b 1 6 (qZ G b z (mx XX YY)) (xZ G b z (mx XX YY))) (Wd G.1 G.2 b (mx XX YY)) 0 0 24 [some (.ref (b + 0)), some (.int v1), some (.int v2)] [] := fun hz => g_thr (pc := 24) (d := d) ok hst2 ht hN (Option.some.inj hz).symm dX11_person_24 dX11_person_27 dX11_person_28 dX11_person_31
  refine g_aload_n (pc := 0) ok dX11_person_0 rfl ?_
  refine gw_getR (pc := 1) ok cls11 sh_0 (k := 1) rfl (Nat.le_of_ble_eq_true rfl) rfl dX11_person_1 fl_KL_19 ?_
  refine gw_getR (pc := 4) ok cls9 sh_4 (k := 0) rfl (Nat.le_of_ble_eq_true rfl) rfl dX11_person_4 fl_KL_34 ?_
  refine g_iload_n (pc := 7) ok dX11_person_7 rfl ?_
  unfold fKL_person at hr
  cases h1 : fQu_hasPerson (XX 5) v1 with
  | none => rw [h1] at hr; cases hr
  | some r1 =>
    rw [h1] at hr
    have hr' : (if r1 = (0 : Int32) then some (.inr ()) else if v2 < (0 : Int32) then some (.inr ()) else if v2 ≤ (10 : Int32) then ((fSc_detail (XX 5) (XX 12) v1 v2).bind fun r2 => some (.inl r2)) else some (.inr ())) = some z := hr
    refine gw_kI (pc := 8) (gw_cV (pc := 8) (dy := 0) (As := [.int v1]) ok cls5 sh_5 rfl ml_KL_163 wv_X5_hasPerson yk_X5_hasPerson rfl (show 0 + 1 ≤ d + 6 by omega) (show 8 + (2 + 11) + 60 * 0 ≤ 60 * (d + 6) by omega) (Nat.le_of_ble_eq_true rfl) (Nat.le_of_ble_eq_true rfl) (tQu_hasPerson (iq := 5) (qu_c (o := 5) (by decide)) rfl h1) rfl (Nat.le_of_ble_eq_true rfl) dX11_person_8) ?_
    refine g_if_eq (pc := 11) ok 24 dX11_person_11 rfl (fun h2 => ?_) (fun h2 => ?_)
    · rw [if_pos h2] at hr'; exact thr hr'
    rw [if_neg h2] at hr'
    refine g_iload_n (pc := 14) ok dX11_person_14 rfl ?_
    refine g_if_lt (pc := 15) ok 24 dX11_person_15 rfl (fun h3 => ?_) (fun h3 => ?_)
    · rw [if_pos h3] at hr'; exact thr hr'
    rw [if_neg h3] at hr'
    refine g_iload_n (pc := 18) ok dX11_person_18 rfl ?_
    refine g_bipush (pc := 19) ok 10 dX11_person_19 (by decide +kernel) ?_
    refine g_icmp_le (pc := 21) ok 32 dX11_person_21 rfl (fun h4 => ?_) (fun h4 => ?_)
    · rw [if_pos h4] at hr'
      cases h5 : fSc_detail (XX 5) (XX 12) v1 v2 with
      | none => rw [h5] at hr'; cases hr'
      | some r2 =>
        rw [h5] at hr'
        have hz : some (.inl r2) = some z := hr'
        refine g_aload_n (pc := 32) ok dX11_person_32 rfl ?_
        refine gw_getR (pc := 33) ok cls11 sh_0 (k := 1) rfl (Nat.le_of_ble_eq_true rfl) rfl dX11_person_33 fl_KL_19 ?_
        refine gw_getR (pc := 36) ok cls9 sh_4 (k := 1) rfl (Nat.le_of_ble_eq_true rfl) rfl dX11_person_36 fl_KL_140 ?_
        refine g_iload_n (pc := 39) ok dX11_person_39 rfl ?_
        refine g_iload_n (pc := 40) ok dX11_person_40 rfl ?_
        refine gw_kI (pc := 41) (gw_cV (pc := 41) (dy := 2) (As := [.int v1, .int v2]) ok cls8 sh_12 rfl ml_KL_169 wv_X8_detail yk_X8_detail rfl (show 2 + 1 ≤ d + 6 by omega) (show 8 + (3 + 11) + 60 * 2 ≤ 60 * (d + 6) by omega) (Nat.le_of_ble_eq_true rfl) (Nat.le_of_ble_eq_true rfl) (tSc_detail (io := 12) (sc_c (o := 12) (by decide)) rfl rfl h5) rfl (Nat.le_of_ble_eq_true rfl) dX11_person_41) ?_
        exact g_xret (pc := 44) ok (Option.some.inj hz).symm (Nat.zero_le _) (Nat.zero_le _) dX11_person_44
    · rw [if_neg h4] at hr'; exact thr hr'
theorem xKL_mean {l : Launch} (hst : l.stackTraces = false) {G : Gx} {b d : Nat} {XX YY : Nat → Obj} {v1 : Int32} {z : Int32 ⊕ Unit} (hr : fKL_mean XX v1 = some z) : MetX l G b yX11_mean cX11_mean 5 (some .int) (d + 6) 1 6 [.ref (b + 0), .int v1] (Wd G.1 G.2 b (mx XX YY)) (qZ G b z (mx XX YY)) (xZ G b z (mx XX YY)) := by
  refine metX_start [some (.ref (b + 0)), some (.int v1), none, none, none] (by decide +kernel) (Nat.le_of_ble_eq_true rfl) rfl ?_
  intro X hX ok ht hN
  have hst2 : X.2.1.stackTraces = false := by rw [hX]; exact hst
  have hr0 : (if (XX 5).1 0 4 < (1 : Int32) then some (.inr ()) else if v1 < (0 : Int32) then some (.inr ()) else if v1 ≤ (1 : Int32) then ((fSc_knownInAll (XX 5) (XX 12)).bind fun r2 => (fKL_commonDivisor r2 ((XX 5).1 0 4)).bind fun r3 => if (1 : Int32) ≤ r3 then (if v1 = (0 : Int32) then ((nz r3).bind fun _ => some (.inl (r2 / r3))) else ((nz r3).bind fun _ => some (.inl ((XX 5).1 0 4 / r3)))) else some (.inl (-1 : Int32))) else some (.inr ())) = some z := hr
  refine g_aload_n (pc := 0) ok dX11_mean_0 rfl ?_
  refine gw_getR (pc := 1) ok cls11 sh_0 (k := 1) rfl (Nat.le_of_ble_eq_true rfl) rfl dX11_mean_1 fl_KL_19 ?_
  refine gw_getR (pc := 4) ok cls9 sh_4 (k := 0) rfl (Nat.le_of_ble_eq_true rfl) rfl dX11_mean_4 fl_KL_34 ?_
  refine gw_getI (pc := 7) (s := XX 5) ok cls5 sh_5 (k := 4) rfl (Nat.le_of_ble_eq_true rfl) rfl dX11_mean_7 fl_KL_271 ?_
  generalize (XX 5).1 0 4 = x1 at hr0 ⊢
  have thr : some (.inr ()) = some z → VG X b 5 (QPx X b 1 6 (qZ G b z (mx XX YY)) (xZ G b z (mx XX YY))) (Wd G.1 G.2 b (mx XX YY)) 0 0 25 [some (.ref (b + 0)), some (.int v1), some (.int x1), none, none] [] := fun hz => g_thr (pc := 25) (d := d) ok hst2 ht hN (Option.some.inj hz).symm dX11_mean_25 dX11_mean_28 dX11_mean_29 dX11_mean_32
  refine g_istore_n (pc := 10) ok dX11_mean_10 (Nat.le_of_ble_eq_true rfl) rfl ?_
  refine g_iload_n (pc := 11) ok dX11_mean_11 rfl ?_
  refine g_iconst (pc := 12) ok 1 dX11_mean_12 (by decide +kernel) ?_
  refine g_icmp_lt (pc := 13) ok 25 dX11_mean_13 rfl (fun h2 => ?_) (fun h2 => ?_)
  · rw [if_pos h2] at hr0; exact thr hr0
  rw [if_neg h2] at hr0
  refine g_iload_n (pc := 16) ok dX11_mean_16 rfl ?_
  refine g_if_lt (pc := 17) ok 25 dX11_mean_17 rfl (fun h3 => ?_) (fun h3 => ?_)
  · rw [if_pos h3] at hr0; exact thr hr0
  rw [if_neg h3] at hr0
  refine g_iload_n (pc := 20) ok dX11_mean_20 rfl ?_
  refine g_iconst (pc := 21) ok 1 dX11_mean_21 (by decide +kernel) ?_
  refine g_icmp_le (pc := 22) ok 33 dX11_mean_22 rfl (fun h4 => ?_) (fun h4 => ?_)
  · rw [if_pos h4] at hr0
    cases h5 : fSc_knownInAll (XX 5) (XX 12) with
    | none => rw [h5] at hr0; cases hr0
    | some r2 =>
      rw [h5] at hr0
      have hr1 : ((fKL_commonDivisor r2 x1).bind fun r3 => if (1 : Int32) ≤ r3 then (if v1 = (0 : Int32) then ((nz r3).bind fun _ => some (.inl (r2 / r3))) else ((nz r3).bind fun _ => some (.inl (x1 / r3)))) else some (.inl (-1 : Int32))) = some z := hr0
      cases h6 : fKL_commonDivisor r2 x1 with
      | none => rw [h6] at hr1; cases hr1
      | some r3 =>
        rw [h6] at hr1
        have hr2 : (if (1 : Int32) ≤ r3 then (if v1 = (0 : Int32) then ((nz r3).bind fun _ => some (.inl (r2 / r3))) else ((nz r3).bind fun _ => some (.inl (x1 / r3)))) else some (.inl (-1 : Int32))) = some z := hr1
        refine g_aload_n (pc := 33) ok dX11_mean_33 rfl ?_
        refine gw_getR (pc := 34) ok cls11 sh_0 (k := 1) rfl (Nat.le_of_ble_eq_true rfl) rfl dX11_mean_34 fl_KL_19 ?_
        refine gw_getR (pc := 37) ok cls9 sh_4 (k := 1) rfl (Nat.le_of_ble_eq_true rfl) rfl dX11_mean_37 fl_KL_140 ?_
        refine gw_kI (pc := 40) (gw_cV (pc := 40) (dy := 1) (As := []) ok cls8 sh_12 rfl ml_KL_274 wv_X8_knownInAll yk_X8_knownInAll rfl (show 1 + 1 ≤ d + 6 by omega) (show 8 + (3 + 11) + 60 * 1 ≤ 60 * (d + 6) by omega) (Nat.le_of_ble_eq_true rfl) (Nat.le_of_ble_eq_true rfl) (tSc_knownInAll (io := 12) (sc_c (o := 12) (by decide)) rfl rfl h5) rfl (Nat.le_of_ble_eq_true rfl) dX11_mean_40) ?_
        refine g_istore_n (pc := 43) ok dX11_mean_43 (Nat.le_of_ble_eq_true rfl) rfl ?_
        refine g_iload_n (pc := 44) ok dX11_mean_44 rfl ?_
        refine g_iload_n (pc := 45) ok dX11_mean_45 rfl ?_
        refine gw_kI (pc := 46) (g_cS (pc := 46) (dy := 0) (mc := 0) (ms := 0) (As := [.int r2, .int x1]) ok ml_KL_277 ws_X11_commonDivisor yk_X11_commonDivisor rfl (show 0 + 1 ≤ d + 6 by omega) (show 8 + (3 + 11) + 60 * 0 ≤ 60 * (d + 6) by omega) (Nat.le_of_ble_eq_true rfl) (Nat.le_of_ble_eq_true rfl) (tKL_commonDivisor (XX := XX) (YY := YY) h6) rfl (Nat.le_of_ble_eq_true rfl) dX11_mean_46) ?_
        refine g_istore (pc := 49) ok dX11_mean_49 (Nat.le_of_ble_eq_true rfl) rfl ?_
        refine g_iload (pc := 51) ok dX11_mean_51 rfl ?_
        refine g_iconst (pc := 53) ok 1 dX11_mean_53 (by decide +kernel) ?_
        refine g_icmp_ge (pc := 54) ok 59 dX11_mean_54 rfl (fun h7 => ?_) (fun h7 => ?_)
        · rw [if_pos h7] at hr2
          refine g_iload_n (pc := 59) ok dX11_mean_59 rfl ?_
          refine g_if_ne (pc := 60) ok 70 dX11_mean_60 rfl (fun h8 => ?_) (fun h8 => ?_)
          · rw [if_neg h8] at hr2
            unfold nz at hr2
            by_cases h9 : r3 = 0
            · rw [if_pos h9] at hr2; cases hr2
            rw [if_neg h9] at hr2
            have hz : some (.inl (x1 / r3)) = some z := hr2
            refine g_iload_n (pc := 70) ok dX11_mean_70 rfl ?_
            refine g_iload (pc := 71) ok dX11_mean_71 rfl ?_
            refine g_idiv (pc := 73) ok dX11_mean_73 h9 ?_
            exact g_xret (pc := 74) ok (Option.some.inj hz).symm (Nat.zero_le _) (Nat.zero_le _) dX11_mean_74
          · rw [if_pos h8] at hr2
            unfold nz at hr2
            by_cases h9 : r3 = 0
            · rw [if_pos h9] at hr2; cases hr2
            rw [if_neg h9] at hr2
            have hz : some (.inl (r2 / r3)) = some z := hr2
            refine g_iload_n (pc := 63) ok dX11_mean_63 rfl ?_
            refine g_iload (pc := 64) ok dX11_mean_64 rfl ?_
            refine g_idiv (pc := 66) ok dX11_mean_66 h9 ?_
            refine g_goto (pc := 67) ok 74 dX11_mean_67 rfl ?_
            exact g_xret (pc := 74) ok (Option.some.inj hz).symm (Nat.zero_le _) (Nat.zero_le _) dX11_mean_74
        · rw [if_neg h7] at hr2
          have hz : some (.inl (-1 : Int32)) = some z := hr2
          refine g_iconst (pc := 57) ok (-1) dX11_mean_57 (by decide +kernel) ?_
          exact g_xret (pc := 58) ok (Option.some.inj hz).symm (Nat.zero_le _) (Nat.zero_le _) dX11_mean_58
  · rw [if_neg h4] at hr0; exact thr hr0
theorem sh_244q : shp 244 = (244, 3, 1, []) := by decide +kernel
theorem cl_L_13 : Cond.classLink RL 13 nxE ∈ Tg := tg 1388 (by decide +kernel) (by decide +kernel)
theorem ml_L_7 : Cond.methodLink RL 7 yX11_person ∈ Tg := tg 1389 (by decide +kernel) (by decide +kernel)
theorem ml_L_15 : Cond.methodLink RL 15 yX11_mean ∈ Tg := tg 1458 (by decide +kernel) (by decide +kernel)
theorem in01 : vp_in (0 : Int32) 1 := by unfold vp_in; decide
def outW (M : Nat → Obj) (r : Int32) : Nat → Obj := va_up M 244 (sL (M 244) 0 (Int32.toNatClampNeg 0) (i2l r))
theorem up2M (M : Nat → Obj) (s s' : Obj) : va_up (va_up M 244 s) 244 s' = va_up M 244 s' := by
  funext q
  by_cases hq : q = 244
  · subst hq; rw [va_up_self, va_up_self]
  · rw [va_up_ne _ _ hq, va_up_ne _ _ hq, va_up_ne _ _ hq]
theorem wL_person {l : Launch} (hst : l.stackTraces = false) {G : Gx} {b d : Nat} {XX YY : Nat → Obj} {v1 v2 : Int32} {z : Int32 ⊕ Unit} (hr : fKL_person XX v1 v2 = some z) {k : Int32} {M' : Nat → Obj} (hk : (∀ r, z = .inl r → k = 0 ∧ M' = outW (mx XX YY) r) ∧ (z = .inr () → k = 1 ∧ M' = mx XX YY)) : MetH l G b yL_person cL_person 5 (some .int) [(0, 10, 13, 13)] (d + 7) 1 6 [.ref (b + 0), .int v1, .int v2, .ref (b + 244)] (Wd G.1 G.2 b (mx XX YY)) (qI G b k M') := by
  refine metH_start [some (.ref (b + 0)), some (.int v1), some (.int v2), some (.ref (b + 244)), none] (by decide +kernel) (Nat.le_of_ble_eq_true rfl) rfl ?_
  intro X hX ok htb hN
  have hst2 : X.2.1.stackTraces = false := by rw [hX]; exact hst
  refine g_aload_n (pc := 0) ok dL_person_0 rfl ?_
  refine g_iconst (pc := 1) ok 0 dL_person_1 (by decide +kernel) ?_
  refine g_aload_n (pc := 2) ok dL_person_2 rfl ?_
  refine g_iload_n (pc := 3) ok dL_person_3 rfl ?_
  refine g_iload_n (pc := 4) ok dL_person_4 rfl ?_
  refine g_cX (pc := 5) (dy := d + 6) (z := z) (As := [.int v1, .int v2]) ok hN cls11 sh_0 rfl ml_L_7 wv_X11_person yk_X11_person rfl (Nat.le_refl _) (show 8 + (3 + 11) + 60 * (d + 6) ≤ 60 * (d + 7) by omega) (Nat.le_of_ble_eq_true rfl) (Nat.le_of_ble_eq_true rfl) (xKL_person (d := d) hst2 hr) rfl (Nat.le_of_ble_eq_true rfl) dL_person_5 (fun hz q9 ce H1 locs1 ls hW hS hlv hcell hv hcl => ?_) (fun r hz => ?_)
  · obtain ⟨rfl, rfl⟩ := hk.2 hz
    refine vx_catch (own := RL) (name := nxE) (E := nxE) ok.2.2.2.1 [] ⟨0, 10, 13, 13⟩ [] (htb.trans rfl) (fun z hz => nomatch hz) (by decide) (by decide) (ok.2.2.2.2.1 _ cl_L_13) (va_Nw.use rfl (hN _ (List.mem_cons_self))) hcell hv hcl ?_
    refine (show VG X b 5 (QP X b 1 6 (qI G b 1 (mx XX YY))) (Wd G.1 G.2 b (mx XX YY)) 1 6 13 [some (.ref (b + 0)), some (.int v1), some (.int v2), some (.ref (b + 244)), none] [.ref q9] from ?_) H1 locs1 ls hW hS hlv
    refine g_astore (pc := 13) ok dL_person_13 (Nat.le_of_ble_eq_true rfl) rfl ?_
    refine g_iconst (pc := 15) ok 1 dL_person_15 (by decide +kernel) ?_
    exact g_iret (pc := 16) (P' := Wd G.1 G.2 b (mx XX YY)) ok dL_person_16 rfl (fun _ h => h)
  · obtain ⟨rfl, rfl⟩ := hk.1 r hz
    refine g_i2l (pc := 8) ok dL_person_8 ?_
    refine g_toM (up_eta (mx XX YY) 244).symm ?_
    refine gw_last (pc := 9) ok sh_244q rfl in01 (va_up (mx XX YY) 244) (va_up_self _ _ _) (up2M _ _) dL_person_9 ?_
    refine g_goto (pc := 10) ok 17 dL_person_10 rfl ?_
    refine g_iconst (pc := 17) ok 0 dL_person_17 (by decide +kernel) ?_
    exact g_iret (pc := 18) (P' := Wd G.1 G.2 b (outW (mx XX YY) r)) ok dL_person_18 rfl (fun _ h => h)
theorem wL_mean {l : Launch} (hst : l.stackTraces = false) {G : Gx} {b d : Nat} {XX YY : Nat → Obj} {v1 : Int32} {z : Int32 ⊕ Unit} (hr : fKL_mean XX v1 = some z) {k : Int32} {M' : Nat → Obj} (hk : (∀ r, z = .inl r → k = 0 ∧ M' = outW (mx XX YY) r) ∧ (z = .inr () → k = 1 ∧ M' = mx XX YY)) : MetH l G b yL_mean cL_mean 4 (some .int) [(0, 9, 12, 13)] (d + 7) 1 6 [.ref (b + 0), .int v1, .ref (b + 244)] (Wd G.1 G.2 b (mx XX YY)) (qI G b k M') := by
  refine metH_start [some (.ref (b + 0)), some (.int v1), some (.ref (b + 244)), none] (by decide +kernel) (Nat.le_of_ble_eq_true rfl) rfl ?_
  intro X hX ok htb hN
  have hst2 : X.2.1.stackTraces = false := by rw [hX]; exact hst
  refine g_aload_n (pc := 0) ok dL_mean_0 rfl ?_
  refine g_iconst (pc := 1) ok 0 dL_mean_1 (by decide +kernel) ?_
  refine g_aload_n (pc := 2) ok dL_mean_2 rfl ?_
  refine g_iload_n (pc := 3) ok dL_mean_3 rfl ?_
  refine g_cX (pc := 4) (dy := d + 6) (z := z) (As := [.int v1]) ok hN cls11 sh_0 rfl ml_L_15 wv_X11_mean yk_X11_mean rfl (Nat.le_refl _) (show 8 + (5 + 11) + 60 * (d + 6) ≤ 60 * (d + 7) by omega) (Nat.le_of_ble_eq_true rfl) (Nat.le_of_ble_eq_true rfl) (xKL_mean (d := d) hst2 hr) rfl (Nat.le_of_ble_eq_true rfl) dL_mean_4 (fun hz q9 ce H1 locs1 ls hW hS hlv hcell hv hcl => ?_) (fun r hz => ?_)
  · obtain ⟨rfl, rfl⟩ := hk.2 hz
    refine vx_catch (own := RL) (name := nxE) (E := nxE) ok.2.2.2.1 [] ⟨0, 9, 12, 13⟩ [] (htb.trans rfl) (fun z hz => nomatch hz) (by decide) (by decide) (ok.2.2.2.2.1 _ cl_L_13) (va_Nw.use rfl (hN _ (List.mem_cons_self))) hcell hv hcl ?_
    refine (show VG X b 4 (QP X b 1 6 (qI G b 1 (mx XX YY))) (Wd G.1 G.2 b (mx XX YY)) 1 6 12 [some (.ref (b + 0)), some (.int v1), some (.ref (b + 244)), none] [.ref q9] from ?_) H1 locs1 ls hW hS hlv
    refine g_astore_n (pc := 12) ok dL_mean_12 (Nat.le_of_ble_eq_true rfl) rfl ?_
    refine g_iconst (pc := 13) ok 1 dL_mean_13 (by decide +kernel) ?_
    exact g_iret (pc := 14) (P' := Wd G.1 G.2 b (mx XX YY)) ok dL_mean_14 rfl (fun _ h => h)
  · obtain ⟨rfl, rfl⟩ := hk.1 r hz
    refine g_i2l (pc := 7) ok dL_mean_7 ?_
    refine g_toM (up_eta (mx XX YY) 244).symm ?_
    refine gw_last (pc := 8) ok sh_244q rfl in01 (va_up (mx XX YY) 244) (va_up_self _ _ _) (up2M _ _) dL_mean_8 ?_
    refine g_goto (pc := 9) ok 15 dL_mean_9 rfl ?_
    refine g_iconst (pc := 15) ok 0 dL_mean_15 (by decide +kernel) ?_
    exact g_iret (pc := 16) (P' := Wd G.1 G.2 b (outW (mx XX YY) r)) ok dL_mean_16 rfl (fun _ h => h)
