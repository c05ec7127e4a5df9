set_option maxRecDepth 20000
theorem cl_L_8 : Cond.classLink RL 8 RX11 ∈ Tg := tg 141 (by decide +kernel) (by decide +kernel)
theorem cl_L_20 : Cond.classLink RL 20 RX12 ∈ Tg := tg 1486 (by decide +kernel) (by decide +kernel)
theorem lk_19 : Cond.methodLink RL 19 yX11_init ∈ Tg := tg 143 (by decide +kernel) (by decide +kernel)
theorem lk_22 : Cond.methodLink RL 22 yX12_init ∈ Tg := tg 1487 (by decide +kernel) (by decide +kernel)
theorem bx_in : ∀ w ∈ BX, w ∈ lw_tbl := by decide +kernel
theorem fl_tr {l : Launch} (h : l.flags = flags0) : l.stackTraces = false := by
  unfold Launch.stackTraces
  rw [h]
  decide +kernel
def tgS : List Nat := [208, 281, 306, 319, 332, 369, 437, 474, 499, 536, 573, 598, 635, 672, 697, 710, 735, 748, 761, 798, 823, 836, 849, 874, 887, 924, 937, 993, 1018, 1043, 1080, 1129, 1154, 1179, 1192, 1217, 1242, 1267]
def ofS : Array Int := #[168, 241, 266, 279, 292, 329, 397, 434, 459, 496, 533, 558, 595, 632, 657, 670, 695, 708, 721, 758, 783, 796, 809, 834, 847, 884, 897, 953, 978, 1003, 1040, 1089, 1114, 1139, 1152, 1177, 1202, 1227]
section LT
variable {Z : Cx} {G : Gx} {b sb L ii nc ns : Nat} {xs : Nat → Int32} {Q : State → Prop} {X : Nat → Obj} {m o : Obj}
theorem lc_all (C : LC Z G b sb L xs) (hi : ii + 6 ≤ L) (hc : nc + 1 ≤ 601024) (hs : ns + 6 ≤ 7293034) (hR : R X m) (kq : ∀ (X2 : Nat → Obj) (m2 o2 : Obj), R X2 m2 → VG Z b 7 Q (Wd G.1 G.2 b (LW X2 m2 o2)) (nc + 1) (ns + 6) 1292 (lvL b sb ii) []) : ∀ j, j < 38 → VG Z b 7 Q (Wd G.1 G.2 b (LW X m o)) nc ns (tgS.getD j 0) (lvL b sb ii) [] := by
  have h0 : ∀ j, j < 0 → VG Z b 7 Q (Wd G.1 G.2 b (LW X m o)) nc ns (tgS.getD j 0) (lvL b sb ii) [] := fun j h => absurd h (Nat.not_lt_zero j)
  have h1 := nstep (P := (fun j => VG Z b 7 Q (Wd G.1 G.2 b (LW X m o)) nc ns (tgS.getD j 0) (lvL b sb ii) [])) h0 (lc_0 C hi hc hs hR kq)
  have h2 := nstep (P := (fun j => VG Z b 7 Q (Wd G.1 G.2 b (LW X m o)) nc ns (tgS.getD j 0) (lvL b sb ii) [])) h1 (lc_1 C hi hc hs hR kq)
  have h3 := nstep (P := (fun j => VG Z b 7 Q (Wd G.1 G.2 b (LW X m o)) nc ns (tgS.getD j 0) (lvL b sb ii) [])) h2 (lc_2 C hi hc hs hR kq)
  have h4 := nstep (P := (fun j => VG Z b 7 Q (Wd G.1 G.2 b (LW X m o)) nc ns (tgS.getD j 0) (lvL b sb ii) [])) h3 (lc_3 C hi hc hs hR kq)
  have h5 := nstep (P := (fun j => VG Z b 7 Q (Wd G.1 G.2 b (LW X m o)) nc ns (tgS.getD j 0) (lvL b sb ii) [])) h4 (lc_4 C hi hc hs hR kq)
  have h6 := nstep (P := (fun j => VG Z b 7 Q (Wd G.1 G.2 b (LW X m o)) nc ns (tgS.getD j 0) (lvL b sb ii) [])) h5 (lc_5 C hi hc hs hR kq)
  have h7 := nstep (P := (fun j => VG Z b 7 Q (Wd G.1 G.2 b (LW X m o)) nc ns (tgS.getD j 0) (lvL b sb ii) [])) h6 (lc_6 C hi hc hs hR kq)
  have h8 := nstep (P := (fun j => VG Z b 7 Q (Wd G.1 G.2 b (LW X m o)) nc ns (tgS.getD j 0) (lvL b sb ii) [])) h7 (lc_7 C hi hc hs hR kq)
  have h9 := nstep (P := (fun j => VG Z b 7 Q (Wd G.1 G.2 b (LW X m o)) nc ns (tgS.getD j 0) (lvL b sb ii) [])) h8 (lc_8 C hi hc hs hR kq)
  have h10 := nstep (P := (fun j => VG Z b 7 Q (Wd G.1 G.2 b (LW X m o)) nc ns (tgS.getD j 0) (lvL b sb ii) [])) h9 (lc_9 C hi hc hs hR kq)
  have h11 := nstep (P := (fun j => VG Z b 7 Q (Wd G.1 G.2 b (LW X m o)) nc ns (tgS.getD j 0) (lvL b sb ii) [])) h10 (lc_10 C hi hc hs hR kq)
  have h12 := nstep (P := (fun j => VG Z b 7 Q (Wd G.1 G.2 b (LW X m o)) nc ns (tgS.getD j 0) (lvL b sb ii) [])) h11 (lc_11 C hi hc hs hR kq)
  have h13 := nstep (P := (fun j => VG Z b 7 Q (Wd G.1 G.2 b (LW X m o)) nc ns (tgS.getD j 0) (lvL b sb ii) [])) h12 (lc_12 C hi hc hs hR kq)
  have h14 := nstep (P := (fun j => VG Z b 7 Q (Wd G.1 G.2 b (LW X m o)) nc ns (tgS.getD j 0) (lvL b sb ii) [])) h13 (lc_13 C hi hc hs hR kq)
  have h15 := nstep (P := (fun j => VG Z b 7 Q (Wd G.1 G.2 b (LW X m o)) nc ns (tgS.getD j 0) (lvL b sb ii) [])) h14 (lc_14 C hi hc hs hR kq)
  have h16 := nstep (P := (fun j => VG Z b 7 Q (Wd G.1 G.2 b (LW X m o)) nc ns (tgS.getD j 0) (lvL b sb ii) [])) h15 (lc_15 C hi hc hs hR kq)
  have h17 := nstep (P := (fun j => VG Z b 7 Q (Wd G.1 G.2 b (LW X m o)) nc ns (tgS.getD j 0) (lvL b sb ii) [])) h16 (lc_16 C hi hc hs hR kq)
  have h18 := nstep (P := (fun j => VG Z b 7 Q (Wd G.1 G.2 b (LW X m o)) nc ns (tgS.getD j 0) (lvL b sb ii) [])) h17 (lc_17 C hi hc hs hR kq)
  have h19 := nstep (P := (fun j => VG Z b 7 Q (Wd G.1 G.2 b (LW X m o)) nc ns (tgS.getD j 0) (lvL b sb ii) [])) h18 (lc_18 C hi hc hs hR kq)
  have h20 := nstep (P := (fun j => VG Z b 7 Q (Wd G.1 G.2 b (LW X m o)) nc ns (tgS.getD j 0) (lvL b sb ii) [])) h19 (lc_19 C hi hc hs hR kq)
  have h21 := nstep (P := (fun j => VG Z b 7 Q (Wd G.1 G.2 b (LW X m o)) nc ns (tgS.getD j 0) (lvL b sb ii) [])) h20 (lc_20 C hi hc hs hR kq)
  have h22 := nstep (P := (fun j => VG Z b 7 Q (Wd G.1 G.2 b (LW X m o)) nc ns (tgS.getD j 0) (lvL b sb ii) [])) h21 (lc_21 C hi hc hs hR kq)
  have h23 := nstep (P := (fun j => VG Z b 7 Q (Wd G.1 G.2 b (LW X m o)) nc ns (tgS.getD j 0) (lvL b sb ii) [])) h22 (lc_22 C hi hc hs hR kq)
  have h24 := nstep (P := (fun j => VG Z b 7 Q (Wd G.1 G.2 b (LW X m o)) nc ns (tgS.getD j 0) (lvL b sb ii) [])) h23 (lc_23 C hi hc hs hR kq)
  have h25 := nstep (P := (fun j => VG Z b 7 Q (Wd G.1 G.2 b (LW X m o)) nc ns (tgS.getD j 0) (lvL b sb ii) [])) h24 (lc_24 C hi hc hs hR kq)
  have h26 := nstep (P := (fun j => VG Z b 7 Q (Wd G.1 G.2 b (LW X m o)) nc ns (tgS.getD j 0) (lvL b sb ii) [])) h25 (lc_25 C hi hc hs hR kq)
  have h27 := nstep (P := (fun j => VG Z b 7 Q (Wd G.1 G.2 b (LW X m o)) nc ns (tgS.getD j 0) (lvL b sb ii) [])) h26 (lc_26 C hi hc hs hR kq)
  have h28 := nstep (P := (fun j => VG Z b 7 Q (Wd G.1 G.2 b (LW X m o)) nc ns (tgS.getD j 0) (lvL b sb ii) [])) h27 (lc_27 C hi hc hs hR kq)
  have h29 := nstep (P := (fun j => VG Z b 7 Q (Wd G.1 G.2 b (LW X m o)) nc ns (tgS.getD j 0) (lvL b sb ii) [])) h28 (lc_28 C hi hc hs hR kq)
  have h30 := nstep (P := (fun j => VG Z b 7 Q (Wd G.1 G.2 b (LW X m o)) nc ns (tgS.getD j 0) (lvL b sb ii) [])) h29 (lc_29 C hi hc hs hR kq)
  have h31 := nstep (P := (fun j => VG Z b 7 Q (Wd G.1 G.2 b (LW X m o)) nc ns (tgS.getD j 0) (lvL b sb ii) [])) h30 (lc_30 C hi hc hs hR kq)
  have h32 := nstep (P := (fun j => VG Z b 7 Q (Wd G.1 G.2 b (LW X m o)) nc ns (tgS.getD j 0) (lvL b sb ii) [])) h31 (lc_31 C hi hc hs hR kq)
  have h33 := nstep (P := (fun j => VG Z b 7 Q (Wd G.1 G.2 b (LW X m o)) nc ns (tgS.getD j 0) (lvL b sb ii) [])) h32 (lc_32 C hi hc hs hR kq)
  have h34 := nstep (P := (fun j => VG Z b 7 Q (Wd G.1 G.2 b (LW X m o)) nc ns (tgS.getD j 0) (lvL b sb ii) [])) h33 (lc_33 C hi hc hs hR kq)
  have h35 := nstep (P := (fun j => VG Z b 7 Q (Wd G.1 G.2 b (LW X m o)) nc ns (tgS.getD j 0) (lvL b sb ii) [])) h34 (lc_34 C hi hc hs hR kq)
  have h36 := nstep (P := (fun j => VG Z b 7 Q (Wd G.1 G.2 b (LW X m o)) nc ns (tgS.getD j 0) (lvL b sb ii) [])) h35 (lc_35 C hi hc hs hR kq)
  have h37 := nstep (P := (fun j => VG Z b 7 Q (Wd G.1 G.2 b (LW X m o)) nc ns (tgS.getD j 0) (lvL b sb ii) [])) h36 (lc_36 C hi hc hs hR kq)
  have h38 := nstep (P := (fun j => VG Z b 7 Q (Wd G.1 G.2 b (LW X m o)) nc ns (tgS.getD j 0) (lvL b sb ii) [])) h37 (lc_37 C hi hc hs hR kq)
  exact h38
theorem ts_off : ∀ j : Nat, j < 38 → ofS[j]? = some (((tgS.getD j 0 : Nat) : Int) - 40) := by decide +kernel
theorem law_turn (C : LC Z G b sb L xs) (hi : ii + 6 ≤ L) (hc : nc + 1 ≤ 601024) (hs : ns + 6 ≤ 7293034) (hR : R X m) (kq : ∀ (X2 : Nat → Obj) (m2 o2 : Obj), R X2 m2 → VG Z b 7 Q (Wd G.1 G.2 b (LW X2 m2 o2)) (nc + 1) (ns + 6) 1292 (lvL b sb ii) []) : VG Z b 7 Q (Wd G.1 G.2 b (LW X m o)) nc ns 33 (lvL b sb ii) [] := by
  refine g_aload_n (pc := 33) C.1 dL_law_33 rfl ?_
  refine g_iload (pc := 34) C.1 dL_law_34 rfl ?_
  refine g_sld (pc := 36) C.1 C.2.1 C.2.2.1 C.2.2.2.1 (pk_in ii L (by omega) rfl (by have := C.2.2.2.2.1; omega)) dL_law_36 ?_
  refine g_bipush (pc := 37) C.1 63 dL_law_37 (by decide +kernel) ?_
  refine g_iand (pc := 39) C.1 dL_law_39 ?_
  generalize xs (nI ii).toNatClampNeg &&& 63 = x
  by_cases hx : x.toInt < 0 ∨ 37 < x.toInt
  · refine g_tsOut (pc := 40) (tgt := 1292) C.1 dL_law_40 hx rfl ?_
    exact g_widen (Nat.le_succ nc) (Nat.le_add_right ns 6) (kq X m o hR)
  · have h1 : ¬ x.toInt < 0 := fun h => hx (Or.inl h)
    have h2 : ¬ 37 < x.toInt := fun h => hx (Or.inr h)
    have h3 : (x.toInt - 0).toNat < 38 := by omega
    exact g_tsIn (pc := 40) C.1 dL_law_40 h1 h2 (ts_off _ h3) (by omega) (lc_all C hi hc hs hR kq _ h3)
theorem law_next (C : LC Z G b sb L xs) {P : Heap → Prop} (k : VG Z b 7 Q P nc ns 23 (lvL b sb (ii + 6)) []) : VG Z b 7 Q P nc ns 1292 (lvL b sb ii) [] := by
  refine g_iinc (pc := 1292) C.1 6 dL_law_1292 (by decide +kernel) rfl (Nat.le_of_ble_eq_true rfl) rfl ?_
  refine g_goto (pc := 1295) C.1 23 dL_law_1295 rfl ?_
  have e : nI ii + 6 = nI (ii + 6) := (Int32.ofNat_add ii 6).symm
  show VG Z b 7 Q P nc ns 23 [some (.ref sb), some (.ref (b + 0)), some (.ref (b + 225)), some (.ref (b + 244)), some (.int (nI ii + 6)), none, none] []
  rw [e]
  exact k
end LT
section LE
variable {p : Program} {l : Launch} {e : Env} {s : State} {mi : MethodId} {below : List Frame} {meth : Method} {c : Code} {G : Gx} {b sb L : Nat} {xs : Nat → Int32}
abbrev lX (p : Program) (l : Launch) (e : Env) (s : State) (mi : MethodId) (below : List Frame) (meth : Method) (c : Code) (sb : Nat) : Cx := (p, l, e, room_1, s, mi, #[Value.ref sb], below, meth, c)
theorem law_end {P : Heap → Prop} {nc ns : Nat} {lv : List (Option Value)} (C : LC (lX p l e s mi below meth c sb) G b sb L xs) (hb : s.heap.size ≤ b) (h1 : nc ≤ 601024) (h2 : ns ≤ 7293034) : VG (lX p l e s mi below meth c sb) b 7 (lw_Z below #[Value.ref sb] s) P nc ns 1298 lv [] := by
  refine g_iconst (pc := 1298) C.1 1 dL_law_1298 (by decide +kernel) ?_
  intro H locs ls hW hS hl
  refine va_forget (fun q hq => Nat.le_trans hb (hS.2.2 q hq)) ?_
  refine W.widen h1 h2 ?_
  exact lw_ret C.1.1 C.1.2.1 C.1.2.2.2.2.2.2.2.2 C.1.2.2.2.2.2.2.1 dL_law_1299
theorem law_loop (C : LC (lX p l e s mi below meth c sb) G b sb L xs) (hb : s.heap.size ≤ b) : ∀ (n ii nc ns : Nat) (X : Nat → Obj) (m o : Obj), R X m → ii ≤ L → L < ii + 6 * n + 6 → nc + n ≤ 1000 → ns + 6 * n ≤ 20000 → VG (lX p l e s mi below meth c sb) b 7 (lw_Z below #[Value.ref sb] s) (Wd G.1 G.2 b (LW X m o)) nc ns 23 (lvL b sb ii) [] := by
  intro n
  induction n with
  | zero =>
    intro ii nc ns X m o hR h1 h2 h3 h4
    have hL := C.2.2.2.2.1
    refine g_iload (pc := 23) C.1 dL_law_23 rfl ?_
    refine g_aload_n (pc := 25) C.1 dL_law_25 rfl ?_
    refine g_slen (pc := 26) C.1 C.2.1 C.2.2.1 C.2.2.2.1 dL_law_26 ?_
    refine g_bipush (pc := 27) C.1 6 dL_law_27 (by decide +kernel) ?_
    refine g_isub (pc := 29) C.1 dL_law_29 ?_
    refine g_icmp_gt (pc := 30) C.1 1298 dL_law_30 rfl (fun _ => law_end C hb (by omega) (by omega)) (fun h => ?_)
    exfalso
    refine h (Int32.lt_iff_toInt_lt.mpr ?_)
    have e1 : (nI L - nI 6).toInt = (L : Int) - (6 : Nat) := pk_sub_toInt (by omega) (by decide)
    have e2 : (nI ii).toInt = ii := nI_toInt (by omega)
    have e3 : (Int32.ofNat L - 6).toInt = (L : Int) - (6 : Nat) := e1
    rw [e3, e2]
    omega
  | succ n ih =>
    intro ii nc ns X m o hR h1 h2 h3 h4
    have hL := C.2.2.2.2.1
    refine g_iload (pc := 23) C.1 dL_law_23 rfl ?_
    refine g_aload_n (pc := 25) C.1 dL_law_25 rfl ?_
    refine g_slen (pc := 26) C.1 C.2.1 C.2.2.1 C.2.2.2.1 dL_law_26 ?_
    refine g_bipush (pc := 27) C.1 6 dL_law_27 (by decide +kernel) ?_
    refine g_isub (pc := 29) C.1 dL_law_29 ?_
    refine g_icmp_gt (pc := 30) C.1 1298 dL_law_30 rfl (fun _ => law_end C hb (by omega) (by omega)) (fun h => ?_)
    have hi : ii + 6 ≤ L := by
      refine Nat.le_of_not_lt fun h5 => h (Int32.lt_iff_toInt_lt.mpr ?_)
      have e1 : (nI L - nI 6).toInt = (L : Int) - (6 : Nat) := pk_sub_toInt (by omega) (by decide)
      have e2 : (nI ii).toInt = ii := nI_toInt (by omega)
      have e3 : (Int32.ofNat L - 6).toInt = (L : Int) - (6 : Nat) := e1
      rw [e3, e2]
      omega
    refine law_turn C hi (by omega) (by omega) hR (fun X2 m2 o2 hR2 => ?_)
    exact law_next C (ih (ii + 6) (nc + 1) (ns + 6) X2 m2 o2 hR2 (by omega) (by omega) (by omega) (by omega))
theorem M0_LW : M0 = LW M0 (M0 225) (M0 244) := by
  show M0 = mx M0 (va_up (va_up M0 244 (M0 244)) 225 (M0 225))
  rw [up_eta, up_eta]
  funext q
  unfold mx
  by_cases h : q < 225
  · rw [if_pos h]
  · rw [if_neg h]
theorem wd_start {H : Heap} (h : WK G b 245 (cE3 b G) H) : Wd G.1 G.2 b M0 H := by
  intro k q hk
  obtain ⟨hlt, rfl⟩ := wsF_at hk
  exact cw_245 k hlt H (h k _ (wsK_at hlt))
theorem law_body (C : LC (lX p l e s mi below meth c sb) G b sb L xs) (hb : s.heap.size = b) : VG (lX p l e s mi below meth c sb) b 7 (lw_Z below #[Value.ref sb] s) (WK G b 0 cE0) 0 0 0 [some (.ref sb), none, none, none, none, none, none] [] := by
  have hz : Sz (lX p l e s mi below meth c sb) b 0 0 := ⟨Nat.le_of_eq hb.symm, hb⟩
  have hL := C.2.2.2.2.1
  refine g_new (pc := 0) C.1 cls11 cl_L_8 in_X11 ii_X11 hz df_X11 (Nat.le_of_ble_eq_true rfl) (Nat.le_of_ble_eq_true rfl) dL_law_0 ?_
  refine g_to (show _ = cE1 from rfl) ?_
  refine g_dup (pc := 3) C.1 dL_law_3 rfl ?_
  refine g_ws (hz.up 1) ?_
  refine g_kV (pc := 4) (g_cI (dy := 8) (mc := 224) (ms := 3787) (a := b + 0) (As := []) C.1 lk_19 wi_X11_init yi_X11_init rfl (Nat.le_of_ble_eq_true rfl) (Nat.le_of_ble_eq_true rfl) (Nat.le_of_ble_eq_true rfl) (Nat.le_of_ble_eq_true rfl) (kX11 (d := 0) va_upS) rfl (Nat.le_of_ble_eq_true rfl) dL_law_4) ?_
  refine g_wk ?_
  refine g_astore_n (pc := 7) C.1 dL_law_7 (Nat.le_of_ble_eq_true rfl) rfl ?_
  refine g_new (pc := 8) C.1 cls12 cl_L_20 in_X12 ii_X12 (hz.up 225) df_X12 (Nat.le_of_ble_eq_true rfl) (Nat.le_of_ble_eq_true rfl) dL_law_8 ?_
  refine g_to (show _ = cE2 b G from rfl) ?_
  refine g_dup (pc := 11) C.1 dL_law_11 rfl ?_
  refine g_ws (hz.up 226) ?_
  refine g_kV (pc := 12) (g_cI (dy := 1) (mc := 18) (ms := 3491) (a := b + 225) (As := []) C.1 lk_22 wi_X12_init yi_X12_init rfl (Nat.le_of_ble_eq_true rfl) (Nat.le_of_ble_eq_true rfl) (Nat.le_of_ble_eq_true rfl) (Nat.le_of_ble_eq_true rfl) (kX12 (d := 0) va_upS) rfl (Nat.le_of_ble_eq_true rfl) dL_law_12) ?_
  refine g_wk ?_
  refine g_astore_n (pc := 15) C.1 dL_law_15 (Nat.le_of_ble_eq_true rfl) rfl ?_
  refine g_iconst (pc := 16) C.1 1 dL_law_16 (by decide +kernel) ?_
  refine g_newaJ (pc := 17) (N := 1) C.1 ac_J (hz.up 244) (by decide) (by decide +kernel) (Nat.le_of_ble_eq_true rfl) (Nat.le_of_ble_eq_true rfl) (Nat.le_of_ble_eq_true rfl) dL_law_17 ?_
  refine g_to (show _ = cE3 b G from rfl) ?_
  refine g_astore_n (pc := 19) C.1 dL_law_19 (Nat.le_of_ble_eq_true rfl) rfl ?_
  refine g_iconst (pc := 20) C.1 0 dL_law_20 (by decide +kernel) ?_
  refine g_istore (pc := 21) C.1 dL_law_21 (Nat.le_of_ble_eq_true rfl) rfl ?_
  refine g_P (P' := Wd G.1 G.2 b M0) (fun H h => wd_start h) ?_
  refine g_toM M0_LW ?_
  exact law_loop C (Nat.le_of_eq hb) 512 0 _ _ M0 (M0 225) (M0 244) R_start (Nat.zero_le _) (by omega) (Nat.le_of_ble_eq_true rfl) (Nat.le_of_ble_eq_true rfl)
end LE
theorem whole_start {p : Program} {e : Env} {s : State} {m : MethodId} {below : List Frame} {meth : Method} {c : Code} (l : Launch) (hflags : l.flags = flags0) {b L : Nat} {xs : Nat → Int32} (hL : L ≤ 3072) (C0 : lw_At p s m meth c b L xs) : W p l e room_1 s m #[Value.ref b] below meth c s.heap [] 0 0 (lw_Z below #[Value.ref b] s) (entryFrame m ([Value.ref b] : List Value).toArray 7) := by
  obtain ⟨hx, hb, hr, hml, hown, hts, hX, hbl, hlocks, hgv⟩ := id C0
  obtain ⟨G, hE⟩ := ev_start hts hgv
  have hT : ∀ w ∈ Tg, w.before #[Value.ref b] s = true := fun w hw => hts w (List.mem_filter.mp hw).1
  have hN : NX s := fun w hw => va_Nw.of (bx_ot w hw) (hts w (bx_in w hw))
  have C : LC (lX p l e s m below meth c b) G s.heap.size b L xs := ⟨⟨hx, hb, hml, hown, hT, hE, hlocks, rfl, hr⟩, hX, hbl, Nat.not_le.mpr hbl, hL, hN, fl_tr hflags⟩
  have hl := lv_entry ([.ref b]) (n := 7) (Nat.le_of_ble_eq_true rfl)
  rw [lg_entry_eq]
  refine law_body C rfl s.heap [] _ (fun k q hk => ?_) va_S.rf ?_
  · have := (wsK_of hk).1
    omega
  · exact hl
