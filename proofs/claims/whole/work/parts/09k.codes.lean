set_option maxRecDepth 20000
section AR
variable {X : Cx} {G : Gx} {b nL nc ns mc ms : Nat} {Q : State → Prop} {P : Heap → Prop} {R : Room} {pc : Nat} {lv : List (Option Value)} {st st0 : List Value} {cc : ByteArray} {own : String} {ret : Option FieldType}
def pR (b a : Nat) (P : Heap → Prop) : Array Value → State → Outcome → State → Prop := va_Qr (fun (_ : Unit) => True) (fun _ r t => r = a ∧ P t.heap) (fun q => b ≤ q)
theorem g_lds (ok : OKg X G b cc nL own ret R) {n i : Nat} {tx : String} (hd : decode cc pc = .ok (.ldc n, 2)) (hq : refS[i]? = some (own, n, tx)) (k : VG X b nL Q P nc ns (pc + 2) lv (.ref (aS G i) :: st)) : VG X b nL Q P nc ns pc lv st :=
  fun H locs ls hW hS hl => va_ldcS ok.1 ok.2.1 ok.2.2.2.1 (ok.2.2.2.2.2.1.2.2.2.1 i _ hq) hd (k H locs ls hW hS hl)
theorem g_aret {ty : FieldType} (ok : OKg X G b cc nL own (some (.array ty)) R) {a : Nat} {P' : Heap → Prop} (hd : decode cc pc = .ok (.areturn, 1)) (hP : ∀ H, P H → P' H) : VG X b nL (QP X b nc ns (pR b a P')) P nc ns pc lv [.ref a] := by
  intro H locs ls hW hS hl
  have hlocks : X.2.2.2.2.2.2.2.2.1.locks = false := ok.2.2.2.2.2.2.1
  exact W.aret ok.1 ok.2.1 ok.2.2.2.2.2.2.2.2 (Or.inr ⟨_, rfl⟩) (Or.inr ⟨_, rfl⟩) (fun t ht hWm => ⟨⟨(), a, rfl, trivial, rfl, (show P' t.heap from by rw [ht]; exact hP H hW)⟩, hS.F ht⟩) hS.2.2 hd
theorem g_kR {a : Array Value} {v : Nat} {P' : Heap → Prop} (hr : RnP X b nL P nc ns mc ms pc lv st0 st (pR b v P') a) (kk : VG X b nL Q P' (nc + mc) (ns + ms) (pc + 3) lv (.ref v :: st)) : VG X b nL Q P nc ns pc lv st0 := by
  intro H locs ls hW hS hl
  refine va_callr (A0 := fun q => b ≤ q) (hr H locs ls hW hS hl) hS (fun _ _ h => h) (fun _ h => h) (fun u ra t H1 locs1 ht hvm hp hB hz1 hk1 hS1 => ?_)
  rw [hB.1]
  exact kk H1 locs1 ls (by rw [← ht]; exact hB.2) hS1 hl
end AR
theorem some_gd {α : Type} {o : Option α} (d : α) (h : o.isSome = true) : o = some (o.getD d) := by
  cases o with
  | none => cases h
  | some x => rfl
def wd0 : Int32 × (Nat → Int64) := (iter (fcB 0) 100 (0, 0, 0, fun _ => 0)).getD (0, fun _ => 0)
theorem wd0_e : iter (fcB 0) 100 (0, 0, 0, fun _ => 0) = some wd0 := some_gd _ (by decide +kernel)
theorem wd0_1 : wd0.1 = 13 := by decide +kernel
def wd1 : Int32 × (Nat → Int64) := (iter (fcB 1) 100 (13, 0, 0, wd0.2)).getD (0, fun _ => 0)
theorem wd1_e : iter (fcB 1) 100 (wd0.1, 0, 0, wd0.2) = some wd1 := by
  rw [wd0_1]
  exact some_gd _ (by decide +kernel)
theorem wd1_1 : wd1.1 = 18 := by decide +kernel
def wd2 : Int32 × (Nat → Int64) := (iter (fcB 2) 100 (18, 0, 0, wd1.2)).getD (0, fun _ => 0)
theorem wd2_e : iter (fcB 2) 100 (wd1.1, 0, 0, wd1.2) = some wd2 := by
  rw [wd1_1]
  exact some_gd _ (by decide +kernel)
theorem ws_X10_codes : wSt yX10_codesOfWords cX10_codesOfWords 2 (some (.array .long)) := ⟨tg 156 (by decide +kernel) (by decide +kernel), tg 118 (by decide +kernel) (by decide +kernel), tg 157 rfl rfl⟩
theorem yk_X10_codes : yOK yX10_codesOfWords 0 := ⟨by decide +kernel, by decide +kernel, by decide +kernel⟩
theorem ws_X10_fill : wSt yX10_fillCodes cX10_fillCodes 7 (some .int) := ⟨tg 160 (by decide +kernel) (by decide +kernel), tg 118 (by decide +kernel) (by decide +kernel), tg 161 rfl rfl⟩
theorem yk_X10_fill : yOK yX10_fillCodes 3 := ⟨by decide +kernel, by decide +kernel, by decide +kernel⟩
theorem ml_Ta_25 : Cond.methodLink RX10 25 yX10_fillCodes ∈ Tg := tg 159 (by decide +kernel) (by decide +kernel)
theorem ml_Ta_9 : Cond.methodLink RX10 9 yX10_codesOfWords ∈ Tg := tg 155 (by decide +kernel) (by decide +kernel)
theorem kcodes {l : Launch} {G : Gx} {b d K : Nat} {cf : Nat → va_E} : MetP l G b yX10_codesOfWords cX10_codesOfWords 2 (some (.array .long)) (d + 6) 1 29 [] (WS G b K cf) (pR b (b + K) (WS G b (K + 1) (rowJ G cf K wd2.2))) := by
  refine metP_start [none, none] (by decide +kernel) (Nat.le_of_ble_eq_true rfl) rfl ?_
  intro X hX ok h0 hnm
  have hz : Sz X b 0 K := h0.sz
  refine g_wk ?_
  refine g_bipush (pc := 0) ok 29 dX10_codesOfWords_0 (by decide +kernel) ?_
  refine g_newaJ (pc := 2) (N := 29) ok ac_J (hz.up 0) (by decide) (by decide +kernel) (Nat.le_of_ble_eq_true rfl) (Nat.le_of_ble_eq_true rfl) (Nat.le_of_ble_eq_true rfl) dX10_codesOfWords_2 ?_
  refine g_to (show _ = rowJ G cf K (fun _ => 0) from rfl) ?_
  refine g_astore_n (pc := 4) ok dX10_codesOfWords_4 (Nat.le_of_ble_eq_true rfl) rfl ?_
  refine g_aload_n (pc := 5) ok dX10_codesOfWords_5 rfl ?_
  refine g_iconst (pc := 6) ok 0 dX10_codesOfWords_6 (by decide +kernel) ?_
  refine g_lds (pc := 7) (i := 0) ok dX10_codesOfWords_7 rfl ?_
  refine g_ws (hz.up 1) ?_
  refine g_kI (pc := 9) (g_cS (dy := d + 5) (mc := 0) (ms := 0) (As := [.ref (b + K), .int 0, .ref (aS G 0)]) ok ml_Ta_25 ws_X10_fill yk_X10_fill rfl (Nat.le_refl _) (show 8 + (7 + 11) + 60 * (d + 5) ≤ 60 * (d + 6) by omega) (Nat.le_of_ble_eq_true rfl) (Nat.le_of_ble_eq_true rfl) (kfill (d := d) (K := K + 1) (f := (fun _ => 0)) (Nat.lt_succ_self K) (by decide) 100 va_upS wd0_e) rfl (Nat.le_of_ble_eq_true rfl) dX10_codesOfWords_9) ?_
  refine g_wk ?_
  refine g_to (show rowJ G (rowJ G cf K (fun _ => 0)) K wd0.2 = rowJ G cf K wd0.2 from rowJ_up) ?_
  refine g_istore_n (pc := 12) ok dX10_codesOfWords_12 (Nat.le_of_ble_eq_true rfl) rfl ?_
  refine g_aload_n (pc := 13) ok dX10_codesOfWords_13 rfl ?_
  refine g_iload_n (pc := 14) ok dX10_codesOfWords_14 rfl ?_
  refine g_lds (pc := 15) (i := 1) ok dX10_codesOfWords_15 rfl ?_
  refine g_ws (hz.up 1) ?_
  refine g_kI (pc := 17) (g_cS (dy := d + 5) (mc := 0) (ms := 0) (As := [.ref (b + K), .int wd0.1, .ref (aS G 1)]) ok ml_Ta_25 ws_X10_fill yk_X10_fill rfl (Nat.le_refl _) (show 8 + (7 + 11) + 60 * (d + 5) ≤ 60 * (d + 6) by omega) (Nat.le_of_ble_eq_true rfl) (Nat.le_of_ble_eq_true rfl) (kfill (d := d) (K := K + 1) (f := wd0.2) (Nat.lt_succ_self K) (by decide) 100 va_upS wd1_e) rfl (Nat.le_of_ble_eq_true rfl) dX10_codesOfWords_17) ?_
  refine g_wk ?_
  refine g_to (show rowJ G (rowJ G cf K wd0.2) K wd1.2 = rowJ G cf K wd1.2 from rowJ_up) ?_
  refine g_istore_n (pc := 20) ok dX10_codesOfWords_20 (Nat.le_of_ble_eq_true rfl) rfl ?_
  refine g_aload_n (pc := 21) ok dX10_codesOfWords_21 rfl ?_
  refine g_iload_n (pc := 22) ok dX10_codesOfWords_22 rfl ?_
  refine g_lds (pc := 23) (i := 2) ok dX10_codesOfWords_23 rfl ?_
  refine g_ws (hz.up 1) ?_
  refine g_kI (pc := 25) (g_cS (dy := d + 5) (mc := 0) (ms := 0) (As := [.ref (b + K), .int wd1.1, .ref (aS G 2)]) ok ml_Ta_25 ws_X10_fill yk_X10_fill rfl (Nat.le_refl _) (show 8 + (7 + 11) + 60 * (d + 5) ≤ 60 * (d + 6) by omega) (Nat.le_of_ble_eq_true rfl) (Nat.le_of_ble_eq_true rfl) (kfill (d := d) (K := K + 1) (f := wd1.2) (Nat.lt_succ_self K) (by decide) 100 va_upS wd2_e) rfl (Nat.le_of_ble_eq_true rfl) dX10_codesOfWords_25) ?_
  refine g_wk ?_
  refine g_to (show rowJ G (rowJ G cf K wd1.2) K wd2.2 = rowJ G cf K wd2.2 from rowJ_up) ?_
  refine g_pop (pc := 28) ok dX10_codesOfWords_28 rfl ?_
  refine g_aload_n (pc := 29) ok dX10_codesOfWords_29 rfl ?_
  refine g_ws (hz.up 1) ?_
  exact g_aret (pc := 30) ok dX10_codesOfWords_30 (fun _ h => h)
