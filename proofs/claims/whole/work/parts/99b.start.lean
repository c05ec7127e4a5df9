set_option maxRecDepth 20000
/-! the start: classes, arrays' classes, String constants, statics -/
def fl_1 : List Cond := flatC (Jvm.Cond.and given_1 narrow_1)
def offS : List Nat := [24, 98, 131, 200, 211, 220, 240]
def tmS (i : Nat) : Term := .string (refS.getD i ("", 0, "")).1 (refS.getD i ("", 0, "")).2.1
def tvS (i : Nat) : Term := .field (tmS i) "java/lang/String" "value" "[B"
theorem fl_ex : ∀ i : Nat, i < 7 → fl_1[offS.getD i 0]? = some (Cond.exactly (tmS i) "java/lang/String") := by decide +kernel
theorem fl_co : ∀ i : Nat, i < 7 → fl_1[offS.getD i 0 + 1]? = some (Cond.eq (.field (tmS i) "java/lang/String" "coder" "B") (.int 0)) := by decide +kernel
theorem fl_ar : ∀ i : Nat, i < 7 → fl_1[offS.getD i 0 + 2]? = some (Cond.arrayOf (tvS i) .byte) := by decide +kernel
theorem fl_le : ∀ i : Nat, i < 7 → fl_1[offS.getD i 0 + 3]? = some (Cond.eq (.length (tvS i)) (.int (Int32.ofNat (lenS.getD i 0)))) := by decide +kernel
theorem fl_el : ∀ i : Nat, i < 7 → ∀ j : Nat, j < lenS.getD i 0 → fl_1[offS.getD i 0 + 4 + j]? = some (Cond.eq (.elem (tvS i) (.int (Int32.ofNat j))) (.int ((bytS.getD i []).getD j 0))) := by decide +kernel
theorem fl_ne : ∀ i : Nat, i < 7 → ∀ j : Nat, j < 7 → i ≠ j → (Cond.not (Cond.eq (tmS i) (tmS j))) ∈ fl_1 ∨ (Cond.not (Cond.eq (tmS j) (tmS i))) ∈ fl_1 := by decide +kernel
theorem fl_ln : ∀ i : Nat, i < 7 → lenS.getD i 0 < 2 ^ 31 := by decide +kernel
theorem fl_4 : fl_1[4]? = some (Cond.eq (.static "java/lang/String" "COMPACT_STRINGS" "Z") (.int 1)) := by decide +kernel
theorem fl_5 : fl_1[5]? = some (Cond.isRef (.static "jdk/internal/util/Preconditions" "SIOOBE_FORMATTER" "Ljava/util/function/BiFunction;")) := by decide +kernel
theorem fl_9 : fl_1[9]? = some (Cond.isRef (.static "java/lang/Throwable" "UNASSIGNED_STACK" "[Ljava/lang/StackTraceElement;")) := by decide +kernel
theorem fl_10 : fl_1[10]? = some (Cond.isRef (.static "java/lang/Throwable" "SUPPRESSED_SENTINEL" "Ljava/util/List;")) := by decide +kernel
def swS : List Nat := [158, 210, 211, 1153, 1168, 1174, 1175]
theorem sw_S : ∀ i : Nat, i < 7 → lw_tbl[swS.getD i 0]? = some (Cond.stringRef (refS.getD i ("", 0, "")).1 (refS.getD i ("", 0, "")).2.1 (refS.getD i ("", 0, "")).2.2) := by decide +kernel
theorem ts_171 : lw_tbl[171]? = some (Cond.laysStatic "java/lang/String" "COMPACT_STRINGS" "Z") := by decide +kernel
theorem ts_119 : lw_tbl[119]? = some (Cond.initialized "java/lang/String") := by decide +kernel
theorem ts_187 : lw_tbl[187]? = some (Cond.laysStatic "jdk/internal/util/Preconditions" "SIOOBE_FORMATTER" "Ljava/util/function/BiFunction;") := by decide +kernel
theorem ts_121 : lw_tbl[121]? = some (Cond.initialized "jdk/internal/util/Preconditions") := by decide +kernel
theorem ts_135 : lw_tbl[135]? = some (Cond.initialized "java/lang/Throwable") := by decide +kernel
theorem ts_1420 : lw_tbl[1420]? = some (Cond.laysStatic "java/lang/Throwable" "UNASSIGNED_STACK" "[Ljava/lang/StackTraceElement;") := by decide +kernel
theorem ts_1422 : lw_tbl[1422]? = some (Cond.laysStatic "java/lang/Throwable" "SUPPRESSED_SENTINEL" "Ljava/util/List;") := by decide +kernel
theorem ts_436 : lw_tbl[436]? = some (Cond.arrayOver (.object RX8)) := by decide +kernel
section ST
variable {s : State} {args : Array Value}
theorem st_K (hts : ∀ w ∈ lw_tbl, w.before args s = true) : ∃ D : va_G, ∀ (c : Nat) (q : vw_C), vwCl[c]? = some q → u_Kn s q.1 q.2.1 q.2.2 (D.1 c) (D.2 c) := by
  have hT : ∀ w ∈ Tg, w.before args s = true := fun w hw => hts w (List.mem_filter.mp hw).1
  have kk : ∀ {ci N : Nat} {C : String} {T : u_T} {ty0 : Nat → FieldType}, cOK ci C T N ty0 → Cond.instantiable C N ∈ Tg → ∃ z : ClassId × (Nat → Nat), ∀ q : vw_C, vwCl[ci]? = some q → u_Kn s q.1 q.2.1 q.2.2 z.1 z.2 := by
    intro ci N C T ty0 hc hi
    obtain ⟨cC, iS, hk⟩ := u_known (C := C) (T := T) (N := N) (n := N) hT hc.2.1 (hT _ hi)
    refine ⟨(cC, iS), fun q hq => ?_⟩
    rw [hc.1] at hq
    cases hq
    exact hk
  have h : ∀ c : Nat, ∃ z : ClassId × (Nat → Nat), ∀ q : vw_C, vwCl[c]? = some q → u_Kn s q.1 q.2.1 q.2.2 z.1 z.2 := by
    intro c
    match c with
    | 0 => exact kk cls0 in_X0
    | 1 => exact kk cls1 in_X1
    | 2 => exact kk cls2 in_X2
    | 3 => exact kk cls3 in_X3
    | 4 => exact kk cls4 in_X4
    | 5 => exact kk cls5 in_X5
    | 6 => exact kk cls6 in_X6
    | 7 => exact kk cls7 in_X7
    | 8 => exact kk cls8 in_X8
    | 9 => exact kk cls9 in_X9
    | 10 => exact kk cls10 in_X10
    | 11 => exact kk cls11 in_X11
    | 12 => exact kk cls12 in_X12
    | k + 13 => exact ⟨(0, fun _ => 0), fun q hq => by simp [vwCl] at hq⟩
  obtain ⟨f, hf⟩ := Classical.axiomOfChoice h
  exact ⟨(fun c => (f c).1, fun c => (f c).2), fun c q hq => hf c q hq⟩
theorem st_ty {ty : FieldType} (h : (Cond.arrayClass ty).before args s = true) : ∃ cA : ClassId, ArrOfT s cA ty ∧ s.vm.findClass ("[" ++ ty.toString) = some cA := by
  obtain ⟨cA, k, comp, h1, h2, h3⟩ := Cond.arrayClass_spec h
  exact ⟨cA, fun n z => ⟨fun k h => (by cases h), k, h2, comp, h3⟩, h1⟩
theorem st_tyO {C : String} (h : (Cond.arrayOver (.object C)).before args s = true) : ∃ cA : ClassId, ArrOfT s cA (.object C) ∧ va_RA s cA (.object C) := by
  obtain ⟨comp, cA, k, h1, -, h2, h3, h4⟩ := Cond.arrayOver_spec h
  exact ⟨cA, fun n z => ⟨fun k h => (by cases h), k, h2, comp, h3⟩, ⟨k, comp, h2, h3, h1, h4⟩⟩
theorem ev_start (hts : ∀ w ∈ lw_tbl, w.before args s = true) (hgv : (Jvm.Cond.and given_1 narrow_1).before args s = true) : ∃ G : Gx, EV G s.heap.size s := by
  have hT : ∀ w ∈ Tg, w.before args s = true := fun w hw => hts w (List.mem_filter.mp hw).1
  have tw : ∀ {w : Cond} (i : Nat), lw_tbl[i]? = some w → w.before args s = true := fun i h => hts _ (List.mem_of_getElem? h)
  have fw : ∀ {w : Cond} (i : Nat), fl_1[i]? = some w → w.before args s = true := fun i h => flat_of_before _ hgv _ (List.mem_of_getElem? h)
  have hA : ∀ a : Nat, a < s.heap.size → ¬ (fun q : Nat => s.heap.size ≤ q) a := fun a h => Nat.not_le.mpr h
  obtain ⟨D, hD⟩ := st_K hts
  obtain ⟨cB, hB, nB⟩ := st_ty (hT _ ac_B)
  obtain ⟨cI, hI, nI'⟩ := st_ty (hT _ ac_I)
  obtain ⟨cJ, hJ, nJ⟩ := st_ty (hT _ ac_J)
  obtain ⟨cZ, hZ, nZ⟩ := st_ty (hT _ ac_Z)
  obtain ⟨cO, hO, nO⟩ := st_tyO (tw 436 ts_436)
  obtain ⟨adK, adV, hS, hev⟩ := vk_Sof (tm := tmS) (N := 7) (len := lenS) (byt := bytS) fl_ln (fun i hi => fw _ (fl_ex i hi)) (fun i hi => fw _ (fl_co i hi)) (fun i hi => fw _ (fl_ar i hi)) (fun i hi => fw _ (fl_le i hi)) (fun i hi j hj => fw _ (fl_el i hi j hj)) (fun i j hi hj hij => (fl_ne i hi j hj hij).imp (fun h => flat_of_before _ hgv _ h) (fun h => flat_of_before _ hgv _ h)) hA
  refine ⟨(D, fun k => if k = 1 then cB else if k = 2 then cI else if k = 3 then cJ else if k = 4 then cZ else if k = 5 then cO else if k < 20 then adK (k - 10) else adV (k - 20)), ⟨hD, ?_⟩, ?_, ?_⟩
  · intro k q hk
    match k, hk with
    | 0, hk => cases hk; exact ⟨hB, nB⟩
    | 1, hk => cases hk; exact ⟨hI, nI'⟩
    | 2, hk => cases hk; exact ⟨hJ, nJ⟩
    | 3, hk => cases hk; exact ⟨hZ, nZ⟩
    | 4, hk => cases hk; exact ⟨hO, nO⟩
    | k + 5, hk => simp [tysOf] at hk
  · intro w hw
    obtain ⟨a, i, x, z, rfl⟩ := tn_form hw
    exact va_Nw.of rfl (hts _ (List.mem_filter.mp hw).1)
  · refine ⟨?_, ?_, va_Zof (tw _ ts_171) (tw _ ts_119) (va_eqt (fw _ fl_4)) hA, va_Zqof (tw _ ts_187) (tw _ ts_121) (fw _ fl_5) hA, vx_Zqof (tw _ ts_1420) (tw _ ts_135) (fw _ fl_9) hA, vx_Zqof (tw _ ts_1422) (tw _ ts_135) (fw _ fl_10) hA, va_AO.of (tw _ ts_436)⟩
    · have e1 : ∀ i : Nat, i < 7 → (if 10 + i = 1 then cB else if 10 + i = 2 then cI else if 10 + i = 3 then cJ else if 10 + i = 4 then cZ else if 10 + i = 5 then cO else if 10 + i < 20 then adK (10 + i - 10) else adV (10 + i - 20)) = adK i := by
        intro i hi
        rw [if_neg (by omega), if_neg (by omega), if_neg (by omega), if_neg (by omega), if_neg (by omega), if_pos (by omega)]
        exact congrArg adK (by omega)
      have e2 : ∀ i : Nat, i < 7 → (if 20 + i = 1 then cB else if 20 + i = 2 then cI else if 20 + i = 3 then cJ else if 20 + i = 4 then cZ else if 20 + i = 5 then cO else if 20 + i < 20 then adK (20 + i - 10) else adV (20 + i - 20)) = adV i := by
        intro i hi
        rw [if_neg (by omega), if_neg (by omega), if_neg (by omega), if_neg (by omega), if_neg (by omega), if_neg (by omega)]
        exact congrArg adV (by omega)
      refine ⟨fun i hi => ?_, fun i j hi hj e => hS.2 i j hi hj ?_⟩
      · have h := hS.1 i hi
        rw [← e1 i hi, ← e2 i hi] at h
        exact h
      · exact (e1 i hi).symm.trans (e.trans (e1 j hj))
    · intro i q hq
      have hi : i < 7 := (List.getElem?_eq_some_iff.mp hq).1
      have e : refS.getD i ("", 0, "") = q := by rw [List.getD_eq_getElem?_getD, hq]; rfl
      have h1 := tw _ (sw_S i hi)
      have h2 := hev i hi
      unfold tmS at h2
      rw [e] at h1 h2
      show vk_R q.1 q.2.1 q.2.2 (if 10 + i = 1 then cB else if 10 + i = 2 then cI else if 10 + i = 3 then cJ else if 10 + i = 4 then cZ else if 10 + i = 5 then cO else if 10 + i < 20 then adK (10 + i - 10) else adV (10 + i - 20)) s
      rw [if_neg (by omega), if_neg (by omega), if_neg (by omega), if_neg (by omega), if_neg (by omega), if_pos (by omega), show 10 + i - 10 = i by omega]
      exact vk_R.of h1 h2
end ST
