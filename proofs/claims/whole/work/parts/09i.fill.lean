set_option maxRecDepth 20000
theorem ml_Ta_33 : Cond.methodLink RX10 33 yJ0_length_8abf5 ∈ Tg := tg 162 (by decide +kernel) (by decide +kernel)
theorem ml_Ta_39 : Cond.methodLink RX10 39 yJ0_charAt_5068e ∈ Tg := tg 172 (by decide +kernel) (by decide +kernel)
def rowJ (G : Gx) (cf : Nat → va_E) (A : Nat) (f : Nat → Int64) : Nat → va_E := va_up cf A (.inl (G.2 3, 29, .inr (.inl f)))
theorem rowJ_up {G : Gx} {cf : Nat → va_E} {A : Nat} {f g : Nat → Int64} : va_up (rowJ G cf A f) A (.inl (G.2 3, 29, .inr (.inl g))) = rowJ G cf A g := by
  funext q
  unfold rowJ
  by_cases hq : q = A
  · subst hq; rw [va_up_self, va_up_self]
  · rw [va_up_ne _ _ hq, va_up_ne _ _ hq, va_up_ne _ _ hq]
theorem ix_in {n k : Nat} {e : Int32} (h : ix n e = some k) : vp_in e n ∧ e.toNatClampNeg = k := by
  unfold ix at h
  by_cases hz : e < 0 ∨ n ≤ e.toNatClampNeg
  · rw [if_pos hz] at h; cases h
  · rw [if_neg hz] at h; exact ⟨hz, Option.some.inj h⟩
section FC
variable {X : Cx} {G : Gx} {b d K A t : Nat} {cf : Nat → va_E} {Q : State → Prop}
def lvF (G : Gx) (b A t : Nat) (v0 c3 : Int32) (c4 : Int64) (c6 : Int32) : List (Option Value) := [some (.ref (b + A)), some (.int v0), some (.ref (aS G t)), some (.int c3), some (.long c4), none, some (.int c6)]
theorem fc_len (ok : OKg X G b cX10_fillCodes 7 RX10 (some .int) (rmc (d + 5) 0 0)) (ht : t < 7) {P : Heap → Prop} {pc : Nat} {lv : List (Option Value)} {st : List Value} (hd : decode cX10_fillCodes pc = .ok (.invokevirtual 33, 3)) (hst : (st.map fun v => v.category).sum ≤ 8) (k : VG X b 7 Q P 0 0 (pc + 3) lv (.int (strLen t) :: st)) : VG X b 7 Q P 0 0 pc lv (.ref (aS G t) :: st) :=
  g_kI (g_cV (dy := 1) (As := []) ok ht rfl ml_Ta_33 wv_J0_length_8abf5 yk_J0_length_8abf5 rfl (show 1 + 1 ≤ d + 5 by omega) (show 8 + (1 + 11) + 60 * 1 ≤ 60 * (d + 5) by omega) (Nat.zero_le _) (Nat.zero_le _) (sJ_length (d := 0) ht) rfl hst hd) k
theorem fc_at (ok : OKg X G b cX10_fillCodes 7 RX10 (some .int) (rmc (d + 5) 0 0)) (ht : t < 7) {P : Heap → Prop} {pc : Nat} {lv : List (Option Value)} {st : List Value} {e c : Int32} (hc : strAt t e = some c) (hd : decode cX10_fillCodes pc = .ok (.invokevirtual 39, 3)) (hst : (st.map fun v => v.category).sum ≤ 8) (k : VG X b 7 Q P 0 0 (pc + 3) lv (.int c :: st)) : VG X b 7 Q P 0 0 pc lv (.int e :: .ref (aS G t) :: st) := by
  unfold strAt at hc
  cases hi : ix (strs.getD t []).length e with
  | none => rw [hi] at hc; cases hc
  | some k0 =>
    rw [hi] at hc
    have hin := ix_in hi
    rw [cS_len t ht] at hin
    have hcc : cS t e.toNatClampNeg = c := by rw [hin.2]; exact Option.some.inj hc
    subst hcc
    exact g_kI (g_cV (dy := 3) (As := [.int e]) ok ht rfl ml_Ta_39 wv_J0_charAt_5068e yk_J0_charAt_5068e rfl (show 3 + 1 ≤ d + 5 by omega) (show 8 + (2 + 11) + 60 * 3 ≤ 60 * (d + 5) by omega) (Nat.zero_le _) (Nat.zero_le _) (sJ_at (d := 0) ht hin.1) rfl hst hd) k
theorem fc_loop (ok : OKg X G b cX10_fillCodes 7 RX10 (some .int) (rmc (d + 5) 0 0)) (hA : A < K) (ht : t < 7) {v0 : Int32} {r : Int32 × (Nat → Int64)} (kq : ∀ lv', VG X b 7 Q (WK G b K (rowJ G cf A r.2)) 0 0 81 lv' [.int r.1]) :
    ∀ (n : Nat) (c3 : Int32) (c4 : Int64) (c6 : Int32) (f : Nat → Int64), iter (fcB t) n (c3, c4, c6, f) = some r → VG X b 7 Q (WK G b K (rowJ G cf A f)) 0 0 8 (lvF G b A t v0 c3 c4 c6) [] := by
  intro n
  induction n with
  | zero => intro c3 c4 c6 f h; cases h
  | succ n ih =>
    intro c3 c4 c6 f h
    have h' : (fcB t (c3, c4, c6, f)).bind (Sum.elim (iter (fcB t) n) some) = some r := h
    unfold fcB at h'
    have out : some (c3, f) = some r → VG X b 7 Q (WK G b K (rowJ G cf A f)) 0 0 80 (lvF G b A t v0 c3 c4 c6) [] := by
      intro e
      cases e
      exact g_iload_n (pc := 80) ok dX10_fillCodes_80 rfl (kq _)
    have store : ((ix 29 c3).bind fun k => some (Sum.inl (c3 + 1, (0 : Int64), c6 + 1, vp_updL f k c4))).bind (Sum.elim (iter (fcB t) n) some) = some r → VG X b 7 Q (WK G b K (rowJ G cf A f)) 0 0 43 (lvF G b A t v0 c3 c4 c6) [] := by
      intro e
      cases hi : ix 29 c3 with
      | none => rw [hi] at e; cases e
      | some k0 =>
        rw [hi] at e
        obtain ⟨hin, rfl⟩ := ix_in hi
        refine g_aload_n (pc := 43) ok dX10_fillCodes_43 rfl ?_
        refine g_iload_n (pc := 44) ok dX10_fillCodes_44 rfl ?_
        refine g_lload (pc := 45) ok dX10_fillCodes_45 rfl ?_
        refine g_last (pc := 47) ok hA va_upS hin dX10_fillCodes_47 ?_
        rw [rowJ_up]
        refine g_iinc (pc := 48) ok 1 dX10_fillCodes_48 (by decide +kernel) rfl (Nat.le_of_ble_eq_true rfl) rfl ?_
        refine g_lconst (pc := 51) ok 0 dX10_fillCodes_51 (by decide +kernel) ?_
        refine g_lstore (pc := 52) ok dX10_fillCodes_52 (Nat.le_of_ble_eq_true rfl) rfl ?_
        refine g_goto (pc := 54) ok 74 dX10_fillCodes_54 rfl ?_
        refine g_iinc (pc := 74) ok 1 dX10_fillCodes_74 (by decide +kernel) rfl (Nat.le_of_ble_eq_true rfl) rfl ?_
        refine g_goto (pc := 77) ok 8 dX10_fillCodes_77 rfl ?_
        exact ih (c3 + 1) 0 (c6 + 1) _ e
    refine g_iload (pc := 8) ok dX10_fillCodes_8 rfl ?_
    refine g_aload_n (pc := 10) ok dX10_fillCodes_10 rfl ?_
    refine fc_len (pc := 11) ok ht dX10_fillCodes_11 (Nat.le_of_ble_eq_true rfl) ?_
    refine g_icmp_gt (pc := 14) ok 80 dX10_fillCodes_14 rfl (fun h1 => ?_) (fun h1 => ?_)
    · rw [if_pos h1] at h'
      exact out h'
    rw [if_neg h1] at h'
    refine g_iload_n (pc := 17) ok dX10_fillCodes_17 rfl ?_
    refine g_aload_n (pc := 18) ok dX10_fillCodes_18 rfl ?_
    refine g_alenJ (pc := 19) ok hA va_upS (show Int32.ofNat 29 = 29 by decide +kernel) dX10_fillCodes_19 ?_
    refine g_icmp_ge (pc := 20) ok 80 dX10_fillCodes_20 rfl (fun h2 => ?_) (fun h2 => ?_)
    · rw [if_pos h2] at h'
      exact out h'
    rw [if_neg h2] at h'
    refine g_iload (pc := 23) ok dX10_fillCodes_23 rfl ?_
    refine g_aload_n (pc := 25) ok dX10_fillCodes_25 rfl ?_
    refine fc_len (pc := 26) ok ht dX10_fillCodes_26 (Nat.le_of_ble_eq_true rfl) ?_
    refine g_icmp_eq (pc := 29) ok 43 dX10_fillCodes_29 rfl (fun h3 => ?_) (fun h3 => ?_)
    · rw [if_pos h3] at h'
      exact store h'
    rw [if_neg h3] at h'
    cases hc : strAt t c6 with
    | none => rw [show strAt t (c3, c4, c6, f).2.2.1 = strAt t c6 from rfl, hc] at h'; cases h'
    | some c =>
      rw [show strAt t (c3, c4, c6, f).2.2.1 = strAt t c6 from rfl, hc] at h'
      have h4 : (if c = 32 then ((ix 29 c3).bind fun k => some (Sum.inl (c3 + 1, (0 : Int64), c6 + 1, vp_updL f k c4))) else some (Sum.inl (c3, lshl c4 5 ||| i2l (c - 96), c6 + 1, f))).bind (Sum.elim (iter (fcB t) n) some) = some r := h'
      refine g_aload_n (pc := 32) ok dX10_fillCodes_32 rfl ?_
      refine g_iload (pc := 33) ok dX10_fillCodes_33 rfl ?_
      refine fc_at (pc := 35) ok ht hc dX10_fillCodes_35 (Nat.le_of_ble_eq_true rfl) ?_
      refine g_bipush (pc := 38) ok 32 dX10_fillCodes_38 (by decide +kernel) ?_
      refine g_icmp_ne (pc := 40) ok 57 dX10_fillCodes_40 rfl (fun h5 => ?_) (fun h5 => ?_)
      · rw [if_neg h5] at h4
        refine g_lload (pc := 57) ok dX10_fillCodes_57 rfl ?_
        refine g_iconst (pc := 59) ok 5 dX10_fillCodes_59 (by decide +kernel) ?_
        refine g_lshl (pc := 60) ok dX10_fillCodes_60 ?_
        refine g_aload_n (pc := 61) ok dX10_fillCodes_61 rfl ?_
        refine g_iload (pc := 62) ok dX10_fillCodes_62 rfl ?_
        refine fc_at (pc := 64) ok ht hc dX10_fillCodes_64 (Nat.le_of_ble_eq_true rfl) ?_
        refine g_bipush (pc := 67) ok 96 dX10_fillCodes_67 (by decide +kernel) ?_
        refine g_isub (pc := 69) ok dX10_fillCodes_69 ?_
        refine g_i2l (pc := 70) ok dX10_fillCodes_70 ?_
        refine g_lor (pc := 71) ok dX10_fillCodes_71 ?_
        refine g_lstore (pc := 72) ok dX10_fillCodes_72 (Nat.le_of_ble_eq_true rfl) rfl ?_
        refine g_iinc (pc := 74) ok 1 dX10_fillCodes_74 (by decide +kernel) rfl (Nat.le_of_ble_eq_true rfl) rfl ?_
        refine g_goto (pc := 77) ok 8 dX10_fillCodes_77 rfl ?_
        exact ih c3 _ (c6 + 1) f h4
      · rw [if_pos h5] at h4
        exact store h4
end FC
