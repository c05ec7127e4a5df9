set_option maxRecDepth 20000
def rowI (G : Gx) (cf : Nat → va_E) (A N : Nat) (f : Nat → Int32) : Nat → va_E := va_up cf A (.inl (G.2 2, N, .inl f))
theorem rowI_up {G : Gx} {cf : Nat → va_E} {A N : Nat} {f g : Nat → Int32} : va_up (rowI G cf A N f) A (.inl (G.2 2, N, .inl g)) = rowI G cf A N g := by
  funext q
  unfold rowI
  by_cases hq : q = A
  · subst hq; rw [va_up_self, va_up_self]
  · rw [va_up_ne _ _ hq, va_up_ne _ _ hq, va_up_ne _ _ hq]
theorem rowI_eta {G : Gx} {cf : Nat → va_E} {A N : Nat} {f : Nat → Int32} (he : cf A = .inl (G.2 2, N, .inl f)) : cf = rowI G cf A N f := by
  unfold rowI
  rw [← he]
  exact (up_eta cf A).symm
def clB (s : Int32 × (Nat → Int32)) : Option ((Int32 × (Nat → Int32)) ⊕ (Nat → Int32)) :=
  if (69 : Int32) ≤ s.1 then some (.inr s.2) else (ix 69 s.1).bind fun k => some (.inl (s.1 + 1, upd s.2 k 0))
def cpB (h : Nat → Int32) (s : Int32 × (Nat → Int32)) : Option ((Int32 × (Nat → Int32)) ⊕ (Nat → Int32)) :=
  if (69 : Int32) ≤ s.1 then some (.inr s.2) else (ix 69 s.1).bind fun k => (ix 342 s.1).bind fun k2 => some (.inl (s.1 + 1, upd s.2 k2 (h k)))
section CL
variable {X : Cx} {G : Gx} {b d nc ns K a A A2 : Nat} {cf : Nat → va_E} {Q : State → Prop} {R : Room}
theorem g_cVo {nL mc ms : Nat} {pc : Nat} {lv : List (Option Value)} {st st0 : List Value} {cc : ByteArray} {own : String} {ret : Option FieldType} {y : MethodName} {cy : ByteArray} {mL dy n idx : Nat} {As : List Value} {ry : Option FieldType} (ok : OKg X G b cc nL own ret R) {ci N : Nat} {C : String} {Tb : u_T} {ty0 : Nat → FieldType} {fs : List Value} {Qc : Array Value → State → Outcome → State → Prop} (hc : cOK ci C Tb N ty0) (ha : a < K) (he : cf a = .inr (ci, fs)) (hC : y.cls = C) (hl : Cond.methodLink own idx y ∈ Tg) (hw : wV y cy mL ry) (hy : yOK y n) (hn : As.length = n) (hd1 : dy + 1 ≤ R.frames) (hd2 : 8 + (mL + 11) + 60 * dy ≤ R.locals) (hrc : nc + mc ≤ R.cells) (hrs : ns + ms ≤ R.slots)
    (hM : MetP X.2.1 G b y cy mL ry dy mc ms (.ref (b + a) :: As) (WS G b K cf) Qc) (hst : st0 = As.reverse ++ .ref (b + a) :: st) (hcat : (st.map fun v => v.category).sum ≤ 8) (hd : decode cc pc = .ok (.invokevirtual idx, 3)) : RnP X b nL (WS G b K cf) nc ns mc ms pc lv st0 st Qc (Value.ref (b + a) :: As).toArray := by
  intro H locs ls hW hS hlv
  have hts := ok.2.2.2.2.1
  have hR := ok.2.2.2.2.2.2.2.1
  have hcw : CallW X.2.2.2.1 X.2.2.2.2.1 X.2.2.2.2.2.2.1 own C idx y cy mL ry (Cond.code y cy mL ry :: Tg) (rmc dy mc ms) mc ms n := ⟨g_callb ok hl hw.2.2.2 hw.2.2.1 hy hd1 hd2, hts _ hw.1, by rw [← hC]; exact hts _ hw.2.1⟩
  have hrecv := va_recv ok.2.2.2.2.2.1.1 hW.1 hc.1 (show (wsK b K cf)[a]? = some (b + a, .inr (ci, fs)) by rw [wsK_at ha, he])
  exact va_runV ⟨ok.1, ok.2.1, ok.2.2.1, ok.2.2.2.1, hts⟩ hM hcw ⟨metP_blind, hrecv, fun U hU hWm => ⟨rfl, by rw [hU]; exact hW, EV.moved hWm (by rw [hU]; exact hS) ok.2.2.2.2.2.1⟩⟩ rfl hn hlv.1 hst (lv_room hcat) hd (by rw [hR]; exact ⟨hrc, hrs⟩)
theorem cl_loop (ok : OKg X G b cX12_clears 2 RX12 none R) (ha : a < K) (hA : A < K) (hne : a ≠ A) {fs : List Value} (he : cf a = .inr (12, fs)) (hfs : fs[7]? = some (.ref (b + A))) {r : Nat → Int32} (kq : ∀ c : Int32, VG X b 2 Q (WK G b K (rowI G cf A 69 r)) nc ns 21 [some (.ref (b + a)), some (.int c)] []) :
    ∀ (n : Nat) (c : Int32) (f : Nat → Int32), iter clB n (c, f) = some r → VG X b 2 Q (WK G b K (rowI G cf A 69 f)) nc ns 2 [some (.ref (b + a)), some (.int c)] [] := by
  intro n
  induction n with
  | zero => intro c f h; cases h
  | succ n ih =>
    intro c f h
    have h' : ((if (69 : Int32) ≤ c then some (.inr f) else (ix 69 c).bind fun k => some (.inl (c + 1, upd f k 0))) : Option ((Int32 × (Nat → Int32)) ⊕ (Nat → Int32))).bind (Sum.elim (iter clB n) some) = some r := h
    refine g_iload_n (pc := 2) ok dX12_clears_2 rfl ?_
    refine g_bipush (pc := 3) ok 69 dX12_clears_3 (by decide +kernel) ?_
    refine g_icmp_ge (pc := 5) ok 21 dX12_clears_5 rfl (fun h1 => ?_) (fun h1 => ?_)
    · rw [if_pos h1] at h'
      have e : some f = some r := h'
      cases e
      exact kq c
    rw [if_neg h1] at h'
    cases hi : ix 69 c with
    | none => rw [hi] at h'; cases h'
    | some k0 =>
      rw [hi] at h'
      obtain ⟨hin, rfl⟩ := ix_in hi
      refine g_aload_n (pc := 8) ok dX12_clears_8 rfl ?_
      refine g_get (pc := 9) (k := 7) ok cls12 ha (va_upN hne he) (Nat.le_of_ble_eq_true rfl) fl_Mo_37 hfs dX12_clears_9 ?_
      refine g_iload_n (pc := 12) ok dX12_clears_12 rfl ?_
      refine g_iconst (pc := 13) ok 0 dX12_clears_13 (by decide +kernel) ?_
      refine g_iast (pc := 14) ok hA va_upS hin dX12_clears_14 ?_
      rw [rowI_up]
      refine g_iinc (pc := 15) ok 1 dX12_clears_15 (by decide +kernel) rfl (Nat.le_of_ble_eq_true rfl) rfl ?_
      refine g_goto (pc := 18) ok 2 dX12_clears_18 rfl ?_
      exact ih (c + 1) _ h'
theorem cp_loop (ok : OKg X G b cX12_init 2 RX12 none R) (ha : a < K) (hA : A < K) (hA2 : A2 < K) (hne : a ≠ A) (hne2 : A2 ≠ A) {fs : List Value} {g : Nat → Int32} (he : cf a = .inr (12, fs)) (hfs : fs[6]? = some (.ref (b + A))) (hfs2 : fs[7]? = some (.ref (b + A2))) (hg : cf A2 = .inl (G.2 2, 69, .inl g)) {r : Nat → Int32} (kq : ∀ c : Int32, VG X b 2 Q (WK G b K (rowI G cf A 342 r)) nc ns 471 [some (.ref (b + a)), some (.int c)] []) :
    ∀ (n : Nat) (c : Int32) (f : Nat → Int32), iter (cpB g) n (c, f) = some r → VG X b 2 Q (WK G b K (rowI G cf A 342 f)) nc ns 447 [some (.ref (b + a)), some (.int c)] [] := by
  intro n
  induction n with
  | zero => intro c f h; cases h
  | succ n ih =>
    intro c f h
    have h' : ((if (69 : Int32) ≤ c then some (.inr f) else (ix 69 c).bind fun k => (ix 342 c).bind fun k2 => some (.inl (c + 1, upd f k2 (g k)))) : Option ((Int32 × (Nat → Int32)) ⊕ (Nat → Int32))).bind (Sum.elim (iter (cpB g) n) some) = some r := h
    refine g_iload_n (pc := 447) ok dX12_init_447 rfl ?_
    refine g_bipush (pc := 448) ok 69 dX12_init_448 (by decide +kernel) ?_
    refine g_icmp_ge (pc := 450) ok 471 dX12_init_450 rfl (fun h1 => ?_) (fun h1 => ?_)
    · rw [if_pos h1] at h'
      have e : some f = some r := h'
      cases e
      exact kq c
    rw [if_neg h1] at h'
    cases hi : ix 69 c with
    | none => rw [hi] at h'; cases h'
    | some k0 =>
      rw [hi] at h'
      obtain ⟨hin, rfl⟩ := ix_in hi
      cases hi2 : ix 342 c with
      | none => rw [show ((some c.toNatClampNeg).bind fun k => (ix 342 c).bind fun k2 => (some (.inl (c + 1, upd f k2 (g k))) : Option ((Int32 × (Nat → Int32)) ⊕ (Nat → Int32)))) = (ix 342 c).bind fun k2 => some (.inl (c + 1, upd f k2 (g c.toNatClampNeg))) from rfl, hi2] at h'; cases h'
      | some k1 =>
        rw [show ((some c.toNatClampNeg).bind fun k => (ix 342 c).bind fun k2 => (some (.inl (c + 1, upd f k2 (g k))) : Option ((Int32 × (Nat → Int32)) ⊕ (Nat → Int32)))) = (ix 342 c).bind fun k2 => some (.inl (c + 1, upd f k2 (g c.toNatClampNeg))) from rfl, hi2] at h'
        obtain ⟨hin2, rfl⟩ := ix_in hi2
        refine g_aload_n (pc := 453) ok dX12_init_453 rfl ?_
        refine g_get (pc := 454) (k := 6) ok cls12 ha (va_upN hne he) (Nat.le_of_ble_eq_true rfl) fl_Mo_33 hfs dX12_init_454 ?_
        refine g_iload_n (pc := 457) ok dX12_init_457 rfl ?_
        refine g_aload_n (pc := 458) ok dX12_init_458 rfl ?_
        refine g_get (pc := 459) (k := 7) ok cls12 ha (va_upN hne he) (Nat.le_of_ble_eq_true rfl) fl_Mo_37 hfs2 dX12_init_459 ?_
        refine g_iload_n (pc := 462) ok dX12_init_462 rfl ?_
        refine g_iald (pc := 463) ok hA2 (va_upN hne2 hg) hin dX12_init_463 ?_
        refine g_iast (pc := 464) ok hA va_upS hin2 dX12_init_464 ?_
        rw [rowI_up]
        refine g_iinc (pc := 465) ok 1 dX12_init_465 (by decide +kernel) rfl (Nat.le_of_ble_eq_true rfl) rfl ?_
        refine g_goto (pc := 468) ok 447 dX12_init_468 rfl ?_
        exact ih (c + 1) _ h'
end CL
def clrE (r : Nat → Int32) : Nat → Int32 := upd (upd (upd r (Int32.toNatClampNeg 2) 10) (Int32.toNatClampNeg 3) 2) (Int32.toNatClampNeg 4) 3
theorem kclears {l : Launch} {G : Gx} {b d K a A : Nat} {cf : Nat → va_E} {fs : List Value} {f r : Nat → Int32} (ha : a < K) (hA : A < K) (hne : a ≠ A) (he : cf a = .inr (12, fs)) (hfs : fs[7]? = some (.ref (b + A))) (hrow : cf A = .inl (G.2 2, 69, .inl f)) (n : Nat) (hr : iter clB n (0, f) = some r) : MetP l G b yX12_clears cX12_clears 2 none d 0 0 [.ref (b + a)] (WS G b K cf) (pV b (WS G b K (rowI G cf A 69 (clrE r)))) := by
  refine metP_start [some (.ref (b + a)), none] (by decide +kernel) (Nat.le_of_ble_eq_true rfl) rfl ?_
  intro X hX ok h0 hnm
  have hz : Sz X b 0 K := h0.sz
  refine g_wk ?_
  refine g_to (rowI_eta hrow) ?_
  refine g_iconst (pc := 0) ok 0 dX12_clears_0 (by decide +kernel) ?_
  refine g_istore_n (pc := 1) ok dX12_clears_1 (Nat.le_of_ble_eq_true rfl) rfl ?_
  refine cl_loop ok ha hA hne he hfs (fun c => ?_) n 0 f hr
  refine g_aload_n (pc := 21) ok dX12_clears_21 rfl ?_
  refine g_get (pc := 22) (k := 7) ok cls12 ha (va_upN hne he) (Nat.le_of_ble_eq_true rfl) fl_Mo_37 hfs dX12_clears_22 ?_
  refine g_iconst (pc := 25) ok 2 dX12_clears_25 (by decide +kernel) ?_
  refine g_bipush (pc := 26) ok 10 dX12_clears_26 (by decide +kernel) ?_
  refine g_iast (pc := 28) ok hA va_upS (by unfold vp_in; decide) dX12_clears_28 ?_
  rw [rowI_up]
  refine g_aload_n (pc := 29) ok dX12_clears_29 rfl ?_
  refine g_get (pc := 30) (k := 7) ok cls12 ha (va_upN hne he) (Nat.le_of_ble_eq_true rfl) fl_Mo_37 hfs dX12_clears_30 ?_
  refine g_iconst (pc := 33) ok 3 dX12_clears_33 (by decide +kernel) ?_
  refine g_iconst (pc := 34) ok 2 dX12_clears_34 (by decide +kernel) ?_
  refine g_iast (pc := 35) ok hA va_upS (by unfold vp_in; decide) dX12_clears_35 ?_
  rw [rowI_up]
  refine g_aload_n (pc := 36) ok dX12_clears_36 rfl ?_
  refine g_get (pc := 37) (k := 7) ok cls12 ha (va_upN hne he) (Nat.le_of_ble_eq_true rfl) fl_Mo_37 hfs dX12_clears_37 ?_
  refine g_iconst (pc := 40) ok 4 dX12_clears_40 (by decide +kernel) ?_
  refine g_iconst (pc := 41) ok 3 dX12_clears_41 (by decide +kernel) ?_
  refine g_iast (pc := 42) ok hA va_upS (by unfold vp_in; decide) dX12_clears_42 ?_
  rw [rowI_up]
  refine g_ws hz ?_
  exact g_vret (pc := 43) ok dX12_clears_43 (fun _ h => h)
def clr0 : Nat → Int32 := (iter clB 100 (0, fun _ => 0)).getD (fun _ => 0)
theorem clr0_e : iter clB 100 (0, fun _ => 0) = some clr0 := some_gd _ (by decide +kernel)
def hh0 : Nat → Int32 := clrE clr0
def ss0 : Nat → Int32 := (iter (cpB hh0) 100 (0, fun _ => 0)).getD (fun _ => 0)
theorem ss0_e : iter (cpB hh0) 100 (0, fun _ => 0) = some ss0 := some_gd _ (by decide +kernel)
