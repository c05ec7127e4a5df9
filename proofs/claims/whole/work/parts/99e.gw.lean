set_option maxRecDepth 20000
section GW
variable {X : Cx} {G : Gx} {b nL nc ns : Nat} {Q : State → Prop} {P : Heap → Prop} {R : Room} {pc : Nat} {lv : List (Option Value)} {st st0 : List Value} {cc : ByteArray} {own : String} {ret : Option FieldType} {M : Nat → Obj}
theorem gw_getI (ok : OKg X G b cc nL own ret R) {a ci k idx N : Nat} {ks : List (Nat × Nat)} {s : Obj} {C : String} {T : u_T} {ty0 : Nat → FieldType} (hc : cOK ci C T N ty0) (hs : shp a = (a, 0, ci, ks)) (hk : ks[k]? = some (0, 0)) (hN : k < N) (hM : M a = s) (hd : decode cc pc = .ok (.getfield idx, 3)) (hl : Cond.fieldLink own idx (T k).1 (T k).2.1 (T k).2.2.1 ∈ Tg) (kk : VG X b nL Q (Wd G.1 G.2 b M) nc ns (pc + 3) lv (.int (s.1 0 k) :: st)) : VG X b nL Q (Wd G.1 G.2 b M) nc ns pc lv (.ref (b + a) :: st) := by
  intro H locs ls hW hS hlv
  have hW2 : va_P G.1 vwCl (wsF b (cell b G.2 M)) H := hW
  refine va_get (D := G.1) ok.1 ok.2.1 ok.2.2.2.2.1 hc.2.1 ok.2.2.2.1 ok.2.2.2.2.2.1.1 hW2 a (ws_obj hs hM) hc.1 k hN (ok.2.2.2.2.1 _ hl) (fun _ h => h) (mkF_get ks 0 k hk) hd ?_
  have k2 := kk H locs ls hW hS hlv
  rw [Nat.zero_add]
  exact k2
theorem gw_getR (ok : OKg X G b cc nL own ret R) {a ci k idx N : Nat} {ks : List (Nat × Nat)} {s : Obj} {C : String} {T : u_T} {ty0 : Nat → FieldType} (hc : cOK ci C T N ty0) (hs : shp a = (a, 0, ci, ks)) {rr : Nat} (hk : ks[k]? = some (2, rr)) (hN : k < N) (hM : M a = s) (hd : decode cc pc = .ok (.getfield idx, 3)) (hl : Cond.fieldLink own idx (T k).1 (T k).2.1 (T k).2.2.1 ∈ Tg) (kk : VG X b nL Q (Wd G.1 G.2 b M) nc ns (pc + 3) lv (.ref (b + rr) :: st)) : VG X b nL Q (Wd G.1 G.2 b M) nc ns pc lv (.ref (b + a) :: st) := by
  intro H locs ls hW hS hlv
  have hW2 : va_P G.1 vwCl (wsF b (cell b G.2 M)) H := hW
  refine va_get (D := G.1) ok.1 ok.2.1 ok.2.2.2.2.1 hc.2.1 ok.2.2.2.1 ok.2.2.2.2.2.1.1 hW2 a (ws_obj hs hM) hc.1 k hN (ok.2.2.2.2.1 _ hl) (fun _ h => h) (mkF_get ks 0 k hk) hd ?_
  have k2 := kk H locs ls hW hS hlv
  exact k2
theorem gw_lald (ok : OKg X G b cc nL own ret R) {a oo j n : Nat} {s : Obj} (hs : shp a = (oo, 3, n, [])) (hj : a - oo = j) {e : Int32} (hin : vp_in e n) (hM : M oo = s) (hd : decode cc pc = .ok (.laload, 1)) (kk : VG X b nL Q (Wd G.1 G.2 b M) nc ns (pc + 1) lv (.long (s.2 j e.toNatClampNeg) :: st)) : VG X b nL Q (Wd G.1 G.2 b M) nc ns pc lv (.int e :: .ref (b + a) :: st) := by
  intro H locs ls hW hS hlv
  have hW2 : va_P G.1 vwCl (wsF b (cell b G.2 M)) H := hW
  subst hj
  exact va_lald (D := G.1) ok.1 ok.2.1 ok.2.2.2.2.2.1.1 hW2 a 2 (ws_arr (e := .inl (G.2 3, n, .inr (.inl (s.2 (a - oo))))) hs (by decide) hM rfl) rfl hin hd (kk H locs ls hW hS hlv)
theorem gw_last (ok : OKg X G b cc nL own ret R) {a oo j n : Nat} {s : Obj} (hs : shp a = (oo, 3, n, [])) (hj : a - oo = j) {e : Int32} {v : Int64} (hin : vp_in e n) (wf : Obj → Nat → Obj) (hM : wf s oo = s) (hU : ∀ s', va_up (wf s) oo s' = wf s') (hd : decode cc pc = .ok (.lastore, 1)) (kk : VG X b nL Q (Wd G.1 G.2 b (wf (sL s j e.toNatClampNeg v))) nc ns (pc + 1) lv st) : VG X b nL Q (Wd G.1 G.2 b (wf s)) nc ns pc lv (.long v :: .int e :: .ref (b + a) :: st) := by
  intro H locs ls hW hS hlv
  have hW2 : va_P G.1 vwCl (wsF b (cell b G.2 (wf s))) H := hW
  subst hj
  refine va_last (D := G.1) (A := fun q => b ≤ q) ok.1 ok.2.1 ok.2.2.2.2.2.1.1 hW2 wsF_D hS a 2 (ws_arr (e := .inl (G.2 3, n, .inr (.inl (s.2 (a - oo))))) hs (by decide) hM rfl) rfl hin hd (fun H1 locs1 hP1 _ hS1 => ?_)
  exact kk H1 locs1 ls (wd_arr (e := .inl (G.2 3, n, .inr (.inl (va_up (s.2 (a - oo)) e.toNatClampNeg v)))) hs (by decide) hM hU (fun _ _ => rfl) (fun i h => va_up_ne _ _ h) (by show mkC b G.2 (sL s (a - oo) e.toNatClampNeg v) (a - oo) 3 n [] = _; simp only [mkC, sL_c]; rfl) hP1) hS1 hlv
theorem g_widen {k n : Nat} (h1 : nc ≤ k) (h2 : ns ≤ n) (kk : VG X b nL Q P k n pc lv st) : VG X b nL Q P nc ns pc lv st := fun H locs ls hW hS hlv => W.widen h1 h2 (kk H locs ls hW hS hlv)
theorem g_lv {lv' : List (Option Value)} (hs : ∀ (i : Nat) (v : Value), lv'[i]? = some (some v) → lv[i]? = some (some v)) (kk : VG X b nL Q P nc ns pc lv' st) : VG X b nL Q P nc ns pc lv st := fun H locs ls hW hS hlv => kk H locs ls hW hS (hlv.mono hs)
theorem g_toM {M' : Nat → Obj} (h : M = M') (kk : VG X b nL Q (Wd G.1 G.2 b M') nc ns pc lv st) : VG X b nL Q (Wd G.1 G.2 b M) nc ns pc lv st := by rw [h]; exact kk
theorem g_icmp_le (ok : OKg X G b cc nL own ret R) {x y : Int32} {off : Int} (tgt : Nat) (hd : decode cc pc = .ok (.if_icmp .le off, 3)) (ht : (pc : Int) + off = (tgt : Int)) (kt : x ≤ y → VG X b nL Q P nc ns tgt lv st) (kf : ¬ x ≤ y → VG X b nL Q P nc ns (pc + 3) lv st) : VG X b nL Q P nc ns pc lv (.int y :: .int x :: st) :=
  fun H locs ls hW hS hl => lv_icmp_le ok.1 ok.2.1 hd ht (fun h => kt h H locs ls hW hS hl) (fun h => kf h H locs ls hW hS hl)
theorem g_idiv (ok : OKg X G b cc nL own ret R) {x y : Int32} (hd : decode cc pc = .ok (.idiv, 1)) (hy : ¬ y = 0) (k : VG X b nL Q P nc ns (pc + 1) lv (.int (x / y) :: st)) : VG X b nL Q P nc ns pc lv (.int y :: .int x :: st) :=
  fun H locs ls hW hS hl => lv_idiv ok.1 ok.2.1 hd hy (k H locs ls hW hS hl)
theorem g_sld (ok : OKg X G b cc nL own ret R) {sb L : Nat} {xs : Nat → Int32} (hX : va_X sb L xs X.2.2.2.2.1 X.2.2.2.2.1.heap) (hbl : sb < X.2.2.2.2.1.heap.size) (hbA : ¬ b ≤ sb) {i : Int32} (hin : vp_in i L) (hd : decode cc pc = .ok (.iaload, 1)) (k : VG X b nL Q P nc ns (pc + 1) lv (.int (xs i.toNatClampNeg) :: st)) : VG X b nL Q P nc ns pc lv (.int i :: .ref sb :: st) :=
  fun H locs ls hW hS hl => va_sld ok.1 ok.2.1 hX hbl hbA hS hin hd (k H locs ls hW hS hl)
theorem g_slen (ok : OKg X G b cc nL own ret R) {sb L : Nat} {xs : Nat → Int32} (hX : va_X sb L xs X.2.2.2.2.1 X.2.2.2.2.1.heap) (hbl : sb < X.2.2.2.2.1.heap.size) (hbA : ¬ b ≤ sb) (hd : decode cc pc = .ok (.arraylength, 1)) (k : VG X b nL Q P nc ns (pc + 1) lv (.int (Int32.ofNat L) :: st)) : VG X b nL Q P nc ns pc lv (.ref sb :: st) :=
  fun H locs ls hW hS hl => va_slen ok.1 ok.2.1 hX hbl hbA hS hd (k H locs ls hW hS hl)
theorem g_tsOut (ok : OKg X G b cc nL own ret R) {dflt lo hi : Int} {offs : Array Int} {len : Nat} {x : Int32} {tgt : Nat} (hd : decode cc pc = .ok (.tableswitch dflt lo hi offs, len)) (h : x.toInt < lo ∨ hi < x.toInt) (ht : (pc : Int) + dflt = (tgt : Int)) (k : VG X b nL Q P nc ns tgt lv st) : VG X b nL Q P nc ns pc lv (.int x :: st) :=
  fun H locs ls hW hS hl => lv_tableOut ok.1 ok.2.1 hd h ht (k H locs ls hW hS hl)
theorem g_tsIn (ok : OKg X G b cc nL own ret R) {dflt lo hi : Int} {offs : Array Int} {len : Nat} {x : Int32} {off : Int} {tgt : Nat} (hd : decode cc pc = .ok (.tableswitch dflt lo hi offs, len)) (h1 : ¬ x.toInt < lo) (h2 : ¬ hi < x.toInt) (ho : offs[(x.toInt - lo).toNat]? = some off) (ht : (pc : Int) + off = (tgt : Int)) (k : VG X b nL Q P nc ns tgt lv st) : VG X b nL Q P nc ns pc lv (.int x :: st) :=
  fun H locs ls hW hS hl => lv_tableIn ok.1 ok.2.1 hd h1 h2 ho ht (k H locs ls hW hS hl)
variable {y : MethodName} {cy : ByteArray} {mL dy n idx : Nat} {ry : Option FieldType} {As : List Value}
theorem gw_cV (ok : OKg X G b cc nL own ret R) {a ci N : Nat} {ks : List (Nat × Nat)} {C : String} {T : u_T} {ty0 : Nat → FieldType} {Qc : Array Value → State → Outcome → State → Prop} (hc : cOK ci C T N ty0) (hs : shp a = (a, 0, ci, ks)) (hC : y.cls = C) (hl : Cond.methodLink own idx y ∈ Tg) (hw : wV y cy mL ry) (hy : yOK y n) (hn : As.length = n) (hd1 : dy + 1 ≤ R.frames) (hd2 : 8 + (mL + 11) + 60 * dy ≤ R.locals) (hrc : nc + 0 ≤ R.cells) (hrs : ns + 0 ≤ R.slots)
    (hM : MetG X.2.1 G b y cy mL ry dy (.ref (b + a) :: As) M Qc) (hst : st0 = As.reverse ++ .ref (b + a) :: st) (hcat : (st.map fun v => v.category).sum ≤ 8) (hd : decode cc pc = .ok (.invokevirtual idx, 3)) : RnP X b nL (Wd G.1 G.2 b M) nc ns 0 0 pc lv st0 st Qc (Value.ref (b + a) :: As).toArray := by
  intro H locs ls hW hS hlv
  have hts := ok.2.2.2.2.1
  have hR := ok.2.2.2.2.2.2.2.1
  have hcw : CallW X.2.2.2.1 X.2.2.2.2.1 X.2.2.2.2.2.2.1 own C idx y cy mL ry (Cond.code y cy mL ry :: Tg) (rmc dy 0 0) 0 0 n := ⟨g_callb ok hl hw.2.2.2 hw.2.2.1 hy hd1 hd2, hts _ hw.1, by rw [← hC]; exact hts _ hw.2.1⟩
  have hrecv := va_recv ok.2.2.2.2.2.1.1 hW hc.1 (ws_obj hs (rfl : M a = M a))
  exact va_runV ⟨ok.1, ok.2.1, ok.2.2.1, ok.2.2.2.1, hts⟩ hM hcw ⟨met_blind, hrecv, fun U hU hWm => ⟨rfl, by rw [hU]; exact hW, EV.moved hWm (by rw [hU]; exact hS) ok.2.2.2.2.2.1⟩⟩ rfl hn hlv.1 hst (lv_room hcat) hd (by rw [hR]; exact ⟨hrc, hrs⟩)
theorem gw_kI {a : Array Value} {v : Int32} {M' : Nat → Obj} (hr : RnP X b nL P nc ns 0 0 pc lv st0 st (qI G b v M') a) (kk : VG X b nL Q (Wd G.1 G.2 b M') nc ns (pc + 3) lv (.int v :: st)) : VG X b nL Q P nc ns pc lv st0 := g_kI (P' := Wd G.1 G.2 b M') (mc := 0) (ms := 0) hr kk
/-! throws -/
def nxE : String := "java/util/NoSuchElementException"
def xNm : List String := ["java/lang/RuntimeException", "java/lang/Exception"]
def BX : List Cond := [Cond.castable nxE nxE, Cond.declares ⟨"java/lang/RuntimeException", "<init>", "()V"⟩, Cond.declares ⟨"java/lang/Exception", "<init>", "()V"⟩, Cond.declares ⟨"java/lang/Throwable", "<init>", "()V"⟩]
theorem bx_ot : ∀ w ∈ BX, w.onTables = true := by decide +kernel
theorem x0_in : ∀ w ∈ (vx_at0 RX11 168 nxE xNm).filter goodWord, w ∈ lw_tbl := by decide +kernel
theorem xb_in : ∀ w ∈ (vx_at0 RX11 168 nxE xNm).filter (fun w => !goodWord w), w ∈ BX := by decide +kernel
theorem xg_in : ∀ w ∈ Cond.classLink RX11 166 nxE :: Cond.initialized nxE :: vx_at0 RX11 168 nxE xNm, vx_ot w = true := by decide +kernel
theorem cl_X11_166 : Cond.classLink RX11 166 nxE ∈ Tg := tg 1393 (by decide +kernel) (by decide +kernel)
theorem ii_nx : Cond.initialized nxE ∈ Tg := tg 138 (by decide +kernel) (by decide +kernel)
def NX (U : State) : Prop := ∀ w ∈ BX, va_Nw w U
theorem NX.warm {s U : State} (hW : s.WarmedH U.vm) (h : NX s) : NX U := by
  intro w hw
  have h0 := h w hw
  have hm : w = Cond.castable nxE nxE ∨ w = Cond.declares ⟨"java/lang/RuntimeException", "<init>", "()V"⟩ ∨ w = Cond.declares ⟨"java/lang/Exception", "<init>", "()V"⟩ ∨ w = Cond.declares ⟨"java/lang/Throwable", "<init>", "()V"⟩ := by
    simpa [BX] using hw
  rcases hm with rfl | rfl | rfl | rfl
  · exact va_Nw.warmC hW h0
  · exact va_Nw.warmD hW h0
  · exact va_Nw.warmD hW h0
  · exact va_Nw.warmD hW h0
theorem NX.same {u U : State} (hv : u.vm = U.vm) (h : NX u) : NX U := fun w hw => va_Nw.same (bx_ot w hw) hv (h w hw)
def MetX (l : Launch) (G : Gx) (b : Nat) (y : MethodName) (cc : ByteArray) (maxL : Nat) (ret : Option FieldType) (d mc ms : Nat) (vs : List Value) (P : Heap → Prop) (Qc : Array Value → State → Outcome → State → Prop) (XC : String → State → State → Prop) : Prop :=
  vx_Met l y (Cond.code y cc maxL ret :: Tg) (rmc d mc ms) (va_Pc vs (fun U => P U.heap ∧ EV G b U ∧ NX U)) Qc XC mc ms (fun q => b ≤ q)
def MetH (l : Launch) (G : Gx) (b : Nat) (y : MethodName) (cc : ByteArray) (maxL : Nat) (ret : Option FieldType) (hh : List (Nat × Nat × Nat × Nat)) (d mc ms : Nat) (vs : List Value) (P : Heap → Prop) (Qc : Array Value → State → Outcome → State → Prop) : Prop :=
  Met l y (Cond.codeWith y cc maxL ret hh :: Tg) (rmc d mc ms) (va_Pc vs (fun U => P U.heap ∧ EV G b U ∧ NX U)) Qc mc ms (fun q => b ≤ q)
def QPx (X : Cx) (b mc ms : Nat) (Qc : Array Value → State → Outcome → State → Prop) (XC : String → State → State → Prop) : State → Prop := vx_MQ X.2.2.2.2.2.2.2.1 Qc XC X.2.2.2.2.2.2.1 X.2.2.2.2.1 mc ms (fun q => b ≤ q)
theorem metX_blind {G : Gx} {b : Nat} {vs : List Value} {P : Heap → Prop} : FrameBlind (va_Pc vs (fun U => P U.heap ∧ EV G b U ∧ NX U)) := by
  intro a U g mk h
  obtain ⟨h1, h2, h3, h4⟩ := h
  exact ⟨h1, h2, EV.same (u := U) (U := U.calling g mk a) rfl rfl h3, NX.same (u := U) (U := U.calling g mk a) rfl h4⟩
theorem metX_start {l : Launch} {G : Gx} {b : Nat} {y : MethodName} {cc : ByteArray} {maxL : Nat} {ret : Option FieldType} {d mc ms : Nat} {vs : List Value} {P : Heap → Prop} {Qc : Array Value → State → Outcome → State → Prop} {XC : String → State → State → Prop} (lv : List (Option Value)) (hy : plainName y.cls = true) (hlen : (lg_sl vs).length ≤ maxL) (hlv : lvp 0 lv = lv_args 0 vs)
    (body : ∀ X : Cx, X.2.1 = l → OKg X G b cc maxL y.cls ret (rmc d mc ms) → (∀ x ∈ X.2.2.2.2.2.2.2.2.2.exceptionTable.toList, False) → NX X.2.2.2.2.1 → VG X b maxL (QPx X b mc ms Qc XC) P 0 0 0 lv []) : MetX l G b y cc maxL ret d mc ms vs P Qc XC := by
  refine vx_ofW (cc := cc) (maxL := maxL) (ret := ret) hy rfl ?_
  intro p e s m args below meth c s₁ B hml ht hv
  obtain ⟨rfl, hW, hE, hN⟩ := hv
  have hts := atoms_spec (ws := Cond.code y cc maxL ret :: Tg) B.pre
  have hl := lv_entry vs (n := maxL) hlen
  rw [lg_entry_eq]
  refine body (p, l, e, rmc d mc ms, s, m, vs.toArray, below, meth, c) rfl ⟨B.exec, B.bytes, hml, findClass_of_methodNamed B.named, fun w h => hts w (List.mem_cons_of_mem _ h), hE, B.notSynchronized, rfl, B.returns⟩ ht hN s.heap [] _ hW va_S.rf ?_
  unfold lvs
  rw [hlv]
  exact hl
theorem metH_start {l : Launch} {G : Gx} {b : Nat} {y : MethodName} {cc : ByteArray} {maxL : Nat} {ret : Option FieldType} {hh : List (Nat × Nat × Nat × Nat)} {d mc ms : Nat} {vs : List Value} {P : Heap → Prop} {Qc : Array Value → State → Outcome → State → Prop} (lv : List (Option Value)) (hy : plainName y.cls = true) (hlen : (lg_sl vs).length ≤ maxL) (hlv : lvp 0 lv = lv_args 0 vs)
    (body : ∀ X : Cx, X.2.1 = l → OKg X G b cc maxL y.cls ret (rmc d mc ms) → X.2.2.2.2.2.2.2.2.2.exceptionTable.toList = tableOf hh → NX X.2.2.2.2.1 → VG X b maxL (QP X b mc ms Qc) P 0 0 0 lv []) : MetH l G b y cc maxL ret hh d mc ms vs P Qc := by
  refine va_MetW (cc := cc) (maxL := maxL) (ret := ret) (hh := hh) hy rfl ?_
  intro p e s m args below meth c s₁ B hml hv
  obtain ⟨rfl, hW, hE, hN⟩ := hv
  have hts := atoms_spec (ws := Cond.codeWith y cc maxL ret hh :: Tg) B.pre
  have hl := lv_entry vs (n := maxL) hlen
  have htb := vx_table (x := y) B (hts _ List.mem_cons_self)
  rw [lg_entry_eq]
  refine body (p, l, e, rmc d mc ms, s, m, vs.toArray, below, meth, c) rfl ⟨B.exec, B.bytes, hml, findClass_of_methodNamed B.named, fun w h => hts w (List.mem_cons_of_mem _ h), hE, B.notSynchronized, rfl, B.returns⟩ htb hN s.heap [] _ hW va_S.rf ?_
  unfold lvs
  rw [hlv]
  exact hl
def qZ (G : Gx) (b : Nat) (z : Int32 ⊕ Unit) (M : Nat → Obj) : Array Value → State → Outcome → State → Prop := va_Qi (fun (x : Int32) (_ : Unit) => z = .inl x) (fun _ t => Wd G.1 G.2 b M t.heap) (fun q => b ≤ q)
def xZ (G : Gx) (b : Nat) (z : Int32 ⊕ Unit) (M : Nat → Obj) : String → State → State → Prop := vx_X (fun (_ : Unit) => z = .inr ()) (fun E _ t => E = nxE ∧ Wd G.1 G.2 b M t.heap) (fun q => b ≤ q)
theorem Wd_kept {H H1 : Heap} (hW : Wd G.1 G.2 b M H) (h2 : ∀ q : Nat, q < H.size → H1[q]? = H[q]?) : Wd G.1 G.2 b M H1 := by
  intro k x hx
  have h := hW k x hx
  exact h.kept (h2 _ h.lt)
theorem g_xret {mc ms : Nat} {z : Int32 ⊕ Unit} {XC : String → State → State → Prop} (ok : OKg X G b cc nL own (some .int) R) {v : Int32} (hz : z = .inl v) (h1 : nc ≤ mc) (h2 : ns ≤ ms) (hd : decode cc pc = .ok (.ireturn, 1)) : VG X b nL (QPx X b mc ms (qZ G b z M) XC) (Wd G.1 G.2 b M) nc ns pc lv [.int v] := by
  intro H locs ls hW hS hl
  refine W.widen (k := mc) (n := ms) h1 h2 ?_
  refine vx_ret ?_
  exact W_zret ok.1 ok.2.1 ok.2.2.2.2.2.2.2.2 (rfl : narrow .int (.int v) = .int v) (fun t ht hWm => ⟨⟨v, (), rfl, hz, (show Wd G.1 G.2 b M t.heap from by rw [ht]; exact hW)⟩, hS.F ht⟩) hS.2.2 hd ok.2.2.2.2.2.2.1
theorem g_thr {d : Nat} {z : Int32 ⊕ Unit} {Qc : Array Value → State → Outcome → State → Prop} (ok : OKg X G b cc nL RX11 ret (rmc (d + 6) 1 6)) (hst : X.2.1.stackTraces = false) (ht : ∀ x ∈ X.2.2.2.2.2.2.2.2.2.exceptionTable.toList, False) (hN : NX X.2.2.2.2.1) (hz : z = .inr ()) (d0 : decode cc pc = .ok (.new 166, 3)) (d3 : decode cc (pc + 3) = .ok (.dup, 1)) (d4 : decode cc (pc + 4) = .ok (.invokespecial 168, 3)) (d7 : decode cc (pc + 7) = .ok (.athrow, 1)) : VG X b nL (QPx X b 1 6 Qc (xZ G b z M)) (Wd G.1 G.2 b M) 0 0 pc lv [] := by
  intro H locs ls hW hS hl
  have hts := ok.2.2.2.2.1
  have hR := ok.2.2.2.2.2.2.2.1
  have hSV := ok.2.2.2.2.2.1.2.2
  refine vx_throw0 (cls := nxE) (own := RX11) (names := xNm) (A := fun q => b ≤ q) ok.1 ok.2.1 hst ok.2.2.2.1 (by decide +kernel) (by decide +kernel) (hts _ cl_X11_166) (hts _ ii_nx) (vx_hat (B := BX) (fun w hw => hts w (List.mem_filter.mpr ⟨x0_in w hw, (List.mem_filter.mp hw).2⟩)) xb_in (fun w hw => va_Nw.use (bx_ot w hw) (hN w hw))) xg_in hSV.2.2.2.2.1 hSV.2.2.2.2.2.1 hS (hl.1.trans ok.2.2.1.symm) d0 d3 d4 d7 (fun x hx => (ht x hx).elim) (by rw [hR]; show 2 + 3 < d + 6; omega) (by rw [hR]; show 0 + (13 * (2 + 1) + 42) ≤ 60 * (d + 6); omega) (by rw [hR]; exact Nat.le_refl 1) (by rw [hR]; exact Nat.le_refl 6) ok.2.2.2.2.2.2.1 (fun t hvm h1 h2 => ?_) hS.2.2 (Nat.le_refl 1) (Nat.le_refl 6)
  exact ⟨(), hz, ⟨rfl, Wd_kept hW h2⟩, Nat.le_trans hS.1 h1, fun q hq hA => (h2 q (Nat.lt_of_lt_of_le hq hS.1)).trans (hS.2.1 q hq hA)⟩
theorem g_cX {z : Int32 ⊕ Unit} (ok : OKg X G b cc nL own ret R) (hN : NX X.2.2.2.2.1) {a ci N : Nat} {ks : List (Nat × Nat)} {C : String} {T : u_T} {ty0 : Nat → FieldType} (hc : cOK ci C T N ty0) (hs : shp a = (a, 0, ci, ks)) (hC : y.cls = C) (hl : Cond.methodLink own idx y ∈ Tg) (hw : wV y cy mL (some .int)) (hy : yOK y n) (hn : As.length = n) (hd1 : dy + 1 ≤ R.frames) (hd2 : 8 + (mL + 11) + 60 * dy ≤ R.locals) (hrc : nc + 1 ≤ R.cells) (hrs : ns + 6 ≤ R.slots)
    (hM : MetX X.2.1 G b y cy mL (some .int) dy 1 6 (.ref (b + a) :: As) (Wd G.1 G.2 b M) (qZ G b z M) (xZ G b z M)) (hst : st0 = As.reverse ++ .ref (b + a) :: st) (hcat : (st.map fun v => v.category).sum ≤ 8) (hd : decode cc pc = .ok (.invokevirtual idx, 3))
    (kx : z = .inr () → ∀ (q9 : Nat) (ce : Cell) (H1 : Heap) (locs1 : List Loc) (ls : Array Slot), Wd G.1 G.2 b M H1 → va_S (fun q => b ≤ q) X.2.2.2.2.1.heap H1 locs1 → lvs ls nL lv → H1[q9]? = some ce → ce.vm = .none → X.2.2.2.2.1.vm.findClass nxE = some ce.cls → vx_W X.1 X.2.1 X.2.2.1 X.2.2.2.1 X.2.2.2.2.1 X.2.2.2.2.2.1 X.2.2.2.2.2.2.1 X.2.2.2.2.2.2.2.1 X.2.2.2.2.2.2.2.2.1 X.2.2.2.2.2.2.2.2.2 H1 locs1 (nc + 1) (ns + 6) Q (F0 X.2.2.2.2.2.1 pc ls st) q9)
    (kk : ∀ r, z = .inl r → VG X b nL Q (Wd G.1 G.2 b M) (nc + 1) (ns + 6) (pc + 3) lv (.int r :: st)) : VG X b nL Q (Wd G.1 G.2 b M) nc ns pc lv st0 := by
  intro H locs ls hW hS hlv
  have hts := ok.2.2.2.2.1
  have hR := ok.2.2.2.2.2.2.2.1
  have hcw : CallW X.2.2.2.1 X.2.2.2.2.1 X.2.2.2.2.2.2.1 own C idx y cy mL (some .int) (Cond.code y cy mL (some .int) :: Tg) (rmc dy 1 6) 1 6 n := ⟨g_callb ok hl hw.2.2.2 hw.2.2.1 hy hd1 hd2, hts _ hw.1, by rw [← hC]; exact hts _ hw.2.1⟩
  have hrecv := va_recv ok.2.2.2.2.2.1.1 hW hc.1 (ws_obj hs (rfl : M a = M a))
  refine vx_calli (A0 := fun q => b ≤ q) (vx_runV ⟨ok.1, ok.2.1, ok.2.2.1, ok.2.2.2.1, hts⟩ hM hcw ⟨metX_blind, hrecv, fun U hU hWm => ⟨rfl, by rw [hU]; exact hW, EV.moved hWm (by rw [hU]; exact hS) ok.2.2.2.2.2.1, NX.warm hWm hN⟩⟩ rfl hn hlv.1 hst (lv_room hcat) hd (by rw [hR]; exact ⟨hrc, hrs⟩)) hS (fun _ _ h => h) (fun _ h => h) (fun _ _ h => h) (fun E ce q9 u t H1 locs1 ht hvm hp hB hz1 hk1 hS1 hcell hv hcl => ?_) (fun x u t H1 locs1 ht hvm hw2 hB hz1 hk1 hS1 => ?_)
  · rw [hB.1] at hcl
    exact kx hp q9 ce H1 locs1 ls (by rw [← ht]; exact hB.2) hS1 hlv hcell hv hcl
  · exact kk x hw2 H1 locs1 ls (by rw [← ht]; exact hB) hS1 hlv
end GW
