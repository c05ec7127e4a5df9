section KW2
variable {X : Cx} {G : Gx} {b nL nc ns K mc ms : Nat} {Q : State → Prop} {P : Heap → Prop} {R : Room} {pc : Nat} {lv : List (Option Value)} {st st0 : List Value} {cc : ByteArray} {own : String} {ret : Option FieldType} {cf : Nat → va_E}
variable {y : MethodName} {cy : ByteArray} {mL dy n idx : Nat} {As : List Value}
def WS (G : Gx) (b K : Nat) (cf : Nat → va_E) (H : Heap) : Prop := WK G b K cf H ∧ H.size = b + K
theorem g_ws (h0 : Sz X b nc K) (k : VG X b nL Q (WS G b K cf) nc ns pc lv st) : VG X b nL Q (WK G b K cf) nc ns pc lv st := g_sz h0 k
theorem g_wk (k : VG X b nL Q (WK G b K cf) nc ns pc lv st) : VG X b nL Q (WS G b K cf) nc ns pc lv st := g_P (fun _ h => h.1) k
theorem WS.sz (h : WS G b K cf X.2.2.2.2.1.heap) : Sz X b 0 K := ⟨by have := h.2; omega, h.2⟩
theorem WS.to {cf' : Nat → va_E} (hc : ∀ k, k < K → cf k = cf' k) {H : Heap} (h : WS G b K cf H) : WS G b K cf' H := ⟨h.1.same hc, h.2⟩
theorem g_oinit (ok : OKg X G b cc nL own ret R) {a : Nat} (hl : Cond.methodLink own idx Lib.objectInit ∈ Tg) (h1 : Cond.instanceMethod Lib.objectInit ∈ Tg) (h2 : Cond.code Lib.objectInit ⟨#[177]⟩ 1 none ∈ Tg) (hf : 1 ≤ R.frames) (hlo : (st.map fun v => v.category).sum + 12 ≤ R.locals) (hd : decode cc pc = .ok (.invokespecial idx, 3)) (k : VG X b nL Q P nc ns (pc + 3) lv st) : VG X b nL Q P nc ns pc lv (.ref a :: st) := by
  intro H locs ls hW hS hlv
  have hts := ok.2.2.2.2.1
  have hR := ok.2.2.2.2.2.2.2.1
  exact W.objInit ok.1 ok.2.1 ok.2.2.2.1 (hts _ hl) (hts _ h1) (hts _ h2) rfl (hlv.1.trans ok.2.2.1.symm) rfl hd (by rw [hR]; exact hf) (by rw [hR]; show 2 * 0 + _ + 12 ≤ _; rw [Nat.mul_zero, Nat.zero_add]; exact hlo) (k H locs ls hW hS hlv)
/-- a constructor's words -/
def wI (y : MethodName) (cc : ByteArray) (maxL : Nat) : Prop := Cond.instanceMethod y ∈ Tg ∧ Cond.initialized y.cls ∈ Tg ∧ Cond.code y cc maxL none ∈ Tg ∧ y.name = "<init>"
theorem g_cI (ok : OKg X G b cc nL own ret R) {a : Nat} {Qc : Array Value → State → Outcome → State → Prop} (hl : Cond.methodLink own idx y ∈ Tg) (hw : wI y cy mL) (hy : yOK y n) (hn : As.length = n) (hd1 : dy + 1 ≤ R.frames) (hd2 : 8 + (mL + 11) + 60 * dy ≤ R.locals) (hrc : nc + mc ≤ R.cells) (hrs : ns + ms ≤ R.slots)
    (hM : MetP X.2.1 G b y cy mL none dy mc ms (.ref a :: As) P Qc) (hst : st0 = As.reverse ++ .ref a :: st) (hcat : (st.map fun v => v.category).sum ≤ 8) (hd : decode cc pc = .ok (.invokespecial idx, 3)) : RnP X b nL P nc ns mc ms pc lv st0 st Qc (Value.ref a :: As).toArray := by
  intro H locs ls hW hS hlv
  have hts := ok.2.2.2.2.1
  have hR := ok.2.2.2.2.2.2.2.1
  exact va_runI ⟨ok.1, ok.2.1, ok.2.2.1, ok.2.2.2.1, hts⟩ hM ⟨g_callb ok hl hw.2.2.1 hw.2.1 hy hd1 hd2, hw.2.2.2, hts _ hw.1⟩ ⟨metP_blind, fun U hU hWm => ⟨rfl, by rw [hU]; exact hW, EV.moved hWm (by rw [hU]; exact hS) ok.2.2.2.2.2.1⟩⟩ rfl hn hlv.1 hst (lv_room hcat) hd (by rw [hR]; exact ⟨hrc, hrs⟩)
theorem g_cIN (ok : OKg X G b cc nL own ret R) {a : Nat} {host : String} {Qc : Array Value → State → Outcome → State → Prop} (hl : Cond.methodLinkNest own idx y host ∈ Tn) (hw : wI y cy mL) (hy : yOK y n) (hn : As.length = n) (hd1 : dy + 1 ≤ R.frames) (hd2 : 8 + (mL + 11) + 60 * dy ≤ R.locals) (hrc : nc + mc ≤ R.cells) (hrs : ns + ms ≤ R.slots)
    (hM : MetP X.2.1 G b y cy mL none dy mc ms (.ref a :: As) P Qc) (hst : st0 = As.reverse ++ .ref a :: st) (hcat : (st.map fun v => v.category).sum ≤ 8) (hd : decode cc pc = .ok (.invokespecial idx, 3)) : RnP X b nL P nc ns mc ms pc lv st0 st Qc (Value.ref a :: As).toArray := by
  intro H locs ls hW hS hlv
  have hts := ok.2.2.2.2.1
  have hR := ok.2.2.2.2.2.2.2.1
  have hcn : va_CN X.2.2.2.1 X.2.2.2.2.1 X.2.2.2.2.2.2.1 own idx y host cy mL none (Cond.code y cy mL none :: Tg) (rmc dy mc ms) mc ms n := va_cnB (Ts := Tg) n hts (good_cons hw.2.2.1) rfl rfl rfl (ok.2.2.2.2.2.1.2.1 _ hl) (hts _ hw.2.1) hy (by rw [hR]; exact ⟨hd1, hd2⟩)
  exact va_runIN ⟨ok.1, ok.2.1, ok.2.2.1, ok.2.2.2.1, hts⟩ hM ⟨hcn, hw.2.2.2, hts _ hw.1⟩ ⟨metP_blind, fun U hU hWm => ⟨rfl, by rw [hU]; exact hW, EV.moved hWm (by rw [hU]; exact hS) ok.2.2.2.2.2.1⟩⟩ rfl hn hlv.1 hst (lv_room hcat) hd (by rw [hR]; exact ⟨hrc, hrs⟩)
theorem g_iast (ok : OKg X G b cc nL own ret R) {a N : Nat} {f : Nat → Int32} {i x : Int32} (ha : a < K) (he : cf a = .inl (G.2 2, N, .inl f)) (hin : vp_in i N) (hd : decode cc pc = .ok (.iastore, 1))
    (kk : VG X b nL Q (WK G b K (va_up cf a (.inl (G.2 2, N, .inl (upd f i.toNatClampNeg x))))) nc ns (pc + 1) lv st) : VG X b nL Q (WK G b K cf) nc ns pc lv (.int x :: .int i :: .ref (b + a) :: st) := by
  intro H locs ls hW hS hlv
  refine va_iast ok.1 ok.2.1 ok.2.2.2.2.2.1.1 hW wsK_D hS a 1 (by rw [wsK_at ha, he]) rfl hin hd (fun H1 locs1 hP1 _ hS1 => ?_)
  rw [wsK_set ha] at hP1
  exact kk H1 locs1 ls hP1 hS1 hlv
theorem g_last (ok : OKg X G b cc nL own ret R) {a N : Nat} {f : Nat → Int64} {i : Int32} {x : Int64} (ha : a < K) (he : cf a = .inl (G.2 3, N, .inr (.inl f))) (hin : vp_in i N) (hd : decode cc pc = .ok (.lastore, 1))
    (kk : VG X b nL Q (WK G b K (va_up cf a (.inl (G.2 3, N, .inr (.inl (vp_updL f i.toNatClampNeg x)))))) nc ns (pc + 1) lv st) : VG X b nL Q (WK G b K cf) nc ns pc lv (.long x :: .int i :: .ref (b + a) :: st) := by
  intro H locs ls hW hS hlv
  refine va_last ok.1 ok.2.1 ok.2.2.2.2.2.1.1 hW wsK_D hS a 2 (by rw [wsK_at ha, he]) rfl hin hd (fun H1 locs1 hP1 _ hS1 => ?_)
  rw [wsK_set ha] at hP1
  exact kk H1 locs1 ls hP1 hS1 hlv
theorem g_iald (ok : OKg X G b cc nL own ret R) {a N : Nat} {f : Nat → Int32} {i : Int32} (ha : a < K) (he : cf a = .inl (G.2 2, N, .inl f)) (hin : vp_in i N) (hd : decode cc pc = .ok (.iaload, 1))
    (kk : VG X b nL Q (WK G b K cf) nc ns (pc + 1) lv (.int (f i.toNatClampNeg) :: st)) : VG X b nL Q (WK G b K cf) nc ns pc lv (.int i :: .ref (b + a) :: st) := by
  intro H locs ls hW hS hlv
  exact va_iald ok.1 ok.2.1 ok.2.2.2.2.2.1.1 hW a 1 (by rw [wsK_at ha, he]) rfl hin hd (kk H locs ls hW hS hlv)
theorem g_astq (ok : OKg X G b cc nL own ret R) {a v N : Nat} {f : Nat → Option Nat} {fs : List Value} {i : Int32} (ha : a < K) (he : cf a = .inl (G.2 5, N, .inr (.inr (.inr (.inr f))))) (hv : v < K) (hve : cf v = .inr (8, fs)) (hin : vp_in i N) (hd : decode cc pc = .ok (.aastore, 1))
    (kk : VG X b nL Q (WK G b K (va_up cf a (.inl (G.2 5, N, .inr (.inr (.inr (.inr (va_up f i.toNatClampNeg (some (b + v))))))))) ) nc ns (pc + 1) lv st) : VG X b nL Q (WK G b K cf) nc ns pc lv (.ref (b + v) :: .int i :: .ref (b + a) :: st) := by
  intro H locs ls hW hS hlv
  refine va_astq (r := (RX8, TX8, 15)) ok.1 ok.2.1 ok.2.2.2.2.2.1.1 hW wsK_D hS a 4 v 8 (by rw [wsK_at ha, he]) rfl (by rw [wsK_at hv, hve]) rfl hin hd (fun H1 locs1 hP1 _ hS1 => ?_)
  rw [wsK_set ha] at hP1
  exact kk H1 locs1 ls hP1 hS1 hlv
/-- a row of references: its place is the next cell -/
theorem g_newq (ok : OKg X G b cc nL own ret R) {N : Nat} {m : Int32} (hcl : Cond.classLink own idx RX8 ∈ Tg) (h0 : Sz X b nc K) (hm : ¬ m < 0) (hN : m.toNatClampNeg = N) (hby : N * 4 ≤ 536870912) (hcc : nc + 1 ≤ R.cells) (hss : ns + N ≤ R.slots) (hd : decode cc pc = .ok (.anewarray idx, 3))
    (k : VG X b nL Q (WK G b (K + 1) (va_up cf K (.inl (G.2 5, N, .inr (.inr (.inr (.inr (fun _ => none)))))))) (nc + 1) (ns + N) (pc + 3) lv (.ref (b + K) :: st)) : VG X b nL Q (WK G b K cf) nc ns pc lv (.int m :: st) := by
  intro H locs ls hW hS hlv
  have hts := ok.2.2.2.2.1
  have hR := ok.2.2.2.2.2.2.2.1
  refine va_newq (A := fun q => b ≤ q) ok.1 ok.2.1 ok.2.2.2.1 (hts _ hcl) ok.2.2.2.2.2.1.2.2.2.2.2.2.2.2 ok.2.2.2.2.2.1.1 hW wsK_D hS (fun q hq => Nat.le_trans h0.1 hq) hm hN hby (by rw [hR]; exact hcc) (by rw [hR]; exact hss) hd (fun q cA H1 hK1 hP1 hD1 hS1 => ?_)
  intro T hT Z
  have h1 := Z.heapSize
  rw [hT] at h1
  have hlen : (wsK b K cf).length = K := by simp [wsK]
  have hq1 : (wsK b K cf ++ [(q, Sum.inl (cA, N, .inr (.inr (.inr (.inr (fun _ => none))))))])[K]? = some (q, Sum.inl (cA, N, .inr (.inr (.inr (.inr (fun _ => none)))))) := by
    rw [List.getElem?_append_right (by rw [hlen]; exact Nat.le_refl _), hlen, Nat.sub_self]
    rfl
  have hold : ∀ j, j < K → (wsK b K cf ++ [(q, Sum.inl (cA, N, .inr (.inr (.inr (.inr (fun _ => none))))))])[j]? = some (b + j, cf j) := by
    intro j hj
    rw [List.getElem?_append_left (by rw [hlen]; exact hj)]
    exact wsK_at hj
  have hlt : q < H1.size := (hP1 K _ hq1).lt
  have hge : b ≤ q := hD1.2 K _ hq1
  have hq : q = b + K := by
    have h5 := h0.2
    by_cases hh : q = b + K
    · exact hh
    · exfalso
      have hj : q - b < K := by omega
      have := hD1.1 (q - b) K _ _ (hold (q - b) hj) hq1 (by show b + (q - b) = q; omega)
      omega
  have hcA : cA = G.2 5 := by
    have e1 := (hK1.2 5 (cA, .object RX8) rfl).2
    have e2 := (hK1.2 4 (G.2 5, .object RX8) rfl).2
    obtain ⟨kA, comp, -, -, -, g1⟩ := e1
    obtain ⟨kB, comp2, -, -, -, g2⟩ := e2
    exact Option.some.inj (g1.symm.trans g2)
  subst hq
  refine k H1 locs ls (fun j x hx => ?_) hS1 hlv T hT Z
  obtain ⟨hj, rfl⟩ := wsK_of hx
  by_cases hjK : j = K
  · subst hjK
    rw [va_up_self, ← hcA]
    exact hP1 j _ hq1
  · rw [va_up_ne _ _ hjK]
    exact hP1 j _ (hold j (by omega))
end KW2
set_option maxRecDepth 20000 in
theorem in_Sc : Cond.instantiable RX8 15 ∈ Tg := tg 322 (by decide +kernel) (by decide +kernel)
