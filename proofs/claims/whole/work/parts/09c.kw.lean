/-! a world that grows: the cells b .. b + K - 1 -/
def wsK (b K : Nat) (cf : Nat → va_E) : va_W := (List.range K).map (fun k => (b + k, cf k))
theorem wsK_at {b K k : Nat} {cf : Nat → va_E} (h : k < K) : (wsK b K cf)[k]? = some (b + k, cf k) := by
  unfold wsK
  rw [List.getElem?_map, List.getElem?_range h]
  rfl
theorem wsK_of {b K k : Nat} {cf : Nat → va_E} {q : Nat × va_E} (h : (wsK b K cf)[k]? = some q) : k < K ∧ q = (b + k, cf k) := by
  have hk : k < K := by
    have := (List.getElem?_eq_some_iff.mp h).1
    simpa [wsK] using this
  rw [wsK_at hk] at h
  exact ⟨hk, (Option.some.inj h).symm⟩
theorem wsK_out {b K k : Nat} {cf : Nat → va_E} (h : K ≤ k) : (wsK b K cf)[k]? = none := by
  rw [List.getElem?_eq_none_iff]
  simpa [wsK] using h
theorem wsK_set {b K k : Nat} {cf : Nat → va_E} {e : va_E} (h : k < K) : (wsK b K cf).set k (b + k, e) = wsK b K (va_up cf k e) := by
  apply List.ext_getElem?
  intro i
  by_cases hi : i < K
  · rw [wsK_at hi]
    by_cases hik : i = k
    · subst hik
      rw [List.getElem?_set_self (by simpa [wsK] using hi), va_up_self]
    · rw [List.getElem?_set_ne (Ne.symm hik), wsK_at hi, va_up_ne _ _ hik]
  · rw [wsK_out (Nat.le_of_not_lt hi), List.getElem?_eq_none_iff]
    simpa [wsK] using Nat.le_of_not_lt hi
theorem wsK_D {b K : Nat} {cf : Nat → va_E} : va_D (fun q => b ≤ q) (wsK b K cf) := by
  refine ⟨fun i j x y hi hj hxy => ?_, fun k q hk => ?_⟩
  · obtain ⟨-, rfl⟩ := wsK_of hi
    obtain ⟨-, rfl⟩ := wsK_of hj
    have : b + i = b + j := hxy
    omega
  · obtain ⟨-, rfl⟩ := wsK_of hk
    exact Nat.le_add_right b k
def WK (G : Gx) (b K : Nat) (cf : Nat → va_E) (H : Heap) : Prop := va_P G.1 vwCl (wsK b K cf) H
theorem WK.push {G : Gx} {b K : Nat} {cf : Nat → va_E} {e : va_E} {H H1 : Heap} (h : WK G b K cf H) (hz : H.size = b + K) (ho : ∀ q, q < b + K → H1[q]? = H[q]?) (he : va_at G.1 vwCl (b + K, e) H1) : WK G b (K + 1) (va_up cf K e) H1 := by
  intro k q hk
  obtain ⟨hlt, rfl⟩ := wsK_of hk
  by_cases hkK : k = K
  · subst hkK
    rw [va_up_self]
    exact he
  · rw [va_up_ne _ _ hkK]
    exact (h k _ (wsK_at (by omega))).kept (ho (b + k) (by omega))
theorem WK.same {G : Gx} {b K : Nat} {cf cf' : Nat → va_E} {H : Heap} (hc : ∀ k, k < K → cf k = cf' k) (h : WK G b K cf H) : WK G b K cf' H := by
  intro k q hk
  obtain ⟨hlt, rfl⟩ := wsK_of hk
  rw [← hc k hlt]
  exact h k _ (wsK_at hlt)
/-- a walk stands at the world's cell K when nc are made -/
def Sz (X : Cx) (b nc K : Nat) : Prop := b ≤ X.2.2.2.2.1.heap.size ∧ X.2.2.2.2.1.heap.size + nc = b + K
theorem Sz.up {X : Cx} {b nc K : Nat} (m : Nat) (h : Sz X b nc K) : Sz X b (nc + m) (K + m) := ⟨h.1, by have := h.2; omega⟩
section KW
variable {X : Cx} {G : Gx} {b nL nc ns K : Nat} {Q : State → Prop} {R : Room} {pc : Nat} {lv : List (Option Value)} {st : List Value} {cc : ByteArray} {own : String} {ret : Option FieldType} {cf : Nat → va_E}
/-- as many cells as were made: the heap's size -/
theorem g_sz (h0 : Sz X b nc K) (k : VG X b nL Q (fun H => WK G b K cf H ∧ H.size = b + K) nc ns pc lv st) : VG X b nL Q (WK G b K cf) nc ns pc lv st := by
  intro H locs ls hW hS hl T hT Z
  have h1 := Z.heapSize
  obtain ⟨h4, h5⟩ := h0
  have h2 : b + K ≤ H.size := by
    by_cases hK : K = 0
    · have := hS.1
      omega
    · have := (hW (K - 1) _ (wsK_at (by omega))).lt
      have h3 : b + (K - 1) < H.size := this
      omega
  rw [hT] at h1
  exact k H locs ls ⟨hW, by omega⟩ hS hl T hT Z
theorem g_new (ok : OKg X G b cc nL own ret R) {ci N idx : Nat} {C : String} {Tb : u_T} {ty0 : Nat → FieldType} {fs : List Value} (hc : cOK ci C Tb N ty0) (hl : Cond.classLink own idx C ∈ Tg) (hi : Cond.instantiable C N ∈ Tg) (hin : Cond.initialized C ∈ Tg) (h0 : Sz X b nc K) (hfs : ∀ j, j < N → defaultValue (ty0 j) = vp_V fs j) (hcc : nc + 1 ≤ R.cells) (hss : ns + N ≤ R.slots) (hd : decode cc pc = .ok (.new idx, 3))
    (k : VG X b nL Q (WK G b (K + 1) (va_up cf K (.inr (ci, fs)))) (nc + 1) (ns + N) (pc + 3) lv (.ref (b + K) :: st)) : VG X b nL Q (WK G b K cf) nc ns pc lv st := by
  refine g_sz h0 ?_
  rintro H locs ls ⟨hW, hz⟩ hS hlv
  have hts := ok.2.2.2.2.1
  have hR := ok.2.2.2.2.2.2.2.1
  have hKn := ok.2.2.2.2.2.1.1.1 ci _ hc.1
  refine W.newcK ok.1 ok.2.1 ok.2.2.2.1 (hts _ hl) (hts _ hi) (hts _ hin) rfl hd (by rw [hR]; exact hcc) (by rw [hR]; exact hss) hKn.2.1 hz fun H1 kC hkC e1 z1 o1 => ?_
  have hs1 := hS.1
  refine k H1 locs ls (hW.push hz o1 ⟨_, hc.1, (u_born ty0 hts hc.2.1 hKn hkC e1 hc.2.2.1).to hfs⟩) ⟨by omega, fun x h1 h2 => (o1 x (by omega)).trans (hS.2.1 x h1 h2), hS.2.2⟩ hlv
theorem g_newaI (ok : OKg X G b cc nL own ret R) {t N : Nat} {n : Int32} {atype : ArrayType} (ht : (tysOf G.2)[t]? = some (G.2 (t + 1), newarray.typeOf atype)) (hra : va_RA X.2.2.2.2.1 (G.2 (t + 1)) (newarray.typeOf atype) → X.2.2.2.2.1.vm.findClass ("[" ++ (newarray.typeOf atype).toString) = some (G.2 (t + 1))) (hdv : defaultValue (newarray.typeOf atype) = .int 0) (harr : Cond.arrayClass (newarray.typeOf atype) ∈ Tg) (h0 : Sz X b nc K) (hn : ¬ n < 0) (hN : n.toNatClampNeg = N) (hby : N * componentBytes (newarray.typeOf atype) ≤ 536870912) (hcc : nc + 1 ≤ R.cells) (hss : ns + N ≤ R.slots) (hd : decode cc pc = .ok (.newarray atype, 2))
    (k : VG X b nL Q (WK G b (K + 1) (va_up cf K (.inl (G.2 (t + 1), N, .inl (fun _ => 0))))) (nc + 1) (ns + N) (pc + 2) lv (.ref (b + K) :: st)) : VG X b nL Q (WK G b K cf) nc ns pc lv (.int n :: st) := by
  refine g_sz h0 ?_
  rintro H locs ls ⟨hW, hz⟩ hS hlv
  have hts := ok.2.2.2.2.1
  have hR := ok.2.2.2.2.2.2.2.1
  refine va_newaK (atype := atype) ok.1 ok.2.1 (hts _ harr) rfl hd rfl hn hN hby (by rw [hR]; exact hcc) (by rw [hR]; exact hss) hz fun H1 cA e1 z1 o1 hA1 hA2 => ?_
  have hcA : cA = G.2 (t + 1) := Option.some.inj (hA2.symm.trans (hra (ok.2.2.2.2.2.1.1.2 t _ ht).2))
  have hs1 := hS.1
  refine k H1 locs ls (hW.push hz o1 (show H1[b + K]? = some (vp_cell _ _) from ?_)) ⟨by omega, fun x h1 h2 => (o1 x (by omega)).trans (hS.2.1 x h1 h2), hS.2.2⟩ hlv
  rw [e1, hdv, hcA]
  rfl
theorem g_newaJ (ok : OKg X G b cc nL own ret R) {N : Nat} {n : Int32} (harr : Cond.arrayClass .long ∈ Tg) (h0 : Sz X b nc K) (hn : ¬ n < 0) (hN : n.toNatClampNeg = N) (hby : N * componentBytes .long ≤ 536870912) (hcc : nc + 1 ≤ R.cells) (hss : ns + N ≤ R.slots) (hd : decode cc pc = .ok (.newarray .long, 2))
    (k : VG X b nL Q (WK G b (K + 1) (va_up cf K (.inl (G.2 3, N, .inr (.inl (fun _ => 0)))))) (nc + 1) (ns + N) (pc + 2) lv (.ref (b + K) :: st)) : VG X b nL Q (WK G b K cf) nc ns pc lv (.int n :: st) := by
  refine g_sz h0 ?_
  rintro H locs ls ⟨hW, hz⟩ hS hlv
  have hts := ok.2.2.2.2.1
  have hR := ok.2.2.2.2.2.2.2.1
  refine va_newaK (atype := .long) ok.1 ok.2.1 (hts _ harr) rfl hd rfl hn hN hby (by rw [hR]; exact hcc) (by rw [hR]; exact hss) hz fun H1 cA e1 z1 o1 hA1 hA2 => ?_
  have hcA : cA = G.2 3 := Option.some.inj (hA2.symm.trans (ok.2.2.2.2.2.1.1.2 2 (G.2 3, .long) rfl).2)
  have hs1 := hS.1
  refine k H1 locs ls (hW.push hz o1 (show H1[b + K]? = some (vp_cell _ _) from ?_)) ⟨by omega, fun x h1 h2 => (o1 x (by omega)).trans (hS.2.1 x h1 h2), hS.2.2⟩ hlv
  rw [e1, hcA]
  rfl
theorem g_putF (ok : OKg X G b cc nL own ret R) (hnm : X.2.2.2.2.2.2.2.2.1.name = "<init>") {a ci k N idx : Nat} {C : String} {Tb : u_T} {ty0 : Nat → FieldType} {fs : List Value} {v : Value} (hc : cOK ci C Tb N ty0) (ha : a < K) (he : cf a = .inr (ci, fs)) (hk : k < N) (hl : Cond.fieldLink own idx (Tb k).1 (Tb k).2.1 (Tb k).2.2.1 ∈ Tg) (hfin : (Tb k).2.2.2 = true) (hdc : (Tb k).1 = own) (hn : narrow (ty0 k) v = v) (hft : fits (ty0 k) v = true) (hlen : k < fs.length) (hd : decode cc pc = .ok (.putfield idx, 3))
    (kk : VG X b nL Q (WK G b K (va_up cf a (.inr (ci, fs.set k v)))) nc ns (pc + 3) lv st) : VG X b nL Q (WK G b K cf) nc ns pc lv (v :: .ref (b + a) :: st) := by
  intro H locs ls hW hS hlv
  refine va_putF ok.1 ok.2.1 ok.2.2.2.2.1 hc.2.1 ty0 hc.2.2.1 hc.2.2.2 ok.2.2.2.1 ok.2.2.2.2.2.1.1 hW wsK_D hS a (by rw [wsK_at ha, he]) hc.1 k hk (ok.2.2.2.2.1 _ hl) (fun _ h => h) hfin hnm hdc (hc.2.2.1 k hk) hn hft hlen hd (fun H1 locs1 hP1 _ hS1 => ?_)
  rw [wsK_set ha] at hP1
  exact kk H1 locs1 ls hP1 hS1 hlv
theorem g_put (ok : OKg X G b cc nL own ret R) {a ci k N idx : Nat} {C : String} {Tb : u_T} {ty0 : Nat → FieldType} {fs : List Value} {v : Value} (hc : cOK ci C Tb N ty0) (ha : a < K) (he : cf a = .inr (ci, fs)) (hk : k < N) (hl : Cond.fieldLink own idx (Tb k).1 (Tb k).2.1 (Tb k).2.2.1 ∈ Tg) (hfin : (Tb k).2.2.2 = false) (hn : narrow (ty0 k) v = v) (hft : fits (ty0 k) v = true) (hlen : k < fs.length) (hd : decode cc pc = .ok (.putfield idx, 3))
    (kk : VG X b nL Q (WK G b K (va_up cf a (.inr (ci, fs.set k v)))) nc ns (pc + 3) lv st) : VG X b nL Q (WK G b K cf) nc ns pc lv (v :: .ref (b + a) :: st) := by
  intro H locs ls hW hS hlv
  refine va_put ok.1 ok.2.1 ok.2.2.2.2.1 hc.2.1 ty0 hc.2.2.1 hc.2.2.2 ok.2.2.2.1 ok.2.2.2.2.2.1.1 hW wsK_D hS a (by rw [wsK_at ha, he]) hc.1 k hk (ok.2.2.2.2.1 _ hl) (fun _ h => h) hfin (hc.2.2.1 k hk) hn hft hlen hd (fun H1 locs1 hP1 _ hS1 => ?_)
  rw [wsK_set ha] at hP1
  exact kk H1 locs1 ls hP1 hS1 hlv
theorem g_get (ok : OKg X G b cc nL own ret R) {a ci k N idx : Nat} {C : String} {Tb : u_T} {ty0 : Nat → FieldType} {fs : List Value} {v : Value} (hc : cOK ci C Tb N ty0) (ha : a < K) (he : cf a = .inr (ci, fs)) (hk : k < N) (hl : Cond.fieldLink own idx (Tb k).1 (Tb k).2.1 (Tb k).2.2.1 ∈ Tg) (hv : fs[k]? = some v) (hd : decode cc pc = .ok (.getfield idx, 3))
    (kk : VG X b nL Q (WK G b K cf) nc ns (pc + 3) lv (v :: st)) : VG X b nL Q (WK G b K cf) nc ns pc lv (.ref (b + a) :: st) := by
  intro H locs ls hW hS hlv
  exact va_get ok.1 ok.2.1 ok.2.2.2.2.1 hc.2.1 ok.2.2.2.1 ok.2.2.2.2.2.1.1 hW a (by rw [wsK_at ha, he]) hc.1 k hk (ok.2.2.2.2.1 _ hl) (fun _ h => h) hv hd (kk H locs ls hW hS hlv)
end KW
