/-- as OK, in any room -/
def OKg (X : Cx) (G : Gx) (b : Nat) (cc : ByteArray) (nL : Nat) (own : String) (ret : Option FieldType) (R : Room) : Prop :=
  X.1.tables.exec = Jvm.exec ∧ X.2.2.2.2.2.2.2.2.2.code = cc ∧ X.2.2.2.2.2.2.2.2.2.maxLocals = nL ∧ X.2.2.2.2.1.vm.findClass own = some X.2.2.2.2.2.1.cls ∧
  (∀ w ∈ Tg, w.before X.2.2.2.2.2.2.1 X.2.2.2.2.1 = true) ∧ EV G b X.2.2.2.2.1 ∧ X.2.2.2.2.2.2.2.2.1.locks = false ∧ X.2.2.2.1 = R ∧ X.2.2.2.2.2.2.2.2.1.sig.returnType = ret
theorem OK.g {X : Cx} {G : Gx} {b nL d : Nat} {cc : ByteArray} {own : String} {ret : Option FieldType} (ok : OK X G b cc nL d own ret) : OKg X G b cc nL own ret (rmd d) := ok
/-- a walk over any world -/
def VG (X : Cx) (b nL : Nat) (Q : State → Prop) (P : Heap → Prop) (nc ns pc : Nat) (lv : List (Option Value)) (st : List Value) : Prop :=
  ∀ (H : Heap) (locs : List Loc) (ls : Array Slot), P H → va_S (fun q => b ≤ q) X.2.2.2.2.1.heap H locs → lvs ls nL lv →
    W X.1 X.2.1 X.2.2.1 X.2.2.2.1 X.2.2.2.2.1 X.2.2.2.2.2.1 X.2.2.2.2.2.2.1 X.2.2.2.2.2.2.2.1 X.2.2.2.2.2.2.2.2.1 X.2.2.2.2.2.2.2.2.2 H locs nc ns Q (F0 X.2.2.2.2.2.1 pc ls st)
theorem g_iconst {X : Cx} {G : Gx} {b nL nc ns : Nat} {Q : State → Prop} {P : Heap → Prop} {R : Room} {pc : Nat} {lv : List (Option Value)} {st : List Value} {cc : ByteArray} {own : String} {ret : Option FieldType} (ok : OKg X G b cc nL own ret R) {n : Int} (v : Int32) (hd : decode cc pc = .ok (.iconst n, 1)) (hv : Int32.ofInt n = v) (k : VG X b nL Q P nc ns (pc + 1) lv (.int v :: st)) : VG X b nL Q P nc ns pc lv st :=
  fun H locs ls hW hS hl => lv_iconst ok.1 ok.2.1 hd hv (k H locs ls hW hS hl)
theorem g_bipush {X : Cx} {G : Gx} {b nL nc ns : Nat} {Q : State → Prop} {P : Heap → Prop} {R : Room} {pc : Nat} {lv : List (Option Value)} {st : List Value} {cc : ByteArray} {own : String} {ret : Option FieldType} (ok : OKg X G b cc nL own ret R) {n : Int} (v : Int32) (hd : decode cc pc = .ok (.bipush n, 2)) (hv : (Int8.ofInt n).toInt32 = v) (k : VG X b nL Q P nc ns (pc + 2) lv (.int v :: st)) : VG X b nL Q P nc ns pc lv st :=
  fun H locs ls hW hS hl => lv_bipush ok.1 ok.2.1 hd hv (k H locs ls hW hS hl)
theorem g_sipush {X : Cx} {G : Gx} {b nL nc ns : Nat} {Q : State → Prop} {P : Heap → Prop} {R : Room} {pc : Nat} {lv : List (Option Value)} {st : List Value} {cc : ByteArray} {own : String} {ret : Option FieldType} (ok : OKg X G b cc nL own ret R) {n : Int} (v : Int32) (hd : decode cc pc = .ok (.sipush n, 3)) (hv : (Int16.ofInt n).toInt32 = v) (k : VG X b nL Q P nc ns (pc + 3) lv (.int v :: st)) : VG X b nL Q P nc ns pc lv st :=
  fun H locs ls hW hS hl => lv_sipush ok.1 ok.2.1 hd hv (k H locs ls hW hS hl)
theorem g_lconst {X : Cx} {G : Gx} {b nL nc ns : Nat} {Q : State → Prop} {P : Heap → Prop} {R : Room} {pc : Nat} {lv : List (Option Value)} {st : List Value} {cc : ByteArray} {own : String} {ret : Option FieldType} (ok : OKg X G b cc nL own ret R) {n : Fin 2} (v : Int64) (hd : decode cc pc = .ok (.lconst n, 1)) (hv : Int64.ofNat (n : Nat) = v) (k : VG X b nL Q P nc ns (pc + 1) lv (.long v :: st)) : VG X b nL Q P nc ns pc lv st :=
  fun H locs ls hW hS hl => lv_lconst ok.1 ok.2.1 hd hv (k H locs ls hW hS hl)
theorem g_iload_n {X : Cx} {G : Gx} {b nL nc ns : Nat} {Q : State → Prop} {P : Heap → Prop} {R : Room} {pc : Nat} {lv : List (Option Value)} {st : List Value} {cc : ByteArray} {own : String} {ret : Option FieldType} (ok : OKg X G b cc nL own ret R) {n : Fin 4} {x : Int32} (hd : decode cc pc = .ok (.iload_n n, 1)) (hv : lv[(n : Nat)]? = some (some (.int x))) (k : VG X b nL Q P nc ns (pc + 1) lv (.int x :: st)) : VG X b nL Q P nc ns pc lv st :=
  fun H locs ls hW hS hl => lv_iload_n ok.1 ok.2.1 hd rfl (hl.at hv) (k H locs ls hW hS hl)
theorem g_iload {X : Cx} {G : Gx} {b nL nc ns : Nat} {Q : State → Prop} {P : Heap → Prop} {R : Room} {pc : Nat} {lv : List (Option Value)} {st : List Value} {cc : ByteArray} {own : String} {ret : Option FieldType} (ok : OKg X G b cc nL own ret R) {n : Nat} {x : Int32} (hd : decode cc pc = .ok (.iload n, 2)) (hv : lv[n]? = some (some (.int x))) (k : VG X b nL Q P nc ns (pc + 2) lv (.int x :: st)) : VG X b nL Q P nc ns pc lv st :=
  fun H locs ls hW hS hl => lv_iload ok.1 ok.2.1 hd (hl.at hv) (k H locs ls hW hS hl)
theorem g_lload_n {X : Cx} {G : Gx} {b nL nc ns : Nat} {Q : State → Prop} {P : Heap → Prop} {R : Room} {pc : Nat} {lv : List (Option Value)} {st : List Value} {cc : ByteArray} {own : String} {ret : Option FieldType} (ok : OKg X G b cc nL own ret R) {n : Fin 4} {x : Int64} (hd : decode cc pc = .ok (.lload_n n, 1)) (hv : lv[(n : Nat)]? = some (some (.long x))) (k : VG X b nL Q P nc ns (pc + 1) lv (.long x :: st)) : VG X b nL Q P nc ns pc lv st :=
  fun H locs ls hW hS hl => lv_lload_n ok.1 ok.2.1 hd rfl (hl.at hv) (k H locs ls hW hS hl)
theorem g_lload {X : Cx} {G : Gx} {b nL nc ns : Nat} {Q : State → Prop} {P : Heap → Prop} {R : Room} {pc : Nat} {lv : List (Option Value)} {st : List Value} {cc : ByteArray} {own : String} {ret : Option FieldType} (ok : OKg X G b cc nL own ret R) {n : Nat} {x : Int64} (hd : decode cc pc = .ok (.lload n, 2)) (hv : lv[n]? = some (some (.long x))) (k : VG X b nL Q P nc ns (pc + 2) lv (.long x :: st)) : VG X b nL Q P nc ns pc lv st :=
  fun H locs ls hW hS hl => lv_lload ok.1 ok.2.1 hd (hl.at hv) (k H locs ls hW hS hl)
theorem g_aload_n {X : Cx} {G : Gx} {b nL nc ns : Nat} {Q : State → Prop} {P : Heap → Prop} {R : Room} {pc : Nat} {lv : List (Option Value)} {st : List Value} {cc : ByteArray} {own : String} {ret : Option FieldType} (ok : OKg X G b cc nL own ret R) {n : Fin 4} {x : Nat} (hd : decode cc pc = .ok (.aload_n n, 1)) (hv : lv[(n : Nat)]? = some (some (.ref x))) (k : VG X b nL Q P nc ns (pc + 1) lv (.ref x :: st)) : VG X b nL Q P nc ns pc lv st :=
  fun H locs ls hW hS hl => lv_aload_n ok.1 ok.2.1 hd rfl (hl.at hv) (k H locs ls hW hS hl)
theorem g_aload {X : Cx} {G : Gx} {b nL nc ns : Nat} {Q : State → Prop} {P : Heap → Prop} {R : Room} {pc : Nat} {lv : List (Option Value)} {st : List Value} {cc : ByteArray} {own : String} {ret : Option FieldType} (ok : OKg X G b cc nL own ret R) {n : Nat} {x : Nat} (hd : decode cc pc = .ok (.aload n, 2)) (hv : lv[n]? = some (some (.ref x))) (k : VG X b nL Q P nc ns (pc + 2) lv (.ref x :: st)) : VG X b nL Q P nc ns pc lv st :=
  fun H locs ls hW hS hl => lv_aload ok.1 ok.2.1 hd (hl.at hv) (k H locs ls hW hS hl)
theorem g_istore_n {X : Cx} {G : Gx} {b nL nc ns : Nat} {Q : State → Prop} {P : Heap → Prop} {R : Room} {pc : Nat} {lv : List (Option Value)} {st : List Value} {cc : ByteArray} {own : String} {ret : Option FieldType} (ok : OKg X G b cc nL own ret R) {n : Fin 4} {x : Int32} (hd : decode cc pc = .ok (.istore_n n, 1)) (hn : (n : Nat) < nL) (hs : sOK lv (n : Nat) = true) (k : VG X b nL Q P nc ns (pc + 1) (lv.set (n : Nat) (some (Value.int x))) st) : VG X b nL Q P nc ns pc lv (Value.int x :: st) :=
  fun H locs ls hW hS hl => lv_istore_n ok.1 ok.2.1 hd rfl hl hn rfl (fun ls2 h2 => k H locs ls2 hW hS (lvs.put hs h2))
theorem g_istore {X : Cx} {G : Gx} {b nL nc ns : Nat} {Q : State → Prop} {P : Heap → Prop} {R : Room} {pc : Nat} {lv : List (Option Value)} {st : List Value} {cc : ByteArray} {own : String} {ret : Option FieldType} (ok : OKg X G b cc nL own ret R) {n : Nat} {x : Int32} (hd : decode cc pc = .ok (.istore n, 2)) (hn : n < nL) (hs : sOK lv n = true) (k : VG X b nL Q P nc ns (pc + 2) (lv.set n (some (Value.int x))) st) : VG X b nL Q P nc ns pc lv (Value.int x :: st) :=
  fun H locs ls hW hS hl => lv_istore ok.1 ok.2.1 hd hl hn rfl (fun ls2 h2 => k H locs ls2 hW hS (lvs.put hs h2))
theorem g_astore_n {X : Cx} {G : Gx} {b nL nc ns : Nat} {Q : State → Prop} {P : Heap → Prop} {R : Room} {pc : Nat} {lv : List (Option Value)} {st : List Value} {cc : ByteArray} {own : String} {ret : Option FieldType} (ok : OKg X G b cc nL own ret R) {n : Fin 4} {x : Nat} (hd : decode cc pc = .ok (.astore_n n, 1)) (hn : (n : Nat) < nL) (hs : sOK lv (n : Nat) = true) (k : VG X b nL Q P nc ns (pc + 1) (lv.set (n : Nat) (some (Value.ref x))) st) : VG X b nL Q P nc ns pc lv (Value.ref x :: st) :=
  fun H locs ls hW hS hl => lv_astore_n ok.1 ok.2.1 hd rfl hl hn rfl (fun ls2 h2 => k H locs ls2 hW hS (lvs.put hs h2))
theorem g_astore {X : Cx} {G : Gx} {b nL nc ns : Nat} {Q : State → Prop} {P : Heap → Prop} {R : Room} {pc : Nat} {lv : List (Option Value)} {st : List Value} {cc : ByteArray} {own : String} {ret : Option FieldType} (ok : OKg X G b cc nL own ret R) {n : Nat} {x : Nat} (hd : decode cc pc = .ok (.astore n, 2)) (hn : n < nL) (hs : sOK lv n = true) (k : VG X b nL Q P nc ns (pc + 2) (lv.set n (some (Value.ref x))) st) : VG X b nL Q P nc ns pc lv (Value.ref x :: st) :=
  fun H locs ls hW hS hl => lv_astore ok.1 ok.2.1 hd hl hn rfl (fun ls2 h2 => k H locs ls2 hW hS (lvs.put hs h2))
theorem g_lstore_n {X : Cx} {G : Gx} {b nL nc ns : Nat} {Q : State → Prop} {P : Heap → Prop} {R : Room} {pc : Nat} {lv : List (Option Value)} {st : List Value} {cc : ByteArray} {own : String} {ret : Option FieldType} (ok : OKg X G b cc nL own ret R) {n : Fin 4} {x : Int64} (hd : decode cc pc = .ok (.lstore_n n, 1)) (hn : (n : Nat) + 1 < nL) (hs : sOK lv (n : Nat) = true) (k : VG X b nL Q P nc ns (pc + 1) ((lv.set (n : Nat) (some (Value.long x))).set ((n : Nat) + 1) none) st) : VG X b nL Q P nc ns pc lv (Value.long x :: st) :=
  fun H locs ls hW hS hl => lv_lstore_n ok.1 ok.2.1 hd rfl hl hn rfl (fun ls2 h2 => k H locs ls2 hW hS (lvs.put2 hs h2))
theorem g_lstore {X : Cx} {G : Gx} {b nL nc ns : Nat} {Q : State → Prop} {P : Heap → Prop} {R : Room} {pc : Nat} {lv : List (Option Value)} {st : List Value} {cc : ByteArray} {own : String} {ret : Option FieldType} (ok : OKg X G b cc nL own ret R) {n : Nat} {x : Int64} (hd : decode cc pc = .ok (.lstore n, 2)) (hn : n + 1 < nL) (hs : sOK lv n = true) (k : VG X b nL Q P nc ns (pc + 2) ((lv.set n (some (Value.long x))).set (n + 1) none) st) : VG X b nL Q P nc ns pc lv (Value.long x :: st) :=
  fun H locs ls hW hS hl => lv_lstore ok.1 ok.2.1 hd hl hn rfl (fun ls2 h2 => k H locs ls2 hW hS (lvs.put2 hs h2))
theorem g_iinc {X : Cx} {G : Gx} {b nL nc ns : Nat} {Q : State → Prop} {P : Heap → Prop} {R : Room} {pc : Nat} {lv : List (Option Value)} {st : List Value} {cc : ByteArray} {own : String} {ret : Option FieldType} (ok : OKg X G b cc nL own ret R) {n : Nat} {c : Int} (v : Int32) {x : Int32} (hd : decode cc pc = .ok (.iinc n c, 3)) (hv : Int32.ofInt c = v) (hx : lv[n]? = some (some (.int x))) (hn : n < nL) (hs : sOK lv n = true) (k : VG X b nL Q P nc ns (pc + 3) (lv.set n (some (.int (x + v)))) st) : VG X b nL Q P nc ns pc lv st := by
  intro H locs ls hW hS hl
  obtain ⟨j, hj⟩ := List.getElem?_of_mem ((lvp_mem lv 0 (n, Value.int x)).mpr ⟨n, by simp, hx⟩)
  exact lv_iinc ok.1 ok.2.1 hd hl hj (by rw [hv]) hn rfl (fun ls2 h2 => k H locs ls2 hW hS (lvs.put hs h2))
theorem g_iadd {X : Cx} {G : Gx} {b nL nc ns : Nat} {Q : State → Prop} {P : Heap → Prop} {R : Room} {pc : Nat} {lv : List (Option Value)} {st : List Value} {cc : ByteArray} {own : String} {ret : Option FieldType} (ok : OKg X G b cc nL own ret R) {x y : Int32} (hd : decode cc pc = .ok (.iadd, 1)) (k : VG X b nL Q P nc ns (pc + 1) lv (.int (x + y) :: st)) : VG X b nL Q P nc ns pc lv (.int y :: .int x :: st) :=
  fun H locs ls hW hS hl => lv_iadd ok.1 ok.2.1 hd (k H locs ls hW hS hl)
theorem g_isub {X : Cx} {G : Gx} {b nL nc ns : Nat} {Q : State → Prop} {P : Heap → Prop} {R : Room} {pc : Nat} {lv : List (Option Value)} {st : List Value} {cc : ByteArray} {own : String} {ret : Option FieldType} (ok : OKg X G b cc nL own ret R) {x y : Int32} (hd : decode cc pc = .ok (.isub, 1)) (k : VG X b nL Q P nc ns (pc + 1) lv (.int (x - y) :: st)) : VG X b nL Q P nc ns pc lv (.int y :: .int x :: st) :=
  fun H locs ls hW hS hl => lv_isub ok.1 ok.2.1 hd (k H locs ls hW hS hl)
theorem g_iand {X : Cx} {G : Gx} {b nL nc ns : Nat} {Q : State → Prop} {P : Heap → Prop} {R : Room} {pc : Nat} {lv : List (Option Value)} {st : List Value} {cc : ByteArray} {own : String} {ret : Option FieldType} (ok : OKg X G b cc nL own ret R) {x y : Int32} (hd : decode cc pc = .ok (.iand, 1)) (k : VG X b nL Q P nc ns (pc + 1) lv (.int (x &&& y) :: st)) : VG X b nL Q P nc ns pc lv (.int y :: .int x :: st) :=
  fun H locs ls hW hS hl => lv_iand ok.1 ok.2.1 hd (k H locs ls hW hS hl)
theorem g_ior {X : Cx} {G : Gx} {b nL nc ns : Nat} {Q : State → Prop} {P : Heap → Prop} {R : Room} {pc : Nat} {lv : List (Option Value)} {st : List Value} {cc : ByteArray} {own : String} {ret : Option FieldType} (ok : OKg X G b cc nL own ret R) {x y : Int32} (hd : decode cc pc = .ok (.ior, 1)) (k : VG X b nL Q P nc ns (pc + 1) lv (.int (x ||| y) :: st)) : VG X b nL Q P nc ns pc lv (.int y :: .int x :: st) :=
  fun H locs ls hW hS hl => lv_ior ok.1 ok.2.1 hd (k H locs ls hW hS hl)
theorem g_ishr {X : Cx} {G : Gx} {b nL nc ns : Nat} {Q : State → Prop} {P : Heap → Prop} {R : Room} {pc : Nat} {lv : List (Option Value)} {st : List Value} {cc : ByteArray} {own : String} {ret : Option FieldType} (ok : OKg X G b cc nL own ret R) {x y : Int32} (hd : decode cc pc = .ok (.ishr, 1)) (k : VG X b nL Q P nc ns (pc + 1) lv (.int (shr x y) :: st)) : VG X b nL Q P nc ns pc lv (.int y :: .int x :: st) :=
  fun H locs ls hW hS hl => lv_ishr ok.1 ok.2.1 hd (k H locs ls hW hS hl)
theorem g_i2l {X : Cx} {G : Gx} {b nL nc ns : Nat} {Q : State → Prop} {P : Heap → Prop} {R : Room} {pc : Nat} {lv : List (Option Value)} {st : List Value} {cc : ByteArray} {own : String} {ret : Option FieldType} (ok : OKg X G b cc nL own ret R) {x : Int32} (hd : decode cc pc = .ok (.i2l, 1)) (k : VG X b nL Q P nc ns (pc + 1) lv (.long (i2l x) :: st)) : VG X b nL Q P nc ns pc lv (.int x :: st) :=
  fun H locs ls hW hS hl => lv_i2l ok.1 ok.2.1 hd rfl (k H locs ls hW hS hl)
theorem g_l2i {X : Cx} {G : Gx} {b nL nc ns : Nat} {Q : State → Prop} {P : Heap → Prop} {R : Room} {pc : Nat} {lv : List (Option Value)} {st : List Value} {cc : ByteArray} {own : String} {ret : Option FieldType} (ok : OKg X G b cc nL own ret R) {x : Int64} (hd : decode cc pc = .ok (.l2i, 1)) (k : VG X b nL Q P nc ns (pc + 1) lv (.int (l2i x) :: st)) : VG X b nL Q P nc ns pc lv (.long x :: st) :=
  fun H locs ls hW hS hl => lv_l2i ok.1 ok.2.1 hd rfl (k H locs ls hW hS hl)
theorem g_lor {X : Cx} {G : Gx} {b nL nc ns : Nat} {Q : State → Prop} {P : Heap → Prop} {R : Room} {pc : Nat} {lv : List (Option Value)} {st : List Value} {cc : ByteArray} {own : String} {ret : Option FieldType} (ok : OKg X G b cc nL own ret R) {x y : Int64} (hd : decode cc pc = .ok (.lor, 1)) (k : VG X b nL Q P nc ns (pc + 1) lv (.long (x ||| y) :: st)) : VG X b nL Q P nc ns pc lv (.long y :: .long x :: st) :=
  fun H locs ls hW hS hl => lv_lor ok.1 ok.2.1 hd (k H locs ls hW hS hl)
theorem g_lshl {X : Cx} {G : Gx} {b nL nc ns : Nat} {Q : State → Prop} {P : Heap → Prop} {R : Room} {pc : Nat} {lv : List (Option Value)} {st : List Value} {cc : ByteArray} {own : String} {ret : Option FieldType} (ok : OKg X G b cc nL own ret R) {x : Int64} {y : Int32} (hd : decode cc pc = .ok (.lshl, 1)) (k : VG X b nL Q P nc ns (pc + 1) lv (.long (lshl x y) :: st)) : VG X b nL Q P nc ns pc lv (.int y :: .long x :: st) :=
  fun H locs ls hW hS hl => lv_lshl ok.1 ok.2.1 hd rfl (k H locs ls hW hS hl)
theorem g_lcmp {X : Cx} {G : Gx} {b nL nc ns : Nat} {Q : State → Prop} {P : Heap → Prop} {R : Room} {pc : Nat} {lv : List (Option Value)} {st : List Value} {cc : ByteArray} {own : String} {ret : Option FieldType} (ok : OKg X G b cc nL own ret R) {x y : Int64} (hd : decode cc pc = .ok (.lcmp, 1)) (k : VG X b nL Q P nc ns (pc + 1) lv (.int (lg_cmp x y) :: st)) : VG X b nL Q P nc ns pc lv (.long y :: .long x :: st) :=
  fun H locs ls hW hS hl => W.lcmp ok.1 ok.2.1 hd (k H locs ls hW hS hl)
theorem g_dup {X : Cx} {G : Gx} {b nL nc ns : Nat} {Q : State → Prop} {P : Heap → Prop} {R : Room} {pc : Nat} {lv : List (Option Value)} {st : List Value} {cc : ByteArray} {own : String} {ret : Option FieldType} (ok : OKg X G b cc nL own ret R) {v : Value} (hd : decode cc pc = .ok (.dup, 1)) (hv : v.category = 1) (k : VG X b nL Q P nc ns (pc + 1) lv (v :: v :: st)) : VG X b nL Q P nc ns pc lv (v :: st) :=
  fun H locs ls hW hS hl => lv_dup ok.1 ok.2.1 hd hv (k H locs ls hW hS hl)
theorem g_pop {X : Cx} {G : Gx} {b nL nc ns : Nat} {Q : State → Prop} {P : Heap → Prop} {R : Room} {pc : Nat} {lv : List (Option Value)} {st : List Value} {cc : ByteArray} {own : String} {ret : Option FieldType} (ok : OKg X G b cc nL own ret R) {v : Value} (hd : decode cc pc = .ok (.pop, 1)) (hv : v.category = 1) (k : VG X b nL Q P nc ns (pc + 1) lv st) : VG X b nL Q P nc ns pc lv (v :: st) :=
  fun H locs ls hW hS hl => lv_pop ok.1 ok.2.1 hd hv (k H locs ls hW hS hl)
theorem g_goto {X : Cx} {G : Gx} {b nL nc ns : Nat} {Q : State → Prop} {P : Heap → Prop} {R : Room} {pc : Nat} {lv : List (Option Value)} {st : List Value} {cc : ByteArray} {own : String} {ret : Option FieldType} (ok : OKg X G b cc nL own ret R) {off : Int} (tgt : Nat) (hd : decode cc pc = .ok (.goto off, 3)) (ht : (pc : Int) + off = (tgt : Int)) (k : VG X b nL Q P nc ns tgt lv st) : VG X b nL Q P nc ns pc lv st :=
  fun H locs ls hW hS hl => lv_goto ok.1 ok.2.1 hd ht (k H locs ls hW hS hl)
theorem g_null {X : Cx} {G : Gx} {b nL nc ns : Nat} {Q : State → Prop} {P : Heap → Prop} {R : Room} {pc : Nat} {lv : List (Option Value)} {st : List Value} {cc : ByteArray} {own : String} {ret : Option FieldType} (ok : OKg X G b cc nL own ret R) (hd : decode cc pc = .ok (.aconst_null, 1)) (k : VG X b nL Q P nc ns (pc + 1) lv (.null :: st)) : VG X b nL Q P nc ns pc lv st :=
  fun H locs ls hW hS hl => lv_null ok.1 ok.2.1 hd (k H locs ls hW hS hl)
theorem g_ldc {X : Cx} {G : Gx} {b nL nc ns : Nat} {Q : State → Prop} {P : Heap → Prop} {R : Room} {pc : Nat} {lv : List (Option Value)} {st : List Value} {cc : ByteArray} {own : String} {ret : Option FieldType} (ok : OKg X G b cc nL own ret R) {n : Nat} (v : Int32) (hd : decode cc pc = .ok (.ldc n, 2)) (hc : Cond.constant own n v ∈ Tg) (k : VG X b nL Q P nc ns (pc + 2) lv (.int v :: st)) : VG X b nL Q P nc ns pc lv st :=
  fun H locs ls hW hS hl => lv_ldc ok.1 ok.2.1 ok.2.2.2.1 (ok.2.2.2.2.1 _ hc) hd (k H locs ls hW hS hl)
theorem g_ldcw {X : Cx} {G : Gx} {b nL nc ns : Nat} {Q : State → Prop} {P : Heap → Prop} {R : Room} {pc : Nat} {lv : List (Option Value)} {st : List Value} {cc : ByteArray} {own : String} {ret : Option FieldType} (ok : OKg X G b cc nL own ret R) {n : Nat} (v : Int32) (hd : decode cc pc = .ok (.ldc_w n, 3)) (hc : Cond.constant own n v ∈ Tg) (k : VG X b nL Q P nc ns (pc + 3) lv (.int v :: st)) : VG X b nL Q P nc ns pc lv st :=
  fun H locs ls hW hS hl => lv_ldcw ok.1 ok.2.1 ok.2.2.2.1 (ok.2.2.2.2.1 _ hc) hd (k H locs ls hW hS hl)
theorem g_ldc2 {X : Cx} {G : Gx} {b nL nc ns : Nat} {Q : State → Prop} {P : Heap → Prop} {R : Room} {pc : Nat} {lv : List (Option Value)} {st : List Value} {cc : ByteArray} {own : String} {ret : Option FieldType} (ok : OKg X G b cc nL own ret R) {n : Nat} (v : Int64) (hd : decode cc pc = .ok (.ldc2_w n, 3)) (hc : Cond.constantLong own n v ∈ Tg) (k : VG X b nL Q P nc ns (pc + 3) lv (.long v :: st)) : VG X b nL Q P nc ns pc lv st :=
  fun H locs ls hW hS hl => lv_ldc2 ok.1 ok.2.1 ok.2.2.2.1 (ok.2.2.2.2.1 _ hc) hd (k H locs ls hW hS hl)
section GB
variable {X : Cx} {G : Gx} {b nL nc ns : Nat} {Q : State → Prop} {P : Heap → Prop} {R : Room} {pc : Nat} {lv : List (Option Value)} {st : List Value} {cc : ByteArray} {own : String} {ret : Option FieldType}
theorem g_if_eq (ok : OKg X G b cc nL own ret R) {x : Int32} {off : Int} (tgt : Nat) (hd : decode cc pc = .ok (.ifCond .eq off, 3)) (ht : (pc : Int) + off = (tgt : Int)) (kt : x = 0 → VG X b nL Q P nc ns tgt lv st) (kf : ¬ x = 0 → VG X b nL Q P nc ns (pc + 3) lv st) : VG X b nL Q P nc ns pc lv (.int x :: st) :=
  fun H locs ls hW hS hl => lv_if_eq ok.1 ok.2.1 hd ht (fun h => kt h H locs ls hW hS hl) (fun h => kf h H locs ls hW hS hl)
theorem g_if_ne (ok : OKg X G b cc nL own ret R) {x : Int32} {off : Int} (tgt : Nat) (hd : decode cc pc = .ok (.ifCond .ne off, 3)) (ht : (pc : Int) + off = (tgt : Int)) (kt : ¬ x = 0 → VG X b nL Q P nc ns tgt lv st) (kf : x = 0 → VG X b nL Q P nc ns (pc + 3) lv st) : VG X b nL Q P nc ns pc lv (.int x :: st) :=
  fun H locs ls hW hS hl => lv_if_ne ok.1 ok.2.1 hd ht (fun h => kt h H locs ls hW hS hl) (fun h => kf h H locs ls hW hS hl)
theorem g_if_lt (ok : OKg X G b cc nL own ret R) {x : Int32} {off : Int} (tgt : Nat) (hd : decode cc pc = .ok (.ifCond .lt off, 3)) (ht : (pc : Int) + off = (tgt : Int)) (kt : x < 0 → VG X b nL Q P nc ns tgt lv st) (kf : ¬ x < 0 → VG X b nL Q P nc ns (pc + 3) lv st) : VG X b nL Q P nc ns pc lv (.int x :: st) :=
  fun H locs ls hW hS hl => lv_if_lt ok.1 ok.2.1 hd ht (fun h => kt h H locs ls hW hS hl) (fun h => kf h H locs ls hW hS hl)
theorem g_icmp_lt (ok : OKg X G b cc nL own ret R) {x y : Int32} {off : Int} (tgt : Nat) (hd : decode cc pc = .ok (.if_icmp .lt off, 3)) (ht : (pc : Int) + off = (tgt : Int)) (kt : x < y → VG X b nL Q P nc ns tgt lv st) (kf : ¬ x < y → VG X b nL Q P nc ns (pc + 3) lv st) : VG X b nL Q P nc ns pc lv (.int y :: .int x :: st) :=
  fun H locs ls hW hS hl => lv_icmp_lt ok.1 ok.2.1 hd ht (fun h => kt h H locs ls hW hS hl) (fun h => kf h H locs ls hW hS hl)
theorem g_icmp_ge (ok : OKg X G b cc nL own ret R) {x y : Int32} {off : Int} (tgt : Nat) (hd : decode cc pc = .ok (.if_icmp .ge off, 3)) (ht : (pc : Int) + off = (tgt : Int)) (kt : y ≤ x → VG X b nL Q P nc ns tgt lv st) (kf : ¬ y ≤ x → VG X b nL Q P nc ns (pc + 3) lv st) : VG X b nL Q P nc ns pc lv (.int y :: .int x :: st) :=
  fun H locs ls hW hS hl => lv_icmp_ge ok.1 ok.2.1 hd ht (fun h => kt h H locs ls hW hS hl) (fun h => kf h H locs ls hW hS hl)
/-- the String constants, as the start has them -/
theorem g_getf (ok : OKg X G b cc nL own ret R) {n d : String} {idx q : Nat} {v : Value} (hE : va_OF "java/lang/String" n d v q (fun q => b ≤ q) X.2.2.2.2.1 X.2.2.2.2.1.heap) (hl : Cond.fieldLink own idx "java/lang/String" n d ∈ Tg) (hd : decode cc pc = .ok (.getfield idx, 3)) (k : VG X b nL Q P nc ns (pc + 3) lv (v :: st)) : VG X b nL Q P nc ns pc lv (.ref q :: st) :=
  fun H locs ls hW hS hv => vk_getf ok.1 ok.2.1 hE hS ok.2.2.2.1 (ok.2.2.2.2.1 _ hl) (fun _ h => h) hd (k H locs ls hW hS hv)
theorem g_gets (ok : OKg X G b cc nL own ret R) {C n d : String} {idx : Nat} {v : Value} (hZ : va_Z C n d v (fun q => b ≤ q) X.2.2.2.2.1 X.2.2.2.2.1.heap) (hl : Cond.fieldLink own idx C n d ∈ Tg) (hd : decode cc pc = .ok (.getstatic idx, 3)) (k : VG X b nL Q P nc ns (pc + 3) lv (v :: st)) : VG X b nL Q P nc ns pc lv st :=
  fun H locs ls hW hS hv => va_gets ok.1 ok.2.1 hZ hS ok.2.2.2.1 (ok.2.2.2.2.1 _ hl) (fun _ h => h) hd (k H locs ls hW hS hv)
theorem g_tlen (ok : OKg X G b cc nL own ret R) {t N : Nat} {f : Nat → Value} {v : Int32} (hT : va_T .byte t N f (fun q => b ≤ q) X.2.2.2.2.1 X.2.2.2.2.1.heap) (hv : Int32.ofNat N = v) (hd : decode cc pc = .ok (.arraylength, 1)) (k : VG X b nL Q P nc ns (pc + 1) lv (.int v :: st)) : VG X b nL Q P nc ns pc lv (.ref t :: st) :=
  fun H locs ls hW hS hl => va_tlen ok.1 ok.2.1 hT hS hv hd (k H locs ls hW hS hl)
theorem g_tb (ok : OKg X G b cc nL own ret R) {t N : Nat} {f : Nat → Value} {i : Int32} {v : Value} (hT : va_T .byte t N f (fun q => b ≤ q) X.2.2.2.2.1 X.2.2.2.2.1.heap) (hin : vp_in i N) (hv : f i.toNatClampNeg = v) (hd : decode cc pc = .ok (.baload, 1)) (k : VG X b nL Q P nc ns (pc + 1) lv (v :: st)) : VG X b nL Q P nc ns pc lv (.int i :: .ref t :: st) :=
  fun H locs ls hW hS hl => va_tb ok.1 ok.2.1 hT hS hin hv hd (k H locs ls hW hS hl)
theorem g_i2c (ok : OKg X G b cc nL own ret R) {x v : Int32} (hd : decode cc pc = .ok (.i2c, 1)) (hv : (x.toUInt32 % 65536).toInt32 = v) (k : VG X b nL Q P nc ns (pc + 1) lv (.int v :: st)) : VG X b nL Q P nc ns pc lv (.int x :: st) :=
  fun H locs ls hW hS hl => lv_i2c ok.1 ok.2.1 hd hv (k H locs ls hW hS hl)
theorem g_P {P' : Heap → Prop} (h : ∀ H, P H → P' H) (k : VG X b nL Q P' nc ns pc lv st) : VG X b nL Q P nc ns pc lv st := fun H locs ls hW hS hl => k H locs ls (h H hW) hS hl
end GB
/-! contracts over any world -/
def rmc (d mc ms : Nat) : Room := { frames := d, cells := mc, slots := ms, locals := 60 * d }
def MetP (l : Launch) (G : Gx) (b : Nat) (y : MethodName) (cc : ByteArray) (maxL : Nat) (ret : Option FieldType) (d mc ms : Nat) (vs : List Value) (P : Heap → Prop) (Qc : Array Value → State → Outcome → State → Prop) : Prop :=
  Met l y (Cond.code y cc maxL ret :: Tg) (rmc d mc ms) (va_Pc vs (fun U => P U.heap ∧ EV G b U)) Qc mc ms (fun q => b ≤ q)
def pI (b : Nat) (v : Int32) (P : Heap → Prop) : Array Value → State → Outcome → State → Prop := va_Qi (fun (x : Int32) (_ : Unit) => x = v) (fun _ t => P t.heap) (fun q => b ≤ q)
def pV (b : Nat) (P : Heap → Prop) : Array Value → State → Outcome → State → Prop := va_Qv (fun (_ : Unit) => True) (fun _ t => P t.heap) (fun q => b ≤ q)
def QP (X : Cx) (b mc ms : Nat) (Qc : Array Value → State → Outcome → State → Prop) : State → Prop := MQ X.2.2.2.2.2.2.2.1 Qc X.2.2.2.2.2.2.1 X.2.2.2.2.1 mc ms (fun q => b ≤ q)
theorem metP_blind {G : Gx} {b : Nat} {vs : List Value} {P : Heap → Prop} : FrameBlind (va_Pc vs (fun U => P U.heap ∧ EV G b U)) := by
  intro a U g mk h
  obtain ⟨h1, h2, h3⟩ := h
  exact ⟨h1, h2, EV.same (u := U) (U := U.calling g mk a) rfl rfl h3⟩
theorem metP_start {l : Launch} {G : Gx} {b : Nat} {y : MethodName} {cc : ByteArray} {maxL : Nat} {ret : Option FieldType} {d mc ms : Nat} {vs : List Value} {P : Heap → Prop} {Qc : Array Value → State → Outcome → State → Prop} (lv : List (Option Value)) (hy : plainName y.cls = true) (hlen : (lg_sl vs).length ≤ maxL) (hlv : lvp 0 lv = lv_args 0 vs)
    (body : ∀ X : Cx, X.2.1 = l → OKg X G b cc maxL y.cls ret (rmc d mc ms) → P X.2.2.2.2.1.heap → X.2.2.2.2.2.2.2.2.1.name = y.name → VG X b maxL (QP X b mc ms Qc) P 0 0 0 lv []) : MetP l G b y cc maxL ret d mc ms vs P Qc := by
  refine Met.ofW (cc := cc) (maxL := maxL) (ret := ret) hy rfl ?_
  intro p e s m args below meth c s₁ B hml hv
  obtain ⟨rfl, hW, hE⟩ := hv
  have hts := atoms_spec (ws := Cond.code y cc maxL ret :: Tg) B.pre
  have hl := lv_entry vs (n := maxL) hlen
  rw [lg_entry_eq]
  refine body (p, l, e, rmc d mc ms, s, m, vs.toArray, below, meth, c) rfl ⟨B.exec, B.bytes, hml, findClass_of_methodNamed B.named, fun w h => hts w (List.mem_cons_of_mem _ h), hE, B.notSynchronized, rfl, B.returns⟩ hW (name_of_methodNamed B.named B.method).1 s.heap [] _ hW va_S.rf ?_
  unfold lvs
  rw [hlv]
  exact hl
section GR
variable {X : Cx} {G : Gx} {b nL nc ns mc ms : Nat} {Q : State → Prop} {P : Heap → Prop} {R : Room} {pc : Nat} {lv : List (Option Value)} {st : List Value} {cc : ByteArray} {own : String} {ret : Option FieldType}
theorem g_iret {ty : FieldType} (ok : OKg X G b cc nL own (some ty) R) {v w : Int32} {P' : Heap → Prop} (hd : decode cc pc = .ok (.ireturn, 1)) (hn : narrow ty (.int v) = .int w) (hP : ∀ H, P H → P' H) : VG X b nL (QP X b nc ns (pI b w P')) P nc ns pc lv [.int v] := by
  intro H locs ls hW hS hl
  exact W_zret ok.1 ok.2.1 ok.2.2.2.2.2.2.2.2 hn (fun t ht hWm => ⟨⟨w, (), rfl, rfl, (show P' t.heap from by rw [ht]; exact hP H hW)⟩, hS.F ht⟩) hS.2.2 hd ok.2.2.2.2.2.2.1
theorem g_vret (ok : OKg X G b cc nL own none R) {P' : Heap → Prop} (hd : decode cc pc = .ok (.return_, 1)) (hP : ∀ H, P H → P' H) : VG X b nL (QP X b nc ns (pV b P')) P nc ns pc lv [] := by
  intro H locs ls hW hS hl
  have hlocks : X.2.2.2.2.2.2.2.2.1.locks = false := ok.2.2.2.2.2.2.1
  exact W.vret ok.1 ok.2.1 ok.2.2.2.2.2.2.2.2 (fun t ht hWm => ⟨⟨(), rfl, trivial, (show P' t.heap from by rw [ht]; exact hP H hW)⟩, hS.F ht⟩) hS.2.2 hd
/-! calls -/
variable {y : MethodName} {cy : ByteArray} {mL dy n idx : Nat} {ry : Option FieldType} {As : List Value} {st0 : List Value} {dR mR sR : Nat}
def RnP (X : Cx) (b nL : Nat) (P : Heap → Prop) (nc ns mc ms pc : Nat) (lv : List (Option Value)) (st0 st : List Value) (Qc : Array Value → State → Outcome → State → Prop) (a : Array Value) : Prop :=
  ∀ (H : Heap) (locs : List Loc) (ls : Array Slot), P H → va_S (fun q => b ≤ q) X.2.2.2.2.1.heap H locs → lvs ls nL lv →
    va_Run X.1 X.2.1 X.2.2.1 X.2.2.2.1 X.2.2.2.2.1 X.2.2.2.2.2.1 X.2.2.2.2.2.2.1 X.2.2.2.2.2.2.2.1 X.2.2.2.2.2.2.2.2.1 X.2.2.2.2.2.2.2.2.2 H locs nc ns mc ms (F0 X.2.2.2.2.2.1 pc ls st0) st (Qc a) (fun q => b ≤ q)
theorem g_callb (ok : OKg X G b cc nL own ret R) (hl : Cond.methodLink own idx y ∈ Tg) (hcd : Cond.code y cy mL ry ∈ Tg) (hin : Cond.initialized y.cls ∈ Tg) (hy : yOK y n) (hd1 : dy + 1 ≤ R.frames) (hd2 : 8 + (mL + 11) + 60 * dy ≤ R.locals) : CallB X.2.2.2.1 X.2.2.2.2.1 X.2.2.2.2.2.2.1 own idx y cy mL ry (Cond.code y cy mL ry :: Tg) (rmc dy mc ms) mc ms n := by
  have hts := ok.2.2.2.2.1
  have hR := ok.2.2.2.2.2.2.2.1
  refine callB_of (Ts := Tg) n hts (good_cons hcd) rfl rfl rfl (hts _ hin) (hts _ hl) hy ?_
  rw [hR]
  exact ⟨hd1, hd2⟩
/-- a member of a String constant -/
theorem g_cV (ok : OKg X G b cc nL own ret R) {i : Nat} {Qc : Array Value → State → Outcome → State → Prop} (hi : i < 7) (hC : y.cls = "java/lang/String") (hl : Cond.methodLink own idx y ∈ Tg) (hw : wV y cy mL ry) (hy : yOK y n) (hn : As.length = n) (hd1 : dy + 1 ≤ R.frames) (hd2 : 8 + (mL + 11) + 60 * dy ≤ R.locals) (hrc : nc + 0 ≤ R.cells) (hrs : ns + 0 ≤ R.slots)
    (hM : MetP X.2.1 G b y cy mL ry dy 0 0 (.ref (aS G i) :: As) P Qc) (hst : st0 = As.reverse ++ .ref (aS G i) :: st) (hcat : (st.map fun v => v.category).sum ≤ 8) (hd : decode cc pc = .ok (.invokevirtual idx, 3)) : RnP X b nL P nc ns 0 0 pc lv st0 st Qc (Value.ref (aS G i) :: As).toArray := by
  intro H locs ls hW hS hlv
  have hts := ok.2.2.2.2.1
  have hR := ok.2.2.2.2.2.2.2.1
  have hcw : CallW X.2.2.2.1 X.2.2.2.2.1 X.2.2.2.2.2.2.1 own "java/lang/String" idx y cy mL ry (Cond.code y cy mL ry :: Tg) (rmc dy 0 0) 0 0 n := ⟨g_callb ok hl hw.2.2.2 hw.2.2.1 hy hd1 hd2, hts _ hw.1, by rw [← hC]; exact hts _ hw.2.1⟩
  have hrecv := vk_recv ok.2.2.2.2.2.1.2.2.1 hi hS
  exact va_runV ⟨ok.1, ok.2.1, ok.2.2.1, ok.2.2.2.1, hts⟩ hM hcw ⟨metP_blind, hrecv, fun U hU hWm => ⟨rfl, by rw [hU]; exact hW, EV.moved hWm (by rw [hU]; exact hS) ok.2.2.2.2.2.1⟩⟩ rfl hn hlv.1 hst (lv_room hcat) hd (by rw [hR]; exact ⟨hrc, hrs⟩)
theorem g_cS (ok : OKg X G b cc nL own ret R) {Qc : Array Value → State → Outcome → State → Prop} (hl : Cond.methodLink own idx y ∈ Tg) (hw : wSt y cy mL ry) (hy : yOK y n) (hn : As.length = n) (hd1 : dy + 1 ≤ R.frames) (hd2 : 8 + (mL + 11) + 60 * dy ≤ R.locals) (hrc : nc + mc ≤ R.cells) (hrs : ns + ms ≤ R.slots)
    (hM : MetP X.2.1 G b y cy mL ry dy mc ms As P Qc) (hst : st0 = As.reverse ++ st) (hcat : (st.map fun v => v.category).sum ≤ 8) (hd : decode cc pc = .ok (.invokestatic idx, 3)) : RnP X b nL P nc ns mc ms pc lv st0 st Qc As.toArray := by
  intro H locs ls hW hS hlv
  have hts := ok.2.2.2.2.1
  have hR := ok.2.2.2.2.2.2.2.1
  exact va_runS ⟨ok.1, ok.2.1, ok.2.2.1, ok.2.2.2.1, hts⟩ hM ⟨g_callb ok hl hw.2.2 hw.2.1 hy hd1 hd2, hts _ hw.1⟩ ⟨metP_blind, fun U hU hWm => ⟨rfl, by rw [hU]; exact hW, EV.moved hWm (by rw [hU]; exact hS) ok.2.2.2.2.2.1⟩⟩ rfl hn hlv.1 hst (lv_room hcat) hd (by rw [hR]; exact ⟨hrc, hrs⟩)
theorem g_kI {a : Array Value} {v : Int32} {P' : Heap → Prop} (hr : RnP X b nL P nc ns mc ms pc lv st0 st (pI b v P') a) (kk : VG X b nL Q P' (nc + mc) (ns + ms) (pc + 3) lv (.int v :: st)) : VG X b nL Q P nc ns pc lv st0 := by
  intro H locs ls hW hS hl
  refine va_calli (A0 := fun q => b ≤ q) (hr H locs ls hW hS hl) hS (fun _ _ h => h) (fun _ h => h) (fun x u t H1 locs1 ht hvm hw hB hz1 hk1 hS1 => ?_)
  rw [hw]
  exact kk H1 locs1 ls (by rw [← ht]; exact hB) hS1 hl
theorem g_kV {a : Array Value} {P' : Heap → Prop} (hr : RnP X b nL P nc ns mc ms pc lv st0 st (pV b P') a) (kk : VG X b nL Q P' (nc + mc) (ns + ms) (pc + 3) lv st) : VG X b nL Q P nc ns pc lv st0 := by
  intro H locs ls hW hS hl
  refine va_callv (A0 := fun q => b ≤ q) (hr H locs ls hW hS hl) hS (fun _ _ h => h) (fun _ h => h) (fun u t H1 locs1 ht hvm hw hB hz1 hk1 hS1 => ?_)
  exact kk H1 locs1 ls (by rw [← ht]; exact hB) hS1 hl
end GR
