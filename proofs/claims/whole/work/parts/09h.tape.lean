section TP
variable {X : Cx} {G : Gx} {b nL nc ns K : Nat} {Q : State → Prop} {P : Heap → Prop} {R : Room} {pc : Nat} {lv : List (Option Value)} {st : List Value} {cc : ByteArray} {own : String} {ret : Option FieldType} {cf : Nat → va_E}
theorem g_icmp_eq (ok : OKg X G b cc nL own ret R) {x y : Int32} {off : Int} (tgt : Nat) (hd : decode cc pc = .ok (.if_icmp .eq off, 3)) (ht : (pc : Int) + off = (tgt : Int)) (kt : x = y → VG X b nL Q P nc ns tgt lv st) (kf : ¬ x = y → VG X b nL Q P nc ns (pc + 3) lv st) : VG X b nL Q P nc ns pc lv (.int y :: .int x :: st) :=
  fun H locs ls hW hS hl => lv_icmp_eq ok.1 ok.2.1 hd ht (fun h => kt h H locs ls hW hS hl) (fun h => kf h H locs ls hW hS hl)
theorem g_icmp_ne (ok : OKg X G b cc nL own ret R) {x y : Int32} {off : Int} (tgt : Nat) (hd : decode cc pc = .ok (.if_icmp .ne off, 3)) (ht : (pc : Int) + off = (tgt : Int)) (kt : ¬ x = y → VG X b nL Q P nc ns tgt lv st) (kf : x = y → VG X b nL Q P nc ns (pc + 3) lv st) : VG X b nL Q P nc ns pc lv (.int y :: .int x :: st) :=
  fun H locs ls hW hS hl => lv_icmp_ne ok.1 ok.2.1 hd ht (fun h => kt h H locs ls hW hS hl) (fun h => kf h H locs ls hW hS hl)
theorem g_icmp_gt (ok : OKg X G b cc nL own ret R) {x y : Int32} {off : Int} (tgt : Nat) (hd : decode cc pc = .ok (.if_icmp .gt off, 3)) (ht : (pc : Int) + off = (tgt : Int)) (kt : y < x → VG X b nL Q P nc ns tgt lv st) (kf : ¬ y < x → VG X b nL Q P nc ns (pc + 3) lv st) : VG X b nL Q P nc ns pc lv (.int y :: .int x :: st) :=
  fun H locs ls hW hS hl => lv_icmp_gt ok.1 ok.2.1 hd ht (fun h => kt h H locs ls hW hS hl) (fun h => kf h H locs ls hW hS hl)
theorem g_alenJ (ok : OKg X G b cc nL own ret R) {a N : Nat} {f : Nat → Int64} {v : Int32} (ha : a < K) (he : cf a = .inl (G.2 3, N, .inr (.inl f))) (hv : Int32.ofNat N = v) (hd : decode cc pc = .ok (.arraylength, 1)) (kk : VG X b nL Q (WK G b K cf) nc ns (pc + 1) lv (.int v :: st)) : VG X b nL Q (WK G b K cf) nc ns pc lv (.ref (b + a) :: st) :=
  fun H locs ls hW hS hl => va_alen ok.1 ok.2.1 ok.2.2.2.2.2.1.1 hW a 2 (by rw [wsK_at ha, he]) rfl hv hd (kk H locs ls hW hS hl)
/-- a word's turn in fillCodes: count, code, place, row -/
def fcB (t : Nat) (s : Int32 × Int64 × Int32 × (Nat → Int64)) : Option ((Int32 × Int64 × Int32 × (Nat → Int64)) ⊕ (Int32 × (Nat → Int64))) :=
  if strLen t < s.2.2.1 then some (.inr (s.1, s.2.2.2))
  else if 29 ≤ s.1 then some (.inr (s.1, s.2.2.2))
  else if s.2.2.1 = strLen t then (ix 29 s.1).bind fun k => some (.inl (s.1 + 1, 0, s.2.2.1 + 1, vp_updL s.2.2.2 k s.2.1))
  else (strAt t s.2.2.1).bind fun c => if c = 32 then (ix 29 s.1).bind fun k => some (.inl (s.1 + 1, 0, s.2.2.1 + 1, vp_updL s.2.2.2 k s.2.1)) else some (.inl (s.1, lshl s.2.1 5 ||| i2l (c - 96), s.2.2.1 + 1, s.2.2.2))
end TP
