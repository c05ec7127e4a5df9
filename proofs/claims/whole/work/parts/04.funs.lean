/-! the shape of functions: objects as numbers by component and place -/
abbrev Obj : Type := (Nat → Nat → Int32) × (Nat → Nat → Int64)
def sI (x : Obj) (j i : Nat) (v : Int32) : Obj := (va_up x.1 j (va_up (x.1 j) i v), x.2)
def sL (x : Obj) (j i : Nat) (v : Int64) : Obj := (x.1, va_up x.2 j (va_up (x.2 j) i v))
def sA (x : Obj) (j : Nat) (f : Nat → Int32) : Obj := (va_up x.1 j f, x.2)
def sAL (x : Obj) (j : Nat) (f : Nat → Int64) : Obj := (x.1, va_up x.2 j f)
def ix (n : Nat) (v : Int32) : Option Nat := if v < 0 ∨ n ≤ v.toNatClampNeg then none else some v.toNatClampNeg
def nz (y : Int32) : Option Unit := if y = 0 then none else some ()
def bnd {α β : Type} (a : α) (f : α → β) : β := f a
def shl (x y : Int32) : Int32 := x <<< (y &&& 31)
def shr (x y : Int32) : Int32 := x >>> (y &&& 31)
def ushr (x y : Int32) : Int32 := (x.toUInt32 >>> (y.toUInt32 &&& Int32.toUInt32 31)).toInt32
def irm (x y : Int32) : Int32 := x - x / y * y
def i2b (x : Int32) : Int32 := x.toInt8.toInt32
def i2l (x : Int32) : Int64 := x.toInt64
def l2i (x : Int64) : Int32 := x.toInt32
def lshl (x : Int64) (y : Int32) : Int64 := x <<< (y.toInt64 &&& 63)
def lshr (x : Int64) (y : Int32) : Int64 := x >>> (y.toInt64 &&& 63)
def bz (x : Int32) : Int32 := x &&& 1
def iter {α β : Type} (f : α → Option (α ⊕ β)) : Nat → α → Option β
  | 0, _ => none
  | n + 1, a => (f a).bind (Sum.elim (iter f n) some)
theorem FU_ex : ∃ n : Nat, 2000 ≤ n := ⟨2000, Nat.le_refl 2000⟩
noncomputable def FU : Nat := Classical.choose FU_ex
theorem FU_ge : 2000 ≤ FU := Classical.choose_spec FU_ex
def strs : List (List Nat) := [[108, 97, 110, 101, 32, 104, 111, 117, 115, 101, 32, 112, 101, 114, 115, 111, 110, 32, 116, 114, 97, 109, 112, 32, 107, 110, 111, 119, 115, 32, 99, 97, 108, 108, 115, 32, 101, 97, 114, 32, 115, 116, 97, 121, 32, 117, 112, 32, 100, 111, 119, 110, 32, 115, 116, 97, 110, 100, 115, 32, 107, 105, 110, 100, 32, 115, 116, 101, 114, 110], [107, 110, 111, 99, 107, 115, 32, 103, 111, 101, 115, 32, 113, 117, 105, 116, 115, 32, 109, 101, 101, 116, 115, 32, 116, 105, 99, 107], [111, 114, 32, 97, 110, 100, 32, 110, 111, 116, 32, 119, 97, 108, 107, 105, 110, 103, 32, 107, 110, 111, 99, 107, 105, 110, 103, 32, 105, 110, 115, 105, 100, 101, 32, 111, 102, 32, 112, 108, 97, 99, 101, 32, 107, 110, 111, 119, 110, 32, 119, 97, 105, 116, 101, 100, 32, 110, 117, 109, 98, 101, 114], [32, 97, 116, 32], [32], [32, 107, 110, 111, 99, 107, 115, 32, 97, 116, 32], [32, 105, 110, 32]]
def strLen (t : Nat) : Int32 := Int32.ofNat (strs.getD t []).length
def strAt (t : Nat) (i : Int32) : Option Int32 := (ix (strs.getD t []).length i).bind fun k => some (Int32.ofNat ((strs.getD t []).getD k 0))
noncomputable def fTa_addFour_L3 (v1 : Int32) (a : Int32 × Obj) : Option ((Int32 × Obj) ⊕ (Obj)) :=
  if a.1 < (0 : Int32) then
    some (.inr a.2)
  else
  if (940 : Int32) ≤ (a.2.1 0 1) then
    some (.inr a.2)
  else
  (ix 940 (a.2.1 0 1)).bind fun i1 =>
  bnd (sI a.2 2 i1 (i2b (i2b (shr v1 a.1)))) fun s2 =>
  bnd (sI s2 0 1 ((s2.1 0 1) + (1 : Int32))) fun s3 =>
  some (.inl ((a.1 + (-8 : Int32)), s3))
noncomputable def fTa_addFour (ta : Obj) (v1 : Int32) : Option (Obj) :=
  (iter (fTa_addFour_L3 v1) FU ((24 : Int32), ta)).bind fun e4 =>
  some e4
noncomputable def fKL_feed (X : Nat → Obj) (v1 : Int32) (v2 : Int32) (v3 : Int32) (v4 : Int32) (v5 : Int32) : Option (Int32 × (Nat → Obj)) :=
  if (((X 1).1 0 1) + (20 : Int32)) ≤ (940 : Int32) then
    (fTa_addFour (X 1) v1).bind fun r1 =>
    bnd (va_up X 1 r1) fun X2 =>
    (fTa_addFour (X2 1) v2).bind fun r3 =>
    bnd (va_up X2 1 r3) fun X4 =>
    (fTa_addFour (X4 1) v3).bind fun r5 =>
    bnd (va_up X4 1 r5) fun X6 =>
    (fTa_addFour (X6 1) v4).bind fun r7 =>
    bnd (va_up X6 1 r7) fun X8 =>
    (fTa_addFour (X8 1) v5).bind fun r9 =>
    bnd (va_up X8 1 r9) fun X10 =>
    some (((X10 1).1 0 1), X10)
  else
  some ((-1 : Int32), X)
noncomputable def fKL_end (X : Nat → Obj) (v1 : Int32) : Option (Int32 × (Nat → Obj)) :=
  if v1 < (0 : Int32) then
    some ((0 : Int32), X)
  else
  if v1 ≤ ((X 1).1 0 1) then
    bnd (va_up X 1 (sI (X 1) 0 1 v1)) fun X1 =>
    some ((1 : Int32), X1)
  else
  some ((0 : Int32), X)
noncomputable def fQu_clear (q : Obj) : Option (Obj) :=
  bnd (sI q 0 0 (10 : Int32)) fun s1 =>
  bnd (sI s1 0 1 (2 : Int32)) fun s2 =>
  bnd (sI s2 0 2 (3 : Int32)) fun s3 =>
  bnd (sI s3 0 3 (0 : Int32)) fun s4 =>
  bnd (sI s4 0 4 (0 : Int32)) fun s5 =>
  some s5
noncomputable def fSc_clear (sc : Obj) : Option (Obj) :=
  bnd (sI sc 0 1 (0 : Int32)) fun s1 =>
  bnd (sI s1 0 2 (0 : Int32)) fun s2 =>
  bnd (sI s2 0 3 (0 : Int32)) fun s3 =>
  some s3
noncomputable def fTa_byteOf (ta : Obj) (v1 : Int32) : Option (Int32) :=
  if v1 < (0 : Int32) then
    some (-1 : Int32)
  else
  if (ta.1 0 1) ≤ v1 then
    some (-1 : Int32)
  else
  if (940 : Int32) ≤ v1 then
    some (-1 : Int32)
  else
  (ix 940 v1).bind fun i1 =>
  some ((ta.1 2 i1) &&& (255 : Int32))
noncomputable def fTa_isBlank (v0 : Int32) : Option (Int32) :=
  if v0 = (32 : Int32) then
    some (1 : Int32)
  else
  if v0 = (10 : Int32) then
    some (1 : Int32)
  else
  some (0 : Int32)
noncomputable def fTa_isSign (v0 : Int32) : Option (Int32) :=
  if v0 = (59 : Int32) then
    some (1 : Int32)
  else
  if v0 = (60 : Int32) then
    some (1 : Int32)
  else
  if v0 = (61 : Int32) then
    some (1 : Int32)
  else
  if v0 = (62 : Int32) then
    some (1 : Int32)
  else
  if v0 = (40 : Int32) then
    some (1 : Int32)
  else
  if v0 = (41 : Int32) then
    some (1 : Int32)
  else
  some (0 : Int32)
noncomputable def fTa_takeRun_J79 (ta : Obj) (v1 : Int32) (v2 : Int32) (v3 : Int32) : Option ((Int32 × Int32 × Obj) ⊕ (Int32 × Int32 × Obj)) :=
  if v3 < (48 : Int32) then
    some (.inr (v1, v2, ta))
  else
  if (57 : Int32) < v3 then
    some (.inr (v1, v2, ta))
  else
  bnd (sI ta 0 5 ((((ta.1 0 5) * (10 : Int32)) + v3) - (48 : Int32))) fun s5 =>
  bnd (sI s5 0 9 ((s5.1 0 9) + (1 : Int32))) fun s6 =>
  some (.inl (v1, (v2 + (1 : Int32)), s6))
noncomputable def fTa_takeRun_L14 (a : Int32 × Int32 × Obj) : Option ((Int32 × Int32 × Obj) ⊕ (Int32 × Int32 × Obj)) :=
  if (a.2.2.1 0 1) ≤ (a.2.2.1 0 9) then
    some (.inr (a.1, a.2.1, a.2.2))
  else
  if (940 : Int32) ≤ (a.2.2.1 0 9) then
    some (.inr (a.1, a.2.1, a.2.2))
  else
  (ix 940 (a.2.2.1 0 9)).bind fun i3 =>
  bnd ((a.2.2.1 2 i3)) fun x4 =>
  if x4 < (97 : Int32) then
    fTa_takeRun_J79 a.2.2 a.1 a.2.1 x4
  else
  if (122 : Int32) < x4 then
    fTa_takeRun_J79 a.2.2 a.1 a.2.1 x4
  else
  bnd (sL a.2.2 0 6 ((lshl (a.2.2.2 0 6) (5 : Int32)) ||| (i2l (x4 - (96 : Int32))))) fun s7 =>
  bnd (sI s7 0 9 ((s7.1 0 9) + (1 : Int32))) fun s8 =>
  some (.inl ((a.1 + (1 : Int32)), a.2.1, s8))
noncomputable def fTa_takeRun_J146 (ta : Obj) (v1 : Int32) (v2 : Int32) : Option (Obj) :=
  if v1 = (0 : Int32) then
    if v2 < (1 : Int32) then
      bnd (sI ta 0 4 (5 : Int32)) fun s10 =>
      some s10
    else
    if (3 : Int32) < v2 then
      bnd (sI ta 0 4 (5 : Int32)) fun s11 =>
      some s11
    else
    bnd (sI ta 0 4 (3 : Int32)) fun s12 =>
    some s12
  else
  bnd (sI ta 0 4 (5 : Int32)) fun s13 =>
  some s13
noncomputable def fTa_takeRun (ta : Obj) : Option (Obj) :=
  bnd (sL ta 0 6 (0 : Int64)) fun s1 =>
  bnd (sI s1 0 5 (0 : Int32)) fun s2 =>
  (iter (fTa_takeRun_L14) FU ((0 : Int32), (0 : Int32), s2)).bind fun e9 =>
  if e9.2.1 = (0 : Int32) then
    if e9.1 < (1 : Int32) then
      fTa_takeRun_J146 e9.2.2 e9.1 e9.2.1
    else
    if (8 : Int32) < e9.1 then
      fTa_takeRun_J146 e9.2.2 e9.1 e9.2.1
    else
    bnd (sI e9.2.2 0 4 (2 : Int32)) fun s14 =>
    some s14
  else
  fTa_takeRun_J146 e9.2.2 e9.1 e9.2.1
noncomputable def fTa_nameWord_L2 (a : Int32 × Obj) : Option ((Int32 × Obj) ⊕ (Obj)) :=
  if (29 : Int32) ≤ a.1 then
    some (.inr a.2)
  else
  if (a.2.1 0 4) = (2 : Int32) then
    (ix 29 a.1).bind fun i1 =>
    if (lg_cmp (a.2.2 1 i1) (a.2.2 0 6)) = (0 : Int32) then
      bnd (sI a.2 0 4 (1 : Int32)) fun s2 =>
      bnd (sI s2 0 5 a.1) fun s3 =>
      some (.inl ((a.1 + (1 : Int32)), s3))
    else
    some (.inl ((a.1 + (1 : Int32)), a.2))
  else
  some (.inr a.2)
noncomputable def fTa_nameWord (ta : Obj) : Option (Obj) :=
  (iter (fTa_nameWord_L2) FU ((0 : Int32), ta)).bind fun e4 =>
  some e4
noncomputable def fTa_take_L0 (a : Obj) : Option ((Obj) ⊕ (Obj)) :=
  if (a.1 0 1) ≤ (a.1 0 9) then
    some (.inr a)
  else
  (fTa_byteOf a (a.1 0 9)).bind fun r1 =>
  (fTa_isBlank r1).bind fun r2 =>
  if r2 = (0 : Int32) then
    some (.inr a)
  else
  bnd (sI a 0 9 ((a.1 0 9) + (1 : Int32))) fun s3 =>
  some (.inl s3)
noncomputable def fTa_take_J96 (ta : Obj) : Option (Obj) :=
  if (ta.1 0 9) < (ta.1 0 1) then
    (fTa_isSign (ta.1 0 5)).bind fun r8 =>
    if r8 = (0 : Int32) then
      (fTa_takeRun ta).bind fun r9 =>
      (fTa_nameWord r9).bind fun r10 =>
      some r10
    else
    bnd (sI ta 0 4 (4 : Int32)) fun s11 =>
    bnd (sI s11 0 9 ((s11.1 0 9) + (1 : Int32))) fun s12 =>
    some s12
  else
  bnd (sI ta 0 4 (0 : Int32)) fun s13 =>
  some s13
noncomputable def fTa_take (ta : Obj) : Option (Obj) :=
  (iter (fTa_take_L0) FU ta).bind fun e4 =>
  bnd (sI e4 0 10 (e4.1 0 9)) fun s5 =>
  (fTa_byteOf s5 (s5.1 0 9)).bind fun r6 =>
  bnd (sI s5 0 5 r6) fun s7 =>
  if (s7.1 0 1) ≤ (s7.1 0 8) then
    fTa_take_J96 s7
  else
  if (s7.1 0 9) < (s7.1 0 8) then
    fTa_take_J96 s7
  else
  bnd (sI s7 0 10 (s7.1 0 8)) fun s14 =>
  bnd (sI s14 0 4 (5 : Int32)) fun s15 =>
  some s15
noncomputable def fTa_startReading (ta : Obj) (v1 : Int32) : Option (Obj) :=
  bnd (sI ta 0 8 v1) fun s1 =>
  bnd (sI s1 0 9 (0 : Int32)) fun s2 =>
  bnd (sI s2 0 2 (0 : Int32)) fun s3 =>
  bnd (sI s3 0 3 (0 : Int32)) fun s4 =>
  (fTa_take s4).bind fun r5 =>
  some r5
noncomputable def fTa_isEnd (ta : Obj) : Option (Int32) :=
  if (ta.1 0 4) = (0 : Int32) then
    some (1 : Int32)
  else
  some (0 : Int32)
noncomputable def fTa_refuse (ta : Obj) (v1 : Int32) : Option (Int32 × Obj) :=
  bnd (sI ta 0 2 v1) fun s1 =>
  bnd (sI s1 0 3 (s1.1 0 10)) fun s2 =>
  some ((-1 : Int32), s2)
noncomputable def fQr_refuse (ta : Obj) (v1 : Int32) : Option (Int32 × Obj) :=
  (fTa_refuse ta v1).bind fun r1 =>
  some ((0 : Int32), r1.2)
noncomputable def fTa_takeNumber_J34 (ta : Obj) : Option (Int32 × Obj) :=
  (fTa_refuse ta (2 : Int32)).bind fun r2 =>
  some (r2.1, r2.2)
noncomputable def fTa_takeNumber (ta : Obj) (v1 : Int32) (v2 : Int32) : Option (Int32 × Obj) :=
  (fTa_take ta).bind fun r1 =>
  if (r1.1 0 4) = (3 : Int32) then
    if (r1.1 0 5) < v1 then
      fTa_takeNumber_J34 r1
    else
    if (r1.1 0 5) ≤ v2 then
      some ((r1.1 0 5), r1)
    else
    fTa_takeNumber_J34 r1
  else
  (fTa_refuse r1 (1 : Int32)).bind fun r3 =>
  some (r3.1, r3.2)
noncomputable def fQr_readStay (q : Obj) (qr : Obj) (ta : Obj) : Option (Int32 × Obj × Obj × Obj) :=
  if (qr.1 0 5) = (0 : Int32) then
    bnd (sI qr 0 5 (1 : Int32)) fun s1 =>
    (fTa_takeNumber ta (1 : Int32) (30 : Int32)).bind fun r2 =>
    bnd (sI q 0 2 r2.1) fun s3 =>
    if (s3.1 0 2) = (-1 : Int32) then
      some ((0 : Int32), s3, s1, r2.2)
    else
    some ((1 : Int32), s3, s1, r2.2)
  else
  (fQr_refuse ta (3 : Int32)).bind fun r4 =>
  some ((bz r4.1), q, qr, r4.2)
noncomputable def fQr_readEar (q : Obj) (qr : Obj) (ta : Obj) : Option (Int32 × Obj × Obj × Obj) :=
  if (qr.1 0 4) = (0 : Int32) then
    bnd (sI qr 0 4 (1 : Int32)) fun s1 =>
    (fTa_takeNumber ta (0 : Int32) (9 : Int32)).bind fun r2 =>
    bnd (sI q 0 1 r2.1) fun s3 =>
    if (s3.1 0 1) = (-1 : Int32) then
      some ((0 : Int32), s3, s1, r2.2)
    else
    some ((1 : Int32), s3, s1, r2.2)
  else
  (fQr_refuse ta (3 : Int32)).bind fun r4 =>
  some ((bz r4.1), q, qr, r4.2)
noncomputable def fQu_findPerson_L2 (q : Obj) (v1 : Int64) (a : Int32) : Option ((Int32) ⊕ ((Unit) ⊕ (Int32))) :=
  if (q.1 0 4) ≤ a then
    some (.inr (.inl ()))
  else
  if (8 : Int32) ≤ a then
    some (.inr (.inl ()))
  else
  (ix 8 a).bind fun i1 =>
  if (lg_cmp (q.2 6 i1) v1) = (0 : Int32) then
    some (.inr (.inr a))
  else
  some (.inl (a + (1 : Int32)))
noncomputable def fQu_findPerson (q : Obj) (v1 : Int64) : Option (Int32) :=
  (iter (fQu_findPerson_L2 q v1) FU (0 : Int32)).bind fun z => Sum.elim (fun _ =>
    some (-1 : Int32))
    (fun r3 => some r3) z
noncomputable def fTa_personHere (q : Obj) (ta : Obj) : Option (Int32 × Obj) :=
  if (ta.1 0 4) = (2 : Int32) then
    (fQu_findPerson q (ta.2 0 6)).bind fun r1 =>
    if r1 = (-1 : Int32) then
      (fTa_refuse ta (3 : Int32)).bind fun r2 =>
      some (r2.1, r2.2)
    else
    some (r1, ta)
  else
  (fTa_refuse ta (1 : Int32)).bind fun r3 =>
  some (r3.1, r3.2)
noncomputable def fTa_takePerson (q : Obj) (ta : Obj) : Option (Int32 × Obj) :=
  (fTa_take ta).bind fun r1 =>
  (fTa_personHere q r1).bind fun r2 =>
  some (r2.1, r2.2)
noncomputable def fQu_hasPerson (q : Obj) (v1 : Int32) : Option (Int32) :=
  if v1 < (0 : Int32) then
    some (0 : Int32)
  else
  if (q.1 0 4) ≤ v1 then
    some (0 : Int32)
  else
  if (8 : Int32) ≤ v1 then
    some (0 : Int32)
  else
  some (1 : Int32)
noncomputable def fQu_hasHouse (q : Obj) (v1 : Int32) : Option (Int32) :=
  if v1 < (0 : Int32) then
    some (0 : Int32)
  else
  if (q.1 0 3) ≤ v1 then
    some (0 : Int32)
  else
  if (6 : Int32) ≤ v1 then
    some (0 : Int32)
  else
  some (1 : Int32)
noncomputable def fQu_homeOf (q : Obj) (v1 : Int32) : Option (Int32) :=
  (fQu_hasPerson q v1).bind fun r1 =>
  if r1 = (0 : Int32) then
    some (-1 : Int32)
  else
  (ix 8 v1).bind fun i2 =>
  some (q.1 4 i2)
noncomputable def fSc_housesToCallAt_L4 (sc : Obj) (v1 : Int32) (a : Int32 × Int32) : Option ((Int32 × Int32) ⊕ (Int32)) :=
  if (sc.1 0 3) ≤ a.2 then
    some (.inr a.1)
  else
  if (12 : Int32) ≤ a.2 then
    some (.inr a.1)
  else
  (ix 12 a.2).bind fun i1 =>
  if (sc.1 1 i1) = v1 then
    (ix 12 a.2).bind fun i2 =>
    bnd ((a.1 ||| (shl (1 : Int32) (sc.1 2 i2)))) fun x3 =>
    some (.inl (x3, (a.2 + (1 : Int32))))
  else
  some (.inl (a.1, (a.2 + (1 : Int32))))
noncomputable def fSc_housesToCallAt (sc : Obj) (v1 : Int32) : Option (Int32) :=
  (iter (fSc_housesToCallAt_L4 sc v1) FU ((0 : Int32), (0 : Int32))).bind fun e4 =>
  some e4
noncomputable def fKL_hasBit (v0 : Int32) (v1 : Int32) : Option (Int32) :=
  if ((shr v0 v1) &&& (1 : Int32)) = (1 : Int32) then
    some (1 : Int32)
  else
  some (0 : Int32)
noncomputable def fSc_tryCall (q : Obj) (sc : Obj) (v1 : Int32) (v2 : Int32) : Option (Int32 × Obj) :=
  (fQu_hasPerson q v1).bind fun r1 =>
  if r1 = (0 : Int32) then
    some ((-1 : Int32), sc)
  else
  (fQu_hasHouse q v2).bind fun r2 =>
  if r2 = (0 : Int32) then
    some ((-1 : Int32), sc)
  else
  (fQu_homeOf q v1).bind fun r3 =>
  if r3 = v2 then
    some ((1 : Int32), sc)
  else
  (fSc_housesToCallAt sc v1).bind fun r4 =>
  (fKL_hasBit r4 v2).bind fun r5 =>
  if r5 = (0 : Int32) then
    if (sc.1 0 3) < (0 : Int32) then
      some ((3 : Int32), sc)
    else
    if (sc.1 0 3) < (12 : Int32) then
      (ix 12 (sc.1 0 3)).bind fun i6 =>
      bnd (sI sc 1 i6 v1) fun s7 =>
      (ix 12 (s7.1 0 3)).bind fun i8 =>
      bnd (sI s7 2 i8 v2) fun s9 =>
      bnd (sI s9 0 3 ((s9.1 0 3) + (1 : Int32))) fun s10 =>
      some ((0 : Int32), s10)
    else
    some ((3 : Int32), sc)
  else
  some ((2 : Int32), sc)
noncomputable def fQu_findHouse_L2 (q : Obj) (v1 : Int64) (a : Int32) : Option ((Int32) ⊕ ((Unit) ⊕ (Int32))) :=
  if (q.1 0 3) ≤ a then
    some (.inr (.inl ()))
  else
  if (6 : Int32) ≤ a then
    some (.inr (.inl ()))
  else
  (ix 6 a).bind fun i1 =>
  if (lg_cmp (q.2 3 i1) v1) = (0 : Int32) then
    some (.inr (.inr a))
  else
  some (.inl (a + (1 : Int32)))
noncomputable def fQu_findHouse (q : Obj) (v1 : Int64) : Option (Int32) :=
  (iter (fQu_findHouse_L2 q v1) FU (0 : Int32)).bind fun z => Sum.elim (fun _ =>
    some (-1 : Int32))
    (fun r3 => some r3) z
noncomputable def fTa_houseHere (q : Obj) (ta : Obj) : Option (Int32 × Obj) :=
  if (ta.1 0 4) = (2 : Int32) then
    (fQu_findHouse q (ta.2 0 6)).bind fun r1 =>
    if r1 = (-1 : Int32) then
      (fTa_refuse ta (3 : Int32)).bind fun r2 =>
      some (r2.1, r2.2)
    else
    some (r1, ta)
  else
  (fTa_refuse ta (1 : Int32)).bind fun r3 =>
  some (r3.1, r3.2)
noncomputable def fTa_takeHouse (q : Obj) (ta : Obj) : Option (Int32 × Obj) :=
  (fTa_take ta).bind fun r1 =>
  (fTa_houseHere q r1).bind fun r2 =>
  some (r2.1, r2.2)
noncomputable def fQr_readCalls_J50 (q : Obj) (ta : Obj) (sc : Obj) (v1 : Int32) (k0 : Int32) : Option (Int32 × Obj × Obj) :=
  if k0 = (-1 : Int32) then
    some ((0 : Int32), ta, sc)
  else
  (fSc_tryCall q sc v1 k0).bind fun r2 =>
  if r2.1 = (0 : Int32) then
    some ((1 : Int32), ta, r2.2)
  else
  (fQr_refuse ta (3 : Int32)).bind fun r3 =>
  if r3.1 = (0 : Int32) then
    some ((0 : Int32), r3.2, r2.2)
  else
  some ((1 : Int32), r3.2, r2.2)
noncomputable def fQr_readCalls (q : Obj) (ta : Obj) (sc : Obj) : Option (Int32 × Obj × Obj) :=
  if (sc.1 0 3) < (12 : Int32) then
    (fTa_takePerson q ta).bind fun r1 =>
    if r1.1 = (-1 : Int32) then
      fQr_readCalls_J50 q r1.2 sc r1.1 (-1 : Int32)
    else
    (fTa_takeHouse q r1.2).bind fun r4 =>
    fQr_readCalls_J50 q r4.2 sc r1.1 r4.1
  else
  (fQr_refuse ta (4 : Int32)).bind fun r5 =>
  some ((bz r5.1), r5.2, sc)
noncomputable def fSc_doesKnow (q : Obj) (sc : Obj) (v1 : Int32) (v2 : Int32) : Option (Int32) :=
  (fQu_hasPerson q v1).bind fun r1 =>
  if r1 = (0 : Int32) then
    some (0 : Int32)
  else
  (fQu_hasPerson q v2).bind fun r2 =>
  if r2 = (0 : Int32) then
    some (0 : Int32)
  else
  (ix 8 v1).bind fun i3 =>
  (fKL_hasBit (sc.1 8 i3) v2).bind fun r4 =>
  if r4 = (0 : Int32) then
    some (0 : Int32)
  else
  some (1 : Int32)
noncomputable def fSc_makeKnown_L24 (q : Obj) (v1 : Int32) (v2 : Int32) (a : Int32 × Obj) : Option ((Int32 × Obj) ⊕ (Obj)) :=
  if (8 : Int32) ≤ a.1 then
    some (.inr a.2)
  else
  if (q.1 0 4) ≤ a.1 then
    some (.inr a.2)
  else
  (fKL_hasBit v2 a.1).bind fun r5 =>
  if r5 = (0 : Int32) then
    some (.inl ((a.1 + (1 : Int32)), a.2))
  else
  (ix 8 a.1).bind fun i6 =>
  (ix 8 a.1).bind fun i7 =>
  bnd (sI a.2 8 i7 ((a.2.1 8 i6) ||| (shl (1 : Int32) v1))) fun s8 =>
  some (.inl ((a.1 + (1 : Int32)), s8))
noncomputable def fSc_makeKnown (q : Obj) (sc : Obj) (v1 : Int32) (v2 : Int32) : Option (Obj) :=
  (fQu_hasPerson q v1).bind fun r1 =>
  if r1 = (0 : Int32) then
    some sc
  else
  (ix 8 v1).bind fun i2 =>
  (ix 8 v1).bind fun i3 =>
  bnd (sI sc 8 i3 ((sc.1 8 i2) ||| v2)) fun s4 =>
  (iter (fSc_makeKnown_L24 q v1 v2) FU ((0 : Int32), s4)).bind fun e9 =>
  some e9
noncomputable def fSc_tryMeet (q : Obj) (sc : Obj) (v1 : Int32) (v2 : Int32) : Option (Int32 × Obj) :=
  if v1 = v2 then
    some ((-1 : Int32), sc)
  else
  (fQu_hasPerson q v1).bind fun r1 =>
  if r1 = (0 : Int32) then
    some ((-1 : Int32), sc)
  else
  (fQu_hasPerson q v2).bind fun r2 =>
  if r2 = (0 : Int32) then
    some ((-1 : Int32), sc)
  else
  (fSc_doesKnow q sc v1 v2).bind fun r3 =>
  if r3 = (0 : Int32) then
    (fSc_makeKnown q sc v1 (shl (1 : Int32) v2)).bind fun r4 =>
    some ((0 : Int32), r4)
  else
  some ((1 : Int32), sc)
noncomputable def fQr_readKnows_J32 (q : Obj) (ta : Obj) (sc : Obj) (v1 : Int32) (k0 : Int32) : Option (Int32 × Obj × Obj) :=
  if k0 = (-1 : Int32) then
    some ((0 : Int32), ta, sc)
  else
  (fSc_tryMeet q sc v1 k0).bind fun r2 =>
  if r2.1 = (0 : Int32) then
    some ((1 : Int32), ta, r2.2)
  else
  (fQr_refuse ta (3 : Int32)).bind fun r3 =>
  if r3.1 = (0 : Int32) then
    some ((0 : Int32), r3.2, r2.2)
  else
  some ((1 : Int32), r3.2, r2.2)
noncomputable def fQr_readKnows (q : Obj) (ta : Obj) (sc : Obj) : Option (Int32 × Obj × Obj) :=
  (fTa_takePerson q ta).bind fun r1 =>
  if r1.1 = (-1 : Int32) then
    fQr_readKnows_J32 q r1.2 sc r1.1 (-1 : Int32)
  else
  (fTa_takePerson q r1.2).bind fun r4 =>
  fQr_readKnows_J32 q r4.2 sc r1.1 r4.1
noncomputable def fTa_takeNewName_J44 (ta : Obj) : Option (Int64 × Obj) :=
  (fTa_refuse ta (3 : Int32)).bind fun r4 =>
  some ((0 : Int64), r4.2)
noncomputable def fTa_takeNewName (q : Obj) (ta : Obj) : Option (Int64 × Obj) :=
  (fTa_take ta).bind fun r1 =>
  if (r1.1 0 4) = (2 : Int32) then
    (fQu_findHouse q (r1.2 0 6)).bind fun r2 =>
    if r2 = (-1 : Int32) then
      (fQu_findPerson q (r1.2 0 6)).bind fun r3 =>
      if r3 = (-1 : Int32) then
        some ((r1.2 0 6), r1)
      else
      fTa_takeNewName_J44 r1
    else
    fTa_takeNewName_J44 r1
  else
  (fTa_refuse r1 (1 : Int32)).bind fun r5 =>
  some ((0 : Int64), r5.2)
noncomputable def fTa_isWord (ta : Obj) (v1 : Int32) : Option (Int32) :=
  if (ta.1 0 4) = (1 : Int32) then
    if (ta.1 0 5) = v1 then
      some (1 : Int32)
    else
    some (0 : Int32)
  else
  some (0 : Int32)
noncomputable def fQu_addPerson (q : Obj) (v1 : Int64) (v3 : Int32) (v4 : Int32) : Option (Obj) :=
  if (8 : Int32) ≤ (q.1 0 4) then
    some q
  else
  (ix 8 (q.1 0 4)).bind fun i1 =>
  bnd (sL q 6 i1 v1) fun s2 =>
  (ix 8 (s2.1 0 4)).bind fun i3 =>
  bnd (sI s2 4 i3 v3) fun s4 =>
  (ix 8 (s4.1 0 4)).bind fun i5 =>
  bnd (sI s4 5 i5 v4) fun s6 =>
  (fQu_hasHouse s6 v3).bind fun r7 =>
  if r7 = (0 : Int32) then
    bnd (sI s6 0 4 ((s6.1 0 4) + (1 : Int32))) fun s8 =>
    some s8
  else
  (ix 6 v3).bind fun i9 =>
  (ix 6 v3).bind fun i10 =>
  bnd (sI s6 2 i10 ((s6.1 2 i9) ||| (shl (1 : Int32) (s6.1 0 4)))) fun s11 =>
  bnd (sI s11 0 4 ((s11.1 0 4) + (1 : Int32))) fun s12 =>
  some s12
noncomputable def fQu_livingIn (q : Obj) (v1 : Int32) : Option (Int32) :=
  if v1 < (0 : Int32) then
    some (0 : Int32)
  else
  if (q.1 0 3) ≤ v1 then
    some (0 : Int32)
  else
  if (6 : Int32) ≤ v1 then
    some (0 : Int32)
  else
  (ix 6 v1).bind fun i1 =>
  some (q.1 2 i1)
noncomputable def fSc_addPerson (q : Obj) (sc : Obj) (v1 : Int32) (v2 : Int32) (v3 : Int32) : Option (Obj) :=
  (fQu_hasPerson q v1).bind fun r1 =>
  if r1 = (0 : Int32) then
    some sc
  else
  (ix 8 v1).bind fun i2 =>
  bnd (sI sc 3 i2 (0 : Int32)) fun s3 =>
  (ix 8 v1).bind fun i4 =>
  bnd (sI s3 4 i4 v2) fun s5 =>
  (ix 8 v1).bind fun i6 =>
  bnd (sI s5 5 i6 v3) fun s7 =>
  (ix 8 v1).bind fun i8 =>
  bnd (sI s7 6 i8 (-1 : Int32)) fun s9 =>
  (ix 8 v1).bind fun i10 =>
  bnd (sI s9 7 i10 (0 : Int32)) fun s11 =>
  (ix 8 v1).bind fun i12 =>
  bnd (sI s11 8 i12 (0 : Int32)) fun s13 =>
  (ix 8 v1).bind fun i14 =>
  bnd (sI s13 9 i14 (0 : Int32)) fun s15 =>
  (ix 8 v1).bind fun i16 =>
  bnd (sI s15 10 i16 (0 : Int32)) fun s17 =>
  (fQu_homeOf q v1).bind fun r18 =>
  (fQu_livingIn q r18).bind fun r19 =>
  (fSc_makeKnown q s17 v1 (r19 &&& ((shl (1 : Int32) v1) ^^^ (-1 : Int32)))).bind fun r20 =>
  some r20
noncomputable def fTa_takeOneOf_J28 (ta : Obj) : Option (Int32 × Obj) :=
  (fTa_refuse ta (1 : Int32)).bind fun r2 =>
  some (r2.1, r2.2)
noncomputable def fTa_takeOneOf (ta : Obj) (v1 : Int32) (v2 : Int32) : Option (Int32 × Obj) :=
  (fTa_take ta).bind fun r1 =>
  if (r1.1 0 4) = (1 : Int32) then
    if (r1.1 0 5) < v1 then
      fTa_takeOneOf_J28 r1
    else
    if (r1.1 0 5) ≤ v2 then
      some (((r1.1 0 5) - v1), r1)
    else
    fTa_takeOneOf_J28 r1
  else
  fTa_takeOneOf_J28 r1
noncomputable def fQr_readPerson_J150 (q : Obj) (ta : Obj) (sc : Obj) (v1 : Int64) (v4 : Int32) (v5 : Int32) (v6 : Int32) (k0 : Int32) : Option (Int32 × Obj × Obj × Obj) :=
  if k0 = (-1 : Int32) then
    some ((0 : Int32), q, ta, sc)
  else
  (fQu_addPerson q v1 v4 k0).bind fun r6 =>
  (fSc_addPerson r6 sc ((r6.1 0 4) - (1 : Int32)) v5 v6).bind fun r7 =>
  some ((1 : Int32), r6, ta, r7)
noncomputable def fQr_readPerson_J127 (q : Obj) (ta : Obj) (sc : Obj) (v1 : Int64) (v4 : Int32) (v5 : Int32) (k0 : Int32) : Option (Int32 × Obj × Obj × Obj) :=
  if k0 = (-1 : Int32) then
    fQr_readPerson_J150 q ta sc v1 v4 v5 k0 (-1 : Int32)
  else
  (fTa_takeOneOf ta (11 : Int32) (12 : Int32)).bind fun r8 =>
  fQr_readPerson_J150 q r8.2 sc v1 v4 v5 k0 r8.1
noncomputable def fQr_readPerson_J87 (q : Obj) (ta : Obj) (sc : Obj) (v1 : Int64) (v4 : Int32) : Option (Int32 × Obj × Obj × Obj) :=
  (fTa_takeNumber ta (0 : Int32) ((q.1 0 0) - (1 : Int32))).bind fun r5 =>
  if r5.1 = (-1 : Int32) then
    fQr_readPerson_J127 q r5.2 sc v1 v4 r5.1 (-1 : Int32)
  else
  (fTa_takeOneOf r5.2 (8 : Int32) (10 : Int32)).bind fun r9 =>
  fQr_readPerson_J127 q r9.2 sc v1 v4 r5.1 r9.1
noncomputable def fQr_readPerson_J73 (q : Obj) (ta : Obj) (sc : Obj) (v1 : Int64) (v3 : Int32) (k0 : Int32) : Option (Int32 × Obj × Obj × Obj) :=
  if v3 = (0 : Int32) then
    if k0 = (-1 : Int32) then
      some ((0 : Int32), q, ta, sc)
    else
    fQr_readPerson_J87 q ta sc v1 k0
  else
  fQr_readPerson_J87 q ta sc v1 k0
noncomputable def fQr_readPerson (q : Obj) (ta : Obj) (sc : Obj) : Option (Int32 × Obj × Obj × Obj) :=
  if (q.1 0 4) < (8 : Int32) then
    (fTa_takeNewName q ta).bind fun r1 =>
    if (lg_cmp r1.1 (0 : Int64)) = (0 : Int32) then
      some ((0 : Int32), q, r1.2, sc)
    else
    (fTa_take r1.2).bind fun r2 =>
    (fTa_isWord r2 (3 : Int32)).bind fun r3 =>
    if r3 = (0 : Int32) then
      (fTa_houseHere q r2).bind fun r4 =>
      fQr_readPerson_J73 q r4.2 sc r1.1 r3 r4.1
    else
    fQr_readPerson_J73 q r2 sc r1.1 r3 (-1 : Int32)
  else
  (fQr_refuse ta (4 : Int32)).bind fun r10 =>
  some ((bz r10.1), q, r10.2, sc)
noncomputable def fQu_addHouse (q : Obj) (v1 : Int64) (v3 : Int32) : Option (Obj) :=
  if (6 : Int32) ≤ (q.1 0 3) then
    some q
  else
  (ix 6 (q.1 0 3)).bind fun i1 =>
  bnd (sL q 3 i1 v1) fun s2 =>
  (ix 6 (s2.1 0 3)).bind fun i3 =>
  bnd (sI s2 1 i3 v3) fun s4 =>
  (ix 6 (s4.1 0 3)).bind fun i5 =>
  bnd (sI s4 2 i5 (0 : Int32)) fun s6 =>
  bnd (sI s6 0 3 ((s6.1 0 3) + (1 : Int32))) fun s7 =>
  some s7
noncomputable def fQr_readHouse (q : Obj) (ta : Obj) : Option (Int32 × Obj × Obj) :=
  if (q.1 0 3) < (6 : Int32) then
    (fTa_takeNewName q ta).bind fun r1 =>
    if (lg_cmp r1.1 (0 : Int64)) = (0 : Int32) then
      some ((0 : Int32), q, r1.2)
    else
    (fTa_takeNumber r1.2 (0 : Int32) ((q.1 0 0) - (1 : Int32))).bind fun r2 =>
    if r2.1 = (-1 : Int32) then
      some ((0 : Int32), q, r2.2)
    else
    (fQu_addHouse q r1.1 r2.1).bind fun r3 =>
    some ((1 : Int32), r3, r2.2)
  else
  (fQr_refuse ta (4 : Int32)).bind fun r4 =>
  some ((bz r4.1), q, r4.2)
noncomputable def fQr_readLane_J27 (q : Obj) (qr : Obj) (ta : Obj) : Option (Int32 × Obj × Obj × Obj) :=
  (fQr_refuse ta (3 : Int32)).bind fun r1 =>
  some ((bz r1.1), q, qr, r1.2)
noncomputable def fQr_readLane (q : Obj) (qr : Obj) (ta : Obj) : Option (Int32 × Obj × Obj × Obj) :=
  if (qr.1 0 3) = (0 : Int32) then
    if (0 : Int32) < (q.1 0 3) then
      fQr_readLane_J27 q qr ta
    else
    if (q.1 0 4) ≤ (0 : Int32) then
      bnd (sI qr 0 3 (1 : Int32)) fun s2 =>
      (fTa_takeNumber ta (2 : Int32) (20 : Int32)).bind fun r3 =>
      bnd (sI q 0 0 r3.1) fun s4 =>
      if (s4.1 0 0) = (-1 : Int32) then
        some ((0 : Int32), s4, s2, r3.2)
      else
      some ((1 : Int32), s4, s2, r3.2)
    else
    fQr_readLane_J27 q qr ta
  else
  fQr_readLane_J27 q qr ta
noncomputable def fQr_readLine (q : Obj) (qr : Obj) (ta : Obj) (sc : Obj) : Option (Int32 × Obj × Obj × Obj × Obj) :=
  if (ta.1 0 4) = (1 : Int32) then
    if (ta.1 0 5) = (0 : Int32) then
      (fQr_readLane q qr ta).bind fun r1 =>
      some ((bz r1.1), r1.2.1, r1.2.2.1, r1.2.2.2, sc)
    else
    if (ta.1 0 5) = (1 : Int32) then
      (fQr_readHouse q ta).bind fun r2 =>
      some ((bz r2.1), r2.2.1, qr, r2.2.2, sc)
    else
    if (ta.1 0 5) = (2 : Int32) then
      (fQr_readPerson q ta sc).bind fun r3 =>
      some ((bz r3.1), r3.2.1, qr, r3.2.2.1, r3.2.2.2)
    else
    if (ta.1 0 5) = (4 : Int32) then
      (fQr_readKnows q ta sc).bind fun r4 =>
      some ((bz r4.1), q, qr, r4.2.1, r4.2.2)
    else
    if (ta.1 0 5) = (5 : Int32) then
      (fQr_readCalls q ta sc).bind fun r5 =>
      some ((bz r5.1), q, qr, r5.2.1, r5.2.2)
    else
    if (ta.1 0 5) = (6 : Int32) then
      (fQr_readEar q qr ta).bind fun r6 =>
      some ((bz r6.1), r6.2.1, r6.2.2.1, r6.2.2.2, sc)
    else
    if (ta.1 0 5) = (7 : Int32) then
      (fQr_readStay q qr ta).bind fun r7 =>
      some ((bz r7.1), r7.2.1, r7.2.2.1, r7.2.2.2, sc)
    else
    (fQr_refuse ta (1 : Int32)).bind fun r8 =>
    some ((bz r8.1), q, qr, r8.2, sc)
  else
  (fQr_refuse ta (1 : Int32)).bind fun r9 =>
  some ((bz r9.1), q, qr, r9.2, sc)
noncomputable def fTa_isSignOf (ta : Obj) (v1 : Int32) : Option (Int32) :=
  if (ta.1 0 4) = (4 : Int32) then
    if (ta.1 0 5) = v1 then
      some (1 : Int32)
    else
    some (0 : Int32)
  else
  some (0 : Int32)
noncomputable def fTa_takeLineEnd (ta : Obj) : Option (Int32 × Obj) :=
  (fTa_take ta).bind fun r1 =>
  (fTa_isSignOf r1 (59 : Int32)).bind fun r2 =>
  if r2 = (0 : Int32) then
    (fTa_refuse r1 (1 : Int32)).bind fun r3 =>
    some ((0 : Int32), r3.2)
  else
  (fTa_take r1).bind fun r4 =>
  some ((1 : Int32), r4)
noncomputable def fQr_readAll_L41 (a : Int32 × Obj × Obj × Obj × Obj) : Option ((Int32 × Obj × Obj × Obj × Obj) ⊕ ((Int32 × Obj × Obj × Obj × Obj) ⊕ (Int32 × Obj × Obj × Obj × Obj))) :=
  if (940 : Int32) ≤ a.1 then
    some (.inr (.inl (a.1, a.2.1, a.2.2.1, a.2.2.2.1, a.2.2.2.2)))
  else
  (fTa_isEnd a.2.2.2.1).bind fun r7 =>
  if r7 = (0 : Int32) then
    (fQr_readLine a.2.1 a.2.2.1 a.2.2.2.1 a.2.2.2.2).bind fun r8 =>
    if r8.1 = (0 : Int32) then
      some (.inr (.inr ((-1 : Int32), r8.2.1, r8.2.2.1, r8.2.2.2.1, r8.2.2.2.2)))
    else
    (fTa_takeLineEnd r8.2.2.2.1).bind fun r9 =>
    if r9.1 = (0 : Int32) then
      some (.inr (.inr ((-1 : Int32), r8.2.1, r8.2.2.1, r9.2, r8.2.2.2.2)))
    else
    some (.inl ((a.1 + (1 : Int32)), r8.2.1, r8.2.2.1, r9.2, r8.2.2.2.2))
  else
  some (.inr (.inl (a.1, a.2.1, a.2.2.1, a.2.2.2.1, a.2.2.2.2)))
noncomputable def fQr_readAll (q : Obj) (qr : Obj) (ta : Obj) (sc : Obj) : Option (Int32 × Obj × Obj × Obj × Obj) :=
  (fQu_clear q).bind fun r1 =>
  (fSc_clear sc).bind fun r2 =>
  bnd (sI qr 0 3 (0 : Int32)) fun s3 =>
  bnd (sI s3 0 4 (0 : Int32)) fun s4 =>
  bnd (sI s4 0 5 (0 : Int32)) fun s5 =>
  (fTa_startReading ta (900 : Int32)).bind fun r6 =>
  (iter (fQr_readAll_L41) FU ((0 : Int32), r1, s5, r6, r2)).bind fun z => Sum.elim (fun e10 =>
    some (e10.1, e10.2.1, e10.2.2.1, e10.2.2.2.1, e10.2.2.2.2))
    (fun r11 => some r11) z
noncomputable def fKL_finishReading (X : Nat → Obj) : Option ((Nat → Obj)) :=
  bnd (va_up X 0 (sI (X 0) 0 12 ((X 1).1 0 2))) fun X1 =>
  bnd (va_up X1 1 (sI (X1 1) 0 1 (0 : Int32))) fun X2 =>
  some X2
noncomputable def fSy_clear (sy : Obj) : Option (Obj) :=
  bnd (sI sy 0 0 (0 : Int32)) fun s1 =>
  bnd (sI s1 0 1 (0 : Int32)) fun s2 =>
  some s2
noncomputable def fQu_copyFrom (q2 : Obj) (q : Obj) : Option (Obj) :=
  bnd (sI q 0 0 (q2.1 0 0)) fun s1 =>
  bnd (sI s1 0 1 (q2.1 0 1)) fun s2 =>
  bnd (sI s2 0 2 (q2.1 0 2)) fun s3 =>
  bnd (sI s3 0 3 (q2.1 0 3)) fun s4 =>
  bnd (sI s4 0 4 (q2.1 0 4)) fun s5 =>
  bnd (sA s5 1 (va_cpy (q2.1 1) (s5.1 1) 0 0 6)) fun s6 =>
  bnd (sA s6 2 (va_cpy (q2.1 2) (s6.1 2) 0 0 6)) fun s7 =>
  bnd (sAL s7 3 (va_cpy (q2.2 3) (s7.2 3) 0 0 6)) fun s8 =>
  bnd (sA s8 4 (va_cpy (q2.1 4) (s8.1 4) 0 0 8)) fun s9 =>
  bnd (sA s9 5 (va_cpy (q2.1 5) (s9.1 5) 0 0 8)) fun s10 =>
  bnd (sAL s10 6 (va_cpy (q2.2 6) (s10.2 6) 0 0 8)) fun s11 =>
  some s11
noncomputable def fSc_copyFrom (sc2 : Obj) (sc : Obj) : Option (Obj) :=
  bnd (sI sc 0 1 (sc2.1 0 1)) fun s1 =>
  bnd (sI s1 0 2 (sc2.1 0 2)) fun s2 =>
  bnd (sI s2 0 3 (sc2.1 0 3)) fun s3 =>
  bnd (sA s3 1 (va_cpy (sc2.1 1) (s3.1 1) 0 0 12)) fun s4 =>
  bnd (sA s4 2 (va_cpy (sc2.1 2) (s4.1 2) 0 0 12)) fun s5 =>
  bnd (sA s5 3 (va_cpy (sc2.1 3) (s5.1 3) 0 0 8)) fun s6 =>
  bnd (sA s6 4 (va_cpy (sc2.1 4) (s6.1 4) 0 0 8)) fun s7 =>
  bnd (sA s7 5 (va_cpy (sc2.1 5) (s7.1 5) 0 0 8)) fun s8 =>
  bnd (sA s8 6 (va_cpy (sc2.1 6) (s8.1 6) 0 0 8)) fun s9 =>
  bnd (sA s9 7 (va_cpy (sc2.1 7) (s9.1 7) 0 0 8)) fun s10 =>
  bnd (sA s10 8 (va_cpy (sc2.1 8) (s10.1 8) 0 0 8)) fun s11 =>
  bnd (sA s11 9 (va_cpy (sc2.1 9) (s11.1 9) 0 0 8)) fun s12 =>
  bnd (sA s12 10 (va_cpy (sc2.1 10) (s12.1 10) 0 0 8)) fun s13 =>
  some s13
noncomputable def fSy_copyFrom (sy2 : Obj) (sy : Obj) : Option (Obj) :=
  bnd (sI sy 0 0 (sy2.1 0 0)) fun s1 =>
  bnd (sI s1 0 1 (sy2.1 0 1)) fun s2 =>
  bnd (sA s2 1 (va_cpy (sy2.1 1) (s2.1 1) 0 0 40)) fun s3 =>
  bnd (sA s3 2 (va_cpy (sy2.1 2) (s3.1 2) 0 0 40)) fun s4 =>
  bnd (sA s4 3 (va_cpy (sy2.1 3) (s4.1 3) 0 0 40)) fun s5 =>
  some s5
noncomputable def fSt_copyFrom (X : Nat → Obj) (iz iz2 : Nat) : Option ((Nat → Obj)) :=
  (fQu_copyFrom (X (iz2 + 1)) (X (iz + 1))).bind fun r1 =>
  bnd (va_up X (iz + 1) r1) fun X2 =>
  (fSc_copyFrom (X2 (iz2 + 8)) (X2 (iz + 8))).bind fun r3 =>
  bnd (va_up X2 (iz + 8) r3) fun X4 =>
  (fSy_copyFrom (X4 (iz2 + 19)) (X4 (iz + 19))).bind fun r5 =>
  bnd (va_up X4 (iz + 19) r5) fun X6 =>
  some X6
noncomputable def fPa_forget (X : Nat → Obj) : Option ((Nat → Obj)) :=
  bnd (va_up X 100 (sI (X 100) 0 2 (0 : Int32))) fun X1 =>
  some X1
noncomputable def fKL_quarter (X : Nat → Obj) : Option (Int32 × (Nat → Obj)) :=
  (fQr_readAll (X 29) (X 212) (X 1) (X 36)).bind fun r1 =>
  bnd (va_up X 29 r1.2.1) fun X2 =>
  bnd (va_up X2 212 r1.2.2.1) fun X3 =>
  bnd (va_up X3 1 r1.2.2.2.1) fun X4 =>
  bnd (va_up X4 36 r1.2.2.2.2) fun X5 =>
  (fKL_finishReading X5).bind fun r6 =>
  if r1.1 = (-1 : Int32) then
    some (((-1 : Int32) - ((r6 1).1 0 3)), r6)
  else
  (fSy_clear (r6 47)).bind fun r7 =>
  bnd (va_up r6 47 r7) fun X8 =>
  (fSt_copyFrom X8 4 28).bind fun r9 =>
  (fPa_forget r9).bind fun r10 =>
  some (r1.1, r10)
noncomputable def fKL_fault (X : Nat → Obj) : Option (Int32) :=
  some ((X 0).1 0 12)
noncomputable def fSc_thoseAt_L5 (q : Obj) (sc : Obj) (v1 : Int32) (v2 : Int32) (a : Int32 × Int32) : Option ((Int32 × Int32) ⊕ (Int32)) :=
  if (8 : Int32) ≤ a.2 then
    some (.inr a.1)
  else
  if (q.1 0 4) ≤ a.2 then
    some (.inr a.1)
  else
  (ix 8 a.2).bind fun i1 =>
  if (sc.1 3 i1) = v2 then
    (ix 8 a.2).bind fun i2 =>
    if (sc.1 6 i2) = v1 then
      bnd ((a.1 ||| (shl (1 : Int32) a.2))) fun x3 =>
      some (.inl (x3, (a.2 + (1 : Int32))))
    else
    some (.inl (a.1, (a.2 + (1 : Int32))))
  else
  some (.inl (a.1, (a.2 + (1 : Int32))))
noncomputable def fSc_thoseAt (q : Obj) (sc : Obj) (v1 : Int32) (v2 : Int32) : Option (Int32) :=
  (iter (fSc_thoseAt_L5 q sc v1 v2) FU ((0 : Int32), (0 : Int32))).bind fun e4 =>
  some e4
noncomputable def fSc_strangersOf_L14 (q : Obj) (sc : Obj) (v2 : Int32) (a : Int32 × Int32) : Option ((Int32 × Int32) ⊕ (Int32)) :=
  if (8 : Int32) ≤ a.2 then
    some (.inr a.1)
  else
  if (q.1 0 4) ≤ a.2 then
    some (.inr a.1)
  else
  (ix 8 a.2).bind fun i2 =>
  if (((sc.1 8 i2) ||| (shl (1 : Int32) a.2)) &&& v2) = (0 : Int32) then
    bnd ((a.1 ||| (shl (1 : Int32) a.2))) fun x3 =>
    some (.inl (x3, (a.2 + (1 : Int32))))
  else
  some (.inl (a.1, (a.2 + (1 : Int32))))
noncomputable def fSc_strangersOf (q : Obj) (sc : Obj) (v1 : Int32) : Option (Int32) :=
  (fQu_livingIn q v1).bind fun r1 =>
  (iter (fSc_strangersOf_L14 q sc r1) FU ((0 : Int32), (0 : Int32))).bind fun e4 =>
  some e4
noncomputable def fQu_placeOf (q : Obj) (v1 : Int32) : Option (Int32) :=
  (fQu_hasHouse q v1).bind fun r1 =>
  if r1 = (0 : Int32) then
    some (-1 : Int32)
  else
  (ix 6 v1).bind fun i2 =>
  some (q.1 1 i2)
noncomputable def fKL_house (X : Nat → Obj) (v1 : Int32) (v2 : Int32) : Option (Int32) :=
  (fQu_hasHouse (X 5) v1).bind fun r1 =>
  if r1 = (0 : Int32) then
    some (-1 : Int32)
  else
  if v2 = (0 : Int32) then
    (fQu_placeOf (X 5) v1).bind fun r2 =>
    some r2
  else
  if v2 = (1 : Int32) then
    (fQu_livingIn (X 5) v1).bind fun r3 =>
    some r3
  else
  if v2 = (2 : Int32) then
    (fSc_strangersOf (X 5) (X 12) v1).bind fun r4 =>
    some r4
  else
  if v2 = (3 : Int32) then
    (fSc_thoseAt (X 5) (X 12) v1 (1 : Int32)).bind fun r5 =>
    some r5
  else
  if v2 = (4 : Int32) then
    (fSc_thoseAt (X 5) (X 12) v1 (2 : Int32)).bind fun r6 =>
    some r6
  else
  some (-1 : Int32)
noncomputable def fQu_isStern (q : Obj) (v1 : Int32) : Option (Int32) :=
  (fQu_hasPerson q v1).bind fun r1 =>
  if r1 = (0 : Int32) then
    some (0 : Int32)
  else
  (ix 8 v1).bind fun i2 =>
  if (q.1 5 i2) = (1 : Int32) then
    some (1 : Int32)
  else
  some (0 : Int32)
noncomputable def fSc_detail (q : Obj) (sc : Obj) (v1 : Int32) (v2 : Int32) : Option (Int32) :=
  (fQu_hasPerson q v1).bind fun r1 =>
  if r1 = (0 : Int32) then
    some (-1 : Int32)
  else
  if v2 = (0 : Int32) then
    (ix 8 v1).bind fun i2 =>
    some (sc.1 3 i2)
  else
  if v2 = (1 : Int32) then
    (ix 8 v1).bind fun i3 =>
    some (sc.1 4 i3)
  else
  if v2 = (2 : Int32) then
    (ix 8 v1).bind fun i4 =>
    some (sc.1 5 i4)
  else
  if v2 = (3 : Int32) then
    (ix 8 v1).bind fun i5 =>
    some (sc.1 6 i5)
  else
  if v2 = (4 : Int32) then
    (ix 8 v1).bind fun i6 =>
    some (sc.1 7 i6)
  else
  if v2 = (5 : Int32) then
    (ix 8 v1).bind fun i7 =>
    some (sc.1 8 i7)
  else
  if v2 = (6 : Int32) then
    (fSc_housesToCallAt sc v1).bind fun r8 =>
    some r8
  else
  if v2 = (7 : Int32) then
    (ix 8 v1).bind fun i9 =>
    some (sc.1 9 i9)
  else
  if v2 = (8 : Int32) then
    (ix 8 v1).bind fun i10 =>
    some (sc.1 10 i10)
  else
  if v2 = (9 : Int32) then
    (fQu_homeOf q v1).bind fun r11 =>
    some r11
  else
  if v2 = (10 : Int32) then
    (fQu_isStern q v1).bind fun r12 =>
    if r12 = (0 : Int32) then
      some (0 : Int32)
    else
    some (1 : Int32)
  else
  some (-1 : Int32)
noncomputable def fKL_person (X : Nat → Obj) (v1 : Int32) (v2 : Int32) : Option (Int32 ⊕ Unit) :=
  (fQu_hasPerson (X 5) v1).bind fun r1 =>
  if r1 = (0 : Int32) then
    some (.inr ())
  else
  if v2 < (0 : Int32) then
    some (.inr ())
  else
  if v2 ≤ (10 : Int32) then
    (fSc_detail (X 5) (X 12) v1 v2).bind fun r2 =>
    some (.inl r2)
  else
  some (.inr ())
noncomputable def fKL_call (X : Nat → Obj) (v1 : Int32) (v2 : Int32) : Option (Int32) :=
  if v1 < (0 : Int32) then
    some (-1 : Int32)
  else
  if ((X 12).1 0 3) ≤ v1 then
    some (-1 : Int32)
  else
  if v1 < (12 : Int32) then
    if v2 = (0 : Int32) then
      (ix 12 v1).bind fun i1 =>
      some ((X 12).1 1 i1)
    else
    if v2 = (1 : Int32) then
      (ix 12 v1).bind fun i2 =>
      some ((X 12).1 2 i2)
    else
    some (-1 : Int32)
  else
  some (-1 : Int32)
noncomputable def fSc_openedInAll_L4 (q : Obj) (sc : Obj) (a : Int32 × Int32) : Option ((Int32 × Int32) ⊕ (Int32)) :=
  if (8 : Int32) ≤ a.2 then
    some (.inr a.1)
  else
  if (q.1 0 4) ≤ a.2 then
    some (.inr a.1)
  else
  (ix 8 a.2).bind fun i1 =>
  bnd ((a.1 + (sc.1 10 i1))) fun x2 =>
  some (.inl (x2, (a.2 + (1 : Int32))))
noncomputable def fSc_openedInAll (q : Obj) (sc : Obj) : Option (Int32) :=
  (iter (fSc_openedInAll_L4 q sc) FU ((0 : Int32), (0 : Int32))).bind fun e3 =>
  some e3
noncomputable def fSc_housesWithStrangers_L4 (q : Obj) (sc : Obj) (a : Int32 × Int32) : Option ((Int32 × Int32) ⊕ (Int32)) :=
  if (q.1 0 3) ≤ a.2 then
    some (.inr a.1)
  else
  (fSc_strangersOf q sc a.2).bind fun r1 =>
  if r1 = (0 : Int32) then
    some (.inl (a.1, (a.2 + (1 : Int32))))
  else
  bnd ((a.1 ||| (shl (1 : Int32) a.2))) fun x2 =>
  some (.inl (x2, (a.2 + (1 : Int32))))
noncomputable def fSc_housesWithStrangers (q : Obj) (sc : Obj) : Option (Int32) :=
  (iter (fSc_housesWithStrangers_L4 q sc) FU ((0 : Int32), (0 : Int32))).bind fun e3 =>
  some e3
noncomputable def fSc_thoseWhoAre_L4 (q : Obj) (sc : Obj) (v1 : Int32) (a : Int32 × Int32) : Option ((Int32 × Int32) ⊕ (Int32)) :=
  if (8 : Int32) ≤ a.2 then
    some (.inr a.1)
  else
  if (q.1 0 4) ≤ a.2 then
    some (.inr a.1)
  else
  (ix 8 a.2).bind fun i1 =>
  if (sc.1 3 i1) = v1 then
    bnd ((a.1 ||| (shl (1 : Int32) a.2))) fun x2 =>
    some (.inl (x2, (a.2 + (1 : Int32))))
  else
  some (.inl (a.1, (a.2 + (1 : Int32))))
noncomputable def fSc_thoseWhoAre (q : Obj) (sc : Obj) (v1 : Int32) : Option (Int32) :=
  (iter (fSc_thoseWhoAre_L4 q sc v1) FU ((0 : Int32), (0 : Int32))).bind fun e3 =>
  some e3
noncomputable def fKL_now (X : Nat → Obj) (v1 : Int32) : Option (Int32) :=
  if v1 = (0 : Int32) then
    some ((X 12).1 0 1)
  else
  if v1 = (1 : Int32) then
    (fSc_thoseWhoAre (X 5) (X 12) (0 : Int32)).bind fun r1 =>
    some r1
  else
  if v1 = (2 : Int32) then
    (fSc_thoseWhoAre (X 5) (X 12) (1 : Int32)).bind fun r2 =>
    some r2
  else
  if v1 = (3 : Int32) then
    (fSc_thoseWhoAre (X 5) (X 12) (2 : Int32)).bind fun r3 =>
    some r3
  else
  if v1 = (4 : Int32) then
    (fSc_housesWithStrangers (X 5) (X 12)).bind fun r4 =>
    some r4
  else
  if v1 = (5 : Int32) then
    some ((X 12).1 0 3)
  else
  if v1 = (6 : Int32) then
    (fSc_openedInAll (X 5) (X 12)).bind fun r5 =>
    some r5
  else
  if v1 = (7 : Int32) then
    some ((X 12).1 0 2)
  else
  some (-1 : Int32)
noncomputable def fPa_roomBehind (X : Nat → Obj) (v1 : Int32) : Option (Nat) :=
  bnd ((irm (((X 100).1 0 1) + v1) (9 : Int32))) fun x1 =>
  if x1 < (0 : Int32) then
    some (9)
  else
  if (9 : Int32) ≤ x1 then
    some (9)
  else
  (ix 9 x1).bind fun i2 =>
  some i2
noncomputable def fPa_note (X : Nat → Obj) : Option ((Nat → Obj)) :=
  (fPa_roomBehind X ((X 100).1 0 2)).bind fun r1 =>
  if r1 < 9 then
    (fSc_copyFrom (X 12) (X (102 + 11 * r1))).bind fun r2 =>
    bnd (va_up X (102 + 11 * r1) r2) fun X3 =>
    some X3
  else
  some X
noncomputable def fSc_tryKnock (q : Obj) (sc : Obj) (v1 : Int32) (v2 : Int32) : Option (Int32 × Obj) :=
  (fQu_hasPerson q v1).bind fun r1 =>
  if r1 = (0 : Int32) then
    some ((-1 : Int32), sc)
  else
  (fQu_hasHouse q v2).bind fun r2 =>
  if r2 = (0 : Int32) then
    some ((-1 : Int32), sc)
  else
  (ix 8 v1).bind fun i3 =>
  if (sc.1 3 i3) = (0 : Int32) then
    (fQu_placeOf q v2).bind fun r4 =>
    (ix 8 v1).bind fun i5 =>
    if r4 = (sc.1 4 i5) then
      (fQu_homeOf q v1).bind fun r6 =>
      if r6 = v2 then
        some ((3 : Int32), sc)
      else
      (ix 8 v1).bind fun i7 =>
      bnd (sI sc 3 i7 (1 : Int32)) fun s8 =>
      (ix 8 v1).bind fun i9 =>
      bnd (sI s8 6 i9 v2) fun s10 =>
      some ((0 : Int32), s10)
    else
    some ((2 : Int32), sc)
  else
  some ((1 : Int32), sc)
noncomputable def fPa_keep (X : Nat → Obj) : Option ((Nat → Obj)) :=
  if (8 : Int32) ≤ ((X 100).1 0 2) then
    bnd (va_up X 100 (sI (X 100) 0 1 (irm (((X 100).1 0 1) + (1 : Int32)) (9 : Int32)))) fun X1 =>
    some X1
  else
  bnd (va_up X 100 (sI (X 100) 0 2 (((X 100).1 0 2) + (1 : Int32)))) fun X2 =>
  some X2
noncomputable def fPa_keepIfDone (X : Nat → Obj) (v1 : Int32) : Option (Int32 × (Nat → Obj)) :=
  if v1 = (0 : Int32) then
    (fPa_keep X).bind fun r1 =>
    some (v1, r1)
  else
  some (v1, X)
noncomputable def fKL_knock (X : Nat → Obj) (v1 : Int32) (v2 : Int32) : Option (Int32 × (Nat → Obj)) :=
  (fPa_note X).bind fun r1 =>
  (fSc_tryKnock (r1 5) (r1 12) v1 v2).bind fun r2 =>
  bnd (va_up r1 12 r2.2) fun X3 =>
  (fPa_keepIfDone X3 r2.1).bind fun r4 =>
  some (r4.1, r4.2)
noncomputable def fSc_tryGo (q : Obj) (sc : Obj) (v1 : Int32) (v2 : Int32) : Option (Int32 × Obj) :=
  (fQu_hasPerson q v1).bind fun r1 =>
  if r1 = (0 : Int32) then
    some ((-1 : Int32), sc)
  else
  if v2 < (0 : Int32) then
    some ((-1 : Int32), sc)
  else
  if v2 < (3 : Int32) then
    (ix 8 v1).bind fun i2 =>
    if (sc.1 3 i2) = (0 : Int32) then
      (ix 8 v1).bind fun i3 =>
      if (sc.1 5 i3) = v2 then
        some ((2 : Int32), sc)
      else
      (ix 8 v1).bind fun i4 =>
      bnd (sI sc 5 i4 v2) fun s5 =>
      some ((0 : Int32), s5)
    else
    some ((1 : Int32), sc)
  else
  some ((-1 : Int32), sc)
noncomputable def fKL_go (X : Nat → Obj) (v1 : Int32) (v2 : Int32) : Option (Int32 × (Nat → Obj)) :=
  (fPa_note X).bind fun r1 =>
  (fSc_tryGo (r1 5) (r1 12) v1 v2).bind fun r2 =>
  bnd (va_up r1 12 r2.2) fun X3 =>
  (fPa_keepIfDone X3 r2.1).bind fun r4 =>
  some (r4.1, r4.2)
noncomputable def fSc_putInLane (q : Obj) (sc : Obj) (v1 : Int32) : Option (Obj) :=
  (fQu_hasPerson q v1).bind fun r1 =>
  if r1 = (0 : Int32) then
    some sc
  else
  (ix 8 v1).bind fun i2 =>
  bnd (sI sc 3 i2 (0 : Int32)) fun s3 =>
  (ix 8 v1).bind fun i4 =>
  bnd (sI s3 6 i4 (-1 : Int32)) fun s5 =>
  (ix 8 v1).bind fun i6 =>
  bnd (sI s5 7 i6 (0 : Int32)) fun s7 =>
  some s7
noncomputable def fSc_tryQuit (q : Obj) (sc : Obj) (v1 : Int32) : Option (Int32 × Obj) :=
  (fQu_hasPerson q v1).bind fun r1 =>
  if r1 = (0 : Int32) then
    some ((-1 : Int32), sc)
  else
  (ix 8 v1).bind fun i2 =>
  if (sc.1 3 i2) = (1 : Int32) then
    (fSc_putInLane q sc v1).bind fun r3 =>
    some ((0 : Int32), r3)
  else
  some ((1 : Int32), sc)
noncomputable def fKL_quit (X : Nat → Obj) (v1 : Int32) : Option (Int32 × (Nat → Obj)) :=
  (fPa_note X).bind fun r1 =>
  (fSc_tryQuit (r1 5) (r1 12) v1).bind fun r2 =>
  bnd (va_up r1 12 r2.2) fun X3 =>
  (fPa_keepIfDone X3 r2.1).bind fun r4 =>
  some (r4.1, r4.2)
noncomputable def fKL_meets (X : Nat → Obj) (v1 : Int32) (v2 : Int32) : Option (Int32 × (Nat → Obj)) :=
  (fPa_note X).bind fun r1 =>
  (fSc_tryMeet (r1 5) (r1 12) v1 v2).bind fun r2 =>
  bnd (va_up r1 12 r2.2) fun X3 =>
  (fPa_keepIfDone X3 r2.1).bind fun r4 =>
  some (r4.1, r4.2)
noncomputable def fKL_calls (X : Nat → Obj) (v1 : Int32) (v2 : Int32) : Option (Int32 × (Nat → Obj)) :=
  (fPa_note X).bind fun r1 =>
  (fSc_tryCall (r1 5) (r1 12) v1 v2).bind fun r2 =>
  bnd (va_up r1 12 r2.2) fun X3 =>
  (fPa_keepIfDone X3 r2.1).bind fun r4 =>
  some (r4.1, r4.2)
noncomputable def fJM_min (v0 : Int32) (v1 : Int32) : Option (Int32) :=
  if v1 < v0 then
    some v1
  else
  some v0
noncomputable def fSc_stayOn (q : Obj) (sc : Obj) (v1 : Int32) : Option (Obj) :=
  (ix 8 v1).bind fun i1 =>
  (ix 8 v1).bind fun i2 =>
  bnd (sI sc 7 i2 ((sc.1 7 i1) - (1 : Int32))) fun s3 =>
  (ix 8 v1).bind fun i4 =>
  if (0 : Int32) < (s3.1 7 i4) then
    some s3
  else
  (fSc_putInLane q s3 v1).bind fun r5 =>
  some r5
noncomputable def fSc_walkOn_J64 (sc : Obj) (v1 : Int32) : Option (Obj) :=
  (ix 8 v1).bind fun i4 =>
  if (sc.1 5 i4) = (0 : Int32) then
    (ix 8 v1).bind fun i5 =>
    bnd (sI sc 5 i5 (1 : Int32)) fun s6 =>
    some s6
  else
  (ix 8 v1).bind fun i7 =>
  bnd (sI sc 5 i7 (0 : Int32)) fun s8 =>
  some s8
noncomputable def fSc_walkOn_J48 (q : Obj) (sc : Obj) (v1 : Int32) (k0 : Int32) : Option (Obj) :=
  if k0 < (0 : Int32) then
    fSc_walkOn_J64 sc v1
  else
  if k0 < (q.1 0 0) then
    (ix 8 v1).bind fun i9 =>
    bnd (sI sc 4 i9 k0) fun s10 =>
    some s10
  else
  fSc_walkOn_J64 sc v1
noncomputable def fSc_walkOn_J20 (q : Obj) (sc : Obj) (v1 : Int32) : Option (Obj) :=
  (ix 8 v1).bind fun i2 =>
  if (sc.1 5 i2) = (0 : Int32) then
    (ix 8 v1).bind fun i3 =>
    fSc_walkOn_J48 q sc v1 ((sc.1 4 i3) + (1 : Int32))
  else
  (ix 8 v1).bind fun i11 =>
  fSc_walkOn_J48 q sc v1 ((sc.1 4 i11) - (1 : Int32))
noncomputable def fSc_walkOn (q : Obj) (sc : Obj) (v1 : Int32) : Option (Obj) :=
  (ix 8 v1).bind fun i1 =>
  if (sc.1 5 i1) = (0 : Int32) then
    fSc_walkOn_J20 q sc v1
  else
  (ix 8 v1).bind fun i12 =>
  if (sc.1 5 i12) = (1 : Int32) then
    fSc_walkOn_J20 q sc v1
  else
  some sc
noncomputable def fSc_dropCall_L2 (a : Int32 × Obj) : Option ((Int32 × Obj) ⊕ (Obj)) :=
  if a.1 < (0 : Int32) then
    some (.inr a.2)
  else
  if (a.2.1 0 3) ≤ (a.1 + (1 : Int32)) then
    some (.inr a.2)
  else
  if (12 : Int32) ≤ (a.1 + (1 : Int32)) then
    some (.inr a.2)
  else
  (ix 12 (a.1 + (1 : Int32))).bind fun i1 =>
  (ix 12 a.1).bind fun i2 =>
  bnd (sI a.2 1 i2 (a.2.1 1 i1)) fun s3 =>
  (ix 12 (a.1 + (1 : Int32))).bind fun i4 =>
  (ix 12 a.1).bind fun i5 =>
  bnd (sI s3 2 i5 (s3.1 2 i4)) fun s6 =>
  some (.inl ((a.1 + (1 : Int32)), s6))
noncomputable def fSc_dropCall (sc : Obj) (v1 : Int32) : Option (Obj) :=
  (iter (fSc_dropCall_L2) FU (v1, sc)).bind fun e7 =>
  bnd (sI e7 0 3 ((e7.1 0 3) - (1 : Int32))) fun s8 =>
  some s8
noncomputable def fSc_callAtDoor_L2 (q : Obj) (sc : Obj) (v1 : Int32) (a : Int32) : Option ((Int32) ⊕ ((Unit) ⊕ (Obj))) :=
  if (sc.1 0 3) ≤ a then
    some (.inr (.inl ()))
  else
  if (12 : Int32) ≤ a then
    some (.inr (.inl ()))
  else
  (ix 12 a).bind fun i1 =>
  if (sc.1 1 i1) = v1 then
    (ix 12 a).bind fun i2 =>
    (fQu_placeOf q (sc.1 2 i2)).bind fun r3 =>
    (ix 8 v1).bind fun i4 =>
    if r3 = (sc.1 4 i4) then
      (ix 8 v1).bind fun i5 =>
      bnd (sI sc 3 i5 (1 : Int32)) fun s6 =>
      (ix 12 a).bind fun i7 =>
      (ix 8 v1).bind fun i8 =>
      bnd (sI s6 6 i8 (s6.1 2 i7)) fun s9 =>
      (fSc_dropCall s9 a).bind fun r10 =>
      some (.inr (.inr r10))
    else
    some (.inl (a + (1 : Int32)))
  else
  some (.inl (a + (1 : Int32)))
noncomputable def fSc_callAtDoor (q : Obj) (sc : Obj) (v1 : Int32) : Option (Obj) :=
  (iter (fSc_callAtDoor_L2 q sc v1) FU (0 : Int32)).bind fun z => Sum.elim (fun _ =>
    some sc)
    (fun r12 => some r12) z
noncomputable def fJM_abs (v0 : Int32) : Option (Int32) :=
  if (0 : Int32) ≤ v0 then
    some v0
  else
  some (-v0)
noncomputable def fSc_thoseWhoCouldAnswer_L27 (q : Obj) (sc : Obj) (v1 : Int32) (a : Int32 × Int32) : Option ((Int32 × Int32) ⊕ (Int32)) :=
  if (8 : Int32) ≤ a.2 then
    some (.inr a.1)
  else
  if (q.1 0 4) ≤ a.2 then
    some (.inr a.1)
  else
  (ix 8 a.2).bind fun i3 =>
  if (sc.1 3 i3) = (0 : Int32) then
    (ix 8 a.2).bind fun i4 =>
    (ix 8 v1).bind fun i5 =>
    (fJM_abs ((sc.1 4 i4) - (sc.1 4 i5))).bind fun r6 =>
    if (q.1 0 1) < r6 then
      some (.inl (a.1, (a.2 + (1 : Int32))))
    else
    bnd ((a.1 ||| (shl (1 : Int32) a.2))) fun x7 =>
    some (.inl (x7, (a.2 + (1 : Int32))))
  else
  some (.inl (a.1, (a.2 + (1 : Int32))))
noncomputable def fSc_thoseWhoCouldAnswer (q : Obj) (sc : Obj) (v1 : Int32) : Option (Int32) :=
  (fQu_hasPerson q v1).bind fun r1 =>
  if r1 = (0 : Int32) then
    some (0 : Int32)
  else
  (ix 8 v1).bind fun i2 =>
  if (sc.1 3 i2) = (1 : Int32) then
    (iter (fSc_thoseWhoCouldAnswer_L27 q sc v1) FU ((0 : Int32), (0 : Int32))).bind fun e8 =>
    if e8 = (0 : Int32) then
      some (0 : Int32)
    else
    (ix 8 v1).bind fun i9 =>
    (fSc_strangersOf q sc (sc.1 6 i9)).bind fun r10 =>
    some (e8 &&& r10)
  else
  some (0 : Int32)
noncomputable def fSc_answererOf_L36 (q : Obj) (sc : Obj) (v1 : Int32) (v3 : Int32) (a : Int32 × Int32 × Int32) : Option ((Int32 × Int32 × Int32) ⊕ (Int32)) :=
  if (8 : Int32) ≤ a.2.2 then
    some (.inr a.1)
  else
  if (q.1 0 4) ≤ a.2.2 then
    some (.inr a.1)
  else
  (ix 8 a.2.2).bind fun i4 =>
  (ix 8 v1).bind fun i5 =>
  (fJM_abs ((sc.1 4 i4) - (sc.1 4 i5))).bind fun r6 =>
  (fKL_hasBit v3 a.2.2).bind fun r7 =>
  if r7 = (0 : Int32) then
    some (.inl (a.1, a.2.1, (a.2.2 + (1 : Int32))))
  else
  if a.1 = (-1 : Int32) then
    some (.inl (a.2.2, r6, (a.2.2 + (1 : Int32))))
  else
  if a.2.1 ≤ r6 then
    some (.inl (a.1, a.2.1, (a.2.2 + (1 : Int32))))
  else
  some (.inl (a.2.2, r6, (a.2.2 + (1 : Int32))))
noncomputable def fSc_answererOf (q : Obj) (sc : Obj) (v1 : Int32) (v2 : Int32) : Option (Int32) :=
  (fSc_thoseWhoCouldAnswer q sc v1).bind fun r1 =>
  bnd ((r1 &&& (v2 ^^^ (-1 : Int32)))) fun x2 =>
  if x2 = (0 : Int32) then
    some (-1 : Int32)
  else
  (fQu_hasPerson q v1).bind fun r3 =>
  if r3 = (0 : Int32) then
    some (-1 : Int32)
  else
  (iter (fSc_answererOf_L36 q sc v1 x2) FU ((-1 : Int32), (0 : Int32), (0 : Int32))).bind fun e8 =>
  some e8
noncomputable def fSc_openDoor_J109 (q : Obj) (sc : Obj) (v1 : Int32) (v3 : Int32) : Option (Obj) :=
  (fSc_makeKnown q sc v1 v3).bind fun r14 =>
  some r14
noncomputable def fSc_openDoor_J89 (q : Obj) (sc : Obj) (v1 : Int32) (v2 : Int32) (v3 : Int32) : Option (Obj) :=
  (ix 8 v2).bind fun i10 =>
  bnd (sI sc 3 i10 (2 : Int32)) fun s11 =>
  (ix 8 v2).bind fun i12 =>
  bnd (sI s11 7 i12 (q.1 0 2)) fun s13 =>
  fSc_openDoor_J109 q s13 v1 v3
noncomputable def fSc_openDoor (q : Obj) (sc : Obj) (v1 : Int32) (v2 : Int32) : Option (Obj) :=
  (fQu_hasPerson q v1).bind fun r1 =>
  if r1 = (0 : Int32) then
    some sc
  else
  (fQu_hasPerson q v2).bind fun r2 =>
  if r2 = (0 : Int32) then
    some sc
  else
  (ix 8 v2).bind fun i3 =>
  (fQu_livingIn q (sc.1 6 i3)).bind fun r4 =>
  bnd (((shl (1 : Int32) v2) ||| r4)) fun x5 =>
  (ix 8 v1).bind fun i6 =>
  (ix 8 v1).bind fun i7 =>
  bnd (sI sc 10 i7 ((sc.1 10 i6) + (1 : Int32))) fun s8 =>
  (fQu_isStern q v1).bind fun r9 =>
  if r9 = (0 : Int32) then
    fSc_openDoor_J89 q s8 v1 v2 x5
  else
  (fSc_doesKnow q s8 v1 v2).bind fun r15 =>
  if r15 = (0 : Int32) then
    fSc_openDoor_J89 q s8 v1 v2 x5
  else
  (fSc_putInLane q s8 v2).bind fun r16 =>
  bnd (sI r16 0 2 ((r16.1 0 2) + (1 : Int32))) fun s17 =>
  fSc_openDoor_J109 q s17 v1 x5
noncomputable def fSc_letTickGo_L15 (q : Obj) (v1 : Int32) (a : Int32 × Obj) : Option ((Int32 × Obj) ⊕ (Obj)) :=
  if v1 ≤ a.1 then
    some (.inr a.2)
  else
  (ix 8 a.1).bind fun i2 =>
  if (a.2.1 3 i2) = (2 : Int32) then
    (fSc_stayOn q a.2 a.1).bind fun r3 =>
    some (.inl ((a.1 + (1 : Int32)), r3))
  else
  some (.inl ((a.1 + (1 : Int32)), a.2))
noncomputable def fSc_letTickGo_L43 (q : Obj) (v1 : Int32) (a : Int32 × Obj) : Option ((Int32 × Obj) ⊕ (Obj)) :=
  if v1 ≤ a.1 then
    some (.inr a.2)
  else
  (ix 8 a.1).bind fun i5 =>
  if (a.2.1 3 i5) = (0 : Int32) then
    (fSc_walkOn q a.2 a.1).bind fun r6 =>
    some (.inl ((a.1 + (1 : Int32)), r6))
  else
  some (.inl ((a.1 + (1 : Int32)), a.2))
noncomputable def fSc_letTickGo_L70 (q : Obj) (v1 : Int32) (a : Int32 × Obj) : Option ((Int32 × Obj) ⊕ (Obj)) :=
  if v1 ≤ a.1 then
    some (.inr a.2)
  else
  (ix 8 a.1).bind fun i8 =>
  if (a.2.1 3 i8) = (0 : Int32) then
    (fSc_callAtDoor q a.2 a.1).bind fun r9 =>
    some (.inl ((a.1 + (1 : Int32)), r9))
  else
  some (.inl ((a.1 + (1 : Int32)), a.2))
noncomputable def fSc_letTickGo_L99 (q : Obj) (v1 : Int32) (a : Int32 × Int32 × Obj) : Option ((Int32 × Int32 × Obj) ⊕ (Obj)) :=
  if v1 ≤ a.2.1 then
    some (.inr a.2.2)
  else
  (ix 8 a.2.1).bind fun i11 =>
  if (a.2.2.1 3 i11) = (1 : Int32) then
    (fSc_answererOf q a.2.2 a.2.1 a.1).bind fun r12 =>
    if r12 = (-1 : Int32) then
      (ix 8 a.2.1).bind fun i13 =>
      (ix 8 a.2.1).bind fun i14 =>
      bnd (sI a.2.2 9 i14 ((a.2.2.1 9 i13) + (1 : Int32))) fun s15 =>
      some (.inl (a.1, (a.2.1 + (1 : Int32)), s15))
    else
    bnd ((a.1 ||| (shl (1 : Int32) r12))) fun x16 =>
    (fSc_openDoor q a.2.2 r12 a.2.1).bind fun r17 =>
    some (.inl (x16, (a.2.1 + (1 : Int32)), r17))
  else
  some (.inl (a.1, (a.2.1 + (1 : Int32)), a.2.2))
noncomputable def fSc_letTickGo (q : Obj) (sc : Obj) : Option (Obj) :=
  (fJM_min (8 : Int32) (q.1 0 4)).bind fun r1 =>
  (iter (fSc_letTickGo_L15 q r1) FU ((0 : Int32), sc)).bind fun e4 =>
  (iter (fSc_letTickGo_L43 q r1) FU ((0 : Int32), e4)).bind fun e7 =>
  (iter (fSc_letTickGo_L70 q r1) FU ((0 : Int32), e7)).bind fun e10 =>
  (iter (fSc_letTickGo_L99 q r1) FU ((0 : Int32), (0 : Int32), e10)).bind fun e18 =>
  bnd (sI e18 0 1 ((e18.1 0 1) + (1 : Int32))) fun s19 =>
  some s19
noncomputable def fSc_letTicksGo_L2 (q : Obj) (v1 : Int32) (a : Int32 × Obj) : Option ((Int32 × Obj) ⊕ (Int32 × Obj)) :=
  if v1 ≤ a.1 then
    some (.inr (a.1, a.2))
  else
  if (1000 : Int32) ≤ (a.2.1 0 1) then
    some (.inr (a.1, a.2))
  else
  (fSc_letTickGo q a.2).bind fun r1 =>
  some (.inl ((a.1 + (1 : Int32)), r1))
noncomputable def fSc_letTicksGo (q : Obj) (sc : Obj) (v1 : Int32) : Option (Int32 × Obj) :=
  (iter (fSc_letTicksGo_L2 q v1) FU ((0 : Int32), sc)).bind fun e2 =>
  some (e2.1, e2.2)
noncomputable def fPa_keepIfAny (X : Nat → Obj) (v1 : Int32) : Option (Int32 × (Nat → Obj)) :=
  if v1 ≤ (0 : Int32) then
    some (v1, X)
  else
  (fPa_keep X).bind fun r1 =>
  some (v1, r1)
noncomputable def fKL_ticks (X : Nat → Obj) (v1 : Int32) : Option (Int32 × (Nat → Obj)) :=
  if v1 < (1 : Int32) then
    some ((-1 : Int32), X)
  else
  if v1 ≤ (60 : Int32) then
    (fPa_note X).bind fun r1 =>
    (fSc_letTicksGo (r1 5) (r1 12) v1).bind fun r2 =>
    bnd (va_up r1 12 r2.2) fun X3 =>
    (fPa_keepIfAny X3 r2.1).bind fun r4 =>
    some (r4.1, r4.2)
  else
  some ((-1 : Int32), X)
noncomputable def fPa_bringBack (X : Nat → Obj) : Option (Int32 × (Nat → Obj)) :=
  (fPa_roomBehind X (((X 100).1 0 2) - (1 : Int32))).bind fun r1 =>
  if r1 < 9 then
    if ((X 100).1 0 2) < (1 : Int32) then
      some ((-1 : Int32), X)
    else
    bnd (va_up X 100 (sI (X 100) 0 2 (((X 100).1 0 2) - (1 : Int32)))) fun X2 =>
    (fSc_copyFrom (X2 (102 + 11 * r1)) (X2 12)).bind fun r3 =>
    bnd (va_up X2 12 r3) fun X4 =>
    some (((X4 100).1 0 2), X4)
  else
  if ((X 100).1 0 2) < (1 : Int32) then
    some ((-1 : Int32), X)
  else
  some ((-1 : Int32), X)
noncomputable def fKL_undo (X : Nat → Obj) : Option (Int32 × (Nat → Obj)) :=
  (fPa_bringBack X).bind fun r1 =>
  some (r1.1, r1.2)
noncomputable def fSc_isKnocking (q : Obj) (sc : Obj) (v1 : Int32) : Option (Int32) :=
  (fQu_hasPerson q v1).bind fun r1 =>
  if r1 = (0 : Int32) then
    some (0 : Int32)
  else
  (ix 8 v1).bind fun i2 =>
  if (sc.1 3 i2) = (1 : Int32) then
    some (1 : Int32)
  else
  some (0 : Int32)
noncomputable def fKL_answer (X : Nat → Obj) (v1 : Int32) : Option (Int32) :=
  (fSc_isKnocking (X 5) (X 12) v1).bind fun r1 =>
  if r1 = (0 : Int32) then
    some (-1 : Int32)
  else
  (fSc_answererOf (X 5) (X 12) v1 (0 : Int32)).bind fun r2 =>
  some r2
noncomputable def fJI_bitCount (v0 : Int32) : Option (Int32) :=
  bnd ((v0 - ((ushr v0 (1 : Int32)) &&& (1431655765 : Int32)))) fun x1 =>
  bnd (((x1 &&& (858993459 : Int32)) + ((ushr x1 (2 : Int32)) &&& (858993459 : Int32)))) fun x2 =>
  bnd (((x2 + (ushr x2 (4 : Int32))) &&& (252645135 : Int32))) fun x3 =>
  bnd ((x3 + (ushr x3 (8 : Int32)))) fun x4 =>
  bnd ((x4 + (ushr x4 (16 : Int32)))) fun x5 =>
  some (x5 &&& (63 : Int32))
noncomputable def fMt_canBeOpen_L4 (mt : Obj) (v1 : Int32) (a : Int32 × Int32) : Option ((Int32 × Int32) ⊕ ((Int32) ⊕ (Int32))) :=
  if (8 : Int32) ≤ a.2 then
    some (.inr (.inl a.1))
  else
  (fKL_hasBit v1 a.2).bind fun r1 =>
  if r1 = (0 : Int32) then
    some (.inl (a.1, (a.2 + (1 : Int32))))
  else
  bnd ((v1 &&& ((shl (1 : Int32) a.2) ^^^ (-1 : Int32)))) fun x2 =>
  if x2 < (0 : Int32) then
    some (.inr (.inr (0 : Int32)))
  else
  if (256 : Int32) ≤ x2 then
    some (.inr (.inr (0 : Int32)))
  else
  (ix 256 x2).bind fun i3 =>
  if (mt.1 1 i3) = (0 : Int32) then
    some (.inr (.inr (0 : Int32)))
  else
  (ix 8 a.2).bind fun i4 =>
  bnd ((a.1 ||| (mt.1 2 i4))) fun x5 =>
  some (.inl (x5, (a.2 + (1 : Int32))))
noncomputable def fMt_canBeOpen (mt : Obj) (v1 : Int32) : Option (Int32) :=
  (iter (fMt_canBeOpen_L4 mt v1) FU ((0 : Int32), (0 : Int32))).bind fun z => Sum.elim (fun e6 =>
    (fJI_bitCount e6).bind fun r7 =>
    (fJI_bitCount v1).bind fun r8 =>
    if r7 < r8 then
      some (0 : Int32)
    else
    some (1 : Int32))
    (fun r9 => some r9) z
noncomputable def fMt_greatestSet_L2 (q : Obj) (sc : Obj) (a : Int32 × Obj) : Option ((Int32 × Obj) ⊕ (Obj)) :=
  if (8 : Int32) ≤ a.1 then
    some (.inr a.2)
  else
  (fSc_thoseWhoCouldAnswer q sc a.1).bind fun r1 =>
  (ix 8 a.1).bind fun i2 =>
  bnd (sI a.2 2 i2 r1) fun s3 =>
  some (.inl ((a.1 + (1 : Int32)), s3))
noncomputable def fMt_greatestSet_L36 (a : Int32 × Int32 × Obj) : Option ((Int32 × Int32 × Obj) ⊕ (Int32 × Obj)) :=
  if (256 : Int32) ≤ a.2.1 then
    some (.inr (a.1, a.2.2))
  else
  (fMt_canBeOpen a.2.2 a.2.1).bind fun r6 =>
  (ix 256 a.2.1).bind fun i7 =>
  bnd (sI a.2.2 1 i7 (bz r6)) fun s8 =>
  (ix 256 a.2.1).bind fun i9 =>
  if (s8.1 1 i9) = (0 : Int32) then
    some (.inl (a.1, (a.2.1 + (1 : Int32)), s8))
  else
  (fJI_bitCount a.2.1).bind fun r10 =>
  (fJI_bitCount a.1).bind fun r11 =>
  if r10 ≤ r11 then
    some (.inl (a.1, (a.2.1 + (1 : Int32)), s8))
  else
  some (.inl (a.2.1, (a.2.1 + (1 : Int32)), s8))
noncomputable def fMt_greatestSet (q : Obj) (sc : Obj) (mt : Obj) : Option (Int32 × Obj) :=
  (iter (fMt_greatestSet_L2 q sc) FU ((0 : Int32), mt)).bind fun e4 =>
  bnd (sI e4 1 0 (1 : Int32)) fun s5 =>
  (iter (fMt_greatestSet_L36) FU ((0 : Int32), (1 : Int32), s5)).bind fun e12 =>
  some (e12.1, e12.2)
noncomputable def fKL_most (X : Nat → Obj) : Option (Int32 × (Nat → Obj)) :=
  (fMt_greatestSet (X 5) (X 12) (X 217)).bind fun r1 =>
  bnd (va_up X 217 r1.2) fun X2 =>
  bnd (va_up X2 0 (sI (X2 0) 0 13 r1.1)) fun X3 =>
  (fJI_bitCount ((X3 0).1 0 13)).bind fun r4 =>
  some (r4, X3)
noncomputable def fKL_those (X : Nat → Obj) : Option (Int32) :=
  some ((X 0).1 0 13)
noncomputable def fSc_knownTo (q : Obj) (sc : Obj) (v1 : Int32) : Option (Int32) :=
  (fQu_hasPerson q v1).bind fun r1 =>
  if r1 = (0 : Int32) then
    some (0 : Int32)
  else
  (ix 8 v1).bind fun i2 =>
  some (sc.1 8 i2)
noncomputable def fCh_knownToAny_L4 (q : Obj) (sc : Obj) (v1 : Int32) (a : Int32 × Int32) : Option ((Int32 × Int32) ⊕ (Int32)) :=
  if (8 : Int32) ≤ a.2 then
    some (.inr a.1)
  else
  (fKL_hasBit v1 a.2).bind fun r1 =>
  if r1 = (0 : Int32) then
    some (.inl (a.1, (a.2 + (1 : Int32))))
  else
  (fSc_knownTo q sc a.2).bind fun r2 =>
  bnd ((a.1 ||| r2)) fun x3 =>
  some (.inl (x3, (a.2 + (1 : Int32))))
noncomputable def fCh_knownToAny (q : Obj) (sc : Obj) (v1 : Int32) : Option (Int32) :=
  (iter (fCh_knownToAny_L4 q sc v1) FU ((0 : Int32), (0 : Int32))).bind fun e4 =>
  some e4
noncomputable def fKL_bitInOrder_L4 (v0 : Int32) (v1 : Int32) (a : Int32 × Int32) : Option ((Int32 × Int32) ⊕ ((Unit) ⊕ (Int32))) :=
  if (8 : Int32) ≤ a.2 then
    some (.inr (.inl ()))
  else
  (fKL_hasBit v0 a.2).bind fun r1 =>
  if r1 = (0 : Int32) then
    some (.inl (a.1, (a.2 + (1 : Int32))))
  else
  if a.1 = v1 then
    some (.inr (.inr a.2))
  else
  some (.inl ((a.1 + (1 : Int32)), (a.2 + (1 : Int32))))
noncomputable def fKL_bitInOrder (v0 : Int32) (v1 : Int32) : Option (Int32) :=
  (iter (fKL_bitInOrder_L4 v0 v1) FU ((0 : Int32), (0 : Int32))).bind fun z => Sum.elim (fun _ =>
    some (-1 : Int32))
    (fun r3 => some r3) z
noncomputable def fCh_walk_L17 (q : Obj) (sc : Obj) (a : Int32 × Obj) : Option ((Int32 × Obj) ⊕ (Obj)) :=
  if a.1 < (0 : Int32) then
    some (.inr a.2)
  else
  if (8 : Int32) ≤ a.1 then
    some (.inr a.2)
  else
  if (8 : Int32) ≤ (a.2.1 0 2) then
    some (.inr a.2)
  else
  (ix 8 ((a.2.1 0 2) - (1 : Int32))).bind fun i4 =>
  (fSc_knownTo q sc (a.2.1 1 i4)).bind fun r5 =>
  (ix 8 a.1).bind fun i6 =>
  (fKL_bitInOrder (r5 &&& (a.2.1 2 i6)) (0 : Int32)).bind fun r7 =>
  (ix 8 (a.2.1 0 2)).bind fun i8 =>
  bnd (sI a.2 1 i8 r7) fun s9 =>
  bnd (sI s9 0 2 ((s9.1 0 2) + (1 : Int32))) fun s10 =>
  some (.inl ((a.1 + (-1 : Int32)), s10))
noncomputable def fCh_walk (q : Obj) (sc : Obj) (ch : Obj) (v2 : Int32) (v3 : Int32) : Option (Obj) :=
  bnd (sI ch 1 0 v2) fun s1 =>
  bnd (sI s1 0 2 (1 : Int32)) fun s2 =>
  bnd ((v3 - (1 : Int32))) fun x3 =>
  (iter (fCh_walk_L17 q sc) FU (x3, s2)).bind fun e11 =>
  some e11
noncomputable def fCh_find_L12 (q : Obj) (sc : Obj) (v2 : Int32) (a : Int32 × Obj) : Option ((Int32 × Obj) ⊕ (Int32 × Obj)) :=
  if (8 : Int32) ≤ (a.1 + (1 : Int32)) then
    some (.inr (a.1, a.2))
  else
  (ix 8 a.1).bind fun i2 =>
  (fKL_hasBit (a.2.1 2 i2) v2).bind fun r3 =>
  if r3 = (0 : Int32) then
    (ix 8 ((a.1 + (1 : Int32)) - (1 : Int32))).bind fun i4 =>
    (fCh_knownToAny q sc (a.2.1 2 i4)).bind fun r5 =>
    (ix 8 (a.1 + (1 : Int32))).bind fun i6 =>
    bnd (sI a.2 2 i6 r5) fun s7 =>
    some (.inl ((a.1 + (1 : Int32)), s7))
  else
  some (.inr (a.1, a.2))
noncomputable def fCh_find (q : Obj) (sc : Obj) (ch : Obj) (v2 : Int32) (v3 : Int32) : Option (Int32 × Obj) :=
  bnd (sI ch 2 0 (shl (1 : Int32) v3)) fun s1 =>
  (iter (fCh_find_L12 q sc v2) FU ((0 : Int32), s1)).bind fun e8 =>
  (ix 8 e8.1).bind fun i9 =>
  (fKL_hasBit (e8.2.1 2 i9) v2).bind fun r10 =>
  if r10 = (0 : Int32) then
    some ((-1 : Int32), e8.2)
  else
  (fCh_walk q sc e8.2 v2 e8.1).bind fun r11 =>
  some (e8.1, r11)
noncomputable def fKL_chain (X : Nat → Obj) (v1 : Int32) (v2 : Int32) : Option (Int32 × (Nat → Obj)) :=
  (fQu_hasPerson (X 5) v1).bind fun r1 =>
  if r1 = (0 : Int32) then
    some ((-1 : Int32), X)
  else
  (fQu_hasPerson (X 5) v2).bind fun r2 =>
  if r2 = (0 : Int32) then
    some ((-1 : Int32), X)
  else
  (fCh_find (X 5) (X 12) (X 220) v1 v2).bind fun r3 =>
  bnd (va_up X 220 r3.2) fun X4 =>
  some (r3.1, X4)
noncomputable def fCh_personAt (ch : Obj) (v1 : Int32) : Option (Int32) :=
  if v1 < (0 : Int32) then
    some (-1 : Int32)
  else
  if (ch.1 0 2) ≤ v1 then
    some (-1 : Int32)
  else
  if (8 : Int32) ≤ v1 then
    some (-1 : Int32)
  else
  (ix 8 v1).bind fun i1 =>
  some (ch.1 1 i1)
noncomputable def fKL_chainAt (X : Nat → Obj) (v1 : Int32) : Option (Int32) :=
  (fCh_personAt (X 220) v1).bind fun r1 =>
  some r1
noncomputable def fSc_whomJustTheseKnow_L13 (q : Obj) (sc : Obj) (v1 : Int32) (v2 : Int32) (a : Int32 × Int32) : Option ((Int32 × Int32) ⊕ (Int32)) :=
  if (8 : Int32) ≤ a.2 then
    some (.inr a.1)
  else
  if (q.1 0 4) ≤ a.2 then
    some (.inr a.1)
  else
  (fKL_hasBit (v1 ||| v2) a.2).bind fun r1 =>
  if r1 = (0 : Int32) then
    (ix 8 a.2).bind fun i2 =>
    if ((sc.1 8 i2) &&& (v1 ||| v2)) = v1 then
      bnd ((a.1 ||| (shl (1 : Int32) a.2))) fun x3 =>
      some (.inl (x3, (a.2 + (1 : Int32))))
    else
    some (.inl (a.1, (a.2 + (1 : Int32))))
  else
  some (.inl (a.1, (a.2 + (1 : Int32))))
noncomputable def fSc_whomJustTheseKnow (q : Obj) (sc : Obj) (v1 : Int32) (v2 : Int32) : Option (Int32) :=
  if (v1 &&& v2) = (0 : Int32) then
    (iter (fSc_whomJustTheseKnow_L13 q sc v1 v2) FU ((0 : Int32), (0 : Int32))).bind fun e4 =>
    some e4
  else
  some (0 : Int32)
noncomputable def fKL_whoByPairs_L43 (X : Nat → Obj) (a : Int32 × Int32 × Int32) : Option ((Int32 × Int32 × Int32) ⊕ ((Int32 × Int32) ⊕ (Int32))) :=
  if ((X 1).1 0 1) ≤ a.2.2 then
    some (.inr (.inl (a.1, a.2.1)))
  else
  (fTa_byteOf (X 1) a.2.2).bind fun r1 =>
  (fTa_byteOf (X 1) (a.2.2 + (1 : Int32))).bind fun r2 =>
  (fQu_hasPerson (X 5) r1).bind fun r3 =>
  if r3 = (0 : Int32) then
    some (.inr (.inr (-1 : Int32)))
  else
  if r2 < (0 : Int32) then
    some (.inr (.inr (-1 : Int32)))
  else
  if r2 ≤ (1 : Int32) then
    if r2 = (1 : Int32) then
      bnd ((a.1 ||| (shl (1 : Int32) r1))) fun x4 =>
      some (.inl (x4, a.2.1, (a.2.2 + (2 : Int32))))
    else
    bnd ((a.2.1 ||| (shl (1 : Int32) r1))) fun x5 =>
    some (.inl (a.1, x5, (a.2.2 + (2 : Int32))))
  else
  some (.inr (.inr (-1 : Int32)))
noncomputable def fKL_whoByPairs (X : Nat → Obj) : Option (Int32) :=
  if ((X 1).1 0 1) < (2 : Int32) then
    some (-1 : Int32)
  else
  if (12 : Int32) < ((X 1).1 0 1) then
    some (-1 : Int32)
  else
  if (irm ((X 1).1 0 1) (2 : Int32)) = (0 : Int32) then
    (iter (fKL_whoByPairs_L43 X) FU ((0 : Int32), (0 : Int32), (0 : Int32))).bind fun z => Sum.elim (fun e6 =>
      (fSc_whomJustTheseKnow (X 5) (X 12) e6.1 e6.2).bind fun r7 =>
      some r7)
      (fun r8 => some r8) z
  else
  some (-1 : Int32)
noncomputable def fJM_max (v0 : Int32) (v1 : Int32) : Option (Int32) :=
  if v0 < v1 then
    some v1
  else
  some v0
noncomputable def fSc_bestToAsk_L7 (q : Obj) (sc : Obj) (v1 : Int32) (a : Int32 × Int32 × Int32) : Option ((Int32 × Int32 × Int32) ⊕ (Int32)) :=
  if (8 : Int32) ≤ a.2.2 then
    some (.inr a.1)
  else
  if (q.1 0 4) ≤ a.2.2 then
    some (.inr a.1)
  else
  bnd ((v1 &&& (shl (1 : Int32) a.2.2))) fun x1 =>
  (ix 8 a.2.2).bind fun i2 =>
  (fJI_bitCount (v1 &&& (sc.1 8 i2))).bind fun r3 =>
  (ix 8 a.2.2).bind fun i4 =>
  (fJI_bitCount ((v1 &&& ((sc.1 8 i4) ^^^ (-1 : Int32))) &&& (x1 ^^^ (-1 : Int32)))).bind fun r5 =>
  (fJM_max r3 r5).bind fun r6 =>
  (fJI_bitCount x1).bind fun r7 =>
  (fJM_max r6 r7).bind fun r8 =>
  if a.1 = (-1 : Int32) then
    some (.inl (a.2.2, r8, (a.2.2 + (1 : Int32))))
  else
  if a.2.1 ≤ r8 then
    some (.inl (a.1, a.2.1, (a.2.2 + (1 : Int32))))
  else
  some (.inl (a.2.2, r8, (a.2.2 + (1 : Int32))))
noncomputable def fSc_bestToAsk (q : Obj) (sc : Obj) (v1 : Int32) : Option (Int32) :=
  (iter (fSc_bestToAsk_L7 q sc v1) FU ((-1 : Int32), (0 : Int32), (0 : Int32))).bind fun e9 =>
  some e9
noncomputable def fKL_who (X : Nat → Obj) : Option (Int32 × (Nat → Obj)) :=
  (fKL_whoByPairs X).bind fun r1 =>
  bnd (va_up X 1 (sI (X 1) 0 1 (0 : Int32))) fun X2 =>
  if r1 ≤ (0 : Int32) then
    some (r1, X2)
  else
  (fSc_bestToAsk (X2 5) (X2 12) r1).bind fun r3 =>
  bnd (va_up X2 0 (sI (X2 0) 0 14 r3)) fun X4 =>
  some (r1, X4)
noncomputable def fKL_ask (X : Nat → Obj) : Option (Int32) :=
  some ((X 0).1 0 14)
noncomputable def fSc_isInside (q : Obj) (sc : Obj) (v1 : Int32) : Option (Int32) :=
  (fQu_hasPerson q v1).bind fun r1 =>
  if r1 = (0 : Int32) then
    some (0 : Int32)
  else
  (ix 8 v1).bind fun i2 =>
  if (sc.1 3 i2) = (2 : Int32) then
    some (1 : Int32)
  else
  some (0 : Int32)
noncomputable def fKL_opens_L32 (v1 : Int32) (a : Int32 × (Nat → Obj)) : Option ((Int32 × (Nat → Obj)) ⊕ (((Nat → Obj)) ⊕ (Int32 × (Nat → Obj)))) :=
  if (300 : Int32) < a.1 then
    some (.inr (.inl a.2))
  else
  (fSc_isKnocking (a.2 5) (a.2 201) v1).bind fun r4 =>
  if r4 = (0 : Int32) then
    some (.inr (.inl a.2))
  else
  (fSc_letTickGo (a.2 5) (a.2 201)).bind fun r5 =>
  bnd (va_up a.2 201 r5) fun X6 =>
  (fSc_isInside (X6 5) (X6 201) v1).bind fun r7 =>
  if r7 = (0 : Int32) then
    some (.inl ((a.1 + (1 : Int32)), X6))
  else
  some (.inr (.inr (a.1, X6)))
noncomputable def fKL_opens (X : Nat → Obj) (v1 : Int32) : Option (Int32 × (Nat → Obj)) :=
  (fSc_isKnocking (X 5) (X 12) v1).bind fun r1 =>
  if r1 = (0 : Int32) then
    some ((-1 : Int32), X)
  else
  (fSc_copyFrom (X 12) (X 201)).bind fun r2 =>
  bnd (va_up X 201 r2) fun X3 =>
  (iter (fKL_opens_L32 v1) FU ((1 : Int32), X3)).bind fun z => Sum.elim (fun e8 =>
    some ((-1 : Int32), e8))
    (fun r9 => some r9) z
noncomputable def fKL_known_L16 (a : Int32 × (Nat → Obj)) : Option ((Int32 × (Nat → Obj)) ⊕ (((Nat → Obj)) ⊕ (Int32 × (Nat → Obj)))) :=
  if (300 : Int32) < a.1 then
    some (.inr (.inl a.2))
  else
  (fSc_housesWithStrangers (a.2 5) (a.2 201)).bind fun r3 =>
  if r3 = (0 : Int32) then
    some (.inr (.inr (a.1, a.2)))
  else
  (fSc_letTickGo (a.2 5) (a.2 201)).bind fun r4 =>
  bnd (va_up a.2 201 r4) fun X5 =>
  some (.inl ((a.1 + (1 : Int32)), X5))
noncomputable def fKL_known (X : Nat → Obj) : Option (Int32 × (Nat → Obj)) :=
  (fSc_copyFrom (X 12) (X 201)).bind fun r1 =>
  bnd (va_up X 201 r1) fun X2 =>
  (iter (fKL_known_L16) FU ((0 : Int32), X2)).bind fun z => Sum.elim (fun e6 =>
    some ((-1 : Int32), e6))
    (fun r7 => some r7) z
noncomputable def fSc_isInLane (q : Obj) (sc : Obj) (v1 : Int32) : Option (Int32) :=
  (fQu_hasPerson q v1).bind fun r1 =>
  if r1 = (0 : Int32) then
    some (0 : Int32)
  else
  (ix 8 v1).bind fun i2 =>
  if (sc.1 3 i2) = (0 : Int32) then
    some (1 : Int32)
  else
  some (0 : Int32)
noncomputable def fSc_areTogether (q : Obj) (sc : Obj) (v1 : Int32) (v2 : Int32) : Option (Int32) :=
  (fSc_isInLane q sc v1).bind fun r1 =>
  if r1 = (0 : Int32) then
    some (0 : Int32)
  else
  (fSc_isInLane q sc v2).bind fun r2 =>
  if r2 = (0 : Int32) then
    some (0 : Int32)
  else
  (ix 8 v1).bind fun i3 =>
  (ix 8 v2).bind fun i4 =>
  if (sc.1 4 i3) = (sc.1 4 i4) then
    some (1 : Int32)
  else
  some (0 : Int32)
noncomputable def fKL_meet_L51 (v1 : Int32) (v2 : Int32) (a : Int32 × (Nat → Obj)) : Option ((Int32 × (Nat → Obj)) ⊕ (((Nat → Obj)) ⊕ (Int32 × (Nat → Obj)))) :=
  if (300 : Int32) < a.1 then
    some (.inr (.inl a.2))
  else
  (fSc_areTogether (a.2 5) (a.2 201) v1 v2).bind fun r5 =>
  if r5 = (0 : Int32) then
    (fSc_letTickGo (a.2 5) (a.2 201)).bind fun r6 =>
    bnd (va_up a.2 201 r6) fun X7 =>
    some (.inl ((a.1 + (1 : Int32)), X7))
  else
  some (.inr (.inr (a.1, a.2)))
noncomputable def fKL_meet (X : Nat → Obj) (v1 : Int32) (v2 : Int32) : Option (Int32 × (Nat → Obj)) :=
  if v1 = v2 then
    some ((-1 : Int32), X)
  else
  (fQu_hasPerson (X 5) v1).bind fun r1 =>
  if r1 = (0 : Int32) then
    some ((-1 : Int32), X)
  else
  (fQu_hasPerson (X 5) v2).bind fun r2 =>
  if r2 = (0 : Int32) then
    some ((-1 : Int32), X)
  else
  (fSc_copyFrom (X 12) (X 201)).bind fun r3 =>
  bnd (va_up X 201 r3) fun X4 =>
  (iter (fKL_meet_L51 v1 v2) FU ((0 : Int32), X4)).bind fun z => Sum.elim (fun e8 =>
    some ((-1 : Int32), e8))
    (fun r9 => some r9) z
noncomputable def fSc_whoOpenedMost_L6 (q : Obj) (sc : Obj) (a : Int32 × Int32 × Int32) : Option ((Int32 × Int32 × Int32) ⊕ (Int32)) :=
  if (8 : Int32) ≤ a.2.2 then
    some (.inr a.1)
  else
  if (q.1 0 4) ≤ a.2.2 then
    some (.inr a.1)
  else
  (ix 8 a.2.2).bind fun i1 =>
  if (sc.1 10 i1) ≤ a.2.1 then
    some (.inl (a.1, a.2.1, (a.2.2 + (1 : Int32))))
  else
  (ix 8 a.2.2).bind fun i2 =>
  bnd ((sc.1 10 i2)) fun x3 =>
  some (.inl (a.2.2, x3, (a.2.2 + (1 : Int32))))
noncomputable def fSc_whoOpenedMost (q : Obj) (sc : Obj) : Option (Int32) :=
  (iter (fSc_whoOpenedMost_L6 q sc) FU ((-1 : Int32), (0 : Int32), (0 : Int32))).bind fun e4 =>
  some e4
noncomputable def fKL_busiest (X : Nat → Obj) : Option (Int32) :=
  (fSc_whoOpenedMost (X 5) (X 12)).bind fun r1 =>
  some r1
noncomputable def fSc_knownInAll_L4 (q : Obj) (sc : Obj) (a : Int32 × Int32) : Option ((Int32 × Int32) ⊕ (Int32)) :=
  if (8 : Int32) ≤ a.2 then
    some (.inr a.1)
  else
  if (q.1 0 4) ≤ a.2 then
    some (.inr a.1)
  else
  (ix 8 a.2).bind fun i1 =>
  (fJI_bitCount (sc.1 8 i1)).bind fun r2 =>
  bnd ((a.1 + r2)) fun x3 =>
  some (.inl (x3, (a.2 + (1 : Int32))))
noncomputable def fSc_knownInAll (q : Obj) (sc : Obj) : Option (Int32) :=
  (iter (fSc_knownInAll_L4 q sc) FU ((0 : Int32), (0 : Int32))).bind fun e4 =>
  some e4
noncomputable def fKL_commonDivisor_L2 (v0 : Int32) (v1 : Int32) (a : Int32) : Option ((Int32) ⊕ ((Unit) ⊕ (Int32))) :=
  if a ≤ (1 : Int32) then
    some (.inr (.inl ()))
  else
  (nz a).bind fun _ =>
  if (irm v0 a) = (0 : Int32) then
    (nz a).bind fun _ =>
    if (irm v1 a) = (0 : Int32) then
      some (.inr (.inr a))
    else
    some (.inl (a + (-1 : Int32)))
  else
  some (.inl (a + (-1 : Int32)))
noncomputable def fKL_commonDivisor (v0 : Int32) (v1 : Int32) : Option (Int32) :=
  (iter (fKL_commonDivisor_L2 v0 v1) FU v1).bind fun z => Sum.elim (fun _ =>
    some (1 : Int32))
    (fun r2 => some r2) z
noncomputable def fKL_mean (X : Nat → Obj) (v1 : Int32) : Option (Int32 ⊕ Unit) :=
  bnd (((X 5).1 0 4)) fun x1 =>
  if x1 < (1 : Int32) then
    some (.inr ())
  else
  if v1 < (0 : Int32) then
    some (.inr ())
  else
  if v1 ≤ (1 : Int32) then
    (fSc_knownInAll (X 5) (X 12)).bind fun r2 =>
    (fKL_commonDivisor r2 x1).bind fun r3 =>
    if (1 : Int32) ≤ r3 then
      if v1 = (0 : Int32) then
        (nz r3).bind fun _ =>
        some (.inl (r2 / r3))
      else
      (nz r3).bind fun _ =>
      some (.inl (x1 / r3))
    else
    some (.inl (-1 : Int32))
  else
  some (.inr ())
noncomputable def fQu_nameOfPerson (q : Obj) (v1 : Int32) : Option (Int64) :=
  (fQu_hasPerson q v1).bind fun r1 =>
  if r1 = (0 : Int32) then
    some (0 : Int64)
  else
  (ix 8 v1).bind fun i2 =>
  some (q.2 6 i2)
noncomputable def fLa_add (la : Obj) (v1 : Int32) : Option (Obj) :=
  if (32 : Int32) ≤ (la.1 0 0) then
    some la
  else
  (ix 32 (la.1 0 0)).bind fun i1 =>
  bnd (sI la 1 i1 (i2b (i2b v1))) fun s2 =>
  bnd (sI s2 0 0 ((s2.1 0 0) + (1 : Int32))) fun s3 =>
  some s3
noncomputable def fLa_addWord_L3 (v1 : Int64) (a : Int32 × Obj) : Option ((Int32 × Obj) ⊕ (Obj)) :=
  if a.1 < (0 : Int32) then
    some (.inr a.2)
  else
  bnd (((l2i (lshr v1 a.1)) &&& (31 : Int32))) fun x1 =>
  if x1 = (0 : Int32) then
    some (.inl ((a.1 + (-5 : Int32)), a.2))
  else
  (fLa_add a.2 (x1 + (96 : Int32))).bind fun r2 =>
  some (.inl ((a.1 + (-5 : Int32)), r2))
noncomputable def fLa_addWord (la : Obj) (v1 : Int64) : Option (Obj) :=
  (iter (fLa_addWord_L3 v1) FU ((35 : Int32), la)).bind fun e3 =>
  some e3
noncomputable def fLa_addText_L2 (v1 : Nat) (a : Int32 × Obj) : Option ((Int32 × Obj) ⊕ (Obj)) :=
  if (strLen v1) ≤ a.1 then
    some (.inr a.2)
  else
  (strAt v1 a.1).bind fun c1 =>
  (fLa_add a.2 c1).bind fun r2 =>
  some (.inl ((a.1 + (1 : Int32)), r2))
noncomputable def fLa_addText (la : Obj) (v1 : Nat) : Option (Obj) :=
  (iter (fLa_addText_L2 v1) FU ((0 : Int32), la)).bind fun e3 =>
  some e3
noncomputable def fLa_addDigits_J17 (la : Obj) (v1 : Int32) : Option (Obj) :=
  (fLa_add la ((48 : Int32) + (irm v1 (10 : Int32)))).bind fun r1 =>
  some r1
noncomputable def fLa_addDigits (la : Obj) (v1 : Int32) : Option (Obj) :=
  if v1 < (10 : Int32) then
    fLa_addDigits_J17 la v1
  else
  (fLa_add la ((48 : Int32) + (v1 / (10 : Int32)))).bind fun r2 =>
  fLa_addDigits_J17 r2 v1
noncomputable def fLa_addWay (ta : Obj) (la : Obj) (v1 : Int32) : Option (Obj) :=
  if v1 < (0 : Int32) then
    some la
  else
  if (29 : Int32) ≤ v1 then
    some la
  else
  (ix 29 v1).bind fun i1 =>
  (fLa_addWord la (ta.2 1 i1)).bind fun r2 =>
  some r2
noncomputable def fQu_nameOfHouse (q : Obj) (v1 : Int32) : Option (Int64) :=
  (fQu_hasHouse q v1).bind fun r1 =>
  if r1 = (0 : Int32) then
    some (0 : Int64)
  else
  (ix 6 v1).bind fun i2 =>
  some (q.2 3 i2)
noncomputable def fLa_write (q : Obj) (ta : Obj) (sc : Obj) (la : Obj) (v2 : Int32) : Option (Obj) :=
  bnd (sI la 0 0 (0 : Int32)) fun s1 =>
  (fQu_nameOfPerson q v2).bind fun r2 =>
  (fLa_addWord s1 r2).bind fun r3 =>
  (fSc_isInLane q sc v2).bind fun r4 =>
  if r4 = (0 : Int32) then
    (fSc_isKnocking q sc v2).bind fun r5 =>
    if r5 = (0 : Int32) then
      (fLa_addText r3 6).bind fun r6 =>
      (fSc_detail q sc v2 (3 : Int32)).bind fun r7 =>
      (fQu_nameOfHouse q r7).bind fun r8 =>
      (fLa_addWord r6 r8).bind fun r9 =>
      some r9
    else
    (fLa_addText r3 5).bind fun r10 =>
    (fSc_detail q sc v2 (3 : Int32)).bind fun r11 =>
    (fQu_nameOfHouse q r11).bind fun r12 =>
    (fLa_addWord r10 r12).bind fun r13 =>
    some r13
  else
  (fLa_addText r3 3).bind fun r14 =>
  (fSc_detail q sc v2 (1 : Int32)).bind fun r15 =>
  (fLa_addDigits r14 r15).bind fun r16 =>
  (fLa_addText r16 4).bind fun r17 =>
  (fSc_detail q sc v2 (2 : Int32)).bind fun r18 =>
  (fLa_addWay ta r17 ((8 : Int32) + r18)).bind fun r19 =>
  some r19
noncomputable def fKL_tag (X : Nat → Obj) (v1 : Int32) : Option (Int32 × (Nat → Obj)) :=
  (fQu_hasPerson (X 5) v1).bind fun r1 =>
  if r1 = (0 : Int32) then
    some ((-1 : Int32), X)
  else
  (fLa_write (X 5) (X 1) (X 12) (X 223) v1).bind fun r2 =>
  bnd (va_up X 223 r2) fun X3 =>
  some (((X3 223).1 0 0), X3)
noncomputable def fLa_signAt (la : Obj) (v1 : Int32) : Option (Int32) :=
  if v1 < (0 : Int32) then
    some (-1 : Int32)
  else
  if (la.1 0 0) ≤ v1 then
    some (-1 : Int32)
  else
  if (32 : Int32) ≤ v1 then
    some (-1 : Int32)
  else
  (ix 32 v1).bind fun i1 =>
  some ((la.1 1 i1) &&& (255 : Int32))
noncomputable def fKL_byteAt (X : Nat → Obj) (v1 : Int32) : Option (Int32) :=
  (fLa_signAt (X 223) v1).bind fun r1 =>
  some r1
noncomputable def fSc_draw (sc : Obj) (v1 : Int32) : Option (Int32 × Obj) :=
  bnd (sI sc 0 14 (((sc.1 0 14) * (1103515245 : Int32)) + (12345 : Int32))) fun s1 =>
  if v1 ≤ (0 : Int32) then
    some ((0 : Int32), s1)
  else
  (nz v1).bind fun _ =>
  some ((irm (ushr (s1.1 0 14) (8 : Int32)) v1), s1)
noncomputable def fSc_actByDraw (q : Obj) (sc : Obj) (v1 : Int32) : Option (Obj) :=
  (fSc_draw sc (8 : Int32)).bind fun r1 =>
  if r1.1 = (0 : Int32) then
    if (q.1 0 3) ≤ (0 : Int32) then
      some r1.2
    else
    (fSc_draw r1.2 (q.1 0 3)).bind fun r2 =>
    (fSc_tryKnock q r2.2 v1 r2.1).bind fun r3 =>
    some r3.2
  else
  if r1.1 = (1 : Int32) then
    (fSc_draw r1.2 (3 : Int32)).bind fun r4 =>
    (fSc_tryGo q r4.2 v1 r4.1).bind fun r5 =>
    some r5.2
  else
  if r1.1 = (2 : Int32) then
    if (q.1 0 3) ≤ (0 : Int32) then
      some r1.2
    else
    (fSc_draw r1.2 (q.1 0 3)).bind fun r6 =>
    (fSc_tryCall q r6.2 v1 r6.1).bind fun r7 =>
    some r7.2
  else
  if r1.1 = (3 : Int32) then
    (fSc_tryQuit q r1.2 v1).bind fun r8 =>
    some r8.2
  else
  some r1.2
noncomputable def fSc_letDrawnTicksGo_L25 (q : Obj) (a : Int32 × Obj) : Option ((Int32 × Obj) ⊕ (Obj)) :=
  if (q.1 0 4) ≤ a.1 then
    some (.inr a.2)
  else
  (fSc_actByDraw q a.2 a.1).bind fun r2 =>
  some (.inl ((a.1 + (1 : Int32)), r2))
noncomputable def fSc_letDrawnTicksGo_L7 (q : Obj) (v1 : Int32) (a : Int32 × Obj) : Option ((Int32 × Obj) ⊕ (Int32 × Obj)) :=
  if v1 ≤ a.1 then
    some (.inr (a.1, a.2))
  else
  if (1000 : Int32) ≤ (a.2.1 0 1) then
    some (.inr (a.1, a.2))
  else
  (iter (fSc_letDrawnTicksGo_L25 q) FU ((0 : Int32), a.2)).bind fun e3 =>
  (fSc_letTickGo q e3).bind fun r4 =>
  some (.inl ((a.1 + (1 : Int32)), r4))
noncomputable def fSc_letDrawnTicksGo (q : Obj) (sc : Obj) (v1 : Int32) (v2 : Int32) : Option (Int32 × Obj) :=
  bnd (sI sc 0 14 v2) fun s1 =>
  (iter (fSc_letDrawnTicksGo_L7 q v1) FU ((0 : Int32), s1)).bind fun e5 =>
  some (e5.1, e5.2)
noncomputable def fKL_drawn (X : Nat → Obj) (v1 : Int32) (v2 : Int32) : Option (Int32 × (Nat → Obj)) :=
  if v1 < (1 : Int32) then
    some ((-1 : Int32), X)
  else
  if v1 ≤ (60 : Int32) then
    (fPa_note X).bind fun r1 =>
    (fSc_letDrawnTicksGo (r1 5) (r1 12) v1 v2).bind fun r2 =>
    bnd (va_up r1 12 r2.2) fun X3 =>
    (fPa_keepIfAny X3 r2.1).bind fun r4 =>
    some (r4.1, r4.2)
  else
  some ((-1 : Int32), X)
noncomputable def fKL_odds_L33 (v1 : Int32) (v2 : Int32) (v3 : Int32) (a : Int32 × Int32 × (Nat → Obj)) : Option ((Int32 × Int32 × (Nat → Obj)) ⊕ (Int32 × (Nat → Obj))) :=
  if v2 ≤ a.2.1 then
    some (.inr (a.1, a.2.2))
  else
  (fSc_copyFrom (a.2.2 12) (a.2.2 201)).bind fun r2 =>
  bnd (va_up a.2.2 201 r2) fun X3 =>
  (fSc_letDrawnTicksGo (X3 5) (X3 201) (20 : Int32) (v3 + a.2.1)).bind fun r4 =>
  bnd (va_up X3 201 r4.2) fun X5 =>
  (fSc_isInside (X5 5) (X5 201) v1).bind fun r6 =>
  if r6 = (0 : Int32) then
    some (.inl (a.1, (a.2.1 + (1 : Int32)), X5))
  else
  some (.inl ((a.1 + (1 : Int32)), (a.2.1 + (1 : Int32)), X5))
noncomputable def fKL_odds (X : Nat → Obj) (v1 : Int32) (v2 : Int32) (v3 : Int32) : Option (Int32 × (Nat → Obj)) :=
  (fQu_hasPerson (X 5) v1).bind fun r1 =>
  if r1 = (0 : Int32) then
    some ((-1 : Int32), X)
  else
  if v2 < (1 : Int32) then
    some ((-1 : Int32), X)
  else
  if v2 ≤ (30 : Int32) then
    (iter (fKL_odds_L33 v1 v2 v3) FU ((0 : Int32), (0 : Int32), X)).bind fun e7 =>
    some (e7.1, e7.2)
  else
  some ((-1 : Int32), X)
noncomputable def fBk_add (bk : Obj) (v1 : Int32) (v2 : Int32) (v3 : Int32) : Option (Obj) :=
  if (40 : Int32) ≤ (bk.1 0 7) then
    some bk
  else
  (ix 40 (bk.1 0 7)).bind fun i1 =>
  bnd (sI bk 1 i1 v1) fun s2 =>
  (ix 40 (s2.1 0 7)).bind fun i3 =>
  bnd (sI s2 2 i3 v2) fun s4 =>
  (ix 40 (s4.1 0 7)).bind fun i5 =>
  bnd (sI s4 3 i5 v3) fun s6 =>
  bnd (sI s6 0 7 ((s6.1 0 7) + (1 : Int32))) fun s7 =>
  some s7
noncomputable def fBk_readTicks (bk : Obj) (ta : Obj) : Option (Int32 × Obj × Obj) :=
  (fTa_takeNumber ta (1 : Int32) (60 : Int32)).bind fun r1 =>
  (fBk_add bk (17 : Int32) r1.1 (0 : Int32)).bind fun r2 =>
  if r1.1 = (-1 : Int32) then
    some ((0 : Int32), r2, r1.2)
  else
  some ((1 : Int32), r2, r1.2)
noncomputable def fBk_addAct (bk : Obj) (v1 : Int32) (v2 : Int32) (v3 : Int32) : Option (Int32 × Obj) :=
  (fBk_add bk v1 v2 v3).bind fun r1 =>
  if v3 = (-1 : Int32) then
    some ((0 : Int32), r1)
  else
  some ((1 : Int32), r1)
noncomputable def fBk_addMeeting_J21 (bk : Obj) (ta : Obj) (v1 : Int32) (v2 : Int32) : Option (Int32 × Obj × Obj) :=
  (fBk_addAct bk (16 : Int32) v1 v2).bind fun r1 =>
  some ((bz r1.1), r1.2, ta)
noncomputable def fBk_addMeeting (bk : Obj) (ta : Obj) (v1 : Int32) (v2 : Int32) : Option (Int32 × Obj × Obj) :=
  if v2 = (-1 : Int32) then
    fBk_addMeeting_J21 bk ta v1 v2
  else
  if v2 = v1 then
    (fTa_refuse ta (3 : Int32)).bind fun r2 =>
    some ((0 : Int32), bk, r2.2)
  else
  fBk_addMeeting_J21 bk ta v1 v2
noncomputable def fBk_readAct_J29 (q : Obj) (bk : Obj) (ta : Obj) (v1 : Int32) (k0 : Int32) : Option (Int32 × Obj × Obj) :=
  if k0 = (5 : Int32) then
    (fTa_takeHouse q ta).bind fun r2 =>
    (fBk_addAct bk k0 v1 r2.1).bind fun r3 =>
    some ((bz r3.1), r3.2, r2.2)
  else
  if k0 = (13 : Int32) then
    (fTa_takeHouse q ta).bind fun r4 =>
    (fBk_addAct bk k0 v1 r4.1).bind fun r5 =>
    some ((bz r5.1), r5.2, r4.2)
  else
  if k0 = (14 : Int32) then
    (fTa_takeOneOf ta (8 : Int32) (10 : Int32)).bind fun r6 =>
    (fBk_addAct bk k0 v1 r6.1).bind fun r7 =>
    some ((bz r7.1), r7.2, r6.2)
  else
  if k0 = (15 : Int32) then
    (fBk_addAct bk k0 v1 (0 : Int32)).bind fun r8 =>
    some ((bz r8.1), r8.2, ta)
  else
  if k0 = (16 : Int32) then
    (fTa_takePerson q ta).bind fun r9 =>
    (fBk_addMeeting bk r9.2 v1 r9.1).bind fun r10 =>
    some ((bz r10.1), r10.2.1, r10.2.2)
  else
  (fTa_refuse ta (1 : Int32)).bind fun r11 =>
  some ((0 : Int32), bk, r11.2)
noncomputable def fBk_readAct (q : Obj) (bk : Obj) (ta : Obj) (v1 : Int32) : Option (Int32 × Obj × Obj) :=
  (fTa_take ta).bind fun r1 =>
  if (r1.1 0 4) = (1 : Int32) then
    fBk_readAct_J29 q bk r1 v1 (r1.1 0 5)
  else
  fBk_readAct_J29 q bk r1 v1 (-1 : Int32)
noncomputable def fBk_readLine_J41 (q : Obj) (bk : Obj) (ta : Obj) (v1 : Int32) (v2 : Int32) : Option (Int32 × Obj × Obj) :=
  if (bk.1 0 7) < (40 : Int32) then
    if v1 = (0 : Int32) then
      (fBk_readAct q bk ta v2).bind fun r3 =>
      some ((bz r3.1), r3.2.1, r3.2.2)
    else
    (fBk_readTicks bk ta).bind fun r4 =>
    some ((bz r4.1), r4.2.1, r4.2.2)
  else
  (fTa_refuse ta (4 : Int32)).bind fun r5 =>
  some ((0 : Int32), bk, r5.2)
noncomputable def fBk_readLine_J29 (q : Obj) (bk : Obj) (ta : Obj) (v1 : Int32) (k0 : Int32) : Option (Int32 × Obj × Obj) :=
  if v1 = (0 : Int32) then
    if k0 = (-1 : Int32) then
      some ((0 : Int32), bk, ta)
    else
    fBk_readLine_J41 q bk ta v1 k0
  else
  fBk_readLine_J41 q bk ta v1 k0
noncomputable def fBk_readLine (q : Obj) (bk : Obj) (ta : Obj) : Option (Int32 × Obj × Obj) :=
  (fTa_isWord ta (17 : Int32)).bind fun r1 =>
  if r1 = (0 : Int32) then
    (fTa_personHere q ta).bind fun r2 =>
    fBk_readLine_J29 q bk r2.2 r1 r2.1
  else
  fBk_readLine_J29 q bk ta r1 (-1 : Int32)
noncomputable def fBk_readAll_L17 (q : Obj) (a : Int32 × Obj × Obj) : Option ((Int32 × Obj × Obj) ⊕ ((Obj × Obj) ⊕ (Int32 × Obj × Obj))) :=
  if (940 : Int32) ≤ a.1 then
    some (.inr (.inl (a.2.1, a.2.2)))
  else
  (fTa_isEnd a.2.2).bind fun r3 =>
  if r3 = (0 : Int32) then
    (fBk_readLine q a.2.1 a.2.2).bind fun r4 =>
    if r4.1 = (0 : Int32) then
      some (.inr (.inr ((0 : Int32), r4.2.1, r4.2.2)))
    else
    (fTa_takeLineEnd r4.2.2).bind fun r5 =>
    if r5.1 = (0 : Int32) then
      some (.inr (.inr ((0 : Int32), r4.2.1, r5.2)))
    else
    some (.inl ((a.1 + (1 : Int32)), r4.2.1, r5.2))
  else
  some (.inr (.inl (a.2.1, a.2.2)))
noncomputable def fBk_readAll (q : Obj) (bk : Obj) (ta : Obj) : Option (Int32 × Obj × Obj) :=
  bnd (sI bk 0 7 (0 : Int32)) fun s1 =>
  (fTa_startReading ta (400 : Int32)).bind fun r2 =>
  (iter (fBk_readAll_L17 q) FU ((0 : Int32), s1, r2)).bind fun z => Sum.elim (fun e6 =>
    some ((1 : Int32), e6.1, e6.2))
    (fun r7 => some r7) z
noncomputable def fBk_reason (v0 : Int32) (v1 : Int32) : Option (Int32) :=
  if v1 = (0 : Int32) then
    some (0 : Int32)
  else
  some (v0 + v1)
noncomputable def fBk_liveLine_L140 (q : Obj) (v2 : Int32) (a : Int32 × Obj) : Option ((Int32 × Obj) ⊕ (Obj)) :=
  if v2 ≤ a.1 then
    some (.inr a.2)
  else
  (fSc_letTickGo q a.2).bind fun r11 =>
  some (.inl ((a.1 + (1 : Int32)), r11))
noncomputable def fBk_liveLine (q : Obj) (sc : Obj) (v1 : Int32) (v2 : Int32) (v3 : Int32) : Option (Int32 × Obj) :=
  if v1 = (5 : Int32) then
    (fSc_tryCall q sc v2 v3).bind fun r1 =>
    (fBk_reason (40 : Int32) r1.1).bind fun r2 =>
    some (r2, r1.2)
  else
  if v1 = (13 : Int32) then
    (fSc_tryKnock q sc v2 v3).bind fun r3 =>
    (fBk_reason (0 : Int32) r3.1).bind fun r4 =>
    some (r4, r3.2)
  else
  if v1 = (14 : Int32) then
    (fSc_tryGo q sc v2 v3).bind fun r5 =>
    (fBk_reason (10 : Int32) r5.1).bind fun r6 =>
    some (r6, r5.2)
  else
  if v1 = (15 : Int32) then
    (fSc_tryQuit q sc v2).bind fun r7 =>
    (fBk_reason (20 : Int32) r7.1).bind fun r8 =>
    some (r8, r7.2)
  else
  if v1 = (16 : Int32) then
    (fSc_tryMeet q sc v2 v3).bind fun r9 =>
    (fBk_reason (30 : Int32) r9.1).bind fun r10 =>
    some (r10, r9.2)
  else
  if ((sc.1 0 1) + v2) ≤ (1000 : Int32) then
    (iter (fBk_liveLine_L140 q v2) FU ((0 : Int32), sc)).bind fun e12 =>
    some ((0 : Int32), e12)
  else
  some ((51 : Int32), sc)
noncomputable def fBk_live_L12 (q : Obj) (a : Int32 × Obj × Obj) : Option ((Int32 × Obj × Obj) ⊕ (Obj × Obj)) :=
  if (a.2.1.1 0 7) ≤ a.1 then
    some (.inr (a.2.1, a.2.2))
  else
  if (40 : Int32) ≤ a.1 then
    some (.inr (a.2.1, a.2.2))
  else
  (ix 40 a.1).bind fun i3 =>
  (ix 40 a.1).bind fun i4 =>
  (ix 40 a.1).bind fun i5 =>
  (fBk_liveLine q a.2.2 (a.2.1.1 1 i3) (a.2.1.1 2 i4) (a.2.1.1 3 i5)).bind fun r6 =>
  bnd (sI a.2.1 0 0 r6.1) fun s7 =>
  if (s7.1 0 0) = (0 : Int32) then
    bnd (sI s7 0 1 ((s7.1 0 1) + (1 : Int32))) fun s8 =>
    some (.inl ((a.1 + (1 : Int32)), s8, r6.2))
  else
  some (.inr (s7, r6.2))
noncomputable def fBk_live (q : Obj) (bk : Obj) (sc : Obj) : Option (Obj × Obj) :=
  bnd (sI bk 0 0 (0 : Int32)) fun s1 =>
  bnd (sI s1 0 1 (0 : Int32)) fun s2 =>
  (iter (fBk_live_L12 q) FU ((0 : Int32), s2, sc)).bind fun e9 =>
  bnd (sI e9.1 0 8 (1 : Int32)) fun s10 =>
  bnd (sI s10 0 9 (e9.2.1 0 1)) fun s11 =>
  (fSc_thoseWhoAre q e9.2 (2 : Int32)).bind fun r12 =>
  bnd (sI s11 0 10 r12) fun s13 =>
  some (s13, e9.2)
noncomputable def fKL_book_J115 (X : Nat → Obj) : Option (Int32 × (Nat → Obj)) :=
  if ((X 213).1 0 0) = (0 : Int32) then
    some ((-1 : Int32), X)
  else
  some (((X 213).1 0 1), X)
noncomputable def fKL_book_J13 (X : Nat → Obj) (v1 : Int32) : Option (Int32 × (Nat → Obj)) :=
  (fBk_readAll (X 5) (X 213) (X 1)).bind fun r1 =>
  bnd (va_up X 213 r1.2.1) fun X2 =>
  bnd (va_up X2 1 r1.2.2) fun X3 =>
  (fKL_finishReading X3).bind fun r4 =>
  if r1.1 = (0 : Int32) then
    some (((-2 : Int32) - ((r4 1).1 0 3)), r4)
  else
  if v1 = (0 : Int32) then
    (fSc_copyFrom (r4 12) (r4 201)).bind fun r5 =>
    bnd (va_up r4 201 r5) fun X6 =>
    (fBk_live (X6 5) (X6 213) (X6 201)).bind fun r7 =>
    bnd (va_up X6 213 r7.1) fun X8 =>
    bnd (va_up X8 201 r7.2) fun X9 =>
    fKL_book_J115 X9
  else
  (fPa_note r4).bind fun r10 =>
  (fBk_live (r10 5) (r10 213) (r10 12)).bind fun r11 =>
  bnd (va_up r10 213 r11.1) fun X12 =>
  bnd (va_up X12 12 r11.2) fun X13 =>
  (fPa_keepIfAny X13 ((X13 213).1 0 1)).bind fun r14 =>
  fKL_book_J115 r14.2
noncomputable def fKL_book (X : Nat → Obj) (v1 : Int32) : Option (Int32 × (Nat → Obj)) :=
  if v1 = (0 : Int32) then
    fKL_book_J13 X v1
  else
  if v1 = (1 : Int32) then
    fKL_book_J13 X v1
  else
  some ((-1000 : Int32), X)
noncomputable def fBk_tell (bk : Obj) (v1 : Int32) : Option (Int32) :=
  if (bk.1 0 8) = (0 : Int32) then
    some (-1 : Int32)
  else
  if v1 = (0 : Int32) then
    some (bk.1 0 0)
  else
  if v1 = (1 : Int32) then
    some (bk.1 0 1)
  else
  if v1 = (2 : Int32) then
    some (bk.1 0 9)
  else
  if v1 = (3 : Int32) then
    some (bk.1 0 10)
  else
  some (-1 : Int32)
noncomputable def fKL_told (X : Nat → Obj) (v1 : Int32) : Option (Int32) :=
  (fBk_tell (X 213) v1).bind fun r1 =>
  some r1
noncomputable def fSy_canBeginOne (v0 : Int32) : Option (Int32) :=
  if v0 = (12 : Int32) then
    some (1 : Int32)
  else
  if v0 = (4 : Int32) then
    some (1 : Int32)
  else
  if v0 < (20 : Int32) then
    some (0 : Int32)
  else
  if (28 : Int32) < v0 then
    some (0 : Int32)
  else
  some (1 : Int32)
noncomputable def fSy_refuse (ta : Obj) (v1 : Int32) : Option (Int32 × Obj) :=
  (fTa_refuse ta v1).bind fun r1 =>
  some ((0 : Int32), r1.2)
noncomputable def fSy_readBracket (self : Nat → Obj → Obj → Int32 → Option (Int32 × Obj × Obj)) (q : Obj) (sy : Obj) (ta : Obj) (v3 : Int32) : Option (Int32 × Obj × Obj) :=
  (fTa_take ta).bind fun r1 =>
  (self 0 sy r1 (v3 + (1 : Int32))).bind fun r2 =>
  if r2.1 = (0 : Int32) then
    some ((0 : Int32), r2.2.1, r2.2.2)
  else
  (fTa_isSignOf r2.2.2 (41 : Int32)).bind fun r3 =>
  if r3 = (0 : Int32) then
    (fSy_refuse r2.2.2 (1 : Int32)).bind fun r4 =>
    some ((bz r4.1), r2.2.1, r4.2)
  else
  (fTa_take r2.2.2).bind fun r5 =>
  some ((1 : Int32), r2.2.1, r5)
noncomputable def fSy_add (sy : Obj) (v1 : Int32) (v2 : Int32) (v3 : Int32) : Option (Obj) :=
  if (40 : Int32) ≤ (sy.1 0 1) then
    some sy
  else
  (ix 40 (sy.1 0 1)).bind fun i1 =>
  bnd (sI sy 1 i1 v1) fun s2 =>
  (ix 40 (s2.1 0 1)).bind fun i3 =>
  bnd (sI s2 2 i3 v2) fun s4 =>
  (ix 40 (s4.1 0 1)).bind fun i5 =>
  bnd (sI s4 3 i5 v3) fun s6 =>
  bnd (sI s6 0 1 ((s6.1 0 1) + (1 : Int32))) fun s7 =>
  some s7
noncomputable def fSy_readNot (self : Nat → Obj → Obj → Int32 → Option (Int32 × Obj × Obj)) (q : Obj) (sy : Obj) (ta : Obj) (v3 : Int32) : Option (Int32 × Obj × Obj) :=
  (fTa_take ta).bind fun r1 =>
  (self 1 sy r1 (v3 + (1 : Int32))).bind fun r2 =>
  if r2.1 = (0 : Int32) then
    some ((0 : Int32), r2.2.1, r2.2.2)
  else
  (fSy_add r2.2.1 (20 : Int32) (0 : Int32) (0 : Int32)).bind fun r3 =>
  some ((1 : Int32), r3, r2.2.2)
noncomputable def fTa_takeCompare (ta : Obj) : Option (Int32 × Obj) :=
  (fTa_take ta).bind fun r1 =>
  (fTa_isSignOf r1 (60 : Int32)).bind fun r2 =>
  if r2 = (0 : Int32) then
    (fTa_isSignOf r1 (61 : Int32)).bind fun r3 =>
    if r3 = (0 : Int32) then
      (fTa_isSignOf r1 (62 : Int32)).bind fun r4 =>
      if r4 = (0 : Int32) then
        (fTa_refuse r1 (1 : Int32)).bind fun r5 =>
        some (r5.1, r5.2)
      else
      some ((r1.1 0 5), r1)
    else
    some ((r1.1 0 5), r1)
  else
  some ((r1.1 0 5), r1)
noncomputable def fSy_readPlainOne_J69 (sy : Obj) (ta : Obj) (v3 : Int32) (v4 : Int32) (v5 : Int32) : Option (Int32 × Obj × Obj) :=
  if v4 = (-1 : Int32) then
    some ((0 : Int32), sy, ta)
  else
  if v5 = (-1 : Int32) then
    some ((0 : Int32), sy, ta)
  else
  (fSy_add sy v3 v4 v5).bind fun r2 =>
  (fTa_take ta).bind fun r3 =>
  some ((1 : Int32), r2, r3)
noncomputable def fSy_readPlainOne_J67 (sy : Obj) (ta : Obj) (v3 : Int32) (v4 : Int32) (k0 : Int32) : Option (Int32 × Obj × Obj) :=
  fSy_readPlainOne_J69 sy ta v3 v4 k0
noncomputable def fSy_readPlainOne (q : Obj) (sy : Obj) (ta : Obj) (v3 : Int32) : Option (Int32 × Obj × Obj) :=
  if v3 = (4 : Int32) then
    (fTa_takePerson q ta).bind fun r1 =>
    fSy_readPlainOne_J69 sy r1.2 v3 r1.1 (0 : Int32)
  else
  if v3 = (24 : Int32) then
    (fTa_takeHouse q ta).bind fun r4 =>
    fSy_readPlainOne_J69 sy r4.2 v3 r4.1 (0 : Int32)
  else
  if v3 < (25 : Int32) then
    fSy_readPlainOne_J69 sy ta v3 (0 : Int32) (0 : Int32)
  else
  (fTa_takeCompare ta).bind fun r5 =>
  if r5.1 = (-1 : Int32) then
    fSy_readPlainOne_J67 sy r5.2 v3 r5.1 (-1 : Int32)
  else
  (fTa_takeNumber r5.2 (0 : Int32) (999 : Int32)).bind fun r6 =>
  fSy_readPlainOne_J67 sy r6.2 v3 r5.1 r6.1
noncomputable def fSy_readOne_J60 (self : Nat → Obj → Obj → Int32 → Option (Int32 × Obj × Obj)) (sy : Obj) (ta : Obj) : Option (Int32 × Obj × Obj) :=
  (fSy_refuse ta (4 : Int32)).bind fun r4 =>
  some ((bz r4.1), sy, r4.2)
noncomputable def fSy_readOne_J45 (self : Nat → Obj → Obj → Int32 → Option (Int32 × Obj × Obj)) (q : Obj) (sy : Obj) (ta : Obj) (v3 : Int32) (v4 : Int32) (v5 : Int32) : Option (Int32 × Obj × Obj) :=
  if (20 : Int32) ≤ (sy.1 0 0) then
    fSy_readOne_J60 self sy ta
  else
  if v3 ≤ (8 : Int32) then
    bnd (sI sy 0 0 ((sy.1 0 0) + (1 : Int32))) fun s5 =>
    if v4 = (0 : Int32) then
      if v5 = (20 : Int32) then
        (self 3 s5 ta v3).bind fun r6 =>
        some ((bz r6.1), r6.2.1, r6.2.2)
      else
      (fSy_readPlainOne q s5 ta v5).bind fun r7 =>
      some ((bz r7.1), r7.2.1, r7.2.2)
    else
    (self 2 s5 ta v3).bind fun r8 =>
    some ((bz r8.1), r8.2.1, r8.2.2)
  else
  fSy_readOne_J60 self sy ta
noncomputable def fSy_readOne_J24 (self : Nat → Obj → Obj → Int32 → Option (Int32 × Obj × Obj)) (q : Obj) (sy : Obj) (ta : Obj) (v3 : Int32) (v4 : Int32) (k0 : Int32) : Option (Int32 × Obj × Obj) :=
  if v4 = (0 : Int32) then
    (fSy_canBeginOne k0).bind fun r2 =>
    if r2 = (0 : Int32) then
      (fSy_refuse ta (1 : Int32)).bind fun r3 =>
      some ((bz r3.1), sy, r3.2)
    else
    fSy_readOne_J45 self q sy ta v3 v4 k0
  else
  fSy_readOne_J45 self q sy ta v3 v4 k0
noncomputable def fSy_readOne (self : Nat → Obj → Obj → Int32 → Option (Int32 × Obj × Obj)) (q : Obj) (sy : Obj) (ta : Obj) (v3 : Int32) : Option (Int32 × Obj × Obj) :=
  (fTa_isSignOf ta (40 : Int32)).bind fun r1 =>
  if (ta.1 0 4) = (1 : Int32) then
    fSy_readOne_J24 self q sy ta v3 r1 (ta.1 0 5)
  else
  fSy_readOne_J24 self q sy ta v3 r1 (-1 : Int32)
noncomputable def fSy_readCond_J83 (self : Nat → Obj → Obj → Int32 → Option (Int32 × Obj × Obj)) (sy : Obj) (ta : Obj) (v4 : Int32) (v5 : Int32) (v6 : Int32) : Option ((Int32 × Int32 × Int32 × Obj × Obj) ⊕ ((Obj × Obj) ⊕ (Int32 × Obj × Obj))) :=
  (fTa_take ta).bind fun r4 =>
  some (.inl (v4, v5, (v6 + (1 : Int32)), sy, r4))
noncomputable def fSy_readCond_J68 (self : Nat → Obj → Obj → Int32 → Option (Int32 × Obj × Obj)) (sy : Obj) (ta : Obj) (v4 : Int32) (v6 : Int32) : Option ((Int32 × Int32 × Int32 × Obj × Obj) ⊕ ((Obj × Obj) ⊕ (Int32 × Obj × Obj))) :=
  (fTa_isWord ta (18 : Int32)).bind fun r3 =>
  if r3 = (0 : Int32) then
    some (.inr (.inr ((1 : Int32), sy, ta)))
  else
  fSy_readCond_J83 self sy ta v4 r3 v6
noncomputable def fSy_readCond_J42 (self : Nat → Obj → Obj → Int32 → Option (Int32 × Obj × Obj)) (sy : Obj) (ta : Obj) (v5 : Int32) (v6 : Int32) : Option ((Int32 × Int32 × Int32 × Obj × Obj) ⊕ ((Obj × Obj) ⊕ (Int32 × Obj × Obj))) :=
  (fTa_isWord ta (19 : Int32)).bind fun r2 =>
  if r2 = (0 : Int32) then
    if v5 = (0 : Int32) then
      fSy_readCond_J68 self sy ta r2 v6
    else
    (fSy_add sy (18 : Int32) (0 : Int32) (0 : Int32)).bind fun r5 =>
    fSy_readCond_J68 self r5 ta r2 v6
  else
  fSy_readCond_J83 self sy ta r2 v5 v6
noncomputable def fSy_readCond_L9 (self : Nat → Obj → Obj → Int32 → Option (Int32 × Obj × Obj)) (v3 : Int32) (a : Int32 × Int32 × Int32 × Obj × Obj) : Option ((Int32 × Int32 × Int32 × Obj × Obj) ⊕ ((Obj × Obj) ⊕ (Int32 × Obj × Obj))) :=
  if (200 : Int32) ≤ a.2.2.1 then
    some (.inr (.inl (a.2.2.2.1, a.2.2.2.2)))
  else
  (self 1 a.2.2.2.1 a.2.2.2.2 v3).bind fun r1 =>
  if r1.1 = (0 : Int32) then
    some (.inr (.inr ((0 : Int32), r1.2.1, r1.2.2)))
  else
  if a.1 = (0 : Int32) then
    fSy_readCond_J42 self r1.2.1 r1.2.2 a.2.1 a.2.2.1
  else
  (fSy_add r1.2.1 (19 : Int32) (0 : Int32) (0 : Int32)).bind fun r6 =>
  fSy_readCond_J42 self r6 r1.2.2 a.2.1 a.2.2.1
noncomputable def fSy_readCond (self : Nat → Obj → Obj → Int32 → Option (Int32 × Obj × Obj)) (q : Obj) (sy : Obj) (ta : Obj) (v3 : Int32) : Option (Int32 × Obj × Obj) :=
  (iter (fSy_readCond_L9 self v3) FU ((0 : Int32), (0 : Int32), (0 : Int32), sy, ta)).bind fun z => Sum.elim (fun e7 =>
    (fSy_refuse e7.2 (1 : Int32)).bind fun r8 =>
    some ((bz r8.1), e7.1, r8.2))
    (fun r9 => some r9) z
noncomputable def fSy_rec : Nat → Obj → Nat → Obj → Obj → Int32 → Option (Int32 × Obj × Obj)
  | 0, _, _, _, _, _ => none
  | n + 1, q, k, sy, ta, d =>
    if k = 0 then fSy_readCond (fSy_rec n q) q sy ta d else if k = 1 then fSy_readOne (fSy_rec n q) q sy ta d
    else if k = 2 then fSy_readBracket (fSy_rec n q) q sy ta d else fSy_readNot (fSy_rec n q) q sy ta d
noncomputable def fSy_readAll (q : Obj) (sy : Obj) (ta : Obj) : Option (Int32 × Obj × Obj) :=
  (fSy_clear sy).bind fun r1 =>
  (fTa_startReading ta (200 : Int32)).bind fun r2 =>
  (fSy_rec 40 q 0 r1 r2 (1 : Int32)).bind fun r3 =>
  if r3.1 = (0 : Int32) then
    some ((0 : Int32), r3.2.1, r3.2.2)
  else
  (fTa_isEnd r3.2.2).bind fun r4 =>
  if r4 = (0 : Int32) then
    (fSy_refuse r3.2.2 (1 : Int32)).bind fun r5 =>
    if r5.1 = (0 : Int32) then
      some ((0 : Int32), r3.2.1, r5.2)
    else
    some ((1 : Int32), r3.2.1, r5.2)
  else
  some ((1 : Int32), r3.2.1, r3.2.2)
noncomputable def fKL_sentence (X : Nat → Obj) : Option (Int32 × (Nat → Obj)) :=
  (fSy_readAll (X 5) (X 47) (X 1)).bind fun r1 =>
  bnd (va_up X 47 r1.2.1) fun X2 =>
  bnd (va_up X2 1 r1.2.2) fun X3 =>
  (fKL_finishReading X3).bind fun r4 =>
  if r1.1 = (0 : Int32) then
    some (((-1 : Int32) - ((r4 1).1 0 3)), r4)
  else
  (fSy_copyFrom (r4 47) (r4 23)).bind fun r5 =>
  bnd (va_up r4 23 r5) fun X6 =>
  some (((X6 23).1 0 0), X6)
noncomputable def fSy_pop (sy : Obj) : Option (Int32 × Obj) :=
  if (sy.1 0 6) < (1 : Int32) then
    some ((0 : Int32), sy)
  else
  if (sy.1 0 6) ≤ (40 : Int32) then
    bnd (sI sy 0 6 ((sy.1 0 6) - (1 : Int32))) fun s1 =>
    (ix 40 (s1.1 0 6)).bind fun i2 =>
    some ((s1.1 4 i2), s1)
  else
  some ((0 : Int32), sy)
noncomputable def fSy_push (sy : Obj) (v1 : Int32) : Option (Obj) :=
  if (sy.1 0 6) < (0 : Int32) then
    some sy
  else
  if (40 : Int32) ≤ (sy.1 0 6) then
    some sy
  else
  (ix 40 (sy.1 0 6)).bind fun i1 =>
  bnd (sI sy 4 i1 v1) fun s2 =>
  bnd (sI s2 0 6 ((s2.1 0 6) + (1 : Int32))) fun s3 =>
  some s3
noncomputable def fSy_compares (v0 : Int32) (v1 : Int32) (v2 : Int32) : Option (Int32) :=
  if v1 = (60 : Int32) then
    if v2 ≤ v0 then
      some (0 : Int32)
    else
    some (1 : Int32)
  else
  if v1 = (61 : Int32) then
    if v0 = v2 then
      some (1 : Int32)
    else
    some (0 : Int32)
  else
  if v0 ≤ v2 then
    some (0 : Int32)
  else
  some (1 : Int32)
noncomputable def fSy_isTrueOf (q : Obj) (sc : Obj) (v1 : Int32) (v2 : Int32) (v3 : Int32) (v4 : Int32) : Option (Int32) :=
  if v2 = (4 : Int32) then
    (fSc_doesKnow q sc v1 v3).bind fun r1 =>
    some (bz r1)
  else
  if v2 = (12 : Int32) then
    (fQu_isStern q v1).bind fun r2 =>
    some (bz r2)
  else
  if v2 = (21 : Int32) then
    (fSc_isInLane q sc v1).bind fun r3 =>
    some (bz r3)
  else
  if v2 = (22 : Int32) then
    (fSc_isKnocking q sc v1).bind fun r4 =>
    some (bz r4)
  else
  if v2 = (23 : Int32) then
    (fSc_isInside q sc v1).bind fun r5 =>
    some (bz r5)
  else
  if v2 = (24 : Int32) then
    (fQu_homeOf q v1).bind fun r6 =>
    if r6 = v3 then
      some (1 : Int32)
    else
    some (0 : Int32)
  else
  if v2 = (25 : Int32) then
    (fSc_detail q sc v1 (1 : Int32)).bind fun r7 =>
    (fSy_compares r7 v3 v4).bind fun r8 =>
    some (bz r8)
  else
  if v2 = (26 : Int32) then
    (fSc_knownTo q sc v1).bind fun r9 =>
    (fJI_bitCount r9).bind fun r10 =>
    (fSy_compares r10 v3 v4).bind fun r11 =>
    some (bz r11)
  else
  if v2 = (27 : Int32) then
    (fSc_detail q sc v1 (7 : Int32)).bind fun r12 =>
    (fSy_compares r12 v3 v4).bind fun r13 =>
    some (bz r13)
  else
  (fSy_compares v1 v3 v4).bind fun r14 =>
  some (bz r14)
noncomputable def fSy_personsOf_L6 (q : Obj) (sc : Obj) (v1 : Int32) (v2 : Int32) (v3 : Int32) (a : Int32 × Int32) : Option ((Int32 × Int32) ⊕ (Int32)) :=
  if (q.1 0 4) ≤ a.2 then
    some (.inr a.1)
  else
  (fSy_isTrueOf q sc a.2 v1 v2 v3).bind fun r1 =>
  if r1 = (0 : Int32) then
    some (.inl (a.1, (a.2 + (1 : Int32))))
  else
  bnd ((a.1 ||| (shl (1 : Int32) a.2))) fun x2 =>
  some (.inl (x2, (a.2 + (1 : Int32))))
noncomputable def fSy_personsOf (q : Obj) (sc : Obj) (v1 : Int32) (v2 : Int32) (v3 : Int32) : Option (Int32) :=
  (iter (fSy_personsOf_L6 q sc v1 v2 v3) FU ((0 : Int32), (0 : Int32))).bind fun e3 =>
  some e3
noncomputable def fSy_trueOf_L7 (q : Obj) (sc : Obj) (a : Int32 × Obj) : Option ((Int32 × Obj) ⊕ (Obj)) :=
  if (a.2.1 0 1) ≤ a.1 then
    some (.inr a.2)
  else
  if (40 : Int32) ≤ a.1 then
    some (.inr a.2)
  else
  (ix 40 a.1).bind fun i2 =>
  if (a.2.1 1 i2) = (18 : Int32) then
    (fSy_pop a.2).bind fun r3 =>
    (fSy_pop r3.2).bind fun r4 =>
    (fSy_push r4.2 (r3.1 ||| r4.1)).bind fun r5 =>
    some (.inl ((a.1 + (1 : Int32)), r5))
  else
  (ix 40 a.1).bind fun i6 =>
  if (a.2.1 1 i6) = (19 : Int32) then
    (fSy_pop a.2).bind fun r7 =>
    (fSy_pop r7.2).bind fun r8 =>
    (fSy_push r8.2 (r7.1 &&& r8.1)).bind fun r9 =>
    some (.inl ((a.1 + (1 : Int32)), r9))
  else
  (ix 40 a.1).bind fun i10 =>
  if (a.2.1 1 i10) = (20 : Int32) then
    (fSy_pop a.2).bind fun r11 =>
    (fSy_push r11.2 (r11.1 ^^^ (-1 : Int32))).bind fun r12 =>
    some (.inl ((a.1 + (1 : Int32)), r12))
  else
  (ix 40 a.1).bind fun i13 =>
  (ix 40 a.1).bind fun i14 =>
  (ix 40 a.1).bind fun i15 =>
  (fSy_personsOf q sc (a.2.1 1 i13) (a.2.1 2 i14) (a.2.1 3 i15)).bind fun r16 =>
  (fSy_push a.2 r16).bind fun r17 =>
  some (.inl ((a.1 + (1 : Int32)), r17))
noncomputable def fSy_trueOf (q : Obj) (sc : Obj) (sy : Obj) : Option (Int32 × Obj) :=
  bnd (sI sy 0 6 (0 : Int32)) fun s1 =>
  (iter (fSy_trueOf_L7 q sc) FU ((0 : Int32), s1)).bind fun e18 =>
  (fSy_pop e18).bind fun r19 =>
  some ((r19.1 &&& ((shl (1 : Int32) (q.1 0 4)) - (1 : Int32))), r19.2)
noncomputable def fKL_said (X : Nat → Obj) (v1 : Int32) : Option (Int32 × (Nat → Obj)) :=
  if ((X 23).1 0 0) = (0 : Int32) then
    some ((-1 : Int32), X)
  else
  (fSy_trueOf (X 5) (X 12) (X 23)).bind fun r1 =>
  bnd (va_up X 23 r1.2) fun X2 =>
  if v1 = (-1 : Int32) then
    (fJI_bitCount r1.1).bind fun r3 =>
    some (r3, X2)
  else
  (fKL_bitInOrder r1.1 v1).bind fun r4 =>
  some (r4, X2)
noncomputable def fKL_imageOf (v1 : Int32) : Option (Nat) :=
  if v1 = (0 : Int32) then
    some (1)
  else
  if v1 = (1 : Int32) then
    some (2)
  else
  some (0)
noncomputable def fKL_image (X : Nat → Obj) (v1 : Int32) : Option (Int32 × (Nat → Obj)) :=
  (fKL_imageOf v1).bind fun r1 =>
  if r1 = 0 then
    some ((0 : Int32), X)
  else
  if r1 = 1 then
    (fSt_copyFrom X 52 4).bind fun r2 =>
    bnd (va_up r2 52 (sI (r2 52) 0 3 (1 : Int32))) fun X3 =>
    some ((1 : Int32), X3)
  else
  (fSt_copyFrom X 76 4).bind fun r4 =>
  bnd (va_up r4 76 (sI (r4 76) 0 3 (1 : Int32))) fun X5 =>
  some ((1 : Int32), X5)
noncomputable def fKL_restore (X : Nat → Obj) (v1 : Int32) : Option (Int32 × (Nat → Obj)) :=
  (fKL_imageOf v1).bind fun r1 =>
  if r1 = 0 then
    some ((0 : Int32), X)
  else
  if r1 = 1 then
    if ((X 52).1 0 3) = (0 : Int32) then
      some ((0 : Int32), X)
    else
    (fSt_copyFrom X 4 52).bind fun r2 =>
    (fPa_forget r2).bind fun r3 =>
    some ((1 : Int32), r3)
  else
  if ((X 76).1 0 3) = (0 : Int32) then
    some ((0 : Int32), X)
  else
  (fSt_copyFrom X 4 76).bind fun r4 =>
  (fPa_forget r4).bind fun r5 =>
  some ((1 : Int32), r5)
noncomputable def fKL_count (X : Nat → Obj) (v1 : Int32) : Option (Int32) :=
  if v1 = (0 : Int32) then
    some ((X 5).1 0 3)
  else
  if v1 = (1 : Int32) then
    some ((X 5).1 0 4)
  else
  if v1 = (2 : Int32) then
    some ((X 5).1 0 0)
  else
  if v1 = (3 : Int32) then
    some ((X 5).1 0 1)
  else
  if v1 = (4 : Int32) then
    some ((X 5).1 0 2)
  else
  if v1 = (5 : Int32) then
    some ((X 1).1 0 1)
  else
  some (-1 : Int32)
noncomputable def fMo_thrown (m : Obj) : Option (Int32) :=
  some (m.1 0 0)
noncomputable def fMo_throwsIf (m : Obj) (v1 : Int32) : Option (Int32 × Obj) :=
  if v1 = (0 : Int32) then
    bnd (sI m 0 0 (0 : Int32)) fun s1 =>
    some ((bz v1), s1)
  else
  bnd (sI m 0 0 (1 : Int32)) fun s2 =>
  some ((bz v1), s2)
noncomputable def fMo_four_L3 (v1 : Int32) (a : Int32 × Obj) : Option ((Int32 × Obj) ⊕ (Obj)) :=
  if a.1 < (0 : Int32) then
    some (.inr a.2)
  else
  (ix 940 (a.2.1 0 2)).bind fun i1 =>
  bnd (sI a.2 1 i1 (i2b (i2b (shr v1 a.1)))) fun s2 =>
  bnd (sI s2 0 2 ((s2.1 0 2) + (1 : Int32))) fun s3 =>
  some (.inl ((a.1 + (-8 : Int32)), s3))
noncomputable def fMo_four (m : Obj) (v1 : Int32) : Option (Obj) :=
  (iter (fMo_four_L3 v1) FU ((24 : Int32), m)).bind fun e4 =>
  some e4
noncomputable def fMo_feed (m : Obj) (v1 : Int32) (v2 : Int32) (v3 : Int32) (v4 : Int32) (v5 : Int32) : Option (Int32 × Obj) :=
  bnd (sI m 0 0 (0 : Int32)) fun s1 =>
  if ((s1.1 0 2) + (20 : Int32)) ≤ (940 : Int32) then
    (fMo_four s1 v1).bind fun r2 =>
    (fMo_four r2 v2).bind fun r3 =>
    (fMo_four r3 v3).bind fun r4 =>
    (fMo_four r4 v4).bind fun r5 =>
    (fMo_four r5 v5).bind fun r6 =>
    some ((r6.1 0 2), r6)
  else
  some ((-1 : Int32), s1)
noncomputable def fMo_end (m : Obj) (v1 : Int32) : Option (Int32 × Obj) :=
  bnd (sI m 0 0 (0 : Int32)) fun s1 =>
  if v1 < (0 : Int32) then
    some ((0 : Int32), s1)
  else
  if v1 ≤ (s1.1 0 2) then
    bnd (sI s1 0 2 v1) fun s2 =>
    some ((1 : Int32), s2)
  else
  some ((0 : Int32), s1)
noncomputable def fMo_taken (m : Obj) (v1 : Int32) : Option (Obj) :=
  bnd (sI m 0 3 (m.1 0 2)) fun s1 =>
  bnd (sI s1 0 2 (0 : Int32)) fun s2 =>
  bnd (sI s2 0 4 (0 : Int32)) fun s3 =>
  bnd (sI s3 0 5 v1) fun s4 =>
  some s4
noncomputable def fMo_isIn (v0 : Int32) (v1 : Int32) (v2 : Int32) : Option (Int32) :=
  if v0 < v1 then
    some (0 : Int32)
  else
  if v2 < v0 then
    some (0 : Int32)
  else
  some (1 : Int32)
noncomputable def fMo_bitOf (v0 : Int32) (v1 : Int32) : Option (Int32) :=
  if ((shr v0 v1) &&& (1 : Int32)) = (1 : Int32) then
    some (1 : Int32)
  else
  some (0 : Int32)
noncomputable def fMo_greater (v0 : Int32) (v1 : Int32) : Option (Int32) :=
  if v0 ≤ v1 then
    some v1
  else
  some v0
noncomputable def fMo_bits_L4 (a : Int32 × Int32) : Option ((Int32 × Int32) ⊕ (Int32)) :=
  if a.2 = (0 : Int32) then
    some (.inr a.1)
  else
  bnd ((a.2 &&& (a.2 - (1 : Int32)))) fun x1 =>
  some (.inl ((a.1 + (1 : Int32)), x1))
noncomputable def fMo_bits (v0 : Int32) : Option (Int32) :=
  (iter (fMo_bits_L4) FU ((0 : Int32), v0)).bind fun e2 =>
  some e2
noncomputable def fMo_octet (m : Obj) (v1 : Int32) : Option (Int32) :=
  (ix 940 v1).bind fun i1 =>
  some ((m.1 1 i1) &&& (255 : Int32))
noncomputable def fMo_clears_L2 (a : Int32 × Obj) : Option ((Int32 × Obj) ⊕ (Obj)) :=
  if (69 : Int32) ≤ a.1 then
    some (.inr a.2)
  else
  (ix 69 a.1).bind fun i1 =>
  bnd (sI a.2 3 i1 (0 : Int32)) fun s2 =>
  some (.inl ((a.1 + (1 : Int32)), s2))
noncomputable def fMo_clears (m : Obj) : Option (Obj) :=
  (iter (fMo_clears_L2) FU ((0 : Int32), m)).bind fun e3 =>
  bnd (sI e3 3 2 (10 : Int32)) fun s4 =>
  bnd (sI s4 3 3 (2 : Int32)) fun s5 =>
  bnd (sI s5 3 4 (3 : Int32)) fun s6 =>
  some s6
noncomputable def fMo_peek (m : Obj) : Option (Int32) :=
  if (m.1 0 3) ≤ (m.1 0 4) then
    some (-1 : Int32)
  else
  (ix 940 (m.1 0 4)).bind fun i1 =>
  some ((m.1 1 i1) &&& (255 : Int32))
noncomputable def fMo_isSmall (v0 : Int32) : Option (Int32) :=
  if v0 < (97 : Int32) then
    some (0 : Int32)
  else
  if (122 : Int32) < v0 then
    some (0 : Int32)
  else
  some (1 : Int32)
noncomputable def fMo_isDigit (v0 : Int32) : Option (Int32) :=
  if v0 < (48 : Int32) then
    some (0 : Int32)
  else
  if (57 : Int32) < v0 then
    some (0 : Int32)
  else
  some (1 : Int32)
noncomputable def fMo_next_L0 (a : Obj) : Option ((Obj) ⊕ (Obj)) :=
  (fMo_peek a).bind fun r1 =>
  if r1 = (32 : Int32) then
    bnd (sI a 0 4 ((a.1 0 4) + (1 : Int32))) fun s2 =>
    some (.inl s2)
  else
  (fMo_peek a).bind fun r3 =>
  if r3 = (10 : Int32) then
    bnd (sI a 0 4 ((a.1 0 4) + (1 : Int32))) fun s4 =>
    some (.inl s4)
  else
  some (.inr a)
noncomputable def fMo_next_J145 (m : Obj) (v1 : Int32) (k1 : Int32) : Option (Obj) :=
  bnd (sI m 0 11 k1) fun s11 =>
  bnd (sI s11 0 14 v1) fun s12 =>
  bnd (sI s12 0 4 ((s12.1 0 4) + (1 : Int32))) fun s13 =>
  some s13
noncomputable def fMo_next_J140 (m : Obj) (v1 : Int32) : Option (Obj) :=
  fMo_next_J145 m v1 (3 : Int32)
noncomputable def fMo_next_J144 (m : Obj) (v1 : Int32) : Option (Obj) :=
  fMo_next_J145 m v1 (4 : Int32)
noncomputable def fMo_next_J275 (m : Obj) (v3 : Int32) : Option ((Int32 × Obj) ⊕ (Int32 × Obj)) :=
  bnd (sI m 0 13 ((m.1 0 13) + (1 : Int32))) fun s21 =>
  bnd (sI s21 0 4 ((s21.1 0 4) + (1 : Int32))) fun s22 =>
  some (.inl (v3, s22))
noncomputable def fMo_next_J248 (m : Obj) (v3 : Int32) : Option ((Int32 × Obj) ⊕ (Int32 × Obj)) :=
  if (3 : Int32) ≤ (m.1 0 13) then
    fMo_next_J275 m v3
  else
  (fMo_peek m).bind fun r23 =>
  bnd (sI m 0 14 ((((10 : Int32) * (m.1 0 14)) + r23) - (48 : Int32))) fun s24 =>
  fMo_next_J275 s24 v3
noncomputable def fMo_next_J221 (m : Obj) (k0 : Int32) : Option ((Int32 × Obj) ⊕ (Int32 × Obj)) :=
  if (8 : Int32) ≤ (m.1 0 13) then
    fMo_next_J248 m k0
  else
  (fMo_peek m).bind fun r25 =>
  bnd (sL m 0 17 ((lshl (m.2 0 17) (8 : Int32)) ||| (i2l r25))) fun s26 =>
  fMo_next_J248 s26 k0
noncomputable def fMo_next_J220 (m : Obj) : Option ((Int32 × Obj) ⊕ (Int32 × Obj)) :=
  fMo_next_J221 m (0 : Int32)
noncomputable def fMo_next_J201 (m : Obj) (v2 : Int32) (v3 : Int32) : Option ((Int32 × Obj) ⊕ (Int32 × Obj)) :=
  if v3 = (0 : Int32) then
    fMo_next_J220 m
  else
  (fMo_peek m).bind fun r27 =>
  (fMo_isSmall r27).bind fun r28 =>
  if r28 = v2 then
    fMo_next_J221 m (1 : Int32)
  else
  fMo_next_J220 m
noncomputable def fMo_next_L181 (v2 : Int32) (a : Int32 × Obj) : Option ((Int32 × Obj) ⊕ (Int32 × Obj)) :=
  (fMo_peek a.2).bind fun r17 =>
  (fMo_isSmall r17).bind fun r18 =>
  if r18 = (0 : Int32) then
    (fMo_peek a.2).bind fun r19 =>
    (fMo_isDigit r19).bind fun r20 =>
    if r20 = (0 : Int32) then
      some (.inr (a.1, a.2))
    else
    fMo_next_J201 a.2 v2 a.1
  else
  fMo_next_J201 a.2 v2 a.1
noncomputable def fMo_next_J317 (m : Obj) (v2 : Int32) (k1 : Int32) (k2 : Int32) : Option (Obj) :=
  if k1 ≤ k2 then
    if v2 = (0 : Int32) then
      bnd (sI m 0 11 (2 : Int32)) fun s31 =>
      some s31
    else
    bnd (sI m 0 11 (1 : Int32)) fun s32 =>
    some s32
  else
  bnd (sI m 0 11 (4 : Int32)) fun s33 =>
  some s33
noncomputable def fMo_next_J164 (m : Obj) (v1 : Int32) : Option (Obj) :=
  (fMo_isSmall v1).bind fun r14 =>
  bnd (sL m 0 17 (0 : Int64)) fun s15 =>
  bnd (sI s15 0 14 (0 : Int32)) fun s16 =>
  (iter (fMo_next_L181 r14) FU ((1 : Int32), s16)).bind fun e29 =>
  if e29.1 = (0 : Int32) then
    bnd (sI e29.2 0 11 (4 : Int32)) fun s30 =>
    some s30
  else
  if r14 = (0 : Int32) then
    fMo_next_J317 e29.2 r14 (e29.2.1 0 13) (3 : Int32)
  else
  fMo_next_J317 e29.2 r14 (e29.2.1 0 13) (8 : Int32)
noncomputable def fMo_next_J80 (m : Obj) : Option (Obj) :=
  (fMo_peek m).bind fun r8 =>
  if (0 : Int32) ≤ r8 then
    (fMo_isSmall r8).bind fun r9 =>
    if r9 = (0 : Int32) then
      (fMo_isDigit r8).bind fun r10 =>
      if r10 = (0 : Int32) then
        if r8 = (59 : Int32) then
          fMo_next_J140 m r8
        else
        if r8 = (40 : Int32) then
          fMo_next_J140 m r8
        else
        if r8 = (41 : Int32) then
          fMo_next_J140 m r8
        else
        if r8 < (60 : Int32) then
          fMo_next_J144 m r8
        else
        if (62 : Int32) < r8 then
          fMo_next_J144 m r8
        else
        fMo_next_J140 m r8
      else
      fMo_next_J164 m r8
    else
    fMo_next_J164 m r8
  else
  bnd (sI m 0 11 (0 : Int32)) fun s34 =>
  some s34
noncomputable def fMo_next (m : Obj) : Option (Obj) :=
  (iter (fMo_next_L0) FU m).bind fun e5 =>
  bnd (sI e5 0 12 (e5.1 0 4)) fun s6 =>
  bnd (sI s6 0 13 (0 : Int32)) fun s7 =>
  if (s7.1 0 3) ≤ (s7.1 0 5) then
    fMo_next_J80 s7
  else
  if (s7.1 0 4) < (s7.1 0 5) then
    fMo_next_J80 s7
  else
  bnd (sI s7 0 12 (s7.1 0 5)) fun s35 =>
  bnd (sI s35 0 11 (4 : Int32)) fun s36 =>
  some s36
noncomputable def fMo_bad (m : Obj) (v1 : Int32) : Option (Int32 × Obj) :=
  bnd (sI m 0 15 v1) fun s1 =>
  bnd (sI s1 0 16 (s1.1 0 12)) fun s2 =>
  some ((0 : Int32), s2)
noncomputable def fMo_isWord (m : Obj) (v1 : Int64) : Option (Int32) :=
  if (m.1 0 11) = (1 : Int32) then
    if (lg_cmp (m.2 0 17) v1) = (0 : Int32) then
      some (1 : Int32)
    else
    some (0 : Int32)
  else
  some (0 : Int32)
noncomputable def fMo_isSign (m : Obj) (v1 : Int32) : Option (Int32) :=
  if (m.1 0 11) = (3 : Int32) then
    if (m.1 0 14) = v1 then
      some (1 : Int32)
    else
    some (0 : Int32)
  else
  some (0 : Int32)
noncomputable def fMo_sign (m : Obj) (v1 : Int32) : Option (Int32 × Obj) :=
  (fMo_isSign m v1).bind fun r1 =>
  if r1 = (0 : Int32) then
    (fMo_bad m (1 : Int32)).bind fun r2 =>
    some ((bz r2.1), r2.2)
  else
  (fMo_next m).bind fun r3 =>
  some ((1 : Int32), r3)
noncomputable def fMo_isName_L16 (m : Obj) (a : Int32 × Int32) : Option ((Int32 × Int32) ⊕ (Int32)) :=
  if (29 : Int32) ≤ a.2 then
    some (.inr a.1)
  else
  if a.1 = (0 : Int32) then
    some (.inl ((0 : Int32), (a.2 + (1 : Int32))))
  else
  (ix 29 a.2).bind fun i1 =>
  if (lg_cmp (m.2 0 17) (m.2 6 i1)) = (0 : Int32) then
    some (.inl ((0 : Int32), (a.2 + (1 : Int32))))
  else
  some (.inl ((1 : Int32), (a.2 + (1 : Int32))))
noncomputable def fMo_isName_J13 (m : Obj) (k0 : Int32) : Option (Int32) :=
  (iter (fMo_isName_L16 m) FU (k0, (0 : Int32))).bind fun e2 =>
  some (bz e2)
noncomputable def fMo_isName (m : Obj) : Option (Int32) :=
  if (m.1 0 11) = (1 : Int32) then
    fMo_isName_J13 m (1 : Int32)
  else
  fMo_isName_J13 m (0 : Int32)
noncomputable def fMo_takes (m : Obj) (v1 : Int32) (v2 : Int32) : Option (Int32 × Obj) :=
  if (m.1 0 11) = (2 : Int32) then
    (fMo_isIn (m.1 0 14) v1 v2).bind fun r1 =>
    if r1 = (0 : Int32) then
      (fMo_bad m (2 : Int32)).bind fun r2 =>
      some ((bz r2.1), r2.2)
    else
    bnd (sI m 0 18 (m.1 0 14)) fun s3 =>
    (fMo_next s3).bind fun r4 =>
    some ((1 : Int32), r4)
  else
  (fMo_bad m (1 : Int32)).bind fun r5 =>
  some ((bz r5.1), r5.2)
noncomputable def fMo_puts (m : Obj) (v1 : Int32) (v2 : Int32) (v3 : Int32) : Option (Int32 × Obj) :=
  (fMo_takes m v2 v3).bind fun r1 =>
  if r1.1 = (0 : Int32) then
    some ((0 : Int32), r1.2)
  else
  (ix 69 v1).bind fun i2 =>
  bnd (sI r1.2 3 i2 (r1.2.1 0 18)) fun s3 =>
  some ((1 : Int32), s3)
noncomputable def fMo_seek_L2 (m : Obj) (v1 : Int32) (v2 : Int32) (a : Int32) : Option ((Int32) ⊕ ((Unit) ⊕ (Int32))) :=
  if v2 ≤ a then
    some (.inr (.inl ()))
  else
  (ix 28 (v1 + a)).bind fun i1 =>
  if (lg_cmp (m.2 5 i1) (m.2 0 17)) = (0 : Int32) then
    some (.inr (.inr a))
  else
  some (.inl (a + (1 : Int32)))
noncomputable def fMo_seek (m : Obj) (v1 : Int32) (v2 : Int32) : Option (Int32) :=
  (iter (fMo_seek_L2 m v1 v2) FU (0 : Int32)).bind fun z => Sum.elim (fun _ =>
    some (-1 : Int32))
    (fun r3 => some r3) z
noncomputable def fMo_fresh_J43 (m : Obj) : Option (Int32 × Obj) :=
  (fMo_bad m (3 : Int32)).bind fun r4 =>
  some ((bz r4.1), r4.2)
noncomputable def fMo_fresh (m : Obj) (v1 : Int32) : Option (Int32 × Obj) :=
  (fMo_isName m).bind fun r1 =>
  if r1 = (0 : Int32) then
    (fMo_bad m (1 : Int32)).bind fun r2 =>
    some ((bz r2.1), r2.2)
  else
  (fMo_seek m (14 : Int32) (m.1 3 0)).bind fun r3 =>
  if (0 : Int32) ≤ r3 then
    fMo_fresh_J43 m
  else
  (fMo_seek m (20 : Int32) (m.1 3 1)).bind fun r5 =>
  if r5 < (0 : Int32) then
    (ix 28 v1).bind fun i6 =>
    bnd (sL m 5 i6 (m.2 0 17)) fun s7 =>
    (fMo_next s7).bind fun r8 =>
    some ((1 : Int32), r8)
  else
  fMo_fresh_J43 m
noncomputable def fMo_looksAt (m : Obj) (v1 : Int32) (v2 : Int32) : Option (Int32 × Obj) :=
  (fMo_isName m).bind fun r1 =>
  if r1 = (0 : Int32) then
    (fMo_bad m (1 : Int32)).bind fun r2 =>
    some ((bz r2.1), r2.2)
  else
  (fMo_seek m v1 v2).bind fun r3 =>
  bnd (sI m 0 18 r3) fun s4 =>
  if (0 : Int32) ≤ (s4.1 0 18) then
    some ((1 : Int32), s4)
  else
  (fMo_bad s4 (3 : Int32)).bind fun r5 =>
  if r5.1 = (0 : Int32) then
    some ((0 : Int32), r5.2)
  else
  some ((1 : Int32), r5.2)
noncomputable def fMo_takesName (m : Obj) (v1 : Int32) (v2 : Int32) : Option (Int32 × Obj) :=
  (fMo_looksAt m v1 v2).bind fun r1 =>
  if r1.1 = (0 : Int32) then
    some ((0 : Int32), r1.2)
  else
  (fMo_next r1.2).bind fun r2 =>
  some ((1 : Int32), r2)
noncomputable def fMo_once (m : Obj) (v1 : Int32) : Option (Int32 × Obj) :=
  (fMo_bitOf (m.1 0 20) v1).bind fun r1 =>
  if r1 = (0 : Int32) then
    bnd (sI m 0 20 ((m.1 0 20) ||| (shl (1 : Int32) v1))) fun s2 =>
    (fMo_next s2).bind fun r3 =>
    some ((1 : Int32), r3)
  else
  (fMo_bad m (3 : Int32)).bind fun r4 =>
  some ((bz r4.1), r4.2)
noncomputable def fMo_readHouse (m : Obj) : Option (Int32 × Obj) :=
  bnd ((m.1 3 0)) fun x1 =>
  if x1 = (6 : Int32) then
    (fMo_bad m (4 : Int32)).bind fun r2 =>
    some ((bz r2.1), r2.2)
  else
  bnd (sI m 0 20 ((m.1 0 20) ||| (1 : Int32))) fun s3 =>
  (fMo_next s3).bind fun r4 =>
  (fMo_fresh r4 ((14 : Int32) + x1)).bind fun r5 =>
  if r5.1 = (0 : Int32) then
    some ((0 : Int32), r5.2)
  else
  (fMo_puts r5.2 ((5 : Int32) + x1) (0 : Int32) ((r5.2.1 3 2) - (1 : Int32))).bind fun r6 =>
  if r6.1 = (0 : Int32) then
    some ((0 : Int32), r6.2)
  else
  bnd (sI r6.2 3 0 ((r6.2.1 3 0) + (1 : Int32))) fun s7 =>
  some ((1 : Int32), s7)
noncomputable def fMo_wayWord (m : Obj) : Option (Int32) :=
  (fMo_isWord m (30064 : Int64)).bind fun r1 =>
  if r1 = (0 : Int32) then
    (fMo_isWord m (1685026670 : Int64)).bind fun r2 =>
    if r2 = (0 : Int32) then
      (fMo_isWord m (126943688025203 : Int64)).bind fun r3 =>
      if r3 = (0 : Int32) then
        some (-1 : Int32)
      else
      some (2 : Int32)
    else
    some (1 : Int32)
  else
  some (0 : Int32)
noncomputable def fMo_takesWay (m : Obj) : Option (Int32 × Obj) :=
  (fMo_wayWord m).bind fun r1 =>
  bnd (sI m 0 18 r1) fun s2 =>
  if (0 : Int32) ≤ (s2.1 0 18) then
    (fMo_next s2).bind fun r3 =>
    some ((1 : Int32), r3)
  else
  (fMo_bad s2 (1 : Int32)).bind fun r4 =>
  some ((bz r4.1), r4.2)
noncomputable def fMo_knowsIn_3 (m : Obj) (v1 : Int32) (v2 : Int32) (v3 : Int32) : Option (Obj) :=
  (ix 69 (v1 + v2)).bind fun i1 =>
  (ix 69 (v1 + v2)).bind fun i2 =>
  bnd (sI m 3 i2 ((m.1 3 i1) ||| (shl (1 : Int32) v3))) fun s3 =>
  (ix 69 (v1 + v3)).bind fun i4 =>
  (ix 69 (v1 + v3)).bind fun i5 =>
  bnd (sI s3 3 i5 ((s3.1 3 i4) ||| (shl (1 : Int32) v2))) fun s6 =>
  some s6
noncomputable def fMo_readPerson_L202 (v1 : Int32) (a : Int32 × Obj) : Option ((Int32 × Obj) ⊕ (Obj)) :=
  if v1 ≤ a.1 then
    some (.inr a.2)
  else
  (ix 69 ((11 : Int32) + v1)).bind fun i22 =>
  if (a.2.1 3 i22) ≤ (0 : Int32) then
    some (.inl ((a.1 + (1 : Int32)), a.2))
  else
  (ix 69 ((11 : Int32) + a.1)).bind fun i23 =>
  (ix 69 ((11 : Int32) + v1)).bind fun i24 =>
  if (a.2.1 3 i23) = (a.2.1 3 i24) then
    (fMo_knowsIn_3 a.2 (36 : Int32) v1 a.1).bind fun r25 =>
    some (.inl ((a.1 + (1 : Int32)), r25))
  else
  some (.inl ((a.1 + (1 : Int32)), a.2))
noncomputable def fMo_readPerson_J194 (m : Obj) (v1 : Int32) (k1 : Int32) (k2 : Int32) (k3 : Int32) : Option (Int32 × Obj) :=
  (ix 69 k1).bind fun i19 =>
  bnd (sI m 3 i19 (k2 ||| k3)) fun s20 =>
  (fMo_next s20).bind fun r21 =>
  (iter (fMo_readPerson_L202 v1) FU ((0 : Int32), r21)).bind fun e26 =>
  bnd (sI e26 3 1 ((e26.1 3 1) + (1 : Int32))) fun s27 =>
  some ((1 : Int32), s27)
noncomputable def fMo_readPerson_J175 (m : Obj) (v1 : Int32) (v2 : Int32) : Option (Int32 × Obj) :=
  if v2 = (0 : Int32) then
    fMo_readPerson_J194 m v1 (35 : Int32) (m.1 3 35) (0 : Int32)
  else
  fMo_readPerson_J194 m v1 (35 : Int32) (m.1 3 35) (shl (1 : Int32) v1)
noncomputable def fMo_readPerson_J105 (m : Obj) (v1 : Int32) : Option (Int32 × Obj) :=
  (fMo_puts m ((19 : Int32) + v1) (0 : Int32) ((m.1 3 2) - (1 : Int32))).bind fun r12 =>
  if r12.1 = (0 : Int32) then
    some ((0 : Int32), r12.2)
  else
  (fMo_takesWay r12.2).bind fun r13 =>
  if r13.1 = (0 : Int32) then
    some ((0 : Int32), r13.2)
  else
  (ix 69 ((27 : Int32) + v1)).bind fun i14 =>
  bnd (sI r13.2 3 i14 (r13.2.1 0 18)) fun s15 =>
  (fMo_isWord s15 (495874044526 : Int64)).bind fun r16 =>
  if r16 = (0 : Int32) then
    (fMo_isWord s15 (1802071652 : Int64)).bind fun r17 =>
    if r17 = (0 : Int32) then
      (fMo_bad s15 (1 : Int32)).bind fun r18 =>
      some ((bz r18.1), r18.2)
    else
    fMo_readPerson_J175 s15 v1 r16
  else
  fMo_readPerson_J175 s15 v1 r16
noncomputable def fMo_readPerson (m : Obj) : Option (Int32 × Obj) :=
  bnd ((m.1 3 1)) fun x1 =>
  if x1 = (8 : Int32) then
    (fMo_bad m (4 : Int32)).bind fun r2 =>
    some ((bz r2.1), r2.2)
  else
  bnd (sI m 0 20 ((m.1 0 20) ||| (1 : Int32))) fun s3 =>
  (fMo_next s3).bind fun r4 =>
  (fMo_fresh r4 ((20 : Int32) + x1)).bind fun r5 =>
  if r5.1 = (0 : Int32) then
    some ((0 : Int32), r5.2)
  else
  (ix 69 ((11 : Int32) + x1)).bind fun i6 =>
  bnd (sI r5.2 3 i6 (0 : Int32)) fun s7 =>
  (fMo_isWord s7 (500135193968 : Int64)).bind fun r8 =>
  if r8 = (0 : Int32) then
    (fMo_takesName s7 (14 : Int32) (s7.1 3 0)).bind fun r9 =>
    if r9.1 = (0 : Int32) then
      some ((0 : Int32), r9.2)
    else
    (ix 69 ((11 : Int32) + x1)).bind fun i10 =>
    bnd (sI r9.2 3 i10 ((r9.2.1 0 18) + (1 : Int32))) fun s11 =>
    fMo_readPerson_J105 s11 x1
  else
  (fMo_next s7).bind fun r28 =>
  fMo_readPerson_J105 r28 x1
noncomputable def fMo_readKnows_J70 (m : Obj) : Option (Int32 × Obj) :=
  (fMo_bad m (3 : Int32)).bind fun r5 =>
  some ((bz r5.1), r5.2)
noncomputable def fMo_readKnows (m : Obj) : Option (Int32 × Obj) :=
  (fMo_next m).bind fun r1 =>
  (fMo_takesName r1 (20 : Int32) (r1.1 3 1)).bind fun r2 =>
  if r2.1 = (0 : Int32) then
    some ((0 : Int32), r2.2)
  else
  bnd ((r2.2.1 0 18)) fun x3 =>
  (fMo_looksAt r2.2 (20 : Int32) (r2.2.1 3 1)).bind fun r4 =>
  if r4.1 = (0 : Int32) then
    some ((0 : Int32), r4.2)
  else
  if (r4.2.1 0 18) = x3 then
    fMo_readKnows_J70 r4.2
  else
  (ix 69 ((36 : Int32) + x3)).bind fun i6 =>
  (fMo_bitOf (r4.2.1 3 i6) (r4.2.1 0 18)).bind fun r7 =>
  if r7 = (0 : Int32) then
    (fMo_knowsIn_3 r4.2 (36 : Int32) x3 (r4.2.1 0 18)).bind fun r8 =>
    (fMo_next r8).bind fun r9 =>
    some ((1 : Int32), r9)
  else
  fMo_readKnows_J70 r4.2
noncomputable def fMo_readCalls_L90 (m : Obj) (v1 : Int32) (v2 : Int32) (a : Int32 × Int32) : Option ((Int32 × Int32) ⊕ (Int32)) :=
  if v1 ≤ a.2 then
    some (.inr a.1)
  else
  if a.1 = (0 : Int32) then
    (ix 69 ((45 : Int32) + a.2)).bind fun i8 =>
    if (m.1 3 i8) = v2 then
      (ix 69 ((57 : Int32) + a.2)).bind fun i9 =>
      if (m.1 3 i9) = (m.1 0 18) then
        some (.inl ((1 : Int32), (a.2 + (1 : Int32))))
      else
      some (.inl ((0 : Int32), (a.2 + (1 : Int32))))
    else
    some (.inl ((0 : Int32), (a.2 + (1 : Int32))))
  else
  some (.inl ((1 : Int32), (a.2 + (1 : Int32))))
noncomputable def fMo_readCalls_J86 (m : Obj) (v1 : Int32) (v2 : Int32) (k0 : Int32) : Option (Int32 × Obj) :=
  (iter (fMo_readCalls_L90 m v1 v2) FU (k0, (0 : Int32))).bind fun e10 =>
  if e10 = (0 : Int32) then
    (ix 69 ((45 : Int32) + v1)).bind fun i11 =>
    bnd (sI m 3 i11 v2) fun s12 =>
    (ix 69 ((57 : Int32) + v1)).bind fun i13 =>
    bnd (sI s12 3 i13 (s12.1 0 18)) fun s14 =>
    bnd (sI s14 3 44 ((s14.1 3 44) + (1 : Int32))) fun s15 =>
    (fMo_next s15).bind fun r16 =>
    some ((1 : Int32), r16)
  else
  (fMo_bad m (3 : Int32)).bind fun r17 =>
  some ((bz r17.1), r17.2)
noncomputable def fMo_readCalls (m : Obj) : Option (Int32 × Obj) :=
  bnd ((m.1 3 44)) fun x1 =>
  if x1 = (12 : Int32) then
    (fMo_bad m (4 : Int32)).bind fun r2 =>
    some ((bz r2.1), r2.2)
  else
  (fMo_next m).bind fun r3 =>
  (fMo_takesName r3 (20 : Int32) (r3.1 3 1)).bind fun r4 =>
  if r4.1 = (0 : Int32) then
    some ((0 : Int32), r4.2)
  else
  bnd ((r4.2.1 0 18)) fun x5 =>
  (fMo_looksAt r4.2 (14 : Int32) (r4.2.1 3 0)).bind fun r6 =>
  if r6.1 = (0 : Int32) then
    some ((0 : Int32), r6.2)
  else
  (ix 69 ((11 : Int32) + x5)).bind fun i7 =>
  if (r6.2.1 3 i7) = ((r6.2.1 0 18) + (1 : Int32)) then
    fMo_readCalls_J86 r6.2 x1 x5 (1 : Int32)
  else
  fMo_readCalls_J86 r6.2 x1 x5 (0 : Int32)
noncomputable def fMo_readLine (m : Obj) : Option (Int32 × Obj) :=
  (fMo_isWord m (1818324581 : Int64)).bind fun r1 =>
  if r1 = (0 : Int32) then
    (fMo_isWord m (6644082 : Int64)).bind fun r2 =>
    if r2 = (0 : Int32) then
      (fMo_isWord m (1937006969 : Int64)).bind fun r3 =>
      if r3 = (0 : Int32) then
        (fMo_isWord m (448546567013 : Int64)).bind fun r4 =>
        if r4 = (0 : Int32) then
          (fMo_isWord m (123581014175598 : Int64)).bind fun r5 =>
          if r5 = (0 : Int32) then
            (fMo_isWord m (461414299507 : Int64)).bind fun r6 =>
            if r6 = (0 : Int32) then
              (fMo_isWord m (426836257907 : Int64)).bind fun r7 =>
              if r7 = (0 : Int32) then
                (fMo_bad m (1 : Int32)).bind fun r8 =>
                some ((bz r8.1), r8.2)
              else
              (fMo_readCalls m).bind fun r9 =>
              some ((bz r9.1), r9.2)
            else
            (fMo_readKnows m).bind fun r10 =>
            some ((bz r10.1), r10.2)
          else
          (fMo_readPerson m).bind fun r11 =>
          some ((bz r11.1), r11.2)
        else
        (fMo_readHouse m).bind fun r12 =>
        some ((bz r12.1), r12.2)
      else
      (fMo_once m (2 : Int32)).bind fun r13 =>
      if r13.1 = (0 : Int32) then
        some ((0 : Int32), r13.2)
      else
      (fMo_puts r13.2 (4 : Int32) (1 : Int32) (30 : Int32)).bind fun r14 =>
      if r14.1 = (0 : Int32) then
        some ((0 : Int32), r14.2)
      else
      some ((1 : Int32), r14.2)
    else
    (fMo_once m (1 : Int32)).bind fun r15 =>
    if r15.1 = (0 : Int32) then
      some ((0 : Int32), r15.2)
    else
    (fMo_puts r15.2 (3 : Int32) (0 : Int32) (9 : Int32)).bind fun r16 =>
    if r16.1 = (0 : Int32) then
      some ((0 : Int32), r16.2)
    else
    some ((1 : Int32), r16.2)
  else
  (fMo_once m (0 : Int32)).bind fun r17 =>
  if r17.1 = (0 : Int32) then
    some ((0 : Int32), r17.2)
  else
  (fMo_puts r17.2 (2 : Int32) (2 : Int32) (20 : Int32)).bind fun r18 =>
  if r18.1 = (0 : Int32) then
    some ((0 : Int32), r18.2)
  else
  some ((1 : Int32), r18.2)
noncomputable def fMo_knowsIn_2 (m : Obj) (v1 : Int32) (v2 : Int32) (v3 : Int32) : Option (Obj) :=
  (ix 342 (v1 + v2)).bind fun i1 =>
  (ix 342 (v1 + v2)).bind fun i2 =>
  bnd (sI m 2 i2 ((m.1 2 i1) ||| (shl (1 : Int32) v3))) fun s3 =>
  (ix 342 (v1 + v3)).bind fun i4 =>
  (ix 342 (v1 + v3)).bind fun i5 =>
  bnd (sI s3 2 i5 ((s3.1 2 i4) ||| (shl (1 : Int32) v2))) fun s6 =>
  some s6
noncomputable def fMo_quarter_L35 (a : Obj) : Option ((Obj) ⊕ ((Obj) ⊕ (Int32 × Obj))) :=
  if (a.1 0 11) = (0 : Int32) then
    some (.inr (.inl a))
  else
  (fMo_readLine a).bind fun r8 =>
  if r8.1 = (0 : Int32) then
    some (.inr (.inr (((-1 : Int32) - (r8.2.1 0 16)), r8.2)))
  else
  (fMo_sign r8.2 (59 : Int32)).bind fun r9 =>
  if r9.1 = (0 : Int32) then
    some (.inr (.inr (((-1 : Int32) - (r9.2.1 0 16)), r9.2)))
  else
  bnd (sI r9.2 0 19 ((r9.2.1 0 19) + (1 : Int32))) fun s10 =>
  some (.inl s10)
noncomputable def fMo_quarter_L80 (a : Int32 × Obj) : Option ((Int32 × Obj) ⊕ (Obj)) :=
  if (342 : Int32) ≤ a.1 then
    some (.inr a.2)
  else
  if (69 : Int32) ≤ a.1 then
    (ix 342 a.1).bind fun i12 =>
    bnd (sI a.2 2 i12 (0 : Int32)) fun s13 =>
    some (.inl ((a.1 + (1 : Int32)), s13))
  else
  (ix 69 a.1).bind fun i14 =>
  (ix 342 a.1).bind fun i15 =>
  bnd (sI a.2 2 i15 (a.2.1 3 i14)) fun s16 =>
  some (.inl ((a.1 + (1 : Int32)), s16))
noncomputable def fMo_quarter_L117 (a : Int32 × Obj) : Option ((Int32 × Obj) ⊕ (Obj)) :=
  if (14 : Int32) ≤ a.1 then
    some (.inr a.2)
  else
  (ix 28 ((14 : Int32) + a.1)).bind fun i18 =>
  (ix 28 a.1).bind fun i19 =>
  bnd (sL a.2 5 i19 (a.2.2 5 i18)) fun s20 =>
  some (.inl ((a.1 + (1 : Int32)), s20))
noncomputable def fMo_quarter_L160 (a : Int32 × Obj) : Option ((Int32 × Obj) ⊕ (Obj)) :=
  if (8 : Int32) ≤ a.1 then
    some (.inr a.2)
  else
  (ix 342 ((19 : Int32) + a.1)).bind fun i23 =>
  (ix 342 ((81 : Int32) + a.1)).bind fun i24 =>
  bnd (sI a.2 2 i24 (a.2.1 2 i23)) fun s25 =>
  (ix 342 ((27 : Int32) + a.1)).bind fun i26 =>
  (ix 342 ((89 : Int32) + a.1)).bind fun i27 =>
  bnd (sI s25 2 i27 (s25.1 2 i26)) fun s28 =>
  (ix 342 ((36 : Int32) + a.1)).bind fun i29 =>
  (ix 342 ((113 : Int32) + a.1)).bind fun i30 =>
  bnd (sI s28 2 i30 (s28.1 2 i29)) fun s31 =>
  some (.inl ((a.1 + (1 : Int32)), s31))
noncomputable def fMo_quarter_L228 (a : Int32 × Obj) : Option ((Int32 × Obj) ⊕ (Obj)) :=
  if (12 : Int32) ≤ a.1 then
    some (.inr a.2)
  else
  (ix 342 ((45 : Int32) + a.1)).bind fun i33 =>
  (ix 342 ((137 : Int32) + a.1)).bind fun i34 =>
  bnd (sI a.2 2 i34 (a.2.1 2 i33)) fun s35 =>
  (ix 342 ((57 : Int32) + a.1)).bind fun i36 =>
  (ix 342 ((149 : Int32) + a.1)).bind fun i37 =>
  bnd (sI s35 2 i37 (s35.1 2 i36)) fun s38 =>
  some (.inl ((a.1 + (1 : Int32)), s38))
noncomputable def fMo_quarter (m : Obj) : Option (Int32 × Obj) :=
  bnd (sI m 0 0 (0 : Int32)) fun s1 =>
  (fMo_taken s1 (900 : Int32)).bind fun r2 =>
  bnd (sI r2 0 15 (0 : Int32)) fun s3 =>
  bnd (sI s3 0 19 (0 : Int32)) fun s4 =>
  bnd (sI s4 0 20 (0 : Int32)) fun s5 =>
  (fMo_clears s5).bind fun r6 =>
  (fMo_next r6).bind fun r7 =>
  (iter (fMo_quarter_L35) FU r7).bind fun z => Sum.elim (fun e11 =>
    (iter (fMo_quarter_L80) FU ((0 : Int32), e11)).bind fun e17 =>
    (iter (fMo_quarter_L117) FU ((0 : Int32), e17)).bind fun e21 =>
    bnd (sI e21 2 72 (e21.1 2 44)) fun s22 =>
    (iter (fMo_quarter_L160) FU ((0 : Int32), s22)).bind fun e32 =>
    (iter (fMo_quarter_L228) FU ((0 : Int32), e32)).bind fun e39 =>
    bnd (sI e39 0 23 (0 : Int32)) fun s40 =>
    some ((s40.1 0 19), s40))
    (fun r41 => some r41) z
noncomputable def fMo_fault (m : Obj) : Option (Int32 × Obj) :=
  bnd (sI m 0 0 (0 : Int32)) fun s1 =>
  some ((s1.1 0 15), s1)
noncomputable def fMo_isHouse (m : Obj) (v1 : Int32) : Option (Int32) :=
  (fMo_isIn v1 (0 : Int32) ((m.1 2 0) - (1 : Int32))).bind fun r1 =>
  some (bz r1)
noncomputable def fMo_isPerson (m : Obj) (v1 : Int32) : Option (Int32) :=
  (fMo_isIn v1 (0 : Int32) ((m.1 2 1) - (1 : Int32))).bind fun r1 =>
  some (bz r1)
noncomputable def fMo_dwellers_L4 (m : Obj) (v1 : Int32) (a : Int32 × Int32) : Option ((Int32 × Int32) ⊕ (Int32)) :=
  if (m.1 2 1) ≤ a.2 then
    some (.inr a.1)
  else
  (ix 342 ((11 : Int32) + a.2)).bind fun i1 =>
  if (m.1 2 i1) = (v1 + (1 : Int32)) then
    bnd ((a.1 ||| (shl (1 : Int32) a.2))) fun x2 =>
    some (.inl (x2, (a.2 + (1 : Int32))))
  else
  bnd ((a.1 ||| (0 : Int32))) fun x3 =>
  some (.inl (x3, (a.2 + (1 : Int32))))
noncomputable def fMo_dwellers (m : Obj) (v1 : Int32) : Option (Int32) :=
  (iter (fMo_dwellers_L4 m v1) FU ((0 : Int32), (0 : Int32))).bind fun e4 =>
  some e4
noncomputable def fMo_isStranger (m : Obj) (v1 : Int32) (v2 : Int32) : Option (Int32) :=
  (ix 342 ((113 : Int32) + v1)).bind fun i1 =>
  (fMo_dwellers m v2).bind fun r2 =>
  if (((m.1 2 i1) ||| (shl (1 : Int32) v1)) &&& r2) = (0 : Int32) then
    some (1 : Int32)
  else
  some (0 : Int32)
noncomputable def fMo_strangers_L4 (m : Obj) (v1 : Int32) (a : Int32 × Int32) : Option ((Int32 × Int32) ⊕ (Int32)) :=
  if (m.1 2 1) ≤ a.2 then
    some (.inr a.1)
  else
  (fMo_isStranger m a.2 v1).bind fun r1 =>
  if r1 = (0 : Int32) then
    bnd ((a.1 ||| (0 : Int32))) fun x2 =>
    some (.inl (x2, (a.2 + (1 : Int32))))
  else
  bnd ((a.1 ||| (shl (1 : Int32) a.2))) fun x3 =>
  some (.inl (x3, (a.2 + (1 : Int32))))
noncomputable def fMo_strangers (m : Obj) (v1 : Int32) : Option (Int32) :=
  (iter (fMo_strangers_L4 m v1) FU ((0 : Int32), (0 : Int32))).bind fun e4 =>
  some e4
noncomputable def fMo_are_L4 (m : Obj) (v1 : Int32) (a : Int32 × Int32) : Option ((Int32 × Int32) ⊕ (Int32)) :=
  if (m.1 2 1) ≤ a.2 then
    some (.inr a.1)
  else
  (ix 342 ((73 : Int32) + a.2)).bind fun i1 =>
  if (m.1 2 i1) = v1 then
    bnd ((a.1 ||| (shl (1 : Int32) a.2))) fun x2 =>
    some (.inl (x2, (a.2 + (1 : Int32))))
  else
  bnd ((a.1 ||| (0 : Int32))) fun x3 =>
  some (.inl (x3, (a.2 + (1 : Int32))))
noncomputable def fMo_are (m : Obj) (v1 : Int32) : Option (Int32) :=
  (iter (fMo_are_L4 m v1) FU ((0 : Int32), (0 : Int32))).bind fun e4 =>
  some e4
noncomputable def fMo_areAt_L5 (m : Obj) (v1 : Int32) (v2 : Int32) (a : Int32 × Int32) : Option ((Int32 × Int32) ⊕ (Int32)) :=
  if (m.1 2 1) ≤ a.2 then
    some (.inr a.1)
  else
  (ix 342 ((73 : Int32) + a.2)).bind fun i1 =>
  if (m.1 2 i1) = v2 then
    (ix 342 ((97 : Int32) + a.2)).bind fun i2 =>
    if (m.1 2 i2) = (v1 + (1 : Int32)) then
      bnd ((a.1 ||| (shl (1 : Int32) a.2))) fun x3 =>
      some (.inl (x3, (a.2 + (1 : Int32))))
    else
    bnd ((a.1 ||| (0 : Int32))) fun x4 =>
    some (.inl (x4, (a.2 + (1 : Int32))))
  else
  bnd ((a.1 ||| (0 : Int32))) fun x5 =>
  some (.inl (x5, (a.2 + (1 : Int32))))
noncomputable def fMo_areAt (m : Obj) (v1 : Int32) (v2 : Int32) : Option (Int32) :=
  (iter (fMo_areAt_L5 m v1 v2) FU ((0 : Int32), (0 : Int32))).bind fun e6 =>
  some e6
noncomputable def fMo_openHouses_L4 (m : Obj) (a : Int32 × Int32) : Option ((Int32 × Int32) ⊕ (Int32)) :=
  if (m.1 2 0) ≤ a.2 then
    some (.inr a.1)
  else
  (fMo_strangers m a.2).bind fun r1 =>
  if r1 = (0 : Int32) then
    bnd ((a.1 ||| (0 : Int32))) fun x2 =>
    some (.inl (x2, (a.2 + (1 : Int32))))
  else
  bnd ((a.1 ||| (shl (1 : Int32) a.2))) fun x3 =>
  some (.inl (x3, (a.2 + (1 : Int32))))
noncomputable def fMo_openHouses (m : Obj) : Option (Int32) :=
  (iter (fMo_openHouses_L4 m) FU ((0 : Int32), (0 : Int32))).bind fun e4 =>
  some e4
noncomputable def fMo_callOf_L2 (m : Obj) (v1 : Int32) (v2 : Int32) (a : Int32) : Option ((Int32) ⊕ ((Unit) ⊕ (Int32))) :=
  if (m.1 2 72) ≤ a then
    some (.inr (.inl ()))
  else
  (ix 342 ((137 : Int32) + a)).bind fun i1 =>
  if (m.1 2 i1) = v1 then
    if (0 : Int32) ≤ v2 then
      (ix 342 ((149 : Int32) + a)).bind fun i2 =>
      if (m.1 2 i2) = v2 then
        some (.inr (.inr a))
      else
      some (.inl (a + (1 : Int32)))
    else
    (ix 342 ((149 : Int32) + a)).bind fun i3 =>
    (ix 342 ((5 : Int32) + (m.1 2 i3))).bind fun i4 =>
    (ix 342 ((81 : Int32) + v1)).bind fun i5 =>
    if (m.1 2 i4) = (m.1 2 i5) then
      some (.inr (.inr a))
    else
    some (.inl (a + (1 : Int32)))
  else
  some (.inl (a + (1 : Int32)))
noncomputable def fMo_callOf (m : Obj) (v1 : Int32) (v2 : Int32) : Option (Int32) :=
  (iter (fMo_callOf_L2 m v1 v2) FU (0 : Int32)).bind fun z => Sum.elim (fun _ =>
    some (-1 : Int32))
    (fun r7 => some r7) z
noncomputable def fMo_house (m : Obj) (v1 : Int32) (v2 : Int32) : Option (Int32 × Obj) :=
  bnd (sI m 0 0 (0 : Int32)) fun s1 =>
  (fMo_isHouse s1 v1).bind fun r2 =>
  if r2 = (0 : Int32) then
    some ((-1 : Int32), s1)
  else
  if v2 = (0 : Int32) then
    (ix 342 ((5 : Int32) + v1)).bind fun i3 =>
    some ((s1.1 2 i3), s1)
  else
  if v2 = (1 : Int32) then
    (fMo_dwellers s1 v1).bind fun r4 =>
    some (r4, s1)
  else
  if v2 = (2 : Int32) then
    (fMo_strangers s1 v1).bind fun r5 =>
    some (r5, s1)
  else
  if v2 = (3 : Int32) then
    (fMo_areAt s1 v1 (1 : Int32)).bind fun r6 =>
    some (r6, s1)
  else
  if v2 = (4 : Int32) then
    (fMo_areAt s1 v1 (2 : Int32)).bind fun r7 =>
    some (r7, s1)
  else
  some ((-1 : Int32), s1)
noncomputable def fMo_person_L37 (m : Obj) (v1 : Int32) (a : Int32 × Int32) : Option ((Int32 × Int32) ⊕ (Int32)) :=
  if (m.1 2 72) ≤ a.2 then
    some (.inr a.1)
  else
  (ix 342 ((137 : Int32) + a.2)).bind fun i3 =>
  if (m.1 2 i3) = v1 then
    (ix 342 ((149 : Int32) + a.2)).bind fun i4 =>
    bnd ((a.1 ||| (shl (1 : Int32) (m.1 2 i4)))) fun x5 =>
    some (.inl (x5, (a.2 + (1 : Int32))))
  else
  bnd ((a.1 ||| (0 : Int32))) fun x6 =>
  some (.inl (x6, (a.2 + (1 : Int32))))
noncomputable def fMo_person_J24 (m : Obj) (v1 : Int32) (v2 : Int32) (k1 : Int32) : Option (Int32 × Obj) :=
  (fMo_throwsIf m k1).bind fun r2 =>
  if r2.1 = (0 : Int32) then
    (iter (fMo_person_L37 r2.2 v1) FU ((0 : Int32), (0 : Int32))).bind fun e7 =>
    if v2 = (0 : Int32) then
      (ix 342 ((73 : Int32) + v1)).bind fun i8 =>
      some ((r2.2.1 2 i8), r2.2)
    else
    if v2 = (1 : Int32) then
      (ix 342 ((81 : Int32) + v1)).bind fun i9 =>
      some ((r2.2.1 2 i9), r2.2)
    else
    if v2 = (2 : Int32) then
      (ix 342 ((89 : Int32) + v1)).bind fun i10 =>
      some ((r2.2.1 2 i10), r2.2)
    else
    if v2 = (3 : Int32) then
      (ix 342 ((97 : Int32) + v1)).bind fun i11 =>
      some (((r2.2.1 2 i11) - (1 : Int32)), r2.2)
    else
    if v2 = (4 : Int32) then
      (ix 342 ((105 : Int32) + v1)).bind fun i12 =>
      some ((r2.2.1 2 i12), r2.2)
    else
    if v2 = (5 : Int32) then
      (ix 342 ((113 : Int32) + v1)).bind fun i13 =>
      some ((r2.2.1 2 i13), r2.2)
    else
    if v2 = (6 : Int32) then
      some (e7, r2.2)
    else
    if v2 = (7 : Int32) then
      (ix 342 ((121 : Int32) + v1)).bind fun i14 =>
      some ((r2.2.1 2 i14), r2.2)
    else
    if v2 = (8 : Int32) then
      (ix 342 ((129 : Int32) + v1)).bind fun i15 =>
      some ((r2.2.1 2 i15), r2.2)
    else
    if v2 = (9 : Int32) then
      (ix 342 ((11 : Int32) + v1)).bind fun i16 =>
      some (((r2.2.1 2 i16) - (1 : Int32)), r2.2)
    else
    some (((shr (r2.2.1 2 35) v1) &&& (1 : Int32)), r2.2)
  else
  some ((0 : Int32), r2.2)
noncomputable def fMo_person_J19 (m : Obj) (v1 : Int32) (v2 : Int32) : Option (Int32 × Obj) :=
  fMo_person_J24 m v1 v2 (1 : Int32)
noncomputable def fMo_person (m : Obj) (v1 : Int32) (v2 : Int32) : Option (Int32 × Obj) :=
  (fMo_isPerson m v1).bind fun r1 =>
  if r1 = (0 : Int32) then
    fMo_person_J19 m v1 v2
  else
  (fMo_isIn v2 (0 : Int32) (10 : Int32)).bind fun r17 =>
  if r17 = (0 : Int32) then
    fMo_person_J19 m v1 v2
  else
  fMo_person_J24 m v1 v2 (0 : Int32)
noncomputable def fMo_call (m : Obj) (v1 : Int32) (v2 : Int32) : Option (Int32 × Obj) :=
  bnd (sI m 0 0 (0 : Int32)) fun s1 =>
  (fMo_isIn v1 (0 : Int32) ((s1.1 2 72) - (1 : Int32))).bind fun r2 =>
  if r2 = (0 : Int32) then
    some ((-1 : Int32), s1)
  else
  if v2 = (0 : Int32) then
    (ix 342 ((137 : Int32) + v1)).bind fun i3 =>
    some ((s1.1 2 i3), s1)
  else
  if v2 = (1 : Int32) then
    (ix 342 ((149 : Int32) + v1)).bind fun i4 =>
    some ((s1.1 2 i4), s1)
  else
  some ((-1 : Int32), s1)
noncomputable def fMo_now (m : Obj) (v1 : Int32) : Option (Int32 × Obj) :=
  bnd (sI m 0 0 (0 : Int32)) fun s1 =>
  if v1 = (0 : Int32) then
    some ((s1.1 2 69), s1)
  else
  if v1 = (1 : Int32) then
    (fMo_are s1 (0 : Int32)).bind fun r2 =>
    some (r2, s1)
  else
  if v1 = (2 : Int32) then
    (fMo_are s1 (1 : Int32)).bind fun r3 =>
    some (r3, s1)
  else
  if v1 = (3 : Int32) then
    (fMo_are s1 (2 : Int32)).bind fun r4 =>
    some (r4, s1)
  else
  if v1 = (4 : Int32) then
    (fMo_openHouses s1).bind fun r5 =>
    some (r5, s1)
  else
  if v1 = (5 : Int32) then
    some ((s1.1 2 72), s1)
  else
  if v1 = (6 : Int32) then
    some ((s1.1 2 70), s1)
  else
  if v1 = (7 : Int32) then
    some ((s1.1 2 71), s1)
  else
  some ((-1 : Int32), s1)
noncomputable def fMo_whyKnock (m : Obj) (v1 : Int32) (v2 : Int32) : Option (Int32) :=
  (ix 342 ((73 : Int32) + v1)).bind fun i1 =>
  if (m.1 2 i1) = (0 : Int32) then
    (ix 342 ((5 : Int32) + v2)).bind fun i2 =>
    (ix 342 ((81 : Int32) + v1)).bind fun i3 =>
    if (m.1 2 i2) = (m.1 2 i3) then
      (ix 342 ((11 : Int32) + v1)).bind fun i4 =>
      if (m.1 2 i4) = (v2 + (1 : Int32)) then
        some (3 : Int32)
      else
      some (0 : Int32)
    else
    some (2 : Int32)
  else
  some (1 : Int32)
noncomputable def fMo_whyGo (m : Obj) (v1 : Int32) (v2 : Int32) : Option (Int32) :=
  (ix 342 ((73 : Int32) + v1)).bind fun i1 =>
  if (m.1 2 i1) = (0 : Int32) then
    (ix 342 ((89 : Int32) + v1)).bind fun i2 =>
    if (m.1 2 i2) = v2 then
      some (2 : Int32)
    else
    some (0 : Int32)
  else
  some (1 : Int32)
noncomputable def fMo_whyCall (m : Obj) (v1 : Int32) (v2 : Int32) : Option (Int32) :=
  (ix 342 ((11 : Int32) + v1)).bind fun i1 =>
  if (m.1 2 i1) = (v2 + (1 : Int32)) then
    some (1 : Int32)
  else
  (fMo_callOf m v1 v2).bind fun r2 =>
  if r2 < (0 : Int32) then
    if (m.1 2 72) = (12 : Int32) then
      some (3 : Int32)
    else
    some (0 : Int32)
  else
  some (2 : Int32)
noncomputable def fMo_stands (m : Obj) (v1 : Int32) (v2 : Int32) (v3 : Int32) : Option (Obj) :=
  (ix 342 ((73 : Int32) + v1)).bind fun i1 =>
  bnd (sI m 2 i1 v2) fun s2 =>
  (ix 342 ((97 : Int32) + v1)).bind fun i3 =>
  bnd (sI s2 2 i3 (v3 + (1 : Int32))) fun s4 =>
  if v2 = (2 : Int32) then
    (ix 342 ((105 : Int32) + v1)).bind fun i5 =>
    bnd (sI s4 2 i5 (s4.1 2 4)) fun s6 =>
    some s6
  else
  (ix 342 ((105 : Int32) + v1)).bind fun i7 =>
  bnd (sI s4 2 i7 (0 : Int32)) fun s8 =>
  some s8
noncomputable def fMo_books (m : Obj) (v1 : Int32) (v2 : Int32) : Option (Obj) :=
  (ix 342 ((137 : Int32) + (m.1 2 72))).bind fun i1 =>
  bnd (sI m 2 i1 v1) fun s2 =>
  (ix 342 ((149 : Int32) + (s2.1 2 72))).bind fun i3 =>
  bnd (sI s2 2 i3 v2) fun s4 =>
  bnd (sI s4 2 72 ((s4.1 2 72) + (1 : Int32))) fun s5 =>
  some s5
noncomputable def fMo_strikes_L13 (a : Int32 × Obj) : Option ((Int32 × Obj) ⊕ (Obj)) :=
  if (a.2.1 2 72) ≤ a.1 then
    some (.inr a.2)
  else
  (ix 342 (((137 : Int32) + a.1) + (1 : Int32))).bind fun i2 =>
  (ix 342 ((137 : Int32) + a.1)).bind fun i3 =>
  bnd (sI a.2 2 i3 (a.2.1 2 i2)) fun s4 =>
  (ix 342 (((149 : Int32) + a.1) + (1 : Int32))).bind fun i5 =>
  (ix 342 ((149 : Int32) + a.1)).bind fun i6 =>
  bnd (sI s4 2 i6 (s4.1 2 i5)) fun s7 =>
  some (.inl ((a.1 + (1 : Int32)), s7))
noncomputable def fMo_strikes (m : Obj) (v1 : Int32) : Option (Obj) :=
  bnd (sI m 2 72 ((m.1 2 72) - (1 : Int32))) fun s1 =>
  (iter (fMo_strikes_L13) FU (v1, s1)).bind fun e8 =>
  (ix 342 ((137 : Int32) + (e8.1 2 72))).bind fun i9 =>
  bnd (sI e8 2 i9 (0 : Int32)) fun s10 =>
  (ix 342 ((149 : Int32) + (s10.1 2 72))).bind fun i11 =>
  bnd (sI s10 2 i11 (0 : Int32)) fun s12 =>
  some s12
noncomputable def fMo_walks_J40 (m : Obj) (v1 : Int32) (k0 : Int32) (k1 : Int32) : Option (Obj) :=
  bnd ((k0 + k1)) fun x4 =>
  (fMo_isIn x4 (0 : Int32) ((m.1 2 2) - (1 : Int32))).bind fun r5 =>
  if r5 = (0 : Int32) then
    (ix 342 ((89 : Int32) + v1)).bind fun i6 =>
    (ix 342 ((89 : Int32) + v1)).bind fun i7 =>
    bnd (sI m 2 i7 ((1 : Int32) - (m.1 2 i6))) fun s8 =>
    some s8
  else
  (ix 342 ((81 : Int32) + v1)).bind fun i9 =>
  bnd (sI m 2 i9 x4) fun s10 =>
  some s10
noncomputable def fMo_walks (m : Obj) (v1 : Int32) : Option (Obj) :=
  (ix 342 ((89 : Int32) + v1)).bind fun i1 =>
  if (m.1 2 i1) ≤ (1 : Int32) then
    (ix 342 ((81 : Int32) + v1)).bind fun i2 =>
    (ix 342 ((89 : Int32) + v1)).bind fun i3 =>
    if (m.1 2 i3) = (0 : Int32) then
      fMo_walks_J40 m v1 (m.1 2 i2) (1 : Int32)
    else
    fMo_walks_J40 m v1 (m.1 2 i2) (-1 : Int32)
  else
  some m
noncomputable def fMo_canAnswer (m : Obj) (v1 : Int32) (v2 : Int32) : Option (Int32) :=
  (ix 342 ((81 : Int32) + v1)).bind fun i1 =>
  (ix 342 ((5 : Int32) + v2)).bind fun i2 =>
  bnd (((m.1 2 i1) - (m.1 2 i2))) fun x3 =>
  (ix 342 ((73 : Int32) + v1)).bind fun i4 =>
  if (m.1 2 i4) = (0 : Int32) then
    if (m.1 2 3) < x3 then
      some (0 : Int32)
    else
    if (m.1 2 3) < (-x3) then
      some (0 : Int32)
    else
    (fMo_isStranger m v1 v2).bind fun r5 =>
    if r5 = (0 : Int32) then
      some (0 : Int32)
    else
    some (1 : Int32)
  else
  some (0 : Int32)
noncomputable def fMo_answers_J77 (v3 : Int32) (v4 : Int32) (v5 : Int32) (k0 : Int32) : Option ((Int32 × Int32 × Int32) ⊕ (Int32)) :=
  if k0 < v4 then
    some (.inl (v5, k0, (v5 + (1 : Int32))))
  else
  some (.inl (v3, v4, (v5 + (1 : Int32))))
noncomputable def fMo_answers_L10 (m : Obj) (v1 : Int32) (v2 : Int32) (a : Int32 × Int32 × Int32) : Option ((Int32 × Int32 × Int32) ⊕ (Int32)) :=
  if (m.1 2 1) ≤ a.2.2 then
    some (.inr a.1)
  else
  (fMo_bitOf v2 a.2.2).bind fun r1 =>
  if r1 = (0 : Int32) then
    (fMo_canAnswer m a.2.2 v1).bind fun r2 =>
    if r2 = (0 : Int32) then
      some (.inl (a.1, a.2.1, (a.2.2 + (1 : Int32))))
    else
    (ix 342 ((81 : Int32) + a.2.2)).bind fun i3 =>
    (ix 342 ((5 : Int32) + v1)).bind fun i4 =>
    bnd (((m.1 2 i3) - (m.1 2 i4))) fun x5 =>
    if (0 : Int32) ≤ x5 then
      fMo_answers_J77 a.1 a.2.1 a.2.2 x5
    else
    fMo_answers_J77 a.1 a.2.1 a.2.2 (-x5)
  else
  some (.inl (a.1, a.2.1, (a.2.2 + (1 : Int32))))
noncomputable def fMo_answers (m : Obj) (v1 : Int32) (v2 : Int32) : Option (Int32) :=
  (iter (fMo_answers_L10 m v1 v2) FU ((-1 : Int32), (1000000 : Int32), (0 : Int32))).bind fun e6 =>
  some e6
noncomputable def fMo_opens0_L130 (v1 : Int32) (v3 : Int32) (a : Int32 × Obj) : Option ((Int32 × Obj) ⊕ (Obj)) :=
  if (a.2.1 2 1) ≤ a.1 then
    some (.inr a.2)
  else
  (ix 342 ((11 : Int32) + a.1)).bind fun i12 =>
  if (a.2.1 2 i12) = (v3 + (1 : Int32)) then
    (fMo_knowsIn_2 a.2 (113 : Int32) v1 a.1).bind fun r13 =>
    some (.inl ((a.1 + (1 : Int32)), r13))
  else
  some (.inl ((a.1 + (1 : Int32)), a.2))
noncomputable def fMo_opens0_J116 (m : Obj) (v1 : Int32) (v2 : Int32) (v3 : Int32) : Option (Obj) :=
  (fMo_knowsIn_2 m (113 : Int32) v1 v2).bind fun r11 =>
  (iter (fMo_opens0_L130 v1 v3) FU ((0 : Int32), r11)).bind fun e14 =>
  some e14
noncomputable def fMo_opens0_J92 (m : Obj) (v1 : Int32) (v2 : Int32) (v3 : Int32) (v4 : Int32) (k1 : Int32) (k2 : Int32) (k3 : Int32) : Option (Obj) :=
  (ix 342 k1).bind fun i8 =>
  bnd (sI m 2 i8 (k2 + k3)) fun s9 =>
  if v4 = (0 : Int32) then
    (fMo_stands s9 v2 (2 : Int32) v3).bind fun r10 =>
    fMo_opens0_J116 r10 v1 v2 v3
  else
  (fMo_stands s9 v2 (0 : Int32) (-1 : Int32)).bind fun r15 =>
  fMo_opens0_J116 r15 v1 v2 v3
noncomputable def fMo_opens0_J72 (m : Obj) (v1 : Int32) (v2 : Int32) (v3 : Int32) (k0 : Int32) : Option (Obj) :=
  if k0 = (0 : Int32) then
    fMo_opens0_J92 m v1 v2 v3 k0 (71 : Int32) (m.1 2 71) (0 : Int32)
  else
  fMo_opens0_J92 m v1 v2 v3 k0 (71 : Int32) (m.1 2 71) (1 : Int32)
noncomputable def fMo_opens0_J71 (m : Obj) (v1 : Int32) (v2 : Int32) (v3 : Int32) : Option (Obj) :=
  fMo_opens0_J72 m v1 v2 v3 (0 : Int32)
noncomputable def fMo_opens0 (m : Obj) (v1 : Int32) (v2 : Int32) : Option (Obj) :=
  (ix 342 ((97 : Int32) + v2)).bind fun i1 =>
  bnd (((m.1 2 i1) - (1 : Int32))) fun x2 =>
  (ix 342 ((129 : Int32) + v1)).bind fun i3 =>
  (ix 342 ((129 : Int32) + v1)).bind fun i4 =>
  bnd (sI m 2 i4 ((m.1 2 i3) + (1 : Int32))) fun s5 =>
  bnd (sI s5 2 70 ((s5.1 2 70) + (1 : Int32))) fun s6 =>
  (fMo_bitOf (s6.1 2 35) v1).bind fun r7 =>
  if r7 = (0 : Int32) then
    fMo_opens0_J71 s6 v1 v2 x2
  else
  (ix 342 ((113 : Int32) + v1)).bind fun i16 =>
  (fMo_bitOf (s6.1 2 i16) v2).bind fun r17 =>
  if r17 = (0 : Int32) then
    fMo_opens0_J71 s6 v1 v2 x2
  else
  fMo_opens0_J72 s6 v1 v2 x2 (1 : Int32)
noncomputable def fMo_tick_L2 (a : Int32 × Obj) : Option ((Int32 × Obj) ⊕ (Obj)) :=
  if (a.2.1 2 1) ≤ a.1 then
    some (.inr a.2)
  else
  (ix 342 ((73 : Int32) + a.1)).bind fun i1 =>
  if (a.2.1 2 i1) = (2 : Int32) then
    (ix 342 ((105 : Int32) + a.1)).bind fun i2 =>
    (ix 342 ((105 : Int32) + a.1)).bind fun i3 =>
    bnd (sI a.2 2 i3 ((a.2.1 2 i2) - (1 : Int32))) fun s4 =>
    (ix 342 ((105 : Int32) + a.1)).bind fun i5 =>
    if (s4.1 2 i5) = (0 : Int32) then
      (fMo_stands s4 a.1 (0 : Int32) (-1 : Int32)).bind fun r6 =>
      some (.inl ((a.1 + (1 : Int32)), r6))
    else
    some (.inl ((a.1 + (1 : Int32)), s4))
  else
  some (.inl ((a.1 + (1 : Int32)), a.2))
noncomputable def fMo_tick_L68 (a : Int32 × Obj) : Option ((Int32 × Obj) ⊕ (Obj)) :=
  if (a.2.1 2 1) ≤ a.1 then
    some (.inr a.2)
  else
  (ix 342 ((73 : Int32) + a.1)).bind fun i8 =>
  if (a.2.1 2 i8) = (0 : Int32) then
    (fMo_walks a.2 a.1).bind fun r9 =>
    some (.inl ((a.1 + (1 : Int32)), r9))
  else
  some (.inl ((a.1 + (1 : Int32)), a.2))
noncomputable def fMo_tick_J135 (m : Obj) (v1 : Int32) (k0 : Int32) : Option ((Int32 × Obj) ⊕ (Obj)) :=
  if (0 : Int32) ≤ k0 then
    (ix 342 ((149 : Int32) + k0)).bind fun i13 =>
    (fMo_stands m v1 (1 : Int32) (m.1 2 i13)).bind fun r14 =>
    (fMo_strikes r14 k0).bind fun r15 =>
    some (.inl ((v1 + (1 : Int32)), r15))
  else
  some (.inl ((v1 + (1 : Int32)), m))
noncomputable def fMo_tick_L103 (a : Int32 × Obj) : Option ((Int32 × Obj) ⊕ (Obj)) :=
  if (a.2.1 2 1) ≤ a.1 then
    some (.inr a.2)
  else
  (ix 342 ((73 : Int32) + a.1)).bind fun i11 =>
  if (a.2.1 2 i11) = (0 : Int32) then
    (fMo_callOf a.2 a.1 (-1 : Int32)).bind fun r12 =>
    fMo_tick_J135 a.2 a.1 r12
  else
  fMo_tick_J135 a.2 a.1 (-1 : Int32)
noncomputable def fMo_tick_L174 (a : Int32 × Int32 × Obj) : Option ((Int32 × Int32 × Obj) ⊕ (Obj)) :=
  if (a.2.2.1 2 1) ≤ a.2.1 then
    some (.inr a.2.2)
  else
  (ix 342 ((73 : Int32) + a.2.1)).bind fun i17 =>
  if (a.2.2.1 2 i17) = (1 : Int32) then
    (ix 342 ((97 : Int32) + a.2.1)).bind fun i18 =>
    (fMo_answers a.2.2 ((a.2.2.1 2 i18) - (1 : Int32)) a.1).bind fun r19 =>
    if (0 : Int32) ≤ r19 then
      bnd ((a.1 ||| (shl (1 : Int32) r19))) fun x20 =>
      (fMo_opens0 a.2.2 r19 a.2.1).bind fun r21 =>
      some (.inl (x20, (a.2.1 + (1 : Int32)), r21))
    else
    (ix 342 ((121 : Int32) + a.2.1)).bind fun i22 =>
    (ix 342 ((121 : Int32) + a.2.1)).bind fun i23 =>
    bnd (sI a.2.2 2 i23 ((a.2.2.1 2 i22) + (1 : Int32))) fun s24 =>
    some (.inl (a.1, (a.2.1 + (1 : Int32)), s24))
  else
  some (.inl (a.1, (a.2.1 + (1 : Int32)), a.2.2))
noncomputable def fMo_tick (m : Obj) : Option (Obj) :=
  (iter (fMo_tick_L2) FU ((0 : Int32), m)).bind fun e7 =>
  (iter (fMo_tick_L68) FU ((0 : Int32), e7)).bind fun e10 =>
  (iter (fMo_tick_L103) FU ((0 : Int32), e10)).bind fun e16 =>
  (iter (fMo_tick_L174) FU ((0 : Int32), (0 : Int32), e16)).bind fun e25 =>
  bnd (sI e25 2 69 ((e25.1 2 69) + (1 : Int32))) fun s26 =>
  some s26
noncomputable def fMo_goesOn_L2 (v1 : Int32) (a : Int32 × Obj) : Option ((Int32 × Obj) ⊕ (Int32 × Obj)) :=
  if v1 ≤ a.1 then
    some (.inr (a.1, a.2))
  else
  if (1000 : Int32) ≤ (a.2.1 2 69) then
    some (.inr (a.1, a.2))
  else
  (fMo_tick a.2).bind fun r1 =>
  some (.inl ((a.1 + (1 : Int32)), r1))
noncomputable def fMo_goesOn (m : Obj) (v1 : Int32) : Option (Int32 × Obj) :=
  (iter (fMo_goesOn_L2 v1) FU ((0 : Int32), m)).bind fun e2 =>
  some (e2.1, e2.2)
noncomputable def fMo_stores_L11 (a : Int32 × Obj) : Option ((Int32 × Obj) ⊕ (Obj)) :=
  if (644 : Int32) ≤ a.1 then
    some (.inr a.2)
  else
  (ix 736 (a.1 + (92 : Int32))).bind fun i1 =>
  (ix 736 a.1).bind fun i2 =>
  bnd (sI a.2 7 i2 (a.2.1 7 i1)) fun s3 =>
  some (.inl ((a.1 + (1 : Int32)), s3))
noncomputable def fMo_stores_L47 (a : Int32 × Obj) : Option ((Int32 × Obj) ⊕ (Obj)) :=
  if (92 : Int32) ≤ a.1 then
    some (.inr a.2)
  else
  (ix 342 ((69 : Int32) + a.1)).bind fun i6 =>
  (ix 736 (((92 : Int32) * (a.2.1 0 23)) + a.1)).bind fun i7 =>
  bnd (sI a.2 7 i7 (a.2.1 2 i6)) fun s8 =>
  some (.inl ((a.1 + (1 : Int32)), s8))
noncomputable def fMo_stores_J45 (m : Obj) : Option (Obj) :=
  (iter (fMo_stores_L47) FU ((0 : Int32), m)).bind fun e9 =>
  bnd (sI e9 0 23 ((e9.1 0 23) + (1 : Int32))) fun s10 =>
  some s10
noncomputable def fMo_stores (m : Obj) : Option (Obj) :=
  if (m.1 0 23) = (8 : Int32) then
    (iter (fMo_stores_L11) FU ((0 : Int32), m)).bind fun e4 =>
    bnd (sI e4 0 23 (7 : Int32)) fun s5 =>
    fMo_stores_J45 s5
  else
  fMo_stores_J45 m
noncomputable def fMo_knock (m : Obj) (v1 : Int32) (v2 : Int32) : Option (Int32 × Obj) :=
  bnd (sI m 0 0 (0 : Int32)) fun s1 =>
  (fMo_isPerson s1 v1).bind fun r2 =>
  if r2 = (0 : Int32) then
    some ((-1 : Int32), s1)
  else
  (fMo_isHouse s1 v2).bind fun r3 =>
  if r3 = (0 : Int32) then
    some ((-1 : Int32), s1)
  else
  (fMo_whyKnock s1 v1 v2).bind fun r4 =>
  if r4 ≤ (0 : Int32) then
    (fMo_stores s1).bind fun r5 =>
    (fMo_stands r5 v1 (1 : Int32) v2).bind fun r6 =>
    some ((0 : Int32), r6)
  else
  some (r4, s1)
noncomputable def fMo_go (m : Obj) (v1 : Int32) (v2 : Int32) : Option (Int32 × Obj) :=
  bnd (sI m 0 0 (0 : Int32)) fun s1 =>
  (fMo_isPerson s1 v1).bind fun r2 =>
  if r2 = (0 : Int32) then
    some ((-1 : Int32), s1)
  else
  (fMo_isIn v2 (0 : Int32) (2 : Int32)).bind fun r3 =>
  if r3 = (0 : Int32) then
    some ((-1 : Int32), s1)
  else
  (fMo_whyGo s1 v1 v2).bind fun r4 =>
  if r4 ≤ (0 : Int32) then
    (fMo_stores s1).bind fun r5 =>
    (ix 342 ((89 : Int32) + v1)).bind fun i6 =>
    bnd (sI r5 2 i6 v2) fun s7 =>
    some ((0 : Int32), s7)
  else
  some (r4, s1)
noncomputable def fMo_quit (m : Obj) (v1 : Int32) : Option (Int32 × Obj) :=
  bnd (sI m 0 0 (0 : Int32)) fun s1 =>
  (fMo_isPerson s1 v1).bind fun r2 =>
  if r2 = (0 : Int32) then
    some ((-1 : Int32), s1)
  else
  (ix 342 ((73 : Int32) + v1)).bind fun i3 =>
  if (s1.1 2 i3) = (1 : Int32) then
    (fMo_stores s1).bind fun r4 =>
    (fMo_stands r4 v1 (0 : Int32) (-1 : Int32)).bind fun r5 =>
    some ((0 : Int32), r5)
  else
  some ((1 : Int32), s1)
noncomputable def fMo_meets (m : Obj) (v1 : Int32) (v2 : Int32) : Option (Int32 × Obj) :=
  bnd (sI m 0 0 (0 : Int32)) fun s1 =>
  (fMo_isPerson s1 v1).bind fun r2 =>
  if r2 = (0 : Int32) then
    some ((-1 : Int32), s1)
  else
  (fMo_isPerson s1 v2).bind fun r3 =>
  if r3 = (0 : Int32) then
    some ((-1 : Int32), s1)
  else
  if v1 = v2 then
    some ((-1 : Int32), s1)
  else
  (ix 342 ((113 : Int32) + v1)).bind fun i4 =>
  (fMo_bitOf (s1.1 2 i4) v2).bind fun r5 =>
  if r5 = (0 : Int32) then
    (fMo_stores s1).bind fun r6 =>
    (fMo_knowsIn_2 r6 (113 : Int32) v1 v2).bind fun r7 =>
    some ((0 : Int32), r7)
  else
  some ((1 : Int32), s1)
noncomputable def fMo_calls (m : Obj) (v1 : Int32) (v2 : Int32) : Option (Int32 × Obj) :=
  bnd (sI m 0 0 (0 : Int32)) fun s1 =>
  (fMo_isPerson s1 v1).bind fun r2 =>
  if r2 = (0 : Int32) then
    some ((-1 : Int32), s1)
  else
  (fMo_isHouse s1 v2).bind fun r3 =>
  if r3 = (0 : Int32) then
    some ((-1 : Int32), s1)
  else
  (fMo_whyCall s1 v1 v2).bind fun r4 =>
  if r4 ≤ (0 : Int32) then
    (fMo_stores s1).bind fun r5 =>
    (fMo_books r5 v1 v2).bind fun r6 =>
    some ((0 : Int32), r6)
  else
  some (r4, s1)
noncomputable def fMo_ticks (m : Obj) (v1 : Int32) : Option (Int32 × Obj) :=
  bnd (sI m 0 0 (0 : Int32)) fun s1 =>
  (fMo_isIn v1 (1 : Int32) (60 : Int32)).bind fun r2 =>
  if r2 = (0 : Int32) then
    some ((-1 : Int32), s1)
  else
  if (s1.1 2 69) = (1000 : Int32) then
    some ((0 : Int32), s1)
  else
  (fMo_stores s1).bind fun r3 =>
  (fMo_goesOn r3 v1).bind fun r4 =>
  some (r4.1, r4.2)
noncomputable def fMo_undo_L26 (a : Int32 × Obj) : Option ((Int32 × Obj) ⊕ (Obj)) :=
  if (92 : Int32) ≤ a.1 then
    some (.inr a.2)
  else
  (ix 736 (((92 : Int32) * (a.2.1 0 23)) + a.1)).bind fun i3 =>
  (ix 342 ((69 : Int32) + a.1)).bind fun i4 =>
  bnd (sI a.2 2 i4 (a.2.1 7 i3)) fun s5 =>
  some (.inl ((a.1 + (1 : Int32)), s5))
noncomputable def fMo_undo (m : Obj) : Option (Int32 × Obj) :=
  bnd (sI m 0 0 (0 : Int32)) fun s1 =>
  if (s1.1 0 23) = (0 : Int32) then
    some ((-1 : Int32), s1)
  else
  bnd (sI s1 0 23 ((s1.1 0 23) - (1 : Int32))) fun s2 =>
  (iter (fMo_undo_L26) FU ((0 : Int32), s2)).bind fun e6 =>
  some ((e6.1 0 23), e6)
noncomputable def fMo_tries_L2 (a : Int32 × Obj) : Option ((Int32 × Obj) ⊕ (Obj)) :=
  if (92 : Int32) ≤ a.1 then
    some (.inr a.2)
  else
  (ix 342 ((69 : Int32) + a.1)).bind fun i1 =>
  (ix 92 a.1).bind fun i2 =>
  bnd (sI a.2 8 i2 (a.2.1 2 i1)) fun s3 =>
  some (.inl ((a.1 + (1 : Int32)), s3))
noncomputable def fMo_tries (m : Obj) : Option (Obj) :=
  (iter (fMo_tries_L2) FU ((0 : Int32), m)).bind fun e4 =>
  some e4
noncomputable def fMo_brings_L2 (a : Int32 × Obj) : Option ((Int32 × Obj) ⊕ (Obj)) :=
  if (92 : Int32) ≤ a.1 then
    some (.inr a.2)
  else
  (ix 92 a.1).bind fun i1 =>
  (ix 342 ((69 : Int32) + a.1)).bind fun i2 =>
  bnd (sI a.2 2 i2 (a.2.1 8 i1)) fun s3 =>
  some (.inl ((a.1 + (1 : Int32)), s3))
noncomputable def fMo_brings (m : Obj) : Option (Obj) :=
  (iter (fMo_brings_L2) FU ((0 : Int32), m)).bind fun e4 =>
  some e4
noncomputable def fMo_answer (m : Obj) (v1 : Int32) : Option (Int32 × Obj) :=
  bnd (sI m 0 0 (0 : Int32)) fun s1 =>
  (fMo_isPerson s1 v1).bind fun r2 =>
  if r2 = (0 : Int32) then
    some ((-1 : Int32), s1)
  else
  (ix 342 ((73 : Int32) + v1)).bind fun i3 =>
  if (s1.1 2 i3) = (1 : Int32) then
    (ix 342 ((97 : Int32) + v1)).bind fun i4 =>
    (fMo_answers s1 ((s1.1 2 i4) - (1 : Int32)) (0 : Int32)).bind fun r5 =>
    some (r5, s1)
  else
  some ((-1 : Int32), s1)
noncomputable def fMo_areAnswered_L2 (a : Int32 × Obj) : Option ((Int32 × Obj) ⊕ (Obj)) :=
  if (256 : Int32) ≤ a.1 then
    some (.inr a.2)
  else
  if a.1 = (0 : Int32) then
    (ix 256 a.1).bind fun i1 =>
    bnd (sI a.2 9 i1 (1 : Int32)) fun s2 =>
    some (.inl ((a.1 + (1 : Int32)), s2))
  else
  (ix 256 a.1).bind fun i3 =>
  bnd (sI a.2 9 i3 (0 : Int32)) fun s4 =>
  some (.inl ((a.1 + (1 : Int32)), s4))
noncomputable def fMo_areAnswered_L67 (m : Obj) (v2 : Int32) (v3 : Int32) (a : Int32 × Int32) : Option ((Int32 × Int32) ⊕ (Int32)) :=
  if (m.1 2 1) ≤ a.2 then
    some (.inr a.1)
  else
  if a.1 = (0 : Int32) then
    (fMo_bitOf v3 a.2).bind fun r7 =>
    if r7 = (0 : Int32) then
      some (.inl ((0 : Int32), (a.2 + (1 : Int32))))
    else
    (ix 342 ((97 : Int32) + v2)).bind fun i8 =>
    (fMo_canAnswer m a.2 ((m.1 2 i8) - (1 : Int32))).bind fun r9 =>
    if r9 = (0 : Int32) then
      some (.inl ((0 : Int32), (a.2 + (1 : Int32))))
    else
    (ix 256 (v3 ^^^ (shl (1 : Int32) a.2))).bind fun i10 =>
    if (m.1 9 i10) = (0 : Int32) then
      some (.inl ((0 : Int32), (a.2 + (1 : Int32))))
    else
    some (.inl ((1 : Int32), (a.2 + (1 : Int32))))
  else
  some (.inr a.1)
noncomputable def fMo_areAnswered_L57 (v2 : Int32) (a : Int32 × Obj) : Option ((Int32 × Obj) ⊕ (Obj)) :=
  if a.1 < (0 : Int32) then
    some (.inr a.2)
  else
  (iter (fMo_areAnswered_L67 a.2 v2 a.1) FU ((0 : Int32), (0 : Int32))).bind fun e11 =>
  (ix 256 a.1).bind fun i12 =>
  bnd (sI a.2 9 i12 (bz e11)) fun s13 =>
  some (.inl ((a.1 + (-1 : Int32)), s13))
noncomputable def fMo_areAnswered_L32 (v1 : Int32) (a : Int32 × Obj) : Option ((Int32 × Obj) ⊕ (Obj)) :=
  if (a.2.1 2 1) ≤ a.1 then
    some (.inr a.2)
  else
  (fMo_bitOf v1 a.1).bind fun r6 =>
  if r6 = (0 : Int32) then
    some (.inl ((a.1 + (1 : Int32)), a.2))
  else
  (iter (fMo_areAnswered_L57 a.1) FU ((255 : Int32), a.2)).bind fun e14 =>
  some (.inl ((a.1 + (1 : Int32)), e14))
noncomputable def fMo_areAnswered_L163 (m : Obj) (a : Int32 × Int32) : Option ((Int32 × Int32) ⊕ (Int32)) :=
  if (256 : Int32) ≤ a.2 then
    some (.inr a.1)
  else
  if a.1 = (0 : Int32) then
    (ix 256 a.2).bind fun i16 =>
    if (m.1 9 i16) = (0 : Int32) then
      some (.inl ((0 : Int32), (a.2 + (1 : Int32))))
    else
    some (.inl ((1 : Int32), (a.2 + (1 : Int32))))
  else
  some (.inl ((1 : Int32), (a.2 + (1 : Int32))))
noncomputable def fMo_areAnswered (m : Obj) (v1 : Int32) : Option (Int32 × Obj) :=
  (iter (fMo_areAnswered_L2) FU ((0 : Int32), m)).bind fun e5 =>
  (iter (fMo_areAnswered_L32 v1) FU ((0 : Int32), e5)).bind fun e15 =>
  (iter (fMo_areAnswered_L163 e15) FU ((0 : Int32), (0 : Int32))).bind fun e17 =>
  some ((bz e17), e15)
noncomputable def fMo_most_L15 (v1 : Int32) (a : Int32 × Int32 × Obj) : Option ((Int32 × Int32 × Obj) ⊕ (Int32 × Obj)) :=
  if v1 < a.2.1 then
    some (.inr (a.1, a.2.2))
  else
  if (a.2.1 &&& (v1 ^^^ (-1 : Int32))) = (0 : Int32) then
    (fMo_bits a.2.1).bind fun r3 =>
    (fMo_bits a.1).bind fun r4 =>
    if r3 ≤ r4 then
      some (.inl (a.1, (a.2.1 + (1 : Int32)), a.2.2))
    else
    (fMo_areAnswered a.2.2 a.2.1).bind fun r5 =>
    if r5.1 = (0 : Int32) then
      some (.inl (a.1, (a.2.1 + (1 : Int32)), r5.2))
    else
    some (.inl (a.2.1, (a.2.1 + (1 : Int32)), r5.2))
  else
  some (.inl (a.1, (a.2.1 + (1 : Int32)), a.2.2))
noncomputable def fMo_most (m : Obj) : Option (Int32 × Obj) :=
  bnd (sI m 0 0 (0 : Int32)) fun s1 =>
  (fMo_are s1 (1 : Int32)).bind fun r2 =>
  (iter (fMo_most_L15 r2) FU ((0 : Int32), (1 : Int32), s1)).bind fun e6 =>
  bnd (sI e6.2 0 25 (1 : Int32)) fun s7 =>
  bnd (sI s7 0 24 e6.1) fun s8 =>
  (fMo_bits e6.1).bind fun r9 =>
  some (r9, s8)
noncomputable def fMo_those (m : Obj) : Option (Int32 × Obj) :=
  bnd (sI m 0 0 (0 : Int32)) fun s1 =>
  if (s1.1 0 25) = (0 : Int32) then
    some ((-1 : Int32), s1)
  else
  some ((s1.1 0 24), s1)
noncomputable def fMo_chain_L25 (v2 : Int32) (a : Int32 × Obj) : Option ((Int32 × Obj) ⊕ (Obj)) :=
  if (8 : Int32) ≤ a.1 then
    some (.inr a.2)
  else
  if a.1 = v2 then
    (ix 8 a.1).bind fun i4 =>
    bnd (sI a.2 10 i4 (0 : Int32)) fun s5 =>
    some (.inl ((a.1 + (1 : Int32)), s5))
  else
  (ix 8 a.1).bind fun i6 =>
  bnd (sI a.2 10 i6 (1000000 : Int32)) fun s7 =>
  some (.inl ((a.1 + (1 : Int32)), s7))
noncomputable def fMo_chain_L80 (v4 : Int32) (a : Int32 × Obj) : Option ((Int32 × Obj) ⊕ (Obj)) :=
  if (a.2.1 2 1) ≤ a.1 then
    some (.inr a.2)
  else
  (ix 342 ((113 : Int32) + v4)).bind fun i9 =>
  (fMo_bitOf (a.2.1 2 i9) a.1).bind fun r10 =>
  if r10 = (0 : Int32) then
    some (.inl ((a.1 + (1 : Int32)), a.2))
  else
  (ix 8 a.1).bind fun i11 =>
  (ix 8 v4).bind fun i12 =>
  if (a.2.1 10 i12) ≤ ((a.2.1 10 i11) + (1 : Int32)) then
    some (.inl ((a.1 + (1 : Int32)), a.2))
  else
  (ix 8 a.1).bind fun i13 =>
  (ix 8 v4).bind fun i14 =>
  bnd (sI a.2 10 i14 ((a.2.1 10 i13) + (1 : Int32))) fun s15 =>
  some (.inl ((a.1 + (1 : Int32)), s15))
noncomputable def fMo_chain_L66 (a : Int32 × Obj) : Option ((Int32 × Obj) ⊕ (Obj)) :=
  if (a.2.1 2 1) ≤ a.1 then
    some (.inr a.2)
  else
  (iter (fMo_chain_L80 a.1) FU ((0 : Int32), a.2)).bind fun e16 =>
  some (.inl ((a.1 + (1 : Int32)), e16))
noncomputable def fMo_chain_L57 (a : Int32 × Obj) : Option ((Int32 × Obj) ⊕ (Obj)) :=
  if (8 : Int32) ≤ a.1 then
    some (.inr a.2)
  else
  (iter (fMo_chain_L66) FU ((0 : Int32), a.2)).bind fun e17 =>
  some (.inl ((a.1 + (1 : Int32)), e17))
noncomputable def fMo_chain_L197 (m : Obj) (v3 : Int32) (v4 : Int32) (a : Int32) : Option ((Int32) ⊕ (Int32)) :=
  (ix 8 (v4 - (1 : Int32))).bind fun i22 =>
  (ix 342 ((113 : Int32) + (m.1 11 i22))).bind fun i23 =>
  (fMo_bitOf (m.1 2 i23) a).bind fun r24 =>
  if r24 = (0 : Int32) then
    some (.inl (a + (1 : Int32)))
  else
  (ix 8 a).bind fun i25 =>
  if (m.1 10 i25) = (v3 - v4) then
    some (.inr a)
  else
  some (.inl (a + (1 : Int32)))
noncomputable def fMo_chain_L188 (v3 : Int32) (a : Int32 × Obj) : Option ((Int32 × Obj) ⊕ (Obj)) :=
  if v3 < a.1 then
    some (.inr a.2)
  else
  (iter (fMo_chain_L197 a.2 v3 a.1) FU (0 : Int32)).bind fun e26 =>
  (ix 8 a.1).bind fun i27 =>
  bnd (sI a.2 11 i27 e26) fun s28 =>
  some (.inl ((a.1 + (1 : Int32)), s28))
noncomputable def fMo_chain (m : Obj) (v1 : Int32) (v2 : Int32) : Option (Int32 × Obj) :=
  bnd (sI m 0 0 (0 : Int32)) fun s1 =>
  (fMo_isPerson s1 v1).bind fun r2 =>
  if r2 = (0 : Int32) then
    some ((-1 : Int32), s1)
  else
  (fMo_isPerson s1 v2).bind fun r3 =>
  if r3 = (0 : Int32) then
    some ((-1 : Int32), s1)
  else
  (iter (fMo_chain_L25 v2) FU ((0 : Int32), s1)).bind fun e8 =>
  (iter (fMo_chain_L57) FU ((0 : Int32), e8)).bind fun e18 =>
  (ix 8 v1).bind fun i19 =>
  bnd ((e18.1 10 i19)) fun x20 =>
  if x20 < (1000000 : Int32) then
    bnd (sI e18 11 0 v1) fun s21 =>
    (iter (fMo_chain_L188 x20) FU ((1 : Int32), s21)).bind fun e29 =>
    bnd (sI e29 0 29 (x20 + (1 : Int32))) fun s30 =>
    some (x20, s30)
  else
  some ((-1 : Int32), e18)
noncomputable def fMo_chainAt (m : Obj) (v1 : Int32) : Option (Int32 × Obj) :=
  bnd (sI m 0 0 (0 : Int32)) fun s1 =>
  (fMo_isIn v1 (0 : Int32) ((s1.1 0 29) - (1 : Int32))).bind fun r2 =>
  if r2 = (0 : Int32) then
    some ((-1 : Int32), s1)
  else
  (ix 8 v1).bind fun i3 =>
  some ((s1.1 11 i3), s1)
noncomputable def fMo_isMeant_L4 (m : Obj) (v1 : Int32) (a : Int32 × Int32) : Option ((Int32 × Int32) ⊕ (Int32)) :=
  if (m.1 0 3) ≤ a.2 then
    some (.inr a.1)
  else
  if a.1 = (0 : Int32) then
    some (.inr a.1)
  else
  (fMo_octet m a.2).bind fun r1 =>
  if r1 = v1 then
    some (.inl ((0 : Int32), (a.2 + (2 : Int32))))
  else
  (fMo_octet m a.2).bind fun r2 =>
  (ix 342 ((113 : Int32) + r2)).bind fun i3 =>
  (fMo_octet m (a.2 + (1 : Int32))).bind fun r4 =>
  if ((shr (m.1 2 i3) v1) &&& (1 : Int32)) = r4 then
    some (.inl ((1 : Int32), (a.2 + (2 : Int32))))
  else
  some (.inl ((0 : Int32), (a.2 + (2 : Int32))))
noncomputable def fMo_isMeant (m : Obj) (v1 : Int32) : Option (Int32) :=
  (iter (fMo_isMeant_L4 m v1) FU ((1 : Int32), (0 : Int32))).bind fun e5 =>
  some (bz e5)
noncomputable def fMo_leftBy (m : Obj) (v1 : Int32) (v2 : Int32) : Option (Int32) :=
  (ix 342 ((113 : Int32) + v2)).bind fun i1 =>
  (fMo_bits (v1 &&& (m.1 2 i1))).bind fun r2 =>
  bnd (((shr v1 v2) &&& (1 : Int32))) fun x3 =>
  (fMo_bits v1).bind fun r4 =>
  (fMo_greater r2 ((r4 - r2) - x3)).bind fun r5 =>
  (fMo_greater r5 x3).bind fun r6 =>
  some r6
noncomputable def fMo_who_L39 (m : Obj) (a : Int32) : Option ((Int32) ⊕ ((Unit) ⊕ (Int32 × Obj))) :=
  if (m.1 0 3) ≤ a then
    some (.inr (.inl ()))
  else
  (fMo_octet m a).bind fun r4 =>
  (fMo_isPerson m r4).bind fun r5 =>
  if r5 = (0 : Int32) then
    some (.inr (.inr ((-1 : Int32), m)))
  else
  (fMo_octet m (a + (1 : Int32))).bind fun r6 =>
  if r6 ≤ (1 : Int32) then
    some (.inl (a + (2 : Int32)))
  else
  some (.inr (.inr ((-1 : Int32), m)))
noncomputable def fMo_who_L82 (m : Obj) (a : Int32 × Int32) : Option ((Int32 × Int32) ⊕ (Int32)) :=
  if (m.1 2 1) ≤ a.2 then
    some (.inr a.1)
  else
  (fMo_isMeant m a.2).bind fun r8 =>
  if r8 = (0 : Int32) then
    bnd ((a.1 ||| (0 : Int32))) fun x9 =>
    some (.inl (x9, (a.2 + (1 : Int32))))
  else
  bnd ((a.1 ||| (shl (1 : Int32) a.2))) fun x10 =>
  some (.inl (x10, (a.2 + (1 : Int32))))
noncomputable def fMo_who_L134 (v1 : Int32) (a : Int32 × Obj) : Option ((Int32 × Obj) ⊕ (Obj)) :=
  if (a.2.1 2 1) ≤ a.1 then
    some (.inr a.2)
  else
  (fMo_leftBy a.2 v1 a.1).bind fun r14 =>
  (fMo_leftBy a.2 v1 (a.2.1 0 30)).bind fun r15 =>
  if r15 ≤ r14 then
    some (.inl ((a.1 + (1 : Int32)), a.2))
  else
  bnd (sI a.2 0 30 a.1) fun s16 =>
  some (.inl ((a.1 + (1 : Int32)), s16))
noncomputable def fMo_who (m : Obj) : Option (Int32 × Obj) :=
  bnd (sI m 0 0 (0 : Int32)) fun s1 =>
  (fMo_taken s1 (940 : Int32)).bind fun r2 =>
  (fMo_isIn (r2.1 0 3) (2 : Int32) (12 : Int32)).bind fun r3 =>
  if r3 = (0 : Int32) then
    some ((-1 : Int32), r2)
  else
  if (irm (r2.1 0 3) (2 : Int32)) = (1 : Int32) then
    some ((-1 : Int32), r2)
  else
  (iter (fMo_who_L39 r2) FU (0 : Int32)).bind fun z => Sum.elim (fun _ =>
    (iter (fMo_who_L82 r2) FU ((0 : Int32), (0 : Int32))).bind fun e11 =>
    if e11 = (0 : Int32) then
      some ((0 : Int32), r2)
    else
    bnd (sI r2 0 31 (1 : Int32)) fun s12 =>
    bnd (sI s12 0 30 (0 : Int32)) fun s13 =>
    (iter (fMo_who_L134 e11) FU ((1 : Int32), s13)).bind fun e17 =>
    some (e11, e17))
    (fun r18 => some r18) z
noncomputable def fMo_ask (m : Obj) : Option (Int32 × Obj) :=
  bnd (sI m 0 0 (0 : Int32)) fun s1 =>
  if (s1.1 0 31) = (0 : Int32) then
    some ((-1 : Int32), s1)
  else
  some ((s1.1 0 30), s1)
noncomputable def fMo_opens_L36 (v1 : Int32) (a : Int32 × Int32 × Obj) : Option ((Int32 × Int32 × Obj) ⊕ (Int32 × Obj)) :=
  if (300 : Int32) < a.2.1 then
    some (.inr (a.1, a.2.2))
  else
  (ix 342 ((73 : Int32) + v1)).bind fun i5 =>
  if (a.2.2.1 2 i5) = (1 : Int32) then
    (fMo_tick a.2.2).bind fun r6 =>
    (ix 342 ((73 : Int32) + v1)).bind fun i7 =>
    if (r6.1 2 i7) = (2 : Int32) then
      some (.inl (a.2.1, (a.2.1 + (1 : Int32)), r6))
    else
    some (.inl (a.1, (a.2.1 + (1 : Int32)), r6))
  else
  some (.inr (a.1, a.2.2))
noncomputable def fMo_opens (m : Obj) (v1 : Int32) : Option (Int32 × Obj) :=
  bnd (sI m 0 0 (0 : Int32)) fun s1 =>
  (fMo_isPerson s1 v1).bind fun r2 =>
  if r2 = (0 : Int32) then
    some ((-1 : Int32), s1)
  else
  (ix 342 ((73 : Int32) + v1)).bind fun i3 =>
  if (s1.1 2 i3) = (1 : Int32) then
    (fMo_tries s1).bind fun r4 =>
    (iter (fMo_opens_L36 v1) FU ((-1 : Int32), (1 : Int32), r4)).bind fun e8 =>
    (fMo_brings e8.2).bind fun r9 =>
    some (e8.1, r9)
  else
  some ((-1 : Int32), s1)
noncomputable def fMo_known_J33 (m : Obj) (v1 : Int32) (v2 : Int32) : Option ((Int32 × Int32 × Obj) ⊕ (Int32 × Obj)) :=
  (fMo_tick m).bind fun r4 =>
  some (.inl (v1, (v2 + (1 : Int32)), r4))
noncomputable def fMo_known_L13 (a : Int32 × Int32 × Obj) : Option ((Int32 × Int32 × Obj) ⊕ (Int32 × Obj)) :=
  if (300 : Int32) < a.2.1 then
    some (.inr (a.1, a.2.2))
  else
  if (0 : Int32) ≤ a.1 then
    some (.inr (a.1, a.2.2))
  else
  (fMo_openHouses a.2.2).bind fun r3 =>
  if r3 = (0 : Int32) then
    fMo_known_J33 a.2.2 a.2.1 a.2.1
  else
  fMo_known_J33 a.2.2 a.1 a.2.1
noncomputable def fMo_known (m : Obj) : Option (Int32 × Obj) :=
  bnd (sI m 0 0 (0 : Int32)) fun s1 =>
  (fMo_tries s1).bind fun r2 =>
  (iter (fMo_known_L13) FU ((-1 : Int32), (0 : Int32), r2)).bind fun e5 =>
  (fMo_brings e5.2).bind fun r6 =>
  some (e5.1, r6)
noncomputable def fMo_meet_J97 (m : Obj) (v3 : Int32) (v4 : Int32) : Option ((Int32 × Int32 × Obj) ⊕ (Int32 × Obj)) :=
  (fMo_tick m).bind fun r9 =>
  some (.inl (v3, (v4 + (1 : Int32)), r9))
noncomputable def fMo_meet_L37 (v1 : Int32) (v2 : Int32) (a : Int32 × Int32 × Obj) : Option ((Int32 × Int32 × Obj) ⊕ (Int32 × Obj)) :=
  if (300 : Int32) < a.2.1 then
    some (.inr (a.1, a.2.2))
  else
  if (0 : Int32) ≤ a.1 then
    some (.inr (a.1, a.2.2))
  else
  (ix 342 ((73 : Int32) + v1)).bind fun i5 =>
  if (a.2.2.1 2 i5) = (0 : Int32) then
    (ix 342 ((73 : Int32) + v2)).bind fun i6 =>
    if (a.2.2.1 2 i6) = (0 : Int32) then
      (ix 342 ((81 : Int32) + v1)).bind fun i7 =>
      (ix 342 ((81 : Int32) + v2)).bind fun i8 =>
      if (a.2.2.1 2 i7) = (a.2.2.1 2 i8) then
        fMo_meet_J97 a.2.2 a.2.1 a.2.1
      else
      fMo_meet_J97 a.2.2 a.1 a.2.1
    else
    fMo_meet_J97 a.2.2 a.1 a.2.1
  else
  fMo_meet_J97 a.2.2 a.1 a.2.1
noncomputable def fMo_meet (m : Obj) (v1 : Int32) (v2 : Int32) : Option (Int32 × Obj) :=
  bnd (sI m 0 0 (0 : Int32)) fun s1 =>
  (fMo_isPerson s1 v1).bind fun r2 =>
  if r2 = (0 : Int32) then
    some ((-1 : Int32), s1)
  else
  (fMo_isPerson s1 v2).bind fun r3 =>
  if r3 = (0 : Int32) then
    some ((-1 : Int32), s1)
  else
  if v1 = v2 then
    some ((-1 : Int32), s1)
  else
  (fMo_tries s1).bind fun r4 =>
  (iter (fMo_meet_L37 v1 v2) FU ((-1 : Int32), (0 : Int32), r4)).bind fun e10 =>
  (fMo_brings e10.2).bind fun r11 =>
  some (e10.1, r11)
noncomputable def fMo_busiest_L9 (m : Obj) (a : Int32 × Int32) : Option ((Int32 × Int32) ⊕ (Int32)) :=
  if (m.1 2 1) ≤ a.2 then
    some (.inr a.1)
  else
  (ix 342 ((129 : Int32) + a.2)).bind fun i2 =>
  if (m.1 2 i2) ≤ (0 : Int32) then
    some (.inl (a.1, (a.2 + (1 : Int32))))
  else
  if a.1 < (0 : Int32) then
    some (.inl (a.2, (a.2 + (1 : Int32))))
  else
  (ix 342 ((129 : Int32) + a.2)).bind fun i3 =>
  (ix 342 ((129 : Int32) + a.1)).bind fun i4 =>
  if (m.1 2 i3) ≤ (m.1 2 i4) then
    some (.inl (a.1, (a.2 + (1 : Int32))))
  else
  some (.inl (a.2, (a.2 + (1 : Int32))))
noncomputable def fMo_busiest (m : Obj) : Option (Int32 × Obj) :=
  bnd (sI m 0 0 (0 : Int32)) fun s1 =>
  (iter (fMo_busiest_L9 s1) FU ((-1 : Int32), (0 : Int32))).bind fun e5 =>
  some (e5, s1)
noncomputable def fMo_mean_L36 (m : Obj) (a : Int32 × Int32) : Option ((Int32 × Int32) ⊕ (Int32)) :=
  if (m.1 2 1) ≤ a.2 then
    some (.inr a.1)
  else
  (ix 342 ((113 : Int32) + a.2)).bind fun i2 =>
  (fMo_bits (m.1 2 i2)).bind fun r3 =>
  bnd ((a.1 + r3)) fun x4 =>
  some (.inl (x4, (a.2 + (1 : Int32))))
noncomputable def fMo_mean_L77 (a : Int32 × Int32) : Option ((Int32 × Int32) ⊕ (Int32)) :=
  if a.2 = (0 : Int32) then
    some (.inr a.1)
  else
  (nz a.2).bind fun _ =>
  bnd ((irm a.1 a.2)) fun x7 =>
  some (.inl (a.2, x7))
noncomputable def fMo_mean_J24 (m : Obj) (v1 : Int32) (k1 : Int32) : Option (Int32 × Obj) :=
  (fMo_throwsIf m k1).bind fun r1 =>
  if r1.1 = (0 : Int32) then
    (iter (fMo_mean_L36 r1.2) FU ((0 : Int32), (0 : Int32))).bind fun e5 =>
    bnd ((r1.2.1 2 1)) fun x6 =>
    (iter (fMo_mean_L77) FU (x6, e5)).bind fun e8 =>
    if v1 = (0 : Int32) then
      (nz e8).bind fun _ =>
      some ((e5 / e8), r1.2)
    else
    (nz e8).bind fun _ =>
    some (((r1.2.1 2 1) / e8), r1.2)
  else
  some ((0 : Int32), r1.2)
noncomputable def fMo_mean_J19 (m : Obj) (v1 : Int32) : Option (Int32 × Obj) :=
  fMo_mean_J24 m v1 (1 : Int32)
noncomputable def fMo_mean (m : Obj) (v1 : Int32) : Option (Int32 × Obj) :=
  if (m.1 2 1) = (0 : Int32) then
    fMo_mean_J19 m v1
  else
  (fMo_isIn v1 (0 : Int32) (1 : Int32)).bind fun r9 =>
  if r9 = (0 : Int32) then
    fMo_mean_J19 m v1
  else
  fMo_mean_J24 m v1 (0 : Int32)
noncomputable def fMo_lays (m : Obj) (v1 : Int32) : Option (Obj) :=
  (ix 40 (m.1 0 33)).bind fun i1 =>
  bnd (sI m 12 i1 (i2b (i2b v1))) fun s2 =>
  bnd (sI s2 0 33 ((s2.1 0 33) + (1 : Int32))) fun s3 =>
  some s3
noncomputable def fMo_spells_L3 (v1 : Int64) (a : Int32 × Obj) : Option ((Int32 × Obj) ⊕ (Obj)) :=
  if a.1 < (0 : Int32) then
    some (.inr a.2)
  else
  if (lg_cmp ((lshr v1 a.1) &&& (255 : Int64)) (0 : Int64)) = (0 : Int32) then
    some (.inl ((a.1 + (-8 : Int32)), a.2))
  else
  (fMo_lays a.2 (l2i ((lshr v1 a.1) &&& (255 : Int64)))).bind fun r1 =>
  some (.inl ((a.1 + (-8 : Int32)), r1))
noncomputable def fMo_spells (m : Obj) (v1 : Int64) : Option (Obj) :=
  (iter (fMo_spells_L3 v1) FU ((56 : Int32), m)).bind fun e2 =>
  some e2
noncomputable def fMo_says (m : Obj) (v1 : Int64) : Option (Obj) :=
  (fMo_lays m (32 : Int32)).bind fun r1 =>
  (fMo_spells r1 v1).bind fun r2 =>
  some r2
noncomputable def fMo_tag_J222 (m : Obj) (k1 : Int64) : Option (Int32 × Obj) :=
  (fMo_says m k1).bind fun r13 =>
  some ((r13.1 0 33), r13)
noncomputable def fMo_tag_J162 (m : Obj) (v1 : Int32) : Option (Int32 × Obj) :=
  (ix 342 ((81 : Int32) + v1)).bind fun i10 =>
  (fMo_lays m ((48 : Int32) + (irm (m.1 2 i10) (10 : Int32)))).bind fun r11 =>
  (ix 342 ((89 : Int32) + v1)).bind fun i12 =>
  if (r11.1 2 i12) = (0 : Int32) then
    fMo_tag_J222 r11 (30064 : Int64)
  else
  (ix 342 ((89 : Int32) + v1)).bind fun i14 =>
  if (r11.1 2 i14) = (1 : Int32) then
    fMo_tag_J222 r11 (1685026670 : Int64)
  else
  fMo_tag_J222 r11 (126943688025203 : Int64)
noncomputable def fMo_tag_J88 (m : Obj) (v1 : Int32) (k1 : Int64) : Option (Int32 × Obj) :=
  (fMo_says m k1).bind fun r20 =>
  (ix 342 ((97 : Int32) + v1)).bind fun i21 =>
  (ix 28 ((r20.1 2 i21) - (1 : Int32))).bind fun i22 =>
  (fMo_says r20 (r20.2 5 i22)).bind fun r23 =>
  some ((r23.1 0 33), r23)
noncomputable def fMo_tag_J65 (m : Obj) (v1 : Int32) : Option (Int32 × Obj) :=
  (ix 342 ((73 : Int32) + v1)).bind fun i19 =>
  if (m.1 2 i19) = (1 : Int32) then
    fMo_tag_J88 m v1 (24948 : Int64)
  else
  fMo_tag_J88 m v1 (26990 : Int64)
noncomputable def fMo_tag (m : Obj) (v1 : Int32) : Option (Int32 × Obj) :=
  bnd (sI m 0 0 (0 : Int32)) fun s1 =>
  (fMo_isPerson s1 v1).bind fun r2 =>
  if r2 = (0 : Int32) then
    some ((-1 : Int32), s1)
  else
  bnd (sI s1 0 33 (0 : Int32)) fun s3 =>
  (ix 28 ((6 : Int32) + v1)).bind fun i4 =>
  (fMo_spells s3 (s3.2 5 i4)).bind fun r5 =>
  (ix 342 ((73 : Int32) + v1)).bind fun i6 =>
  if (r5.1 2 i6) = (0 : Int32) then
    (fMo_says r5 (24948 : Int64)).bind fun r7 =>
    (fMo_lays r7 (32 : Int32)).bind fun r8 =>
    (ix 342 ((81 : Int32) + v1)).bind fun i9 =>
    if (r8.1 2 i9) ≤ (9 : Int32) then
      fMo_tag_J162 r8 v1
    else
    (ix 342 ((81 : Int32) + v1)).bind fun i15 =>
    (fMo_lays r8 ((48 : Int32) + ((r8.1 2 i15) / (10 : Int32)))).bind fun r16 =>
    fMo_tag_J162 r16 v1
  else
  (ix 342 ((73 : Int32) + v1)).bind fun i17 =>
  if (r5.1 2 i17) = (1 : Int32) then
    (fMo_says r5 (118122059361139 : Int64)).bind fun r18 =>
    fMo_tag_J65 r18 v1
  else
  fMo_tag_J65 r5 v1
noncomputable def fMo_byteAt (m : Obj) (v1 : Int32) : Option (Int32 × Obj) :=
  bnd (sI m 0 0 (0 : Int32)) fun s1 =>
  (fMo_isIn v1 (0 : Int32) ((s1.1 0 33) - (1 : Int32))).bind fun r2 =>
  if r2 = (0 : Int32) then
    some ((-1 : Int32), s1)
  else
  (ix 40 v1).bind fun i3 =>
  some ((s1.1 12 i3), s1)
noncomputable def fMo_draw (m : Obj) (v1 : Int32) : Option (Int32 × Obj) :=
  bnd (sI m 0 34 (((m.1 0 34) * (1103515245 : Int32)) + (12345 : Int32))) fun s1 =>
  (nz v1).bind fun _ =>
  some ((irm (ushr (s1.1 0 34) (8 : Int32)) v1), s1)
noncomputable def fMo_drawPerson_J112 (m : Obj) (v1 : Int32) (v2 : Int32) (v3 : Int32) : Option (Obj) :=
  if v2 = (2 : Int32) then
    (fMo_whyCall m v1 v3).bind fun r11 =>
    if r11 = (0 : Int32) then
      (fMo_books m v1 v3).bind fun r12 =>
      some r12
    else
    some m
  else
  some m
noncomputable def fMo_drawPerson_J71 (m : Obj) (v1 : Int32) (v2 : Int32) : Option (Obj) :=
  if (m.1 2 0) = (0 : Int32) then
    some m
  else
  (fMo_draw m (m.1 2 0)).bind fun r8 =>
  if v2 = (0 : Int32) then
    (fMo_whyKnock r8.2 v1 r8.1).bind fun r9 =>
    if r9 = (0 : Int32) then
      (fMo_stands r8.2 v1 (1 : Int32) r8.1).bind fun r10 =>
      fMo_drawPerson_J112 r10 v1 v2 r8.1
    else
    fMo_drawPerson_J112 r8.2 v1 v2 r8.1
  else
  fMo_drawPerson_J112 r8.2 v1 v2 r8.1
noncomputable def fMo_drawPerson_J62 (m : Obj) (v1 : Int32) (v2 : Int32) : Option (Obj) :=
  if v2 = (0 : Int32) then
    fMo_drawPerson_J71 m v1 v2
  else
  if v2 = (2 : Int32) then
    fMo_drawPerson_J71 m v1 v2
  else
  some m
noncomputable def fMo_drawPerson_J37 (m : Obj) (v1 : Int32) (v2 : Int32) : Option (Obj) :=
  if v2 = (3 : Int32) then
    (ix 342 ((73 : Int32) + v1)).bind fun i6 =>
    if (m.1 2 i6) = (1 : Int32) then
      (fMo_stands m v1 (0 : Int32) (-1 : Int32)).bind fun r7 =>
      fMo_drawPerson_J62 r7 v1 v2
    else
    fMo_drawPerson_J62 m v1 v2
  else
  fMo_drawPerson_J62 m v1 v2
noncomputable def fMo_drawPerson (m : Obj) (v1 : Int32) : Option (Obj) :=
  (fMo_draw m (8 : Int32)).bind fun r1 =>
  if r1.1 = (1 : Int32) then
    (fMo_draw r1.2 (3 : Int32)).bind fun r2 =>
    (fMo_whyGo r2.2 v1 r2.1).bind fun r3 =>
    if r3 = (0 : Int32) then
      (ix 342 ((89 : Int32) + v1)).bind fun i4 =>
      bnd (sI r2.2 2 i4 r2.1) fun s5 =>
      fMo_drawPerson_J37 s5 v1 r1.1
    else
    fMo_drawPerson_J37 r2.2 v1 r1.1
  else
  fMo_drawPerson_J37 r1.2 v1 r1.1
noncomputable def fMo_draws_L28 (a : Int32 × Obj) : Option ((Int32 × Obj) ⊕ (Obj)) :=
  if (a.2.1 2 1) ≤ a.1 then
    some (.inr a.2)
  else
  (fMo_drawPerson a.2 a.1).bind fun r2 =>
  some (.inl ((a.1 + (1 : Int32)), r2))
noncomputable def fMo_draws_L7 (v1 : Int32) (a : Int32 × Obj) : Option ((Int32 × Obj) ⊕ (Int32 × Obj)) :=
  if v1 ≤ a.1 then
    some (.inr (a.1, a.2))
  else
  if (1000 : Int32) ≤ (a.2.1 2 69) then
    some (.inr (a.1, a.2))
  else
  (iter (fMo_draws_L28) FU ((0 : Int32), a.2)).bind fun e3 =>
  (fMo_tick e3).bind fun r4 =>
  some (.inl ((a.1 + (1 : Int32)), r4))
noncomputable def fMo_draws (m : Obj) (v1 : Int32) (v2 : Int32) : Option (Int32 × Obj) :=
  bnd (sI m 0 34 v2) fun s1 =>
  (iter (fMo_draws_L7 v1) FU ((0 : Int32), s1)).bind fun e5 =>
  some (e5.1, e5.2)
noncomputable def fMo_drawn_J34 (m : Obj) (v1 : Int32) (v2 : Int32) : Option (Int32 × Obj) :=
  (fMo_draws m v1 v2).bind fun r3 =>
  some (r3.1, r3.2)
noncomputable def fMo_drawn (m : Obj) (v1 : Int32) (v2 : Int32) : Option (Int32 × Obj) :=
  bnd (sI m 0 0 (0 : Int32)) fun s1 =>
  (fMo_isIn v1 (1 : Int32) (60 : Int32)).bind fun r2 =>
  if r2 = (0 : Int32) then
    some ((-1 : Int32), s1)
  else
  if (1000 : Int32) ≤ (s1.1 2 69) then
    fMo_drawn_J34 s1 v1 v2
  else
  (fMo_stores s1).bind fun r4 =>
  fMo_drawn_J34 r4 v1 v2
noncomputable def fMo_odds_J72 (m : Obj) (v5 : Int32) (k0 : Int32) (k1 : Int32) : Option ((Int32 × Int32 × Obj) ⊕ (Int32 × Obj)) :=
  bnd ((k0 + k1)) fun x7 =>
  (fMo_brings m).bind fun r8 =>
  some (.inl (x7, (v5 + (1 : Int32)), r8))
noncomputable def fMo_odds_L35 (v1 : Int32) (v2 : Int32) (v3 : Int32) (a : Int32 × Int32 × Obj) : Option ((Int32 × Int32 × Obj) ⊕ (Int32 × Obj)) :=
  if v2 ≤ a.2.1 then
    some (.inr (a.1, a.2.2))
  else
  (fMo_draws a.2.2 (20 : Int32) (v3 + a.2.1)).bind fun r5 =>
  (ix 342 ((73 : Int32) + v1)).bind fun i6 =>
  if (r5.2.1 2 i6) = (2 : Int32) then
    fMo_odds_J72 r5.2 a.2.1 a.1 (1 : Int32)
  else
  fMo_odds_J72 r5.2 a.2.1 a.1 (0 : Int32)
noncomputable def fMo_odds (m : Obj) (v1 : Int32) (v2 : Int32) (v3 : Int32) : Option (Int32 × Obj) :=
  bnd (sI m 0 0 (0 : Int32)) fun s1 =>
  (fMo_isPerson s1 v1).bind fun r2 =>
  if r2 = (0 : Int32) then
    some ((-1 : Int32), s1)
  else
  (fMo_isIn v2 (1 : Int32) (30 : Int32)).bind fun r3 =>
  if r3 = (0 : Int32) then
    some ((-1 : Int32), s1)
  else
  (fMo_tries s1).bind fun r4 =>
  (iter (fMo_odds_L35 v1 v2 v3) FU ((0 : Int32), (0 : Int32), r4)).bind fun e9 =>
  some (e9.1, e9.2)
noncomputable def fMo_bookLine_J289 (m : Obj) (v1 : Int32) (k0 : Int32) : Option (Int32 × Obj) :=
  (ix 135 (v1 + (2 : Int32))).bind fun i23 =>
  bnd (sI m 4 i23 (m.1 0 18)) fun s24 =>
  some ((bz k0), s24)
noncomputable def fMo_bookLine_J168 (m : Obj) (v1 : Int32) (v3 : Int32) (k0 : Int32) : Option (Int32 × Obj) :=
  if (0 : Int32) ≤ k0 then
    (fMo_next m).bind fun r12 =>
    (ix 135 v1).bind fun i13 =>
    bnd (sI r12 4 i13 k0) fun s14 =>
    (ix 135 (v1 + (1 : Int32))).bind fun i15 =>
    bnd (sI s14 4 i15 v3) fun s16 =>
    if k0 = (2 : Int32) then
      some ((1 : Int32), s16)
    else
    if k0 = (3 : Int32) then
      (fMo_looksAt s16 (6 : Int32) (s16.1 2 1)).bind fun r17 =>
      if r17.1 = (0 : Int32) then
        some ((0 : Int32), r17.2)
      else
      if (r17.2.1 0 18) = v3 then
        (fMo_bad r17.2 (3 : Int32)).bind fun r18 =>
        some ((bz r18.1), r18.2)
      else
      (ix 135 (v1 + (2 : Int32))).bind fun i19 =>
      bnd (sI r17.2 4 i19 (r17.2.1 0 18)) fun s20 =>
      (fMo_next s20).bind fun r21 =>
      some ((1 : Int32), r21)
    else
    if k0 = (1 : Int32) then
      (fMo_takesWay s16).bind fun r22 =>
      fMo_bookLine_J289 r22.2 v1 r22.1
    else
    (fMo_takesName s16 (0 : Int32) (s16.1 2 0)).bind fun r25 =>
    fMo_bookLine_J289 r25.2 v1 r25.1
  else
  (fMo_bad m (1 : Int32)).bind fun r26 =>
  some ((bz r26.1), r26.2)
noncomputable def fMo_bookLine_J36 (m : Obj) (v1 : Int32) (v2 : Int32) : Option (Int32 × Obj) :=
  if (m.1 0 35) = (40 : Int32) then
    (fMo_bad m (4 : Int32)).bind fun r4 =>
    some ((bz r4.1), r4.2)
  else
  bnd ((m.1 0 18)) fun x5 =>
  (fMo_next m).bind fun r6 =>
  if v2 = (0 : Int32) then
    (fMo_isWord r6 (118122059361139 : Int64)).bind fun r7 =>
    if r7 = (0 : Int32) then
      (fMo_isWord r6 (1735353715 : Int64)).bind fun r8 =>
      if r8 = (0 : Int32) then
        (fMo_isWord r6 (487301149811 : Int64)).bind fun r9 =>
        if r9 = (0 : Int32) then
          (fMo_isWord r6 (469852583027 : Int64)).bind fun r10 =>
          if r10 = (0 : Int32) then
            (fMo_isWord r6 (426836257907 : Int64)).bind fun r11 =>
            if r11 = (0 : Int32) then
              fMo_bookLine_J168 r6 v1 x5 (-1 : Int32)
            else
            fMo_bookLine_J168 r6 v1 x5 (4 : Int32)
          else
          fMo_bookLine_J168 r6 v1 x5 (3 : Int32)
        else
        fMo_bookLine_J168 r6 v1 x5 (2 : Int32)
      else
      fMo_bookLine_J168 r6 v1 x5 (1 : Int32)
    else
    fMo_bookLine_J168 r6 v1 x5 (0 : Int32)
  else
  (ix 135 v1).bind fun i27 =>
  bnd (sI r6 4 i27 (5 : Int32)) fun s28 =>
  (fMo_takes s28 (1 : Int32) (60 : Int32)).bind fun r29 =>
  if r29.1 = (0 : Int32) then
    some ((0 : Int32), r29.2)
  else
  (ix 135 (v1 + (1 : Int32))).bind fun i30 =>
  bnd (sI r29.2 4 i30 (r29.2.1 0 18)) fun s31 =>
  some ((1 : Int32), s31)
noncomputable def fMo_bookLine (m : Obj) : Option (Int32 × Obj) :=
  bnd (((3 : Int32) * (m.1 0 35))) fun x1 =>
  (fMo_isWord m (1953063787 : Int64)).bind fun r2 =>
  if r2 = (0 : Int32) then
    (fMo_looksAt m (6 : Int32) (m.1 2 1)).bind fun r3 =>
    if r3.1 = (0 : Int32) then
      some ((0 : Int32), r3.2)
    else
    fMo_bookLine_J36 r3.2 x1 r2
  else
  fMo_bookLine_J36 m x1 r2
noncomputable def fMo_does_J213 (m : Obj) (v1 : Int32) (v4 : Int32) : Option (Int32 × Obj) :=
  if v4 ≤ (0 : Int32) then
    some ((0 : Int32), m)
  else
  some ((v4 + ((10 : Int32) * v1)), m)
noncomputable def fMo_does_J107 (m : Obj) (v1 : Int32) (v2 : Int32) (k0 : Int32) : Option (Int32 × Obj) :=
  if k0 = (0 : Int32) then
    (fMo_stands m v2 (0 : Int32) (-1 : Int32)).bind fun r7 =>
    fMo_does_J213 r7 v1 k0
  else
  fMo_does_J213 m v1 k0
noncomputable def fMo_does_J200 (m : Obj) (v1 : Int32) (v2 : Int32) (k0 : Int32) : Option (Int32 × Obj) :=
  if k0 = (0 : Int32) then
    (fMo_goesOn m v2).bind fun r13 =>
    fMo_does_J213 r13.2 v1 k0
  else
  fMo_does_J213 m v1 k0
noncomputable def fMo_does (m : Obj) (v1 : Int32) (v2 : Int32) (v3 : Int32) : Option (Int32 × Obj) :=
  if v1 = (0 : Int32) then
    (fMo_whyKnock m v2 v3).bind fun r1 =>
    if r1 = (0 : Int32) then
      (fMo_stands m v2 (1 : Int32) v3).bind fun r2 =>
      fMo_does_J213 r2 v1 r1
    else
    fMo_does_J213 m v1 r1
  else
  if v1 = (1 : Int32) then
    (fMo_whyGo m v2 v3).bind fun r3 =>
    if r3 = (0 : Int32) then
      (ix 342 ((89 : Int32) + v2)).bind fun i4 =>
      bnd (sI m 2 i4 v3) fun s5 =>
      fMo_does_J213 s5 v1 r3
    else
    fMo_does_J213 m v1 r3
  else
  if v1 = (2 : Int32) then
    (ix 342 ((73 : Int32) + v2)).bind fun i6 =>
    if (m.1 2 i6) = (1 : Int32) then
      fMo_does_J107 m v1 v2 (0 : Int32)
    else
    fMo_does_J107 m v1 v2 (1 : Int32)
  else
  if v1 = (3 : Int32) then
    (ix 342 ((113 : Int32) + v2)).bind fun i8 =>
    bnd (((shr (m.1 2 i8) v3) &&& (1 : Int32))) fun x9 =>
    if x9 = (0 : Int32) then
      (fMo_knowsIn_2 m (113 : Int32) v2 v3).bind fun r10 =>
      fMo_does_J213 r10 v1 x9
    else
    fMo_does_J213 m v1 x9
  else
  if v1 = (4 : Int32) then
    (fMo_whyCall m v2 v3).bind fun r11 =>
    if r11 = (0 : Int32) then
      (fMo_books m v2 v3).bind fun r12 =>
      fMo_does_J213 r12 v1 r11
    else
    fMo_does_J213 m v1 r11
  else
  if ((m.1 2 69) + v2) ≤ (1000 : Int32) then
    fMo_does_J200 m v1 v2 (0 : Int32)
  else
  fMo_does_J200 m v1 v2 (1 : Int32)
noncomputable def fMo_book_L39 (a : Obj) : Option ((Obj) ⊕ ((Obj) ⊕ (Int32 × Obj))) :=
  if (a.1 0 11) = (0 : Int32) then
    some (.inr (.inl a))
  else
  (fMo_bookLine a).bind fun r7 =>
  if r7.1 = (0 : Int32) then
    some (.inr (.inr (((-2 : Int32) - (r7.2.1 0 16)), r7.2)))
  else
  (fMo_sign r7.2 (59 : Int32)).bind fun r8 =>
  if r8.1 = (0 : Int32) then
    some (.inr (.inr (((-2 : Int32) - (r8.2.1 0 16)), r8.2)))
  else
  bnd (sI r8.2 0 35 ((r8.2.1 0 35) + (1 : Int32))) fun s9 =>
  some (.inl s9)
noncomputable def fMo_book_L89 (a : Int32 × Obj) : Option ((Int32 × Obj) ⊕ (Obj)) :=
  if (4 : Int32) ≤ a.1 then
    some (.inr a.2)
  else
  (ix 4 a.1).bind fun i12 =>
  bnd (sI a.2 13 i12 (0 : Int32)) fun s13 =>
  some (.inl ((a.1 + (1 : Int32)), s13))
noncomputable def fMo_book_L111 (a : Int32 × Int32 × Obj) : Option ((Int32 × Int32 × Obj) ⊕ (Int32 × Obj)) :=
  if (a.2.2.1 0 35) ≤ a.2.1 then
    some (.inr (a.1, a.2.2))
  else
  if (0 : Int32) ≤ a.1 then
    some (.inr (a.1, a.2.2))
  else
  (ix 135 ((3 : Int32) * a.2.1)).bind fun i15 =>
  (ix 135 (((3 : Int32) * a.2.1) + (1 : Int32))).bind fun i16 =>
  (ix 135 (((3 : Int32) * a.2.1) + (2 : Int32))).bind fun i17 =>
  (fMo_does a.2.2 (a.2.2.1 4 i15) (a.2.2.1 4 i16) (a.2.2.1 4 i17)).bind fun r18 =>
  bnd (sI r18.2 13 0 r18.1) fun s19 =>
  if (s19.1 13 0) ≤ (0 : Int32) then
    bnd (sI s19 13 1 ((s19.1 13 1) + (1 : Int32))) fun s20 =>
    some (.inl (a.1, (a.2.1 + (1 : Int32)), s20))
  else
  some (.inl (a.2.1, (a.2.1 + (1 : Int32)), s19))
noncomputable def fMo_book_J274 (m : Obj) (v1 : Int32) (v2 : Int32) : Option (Int32 × Obj) :=
  if v1 = (0 : Int32) then
    (fMo_brings m).bind fun r26 =>
    some (v2, r26)
  else
  some (v2, m)
noncomputable def fMo_book_L240 (a : Int32 × Obj) : Option ((Int32 × Obj) ⊕ (Obj)) :=
  if (92 : Int32) ≤ a.1 then
    some (.inr a.2)
  else
  (ix 92 a.1).bind fun i28 =>
  (ix 736 (((92 : Int32) * ((a.2.1 0 23) - (1 : Int32))) + a.1)).bind fun i29 =>
  bnd (sI a.2 7 i29 (a.2.1 8 i28)) fun s30 =>
  some (.inl ((a.1 + (1 : Int32)), s30))
noncomputable def fMo_book (m : Obj) (v1 : Int32) : Option (Int32 × Obj) :=
  bnd (sI m 0 0 (0 : Int32)) fun s1 =>
  (fMo_isIn v1 (0 : Int32) (1 : Int32)).bind fun r2 =>
  if r2 = (0 : Int32) then
    some ((-1000 : Int32), s1)
  else
  (fMo_taken s1 (400 : Int32)).bind fun r3 =>
  bnd (sI r3 0 15 (0 : Int32)) fun s4 =>
  bnd (sI s4 0 35 (0 : Int32)) fun s5 =>
  (fMo_next s5).bind fun r6 =>
  (iter (fMo_book_L39) FU r6).bind fun z => Sum.elim (fun e10 =>
    (fMo_tries e10).bind fun r11 =>
    (iter (fMo_book_L89) FU ((0 : Int32), r11)).bind fun e14 =>
    (iter (fMo_book_L111) FU ((-1 : Int32), (0 : Int32), e14)).bind fun e21 =>
    bnd (sI e21.2 13 2 (e21.2.1 2 69)) fun s22 =>
    (fMo_are s22 (2 : Int32)).bind fun r23 =>
    bnd (sI s22 13 3 r23) fun s24 =>
    bnd (sI s24 0 37 (1 : Int32)) fun s25 =>
    if v1 = (1 : Int32) then
      if (s25.1 13 1) ≤ (0 : Int32) then
        fMo_book_J274 s25 v1 e21.1
      else
      (fMo_stores s25).bind fun r27 =>
      (iter (fMo_book_L240) FU ((0 : Int32), r27)).bind fun e31 =>
      fMo_book_J274 e31 v1 e21.1
    else
    fMo_book_J274 s25 v1 e21.1)
    (fun r32 => some r32) z
noncomputable def fMo_told (m : Obj) (v1 : Int32) : Option (Int32 × Obj) :=
  bnd (sI m 0 0 (0 : Int32)) fun s1 =>
  if (s1.1 0 37) = (0 : Int32) then
    some ((-1 : Int32), s1)
  else
  (fMo_isIn v1 (0 : Int32) (3 : Int32)).bind fun r2 =>
  if r2 = (0 : Int32) then
    some ((-1 : Int32), s1)
  else
  (ix 4 v1).bind fun i3 =>
  some ((s1.1 13 i3), s1)
noncomputable def fMo_code (m : Obj) (v1 : Int32) (v2 : Int32) (v3 : Int32) : Option (Obj) :=
  (ix 135 ((3 : Int32) * (m.1 0 39))).bind fun i1 =>
  bnd (sI m 4 i1 v1) fun s2 =>
  (ix 135 (((3 : Int32) * (s2.1 0 39)) + (1 : Int32))).bind fun i3 =>
  bnd (sI s2 4 i3 v2) fun s4 =>
  (ix 135 (((3 : Int32) * (s4.1 0 39)) + (2 : Int32))).bind fun i5 =>
  bnd (sI s4 4 i5 v3) fun s6 =>
  bnd (sI s6 0 39 ((s6.1 0 39) + (1 : Int32))) fun s7 =>
  some s7
noncomputable def fMo_joins_J45 (m : Obj) : Option ((Obj) ⊕ (Obj)) :=
  bnd (sI m 0 41 ((m.1 0 41) - (1 : Int32))) fun s2 =>
  (ix 45 (s2.1 0 41)).bind fun i3 =>
  (fMo_code s2 (s2.1 14 i3) (0 : Int32) (0 : Int32)).bind fun r4 =>
  some (.inl r4)
noncomputable def fMo_joins_L0 (v1 : Int32) (a : Obj) : Option ((Obj) ⊕ (Obj)) :=
  if (a.1 0 41) ≤ (0 : Int32) then
    some (.inr a)
  else
  (ix 45 ((a.1 0 41) - (1 : Int32))).bind fun i1 =>
  if (a.1 14 i1) = (21 : Int32) then
    fMo_joins_J45 a
  else
  (ix 45 ((a.1 0 41) - (1 : Int32))).bind fun i5 =>
  if (a.1 14 i5) = (22 : Int32) then
    if v1 = (22 : Int32) then
      fMo_joins_J45 a
    else
    some (.inr a)
  else
  some (.inr a)
noncomputable def fMo_joins (m : Obj) (v1 : Int32) : Option (Obj) :=
  (iter (fMo_joins_L0 v1) FU m).bind fun e6 =>
  some e6
noncomputable def fMo_nots_L0 (a : Obj) : Option ((Obj) ⊕ (Obj)) :=
  if (a.1 0 41) ≤ (0 : Int32) then
    some (.inr a)
  else
  (ix 45 ((a.1 0 41) - (1 : Int32))).bind fun i1 =>
  if (a.1 14 i1) = (20 : Int32) then
    bnd (sI a 0 41 ((a.1 0 41) - (1 : Int32))) fun s2 =>
    bnd (sI s2 0 42 ((s2.1 0 42) - (1 : Int32))) fun s3 =>
    (fMo_code s3 (20 : Int32) (0 : Int32) (0 : Int32)).bind fun r4 =>
    some (.inl r4)
  else
  some (.inr a)
noncomputable def fMo_nots (m : Obj) : Option (Obj) :=
  (iter (fMo_nots_L0) FU m).bind fun e5 =>
  some e5
noncomputable def fMo_leafOf (m : Obj) : Option (Int32) :=
  (fMo_isWord m (33602640515001959 : Int64)).bind fun r1 =>
  if r1 = (0 : Int32) then
    (fMo_isWord m (7741247282290978407 : Int64)).bind fun r2 =>
    if r2 = (0 : Int32) then
      (fMo_isWord m (115923103605861 : Int64)).bind fun r3 =>
      if r3 = (0 : Int32) then
        (fMo_isWord m (495874044526 : Int64)).bind fun r4 =>
        if r4 = (0 : Int32) then
          (fMo_isWord m (461414299507 : Int64)).bind fun r5 =>
          if r5 = (0 : Int32) then
            (fMo_isWord m (28518 : Int64)).bind fun r6 =>
            if r6 = (0 : Int32) then
              (fMo_isWord m (482854658917 : Int64)).bind fun r7 =>
              if r7 = (0 : Int32) then
                (fMo_isWord m (461414299502 : Int64)).bind fun r8 =>
                if r8 = (0 : Int32) then
                  (fMo_isWord m (131260264768868 : Int64)).bind fun r9 =>
                  if r9 = (0 : Int32) then
                    (fMo_isWord m (121450625394034 : Int64)).bind fun r10 =>
                    if r10 = (0 : Int32) then
                      some (-1 : Int32)
                    else
                    some (9 : Int32)
                  else
                  some (8 : Int32)
                else
                some (7 : Int32)
              else
              some (6 : Int32)
            else
            some (5 : Int32)
          else
          some (4 : Int32)
        else
        some (3 : Int32)
      else
      some (2 : Int32)
    else
    some (1 : Int32)
  else
  some (0 : Int32)
noncomputable def fMo_operand_J56 (m : Obj) : Option (Int32 × Obj) :=
  (fMo_bad m (4 : Int32)).bind fun r4 =>
  some ((bz r4.1), r4.2)
noncomputable def fMo_operand_J233 (m : Obj) : Option (Int32 × Obj) :=
  (fMo_bad m (1 : Int32)).bind fun r8 =>
  some ((bz r8.1), r8.2)
noncomputable def fMo_operand_J182 (m : Obj) (v3 : Int32) (k0 : Int32) : Option (Int32 × Obj) :=
  if k0 = (0 : Int32) then
    some ((0 : Int32), m)
  else
  (fMo_code m v3 (0 : Int32) (m.1 0 18)).bind fun r15 =>
  (fMo_next r15).bind fun r16 =>
  some ((1 : Int32), r16)
noncomputable def fMo_operand_J103 (m : Obj) (k1 : Int32) (k2 : Int32) : Option (Int32 × Obj) :=
  (ix 45 k1).bind fun i19 =>
  bnd (sI m 14 i19 k2) fun s20 =>
  bnd (sI s20 0 41 ((s20.1 0 41) + (1 : Int32))) fun s21 =>
  bnd (sI s21 0 42 ((s21.1 0 42) + (1 : Int32))) fun s22 =>
  some ((1 : Int32), s22)
noncomputable def fMo_operand_J84 (m : Obj) (v1 : Int32) : Option (Int32 × Obj) :=
  if v1 = (0 : Int32) then
    fMo_operand_J103 m (m.1 0 41) (23 : Int32)
  else
  fMo_operand_J103 m (m.1 0 41) (20 : Int32)
noncomputable def fMo_operand_J38 (m : Obj) (v1 : Int32) (v2 : Int32) (v3 : Int32) : Option (Int32 × Obj) :=
  if (m.1 0 40) = (20 : Int32) then
    fMo_operand_J56 m
  else
  if (m.1 0 42) ≤ (8 : Int32) then
    bnd (sI m 0 40 ((m.1 0 40) + (1 : Int32))) fun s5 =>
    (fMo_next s5).bind fun r6 =>
    if v1 = (0 : Int32) then
      if v2 = (0 : Int32) then
        bnd (sI r6 0 43 (1 : Int32)) fun s7 =>
        if (4 : Int32) ≤ v3 then
          if (6 : Int32) ≤ v3 then
            if (s7.1 0 11) = (3 : Int32) then
              if (s7.1 0 14) < (60 : Int32) then
                fMo_operand_J233 s7
              else
              if (s7.1 0 14) ≤ (62 : Int32) then
                bnd ((s7.1 0 14)) fun x9 =>
                (fMo_next s7).bind fun r10 =>
                if (r10.1 0 11) = (2 : Int32) then
                  (fMo_code r10 v3 x9 (r10.1 0 14)).bind fun r11 =>
                  (fMo_next r11).bind fun r12 =>
                  some ((1 : Int32), r12)
                else
                (fMo_bad r10 (1 : Int32)).bind fun r13 =>
                some ((bz r13.1), r13.2)
              else
              fMo_operand_J233 s7
            else
            fMo_operand_J233 s7
          else
          if v3 = (4 : Int32) then
            (fMo_looksAt s7 (6 : Int32) (s7.1 2 1)).bind fun r14 =>
            fMo_operand_J182 r14.2 v3 r14.1
          else
          (fMo_looksAt s7 (0 : Int32) (s7.1 2 0)).bind fun r17 =>
          fMo_operand_J182 r17.2 v3 r17.1
        else
        (fMo_code s7 v3 (0 : Int32) (0 : Int32)).bind fun r18 =>
        some ((1 : Int32), r18)
      else
      fMo_operand_J84 r6 v1
    else
    fMo_operand_J84 r6 v1
  else
  fMo_operand_J56 m
noncomputable def fMo_operand (m : Obj) : Option (Int32 × Obj) :=
  (fMo_isWord m (7237492 : Int64)).bind fun r1 =>
  (fMo_isSign m (40 : Int32)).bind fun r2 =>
  (fMo_leafOf m).bind fun r3 =>
  if r1 = (0 : Int32) then
    if r2 = (0 : Int32) then
      if (0 : Int32) ≤ r3 then
        fMo_operand_J38 m r1 r2 r3
      else
      (fMo_bad m (1 : Int32)).bind fun r23 =>
      some ((bz r23.1), r23.2)
    else
    fMo_operand_J38 m r1 r2 r3
  else
  fMo_operand_J38 m r1 r2 r3
noncomputable def fMo_behind_J114 (m : Obj) : Option (Int32 × Obj) :=
  (fMo_bad m (1 : Int32)).bind fun r6 =>
  some ((bz r6.1), r6.2)
noncomputable def fMo_behind_J70 (m : Obj) (k1 : Int32) (k2 : Int32) : Option (Int32 × Obj) :=
  (ix 45 k1).bind fun i13 =>
  bnd (sI m 14 i13 k2) fun s14 =>
  bnd (sI s14 0 41 ((s14.1 0 41) + (1 : Int32))) fun s15 =>
  bnd (sI s15 0 43 (0 : Int32)) fun s16 =>
  (fMo_next s16).bind fun r17 =>
  some ((1 : Int32), r17)
noncomputable def fMo_behind_J42 (m : Obj) (k1 : Int32) : Option (Int32 × Obj) :=
  (fMo_joins m k1).bind fun r11 =>
  (fMo_isWord r11 (6385252 : Int64)).bind fun r12 =>
  if r12 = (0 : Int32) then
    fMo_behind_J70 r11 (r11.1 0 41) (22 : Int32)
  else
  fMo_behind_J70 r11 (r11.1 0 41) (21 : Int32)
noncomputable def fMo_behind_J24 (m : Obj) : Option (Int32 × Obj) :=
  (fMo_isWord m (6385252 : Int64)).bind fun r10 =>
  if r10 = (0 : Int32) then
    fMo_behind_J42 m (22 : Int32)
  else
  fMo_behind_J42 m (21 : Int32)
noncomputable def fMo_behind (m : Obj) : Option (Int32 × Obj) :=
  (fMo_nots m).bind fun r1 =>
  (fMo_isWord r1 (6385252 : Int64)).bind fun r2 =>
  if r2 = (0 : Int32) then
    (fMo_isWord r1 (28530 : Int64)).bind fun r3 =>
    if r3 = (0 : Int32) then
      (fMo_joins r1 (22 : Int32)).bind fun r4 =>
      (fMo_isSign r4 (41 : Int32)).bind fun r5 =>
      if r5 = (0 : Int32) then
        fMo_behind_J114 r4
      else
      if (r4.1 0 41) = (0 : Int32) then
        fMo_behind_J114 r4
      else
      bnd (sI r4 0 41 ((r4.1 0 41) - (1 : Int32))) fun s7 =>
      bnd (sI s7 0 42 ((s7.1 0 42) - (1 : Int32))) fun s8 =>
      (fMo_next s8).bind fun r9 =>
      some ((1 : Int32), r9)
    else
    fMo_behind_J24 r1
  else
  fMo_behind_J24 r1
noncomputable def fMo_sentence_J101 (m : Obj) (v1 : Int32) : Option ((Int32 × Obj) ⊕ ((Obj) ⊕ (Int32 × Obj))) :=
  if (m.1 0 43) = (0 : Int32) then
    (fMo_operand m).bind fun r10 =>
    if r10.1 = (0 : Int32) then
      some (.inr (.inr (((-1 : Int32) - (r10.2.1 0 16)), r10.2)))
    else
    some (.inl (v1, r10.2))
  else
  (fMo_behind m).bind fun r11 =>
  if r11.1 = (0 : Int32) then
    some (.inr (.inr (((-1 : Int32) - (r11.2.1 0 16)), r11.2)))
  else
  some (.inl (v1, r11.2))
noncomputable def fMo_sentence_L48 (a : Int32 × Obj) : Option ((Int32 × Obj) ⊕ ((Obj) ⊕ (Int32 × Obj))) :=
  if a.1 = (0 : Int32) then
    some (.inr (.inl a.2))
  else
  if (a.2.1 0 43) = (0 : Int32) then
    fMo_sentence_J101 a.2 a.1
  else
  if (a.2.1 0 11) = (0 : Int32) then
    (fMo_nots a.2).bind fun r12 =>
    (fMo_joins r12 (22 : Int32)).bind fun r13 =>
    if (r13.1 0 41) ≤ (0 : Int32) then
      some (.inl ((0 : Int32), r13))
    else
    (fMo_bad r13 (1 : Int32)).bind fun r14 =>
    some (.inr (.inr (((-1 : Int32) - (r14.2.1 0 16)), r14.2)))
  else
  fMo_sentence_J101 a.2 a.1
noncomputable def fMo_sentence_L146 (a : Int32 × Obj) : Option ((Int32 × Obj) ⊕ (Obj)) :=
  if ((3 : Int32) * (a.2.1 0 39)) ≤ a.1 then
    some (.inr a.2)
  else
  (ix 135 a.1).bind fun i17 =>
  (ix 342 ((162 : Int32) + a.1)).bind fun i18 =>
  bnd (sI a.2 2 i18 (a.2.1 4 i17)) fun s19 =>
  some (.inl ((a.1 + (1 : Int32)), s19))
noncomputable def fMo_sentence (m : Obj) : Option (Int32 × Obj) :=
  bnd (sI m 0 0 (0 : Int32)) fun s1 =>
  (fMo_taken s1 (200 : Int32)).bind fun r2 =>
  bnd (sI r2 0 15 (0 : Int32)) fun s3 =>
  bnd (sI s3 0 39 (0 : Int32)) fun s4 =>
  bnd (sI s4 0 40 (0 : Int32)) fun s5 =>
  bnd (sI s5 0 41 (0 : Int32)) fun s6 =>
  bnd (sI s6 0 42 (1 : Int32)) fun s7 =>
  bnd (sI s7 0 43 (0 : Int32)) fun s8 =>
  (fMo_next s8).bind fun r9 =>
  (iter (fMo_sentence_L48) FU ((1 : Int32), r9)).bind fun z => Sum.elim (fun e15 =>
    bnd (sI e15 2 161 (e15.1 0 39)) fun s16 =>
    (iter (fMo_sentence_L146) FU ((0 : Int32), s16)).bind fun e20 =>
    some ((e20.1 0 40), e20))
    (fun r21 => some r21) z
noncomputable def fMo_isLeaf_J146 (v3 : Int32) (v4 : Int32) (k0 : Int32) : Option (Int32) :=
  if v3 = (60 : Int32) then
    if v4 ≤ k0 then
      some (0 : Int32)
    else
    some (1 : Int32)
  else
  if v3 = (61 : Int32) then
    if k0 = v4 then
      some (1 : Int32)
    else
    some (0 : Int32)
  else
  if k0 ≤ v4 then
    some (0 : Int32)
  else
  some (1 : Int32)
noncomputable def fMo_isLeaf (m : Obj) (v1 : Int32) (v2 : Int32) (v3 : Int32) (v4 : Int32) : Option (Int32) :=
  if (3 : Int32) ≤ v2 then
    if v2 = (3 : Int32) then
      (fMo_bitOf (m.1 2 35) v1).bind fun r1 =>
      some (bz r1)
    else
    if v2 = (4 : Int32) then
      (ix 342 ((113 : Int32) + v1)).bind fun i2 =>
      (fMo_bitOf (m.1 2 i2) v4).bind fun r3 =>
      some (bz r3)
    else
    if v2 = (5 : Int32) then
      (ix 342 ((11 : Int32) + v1)).bind fun i4 =>
      if (m.1 2 i4) = (v4 + (1 : Int32)) then
        some (1 : Int32)
      else
      some (0 : Int32)
    else
    if v2 = (6 : Int32) then
      (ix 342 ((81 : Int32) + v1)).bind fun i5 =>
      fMo_isLeaf_J146 v3 v4 (m.1 2 i5)
    else
    if v2 = (7 : Int32) then
      (ix 342 ((113 : Int32) + v1)).bind fun i6 =>
      (fMo_bits (m.1 2 i6)).bind fun r7 =>
      fMo_isLeaf_J146 v3 v4 r7
    else
    if v2 = (8 : Int32) then
      (ix 342 ((121 : Int32) + v1)).bind fun i8 =>
      fMo_isLeaf_J146 v3 v4 (m.1 2 i8)
    else
    fMo_isLeaf_J146 v3 v4 v1
  else
  (ix 342 ((73 : Int32) + v1)).bind fun i9 =>
  if (m.1 2 i9) = v2 then
    some (1 : Int32)
  else
  some (0 : Int32)
noncomputable def fMo_isSaid_J88 (m : Obj) (v2 : Int32) (v3 : Int32) (v4 : Int32) : Option ((Int32 × Int32 × Obj) ⊕ (Obj)) :=
  (ix 342 v4).bind fun i9 =>
  if (m.1 2 i9) = (21 : Int32) then
    (ix 45 ((v2 + (-1 : Int32)) - (1 : Int32))).bind fun i10 =>
    if (m.1 15 i10) = (0 : Int32) then
      (ix 45 ((v2 + (-1 : Int32)) - (1 : Int32))).bind fun i11 =>
      bnd (sI m 15 i11 (0 : Int32)) fun s12 =>
      some (.inl ((v2 + (-1 : Int32)), (v3 + (1 : Int32)), s12))
    else
    (ix 45 (v2 + (-1 : Int32))).bind fun i13 =>
    if (m.1 15 i13) = (0 : Int32) then
      (ix 45 ((v2 + (-1 : Int32)) - (1 : Int32))).bind fun i14 =>
      bnd (sI m 15 i14 (0 : Int32)) fun s15 =>
      some (.inl ((v2 + (-1 : Int32)), (v3 + (1 : Int32)), s15))
    else
    (ix 45 ((v2 + (-1 : Int32)) - (1 : Int32))).bind fun i16 =>
    bnd (sI m 15 i16 (1 : Int32)) fun s17 =>
    some (.inl ((v2 + (-1 : Int32)), (v3 + (1 : Int32)), s17))
  else
  (ix 45 ((v2 + (-1 : Int32)) - (1 : Int32))).bind fun i18 =>
  if (m.1 15 i18) = (0 : Int32) then
    (ix 45 (v2 + (-1 : Int32))).bind fun i19 =>
    if (m.1 15 i19) = (0 : Int32) then
      (ix 45 ((v2 + (-1 : Int32)) - (1 : Int32))).bind fun i20 =>
      bnd (sI m 15 i20 (0 : Int32)) fun s21 =>
      some (.inl ((v2 + (-1 : Int32)), (v3 + (1 : Int32)), s21))
    else
    (ix 45 ((v2 + (-1 : Int32)) - (1 : Int32))).bind fun i22 =>
    bnd (sI m 15 i22 (1 : Int32)) fun s23 =>
    some (.inl ((v2 + (-1 : Int32)), (v3 + (1 : Int32)), s23))
  else
  (ix 45 ((v2 + (-1 : Int32)) - (1 : Int32))).bind fun i24 =>
  bnd (sI m 15 i24 (1 : Int32)) fun s25 =>
  some (.inl ((v2 + (-1 : Int32)), (v3 + (1 : Int32)), s25))
noncomputable def fMo_isSaid_L4 (v1 : Int32) (a : Int32 × Int32 × Obj) : Option ((Int32 × Int32 × Obj) ⊕ (Obj)) :=
  if (a.2.2.1 2 161) ≤ a.2.1 then
    some (.inr a.2.2)
  else
  bnd (((162 : Int32) + ((3 : Int32) * a.2.1))) fun x1 =>
  (ix 342 x1).bind fun i2 =>
  if (a.2.2.1 2 i2) = (20 : Int32) then
    (ix 45 (a.1 - (1 : Int32))).bind fun i3 =>
    if (a.2.2.1 15 i3) = (0 : Int32) then
      (ix 45 (a.1 - (1 : Int32))).bind fun i4 =>
      bnd (sI a.2.2 15 i4 (1 : Int32)) fun s5 =>
      some (.inl (a.1, (a.2.1 + (1 : Int32)), s5))
    else
    (ix 45 (a.1 - (1 : Int32))).bind fun i6 =>
    bnd (sI a.2.2 15 i6 (0 : Int32)) fun s7 =>
    some (.inl (a.1, (a.2.1 + (1 : Int32)), s7))
  else
  (ix 342 x1).bind fun i8 =>
  if (a.2.2.1 2 i8) = (21 : Int32) then
    fMo_isSaid_J88 a.2.2 a.1 a.2.1 x1
  else
  (ix 342 x1).bind fun i26 =>
  if (a.2.2.1 2 i26) = (22 : Int32) then
    fMo_isSaid_J88 a.2.2 a.1 a.2.1 x1
  else
  (ix 342 x1).bind fun i27 =>
  (ix 342 (x1 + (1 : Int32))).bind fun i28 =>
  (ix 342 (x1 + (2 : Int32))).bind fun i29 =>
  (fMo_isLeaf a.2.2 v1 (a.2.2.1 2 i27) (a.2.2.1 2 i28) (a.2.2.1 2 i29)).bind fun r30 =>
  (ix 45 a.1).bind fun i31 =>
  bnd (sI a.2.2 15 i31 (bz r30)) fun s32 =>
  some (.inl ((a.1 + (1 : Int32)), (a.2.1 + (1 : Int32)), s32))
noncomputable def fMo_isSaid (m : Obj) (v1 : Int32) : Option (Int32 × Obj) :=
  (iter (fMo_isSaid_L4 v1) FU ((0 : Int32), (0 : Int32), m)).bind fun e33 =>
  some ((bz (e33.1 15 0)), e33)
noncomputable def fMo_said_L27 (v1 : Int32) (a : Int32 × Int32 × Obj) : Option ((Int32 × Int32 × Obj) ⊕ ((Int32 × Obj) ⊕ (Int32 × Obj))) :=
  if (a.2.2.1 2 1) ≤ a.2.1 then
    some (.inr (.inl (a.1, a.2.2)))
  else
  (fMo_isSaid a.2.2 a.2.1).bind fun r2 =>
  if r2.1 = (0 : Int32) then
    some (.inl (a.1, (a.2.1 + (1 : Int32)), r2.2))
  else
  if a.1 = v1 then
    some (.inr (.inr (a.2.1, r2.2)))
  else
  some (.inl ((a.1 + (1 : Int32)), (a.2.1 + (1 : Int32)), r2.2))
noncomputable def fMo_said (m : Obj) (v1 : Int32) : Option (Int32 × Obj) :=
  bnd (sI m 0 0 (0 : Int32)) fun s1 =>
  if (s1.1 2 161) = (0 : Int32) then
    some ((-1 : Int32), s1)
  else
  if (-1 : Int32) ≤ v1 then
    (iter (fMo_said_L27 v1) FU ((0 : Int32), (0 : Int32), s1)).bind fun z => Sum.elim (fun e3 =>
      if v1 = (-1 : Int32) then
        some (e3.1, e3.2)
      else
      some ((-1 : Int32), e3.2))
      (fun r4 => some r4) z
  else
  some ((-1 : Int32), s1)
noncomputable def fMo_image_L18 (v1 : Int32) (a : Int32 × Obj) : Option ((Int32 × Obj) ⊕ (Obj)) :=
  if (342 : Int32) ≤ a.1 then
    some (.inr a.2)
  else
  (ix 342 a.1).bind fun i3 =>
  (ix 684 (((342 : Int32) * v1) + a.1)).bind fun i4 =>
  bnd (sI a.2 16 i4 (a.2.1 2 i3)) fun s5 =>
  some (.inl ((a.1 + (1 : Int32)), s5))
noncomputable def fMo_image_L51 (v1 : Int32) (a : Int32 × Obj) : Option ((Int32 × Obj) ⊕ (Obj)) :=
  if (14 : Int32) ≤ a.1 then
    some (.inr a.2)
  else
  (ix 28 a.1).bind fun i7 =>
  (ix 28 (((14 : Int32) * v1) + a.1)).bind fun i8 =>
  bnd (sL a.2 17 i8 (a.2.2 5 i7)) fun s9 =>
  some (.inl ((a.1 + (1 : Int32)), s9))
noncomputable def fMo_image (m : Obj) (v1 : Int32) : Option (Int32 × Obj) :=
  bnd (sI m 0 0 (0 : Int32)) fun s1 =>
  (fMo_isIn v1 (0 : Int32) (1 : Int32)).bind fun r2 =>
  if r2 = (0 : Int32) then
    some ((0 : Int32), s1)
  else
  (iter (fMo_image_L18 v1) FU ((0 : Int32), s1)).bind fun e6 =>
  (iter (fMo_image_L51 v1) FU ((0 : Int32), e6)).bind fun e10 =>
  (ix 2 v1).bind fun i11 =>
  bnd (sI e10 18 i11 (1 : Int32)) fun s12 =>
  some ((1 : Int32), s12)
noncomputable def fMo_restore_L27 (v1 : Int32) (a : Int32 × Obj) : Option ((Int32 × Obj) ⊕ (Obj)) :=
  if (342 : Int32) ≤ a.1 then
    some (.inr a.2)
  else
  (ix 684 (((342 : Int32) * v1) + a.1)).bind fun i4 =>
  (ix 342 a.1).bind fun i5 =>
  bnd (sI a.2 2 i5 (a.2.1 16 i4)) fun s6 =>
  some (.inl ((a.1 + (1 : Int32)), s6))
noncomputable def fMo_restore_L60 (v1 : Int32) (a : Int32 × Obj) : Option ((Int32 × Obj) ⊕ (Obj)) :=
  if (14 : Int32) ≤ a.1 then
    some (.inr a.2)
  else
  (ix 28 (((14 : Int32) * v1) + a.1)).bind fun i8 =>
  (ix 28 a.1).bind fun i9 =>
  bnd (sL a.2 5 i9 (a.2.2 17 i8)) fun s10 =>
  some (.inl ((a.1 + (1 : Int32)), s10))
noncomputable def fMo_restore (m : Obj) (v1 : Int32) : Option (Int32 × Obj) :=
  bnd (sI m 0 0 (0 : Int32)) fun s1 =>
  (fMo_isIn v1 (0 : Int32) (1 : Int32)).bind fun r2 =>
  if r2 = (0 : Int32) then
    some ((0 : Int32), s1)
  else
  (ix 2 v1).bind fun i3 =>
  if (s1.1 18 i3) = (0 : Int32) then
    some ((0 : Int32), s1)
  else
  (iter (fMo_restore_L27 v1) FU ((0 : Int32), s1)).bind fun e7 =>
  (iter (fMo_restore_L60 v1) FU ((0 : Int32), e7)).bind fun e11 =>
  bnd (sI e11 0 23 (0 : Int32)) fun s12 =>
  some ((1 : Int32), s12)
noncomputable def fMo_count (m : Obj) (v1 : Int32) : Option (Int32 × Obj) :=
  bnd (sI m 0 0 (0 : Int32)) fun s1 =>
  if v1 = (5 : Int32) then
    some ((s1.1 0 2), s1)
  else
  (fMo_isIn v1 (0 : Int32) (4 : Int32)).bind fun r2 =>
  if r2 = (0 : Int32) then
    some ((-1 : Int32), s1)
  else
  (ix 342 v1).bind fun i3 =>
  some ((s1.1 2 i3), s1)
