/-- a person more, at his place, with his way -/
def newS (S : Nat → Nat → Nat) (n a w : Nat) : Nat → Nat → Nat := fun j r => if r = n ∧ 3 ≤ j then (if j = 4 then a else if j = 5 then w else 0) else S j r
theorem newS_old {S : Nat → Nat → Nat} {n a w j r : Nat} (h : r ≠ n) : newS S n a w j r = S j r := if_neg (fun z => h z.1)
theorem newS_low {S : Nat → Nat → Nat} {n a w j r : Nat} (h : j < 3) : newS S n a w j r = S j r := if_neg (by omega)
theorem newS_new {S : Nat → Nat → Nat} {n a w j : Nat} (h : 3 ≤ j) : newS S n a w j n = if j = 4 then a else if j = 5 then w else 0 := if_pos ⟨rfl, h⟩
theorem newS_0 {S : Nat → Nat → Nat} {n a w j : Nat} (h : 3 ≤ j) (h4 : j ≠ 4) (h5 : j ≠ 5) : newS S n a w j n = 0 := by rw [newS_new h, if_neg h4, if_neg h5]
theorem newS_4 {S : Nat → Nat → Nat} {n a w : Nat} : newS S n a w 4 n = a := by rw [newS_new (by omega), if_pos rfl]
theorem newS_5 {S : Nat → Nat → Nat} {n a w : Nat} : newS S n a w 5 n = w := by rw [newS_new (by omega), if_neg (by omega), if_pos rfl]
section
variable {z lim : Nat} {b : Nat → Nat} {ta m ta' m' m1 x y q q' qr qr' sc : Obj} {k v v0 pl p p0 : Nat} {l : List Nat} {n h L e t : Nat} {hp hm : Nat → Nat} {sr : Nat → Bool} {S : Nat → Nat → Nat} {fa fb fc : Bool}
theorem sSV_new (hn : n < 8) (hV : sSV n h L hp S) {a w : Nat} (ha : a < L) (hw : w ≤ 2) : sSV (n + 1) h L hp (newS S n a w) := by
  obtain ⟨v1, v2, v3, v4⟩ := hV
  have e0 : ∀ i, newS S n a w 0 i = S 0 i := fun i => newS_low (by omega)
  refine ⟨?_, fun k hk => ?_, fun p hpn => ?_, fun x y hx hy => ?_⟩
  · rw [e0, e0, e0]; exact v1
  · rw [e0] at hk
    rw [newS_low (by omega), newS_low (by omega)]
    exact ⟨by have := (v2 k hk).1; omega, (v2 k hk).2⟩
  · unfold sRow
    rw [e0]
    by_cases hp' : p = n
    · subst hp'
      rw [newS_0 (by omega) (by omega) (by omega), newS_4, newS_5, newS_0 (by omega) (by omega) (by omega), newS_0 (by omega) (by omega) (by omega), newS_0 (by omega) (by omega) (by omega), newS_0 (by omega) (by omega) (by omega), newS_0 (by omega) (by omega) (by omega)]
      refine ⟨⟨by omega, ha, hw, by omega, by omega, by omega, by omega, by omega⟩, ⟨by omega, by omega, by omega⟩, fun r _ => Nat.zero_testBit r, Nat.zero_testBit _⟩
    · rw [newS_old hp', newS_old hp', newS_old hp', newS_old hp', newS_old hp', newS_old hp', newS_old hp', newS_old hp']
      obtain ⟨w1, w2, w3, w4⟩ := v3 p (by omega)
      exact ⟨w1, w2, fun r hr => w3 r (by omega), w4⟩
  · by_cases hxn : x = n
    · subst hxn
      by_cases hyn : y = x
      · subst hyn; rfl
      · rw [newS_0 (by omega) (by omega) (by omega), newS_old hyn, (v3 y (by omega)).2.2.1 x (by omega)]
        exact Nat.zero_testBit y
    · rw [newS_old hxn]
      by_cases hyn : y = n
      · subst hyn
        rw [newS_0 (by omega) (by omega) (by omega), (v3 x (by omega)).2.2.1 y (by omega)]
        exact (Nat.zero_testBit x).symm
      · rw [newS_old hyn]; exact v4 x y (by omega) (by omega)
theorem sSC_new (hS : sSC n S sc) {a w : Nat} : sSC (n + 1) (newS S n a w) (sI (sI (sI (sI (sI (sI (sI (sI sc 3 n (nI 0)) 4 n (nI a)) 5 n (nI w)) 6 n (-nI 1)) 7 n (nI 0)) 8 n (nI 0)) 9 n (nI 0)) 10 n (nI 0)) := by
  obtain ⟨⟨s1, s2, s3⟩, s4, s5⟩ := hS
  have e0 : ∀ i, newS S n a w 0 i = S 0 i := fun i => newS_low (by omega)
  refine ⟨⟨?_, ?_, ?_⟩, fun k hk => ?_, fun r hr => ?_⟩
  · rw [e0]; exact s1
  · rw [e0]; exact s2
  · rw [e0]; exact s3
  · rw [e0] at hk
    rw [newS_low (by omega), newS_low (by omega)]; exact s4 k hk
  · show (if r = n then nI 0 else sc.1 3 r) = _ ∧ (if r = n then nI a else sc.1 4 r) = _ ∧ (if r = n then nI w else sc.1 5 r) = _ ∧ (if r = n then -nI 1 else sc.1 6 r) = _ ∧ (if r = n then nI 0 else sc.1 7 r) = _ ∧ (if r = n then nI 0 else sc.1 8 r) = _ ∧ (if r = n then nI 0 else sc.1 9 r) = _ ∧ (if r = n then nI 0 else sc.1 10 r) = _
    by_cases hrn : r = n
    · subst hrn
      rw [newS_0 (by omega) (by omega) (by omega), newS_4, newS_5, newS_0 (by omega) (by omega) (by omega), newS_0 (by omega) (by omega) (by omega), newS_0 (by omega) (by omega) (by omega), newS_0 (by omega) (by omega) (by omega), newS_0 (by omega) (by omega) (by omega)]
      rw [if_pos rfl, if_pos rfl, if_pos rfl, if_pos rfl, if_pos rfl, if_pos rfl, if_pos rfl, if_pos rfl]
      exact ⟨rfl, rfl, rfl, neg1, rfl, rfl, rfl, rfl⟩
    · simp only [hrn, if_false]
      rw [newS_old hrn, newS_old hrn, newS_old hrn, newS_old hrn, newS_old hrn, newS_old hrn, newS_old hrn, newS_old hrn]
      exact s5 r (by omega)
theorem lvm_new (hn : n < 8) (h9 : ∀ p, p < n → hm p ≤ h) {d k : Nat} : lvm (n + 1) (va_up hm n d) k = lvm n hm k ||| (if d = k + 1 then 2 ^ n else 0) := by
  unfold lvm
  show msk n (fun p => va_up hm n d p == k + 1) ||| (if va_up hm n d n == k + 1 then 2 ^ n else 0) = _
  rw [va_up_at, if_pos rfl]
  have : msk n (fun p => va_up hm n d p == k + 1) = msk n (fun p => hm p == k + 1) := msk_congr (fun p hp => by rw [va_up_at, if_neg (by omega)])
  rw [this]
  congr 1
  by_cases hd : d = k + 1
  · rw [if_pos hd, if_pos (beq_iff_eq.mpr hd)]
  · rw [if_neg hd, if_neg (fun w => hd (beq_iff_eq.mp w))]
/-- the class's QUARTER with one person more -/
theorem qu_addP (hB : sQB n h L e t hp hm) (hC : sQC n h L e t hp hm sr q) (hn : n < 8) {d : Nat} (hd : d ≤ h) {st : Bool} (w : Int64) : ∃ q', fQu_addPerson q w (nI d - nI 1) (nI (bn st)) = some q' ∧ sQC (n + 1) h L e t hp (va_up hm n d) (va_up sr n st) q' ∧ q'.2 3 = q.2 3 ∧ q'.2 6 = va_up (q.2 6) n w := by
  obtain ⟨b1, b2, b3, b4, b5, b6, b7, b8, b9⟩ := id hB
  obtain ⟨⟨c0, c1, c2, c3, c4⟩, c5, c6⟩ := id hC
  have u1 : ¬ nI 1 = nI 0 := by decide +kernel
  generalize hq0 : sI (sI (sL q 6 n w) 4 n (nI d - nI 1)) 5 n (nI (bn st)) = q0
  have q00 : q0.1 0 = q.1 0 := by rw [← hq0]; rfl
  have q01 : q0.1 1 = q.1 1 := by rw [← hq0]; rfl
  have q02 : q0.1 2 = q.1 2 := by rw [← hq0]; rfl
  have q04 : ∀ p, q0.1 4 p = if p = n then nI d - nI 1 else q.1 4 p := fun p => by rw [← hq0]; rfl
  have q05 : ∀ p, q0.1 5 p = if p = n then nI (bn st) else q.1 5 p := fun p => by rw [← hq0]; rfl
  have q23 : q0.2 3 = q.2 3 := by rw [← hq0]; rfl
  have q26 : q0.2 6 = va_up (q.2 6) n w := by
    rw [← hq0]
    show va_up q.2 6 (va_up (q.2 6) n w) 6 = _
    rw [va_up_at, if_pos rfl]
  have l0 : fQu_addPerson q w (nI d - nI 1) (nI (bn st)) = (fQu_hasHouse q0 (nI d - nI 1)).bind fun r7 => if r7 = nI 0 then some (sI q0 0 4 (nI (n + 1))) else (ix 6 (nI d - nI 1)).bind fun i9 => (ix 6 (nI d - nI 1)).bind fun i10 => some (sI (sI q0 2 i10 (q0.1 2 i9 ||| shl (nI 1) (nI n))) 0 4 (nI (n + 1))) := by
    have e1 : (sL q 6 n w).1 0 4 = nI n := c4
    have e2 : ∀ v, (sI (sL q 6 n w) 4 n v).1 0 4 = nI n := fun v => c4
    have e3 : q0.1 0 4 = nI n := by rw [q00]; exact c4
    have e4 : ∀ i v, (sI q0 2 i v).1 0 4 = nI n := fun i v => e3
    unfold fQu_addPerson
    simp only [lit, bnd]
    rw [c4, if_neg (by rw [nle (by omega) (by omega)]; omega), ix_nI (by omega) (by omega), Option.bind_some, e1, ix_nI (by omega) (by omega), Option.bind_some, e2, ix_nI (by omega) (by omega), Option.bind_some, hq0, e3, nadd]
    simp only [e4, nadd]
  have base : ∀ q1 : Obj, q1.1 0 4 = nI (n + 1) → (∀ i, i ≠ 4 → q1.1 0 i = q.1 0 i) → q1.1 1 = q.1 1 → (∀ k, k < h → q1.1 2 k = nI (lvm (n + 1) (va_up hm n d) k)) → q1.1 4 = q0.1 4 → q1.1 5 = q0.1 5 → sQC (n + 1) h L e t hp (va_up hm n d) (va_up sr n st) q1 := fun q1 a1 a2 a3 a4 a5 a6 => by
    refine ⟨⟨?_, ?_, ?_, ?_, a1⟩, fun k hk => ⟨?_, a4 k hk⟩, fun p hpn => ?_⟩
    · rw [a2 0 (by omega)]; exact c0
    · rw [a2 1 (by omega)]; exact c1
    · rw [a2 2 (by omega)]; exact c2
    · rw [a2 3 (by omega)]; exact c3
    · rw [a3]; exact (c5 k hk).1
    · rw [a5, a6, q04, q05, va_up_at, va_up_at]
      by_cases hp' : p = n
      · rw [if_pos hp', if_pos hp', if_pos hp', if_pos hp']; exact ⟨rfl, rfl⟩
      · rw [if_neg hp', if_neg hp', if_neg hp', if_neg hp']; exact c6 p (by omega)
  have hC0 : sQC n h L e t hp hm sr q ∧ True := ⟨hC, trivial⟩
  by_cases hd0 : d = 0
  · have hh : fQu_hasHouse q0 (nI d - nI 1) = some (nI 0) := by
      rw [hd0, ← neg1]
      unfold fQu_hasHouse
      simp only [lit]
      rw [if_pos (by decide +kernel)]
    rw [hh, Option.bind_some, if_pos rfl] at l0
    refine ⟨_, l0, base _ (by rw [sI_1, if_pos ⟨rfl, rfl⟩]) (fun i hi => ?_) q01 (fun k hk => ?_) rfl rfl, q23, q26⟩
    · rw [sI_1, if_neg (by omega), q00]
    · show q0.1 2 k = _
      rw [q02, (c5 k hk).2, lvm_new hn b9, if_neg (by omega), Nat.or_zero]
  · have hd1 : nI d - nI 1 = nI (d - 1) := nsub (by omega)
    have hh : fQu_hasHouse q0 (nI d - nI 1) = some (nI 1) := by
      rw [hd1]
      unfold fQu_hasHouse
      simp only [lit]
      rw [q00, c3, if_neg (nI_lt0 (by omega)), if_neg (by rw [nle (by omega) (by omega)]; omega), if_neg (by rw [nle (by omega) (by omega)]; omega)]
    rw [hh, Option.bind_some, if_neg u1, hd1, ix_nI (by omega) (by omega), Option.bind_some, Option.bind_some, q02, (c5 (d - 1) (by omega)).2, shl_1 (by omega), nx_or] at l0
    refine ⟨sI (sI q0 2 (d - 1) (nI (lvm n hm (d - 1) ||| 2 ^ n))) 0 4 (nI (n + 1)), (by rw [hd1]; exact l0), base _ (by rw [sI_1, if_pos ⟨rfl, rfl⟩]) (fun i hi => ?_) q01 (fun k hk => ?_) rfl rfl, q23, q26⟩
    · rw [sI_1, if_neg (by omega)]
      show q0.1 0 i = _
      rw [q00]
    · show (if k = d - 1 then nI (lvm n hm (d - 1) ||| 2 ^ n) else q0.1 2 k) = _
      rw [lvm_new hn b9]
      by_cases hkd : k = d - 1
      · rw [if_pos hkd, if_pos (by omega), hkd]
      · rw [if_neg hkd, if_neg (by omega), Nat.or_zero, q02, (c5 k hk).2]
end
