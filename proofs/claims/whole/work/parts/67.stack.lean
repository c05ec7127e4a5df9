def ib (w : Int32) (p : Nat) : Bool := w.toBitVec.getLsbD p
theorem ib_or (a b : Int32) (p : Nat) : ib (a ||| b) p = (ib a p || ib b p) := by
  unfold ib
  rw [Int32.toBitVec_or, BitVec.getLsbD_or]
theorem ib_and (a b : Int32) (p : Nat) : ib (a &&& b) p = (ib a p && ib b p) := by
  unfold ib
  rw [Int32.toBitVec_and, BitVec.getLsbD_and]
theorem ib_not (a : Int32) {p : Nat} (hp : p < 32) : ib (a ^^^ (-1 : Int32)) p = !ib a p := by
  unfold ib
  have h : (-1 : Int32).toBitVec = BitVec.allOnes 32 := by decide +kernel
  rw [Int32.toBitVec_xor, h, BitVec.getLsbD_xor, BitVec.getLsbD_allOnes, decide_eq_true hp, Bool.xor_true]
theorem ib_nI (m : Nat) {p : Nat} (hp : p < 32) : ib (nI m) p = m.testBit p := by
  unfold ib
  show (BitVec.ofNat 32 m).getLsbD p = _
  rw [BitVec.getLsbD_ofNat, decide_eq_true hp, Bool.true_and]
theorem ib_msk (w : Int32) {n : Nat} (hn : n ≤ 8) : w &&& (shl (1 : Int32) (nI n) - (1 : Int32)) = nI (msk n (ib w)) := by
  rw [shm (by omega)]
  have h1 : nI (2 ^ n) - (1 : Int32) = nI (2 ^ n - 1) := nsub (Nat.one_le_two_pow)
  rw [h1]
  apply Int32.toBitVec_inj.mp
  apply BitVec.eq_of_getLsbD_eq
  intro i hi
  show ib (w &&& nI (2 ^ n - 1)) i = ib (nI (msk n (ib w))) i
  rw [ib_and, ib_nI _ hi, ib_nI _ hi, msk_bit, Nat.testBit_two_pow_sub_one, Bool.and_comm]
/-- the stack of truths, cell by cell -/
def stf (lf : Nat → Nat → Bool) (A : Nat → Nat) : Nat → Nat → Nat → Bool
  | 0 => fun _ _ => false
  | i + 1 => fun j p => match dpt A i with
    | none => false
    | some d => if A i = 20 then (if j = d - 1 then !(stf lf A i j p) else stf lf A i j p) else if A i = 21 then (if j = d - 2 then (stf lf A i j p && stf lf A i (d - 1) p) else stf lf A i j p) else if A i = 22 then (if j = d - 2 then (stf lf A i j p || stf lf A i (d - 1) p) else stf lf A i j p) else (if j = d then lf i p else stf lf A i j p)
theorem dpt_s {A : Nat → Nat} {i : Nat} : dpt A (i + 1) = match dpt A i with
    | none => none
    | some d => if A i = 20 then (if 1 ≤ d then some d else none) else if A i = 21 ∨ A i = 22 then (if 2 ≤ d then some (d - 1) else none) else some (d + 1) := rfl
theorem dpt_le {A : Nat → Nat} : ∀ {i d : Nat}, dpt A i = some d → d ≤ i
  | 0, d, h => by
    have : 0 = d := Option.some.inj h
    omega
  | i + 1, d, h => by
    rw [dpt_s] at h
    cases hd : dpt A i with
    | none => rw [hd] at h; cases h
    | some d' =>
      have ih := dpt_le hd
      rw [hd] at h
      simp only at h
      split at h
      · split at h
        · have := Option.some.inj h; omega
        · cases h
      · split at h
        · split at h
          · have := Option.some.inj h; omega
          · cases h
        · have := Option.some.inj h; omega
theorem dpt_pre {A : Nat → Nat} {c : Nat} : ∀ {k : Nat}, dpt A (c + k) ≠ none → dpt A c ≠ none
  | 0, h => h
  | k + 1, h => by
    refine dpt_pre (k := k) (fun z => h ?_)
    show dpt A (c + k + 1) = none
    rw [dpt_s, z]
section
variable {n h L e t : Nat} {hp hm : Nat → Nat} {sr : Nat → Bool} {q m sc sy y x : Obj} {S : Nat → Nat → Nat} {A B C : Nat → Nat} {c : Nat}
theorem sy_pop {d : Nat} (hd : d + 1 ≤ 40) (h6 : y.1 0 6 = nI (d + 1)) : fSy_pop y = some (y.1 4 d, sI y 0 6 (nI d)) := by
  unfold fSy_pop
  simp only [lit]
  have e1 : (sI y 0 6 (nI d)).1 0 6 = nI d := by rw [sI_1, if_pos ⟨rfl, rfl⟩]
  have e2 : (sI y 0 6 (nI d)).1 4 d = y.1 4 d := rfl
  rw [h6, if_neg (by rw [nlt (by omega) (by omega)]; omega), if_pos (by rw [nle (by omega) (by omega)]; omega), nsub (by omega), Nat.add_sub_cancel]
  simp only [bnd]
  rw [e1, ix_nI (by omega) (by omega), Option.bind_some, e2]
theorem sy_push {d : Nat} (hd : d < 40) (h6 : y.1 0 6 = nI d) (v : Int32) : fSy_push y v = some (sI (sI y 4 d v) 0 6 (nI (d + 1))) := by
  unfold fSy_push
  simp only [lit]
  have e1 : (sI y 4 d v).1 0 6 = nI d := h6
  rw [h6, if_neg (nI_lt0 (by omega)), if_neg (by rw [nle (by omega) (by omega)]; omega), ix_nI (by omega) (by omega), Option.bind_some]
  simp only [bnd]
  rw [e1, nadd]
theorem sy_pers (hB : sQB n h L e t hp hm) (hC : sQC n h L e t hp hm sr q) (hV : sSV n h L hp S) (hS : sSC n S sc) {a b c : Nat} (ht : tok n h a b c) (h9 : a ≤ 9) : fSy_personsOf q sc (nI (cwd a)) (nI (cwB a b c)) (nI (cwC a c)) = some (nI (msk n (leaf hm sr S a b c))) := by
  have b1 := hB.1
  have c4 := hC.1.2.2.2.2
  have key := msk_loop (f := fSy_personsOf_L6 q sc (nI (cwd a)) (nI (cwB a b c)) (nI (cwC a c))) n (by omega) (leaf hm sr S a b c) (fun p hpn => ?_) ?_
  · unfold fSy_personsOf
    simp only [lit]
    rw [key]; rfl
  · unfold fSy_personsOf_L6
    simp only [lit]
    rw [c4, if_neg (by rw [nle (by omega) (by omega)]; omega), sy_leaf hB hC hV hS hpn ht h9, Option.bind_some, shl_1 (by omega), nx_or, nadd]
    cases leaf hm sr S a b c p
    · rw [if_pos (show nI (bn false) = nI 0 from rfl), if_neg (by decide), Nat.or_zero]
    · rw [if_neg (show ¬ nI (bn true) = nI 0 by decide +kernel)]; rfl
  · unfold fSy_personsOf_L6
    simp only [lit]
    rw [c4, if_pos (by rw [nle (by omega) (by omega)]; omega)]
/-- the class's stack after i steps -/
def yR (n c : Nat) (A B C : Nat → Nat) (T : Nat → Nat → Bool) (d : Nat) (y : Obj) : Prop := sayC c A B C y ∧ y.1 0 6 = nI d ∧ ∀ j, j < d → ∀ p, p < n → ib (y.1 4 j) p = T j p
theorem yR_put {T T' : Nat → Nat → Bool} {d d' : Nat} {v : Int32} (hR : sayC c A B C y) (hold : ∀ j, j < d' → ∀ p, p < n → ib (y.1 4 j) p = T' j p) (hv : ∀ p, p < n → ib v p = T' d' p) : yR n c A B C T' (d' + 1) (sI (sI y 4 d' v) 0 6 (nI (d' + 1))) := by
  refine ⟨hR, ?_, fun j hj p hpn => ?_⟩
  · rw [sI_1, if_pos ⟨rfl, rfl⟩]
  · show ib (if j = d' then v else y.1 4 j) p = _
    by_cases hjd : j = d'
    · rw [if_pos hjd, hjd]; exact hv p hpn
    · rw [if_neg hjd]; exact hold j (by omega) p hpn
theorem sy_step (hB : sQB n h L e t hp hm) (hC : sQC n h L e t hp hm sr q) (hV : sSV n h L hp S) (hS : sSC n S sc) (hc : c ≤ 40) (ht : ∀ i, i < c → tok n h (A i) (B i) (C i)) {i d d' : Nat} (hi : i < c) (hd : dpt A i = some d) (hd' : dpt A (i + 1) = some d') (hy : yR n c A B C (stf (fun i p => leaf hm sr S (A i) (B i) (C i) p) A i) d y) : ∃ y', fSy_trueOf_L7 q sc (nI i, y) = some (.inl (nI (i + 1), y')) ∧ yR n c A B C (stf (fun i p => leaf hm sr S (A i) (B i) (C i) p) A (i + 1)) d' y' := by
  obtain ⟨hsC, h6, hT⟩ := id hy
  obtain ⟨s1, s2⟩ := id hsC
  obtain ⟨k1, k2, k3⟩ := s2 i hi
  have hle := dpt_le hd
  have b1 := hB.1
  have htk := ht i hi
  have q1 : ¬ y.1 0 1 ≤ nI i := by rw [s1, nle (by omega) (by omega)]; omega
  have q2 : ¬ (40 : Int32) ≤ nI i := by
    show ¬ nI 40 ≤ nI i
    rw [nle (by omega) (by omega)]; omega
  have i1 : ix 40 (nI i) = some i := ix_nI (by omega) (by omega)
  have st : ∀ j p, stf (fun i p => leaf hm sr S (A i) (B i) (C i) p) A (i + 1) j p = if A i = 20 then (if j = d - 1 then !(stf (fun i p => leaf hm sr S (A i) (B i) (C i) p) A i j p) else stf (fun i p => leaf hm sr S (A i) (B i) (C i) p) A i j p) else if A i = 21 then (if j = d - 2 then (stf (fun i p => leaf hm sr S (A i) (B i) (C i) p) A i j p && stf (fun i p => leaf hm sr S (A i) (B i) (C i) p) A i (d - 1) p) else stf (fun i p => leaf hm sr S (A i) (B i) (C i) p) A i j p) else if A i = 22 then (if j = d - 2 then (stf (fun i p => leaf hm sr S (A i) (B i) (C i) p) A i j p || stf (fun i p => leaf hm sr S (A i) (B i) (C i) p) A i (d - 1) p) else stf (fun i p => leaf hm sr S (A i) (B i) (C i) p) A i j p) else (if j = d then leaf hm sr S (A i) (B i) (C i) p else stf (fun i p => leaf hm sr S (A i) (B i) (C i) p) A i j p) := fun j p => by
    show (match dpt A i with | none => false | some d => _) = _
    rw [hd]
  rw [dpt_s, hd] at hd'
  simp only at hd'
  revert st hT hy
  generalize stf (fun i p => leaf hm sr S (A i) (B i) (C i) p) A (i + 1) = T'
  generalize stf (fun i p => leaf hm sr S (A i) (B i) (C i) p) A i = T0
  intro hy hT st
  have l0 : fSy_trueOf_L7 q sc (nI i, y) = ((if nI (cwd (A i)) = (18 : Int32) then (fSy_pop y).bind fun r3 => (fSy_pop r3.2).bind fun r4 => (fSy_push r4.2 (r3.1 ||| r4.1)).bind fun r5 => some (.inl (nI (i + 1), r5)) else if nI (cwd (A i)) = (19 : Int32) then (fSy_pop y).bind fun r7 => (fSy_pop r7.2).bind fun r8 => (fSy_push r8.2 (r7.1 &&& r8.1)).bind fun r9 => some (.inl (nI (i + 1), r9)) else if nI (cwd (A i)) = (20 : Int32) then (fSy_pop y).bind fun r11 => (fSy_push r11.2 (r11.1 ^^^ (-1 : Int32))).bind fun r12 => some (.inl (nI (i + 1), r12)) else (fSy_personsOf q sc (nI (cwd (A i))) (nI (cwB (A i) (B i) (C i))) (nI (cwC (A i) (C i)))).bind fun r16 => (fSy_push y r16).bind fun r17 => some (.inl (nI (i + 1), r17))) : Option ((Int32 × Obj) ⊕ Obj)) := by
    show ((if y.1 0 1 ≤ nI i then some (.inr y) else if (40 : Int32) ≤ nI i then some (.inr y) else (ix 40 (nI i)).bind fun i2 => if y.1 1 i2 = (18 : Int32) then (fSy_pop y).bind fun r3 => (fSy_pop r3.2).bind fun r4 => (fSy_push r4.2 (r3.1 ||| r4.1)).bind fun r5 => some (.inl (nI i + (1 : Int32), r5)) else (ix 40 (nI i)).bind fun i6 => if y.1 1 i6 = (19 : Int32) then (fSy_pop y).bind fun r7 => (fSy_pop r7.2).bind fun r8 => (fSy_push r8.2 (r7.1 &&& r8.1)).bind fun r9 => some (.inl (nI i + (1 : Int32), r9)) else (ix 40 (nI i)).bind fun i10 => if y.1 1 i10 = (20 : Int32) then (fSy_pop y).bind fun r11 => (fSy_push r11.2 (r11.1 ^^^ (-1 : Int32))).bind fun r12 => some (.inl (nI i + (1 : Int32), r12)) else (ix 40 (nI i)).bind fun i13 => (ix 40 (nI i)).bind fun i14 => (ix 40 (nI i)).bind fun i15 => (fSy_personsOf q sc (y.1 1 i13) (y.1 2 i14) (y.1 3 i15)).bind fun r16 => (fSy_push y r16).bind fun r17 => some (.inl (nI i + (1 : Int32), r17))) : Option ((Int32 × Obj) ⊕ Obj)) = _
    rw [if_neg q1, if_neg q2, i1, Option.bind_some, Option.bind_some, Option.bind_some, Option.bind_some, Option.bind_some, Option.bind_some, k1, k2, k3, nsc]
  rw [l0]
  by_cases a22 : A i = 22
  · rw [if_neg (by omega), if_pos (by omega)] at hd'
    by_cases h2 : 2 ≤ d
    · rw [if_pos h2] at hd'
      have e' : d' = d - 2 + 1 := by have := Option.some.inj hd'; omega
      obtain ⟨dd, rfl⟩ : ∃ dd, d = dd + 2 := ⟨d - 2, by omega⟩
      rw [show cwd (A i) = 18 by rw [a22]; rfl, if_pos (show nI 18 = (18 : Int32) from rfl), sy_pop (d := dd + 1) (by omega) h6, Option.bind_some, sy_pop (y := sI y 0 6 (nI (dd + 1))) (d := dd) (by omega) (by rw [sI_1, if_pos ⟨rfl, rfl⟩]), Option.bind_some, sy_push (y := sI (sI y 0 6 (nI (dd + 1))) 0 6 (nI dd)) (d := dd) (by omega) (by rw [sI_1, if_pos ⟨rfl, rfl⟩]), Option.bind_some]
      refine ⟨_, rfl, ?_⟩
      rw [e', show dd + 2 - 2 + 1 = dd + 1 by omega]
      refine yR_put (y := sI (sI y 0 6 (nI (dd + 1))) 0 6 (nI dd)) (T := T0) (d := dd) hsC (fun j hj p hpn => ?_) (fun p hpn => ?_)
      · rw [st j p, if_neg (by omega), if_neg (by omega), if_pos a22, if_neg (by omega)]
        exact hT j (by omega) p hpn
      · rw [st dd p, if_neg (by omega), if_neg (by omega), if_pos a22, if_pos (by omega), ib_or]
        show (ib (y.1 4 (dd + 1)) p || ib (y.1 4 dd) p) = _
        rw [hT (dd + 1) (by omega) p hpn, hT dd (by omega) p hpn, Bool.or_comm]
        rfl
    · rw [if_neg h2] at hd'; cases hd'
  by_cases a21 : A i = 21
  · rw [if_neg (by omega), if_pos (by omega)] at hd'
    by_cases h2 : 2 ≤ d
    · rw [if_pos h2] at hd'
      have e' : d' = d - 2 + 1 := by have := Option.some.inj hd'; omega
      obtain ⟨dd, rfl⟩ : ∃ dd, d = dd + 2 := ⟨d - 2, by omega⟩
      rw [show cwd (A i) = 19 by rw [a21]; rfl, if_neg (show ¬ nI 19 = (18 : Int32) by decide +kernel), if_pos (show nI 19 = (19 : Int32) from rfl), sy_pop (d := dd + 1) (by omega) h6, Option.bind_some, sy_pop (y := sI y 0 6 (nI (dd + 1))) (d := dd) (by omega) (by rw [sI_1, if_pos ⟨rfl, rfl⟩]), Option.bind_some, sy_push (y := sI (sI y 0 6 (nI (dd + 1))) 0 6 (nI dd)) (d := dd) (by omega) (by rw [sI_1, if_pos ⟨rfl, rfl⟩]), Option.bind_some]
      refine ⟨_, rfl, ?_⟩
      rw [e', show dd + 2 - 2 + 1 = dd + 1 by omega]
      refine yR_put (y := sI (sI y 0 6 (nI (dd + 1))) 0 6 (nI dd)) (T := T0) (d := dd) hsC (fun j hj p hpn => ?_) (fun p hpn => ?_)
      · rw [st j p, if_neg (by omega), if_pos a21, if_neg (by omega)]
        exact hT j (by omega) p hpn
      · rw [st dd p, if_neg (by omega), if_pos a21, if_pos (by omega), ib_and]
        show (ib (y.1 4 (dd + 1)) p && ib (y.1 4 dd) p) = _
        rw [hT (dd + 1) (by omega) p hpn, hT dd (by omega) p hpn, Bool.and_comm]
        rfl
    · rw [if_neg h2] at hd'; cases hd'
  by_cases a20 : A i = 20
  · rw [if_pos a20] at hd'
    by_cases h2 : 1 ≤ d
    · rw [if_pos h2] at hd'
      have e' : d' = d := (Option.some.inj hd').symm
      obtain ⟨dd, rfl⟩ : ∃ dd, d = dd + 1 := ⟨d - 1, by omega⟩
      rw [show cwd (A i) = 20 by rw [a20]; rfl, if_neg (show ¬ nI 20 = (18 : Int32) by decide +kernel), if_neg (show ¬ nI 20 = (19 : Int32) by decide +kernel), if_pos (show nI 20 = (20 : Int32) from rfl), sy_pop (d := dd) (by omega) h6, Option.bind_some, sy_push (y := sI y 0 6 (nI dd)) (d := dd) (by omega) (by rw [sI_1, if_pos ⟨rfl, rfl⟩]), Option.bind_some]
      refine ⟨_, rfl, ?_⟩
      rw [e']
      refine yR_put (y := sI y 0 6 (nI dd)) (T := T0) (d := dd) hsC (fun j hj p hpn => ?_) (fun p hpn => ?_)
      · rw [st j p, if_pos a20, if_neg (by omega)]
        exact hT j (by omega) p hpn
      · rw [st dd p, if_pos a20, if_pos (by omega), ib_not _ (by omega), hT dd (by omega) p hpn]
    · rw [if_neg h2] at hd'; cases hd'
  · rw [if_neg a20, if_neg (by omega)] at hd'
    have e' : d' = d + 1 := (Option.some.inj hd').symm
    have h9 : A i ≤ 9 := by unfold tok at htk; omega
    have cw : cwd (A i) ≠ 18 ∧ cwd (A i) ≠ 19 ∧ cwd (A i) ≠ 20 ∧ cwd (A i) < 100 := by
      have : ∀ a, a ≤ 9 → cwd a ≠ 18 ∧ cwd a ≠ 19 ∧ cwd a ≠ 20 ∧ cwd a < 100 := by decide
      exact this _ h9
    have w1 : ¬ nI (cwd (A i)) = (18 : Int32) := by
      show ¬ nI (cwd (A i)) = nI 18
      rw [neq (by omega) (by omega)]; exact cw.1
    have w2 : ¬ nI (cwd (A i)) = (19 : Int32) := by
      show ¬ nI (cwd (A i)) = nI 19
      rw [neq (by omega) (by omega)]; exact cw.2.1
    have w3 : ¬ nI (cwd (A i)) = (20 : Int32) := by
      show ¬ nI (cwd (A i)) = nI 20
      rw [neq (by omega) (by omega)]; exact cw.2.2.1
    rw [if_neg w1, if_neg w2, if_neg w3, sy_pers hB hC hV hS htk h9, Option.bind_some, sy_push (d := d) (by omega) h6, Option.bind_some]
    refine ⟨_, rfl, ?_⟩
    rw [e']
    refine yR_put (y := y) (T := T0) (d := d) hsC (fun j hj p hpn => ?_) (fun p hpn => ?_)
    · rw [st j p, if_neg a20, if_neg a21, if_neg a22, if_neg (by omega)]
      exact hT j hj p hpn
    · rw [st d p, if_neg a20, if_neg a21, if_neg a22, if_pos rfl, ib_nI _ (by omega), msk_bit, decide_eq_true hpn, Bool.true_and]
end
