def cmpB (v B C : Nat) : Bool := if B = 60 then decide (v < C) else if B = 61 then v == C else decide (C < v)
/-- is this true of him -/
def leaf (hm : Nat → Nat) (sr : Nat → Bool) (S : Nat → Nat → Nat) (A B C p : Nat) : Bool :=
  if A ≤ 2 then S 3 p == A else if A = 3 then sr p else if A = 4 then (S 8 p).testBit C else if A = 5 then hm p == C + 1 else
  if A = 6 then cmpB (S 4 p) B C else if A = 7 then cmpB (pcnt (S 8 p)) B C else if A = 8 then cmpB (S 9 p) B C else cmpB p B C
section
variable {n h L e t : Nat} {hp hm : Nat → Nat} {sr : Nat → Bool} {q m sc : Obj} {S : Nat → Nat → Nat}
theorem sy_cmp {v B C : Nat} (hv : v < 2147483648) (hB : B < 2147483648) (hC : C < 2147483648) : fSy_compares (nI v) (nI B) (nI C) = some (nI (bn (cmpB v B C))) := by
  unfold fSy_compares cmpB
  simp only [lit]
  by_cases h1 : B = 60
  · rw [if_pos (by rw [h1]), if_pos h1]
    by_cases h2 : v < C
    · rw [if_neg (by rw [nle (by omega) (by omega)]; omega), decide_eq_true h2]; rfl
    · rw [if_pos (by rw [nle (by omega) (by omega)]; omega), decide_eq_false h2]; rfl
  · rw [if_neg (by rw [neq (by omega) (by omega)]; exact h1), if_neg h1]
    by_cases h3 : B = 61
    · rw [if_pos (by rw [h3]), if_pos h3]
      by_cases h2 : v = C
      · rw [if_pos (by rw [h2]), h2, beq_self_eq_true]; rfl
      · rw [if_neg (by rw [neq (by omega) (by omega)]; exact h2), beq_eq_false_iff_ne.mpr h2]; rfl
    · rw [if_neg (by rw [neq (by omega) (by omega)]; exact h3), if_neg h3]
      by_cases h2 : C < v
      · rw [if_neg (by rw [nle (by omega) (by omega)]; omega), decide_eq_true h2]; rfl
      · rw [if_pos (by rw [nle (by omega) (by omega)]; omega), decide_eq_false h2]; rfl
theorem mo_cmp {v B C : Nat} (hv : v < 2147483648) (hB : B < 2147483648) (hC : C < 2147483648) : fMo_isLeaf_J146 (nI B) (nI C) (nI v) = some (nI (bn (cmpB v B C))) := by
  rw [← sy_cmp hv hB hC]
  rfl
theorem bz_b (b : Bool) : bz (nI (bn b)) = nI (bn b) := bz_n _ (by have := bn_le b; omega)
theorem bn_i (b : Bool) : (if b then 1 else 0) = bn b := rfl
theorem sy_leaf (hB : sQB n h L e t hp hm) (hC : sQC n h L e t hp hm sr q) (hV : sSV n h L hp S) (hS : sSC n S sc) {A B C p : Nat} (hpn : p < n) (ht : tok n h A B C) (h9 : A ≤ 9) : fSy_isTrueOf q sc (nI p) (nI (cwd A)) (nI (cwB A B C)) (nI (cwC A C)) = some (nI (bn (leaf hm sr S A B C p))) := by
  obtain ⟨b1, b2, b3, b4, b5, b6, b7, b8, b9⟩ := id hB
  obtain ⟨⟨v3, v4, v5, v6, v7, v8, v9, v10⟩, -⟩ := hV.2.2.1 p hpn
  have hG := hV.1.1.2
  have hh := b9 p hpn
  obtain ⟨r3, r4, r5, r6, r7, r8, r9, r10⟩ := hS.2.2 p hpn
  obtain ⟨k0, k1, k2⟩ := sc_how hB hC hV hS hpn
  have hpc := pcnt_le v8
  have det1 : fSc_detail q sc (nI p) (nI 1) = some (nI (S 4 p)) := by
    unfold fSc_detail
    simp only [lit]
    rw [qu_hasP hB hC hpn, Option.bind_some, if_neg (by decide +kernel), if_neg (by decide +kernel), if_pos trivial, ix_nI (by omega) (by omega), Option.bind_some, r4]
  have det7 : fSc_detail q sc (nI p) (nI 7) = some (nI (S 9 p)) := by
    unfold fSc_detail
    simp only [lit]
    rw [qu_hasP hB hC hpn, Option.bind_some, if_neg (by decide +kernel), if_neg (by decide +kernel), if_neg (by decide +kernel), if_neg (by decide +kernel), if_neg (by decide +kernel), if_neg (by decide +kernel), if_neg (by decide +kernel), if_neg (by decide +kernel), if_pos trivial, ix_nI (by omega) (by omega), Option.bind_some, r9]
  have bq : ∀ a b : Nat, bn (a == b) = if a = b then 1 else 0 := fun a b => by
    by_cases hab : a = b
    · rw [if_pos hab, hab, beq_self_eq_true]; rfl
    · rw [if_neg hab, beq_eq_false_iff_ne.mpr hab]; rfl
  unfold fSy_isTrueOf
  simp only [lit]
  rcases (show A = 0 ∨ A = 1 ∨ A = 2 ∨ A = 3 ∨ A = 4 ∨ A = 5 ∨ A = 6 ∨ A = 7 ∨ A = 8 ∨ A = 9 by omega) with z | z | z | z | z | z | z | z | z | z <;> subst z
  · show (if nI 21 = nI 4 then _ else if nI 21 = nI 12 then _ else if nI 21 = nI 21 then _ else _) = some (nI (bn (S 3 p == 0)))
    rw [if_neg (by decide +kernel), if_neg (by decide +kernel), if_pos rfl, k0, Option.bind_some, ← bq, bz_b]
  · show (if nI 22 = nI 4 then _ else if nI 22 = nI 12 then _ else if nI 22 = nI 21 then _ else if nI 22 = nI 22 then _ else _) = some (nI (bn (S 3 p == 1)))
    rw [if_neg (by decide +kernel), if_neg (by decide +kernel), if_neg (by decide +kernel), if_pos rfl, k1, Option.bind_some, ← bq, bz_b]
  · show (if nI 23 = nI 4 then _ else if nI 23 = nI 12 then _ else if nI 23 = nI 21 then _ else if nI 23 = nI 22 then _ else if nI 23 = nI 23 then _ else _) = some (nI (bn (S 3 p == 2)))
    rw [if_neg (by decide +kernel), if_neg (by decide +kernel), if_neg (by decide +kernel), if_neg (by decide +kernel), if_pos rfl, k2, Option.bind_some, ← bq, bz_b]
  · show (if nI 12 = nI 4 then _ else if nI 12 = nI 12 then _ else _) = some (nI (bn (sr p)))
    rw [if_neg (by decide +kernel), if_pos rfl, qu_stern hB hC hpn, Option.bind_some, bn_i, bz_b]
  · have hCn : C < n := by unfold tok at ht; omega
    show (if nI 4 = nI 4 then (fSc_doesKnow q sc (nI p) (nI C)).bind _ else _) = some (nI (bn ((S 8 p).testBit C)))
    rw [if_pos rfl, sc_knows hB hC hV hS hpn hCn, Option.bind_some, bn_i, bz_b]
  · have hCh : C < h := by unfold tok at ht; omega
    show (if nI 24 = nI 4 then _ else if nI 24 = nI 12 then _ else if nI 24 = nI 21 then _ else if nI 24 = nI 22 then _ else if nI 24 = nI 23 then _ else if nI 24 = nI 24 then (fQu_homeOf q (nI p)).bind (fun r6 => if r6 = nI C then some (nI 1) else some (nI 0)) else _) = some (nI (bn (hm p == C + 1)))
    rw [if_neg (by decide +kernel), if_neg (by decide +kernel), if_neg (by decide +kernel), if_neg (by decide +kernel), if_neg (by decide +kernel), if_pos rfl, qu_home hB hC hpn, Option.bind_some, bq]
    by_cases hq : hm p = C + 1
    · rw [if_pos ((home_eq (by omega) (by omega)).mpr hq), if_pos hq]
    · rw [if_neg (fun z => hq ((home_eq (by omega) (by omega)).mp z)), if_neg hq]
  · have hBC : B < 100 ∧ C ≤ 999 := by unfold tok at ht; omega
    show (if nI 25 = nI 4 then _ else if nI 25 = nI 12 then _ else if nI 25 = nI 21 then _ else if nI 25 = nI 22 then _ else if nI 25 = nI 23 then _ else if nI 25 = nI 24 then _ else if nI 25 = nI 25 then (fSc_detail q sc (nI p) (nI 1)).bind (fun r7 => (fSy_compares r7 (nI B) (nI C)).bind fun r8 => some (bz r8)) else _) = some (nI (bn (cmpB (S 4 p) B C)))
    rw [if_neg (by decide +kernel), if_neg (by decide +kernel), if_neg (by decide +kernel), if_neg (by decide +kernel), if_neg (by decide +kernel), if_neg (by decide +kernel), if_pos rfl, det1, Option.bind_some, sy_cmp (by omega) (by omega) (by omega), Option.bind_some, bz_b]
  · have hBC : B < 100 ∧ C ≤ 999 := by unfold tok at ht; omega
    show (if nI 26 = nI 4 then _ else if nI 26 = nI 12 then _ else if nI 26 = nI 21 then _ else if nI 26 = nI 22 then _ else if nI 26 = nI 23 then _ else if nI 26 = nI 24 then _ else if nI 26 = nI 25 then _ else if nI 26 = nI 26 then (fSc_knownTo q sc (nI p)).bind (fun r9 => (fJI_bitCount r9).bind fun r10 => (fSy_compares r10 (nI B) (nI C)).bind fun r11 => some (bz r11)) else _) = some (nI (bn (cmpB (pcnt (S 8 p)) B C)))
    rw [if_neg (by decide +kernel), if_neg (by decide +kernel), if_neg (by decide +kernel), if_neg (by decide +kernel), if_neg (by decide +kernel), if_neg (by decide +kernel), if_neg (by decide +kernel), if_pos rfl, sc_knownTo hB hC hS hpn, Option.bind_some, jbc v8, Option.bind_some, sy_cmp (by omega) (by omega) (by omega), Option.bind_some, bz_b]
  · have hBC : B < 100 ∧ C ≤ 999 := by unfold tok at ht; omega
    show (if nI 27 = nI 4 then _ else if nI 27 = nI 12 then _ else if nI 27 = nI 21 then _ else if nI 27 = nI 22 then _ else if nI 27 = nI 23 then _ else if nI 27 = nI 24 then _ else if nI 27 = nI 25 then _ else if nI 27 = nI 26 then _ else if nI 27 = nI 27 then (fSc_detail q sc (nI p) (nI 7)).bind (fun r12 => (fSy_compares r12 (nI B) (nI C)).bind fun r13 => some (bz r13)) else _) = some (nI (bn (cmpB (S 9 p) B C)))
    rw [if_neg (by decide +kernel), if_neg (by decide +kernel), if_neg (by decide +kernel), if_neg (by decide +kernel), if_neg (by decide +kernel), if_neg (by decide +kernel), if_neg (by decide +kernel), if_neg (by decide +kernel), if_pos rfl, det7, Option.bind_some, sy_cmp (by omega) (by omega) (by omega), Option.bind_some, bz_b]
  · have hBC : B < 100 ∧ C ≤ 999 := by unfold tok at ht; omega
    show (if nI 28 = nI 4 then _ else if nI 28 = nI 12 then _ else if nI 28 = nI 21 then _ else if nI 28 = nI 22 then _ else if nI 28 = nI 23 then _ else if nI 28 = nI 24 then _ else if nI 28 = nI 25 then _ else if nI 28 = nI 26 then _ else if nI 28 = nI 27 then _ else (fSy_compares (nI p) (nI B) (nI C)).bind fun r14 => some (bz r14)) = some (nI (bn (cmpB p B C)))
    rw [if_neg (by decide +kernel), if_neg (by decide +kernel), if_neg (by decide +kernel), if_neg (by decide +kernel), if_neg (by decide +kernel), if_neg (by decide +kernel), if_neg (by decide +kernel), if_neg (by decide +kernel), if_neg (by decide +kernel), sy_cmp (by omega) (by omega) (by omega), Option.bind_some, bz_b]
theorem mo_leaf (hB : sQB n h L e t hp hm) (hM : sQM n h L e t hp hm sr (m.1 2)) (hV : sSV n h L hp S) (hD : sSM n S (dOf m)) {A B C p : Nat} (hpn : p < n) (ht : tok n h A B C) (h9 : A ≤ 9) : fMo_isLeaf m (nI p) (nI A) (nI B) (nI C) = some (nI (bn (leaf hm sr S A B C p))) := by
  obtain ⟨b1, b2, b3, b4, b5, b6, b7, b8, b9⟩ := id hB
  obtain ⟨⟨v3, v4, v5, v6, v7, v8, v9, v10⟩, -⟩ := hV.2.2.1 p hpn
  have hG := hV.1.1.2
  have hh := b9 p hpn
  obtain ⟨r3, r4, r5, r6, r7, r8, r9, r10⟩ := (sSM_live hD).2.2 p hpn
  have c6 := hM.2.2.1 p hpn
  have c7 := hM.2.2.2
  have hpc := pcnt_le v8
  have bq : ∀ a b : Nat, bn (a == b) = if a = b then 1 else 0 := fun a b => by
    by_cases hab : a = b
    · rw [if_pos hab, hab, beq_self_eq_true]; rfl
    · rw [if_neg hab, beq_eq_false_iff_ne.mpr hab]; rfl
  have low : A ≤ 2 → fMo_isLeaf m (nI p) (nI A) (nI B) (nI C) = some (nI (bn (S 3 p == A))) := fun hA => by
    unfold fMo_isLeaf
    simp only [lit, nadd]
    rw [if_neg (by rw [nle (by omega) (by omega)]; omega), ix_nI (by omega) (by omega), Option.bind_some, r3, bq]
    by_cases hq : S 3 p = A
    · rw [if_pos (by rw [hq]), if_pos hq]
    · rw [if_neg (by rw [neq (by omega) (by omega)]; exact hq), if_neg hq]
  rcases (show A ≤ 2 ∨ A = 3 ∨ A = 4 ∨ A = 5 ∨ A = 6 ∨ A = 7 ∨ A = 8 ∨ A = 9 by omega) with z | z | z | z | z | z | z | z
  · rw [low z]
    unfold leaf
    rw [if_pos z]
  all_goals subst z
  all_goals
    unfold fMo_isLeaf
    simp only [lit, nadd]
    rw [if_pos (by decide +kernel)]
  · rw [if_pos trivial, c7, bitOf_n (msk_small sr (by omega)) (by omega), Option.bind_some, msk_bit, decide_eq_true hpn, Bool.true_and, bn_i, bz_b]
    rfl
  · have hCn : C < n := by unfold tok at ht; omega
    rw [if_neg (by decide +kernel), if_pos trivial, ix_nI (by omega) (by omega), Option.bind_some, r8, bitOf_n (by omega) (by omega), Option.bind_some, bn_i, bz_b]
    rfl
  · have hCh : C < h := by unfold tok at ht; omega
    rw [if_neg (by decide +kernel), if_neg (by decide +kernel), if_pos trivial, ix_nI (by omega) (by omega), Option.bind_some, c6]
    show _ = some (nI (bn (hm p == C + 1)))
    rw [bq]
    by_cases hq : hm p = C + 1
    · rw [if_pos (by rw [hq]), if_pos hq]
    · rw [if_neg (by rw [neq (by omega) (by omega)]; exact hq), if_neg hq]
  · have hBC : B < 100 ∧ C ≤ 999 := by unfold tok at ht; omega
    rw [if_neg (by decide +kernel), if_neg (by decide +kernel), if_neg (by decide +kernel), if_pos trivial, ix_nI (by omega) (by omega), Option.bind_some, r4, mo_cmp (by omega) (by omega) (by omega)]
    rfl
  · have hBC : B < 100 ∧ C ≤ 999 := by unfold tok at ht; omega
    rw [if_neg (by decide +kernel), if_neg (by decide +kernel), if_neg (by decide +kernel), if_neg (by decide +kernel), if_pos trivial, ix_nI (by omega) (by omega), Option.bind_some, r8, mbc v8, Option.bind_some, mo_cmp (by omega) (by omega) (by omega)]
    rfl
  · have hBC : B < 100 ∧ C ≤ 999 := by unfold tok at ht; omega
    rw [if_neg (by decide +kernel), if_neg (by decide +kernel), if_neg (by decide +kernel), if_neg (by decide +kernel), if_neg (by decide +kernel), if_pos trivial, ix_nI (by omega) (by omega), Option.bind_some, r9, mo_cmp (by omega) (by omega) (by omega)]
    rfl
  · have hBC : B < 100 ∧ C ≤ 999 := by unfold tok at ht; omega
    rw [if_neg (by decide +kernel), if_neg (by decide +kernel), if_neg (by decide +kernel), if_neg (by decide +kernel), if_neg (by decide +kernel), if_neg (by decide +kernel), mo_cmp (by omega) (by omega) (by omega)]
    rfl
end
