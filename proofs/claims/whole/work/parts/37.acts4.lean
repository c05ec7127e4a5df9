section
variable {n h L e t : Nat} {hp hm : Nat → Nat} {sr : Nat → Bool} {q m m' sc : Obj} {S S' : Nat → Nat → Nat}
theorem mkK_at {p a j r : Nat} : mkK S p a j r = if j = 8 then S 8 r ||| (if r = p then a else 0) ||| (if a.testBit r then 2 ^ p else 0) else S j r := by
  unfold mkK
  rw [va_up_at]
  by_cases hj : j = 8
  · rw [if_pos hj, if_pos hj]
  · rw [if_neg hj, if_neg hj]
theorem mkK_mkK {p a b : Nat} : mkK (mkK S p a) p b = mkK S p (a ||| b) := by
  funext j r
  rw [mkK_at, mkK_at, mkK_at, mkK_at]
  by_cases hj : j = 8
  · rw [if_pos hj, if_pos rfl, if_pos hj]
    apply Nat.eq_of_testBit_eq
    intro i
    simp only [Nat.testBit_or]
    by_cases hr : r = p
    · simp only [hr, if_true]
      cases a.testBit p <;> cases b.testBit p <;> simp only [Nat.testBit_or, Bool.or_true, Bool.or_false, Bool.false_eq_true, if_true, if_false, Nat.zero_testBit] <;> cases (S 8 p).testBit i <;> cases a.testBit i <;> cases b.testBit i <;> cases (2 ^ p).testBit i <;> rfl
    · simp only [hr, if_false]
      cases a.testBit r <;> cases b.testBit r <;> simp only [Bool.or_true, Bool.or_false, Bool.false_eq_true, if_true, if_false, Nat.zero_testBit, Bool.or_assoc, Bool.or_self]
  · rw [if_neg hj, if_neg hj, if_neg hj]
theorem mkK_bit {p a r i : Nat} : (mkK S p a 8 r).testBit i = ((S 8 r).testBit i || (decide (r = p) && a.testBit i) || (a.testBit r && decide (i = p))) := by
  rw [mkK_at, if_pos rfl, Nat.testBit_or, Nat.testBit_or]
  congr 1
  · congr 1
    by_cases hr : r = p
    · simp [hr]
    · simp [hr]
  · cases a.testBit r
    · simp
    · simp only [if_true, Nat.testBit_two_pow, Bool.true_and]
      exact decide_eq_decide.mpr eq_comm
theorem lt256_bits {a n : Nat} (hn : n ≤ 8) (h : ∀ i, n ≤ i → a.testBit i = false) : a < 256 := Nat.lt_pow_two_of_testBit (n := 8) _ (fun i hi => h i (by omega))
theorem sSV_mkK (hn : n ≤ 8) (hV : sSV n h L hp S) {p a : Nat} (hpn : p < n) (ha : ∀ r, a.testBit r = true → r < n ∧ r ≠ p) : sSV n h L hp (mkK S p a) := by
  obtain ⟨⟨v1, v2⟩, v3, v4, v5⟩ := hV
  have ej : ∀ j, j ≠ 8 → mkK S p a j = S j := fun j hj => va_up_ne _ _ hj
  have hap : a.testBit p = false := by
    cases hb : a.testBit p
    · rfl
    · exact absurd rfl (ha p hb).2
  refine ⟨⟨by rw [ej 0 (by omega)]; exact v1, by rw [ej 0 (by omega)]; exact v2⟩, ?_, fun r hr => ?_, fun x y hx hy => ?_⟩
  · rw [ej 0 (by omega), ej 1 (by omega), ej 2 (by omega)]; exact v3
  · obtain ⟨⟨w3, w4, w5, w6, w7, w8, w9, w10⟩, x1, ⟨x4, x5⟩⟩ := v4 r hr
    have g : ∀ i, n ≤ i → (mkK S p a 8 r).testBit i = false := fun i hi => by
      rw [mkK_bit, x4 i hi]
      have h1 : a.testBit i = false := by
        cases hb : a.testBit i
        · rfl
        · have := (ha i hb).1; omega
      have h2 : decide (i = p) = false := decide_eq_false (by omega)
      rw [h1, h2]
      simp
    unfold sRow
    rw [ej 0 (by omega), ej 3 (by omega), ej 4 (by omega), ej 5 (by omega), ej 6 (by omega), ej 7 (by omega), ej 9 (by omega), ej 10 (by omega)]
    refine ⟨⟨w3, w4, w5, w6, w7, lt256_bits hn g, w9, w10⟩, x1, g, ?_⟩
    rw [mkK_bit, x5]
    by_cases hrp : r = p
    · subst hrp; rw [hap]; simp
    · simp [hrp]
  · rw [mkK_bit, mkK_bit, v5 x y hx hy]
    cases a.testBit x <;> cases a.testBit y <;> simp <;> try rw [Bool.or_comm]
    all_goals (cases (S 8 y).testBit x <;> simp)
theorem mo_knowsIn (hn : n ≤ 8) (hV : sSV n h L hp S) (hS : sSM n S (dOf m)) {p x : Nat} (hpn : p < n) (hxn : x < n) (hne : p ≠ x) : ∃ m', fMo_knowsIn_2 m (nI 113) (nI p) (nI x) = some m' ∧ mFr m m' ∧ sSM n (mkK S p (2 ^ x)) (dOf m') := by
  have hc := hV.1.2
  obtain ⟨r3, r4, r5, r6, r7, r8, r9, r10⟩ := (sSM_live hS).2.2 p hpn
  have g1 := sSM_up hn hS hc (j := 8) (p := p) (v := S 8 p ||| 2 ^ x) (by omega) (by omega) (by omega)
  have k8 := ((sSM_live g1).2.2 x hxn).2.2.2.2.2.1
  have e8 : u2 S 8 p (S 8 p ||| 2 ^ x) 8 x = S 8 x := by rw [u2_at, if_neg (by omega)]
  rw [e8] at k8
  have g2 := sSM_up hn g1 (by rw [u2_at, if_neg (by omega)]; exact hc) (j := 8) (p := x) (v := S 8 x ||| 2 ^ p) (by omega) (by omega) (by omega)
  simp only [show 49 + 8 * 8 = 113 from rfl] at g1 k8 g2
  unfold fMo_knowsIn_2
  simp (disch := omega) only [r8, k8, Option.bind_some, bnd, Sum.elim_inl, Sum.elim_inr, lit, nle, nlt, neq, nadd, nsub, nx_or, nx_and, shl_1, ix_nI]
  refine ⟨_, rfl, mFr_trans (mFr_sI (by omega) (by omega)) (mFr_sI (by omega) (by omega)), sSM_congr g2 ⟨fun i _ _ => ?_, fun k _ => ⟨?_, ?_⟩, fun r hr j _ _ => ?_⟩⟩
  · rfl
  · rfl
  · rfl
  · rw [mkK_at, u2_at, u2_at]
    by_cases hj : j = 8
    · subst hj
      rw [if_pos rfl]
      by_cases h1 : r = x
      · subst h1
        have : ¬ r = p := fun z => hne z.symm
        simp [this, Nat.testBit_two_pow]
      · by_cases h2 : r = p
        · subst h2
          have h3 : ¬ x = r := fun z => hne z.symm
          simp [h1, h3, Nat.testBit_two_pow]
        · have h3 : ¬ x = r := fun z => h1 z.symm
          simp [h1, h2, h3, Nat.testBit_two_pow]
    · simp [hj]
theorem sc_tryM (hB : sQB n h L e t hp hm) (hC : sQC n h L e t hp hm sr q) (hV : sSV n h L hp S) (hS : sSC n S sc) {p x : Nat} (hpn : p < n) (hxn : x < n) (hne : p ≠ x) : ∃ sc', fSc_tryMeet q sc (nI p) (nI x) = some (nI (if (S 8 p).testBit x then 1 else 0), sc') ∧ sSC n (if (S 8 p).testBit x then S else mkK S p (2 ^ x)) sc' := by
  have h1 := qu_hasP hB hC hpn
  have h2 := qu_hasP hB hC hxn
  have h3 := sc_knows hB hC hV hS hpn hxn
  have b1 := hB.1
  obtain ⟨sc2, g1, g2⟩ := sc_makeK hB hC hS (p := p) (a := 2 ^ x) hpn (p2_lt (by omega))
  unfold fSc_tryMeet
  simp (disch := omega) only [h1, h2, h3, g1, Option.bind_some, bnd, Sum.elim_inl, Sum.elim_inr, lit, nle, nlt, neq, nadd, nsub, nx_or, nx_and, shl_1, ix_nI]
  rw [if_neg hne, if_neg (by omega), if_neg (by omega)]
  cases hb : (S 8 p).testBit x
  · simp only [Bool.false_eq_true, if_false, if_true]
    exact ⟨sc2, rfl, g2⟩
  · simp only [if_true]
    rw [if_neg (by decide +kernel)]
    exact ⟨sc, rfl, hS⟩
theorem sSV_doM (hB : sQB n h L e t hp hm) (hV : sSV n h L hp S) {p x : Nat} (hpn : p < n) (hxn : x < n) (hne : p ≠ x) : sSV n h L hp (mkK S p (2 ^ x)) := by
  refine sSV_mkK hB.1 hV hpn (fun r hr => ?_)
  rw [Nat.testBit_two_pow] at hr
  have : x = r := of_decide_eq_true hr
  omega
/-! CALL -/
def whyC (hm : Nat → Nat) (S : Nat → Nat → Nat) (p k : Nat) : Nat := if hm p = k + 1 then 1 else if (fi (fun i => decide (S 1 i = p ∧ S 2 i = k)) (S 0 3)).isSome then 2 else if S 0 3 = 12 then 3 else 0
def doC (S : Nat → Nat → Nat) (p k : Nat) : Nat → Nat → Nat := u2 (u2 (u2 S 1 (S 0 3) p) 2 (S 0 3) k) 0 3 (S 0 3 + 1)
theorem doC_at {p k j r : Nat} : doC S p k j r = if j = 0 ∧ r = 3 then S 0 3 + 1 else if j = 2 ∧ r = S 0 3 then k else if j = 1 ∧ r = S 0 3 then p else S j r := by
  unfold doC
  rw [u2_at, u2_at, u2_at]
theorem sc_tryC (hB : sQB n h L e t hp hm) (hC : sQC n h L e t hp hm sr q) (hV : sSV n h L hp S) (hS : sSC n S sc) {p k : Nat} (hpn : p < n) (hk : k < h) : ∃ sc', fSc_tryCall q sc (nI p) (nI k) = some (nI (whyC hm S p k), sc') ∧ sSC n (if whyC hm S p k = 0 then doC S p k else S) sc' := by
  have h1 := qu_hasP hB hC hpn
  have h2 := qu_hasH hB hC hk
  have h4 := qu_home hB hC hpn
  have h5 := sc_calls hV hB.2.1 hB.1 hS hpn
  have h6 := cmk_lt hV hB.2.1 (p := p) (c := S 0 3) (Nat.le_refl _)
  obtain ⟨b1, b2, b3, b4, b5, b6, b7, b8, b9⟩ := hB
  have h7 := hasBit_n (a := cmk S p (S 0 3)) (p := k) (by omega) (by omega)
  rw [cmk_bit hV (Nat.le_refl _)] at h7
  have h8 := b9 p hpn
  have hc := hV.1.2
  have s3 := hS.1.2.2
  unfold fSc_tryCall whyC
  simp (disch := omega) only [h1, h2, h4, h5, h7, s3, home_eq, Option.bind_some, bnd, Sum.elim_inl, Sum.elim_inr, lit, nle, nlt, neq, nadd, nsub, nx_or, nx_and, shl_1, ix_nI]
  rw [if_neg (by omega), if_neg (by omega)]
  by_cases w1 : hm p = k + 1
  · simp only [w1, if_true]
    exact ⟨_, rfl, hS⟩
  · simp only [w1, if_false]
    cases hf : (fi (fun i => decide (S 1 i = p ∧ S 2 i = k)) (S 0 3)).isSome
    · simp only [Bool.false_eq_true, if_false, if_true]
      rw [if_neg (by omega)]
      by_cases w3 : S 0 3 = 12
      · rw [if_neg (by omega)]
        simp only [w3, if_true]
        exact ⟨_, rfl, hS⟩
      · rw [if_pos (by omega)]
        have i1 : ix 12 (nI (S 0 3)) = some (S 0 3) := ix_nI (by omega) (by omega)
        have e3 : (sI sc 1 (S 0 3) (nI p)).1 0 3 = nI (S 0 3) := by rw [sI_1, if_neg (by omega)]; exact s3
        have e4 : (sI (sI sc 1 (S 0 3) (nI p)) 2 (S 0 3) (nI k)).1 0 3 = nI (S 0 3) := by rw [sI_1, if_neg (by omega)]; exact e3
        simp only [i1, e3, e4, w3, if_false, if_true, Option.bind_some, nadd]
        refine ⟨_, rfl, ?_⟩
        obtain ⟨⟨s1, s2, s3⟩, s4, s5⟩ := hS
        refine ⟨⟨?_, ?_, ?_⟩, fun i hi => ?_, fun r hr => ?_⟩
        · rw [sI_1, if_neg (by omega), sI_1, if_neg (by omega), sI_1, if_neg (by omega), doC_at, if_neg (by omega), if_neg (by omega), if_neg (by omega)]; exact s1
        · rw [sI_1, if_neg (by omega), sI_1, if_neg (by omega), sI_1, if_neg (by omega), doC_at, if_neg (by omega), if_neg (by omega), if_neg (by omega)]; exact s2
        · rw [sI_1, if_pos ⟨rfl, rfl⟩, doC_at, if_pos ⟨rfl, rfl⟩]
        · rw [doC_at, if_pos ⟨rfl, rfl⟩] at hi
          simp only [sI_1, doC_at]
          by_cases hh : i = S 0 3
          · simp [hh]
          · have := s4 i (by omega)
            simp [hh]
            exact this
        · simp only [sI_1, doC_at]
          have := s5 r hr
          simp
          exact this
    · simp only [if_true]
      rw [if_neg (by decide +kernel)]
      exact ⟨_, rfl, hS⟩
theorem mo_whyC (hB : sQB n h L e t hp hm) (hM : sQM n h L e t hp hm sr (m.1 2)) (hV : sSV n h L hp S) (hS : sSM n S (dOf m)) {p k : Nat} (hpn : p < n) (hk : k < h) : fMo_whyCall m (nI p) (nI k) = some (nI (whyC hm S p k)) := by
  have h5 := mo_callOf hV hB.2.1 hB.1 hS hpn hk
  obtain ⟨b1, b2, b3, b4, b5, b6, b7, b8, b9⟩ := hB
  obtain ⟨-, c5, c6, c7⟩ := hM
  have h7 := b9 p hpn
  have c6' := c6 p hpn
  have s3 := (sSM_live hS).1.2.2.2
  have hc := hV.1.2
  unfold fMo_whyCall whyC
  simp (disch := omega) only [h5, c6', s3, Option.bind_some, bnd, Sum.elim_inl, Sum.elim_inr, lit, nle, nlt, neq, nadd, nsub, nx_or, nx_and, shl_1, ix_nI]
  by_cases w1 : hm p = k + 1
  · rw [if_pos w1, if_pos w1]
  · rw [if_neg w1, if_neg w1]
    rcases fi_cases (fun i => decide (S 1 i = p ∧ S 2 i = k)) (S 0 3) with ⟨f1, -⟩ | ⟨i, f1, -, -, f2⟩
    · rw [f1]
      simp only [Option.isSome_none, Bool.false_eq_true, if_false]
      rw [if_pos (by decide +kernel)]
      by_cases w3 : S 0 3 = 12
      · rw [if_pos w3, if_pos w3]
      · rw [if_neg w3, if_neg w3]
    · rw [f2]
      simp only [Option.isSome_some, if_true]
      rw [if_neg (nI_lt0 (by omega))]
theorem mo_doC (hB : sQB n h L e t hp hm) (hV : sSV n h L hp S) (hS : sSM n S (dOf m)) {p k : Nat} (hpn : p < n) (hw : whyC hm S p k = 0) : ∃ m', fMo_books m (nI p) (nI k) = some m' ∧ mFr m m' ∧ sSM n (doC S p k) (dOf m') := by
  have hc := hV.1.2
  have hc2 : S 0 3 < 12 := by
    unfold whyC at hw
    by_cases w1 : hm p = k + 1
    · rw [if_pos w1] at hw; omega
    · rw [if_neg w1] at hw
      split at hw
      · omega
      · split at hw
        · omega
        · omega
  have s3 := (sSM_live hS).1.2.2.2
  have e3 : (sI m 2 (137 + S 0 3) (nI p)).1 2 72 = nI (S 0 3) := by rw [sI_1, if_neg (by omega)]; exact s3
  have e4 : (sI (sI m 2 (137 + S 0 3) (nI p)) 2 (149 + S 0 3) (nI k)).1 2 72 = nI (S 0 3) := by rw [sI_1, if_neg (by omega)]; exact e3
  unfold fMo_books
  simp (disch := omega) only [s3, e3, e4, Option.bind_some, bnd, Sum.elim_inl, Sum.elim_inr, lit, nle, nlt, neq, nadd, nsub, nx_or, nx_and, shl_1, ix_nI]
  refine ⟨_, rfl, mFr_trans (mFr_sI (by omega) (by omega)) (mFr_trans (mFr_sI (by omega) (by omega)) (mFr_sI (by omega) (by omega))), ?_⟩
  obtain ⟨⟨s1, s2, s3, s3'⟩, s4, s5⟩ := hS
  have b1 := hB.1
  refine ⟨⟨?_, ?_, ?_, ?_⟩, fun i hi => ?_, fun r hr => ?_⟩
  · simp only [dOf, sI_1]
    rw [if_neg (by omega), if_neg (by omega), if_neg (by omega), doC_at, if_neg (by omega), if_neg (by omega), if_neg (by omega)]; exact s1
  · simp only [dOf, sI_1]
    rw [if_neg (by omega), if_neg (by omega), if_neg (by omega)]; exact s2
  · simp only [dOf, sI_1]
    rw [if_neg (by omega), if_neg (by omega), if_neg (by omega), doC_at, if_neg (by omega), if_neg (by omega), if_neg (by omega)]; exact s3
  · rw [doC_at, if_pos ⟨rfl, rfl⟩]
    show (sI _ 2 72 _).1 2 72 = _
    rw [sI_1, if_pos ⟨rfl, rfl⟩]
  · rw [doC_at, if_pos ⟨rfl, rfl⟩] at hi
    simp only [dOf, sI_1, doC_at, true_and]
    by_cases hh : i = S 0 3
    · subst hh
      constructor
      · rw [if_neg (by omega), if_neg (by omega), if_pos (by omega), if_neg (by omega), if_neg (by omega), if_pos (by omega)]
      · rw [if_neg (by omega), if_pos (by omega), if_neg (by omega), if_pos (by omega)]
    · have g := s4 i (by omega)
      constructor
      · rw [if_neg (by omega), if_neg (by omega), if_neg (by omega), if_neg (by omega), if_neg (by omega), if_neg (by omega)]; exact g.1
      · rw [if_neg (by omega), if_neg (by omega), if_neg (by omega), if_neg (by omega), if_neg (by omega), if_neg (by omega)]; exact g.2
  · simp only [dOf, sI_1, doC_at, true_and]
    have g := s5 r hr
    refine ⟨?_, ?_, ?_, ?_, ?_, ?_, ?_, ?_⟩ <;> rw [if_neg (by omega), if_neg (by omega), if_neg (by omega), if_neg (by omega), if_neg (by omega), if_neg (by omega)]
    · exact g.1
    · exact g.2.1
    · exact g.2.2.1
    · exact g.2.2.2.1
    · exact g.2.2.2.2.1
    · exact g.2.2.2.2.2.1
    · exact g.2.2.2.2.2.2.1
    · exact g.2.2.2.2.2.2.2
theorem sSV_doC (hV : sSV n h L hp S) {p k : Nat} (hpn : p < n) (hk : k < h) (hw : whyC hm S p k = 0) : sSV n h L hp (doC S p k) := by
  have hc := hV.1.2
  have hc2 : S 0 3 < 12 := by
    unfold whyC at hw
    by_cases w1 : hm p = k + 1
    · rw [if_pos w1] at hw; omega
    · rw [if_neg w1] at hw
      split at hw
      · omega
      · split at hw
        · omega
        · omega
  obtain ⟨⟨v1, v2⟩, v3, v4, v5⟩ := hV
  have ej : ∀ j, 3 ≤ j → doC S p k j = S j := fun j hj => by
    funext r
    rw [doC_at, if_neg (by omega), if_neg (by omega), if_neg (by omega)]
  have e1 : doC S p k 0 1 = S 0 1 := by rw [doC_at, if_neg (by omega), if_neg (by omega), if_neg (by omega)]
  have e3 : doC S p k 0 3 = S 0 3 + 1 := by rw [doC_at, if_pos ⟨rfl, rfl⟩]
  have e0 : doC S p k 0 0 = S 0 0 := by rw [doC_at, if_neg (by omega), if_neg (by omega), if_neg (by omega)]
  refine ⟨⟨by rw [e1, e0]; exact v1, by rw [e3]; omega⟩, fun i hi => ?_, fun r hr => ?_, ?_⟩
  · rw [e3] at hi
    rw [doC_at, doC_at]
    by_cases hh : i = S 0 3
    · rw [if_neg (by omega), if_neg (by omega), if_pos ⟨rfl, hh⟩, if_neg (by omega), if_pos ⟨rfl, hh⟩]
      exact ⟨hpn, hk⟩
    · rw [if_neg (by omega), if_neg (by omega), if_neg (by omega), if_neg (by omega), if_neg (by omega), if_neg (by omega)]
      exact v3 i (by omega)
  · unfold sRow
    rw [e0, ej 3 (by omega), ej 4 (by omega), ej 5 (by omega), ej 6 (by omega), ej 7 (by omega), ej 8 (by omega), ej 9 (by omega), ej 10 (by omega)]
    exact v4 r hr
  · rw [ej 8 (by omega)]; exact v5
end
