section
variable {n h L e t : Nat} {hp hm : Nat → Nat} {sr : Nat → Bool} {q m m' m0 sc : Obj} {S S' : Nat → Nat → Nat} {T B : Nat}
theorem strg_no {p k : Nat} (hst : strg n hm S p k = true) {r : Nat} (hr : r < n) (hh : hm r = k + 1) : r ≠ p ∧ (S 8 p).testBit r = false := by
  have h0 : (S 8 p ||| 2 ^ p) &&& lvm n hm k = 0 := by
    have := hst
    unfold strg at this
    exact beq_iff_eq.mp this
  have h1 : ((S 8 p ||| 2 ^ p) &&& lvm n hm k).testBit r = false := by rw [h0]; exact Nat.zero_testBit r
  rw [Nat.testBit_and, Nat.testBit_or, Nat.testBit_two_pow] at h1
  unfold lvm at h1
  rw [msk_bit, decide_eq_true hr, hh, beq_self_eq_true] at h1
  simp only [Bool.and_self, Bool.and_true, Bool.or_eq_false_iff, decide_eq_false_iff_not] at h1
  exact ⟨fun z => h1.2 z.symm, h1.1⟩
theorem opK {c p k : Nat} (hst : strg n hm S c k = true) (hcp : p ≠ c) (hpn : p < n) : ∀ r, (2 ^ p ||| lvm n hm k).testBit r = true → r < n ∧ r ≠ c := fun r hr => by
  rw [Nat.testBit_or, Nat.testBit_two_pow] at hr
  unfold lvm at hr
  rw [msk_bit] at hr
  simp only [Bool.or_eq_true, decide_eq_true_eq, Bool.and_eq_true, beq_iff_eq] at hr
  rcases hr with hr | ⟨hr, hh⟩
  · subst hr; exact ⟨hpn, hcp⟩
  · exact ⟨hr, (strg_no hst hr hh).1⟩
theorem mo_J116 (hB : sQB n h L e t hp hm) (hM : sQM n h L e t hp hm sr (m.1 2)) (hV : sSV n h L hp S) (hS : sSM n S (dOf m)) {c p k : Nat} (hcn : c < n) (hpn : p < n) (hk : k < h) (hcp : p ≠ c) (hno : ∀ r, r < n → hm r = k + 1 → r ≠ c) : ∃ m', fMo_opens0_J116 m (nI c) (nI p) (nI k) = some m' ∧ mFr m m' ∧ sSM n (mkK S c (2 ^ p ||| lvm n hm k)) (dOf m') := by
  have b1 := hB.1
  have b2 := hB.2.1
  have b9 := hB.2.2.2.2.2.2.2.2
  obtain ⟨m1, a1, a2, a3⟩ := mo_knowsIn b1 hV hS hcn hpn (fun z => hcp z.symm)
  have key := lpo (f := fMo_opens0_L130 (nI c) (nI k)) (J := fun i x => mFr m x ∧ sSM n (mkK S c (2 ^ p ||| msk i (fun r => hm r == k + 1))) (dOf x)) n (by omega) (x := m1) ⟨a2, by
      show sSM n (mkK S c (2 ^ p ||| 0)) (dOf m1)
      rw [Nat.or_zero]; exact a3⟩ (fun i x hi hz => ?_) (fun x hz => ?_)
  · obtain ⟨m2, g1, g2, g3⟩ := key
    refine ⟨m2, ?_, g2, g3⟩
    unfold fMo_opens0_J116
    simp only [lit]
    rw [a1]
    simp only [Option.bind_some, g1]
  · obtain ⟨z1, z2⟩ := hz
    have hM2 := sQM_fr hB hM z1
    have c1 := hM2.1.2.1
    have c6 := hM2.2.2.1 i hi
    have h9 := b9 i hi
    have e1 : nI k + nI 1 = nI (k + 1) := nadd _ _
    unfold fMo_opens0_L130
    simp (disch := omega) only [c1, c6, lit, nadd, ix_nI, Option.bind_some]
    rw [if_neg (by rw [nle (by omega) (by omega)]; omega)]
    by_cases hh : hm i = k + 1
    · have hV2 : sSV n h L hp (mkK S c (2 ^ p ||| msk i (fun r => hm r == k + 1))) := sSV_mkK b1 hV hcn (fun r hr => by
        rw [Nat.testBit_or, Nat.testBit_two_pow, msk_bit] at hr
        simp only [Bool.or_eq_true, decide_eq_true_eq, Bool.and_eq_true, beq_iff_eq] at hr
        rcases hr with hr | ⟨hr, hh⟩
        · subst hr; exact ⟨hpn, hcp⟩
        · exact ⟨by omega, hno r (by omega) hh⟩)
      obtain ⟨m3, g1, g2, g3⟩ := mo_knowsIn b1 hV2 z2 hcn hi (fun z => hno i hi hh z.symm)
      rw [if_pos (by rw [hh]), g1]
      refine ⟨m3, rfl, mFr_trans z1 g2, ?_⟩
      rw [mkK_mkK] at g3
      show sSM n (mkK S c (2 ^ p ||| (msk i (fun r => hm r == k + 1) ||| (if hm i == k + 1 then 2 ^ i else 0)))) (dOf m3)
      rw [hh, beq_self_eq_true, if_pos rfl, ← Nat.or_assoc]
      exact g3
    · rw [if_neg (by rw [neq (by omega) (by omega)]; exact hh)]
      refine ⟨x, rfl, z1, ?_⟩
      show sSM n (mkK S c (2 ^ p ||| (msk i (fun r => hm r == k + 1) ||| (if hm i == k + 1 then 2 ^ i else 0)))) (dOf x)
      have : (hm i == k + 1) = false := beq_eq_false_iff_ne.mpr hh
      rw [this, if_neg (by decide), Nat.or_zero]
      exact z2
  · have c1 := (sQM_fr hB hM hz.1).1.2.1
    unfold fMo_opens0_L130
    simp only [c1]
    rw [if_pos (by rw [nle (by omega) (by omega)]; omega)]
theorem sSV_opB (hB : sQB n h L e t hp hm) (hV : sSV n h L hp S) {c p k : Nat} (hcn : c < n) (hpn : p < n) (hk6 : S 6 p = k + 1) (h0 : S 0 0 < 1000000) : sSV n h L hp (opB t sr S c p k) := by
  obtain ⟨b1, b2, b3, b4, b5, b6, b7, b8, b9⟩ := id hB
  obtain ⟨⟨v3, v4, v5, v6, v7, v8, v9, v10⟩, ⟨x1, x2, x3⟩, x4⟩ := hV.2.2.1 p hpn
  have hV1 := sSV_bmp hV (j := 10) (p := c) (by omega) h0
  unfold opB
  split
  · exact sSV_lane (sSV_02 hV1) hpn
  · refine sSV_stn hV1 hpn (by omega) (by omega) b7 (by omega) (fun _ => ?_) (by omega)
    have := x2 (by omega)
    rw [hk6] at this
    exact this
theorem mo_opend (hB : sQB n h L e t hp hm) (hM : sQM n h L e t hp hm sr (m.1 2)) (hV : sSV n h L hp S) (hS : sSM n S (dOf m)) {c p k : Nat} (hcn : c < n) (hpn : p < n) (hk6 : S 6 p = k + 1) (h0 : S 0 0 < 1000000) (hcp : p ≠ c) (hst : strg n hm S c k = true) : ∃ m', fMo_opens0 m (nI c) (nI p) = some m' ∧ mFr m m' ∧ sSM n (opS n t hm sr S c p k) (dOf m') := by
  have b1 := hB.1
  have hk : k < h := by have := (hV.2.2.1 p hpn).1.2.2.2.1; omega
  have hc := hV.1.2
  have hVB := sSV_opB (sr := sr) hB hV (c := c) hcn hpn hk6 h0
  obtain ⟨⟨s1, s2, s3, s3'⟩, -, sR⟩ := sSM_live hS
  have d6 := (sR p hpn).2.2.2.1
  have d10 := (sR c hcn).2.2.2.2.2.2.2
  have d70 : (sI m 2 (129 + c) (nI (S 10 c + 1))).1 2 70 = nI (sm n (S 10)) := by rw [sI_1, if_neg (by omega)]; exact s2
  have D1 := sSM_up10 b1 hS hc hcn
  have F1 : mFr m (sI (sI m 2 (129 + c) (nI (S 10 c + 1))) 2 70 (nI (sm n (S 10) + 1))) := mFr_trans (mFr_sI (by omega) (by omega)) (mFr_sI (by omega) (by omega))
  revert D1 F1
  generalize hm1 : sI (sI m 2 (129 + c) (nI (S 10 c + 1))) 2 70 (nI (sm n (S 10) + 1)) = m1
  intro D1 F1
  have M1 := sQM_fr hB hM F1
  have e35 := M1.2.2.2
  have e113 := ((sSM_live D1).2.2 c hcn).2.2.2.2.2.1
  rw [show bmp S 10 c 8 = S 8 from rfl] at e113
  have e71 : m1.1 2 71 = nI (S 0 2) := (sSM_live D1).1.2.2.1
  have hb1 := bitOf_n (a := msk n sr) (p := c) (msk_small sr (by omega)) (by omega)
  rw [msk_bit, decide_eq_true hcn, Bool.true_and] at hb1
  have v8 := (hV.2.2.1 c hcn).1.2.2.2.2.2.1
  have hb2 := bitOf_n (a := S 8 c) (p := p) (by omega) (by omega)
  have hno : ∀ r, r < n → hm r = k + 1 → r ≠ c := fun r hr hh => (strg_no hst hr hh).1
  have l0 : fMo_opens0 m (nI c) (nI p) = (if nI (if sr c then 1 else 0) = nI 0 then fMo_opens0_J71 m1 (nI c) (nI p) (nI k) else if nI (if (S 8 c).testBit p then 1 else 0) = nI 0 then fMo_opens0_J71 m1 (nI c) (nI p) (nI k) else fMo_opens0_J72 m1 (nI c) (nI p) (nI k) (nI 1)) := by
    unfold fMo_opens0
    simp (disch := omega) only [d6, hk6, d10, lit, nadd, ix_nI, Option.bind_some, bnd, nsub, Nat.add_sub_cancel]
    rw [d70, nadd, hm1, e35, hb1]
    simp only [Option.bind_some]
    rw [e113, hb2]
    simp only [Option.bind_some]
  have hA : opA sr S c p = false → ∃ m', fMo_opens0_J71 m1 (nI c) (nI p) (nI k) = some m' ∧ mFr m m' ∧ sSM n (opS n t hm sr S c p k) (dOf m') := fun ha => by
    have D2 : sSM n (bmp S 10 c) (dOf (sI m1 2 71 (nI (S 0 2 + 0)))) := sSM_up0 D1 (v := S 0 2)
    have F2 := mFr_trans F1 (mFr_sI (m := m1) (i := 71) (v := nI (S 0 2 + 0)) (by omega) (by omega))
    obtain ⟨m3, a1, a2, a3⟩ := mo_stn (S := bmp S 10 c) hB (sQM_fr hB hM F2) hc D2 (p := p) (v := 2) (d := k + 1) (x := nI k) hpn (by omega) (nadd k 1)
    have F3 := mFr_trans F2 a2
    rw [if_pos rfl] at a3
    unfold opS
    unfold opB at hVB ⊢
    simp only [ha, Bool.false_eq_true, if_false, if_true] at hVB ⊢
    obtain ⟨m4, a4, a5, a6⟩ := mo_J116 hB (sQM_fr hB hM F3) hVB a3 hcn hpn hk hcp hno
    refine ⟨m4, ?_, mFr_trans F3 a5, a6⟩
    unfold fMo_opens0_J71 fMo_opens0_J72 fMo_opens0_J92
    simp (disch := omega) only [e71, lit, nadd, ix_nI, Option.bind_some, bnd, if_true]
    rw [a1]
    exact a4
  have hA' : opA sr S c p = true → ∃ m', fMo_opens0_J72 m1 (nI c) (nI p) (nI k) (nI 1) = some m' ∧ mFr m m' ∧ sSM n (opS n t hm sr S c p k) (dOf m') := fun ha => by
    have D2 := sSM_up0 D1 (v := S 0 2 + 1)
    have F2 := mFr_trans F1 (mFr_sI (m := m1) (i := 71) (v := nI (S 0 2 + 1)) (by omega) (by omega))
    obtain ⟨m3, a1, a2, a3⟩ := mo_stn (S := u2 (bmp S 10 c) 0 2 (S 0 2 + 1)) hB (sQM_fr hB hM F2) hc D2 (p := p) (v := 0) (d := 0) (x := -nI 1) hpn (by omega) (by decide +kernel)
    have F3 := mFr_trans F2 a2
    rw [if_neg (by decide)] at a3
    unfold opS
    unfold opB at hVB ⊢
    simp only [ha, Bool.false_eq_true, if_false, if_true] at hVB ⊢
    obtain ⟨m4, a4, a5, a6⟩ := mo_J116 hB (sQM_fr hB hM F3) hVB a3 hcn hpn hk hcp hno
    refine ⟨m4, ?_, mFr_trans F3 a5, a6⟩
    have u1 : ¬ nI 1 = nI 0 := by decide +kernel
    unfold fMo_opens0_J72 fMo_opens0_J92
    simp (disch := omega) only [e71, u1, if_false, lit, nadd, ix_nI, Option.bind_some, bnd]
    rw [a1]
    exact a4
  rw [l0]
  unfold opA at hA hA'
  cases hs : sr c
  · rw [if_pos (by decide +kernel)]
    rw [hs] at hA
    exact hA rfl
  · rw [if_neg (by decide +kernel)]
    rw [hs] at hA hA'
    cases hb : (S 8 c).testBit p
    · rw [if_pos (by decide +kernel)]
      rw [hb] at hA
      exact hA rfl
    · rw [if_neg (by decide +kernel)]
      rw [hb] at hA'
      exact hA' rfl
end
