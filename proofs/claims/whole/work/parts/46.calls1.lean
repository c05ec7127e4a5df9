theorem out_or {v : Int32} {z : Nat} (hz : z < 2147483648) (hv : ∀ p, p < z → ¬ v = nI p) : v < nI 0 ∨ nI z ≤ v := by
  rcases nI_cases v with ⟨k, hk, rfl⟩ | ⟨h1, -⟩
  · right
    rw [nle hz hk]
    rcases Nat.lt_or_ge k z with h | h
    · exact absurd rfl (hv k h)
    · exact h
  · exact Or.inl h1
theorem isIn_in {p z : Nat} (h : p < z) (hz : z < 2147483648) : fMo_isIn (nI p) (nI 0) (nI z - nI 1) = some (nI 1) := by
  unfold fMo_isIn
  rw [nsub (by omega), if_neg (by rw [nlt (by omega) (by omega)]; omega), if_neg (by rw [nlt (by omega) (by omega)]; omega)]
  rfl
theorem isIn_out {v : Int32} {z : Nat} (hz : z < 2147483648) (hv : ∀ p, p < z → ¬ v = nI p) : fMo_isIn v (nI 0) (nI z - nI 1) = some (nI 0) := by
  unfold fMo_isIn
  by_cases h : v < nI 0
  · rw [if_pos h]; rfl
  · rw [if_neg h, if_pos (m1_lt hz h hv)]; rfl
theorem isIn_in' {p z : Nat} (h : p < z + 1) (hz : z < 2147483647) : fMo_isIn (nI p) (nI 0) (nI z) = some (nI 1) := by
  have := isIn_in (p := p) (z := z + 1) h (by omega)
  rw [nsub (by omega), Nat.add_sub_cancel] at this
  exact this
theorem isIn_out' {v : Int32} {z : Nat} (hz : z < 2147483647) (hv : ∀ p, p < z + 1 → ¬ v = nI p) : fMo_isIn v (nI 0) (nI z) = some (nI 0) := by
  have := isIn_out (v := v) (z := z + 1) (by omega) hv
  rw [nsub (by omega), Nat.add_sub_cancel] at this
  exact this
theorem isIn_m2 {v : Int32} : fMo_isIn v (nI 0) (-nI 1 - nI 1) = some (nI 0) := by
  unfold fMo_isIn
  by_cases h : v < nI 0
  · rw [if_pos h]; rfl
  · rw [if_neg h, if_pos ?_]
    · rfl
    · have h1 : -nI 1 - nI 1 < nI 0 := by decide +kernel
      have h2 : nI 0 ≤ v := by simpa using h
      exact Int32.lt_of_lt_of_le h1 h2
section
variable {X X' : Nat → Obj} {n h L e t : Nat} {hp hm : Nat → Nat} {sr : Nat → Bool} {q m m' m0 sc sc2 : Obj} {S S' : Nat → Nat → Nat} {T B : Nat}
theorem k_fault (hR : R X m) : ∃ r m', fKL_fault X = some r ∧ fMo_fault m = some (r, m') ∧ R X m' := by
  refine ⟨_, _, rfl, ?_, R_thr (v := nI 0) hR⟩
  obtain ⟨n, h, L, e, t, hp, hm, sr, -, -, -, -, -, -, hF, -⟩ := hR
  unfold fMo_fault
  rw [hF]
  rfl
theorem k_opt {v has one : Int32} (h : pOpt v has one) : (if has = nI 0 then -nI 1 else one) = v := by
  rcases h with ⟨h1, h2⟩ | ⟨h1, h2⟩
  · rw [if_pos h1, h2]
  · rw [if_neg (by rw [h1]; decide +kernel), h2]
theorem k_those (hR : R X m) : ∃ r m', fKL_those X = some r ∧ fMo_those m = some (r, m') ∧ R X m' := by
  refine ⟨_, _, rfl, ?_, R_thr (v := nI 0) hR⟩
  obtain ⟨n, h, L, e, t, hp, hm, sr, -, -, -, -, -, -, -, hF, -⟩ := hR
  rw [← k_opt hF]
  show (if m.1 0 25 = nI 0 then some (-nI 1, sI m 0 0 (nI 0)) else some (m.1 0 24, sI m 0 0 (nI 0))) = _
  split <;> rfl
theorem k_ask (hR : R X m) : ∃ r m', fKL_ask X = some r ∧ fMo_ask m = some (r, m') ∧ R X m' := by
  refine ⟨_, _, rfl, ?_, R_thr (v := nI 0) hR⟩
  obtain ⟨n, h, L, e, t, hp, hm, sr, -, -, -, -, -, -, -, -, hF, -⟩ := hR
  rw [← k_opt hF]
  show (if m.1 0 31 = nI 0 then some (-nI 1, sI m 0 0 (nI 0)) else some (m.1 0 30, sI m 0 0 (nI 0))) = _
  split <;> rfl
theorem k_chainAt (hR : R X m) (v : Int32) : ∃ r m', fKL_chainAt X v = some r ∧ fMo_chainAt m v = some (r, m') ∧ R X m' := by
  have hR1 := R_thr (v := nI 0) hR
  obtain ⟨n, h, L, e, t, hp, hm, sr, -, -, -, -, -, -, -, -, -, hF, -⟩ := hR
  unfold fKL_chainAt fCh_personAt fMo_chainAt
  simp only [lit, bnd]
  rcases hF with ⟨h1, h2⟩ | ⟨z, hz, h1, h2, h3⟩
  · refine ⟨-nI 1, _, ?_, ?_, hR1⟩
    · rw [h1]
      rcases out_or (v := v) (z := 0) (by omega) (fun p hp => by omega) with g | g
      · rw [if_pos g]; rfl
      · rw [if_pos g]; split <;> rfl
    · show (fMo_isIn v (nI 0) (m.1 0 29 - nI 1)).bind _ = _
      rw [h2, isIn_m2]; rfl
  · rcases isP_or v z with ⟨k, hk, rfl⟩ | hv
    · refine ⟨(X 220).1 1 k, _, ?_, ?_, hR1⟩
      · rw [h1, if_neg (nI_lt0 (by omega)), if_neg (by rw [nle (by omega) (by omega)]; omega), if_neg (by rw [nle (by omega) (by omega)]; omega), ix_nI (by omega) (by omega)]; rfl
      · show (fMo_isIn (nI k) (nI 0) (m.1 0 29 - nI 1)).bind _ = _
        rw [h2, isIn_in hk (by omega)]
        simp only [Option.bind_some]
        rw [if_neg (by decide +kernel), ix_nI (by omega) (by omega), h3 k hk]; rfl
    · refine ⟨-nI 1, _, ?_, ?_, hR1⟩
      · rw [h1]
        rcases out_or (by omega) hv with g | g
        · rw [if_pos g]; rfl
        · rw [if_pos g]; split <;> rfl
      · show (fMo_isIn v (nI 0) (m.1 0 29 - nI 1)).bind _ = _
        rw [h2, isIn_out (by omega) hv]; rfl
theorem and255 : ∀ c, c < 128 → nI c &&& nI 255 = nI c := by decide +kernel
theorem k_byteAt (hR : R X m) (v : Int32) : ∃ r m', fKL_byteAt X v = some r ∧ fMo_byteAt m v = some (r, m') ∧ R X m' := by
  have hR1 := R_thr (v := nI 0) hR
  obtain ⟨n, h, L, e, t, hp, hm, sr, -, -, -, -, -, -, -, -, -, -, hF, -⟩ := hR
  unfold fKL_byteAt fLa_signAt fMo_byteAt
  simp only [lit, bnd]
  obtain ⟨z, hz, h1, h2, h3⟩ := hF
  rcases isP_or v z with ⟨k, hk, rfl⟩ | hv
  · obtain ⟨h4, c, hc, h5⟩ := h3 k hk
    refine ⟨m.1 12 k, _, ?_, ?_, hR1⟩
    · rw [h1, if_neg (nI_lt0 (by omega)), if_neg (by rw [nle (by omega) (by omega)]; omega), if_neg (by rw [nle (by omega) (by omega)]; omega), ix_nI (by omega) (by omega)]
      simp only [Option.bind_some]
      rw [h4, h5, and255 c hc]
    · show (fMo_isIn (nI k) (nI 0) (m.1 0 33 - nI 1)).bind _ = _
      rw [h2, isIn_in hk (by omega)]
      simp only [Option.bind_some]
      rw [if_neg (by decide +kernel), ix_nI (by omega) (by omega)]; rfl
  · refine ⟨-nI 1, _, ?_, ?_, hR1⟩
    · rw [h1]
      rcases out_or (by omega) hv with g | g
      · rw [if_pos g]; rfl
      · rw [if_pos g]; split <;> rfl
    · show (fMo_isIn v (nI 0) (m.1 0 33 - nI 1)).bind _ = _
      rw [h2, isIn_out (by omega) hv]; rfl
theorem k_told (hR : R X m) (v : Int32) : ∃ r m', fKL_told X v = some r ∧ fMo_told m v = some (r, m') ∧ R X m' := by
  have hR1 := R_thr (v := nI 0) hR
  obtain ⟨n, h, L, e, t, hp, hm, sr, -, -, -, -, -, -, -, -, -, -, -, hF⟩ := hR
  unfold fKL_told fBk_tell fMo_told
  simp only [lit, bnd]
  rcases hF with ⟨h1, h2⟩ | ⟨h1, h2, h3, h4, h5, h6⟩
  · refine ⟨-nI 1, _, ?_, ?_, hR1⟩
    · rw [h1, if_pos rfl]; rfl
    · show (if m.1 0 37 = nI 0 then _ else _) = _
      rw [h2, if_pos rfl]
  · rw [h1, if_neg (by decide +kernel)]
    rcases isP_or v 4 with ⟨k, hk, rfl⟩ | hv
    · refine ⟨m.1 13 k, _, ?_, ?_, hR1⟩
      · rcases (show k = 0 ∨ k = 1 ∨ k = 2 ∨ k = 3 by omega) with z | z | z | z <;> subst z
        · rw [if_pos rfl, h3]; rfl
        · rw [if_neg (by decide +kernel), if_pos rfl, h4]; rfl
        · rw [if_neg (by decide +kernel), if_neg (by decide +kernel), if_pos rfl, h5]; rfl
        · rw [if_neg (by decide +kernel), if_neg (by decide +kernel), if_neg (by decide +kernel), if_pos rfl, h6]; rfl
      · show (if m.1 0 37 = nI 0 then _ else _) = _
        rw [h2, if_neg (by decide +kernel), isIn_in' hk (by omega)]
        simp only [Option.bind_some]
        rw [if_neg (by decide +kernel), ix_nI (by omega) (by omega)]; rfl
    · refine ⟨-nI 1, _, ?_, ?_, hR1⟩
      · rw [if_neg (hv 0 (by omega)), if_neg (hv 1 (by omega)), if_neg (hv 2 (by omega)), if_neg (hv 3 (by omega))]; rfl
      · show (if m.1 0 37 = nI 0 then _ else _) = _
        rw [h2, if_neg (by decide +kernel), isIn_out' (by omega) hv]; rfl
theorem k_count (hR : R X m) (v : Int32) : ∃ r m', fKL_count X v = some r ∧ fMo_count m v = some (r, m') ∧ R X m' := by
  have hR1 := R_thr (v := nI 0) hR
  obtain ⟨n, h, L, e, t, hp, hm, sr, ⟨hB, ⟨⟨c0, c1, c2, c3, c4⟩, -⟩, ⟨⟨d0, d1, d2, d3, d4⟩, -⟩, -⟩, -, ⟨z, hz, t1, t2, -⟩, -⟩ := hR
  unfold fKL_count fMo_count
  simp only [lit, bnd]
  by_cases h5 : v = nI 5
  · subst h5
    refine ⟨nI z, _, ?_, ?_, hR1⟩
    · rw [if_neg (by decide +kernel), if_neg (by decide +kernel), if_neg (by decide +kernel), if_neg (by decide +kernel), if_neg (by decide +kernel), if_pos rfl, t1]
    · rw [if_pos rfl, ← t2]; rfl
  · rcases isP_or v 5 with ⟨k, hk, rfl⟩ | hv
    · refine ⟨m.1 2 k, _, ?_, ?_, hR1⟩
      · rcases (show k = 0 ∨ k = 1 ∨ k = 2 ∨ k = 3 ∨ k = 4 by omega) with z | z | z | z | z <;> subst z
        · rw [if_pos rfl, c3, d0]
        · rw [if_neg (by decide +kernel), if_pos rfl, c4, d1]
        · rw [if_neg (by decide +kernel), if_neg (by decide +kernel), if_pos rfl, c0, d2]
        · rw [if_neg (by decide +kernel), if_neg (by decide +kernel), if_neg (by decide +kernel), if_pos rfl, c1, d3]
        · rw [if_neg (by decide +kernel), if_neg (by decide +kernel), if_neg (by decide +kernel), if_neg (by decide +kernel), if_pos rfl, c2, d4]
      · rw [if_neg h5, isIn_in' hk (by omega)]
        simp only [Option.bind_some]
        rw [if_neg (by decide +kernel), ix_nI (by omega) (by omega)]; rfl
    · refine ⟨-nI 1, _, ?_, ?_, hR1⟩
      · rw [if_neg (hv 0 (by omega)), if_neg (hv 1 (by omega)), if_neg (hv 2 (by omega)), if_neg (hv 3 (by omega)), if_neg (hv 4 (by omega)), if_neg h5]
      · rw [if_neg h5, isIn_out' (by omega) hv]; rfl
theorem k_call (hR : R X m) (v w : Int32) : ∃ r m', fKL_call X v w = some r ∧ fMo_call m v w = some (r, m') ∧ R X m' := by
  have hR1 := R_thr (v := nI 0) hR
  obtain ⟨n, h, L, e, t, hp, hm, sr, ⟨hB, hC, hM, hN, ⟨S, hV, hS, hD, -⟩, -⟩, -⟩ := hR
  have s3 := hS.1.2.2
  have hD' : sSM n S (dOf m) := hD
  have d3 := (sSM_live hD').1.2.2.2
  have hc := hV.1.2
  unfold fKL_call fMo_call
  simp only [lit, bnd]
  rcases isP_or v (S 0 3) with ⟨k, hk, rfl⟩ | hv
  · obtain ⟨k1, k2⟩ := (sSM_live hD').2.1 k hk
    obtain ⟨j1, j2⟩ := hS.2.1 k hk
    have l1 : ∀ z, fMo_isIn (nI k) (nI 0) ((sI m 0 0 z).1 2 72 - nI 1) = some (nI 1) := fun z => by
      show fMo_isIn (nI k) (nI 0) (m.1 2 72 - nI 1) = _
      rw [d3]; exact isIn_in hk (by omega)
    refine ⟨if w = nI 0 then nI (S 1 k) else if w = nI 1 then nI (S 2 k) else -nI 1, _, ?_, ?_, hR1⟩
    · rw [s3, if_neg (nI_lt0 (by omega)), if_neg (by rw [nle (by omega) (by omega)]; omega), if_pos (by rw [nlt (by omega) (by omega)]; omega), ix_nI (by omega) (by omega)]
      simp only [Option.bind_some]
      rw [j1, j2]
      split
      · rfl
      · split <;> rfl
    · rw [l1]
      simp only [Option.bind_some]
      rw [if_neg (by decide +kernel), nadd, nadd, ix_nI (by omega) (by omega), ix_nI (by omega) (by omega)]
      simp only [Option.bind_some]
      show (if w = nI 0 then some (m.1 2 (137 + k), _) else if w = nI 1 then some (m.1 2 (149 + k), _) else _) = _
      rw [k1, k2]
      split
      · rfl
      · split <;> rfl
  · refine ⟨-nI 1, _, ?_, ?_, hR1⟩
    · rw [s3]
      rcases out_or (by omega) hv with g | g
      · rw [if_pos g]
      · rw [if_pos g]; split <;> rfl
    · have l1 : ∀ z, fMo_isIn v (nI 0) ((sI m 0 0 z).1 2 72 - nI 1) = some (nI 0) := fun z => by
        show fMo_isIn v (nI 0) (m.1 2 72 - nI 1) = _
        rw [d3]; exact isIn_out (by omega) hv
      rw [l1]; rfl
theorem k_house (hR : R X m) (v w : Int32) : ∃ r m', fKL_house X v w = some r ∧ fMo_house m v w = some (r, m') ∧ R X m' := by
  have hR1 := R_thr (v := nI 0) hR
  obtain ⟨n, h, L, e, t, hp, hm, sr, ⟨hB, hC, hM, hN, ⟨S, hV, hS, hD, -⟩, -⟩, -⟩ := hR
  have hM' : sQM n h L e t hp hm sr ((sI m 0 0 (nI 0)).1 2) := hM
  have hD' : sSM n S (dOf (sI m 0 0 (nI 0))) := hD
  obtain ⟨b1, b2, b3, b4, b5, b6, b7, b8, b9⟩ := id hB
  unfold fKL_house fMo_house
  simp only [lit, bnd]
  rcases isP_or v h with ⟨k, hk, rfl⟩ | hv
  · rw [qu_hasH hB hC hk, mo_isH hB hM' hk, qu_place hB hC hk, qu_living hB hC hk, mo_dwellers hB hM' (by omega), sc_strangers hB hC hV hS hk, mo_strangers hB hM' hV hD' hk, sc_at hB hC hV hS hk (by omega), sc_at hB hC hV hS hk (by omega), mo_at hB hM' hV hD' hk (by omega), mo_at hB hM' hV hD' hk (by omega), nadd, ix_nI (by omega) (by omega)]
    have u1 : ¬ nI 1 = nI 0 := by decide +kernel
    simp only [Option.bind_some, u1, if_false]
    rw [hM'.2.1 k hk]
    by_cases w0 : w = nI 0
    · rw [if_pos w0, if_pos w0]; exact ⟨_, _, rfl, rfl, hR1⟩
    · rw [if_neg w0, if_neg w0]
      by_cases w1 : w = nI 1
      · rw [if_pos w1, if_pos w1]; exact ⟨_, _, rfl, rfl, hR1⟩
      · rw [if_neg w1, if_neg w1]
        by_cases w2 : w = nI 2
        · rw [if_pos w2, if_pos w2]; exact ⟨_, _, rfl, rfl, hR1⟩
        · rw [if_neg w2, if_neg w2]
          by_cases w3 : w = nI 3
          · rw [if_pos w3, if_pos w3]; exact ⟨_, _, rfl, rfl, hR1⟩
          · rw [if_neg w3, if_neg w3]
            by_cases w4 : w = nI 4
            · rw [if_pos w4, if_pos w4]; exact ⟨_, _, rfl, rfl, hR1⟩
            · rw [if_neg w4, if_neg w4]; exact ⟨_, _, rfl, rfl, hR1⟩
  · rw [qu_hasH0 hB hC hv, mo_isH0 hB hM' hv]
    exact ⟨_, _, rfl, rfl, hR1⟩
theorem k_now (hR : R X m) (w : Int32) : ∃ r m', fKL_now X w = some r ∧ fMo_now m w = some (r, m') ∧ R X m' := by
  have hR1 := R_thr (v := nI 0) hR
  obtain ⟨n, h, L, e, t, hp, hm, sr, ⟨hB, hC, hM, hN, ⟨S, hV, hS, hD, -⟩, -⟩, -⟩ := hR
  have hM' : sQM n h L e t hp hm sr ((sI m 0 0 (nI 0)).1 2) := hM
  have hD' : sSM n S (dOf (sI m 0 0 (nI 0))) := hD
  obtain ⟨⟨s1, s2, s3⟩, -⟩ := id hS
  obtain ⟨⟨d1, d2, d3, d4⟩, -⟩ := sSM_live hD'
  unfold fKL_now fMo_now
  simp only [lit, bnd]
  rw [sc_are hB hC hV hS (by omega), sc_are hB hC hV hS (by omega), sc_are hB hC hV hS (by omega), mo_are hB hM' hV hD' (by omega), mo_are hB hM' hV hD' (by omega), mo_are hB hM' hV hD' (by omega), sc_open hB hC hV hS, mo_open hB hM' hV hD', sc_opened hB hC hS, s1, s2, s3, d1, d2, d3, d4]
  simp only [Option.bind_some]
  by_cases w0 : w = nI 0
  · rw [if_pos w0, if_pos w0]; exact ⟨_, _, rfl, rfl, hR1⟩
  · rw [if_neg w0, if_neg w0]
    by_cases w1 : w = nI 1
    · rw [if_pos w1, if_pos w1]; exact ⟨_, _, rfl, rfl, hR1⟩
    · rw [if_neg w1, if_neg w1]
      by_cases w2 : w = nI 2
      · rw [if_pos w2, if_pos w2]; exact ⟨_, _, rfl, rfl, hR1⟩
      · rw [if_neg w2, if_neg w2]
        by_cases w3 : w = nI 3
        · rw [if_pos w3, if_pos w3]; exact ⟨_, _, rfl, rfl, hR1⟩
        · rw [if_neg w3, if_neg w3]
          by_cases w4 : w = nI 4
          · rw [if_pos w4, if_pos w4]; exact ⟨_, _, rfl, rfl, hR1⟩
          · rw [if_neg w4, if_neg w4]
            by_cases w5 : w = nI 5
            · rw [if_pos w5, if_pos w5]; exact ⟨_, _, rfl, rfl, hR1⟩
            · rw [if_neg w5, if_neg w5]
              by_cases w6 : w = nI 6
              · rw [if_pos w6, if_pos w6]; exact ⟨_, _, rfl, rfl, hR1⟩
              · rw [if_neg w6, if_neg w6]
                by_cases w7 : w = nI 7
                · rw [if_pos w7, if_pos w7]; exact ⟨_, _, rfl, rfl, hR1⟩
                · rw [if_neg w7, if_neg w7]; exact ⟨_, _, rfl, rfl, hR1⟩
end
