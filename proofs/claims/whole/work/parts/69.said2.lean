section
variable {X X' : Nat → Obj} {n h L e t : Nat} {hp hm : Nat → Nat} {sr : Nat → Bool} {q m sc sy y x : Obj} {S : Nat → Nat → Nat} {A B C : Nat → Nat} {c : Nat}
theorem R_f15 (hR : R X m) (hf : f15 m x) : R X x := by
  obtain ⟨n, h, L, e, t, hp, hm, sr, hs, hP, hT, hr⟩ := hR
  obtain ⟨f2, f1⟩ := hf
  refine ⟨n, h, L, e, t, hp, hm, sr, ?_, ?_, ?_, ?_⟩
  · rw [f2, f1 2 (by omega)]; exact hs
  · rw [f1 7 (by omega), f1 0 (by omega)]; exact hP
  · rw [f1 1 (by omega), f1 0 (by omega)]; exact hT
  · unfold pRest at hr ⊢
    rw [f2, f1 16 (by omega), f1 18 (by omega), f1 0 (by omega), f1 11 (by omega), f1 12 (by omega), f1 13 (by omega)]
    exact hr
theorem ctb_n {a n : Nat} (hn : n ≤ 8) (h : ∀ i, n ≤ i → a.testBit i = false) : ctb a n = pcnt a := by
  have : ∀ k, n ≤ k → ctb a k = ctb a n := fun k hk => by
    induction k with
    | zero =>
      have : n = 0 := by omega
      rw [this]
    | succ k ih =>
      by_cases hkn : n = k + 1
      · rw [hkn]
      · show ctb a k + (if a.testBit k then 1 else 0) = _
        rw [ih (by omega), h k (by omega)]; rfl
  exact (this 8 hn).symm
theorem k_said (hR : R X m) (v : Int32) : ∃ r X' m', fKL_said X v = some (r, X') ∧ fMo_said m v = some (r, m') ∧ R X' m' := by
  have hR1 := R_thr (v := nI 0) hR
  obtain ⟨n, h, L, e, t, hp, hm, sr, ⟨hB, hC, hM, hN, hc0, hY⟩, hP, hT, hI0, hI1, hr⟩ := id hR1
  obtain ⟨S, hV, hS, hD, -⟩ := id hc0
  obtain ⟨c, o, A, B, C, hc, ho, hoc, y0, yC, yM, ht, hdp⟩ := hY
  have b1 := hB.1
  by_cases hcz : c = 0
  · have hoz := hoc.mpr hcz
    refine ⟨-nI 1, X, sI m 0 0 (nI 0), ?_, ?_, hR1⟩
    · unfold fKL_said
      rw [y0, hoz, if_pos (show nI 0 = (0 : Int32) from rfl)]
      rfl
    · have : (sI m 0 0 (nI 0)).1 2 161 = nI c := yM.1
      unfold fMo_said
      show (if (sI m 0 0 (nI 0)).1 2 161 = (0 : Int32) then some (-nI 1, sI m 0 0 (nI 0)) else _) = _
      rw [this, hcz, if_pos (show nI 0 = (0 : Int32) from rfl)]
  · have hoz : ¬ o = 0 := fun z => hcz (hoc.mp z)
    have hd := hdp hcz
    obtain ⟨y', g1, g2, g3⟩ := sy_true hB hC hV hS hc ht hd yC
    have hsd := fun (x : Obj) (hf : f15 (sI m 0 0 (nI 0)) x) (p : Nat) (hpn : p < n) => mo_isSaid (m := sI m 0 0 (nI 0)) hB hM hV hD hc ht hd yM hpn hf
    revert g1 hsd
    generalize stf (fun i p => leaf hm sr S (A i) (B i) (C i) p) A c 0 = Q
    intro g1 hsd
    have hmk := msk_256 (n := n) Q b1
    have hmb := fun p => msk_bit Q n p
    revert g1 hmk hmb
    generalize msk n Q = K
    intro g1 hmk hmb
    have hhigh : ∀ i, n ≤ i → K.testBit i = false := fun i hi => by rw [hmb, decide_eq_false (by omega), Bool.false_and]
    have hRX : R (va_up X 23 y') (sI m 0 0 (nI 0)) := ⟨n, h, L, e, t, hp, hm, sr, ⟨hB, hC, hM, hN, hc0, c, o, A, B, C, hc, ho, hoc, g3.trans y0, g2, yM, ht, hdp⟩, past_up hP (by omega), hT, hI0, hI1, hr⟩
    have hcl : fKL_said X v = if v = -nI 1 then some (nI (pcnt K), va_up X 23 y') else some (bI (fi (fun p => K.testBit p && decide (nI (ctb K p) = v)) 8), va_up X 23 y') := by
      show (if (X 23).1 0 0 = (0 : Int32) then some (-nI 1, X) else (fSy_trueOf (X 5) (X 12) (X 23)).bind fun r1 => if v = -nI 1 then (fJI_bitCount r1.1).bind fun r3 => some (r3, va_up X 23 r1.2) else (fKL_bitInOrder r1.1 v).bind fun r4 => some (r4, va_up X 23 r1.2)) = _
      rw [y0, if_neg (show ¬ nI o = (0 : Int32) from fun z => hoz ((neq (by omega) (by omega)).mp z)), g1, Option.bind_some, jbc hmk, bio hmk, Option.bind_some, Option.bind_some]
    have h161 : (sI m 0 0 (nI 0)).1 2 161 = nI c := yM.1
    have hmo : fMo_said m v = if -nI 1 ≤ v then (iter (fMo_said_L27 v) FU (nI 0, nI 0, sI m 0 0 (nI 0))).bind fun z => Sum.elim (fun e3 => if v = -nI 1 then some (e3.1, e3.2) else some (-nI 1, e3.2)) (fun r4 => some r4) z else some (-nI 1, sI m 0 0 (nI 0)) := by
      show (if (sI m 0 0 (nI 0)).1 2 161 = (0 : Int32) then some (-nI 1, sI m 0 0 (nI 0)) else _) = _
      rw [h161, if_neg (show ¬ nI c = (0 : Int32) from fun z => hcz ((neq (by omega) (by omega)).mp z))]
      rfl
    by_cases hv : -nI 1 ≤ v
    · rw [if_pos hv] at hmo
      have c1 := hM.1.2.1
      have key := iter_I (f := fMo_said_L27 v) (I := fun i a => ∃ x, a = (nI (ctb K i), nI i, x) ∧ f15 (sI m 0 0 (nI 0)) x ∧ ∀ j, j < i → (K.testBit j && decide (nI (ctb K j) = v)) = false) (E := fun z => ∃ x, f15 (sI m 0 0 (nI 0)) x ∧ ((z = .inl (nI (pcnt K), x) ∧ ∀ j, j < 8 → (K.testBit j && decide (nI (ctb K j) = v)) = false) ∨ ∃ k, k < 8 ∧ z = .inr (nI k, x) ∧ nI (ctb K k) = v ∧ fi (fun p => K.testBit p && decide (nI (ctb K p) = v)) 8 = some k)) n (by omega) (a := (nI 0, nI 0, sI m 0 0 (nI 0))) ⟨_, rfl, f15_refl _, fun j hj => absurd hj (by omega)⟩ (fun i a hi hz => ?_) (fun a hz => ?_)
      · obtain ⟨z, w1, x, w2, w3⟩ := key
        rw [w1, Option.bind_some] at hmo
        rcases w3 with ⟨rfl, w4⟩ | ⟨k, k1, rfl, k2, k3⟩
        · rw [Sum.elim_inl] at hmo
          by_cases hvm : v = -nI 1
          · rw [if_pos hvm] at hmo hcl
            exact ⟨_, _, x, hcl, hmo, R_f15 hRX w2⟩
          · rw [if_neg hvm] at hmo hcl
            rw [fi_none w4] at hcl
            exact ⟨_, _, x, hcl, hmo, R_f15 hRX w2⟩
        · rw [Sum.elim_inr] at hmo
          have hvm : ¬ v = -nI 1 := fun z => by
            have := ctb_le K k
            exact nI_ne_m1' (a := ctb K k) (by omega) (k2.trans z)
          rw [if_neg hvm, k3] at hcl
          exact ⟨_, _, x, hcl, hmo, R_f15 hRX w2⟩
      · obtain ⟨x, rfl, h1, h2⟩ := hz
        obtain ⟨x', j1, j2⟩ := hsd x h1 i hi
        have x21 : x.1 2 1 = nI n := by rw [h1.2 2 (by omega)]; exact c1
        have hKi : K.testBit i = Q i := by rw [hmb, decide_eq_true hi, Bool.true_and]
        have l1 : fMo_said_L27 v (nI (ctb K i), nI i, x) = (if Q i then (if nI (ctb K i) = v then some (.inr (.inr (nI i, x'))) else some (.inl (nI (ctb K i + 1), nI (i + 1), x'))) else some (.inl (nI (ctb K i), nI (i + 1), x'))) := by
          unfold fMo_said_L27
          simp only [lit]
          rw [x21, if_neg (by rw [nle (by omega) (by omega)]; omega), j1, Option.bind_some, nadd, nadd]
          cases Q i
          · rw [if_pos (show nI (bn false) = nI 0 from rfl)]; rfl
          · rw [if_neg (show ¬ nI (bn true) = nI 0 by decide +kernel)]; rfl
        rw [l1]
        cases hq : Q i
        · left
          refine ⟨_, rfl, x', ?_, j2, fun j hj => ?_⟩
          · show _ = (nI (ctb K i + (if K.testBit i then 1 else 0)), nI (i + 1), x')
            rw [hKi, hq]; rfl
          · by_cases hji : j = i
            · subst hji; rw [hKi, hq]; rfl
            · exact h2 j (by omega)
        · rw [if_pos rfl]
          by_cases hcv : nI (ctb K i) = v
          · right
            rw [if_pos hcv]
            refine ⟨_, rfl, x', j2, Or.inr ⟨i, by omega, rfl, hcv, fi_some (P := fun p => K.testBit p && decide (nI (ctb K p) = v)) (k := i) ?_ h2 (by omega)⟩⟩
            show (K.testBit i && decide (nI (ctb K i) = v)) = true
            rw [hKi, hq, decide_eq_true hcv]; rfl
          · left
            rw [if_neg hcv]
            refine ⟨_, rfl, x', ?_, j2, fun j hj => ?_⟩
            · show _ = (nI (ctb K i + (if K.testBit i then 1 else 0)), nI (i + 1), x')
              rw [hKi, hq]; rfl
            · by_cases hji : j = i
              · subst hji; rw [decide_eq_false hcv, Bool.and_false]
              · exact h2 j (by omega)
      · obtain ⟨x, rfl, h1, h2⟩ := hz
        have x21 : x.1 2 1 = nI n := by rw [h1.2 2 (by omega)]; exact c1
        refine ⟨_, ?_, x, h1, Or.inl ⟨rfl, fun j hj => ?_⟩⟩
        · unfold fMo_said_L27
          simp only
          rw [x21, if_pos (by rw [nle (by omega) (by omega)]; omega), ctb_n b1 hhigh]
        · by_cases hjn : j < n
          · exact h2 j hjn
          · rw [hhigh j (by omega)]; rfl
    · rw [if_neg hv] at hmo
      have hvm : ¬ v = -nI 1 := fun z => hv (by rw [z]; exact Int32.le_refl _)
      rw [if_neg hvm, fi_none (fun j hj => ?_)] at hcl
      · exact ⟨_, _, _, hcl, hmo, hRX⟩
      · rw [decide_eq_false (fun z => hv ?_), Bool.and_false]
        rw [← z]
        have hj2 := ctb_le K j
        have h1 : -nI 1 ≤ nI 0 := by decide +kernel
        exact Int32.le_trans h1 (by rw [nle (by omega) (by omega)]; omega)
theorem k_person (hR : R X m) (v w : Int32) : ∃ z r m', fKL_person X v w = some z ∧ fMo_person m v w = some (r, m') ∧ R X m' ∧ ((z = .inl r ∧ m'.1 0 0 = nI 0) ∨ (z = .inr () ∧ m'.1 0 0 = nI 1)) := by
  have u1 : ¬ nI 1 = nI 0 := by decide +kernel
  have hR0 := R_thr (v := nI 0) hR
  have hR1 := R_thr (v := nI 1) hR
  obtain ⟨n, h, L, e, t, hp, hm, sr, ⟨hB, hC, hM, hN, ⟨S, hV, hS, hD, -⟩, -⟩, -⟩ := hR
  have hM0 : sQM n h L e t hp hm sr ((sI m 0 0 (nI 0)).1 2) := hM
  have hD0 : sSM n S (dOf (sI m 0 0 (nI 0))) := hD
  obtain ⟨b1, b2, b3, b4, b5, b6, b7, b8, b9⟩ := id hB
  have j1 : fMo_person_J24 m v w (nI 1) = some (nI 0, sI m 0 0 (nI 1)) := by
    unfold fMo_person_J24 fMo_throwsIf
    simp only [lit, bnd]
    rw [if_neg u1, Option.bind_some, bz_1, if_neg u1]
  have bad : fKL_person X v w = some (.inr ()) → fMo_person m v w = fMo_person_J24 m v w (nI 1) → ∃ z r m', fKL_person X v w = some z ∧ fMo_person m v w = some (r, m') ∧ R X m' ∧ ((z = .inl r ∧ m'.1 0 0 = nI 0) ∨ (z = .inr () ∧ m'.1 0 0 = nI 1)) := fun h1 h2 => ⟨_, _, _, h1, h2.trans j1, hR1, Or.inr ⟨rfl, by rw [sI_1, if_pos ⟨rfl, rfl⟩]⟩⟩
  rcases isP_or v n with ⟨p, hpn, rfl⟩ | hv
  · by_cases a1 : w < nI 0
    · apply bad
      · unfold fKL_person
        simp only [lit]
        rw [qu_hasP hB hC hpn, Option.bind_some, if_neg u1, if_pos a1]
      · unfold fMo_person fMo_person_J19
        simp only [lit]
        rw [mo_isP hB hM hpn, Option.bind_some, if_neg u1, isIn_no (Or.inl a1)]
        rfl
    · by_cases a2 : w ≤ nI 10
      · obtain ⟨k, -, k2, rfl⟩ := in_rng (by omega) (by omega) a1 a2
        obtain ⟨r3, r4, r5, r6, r7, r8, r9, r10⟩ := hS.2.2 p hpn
        obtain ⟨d3, d4, d5, d6, d7, d8, d9, d10⟩ := (sSM_live hD0).2.2 p hpn
        have cl1 := sc_calls hV b2 b1 hS hpn
        have cl2 := mo_callsL hV b2 b1 hD0 hpn
        have qh := qu_home hB hC hpn
        have qs := qu_stern hB hC hpn
        have c6 := hM0.2.2.1 p hpn
        have c7 := hM0.2.2.2
        have lC : fKL_person X (nI p) (nI k) = (fSc_detail (X 5) (X 12) (nI p) (nI k)).bind fun r2 => some (.inl r2) := by
          unfold fKL_person
          simp only [lit]
          rw [qu_hasP hB hC hpn, Option.bind_some, if_neg u1, if_neg a1, if_pos a2]
        have lM : fMo_person m (nI p) (nI k) = fMo_person_J24 m (nI p) (nI k) (nI 0) := by
          unfold fMo_person
          simp only [lit]
          rw [mo_isP hB hM hpn, Option.bind_some, if_neg u1, isIn_yes a1 a2, Option.bind_some, if_neg u1]
        have lJ : fMo_person_J24 m (nI p) (nI k) (nI 0) = some ((if k = 0 then nI (S 3 p) else if k = 1 then nI (S 4 p) else if k = 2 then nI (S 5 p) else if k = 3 then nI (S 6 p) - nI 1 else if k = 4 then nI (S 7 p) else if k = 5 then nI (S 8 p) else if k = 6 then nI (cmk S p (S 0 3)) else if k = 7 then nI (S 9 p) else if k = 8 then nI (S 10 p) else if k = 9 then nI (hm p) - nI 1 else nI (if sr p then 1 else 0)), sI m 0 0 (nI 0)) := by
          have hsr : shr (nI (msk n sr)) (nI p) &&& nI 1 = nI (if sr p then 1 else 0) := by
            rw [bit_n (msk_small sr (by omega)) (by omega), msk_bit, decide_eq_true hpn, Bool.true_and]
          rcases (show k = 0 ∨ k = 1 ∨ k = 2 ∨ k = 3 ∨ k = 4 ∨ k = 5 ∨ k = 6 ∨ k = 7 ∨ k = 8 ∨ k = 9 ∨ k = 10 by omega) with z | z | z | z | z | z | z | z | z | z | z <;> subst z
          all_goals
            unfold fMo_person_J24 fMo_throwsIf
            simp only [lit, bnd, if_true, Option.bind_some, bz_0, nadd]
            rw [cl2, Option.bind_some]
          · rw [ix_nI (by omega) (by omega), Option.bind_some, d3]
          · rw [if_neg (by decide +kernel), ix_nI (by omega) (by omega), Option.bind_some, d4]
            rfl
          · rw [if_neg (by decide +kernel), if_neg (by decide +kernel), ix_nI (by omega) (by omega), Option.bind_some, d5]
            rfl
          · rw [if_neg (by decide +kernel), if_neg (by decide +kernel), if_neg (by decide +kernel), ix_nI (by omega) (by omega), Option.bind_some, d6]
            rfl
          · rw [if_neg (by decide +kernel), if_neg (by decide +kernel), if_neg (by decide +kernel), if_neg (by decide +kernel), ix_nI (by omega) (by omega), Option.bind_some, d7]
            rfl
          · rw [if_neg (by decide +kernel), if_neg (by decide +kernel), if_neg (by decide +kernel), if_neg (by decide +kernel), if_neg (by decide +kernel), ix_nI (by omega) (by omega), Option.bind_some, d8]
            rfl
          · rw [if_neg (by decide +kernel), if_neg (by decide +kernel), if_neg (by decide +kernel), if_neg (by decide +kernel), if_neg (by decide +kernel), if_neg (by decide +kernel)]
            rfl
          · rw [if_neg (by decide +kernel), if_neg (by decide +kernel), if_neg (by decide +kernel), if_neg (by decide +kernel), if_neg (by decide +kernel), if_neg (by decide +kernel), if_neg (by decide +kernel), ix_nI (by omega) (by omega), Option.bind_some, d9]
            rfl
          · rw [if_neg (by decide +kernel), if_neg (by decide +kernel), if_neg (by decide +kernel), if_neg (by decide +kernel), if_neg (by decide +kernel), if_neg (by decide +kernel), if_neg (by decide +kernel), if_neg (by decide +kernel), ix_nI (by omega) (by omega), Option.bind_some, d10]
            rfl
          · rw [if_neg (by decide +kernel), if_neg (by decide +kernel), if_neg (by decide +kernel), if_neg (by decide +kernel), if_neg (by decide +kernel), if_neg (by decide +kernel), if_neg (by decide +kernel), if_neg (by decide +kernel), if_neg (by decide +kernel), ix_nI (by omega) (by omega), Option.bind_some, c6]
            rfl
          · rw [if_neg (by decide +kernel), if_neg (by decide +kernel), if_neg (by decide +kernel), if_neg (by decide +kernel), if_neg (by decide +kernel), if_neg (by decide +kernel), if_neg (by decide +kernel), if_neg (by decide +kernel), if_neg (by decide +kernel), if_neg (by decide +kernel), c7, hsr]
            rfl
        have lD : fSc_detail (X 5) (X 12) (nI p) (nI k) = some (if k = 0 then nI (S 3 p) else if k = 1 then nI (S 4 p) else if k = 2 then nI (S 5 p) else if k = 3 then nI (S 6 p) - nI 1 else if k = 4 then nI (S 7 p) else if k = 5 then nI (S 8 p) else if k = 6 then nI (cmk S p (S 0 3)) else if k = 7 then nI (S 9 p) else if k = 8 then nI (S 10 p) else if k = 9 then nI (hm p) - nI 1 else nI (if sr p then 1 else 0)) := by
          have hst : (if nI (if sr p then 1 else 0) = nI 0 then some (nI 0) else some (nI 1)) = some (nI (if sr p then 1 else 0)) := by
            cases sr p
            · rfl
            · rw [if_neg (show ¬ nI (if true = true then 1 else 0) = nI 0 by decide +kernel)]; rfl
          rcases (show k = 0 ∨ k = 1 ∨ k = 2 ∨ k = 3 ∨ k = 4 ∨ k = 5 ∨ k = 6 ∨ k = 7 ∨ k = 8 ∨ k = 9 ∨ k = 10 by omega) with z | z | z | z | z | z | z | z | z | z | z <;> subst z
          all_goals
            unfold fSc_detail
            simp only [lit, if_true]
            rw [qu_hasP hB hC hpn, Option.bind_some, if_neg u1]
          · rw [ix_nI (by omega) (by omega), Option.bind_some, r3]
          · rw [if_neg (by decide +kernel), ix_nI (by omega) (by omega), Option.bind_some, r4]
            rfl
          · rw [if_neg (by decide +kernel), if_neg (by decide +kernel), ix_nI (by omega) (by omega), Option.bind_some, r5]
            rfl
          · rw [if_neg (by decide +kernel), if_neg (by decide +kernel), if_neg (by decide +kernel), ix_nI (by omega) (by omega), Option.bind_some, r6]
            rfl
          · rw [if_neg (by decide +kernel), if_neg (by decide +kernel), if_neg (by decide +kernel), if_neg (by decide +kernel), ix_nI (by omega) (by omega), Option.bind_some, r7]
            rfl
          · rw [if_neg (by decide +kernel), if_neg (by decide +kernel), if_neg (by decide +kernel), if_neg (by decide +kernel), if_neg (by decide +kernel), ix_nI (by omega) (by omega), Option.bind_some, r8]
            rfl
          · rw [if_neg (by decide +kernel), if_neg (by decide +kernel), if_neg (by decide +kernel), if_neg (by decide +kernel), if_neg (by decide +kernel), if_neg (by decide +kernel), cl1]
            rfl
          · rw [if_neg (by decide +kernel), if_neg (by decide +kernel), if_neg (by decide +kernel), if_neg (by decide +kernel), if_neg (by decide +kernel), if_neg (by decide +kernel), if_neg (by decide +kernel), ix_nI (by omega) (by omega), Option.bind_some, r9]
            rfl
          · rw [if_neg (by decide +kernel), if_neg (by decide +kernel), if_neg (by decide +kernel), if_neg (by decide +kernel), if_neg (by decide +kernel), if_neg (by decide +kernel), if_neg (by decide +kernel), if_neg (by decide +kernel), ix_nI (by omega) (by omega), Option.bind_some, r10]
            rfl
          · rw [if_neg (by decide +kernel), if_neg (by decide +kernel), if_neg (by decide +kernel), if_neg (by decide +kernel), if_neg (by decide +kernel), if_neg (by decide +kernel), if_neg (by decide +kernel), if_neg (by decide +kernel), if_neg (by decide +kernel), qh]
            rfl
          · rw [if_neg (by decide +kernel), if_neg (by decide +kernel), if_neg (by decide +kernel), if_neg (by decide +kernel), if_neg (by decide +kernel), if_neg (by decide +kernel), if_neg (by decide +kernel), if_neg (by decide +kernel), if_neg (by decide +kernel), if_neg (by decide +kernel), qs, Option.bind_some, hst]
            rfl
        rw [lD, Option.bind_some] at lC
        exact ⟨_, _, _, lC, lM.trans lJ, hR0, Or.inl ⟨rfl, by rw [sI_1, if_pos ⟨rfl, rfl⟩]⟩⟩
      · apply bad
        · unfold fKL_person
          simp only [lit]
          rw [qu_hasP hB hC hpn, Option.bind_some, if_neg u1, if_neg a1, if_neg a2]
        · unfold fMo_person fMo_person_J19
          simp only [lit]
          rw [mo_isP hB hM hpn, Option.bind_some, if_neg u1, isIn_no (Or.inr a2)]
          rfl
  · apply bad
    · unfold fKL_person
      simp only [lit]
      rw [qu_hasP0 hB hC hv, Option.bind_some, if_pos rfl]
    · unfold fMo_person fMo_person_J19
      simp only [lit]
      rw [mo_isP0 hB hM hv, Option.bind_some, if_pos rfl]
end
