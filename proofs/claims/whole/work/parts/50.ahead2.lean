section
variable {X X' X1 : Nat → Obj} {n h L e t : Nat} {hp hm : Nat → Nat} {sr : Nat → Bool} {q m m' m0 m1 sc sc0 sc2 : Obj} {S S' : Nat → Nat → Nat} {T B : Nat} {d un un' : Nat → Int32} {many many' : Int32}
theorem look (hB : sQB n h L e t hp hm) (hC : sQC n h L e t hp hm sr (X 5)) (hM : sQM n h L e t hp hm sr (m0.1 2)) (hT : T ≤ 1000) (hRT : RT n h L hp m0 T (8 * T) sc0 m0)
    {f : Int32 × (Nat → Obj) → Option ((Int32 × (Nat → Obj)) ⊕ ((Nat → Obj) ⊕ (Int32 × (Nat → Obj))))} {g : Int32 × Int32 × Obj → Option ((Int32 × Int32 × Obj) ⊕ (Int32 × Obj))} (Q : (Nat → Nat → Nat) → Bool)
    (h1 : ∀ k sc S, k ≤ 300 → sSV n h L hp S → sSC n S sc → f (nI k, va_up X 201 sc) = if Q S then some (.inr (.inr (nI k, va_up X 201 sc))) else (fSc_letTickGo (X 5) sc).bind fun r => some (.inl (nI (k + 1), va_up X 201 r)))
    (h2 : ∀ k mc S, k ≤ 300 → sQM n h L e t hp hm sr (mc.1 2) → sSV n h L hp S → sSM n S (dOf mc) → g (-nI 1, nI k, mc) = (fMo_tick mc).bind fun r => some (.inl (if Q S then nI k else -nI 1, nI (k + 1), r)))
    (h3 : ∀ x, f (nI 301, x) = some (.inr (.inl x))) (h4 : ∀ b x, g (b, nI 301, x) = some (.inr (b, x))) (h5 : ∀ b k x, k ≤ 300 → nI 0 ≤ b → g (b, nI k, x) = some (.inr (b, x))) :
    ∃ r sc' mc, ((iter f FU (nI 0, va_up X 201 sc0)).bind fun z => Sum.elim (fun e6 => some (-nI 1, e6)) (fun r7 => some r7) z) = some (r, va_up X 201 sc') ∧ iter g FU (-nI 1, nI 0, m0) = some (r, mc) ∧ mFr m0 mc := by
  have key := iter2x (f := f) (g := g) (I := fun k a a' => ∃ sc mc, a = (nI k, va_up X 201 sc) ∧ a' = (-nI 1, nI k, mc) ∧ RT n h L hp m0 (T + k) (8 * (T + k)) sc mc) (E := fun z z' => ∃ r sc mc, Sum.elim (fun e8 => some (-nI 1, e8)) (fun r9 => some r9) z = some (r, va_up X 201 sc) ∧ z' = (r, mc) ∧ mFr m0 mc) 301 (by omega) (a := (nI 0, va_up X 201 sc0)) (a' := (-nI 1, nI 0, m0)) ⟨sc0, m0, rfl, rfl, hRT⟩ (fun k a a' hk hz => ?_) (fun a a' hz => ?_)
  · obtain ⟨z, z', g1, g2, r, sc', mc, q1, q2, q3⟩ := key
    refine ⟨r, sc', mc, ?_, ?_, q3⟩
    · rw [g1]; exact q1
    · rw [g2, q2]
  · obtain ⟨sc, mc, rfl, rfl, hz⟩ := hz
    obtain ⟨S1, w1, w2, w3, w4, w5, w6⟩ := id hz
    have l1 := h1 k sc S1 (by omega) w1 w2
    have l2 := h2 k mc S1 (by omega) (sQM_fr hB hM w4) w1 w3
    obtain ⟨sc2, m2, t1, t2, t3⟩ := tick_all hB hC hM (by omega) hz
    obtain ⟨S2, y1, y2, y3, y4, y5, y6⟩ := id t3
    rw [t1] at l1
    rw [t2] at l2
    simp only [Option.bind_some] at l1 l2
    cases hQ : Q S1
    · left
      rw [hQ] at l1 l2
      simp only [Bool.false_eq_true, if_false] at l1 l2
      exact ⟨_, _, l1, l2, sc2, m2, rfl, rfl, t3⟩
    · right
      rw [hQ] at l1 l2
      simp only [if_true] at l1 l2
      refine ⟨_, _, iter_1 l1, iter_2 (e := (nI k, m2)) l2 ?_, nI k, sc, m2, rfl, rfl, y4⟩
      by_cases hk3 : k = 300
      · subst hk3
        exact h4 _ _
      · exact h5 _ (k + 1) _ (by omega) (by rw [nle (by omega) (by omega)]; omega)
  · obtain ⟨sc, mc, rfl, rfl, hz⟩ := hz
    obtain ⟨S1, w1, w2, w3, w4, w5, w6⟩ := id hz
    exact ⟨_, _, iter_1 (h3 _), iter_1 (h4 _ _), -nI 1, sc, mc, rfl, rfl, w4⟩
theorem k_known (hR : R X m) : ∃ r X' m', fKL_known X = some (r, X') ∧ fMo_known m = some (r, m') ∧ R X' m' := by
  obtain ⟨n, h, L, e, t, hp, hm, sr, S, sc0, m0, hB, hC, hM, hV, hS, hD, hT0, hM0, c1, c2, hRT, hback, -⟩ := ahead hR
  have b2 := hB.2.1
  have un : ¬ nI 0 ≤ -nI 1 := by decide +kernel
  have hq : ∀ S' : Nat → Nat → Nat, msk h (fun k => strgs n hm S' k != 0) < 256 := fun S' => msk_256 _ (by omega)
  have key := look hB hC hM0 hT0 hRT (f := fKL_known_L16) (g := fMo_known_L13) (fun S' => msk h (fun k => strgs n hm S' k != 0) == 0) (fun k sc S1 hk w1 w2 => ?_) (fun k mc S1 hk w0 w1 w2 => ?_) (fun x => ?_) (fun b x => ?_) (fun b k x hk hb => ?_)
  · obtain ⟨r, sc', mc, q1, q2, q3⟩ := key
    obtain ⟨m', d1, d2, -⟩ := hback sc' mc (mg_fr q3)
    refine ⟨r, _, m', ?_, ?_, d2⟩
    · unfold fKL_known
      simp only [lit, c1, Option.bind_some, bnd]
      exact q1
    · unfold fMo_known
      simp only [lit, c2, Option.bind_some, bnd, q2, d1]
  · have hq1 := hq S1
    unfold fKL_known_L16
    simp only [lit]
    rw [if_neg (by rw [nlt (by omega) (by omega)]; omega), va_up_ne (j := 5) (k := 201) _ _ (by omega), va_up_at, if_pos rfl, sc_open hB hC w1 w2]
    simp only [Option.bind_some, bnd, xu_up, nadd, beq_iff_eq]
    by_cases h0 : msk h (fun k => strgs n hm S1 k != 0) = 0
    · rw [if_pos h0, if_pos (by rw [h0])]
    · rw [if_neg h0, if_neg (by rw [neq (by omega) (by omega)]; exact h0)]
  · have hq1 := hq S1
    unfold fMo_known_L13 fMo_known_J33
    simp only [lit]
    rw [if_neg (by rw [nlt (by omega) (by omega)]; omega), if_neg un, mo_open hB w0 w1 w2]
    simp only [Option.bind_some, nadd, beq_iff_eq]
    by_cases h0 : msk h (fun k => strgs n hm S1 k != 0) = 0
    · rw [if_pos (by rw [h0])]
      simp only [h0, if_true]
    · rw [if_neg (by rw [neq (by omega) (by omega)]; exact h0)]
      simp only [h0, if_false]
  · unfold fKL_known_L16
    simp only [lit]
    rw [if_pos (by rw [nlt (by omega) (by omega)]; omega)]
  · unfold fMo_known_L13
    simp only [lit]
    rw [if_pos (by rw [nlt (by omega) (by omega)]; omega)]
  · unfold fMo_known_L13
    simp only [lit]
    rw [if_pos hb]
    split <;> rfl
theorem sc_tog (hB : sQB n h L e t hp hm) (hC : sQC n h L e t hp hm sr q) (hV : sSV n h L hp S) (hS : sSC n S sc) {p r : Nat} (hpn : p < n) (hrn : r < n) : fSc_areTogether q sc (nI p) (nI r) = some (nI (if S 3 p = 0 ∧ S 3 r = 0 ∧ S 4 p = S 4 r then 1 else 0)) := by
  have b1 := hB.1
  have b4 := hB.2.2.2.1
  have k1 := (sc_how hB hC hV hS hpn).1
  have k2 := (sc_how hB hC hV hS hrn).1
  have r4 := (hS.2.2 p hpn).2.1
  have r4' := (hS.2.2 r hrn).2.1
  have v4 := (hV.2.2.1 p hpn).1.2.1
  have v4' := (hV.2.2.1 r hrn).1.2.1
  have u1 : ¬ nI 1 = nI 0 := by decide +kernel
  unfold fSc_areTogether
  simp (disch := omega) only [lit, k1, k2, Option.bind_some, ix_nI, r4, r4', neq]
  by_cases h1 : S 3 p = 0
  · by_cases h2 : S 3 r = 0
    · by_cases h3 : S 4 p = S 4 r
      · simp only [h1, h2, h3, if_true, u1, if_false, and_self]
      · simp only [h1, h2, h3, if_true, u1, if_false, and_false]
    · simp only [h1, h2, if_true, u1, if_false, false_and, and_false]
  · simp only [h1, if_true, if_false, false_and]
theorem k_meet (hR : R X m) (v w : Int32) : ∃ r X' m', fKL_meet X v w = some (r, X') ∧ fMo_meet m v w = some (r, m') ∧ R X' m' := by
  have hR1 := R_thr (v := nI 0) hR
  obtain ⟨n, h, L, e, t, hp, hm, sr, S, sc0, m0, hB, hC, hM, hV, hS, hD, hT0, hM0, c1, c2, hRT, hback, -⟩ := ahead hR
  have b1 := hB.1
  have b4 := hB.2.2.2.1
  have un : ¬ nI 0 ≤ -nI 1 := by decide +kernel
  have u1 : ¬ nI 1 = nI 0 := by decide +kernel
  rcases isP_or v n with ⟨p, hpn, rfl⟩ | hv
  · rcases isP_or w n with ⟨r, hrn, rfl⟩ | hw
    · by_cases hpr : p = r
      · subst hpr
        unfold fKL_meet fMo_meet
        simp only [lit, bnd, mo_isP hB hM hpn, Option.bind_some, u1, if_false, if_true]
        exact ⟨_, X, _, rfl, rfl, hR1⟩
      · have hne : ¬ nI p = nI r := by rw [neq (by omega) (by omega)]; exact hpr
        have key := look hB hC hM0 hT0 hRT (f := fKL_meet_L51 (nI p) (nI r)) (g := fMo_meet_L37 (nI p) (nI r)) (fun S' => decide (S' 3 p = 0 ∧ S' 3 r = 0 ∧ S' 4 p = S' 4 r)) (fun k sc S1 hk w1 w2 => ?_) (fun k mc S1 hk w0 w1 w2 => ?_) (fun x => ?_) (fun b x => ?_) (fun b k x hk hb => ?_)
        · obtain ⟨x, sc', mc, q1, q2, q3⟩ := key
          obtain ⟨m', d1, d2, -⟩ := hback sc' mc (mg_fr q3)
          refine ⟨x, _, m', ?_, ?_, d2⟩
          · unfold fKL_meet
            simp only [lit, hne, qu_hasP hB hC hpn, qu_hasP hB hC hrn, u1, if_false, c1, Option.bind_some, bnd]
            exact q1
          · unfold fMo_meet
            simp only [lit, hne, mo_isP hB hM hpn, mo_isP hB hM hrn, u1, if_false, c2, Option.bind_some, bnd, q2, d1]
        · unfold fKL_meet_L51
          simp only [lit]
          rw [if_neg (by rw [nlt (by omega) (by omega)]; omega), va_up_ne (j := 5) (k := 201) _ _ (by omega), va_up_at, if_pos rfl, sc_tog hB hC w1 w2 hpn hrn]
          simp only [Option.bind_some, bnd, xu_up, nadd, decide_eq_true_eq]
          by_cases h0 : S1 3 p = 0 ∧ S1 3 r = 0 ∧ S1 4 p = S1 4 r
          · rw [if_pos h0, if_pos h0, if_neg u1]
          · rw [if_neg h0, if_neg h0, if_pos rfl]
        · have d3 := ((sSM_live w2).2.2 p hpn)
          have d3' := ((sSM_live w2).2.2 r hrn)
          have v4 := (w1.2.2.1 p hpn).1
          have v4' := (w1.2.2.1 r hrn).1
          unfold fMo_meet_L37 fMo_meet_J97
          simp (disch := omega) only [lit, nadd, ix_nI, Option.bind_some, d3.1, d3.2.1, d3'.1, d3'.2.1]
          rw [if_neg (by rw [nlt (by omega) (by omega)]; omega), if_neg un]
          simp (disch := omega) only [neq, decide_eq_true_eq]
          by_cases h1 : S1 3 p = 0
          · by_cases h2 : S1 3 r = 0
            · by_cases h3 : S1 4 p = S1 4 r
              · simp only [h1, h2, h3, if_true, and_self]
              · simp only [h1, h2, h3, if_true, if_false, and_false]
            · simp only [h1, h2, if_true, if_false, false_and, and_false]
          · simp only [h1, if_false, false_and]
        · unfold fKL_meet_L51
          simp only [lit]
          rw [if_pos (by rw [nlt (by omega) (by omega)]; omega)]
        · unfold fMo_meet_L37
          simp only [lit]
          rw [if_pos (by rw [nlt (by omega) (by omega)]; omega)]
        · unfold fMo_meet_L37
          simp only [lit]
          rw [if_pos hb]
          split <;> rfl
    · have hne : ¬ nI p = w := fun z => hw p hpn z.symm
      unfold fKL_meet fMo_meet
      simp only [lit, bnd, hne, qu_hasP hB hC hpn, qu_hasP0 hB hC hw, mo_isP hB hM hpn, mo_isP0 hB hM hw, Option.bind_some, u1, if_false, if_true]
      exact ⟨_, X, _, rfl, rfl, hR1⟩
  · unfold fKL_meet fMo_meet
    simp only [lit, bnd, qu_hasP0 hB hC hv, mo_isP0 hB hM hv, Option.bind_some, if_true, ite_self]
    exact ⟨_, X, _, rfl, rfl, hR1⟩
end
