theorem bn_inj {x y : Bool} : nI (bn x) = nI (bn y) ↔ x = y := by
  cases x <;> cases y <;> simp <;> decide +kernel
section
variable {z lim : Nat} {b : Nat → Nat} {ta m ta' m' x y : Obj} {s i : Nat}
theorem rn_j (h : rdB z lim b ta y) (hi : s + i < z) (h4 : y.1 0 4 = nI (s + i)) (h13 : y.1 0 13 = nI i) (k : Int32) : fMo_next_J221 y k = some (.inl (k, sI (sI (if i < 3 then sI (if i < 8 then sL y 0 17 (lshl (y.2 0 17) (nI 8) ||| lN (b (s + i))) else y) 0 14 (nI 10 * y.1 0 14 + nI (b (s + i)) - nI 48) else (if i < 8 then sL y 0 17 (lshl (y.2 0 17) (nI 8) ||| lN (b (s + i))) else y)) 0 13 (nI (i + 1))) 0 4 (nI (s + i + 1)))) := by
  have hz := h.1
  have b3 := (h.2.2.2.2.2.2.1 (s + i) hi).2.2
  have hpk := mo_peek h h4 (by omega)
  rw [if_pos hi] at hpk
  have hl : i2l (nI (b (s + i))) = lN (b (s + i)) := nI_l (by omega)
  have h275 : ∀ y : Obj, y.1 0 4 = nI (s + i) → y.1 0 13 = nI i → fMo_next_J275 y k = some (.inl (k, sI (sI y 0 13 (nI (i + 1))) 0 4 (nI (s + i + 1)))) := fun y g4 g13 => by
    have e4 : ∀ v, (sI y 0 13 v).1 0 4 = nI (s + i) := fun v => g4
    unfold fMo_next_J275
    simp only [lit, bnd]
    rw [g13, e4, nadd, nadd]
  have h248 : ∀ y : Obj, y.1 0 4 = nI (s + i) → y.1 0 13 = nI i → fMo_peek y = some (nI (b (s + i))) → fMo_next_J248 y k = some (.inl (k, sI (sI (if i < 3 then sI y 0 14 (nI 10 * y.1 0 14 + nI (b (s + i)) - nI 48) else y) 0 13 (nI (i + 1))) 0 4 (nI (s + i + 1)))) := fun y g4 g13 gp => by
    unfold fMo_next_J248
    simp only [lit, bnd]
    rw [g13, gp, Option.bind_some]
    by_cases h3 : i < 3
    · rw [if_neg (by rw [nle (by omega) (by omega)]; omega), if_pos h3]
      exact h275 _ g4 g13
    · rw [if_pos (by rw [nle (by omega) (by omega)]; omega), if_neg h3]
      exact h275 _ g4 g13
  unfold fMo_next_J221
  simp only [lit, bnd]
  rw [h13, hpk, Option.bind_some, hl]
  by_cases h8 : i < 8
  · rw [if_neg (by rw [nle (by omega) (by omega)]; omega), if_pos h8]
    have hp2 : fMo_peek (sL y 0 17 (lshl (y.2 0 17) (nI 8) ||| lN (b (s + i)))) = some (nI (b (s + i))) := hpk
    exact h248 _ h4 h13 hp2
  · rw [if_pos (by rw [nle (by omega) (by omega)]; omega), if_neg h8]
    exact h248 _ h4 h13 hpk
theorem rn_m (h : rdB z lim b ta m) {a : Int32 × Obj} (hi : s + i < z) (ha : rnM b s i m a) (hc : isL (b (s + i)) = true ∨ isD (b (s + i)) = true) : ∃ a', fMo_next_L181 (nI (bn (isL (b s)))) a = some (.inl a') ∧ rnM b s (i + 1) m a' := by
  obtain ⟨a1, y⟩ := a
  obtain ⟨h1, h2, h4, h13, hw, hn, h12⟩ := ha
  simp only at h1 h2 h4 h13 hw hn h12
  subst h1
  have hr := rdB_f h (taF_refl ta) h2
  have hz := h.1
  have b3 := (hr.2.2.2.2.2.2.1 (s + i) hi).2.2
  have hpk := mo_peek hr h4 (by omega)
  rw [if_pos hi] at hpk
  have e1 : LLr b s (i + 1) = if isL (b (s + i)) then LLr b s i ++ [b (s + i) - 96] else LLr b s i := rfl
  have e2 : DLr b s (i + 1) = if isD (b (s + i)) then DLr b s i ++ [b (s + i) - 48] else DLr b s i := rfl
  have e3 : allS b s (i + 1) = (allS b s i && (isL (b (s + i)) == isL (b s))) := rfl
  have l201 : fMo_next_J201 y (nI (bn (isL (b s)))) (nI (bn (allS b s i))) = fMo_next_J221 y (nI (bn (allS b s (i + 1)))) := by
    unfold fMo_next_J201 fMo_next_J220
    simp only [lit]
    rw [hpk, Option.bind_some, tb_sm _ b3, Option.bind_some, e3]
    cases hA : allS b s i
    · rw [if_pos (show nI (bn false) = nI 0 from rfl), Bool.false_and]; rfl
    · rw [if_neg (show ¬ nI (bn true) = nI 0 by decide +kernel), Bool.true_and]
      by_cases hq : isL (b (s + i)) = isL (b s)
      · rw [if_pos (bn_inj.mpr hq), hq, beq_self_eq_true]; rfl
      · rw [if_neg (fun w => hq (bn_inj.mp w)), beq_eq_false_iff_ne.mpr hq]; rfl
  have l0 : fMo_next_L181 (nI (bn (isL (b s)))) (nI (bn (allS b s i)), y) = fMo_next_J221 y (nI (bn (allS b s (i + 1)))) := by
    rw [← l201]
    unfold fMo_next_L181
    simp only [lit]
    rw [hpk, Option.bind_some, tb_sm _ b3, Option.bind_some, Option.bind_some, tb_dg _ b3, Option.bind_some]
    cases hL : isL (b (s + i))
    · have hD : isD (b (s + i)) = true := hc.resolve_left (by rw [hL]; decide)
      rw [if_pos (show nI (bn false) = nI 0 from rfl), hD, if_neg (show ¬ nI (bn true) = nI 0 by decide +kernel)]
    · rw [if_neg (show ¬ nI (bn true) = nI 0 by decide +kernel)]
  rw [l0, rn_j hr hi h4 h13]
  refine ⟨_, rfl, rfl, ?_, ?_, ?_, fun hs hall h8 => ?_, fun hs hall h8 => ?_, ?_⟩
  · refine moF_trans h2 (moF_trans ?_ (moF_trans (moF_sI (by omega)) (moF_sI (by omega))))
    by_cases h3 : i < 3
    · rw [if_pos h3]
      refine moF_trans ?_ (moF_sI (by omega))
      by_cases h8 : i < 8
      · rw [if_pos h8]; exact moF_sL
      · rw [if_neg h8]; exact moF_refl _
    · rw [if_neg h3]
      by_cases h8 : i < 8
      · rw [if_pos h8]; exact moF_sL
      · rw [if_neg h8]; exact moF_refl _
  · show (sI _ 0 4 (nI (s + i + 1))).1 0 4 = _
    rw [sI_1, if_pos ⟨rfl, rfl⟩]; rfl
  · show (sI (sI _ 0 13 (nI (i + 1))) 0 4 (nI (s + i + 1))).1 0 13 = _
    rw [sI_1, if_neg (by omega), sI_1, if_pos ⟨rfl, rfl⟩]
  · have hall' := hall
    rw [e3, Bool.and_eq_true, beq_iff_eq, hs] at hall'
    have hL := isL_t hall'.2
    have hw' := hw hs hall'.1 (by omega)
    have hi8 : i < 8 := by omega
    have key : ∀ v : Int32, (if i < 3 then sI (if i < 8 then sL y 0 17 (lshl (y.2 0 17) (nI 8) ||| lN (b (s + i))) else y) 0 14 v else (if i < 8 then sL y 0 17 (lshl (y.2 0 17) (nI 8) ||| lN (b (s + i))) else y)).2 0 17 = lshl (y.2 0 17) (nI 8) ||| lN (b (s + i)) := fun v => by
      rw [if_pos hi8]
      split
      · show (sL y 0 17 (lshl (y.2 0 17) (nI 8) ||| lN (b (s + i)))).2 0 17 = _
        rw [sL_2, if_pos ⟨rfl, rfl⟩]
      · rw [sL_2, if_pos ⟨rfl, rfl⟩]
    refine (key _).trans ?_
    rw [hw', e1, hall'.2, if_pos rfl, e8_app, show lshl (lN (e8 0 (LLr b s i))) (nI 8) = lN (e8 0 (LLr b s i) * 256) from lshl8 _, lor_n, or8 (by omega), show b (s + i) - 96 + 96 = b (s + i) by omega]
  · have hall' := hall
    rw [e3, Bool.and_eq_true, beq_iff_eq, hs] at hall'
    have hD := hc.resolve_left (by rw [hall'.2]; decide)
    have hD' := isD_t hD
    have hn' := hn hs hall'.1 (by omega)
    have hi3 : i < 3 := by omega
    have key : ∀ v : Int32, (if i < 3 then sI (if i < 8 then sL y 0 17 (lshl (y.2 0 17) (nI 8) ||| lN (b (s + i))) else y) 0 14 v else (if i < 8 then sL y 0 17 (lshl (y.2 0 17) (nI 8) ||| lN (b (s + i))) else y)).1 0 14 = v := fun v => by
      rw [if_pos hi3, sI_1, if_pos ⟨rfl, rfl⟩]
    show (sI (sI _ 0 13 (nI (i + 1))) 0 4 (nI (s + i + 1))).1 0 14 = _
    rw [sI_1, if_neg (by omega), sI_1, if_neg (by omega), key, hn', e2, hD, if_pos rfl, dvf_app, nmul, nadd, nsub (by omega), show 10 * dvf 0 (DLr b s i) + b (s + i) - 48 = 10 * dvf 0 (DLr b s i) + (b (s + i) - 48) by omega]
  · refine Eq.trans ?_ h12
    show (sI (sI _ 0 13 (nI (i + 1))) 0 4 (nI (s + i + 1))).1 0 12 = y.1 0 12
    rw [sI_1, if_neg (by omega), sI_1, if_neg (by omega)]
    split
    · rw [sI_1, if_neg (by omega)]
      split <;> rfl
    · split <;> rfl
/-- both runs to their end -/
theorem run_both (h : rdB z lim b ta m) (hs : s < z) (h9 : ta.1 0 9 = nI s) (h6 : ta.2 0 6 = lN 0) (h5 : ta.1 0 5 = nI 0) (m4 : m.1 0 4 = nI s) (m13 : m.1 0 13 = nI 0) (m17 : m.2 0 17 = lN 0) (m14 : m.1 0 14 = nI 0) : ∃ r ea em, iter fTa_takeRun_L14 FU (nI 0, nI 0, ta) = some ea ∧ iter (fMo_next_L181 (nI (bn (isL (b s))))) FU (nI 1, m) = some em ∧ s + r ≤ z ∧ (∀ j, j < r → isL (b (s + j)) = true ∨ isD (b (s + j)) = true) ∧ (s + r < z → isL (b (s + r)) = false ∧ isD (b (s + r)) = false) ∧ rnC b s r ta ea ∧ rnM b s r m em := by
  have hz := h.1
  have key := iter2 (f := fTa_takeRun_L14) (g := fMo_next_L181 (nI (bn (isL (b s))))) (I := fun i a a' => s + i ≤ z ∧ (∀ j, j < i → isL (b (s + j)) = true ∨ isD (b (s + j)) = true) ∧ rnC b s i ta a ∧ rnM b s i m a') (E := fun ea em => ∃ r, s + r ≤ z ∧ (∀ j, j < r → isL (b (s + j)) = true ∨ isD (b (s + j)) = true) ∧ (s + r < z → isL (b (s + r)) = false ∧ isD (b (s + r)) = false) ∧ rnC b s r ta ea ∧ rnM b s r m em) (z - s) (by omega) (a := (nI 0, nI 0, ta)) (a' := (nI 1, m)) ⟨by omega, fun j hj => absurd hj (by omega), ⟨rfl, rfl, taF_refl _, h9, h6, h5, rfl⟩, ⟨rfl, moF_refl _, m4, m13, fun _ _ _ => m17, fun _ _ _ => m14, rfl⟩⟩ (fun i a a' hi hz' => ?_) (fun a a' hz' => ?_)
  · obtain ⟨ea, em, g1, g2, r, g3⟩ := key
    exact ⟨r, ea, em, g1, g2, g3⟩
  · obtain ⟨f1, f2, f3, f4⟩ := hz'
    by_cases hc : isL (b (s + i)) = true ∨ isD (b (s + i)) = true
    · left
      obtain ⟨a1, g1, g2⟩ := rn_c h (by omega) f3 hc
      obtain ⟨a1', g3, g4⟩ := rn_m h (by omega) f4 hc
      refine ⟨a1, a1', g1, g3, by omega, fun j hj => ?_, g2, g4⟩
      by_cases hji : j = i
      · subst hji; exact hc
      · exact f2 j (by omega)
    · right
      have hL : isL (b (s + i)) = false := by
        cases hq : isL (b (s + i))
        · rfl
        · exact absurd (Or.inl hq) hc
      have hD : isD (b (s + i)) = false := by
        cases hq : isD (b (s + i))
        · rfl
        · exact absurd (Or.inr hq) hc
      refine ⟨a, a', ?_, ?_, i, f1, f2, fun _ => ⟨hL, hD⟩, f3, f4⟩
      · obtain ⟨a1, a2, x⟩ := a
        obtain ⟨j1, j2, j3, j4, j5, j6, -⟩ := f3
        simp only at j1 j2 j3 j4 j5 j6
        obtain ⟨c1, c2, c3, c4, c5, c6, c7, c8⟩ := rdB_f h j3 (moF_refl m)
        obtain ⟨k1, k2, k3⟩ := c7 (s + i) (by omega)
        obtain ⟨t1, t2⟩ := tb_b (b (s + i)) k3
        have lJ : fTa_takeRun_J79 x a1 a2 (i2b (nI (b (s + i)))) = some (.inr (a1, a2, x)) := by
          unfold fTa_takeRun_J79
          simp only [lit]
          rcases t2.mpr hD with w | w
          · rw [if_pos w]
          · rw [if_pos w]; split <;> rfl
        unfold fTa_takeRun_L14
        simp only [lit]
        rw [c3, j4, if_neg (by rw [nle (by omega) (by omega)]; omega), if_neg (by rw [nle (by omega) (by omega)]; omega), ix_nI (by omega) (by omega), Option.bind_some]
        simp only [bnd]
        rw [k1, lJ]
        rcases t1.mpr hL with w | w
        · rw [if_pos w]
        · rw [if_pos w]; split <;> rfl
      · obtain ⟨a1, y⟩ := a'
        obtain ⟨j1, j2, j4, j13, jw, jn, -⟩ := f4
        simp only at j1 j2 j4 j13 jw jn
        have hr := rdB_f h (taF_refl ta) j2
        have b3 := (hr.2.2.2.2.2.2.1 (s + i) (by omega)).2.2
        have hpk := mo_peek hr j4 (by omega)
        rw [if_pos (show s + i < z by omega)] at hpk
        unfold fMo_next_L181
        simp only [lit]
        rw [hpk, Option.bind_some, tb_sm _ b3, Option.bind_some, Option.bind_some, tb_dg _ b3, Option.bind_some, hL, hD, if_pos (show nI (bn false) = nI 0 from rfl), if_pos (show nI (bn false) = nI 0 from rfl)]
  · obtain ⟨f1, f2, f3, f4⟩ := hz'
    have hsz : s + (z - s) = z := by omega
    refine ⟨a, a', ?_, ?_, z - s, f1, f2, fun hh => absurd hh (by omega), f3, f4⟩
    · obtain ⟨a1, a2, x⟩ := a
      obtain ⟨j1, j2, j3, j4, j5, j6, -⟩ := f3
      simp only at j1 j2 j3 j4 j5 j6
      have c3 := (rdB_f h j3 (moF_refl m)).2.2.1
      unfold fTa_takeRun_L14
      simp only
      rw [c3, j4, hsz, if_pos (by rw [nle (by omega) (by omega)]; omega)]
    · obtain ⟨a1, y⟩ := a'
      obtain ⟨j1, j2, j4, j13, jw, jn, -⟩ := f4
      simp only at j1 j2 j4 j13 jw jn
      have hr := rdB_f h (taF_refl ta) j2
      rw [hsz] at j4
      have hpk := mo_peek hr j4 (by omega)
      rw [if_neg (show ¬ z < z by omega)] at hpk
      unfold fMo_next_L181
      simp only [lit]
      rw [hpk, Option.bind_some, tb_m1.1, Option.bind_some, if_pos rfl, Option.bind_some, tb_m1.2.1, Option.bind_some, if_pos rfl]
end
