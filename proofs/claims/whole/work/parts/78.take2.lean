section
variable {z lim : Nat} {b : Nat → Nat} {ta m ta' m' x y : Obj} {s i : Nat} {l : List Nat}
/-- a byte that is no sign, no letter and no digit -/
theorem tk_odd (h : rdB z lim b x y) (hs : s < z) (hL : isL (b s) = false) (hD : isD (b s) = false) (x9 : x.1 0 9 = nI s) (x10 : x.1 0 10 = nI s) : ∃ x', ((fTa_takeRun x).bind fun r9 => (fTa_nameWord r9).bind fun r10 => some r10) = some x' ∧ taF x x' ∧ x'.1 0 4 = nI 5 ∧ x'.1 0 10 = nI s := by
  have hz := h.1
  obtain ⟨c1, c2, c3, c4, c5, c6, c7, c8⟩ := rdB_f h (taF_trans (taF_sL (x := x) (i := 6) (v := lN 0)) (taF_sI (i := 5) (v := nI 0) (by omega))) (moF_refl y)
  obtain ⟨k1, k2, k3⟩ := c7 s hs
  obtain ⟨t1, t2⟩ := tb_b (b s) k3
  have e9 : (sI (sL x 0 6 (lN 0)) 0 5 (nI 0)).1 0 9 = nI s := x9
  generalize hx0 : sI (sL x 0 6 (lN 0)) 0 5 (nI 0) = x0 at c1 c2 c3 c4 c5 c6 c7 c8 k1 e9
  have f0 : taF x x0 := by rw [← hx0]; exact taF_trans taF_sL (taF_sI (by omega))
  have e10 : x0.1 0 10 = nI s := by rw [← hx0]; exact x10
  have lJ : fTa_takeRun_J79 x0 (nI 0) (nI 0) (i2b (nI (b s))) = some (.inr (nI 0, nI 0, x0)) := by
    unfold fTa_takeRun_J79
    simp only [lit]
    rcases t2.mpr hD with w | w
    · rw [if_pos w]
    · rw [if_pos w]; split <;> rfl
  have hit : iter fTa_takeRun_L14 FU (nI 0, nI 0, x0) = some (nI 0, nI 0, x0) := by
    refine iter_FU (n := 1) ?_ (by omega)
    rw [iter_s]
    have : fTa_takeRun_L14 (nI 0, nI 0, x0) = some (.inr (nI 0, nI 0, x0)) := by
      unfold fTa_takeRun_L14
      simp only [lit]
      rw [c3, e9, if_neg (by rw [nle (by omega) (by omega)]; omega), if_neg (by rw [nle (by omega) (by omega)]; omega), ix_nI (by omega) (by omega), Option.bind_some]
      simp only [bnd]
      rw [k1, lJ]
      rcases t1.mpr hL with w | w
      · rw [if_pos w]
      · rw [if_pos w]; split <;> rfl
    rw [this]; rfl
  have e0 : fTa_takeRun x = (iter fTa_takeRun_L14 FU (nI 0, nI 0, x0)).bind fun e9 => if e9.2.1 = nI 0 then (if e9.1 < nI 1 then fTa_takeRun_J146 e9.2.2 e9.1 e9.2.1 else if nI 8 < e9.1 then fTa_takeRun_J146 e9.2.2 e9.1 e9.2.1 else some (sI e9.2.2 0 4 (nI 2))) else fTa_takeRun_J146 e9.2.2 e9.1 e9.2.1 := by rw [← hx0]; rfl
  have lC : fTa_takeRun x = some (sI x0 0 4 (nI 5)) := by
    rw [e0, hit, Option.bind_some, if_pos rfl, if_pos (show nI 0 < nI 1 by decide +kernel)]
    unfold fTa_takeRun_J146
    simp only [lit, bnd]
    rw [if_pos trivial, if_pos (show nI 0 < nI 1 by decide +kernel)]
  have hn : fTa_nameWord (sI x0 0 4 (nI 5)) = some (sI x0 0 4 (nI 5)) := by
    unfold fTa_nameWord
    have : iter fTa_nameWord_L2 1 (nI 0, sI x0 0 4 (nI 5)) = some (sI x0 0 4 (nI 5)) := by
      rw [iter_s]
      unfold fTa_nameWord_L2
      simp only [lit]
      rw [if_neg (by decide +kernel), if_neg (show ¬ (sI x0 0 4 (nI 5)).1 0 4 = nI 2 by rw [sI_1, if_pos ⟨rfl, rfl⟩]; decide +kernel)]
      rfl
    simp only [lit]
    rw [iter_FU this (by omega)]; rfl
  refine ⟨sI x0 0 4 (nI 5), ?_, taF_trans f0 (taF_sI (by omega)), by rw [sI_1, if_pos ⟨rfl, rfl⟩], e10⟩
  rw [lC, Option.bind_some, hn]; rfl
/-- ONE TOKEN MORE, of both -/
theorem take_both (h : rdB z lim b ta m) {p : Nat} (hp : p ≤ z) (h9 : ta.1 0 9 = nI p) (h4 : m.1 0 4 = nI p) : ∃ k v l pl p' ta' m', fTa_take ta = some ta' ∧ fMo_next m = some m' ∧ taF ta ta' ∧ moF m m' ∧ tkR k v l pl ta' m' ∧ p' ≤ z ∧ (k ≠ 5 → ta'.1 0 9 = nI p' ∧ m'.1 0 4 = nI p') ∧ (k ≠ 0 → k ≠ 5 → p < p') := by
  have hz := h.1
  have hlim := h.2.1
  obtain ⟨s, t1, m1, g1, g2, f1, f2, s1, s2, s3, t9, m4⟩ := skip_both h hp h9 h4
  have hr := rdB_f h f1 f2
  have hbyte : ∃ v5 : Int32, fTa_byteOf t1 (nI s) = some v5 ∧ (s < z → v5 = nI (b s)) := by
    by_cases hsz : s < z
    · exact ⟨_, ta_byte hr hsz, fun _ => rfl⟩
    · exact ⟨_, ta_byteE hr (by omega) (by omega), fun w => absurd w hsz⟩
  obtain ⟨v5, hb1, hb2⟩ := hbyte
  have lC : fTa_take ta = (if nI z ≤ nI lim then fTa_take_J96 (sI (sI t1 0 10 (nI s)) 0 5 v5) else if nI s < nI lim then fTa_take_J96 (sI (sI t1 0 10 (nI s)) 0 5 v5) else some (sI (sI (sI (sI t1 0 10 (nI s)) 0 5 v5) 0 10 (nI lim)) 0 4 (nI 5))) := by
    have e1 : ∀ w, (sI t1 0 10 w).1 0 9 = nI s := fun w => t9
    have e2 : ∀ w w', (sI (sI t1 0 10 w) 0 5 w').1 0 9 = nI s := fun w w' => t9
    have e3 : ∀ w w', (sI (sI t1 0 10 w) 0 5 w').1 0 1 = nI z := fun w w' => hr.2.2.1
    have e4 : ∀ w w', (sI (sI t1 0 10 w) 0 5 w').1 0 8 = nI lim := fun w w' => hr.2.2.2.2.1
    have e5 : ∀ w, fTa_byteOf (sI t1 0 10 w) (nI s) = fTa_byteOf t1 (nI s) := fun w => rfl
    unfold fTa_take
    rw [g1, Option.bind_some]
    simp only [bnd, lit]
    rw [t9, e1, e5, hb1, Option.bind_some, e2, e3, e4]
  have lM : fMo_next m = (if nI z ≤ nI lim then fMo_next_J80 (sI (sI m1 0 12 (nI s)) 0 13 (nI 0)) else if nI s < nI lim then fMo_next_J80 (sI (sI m1 0 12 (nI s)) 0 13 (nI 0)) else some (sI (sI (sI (sI m1 0 12 (nI s)) 0 13 (nI 0)) 0 12 (nI lim)) 0 11 (nI 4))) := by
    have e2 : ∀ w w', (sI (sI m1 0 12 w) 0 13 w').1 0 4 = nI s := fun w w' => m4
    have e3 : ∀ w w', (sI (sI m1 0 12 w) 0 13 w').1 0 3 = nI z := fun w w' => hr.2.2.2.1
    have e4 : ∀ w w', (sI (sI m1 0 12 w) 0 13 w').1 0 5 = nI lim := fun w w' => hr.2.2.2.2.2.1
    unfold fMo_next
    rw [g2, Option.bind_some]
    simp only [bnd, lit]
    rw [m4, e2, e3, e4]
  have fx : taF ta (sI (sI t1 0 10 (nI s)) 0 5 v5) := taF_trans f1 (taF_trans (taF_sI (by omega)) (taF_sI (by omega)))
  have fy : moF m (sI (sI m1 0 12 (nI s)) 0 13 (nI 0)) := moF_trans f2 (moF_trans (moF_sI (by omega)) (moF_sI (by omega)))
  by_cases hA : lim < z ∧ lim ≤ s
  · rw [if_neg (by rw [nle (by omega) (by omega)]; omega), if_neg (by rw [nlt (by omega) (by omega)]; omega)] at lC lM
    refine ⟨5, 0, [], lim, s, _, _, lC, lM, taF_trans fx (taF_trans (taF_sI (by omega)) (taF_sI (by omega))), moF_trans fy (moF_trans (moF_sI (by omega)) (moF_sI (by omega))), ⟨rfl, rfl, rfl, by omega, Or.inr (Or.inr (Or.inr (Or.inr (Or.inr ⟨rfl, rfl⟩))))⟩, s2, fun w => absurd rfl w, fun _ w => absurd rfl w⟩
  · have lC' : fTa_take ta = fTa_take_J96 (sI (sI t1 0 10 (nI s)) 0 5 v5) := by
      rw [lC]
      by_cases h1 : z ≤ lim
      · rw [if_pos (by rw [nle (by omega) (by omega)]; exact h1)]
      · rw [if_neg (by rw [nle (by omega) (by omega)]; exact h1), if_pos (by rw [nlt (by omega) (by omega)]; omega)]
    have lM' : fMo_next m = fMo_next_J80 (sI (sI m1 0 12 (nI s)) 0 13 (nI 0)) := by
      rw [lM]
      by_cases h1 : z ≤ lim
      · rw [if_pos (by rw [nle (by omega) (by omega)]; exact h1)]
      · rw [if_neg (by rw [nle (by omega) (by omega)]; exact h1), if_pos (by rw [nlt (by omega) (by omega)]; omega)]
    have hrx := rdB_f h fx fy
    have x9 : (sI (sI t1 0 10 (nI s)) 0 5 v5).1 0 9 = nI s := t9
    have x10 : (sI (sI t1 0 10 (nI s)) 0 5 v5).1 0 10 = nI s := rfl
    have x5 : (sI (sI t1 0 10 (nI s)) 0 5 v5).1 0 5 = v5 := rfl
    have x1 : (sI (sI t1 0 10 (nI s)) 0 5 v5).1 0 1 = nI z := hr.2.2.1
    have y4 : (sI (sI m1 0 12 (nI s)) 0 13 (nI 0)).1 0 4 = nI s := m4
    have y12 : (sI (sI m1 0 12 (nI s)) 0 13 (nI 0)).1 0 12 = nI s := rfl
    have y13 : (sI (sI m1 0 12 (nI s)) 0 13 (nI 0)).1 0 13 = nI 0 := rfl
    rw [lC', lM']
    revert fx fy hrx x9 x10 x5 x1 y4 y12 y13
    generalize sI (sI t1 0 10 (nI s)) 0 5 v5 = x
    generalize sI (sI m1 0 12 (nI s)) 0 13 (nI 0) = y
    intro fx fy hrx x9 x10 x5 x1 y4 y12 y13
    have hpk := mo_peek hrx y4 (by omega)
    by_cases hsz : s < z
    · rw [if_pos hsz] at hpk
      have b3 := (hrx.2.2.2.2.2.2.1 s hsz).2.2
      have hv5 := hb2 hsz
      have lX : fTa_take_J96 x = if isSg (b s) then some (sI (sI x 0 4 (nI 4)) 0 9 (nI (s + 1))) else (fTa_takeRun x).bind fun r9 => (fTa_nameWord r9).bind fun r10 => some r10 := by
        have e9 : ∀ w, (sI x 0 4 w).1 0 9 = nI s := fun w => x9
        unfold fTa_take_J96
        simp only [lit, bnd]
        rw [x9, x1, if_pos (by rw [nlt (by omega) (by omega)]; omega), x5, hv5, tb_sg _ b3, Option.bind_some, e9, nadd]
        cases isSg (b s)
        · rw [if_pos (show nI (bn false) = nI 0 from rfl), if_neg (by decide)]
        · rw [if_neg (show ¬ nI (bn true) = nI 0 by decide +kernel), if_pos rfl]
      rw [lX]
      cases hsg : isSg (b s)
      · rw [if_neg (by decide)]
        by_cases hc : isL (b s) = true ∨ isD (b s) = true
        · obtain ⟨k, v, l, p', x', y', q1, q2, q3, q4, q5, q6, q7, q8, q9⟩ := tk_run hrx hsz hc x9 x10 y4 y12 y13
          have lY : fMo_next_J80 y = fMo_next_J164 y (nI (b s)) := by
            unfold fMo_next_J80
            simp only [lit]
            rw [hpk, Option.bind_some, if_pos (by rw [nle (by omega) (by omega)]; omega), tb_sm _ b3, Option.bind_some, tb_dg _ b3, Option.bind_some]
            cases hL : isL (b s)
            · have hD : isD (b s) = true := hc.resolve_left (by rw [hL]; decide)
              rw [if_pos (show nI (bn false) = nI 0 from rfl), hD, if_neg (show ¬ nI (bn true) = nI 0 by decide +kernel)]
            · rw [if_neg (show ¬ nI (bn true) = nI 0 by decide +kernel)]
          rw [lY]
          exact ⟨k, v, l, s, p', x', y', q1, q2, taF_trans fx q3, moF_trans fy q4, q5, q6, q7, fun _ _ => by omega⟩
        · have hL : isL (b s) = false := by
            cases hq : isL (b s)
            · rfl
            · exact absurd (Or.inl hq) hc
          have hD : isD (b s) = false := by
            cases hq : isD (b s)
            · rfl
            · exact absurd (Or.inr hq) hc
          obtain ⟨x', q1, q2, q3, q4⟩ := tk_odd hrx hsz hL hD x9 x10
          have lY := mo_J80 hpk b3 hL hD y4
          rw [hsg, if_neg (by decide)] at lY
          refine ⟨5, 0, [], s, s, x', _, q1, lY, taF_trans fx q2, moF_trans fy (moF_trans (moF_sI (by omega)) (moF_trans (moF_sI (by omega)) (moF_sI (by omega)))), ⟨q3, q4, y12, by omega, Or.inr (Or.inr (Or.inr (Or.inr (Or.inr ⟨rfl, rfl⟩))))⟩, s2, fun w => absurd rfl w, fun _ w => absurd rfl w⟩
      · obtain ⟨hL, hD⟩ := tb_J (b s) b3 hsg
        have lY := mo_J80 hpk b3 hL hD y4
        rw [hsg, if_pos rfl] at lY
        rw [if_pos rfl]
        exact ⟨4, b s, [], s, s + 1, sI (sI x 0 4 (nI 4)) 0 9 (nI (s + 1)), sI (sI (sI y 0 11 (nI 3)) 0 14 (nI (b s))) 0 4 (nI (s + 1)), rfl, lY, taF_trans fx (taF_trans (taF_sI (by omega)) (taF_sI (by omega))), moF_trans fy (moF_trans (moF_sI (by omega)) (moF_trans (moF_sI (by omega)) (moF_sI (by omega)))), ⟨rfl, x10, y12, by omega, Or.inr (Or.inr (Or.inr (Or.inr (Or.inl ⟨rfl, hsg, b3, x5.trans hv5, rfl, rfl⟩))))⟩, by omega, fun _ => ⟨rfl, rfl⟩, fun _ _ => by omega⟩
    · rw [if_neg hsz] at hpk
      have hsz' : s = z := by omega
      refine ⟨0, 0, [], s, s, sI x 0 4 (nI 0), sI y 0 11 (nI 0), ?_, ?_, taF_trans fx (taF_sI (by omega)), moF_trans fy (moF_sI (by omega)), ⟨rfl, x10, y12, by omega, Or.inl ⟨rfl, rfl⟩⟩, s2, fun _ => ⟨x9, y4⟩, fun w => absurd rfl w⟩
      · unfold fTa_take_J96
        simp only [lit, bnd]
        rw [x9, x1, if_neg (by rw [nlt (by omega) (by omega)]; omega)]
      · unfold fMo_next_J80
        simp only [lit, bnd]
        rw [hpk, Option.bind_some, if_neg (show ¬ nI 0 ≤ -nI 1 by decide +kernel)]
end
