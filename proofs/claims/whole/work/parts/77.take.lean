section
variable {z lim : Nat} {b : Nat → Nat} {ta m ta' m' x y : Obj} {s i : Nat} {l : List Nat}
/-- a run of letters and digits: what it comes to -/
theorem tk_run (h : rdB z lim b x y) (hs : s < z) (hc : isL (b s) = true ∨ isD (b s) = true) (x9 : x.1 0 9 = nI s) (x10 : x.1 0 10 = nI s) (y4 : y.1 0 4 = nI s) (y12 : y.1 0 12 = nI s) (y13 : y.1 0 13 = nI 0) : ∃ k v l p' x' y', ((fTa_takeRun x).bind fun r9 => (fTa_nameWord r9).bind fun r10 => some r10) = some x' ∧ fMo_next_J164 y (nI (b s)) = some y' ∧ taF x x' ∧ moF y y' ∧ tkR k v l s x' y' ∧ p' ≤ z ∧ (k ≠ 5 → x'.1 0 9 = nI p' ∧ y'.1 0 4 = nI p') ∧ s < p' ∧ k ≠ 0 := by
  have hz := h.1
  have b3 := (h.2.2.2.2.2.2.1 s hs).2.2
  have u1 : ¬ nI 1 = nI 0 := by decide +kernel
  have hr0 := rdB_f h (taF_trans (taF_sL (x := x) (i := 6) (v := lN 0)) (taF_sI (i := 5) (v := nI 0) (by omega))) (moF_trans (moF_sL (x := y) (i := 17) (v := lN 0)) (moF_sI (i := 14) (v := nI 0) (by omega)))
  obtain ⟨r, ea, em, g1, g2, g3, g4, g5, g6, g7⟩ := run_both hr0 hs (show (sI (sL x 0 6 (lN 0)) 0 5 (nI 0)).1 0 9 = nI s from x9) (show (sI (sL x 0 6 (lN 0)) 0 5 (nI 0)).2 0 6 = lN 0 by show (sL x 0 6 (lN 0)).2 0 6 = _; rw [sL_2, if_pos ⟨rfl, rfl⟩]) (by rw [sI_1, if_pos ⟨rfl, rfl⟩]) (show (sI (sL y 0 17 (lN 0)) 0 14 (nI 0)).1 0 4 = nI s from y4) (show (sI (sL y 0 17 (lN 0)) 0 14 (nI 0)).1 0 13 = nI 0 from y13) (show (sI (sL y 0 17 (lN 0)) 0 14 (nI 0)).2 0 17 = lN 0 by show (sL y 0 17 (lN 0)).2 0 17 = _; rw [sL_2, if_pos ⟨rfl, rfl⟩]) (by rw [sI_1, if_pos ⟨rfl, rfl⟩])
  have hr1 : 1 ≤ r := by
    rcases Nat.eq_zero_or_pos r with h0 | h0
    · subst h0
      obtain ⟨q1, q2⟩ := g5 hs
      rw [Nat.add_zero] at q1 q2
      rcases hc with hc | hc
      · rw [q1] at hc; cases hc
      · rw [q2] at hc; cases hc
    · exact h0
  obtain ⟨ea1, ea2, xe⟩ := ea
  obtain ⟨em1, ye⟩ := em
  obtain ⟨j1, j2, j3, j4, j5, j6, j10⟩ := g6
  obtain ⟨n1, n2, n4, n13, nw, nn, n12⟩ := g7
  simp only at j1 j2 j3 j4 j5 j6 j10 n1 n2 n4 n13 nw nn n12
  subst j1 j2 n1
  have fx : taF x xe := taF_trans (taF_trans taF_sL (taF_sI (by omega))) j3
  have fy : moF y ye := moF_trans (moF_trans moF_sL (moF_sI (by omega))) n2
  obtain ⟨ll1, ll2⟩ := LL_ok (b := b) (s := s) r
  obtain ⟨dl1, dl2⟩ := DL_len (b := b) (s := s) r
  have hsum := dl2 g4
  have xe10 : xe.1 0 10 = nI s := j10.trans x10
  have ye12 : ye.1 0 12 = nI s := n12.trans y12
  have lC : fTa_takeRun x = if (DLr b s r).length = 0 then (if 1 ≤ (LLr b s r).length ∧ (LLr b s r).length ≤ 8 then some (sI xe 0 4 (nI 2)) else fTa_takeRun_J146 xe (nI (LLr b s r).length) (nI (DLr b s r).length)) else fTa_takeRun_J146 xe (nI (LLr b s r).length) (nI (DLr b s r).length) := by
    have e0 : fTa_takeRun x = (iter fTa_takeRun_L14 FU (nI 0, nI 0, sI (sL x 0 6 (lN 0)) 0 5 (nI 0))).bind fun e9 => if e9.2.1 = nI 0 then (if e9.1 < nI 1 then fTa_takeRun_J146 e9.2.2 e9.1 e9.2.1 else if nI 8 < e9.1 then fTa_takeRun_J146 e9.2.2 e9.1 e9.2.1 else some (sI e9.2.2 0 4 (nI 2))) else fTa_takeRun_J146 e9.2.2 e9.1 e9.2.1 := rfl
    rw [e0, g1, Option.bind_some]
    by_cases hd : (DLr b s r).length = 0
    · rw [if_pos (show nI (DLr b s r).length = nI 0 by rw [hd]), if_pos hd]
      by_cases h1 : 1 ≤ (LLr b s r).length
      · rw [if_neg (show ¬ nI (LLr b s r).length < nI 1 by rw [nlt (by omega) (by omega)]; omega)]
        by_cases h8 : (LLr b s r).length ≤ 8
        · rw [if_neg (show ¬ nI 8 < nI (LLr b s r).length by rw [nlt (by omega) (by omega)]; omega), if_pos ⟨h1, h8⟩]
        · rw [if_pos (show nI 8 < nI (LLr b s r).length by rw [nlt (by omega) (by omega)]; omega), if_neg (fun w => h8 w.2)]
      · rw [if_pos (show nI (LLr b s r).length < nI 1 by rw [nlt (by omega) (by omega)]; omega), if_neg (fun w => h1 w.1)]
    · rw [if_neg (show ¬ nI (DLr b s r).length = nI 0 by rw [neq (by omega) (by omega)]; exact hd), if_neg hd]
  have lJ : fTa_takeRun_J146 xe (nI (LLr b s r).length) (nI (DLr b s r).length) = some (sI xe 0 4 (nI (if (LLr b s r).length = 0 ∧ 1 ≤ (DLr b s r).length ∧ (DLr b s r).length ≤ 3 then 3 else 5))) := by
    unfold fTa_takeRun_J146
    simp only [lit, bnd]
    by_cases h0 : (LLr b s r).length = 0
    · rw [if_pos (by rw [h0])]
      by_cases h1 : 1 ≤ (DLr b s r).length
      · rw [if_neg (by rw [nlt (by omega) (by omega)]; omega)]
        by_cases h3 : (DLr b s r).length ≤ 3
        · rw [if_neg (by rw [nlt (by omega) (by omega)]; omega), if_pos ⟨h0, h1, h3⟩]
        · rw [if_pos (by rw [nlt (by omega) (by omega)]; omega), if_neg (fun w => h3 w.2.2)]
      · rw [if_pos (by rw [nlt (by omega) (by omega)]; omega), if_neg (fun w => h1 w.2.1)]
    · rw [if_neg (by rw [neq (by omega) (by omega)]; exact h0), if_neg (fun w => h0 w.1)]
  have lM : fMo_next_J164 y (nI (b s)) = if allS b s r then (if isL (b s) then fMo_next_J317 ye (nI 1) (nI r) (nI 8) else fMo_next_J317 ye (nI 0) (nI r) (nI 3)) else some (sI ye 0 11 (nI 4)) := by
    have e0 : fMo_next_J164 y (nI (b s)) = (fMo_isSmall (nI (b s))).bind fun r14 => (iter (fMo_next_L181 r14) FU (nI 1, sI (sL y 0 17 (lN 0)) 0 14 (nI 0))).bind fun e29 => if e29.1 = nI 0 then some (sI e29.2 0 11 (nI 4)) else if r14 = nI 0 then fMo_next_J317 e29.2 r14 (e29.2.1 0 13) (nI 3) else fMo_next_J317 e29.2 r14 (e29.2.1 0 13) (nI 8) := rfl
    rw [e0, tb_sm _ b3, Option.bind_some, g2, Option.bind_some, n13]
    cases hA : allS b s r
    · rw [if_pos (show nI (bn false) = nI 0 from rfl)]; rfl
    · rw [if_neg (show ¬ nI (bn true) = nI 0 from u1), if_pos rfl]
      cases hL : isL (b s)
      · rw [if_pos (show nI (bn false) = nI 0 from rfl)]; rfl
      · rw [if_neg (show ¬ nI (bn true) = nI 0 from u1)]; rfl
  have l317 : ∀ (v2 : Nat) (mx : Nat), v2 ≤ 1 → mx < 100 → fMo_next_J317 ye (nI v2) (nI r) (nI mx) = some (sI ye 0 11 (nI (if r ≤ mx then (if v2 = 0 then 2 else 1) else 4))) := fun v2 mx hv hm => by
    unfold fMo_next_J317
    simp only [lit, bnd]
    by_cases hr : r ≤ mx
    · rw [if_pos (by rw [nle (by omega) (by omega)]; exact hr), if_pos hr]
      by_cases h0 : v2 = 0
      · rw [if_pos (by rw [h0]), if_pos h0]
      · rw [if_neg (by rw [neq (by omega) (by omega)]; exact h0), if_neg h0]
    · rw [if_neg (by rw [nle (by omega) (by omega)]; exact hr), if_neg hr]
  have no : ∀ {x9' : Obj}, fTa_takeRun x = some (sI xe 0 4 (nI 5)) → fMo_next_J164 y (nI (b s)) = some (sI ye 0 11 (nI 4)) → ∃ k v l p' x' y', ((fTa_takeRun x).bind fun r9 => (fTa_nameWord r9).bind fun r10 => some r10) = some x' ∧ fMo_next_J164 y (nI (b s)) = some y' ∧ taF x x' ∧ moF y y' ∧ tkR k v l s x' y' ∧ p' ≤ z ∧ (k ≠ 5 → x'.1 0 9 = nI p' ∧ y'.1 0 4 = nI p') ∧ s < p' ∧ k ≠ 0 := fun h1 h2 => by
    have hn : fTa_nameWord (sI xe 0 4 (nI 5)) = some (sI xe 0 4 (nI 5)) := by
      unfold fTa_nameWord
      have : iter fTa_nameWord_L2 1 (nI 0, sI xe 0 4 (nI 5)) = some (sI xe 0 4 (nI 5)) := by
        rw [iter_s]
        unfold fTa_nameWord_L2
        simp only [lit]
        rw [if_neg (by decide +kernel), if_neg (show ¬ (sI xe 0 4 (nI 5)).1 0 4 = nI 2 by rw [sI_1, if_pos ⟨rfl, rfl⟩]; decide +kernel)]
        rfl
      simp only [lit]
      rw [iter_FU this (by omega)]; rfl
    refine ⟨5, 0, [], s + r, sI xe 0 4 (nI 5), sI ye 0 11 (nI 4), by rw [h1, Option.bind_some, hn]; rfl, h2, taF_trans fx (taF_sI (by omega)), moF_trans fy (moF_sI (by omega)), ⟨by rw [sI_1, if_pos ⟨rfl, rfl⟩], xe10, ye12, by omega, Or.inr (Or.inr (Or.inr (Or.inr (Or.inr ⟨rfl, by rw [sI_1, if_pos ⟨rfl, rfl⟩]⟩))))⟩, g3, fun w => absurd rfl w, by omega, by decide⟩
  have hW : ∀ w, w < 29 → xe.2 1 w = kw5 (kws.getD w []) := fun w hw => by
    rw [fx.2.2 1 (by omega)]; exact (h.2.2.2.2.2.2.2 w hw).1
  cases hL : isL (b s)
  · have hD : isD (b s) = true := hc.resolve_left (by rw [hL]; decide)
    have hp := DL_pos (b := b) (s := s) hD (r - 1)
    rw [show r - 1 + 1 = r by omega] at hp
    rw [if_neg (by omega), lJ] at lC
    simp only [hL, Bool.false_eq_true, if_false] at lM
    rw [l317 0 3 (by omega) (by omega)] at lM
    cases hA : allS b s r
    · rw [hA, if_neg (by decide)] at lM
      refine no (x9' := x) ?_ lM
      rw [lC]
      have : ¬ ((LLr b s r).length = 0 ∧ 1 ≤ (DLr b s r).length ∧ (DLr b s r).length ≤ 3) := fun w => by
        have hl0 : LLr b s r = [] := List.eq_nil_of_length_eq_zero w.1
        have := (all_D hL r g4).mpr ⟨hl0, by omega⟩
        rw [hA] at this; cases this
      rw [if_neg this]
    · rw [hA, if_pos rfl] at lM
      obtain ⟨q1, q2⟩ := (all_D hL r g4).mp hA
      have q3 : (LLr b s r).length = 0 := by rw [q1]; rfl
      by_cases hr3 : r ≤ 3
      · rw [if_pos ⟨q3, by omega, by omega⟩] at lC
        rw [if_pos hr3, if_pos rfl] at lM
        have hn : fTa_nameWord (sI xe 0 4 (nI 3)) = some (sI xe 0 4 (nI 3)) := by
          unfold fTa_nameWord
          have : iter fTa_nameWord_L2 1 (nI 0, sI xe 0 4 (nI 3)) = some (sI xe 0 4 (nI 3)) := by
            rw [iter_s]
            unfold fTa_nameWord_L2
            simp only [lit]
            rw [if_neg (by decide +kernel), if_neg (show ¬ (sI xe 0 4 (nI 3)).1 0 4 = nI 2 by rw [sI_1, if_pos ⟨rfl, rfl⟩]; decide +kernel)]
            rfl
          simp only [lit]
          rw [iter_FU this (by omega)]; rfl
        have hv := dvf_le (l := DLr b s r) (a := 0) (fun x hx => DL_ok r x hx)
        have hv2 : 10 ^ (DLr b s r).length ≤ 10 ^ 3 := Nat.pow_le_pow_right (by decide) (by omega)
        have hv3 : (10 : Nat) ^ 3 = 1000 := by decide
        refine ⟨3, dvf 0 (DLr b s r), [], s + r, sI xe 0 4 (nI 3), sI ye 0 11 (nI 2), by rw [lC, Option.bind_some, hn]; rfl, lM, taF_trans fx (taF_sI (by omega)), moF_trans fy (moF_sI (by omega)), ⟨by rw [sI_1, if_pos ⟨rfl, rfl⟩], xe10, ye12, by omega, Or.inr (Or.inr (Or.inr (Or.inl ⟨rfl, by omega, j6, by rw [sI_1, if_pos ⟨rfl, rfl⟩], nn hL hA hr3⟩)))⟩, g3, fun _ => ⟨j4, n4⟩, by omega, by decide⟩
      · rw [if_neg (fun w => hr3 (by omega))] at lC
        rw [if_neg hr3] at lM
        exact no (x9' := x) lC lM
  · have hp := LL_pos (b := b) (s := s) hL (r - 1)
    rw [show r - 1 + 1 = r by omega] at hp
    simp only [hL, if_true] at lM
    rw [l317 1 8 (by omega) (by omega)] at lM
    rw [lJ] at lC
    rw [if_neg (show ¬ ((LLr b s r).length = 0 ∧ 1 ≤ (DLr b s r).length ∧ (DLr b s r).length ≤ 3) by omega)] at lC
    cases hA : allS b s r
    · rw [hA, if_neg (by decide)] at lM
      have hd : ¬ (DLr b s r).length = 0 := fun w => by
        have := (all_L hL r).mpr ⟨List.eq_nil_of_length_eq_zero w, by omega⟩
        rw [hA] at this; cases this
      rw [if_neg hd] at lC
      exact no (x9' := x) lC lM
    · rw [hA, if_pos rfl] at lM
      obtain ⟨q1, q2⟩ := (all_L hL r).mp hA
      have q3 : (DLr b s r).length = 0 := by rw [q1]; rfl
      rw [if_pos q3] at lC
      by_cases hr8 : r ≤ 8
      · rw [if_pos ⟨hp, by omega⟩] at lC
        rw [if_pos hr8, if_neg (by decide)] at lM
        rcases nw_both (x := sI xe 0 4 (nI 2)) (l := LLr b s r) hW ll1 (by omega) j5 (by rw [sI_1, if_pos ⟨rfl, rfl⟩]) with ⟨w, w1, w2, w3⟩ | ⟨w1, w2⟩
        · refine ⟨1, w, [], s + r, sI (sI (sI xe 0 4 (nI 2)) 0 4 (nI 1)) 0 5 (nI w), sI ye 0 11 (nI 1), by rw [lC, Option.bind_some, w3]; rfl, lM, taF_trans fx (taF_trans (taF_sI (by omega)) (taF_trans (taF_sI (by omega)) (taF_sI (by omega)))), moF_trans fy (moF_sI (by omega)), ⟨rfl, xe10, ye12, by omega, Or.inr (Or.inl ⟨rfl, w1, rfl, by rw [sI_1, if_pos ⟨rfl, rfl⟩], ?_⟩)⟩, g3, fun _ => ⟨j4, n4⟩, by omega, by decide⟩
          rw [← w2]; exact nw hL hA hr8
        · exact ⟨2, 0, LLr b s r, s + r, sI xe 0 4 (nI 2), sI ye 0 11 (nI 1), by rw [lC, Option.bind_some, w2]; rfl, lM, taF_trans fx (taF_sI (by omega)), moF_trans fy (moF_sI (by omega)), ⟨by rw [sI_1, if_pos ⟨rfl, rfl⟩], xe10, ye12, by omega, Or.inr (Or.inr (Or.inl ⟨rfl, ll1, hp, by omega, j5, by rw [sI_1, if_pos ⟨rfl, rfl⟩], nw hL hA hr8, w1⟩))⟩, g3, fun _ => ⟨j4, n4⟩, by omega, by decide⟩
      · rw [if_neg (fun w => hr8 (by omega))] at lC
        rw [if_neg hr8] at lM
        exact no (x9' := x) lC lM
end
