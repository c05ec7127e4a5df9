theorem rsn {base w : Nat} (hw : w < 1000) (hb : base < 1000) : fBk_reason (nI base) (nI w) = some (nI (if w = 0 then 0 else w + base)) := by
  unfold fBk_reason
  simp only [lit]
  by_cases h : w = 0
  · rw [if_pos (by rw [h]), if_pos h]
  · rw [if_neg (by rw [neq (by omega) (by omega)]; exact h), if_neg h, nadd, Nat.add_comm]
section
variable {z lim : Nat} {b : Nat → Nat} {ta ta1 m ta' m' m0 m1 m2 m3 m4 x y q bk bk' sc sc' : Obj} {k v v0 pl p p0 p1 c j T A B C : Nat} {l : List Nat} {n h L e t : Nat} {hp hm : Nat → Nat} {sr sr' : Nat → Bool} {S S' : Nat → Nat → Nat}
theorem j213 {w : Nat} (hw : w < 1000) (hA : A < 10) : fMo_does_J213 m (nI A) (nI w) = some (nI (if w = 0 then 0 else w + 10 * A), m) := by
  unfold fMo_does_J213
  simp only [lit]
  by_cases h : w = 0
  · rw [if_pos (by rw [nle (by omega) (by omega)]; omega), if_pos h]
  · rw [if_neg (by rw [nle (by omega) (by omega)]; omega), if_neg h, nmul, nadd]
/-- the ticks of one line -/
theorem tick_loop (hB : sQB n h L e t hp hm) (hC : sQC n h L e t hp hm sr q) (hM : sQM n h L e t hp hm sr (m0.1 2)) (hR : RT n h L hp m0 T (8 * T) sc m) (hTB : T + B ≤ 1000) : ∃ sc' m', iter (fBk_liveLine_L140 q (nI B)) FU (nI 0, sc) = some sc' ∧ fMo_goesOn m (nI B) = some (nI B, m') ∧ RT n h L hp m0 (T + B) (8 * (T + B)) sc' m' := by
  have key := iter2 (f := fBk_liveLine_L140 q (nI B)) (g := fMo_goesOn_L2 (nI B)) (I := fun i a a' => ∃ sc m, a = (nI i, sc) ∧ a' = (nI i, m) ∧ RT n h L hp m0 (T + i) (8 * (T + i)) sc m) (E := fun z z' => ∃ m, z' = (nI B, m) ∧ RT n h L hp m0 (T + B) (8 * (T + B)) z m) B (by omega) (a := (nI 0, sc)) (a' := (nI 0, m)) ⟨sc, m, rfl, rfl, hR⟩ (fun i a a' hi hz => ?_) (fun a a' hz => ?_)
  · obtain ⟨z, z', g1, g2, m', rfl, h3⟩ := key
    refine ⟨z, m', g1, ?_, h3⟩
    unfold fMo_goesOn
    simp only [lit, g2, Option.bind_some]
  · obtain ⟨sc, m, rfl, rfl, hz⟩ := hz
    left
    obtain ⟨S1, w1, w2, w3, w4, w5, w6⟩ := id hz
    have d1 := (sSM_live w3).1.1
    rw [w5] at d1
    obtain ⟨sc2, m2, t1, t2, t3⟩ := tick_all hB hC hM (by omega) hz
    refine ⟨(nI (i + 1), sc2), (nI (i + 1), m2), ?_, ?_, sc2, m2, rfl, rfl, t3⟩
    · unfold fBk_liveLine_L140
      simp only [lit]
      rw [if_neg (by rw [nle (by omega) (by omega)]; omega), t1]
      simp only [Option.bind_some, nadd]
    · unfold fMo_goesOn_L2
      simp only [lit]
      rw [d1, if_neg (by rw [nle (by omega) (by omega)]; omega), if_neg (by rw [nle (by omega) (by omega)]; omega), t2]
      simp only [Option.bind_some, nadd]
  · obtain ⟨sc, m, rfl, rfl, hz⟩ := hz
    refine ⟨sc, _, ?_, ?_, m, rfl, hz⟩
    · unfold fBk_liveLine_L140
      rw [if_pos (by rw [nle (by omega) (by omega)]; omega)]
    · unfold fMo_goesOn_L2
      rw [if_pos (by rw [nle (by omega) (by omega)]; omega)]
/-- one line is lived -/
theorem live_line (hB : sQB n h L e t hp hm) (hC : sQC n h L e t hp hm sr q) (hM : sQM n h L e t hp hm sr (m.1 2)) (hR : RC n h L hp sc (dOf m)) (ha : bact n h A B C) {C' : Int32} (hC' : A ≠ 2 → A ≠ 5 → C' = nI C) : ∃ w sc' m', w < 100 ∧ fBk_liveLine q sc (nI (vrb A)) (nI B) (nI C) = some (nI w, sc') ∧ fMo_does m (nI A) (nI B) C' = some (nI w, m') ∧ mFr m m' ∧ RC n h L hp sc' (dOf m') := by
  obtain ⟨b1, b2, b3, b4, b5, b6, b7, b8, b9⟩ := id hB
  obtain ⟨S, hV, hS, hD, hx1, hx2⟩ := id hR
  have dv : ∀ a w, a < 20 → w < 20 → a ≠ w → ¬ nI a = nI w := fun a w ha hw hne => by rw [neq (by omega) (by omega)]; exact hne
  rcases ha with ⟨rfl, hp1, hc1⟩ | ⟨rfl, hp1, hc1⟩ | ⟨rfl, hp1, rfl⟩ | ⟨rfl, hp1, hc1, hne⟩ | ⟨rfl, hp1, hc1⟩ | ⟨rfl, hp1, hp2, rfl⟩
  · have := hC' (by omega) (by omega)
    subst this
    obtain ⟨sc', g1, g2⟩ := sc_tryK hB hC hV hS hp1 hc1
    have g3 := mo_whyK hB hM hV hD hp1 hc1
    have hw : whyK hp hm S B C < 10 := by
      unfold whyK
      split
      · split
        · split <;> omega
        · omega
      · omega
    have lC : fBk_liveLine q sc (nI (vrb 0)) (nI B) (nI C) = some (nI (if whyK hp hm S B C = 0 then 0 else whyK hp hm S B C + 0), sc') := by
      have := rsn (base := 0) (w := whyK hp hm S B C) (by omega) (by omega)
      unfold fBk_liveLine
      simp only [lit]
      rw [if_neg (show ¬ nI (vrb 0) = nI 5 by decide +kernel), if_pos (show nI (vrb 0) = nI 13 by decide +kernel), g1, Option.bind_some, this, Option.bind_some]
    have lM : fMo_does m (nI 0) (nI B) (nI C) = if nI (whyK hp hm S B C) = nI 0 then (fMo_stands m (nI B) (nI 1) (nI C)).bind fun r2 => fMo_does_J213 r2 (nI 0) (nI (whyK hp hm S B C)) else fMo_does_J213 m (nI 0) (nI (whyK hp hm S B C)) := by
      unfold fMo_does
      simp only [lit]
      rw [if_pos trivial, g3, Option.bind_some]
    by_cases h0 : whyK hp hm S B C = 0
    · obtain ⟨hk1, hk2⟩ := whyK_0 h0
      obtain ⟨m', f1, f2, f3⟩ := mo_doK hB hM hV hD (k := C) hp1 hk1
      rw [if_pos h0] at g2
      refine ⟨_, sc', m', ?_, lC, ?_, f2, doK S B C, sSV_doK hB hV hp1 hc1 ⟨hk1, hk2⟩, g2, f3, ?_, ?_⟩
      · rw [if_pos h0]; omega
      · rw [lM, if_pos (by rw [h0]), f1, Option.bind_some, j213 (by omega) (by omega)]
      · exact hx1
      · exact hx2
    · rw [if_neg h0] at g2
      refine ⟨_, sc', m, ?_, lC, ?_, mFr_refl m, S, hV, g2, hD, hx1, hx2⟩
      · rw [if_neg h0]; omega
      · rw [lM, if_neg (by rw [neq (by omega) (by omega)]; exact h0), j213 (by omega) (by omega)]
  · have := hC' (by omega) (by omega)
    subst this
    obtain ⟨sc', g1, g2⟩ := sc_tryG hB hC hV hS hp1 hc1
    have g3 := mo_whyG hB hV hD hp1 hc1
    have hw : whyG S B C < 10 := by
      unfold whyG
      split
      · split <;> omega
      · omega
    have lC : fBk_liveLine q sc (nI (vrb 1)) (nI B) (nI C) = some (nI (if whyG S B C = 0 then 0 else whyG S B C + 10), sc') := by
      have := rsn (base := 10) (w := whyG S B C) (by omega) (by omega)
      unfold fBk_liveLine
      simp only [lit]
      rw [if_neg (show ¬ nI (vrb 1) = nI 5 by decide +kernel), if_neg (show ¬ nI (vrb 1) = nI 13 by decide +kernel), if_pos (show nI (vrb 1) = nI 14 by decide +kernel), g1, Option.bind_some, this, Option.bind_some]
    have lM : fMo_does m (nI 1) (nI B) (nI C) = if nI (whyG S B C) = nI 0 then fMo_does_J213 (sI m 2 (89 + B) (nI C)) (nI 1) (nI (whyG S B C)) else fMo_does_J213 m (nI 1) (nI (whyG S B C)) := by
      unfold fMo_does
      simp only [lit, bnd]
      rw [if_neg (dv 1 0 (by omega) (by omega) (by omega)), if_pos trivial, g3, Option.bind_some, nadd, ix_nI (by omega) (by omega), Option.bind_some]
    by_cases h0 : whyG S B C = 0
    · obtain ⟨f2, f3⟩ := mo_doG (m := m) (w := C) hB hV hD hp1
      rw [if_pos h0] at g2
      refine ⟨_, sc', _, ?_, lC, ?_, f2, doG S B C, sSV_doG hV hp1 hc1, g2, f3, ?_, ?_⟩
      · rw [if_pos h0]; omega
      · rw [lM, if_pos (by rw [h0]), j213 (by omega) (by omega)]
      · exact hx1
      · exact hx2
    · rw [if_neg h0] at g2
      refine ⟨_, sc', m, ?_, lC, ?_, mFr_refl m, S, hV, g2, hD, hx1, hx2⟩
      · rw [if_neg h0]; omega
      · rw [lM, if_neg (by rw [neq (by omega) (by omega)]; exact h0), j213 (by omega) (by omega)]
  · obtain ⟨sc', g1, g2⟩ := sc_tryQ hB hC hV hS hp1
    have hS3 := (hV.2.2.1 B hp1).1.1
    have lC : fBk_liveLine q sc (nI (vrb 2)) (nI B) (nI 0) = some (nI (if whyQ S B = 0 then 0 else whyQ S B + 20), sc') := by
      have := rsn (base := 20) (w := whyQ S B) (by unfold whyQ; split <;> omega) (by omega)
      unfold fBk_liveLine
      simp only [lit]
      rw [if_neg (show ¬ nI (vrb 2) = nI 5 by decide +kernel), if_neg (show ¬ nI (vrb 2) = nI 13 by decide +kernel), if_neg (show ¬ nI (vrb 2) = nI 14 by decide +kernel), if_pos (show nI (vrb 2) = nI 15 by decide +kernel), g1, Option.bind_some, this, Option.bind_some]
    have d3 := ((sSM_live hD).2.2 B hp1).1
    have lM : fMo_does m (nI 2) (nI B) C' = if S 3 B = 1 then (fMo_stands m (nI B) (nI 0) (-nI 1)).bind fun r7 => fMo_does_J213 r7 (nI 2) (nI 0) else fMo_does_J213 m (nI 2) (nI 1) := by
      unfold fMo_does
      simp only [lit]
      rw [if_neg (dv 2 0 (by omega) (by omega) (by omega)), if_neg (dv 2 1 (by omega) (by omega) (by omega)), if_pos trivial, nadd, ix_nI (by omega) (by omega), Option.bind_some, d3]
      by_cases h1 : S 3 B = 1
      · rw [if_pos (by rw [h1]), if_pos h1]
        unfold fMo_does_J107
        simp only [lit]
        rw [if_pos trivial]
      · rw [if_neg (by rw [neq (by omega) (by omega)]; exact h1), if_neg h1]
        unfold fMo_does_J107
        simp only [lit]
        rw [if_neg (dv 1 0 (by omega) (by omega) (by omega))]
    by_cases h1 : S 3 B = 1
    · have h0 : whyQ S B = 0 := if_pos h1
      obtain ⟨m', f1, f2, f3⟩ := mo_doQ hB hM hV hD hp1
      rw [if_pos h0] at g2 lC
      refine ⟨0, sc', m', by omega, lC, ?_, f2, stn S B 0 0 0, sSV_lane hV hp1, g2, f3, ?_, ?_⟩
      · rw [lM, if_pos h1, f1, Option.bind_some, j213 (by omega) (by omega)]; rfl
      · exact hx1
      · exact hx2
    · have h0 : whyQ S B = 1 := if_neg h1
      rw [h0] at g2 lC
      rw [if_neg (by omega)] at g2 lC
      refine ⟨21, sc', m, by omega, lC, ?_, mFr_refl m, S, hV, g2, hD, hx1, hx2⟩
      rw [lM, if_neg h1, j213 (by omega) (by omega)]; rfl
  · have := hC' (by omega) (by omega)
    subst this
    obtain ⟨sc', g1, g2⟩ := sc_tryM hB hC hV hS hp1 hc1 hne
    have h256 := (hV.2.2.1 B hp1).1.2.2.2.2.2.1
    have d8 := ((sSM_live hD).2.2 B hp1).2.2.2.2.2.1
    have lM : fMo_does m (nI 3) (nI B) (nI C) = if (S 8 B).testBit C then fMo_does_J213 m (nI 3) (nI 1) else (fMo_knowsIn_2 m (nI 113) (nI B) (nI C)).bind fun r10 => fMo_does_J213 r10 (nI 3) (nI 0) := by
      unfold fMo_does
      simp only [lit, bnd]
      rw [if_neg (dv 3 0 (by omega) (by omega) (by omega)), if_neg (dv 3 1 (by omega) (by omega) (by omega)), if_neg (dv 3 2 (by omega) (by omega) (by omega)), if_pos trivial, nadd, ix_nI (by omega) (by omega), Option.bind_some, d8, bit_n (by omega) (by omega)]
      cases (S 8 B).testBit C
      · rw [if_neg (show ¬ false = true by decide), if_pos rfl, if_neg (show ¬ false = true by decide)]
      · rw [if_pos rfl, if_neg (dv 1 0 (by omega) (by omega) (by omega)), if_pos rfl]
    have lC : fBk_liveLine q sc (nI (vrb 3)) (nI B) (nI C) = some (nI (if (if (S 8 B).testBit C then 1 else 0) = 0 then 0 else (if (S 8 B).testBit C then 1 else 0) + 30), sc') := by
      have := rsn (base := 30) (w := if (S 8 B).testBit C then 1 else 0) (by split <;> omega) (by omega)
      unfold fBk_liveLine
      simp only [lit]
      rw [if_neg (show ¬ nI (vrb 3) = nI 5 by decide +kernel), if_neg (show ¬ nI (vrb 3) = nI 13 by decide +kernel), if_neg (show ¬ nI (vrb 3) = nI 14 by decide +kernel), if_neg (show ¬ nI (vrb 3) = nI 15 by decide +kernel), if_pos (show nI (vrb 3) = nI 16 by decide +kernel), g1, Option.bind_some, this, Option.bind_some]
    cases hb : (S 8 B).testBit C
    · rw [hb] at g2 lC lM
      rw [if_neg (show ¬ false = true by decide)] at g2 lC lM
      rw [if_pos rfl] at lC
      obtain ⟨m', f1, f2, f3⟩ := mo_knowsIn (m := m) b1 hV hD hp1 hc1 hne
      refine ⟨0, sc', m', by omega, lC, ?_, f2, mkK S B (2 ^ C), sSV_doM hB hV hp1 hc1 hne, g2, f3, ?_, ?_⟩
      · rw [lM, f1, Option.bind_some, j213 (by omega) (by omega)]; rfl
      · exact hx1
      · exact hx2
    · rw [hb] at g2 lC lM
      rw [if_pos rfl] at g2 lC lM
      rw [if_neg (show ¬ 1 = 0 by decide)] at lC
      refine ⟨31, sc', m, by omega, lC, ?_, mFr_refl m, S, hV, g2, hD, hx1, hx2⟩
      rw [lM, j213 (by omega) (by omega)]; rfl
  · have := hC' (by omega) (by omega)
    subst this
    obtain ⟨sc', g1, g2⟩ := sc_tryC hB hC hV hS hp1 hc1
    have g3 := mo_whyC hB hM hV hD hp1 hc1
    have hw : whyC hm S B C < 10 := by
      unfold whyC
      split
      · omega
      · split
        · omega
        · split <;> omega
    have lC : fBk_liveLine q sc (nI (vrb 4)) (nI B) (nI C) = some (nI (if whyC hm S B C = 0 then 0 else whyC hm S B C + 40), sc') := by
      have := rsn (base := 40) (w := whyC hm S B C) (by omega) (by omega)
      unfold fBk_liveLine
      simp only [lit]
      rw [if_pos (show nI (vrb 4) = nI 5 by decide +kernel), g1, Option.bind_some, this, Option.bind_some]
    have lM : fMo_does m (nI 4) (nI B) (nI C) = if nI (whyC hm S B C) = nI 0 then (fMo_books m (nI B) (nI C)).bind fun r2 => fMo_does_J213 r2 (nI 4) (nI (whyC hm S B C)) else fMo_does_J213 m (nI 4) (nI (whyC hm S B C)) := by
      unfold fMo_does
      simp only [lit]
      rw [if_neg (dv 4 0 (by omega) (by omega) (by omega)), if_neg (dv 4 1 (by omega) (by omega) (by omega)), if_neg (dv 4 2 (by omega) (by omega) (by omega)), if_neg (dv 4 3 (by omega) (by omega) (by omega)), if_pos trivial, g3, Option.bind_some]
    by_cases h0 : whyC hm S B C = 0
    · obtain ⟨m', f1, f2, f3⟩ := mo_doC hB hV hD hp1 h0
      rw [if_pos h0] at g2
      refine ⟨_, sc', m', ?_, lC, ?_, f2, doC S B C, sSV_doC hV hp1 hc1 h0, g2, f3, ?_, ?_⟩
      · rw [if_pos h0]; omega
      · rw [lM, if_pos (by rw [h0]), f1, Option.bind_some, j213 (by omega) (by omega)]
      · exact hx1
      · exact hx2
    · rw [if_neg h0] at g2
      refine ⟨_, sc', m, ?_, lC, ?_, mFr_refl m, S, hV, g2, hD, hx1, hx2⟩
      · rw [if_neg h0]; omega
      · rw [lM, if_neg (by rw [neq (by omega) (by omega)]; exact h0), j213 (by omega) (by omega)]
  · obtain ⟨T, hT, s1, d1, hRT⟩ := RC_RT hR
    have lC : fBk_liveLine q sc (nI (vrb 5)) (nI B) (nI 0) = if T + B ≤ 1000 then (iter (fBk_liveLine_L140 q (nI B)) FU (nI 0, sc)).bind fun e12 => some (nI 0, e12) else some (nI 51, sc) := by
      unfold fBk_liveLine
      simp only [lit]
      rw [if_neg (show ¬ nI (vrb 5) = nI 5 by decide +kernel), if_neg (show ¬ nI (vrb 5) = nI 13 by decide +kernel), if_neg (show ¬ nI (vrb 5) = nI 14 by decide +kernel), if_neg (show ¬ nI (vrb 5) = nI 15 by decide +kernel), if_neg (show ¬ nI (vrb 5) = nI 16 by decide +kernel), s1, nadd]
      by_cases hTB : T + B ≤ 1000
      · rw [if_pos (by rw [nle (by omega) (by omega)]; exact hTB), if_pos hTB]
      · rw [if_neg (by rw [nle (by omega) (by omega)]; exact hTB), if_neg hTB]
    have lM : fMo_does m (nI 5) (nI B) C' = if T + B ≤ 1000 then (fMo_goesOn m (nI B)).bind fun r13 => fMo_does_J213 r13.2 (nI 5) (nI 0) else fMo_does_J213 m (nI 5) (nI 1) := by
      unfold fMo_does
      simp only [lit]
      rw [if_neg (dv 5 0 (by omega) (by omega) (by omega)), if_neg (dv 5 1 (by omega) (by omega) (by omega)), if_neg (dv 5 2 (by omega) (by omega) (by omega)), if_neg (dv 5 3 (by omega) (by omega) (by omega)), if_neg (dv 5 4 (by omega) (by omega) (by omega)), d1, nadd]
      by_cases hTB : T + B ≤ 1000
      · rw [if_pos (by rw [nle (by omega) (by omega)]; exact hTB), if_pos hTB]
        unfold fMo_does_J200
        simp only [lit]
        rw [if_pos trivial]
      · rw [if_neg (by rw [nle (by omega) (by omega)]; exact hTB), if_neg hTB]
        unfold fMo_does_J200
        simp only [lit]
        rw [if_neg (dv 1 0 (by omega) (by omega) (by omega))]
    by_cases hTB : T + B ≤ 1000
    · obtain ⟨sc', m', f1, f2, f3⟩ := tick_loop hB hC hM hRT hTB
      rw [if_pos hTB] at lC lM
      refine ⟨0, sc', m', by omega, by rw [lC, f1, Option.bind_some], ?_, ?_, RT_RC hTB f3⟩
      · rw [lM, f2, Option.bind_some, j213 (by omega) (by omega)]; rfl
      · obtain ⟨_, _, _, _, w, _⟩ := f3
        exact w
    · rw [if_neg hTB] at lC lM
      refine ⟨51, sc, m, by omega, lC, ?_, mFr_refl m, hR⟩
      rw [lM, j213 (by omega) (by omega)]; rfl
end
/-- what living leaves of the reference -/
def moL (m m' : Obj) : Prop := m'.2 = m.2 ∧ (∀ j, j ≠ 2 → j ≠ 13 → m'.1 j = m.1 j) ∧ ∀ i, i < 69 ∨ 161 ≤ i → m'.1 2 i = m.1 2 i
theorem moL_refl (m : Obj) : moL m m := ⟨rfl, fun _ _ _ => rfl, fun _ _ => rfl⟩
theorem moL_trans {a b c : Obj} (h1 : moL a b) (h2 : moL b c) : moL a c := ⟨h2.1.trans h1.1, fun j x y => (h2.2.1 j x y).trans (h1.2.1 j x y), fun i x => (h2.2.2 i x).trans (h1.2.2 i x)⟩
theorem moL_fr {m m' : Obj} (hf : mFr m m') : moL m m' := ⟨hf.1, fun j h2 _ => funext fun i => mFr_1 hf h2, fun i hi => mFr_2 hf hi⟩
theorem moL_13 {m : Obj} {i : Nat} {v : Int32} : moL m (sI m 13 i v) := ⟨rfl, fun j _ hj => va_up_ne _ _ hj, fun _ _ => rfl⟩
section
variable {z lim : Nat} {b : Nat → Nat} {ta ta1 m ta' m' m0 m1 m2 m3 m4 x y q bk bk' sc sc' : Obj} {k v v0 pl p p0 p1 c j T A B C : Nat} {l : List Nat} {n h L e t : Nat} {hp hm : Nat → Nat} {sr sr' : Nat → Bool} {S S' : Nat → Nat → Nat}
theorem live_loop (hB : sQB n h L e t hp hm) (hC : sQC n h L e t hp hm sr q) (hM : sQM n h L e t hp hm sr (m.1 2)) (hR : RC n h L hp sc (dOf m)) (hc : c ≤ 40) (h7 : bk.1 0 7 = nI c) (h35 : m.1 0 35 = nI c) (he : ∀ i, i < c → ent n h bk m i) (k0 : bk.1 0 0 = nI 0) (k1 : bk.1 0 1 = nI 0) (t0 : m.1 13 0 = nI 0) (t1 : m.1 13 1 = nI 0) :
    ∃ r r', iter (fBk_live_L12 q) FU (nI 0, bk, sc) = some r ∧ iter fMo_book_L111 FU (-nI 1, nI 0, m) = some r' ∧ ∃ w d, w < 100 ∧ d ≤ 40 ∧ r.1.1 0 0 = nI w ∧ r'.2.1 13 0 = nI w ∧ r.1.1 0 1 = nI d ∧ r'.2.1 13 1 = nI d ∧ r'.1 = (if w = 0 then -nI 1 else nI d) ∧ RC n h L hp r.2 (dOf r'.2) ∧ moL m r'.2 := by
  have b1 := hB.1
  refine iter2x (f := fBk_live_L12 q) (g := fMo_book_L111) (I := fun i a a' => a.1 = nI i ∧ a'.1 = -nI 1 ∧ a'.2.1 = nI i ∧ i ≤ c ∧ a.2.1.1 0 7 = nI c ∧ (∀ j, j ≠ 0 → a.2.1.1 j = bk.1 j) ∧ a.2.1.1 0 0 = nI 0 ∧ a.2.1.1 0 1 = nI i ∧ a'.2.2.1 13 0 = nI 0 ∧ a'.2.2.1 13 1 = nI i ∧ RC n h L hp a.2.2 (dOf a'.2.2) ∧ moL m a'.2.2)
    (E := fun r r' => ∃ w d, w < 100 ∧ d ≤ 40 ∧ r.1.1 0 0 = nI w ∧ r'.2.1 13 0 = nI w ∧ r.1.1 0 1 = nI d ∧ r'.2.1 13 1 = nI d ∧ r'.1 = (if w = 0 then -nI 1 else nI d) ∧ RC n h L hp r.2 (dOf r'.2) ∧ moL m r'.2) c (by omega) (a := (nI 0, bk, sc)) (a' := (-nI 1, nI 0, m)) ⟨rfl, rfl, rfl, by omega, h7, fun _ _ => rfl, k0, k1, t0, t1, hR, moL_refl m⟩ (fun i a a' hi hz => ?_) (fun a a' hz => ?_)
  · obtain ⟨ai, abk, asc⟩ := a
    obtain ⟨aw, ai', am⟩ := a'
    obtain ⟨z1, z2, z3, z4, z5, z6, z7, z8, z9, z10, z11, z12⟩ := hz
    simp only at z1 z2 z3 z4 z5 z6 z7 z8 z9 z10 z11 z12
    subst z1 z2 z3
    have a35 : am.1 0 35 = nI c := by rw [z12.2.1 0 (by omega) (by omega)]; exact h35
    have a4 : am.1 4 = m.1 4 := z12.2.1 4 (by omega) (by omega)
    have hM' : sQM n h L e t hp hm sr (am.1 2) := by
      obtain ⟨⟨c0, c1, c2, c3, c4⟩, c5, c6, c7⟩ := hM
      obtain ⟨-, b2, -⟩ := hB
      have f := z12.2.2
      refine ⟨⟨?_, ?_, ?_, ?_, ?_⟩, fun k hk => ?_, fun p hpn => ?_, ?_⟩
      · rw [f 0 (by omega)]; exact c0
      · rw [f 1 (by omega)]; exact c1
      · rw [f 2 (by omega)]; exact c2
      · rw [f 3 (by omega)]; exact c3
      · rw [f 4 (by omega)]; exact c4
      · rw [f (5 + k) (by omega)]; exact c5 k hk
      · rw [f (11 + p) (by omega)]; exact c6 p hpn
      · rw [f 35 (by omega)]; exact c7
    obtain ⟨A, B, C, e1, e2, e3, e4, e5, e6, e7⟩ := he i hi
    obtain ⟨w, sc', m', g1, g2, g3, g4, g5⟩ := live_line (C' := am.1 4 (3 * i + 2)) hB hC hM' z11 e1 (fun u v => by rw [a4]; exact e7 u v)
    have lC : fBk_live_L12 q (nI i, abk, asc) = if w = 0 then some (.inl (nI (i + 1), sI (sI abk 0 0 (nI w)) 0 1 (nI (i + 1)), sc')) else some (.inr (sI abk 0 0 (nI w), sc')) := by
      have f0 : (sI abk 0 0 (nI w)).1 0 0 = nI w := by rw [sI_1, if_pos ⟨rfl, rfl⟩]
      have f1 : (sI abk 0 0 (nI w)).1 0 1 = nI i := by rw [sI_1, if_neg (by omega)]; exact z8
      unfold fBk_live_L12
      simp only [lit, bnd]
      rw [z5, if_neg (by rw [nle (by omega) (by omega)]; omega), if_neg (by rw [nle (by omega) (by omega)]; omega), ix_nI (by omega) (by omega), Option.bind_some, Option.bind_some, Option.bind_some, z6 1 (by omega), z6 2 (by omega), z6 3 (by omega), e2, e3, e4, g2, Option.bind_some]
      simp only [f0, f1, nadd]
      by_cases hw : w = 0
      · rw [if_pos (by rw [hw]), if_pos hw]
      · rw [if_neg (by rw [neq (by omega) (by omega)]; exact hw), if_neg hw]
    have lM : fMo_book_L111 (-nI 1, nI i, am) = if w = 0 then some (.inl (-nI 1, nI (i + 1), sI (sI m' 13 0 (nI w)) 13 1 (nI (i + 1)))) else some (.inl (nI i, nI (i + 1), sI m' 13 0 (nI w))) := by
      have f0 : (sI m' 13 0 (nI w)).1 13 0 = nI w := by rw [sI_1, if_pos ⟨rfl, rfl⟩]
      have f1 : (sI m' 13 0 (nI w)).1 13 1 = nI i := by rw [sI_1, if_neg (by omega), mFr_1 g4 (by omega)]; exact z10
      unfold fMo_book_L111
      simp only [lit, bnd, nmul, nadd]
      rw [a35, if_neg (by rw [nle (by omega) (by omega)]; omega), if_neg (show ¬ nI 0 ≤ -nI 1 by decide +kernel), ix_nI (by omega) (by omega), Option.bind_some, ix_nI (by omega) (by omega), Option.bind_some, ix_nI (by omega) (by omega), Option.bind_some, show am.1 4 (3 * i) = nI A by rw [a4]; exact e5, show am.1 4 (3 * i + 1) = nI B by rw [a4]; exact e6, g3, Option.bind_some]
      simp only [f0, f1, nadd]
      by_cases hw : w = 0
      · rw [if_pos (by rw [nle (by omega) (by omega)]; omega), if_pos hw]
      · rw [if_neg (by rw [nle (by omega) (by omega)]; omega), if_neg hw]
    by_cases hw : w = 0
    · left
      rw [if_pos hw] at lC lM
      refine ⟨_, _, lC, lM, rfl, rfl, rfl, by omega, ?_, fun j hj => ?_, ?_, ?_, ?_, ?_, g5, moL_trans z12 (moL_trans (moL_fr g4) (moL_trans moL_13 moL_13))⟩
      · show abk.1 0 7 = _
        exact z5
      · show va_up (va_up abk.1 0 _) 0 _ j = _
        rw [va_up_ne _ _ hj, va_up_ne _ _ hj]; exact z6 j hj
      · rw [sI_1, if_neg (by omega), sI_1, if_pos ⟨rfl, rfl⟩, hw]
      · rw [sI_1, if_pos ⟨rfl, rfl⟩]
      · rw [sI_1, if_neg (by omega), sI_1, if_pos ⟨rfl, rfl⟩, hw]
      · rw [sI_1, if_pos ⟨rfl, rfl⟩]
    · right
      rw [if_neg hw] at lC lM
      have l2 : fMo_book_L111 (nI i, nI (i + 1), sI m' 13 0 (nI w)) = some (.inr (nI i, sI m' 13 0 (nI w))) := by
        unfold fMo_book_L111
        simp only [lit]
        rw [if_pos (show nI 0 ≤ nI i by rw [nle (by omega) (by omega)]; omega)]
        split <;> rfl
      refine ⟨_, _, iter_1 lC, iter_2 lM l2, w, i, g1, by omega, ?_, ?_, ?_, ?_, ?_, g5, moL_trans z12 (moL_trans (moL_fr g4) moL_13)⟩
      · rw [sI_1, if_pos ⟨rfl, rfl⟩]
      · rw [sI_1, if_pos ⟨rfl, rfl⟩]
      · rw [sI_1, if_neg (by omega)]; exact z8
      · rw [sI_1, if_neg (by omega), mFr_1 g4 (by omega)]; exact z10
      · rw [if_neg hw]
  · obtain ⟨ai, abk, asc⟩ := a
    obtain ⟨aw, ai', am⟩ := a'
    obtain ⟨z1, z2, z3, z4, z5, z6, z7, z8, z9, z10, z11, z12⟩ := hz
    simp only at z1 z2 z3 z4 z5 z6 z7 z8 z9 z10 z11 z12
    subst z1 z2 z3
    have a35 : am.1 0 35 = nI c := by rw [z12.2.1 0 (by omega) (by omega)]; exact h35
    refine ⟨(abk, asc), (-nI 1, am), iter_1 ?_, iter_1 ?_, 0, c, by omega, hc, z7, z9, z8, z10, rfl, z11, z12⟩
    · unfold fBk_live_L12
      rw [z5, if_pos (by rw [nle (by omega) (by omega)]; omega)]
    · unfold fMo_book_L111
      rw [a35, if_pos (by rw [nle (by omega) (by omega)]; omega)]
end
