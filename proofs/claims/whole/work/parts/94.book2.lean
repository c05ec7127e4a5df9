/-- the reference's look at a verb -/
noncomputable def bchain (m : Obj) (v1 x5 : Int32) : Option (Int32 × Obj) :=
  (fMo_isWord m (kw8 (kws.getD 13 []))).bind fun r7 => if r7 = nI 0 then (fMo_isWord m (kw8 (kws.getD 14 []))).bind fun r8 => if r8 = nI 0 then (fMo_isWord m (kw8 (kws.getD 15 []))).bind fun r9 => if r9 = nI 0 then (fMo_isWord m (kw8 (kws.getD 16 []))).bind fun r10 => if r10 = nI 0 then (fMo_isWord m (kw8 (kws.getD 5 []))).bind fun r11 => if r11 = nI 0 then fMo_bookLine_J168 m v1 x5 (-nI 1) else fMo_bookLine_J168 m v1 x5 (nI 4) else fMo_bookLine_J168 m v1 x5 (nI 3) else fMo_bookLine_J168 m v1 x5 (nI 2) else fMo_bookLine_J168 m v1 x5 (nI 1) else fMo_bookLine_J168 m v1 x5 (nI 0)
section
variable {z lim : Nat} {b : Nat → Nat} {ta ta1 m ta' m' m1 m2 m3 m4 x y q bk bk' : Obj} {k v v0 pl p p0 p1 c j : Nat} {l : List Nat} {n h L e t : Nat} {hp hm : Nat → Nat} {sr sr' : Nat → Bool} {S : Nat → Nat → Nat}
theorem bk_J168 (hn : fMo_next m2 = some m3) {A : Nat} (hA : A ≤ 4) (hc : c < 40) (h1 : m3.1 2 1 = nI n) (h0 : m3.1 2 0 = nI h) (hm4 : m4 = sI (sI m3 4 (3 * c) (nI A)) 4 (3 * c + 1) (nI j)) : fMo_bookLine_J168 m2 (nI (3 * c)) (nI j) (nI A) = if nI A = nI 2 then some (nI 1, m4) else if nI A = nI 3 then (fMo_looksAt m4 (nI 6) (nI n)).bind fun r17 => if r17.1 = nI 0 then some (nI 0, r17.2) else if r17.2.1 0 18 = nI j then (fMo_bad r17.2 (nI 3)).bind fun r18 => some (bz r18.1, r18.2) else (fMo_next (sI r17.2 4 (3 * c + 2) (r17.2.1 0 18))).bind fun r21 => some (nI 1, r21) else if nI A = nI 1 then (fMo_takesWay m4).bind fun r22 => some (bz r22.1, sI r22.2 4 (3 * c + 2) (r22.2.1 0 18)) else (fMo_takesName m4 (nI 0) (nI h)).bind fun r25 => some (bz r25.1, sI r25.2 4 (3 * c + 2) (r25.2.1 0 18)) := by
  have e1 : m4.1 2 1 = nI n := by rw [hm4]; exact h1
  have e0 : m4.1 2 0 = nI h := by rw [hm4]; exact h0
  unfold fMo_bookLine_J168
  simp only [lit, bnd, fMo_bookLine_J289]
  rw [if_pos (show nI 0 ≤ nI A by rw [nle (by omega) (by omega)]; omega), hn, Option.bind_some, nadd, nadd, ix_nI (show 3 * c < 135 by omega) (by omega), ix_nI (show 3 * c + 1 < 135 by omega) (by omega), ix_nI (show 3 * c + 2 < 135 by omega) (by omega)]
  simp only [Option.bind_some]
  rw [← hm4, e1, e0]
theorem j29_no (w : Int32) (h5 : ¬ w = nI 5) (h13 : ¬ w = nI 13) (h14 : ¬ w = nI 14) (h15 : ¬ w = nI 15) (h16 : ¬ w = nI 16) {v1 : Int32} : fBk_readAct_J29 q bk ta v1 w = (fTa_refuse ta (nI 1)).bind fun r11 => some (nI 0, bk, r11.2) := by
  unfold fBk_readAct_J29
  simp only [lit]
  rw [if_neg h5, if_neg h13, if_neg h14, if_neg h15, if_neg h16]
theorem ent_K {i : Nat} (he : ent n h bk m i) (h4 : m'.1 4 = m.1 4) : ent n h bk m' i := by
  obtain ⟨A, B, C, a1, a2, a3, a4, a5, a6, a7⟩ := he
  exact ⟨A, B, C, a1, a2, a3, a4, by rw [h4]; exact a5, by rw [h4]; exact a6, fun u w => by rw [h4]; exact a7 u w⟩
theorem act_line (hB : sQB n h L e t hp hm) (hC : sQC n h L e t hp hm sr q) (hM : sQM n h L e t hp hm sr (m2.1 2)) (hN : sQN n h q (m2.2 5)) (h7 : bk.1 0 7 = nI c) (hc : c < 40) (he : ∀ i, i < c → ent n h bk m2 i) (hj : j < n) (hl : lag z lim b p ta m2) :
    (∃ bk' ta' m', fBk_readAct q bk ta (nI j) = some (nI 1, bk', ta') ∧ bchain m2 (nI (3 * c)) (nI j) = some (nI 1, m') ∧ bkOK n h z lim b p c bk ta m2 bk' ta' m') ∨
    (∃ bk' ta' m', fBk_readAct q bk ta (nI j) = some (nI 0, bk', ta') ∧ bchain m2 (nI (3 * c)) (nI j) = some (nI 0, m') ∧ bkNO bk ta m2 bk' ta' m') := by
  have u1 : ¬ nI 1 = nI 0 := by decide +kernel
  obtain ⟨ta1, kk, vv, l1, pl1, p1, t1, t2, hs, t4, t5⟩ := hl
  have w13 := mo_isW hs (w := 13) (by omega)
  have w14 := mo_isW hs (w := 14) (by omega)
  have w15 := mo_isW hs (w := 15) (by omega)
  have w16 := mo_isW hs (w := 16) (by omega)
  have w5 := mo_isW hs (w := 5) (by omega)
  obtain ⟨-, ⟨s1, -, -, -, s5⟩, -⟩ := id hs
  have lM : bchain m2 (nI (3 * c)) (nI j) = if kk = 1 ∧ vv = 13 then fMo_bookLine_J168 m2 (nI (3 * c)) (nI j) (nI 0) else if kk = 1 ∧ vv = 14 then fMo_bookLine_J168 m2 (nI (3 * c)) (nI j) (nI 1) else if kk = 1 ∧ vv = 15 then fMo_bookLine_J168 m2 (nI (3 * c)) (nI j) (nI 2) else if kk = 1 ∧ vv = 16 then fMo_bookLine_J168 m2 (nI (3 * c)) (nI j) (nI 3) else if kk = 1 ∧ vv = 5 then fMo_bookLine_J168 m2 (nI (3 * c)) (nI j) (nI 4) else fMo_bookLine_J168 m2 (nI (3 * c)) (nI j) (-nI 1) := by
    have io : ∀ {c : Prop} [Decidable c] {α : Type} (a b : α), (if nI (if c then 1 else 0) = nI 0 then a else b) = if c then b else a := fun {c} _ α a b => by
      by_cases hc : c
      · rw [if_pos hc, if_pos hc, if_neg u1]
      · rw [if_neg hc, if_neg hc, if_pos rfl]
    unfold bchain
    rw [w13, w14, w15, w16, w5]
    simp only [Option.bind_some, io]
  have lC : fBk_readAct q bk ta (nI j) = if kk = 1 then fBk_readAct_J29 q bk ta1 (nI j) (ta1.1 0 5) else fBk_readAct_J29 q bk ta1 (nI j) (-nI 1) := by
    unfold fBk_readAct
    simp only [lit]
    rw [t1, Option.bind_some, s1]
    by_cases hk : kk = 1
    · rw [if_pos (by rw [hk]), if_pos hk]
    · rw [if_neg (by rw [neq (by omega) (by omega)]; exact hk), if_neg hk]
  have no : ∀ w : Int32, fBk_readAct q bk ta (nI j) = fBk_readAct_J29 q bk ta1 (nI j) w → ¬ w = nI 5 → ¬ w = nI 13 → ¬ w = nI 14 → ¬ w = nI 15 → ¬ w = nI 16 → bchain m2 (nI (3 * c)) (nI j) = fMo_bookLine_J168 m2 (nI (3 * c)) (nI j) (-nI 1) → (∃ bk' ta' m', fBk_readAct q bk ta (nI j) = some (nI 0, bk', ta') ∧ bchain m2 (nI (3 * c)) (nI j) = some (nI 0, m') ∧ bkNO bk ta m2 bk' ta' m') := fun w h1 a5 a13 a14 a15 a16 h2 => by
    obtain ⟨ta', m', f1, f2, f3, f4, f5⟩ := bad2 hs (nI 1)
    refine ⟨bk, ta', m', ?_, ?_, f3, taB_trans (taB_F t2) f4, moK_B f5, bkF_refl⟩
    · rw [h1, j29_no w a5 a13 a14 a15 a16, f1]; rfl
    · rw [h2]
      unfold fMo_bookLine_J168
      simp only [lit]
      rw [if_neg (show ¬ nI 0 ≤ -nI 1 by decide +kernel), f2]
      simp only [Option.bind_some, bz_0]
  by_cases hk : kk = 1
  · subst hk
    obtain ⟨-, a1, a2, -⟩ : (1 = 1 ∧ vv < 29 ∧ ta1.1 0 5 = nI vv ∧ m2.1 0 11 = nI 1 ∧ m2.2 0 17 = kw8 (kws.getD vv [])) := by
      rcases s5 with t | t | t | t | t | t
      · exact absurd t.1 (by decide)
      · exact t
      · exact absurd t.1 (by decide)
      · exact absurd t.1 (by decide)
      · exact absurd t.1 (by decide)
      · exact absurd t.1 (by decide)
    rw [if_pos rfl, a2] at lC
    simp only [true_and] at lM
    have hp1 := t4 (by decide) (by decide)
    have yes : ∀ A, A ≤ 4 → nI vv = nI (vrb A) → bchain m2 (nI (3 * c)) (nI j) = fMo_bookLine_J168 m2 (nI (3 * c)) (nI j) (nI A) → (∃ bk' ta' m', fBk_readAct q bk ta (nI j) = some (nI 1, bk', ta') ∧ bchain m2 (nI (3 * c)) (nI j) = some (nI 1, m') ∧ bkOK n h z lim b p c bk ta m2 bk' ta' m') ∨ (∃ bk' ta' m', fBk_readAct q bk ta (nI j) = some (nI 0, bk', ta') ∧ bchain m2 (nI (3 * c)) (nI j) = some (nI 0, m') ∧ bkNO bk ta m2 bk' ta' m') := fun A hA hv hch => by
      obtain ⟨m3, y1, y2, y3⟩ := syn_lag hs (by decide)
      have m32 : m3.1 2 = m2.1 2 := y2.1 2 (by omega)
      have m34 : m3.1 4 = m2.1 4 := y2.1 4 (by omega)
      have m35 : m3.2 5 = m2.2 5 := y2.2.2 5 (by omega)
      obtain ⟨m4, hm4⟩ : ∃ m4, m4 = sI (sI m3 4 (3 * c) (nI A)) 4 (3 * c + 1) (nI j) := ⟨_, rfl⟩
      rw [bk_J168 (n := n) (h := h) y1 hA hc (by rw [m32]; exact hM.1.2.1) (by rw [m32]; exact hM.1.1) hm4] at hch
      have q4 : moK m2 m4 := by rw [hm4]; exact moK_trans (moK_F y2) (moK_trans moK_4 moK_4)
      have l4 : lag z lim b p1 ta1 m4 := by rw [hm4]; exact lag_4 (lag_4 y3)
      have c15 : m4.1 0 15 = m2.1 0 15 := by
        rw [hm4]
        show m3.1 0 15 = _
        rw [y2.2.1 15 (by omega) (by omega)]
      have h4o : ∀ i, i < 3 * c → m4.1 4 i = m2.1 4 i := fun i hi => by rw [hm4, sI_1, if_neg (by omega), sI_1, if_neg (by omega), m34]
      have he4 : ∀ i, i < c → ent n h bk m4 i := fun i hi => by
        obtain ⟨A', B', C', b1, b2, b3, b4, b5, b6, b7⟩ := he i hi
        exact ⟨A', B', C', b1, b2, b3, b4, by rw [h4o _ (by omega)]; exact b5, by rw [h4o _ (by omega)]; exact b6, fun u w => by rw [h4o _ (by omega)]; exact b7 u w⟩
      have hr := act_rest (m4 := m4) (ta1 := ta1) (bk := bk) (A := A) (j := j) (c := c) hB hC (by rw [q4.1 2 (by omega) (by omega)]; exact hM) (by rw [q4.2.1 5 (by omega)]; exact hN) h7 hc he4 hj hA (by rw [hm4, sI_1, if_neg (by omega), sI_1, if_pos ⟨rfl, rfl⟩]) (by rw [hm4, sI_1, if_pos ⟨rfl, rfl⟩]) l4
      rw [← hv, ← lC, ← hch] at hr
      rcases hr with ⟨bk', ta', m', r1, r2, r3, r4, r5, r6, r7, r8, r9, r10, r11⟩ | ⟨bk', ta', m', r1, r2, r3, r4, r5, r6⟩
      · left
        exact ⟨bk', ta', m', r1, r2, r3, r4, r5, lag_le r6 (by omega), taB_trans (taB_F t2) r7, moK_trans q4 r8, r9, r10.trans (t2.2.1 2 (by omega) (by omega) (by omega) (by omega)), r11.trans c15⟩
      · right
        exact ⟨bk', ta', m', r1, r2, r3, taB_trans (taB_F t2) r4, moK_trans q4 r5, r6⟩
    by_cases h13 : vv = 13
    · rw [if_pos h13] at lM
      exact yes 0 (by omega) (by rw [h13]; rfl) lM
    rw [if_neg h13] at lM
    by_cases h14 : vv = 14
    · rw [if_pos h14] at lM
      exact yes 1 (by omega) (by rw [h14]; rfl) lM
    rw [if_neg h14] at lM
    by_cases h15 : vv = 15
    · rw [if_pos h15] at lM
      exact yes 2 (by omega) (by rw [h15]; rfl) lM
    rw [if_neg h15] at lM
    by_cases h16 : vv = 16
    · rw [if_pos h16] at lM
      exact yes 3 (by omega) (by rw [h16]; rfl) lM
    rw [if_neg h16] at lM
    by_cases h5 : vv = 5
    · rw [if_pos h5] at lM
      exact yes 4 (by omega) (by rw [h5]; rfl) lM
    rw [if_neg h5] at lM
    have ne : ∀ w, w < 29 → vv ≠ w → ¬ nI vv = nI w := fun w hw hne => by rw [neq (by omega) (by omega)]; exact hne
    exact Or.inr (no (nI vv) lC (ne 5 (by omega) h5) (ne 13 (by omega) h13) (ne 14 (by omega) h14) (ne 15 (by omega) h15) (ne 16 (by omega) h16) lM)
  · have nk : ∀ w, ¬ (kk = 1 ∧ vv = w) := fun w u => hk u.1
    rw [if_neg hk] at lC
    rw [if_neg (nk _), if_neg (nk _), if_neg (nk _), if_neg (nk _), if_neg (nk _)] at lM
    exact Or.inr (no (-nI 1) lC (by decide +kernel) (by decide +kernel) (by decide +kernel) (by decide +kernel) (by decide +kernel) lM)
theorem book_line (hB : sQB n h L e t hp hm) (hC : sQC n h L e t hp hm sr q) (hM : sQM n h L e t hp hm sr (m.1 2)) (hN : sQN n h q (m.2 5)) (hs : syn z lim b k v l pl p ta m) (h7 : bk.1 0 7 = nI c) (h35 : m.1 0 35 = nI c) (hc : c ≤ 40) (he : ∀ i, i < c → ent n h bk m i) :
    (∃ bk' ta' m', fBk_readLine q bk ta = some (nI 1, bk', ta') ∧ fMo_bookLine m = some (nI 1, m') ∧ k ≠ 0 ∧ k ≠ 5 ∧ bkOK n h z lim b p c bk ta m bk' ta' m') ∨
    (∃ bk' ta' m', fBk_readLine q bk ta = some (nI 0, bk', ta') ∧ fMo_bookLine m = some (nI 0, m') ∧ bkNO bk ta m bk' ta' m') := by
  have u1 : ¬ nI 1 = nI 0 := by decide +kernel
  obtain ⟨b1, b2, b3, b4, b5, b6, b7, b8, b9⟩ := id hB
  have c4 := hC.1.2.2.2.2
  have d1 := hM.1.2.1
  have wC := ta_isW hs (w := 17) (by omega)
  have wM := mo_isW hs (w := 17) (by omega)
  have lC : fBk_readLine q bk ta = (fTa_isWord ta (nI 17)).bind fun r1 => if r1 = nI 0 then (fTa_personHere q ta).bind fun r2 => fBk_readLine_J29 q bk r2.2 r1 r2.1 else fBk_readLine_J29 q bk ta r1 (-nI 1) := rfl
  have lM : fMo_bookLine m = (fMo_isWord m (kw8 (kws.getD 17 []))).bind fun r2 => if r2 = nI 0 then (fMo_looksAt m (nI 6) (nI n)).bind fun r3 => if r3.1 = nI 0 then some (nI 0, r3.2) else fMo_bookLine_J36 r3.2 (nI (3 * c)) r2 else fMo_bookLine_J36 m (nI (3 * c)) r2 := by
    have e17 : (1953063787 : Int64) = kw8 (kws.getD 17 []) := by decide +kernel
    unfold fMo_bookLine
    rw [e17]
    simp only [lit, bnd]
    rw [h35, nmul, d1]
  have j41 : ∀ (tt : Obj) (v1 v2 : Int32), fBk_readLine_J41 q bk tt v1 v2 = if c < 40 then (if v1 = nI 0 then (fBk_readAct q bk tt v2).bind fun r3 => some (bz r3.1, r3.2.1, r3.2.2) else (fBk_readTicks bk tt).bind fun r4 => some (bz r4.1, r4.2.1, r4.2.2)) else (fTa_refuse tt (nI 4)).bind fun r5 => some (nI 0, bk, r5.2) := fun tt v1 v2 => by
    unfold fBk_readLine_J41
    simp only [lit]
    rw [h7]
    by_cases hc40 : c < 40
    · rw [if_pos (by rw [nlt (by omega) (by omega)]; exact hc40), if_pos hc40]
    · rw [if_neg (by rw [nlt (by omega) (by omega)]; exact hc40), if_neg hc40]
  have j36 : ∀ (mm : Obj) (v2 : Int32), mm.1 0 35 = nI c → fMo_bookLine_J36 mm (nI (3 * c)) v2 = if c < 40 then (fMo_next mm).bind fun r6 => (if v2 = nI 0 then bchain r6 (nI (3 * c)) (mm.1 0 18) else (fMo_takes (sI r6 4 (3 * c) (nI 5)) (nI 1) (nI 60)).bind fun r29 => if r29.1 = nI 0 then some (nI 0, r29.2) else some (nI 1, sI r29.2 4 (3 * c + 1) (r29.2.1 0 18))) else (fMo_bad mm (nI 4)).bind fun r4 => some (bz r4.1, r4.2) := fun mm v2 hmm => by
    have e13 : (118122059361139 : Int64) = kw8 (kws.getD 13 []) := by decide +kernel
    have e14 : (1735353715 : Int64) = kw8 (kws.getD 14 []) := by decide +kernel
    have e15 : (487301149811 : Int64) = kw8 (kws.getD 15 []) := by decide +kernel
    have e16 : (469852583027 : Int64) = kw8 (kws.getD 16 []) := by decide +kernel
    have e5 : (426836257907 : Int64) = kw8 (kws.getD 5 []) := by decide +kernel
    unfold fMo_bookLine_J36
    rw [e13, e14, e15, e16, e5]
    simp only [lit, bnd]
    rw [hmm]
    by_cases hc40 : c < 40
    · rw [if_neg (by rw [neq (by omega) (by omega)]; omega), if_pos hc40, nadd, ix_nI (show 3 * c < 135 by omega) (by omega), ix_nI (show 3 * c + 1 < 135 by omega) (by omega)]
      rfl
    · rw [if_pos (by rw [show c = 40 by omega]), if_neg hc40]
  rw [wC, Option.bind_some] at lC
  rw [wM, Option.bind_some] at lM
  by_cases htk : k = 1 ∧ v = 17
  · rw [if_pos htk, if_neg u1] at lC lM
    have j29 : fBk_readLine_J29 q bk ta (nI 1) (-nI 1) = fBk_readLine_J41 q bk ta (nI 1) (-nI 1) := by
      show (if nI 1 = nI 0 then _ else _) = _
      rw [if_neg u1]
    rw [j29, j41] at lC
    rw [j36 m (nI 1) h35] at lM
    by_cases hc40 : c < 40
    · rw [if_pos hc40, if_neg u1] at lC
      rw [if_pos hc40] at lM
      obtain ⟨m2, y1, y2, y3⟩ := syn_lag hs (by omega)
      rw [y1, Option.bind_some, if_neg u1] at lM
      have l2 : lag z lim b p ta (sI m2 4 (3 * c) (nI 5)) := lag_4 y3
      rcases num_both (lo := 1) (hi := 60) (by omega) (by omega) l2 with ⟨vv, ta', m3, p3, g1, g2, g3, g4, g5, g6, g7, g8, g9, g10, g11⟩ | ⟨ta', m3, g1, g2, g3, g4, g5⟩
      · left
        rw [g2, Option.bind_some, if_neg u1] at lM
        simp only at lM
        rw [g5] at lM
        have m34 : m3.1 4 = (sI m2 4 (3 * c) (nI 5)).1 4 := g9.1 4 (by omega)
        refine ⟨sI (sI (sI (sI bk 1 c (nI (vrb 5))) 2 c (nI vv)) 3 c (nI 0)) 0 7 (nI (c + 1)), ta', sI m3 4 (3 * c + 1) (nI vv), ?_, lM, by omega, by omega, rfl, ?_, hc40, lag_4 (lag_le g6 (by omega)), g8, moK_trans (moK_F y2) (moK_trans moK_4 (moK_trans (moK_B g9) moK_4)), bkF_add, g10, ?_⟩
        · have lT : fBk_readTicks bk ta = (fTa_takeNumber ta (nI 1) (nI 60)).bind fun r1 => (fBk_add bk (nI (vrb 5)) r1.1 (nI 0)).bind fun r2 => if r1.1 = -nI 1 then some (nI 0, r2, r1.2) else some (nI 1, r2, r1.2) := rfl
          rw [lC, lT, g1, Option.bind_some, bk_add h7 hc40, Option.bind_some, if_neg (nI_ne_m1' (by omega)), Option.bind_some, bz_1]
        · refine ents_add he (Or.inr (Or.inr (Or.inr (Or.inr (Or.inr ⟨rfl, g3, g4, rfl⟩))))) (fun x hx => ?_) ?_ ?_ (fun _ w => absurd rfl w)
          · rw [sI_1, if_neg (by omega), m34, sI_1, if_neg (by omega), y2.1 4 (by omega)]
          · rw [sI_1, if_neg (by omega), m34, sI_1, if_pos ⟨rfl, rfl⟩]
          · rw [sI_1, if_pos ⟨rfl, rfl⟩]
        · show m3.1 0 15 = _
          rw [g11]
          show m2.1 0 15 = _
          rw [y2.2.1 15 (by omega) (by omega)]
      · right
        rw [g2, Option.bind_some, if_pos rfl] at lM
        refine ⟨sI (sI (sI (sI bk 1 c (nI (vrb 5))) 2 c (-nI 1)) 3 c (nI 0)) 0 7 (nI (c + 1)), ta', m3, ?_, lM, g3, g4, moK_trans (moK_F y2) (moK_trans moK_4 (moK_B g5)), bkF_add⟩
        have lT : fBk_readTicks bk ta = (fTa_takeNumber ta (nI 1) (nI 60)).bind fun r1 => (fBk_add bk (nI (vrb 5)) r1.1 (nI 0)).bind fun r2 => if r1.1 = -nI 1 then some (nI 0, r2, r1.2) else some (nI 1, r2, r1.2) := rfl
        rw [lC, lT, g1, Option.bind_some, bk_add h7 hc40, Option.bind_some, if_pos rfl, Option.bind_some, bz_0]
    · right
      rw [if_neg hc40] at lC lM
      obtain ⟨ta', m', f1, f2, f3, f4, f5⟩ := bad2 hs (nI 4)
      refine ⟨bk, ta', m', ?_, ?_, f3, f4, moK_B f5, bkF_refl⟩
      · rw [lC, f1]; rfl
      · rw [lM, f2]
        simp only [Option.bind_some, bz_0]
  · rw [if_neg htk, if_pos rfl] at lC lM
    rcases pe_here (c := n) (base := 6) (by omega) (by omega) c4 (fun i hi => hN.2 i hi) hs with ⟨j, k1, k2, k3, k4⟩ | ⟨ta', m', f1, f2, f3, f4, f5⟩
    · subst k2
      rw [k3, Option.bind_some] at lC
      rw [k4, Option.bind_some, if_neg u1] at lM
      have j29 : fBk_readLine_J29 q bk ta (nI 0) (nI j) = fBk_readLine_J41 q bk ta (nI 0) (nI j) := by
        show (if nI 0 = nI 0 then (if nI j = -nI 1 then _ else _) else _) = _
        rw [if_pos rfl, if_neg (nI_ne_m1' (by omega))]
      have e18 : (sI m 0 18 (nI j)).1 0 18 = nI j := by rw [sI_1, if_pos ⟨rfl, rfl⟩]
      simp only at lC lM
      rw [j29, j41] at lC
      rw [j36 (sI m 0 18 (nI j)) (nI 0) h35] at lM
      have hs18 : syn z lim b 2 v l pl p ta (sI m 0 18 (nI j)) := hs
      by_cases hc40 : c < 40
      · rw [if_pos hc40, if_pos rfl] at lC
        rw [if_pos hc40] at lM
        obtain ⟨m2, y1, y2, y3⟩ := syn_lag hs18 (by decide)
        rw [y1, Option.bind_some, if_pos rfl, e18] at lM
        have m22 : m2.1 2 = m.1 2 := by rw [y2.1 2 (by omega)]; rfl
        have m24 : m2.1 4 = m.1 4 := by rw [y2.1 4 (by omega)]; rfl
        have m25 : m2.2 5 = m.2 5 := by rw [y2.2.2 5 (by omega)]; rfl
        rcases act_line (m2 := m2) (j := j) hB hC (by rw [m22]; exact hM) (by rw [m25]; exact hN) h7 hc40 (fun i hi => ent_K (he i hi) m24) k1 y3 with ⟨bk', ta', m', r1, r2, r3, r4, r5, r6, r7, r8, r9, r10, r11⟩ | ⟨bk', ta', m', r1, r2, r3, r4, r5, r6⟩
        · left
          refine ⟨bk', ta', m', by rw [lC, r1, Option.bind_some, bz_1], lM.trans r2, by decide, by decide, r3, r4, r5, r6, r7, moK_trans moK_18 (moK_trans (moK_F y2) r8), r9, r10, ?_⟩
          rw [r11, y2.2.1 15 (by omega) (by omega)]; rfl
        · right
          exact ⟨bk', ta', m', by rw [lC, r1, Option.bind_some, bz_0], lM.trans r2, r3, r4, moK_trans moK_18 (moK_trans (moK_F y2) r5), r6⟩
      · right
        rw [if_neg hc40] at lC lM
        obtain ⟨ta', m', f1, f2, f3, f4, f5⟩ := bad2 hs18 (nI 4)
        refine ⟨bk, ta', m', ?_, ?_, f3, f4, moK_trans moK_18 (moK_B f5), bkF_refl⟩
        · rw [lC, f1]; rfl
        · rw [lM, f2]
          simp only [Option.bind_some, bz_0]
    · right
      rw [f1, Option.bind_some] at lC
      rw [f2, Option.bind_some, if_pos rfl] at lM
      refine ⟨bk, ta', m', ?_, lM, f3, f4, moK_B f5, bkF_refl⟩
      rw [lC]
      show (if nI 0 = nI 0 then (if -nI 1 = -nI 1 then _ else _) else _) = _
      rw [if_pos rfl, if_pos rfl]
      rfl
end
