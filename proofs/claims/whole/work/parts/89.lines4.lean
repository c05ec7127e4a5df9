section
variable {z lim : Nat} {b : Nat → Nat} {ta ta1 m ta' m' m1 x y q q' qr qr' sc sc' : Obj} {k v v0 pl p p0 : Nat} {l : List Nat} {n h L e t : Nat} {hp hm : Nat → Nat} {sr sr' : Nat → Bool} {S : Nat → Nat → Nat} {fa fb fc : Bool}
theorem dR_knows (hd : dR n h L e t hp hm sr S fa fb fc q qr sc m) {j i : Nat} (hj : j < n) (hi : i < n) (hne : j ≠ i) (hS' : sSC n (mkK S j (2 ^ i)) sc') (h3 : ∀ x, x ≠ 36 + j → x ≠ 36 + i → m1.1 3 x = m.1 3 x) (k1 : m1.1 3 (36 + j) = nI (S 8 j ||| 2 ^ i)) (k2 : m1.1 3 (36 + i) = nI (S 8 i ||| 2 ^ j)) (h5 : m1.2 5 = m.2 5) (h20 : m1.1 0 20 = m.1 0 20) : dR n h L e t hp hm sr (mkK S j (2 ^ i)) fa fb fc q qr sc' m1 := by
  obtain ⟨hB, hC, ⟨⟨d0, d1, d2, d3, d4⟩, d5, d6, d7⟩, hN, ⟨s1, s2, s3, s4, s5, s6, s7, s8, s9⟩, r3, r4, r5, r20⟩ := hd
  obtain ⟨b1, b2, b3, b4, b5, b6, b7, b8, b9⟩ := id hB
  have ej : ∀ a c, a ≠ 8 → mkK S j (2 ^ i) a c = S a c := fun a c ha => by rw [mkK_at, if_neg ha]
  have hc := s1.1.2
  refine ⟨hB, hC, ⟨⟨?_, ?_, ?_, ?_, ?_⟩, fun k hk => ?_, fun p hpn => ?_, ?_⟩, ?_, ⟨sSV_doM hB s1 hj hi hne, ?_, ?_, ?_, hS', fun p hpn => ?_, fun p h1 h2 => ?_, ?_, fun k hk => ?_⟩, r3, r4, r5, ?_⟩
  · rw [h3 0 (by omega) (by omega)]; exact d0
  · rw [h3 1 (by omega) (by omega)]; exact d1
  · rw [h3 2 (by omega) (by omega)]; exact d2
  · rw [h3 3 (by omega) (by omega)]; exact d3
  · rw [h3 4 (by omega) (by omega)]; exact d4
  · rw [h3 (5 + k) (by omega) (by omega)]; exact d5 k hk
  · rw [h3 (11 + p) (by omega) (by omega)]; exact d6 p hpn
  · rw [h3 35 (by omega) (by omega)]; exact d7
  · rw [h5]; exact hN
  · rw [ej 0 0 (by omega)]; exact s2
  · rw [ej 0 1 (by omega)]; exact s3
  · rw [ej 0 2 (by omega)]; exact s4
  · obtain ⟨w1, w2, w3, w4, w5, w6, w7, w8⟩ := s6 p hpn
    rw [ej 3 p (by omega), ej 4 p (by omega), ej 5 p (by omega), ej 6 p (by omega), ej 7 p (by omega), ej 9 p (by omega), ej 10 p (by omega), h3 (19 + p) (by omega) (by omega), h3 (27 + p) (by omega) (by omega)]
    refine ⟨w1, w2, w3, w4, w5, w6, w7, ?_⟩
    rw [mkK_at, if_pos rfl, Nat.testBit_two_pow]
    by_cases hpj : p = j
    · subst hpj
      rw [k1, if_pos rfl, decide_eq_false (by omega), if_neg (by decide), Nat.or_zero]
    · rw [if_neg hpj, Nat.or_zero]
      by_cases hpi : p = i
      · subst hpi
        rw [k2, decide_eq_true rfl, if_pos rfl]
      · rw [decide_eq_false (by omega), if_neg (by decide), Nat.or_zero, h3 (36 + p) (by omega) (by omega)]; exact w8
  · rw [h3 (36 + p) (by omega) (by omega)]; exact s7 p h1 h2
  · rw [ej 0 3 (by omega), h3 44 (by omega) (by omega)]; exact s8
  · rw [ej 0 3 (by omega)] at hk
    rw [ej 1 k (by omega), ej 2 k (by omega), h3 (45 + k) (by omega) (by omega), h3 (57 + k) (by omega) (by omega)]; exact s9 k hk
  · rw [h20]; exact r20
theorem knows_line (hd : dR n h L e t hp hm sr S fa fb fc q qr sc m) (hs : syn z lim b 1 v0 l pl p ta m) : (∃ ta' sc' m', fQr_readKnows q ta sc = some (nI 1, ta', sc') ∧ fMo_readKnows m = some (nI 1, m') ∧ lnOK z lim b p ta m q qr ta' sc' m') ∨ (∃ ta' sc' m', fQr_readKnows q ta sc = some (nI 0, ta', sc') ∧ fMo_readKnows m = some (nI 0, m') ∧ lnNO ta m ta' m') := by
  have u1 : ¬ nI 1 = nI 0 := by decide +kernel
  obtain ⟨hB, hC, hM, hN, ⟨s1, s2, s3, s4, s5, s6, s7, s8, s9⟩, r3, r4, r5, r20⟩ := id hd
  obtain ⟨b1, b2, b3, b4, b5, b6, b7, b8, b9⟩ := id hB
  have c4 := hC.1.2.2.2.2
  have d1 := hM.1.2.1
  obtain ⟨m1, g1, g2, g3⟩ := syn_lag hs (by decide)
  have nm : ∀ mm : Obj, mm.2 5 = m.2 5 → ∀ j, j < n → nmR (q.2 6 j) (mm.2 5 (20 + j)) := fun mm hmm j hj => by
    have this : nmR (q.2 6 j) (m.2 5 (14 + (6 + j))) := hN.2 j hj
    rw [show 14 + (6 + j) = 20 + j by omega, ← hmm] at this
    exact this
  have m13 : m1.1 3 = m.1 3 := g2.1 3 (by omega)
  have m15 : m1.2 5 = m.2 5 := g2.2.2 5 (by omega)
  have lT : ∀ mm : Obj, fMo_takesName mm (nI 20) (nI n) = (fMo_looksAt mm (nI 20) (nI n)).bind fun r1 => if r1.1 = nI 0 then some (nI 0, r1.2) else (fMo_next r1.2).bind fun r2 => some (nI 1, r2) := fun mm => rfl
  have lM : fMo_readKnows m = (fMo_takesName m1 (nI 20) (nI n)).bind fun r2 => if r2.1 = nI 0 then some (nI 0, r2.2) else (fMo_looksAt r2.2 (nI 20) (r2.2.1 3 1)).bind fun r4 => if r4.1 = nI 0 then some (nI 0, r4.2) else if r4.2.1 0 18 = r2.2.1 0 18 then fMo_readKnows_J70 r4.2 else (ix 69 (nI 36 + r2.2.1 0 18)).bind fun i6 => (fMo_bitOf (r4.2.1 3 i6) (r4.2.1 0 18)).bind fun r7 => if r7 = nI 0 then (fMo_knowsIn_3 r4.2 (nI 36) (r2.2.1 0 18) (r4.2.1 0 18)).bind fun r8 => (fMo_next r8).bind fun r9 => some (nI 1, r9) else fMo_readKnows_J70 r4.2 := by
    unfold fMo_readKnows
    simp only [lit, bnd]
    rw [g1, Option.bind_some, m13, d1]
  have lC : fQr_readKnows q ta sc = (fTa_takePerson q ta).bind fun r1 => if r1.1 = -nI 1 then fQr_readKnows_J32 q r1.2 sc r1.1 (-nI 1) else (fTa_takePerson q r1.2).bind fun r4 => fQr_readKnows_J32 q r4.2 sc r1.1 r4.1 := rfl
  have jno : ∀ (tt : Obj) (w : Int32), fQr_readKnows_J32 q tt sc w (-nI 1) = some (nI 0, tt, sc) := fun tt w => by
    show (if -nI 1 = -nI 1 then _ else _) = _
    rw [if_pos rfl]
    rfl
  rw [lT] at lM
  rcases pe_take (c := n) (base := 20) (by omega) (by omega) c4 (nm m1 m15) g3 with ⟨j, v1, l1, pl1, p1, ta1, j1, j2, j3, j4, j5, j6⟩ | ⟨ta1, m2, j1, j2, j3, j4, j5⟩
  · rw [j2, Option.bind_some, if_neg (nI_ne_m1' (by omega))] at lC
    obtain ⟨m2, y1, y2, y3⟩ := syn_lag j4 (by decide)
    rw [j3, Option.bind_some, if_neg u1, y1, Option.bind_some, Option.bind_some, if_neg u1] at lM
    simp only at lM lC
    have m23 : m2.1 3 = m.1 3 := by rw [y2.1 3 (by omega)]; exact m13
    have m25 : m2.2 5 = m.2 5 := by rw [y2.2.2 5 (by omega)]; exact m15
    have m218 : m2.1 0 18 = nI j := by rw [y2.2.1 18 (by omega) (by omega), sI_1, if_pos ⟨rfl, rfl⟩]
    rw [m218, m23, d1] at lM
    have qa : moQ m m2 := moQ_trans (moQ_F g2) (moQ_trans (moQ_0 (by omega)) (moQ_F y2))
    rcases pe_take (c := n) (base := 20) (by omega) (by omega) c4 (nm m2 m25) y3 with ⟨i, v2, l2, pl2, p2, ta2, i1, i2, i3, i4, i5, i6⟩ | ⟨ta2, m3, i1, i2, i3, i4, i5⟩
    · rw [i2, Option.bind_some] at lC
      rw [i3, Option.bind_some, if_neg u1] at lM
      simp only at lM lC
      have e18 : (sI m2 0 18 (nI i)).1 0 18 = nI i := by rw [sI_1, if_pos ⟨rfl, rfl⟩]
      rw [e18] at lM
      have bad3 : ∃ ta' m', fQr_refuse ta2 (nI 3) = some (nI 0, ta') ∧ fMo_readKnows_J70 (sI m2 0 18 (nI i)) = some (nI 0, m') ∧ lnNO ta m ta' m' := by
        obtain ⟨ta', m', f1, f2, f3, f4, f5⟩ := refuse_q i4 3
        refine ⟨ta', m', f1, ?_, f3, taB_trans (taB_F j6) (taB_trans (taB_F i6) f4), moQ_trans qa (moQ_trans (moQ_0 (by omega)) f5)⟩
        unfold fMo_readKnows_J70
        simp only [lit]
        rw [f2]
        simp only [Option.bind_some, bz_0]
      have lJ : fQr_readKnows_J32 q ta2 sc (nI j) (nI i) = (fSc_tryMeet q sc (nI j) (nI i)).bind fun r2 => if r2.1 = nI 0 then some (nI 1, ta2, r2.2) else (fQr_refuse ta2 (nI 3)).bind fun r3 => if r3.1 = nI 0 then some (nI 0, r3.2, r2.2) else some (nI 1, r3.2, r2.2) := by
        unfold fQr_readKnows_J32
        simp only [lit]
        rw [if_neg (nI_ne_m1' (by omega))]
      rw [lJ] at lC
      by_cases hij : i = j
      · subst hij
        right
        obtain ⟨ta', m', f1, f2, f3⟩ := bad3
        have ht : fSc_tryMeet q sc (nI i) (nI i) = some (-nI 1, sc) := by
          show (if nI i = nI i then _ else _) = _
          rw [if_pos rfl]
          rfl
        rw [ht, Option.bind_some, if_neg (show ¬ -nI 1 = nI 0 by decide +kernel), f1, Option.bind_some, if_pos rfl] at lC
        rw [if_pos rfl, f2] at lM
        exact ⟨ta', sc, m', lC, lM, f3⟩
      · obtain ⟨sc', x1, x2⟩ := sc_tryM hB hC s1 s5 (p := j) (x := i) (by omega) (by omega) (by omega)
        have k36 : (sI m2 0 18 (nI i)).1 3 (36 + j) = nI (S 8 j) := by
          show m2.1 3 (36 + j) = _
          rw [m23]; exact (s6 j (by omega)).2.2.2.2.2.2.2
        have k36i : (sI m2 0 18 (nI i)).1 3 (36 + i) = nI (S 8 i) := by
          show m2.1 3 (36 + i) = _
          rw [m23]; exact (s6 i (by omega)).2.2.2.2.2.2.2
        have h256 := (s1.2.2.1 j (by omega)).1.2.2.2.2.2.1
        rw [x1, Option.bind_some] at lC
        rw [if_neg (by rw [neq (by omega) (by omega)]; exact hij), nadd, ix_nI (by omega) (by omega), Option.bind_some, k36, bitOf_n (by omega) (by omega), Option.bind_some] at lM
        cases hb : (S 8 j).testBit i
        · left
          rw [hb] at lC lM x2
          rw [if_neg (show ¬ false = true by decide), if_pos rfl] at lC lM
          rw [if_neg (by decide)] at x2
          have e1 : fMo_knowsIn_3 (sI m2 0 18 (nI i)) (nI 36) (nI j) (nI i) = some (sI (sI (sI m2 0 18 (nI i)) 3 (36 + j) (nI (S 8 j ||| 2 ^ i))) 3 (36 + i) (nI (S 8 i ||| 2 ^ j))) := by
            have e2 : ∀ w, (sI (sI m2 0 18 (nI i)) 3 (36 + j) w).1 3 (36 + i) = nI (S 8 i) := fun w => by rw [sI_1, if_neg (by omega)]; exact k36i
            unfold fMo_knowsIn_3
            simp only [lit, bnd]
            rw [nadd, nadd, ix_nI (by omega) (by omega), Option.bind_some, Option.bind_some, ix_nI (by omega) (by omega), Option.bind_some, Option.bind_some, k36, shl_1 (by omega), shl_1 (by omega), nx_or, e2, nx_or]
          have hs5 : syn z lim b 2 v2 l2 pl2 p2 ta2 (sI (sI (sI m2 0 18 (nI i)) 3 (36 + j) (nI (S 8 j ||| 2 ^ i))) 3 (36 + i) (nI (S 8 i ||| 2 ^ j))) := i4
          obtain ⟨m4, f1, f2, f3⟩ := syn_lag hs5 (by decide)
          rw [e1, Option.bind_some, f1, Option.bind_some] at lM
          have m43 : m4.1 3 = (sI (sI (sI m2 0 18 (nI i)) 3 (36 + j) (nI (S 8 j ||| 2 ^ i))) 3 (36 + i) (nI (S 8 i ||| 2 ^ j))).1 3 := f2.1 3 (by omega)
          have hdr := dR_knows (m1 := m4) hd (j := j) (i := i) (by omega) (by omega) (by omega) x2 (fun x a1 a2 => by
              rw [m43, sI_1, if_neg (by omega), sI_1, if_neg (by omega)]
              show m2.1 3 x = _
              rw [m23]) (by rw [m43, sI_1, if_neg (by omega), sI_1, if_pos ⟨rfl, rfl⟩]) (by rw [m43, sI_1, if_pos ⟨rfl, rfl⟩]) (by rw [f2.2.2 5 (by omega)]; exact m25) (by
              rw [f2.2.1 20 (by omega) (by omega)]
              show m2.1 0 20 = _
              rw [y2.2.1 20 (by omega) (by omega)]
              show m1.1 0 20 = _
              rw [g2.2.1 20 (by omega) (by omega)])
          refine ⟨ta2, sc', m4, lC, lM, ⟨_, _, _, _, _, _, _, _, _, _, _, _, hdr⟩, lag_le f3 (by omega), taB_trans (taB_F j6) (taB_F i6), moQ_trans qa (moQ_trans (moQ_0 (by omega)) (moQ_trans moQ_3 (moQ_trans moQ_3 (moQ_F f2)))), ?_, ?_⟩
          · rw [i6.2.1 2 (by omega) (by omega) (by omega) (by omega), j6.2.1 2 (by omega) (by omega) (by omega) (by omega)]
          · rw [f2.2.1 15 (by omega) (by omega)]
            show m2.1 0 15 = _
            rw [y2.2.1 15 (by omega) (by omega)]
            show m1.1 0 15 = _
            rw [g2.2.1 15 (by omega) (by omega)]
        · right
          obtain ⟨ta', m', f1, f2, f3⟩ := bad3
          rw [hb] at lC lM
          rw [if_pos rfl, if_neg u1] at lC lM
          rw [f1, Option.bind_some, if_pos rfl] at lC
          rw [f2] at lM
          exact ⟨ta', sc', m', lC, lM, f3⟩
    · right
      rw [i1, Option.bind_some, jno] at lC
      rw [i2, Option.bind_some, if_pos rfl] at lM
      exact ⟨ta2, sc, m3, lC, lM, i3, taB_trans (taB_F j6) i4, moQ_trans qa (moQ_B i5)⟩
  · right
    rw [j1, Option.bind_some, if_pos rfl, jno] at lC
    rw [j2, Option.bind_some, if_pos rfl, Option.bind_some, if_pos rfl] at lM
    exact ⟨ta1, sc, m2, lC, lM, j3, j4, moQ_trans (moQ_F g2) (moQ_B j5)⟩
theorem dR_call (hd : dR n h L e t hp hm sr S fa fb fc q qr sc m) {j i : Nat} (hj : j < n) (hi : i < h) (hw : whyC hm S j i = 0) (hS' : sSC n (doC S j i) sc') (h3 : ∀ x, x ≠ 44 → x ≠ 45 + S 0 3 → x ≠ 57 + S 0 3 → m1.1 3 x = m.1 3 x) (k44 : m1.1 3 44 = nI (S 0 3 + 1)) (k1 : m1.1 3 (45 + S 0 3) = nI j) (k2 : m1.1 3 (57 + S 0 3) = nI i) (h12 : S 0 3 < 12) (h5 : m1.2 5 = m.2 5) (h20 : m1.1 0 20 = m.1 0 20) : dR n h L e t hp hm sr (doC S j i) fa fb fc q qr sc' m1 := by
  obtain ⟨hB, hC, ⟨⟨d0, d1, d2, d3, d4⟩, d5, d6, d7⟩, hN, ⟨s1, s2, s3, s4, s5, s6, s7, s8, s9⟩, r3, r4, r5, r20⟩ := hd
  obtain ⟨b1, b2, b3, b4, b5, b6, b7, b8, b9⟩ := id hB
  have ej : ∀ a c, (a = 0 ∧ c ≠ 3) ∨ 3 ≤ a → doC S j i a c = S a c := fun a c ha => by rw [doC_at, if_neg (by omega), if_neg (by omega), if_neg (by omega)]
  have e3 : doC S j i 0 3 = S 0 3 + 1 := by rw [doC_at, if_pos ⟨rfl, rfl⟩]
  refine ⟨hB, hC, ⟨⟨?_, ?_, ?_, ?_, ?_⟩, fun k hk => ?_, fun p hpn => ?_, ?_⟩, ?_, ⟨sSV_doC s1 hj hi hw, ?_, ?_, ?_, hS', fun p hpn => ?_, fun p h1 h2 => ?_, ?_, fun k hk => ?_⟩, r3, r4, r5, ?_⟩
  · rw [h3 0 (by omega) (by omega) (by omega)]; exact d0
  · rw [h3 1 (by omega) (by omega) (by omega)]; exact d1
  · rw [h3 2 (by omega) (by omega) (by omega)]; exact d2
  · rw [h3 3 (by omega) (by omega) (by omega)]; exact d3
  · rw [h3 4 (by omega) (by omega) (by omega)]; exact d4
  · rw [h3 (5 + k) (by omega) (by omega) (by omega)]; exact d5 k hk
  · rw [h3 (11 + p) (by omega) (by omega) (by omega)]; exact d6 p hpn
  · rw [h3 35 (by omega) (by omega) (by omega)]; exact d7
  · rw [h5]; exact hN
  · rw [ej 0 0 (by omega)]; exact s2
  · rw [ej 0 1 (by omega)]; exact s3
  · rw [ej 0 2 (by omega)]; exact s4
  · rw [ej 3 p (by omega), ej 4 p (by omega), ej 5 p (by omega), ej 6 p (by omega), ej 7 p (by omega), ej 8 p (by omega), ej 9 p (by omega), ej 10 p (by omega), h3 (19 + p) (by omega) (by omega) (by omega), h3 (27 + p) (by omega) (by omega) (by omega), h3 (36 + p) (by omega) (by omega) (by omega)]
    exact s6 p hpn
  · rw [h3 (36 + p) (by omega) (by omega) (by omega)]; exact s7 p h1 h2
  · rw [e3]; exact k44
  · rw [e3] at hk
    have a1 : doC S j i 1 k = if k = S 0 3 then j else S 1 k := by
      rw [doC_at, if_neg (by omega), if_neg (by omega)]
      by_cases hk3 : k = S 0 3
      · rw [if_pos ⟨rfl, hk3⟩, if_pos hk3]
      · rw [if_neg (fun w => hk3 w.2), if_neg hk3]
    have a2 : doC S j i 2 k = if k = S 0 3 then i else S 2 k := by
      rw [doC_at, if_neg (by omega)]
      by_cases hk3 : k = S 0 3
      · rw [if_pos ⟨rfl, hk3⟩, if_pos hk3]
      · rw [if_neg (fun w => hk3 w.2), if_neg hk3, if_neg (by omega)]
    rw [a1, a2]
    by_cases hk3 : k = S 0 3
    · rw [if_pos hk3, if_pos hk3, hk3]; exact ⟨k1, k2⟩
    · rw [if_neg hk3, if_neg hk3, h3 (45 + k) (by omega) (by omega) (by omega), h3 (57 + k) (by omega) (by omega) (by omega)]; exact s9 k (by omega)
  · rw [h20]; exact r20
theorem fi_isS (P : Nat → Bool) (c : Nat) : (fi P (c + 1)).isSome = ((fi P c).isSome || P c) := by
  show (match fi P c with | some k => some k | none => if P c then some c else none).isSome = _
  cases fi P c with
  | none => cases P c <;> rfl
  | some k => rfl
/-- has he called there already? -/
theorem mo_L90 (hB : sQB n h L e t hp hm) (hV : sSV n h L hp S) {j i : Nat} (hj : j < n) (hi : i < h) (h18 : m.1 0 18 = nI i) (h9 : ∀ k, k < S 0 3 → m.1 3 (45 + k) = nI (S 1 k) ∧ m.1 3 (57 + k) = nI (S 2 k)) (b0 : Bool) : iter (fMo_readCalls_L90 m (nI (S 0 3)) (nI j)) FU (nI (bn b0), nI 0) = some (nI (bn (b0 || (fi (fun k => decide (S 1 k = j ∧ S 2 k = i)) (S 0 3)).isSome))) := by
  have hc := hV.1.2
  obtain ⟨b1, b2, -⟩ := hB
  have u1 : ¬ nI 1 = nI 0 := by decide +kernel
  have key := iter_F (f := fMo_readCalls_L90 m (nI (S 0 3)) (nI j)) (F := fun k => (nI (bn (b0 || (fi (fun k => decide (S 1 k = j ∧ S 2 k = i)) k).isSome)), nI k)) (nI (bn (b0 || (fi (fun k => decide (S 1 k = j ∧ S 2 k = i)) (S 0 3)).isSome))) (S 0 3) (by omega) (fun k hk => ?_) ?_
  · have e0 : (b0 || (fi (fun k => decide (S 1 k = j ∧ S 2 k = i)) 0).isSome) = b0 := by
      show (b0 || false) = b0
      rw [Bool.or_false]
    simp only [e0] at key
    exact key
  · show fMo_readCalls_L90 m (nI (S 0 3)) (nI j) (nI (bn (b0 || (fi (fun k => decide (S 1 k = j ∧ S 2 k = i)) k).isSome)), nI k) = some (.inl (nI (bn (b0 || (fi (fun k => decide (S 1 k = j ∧ S 2 k = i)) (k + 1)).isSome)), nI (k + 1)))
    rw [fi_isS, ← Bool.or_assoc]
    generalize (b0 || (fi (fun k => decide (S 1 k = j ∧ S 2 k = i)) k).isSome) = c0
    obtain ⟨k1, k2⟩ := h9 k hk
    obtain ⟨v1, v2⟩ := hV.2.1 k hk
    unfold fMo_readCalls_L90
    simp only [lit, nadd]
    rw [if_neg (by rw [nle (by omega) (by omega)]; omega)]
    cases c0
    · rw [if_pos (show nI (bn false) = nI 0 from rfl), ix_nI (by omega) (by omega), Option.bind_some, ix_nI (by omega) (by omega), Option.bind_some, k1, k2, h18, Bool.false_or]
      by_cases h1 : S 1 k = j
      · rw [if_pos (by rw [h1])]
        by_cases h2 : S 2 k = i
        · rw [if_pos (by rw [h2]), decide_eq_true ⟨h1, h2⟩]; rfl
        · rw [if_neg (by rw [neq (by omega) (by omega)]; exact h2), decide_eq_false (fun w => h2 w.2)]; rfl
      · rw [if_neg (by rw [neq (by omega) (by omega)]; exact h1), decide_eq_false (fun w => h1 w.1)]; rfl
    · rw [if_neg (show ¬ nI (bn true) = nI 0 from u1), Bool.true_or]; rfl
  · show fMo_readCalls_L90 m (nI (S 0 3)) (nI j) (nI (bn (b0 || (fi (fun k => decide (S 1 k = j ∧ S 2 k = i)) (S 0 3)).isSome)), nI (S 0 3)) = _
    unfold fMo_readCalls_L90
    rw [if_pos (by rw [nle (by omega) (by omega)]; omega)]
theorem calls_line (hd : dR n h L e t hp hm sr S fa fb fc q qr sc m) (hs : syn z lim b 1 v0 l pl p ta m) : (∃ ta' sc' m', fQr_readCalls q ta sc = some (nI 1, ta', sc') ∧ fMo_readCalls m = some (nI 1, m') ∧ lnOK z lim b p ta m q qr ta' sc' m') ∨ (∃ ta' sc' m', fQr_readCalls q ta sc = some (nI 0, ta', sc') ∧ fMo_readCalls m = some (nI 0, m') ∧ lnNO ta m ta' m') := by
  have u1 : ¬ nI 1 = nI 0 := by decide +kernel
  obtain ⟨hB, hC, hM, hN, ⟨s1, s2, s3, s4, s5, s6, s7, s8, s9⟩, r3, r4, r5, r20⟩ := id hd
  obtain ⟨b1, b2, b3, b4, b5, b6, b7, b8, b9⟩ := id hB
  have c3 := hC.1.2.2.2.1
  have c4 := hC.1.2.2.2.2
  have d0 := hM.1.1
  have d1 := hM.1.2.1
  have d6 := hM.2.2.1
  have hc := s1.1.2
  have sc3 := s5.1.2.2
  by_cases h12 : S 0 3 = 12
  · right
    obtain ⟨ta', m', g1, g2, g3⟩ := refuse_q hs 4
    refine ⟨ta', sc, m', ?_, ?_, g3⟩
    · unfold fQr_readCalls
      simp only [lit]
      rw [sc3, if_neg (by rw [nlt (by omega) (by omega)]; omega), g1]
      simp only [Option.bind_some, bz_0]
    · unfold fMo_readCalls
      simp only [lit, bnd]
      rw [s8, if_pos (by rw [h12]), g2]
      simp only [Option.bind_some, bz_0]
  · obtain ⟨m1, g1, g2, g3⟩ := syn_lag hs (by decide)
    have m13 : m1.1 3 = m.1 3 := g2.1 3 (by omega)
    have m15 : m1.2 5 = m.2 5 := g2.2.2 5 (by omega)
    have nmP : ∀ j, j < n → nmR (q.2 6 j) (m1.2 5 (20 + j)) := fun j hj => by
      have this : nmR (q.2 6 j) (m.2 5 (14 + (6 + j))) := hN.2 j hj
      rw [show 14 + (6 + j) = 20 + j by omega, ← m15] at this
      exact this
    have lT : ∀ mm : Obj, fMo_takesName mm (nI 20) (nI n) = (fMo_looksAt mm (nI 20) (nI n)).bind fun r1 => if r1.1 = nI 0 then some (nI 0, r1.2) else (fMo_next r1.2).bind fun r2 => some (nI 1, r2) := fun mm => rfl
    have lM : fMo_readCalls m = (fMo_takesName m1 (nI 20) (nI n)).bind fun r4 => if r4.1 = nI 0 then some (nI 0, r4.2) else (fMo_looksAt r4.2 (nI 14) (r4.2.1 3 0)).bind fun r6 => if r6.1 = nI 0 then some (nI 0, r6.2) else (ix 69 (nI 11 + r4.2.1 0 18)).bind fun i7 => if r6.2.1 3 i7 = r6.2.1 0 18 + nI 1 then fMo_readCalls_J86 r6.2 (nI (S 0 3)) (r4.2.1 0 18) (nI 1) else fMo_readCalls_J86 r6.2 (nI (S 0 3)) (r4.2.1 0 18) (nI 0) := by
      unfold fMo_readCalls
      simp only [lit, bnd]
      rw [s8, if_neg (by rw [neq (by omega) (by omega)]; exact h12), g1, Option.bind_some, m13, d1]
    have lC : fQr_readCalls q ta sc = (fTa_takePerson q ta).bind fun r1 => if r1.1 = -nI 1 then fQr_readCalls_J50 q r1.2 sc r1.1 (-nI 1) else (fTa_takeHouse q r1.2).bind fun r4 => fQr_readCalls_J50 q r4.2 sc r1.1 r4.1 := by
      unfold fQr_readCalls
      simp only [lit]
      rw [sc3, if_pos (by rw [nlt (by omega) (by omega)]; omega)]
    have jno : ∀ (tt : Obj) (w : Int32), fQr_readCalls_J50 q tt sc w (-nI 1) = some (nI 0, tt, sc) := fun tt w => by
      show (if -nI 1 = -nI 1 then _ else _) = _
      rw [if_pos rfl]
      rfl
    rw [lT] at lM
    rcases pe_take (c := n) (base := 20) (by omega) (by omega) c4 nmP g3 with ⟨j, v1, l1, pl1, p1, ta1, j1, j2, j3, j4, j5, j6⟩ | ⟨ta1, m2, j1, j2, j3, j4, j5⟩
    · rw [j2, Option.bind_some, if_neg (nI_ne_m1' (by omega))] at lC
      obtain ⟨m2, y1, y2, y3⟩ := syn_lag j4 (by decide)
      rw [j3, Option.bind_some, if_neg u1, y1, Option.bind_some, Option.bind_some, if_neg u1] at lM
      simp only at lM lC
      have m23 : m2.1 3 = m.1 3 := by rw [y2.1 3 (by omega)]; exact m13
      have m25 : m2.2 5 = m.2 5 := by rw [y2.2.2 5 (by omega)]; exact m15
      have m218 : m2.1 0 18 = nI j := by rw [y2.2.1 18 (by omega) (by omega), sI_1, if_pos ⟨rfl, rfl⟩]
      rw [m218, m23, d0, nadd] at lM
      have nmH : ∀ i, i < h → nmR (q.2 3 i) (m2.2 5 (14 + i)) := fun i hi => by rw [m25]; exact hN.1 i hi
      have qa : moQ m m2 := moQ_trans (moQ_F g2) (moQ_trans (moQ_0 (by omega)) (moQ_F y2))
      rcases ho_take (c := h) (base := 14) (by omega) (by omega) c3 nmH y3 with ⟨i, v2, l2, pl2, p2, ta2, i1, i2, i3, i4, i5, i6⟩ | ⟨ta2, m3, i1, i2, i3, i4, i5⟩
      · rw [i2, Option.bind_some] at lC
        rw [i3, Option.bind_some, if_neg u1, ix_nI (by omega) (by omega), Option.bind_some] at lM
        simp only at lM lC
        have e18 : (sI m2 0 18 (nI i)).1 0 18 = nI i := by rw [sI_1, if_pos ⟨rfl, rfl⟩]
        have e11 : (sI m2 0 18 (nI i)).1 3 (11 + j) = nI (hm j) := by
          show m2.1 3 (11 + j) = _
          rw [m23]; exact d6 j (by omega)
        have hmj := b9 j (by omega)
        rw [e18, e11, nadd] at lM
        obtain ⟨sc', x1, x2⟩ := sc_tryC hB hC s1 s5 (p := j) (k := i) (by omega) (by omega)
        have lJ : fQr_readCalls_J50 q ta2 sc (nI j) (nI i) = (fSc_tryCall q sc (nI j) (nI i)).bind fun r2 => if r2.1 = nI 0 then some (nI 1, ta2, r2.2) else (fQr_refuse ta2 (nI 3)).bind fun r3 => if r3.1 = nI 0 then some (nI 0, r3.2, r2.2) else some (nI 1, r3.2, r2.2) := by
          unfold fQr_readCalls_J50
          simp only [lit]
          rw [if_neg (nI_ne_m1' (by omega))]
        rw [lJ, x1, Option.bind_some] at lC
        have hL := mo_L90 (m := sI m2 0 18 (nI i)) hB s1 (j := j) (i := i) (by omega) (by omega) e18 (fun k hk => by
          show m2.1 3 (45 + k) = _ ∧ m2.1 3 (57 + k) = _
          rw [m23]; exact s9 k hk)
        have lM2 : fMo_readCalls m = fMo_readCalls_J86 (sI m2 0 18 (nI i)) (nI (S 0 3)) (nI j) (nI (bn (decide (hm j = i + 1)))) := by
          rw [lM]
          by_cases hh : hm j = i + 1
          · rw [if_pos (by rw [hh]), decide_eq_true hh]; rfl
          · rw [if_neg (by rw [neq (by omega) (by omega)]; exact hh), decide_eq_false hh]; rfl
        have lJ2 : ∀ b0 : Bool, fMo_readCalls_J86 (sI m2 0 18 (nI i)) (nI (S 0 3)) (nI j) (nI (bn b0)) = if (b0 || (fi (fun k => decide (S 1 k = j ∧ S 2 k = i)) (S 0 3)).isSome) then (fMo_bad (sI m2 0 18 (nI i)) (nI 3)).bind fun r17 => some (bz r17.1, r17.2) else (fMo_next (sI (sI (sI (sI m2 0 18 (nI i)) 3 (45 + S 0 3) (nI j)) 3 (57 + S 0 3) (nI i)) 3 44 (nI (S 0 3 + 1)))).bind fun r16 => some (nI 1, r16) := fun b0 => by
          have e4 : ∀ w w', (sI (sI (sI m2 0 18 (nI i)) 3 (45 + S 0 3) w) 3 (57 + S 0 3) w').1 3 44 = nI (S 0 3) := fun w w' => by
            rw [sI_1, if_neg (by omega), sI_1, if_neg (by omega)]
            show m2.1 3 44 = _
            rw [m23]; exact s8
          have e5 : ∀ w, (sI (sI m2 0 18 (nI i)) 3 (45 + S 0 3) w).1 0 18 = nI i := fun w => e18
          unfold fMo_readCalls_J86
          simp only [lit, bnd]
          rw [hL b0, Option.bind_some]
          cases (b0 || (fi (fun k => decide (S 1 k = j ∧ S 2 k = i)) (S 0 3)).isSome)
          · rw [if_pos (show nI (bn false) = nI 0 from rfl), if_neg (by decide), nadd, nadd, ix_nI (by omega) (by omega), Option.bind_some, ix_nI (by omega) (by omega), Option.bind_some, e5, e4, nadd]
          · rw [if_neg (show ¬ nI (bn true) = nI 0 from u1), if_pos rfl]
        have hwhy : whyC hm S j i = 0 ↔ (decide (hm j = i + 1) || (fi (fun k => decide (S 1 k = j ∧ S 2 k = i)) (S 0 3)).isSome) = false := by
          unfold whyC
          by_cases hh : hm j = i + 1
          · rw [if_pos hh, decide_eq_true hh, Bool.true_or]
            exact ⟨fun w => absurd w (by decide), fun w => absurd w (by decide)⟩
          · rw [if_neg hh, decide_eq_false hh, Bool.false_or]
            cases (fi (fun k => decide (S 1 k = j ∧ S 2 k = i)) (S 0 3)).isSome
            · rw [if_neg (by decide), if_neg h12]
              exact ⟨fun _ => rfl, fun _ => rfl⟩
            · rw [if_pos rfl]
              exact ⟨fun w => absurd w (by decide), fun w => absurd w (by decide)⟩
        have hwl : whyC hm S j i < 1000 := by
          unfold whyC
          split
          · omega
          · split
            · omega
            · first
              | omega
              | (split <;> omega)
        rw [lJ2] at lM2
        by_cases hw : whyC hm S j i = 0
        · left
          rw [hwhy.mp hw, if_neg (by decide)] at lM2
          rw [hw, if_pos rfl] at lC
          rw [if_pos hw] at x2
          have hs5 : syn z lim b 2 v2 l2 pl2 p2 ta2 (sI (sI (sI (sI m2 0 18 (nI i)) 3 (45 + S 0 3) (nI j)) 3 (57 + S 0 3) (nI i)) 3 44 (nI (S 0 3 + 1))) := i4
          obtain ⟨m4, f1, f2, f3⟩ := syn_lag hs5 (by decide)
          rw [f1, Option.bind_some] at lM2
          have m43 : m4.1 3 = (sI (sI (sI (sI m2 0 18 (nI i)) 3 (45 + S 0 3) (nI j)) 3 (57 + S 0 3) (nI i)) 3 44 (nI (S 0 3 + 1))).1 3 := f2.1 3 (by omega)
          have hdr := dR_call (m1 := m4) hd (j := j) (i := i) (by omega) (by omega) hw x2 (fun x a1 a2 a3 => by
              rw [m43, sI_1, if_neg (by omega), sI_1, if_neg (by omega), sI_1, if_neg (by omega)]
              show m2.1 3 x = _
              rw [m23]) (by rw [m43, sI_1, if_pos ⟨rfl, rfl⟩]) (by rw [m43, sI_1, if_neg (by omega), sI_1, if_neg (by omega), sI_1, if_pos ⟨rfl, rfl⟩]) (by rw [m43, sI_1, if_neg (by omega), sI_1, if_pos ⟨rfl, rfl⟩]) (by omega) (by rw [f2.2.2 5 (by omega)]; exact m25) (by
              rw [f2.2.1 20 (by omega) (by omega)]
              show m2.1 0 20 = _
              rw [y2.2.1 20 (by omega) (by omega)]
              show m1.1 0 20 = _
              rw [g2.2.1 20 (by omega) (by omega)])
          refine ⟨ta2, sc', m4, lC, lM2, ⟨_, _, _, _, _, _, _, _, _, _, _, _, hdr⟩, lag_le f3 (by omega), taB_trans (taB_F j6) (taB_F i6), moQ_trans qa (moQ_trans (moQ_0 (by omega)) (moQ_trans moQ_3 (moQ_trans moQ_3 (moQ_trans moQ_3 (moQ_F f2))))), ?_, ?_⟩
          · rw [i6.2.1 2 (by omega) (by omega) (by omega) (by omega), j6.2.1 2 (by omega) (by omega) (by omega) (by omega)]
          · rw [f2.2.1 15 (by omega) (by omega)]
            show m2.1 0 15 = _
            rw [y2.2.1 15 (by omega) (by omega)]
            show m1.1 0 15 = _
            rw [g2.2.1 15 (by omega) (by omega)]
        · right
          have hb : (decide (hm j = i + 1) || (fi (fun k => decide (S 1 k = j ∧ S 2 k = i)) (S 0 3)).isSome) = true := by
            cases hc0 : (decide (hm j = i + 1) || (fi (fun k => decide (S 1 k = j ∧ S 2 k = i)) (S 0 3)).isSome)
            · exact absurd (hwhy.mpr hc0) hw
            · rfl
          obtain ⟨ta', m', f1, f2, f3, f4, f5⟩ := refuse_q i4 3
          rw [hb, if_pos rfl, f2] at lM2
          rw [if_neg (show ¬ nI (whyC hm S j i) = nI 0 by rw [neq (by omega) (by omega)]; exact hw), f1, Option.bind_some, if_pos rfl] at lC
          refine ⟨ta', sc', m', lC, ?_, f3, taB_trans (taB_F j6) (taB_trans (taB_F i6) f4), moQ_trans qa (moQ_trans (moQ_0 (by omega)) f5)⟩
          rw [lM2]
          simp only [Option.bind_some, bz_0]
      · right
        rw [i1, Option.bind_some, jno] at lC
        rw [i2, Option.bind_some, if_pos rfl] at lM
        exact ⟨ta2, sc, m3, lC, lM, i3, taB_trans (taB_F j6) i4, moQ_trans qa (moQ_B i5)⟩
    · right
      rw [j1, Option.bind_some, if_pos rfl, jno] at lC
      rw [j2, Option.bind_some, if_pos rfl, Option.bind_some, if_pos rfl] at lM
      exact ⟨ta1, sc, m2, lC, lM, j3, j4, moQ_trans (moQ_F g2) (moQ_B j5)⟩
end
