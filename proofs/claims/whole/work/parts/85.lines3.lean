section
variable {z lim : Nat} {b : Nat → Nat} {ta m ta' m' m1 x y q q' qr qr' sc : Obj} {k v v0 pl p p0 : Nat} {l : List Nat} {n h L e t : Nat} {hp hm : Nat → Nat} {sr : Nat → Bool} {S : Nat → Nat → Nat} {fa fb fc : Bool}
theorem new_both {to' : Nat} (hto : 14 ≤ to' ∧ to' < 28) (hh : h ≤ 6) (hn : n ≤ 8) (q3 : q.1 0 3 = nI h) (q4 : q.1 0 4 = nI n) (m30 : m.1 3 0 = nI h) (m31 : m.1 3 1 = nI n) (hN : sQN n h q (fun i => m.2 5 (14 + i))) (hl : lag z lim b p0 ta m) : (∃ l ta' m' p, lok l ∧ 1 ≤ l.length ∧ l.length ≤ 8 ∧ fTa_takeNewName q ta = some (kw5 l, ta') ∧ fMo_fresh m (nI to') = some (nI 1, m') ∧ lag z lim b p ta' m' ∧ p0 < p ∧ m'.2 5 = va_up (m.2 5) to' (kw8 l) ∧ m'.1 3 = m.1 3 ∧ m'.1 0 20 = m.1 0 20 ∧ m'.1 0 15 = m.1 0 15 ∧ taF ta ta' ∧ moQ m m') ∨ (∃ ta' m', fTa_takeNewName q ta = some ((0 : Int64), ta') ∧ fMo_fresh m (nI to') = some (nI 0, m') ∧ lnNO ta m ta' m') := by
  obtain ⟨ta1, k, v, l, pl, p, h1, h1', h2, h3, h5⟩ := hl
  have hn' := mo_isName h2
  have u1 : ¬ nI 1 = nI 0 := by decide +kernel
  have um : ¬ nI 0 ≤ -nI 1 := by decide +kernel
  obtain ⟨-, ⟨t1, t2, t3, t4, t5⟩, -⟩ := id h2
  by_cases hk : k = 2
  · subst hk
    obtain ⟨-, l1, l2, l3, l4, l5, l6, l7⟩ : (2 = 2 ∧ lok l ∧ 1 ≤ l.length ∧ l.length ≤ 8 ∧ ta1.2 0 6 = kw5 l ∧ m.1 0 11 = nI 1 ∧ m.2 0 17 = kw8 l ∧ ∀ w, w < 29 → l ≠ kws.getD w []) := by
      rcases t5 with t | t | t | t | t | t
      · exact absurd t.1 (by decide)
      · exact absurd t.1 (by decide)
      · exact t
      · exact absurd t.1 (by decide)
      · exact absurd t.1 (by decide)
      · exact absurd t.1 (by decide)
    have hl : nmR (kw5 l) (kw8 l) := ⟨l, l2, l3, l1, rfl, rfl⟩
    have fh : fi (fun j => decide (q.2 3 j = kw5 l)) h = fi (fun j => decide (m.2 5 (14 + j) = kw8 l)) h := fi_congr (fun j hj => decide_eq_decide.mpr (nmR_iff (hN.1 j hj) hl))
    have fp : fi (fun j => decide (q.2 6 j = kw5 l)) n = fi (fun j => decide (m.2 5 (20 + j) = kw8 l)) n := fi_congr (fun j hj => decide_eq_decide.mpr (nmR_iff (by have this : nmR (q.2 6 j) (m.2 5 (14 + (6 + j))) := hN.2 j hj; rw [show 14 + (6 + j) = 20 + j by omega] at this; exact this) hl))
    have s1 := ho_find hh q3 (kw5 l)
    have s2 := pe_find hn q4 (kw5 l)
    have s3 := mo_seek (m := m) (base := 14) (c := h) (by omega)
    have s4 := mo_seek (m := m) (base := 20) (c := n) (by omega)
    rw [l6, ← fh] at s3
    rw [l6, ← fp] at s4
    rw [if_pos rfl] at hn'
    have lC : fTa_takeNewName q ta = (fQu_findHouse q (kw5 l)).bind fun r2 => if r2 = -nI 1 then (fQu_findPerson q (kw5 l)).bind fun r3 => if r3 = -nI 1 then some (kw5 l, ta1) else fTa_takeNewName_J44 ta1 else fTa_takeNewName_J44 ta1 := by
      unfold fTa_takeNewName
      simp only [lit]
      rw [h1, Option.bind_some, t1, if_pos rfl, l4]
    have lM : fMo_fresh m (nI to') = (fMo_seek m (nI 14) (nI h)).bind fun r3 => if nI 0 ≤ r3 then fMo_fresh_J43 m else (fMo_seek m (nI 20) (nI n)).bind fun r5 => if r5 < nI 0 then (fMo_next (sL m 5 to' (kw8 l))).bind fun r8 => some (nI 1, r8) else fMo_fresh_J43 m := by
      unfold fMo_fresh
      simp only [lit, bnd]
      rw [hn', Option.bind_some, if_neg u1, m30, m31, l6, ix_nI (by omega) (by omega)]
      rfl
    have bad3 : ∃ ta' m', fTa_takeNewName_J44 ta1 = some ((0 : Int64), ta') ∧ fMo_fresh_J43 m = some (nI 0, m') ∧ lnNO ta m ta' m' := by
      obtain ⟨ta', m', g1, g2, g3, g4, g5⟩ := bad2 h2 (nI 3)
      refine ⟨ta', m', ?_, ?_, g3, taB_trans (taB_F h1') g4, moQ_B g5⟩
      · unfold fTa_takeNewName_J44
        simp only [lit]
        rw [g1]; rfl
      · unfold fMo_fresh_J43
        simp only [lit]
        rw [g2]
        simp only [Option.bind_some, bz_0]
    rw [s1, Option.bind_some] at lC
    rw [s3, Option.bind_some] at lM
    rcases fi_cases (fun j => decide (q.2 3 j = kw5 l)) h with ⟨f1, -⟩ | ⟨j, j1, -, -, f1⟩
    · rw [f1] at lC lM
      rw [if_pos (show bI none = -nI 1 from rfl), s2, Option.bind_some] at lC
      rw [if_neg (show ¬ nI 0 ≤ bI none from um), s4, Option.bind_some] at lM
      rcases fi_cases (fun j => decide (q.2 6 j = kw5 l)) n with ⟨f2, -⟩ | ⟨j, j1, -, -, f2⟩
      · rw [f2] at lC lM
        rw [if_pos (show bI none = -nI 1 from rfl)] at lC
        rw [if_pos (show bI none < nI 0 by decide +kernel)] at lM
        left
        have hs : syn z lim b 2 v l pl p ta1 (sL m 5 to' (kw8 l)) := h2
        obtain ⟨m', j1, j2, j3⟩ := syn_lag hs (by decide)
        refine ⟨l, ta1, m', p, l1, l2, l3, lC, ?_, j3, h3 (by decide) (by decide), ?_, ?_, ?_, ?_, h1', moQ_trans (moQ_5 hto.1) (moQ_F j2)⟩
        · rw [lM, j1]; rfl
        · rw [j2.2.2 5 (by omega)]
          show va_up m.2 5 (va_up (m.2 5) to' (kw8 l)) 5 = _
          rw [va_up_at, if_pos rfl]
        · rw [j2.1 3 (by omega)]; rfl
        · rw [j2.2.1 20 (by omega) (by omega)]; rfl
        · rw [j2.2.1 15 (by omega) (by omega)]; rfl
      · right
        rw [f2] at lC lM
        rw [if_neg (show ¬ bI (some j) = -nI 1 from nI_ne_m1' (by omega))] at lC
        rw [if_neg (show ¬ bI (some j) < nI 0 from nI_lt0 (by omega))] at lM
        obtain ⟨ta', m', g1, g2, g3⟩ := bad3
        exact ⟨ta', m', lC.trans g1, lM.trans g2, g3⟩
    · right
      rw [f1] at lC lM
      rw [if_neg (show ¬ bI (some j) = -nI 1 from nI_ne_m1' (by omega))] at lC
      rw [if_pos (show nI 0 ≤ bI (some j) by show nI 0 ≤ nI j; rw [nle (by omega) (by omega)]; omega)] at lM
      obtain ⟨ta', m', g1, g2, g3⟩ := bad3
      exact ⟨ta', m', lC.trans g1, lM.trans g2, g3⟩
  · right
    rw [if_neg hk] at hn'
    obtain ⟨ta', m', g1, g2, g3, g4, g5⟩ := bad2 h2 (nI 1)
    refine ⟨ta', m', ?_, ?_, g3, taB_trans (taB_F h1') g4, moQ_B g5⟩
    · unfold fTa_takeNewName
      simp only [lit]
      rw [h1, Option.bind_some, t1, if_neg (by rw [neq (by omega) (by omega)]; exact hk), g1]
      rfl
    · unfold fMo_fresh
      simp only [lit, bnd]
      rw [hn', Option.bind_some, if_pos rfl, g2]
      simp only [Option.bind_some, bz_0]
/-- a house more -/
theorem dR_house (hd : dR n h L e t hp hm sr S fa fb fc q qr sc m) (hh : h < 6) {vv : Nat} (hv : vv < L) {l : List Nat} (hl : nmR (kw5 l) (kw8 l)) (h3 : m1.1 3 = m.1 3) (h5 : m1.2 5 = va_up (m.2 5) (14 + h) (kw8 l)) (h20 : m1.1 0 20 = nI (bn true + 2 * bn fb + 4 * bn fc)) : ∃ q', fQu_addHouse q (kw5 l) (nI vv) = some q' ∧ dR n (h + 1) L e t (va_up hp h vv) hm sr S fa fb fc q' qr sc (sI (sI m1 3 (5 + h) (nI vv)) 3 0 (nI (h + 1))) := by
  obtain ⟨⟨b1, b2, b3, b4, b5, b6, b7, b8, b9⟩, ⟨⟨c0, c1, c2, c3, c4⟩, c5, c6⟩, ⟨⟨d0, d1, d2, d3, d4⟩, d5, d6, d7⟩, hN, ⟨s1, s2, s3, s4, s5, s6, s7, s8, s9⟩, r3, r4, r5, -⟩ := hd
  have f0 : ∀ j, j ≠ 0 → j ≠ 5 + h → (sI (sI m1 3 (5 + h) (nI vv)) 3 0 (nI (h + 1))).1 3 j = m.1 3 j := fun j a b => by rw [sI_1, if_neg (by omega), sI_1, if_neg (by omega), h3]
  have lv0 : lvm n hm h = 0 := by
    unfold lvm
    exact msk_false (fun p hpn => beq_eq_false_iff_ne.mpr (by have := b9 p hpn; omega))
  refine ⟨sI (sI (sI (sL q 3 h (kw5 l)) 1 h (nI vv)) 2 h (nI 0)) 0 3 (nI (h + 1)), ?_, ⟨b1, by omega, b3, b4, b5, b6, b7, fun k hk => ?_, fun p hpn => by have := b9 p hpn; omega⟩, ⟨⟨c0, c1, c2, rfl, c4⟩, fun k hk => ?_, c6⟩, ⟨⟨rfl, ?_, ?_, ?_, ?_⟩, fun k hk => ?_, fun p hpn => ?_, ?_⟩, ⟨fun k hk => ?_, fun p hpn => ?_⟩, ⟨?_, s2, s3, s4, s5, fun p hpn => ?_, fun p g1 g2 => ?_, ?_, fun k hk => ?_⟩, r3, r4, r5, ?_⟩
  · have e1 : (sL q 3 h (kw5 l)).1 0 3 = nI h := c3
    have e2 : ∀ v, (sI (sL q 3 h (kw5 l)) 1 h v).1 0 3 = nI h := fun v => c3
    have e3 : ∀ v w, (sI (sI (sL q 3 h (kw5 l)) 1 h v) 2 h w).1 0 3 = nI h := fun v w => c3
    unfold fQu_addHouse
    simp only [lit, bnd]
    rw [c3, if_neg (by rw [nle (by omega) (by omega)]; omega), ix_nI (by omega) (by omega), Option.bind_some, e1, ix_nI (by omega) (by omega), Option.bind_some, e2, ix_nI (by omega) (by omega), Option.bind_some, e3, nadd]
  · rw [va_up_at]
    split
    · exact hv
    · exact b8 k (by omega)
  · rw [va_up_at]
    show (if k = h then nI vv else q.1 1 k) = _ ∧ (if k = h then nI 0 else q.1 2 k) = _
    by_cases hkh : k = h
    · rw [if_pos hkh, if_pos hkh, if_pos hkh, hkh, lv0]; exact ⟨rfl, rfl⟩
    · rw [if_neg hkh, if_neg hkh, if_neg hkh]; exact c5 k (by omega)
  · rw [f0 1 (by omega) (by omega)]; exact d1
  · rw [f0 2 (by omega) (by omega)]; exact d2
  · rw [f0 3 (by omega) (by omega)]; exact d3
  · rw [f0 4 (by omega) (by omega)]; exact d4
  · rw [va_up_at]
    by_cases hkh : k = h
    · rw [if_pos hkh, hkh, sI_1, if_neg (by omega), sI_1, if_pos ⟨rfl, rfl⟩]
    · rw [if_neg hkh, f0 (5 + k) (by omega) (by omega)]; exact d5 k (by omega)
  · rw [f0 (11 + p) (by omega) (by omega)]; exact d6 p hpn
  · rw [f0 35 (by omega) (by omega)]; exact d7
  · show nmR (if k = h then kw5 l else q.2 3 k) (m1.2 5 (14 + k))
    rw [h5, va_up_at]
    by_cases hkh : k = h
    · rw [if_pos hkh, if_pos (by omega)]; exact hl
    · rw [if_neg hkh, if_neg (by omega)]; exact hN.1 k (by omega)
  · show nmR (q.2 6 p) (m1.2 5 (14 + (6 + p)))
    rw [h5, va_up_at, if_neg (by omega)]; exact hN.2 p hpn
  · obtain ⟨v1, v2, v3, v4⟩ := s1
    refine ⟨v1, fun k hk => ⟨(v2 k hk).1, by have := (v2 k hk).2; omega⟩, fun p hpn => ?_, v4⟩
    obtain ⟨⟨w3, w4, w5, w6, w7, w8, w9, w10⟩, ⟨w11, w12, w13⟩, w14⟩ := v3 p hpn
    refine ⟨⟨w3, w4, w5, by omega, w7, w8, w9, w10⟩, ⟨w11, fun hz => ?_, w13⟩, w14⟩
    exact absurd (s6 p hpn).2.1 hz
  · obtain ⟨w1, w2, w3, w4, w5, w6, w7, w8⟩ := s6 p hpn
    rw [f0 (19 + p) (by omega) (by omega), f0 (27 + p) (by omega) (by omega), f0 (36 + p) (by omega) (by omega)]
    exact ⟨w1, w2, w3, w4, w5, w6, w7, w8⟩
  · rw [f0 (36 + p) (by omega) (by omega)]; exact s7 p g1 g2
  · rw [f0 44 (by omega) (by omega)]; exact s8
  · have hc := s1.1.2
    rw [f0 (45 + k) (by omega) (by omega), f0 (57 + k) (by omega) (by omega)]; exact s9 k hk
  · show m1.1 0 20 = _
    rw [h20]
    have : (fa || decide (0 < h + 1 ∨ 0 < n)) = true := by rw [decide_eq_true (by omega), Bool.or_true]
    rw [this]
theorem house_line (hd : dR n h L e t hp hm sr S fa fb fc q qr sc m) (hs : syn z lim b 1 v0 l pl p ta m) : (∃ q' ta' m', fQr_readHouse q ta = some (nI 1, q', ta') ∧ fMo_readHouse m = some (nI 1, m') ∧ lnOK z lim b p ta m q' qr ta' sc m') ∨ (∃ q' ta' m', fQr_readHouse q ta = some (nI 0, q', ta') ∧ fMo_readHouse m = some (nI 0, m') ∧ lnNO ta m ta' m') := by
  have u1 : ¬ nI 1 = nI 0 := by decide +kernel
  obtain ⟨hB, hC, hM, hN, -, r3, r4, r5, r20⟩ := id hd
  obtain ⟨b1, b2, b3, b4, b5, b6, b7, b8, b9⟩ := id hB
  have c0 := hC.1.1
  have c3 := hC.1.2.2.2.1
  have c4 := hC.1.2.2.2.2
  have d0 := hM.1.1
  have d1 := hM.1.2.1
  have d2 := hM.1.2.2.1
  obtain ⟨o1, o2, o3, o4, o5, o6, o7⟩ := on_bits (fa || decide (0 < h ∨ 0 < n)) fb fc
  by_cases h6 : h = 6
  · right
    obtain ⟨ta', m', g1, g2, g3⟩ := refuse_q hs 4
    refine ⟨q, ta', m', ?_, ?_, g3⟩
    · unfold fQr_readHouse
      simp only [lit]
      rw [c3, if_neg (by rw [nlt (by omega) (by omega)]; omega), g1]
      simp only [Option.bind_some, bz_0]
    · unfold fMo_readHouse
      simp only [lit, bnd]
      rw [d0, if_pos (by rw [h6]), g2]
      simp only [Option.bind_some, bz_0]
  · have hs' : syn z lim b 1 v0 l pl p ta (sI m 0 20 (nI (bn true + 2 * bn fb + 4 * bn fc))) := hs
    obtain ⟨m1, g1, g2, g3⟩ := syn_lag hs' (by decide)
    have m13 : m1.1 3 = m.1 3 := by rw [g2.1 3 (by omega)]; rfl
    have m15 : m1.2 5 = m.2 5 := by rw [g2.2.2 5 (by omega)]; rfl
    have m120 : m1.1 0 20 = nI (bn true + 2 * bn fb + 4 * bn fc) := by rw [g2.2.1 20 (by omega) (by omega), sI_1, if_pos ⟨rfl, rfl⟩]
    have m115 : m1.1 0 15 = m.1 0 15 := by rw [g2.2.1 15 (by omega) (by omega)]; rfl
    have q1 : moQ m m1 := moQ_trans (moQ_0 (by omega)) (moQ_F g2)
    have lM : fMo_readHouse m = (fMo_fresh m1 (nI (14 + h))).bind fun r5 => if r5.1 = nI 0 then some (nI 0, r5.2) else (fMo_puts r5.2 (nI (5 + h)) (nI 0) (r5.2.1 3 2 - nI 1)).bind fun r6 => if r6.1 = nI 0 then some (nI 0, r6.2) else some (nI 1, sI r6.2 3 0 (r6.2.1 3 0 + nI 1)) := by
      unfold fMo_readHouse
      simp only [lit, bnd]
      rw [d0, if_neg (by rw [neq (by omega) (by omega)]; exact h6), r20, o7, g1, Option.bind_some, nadd, nadd]
    have lC : fQr_readHouse q ta = (fTa_takeNewName q ta).bind fun r1 => if lg_cmp r1.1 (0 : Int64) = nI 0 then some (nI 0, q, r1.2) else (fTa_takeNumber r1.2 (nI 0) (nI (L - 1))).bind fun r2 => if r2.1 = -nI 1 then some (nI 0, q, r2.2) else (fQu_addHouse q r1.1 r2.1).bind fun r3 => some (nI 1, r3, r2.2) := by
      unfold fQr_readHouse
      simp only [lit]
      rw [c3, if_pos (by rw [nlt (by omega) (by omega)]; omega), c0, nsub (by omega)]
    rcases new_both (n := n) (h := h) (to' := 14 + h) (by omega) b2 b1 c3 c4 (by rw [m13]; exact d0) (by rw [m13]; exact d1) (by rw [m15]; exact hN) g3 with ⟨l', ta', m', p', l1, l2, l3, j1, j2, j3, j4, j5, j6, j7, j8, j9, j10⟩ | ⟨ta', m', j1, j2, j3⟩
    · have hz0 : ¬ lg_cmp (kw5 l') (0 : Int64) = nI 0 := fun w => nmR_0 (a := kw5 l') (b := kw8 l') ⟨l', l2, l3, l1, rfl, rfl⟩ ((lcmpN _ _).mp w)
      rw [j1, Option.bind_some, if_neg hz0] at lC
      have m32 : m'.1 3 2 = nI L := by rw [j6, m13]; exact d2
      rw [j2, Option.bind_some, if_neg u1, m32, nsub (by omega)] at lM
      rcases puts_both (i := 5 + h) (lo := 0) (hi := L - 1) (by omega) (by omega) (by omega) j3 with ⟨vv, ta2, m2, p2, k1, k2, k3, k4, k5, k6, k7, k8, k9, k10⟩ | ⟨ta2, m2, k1, k2, k3, k4, k5⟩
      · left
        rw [k1, Option.bind_some, if_neg (nI_ne_m1' (by omega))] at lC
        rw [k2, Option.bind_some, if_neg u1] at lM
        obtain ⟨q', e1, e2⟩ := dR_house (m1 := m2) hd (by omega) (vv := vv) (by omega) (l := l') ⟨l', l2, l3, l1, rfl, rfl⟩ (by rw [k8.1 3 (by omega), j6, m13]) (by rw [k8.2.1 5 (by omega), j5, m15]) (by rw [k8.2.2 20 (by omega) (by omega) (by omega), j7, m120])
        have e3 : (sI m2 3 (5 + h) (nI vv)).1 3 0 = nI h := by rw [sI_1, if_neg (by omega), k8.1 3 (by omega), j6, m13]; exact d0
        rw [e1, Option.bind_some] at lC
        rw [e3, nadd] at lM
        refine ⟨q', ta2, _, lC, lM, ⟨_, _, _, _, _, _, _, _, _, _, _, _, e2⟩, lag_le (lag_H k5 ⟨rfl, fun _ _ _ => rfl, rfl, rfl⟩) (by omega), taB_trans (taB_F j9) k7, moQ_trans q1 (moQ_trans j10 (moQ_trans (moQ_B k8) (moQ_trans moQ_3 moQ_3))), ?_, ?_⟩
        · rw [k9]; exact j9.2.1 2 (by omega) (by omega) (by omega) (by omega)
        · show m2.1 0 15 = _
          rw [k10, j8, m115]
      · right
        rw [k1, Option.bind_some, if_pos rfl] at lC
        rw [k2, Option.bind_some, if_pos rfl] at lM
        exact ⟨q, ta2, m2, lC, lM, k3, taB_trans (taB_F j9) k4, moQ_trans q1 (moQ_trans j10 (moQ_B k5))⟩
    · right
      rw [j1, Option.bind_some, if_pos ((lcmpN _ _).mpr rfl)] at lC
      rw [j2, Option.bind_some, if_pos rfl] at lM
      exact ⟨q, ta', m', lC, lM, j3.1, j3.2.1, moQ_trans q1 j3.2.2⟩
end
