section
variable {z lim : Nat} {b : Nat → Nat} {ta ta1 m ta' m' m1 x y q q' qr qr' sc : Obj} {k v v0 pl p p0 : Nat} {l : List Nat} {n h L e t : Nat} {hp hm : Nat → Nat} {sr sr' : Nat → Bool} {S : Nat → Nat → Nat} {fa fb fc : Bool}
theorem j150_no {w : Int64} {a b c : Int32} : fQr_readPerson_J150 q ta sc w a b c (-nI 1) = some (nI 0, q, ta, sc) := by
  show (if -nI 1 = -nI 1 then _ else _) = _
  rw [if_pos rfl]
  rfl
theorem j127_no {w : Int64} {a b : Int32} : fQr_readPerson_J127 q ta sc w a b (-nI 1) = some (nI 0, q, ta, sc) := by
  show (if -nI 1 = -nI 1 then fQr_readPerson_J150 q ta sc w a b (-nI 1) (-nI 1) else _) = _
  rw [if_pos rfl, j150_no]
theorem lag_3 (h : lag z lim b p0 ta m) {i : Nat} {w : Int32} : lag z lim b p0 ta (sI m 3 i w) := lag_H h ⟨rfl, fun _ _ _ => rfl, rfl, rfl⟩
/-- a person's line, behind his home -/
theorem pers_tail (hd : dR n h L e t hp hm sr S fa fb fc q qr sc m) (hn : n < 8) {d : Nat} (hdh : d ≤ h) {l' : List Nat} (hl' : nmR (kw5 l') (kw8 l'))
    (h3 : ∀ j, j ≠ 11 + n → m1.1 3 j = m.1 3 j) (k11 : m1.1 3 (11 + n) = nI d) (h5 : m1.2 5 = va_up (m.2 5) (20 + n) (kw8 l')) (h20 : m1.1 0 20 = nI (bn true + 2 * bn fb + 4 * bn fc)) (hl : lag z lim b p0 ta1 m1) :
    (∃ q' ta' sc' m', fQr_readPerson_J87 q ta1 sc (kw5 l') (nI d - nI 1) = some (nI 1, q', ta', sc') ∧ fMo_readPerson_J105 m1 (nI n) = some (nI 1, m') ∧ lnOK z lim b p0 ta1 m1 q' qr ta' sc' m') ∨ (∃ q' ta' sc' m', fQr_readPerson_J87 q ta1 sc (kw5 l') (nI d - nI 1) = some (nI 0, q', ta', sc') ∧ fMo_readPerson_J105 m1 (nI n) = some (nI 0, m') ∧ lnNO ta1 m1 ta' m') := by
  have u1 : ¬ nI 1 = nI 0 := by decide +kernel
  obtain ⟨hB, hC, hM, hN, -, r3, r4, r5, -⟩ := id hd
  obtain ⟨b1, b2, b3, b4, b5, b6, b7, b8, b9⟩ := id hB
  have c0 := hC.1.1
  have d2 := hM.1.2.2.1
  have d7 := hM.2.2.2
  have lC : fQr_readPerson_J87 q ta1 sc (kw5 l') (nI d - nI 1) = (fTa_takeNumber ta1 (nI 0) (nI (L - 1))).bind fun r5 => if r5.1 = -nI 1 then fQr_readPerson_J127 q r5.2 sc (kw5 l') (nI d - nI 1) r5.1 (-nI 1) else (fTa_takeOneOf r5.2 (nI 8) (nI 10)).bind fun r9 => fQr_readPerson_J127 q r9.2 sc (kw5 l') (nI d - nI 1) r5.1 r9.1 := by
    unfold fQr_readPerson_J87
    simp only [lit]
    rw [c0, nsub (by omega)]
  have lM : fMo_readPerson_J105 m1 (nI n) = (fMo_puts m1 (nI (19 + n)) (nI 0) (nI (L - 1))).bind fun r12 => if r12.1 = nI 0 then some (nI 0, r12.2) else (fMo_takesWay r12.2).bind fun r13 => if r13.1 = nI 0 then some (nI 0, r13.2) else (ix 69 (nI (27 + n))).bind fun i14 => bnd (sI r13.2 3 i14 (r13.2.1 0 18)) fun s15 => (fMo_isWord s15 (kw8 (kws.getD 12 []))).bind fun r16 => if r16 = nI 0 then (fMo_isWord s15 (kw8 (kws.getD 11 []))).bind fun r17 => if r17 = nI 0 then (fMo_bad s15 (nI 1)).bind fun r18 => some (bz r18.1, r18.2) else fMo_readPerson_J175 s15 (nI n) r16 else fMo_readPerson_J175 s15 (nI n) r16 := by
    have e1 : (495874044526 : Int64) = kw8 (kws.getD 12 []) := by decide +kernel
    have e2 : (1802071652 : Int64) = kw8 (kws.getD 11 []) := by decide +kernel
    unfold fMo_readPerson_J105
    rw [e1, e2]
    simp only [lit]
    rw [nadd, nadd, h3 2 (by omega), d2, nsub (by omega)]
  rcases puts_both (i := 19 + n) (lo := 0) (hi := L - 1) (by omega) (by omega) (by omega) hl with ⟨a, ta2, m2, p2, j1, j2, j3, j4, j5, j6, j7, j8, j9, j10⟩ | ⟨ta2, m2, j1, j2, j3, j4, j5⟩
  · rw [j1, Option.bind_some, if_neg (nI_ne_m1' (by omega))] at lC
    rw [j2, Option.bind_some, if_neg u1] at lM
    rcases way_both j5 with ⟨w, ta3, m4, p3, w1, w2, w3, w4, w5, w6, w7, w8, w9⟩ | ⟨ta3, m4, w1, w2, w3, w4, w5⟩
    · rw [w2, Option.bind_some] at lC
      rw [w3, Option.bind_some, if_neg u1, ix_nI (by omega) (by omega), Option.bind_some] at lM
      simp only [bnd] at lM
      rw [w4] at lM
      have hl5 : lag z lim b p3 ta3 (sI m4 3 (27 + n) (nI w)) := lag_3 w5
      have lC2 : fQr_readPerson_J127 q ta3 sc (kw5 l') (nI d - nI 1) (nI a) (nI w) = (fTa_takeOneOf ta3 (nI 11) (nI 12)).bind fun r8 => fQr_readPerson_J150 q r8.2 sc (kw5 l') (nI d - nI 1) (nI a) (nI w) r8.1 := by
        unfold fQr_readPerson_J127
        simp only [lit]
        rw [if_neg (nI_ne_m1' (by omega))]
      rw [lC2] at lC
      have qa : moQ m1 (sI m4 3 (27 + n) (nI w)) := moQ_trans (moQ_B j8) (moQ_trans moQ_3 (moQ_trans (moQ_B w8) moQ_3))
      rcases of_take (lo := 11) (hi := 12) (by omega) (by omega) hl5 with ⟨dd, l2, pl2, p4, ta4, x1, x2, x3, x4, x5⟩ | ⟨ta4, m5, x1, x2, x3, x4, x5, x6⟩
      · left
        have w12 := mo_isW x3 (w := 12) (by omega)
        have w11 := mo_isW x3 (w := 11) (by omega)
        generalize hst : decide (dd = 1) = st
        have hdd : dd = bn st := by
          rw [← hst]
          rcases (show dd = 0 ∨ dd = 1 by omega) with w | w <;> subst w <;> rfl
        have lM2 : fMo_readPerson_J105 m1 (nI n) = fMo_readPerson_J194 (sI m4 3 (27 + n) (nI w)) (nI n) (nI 35) ((sI m4 3 (27 + n) (nI w)).1 3 35) (nI (if st then 2 ^ n else 0)) := by
          rw [lM, w12, w11, Option.bind_some, Option.bind_some]
          cases st
          · have h0 : dd = 0 := hdd
            subst h0
            rw [if_neg (show ¬ (1 = 1 ∧ 11 + 0 = 12) by omega), if_pos (show (1 = 1 ∧ 11 + 0 = 11) by omega), if_pos rfl, if_neg u1]
            rfl
          · have h0 : dd = 1 := hdd
            subst h0
            rw [if_pos (show (1 = 1 ∧ 11 + 1 = 12) by omega), if_neg u1]
            unfold fMo_readPerson_J175
            simp only [lit]
            rw [if_neg u1, shl_1 (by omega), if_pos trivial]
        have k35 : (sI m4 3 (27 + n) (nI w)).1 3 35 = nI (msk n sr) := by
          rw [sI_1, if_neg (by omega), w8.1 3 (by omega), sI_1, if_neg (by omega), j8.1 3 (by omega), h3 35 (by omega)]
          exact d7
        have lJ : ∀ (mm : Obj) (k3 : Int32) (o : Int32), mm.1 3 35 ||| k3 = o → fMo_readPerson_J194 mm (nI n) (nI 35) (mm.1 3 35) k3 = (fMo_next (sI mm 3 35 o)).bind fun r21 => (iter (fMo_readPerson_L202 (nI n)) FU (nI 0, r21)).bind fun e26 => some (nI 1, sI e26 3 1 (e26.1 3 1 + nI 1)) := fun mm k3 o ho => by
          unfold fMo_readPerson_J194
          simp only [lit, bnd]
          rw [ix_nI (by omega) (by omega), Option.bind_some, ho]
        rw [lM2, lJ _ _ (nI (msk n sr ||| (if st then 2 ^ n else 0))) (by rw [k35, nx_or])]
        have hs6 : syn z lim b 1 (11 + dd) l2 pl2 p4 ta4 (sI (sI m4 3 (27 + n) (nI w)) 3 35 (nI (msk n sr ||| (if st then 2 ^ n else 0)))) := x3
        obtain ⟨m7, y1, y2, y3⟩ := syn_lag hs6 (by decide)
        have m73 : m7.1 3 = (sI (sI m4 3 (27 + n) (nI w)) 3 35 (nI (msk n sr ||| (if st then 2 ^ n else 0)))).1 3 := y2.1 3 (by omega)
        obtain ⟨q', sc', m8, z1, z2, z3, z4, z5, z6, z7, z8⟩ := dR_person (m1 := m7) hd hn (a := a) (w := w) (d := d) (by omega) (by omega) hdh st hl' (fun j a1 a2 a3 a4 => by rw [m73, sI_1, if_neg (by omega), sI_1, if_neg (by omega), w8.1 3 (by omega), sI_1, if_neg (by omega), j8.1 3 (by omega), h3 j a1])
          (by rw [m73, sI_1, if_neg (by omega), sI_1, if_neg (by omega), w8.1 3 (by omega), sI_1, if_neg (by omega), j8.1 3 (by omega), k11])
          (by rw [m73, sI_1, if_neg (by omega), sI_1, if_neg (by omega), w8.1 3 (by omega), sI_1, if_pos ⟨rfl, rfl⟩])
          (by rw [m73, sI_1, if_neg (by omega), sI_1, if_pos ⟨rfl, rfl⟩])
          (by rw [m73, sI_1, if_pos ⟨rfl, rfl⟩])
          (by rw [y2.2.2 5 (by omega)]; show m4.2 5 = _; rw [w8.2.1 5 (by omega)]; show m2.2 5 = _; rw [j8.2.1 5 (by omega), h5])
          (by rw [y2.2.1 20 (by omega) (by omega)]; show m4.1 0 20 = _; rw [w8.2.2 20 (by omega) (by omega) (by omega)]; show m2.1 0 20 = _; rw [j8.2.2 20 (by omega) (by omega) (by omega), h20])
        have hH : moH m7 (sI m8 3 1 (nI (n + 1))) := by
          refine ⟨?_, fun i _ _ => ?_, ?_, ?_⟩
          · show m8.1 1 = _
            rw [z6 1 (by omega)]
          · show m8.1 0 i = _
            rw [z6 0 (by omega)]
          · show m8.2 0 = _
            rw [z7]
          · show m8.2 6 = _
            rw [z7]
        refine ⟨q', ta4, sc', sI m8 3 1 (nI (n + 1)), ?_, ?_, ⟨_, _, _, _, _, _, _, _, _, _, _, _, z8⟩, lag_le (lag_H y3 hH) (by omega), taB_trans j7 (taB_trans (taB_F w7) (taB_F x5)), ?_, ?_, ?_⟩
        · rw [lC, x2, Option.bind_some]
          unfold fQr_readPerson_J150
          simp only [lit]
          rw [if_neg (nI_ne_m1' (by omega)), hdd, z1, Option.bind_some, z3, nsub (by omega), Nat.add_sub_cancel, z2]
          rfl
        · rw [y1, Option.bind_some, z4, Option.bind_some, z5, nadd]
        · refine moQ_trans qa (moQ_trans moQ_3 (moQ_trans (moQ_F y2) ?_))
          refine ⟨fun j a1 a2 => ?_, fun j a1 a2 => ?_, fun i a1 => ?_, fun i a1 a2 => ?_⟩
          · show va_up m8.1 3 _ j = _
            rw [va_up_ne _ _ a2, z6 j a2]
          · show m8.2 j = _
            rw [z7]
          · show m8.2 5 i = _
            rw [z7]
          · show m8.1 0 i = _
            rw [z6 0 (by omega)]
        · rw [x5.2.1 2 (by omega) (by omega) (by omega) (by omega), w7.2.1 2 (by omega) (by omega) (by omega) (by omega), j9]
        · show m8.1 0 15 = _
          rw [z6 0 (by omega), y2.2.1 15 (by omega) (by omega)]
          show m4.1 0 15 = _
          rw [w9]
          show m2.1 0 15 = _
          rw [j10]
      · right
        refine ⟨q, ta4, sc, m5, ?_, ?_, x3, taB_trans j7 (taB_trans (taB_F w7) x4), moQ_trans qa (moQ_B x5)⟩
        · rw [lC, x1, Option.bind_some, j150_no]
        · rw [lM, x6 12 (by omega) (by omega), Option.bind_some, if_pos rfl, x6 11 (by omega) (by omega), Option.bind_some, if_pos rfl, x2]
          simp only [Option.bind_some, bz_0]
    · right
      refine ⟨q, ta3, sc, m4, ?_, ?_, w3, taB_trans j7 w4, moQ_trans (moQ_B j8) (moQ_trans moQ_3 (moQ_B w5))⟩
      · rw [lC, w1, Option.bind_some, j127_no]
      · rw [lM, w2, Option.bind_some, if_pos rfl]
  · right
    refine ⟨q, ta2, sc, m2, ?_, ?_, j3, j4, moQ_B j5⟩
    · rw [lC, j1, Option.bind_some, if_pos rfl, j127_no]
    · rw [lM, j2, Option.bind_some, if_pos rfl]
theorem person_line (hd : dR n h L e t hp hm sr S fa fb fc q qr sc m) (hs : syn z lim b 1 v0 l pl p ta m) : (∃ q' ta' sc' m', fQr_readPerson q ta sc = some (nI 1, q', ta', sc') ∧ fMo_readPerson m = some (nI 1, m') ∧ lnOK z lim b p ta m q' qr ta' sc' m') ∨ (∃ q' ta' sc' m', fQr_readPerson q ta sc = some (nI 0, q', ta', sc') ∧ fMo_readPerson m = some (nI 0, m') ∧ lnNO ta m ta' m') := by
  have u1 : ¬ nI 1 = nI 0 := by decide +kernel
  obtain ⟨hB, hC, hM, hN, -, r3, r4, r5, r20⟩ := id hd
  obtain ⟨b1, b2, b3, b4, b5, b6, b7, b8, b9⟩ := id hB
  have c3 := hC.1.2.2.2.1
  have c4 := hC.1.2.2.2.2
  have d0 := hM.1.1
  have d1 := hM.1.2.1
  obtain ⟨o1, o2, o3, o4, o5, o6, o7⟩ := on_bits (fa || decide (0 < h ∨ 0 < n)) fb fc
  by_cases h8 : n = 8
  · right
    obtain ⟨ta', m', g1, g2, g3⟩ := refuse_q hs 4
    refine ⟨q, ta', sc, m', ?_, ?_, g3⟩
    · unfold fQr_readPerson
      simp only [lit]
      rw [c4, if_neg (by rw [nlt (by omega) (by omega)]; omega), g1]
      simp only [Option.bind_some, bz_0]
    · unfold fMo_readPerson
      simp only [lit, bnd]
      rw [d1, if_pos (by rw [h8]), g2]
      simp only [Option.bind_some, bz_0]
  · have hs' : syn z lim b 1 v0 l pl p ta (sI m 0 20 (nI (bn true + 2 * bn fb + 4 * bn fc))) := hs
    obtain ⟨m1, g1, g2, g3⟩ := syn_lag hs' (by decide)
    have m13 : m1.1 3 = m.1 3 := by rw [g2.1 3 (by omega)]; rfl
    have m15 : m1.2 5 = m.2 5 := by rw [g2.2.2 5 (by omega)]; rfl
    have m120 : m1.1 0 20 = nI (bn true + 2 * bn fb + 4 * bn fc) := by rw [g2.2.1 20 (by omega) (by omega), sI_1, if_pos ⟨rfl, rfl⟩]
    have m115 : m1.1 0 15 = m.1 0 15 := by rw [g2.2.1 15 (by omega) (by omega)]; rfl
    have q1 : moQ m m1 := moQ_trans (moQ_0 (by omega)) (moQ_F g2)
    have lM : fMo_readPerson m = (fMo_fresh m1 (nI (20 + n))).bind fun r5 => if r5.1 = nI 0 then some (nI 0, r5.2) else (fMo_isWord (sI r5.2 3 (11 + n) (nI 0)) (kw8 (kws.getD 3 []))).bind fun r8 => if r8 = nI 0 then (fMo_takesName (sI r5.2 3 (11 + n) (nI 0)) (nI 14) ((sI r5.2 3 (11 + n) (nI 0)).1 3 0)).bind fun r9 => if r9.1 = nI 0 then some (nI 0, r9.2) else fMo_readPerson_J105 (sI r9.2 3 (11 + n) (r9.2.1 0 18 + nI 1)) (nI n) else (fMo_next (sI r5.2 3 (11 + n) (nI 0))).bind fun r28 => fMo_readPerson_J105 r28 (nI n) := by
      have e1 : (500135193968 : Int64) = kw8 (kws.getD 3 []) := by decide +kernel
      unfold fMo_readPerson
      rw [e1]
      simp only [lit, bnd]
      rw [d1, if_neg (by rw [neq (by omega) (by omega)]; exact h8), r20, o7, g1, Option.bind_some, nadd, nadd, ix_nI (by omega) (by omega)]
      simp only [Option.bind_some]
    have lC : fQr_readPerson q ta sc = (fTa_takeNewName q ta).bind fun r1 => if lg_cmp r1.1 (0 : Int64) = nI 0 then some (nI 0, q, r1.2, sc) else (fTa_take r1.2).bind fun r2 => (fTa_isWord r2 (nI 3)).bind fun r3 => if r3 = nI 0 then (fTa_houseHere q r2).bind fun r4 => fQr_readPerson_J73 q r4.2 sc r1.1 r3 r4.1 else fQr_readPerson_J73 q r2 sc r1.1 r3 (-nI 1) := by
      unfold fQr_readPerson
      simp only [lit]
      rw [c4, if_pos (by rw [nlt (by omega) (by omega)]; omega)]
    rcases new_both (n := n) (h := h) (to' := 20 + n) (by omega) b2 b1 c3 c4 (by rw [m13]; exact d0) (by rw [m13]; exact d1) (by rw [m15]; exact hN) g3 with ⟨l', ta', m', p', l1, l2, l3, j1, j2, j3, j4, j5, j6, j7, j8, j9, j10⟩ | ⟨ta', m', j1, j2, j3⟩
    · have hnm : nmR (kw5 l') (kw8 l') := ⟨l', l2, l3, l1, rfl, rfl⟩
      have hz0 : ¬ lg_cmp (kw5 l') (0 : Int64) = nI 0 := fun w => nmR_0 hnm ((lcmpN _ _).mp w)
      rw [j1, Option.bind_some, if_neg hz0] at lC
      rw [j2, Option.bind_some, if_neg u1] at lM
      obtain ⟨ta1, k, v, l5, pl5, p5, t1, t2, t3, t4, t5⟩ := j3
      have hsy : syn z lim b k v l5 pl5 p5 ta1 (sI m' 3 (11 + n) (nI 0)) := t3
      have iC := ta_isW t3 (w := 3) (by omega)
      have iM := mo_isW hsy (w := 3) (by omega)
      rw [t1, Option.bind_some, iC, Option.bind_some] at lC
      simp only at lM
      rw [iM, Option.bind_some] at lM
      have row3 : ∀ j, j ≠ 11 + n → m'.1 3 j = m.1 3 j := fun j _ => by rw [j6, m13]
      have name5 : m'.2 5 = va_up (m.2 5) (20 + n) (kw8 l') := by rw [j5, m15]
      have on20 : m'.1 0 20 = nI (bn true + 2 * bn fb + 4 * bn fc) := by rw [j7, m120]
      by_cases htr : k = 1 ∧ v = 3
      · rw [if_pos htr, if_neg u1] at lC lM
        obtain ⟨m3, y1, y2, y3⟩ := syn_lag hsy (by omega)
        have hp5 := t4 (by omega) (by omega)
        rw [y1, Option.bind_some] at lM
        have lJ : fQr_readPerson_J73 q ta1 sc (kw5 l') (nI 1) (-nI 1) = fQr_readPerson_J87 q ta1 sc (kw5 l') (nI 0 - nI 1) := by
          rw [← neg1]
          show (if nI 1 = nI 0 then _ else _) = _
          rw [if_neg u1]
        rw [lJ] at lC
        rcases pers_tail (m1 := m3) (d := 0) hd (by omega) (by omega) hnm (fun j hj => by rw [y2.1 3 (by omega), sI_1, if_neg (by omega)]; exact row3 j hj) (by rw [y2.1 3 (by omega), sI_1, if_pos ⟨rfl, rfl⟩]) (by rw [y2.2.2 5 (by omega)]; exact name5) (by rw [y2.2.1 20 (by omega) (by omega)]; exact on20) y3 with ⟨q', ta2, sc', m4, x1, x2, x3, x4, x5, x6, x7, x8⟩ | ⟨q', ta2, sc', m4, x1, x2, x3, x4, x5⟩
        · left
          refine ⟨q', ta2, sc', m4, lC.trans x1, lM.trans x2, x3, lag_le x4 (by omega), taB_trans (taB_F j9) (taB_trans (taB_F t2) x5), moQ_trans q1 (moQ_trans j10 (moQ_trans moQ_3 (moQ_trans (moQ_F y2) x6))), ?_, ?_⟩
          · rw [x7, t2.2.1 2 (by omega) (by omega) (by omega) (by omega), j9.2.1 2 (by omega) (by omega) (by omega) (by omega)]
          · rw [x8, y2.2.1 15 (by omega) (by omega)]
            show m'.1 0 15 = _
            rw [j8, m115]
        · right
          exact ⟨q', ta2, sc', m4, lC.trans x1, lM.trans x2, x3, taB_trans (taB_F j9) (taB_trans (taB_F t2) x4), moQ_trans q1 (moQ_trans j10 (moQ_trans moQ_3 (moQ_trans (moQ_F y2) x5)))⟩
      · rw [if_neg htr, if_pos rfl] at lC lM
        have hN5 : ∀ j, j < h → nmR (q.2 3 j) ((sI m' 3 (11 + n) (nI 0)).2 5 (14 + j)) := fun j hj => by
          show nmR _ (m'.2 5 (14 + j))
          rw [name5, va_up_at, if_neg (by omega)]
          exact hN.1 j hj
        have m30 : (sI m' 3 (11 + n) (nI 0)).1 3 0 = nI h := by rw [sI_1, if_neg (by omega), row3 0 (by omega)]; exact d0
        have lT : fMo_takesName (sI m' 3 (11 + n) (nI 0)) (nI 14) (nI h) = (fMo_looksAt (sI m' 3 (11 + n) (nI 0)) (nI 14) (nI h)).bind fun r1 => if r1.1 = nI 0 then some (nI 0, r1.2) else (fMo_next r1.2).bind fun r2 => some (nI 1, r2) := rfl
        rw [m30, lT] at lM
        rcases ho_here (c := h) (base := 14) (by omega) (by omega) c3 hN5 hsy with ⟨j, k1, k2, k3, k4⟩ | ⟨ta2, m2, k1, k2, k3, k4, k5⟩
        · subst k2
          rw [k3, Option.bind_some] at lC
          rw [k4, Option.bind_some, if_neg u1] at lM
          have hs18 : syn z lim b 2 v l5 pl5 p5 ta1 (sI (sI m' 3 (11 + n) (nI 0)) 0 18 (nI j)) := hsy
          obtain ⟨m3, y1, y2, y3⟩ := syn_lag hs18 (by decide)
          have hp5 := t4 (by omega) (by omega)
          have m318 : m3.1 0 18 = nI j := by rw [y2.2.1 18 (by omega) (by omega), sI_1, if_pos ⟨rfl, rfl⟩]
          rw [y1, Option.bind_some, Option.bind_some, if_neg u1] at lM
          simp only at lM
          rw [m318, nadd] at lM
          have lJ : fQr_readPerson_J73 q ta1 sc (kw5 l') (nI 0) (nI j) = fQr_readPerson_J87 q ta1 sc (kw5 l') (nI (j + 1) - nI 1) := by
            rw [nsub (by omega), Nat.add_sub_cancel]
            show (if nI 0 = nI 0 then (if nI j = -nI 1 then _ else _) else _) = _
            rw [if_pos rfl, if_neg (nI_ne_m1' (by omega))]
          rw [lJ] at lC
          have m33 : m3.1 3 = (sI m' 3 (11 + n) (nI 0)).1 3 := y2.1 3 (by omega)
          rcases pers_tail (m1 := sI m3 3 (11 + n) (nI (j + 1))) (d := j + 1) hd (by omega) (by omega) hnm (fun i hi => by rw [sI_1, if_neg (by omega), m33, sI_1, if_neg (by omega)]; exact row3 i hi) (by rw [sI_1, if_pos ⟨rfl, rfl⟩]) (by show m3.2 5 = _; rw [y2.2.2 5 (by omega)]; exact name5) (by show m3.1 0 20 = _; rw [y2.2.1 20 (by omega) (by omega)]; exact on20) (lag_3 y3) with ⟨q', ta2, sc', m4, x1, x2, x3, x4, x5, x6, x7, x8⟩ | ⟨q', ta2, sc', m4, x1, x2, x3, x4, x5⟩
          · left
            refine ⟨q', ta2, sc', m4, lC.trans x1, lM.trans x2, x3, lag_le x4 (by omega), taB_trans (taB_F j9) (taB_trans (taB_F t2) x5), moQ_trans q1 (moQ_trans j10 (moQ_trans moQ_3 (moQ_trans (moQ_0 (by omega)) (moQ_trans (moQ_F y2) (moQ_trans moQ_3 x6))))), ?_, ?_⟩
            · rw [x7, t2.2.1 2 (by omega) (by omega) (by omega) (by omega), j9.2.1 2 (by omega) (by omega) (by omega) (by omega)]
            · rw [x8]
              show m3.1 0 15 = _
              rw [y2.2.1 15 (by omega) (by omega)]
              show m'.1 0 15 = _
              rw [j8, m115]
          · right
            exact ⟨q', ta2, sc', m4, lC.trans x1, lM.trans x2, x3, taB_trans (taB_F j9) (taB_trans (taB_F t2) x4), moQ_trans q1 (moQ_trans j10 (moQ_trans moQ_3 (moQ_trans (moQ_0 (by omega)) (moQ_trans (moQ_F y2) (moQ_trans moQ_3 x5)))))⟩
        · right
          rw [k1, Option.bind_some] at lC
          rw [k2, Option.bind_some, if_pos rfl, Option.bind_some, if_pos rfl] at lM
          refine ⟨q, ta2, sc, m2, ?_, lM, k3, taB_trans (taB_F j9) (taB_trans (taB_F t2) k4), moQ_trans q1 (moQ_trans j10 (moQ_trans moQ_3 (moQ_B k5)))⟩
          rw [lC]
          show (if nI 0 = nI 0 then (if -nI 1 = -nI 1 then _ else _) else _) = _
          rw [if_pos rfl, if_pos rfl]
          rfl
    · right
      rw [j1, Option.bind_some, if_pos ((lcmpN _ _).mpr rfl)] at lC
      rw [j2, Option.bind_some, if_pos rfl] at lM
      exact ⟨q, ta', sc, m', lC, lM, j3.1, j3.2.1, moQ_trans q1 j3.2.2⟩
end
