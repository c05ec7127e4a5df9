def moQ2 (m m' : Obj) : Prop := (∀ j, j ≠ 0 → j ≠ 3 → m'.1 j = m.1 j) ∧ (∀ j, j ≠ 0 → j ≠ 5 → m'.2 j = m.2 j) ∧ (∀ i, i < 14 → m'.2 5 i = m.2 5 i) ∧ ∀ i, i ≠ 4 → i < 11 ∨ 20 < i → m'.1 0 i = m.1 0 i
theorem moQ2_refl (m : Obj) : moQ2 m m := ⟨fun _ _ _ => rfl, fun _ _ _ => rfl, fun _ _ => rfl, fun _ _ _ => rfl⟩
theorem moQ2_trans {a b c : Obj} (h1 : moQ2 a b) (h2 : moQ2 b c) : moQ2 a c := ⟨fun j x y => (h2.1 j x y).trans (h1.1 j x y), fun j x y => (h2.2.1 j x y).trans (h1.2.1 j x y), fun i x => (h2.2.2.1 i x).trans (h1.2.2.1 i x), fun i x y => (h2.2.2.2 i x y).trans (h1.2.2.2 i x y)⟩
theorem moQ2_Q {m m' : Obj} (h : moQ m m') : moQ2 m m' := ⟨h.1, h.2.1, h.2.2.1, fun i x y => h.2.2.2 i x (by omega)⟩
theorem moQ2_19 {m : Obj} {v : Int32} : moQ2 m (sI m 0 19 v) := ⟨fun j hj _ => va_up_ne _ _ hj, fun _ _ _ => rfl, fun _ _ => rfl, fun i' _ _ => by rw [sI_1, if_neg (by omega)]⟩
section
variable {X X' X1 : Nat → Obj} {z lim : Nat} {b : Nat → Nat} {ta ta1 m ta' m' m1 x y q q' qr qr' sc sc' : Obj} {k v v0 pl p p0 : Nat} {l : List Nat} {n h L e t : Nat} {hp hm : Nat → Nat} {sr sr' : Nat → Bool} {S : Nat → Nat → Nat} {fa fb fc : Bool}
/-- a text begins to be read -/
theorem start_both (hlim : lim ≤ 940) (hz : z ≤ 940) (t1 : ta.1 0 1 = nI z) (hb : ∀ i, i < z → ta.1 2 i = m1.1 1 i ∧ isB (m1.1 1 i)) (hW : pWds (ta.2 1) (m1.2 6)) (h3 : m1.1 0 3 = nI z) (h4 : m1.1 0 4 = nI 0) (h5 : m1.1 0 5 = nI lim) : ∃ b k v l pl p ta' m', fTa_startReading ta (nI lim) = some ta' ∧ fMo_next m1 = some m' ∧ syn z lim b k v l pl p ta' m' ∧ (k ≠ 0 → k ≠ 5 → 0 < p) ∧ moF m1 m' ∧ ta'.1 2 = ta.1 2 ∧ ta'.2 1 = ta.2 1 ∧ ta'.1 0 1 = ta.1 0 1 ∧ ta'.1 0 2 = nI 0 := by
  have hb' : ∃ b : Nat → Nat, ∀ i, i < z → b i < 256 ∧ m1.1 1 i = i2b (nI (b i)) := by
    refine ⟨fun i => if h : i < z then Classical.choose (hb i h).2 else 0, fun i hi => ?_⟩
    simp only [hi, dif_pos]
    exact Classical.choose_spec (hb i hi).2
  obtain ⟨b, hb2⟩ := hb'
  have hrd : rdB z lim b (sI (sI (sI (sI ta 0 8 (nI lim)) 0 9 (nI 0)) 0 2 (nI 0)) 0 3 (nI 0)) m1 := by
    refine ⟨hz, hlim, t1, h3, rfl, h5, fun i hi => ⟨?_, (hb2 i hi).2, (hb2 i hi).1⟩, hW⟩
    show ta.1 2 i = _
    rw [(hb i hi).1]; exact (hb2 i hi).2
  obtain ⟨k, v, l, pl, p, ta', m', g1, g2, g3, g4, g5, g6, g7, g8⟩ := take_both (p := 0) hrd (by omega) rfl h4
  refine ⟨b, k, v, l, pl, p, ta', m', ?_, g2, ⟨rdB_f hrd g3 g4, g5, g6, g7⟩, g8, g4, ?_, ?_, ?_, ?_⟩
  · have e0 : fTa_startReading ta (nI lim) = (fTa_take (sI (sI (sI (sI ta 0 8 (nI lim)) 0 9 (nI 0)) 0 2 (nI 0)) 0 3 (nI 0))).bind fun r5 => some r5 := rfl
    rw [e0, g1]; rfl
  · rw [g3.1 2 (by omega)]; rfl
  · rw [g3.2.2 1 (by omega)]; rfl
  · rw [g3.2.1 1 (by omega) (by omega) (by omega) (by omega)]; rfl
  · rw [g3.2.1 2 (by omega) (by omega) (by omega) (by omega)]; rfl
theorem line_both (hd : dR n h L e t hp hm sr S fa fb fc q qr sc m) (hs : syn z lim b k v l pl p ta m) : (∃ q' qr' ta' sc' m', fQr_readLine q qr ta sc = some (nI 1, q', qr', ta', sc') ∧ fMo_readLine m = some (nI 1, m') ∧ k ≠ 0 ∧ k ≠ 5 ∧ lnOK z lim b p ta m q' qr' ta' sc' m') ∨ (∃ q' qr' ta' sc' m', fQr_readLine q qr ta sc = some (nI 0, q', qr', ta', sc') ∧ fMo_readLine m = some (nI 0, m') ∧ lnNO ta m ta' m') := by
  have u1 : ¬ nI 1 = nI 0 := by decide +kernel
  have w0 := mo_isW hs (w := 0) (by omega)
  have w1 := mo_isW hs (w := 1) (by omega)
  have w2 := mo_isW hs (w := 2) (by omega)
  have w4 := mo_isW hs (w := 4) (by omega)
  have w5 := mo_isW hs (w := 5) (by omega)
  have w6 := mo_isW hs (w := 6) (by omega)
  have w7 := mo_isW hs (w := 7) (by omega)
  have e0 : (1818324581 : Int64) = kw8 (kws.getD 0 []) := by decide +kernel
  have e1 : (448546567013 : Int64) = kw8 (kws.getD 1 []) := by decide +kernel
  have e2 : (123581014175598 : Int64) = kw8 (kws.getD 2 []) := by decide +kernel
  have e4 : (461414299507 : Int64) = kw8 (kws.getD 4 []) := by decide +kernel
  have e5 : (426836257907 : Int64) = kw8 (kws.getD 5 []) := by decide +kernel
  have e6 : (6644082 : Int64) = kw8 (kws.getD 6 []) := by decide +kernel
  have e7 : (1937006969 : Int64) = kw8 (kws.getD 7 []) := by decide +kernel
  obtain ⟨-, ⟨t1, t2, t3, t4, t5⟩, -⟩ := id hs
  have lM : fMo_readLine m = if k = 1 ∧ v = 0 then ((fMo_once m (nI 0)).bind fun r17 => if r17.1 = nI 0 then some (nI 0, r17.2) else (fMo_puts r17.2 (nI 2) (nI 2) (nI 20)).bind fun r18 => if r18.1 = nI 0 then some (nI 0, r18.2) else some (nI 1, r18.2)) else if k = 1 ∧ v = 6 then ((fMo_once m (nI 1)).bind fun r15 => if r15.1 = nI 0 then some (nI 0, r15.2) else (fMo_puts r15.2 (nI 3) (nI 0) (nI 9)).bind fun r16 => if r16.1 = nI 0 then some (nI 0, r16.2) else some (nI 1, r16.2)) else if k = 1 ∧ v = 7 then ((fMo_once m (nI 2)).bind fun r13 => if r13.1 = nI 0 then some (nI 0, r13.2) else (fMo_puts r13.2 (nI 4) (nI 1) (nI 30)).bind fun r14 => if r14.1 = nI 0 then some (nI 0, r14.2) else some (nI 1, r14.2)) else if k = 1 ∧ v = 1 then ((fMo_readHouse m).bind fun r12 => some (bz r12.1, r12.2)) else if k = 1 ∧ v = 2 then ((fMo_readPerson m).bind fun r12 => some (bz r12.1, r12.2)) else if k = 1 ∧ v = 4 then ((fMo_readKnows m).bind fun r12 => some (bz r12.1, r12.2)) else if k = 1 ∧ v = 5 then ((fMo_readCalls m).bind fun r12 => some (bz r12.1, r12.2)) else ((fMo_bad m (nI 1)).bind fun r12 => some (bz r12.1, r12.2)) := by
    have io : ∀ {c : Prop} [Decidable c] {α : Type} (a b : α), (if nI (if c then 1 else 0) = nI 0 then a else b) = if c then b else a := fun {c} _ α a b => by
      by_cases hc : c
      · rw [if_pos hc, if_pos hc, if_neg u1]
      · rw [if_neg hc, if_neg hc, if_pos rfl]
    unfold fMo_readLine
    rw [e0, e1, e2, e4, e5, e6, e7]
    simp only [lit]
    rw [w0, w1, w2, w4, w5, w6, w7]
    simp only [Option.bind_some, io]
  by_cases hk : k = 1
  · subst hk
    obtain ⟨-, a1, a2, -⟩ : (1 = 1 ∧ v < 29 ∧ ta.1 0 5 = nI v ∧ m.1 0 11 = nI 1 ∧ m.2 0 17 = kw8 (kws.getD v [])) := by
      rcases t5 with t | t | t | t | t | t
      · exact absurd t.1 (by decide)
      · exact t
      · exact absurd t.1 (by decide)
      · exact absurd t.1 (by decide)
      · exact absurd t.1 (by decide)
      · exact absurd t.1 (by decide)
    have lC : fQr_readLine q qr ta sc = if v = 0 then ((fQr_readLane q qr ta).bind fun r1 => some (bz r1.1, r1.2.1, r1.2.2.1, r1.2.2.2, sc)) else if v = 1 then ((fQr_readHouse q ta).bind fun r2 => some (bz r2.1, r2.2.1, qr, r2.2.2, sc)) else if v = 2 then ((fQr_readPerson q ta sc).bind fun r3 => some (bz r3.1, r3.2.1, qr, r3.2.2.1, r3.2.2.2)) else if v = 4 then ((fQr_readKnows q ta sc).bind fun r4 => some (bz r4.1, q, qr, r4.2.1, r4.2.2)) else if v = 5 then ((fQr_readCalls q ta sc).bind fun r5 => some (bz r5.1, q, qr, r5.2.1, r5.2.2)) else if v = 6 then ((fQr_readEar q qr ta).bind fun r6 => some (bz r6.1, r6.2.1, r6.2.2.1, r6.2.2.2, sc)) else if v = 7 then ((fQr_readStay q qr ta).bind fun r7 => some (bz r7.1, r7.2.1, r7.2.2.1, r7.2.2.2, sc)) else ((fQr_refuse ta (nI 1)).bind fun r8 => some (bz r8.1, q, qr, r8.2, sc)) := by
      have iv : ∀ {α : Type} (w : Nat) (a b : α), w < 29 → (if nI v = nI w then a else b) = if v = w then a else b := fun {α} w a b hw => by
        by_cases hv : v = w
        · rw [if_pos hv, if_pos (by rw [hv])]
        · rw [if_neg hv, if_neg (by rw [neq (by omega) (by omega)]; exact hv)]
      unfold fQr_readLine
      simp only [lit]
      rw [t1, if_pos rfl, a2, iv 0 _ _ (by omega), iv 1 _ _ (by omega), iv 2 _ _ (by omega), iv 4 _ _ (by omega), iv 5 _ _ (by omega), iv 6 _ _ (by omega), iv 7 _ _ (by omega)]
    simp only [true_and] at lM
    by_cases hv0 : v = 0
    · rw [if_pos hv0] at lC lM
      rcases lane_line hd hs with ⟨q', qr', ta', m', g1, g2, g3⟩ | ⟨q', qr', ta', m', g1, g2, g3⟩
      · left
        exact ⟨q', qr', ta', sc, m', by rw [lC, g1]; simp only [Option.bind_some, bz_1], lM.trans g2, by decide, by decide, g3⟩
      · right
        exact ⟨q', qr', ta', sc, m', by rw [lC, g1]; simp only [Option.bind_some, bz_0], lM.trans g2, g3⟩
    rw [if_neg hv0] at lC lM
    by_cases hv6 : v = 6
    · rw [if_neg (by omega), if_neg (by omega), if_neg (by omega), if_neg (by omega), if_pos hv6] at lC
      rw [if_pos hv6] at lM
      rcases ear_line hd hs with ⟨q', qr', ta', m', g1, g2, g3⟩ | ⟨q', qr', ta', m', g1, g2, g3⟩
      · left
        exact ⟨q', qr', ta', sc, m', by rw [lC, g1]; simp only [Option.bind_some, bz_1], lM.trans g2, by decide, by decide, g3⟩
      · right
        exact ⟨q', qr', ta', sc, m', by rw [lC, g1]; simp only [Option.bind_some, bz_0], lM.trans g2, g3⟩
    rw [if_neg hv6] at lM
    by_cases hv7 : v = 7
    · rw [if_neg (by omega), if_neg (by omega), if_neg (by omega), if_neg (by omega), if_neg (by omega), if_pos hv7] at lC
      rw [if_pos hv7] at lM
      rcases stay_line hd hs with ⟨q', qr', ta', m', g1, g2, g3⟩ | ⟨q', qr', ta', m', g1, g2, g3⟩
      · left
        exact ⟨q', qr', ta', sc, m', by rw [lC, g1]; simp only [Option.bind_some, bz_1], lM.trans g2, by decide, by decide, g3⟩
      · right
        exact ⟨q', qr', ta', sc, m', by rw [lC, g1]; simp only [Option.bind_some, bz_0], lM.trans g2, g3⟩
    rw [if_neg hv7] at lM
    by_cases hv1 : v = 1
    · rw [if_pos hv1] at lC lM
      rcases house_line hd hs with ⟨q', ta', m', g1, g2, g3⟩ | ⟨q', ta', m', g1, g2, g3⟩
      · left
        exact ⟨q', qr, ta', sc, m', by rw [lC, g1]; simp only [Option.bind_some, bz_1], by rw [lM, g2]; simp only [Option.bind_some, bz_1], by decide, by decide, g3⟩
      · right
        exact ⟨q', qr, ta', sc, m', by rw [lC, g1]; simp only [Option.bind_some, bz_0], by rw [lM, g2]; simp only [Option.bind_some, bz_0], g3⟩
    rw [if_neg hv1] at lC lM
    by_cases hv2 : v = 2
    · rw [if_pos hv2] at lC lM
      rcases person_line hd hs with ⟨q', ta', sc', m', g1, g2, g3⟩ | ⟨q', ta', sc', m', g1, g2, g3⟩
      · left
        exact ⟨q', qr, ta', sc', m', by rw [lC, g1]; simp only [Option.bind_some, bz_1], by rw [lM, g2]; simp only [Option.bind_some, bz_1], by decide, by decide, g3⟩
      · right
        exact ⟨q', qr, ta', sc', m', by rw [lC, g1]; simp only [Option.bind_some, bz_0], by rw [lM, g2]; simp only [Option.bind_some, bz_0], g3⟩
    rw [if_neg hv2] at lC lM
    by_cases hv4 : v = 4
    · rw [if_pos hv4] at lC lM
      rcases knows_line hd hs with ⟨ta', sc', m', g1, g2, g3⟩ | ⟨ta', sc', m', g1, g2, g3⟩
      · left
        exact ⟨q, qr, ta', sc', m', by rw [lC, g1]; simp only [Option.bind_some, bz_1], by rw [lM, g2]; simp only [Option.bind_some, bz_1], by decide, by decide, g3⟩
      · right
        exact ⟨q, qr, ta', sc', m', by rw [lC, g1]; simp only [Option.bind_some, bz_0], by rw [lM, g2]; simp only [Option.bind_some, bz_0], g3⟩
    rw [if_neg hv4] at lC lM
    by_cases hv5 : v = 5
    · rw [if_pos hv5] at lC lM
      rcases calls_line hd hs with ⟨ta', sc', m', g1, g2, g3⟩ | ⟨ta', sc', m', g1, g2, g3⟩
      · left
        exact ⟨q, qr, ta', sc', m', by rw [lC, g1]; simp only [Option.bind_some, bz_1], by rw [lM, g2]; simp only [Option.bind_some, bz_1], by decide, by decide, g3⟩
      · right
        exact ⟨q, qr, ta', sc', m', by rw [lC, g1]; simp only [Option.bind_some, bz_0], by rw [lM, g2]; simp only [Option.bind_some, bz_0], g3⟩
    rw [if_neg hv5] at lC lM
    rw [if_neg hv6, if_neg hv7] at lC
    right
    obtain ⟨ta', m', g1, g2, g3⟩ := refuse_q hs 1
    exact ⟨q, qr, ta', sc, m', by rw [lC, g1]; simp only [Option.bind_some, bz_0], by rw [lM, g2]; simp only [Option.bind_some, bz_0], g3⟩
  · right
    obtain ⟨ta', m', g1, g2, g3⟩ := refuse_q hs 1
    refine ⟨q, qr, ta', sc, m', ?_, ?_, g3⟩
    · unfold fQr_readLine
      simp only [lit]
      rw [t1, if_neg (by rw [neq (by omega) (by omega)]; exact hk), g1]
      simp only [Option.bind_some, bz_0]
    · have no : ∀ w, ¬ (k = 1 ∧ v = w) := fun w c => hk c.1
      rw [lM, if_neg (no _), if_neg (no _), if_neg (no _), if_neg (no _), if_neg (no _), if_neg (no _), if_neg (no _), g2]
      simp only [Option.bind_some, bz_0]
theorem tk_end (hs : syn z lim b k v l pl p ta m) : fTa_isEnd ta = some (nI (if k = 0 then 1 else 0)) ∧ (m.1 0 11 = nI 0 ↔ k = 0) := by
  obtain ⟨-, ⟨t1, t2, t3, t4, t5⟩, -⟩ := hs
  have hk6 : k < 6 := by omega
  refine ⟨?_, ?_⟩
  · unfold fTa_isEnd
    simp only [lit]
    rw [t1]
    by_cases hk : k = 0
    · rw [if_pos (by rw [hk]), if_pos hk]
    · rw [if_neg (by rw [neq (by omega) (by omega)]; exact hk), if_neg hk]
  · rcases t5 with t | t | t | t | t | t
    · exact ⟨fun _ => t.1, fun _ => t.2⟩
    · rw [t.2.2.2.1]; exact ⟨fun w => absurd w (by decide +kernel), fun w => absurd (t.1.symm.trans w) (by decide)⟩
    · rw [t.2.2.2.2.2.1]; exact ⟨fun w => absurd w (by decide +kernel), fun w => absurd (t.1.symm.trans w) (by decide)⟩
    · rw [t.2.2.2.1]; exact ⟨fun w => absurd w (by decide +kernel), fun w => absurd (t.1.symm.trans w) (by decide)⟩
    · rw [t.2.2.2.2.1]; exact ⟨fun w => absurd w (by decide +kernel), fun w => absurd (t.1.symm.trans w) (by decide)⟩
    · rw [t.2]; exact ⟨fun w => absurd w (by decide +kernel), fun w => absurd (t.1.symm.trans w) (by decide)⟩
/-- all lines -/
theorem quarter_loop (hd : dRx q qr sc m) (hs : syn z lim b k v l pl p ta m) (hp0 : k ≠ 0 → k ≠ 5 → 0 < p) (h19 : m.1 0 19 = nI 0) : ∃ r r', iter fQr_readAll_L41 FU (nI 0, q, qr, ta, sc) = some r ∧ iter fMo_quarter_L35 FU m = some r' ∧
    ((∃ c q' qr' ta' sc' m', c < 940 ∧ r = .inl (nI c, q', qr', ta', sc') ∧ r' = .inl m' ∧ dRx q' qr' sc' m' ∧ m'.1 0 19 = nI c ∧ taB ta ta' ∧ moQ2 m m' ∧ ta'.1 0 2 = ta.1 0 2 ∧ m'.1 0 15 = m.1 0 15) ∨ (∃ q' qr' ta' sc' m', r = .inr (-nI 1, q', qr', ta', sc') ∧ r' = .inr (-nI 1 - m'.1 0 16, m') ∧ fai ta' m' ∧ taB ta ta' ∧ moQ2 m m')) := by
  have u1 : ¬ nI 1 = nI 0 := by decide +kernel
  refine iter2 (f := fQr_readAll_L41) (g := fMo_quarter_L35) (I := fun c a a' => c < 940 ∧ a.1 = nI c ∧ dRx a.2.1 a.2.2.1 a.2.2.2.2 a' ∧ a'.1 0 19 = nI c ∧ taB ta a.2.2.2.1 ∧ moQ2 m a' ∧ a.2.2.2.1.1 0 2 = ta.1 0 2 ∧ a'.1 0 15 = m.1 0 15 ∧ ∃ k v l pl p, syn z lim b k v l pl p a.2.2.2.1 a' ∧ (k ≠ 0 → k ≠ 5 → c < p))
    (E := fun r r' => (∃ c q' qr' ta' sc' m', c < 940 ∧ r = .inl (nI c, q', qr', ta', sc') ∧ r' = .inl m' ∧ dRx q' qr' sc' m' ∧ m'.1 0 19 = nI c ∧ taB ta ta' ∧ moQ2 m m' ∧ ta'.1 0 2 = ta.1 0 2 ∧ m'.1 0 15 = m.1 0 15) ∨ (∃ q' qr' ta' sc' m', r = .inr (-nI 1, q', qr', ta', sc') ∧ r' = .inr (-nI 1 - m'.1 0 16, m') ∧ fai ta' m' ∧ taB ta ta' ∧ moQ2 m m'))
    940 (by omega) (a := (nI 0, q, qr, ta, sc)) (a' := m) ⟨by omega, rfl, hd, h19, taB_refl _, moQ2_refl _, rfl, rfl, k, v, l, pl, p, hs, hp0⟩ (fun c a a' hc hI => ?_) (fun a a' hI => absurd hI.1 (by omega))
  obtain ⟨ac, aq, aqr, ata, asc⟩ := a
  obtain ⟨i1, i2, i3, i4, i5, i6, i7, i8, k, v, l, pl, p, i9, i10⟩ := hI
  simp only at i2 i3 i4 i5 i6 i7 i8 i9 i10
  subst i2
  obtain ⟨t1, t2⟩ := tk_end i9
  have lC : fQr_readAll_L41 (nI c, aq, aqr, ata, asc) = if k = 0 then some (.inr (.inl (nI c, aq, aqr, ata, asc))) else (fQr_readLine aq aqr ata asc).bind fun r8 => if r8.1 = nI 0 then some (.inr (.inr (-nI 1, r8.2.1, r8.2.2.1, r8.2.2.2.1, r8.2.2.2.2))) else (fTa_takeLineEnd r8.2.2.2.1).bind fun r9 => if r9.1 = nI 0 then some (.inr (.inr (-nI 1, r8.2.1, r8.2.2.1, r9.2, r8.2.2.2.2))) else some (.inl (nI (c + 1), r8.2.1, r8.2.2.1, r9.2, r8.2.2.2.2)) := by
    unfold fQr_readAll_L41
    simp only [lit]
    rw [if_neg (by rw [nle (by omega) (by omega)]; omega), t1, Option.bind_some, nadd]
    by_cases hk : k = 0
    · rw [if_pos hk, if_pos hk, if_neg u1]
    · rw [if_neg hk, if_neg hk, if_pos rfl]
  have lM : fMo_quarter_L35 a' = if k = 0 then some (.inr (.inl a')) else (fMo_readLine a').bind fun r8 => if r8.1 = nI 0 then some (.inr (.inr (-nI 1 - r8.2.1 0 16, r8.2))) else (fMo_sign r8.2 (nI 59)).bind fun r9 => if r9.1 = nI 0 then some (.inr (.inr (-nI 1 - r9.2.1 0 16, r9.2))) else some (.inl (sI r9.2 0 19 (r9.2.1 0 19 + nI 1))) := by
    unfold fMo_quarter_L35
    simp only [lit, bnd]
    by_cases hk : k = 0
    · rw [if_pos (t2.mpr hk), if_pos hk]
    · rw [if_neg (fun w => hk (t2.mp w)), if_neg hk]
  by_cases hk : k = 0
  · right
    rw [if_pos hk] at lC lM
    exact ⟨_, _, lC, lM, Or.inl ⟨c, aq, aqr, ata, asc, a', i1, rfl, rfl, i3, i4, i5, i6, i7, i8⟩⟩
  rw [if_neg hk] at lC lM
  obtain ⟨n, h, L, e, t, hp, hm, sr, S, fa, fb, fc, i3⟩ := i3
  rcases line_both i3 i9 with ⟨q', qr', ta', sc', m', g1, g2, g3, g4, g5, g6, g7, g8, g9, g10⟩ | ⟨q', qr', ta', sc', m', g1, g2, g3, g4, g5⟩
  · rw [g1, Option.bind_some, if_neg u1] at lC
    rw [g2, Option.bind_some, if_neg u1] at lM
    have hcp := i10 g3 g4
    simp only at lC lM
    rcases end_both g6 with ⟨k2, v2, l2, pl2, p2, ta2, m2, j1, j2, j3, j4, j5, j6, j7⟩ | ⟨ta2, m2, j1, j2, j3, j4, j5⟩
    · left
      rw [j1, Option.bind_some, if_neg u1] at lC
      rw [j2, Option.bind_some, if_neg u1] at lM
      simp only at lC lM
      have hz := j3.1.1
      have h19' : m2.1 0 19 = nI c := by
        rw [j5.2.1 19 (by omega) (by omega)]
        rw [g8.2.2.2 19 (by omega) (by omega)]; exact i4
      rw [h19', nadd] at lM
      refine ⟨_, _, lC, lM, by omega, rfl, ?_, ?_, taB_trans i5 (taB_trans g7 (taB_F j4)), moQ2_trans i6 (moQ2_trans (moQ2_Q (moQ_trans g8 (moQ_F j5))) moQ2_19), ?_, ?_, k2, v2, l2, pl2, p2, j3, fun a1 a2 => by have := j6 a1 a2; omega⟩
      · obtain ⟨n, h, L, e, t, hp, hm, sr, S, fa, fb, fc, g5⟩ := g5
        exact ⟨n, h, L, e, t, hp, hm, sr, S, fa, fb, fc, dR_m g5 (j5.1 3 (by omega)) (j5.2.2 5 (by omega)) (j5.2.1 20 (by omega) (by omega))⟩
      · rw [sI_1, if_pos ⟨rfl, rfl⟩]
      · show ta2.1 0 2 = _
        rw [j4.2.1 2 (by omega) (by omega) (by omega) (by omega), g9, i7]
      · show m2.1 0 15 = _
        rw [j5.2.1 15 (by omega) (by omega), g10, i8]
    · right
      rw [j1, Option.bind_some, if_pos rfl] at lC
      rw [j2, Option.bind_some, if_pos rfl] at lM
      exact ⟨_, _, lC, lM, Or.inr ⟨q', qr', ta2, sc', m2, rfl, rfl, j3, taB_trans i5 (taB_trans g7 j4), moQ2_trans i6 (moQ2_Q (moQ_trans g8 (moQ_B j5)))⟩⟩
  · right
    rw [g1, Option.bind_some, if_pos rfl] at lC
    rw [g2, Option.bind_some, if_pos rfl] at lM
    exact ⟨_, _, lC, lM, Or.inr ⟨q', qr', ta', sc', m', rfl, rfl, g3, taB_trans i5 g4, moQ2_trans i6 (moQ2_Q g5)⟩⟩
end
