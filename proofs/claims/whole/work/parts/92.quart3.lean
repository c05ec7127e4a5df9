section
variable {X X' X1 : Nat → Obj} {z lim : Nat} {b : Nat → Nat} {ta ta1 m ta' m' m1 x y q q' qr qr' sc sc' : Obj} {k v v0 pl p p0 : Nat} {l : List Nat} {n h L e t : Nat} {hp hm : Nat → Nat} {sr sr' : Nat → Bool} {S : Nat → Nat → Nat} {fa fb fc : Bool}
theorem dR_0 (c : q.1 0 0 = nI 10 ∧ q.1 0 1 = nI 2 ∧ q.1 0 2 = nI 3 ∧ q.1 0 3 = nI 0 ∧ q.1 0 4 = nI 0) (s : sc.1 0 1 = nI 0 ∧ sc.1 0 2 = nI 0 ∧ sc.1 0 3 = nI 0) (r : qr.1 0 3 = nI 0 ∧ qr.1 0 4 = nI 0 ∧ qr.1 0 5 = nI 0) (h2 : m.1 3 2 = nI 10) (h3 : m.1 3 3 = nI 2) (h4 : m.1 3 4 = nI 3) (h0 : ∀ i, i < 69 → i ≠ 2 → i ≠ 3 → i ≠ 4 → m.1 3 i = nI 0) (h20 : m.1 0 20 = nI 0) : dR 0 0 10 2 3 (fun _ => 0) (fun _ => 0) (fun _ => false) (fun _ _ => 0) false false false q qr sc m := by
  have no : ∀ {α : Prop} (k : Nat), k < 0 → α := fun k hk => absurd hk (Nat.not_lt_zero k)
  refine ⟨⟨by omega, by omega, by omega, by omega, by omega, by omega, by omega, fun k hk => no k hk, fun k hk => no k hk⟩, ⟨c, fun k hk => no k hk, fun k hk => no k hk⟩, ⟨⟨h0 0 (by omega) (by omega) (by omega) (by omega), h0 1 (by omega) (by omega) (by omega) (by omega), h2, h3, h4⟩, fun k hk => no k hk, fun k hk => no k hk, h0 35 (by omega) (by omega) (by omega) (by omega)⟩, ⟨fun k hk => no k hk, fun k hk => no k hk⟩, ⟨⟨⟨⟨Nat.zero_le _, Nat.zero_le _⟩, Nat.zero_le _⟩, fun k hk => no k hk, fun k hk => no k hk, fun k r hk => no k hk⟩, rfl, rfl, rfl, ⟨s, fun k hk => no k hk, fun k hk => no k hk⟩, fun k hk => no k hk, fun p _ hp8 => h0 (36 + p) (by omega) (by omega) (by omega) (by omega), h0 44 (by omega) (by omega) (by omega) (by omega), fun k hk => no k hk⟩, r.1, r.2.1, r.2.2, h20⟩
/-- what was read becomes the street -/
theorem str_fin {m4 : Obj} (hd : dR n h L e t hp hm sr S fa fb fc q qr sc m) {sy : Obj} (y0 : sy.1 0 0 = nI 0) (y1 : sy.1 0 1 = nI 0) (g5 : ∀ i, i < 14 → m4.2 5 i = m.2 5 (14 + i)) (g69 : ∀ i, i < 69 → m4.1 2 i = m.1 3 i) (g72 : m4.1 2 72 = m.1 3 44) (g8 : ∀ r, r < 8 → m4.1 2 (81 + r) = m.1 3 (19 + r) ∧ m4.1 2 (89 + r) = m.1 3 (27 + r) ∧ m4.1 2 (113 + r) = m.1 3 (36 + r)) (g12 : ∀ r, r < 12 → m4.1 2 (137 + r) = m.1 3 (45 + r) ∧ m4.1 2 (149 + r) = m.1 3 (57 + r)) (g0 : ∀ i, 69 ≤ i → i < 342 → i ≠ 72 → i < 81 ∨ (97 ≤ i ∧ i < 113) ∨ (121 ≤ i ∧ i < 137) ∨ 161 ≤ i → m4.1 2 i = nI 0) : pStr n h L e t hp hm sr q sc sy (m4.1 2) (m4.2 5) := by
  obtain ⟨hB, hC, ⟨⟨d0, d1, d2, d3, d4⟩, d5, d6, d7⟩, hN, ⟨s1, s2, s3, s4, s5, s6, s7, s8, s9⟩, -⟩ := hd
  obtain ⟨b1, b2, b3, b4, b5, b6, b7, b8, b9⟩ := id hB
  have hc := s1.1.2
  refine ⟨hB, hC, ⟨⟨?_, ?_, ?_, ?_, ?_⟩, fun k hk => ?_, fun p hpn => ?_, ?_⟩, ⟨fun k hk => ?_, fun p hpn => ?_⟩, ⟨S, s1, s5, ⟨⟨?_, ?_, ?_, ?_⟩, fun k hk => ?_, fun p hpn => ?_⟩, by omega, by omega⟩, ⟨0, 0, fun _ => 0, fun _ => 0, fun _ => 0, by omega, by omega, ⟨fun _ => rfl, fun _ => rfl⟩, y0, ⟨y1, fun i hi => absurd hi (by omega)⟩, ⟨?_, fun i hi => absurd hi (by omega)⟩, fun i hi => absurd hi (by omega), fun w => absurd rfl w⟩⟩
  · rw [g69 0 (by omega)]; exact d0
  · rw [g69 1 (by omega)]; exact d1
  · rw [g69 2 (by omega)]; exact d2
  · rw [g69 3 (by omega)]; exact d3
  · rw [g69 4 (by omega)]; exact d4
  · rw [g69 (5 + k) (by omega)]; exact d5 k hk
  · rw [g69 (11 + p) (by omega)]; exact d6 p hpn
  · rw [g69 35 (by omega)]; exact d7
  · rw [g5 k (by omega)]; exact hN.1 k hk
  · rw [g5 (6 + p) (by omega)]; exact hN.2 p hpn
  · show m4.1 2 69 = _
    rw [g0 69 (by omega) (by omega) (by omega) (by omega), s3]
  · show m4.1 2 70 = _
    rw [g0 70 (by omega) (by omega) (by omega) (by omega)]
    have : sm n (S 10) = 0 := by
      have := sm_le (n := n) (f := S 10) (b := 0) (fun p hp => by rw [(s6 p hp).2.2.2.2.1]; exact Nat.le_refl _)
      omega
    rw [this]
  · show m4.1 2 71 = _
    rw [g0 71 (by omega) (by omega) (by omega) (by omega), s4]
  · show m4.1 2 72 = _
    rw [g72]; exact s8
  · obtain ⟨w1, w2⟩ := g12 k (by omega)
    show m4.1 2 (69 + (68 + k)) = _ ∧ m4.1 2 (69 + (80 + k)) = _
    rw [show 69 + (68 + k) = 137 + k by omega, show 69 + (80 + k) = 149 + k by omega, w1, w2]
    exact s9 k hk
  · obtain ⟨w1, w2, w3⟩ := g8 p (by omega)
    obtain ⟨x1, x2, x3, x4, x5, x6, x7, x8⟩ := s6 p hpn
    show m4.1 2 (69 + (4 + p)) = _ ∧ m4.1 2 (69 + (12 + p)) = _ ∧ m4.1 2 (69 + (20 + p)) = _ ∧ m4.1 2 (69 + (28 + p)) = _ ∧ m4.1 2 (69 + (36 + p)) = _ ∧ m4.1 2 (69 + (44 + p)) = _ ∧ m4.1 2 (69 + (52 + p)) = _ ∧ m4.1 2 (69 + (60 + p)) = _
    rw [show 69 + (12 + p) = 81 + p by omega, show 69 + (20 + p) = 89 + p by omega, show 69 + (44 + p) = 113 + p by omega, w1, w2, w3, g0 (69 + (4 + p)) (by omega) (by omega) (by omega) (by omega), g0 (69 + (28 + p)) (by omega) (by omega) (by omega) (by omega), g0 (69 + (36 + p)) (by omega) (by omega) (by omega) (by omega), g0 (69 + (52 + p)) (by omega) (by omega) (by omega) (by omega), g0 (69 + (60 + p)) (by omega) (by omega) (by omega) (by omega), x1, x2, x3, x4, x5]
    exact ⟨rfl, x6, x7, rfl, rfl, x8, rfl, rfl⟩
  · exact g0 161 (by omega) (by omega) (by omega) (by omega)
theorem fin_ok : ∃ X7, fKL_finishReading X = some X7 ∧ X7 0 = sI (X 0) 0 12 ((X 1).1 0 2) ∧ X7 1 = sI (X 1) 0 1 (nI 0) ∧ ∀ j, j ≠ 0 → j ≠ 1 → X7 j = X j := by
  refine ⟨_, rfl, ?_, ?_, fun j h0 h1 => ?_⟩
  · rw [va_up_ne _ _ (by omega), va_up_at, if_pos rfl]
  · rw [va_up_at, if_pos rfl, va_up_ne _ _ (by omega)]
    rfl
  · rw [va_up_ne _ _ h1, va_up_ne _ _ h0]
theorem taken_ok (w : Int32) : ∃ m1, fMo_taken m w = some m1 ∧ m1.1 0 3 = m.1 0 2 ∧ m1.1 0 2 = nI 0 ∧ m1.1 0 4 = nI 0 ∧ m1.1 0 5 = w ∧ (∀ i, i < 2 ∨ 5 < i → m1.1 0 i = m.1 0 i) ∧ (∀ j, j ≠ 0 → m1.1 j = m.1 j) ∧ m1.2 = m.2 := by
  have e0 : fMo_taken m w = some (sI (sI (sI (sI m 0 3 (m.1 0 2)) 0 2 (nI 0)) 0 4 (nI 0)) 0 5 w) := by
    unfold fMo_taken
    simp only [lit, bnd]
  refine ⟨_, e0, ?_, ?_, ?_, ?_, fun i hi => ?_, fun j hj => ?_, rfl⟩
  · rw [sI_1, if_neg (by omega), sI_1, if_neg (by omega), sI_1, if_neg (by omega), sI_1, if_pos ⟨rfl, rfl⟩]
  · rw [sI_1, if_neg (by omega), sI_1, if_neg (by omega), sI_1, if_pos ⟨rfl, rfl⟩]
  · rw [sI_1, if_neg (by omega), sI_1, if_pos ⟨rfl, rfl⟩]
  · rw [sI_1, if_pos ⟨rfl, rfl⟩]
  · rw [sI_1, if_neg (by omega), sI_1, if_neg (by omega), sI_1, if_neg (by omega), sI_1, if_neg (by omega)]
  · show va_up (va_up (va_up (va_up m.1 0 _) 0 _) 0 _) 0 _ j = _
    rw [va_up_ne _ _ hj, va_up_ne _ _ hj, va_up_ne _ _ hj, va_up_ne _ _ hj]
theorem sI_0 {j : Nat} (hj : j ≠ 0) {i : Nat} {w : Int32} : (sI m 0 i w).1 j = m.1 j := va_up_ne _ _ hj
/-- the reference begins to read a QUARTER -/
theorem quart_m {z : Nat} (t2 : m.1 0 2 = nI z) : ∃ m1, fMo_quarter m = ((fMo_next m1).bind fun r7 => (iter fMo_quarter_L35 FU r7).bind fun z => Sum.elim (fun e11 => (iter fMo_quarter_L80 FU (nI 0, e11)).bind fun e17 => (iter fMo_quarter_L117 FU (nI 0, e17)).bind fun e21 => (iter fMo_quarter_L160 FU (nI 0, sI e21 2 72 (e21.1 2 44))).bind fun e32 => (iter fMo_quarter_L228 FU (nI 0, e32)).bind fun e39 => some ((sI e39 0 23 (nI 0)).1 0 19, sI e39 0 23 (nI 0))) (fun r41 => some r41) z) ∧
    (∀ i, i < 69 → i ≠ 2 → i ≠ 3 → i ≠ 4 → m1.1 3 i = nI 0) ∧ m1.1 3 2 = nI 10 ∧ m1.1 3 3 = nI 2 ∧ m1.1 3 4 = nI 3 ∧ (∀ j, j ≠ 0 → j ≠ 3 → m1.1 j = m.1 j) ∧ m1.2 = m.2 ∧ m1.1 0 2 = nI 0 ∧ m1.1 0 3 = nI z ∧ m1.1 0 4 = nI 0 ∧ m1.1 0 5 = nI 900 ∧ m1.1 0 15 = nI 0 ∧ m1.1 0 19 = nI 0 ∧ m1.1 0 20 = nI 0 ∧ ∀ i, 20 < i → m1.1 0 i = m.1 0 i := by
  obtain ⟨mt, g1, g2, g3, g4, g5, g6, g7, g8⟩ := taken_ok (m := sI m 0 0 (nI 0)) (nI 900)
  obtain ⟨s5, hs5⟩ : ∃ s5, s5 = sI (sI (sI mt 0 15 (nI 0)) 0 19 (nI 0)) 0 20 (nI 0) := ⟨_, rfl⟩
  obtain ⟨m1, hm1⟩ : ∃ m1, m1 = sI (sI (sI (sA s5 3 (fun i => if 0 ≤ i ∧ i < 0 + 69 then nI 0 else s5.1 3 i)) 3 2 (nI 10)) 3 3 (nI 2)) 3 4 (nI 3) := ⟨_, rfl⟩
  have a0 : ∀ i, m1.1 0 i = s5.1 0 i := fun i => by rw [hm1]; rfl
  refine ⟨m1, ?_, fun i i1 i2 i3 i4 => ?_, by rw [hm1]; rfl, by rw [hm1]; rfl, by rw [hm1]; rfl, fun j j0 j3 => ?_, ?_, ?_, ?_, ?_, ?_, ?_, ?_, ?_, fun i hi => ?_⟩
  · unfold fMo_quarter
    simp only [lit, bnd]
    rw [g1, Option.bind_some, ← hs5, mo_clears_ok, Option.bind_some, ← hm1]
  · rw [hm1, sI_1, if_neg (by omega), sI_1, if_neg (by omega), sI_1, if_neg (by omega), sA_1, if_pos rfl, if_pos (by omega)]
  · rw [hm1]
    show va_up (va_up (va_up (va_up s5.1 3 _) 3 _) 3 _) 3 _ j = _
    rw [va_up_ne _ _ j3, va_up_ne _ _ j3, va_up_ne _ _ j3, va_up_ne _ _ j3, hs5, sI_0 j0, sI_0 j0, sI_0 j0, g7 j j0, sI_0 j0]
  · rw [hm1]
    show s5.2 = _
    rw [hs5]
    show mt.2 = _
    rw [g8]; rfl
  · rw [a0, hs5, sI_1, if_neg (by omega), sI_1, if_neg (by omega), sI_1, if_neg (by omega), g3]
  · rw [a0, hs5, sI_1, if_neg (by omega), sI_1, if_neg (by omega), sI_1, if_neg (by omega), g2, sI_1, if_neg (by omega)]; exact t2
  · rw [a0, hs5, sI_1, if_neg (by omega), sI_1, if_neg (by omega), sI_1, if_neg (by omega), g4]
  · rw [a0, hs5, sI_1, if_neg (by omega), sI_1, if_neg (by omega), sI_1, if_neg (by omega), g5]
  · rw [a0, hs5, sI_1, if_neg (by omega), sI_1, if_neg (by omega), sI_1, if_pos ⟨rfl, rfl⟩]
  · rw [a0, hs5, sI_1, if_neg (by omega), sI_1, if_pos ⟨rfl, rfl⟩]
  · rw [a0, hs5, sI_1, if_pos ⟨rfl, rfl⟩]
  · rw [a0, hs5, sI_1, if_neg (by omega), sI_1, if_neg (by omega), sI_1, if_neg (by omega), g6 i (by omega), sI_1, if_neg (by omega)]
/-- the class begins to read a QUARTER -/
theorem quart_c : ∃ q1 qr1 sc1, fQr_readAll q qr ta sc = ((fTa_startReading ta (nI 900)).bind fun r6 => (iter fQr_readAll_L41 FU (nI 0, q1, qr1, r6, sc1)).bind fun z => Sum.elim (fun e10 => some (e10.1, e10.2.1, e10.2.2.1, e10.2.2.2.1, e10.2.2.2.2)) (fun r11 => some r11) z) ∧ (q1.1 0 0 = nI 10 ∧ q1.1 0 1 = nI 2 ∧ q1.1 0 2 = nI 3 ∧ q1.1 0 3 = nI 0 ∧ q1.1 0 4 = nI 0) ∧ (sc1.1 0 1 = nI 0 ∧ sc1.1 0 2 = nI 0 ∧ sc1.1 0 3 = nI 0) ∧ (qr1.1 0 3 = nI 0 ∧ qr1.1 0 4 = nI 0 ∧ qr1.1 0 5 = nI 0) := by
  obtain ⟨q1, hq1⟩ : ∃ q1, fQu_clear q = some q1 ∧ q1.1 0 0 = nI 10 ∧ q1.1 0 1 = nI 2 ∧ q1.1 0 2 = nI 3 ∧ q1.1 0 3 = nI 0 ∧ q1.1 0 4 = nI 0 := ⟨_, rfl, rfl, rfl, rfl, rfl, rfl⟩
  obtain ⟨sc1, hsc1⟩ : ∃ sc1, fSc_clear sc = some sc1 ∧ sc1.1 0 1 = nI 0 ∧ sc1.1 0 2 = nI 0 ∧ sc1.1 0 3 = nI 0 := ⟨_, rfl, rfl, rfl, rfl⟩
  refine ⟨q1, sI (sI (sI qr 0 3 (nI 0)) 0 4 (nI 0)) 0 5 (nI 0), sc1, ?_, hq1.2, hsc1.2, rfl, rfl, rfl⟩
  unfold fQr_readAll
  simp only [lit, bnd]
  rw [hq1.1, Option.bind_some, hsc1.1, Option.bind_some]
theorem k_quarter (hR : R X m) : ∃ r X' m', fKL_quarter X = some (r, X') ∧ fMo_quarter m = some (r, m') ∧ R X' m' := by
  obtain ⟨n, h, L, e, t, hp, hm, sr, hs, hP, ⟨z, hz, t1, t2, hb⟩, hr⟩ := hR
  obtain ⟨m1, lM, a3, a32, a33, a34, aj, al, c2, c3, c4, c5, c15, c19, c20, ch⟩ := quart_m t2
  obtain ⟨q1, qr1, sc1, lR, o1, o2, o3⟩ := quart_c (q := X 29) (qr := X 212) (ta := X 1) (sc := X 36)
  obtain ⟨b, k, v, l, pl, p, ta0, m2, g1, g2, g3, g4, g5, g6, g7, g8, g9⟩ := start_both (ta := X 1) (m1 := m1) (lim := 900) (by omega) hz t1 (fun i hi => by rw [aj 1 (by omega) (by omega)]; exact hb i hi) (by rw [al]; exact hr.2.2.1) c3 c4 c5
  rw [g2, Option.bind_some] at lM
  have hd2 := dR_m (dR_0 o1 o2 o3 a32 a33 a34 a3 c20) (m' := m2) (g5.1 3 (by omega)) (g5.2.2 5 (by omega)) (g5.2.1 20 (by omega) (by omega))
  obtain ⟨r, r', x1, x2, x3⟩ := quarter_loop ⟨_, _, _, _, _, _, _, _, _, _, _, _, hd2⟩ g3 g4 (by rw [g5.2.1 19 (by omega) (by omega)]; exact c19)
  rw [x2, Option.bind_some] at lM
  rw [g1, Option.bind_some, x1, Option.bind_some] at lR
  have fm : ∀ m3, moQ2 m2 m3 → (∀ j, j = 2 ∨ j = 7 ∨ j = 11 ∨ j = 12 ∨ j = 13 ∨ j = 16 ∨ j = 18 → m3.1 j = m.1 j) ∧ (∀ i, i < 14 → m3.2 5 i = m.2 5 i) ∧ m3.2 6 = m.2 6 ∧ m3.2 17 = m.2 17 ∧ (∀ i, 20 < i → m3.1 0 i = m.1 0 i) ∧ m3.1 0 2 = nI 0 := fun m3 hq => by
    refine ⟨fun j hj => ?_, fun i hi => ?_, ?_, ?_, fun i hi => ?_, ?_⟩
    · rw [hq.1 j (by omega) (by omega), g5.1 j (by omega), aj j (by omega) (by omega)]
    · rw [hq.2.2.1 i hi, g5.2.2 5 (by omega), al]
    · rw [hq.2.1 6 (by omega) (by omega), g5.2.2 6 (by omega), al]
    · rw [hq.2.1 17 (by omega) (by omega), g5.2.2 17 (by omega), al]
    · rw [hq.2.2.2 i (by omega) (by omega), g5.2.1 i (by omega) (by omega), ch i hi]
    · rw [hq.2.2.2 2 (by omega) (by omega), g5.2.1 2 (by omega) (by omega), c2]
  have lK : fKL_quarter X = (fQr_readAll (X 29) (X 212) (X 1) (X 36)).bind fun r1 => (fKL_finishReading (va_up (va_up (va_up (va_up X 29 r1.2.1) 212 r1.2.2.1) 1 r1.2.2.2.1) 36 r1.2.2.2.2)).bind fun r6 => if r1.1 = -nI 1 then some (-nI 1 - (r6 1).1 0 3, r6) else (fSy_clear (r6 47)).bind fun r7 => (fSt_copyFrom (va_up r6 47 r7) 4 28).bind fun r9 => (fPa_forget r9).bind fun r10 => some (r1.1, r10) := by
    unfold fKL_quarter
    simp only [lit, bnd]
  rw [lR] at lK
  rcases x3 with ⟨c, q', qr', ta', sc', m3, y0, y1, y2, y3, y4, y5, y6, y7, y8⟩ | ⟨q', qr', ta', sc', m3, y1, y2, y3, y4, y5⟩
  · subst y1 y2
    obtain ⟨n', h', L', e', t', hp', hm', sr', S', fa', fb', fc', y3⟩ := y3
    obtain ⟨m4, f1, f2, f3, f4, f5, f6, f7, f8, f9, f10, f11⟩ := mo_fin (m := m3)
    obtain ⟨k1, k2, k3, k4, k5, k6⟩ := fm m3 y6
    obtain ⟨X5, hX5⟩ : ∃ X5, X5 = va_up (va_up (va_up (va_up X 29 q') 212 qr') 1 ta') 36 sc' := ⟨_, rfl⟩
    have x50 : X5 0 = X 0 := by rw [hX5, va_up_ne _ _ (by omega), va_up_ne _ _ (by omega), va_up_ne _ _ (by omega), va_up_ne _ _ (by omega)]
    have x51 : X5 1 = ta' := by rw [hX5, va_up_ne _ _ (by omega), va_up_at, if_pos rfl]
    have x529 : X5 29 = q' := by rw [hX5, va_up_ne _ _ (by omega), va_up_ne _ _ (by omega), va_up_ne _ _ (by omega), va_up_at, if_pos rfl]
    have x536 : X5 36 = sc' := by rw [hX5, va_up_at, if_pos rfl]
    have x5n : ∀ j, j ≠ 1 → j ≠ 29 → j ≠ 36 → j ≠ 212 → X5 j = X j := fun j h1 h29 h36 h212 => by rw [hX5, va_up_ne _ _ h36, va_up_ne _ _ h1, va_up_ne _ _ h212, va_up_ne _ _ h29]
    obtain ⟨X7, lF, x70, x71, x7n⟩ := fin_ok (X := X5)
    obtain ⟨sy, ly, sy0, sy1⟩ : ∃ sy, fSy_clear (X7 47) = some sy ∧ sy.1 0 0 = nI 0 ∧ sy.1 0 1 = nI 0 := ⟨_, rfl, rfl, rfl⟩
    obtain ⟨X8, hX8⟩ : ∃ X8, X8 = va_up X7 47 sy := ⟨_, rfl⟩
    have xn : ∀ j, j ≠ 0 → j ≠ 1 → j ≠ 29 → j ≠ 36 → j ≠ 47 → j ≠ 212 → X8 j = X j := fun j h0 h1 h29 h36 h47 h212 => by rw [hX8, va_up_ne _ _ h47, x7n j h0 h1, x5n j h1 h29 h36 h212]
    have hps : pStr n' h' L' e' t' hp' hm' sr' (X8 (28 + 1)) (X8 (28 + 8)) (X8 (28 + 19)) (m4.1 2) (m4.2 5) := by
      have e1 : X8 (28 + 1) = q' := by rw [hX8, va_up_ne _ _ (by omega), x7n _ (by omega) (by omega)]; exact x529
      have e2 : X8 (28 + 8) = sc' := by rw [hX8, va_up_ne _ _ (by omega), x7n _ (by omega) (by omega)]; exact x536
      have e3 : X8 (28 + 19) = sy := by rw [hX8, va_up_at, if_pos rfl]
      rw [e1, e2, e3]
      exact str_fin y3 sy0 sy1 f6 f7 f8 f9 f10 f11
    obtain ⟨X9, w1, w2, w3⟩ := st_copy (X := X8) (a := 4) (b := 28) hps (by omega)
    have w30 : X9 0 = sI (X 0) 0 12 (ta'.1 0 2) := by rw [w3 0 (by omega) (by omega) (by omega), hX8, va_up_ne _ _ (by omega), x70, x50, x51]
    have w31 : X9 1 = sI ta' 0 1 (nI 0) := by rw [w3 1 (by omega) (by omega) (by omega), hX8, va_up_ne _ _ (by omega), x71, x51]
    obtain ⟨X10, hX10⟩ : ∃ X10, X10 = va_up X9 100 (sI (X9 100) 0 2 (nI 0)) := ⟨_, rfl⟩
    have x10n : ∀ j, j ≠ 100 → X10 j = X9 j := fun j hj => by rw [hX10, va_up_ne _ _ hj]
    have x10p : X10 100 = sI (X9 100) 0 2 (nI 0) := by rw [hX10, va_up_at, if_pos rfl]
    have lP : fPa_forget X9 = some X10 := by rw [hX10]; rfl
    refine ⟨nI c, X10, m4, ?_, ?_, n', h', L', e', t', hp', hm', sr', ?_, ?_, ?_, ?_⟩
    · simp only [Sum.elim_inl, Option.bind_some] at lK
      rw [lK, ← hX5, lF, Option.bind_some, if_neg (nI_ne_m1' (by omega)), ly, Option.bind_some, ← hX8, w1, Option.bind_some, lP, Option.bind_some]
    · simp only [Sum.elim_inl] at lM
      rw [lM, f1, y4]
    · rw [x10n 5 (by omega), x10n 12 (by omega), x10n 23 (by omega)]; exact w2
    · obtain ⟨f, zz, p1, p2, p3, p4, p5, p6⟩ := hP
      refine ⟨f, 0, p1, by omega, ?_, ?_, f4, fun i hi => absurd hi (by omega)⟩
      · rw [x10p, sI_1, if_neg (by omega), w3 100 (by omega) (by omega) (by omega), xn 100 (by omega) (by omega) (by omega) (by omega) (by omega) (by omega)]; exact p3
      · rw [x10p, sI_1, if_pos ⟨rfl, rfl⟩]
    · refine ⟨0, by omega, ?_, ?_, fun i hi => absurd hi (by omega)⟩
      · rw [x10n 1 (by omega), w31, sI_1, if_pos ⟨rfl, rfl⟩]
      · rw [f3 2 (by omega), k6]
    · have ht2 : ta'.1 0 2 = nI 0 := by rw [y7, g9]
      refine pRest_read hr (fun j hj => ?_) (fun i hi => ?_) ?_ ?_ (fun j hj => ?_) ?_ ?_ (fun i h1 h2 => ?_) ?_
      · rw [x10n j (by omega), w3 j (by omega) (by omega) (by omega), xn j (by omega) (by omega) (by omega) (by omega) (by omega) (by omega)]
      · rw [x10n 0 (by omega), w30, sI_1, if_neg (by omega)]
      · rw [x10n 0 (by omega), w30, sI_1, if_pos ⟨rfl, rfl⟩, ht2, f3 15 (by omega), y8, g5.2.1 15 (by omega) (by omega), c15]
      · rw [x10n 1 (by omega), w31]
        show ta'.2 1 = _
        rw [y5.2.1 1 (by omega), g7]
      · rw [f2 j (by omega) (by omega), k1 j (by omega)]
      · rw [f5 6 (by omega), k3]
      · rw [f5 17 (by omega), k4]
      · rw [f3 i (by omega), k5 i (by omega)]
      · rw [x10n 213 (by omega), w3 213 (by omega) (by omega) (by omega), xn 213 (by omega) (by omega) (by omega) (by omega) (by omega) (by omega), f3 37 (by omega), k5 37 (by omega), f2 13 (by omega) (by omega), k1 13 (by omega)]
        exact hr.2.2.2.2.2.2.2.2
  · subst y1 y2
    obtain ⟨k1, k2, k3, k4, k5, k6⟩ := fm m3 y5
    obtain ⟨X5, hX5⟩ : ∃ X5, X5 = va_up (va_up (va_up (va_up X 29 q') 212 qr') 1 ta') 36 sc' := ⟨_, rfl⟩
    have x50 : X5 0 = X 0 := by rw [hX5, va_up_ne _ _ (by omega), va_up_ne _ _ (by omega), va_up_ne _ _ (by omega), va_up_ne _ _ (by omega)]
    have x51 : X5 1 = ta' := by rw [hX5, va_up_ne _ _ (by omega), va_up_at, if_pos rfl]
    have x5n : ∀ j, j ≠ 1 → j ≠ 29 → j ≠ 36 → j ≠ 212 → X5 j = X j := fun j h1 h29 h36 h212 => by rw [hX5, va_up_ne _ _ h36, va_up_ne _ _ h1, va_up_ne _ _ h212, va_up_ne _ _ h29]
    obtain ⟨X7, lF, x70, x71, x7n⟩ := fin_ok (X := X5)
    rw [x50, x51] at x70
    rw [x51] at x71
    refine ⟨-nI 1 - ta'.1 0 3, X7, m3, ?_, ?_, ?_⟩
    · simp only [Sum.elim_inr, Option.bind_some] at lK
      rw [lK, ← hX5, lF, Option.bind_some, if_pos trivial, x71, sI_1, if_neg (by omega)]
    · simp only [Sum.elim_inr] at lM
      rw [lM, y3.2]
    · refine R_read hs hP hr (fun j h0 h1 h29 h36 h47 h201 h212 h213 => ?_) (fun i hi => ?_) ?_ ?_ ?_ k6 (fun j hj => k1 j (by omega)) k2 k3 k4 (fun i h1 h2 => k5 i (by omega)) ?_
      · rw [x7n j h0 h1, x5n j h1 h29 h36 h212]
      · rw [x70, sI_1, if_neg (by omega)]
      · rw [x70, sI_1, if_pos ⟨rfl, rfl⟩]; exact y3.1
      · rw [x71]
        show ta'.2 1 = _
        rw [y4.2.1 1 (by omega), g7]
      · rw [x71, sI_1, if_pos ⟨rfl, rfl⟩]
      · rw [x7n 213 (by omega) (by omega), x5n 213 (by omega) (by omega) (by omega) (by omega), k5 37 (by omega), k1 13 (by omega)]
        exact hr.2.2.2.2.2.2.2.2
end
