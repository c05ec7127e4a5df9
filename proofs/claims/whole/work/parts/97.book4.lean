def bS (e : Obj) (r : Int32) : Obj := sI (sI (sI e 13 2 (e.1 2 69)) 13 3 r) 0 37 (nI 1)
noncomputable def btail (v : Int32) (e10 : Obj) : Option (Int32 × Obj) :=
  (fMo_tries e10).bind fun r11 => (iter fMo_book_L89 FU (nI 0, r11)).bind fun e14 => (iter fMo_book_L111 FU (-nI 1, nI 0, e14)).bind fun e21 => (fMo_are (sI e21.2 13 2 (e21.2.1 2 69)) (nI 2)).bind fun r23 => if v = nI 1 then (if (bS e21.2 r23).1 13 1 ≤ nI 0 then fMo_book_J274 (bS e21.2 r23) v e21.1 else (fMo_stores (bS e21.2 r23)).bind fun r27 => (iter fMo_book_L240 FU (nI 0, r27)).bind fun e31 => fMo_book_J274 e31 v e21.1) else fMo_book_J274 (bS e21.2 r23) v e21.1
section
variable {X X' X1 : Nat → Obj} {z lim : Nat} {b : Nat → Nat} {ta ta1 m ta' m' m0 m1 m2 m3 m4 x y q bk bk' sc sc' : Obj} {k v0 pl p p0 p1 c j T A B C : Nat} {l : List Nat} {n h L e t : Nat} {hp hm : Nat → Nat} {sr sr' : Nat → Bool} {S S' : Nat → Nat → Nat} {s s' : Nat → Int32}
theorem mo_L240 {zz : Nat} (hz : zz ≤ 7) (h23 : m.1 0 23 = nI (zz + 1)) : iter fMo_book_L240 FU (nI 0, m) = some (sA m 7 (fun i => if 92 * zz ≤ i ∧ i < 92 * zz + 92 then m.1 8 (i - 92 * zz) else m.1 7 i)) := by
  refine cpyL (m := m) (f := fMo_book_L240) 7 (92 * zz) 92 (by omega) (fun i => m.1 8 i) (fun k hk => ?_) (fun x => ?_)
  · generalize (fun i => if 92 * zz ≤ i ∧ i < 92 * zz + k then m.1 8 (i - 92 * zz) else m.1 7 i) = g
    have e8 : ∀ j, (sA m 7 g).1 8 j = m.1 8 j := fun j => rfl
    have e23 : (sA m 7 g).1 0 23 = nI (zz + 1) := h23
    unfold fMo_book_L240
    simp only [lit]
    rw [if_neg (by rw [nle (by omega) (by omega)]; omega), ix_nI (by omega) (by omega), e23, nsub (by omega), Nat.add_sub_cancel, nmul, nadd, ix_nI (by omega) (by omega)]
    simp only [Option.bind_some, bnd, e8, nadd]
  · unfold fMo_book_L240
    simp only [lit]
    rw [if_pos (by rw [nle (by omega) (by omega)]; omega)]
theorem mo_stores8 {z : Nat} (hz : z ≤ 8) (h23 : m.1 0 23 = nI z) : ∃ m1, fMo_stores m = some m1 ∧ m1.1 8 = m.1 8 := by
  unfold fMo_stores
  simp only [lit]
  by_cases h8 : z = 8
  · subst h8
    rw [h23, if_pos rfl]
    have key := cpyL (m := m) (f := fMo_stores_L11) 7 0 644 (by omega) (fun k => m.1 7 (k + 92)) (fun k hk => ?_) (fun x => ?_)
    · rw [key]
      simp only [Option.bind_some, bnd]
      rw [mo_storesJ (z := 7) (by omega) (by rw [sI_1, if_pos ⟨rfl, rfl⟩])]
      exact ⟨_, rfl, rfl⟩
    · generalize hg : (fun i => if 0 ≤ i ∧ i < 0 + k then m.1 7 (i - 0 + 92) else m.1 7 i) = g
      have e : (sA m 7 g).1 7 (k + 92) = m.1 7 (k + 92) := by
        show g (k + 92) = _
        rw [← hg]
        show (if 0 ≤ k + 92 ∧ k + 92 < 0 + k then _ else _) = _
        rw [if_neg (by omega)]
      unfold fMo_stores_L11
      simp (disch := omega) only [lit, nadd, ix_nI, Option.bind_some, bnd, e]
      rw [if_neg (by rw [nle (by omega) (by omega)]; omega), Nat.zero_add]
    · unfold fMo_stores_L11
      simp only [lit]
      rw [if_pos (by rw [nle (by omega) (by omega)]; omega)]
  · rw [h23, if_neg (by rw [neq (by omega) (by omega)]; exact h8), mo_storesJ (by omega) h23]
    exact ⟨_, rfl, rfl⟩
theorem book_m {v : Int32} (t2 : m.1 0 2 = nI z) (hin : fMo_isIn v (nI 0) (nI 1) = some (nI 1)) : ∃ m1, fMo_book m v = ((fMo_next m1).bind fun r6 => (iter fMo_book_L39 FU r6).bind fun z => Sum.elim (btail v) (fun r32 => some r32) z) ∧
    (∀ j, j ≠ 0 → m1.1 j = m.1 j) ∧ m1.2 = m.2 ∧ m1.1 0 2 = nI 0 ∧ m1.1 0 3 = nI z ∧ m1.1 0 4 = nI 0 ∧ m1.1 0 5 = nI 400 ∧ m1.1 0 15 = nI 0 ∧ m1.1 0 35 = nI 0 ∧ ∀ i, 16 < i → i ≠ 35 → m1.1 0 i = m.1 0 i := by
  obtain ⟨mt, g1, g2, g3, g4, g5, g6, g7, g8⟩ := taken_ok (m := sI m 0 0 (nI 0)) (nI 400)
  obtain ⟨s5, hs5⟩ : ∃ s5, s5 = sI (sI mt 0 15 (nI 0)) 0 35 (nI 0) := ⟨_, rfl⟩
  refine ⟨s5, ?_, fun j j0 => ?_, ?_, ?_, ?_, ?_, ?_, ?_, ?_, fun i hi h35 => ?_⟩
  · unfold fMo_book
    simp only [lit, bnd]
    rw [hin, Option.bind_some, if_neg (by decide +kernel), g1, Option.bind_some, ← hs5]
    rfl
  · rw [hs5, sI_0 j0, sI_0 j0, g7 j j0, sI_0 j0]
  · rw [hs5]
    show mt.2 = _
    rw [g8]; rfl
  · rw [hs5, sI_1, if_neg (by omega), sI_1, if_neg (by omega), g3]
  · rw [hs5, sI_1, if_neg (by omega), sI_1, if_neg (by omega), g2, sI_1, if_neg (by omega)]; exact t2
  · rw [hs5, sI_1, if_neg (by omega), sI_1, if_neg (by omega), g4]
  · rw [hs5, sI_1, if_neg (by omega), sI_1, if_neg (by omega), g5]
  · rw [hs5, sI_1, if_neg (by omega), sI_1, if_pos ⟨rfl, rfl⟩]
  · rw [hs5, sI_1, if_pos ⟨rfl, rfl⟩]
  · rw [hs5, sI_1, if_neg (by omega), sI_1, if_neg (by omega), g6 i (by omega), sI_1, if_neg (by omega)]
theorem bS_j {r : Int32} {j : Nat} (h0 : j ≠ 0) (h13 : j ≠ 13) : (bS m r).1 j = m.1 j := by
  show va_up (va_up (va_up m.1 13 _) 13 _) 0 _ j = _
  rw [va_up_ne _ _ h0, va_up_ne _ _ h13, va_up_ne _ _ h13]
theorem bS_0 {r : Int32} {i : Nat} (hi : i ≠ 37) : (bS m r).1 0 i = m.1 0 i := by
  unfold bS
  rw [sI_1, if_neg (by omega), sI_1, if_neg (by omega), sI_1, if_neg (by omega)]
theorem bS_37 {r : Int32} : (bS m r).1 0 37 = nI 1 := by
  unfold bS
  rw [sI_1, if_pos ⟨rfl, rfl⟩]
theorem bS_131 {r : Int32} : (bS m r).1 13 1 = m.1 13 1 := by
  unfold bS
  rw [sI_1, if_neg (by omega), sI_1, if_neg (by omega), sI_1, if_neg (by omega)]
theorem k_book (hR : R X m) (v : Int32) : ∃ r X' m', fKL_book X v = some (r, X') ∧ fMo_book m v = some (r, m') ∧ R X' m' := by
  have hR1 := R_thr (v := nI 0) hR
  have u1 : ¬ nI 1 = nI 0 := by decide +kernel
  have u0 : ¬ nI 0 = nI 1 := by decide +kernel
  rcases isP_or v 2 with ⟨vk, hvk, hvv⟩ | hv
  · obtain ⟨n, h, L, e, t, hp, hm, sr, hs, hP, ⟨z, hz, t1, t2, hb⟩, hr⟩ := hR
    have hin : fMo_isIn v (nI 0) (nI 1) = some (nI 1) := by rw [hvv]; exact isIn_in' (by omega) (by omega)
    have lK0 : fKL_book X v = fKL_book_J13 X v := by
      unfold fKL_book
      simp only [lit]
      rcases (show vk = 0 ∨ vk = 1 by omega) with w | w
      · rw [hvv, w, if_pos rfl]
      · rw [hvv, w, if_neg u1, if_pos rfl]
    obtain ⟨hB, hC, hM, hN, hc, hY⟩ := id hs
    obtain ⟨m1, lM, aj, al, c2, c3, c4, c5, c15, c35, ch⟩ := book_m t2 hin
    obtain ⟨b, k, v', l, pl, p, ta0, m2, g1, g2, g3, g4, g5, g6, g7, g8, g9⟩ := start_both (ta := X 1) (m1 := m1) (lim := 400) (by omega) hz t1 (fun i hi => by rw [aj 1 (by omega)]; exact hb i hi) (by rw [al]; exact hr.2.2.1) c3 c4 c5
    rw [g2, Option.bind_some] at lM
    have m2j : ∀ j, j ≠ 0 → m2.1 j = m.1 j := fun j hj => by rw [g5.1 j hj, aj j hj]
    have m2l : ∀ j, j ≠ 0 → m2.2 j = m.2 j := fun j hj => by rw [g5.2.2 j hj, al]
    have m20 : ∀ i, 16 < i → i ≠ 35 → m2.1 0 i = m.1 0 i := fun i hi h35 => by rw [g5.2.1 i (by omega) (by omega), ch i hi h35]
    obtain ⟨r, r', x1, x2, x3⟩ := book_loop (m := m2) (bk := sI (X 213) 0 7 (nI 0)) hB hC (by rw [m2j 2 (by omega)]; exact hM) (by rw [m2l 5 (by omega)]; exact hN) g3 (by rw [sI_1, if_pos ⟨rfl, rfl⟩]) (by rw [g5.2.1 35 (by omega) (by omega)]; exact c35)
    rw [x2, Option.bind_some] at lM
    have lR : fBk_readAll (X 5) (X 213) (X 1) = (fTa_startReading (X 1) (nI 400)).bind fun r2 => (iter (fBk_readAll_L17 (X 5)) FU (nI 0, sI (X 213) 0 7 (nI 0), r2)).bind fun z => Sum.elim (fun e6 => some (nI 1, e6.1, e6.2)) (fun r7 => some r7) z := by
      unfold fBk_readAll
      simp only [lit, bnd]
    rw [g1, Option.bind_some, x1, Option.bind_some] at lR
    have lK : fKL_book X v = (fBk_readAll (X 5) (X 213) (X 1)).bind fun r1 => (fKL_finishReading (va_up (va_up X 213 r1.2.1) 1 r1.2.2)).bind fun r4 => if r1.1 = nI 0 then some (-nI 2 - (r4 1).1 0 3, r4) else if v = nI 0 then (fSc_copyFrom (r4 12) (r4 201)).bind fun r5 => (fBk_live ((va_up r4 201 r5) 5) ((va_up r4 201 r5) 213) ((va_up r4 201 r5) 201)).bind fun r7 => fKL_book_J115 (va_up (va_up (va_up r4 201 r5) 213 r7.1) 201 r7.2) else (fPa_note r4).bind fun r10 => (fBk_live (r10 5) (r10 213) (r10 12)).bind fun r11 => (fPa_keepIfAny (va_up (va_up r10 213 r11.1) 12 r11.2) ((va_up (va_up r10 213 r11.1) 12 r11.2 213).1 0 1)).bind fun r14 => fKL_book_J115 r14.2 := by
      rw [lK0]
      unfold fKL_book_J13
      simp only [lit, bnd]
    rw [lR] at lK
    have l115 : ∀ (Y : Nat → Obj) (w d : Nat), w < 100 → (Y 213).1 0 0 = nI w → (Y 213).1 0 1 = nI d → fKL_book_J115 Y = some (if w = 0 then -nI 1 else nI d, Y) := fun Y w d hw h0 h1 => by
      unfold fKL_book_J115
      simp only [lit]
      rw [h0, h1]
      by_cases hw0 : w = 0
      · rw [if_pos (by rw [hw0]), if_pos hw0]
      · rw [if_neg (by rw [neq (by omega) (by omega)]; exact hw0), if_neg hw0]
    have tolF : ∀ bk' m3 : Obj, bkF (sI (X 213) 0 7 (nI 0)) bk' → m3.1 0 37 = m.1 0 37 → m3.1 13 = m.1 13 → pTol bk' (m3.1 0 37) (m3.1 13) := fun bk' m3 hF h37 h13 => by
      have e : ∀ i, i ≠ 7 → bk'.1 0 i = (X 213).1 0 i := fun i hi => by rw [hF i hi, sI_1, if_neg (by omega)]
      have := hr.2.2.2.2.2.2.2.2
      unfold pTol at this ⊢
      rw [h37, h13, e 8 (by omega), e 0 (by omega), e 1 (by omega), e 9 (by omega), e 10 (by omega)]
      exact this
    rcases x3 with ⟨c, bk', ta', m3, y0, y1, y2, y3, y4, y5, y6, y7, y8, y9, y10⟩ | ⟨bk', ta', m3, y1, y2, y3, y4, y5, y6⟩
    · subst y1 y2
      obtain ⟨X5, hX5⟩ : ∃ X5, X5 = va_up (va_up X 213 bk') 1 ta' := ⟨_, rfl⟩
      have x51 : X5 1 = ta' := by rw [hX5, va_up_at, if_pos rfl]
      have x5b : X5 213 = bk' := by rw [hX5, va_up_ne _ _ (by omega), va_up_at, if_pos rfl]
      have x5n : ∀ j, j ≠ 1 → j ≠ 213 → X5 j = X j := fun j h1 h2 => by rw [hX5, va_up_ne _ _ h1, va_up_ne _ _ h2]
      obtain ⟨X7, lF, x70, x71, x7n⟩ := fin_ok (X := X5)
      rw [x5n 0 (by omega) (by omega), x51] at x70
      rw [x51] at x71
      have x7b : X7 213 = bk' := by rw [x7n 213 (by omega) (by omega), x5b]
      have x7j : ∀ j, j ≠ 0 → j ≠ 1 → j ≠ 213 → X7 j = X j := fun j h0 h1 h2 => by rw [x7n j h0 h1, x5n j h1 h2]
      have m3j : ∀ j, j ≠ 0 → j ≠ 4 → m3.1 j = m.1 j := fun j h0 h4 => by rw [y7.1 j h0 h4, m2j j h0]
      have m3l : ∀ j, j ≠ 0 → m3.2 j = m.2 j := fun j h0 => by rw [y7.2.1 j h0, m2l j h0]
      have m30 : ∀ i, 18 < i → i ≠ 35 → m3.1 0 i = m.1 0 i := fun i hi h35 => by rw [y7.2.2 i (by omega) (by omega) (by omega) h35, m20 i (by omega) h35]
      have m32 : m3.1 0 2 = nI 0 := by rw [y7.2.2 2 (by omega) (by omega) (by omega) (by omega), g5.2.1 2 (by omega) (by omega), c2]
      have m315 : m3.1 0 15 = nI 0 := by rw [y10, g5.2.1 15 (by omega) (by omega), c15]
      have ht2 : ta'.1 0 2 = nI 0 := by rw [y9, g9]
      have ht21 : ta'.2 1 = (X 1).2 1 := by rw [y6.2.1 1 (by omega), g7]
      have hM3 : sQM n h L e t hp hm sr (m3.1 2) := by rw [m3j 2 (by omega) (by omega)]; exact hM
      have dm3 : dOf m3 = dOf m := by
        funext i
        show m3.1 2 (69 + i) = _
        rw [m3j 2 (by omega) (by omega)]
      simp only [Sum.elim_inl, Option.bind_some] at lK
      rw [← hX5, lF, Option.bind_some, if_neg u1] at lK
      simp only [Sum.elim_inl] at lM
      unfold btail at lM
      rcases (show vk = 0 ∨ vk = 1 by omega) with w0 | w0
      · subst w0
        subst hvv
        obtain ⟨sc0, q1, q2⟩ := RC_copy (sc := X7 201) hB.1 (show RC n h L hp (X7 12) (dOf m3) by rw [x7j 12 (by omega) (by omega) (by omega), dm3]; exact hc)
        obtain ⟨mt, mz, ea, eb, bk2, sc2, r23, w, d, f1, f2, f3, f4, f5, f6, f7, f8, f9, f10, f11, f12, f13, f14, f15, f16, f17⟩ := live_tail (m := m3) (bk := bk') (sc := sc0) hB hC hM3 q2 y0 y3 y4 y5
        rw [if_pos rfl, q1, Option.bind_some] at lK
        have e5 : va_up X7 201 sc0 5 = X 5 := by rw [va_up_ne _ _ (by omega), x7j 5 (by omega) (by omega) (by omega)]
        have e213 : va_up X7 201 sc0 213 = bk' := by rw [va_up_ne _ _ (by omega), x7b]
        have e201 : va_up X7 201 sc0 201 = sc0 := by rw [va_up_at, if_pos rfl]
        rw [e5, e213, e201, f5, Option.bind_some] at lK
        rw [f1, Option.bind_some, f2, Option.bind_some, f3, Option.bind_some, f4, Option.bind_some, if_neg u0] at lM
        simp only at lK lM
        obtain ⟨X9, hX9⟩ : ∃ X9, X9 = va_up (va_up (va_up X7 201 sc0) 213 bk2) 201 sc2 := ⟨_, rfl⟩
        have x9b : X9 213 = bk2 := by rw [hX9, va_up_ne _ _ (by omega), va_up_at, if_pos rfl]
        have x9n : ∀ j, j ≠ 201 → j ≠ 213 → X9 j = X7 j := fun j h1 h2 => by rw [hX9, va_up_ne _ _ h1, va_up_ne _ _ h2, va_up_ne _ _ h1]
        rw [← hX9, l115 X9 w d f9 (by rw [x9b]; exact f7) (by rw [x9b]; exact f8)] at lK
        obtain ⟨mb, hmb⟩ : ∃ mb, mb = sA (bS eb r23) 2 (fun i => if 69 ≤ i ∧ i < 69 + 92 then (bS eb r23).1 8 (i - 69) else (bS eb r23).1 2 i) := ⟨_, rfl⟩
        have lJ : fMo_book_J274 (bS eb r23) (nI 0) ea = some (ea, mb) := by
          unfold fMo_book_J274
          simp only [lit]
          rw [if_pos trivial, mo_brings, Option.bind_some, ← hmb]
        rw [lJ, f6] at lM
        have b2 : ∀ i, mb.1 2 i = m.1 2 i := fun i => by
          rw [hmb, sA_1, if_pos rfl, bS_j (by omega) (by omega), bS_j (by omega) (by omega)]
          by_cases hi : 69 ≤ i ∧ i < 69 + 92
          · rw [if_pos hi, f17 (i - 69) (by omega), show 69 + (i - 69) = i by omega, m3j 2 (by omega) (by omega)]
          · rw [if_neg hi, f16 i (by omega), m3j 2 (by omega) (by omega)]
        have bj : ∀ j, j ≠ 2 → mb.1 j = (bS eb r23).1 j := fun j hj => by rw [hmb]; exact va_up_ne _ _ hj
        have bl : mb.2 = m3.2 := by rw [hmb]; exact f14
        have b0 : ∀ i, i ≠ 37 → mb.1 0 i = m3.1 0 i := fun i hi => by rw [bj 0 (by omega), bS_0 hi, f15 0 (by omega) (by omega) (by omega)]
        have bo : ∀ j, j ≠ 0 → j ≠ 2 → j ≠ 4 → j ≠ 8 → j ≠ 13 → mb.1 j = m.1 j := fun j j0 j2 j4 j8 j13 => by rw [bj j j2, bS_j j0 j13, f15 j j2 j8 j13, m3j j j0 j4]
        refine ⟨_, X9, mb, lK, lM, R_book hs hr (fun j h0 h1 h12 h100 h201 h213 => ?_) (fun i hi => ?_) ?_ ?_ ?_ ?_ (fun j hj => ?_) (fun i _ => b2 i) (fun j hj => ?_) (fun i i1 i2 => ?_) ?_ ?_ ?_⟩
        · rw [x9n j h201 h213, x7j j h0 h1 h213]
        · rw [x9n 0 (by omega) (by omega), x70, sI_1, if_neg (by omega)]
        · rw [x9n 0 (by omega) (by omega), x70, sI_1, if_pos ⟨rfl, rfl⟩, ht2, b0 15 (by omega), m315]
        · rw [x9n 1 (by omega) (by omega), x71]; exact ht21
        · rw [x9n 1 (by omega) (by omega), x71, sI_1, if_pos ⟨rfl, rfl⟩]
        · rw [b0 2 (by omega), m32]
        · exact bo j (by omega) (by omega) (by omega) (by omega) (by omega)
        · rw [bl, m3l j hj]
        · rw [b0 i (by omega), m30 i (by omega) (by omega)]
        · rw [x9n 12 (by omega) (by omega), x7j 12 (by omega) (by omega) (by omega)]
          have : dOf mb = dOf m := by funext i; exact b2 (69 + i)
          rw [this]; exact hc
        · rw [bo 7 (by omega) (by omega) (by omega) (by omega) (by omega), b0 23 (by omega), m30 23 (by omega) (by omega)]
          exact past_x hP (fun j h1 h2 => by rw [x9n j (by omega) (by omega), x7j j (by omega) (by omega) (by omega)])
        · rw [x9b, bj 0 (by omega), bS_37, bj 13 (by omega)]; exact f13
      · subst w0
        subst hvv
        rw [if_neg u1] at lK
        have hc7 : RC n h L hp (X7 12) (dOf m3) := by rw [x7j 12 (by omega) (by omega) (by omega), dm3]; exact hc
        have hP7 : pPast n h L hp X7 (m.1 7) (m.1 0 23) := past_x hP (fun j h1 h2 => x7j j (by omega) (by omega) (by omega))
        obtain ⟨XN, n1, n2, n3, n4, n5⟩ := past_note hB.1 hP7 hc7
        obtain ⟨mt, mz, ea, eb, bk2, sc2, r23, w, d, f1, f2, f3, f4, f5, f6, f7, f8, f9, f10, f11, f12, f13, f14, f15, f16, f17⟩ := live_tail (m := m3) (bk := bk') (sc := X7 12) hB hC hM3 hc7 y0 y3 y4 y5
        have e5 : XN 5 = X 5 := by rw [n2 5 (by omega) (by omega) (by omega), x7j 5 (by omega) (by omega) (by omega)]
        have e213 : XN 213 = bk' := by rw [n2 213 (by omega) (by omega) (by omega), x7b]
        rw [n1, Option.bind_some, e5, e213, n3, f5, Option.bind_some] at lK
        rw [f1, Option.bind_some, f2, Option.bind_some, f3, Option.bind_some, f4, Option.bind_some, if_pos rfl] at lM
        simp only at lK lM
        obtain ⟨XL, hXL⟩ : ∃ XL, XL = va_up (va_up XN 213 bk2) 12 sc2 := ⟨_, rfl⟩
        have xLb : XL 213 = bk2 := by rw [hXL, va_up_ne _ _ (by omega), va_up_at, if_pos rfl]
        have xLs : XL 12 = sc2 := by rw [hXL, va_up_at, if_pos rfl]
        have xLn : ∀ j, j ≠ 12 → j ≠ 213 → XL j = XN j := fun j h1 h2 => by rw [hXL, va_up_ne _ _ h1, va_up_ne _ _ h2]
        have n5' : pPastN n h L hp XL (m.1 7) (m.1 0 23) (dOf m3) := by rw [hXL]; exact pastN_up (pastN_up n5 (by omega)) (by omega)
        rw [← hXL, xLb, f8] at lK
        rw [bS_131, f11] at lM
        have lJ : ∀ mm : Obj, fMo_book_J274 mm (nI 1) ea = some (ea, mm) := fun mm => by
          unfold fMo_book_J274
          simp only [lit]
          rw [if_neg u1]
        have s0 : ∀ i, i ≠ 37 → (bS eb r23).1 0 i = m3.1 0 i := fun i hi => by rw [bS_0 hi, f15 0 (by omega) (by omega) (by omega)]
        have sj : ∀ j, j ≠ 0 → j ≠ 2 → j ≠ 4 → j ≠ 8 → j ≠ 13 → (bS eb r23).1 j = m.1 j := fun j j0 j2 j4 j8 j13 => by rw [bS_j j0 j13, f15 j j2 j8 j13, m3j j j0 j4]
        have s2 : ∀ i, i < 69 ∨ 161 ≤ i → (bS eb r23).1 2 i = m.1 2 i := fun i hi => by rw [bS_j (by omega) (by omega), f16 i hi, m3j 2 (by omega) (by omega)]
        have sl : (bS eb r23).2 = m3.2 := f14
        have sd : dOf (bS eb r23) = dOf eb := by
          funext i
          show (bS eb r23).1 2 (69 + i) = _
          rw [bS_j (by omega) (by omega)]
        -- what both end in: the class's Y, the reference's mm
        have fin : ∀ (Y : Nat → Obj) (mm : Obj), (∀ j, j < 100 ∨ 200 < j → j ≠ 201 → Y j = XL j) → (∀ j, j ≠ 0 → j ≠ 2 → j ≠ 7 → mm.1 j = (bS eb r23).1 j) → mm.1 2 = (bS eb r23).1 2 → mm.2 = (bS eb r23).2 → (∀ i, i ≠ 0 → i ≠ 23 → i ≠ 34 → mm.1 0 i = (bS eb r23).1 0 i) → pPast n h L hp Y (mm.1 7) (mm.1 0 23) → R Y mm := fun Y mm hY1 k1 k2 k3 k4 k5 => by
          have y12 : Y 12 = sc2 := by rw [hY1 12 (by omega) (by omega), xLs]
          have yj : ∀ j, j ≠ 12 → (j < 100 ∨ 200 < j) → j ≠ 201 → j ≠ 213 → Y j = X7 j := fun j h12 h100 h201 h213 => by rw [hY1 j h100 h201, xLn j h12 h213, n2 j h100 h12 h201]
          refine R_book hs hr (fun j h0 h1 h12 h100 h201 h213 => ?_) (fun i hi => ?_) ?_ ?_ ?_ ?_ (fun j hj => ?_) (fun i hi => ?_) (fun j hj => ?_) (fun i i1 i2 => ?_) ?_ k5 ?_
          · rw [yj j h12 h100 h201 h213, x7j j h0 h1 h213]
          · rw [yj 0 (by omega) (by omega) (by omega) (by omega), x70, sI_1, if_neg (by omega)]
          · rw [yj 0 (by omega) (by omega) (by omega) (by omega), x70, sI_1, if_pos ⟨rfl, rfl⟩, ht2, k4 15 (by omega) (by omega) (by omega), s0 15 (by omega), m315]
          · rw [yj 1 (by omega) (by omega) (by omega) (by omega), x71]; exact ht21
          · rw [yj 1 (by omega) (by omega) (by omega) (by omega), x71, sI_1, if_pos ⟨rfl, rfl⟩]
          · rw [k4 2 (by omega) (by omega) (by omega), s0 2 (by omega), m32]
          · rw [k1 j (by omega) (by omega) (by omega), sj j (by omega) (by omega) (by omega) (by omega) (by omega)]
          · rw [k2, s2 i hi]
          · rw [k3, sl, m3l j hj]
          · rw [k4 i (by omega) (by omega) (by omega), s0 i (by omega), m30 i (by omega) (by omega)]
          · rw [y12]
            have : dOf mm = dOf eb := by
              rw [← sd]
              funext i
              show mm.1 2 (69 + i) = (bS eb r23).1 2 (69 + i)
              rw [k2]
            rw [this]; exact f12
          · rw [hY1 213 (by omega) (by omega), xLb, k4 37 (by omega) (by omega) (by omega), bS_37, k1 13 (by omega) (by omega) (by omega)]; exact f13
        by_cases hd : d = 0
        · rw [if_pos (by rw [nle (by omega) (by omega)]; omega), lJ, f6] at lM
          have lA : fPa_keepIfAny XL (nI d) = some (nI d, XL) := by
            unfold fPa_keepIfAny
            simp only [lit]
            rw [if_pos (by rw [nle (by omega) (by omega)]; omega)]
          rw [lA, Option.bind_some] at lK
          simp only at lK
          rw [l115 XL w d f9 (by rw [xLb]; exact f7) (by rw [xLb]; exact f8)] at lK
          refine ⟨_, XL, bS eb r23, lK, lM, fin XL (bS eb r23) (fun j _ _ => rfl) (fun j _ _ _ => rfl) rfl rfl (fun i _ _ _ => rfl) ?_⟩
          rw [sj 7 (by omega) (by omega) (by omega) (by omega) (by omega), s0 23 (by omega), m30 23 (by omega) (by omega)]
          exact pastN_past n5'
        · rw [if_neg (by rw [nle (by omega) (by omega)]; omega)] at lM
          have hz8 : ∃ zz, zz ≤ 8 ∧ m.1 0 23 = nI zz := by
            obtain ⟨_, zz, _, h2, _, _, h5, _⟩ := hP
            exact ⟨zz, h2, h5⟩
          obtain ⟨zz, hzz, h23⟩ := hz8
          have s23 : (bS eb r23).1 0 23 = m.1 0 23 := by rw [s0 23 (by omega), m30 23 (by omega) (by omega)]
          have s7 : (bS eb r23).1 7 = m.1 7 := sj 7 (by omega) (by omega) (by omega) (by omega) (by omega)
          have s8 : ∀ i, i < 92 → (bS eb r23).1 8 i = dOf m3 i := fun i hi => by rw [bS_j (by omega) (by omega), f17 i hi]
          obtain ⟨ms, o1, o2, o3, o4⟩ := mo_stores (m := bS eb r23) hzz (by rw [s23]; exact h23)
          rw [s23, s7] at o4
          rw [o1, Option.bind_some] at lM
          have o8 : ms.1 8 = (bS eb r23).1 8 := by
            obtain ⟨ms', l1, l2⟩ := mo_stores8 (m := bS eb r23) hzz (by rw [s23]; exact h23)
            rw [o1] at l1
            rw [Option.some.inj l1]; exact l2
          obtain ⟨z1, hz1, k23, un1⟩ : ∃ z1, z1 ≤ 7 ∧ ms.1 0 23 = nI (z1 + 1) ∧ ∀ un', (∀ i, i < z1 → ∀ j, j < 92 → un' (92 * i + j) = ms.1 7 (92 * i + j)) → (∀ j, j < 92 → un' (92 * z1 + j) = dOf m3 j) → stoR (m.1 7) (m.1 0 23) un' (ms.1 0 23) (dOf m3) := by
            obtain ⟨z0, hz0, p1, ⟨p2, p3, p4, p5⟩ | ⟨p2, p3, p4, p5⟩⟩ := o4
            · refine ⟨z0, by omega, p3, fun un' u1 u2 => ⟨z0, hz0, p1, Or.inl ⟨p2, p3, fun i hi j hj => ?_, u2⟩⟩⟩
              rw [u1 i hi j hj, p4 i hi j hj]
            · refine ⟨7, by omega, p3, fun un' u1 u2 => ⟨z0, hz0, p1, Or.inr ⟨p2, p3, fun i hi j hj => ?_, u2⟩⟩⟩
              rw [u1 i hi j hj, p4 i hi j hj]
          rw [mo_L240 hz1 k23, Option.bind_some, lJ, f6] at lM
          obtain ⟨me, hme⟩ : ∃ me, me = sA ms 7 (fun i => if 92 * z1 ≤ i ∧ i < 92 * z1 + 92 then ms.1 8 (i - 92 * z1) else ms.1 7 i) := ⟨_, rfl⟩
          rw [← hme] at lM
          have me7 : ∀ i, me.1 7 i = if 92 * z1 ≤ i ∧ i < 92 * z1 + 92 then ms.1 8 (i - 92 * z1) else ms.1 7 i := fun i => by rw [hme, sA_1, if_pos rfl]
          have mej : ∀ j, j ≠ 7 → me.1 j = ms.1 j := fun j hj => by rw [hme]; exact va_up_ne _ _ hj
          have hsto : stoR (m.1 7) (m.1 0 23) (me.1 7) (me.1 0 23) (dOf m3) := by
            rw [mej 0 (by omega)]
            refine un1 _ (fun i hi j hj => ?_) (fun j hj => ?_)
            · rw [me7, if_neg (by omega)]
            · rw [me7, if_pos (by omega), o8, show 92 * z1 + j - 92 * z1 = j by omega, s8 j hj]
          obtain ⟨X4, e1, e2, e3, e4⟩ := past_keep (X := XL) hB.1 n5' hsto
          have lA : fPa_keepIfAny XL (nI d) = some (nI d, X4) := by
            unfold fPa_keepIfAny
            simp only [lit]
            rw [if_neg (by rw [nle (by omega) (by omega)]; omega), e1, Option.bind_some]
          have x4n : ∀ j, j < 100 ∨ 200 < j → j ≠ 201 → X4 j = XL j := fun j h1 h2 => by
            by_cases h12 : j = 12
            · rw [h12]; exact e3
            · exact e2 j h1 h12 h2
          rw [lA, Option.bind_some] at lK
          simp only at lK
          rw [l115 X4 w d f9 (by rw [x4n 213 (by omega) (by omega), xLb]; exact f7) (by rw [x4n 213 (by omega) (by omega), xLb]; exact f8)] at lK
          refine ⟨_, X4, me, lK, lM, fin X4 me x4n (fun j j0 j2 j7 => ?_) ?_ ?_ (fun i i0 i23 i34 => ?_) e4⟩
          · rw [mej j j7]
            by_cases j8 : j = 8
            · rw [j8]; exact o8
            · exact o2.2.1 j j0 j2 j7 j8
          · rw [mej 2 (by omega), o3]
          · rw [hme]
            show ms.2 = _
            exact o2.1
          · rw [mej 0 (by omega)]; exact o2.2.2 i i0 i23 i34
    · subst y1 y2
      obtain ⟨X5, hX5⟩ : ∃ X5, X5 = va_up (va_up X 213 bk') 1 ta' := ⟨_, rfl⟩
      have x51 : X5 1 = ta' := by rw [hX5, va_up_at, if_pos rfl]
      have x5b : X5 213 = bk' := by rw [hX5, va_up_ne _ _ (by omega), va_up_at, if_pos rfl]
      have x5n : ∀ j, j ≠ 1 → j ≠ 213 → X5 j = X j := fun j h1 h2 => by rw [hX5, va_up_ne _ _ h1, va_up_ne _ _ h2]
      obtain ⟨X7, lF, x70, x71, x7n⟩ := fin_ok (X := X5)
      rw [x5n 0 (by omega) (by omega), x51] at x70
      rw [x51] at x71
      have m3j : ∀ j, j ≠ 0 → j ≠ 4 → m3.1 j = m.1 j := fun j h0 h4 => by rw [y5.1 j h0 h4, m2j j h0]
      have m3l : ∀ j, j ≠ 0 → m3.2 j = m.2 j := fun j h0 => by rw [y5.2.1 j h0, m2l j h0]
      have m30 : ∀ i, 18 < i → i ≠ 35 → m3.1 0 i = m.1 0 i := fun i hi h35 => by rw [y5.2.2 i (by omega) (by omega) (by omega) h35, m20 i (by omega) h35]
      have m32 : m3.1 0 2 = nI 0 := by rw [y5.2.2 2 (by omega) (by omega) (by omega) (by omega), g5.2.1 2 (by omega) (by omega), c2]
      refine ⟨-nI 2 - ta'.1 0 3, X7, m3, ?_, ?_, ?_⟩
      · simp only [Sum.elim_inr, Option.bind_some] at lK
        rw [lK, ← hX5, lF, Option.bind_some, if_pos trivial, x71, sI_1, if_neg (by omega)]
      · simp only [Sum.elim_inr] at lM
        rw [lM, y3.2]
      · refine R_read hs hP hr (fun j h0 h1 h29 h36 h47 h201 h212 h213 => ?_) (fun i hi => ?_) ?_ ?_ ?_ m32 (fun j hj => m3j j (by omega) (by omega)) (fun i _ => by rw [m3l 5 (by omega)]) (m3l 6 (by omega)) (m3l 17 (by omega)) (fun i h1 h2 => m30 i (by omega) (by omega)) ?_
        · rw [x7n j h0 h1, x5n j h1 h213]
        · rw [x70, sI_1, if_neg (by omega)]
        · rw [x70, sI_1, if_pos ⟨rfl, rfl⟩]; exact y3.1
        · rw [x71]
          show ta'.2 1 = _
          rw [y4.2.1 1 (by omega), g7]
        · rw [x71, sI_1, if_pos ⟨rfl, rfl⟩]
        · rw [x7n 213 (by omega) (by omega), x5b]
          exact tolF bk' m3 y6 (m30 37 (by omega) (by omega)) (m3j 13 (by omega) (by omega))
  · refine ⟨-nI 1000, X, sI m 0 0 (nI 0), ?_, ?_, hR1⟩
    · unfold fKL_book
      simp only [lit]
      rw [if_neg (hv 0 (by omega)), if_neg (hv 1 (by omega))]
    · unfold fMo_book
      simp only [lit, bnd]
      rw [isIn_out' (by omega) hv, Option.bind_some, if_pos rfl]
end
