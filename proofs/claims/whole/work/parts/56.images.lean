theorem mo_img_in (k : Nat) (hk : k < 2) : fMo_isIn (nI k) (nI 0) (nI 1) = some (nI 1) := isIn_in' (by omega) (by omega)
section
variable {X X' X1 : Nat → Obj} {n h L e t : Nat} {hp hm : Nat → Nat} {sr : Nat → Bool} {q m m' m0 m1 sc sc0 sc2 sy ta : Obj} {S S' : Nat → Nat → Nat} {T B : Nat} {d un un' s s' : Nat → Int32} {many many' : Int32} {nm nm' : Nat → Int64}
theorem cpyLL {f : Int32 × Obj → Option ((Int32 × Obj) ⊕ Obj)} (j a N : Nat) (hN : N < 2000) (v : Nat → Int64)
    (hs : ∀ k, k < N → f (nI k, sAL m j (fun i => if a ≤ i ∧ i < a + k then v (i - a) else m.2 j i)) = some (.inl (nI (k + 1), sL (sAL m j (fun i => if a ≤ i ∧ i < a + k then v (i - a) else m.2 j i)) j (a + k) (v k))))
    (he : ∀ x, f (nI N, x) = some (.inr x)) : iter f FU (nI 0, m) = some (sAL m j (fun i => if a ≤ i ∧ i < a + N then v (i - a) else m.2 j i)) := by
  have key := lpo (f := f) (J := fun k x => x = sAL m j (fun i => if a ≤ i ∧ i < a + k then v (i - a) else m.2 j i)) N hN (x := m) ?_ (fun k x hk hz => ?_) (fun x _ => he x)
  · obtain ⟨x', g1, g2⟩ := key
    rw [g1, g2]
  · have : (fun i => if a ≤ i ∧ i < a + 0 then v (i - a) else m.2 j i) = m.2 j := by
      funext i
      rw [if_neg (by omega)]
    rw [this]
    refine Prod.ext rfl ?_
    funext j'
    show _ = va_up m.2 j (m.2 j) j'
    rw [va_up_at]
    by_cases hj : j' = j
    · rw [if_pos hj, hj]
    · rw [if_neg hj]
  · subst hz
    refine ⟨_, hs k hk, ?_⟩
    refine Prod.ext rfl ?_
    show va_up (va_up m.2 j _) j (va_up (va_up m.2 j _ j) (a + k) (v k)) = va_up m.2 j _
    funext j'
    simp only [va_up_at, if_true]
    by_cases hj : j' = j
    · rw [if_pos hj, if_pos hj]
      funext i
      simp only [va_up_at]
      by_cases h1 : i = a + k
      · rw [if_pos h1, if_pos (by omega)]
        congr 1
        omega
      · rw [if_neg h1]
        by_cases h2 : a ≤ i ∧ i < a + k
        · rw [if_pos h2, if_pos (by omega)]
        · rw [if_neg h2, if_neg (by omega)]
    · simp only [hj, if_false]
theorem pStr_s (hP : pStr n h L e t hp hm sr q sc sy s nm) (h1 : ∀ i, i < 342 → s' i = s i) (h2 : ∀ i, i < 14 → nm' i = nm i) : pStr n h L e t hp hm sr q sc sy s' nm' := by
  obtain ⟨hB, hC, hM, hN, hc, hY⟩ := hP
  obtain ⟨b1, b2, -⟩ := id hB
  refine ⟨hB, hC, ?_, ⟨fun k hk => ?_, fun p hpn => ?_⟩, RC_d b1 (fun j hj => h1 (69 + j) (by omega)) hc, sayR_s (fun i _ hi => h1 i hi) hY⟩
  · obtain ⟨⟨c0, c1, c2, c3, c4⟩, c5, c6, c7⟩ := hM
    refine ⟨⟨?_, ?_, ?_, ?_, ?_⟩, fun k hk => ?_, fun p hpn => ?_, ?_⟩
    · rw [h1 0 (by omega)]; exact c0
    · rw [h1 1 (by omega)]; exact c1
    · rw [h1 2 (by omega)]; exact c2
    · rw [h1 3 (by omega)]; exact c3
    · rw [h1 4 (by omega)]; exact c4
    · rw [h1 (5 + k) (by omega)]; exact c5 k hk
    · rw [h1 (11 + p) (by omega)]; exact c6 p hpn
    · rw [h1 35 (by omega)]; exact c7
  · rw [h2 k (by omega)]; exact hN.1 k hk
  · rw [h2 (6 + p) (by omega)]; exact hN.2 p hpn
theorem st_copy {a b : Nat} (hP : pStr n h L e t hp hm sr (X (b + 1)) (X (b + 8)) (X (b + 19)) s nm) (hab : a + 20 ≤ b ∨ b + 20 ≤ a) : ∃ X', fSt_copyFrom X a b = some X' ∧ pStr n h L e t hp hm sr (X' (a + 1)) (X' (a + 8)) (X' (a + 19)) s nm ∧ ∀ k, k ≠ a + 1 → k ≠ a + 8 → k ≠ a + 19 → X' k = X k := by
  obtain ⟨hB, hC, hM, hN, hc, hY⟩ := hP
  obtain ⟨q', q1, q2, q3⟩ := sQ_copy (q := X (a + 1)) hB hC hN
  obtain ⟨sc', s1, s2⟩ := RC_copy (sc := X (a + 8)) hB.1 hc
  obtain ⟨sy', y1, y2⟩ := say_copy (sy := X (a + 19)) hY
  refine ⟨va_up (va_up (va_up X (a + 1) q') (a + 8) sc') (a + 19) sy', ?_, ?_, fun k h1 h2 h3 => ?_⟩
  · unfold fSt_copyFrom
    rw [q1]
    simp only [Option.bind_some, bnd]
    rw [va_up_ne (j := b + 8) (k := a + 1) _ _ (by omega), va_up_ne (j := a + 8) (k := a + 1) _ _ (by omega), s1]
    simp only [Option.bind_some]
    rw [va_up_ne (j := b + 19) (k := a + 8) _ _ (by omega), va_up_ne (j := a + 19) (k := a + 8) _ _ (by omega), va_up_ne (j := b + 19) (k := a + 1) _ _ (by omega), va_up_ne (j := a + 19) (k := a + 1) _ _ (by omega), y1]
    rfl
  · have e1 : va_up (va_up (va_up X (a + 1) q') (a + 8) sc') (a + 19) sy' (a + 1) = q' := by
      rw [va_up_ne _ _ (by omega), va_up_ne _ _ (by omega), va_up_at, if_pos rfl]
    have e2 : va_up (va_up (va_up X (a + 1) q') (a + 8) sc') (a + 19) sy' (a + 8) = sc' := by
      rw [va_up_ne _ _ (by omega), va_up_at, if_pos rfl]
    have e3 : va_up (va_up (va_up X (a + 1) q') (a + 8) sc') (a + 19) sy' (a + 19) = sy' := by
      rw [va_up_at, if_pos rfl]
    rw [e1, e2, e3]
    exact ⟨hB, q2, hM, q3, s2, y2⟩
  · rw [va_up_ne _ _ h3, va_up_ne _ _ h2, va_up_ne _ _ h1]
theorem mo_imgL (k : Nat) (hk : k < 2) (m : Obj) : iter (fMo_image_L18 (nI k)) FU (nI 0, m) = some (sA m 16 (fun i => if 342 * k ≤ i ∧ i < 342 * k + 342 then m.1 2 (i - 342 * k) else m.1 16 i)) := by
  refine cpyL (m := m) (f := fMo_image_L18 (nI k)) 16 (342 * k) 342 (by omega) (fun i => m.1 2 i) (fun i hi => ?_) (fun x => ?_)
  · generalize hg : (fun j => if 342 * k ≤ j ∧ j < 342 * k + i then m.1 2 (j - 342 * k) else m.1 16 j) = g
    have e2 : (sA m 16 g).1 2 i = m.1 2 i := rfl
    unfold fMo_image_L18
    simp only [lit]
    rw [if_neg (by rw [nle (by omega) (by omega)]; omega), ix_nI (by omega) (by omega), nmul, nadd, ix_nI (by omega) (by omega)]
    simp only [Option.bind_some, bnd, e2, nadd]
  · unfold fMo_image_L18
    simp only [lit]
    rw [if_pos (by rw [nle (by omega) (by omega)]; omega)]
theorem mo_imgN (k : Nat) (hk : k < 2) (m : Obj) : iter (fMo_image_L51 (nI k)) FU (nI 0, m) = some (sAL m 17 (fun i => if 14 * k ≤ i ∧ i < 14 * k + 14 then m.2 5 (i - 14 * k) else m.2 17 i)) := by
  refine cpyLL (m := m) (f := fMo_image_L51 (nI k)) 17 (14 * k) 14 (by omega) (fun i => m.2 5 i) (fun i hi => ?_) (fun x => ?_)
  · generalize hg : (fun j => if 14 * k ≤ j ∧ j < 14 * k + i then m.2 5 (j - 14 * k) else m.2 17 j) = g
    have e2 : (sAL m 17 g).2 5 i = m.2 5 i := rfl
    unfold fMo_image_L51
    simp only [lit]
    rw [if_neg (by rw [nle (by omega) (by omega)]; omega), ix_nI (by omega) (by omega), nmul, nadd, ix_nI (by omega) (by omega)]
    simp only [Option.bind_some, bnd, e2, nadd]
  · unfold fMo_image_L51
    simp only [lit]
    rw [if_pos (by rw [nle (by omega) (by omega)]; omega)]
theorem mo_resL (k : Nat) (hk : k < 2) (m : Obj) : iter (fMo_restore_L27 (nI k)) FU (nI 0, m) = some (sA m 2 (fun i => if 0 ≤ i ∧ i < 0 + 342 then m.1 16 (342 * k + (i - 0)) else m.1 2 i)) := by
  refine cpyL (m := m) (f := fMo_restore_L27 (nI k)) 2 0 342 (by omega) (fun i => m.1 16 (342 * k + i)) (fun i hi => ?_) (fun x => ?_)
  · generalize hg : (fun j => if 0 ≤ j ∧ j < 0 + i then m.1 16 (342 * k + (j - 0)) else m.1 2 j) = g
    have e2 : ∀ j, (sA m 2 g).1 16 j = m.1 16 j := fun j => rfl
    unfold fMo_restore_L27
    simp only [lit]
    rw [if_neg (by rw [nle (by omega) (by omega)]; omega), nmul, nadd, ix_nI (by omega) (by omega), ix_nI (by omega) (by omega)]
    simp only [Option.bind_some, bnd, e2, nadd, Nat.zero_add]
  · unfold fMo_restore_L27
    simp only [lit]
    rw [if_pos (by rw [nle (by omega) (by omega)]; omega)]
theorem mo_resN (k : Nat) (hk : k < 2) (m : Obj) : iter (fMo_restore_L60 (nI k)) FU (nI 0, m) = some (sAL m 5 (fun i => if 0 ≤ i ∧ i < 0 + 14 then m.2 17 (14 * k + (i - 0)) else m.2 5 i)) := by
  refine cpyLL (m := m) (f := fMo_restore_L60 (nI k)) 5 0 14 (by omega) (fun i => m.2 17 (14 * k + i)) (fun i hi => ?_) (fun x => ?_)
  · generalize hg : (fun j => if 0 ≤ j ∧ j < 0 + i then m.2 17 (14 * k + (j - 0)) else m.2 5 j) = g
    have e2 : ∀ j, (sAL m 5 g).2 17 j = m.2 17 j := fun j => rfl
    unfold fMo_restore_L60
    simp only [lit]
    rw [if_neg (by rw [nle (by omega) (by omega)]; omega), nmul, nadd, ix_nI (by omega) (by omega), ix_nI (by omega) (by omega)]
    simp only [Option.bind_some, bnd, e2, nadd, Nat.zero_add]
  · unfold fMo_restore_L60
    simp only [lit]
    rw [if_pos (by rw [nle (by omega) (by omega)]; omega)]
theorem pImg_s {st : Obj} {im im' : Nat → Int32} {nk nk' : Nat → Int64} {b : Int32} (hP : pImg st q sc sy im nk b) (h1 : ∀ i, i < 342 → im' i = im i) (h2 : ∀ i, i < 14 → nk' i = nk i) : pImg st q sc sy im' nk' b := by
  rcases hP with hP | ⟨a1, a2, n, h, L, e, t, hp, hm, sr, a3⟩
  · exact Or.inl hP
  · exact Or.inr ⟨a1, a2, n, h, L, e, t, hp, hm, sr, pStr_s a3 h1 h2⟩
theorem im_in {α : Type} {a N i : Nat} {f g : Nat → α} (hi : i < N) : (if a ≤ a + i ∧ a + i < a + N then f (a + i - a) else g (a + i)) = f i := by
  rw [if_pos (by omega), Nat.add_sub_cancel_left]
theorem k_img0 (hR : R X m) : ∃ r X' m', fKL_image X (nI 0) = some (r, X') ∧ fMo_image m (nI 0) = some (r, m') ∧ R X' m' := by
  obtain ⟨n, h, L, e, t, hp, hm, sr, hs, hP, hT, hI0, hI1, hr⟩ := hR
  obtain ⟨X1, c1, c2, hx⟩ := st_copy (X := X) (a := 52) (b := 4) hs (by omega)
  refine ⟨nI 1, va_up X1 52 (sI (X1 52) 0 3 (nI 1)), sI (sAL (sA (sI m 0 0 (nI 0)) 16 (fun i => if 342 * 0 ≤ i ∧ i < 342 * 0 + 342 then m.1 2 (i - 342 * 0) else m.1 16 i)) 17 (fun i => if 14 * 0 ≤ i ∧ i < 14 * 0 + 14 then m.2 5 (i - 14 * 0) else m.2 17 i)) 18 0 (nI 1), ?_, ?_, ?_⟩
  · unfold fKL_image fKL_imageOf
    simp only [lit]
    rw [if_pos trivial]
    simp only [Option.bind_some]
    rw [if_neg (by decide), if_pos trivial, c1]
    rfl
  · unfold fMo_image
    simp only [lit, bnd]
    rw [mo_img_in 0 (by omega)]
    simp only [Option.bind_some]
    rw [if_neg (by decide +kernel), mo_imgL 0 (by omega)]
    simp only [Option.bind_some]
    rw [mo_imgN 0 (by omega)]
    simp only [Option.bind_some]
    rw [ix_nI (by omega) (by omega)]
    rfl
  · have hx' : ∀ j, j ≠ 52 → j ≠ 52 + 1 → j ≠ 52 + 8 → j ≠ 52 + 19 → (va_up X1 52 (sI (X1 52) 0 3 (nI 1))) j = X j := fun j h0 h1 h2 h3 => by rw [va_up_ne _ _ h0, hx j h1 h2 h3]
    have hO : pImg ((va_up X1 52 (sI (X1 52) 0 3 (nI 1))) 76) ((va_up X1 52 (sI (X1 52) 0 3 (nI 1))) 77) ((va_up X1 52 (sI (X1 52) 0 3 (nI 1))) 84) ((va_up X1 52 (sI (X1 52) 0 3 (nI 1))) 95) (fun i => (sI (sAL (sA (sI m 0 0 (nI 0)) 16 (fun i => if 342 * 0 ≤ i ∧ i < 342 * 0 + 342 then m.1 2 (i - 342 * 0) else m.1 16 i)) 17 (fun i => if 14 * 0 ≤ i ∧ i < 14 * 0 + 14 then m.2 5 (i - 14 * 0) else m.2 17 i)) 18 0 (nI 1)).1 16 (342 * 1 + i)) (fun i => (sI (sAL (sA (sI m 0 0 (nI 0)) 16 (fun i => if 342 * 0 ≤ i ∧ i < 342 * 0 + 342 then m.1 2 (i - 342 * 0) else m.1 16 i)) 17 (fun i => if 14 * 0 ≤ i ∧ i < 14 * 0 + 14 then m.2 5 (i - 14 * 0) else m.2 17 i)) 18 0 (nI 1)).2 17 (14 * 1 + i)) ((sI (sAL (sA (sI m 0 0 (nI 0)) 16 (fun i => if 342 * 0 ≤ i ∧ i < 342 * 0 + 342 then m.1 2 (i - 342 * 0) else m.1 16 i)) 17 (fun i => if 14 * 0 ≤ i ∧ i < 14 * 0 + 14 then m.2 5 (i - 14 * 0) else m.2 17 i)) 18 0 (nI 1)).1 18 1) := by
      rw [hx' 76 (by omega) (by omega) (by omega) (by omega), hx' 77 (by omega) (by omega) (by omega) (by omega), hx' 84 (by omega) (by omega) (by omega) (by omega), hx' 95 (by omega) (by omega) (by omega) (by omega)]
      exact pImg_s (st := X 76) (q := X 77) (sc := X 84) (sy := X 95) hI1 (fun i hi => if_neg (show ¬ (342 * 0 ≤ 342 * 1 + i ∧ 342 * 1 + i < 342 * 0 + 342) by omega)) (fun i hi => if_neg (show ¬ (14 * 0 ≤ 14 * 1 + i ∧ 14 * 1 + i < 14 * 0 + 14) by omega))
    refine ⟨n, h, L, e, t, hp, hm, sr, ?_, ?_, ?_, Or.inr ⟨rfl, rfl, n, h, L, e, t, hp, hm, sr, pStr_s (s := m.1 2) (nm := m.2 5) c2 (fun i hi => im_in (f := m.1 2) (g := m.1 16) hi) (fun i hi => im_in (f := m.2 5) (g := m.2 17) hi)⟩, hO, ?_⟩
    · rw [hx' 5 (by omega) (by omega) (by omega) (by omega), hx' 12 (by omega) (by omega) (by omega) (by omega), hx' 23 (by omega) (by omega) (by omega) (by omega)]
      exact hs
    · obtain ⟨f, z, p1, p2, p3, p4, p5, p6⟩ := hP
      refine ⟨f, z, p1, p2, ?_, ?_, p5, fun i hi => ?_⟩
      · rw [hx' 100 (by omega) (by omega) (by omega) (by omega)]; exact p3
      · rw [hx' 100 (by omega) (by omega) (by omega) (by omega)]; exact p4
      · rw [hx' _ (by omega) (by omega) (by omega) (by omega)]; exact p6 i hi
    · rw [hx' 1 (by omega) (by omega) (by omega) (by omega)]; exact hT
    · rw [hx' 1 (by omega) (by omega) (by omega) (by omega), hx' 0 (by omega) (by omega) (by omega) (by omega), hx' 220 (by omega) (by omega) (by omega) (by omega), hx' 223 (by omega) (by omega) (by omega) (by omega), hx' 213 (by omega) (by omega) (by omega) (by omega)]
      exact hr
theorem k_img1 (hR : R X m) : ∃ r X' m', fKL_image X (nI 1) = some (r, X') ∧ fMo_image m (nI 1) = some (r, m') ∧ R X' m' := by
  obtain ⟨n, h, L, e, t, hp, hm, sr, hs, hP, hT, hI0, hI1, hr⟩ := hR
  obtain ⟨X1, c1, c2, hx⟩ := st_copy (X := X) (a := 76) (b := 4) hs (by omega)
  refine ⟨nI 1, va_up X1 76 (sI (X1 76) 0 3 (nI 1)), sI (sAL (sA (sI m 0 0 (nI 0)) 16 (fun i => if 342 * 1 ≤ i ∧ i < 342 * 1 + 342 then m.1 2 (i - 342 * 1) else m.1 16 i)) 17 (fun i => if 14 * 1 ≤ i ∧ i < 14 * 1 + 14 then m.2 5 (i - 14 * 1) else m.2 17 i)) 18 1 (nI 1), ?_, ?_, ?_⟩
  · unfold fKL_image fKL_imageOf
    simp only [lit]
    rw [if_neg (show ¬ nI 1 = nI 0 by decide +kernel), if_pos trivial]
    simp only [Option.bind_some]
    rw [if_neg (by decide), if_neg (by decide), c1]
    rfl
  · unfold fMo_image
    simp only [lit, bnd]
    rw [mo_img_in 1 (by omega)]
    simp only [Option.bind_some]
    rw [if_neg (by decide +kernel), mo_imgL 1 (by omega)]
    simp only [Option.bind_some]
    rw [mo_imgN 1 (by omega)]
    simp only [Option.bind_some]
    rw [ix_nI (by omega) (by omega)]
    rfl
  · have hx' : ∀ j, j ≠ 76 → j ≠ 76 + 1 → j ≠ 76 + 8 → j ≠ 76 + 19 → (va_up X1 76 (sI (X1 76) 0 3 (nI 1))) j = X j := fun j h0 h1 h2 h3 => by rw [va_up_ne _ _ h0, hx j h1 h2 h3]
    have hO : pImg ((va_up X1 76 (sI (X1 76) 0 3 (nI 1))) 52) ((va_up X1 76 (sI (X1 76) 0 3 (nI 1))) 53) ((va_up X1 76 (sI (X1 76) 0 3 (nI 1))) 60) ((va_up X1 76 (sI (X1 76) 0 3 (nI 1))) 71) (fun i => (sI (sAL (sA (sI m 0 0 (nI 0)) 16 (fun i => if 342 * 1 ≤ i ∧ i < 342 * 1 + 342 then m.1 2 (i - 342 * 1) else m.1 16 i)) 17 (fun i => if 14 * 1 ≤ i ∧ i < 14 * 1 + 14 then m.2 5 (i - 14 * 1) else m.2 17 i)) 18 1 (nI 1)).1 16 (342 * 0 + i)) (fun i => (sI (sAL (sA (sI m 0 0 (nI 0)) 16 (fun i => if 342 * 1 ≤ i ∧ i < 342 * 1 + 342 then m.1 2 (i - 342 * 1) else m.1 16 i)) 17 (fun i => if 14 * 1 ≤ i ∧ i < 14 * 1 + 14 then m.2 5 (i - 14 * 1) else m.2 17 i)) 18 1 (nI 1)).2 17 (14 * 0 + i)) ((sI (sAL (sA (sI m 0 0 (nI 0)) 16 (fun i => if 342 * 1 ≤ i ∧ i < 342 * 1 + 342 then m.1 2 (i - 342 * 1) else m.1 16 i)) 17 (fun i => if 14 * 1 ≤ i ∧ i < 14 * 1 + 14 then m.2 5 (i - 14 * 1) else m.2 17 i)) 18 1 (nI 1)).1 18 0) := by
      rw [hx' 52 (by omega) (by omega) (by omega) (by omega), hx' 53 (by omega) (by omega) (by omega) (by omega), hx' 60 (by omega) (by omega) (by omega) (by omega), hx' 71 (by omega) (by omega) (by omega) (by omega)]
      exact pImg_s (st := X 52) (q := X 53) (sc := X 60) (sy := X 71) hI0 (fun i hi => if_neg (show ¬ (342 * 1 ≤ 342 * 0 + i ∧ 342 * 0 + i < 342 * 1 + 342) by omega)) (fun i hi => if_neg (show ¬ (14 * 1 ≤ 14 * 0 + i ∧ 14 * 0 + i < 14 * 1 + 14) by omega))
    refine ⟨n, h, L, e, t, hp, hm, sr, ?_, ?_, ?_, hO, Or.inr ⟨rfl, rfl, n, h, L, e, t, hp, hm, sr, pStr_s (s := m.1 2) (nm := m.2 5) c2 (fun i hi => im_in (f := m.1 2) (g := m.1 16) hi) (fun i hi => im_in (f := m.2 5) (g := m.2 17) hi)⟩, ?_⟩
    · rw [hx' 5 (by omega) (by omega) (by omega) (by omega), hx' 12 (by omega) (by omega) (by omega) (by omega), hx' 23 (by omega) (by omega) (by omega) (by omega)]
      exact hs
    · obtain ⟨f, z, p1, p2, p3, p4, p5, p6⟩ := hP
      refine ⟨f, z, p1, p2, ?_, ?_, p5, fun i hi => ?_⟩
      · rw [hx' 100 (by omega) (by omega) (by omega) (by omega)]; exact p3
      · rw [hx' 100 (by omega) (by omega) (by omega) (by omega)]; exact p4
      · rw [hx' _ (by omega) (by omega) (by omega) (by omega)]; exact p6 i hi
    · rw [hx' 1 (by omega) (by omega) (by omega) (by omega)]; exact hT
    · rw [hx' 1 (by omega) (by omega) (by omega) (by omega), hx' 0 (by omega) (by omega) (by omega) (by omega), hx' 220 (by omega) (by omega) (by omega) (by omega), hx' 223 (by omega) (by omega) (by omega) (by omega), hx' 213 (by omega) (by omega) (by omega) (by omega)]
      exact hr
theorem k_res0 (hR : R X m) : ∃ r X' m', fKL_restore X (nI 0) = some (r, X') ∧ fMo_restore m (nI 0) = some (r, m') ∧ R X' m' := by
  have hR0 := R_thr (v := nI 0) hR
  obtain ⟨n, h, L, e, t, hp, hm, sr, hs, hP, hT, hI0, hI1, hr⟩ := hR
  rcases id hI0 with ⟨a1, a2⟩ | ⟨a1, a2, n, h, L, e, t, hp, hm, sr, a3⟩
  · refine ⟨nI 0, X, sI m 0 0 (nI 0), ?_, ?_, hR0⟩
    · unfold fKL_restore fKL_imageOf
      simp only [lit]
      rw [if_pos trivial]
      simp only [Option.bind_some]
      rw [if_neg (by decide), if_pos trivial, a1, if_pos rfl]
    · have a2' : (sI m 0 0 (nI 0)).1 18 0 = nI 0 := a2
      unfold fMo_restore
      simp only [lit, bnd]
      rw [mo_img_in 0 (by omega)]
      simp only [Option.bind_some]
      rw [if_neg (show ¬ nI 1 = nI 0 by decide +kernel), ix_nI (by omega) (by omega)]
      simp only [Option.bind_some]
      rw [a2', if_pos rfl]
  · obtain ⟨X1, c1, c2, hx⟩ := st_copy (X := X) (a := 4) (b := 52) a3 (by omega)
    have hx' : ∀ j, j ≠ 5 → j ≠ 12 → j ≠ 23 → j ≠ 100 → (va_up X1 100 (sI (X1 100) 0 2 (nI 0))) j = X j := fun j h0 h1 h2 h3 => by rw [va_up_ne _ _ h3, hx j h0 h1 h2]
    refine ⟨nI 1, va_up X1 100 (sI (X1 100) 0 2 (nI 0)), sI (sAL (sA (sI m 0 0 (nI 0)) 2 (fun i => if 0 ≤ i ∧ i < 0 + 342 then m.1 16 (342 * 0 + (i - 0)) else m.1 2 i)) 5 (fun i => if 0 ≤ i ∧ i < 0 + 14 then m.2 17 (14 * 0 + (i - 0)) else m.2 5 i)) 0 23 (nI 0), ?_, ?_, ?_⟩
    · unfold fKL_restore fKL_imageOf
      simp only [lit]
      rw [if_pos trivial]
      simp only [Option.bind_some]
      rw [if_neg (by decide), if_pos trivial, a1, if_neg (by decide +kernel), c1]
      rfl
    · have a2' : (sI m 0 0 (nI 0)).1 18 0 = nI 1 := a2
      unfold fMo_restore
      simp only [lit, bnd]
      rw [mo_img_in 0 (by omega)]
      simp only [Option.bind_some]
      rw [if_neg (show ¬ nI 1 = nI 0 by decide +kernel), ix_nI (by omega) (by omega)]
      simp only [Option.bind_some]
      rw [a2', if_neg (show ¬ nI 1 = nI 0 by decide +kernel), mo_resL 0 (by omega)]
      simp only [Option.bind_some]
      rw [mo_resN 0 (by omega)]
      rfl
    · refine ⟨n, h, L, e, t, hp, hm, sr, ?_, ?_, ?_, ?_, ?_, ?_⟩
      · refine pStr_s (q := (va_up X1 100 (sI (X1 100) 0 2 (nI 0))) 5) (sc := (va_up X1 100 (sI (X1 100) 0 2 (nI 0))) 12) (sy := (va_up X1 100 (sI (X1 100) 0 2 (nI 0))) 23) c2 (fun i hi => ?_) (fun i hi => ?_)
        · show (if 0 ≤ i ∧ i < 0 + 342 then m.1 16 (342 * 0 + (i - 0)) else m.1 2 i) = _
          rw [if_pos (by omega)]; rfl
        · show (if 0 ≤ i ∧ i < 0 + 14 then m.2 17 (14 * 0 + (i - 0)) else m.2 5 i) = _
          rw [if_pos (by omega)]; rfl
      · obtain ⟨f, z, p1, p2, p3, p4, p5, p6⟩ := hP
        refine ⟨f, 0, p1, by omega, ?_, rfl, rfl, fun i hi => absurd hi (by omega)⟩
        show (X1 100).1 0 1 = nI f
        rw [hx 100 (by omega) (by omega) (by omega)]; exact p3
      · rw [hx' 1 (by omega) (by omega) (by omega) (by omega)]; exact hT
      · rw [hx' 52 (by omega) (by omega) (by omega) (by omega), hx' 53 (by omega) (by omega) (by omega) (by omega), hx' 60 (by omega) (by omega) (by omega) (by omega), hx' 71 (by omega) (by omega) (by omega) (by omega)]
        exact hI0
      · rw [hx' 76 (by omega) (by omega) (by omega) (by omega), hx' 77 (by omega) (by omega) (by omega) (by omega), hx' 84 (by omega) (by omega) (by omega) (by omega), hx' 95 (by omega) (by omega) (by omega) (by omega)]
        exact hI1
      · rw [hx' 1 (by omega) (by omega) (by omega) (by omega), hx' 0 (by omega) (by omega) (by omega) (by omega), hx' 220 (by omega) (by omega) (by omega) (by omega), hx' 223 (by omega) (by omega) (by omega) (by omega), hx' 213 (by omega) (by omega) (by omega) (by omega)]
        exact hr
theorem k_res1 (hR : R X m) : ∃ r X' m', fKL_restore X (nI 1) = some (r, X') ∧ fMo_restore m (nI 1) = some (r, m') ∧ R X' m' := by
  have hR0 := R_thr (v := nI 0) hR
  obtain ⟨n, h, L, e, t, hp, hm, sr, hs, hP, hT, hI0, hI1, hr⟩ := hR
  rcases id hI1 with ⟨a1, a2⟩ | ⟨a1, a2, n, h, L, e, t, hp, hm, sr, a3⟩
  · refine ⟨nI 0, X, sI m 0 0 (nI 0), ?_, ?_, hR0⟩
    · unfold fKL_restore fKL_imageOf
      simp only [lit]
      rw [if_neg (show ¬ nI 1 = nI 0 by decide +kernel), if_pos trivial]
      simp only [Option.bind_some]
      rw [if_neg (by decide), if_neg (by decide), a1, if_pos rfl]
    · have a2' : (sI m 0 0 (nI 0)).1 18 1 = nI 0 := a2
      unfold fMo_restore
      simp only [lit, bnd]
      rw [mo_img_in 1 (by omega)]
      simp only [Option.bind_some]
      rw [if_neg (show ¬ nI 1 = nI 0 by decide +kernel), ix_nI (by omega) (by omega)]
      simp only [Option.bind_some]
      rw [a2', if_pos rfl]
  · obtain ⟨X1, c1, c2, hx⟩ := st_copy (X := X) (a := 4) (b := 76) a3 (by omega)
    have hx' : ∀ j, j ≠ 5 → j ≠ 12 → j ≠ 23 → j ≠ 100 → (va_up X1 100 (sI (X1 100) 0 2 (nI 0))) j = X j := fun j h0 h1 h2 h3 => by rw [va_up_ne _ _ h3, hx j h0 h1 h2]
    refine ⟨nI 1, va_up X1 100 (sI (X1 100) 0 2 (nI 0)), sI (sAL (sA (sI m 0 0 (nI 0)) 2 (fun i => if 0 ≤ i ∧ i < 0 + 342 then m.1 16 (342 * 1 + (i - 0)) else m.1 2 i)) 5 (fun i => if 0 ≤ i ∧ i < 0 + 14 then m.2 17 (14 * 1 + (i - 0)) else m.2 5 i)) 0 23 (nI 0), ?_, ?_, ?_⟩
    · unfold fKL_restore fKL_imageOf
      simp only [lit]
      rw [if_neg (show ¬ nI 1 = nI 0 by decide +kernel), if_pos trivial]
      simp only [Option.bind_some]
      rw [if_neg (by decide), if_neg (by decide), a1, if_neg (by decide +kernel), c1]
      rfl
    · have a2' : (sI m 0 0 (nI 0)).1 18 1 = nI 1 := a2
      unfold fMo_restore
      simp only [lit, bnd]
      rw [mo_img_in 1 (by omega)]
      simp only [Option.bind_some]
      rw [if_neg (show ¬ nI 1 = nI 0 by decide +kernel), ix_nI (by omega) (by omega)]
      simp only [Option.bind_some]
      rw [a2', if_neg (show ¬ nI 1 = nI 0 by decide +kernel), mo_resL 1 (by omega)]
      simp only [Option.bind_some]
      rw [mo_resN 1 (by omega)]
      rfl
    · refine ⟨n, h, L, e, t, hp, hm, sr, ?_, ?_, ?_, ?_, ?_, ?_⟩
      · refine pStr_s (q := (va_up X1 100 (sI (X1 100) 0 2 (nI 0))) 5) (sc := (va_up X1 100 (sI (X1 100) 0 2 (nI 0))) 12) (sy := (va_up X1 100 (sI (X1 100) 0 2 (nI 0))) 23) c2 (fun i hi => ?_) (fun i hi => ?_)
        · show (if 0 ≤ i ∧ i < 0 + 342 then m.1 16 (342 * 1 + (i - 0)) else m.1 2 i) = _
          rw [if_pos (by omega)]; rfl
        · show (if 0 ≤ i ∧ i < 0 + 14 then m.2 17 (14 * 1 + (i - 0)) else m.2 5 i) = _
          rw [if_pos (by omega)]; rfl
      · obtain ⟨f, z, p1, p2, p3, p4, p5, p6⟩ := hP
        refine ⟨f, 0, p1, by omega, ?_, rfl, rfl, fun i hi => absurd hi (by omega)⟩
        show (X1 100).1 0 1 = nI f
        rw [hx 100 (by omega) (by omega) (by omega)]; exact p3
      · rw [hx' 1 (by omega) (by omega) (by omega) (by omega)]; exact hT
      · rw [hx' 52 (by omega) (by omega) (by omega) (by omega), hx' 53 (by omega) (by omega) (by omega) (by omega), hx' 60 (by omega) (by omega) (by omega) (by omega), hx' 71 (by omega) (by omega) (by omega) (by omega)]
        exact hI0
      · rw [hx' 76 (by omega) (by omega) (by omega) (by omega), hx' 77 (by omega) (by omega) (by omega) (by omega), hx' 84 (by omega) (by omega) (by omega) (by omega), hx' 95 (by omega) (by omega) (by omega) (by omega)]
        exact hI1
      · rw [hx' 1 (by omega) (by omega) (by omega) (by omega), hx' 0 (by omega) (by omega) (by omega) (by omega), hx' 220 (by omega) (by omega) (by omega) (by omega), hx' 223 (by omega) (by omega) (by omega) (by omega), hx' 213 (by omega) (by omega) (by omega) (by omega)]
        exact hr
theorem k_image (hR : R X m) (v : Int32) : ∃ r X' m', fKL_image X v = some (r, X') ∧ fMo_image m v = some (r, m') ∧ R X' m' := by
  rcases isP_or v 2 with ⟨k, hk, rfl⟩ | hv
  · rcases (show k = 0 ∨ k = 1 by omega) with z | z <;> subst z
    · exact k_img0 hR
    · exact k_img1 hR
  · refine ⟨nI 0, X, sI m 0 0 (nI 0), ?_, ?_, R_thr hR⟩
    · unfold fKL_image fKL_imageOf
      simp only [lit]
      rw [if_neg (hv 0 (by omega)), if_neg (hv 1 (by omega))]
      rfl
    · unfold fMo_image
      simp only [lit, bnd]
      rw [isIn_out' (by omega) hv]
      rfl
theorem k_restore (hR : R X m) (v : Int32) : ∃ r X' m', fKL_restore X v = some (r, X') ∧ fMo_restore m v = some (r, m') ∧ R X' m' := by
  rcases isP_or v 2 with ⟨k, hk, rfl⟩ | hv
  · rcases (show k = 0 ∨ k = 1 by omega) with z | z <;> subst z
    · exact k_res0 hR
    · exact k_res1 hR
  · refine ⟨nI 0, X, sI m 0 0 (nI 0), ?_, ?_, R_thr hR⟩
    · unfold fKL_restore fKL_imageOf
      simp only [lit]
      rw [if_neg (hv 0 (by omega)), if_neg (hv 1 (by omega))]
      rfl
    · unfold fMo_restore
      simp only [lit, bnd]
      rw [isIn_out' (by omega) hv]
      rfl
end
