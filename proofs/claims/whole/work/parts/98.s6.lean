noncomputable def stail (e15 : Obj) : Option (Int32 × Obj) := (iter fMo_sentence_L146 FU (nI 0, sI e15 2 161 (e15.1 0 39))).bind fun e20 => some (e20.1 0 40, e20)
section
variable {X X' X1 : Nat → Obj} {z lim : Nat} {b : Nat → Nat} {ta ta1 m ta' m' m0 m1 m2 m3 m4 x y q sy sy' : Obj} {k v v0 pl p p0 p1 c o s d w j g a r N : Nat} {l : List Nat} {n h L e t : Nat} {hp hm A B C T : Nat → Nat} {sr sr' : Nat → Bool}
theorem mo_L146 (h39 : m.1 0 39 = nI c) (hc : c ≤ 44) : ∃ m', iter fMo_sentence_L146 FU (nI 0, m) = some m' ∧ m'.2 = m.2 ∧ (∀ j, j ≠ 2 → m'.1 j = m.1 j) ∧ (∀ i, i < 162 → m'.1 2 i = m.1 2 i) ∧ ∀ i, i < 3 * c → m'.1 2 (162 + i) = m.1 4 i := by
  refine lpo (f := fMo_sentence_L146) (J := fun k m' => m'.2 = m.2 ∧ (∀ j, j ≠ 2 → m'.1 j = m.1 j) ∧ (∀ i, i < 162 → m'.1 2 i = m.1 2 i) ∧ ∀ i, i < k → m'.1 2 (162 + i) = m.1 4 i) (3 * c) (by omega) (x := m) ⟨rfl, fun _ _ => rfl, fun _ _ => rfl, fun r hr => absurd hr (by omega)⟩ (fun k x hk hz => ?_) (fun x hz => ?_)
  · obtain ⟨z1, z2, z3, z4⟩ := hz
    have e39 : x.1 0 39 = nI c := by rw [z2 0 (by omega)]; exact h39
    refine ⟨sI x 2 (162 + k) (m.1 4 k), ?_, z1, fun j hj => ?_, fun i hi => ?_, fun i hi => ?_⟩
    · unfold fMo_sentence_L146
      simp only [lit, bnd]
      rw [e39, nmul, if_neg (by rw [nle (by omega) (by omega)]; omega), ix_nI (by omega) (by omega), Option.bind_some, nadd, ix_nI (by omega) (by omega), Option.bind_some, nadd, z2 4 (by omega)]
    · show va_up x.1 2 _ j = _
      rw [va_up_ne _ _ hj]; exact z2 j hj
    · rw [sI_1, if_neg (by omega)]; exact z3 i hi
    · rw [sI_1]
      by_cases hik : i = k
      · rw [if_pos ⟨rfl, by omega⟩, hik]
      · rw [if_neg (by omega)]; exact z4 i (by omega)
  · obtain ⟨z1, z2, z3, z4⟩ := hz
    have e39 : x.1 0 39 = nI c := by rw [z2 0 (by omega)]; exact h39
    unfold fMo_sentence_L146
    simp only [lit]
    rw [e39, nmul, if_pos (by rw [nle (by omega) (by omega)]; omega)]
theorem sent_m (t2 : m.1 0 2 = nI z) : ∃ m1, fMo_sentence m = ((fMo_next m1).bind fun r9 => (iter fMo_sentence_L48 FU (nI 1, r9)).bind fun z => Sum.elim stail (fun r21 => some r21) z) ∧
    (∀ j, j ≠ 0 → m1.1 j = m.1 j) ∧ m1.2 = m.2 ∧ m1.1 0 2 = nI 0 ∧ m1.1 0 3 = nI z ∧ m1.1 0 4 = nI 0 ∧ m1.1 0 5 = nI 200 ∧ m1.1 0 15 = nI 0 ∧ sM 0 0 0 1 0 m1 ∧ ∀ i, 16 < i → i < 39 → m1.1 0 i = m.1 0 i := by
  obtain ⟨mt, g1, g2, g3, g4, g5, g6, g7, g8⟩ := taken_ok (m := sI m 0 0 (nI 0)) (nI 200)
  obtain ⟨s5, hs5⟩ : ∃ s5, s5 = sI (sI (sI (sI (sI (sI mt 0 15 (nI 0)) 0 39 (nI 0)) 0 40 (nI 0)) 0 41 (nI 0)) 0 42 (nI 1)) 0 43 (nI 0) := ⟨_, rfl⟩
  have lo : ∀ i, i ≠ 15 → i < 39 → s5.1 0 i = mt.1 0 i := fun i h1 h2 => by rw [hs5, sI_1, if_neg (by omega), sI_1, if_neg (by omega), sI_1, if_neg (by omega), sI_1, if_neg (by omega), sI_1, if_neg (by omega), sI_1, if_neg (by omega)]
  refine ⟨s5, ?_, fun j j0 => ?_, ?_, ?_, ?_, ?_, ?_, ?_, ⟨?_, ?_, ?_, ?_, ?_⟩, fun i hi h39 => ?_⟩
  · unfold fMo_sentence
    simp only [lit, bnd]
    rw [g1, Option.bind_some, ← hs5]
    rfl
  · rw [hs5, sI_0 j0, sI_0 j0, sI_0 j0, sI_0 j0, sI_0 j0, sI_0 j0, g7 j j0, sI_0 j0]
  · rw [hs5]
    show mt.2 = _
    rw [g8]; rfl
  · rw [lo 2 (by omega) (by omega), g3]
  · rw [lo 3 (by omega) (by omega), g2, sI_1, if_neg (by omega)]; exact t2
  · rw [lo 4 (by omega) (by omega), g4]
  · rw [lo 5 (by omega) (by omega), g5]
  · rw [hs5, sI_1, if_neg (by omega), sI_1, if_neg (by omega), sI_1, if_neg (by omega), sI_1, if_neg (by omega), sI_1, if_neg (by omega), sI_1, if_pos ⟨rfl, rfl⟩]
  · rw [hs5, sI_1, if_neg (by omega), sI_1, if_neg (by omega), sI_1, if_neg (by omega), sI_1, if_neg (by omega), sI_1, if_pos ⟨rfl, rfl⟩]
  · rw [hs5, sI_1, if_neg (by omega), sI_1, if_neg (by omega), sI_1, if_neg (by omega), sI_1, if_pos ⟨rfl, rfl⟩]
  · rw [hs5, sI_1, if_neg (by omega), sI_1, if_neg (by omega), sI_1, if_pos ⟨rfl, rfl⟩]
  · rw [hs5, sI_1, if_neg (by omega), sI_1, if_pos ⟨rfl, rfl⟩]
  · rw [hs5, sI_1, if_pos ⟨rfl, rfl⟩]
  · rw [lo i (by omega) h39, g6 i (by omega), sI_1, if_neg (by omega)]
/-- the end of a SENTENCE -/
theorem sent_end {i : Nat} (hC : aftC i n h z lim b 0 0 0 0 0 1 A B C T ta1 m2 sy' ta' m') :
    (∃ mj, fTa_isEnd ta' = some (nI 1) ∧ iter fMo_sentence_L48 2 (nI 1, m') = some (.inl mj) ∧ mvT m' mj ∧ ∃ o' c' A' B' C', 0 < o' ∧ o' ≤ 20 ∧ 0 < c' ∧ c' ≤ 40 ∧ (∀ i, i < c' → tok n h (A' i) (B' i) (C' i)) ∧ dpt A' c' = some 1 ∧ sy'.1 0 0 = nI o' ∧ sayC c' A' B' C' sy' ∧ mj.1 0 39 = nI c' ∧ mj.1 0 40 = nI o' ∧ eM c' A' B' C' mj) ∨
    (∃ ta3 m3, fTa_isEnd ta' = some (nI 0) ∧ fTa_refuse ta' (nI 1) = some (-nI 1, ta3) ∧ fMo_sentence_L48 (nI 1, m') = some (.inr (.inr (-nI 1 - m3.1 0 16, m3))) ∧ fai ta3 m3 ∧ taB ta1 ta3 ∧ mvS m2 m3) := by
  have u1 : ¬ nI 1 = nI 0 := by decide +kernel
  obtain ⟨o', cm, j, a, r, A', B', C', T', k', v', l', pl', p', e1, e2, e3, e4, e5, e6, e7, e8, e9, e10, e11, e12, e13, e14, e15, e16, e17, e18, e19, e20, e21, e22, e23, e24, e25, e26, e27, e28, e29, e30⟩ := hC
  have hTop : 0 + r + a = 0 ∨ T' (0 + r + a - 1) ≠ 20 := by
    by_cases hz : 0 + r + a = 0
    · exact Or.inl hz
    · right
      by_cases ha1 : a = 1
      · rw [e22 _ (by omega) (by omega)]; decide
      · rw [e21 _ (by omega) (by omega)]; decide
  obtain ⟨mn, n1, n2, n3, n4, n5⟩ := nots_ok (m := m') (A := A') (B := B') (C := C') (T := T') (s := 0 + r + a) (j := j) (c := cm) (d := 1) hTop e14 e19 e23 e15 e16 (by omega) (by omega) (by omega)
  have tn : tS (0 + (r + a)) T' mn := fun x hx => by rw [n4]; exact e19 x (by omega)
  have n2' : sM (cm + j) o' (0 + (r + a)) 1 1 mn := by rw [← Nat.add_assoc]; exact n2
  obtain ⟨mj, j1, j2, j3, j4, j5⟩ := joins_ok (m := mn) (A := A') (B := B') (C := C') (T := T') (s := 0) (j := r + a) (c := cm + j) (till := 22) (Or.inr rfl) (Or.inl rfl) n2' tn (fun x x1 x2 => by
    by_cases hx : x < r
    · exact Or.inr ⟨e21 x x1 (by omega), rfl⟩
    · exact Or.inl (e22 x (by omega) (by omega))) n3 (fun x hx => by
    by_cases hxa : x < a
    · obtain ⟨y1, y2, y3⟩ := e17 (cm + j + x) (by omega) (by omega)
      refine ⟨?_, y2, y3⟩
      rw [y1, e22 _ (by omega) (by omega)]
    · obtain ⟨y1, y2, y3⟩ := e18 (cm + j + x) (by omega) (by omega)
      refine ⟨?_, y2, y3⟩
      rw [y1, e21 _ (by omega) (by omega)]) (by omega) (by omega)
  have hTj : mvT m' mj := mvT_trans n5 j5
  have hsj : syn z lim b k' v' l' pl' p' ta' mj := syn_H e24 (moH_T hTj)
  have tke := tk_end e24
  have hc : cm + j + (r + a) = cm + j + a + r := by omega
  rw [hc] at j2 j3
  by_cases hk0 : k' = 0
  · left
    have h11 : m'.1 0 11 = nI 0 := tke.2.mpr hk0
    have s1 : fMo_sentence_L48 (nI 1, m') = some (.inl (nI 0, mj)) := by
      rw [st_en e14.2.2.2.2 h11, n1, Option.bind_some, j1, Option.bind_some, j2.2.2.1, if_pos (by decide +kernel)]
    have s2 : fMo_sentence_L48 (nI 0, mj) = some (.inr (.inl mj)) := by
      unfold fMo_sentence_L48
      simp only [lit]
      rw [if_pos trivial]
    refine ⟨mj, by rw [tke.1, if_pos hk0], iter_2 s1 s2, hTj, o', cm + j + a + r, A', B', C', e1, e2, ?_, by omega, e10, e11, e12, e13, j2.1, j2.2.1, j3⟩
    rcases Nat.eq_zero_or_pos (cm + j + a + r) with w | w
    · rw [w] at e11
      have : (some 0 : Option Nat) = some (0 + 1) := e11
      exact absurd (Option.some.inj this) (by decide)
    · exact w
  · right
    have h11 : ¬ m'.1 0 11 = nI 0 := fun u => hk0 (tke.2.mp u)
    obtain ⟨ta3, m3, f1, f2, f3, f4, f5⟩ := bad2 hsj (nI 1)
    refine ⟨ta3, m3, by rw [tke.1, if_neg hk0], f1, ?_, f3, taB_trans e27 f4, mvS_trans e28 (mvS_trans (mvS_T hTj) (mvS_B f5))⟩
    have x19 : (6385252 : Int64) = kw8 (kws.getD 19 []) := by decide +kernel
    have x18 : (28530 : Int64) = kw8 (kws.getD 18 []) := by decide +kernel
    have V2 := mo_isW (syn_H e24 (moH_T n5)) (w := 19) (by omega)
    have W2 := mo_isW (syn_H e24 (moH_T n5)) (w := 18) (by omega)
    rw [if_neg e26] at V2
    rw [if_neg e25] at W2
    have sgM := (sg_both hsj (c := 41) (by omega)).2
    have lJ : fMo_behind_J114 mj = some (nI 0, m3) := by
      unfold fMo_behind_J114
      simp only [lit]
      rw [f2]
      simp only [Option.bind_some, bz_0]
    have lB : fMo_behind m' = some (nI 0, m3) := by
      unfold fMo_behind
      rw [x19, x18]
      simp only [lit, bnd]
      rw [n1, Option.bind_some, V2, Option.bind_some, if_pos rfl, W2, Option.bind_some, if_pos rfl, j1, Option.bind_some, sgM, Option.bind_some, j2.2.2.1, lJ]
      by_cases hx : k' = 4 ∧ v' = 41
      · rw [if_pos hx, if_neg u1, if_pos rfl]
      · rw [if_neg hx, if_pos rfl]
    rw [st_be e14.2.2.2.2 h11, lB, Option.bind_some, if_pos rfl]
theorem k_sentence (hR : R X m) : ∃ r X' m', fKL_sentence X = some (r, X') ∧ fMo_sentence m = some (r, m') ∧ R X' m' := by
  have u1 : ¬ nI 1 = nI 0 := by decide +kernel
  obtain ⟨n, h, L, e, t, hp, hm, sr, hs, hP, ⟨z, hz, t1, t2, hb⟩, hr⟩ := hR
  obtain ⟨hB, hC, hM, hN, hc, hY⟩ := id hs
  obtain ⟨m1, lM, aj, al, c2, c3, c4, c5, c15, csM, ch⟩ := sent_m t2
  obtain ⟨b, k, v, l, pl, p, ta0, m2, g1, g2, g3, g4, g5, g6, g7, g8, g9⟩ := start_both (ta := X 1) (m1 := m1) (lim := 200) (by omega) hz t1 (fun i hi => by rw [aj 1 (by omega)]; exact hb i hi) (by rw [al]; exact hr.2.2.1) c3 c4 c5
  rw [g2, Option.bind_some] at lM
  have m2j : ∀ j, j ≠ 0 → m2.1 j = m.1 j := fun j hj => by rw [g5.1 j hj, aj j hj]
  have m2l : ∀ j, j ≠ 0 → m2.2 j = m.2 j := fun j hj => by rw [g5.2.2 j hj, al]
  obtain ⟨sy1, ly, sy0, sy01⟩ : ∃ sy, fSy_clear (X 47) = some sy ∧ sy.1 0 0 = nI 0 ∧ sy.1 0 1 = nI 0 := ⟨_, rfl, rfl, rfl⟩
  have hE : nmE n h (X 5) m2 := by
    refine ⟨hB.1, hB.2.1, hC.1.2.2.2.1, hC.1.2.2.2.2, ?_, ?_, ?_⟩
    · rw [m2j 2 (by omega)]; exact hM.1.1
    · rw [m2j 2 (by omega)]; exact hM.1.2.1
    · rw [m2l 5 (by omega)]; exact hN
  have hpre : preO n h z 200 b 0 0 0 0 1 (fun _ => 0) (fun _ => 0) (fun _ => 0) (fun _ => 0) sy1 ta0 m2 k v l pl p := ⟨by omega, by omega, by omega, sy0, ⟨sy01, fun i hi => absurd hi (by omega)⟩, fun i hi => absurd hi (by omega), rfl, sM_F csM g5, fun i hi => absurd hi (by omega), fun i hi => absurd hi (by omega), g3⟩
  have lR : fSy_readAll (X 5) (X 47) (X 1) = (fSy_rec 40 (X 5) 0 sy1 ta0 (nI 1)).bind fun r3 => if r3.1 = nI 0 then some (nI 0, r3.2.1, r3.2.2) else (fTa_isEnd r3.2.2).bind fun r4 => if r4 = nI 0 then (fTa_refuse r3.2.2 (nI 1)).bind fun r5 => some (nI 0, r3.2.1, r5.2) else some (nI 1, r3.2.1, r3.2.2) := by
    unfold fSy_readAll fSy_refuse
    simp only [lit]
    rw [ly, Option.bind_some, g1, Option.bind_some]
    simp only [Option.bind_assoc, Option.bind_some, if_true]
  have lK : fKL_sentence X = (fSy_readAll (X 5) (X 47) (X 1)).bind fun r1 => (fKL_finishReading (va_up (va_up X 47 r1.2.1) 1 r1.2.2)).bind fun r4 => if r1.1 = nI 0 then some (-nI 1 - (r4 1).1 0 3, r4) else (fSy_copyFrom (r4 47) (r4 23)).bind fun r5 => some ((va_up r4 23 r5 23).1 0 0, va_up r4 23 r5) := by
    unfold fKL_sentence
    simp only [lit, bnd]
  -- a refusal
  have fail : ∀ (sy' ta' m3 : Obj), fSy_readAll (X 5) (X 47) (X 1) = some (nI 0, sy', ta') → iter fMo_sentence_L48 FU (nI 1, m2) = some (.inr (-nI 1 - m3.1 0 16, m3)) → fai ta' m3 → taB ta0 ta' → mvS m2 m3 → ∃ r X' m', fKL_sentence X = some (r, X') ∧ fMo_sentence m = some (r, m') ∧ R X' m' := fun sy' ta' m3 y1 y2 y3 y4 y5 => by
    obtain ⟨X5, hX5⟩ : ∃ X5, X5 = va_up (va_up X 47 sy') 1 ta' := ⟨_, rfl⟩
    have x51 : X5 1 = ta' := by rw [hX5, va_up_at, if_pos rfl]
    have x5n : ∀ j, j ≠ 1 → j ≠ 47 → X5 j = X j := fun j h1 h2 => by rw [hX5, va_up_ne _ _ h1, va_up_ne _ _ h2]
    obtain ⟨X7, lF, x70, x71, x7n⟩ := fin_ok (X := X5)
    rw [x5n 0 (by omega) (by omega), x51] at x70
    rw [x51] at x71
    have m3j : ∀ j, j ≠ 0 → j ≠ 4 → j ≠ 14 → m3.1 j = m.1 j := fun j h0 h4 h14 => by rw [y5.1 j h0 h4 h14, m2j j h0]
    have m3l : ∀ j, j ≠ 0 → m3.2 j = m.2 j := fun j h0 => by rw [y5.2.1 j h0, m2l j h0]
    have m30 : ∀ i, 18 < i → i < 39 → m3.1 0 i = m.1 0 i := fun i hi h39 => by rw [y5.2.2 i (by omega) (by omega) (by omega) (by omega), g5.2.1 i (by omega) (by omega), ch i (by omega) h39]
    have m32 : m3.1 0 2 = nI 0 := by rw [y5.2.2 2 (by omega) (by omega) (by omega) (by omega), g5.2.1 2 (by omega) (by omega), c2]
    refine ⟨-nI 1 - ta'.1 0 3, X7, m3, ?_, ?_, ?_⟩
    · rw [lK, y1, Option.bind_some]
      simp only
      rw [← hX5, lF, Option.bind_some, if_pos trivial, x71, sI_1, if_neg (by omega)]
    · rw [lM, y2, Option.bind_some]
      show some (-nI 1 - m3.1 0 16, m3) = _
      rw [y3.2]
    · refine R_read hs hP hr (fun j h0 h1 h29 h36 h47 h201 h212 h213 => ?_) (fun i hi => ?_) ?_ ?_ ?_ m32 (fun j hj => m3j j (by omega) (by omega) (by omega)) (fun i _ => by rw [m3l 5 (by omega)]) (m3l 6 (by omega)) (m3l 17 (by omega)) (fun i h1 h2 => m30 i (by omega) (by omega)) ?_
      · rw [x7n j h0 h1, x5n j h1 h47]
      · rw [x70, sI_1, if_neg (by omega)]
      · rw [x70, sI_1, if_pos ⟨rfl, rfl⟩]; exact y3.1
      · rw [x71]
        show ta'.2 1 = _
        rw [y4.2.1 1 (by omega), g7]
      · rw [x71, sI_1, if_pos ⟨rfl, rfl⟩]
      · rw [x7n 213 (by omega) (by omega), x5n 213 (by omega) (by omega), m30 37 (by omega) (by omega), m3j 13 (by omega) (by omega) (by omega)]
        exact hr.2.2.2.2.2.2.2.2
  rcases (all_depths (n := n) (h := h) (z := z) (lim := 200) (b := b) (q := X 5) 8 1 (by omega)).2 40 (by omega) 0 0 0 0 _ _ _ _ sy1 ta0 m2 k v l pl p hpre hE (Or.inl rfl) with ⟨i, sy', ta', m', k1, k2, k3⟩ | ⟨sy', ta', k1, i, ma, m3, k2, k3, k4, k5, k6, k7⟩
  · have hi20 : i ≤ 60 := by
      obtain ⟨o', cm, j, a, r, A', B', C', T', k', v', l', pl', p', e1, e2, e3, -⟩ := k3
      omega
    have kB : taB ta0 ta' := by
      obtain ⟨o', cm, j, a, r, A', B', C', T', k', v', l', pl', p', e1, e2, e3, e4, e5, e6, e7, e8, e9, e10, e11, e12, e13, e14, e15, e16, e17, e18, e19, e20, e21, e22, e23, e24, e25, e26, e27, e28, e29, e30⟩ := k3
      exact e27
    have kS : mvS m2 m' := by
      obtain ⟨o', cm, j, a, r, A', B', C', T', k', v', l', pl', p', e1, e2, e3, e4, e5, e6, e7, e8, e9, e10, e11, e12, e13, e14, e15, e16, e17, e18, e19, e20, e21, e22, e23, e24, e25, e26, e27, e28, e29, e30⟩ := k3
      exact e28
    have k2f : ta'.1 0 2 = nI 0 ∧ m'.1 0 15 = nI 0 := by
      obtain ⟨o', cm, j, a, r, A', B', C', T', k', v', l', pl', p', e1, e2, e3, e4, e5, e6, e7, e8, e9, e10, e11, e12, e13, e14, e15, e16, e17, e18, e19, e20, e21, e22, e23, e24, e25, e26, e27, e28, e29, e30⟩ := k3
      exact ⟨e29.trans g9, by rw [e30, g5.2.1 15 (by omega) (by omega), c15]⟩
    rw [k1, Option.bind_some, if_neg u1] at lR
    simp only at lR
    rcases sent_end k3 with ⟨mj, f1, f2, f3, o', c', A', B', C', f4, f5, f6, f7, f8, f9, f10, f11, f12, f13, f14⟩ | ⟨ta3, m3, f1, f2, f3, f4, f5, f6⟩
    · rw [f1, Option.bind_some, if_neg u1] at lR
      have lI : iter fMo_sentence_L48 FU (nI 1, m2) = some (.inl mj) := iter_FU (Rch_iter k2 f2) (by omega)
      obtain ⟨s6, hs6⟩ : ∃ s6, s6 = sI mj 2 161 (nI c') := ⟨_, rfl⟩
      obtain ⟨me, e1, e2, e3, e4, e5⟩ := mo_L146 (m := s6) (c := c') (by rw [hs6]; exact f12) (by omega)
      have lT : stail mj = some (nI o', me) := by
        unfold stail
        rw [f12, ← hs6, e1, Option.bind_some, e3 0 (by omega), hs6]
        show some (mj.1 0 40, me) = _
        rw [f13]
      rw [lI, Option.bind_some] at lM
      have s62 : ∀ i, i ≠ 161 → s6.1 2 i = mj.1 2 i := fun i hi => by rw [hs6, sI_1, if_neg (by omega)]
      have s6j : ∀ j, j ≠ 2 → s6.1 j = mj.1 j := fun j hj => by rw [hs6]; exact va_up_ne _ _ hj
      have mj2 : mj.1 2 = m.1 2 := by rw [f3.1 2 (by omega) (by omega) (by omega), kS.1 2 (by omega) (by omega) (by omega), m2j 2 (by omega)]
      have meJ : ∀ j, j ≠ 0 → j ≠ 2 → j ≠ 4 → j ≠ 14 → me.1 j = m.1 j := fun j h0 h2 h4 h14 => by rw [e3 j h2, s6j j h2, f3.1 j h0 h4 h14, kS.1 j h0 h4 h14, m2j j h0]
      have me0 : ∀ i, i < 39 → me.1 0 i = m'.1 0 i := fun i hi => by rw [e3 0 (by omega), s6j 0 (by omega), f3.2.2 i (by omega)]
      have meL : ∀ j, j ≠ 0 → me.2 j = m.2 j := fun j h0 => by
        rw [e2, hs6]
        show mj.2 j = _
        rw [f3.2.1, kS.2.1 j h0, m2l j h0]
      have me2 : ∀ i, i < 161 → me.1 2 i = m.1 2 i := fun i hi => by rw [e4 i (by omega), s62 i (by omega), mj2]
      have m'0 : ∀ i, 18 < i → i < 39 → m'.1 0 i = m.1 0 i := fun i hi h39 => by rw [kS.2.2 i (by omega) (by omega) (by omega) (by omega), g5.2.1 i (by omega) (by omega), ch i (by omega) h39]
      have sayMe : sayM c' A' B' C' (me.1 2) := by
        refine ⟨?_, fun i hi => ?_⟩
        · rw [e4 161 (by omega), hs6, sI_1, if_pos ⟨rfl, rfl⟩]
        · obtain ⟨y1, y2, y3⟩ := f14 i hi
          have q1 := e5 (3 * i) (by omega)
          have q2 := e5 (3 * i + 1) (by omega)
          have q3 := e5 (3 * i + 2) (by omega)
          rw [s6j 4 (by omega)] at q1 q2 q3
          rw [show 162 + (3 * i + 1) = 163 + 3 * i by omega] at q2
          rw [show 162 + (3 * i + 2) = 164 + 3 * i by omega] at q3
          rw [q1, q2, q3]; exact ⟨y1, y2, y3⟩
      have hSR : sayR n h sy' (me.1 2) := ⟨c', o', A', B', C', f7, f5, ⟨fun w => absurd w (by omega), fun w => absurd w (by omega)⟩, f10, f11, sayMe, f8, fun _ => f9⟩
      obtain ⟨X5, hX5⟩ : ∃ X5, X5 = va_up (va_up X 47 sy') 1 ta' := ⟨_, rfl⟩
      have x51 : X5 1 = ta' := by rw [hX5, va_up_at, if_pos rfl]
      have x547 : X5 47 = sy' := by rw [hX5, va_up_ne _ _ (by omega), va_up_at, if_pos rfl]
      have x5n : ∀ j, j ≠ 1 → j ≠ 47 → X5 j = X j := fun j h1 h2 => by rw [hX5, va_up_ne _ _ h1, va_up_ne _ _ h2]
      obtain ⟨X7, lF, x70, x71, x7n⟩ := fin_ok (X := X5)
      rw [x5n 0 (by omega) (by omega), x51] at x70
      rw [x51] at x71
      have x747 : X7 47 = sy' := by rw [x7n 47 (by omega) (by omega), x547]
      obtain ⟨sy2, l1, l2⟩ := say_copy (sy := X7 23) (sy2 := X7 47) (n := n) (h := h) (s := me.1 2) (by rw [x747]; exact hSR)
      obtain ⟨sy3, l1', l3, -⟩ := sy_copy (sy := X7 23) (sy2 := X7 47)
      rw [l1] at l1'
      have l3' : sy2.1 0 0 = nI o' := by
        rw [Option.some.inj l1', l3, x747]; exact f10
      obtain ⟨X9, hX9⟩ : ∃ X9, X9 = va_up X7 23 sy2 := ⟨_, rfl⟩
      have x923 : X9 23 = sy2 := by rw [hX9, va_up_at, if_pos rfl]
      have x9n : ∀ j, j ≠ 23 → X9 j = X7 j := fun j hj => by rw [hX9, va_up_ne _ _ hj]
      have x9j : ∀ j, j ≠ 0 → j ≠ 1 → j ≠ 23 → j ≠ 47 → X9 j = X j := fun j h0 h1 h23 h47 => by rw [x9n j h23, x7n j h0 h1, x5n j h1 h47]
      refine ⟨nI o', X9, me, ?_, ?_, n, h, L, e, t, hp, hm, sr, ⟨hB, ?_, sQM_lo hB hM (fun i hi => me2 i (by omega)), ?_, ?_, ?_⟩, ?_, ⟨0, by omega, ?_, ?_, fun i hi => absurd hi (by omega)⟩, pRest_read hr (fun j hj => x9j j (by omega) (by omega) (by omega) (by omega)) (fun i hi => ?_) ?_ ?_ (fun j hj => meJ j (by omega) (by omega) (by omega) (by omega)) (meL 6 (by omega)) (meL 17 (by omega)) (fun i i1 i2 => ?_) ?_⟩
      · rw [lK, lR, Option.bind_some]
        simp only
        rw [← hX5, lF, Option.bind_some, if_neg u1, l1, Option.bind_some, ← hX9, x923, l3']
      · rw [lM]
        exact lT
      · rw [x9j 5 (by omega) (by omega) (by omega) (by omega)]; exact hC
      · rw [x9j 5 (by omega) (by omega) (by omega) (by omega), meL 5 (by omega)]; exact hN
      · rw [x9j 12 (by omega) (by omega) (by omega) (by omega)]
        exact RC_d hB.1 (fun j hj => me2 (69 + j) (by omega)) hc
      · rw [x923]; exact l2
      · rw [meJ 7 (by omega) (by omega) (by omega) (by omega), me0 23 (by omega), m'0 23 (by omega) (by omega)]
        exact past_x hP (fun j h1 h2 => x9j j (by omega) (by omega) (by omega) (by omega))
      · rw [x9n 1 (by omega), x71, sI_1, if_pos ⟨rfl, rfl⟩]
      · rw [me0 2 (by omega), kS.2.2 2 (by omega) (by omega) (by omega) (by omega), g5.2.1 2 (by omega) (by omega), c2]
      · rw [x9n 0 (by omega), x70, sI_1, if_neg (by omega)]
      · rw [x9n 0 (by omega), x70, sI_1, if_pos ⟨rfl, rfl⟩, k2f.1, me0 15 (by omega), k2f.2]
      · rw [x9n 1 (by omega), x71]
        show ta'.2 1 = _
        rw [kB.2.1 1 (by omega), g7]
      · rw [me0 i (by omega), m'0 i (by omega) (by omega)]
      · rw [x9j 213 (by omega) (by omega) (by omega) (by omega), me0 37 (by omega), m'0 37 (by omega) (by omega), meJ 13 (by omega) (by omega) (by omega) (by omega)]
        exact hr.2.2.2.2.2.2.2.2
    · rw [f1, Option.bind_some, if_pos rfl, f2, Option.bind_some] at lR
      have s1 : iter fMo_sentence_L48 1 (nI 1, m') = some (.inr (-nI 1 - m3.1 0 16, m3)) := by rw [iter_s, f3]; rfl
      exact fail sy' ta3 m3 lR (iter_FU (Rch_iter k2 s1) (by omega)) f4 f5 f6
  · rw [k1, Option.bind_some, if_pos rfl] at lR
    have s1 : iter fMo_sentence_L48 1 (nI 1, ma) = some (.inr (-nI 1 - m3.1 0 16, m3)) := by rw [iter_s, k4]; rfl
    exact fail sy' ta' m3 lR (iter_FU (Rch_iter k2 s1) (by omega)) k5 k6 k7
end
