section
variable {z lim : Nat} {b : Nat → Nat} {ta ta1 m ta' m' m0 m1 m2 m3 m4 x y q sy sy' : Obj} {k v v0 pl p p0 p1 c o s d w j g a r N : Nat} {l : List Nat} {n h L e t : Nat} {hp hm A B C T : Nat → Nat} {sr sr' : Nat → Bool}
theorem cond_run (hO : ONE n h z lim b q d N) (hd : d ≤ 9) : ∀ (u o c a r i : Nat) (A B C T : Nat → Nat) (sy ta m : Obj) (k v : Nat) (l : List Nat) (pl p : Nat), 20 ≤ o + u → a ≤ 1 → r ≤ 1 → i ≤ o → c + a + r ≤ 2 * o → preO n h z lim b o c (g + a + r) (s + r + a) d A B C T sy ta m k v l pl p → nmE n h q m → (s = 0 ∨ T (s - 1) = 23) → (∀ x, s ≤ x → x < s + r → T x = 22) → (∀ x, s + r ≤ x → x < s + r + a → T x = 21) → ∀ f, u + 1 ≤ f →
    (∃ st sy' ta' m', iter (fSy_readCond_L9 (fSy_rec N q) (nI d)) f (nI a, nI r, nI i, sy, ta) = some (.inr (nI 1, sy', ta')) ∧ Rch st m m' ∧ aftC st n h z lim b o c (c + a + r) g s d A B C T ta m sy' ta' m') ∨ (∃ sy' ta', iter (fSy_readCond_L9 (fSy_rec N q) (nI d)) f (nI a, nI r, nI i, sy, ta) = some (.inr (nI 0, sy', ta')) ∧ noO o ta m ta') := by
  intro u
  induction u with
  | zero =>
    intro o c a r i A B C T sy ta m k v l pl p hu ha hr hi hcb hP hE hs0 hT22 hT21 f hf
    obtain ⟨f, rfl⟩ : ∃ f', f = f' + 1 := ⟨f - 1, by omega⟩
    have ho := hP.1
    rcases cond_iter hO hd ha hr (i := i) (by omega) hcb hP hE hs0 hT22 hT21 with ⟨st, sy', ta', m', g1, g2, g3⟩ | ⟨sy', ta', g1, g2⟩ | ⟨st, o1, c1, a1, r1, A1, B1, C1, T1, sy1, ta1, m1, k1, v1, l1, pl1, p1, g1, g2, g3, g4, -⟩
    · exact Or.inl ⟨st, sy', ta', m', by rw [iter_s, g1]; rfl, g2, g3⟩
    · exact Or.inr ⟨sy', ta', by rw [iter_s, g1]; rfl, g2⟩
    · exact absurd g3 (by omega)
  | succ u ih =>
    intro o c a r i A B C T sy ta m k v l pl p hu ha hr hi hcb hP hE hs0 hT22 hT21 f hf
    obtain ⟨f, rfl⟩ : ∃ f', f = f' + 1 := ⟨f - 1, by omega⟩
    have ho := hP.1
    rcases cond_iter hO hd ha hr (i := i) (by omega) hcb hP hE hs0 hT22 hT21 with ⟨st, sy', ta', m', g1, g2, g3⟩ | ⟨sy', ta', g1, g2⟩ | ⟨st, o1, c1, a1, r1, A1, B1, C1, T1, sy1, ta1, m1, k1, v1, l1, pl1, p1, g1, g2, g3, g4, g5, g6, g7, g8, g9, g10, g11, g12, g13, g14, g15, g16, g17, g18⟩
    · exact Or.inl ⟨st, sy', ta', m', by rw [iter_s, g1]; rfl, g2, g3⟩
    · exact Or.inr ⟨sy', ta', by rw [iter_s, g1]; rfl, g2⟩
    · have hs1 : s = 0 ∨ T1 (s - 1) = 23 := by
        by_cases hz : s = 0
        · exact Or.inl hz
        · right
          rw [g11 _ (by omega)]; exact hs0.resolve_left hz
      have hit : ∀ e, iter (fSy_readCond_L9 (fSy_rec N q) (nI d)) f (nI a1, nI r1, nI (i + 1), sy1, ta1) = some e → iter (fSy_readCond_L9 (fSy_rec N q) (nI d)) (f + 1) (nI a, nI r, nI i, sy, ta) = some e := fun e he => by
        rw [iter_s, g1]; exact he
      rcases ih o1 c1 a1 r1 (i + 1) A1 B1 C1 T1 sy1 ta1 m1 k1 v1 l1 pl1 p1 (by omega) g6 g7 (by omega) (by omega) g12 (nmE_S hE g16) hs1 g13 g14 f (by omega) with ⟨st2, sy', ta', m', k1', k2, k3⟩ | ⟨sy', ta', k1', k2⟩
      · left
        refine ⟨st + st2, sy', ta', m', hit _ k1', Rch_trans g2 k2, ?_⟩
        obtain ⟨o', cm, j, a2, r2, A', B', C', T', k', v', l', pl', p', e1, e2, e3, e4, e5, e6, e7, e8, e9, e10, e11, e12, e13, e14, e15, e16, e17, e18, e19, e20, e21, e22, e23, e24, e25, e26, e27, e28, e29, e30⟩ := k3
        refine ⟨o', cm, j, a2, r2, A', B', C', T', k', v', l', pl', p', by omega, e2, by omega, by omega, by omega, e6, e7, e8, fun x hx => ?_, e10, e11, e12, e13, e14, e15, e16, e17, e18, e19, fun x hx => by rw [e20 x hx, g11 x hx], e21, e22, e23, e24, e25, e26, taB_trans g15 e27, mvS_trans g16 e28, e29.trans g17, e30.trans g18⟩
        obtain ⟨y1, y2, y3⟩ := e9 x (by omega)
        obtain ⟨y4, y5, y6⟩ := g10 x hx
        exact ⟨y1.trans y4, y2.trans y5, y3.trans y6⟩
      · right
        refine ⟨sy', ta', hit _ k1', ?_⟩
        obtain ⟨x, m2, m3, y1, y2, y3, y4, y5, y6⟩ := k2
        exact ⟨st + x, m2, m3, Rch_trans g2 y1, by omega, y3, y4, taB_trans g15 y5, mvS_trans g16 y6⟩
theorem cond_of (hO : ONE n h z lim b q d N) (hd : d ≤ 9) : COND n h z lim b q d (N + 1) := by
  intro o c g s A B C T sy ta m k v l pl p hP hE hs0
  have e0 : fSy_rec (N + 1) q 0 sy ta (nI d) = (iter (fSy_readCond_L9 (fSy_rec N q) (nI d)) FU (nI 0, nI 0, nI 0, sy, ta)).bind fun z => Sum.elim (fun e7 => (fSy_refuse e7.2 (nI 1)).bind fun r8 => some (bz r8.1, e7.1, r8.2)) (fun r9 => some r9) z := rfl
  rcases cond_run (g := g) (s := s) hO hd 20 o c 0 0 0 A B C T sy ta m k v l pl p (by omega) (by omega) (by omega) (by omega) hP.2.1 hP hE hs0 (fun x x1 x2 => absurd x2 (by omega)) (fun x x1 x2 => absurd x2 (by omega)) FU (Nat.le_trans (by omega) FU_ge) with ⟨st, sy', ta', m', g1, g2, g3⟩ | ⟨sy', ta', g1, g2⟩
  · exact Or.inl ⟨st, sy', ta', m', by rw [e0, g1]; rfl, g2, g3⟩
  · exact Or.inr ⟨sy', ta', by rw [e0, g1]; rfl, g2⟩
theorem cb_all : ∀ v, v < 29 → fSy_canBeginOne (nI v) = some (nI (if v = 12 ∨ v = 4 ∨ 20 ≤ v then 1 else 0)) := by decide +kernel
theorem cb_m1 : fSy_canBeginOne (-nI 1) = some (nI 0) := by decide +kernel
theorem cw_some {v : Nat} (hv : v < 29) (h : v = 12 ∨ v = 4 ∨ 20 ≤ v) (h20 : v ≠ 20) : ∃ a, a ≤ 9 ∧ v = cwd a := by
  rcases (show v = 12 ∨ v = 4 ∨ v = 21 ∨ v = 22 ∨ v = 23 ∨ v = 24 ∨ v = 25 ∨ v = 26 ∨ v = 27 ∨ v = 28 by omega) with w | w | w | w | w | w | w | w | w | w
  · exact ⟨3, by omega, by rw [w]; rfl⟩
  · exact ⟨4, by omega, by rw [w]; rfl⟩
  · exact ⟨0, by omega, by rw [w]; rfl⟩
  · exact ⟨1, by omega, by rw [w]; rfl⟩
  · exact ⟨2, by omega, by rw [w]; rfl⟩
  · exact ⟨5, by omega, by rw [w]; rfl⟩
  · exact ⟨6, by omega, by rw [w]; rfl⟩
  · exact ⟨7, by omega, by rw [w]; rfl⟩
  · exact ⟨8, by omega, by rw [w]; rfl⟩
  · exact ⟨9, by omega, by rw [w]; rfl⟩
theorem cw_none : ∀ a, a ≤ 9 → cwd a = 12 ∨ cwd a = 4 ∨ 20 ≤ cwd a := by decide +kernel
/-- not, or an opening bracket, goes on the reference's stack -/
theorem push_op {u : Nat} (hP : preO n h z lim b o c g s d A B C T sy ta m k v l pl p) (hk : k ≠ 5) (ho : o ≤ 19) (hu : u < 100) : ∃ k1 v1 l1 pl1 p1 ta1 r6 m2, fMo_next (sI m 0 40 (nI (o + 1))) = some r6 ∧ fMo_operand_J103 r6 (r6.1 0 41) (nI u) = some (nI 1, m2) ∧ fTa_take ta = some ta1 ∧ taF ta ta1 ∧ mvS m m2 ∧ m2.1 0 15 = m.1 0 15 ∧ preO n h z lim b (o + 1) c g (s + 1) (d + 1) A B C (va_up T s u) (sI sy 0 0 (nI (o + 1))) ta1 m2 k1 v1 l1 pl1 p1 := by
  obtain ⟨r6, f1, f2, f3, f4, f5, f6, f7⟩ := one_pre hP hk
  obtain ⟨h1, h2, h3, h4, h5, h6, h7, h8, h9, h10, h11⟩ := hP
  obtain ⟨ta1, k1, v1, l1, pl1, p1, t1, t2, t3, t4, t5⟩ := f2
  obtain ⟨q1, q2, q3⟩ := push_ok (cd := 0) (w' := 0) (u := u) f3 (by omega) hu f5
  obtain ⟨m1, hm1⟩ : ∃ m1, m1 = sI (sI r6 14 s (nI u)) 0 41 (nI (s + 1)) := ⟨_, rfl⟩
  rw [← hm1] at q1 q2 q3
  obtain ⟨m2, hm2⟩ : ∃ m2, m2 = sI m1 0 42 (nI (d + 1)) := ⟨_, rfl⟩
  have T2 : mvT r6 m2 := by rw [hm2]; exact mvT_trans q3 (mvT_f (by omega))
  refine ⟨k1, v1, l1, pl1, p1, ta1, r6, m2, f1, ?_, t1, t2, mvS_trans f6 (mvS_T T2), ?_, by omega, by omega, by omega, by rw [sI_1, if_pos ⟨rfl, rfl⟩], h5, h6, h7, ?_, eM_4 f4 (by rw [hm2, hm1]; rfl), ?_, syn_H t3 (moH_T T2)⟩
  · have e41 : ∀ w, (sI r6 14 s w).1 0 41 = nI s := fun w => f3.2.2.1
    have e42 : m1.1 0 42 = nI d := q1.2.2.2.1
    unfold fMo_operand_J103
    simp only [lit, bnd]
    rw [f3.2.2.1, ix_nI (by omega) (by omega), Option.bind_some, e41, nadd, ← hm1, e42, nadd, ← hm2]
  · rw [T2.2.2 15 (by omega), f7]
  · obtain ⟨a1, a2, a3, a4, a5⟩ := q1
    rw [hm2]; exact ⟨a1, a2, a3, rfl, a5⟩
  · rw [hm2]; exact q2
/-- the closing of a bracket -/
theorem close_ok {i : Nat} (hd : d ≤ 9) (ho : o ≤ 19) (hcb : c ≤ 2 * o) (hT23 : T s = 23) (hC : aftC i n h z lim b (o + 1) c c g (s + 1) (d + 1) A B C T ta1 m2 sy' ta' m') :
    (∃ ta3 m3, fTa_isSignOf ta' (nI 41) = some (nI 1) ∧ fTa_take ta' = some ta3 ∧ fMo_sentence_L48 (nI 1, m') = some (.inl (nI 1, m3)) ∧ ∀ (ta m : Obj), taB ta ta1 → mvS m m2 → ta1.1 0 2 = ta.1 0 2 → m2.1 0 15 = m.1 0 15 → aftO (1 + (i + 1)) n h z lim b o c g s d A B C T ta m sy' ta3 m3) ∨
    (∃ ta3 m3, fTa_isSignOf ta' (nI 41) = some (nI 0) ∧ fTa_refuse ta' (nI 1) = some (-nI 1, ta3) ∧ fMo_sentence_L48 (nI 1, m') = some (.inr (.inr (-nI 1 - m3.1 0 16, m3))) ∧ fai ta3 m3 ∧ taB ta1 ta3 ∧ mvS m2 m3 ∧ i + 1 ≤ 3 * (20 - o)) := by
  have u1 : ¬ nI 1 = nI 0 := by decide +kernel
  obtain ⟨o', cm, j, a, r, A', B', C', T', k', v', l', pl', p', e1, e2, e3, e4, e5, e6, e7, e8, e9, e10, e11, e12, e13, e14, e15, e16, e17, e18, e19, e20, e21, e22, e23, e24, e25, e26, e27, e28, e29, e30⟩ := hC
  have hTs : T' s = 23 := by rw [e20 s (by omega)]; exact hT23
  have hTop : s + 1 + r + a = 0 ∨ T' (s + 1 + r + a - 1) ≠ 20 := by
    right
    by_cases ha1 : a = 1
    · rw [e22 _ (by omega) (by omega)]; decide
    · by_cases hr1 : r = 1
      · rw [e21 _ (by omega) (by omega)]; decide
      · rw [show s + 1 + r + a - 1 = s by omega, hTs]; decide
  obtain ⟨mn, n1, n2, n3, n4, n5⟩ := nots_ok (m := m') (A := A') (B := B') (C := C') (T := T') (s := s + 1 + r + a) (j := j) (c := cm) (d := d + 1) hTop e14 e19 e23 e15 e16 (by omega) (by omega) (by omega)
  have tn : tS (s + 1 + (r + a)) T' mn := fun x hx => by rw [n4]; exact e19 x (by omega)
  have n2' : sM (cm + j) o' (s + 1 + (r + a)) (d + 1) 1 mn := by rw [← Nat.add_assoc]; exact n2
  obtain ⟨mj, j1, j2, j3, j4, j5⟩ := joins_ok (m := mn) (A := A') (B := B') (C := C') (T := T') (s := s + 1) (j := r + a) (c := cm + j) (till := 22) (Or.inr rfl) (Or.inr ⟨by rw [Nat.add_sub_cancel, hTs]; decide, fun w => by rw [Nat.add_sub_cancel, hTs] at w; exact absurd w (by decide)⟩) n2' tn (fun x x1 x2 => by
    by_cases hx : x < s + 1 + r
    · exact Or.inr ⟨e21 x x1 hx, rfl⟩
    · exact Or.inl (e22 x (by omega) (by omega))) n3 (fun x hx => by
    by_cases hxa : x < a
    · obtain ⟨y1, y2, y3⟩ := e17 (cm + j + x) (by omega) (by omega)
      refine ⟨?_, y2, y3⟩
      rw [y1, e22 _ (by omega) (by omega)]
    · obtain ⟨y1, y2, y3⟩ := e18 (cm + j + x) (by omega) (by omega)
      refine ⟨?_, y2, y3⟩
      rw [y1, e21 _ (by omega) (by omega)]) (by omega) (by omega)
  have hTj : mvT m' mj := mvT_trans n5 j5
  have hsj : syn z lim b k' v' l' pl' p' ta' mj := syn_H e24 (moH_T hTj)
  have sgC := (sg_both e24 (c := 41) (by omega)).1
  have sgM := (sg_both hsj (c := 41) (by omega)).2
  have tke := tk_end e24
  have lB : ¬ m'.1 0 11 = nI 0 → fMo_sentence_L48 (nI 1, m') = (if nI (if k' = 4 ∧ v' = 41 then 1 else 0) = nI 0 then fMo_behind_J114 mj else (fMo_next (sI (sI mj 0 41 (nI s)) 0 42 (nI d))).bind fun r9 => some (nI 1, r9)).bind fun r10 => if r10.1 = nI 0 then some (.inr (.inr (-nI 1 - r10.2.1 0 16, r10.2))) else some (.inl (nI 1, r10.2)) := fun h11 => by
    have x19 : (6385252 : Int64) = kw8 (kws.getD 19 []) := by decide +kernel
    have x18 : (28530 : Int64) = kw8 (kws.getD 18 []) := by decide +kernel
    have V2 := mo_isW (syn_H e24 (moH_T n5)) (w := 19) (by omega)
    have W2 := mo_isW (syn_H e24 (moH_T n5)) (w := 18) (by omega)
    rw [if_neg e26] at V2
    rw [if_neg e25] at W2
    have e42 : ∀ w, (sI mj 0 41 w).1 0 42 = nI (d + 1) := fun w => j2.2.2.2.1
    rw [st_be e14.2.2.2.2 h11]
    congr 1
    unfold fMo_behind
    rw [x19, x18]
    simp only [lit, bnd]
    rw [n1, Option.bind_some, V2, Option.bind_some, if_pos rfl, W2, Option.bind_some, if_pos rfl, j1, Option.bind_some, sgM, Option.bind_some, j2.2.2.1, if_neg (show ¬ nI (s + 1) = nI 0 by rw [neq (by omega) (by omega)]; omega), e42, nsub (by omega), nsub (by omega), Nat.add_sub_cancel, Nat.add_sub_cancel]
  by_cases hcl : k' = 4 ∧ v' = 41
  · left
    have h11 : ¬ m'.1 0 11 = nI 0 := fun u => absurd (tke.2.mp u) (by omega)
    have lB' := lB h11
    rw [if_pos hcl, if_neg u1] at lB'
    obtain ⟨mp, hmp⟩ : ∃ mp, mp = sI (sI mj 0 41 (nI s)) 0 42 (nI d) := ⟨_, rfl⟩
    rw [← hmp] at lB'
    have hTp : mvT mj mp := by rw [hmp]; exact mvT_trans (mvT_f (by omega)) (mvT_f (by omega))
    have hsM : sM (cm + j + a + r) o' s d 1 mp := by
      rw [show cm + j + a + r = cm + j + (r + a) by omega]
      obtain ⟨a1, a2, a3, a4, a5⟩ := j2
      rw [hmp]; exact ⟨a1, a2, rfl, rfl, a5⟩
    obtain ⟨k5, v5, l5, pl5, p5, ta5, m5, o1, o2, o3, o4, o5, o6⟩ := syn_syn (syn_H hsj (moH_T hTp)) (by omega)
    rw [o2, Option.bind_some, Option.bind_some, if_neg u1] at lB'
    refine ⟨ta5, m5, by rw [sgC, if_pos hcl], o1, lB', fun ta m q1 q2 q3 q4 => ?_⟩
    refine ⟨o', cm + j + a + r, 0, A', B', C', T', k5, v5, l5, pl5, p5, by omega, e2, by omega, by omega, by omega, by omega, e9, e10, e11, e12, e13, sM_F hsM o4, ?_, fun x x1 x2 => absurd x2 (by omega), fun x hx => ?_, fun x hx => e20 x (by omega), fun x x1 x2 => absurd x2 (by omega), o5, taB_trans q1 (taB_trans e27 (taB_F o3)), mvS_trans q2 (mvS_trans e28 (mvS_trans (mvS_T hTj) (mvS_trans (mvS_T hTp) (mvS_F o4)))), ?_, ?_⟩
    · rw [show cm + j + a + r = cm + j + (r + a) by omega]
      refine eM_4 j3 ?_
      rw [o4.1 4 (by omega), hmp]; rfl
    · rw [o4.1 14 (by omega), hmp]
      show mj.1 14 x = _ ∧ _
      rw [j4, n4]; exact e19 x (by omega)
    · rw [o3.2.1 2 (by omega) (by omega) (by omega) (by omega), e29, q3]
    · rw [o4.2.1 15 (by omega) (by omega), hTp.2.2 15 (by omega), hTj.2.2 15 (by omega), e30, q4]
  · right
    obtain ⟨ta3, m3, f1, f2, f3, f4, f5⟩ := bad2 hsj (nI 1)
    refine ⟨ta3, m3, by rw [sgC, if_neg hcl], f1, ?_, f3, taB_trans e27 f4, mvS_trans e28 (mvS_trans (mvS_T hTj) (mvS_B f5)), by omega⟩
    by_cases hk0 : k' = 0
    · have h11 : m'.1 0 11 = nI 0 := tke.2.mpr hk0
      rw [st_en e14.2.2.2.2 h11, n1, Option.bind_some, j1, Option.bind_some, j2.2.2.1, if_neg (by rw [nle (by omega) (by omega)]; omega), f2, Option.bind_some]
    · have h11 : ¬ m'.1 0 11 = nI 0 := fun u => hk0 (tke.2.mp u)
      rw [lB h11, if_neg hcl, if_pos rfl]
      unfold fMo_behind_J114
      simp only [lit]
      rw [f2]
      simp only [Option.bind_some, bz_0]
      rw [if_pos trivial]
theorem one_of (hd : d ≤ 9) (hC : d ≤ 8 → COND n h z lim b q (d + 1) N) (hO : d ≤ 8 → ONE n h z lim b q (d + 1) N) : ONE n h z lim b q d (N + 2) := by
  intro o c g s A B C T sy ta m k v l pl p hP hE
  have u1 : ¬ nI 1 = nI 0 := by decide +kernel
  obtain ⟨h1, h2, h3, h4, h5, h6, h7, h8, h9, h10, h11⟩ := id hP
  obtain ⟨-, ⟨t1, t2, t3, t4, t5⟩, -⟩ := id h11
  have sgC := (sg_both h11 (c := 40) (by omega)).1
  have sgM := (sg_both h11 (c := 40) (by omega)).2
  have w20 := mo_isW h11 (w := 20) (by omega)
  have lfs := leaf_of h11
  have x20 : (7237492 : Int64) = kw8 (kws.getD 20 []) := by decide +kernel
  have lC : fSy_rec (N + 2) q 1 sy ta (nI d) = if k = 1 then fSy_readOne_J24 (fSy_rec (N + 1) q) q sy ta (nI d) (nI (if k = 4 ∧ v = 40 then 1 else 0)) (ta.1 0 5) else fSy_readOne_J24 (fSy_rec (N + 1) q) q sy ta (nI d) (nI (if k = 4 ∧ v = 40 then 1 else 0)) (-nI 1) := by
    have e0 : fSy_rec (N + 2) q 1 sy ta (nI d) = fSy_readOne (fSy_rec (N + 1) q) q sy ta (nI d) := rfl
    rw [e0]
    unfold fSy_readOne
    simp only [lit]
    rw [sgC, Option.bind_some, t1]
    by_cases hk : k = 1
    · rw [if_pos (by rw [hk]), if_pos hk]
    · rw [if_neg (by rw [neq (by omega) (by omega)]; exact hk), if_neg hk]
  have lS := st_op h8.2.2.2.2
  have a5 : k = 1 → v < 29 ∧ ta.1 0 5 = nI v := fun hk => by
    subst hk
    rcases t5 with t | t | t | t | t | t
    · exact absurd t.1 (by decide)
    · exact ⟨t.2.1, t.2.2.1⟩
    · exact absurd t.1 (by decide)
    · exact absurd t.1 (by decide)
    · exact absurd t.1 (by decide)
    · exact absurd t.1 (by decide)
  -- neither not, nor a bracket, nor a leaf
  by_cases hbeg : (k = 4 ∧ v = 40) ∨ (k = 1 ∧ (v = 12 ∨ v = 4 ∨ 20 ≤ v))
  · -- it begins an operand
    have lJ45 : ∃ v4 v5 : Int32, fSy_rec (N + 2) q 1 sy ta (nI d) = fSy_readOne_J45 (fSy_rec (N + 1) q) q sy ta (nI d) v4 v5 ∧ v4 = nI (if k = 4 ∧ v = 40 then 1 else 0) ∧ (k = 1 → v5 = nI v) := by
      by_cases hk : k = 1
      · obtain ⟨v29, v5'⟩ := a5 hk
        have hv : v = 12 ∨ v = 4 ∨ 20 ≤ v := by
          rcases hbeg with w | w
          · exact absurd w.1 (by omega)
          · exact w.2
        refine ⟨_, nI v, ?_, rfl, fun _ => rfl⟩
        rw [lC, if_pos hk, v5', if_neg (show ¬ (k = 4 ∧ v = 40) by omega)]
        unfold fSy_readOne_J24
        simp only [lit]
        rw [if_pos trivial, cb_all v v29, Option.bind_some, if_pos hv, if_neg u1]
      · refine ⟨_, -nI 1, ?_, rfl, fun u => absurd u hk⟩
        have hb : k = 4 ∧ v = 40 := by
          rcases hbeg with w | w
          · exact w
          · exact absurd w.1 hk
        rw [lC, if_neg hk, if_pos hb]
        unfold fSy_readOne_J24
        simp only [lit]
        rw [if_neg u1]
    obtain ⟨v4, v5, lJ, hv4, hv5⟩ := lJ45
    obtain ⟨lf, hlf⟩ : ∃ lf, fMo_leafOf m = some lf := by
      by_cases hx : ∃ a, a ≤ 9 ∧ k = 1 ∧ v = cwd a
      · obtain ⟨a, a1, a2⟩ := hx
        exact ⟨_, lfs.1 a a1 a2⟩
      · exact ⟨_, lfs.2 (fun a a1 a2 => hx ⟨a, a1, a2⟩)⟩
    have lM : fMo_operand m = fMo_operand_J38 m (nI (if k = 1 ∧ v = 20 then 1 else 0)) (nI (if k = 4 ∧ v = 40 then 1 else 0)) lf := by
      unfold fMo_operand
      rw [x20]
      simp only [lit]
      rw [w20, Option.bind_some, sgM, Option.bind_some, hlf, Option.bind_some]
      by_cases a1 : k = 1 ∧ v = 20
      · rw [if_pos a1, if_neg u1]
      · rw [if_neg a1, if_pos rfl]
        by_cases a2 : k = 4 ∧ v = 40
        · rw [if_pos a2, if_neg u1]
        · rw [if_neg a2, if_pos rfl]
          have hk : k = 1 ∧ (v = 12 ∨ v = 4 ∨ 20 ≤ v) := hbeg.resolve_left a2
          obtain ⟨a, b1, b2⟩ := cw_some (a5 hk.1).1 hk.2 (fun w => a1 ⟨hk.1, w⟩)
          have := lfs.1 a b1 ⟨hk.1, b2⟩
          rw [hlf] at this
          rw [Option.some.inj this, if_pos (by rw [nle (by omega) (by omega)]; omega)]
    by_cases hfull : o = 20 ∨ 8 < d
    · right
      obtain ⟨ta3, m3, f1, f2, f3, f4, f5⟩ := bad2 h11 (nI 4)
      have lJ60 : fSy_readOne_J60 (fSy_rec (N + 1) q) sy ta = some (nI 0, sy, ta3) := by
        unfold fSy_readOne_J60 fSy_refuse
        simp only [lit]
        rw [f1]
        simp only [Option.bind_some, bz_0]
      have lJ56 : fMo_operand_J56 m = some (nI 0, m3) := by
        unfold fMo_operand_J56
        simp only [lit]
        rw [f2]
        simp only [Option.bind_some, bz_0]
      refine ⟨sy, ta3, ?_, 0, m, m3, rfl, by omega, ?_, f3, f4, mvS_B f5⟩
      · rw [lJ]
        unfold fSy_readOne_J45
        simp only [lit, bnd]
        rw [h4, lJ60]
        by_cases ho : o = 20
        · rw [if_pos (by rw [nle (by omega) (by omega)]; omega)]
        · rw [if_neg (by rw [nle (by omega) (by omega)]; omega), if_neg (by rw [nle (by omega) (by omega)]; omega)]
      · rw [lS, lM]
        unfold fMo_operand_J38
        simp only [lit, bnd]
        rw [h8.2.1, h8.2.2.2.1, lJ56]
        by_cases ho : o = 20
        · rw [if_pos (by rw [ho]), Option.bind_some, if_pos rfl]
        · rw [if_neg (by rw [neq (by omega) (by omega)]; exact ho), if_neg (by rw [nle (by omega) (by omega)]; omega), Option.bind_some, if_pos rfl]
    · have ho : o ≤ 19 := by omega
      have hd8 : d ≤ 8 := by omega
      have lK : fSy_rec (N + 2) q 1 sy ta (nI d) = if v4 = nI 0 then (if v5 = nI 20 then (fSy_rec (N + 1) q 3 (sI sy 0 0 (nI (o + 1))) ta (nI d)).bind fun r6 => some (bz r6.1, r6.2.1, r6.2.2) else (fSy_readPlainOne q (sI sy 0 0 (nI (o + 1))) ta v5).bind fun r7 => some (bz r7.1, r7.2.1, r7.2.2)) else (fSy_rec (N + 1) q 2 (sI sy 0 0 (nI (o + 1))) ta (nI d)).bind fun r8 => some (bz r8.1, r8.2.1, r8.2.2) := by
        rw [lJ]
        unfold fSy_readOne_J45
        simp only [lit, bnd]
        rw [h4, if_neg (by rw [nle (by omega) (by omega)]; omega), if_pos (by rw [nle (by omega) (by omega)]; omega), nadd]
      by_cases hbr : k = 4 ∧ v = 40
      · -- a bracket
        rw [hv4, if_pos hbr, if_neg u1] at lK
        obtain ⟨k1, v1, l1, pl1, p1, ta1, r6, m2, b1, b2, b3, b4, b5, b6, b7⟩ := push_op (u := 23) hP (by omega) ho (by omega)
        have lO : fMo_sentence_L48 (nI 1, m) = some (.inl (nI 1, m2)) := by
          have lJ84 : fMo_operand_J84 r6 (nI 0) = some (nI 1, m2) := by
            unfold fMo_operand_J84
            simp only [lit]
            rw [if_pos trivial, b2]
          rw [lS, lM, if_neg (show ¬ (k = 1 ∧ v = 20) by omega), if_pos hbr]
          unfold fMo_operand_J38
          simp only [lit, bnd]
          rw [h8.2.1, h8.2.2.2.1, if_neg (by rw [neq (by omega) (by omega)]; omega), if_pos (by rw [nle (by omega) (by omega)]; omega), nadd, b1, Option.bind_some, if_pos trivial, if_neg u1, lJ84, Option.bind_some, if_neg u1]
        have lR : fSy_rec (N + 1) q 2 (sI sy 0 0 (nI (o + 1))) ta (nI d) = (fSy_rec N q 0 (sI sy 0 0 (nI (o + 1))) ta1 (nI (d + 1))).bind fun r2 => if r2.1 = nI 0 then some (nI 0, r2.2.1, r2.2.2) else (fTa_isSignOf r2.2.2 (nI 41)).bind fun r3 => if r3 = nI 0 then (fTa_refuse r2.2.2 (nI 1)).bind fun r4 => some (nI 0, r2.2.1, r4.2) else (fTa_take r2.2.2).bind fun r5 => some (nI 1, r2.2.1, r5) := by
          have e0 : fSy_rec (N + 1) q 2 (sI sy 0 0 (nI (o + 1))) ta (nI d) = fSy_readBracket (fSy_rec N q) q (sI sy 0 0 (nI (o + 1))) ta (nI d) := rfl
          rw [e0]
          unfold fSy_readBracket fSy_refuse
          simp only [lit]
          rw [b3, Option.bind_some, nadd]
          simp only [Option.bind_assoc, Option.bind_some, bz_0]
        rw [lR] at lK
        rcases hC hd8 (o + 1) c g (s + 1) A B C (va_up T s 23) _ ta1 m2 k1 v1 l1 pl1 p1 b7 (nmE_S hE b5) (Or.inr (by rw [Nat.add_sub_cancel, va_up_at, if_pos rfl])) with ⟨i, sy', ta', m', g1, g2, g3⟩ | ⟨sy', ta', g1, i, m1, m3, g2, g3, g4, g5, g6, g7⟩
        · rw [g1, Option.bind_some, if_neg u1] at lK
          simp only at lK
          rcases close_ok (T := va_up T s 23) hd ho h2 (by rw [va_up_at, if_pos rfl]) g3 with ⟨ta3, m3, c1, c2, c3, c4⟩ | ⟨ta3, m3, c1, c2, c3, c4, c5, c6, c7⟩
          · left
            rw [c1, Option.bind_some, if_neg u1, c2, Option.bind_some, Option.bind_some, bz_1] at lK
            refine ⟨1 + (i + 1), sy', ta3, m3, lK, Rch_trans (Rch_1 lO) (Rch_trans g2 (Rch_1 c3)), ?_⟩
            have := c4 ta m (taB_F b4) b5 (b4.2.1 2 (by omega) (by omega) (by omega) (by omega)) b6
            obtain ⟨o', cm, j, A', B', C', T', k', v', l', pl', p', e1, e2, e3, e4, e5, e6, e7, e8, e9, e10, e11, e12, e13, e14, e15, e16, e17, e18⟩ := this
            exact ⟨o', cm, j, A', B', C', T', k', v', l', pl', p', e1, e2, e3, e4, e5, e6, e7, e8, e9, e10, e11, e12, e13, e14, e15, fun x hx => by rw [e16 x hx, va_up_ne _ _ (by omega)], e17, e18⟩
          · right
            rw [c1, Option.bind_some, if_pos rfl, c2, Option.bind_some, Option.bind_some, bz_0] at lK
            exact ⟨sy', ta3, lK, 1 + i, m', m3, Rch_trans (Rch_1 lO) g2, by omega, c3, c4, taB_trans (taB_F b4) c5, mvS_trans b5 c6⟩
        · right
          rw [g1, Option.bind_some, if_pos rfl, Option.bind_some, bz_0] at lK
          exact ⟨sy', ta', lK, 1 + i, m1, m3, Rch_trans (Rch_1 lO) g2, by omega, g4, g5, taB_trans (taB_F b4) g6, mvS_trans b5 g7⟩
      · have hk1 : k = 1 := (hbeg.resolve_left hbr).1
        have hvv := (hbeg.resolve_left hbr).2
        subst hk1
        obtain ⟨v29, -⟩ := a5 rfl
        have hv5' := hv5 rfl
        rw [hv4, if_neg hbr, if_pos rfl, hv5'] at lK
        by_cases h20 : v = 20
        · -- not
          subst h20
          rw [if_pos rfl] at lK
          obtain ⟨k1, v1, l1, pl1, p1, ta1, r6, m2, b1, b2, b3, b4, b5, b6, b7⟩ := push_op (u := 20) hP (by decide) ho (by omega)
          have lO : fMo_sentence_L48 (nI 1, m) = some (.inl (nI 1, m2)) := by
            have lJ84 : fMo_operand_J84 r6 (nI 1) = some (nI 1, m2) := by
              unfold fMo_operand_J84
              simp only [lit]
              rw [if_neg u1, b2]
            rw [lS, lM, if_pos ⟨rfl, rfl⟩]
            unfold fMo_operand_J38
            simp only [lit, bnd]
            rw [h8.2.1, h8.2.2.2.1, if_neg (by rw [neq (by omega) (by omega)]; omega), if_pos (by rw [nle (by omega) (by omega)]; omega), nadd, b1, Option.bind_some, if_neg u1, lJ84, Option.bind_some, if_neg u1]
          have lR : fSy_rec (N + 1) q 3 (sI sy 0 0 (nI (o + 1))) ta (nI d) = (fSy_rec N q 1 (sI sy 0 0 (nI (o + 1))) ta1 (nI (d + 1))).bind fun r2 => if r2.1 = nI 0 then some (nI 0, r2.2.1, r2.2.2) else (fSy_add r2.2.1 (nI 20) (nI 0) (nI 0)).bind fun r3 => some (nI 1, r3, r2.2.2) := by
            have e0 : fSy_rec (N + 1) q 3 (sI sy 0 0 (nI (o + 1))) ta (nI d) = fSy_readNot (fSy_rec N q) q (sI sy 0 0 (nI (o + 1))) ta (nI d) := rfl
            rw [e0]
            unfold fSy_readNot
            simp only [lit]
            rw [b3, Option.bind_some, nadd]
          rw [lR] at lK
          rcases hO hd8 (o + 1) c g (s + 1) A B C (va_up T s 20) _ ta1 m2 k1 v1 l1 pl1 p1 b7 (nmE_S hE b5) with ⟨i, sy', ta', m', g1, g2, g3⟩ | ⟨sy', ta', g1, i, m1, m3, g2, g3, g4, g5, g6, g7⟩
          · left
            rw [g1, Option.bind_some, if_neg u1] at lK
            simp only at lK
            obtain ⟨o', cm, j, A', B', C', T', k', v', l', pl', p', e1, e2, e3, e4, e5, e6, e7, e8, e9, e10, e11, e12, e13, e14, e15, e16, e17, e18, e19, e20, e21, e22⟩ := g3
            obtain ⟨sy2, f1, f2, f3⟩ := sy_add e11 (by omega) 20 0 0
            have f1' : fSy_add sy' (nI 20) (nI 0) (nI 0) = some sy2 := f1
            rw [f1', Option.bind_some, Option.bind_some, bz_1] at lK
            refine ⟨1 + i, sy2, ta', m', lK, Rch_trans (Rch_1 lO) g2, o', cm, j + 1, va_up A' (cm + j) 20, va_up B' (cm + j) 0, va_up C' (cm + j) 0, T', k', v', l', pl', p', by omega, e2, by omega, by omega, e5, by omega, fun x hx => ?_, tok_up e8 (Or.inr (Or.inr (Or.inr (Or.inr ⟨by omega, by omega, rfl, rfl⟩)))), ?_, by rw [f3]; exact e10, f2, ?_, eM_congr e13 (fun x hx => same_up x (by omega)), fun x x1 x2 => ?_, ?_, fun x hx => by rw [e16 x (by omega), va_up_ne _ _ (by omega)], fun x x1 x2 => ?_, e18, taB_trans (taB_F b4) e19, mvS_trans b5 e20, ?_, ?_⟩
            · obtain ⟨y1, y2, y3⟩ := same_up (A := A') (B := B') (C := C') (c := cm + j) (x := 20) (y := 0) (u := 0) x (by omega)
              obtain ⟨y4, y5, y6⟩ := e7 x hx
              exact ⟨y1.trans y4, y2.trans y5, y3.trans y6⟩
            · refine dpt_not (c := cm + j) (g := g) ?_ (by rw [va_up_at, if_pos rfl])
              rw [dpt_congr (A := A') (c := cm + j) (fun x hx => va_up_ne _ _ (by omega))]; exact e9
            · rw [show s + (j + 1) = s + 1 + j by omega, show d + (j + 1) = d + 1 + j by omega]; exact e12
            · by_cases hxj : x = cm + j
              · subst hxj
                rw [va_up_at, if_pos rfl, va_up_at, if_pos rfl, va_up_at, if_pos rfl]; exact ⟨rfl, rfl, rfl⟩
              · rw [va_up_ne _ _ hxj, va_up_ne _ _ hxj, va_up_ne _ _ hxj]; exact e14 x x1 (by omega)
            · rw [show s + (j + 1) = s + 1 + j by omega]; exact e15
            · by_cases hxs : x = s
              · subst hxs
                rw [e16 x (by omega), va_up_at, if_pos rfl]
              · exact e17 x (by omega) (by omega)
            · rw [e21, b4.2.1 2 (by omega) (by omega) (by omega) (by omega)]
            · rw [e22, b6]
          · right
            rw [g1, Option.bind_some, if_pos rfl, Option.bind_some, bz_0] at lK
            exact ⟨sy', ta', lK, 1 + i, m1, m3, Rch_trans (Rch_1 lO) g2, by omega, g4, g5, taB_trans (taB_F b4) g6, mvS_trans b5 g7⟩
        · -- a leaf
          obtain ⟨a, ha1, ha2⟩ := cw_some v29 hvv h20
          rw [if_neg (by rw [neq (by omega) (by omega)]; exact h20)] at lK
          subst ha2
          rcases one_plain hP hE ho hd8 ha1 with ⟨sy', ta', m', g1, g2, g3⟩ | ⟨sy', ta', m', g1, g2, g3, g4, g5⟩
          · left
            rw [g1, Option.bind_some, bz_1] at lK
            exact ⟨1, sy', ta', m', lK, Rch_1 (by rw [lS, g2, Option.bind_some, if_neg u1]), g3⟩
          · right
            rw [g1, Option.bind_some, bz_0] at lK
            exact ⟨sy', ta', lK, 0, m, m', rfl, by omega, by rw [lS, g2, Option.bind_some, if_pos rfl], g3, g4, g5⟩
  · right
    obtain ⟨ta3, m3, f1, f2, f3, f4, f5⟩ := bad2 h11 (nI 1)
    have hb : ¬ (k = 4 ∧ v = 40) := fun u => hbeg (Or.inl u)
    have hv : k = 1 → ¬ (v = 12 ∨ v = 4 ∨ 20 ≤ v) := fun u w => hbeg (Or.inr ⟨u, w⟩)
    refine ⟨sy, ta3, ?_, 0, m, m3, rfl, by omega, ?_, f3, f4, mvS_B f5⟩
    · have hcb : fSy_canBeginOne (if k = 1 then ta.1 0 5 else -nI 1) = some (nI 0) := by
        by_cases hk : k = 1
        · rw [if_pos hk, (a5 hk).2, cb_all v (a5 hk).1, if_neg (hv hk)]
        · rw [if_neg hk]; exact cb_m1
      have : fSy_rec (N + 2) q 1 sy ta (nI d) = fSy_readOne_J24 (fSy_rec (N + 1) q) q sy ta (nI d) (nI 0) (if k = 1 then ta.1 0 5 else -nI 1) := by
        rw [lC, if_neg hb]
        by_cases hk : k = 1
        · rw [if_pos hk, if_pos hk]
        · rw [if_neg hk, if_neg hk]
      rw [this]
      unfold fSy_readOne_J24 fSy_refuse
      simp only [lit]
      rw [if_pos trivial, hcb, Option.bind_some, if_pos rfl, f1]
      simp only [Option.bind_some, bz_0]
    · have h20 : ¬ (k = 1 ∧ v = 20) := fun u => hv u.1 (Or.inr (Or.inr (by omega)))
      have hl := lfs.2 (fun a a1 a2 => hv a2.1 (by rw [a2.2]; exact cw_none a a1))
      rw [lS]
      unfold fMo_operand
      rw [x20]
      simp only [lit]
      rw [w20, Option.bind_some, sgM, Option.bind_some, hl, Option.bind_some, if_neg h20, if_pos rfl, if_neg hb, if_pos rfl, if_neg (show ¬ nI 0 ≤ -nI 1 by decide +kernel), f2]
      simp only [Option.bind_some, bz_0]
      rw [if_pos trivial]
/-- at every depth, with fuel enough -/
theorem all_depths : ∀ (u d : Nat), d + u = 9 → (∀ N, 2 + 3 * u ≤ N → ONE n h z lim b q d N) ∧ (∀ N, 3 + 3 * u ≤ N → COND n h z lim b q d N)
  | 0, d, hd => by
    have h1 : ∀ N, 2 + 3 * 0 ≤ N → ONE n h z lim b q d N := fun N hN => by
      obtain ⟨N', rfl⟩ : ∃ N', N = N' + 2 := ⟨N - 2, by omega⟩
      exact one_of (by omega) (fun w => absurd w (by omega)) (fun w => absurd w (by omega))
    refine ⟨h1, fun N hN => ?_⟩
    obtain ⟨N', rfl⟩ : ∃ N', N = N' + 1 := ⟨N - 1, by omega⟩
    exact cond_of (h1 N' (by omega)) (by omega)
  | u + 1, d, hd => by
    obtain ⟨i1, i2⟩ := all_depths u (d + 1) (by omega)
    have h1 : ∀ N, 2 + 3 * (u + 1) ≤ N → ONE n h z lim b q d N := fun N hN => by
      obtain ⟨N', rfl⟩ : ∃ N', N = N' + 2 := ⟨N - 2, by omega⟩
      exact one_of (by omega) (fun _ => i2 N' (by omega)) (fun _ => i1 N' (by omega))
    refine ⟨h1, fun N hN => ?_⟩
    obtain ⟨N', rfl⟩ : ∃ N', N = N' + 1 := ⟨N - 1, by omega⟩
    exact cond_of (h1 N' (by omega)) (by omega)
end
