section
variable {z lim : Nat} {b : Nat → Nat} {ta ta1 m ta' m' m0 m1 m2 m3 m4 x y q sy sy' : Obj} {k v v0 pl p p0 p1 c o s d w j g a : Nat} {l : List Nat} {n h L e t : Nat} {hp hm A B C T : Nat → Nat} {sr sr' : Nat → Bool}
theorem one_pre (hP : preO n h z lim b o c g s d A B C T sy ta m k v l pl p) (hk : k ≠ 5) : ∃ r6, fMo_next (sI m 0 40 (nI (o + 1))) = some r6 ∧ lag z lim b p ta r6 ∧ sM c (o + 1) s d 0 r6 ∧ eM c A B C r6 ∧ tS s T r6 ∧ mvS m r6 ∧ r6.1 0 15 = m.1 0 15 := by
  obtain ⟨h1, h2, h3, h4, h5, h6, h7, ⟨s1, s2, s3, s4, s5⟩, h9, h10, h11⟩ := hP
  have hs : syn z lim b k v l pl p ta (sI m 0 40 (nI (o + 1))) := h11
  obtain ⟨r6, g1, g2, g3⟩ := syn_lag hs hk
  have hm : sM c (o + 1) s d 0 (sI m 0 40 (nI (o + 1))) := ⟨s1, rfl, s3, s4, s5⟩
  refine ⟨r6, g1, g3, sM_F hm g2, eM_4 h9 (by rw [g2.1 4 (by omega)]; rfl), tS_14 h10 (by rw [g2.1 14 (by omega)]; rfl), mvS_trans (mvS_T (mvT_f (by omega))) (mvS_F g2), ?_⟩
  rw [g2.2.1 15 (by omega) (by omega)]; rfl
theorem cwd_big : ∀ a, a ≤ 9 → cwd a < 29 ∧ cwd a ≠ 20 := by decide +kernel
theorem one_plain (hP : preO n h z lim b o c g s d A B C T sy ta m 1 (cwd a) l pl p) (hE : nmE n h q m) (ho : o ≤ 19) (hd : d ≤ 8) (ha : a ≤ 9) :
    (∃ sy' ta' m', fSy_readPlainOne q (sI sy 0 0 (nI (o + 1))) ta (nI (cwd a)) = some (nI 1, sy', ta') ∧ fMo_operand m = some (nI 1, m') ∧ aftO 1 n h z lim b o c g s d A B C T ta m sy' ta' m') ∨
    (∃ sy' ta' m', fSy_readPlainOne q (sI sy 0 0 (nI (o + 1))) ta (nI (cwd a)) = some (nI 0, sy', ta') ∧ fMo_operand m = some (nI 0, m') ∧ fai ta' m' ∧ taB ta ta' ∧ mvS m m') := by
  have u1 : ¬ nI 1 = nI 0 := by decide +kernel
  obtain ⟨r6, f1, f2, f3, f4, f5, f6, f7⟩ := one_pre hP (by decide)
  obtain ⟨h1, h2, h3, h4, h5, h6, h7, ⟨s1, s2, s3, s4, s5⟩, h9, h10, h11⟩ := hP
  obtain ⟨c1, c2⟩ := cwd_big a ha
  have w20 := mo_isW h11 (w := 20) (by omega)
  rw [if_neg (fun u => c2 u.2)] at w20
  have g40 := (sg_both h11 (c := 40) (by omega)).2
  rw [if_neg (fun u => absurd u.1 (by decide))] at g40
  have lf := (leaf_of h11).1 a ha ⟨rfl, rfl⟩
  obtain ⟨s7, hs7⟩ : ∃ s7, s7 = sI r6 0 43 (nI 1) := ⟨_, rfl⟩
  have T7 : mvT r6 s7 := by rw [hs7]; exact mvT_f (by omega)
  have lM : fMo_operand m = if nI 4 ≤ nI a then (if nI 6 ≤ nI a then (if s7.1 0 11 = nI 3 then (if s7.1 0 14 < nI 60 then fMo_operand_J233 s7 else if s7.1 0 14 ≤ nI 62 then (fMo_next s7).bind fun r10 => (if r10.1 0 11 = nI 2 then (fMo_code r10 (nI a) (s7.1 0 14) (r10.1 0 14)).bind fun r11 => (fMo_next r11).bind fun r12 => some (nI 1, r12) else (fMo_bad r10 (nI 1)).bind fun r13 => some (bz r13.1, r13.2)) else fMo_operand_J233 s7) else fMo_operand_J233 s7) else if nI a = nI 4 then (fMo_looksAt s7 (nI 6) (s7.1 2 1)).bind fun r14 => fMo_operand_J182 r14.2 (nI a) r14.1 else (fMo_looksAt s7 (nI 0) (s7.1 2 0)).bind fun r17 => fMo_operand_J182 r17.2 (nI a) r17.1) else (fMo_code s7 (nI a) (nI 0) (nI 0)).bind fun r18 => some (nI 1, r18) := by
    have e20 : (7237492 : Int64) = kw8 (kws.getD 20 []) := by decide +kernel
    unfold fMo_operand fMo_operand_J38
    rw [e20]
    simp only [lit, bnd]
    rw [w20, Option.bind_some, g40, Option.bind_some, lf, Option.bind_some, if_pos rfl, if_pos rfl, if_pos (by rw [nle (by omega) (by omega)]; omega), s2, s4, if_neg (by rw [neq (by omega) (by omega)]; omega), if_pos (by rw [nle (by omega) (by omega)]; omega), nadd, f1, Option.bind_some, if_pos rfl, if_pos rfl, ← hs7]
  have m7 : sM c (o + 1) s d 1 s7 := by
    obtain ⟨a1, a2, a3, a4, a5⟩ := f3
    rw [hs7]; exact ⟨a1, a2, a3, a4, rfl⟩
  have e7 : eM c A B C s7 := by rw [hs7]; exact f4
  have t7 : tS s T s7 := by rw [hs7]; exact f5
  have l7 : lag z lim b p ta s7 := lag_H f2 (moH_T T7)
  have S7 : mvS m s7 := mvS_trans f6 (mvS_T T7)
  have s715 : s7.1 0 15 = m.1 0 15 := by rw [T7.2.2 15 (by omega), f7]
  obtain ⟨n8, h6', q3, q4, E0, E1, E5⟩ := nmE_S hE S7
  have hsy0 : (sI sy 0 0 (nI (o + 1))).1 0 0 = nI (o + 1) := by rw [sI_1, if_pos ⟨rfl, rfl⟩]
  have hsyC : sayC c A B C (sI sy 0 0 (nI (o + 1))) := h5
  -- both refuse
  have no : ∀ {ta' m' : Obj} {x : Obj}, fai ta' m' → taB ta ta' → mvS s7 m' → fSy_readPlainOne q (sI sy 0 0 (nI (o + 1))) ta (nI (cwd a)) = some (nI 0, x, ta') → fMo_operand m = some (nI 0, m') → (∃ sy' ta' m', fSy_readPlainOne q (sI sy 0 0 (nI (o + 1))) ta (nI (cwd a)) = some (nI 0, sy', ta') ∧ fMo_operand m = some (nI 0, m') ∧ fai ta' m' ∧ taB ta ta' ∧ mvS m m') := fun {ta' m' x} k1 k2 k3 k4 k5 => ⟨x, ta', m', k4, k5, k1, k2, mvS_trans S7 k3⟩
  have j69 : ∀ (tt : Obj) (w1 w2 : Nat), w1 < 1000 → w2 < 1000 → fSy_readPlainOne_J69 (sI sy 0 0 (nI (o + 1))) tt (nI (cwd a)) (nI w1) (nI w2) = (fSy_add (sI sy 0 0 (nI (o + 1))) (nI (cwd a)) (nI w1) (nI w2)).bind fun r2 => (fTa_take tt).bind fun r3 => some (nI 1, r2, r3) := fun tt w1 w2 hw1 hw2 => by
    unfold fSy_readPlainOne_J69
    simp only [lit]
    rw [if_neg (nI_ne_m1' (by omega)), if_neg (nI_ne_m1' (by omega))]
  have j69n : ∀ (tt : Obj) (w1 w2 : Int32), w1 = -nI 1 ∨ w2 = -nI 1 → fSy_readPlainOne_J69 (sI sy 0 0 (nI (o + 1))) tt (nI (cwd a)) w1 w2 = some (nI 0, sI sy 0 0 (nI (o + 1)), tt) := fun tt w1 w2 hw => by
    unfold fSy_readPlainOne_J69
    simp only [lit]
    rcases hw with w | w
    · rw [if_pos w]
    · rw [if_pos w]; split <;> rfl
  have nle4 : ∀ w, w < 100 → (nI w ≤ nI a ↔ w ≤ a) := fun w hw => nle (by omega) (by omega)
  have ne4 : ∀ w, w < 100 → (nI (cwd a) = nI w ↔ cwd a = w) := fun w hw => neq (by omega) (by omega)
  by_cases h4 : a = 4
  · subst h4
    have lC : fSy_readPlainOne q (sI sy 0 0 (nI (o + 1))) ta (nI (cwd 4)) = (fTa_takePerson q ta).bind fun r1 => fSy_readPlainOne_J69 (sI sy 0 0 (nI (o + 1))) r1.2 (nI (cwd 4)) r1.1 (nI 0) := by
      unfold fSy_readPlainOne
      simp only [lit]
      rw [if_pos (show nI (cwd 4) = nI 4 by decide +kernel)]
    rw [if_pos ((nle4 4 (by omega)).mpr (by omega)), if_neg (fun u => absurd ((nle4 6 (by omega)).mp u) (by omega)), if_pos rfl, E1] at lM
    rcases pe_take (c := n) (base := 6) n8 (by omega) q4 (fun i hi => E5.2 i hi) l7 with ⟨i, v2, l2, pl2, p2, ta2, i1, i2, i3, i4, i5, i6⟩ | ⟨ta2, m3, i1, i2, i3, i4, i5⟩
    · left
      have m8 : sM c (o + 1) s d 1 (sI s7 0 18 (nI i)) := m7
      obtain ⟨sy', m2, b1, b2, b3, b4⟩ := plain_end (z := z) (lim := lim) (b := b) (n := n) (h := h) (x := 4) (y := 0) (u := i) h2 ho h3 hsy0 hsyC h6 (Or.inr (Or.inl ⟨rfl, rfl, i1⟩)) (by omega) h7 m8 e7 t7
      have hs2 : syn z lim b 2 v2 l2 pl2 p2 ta2 m2 := syn_H i4 (moH_T b3)
      obtain ⟨k3, v3, l3, pl3, p3, ta3, m3, j1, j2, j3, j4, j5, j6⟩ := syn_syn hs2 (by decide)
      refine ⟨sy', ta3, m3, ?_, ?_, b4 ta ta3 m m3 k3 v3 l3 pl3 p3 (Or.inl j4) j5 (taB_trans (taB_F i6) (taB_F j3)) (mvS_trans S7 mvS_18) ?_ s715⟩
      · have b1' : fSy_add (sI sy 0 0 (nI (o + 1))) (nI (cwd 4)) (nI i) (nI 0) = some sy' := b1
        rw [lC, i2, Option.bind_some, j69 ta2 i 0 (by omega) (by omega), b1', Option.bind_some, j1, Option.bind_some]
      · have e18 : (sI s7 0 18 (nI i)).1 0 18 = nI i := by rw [sI_1, if_pos ⟨rfl, rfl⟩]
        rw [lM, i3, Option.bind_some]
        unfold fMo_operand_J182
        simp only [lit]
        rw [if_neg u1, e18, b2, Option.bind_some, j2, Option.bind_some]
      · rw [j3.2.1 2 (by omega) (by omega) (by omega) (by omega), i6.2.1 2 (by omega) (by omega) (by omega) (by omega)]
    · right
      refine no i3 i4 (mvS_B i5) (x := sI sy 0 0 (nI (o + 1))) ?_ ?_
      · rw [lC, i1, Option.bind_some, j69n _ _ _ (Or.inl rfl)]
      · rw [lM, i2, Option.bind_some]
        unfold fMo_operand_J182
        simp only [lit]
        rw [if_pos trivial]
  by_cases h5a : a = 5
  · subst h5a
    have lC : fSy_readPlainOne q (sI sy 0 0 (nI (o + 1))) ta (nI (cwd 5)) = (fTa_takeHouse q ta).bind fun r1 => fSy_readPlainOne_J69 (sI sy 0 0 (nI (o + 1))) r1.2 (nI (cwd 5)) r1.1 (nI 0) := by
      unfold fSy_readPlainOne
      simp only [lit]
      rw [if_neg (show ¬ nI (cwd 5) = nI 4 by decide +kernel), if_pos (show nI (cwd 5) = nI 24 by decide +kernel)]
    rw [if_pos ((nle4 4 (by omega)).mpr (by omega)), if_neg (fun u => absurd ((nle4 6 (by omega)).mp u) (by omega)), if_neg (show ¬ nI 5 = nI 4 by decide +kernel), E0] at lM
    rcases ho_take (c := h) (base := 0) h6' (by omega) q3 (fun i hi => by rw [Nat.zero_add]; exact E5.1 i hi) l7 with ⟨i, v2, l2, pl2, p2, ta2, i1, i2, i3, i4, i5, i6⟩ | ⟨ta2, m3, i1, i2, i3, i4, i5⟩
    · left
      have m8 : sM c (o + 1) s d 1 (sI s7 0 18 (nI i)) := m7
      obtain ⟨sy', m2, b1, b2, b3, b4⟩ := plain_end (z := z) (lim := lim) (b := b) (n := n) (h := h) (x := 5) (y := 0) (u := i) h2 ho h3 hsy0 hsyC h6 (Or.inr (Or.inr (Or.inl ⟨rfl, rfl, i1⟩))) (by omega) h7 m8 e7 t7
      have hs2 : syn z lim b 2 v2 l2 pl2 p2 ta2 m2 := syn_H i4 (moH_T b3)
      obtain ⟨k3, v3, l3, pl3, p3, ta3, m3, j1, j2, j3, j4, j5, j6⟩ := syn_syn hs2 (by decide)
      refine ⟨sy', ta3, m3, ?_, ?_, b4 ta ta3 m m3 k3 v3 l3 pl3 p3 (Or.inl j4) j5 (taB_trans (taB_F i6) (taB_F j3)) (mvS_trans S7 mvS_18) ?_ s715⟩
      · have b1' : fSy_add (sI sy 0 0 (nI (o + 1))) (nI (cwd 5)) (nI i) (nI 0) = some sy' := b1
        rw [lC, i2, Option.bind_some, j69 ta2 i 0 (by omega) (by omega), b1', Option.bind_some, j1, Option.bind_some]
      · have e18 : (sI s7 0 18 (nI i)).1 0 18 = nI i := by rw [sI_1, if_pos ⟨rfl, rfl⟩]
        rw [lM, i3, Option.bind_some]
        unfold fMo_operand_J182
        simp only [lit]
        rw [if_neg u1, e18, b2, Option.bind_some, j2, Option.bind_some]
      · rw [j3.2.1 2 (by omega) (by omega) (by omega) (by omega), i6.2.1 2 (by omega) (by omega) (by omega) (by omega)]
    · right
      refine no i3 i4 (mvS_B i5) (x := sI sy 0 0 (nI (o + 1))) ?_ ?_
      · rw [lC, i1, Option.bind_some, j69n _ _ _ (Or.inl rfl)]
      · rw [lM, i2, Option.bind_some]
        unfold fMo_operand_J182
        simp only [lit]
        rw [if_pos trivial]
  by_cases h4l : a < 4
  · left
    have cwr : ∀ a, a < 4 → ¬ nI (cwd a) = nI 4 ∧ ¬ nI (cwd a) = nI 24 ∧ nI (cwd a) < nI 25 ∧ nI (cwB a 0 0) = nI 0 ∧ nI (cwC a 0) = nI 0 := by decide +kernel
    obtain ⟨k1, k2, k3, k4, k5⟩ := cwr a h4l
    have lC : fSy_readPlainOne q (sI sy 0 0 (nI (o + 1))) ta (nI (cwd a)) = fSy_readPlainOne_J69 (sI sy 0 0 (nI (o + 1))) ta (nI (cwd a)) (nI 0) (nI 0) := by
      unfold fSy_readPlainOne
      simp only [lit]
      rw [if_neg k1, if_neg k2, if_pos k3]
    rw [if_neg (fun u => absurd ((nle4 4 (by omega)).mp u) (by omega))] at lM
    obtain ⟨sy', m2, b1, b2, b3, b4⟩ := plain_end (z := z) (lim := lim) (b := b) (n := n) (h := h) (x := a) (y := 0) (u := 0) h2 ho h3 hsy0 hsyC h6 (Or.inl ⟨by omega, rfl, rfl⟩) (by omega) h7 m7 e7 t7
    obtain ⟨ta1, k1', v1, l1, pl1, p1, t1, t2, t3, t4, t5⟩ := l7
    have hs2 : syn z lim b k1' v1 l1 pl1 p1 ta1 m2 := syn_H t3 (moH_T b3)
    rw [k4, k5] at b1
    refine ⟨sy', ta1, m2, ?_, ?_, b4 ta ta1 m m2 k1' v1 l1 pl1 p1 (Or.inr rfl) hs2 (taB_F t2) S7 ?_ s715⟩
    · rw [lC, j69 ta 0 0 (by omega) (by omega), b1, Option.bind_some, t1, Option.bind_some]
    · rw [lM, b2, Option.bind_some]
    · exact t2.2.1 2 (by omega) (by omega) (by omega) (by omega)
  · have h6a : 6 ≤ a := by omega
    have cwr : ∀ a, 6 ≤ a → a ≤ 9 → ¬ nI (cwd a) = nI 4 ∧ ¬ nI (cwd a) = nI 24 ∧ ¬ nI (cwd a) < nI 25 := fun a h1 h2 => by
      rcases (show a = 6 ∨ a = 7 ∨ a = 8 ∨ a = 9 by omega) with w | w | w | w <;> subst w <;> decide +kernel
    obtain ⟨k1, k2, k3⟩ := cwr a h6a ha
    have lC : fSy_readPlainOne q (sI sy 0 0 (nI (o + 1))) ta (nI (cwd a)) = (fTa_takeCompare ta).bind fun r5 => if r5.1 = -nI 1 then fSy_readPlainOne_J69 (sI sy 0 0 (nI (o + 1))) r5.2 (nI (cwd a)) r5.1 (-nI 1) else (fTa_takeNumber r5.2 (nI 0) (nI 999)).bind fun r6 => fSy_readPlainOne_J69 (sI sy 0 0 (nI (o + 1))) r6.2 (nI (cwd a)) r5.1 r6.1 := by
      unfold fSy_readPlainOne fSy_readPlainOne_J67
      simp only [lit]
      rw [if_neg k1, if_neg k2, if_neg k3]
    rw [if_pos ((nle4 4 (by omega)).mpr (by omega)), if_pos ((nle4 6 (by omega)).mpr h6a)] at lM
    rcases cmp_both l7 with ⟨sg, l2, pl2, p2, ta2, i1, i1', i2, i3, i4, i5, i6⟩ | ⟨ta2, m3, i1, i2, i3, i4, i5, i6⟩
    · rw [i3, if_pos rfl, i4, if_neg (by rw [nlt (by omega) (by omega)]; omega), if_pos (by rw [nle (by omega) (by omega)]; omega)] at lM
      rw [i2, Option.bind_some, if_neg (nI_ne_m1' (by omega))] at lC
      obtain ⟨r10, y1, y2, y3⟩ := syn_lag i5 (by decide)
      rw [y1, Option.bind_some] at lM
      simp only at lC
      have e10 : eM c A B C r10 := eM_4 e7 (y2.1 4 (by omega))
      have t10 : tS s T r10 := tS_14 t7 (y2.1 14 (by omega))
      have m10 : sM c (o + 1) s d 1 r10 := sM_F m7 y2
      rcases any_num y3 with ⟨vv, l3, pl3, p3, ta3, j1, j2, j3, j4, j5, j6⟩ | ⟨ta3, m3, j1, j2, j3, j4, j5, j6⟩
      · left
        rw [j3, if_pos rfl, j4] at lM
        obtain ⟨sy', m2, b1, b2, b3, b4⟩ := plain_end (z := z) (lim := lim) (b := b) (n := n) (h := h) (x := a) (y := sg) (u := vv) h2 ho h3 hsy0 hsyC h6 (Or.inr (Or.inr (Or.inr (Or.inl ⟨h6a, ha, i1, i1', j1⟩)))) ha h7 m10 e10 t10
        have hs2 : syn z lim b 3 vv l3 pl3 p3 ta3 m2 := syn_H j5 (moH_T b3)
        obtain ⟨k5, v5, l5, pl5, p5, ta5, m5, o1, o2, o3, o4, o5, o6⟩ := syn_syn hs2 (by decide)
        have cw2 : cwB a sg vv = sg ∧ cwC a vv = vv := by
          unfold cwB cwC
          rw [if_neg (by omega), if_neg (by omega)]
          exact ⟨rfl, rfl⟩
        rw [cw2.1, cw2.2] at b1
        refine ⟨sy', ta5, m5, ?_, ?_, b4 ta ta5 m m5 k5 v5 l5 pl5 p5 (Or.inl o4) o5 (taB_trans (taB_F i6) (taB_trans (taB_F j6) (taB_F o3))) (mvS_trans S7 (mvS_F y2)) ?_ ?_⟩
        · rw [lC, j2, Option.bind_some, j69 ta3 sg vv (by omega) (by omega), b1, Option.bind_some, o1, Option.bind_some]
        · rw [lM, b2, Option.bind_some, o2, Option.bind_some]
        · rw [o3.2.1 2 (by omega) (by omega) (by omega) (by omega), j6.2.1 2 (by omega) (by omega) (by omega) (by omega), i6.2.1 2 (by omega) (by omega) (by omega) (by omega)]
        · rw [y2.2.1 15 (by omega) (by omega), s715]
      · right
        refine no j3 (taB_trans (taB_F i6) j4) (mvS_trans (mvS_F y2) (mvS_B j5)) (x := sI sy 0 0 (nI (o + 1))) ?_ ?_
        · rw [lC, j1, Option.bind_some, j69n _ _ _ (Or.inr rfl)]
        · rw [lM, if_neg j6, j2]
          simp only [Option.bind_some, bz_0]
    · right
      have lJ : fMo_operand_J233 s7 = some (nI 0, m3) := by
        unfold fMo_operand_J233
        simp only [lit]
        rw [i2]
        simp only [Option.bind_some, bz_0]
      refine no i3 i4 (mvS_B i5) (x := sI sy 0 0 (nI (o + 1))) ?_ ?_
      · rw [lC, i1, Option.bind_some, if_pos rfl, j69n _ _ _ (Or.inl rfl)]
      · rw [lM, lJ]
        rcases i6 with w | ⟨w1, w2⟩
        · rw [if_neg w]
        · rw [if_pos w1]
          rcases w2 with w | w
          · rw [if_pos w]
          · rw [if_neg w]
            split <;> rfl
end
