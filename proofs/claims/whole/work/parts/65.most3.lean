section
variable {X X' X1 : Nat → Obj} {n h L e t : Nat} {hp hm : Nat → Nat} {sr : Nat → Bool} {q m m' m0 m1 sc mt x : Obj} {S S' : Nat → Nat → Nat} {T : Nat} {N : Nat → Nat}
theorem an_down (hB : sQB n h L e t hp hm) (hM : sQM n h L e t hp hm sr (x.1 2)) (hV : sSV n h L hp S) (hD : sSM n S (dOf x)) {p : Nat} (hpn : p < n) (h3 : S 3 p = 1) (cf : Nat → Bool) (h9 : ∀ j, j < 256 → x.1 9 j = nI (bn (cf j))) : ∃ x', iter (fMo_areAnswered_L57 (nI p)) FU (nI 255, x) = some x' ∧ f9 x x' ∧ ∀ j, j < 256 → x'.1 9 j = nI (bn (fi (fun r => j.testBit r && ((nea n e hp hm S p).testBit r && cf (j ^^^ 2 ^ r))) n).isSome) := by
  have key := iter_I (f := fMo_areAnswered_L57 (nI p)) (I := fun i a => ∃ y, a = (nI (256 - i) - nI 1, y) ∧ f9 x y ∧ ∀ j, j < 256 → y.1 9 j = nI (bn (if 256 - i ≤ j then (fi (fun r => j.testBit r && ((nea n e hp hm S p).testBit r && cf (j ^^^ 2 ^ r))) n).isSome else cf j))) (E := fun x' => f9 x x' ∧ ∀ j, j < 256 → x'.1 9 j = nI (bn (fi (fun r => j.testBit r && ((nea n e hp hm S p).testBit r && cf (j ^^^ 2 ^ r))) n).isSome)) 256 (by omega) (a := (nI 255, x)) ⟨x, rfl, f9_refl x, fun j hj => ?_⟩ (fun i a hi hz => ?_) (fun a hz => ?_)
  · obtain ⟨x', g1, g2⟩ := key
    exact ⟨x', g1, g2⟩
  · rw [if_neg (by omega)]; exact h9 j hj
  · obtain ⟨y, rfl, f1, f2⟩ := hz
    left
    have hMy : sQM n h L e t hp hm sr (y.1 2) := by rw [f1.2 2 (by omega)]; exact hM
    have hDy : sSM n S (dOf y) := by
      show sSM n S (fun j => y.1 2 (69 + j))
      rw [f1.2 2 (by omega)]; exact hD
    have ha := an_in hB hMy hV hDy hpn h3 (k := 255 - i) (by omega) cf (fun j hj => by
      rw [f2 j (by omega), if_neg (by omega)])
    have hl := bn_le ((fi (fun r => (255 - i).testBit r && ((nea n e hp hm S p).testBit r && cf ((255 - i) ^^^ 2 ^ r))) n).isSome)
    refine ⟨(nI (256 - (i + 1)) - nI 1, sI y 9 (255 - i) (nI (bn (fi (fun r => (255 - i).testBit r && ((nea n e hp hm S p).testBit r && cf ((255 - i) ^^^ 2 ^ r))) n).isSome))), ?_, _, rfl, f9_trans f1 f9_sI, fun j hj => ?_⟩
    · rw [nsub (show 1 ≤ 256 - i by omega), show 256 - i - 1 = 255 - i by omega]
      unfold fMo_areAnswered_L57
      simp only [lit]
      rw [if_neg (nI_lt0 (by omega)), ha, Option.bind_some, ix_nI (by omega) (by omega), Option.bind_some, add_n1, show 256 - (i + 1) = 255 - i by omega, bz_n _ (by omega)]
      rfl
    · rw [sI_1]
      by_cases hji : j = 255 - i
      · rw [if_pos ⟨rfl, hji⟩, if_pos (by omega), hji]
      · rw [if_neg (fun z => hji z.2), f2 j hj]
        by_cases hle : 256 - i ≤ j
        · rw [if_pos hle, if_pos (by omega)]
        · rw [if_neg hle, if_neg (by omega)]
  · obtain ⟨y, rfl, f1, f2⟩ := hz
    refine ⟨y, ?_, f1, fun j hj => ?_⟩
    · unfold fMo_areAnswered_L57
      simp only [lit]
      rw [if_pos (by decide +kernel)]
    · rw [f2 j hj, if_pos (by omega)]
theorem an_all (hB : sQB n h L e t hp hm) (hM : sQM n h L e t hp hm sr (x.1 2)) (hV : sSV n h L hp S) (hD : sSM n S (dOf x)) {T : Nat} (hT : ∀ i, T.testBit i = true → i < n ∧ S 3 i = 1) : ∃ x', fMo_areAnswered x (nI T) = some (nI (hb (nea n e hp hm S) T), x') ∧ f9 x x' := by
  have b1 := hB.1
  have u1 : ¬ nI 1 = nI 0 := by decide +kernel
  have hT256 : T < 256 := Nat.lt_pow_two_of_testBit (n := 8) _ (fun i hi => by
    cases hc : T.testBit i
    · rfl
    · have := (hT i hc).1; omega)
  obtain ⟨e5, a1, a2, a3⟩ := lpo (f := fMo_areAnswered_L2) (J := fun k y => f9 x y ∧ ∀ j, j < k → y.1 9 j = nI (bn (j == 0))) 256 (by omega) (x := x) ⟨f9_refl x, fun p hp => absurd hp (by omega)⟩ (fun k y hk hz => by
      refine ⟨sI y 9 k (nI (bn (k == 0))), ?_, f9_trans hz.1 f9_sI, fun p hp => ?_⟩
      · unfold fMo_areAnswered_L2
        simp only [lit, nadd]
        rw [if_neg (by rw [nle (by omega) (by omega)]; omega), ix_nI (by omega) (by omega)]
        simp only [Option.bind_some, bnd]
        by_cases hk0 : k = 0
        · subst hk0; rw [if_pos rfl]; rfl
        · rw [if_neg (by rw [neq (by omega) (by omega)]; exact hk0), beq_eq_false_iff_ne.mpr hk0]; rfl
      · rw [sI_1]
        by_cases hpk : p = k
        · rw [if_pos ⟨rfl, hpk⟩, hpk]
        · rw [if_neg (fun z => hpk z.2)]; exact hz.2 p (by omega)) (fun y hz => by
      unfold fMo_areAnswered_L2
      simp only [lit]
      rw [if_pos (by rw [nle (by omega) (by omega)]; omega)])
  obtain ⟨e15, c1, c2, c3⟩ := lpo (f := fMo_areAnswered_L32 (nI T)) (J := fun p y => f9 x y ∧ ∀ j, j < 256 → y.1 9 j = nI (bn (cF (nea n e hp hm S) T n p j))) n (by omega) (x := e5) ⟨a2, a3⟩ (fun p y hpq hz => by
      obtain ⟨f1, f2⟩ := hz
      have hMy : sQM n h L e t hp hm sr (y.1 2) := by rw [f1.2 2 (by omega)]; exact hM
      have hDy : sSM n S (dOf y) := by
        show sSM n S (fun j => y.1 2 (69 + j))
        rw [f1.2 2 (by omega)]; exact hD
      have hbt := bitOf_n (a := T) (p := p) (by omega) (by omega)
      have cc : ∀ k, cF (nea n e hp hm S) T n (p + 1) k = if T.testBit p then (fi (fun r => k.testBit r && ((nea n e hp hm S p).testBit r && cF (nea n e hp hm S) T n p (k ^^^ 2 ^ r))) n).isSome else cF (nea n e hp hm S) T n p k := fun k => rfl
      cases hbb : T.testBit p
      · refine ⟨y, ?_, f1, fun j hj => ?_⟩
        · unfold fMo_areAnswered_L32
          simp only [lit, nadd]
          rw [hMy.1.2.1, if_neg (by rw [nle (by omega) (by omega)]; omega), hbt, hbb, Option.bind_some]
          rfl
        · rw [cc j, hbb, if_neg (by decide)]; exact f2 j hj
      · obtain ⟨y', g1, g2, g3⟩ := an_down hB hMy hV hDy hpq (hT p hbb).2 _ f2
        refine ⟨y', ?_, f9_trans f1 g2, fun j hj => ?_⟩
        · unfold fMo_areAnswered_L32
          simp only [lit, nadd]
          rw [hMy.1.2.1, if_neg (by rw [nle (by omega) (by omega)]; omega), hbt, hbb, Option.bind_some, if_neg (by decide +kernel), g1]
          rfl
        · rw [cc j, hbb, if_pos rfl]; exact g3 j hj) (fun y hz => by
      have hMy : y.1 2 1 = nI n := by rw [hz.1.2 2 (by omega)]; exact hM.1.2.1
      unfold fMo_areAnswered_L32
      simp only [lit]
      rw [hMy, if_pos (by rw [nle (by omega) (by omega)]; omega)])
  have hany : iter (fMo_areAnswered_L163 e15) FU (nI 0, nI 0) = some (nI (hb (nea n e hp hm S) T)) := by
    have hiff := hall_iff (N := nea n e hp hm S) (T := T) (n := n) b1 (fun i hi => (hT i hi).1) (nea_lt b1) (fun p r hr => nea_n hr)
    have key := iter_F (f := fMo_areAnswered_L163 e15) (F := fun i => (nI (bn (fi (fun j => cF (nea n e hp hm S) T n n j) i).isSome), nI i)) (nI (bn (fi (fun j => cF (nea n e hp hm S) T n n j) 256).isSome)) 256 (by omega) (fun i hi => ?_) ?_
    · have hk : bn (fi (fun j => cF (nea n e hp hm S) T n n j) 256).isSome = hb (nea n e hp hm S) T := by
        by_cases hh : hall (nea n e hp hm S) T
        · rw [hb_1 hh, fi_is.mpr (hiff.mp hh)]; rfl
        · rw [hb_0 hh]
          cases hc : (fi (fun j => cF (nea n e hp hm S) T n n j) 256).isSome
          · rfl
          · exact absurd (hiff.mpr (fi_is.mp hc)) hh
      rw [← hk]
      exact key
    · have hfi : (fi (fun j => cF (nea n e hp hm S) T n n j) (i + 1)).isSome = ((fi (fun j => cF (nea n e hp hm S) T n n j) i).isSome || cF (nea n e hp hm S) T n n i) := by
        rw [Bool.eq_iff_iff, Bool.or_eq_true, fi_is, fi_is]
        constructor
        · rintro ⟨k, k1, k2⟩
          by_cases hki : k = i
          · subst hki; exact Or.inr k2
          · exact Or.inl ⟨k, by omega, k2⟩
        · rintro (⟨k, k1, k2⟩ | k2)
          · exact ⟨k, by omega, k2⟩
          · exact ⟨i, by omega, k2⟩
      rw [hfi]
      unfold fMo_areAnswered_L163
      simp only [lit, nadd]
      rw [if_neg (by rw [nle (by omega) (by omega)]; omega)]
      cases (fi (fun j => cF (nea n e hp hm S) T n n j) i).isSome
      · rw [if_pos (show nI (bn false) = nI 0 from rfl), ix_nI (by omega) (by omega), Option.bind_some, c3 i hi, Bool.false_or]
        cases cF (nea n e hp hm S) T n n i
        · rfl
        · rw [if_neg (by decide +kernel)]; rfl
      · rw [if_neg (show ¬ nI (bn true) = nI 0 by decide +kernel)]; rfl
    · unfold fMo_areAnswered_L163
      simp only [lit]
      rw [if_pos (by rw [nle (by omega) (by omega)]; omega)]
  refine ⟨e15, ?_, c2⟩
  have hl := hb_le (nea n e hp hm S) T
  unfold fMo_areAnswered
  simp only [lit]
  rw [a1, Option.bind_some, c1, Option.bind_some, hany, Option.bind_some, bz_n _ (by omega)]
theorem R_most (hR : R X m) (hf : f9 m x) (o : Obj) (v : Int32) : R (va_up (va_up X 217 o) 0 (sI (X 0) 0 13 v)) (sI (sI x 0 25 (nI 1)) 0 24 v) := by
  obtain ⟨n, h, L, e, t, hp, hm, sr, hs, hP, hT, hI0, hI1, hW, hF, hTh, hAs, hCh, hr⟩ := hR
  obtain ⟨f2, f1⟩ := hf
  have e0 := f1 0 (by omega)
  refine ⟨n, h, L, e, t, hp, hm, sr, ?_, ?_, ?_, ?_, ?_, ?_, ?_, Or.inr ⟨rfl, rfl⟩, ?_, ?_, ?_⟩
  · show pStr n h L e t hp hm sr (X 5) (X 12) (X 23) (x.1 2) (x.2 5)
    rw [f2, f1 2 (by omega)]; exact hs
  · refine past_up (past_up ?_ (by omega)) (by omega)
    show pPast n h L hp X (x.1 7) (x.1 0 23)
    rw [f1 7 (by omega), e0]; exact hP
  · show pTape (X 1) (x.1 1) (x.1 0 2)
    rw [f1 1 (by omega), e0]; exact hT
  · show pImg (X 52) (X 53) (X 60) (X 71) (fun i => x.1 16 (342 * 0 + i)) (fun i => x.2 17 (14 * 0 + i)) (x.1 18 0)
    rw [f2, f1 16 (by omega), f1 18 (by omega)]; exact hI0
  · show pImg (X 76) (X 77) (X 84) (X 95) (fun i => x.1 16 (342 * 1 + i)) (fun i => x.2 17 (14 * 1 + i)) (x.1 18 1)
    rw [f2, f1 16 (by omega), f1 18 (by omega)]; exact hI1
  · show pWds ((X 1).2 1) (x.2 6)
    rw [f2]; exact hW
  · show (X 0).1 0 12 = x.1 0 15
    rw [e0]; exact hF
  · show pOpt ((X 0).1 0 14) (x.1 0 31) (x.1 0 30)
    rw [e0]; exact hAs
  · show pChn (X 220) (x.1 0 29) (x.1 11)
    rw [e0, f1 11 (by omega)]; exact hCh
  · show pLab (X 223) (x.1 0 33) (x.1 12) ∧ pTol (X 213) (x.1 0 37) (x.1 13)
    rw [e0, f1 12 (by omega), f1 13 (by omega)]; exact hr
theorem k_most (hR : R X m) : ∃ r X' m', fKL_most X = some (r, X') ∧ fMo_most m = some (r, m') ∧ R X' m' := by
  have hR1 := R_thr (v := nI 0) hR
  have hs' : ∃ n h L e t hp hm sr S, sQB n h L e t hp hm ∧ sQC n h L e t hp hm sr (X 5) ∧ sQM n h L e t hp hm sr ((sI m 0 0 (nI 0)).1 2) ∧ sSV n h L hp S ∧ sSC n S (X 12) ∧ sSM n S (dOf (sI m 0 0 (nI 0))) := by
    obtain ⟨n, h, L, e, t, hp, hm, sr, ⟨hB, hC, hM, hN, ⟨S, hV, hS, hD, -⟩, -⟩, -⟩ := hR
    exact ⟨n, h, L, e, t, hp, hm, sr, S, hB, hC, hM, hV, hS, hD⟩
  obtain ⟨n, h, L, e, t, hp, hm, sr, S, hB, hC, hM, hV, hS, hD⟩ := hs'
  have b1 := hB.1
  obtain ⟨mt', y1⟩ := mt_best (mt := X 217) hB hC hV hS
  have hkb : ∀ i, (msk n (fun p => S 3 p == 1)).testBit i = true ↔ i < n ∧ S 3 i = 1 := fun i => by
    rw [msk_bit, Bool.and_eq_true, beq_iff_eq, decide_eq_true_eq]
  have hK := msk_256 (n := n) (fun p => S 3 p == 1) b1
  have hare := mo_are hB hM hV hD (v := 1) (by omega)
  revert hkb hK hare
  generalize msk n (fun p => S 3 p == 1) = K
  intro hkb hK hare
  have hb8 : ∀ T i, T < 256 → T.testBit i = true → i < 8 := fun T i hT hi => by
    rcases Nat.lt_or_ge i 8 with h | h
    · exact h
    · rw [Nat.testBit_lt_two_pow (Nat.lt_of_lt_of_le hT (Nat.le_trans (by decide : 256 ≤ 2 ^ 8) (Nat.pow_le_pow_right (by decide) h)))] at hi
      cases hi
  have hout : ∀ T, T < 256 → ¬ sub T K → hb (nea n e hp hm S) T = 0 := fun T hT8 hT => hb_0 (fun hh => by
    have : ∃ i, T.testBit i = true ∧ K.testBit i = false := by
      apply Classical.byContradiction
      intro hn
      apply hT
      intro i hi
      cases hc : K.testBit i
      · exact absurd ⟨i, hi, hc⟩ hn
      · rfl
    obtain ⟨i, i1, i2⟩ := this
    have h1 := hh (2 ^ i) (fun j hj => by
      rw [Nat.testBit_two_pow] at hj
      rw [← of_decide_eq_true hj]; exact i1)
    have h2 : pcnt (un (nea n e hp hm S) (2 ^ i) 8) ≤ pcnt 0 := pc_mono (fun r hr => by
      obtain ⟨p, p1, p2, p3⟩ := un_bit.mp hr
      rw [Nat.testBit_two_pow] at p2
      rw [← of_decide_eq_true p2] at p3
      unfold nea at p3
      rw [if_neg (fun z => by rw [(hkb i).mpr z] at i2; cases i2)] at p3
      exact p3)
    rw [pc_1 (hb8 T i hT8 i1)] at h1
    rw [pc_0] at h2
    omega)
  have hsubz : ∀ T, T < 256 → (T &&& (255 ^^^ K) = 0 ↔ sub T K) := fun T hT => by
    constructor
    · intro h0 i hi
      have h1 : (T &&& (255 ^^^ K)).testBit i = false := by rw [h0]; exact Nat.zero_testBit i
      rw [Nat.testBit_and, Nat.testBit_xor, hi, bit255 (hb8 T i hT hi)] at h1
      cases hc : K.testBit i
      · rw [hc] at h1; cases h1
      · rfl
    · intro hs
      apply Nat.eq_of_testBit_eq
      intro i
      rw [Nat.zero_testBit, Nat.testBit_and, Nat.testBit_xor]
      cases hc : T.testBit i
      · rfl
      · rw [hs i hc, bit255 (hb8 T i hT hc)]; rfl
  have hsle : ∀ T, sub T K → T ≤ K := fun T hs => by
    have : T &&& K = T := by
      apply Nat.eq_of_testBit_eq
      intro i
      rw [Nat.testBit_and]
      cases hc : T.testBit i
      · rfl
      · rw [hs i hc]; rfl
    rw [← this]; exact Nat.and_le_right
  generalize hN : nea n e hp hm S = N at y1 hout
  have gm : gb N (hb N) 255 = gb N (hb N) K := gb_more (by omega) (fun T h1 h2 => hout T (by omega) (fun hs => by have := hsle T hs; omega))
  have key := iter_I (f := fMo_most_L15 (nI K)) (I := fun k a => ∃ x, a = (nI (gb N (hb N) k), nI (k + 1), x) ∧ f9 (sI m 0 0 (nI 0)) x) (E := fun z => ∃ x, z = (nI (gb N (hb N) K), x) ∧ f9 (sI m 0 0 (nI 0)) x) K (by omega) (a := (nI 0, nI 1, sI m 0 0 (nI 0))) ⟨_, rfl, f9_refl _⟩ (fun k a hk hz => ?_) (fun a hz => ?_)
  · obtain ⟨z, g1, x, rfl, g3⟩ := key
    have hg := gb_le N (hb N) K
    refine ⟨nI (pcnt (gb N (hb N) K)), _, _, ?_, ?_, R_most hR1 g3 mt' (nI (gb N (hb N) K))⟩
    · unfold fKL_most
      rw [y1, gm]
      simp only [Option.bind_some, bnd]
      rw [va_up_ne (j := 0) (k := 217) _ _ (by omega), va_up_at, if_pos rfl, sI_1, if_pos ⟨rfl, rfl⟩, jbc (by omega)]
      rfl
    · unfold fMo_most
      simp only [lit, bnd]
      rw [hare, Option.bind_some, g1, Option.bind_some, mbc (by omega)]
      rfl
  · obtain ⟨x, rfl, fx⟩ := hz
    left
    have hg := gb_le N (hb N) k
    have hT : k + 1 < 256 := by omega
    have p1 := pcnt_le hT
    have p2 := pcnt_le (a := gb N (hb N) k) (by omega)
    have gs : gb N (hb N) (k + 1) = if hb N (k + 1) = 1 ∧ pcnt (gb N (hb N) k) < pcnt (k + 1) then k + 1 else gb N (hb N) k := rfl
    have e1 : nI (k + 1) &&& (nI K ^^^ (-1 : Int32)) = nI (k + 1 &&& (255 ^^^ K)) := andm hT
    have ea := and_256 (b := 255 ^^^ K) hT
    have q1 : ¬ nI K < nI (k + 1) := by rw [nlt (by omega) (by omega)]; omega
    have l1 : fMo_most_L15 (nI K) (nI (gb N (hb N) k), nI (k + 1), x) = ((if nI (k + 1 &&& (255 ^^^ K)) = (0 : Int32) then if nI (pcnt (k + 1)) ≤ nI (pcnt (gb N (hb N) k)) then some (.inl (nI (gb N (hb N) k), nI (k + 2), x)) else (fMo_areAnswered x (nI (k + 1))).bind fun r5 => if r5.1 = (0 : Int32) then some (.inl (nI (gb N (hb N) k), nI (k + 2), r5.2)) else some (.inl (nI (k + 1), nI (k + 2), r5.2)) else some (.inl (nI (gb N (hb N) k), nI (k + 2), x))) : Option ((Int32 × Int32 × Obj) ⊕ (Int32 × Obj))) := by
      show ((if nI K < nI (k + 1) then some (.inr (nI (gb N (hb N) k), x)) else if nI (k + 1) &&& (nI K ^^^ (-1 : Int32)) = (0 : Int32) then (fMo_bits (nI (k + 1))).bind fun r3 => (fMo_bits (nI (gb N (hb N) k))).bind fun r4 => if r3 ≤ r4 then some (.inl (nI (gb N (hb N) k), nI (k + 1) + (1 : Int32), x)) else (fMo_areAnswered x (nI (k + 1))).bind fun r5 => if r5.1 = (0 : Int32) then some (.inl (nI (gb N (hb N) k), nI (k + 1) + (1 : Int32), r5.2)) else some (.inl (nI (k + 1), nI (k + 1) + (1 : Int32), r5.2)) else some (.inl (nI (gb N (hb N) k), nI (k + 1) + (1 : Int32), x))) : Option ((Int32 × Int32 × Obj) ⊕ (Int32 × Obj))) = _
      rw [if_neg q1, e1, mbc hT, Option.bind_some, mbc (by omega), Option.bind_some, nsc]
    by_cases hs : sub (k + 1) K
    · rw [if_pos (show nI (k + 1 &&& (255 ^^^ K)) = (0 : Int32) by rw [(hsubz (k + 1) hT).mpr hs]; rfl)] at l1
      by_cases hlt : pcnt (gb N (hb N) k) < pcnt (k + 1)
      · rw [if_neg (by rw [nle (by omega) (by omega)]; omega)] at l1
        have hMx : sQM n h L e t hp hm sr (x.1 2) := by rw [fx.2 2 (by omega)]; exact hM
        have hDx : sSM n S (dOf x) := by
          show sSM n S (fun j => x.1 2 (69 + j))
          rw [fx.2 2 (by omega)]; exact hD
        obtain ⟨x', w1, w2⟩ := an_all hB hMx hV hDx (T := k + 1) (fun i hi => (hkb i).mp (hs i hi))
        rw [hN] at w1
        rw [w1, Option.bind_some] at l1
        have hle := hb_le N (k + 1)
        by_cases hh : hb N (k + 1) = 1
        · rw [hh, if_neg (show ¬ nI 1 = (0 : Int32) by decide +kernel)] at l1
          refine ⟨_, l1, x', ?_, f9_trans fx w2⟩
          rw [gs, if_pos ⟨hh, hlt⟩]
        · have hh0 : hb N (k + 1) = 0 := by omega
          rw [hh0, if_pos (show nI 0 = (0 : Int32) from rfl)] at l1
          refine ⟨_, l1, x', ?_, f9_trans fx w2⟩
          rw [gs, if_neg (fun z => hh z.1)]
      · rw [if_pos (by rw [nle (by omega) (by omega)]; omega)] at l1
        refine ⟨_, l1, x, ?_, fx⟩
        rw [gs, if_neg (fun z => hlt z.2)]
    · rw [if_neg (show ¬ nI (k + 1 &&& (255 ^^^ K)) = (0 : Int32) by
        show ¬ nI (k + 1 &&& (255 ^^^ K)) = nI 0
        rw [neq (by omega) (by omega)]
        exact fun z => hs ((hsubz (k + 1) hT).mp z))] at l1
      refine ⟨_, l1, x, ?_, fx⟩
      rw [gs, hout (k + 1) hT hs, if_neg (fun z => absurd z.1 (by decide))]
  · obtain ⟨x, rfl, fx⟩ := hz
    refine ⟨_, ?_, x, rfl, fx⟩
    unfold fMo_most_L15
    rw [if_pos (by rw [nlt (by omega) (by omega)]; omega)]
end
