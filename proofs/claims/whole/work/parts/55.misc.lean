theorem i2b_B (x : Int32) : isB (i2b x) := by
  refine ⟨x.toInt8.toBitVec.toNat, x.toInt8.toBitVec.isLt, ?_⟩
  unfold i2b
  congr 1
  apply Int8.toBitVec_inj.mp
  apply BitVec.eq_of_toNat_eq
  have h := x.toInt8.toBitVec.isLt
  conv => rhs; rw [Int32.toBitVec_toInt8, BitVec.signExtend_eq_setWidth_of_le _ (by omega), BitVec.toNat_setWidth, pk_tn (by omega)]
  omega
def tfm (m m' : Obj) : Prop := m'.2 = m.2 ∧ (∀ j, j ≠ 0 → j ≠ 1 → m'.1 j = m.1 j) ∧ ∀ i, i ≠ 0 → (i < 2 ∨ 5 < i) → m'.1 0 i = m.1 0 i
def gcdE (b a : Nat) : Unit ⊕ Int32 := if Nat.gcd a b = 1 then .inl () else .inr (nI (Nat.gcd a b))
theorem gcd_all1 : ∀ b, b < 8 → ∀ a, a < 65 → iter (fKL_commonDivisor_L2 (nI a) (nI (b + 1))) 10 (nI (b + 1)) = some (gcdE (b + 1) a) := by decide +kernel
theorem gcd_all2 : ∀ b, b < 8 → ∀ a, a < 65 → iter fMo_mean_L77 12 (nI (b + 1), nI a) = some (nI (Nat.gcd a (b + 1))) ∧ 1 ≤ Nat.gcd a (b + 1) ∧ Nat.gcd a (b + 1) ≤ 8 := by decide +kernel
theorem gcd_all {b a : Nat} (h1 : b < 9) (h2 : 1 ≤ b) (ha : a < 65) : iter (fKL_commonDivisor_L2 (nI a) (nI b)) 10 (nI b) = some (gcdE b a) ∧ iter fMo_mean_L77 12 (nI b, nI a) = some (nI (Nat.gcd a b)) ∧ 1 ≤ Nat.gcd a b ∧ Nat.gcd a b ≤ 8 := by
  cases b with
  | zero => omega
  | succ b => exact ⟨gcd_all1 b (by omega) a ha, gcd_all2 b (by omega) a ha⟩
section
variable {X X' X1 : Nat → Obj} {n h L e t : Nat} {hp hm : Nat → Nat} {sr : Nat → Bool} {q m m' m0 m1 sc sc0 sc2 ta : Obj} {S S' : Nat → Nat → Nat} {T B : Nat} {d un un' : Nat → Int32} {many many' : Int32}
theorem tfm_refl (m : Obj) : tfm m m := ⟨rfl, fun _ _ _ => rfl, fun _ _ _ => rfl⟩
theorem tfm_trans {a b c : Obj} (h1 : tfm a b) (h2 : tfm b c) : tfm a c := ⟨h2.1.trans h1.1, fun j x y => (h2.2.1 j x y).trans (h1.2.1 j x y), fun i x y => (h2.2.2 i x y).trans (h1.2.2 i x y)⟩
theorem tfm_sI {j i : Nat} {v : Int32} (hj : j = 1 ∨ (j = 0 ∧ (i = 0 ∨ (2 ≤ i ∧ i ≤ 5)))) : tfm m (sI m j i v) := by
  refine ⟨rfl, fun j' h0 h1 => va_up_ne _ _ (by omega), fun i' h0 h2 => ?_⟩
  rw [sI_1, if_neg (by omega)]
theorem R_tape (hR : R X m) (hx : ta.2 = (X 1).2) (hf : tfm m m') (hT : pTape ta (m'.1 1) (m'.1 0 2)) : R (va_up X 1 ta) m' := by
  obtain ⟨n, h, L, e, t, hp, hm, sr, hs, hP, -, hr⟩ := hR
  obtain ⟨f2, f1, f0⟩ := hf
  refine ⟨n, h, L, e, t, hp, hm, sr, ?_, ?_, hT, ?_⟩
  · show pStr n h L e t hp hm sr (X 5) (X 12) (X 23) (m'.1 2) (m'.2 5)
    rw [f2, f1 2 (by omega) (by omega)]
    exact hs
  · rw [f1 7 (by omega) (by omega), f0 23 (by omega) (by omega)]
    exact past_up hP (by omega)
  · unfold pRest at hr ⊢
    rw [f2, f1 16 (by omega) (by omega), f1 18 (by omega) (by omega), f1 11 (by omega) (by omega), f1 12 (by omega) (by omega), f1 13 (by omega) (by omega), f0 15 (by omega) (by omega), f0 25 (by omega) (by omega), f0 24 (by omega) (by omega), f0 31 (by omega) (by omega), f0 30 (by omega) (by omega), f0 29 (by omega) (by omega), f0 33 (by omega) (by omega), f0 37 (by omega) (by omega)]
    show pImg (X 52) (X 53) (X 60) (X 71) _ _ _ ∧ pImg (X 76) (X 77) (X 84) (X 95) _ _ _ ∧ pWds (ta.2 1) _ ∧ (X 0).1 0 12 = _ ∧ pOpt ((X 0).1 0 13) _ _ ∧ pOpt ((X 0).1 0 14) _ _ ∧ pChn (X 220) _ _ ∧ pLab (X 223) _ _ ∧ pTol (X 213) _ _
    rw [hx]
    exact hr
def tR (z : Nat) (ta m : Obj) : Prop := ta.1 0 1 = nI z ∧ m.1 0 2 = nI z ∧ ∀ i, i < z → ta.1 2 i = m.1 1 i ∧ isB (m.1 1 i)
theorem four_step {z : Nat} {b : Int32} (hz : z < 940) (hR : tR z ta m) (hb : isB b) : tR (z + 1) (sI (sI ta 2 z b) 0 1 (nI (z + 1))) (sI (sI m 1 z b) 0 2 (nI (z + 1))) := by
  obtain ⟨h1, h2, h3⟩ := hR
  refine ⟨?_, ?_, fun i hi => ?_⟩
  · rw [sI_1, if_pos ⟨rfl, rfl⟩]
  · rw [sI_1, if_pos ⟨rfl, rfl⟩]
  · show (if i = z then b else ta.1 2 i) = (if i = z then b else m.1 1 i) ∧ isB (if i = z then b else m.1 1 i)
    by_cases hiz : i = z
    · rw [if_pos hiz, if_pos hiz]
      exact ⟨rfl, hb⟩
    · rw [if_neg hiz, if_neg hiz]
      exact h3 i (by omega)
theorem four_both {z : Nat} (hz : z + 4 ≤ 940) (hR : tR z ta m) (v : Int32) : ∃ ta' m', fTa_addFour ta v = some ta' ∧ fMo_four m v = some m' ∧ tR (z + 4) ta' m' ∧ ta'.2 = ta.2 ∧ tfm m m' := by
  have st : ∀ (k : Nat) (ta m : Obj) (y : Nat), y < 940 → tR y ta m → ∃ ta' m', fTa_addFour_L3 v (nI k, ta) = some (.inl (nI k + -nI 8, ta')) ∧ fMo_four_L3 v (nI k, m) = some (.inl (nI k + -nI 8, m')) ∧ (k < 100 → tR (y + 1) ta' m' ∧ ta'.2 = ta.2 ∧ tfm m m') ∨ 100 ≤ k := fun k ta m y hy hz => by
    by_cases hk : k < 100
    · obtain ⟨h1, h2, h3⟩ := id hz
      have g := four_step hy hz (i2b_B (i2b (shr v (nI k))))
      refine ⟨_, _, Or.inl ⟨?_, ?_, fun _ => ⟨g, rfl, tfm_trans (tfm_sI (by omega)) (tfm_sI (by omega))⟩⟩⟩
      · unfold fTa_addFour_L3
        simp only [lit]
        have e1 : ∀ b, (sI ta 2 y b).1 0 1 = nI y := fun b => h1
        rw [if_neg (nI_lt0 (by omega)), h1, if_neg (by rw [nle (by omega) (by omega)]; omega), ix_nI (by omega) (by omega)]
        simp only [Option.bind_some, bnd, e1, nadd]
      · unfold fMo_four_L3
        simp only [lit]
        have e1 : ∀ b, (sI m 1 y b).1 0 2 = nI y := fun b => h2
        rw [if_neg (nI_lt0 (by omega)), h2, ix_nI (by omega) (by omega)]
        simp only [Option.bind_some, bnd, e1, nadd]
    · exact ⟨ta, m, Or.inr (by omega)⟩
  have st' : ∀ (k : Nat) (ta m : Obj) (y : Nat), k < 100 → y < 940 → tR y ta m → ∃ ta' m', fTa_addFour_L3 v (nI k, ta) = some (.inl (nI k + -nI 8, ta')) ∧ fMo_four_L3 v (nI k, m) = some (.inl (nI k + -nI 8, m')) ∧ tR (y + 1) ta' m' ∧ ta'.2 = ta.2 ∧ tfm m m' := fun k ta m y hk hy hz => by
    obtain ⟨ta', m', g⟩ := st k ta m y hy hz
    rcases g with ⟨g1, g2, g3⟩ | g
    · exact ⟨ta', m', g1, g2, g3 hk⟩
    · omega
  have a1 : nI 24 + -nI 8 = nI 16 := by decide +kernel
  have a2 : nI 16 + -nI 8 = nI 8 := by decide +kernel
  have a3 : nI 8 + -nI 8 = nI 0 := by decide +kernel
  have a4 : nI 0 + -nI 8 < nI 0 := by decide +kernel
  obtain ⟨t1, m1, b1, b2, b3, b4, b5⟩ := st' 24 ta m z (by omega) (by omega) hR
  obtain ⟨t2, m2, c1, c2, c3, c4, c5⟩ := st' 16 t1 m1 (z + 1) (by omega) (by omega) b3
  obtain ⟨t3, m3, d1, d2, d3, d4, d5⟩ := st' 8 t2 m2 (z + 2) (by omega) (by omega) c3
  obtain ⟨t4, m4, e1, e2, e3, e4, e5⟩ := st' 0 t3 m3 (z + 3) (by omega) (by omega) d3
  rw [a1] at b1 b2
  rw [a2] at c1 c2
  rw [a3] at d1 d2
  refine ⟨t4, m4, ?_, ?_, e3, e4.trans (d4.trans (c4.trans b4)), tfm_trans b5 (tfm_trans c5 (tfm_trans d5 e5))⟩
  · unfold fTa_addFour
    have : iter (fTa_addFour_L3 v) 5 (nI 24, ta) = some t4 := by
      rw [iter_s, b1]
      show iter (fTa_addFour_L3 v) 4 (nI 16, t1) = _
      rw [iter_s, c1]
      show iter (fTa_addFour_L3 v) 3 (nI 8, t2) = _
      rw [iter_s, d1]
      show iter (fTa_addFour_L3 v) 2 (nI 0, t3) = _
      rw [iter_s, e1]
      show iter (fTa_addFour_L3 v) 1 (nI 0 + -nI 8, t4) = _
      rw [iter_s]
      unfold fTa_addFour_L3
      simp only [lit]
      rw [if_pos a4]
      rfl
    simp only [lit, iter_FU this (by omega), Option.bind_some]
  · unfold fMo_four
    have : iter (fMo_four_L3 v) 5 (nI 24, m) = some m4 := by
      rw [iter_s, b2]
      show iter (fMo_four_L3 v) 4 (nI 16, m1) = _
      rw [iter_s, c2]
      show iter (fMo_four_L3 v) 3 (nI 8, m2) = _
      rw [iter_s, d2]
      show iter (fMo_four_L3 v) 2 (nI 0, m3) = _
      rw [iter_s, e2]
      show iter (fMo_four_L3 v) 1 (nI 0 + -nI 8, m4) = _
      rw [iter_s]
      unfold fMo_four_L3
      simp only [lit]
      rw [if_pos a4]
      rfl
    simp only [lit, iter_FU this (by omega), Option.bind_some]
theorem k_feed (hR : R X m) (v1 v2 v3 v4 v5 : Int32) : ∃ r X' m', fKL_feed X v1 v2 v3 v4 v5 = some (r, X') ∧ fMo_feed m v1 v2 v3 v4 v5 = some (r, m') ∧ R X' m' := by
  have hT : pTape (X 1) (m.1 1) (m.1 0 2) := by
    obtain ⟨n, h, L, e, t, hp, hm, sr, hs, hP, hT, hr⟩ := hR
    exact hT
  obtain ⟨z, h0, h1, h2, h3⟩ := hT
  have h2' : (sI m 0 0 (nI 0)).1 0 2 = nI z := h2
  unfold fKL_feed fMo_feed
  simp only [lit, bnd]
  rw [h1, h2', nadd]
  by_cases hz : z + 20 ≤ 940
  · rw [if_pos (by rw [nle (by omega) (by omega)]; omega), if_pos (by rw [nle (by omega) (by omega)]; omega)]
    obtain ⟨t1, m1, b1, b2, b3, b4, b5⟩ := four_both (z := z) (m := sI m 0 0 (nI 0)) (by omega) ⟨h1, h2', h3⟩ v1
    obtain ⟨t2, m2, c1, c2, c3, c4, c5⟩ := four_both (z := z + 4) (by omega) b3 v2
    obtain ⟨t3, m3, d1, d2, d3, d4, d5⟩ := four_both (z := z + 8) (by omega) c3 v3
    obtain ⟨t4, m4, e1, e2, e3, e4, e5⟩ := four_both (z := z + 12) (by omega) d3 v4
    obtain ⟨t5, m5, f1, f2, f3, f4, f5⟩ := four_both (z := z + 16) (by omega) e3 v5
    have u : ∀ (Y : Nat → Obj) (o : Obj), va_up Y 1 o 1 = o := fun Y o => by rw [va_up_at, if_pos rfl]
    simp only [b1, b2, c1, c2, d1, d2, e1, e2, f1, f2, u, xu_up, Option.bind_some]
    obtain ⟨g1, g2, g3⟩ := f3
    refine ⟨nI (z + 20), va_up X 1 t5, m5, by rw [g1], by rw [g2], R_tape hR ?_ (tfm_trans (tfm_sI (by omega)) (tfm_trans b5 (tfm_trans c5 (tfm_trans d5 (tfm_trans e5 f5))))) ⟨z + 20, hz, g1, g2, g3⟩⟩
    exact f4.trans (e4.trans (d4.trans (c4.trans b4)))
  · rw [if_neg (by rw [nle (by omega) (by omega)]; omega), if_neg (by rw [nle (by omega) (by omega)]; omega)]
    exact ⟨_, X, _, rfl, rfl, R_thr hR⟩
theorem k_end (hR : R X m) (v : Int32) : ∃ r X' m', fKL_end X v = some (r, X') ∧ fMo_end m v = some (r, m') ∧ R X' m' := by
  have hT : pTape (X 1) (m.1 1) (m.1 0 2) := by
    obtain ⟨n, h, L, e, t, hp, hm, sr, hs, hP, hT, hr⟩ := hR
    exact hT
  obtain ⟨z, h0, h1, h2, h3⟩ := hT
  have h2' : (sI m 0 0 (nI 0)).1 0 2 = nI z := h2
  unfold fKL_end fMo_end
  simp only [lit, bnd]
  rw [h1, h2']
  by_cases a1 : v < nI 0
  · rw [if_pos a1, if_pos a1]
    exact ⟨_, X, _, rfl, rfl, R_thr hR⟩
  · rw [if_neg a1, if_neg a1]
    by_cases a2 : v ≤ nI z
    · rw [if_pos a2, if_pos a2]
      obtain ⟨k, -, k2, rfl⟩ := in_rng (by omega) (by omega) a1 a2
      refine ⟨_, _, _, rfl, rfl, R_tape hR rfl (tfm_trans (tfm_sI (by omega)) (tfm_sI (by omega))) ⟨k, by omega, rfl, rfl, fun i hi => h3 i (by omega)⟩⟩
    · rw [if_neg a2, if_neg a2]
      exact ⟨_, X, _, rfl, rfl, R_thr hR⟩
theorem sm_le {f : Nat → Nat} {b : Nat} (hf : ∀ p, p < n → f p ≤ b) : sm n f ≤ b * n := by
  induction n with
  | zero => exact Nat.zero_le _
  | succ n ih =>
    show sm n f + f n ≤ b * (n + 1)
    have := ih (fun p hp => hf p (by omega))
    have := hf n (by omega)
    rw [Nat.mul_succ]
    omega
theorem k_mean (hR : R X m) (v : Int32) : ∃ z r m', fKL_mean X v = some z ∧ fMo_mean m v = some (r, m') ∧ R X m' ∧ ((z = .inl r ∧ m'.1 0 0 = nI 0) ∨ (z = .inr () ∧ m'.1 0 0 = nI 1)) := by
  have u1 : ¬ nI 1 = nI 0 := by decide +kernel
  have hR0 := R_thr (v := nI 0) hR
  have hR1 := R_thr (v := nI 1) hR
  obtain ⟨n, h, L, e, t, hp, hm, sr, ⟨hB, hC, hM, hN, ⟨S, hV, hS, hD, -⟩, -⟩, -⟩ := hR
  have hM0 : sQM n h L e t hp hm sr ((sI m 0 0 (nI 0)).1 2) := hM
  have hD0 : sSM n S (dOf (sI m 0 0 (nI 0))) := hD
  have b1 := hB.1
  have c4 := hC.1.2.2.2.2
  have c1 := hM.1.2.1
  have j1 : fMo_mean_J24 m v (nI 1) = some (nI 0, sI m 0 0 (nI 1)) := by
    unfold fMo_mean_J24 fMo_throwsIf
    simp only [lit, bnd]
    rw [if_neg u1]
    simp only [Option.bind_some, bz_1]
    rw [if_neg u1]
  unfold fKL_mean fMo_mean fMo_mean_J19
  simp only [lit, bnd]
  rw [c4, c1]
  by_cases hn : n = 0
  · rw [if_pos (by rw [nlt (by omega) (by omega)]; omega), if_pos (by rw [hn])]
    exact ⟨_, _, _, rfl, j1, hR1, Or.inr ⟨rfl, by rw [sI_1, if_pos ⟨rfl, rfl⟩]⟩⟩
  · have v1 : ¬ nI n < nI 1 := by rw [nlt (by omega) (by omega)]; omega
    have v2 : ¬ nI n = nI 0 := by rw [neq (by omega) (by omega)]; exact hn
    rw [if_neg v1, if_neg v2]
    by_cases a1 : v < nI 0
    · rw [if_pos a1, isIn_no (Or.inl a1)]
      exact ⟨_, _, _, rfl, j1, hR1, Or.inr ⟨rfl, by rw [sI_1, if_pos ⟨rfl, rfl⟩]⟩⟩
    · by_cases a2 : v ≤ nI 1
      · rw [if_neg a1, if_pos a2, isIn_yes a1 a2, sc_known hB hC hV hS]
        have hk : ksum n S < 65 := by
          have := sm_le (n := n) (f := fun p => pcnt (S 8 p)) (b := 8) (fun p hp => pcnt_le (hV.2.2.1 p hp).1.2.2.2.2.2.1)
          unfold ksum
          omega
        obtain ⟨g1, g2, g3, g4⟩ := gcd_all (b := n) (by omega) (by omega) hk
        have g5 : fKL_commonDivisor (nI (ksum n S)) (nI n) = some (nI (Nat.gcd (ksum n S) n)) := by
          unfold fKL_commonDivisor
          rw [iter_FU g1 (by omega)]
          unfold gcdE
          by_cases hg : Nat.gcd (ksum n S) n = 1
          · rw [if_pos hg, hg]; rfl
          · rw [if_neg hg]; rfl
        have e1 : (sI m 0 0 (nI 0)).1 2 1 = nI n := c1
        simp only [Option.bind_some, u1, if_false, g5]
        unfold fMo_mean_J24 fMo_throwsIf nz
        simp only [lit, bnd, if_true, Option.bind_some, bz_0, mo_known hB hM0 hV hD0, e1, iter_FU g2 (show 12 ≤ 2000 by omega)]
        have v3 : ¬ nI ((ksum n S).gcd n) = nI 0 := by rw [neq (by omega) (by omega)]; omega
        have v4 : nI 1 ≤ nI ((ksum n S).gcd n) := by rw [nle (by omega) (by omega)]; omega
        simp only [v3, v4, if_true, if_false, Option.bind_some]
        by_cases a3 : v = nI 0
        · rw [if_pos a3, if_pos a3]
          exact ⟨_, _, _, rfl, rfl, hR0, Or.inl ⟨rfl, by rw [sI_1, if_pos ⟨rfl, rfl⟩]⟩⟩
        · rw [if_neg a3, if_neg a3]
          exact ⟨_, _, _, rfl, rfl, hR0, Or.inl ⟨rfl, by rw [sI_1, if_pos ⟨rfl, rfl⟩]⟩⟩
      · rw [if_neg a1, if_neg a2, isIn_no (Or.inr a2)]
        exact ⟨_, _, _, rfl, j1, hR1, Or.inr ⟨rfl, by rw [sI_1, if_pos ⟨rfl, rfl⟩]⟩⟩
end
