/-- the reference's row of distances, all else as it was -/
def oR (m x : Obj) (o : Nat → Nat) : Prop := x.2 = m.2 ∧ (∀ j, j ≠ 10 → x.1 j = m.1 j) ∧ ∀ p, p < 8 → x.1 10 p = nI (o p)
section
variable {X X' X1 : Nat → Obj} {n h L e t : Nat} {hp hm : Nat → Nat} {sr : Nat → Bool} {q m m' m0 m1 sc sc0 sc2 ta ch ch' : Obj} {S S' : Nat → Nat → Nat} {T : Nat} {B : Nat → Nat}
theorem cc_in (hn : n ≤ 8) (hV : sSV n h L hp S) (c1 : m.1 2 1 = nI n) (d8 : ∀ p, p < n → m.1 2 (113 + p) = nI (S 8 p)) {b r k : Nat} (hb : b < n) (hk : k < n) {x : Obj} (hx : ∃ o, oR m x o ∧ offA n S b o ∧ offC n S b r o ∧ ∀ p, p < k → (lay n S b (r + 1)).testBit p = true → o p ≤ r + 1) : ∃ x', iter (fMo_chain_L80 (nI k)) FU (nI 0, x) = some x' ∧ ∃ o, oR m x' o ∧ offA n S b o ∧ offC n S b r o ∧ ∀ p, p < k + 1 → (lay n S b (r + 1)).testBit p = true → o p ≤ r + 1 := by
  have hg := gr_of hn hV
  have u1 : ¬ nI 1 = nI 0 := by decide +kernel
  have key := lpo (f := fMo_chain_L80 (nI k)) (J := fun i x => ∃ o, oR m x o ∧ offA n S b o ∧ offC n S b r o ∧ (∀ p, p < k → (lay n S b (r + 1)).testBit p = true → o p ≤ r + 1) ∧ ∀ i', i' < i → (S 8 k).testBit i' = true → (lay n S b r).testBit i' = true → o k ≤ r + 1) n (by omega) (x := x) ?_ (fun i x hi hz => ?_) (fun x hz => ?_)
  · obtain ⟨x', g1, o, g2, g3, g4, g5, g6⟩ := key
    refine ⟨x', g1, o, g2, g3, g4, fun p hp hl => ?_⟩
    by_cases hpk : p = k
    · subst hpk
      obtain ⟨i, h1, h2, h3⟩ := (lay_s hg hb).mp hl
      exact g6 i h1 (by rw [hg.2.2 p i hk h1]; exact h3) h2
    · exact g5 p (by omega) hl
  · obtain ⟨o, h1, h2, h3, h4⟩ := hx
    exact ⟨o, h1, h2, h3, h4, fun i hi => absurd hi (by omega)⟩
  · obtain ⟨o, ⟨f2, f1, f10⟩, hA, hC, hP, hQ⟩ := hz
    have x2 := f1 2 (by omega)
    have v8 := (hV.2.2.1 k hk).1.2.2.2.2.2.1
    have hbt := bitOf_n (a := S 8 k) (p := i) (by omega) (by omega)
    have a1 := hA i (by omega)
    have a2 := hA k (by omega)
    have l1 : fMo_chain_L80 (nI k) (nI i, x) = some (.inl (nI (i + 1), if (S 8 k).testBit i = true ∧ o i + 1 < o k then sI x 10 k (nI (o i + 1)) else x)) := by
      unfold fMo_chain_L80
      simp only [lit, nadd]
      rw [x2, c1, if_neg (by rw [nle (by omega) (by omega)]; omega), ix_nI (by omega) (by omega)]
      simp only [Option.bind_some]
      rw [d8 k hk, hbt]
      simp only [Option.bind_some]
      cases hbb : (S 8 k).testBit i
      · simp only [Bool.false_eq_true, if_false, if_true, false_and]
      · simp only [if_true, u1, if_false, true_and]
        rw [ix_nI (by omega) (by omega), ix_nI (by omega) (by omega)]
        simp only [Option.bind_some, bnd]
        rw [f10 k (by omega), f10 i (by omega), nadd]
        by_cases hlt : o i + 1 < o k
        · rw [if_neg (by rw [nle (by omega) (by omega)]; omega), if_pos hlt]
        · rw [if_pos (by rw [nle (by omega) (by omega)]; omega), if_neg hlt]
    refine ⟨_, l1, rlx S o k i, ?_, rlx_A hg hb hk hi hA, rlx_C hC, fun p hpk hl => Nat.le_trans rlx_le (hP p hpk hl), fun i' hi' hK hl => ?_⟩
    · unfold rlx
      by_cases hc : (S 8 k).testBit i = true ∧ o i + 1 < o k
      · rw [if_pos hc, if_pos hc]
        refine ⟨f2, fun j hj => (va_up_ne _ _ hj).trans (f1 j hj), fun p hp => ?_⟩
        rw [sI_1, va_up_at]
        by_cases hpk : p = k
        · rw [if_pos ⟨rfl, hpk⟩, if_pos hpk]
        · rw [if_neg (fun z => hpk z.2), if_neg hpk]
          exact f10 p hp
      · rw [if_neg hc, if_neg hc]
        exact ⟨f2, f1, f10⟩
    · by_cases hii : i' = i
      · subst hii
        exact rlx_to hC hK hl
      · exact Nat.le_trans rlx_le (hQ i' (by omega) hK hl)
  · obtain ⟨o, ⟨f2, f1, f10⟩, -⟩ := hz
    unfold fMo_chain_L80
    simp only [lit]
    rw [f1 2 (by omega), c1, if_pos (by rw [nle (by omega) (by omega)]; omega)]
theorem cc_all (hn : n ≤ 8) (hV : sSV n h L hp S) (c1 : m.1 2 1 = nI n) (d8 : ∀ p, p < n → m.1 2 (113 + p) = nI (S 8 p)) {b : Nat} (hb : b < n) {x : Obj} (hx : ∃ o, oR m x o ∧ offA n S b o ∧ offC n S b 0 o) : ∃ x', iter fMo_chain_L57 FU (nI 0, x) = some x' ∧ ∃ o, oR m x' o ∧ offA n S b o ∧ offC n S b 8 o := by
  have hg := gr_of hn hV
  refine lpo (f := fMo_chain_L57) (J := fun r x => ∃ o, oR m x o ∧ offA n S b o ∧ offC n S b r o) 8 (by omega) hx (fun r x hr hz => ?_) (fun x hz => ?_)
  · have key := lpo (f := fMo_chain_L66) (J := fun k x => ∃ o, oR m x o ∧ offA n S b o ∧ offC n S b r o ∧ ∀ p, p < k → (lay n S b (r + 1)).testBit p = true → o p ≤ r + 1) n (by omega) (x := x) ?_ (fun k x hk hz => ?_) (fun x hz => ?_)
    · obtain ⟨x', g1, o, g2, g3, g4, g5⟩ := key
      refine ⟨x', ?_, o, g2, g3, fun d hd p hl => ?_⟩
      · unfold fMo_chain_L57
        simp only [lit, nadd]
        rw [if_neg (by rw [nle (by omega) (by omega)]; omega), g1]
        rfl
      · by_cases hdr : d = r + 1
        · subst hdr
          exact g5 p (lay_n hg hb hl) hl
        · exact g4 d (by omega) p hl
    · obtain ⟨o, h1, h2, h3⟩ := hz
      exact ⟨o, h1, h2, h3, fun p hp => absurd hp (by omega)⟩
    · obtain ⟨x', g1, g2⟩ := cc_in hn hV c1 d8 hb hk hz
      refine ⟨x', ?_, g2⟩
      obtain ⟨o, ⟨f2, f1, f10⟩, -⟩ := hz
      unfold fMo_chain_L66
      simp only [lit, nadd]
      rw [f1 2 (by omega), c1, if_neg (by rw [nle (by omega) (by omega)]; omega), g1]
      rfl
    · obtain ⟨o, ⟨f2, f1, f10⟩, -⟩ := hz
      unfold fMo_chain_L66
      simp only [lit]
      rw [f1 2 (by omega), c1, if_pos (by rw [nle (by omega) (by omega)]; omega)]
  · unfold fMo_chain_L57
    simp only [lit]
    rw [if_pos (by rw [nle (by omega) (by omega)]; omega)]
theorem cc_init (hn : n ≤ 8) (hV : sSV n h L hp S) {b : Nat} (hb : b < n) : ∃ x', iter (fMo_chain_L25 (nI b)) FU (nI 0, m) = some x' ∧ ∃ o, oR m x' o ∧ offA n S b o ∧ offC n S b 0 o := by
  have key := lpo (f := fMo_chain_L25 (nI b)) (J := fun k x => x.2 = m.2 ∧ (∀ j, j ≠ 10 → x.1 j = m.1 j) ∧ ∀ p, p < k → x.1 10 p = nI (if p = b then 0 else 1000000)) 8 (by omega) (x := m) ⟨rfl, fun _ _ => rfl, fun p hp => absurd hp (by omega)⟩ (fun k x hk hz => ?_) (fun x hz => ?_)
  · obtain ⟨x', g1, g2, g3, g4⟩ := key
    refine ⟨x', g1, fun p => if p = b then 0 else 1000000, ⟨g2, g3, g4⟩, fun p hp => ⟨?_, fun hl => ?_⟩, fun d hd p hl => ?_⟩
    · show (if p = b then 0 else 1000000) ≤ 1000000
      split <;> omega
    · have hpb : p = b := by
        rcases Nat.decEq p b with h | h
        · have : (if p = b then 0 else 1000000) = 1000000 := if_neg h
          have hl' : (if p = b then 0 else 1000000) < 1000000 := hl
          omega
        · exact h
      subst hpb
      refine ⟨hb, ?_⟩
      show (lay n S p (if p = p then 0 else 1000000)).testBit p = true
      rw [if_pos rfl]
      show (2 ^ p).testBit p = true
      rw [Nat.testBit_two_pow]; exact decide_eq_true rfl
    · have hd0 : d = 0 := by omega
      subst hd0
      have hl' : (2 ^ b).testBit p = true := hl
      rw [Nat.testBit_two_pow] at hl'
      have := of_decide_eq_true hl'
      show (if p = b then 0 else 1000000) ≤ 0
      rw [if_pos this.symm]; exact Nat.le_refl _
  · obtain ⟨f2, f1, f10⟩ := hz
    have l1 : fMo_chain_L25 (nI b) (nI k, x) = some (.inl (nI (k + 1), sI x 10 k (nI (if k = b then 0 else 1000000)))) := by
      unfold fMo_chain_L25
      simp only [lit, nadd]
      rw [if_neg (by rw [nle (by omega) (by omega)]; omega), ix_nI (by omega) (by omega)]
      simp only [Option.bind_some, bnd]
      by_cases hkb : k = b
      · rw [if_pos (by rw [hkb]), if_pos hkb]
      · rw [if_neg (by rw [neq (by omega) (by omega)]; exact hkb), if_neg hkb]
    refine ⟨_, l1, f2, fun j hj => (va_up_ne _ _ hj).trans (f1 j hj), fun p hp => ?_⟩
    rw [sI_1]
    by_cases hpk : p = k
    · rw [if_pos ⟨rfl, hpk⟩, hpk]
    · rw [if_neg (fun z => hpk z.2)]
      exact f10 p (by omega)
  · unfold fMo_chain_L25
    simp only [lit]
    rw [if_pos (by rw [nle (by omega) (by omega)]; omega)]
theorem cc_row (hn : n ≤ 8) (hV : sSV n h L hp S) {x : Obj} (d8 : ∀ p, p < n → x.1 2 (113 + p) = nI (S 8 p)) {b c d s : Nat} (hb : b < n) (hc : c < n) (h1 : (lay n S b d).testBit c = true) (h2 : ∀ i, i < d → (lay n S b i).testBit c = false) {o : Nat → Nat} (hx : ∀ p, p < 8 → x.1 10 p = nI (o p)) (hA : offA n S b o) (hC : offC n S b 8 o) (hd : d ≤ 7) (hs : s < d) (h11 : x.1 11 s = nI (rowf n S b d c s)) : iter (fMo_chain_L197 x (nI d) (nI (s + 1))) FU (nI 0) = some (nI (rowf n S b d c (s + 1))) := by
  have hg := gr_of hn hV
  have u1 : ¬ nI 1 = nI 0 := by decide +kernel
  obtain ⟨g1, g2, g3, g4⟩ := row_ok hg hb hc h1 h2 s (by omega)
  obtain ⟨k, j1, j2, j3, j4⟩ := g4 hs
  have er : rowf n S b d c (s + 1) = k := by
    show (fi _ 8).getD 0 = k
    rw [j2]; rfl
  rw [er]
  have hkn := lay_n hg hb j4
  have v8 := (hV.2.2.1 _ g1).1.2.2.2.2.2.1
  have hst : ∀ a, a < 8 → fMo_chain_L197 x (nI d) (nI (s + 1)) (nI a) = some (if (S 8 (rowf n S b d c s)).testBit a = true ∧ (lay n S b (d - s - 1)).testBit a = true then .inr (nI a) else .inl (nI (a + 1))) := fun a ha => by
    have hbt := bitOf_n (a := S 8 (rowf n S b d c s)) (p := a) (by omega) (by omega)
    unfold fMo_chain_L197
    simp only [lit, nadd]
    rw [nsub (by omega), Nat.add_sub_cancel, ix_nI (by omega) (by omega)]
    simp only [Option.bind_some]
    rw [h11, nadd, ix_nI (by omega) (by omega)]
    simp only [Option.bind_some]
    rw [d8 _ g1, hbt]
    simp only [Option.bind_some]
    cases hbb : (S 8 (rowf n S b d c s)).testBit a
    · simp only [Bool.false_eq_true, if_false, if_true, false_and]
    · have han : a < n := by
        rcases Nat.lt_or_ge a n with h | h
        · exact h
        · rw [(hV.2.2.1 _ g1).2.2.1 a h] at hbb; cases hbb
      simp only [if_true, u1, if_false, true_and]
      rw [ix_nI (by omega) (by omega)]
      simp only [Option.bind_some]
      have ha1 := hA a (by omega)
      rw [hx a (by omega), nsub (by omega)]
      have hro := row_off hg hb hc h1 h2 hA hC hd hs han hbb
      by_cases hl : (lay n S b (d - s - 1)).testBit a = true
      · rw [if_pos hl, if_pos (by rw [hro.mpr hl])]
      · rw [if_neg hl, if_neg (by rw [neq (by omega) (by omega)]; exact fun z => hl (hro.mp z))]
  have hlow : ∀ j, j < k → ¬ ((S 8 (rowf n S b d c s)).testBit j = true ∧ (lay n S b (d - s - 1)).testBit j = true) := fun j hj hz => by
    rcases fi_cases (fun k => (S 8 (rowf n S b d c s)).testBit k && (lay n S b (d - s - 1)).testBit k) 8 with ⟨f1, -⟩ | ⟨k', f1, f2, f3, f4⟩
    · rw [f1] at j2; cases j2
    · rw [f4] at j2
      have : k' = k := Option.some.inj j2
      subst this
      have h0 : ((S 8 (rowf n S b d c s)).testBit j && (lay n S b (d - s - 1)).testBit j) = false := f3 j hj
      rw [hz.1, hz.2] at h0
      cases h0
  refine iter_F (f := fMo_chain_L197 x (nI d) (nI (s + 1))) (F := fun i => nI i) (nI k) k (by omega) (fun i hi => ?_) ?_
  · rw [hst i (by omega), if_neg (hlow i hi)]
  · rw [hst k j1, if_pos ⟨j3, j4⟩]
theorem R_chain (hR : R X m) (hf : cf m m') (hc : pChn ch' (m'.1 0 29) (m'.1 11)) : R (va_up X 220 ch') m' := by
  obtain ⟨n, h, L, e, t, hp, hm, sr, hs, hP, hT, hI0, hI1, hW, hF, hTh, hAs, hCh, hr⟩ := hR
  obtain ⟨f2, f1, f0⟩ := hf
  refine ⟨n, h, L, e, t, hp, hm, sr, ?_, ?_, ?_, ?_, ?_, ?_, ?_, ?_, ?_, hc, ?_⟩
  · rw [f2, f1 2 (by omega) (by omega) (by omega)]; exact hs
  · rw [f1 7 (by omega) (by omega) (by omega), f0 23 (by omega) (by omega)]; exact past_up hP (by omega)
  · rw [f1 1 (by omega) (by omega) (by omega), f0 2 (by omega) (by omega)]; exact hT
  · rw [f2, f1 16 (by omega) (by omega) (by omega), f1 18 (by omega) (by omega) (by omega)]; exact hI0
  · rw [f2, f1 16 (by omega) (by omega) (by omega), f1 18 (by omega) (by omega) (by omega)]; exact hI1
  · rw [f2]; exact hW
  · rw [f0 15 (by omega) (by omega)]; exact hF
  · rw [f0 25 (by omega) (by omega), f0 24 (by omega) (by omega)]; exact hTh
  · rw [f0 31 (by omega) (by omega), f0 30 (by omega) (by omega)]; exact hAs
  · rw [f1 12 (by omega) (by omega) (by omega), f1 13 (by omega) (by omega) (by omega), f0 33 (by omega) (by omega), f0 37 (by omega) (by omega)]; exact hr
theorem k_chain (hR : R X m) (v w : Int32) : ∃ r X' m', fKL_chain X v w = some (r, X') ∧ fMo_chain m v w = some (r, m') ∧ R X' m' := by
  have hR1 := R_thr (v := nI 0) hR
  have u1 : ¬ nI 1 = nI 0 := by decide +kernel
  have hs' : ∃ n h L e t hp hm sr S, sQB n h L e t hp hm ∧ sQC n h L e t hp hm sr (X 5) ∧ sQM n h L e t hp hm sr ((sI m 0 0 (nI 0)).1 2) ∧ sSV n h L hp S ∧ sSC n S (X 12) ∧ sSM n S (dOf (sI m 0 0 (nI 0))) ∧ pChn (X 220) (m.1 0 29) (m.1 11) := by
    obtain ⟨n, h, L, e, t, hp, hm, sr, ⟨hB, hC, hM, hN, ⟨S, hV, hS, hD, -⟩, -⟩, -, -, -, -, -, -, -, -, hCh, -⟩ := hR
    exact ⟨n, h, L, e, t, hp, hm, sr, S, hB, hC, hM, hV, hS, hD, hCh⟩
  obtain ⟨n, h, L, e, t, hp, hm, sr, S, hB, hC, hM, hV, hS, hD, hCh⟩ := hs'
  have b1 := hB.1
  have hg := gr_of b1 hV
  rcases isP_or v n with ⟨c, hc, rfl⟩ | hv
  · rcases isP_or w n with ⟨b, hb, rfl⟩ | hw
    · obtain ⟨d, ch1, y1, y2, y3, y4, y5, y6, y7⟩ := ch_layers (ch := X 220) hB hC hV hS hb hc
      have hl := lay_lt hg (d := d) hb
      have hbt := hasBit_n (a := lay n S b d) (p := c) (by omega) (by omega)
      have c1 := hM.1.2.1
      have d8 : ∀ p, p < n → (sI m 0 0 (nI 0)).1 2 (113 + p) = nI (S 8 p) := fun p hp => ((sSM_live hD).2.2 p hp).2.2.2.2.2.1
      obtain ⟨x1, z1, z2⟩ := cc_init (m := sI m 0 0 (nI 0)) b1 hV hb
      obtain ⟨x2, z3, o, ⟨o2, o1, o10⟩, oA, oC⟩ := cc_all b1 hV c1 d8 hb z2
      have lC : fKL_chain X (nI c) (nI b) = if (lay n S b d).testBit c then (fCh_walk (X 5) (X 12) ch1 (nI c) (nI d)).bind fun r11 => some (nI d, va_up X 220 r11) else some (-nI 1, va_up X 220 ch1) := by
        unfold fKL_chain fCh_find
        simp only [lit]
        rw [qu_hasP hB hC hc, qu_hasP hB hC hb]
        simp only [Option.bind_some, u1, if_false, bnd]
        rw [shl_1 (by omega), y1]
        simp only [Option.bind_some]
        rw [ix_nI (by omega) (by omega)]
        simp only [Option.bind_some]
        rw [y3 d (by omega), hbt]
        simp only [Option.bind_some]
        cases (lay n S b d).testBit c
        · rfl
        · simp only [if_true, u1, if_false]
          cases fCh_walk (X 5) (X 12) ch1 (nI c) (nI d) <;> rfl
      have lM : fMo_chain m (nI c) (nI b) = if x2.1 10 c < nI 1000000 then (iter (fMo_chain_L188 (x2.1 10 c)) FU (nI 1, sI x2 11 0 (nI c))).bind fun e29 => some (x2.1 10 c, sI e29 0 29 (x2.1 10 c + nI 1)) else some (-nI 1, x2) := by
        unfold fMo_chain
        simp only [lit, bnd]
        rw [mo_isP hB hM hc, mo_isP hB hM hb]
        simp only [Option.bind_some, u1, if_false]
        rw [z1]
        simp only [Option.bind_some]
        rw [z3]
        simp only [Option.bind_some]
        rw [ix_nI (by omega) (by omega)]
        rfl
      rw [o10 c (by omega)] at lM
      rcases off_end hg hb oA oC hc with ⟨e1, e2⟩ | ⟨e1, e2, e3⟩
      · rw [e2 d, if_neg (by decide)] at lC
        rw [e1, if_neg (by decide +kernel)] at lM
        refine ⟨-nI 1, _, x2, lC, lM, R_chain hR ⟨o2, fun j a b c => ?_, fun i a b => ?_⟩ ?_⟩
        · rw [o1 j b]; exact va_up_ne _ _ a
        · rw [o1 0 (by omega), sI_1, if_neg (by omega)]
        · have g1 : x2.1 0 29 = m.1 0 29 := by rw [o1 0 (by omega)]; rfl
          have g2 : x2.1 11 = m.1 11 := by rw [o1 11 (by omega)]; rfl
          rw [g1, g2]
          unfold pChn
          rw [y4, y5]
          exact hCh
      · have hdo : d = o c := by
          rcases Nat.lt_trichotomy d (o c) with h | h | h
          · rcases y6 with y6 | y6
            · rw [e3 d h] at y6; cases y6
            · omega
          · exact h
          · rw [y7 (o c) h] at e2; cases e2
        rw [← hdo] at e1 e2 e3 lM
        rw [e2, if_pos rfl] at lC
        rw [if_pos (by rw [nlt (by omega) (by omega)]; omega)] at lM
        obtain ⟨ch2, w1, w2, w3⟩ := ch_walk hB hC hV hS hb hc e1 y3 e2 y7
        rw [w1, Option.bind_some] at lC
        have x22 := o1 2 (by omega)
        have key := iter_I (f := fMo_chain_L188 (nI d)) (I := fun s a => ∃ x, a = (nI (s + 1), x) ∧ x.2 = m.2 ∧ (∀ j, j ≠ 11 → x.1 j = x2.1 j) ∧ ∀ i, i ≤ s → x.1 11 i = nI (rowf n S b d c i)) (E := fun x => x.2 = m.2 ∧ (∀ j, j ≠ 11 → x.1 j = x2.1 j) ∧ ∀ i, i ≤ d → x.1 11 i = nI (rowf n S b d c i)) d (by omega) (a := (nI 1, sI x2 11 0 (nI c))) ⟨_, rfl, o2, fun j hj => va_up_ne _ _ hj, fun i hi => ?_⟩ (fun s a hs hz => ?_) (fun a hz => ?_)
        · obtain ⟨x3, k1, k2, k3, k4⟩ := key
          rw [k1, Option.bind_some, nadd] at lM
          refine ⟨nI d, _, _, lC, lM, R_chain hR ⟨k2, fun j a b c => ?_, fun i a b => ?_⟩ (Or.inr ⟨d + 1, by omega, w2, ?_, fun k hk => ?_⟩)⟩
          · show va_up x3.1 0 _ j = _
            rw [va_up_ne _ _ a, k3 j c, o1 j b]
            exact va_up_ne _ _ a
          · rw [sI_1, if_neg (by omega), k3 0 (by omega), o1 0 (by omega), sI_1, if_neg (by omega)]
          · rw [sI_1, if_pos ⟨rfl, rfl⟩]
          · show _ = x3.1 11 k
            rw [w3 k (by omega), k4 k (by omega)]
        · have : i = 0 := by omega
          subst this
          rw [sI_1, if_pos ⟨rfl, rfl⟩]; rfl
        · obtain ⟨x, rfl, f2, f1, f11⟩ := hz
          left
          have hrow := cc_row (x := x) (s := s) b1 hV (fun p hp => by rw [f1 2 (by omega), x22]; exact d8 p hp) hb hc e2 y7 (fun p hp => by rw [f1 10 (by omega)]; exact o10 p hp) oA oC e1 hs (f11 s (by omega))
          refine ⟨(nI (s + 2), sI x 11 (s + 1) (nI (rowf n S b d c (s + 1)))), ?_, _, rfl, f2, fun j hj => (va_up_ne _ _ hj).trans (f1 j hj), fun i hi => ?_⟩
          · unfold fMo_chain_L188
            simp only [lit, nadd]
            rw [if_neg (by rw [nlt (by omega) (by omega)]; omega), hrow, ix_nI (by omega) (by omega)]
            rfl
          · rw [sI_1]
            by_cases his : i = s + 1
            · rw [if_pos ⟨rfl, his⟩, his]
            · rw [if_neg (fun z => his z.2)]; exact f11 i (by omega)
        · obtain ⟨x, rfl, f2, f1, f11⟩ := hz
          refine ⟨x, ?_, f2, f1, f11⟩
          unfold fMo_chain_L188
          rw [if_pos (by rw [nlt (by omega) (by omega)]; omega)]
    · unfold fKL_chain fMo_chain
      simp only [lit, bnd, qu_hasP hB hC hc, qu_hasP0 hB hC hw, mo_isP hB hM hc, mo_isP0 hB hM hw, Option.bind_some, u1, if_false, if_true]
      exact ⟨_, X, _, rfl, rfl, hR1⟩
  · unfold fKL_chain fMo_chain
    simp only [lit, bnd, qu_hasP0 hB hC hv, mo_isP0 hB hM hv, Option.bind_some, if_true]
    exact ⟨_, X, _, rfl, rfl, hR1⟩
end
