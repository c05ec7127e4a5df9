theorem d10 : ∀ a, a < 20 → nI 48 + nI a / nI 10 = nI (48 + a / 10) ∧ nI 48 + irm (nI a) (nI 10) = nI (48 + a % 10) := by decide +kernel
def dgs (a : Nat) : List Nat := if a < 10 then [48 + a % 10] else [48 + a / 10] ++ [48 + a % 10]
section
variable {X : Nat → Obj} {n h L e t : Nat} {hp hm : Nat → Nat} {sr : Nat → Bool} {q m m' sc la la' ta : Obj} {S : Nat → Nat → Nat} {W : List Nat}
theorem mo_say (h : moS W m) {l : List Nat} (hl : lok l) (h1 : 1 ≤ l.length) (h8 : l.length ≤ 8) (hL : W.length + l.length < 40) : ∃ m', fMo_says m (kw8 l) = some m' ∧ moS (W ++ ([32] ++ l.map (· + 96))) m' ∧ fT m m' := by
  obtain ⟨m1, a1, a2, a3⟩ := mo_lay h (by omega) (c := 32) (by omega)
  obtain ⟨m2, b1, b2, b3⟩ := mo_word a2 hl h1 h8 (by rw [List.length_append]; show W.length + 1 + l.length ≤ 40; omega)
  refine ⟨m2, ?_, ?_, fT_trans a3 b3⟩
  · unfold fMo_says
    simp only [lit]
    rw [a1, Option.bind_some, b1]
    rfl
  · rw [← List.append_assoc]; exact b2
theorem la_digits (h : laS W la) {a : Nat} (ha : a < 20) (hL : W.length + 2 ≤ 32) : ∃ la', fLa_addDigits la (nI a) = some la' ∧ laS (W ++ dgs a) la' := by
  obtain ⟨e1, e2⟩ := d10 a ha
  unfold fLa_addDigits fLa_addDigits_J17 dgs
  simp only [lit]
  rw [e1, e2]
  by_cases h10 : a < 10
  · rw [if_pos (by rw [nlt (by omega) (by omega)]; exact h10), if_pos h10]
    obtain ⟨x, g1, g2⟩ := la_add h (by omega) (c := 48 + a % 10) (by omega)
    rw [g1]
    exact ⟨x, rfl, g2⟩
  · rw [if_neg (by rw [nlt (by omega) (by omega)]; exact h10), if_neg h10]
    obtain ⟨x, g1, g2⟩ := la_add h (by omega) (c := 48 + a / 10) (by omega)
    obtain ⟨y, g3, g4⟩ := la_add g2 (by rw [List.length_append]; show W.length + 1 < 32; omega) (c := 48 + a % 10) (by omega)
    rw [g1, Option.bind_some, g3]
    exact ⟨y, rfl, by rw [← List.append_assoc]; exact g4⟩
theorem kws_ok : ∀ w, w < 29 → lok (kws.getD w []) ∧ 1 ≤ (kws.getD w []).length ∧ (kws.getD w []).length ≤ 8 := by
  have : ∀ w, w < 29 → (kws.getD w []).all (fun x => decide (1 ≤ x ∧ x ≤ 26)) = true ∧ 1 ≤ (kws.getD w []).length ∧ (kws.getD w []).length ≤ 8 := by decide +kernel
  intro w hw
  obtain ⟨h1, h2⟩ := this w hw
  refine ⟨fun x hx => ?_, h2⟩
  exact of_decide_eq_true (List.all_eq_true.mp h1 x hx)
theorem chs_app {a b : List Nat} (h1 : chs a) (h2 : chs b) : chs (a ++ b) := fun c hc => (List.mem_append.mp hc).elim (h1 c) (h2 c)
theorem chs_map {l : List Nat} (h : lok l) : chs (l.map (· + 96)) := fun c hc => by
  obtain ⟨x, hx, rfl⟩ := List.mem_map.mp hc
  have := h x hx
  omega
theorem pLab_of {F : List Nat} (h1 : laS F la) (h2 : moS F m) (hc : chs F) (hl : F.length ≤ 32) : pLab la (m.1 0 33) (m.1 12) := by
  refine ⟨F.length, hl, h1.1, h2.1, fun k hk => ?_⟩
  rw [h1.2 k hk, h2.2 k hk]
  exact ⟨rfl, _, hc _ (getD_mem hk), rfl⟩
theorem R_tag (hR : R X m) (hf : fT m m') (hl : pLab la' (m'.1 0 33) (m'.1 12)) : R (va_up X 223 la') m' := by
  obtain ⟨n, h, L, e, t, hp, hm, sr, hs, hP, hT, hI0, hI1, hW, hF, hTh, hAs, hCh, hLa, hTo⟩ := hR
  obtain ⟨f2, f1, f0⟩ := hf
  refine ⟨n, h, L, e, t, hp, hm, sr, ?_, ?_, ?_, ?_, ?_, ?_, ?_, ?_, ?_, ?_, hl, ?_⟩
  · rw [f2, f1 2 (by omega) (by omega)]; exact hs
  · rw [f1 7 (by omega) (by omega), f0 23 (by omega) (by omega)]; exact past_up hP (by omega)
  · rw [f1 1 (by omega) (by omega), f0 2 (by omega) (by omega)]; exact hT
  · rw [f2, f1 16 (by omega) (by omega), f1 18 (by omega) (by omega)]; exact hI0
  · rw [f2, f1 16 (by omega) (by omega), f1 18 (by omega) (by omega)]; exact hI1
  · rw [f2]; exact hW
  · rw [f0 15 (by omega) (by omega)]; exact hF
  · rw [f0 25 (by omega) (by omega), f0 24 (by omega) (by omega)]; exact hTh
  · rw [f0 31 (by omega) (by omega), f0 30 (by omega) (by omega)]; exact hAs
  · rw [f0 29 (by omega) (by omega), f1 11 (by omega) (by omega)]; exact hCh
  · rw [f0 37 (by omega) (by omega), f1 13 (by omega) (by omega)]; exact hTo
theorem sc_det (hB : sQB n h L e t hp hm) (hC : sQC n h L e t hp hm sr q) (hV : sSV n h L hp S) (hS : sSC n S sc) {p : Nat} (hpn : p < n) : fSc_detail q sc (nI p) (nI 1) = some (nI (S 4 p)) ∧ fSc_detail q sc (nI p) (nI 2) = some (nI (S 5 p)) ∧ fSc_detail q sc (nI p) (nI 3) = some (nI (S 6 p) - nI 1) := by
  have b1 := hB.1
  have u1 : ¬ nI 1 = nI 0 := by decide +kernel
  obtain ⟨r3, r4, r5, r6, r7, r8, r9, r10⟩ := hS.2.2 p hpn
  refine ⟨?_, ?_, ?_⟩
  all_goals
    unfold fSc_detail
    simp only [lit, if_true]
    rw [qu_hasP hB hC hpn, Option.bind_some, if_neg u1]
  · rw [if_neg (by decide +kernel), ix_nI (by omega) (by omega), Option.bind_some, r4]
  · rw [if_neg (by decide +kernel), if_neg (by decide +kernel), ix_nI (by omega) (by omega), Option.bind_some, r5]
  · rw [if_neg (by decide +kernel), if_neg (by decide +kernel), if_neg (by decide +kernel), ix_nI (by omega) (by omega), Option.bind_some, r6]
theorem k_tag (hR : R X m) (v : Int32) : ∃ r X' m', fKL_tag X v = some (r, X') ∧ fMo_tag m v = some (r, m') ∧ R X' m' := by
  have hR0 := R_thr (v := nI 0) hR
  have u1 : ¬ nI 1 = nI 0 := by decide +kernel
  obtain ⟨n, h, L, e, t, hp, hm, sr, ⟨hB, hC, hM, hN, ⟨S, hV, hS, hD, -⟩, -⟩, -, -, -, -, hW, -⟩ := id hR0
  obtain ⟨b1, b2, b3, b4, b5, b6, b7, b8, b9⟩ := id hB
  rcases isP_or v n with ⟨p, hpn, rfl⟩ | hv
  · obtain ⟨l, l1, l2, l3, lA, lB⟩ := hN.2 p hpn
    obtain ⟨⟨v3, v4, v5', v6, v7, v8', v9, v10⟩, ⟨x1, x2, x3⟩, x4⟩ := hV.2.2.1 p hpn
    obtain ⟨d3, d4, d5, d6, d7, d8, d9, d10'⟩ := (sSM_live hD).2.2 p hpn
    obtain ⟨k0, k1, k2⟩ := sc_how hB hC hV hS hpn
    obtain ⟨t1, t2, t3⟩ := sc_det hB hC hV hS hpn
    have nP : fQu_nameOfPerson (X 5) (nI p) = some (kw5 l) := by
      unfold fQu_nameOfPerson
      simp only [lit]
      rw [qu_hasP hB hC hpn, Option.bind_some, if_neg u1, ix_nI (by omega) (by omega), Option.bind_some, lA]
      rfl
    obtain ⟨la1, a1, a2⟩ := la_word (la := sI (X 223) 0 0 (nI 0)) (L := []) ⟨by rw [sI_1, if_pos ⟨rfl, rfl⟩]; rfl, fun k hk => absurd hk (by show ¬ k < 0; omega)⟩ l3 l1 l2 (by show 0 + l.length ≤ 32; omega)
    obtain ⟨m1, c1, c2, c3⟩ := mo_word (m := sI (sI m 0 0 (nI 0)) 0 33 (nI 0)) (L := []) ⟨by rw [sI_1, if_pos ⟨rfl, rfl⟩]; rfl, fun k hk => absurd hk (by show ¬ k < 0; omega)⟩ l3 l1 l2 (by show 0 + l.length ≤ 40; omega)
    rw [List.nil_append] at a2 c2
    have c3' : fT (sI m 0 0 (nI 0)) m1 := fT_trans (fT_sI (by omega)) c3
    have lm : (l.map (· + 96)).length = l.length := List.length_map _
    have lT : fKL_tag X (nI p) = (fLa_write (X 5) (X 1) (X 12) (X 223) (nI p)).bind fun r2 => some ((va_up X 223 r2 223).1 0 0, va_up X 223 r2) := by
      unfold fKL_tag
      simp only [lit]
      rw [qu_hasP hB hC hpn, Option.bind_some, if_neg u1]
      rfl
    have fin : ∀ (F : List Nat) (la' m' : Obj), fLa_write (X 5) (X 1) (X 12) (X 223) (nI p) = some la' → fMo_tag m (nI p) = some (m'.1 0 33, m') → laS F la' → moS F m' → fT (sI m 0 0 (nI 0)) m' → chs F → F.length ≤ 32 → ∃ r X' m', fKL_tag X (nI p) = some (r, X') ∧ fMo_tag m (nI p) = some (r, m') ∧ R X' m' := fun F la' m' h1 h2 h3 h4 h5 h6 h7 => by
      refine ⟨nI F.length, va_up X 223 la', m', ?_, ?_, R_tag hR0 h5 (pLab_of h3 h4 h6 h7)⟩
      · rw [lT, h1, Option.bind_some, va_up_at, if_pos rfl, h3.1]
      · rw [h2, h4.1]
    have mw : (sI (sI m 0 0 (nI 0)) 0 33 (nI 0)).2 5 (6 + p) = kw8 l := lB
    have lw : fLa_write (X 5) (X 1) (X 12) (X 223) (nI p) = if S 3 p = 0 then (fLa_addText la1 3).bind fun r14 => (fLa_addDigits r14 (nI (S 4 p))).bind fun r16 => (fLa_addText r16 4).bind fun r17 => (fLa_addWay (X 1) r17 (nI (8 + S 5 p))).bind fun r19 => some r19 else if S 3 p = 1 then (fLa_addText la1 5).bind fun r10 => (fQu_nameOfHouse (X 5) (nI (S 6 p) - nI 1)).bind fun r12 => (fLa_addWord r10 r12).bind fun r13 => some r13 else (fLa_addText la1 6).bind fun r6 => (fQu_nameOfHouse (X 5) (nI (S 6 p) - nI 1)).bind fun r8 => (fLa_addWord r6 r8).bind fun r9 => some r9 := by
      unfold fLa_write
      simp only [lit, bnd]
      rw [nP, Option.bind_some, a1, Option.bind_some, k0, Option.bind_some, k1, t1, t2, t3]
      simp only [Option.bind_some, nadd]
      by_cases h0 : S 3 p = 0
      · rw [if_pos h0, if_pos h0, if_neg u1]
      · rw [if_neg h0, if_neg h0, if_pos rfl]
        by_cases h1 : S 3 p = 1
        · rw [if_pos h1, if_pos h1, if_neg u1]
        · rw [if_neg h1, if_neg h1, if_pos rfl]
    have m12 : m1.1 2 = (sI m 0 0 (nI 0)).1 2 := c3'.2.1 2 (by omega) (by omega)
    have lm' : fMo_tag m (nI p) = if S 3 p = 0 then (fMo_says m1 (kw8 [1, 20])).bind fun r7 => (fMo_lays r7 (nI 32)).bind fun r8 => if r8.1 2 (81 + p) ≤ nI 9 then fMo_tag_J162 r8 (nI p) else (fMo_lays r8 (nI 48 + r8.1 2 (81 + p) / nI 10)).bind fun r16 => fMo_tag_J162 r16 (nI p) else if S 3 p = 1 then (fMo_says m1 (kw8 [11, 14, 15, 3, 11, 19])).bind fun r18 => fMo_tag_J65 r18 (nI p) else fMo_tag_J65 m1 (nI p) := by
      have w1 : (24948 : Int64) = kw8 [1, 20] := by decide +kernel
      have w2 : (118122059361139 : Int64) = kw8 [11, 14, 15, 3, 11, 19] := by decide +kernel
      have hh : m1.1 2 (73 + p) = nI (S 3 p) := by rw [m12]; exact d3
      unfold fMo_tag
      simp only [lit, bnd, nadd]
      rw [mo_isP hB hM hpn, Option.bind_some, if_neg u1, ix_nI (show 6 + p < 28 by omega) (by omega), Option.bind_some, mw, c1, Option.bind_some, ix_nI (show 73 + p < 342 by omega) (by omega), ix_nI (show 81 + p < 342 by omega) (by omega)]
      simp only [Option.bind_some]
      rw [hh, w1, w2]
      by_cases h0 : S 3 p = 0
      · rw [if_pos h0, if_pos (by rw [h0])]
      · rw [if_neg h0, if_neg (by rw [neq (by omega) (by omega)]; exact h0)]
        by_cases h1 : S 3 p = 1
        · rw [if_pos h1, if_pos (by rw [h1])]
        · rw [if_neg h1, if_neg (by rw [neq (by omega) (by omega)]; exact h1)]
    by_cases h0 : S 3 p = 0
    · rw [if_pos h0] at lw lm'
      obtain ⟨hk1, hk2, hk3⟩ := kws_ok (8 + S 5 p) (by omega)
      obtain ⟨la2, e1, e2⟩ := la_text (t := 3) a2 (by intro c hc; revert c; decide) (by decide) (by rw [lm]; show l.length + 4 ≤ 32; omega)
      have s3 : strs.getD 3 [] = [32] ++ [1, 20].map (· + 96) ++ [32] := rfl
      rw [s3] at e2
      have dl : (dgs (S 4 p)).length ≤ 2 := by
        unfold dgs
        split
        · show 1 ≤ 2; omega
        · show 2 ≤ 2; omega
      obtain ⟨la3, e3, e4⟩ := la_digits e2 (a := S 4 p) (by omega) (by rw [List.length_append, lm]; show l.length + 4 + 2 ≤ 32; omega)
      obtain ⟨la4, e5', e6⟩ := la_text (t := 4) e4 (by intro c hc; revert c; decide) (by decide) (by rw [List.length_append, List.length_append, lm]; show l.length + 4 + (dgs (S 4 p)).length + 1 ≤ 32; omega)
      obtain ⟨la5, e7, e8'⟩ := la_word e6 hk1 hk2 hk3 (by rw [List.length_append, List.length_append, List.length_append, lm]; show l.length + 4 + (dgs (S 4 p)).length + 1 + (kws.getD (8 + S 5 p) []).length ≤ 32; omega)
      have hway : fLa_addWay (X 1) la4 (nI (8 + S 5 p)) = some la5 := by
        unfold fLa_addWay
        simp only [lit]
        rw [if_neg (nI_lt0 (by omega)), if_neg (by rw [nle (by omega) (by omega)]; omega), ix_nI (by omega) (by omega), Option.bind_some, (hW (8 + S 5 p) (by omega)).1, e7]
        rfl
      rw [e1, Option.bind_some, e3, Option.bind_some, e5', Option.bind_some, hway] at lw
      obtain ⟨m2, f1, f2, f3⟩ := mo_say c2 (l := [1, 20]) (by intro x hx; revert x; decide) (by decide) (by decide) (by rw [lm]; show l.length + 2 < 40; omega)
      obtain ⟨m3, f4, f5, f6⟩ := mo_lay f2 (c := 32) (by rw [List.length_append, lm]; show l.length + 3 < 40; omega) (by omega)
      have g3 : fT (sI m 0 0 (nI 0)) m3 := fT_trans c3' (fT_trans f3 f6)
      have m32 : m3.1 2 (81 + p) = nI (S 4 p) := by rw [g3.2.1 2 (by omega) (by omega)]; exact d4
      have hJ : ∀ (W : List Nat) (x : Obj), moS W x → W.length ≤ 16 → fT (sI m 0 0 (nI 0)) x → ∃ x', fMo_tag_J162 x (nI p) = some (x'.1 0 33, x') ∧ moS (W ++ [48 + S 4 p % 10] ++ ([32] ++ (kws.getD (8 + S 5 p) []).map (· + 96))) x' ∧ fT (sI m 0 0 (nI 0)) x' := fun W x j1 j2 j3 => by
        have x24 : x.1 2 (81 + p) = nI (S 4 p) := by rw [j3.2.1 2 (by omega) (by omega)]; exact d4
        obtain ⟨y1, y2, y3, y4⟩ := mo_lay j1 (c := 48 + S 4 p % 10) (by omega) (by omega)
        have y5 : fT (sI m 0 0 (nI 0)) y1 := fT_trans j3 y4
        have y25 : y1.1 2 (89 + p) = nI (S 5 p) := by rw [y5.2.1 2 (by omega) (by omega)]; exact d5
        obtain ⟨z1, z2, z3, z4⟩ := mo_say y3 hk1 hk2 hk3 (by rw [List.length_append]; show W.length + 1 + (kws.getD (8 + S 5 p) []).length < 40; omega)
        refine ⟨z1, ?_, z3, fT_trans y5 z4⟩
        unfold fMo_tag_J162 fMo_tag_J222
        simp only [lit, nadd]
        rw [ix_nI (show 81 + p < 342 by omega) (by omega), ix_nI (show 89 + p < 342 by omega) (by omega)]
        simp only [Option.bind_some]
        rw [x24, (d10 (S 4 p) (by omega)).2, y2, Option.bind_some, y25]
        rcases (show S 5 p = 0 ∨ S 5 p = 1 ∨ S 5 p = 2 by omega) with w | w | w
        · rw [w] at z2
          rw [w, if_pos rfl, show (30064 : Int64) = kw8 (kws.getD (8 + 0) []) by decide +kernel, z2]; rfl
        · rw [w] at z2
          rw [w, if_neg u1, if_pos rfl, show (1685026670 : Int64) = kw8 (kws.getD (8 + 1) []) by decide +kernel, z2]; rfl
        · rw [w] at z2
          rw [w, if_neg (by decide +kernel), if_neg (by decide +kernel), show (126943688025203 : Int64) = kw8 (kws.getD (8 + 2) []) by decide +kernel, z2]; rfl
      rw [f1, Option.bind_some, f4, Option.bind_some, m32] at lm'
      have hch : chs (l.map (· + 96) ++ ([32] ++ [1, 20].map (· + 96) ++ [32]) ++ dgs (S 4 p) ++ strs.getD 4 [] ++ (kws.getD (8 + S 5 p) []).map (· + 96)) := by
        refine chs_app (chs_app (chs_app (chs_app (chs_map l3) (by intro c hc; revert c; decide)) ?_) (by intro c hc; revert c; decide)) (chs_map hk1)
        unfold dgs
        split
        · intro c hc
          have := List.mem_singleton.mp hc
          omega
        · intro c hc
          rcases List.mem_append.mp hc with z | z <;> (have := List.mem_singleton.mp z; omega)
      have hlen : (l.map (· + 96) ++ ([32] ++ [1, 20].map (· + 96) ++ [32]) ++ dgs (S 4 p) ++ strs.getD 4 [] ++ (kws.getD (8 + S 5 p) []).map (· + 96)).length ≤ 32 := by
        rw [List.length_append, List.length_append, List.length_append, List.length_append, lm, List.length_map]
        show l.length + 4 + (dgs (S 4 p)).length + 1 + (kws.getD (8 + S 5 p) []).length ≤ 32
        omega
      by_cases h10 : S 4 p < 10
      · rw [if_pos (by rw [nle (by omega) (by omega)]; omega)] at lm'
        obtain ⟨m4, q1, q2, q3⟩ := hJ _ m3 f5 (by rw [List.length_append, List.length_append, lm]; show l.length + 3 + 1 ≤ 16; omega) g3
        rw [q1] at lm'
        refine fin _ _ _ lw lm' e8' ?_ q3 hch hlen
        have dg : dgs (S 4 p) = [48 + S 4 p % 10] := by unfold dgs; rw [if_pos h10]
        rw [dg]
        have sh : strs.getD 4 [] = [32] := rfl
        rw [sh]
        simp only [List.append_assoc] at q2 ⊢
        exact q2
      · rw [if_neg (by rw [nle (by omega) (by omega)]; omega), (d10 (S 4 p) (by omega)).1] at lm'
        obtain ⟨m5, r1, r2, r3⟩ := mo_lay f5 (c := 48 + S 4 p / 10) (by rw [List.length_append, List.length_append, lm]; show l.length + 3 + 1 < 40; omega) (by omega)
        rw [r1, Option.bind_some] at lm'
        obtain ⟨m4, q1, q2, q3⟩ := hJ _ m5 r2 (by rw [List.length_append, List.length_append, List.length_append, lm]; show l.length + 3 + 1 + 1 ≤ 16; omega) (fT_trans g3 r3)
        rw [q1] at lm'
        refine fin _ _ _ lw lm' e8' ?_ q3 hch hlen
        have dg : dgs (S 4 p) = [48 + S 4 p / 10] ++ [48 + S 4 p % 10] := by unfold dgs; rw [if_neg h10]
        rw [dg]
        have sh : strs.getD 4 [] = [32] := rfl
        rw [sh]
        simp only [List.append_assoc] at q2 ⊢
        exact q2
    · obtain ⟨k, hk6⟩ : ∃ k, S 6 p = k + 1 := ⟨S 6 p - 1, by omega⟩
      have hk : k < h := by omega
      obtain ⟨lh, h1, h2, h3, hA, hB'⟩ := hN.1 k hk
      have nH : fQu_nameOfHouse (X 5) (nI (S 6 p) - nI 1) = some (kw5 lh) := by
        rw [hk6, nsub (by omega), Nat.add_sub_cancel]
        unfold fQu_nameOfHouse
        simp only [lit]
        rw [qu_hasH hB hC hk, Option.bind_some, if_neg u1, ix_nI (by omega) (by omega), Option.bind_some, hA]
        rfl
      have lmh : (lh.map (· + 96)).length = lh.length := List.length_map _
      have hJ88 : ∀ (W : List Nat) (x : Obj) (w : List Nat), lok w → 1 ≤ w.length → w.length ≤ 2 → moS W x → W.length ≤ 16 → fT (sI m 0 0 (nI 0)) x → ∃ x', fMo_tag_J88 x (nI p) (kw8 w) = some (x'.1 0 33, x') ∧ moS (W ++ ([32] ++ w.map (· + 96)) ++ ([32] ++ lh.map (· + 96))) x' ∧ fT (sI m 0 0 (nI 0)) x' := fun W x w w1 w2 w3 j1 j2 j3 => by
        obtain ⟨y1, y2, y3, y4⟩ := mo_say j1 w1 w2 (by omega) (by omega)
        have y5 : fT (sI m 0 0 (nI 0)) y1 := fT_trans j3 y4
        have y26 : y1.1 2 (97 + p) = nI (S 6 p) := by rw [y5.2.1 2 (by omega) (by omega)]; exact d6
        have y2n : y1.2 5 k = kw8 lh := by rw [y5.1]; exact hB'
        obtain ⟨z1, z2, z3, z4⟩ := mo_say y3 h3 h1 h2 (by rw [List.length_append, List.length_append, List.length_map]; show W.length + (1 + w.length) + lh.length < 40; omega)
        refine ⟨z1, ?_, z3, fT_trans y5 z4⟩
        unfold fMo_tag_J88
        simp only [lit, nadd]
        rw [y2, Option.bind_some, ix_nI (show 97 + p < 342 by omega) (by omega), Option.bind_some, y26, hk6, nsub (by omega), Nat.add_sub_cancel, ix_nI (show k < 28 by omega) (by omega), Option.bind_some, y2n, z2]
        rfl
      have fin2 : ∀ (tt : Nat) (W : List Nat), strs.getD tt [] = W ++ [32] → chs W → W.length ≤ 12 → (fLa_write (X 5) (X 1) (X 12) (X 223) (nI p) = (fLa_addText la1 tt).bind fun r6 => (fQu_nameOfHouse (X 5) (nI (S 6 p) - nI 1)).bind fun r8 => (fLa_addWord r6 r8).bind fun r9 => some r9) → (∃ x', fMo_tag m (nI p) = some (x'.1 0 33, x') ∧ moS (l.map (· + 96) ++ W ++ ([32] ++ lh.map (· + 96))) x' ∧ fT (sI m 0 0 (nI 0)) x') → ∃ r X' m', fKL_tag X (nI p) = some (r, X') ∧ fMo_tag m (nI p) = some (r, m') ∧ R X' m' := fun tt W hs hW' hl' hw hx => by
        obtain ⟨x', g1, g2, g3⟩ := hx
        have hc' : chs (strs.getD tt []) := by rw [hs]; exact chs_app hW' (by intro c hc; have := List.mem_singleton.mp hc; omega)
        have hln : (strs.getD tt []).length = W.length + 1 := by rw [hs, List.length_append]; rfl
        obtain ⟨la2, e1, e2⟩ := la_text (t := tt) a2 hc' (by omega) (by rw [lm, hln]; omega)
        obtain ⟨la3, e3, e4⟩ := la_word e2 h3 h1 h2 (by rw [List.length_append, lm, hln]; omega)
        rw [e1, Option.bind_some, nH, Option.bind_some, e3, Option.bind_some] at hw
        refine fin _ _ _ hw g1 e4 ?_ g3 (chs_app (chs_app (chs_map l3) hc') (chs_map h3)) (by rw [List.length_append, List.length_append, lm, lmh, hln]; omega)
        rw [hs]
        simp only [List.append_assoc] at g2 ⊢
        exact g2
      rw [if_neg h0] at lw lm'
      by_cases h1' : S 3 p = 1
      · rw [if_pos h1'] at lw lm'
        refine fin2 5 ([32] ++ [11, 14, 15, 3, 11, 19].map (· + 96) ++ ([32] ++ [1, 20].map (· + 96))) rfl (by intro c hc; revert c; decide) (by decide) lw ?_
        obtain ⟨m2, f1, f2, f3⟩ := mo_say c2 (l := [11, 14, 15, 3, 11, 19]) (by intro x hx; revert x; decide) (by decide) (by decide) (by rw [lm]; show l.length + 6 < 40; omega)
        have g3 := fT_trans c3' f3
        have m23 : m2.1 2 (73 + p) = nI (S 3 p) := by rw [g3.2.1 2 (by omega) (by omega)]; exact d3
        obtain ⟨m4, q1, q2, q3⟩ := hJ88 _ m2 [1, 20] (by intro x hx; revert x; decide) (by decide) (by decide) f2 (by rw [List.length_append, lm]; show l.length + 7 ≤ 16; omega) g3
        refine ⟨m4, ?_, ?_, q3⟩
        · rw [lm', f1, Option.bind_some]
          unfold fMo_tag_J65
          simp only [lit, nadd]
          rw [ix_nI (show 73 + p < 342 by omega) (by omega), Option.bind_some, m23, h1', if_pos rfl, show (24948 : Int64) = kw8 [1, 20] by decide +kernel]
          exact q1
        · simp only [List.append_assoc] at q2 ⊢
          exact q2
      · rw [if_neg h1'] at lw lm'
        refine fin2 6 ([32] ++ [9, 14].map (· + 96)) rfl (by intro c hc; revert c; decide) (by decide) lw ?_
        have m13 : m1.1 2 (73 + p) = nI (S 3 p) := by rw [m12]; exact d3
        obtain ⟨m4, q1, q2, q3⟩ := hJ88 _ m1 [9, 14] (by intro x hx; revert x; decide) (by decide) (by decide) c2 (by rw [lm]; omega) c3'
        refine ⟨m4, ?_, q2, q3⟩
        rw [lm']
        unfold fMo_tag_J65
        simp only [lit, nadd]
        rw [ix_nI (show 73 + p < 342 by omega) (by omega), Option.bind_some, m13, if_neg (by rw [neq (by omega) (by omega)]; exact h1'), show (26990 : Int64) = kw8 [9, 14] by decide +kernel]
        exact q1
  · unfold fKL_tag fMo_tag
    simp only [lit, bnd, qu_hasP0 hB hC hv, mo_isP0 hB hM hv, Option.bind_some, if_true]
    exact ⟨_, X, _, rfl, rfl, hR0⟩
end
