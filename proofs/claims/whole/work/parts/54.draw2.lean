section
variable {X X' X1 : Nat → Obj} {n h L e t : Nat} {hp hm : Nat → Nat} {sr : Nat → Bool} {q m m' m0 m1 sc sc0 sc2 : Obj} {S S' : Nat → Nat → Nat} {T B : Nat} {d un un' : Nat → Int32} {many many' : Int32}
theorem draw_tick (hB : sQB n h L e t hp hm) (hC : sQC n h L e t hp hm sr q) (hM : sQM n h L e t hp hm sr (m0.1 2)) (hT : T < 1000) (hR : RD n h L hp m0 T sc m) : ∃ sc' m', ((iter (fSc_letDrawnTicksGo_L25 q) FU (nI 0, sc)).bind fun e3 => fSc_letTickGo q e3) = some sc' ∧ ((iter fMo_draws_L28 FU (nI 0, m)).bind fun e3 => fMo_tick e3) = some m' ∧ RD n h L hp m0 (T + 1) sc' m' := by
  have b1 := hB.1
  have c4 := hC.1.2.2.2.2
  have cM : ∀ {x y : Obj}, RD n h L hp m0 T y x → x.1 2 1 = nI n := fun hz => by
    obtain ⟨_, _, _, _, hf, _⟩ := hz
    exact (sQM_mg hB hM hf).1.2.1
  obtain ⟨x1, y1, e1, e2, R1⟩ := lpp (f := fSc_letDrawnTicksGo_L25 q) (g := fMo_draws_L28) (J := fun _ x y => RD n h L hp m0 T x y) n (by omega) hR (fun k x y hk hz => by
      obtain ⟨sc', m', g1, g2, g3⟩ := draw_act hB hC hM hz hk
      have := cM hz
      refine ⟨sc', m', ?_, ?_, g3⟩
      · unfold fSc_letDrawnTicksGo_L25
        simp only [lit]
        rw [c4, if_neg (by rw [nle (by omega) (by omega)]; omega), g1]
        simp only [Option.bind_some, nadd]
      · unfold fMo_draws_L28
        simp only [lit]
        rw [this, if_neg (by rw [nle (by omega) (by omega)]; omega), g2]
        simp only [Option.bind_some, nadd]) (fun x y hz => by
      have := cM hz
      unfold fSc_letDrawnTicksGo_L25 fMo_draws_L28
      simp only [this]
      rw [c4, if_pos (by rw [nle (by omega) (by omega)]; omega)]
      exact ⟨rfl, if_pos (by rw [nle (by omega) (by omega)]; omega)⟩)
  obtain ⟨S, hV, hS, hD, hf, hT', hG, hs⟩ := R1
  obtain ⟨sc2, m2, t1, t2, t3⟩ := tick_all hB hC (sQM_mg hB hM hf) (T := T) (by omega) ⟨S, hV, hS, hD, mFr_refl _, hT', hG⟩
  obtain ⟨S2, w1, w2, w3, w4, w5, w6⟩ := t3
  have w7 := dk_tick (q := q) hs _ t1
  refine ⟨sc2, m2, ?_, ?_, S2, w1, w2, w3, mg_trans hf (mg_fr w4), w5, w6, ?_⟩
  · rw [e1]; exact t1
  · rw [e2]; exact t2
  · rw [w7, mFr_1 w4 (by omega)]
theorem draws_go (hB : sQB n h L e t hp hm) (hC : sQC n h L e t hp hm sr q) (hM : sQM n h L e t hp hm sr (m0.1 2)) (hT : T ≤ 1000) {v : Int32} (hR : RD n h L hp m0 T (sI sc 0 14 v) (sI m 0 34 v)) {k : Nat} (hk : k ≤ 60) : ∃ sc' m', fSc_letDrawnTicksGo q sc (nI k) v = some (nI (min k (1000 - T)), sc') ∧ fMo_draws m (nI k) v = some (nI (min k (1000 - T)), m') ∧ RD n h L hp m0 (T + min k (1000 - T)) sc' m' := by
  have key := iter2 (f := fSc_letDrawnTicksGo_L7 q (nI k)) (g := fMo_draws_L7 (nI k)) (I := fun i a a' => ∃ sc m, a = (nI i, sc) ∧ a' = (nI i, m) ∧ RD n h L hp m0 (T + i) sc m) (E := fun z z' => ∃ sc m, z = (nI (min k (1000 - T)), sc) ∧ z' = (nI (min k (1000 - T)), m) ∧ RD n h L hp m0 (T + min k (1000 - T)) sc m) (min k (1000 - T)) (by omega) (a := (nI 0, sI sc 0 14 v)) (a' := (nI 0, sI m 0 34 v)) ⟨_, _, rfl, rfl, hR⟩ (fun i a a' hi hz => ?_) (fun a a' hz => ?_)
  · obtain ⟨z, z', g1, g2, sc', m', rfl, rfl, h3⟩ := key
    refine ⟨sc', m', ?_, ?_, h3⟩
    · unfold fSc_letDrawnTicksGo
      simp only [lit, bnd, g1, Option.bind_some]
    · unfold fMo_draws
      simp only [lit, bnd, g2, Option.bind_some]
  · obtain ⟨sc, m, rfl, rfl, hz⟩ := hz
    left
    obtain ⟨S1, w1, w2, w3, w4, w5, w6, w7⟩ := id hz
    have s1 := w2.1.1
    have d1 := (sSM_live w3).1.1
    rw [w5] at s1 d1
    obtain ⟨sc2, m2, t1, t2, t3⟩ := draw_tick hB hC hM (by omega) hz
    refine ⟨(nI (i + 1), sc2), (nI (i + 1), m2), ?_, ?_, sc2, m2, rfl, rfl, t3⟩
    · unfold fSc_letDrawnTicksGo_L7
      simp only [lit]
      rw [s1, if_neg (by rw [nle (by omega) (by omega)]; omega), if_neg (by rw [nle (by omega) (by omega)]; omega)]
      cases h9 : iter (fSc_letDrawnTicksGo_L25 q) FU (nI 0, sc) with
      | none => rw [h9] at t1; cases t1
      | some x =>
        rw [h9, Option.bind_some] at t1
        rw [Option.bind_some, t1, Option.bind_some, nadd]
    · unfold fMo_draws_L7
      simp only [lit]
      rw [d1, if_neg (by rw [nle (by omega) (by omega)]; omega), if_neg (by rw [nle (by omega) (by omega)]; omega)]
      cases h9 : iter fMo_draws_L28 FU (nI 0, m) with
      | none => rw [h9] at t2; cases t2
      | some x =>
        rw [h9, Option.bind_some] at t2
        rw [Option.bind_some, t2, Option.bind_some, nadd]
  · obtain ⟨sc, m, rfl, rfl, hz⟩ := hz
    obtain ⟨S1, w1, w2, w3, w4, w5, w6, w7⟩ := id hz
    have s1 := w2.1.1
    have d1 := (sSM_live w3).1.1
    rw [w5] at s1 d1
    refine ⟨_, _, ?_, ?_, sc, m, rfl, rfl, hz⟩
    · unfold fSc_letDrawnTicksGo_L7
      simp only [lit]
      rw [s1]
      by_cases hk1 : k ≤ min k (1000 - T)
      · rw [if_pos (by rw [nle (by omega) (by omega)]; omega)]
      · rw [if_neg (by rw [nle (by omega) (by omega)]; omega), if_pos (by rw [nle (by omega) (by omega)]; omega)]
    · unfold fMo_draws_L7
      simp only [lit]
      rw [d1]
      by_cases hk1 : k ≤ min k (1000 - T)
      · rw [if_pos (by rw [nle (by omega) (by omega)]; omega)]
      · rw [if_neg (by rw [nle (by omega) (by omega)]; omega), if_pos (by rw [nle (by omega) (by omega)]; omega)]
theorem RD_RC (hT : T ≤ 1000) (hR : RD n h L hp m0 T sc m) : RC n h L hp sc (dOf m) := by
  obtain ⟨S1, w1, w2, w3, w4, w5, w6, w7⟩ := hR
  exact ⟨S1, w1, w2, w3, by omega, by omega⟩
theorem RD_of {v : Int32} (hV : sSV n h L hp S) (hS : sSC n S sc) (hD : sSM n S (dOf m)) (hf : mg m0 m) (hG : S 0 0 ≤ 8 * S 0 1) : RD n h L hp m0 (S 0 1) (sI sc 0 14 v) (sI m 0 34 v) :=
  ⟨S, hV, hS, hD, mg_trans hf mg_sd, rfl, hG, by rw [sI_1, if_pos ⟨rfl, rfl⟩, sI_1, if_pos ⟨rfl, rfl⟩]⟩
theorem k_drawn (hR : R X m) (v w : Int32) : ∃ r X' m', fKL_drawn X v w = some (r, X') ∧ fMo_drawn m v w = some (r, m') ∧ R X' m' := by
  have u1 : ¬ nI 1 = nI 0 := by decide +kernel
  by_cases h1 : v < nI 1
  · unfold fKL_drawn fMo_drawn
    simp only [lit, bnd]
    rw [if_pos h1, isIn_no (Or.inl h1)]
    exact ⟨_, X, _, rfl, rfl, R_thr hR⟩
  · by_cases h2 : v ≤ nI 60
    · obtain ⟨k, k1, k2, rfl⟩ := in_rng (by omega) (by omega) h1 h2
      have l1 : fKL_drawn X (nI k) w = aM (fun q sc => fSc_letDrawnTicksGo q sc (nI k) w) X := by
        unfold fKL_drawn aM
        simp only [lit]
        rw [if_neg h1, if_pos h2]
      rw [l1]
      refine act_many hR _ (fun m => fMo_drawn m (nI k) w) ?_
      intro n h L e t hp hm sr hB hC hM hc
      obtain ⟨S, hV, hS, hD, t1, hG⟩ := id hc
      have t3 := (sSM_live hD).1.1
      have l2 : fMo_drawn m (nI k) w = if S 0 1 = 1000 then (fMo_draws (sI m 0 0 (nI 0)) (nI k) w).bind fun r3 => some (r3.1, r3.2) else (fMo_stores (sI m 0 0 (nI 0))).bind fun r4 => (fMo_draws r4 (nI k) w).bind fun r3 => some (r3.1, r3.2) := by
        unfold fMo_drawn fMo_drawn_J34
        simp only [lit, bnd]
        rw [isIn_yes h1 h2]
        simp only [Option.bind_some, u1, if_false]
        rw [t3]
        by_cases hT : S 0 1 = 1000
        · rw [if_pos hT, if_pos (by rw [hT, nle (by omega) (by omega)]; omega)]
        · rw [if_neg hT, if_neg (by rw [nle (by omega) (by omega)]; omega)]
      by_cases hT : S 0 1 = 1000
      · left
        obtain ⟨sc', m', g1, g2, g3⟩ := draws_go hB hC hM t1 (RD_of (v := w) hV hS hD (mg_refl _) hG) k2
        have hmin : min k (1000 - S 0 1) = 0 := by omega
        rw [hmin] at g1 g2 g3
        refine ⟨sc', m', g1, ?_, ?_, RD_RC (by omega) g3⟩
        · show fMo_drawn m (nI k) w = _
          rw [l2, if_pos hT, g2]; rfl
        · obtain ⟨S1, w1, w2, w3, w4, w5, w6, w7⟩ := g3
          exact w4
      · right
        intro m1 s1 s2 s3
        obtain ⟨S', hV', hS', hD', t1', hG'⟩ := s3
        have hTT : S' 0 1 = S 0 1 := (neq (by omega) (by omega)).mp (hS'.1.1.symm.trans hS.1.1)
        obtain ⟨sc', m', g1, g2, g3⟩ := draws_go hB hC s2 t1' (RD_of (v := w) hV' hS' hD' (mg_refl _) hG') k2
        refine ⟨min k (1000 - S' 0 1), sc', m', by omega, by omega, g1, ?_, ?_, RD_RC (by omega) g3⟩
        · show fMo_drawn m (nI k) w = _
          rw [l2, if_neg hT, s1]
          simp only [Option.bind_some, g2]
        · obtain ⟨S1, w1, w2, w3, w4, w5, w6, w7⟩ := g3
          exact w4
    · unfold fKL_drawn fMo_drawn
      simp only [lit, bnd]
      rw [if_neg h1, if_neg h2, isIn_no (Or.inr h2)]
      exact ⟨_, X, _, rfl, rfl, R_thr hR⟩
theorem xu_self (k : Nat) : va_up X k (X k) = X := by
  funext j
  rw [va_up_at]
  by_cases h : j = k
  · rw [if_pos h, h]
  · rw [if_neg h]
theorem k_odds (hR : R X m) (v w s : Int32) : ∃ r X' m', fKL_odds X v w s = some (r, X') ∧ fMo_odds m v w s = some (r, m') ∧ R X' m' := by
  have hR1 := R_thr (v := nI 0) hR
  obtain ⟨n, h, L, e, t, hp, hm, sr, S, sc0, m0, hB, hC, hM, hV, hS, hD, hT0, hM0, c1, c2, hRT, hback, hcopy, hD0, hG⟩ := ahead hR
  have u1 : ¬ nI 1 = nI 0 := by decide +kernel
  have b1 := hB.1
  rcases isP_or v n with ⟨p, hpn, rfl⟩ | hv
  · unfold fKL_odds fMo_odds
    simp only [lit, bnd]
    rw [qu_hasP hB hC hpn, mo_isP hB hM hpn]
    simp only [Option.bind_some, u1, if_false]
    by_cases h1 : w < nI 1
    · rw [if_pos h1, isIn_no (Or.inl h1)]
      exact ⟨_, X, _, rfl, rfl, hR1⟩
    · by_cases h2 : w ≤ nI 30
      · rw [if_neg h1, if_pos h2, isIn_yes h1 h2]
        obtain ⟨k, k1, k2, rfl⟩ := in_rng (by omega) (by omega) h1 h2
        simp only [Option.bind_some, u1, if_false, c2]
        have key := iter2 (f := fKL_odds_L33 (nI p) (nI k) s) (g := fMo_odds_L35 (nI p) (nI k) s) (I := fun i a a' => ∃ c sc mc, a = (nI c, nI i, va_up X 201 sc) ∧ a' = (nI c, nI i, mc) ∧ mg m0 mc ∧ mc.1 2 = m0.1 2 ∧ (i = 0 ∨ R (va_up X 201 sc) mc)) (E := fun z z' => ∃ r X' m', z = (r, X') ∧ z' = (r, m') ∧ R X' m') k (by omega) (a := (nI 0, nI 0, X)) (a' := (nI 0, nI 0, m0)) ⟨0, X 201, m0, by rw [xu_self], rfl, mg_refl _, rfl, Or.inl rfl⟩ (fun i a a' hi hz => ?_) (fun a a' hz => ?_)
        · obtain ⟨z, z', g1, g2, r, X', m', rfl, rfl, h3⟩ := key
          rw [g1, g2]
          exact ⟨_, _, _, rfl, rfl, h3⟩
        · obtain ⟨c, sc, mc, rfl, rfl, z1, z2, z3⟩ := hz
          left
          obtain ⟨sc1, a1, a2⟩ := hcopy sc
          have hDc : sSM n S (dOf mc) := by
            show sSM n S (fun j => mc.1 2 (69 + j))
            rw [z2]; exact hD0
          obtain ⟨sc', m', g1, g2, g3⟩ := draws_go hB hC hM0 hT0 (RD_of (v := s + nI i) hV a2 hDc z1 hG) (k := 20) (by omega)
          obtain ⟨S1, w1, w2, w3, w4, w5, w6, w7⟩ := g3
          have ki := (sc_how hB hC w1 w2 hpn).2.2
          have di := ((sSM_live w3).2.2 p hpn).1
          have vi := (w1.2.2.1 p hpn).1.1
          obtain ⟨m2, q1, q2, q3, q4⟩ := hback sc' m' w4
          have l1 : fKL_odds_L33 (nI p) (nI k) s (nI c, nI i, va_up X 201 sc) = some (.inl (if S1 3 p = 2 then nI (c + 1) else nI c, nI (i + 1), va_up X 201 sc')) := by
            unfold fKL_odds_L33
            simp only [lit]
            rw [if_neg (by rw [nle (by omega) (by omega)]; omega), va_up_ne (j := 12) (k := 201) _ _ (by omega), va_up_at, if_pos rfl, a1]
            simp only [Option.bind_some, bnd]
            rw [xu_up, va_up_ne (j := 5) (k := 201) _ _ (by omega), va_up_at, if_pos rfl, g1]
            simp only [Option.bind_some]
            rw [xu_up, va_up_ne (j := 5) (k := 201) _ _ (by omega), va_up_at, if_pos rfl, ki]
            simp only [Option.bind_some, nadd]
            by_cases h2 : S1 3 p = 2
            · rw [if_pos h2, if_pos h2, if_neg u1]
            · rw [if_neg h2, if_neg h2, if_pos rfl]
          have l2 : fMo_odds_L35 (nI p) (nI k) s (nI c, nI i, mc) = some (.inl (if S1 3 p = 2 then nI (c + 1) else nI c, nI (i + 1), m2)) := by
            unfold fMo_odds_L35 fMo_odds_J72
            simp only [lit]
            rw [if_neg (by rw [nle (by omega) (by omega)]; omega), g2]
            simp only [Option.bind_some, bnd, nadd]
            rw [ix_nI (by omega) (by omega)]
            simp only [Option.bind_some, di, q1]
            by_cases h2 : S1 3 p = 2
            · rw [if_pos h2, if_pos (by rw [h2])]
            · rw [if_neg h2, if_neg (by rw [neq (by omega) (by omega)]; exact h2), Nat.add_zero]
          refine ⟨_, _, l1, l2, if S1 3 p = 2 then c + 1 else c, sc', m2, ?_, ?_, q3, q4, Or.inr q2⟩
          · split <;> rfl
          · split <;> rfl
        · obtain ⟨c, sc, mc, rfl, rfl, z1, z2, z3⟩ := hz
          refine ⟨(nI c, va_up X 201 sc), (nI c, mc), ?_, ?_, nI c, va_up X 201 sc, mc, rfl, rfl, z3.resolve_left (by omega)⟩
          · unfold fKL_odds_L33
            simp only [lit]
            rw [if_pos (by rw [nle (by omega) (by omega)]; omega)]
          · unfold fMo_odds_L35
            simp only [lit]
            rw [if_pos (by rw [nle (by omega) (by omega)]; omega)]
      · rw [if_neg h1, if_neg h2, isIn_no (Or.inr h2)]
        exact ⟨_, X, _, rfl, rfl, hR1⟩
  · unfold fKL_odds fMo_odds
    simp only [lit, bnd, qu_hasP0 hB hC hv, mo_isP0 hB hM hv, Option.bind_some, if_true]
    exact ⟨_, X, _, rfl, rfl, hR1⟩
end
