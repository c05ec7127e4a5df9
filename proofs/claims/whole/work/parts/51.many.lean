theorem in_rng {v : Int32} {a b : Nat} (ha : a < 2147483648) (hb : b < 2147483648) (h1 : ¬ v < nI a) (h2 : v ≤ nI b) : ∃ k, a ≤ k ∧ k ≤ b ∧ v = nI k := by
  rcases nI_cases v with ⟨k, hk, rfl⟩ | ⟨h3, -⟩
  · refine ⟨k, ?_, ?_, rfl⟩
    · rw [nlt hk ha] at h1; omega
    · rw [nle hk hb] at h2; exact h2
  · refine absurd (Int32.lt_of_lt_of_le h3 ?_) h1
    rw [nle (by omega) ha]
    omega
noncomputable def aM (f : Obj → Obj → Option (Int32 × Obj)) (X : Nat → Obj) : Option (Int32 × (Nat → Obj)) :=
  (fPa_note X).bind fun r1 => (f (r1 5) (r1 12)).bind fun r2 => bnd (va_up r1 12 r2.2) fun X3 => (fPa_keepIfAny X3 r2.1).bind fun r4 => some (r4.1, r4.2)
def manyH (X : Nat → Obj) (m : Obj) (f : Obj → Obj → Option (Int32 × Obj)) (g : Obj → Option (Int32 × Obj)) : Prop :=
  ∀ n h L e t hp hm sr, sQB n h L e t hp hm → sQC n h L e t hp hm sr (X 5) → sQM n h L e t hp hm sr ((sI m 0 0 (nI 0)).1 2) → RC n h L hp (X 12) (dOf (sI m 0 0 (nI 0))) →
    (∃ sc' m', f (X 5) (X 12) = some (nI 0, sc') ∧ g m = some (nI 0, m') ∧ mg (sI m 0 0 (nI 0)) m' ∧ RC n h L hp sc' (dOf m')) ∨
    ∀ m1, fMo_stores (sI m 0 0 (nI 0)) = some m1 → sQM n h L e t hp hm sr (m1.1 2) → RC n h L hp (X 12) (dOf m1) → ∃ c sc' m2, 1 ≤ c ∧ c ≤ 60 ∧ f (X 5) (X 12) = some (nI c, sc') ∧ g m = some (nI c, m2) ∧ mg m1 m2 ∧ RC n h L hp sc' (dOf m2)
def bsy (S : Nat → Nat → Nat) : Nat → Option Nat
  | 0 => none
  | i + 1 => match bsy S i with
    | none => if 0 < S 10 i then some i else none
    | some b => if S 10 b < S 10 i then some i else some b
theorem bsy_lt {S : Nat → Nat → Nat} : ∀ {i b : Nat}, bsy S i = some b → b < i ∧ 0 < S 10 b
  | 0, b, h => by cases h
  | i + 1, b, h => by
    unfold bsy at h
    cases hb : bsy S i with
    | none =>
      rw [hb] at h
      by_cases h1 : 0 < S 10 i
      · simp only [h1, if_true] at h
        have := Option.some.inj h
        subst this
        exact ⟨by omega, h1⟩
      · simp only [h1, if_false] at h
        cases h
    | some c =>
      rw [hb] at h
      have := bsy_lt hb
      by_cases h1 : S 10 c < S 10 i
      · simp only [h1, if_true] at h
        have := Option.some.inj h
        subst this
        exact ⟨by omega, by omega⟩
      · simp only [h1, if_false] at h
        have := Option.some.inj h
        subst this
        omega
section
variable {X X' X1 : Nat → Obj} {n h L e t : Nat} {hp hm : Nat → Nat} {sr : Nat → Bool} {q m m' m0 m1 sc sc0 sc2 : Obj} {S S' : Nat → Nat → Nat} {T B : Nat} {d un un' : Nat → Int32} {many many' : Int32}
theorem act_many (hR : R X m) (f : Obj → Obj → Option (Int32 × Obj)) (g : Obj → Option (Int32 × Obj)) (H : manyH X m f g) : ∃ r X' m', aM f X = some (r, X') ∧ g m = some (r, m') ∧ R X' m' := by
  obtain ⟨n, h, L, e, t, hp, hm, sr, ⟨hB, hC, hM, hN, hc, hY⟩, hP, hT, hr⟩ := hR
  obtain ⟨X1, a1, a2, a3, -, a4⟩ := past_note hB.1 hP hc
  have a5 : X1 5 = X 5 := a2 5 (by omega) (by omega) (by omega)
  unfold aM
  rw [a1]
  simp only [Option.bind_some]
  rw [a5, a3]
  rcases H n h L e t hp hm sr hB hC hM hc with ⟨sc', m', f1, f2, f3, f4⟩ | f5
  · rw [f1]
    simp only [Option.bind_some, bnd]
    unfold fPa_keepIfAny
    simp only [lit]
    rw [if_pos (by rw [nle (by omega) (by omega)]; omega)]
    refine ⟨nI 0, va_up X1 12 sc', m', rfl, f2, ?_⟩
    obtain ⟨g1, g2, g3, -, g5⟩ := f3
    refine R_mk hB hC hM hN hY hT hr (xf_trans a2 (xf_up (by omega))) (mf_trans mf_thr g1) g2 f4 ?_
    rw [g3, g5]
    exact pastN_past (pastN_up a4 (by omega))
  · have hz : ∃ z, z ≤ 8 ∧ (sI m 0 0 (nI 0)).1 0 23 = nI z := by
      obtain ⟨_, z, _, h2, _, _, h5, _⟩ := hP
      exact ⟨z, h2, h5⟩
    obtain ⟨z, hz, h23⟩ := hz
    obtain ⟨m1, s1, s2, s3, s4⟩ := mo_stores hz h23
    have hd1 : RC n h L hp (X 12) (dOf m1) := by
      show RC n h L hp (X 12) (fun j => m1.1 2 (69 + j))
      rw [s3]; exact hc
    obtain ⟨c, sc', m2, c1, c2, f1, t1, t2, t3⟩ := f5 m1 s1 (by rw [s3]; exact hM) hd1
    rw [f1]
    simp only [Option.bind_some, bnd]
    unfold fPa_keepIfAny
    simp only [lit]
    rw [if_neg (by rw [nle (by omega) (by omega)]; omega)]
    obtain ⟨g1, g2, g3, -, g5⟩ := t2
    rw [← g3, ← g5] at s4
    obtain ⟨X4, k1, k2, k3, k4⟩ := past_keep (X := va_up X1 12 sc') hB.1 (pastN_up a4 (by omega)) s4
    rw [k1]
    refine ⟨nI c, X4, m2, rfl, t1, ?_⟩
    refine R_mk hB hC hM hN hY hT hr (xf_trans a2 (xf_trans (xf_up (by omega)) k2)) (mf_trans mf_thr (mf_trans s2 g1)) (fun i hi => ?_) ?_ k4
    · rw [g2 i hi, s3]; rfl
    · rw [k3]; exact t3
theorem ticks_go (hB : sQB n h L e t hp hm) (hC : sQC n h L e t hp hm sr q) (hM : sQM n h L e t hp hm sr (m0.1 2)) (hT : T ≤ 1000) (hR : RT n h L hp m0 T (8 * T) sc m) {k : Nat} (hk : k ≤ 60) : ∃ sc' m', fSc_letTicksGo q sc (nI k) = some (nI (min k (1000 - T)), sc') ∧ fMo_goesOn m (nI k) = some (nI (min k (1000 - T)), m') ∧ RT n h L hp m0 (T + min k (1000 - T)) (8 * (T + min k (1000 - T))) sc' m' := by
  have key := iter2 (f := fSc_letTicksGo_L2 q (nI k)) (g := fMo_goesOn_L2 (nI k)) (I := fun i a a' => ∃ sc m, a = (nI i, sc) ∧ a' = (nI i, m) ∧ RT n h L hp m0 (T + i) (8 * (T + i)) sc m) (E := fun z z' => ∃ sc m, z = (nI (min k (1000 - T)), sc) ∧ z' = (nI (min k (1000 - T)), m) ∧ RT n h L hp m0 (T + min k (1000 - T)) (8 * (T + min k (1000 - T))) sc m) (min k (1000 - T)) (by omega) (a := (nI 0, sc)) (a' := (nI 0, m)) ⟨sc, m, rfl, rfl, hR⟩ (fun i a a' hi hz => ?_) (fun a a' hz => ?_)
  · obtain ⟨z, z', g1, g2, sc', m', rfl, rfl, h3⟩ := key
    refine ⟨sc', m', ?_, ?_, h3⟩
    · unfold fSc_letTicksGo
      simp only [lit, g1, Option.bind_some]
    · unfold fMo_goesOn
      simp only [lit, g2, Option.bind_some]
  · obtain ⟨sc, m, rfl, rfl, hz⟩ := hz
    left
    obtain ⟨S1, w1, w2, w3, w4, w5, w6⟩ := id hz
    have s1 := w2.1.1
    have d1 := (sSM_live w3).1.1
    rw [w5] at s1 d1
    obtain ⟨sc2, m2, t1, t2, t3⟩ := tick_all hB hC hM (by omega) hz
    refine ⟨(nI (i + 1), sc2), (nI (i + 1), m2), ?_, ?_, sc2, m2, rfl, rfl, t3⟩
    · unfold fSc_letTicksGo_L2
      simp only [lit]
      rw [s1, if_neg (by rw [nle (by omega) (by omega)]; omega), if_neg (by rw [nle (by omega) (by omega)]; omega), t1]
      simp only [Option.bind_some, nadd]
    · unfold fMo_goesOn_L2
      simp only [lit]
      rw [d1, if_neg (by rw [nle (by omega) (by omega)]; omega), if_neg (by rw [nle (by omega) (by omega)]; omega), t2]
      simp only [Option.bind_some, nadd]
  · obtain ⟨sc, m, rfl, rfl, hz⟩ := hz
    obtain ⟨S1, w1, w2, w3, w4, w5, w6⟩ := id hz
    have s1 := w2.1.1
    have d1 := (sSM_live w3).1.1
    rw [w5] at s1 d1
    refine ⟨_, _, ?_, ?_, sc, m, rfl, rfl, hz⟩
    · unfold fSc_letTicksGo_L2
      simp only [lit]
      rw [s1]
      by_cases hk1 : k ≤ min k (1000 - T)
      · rw [if_pos (by rw [nle (by omega) (by omega)]; omega)]
      · rw [if_neg (by rw [nle (by omega) (by omega)]; omega), if_pos (by rw [nle (by omega) (by omega)]; omega)]
    · unfold fMo_goesOn_L2
      simp only [lit]
      rw [d1]
      by_cases hk1 : k ≤ min k (1000 - T)
      · rw [if_pos (by rw [nle (by omega) (by omega)]; omega)]
      · rw [if_neg (by rw [nle (by omega) (by omega)]; omega), if_pos (by rw [nle (by omega) (by omega)]; omega)]
theorem RT_RC (hT : T ≤ 1000) (hR : RT n h L hp m0 T (8 * T) sc m) : RC n h L hp sc (dOf m) := by
  obtain ⟨S1, w1, w2, w3, w4, w5, w6⟩ := hR
  exact ⟨S1, w1, w2, w3, by omega, by omega⟩
theorem RC_RT (hR : RC n h L hp sc (dOf m)) : ∃ T, T ≤ 1000 ∧ sc.1 0 1 = nI T ∧ m.1 2 69 = nI T ∧ RT n h L hp m T (8 * T) sc m := by
  obtain ⟨S1, w1, w2, w3, w4, w5⟩ := hR
  exact ⟨S1 0 1, w4, w2.1.1, (sSM_live w3).1.1, S1, w1, w2, w3, mFr_refl _, rfl, w5⟩
theorem isIn_no {v : Int32} {a b : Nat} (h : v < nI a ∨ ¬ v ≤ nI b) : fMo_isIn v (nI a) (nI b) = some (nI 0) := by
  unfold fMo_isIn
  simp only [lit]
  by_cases h1 : v < nI a
  · rw [if_pos h1]
  · rw [if_neg h1, if_pos (Int32.not_le.mp (h.resolve_left h1))]
theorem isIn_yes {v : Int32} {a b : Nat} (h1 : ¬ v < nI a) (h2 : v ≤ nI b) : fMo_isIn v (nI a) (nI b) = some (nI 1) := by
  unfold fMo_isIn
  simp only [lit]
  rw [if_neg h1, if_neg (Int32.not_lt.mpr h2)]
theorem k_ticks (hR : R X m) (v : Int32) : ∃ r X' m', fKL_ticks X v = some (r, X') ∧ fMo_ticks m v = some (r, m') ∧ R X' m' := by
  have u1 : ¬ nI 1 = nI 0 := by decide +kernel
  by_cases h1 : v < nI 1
  · unfold fKL_ticks fMo_ticks
    simp only [lit, bnd]
    rw [if_pos h1, isIn_no (Or.inl h1)]
    exact ⟨_, X, _, rfl, rfl, R_thr hR⟩
  · by_cases h2 : v ≤ nI 60
    · obtain ⟨k, k1, k2, rfl⟩ := in_rng (by omega) (by omega) h1 h2
      have l1 : fKL_ticks X (nI k) = aM (fun q sc => fSc_letTicksGo q sc (nI k)) X := by
        unfold fKL_ticks aM
        simp only [lit]
        rw [if_neg h1, if_pos h2]
      rw [l1]
      refine act_many hR _ (fun m => fMo_ticks m (nI k)) ?_
      intro n h L e t hp hm sr hB hC hM hc
      obtain ⟨T, t1, t2, t3, t4⟩ := RC_RT hc
      have l2 : fMo_ticks m (nI k) = if T = 1000 then some (nI 0, sI m 0 0 (nI 0)) else (fMo_stores (sI m 0 0 (nI 0))).bind fun r3 => (fMo_goesOn r3 (nI k)).bind fun r4 => some (r4.1, r4.2) := by
        unfold fMo_ticks
        simp only [lit, bnd]
        rw [isIn_yes h1 h2]
        simp only [Option.bind_some, u1, if_false]
        rw [t3]
        by_cases hT : T = 1000
        · rw [if_pos hT, if_pos (by rw [hT])]
        · rw [if_neg hT, if_neg (by rw [neq (by omega) (by omega)]; exact hT)]
      by_cases hT : T = 1000
      · left
        obtain ⟨sc', m', g1, g2, g3⟩ := ticks_go hB hC hM t1 t4 k2
        have hmin : min k (1000 - T) = 0 := by omega
        rw [hmin] at g1 g2 g3
        refine ⟨sc', sI m 0 0 (nI 0), g1, ?_, mg_refl _, ?_⟩
        · show fMo_ticks m (nI k) = _
          rw [l2, if_pos hT]
        · have hgo : fMo_goesOn (sI m 0 0 (nI 0)) (nI k) = some (nI 0, sI m 0 0 (nI 0)) := by
            unfold fMo_goesOn
            have : iter (fMo_goesOn_L2 (nI k)) FU (nI 0, sI m 0 0 (nI 0)) = some (nI 0, sI m 0 0 (nI 0)) := by
              refine iter_FU (n := 1) ?_ (by omega)
              rw [iter_s]
              unfold fMo_goesOn_L2
              simp only [lit]
              rw [t3, if_neg (by rw [nle (by omega) (by omega)]; omega), if_pos (by rw [nle (by omega) (by omega)]; omega)]
              rfl
            simp only [lit]
            rw [this]; rfl
          rw [hgo] at g2
          have : sI m 0 0 (nI 0) = m' := congrArg Prod.snd (Option.some.inj g2)
          rw [this]
          exact RT_RC (by omega) g3
      · right
        intro m1 s1 s2 s3
        obtain ⟨T', t1', t2', t3', t4'⟩ := RC_RT s3
        have hTT : T' = T := (neq (by omega) (by omega)).mp (t2'.symm.trans t2)
        subst hTT
        obtain ⟨sc', m', g1, g2, g3⟩ := ticks_go hB hC s2 t1' t4' k2
        refine ⟨min k (1000 - T'), sc', m', by omega, by omega, g1, ?_, ?_, RT_RC (by omega) g3⟩
        · show fMo_ticks m (nI k) = _
          rw [l2, if_neg hT, s1]
          simp only [Option.bind_some, g2]
        · obtain ⟨S1, w1, w2, w3, w4, w5, w6⟩ := g3
          exact mg_fr w4
    · unfold fKL_ticks fMo_ticks
      simp only [lit, bnd]
      rw [if_neg h1, if_neg h2, isIn_no (Or.inr h2)]
      exact ⟨_, X, _, rfl, rfl, R_thr hR⟩
theorem k_undo (hR : R X m) : ∃ r X' m', fKL_undo X = some (r, X') ∧ fMo_undo m = some (r, m') ∧ R X' m' := by
  have hR1 := R_thr (v := nI 0) hR
  obtain ⟨n, h, L, e, t, hp, hm, sr, ⟨hB, hC, hM, hN, hc, hY⟩, ⟨f, z, h1, h2, h3, h4, h5, h6⟩, hT, hr⟩ := hR
  have h5' : (sI m 0 0 (nI 0)).1 0 23 = nI z := h5
  unfold fKL_undo fMo_undo
  by_cases hz : z = 0
  · subst hz
    rw [pa_back0 h4]
    simp only [lit, bnd]
    rw [h5', if_pos rfl]
    exact ⟨_, X, _, rfl, rfl, hR1⟩
  · obtain ⟨X1, hX1⟩ : ∃ X1, va_up X 100 (sI (X 100) 0 2 (nI (z - 1))) = X1 := ⟨_, rfl⟩
    have x1 : (X1 100).1 0 1 = nI f := by rw [← hX1]; exact h3
    have x2 : (X1 100).1 0 2 = nI (z - 1) := by rw [← hX1]; rfl
    have x3 : ∀ k, k ≠ 100 → X1 k = X k := fun k hk => by rw [← hX1]; exact va_up_ne _ _ hk
    have hc' := h6 (z - 1) (by omega)
    obtain ⟨sc', g1, g2⟩ := RC_copy (sc := X 12) hB.1 hc'
    have g1' : fSc_copyFrom (X1 (102 + 11 * ((f + (z - 1)) % 9))) (X1 12) = some sc' := by
      rw [x3 _ (by omega), x3 12 (by omega)]; exact g1
    rw [pa_backS h1 hz h2 h3 h4 hX1 g1', Option.bind_some]
    simp only [lit, bnd]
    rw [h5', if_neg (by rw [neq (by omega) (by omega)]; exact hz), nsub (by omega)]
    generalize hm1 : sI (sI m 0 0 (nI 0)) 0 23 (nI (z - 1)) = m1
    have y1 : m1.1 0 23 = nI (z - 1) := by rw [← hm1]; rfl
    have y2 : m1.1 2 = m.1 2 := by rw [← hm1]; rfl
    have y7 : m1.1 7 = m.1 7 := by rw [← hm1]; rfl
    have y3 : mf m m1 := by rw [← hm1]; exact mf_trans mf_thr (mf_sI (by omega))
    have key := cpyL (m := m1) (f := fMo_undo_L26) 2 69 92 (by omega) (fun k => m1.1 7 (92 * (z - 1) + k)) (fun k hk => ?_) (fun x => ?_)
    · rw [key]
      simp only [Option.bind_some]
      refine ⟨nI (z - 1), va_up X1 12 sc', sA m1 2 (fun i => if 69 ≤ i ∧ i < 69 + 92 then m1.1 7 (92 * (z - 1) + (i - 69)) else m1.1 2 i), ?_, ?_, ?_⟩
      · rw [va_up_ne (j := 100) (k := 12) _ _ (by omega), x2]
      · show some (m1.1 0 23, _) = _
        rw [y1]
      · refine R_mk hB hC hM hN hY hT hr (X' := va_up X1 12 sc') ?_ (mf_trans y3 ⟨rfl, fun j h0 h2 h7 h8 => va_up_ne _ _ h2, fun i _ _ _ => rfl⟩) (fun i hi => ?_) ?_ ?_
        · rw [← hX1]; exact xf_trans (xf_up (by omega)) (xf_up (by omega))
        · show (if 69 ≤ i ∧ i < 69 + 92 then _ else m1.1 2 i) = _
          rw [if_neg (by omega), y2]
        · refine RC_d hB.1 (d := fun j => m.1 7 (92 * (z - 1) + j)) (fun j hj => ?_) g2
          show (if 69 ≤ 69 + j ∧ 69 + j < 69 + 92 then m1.1 7 (92 * (z - 1) + (69 + j - 69)) else _) = _
          rw [if_pos (by omega), y7, show 69 + j - 69 = j by omega]
        · refine past_up (X := X1) ⟨f, z - 1, h1, by omega, x1, x2, y1, fun i hi => ?_⟩ (by omega)
          rw [x3 _ (by omega)]
          show RC n h L hp _ (fun j => m1.1 7 (92 * i + j))
          rw [y7]
          exact h6 i (by omega)
    · generalize hg : (fun i => if 69 ≤ i ∧ i < 69 + k then m1.1 7 (92 * (z - 1) + (i - 69)) else m1.1 2 i) = g
      have e1 : (sA m1 2 g).1 0 23 = nI (z - 1) := y1
      have e2 : ∀ i, (sA m1 2 g).1 7 i = m1.1 7 i := fun i => rfl
      unfold fMo_undo_L26
      simp only [lit]
      rw [if_neg (by rw [nle (by omega) (by omega)]; omega), e1, nmul, nadd, nadd, ix_nI (by omega) (by omega), ix_nI (by omega) (by omega)]
      simp only [Option.bind_some, bnd, nadd, e2]
    · unfold fMo_undo_L26
      simp only [lit]
      rw [if_pos (by rw [nle (by omega) (by omega)]; omega)]
theorem k_answer (hR : R X m) (v : Int32) : ∃ r m', fKL_answer X v = some r ∧ fMo_answer m v = some (r, m') ∧ R X m' := by
  have hR1 := R_thr (v := nI 0) hR
  obtain ⟨n, h, L, e, t, hp, hm, sr, ⟨hB, hC, hM, hN, ⟨S, hV, hS, hD, -⟩, -⟩, -⟩ := hR
  have hM' : sQM n h L e t hp hm sr ((sI m 0 0 (nI 0)).1 2) := hM
  have hD' : sSM n S (dOf (sI m 0 0 (nI 0))) := hD
  have u1 : ¬ nI 1 = nI 0 := by decide +kernel
  have b1 := hB.1
  rcases isP_or v n with ⟨p, hpn, rfl⟩ | hv
  · have d3 := ((sSM_live hD').2.2 p hpn).1
    have d6 := ((sSM_live hD').2.2 p hpn).2.2.2.1
    obtain ⟨⟨v3, v4, v5, v6, v7, v8, v9, v10⟩, ⟨x1, x2, x3⟩, x4⟩ := hV.2.2.1 p hpn
    have k1 := (sc_how hB hC hV hS hpn).2.1
    unfold fKL_answer fMo_answer
    simp (disch := omega) only [lit, bnd, k1, mo_isP hB hM' hpn, Option.bind_some, u1, if_false, nadd, ix_nI, d3, d6]
    by_cases h1 : S 3 p = 1
    · obtain ⟨k, hk6⟩ : ∃ k, S 6 p = k + 1 := ⟨S 6 p - 1, by omega⟩
      have a1 := sc_answer hB hC hV hS hpn h1 hk6 (bz := 0) (by omega)
      have a2 := mo_answers hB hM' hV hD' (k := k) (by omega) (bz := 0) (by omega)
      rw [h1, if_neg (show ¬ nI (if 1 = 1 then 1 else 0) = nI 0 by decide +kernel), if_pos rfl, a1, hk6, nsub (by omega), Nat.add_sub_cancel, a2]
      exact ⟨_, _, rfl, rfl, hR1⟩
    · rw [if_neg h1, if_pos rfl, if_neg (by rw [neq (by omega) (by omega)]; exact h1)]
      exact ⟨_, _, rfl, rfl, hR1⟩
  · unfold fKL_answer fMo_answer
    simp only [lit, bnd, (sc_how0 (sc := X 12) hB hC hv).2.1, mo_isP0 hB hM' hv, Option.bind_some, if_true]
    exact ⟨_, _, rfl, rfl, hR1⟩
theorem k_busiest (hR : R X m) : ∃ r m', fKL_busiest X = some r ∧ fMo_busiest m = some (r, m') ∧ R X m' := by
  have hR1 := R_thr (v := nI 0) hR
  obtain ⟨n, h, L, e, t, hp, hm, sr, ⟨hB, hC, hM, hN, ⟨S, hV, hS, hD, -⟩, -⟩, -⟩ := hR
  have hM' : sQM n h L e t hp hm sr ((sI m 0 0 (nI 0)).1 2) := hM
  have hD' : sSM n S (dOf (sI m 0 0 (nI 0))) := hD
  have b1 := hB.1
  have c4 := hC.1.2.2.2.2
  have c1 := hM'.1.2.1
  have hG := hV.1.1.2
  have key := iter_F (f := fSc_whoOpenedMost_L6 (X 5) (X 12)) (F := fun i => (bI (bsy S i), nI (match bsy S i with | none => 0 | some b => S 10 b), nI i)) (bI (bsy S n)) n (by omega) (fun i hi => ?_) ?_
  · have key2 := iter_F (f := fMo_busiest_L9 (sI m 0 0 (nI 0))) (F := fun i => (bI (bsy S i), nI i)) (bI (bsy S n)) n (by omega) (fun i hi => ?_) ?_
    · refine ⟨bI (bsy S n), _, ?_, ?_, hR1⟩
      · unfold fKL_busiest fSc_whoOpenedMost
        simp only [lit]
        have key' : iter (fSc_whoOpenedMost_L6 (X 5) (X 12)) FU (-nI 1, nI 0, nI 0) = _ := key
        rw [key']; rfl
      · unfold fMo_busiest
        simp only [lit, bnd]
        have key' : iter (fMo_busiest_L9 (sI m 0 0 (nI 0))) FU (-nI 1, nI 0) = _ := key2
        rw [key']; rfl
    · have d10 := ((sSM_live hD').2.2 i hi).2.2.2.2.2.2.2
      have w10 := (hV.2.2.1 i hi).1.2.2.2.2.2.2.2
      show fMo_busiest_L9 (sI m 0 0 (nI 0)) (bI (bsy S i), nI i) = some (.inl (bI (bsy S (i + 1)), nI (i + 1)))
      unfold fMo_busiest_L9
      simp only [lit, nadd]
      rw [c1, if_neg (by rw [nle (by omega) (by omega)]; omega), ix_nI (by omega) (by omega)]
      simp only [Option.bind_some]
      rw [d10]
      cases hb : bsy S i with
      | none =>
        simp only [bsy, hb]
        by_cases h0 : 0 < S 10 i
        · rw [if_neg (by rw [nle (by omega) (by omega)]; omega), if_pos (show bI none < nI 0 by decide +kernel)]
          simp only [h0, if_true, bI]
        · rw [if_pos (by rw [nle (by omega) (by omega)]; omega)]
          simp only [h0, if_false]
      | some b =>
        obtain ⟨q1, q2⟩ := bsy_lt hb
        have d10b := ((sSM_live hD').2.2 b (by omega)).2.2.2.2.2.2.2
        have w10b := (hV.2.2.1 b (by omega)).1.2.2.2.2.2.2.2
        simp only [bsy, hb, bI, nadd]
        rw [ix_nI (by omega) (by omega)]
        simp only [Option.bind_some]
        rw [d10b, if_neg (nI_lt0 (by omega))]
        by_cases h0 : S 10 b < S 10 i
        · rw [if_neg (by rw [nle (by omega) (by omega)]; omega), if_neg (by rw [nle (by omega) (by omega)]; omega)]
          simp only [h0, if_true]
        · simp only [h0, if_false]
          rw [if_pos (c := nI (S 10 i) ≤ nI (S 10 b)) (by rw [nle (by omega) (by omega)]; omega)]
          split <;> rfl
    · show fMo_busiest_L9 (sI m 0 0 (nI 0)) (bI (bsy S n), nI n) = some (.inr (bI (bsy S n)))
      unfold fMo_busiest_L9
      simp only [lit]
      rw [c1, if_pos (by rw [nle (by omega) (by omega)]; omega)]
  · have d10 := (hS.2.2 i hi).2.2.2.2.2.2.2
    have w10 := (hV.2.2.1 i hi).1.2.2.2.2.2.2.2
    show fSc_whoOpenedMost_L6 (X 5) (X 12) (bI (bsy S i), nI _, nI i) = some (.inl (bI (bsy S (i + 1)), nI _, nI (i + 1)))
    unfold fSc_whoOpenedMost_L6
    simp only [lit, nadd]
    rw [c4, if_neg (by rw [nle (by omega) (by omega)]; omega), if_neg (by rw [nle (by omega) (by omega)]; omega), ix_nI (by omega) (by omega)]
    simp only [Option.bind_some, bnd]
    rw [d10]
    cases hb : bsy S i with
    | none =>
      simp only [bsy, hb]
      by_cases h0 : 0 < S 10 i
      · rw [if_neg (by rw [nle (by omega) (by omega)]; omega)]
        simp only [h0, if_true, bI]
      · rw [if_pos (by rw [nle (by omega) (by omega)]; omega)]
        simp only [h0, if_false]
    | some b =>
      obtain ⟨q1, q2⟩ := bsy_lt hb
      have w10b := (hV.2.2.1 b (by omega)).1.2.2.2.2.2.2.2
      simp only [bsy, hb]
      by_cases h0 : S 10 b < S 10 i
      · rw [if_neg (by rw [nle (by omega) (by omega)]; omega)]
        simp only [h0, if_true, bI]
      · rw [if_pos (by rw [nle (by omega) (by omega)]; omega)]
        simp only [h0, if_false]
  · show fSc_whoOpenedMost_L6 (X 5) (X 12) (bI (bsy S n), nI _, nI n) = some (.inr (bI (bsy S n)))
    unfold fSc_whoOpenedMost_L6
    simp only [lit]
    rw [c4]
    split
    · rfl
    · rw [if_pos (by rw [nle (by omega) (by omega)]; omega)]
end
