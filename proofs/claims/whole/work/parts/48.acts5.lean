noncomputable def aC (f : Obj → Obj → Option (Int32 × Obj)) (X : Nat → Obj) : Option (Int32 × (Nat → Obj)) :=
  (fPa_note X).bind fun r1 => (f (r1 5) (r1 12)).bind fun r2 => bnd (va_up r1 12 r2.2) fun X3 => (fPa_keepIfDone X3 r2.1).bind fun r4 => some (r4.1, r4.2)
def actH (X : Nat → Obj) (m : Obj) (f : Obj → Obj → Option (Int32 × Obj)) (g : Obj → Option (Int32 × Obj)) : Prop :=
  ∀ n h L e t hp hm sr S, sQB n h L e t hp hm → sQC n h L e t hp hm sr (X 5) → sQM n h L e t hp hm sr ((sI m 0 0 (nI 0)).1 2) → sSV n h L hp S → sSC n S (X 12) → sSM n S (dOf (sI m 0 0 (nI 0))) →
    (∃ r sc', f (X 5) (X 12) = some (r, sc') ∧ ¬ r = nI 0 ∧ g m = some (r, sI m 0 0 (nI 0)) ∧ sSC n S sc') ∨
    ∃ sc' S', f (X 5) (X 12) = some (nI 0, sc') ∧ sSV n h L hp S' ∧ sSC n S' sc' ∧ S' 0 1 = S 0 1 ∧ S' 0 0 = S 0 0 ∧
      ∀ m1, fMo_stores (sI m 0 0 (nI 0)) = some m1 → sQM n h L e t hp hm sr (m1.1 2) → sSM n S (dOf m1) → ∃ m2, g m = some (nI 0, m2) ∧ mFr m1 m2 ∧ sSM n S' (dOf m2)
section
variable {X X' X1 : Nat → Obj} {n h L e t : Nat} {hp hm : Nat → Nat} {sr : Nat → Bool} {q m m' m0 m1 sc sc2 : Obj} {S S' : Nat → Nat → Nat} {T B : Nat} {d un un' : Nat → Int32} {many many' : Int32}
theorem act_any (hR : R X m) (f : Obj → Obj → Option (Int32 × Obj)) (g : Obj → Option (Int32 × Obj)) (H : actH X m f g) : ∃ r X' m', aC f X = some (r, X') ∧ g m = some (r, m') ∧ R X' m' := by
  obtain ⟨n, h, L, e, t, hp, hm, sr, ⟨hB, hC, hM, hN, hc, hY⟩, hP, hT, hr⟩ := hR
  obtain ⟨X1, a1, a2, a3, -, a4⟩ := past_note hB.1 hP hc
  obtain ⟨S, hV, hS, hD, hx1, hx2⟩ := id hc
  have a5 : X1 5 = X 5 := a2 5 (by omega) (by omega) (by omega)
  unfold aC
  rw [a1]
  simp only [Option.bind_some]
  rw [a5, a3]
  rcases H n h L e t hp hm sr S hB hC hM hV hS hD with ⟨r, sc', f1, f2, f3, f4⟩ | ⟨sc', S', f1, f2, f3, f4, f4', f5⟩
  · rw [f1]
    simp only [Option.bind_some, bnd]
    unfold fPa_keepIfDone
    simp only [lit]
    rw [if_neg f2]
    refine ⟨r, va_up X1 12 sc', sI m 0 0 (nI 0), rfl, f3, ?_⟩
    refine R_mk hB hC hM hN hY hT hr (xf_trans a2 (xf_up (by omega))) mf_thr (fun i _ => rfl) ⟨S, hV, ?_, hD, hx1, hx2⟩ (pastN_past (pastN_up a4 (by omega)))
    exact f4
  · have hz : ∃ z, z ≤ 8 ∧ (sI m 0 0 (nI 0)).1 0 23 = nI z := by
      obtain ⟨_, z, _, h2, _, _, h5, _⟩ := hP
      exact ⟨z, h2, h5⟩
    obtain ⟨z, hz, h23⟩ := hz
    obtain ⟨m1, s1, s2, s3, s4⟩ := mo_stores hz h23
    have hd1 : sSM n S (dOf m1) := by
      show sSM n S (fun j => m1.1 2 (69 + j))
      rw [s3]; exact hD
    obtain ⟨m2, t1, t2, t3⟩ := f5 m1 s1 (by rw [s3]; exact hM) hd1
    rw [f1]
    simp only [Option.bind_some, bnd]
    unfold fPa_keepIfDone
    simp only [lit, if_true]
    have e7 : m2.1 7 = m1.1 7 := funext fun i => mFr_1 t2 (by omega)
    have e23 : m2.1 0 23 = m1.1 0 23 := mFr_1 t2 (by omega)
    rw [← e7, ← e23] at s4
    obtain ⟨X4, k1, k2, k3, k4⟩ := past_keep (X := va_up X1 12 sc') hB.1 (pastN_up a4 (by omega)) s4
    rw [k1]
    refine ⟨_, _, m2, rfl, t1, ?_⟩
    refine R_mk hB hC hM hN hY hT hr (xf_trans a2 (xf_trans (xf_up (by omega)) k2)) (mf_trans mf_thr (mf_trans s2 (mf_fr t2))) (fun i hi => ?_) ?_ k4
    · rw [mFr_2 t2 hi, s3]; rfl
    · refine ⟨S', f2, ?_, t3, by omega, by omega⟩
      show sSC n S' (X4 12)
      rw [k3]; exact f3
theorem k_knock (hR : R X m) (v w : Int32) : ∃ r X' m', fKL_knock X v w = some (r, X') ∧ fMo_knock m v w = some (r, m') ∧ R X' m' := by
  refine act_any hR (fun q sc => fSc_tryKnock q sc v w) (fun m => fMo_knock m v w) ?_
  intro n h L e t hp hm sr S hB hC hM hV hS hD
  have u1 : ¬ nI 1 = nI 0 := by decide +kernel
  rcases isP_or v n with ⟨p, hpn, rfl⟩ | hv
  · rcases isP_or w h with ⟨k, hk, rfl⟩ | hw
    · obtain ⟨sc', g1, g2⟩ := sc_tryK hB hC hV hS hpn hk
      have g3 := mo_whyK hB hM hV hD hpn hk
      have l1 : fMo_knock m (nI p) (nI k) = (if nI (whyK hp hm S p k) ≤ nI 0 then (fMo_stores (sI m 0 0 (nI 0))).bind fun r5 => (fMo_stands r5 (nI p) (nI 1) (nI k)).bind fun r6 => some (nI 0, r6) else some (nI (whyK hp hm S p k), sI m 0 0 (nI 0))) := by
        unfold fMo_knock
        simp only [lit, bnd, mo_isP hB hM hpn, mo_isH hB hM hk, g3, Option.bind_some, u1, if_false]
      have hwl : whyK hp hm S p k ≤ 3 := by
        unfold whyK
        split
        · split
          · split <;> omega
          · omega
        · omega
      by_cases h0 : whyK hp hm S p k = 0
      · right
        rw [if_pos h0] at g2
        have hy := whyK_0 h0
        refine ⟨sc', doK S p k, ?_, sSV_doK hB hV hpn hk hy, g2, rfl, rfl, fun m1 s1 s2 s3 => ?_⟩
        · show fSc_tryKnock (X 5) (X 12) (nI p) (nI k) = _
          rw [g1, h0]
        · obtain ⟨m2, t1, t2, t3⟩ := mo_doK hB s2 hV s3 (k := k) hpn hy.1
          refine ⟨m2, ?_, t2, t3⟩
          show fMo_knock m (nI p) (nI k) = _
          rw [l1, h0, if_pos (by rw [nle (by omega) (by omega)]; omega), s1]
          simp only [Option.bind_some]
          rw [t1]; rfl
      · left
        rw [if_neg h0] at g2
        refine ⟨_, sc', g1, by rw [neq (by omega) (by omega)]; exact h0, ?_, g2⟩
        show fMo_knock m (nI p) (nI k) = _
        rw [l1, if_neg (by rw [nle (by omega) (by omega)]; omega)]
    · left
      refine ⟨-nI 1, X 12, ?_, by decide +kernel, ?_, hS⟩
      · show fSc_tryKnock (X 5) (X 12) (nI p) w = _
        unfold fSc_tryKnock
        simp only [lit, qu_hasP hB hC hpn, qu_hasH0 hB hC hw, Option.bind_some, u1, if_false, if_true]
      · show fMo_knock m (nI p) w = _
        unfold fMo_knock
        simp only [lit, bnd, mo_isP hB hM hpn, mo_isH0 hB hM hw, Option.bind_some, u1, if_false, if_true]
  · left
    refine ⟨-nI 1, X 12, ?_, by decide +kernel, ?_, hS⟩
    · show fSc_tryKnock (X 5) (X 12) v w = _
      unfold fSc_tryKnock
      simp only [lit, qu_hasP0 hB hC hv, Option.bind_some, if_true]
    · show fMo_knock m v w = _
      unfold fMo_knock
      simp only [lit, bnd, mo_isP0 hB hM hv, Option.bind_some, if_true]
theorem k_calls (hR : R X m) (v w : Int32) : ∃ r X' m', fKL_calls X v w = some (r, X') ∧ fMo_calls m v w = some (r, m') ∧ R X' m' := by
  refine act_any hR (fun q sc => fSc_tryCall q sc v w) (fun m => fMo_calls m v w) ?_
  intro n h L e t hp hm sr S hB hC hM hV hS hD
  have u1 : ¬ nI 1 = nI 0 := by decide +kernel
  rcases isP_or v n with ⟨p, hpn, rfl⟩ | hv
  · rcases isP_or w h with ⟨k, hk, rfl⟩ | hw
    · obtain ⟨sc', g1, g2⟩ := sc_tryC hB hC hV hS hpn hk
      have g3 := mo_whyC hB hM hV hD hpn hk
      have l1 : fMo_calls m (nI p) (nI k) = (if nI (whyC hm S p k) ≤ nI 0 then (fMo_stores (sI m 0 0 (nI 0))).bind fun r5 => (fMo_books r5 (nI p) (nI k)).bind fun r6 => some (nI 0, r6) else some (nI (whyC hm S p k), sI m 0 0 (nI 0))) := by
        unfold fMo_calls
        simp only [lit, bnd, mo_isP hB hM hpn, mo_isH hB hM hk, g3, Option.bind_some, u1, if_false]
      have hwl : whyC hm S p k ≤ 3 := by
        unfold whyC
        split
        · omega
        · split
          · omega
          · split <;> omega
      by_cases h0 : whyC hm S p k = 0
      · right
        rw [if_pos h0] at g2
        refine ⟨sc', doC S p k, ?_, sSV_doC hV hpn hk h0, g2, rfl, rfl, fun m1 s1 s2 s3 => ?_⟩
        · show fSc_tryCall (X 5) (X 12) (nI p) (nI k) = _
          rw [g1, h0]
        · obtain ⟨m2, t1, t2, t3⟩ := mo_doC hB hV s3 (k := k) hpn h0
          refine ⟨m2, ?_, t2, t3⟩
          show fMo_calls m (nI p) (nI k) = _
          rw [l1, h0, if_pos (by rw [nle (by omega) (by omega)]; omega), s1]
          simp only [Option.bind_some]
          rw [t1]; rfl
      · left
        rw [if_neg h0] at g2
        refine ⟨_, sc', g1, by rw [neq (by omega) (by omega)]; exact h0, ?_, g2⟩
        show fMo_calls m (nI p) (nI k) = _
        rw [l1, if_neg (by rw [nle (by omega) (by omega)]; omega)]
    · left
      refine ⟨-nI 1, X 12, ?_, by decide +kernel, ?_, hS⟩
      · show fSc_tryCall (X 5) (X 12) (nI p) w = _
        unfold fSc_tryCall
        simp only [lit, qu_hasP hB hC hpn, qu_hasH0 hB hC hw, Option.bind_some, u1, if_false, if_true]
      · show fMo_calls m (nI p) w = _
        unfold fMo_calls
        simp only [lit, bnd, mo_isP hB hM hpn, mo_isH0 hB hM hw, Option.bind_some, u1, if_false, if_true]
  · left
    refine ⟨-nI 1, X 12, ?_, by decide +kernel, ?_, hS⟩
    · show fSc_tryCall (X 5) (X 12) v w = _
      unfold fSc_tryCall
      simp only [lit, qu_hasP0 hB hC hv, Option.bind_some, if_true]
    · show fMo_calls m v w = _
      unfold fMo_calls
      simp only [lit, bnd, mo_isP0 hB hM hv, Option.bind_some, if_true]
theorem k_go (hR : R X m) (v w : Int32) : ∃ r X' m', fKL_go X v w = some (r, X') ∧ fMo_go m v w = some (r, m') ∧ R X' m' := by
  refine act_any hR (fun q sc => fSc_tryGo q sc v w) (fun m => fMo_go m v w) ?_
  intro n h L e t hp hm sr S hB hC hM hV hS hD
  have u1 : ¬ nI 1 = nI 0 := by decide +kernel
  have b1 := hB.1
  rcases isP_or v n with ⟨p, hpn, rfl⟩ | hv
  · rcases isP_or w 3 with ⟨k, hk, rfl⟩ | hw
    · obtain ⟨sc', g1, g2⟩ := sc_tryG hB hC hV hS hpn hk
      have g3 := mo_whyG hB hV hD hpn hk
      have l1 : fMo_go m (nI p) (nI k) = (if nI (whyG S p k) ≤ nI 0 then (fMo_stores (sI m 0 0 (nI 0))).bind fun r5 => some (nI 0, sI r5 2 (89 + p) (nI k)) else some (nI (whyG S p k), sI m 0 0 (nI 0))) := by
        unfold fMo_go
        simp only [lit, bnd, mo_isP hB hM hpn, isIn_in' hk (show 2 < 2147483647 by omega), g3, Option.bind_some, u1, if_false, nadd]
        rw [ix_nI (by omega) (by omega)]
        rfl
      have hwl : whyG S p k ≤ 2 := by
        unfold whyG
        split
        · split <;> omega
        · omega
      by_cases h0 : whyG S p k = 0
      · right
        rw [if_pos h0] at g2
        refine ⟨sc', doG S p k, ?_, sSV_doG hV hpn hk, g2, rfl, rfl, fun m1 s1 s2 s3 => ?_⟩
        · show fSc_tryGo (X 5) (X 12) (nI p) (nI k) = _
          rw [g1, h0]
        · obtain ⟨t2, t3⟩ := mo_doG hB hV s3 (w := k) hpn
          refine ⟨_, ?_, t2, t3⟩
          show fMo_go m (nI p) (nI k) = _
          rw [l1, h0, if_pos (by rw [nle (by omega) (by omega)]; omega), s1]
          rfl
      · left
        rw [if_neg h0] at g2
        refine ⟨_, sc', g1, by rw [neq (by omega) (by omega)]; exact h0, ?_, g2⟩
        show fMo_go m (nI p) (nI k) = _
        rw [l1, if_neg (by rw [nle (by omega) (by omega)]; omega)]
    · left
      refine ⟨-nI 1, X 12, ?_, by decide +kernel, ?_, hS⟩
      · show fSc_tryGo (X 5) (X 12) (nI p) w = _
        unfold fSc_tryGo
        simp only [lit, qu_hasP hB hC hpn, Option.bind_some, u1, if_false]
        rcases out_or (by omega) hw with g | g
        · rw [if_pos g]
        · rw [if_neg (Int32.not_lt.mpr g)]; split <;> rfl
      · show fMo_go m (nI p) w = _
        unfold fMo_go
        simp only [lit, bnd, mo_isP hB hM hpn, isIn_out' (show 2 < 2147483647 by omega) hw, Option.bind_some, u1, if_false, if_true]
  · left
    refine ⟨-nI 1, X 12, ?_, by decide +kernel, ?_, hS⟩
    · show fSc_tryGo (X 5) (X 12) v w = _
      unfold fSc_tryGo
      simp only [lit, qu_hasP0 hB hC hv, Option.bind_some, if_true]
    · show fMo_go m v w = _
      unfold fMo_go
      simp only [lit, bnd, mo_isP0 hB hM hv, Option.bind_some, if_true]
theorem k_quit (hR : R X m) (v : Int32) : ∃ r X' m', fKL_quit X v = some (r, X') ∧ fMo_quit m v = some (r, m') ∧ R X' m' := by
  refine act_any hR (fun q sc => fSc_tryQuit q sc v) (fun m => fMo_quit m v) ?_
  intro n h L e t hp hm sr S hB hC hM hV hS hD
  have u1 : ¬ nI 1 = nI 0 := by decide +kernel
  have b1 := hB.1
  rcases isP_or v n with ⟨p, hpn, rfl⟩ | hv
  · obtain ⟨sc', g1, g2⟩ := sc_tryQ hB hC hV hS hpn
    have d3 := ((sSM_live hD).2.2 p hpn).1
    have v3 := (hV.2.2.1 p hpn).1.1
    have l1 : fMo_quit m (nI p) = (if S 3 p = 1 then (fMo_stores (sI m 0 0 (nI 0))).bind fun r5 => (fMo_stands r5 (nI p) (nI 0) (-nI 1)).bind fun r6 => some (nI 0, r6) else some (nI 1, sI m 0 0 (nI 0))) := by
      unfold fMo_quit
      simp only [lit, bnd, mo_isP hB hM hpn, Option.bind_some, u1, if_false, nadd]
      rw [ix_nI (by omega) (by omega)]
      simp only [Option.bind_some]
      rw [d3]
      by_cases h1 : S 3 p = 1
      · rw [if_pos h1, if_pos (by rw [h1])]
      · rw [if_neg h1, if_neg (by rw [neq (by omega) (by omega)]; exact h1)]
    by_cases h1 : S 3 p = 1
    · right
      have h0 : whyQ S p = 0 := by unfold whyQ; rw [if_pos h1]
      rw [if_pos h0] at g2
      refine ⟨sc', stn S p 0 0 0, ?_, sSV_lane hV hpn, g2, rfl, rfl, fun m1 s1 s2 s3 => ?_⟩
      · show fSc_tryQuit (X 5) (X 12) (nI p) = _
        rw [g1, h0]
      · obtain ⟨m2, t1, t2, t3⟩ := mo_doQ hB s2 hV s3 hpn
        refine ⟨m2, ?_, t2, t3⟩
        show fMo_quit m (nI p) = _
        rw [l1, if_pos h1, s1]
        simp only [Option.bind_some]
        rw [t1]; rfl
    · left
      have h0 : whyQ S p = 1 := by unfold whyQ; rw [if_neg h1]
      rw [h0, if_neg (by omega)] at g2
      rw [h0] at g1
      refine ⟨_, sc', g1, u1, ?_, g2⟩
      show fMo_quit m (nI p) = _
      rw [l1, if_neg h1]
  · left
    refine ⟨-nI 1, X 12, ?_, by decide +kernel, ?_, hS⟩
    · show fSc_tryQuit (X 5) (X 12) v = _
      unfold fSc_tryQuit
      simp only [lit, qu_hasP0 hB hC hv, Option.bind_some, if_true]
    · show fMo_quit m v = _
      unfold fMo_quit
      simp only [lit, bnd, mo_isP0 hB hM hv, Option.bind_some, if_true]
theorem k_meets (hR : R X m) (v w : Int32) : ∃ r X' m', fKL_meets X v w = some (r, X') ∧ fMo_meets m v w = some (r, m') ∧ R X' m' := by
  refine act_any hR (fun q sc => fSc_tryMeet q sc v w) (fun m => fMo_meets m v w) ?_
  intro n h L e t hp hm sr S hB hC hM hV hS hD
  have u1 : ¬ nI 1 = nI 0 := by decide +kernel
  have b1 := hB.1
  rcases isP_or v n with ⟨p, hpn, rfl⟩ | hv
  · rcases isP_or w n with ⟨k, hk, rfl⟩ | hw
    · by_cases hpk : p = k
      · subst hpk
        left
        refine ⟨-nI 1, X 12, ?_, by decide +kernel, ?_, hS⟩
        · show fSc_tryMeet (X 5) (X 12) (nI p) (nI p) = _
          unfold fSc_tryMeet
          rw [if_pos rfl]; rfl
        · show fMo_meets m (nI p) (nI p) = _
          unfold fMo_meets
          simp only [lit, bnd, mo_isP hB hM hpn, Option.bind_some, u1, if_false, if_true]
      · obtain ⟨sc', g1, g2⟩ := sc_tryM hB hC hV hS hpn hk hpk
        have d8 := ((sSM_live hD).2.2 p hpn).2.2.2.2.2.1
        have v8 := (hV.2.2.1 p hpn).1.2.2.2.2.2.1
        have g3 := bitOf_n (a := S 8 p) (p := k) (by omega) (by omega)
        have l1 : fMo_meets m (nI p) (nI k) = (if (S 8 p).testBit k then some (nI 1, sI m 0 0 (nI 0)) else (fMo_stores (sI m 0 0 (nI 0))).bind fun r5 => (fMo_knowsIn_2 r5 (nI 113) (nI p) (nI k)).bind fun r6 => some (nI 0, r6)) := by
          have hne : ¬ nI p = nI k := by rw [neq (by omega) (by omega)]; exact hpk
          unfold fMo_meets
          simp only [lit, bnd, mo_isP hB hM hpn, mo_isP hB hM hk, Option.bind_some, u1, hne, if_false, nadd]
          rw [ix_nI (by omega) (by omega)]
          simp only [Option.bind_some]
          rw [d8, g3]
          simp only [Option.bind_some]
          cases (S 8 p).testBit k
          · rfl
          · simp only [if_true, u1, if_false]
        cases hb : (S 8 p).testBit k
        · right
          rw [hb] at g1 g2 l1
          simp only [Bool.false_eq_true, if_false] at g1 g2 l1
          refine ⟨sc', _, g1, sSV_doM hB hV hpn hk hpk, g2, rfl, rfl, fun m1 s1 s2 s3 => ?_⟩
          obtain ⟨m2, t1, t2, t3⟩ := mo_knowsIn b1 hV s3 hpn hk hpk
          refine ⟨m2, ?_, t2, t3⟩
          show fMo_meets m (nI p) (nI k) = _
          rw [l1, s1]
          simp only [Option.bind_some]
          rw [t1]; rfl
        · left
          rw [hb] at g1 g2 l1
          simp only [if_true] at g1 g2 l1
          exact ⟨_, sc', g1, u1, l1, g2⟩
    · left
      have hne : ¬ nI p = w := fun z => hw p hpn z.symm
      refine ⟨-nI 1, X 12, ?_, by decide +kernel, ?_, hS⟩
      · show fSc_tryMeet (X 5) (X 12) (nI p) w = _
        unfold fSc_tryMeet
        simp only [lit, qu_hasP hB hC hpn, qu_hasP0 hB hC hw, Option.bind_some, u1, hne, if_false, if_true]
      · show fMo_meets m (nI p) w = _
        unfold fMo_meets
        simp only [lit, bnd, mo_isP hB hM hpn, mo_isP0 hB hM hw, Option.bind_some, u1, if_false, if_true]
  · left
    refine ⟨-nI 1, X 12, ?_, by decide +kernel, ?_, hS⟩
    · show fSc_tryMeet (X 5) (X 12) v w = _
      unfold fSc_tryMeet
      simp only [lit, qu_hasP0 hB hC hv, Option.bind_some, if_true]
      split <;> rfl
    · show fMo_meets m v w = _
      unfold fMo_meets
      simp only [lit, bnd, mo_isP0 hB hM hv, Option.bind_some, if_true]
end
