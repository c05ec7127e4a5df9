/-! GO, QUIT -/
def whyG (S : Nat → Nat → Nat) (p w : Nat) : Nat := if S 3 p = 0 then (if S 5 p = w then 2 else 0) else 1
def doG (S : Nat → Nat → Nat) (p w : Nat) : Nat → Nat → Nat := u2 S 5 p w
def whyQ (S : Nat → Nat → Nat) (p : Nat) : Nat := if S 3 p = 1 then 0 else 1
section
variable {n h L e t : Nat} {hp hm : Nat → Nat} {sr : Nat → Bool} {q m m' sc : Obj} {S S' : Nat → Nat → Nat}
theorem sc_tryG (hB : sQB n h L e t hp hm) (hC : sQC n h L e t hp hm sr q) (hV : sSV n h L hp S) (hS : sSC n S sc) {p w : Nat} (hpn : p < n) (hw : w < 3) : ∃ sc', fSc_tryGo q sc (nI p) (nI w) = some (nI (whyG S p w), sc') ∧ sSC n (if whyG S p w = 0 then doG S p w else S) sc' := by
  have h1 := qu_hasP hB hC hpn
  obtain ⟨b1, b2, b3, b4, b5, b6, b7, b8, b9⟩ := hB
  obtain ⟨r3, r4, r5, r6, r7, r8, r9, r10⟩ := hS.2.2 p hpn
  obtain ⟨v3, v4, v5, v6, -⟩ := (hV.2.2.1 p hpn).1
  unfold fSc_tryGo whyG
  simp (disch := omega) only [h1, r3, r5, Option.bind_some, bnd, Sum.elim_inl, Sum.elim_inr, lit, nle, nlt, neq, nadd, nsub, nx_or, nx_and, shl_1, ix_nI]
  rw [if_neg (by omega), if_neg (by omega), if_pos hw]
  by_cases w1 : S 3 p = 0
  · rw [if_pos w1]
    by_cases w2 : S 5 p = w
    · simp only [w1, w2, if_true]
      exact ⟨_, rfl, hS⟩
    · simp only [w1, w2, if_true, if_false]
      exact ⟨_, rfl, sSC_up hS (by omega) (by omega)⟩
  · simp only [w1, if_false]
    exact ⟨_, rfl, hS⟩
theorem mo_whyG (hB : sQB n h L e t hp hm) (hV : sSV n h L hp S) (hS : sSM n S (dOf m)) {p w : Nat} (hpn : p < n) (hw : w < 3) : fMo_whyGo m (nI p) (nI w) = some (nI (whyG S p w)) := by
  obtain ⟨b1, b2, b3, b4, b5, b6, b7, b8, b9⟩ := hB
  obtain ⟨r3, r4, r5, r6, r7, r8, r9, r10⟩ := (sSM_live hS).2.2 p hpn
  obtain ⟨v3, v4, v5, v6, -⟩ := (hV.2.2.1 p hpn).1
  unfold fMo_whyGo whyG
  simp (disch := omega) only [r3, r5, Option.bind_some, bnd, Sum.elim_inl, Sum.elim_inr, lit, nle, nlt, neq, nadd, nsub, nx_or, nx_and, shl_1, ix_nI]
  by_cases w1 : S 3 p = 0
  · rw [if_pos w1, if_pos w1]
    by_cases w2 : S 5 p = w
    · rw [if_pos w2, if_pos w2]
    · rw [if_neg w2, if_neg w2]
  · rw [if_neg w1, if_neg w1]
theorem mo_doG (hB : sQB n h L e t hp hm) (hV : sSV n h L hp S) (hS : sSM n S (dOf m)) {p w : Nat} (hpn : p < n) : mFr m (sI m 2 (89 + p) (nI w)) ∧ sSM n (doG S p w) (dOf (sI m 2 (89 + p) (nI w))) := by
  have b1 := hB.1
  exact ⟨mFr_sI (by omega) (by omega), sSM_up b1 hS hV.1.2 (j := 5) (p := p) (v := w) (by omega) (by omega) (by omega)⟩
theorem sSV_doG (hV : sSV n h L hp S) {p w : Nat} (hpn : p < n) (hw : w < 3) : sSV n h L hp (doG S p w) := by
  refine sSV_row hV (p := p) rfl rfl rfl rfl (fun r hr j => ?_) (fun _ => ?_)
  · unfold doG
    rw [u2_at, if_neg (fun z => hr z.2)]
  · obtain ⟨⟨v3, v4, v5, v6, v7, v8, v9, v10⟩, ⟨x1, x2, x3⟩, x4⟩ := hV.2.2.1 p hpn
    have e5 : doG S p w 5 p = w := by unfold doG; rw [u2_at, if_pos ⟨rfl, rfl⟩]
    have ee : ∀ j, j ≠ 5 → doG S p w j p = S j p := fun j h3 => by unfold doG; rw [u2_at, if_neg (fun z => h3 z.1)]
    have e0 : doG S p w 0 = S 0 := rfl
    unfold sRow
    rw [e5, e0, ee 3 (by omega), ee 4 (by omega), ee 6 (by omega), ee 7 (by omega), ee 8 (by omega), ee 9 (by omega), ee 10 (by omega)]
    exact ⟨⟨v3, v4, by omega, v6, v7, v8, v9, v10⟩, ⟨x1, x2, x3⟩, x4⟩
theorem sc_putIn (hB : sQB n h L e t hp hm) (hC : sQC n h L e t hp hm sr q) (hS : sSC n S sc) {p : Nat} (hpn : p < n) : ∃ sc', fSc_putInLane q sc (nI p) = some sc' ∧ sSC n (stn S p 0 0 0) sc' := by
  have h1 := qu_hasP hB hC hpn
  have b1 := hB.1
  unfold fSc_putInLane
  simp (disch := omega) only [h1, neg1, Option.bind_some, bnd, Sum.elim_inl, Sum.elim_inr, lit, nle, nlt, neq, nadd, nsub, nx_or, nx_and, shl_1, ix_nI]
  rw [if_neg (by omega)]
  refine ⟨_, rfl, ?_⟩
  exact sSC_up (sSC_up6 (sSC_up hS (j := 3) (p := p) (v := 0) (by omega) (by omega)) (p := p) (v := 0)) (j := 7) (p := p) (v := 0) (by omega) (by omega)
theorem sc_tryQ (hB : sQB n h L e t hp hm) (hC : sQC n h L e t hp hm sr q) (hV : sSV n h L hp S) (hS : sSC n S sc) {p : Nat} (hpn : p < n) : ∃ sc', fSc_tryQuit q sc (nI p) = some (nI (whyQ S p), sc') ∧ sSC n (if whyQ S p = 0 then stn S p 0 0 0 else S) sc' := by
  have h1 := qu_hasP hB hC hpn
  obtain ⟨sc2, g1, g2⟩ := sc_putIn hB hC hS hpn
  have b1 := hB.1
  obtain ⟨r3, r4, r5, r6, r7, r8, r9, r10⟩ := hS.2.2 p hpn
  obtain ⟨v3, v4, v5, v6, -⟩ := (hV.2.2.1 p hpn).1
  unfold fSc_tryQuit whyQ
  simp (disch := omega) only [h1, r3, g1, Option.bind_some, bnd, Sum.elim_inl, Sum.elim_inr, lit, nle, nlt, neq, nadd, nsub, nx_or, nx_and, shl_1, ix_nI]
  rw [if_neg (by omega)]
  by_cases w1 : S 3 p = 1
  · simp only [w1, if_true]
    exact ⟨_, rfl, g2⟩
  · simp only [w1, if_false]
    exact ⟨_, rfl, hS⟩
theorem mo_doQ (hB : sQB n h L e t hp hm) (hM : sQM n h L e t hp hm sr (m.1 2)) (hV : sSV n h L hp S) (hS : sSM n S (dOf m)) {p : Nat} (hpn : p < n) : ∃ m', fMo_stands m (nI p) (nI 0) (-nI 1) = some m' ∧ mFr m m' ∧ sSM n (stn S p 0 0 0) (dOf m') :=
  mo_stn hB hM hV.1.2 hS (p := p) (v := 0) (d := 0) (x := -nI 1) hpn (by omega) (by decide +kernel)
theorem stn_at {p v d w j r : Nat} : stn S p v d w j r = if r = p then (if j = 3 then v else if j = 6 then d else if j = 7 then w else S j r) else S j r := by
  unfold stn
  rw [u2_at, u2_at, u2_at]
  by_cases hr : r = p
  · rw [if_pos hr]
    by_cases h7 : j = 7
    · rw [if_pos ⟨h7, hr⟩, if_neg (by omega), if_neg (by omega), if_pos h7]
    · rw [if_neg (fun z => h7 z.1)]
      by_cases h6 : j = 6
      · rw [if_pos ⟨h6, hr⟩, if_neg (by omega), if_pos h6]
      · rw [if_neg (fun z => h6 z.1)]
        by_cases h3 : j = 3
        · rw [if_pos ⟨h3, hr⟩, if_pos h3]
        · rw [if_neg (fun z => h3 z.1), if_neg h3, if_neg h6, if_neg h7]
  · rw [if_neg hr, if_neg (fun z => hr z.2), if_neg (fun z => hr z.2), if_neg (fun z => hr z.2)]
theorem sSV_stn (hV : sSV n h L hp S) {p v d w : Nat} (hpn : p < n) (hv : v ≤ 2) (hd : d ≤ h) (hw : w ≤ 30) (h1 : v = 0 ↔ d = 0) (h2 : d ≠ 0 → hp (d - 1) = S 4 p) (h3 : v = 2 ↔ w ≠ 0) : sSV n h L hp (stn S p v d w) := by
  refine sSV_row hV (p := p) rfl rfl rfl rfl (fun r hr j => ?_) (fun _ => ?_)
  · rw [stn_at, if_neg hr]
  · obtain ⟨⟨v3, v4, v5, v6, v7, v8, v9, v10⟩, ⟨x1, x2, x3⟩, x4⟩ := hV.2.2.1 p hpn
    have e0 : stn S p v d w 0 = S 0 := rfl
    have e3 : stn S p v d w 3 p = v := by rw [stn_at, if_pos rfl, if_pos rfl]
    have e6 : stn S p v d w 6 p = d := by rw [stn_at, if_pos rfl, if_neg (by omega), if_pos rfl]
    have e7 : stn S p v d w 7 p = w := by rw [stn_at, if_pos rfl, if_neg (by omega), if_neg (by omega), if_pos rfl]
    have ee : ∀ j, j ≠ 3 → j ≠ 6 → j ≠ 7 → stn S p v d w j p = S j p := fun j h3 h6 h7 => by rw [stn_at, if_pos rfl, if_neg h3, if_neg h6, if_neg h7]
    unfold sRow
    rw [e3, e6, e7, e0, ee 4 (by omega) (by omega) (by omega), ee 5 (by omega) (by omega) (by omega), ee 8 (by omega) (by omega) (by omega), ee 9 (by omega) (by omega) (by omega), ee 10 (by omega) (by omega) (by omega)]
    exact ⟨⟨hv, v4, v5, hd, hw, v8, v9, v10⟩, ⟨h1, h2, h3⟩, x4⟩
theorem sSV_lane (hV : sSV n h L hp S) {p : Nat} (hpn : p < n) : sSV n h L hp (stn S p 0 0 0) := sSV_stn hV hpn (by omega) (by omega) (by omega) (by omega) (by omega) (by omega)
/-! MEET -/
def mkK (S : Nat → Nat → Nat) (p a : Nat) : Nat → Nat → Nat := va_up S 8 (fun r => S 8 r ||| (if r = p then a else 0) ||| (if a.testBit r then 2 ^ p else 0))
def mkG (S : Nat → Nat → Nat) (p a k : Nat) : Nat → Nat → Nat := va_up S 8 (fun r => S 8 r ||| (if r = p then a else 0) ||| (if r < k ∧ a.testBit r = true then 2 ^ p else 0))
theorem mkG_0 {p a : Nat} : mkG S p a 0 = u2 S 8 p (S 8 p ||| a) := by
  funext j r
  unfold mkG u2
  rw [va_up_at, va_up_at]
  by_cases hj : j = 8
  · rw [if_pos hj, if_pos hj, va_up_at]
    have hz : ¬ (r < 0 ∧ a.testBit r = true) := fun z => absurd z.1 (Nat.not_lt_zero _)
    by_cases hr : r = p
    · subst hr
      simp only [hz, if_true, if_false, Nat.or_zero]
    · simp only [hz, hr, if_false, Nat.or_zero]
  · rw [if_neg hj, if_neg hj]
theorem mkG_no {p a k : Nat} (hb : a.testBit k = false) : mkG S p a (k + 1) = mkG S p a k := by
  funext j r
  unfold mkG
  rw [va_up_at, va_up_at]
  by_cases hj : j = 8
  · rw [if_pos hj, if_pos hj]
    by_cases hr : r = k
    · subst hr
      simp only [hb, Bool.false_eq_true, and_false, if_false]
    · have h1 : (r < k + 1) = (r < k) := propext (by omega)
      simp only [h1]
  · rw [if_neg hj, if_neg hj]
theorem mkG_yes {p a k : Nat} (hb : a.testBit k = true) : mkG S p a (k + 1) = u2 (mkG S p a k) 8 k (mkG S p a k 8 k ||| 2 ^ p) := by
  funext j r
  rw [u2_at]
  unfold mkG
  rw [va_up_at, va_up_at, va_up_at]
  by_cases hj : j = 8
  · subst hj
    rw [if_pos rfl, if_pos rfl]
    by_cases hr : r = k
    · subst hr
      have h2 : r < r + 1 := by omega
      simp only [hb, h2, Nat.lt_irrefl, and_self, if_true, false_and, if_false, Nat.or_zero]
    · have h1 : (r < k + 1) = (r < k) := propext (by omega)
      simp only [h1, hr, and_false, if_false]
  · rw [if_neg hj, if_neg hj, if_neg (fun z => hj z.1)]
theorem sc_makeK (hB : sQB n h L e t hp hm) (hC : sQC n h L e t hp hm sr q) (hS : sSC n S sc) {p a : Nat} (hpn : p < n) (ha : a < 256) : ∃ sc', fSc_makeKnown q sc (nI p) (nI a) = some sc' ∧ sSC n (mkK S p a) sc' := by
  have h1 := qu_hasP hB hC hpn
  have b1 := hB.1
  obtain ⟨⟨c0, c1, c2, c3, c4⟩, -⟩ := hC
  obtain ⟨r3, r4, r5, r6, r7, r8, r9, r10⟩ := hS.2.2 p hpn
  have key := iter_I (f := fSc_makeKnown_L24 q (nI p) (nI a)) (I := fun k z => z.1 = nI k ∧ sSC n (mkG S p a k) z.2) (E := fun z => sSC n (mkK S p a) z) n (by omega) (a := (nI 0, sI sc 8 p (nI (S 8 p ||| a)))) ⟨rfl, by rw [mkG_0]; exact sSC_up hS (by omega) (by omega)⟩ (fun k z hk hz => ?_) (fun z hz => ?_)
  · obtain ⟨sc', g1, g2⟩ := key
    unfold fSc_makeKnown
    simp (disch := omega) only [h1, r8, Option.bind_some, bnd, Sum.elim_inl, Sum.elim_inr, lit, nle, nlt, neq, nadd, nsub, nx_or, nx_and, shl_1, ix_nI]
    rw [if_neg (by omega), g1]
    exact ⟨sc', rfl, g2⟩
  · obtain ⟨z1, z2⟩ := z
    obtain ⟨hz1, hz2⟩ := hz
    simp only at hz1 hz2
    subst hz1
    have g8 := (hz2.2.2 k hk).2.2.2.2.2.1
    have hb := hasBit_n (a := a) (p := k) (by omega) (by omega)
    left
    unfold fSc_makeKnown_L24
    cases hab : a.testBit k
    · rw [hab] at hb
      simp only [Bool.false_eq_true, if_false] at hb
      simp (disch := omega) only [c4, hb, Option.bind_some, bnd, Sum.elim_inl, Sum.elim_inr, lit, nle, nlt, neq, nadd, nsub, nx_or, nx_and, shl_1, ix_nI]
      rw [if_neg (by omega), if_neg (by omega), if_pos True.intro]
      exact ⟨_, rfl, rfl, by rw [mkG_no hab]; exact hz2⟩
    · rw [hab] at hb
      simp only [if_true] at hb
      simp (disch := omega) only [c4, hb, g8, Option.bind_some, bnd, Sum.elim_inl, Sum.elim_inr, lit, nle, nlt, neq, nadd, nsub, nx_or, nx_and, shl_1, ix_nI]
      rw [if_neg (by omega), if_neg (by omega), if_neg (by omega)]
      exact ⟨_, rfl, rfl, by rw [mkG_yes hab]; exact sSC_up hz2 (by omega) (by omega)⟩
  · obtain ⟨z1, z2⟩ := z
    obtain ⟨hz1, hz2⟩ := hz
    simp only at hz1 hz2
    subst hz1
    unfold fSc_makeKnown_L24
    simp (disch := omega) only [c4, Option.bind_some, bnd, Sum.elim_inl, Sum.elim_inr, lit, nle, nlt, neq, nadd, nsub, nx_or, nx_and, shl_1, ix_nI]
    refine ⟨z2, ?_, sSC_congr hz2 ⟨fun i _ _ => rfl, fun k _ => ⟨rfl, rfl⟩, fun r hr j _ _ => ?_⟩⟩
    · split
      · rfl
      · rw [if_pos (Nat.le_refl _)]
    · unfold mkK mkG
      rw [va_up_at, va_up_at]
      by_cases hj : j = 8
      · rw [if_pos hj, if_pos hj]
        simp only [hr, true_and]
      · rw [if_neg hj, if_neg hj]
end
