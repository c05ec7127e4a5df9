theorem neg1 : -nI 1 = nI 0 - nI 1 := by decide +kernel
def sEq (n : Nat) (S S' : Nat → Nat → Nat) : Prop := (∀ i, 1 ≤ i → i ≤ 3 → S' 0 i = S 0 i) ∧ (∀ k, k < S 0 3 → S' 1 k = S 1 k ∧ S' 2 k = S 2 k) ∧ ∀ p, p < n → ∀ j, 3 ≤ j → j ≤ 10 → S' j p = S j p
section
variable {n h L e t : Nat} {hp hm : Nat → Nat} {sr : Nat → Bool} {q m m' sc : Obj} {S S' : Nat → Nat → Nat}
theorem sSC_congr (hS : sSC n S sc) (hE : sEq n S S') : sSC n S' sc := by
  obtain ⟨e0, e1, e2⟩ := hE
  obtain ⟨⟨s1, s2, s3⟩, s4, s5⟩ := hS
  refine ⟨⟨?_, ?_, ?_⟩, fun k hk => ?_, fun r hr => ?_⟩
  · rw [e0 1 (by omega) (by omega)]; exact s1
  · rw [e0 2 (by omega) (by omega)]; exact s2
  · rw [e0 3 (by omega) (by omega)]; exact s3
  · rw [e0 3 (by omega) (by omega)] at hk
    rw [(e1 k hk).1, (e1 k hk).2]
    exact s4 k hk
  · have g := e2 r hr
    rw [g 3 (by omega) (by omega), g 4 (by omega) (by omega), g 5 (by omega) (by omega), g 6 (by omega) (by omega), g 7 (by omega) (by omega), g 8 (by omega) (by omega), g 9 (by omega) (by omega), g 10 (by omega) (by omega)]
    exact s5 r hr
/-- KNOCK -/
def whyK (hp hm : Nat → Nat) (S : Nat → Nat → Nat) (p k : Nat) : Nat := if S 3 p = 0 then (if hp k = S 4 p then (if hm p = k + 1 then 3 else 0) else 2) else 1
def doK (S : Nat → Nat → Nat) (p k : Nat) : Nat → Nat → Nat := u2 (u2 S 3 p 1) 6 p (k + 1)
theorem sc_tryK (hB : sQB n h L e t hp hm) (hC : sQC n h L e t hp hm sr q) (hV : sSV n h L hp S) (hS : sSC n S sc) {p k : Nat} (hpn : p < n) (hk : k < h) : ∃ sc', fSc_tryKnock q sc (nI p) (nI k) = some (nI (whyK hp hm S p k), sc') ∧ sSC n (if whyK hp hm S p k = 0 then doK S p k else S) sc' := by
  have h1 := qu_hasP hB hC hpn
  have h2 := qu_hasH hB hC hk
  have h3 := qu_place hB hC hk
  have h4 := qu_home hB hC hpn
  obtain ⟨b1, b2, b3, b4, b5, b6, b7, b8, b9⟩ := hB
  have h5 := b9 p hpn
  have h6 := b8 k hk
  obtain ⟨r3, r4, r5, r6, r7, r8, r9, r10⟩ := hS.2.2 p hpn
  obtain ⟨v3, v4, v5, v6, -⟩ := (hV.2.2.1 p hpn).1
  unfold fSc_tryKnock whyK
  simp (disch := omega) only [h1, h2, h3, h4, r3, r4, home_eq, Option.bind_some, bnd, Sum.elim_inl, Sum.elim_inr, lit, nle, nlt, neq, nadd, nsub, nx_or, nx_and, shl_1, ix_nI]
  rw [if_neg (by omega), if_neg (by omega)]
  by_cases w1 : S 3 p = 0
  · rw [if_pos w1]
    by_cases w2 : hp k = S 4 p
    · rw [if_pos w2]
      by_cases w3 : hm p = k + 1
      · simp only [w1, w2, w3, if_true]
        exact ⟨_, rfl, hS⟩
      · simp only [w1, w2, w3, if_true, if_false]
        refine ⟨_, rfl, ?_⟩
        have g := sSC_up6 (sSC_up hS (j := 3) (p := p) (v := 1) (by omega) (by omega)) (p := p) (v := k + 1)
        rw [nsub (by omega)] at g
        exact g
    · simp only [w1, w2, if_true, if_false]
      exact ⟨_, rfl, hS⟩
  · simp only [w1, if_false]
    exact ⟨_, rfl, hS⟩
theorem mo_whyK (hB : sQB n h L e t hp hm) (hM : sQM n h L e t hp hm sr (m.1 2)) (hV : sSV n h L hp S) (hS : sSM n S (dOf m)) {p k : Nat} (hpn : p < n) (hk : k < h) : fMo_whyKnock m (nI p) (nI k) = some (nI (whyK hp hm S p k)) := by
  obtain ⟨b1, b2, b3, b4, b5, b6, b7, b8, b9⟩ := hB
  obtain ⟨-, c5, c6, c7⟩ := hM
  have h5 := b9 p hpn
  have h6 := b8 k hk
  have c5' := c5 k hk
  have c6' := c6 p hpn
  obtain ⟨r3, r4, r5, r6, r7, r8, r9, r10⟩ := (sSM_live hS).2.2 p hpn
  obtain ⟨v3, v4, v5, v6, -⟩ := (hV.2.2.1 p hpn).1
  unfold fMo_whyKnock whyK
  simp (disch := omega) only [r3, r4, c5', c6', Option.bind_some, bnd, Sum.elim_inl, Sum.elim_inr, lit, nle, nlt, neq, nadd, nsub, nx_or, nx_and, shl_1, ix_nI]
  by_cases w1 : S 3 p = 0
  · rw [if_pos w1, if_pos w1]
    by_cases w2 : hp k = S 4 p
    · rw [if_pos w2, if_pos w2]
      by_cases w3 : hm p = k + 1
      · rw [if_pos w3, if_pos w3]
      · rw [if_neg w3, if_neg w3]
    · rw [if_neg w2, if_neg w2]
  · rw [if_neg w1, if_neg w1]
theorem mo_stands (hM4 : m.1 2 4 = nI t) {p v : Nat} {x : Int32} (hp8 : p < 8) (hv : v ≤ 2) : fMo_stands m (nI p) (nI v) x = some (sI (sI (sI m 2 (73 + p) (nI v)) 2 (97 + p) (x + nI 1)) 2 (105 + p) (nI (if v = 2 then t else 0))) := by
  unfold fMo_stands
  have e4 : (sI (sI m 2 (73 + p) (nI v)) 2 (97 + p) (x + nI 1)).1 2 4 = nI t := by
    rw [sI_1, if_neg (by omega), sI_1, if_neg (by omega)]
    exact hM4
  simp (disch := omega) only [e4, Option.bind_some, bnd, Sum.elim_inl, Sum.elim_inr, lit, nle, nlt, neq, nadd, nsub, nx_or, nx_and, shl_1, ix_nI]
  by_cases w1 : v = 2
  · rw [if_pos w1, if_pos w1]
  · rw [if_neg w1, if_neg w1]
/-- how a person stands: 3, 6, 7 together -/
def stn (S : Nat → Nat → Nat) (p v d w : Nat) : Nat → Nat → Nat := u2 (u2 (u2 S 3 p v) 6 p d) 7 p w
theorem mo_stn (hB : sQB n h L e t hp hm) (hM : sQM n h L e t hp hm sr (m.1 2)) (hc : S 0 3 ≤ 12) (hS : sSM n S (dOf m)) {p v d : Nat} {x : Int32} (hpn : p < n) (hv : v ≤ 2) (hx : x + nI 1 = nI d) : ∃ m', fMo_stands m (nI p) (nI v) x = some m' ∧ mFr m m' ∧ sSM n (stn S p v d (if v = 2 then t else 0)) (dOf m') := by
  have b1 := hB.1
  refine ⟨_, mo_stands hM.1.2.2.2.2 (by omega) hv, ?_, ?_⟩
  · exact mFr_trans (mFr_sI (by omega) (by omega)) (mFr_trans (mFr_sI (by omega) (by omega)) (mFr_sI (by omega) (by omega)))
  · rw [hx]
    have g1 := sSM_up b1 hS hc (j := 3) (p := p) (v := v) (by omega) (by omega) (by omega)
    have g2 := sSM_up b1 g1 (by rw [u2_at, if_neg (by omega)]; exact hc) (j := 6) (p := p) (v := d) (by omega) (by omega) (by omega)
    have g3 := sSM_up b1 g2 (by rw [u2_at, if_neg (by omega), u2_at, if_neg (by omega)]; exact hc) (j := 7) (p := p) (v := if v = 2 then t else 0) (by omega) (by omega) (by omega)
    exact g3
theorem sSM_congr (hS : sSM n S (dOf m)) (hE : sEq n S S') : sSM n S' (dOf m) := by
  obtain ⟨e0, e1, e2⟩ := hE
  obtain ⟨⟨s1, s2, s3, s3'⟩, s4, s5⟩ := hS
  refine ⟨⟨?_, ?_, ?_, ?_⟩, fun k hk => ?_, fun r hr => ?_⟩
  · rw [e0 1 (by omega) (by omega)]; exact s1
  · rw [sm_congr (fun p hp => e2 p hp 10 (by omega) (by omega))]; exact s2
  · rw [e0 2 (by omega) (by omega)]; exact s3
  · rw [e0 3 (by omega) (by omega)]; exact s3'
  · rw [e0 3 (by omega) (by omega)] at hk
    rw [(e1 k hk).1, (e1 k hk).2]
    exact s4 k hk
  · have g := e2 r hr
    rw [g 3 (by omega) (by omega), g 4 (by omega) (by omega), g 5 (by omega) (by omega), g 6 (by omega) (by omega), g 7 (by omega) (by omega), g 8 (by omega) (by omega), g 9 (by omega) (by omega), g 10 (by omega) (by omega)]
    exact s5 r hr
theorem u2_0 {j p v : Nat} (hj : 0 ≠ j) : u2 S j p v 0 = S 0 := va_up_ne _ _ hj
theorem u2_j {j j' p v : Nat} (hj : j' ≠ j) : u2 S j p v j' = S j' := va_up_ne _ _ hj
theorem mo_doK (hB : sQB n h L e t hp hm) (hM : sQM n h L e t hp hm sr (m.1 2)) (hV : sSV n h L hp S) (hS : sSM n S (dOf m)) {p k : Nat} (hpn : p < n) (w1 : S 3 p = 0) : ∃ m', fMo_stands m (nI p) (nI 1) (nI k) = some m' ∧ mFr m m' ∧ sSM n (doK S p k) (dOf m') := by
  obtain ⟨m', g1, g2, g3⟩ := mo_stn hB hM hV.1.2 hS (p := p) (v := 1) (d := k + 1) (x := nI k) hpn (by omega) (nadd k 1)
  refine ⟨m', g1, g2, sSM_congr g3 ⟨fun i _ _ => ?_, fun k _ => ?_, fun r hr j hj _ => ?_⟩⟩
  · rfl
  · exact ⟨rfl, rfl⟩
  · have w7 : S 7 p = 0 := by
      have := (hV.2.2.1 p hpn).2.1.2.2
      omega
    show doK S p k j r = stn S p 1 (k + 1) 0 j r
    unfold stn doK
    rw [u2_at _ 7]
    by_cases hc : j = 7 ∧ r = p
    · rw [if_pos hc, hc.1, hc.2, u2_at, if_neg (by omega), u2_at, if_neg (by omega)]
      exact w7
    · rw [if_neg hc]
theorem whyK_0 {p k : Nat} (hw : whyK hp hm S p k = 0) : S 3 p = 0 ∧ hp k = S 4 p := by
  unfold whyK at hw
  by_cases w : S 3 p = 0
  · rw [if_pos w] at hw
    by_cases w2 : hp k = S 4 p
    · exact ⟨w, w2⟩
    · rw [if_neg w2] at hw; omega
  · rw [if_neg w] at hw; omega
theorem sSV_doK (hB : sQB n h L e t hp hm) (hV : sSV n h L hp S) {p k : Nat} (hpn : p < n) (hk : k < h) (w : S 3 p = 0 ∧ hp k = S 4 p) : sSV n h L hp (doK S p k) := by
  refine sSV_row hV (p := p) ?_ ?_ ?_ ?_ (fun r hr j => ?_) (fun _ => ?_)
  · rfl
  · rfl
  · rfl
  · rfl
  · unfold doK
    rw [u2_at, if_neg (fun z => hr z.2), u2_at, if_neg (fun z => hr z.2)]
  · obtain ⟨⟨v3, v4, v5, v6, v7, v8, v9, v10⟩, ⟨x1, x2, x3⟩, x4⟩ := hV.2.2.1 p hpn
    have e3 : doK S p k 3 p = 1 := by unfold doK; rw [u2_at, if_neg (by omega), u2_at, if_pos ⟨rfl, rfl⟩]
    have e6 : doK S p k 6 p = k + 1 := by unfold doK; rw [u2_at, if_pos ⟨rfl, rfl⟩]
    have ee : ∀ j, j ≠ 3 → j ≠ 6 → doK S p k j p = S j p := fun j h3 h6 => by unfold doK; rw [u2_at, if_neg (fun z => h6 z.1), u2_at, if_neg (fun z => h3 z.1)]
    have e0 : doK S p k 0 = S 0 := rfl
    unfold sRow
    rw [e3, e6, e0, ee 4 (by omega) (by omega), ee 5 (by omega) (by omega), ee 7 (by omega) (by omega), ee 8 (by omega) (by omega), ee 9 (by omega) (by omega), ee 10 (by omega) (by omega)]
    refine ⟨⟨by omega, v4, v5, by omega, v7, v8, v9, v10⟩, ⟨by omega, fun _ => ?_, by omega⟩, x4⟩
    rw [Nat.add_sub_cancel]
    exact w.2
end
