theorem lpp {f g : Int32 × Obj → Option ((Int32 × Obj) ⊕ Obj)} (J : Nat → Obj → Obj → Prop) (N : Nat) (hN : N < 2000) {x y : Obj} (h0 : J 0 x y)
    (hs : ∀ k x y, k < N → J k x y → ∃ x' y', f (nI k, x) = some (.inl (nI (k + 1), x')) ∧ g (nI k, y) = some (.inl (nI (k + 1), y')) ∧ J (k + 1) x' y')
    (he : ∀ x y, J N x y → f (nI N, x) = some (.inr x) ∧ g (nI N, y) = some (.inr y)) : ∃ x' y', iter f FU (nI 0, x) = some x' ∧ iter g FU (nI 0, y) = some y' ∧ J N x' y' := by
  refine iter2 (I := fun k a a' => a.1 = nI k ∧ a'.1 = nI k ∧ J k a.2 a'.2) (E := fun e e' => J N e e') N hN ⟨rfl, rfl, h0⟩ (fun k a a' hk hz => ?_) (fun a a' hz => ?_)
  · obtain ⟨a1, a2⟩ := a
    obtain ⟨a1', a2'⟩ := a'
    obtain ⟨z1, z2, z3⟩ := hz
    simp only at z1 z2 z3
    subst z1 z2
    obtain ⟨x', y', g1, g2, g3⟩ := hs k a2 a2' hk z3
    exact Or.inl ⟨_, _, g1, g2, rfl, rfl, g3⟩
  · obtain ⟨a1, a2⟩ := a
    obtain ⟨a1', a2'⟩ := a'
    obtain ⟨z1, z2, z3⟩ := hz
    simp only at z1 z2 z3
    subst z1 z2
    obtain ⟨g1, g2⟩ := he a2 a2' z3
    exact ⟨_, _, g1, g2, z3⟩
def RT (n h L : Nat) (hp : Nat → Nat) (m0 : Obj) (T B : Nat) (sc m : Obj) : Prop := ∃ S, sSV n h L hp S ∧ sSC n S sc ∧ sSM n S (dOf m) ∧ mFr m0 m ∧ S 0 1 = T ∧ S 0 0 ≤ B
section
variable {n h L e t : Nat} {hp hm : Nat → Nat} {sr : Nat → Bool} {q m m' m0 sc : Obj} {S S' : Nat → Nat → Nat} {T B : Nat}
/-- those inside -/
theorem tick_stay (hB : sQB n h L e t hp hm) (hC : sQC n h L e t hp hm sr q) (hM : sQM n h L e t hp hm sr (m0.1 2)) (hR : RT n h L hp m0 T B sc m) {p : Nat} (hpn : p < n) : ∃ sc' m', fSc_letTickGo_L15 q (nI n) (nI p, sc) = some (.inl (nI (p + 1), sc')) ∧ fMo_tick_L2 (nI p, m) = some (.inl (nI (p + 1), m')) ∧ RT n h L hp m0 T B sc' m' := by
  obtain ⟨S, hV, hS, hD, hf, hT, hBd⟩ := hR
  have hM2 := sQM_fr hB hM hf
  obtain ⟨b1, b2, b3, b4, b5, b6, b7, b8, b9⟩ := id hB
  have c1 := hM2.1.2.1
  obtain ⟨r3, r4, r5, r6, r7, r8, r9, r10⟩ := hS.2.2 p hpn
  obtain ⟨d3, d4, d5, d6, d7, d8, d9, d10⟩ := (sSM_live hD).2.2 p hpn
  obtain ⟨⟨v3, v4, v5, v6, v7, v8, v9, v10⟩, ⟨x1, x2, x3⟩, x4⟩ := hV.2.2.1 p hpn
  by_cases w : S 3 p = 2
  · have g7 := sSC_up hS (j := 7) (p := p) (v := S 7 p - 1) (by omega) (by omega)
    have k7 := sSM_up b1 hD hV.1.2 (j := 7) (p := p) (v := S 7 p - 1) (by omega) (by omega) (by omega)
    simp only [show 49 + 8 * 7 = 105 from rfl] at k7
    have f7 := mFr_trans hf (mFr_sI (i := 105 + p) (v := nI (S 7 p - 1)) (by omega) (by omega))
    have l1 : fSc_stayOn q sc (nI p) = if 0 < S 7 p - 1 then some (sI sc 7 p (nI (S 7 p - 1))) else fSc_putInLane q (sI sc 7 p (nI (S 7 p - 1))) (nI p) := by
      unfold fSc_stayOn
      have e7 : (sI sc 7 p (nI (S 7 p - 1))).1 7 p = nI (S 7 p - 1) := by rw [sI_1, if_pos ⟨rfl, rfl⟩]
      simp (disch := omega) only [r7, e7, Option.bind_some, bnd, Sum.elim_inl, Sum.elim_inr, lit, nle, nlt, neq, nadd, nsub, nx_or, nx_and, shl_1, ix_nI]
      split
      · rfl
      · cases fSc_putInLane q (sI sc 7 p (nI (S 7 p - 1))) (nI p) <;> rfl
    unfold fSc_letTickGo_L15 fMo_tick_L2
    have e7 : (sI m 2 (105 + p) (nI (S 7 p - 1))).1 2 (105 + p) = nI (S 7 p - 1) := by rw [sI_1, if_pos ⟨rfl, rfl⟩]
    simp (disch := omega) only [l1, c1, r3, d3, d7, e7, Option.bind_some, bnd, Sum.elim_inl, Sum.elim_inr, lit, nle, nlt, neq, nadd, nsub, nx_or, nx_and, shl_1, ix_nI]
    have hnp : ¬ n ≤ p := by omega
    simp only [hnp, w, if_false, if_true]
    by_cases w2 : S 7 p = 1
    · obtain ⟨sc2, s1, s2⟩ := sc_putIn hB hC g7 hpn
      obtain ⟨m2, s3, s4, s5⟩ := mo_stn hB (sQM_fr hB hM f7) (by rw [u2_at, if_neg (by omega)]; exact hV.1.2) k7 (p := p) (v := 0) (d := 0) (x := -nI 1) hpn (by omega) (by decide +kernel)
      have u1 : ¬ 0 < S 7 p - 1 := by omega
      have u0 : S 7 p - 1 = 0 := by omega
      simp only [u1, if_false]
      rw [s1, if_pos u0, s3]
      refine ⟨sc2, m2, rfl, rfl, stn S p 0 0 0, sSV_lane hV hpn, ?_, ?_, mFr_trans f7 s4, hT, hBd⟩
      · refine sSC_congr s2 ⟨fun i _ _ => rfl, fun k _ => ⟨rfl, rfl⟩, fun r hr j _ _ => ?_⟩
        rw [stn_at, stn_at, u2_at]
        by_cases hr : r = p
        · rw [if_pos hr, if_pos hr]
          by_cases h7 : j = 7
          · rw [if_neg (by omega), if_neg (by omega), if_pos h7, if_neg (by omega), if_neg (by omega), if_pos h7]
          · rw [if_neg h7, if_neg h7, if_neg (c := j = 7 ∧ r = p) (fun z => h7 z.1)]
        · rw [if_neg hr, if_neg hr, if_neg (fun z => hr z.2)]
      · refine sSM_congr s5 ⟨fun i _ _ => rfl, fun k _ => ⟨rfl, rfl⟩, fun r hr j _ _ => ?_⟩
        rw [stn_at, stn_at, u2_at]
        by_cases hr : r = p
        · rw [if_pos hr, if_pos hr]
          by_cases h7 : j = 7
          · rw [if_neg (by omega), if_neg (by omega), if_pos h7, if_neg (by omega), if_neg (by omega), if_pos h7]
            rfl
          · rw [if_neg h7, if_neg h7, if_neg (c := j = 7 ∧ r = p) (fun z => h7 z.1)]
        · rw [if_neg hr, if_neg hr, if_neg (fun z => hr z.2)]
    · have u1 : 0 < S 7 p - 1 := by omega
      have u0 : ¬ S 7 p - 1 = 0 := by omega
      simp only [u1, u0, if_true, if_false, Option.bind_some]
      refine ⟨_, _, rfl, rfl, _, ?_, g7, k7, f7, hT, hBd⟩
      refine sSV_row hV (p := p) rfl rfl rfl rfl (fun r hr j => ?_) (fun _ => ?_)
      · rw [u2_at, if_neg (fun z => hr z.2)]
      · have e7 : u2 S 7 p (S 7 p - 1) 7 p = S 7 p - 1 := by rw [u2_at, if_pos ⟨rfl, rfl⟩]
        have ee : ∀ j, j ≠ 7 → u2 S 7 p (S 7 p - 1) j p = S j p := fun j h3 => by rw [u2_at, if_neg (fun z => h3 z.1)]
        have e0 : u2 S 7 p (S 7 p - 1) 0 = S 0 := rfl
        unfold sRow
        rw [e7, e0, ee 3 (by omega), ee 4 (by omega), ee 5 (by omega), ee 6 (by omega), ee 8 (by omega), ee 9 (by omega), ee 10 (by omega)]
        exact ⟨⟨v3, v4, v5, v6, by omega, v8, v9, v10⟩, ⟨x1, x2, by omega⟩, x4⟩
  · unfold fSc_letTickGo_L15 fMo_tick_L2
    simp (disch := omega) only [c1, r3, d3, Option.bind_some, bnd, Sum.elim_inl, Sum.elim_inr, lit, nle, nlt, neq, nadd, nsub, nx_or, nx_and, shl_1, ix_nI]
    have hnp : ¬ n ≤ p := by omega
    simp only [hnp, w, if_false]
    exact ⟨_, _, rfl, rfl, S, hV, hS, hD, hf, hT, hBd⟩
def wlk (L : Nat) (S : Nat → Nat → Nat) (p : Nat) : Nat → Nat → Nat := if S 5 p = 0 then (if S 4 p + 1 < L then u2 S 4 p (S 4 p + 1) else u2 S 5 p 1) else if S 5 p = 1 then (if S 4 p = 0 then u2 S 5 p 0 else u2 S 4 p (S 4 p - 1)) else S
theorem sSV_45 (hV : sSV n h L hp S) {p j v : Nat} (hpn : p < n) (h3 : S 3 p = 0) (hj : (j = 4 ∧ v < L) ∨ (j = 5 ∧ v ≤ 2)) : sSV n h L hp (u2 S j p v) := by
  refine sSV_row hV (p := p) (u2_j (by omega)) (u2_j (by omega)) (u2_j (by omega)) (u2_j (by omega)) (fun r hr j => ?_) (fun _ => ?_)
  · rw [u2_at, if_neg (fun z => hr z.2)]
  · obtain ⟨⟨v3, v4, v5, v6, v7, v8, v9, v10⟩, ⟨x1, x2, x3⟩, x4⟩ := hV.2.2.1 p hpn
    have ee : ∀ i, i ≠ j → u2 S j p v i p = S i p := fun i hi => by rw [u2_at, if_neg (fun z => hi z.1)]
    have e0 : u2 S j p v 0 = S 0 := u2_j (by omega)
    have ej : u2 S j p v j p = v := by rw [u2_at, if_pos ⟨rfl, rfl⟩]
    unfold sRow
    rcases hj with ⟨rfl, hv⟩ | ⟨rfl, hv⟩
    · rw [e0, ej, ee 3 (by omega), ee 5 (by omega), ee 6 (by omega), ee 7 (by omega), ee 8 (by omega), ee 9 (by omega), ee 10 (by omega)]
      exact ⟨⟨v3, hv, v5, v6, v7, v8, v9, v10⟩, ⟨x1, fun z => absurd (x1.mp h3) z, x3⟩, x4⟩
    · rw [e0, ej, ee 3 (by omega), ee 4 (by omega), ee 6 (by omega), ee 7 (by omega), ee 8 (by omega), ee 9 (by omega), ee 10 (by omega)]
      exact ⟨⟨v3, v4, hv, v6, v7, v8, v9, v10⟩, ⟨x1, x2, x3⟩, x4⟩
theorem m1_neg : nI 0 - nI 1 < nI 0 := by decide +kernel
theorem sc_walk (hB : sQB n h L e t hp hm) (hC : sQC n h L e t hp hm sr q) (hV : sSV n h L hp S) (hS : sSC n S sc) {p : Nat} (hpn : p < n) : ∃ sc', fSc_walkOn q sc (nI p) = some sc' ∧ sSC n (wlk L S p) sc' := by
  obtain ⟨b1, b2, b3, b4, b5, b6, b7, b8, b9⟩ := id hB
  have c0 := hC.1.1
  obtain ⟨r3, r4, r5, r6, r7, r8, r9, r10⟩ := hS.2.2 p hpn
  obtain ⟨⟨v3, v4, v5, v6, v7, v8, v9, v10⟩, -⟩ := hV.2.2.1 p hpn
  unfold fSc_walkOn fSc_walkOn_J20 fSc_walkOn_J48 fSc_walkOn_J64 wlk
  by_cases w0 : S 5 p = 0
  · simp (disch := omega) only [r5, r4, c0, w0, if_true, Option.bind_some, bnd, Sum.elim_inl, Sum.elim_inr, lit, nle, nlt, neq, nadd, nsub, nx_or, nx_and, shl_1, ix_nI]
    rw [if_neg (by omega)]
    by_cases w1 : S 4 p + 1 < L
    · rw [if_pos w1, if_pos w1]
      exact ⟨_, rfl, sSC_up hS (by omega) (by omega)⟩
    · rw [if_neg w1, if_neg w1]
      exact ⟨_, rfl, sSC_up hS (by omega) (by omega)⟩
  · by_cases w1 : S 5 p = 1
    · by_cases w2 : S 4 p = 0
      · have u : ¬ 1 = 0 := by omega
        simp (disch := omega) only [r5, r4, c0, w1, w2, u, if_true, if_false, Option.bind_some, bnd, lit, neq, ix_nI, m1_neg]
        exact ⟨_, rfl, sSC_up hS (by omega) (by omega)⟩
      · have u : ¬ 1 = 0 := by omega
        have u3 : ¬ S 4 p - 1 < 0 := by omega
        have u4 : S 4 p - 1 < L := by omega
        simp (disch := omega) only [r5, r4, c0, w1, w2, u, u3, u4, if_true, if_false, Option.bind_some, bnd, Sum.elim_inl, Sum.elim_inr, lit, nle, nlt, neq, nadd, nsub, nx_or, nx_and, shl_1, ix_nI]
        exact ⟨_, rfl, sSC_up hS (by omega) (by omega)⟩
    · simp (disch := omega) only [r5, w0, w1, if_false, Option.bind_some, bnd, Sum.elim_inl, Sum.elim_inr, lit, nle, nlt, neq, nadd, nsub, nx_or, nx_and, shl_1, ix_nI]
      exact ⟨_, rfl, hS⟩
end
