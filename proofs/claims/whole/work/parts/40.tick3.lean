section
variable {n h L e t : Nat} {hp hm : Nat → Nat} {sr : Nat → Bool} {q m m' m0 sc : Obj} {S S' : Nat → Nat → Nat} {T B : Nat}
theorem mo_strikes (hn : n ≤ 8) (hV : sSV n h L hp S) (hS : sSM n S (dOf m)) {k : Nat} (hk : k < S 0 3) : ∃ m', fMo_strikes m (nI k) = some m' ∧ mFr m m' ∧ sSM n (drC S k) (dOf m') := by
  have hc := hV.1.2
  have s3 := (sSM_live hS).1.2.2.2
  have key := iter_I (f := fMo_strikes_L13) (I := fun i z => z.1 = nI (k + i) ∧ z.2.2 = m.2 ∧ ∀ j r, z.2.1 j r = if j = 2 ∧ ((137 + k ≤ r ∧ r < 137 + k + i) ∨ (149 + k ≤ r ∧ r < 149 + k + i)) then m.1 2 (r + 1) else if j = 2 ∧ r = 72 then nI (S 0 3 - 1) else m.1 j r) (E := fun z => z.2 = m.2 ∧ ∀ j r, z.1 j r = if j = 2 ∧ ((137 + k ≤ r ∧ r < 137 + (S 0 3 - 1)) ∨ (149 + k ≤ r ∧ r < 149 + (S 0 3 - 1))) then m.1 2 (r + 1) else if j = 2 ∧ r = 72 then nI (S 0 3 - 1) else m.1 j r) (S 0 3 - 1 - k) (by omega) (a := (nI k, sI m 2 72 (nI (S 0 3 - 1)))) ⟨rfl, rfl, fun j r => by rw [sI_1, if_neg (c := j = 2 ∧ ((137 + k ≤ r ∧ r < 137 + k + 0) ∨ (149 + k ≤ r ∧ r < 149 + k + 0))) (by omega)]⟩ (fun i z hi hz => ?_) (fun z hz => ?_)
  · obtain ⟨m1, g1, g2, g3⟩ := key
    have e72 : m1.1 2 72 = nI (S 0 3 - 1) := by rw [g3, if_neg (by omega), if_pos ⟨rfl, rfl⟩]
    have e72' : (sI m1 2 (137 + (S 0 3 - 1)) (nI 0)).1 2 72 = nI (S 0 3 - 1) := by rw [sI_1, if_neg (by omega)]; exact e72
    unfold fMo_strikes
    simp (disch := omega) only [s3, g1, e72, e72', Option.bind_some, bnd, Sum.elim_inl, Sum.elim_inr, lit, nle, nlt, neq, nadd, nsub, nx_or, nx_and, shl_1, ix_nI]
    have at' : ∀ r, (sI (sI m1 2 (137 + (S 0 3 - 1)) (nI 0)) 2 (149 + (S 0 3 - 1)) (nI 0)).1 2 r = if r = 149 + (S 0 3 - 1) then nI 0 else if r = 137 + (S 0 3 - 1) then nI 0 else if ((137 + k ≤ r ∧ r < 137 + (S 0 3 - 1)) ∨ (149 + k ≤ r ∧ r < 149 + (S 0 3 - 1))) then m.1 2 (r + 1) else if r = 72 then nI (S 0 3 - 1) else m.1 2 r := fun r => by
      rw [sI_1, sI_1, g3]
      simp only [true_and]
    have hx : drC S k 0 3 = S 0 3 - 1 := by unfold drC; rw [if_pos ⟨rfl, rfl⟩]
    refine ⟨_, rfl, ⟨g2, fun j r => ?_⟩, ?_⟩
    · rw [sI_1, sI_1, g3]
      by_cases h1 : j = 2 ∧ 69 ≤ r ∧ r < 161
      · exact Or.inr h1
      · left
        rw [if_neg (by omega), if_neg (by omega), if_neg (by omega), if_neg (by omega)]
    · obtain ⟨⟨q1, q2, q3, q3'⟩, q4, q5⟩ := sSM_live hS
      refine ⟨⟨?_, ?_, ?_, ?_⟩, fun i hi => ?_, fun r hr => ?_⟩
      · show (sI (sI m1 2 (137 + (S 0 3 - 1)) (nI 0)) 2 (149 + (S 0 3 - 1)) (nI 0)).1 2 69 = _
        rw [at', if_neg (by omega), if_neg (by omega), if_neg (by omega), if_neg (by omega), drC_0 _ _ _ (by omega)]
        exact q1
      · show (sI (sI m1 2 (137 + (S 0 3 - 1)) (nI 0)) 2 (149 + (S 0 3 - 1)) (nI 0)).1 2 70 = _
        rw [at', if_neg (by omega), if_neg (by omega), if_neg (by omega), if_neg (by omega), drC_j _ _ 10 (by omega)]
        exact q2
      · show (sI (sI m1 2 (137 + (S 0 3 - 1)) (nI 0)) 2 (149 + (S 0 3 - 1)) (nI 0)).1 2 71 = _
        rw [at', if_neg (by omega), if_neg (by omega), if_neg (by omega), if_neg (by omega), drC_0 _ _ _ (by omega)]
        exact q3
      · show (sI (sI m1 2 (137 + (S 0 3 - 1)) (nI 0)) 2 (149 + (S 0 3 - 1)) (nI 0)).1 2 72 = _
        rw [at', if_neg (by omega), if_neg (by omega), if_neg (by omega), if_pos (by omega), hx]
      · rw [hx] at hi
        rw [drC_12 _ _ 1 _ (by omega), drC_12 _ _ 2 _ (by omega)]
        have x1 : dOf (sI (sI m1 2 (137 + (S 0 3 - 1)) (nI 0)) 2 (149 + (S 0 3 - 1)) (nI 0)) (68 + i) = if k ≤ i then m.1 2 (137 + (i + 1)) else m.1 2 (137 + i) := by
          show (sI (sI m1 2 (137 + (S 0 3 - 1)) (nI 0)) 2 (149 + (S 0 3 - 1)) (nI 0)).1 2 (69 + (68 + i)) = _
          have y1 : 69 + (68 + i) = 137 + i := by omega
          rw [y1, at', if_neg (by omega), if_neg (by omega)]
          by_cases hki : k ≤ i
          · rw [if_pos (by omega), if_pos hki, Nat.add_assoc]
          · rw [if_neg (by omega), if_neg hki, if_neg (by omega)]
        have x2 : dOf (sI (sI m1 2 (137 + (S 0 3 - 1)) (nI 0)) 2 (149 + (S 0 3 - 1)) (nI 0)) (80 + i) = if k ≤ i then m.1 2 (149 + (i + 1)) else m.1 2 (149 + i) := by
          show (sI (sI m1 2 (137 + (S 0 3 - 1)) (nI 0)) 2 (149 + (S 0 3 - 1)) (nI 0)).1 2 (69 + (80 + i)) = _
          have y1 : 69 + (80 + i) = 149 + i := by omega
          rw [y1, at', if_neg (by omega), if_neg (by omega)]
          by_cases hki : k ≤ i
          · rw [if_pos (by omega), if_pos hki, Nat.add_assoc]
          · rw [if_neg (by omega), if_neg hki, if_neg (by omega)]
        rw [x1, x2]
        by_cases hki : k ≤ i
        · rw [if_pos hki, if_pos hki, if_pos hki, if_pos hki]
          exact q4 (i + 1) (by omega)
        · rw [if_neg hki, if_neg hki, if_neg hki, if_neg hki]
          exact q4 i (by omega)
      · have ee : ∀ i, 4 ≤ i → i < 68 → dOf (sI (sI m1 2 (137 + (S 0 3 - 1)) (nI 0)) 2 (149 + (S 0 3 - 1)) (nI 0)) i = dOf m i := fun i h1 h2 => by
          show (sI (sI m1 2 (137 + (S 0 3 - 1)) (nI 0)) 2 (149 + (S 0 3 - 1)) (nI 0)).1 2 (69 + i) = _
          rw [at', if_neg (by omega), if_neg (by omega), if_neg (by omega), if_neg (by omega)]
        rw [ee _ (by omega) (by omega), ee _ (by omega) (by omega), ee _ (by omega) (by omega), ee _ (by omega) (by omega), ee _ (by omega) (by omega), ee _ (by omega) (by omega), ee _ (by omega) (by omega), ee _ (by omega) (by omega), drC_j _ _ 3 (by omega), drC_j _ _ 4 (by omega), drC_j _ _ 5 (by omega), drC_j _ _ 6 (by omega), drC_j _ _ 7 (by omega), drC_j _ _ 8 (by omega), drC_j _ _ 9 (by omega), drC_j _ _ 10 (by omega)]
        exact hS.2.2 r hr
  · obtain ⟨z1, z2⟩ := z
    obtain ⟨hz1, hz0, hz2⟩ := hz
    simp only at hz1 hz2 hz0
    subst hz1
    have e72 : z2.1 2 72 = nI (S 0 3 - 1) := by rw [hz2, if_neg (by omega), if_pos ⟨rfl, rfl⟩]
    left
    unfold fMo_strikes_L13
    have u1 : ¬ S 0 3 - 1 ≤ k + i := by omega
    simp (disch := omega) only [e72, u1, if_false, Option.bind_some, bnd, Sum.elim_inl, Sum.elim_inr, lit, nle, nlt, neq, nadd, nsub, nx_or, nx_and, shl_1, ix_nI]
    refine ⟨_, rfl, by rw [Nat.add_assoc], hz0, fun j r => ?_⟩
    have y1 : (sI z2 2 (137 + (k + i)) (z2.1 2 (137 + (k + i) + 1))).1 2 (149 + (k + i) + 1) = m.1 2 (149 + (k + i) + 1) := by
      rw [sI_1, if_neg (by omega), hz2, if_neg (by omega), if_neg (by omega)]
    have y2 : z2.1 2 (137 + (k + i) + 1) = m.1 2 (137 + (k + i) + 1) := by
      rw [hz2, if_neg (by omega), if_neg (by omega)]
    rw [y1, y2, sI_1, sI_1, hz2]
    by_cases c1 : j = 2 ∧ r = 149 + (k + i)
    · obtain ⟨rfl, rfl⟩ := c1
      rw [if_pos ⟨rfl, rfl⟩, if_pos (by omega)]
    · rw [if_neg c1]
      by_cases c2 : j = 2 ∧ r = 137 + (k + i)
      · obtain ⟨rfl, rfl⟩ := c2
        rw [if_pos ⟨rfl, rfl⟩, if_pos (by omega)]
      · rw [if_neg c2]
        by_cases c3 : j = 2 ∧ ((137 + k ≤ r ∧ r < 137 + k + i) ∨ (149 + k ≤ r ∧ r < 149 + k + i))
        · rw [if_pos c3, if_pos (by omega)]
        · rw [if_neg c3, if_neg (c := j = 2 ∧ ((137 + k ≤ r ∧ r < 137 + k + (i + 1)) ∨ (149 + k ≤ r ∧ r < 149 + k + (i + 1)))) (by omega)]
  · obtain ⟨z1, z2⟩ := z
    obtain ⟨hz1, hz0, hz2⟩ := hz
    simp only at hz1 hz2 hz0
    subst hz1
    have ek : k + (S 0 3 - 1 - k) = S 0 3 - 1 := by omega
    have ek1 : 137 + k + (S 0 3 - 1 - k) = 137 + (S 0 3 - 1) := by omega
    have ek2 : 149 + k + (S 0 3 - 1 - k) = 149 + (S 0 3 - 1) := by omega
    rw [ek1, ek2] at hz2
    have e72 : z2.1 2 72 = nI (S 0 3 - 1) := by rw [hz2, if_neg (by omega), if_pos ⟨rfl, rfl⟩]
    unfold fMo_strikes_L13
    have u2' : S 0 3 - 1 ≤ S 0 3 - 1 := by omega
    simp (disch := omega) only [e72, ek, u2', if_true, Option.bind_some, bnd, Sum.elim_inl, Sum.elim_inr, lit, nle, nlt, neq, nadd, nsub, nx_or, nx_and, shl_1, ix_nI]
    exact ⟨z2, rfl, hz0, hz2⟩
def callP (hp : Nat → Nat) (S : Nat → Nat → Nat) (p : Nat) : Nat → Bool := fun k => decide (S 1 k = p ∧ hp (S 2 k) = S 4 p)
theorem mo_callOfP (hB : sQB n h L e t hp hm) (hM : sQM n h L e t hp hm sr (m.1 2)) (hV : sSV n h L hp S) (hS : sSM n S (dOf m)) {p : Nat} (hpn : p < n) : fMo_callOf m (nI p) (-nI 1) = some (match fi (callP hp S p) (S 0 3) with | none => -nI 1 | some k => nI k) := by
  obtain ⟨b1, b2, b3, b4, b5, b6, b7, b8, b9⟩ := id hB
  obtain ⟨-, c5, -⟩ := hM
  obtain ⟨⟨s1, -, s2, s3⟩, sk, -⟩ := sSM_live hS
  have d4 := ((sSM_live hS).2.2 p hpn).2.1
  have v4 := (hV.2.2.1 p hpn).1.2.1
  have hc := hV.1.2
  have u0 : ¬ nI 0 ≤ -nI 1 := by decide +kernel
  unfold fMo_callOf
  have key := find_loop (f := fMo_callOf_L2 m (nI p) (-nI 1)) (S 0 3) (by omega) (callP hp S p) (fun k hk hP => ?_) (fun k hk hP => ?_) ?_
  · simp only [lit, key, Option.bind_some]
    cases fi (callP hp S p) (S 0 3) with
    | none => rfl
    | some k => rfl
  · unfold fMo_callOf_L2
    obtain ⟨k1, k2⟩ := sk k hk
    obtain ⟨w1, w2⟩ := hV.2.1 k hk
    have w3 := c5 (S 2 k) w2
    have w4 := b8 (S 2 k) w2
    have hP2 : ¬ (S 1 k = p ∧ hp (S 2 k) = S 4 p) := of_decide_eq_false hP
    have u1 : ¬ S 0 3 ≤ k := by omega
    simp (disch := omega) only [s3, k1, k2, w3, d4, u0, u1, if_false, Option.bind_some, bnd, Sum.elim_inl, Sum.elim_inr, lit, nle, nlt, neq, nadd, nsub, nx_or, nx_and, shl_1, ix_nI]
    by_cases h1 : S 1 k = p
    · rw [if_pos h1, if_neg (fun z => hP2 ⟨h1, z⟩)]
    · rw [if_neg h1]
  · unfold fMo_callOf_L2
    obtain ⟨k1, k2⟩ := sk k hk
    obtain ⟨w1, w2⟩ := hV.2.1 k hk
    have w3 := c5 (S 2 k) w2
    have w4 := b8 (S 2 k) w2
    have hP2 : S 1 k = p ∧ hp (S 2 k) = S 4 p := of_decide_eq_true hP
    have u1 : ¬ S 0 3 ≤ k := by omega
    simp (disch := omega) only [s3, k1, k2, w3, d4, u0, u1, if_false, Option.bind_some, bnd, Sum.elim_inl, Sum.elim_inr, lit, nle, nlt, neq, nadd, nsub, nx_or, nx_and, shl_1, ix_nI]
    rw [if_pos hP2.1, if_pos hP2.2]
  · unfold fMo_callOf_L2
    simp (disch := omega) only [s3, Option.bind_some, bnd, Sum.elim_inl, Sum.elim_inr, lit, nle, nlt, neq, nadd, nsub, nx_or, nx_and, shl_1, ix_nI]
    rw [if_pos (Nat.le_refl _)]
theorem sc_callAt (hB : sQB n h L e t hp hm) (hC : sQC n h L e t hp hm sr q) (hV : sSV n h L hp S) (hS : sSC n S sc) {p : Nat} (hpn : p < n) (h3 : S 3 p = 0) : ∃ sc', fSc_callAtDoor q sc (nI p) = some sc' ∧ sSC n (match fi (callP hp S p) (S 0 3) with | none => S | some k => drC (doK S p (S 2 k)) k) sc' := by
  obtain ⟨b1, b2, b3, b4, b5, b6, b7, b8, b9⟩ := id hB
  obtain ⟨⟨s1, s2, s3⟩, sk, sr'⟩ := id hS
  have d4 := (sr' p hpn).2.1
  have v4 := (hV.2.2.1 p hpn).1.2.1
  have hc := hV.1.2
  unfold fSc_callAtDoor
  have hs : ∀ k, k < S 0 3 → callP hp S p k = false → fSc_callAtDoor_L2 q sc (nI p) (nI k) = some (.inl (nI (k + 1))) := fun k hk hP => by
    unfold fSc_callAtDoor_L2
    obtain ⟨k1, k2⟩ := sk k hk
    obtain ⟨w1, w2⟩ := hV.2.1 k hk
    have w3 := qu_place hB hC w2
    have w4 := b8 (S 2 k) w2
    have hP2 : ¬ (S 1 k = p ∧ hp (S 2 k) = S 4 p) := of_decide_eq_false hP
    have u1 : ¬ S 0 3 ≤ k := by omega
    have u2' : ¬ 12 ≤ k := by omega
    simp (disch := omega) only [s3, k1, k2, w3, d4, u1, u2', if_false, Option.bind_some, bnd, Sum.elim_inl, Sum.elim_inr, lit, nle, nlt, neq, nadd, nsub, nx_or, nx_and, shl_1, ix_nI]
    by_cases h1 : S 1 k = p
    · rw [if_pos h1, if_neg (fun z => hP2 ⟨h1, z⟩)]
    · rw [if_neg h1]
  have he : fSc_callAtDoor_L2 q sc (nI p) (nI (S 0 3)) = some (.inr (.inl ())) := by
    unfold fSc_callAtDoor_L2
    simp (disch := omega) only [s3, Option.bind_some, bnd, Sum.elim_inl, Sum.elim_inr, lit, nle, nlt, neq, nadd, nsub, nx_or, nx_and, shl_1, ix_nI]
    rw [if_pos (Nat.le_refl _)]
  rcases find_g (f := fSc_callAtDoor_L2 q sc (nI p)) (S 0 3) (by omega) (callP hp S p) hs he with ⟨g1, g2⟩ | ⟨k, hk, hP, -, g1, g2⟩
  · simp only [lit]
    rw [g2, g1]
    exact ⟨sc, rfl, hS⟩
  · obtain ⟨k1, k2⟩ := sk k hk
    obtain ⟨w1, w2⟩ := hV.2.1 k hk
    have w3 := qu_place hB hC w2
    have w4 := b8 (S 2 k) w2
    have hP2 : S 1 k = p ∧ hp (S 2 k) = S 4 p := of_decide_eq_true hP
    have u1 : ¬ S 0 3 ≤ k := by omega
    have u2' : ¬ 12 ≤ k := by omega
    have gK := sSC_up6 (sSC_up hS (j := 3) (p := p) (v := 1) (by omega) (by omega)) (p := p) (v := S 2 k + 1)
    rw [nsub (by omega), Nat.add_sub_cancel] at gK
    have e2 : (sI sc 3 p (nI 1)).1 2 k = nI (S 2 k) := by rw [sI_1, if_neg (by omega)]; exact k2
    obtain ⟨sc2, d1, d2⟩ := sc_drop (sSV_doK hB hV hpn w2 ⟨h3, hP2.2⟩) gK (k := k) hk
    have hstep : fSc_callAtDoor_L2 q sc (nI p) (nI k) = some (.inr (.inr sc2)) := by
      unfold fSc_callAtDoor_L2
      simp (disch := omega) only [s3, k1, k2, w3, d4, u1, u2', e2, d1, if_false, Option.bind_some, bnd, Sum.elim_inl, Sum.elim_inr, lit, nle, nlt, neq, nadd, nsub, nx_or, nx_and, shl_1, ix_nI]
      rw [if_pos hP2.1, if_pos hP2.2]
    simp only [lit]
    rw [g2 _ hstep, g1]
    exact ⟨sc2, rfl, d2⟩
theorem tick_call (hB : sQB n h L e t hp hm) (hC : sQC n h L e t hp hm sr q) (hM : sQM n h L e t hp hm sr (m0.1 2)) (hR : RT n h L hp m0 T B sc m) {p : Nat} (hpn : p < n) : ∃ sc' m', fSc_letTickGo_L70 q (nI n) (nI p, sc) = some (.inl (nI (p + 1), sc')) ∧ fMo_tick_L103 (nI p, m) = some (.inl (nI (p + 1), m')) ∧ RT n h L hp m0 T B sc' m' := by
  obtain ⟨S, hV, hS, hD, hf, hT, hBd⟩ := hR
  have hM2 := sQM_fr hB hM hf
  obtain ⟨b1, b2, b3, b4, b5, b6, b7, b8, b9⟩ := id hB
  have c1 := hM2.1.2.1
  obtain ⟨r3, r4, r5, r6, r7, r8, r9, r10⟩ := hS.2.2 p hpn
  obtain ⟨d3, d4, d5, d6, d7, d8, d9, d10⟩ := (sSM_live hD).2.2 p hpn
  obtain ⟨⟨v3, v4, v5, v6, v7, v8, v9, v10⟩, ⟨x1, x2, x3⟩, x4⟩ := hV.2.2.1 p hpn
  have hnp : ¬ n ≤ p := by omega
  have un : ¬ nI 0 ≤ -nI 1 := by decide +kernel
  by_cases w : S 3 p = 0
  · obtain ⟨sc2, g1, g2⟩ := sc_callAt hB hC hV hS hpn w
    have g3 := mo_callOfP hB hM2 hV hD hpn
    have l1 : fSc_letTickGo_L70 q (nI n) (nI p, sc) = some (.inl (nI (p + 1), sc2)) := by
      unfold fSc_letTickGo_L70
      simp (disch := omega) only [r3, w, hnp, g1, if_true, if_false, Option.bind_some, bnd, Sum.elim_inl, Sum.elim_inr, lit, nle, nlt, neq, nadd, nsub, nx_or, nx_and, shl_1, ix_nI]
    have l2 : fMo_tick_L103 (nI p, m) = fMo_tick_J135 m (nI p) (match fi (callP hp S p) (S 0 3) with | none => -nI 1 | some k => nI k) := by
      unfold fMo_tick_L103
      simp (disch := omega) only [lit, nadd, ix_nI, Option.bind_some]
      rw [c1, d3, w, if_neg (by rw [nle (by omega) (by omega)]; omega), if_pos rfl, g3]
      rfl
    rw [l1, l2]
    rcases fi_cases (callP hp S p) (S 0 3) with ⟨f1, -⟩ | ⟨k, hk, hP, -, f1⟩
    · rw [f1] at g2 ⊢
      refine ⟨sc2, m, rfl, ?_, S, hV, g2, hD, hf, hT, hBd⟩
      unfold fMo_tick_J135
      simp only [lit]
      rw [if_neg un, nadd]
    · rw [f1] at g2 ⊢
      have hP2 : S 1 k = p ∧ hp (S 2 k) = S 4 p := of_decide_eq_true hP
      obtain ⟨w1, w2⟩ := hV.2.1 k hk
      have k2 := ((sSM_live hD).2.1 k hk).2
      obtain ⟨m2, a1, a2, a3⟩ := mo_doK hB hM2 hV hD (k := S 2 k) hpn w
      have hV2 := sSV_doK hB hV hpn w2 ⟨w, hP2.2⟩
      obtain ⟨m3, a4, a5, a6⟩ := mo_strikes b1 hV2 a3 (k := k) hk
      have hc := hV.1.2
      refine ⟨sc2, m3, rfl, ?_, drC (doK S p (S 2 k)) k, sSV_drC hV2 hk, g2, a6, mFr_trans hf (mFr_trans a2 a5), ?_, ?_⟩
      · unfold fMo_tick_J135
        simp (disch := omega) only [k2, a1, a4, Option.bind_some, bnd, Sum.elim_inl, Sum.elim_inr, lit, nle, nlt, neq, nadd, nsub, nx_or, nx_and, shl_1, ix_nI]
        rw [if_pos (Nat.zero_le _)]
      · rw [drC_0 _ _ _ (by omega)]; exact hT
      · rw [drC_0 _ _ _ (by omega)]; exact hBd
  · refine ⟨sc, m, ?_, ?_, S, hV, hS, hD, hf, hT, hBd⟩
    · unfold fSc_letTickGo_L70
      simp (disch := omega) only [r3, w, hnp, if_false, Option.bind_some, bnd, Sum.elim_inl, Sum.elim_inr, lit, nle, nlt, neq, nadd, nsub, nx_or, nx_and, shl_1, ix_nI]
    · unfold fMo_tick_L103 fMo_tick_J135
      simp (disch := omega) only [lit, nadd, ix_nI, Option.bind_some]
      rw [c1, d3, if_neg (by rw [nle (by omega) (by omega)]; omega), if_neg (by rw [neq (by omega) (by omega)]; exact w), if_neg un]
end
