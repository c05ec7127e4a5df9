theorem find_g {β : Type} {f : Int32 → Option (Int32 ⊕ (Unit ⊕ β))} (c : Nat) (hc : c < 2000) (P : Nat → Bool) (hs : ∀ k, k < c → P k = false → f (nI k) = some (.inl (nI (k + 1)))) (he : f (nI c) = some (.inr (.inl ()))) :
    (fi P c = none ∧ iter f FU (nI 0) = some (.inl ())) ∨ ∃ k, k < c ∧ P k = true ∧ (∀ j, j < k → P j = false) ∧ fi P c = some k ∧ ∀ b, f (nI k) = some (.inr (.inr b)) → iter f FU (nI 0) = some (.inr b) := by
  rcases fi_cases P c with ⟨h1, h2⟩ | ⟨k, h1, h2, h3, h4⟩
  · exact Or.inl ⟨h1, iter_F (F := fun k => nI k) (.inl ()) c hc (fun k hk => hs k hk (h2 k hk)) he⟩
  · exact Or.inr ⟨k, h1, h2, h3, h4, fun b hb => iter_F (F := fun k => nI k) (.inr b) k (by omega) (fun j hj => hs j (by omega) (h3 j hj)) hb⟩
theorem add_n1 (a : Int32) : a + -nI 1 = a - nI 1 := (Int32.sub_eq_add_neg a (nI 1)).symm
theorem add_n2 {a : Nat} (h : 1 ≤ a) : nI a + -nI 1 = nI (a - 1) := by rw [add_n1, nsub h]
/-- a call is struck out -/
def drC (S : Nat → Nat → Nat) (k : Nat) : Nat → Nat → Nat := fun j r => if j = 0 ∧ r = 3 then S 0 3 - 1 else if (j = 1 ∨ j = 2) ∧ k ≤ r then S j (r + 1) else S j r
theorem drC_0 (S : Nat → Nat → Nat) (k i : Nat) (hi : i ≠ 3) : drC S k 0 i = S 0 i := by
  unfold drC
  rw [if_neg (by omega), if_neg (by omega)]
theorem drC_j (S : Nat → Nat → Nat) (k j : Nat) (hj : 3 ≤ j) : drC S k j = S j := by
  funext r
  unfold drC
  rw [if_neg (by omega), if_neg (by omega)]
theorem drC_12 (S : Nat → Nat → Nat) (k j r : Nat) (hj : j = 1 ∨ j = 2) : drC S k j r = if k ≤ r then S j (r + 1) else S j r := by
  unfold drC
  rw [if_neg (by omega)]
  by_cases hk : k ≤ r
  · rw [if_pos ⟨hj, hk⟩, if_pos hk]
  · rw [if_neg (fun z => hk z.2), if_neg hk]
section
variable {n h L e t : Nat} {hp hm : Nat → Nat} {sr : Nat → Bool} {q m m' m0 sc : Obj} {S S' : Nat → Nat → Nat} {T B : Nat}
theorem mo_w40 (hL : 2 ≤ L) (hL2 : L ≤ 20) (c2 : m.1 2 2 = nI L) {p a : Nat} {w : Int32} (hp8 : p < 8) (ha : a < 20) (r5 : m.1 2 (89 + p) = w) : fMo_walks_J40 m (nI p) (nI a) (nI 1) = some (if a + 1 < L then sI m 2 (81 + p) (nI (a + 1)) else sI m 2 (89 + p) (nI 1 - w)) := by
  unfold fMo_walks_J40 fMo_isIn
  have u2' : ¬ a + 1 < 0 := by omega
  simp (disch := omega) only [r5, c2, u2', if_false, Option.bind_some, bnd, Sum.elim_inl, Sum.elim_inr, lit, nle, nlt, neq, nadd, nsub, nx_or, nx_and, shl_1, ix_nI]
  by_cases w1 : a + 1 < L
  · have u3 : ¬ L - 1 < a + 1 := by omega
    have u4 : ¬ 1 = 0 := by omega
    simp (disch := omega) only [w1, u3, u4, if_true, if_false, Option.bind_some, neq]
  · have u3 : L - 1 < a + 1 := by omega
    simp (disch := omega) only [w1, u3, if_true, if_false, Option.bind_some, neq]
theorem mo_w41 (hL : 2 ≤ L) (hL2 : L ≤ 20) (c2 : m.1 2 2 = nI L) {p a : Nat} {w : Int32} (hp8 : p < 8) (ha : a < L) (r5 : m.1 2 (89 + p) = w) : fMo_walks_J40 m (nI p) (nI a) (-nI 1) = some (if a = 0 then sI m 2 (89 + p) (nI 1 - w) else sI m 2 (81 + p) (nI (a - 1))) := by
  unfold fMo_walks_J40 fMo_isIn
  by_cases w1 : a = 0
  · subst w1
    simp (disch := omega) only [r5, add_n1, m1_neg, if_true, Option.bind_some, bnd, lit, ix_nI, nadd]
  · have u2' : ¬ a - 1 < 0 := by omega
    have u3 : ¬ L - 1 < a - 1 := by omega
    have u4 : ¬ 1 = 0 := by omega
    rw [add_n2 (show 1 ≤ a by omega)]
    simp (disch := omega) only [c2, w1, u2', u3, u4, if_false, Option.bind_some, bnd, Sum.elim_inl, Sum.elim_inr, lit, nle, nlt, neq, nadd, nsub, nx_or, nx_and, shl_1, ix_nI]
theorem mo_w4 {p x : Nat} (hp8 : p < 8) (r4 : m.1 2 (81 + p) = nI x) (r5 : m.1 2 (89 + p) = nI 1) : fMo_walks m (nI p) = fMo_walks_J40 m (nI p) (nI x) (-nI 1) := by
  unfold fMo_walks
  simp (disch := omega) only [lit, nadd, ix_nI, Option.bind_some]
  rw [r5, r4, if_pos (by decide +kernel), if_neg (by decide +kernel)]
theorem mo_w5 {p x : Nat} (hp8 : p < 8) (hx : x = 2) (r5 : m.1 2 (89 + p) = nI x) : fMo_walks m (nI p) = some m := by
  unfold fMo_walks
  simp (disch := omega) only [lit, nadd, ix_nI, Option.bind_some]
  rw [r5, hx, if_neg (by decide +kernel)]
theorem mo_walk (hB : sQB n h L e t hp hm) (hM : sQM n h L e t hp hm sr (m.1 2)) (hV : sSV n h L hp S) (hS : sSM n S (dOf m)) {p : Nat} (hpn : p < n) : ∃ m', fMo_walks m (nI p) = some m' ∧ mFr m m' ∧ sSM n (wlk L S p) (dOf m') := by
  obtain ⟨b1, b2, b3, b4, b5, b6, b7, b8, b9⟩ := id hB
  have c2 := hM.1.2.2.1
  obtain ⟨r3, r4, r5, r6, r7, r8, r9, r10⟩ := (sSM_live hS).2.2 p hpn
  obtain ⟨⟨v3, v4, v5, v6, v7, v8, v9, v10⟩, -⟩ := hV.2.2.1 p hpn
  have k4 : ∀ v, sSM n (u2 S 4 p v) (dOf (sI m 2 (81 + p) (nI v))) := fun v => by
    have g := sSM_up b1 hS hV.1.2 (j := 4) (p := p) (v := v) (by omega) (by omega) (by omega)
    simp only [show 49 + 8 * 4 = 81 from rfl] at g
    exact g
  have k5 : ∀ v, sSM n (u2 S 5 p v) (dOf (sI m 2 (89 + p) (nI v))) := fun v => by
    have g := sSM_up b1 hS hV.1.2 (j := 5) (p := p) (v := v) (by omega) (by omega) (by omega)
    simp only [show 49 + 8 * 5 = 89 from rfl] at g
    exact g
  have f4 : ∀ v, mFr m (sI m 2 (81 + p) v) := fun v => mFr_sI (by omega) (by omega)
  have f5 : ∀ v, mFr m (sI m 2 (89 + p) v) := fun v => mFr_sI (by omega) (by omega)
  have q0 := mo_w40 (a := S 4 p) b3 b4 c2 (show p < 8 by omega) (by omega) r5
  have q1 := mo_w41 (a := S 4 p) b3 b4 c2 (show p < 8 by omega) v4 r5
  unfold wlk
  by_cases w0 : S 5 p = 0
  · have u1 : 0 ≤ 1 := by omega
    rw [w0, nsub (by omega), Nat.sub_zero] at q0
    unfold fMo_walks
    simp (disch := omega) only [r5, r4, w0, u1, if_true, q0, Option.bind_some, bnd, Sum.elim_inl, Sum.elim_inr, lit, nle, nlt, neq, nadd, nsub, nx_or, nx_and, shl_1, ix_nI]
    by_cases w1 : S 4 p + 1 < L
    · rw [if_pos w1, if_pos w1]
      exact ⟨_, rfl, f4 _, k4 _⟩
    · rw [if_neg w1, if_neg w1]
      exact ⟨_, rfl, f5 _, k5 _⟩
  · by_cases w1 : S 5 p = 1
    · rw [w1, nsub (by omega), Nat.sub_self] at q1
      rw [w1] at r5
      rw [mo_w4 (show p < 8 by omega) r4 r5, q1, if_neg w0, if_pos w1]
      by_cases w2 : S 4 p = 0
      · rw [if_pos w2, if_pos w2]
        exact ⟨_, rfl, f5 _, k5 _⟩
      · rw [if_neg w2, if_neg w2]
        exact ⟨_, rfl, f4 _, k4 _⟩
    · rw [mo_w5 (show p < 8 by omega) (show S 5 p = 2 by omega) r5, if_neg w0, if_neg w1]
      exact ⟨_, rfl, mFr_refl m, hS⟩
theorem sSV_wlk (hB : sQB n h L e t hp hm) (hV : sSV n h L hp S) {p : Nat} (hpn : p < n) (h3 : S 3 p = 0) : sSV n h L hp (wlk L S p) := by
  obtain ⟨b1, b2, b3, b4, b5, b6, b7, b8, b9⟩ := id hB
  obtain ⟨⟨v3, v4, v5, v6, v7, v8, v9, v10⟩, -⟩ := hV.2.2.1 p hpn
  unfold wlk
  split
  · split
    · exact sSV_45 hV hpn h3 (Or.inl ⟨rfl, by omega⟩)
    · exact sSV_45 hV hpn h3 (Or.inr ⟨rfl, by omega⟩)
  · split
    · split
      · exact sSV_45 hV hpn h3 (Or.inr ⟨rfl, by omega⟩)
      · exact sSV_45 hV hpn h3 (Or.inl ⟨rfl, by omega⟩)
    · exact hV
theorem wlk_0 {p : Nat} : wlk L S p 0 = S 0 := by
  unfold wlk
  split
  · split
    · rfl
    · rfl
  · split
    · split
      · rfl
      · rfl
    · rfl
theorem tick_walk (hB : sQB n h L e t hp hm) (hC : sQC n h L e t hp hm sr q) (hM : sQM n h L e t hp hm sr (m0.1 2)) (hR : RT n h L hp m0 T B sc m) {p : Nat} (hpn : p < n) : ∃ sc' m', fSc_letTickGo_L43 q (nI n) (nI p, sc) = some (.inl (nI (p + 1), sc')) ∧ fMo_tick_L68 (nI p, m) = some (.inl (nI (p + 1), m')) ∧ RT n h L hp m0 T B sc' m' := by
  obtain ⟨S, hV, hS, hD, hf, hT, hBd⟩ := hR
  have hM2 := sQM_fr hB hM hf
  obtain ⟨b1, b2, b3, b4, b5, b6, b7, b8, b9⟩ := id hB
  have c1 := hM2.1.2.1
  obtain ⟨r3, r4, r5, r6, r7, r8, r9, r10⟩ := hS.2.2 p hpn
  obtain ⟨d3, d4, d5, d6, d7, d8, d9, d10⟩ := (sSM_live hD).2.2 p hpn
  obtain ⟨⟨v3, v4, v5, v6, v7, v8, v9, v10⟩, ⟨x1, x2, x3⟩, x4⟩ := hV.2.2.1 p hpn
  have hnp : ¬ n ≤ p := by omega
  unfold fSc_letTickGo_L43 fMo_tick_L68
  by_cases w : S 3 p = 0
  · obtain ⟨sc2, g1, g2⟩ := sc_walk hB hC hV hS hpn
    obtain ⟨m2, g3, g4, g5⟩ := mo_walk hB hM2 hV hD hpn
    simp (disch := omega) only [c1, r3, d3, w, hnp, g1, g3, if_true, if_false, Option.bind_some, bnd, Sum.elim_inl, Sum.elim_inr, lit, nle, nlt, neq, nadd, nsub, nx_or, nx_and, shl_1, ix_nI]
    exact ⟨_, _, rfl, rfl, wlk L S p, sSV_wlk hB hV hpn w, g2, g5, mFr_trans hf g4, by rw [wlk_0]; exact hT, by rw [wlk_0]; exact hBd⟩
  · simp (disch := omega) only [c1, r3, d3, w, hnp, if_false, Option.bind_some, bnd, Sum.elim_inl, Sum.elim_inr, lit, nle, nlt, neq, nadd, nsub, nx_or, nx_and, shl_1, ix_nI]
    exact ⟨_, _, rfl, rfl, S, hV, hS, hD, hf, hT, hBd⟩
theorem sSV_drC (hV : sSV n h L hp S) {k : Nat} (hk : k < S 0 3) : sSV n h L hp (drC S k) := by
  obtain ⟨⟨v1, v2⟩, v3, v4, v5⟩ := hV
  have e3 : drC S k 0 3 = S 0 3 - 1 := by unfold drC; rw [if_pos ⟨rfl, rfl⟩]
  refine ⟨⟨by rw [drC_0 _ _ _ (by omega), drC_0 _ _ _ (by omega)]; exact v1, by rw [e3]; omega⟩, fun i hi => ?_, fun r hr => ?_, ?_⟩
  · rw [e3] at hi
    rw [drC_12 _ _ 1 _ (by omega), drC_12 _ _ 2 _ (by omega)]
    by_cases hki : k ≤ i
    · rw [if_pos hki, if_pos hki]
      exact v3 (i + 1) (by omega)
    · rw [if_neg hki, if_neg hki]
      exact v3 i (by omega)
  · unfold sRow
    rw [drC_0 _ _ _ (by omega), drC_j _ _ 3 (by omega), drC_j _ _ 4 (by omega), drC_j _ _ 5 (by omega), drC_j _ _ 6 (by omega), drC_j _ _ 7 (by omega), drC_j _ _ 8 (by omega), drC_j _ _ 9 (by omega), drC_j _ _ 10 (by omega)]
    exact v4 r hr
  · rw [drC_j _ _ 8 (by omega)]; exact v5
theorem sc_drop (hV : sSV n h L hp S) (hS : sSC n S sc) {k : Nat} (hk : k < S 0 3) : ∃ sc', fSc_dropCall sc (nI k) = some sc' ∧ sSC n (drC S k) sc' := by
  have hc := hV.1.2
  obtain ⟨⟨s1, s2, s3⟩, s4, s5⟩ := hS
  have key := iter_I (f := fSc_dropCall_L2) (I := fun i z => z.1 = nI (k + i) ∧ ∀ j r, z.2.1 j r = if (j = 1 ∨ j = 2) ∧ k ≤ r ∧ r < k + i then sc.1 j (r + 1) else sc.1 j r) (E := fun z => ∀ j r, z.1 j r = if (j = 1 ∨ j = 2) ∧ k ≤ r ∧ r < S 0 3 - 1 then sc.1 j (r + 1) else sc.1 j r) (S 0 3 - 1 - k) (by omega) (a := (nI k, sc)) ⟨rfl, fun j r => by rw [if_neg (by omega)]⟩ (fun i z hi hz => ?_) (fun z hz => ?_)
  · obtain ⟨sc', g1, g2⟩ := key
    unfold fSc_dropCall
    have e3 : sc'.1 0 3 = nI (S 0 3) := by rw [g2, if_neg (by omega)]; exact s3
    simp (disch := omega) only [g1, e3, Option.bind_some, bnd, Sum.elim_inl, Sum.elim_inr, lit, nle, nlt, neq, nadd, nsub, nx_or, nx_and, shl_1, ix_nI]
    have hx : drC S k 0 3 = S 0 3 - 1 := by unfold drC; rw [if_pos ⟨rfl, rfl⟩]
    refine ⟨_, rfl, ⟨?_, ?_, ?_⟩, fun i hi => ?_, fun r hr => ?_⟩
    · rw [sI_1, if_neg (by omega), g2, if_neg (by omega), drC_0 _ _ _ (by omega)]; exact s1
    · rw [sI_1, if_neg (by omega), g2, if_neg (by omega), drC_0 _ _ _ (by omega)]; exact s2
    · rw [sI_1, if_pos ⟨rfl, rfl⟩, hx]
    · rw [hx] at hi
      have a1 : ∀ j, j ≠ 0 → (sI sc' 0 3 (nI (S 0 3 - 1))).1 j i = sc'.1 j i := fun j hj => by rw [sI_1, if_neg (fun z => hj z.1)]
      rw [a1 1 (by omega), a1 2 (by omega), g2, g2]
      rw [drC_12 _ _ 1 _ (by omega), drC_12 _ _ 2 _ (by omega)]
      by_cases hki : k ≤ i
      · rw [if_pos hki, if_pos hki, if_pos ⟨by omega, hki, by omega⟩, if_pos ⟨by omega, hki, by omega⟩]
        exact s4 (i + 1) (by omega)
      · rw [if_neg hki, if_neg hki, if_neg (fun z => hki z.2.1), if_neg (fun z => hki z.2.1)]
        exact s4 i (by omega)
    · have ee : ∀ j, 3 ≤ j → (sI sc' 0 3 (nI (S 0 3 - 1))).1 j r = sc.1 j r := fun j hj => by rw [sI_1, if_neg (by omega), g2, if_neg (by omega)]
      rw [ee 3 (by omega), ee 4 (by omega), ee 5 (by omega), ee 6 (by omega), ee 7 (by omega), ee 8 (by omega), ee 9 (by omega), ee 10 (by omega), drC_j _ _ 3 (by omega), drC_j _ _ 4 (by omega), drC_j _ _ 5 (by omega), drC_j _ _ 6 (by omega), drC_j _ _ 7 (by omega), drC_j _ _ 8 (by omega), drC_j _ _ 9 (by omega), drC_j _ _ 10 (by omega)]
      exact s5 r hr
  · obtain ⟨z1, z2⟩ := z
    obtain ⟨hz1, hz2⟩ := hz
    simp only at hz1 hz2
    subst hz1
    have e3 : z2.1 0 3 = nI (S 0 3) := by rw [hz2, if_neg (by omega)]; exact s3
    left
    unfold fSc_dropCall_L2
    have u1 : ¬ k + i < 0 := by omega
    have u2' : ¬ S 0 3 ≤ k + i + 1 := by omega
    have u3 : ¬ 12 ≤ k + i + 1 := by omega
    simp (disch := omega) only [e3, u1, u2', u3, if_false, Option.bind_some, bnd, Sum.elim_inl, Sum.elim_inr, lit, nle, nlt, neq, nadd, nsub, nx_or, nx_and, shl_1, ix_nI]
    refine ⟨_, rfl, by rw [Nat.add_assoc], fun j r => ?_⟩
    rw [sI_1, sI_1, sI_1, hz2, hz2, hz2]
    by_cases hr : r = k + i
    · subst hr
      by_cases h2 : j = 2
      · subst h2
        rw [if_pos ⟨rfl, rfl⟩, if_neg (by omega), if_neg (by omega), if_pos (by omega)]
      · rw [if_neg (fun z => h2 z.1)]
        by_cases h1 : j = 1
        · subst h1
          rw [if_pos ⟨rfl, rfl⟩, if_neg (by omega), if_pos (by omega)]
        · rw [if_neg (fun z => h1 z.1), if_neg (by omega), if_neg (by omega)]
    · rw [if_neg (fun z => hr z.2), if_neg (fun z => hr z.2)]
      by_cases hc1 : (j = 1 ∨ j = 2) ∧ k ≤ r ∧ r < k + i
      · rw [if_pos hc1, if_pos (by omega)]
      · rw [if_neg hc1, if_neg (by omega)]
  · obtain ⟨z1, z2⟩ := z
    obtain ⟨hz1, hz2⟩ := hz
    simp only at hz1 hz2
    subst hz1
    have e3 : z2.1 0 3 = nI (S 0 3) := by rw [hz2, if_neg (by omega)]; exact s3
    have ek : k + (S 0 3 - 1 - k) = S 0 3 - 1 := by omega
    rw [ek] at hz2
    unfold fSc_dropCall_L2
    have u1 : ¬ S 0 3 - 1 < 0 := by omega
    have u2' : S 0 3 ≤ S 0 3 - 1 + 1 := by omega
    simp (disch := omega) only [e3, ek, u1, u2', if_false, if_true, Option.bind_some, bnd, Sum.elim_inl, Sum.elim_inr, lit, nle, nlt, neq, nadd, nsub, nx_or, nx_and, shl_1, ix_nI]
    exact ⟨z2, rfl, hz2⟩
end
