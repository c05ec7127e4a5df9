theorem irm2 : ∀ z, z < 13 → irm (nI z) (nI 2) = nI (z % 2) := by decide +kernel
theorem mnt_s {S : Nat → Nat → Nat} {B : Nat → Nat} {j q : Nat} : mnt S B (j + 1) q = (mnt S B j q && decide (B (2 * j) ≠ q ∧ (if (S 8 (B (2 * j))).testBit q then 1 else 0) = B (2 * j + 1))) := by
  rw [Bool.eq_iff_iff, Bool.and_eq_true]
  unfold mnt
  simp only [decide_eq_true_eq]
  constructor
  · intro h
    exact ⟨fun i hi => h i (by omega), h j (by omega)⟩
  · rintro ⟨h1, h2⟩ i hi
    by_cases hij : i = j
    · subst hij; exact h2
    · exact h1 i (by omega)
theorem mnt_mono {S : Nat → Nat → Nat} {B : Nat → Nat} {j k q : Nat} (h : mnt S B j q = false) (hjk : j ≤ k) : mnt S B k q = false := by
  unfold mnt at h ⊢
  rw [decide_eq_false_iff_not] at h ⊢
  exact fun z => h (fun i hi => z i (by omega))
section
variable {X X' X1 : Nat → Obj} {n h L e t : Nat} {hp hm : Nat → Nat} {sr : Nat → Bool} {q m m' m0 m1 sc sc0 sc2 ta : Obj} {S S' : Nat → Nat → Nat} {T : Nat} {B : Nat → Nat}
theorem mo_meant (hB' : sQB n h L e t hp hm) (hV : sSV n h L hp S) (hD : sSM n S (dOf m)) {N : Nat} (hN : N ≤ 6) (h3 : m.1 0 3 = nI (2 * N)) (ho : ∀ i, i < 2 * N → fMo_octet m (nI i) = some (nI (B i)) ∧ B i < 256) (hB : ∀ i, i < N → B (2 * i) < n ∧ B (2 * i + 1) ≤ 1) {p : Nat} (hpn : p < n) : fMo_isMeant m (nI p) = some (nI (if mnt S B N p then 1 else 0)) := by
  have b1 := hB'.1
  have u1 : ¬ nI 1 = nI 0 := by decide +kernel
  have key := iter_I (f := fMo_isMeant_L4 m (nI p)) (I := fun j a => a = (nI (if mnt S B j p then 1 else 0), nI (2 * j))) (E := fun e => e = nI (if mnt S B N p then 1 else 0)) N (by omega) (a := (nI 1, nI 0)) ?_ (fun j a hj hz => ?_) (fun a hz => ?_)
  · obtain ⟨e, g1, g2⟩ := key
    unfold fMo_isMeant
    simp only [lit]
    rw [g1, g2]
    simp only [Option.bind_some]
    cases mnt S B N p
    · simp only [Bool.false_eq_true, if_false, bz_0]
    · simp only [if_true, bz_1]
  · have : mnt S B 0 p = true := by
      unfold mnt
      exact decide_eq_true (fun i hi => absurd hi (by omega))
    rw [this]; rfl
  · subst hz
    obtain ⟨o1, o2⟩ := ho (2 * j) (by omega)
    obtain ⟨o3, o4⟩ := ho (2 * j + 1) (by omega)
    obtain ⟨g1, g2⟩ := hB j hj
    have d8 := ((sSM_live hD).2.2 (B (2 * j)) g1).2.2.2.2.2.1
    have v8 := (hV.2.2.1 (B (2 * j)) g1).1.2.2.2.2.2.1
    have hbit := bit_n (a := S 8 (B (2 * j))) (p := p) (by omega) (by omega)
    unfold fMo_isMeant_L4
    simp only [lit]
    rw [h3, if_neg (by rw [nle (by omega) (by omega)]; omega)]
    cases hm1 : mnt S B j p
    · right
      refine ⟨nI 0, ?_, ?_⟩
      · simp only [Bool.false_eq_true, if_false, if_true]
      · rw [mnt_mono hm1 (by omega)]; rfl
    · left
      simp only [if_true, u1, if_false, nadd]
      rw [o1]
      simp only [Option.bind_some, nadd]
      rw [o3, ix_nI (by omega) (by omega)]
      simp only [Option.bind_some]
      rw [d8, hbit]
      refine ⟨_, ?_, rfl⟩
      rw [mnt_s, hm1, Bool.true_and]
      by_cases h1 : B (2 * j) = p
      · rw [if_pos (by rw [h1]), decide_eq_false (fun z => z.1 h1)]; rfl
      · rw [if_neg (by rw [neq (by omega) (by omega)]; exact h1)]
        by_cases h2 : (if (S 8 (B (2 * j))).testBit p then 1 else 0) = B (2 * j + 1)
        · rw [if_pos (by rw [h2]), decide_eq_true ⟨h1, h2⟩]; rfl
        · have : ¬ nI (if (S 8 (B (2 * j))).testBit p then 1 else 0) = nI (B (2 * j + 1)) := by
            rw [neq (by split <;> omega) (by omega)]; exact h2
          rw [if_neg this, decide_eq_false (fun z => h2 z.2)]; rfl
  · subst hz
    refine ⟨_, ?_, rfl⟩
    unfold fMo_isMeant_L4
    simp only [lit]
    rw [h3, if_pos (by rw [nle (by omega) (by omega)]; omega)]
theorem mo_left (hB' : sQB n h L e t hp hm) (hV : sSV n h L hp S) (hD : sSM n S (dOf m)) {f p : Nat} (hf : f < 256) (hpn : p < n) : fMo_leftBy m (nI f) (nI p) = some (nI (lft f (S 8 p) p)) := by
  have b1 := hB'.1
  have d8 := ((sSM_live hD).2.2 p hpn).2.2.2.2.2.1
  obtain ⟨⟨v3, v4, v5, v6, v7, v8, v9, v10⟩, -, ⟨-, v11⟩⟩ := hV.2.2.1 p hpn
  have h1 := and_256 (b := S 8 p) hf
  have p1 := pcnt_le h1
  have p2 := pcnt_le hf
  have hs := pc_split (f := f) (K := S 8 p) (p := p) (by omega) v11
  have hbit := bit_n (a := f) (p := p) (by omega) (by omega)
  have hb1 : (if f.testBit p then 1 else 0) ≤ 1 := by split <;> omega
  unfold fMo_leftBy
  simp only [lit, nadd]
  rw [ix_nI (by omega) (by omega)]
  simp only [Option.bind_some, bnd]
  rw [d8, nx_and, mbc h1, hbit]
  simp only [Option.bind_some]
  rw [mbc hf]
  simp only [Option.bind_some]
  rw [nsub (by omega), nsub (by omega), mgr (by omega) (by omega)]
  simp only [Option.bind_some]
  rw [mgr (by omega) (by omega)]
  rfl
theorem who_valid (hB' : sQB n h L e t hp hm) (hC : sQC n h L e t hp hm sr (X 5)) (hM : sQM n h L e t hp hm sr (m.1 2)) {N : Nat} (hN : N ≤ 6) (hz : (X 1).1 0 1 = nI (2 * N)) (h3 : m.1 0 3 = nI (2 * N)) (ho : ∀ i, i < 2 * N → fMo_octet m (nI i) = some (nI (B i)) ∧ fTa_byteOf (X 1) (nI i) = some (nI (B i)) ∧ B i < 256) :
    (iter (fKL_whoByPairs_L43 X) FU (nI 0, nI 0, nI 0) = some (.inl (nI (ym B 1 N), nI (ym B 0 N))) ∧ iter (fMo_who_L39 m) FU (nI 0) = some (.inl ()) ∧ ∀ i, i < N → B (2 * i) < n ∧ B (2 * i + 1) ≤ 1) ∨ (iter (fKL_whoByPairs_L43 X) FU (nI 0, nI 0, nI 0) = some (.inr (-nI 1)) ∧ iter (fMo_who_L39 m) FU (nI 0) = some (.inr (-nI 1, m))) := by
  have b1 := hB'.1
  have u1 : ¬ nI 1 = nI 0 := by decide +kernel
  have key := iter2 (f := fKL_whoByPairs_L43 X) (g := fMo_who_L39 m) (I := fun j a a' => a = (nI (ym B 1 j), nI (ym B 0 j), nI (2 * j)) ∧ a' = nI (2 * j) ∧ ∀ i, i < j → B (2 * i) < n ∧ B (2 * i + 1) ≤ 1) (E := fun z z' => (z = .inl (nI (ym B 1 N), nI (ym B 0 N)) ∧ z' = .inl () ∧ ∀ i, i < N → B (2 * i) < n ∧ B (2 * i + 1) ≤ 1) ∨ (z = .inr (-nI 1) ∧ z' = .inr (-nI 1, m))) N (by omega) (a := (nI 0, nI 0, nI 0)) (a' := nI 0) ⟨rfl, rfl, fun i hi => absurd hi (by omega)⟩ (fun j a a' hj hz' => ?_) (fun a a' hz' => ?_)
  · obtain ⟨z, z', g1, g2, g3⟩ := key
    rw [g1, g2]
    rcases g3 with ⟨rfl, rfl, g5⟩ | ⟨rfl, rfl⟩
    · exact Or.inl ⟨rfl, rfl, g5⟩
    · exact Or.inr ⟨rfl, rfl⟩
  · obtain ⟨rfl, rfl, hall⟩ := hz'
    obtain ⟨o1, o2, o5⟩ := ho (2 * j) (by omega)
    obtain ⟨o3, o4, o6⟩ := ho (2 * j + 1) (by omega)
    have l1 : fKL_whoByPairs_L43 X (nI (ym B 1 j), nI (ym B 0 j), nI (2 * j)) = (fQu_hasPerson (X 5) (nI (B (2 * j)))).bind fun r3 => if r3 = nI 0 then some (.inr (.inr (-nI 1))) else if nI (B (2 * j + 1)) < nI 0 then some (.inr (.inr (-nI 1))) else if nI (B (2 * j + 1)) ≤ nI 1 then (if nI (B (2 * j + 1)) = nI 1 then some (.inl (nI (ym B 1 j) ||| shl (nI 1) (nI (B (2 * j))), nI (ym B 0 j), nI (2 * j + 2))) else some (.inl (nI (ym B 1 j), nI (ym B 0 j) ||| shl (nI 1) (nI (B (2 * j))), nI (2 * j + 2)))) else some (.inr (.inr (-nI 1))) := by
      unfold fKL_whoByPairs_L43
      simp only [lit, nadd]
      rw [hz, if_neg (by rw [nle (by omega) (by omega)]; omega), o2]
      simp only [Option.bind_some]
      rw [o4]
      rfl
    have l2 : fMo_who_L39 m (nI (2 * j)) = (fMo_isPerson m (nI (B (2 * j)))).bind fun r5 => if r5 = nI 0 then some (.inr (.inr (-nI 1, m))) else if nI (B (2 * j + 1)) ≤ nI 1 then some (.inl (nI (2 * j + 2))) else some (.inr (.inr (-nI 1, m))) := by
      unfold fMo_who_L39
      simp only [lit, nadd]
      rw [h3, if_neg (by rw [nle (by omega) (by omega)]; omega), o1]
      simp only [Option.bind_some]
      rw [o3]
      rfl
    by_cases g1 : B (2 * j) < n
    · rw [qu_hasP hB' hC g1, Option.bind_some, if_neg u1, if_neg (nI_lt0 (by omega))] at l1
      rw [mo_isP hB' hM g1, Option.bind_some, if_neg u1] at l2
      by_cases g2 : B (2 * j + 1) ≤ 1
      · rw [if_pos (by rw [nle (by omega) (by omega)]; exact g2)] at l1 l2
        left
        have hall' : ∀ i, i < j + 1 → B (2 * i) < n ∧ B (2 * i + 1) ≤ 1 := fun i hi => by
          by_cases hij : i = j
          · subst hij; exact ⟨g1, g2⟩
          · exact hall i (by omega)
        rw [shl_1 (by omega), nx_or, nx_or] at l1
        by_cases g3 : B (2 * j + 1) = 1
        · rw [if_pos (by rw [g3])] at l1
          refine ⟨_, _, l1, l2, ?_, rfl, hall'⟩
          have : ¬ B (2 * j + 1) = 0 := by omega
          simp only [ym, g3, if_true, this, if_false, Nat.or_zero, Nat.reduceEqDiff]
          rfl
        · have g4 : B (2 * j + 1) = 0 := by omega
          rw [if_neg (by rw [neq (by omega) (by omega)]; exact g3)] at l1
          refine ⟨_, _, l1, l2, ?_, rfl, hall'⟩
          simp only [ym, g4, if_true, if_false, Nat.or_zero, Nat.reduceEqDiff, Nat.zero_ne_one]
          rfl
      · rw [if_neg (by rw [nle (by omega) (by omega)]; exact g2)] at l1 l2
        right
        exact ⟨_, _, l1, l2, Or.inr ⟨rfl, rfl⟩⟩
    · right
      have hv : ∀ p, p < n → ¬ nI (B (2 * j)) = nI p := fun p hpn => by rw [neq (by omega) (by omega)]; omega
      rw [qu_hasP0 hB' hC hv, Option.bind_some, if_pos rfl] at l1
      rw [mo_isP0 hB' hM hv, Option.bind_some, if_pos rfl] at l2
      exact ⟨_, _, l1, l2, Or.inr ⟨rfl, rfl⟩⟩
  · obtain ⟨rfl, rfl, hall⟩ := hz'
    refine ⟨_, _, ?_, ?_, Or.inl ⟨rfl, rfl, hall⟩⟩
    · unfold fKL_whoByPairs_L43
      simp only [lit]
      rw [hz, if_pos (by rw [nle (by omega) (by omega)]; omega)]
    · unfold fMo_who_L39
      simp only [lit]
      rw [h3, if_pos (by rw [nle (by omega) (by omega)]; omega)]
theorem mo_whoset (hB' : sQB n h L e t hp hm) (hM : sQM n h L e t hp hm sr (m.1 2)) (hV : sSV n h L hp S) (hD : sSM n S (dOf m)) {N : Nat} (hN : N ≤ 6) (h3 : m.1 0 3 = nI (2 * N)) (ho : ∀ i, i < 2 * N → fMo_octet m (nI i) = some (nI (B i)) ∧ B i < 256) (hB : ∀ i, i < N → B (2 * i) < n ∧ B (2 * i + 1) ≤ 1) : iter (fMo_who_L82 m) FU (nI 0, nI 0) = some (nI (msk n (mnt S B N))) := by
  have b1 := hB'.1
  have c1 := hM.1.2.1
  have u1 : ¬ nI 1 = nI 0 := by decide +kernel
  refine msk_loop (f := fMo_who_L82 m) n (by omega) (mnt S B N) (fun p hpn => ?_) ?_
  · unfold fMo_who_L82
    simp only [lit]
    rw [c1, if_neg (by rw [nle (by omega) (by omega)]; omega), mo_meant hB' hV hD hN h3 ho hB hpn]
    simp only [Option.bind_some, bnd]
    rw [shl_1 (by omega), nx_or, nx_or, nadd]
    cases mnt S B N p
    · simp only [Bool.false_eq_true, if_false, if_true]
    · simp only [if_true, u1, if_false]
  · unfold fMo_who_L82
    simp only [lit]
    rw [c1, if_pos (by rw [nle (by omega) (by omega)]; omega)]
theorem mo_whoask (hB' : sQB n h L e t hp hm) (hM : sQM n h L e t hp hm sr (m.1 2)) (hV : sSV n h L hp S) (hD : sSM n S (dOf m)) {f : Nat} (hf : f < 256) (hn : 1 ≤ n) : iter (fMo_who_L134 (nI f)) FU (nI 1, sI m 0 30 (nI 0)) = some (sI m 0 30 (nI (bmn (fun p => lft f (S 8 p) p) n))) := by
  have b1 := hB'.1
  have c1 := hM.1.2.1
  have hM' : ∀ v, sQM n h L e t hp hm sr ((sI m 0 30 v).1 2) := fun v => hM
  have hD' : ∀ v, sSM n S (dOf (sI m 0 30 v)) := fun v => hD
  have key := iter_F (f := fMo_who_L134 (nI f)) (F := fun i => (nI (i + 1), sI m 0 30 (nI (bmn (fun p => lft f (S 8 p) p) (i + 1))))) (sI m 0 30 (nI (bmn (fun p => lft f (S 8 p) p) n))) (n - 1) (by omega) (fun i hi => ?_) ?_
  · have h0 : bmn (fun p => lft f (S 8 p) p) (0 + 1) = 0 := by
      show (if lft f (S 8 0) 0 < lft f (S 8 0) 0 then 0 else 0) = 0
      split <;> rfl
    simp only [h0] at key
    exact key
  · have hb := bmn_lt (fun p => lft f (S 8 p) p) i
    have l1 := lft_lt (K := S 8 (i + 1)) (p := i + 1) hf
    have l2 := lft_lt (K := S 8 (bmn (fun p => lft f (S 8 p) p) (i + 1))) (p := bmn (fun p => lft f (S 8 p) p) (i + 1)) hf
    show fMo_who_L134 (nI f) (nI (i + 1), sI m 0 30 (nI (bmn (fun p => lft f (S 8 p) p) (i + 1)))) = some (.inl (nI (i + 2), sI m 0 30 (nI (bmn (fun p => lft f (S 8 p) p) (i + 2)))))
    have e0 : bmn (fun p => lft f (S 8 p) p) (i + 2) = if lft f (S 8 (i + 1)) (i + 1) < lft f (S 8 (bmn (fun p => lft f (S 8 p) p) (i + 1))) (bmn (fun p => lft f (S 8 p) p) (i + 1)) then i + 1 else bmn (fun p => lft f (S 8 p) p) (i + 1) := rfl
    rw [e0]
    generalize bmn (fun p => lft f (S 8 p) p) (i + 1) = b at hb l2 ⊢
    have e1 : (sI m 0 30 (nI b)).1 2 1 = nI n := c1
    have e2 : (sI m 0 30 (nI b)).1 0 30 = nI b := by rw [sI_1, if_pos ⟨rfl, rfl⟩]
    unfold fMo_who_L134
    simp only [lit]
    rw [e1, e2, if_neg (by rw [nle (by omega) (by omega)]; omega), mo_left hB' hV (hD' _) hf (p := i + 1) (by omega)]
    simp only [Option.bind_some]
    rw [mo_left hB' hV (hD' _) hf (p := b) (by omega)]
    simp only [Option.bind_some, bnd, nadd, sI_sI]
    by_cases h1 : lft f (S 8 (i + 1)) (i + 1) < lft f (S 8 b) b
    · rw [if_pos h1, if_neg (by rw [nle (by omega) (by omega)]; omega)]
    · rw [if_neg h1, if_pos (by rw [nle (by omega) (by omega)]; omega)]
  · have e1 : ∀ v, (sI m 0 30 v).1 2 1 = nI n := fun v => c1
    rw [show n - 1 + 1 = n by omega]
    unfold fMo_who_L134
    simp only [lit]
    rw [e1, if_pos (by rw [nle (by omega) (by omega)]; omega)]
theorem R_ask (hR : R X m) (v : Int32) : R (va_up X 0 (sI (X 0) 0 14 v)) (sI (sI m 0 31 (nI 1)) 0 30 v) := by
  obtain ⟨n, h, L, e, t, hp, hm, sr, hs, hP, hT, hI0, hI1, hW, hF, hTh, hAs, hr⟩ := hR
  exact ⟨n, h, L, e, t, hp, hm, sr, hs, past_up hP (by omega), hT, hI0, hI1, hW, hF, hTh, Or.inr ⟨rfl, rfl⟩, hr⟩
theorem k_who (hR : R X m) : ∃ r X' m', fKL_who X = some (r, X') ∧ fMo_who m = some (r, m') ∧ R X' m' := by
  have u1 : ¬ nI 1 = nI 0 := by decide +kernel
  have hp' : ∃ z, z ≤ 940 ∧ (X 1).1 0 1 = nI z ∧ m.1 0 2 = nI z ∧ ∀ i, i < z → (X 1).1 2 i = m.1 1 i ∧ isB (m.1 1 i) := by
    obtain ⟨n, h, L, e, t, hp, hm, sr, hs, hP, hT, hr⟩ := hR
    exact hT
  obtain ⟨z, hz, t1, t2, t3⟩ := hp'
  generalize hr2 : sI (sI (sI (sI (sI m 0 0 (nI 0)) 0 3 (nI z)) 0 2 (nI 0)) 0 4 (nI 0)) 0 5 (nI 940) = r2
  have tk : fMo_taken (sI m 0 0 (nI 0)) (nI 940) = some r2 := by
    rw [← hr2, ← t2]
    rfl
  have hR2 : R (va_up X 1 (sI (X 1) 0 1 (nI 0))) r2 := by
    rw [← hr2]
    exact R_tape hR rfl (tfm_trans (tfm_sI (by omega)) (tfm_trans (tfm_sI (by omega)) (tfm_trans (tfm_sI (by omega)) (tfm_trans (tfm_sI (by omega)) (tfm_sI (by omega)))))) ⟨0, by omega, rfl, rfl, fun i hi => absurd hi (by omega)⟩
  have r23 : r2.1 0 3 = nI z := by rw [← hr2]; rfl
  have r21 : r2.1 1 = m.1 1 := by rw [← hr2]; rfl
  have neg : ∀ v : Int32, ¬ v ≤ nI 0 → True := fun _ _ => trivial
  have um : -nI 1 ≤ nI 0 := by decide +kernel
  have bad : fKL_whoByPairs X = some (-nI 1) → fMo_who m = some (-nI 1, r2) → ∃ r X' m', fKL_who X = some (r, X') ∧ fMo_who m = some (r, m') ∧ R X' m' := fun h1 h2 => by
    refine ⟨-nI 1, _, r2, ?_, h2, hR2⟩
    unfold fKL_who
    simp only [lit]
    rw [h1]
    simp only [Option.bind_some, bnd]
    rw [if_pos um]
  by_cases z1 : z < 2
  · apply bad
    · unfold fKL_whoByPairs
      simp only [lit]
      rw [t1, if_pos (by rw [nlt (by omega) (by omega)]; omega)]
    · unfold fMo_who
      simp only [lit, bnd]
      rw [tk]
      simp only [Option.bind_some]
      rw [r23, isIn_no (Or.inl (by rw [nlt (by omega) (by omega)]; omega))]
      rfl
  by_cases z2 : 12 < z
  · apply bad
    · unfold fKL_whoByPairs
      simp only [lit]
      rw [t1, if_neg (by rw [nlt (by omega) (by omega)]; omega), if_pos (by rw [nlt (by omega) (by omega)]; omega)]
    · unfold fMo_who
      simp only [lit, bnd]
      rw [tk]
      simp only [Option.bind_some]
      rw [r23, isIn_no (Or.inr (by rw [nle (by omega) (by omega)]; omega))]
      rfl
  have hin : fMo_isIn (nI z) (nI 2) (nI 12) = some (nI 1) := isIn_yes (by rw [nlt (by omega) (by omega)]; omega) (by rw [nle (by omega) (by omega)]; omega)
  by_cases z3 : z % 2 = 1
  · apply bad
    · unfold fKL_whoByPairs
      simp only [lit]
      rw [t1, if_neg (by rw [nlt (by omega) (by omega)]; omega), if_neg (by rw [nlt (by omega) (by omega)]; omega), irm2 z (by omega), z3, if_neg u1]
    · unfold fMo_who
      simp only [lit, bnd]
      rw [tk]
      simp only [Option.bind_some]
      rw [r23, hin]
      simp only [Option.bind_some]
      rw [if_neg u1, irm2 z (by omega), z3, if_pos rfl]
  obtain ⟨N, hN⟩ : ∃ N, z = 2 * N := ⟨z / 2, by omega⟩
  have z4 : z % 2 = 0 := by omega
  subst hN
  have hB : ∀ i, i < 2 * N → fMo_octet r2 (nI i) = some (nI (bv (m.1 1 i))) ∧ fTa_byteOf (X 1) (nI i) = some (nI (bv (m.1 1 i))) ∧ bv (m.1 1 i) < 256 := fun i hi => by
    obtain ⟨a1, a2⟩ := t3 i hi
    obtain ⟨a3, a4⟩ := isB_and a2
    refine ⟨?_, ?_, a4⟩
    · unfold fMo_octet
      simp only [lit]
      rw [ix_nI (by omega) (by omega)]
      simp only [Option.bind_some]
      rw [r21, a3]
    · unfold fTa_byteOf
      simp only [lit]
      rw [t1, if_neg (nI_lt0 (by omega)), if_neg (by rw [nle (by omega) (by omega)]; omega), if_neg (by rw [nle (by omega) (by omega)]; omega), ix_nI (by omega) (by omega)]
      simp only [Option.bind_some]
      rw [a1, a3]
  have hs' : ∃ n h L e t hp hm sr S, sQB n h L e t hp hm ∧ sQC n h L e t hp hm sr (X 5) ∧ sQM n h L e t hp hm sr (r2.1 2) ∧ sSV n h L hp S ∧ sSC n S (X 12) ∧ sSM n S (dOf r2) := by
    obtain ⟨n, h, L, e, t, hp, hm, sr, ⟨hB, hC, hM, hN, ⟨S, hV, hS, hD, -⟩, -⟩, -⟩ := hR2
    exact ⟨n, h, L, e, t, hp, hm, sr, S, hB, hC, hM, hV, hS, hD⟩
  obtain ⟨n, h, L, e, t, hp, hm, sr, S, hB', hC, hM, hV, hS, hD⟩ := hs'
  have b1 := hB'.1
  have lC : fKL_whoByPairs X = (iter (fKL_whoByPairs_L43 X) FU (nI 0, nI 0, nI 0)).bind fun z => Sum.elim (fun e6 => (fSc_whomJustTheseKnow (X 5) (X 12) e6.1 e6.2).bind fun r7 => some r7) (fun r8 => some r8) z := by
    unfold fKL_whoByPairs
    simp only [lit]
    rw [t1, if_neg (by rw [nlt (by omega) (by omega)]; omega), if_neg (by rw [nlt (by omega) (by omega)]; omega), irm2 _ (by omega), z4, if_pos rfl]
  have lM : fMo_who m = (iter (fMo_who_L39 r2) FU (nI 0)).bind fun z => Sum.elim (fun _ => (iter (fMo_who_L82 r2) FU (nI 0, nI 0)).bind fun e11 => if e11 = nI 0 then some (nI 0, r2) else (iter (fMo_who_L134 e11) FU (nI 1, sI (sI r2 0 31 (nI 1)) 0 30 (nI 0))).bind fun e17 => some (e11, e17)) (fun r18 => some r18) z := by
    unfold fMo_who
    simp only [lit, bnd]
    rw [tk]
    simp only [Option.bind_some]
    rw [r23, hin]
    simp only [Option.bind_some]
    rw [if_neg u1, irm2 _ (by omega), z4, if_neg (by decide +kernel)]
  rcases who_valid (B := fun i => bv (m.1 1 i)) hB' hC hM (by omega) t1 r23 hB with ⟨w1, w2, w3⟩ | ⟨w1, w2⟩
  · have s1 := sc_whom (B := fun i => bv (m.1 1 i)) (j := N) hB' hC hV hS w3
    have s2 := mo_whoset (B := fun i => bv (m.1 1 i)) (N := N) hB' hM hV hD (by omega) r23 (fun i hi => ⟨(hB i hi).1, (hB i hi).2.2⟩) w3
    have s3 : msk n (mnt S (fun i => bv (m.1 1 i)) N) < 256 := msk_256 _ b1
    rw [w1, Option.bind_some, Sum.elim_inl, s1] at lC
    rw [w2, Option.bind_some, Sum.elim_inl, s2, Option.bind_some] at lM
    by_cases h0 : msk n (mnt S (fun i => bv (m.1 1 i)) N) = 0
    · rw [h0] at lC lM
      rw [if_pos rfl] at lM
      refine ⟨nI 0, _, r2, ?_, lM, hR2⟩
      unfold fKL_who
      simp only [lit]
      rw [lC]
      simp only [Option.bind_some, bnd]
      rw [if_pos (by rw [nle (by omega) (by omega)]; omega)]
    · have hn1 : 1 ≤ n := by
        rcases Nat.eq_zero_or_pos n with h | h
        · rw [h] at h0
          exact absurd rfl h0
        · exact h
      have s4 := sc_best hB' hC hV hS s3 hn1
      have s5 := mo_whoask (m := sI r2 0 31 (nI 1)) hB' hM hV hD s3 hn1
      rw [if_neg (by rw [neq (by omega) (by omega)]; exact h0), s5, Option.bind_some] at lM
      refine ⟨_, _, _, ?_, lM, R_ask hR2 _⟩
      unfold fKL_who
      simp only [lit]
      rw [lC]
      simp only [Option.bind_some, bnd]
      rw [if_neg (by rw [nle (by omega) (by omega)]; omega)]
      show ((fSc_bestToAsk (X 5) (X 12) _).bind _) = _
      rw [s4]
      rfl
  · rw [w1] at lC
    rw [w2] at lM
    exact bad lC lM
end
