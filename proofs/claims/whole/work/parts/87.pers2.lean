/-- those of the same house -/
def hhm (n : Nat) (hm : Nat → Nat) (d : Nat) : Nat := if d = 0 then 0 else lvm n hm (d - 1)
section
variable {z lim : Nat} {b : Nat → Nat} {ta m ta' m' m1 x y q q' qr qr' sc : Obj} {k v v0 pl p p0 : Nat} {l : List Nat} {n h L e t : Nat} {hp hm : Nat → Nat} {sr sr' : Nat → Bool} {S : Nat → Nat → Nat} {fa fb fc : Bool}
theorem hhm_bit {d r : Nat} : (hhm n hm d).testBit r = true ↔ r < n ∧ 0 < d ∧ hm r = d := by
  unfold hhm
  by_cases hd : d = 0
  · rw [if_pos hd, Nat.zero_testBit]
    exact ⟨fun z => Bool.noConfusion z, fun z => absurd hd (by omega)⟩
  · rw [if_neg hd]
    unfold lvm
    rw [msk_bit, Bool.and_eq_true, decide_eq_true_iff, beq_iff_eq, show d - 1 + 1 = d by omega]
    exact ⟨fun z => ⟨z.1, by omega, z.2⟩, fun z => ⟨z.1, z.2.2⟩⟩
theorem hhm_256 {d : Nat} (hn : n ≤ 8) : hhm n hm d < 256 := by
  unfold hhm
  split
  · omega
  · exact lvm_lt hn
theorem hhm_s {d k : Nat} : hhm (k + 1) hm d = hhm k hm d ||| (if 0 < d ∧ hm k = d then 2 ^ k else 0) := by
  unfold hhm
  by_cases hd : d = 0
  · rw [if_pos hd, if_pos hd, if_neg (by omega)]; rfl
  · rw [if_neg hd, if_neg hd]
    unfold lvm
    show msk k _ ||| (if (hm k == d - 1 + 1) then 2 ^ k else 0) = _
    congr 1
    by_cases hk : hm k = d
    · rw [if_pos (beq_iff_eq.mpr (by omega)), if_pos ⟨by omega, hk⟩]
    · rw [if_neg (fun w => hk (by have := beq_iff_eq.mp w; omega)), if_neg (fun w => hk w.2)]
theorem cut_n {X n : Nat} (hX : X < 2 ^ n) (hn : n < 8) : (X ||| 2 ^ n) &&& (255 ^^^ 2 ^ n) = X := by
  apply Nat.eq_of_testBit_eq
  intro i
  have h255 : (255 : Nat).testBit i = decide (i < 8) := Nat.testBit_two_pow_sub_one 8 i
  rw [Nat.testBit_and, Nat.testBit_or, Nat.testBit_xor, h255, Nat.testBit_two_pow]
  by_cases hi : i < n
  · have h1 : decide (n = i) = false := decide_eq_false (by omega)
    have h2 : decide (i < 8) = true := decide_eq_true (by omega)
    rw [h1, h2]; simp
  · have h3 : X.testBit i = false := Nat.testBit_lt_two_pow (Nat.lt_of_lt_of_le hX (Nat.pow_le_pow_right (by decide) (by omega)))
    rw [h3]
    by_cases hin : n = i
    · subst hin
      have h2 : decide (n < 8) = true := decide_eq_true (by omega)
      rw [h2]; simp
    · have h1 : decide (n = i) = false := decide_eq_false hin
      rw [h1]; simp
theorem sQB_new (hB : sQB n h L e t hp hm) (hn : n < 8) {d : Nat} (hd : d ≤ h) : sQB (n + 1) h L e t hp (va_up hm n d) := by
  obtain ⟨b1, b2, b3, b4, b5, b6, b7, b8, b9⟩ := hB
  refine ⟨by omega, b2, b3, b4, b5, b6, b7, b8, fun p hpn => ?_⟩
  rw [va_up_at]
  split
  · exact hd
  · exact b9 p (by omega)
theorem sc_addP (hB : sQB n h L e t hp hm) (hn : n < 8) {d : Nat} (hd : d ≤ h) (hC : sQC (n + 1) h L e t hp (va_up hm n d) sr' q') (hS : sSC n S sc) {a w : Nat} : ∃ sc', fSc_addPerson q' sc (nI n) (nI a) (nI w) = some sc' ∧ sSC (n + 1) (mkK (newS S n a w) n (hhm n hm d)) sc' := by
  have hB' := sQB_new hB hn hd
  have h1 := qu_hasP hB' hC (p := n) (by omega)
  have h2 := qu_home hB' hC (p := n) (by omega)
  rw [va_up_at, if_pos rfl] at h2
  have u1 : ¬ nI 1 = nI 0 := by decide +kernel
  have h3 : ∃ x, fQu_livingIn q' (nI d - nI 1) = some (nI x) ∧ x < 256 ∧ x &&& (255 ^^^ 2 ^ n) = hhm n hm d := by
    by_cases hd0 : d = 0
    · refine ⟨0, ?_, by omega, ?_⟩
      · rw [hd0, ← neg1]
        unfold fQu_livingIn
        simp only [lit]
        rw [if_pos (by decide +kernel)]
      · unfold hhm
        rw [if_pos hd0, Nat.zero_and]
    · refine ⟨lvm (n + 1) (va_up hm n d) (d - 1), ?_, lvm_lt (by omega), ?_⟩
      · rw [nsub (by omega)]
        exact qu_living hB' hC (by omega)
      · rw [lvm_new hn hB.2.2.2.2.2.2.2.2, if_pos (by omega)]
        unfold hhm
        rw [if_neg hd0]
        exact cut_n (msk_lt _ n) hn
  obtain ⟨x, x1, x2, x3⟩ := h3
  obtain ⟨sc', g1, g2⟩ := sc_makeK hB' hC (sSC_new hS (a := a) (w := w)) (p := n) (a := hhm n hm d) (by omega) (hhm_256 (by omega))
  refine ⟨sc', ?_, g2⟩
  unfold fSc_addPerson
  simp only [lit, bnd]
  rw [h1, Option.bind_some, if_neg u1, ix_nI (by omega) (by omega)]
  simp only [Option.bind_some]
  rw [h2, Option.bind_some, x1, Option.bind_some, shl_1 (by omega), andn x2, x3, g1]
  rfl
/-- the reference: all of his house are known to him -/
theorem mo_L202 (hn : n < 8) {d : Nat} {T : Nat → Nat} (h11 : m.1 3 (11 + n) = nI d) (hh : ∀ p, p < n → m.1 3 (11 + p) = nI (hm p)) (hdl : d < 1000) (hml : ∀ p, p < n → hm p < 1000) (hT : ∀ r, r < 8 → m.1 3 (36 + r) = nI (T r)) : ∃ m', iter (fMo_readPerson_L202 (nI n)) FU (nI 0, m) = some m' ∧ (∀ j, j < 36 ∨ 44 ≤ j → m'.1 3 j = m.1 3 j) ∧ (∀ r, r < 8 → m'.1 3 (36 + r) = nI (T r ||| (if r = n then hhm n hm d else 0) ||| (if (hhm n hm d).testBit r = true then 2 ^ n else 0))) ∧ (∀ j, j ≠ 3 → m'.1 j = m.1 j) ∧ m'.2 = m.2 := by
  have key := iter_I (f := fMo_readPerson_L202 (nI n)) (I := fun k z => z.1 = nI k ∧ (∀ j, j < 36 ∨ 44 ≤ j → z.2.1 3 j = m.1 3 j) ∧ (∀ r, r < 8 → z.2.1 3 (36 + r) = nI (T r ||| (if r = n then hhm k hm d else 0) ||| (if (hhm k hm d).testBit r = true then 2 ^ n else 0))) ∧ (∀ j, j ≠ 3 → z.2.1 j = m.1 j) ∧ z.2.2 = m.2) (E := fun m' => (∀ j, j < 36 ∨ 44 ≤ j → m'.1 3 j = m.1 3 j) ∧ (∀ r, r < 8 → m'.1 3 (36 + r) = nI (T r ||| (if r = n then hhm n hm d else 0) ||| (if (hhm n hm d).testBit r = true then 2 ^ n else 0))) ∧ (∀ j, j ≠ 3 → m'.1 j = m.1 j) ∧ m'.2 = m.2) n (by omega) (a := (nI 0, m)) ⟨rfl, fun _ _ => rfl, fun r hr => ?_, fun _ _ => rfl, rfl⟩ (fun k z hk hz => ?_) (fun z hz => ?_)
  · exact key
  · have h0 : hhm 0 hm d = 0 := by
      unfold hhm
      split
      · rfl
      · rfl
    rw [h0, Nat.zero_testBit, if_neg (show ¬ false = true by decide), ite_self, Nat.or_zero, Nat.or_zero]
    exact hT r hr
  · obtain ⟨z1, z2⟩ := z
    obtain ⟨hz1, hz2, hz3, hz4, hz5⟩ := hz
    simp only at hz1 hz2 hz3 hz4 hz5
    subst hz1
    have a1 : z2.1 3 (11 + n) = nI d := by rw [hz2 _ (by omega)]; exact h11
    have a2 : z2.1 3 (11 + k) = nI (hm k) := by rw [hz2 _ (by omega)]; exact hh k hk
    have hmk := hml k hk
    left
    unfold fMo_readPerson_L202
    simp only [lit]
    rw [if_neg (by rw [nle (by omega) (by omega)]; omega), nadd, ix_nI (by omega) (by omega), Option.bind_some, a1]
    by_cases hc : 0 < d ∧ hm k = d
    · rw [if_neg (by rw [nle (by omega) (by omega)]; omega), nadd, ix_nI (by omega) (by omega), Option.bind_some, Option.bind_some, a2, a1, if_pos (by rw [hc.2])]
      have b1 := hz3 n (by omega)
      have b2 := hz3 k (by omega)
      have nb : (hhm k hm d).testBit n = false := by
        cases hb : (hhm k hm d).testBit n
        · rfl
        · have := (hhm_bit.mp hb).1; omega
      have kb : (hhm k hm d).testBit k = false := by
        cases hb : (hhm k hm d).testBit k
        · rfl
        · have := (hhm_bit.mp hb).1; omega
      rw [if_pos rfl, nb, if_neg (by decide), Nat.or_zero] at b1
      rw [if_neg (by omega), kb, if_neg (by decide), Nat.or_zero, Nat.or_zero] at b2
      have e1 : fMo_knowsIn_3 z2 (nI 36) (nI n) (nI k) = some (sI (sI z2 3 (36 + n) (nI (T n ||| hhm k hm d ||| 2 ^ k))) 3 (36 + k) (nI (T k ||| 2 ^ n))) := by
        unfold fMo_knowsIn_3
        simp only [lit, bnd]
        rw [nadd, nadd, ix_nI (by omega) (by omega), Option.bind_some, Option.bind_some, ix_nI (by omega) (by omega), Option.bind_some, Option.bind_some, b1, shl_1 (by omega), shl_1 (by omega), nx_or, sI_1, if_neg (by omega), b2, nx_or]
      rw [e1, Option.bind_some, nadd]
      refine ⟨_, rfl, rfl, fun j hj => ?_, fun r hr => ?_, fun j hj => ?_, hz5⟩
      · show (sI (sI z2 3 (36 + n) _) 3 (36 + k) _).1 3 j = _
        rw [sI_1, if_neg (by omega), sI_1, if_neg (by omega)]; exact hz2 j hj
      · show (sI (sI z2 3 (36 + n) _) 3 (36 + k) _).1 3 (36 + r) = _
        rw [sI_1, sI_1]
        have hs : hhm (k + 1) hm d = hhm k hm d ||| 2 ^ k := by rw [hhm_s, if_pos hc]
        by_cases hrk : r = k
        · rw [if_pos ⟨rfl, by omega⟩, hrk, if_neg (by omega), if_pos (hhm_bit.mpr ⟨by omega, hc⟩), Nat.or_zero]
        · rw [if_neg (by omega)]
          by_cases hrn : r = n
          · have nb' : (hhm (k + 1) hm d).testBit r = false := by
              cases hb : (hhm (k + 1) hm d).testBit r
              · rfl
              · have := (hhm_bit.mp hb).1; omega
            rw [if_pos ⟨rfl, by omega⟩, nb', if_pos hrn, if_neg (by decide), Nat.or_zero, hs, hrn, Nat.or_assoc]
          · have eb : (hhm (k + 1) hm d).testBit r = (hhm k hm d).testBit r := by
              rw [hs, Nat.testBit_or, Nat.testBit_two_pow, decide_eq_false (by omega), Bool.or_false]
            rw [if_neg (by omega), if_neg hrn, eb, hz3 r hr, if_neg hrn]
      · show (sI (sI z2 3 (36 + n) _) 3 (36 + k) _).1 j = _
        exact (va_up_ne _ _ hj).trans ((va_up_ne _ _ hj).trans (hz4 j hj))
    · have hs : hhm (k + 1) hm d = hhm k hm d := by rw [hhm_s, if_neg hc, Nat.or_zero]
      have goal : ∃ b, (some (.inl (nI k + nI 1, z2)) : Option ((Int32 × Obj) ⊕ Obj)) = some (.inl b) ∧ b.1 = nI (k + 1) ∧ (∀ j, j < 36 ∨ 44 ≤ j → b.2.1 3 j = m.1 3 j) ∧ (∀ r, r < 8 → b.2.1 3 (36 + r) = nI (T r ||| (if r = n then hhm (k + 1) hm d else 0) ||| (if (hhm (k + 1) hm d).testBit r = true then 2 ^ n else 0))) ∧ (∀ j, j ≠ 3 → b.2.1 j = m.1 j) ∧ b.2.2 = m.2 := by
        rw [nadd, hs]
        exact ⟨_, rfl, rfl, hz2, hz3, hz4, hz5⟩
      by_cases hd0 : d = 0
      · rw [if_pos (by rw [nle (by omega) (by omega)]; omega)]; exact goal
      · rw [if_neg (by rw [nle (by omega) (by omega)]; omega), nadd, ix_nI (by omega) (by omega), Option.bind_some, Option.bind_some, a2, a1, if_neg (by rw [neq (by omega) (by omega)]; omega)]; exact goal
  · obtain ⟨z1, z2⟩ := z
    obtain ⟨hz1, hz2, hz3, hz4, hz5⟩ := hz
    simp only at hz1 hz2 hz3 hz4 hz5
    subst hz1
    refine ⟨z2, ?_, hz2, hz3, hz4, hz5⟩
    unfold fMo_readPerson_L202
    simp only [lit]
    rw [if_pos (by rw [nle (by omega) (by omega)]; omega)]
theorem dR_person (hd : dR n h L e t hp hm sr S fa fb fc q qr sc m) (hn : n < 8) {a w d : Nat} (ha : a < L) (hw : w ≤ 2) (hdh : d ≤ h) (st : Bool) {l : List Nat} (hl : nmR (kw5 l) (kw8 l)) (h3 : ∀ j, j ≠ 11 + n → j ≠ 19 + n → j ≠ 27 + n → j ≠ 35 → m1.1 3 j = m.1 3 j) (k11 : m1.1 3 (11 + n) = nI d) (k19 : m1.1 3 (19 + n) = nI a) (k27 : m1.1 3 (27 + n) = nI w) (k35 : m1.1 3 35 = nI (msk n sr ||| (if st then 2 ^ n else 0))) (h5 : m1.2 5 = va_up (m.2 5) (20 + n) (kw8 l)) (h20 : m1.1 0 20 = nI (bn true + 2 * bn fb + 4 * bn fc)) : ∃ q' sc' m2, fQu_addPerson q (kw5 l) (nI d - nI 1) (nI (bn st)) = some q' ∧ fSc_addPerson q' sc (nI n) (nI a) (nI w) = some sc' ∧ q'.1 0 4 = nI (n + 1) ∧ iter (fMo_readPerson_L202 (nI n)) FU (nI 0, m1) = some m2 ∧ m2.1 3 1 = nI n ∧ (∀ j, j ≠ 3 → m2.1 j = m1.1 j) ∧ m2.2 = m1.2 ∧ dR (n + 1) h L e t hp (va_up hm n d) (va_up sr n st) (mkK (newS S n a w) n (hhm n hm d)) fa fb fc q' qr sc' (sI m2 3 1 (nI (n + 1))) := by
  obtain ⟨hB, hC, ⟨⟨d0, d1, d2, d3, d4⟩, d5, d6, d7⟩, hN, ⟨s1, s2, s3, s4, s5, s6, s7, s8, s9⟩, r3, r4, r5, -⟩ := hd
  obtain ⟨b1, b2, b3, b4, b5, b6, b7, b8, b9⟩ := id hB
  obtain ⟨q', g1, g2, g3, g4⟩ := qu_addP hB hC hn hdh (st := st) (kw5 l)
  obtain ⟨sc', g5, g6⟩ := sc_addP (a := a) (w := w) hB hn hdh g2 s5
  obtain ⟨m2, g7, g8, g9, g10, g11⟩ := mo_L202 (m := m1) (hm := hm) (d := d) (T := fun r => if r < n then S 8 r else 0) hn k11 (fun p hpn => by rw [h3 _ (by omega) (by omega) (by omega) (by omega)]; exact d6 p hpn) (by omega) (fun p hpn => by have := b9 p hpn; omega) (fun r hr => by
    rw [h3 _ (by omega) (by omega) (by omega) (by omega)]
    by_cases hrn : r < n
    · rw [if_pos hrn]; exact (s6 r hrn).2.2.2.2.2.2.2
    · rw [if_neg hrn]; exact s7 r (by omega) hr)
  have m2c : ∀ j, j < 36 ∨ 44 ≤ j → j ≠ 1 → j ≠ 11 + n → j ≠ 19 + n → j ≠ 27 + n → j ≠ 35 → (sI m2 3 1 (nI (n + 1))).1 3 j = m.1 3 j := fun j a1 a2 a3 a4 a5 a6 => by rw [sI_1, if_neg (by omega), g8 j a1, h3 j a3 a4 a5 a6]
  have m2n : ∀ j, j < 36 ∨ 44 ≤ j → j ≠ 1 → (sI m2 3 1 (nI (n + 1))).1 3 j = m1.1 3 j := fun j a1 a2 => by rw [sI_1, if_neg (by omega), g8 j a1]
  have ej : ∀ j i, j < 3 → mkK (newS S n a w) n (hhm n hm d) j i = S j i := fun j i hj => by
    unfold mkK
    rw [va_up_ne _ _ (by omega), newS_low hj]
  have ej2 : ∀ j i, j ≠ 8 → mkK (newS S n a w) n (hhm n hm d) j i = newS S n a w j i := fun j i hj => by
    unfold mkK
    rw [va_up_ne _ _ hj]
  have ej8 : ∀ i, mkK (newS S n a w) n (hhm n hm d) 8 i = newS S n a w 8 i ||| (if i = n then hhm n hm d else 0) ||| (if (hhm n hm d).testBit i = true then 2 ^ n else 0) := fun i => by
    unfold mkK
    rw [va_up_at, if_pos rfl]
  refine ⟨q', sc', m2, g1, g5, g2.1.2.2.2.2, g7, ?_, g10, g11, sQB_new hB hn hdh, g2, ⟨⟨?_, ?_, ?_, ?_, ?_⟩, fun k hk => ?_, fun p hpn => ?_, ?_⟩, ⟨fun k hk => ?_, fun p hpn => ?_⟩, ⟨sSV_mkK (by omega) (sSV_new hn s1 ha hw) (by omega) (fun r hr => ?_), ?_, ?_, ?_, g6, fun p hpn => ?_, fun p hp1 hp2 => ?_, ?_, fun k hk => ?_⟩, r3, r4, r5, ?_⟩
  · rw [g8 1 (by omega), h3 1 (by omega) (by omega) (by omega) (by omega)]; exact d1
  · rw [m2c 0 (by omega) (by omega) (by omega) (by omega) (by omega) (by omega)]; exact d0
  · rw [sI_1, if_pos ⟨rfl, rfl⟩]
  · rw [m2c 2 (by omega) (by omega) (by omega) (by omega) (by omega) (by omega)]; exact d2
  · rw [m2c 3 (by omega) (by omega) (by omega) (by omega) (by omega) (by omega)]; exact d3
  · rw [m2c 4 (by omega) (by omega) (by omega) (by omega) (by omega) (by omega)]; exact d4
  · rw [m2c (5 + k) (by omega) (by omega) (by omega) (by omega) (by omega) (by omega)]; exact d5 k hk
  · rw [va_up_at]
    by_cases hp' : p = n
    · rw [if_pos hp', hp', m2n (11 + n) (by omega) (by omega)]; exact k11
    · rw [if_neg hp', m2c (11 + p) (by omega) (by omega) (by omega) (by omega) (by omega) (by omega)]; exact d6 p (by omega)
  · rw [m2n 35 (by omega) (by omega), k35]
    show _ = nI (msk n (va_up sr n st) ||| (if va_up sr n st n then 2 ^ n else 0))
    rw [va_up_at, if_pos rfl, msk_congr (P := va_up sr n st) (Q := sr) (fun p hp => by rw [va_up_at, if_neg (by omega)])]
  · show nmR (q'.2 3 k) (m2.2 5 (14 + k))
    rw [g3, g11, h5, va_up_at, if_neg (by omega)]; exact hN.1 k hk
  · show nmR (q'.2 6 p) (m2.2 5 (14 + (6 + p)))
    rw [g4, g11, h5, va_up_at, va_up_at]
    by_cases hp' : p = n
    · rw [if_pos hp', if_pos (by omega)]; exact hl
    · rw [if_neg hp', if_neg (by omega)]; exact hN.2 p (by omega)
  · have := hhm_bit.mp hr
    omega
  · rw [ej 0 0 (by omega)]; exact s2
  · rw [ej 0 1 (by omega)]; exact s3
  · rw [ej 0 2 (by omega)]; exact s4
  · rw [ej2 3 p (by omega), ej2 4 p (by omega), ej2 5 p (by omega), ej2 6 p (by omega), ej2 7 p (by omega), ej2 9 p (by omega), ej2 10 p (by omega), ej8 p]
    have c36 : (sI m2 3 1 (nI (n + 1))).1 3 (36 + p) = m2.1 3 (36 + p) := by rw [sI_1, if_neg (by omega)]
    rw [c36, g9 p (by omega)]
    by_cases hp' : p = n
    · subst hp'
      rw [newS_0 (by omega) (by omega) (by omega), newS_4, newS_5, newS_0 (by omega) (by omega) (by omega), newS_0 (by omega) (by omega) (by omega), newS_0 (by omega) (by omega) (by omega), newS_0 (by omega) (by omega) (by omega), newS_0 (by omega) (by omega) (by omega), m2n (19 + p) (by omega) (by omega), m2n (27 + p) (by omega) (by omega)]
      refine ⟨rfl, rfl, rfl, rfl, rfl, k19, k27, ?_⟩
      show nI ((if p < p then S 8 p else 0) ||| _ ||| _) = _
      rw [if_neg (Nat.lt_irrefl p)]
    · obtain ⟨w1, w2, w3, w4, w5, w6, w7, w8⟩ := s6 p (by omega)
      rw [newS_old hp', newS_old hp', newS_old hp', newS_old hp', newS_old hp', newS_old hp', newS_old hp', newS_old hp', m2c (19 + p) (by omega) (by omega) (by omega) (by omega) (by omega) (by omega), m2c (27 + p) (by omega) (by omega) (by omega) (by omega) (by omega) (by omega)]
      refine ⟨w1, w2, w3, w4, w5, w6, w7, ?_⟩
      show nI ((if p < n then S 8 p else 0) ||| _ ||| _) = _
      rw [if_pos (show p < n by omega)]
  · have c36 : (sI m2 3 1 (nI (n + 1))).1 3 (36 + p) = m2.1 3 (36 + p) := by rw [sI_1, if_neg (by omega)]
    have nb' : (hhm n hm d).testBit p = false := by
      cases hb : (hhm n hm d).testBit p
      · rfl
      · have := (hhm_bit.mp hb).1; omega
    rw [c36, g9 p (by omega), nb']
    show nI ((if p < n then S 8 p else 0) ||| _ ||| _) = _
    rw [if_neg (show ¬ p < n by omega), if_neg (show ¬ p = n by omega), if_neg (show ¬ false = true by decide), Nat.or_zero, Nat.or_zero]
  · rw [ej 0 3 (by omega), m2c 44 (by omega) (by omega) (by omega) (by omega) (by omega) (by omega)]; exact s8
  · rw [ej 0 3 (by omega)] at hk
    have hc := s1.1.2
    rw [ej 1 k (by omega), ej 2 k (by omega), m2c (45 + k) (by omega) (by omega) (by omega) (by omega) (by omega) (by omega), m2c (57 + k) (by omega) (by omega) (by omega) (by omega) (by omega) (by omega)]
    exact s9 k hk
  · show m2.1 0 20 = _
    rw [g10 0 (by omega), h20]
    have : (fa || decide (0 < h ∨ 0 < n + 1)) = true := by rw [decide_eq_true (by omega), Bool.or_true]
    rw [this]
end
