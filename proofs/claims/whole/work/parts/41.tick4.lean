def dst (a b : Nat) : Nat := (a - b) + (b - a)
theorem abs_all : ∀ a, a < 20 → ∀ b, b < 20 → fJM_abs (nI a - nI b) = some (nI (dst a b)) := by decide +kernel
theorem off_all : ∀ a, a < 20 → ∀ b, b < 20 → (if nI 0 ≤ nI a - nI b then nI a - nI b else -(nI a - nI b)) = nI (dst a b) := by decide +kernel
theorem ear_all : ∀ a, a < 20 → ∀ b, b < 20 → ∀ e, e < 10 → ((nI e < nI a - nI b ∨ nI e < -(nI a - nI b)) ↔ e < dst a b) := by decide +kernel
theorem dst_lt {a b : Nat} (ha : a < 20) (hb : b < 20) : dst a b < 20 := by unfold dst; omega
theorem andn {a b : Nat} (ha : a < 256) : nI a &&& (nI b ^^^ -nI 1) = nI (a &&& (255 ^^^ b)) := by
  apply Int32.toBitVec_inj.1
  show BitVec.ofNat 32 a &&& (BitVec.ofNat 32 b ^^^ -BitVec.ofNat 32 1) = BitVec.ofNat 32 (a &&& (255 ^^^ b))
  have h1 : -BitVec.ofNat 32 1 = BitVec.allOnes 32 := by decide +kernel
  rw [h1]
  apply BitVec.eq_of_getLsbD_eq
  intro i hi
  simp only [BitVec.getLsbD_and, BitVec.getLsbD_xor, BitVec.getLsbD_ofNat, BitVec.getLsbD_allOnes, hi, decide_true, Bool.true_and, Nat.testBit_and, Nat.testBit_xor]
  by_cases h8 : i < 8
  · have : (255 : Nat).testBit i = true := by
      have := Nat.testBit_two_pow_sub_one 8 i
      simpa [h8] using this
    rw [this]
    cases a.testBit i <;> cases b.testBit i <;> rfl
  · have : a.testBit i = false := Nat.testBit_lt_two_pow (Nat.lt_of_lt_of_le ha (Nat.le_trans (by decide : 256 ≤ 2 ^ 8) (Nat.pow_le_pow_right (by decide) (by omega))))
    rw [this, Bool.false_and, Bool.false_and]
/-- who could answer at house k -/
def canA (n e : Nat) (hp hm : Nat → Nat) (S : Nat → Nat → Nat) (r k : Nat) : Bool := S 3 r == 0 && (decide (dst (S 4 r) (hp k) ≤ e) && strg n hm S r k)
/-- the nearest, the first of the nearest -/
def bst (P : Nat → Bool) (d : Nat → Nat) : Nat → Option Nat
  | 0 => none
  | k + 1 => match bst P d k with
    | none => if P k then some k else none
    | some b => if P k = true ∧ d k < d b then some k else some b
theorem bst_some {P : Nat → Bool} {d : Nat → Nat} : ∀ {k b : Nat}, bst P d k = some b → b < k ∧ P b = true
  | 0, b, h => by cases h
  | k + 1, b, h => by
    unfold bst at h
    cases hb : bst P d k with
    | none =>
      rw [hb] at h
      cases hP : P k
      · rw [hP] at h; cases h
      · rw [hP] at h
        have : k = b := Option.some.inj h
        subst this
        exact ⟨by omega, hP⟩
    | some c =>
      rw [hb] at h
      have hc := bst_some hb
      by_cases hh : P k = true ∧ d k < d c
      · simp only [hh, and_self, if_true] at h
        have : k = b := Option.some.inj h
        subst this
        exact ⟨by omega, hh.1⟩
      · simp only [hh, if_false] at h
        have : c = b := Option.some.inj h
        subst this
        exact ⟨by omega, hc.2⟩
theorem bst_none {P : Nat → Bool} {d : Nat → Nat} : ∀ {k : Nat}, (∀ r, r < k → P r = false) → bst P d k = none
  | 0, _ => rfl
  | k + 1, h => by
    unfold bst
    rw [bst_none (fun r hr => h r (by omega)), h k (by omega)]
    rfl
def bI : Option Nat → Int32
  | none => -nI 1
  | some b => nI b
section
variable {n h L e t : Nat} {hp hm : Nat → Nat} {sr : Nat → Bool} {q m m' m0 sc : Obj} {S S' : Nat → Nat → Nat} {T B : Nat}
theorem sc_could (hB : sQB n h L e t hp hm) (hC : sQC n h L e t hp hm sr q) (hV : sSV n h L hp S) (hS : sSC n S sc) {p k : Nat} (hpn : p < n) (h3 : S 3 p = 1) (hk : S 6 p = k + 1) : fSc_thoseWhoCouldAnswer q sc (nI p) = some (nI (msk n (fun r => canA n e hp hm S r k))) := by
  obtain ⟨b1, b2, b3, b4, b5, b6, b7, b8, b9⟩ := id hB
  obtain ⟨⟨v3, v4, v5, v6, v7, v8, v9, v10⟩, ⟨x1, x2, x3⟩, x4⟩ := hV.2.2.1 p hpn
  have hkh : k < h := by omega
  have hpk : hp k = S 4 p := by
    have := x2 (by omega)
    rw [hk] at this
    exact this
  have h1 := qu_hasP hB hC hpn
  have h2 := sc_strangers hB hC hV hS hkh
  have hs2 : strgs n hm S k < 256 := msk_256 _ b1
  obtain ⟨⟨c0, c1, c2, c3, c4⟩, -⟩ := id hC
  obtain ⟨r3, r4, r5, r6, r7, r8, r9, r10⟩ := hS.2.2 p hpn
  have key := msk_loop (f := fSc_thoseWhoCouldAnswer_L27 q sc (nI p)) n (by omega) (fun r => S 3 r == 0 && decide (dst (S 4 r) (hp k) ≤ e)) (fun r hr => ?_) ?_
  · have hn2 := msk_256 (fun r => S 3 r == 0 && decide (dst (S 4 r) (hp k) ≤ e)) b1
    have e6 : nI (S 6 p) - nI 1 = nI k := by rw [hk, nsub (by omega)]; rfl
    unfold fSc_thoseWhoCouldAnswer
    simp (disch := omega) only [h1, r3, r6, e6, key, h2, Option.bind_some, bnd, Sum.elim_inl, Sum.elim_inr, lit, nle, nlt, neq, nadd, nsub, nx_or, nx_and, shl_1, ix_nI]
    rw [if_neg (by omega), if_pos h3]
    have hand : (msk n fun r => S 3 r == 0 && decide (dst (S 4 r) (hp k) ≤ e)) &&& strgs n hm S k = msk n (fun r => canA n e hp hm S r k) := by
      apply Nat.eq_of_testBit_eq
      intro i
      unfold strgs
      rw [Nat.testBit_and, msk_bit, msk_bit, msk_bit]
      unfold canA
      cases decide (i < n) <;> cases (S 3 i == 0) <;> cases decide (dst (S 4 i) (hp k) ≤ e) <;> cases strg n hm S i k <;> rfl
    by_cases hz : (msk n fun r => S 3 r == 0 && decide (dst (S 4 r) (hp k) ≤ e)) = 0
    · rw [if_pos hz, ← hand, hz, Nat.zero_and]
    · rw [if_neg hz, hand]
  · obtain ⟨g3, g4, -⟩ := hS.2.2 r hr
    obtain ⟨⟨y3, y4, -⟩, -⟩ := hV.2.2.1 r hr
    have ha := abs_all (S 4 r) (by omega) (S 4 p) (by omega)
    have hd := dst_lt (a := S 4 r) (b := S 4 p) (by omega) (by omega)
    unfold fSc_thoseWhoCouldAnswer_L27
    simp (disch := omega) only [c4, c1, g3, g4, r4, ha, Option.bind_some, bnd, Sum.elim_inl, Sum.elim_inr, lit, nle, nlt, neq, nadd, nsub, nx_or, nx_and, shl_1, ix_nI]
    rw [if_neg (by omega), if_neg (by omega), hpk]
    by_cases z1 : S 3 r = 0
    · rw [if_pos z1]
      by_cases z2 : e < dst (S 4 r) (S 4 p)
      · have z3 : ¬ dst (S 4 r) (S 4 p) ≤ e := by omega
        simp [z1, z2, z3]
      · have z3 : dst (S 4 r) (S 4 p) ≤ e := by omega
        simp [z1, z2, z3]
    · simp [z1]
  · unfold fSc_thoseWhoCouldAnswer_L27
    simp (disch := omega) only [c4, Option.bind_some, bnd, Sum.elim_inl, Sum.elim_inr, lit, nle, nlt, neq, nadd, nsub, nx_or, nx_and, shl_1, ix_nI]
    split
    · rfl
    · rw [if_pos (Nat.le_refl _)]
theorem sc_answer (hB : sQB n h L e t hp hm) (hC : sQC n h L e t hp hm sr q) (hV : sSV n h L hp S) (hS : sSC n S sc) {p k bz : Nat} (hpn : p < n) (h3 : S 3 p = 1) (hk : S 6 p = k + 1) (hbz : bz < 256) : fSc_answererOf q sc (nI p) (nI bz) = some (bI (bst (fun r => canA n e hp hm S r k && !bz.testBit r) (fun r => dst (S 4 r) (hp k)) n)) := by
  have hcd := sc_could hB hC hV hS hpn h3 hk
  obtain ⟨b1, b2, b3, b4, b5, b6, b7, b8, b9⟩ := id hB
  obtain ⟨⟨v3, v4, v5, v6, v7, v8, v9, v10⟩, ⟨x1, x2, x3⟩, x4⟩ := hV.2.2.1 p hpn
  have hpk : hp k = S 4 p := by
    have := x2 (by omega)
    rw [hk] at this
    exact this
  have h1 := qu_hasP hB hC hpn
  obtain ⟨⟨c0, c1, c2, c3, c4⟩, -⟩ := id hC
  obtain ⟨r3, r4, r5, r6, r7, r8, r9, r10⟩ := hS.2.2 p hpn
  have hm2 := msk_256 (fun r => canA n e hp hm S r k) b1
  have hx : nI (msk n (fun r => canA n e hp hm S r k)) &&& (nI bz ^^^ -nI 1) = nI (msk n (fun r => canA n e hp hm S r k && !bz.testBit r)) := by
    rw [andn hm2]
    congr 1
    apply Nat.eq_of_testBit_eq
    intro i
    rw [Nat.testBit_and, Nat.testBit_xor, msk_bit, msk_bit]
    by_cases hi : i < n
    · have : (255 : Nat).testBit i = true := by
        have := Nat.testBit_two_pow_sub_one 8 i
        have h8 : i < 8 := by omega
        simpa [h8] using this
      rw [this]
      cases canA n e hp hm S i k <;> cases bz.testBit i <;> simp [hi]
    · simp [hi]
  have hP := fun r => msk_bit (fun r => canA n e hp hm S r k && !bz.testBit r) n r
  have hm3 := msk_256 (fun r => canA n e hp hm S r k && !bz.testBit r) b1
  unfold fSc_answererOf
  simp only [lit, hcd, hx, Option.bind_some, bnd, h1]
  by_cases hz : msk n (fun r => canA n e hp hm S r k && !bz.testBit r) = 0
  · rw [hz, if_pos rfl, bst_none (fun r hr => ?_)]
    · rfl
    · have := hP r
      rw [hz] at this
      simpa [hr] using this.symm
  · rw [if_neg (by rw [neq (by omega) (by omega)]; exact hz), if_neg (by decide +kernel)]
    have key := iter_F (f := fSc_answererOf_L36 q sc (nI p) (nI (msk n (fun r => canA n e hp hm S r k && !bz.testBit r)))) (F := fun i => (bI (bst (fun r => canA n e hp hm S r k && !bz.testBit r) (fun r => dst (S 4 r) (hp k)) i), nI (match bst (fun r => canA n e hp hm S r k && !bz.testBit r) (fun r => dst (S 4 r) (hp k)) i with | none => 0 | some b => dst (S 4 b) (hp k)), nI i)) (bI (bst (fun r => canA n e hp hm S r k && !bz.testBit r) (fun r => dst (S 4 r) (hp k)) n)) n (by omega) (fun r hr => ?_) ?_
    · have key2 : iter (fSc_answererOf_L36 q sc (nI p) (nI (msk n (fun r => canA n e hp hm S r k && !bz.testBit r)))) FU (-nI 1, nI 0, nI 0) = _ := key
      rw [key2]
      rfl
    · obtain ⟨g3, g4, -⟩ := hS.2.2 r hr
      obtain ⟨⟨y3, y4, -⟩, -⟩ := hV.2.2.1 r hr
      have ha := abs_all (S 4 r) (by omega) (S 4 p) (by omega)
      have hd := dst_lt (a := S 4 r) (b := S 4 p) (by omega) (by omega)
      have hb := hasBit_n (a := msk n (fun r => canA n e hp hm S r k && !bz.testBit r)) (p := r) (by omega) (by omega)
      rw [hP] at hb
      have hr' : decide (r < n) = true := decide_eq_true hr
      rw [hr', Bool.true_and] at hb
      show fSc_answererOf_L36 q sc (nI p) _ (bI (bst _ _ r), nI _, nI r) = some (.inl (bI (bst _ _ (r + 1)), nI _, nI (r + 1)))
      unfold fSc_answererOf_L36
      simp (disch := omega) only [c4, g4, r4, ha, hb, lit, nadd, ix_nI, Option.bind_some]
      rw [if_neg (by rw [nle (by omega) (by omega)]; omega), if_neg (by rw [nle (by omega) (by omega)]; omega)]
      cases hPr : (canA n e hp hm S r k && !bz.testBit r)
      · simp only [Bool.false_eq_true, if_false, if_true]
        cases hbs : bst (fun r => canA n e hp hm S r k && !bz.testBit r) (fun r => dst (S 4 r) (hp k)) r with
        | none => simp only [bst, hbs, hPr, Bool.false_eq_true, if_false]
        | some c => simp only [bst, hbs, hPr, Bool.false_eq_true, false_and, if_false]
      · simp only [if_true]
        rw [if_neg (by decide +kernel)]
        cases hbs : bst (fun r => canA n e hp hm S r k && !bz.testBit r) (fun r => dst (S 4 r) (hp k)) r with
        | none =>
          simp only [bst, hbs, hPr, bI, if_true]
          simp only [hpk]
        | some c =>
          have hc := (bst_some hbs).1
          have yc := (hV.2.2.1 c (by omega)).1.2.1
          have hdc := dst_lt (a := S 4 c) (b := S 4 p) (by omega) (by omega)
          rw [if_neg (show ¬ bI (some c) = -nI 1 from nI_ne_m1' (by omega))]
          simp only [bst, hbs, hPr, true_and]
          simp only [hpk]
          by_cases hlt : dst (S 4 r) (S 4 p) < dst (S 4 c) (S 4 p)
          · rw [if_neg (by rw [nle (by omega) (by omega)]; omega)]
            simp only [hlt, if_true, bI]
          · rw [if_pos (by rw [nle (by omega) (by omega)]; omega)]
            simp only [hlt, if_false, bI]
    · show fSc_answererOf_L36 q sc (nI p) _ (bI (bst _ _ n), nI _, nI n) = some (.inr (bI (bst _ _ n)))
      unfold fSc_answererOf_L36
      simp (disch := omega) only [c4, lit]
      split
      · rfl
      · rw [if_pos (by rw [nle (by omega) (by omega)]; omega)]
theorem mo_canA (hB : sQB n h L e t hp hm) (hM : sQM n h L e t hp hm sr (m.1 2)) (hV : sSV n h L hp S) (hS : sSM n S (dOf m)) {r k : Nat} (hrn : r < n) (hk : k < h) : fMo_canAnswer m (nI r) (nI k) = some (nI (if canA n e hp hm S r k then 1 else 0)) := by
  have hst := mo_stranger hB hM hV hS hrn hk
  obtain ⟨b1, b2, b3, b4, b5, b6, b7, b8, b9⟩ := id hB
  obtain ⟨⟨c0, c1, c2, c3, c4⟩, c5, c6, c7⟩ := hM
  have c5' := c5 k hk
  have hpk := b8 k hk
  obtain ⟨r3, r4, r5, r6, r7, r8, r9, r10⟩ := (sSM_live hS).2.2 r hrn
  obtain ⟨⟨v3, v4, v5, v6, v7, v8, v9, v10⟩, -⟩ := hV.2.2.1 r hrn
  have he := ear_all (S 4 r) (by omega) (hp k) (by omega) e (by omega)
  unfold fMo_canAnswer canA
  simp (disch := omega) only [lit, nadd, ix_nI, Option.bind_some, bnd, hst, r3, r4, c5', c3, neq]
  by_cases w1 : S 3 r = 0
  · rw [if_pos w1]
    by_cases w2 : dst (S 4 r) (hp k) ≤ e
    · have w3 := mt he.mp (by omega)
      rw [if_neg (fun z => w3 (Or.inl z)), if_neg (fun z => w3 (Or.inr z))]
      cases hs : strg n hm S r k
      · simp [w1, w2]
      · simp only [w1, w2, if_true, decide_true, Bool.and_self, beq_self_eq_true]
        rw [if_neg (by decide +kernel)]
    · have w3 := he.mpr (by omega)
      rcases w3 with w3 | w3
      · rw [if_pos w3]; simp [w2]
      · rw [if_pos w3]
        split <;> simp [w2]
  · rw [if_neg w1]; simp [w1]
theorem mo_answers (hB : sQB n h L e t hp hm) (hM : sQM n h L e t hp hm sr (m.1 2)) (hV : sSV n h L hp S) (hS : sSM n S (dOf m)) {k bz : Nat} (hk : k < h) (hbz : bz < 256) : fMo_answers m (nI k) (nI bz) = some (bI (bst (fun r => canA n e hp hm S r k && !bz.testBit r) (fun r => dst (S 4 r) (hp k)) n)) := by
  have hca : ∀ r, r < n → fMo_canAnswer m (nI r) (nI k) = some (nI (if canA n e hp hm S r k then 1 else 0)) := fun r hr => mo_canA hB hM hV hS hr hk
  obtain ⟨b1, b2, b3, b4, b5, b6, b7, b8, b9⟩ := id hB
  obtain ⟨⟨c0, c1, c2, c3, c4⟩, c5, c6, c7⟩ := hM
  have c5' := c5 k hk
  have hpk := b8 k hk
  have key := iter_F (f := fMo_answers_L10 m (nI k) (nI bz)) (F := fun i => (bI (bst (fun r => canA n e hp hm S r k && !bz.testBit r) (fun r => dst (S 4 r) (hp k)) i), nI (match bst (fun r => canA n e hp hm S r k && !bz.testBit r) (fun r => dst (S 4 r) (hp k)) i with | none => 1000000 | some b => dst (S 4 b) (hp k)), nI i)) (bI (bst (fun r => canA n e hp hm S r k && !bz.testBit r) (fun r => dst (S 4 r) (hp k)) n)) n (by omega) (fun r hr => ?_) ?_
  · unfold fMo_answers
    have key2 : iter (fMo_answers_L10 m (nI k) (nI bz)) FU (-nI 1, nI 1000000, nI 0) = _ := key
    simp only [lit]
    rw [key2]
    rfl
  · have hcr := hca r hr
    have g4 := ((sSM_live hS).2.2 r hr).2.1
    obtain ⟨⟨y3, y4, -⟩, -⟩ := hV.2.2.1 r hr
    have ho := off_all (S 4 r) (by omega) (hp k) (by omega)
    have hd := dst_lt (a := S 4 r) (b := hp k) (by omega) (by omega)
    have hb := bitOf_n (a := bz) (p := r) (by omega) (by omega)
    show fMo_answers_L10 m (nI k) (nI bz) (bI (bst _ _ r), nI _, nI r) = some (.inl (bI (bst _ _ (r + 1)), nI _, nI (r + 1)))
    have hj : (if nI 0 ≤ nI (S 4 r) - nI (hp k) then fMo_answers_J77 (bI (bst (fun r => canA n e hp hm S r k && !bz.testBit r) (fun r => dst (S 4 r) (hp k)) r)) (nI (match bst (fun r => canA n e hp hm S r k && !bz.testBit r) (fun r => dst (S 4 r) (hp k)) r with | none => 1000000 | some b => dst (S 4 b) (hp k))) (nI r) (nI (S 4 r) - nI (hp k)) else fMo_answers_J77 (bI (bst (fun r => canA n e hp hm S r k && !bz.testBit r) (fun r => dst (S 4 r) (hp k)) r)) (nI (match bst (fun r => canA n e hp hm S r k && !bz.testBit r) (fun r => dst (S 4 r) (hp k)) r with | none => 1000000 | some b => dst (S 4 b) (hp k))) (nI r) (-(nI (S 4 r) - nI (hp k)))) = fMo_answers_J77 (bI (bst (fun r => canA n e hp hm S r k && !bz.testBit r) (fun r => dst (S 4 r) (hp k)) r)) (nI (match bst (fun r => canA n e hp hm S r k && !bz.testBit r) (fun r => dst (S 4 r) (hp k)) r with | none => 1000000 | some b => dst (S 4 b) (hp k))) (nI r) (nI (dst (S 4 r) (hp k))) := by
      rw [← ho]
      split <;> rfl
    unfold fMo_answers_L10
    simp (disch := omega) only [c1, hb, hcr, g4, c5', hj, lit, nadd, ix_nI, Option.bind_some, bnd]
    rw [if_neg (by rw [nle (by omega) (by omega)]; omega)]
    cases hb1 : bz.testBit r
    · simp only [Bool.false_eq_true, if_false, if_true]
      cases hc1 : canA n e hp hm S r k
      · simp only [Bool.false_eq_true, if_false, if_true]
        cases hbs : bst (fun r => canA n e hp hm S r k && !bz.testBit r) (fun r => dst (S 4 r) (hp k)) r with
        | none => simp only [bst, hbs, hc1, Bool.false_and, Bool.false_eq_true, if_false]
        | some c => simp only [bst, hbs, hc1, Bool.false_and, Bool.false_eq_true, false_and, if_false]
      · simp only [if_true]
        rw [if_neg (by decide +kernel)]
        unfold fMo_answers_J77
        simp only [lit, nadd]
        cases hbs : bst (fun r => canA n e hp hm S r k && !bz.testBit r) (fun r => dst (S 4 r) (hp k)) r with
        | none =>
          simp only [bst, hbs, hc1, hb1, Bool.not_false, Bool.and_self, if_true, bI]
          rw [if_pos (by rw [nlt (by omega) (by omega)]; omega)]
        | some c =>
          have hcn := (bst_some hbs).1
          have yc := (hV.2.2.1 c (by omega)).1.2.1
          have hdc := dst_lt (a := S 4 c) (b := hp k) (by omega) (by omega)
          simp only [bst, hbs, hc1, hb1, Bool.not_false, Bool.and_self, true_and, bI]
          by_cases hlt : dst (S 4 r) (hp k) < dst (S 4 c) (hp k)
          · rw [if_pos (by rw [nlt (by omega) (by omega)]; omega)]
            simp only [hlt, if_true]
          · rw [if_neg (by rw [nlt (by omega) (by omega)]; omega)]
            simp only [hlt, if_false]
    · simp only [if_true]
      rw [if_neg (by decide +kernel)]
      cases hbs : bst (fun r => canA n e hp hm S r k && !bz.testBit r) (fun r => dst (S 4 r) (hp k)) r with
      | none => simp only [bst, hbs, hb1, Bool.not_true, Bool.and_false, Bool.false_eq_true, if_false]
      | some c => simp only [bst, hbs, hb1, Bool.not_true, Bool.and_false, Bool.false_eq_true, false_and, if_false]
  · show fMo_answers_L10 m (nI k) (nI bz) (bI (bst _ _ n), nI _, nI n) = some (.inr (bI (bst _ _ n)))
    unfold fMo_answers_L10
    simp (disch := omega) only [c1, lit]
    rw [if_pos (by rw [nle (by omega) (by omega)]; omega)]
end
