/-- all but one row as it was -/
def f9 (m x : Obj) : Prop := x.2 = m.2 ∧ ∀ j, j ≠ 9 → x.1 j = m.1 j
theorem f9_refl (m : Obj) : f9 m m := ⟨rfl, fun _ _ => rfl⟩
theorem f9_trans {a b c : Obj} (h1 : f9 a b) (h2 : f9 b c) : f9 a c := ⟨h2.1.trans h1.1, fun j hj => (h2.2 j hj).trans (h1.2 j hj)⟩
theorem f9_sI {m : Obj} {i : Nat} {v : Int32} : f9 m (sI m 9 i v) := ⟨rfl, fun j hj => va_up_ne _ _ hj⟩
def bn (b : Bool) : Nat := if b then 1 else 0
theorem bn_le (b : Bool) : bn b ≤ 1 := by cases b <;> decide
theorem bz_n : ∀ k, k < 2 → bz (nI k) = nI k := by decide +kernel
section
variable {X X' X1 : Nat → Obj} {n h L e t : Nat} {hp hm : Nat → Nat} {sr : Nat → Bool} {q m m' m0 m1 sc mt x : Obj} {S S' : Nat → Nat → Nat} {T : Nat} {N : Nat → Nat}
theorem mt_best (hB : sQB n h L e t hp hm) (hC : sQC n h L e t hp hm sr q) (hV : sSV n h L hp S) (hS : sSC n S sc) : ∃ mt', fMt_greatestSet q sc mt = some (nI (gb (nea n e hp hm S) (hb (nea n e hp hm S)) 255), mt') := by
  have b1 := hB.1
  have hN := nea_lt (n := n) (e := e) (hp := hp) (hm := hm) (S := S) b1
  have hSC := fun p (hp8 : p < 8) => sc_near hB hC hV hS hp8
  revert hN hSC
  generalize nea n e hp hm S = N
  intro hN hSC
  obtain ⟨e4, a1, a2⟩ := lpo (f := fMt_greatestSet_L2 q sc) (J := fun k x => ∀ p, p < k → x.1 2 p = nI (N p)) 8 (by omega) (x := mt) (fun p hp => absurd hp (by omega)) (fun k x hk hz => by
      refine ⟨sI x 2 k (nI (N k)), ?_, fun p hp => ?_⟩
      · unfold fMt_greatestSet_L2
        simp only [lit, nadd]
        rw [if_neg (by rw [nle (by omega) (by omega)]; omega), hSC k hk, Option.bind_some, ix_nI (by omega) (by omega)]
        rfl
      · rw [sI_1]
        by_cases hpk : p = k
        · rw [if_pos ⟨rfl, hpk⟩, hpk]
        · rw [if_neg (fun z => hpk z.2)]; exact hz p (by omega)) (fun x hz => by
      unfold fMt_greatestSet_L2
      simp only [lit]
      rw [if_pos (by rw [nle (by omega) (by omega)]; omega)])
  have h0 : hall N 0 := fun U hU => by
    have : U = 0 := by
      apply Nat.eq_of_testBit_eq
      intro i
      rw [Nat.zero_testBit]
      cases hc : U.testBit i
      · rfl
      · have := hU i hc
        rw [Nat.zero_testBit] at this; cases this
    rw [this, pc_0]; exact Nat.zero_le _
  have key := iter_I (f := fMt_greatestSet_L36) (I := fun k a => ∃ x, a = (nI (gb N (hb N) k), nI (k + 1), x) ∧ (∀ p, p < 8 → x.1 2 p = nI (N p)) ∧ ∀ U, U < k + 1 → x.1 1 U = nI (hb N U)) (E := fun z => ∃ mt', z = (nI (gb N (hb N) 255), mt')) 255 (by omega) (a := (nI 0, nI 1, sI e4 1 0 (nI 1))) ⟨_, rfl, a2, fun U hU => ?_⟩ (fun k a hk hz => ?_) (fun a hz => ?_)
  · obtain ⟨z, g1, mt', rfl⟩ := key
    refine ⟨mt', ?_⟩
    unfold fMt_greatestSet
    simp only [lit, bnd]
    rw [a1, Option.bind_some, g1]
    rfl
  · have : U = 0 := by omega
    subst this
    rw [sI_1, if_pos ⟨rfl, rfl⟩, hb_1 h0]
  · obtain ⟨x, rfl, x2, x1⟩ := hz
    left
    have ho := mt_open (mt := x) (T := k + 1) (by omega) x2 hN x1
    have hle := hb_le N (k + 1)
    have hg := gb_le N (hb N) k
    have p1 := pcnt_le (a := k + 1) (by omega)
    have p2 := pcnt_le (a := gb N (hb N) k) (by omega)
    have e1 : (sI x 1 (k + 1) (nI (hb N (k + 1)))).1 1 (k + 1) = nI (hb N (k + 1)) := by rw [sI_1, if_pos ⟨rfl, rfl⟩]
    refine ⟨(nI (gb N (hb N) (k + 1)), nI (k + 2), sI x 1 (k + 1) (nI (hb N (k + 1)))), ?_, _, rfl, x2, fun U hU => ?_⟩
    · show fMt_greatestSet_L36 _ = some (.inl (nI (if hb N (k + 1) = 1 ∧ pcnt (gb N (hb N) k) < pcnt (k + 1) then k + 1 else gb N (hb N) k), nI (k + 2), _))
      unfold fMt_greatestSet_L36
      simp only [lit, nadd]
      rw [if_neg (by rw [nle (by omega) (by omega)]; omega), ho, Option.bind_some, ix_nI (by omega) (by omega)]
      simp only [Option.bind_some, bnd]
      rw [bz_n _ (by omega), e1]
      by_cases hh : hb N (k + 1) = 1
      · rw [hh, if_neg (show ¬ nI 1 = nI 0 by decide +kernel), jbc (by omega), Option.bind_some, jbc (by omega), Option.bind_some]
        by_cases hlt : pcnt (gb N (hb N) k) < pcnt (k + 1)
        · rw [if_neg (by rw [nle (by omega) (by omega)]; omega), if_pos ⟨rfl, hlt⟩]
        · rw [if_pos (by rw [nle (by omega) (by omega)]; omega), if_neg (fun z => hlt z.2)]
      · have hh0 : hb N (k + 1) = 0 := by omega
        rw [hh0, if_pos rfl, if_neg (fun z => absurd z.1 (by decide))]
    · rw [sI_1]
      by_cases hU1 : U = k + 1
      · rw [if_pos ⟨rfl, hU1⟩, hU1]
      · rw [if_neg (fun z => hU1 z.2)]; exact x1 U (by omega)
  · obtain ⟨x, rfl, x2, x1⟩ := hz
    refine ⟨_, ?_, x, rfl⟩
    unfold fMt_greatestSet_L36
    simp only [lit]
    rw [if_pos (by rw [nle (by omega) (by omega)]; omega)]
theorem xor_lt : ∀ k, k < 256 → ∀ r, r < 8 → k.testBit r = true → k ^^^ 2 ^ r < k := by decide +kernel
/-- is one of them free for this set -/
theorem an_in (hB : sQB n h L e t hp hm) (hM : sQM n h L e t hp hm sr (x.1 2)) (hV : sSV n h L hp S) (hD : sSM n S (dOf x)) {p k : Nat} (hpn : p < n) (h3 : S 3 p = 1) (hk : k < 256) (cf : Nat → Bool) (h9 : ∀ j, j < k → x.1 9 j = nI (bn (cf j))) : iter (fMo_areAnswered_L67 x (nI p) (nI k)) FU (nI 0, nI 0) = some (nI (bn (fi (fun r => k.testBit r && ((nea n e hp hm S p).testBit r && cf (k ^^^ 2 ^ r))) n).isSome)) := by
  have b1 := hB.1
  have c1 := hM.1.2.1
  have u1 : ¬ nI 1 = nI 0 := by decide +kernel
  obtain ⟨⟨v3, v4, v5, v6, v7, v8, v9, v10⟩, ⟨x1, x2, x3⟩, x4⟩ := hV.2.2.1 p hpn
  have d6 := ((sSM_live hD).2.2 p hpn).2.2.2.1
  have hnb : ∀ r, r < n → (nea n e hp hm S p).testBit r = canA n e hp hm S r (S 6 p - 1) := fun r hr => by
    unfold nea
    rw [if_pos ⟨hpn, h3⟩, msk_bit, decide_eq_true hr, Bool.true_and]
  have hst : ∀ r, r < n → fMo_areAnswered_L67 x (nI p) (nI k) (nI 0, nI r) = some (.inl (nI (bn (k.testBit r && ((nea n e hp hm S p).testBit r && cf (k ^^^ 2 ^ r)))), nI (r + 1))) := fun r hr => by
    have hbt := bitOf_n (a := k) (p := r) (by omega) (by omega)
    have hca := mo_canA hB hM hV hD hr (k := S 6 p - 1) (by omega)
    unfold fMo_areAnswered_L67
    simp only [lit, nadd]
    rw [c1, if_neg (by rw [nle (by omega) (by omega)]; omega), if_pos trivial, hbt, Option.bind_some]
    cases hb1 : k.testBit r
    · rfl
    · rw [if_neg (by decide +kernel), ix_nI (by omega) (by omega), Option.bind_some, d6, nsub (by omega), hca, Option.bind_some, hnb r hr]
      cases hb2 : canA n e hp hm S r (S 6 p - 1)
      · rfl
      · have hl := xor_lt k hk r (by omega) hb1
        rw [if_neg (by decide +kernel), shl_1 (by omega), nx_xor, ix_nI (by omega) (by omega), Option.bind_some, h9 _ hl]
        cases cf (k ^^^ 2 ^ r)
        · rfl
        · rw [if_neg (by decide +kernel)]; rfl
  have key := iter_I (f := fMo_areAnswered_L67 x (nI p) (nI k)) (I := fun r a => (a = (nI 0, nI r) ∧ ∀ j, j < r → (k.testBit j && ((nea n e hp hm S p).testBit j && cf (k ^^^ 2 ^ j))) = false) ∨ (a = (nI 1, nI r) ∧ ∃ j, j < n ∧ (k.testBit j && ((nea n e hp hm S p).testBit j && cf (k ^^^ 2 ^ j))) = true)) (E := fun z => z = nI (bn (fi (fun r => k.testBit r && ((nea n e hp hm S p).testBit r && cf (k ^^^ 2 ^ r))) n).isSome)) n (by omega) (a := (nI 0, nI 0)) (Or.inl ⟨rfl, fun j hj => absurd hj (by omega)⟩) (fun r a hr hz => ?_) (fun a hz => ?_)
  · obtain ⟨z, g1, g2⟩ := key
    rw [g1, g2]
  · rcases hz with ⟨rfl, hz⟩ | ⟨rfl, hz⟩
    · left
      refine ⟨_, hst r hr, ?_⟩
      cases hP : (k.testBit r && ((nea n e hp hm S p).testBit r && cf (k ^^^ 2 ^ r)))
      · left
        refine ⟨rfl, fun j hj => ?_⟩
        by_cases hjr : j = r
        · subst hjr; exact hP
        · exact hz j (by omega)
      · right
        exact ⟨rfl, r, hr, hP⟩
    · right
      refine ⟨nI 1, ?_, ?_⟩
      · unfold fMo_areAnswered_L67
        simp only [lit]
        rw [c1, if_neg (by rw [nle (by omega) (by omega)]; omega), if_neg u1]
      · rw [fi_is.mpr hz]; rfl
  · rcases hz with ⟨rfl, hz⟩ | ⟨rfl, hz⟩
    · refine ⟨nI 0, ?_, ?_⟩
      · unfold fMo_areAnswered_L67
        simp only [lit]
        rw [c1, if_pos (by rw [nle (by omega) (by omega)]; omega)]
      · rw [fi_none hz]; rfl
    · refine ⟨nI 1, ?_, ?_⟩
      · unfold fMo_areAnswered_L67
        simp only [lit]
        rw [c1, if_pos (by rw [nle (by omega) (by omega)]; omega)]
      · rw [fi_is.mpr hz]; rfl
end
