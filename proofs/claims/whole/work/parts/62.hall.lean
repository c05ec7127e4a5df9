theorem pc_add (x y : Nat) : pcnt (x ||| y) + pcnt (x &&& y) = pcnt x + pcnt y := by
  unfold pcnt
  rw [← sm_add, ← sm_add]
  refine sm_congr (fun i _ => ?_)
  rw [Nat.testBit_or, Nat.testBit_and]
  cases x.testBit i <;> cases y.testBit i <;> rfl
theorem pc_mono {x y : Nat} (h : ∀ i, x.testBit i = true → y.testBit i = true) : pcnt x ≤ pcnt y := by
  unfold pcnt
  refine sm_le2 (fun i _ => ?_)
  cases hx : x.testBit i
  · simp
  · rw [h i hx]; exact Nat.le_refl _
theorem pc_0 : pcnt 0 = 0 := rfl
theorem pc_1 {q : Nat} (hq : q < 8) : pcnt (2 ^ q) = 1 := by
  have := pc_bit (f := 2 ^ q) (p := q) hq
  rw [Nat.and_self, Nat.testBit_two_pow, if_pos (decide_eq_true rfl)] at this
  exact this
theorem pc_ins {x q : Nat} (hq : q < 8) (hx : x.testBit q = false) : pcnt (x ||| 2 ^ q) = pcnt x + 1 := by
  have h1 := pc_add x (2 ^ q)
  have h2 : x &&& 2 ^ q = 0 := by
    apply Nat.eq_of_testBit_eq
    intro i
    rw [Nat.testBit_and, Nat.testBit_two_pow, Nat.zero_testBit]
    by_cases h : q = i
    · subst h; rw [hx]; rfl
    · rw [decide_eq_false h, Bool.and_false]
  rw [h2, pc_0, pc_1 hq] at h1
  omega
/-- whom those of T have for neighbours -/
def un (N : Nat → Nat) (T : Nat) : Nat → Nat
  | 0 => 0
  | k + 1 => un N T k ||| (if T.testBit k then N k else 0)
theorem un_bit {N : Nat → Nat} {T : Nat} : ∀ {k r : Nat}, (un N T k).testBit r = true ↔ ∃ q, q < k ∧ T.testBit q = true ∧ (N q).testBit r = true
  | 0, r => by simp [un]
  | k + 1, r => by
    show (un N T k ||| (if T.testBit k then N k else 0)).testBit r = true ↔ _
    rw [Nat.testBit_or, Bool.or_eq_true, un_bit]
    constructor
    · rintro (⟨q, h1, h2, h3⟩ | h)
      · exact ⟨q, by omega, h2, h3⟩
      · by_cases hc : T.testBit k = true
        · rw [if_pos hc] at h
          exact ⟨k, by omega, hc, h⟩
        · rw [if_neg hc, Nat.zero_testBit] at h
          cases h
    · rintro ⟨q, h1, h2, h3⟩
      by_cases hq : q = k
      · subst hq
        right
        rw [if_pos h2]; exact h3
      · exact Or.inl ⟨q, by omega, h2, h3⟩
def sub (x y : Nat) : Prop := ∀ i, x.testBit i = true → y.testBit i = true
def hall (N : Nat → Nat) (T : Nat) : Prop := ∀ U, sub U T → pcnt U ≤ pcnt (un N U 8)
theorem hall_sub {N : Nat → Nat} {T U : Nat} (h : hall N T) (hs : sub U T) : hall N U := fun V hV => h V (fun i hi => hs i (hV i hi))
/-- one edge less -/
def cut (N : Nat → Nat) (q r : Nat) : Nat → Nat := va_up N q (N q &&& (255 ^^^ 2 ^ r))
theorem bit255 {i : Nat} (h : i < 8) : (255 : Nat).testBit i = true := by
  have := Nat.testBit_two_pow_sub_one 8 i
  simpa [h] using this
theorem cut_bit {N : Nat → Nat} {q r p i : Nat} (hN : ∀ p, N p < 256) : (cut N q r p).testBit i = true ↔ (N p).testBit i = true ∧ ¬ (p = q ∧ i = r) := by
  unfold cut
  rw [va_up_at]
  by_cases hp : p = q
  · subst hp
    rw [if_pos rfl, Nat.testBit_and, Nat.testBit_xor, Nat.testBit_two_pow, Bool.and_eq_true]
    by_cases hi : i < 8
    · rw [bit255 hi]
      by_cases hr : r = i
      · subst hr
        simp
      · have : ¬ i = r := fun z => hr z.symm
        simp [hr, this]
    · have h0 : (N p).testBit i = false := Nat.testBit_lt_two_pow (Nat.lt_of_lt_of_le (hN p) (Nat.le_trans (by decide : 256 ≤ 2 ^ 8) (Nat.pow_le_pow_right (by decide) (by omega))))
      rw [h0]; simp
  · rw [if_neg hp]
    simp [hp]
theorem cut_lt {N : Nat → Nat} {q r : Nat} (hN : ∀ p, N p < 256) (p : Nat) : cut N q r p < 256 := by
  unfold cut
  rw [va_up_at]
  split
  · exact and_256 (hN q)
  · exact hN p
/-- two edges of one: either may go -/
theorem cut_ok {N : Nat → Nat} {T q r s : Nat} (hN : ∀ p, N p < 256) (hT : T < 256) (h : hall N T) (hq : T.testBit q = true) (hr : (N q).testBit r = true) (hs : (N q).testBit s = true) (hrs : r ≠ s) : hall (cut N q r) T ∨ hall (cut N q s) T := by
  apply Classical.byContradiction
  intro hno
  rw [not_or] at hno
  have hq8 : q < 8 := by
    rcases Nat.lt_or_ge q 8 with h | h
    · exact h
    · rw [Nat.testBit_lt_two_pow (Nat.lt_of_lt_of_le hT (Nat.le_trans (by decide : 256 ≤ 2 ^ 8) (Nat.pow_le_pow_right (by decide) h)))] at hq
      cases hq
  have ex : ∀ r, ¬ hall (cut N q r) T → ∃ U, sub U T ∧ U.testBit q = true ∧ pcnt (un (cut N q r) U 8) < pcnt U := by
    intro r hr
    apply Classical.byContradiction
    intro hz
    apply hr
    intro U hU
    by_cases hUq : U.testBit q = true
    · rcases Nat.lt_or_ge (pcnt (un (cut N q r) U 8)) (pcnt U) with h1 | h1
      · exact absurd ⟨U, hU, hUq, h1⟩ hz
      · exact h1
    · refine Nat.le_trans (h U hU) (pc_mono (fun i hi => ?_))
      obtain ⟨p, p1, p2, p3⟩ := un_bit.mp hi
      refine un_bit.mpr ⟨p, p1, p2, (cut_bit hN).mpr ⟨p3, fun z => hUq ?_⟩⟩
      rw [← z.1]; exact p2
  obtain ⟨U, u1, u2, u3⟩ := ex r hno.1
  obtain ⟨V, v1, v2, v3⟩ := ex s hno.2
  have hI := h (U &&& V &&& (255 ^^^ 2 ^ q)) (fun i hi => by
    rw [Nat.testBit_and, Nat.testBit_and, Bool.and_eq_true, Bool.and_eq_true] at hi
    exact u1 i hi.1.1)
  have hO := h (U ||| V) (fun i hi => by
    rw [Nat.testBit_or, Bool.or_eq_true] at hi
    exact hi.elim (u1 i) (v1 i))
  have e1 : pcnt (U &&& V) = pcnt (U &&& V &&& (255 ^^^ 2 ^ q)) + 1 := by
    have hb : (U &&& V &&& (255 ^^^ 2 ^ q)).testBit q = false := by
      rw [Nat.testBit_and, Nat.testBit_xor, Nat.testBit_two_pow, bit255 hq8, decide_eq_true rfl]
      simp
    rw [← pc_ins hq8 hb]
    congr 1
    apply Nat.eq_of_testBit_eq
    intro i
    rw [Nat.testBit_or, Nat.testBit_and (U &&& V), Nat.testBit_xor, Nat.testBit_two_pow]
    by_cases hi : q = i
    · subst hi
      rw [decide_eq_true rfl, Bool.or_true, Nat.testBit_and, u2, v2]; rfl
    · rw [decide_eq_false hi, Bool.or_false]
      by_cases hi8 : i < 8
      · rw [bit255 hi8]; simp
      · have : U.testBit i = false := by
          cases hU : U.testBit i
          · rfl
          · have h1 := u1 i hU
            rw [Nat.testBit_lt_two_pow (Nat.lt_of_lt_of_le hT (Nat.le_trans (by decide : 256 ≤ 2 ^ 8) (Nat.pow_le_pow_right (by decide) (by omega))))] at h1
            cases h1
        rw [Nat.testBit_and, this]; rfl
  have e2 := pc_add U V
  have e3 := pc_add (un (cut N q r) U 8) (un (cut N q s) V 8)
  have e4 : pcnt (un N (U ||| V) 8) ≤ pcnt (un (cut N q r) U 8 ||| un (cut N q s) V 8) := by
    refine pc_mono (fun i hi => ?_)
    obtain ⟨p, p1, p2, p3⟩ := un_bit.mp hi
    rw [Nat.testBit_or, Bool.or_eq_true]
    by_cases hpq : p = q
    · subst hpq
      by_cases hir : i = r
      · right
        exact un_bit.mpr ⟨p, p1, v2, (cut_bit hN).mpr ⟨p3, fun z => hrs (hir.symm.trans z.2)⟩⟩
      · left
        exact un_bit.mpr ⟨p, p1, u2, (cut_bit hN).mpr ⟨p3, fun z => hir z.2⟩⟩
    · rw [Nat.testBit_or, Bool.or_eq_true] at p2
      rcases p2 with p2 | p2
      · left
        exact un_bit.mpr ⟨p, p1, p2, (cut_bit hN).mpr ⟨p3, fun z => hpq z.1⟩⟩
      · right
        exact un_bit.mpr ⟨p, p1, p2, (cut_bit hN).mpr ⟨p3, fun z => hpq z.1⟩⟩
  have e5 : pcnt (un N (U &&& V &&& (255 ^^^ 2 ^ q)) 8) ≤ pcnt (un (cut N q r) U 8 &&& un (cut N q s) V 8) := by
    refine pc_mono (fun i hi => ?_)
    obtain ⟨p, p1, p2, p3⟩ := un_bit.mp hi
    rw [Nat.testBit_and, Nat.testBit_and, Nat.testBit_xor, Nat.testBit_two_pow, Bool.and_eq_true, Bool.and_eq_true, bit255 p1] at p2
    have hpq : ¬ p = q := fun z => by
      have := p2.2
      rw [z, decide_eq_true rfl] at this
      cases this
    rw [Nat.testBit_and, Bool.and_eq_true]
    exact ⟨un_bit.mpr ⟨p, p1, p2.1.1, (cut_bit hN).mpr ⟨p3, fun z => hpq z.1⟩⟩, un_bit.mpr ⟨p, p1, p2.1.2, (cut_bit hN).mpr ⟨p3, fun z => hpq z.1⟩⟩⟩
  omega
/-- each of T has one of his own -/
def mtch (N : Nat → Nat) (T : Nat) : Prop := ∃ f : Nat → Nat, (∀ q, q < 8 → T.testBit q = true → (N q).testBit (f q) = true) ∧ ∀ q p, q < 8 → p < 8 → T.testBit q = true → T.testBit p = true → f q = f p → q = p
theorem hall_m (T : Nat) (hT : T < 256) : ∀ (z : Nat) (N : Nat → Nat), (∀ p, N p < 256) → sm 8 (fun q => pcnt (N q)) ≤ z → hall N T → mtch N T := by
  intro z
  induction z with
  | zero =>
    intro N hN hz h
    refine ⟨fun _ => 0, fun q hq hb => ?_, fun q p hq hp hb _ _ => ?_⟩
    all_goals
      exfalso
      have h1 := h (2 ^ q) (fun i hi => by
        rw [Nat.testBit_two_pow] at hi
        rw [← of_decide_eq_true hi]; exact hb)
      rw [pc_1 hq] at h1
      have h2 : pcnt (un N (2 ^ q) 8) ≤ pcnt (N q) := pc_mono (fun i hi => by
        obtain ⟨p, p1, p2, p3⟩ := un_bit.mp hi
        rw [Nat.testBit_two_pow] at p2
        rw [of_decide_eq_true p2]; exact p3)
      have h3 : sm 8 (fun i => if i = q then pcnt (N q) else 0) ≤ sm 8 (fun q => pcnt (N q)) := sm_le2 (fun i _ => by
        show (if i = q then pcnt (N q) else 0) ≤ pcnt (N i)
        split
        · rename_i hi; rw [hi]; exact Nat.le_refl _
        · omega)
      rw [sm_one, if_pos hq] at h3
      omega
  | succ z ih =>
    intro N hN hz h
    by_cases hex : ∃ q r s, q < 8 ∧ T.testBit q = true ∧ (N q).testBit r = true ∧ (N q).testBit s = true ∧ r ≠ s
    · obtain ⟨q, r, s, hq8, hq, hr, hs, hrs⟩ := hex
      have fewer : ∀ r, (N q).testBit r = true → sm 8 (fun p => pcnt (cut N q r p)) ≤ z := by
        intro r hr
        have hr8 : r < 8 := by
          rcases Nat.lt_or_ge r 8 with h | h
          · exact h
          · rw [Nat.testBit_lt_two_pow (Nat.lt_of_lt_of_le (hN q) (Nat.le_trans (by decide : 256 ≤ 2 ^ 8) (Nat.pow_le_pow_right (by decide) h)))] at hr
            cases hr
        have := sm_lt2 (n := 8) (f := fun p => pcnt (cut N q r p)) (g := fun p => pcnt (N p)) (p := q) (fun p _ => pc_mono (fun i hi => ((cut_bit hN).mp hi).1)) hq8 (pc_lt (p := r) (fun i hi => ((cut_bit hN).mp hi).1) hr8 (by
          cases hc : (cut N q r q).testBit r
          · rfl
          · exact absurd ⟨rfl, rfl⟩ ((cut_bit hN).mp hc).2) hr)
        omega
      have fin : ∀ r, mtch (cut N q r) T → mtch N T := fun r ⟨f, f1, f2⟩ => ⟨f, fun p hp hb => ((cut_bit hN).mp (f1 p hp hb)).1, f2⟩
      rcases cut_ok hN hT h hq hr hs hrs with hc | hc
      · exact fin r (ih _ (cut_lt hN) (fewer r hr) hc)
      · exact fin s (ih _ (cut_lt hN) (fewer s hs) hc)
    · have one : ∀ q, q < 8 → T.testBit q = true → ∃ r, (N q).testBit r = true := by
        intro q hq hb
        apply Classical.byContradiction
        intro hno
        have h1 := h (2 ^ q) (fun i hi => by
          rw [Nat.testBit_two_pow] at hi
          rw [← of_decide_eq_true hi]; exact hb)
        rw [pc_1 hq] at h1
        have h2 : pcnt (un N (2 ^ q) 8) ≤ pcnt 0 := pc_mono (fun i hi => by
          obtain ⟨p, p1, p2, p3⟩ := un_bit.mp hi
          rw [Nat.testBit_two_pow] at p2
          rw [← of_decide_eq_true p2] at p3
          exact absurd ⟨i, p3⟩ hno)
        rw [pc_0] at h2
        omega
      refine ⟨fun q => (fi (fun r => (N q).testBit r) 8).getD 0, fun q hq hb => ?_, fun q p hq hp hbq hbp hf => ?_⟩
      · obtain ⟨r, hr⟩ := one q hq hb
        rcases fi_cases (fun r => (N q).testBit r) 8 with ⟨-, f2⟩ | ⟨k, h1, h2, h3, h4⟩
        · have hr8 : r < 8 := by
            rcases Nat.lt_or_ge r 8 with h | h
            · exact h
            · rw [Nat.testBit_lt_two_pow (Nat.lt_of_lt_of_le (hN q) (Nat.le_trans (by decide : 256 ≤ 2 ^ 8) (Nat.pow_le_pow_right (by decide) h)))] at hr
              cases hr
          rw [f2 r hr8] at hr; cases hr
        · show (N q).testBit ((fi (fun r => (N q).testBit r) 8).getD 0) = true
          rw [h4]; exact h2
      · apply Classical.byContradiction
        intro hne
        have val : ∀ q, q < 8 → T.testBit q = true → ∀ i, (N q).testBit i = true → i = (fi (fun r => (N q).testBit r) 8).getD 0 := by
          intro q hq hb i hi
          rcases fi_cases (fun r => (N q).testBit r) 8 with ⟨-, f2⟩ | ⟨k, h1, h2, h3, h4⟩
          · have hr8 : i < 8 := by
              rcases Nat.lt_or_ge i 8 with h | h
              · exact h
              · rw [Nat.testBit_lt_two_pow (Nat.lt_of_lt_of_le (hN q) (Nat.le_trans (by decide : 256 ≤ 2 ^ 8) (Nat.pow_le_pow_right (by decide) h)))] at hi
                cases hi
            rw [f2 i hr8] at hi; cases hi
          · rw [h4]
            show i = k
            apply Classical.byContradiction
            intro hik
            exact hex ⟨q, i, k, hq, hb, hi, h2, hik⟩
        have h1 := h (2 ^ q ||| 2 ^ p) (fun i hi => by
          rw [Nat.testBit_or, Bool.or_eq_true, Nat.testBit_two_pow, Nat.testBit_two_pow] at hi
          rcases hi with hi | hi
          · rw [← of_decide_eq_true hi]; exact hbq
          · rw [← of_decide_eq_true hi]; exact hbp)
        have h2 : pcnt (2 ^ q ||| 2 ^ p) = 2 := by
          rw [pc_ins hp (by rw [Nat.testBit_two_pow]; exact decide_eq_false hne), pc_1 hq]
        have hff : (fi (fun r => (N q).testBit r) 8).getD 0 = (fi (fun r => (N p).testBit r) 8).getD 0 := hf
        have h3 : pcnt (un N (2 ^ q ||| 2 ^ p) 8) ≤ pcnt (2 ^ (fi (fun r => (N q).testBit r) 8).getD 0) := pc_mono (fun i hi => by
          obtain ⟨x, p1, p2, p3⟩ := un_bit.mp hi
          rw [Nat.testBit_two_pow]
          apply decide_eq_true
          rw [Nat.testBit_or, Bool.or_eq_true, Nat.testBit_two_pow, Nat.testBit_two_pow] at p2
          rcases p2 with p2 | p2
          · have := of_decide_eq_true p2
            subst this
            exact (val q hq hbq i p3).symm
          · have := of_decide_eq_true p2
            subst this
            rw [hff]
            exact (val p hp hbp i p3).symm)
        have h4 : ∀ x, pcnt (2 ^ x) ≤ 1 := fun x => by
          by_cases hx : x < 8
          · rw [pc_1 hx]; exact Nat.le_refl _
          · unfold pcnt
            have : sm 8 (fun i => if (2 ^ x).testBit i then 1 else 0) ≤ 0 * 8 := sm_le (fun i hi => by
              show (if (2 ^ x).testBit i then 1 else 0) ≤ 0
              rw [Nat.testBit_two_pow, decide_eq_false (by omega)]
              exact Nat.le_refl _)
            omega
        have := h4 ((fi (fun r => (N q).testBit r) 8).getD 0)
        omega
/-- the reference's way: sets of answerers, one of those that knock after another -/
def cF (N : Nat → Nat) (T n : Nat) : Nat → Nat → Bool
  | 0, k => k == 0
  | q + 1, k => if T.testBit q then (fi (fun r => k.testBit r && ((N q).testBit r && cF N T n q (k ^^^ 2 ^ r))) n).isSome else cF N T n q k
theorem fi_is {P : Nat → Bool} {c : Nat} : (fi P c).isSome = true ↔ ∃ k, k < c ∧ P k = true := by
  rcases fi_cases P c with ⟨f1, f2⟩ | ⟨k, h1, h2, h3, h4⟩
  · rw [f1]
    constructor
    · intro h; cases h
    · rintro ⟨k, h1, h2⟩
      rw [f2 k h1] at h2; cases h2
  · rw [h4]
    exact ⟨fun _ => ⟨k, h1, h2⟩, fun _ => rfl⟩
theorem cF_hall {N : Nat → Nat} {T n : Nat} (hn : n ≤ 8) : ∀ {q k : Nat}, q ≤ 8 → cF N T n q k = true → ∀ U, sub U T → (∀ i, U.testBit i = true → i < q) → pcnt U ≤ pcnt (un N U 8 &&& k)
  | 0, k, _, h, U, hU, hb => by
    have : U = 0 := by
      apply Nat.eq_of_testBit_eq
      intro i
      rw [Nat.zero_testBit]
      cases hc : U.testBit i
      · rfl
      · exact absurd (hb i hc) (by omega)
    rw [this, pc_0]
    exact Nat.zero_le _
  | q + 1, k, hq, h, U, hU, hb => by
    by_cases hT : T.testBit q = true
    · have h' : (fi (fun r => k.testBit r && ((N q).testBit r && cF N T n q (k ^^^ 2 ^ r))) n).isSome = true := by
        have : cF N T n (q + 1) k = if T.testBit q then (fi (fun r => k.testBit r && ((N q).testBit r && cF N T n q (k ^^^ 2 ^ r))) n).isSome else cF N T n q k := rfl
        rw [this, if_pos hT] at h
        exact h
      obtain ⟨r, r1, r2⟩ := fi_is.mp h'
      rw [Bool.and_eq_true, Bool.and_eq_true] at r2
      obtain ⟨r2, r3, r4⟩ := r2
      have hx : ∀ i, (k ^^^ 2 ^ r).testBit i = true → k.testBit i = true ∧ i ≠ r := fun i hi => by
        rw [Nat.testBit_xor, Nat.testBit_two_pow] at hi
        by_cases hir : r = i
        · subst hir
          rw [r2, decide_eq_true rfl] at hi; cases hi
        · rw [decide_eq_false hir, Bool.xor_false] at hi
          exact ⟨hi, fun z => hir z.symm⟩
      by_cases hUq : U.testBit q = true
      · have hV : ∀ i, (U &&& (255 ^^^ 2 ^ q)).testBit i = true → U.testBit i = true ∧ i < q := fun i hi => by
          rw [Nat.testBit_and, Nat.testBit_xor, Nat.testBit_two_pow, Bool.and_eq_true] at hi
          have h1 := hb i hi.1
          refine ⟨hi.1, ?_⟩
          have : i ≠ q := fun z => by
            have h2 := hi.2
            rw [z, bit255 (by omega), decide_eq_true rfl] at h2
            cases h2
          omega
        have ih := cF_hall hn (q := q) (by omega) r4 (U &&& (255 ^^^ 2 ^ q)) (fun i hi => hU i (hV i hi).1) (fun i hi => (hV i hi).2)
        have e1 : pcnt U = pcnt (U &&& (255 ^^^ 2 ^ q)) + 1 := by
          have hb' : (U &&& (255 ^^^ 2 ^ q)).testBit q = false := by
            rw [Nat.testBit_and, Nat.testBit_xor, Nat.testBit_two_pow, bit255 (by omega), decide_eq_true rfl]
            simp
          rw [← pc_ins (by omega) hb']
          congr 1
          apply Nat.eq_of_testBit_eq
          intro i
          rw [Nat.testBit_or, Nat.testBit_and, Nat.testBit_xor, Nat.testBit_two_pow]
          by_cases hi : q = i
          · subst hi; rw [hUq, decide_eq_true rfl]; simp
          · rw [decide_eq_false hi]
            cases hc : U.testBit i
            · rfl
            · rw [bit255 (by have := hb i hc; omega)]; rfl
        have e2 : pcnt (un N (U &&& (255 ^^^ 2 ^ q)) 8 &&& (k ^^^ 2 ^ r)) < pcnt (un N U 8 &&& k) := by
          refine pc_lt (p := r) (fun i hi => ?_) (by omega) ?_ ?_
          · rw [Nat.testBit_and, Bool.and_eq_true] at hi ⊢
            refine ⟨?_, (hx i hi.2).1⟩
            obtain ⟨p, p1, p2, p3⟩ := un_bit.mp hi.1
            exact un_bit.mpr ⟨p, p1, (hV p p2).1, p3⟩
          · rw [Nat.testBit_and]
            have : (k ^^^ 2 ^ r).testBit r = false := by
              cases hc : (k ^^^ 2 ^ r).testBit r
              · rfl
              · exact absurd rfl (hx r hc).2
            rw [this, Bool.and_false]
          · rw [Nat.testBit_and, r2, Bool.and_true]
            exact un_bit.mpr ⟨q, by omega, hUq, r3⟩
        omega
      · have ih := cF_hall hn (q := q) (by omega) r4 U hU (fun i hi => by
          have := hb i hi
          have : i ≠ q := fun z => hUq (by rw [← z]; exact hi)
          omega)
        refine Nat.le_trans ih (pc_mono (fun i hi => ?_))
        rw [Nat.testBit_and, Bool.and_eq_true] at hi ⊢
        exact ⟨hi.1, (hx i hi.2).1⟩
    · have h' : cF N T n q k = true := by
        have : cF N T n (q + 1) k = if T.testBit q then (fi (fun r => k.testBit r && ((N q).testBit r && cF N T n q (k ^^^ 2 ^ r))) n).isSome else cF N T n q k := rfl
        rw [this, if_neg hT] at h
        exact h
      exact cF_hall hn (q := q) (by omega) h' U hU (fun i hi => by
        have := hb i hi
        have : i ≠ q := fun z => hT (by rw [← z]; exact hU i hi)
        omega)
def kOf (T : Nat) (f : Nat → Nat) : Nat → Nat
  | 0 => 0
  | q + 1 => kOf T f q ||| (if T.testBit q then 2 ^ f q else 0)
theorem kOf_bit {T : Nat} {f : Nat → Nat} : ∀ {q r : Nat}, (kOf T f q).testBit r = true ↔ ∃ p, p < q ∧ T.testBit p = true ∧ f p = r
  | 0, r => by simp [kOf]
  | q + 1, r => by
    show (kOf T f q ||| (if T.testBit q then 2 ^ f q else 0)).testBit r = true ↔ _
    rw [Nat.testBit_or, Bool.or_eq_true, kOf_bit]
    constructor
    · rintro (⟨p, h1, h2, h3⟩ | h)
      · exact ⟨p, by omega, h2, h3⟩
      · by_cases hc : T.testBit q = true
        · rw [if_pos hc, Nat.testBit_two_pow] at h
          exact ⟨q, by omega, hc, of_decide_eq_true h⟩
        · rw [if_neg hc, Nat.zero_testBit] at h
          cases h
    · rintro ⟨p, h1, h2, h3⟩
      by_cases hp : p = q
      · subst hp
        right
        rw [if_pos h2, Nat.testBit_two_pow]; exact decide_eq_true h3
      · exact Or.inl ⟨p, by omega, h2, h3⟩
theorem m_cF {N : Nat → Nat} {T n : Nat} {f : Nat → Nat} (h1 : ∀ q, q < 8 → T.testBit q = true → (N q).testBit (f q) = true ∧ f q < n) (h2 : ∀ q p, q < 8 → p < 8 → T.testBit q = true → T.testBit p = true → f q = f p → q = p) : ∀ {q : Nat}, q ≤ 8 → cF N T n q (kOf T f q) = true
  | 0, _ => rfl
  | q + 1, hq => by
    have ih := m_cF h1 h2 (q := q) (by omega)
    show (if T.testBit q then (fi (fun r => (kOf T f (q + 1)).testBit r && ((N q).testBit r && cF N T n q (kOf T f (q + 1) ^^^ 2 ^ r))) n).isSome else cF N T n q (kOf T f (q + 1))) = true
    by_cases hT : T.testBit q = true
    · rw [if_pos hT]
      refine fi_is.mpr ⟨f q, (h1 q (by omega) hT).2, ?_⟩
      have e1 : (kOf T f (q + 1)).testBit (f q) = true := kOf_bit.mpr ⟨q, by omega, hT, rfl⟩
      have e2 : kOf T f (q + 1) ^^^ 2 ^ f q = kOf T f q := by
        have hno : (kOf T f q).testBit (f q) = false := by
          cases hc : (kOf T f q).testBit (f q)
          · rfl
          · obtain ⟨p, p1, p2, p3⟩ := kOf_bit.mp hc
            have := h2 p q (by omega) (by omega) p2 hT p3
            omega
        have : kOf T f (q + 1) = kOf T f q ||| 2 ^ f q := by
          show kOf T f q ||| (if T.testBit q then 2 ^ f q else 0) = _
          rw [if_pos hT]
        rw [this]
        apply Nat.eq_of_testBit_eq
        intro i
        rw [Nat.testBit_xor, Nat.testBit_or, Nat.testBit_two_pow]
        by_cases hi : f q = i
        · subst hi; rw [hno, decide_eq_true rfl]; rfl
        · rw [decide_eq_false hi]; simp
      rw [e1, (h1 q (by omega) hT).1, e2, ih]; rfl
    · rw [if_neg hT]
      have : kOf T f (q + 1) = kOf T f q := by
        show kOf T f q ||| (if T.testBit q then 2 ^ f q else 0) = _
        rw [if_neg hT, Nat.or_zero]
      rw [this]; exact ih
theorem cF_high {N : Nat → Nat} {T n : Nat} (hT : ∀ i, T.testBit i = true → i < n) : ∀ {q k : Nat}, n ≤ q → cF N T n q k = cF N T n n k
  | 0, k, h => by
    have : n = 0 := by omega
    subst this; rfl
  | q + 1, k, h => by
    by_cases hq : n = q + 1
    · subst hq; rfl
    · have hb : ¬ T.testBit q = true := fun z => by have := hT q z; omega
      show (if T.testBit q then _ else cF N T n q k) = _
      rw [if_neg hb]
      exact cF_high hT (by omega)
/-- both ways say the same -/
theorem hall_iff {N : Nat → Nat} {T n : Nat} (hn : n ≤ 8) (hT : ∀ i, T.testBit i = true → i < n) (hN : ∀ p, N p < 256) (hNn : ∀ p r, (N p).testBit r = true → r < n) : hall N T ↔ ∃ k, k < 256 ∧ cF N T n n k = true := by
  have hT256 : T < 256 := Nat.lt_pow_two_of_testBit (n := 8) _ (fun i hi => by
    cases hc : T.testBit i
    · rfl
    · have := hT i hc; omega)
  constructor
  · intro h
    obtain ⟨f, f1, f2⟩ := hall_m T hT256 _ N hN (Nat.le_refl _) h
    refine ⟨kOf T f 8, Nat.lt_pow_two_of_testBit (n := 8) _ (fun i hi => ?_), ?_⟩
    · cases hc : (kOf T f 8).testBit i
      · rfl
      · obtain ⟨p, p1, p2, p3⟩ := kOf_bit.mp hc
        have := hNn p _ (f1 p p1 p2)
        omega
    · rw [← cF_high hT (show n ≤ 8 from hn)]
      exact m_cF (fun q hq hb => ⟨f1 q hq hb, hNn q _ (f1 q hq hb)⟩) f2 (Nat.le_refl 8)
  · rintro ⟨k, -, hk⟩ U hU
    have := cF_hall hn (q := n) hn hk U hU (fun i hi => hT i (hU i hi))
    refine Nat.le_trans this (pc_mono (fun i hi => ?_))
    rw [Nat.testBit_and, Bool.and_eq_true] at hi
    exact hi.1
