/-- both stand before an operand -/
def preO (n h z lim : Nat) (b : Nat → Nat) (o c g s d : Nat) (A B C T : Nat → Nat) (sy ta m : Obj) (k v : Nat) (l : List Nat) (pl p : Nat) : Prop :=
  o ≤ 20 ∧ c ≤ 2 * o ∧ s ≤ o ∧ sy.1 0 0 = nI o ∧ sayC c A B C sy ∧ (∀ i, i < c → tok n h (A i) (B i) (C i)) ∧ dpt A c = some g ∧ sM c o s d 0 m ∧ eM c A B C m ∧ tS s T m ∧ syn z lim b k v l pl p ta m
/-- .. and behind one; the reference has j nots to do yet -/
def aftO (i n h z lim : Nat) (b : Nat → Nat) (o c g s d : Nat) (A B C T : Nat → Nat) (ta m sy' ta' m' : Obj) : Prop := ∃ o' cm j A' B' C' T' k v l pl p,
  o < o' ∧ o' ≤ 20 ∧ i + 1 ≤ 3 * (o' - o) ∧ cm + j + 1 ≤ c + 2 * (o' - o) ∧ c ≤ cm ∧ s + j ≤ o' ∧ (∀ i, i < c → A' i = A i ∧ B' i = B i ∧ C' i = C i) ∧ (∀ i, i < cm + j → tok n h (A' i) (B' i) (C' i)) ∧ dpt A' (cm + j) = some (g + 1) ∧ sy'.1 0 0 = nI o' ∧ sayC (cm + j) A' B' C' sy' ∧
  sM cm o' (s + j) (d + j) 1 m' ∧ eM cm A' B' C' m' ∧ (∀ i, cm ≤ i → i < cm + j → A' i = 20 ∧ B' i = 0 ∧ C' i = 0) ∧ tS (s + j) T' m' ∧ (∀ i, i < s → T' i = T i) ∧ (∀ i, s ≤ i → i < s + j → T' i = 20) ∧
  syn z lim b k v l pl p ta' m' ∧ taB ta ta' ∧ mvS m m' ∧ ta'.1 0 2 = ta.1 0 2 ∧ m'.1 0 15 = m.1 0 15
/-- both refuse -/
def noO (o : Nat) (ta m ta' : Obj) : Prop := ∃ i m1 m', Rch i m m1 ∧ i ≤ 3 * (20 - o) ∧ fMo_sentence_L48 (nI 1, m1) = some (.inr (.inr (-nI 1 - m'.1 0 16, m'))) ∧ fai ta' m' ∧ taB ta ta' ∧ mvS m m'
/-- the names that are told -/
def nmE (n h : Nat) (q m : Obj) : Prop := n ≤ 8 ∧ h ≤ 6 ∧ q.1 0 3 = nI h ∧ q.1 0 4 = nI n ∧ m.1 2 0 = nI h ∧ m.1 2 1 = nI n ∧ sQN n h q (m.2 5)
theorem nmE_S {n h : Nat} {q m m' : Obj} (hE : nmE n h q m) (hf : mvS m m') : nmE n h q m' := by
  obtain ⟨h1, h2, h3, h4, h5, h6, h7⟩ := hE
  refine ⟨h1, h2, h3, h4, ?_, ?_, ?_⟩
  · rw [hf.1 2 (by omega) (by omega) (by omega)]; exact h5
  · rw [hf.1 2 (by omega) (by omega) (by omega)]; exact h6
  · rw [hf.2.1 5 (by omega)]; exact h7
section
variable {z lim : Nat} {b : Nat → Nat} {ta ta1 m ta' m' m0 m1 m2 m3 m4 x y q sy sy' : Obj} {k v v0 pl p p0 p1 c o s d w j g : Nat} {l : List Nat} {n h L e t : Nat} {hp hm A B C T : Nat → Nat} {sr sr' : Nat → Bool}
theorem st_op (hw : m.1 0 43 = nI 0) : fMo_sentence_L48 (nI 1, m) = (fMo_operand m).bind fun r10 => if r10.1 = nI 0 then some (.inr (.inr (-nI 1 - r10.2.1 0 16, r10.2))) else some (.inl (nI 1, r10.2)) := by
  unfold fMo_sentence_L48 fMo_sentence_J101
  simp only [lit]
  rw [if_neg (show ¬ nI 1 = nI 0 by decide +kernel), hw, if_pos rfl, if_pos rfl]
theorem st_be (hw : m.1 0 43 = nI 1) (h11 : ¬ m.1 0 11 = nI 0) : fMo_sentence_L48 (nI 1, m) = (fMo_behind m).bind fun r10 => if r10.1 = nI 0 then some (.inr (.inr (-nI 1 - r10.2.1 0 16, r10.2))) else some (.inl (nI 1, r10.2)) := by
  have u1 : ¬ nI 1 = nI 0 := by decide +kernel
  unfold fMo_sentence_L48 fMo_sentence_J101
  simp only [lit]
  rw [if_neg u1, hw, if_neg u1, if_neg h11, if_neg u1]
theorem st_en (hw : m.1 0 43 = nI 1) (h11 : m.1 0 11 = nI 0) : fMo_sentence_L48 (nI 1, m) = (fMo_nots m).bind fun r12 => (fMo_joins r12 (nI 22)).bind fun r13 => if r13.1 0 41 ≤ nI 0 then some (.inl (nI 0, r13)) else (fMo_bad r13 (nI 1)).bind fun r14 => some (.inr (.inr (-nI 1 - r14.2.1 0 16, r14.2))) := by
  have u1 : ¬ nI 1 = nI 0 := by decide +kernel
  unfold fMo_sentence_L48
  simp only [lit]
  rw [if_neg u1, hw, if_neg u1, if_pos h11]
/-- a sign that compares -/
theorem cmp_both (hl : lag z lim b p0 ta m) : (∃ sg l pl p ta1, 60 ≤ sg ∧ sg ≤ 62 ∧ fTa_takeCompare ta = some (nI sg, ta1) ∧ m.1 0 11 = nI 3 ∧ m.1 0 14 = nI sg ∧ syn z lim b 4 sg l pl p ta1 m ∧ taF ta ta1) ∨ (∃ ta' m', fTa_takeCompare ta = some (-nI 1, ta') ∧ fMo_bad m (nI 1) = some (nI 0, m') ∧ fai ta' m' ∧ taB ta ta' ∧ moB m m' ∧ (¬ m.1 0 11 = nI 3 ∨ (m.1 0 11 = nI 3 ∧ (m.1 0 14 < nI 60 ∨ ¬ m.1 0 14 ≤ nI 62)))) := by
  have u1 : ¬ nI 1 = nI 0 := by decide +kernel
  obtain ⟨ta1, k, v, l, pl, p, h1, h1', h2, h3, h5⟩ := hl
  obtain ⟨-, ⟨t1, t2, t3, t4, t5⟩, -⟩ := id h2
  have g60 := (sg_both h2 (c := 60) (by omega)).1
  have g61 := (sg_both h2 (c := 61) (by omega)).1
  have g62 := (sg_both h2 (c := 62) (by omega)).1
  have lC : fTa_takeCompare ta = if (k = 4 ∧ v = 60) ∨ (k = 4 ∧ v = 61) ∨ (k = 4 ∧ v = 62) then some (ta1.1 0 5, ta1) else (fTa_refuse ta1 (nI 1)).bind fun r5 => some (r5.1, r5.2) := by
    unfold fTa_takeCompare
    simp only [lit]
    rw [h1, Option.bind_some, g60, g61, g62, Option.bind_some, Option.bind_some, Option.bind_some]
    by_cases a : k = 4 ∧ v = 60
    · rw [if_pos a, if_neg u1, if_pos (Or.inl a)]
    · rw [if_neg a, if_pos rfl]
      by_cases a1 : k = 4 ∧ v = 61
      · rw [if_pos a1, if_neg u1, if_pos (Or.inr (Or.inl a1))]
      · rw [if_neg a1, if_pos rfl]
        by_cases a2 : k = 4 ∧ v = 62
        · rw [if_pos a2, if_neg u1, if_pos (Or.inr (Or.inr a2))]
        · rw [if_neg a2, if_pos rfl, if_neg (fun u => u.elim a (fun u => u.elim a1 a2))]
  by_cases hk : (k = 4 ∧ v = 60) ∨ (k = 4 ∧ v = 61) ∨ (k = 4 ∧ v = 62)
  · left
    rw [if_pos hk] at lC
    have hk4 : k = 4 := by rcases hk with u | u | u <;> exact u.1
    subst hk4
    obtain ⟨-, a0, a1, a2, a3, a4⟩ : (4 = 4 ∧ isSg v = true ∧ v < 256 ∧ ta1.1 0 5 = nI v ∧ m.1 0 11 = nI 3 ∧ m.1 0 14 = nI v) := by
      rcases t5 with t | t | t | t | t | t
      · exact absurd t.1 (by decide)
      · exact absurd t.1 (by decide)
      · exact absurd t.1 (by decide)
      · exact absurd t.1 (by decide)
      · exact t
      · exact absurd t.1 (by decide)
    rw [a2] at lC
    exact ⟨v, l, pl, p, ta1, by omega, by omega, lC, a3, a4, h2, h1'⟩
  · right
    rw [if_neg hk] at lC
    obtain ⟨ta', m', f1, f2, f3, f4, f5⟩ := bad2 h2 (nI 1)
    refine ⟨ta', m', by rw [lC, f1]; rfl, f2, f3, taB_trans (taB_F h1') f4, f5, ?_⟩
    rcases t5 with t | t | t | t | t | t
    · left; rw [t.2]; decide +kernel
    · left; rw [t.2.2.2.1]; decide +kernel
    · left; rw [t.2.2.2.2.2.1]; decide +kernel
    · left; rw [t.2.2.2.1]; decide +kernel
    · right
      refine ⟨t.2.2.2.2.1, ?_⟩
      rw [t.2.2.2.2.2]
      have hv := t.2.2.1
      have hk4 := t.1
      by_cases h60 : v < 60
      · left; rw [nlt (by omega) (by omega)]; exact h60
      · right; rw [nle (by omega) (by omega)]; omega
    · left; rw [t.2]; decide +kernel
/-- any number -/
theorem any_num (hl : lag z lim b p0 ta m) : (∃ v l pl p ta1, v ≤ 999 ∧ fTa_takeNumber ta (nI 0) (nI 999) = some (nI v, ta1) ∧ m.1 0 11 = nI 2 ∧ m.1 0 14 = nI v ∧ syn z lim b 3 v l pl p ta1 m ∧ taF ta ta1) ∨ (∃ ta' m', fTa_takeNumber ta (nI 0) (nI 999) = some (-nI 1, ta') ∧ fMo_bad m (nI 1) = some (nI 0, m') ∧ fai ta' m' ∧ taB ta ta' ∧ moB m m' ∧ ¬ m.1 0 11 = nI 2) := by
  obtain ⟨ta1, k, v, l, pl, p, h1, h1', h2, h3, h5⟩ := hl
  obtain ⟨-, ⟨t1, t2, t3, t4, t5⟩, -⟩ := id h2
  by_cases hk : k = 3
  · left
    subst hk
    obtain ⟨-, q1, q2, q3, q4⟩ : (3 = 3 ∧ v ≤ 999 ∧ ta1.1 0 5 = nI v ∧ m.1 0 11 = nI 2 ∧ m.1 0 14 = nI v) := by
      rcases t5 with t | t | t | t | t | t
      · exact absurd t.1 (by decide)
      · exact absurd t.1 (by decide)
      · exact absurd t.1 (by decide)
      · exact t
      · exact absurd t.1 (by decide)
      · exact absurd t.1 (by decide)
    refine ⟨v, l, pl, p, ta1, q1, ?_, q3, q4, h2, h1'⟩
    unfold fTa_takeNumber
    simp only [lit]
    rw [h1, Option.bind_some, t1, if_pos rfl, q2, if_neg (nI_lt0 (by omega)), if_pos (by rw [nle (by omega) (by omega)]; omega)]
  · right
    obtain ⟨ta', m', f1, f2, f3, f4, f5⟩ := bad2 h2 (nI 1)
    refine ⟨ta', m', ?_, f2, f3, taB_trans (taB_F h1') f4, f5, ?_⟩
    · unfold fTa_takeNumber
      simp only [lit]
      rw [h1, Option.bind_some, t1, if_neg (by rw [neq (by omega) (by omega)]; exact hk), f1]
      rfl
    · rcases t5 with t | t | t | t | t | t
      · rw [t.2]; decide +kernel
      · rw [t.2.2.2.1]; decide +kernel
      · rw [t.2.2.2.2.2.1]; decide +kernel
      · exact absurd t.1 hk
      · rw [t.2.2.2.2.1]; decide +kernel
      · rw [t.2]; decide +kernel
/-- the leaf that a word begins -/
theorem leaf_of (hs : syn z lim b k v l pl p ta m) : (∀ a, a ≤ 9 → k = 1 ∧ v = cwd a → fMo_leafOf m = some (nI a)) ∧ ((∀ a, a ≤ 9 → ¬ (k = 1 ∧ v = cwd a)) → fMo_leafOf m = some (-nI 1)) := by
  have u1 : ¬ nI 1 = nI 0 := by decide +kernel
  have w21 := mo_isW hs (w := 21) (by omega)
  have w22 := mo_isW hs (w := 22) (by omega)
  have w23 := mo_isW hs (w := 23) (by omega)
  have w12 := mo_isW hs (w := 12) (by omega)
  have w4 := mo_isW hs (w := 4) (by omega)
  have w24 := mo_isW hs (w := 24) (by omega)
  have w25 := mo_isW hs (w := 25) (by omega)
  have w26 := mo_isW hs (w := 26) (by omega)
  have w27 := mo_isW hs (w := 27) (by omega)
  have w28 := mo_isW hs (w := 28) (by omega)
  have lM : fMo_leafOf m = if k = 1 ∧ v = 21 then some (nI 0) else if k = 1 ∧ v = 22 then some (nI 1) else if k = 1 ∧ v = 23 then some (nI 2) else if k = 1 ∧ v = 12 then some (nI 3) else if k = 1 ∧ v = 4 then some (nI 4) else if k = 1 ∧ v = 24 then some (nI 5) else if k = 1 ∧ v = 25 then some (nI 6) else if k = 1 ∧ v = 26 then some (nI 7) else if k = 1 ∧ v = 27 then some (nI 8) else if k = 1 ∧ v = 28 then some (nI 9) else some (-nI 1) := by
    have io : ∀ {c : Prop} [Decidable c] {α : Type} (a b : α), (if nI (if c then 1 else 0) = nI 0 then a else b) = if c then b else a := fun {c} _ α a b => by
      by_cases hc : c
      · rw [if_pos hc, if_pos hc, if_neg u1]
      · rw [if_neg hc, if_neg hc, if_pos rfl]
    have e21 : (33602640515001959 : Int64) = kw8 (kws.getD 21 []) := by decide +kernel
    have e22 : (7741247282290978407 : Int64) = kw8 (kws.getD 22 []) := by decide +kernel
    have e23 : (115923103605861 : Int64) = kw8 (kws.getD 23 []) := by decide +kernel
    have e12 : (495874044526 : Int64) = kw8 (kws.getD 12 []) := by decide +kernel
    have e4 : (461414299507 : Int64) = kw8 (kws.getD 4 []) := by decide +kernel
    have e24 : (28518 : Int64) = kw8 (kws.getD 24 []) := by decide +kernel
    have e25 : (482854658917 : Int64) = kw8 (kws.getD 25 []) := by decide +kernel
    have e26 : (461414299502 : Int64) = kw8 (kws.getD 26 []) := by decide +kernel
    have e27 : (131260264768868 : Int64) = kw8 (kws.getD 27 []) := by decide +kernel
    have e28 : (121450625394034 : Int64) = kw8 (kws.getD 28 []) := by decide +kernel
    unfold fMo_leafOf
    rw [e21, e22, e23, e12, e4, e24, e25, e26, e27, e28]
    simp only [lit]
    rw [w21, w22, w23, w12, w4, w24, w25, w26, w27, w28]
    simp only [Option.bind_some, io]
  refine ⟨fun a ha hkv => ?_, fun hno => ?_⟩
  · obtain ⟨rfl, rfl⟩ := hkv
    rw [lM]
    rcases (show a = 0 ∨ a = 1 ∨ a = 2 ∨ a = 3 ∨ a = 4 ∨ a = 5 ∨ a = 6 ∨ a = 7 ∨ a = 8 ∨ a = 9 by omega) with w | w | w | w | w | w | w | w | w | w <;> subst w <;> rfl
  · rw [lM]
    have n0 : ¬ (k = 1 ∧ v = 21) := hno 0 (by omega)
    have n1 : ¬ (k = 1 ∧ v = 22) := hno 1 (by omega)
    have n2 : ¬ (k = 1 ∧ v = 23) := hno 2 (by omega)
    have n3 : ¬ (k = 1 ∧ v = 12) := hno 3 (by omega)
    have n4 : ¬ (k = 1 ∧ v = 4) := hno 4 (by omega)
    have n5 : ¬ (k = 1 ∧ v = 24) := hno 5 (by omega)
    have n6 : ¬ (k = 1 ∧ v = 25) := hno 6 (by omega)
    have n7 : ¬ (k = 1 ∧ v = 26) := hno 7 (by omega)
    have n8 : ¬ (k = 1 ∧ v = 27) := hno 8 (by omega)
    have n9 : ¬ (k = 1 ∧ v = 28) := hno 9 (by omega)
    rw [if_neg n0, if_neg n1, if_neg n2, if_neg n3, if_neg n4, if_neg n5, if_neg n6, if_neg n7, if_neg n8, if_neg n9]
/-- codes grow by one -/
theorem tok_up {x y u : Nat} (ht : ∀ i, i < c → tok n h (A i) (B i) (C i)) (hx : tok n h x y u) : ∀ i, i < c + 1 → tok n h (va_up A c x i) (va_up B c y i) (va_up C c u i) := fun i hi => by
  rw [va_up_at, va_up_at, va_up_at]
  by_cases hic : i = c
  · rw [if_pos hic, if_pos hic, if_pos hic]; exact hx
  · rw [if_neg hic, if_neg hic, if_neg hic]; exact ht i (by omega)
theorem same_up {x y u : Nat} : ∀ i, i < c → va_up A c x i = A i ∧ va_up B c y i = B i ∧ va_up C c u i = C i := fun i hi => by
  rw [va_up_ne _ _ (by omega), va_up_ne _ _ (by omega), va_up_ne _ _ (by omega)]
  exact ⟨rfl, rfl, rfl⟩
/-- a plain operand, its words read: the code of both, and one token more -/
theorem plain_end {x y u : Nat} (hc : c ≤ 2 * o) (ho : o ≤ 19) (hso : s ≤ o) (hsy0 : sy.1 0 0 = nI (o + 1)) (hsy : sayC c A B C sy) (ht : ∀ i, i < c → tok n h (A i) (B i) (C i)) (hx : tok n h x y u) (hx9 : x ≤ 9) (hdp : dpt A c = some g) (hm : sM c (o + 1) s d 1 m1) (he : eM c A B C m1) (hT : tS s T m1) :
    ∃ sy' m2, fSy_add sy (nI (cwd x)) (nI (cwB x y u)) (nI (cwC x u)) = some sy' ∧ fMo_code m1 (nI x) (nI y) (nI u) = some m2 ∧ mvT m1 m2 ∧ (∀ (ta ta' m m' : Obj) (k v : Nat) (l : List Nat) (pl p : Nat), moF m2 m' ∨ m' = m2 → syn z lim b k v l pl p ta' m' → taB ta ta' → mvS m m1 → ta'.1 0 2 = ta.1 0 2 → m1.1 0 15 = m.1 0 15 → aftO 1 n h z lim b o c g s d A B C T ta m sy' ta' m') := by
  obtain ⟨sy', a1, a2, a3⟩ := sy_add hsy (by omega) x y u
  have he' : eM c (va_up A c x) (va_up B c y) (va_up C c u) m1 := eM_congr he same_up
  obtain ⟨m2, b1, b2, b3, b4, b5⟩ := code_ok hm (by omega) he'
  rw [va_up_at, if_pos rfl, va_up_at, if_pos rfl, va_up_at, if_pos rfl] at b1
  refine ⟨sy', m2, a1, b1, b5, fun ta ta' m m' k v l pl p hF hsyn htB hS h2 h15 => ?_⟩
  have mF : mvS m2 m' := by
    rcases hF with w | w
    · exact mvS_F w
    · rw [w]; exact mvS_refl _
  have m4 : m'.1 4 = m2.1 4 := by
    rcases hF with w | w
    · exact w.1 4 (by omega)
    · rw [w]
  have m14 : m'.1 14 = m2.1 14 := by
    rcases hF with w | w
    · exact w.1 14 (by omega)
    · rw [w]
  have msM : sM (c + 1) (o + 1) s d 1 m' := by
    rcases hF with w | w
    · exact sM_F b2 w
    · rw [w]; exact b2
  have m15 : m'.1 0 15 = m2.1 0 15 := by
    rcases hF with w | w
    · exact w.2.1 15 (by omega) (by omega)
    · rw [w]
  refine ⟨o + 1, c + 1, 0, va_up A c x, va_up B c y, va_up C c u, T, k, v, l, pl, p, by omega, by omega, by omega, by omega, by omega, by omega, same_up, tok_up ht hx, ?_, by rw [a3]; exact hsy0, a2, msM, eM_4 b3 m4, fun i i1 i2 => absurd i2 (by omega), ?_, fun i _ => rfl, fun i i1 i2 => absurd i2 (by omega), hsyn, htB, mvS_trans hS (mvS_trans (mvS_T b5) mF), h2, ?_⟩
  · refine dpt_leaf ?_ (by rw [va_up_at, if_pos rfl]; exact hx9)
    rw [dpt_congr (A := A) (fun i hi => va_up_ne _ _ (by omega))]; exact hdp
  · intro i hi
    rw [m14, b4]; exact hT i hi
  · rw [m15, b5.2.2 15 (by omega), h15]
end
