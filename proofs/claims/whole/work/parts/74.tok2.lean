theorem or5 {a x : Nat} (h : x < 32) : a * 32 ||| x = 32 * a + x := by
  have := Nat.shiftLeft_add_eq_or_of_lt (i := 5) (b := x) (by omega) a
  rw [Nat.shiftLeft_eq, show (2 : Nat) ^ 5 = 32 from rfl] at this
  omega
theorem or8 {a x : Nat} (h : x < 256) : a * 256 ||| x = 256 * a + x := by
  have := Nat.shiftLeft_add_eq_or_of_lt (i := 8) (b := x) (by omega) a
  rw [Nat.shiftLeft_eq, show (2 : Nat) ^ 8 = 256 from rfl] at this
  omega
theorem e5_app : ∀ (l : List Nat) (a x : Nat), e5 a (l ++ [x]) = 32 * e5 a l + x
  | [], a, x => rfl
  | y :: l, a, x => e5_app l (32 * a + y) x
theorem e8_app : ∀ (l : List Nat) (a x : Nat), e8 a (l ++ [x]) = 256 * e8 a l + (x + 96)
  | [], a, x => rfl
  | y :: l, a, x => e8_app l (256 * a + (y + 96)) x
def dvf : Nat → List Nat → Nat
  | a, [] => a
  | a, x :: l => dvf (10 * a + x) l
theorem dvf_app : ∀ (l : List Nat) (a x : Nat), dvf a (l ++ [x]) = 10 * dvf a l + x
  | [], a, x => rfl
  | y :: l, a, x => dvf_app l (10 * a + y) x
def LLr (b : Nat → Nat) (s : Nat) : Nat → List Nat
  | 0 => []
  | i + 1 => if isL (b (s + i)) then LLr b s i ++ [b (s + i) - 96] else LLr b s i
def DLr (b : Nat → Nat) (s : Nat) : Nat → List Nat
  | 0 => []
  | i + 1 => if isD (b (s + i)) then DLr b s i ++ [b (s + i) - 48] else DLr b s i
def allS (b : Nat → Nat) (s : Nat) : Nat → Bool
  | 0 => true
  | i + 1 => allS b s i && (isL (b (s + i)) == isL (b s))
section
variable {z lim : Nat} {b : Nat → Nat} {ta m ta' m' x y : Obj} {s i : Nat}
theorem isL_t {c : Nat} (h : isL c = true) : 97 ≤ c ∧ c ≤ 122 := by unfold isL at h; exact of_decide_eq_true h
theorem isD_t {c : Nat} (h : isD c = true) : 48 ≤ c ∧ c ≤ 57 := by unfold isD at h; exact of_decide_eq_true h
theorem LD_x {c : Nat} (h : isL c = true) : isD c = false := by
  have := isL_t h
  unfold isD
  exact decide_eq_false (by omega)
theorem LL_ok : ∀ i, lok (LLr b s i) ∧ (LLr b s i).length ≤ i
  | 0 => ⟨(fun x hx => by cases hx), Nat.le_refl _⟩
  | i + 1 => by
    obtain ⟨h1, h2⟩ := LL_ok i
    show lok (if isL (b (s + i)) then LLr b s i ++ [b (s + i) - 96] else LLr b s i) ∧ (if isL (b (s + i)) then LLr b s i ++ [b (s + i) - 96] else LLr b s i).length ≤ i + 1
    cases hl : isL (b (s + i))
    · exact ⟨h1, by show (LLr b s i).length ≤ i + 1; omega⟩
    · have := isL_t hl
      refine ⟨fun x hx => ?_, ?_⟩
      · rcases List.mem_append.mp hx with hx | hx
        · exact h1 x hx
        · have := List.mem_singleton.mp hx
          omega
      · show (LLr b s i ++ [b (s + i) - 96]).length ≤ i + 1
        rw [List.length_append]
        show (LLr b s i).length + 1 ≤ i + 1
        omega
theorem DL_len : ∀ i, (DLr b s i).length ≤ i ∧ ((∀ j, j < i → isL (b (s + j)) = true ∨ isD (b (s + j)) = true) → (LLr b s i).length + (DLr b s i).length = i)
  | 0 => ⟨Nat.le_refl _, fun _ => rfl⟩
  | i + 1 => by
    obtain ⟨h1, h2⟩ := DL_len i
    have e1 : LLr b s (i + 1) = if isL (b (s + i)) then LLr b s i ++ [b (s + i) - 96] else LLr b s i := rfl
    have e2 : DLr b s (i + 1) = if isD (b (s + i)) then DLr b s i ++ [b (s + i) - 48] else DLr b s i := rfl
    refine ⟨?_, fun hall => ?_⟩
    · rw [e2]
      split
      · rw [List.length_append]; show (DLr b s i).length + 1 ≤ i + 1; omega
      · omega
    · have ih := h2 (fun j hj => hall j (by omega))
      rw [e1, e2]
      rcases hall i (by omega) with hl | hd
      · rw [hl, LD_x hl, if_pos rfl, if_neg (by decide), List.length_append]
        show (LLr b s i).length + 1 + (DLr b s i).length = i + 1
        omega
      · have hl : isL (b (s + i)) = false := by
          cases hc : isL (b (s + i))
          · rfl
          · rw [LD_x hc] at hd; cases hd
        rw [hl, hd, if_neg (by decide), if_pos rfl, List.length_append]
        show (LLr b s i).length + ((DLr b s i).length + 1) = i + 1
        omega
theorem all_L (hs : isL (b s) = true) : ∀ i, allS b s i = true ↔ DLr b s i = [] ∧ (LLr b s i).length = i
  | 0 => ⟨fun _ => ⟨rfl, rfl⟩, fun _ => rfl⟩
  | i + 1 => by
    have ih := all_L hs i
    have e1 : LLr b s (i + 1) = if isL (b (s + i)) then LLr b s i ++ [b (s + i) - 96] else LLr b s i := rfl
    have e2 : DLr b s (i + 1) = if isD (b (s + i)) then DLr b s i ++ [b (s + i) - 48] else DLr b s i := rfl
    have e3 : allS b s (i + 1) = (allS b s i && (isL (b (s + i)) == isL (b s))) := rfl
    rw [e1, e2, e3, hs, Bool.and_eq_true, ih]
    cases hl : isL (b (s + i))
    · have hle := (LL_ok (b := b) (s := s) i).2
      constructor
      · rintro ⟨-, h⟩; cases h
      · rintro ⟨-, h⟩
        have h' : (LLr b s i).length = i + 1 := h
        omega
    · rw [LD_x hl, if_neg (by decide), if_pos rfl, List.length_append]
      constructor
      · rintro ⟨⟨h1, h2⟩, -⟩
        exact ⟨h1, by show (LLr b s i).length + 1 = i + 1; omega⟩
      · rintro ⟨h1, h2⟩
        have h2' : (LLr b s i).length + 1 = i + 1 := h2
        exact ⟨⟨h1, by omega⟩, rfl⟩
theorem all_D (hs : isL (b s) = false) : ∀ i, (∀ j, j < i → isL (b (s + j)) = true ∨ isD (b (s + j)) = true) → (allS b s i = true ↔ LLr b s i = [] ∧ (DLr b s i).length = i)
  | 0, _ => ⟨fun _ => ⟨rfl, rfl⟩, fun _ => rfl⟩
  | i + 1, hall => by
    have ih := all_D hs i (fun j hj => hall j (by omega))
    have e1 : LLr b s (i + 1) = if isL (b (s + i)) then LLr b s i ++ [b (s + i) - 96] else LLr b s i := rfl
    have e2 : DLr b s (i + 1) = if isD (b (s + i)) then DLr b s i ++ [b (s + i) - 48] else DLr b s i := rfl
    have e3 : allS b s (i + 1) = (allS b s i && (isL (b (s + i)) == isL (b s))) := rfl
    rw [e1, e2, e3, hs, Bool.and_eq_true, ih]
    cases hl : isL (b (s + i))
    · have hd : isD (b (s + i)) = true := (hall i (by omega)).resolve_left (by rw [hl]; decide)
      rw [hd, if_pos rfl, if_neg (by decide), List.length_append]
      constructor
      · rintro ⟨⟨h1, h2⟩, -⟩
        exact ⟨h1, by show (DLr b s i).length + 1 = i + 1; omega⟩
      · rintro ⟨h1, h2⟩
        have h2' : (DLr b s i).length + 1 = i + 1 := h2
        exact ⟨⟨h1, by omega⟩, rfl⟩
    · rw [if_pos rfl]
      constructor
      · rintro ⟨-, h⟩; cases h
      · rintro ⟨h, -⟩
        have : (LLr b s i ++ [b (s + i) - 96]).length = 0 := by rw [h]; rfl
        rw [List.length_append] at this
        have this' : (LLr b s i).length + 1 = 0 := this
        omega
/-- the class's run so far -/
def rnC (b : Nat → Nat) (s i : Nat) (ta : Obj) (a : Int32 × Int32 × Obj) : Prop := a.1 = nI (LLr b s i).length ∧ a.2.1 = nI (DLr b s i).length ∧ taF ta a.2.2 ∧ a.2.2.1 0 9 = nI (s + i) ∧ a.2.2.2 0 6 = lN (e5 0 (LLr b s i)) ∧ a.2.2.1 0 5 = nI (dvf 0 (DLr b s i)) ∧ a.2.2.1 0 10 = ta.1 0 10
/-- .. and the reference's -/
def rnM (b : Nat → Nat) (s i : Nat) (m : Obj) (a : Int32 × Obj) : Prop := a.1 = nI (bn (allS b s i)) ∧ moF m a.2 ∧ a.2.1 0 4 = nI (s + i) ∧ a.2.1 0 13 = nI i ∧ (isL (b s) = true → allS b s i = true → i ≤ 8 → a.2.2 0 17 = lN (e8 0 (LLr b s i))) ∧ (isL (b s) = false → allS b s i = true → i ≤ 3 → a.2.1 0 14 = nI (dvf 0 (DLr b s i))) ∧ a.2.1 0 12 = m.1 0 12
theorem rn_c (h : rdB z lim b ta m) {a : Int32 × Int32 × Obj} (hi : s + i < z) (ha : rnC b s i ta a) (hc : isL (b (s + i)) = true ∨ isD (b (s + i)) = true) : ∃ a', fTa_takeRun_L14 a = some (.inl a') ∧ rnC b s (i + 1) ta a' := by
  obtain ⟨a1, a2, x⟩ := a
  obtain ⟨h1, h2, h3, h4, h5, h6, h7⟩ := ha
  simp only at h1 h2 h3 h4 h5 h6 h7
  subst h1 h2
  obtain ⟨c1, c2, c3, c4, c5, c6, c7, c8⟩ := rdB_f h h3 (moF_refl m)
  obtain ⟨k1, k2, k3⟩ := c7 (s + i) hi
  have e1 : LLr b s (i + 1) = if isL (b (s + i)) then LLr b s i ++ [b (s + i) - 96] else LLr b s i := rfl
  have e2 : DLr b s (i + 1) = if isD (b (s + i)) then DLr b s i ++ [b (s + i) - 48] else DLr b s i := rfl
  obtain ⟨t1, t2⟩ := tb_b (b (s + i)) k3
  have q1 : ¬ nI z ≤ nI (s + i) := by rw [nle (by omega) (by omega)]; omega
  have q2 : ¬ nI 940 ≤ nI (s + i) := by rw [nle (by omega) (by omega)]; omega
  unfold fTa_takeRun_L14
  simp only [lit]
  rw [c3, h4, if_neg q1, if_neg q2, ix_nI (by omega) (by omega), Option.bind_some]
  simp only [bnd]
  rw [k1]
  rcases hc with hl | hd
  · have hL := isL_t hl
    have n1 : ¬ i2b (nI (b (s + i))) < nI 97 := fun w => by
      have := t1.mp (Or.inl w); rw [hl] at this; cases this
    have n2 : ¬ nI 122 < i2b (nI (b (s + i))) := fun w => by
      have := t1.mp (Or.inr w); rw [hl] at this; cases this
    rw [if_neg n1, if_neg n2, tb_c _ (by omega), nsub (by omega), h5]
    have w1 : lshl (lN (e5 0 (LLr b s i))) (nI 5) ||| i2l (nI (b (s + i) - 96)) = lN (e5 0 (LLr b s i ++ [b (s + i) - 96])) := by
      have : i2l (nI (b (s + i) - 96)) = lN (b (s + i) - 96) := nI_l (by omega)
      rw [this, show lshl (lN (e5 0 (LLr b s i))) (nI 5) = lN (e5 0 (LLr b s i) * 32) from lshl5 _, lor_n, or5 (by omega), e5_app]
    rw [w1]
    refine ⟨_, rfl, ?_, ?_, taF_trans h3 (taF_trans taF_sL (taF_sI (by omega))), ?_, ?_, ?_, h7⟩
    · show nI (LLr b s i).length + nI 1 = _
      rw [nadd, e1, hl, if_pos rfl, List.length_append]; rfl
    · show nI (DLr b s i).length = _
      rw [e2, LD_x hl, if_neg (by decide)]
    · show (sI _ 0 9 _).1 0 9 = _
      rw [sI_1, if_pos ⟨rfl, rfl⟩]
      show x.1 0 9 + nI 1 = _
      rw [h4, nadd]; rfl
    · rw [e1, hl, if_pos rfl]
      show (sL x 0 6 (lN (e5 0 (LLr b s i ++ [b (s + i) - 96])))).2 0 6 = _
      rw [sL_2, if_pos ⟨rfl, rfl⟩]
    · show x.1 0 5 = _
      rw [h6, e2, LD_x hl, if_neg (by decide)]
  · have hD := isD_t hd
    have hl : isL (b (s + i)) = false := by
      cases hc : isL (b (s + i))
      · rfl
      · rw [LD_x hc] at hd; cases hd
    have d1 : ¬ i2b (nI (b (s + i))) < nI 48 := fun w => by
      have := t2.mp (Or.inl w); rw [hd] at this; cases this
    have d2 : ¬ nI 57 < i2b (nI (b (s + i))) := fun w => by
      have := t2.mp (Or.inr w); rw [hd] at this; cases this
    have lJ : fTa_takeRun_J79 x (nI (LLr b s i).length) (nI (DLr b s i).length) (i2b (nI (b (s + i)))) = some (.inl (nI (LLr b s i).length, nI ((DLr b s i).length + 1), sI (sI x 0 5 (nI (dvf 0 (DLr b s i ++ [b (s + i) - 48])))) 0 9 (nI (s + i + 1)))) := by
      have e9 : ∀ v, (sI x 0 5 v).1 0 9 = nI (s + i) := fun v => h4
      unfold fTa_takeRun_J79
      simp only [lit]
      rw [if_neg d1, if_neg d2, tb_c _ (by omega), h6]
      simp only [bnd]
      rw [e9, nmul, nadd, nadd, nadd, nsub (by omega), dvf_app, show dvf 0 (DLr b s i) * 10 + b (s + i) - 48 = 10 * dvf 0 (DLr b s i) + (b (s + i) - 48) by omega]
    have hor := t1.mpr hl
    have lR : (if i2b (nI (b (s + i))) < nI 97 then fTa_takeRun_J79 x (nI (LLr b s i).length) (nI (DLr b s i).length) (i2b (nI (b (s + i)))) else if nI 122 < i2b (nI (b (s + i))) then fTa_takeRun_J79 x (nI (LLr b s i).length) (nI (DLr b s i).length) (i2b (nI (b (s + i)))) else some (.inl (nI (LLr b s i).length + nI 1, nI (DLr b s i).length, sI (sL x 0 6 (lshl (x.2 0 6) (nI 5) ||| i2l (i2b (nI (b (s + i))) - nI 96))) 0 9 ((sL x 0 6 (lshl (x.2 0 6) (nI 5) ||| i2l (i2b (nI (b (s + i))) - nI 96))).1 0 9 + nI 1)))) = fTa_takeRun_J79 x (nI (LLr b s i).length) (nI (DLr b s i).length) (i2b (nI (b (s + i)))) := by
      rcases hor with w | w
      · rw [if_pos w]
      · by_cases w2 : i2b (nI (b (s + i))) < nI 97
        · rw [if_pos w2]
        · rw [if_neg w2, if_pos w]
    rw [lR, lJ]
    refine ⟨_, rfl, ?_, ?_, taF_trans h3 (taF_trans (taF_sI (by omega)) (taF_sI (by omega))), ?_, ?_, ?_, h7⟩
    · show nI (LLr b s i).length = _
      rw [e1, hl, if_neg (by decide)]
    · show nI ((DLr b s i).length + 1) = _
      rw [e2, hd, if_pos rfl, List.length_append]; rfl
    · show (sI _ 0 9 _).1 0 9 = _
      rw [sI_1, if_pos ⟨rfl, rfl⟩]; rfl
    · show x.2 0 6 = _
      rw [h5, e1, hl, if_neg (by decide)]
    · rw [e2, hd, if_pos rfl]
      show (sI x 0 5 (nI (dvf 0 (DLr b s i ++ [b (s + i) - 48])))).1 0 5 = _
      rw [sI_1, if_pos ⟨rfl, rfl⟩]
end
