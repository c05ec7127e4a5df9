/-! what an act or a tick leaves alone in the reference -/
def mFr (m m' : Obj) : Prop := m'.2 = m.2 ∧ ∀ j i, m'.1 j i = m.1 j i ∨ (j = 2 ∧ 69 ≤ i ∧ i < 161)
theorem mFr_refl (m : Obj) : mFr m m := ⟨rfl, fun _ _ => Or.inl rfl⟩
theorem mFr_trans {a b c : Obj} (h1 : mFr a b) (h2 : mFr b c) : mFr a c := by
  refine ⟨h2.1.trans h1.1, fun j i => ?_⟩
  rcases h2.2 j i with h | h
  · rcases h1.2 j i with g | g
    · exact Or.inl (h.trans g)
    · exact Or.inr g
  · exact Or.inr h
theorem mFr_sI {m : Obj} {i : Nat} {v : Int32} (h1 : 69 ≤ i) (h2 : i < 161) : mFr m (sI m 2 i v) := by
  refine ⟨rfl, fun j i' => ?_⟩
  rw [sI_1]
  by_cases hc : j = 2 ∧ i' = i
  · exact Or.inr ⟨hc.1, by omega, by omega⟩
  · rw [if_neg hc]; exact Or.inl rfl
theorem mFr_2 {m m' : Obj} (h : mFr m m') {i : Nat} (hi : i < 69 ∨ 161 ≤ i) : m'.1 2 i = m.1 2 i := by
  rcases h.2 2 i with g | ⟨-, g1, g2⟩
  · exact g
  · omega
theorem mFr_1 {m m' : Obj} (h : mFr m m') {j i : Nat} (hj : j ≠ 2) : m'.1 j i = m.1 j i := by
  rcases h.2 j i with g | ⟨g, -⟩
  · exact g
  · exact absurd g hj
section
variable {n h L e t : Nat} {hp hm : Nat → Nat} {sr : Nat → Bool} {q m m' sc : Obj} {S S' : Nat → Nat → Nat}
theorem sQM_fr (hB : sQB n h L e t hp hm) (hM : sQM n h L e t hp hm sr (m.1 2)) (hf : mFr m m') : sQM n h L e t hp hm sr (m'.1 2) := by
  obtain ⟨b1, b2, -⟩ := hB
  obtain ⟨⟨c0, c1, c2, c3, c4⟩, c5, c6, c7⟩ := hM
  refine ⟨⟨?_, ?_, ?_, ?_, ?_⟩, fun k hk => ?_, fun p hpn => ?_, ?_⟩
  · rw [mFr_2 hf (by omega)]; exact c0
  · rw [mFr_2 hf (by omega)]; exact c1
  · rw [mFr_2 hf (by omega)]; exact c2
  · rw [mFr_2 hf (by omega)]; exact c3
  · rw [mFr_2 hf (by omega)]; exact c4
  · rw [mFr_2 hf (by omega)]; exact c5 k hk
  · rw [mFr_2 hf (by omega)]; exact c6 p hpn
  · rw [mFr_2 hf (by omega)]; exact c7
theorem up_eq {c c' : Prop} [Decidable c] [Decidable c'] {v a : Int32} {w b : Nat} (hc : c ↔ c') (h1 : v = nI w) (h2 : a = nI b) : (if c then v else a) = nI (if c' then w else b) := by
  by_cases hh : c
  · rw [if_pos hh, if_pos (hc.mp hh)]; exact h1
  · rw [if_neg hh, if_neg (fun z => hh (hc.mpr z))]; exact h2
theorem up_eq1 {c c' : Prop} [Decidable c] [Decidable c'] {v a : Int32} {w b : Nat} (hc : c ↔ c') (h1 : v = nI w - nI 1) (h2 : a = nI b - nI 1) : (if c then v else a) = nI (if c' then w else b) - nI 1 := by
  by_cases hh : c
  · rw [if_pos hh, if_pos (hc.mp hh)]; exact h1
  · rw [if_neg hh, if_neg (fun z => hh (hc.mpr z))]; exact h2
/-- one number of a person, in the class -/
theorem sSC_up (hS : sSC n S sc) {j p v : Nat} (hj : 3 ≤ j) (h6 : j ≠ 6) : sSC n (u2 S j p v) (sI sc j p (nI v)) := by
  obtain ⟨⟨s1, s2, s3⟩, s4, s5⟩ := hS
  have e0 : ∀ i, u2 S j p v 0 i = S 0 i := fun i => by rw [u2_at, if_neg (by omega)]
  have f0 : ∀ j' i, j' < 3 → (sI sc j p (nI v)).1 j' i = sc.1 j' i := fun j' i hj' => by rw [sI_1, if_neg (by omega)]
  refine ⟨⟨?_, ?_, ?_⟩, fun k hk => ?_, fun r hr => ?_⟩
  · rw [f0 0 1 (by omega), e0]; exact s1
  · rw [f0 0 2 (by omega), e0]; exact s2
  · rw [f0 0 3 (by omega), e0]; exact s3
  · rw [e0] at hk
    rw [f0 1 k (by omega), f0 2 k (by omega), u2_at, if_neg (by omega), u2_at, if_neg (by omega)]
    exact s4 k hk
  · obtain ⟨r3, r4, r5, r6, r7, r8, r9, r10⟩ := s5 r hr
    simp only [sI_1, u2_at]
    refine ⟨up_eq Iff.rfl rfl r3, up_eq Iff.rfl rfl r4, up_eq Iff.rfl rfl r5, ?_, up_eq Iff.rfl rfl r7, up_eq Iff.rfl rfl r8, up_eq Iff.rfl rfl r9, up_eq Iff.rfl rfl r10⟩
    rw [if_neg (by omega), if_neg (by omega)]
    exact r6
theorem sSC_up6 (hS : sSC n S sc) {p v : Nat} : sSC n (u2 S 6 p v) (sI sc 6 p (nI v - nI 1)) := by
  obtain ⟨⟨s1, s2, s3⟩, s4, s5⟩ := hS
  have e0 : ∀ i, u2 S 6 p v 0 i = S 0 i := fun i => by rw [u2_at, if_neg (by omega)]
  have f0 : ∀ j' i, j' < 3 → (sI sc 6 p (nI v - nI 1)).1 j' i = sc.1 j' i := fun j' i hj' => by rw [sI_1, if_neg (by omega)]
  refine ⟨⟨?_, ?_, ?_⟩, fun k hk => ?_, fun r hr => ?_⟩
  · rw [f0 0 1 (by omega), e0]; exact s1
  · rw [f0 0 2 (by omega), e0]; exact s2
  · rw [f0 0 3 (by omega), e0]; exact s3
  · rw [e0] at hk
    rw [f0 1 k (by omega), f0 2 k (by omega), u2_at, if_neg (by omega), u2_at, if_neg (by omega)]
    exact s4 k hk
  · obtain ⟨r3, r4, r5, r6, r7, r8, r9, r10⟩ := s5 r hr
    simp only [sI_1, u2_at]
    refine ⟨?_, ?_, ?_, up_eq1 Iff.rfl rfl r6, ?_, ?_, ?_, ?_⟩ <;>
      rw [if_neg (by omega), if_neg (by omega)] <;> assumption
/-- .. and in the reference -/
theorem sSM_up (hn : n ≤ 8) (hS : sSM n S (dOf m)) (hc : S 0 3 ≤ 12) {j p v : Nat} (hj : 3 ≤ j) (hj2 : j ≤ 9) (hp8 : p < 8) : sSM n (u2 S j p v) (dOf (sI m 2 (49 + 8 * j + p) (nI v))) := by
  obtain ⟨⟨s1, s2, s3, s3'⟩, s4, s5⟩ := hS
  have e0 : ∀ i, u2 S j p v 0 i = S 0 i := fun i => by rw [u2_at, if_neg (by omega)]
  have e10 : u2 S j p v 10 = S 10 := va_up_ne _ _ (by omega)
  have f0 : ∀ i, (69 + i = 49 + 8 * j + p → False) → dOf (sI m 2 (49 + 8 * j + p) (nI v)) i = dOf m i := fun i hi => by
    show (sI m 2 (49 + 8 * j + p) (nI v)).1 2 (69 + i) = _
    rw [sI_1, if_neg (fun z => hi z.2)]
  refine ⟨⟨?_, ?_, ?_, ?_⟩, fun k hk => ?_, fun r hr => ?_⟩
  · rw [f0 0 (by omega), e0]; exact s1
  · rw [f0 1 (by omega), e10]; exact s2
  · rw [f0 2 (by omega), e0]; exact s3
  · rw [f0 3 (by omega), e0]; exact s3'
  · rw [e0] at hk
    rw [f0 (68 + k) (by omega), f0 (80 + k) (by omega), u2_at, if_neg (by omega), u2_at, if_neg (by omega)]
    exact s4 k hk
  · obtain ⟨r3, r4, r5, r6, r7, r8, r9, r10⟩ := s5 r hr
    simp only [dOf, sI_1, u2_at, true_and]
    refine ⟨up_eq ?_ rfl r3, up_eq ?_ rfl r4, up_eq ?_ rfl r5, up_eq ?_ rfl r6, up_eq ?_ rfl r7, up_eq ?_ rfl r8, up_eq ?_ rfl r9, up_eq ?_ rfl r10⟩ <;> omega
/-- one person's numbers change, whom he knows not -/
theorem sSV_row (hV : sSV n h L hp S) {p : Nat} (e0 : S' 0 = S 0) (e1 : S' 1 = S 1) (e2 : S' 2 = S 2) (e8 : S' 8 = S 8) (er : ∀ r, r ≠ p → ∀ j, S' j r = S j r) (hrow : p < n → sRow n h L hp S' p) : sSV n h L hp S' := by
  obtain ⟨⟨v1, v2⟩, v3, v4, v5⟩ := hV
  refine ⟨⟨by rw [e0]; exact v1, by rw [e0]; exact v2⟩, ?_, fun r hr => ?_, ?_⟩
  · rw [e0, e1, e2]; exact v3
  · by_cases hrp : r = p
    · subst hrp; exact hrow hr
    · have hw := v4 r hr
      unfold sRow at hw ⊢
      rw [e0]
      simp only [er r hrp]
      exact hw
  · rw [e8]; exact v5
end
