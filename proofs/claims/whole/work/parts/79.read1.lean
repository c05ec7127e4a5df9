/-- both stand at one token -/
def syn (z lim : Nat) (b : Nat → Nat) (k v : Nat) (l : List Nat) (pl p : Nat) (ta m : Obj) : Prop := rdB z lim b ta m ∧ tkR k v l pl ta m ∧ p ≤ z ∧ (k ≠ 5 → ta.1 0 9 = nI p ∧ m.1 0 4 = nI p)
/-- the class stands one token behind -/
def lag (z lim : Nat) (b : Nat → Nat) (p0 : Nat) (ta m : Obj) : Prop := ∃ ta1 k v l pl p, fTa_take ta = some ta1 ∧ taF ta ta1 ∧ syn z lim b k v l pl p ta1 m ∧ (k ≠ 0 → k ≠ 5 → p0 < p) ∧ p0 ≤ z
/-- both refuse, for one reason, at one place -/
def fai (ta m : Obj) : Prop := ta.1 0 2 = m.1 0 15 ∧ ta.1 0 3 = m.1 0 16
/-- .. and nothing of a token, of reading, lies in what else the reference keeps -/
def moH (m m' : Obj) : Prop := m'.1 1 = m.1 1 ∧ (∀ i, 3 ≤ i → i ≤ 17 → m'.1 0 i = m.1 0 i) ∧ m'.2 0 = m.2 0 ∧ m'.2 6 = m.2 6
section
variable {z lim : Nat} {b : Nat → Nat} {ta m ta' m' x y q : Obj} {k v pl p p0 : Nat} {l : List Nat}
theorem syn_H (h : syn z lim b k v l pl p ta m) (hm : moH m m') : syn z lim b k v l pl p ta m' := by
  obtain ⟨⟨a1, a2, a3, a4, a5, a6, a7, a8⟩, ⟨t1, t2, t3, t4, t5⟩, h3, h4⟩ := h
  obtain ⟨e1, e0, e2, e6⟩ := hm
  refine ⟨⟨a1, a2, a3, ?_, a5, ?_, fun i hi => ?_, ?_⟩, ⟨t1, t2, ?_, t4, ?_⟩, h3, fun hk => ?_⟩
  · rw [e0 3 (by omega) (by omega)]; exact a4
  · rw [e0 5 (by omega) (by omega)]; exact a6
  · rw [e1]; exact a7 i hi
  · rw [e6]; exact a8
  · rw [e0 12 (by omega) (by omega)]; exact t3
  · rw [e0 11 (by omega) (by omega), e0 14 (by omega) (by omega), e2]; exact t5
  · rw [e0 4 (by omega) (by omega)]; exact h4 hk
theorem lag_H (h : lag z lim b p0 ta m) (hm : moH m m') : lag z lim b p0 ta m' := by
  obtain ⟨ta1, k, v, l, pl, p, h1, h1', h2, h3, h4⟩ := h
  exact ⟨ta1, k, v, l, pl, p, h1, h1', syn_H h2 hm, h3, h4⟩
/-- a good token read: the reference goes on -/
theorem syn_lag (h : syn z lim b k v l pl p ta m) (hk : k ≠ 5) : ∃ m', fMo_next m = some m' ∧ moF m m' ∧ lag z lim b p ta m' := by
  obtain ⟨h1, h2, h3, h4⟩ := h
  obtain ⟨h5, h6⟩ := h4 hk
  obtain ⟨k', v', l', pl', p', ta', m', g1, g2, g3, g4, g5, g6, g7, g8⟩ := take_both h1 h3 h5 h6
  exact ⟨m', g2, g4, ta', k', v', l', pl', p', g1, g3, ⟨rdB_f h1 g3 g4, g5, g6, g7⟩, g8, h3⟩
theorem syn_syn (h : syn z lim b k v l pl p ta m) (hk : k ≠ 5) : ∃ k' v' l' pl' p' ta' m', fTa_take ta = some ta' ∧ fMo_next m = some m' ∧ taF ta ta' ∧ moF m m' ∧ syn z lim b k' v' l' pl' p' ta' m' ∧ (k' ≠ 0 → k' ≠ 5 → p < p') := by
  obtain ⟨h1, h2, h3, h4⟩ := h
  obtain ⟨h5, h6⟩ := h4 hk
  obtain ⟨k', v', l', pl', p', ta', m', g1, g2, g3, g4, g5, g6, g7, g8⟩ := take_both h1 h3 h5 h6
  exact ⟨k', v', l', pl', p', ta', m', g1, g2, g3, g4, ⟨rdB_f h1 g3 g4, g5, g6, g7⟩, g8⟩
theorem bad_both (h : syn z lim b k v l pl p ta m) (f : Int32) : ∃ ta' m', fTa_refuse ta f = some (-nI 1, ta') ∧ fMo_bad m f = some (nI 0, m') ∧ fai ta' m' ∧ ta'.1 0 2 = f ∧ (∀ j, j ≠ 0 → ta'.1 j = ta.1 j) ∧ ta'.2 = ta.2 ∧ (∀ i, i ≠ 2 → i ≠ 3 → ta'.1 0 i = ta.1 0 i) ∧ (∀ j, j ≠ 0 → m'.1 j = m.1 j) ∧ m'.2 = m.2 ∧ (∀ i, i ≠ 15 → i ≠ 16 → m'.1 0 i = m.1 0 i) := by
  obtain ⟨-, ⟨t1, t2, t3, -⟩, -⟩ := h
  refine ⟨sI (sI ta 0 2 f) 0 3 (ta.1 0 10), sI (sI m 0 15 f) 0 16 (m.1 0 12), rfl, rfl, ⟨rfl, ?_⟩, rfl, fun j hj => ?_, rfl, fun i h1 h2 => ?_, fun j hj => ?_, rfl, fun i h1 h2 => ?_⟩
  · show ta.1 0 10 = m.1 0 12
    rw [t2, t3]
  · show va_up (va_up ta.1 0 _) 0 _ j = _
    rw [va_up_ne _ _ hj, va_up_ne _ _ hj]
  · rw [sI_1, if_neg (by omega), sI_1, if_neg (by omega)]
  · show va_up (va_up m.1 0 _) 0 _ j = _
    rw [va_up_ne _ _ hj, va_up_ne _ _ hj]
  · rw [sI_1, if_neg (by omega), sI_1, if_neg (by omega)]
end
/-- what a refusal leaves of the reference -/
def moB (m m' : Obj) : Prop := (∀ j, j ≠ 0 → m'.1 j = m.1 j) ∧ (∀ j, j ≠ 0 → m'.2 j = m.2 j) ∧ ∀ i, i ≠ 4 → i < 11 ∨ 16 < i → i ≠ 18 → m'.1 0 i = m.1 0 i
/-- .. of the class's tape -/
def taB (ta ta' : Obj) : Prop := (∀ j, j ≠ 0 → ta'.1 j = ta.1 j) ∧ (∀ j, j ≠ 0 → ta'.2 j = ta.2 j) ∧ ∀ i, i ≠ 2 → i ≠ 3 → i ≠ 4 → i ≠ 5 → i ≠ 9 → i ≠ 10 → ta'.1 0 i = ta.1 0 i
theorem moB_F {m m' : Obj} (h : moF m m') : moB m m' := ⟨h.1, h.2.2, fun i a b _ => h.2.1 i a (by omega)⟩
theorem taB_F {m m' : Obj} (h : taF m m') : taB m m' := ⟨h.1, h.2.2, fun i _ _ a b c d => h.2.1 i a b c d⟩
theorem moB_refl (m : Obj) : moB m m := ⟨fun _ _ => rfl, fun _ _ => rfl, fun _ _ _ _ => rfl⟩
theorem taB_refl (m : Obj) : taB m m := ⟨fun _ _ => rfl, fun _ _ => rfl, fun _ _ _ _ _ _ _ => rfl⟩
theorem moB_trans {a b c : Obj} (h1 : moB a b) (h2 : moB b c) : moB a c := ⟨fun j x => (h2.1 j x).trans (h1.1 j x), fun j x => (h2.2.1 j x).trans (h1.2.1 j x), fun i x y w => (h2.2.2 i x y w).trans (h1.2.2 i x y w)⟩
theorem taB_trans {a b c : Obj} (h1 : taB a b) (h2 : taB b c) : taB a c := ⟨fun j x => (h2.1 j x).trans (h1.1 j x), fun j x => (h2.2.1 j x).trans (h1.2.1 j x), fun i x y w u s t => (h2.2.2 i x y w u s t).trans (h1.2.2 i x y w u s t)⟩
section
variable {z lim : Nat} {b : Nat → Nat} {ta m ta' m' x y q : Obj} {k v pl p p0 : Nat} {l : List Nat}
theorem bad2 (h : syn z lim b k v l pl p ta m) (f : Int32) : ∃ ta' m', fTa_refuse ta f = some (-nI 1, ta') ∧ fMo_bad m f = some (nI 0, m') ∧ fai ta' m' ∧ taB ta ta' ∧ moB m m' := by
  obtain ⟨ta', m', g1, g2, g3, g4, g5, g6, g7, g8, g9, g10⟩ := bad_both h f
  exact ⟨ta', m', g1, g2, g3, ⟨g5, fun j _ => by rw [g6], fun i a b _ _ _ _ => g7 i a b⟩, g8, fun j _ => by rw [g9], fun i _ a _ => g10 i (by omega) (by omega)⟩
/-- a number is wanted -/
theorem num_both {lo hi : Nat} (hlo : lo < 2000) (hhi : hi < 2000) (h : lag z lim b p0 ta m) : (∃ v ta' m' p, fTa_takeNumber ta (nI lo) (nI hi) = some (nI v, ta') ∧ fMo_takes m (nI lo) (nI hi) = some (nI 1, m') ∧ lo ≤ v ∧ v ≤ hi ∧ m'.1 0 18 = nI v ∧ lag z lim b p ta' m' ∧ p0 < p ∧ taB ta ta' ∧ moB m m' ∧ ta'.1 0 2 = ta.1 0 2 ∧ m'.1 0 15 = m.1 0 15) ∨ (∃ ta' m', fTa_takeNumber ta (nI lo) (nI hi) = some (-nI 1, ta') ∧ fMo_takes m (nI lo) (nI hi) = some (nI 0, m') ∧ fai ta' m' ∧ taB ta ta' ∧ moB m m') := by
  obtain ⟨ta1, k, v, l, pl, p, h1, h1', h2, h3, -⟩ := h
  obtain ⟨-, ⟨t1, t2, t3, t4, t5⟩, -⟩ := id h2
  have no3 : ∀ k', k' < 6 → k' ≠ 3 → ¬ nI k' = nI 3 := fun k' a b => by rw [neq (by omega) (by omega)]; exact b
  have badC : ∀ f, k ≠ 3 → fTa_refuse ta1 (nI 1) = f → fTa_takeNumber ta (nI lo) (nI hi) = f.bind fun r3 => some (r3.1, r3.2) := fun f hk hf => by
    unfold fTa_takeNumber
    simp only [lit]
    rw [h1, Option.bind_some, t1, if_neg (no3 k (by omega) hk), hf]
  by_cases hk : k = 3
  · subst hk
    obtain ⟨q0, q1, q2, q3, q4⟩ : (3 = 3 ∧ v ≤ 999 ∧ ta1.1 0 5 = nI v ∧ m.1 0 11 = nI 2 ∧ m.1 0 14 = nI v) := by
      rcases t5 with t | t | t | t | t | t
      · exact absurd t.1 (by decide)
      · exact absurd t.1 (by decide)
      · exact absurd t.1 (by decide)
      · exact t
      · exact absurd t.1 (by decide)
      · exact absurd t.1 (by decide)
    by_cases hin : lo ≤ v ∧ v ≤ hi
    · left
      have hsyn : syn z lim b 3 v l pl p ta1 (sI m 0 18 (nI v)) := h2
      obtain ⟨m', g1, g2, g3⟩ := syn_lag hsyn (by decide)
      refine ⟨v, ta1, m', p, ?_, ?_, hin.1, hin.2, ?_, g3, h3 (by decide) (by decide), taB_F h1', ?_, ?_, ?_⟩
      · unfold fTa_takeNumber
        simp only [lit]
        rw [h1, Option.bind_some, t1, if_pos rfl, q2, if_neg (by rw [nlt (by omega) (by omega)]; omega), if_pos (by rw [nle (by omega) (by omega)]; omega)]
      · unfold fMo_takes
        simp only [lit, bnd]
        rw [q3, if_pos rfl, q4, isIn_yes (by rw [nlt (by omega) (by omega)]; omega) (by rw [nle (by omega) (by omega)]; omega), Option.bind_some, if_neg (by decide +kernel), g1]
        rfl
      · rw [g2.2.1 18 (by omega) (by omega), sI_1, if_pos ⟨rfl, rfl⟩]
      · refine moB_trans ?_ (moB_F g2)
        exact ⟨fun j hj => va_up_ne _ _ hj, fun _ _ => rfl, fun i _ _ c => by rw [sI_1, if_neg (by omega)]⟩
      · exact h1'.2.1 2 (by omega) (by omega) (by omega) (by omega)
      · rw [g2.2.1 15 (by omega) (by omega)]; rfl
    · right
      obtain ⟨ta', m', g1, g2, g3, g4, g5⟩ := bad2 h2 (nI 2)
      have lJ : fTa_takeNumber_J34 ta1 = some (-nI 1, ta') := by
        unfold fTa_takeNumber_J34
        simp only [lit]
        rw [g1]; rfl
      refine ⟨ta', m', ?_, ?_, g3, taB_trans (taB_F h1') g4, g5⟩
      · unfold fTa_takeNumber
        simp only [lit]
        rw [h1, Option.bind_some, t1, if_pos rfl, q2, lJ]
        by_cases hl : v < lo
        · rw [if_pos (by rw [nlt (by omega) (by omega)]; exact hl)]
        · rw [if_neg (by rw [nlt (by omega) (by omega)]; exact hl), if_neg (by rw [nle (by omega) (by omega)]; omega)]
      · unfold fMo_takes
        simp only [lit, bnd]
        have hno : nI v < nI lo ∨ ¬ nI v ≤ nI hi := by
          by_cases hl : v < lo
          · left; rw [nlt (by omega) (by omega)]; exact hl
          · right; rw [nle (by omega) (by omega)]; omega
        rw [q3, if_pos rfl, q4, isIn_no hno, Option.bind_some, if_pos rfl, g2]
        simp only [Option.bind_some, bz_0]
  · right
    obtain ⟨ta', m', g1, g2, g3, g4, g5⟩ := bad2 h2 (nI 1)
    refine ⟨ta', m', ?_, ?_, g3, taB_trans (taB_F h1') g4, g5⟩
    · rw [badC _ hk g1]; rfl
    · have h11 : ¬ m.1 0 11 = nI 2 := by
        rcases t5 with t | t | t | t | t | t
        · rw [t.2]; decide +kernel
        · rw [t.2.2.2.1]; decide +kernel
        · rw [t.2.2.2.2.2.1]; decide +kernel
        · exact absurd t.1 hk
        · rw [t.2.2.2.2.1]; decide +kernel
        · rw [t.2]; decide +kernel
      unfold fMo_takes
      simp only [lit]
      rw [if_neg h11, g2]
      simp only [Option.bind_some, bz_0]
end
