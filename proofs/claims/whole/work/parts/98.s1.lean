/-- what reading a SENTENCE leaves of the reference -/
def mvS (m m' : Obj) : Prop := (∀ j, j ≠ 0 → j ≠ 4 → j ≠ 14 → m'.1 j = m.1 j) ∧ (∀ j, j ≠ 0 → m'.2 j = m.2 j) ∧ ∀ i, i ≠ 4 → i < 11 ∨ 16 < i → i ≠ 18 → i < 39 ∨ 43 < i → m'.1 0 i = m.1 0 i
/-- .. and what its own steps leave, tokens aside -/
def mvT (m m' : Obj) : Prop := (∀ j, j ≠ 0 → j ≠ 4 → j ≠ 14 → m'.1 j = m.1 j) ∧ m'.2 = m.2 ∧ ∀ i, i < 39 ∨ 43 < i → m'.1 0 i = m.1 0 i
theorem mvS_refl (m : Obj) : mvS m m := ⟨fun _ _ _ _ => rfl, fun _ _ => rfl, fun _ _ _ _ _ => rfl⟩
theorem mvS_trans {a b c : Obj} (h1 : mvS a b) (h2 : mvS b c) : mvS a c := ⟨fun j x y w => (h2.1 j x y w).trans (h1.1 j x y w), fun j x => (h2.2.1 j x).trans (h1.2.1 j x), fun i x y w u => (h2.2.2 i x y w u).trans (h1.2.2 i x y w u)⟩
theorem mvS_B {m m' : Obj} (h : moB m m') : mvS m m' := ⟨fun j x _ _ => h.1 j x, h.2.1, fun i x y w _ => h.2.2 i x y w⟩
theorem mvS_F {m m' : Obj} (h : moF m m') : mvS m m' := mvS_B (moB_F h)
theorem mvS_T {m m' : Obj} (h : mvT m m') : mvS m m' := ⟨h.1, fun j _ => by rw [h.2.1], fun i _ _ _ u => h.2.2 i u⟩
theorem mvS_18 {m : Obj} {v : Int32} : mvS m (sI m 0 18 v) := mvS_B moB_18
theorem mvT_refl (m : Obj) : mvT m m := ⟨fun _ _ _ _ => rfl, rfl, fun _ _ => rfl⟩
theorem mvT_trans {a b c : Obj} (h1 : mvT a b) (h2 : mvT b c) : mvT a c := ⟨fun j x y w => (h2.1 j x y w).trans (h1.1 j x y w), h2.2.1.trans h1.2.1, fun i x => (h2.2.2 i x).trans (h1.2.2 i x)⟩
theorem mvT_4 {m : Obj} {i : Nat} {v : Int32} : mvT m (sI m 4 i v) := ⟨fun j _ hj _ => va_up_ne _ _ hj, rfl, fun _ _ => rfl⟩
theorem mvT_14 {m : Obj} {i : Nat} {v : Int32} : mvT m (sI m 14 i v) := ⟨fun j _ _ hj => va_up_ne _ _ hj, rfl, fun _ _ => rfl⟩
theorem mvT_f {m : Obj} {i : Nat} {v : Int32} (h : 39 ≤ i ∧ i ≤ 43) : mvT m (sI m 0 i v) := ⟨fun j hj _ _ => va_up_ne _ _ hj, rfl, fun i' _ => by rw [sI_1, if_neg (by omega)]⟩
theorem moH_T {m m' : Obj} (h : mvT m m') : moH m m' := ⟨h.1 1 (by omega) (by omega) (by omega), fun i _ hi => h.2.2 i (by omega), by rw [h.2.1], by rw [h.2.1]⟩
/-- the reference's numbers while it reads a SENTENCE: codes, ones, its stack's height, its depth, whether an operand is whole -/
def sM (c o s d w : Nat) (m : Obj) : Prop := m.1 0 39 = nI c ∧ m.1 0 40 = nI o ∧ m.1 0 41 = nI s ∧ m.1 0 42 = nI d ∧ m.1 0 43 = nI w
def eM (c : Nat) (A B C : Nat → Nat) (m : Obj) : Prop := ∀ i, i < c → m.1 4 (3 * i) = nI (A i) ∧ m.1 4 (3 * i + 1) = nI (B i) ∧ m.1 4 (3 * i + 2) = nI (C i)
def tS (s : Nat) (T : Nat → Nat) (m : Obj) : Prop := ∀ i, i < s → m.1 14 i = nI (T i) ∧ T i < 100
theorem sM_F {c o s d w : Nat} {m m' : Obj} (h : sM c o s d w m) (hf : moF m m') : sM c o s d w m' := by
  obtain ⟨h1, h2, h3, h4, h5⟩ := h
  refine ⟨?_, ?_, ?_, ?_, ?_⟩
  · rw [hf.2.1 39 (by omega) (by omega)]; exact h1
  · rw [hf.2.1 40 (by omega) (by omega)]; exact h2
  · rw [hf.2.1 41 (by omega) (by omega)]; exact h3
  · rw [hf.2.1 42 (by omega) (by omega)]; exact h4
  · rw [hf.2.1 43 (by omega) (by omega)]; exact h5
theorem sM_B {c o s d w : Nat} {m m' : Obj} (h : sM c o s d w m) (hf : moB m m') : sM c o s d w m' := by
  obtain ⟨h1, h2, h3, h4, h5⟩ := h
  refine ⟨?_, ?_, ?_, ?_, ?_⟩
  · rw [hf.2.2 39 (by omega) (by omega) (by omega)]; exact h1
  · rw [hf.2.2 40 (by omega) (by omega) (by omega)]; exact h2
  · rw [hf.2.2 41 (by omega) (by omega) (by omega)]; exact h3
  · rw [hf.2.2 42 (by omega) (by omega) (by omega)]; exact h4
  · rw [hf.2.2 43 (by omega) (by omega) (by omega)]; exact h5
theorem eM_4 {c : Nat} {A B C : Nat → Nat} {m m' : Obj} (h : eM c A B C m) (h4 : m'.1 4 = m.1 4) : eM c A B C m' := fun i hi => by rw [h4]; exact h i hi
theorem tS_14 {s : Nat} {T : Nat → Nat} {m m' : Obj} (h : tS s T m) (h4 : m'.1 14 = m.1 14) : tS s T m' := fun i hi => by rw [h4]; exact h i hi
theorem eM_le {c c' : Nat} {A B C : Nat → Nat} {m : Obj} (h : eM c A B C m) (hc : c' ≤ c) : eM c' A B C m := fun i hi => h i (by omega)
theorem eM_congr {c : Nat} {A B C A' B' C' : Nat → Nat} {m : Obj} (h : eM c A B C m) (hA : ∀ i, i < c → A' i = A i ∧ B' i = B i ∧ C' i = C i) : eM c A' B' C' m := fun i hi => by
  obtain ⟨a, b, d⟩ := hA i hi
  rw [a, b, d]; exact h i hi
section
variable {z lim : Nat} {b : Nat → Nat} {ta ta1 m ta' m' m0 m1 m2 m3 m4 x y q sy sy' : Obj} {k v v0 pl p p0 p1 c o s d w j g : Nat} {l : List Nat} {n h L e t : Nat} {hp hm A B C T : Nat → Nat} {sr sr' : Nat → Bool}
theorem code_ok (hs : sM c o s d w m) (hc : c < 45) (he : eM c A B C m) : ∃ m', fMo_code m (nI (A c)) (nI (B c)) (nI (C c)) = some m' ∧ sM (c + 1) o s d w m' ∧ eM (c + 1) A B C m' ∧ m'.1 14 = m.1 14 ∧ mvT m m' := by
  obtain ⟨h1, h2, h3, h4, h5⟩ := hs
  have e1 : ∀ u, (sI m 4 (3 * c) u).1 0 39 = nI c := fun u => h1
  have e2 : ∀ u u', (sI (sI m 4 (3 * c) u) 4 (3 * c + 1) u').1 0 39 = nI c := fun u u' => h1
  have e3 : ∀ u u' u2, (sI (sI (sI m 4 (3 * c) u) 4 (3 * c + 1) u') 4 (3 * c + 2) u2).1 0 39 = nI c := fun u u' u2 => h1
  refine ⟨sI (sI (sI (sI m 4 (3 * c) (nI (A c))) 4 (3 * c + 1) (nI (B c))) 4 (3 * c + 2) (nI (C c))) 0 39 (nI (c + 1)), ?_, ⟨rfl, h2, h3, h4, h5⟩, fun i hi => ?_, rfl, mvT_trans mvT_4 (mvT_trans mvT_4 (mvT_trans mvT_4 (mvT_f (by omega))))⟩
  · unfold fMo_code
    simp only [lit, bnd]
    rw [h1, nmul, ix_nI (by omega) (by omega), Option.bind_some, e1, nmul, nadd, ix_nI (by omega) (by omega), Option.bind_some, e2, nmul, nadd, ix_nI (by omega) (by omega), Option.bind_some, e3, nadd]
  · have f0 : ∀ r u, (sI r 0 39 u).1 4 = r.1 4 := fun r u => rfl
    rw [f0]
    by_cases hic : i = c
    · subst hic
      rw [sI_1, if_neg (by omega), sI_1, if_neg (by omega), sI_1, if_pos ⟨rfl, rfl⟩, sI_1, if_neg (by omega), sI_1, if_pos ⟨rfl, rfl⟩, sI_1, if_pos ⟨rfl, rfl⟩]
      exact ⟨rfl, rfl, rfl⟩
    · rw [sI_1, if_neg (by omega), sI_1, if_neg (by omega), sI_1, if_neg (by omega), sI_1, if_neg (by omega), sI_1, if_neg (by omega), sI_1, if_neg (by omega), sI_1, if_neg (by omega), sI_1, if_neg (by omega), sI_1, if_neg (by omega)]
      exact he i (by omega)
/-- all nots on top are done -/
theorem nots_r (hT0 : s = 0 ∨ T (s - 1) ≠ 20) : ∀ (j c d : Nat) (m : Obj), sM c o (s + j) (d + j) w m → tS (s + j) T m → (∀ i, s ≤ i → i < s + j → T i = 20) → eM c A B C m → (∀ i, c ≤ i → i < c + j → A i = 20 ∧ B i = 0 ∧ C i = 0) → c + j ≤ 44 → s + j ≤ 44 → d + j ≤ 100 → ∀ f, j + 1 ≤ f → ∃ m', iter fMo_nots_L0 f m = some m' ∧ sM (c + j) o s d w m' ∧ eM (c + j) A B C m' ∧ m'.1 14 = m.1 14 ∧ mvT m m' := by
  intro j
  induction j with
  | zero =>
    intro c d m hs ht _ he _ hc hs' _ f hf
    obtain ⟨f, rfl⟩ : ∃ f', f = f' + 1 := ⟨f - 1, by omega⟩
    refine ⟨m, ?_, hs, he, rfl, mvT_refl m⟩
    have : fMo_nots_L0 m = some (.inr m) := by
      unfold fMo_nots_L0
      simp only [lit, bnd]
      rw [hs.2.2.1, Nat.add_zero]
      rcases hT0 with h0 | h0
      · rw [h0, if_pos (by decide +kernel)]
      · by_cases hs0 : s = 0
        · rw [hs0, if_pos (by decide +kernel)]
        · obtain ⟨t1, t2⟩ := ht (s - 1) (by omega)
          rw [if_neg (by rw [nle (by omega) (by omega)]; omega), nsub (by omega), ix_nI (by omega) (by omega), Option.bind_some, t1, if_neg (by rw [neq (by omega) (by omega)]; exact h0)]
    rw [iter_s, this]; rfl
  | succ j ih =>
    intro c d m hs ht hT he hA hc hs' hd f hf
    obtain ⟨f, rfl⟩ : ∃ f', f = f' + 1 := ⟨f - 1, by omega⟩
    obtain ⟨h1, h2, h3, h4, h5⟩ := id hs
    obtain ⟨t1, t2⟩ := ht (s + j) (by omega)
    rw [hT (s + j) (by omega) (by omega)] at t1
    obtain ⟨a1, a2, a3⟩ := hA c (by omega) (by omega)
    obtain ⟨m1, hm1⟩ : ∃ m1, m1 = sI (sI m 0 41 (nI (s + j))) 0 42 (nI (d + j)) := ⟨_, rfl⟩
    have hs1 : sM c o (s + j) (d + j) w m1 := by rw [hm1]; exact ⟨h1, h2, rfl, rfl, h5⟩
    have he1 : eM c A B C m1 := by rw [hm1]; exact he
    obtain ⟨m2, g1, g2, g3, g4, g5⟩ := code_ok hs1 (by omega) he1
    rw [a1, a2, a3] at g1
    have m114 : m1.1 14 = m.1 14 := by rw [hm1]; rfl
    have mT1 : mvT m m1 := by rw [hm1]; exact mvT_trans (mvT_f (by omega)) (mvT_f (by omega))
    have st : fMo_nots_L0 m = some (.inl m2) := by
      have e42 : ∀ u, (sI m 0 41 u).1 0 42 = nI (d + (j + 1)) := fun u => h4
      unfold fMo_nots_L0
      simp only [lit, bnd]
      rw [h3, if_neg (by rw [nle (by omega) (by omega)]; omega), nsub (by omega), show s + (j + 1) - 1 = s + j by omega, ix_nI (by omega) (by omega), Option.bind_some, t1, if_pos rfl, e42, nsub (by omega), show d + (j + 1) - 1 = d + j by omega, ← hm1, g1, Option.bind_some]
    obtain ⟨m3, k1, k2, k3, k4, k5⟩ := ih (c + 1) d m2 g2 (fun i hi => by rw [g4, m114]; exact ht i (by omega)) (fun i i1 i2 => hT i i1 (by omega)) g3 (fun i i1 i2 => hA i (by omega) (by omega)) (by omega) (by omega) (by omega) f (by omega)
    rw [show c + 1 + j = c + (j + 1) by omega] at k2 k3
    refine ⟨m3, ?_, k2, k3, by rw [k4, g4, m114], mvT_trans mT1 (mvT_trans g5 k5)⟩
    rw [iter_s, st]; exact k1
theorem nots_ok (hT0 : s = 0 ∨ T (s - 1) ≠ 20) (hs : sM c o (s + j) (d + j) w m) (ht : tS (s + j) T m) (hT : ∀ i, s ≤ i → i < s + j → T i = 20) (he : eM c A B C m) (hA : ∀ i, c ≤ i → i < c + j → A i = 20 ∧ B i = 0 ∧ C i = 0) (hc : c + j ≤ 44) (hs' : s + j ≤ 44) (hd : d + j ≤ 100) : ∃ m', fMo_nots m = some m' ∧ sM (c + j) o s d w m' ∧ eM (c + j) A B C m' ∧ m'.1 14 = m.1 14 ∧ mvT m m' := by
  obtain ⟨m', g1, g2⟩ := nots_r hT0 j c d m hs ht hT he hA hc hs' hd FU (Nat.le_trans (by omega) FU_ge)
  refine ⟨m', ?_, g2⟩
  unfold fMo_nots
  rw [g1]; rfl
/-- what binds as much or more is done -/
theorem joins_r {till : Nat} (htl : till = 21 ∨ till = 22) (hT0 : s = 0 ∨ (T (s - 1) ≠ 21 ∧ (T (s - 1) = 22 → till ≠ 22))) : ∀ (j c : Nat) (m : Obj), sM c o (s + j) d w m → tS (s + j) T m → (∀ i, s ≤ i → i < s + j → T i = 21 ∨ (T i = 22 ∧ till = 22)) → eM c A B C m → (∀ i, i < j → A (c + i) = T (s + j - 1 - i) ∧ B (c + i) = 0 ∧ C (c + i) = 0) → c + j ≤ 44 → s + j ≤ 44 → ∀ f, j + 1 ≤ f → ∃ m', iter (fMo_joins_L0 (nI till)) f m = some m' ∧ sM (c + j) o s d w m' ∧ eM (c + j) A B C m' ∧ m'.1 14 = m.1 14 ∧ mvT m m' := by
  intro j
  induction j with
  | zero =>
    intro c m hs ht _ he _ hc hs' f hf
    obtain ⟨f, rfl⟩ : ∃ f', f = f' + 1 := ⟨f - 1, by omega⟩
    refine ⟨m, ?_, hs, he, rfl, mvT_refl m⟩
    have : fMo_joins_L0 (nI till) m = some (.inr m) := by
      unfold fMo_joins_L0
      simp only [lit]
      rw [hs.2.2.1, Nat.add_zero]
      by_cases hs0 : s = 0
      · rw [hs0, if_pos (by decide +kernel)]
      · obtain ⟨h0, h1⟩ := hT0.resolve_left hs0
        obtain ⟨t1, t2⟩ := ht (s - 1) (by omega)
        rw [if_neg (by rw [nle (by omega) (by omega)]; omega), nsub (by omega), ix_nI (by omega) (by omega), Option.bind_some, Option.bind_some, t1, if_neg (by rw [neq (by omega) (by omega)]; exact h0)]
        by_cases h22 : T (s - 1) = 22
        · rw [if_pos (by rw [h22]), if_neg (by rw [neq (by omega) (by omega)]; exact h1 h22)]
        · rw [if_neg (by rw [neq (by omega) (by omega)]; exact h22)]
    rw [iter_s, this]; rfl
  | succ j ih =>
    intro c m hs ht hT he hA hc hs' f hf
    obtain ⟨f, rfl⟩ : ∃ f', f = f' + 1 := ⟨f - 1, by omega⟩
    obtain ⟨h1, h2, h3, h4, h5⟩ := id hs
    obtain ⟨t1, t2⟩ := ht (s + j) (by omega)
    obtain ⟨a1, a2, a3⟩ := hA 0 (by omega)
    rw [Nat.add_zero, show s + (j + 1) - 1 - 0 = s + j by omega] at a1
    rw [Nat.add_zero] at a2 a3
    obtain ⟨m1, hm1⟩ : ∃ m1, m1 = sI m 0 41 (nI (s + j)) := ⟨_, rfl⟩
    have hs1 : sM c o (s + j) d w m1 := by rw [hm1]; exact ⟨h1, h2, rfl, h4, h5⟩
    have he1 : eM c A B C m1 := by rw [hm1]; exact he
    obtain ⟨m2, g1, g2, g3, g4, g5⟩ := code_ok hs1 (by omega) he1
    rw [a2, a3] at g1
    have m114 : m1.1 14 = m.1 14 := by rw [hm1]; rfl
    have mT1 : mvT m m1 := by rw [hm1]; exact mvT_f (by omega)
    have lJ : fMo_joins_J45 m = some (.inl m2) := by
      have e14 : m1.1 14 (s + j) = nI (A c) := by rw [m114, t1, a1]
      unfold fMo_joins_J45
      simp only [lit, bnd]
      rw [h3, nsub (by omega), show s + (j + 1) - 1 = s + j by omega, ← hm1, hs1.2.2.1, ix_nI (by omega) (by omega), Option.bind_some, e14, g1, Option.bind_some]
    have st : fMo_joins_L0 (nI till) m = some (.inl m2) := by
      unfold fMo_joins_L0
      simp only [lit]
      rw [h3, if_neg (by rw [nle (by omega) (by omega)]; omega), nsub (by omega), show s + (j + 1) - 1 = s + j by omega, ix_nI (by omega) (by omega), Option.bind_some, Option.bind_some, t1]
      rcases hT (s + j) (by omega) (by omega) with u | ⟨u1, u2⟩
      · rw [if_pos (by rw [u]), lJ]
      · rw [if_neg (by rw [neq (by omega) (by omega)]; omega), if_pos (by rw [u1]), if_pos (by rw [u2]), lJ]
    obtain ⟨m3, k1, k2, k3, k4, k5⟩ := ih (c + 1) m2 g2 (fun i hi => by rw [g4, m114]; exact ht i (by omega)) (fun i i1 i2 => hT i i1 (by omega)) g3 (fun i hi => by
      have := hA (i + 1) (by omega)
      rw [show c + (i + 1) = c + 1 + i by omega, show s + (j + 1) - 1 - (i + 1) = s + j - 1 - i by omega] at this
      exact this) (by omega) (by omega) f (by omega)
    rw [show c + 1 + j = c + (j + 1) by omega] at k2 k3
    refine ⟨m3, ?_, k2, k3, by rw [k4, g4, m114], mvT_trans mT1 (mvT_trans g5 k5)⟩
    rw [iter_s, st]; exact k1
theorem joins_ok {till : Nat} (htl : till = 21 ∨ till = 22) (hT0 : s = 0 ∨ (T (s - 1) ≠ 21 ∧ (T (s - 1) = 22 → till ≠ 22))) (hs : sM c o (s + j) d w m) (ht : tS (s + j) T m) (hT : ∀ i, s ≤ i → i < s + j → T i = 21 ∨ (T i = 22 ∧ till = 22)) (he : eM c A B C m) (hA : ∀ i, i < j → A (c + i) = T (s + j - 1 - i) ∧ B (c + i) = 0 ∧ C (c + i) = 0) (hc : c + j ≤ 44) (hs' : s + j ≤ 44) : ∃ m', fMo_joins m (nI till) = some m' ∧ sM (c + j) o s d w m' ∧ eM (c + j) A B C m' ∧ m'.1 14 = m.1 14 ∧ mvT m m' := by
  obtain ⟨m', g1, g2⟩ := joins_r htl hT0 j c m hs ht hT he hA hc hs' FU (Nat.le_trans (by omega) FU_ge)
  refine ⟨m', ?_, g2⟩
  unfold fMo_joins
  rw [g1]; rfl
theorem dpt_congr : ∀ {c : Nat} {A A' : Nat → Nat}, (∀ i, i < c → A' i = A i) → dpt A' c = dpt A c
  | 0, _, _, _ => rfl
  | c + 1, A, A', h => by
    show (match dpt A' c with | none => none | some d => _) = (match dpt A c with | none => none | some d => _)
    rw [dpt_congr (fun i hi => h i (by omega)), h c (by omega)]
theorem dpt_leaf (h : dpt A c = some g) (hA : A c ≤ 9) : dpt A (c + 1) = some (g + 1) := by
  show (match dpt A c with | none => none | some d => if A c = 20 then (if 1 ≤ d then some d else none) else if A c = 21 ∨ A c = 22 then (if 2 ≤ d then some (d - 1) else none) else some (d + 1)) = _
  rw [h]
  simp only
  rw [if_neg (by omega), if_neg (by omega)]
theorem dpt_not (h : dpt A c = some (g + 1)) (hA : A c = 20) : dpt A (c + 1) = some (g + 1) := by
  show (match dpt A c with | none => none | some d => if A c = 20 then (if 1 ≤ d then some d else none) else if A c = 21 ∨ A c = 22 then (if 2 ≤ d then some (d - 1) else none) else some (d + 1)) = _
  rw [h]
  simp only
  rw [if_pos hA, if_pos (by omega)]
theorem dpt_bin (h : dpt A c = some (g + 2)) (hA : A c = 21 ∨ A c = 22) : dpt A (c + 1) = some (g + 1) := by
  show (match dpt A c with | none => none | some d => if A c = 20 then (if 1 ≤ d then some d else none) else if A c = 21 ∨ A c = 22 then (if 2 ≤ d then some (d - 1) else none) else some (d + 1)) = _
  rw [h]
  simp only
  rw [if_neg (by omega), if_pos hA, if_pos (by omega)]
  rfl
theorem sy_add (hs : sayC c A B C sy) (hc : c < 40) (x y u : Nat) : ∃ sy', fSy_add sy (nI (cwd x)) (nI (cwB x y u)) (nI (cwC x u)) = some sy' ∧ sayC (c + 1) (va_up A c x) (va_up B c y) (va_up C c u) sy' ∧ sy'.1 0 0 = sy.1 0 0 := by
  obtain ⟨h1, h2⟩ := hs
  have e1 : ∀ u, (sI sy 1 c u).1 0 1 = nI c := fun u => h1
  have e2 : ∀ u u', (sI (sI sy 1 c u) 2 c u').1 0 1 = nI c := fun u u' => h1
  have e3 : ∀ u u' u2, (sI (sI (sI sy 1 c u) 2 c u') 3 c u2).1 0 1 = nI c := fun u u' u2 => h1
  refine ⟨sI (sI (sI (sI sy 1 c (nI (cwd x))) 2 c (nI (cwB x y u))) 3 c (nI (cwC x u))) 0 1 (nI (c + 1)), ?_, ⟨rfl, fun i hi => ?_⟩, rfl⟩
  · unfold fSy_add
    simp only [lit, bnd]
    rw [h1, if_neg (by rw [nle (by omega) (by omega)]; omega), ix_nI (by omega) (by omega), Option.bind_some, e1, ix_nI (by omega) (by omega), Option.bind_some, e2, ix_nI (by omega) (by omega), Option.bind_some, e3, nadd]
  · show (if i = c then nI (cwd x) else sy.1 1 i) = _ ∧ (if i = c then nI (cwB x y u) else sy.1 2 i) = _ ∧ (if i = c then nI (cwC x u) else sy.1 3 i) = _
    rw [va_up_at, va_up_at, va_up_at]
    by_cases hic : i = c
    · rw [if_pos hic, if_pos hic, if_pos hic, if_pos hic, if_pos hic, if_pos hic]; exact ⟨rfl, rfl, rfl⟩
    · rw [if_neg hic, if_neg hic, if_neg hic, if_neg hic, if_neg hic, if_neg hic]; exact h2 i (by omega)
end
/-- so many steps of the reference's reading -/
def Rch : Nat → Obj → Obj → Prop
  | 0, m, m' => m' = m
  | k + 1, m, m' => ∃ m1, fMo_sentence_L48 (nI 1, m) = some (.inl (nI 1, m1)) ∧ Rch k m1 m'
theorem Rch_trans : ∀ {i j : Nat} {a b c : Obj}, Rch i a b → Rch j b c → Rch (i + j) a c
  | 0, j, a, b, c, h1, h2 => by
    have : b = a := h1
    subst this
    rw [Nat.zero_add]; exact h2
  | i + 1, j, a, b, c, ⟨m1, h1, h3⟩, h2 => by
    rw [show i + 1 + j = (i + j) + 1 by omega]
    exact ⟨m1, h1, Rch_trans h3 h2⟩
theorem Rch_1 {a b : Obj} (h : fMo_sentence_L48 (nI 1, a) = some (.inl (nI 1, b))) : Rch 1 a b := ⟨b, h, rfl⟩
theorem Rch_iter : ∀ {i : Nat} {a b : Obj} {f : Nat} {e : Obj ⊕ (Int32 × Obj)}, Rch i a b → iter fMo_sentence_L48 f (nI 1, b) = some e → iter fMo_sentence_L48 (f + i) (nI 1, a) = some e
  | 0, a, b, f, e, h1, h2 => by
    have : b = a := h1
    subst this
    exact h2
  | i + 1, a, b, f, e, ⟨m1, h1, h3⟩, h2 => by
    rw [show f + (i + 1) = (f + i) + 1 by omega, iter_s, h1]
    exact Rch_iter h3 h2
