def ONE (n h z lim : Nat) (b : Nat → Nat) (q : Obj) (d N : Nat) : Prop := ∀ (o c g s : Nat) (A B C T : Nat → Nat) (sy ta m : Obj) (k v : Nat) (l : List Nat) (pl p : Nat), preO n h z lim b o c g s d A B C T sy ta m k v l pl p → nmE n h q m →
  (∃ i sy' ta' m', fSy_rec N q 1 sy ta (nI d) = some (nI 1, sy', ta') ∧ Rch i m m' ∧ aftO i n h z lim b o c g s d A B C T ta m sy' ta' m') ∨ (∃ sy' ta', fSy_rec N q 1 sy ta (nI d) = some (nI 0, sy', ta') ∧ noO o ta m ta')
/-- behind a condition: the reference has j nots, a ands, r ors to do yet -/
def aftC (i n h z lim : Nat) (b : Nat → Nat) (o c cb g s d : Nat) (A B C T : Nat → Nat) (ta m sy' ta' m' : Obj) : Prop := ∃ o' cm j a r A' B' C' T' k v l pl p,
  o < o' ∧ o' ≤ 20 ∧ i + 1 ≤ 3 * (o' - o) ∧ cm + j + a + r + 1 ≤ cb + 2 * (o' - o) ∧ c ≤ cm ∧ a ≤ 1 ∧ r ≤ 1 ∧ s + r + a + j ≤ o' ∧ (∀ i, i < c → A' i = A i ∧ B' i = B i ∧ C' i = C i) ∧ (∀ i, i < cm + j + a + r → tok n h (A' i) (B' i) (C' i)) ∧ dpt A' (cm + j + a + r) = some (g + 1) ∧ sy'.1 0 0 = nI o' ∧ sayC (cm + j + a + r) A' B' C' sy' ∧
  sM cm o' (s + r + a + j) (d + j) 1 m' ∧ eM cm A' B' C' m' ∧ (∀ i, cm ≤ i → i < cm + j → A' i = 20 ∧ B' i = 0 ∧ C' i = 0) ∧ (∀ i, cm + j ≤ i → i < cm + j + a → A' i = 21 ∧ B' i = 0 ∧ C' i = 0) ∧ (∀ i, cm + j + a ≤ i → i < cm + j + a + r → A' i = 22 ∧ B' i = 0 ∧ C' i = 0) ∧
  tS (s + r + a + j) T' m' ∧ (∀ i, i < s → T' i = T i) ∧ (∀ i, s ≤ i → i < s + r → T' i = 22) ∧ (∀ i, s + r ≤ i → i < s + r + a → T' i = 21) ∧ (∀ i, s + r + a ≤ i → i < s + r + a + j → T' i = 20) ∧
  syn z lim b k v l pl p ta' m' ∧ ¬ (k = 1 ∧ v = 18) ∧ ¬ (k = 1 ∧ v = 19) ∧ taB ta ta' ∧ mvS m m' ∧ ta'.1 0 2 = ta.1 0 2 ∧ m'.1 0 15 = m.1 0 15
def COND (n h z lim : Nat) (b : Nat → Nat) (q : Obj) (d N : Nat) : Prop := ∀ (o c g s : Nat) (A B C T : Nat → Nat) (sy ta m : Obj) (k v : Nat) (l : List Nat) (pl p : Nat), preO n h z lim b o c g s d A B C T sy ta m k v l pl p → nmE n h q m → (s = 0 ∨ T (s - 1) = 23) →
  (∃ i sy' ta' m', fSy_rec N q 0 sy ta (nI d) = some (nI 1, sy', ta') ∧ Rch i m m' ∧ aftC i n h z lim b o c c g s d A B C T ta m sy' ta' m') ∨ (∃ sy' ta', fSy_rec N q 0 sy ta (nI d) = some (nI 0, sy', ta') ∧ noO o ta m ta')
section
variable {z lim : Nat} {b : Nat → Nat} {ta ta1 m ta' m' m0 m1 m2 m3 m4 x y q sy sy' : Obj} {k v v0 pl p p0 p1 c o s d w j g a r N : Nat} {l : List Nat} {n h L e t : Nat} {hp hm A B C T : Nat → Nat} {sr sr' : Nat → Bool}
/-- a code of the class, if it is due -/
theorem add_if (hs : sayC c A B C sy) (hc : c + a ≤ 40) (ha : a ≤ 1) {x : Nat} (hx : x = 21 ∨ x = 22) (ht : ∀ i, i < c → tok n h (A i) (B i) (C i)) (hd : dpt A c = some (g + a + 1)) : ∃ sy' A' B' C', (if nI a = nI 0 then some sy else fSy_add sy (nI (cwd x)) (nI 0) (nI 0)) = some sy' ∧ sayC (c + a) A' B' C' sy' ∧ sy'.1 0 0 = sy.1 0 0 ∧ (∀ i, i < c → A' i = A i ∧ B' i = B i ∧ C' i = C i) ∧ (∀ i, c ≤ i → i < c + a → A' i = x ∧ B' i = 0 ∧ C' i = 0) ∧ (∀ i, i < c + a → tok n h (A' i) (B' i) (C' i)) ∧ dpt A' (c + a) = some (g + 1) := by
  rcases (show a = 0 ∨ a = 1 by omega) with h0 | h0
  · subst h0
    exact ⟨sy, A, B, C, if_pos rfl, hs, rfl, fun _ _ => ⟨rfl, rfl, rfl⟩, fun i i1 i2 => absurd i2 (by omega), ht, hd⟩
  · subst h0
    obtain ⟨sy', f1, f2, f3⟩ := sy_add hs (by omega) x 0 0
    have e1 : cwB x 0 0 = 0 := by rcases hx with w | w <;> subst w <;> rfl
    have e2 : cwC x 0 = 0 := by rcases hx with w | w <;> subst w <;> rfl
    rw [e1, e2] at f1
    refine ⟨sy', _, _, _, by rw [if_neg (by decide +kernel)]; exact f1, f2, f3, same_up, fun i i1 i2 => ?_, tok_up ht (Or.inr (Or.inr (Or.inr (Or.inr ⟨by omega, by omega, rfl, rfl⟩)))), ?_⟩
    · have : i = c := by omega
      subst this
      rw [va_up_at, if_pos rfl, va_up_at, if_pos rfl, va_up_at, if_pos rfl]; exact ⟨rfl, rfl, rfl⟩
    · refine dpt_bin (g := g) ?_ (by rw [va_up_at, if_pos rfl]; exact hx)
      rw [dpt_congr (A := A) (fun i hi => va_up_ne _ _ (by omega))]; exact hd
/-- a sign is put on the reference's stack -/
theorem push_ok {cd w' u : Nat} (hm : sM c o s d w m) (hs : s ≤ 44) (hu : u < 100) (hT : tS s T m) : sM c o (s + 1) d w (sI (sI m 14 s (nI u)) 0 41 (nI (s + 1))) ∧ tS (s + 1) (va_up T s u) (sI (sI m 14 s (nI u)) 0 41 (nI (s + 1))) ∧ mvT m (sI (sI m 14 s (nI u)) 0 41 (nI (s + 1))) := by
  obtain ⟨a1, a2, a3, a4, a5⟩ := hm
  refine ⟨⟨a1, a2, rfl, a4, a5⟩, fun i hi => ?_, mvT_trans mvT_14 (mvT_f (by omega))⟩
  show (if i = s then nI u else m.1 14 i) = nI (va_up T s u i) ∧ va_up T s u i < 100
  rw [va_up_at]
  by_cases his : i = s
  · rw [if_pos his, if_pos his]; exact ⟨rfl, hu⟩
  · rw [if_neg his, if_neg his]; exact hT i (by omega)
/-- the reference's step at 'and' or 'or', its joins done -/
theorem j70_ok {u : Nat} {x : Obj} (hm : sM c o s d 1 m) (hs : s ≤ 44) (hu : u < 100) (hT : tS s T m) (he : eM c A B C m) (hsy : syn z lim b 1 v l pl p ta m) : ∃ k' v' l' pl' p' ta' m', fTa_take ta = some ta' ∧ fMo_behind_J70 m (nI s) (nI u) = some (nI 1, m') ∧ syn z lim b k' v' l' pl' p' ta' m' ∧ taF ta ta' ∧ mvS m m' ∧ sM c o (s + 1) d 0 m' ∧ eM c A B C m' ∧ tS (s + 1) (va_up T s u) m' ∧ m'.1 0 15 = m.1 0 15 := by
  obtain ⟨p1, p2, p3⟩ := push_ok (cd := 0) (w' := 0) hm hs hu hT
  obtain ⟨m1, hm1⟩ : ∃ m1, m1 = sI (sI m 14 s (nI u)) 0 41 (nI (s + 1)) := ⟨_, rfl⟩
  rw [← hm1] at p1 p2 p3
  obtain ⟨m2, hm2⟩ : ∃ m2, m2 = sI m1 0 43 (nI 0) := ⟨_, rfl⟩
  have q3 : mvT m m2 := by rw [hm2]; exact mvT_trans p3 (mvT_f (by omega))
  have q1 : sM c o (s + 1) d 0 m2 := by
    obtain ⟨a1, a2, a3, a4, a5⟩ := p1
    rw [hm2]; exact ⟨a1, a2, a3, a4, rfl⟩
  have q4 : m2.1 4 = m.1 4 := by rw [hm2, hm1]; rfl
  have q2 : tS (s + 1) (va_up T s u) m2 := by rw [hm2]; exact p2
  obtain ⟨k', v', l', pl', p', ta', m', j1, j2, j3, j4, j5, j6⟩ := syn_syn (syn_H hsy (moH_T q3)) (by decide)
  refine ⟨k', v', l', pl', p', ta', m', j1, ?_, j5, j3, mvS_trans (mvS_T q3) (mvS_F j4), sM_F q1 j4, eM_4 he (by rw [j4.1 4 (by omega), q4]), tS_14 q2 (j4.1 14 (by omega)), ?_⟩
  · have e41 : ∀ w, (sI m 14 s w).1 0 41 = nI s := fun w => hm.2.2.1
    unfold fMo_behind_J70
    simp only [lit, bnd]
    rw [ix_nI (by omega) (by omega), Option.bind_some, e41, nadd, ← hm1, ← hm2, j2, Option.bind_some]
  · rw [j4.2.1 15 (by omega) (by omega), q3.2.2 15 (by omega)]
/-- one operand of a condition, and what comes behind it -/
theorem cond_iter (hO : ONE n h z lim b q d N) (hd : d ≤ 9) (ha : a ≤ 1) (hr : r ≤ 1) {i : Nat} (hi : i < 200) (hcb : c + a + r ≤ 2 * o) (hP : preO n h z lim b o c (g + a + r) (s + r + a) d A B C T sy ta m k v l pl p) (hE : nmE n h q m) (hs0 : s = 0 ∨ T (s - 1) = 23) (hT22 : ∀ x, s ≤ x → x < s + r → T x = 22) (hT21 : ∀ x, s + r ≤ x → x < s + r + a → T x = 21) :
    (∃ st sy' ta' m', fSy_readCond_L9 (fSy_rec N q) (nI d) (nI a, nI r, nI i, sy, ta) = some (.inr (.inr (nI 1, sy', ta'))) ∧ Rch st m m' ∧ aftC st n h z lim b o c (c + a + r) g s d A B C T ta m sy' ta' m') ∨
    (∃ sy' ta', fSy_readCond_L9 (fSy_rec N q) (nI d) (nI a, nI r, nI i, sy, ta) = some (.inr (.inr (nI 0, sy', ta'))) ∧ noO o ta m ta') ∨
    (∃ st o1 c1 a1 r1 A1 B1 C1 T1 sy1 ta1 m1 k1 v1 l1 pl1 p1, fSy_readCond_L9 (fSy_rec N q) (nI d) (nI a, nI r, nI i, sy, ta) = some (.inl (nI a1, nI r1, nI (i + 1), sy1, ta1)) ∧ Rch st m m1 ∧ o < o1 ∧ o1 ≤ 20 ∧ st ≤ 3 * (o1 - o) ∧ a1 ≤ 1 ∧ r1 ≤ 1 ∧ c1 + a1 + r1 ≤ c + a + r + 2 * (o1 - o) ∧ c ≤ c1 ∧ (∀ i, i < c → A1 i = A i ∧ B1 i = B i ∧ C1 i = C i) ∧ (∀ i, i < s → T1 i = T i) ∧ preO n h z lim b o1 c1 (g + a1 + r1) (s + r1 + a1) d A1 B1 C1 T1 sy1 ta1 m1 k1 v1 l1 pl1 p1 ∧ (∀ x, s ≤ x → x < s + r1 → T1 x = 22) ∧ (∀ x, s + r1 ≤ x → x < s + r1 + a1 → T1 x = 21) ∧ taB ta ta1 ∧ mvS m m1 ∧ ta1.1 0 2 = ta.1 0 2 ∧ m1.1 0 15 = m.1 0 15) := by
  have u1 : ¬ nI 1 = nI 0 := by decide +kernel
  have lC0 : fSy_readCond_L9 (fSy_rec N q) (nI d) (nI a, nI r, nI i, sy, ta) = (fSy_rec N q 1 sy ta (nI d)).bind fun r1 => if r1.1 = nI 0 then some (.inr (.inr (nI 0, r1.2.1, r1.2.2))) else (if nI a = nI 0 then some r1.2.1 else fSy_add r1.2.1 (nI (cwd 21)) (nI 0) (nI 0)).bind fun s6 => fSy_readCond_J42 (fSy_rec N q) s6 r1.2.2 (nI r) (nI i) := by
    unfold fSy_readCond_L9
    simp only [lit]
    rw [if_neg (by rw [nle (by omega) (by omega)]; omega)]
    congr 1
    funext r1
    by_cases h0 : r1.1 = nI 0
    · rw [if_pos h0, if_pos h0]
    · rw [if_neg h0, if_neg h0]
      by_cases h1 : nI a = nI 0
      · rw [if_pos h1, if_pos h1]; rfl
      · rw [if_neg h1, if_neg h1]; rfl
  have hso := hP.2.2.1
  rcases hO o c (g + a + r) (s + r + a) A B C T sy ta m k v l pl p hP hE with ⟨st, sy1, ta1, m1, g1, g2, g3⟩ | ⟨sy1, ta1, g1, g2⟩
  · obtain ⟨o1, cm, j, A1, B1, C1, T1, k1, v1, l1, pl1, p1, e1, e2, e3, e4, e5, e6, e7, e8, e9, e10, e11, e12, e13, e14, e15, e16, e17, e18, e19, e20, e21, e22⟩ := g3
    rw [g1, Option.bind_some, if_neg u1] at lC0
    simp only at lC0
    obtain ⟨sy2, A2, B2, C2, f1, f2, f3, f4, f5, f6, f7⟩ := add_if (n := n) (h := h) (a := a) (g := g + r) (x := 21) e11 (by omega) ha (Or.inl rfl) e8 (by rw [e9]; congr 1; omega)
    rw [f1, Option.bind_some] at lC0
    obtain ⟨sy3, A3, B3, C3, q1, q2, q3, q4, q5, q6, q7⟩ := add_if (n := n) (h := h) (a := r) (g := g) (x := 22) f2 (by omega) hr (Or.inr rfl) f6 f7
    have w19 := ta_isW e18 (w := 19) (by omega)
    have w18 := ta_isW e18 (w := 18) (by omega)
    have v19 := fun mm (hh : moH m1 mm) => mo_isW (syn_H e18 hh) (w := 19) (by omega)
    have v18 := fun mm (hh : moH m1 mm) => mo_isW (syn_H e18 hh) (w := 18) (by omega)
    have lJ42 : fSy_readCond_J42 (fSy_rec N q) sy2 ta1 (nI r) (nI i) = if k1 = 1 ∧ v1 = 19 then fSy_readCond_J83 (fSy_rec N q) sy2 ta1 (nI 1) (nI r) (nI i) else if k1 = 1 ∧ v1 = 18 then fSy_readCond_J83 (fSy_rec N q) sy3 ta1 (nI 0) (nI 1) (nI i) else some (.inr (.inr (nI 1, sy3, ta1))) := by
      have lJ68 : fSy_readCond_J68 (fSy_rec N q) sy3 ta1 (nI 0) (nI i) = if k1 = 1 ∧ v1 = 18 then fSy_readCond_J83 (fSy_rec N q) sy3 ta1 (nI 0) (nI 1) (nI i) else some (.inr (.inr (nI 1, sy3, ta1))) := by
        unfold fSy_readCond_J68
        simp only [lit]
        rw [w18, Option.bind_some]
        by_cases h18 : k1 = 1 ∧ v1 = 18
        · rw [if_pos h18, if_pos h18, if_neg u1]
        · rw [if_neg h18, if_neg h18, if_pos rfl]
      unfold fSy_readCond_J42
      simp only [lit]
      rw [w19, Option.bind_some]
      by_cases h19 : k1 = 1 ∧ v1 = 19
      · rw [if_pos h19, if_pos h19, if_neg u1]
      · rw [if_neg h19, if_neg h19, if_pos rfl, ← lJ68]
        by_cases h1 : nI r = nI 0
        · rw [if_pos h1] at q1 ⊢
          rw [Option.some.inj q1]
        · rw [if_neg h1] at q1 ⊢
          have q1' : fSy_add sy2 (nI 18) (nI 0) (nI 0) = some sy3 := q1
          rw [q1', Option.bind_some]
    rw [lJ42] at lC0
    have hT1s : ∀ x, x < s + r + a → T1 x = T x := e16
    have hTop : s + r + a = 0 ∨ T1 (s + r + a - 1) ≠ 20 := by
      by_cases hz : s + r + a = 0
      · exact Or.inl hz
      · right
        rw [hT1s _ (by omega)]
        by_cases ha1 : a = 1
        · rw [hT21 _ (by omega) (by omega)]; decide
        · by_cases hr1 : r = 1
          · rw [hT22 _ (by omega) (by omega)]; decide
          · have h23 := hs0.resolve_left (by omega)
            rw [show s + r + a - 1 = s - 1 by omega, h23]; decide
    have hTr : s + r = 0 ∨ (T1 (s + r - 1) ≠ 21 ∧ (T1 (s + r - 1) = 22 → (21 : Nat) ≠ 22)) := by
      by_cases hz : s + r = 0
      · exact Or.inl hz
      · right
        rw [hT1s _ (by omega)]
        by_cases hr1 : r = 1
        · rw [hT22 _ (by omega) (by omega)]; decide
        · have h23 := hs0.resolve_left (by omega)
          rw [show s + r - 1 = s - 1 by omega, h23]; decide
    have hTs : s = 0 ∨ (T1 (s - 1) ≠ 21 ∧ (T1 (s - 1) = 22 → (22 : Nat) ≠ 22)) := by
      rcases hs0 with hz | h23
      · exact Or.inl hz
      · by_cases hz : s = 0
        · exact Or.inl hz
        · right
          rw [hT1s _ (by omega), h23]; decide
    by_cases hend : (k1 = 1 ∧ v1 = 19) ∨ (k1 = 1 ∧ v1 = 18)
    · right; right
      have hk1 : k1 = 1 := by rcases hend with w | w <;> exact w.1
      subst hk1
      -- the reference: nots first
      obtain ⟨m2, n1, n2, n3, n4, n5⟩ := nots_ok (m := m1) (A := A1) (B := B1) (C := C1) (T := T1) (s := s + r + a) (j := j) (c := cm) (d := d) hTop e12 e15 e17 e13 e14 (by omega) (by omega) (by omega)
      have h11 : ¬ m1.1 0 11 = nI 0 := fun u => absurd ((tk_end e18).2.mp u) (by decide)
      have lS := st_be e12.2.2.2.2 h11
      have lB : fMo_behind m1 = (fMo_isWord m2 (kw8 (kws.getD 19 []))).bind fun r2 => if r2 = nI 0 then (fMo_isWord m2 (kw8 (kws.getD 18 []))).bind fun r3 => if r3 = nI 0 then (fMo_joins m2 (nI 22)).bind fun r4 => (fMo_isSign r4 (nI 41)).bind fun r5 => if r5 = nI 0 then fMo_behind_J114 r4 else if r4.1 0 41 = nI 0 then fMo_behind_J114 r4 else (fMo_next (sI (sI r4 0 41 (r4.1 0 41 - nI 1)) 0 42 ((sI r4 0 41 (r4.1 0 41 - nI 1)).1 0 42 - nI 1))).bind fun r9 => some (nI 1, r9) else fMo_behind_J24 m2 else fMo_behind_J24 m2 := by
        have x19 : (6385252 : Int64) = kw8 (kws.getD 19 []) := by decide +kernel
        have x18 : (28530 : Int64) = kw8 (kws.getD 18 []) := by decide +kernel
        unfold fMo_behind
        rw [x19, x18]
        simp only [lit, bnd]
        rw [n1, Option.bind_some]
      have lJ24 : ∀ mm : Obj, fMo_behind_J24 mm = (fMo_isWord mm (kw8 (kws.getD 19 []))).bind fun r10 => if r10 = nI 0 then fMo_behind_J42 mm (nI 22) else fMo_behind_J42 mm (nI 21) := fun mm => by
        have x19 : (6385252 : Int64) = kw8 (kws.getD 19 []) := by decide +kernel
        unfold fMo_behind_J24
        rw [x19]
        simp only [lit]
      have lJ42m : ∀ (mm : Obj) (w : Int32), fMo_behind_J42 mm w = (fMo_joins mm w).bind fun r11 => (fMo_isWord r11 (kw8 (kws.getD 19 []))).bind fun r12 => if r12 = nI 0 then fMo_behind_J70 r11 (r11.1 0 41) (nI 22) else fMo_behind_J70 r11 (r11.1 0 41) (nI 21) := fun mm w => by
        have x19 : (6385252 : Int64) = kw8 (kws.getD 19 []) := by decide +kernel
        unfold fMo_behind_J42
        rw [x19]
        simp only [lit]
      have t2 : tS (s + r + a) T1 m2 := fun x hx => by rw [n4]; exact e15 x (by omega)
      by_cases h19 : v1 = 19
      · subst h19
        rw [if_pos ⟨rfl, rfl⟩] at lC0
        have he2 : eM (cm + j) A2 B2 C2 m2 := eM_congr n3 f4
        obtain ⟨m3, j1, j2, j3, j4, j5⟩ := joins_ok (m := m2) (A := A2) (B := B2) (C := C2) (T := T1) (s := s + r) (j := a) (c := cm + j) (till := 21) (Or.inl rfl) hTr n2 t2 (fun x x1 x2 => Or.inl (by rw [hT1s _ x2]; exact hT21 x x1 x2)) he2 (fun x hx => by
          obtain ⟨y1, y2, y3⟩ := f5 (cm + j + x) (by omega) (by omega)
          refine ⟨?_, y2, y3⟩
          rw [y1, hT1s _ (by omega), hT21 _ (by omega) (by omega)]) (by omega) (by omega)
        have hT3 : mvT m1 m3 := mvT_trans n5 j5
        have t3 : tS (s + r) T1 m3 := fun x hx => by rw [j4]; exact t2 x (by omega)
        obtain ⟨k', v', l', pl', p', ta', m', o1', o2, o3, o4, o5, o6, o7, o8, o9⟩ := j70_ok (u := 21) (x := m) j2 (by omega) (by omega) t3 j3 (syn_H e18 (moH_T hT3))
        have V2 := v19 m2 (moH_T n5)
        have V3 := v19 m3 (moH_T hT3)
        rw [if_pos ⟨rfl, rfl⟩] at V2 V3
        have lBm : fMo_behind m1 = some (nI 1, m') := by
          rw [lB, V2, Option.bind_some, if_neg u1, lJ24, V2, Option.bind_some, if_neg u1, lJ42m, j1, Option.bind_some, V3, Option.bind_some, if_neg u1, j2.2.2.1]
          exact o2
        have hstep : fMo_sentence_L48 (nI 1, m1) = some (.inl (nI 1, m')) := by
          rw [lS, lBm, Option.bind_some, if_neg u1]
        have lJ83 : fSy_readCond_J83 (fSy_rec N q) sy2 ta1 (nI 1) (nI r) (nI i) = some (.inl (nI 1, nI r, nI (i + 1), sy2, ta')) := by
          unfold fSy_readCond_J83
          simp only [lit]
          rw [o1', Option.bind_some, nadd]
        rw [lJ83] at lC0
        refine ⟨st + 1, o1, cm + j + a, 1, r, A2, B2, C2, va_up T1 (s + r) 21, sy2, ta', m', k', v', l', pl', p', lC0, Rch_trans g2 (Rch_1 hstep), e1, e2, by omega, by omega, hr, by omega, by omega, fun x hx => ?_, fun x hx => ?_, ⟨e2, by omega, by omega, by rw [f3]; exact e10, f2, f6, by rw [f7]; congr 1; omega, o6, o7, o8, o3⟩, fun x x1 x2 => ?_, fun x x1 x2 => ?_, taB_trans e19 (taB_F o4), mvS_trans e20 (mvS_trans (mvS_T hT3) o5), ?_, ?_⟩
        · obtain ⟨y1, y2, y3⟩ := f4 x (by omega)
          obtain ⟨y4, y5, y6⟩ := e7 x hx
          exact ⟨y1.trans y4, y2.trans y5, y3.trans y6⟩
        · rw [va_up_ne _ _ (by omega)]; exact hT1s x (by omega)
        · rw [va_up_ne _ _ (by omega), hT1s x (by omega)]; exact hT22 x x1 x2
        · rw [va_up_at, if_pos (by omega)]
        · rw [o4.2.1 2 (by omega) (by omega) (by omega) (by omega), e21]
        · rw [o9, hT3.2.2 15 (by omega), e22]
      · have h18 : v1 = 18 := by rcases hend with w | w; exact absurd w.2 h19; exact w.2
        subst h18
        rw [if_neg (fun u => absurd u.2 (by decide)), if_pos ⟨rfl, rfl⟩] at lC0
        have he2 : eM (cm + j) A3 B3 C3 m2 := eM_congr n3 (fun x hx => by
          obtain ⟨y1, y2, y3⟩ := q4 x (by omega)
          obtain ⟨y4, y5, y6⟩ := f4 x hx
          exact ⟨y1.trans y4, y2.trans y5, y3.trans y6⟩)
        have n2' : sM (cm + j) o1 (s + (r + a)) d 1 m2 := by rw [← Nat.add_assoc]; exact n2
        have t2' : tS (s + (r + a)) T1 m2 := by rw [← Nat.add_assoc]; exact t2
        obtain ⟨m3, j1, j2, j3, j4, j5⟩ := joins_ok (m := m2) (A := A3) (B := B3) (C := C3) (T := T1) (s := s) (j := r + a) (c := cm + j) (till := 22) (Or.inr rfl) hTs n2' t2' (fun x x1 x2 => by
          by_cases hx : x < s + r
          · right
            rw [hT1s _ (by omega)]
            exact ⟨hT22 x x1 hx, rfl⟩
          · left
            rw [hT1s _ (by omega)]
            exact hT21 x (by omega) (by omega)) he2 (fun x hx => by
          by_cases hxa : x < a
          · obtain ⟨y1, y2, y3⟩ := q4 (cm + j + x) (by omega)
            obtain ⟨y4, y5, y6⟩ := f5 (cm + j + x) (by omega) (by omega)
            refine ⟨?_, y2.trans y5, y3.trans y6⟩
            rw [y1, y4, hT1s _ (by omega), hT21 _ (by omega) (by omega)]
          · obtain ⟨y1, y2, y3⟩ := q5 (cm + j + x) (by omega) (by omega)
            refine ⟨?_, y2, y3⟩
            rw [y1, hT1s _ (by omega), hT22 _ (by omega) (by omega)]) (by omega) (by omega)
        have hT3 : mvT m1 m3 := mvT_trans n5 j5
        have t3 : tS s T1 m3 := fun x hx => by rw [j4]; exact t2 x (by omega)
        obtain ⟨k', v', l', pl', p', ta', m', o1', o2, o3, o4, o5, o6, o7, o8, o9⟩ := j70_ok (u := 22) (x := m) j2 (by omega) (by omega) t3 j3 (syn_H e18 (moH_T hT3))
        have V2 := v19 m2 (moH_T n5)
        have W2 := v18 m2 (moH_T n5)
        have V3 := v19 m3 (moH_T hT3)
        rw [if_neg (fun u => absurd u.2 (by decide))] at V2 V3
        rw [if_pos ⟨rfl, rfl⟩] at W2
        have lBm : fMo_behind m1 = some (nI 1, m') := by
          rw [lB, V2, Option.bind_some, if_pos rfl, W2, Option.bind_some, if_neg u1, lJ24, V2, Option.bind_some, if_pos rfl, lJ42m, j1, Option.bind_some, V3, Option.bind_some, if_pos rfl, j2.2.2.1]
          exact o2
        have hstep : fMo_sentence_L48 (nI 1, m1) = some (.inl (nI 1, m')) := by
          rw [lS, lBm, Option.bind_some, if_neg u1]
        have lJ83 : fSy_readCond_J83 (fSy_rec N q) sy3 ta1 (nI 0) (nI 1) (nI i) = some (.inl (nI 0, nI 1, nI (i + 1), sy3, ta')) := by
          unfold fSy_readCond_J83
          simp only [lit]
          rw [o1', Option.bind_some, nadd]
        rw [lJ83] at lC0
        rw [show cm + j + (r + a) = cm + j + a + r by omega] at o6 o7
        refine ⟨st + 1, o1, cm + j + a + r, 0, 1, A3, B3, C3, va_up T1 s 22, sy3, ta', m', k', v', l', pl', p', lC0, Rch_trans g2 (Rch_1 hstep), e1, e2, by omega, by omega, by omega, by omega, by omega, fun x hx => ?_, fun x hx => ?_, ⟨e2, by omega, by omega, by rw [q3, f3]; exact e10, q2, q6, by rw [q7], o6, o7, o8, o3⟩, fun x x1 x2 => ?_, fun x x1 x2 => absurd x2 (by omega), taB_trans e19 (taB_F o4), mvS_trans e20 (mvS_trans (mvS_T hT3) o5), ?_, ?_⟩
        · obtain ⟨y7, y8, y9⟩ := q4 x (by omega)
          obtain ⟨y1, y2, y3⟩ := f4 x (by omega)
          obtain ⟨y4, y5, y6⟩ := e7 x hx
          exact ⟨y7.trans (y1.trans y4), y8.trans (y2.trans y5), y9.trans (y3.trans y6)⟩
        · rw [va_up_ne _ _ (by omega)]; exact hT1s x (by omega)
        · rw [va_up_at, if_pos (by omega)]
        · rw [o4.2.1 2 (by omega) (by omega) (by omega) (by omega), e21]
        · rw [o9, hT3.2.2 15 (by omega), e22]
    · left
      have h19 : ¬ (k1 = 1 ∧ v1 = 19) := fun u => hend (Or.inl u)
      have h18 : ¬ (k1 = 1 ∧ v1 = 18) := fun u => hend (Or.inr u)
      rw [if_neg h19, if_neg h18] at lC0
      refine ⟨st, sy3, ta1, m1, lC0, g2, o1, cm, j, a, r, A3, B3, C3, T1, k1, v1, l1, pl1, p1, e1, e2, e3, by omega, e5, ha, hr, e6, fun x hx => ?_, q6, q7, by rw [q3, f3]; exact e10, q2, e12, eM_congr e13 (fun x hx => ?_), fun x x1 x2 => ?_, fun x x1 x2 => ?_, q5, e15, fun x hx => hT1s x (by omega), fun x x1 x2 => ?_, fun x x1 x2 => ?_, e17, e18, h18, h19, e19, e20, e21, e22⟩
      · obtain ⟨y7, y8, y9⟩ := q4 x (by omega)
        obtain ⟨y1, y2, y3⟩ := f4 x (by omega)
        obtain ⟨y4, y5, y6⟩ := e7 x hx
        exact ⟨y7.trans (y1.trans y4), y8.trans (y2.trans y5), y9.trans (y3.trans y6)⟩
      · obtain ⟨y7, y8, y9⟩ := q4 x (by omega)
        obtain ⟨y1, y2, y3⟩ := f4 x (by omega)
        exact ⟨y7.trans y1, y8.trans y2, y9.trans y3⟩
      · obtain ⟨y7, y8, y9⟩ := q4 x (by omega)
        obtain ⟨y1, y2, y3⟩ := f4 x (by omega)
        obtain ⟨y4, y5, y6⟩ := e14 x x1 x2
        exact ⟨y7.trans (y1.trans y4), y8.trans (y2.trans y5), y9.trans (y3.trans y6)⟩
      · obtain ⟨y7, y8, y9⟩ := q4 x (by omega)
        obtain ⟨y1, y2, y3⟩ := f5 x x1 x2
        exact ⟨y7.trans y1, y8.trans y2, y9.trans y3⟩
      · rw [hT1s _ (by omega)]; exact hT22 x x1 x2
      · rw [hT1s _ (by omega)]; exact hT21 x x1 x2
  · right; left
    rw [g1, Option.bind_some, if_pos rfl] at lC0
    exact ⟨sy1, ta1, lC0, g2⟩
end
