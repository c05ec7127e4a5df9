/-- what reading a BOOK leaves of the reference -/
def moK (m m' : Obj) : Prop := (∀ j, j ≠ 0 → j ≠ 4 → m'.1 j = m.1 j) ∧ (∀ j, j ≠ 0 → m'.2 j = m.2 j) ∧ ∀ i, i ≠ 4 → i < 11 ∨ 16 < i → i ≠ 18 → m'.1 0 i = m.1 0 i
theorem moK_refl (m : Obj) : moK m m := ⟨fun _ _ _ => rfl, fun _ _ => rfl, fun _ _ _ _ => rfl⟩
theorem moK_trans {a b c : Obj} (h1 : moK a b) (h2 : moK b c) : moK a c := ⟨fun j x y => (h2.1 j x y).trans (h1.1 j x y), fun j x => (h2.2.1 j x).trans (h1.2.1 j x), fun i x y w => (h2.2.2 i x y w).trans (h1.2.2 i x y w)⟩
theorem moK_B {m m' : Obj} (h : moB m m') : moK m m' := ⟨fun j x _ => h.1 j x, h.2.1, h.2.2⟩
theorem moK_F {m m' : Obj} (h : moF m m') : moK m m' := moK_B (moB_F h)
theorem moK_4 {m : Obj} {i : Nat} {v : Int32} : moK m (sI m 4 i v) := ⟨fun j _ hj => va_up_ne _ _ hj, fun _ _ => rfl, fun _ _ _ _ => rfl⟩
theorem moK_18 {m : Obj} {v : Int32} : moK m (sI m 0 18 v) := moK_B moB_18
/-- an act of a BOOK: 0 knocks, 1 goes, 2 quits, 3 meets, 4 calls, 5 ticks -/
def bact (n h A B C : Nat) : Prop := (A = 0 ∧ B < n ∧ C < h) ∨ (A = 1 ∧ B < n ∧ C < 3) ∨ (A = 2 ∧ B < n ∧ C = 0) ∨ (A = 3 ∧ B < n ∧ C < n ∧ B ≠ C) ∨ (A = 4 ∧ B < n ∧ C < h) ∨ (A = 5 ∧ 1 ≤ B ∧ B ≤ 60 ∧ C = 0)
def vrb (A : Nat) : Nat := if A = 4 then 5 else if A = 5 then 17 else 13 + A
def ent (n h : Nat) (bk m : Obj) (i : Nat) : Prop := ∃ A B C, bact n h A B C ∧ bk.1 1 i = nI (vrb A) ∧ bk.1 2 i = nI B ∧ bk.1 3 i = nI C ∧ m.1 4 (3 * i) = nI A ∧ m.1 4 (3 * i + 1) = nI B ∧ (A ≠ 2 → A ≠ 5 → m.1 4 (3 * i + 2) = nI C)
def bkF (bk bk' : Obj) : Prop := ∀ i, i ≠ 7 → bk'.1 0 i = bk.1 0 i
def bkOK (n h z lim : Nat) (b : Nat → Nat) (p c : Nat) (bk ta m bk' ta' m' : Obj) : Prop := bk'.1 0 7 = nI (c + 1) ∧ (∀ i, i < c + 1 → ent n h bk' m' i) ∧ c < 40 ∧ lag z lim b p ta' m' ∧ taB ta ta' ∧ moK m m' ∧ bkF bk bk' ∧ ta'.1 0 2 = ta.1 0 2 ∧ m'.1 0 15 = m.1 0 15
def bkNO (bk ta m bk' ta' m' : Obj) : Prop := fai ta' m' ∧ taB ta ta' ∧ moK m m' ∧ bkF bk bk'
section
variable {z lim : Nat} {b : Nat → Nat} {ta ta1 m ta' m' m1 m4 x y q bk bk' : Obj} {k v v0 pl p p0 p1 c j : Nat} {l : List Nat} {n h L e t : Nat} {hp hm : Nat → Nat} {sr sr' : Nat → Bool} {S : Nat → Nat → Nat}
theorem lag_4 (h : lag z lim b p0 ta m) {i : Nat} {w : Int32} : lag z lim b p0 ta (sI m 4 i w) := lag_H h ⟨rfl, fun _ _ _ => rfl, rfl, rfl⟩
theorem bk_add (h7 : bk.1 0 7 = nI c) (hc : c < 40) (v1 v2 v3 : Int32) : fBk_add bk v1 v2 v3 = some (sI (sI (sI (sI bk 1 c v1) 2 c v2) 3 c v3) 0 7 (nI (c + 1))) := by
  have e1 : ∀ w, (sI bk 1 c w).1 0 7 = nI c := fun w => h7
  have e2 : ∀ w w', (sI (sI bk 1 c w) 2 c w').1 0 7 = nI c := fun w w' => h7
  have e3 : ∀ w w' w2, (sI (sI (sI bk 1 c w) 2 c w') 3 c w2).1 0 7 = nI c := fun w w' w2 => h7
  unfold fBk_add
  simp only [lit, bnd]
  rw [h7, if_neg (by rw [nle (by omega) (by omega)]; omega), ix_nI (by omega) (by omega), Option.bind_some, e1, ix_nI (by omega) (by omega), Option.bind_some, e2, ix_nI (by omega) (by omega), Option.bind_some, e3, nadd]
theorem bkF_add {v1 v2 v3 v4 : Int32} : bkF bk (sI (sI (sI (sI bk 1 c v1) 2 c v2) 3 c v3) 0 7 v4) := fun i hi => by
  rw [sI_1, if_neg (by omega)]; rfl
theorem bkF_refl : bkF bk bk := fun _ _ => rfl
theorem ents_add {A B C : Nat} (he : ∀ i, i < c → ent n h bk m i) (ha : bact n h A B C) (h4 : ∀ i, i < 3 * c → m'.1 4 i = m.1 4 i) (k0 : m'.1 4 (3 * c) = nI A) (k1 : m'.1 4 (3 * c + 1) = nI B) (k2 : A ≠ 2 → A ≠ 5 → m'.1 4 (3 * c + 2) = nI C) {v4 : Int32} : ∀ i, i < c + 1 → ent n h (sI (sI (sI (sI bk 1 c (nI (vrb A))) 2 c (nI B)) 3 c (nI C)) 0 7 v4) m' i := fun i hi => by
  by_cases hic : i = c
  · subst hic
    refine ⟨A, B, C, ha, ?_, ?_, ?_, k0, k1, k2⟩
    · show (if i = i then nI (vrb A) else bk.1 1 i) = _
      rw [if_pos rfl]
    · show (if i = i then nI B else bk.1 2 i) = _
      rw [if_pos rfl]
    · show (if i = i then nI C else bk.1 3 i) = _
      rw [if_pos rfl]
  · obtain ⟨A', B', C', a1, a2, a3, a4, a5, a6, a7⟩ := he i (by omega)
    refine ⟨A', B', C', a1, ?_, ?_, ?_, ?_, ?_, fun u w => ?_⟩
    · show (if i = c then nI (vrb A) else bk.1 1 i) = _
      rw [if_neg hic]; exact a2
    · show (if i = c then nI B else bk.1 2 i) = _
      rw [if_neg hic]; exact a3
    · show (if i = c then nI C else bk.1 3 i) = _
      rw [if_neg hic]; exact a4
    · rw [h4 _ (by omega)]; exact a5
    · rw [h4 _ (by omega)]; exact a6
    · rw [h4 _ (by omega)]; exact a7 u w
theorem add_ok (h7 : bk.1 0 7 = nI c) (hc : c < 40) (v1 v2 : Int32) {w : Nat} (hw : w < 1000) : fBk_addAct bk v1 v2 (nI w) = some (nI 1, sI (sI (sI (sI bk 1 c v1) 2 c v2) 3 c (nI w)) 0 7 (nI (c + 1))) := by
  unfold fBk_addAct
  simp only [lit]
  rw [bk_add h7 hc, Option.bind_some, if_neg (nI_ne_m1' (by omega))]
theorem add_no (h7 : bk.1 0 7 = nI c) (hc : c < 40) (v1 v2 : Int32) : ∃ bk', fBk_addAct bk v1 v2 (-nI 1) = some (nI 0, bk') ∧ bkF bk bk' := by
  refine ⟨sI (sI (sI (sI bk 1 c v1) 2 c v2) 3 c (-nI 1)) 0 7 (nI (c + 1)), ?_, bkF_add⟩
  unfold fBk_addAct
  simp only [lit]
  rw [bk_add h7 hc, Option.bind_some, if_pos trivial]
/-- the rest of an act's line, behind its verb -/
theorem act_rest (hB : sQB n h L e t hp hm) (hC : sQC n h L e t hp hm sr q) (hM : sQM n h L e t hp hm sr (m4.1 2)) (hN : sQN n h q (m4.2 5)) (h7 : bk.1 0 7 = nI c) (hc : c < 40) (he : ∀ i, i < c → ent n h bk m4 i) (hj : j < n) {A : Nat} (hA : A ≤ 4) (k0 : m4.1 4 (3 * c) = nI A) (k1 : m4.1 4 (3 * c + 1) = nI j) (hl : lag z lim b p1 ta1 m4) :
    (∃ bk' ta' m', fBk_readAct_J29 q bk ta1 (nI j) (nI (vrb A)) = some (nI 1, bk', ta') ∧ (if nI A = nI 2 then some (nI 1, m4) else if nI A = nI 3 then (fMo_looksAt m4 (nI 6) (nI n)).bind fun r17 => if r17.1 = nI 0 then some (nI 0, r17.2) else if r17.2.1 0 18 = nI j then (fMo_bad r17.2 (nI 3)).bind fun r18 => some (bz r18.1, r18.2) else (fMo_next (sI r17.2 4 (3 * c + 2) (r17.2.1 0 18))).bind fun r21 => some (nI 1, r21) else if nI A = nI 1 then (fMo_takesWay m4).bind fun r22 => some (bz r22.1, sI r22.2 4 (3 * c + 2) (r22.2.1 0 18)) else (fMo_takesName m4 (nI 0) (nI h)).bind fun r25 => some (bz r25.1, sI r25.2 4 (3 * c + 2) (r25.2.1 0 18))) = some (nI 1, m') ∧ bkOK n h z lim b p1 c bk ta1 m4 bk' ta' m') ∨
    (∃ bk' ta' m', fBk_readAct_J29 q bk ta1 (nI j) (nI (vrb A)) = some (nI 0, bk', ta') ∧ (if nI A = nI 2 then some (nI 1, m4) else if nI A = nI 3 then (fMo_looksAt m4 (nI 6) (nI n)).bind fun r17 => if r17.1 = nI 0 then some (nI 0, r17.2) else if r17.2.1 0 18 = nI j then (fMo_bad r17.2 (nI 3)).bind fun r18 => some (bz r18.1, r18.2) else (fMo_next (sI r17.2 4 (3 * c + 2) (r17.2.1 0 18))).bind fun r21 => some (nI 1, r21) else if nI A = nI 1 then (fMo_takesWay m4).bind fun r22 => some (bz r22.1, sI r22.2 4 (3 * c + 2) (r22.2.1 0 18)) else (fMo_takesName m4 (nI 0) (nI h)).bind fun r25 => some (bz r25.1, sI r25.2 4 (3 * c + 2) (r25.2.1 0 18))) = some (nI 0, m') ∧ bkNO bk ta1 m4 bk' ta' m') := by
  have u1 : ¬ nI 1 = nI 0 := by decide +kernel
  obtain ⟨b1, b2, b3, b4, b5, b6, b7, b8, b9⟩ := id hB
  have c3 := hC.1.2.2.2.1
  have c4 := hC.1.2.2.2.2
  have nA : ∀ w, w < 100 → A ≠ w → ¬ nI A = nI w := fun w hw hne => by rw [neq (by omega) (by omega)]; exact hne
  have house : A = 0 ∨ A = 4 → (∃ bk' ta' m', ((fTa_takeHouse q ta1).bind fun r2 => (fBk_addAct bk (nI (vrb A)) (nI j) r2.1).bind fun r3 => some (bz r3.1, r3.2, r2.2)) = some (nI 1, bk', ta') ∧ ((fMo_takesName m4 (nI 0) (nI h)).bind fun r25 => some (bz r25.1, sI r25.2 4 (3 * c + 2) (r25.2.1 0 18))) = some (nI 1, m') ∧ bkOK n h z lim b p1 c bk ta1 m4 bk' ta' m') ∨ (∃ bk' ta' m', ((fTa_takeHouse q ta1).bind fun r2 => (fBk_addAct bk (nI (vrb A)) (nI j) r2.1).bind fun r3 => some (bz r3.1, r3.2, r2.2)) = some (nI 0, bk', ta') ∧ ((fMo_takesName m4 (nI 0) (nI h)).bind fun r25 => some (bz r25.1, sI r25.2 4 (3 * c + 2) (r25.2.1 0 18))) = some (nI 0, m') ∧ bkNO bk ta1 m4 bk' ta' m') := fun hA04 => by
    have lT : fMo_takesName m4 (nI 0) (nI h) = (fMo_looksAt m4 (nI 0) (nI h)).bind fun r1 => if r1.1 = nI 0 then some (nI 0, r1.2) else (fMo_next r1.2).bind fun r2 => some (nI 1, r2) := rfl
    rcases ho_take (c := h) (base := 0) (by omega) (by omega) c3 (fun i hi => by rw [Nat.zero_add]; exact hN.1 i hi) hl with ⟨i, v2, l2, pl2, p2, ta2, i1, i2, i3, i4, i5, i6⟩ | ⟨ta2, m3, i1, i2, i3, i4, i5⟩
    · left
      obtain ⟨m5, y1, y2, y3⟩ := syn_lag i4 (by decide)
      have m518 : m5.1 0 18 = nI i := by rw [y2.2.1 18 (by omega) (by omega), sI_1, if_pos ⟨rfl, rfl⟩]
      have m54 : m5.1 4 = m4.1 4 := by rw [y2.1 4 (by omega)]; rfl
      refine ⟨sI (sI (sI (sI bk 1 c (nI (vrb A))) 2 c (nI j)) 3 c (nI i)) 0 7 (nI (c + 1)), ta2, sI m5 4 (3 * c + 2) (nI i), by rw [i2, Option.bind_some, add_ok h7 hc _ _ (by omega), Option.bind_some, bz_1], ?_, rfl, ?_, hc, lag_4 (lag_le y3 (by omega)), taB_F i6, moK_trans moK_18 (moK_trans (moK_F y2) moK_4), bkF_add, ?_, ?_⟩
      · rw [lT, i3, Option.bind_some, if_neg u1, y1, Option.bind_some, Option.bind_some, m518, bz_1]
      · refine ents_add he (by rcases hA04 with w | w <;> subst w; exact Or.inl ⟨rfl, hj, i1⟩; exact Or.inr (Or.inr (Or.inr (Or.inr (Or.inl ⟨rfl, hj, i1⟩))))) (fun x hx => ?_) ?_ ?_ (fun _ _ => ?_)
        · rw [sI_1, if_neg (by omega), m54]
        · rw [sI_1, if_neg (by omega), m54]; exact k0
        · rw [sI_1, if_neg (by omega), m54]; exact k1
        · rw [sI_1, if_pos ⟨rfl, rfl⟩]
      · exact i6.2.1 2 (by omega) (by omega) (by omega) (by omega)
      · show m5.1 0 15 = _
        rw [y2.2.1 15 (by omega) (by omega)]; rfl
    · right
      obtain ⟨bk', f1, f2⟩ := add_no h7 hc (nI (vrb A)) (nI j)
      refine ⟨bk', ta2, sI m3 4 (3 * c + 2) (m3.1 0 18), by rw [i1, Option.bind_some, f1, Option.bind_some, bz_0], ?_, i3, i4, moK_trans (moK_B i5) moK_4, f2⟩
      rw [lT, i2, Option.bind_some, if_pos rfl, Option.bind_some, bz_0]
  rcases (show A = 0 ∨ A = 1 ∨ A = 2 ∨ A = 3 ∨ A = 4 by omega) with w | w | w | w | w
  · subst w
    have lC : fBk_readAct_J29 q bk ta1 (nI j) (nI (vrb 0)) = (fTa_takeHouse q ta1).bind fun r2 => (fBk_addAct bk (nI (vrb 0)) (nI j) r2.1).bind fun r3 => some (bz r3.1, r3.2, r2.2) := by
      unfold fBk_readAct_J29
      simp only [lit]
      rw [if_neg (show ¬ nI (vrb 0) = nI 5 by decide +kernel), if_pos (show nI (vrb 0) = nI 13 by decide +kernel)]
    rw [lC, if_neg (nA 2 (by omega) (by omega)), if_neg (nA 3 (by omega) (by omega)), if_neg (nA 1 (by omega) (by omega))]
    exact house (Or.inl rfl)
  · subst w
    have lC : fBk_readAct_J29 q bk ta1 (nI j) (nI (vrb 1)) = (fTa_takeOneOf ta1 (nI 8) (nI 10)).bind fun r2 => (fBk_addAct bk (nI (vrb 1)) (nI j) r2.1).bind fun r3 => some (bz r3.1, r3.2, r2.2) := by
      unfold fBk_readAct_J29
      simp only [lit]
      rw [if_neg (show ¬ nI (vrb 1) = nI 5 by decide +kernel), if_neg (show ¬ nI (vrb 1) = nI 13 by decide +kernel), if_pos (show nI (vrb 1) = nI 14 by decide +kernel)]
    rw [lC, if_neg (nA 2 (by omega) (by omega)), if_neg (nA 3 (by omega) (by omega)), if_pos rfl]
    rcases way_both hl with ⟨d, ta3, m5, p3, w1, w2, w3, w4, w5, w6, w7, w8, w9⟩ | ⟨ta3, m5, w1, w2, w3, w4, w5⟩
    · left
      have m54 : m5.1 4 = m4.1 4 := w8.1 4 (by omega)
      refine ⟨sI (sI (sI (sI bk 1 c (nI (vrb 1))) 2 c (nI j)) 3 c (nI d)) 0 7 (nI (c + 1)), ta3, sI m5 4 (3 * c + 2) (nI d), by rw [w2, Option.bind_some, add_ok h7 hc _ _ (by omega), Option.bind_some, bz_1], by rw [w3, Option.bind_some, w4, bz_1], rfl, ?_, hc, lag_4 (lag_le w5 (by omega)), taB_F w7, moK_trans (moK_B w8) moK_4, bkF_add, ?_, ?_⟩
      · refine ents_add he (Or.inr (Or.inl ⟨rfl, hj, w1⟩)) (fun x hx => ?_) ?_ ?_ (fun _ _ => ?_)
        · rw [sI_1, if_neg (by omega), m54]
        · rw [sI_1, if_neg (by omega), m54]; exact k0
        · rw [sI_1, if_neg (by omega), m54]; exact k1
        · rw [sI_1, if_pos ⟨rfl, rfl⟩]
      · exact w7.2.1 2 (by omega) (by omega) (by omega) (by omega)
      · show m5.1 0 15 = _
        rw [w9]
    · right
      obtain ⟨bk', f1, f2⟩ := add_no h7 hc (nI (vrb 1)) (nI j)
      refine ⟨bk', ta3, sI m5 4 (3 * c + 2) (m5.1 0 18), by rw [w1, Option.bind_some, f1, Option.bind_some, bz_0], by rw [w2, Option.bind_some, bz_0], w3, w4, moK_trans (moK_B w5) moK_4, f2⟩
  · subst w
    left
    have lC : fBk_readAct_J29 q bk ta1 (nI j) (nI (vrb 2)) = (fBk_addAct bk (nI (vrb 2)) (nI j) (nI 0)).bind fun r8 => some (bz r8.1, r8.2, ta1) := by
      unfold fBk_readAct_J29
      simp only [lit]
      rw [if_neg (show ¬ nI (vrb 2) = nI 5 by decide +kernel), if_neg (show ¬ nI (vrb 2) = nI 13 by decide +kernel), if_neg (show ¬ nI (vrb 2) = nI 14 by decide +kernel), if_pos (show nI (vrb 2) = nI 15 by decide +kernel)]
    refine ⟨sI (sI (sI (sI bk 1 c (nI (vrb 2))) 2 c (nI j)) 3 c (nI 0)) 0 7 (nI (c + 1)), ta1, m4, by rw [lC, add_ok h7 hc _ _ (by omega), Option.bind_some, bz_1], if_pos rfl, rfl, ents_add he (Or.inr (Or.inr (Or.inl ⟨rfl, hj, rfl⟩))) (fun _ _ => rfl) k0 k1 (fun u _ => absurd rfl u), hc, hl, taB_refl _, moK_refl _, bkF_add, rfl, rfl⟩
  · subst w
    have lC : fBk_readAct_J29 q bk ta1 (nI j) (nI (vrb 3)) = (fTa_takePerson q ta1).bind fun r9 => (fBk_addMeeting bk r9.2 (nI j) r9.1).bind fun r10 => some (bz r10.1, r10.2.1, r10.2.2) := by
      unfold fBk_readAct_J29
      simp only [lit]
      rw [if_neg (show ¬ nI (vrb 3) = nI 5 by decide +kernel), if_neg (show ¬ nI (vrb 3) = nI 13 by decide +kernel), if_neg (show ¬ nI (vrb 3) = nI 14 by decide +kernel), if_neg (show ¬ nI (vrb 3) = nI 15 by decide +kernel), if_pos (show nI (vrb 3) = nI 16 by decide +kernel)]
    rw [lC, if_neg (nA 2 (by omega) (by omega)), if_pos rfl]
    rcases pe_take (c := n) (base := 6) (by omega) (by omega) c4 (fun i hi => hN.2 i hi) hl with ⟨i, v2, l2, pl2, p2, ta2, i1, i2, i3, i4, i5, i6⟩ | ⟨ta2, m3, i1, i2, i3, i4, i5⟩
    · have e18 : (sI m4 0 18 (nI i)).1 0 18 = nI i := by rw [sI_1, if_pos ⟨rfl, rfl⟩]
      rw [i2, Option.bind_some, i3, Option.bind_some, if_neg u1]
      simp only [e18]
      by_cases hij : i = j
      · right
        subst hij
        obtain ⟨ta', m', f1, f2, f3, f4, f5⟩ := bad2 i4 (nI 3)
        refine ⟨bk, ta', m', ?_, ?_, f3, taB_trans (taB_F i6) f4, moK_trans moK_18 (moK_B f5), bkF_refl⟩
        · unfold fBk_addMeeting
          simp only [lit]
          rw [if_neg (nI_ne_m1' (by omega)), if_pos trivial, f1]
          simp only [Option.bind_some, bz_0]
        · rw [if_pos rfl, f2]
          simp only [Option.bind_some, bz_0]
      · left
        have hs5 : syn z lim b 2 v2 l2 pl2 p2 ta2 (sI (sI m4 0 18 (nI i)) 4 (3 * c + 2) (nI i)) := i4
        obtain ⟨m5, y1, y2, y3⟩ := syn_lag hs5 (by decide)
        have m54 : m5.1 4 = (sI (sI m4 0 18 (nI i)) 4 (3 * c + 2) (nI i)).1 4 := y2.1 4 (by omega)
        refine ⟨sI (sI (sI (sI bk 1 c (nI (vrb 3))) 2 c (nI j)) 3 c (nI i)) 0 7 (nI (c + 1)), ta2, m5, ?_, ?_, rfl, ?_, hc, lag_le y3 (by omega), taB_F i6, moK_trans moK_18 (moK_trans moK_4 (moK_F y2)), bkF_add (v1 := nI (vrb 3)) (v2 := nI j) (v3 := nI i), ?_, ?_⟩
        · have lA : fBk_addMeeting bk ta2 (nI j) (nI i) = (fBk_addAct bk (nI (vrb 3)) (nI j) (nI i)).bind fun r1 => some (bz r1.1, r1.2, ta2) := by
            unfold fBk_addMeeting
            simp only [lit]
            rw [if_neg (nI_ne_m1' (by omega)), if_neg (by rw [neq (by omega) (by omega)]; exact hij)]
            rfl
          rw [lA, add_ok h7 hc _ _ (by omega)]
          simp only [Option.bind_some, bz_1]
        · rw [if_neg (by rw [neq (by omega) (by omega)]; exact hij), y1, Option.bind_some]
        · refine ents_add he (Or.inr (Or.inr (Or.inr (Or.inl ⟨rfl, hj, i1, fun w => hij w.symm⟩)))) (fun x hx => ?_) ?_ ?_ (fun _ _ => ?_)
          · rw [m54, sI_1, if_neg (by omega)]; rfl
          · rw [m54, sI_1, if_neg (by omega)]; exact k0
          · rw [m54, sI_1, if_neg (by omega)]; exact k1
          · rw [m54, sI_1, if_pos ⟨rfl, rfl⟩]
        · exact i6.2.1 2 (by omega) (by omega) (by omega) (by omega)
        · rw [y2.2.1 15 (by omega) (by omega)]; rfl
    · right
      obtain ⟨bk', f1, f2⟩ := add_no h7 hc (nI (vrb 3)) (nI j)
      rw [i1, Option.bind_some, i2, Option.bind_some, if_pos rfl]
      refine ⟨bk', ta2, m3, ?_, rfl, i3, i4, moK_B i5, f2⟩
      have lA : fBk_addMeeting bk ta2 (nI j) (-nI 1) = (fBk_addAct bk (nI (vrb 3)) (nI j) (-nI 1)).bind fun r1 => some (bz r1.1, r1.2, ta2) := by
        unfold fBk_addMeeting
        simp only [lit]
        rw [if_pos trivial]
        rfl
      simp only
      rw [lA, f1]
      simp only [Option.bind_some, bz_0]
  · subst w
    have lC : fBk_readAct_J29 q bk ta1 (nI j) (nI (vrb 4)) = (fTa_takeHouse q ta1).bind fun r2 => (fBk_addAct bk (nI (vrb 4)) (nI j) r2.1).bind fun r3 => some (bz r3.1, r3.2, r2.2) := by
      unfold fBk_readAct_J29
      simp only [lit]
      rw [if_pos (show nI (vrb 4) = nI 5 by decide +kernel)]
    rw [lC, if_neg (nA 2 (by omega) (by omega)), if_neg (nA 3 (by omega) (by omega)), if_neg (nA 1 (by omega) (by omega))]
    exact house (Or.inr rfl)
end
