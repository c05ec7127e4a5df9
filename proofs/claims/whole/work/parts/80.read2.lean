theorem lcmpN (x y : Int64) : lg_cmp x y = nI 0 ↔ x = y := lcmp0 x y
theorem moB_18 {m : Obj} {v : Int32} : moB m (sI m 0 18 v) := ⟨fun j hj => va_up_ne _ _ hj, fun _ _ => rfl, fun i _ _ c => by rw [sI_1, if_neg (by omega)]⟩
section
variable {z lim : Nat} {b : Nat → Nat} {ta m ta' m' x y q : Obj} {k v pl p p0 : Nat} {l : List Nat}
theorem mo_isName (h : syn z lim b k v l pl p ta m) : fMo_isName m = some (nI (if k = 2 then 1 else 0)) := by
  obtain ⟨⟨-, -, -, -, -, -, -, hW⟩, ⟨t1, t2, t3, t4, t5⟩, -⟩ := h
  have u1 : ¬ nI 1 = nI 0 := by decide +kernel
  have lz : ∀ k0 : Bool, fMo_isName_J13 m (nI (bn k0)) = some (nI (bn (k0 && (fi (fun j => decide (m.2 0 17 = kw8 (kws.getD j []))) 29).isNone))) := fun k0 => by
    have key := iter_F (f := fMo_isName_L16 m) (F := fun i => (nI (bn (k0 && (fi (fun j => decide (m.2 0 17 = kw8 (kws.getD j []))) i).isNone)), nI i)) (nI (bn (k0 && (fi (fun j => decide (m.2 0 17 = kw8 (kws.getD j []))) 29).isNone))) 29 (by omega) (fun i hi => ?_) ?_
    · unfold fMo_isName_J13
      simp only [lit]
      have e0 : (k0 && (fi (fun j => decide (m.2 0 17 = kw8 (kws.getD j []))) 0).isNone) = k0 := by
        show (k0 && true) = k0
        rw [Bool.and_true]
      simp only [e0] at key
      rw [key, Option.bind_some, bz_b]
    · have hfi : (fi (fun j => decide (m.2 0 17 = kw8 (kws.getD j []))) (i + 1)).isNone = ((fi (fun j => decide (m.2 0 17 = kw8 (kws.getD j []))) i).isNone && !decide (m.2 0 17 = kw8 (kws.getD i []))) := by
        rcases fi_cases (fun j => decide (m.2 0 17 = kw8 (kws.getD j []))) i with ⟨f1, f2⟩ | ⟨j, j1, j2, j3, f1⟩
        · rw [f1]
          by_cases hq : m.2 0 17 = kw8 (kws.getD i [])
          · rw [fi_some (P := fun j => decide (m.2 0 17 = kw8 (kws.getD j []))) (k := i) (decide_eq_true hq) f2 (by omega), decide_eq_true hq]; rfl
          · rw [fi_none (fun j hj => ?_), decide_eq_false hq]
            · rfl
            · by_cases hji : j = i
              · subst hji; exact decide_eq_false hq
              · exact f2 j (by omega)
        · rw [f1, fi_some (P := fun j => decide (m.2 0 17 = kw8 (kws.getD j []))) (k := j) j2 j3 (by omega)]; rfl
      show fMo_isName_L16 m (nI (bn (k0 && (fi (fun j => decide (m.2 0 17 = kw8 (kws.getD j []))) i).isNone)), nI i) = some (.inl (nI (bn (k0 && (fi (fun j => decide (m.2 0 17 = kw8 (kws.getD j []))) (i + 1)).isNone)), nI (i + 1)))
      rw [hfi, ← Bool.and_assoc]
      generalize (k0 && (fi (fun j => decide (m.2 0 17 = kw8 (kws.getD j []))) i).isNone) = c0
      unfold fMo_isName_L16
      simp only [lit, nadd]
      rw [if_neg (by rw [nle (by omega) (by omega)]; omega), ix_nI (by omega) (by omega), Option.bind_some, (hW i hi).2]
      cases c0
      · rw [if_pos (show nI (bn false) = nI 0 from rfl)]; rfl
      · rw [if_neg (show ¬ nI (bn true) = nI 0 from u1)]
        by_cases hq : m.2 0 17 = kw8 (kws.getD i [])
        · rw [if_pos ((lcmpN _ _).mpr hq), decide_eq_true hq]; rfl
        · rw [if_neg (fun w => hq ((lcmpN _ _).mp w)), decide_eq_false hq]; rfl
    · show fMo_isName_L16 m (nI (bn (k0 && (fi (fun j => decide (m.2 0 17 = kw8 (kws.getD j []))) 29).isNone)), nI 29) = some (.inr (nI (bn (k0 && (fi (fun j => decide (m.2 0 17 = kw8 (kws.getD j []))) 29).isNone))))
      unfold fMo_isName_L16
      simp only [lit]
      rw [if_pos (by rw [nle (by omega) (by omega)]; omega)]
  have l0 : fMo_isName m = if m.1 0 11 = nI 1 then fMo_isName_J13 m (nI (bn true)) else fMo_isName_J13 m (nI (bn false)) := rfl
  have no : ∀ c, c < 5 → c ≠ 1 → k ≠ 2 → m.1 0 11 = nI c → fMo_isName m = some (nI (if k = 2 then 1 else 0)) := fun c h1 h2 h3 h4 => by
    rw [l0, h4, if_neg (by rw [neq (by omega) (by omega)]; exact h2), lz, Bool.false_and, if_neg h3]; rfl
  rcases t5 with t | t | t | t | t | t
  · exact no 0 (by omega) (by omega) (by omega) t.2
  · rw [l0, t.2.2.2.1, if_pos rfl, lz, Bool.true_and, if_neg (by omega)]
    have : (fi (fun j => decide (m.2 0 17 = kw8 (kws.getD j []))) 29).isSome = true := fi_is.mpr ⟨v, t.2.1, decide_eq_true t.2.2.2.2⟩
    cases hq : fi (fun j => decide (m.2 0 17 = kw8 (kws.getD j []))) 29 with
    | none => rw [hq] at this; cases this
    | some j => rfl
  · obtain ⟨a1, a2, a3, a4, a5, a6, a7, a8⟩ := t
    rw [l0, a6, if_pos rfl, lz, Bool.true_and, if_pos a1, fi_none (fun j hj => decide_eq_false (fun w => ?_))]
    · rfl
    · rw [a7] at w
      obtain ⟨k1, k2, k3⟩ := kws_ok j hj
      exact a8 j hj ((kw_inj8 a2 k1 a4 k3).mp w)
  · exact no 2 (by omega) (by omega) (by omega) t.2.2.2.1
  · exact no 3 (by omega) (by omega) (by omega) t.2.2.2.2.1
  · exact no 4 (by omega) (by omega) (by omega) t.2
theorem mo_seek {base c : Nat} (hbc : base + c ≤ 28) : fMo_seek m (nI base) (nI c) = some (bI (fi (fun j => decide (m.2 5 (base + j) = m.2 0 17)) c)) := by
  have key := find_loop (f := fMo_seek_L2 m (nI base) (nI c)) c (by omega) (fun j => decide (m.2 5 (base + j) = m.2 0 17)) (fun j hj hP => ?_) (fun j hj hP => ?_) ?_
  · unfold fMo_seek
    simp only [lit]
    rw [key]
    cases fi (fun j => decide (m.2 5 (base + j) = m.2 0 17)) c with
    | none => rfl
    | some j => rfl
  · unfold fMo_seek_L2
    simp only [lit]
    rw [if_neg (by rw [nle (by omega) (by omega)]; omega), nadd, ix_nI (by omega) (by omega), Option.bind_some, if_neg (fun w => absurd ((lcmpN _ _).mp w) (of_decide_eq_false hP)), nadd]
  · unfold fMo_seek_L2
    simp only [lit]
    rw [if_neg (by rw [nle (by omega) (by omega)]; omega), nadd, ix_nI (by omega) (by omega), Option.bind_some, if_pos ((lcmpN _ _).mpr (of_decide_eq_true hP))]
  · unfold fMo_seek_L2
    simp only [lit]
    rw [if_pos (by rw [nle (by omega) (by omega)]; omega)]

theorem pe_find {c : Nat} (hc : c ≤ 8) (h4 : q.1 0 4 = nI c) (w : Int64) : fQu_findPerson q w = some (bI (fi (fun j => decide (q.2 6 j = w)) c)) := by
  have key := find_loop (f := fQu_findPerson_L2 q w) c (by omega) (fun j => decide (q.2 6 j = w)) (fun j hj hP => ?_) (fun j hj hP => ?_) ?_
  · unfold fQu_findPerson
    simp only [lit]
    rw [key]
    cases fi (fun j => decide (q.2 6 j = w)) c with
    | none => rfl
    | some j => rfl
  · unfold fQu_findPerson_L2
    simp only [lit]
    rw [h4, if_neg (by rw [nle (by omega) (by omega)]; omega), if_neg (by rw [nle (by omega) (by omega)]; omega), ix_nI (by omega) (by omega), Option.bind_some, if_neg (fun w => absurd ((lcmpN _ _).mp w) (of_decide_eq_false hP)), nadd]
  · unfold fQu_findPerson_L2
    simp only [lit]
    rw [h4, if_neg (by rw [nle (by omega) (by omega)]; omega), if_neg (by rw [nle (by omega) (by omega)]; omega), ix_nI (by omega) (by omega), Option.bind_some, if_pos ((lcmpN _ _).mpr (of_decide_eq_true hP))]
  · unfold fQu_findPerson_L2
    simp only [lit]
    rw [h4, if_pos (by rw [nle (by omega) (by omega)]; omega)]
theorem pe_here {c base : Nat} (hc : c ≤ 8) (hbc : base + c ≤ 28) (h4 : q.1 0 4 = nI c) (hN : ∀ j, j < c → nmR (q.2 6 j) (m.2 5 (base + j))) (h : syn z lim b k v l pl p ta m) : (∃ j, j < c ∧ k = 2 ∧ fTa_personHere q ta = some (nI j, ta) ∧ fMo_looksAt m (nI base) (nI c) = some (nI 1, sI m 0 18 (nI j))) ∨ (∃ ta' m', fTa_personHere q ta = some (-nI 1, ta') ∧ fMo_looksAt m (nI base) (nI c) = some (nI 0, m') ∧ fai ta' m' ∧ taB ta ta' ∧ moB m m') := by
  have hn := mo_isName h
  have u1 : ¬ nI 1 = nI 0 := by decide +kernel
  obtain ⟨-, ⟨t1, t2, t3, t4, t5⟩, -⟩ := id h
  by_cases hk : k = 2
  · subst hk
    obtain ⟨-, l1, l2, l3, l4, l5, l6, l7⟩ : (2 = 2 ∧ lok l ∧ 1 ≤ l.length ∧ l.length ≤ 8 ∧ ta.2 0 6 = kw5 l ∧ m.1 0 11 = nI 1 ∧ m.2 0 17 = kw8 l ∧ ∀ w, w < 29 → l ≠ kws.getD w []) := by
      rcases t5 with t | t | t | t | t | t
      · exact absurd t.1 (by decide)
      · exact absurd t.1 (by decide)
      · exact t
      · exact absurd t.1 (by decide)
      · exact absurd t.1 (by decide)
      · exact absurd t.1 (by decide)
    have hl : nmR (kw5 l) (kw8 l) := ⟨l, l2, l3, l1, rfl, rfl⟩
    have hfc : fi (fun j => decide (q.2 6 j = kw5 l)) c = fi (fun j => decide (m.2 5 (base + j) = kw8 l)) c := fi_congr (fun j hj => decide_eq_decide.mpr (nmR_iff (hN j hj) hl))
    have s1 := pe_find hc h4 (kw5 l)
    have s2 := mo_seek (m := m) (base := base) (c := c) hbc
    rw [l6, ← hfc] at s2
    rw [if_pos rfl] at hn
    have lC : fTa_personHere q ta = (fQu_findPerson q (kw5 l)).bind fun r1 => if r1 = -nI 1 then (fTa_refuse ta (nI 3)).bind fun r2 => some (r2.1, r2.2) else some (r1, ta) := by
      unfold fTa_personHere
      simp only [lit]
      rw [t1, if_pos rfl, l4]
    have lM : fMo_looksAt m (nI base) (nI c) = (fMo_seek m (nI base) (nI c)).bind fun r3 => if nI 0 ≤ r3 then some (nI 1, sI m 0 18 r3) else (fMo_bad (sI m 0 18 r3) (nI 3)).bind fun r5 => if r5.1 = nI 0 then some (nI 0, r5.2) else some (nI 1, r5.2) := by
      have e18 : ∀ v, (sI m 0 18 v).1 0 18 = v := fun v => by rw [sI_1, if_pos ⟨rfl, rfl⟩]
      unfold fMo_looksAt
      simp only [lit, bnd]
      rw [hn, Option.bind_some, if_neg u1]
      simp only [e18]
    rw [s1, Option.bind_some] at lC
    rw [s2, Option.bind_some] at lM
    rcases fi_cases (fun j => decide (q.2 6 j = kw5 l)) c with ⟨f1, -⟩ | ⟨j, j1, -, -, f1⟩
    · right
      rw [f1] at lC lM
      have hs : syn z lim b 2 v l pl p ta (sI m 0 18 (-nI 1)) := h
      obtain ⟨ta', m', g1, g2, g3, g4, g5⟩ := bad2 hs (nI 3)
      refine ⟨ta', m', ?_, ?_, g3, g4, moB_trans moB_18 g5⟩
      · rw [lC]
        show (if -nI 1 = -nI 1 then _ else _) = _
        rw [if_pos rfl, g1]; rfl
      · rw [lM]
        show (if nI 0 ≤ -nI 1 then _ else (fMo_bad (sI m 0 18 (-nI 1)) (nI 3)).bind _) = _
        rw [if_neg (show ¬ nI 0 ≤ -nI 1 by decide +kernel), g2, Option.bind_some, if_pos rfl]
    · left
      rw [f1] at lC lM
      refine ⟨j, j1, rfl, ?_, ?_⟩
      · rw [lC]
        show (if nI j = -nI 1 then _ else some (nI j, ta)) = _
        rw [if_neg (nI_ne_m1' (by omega))]
      · rw [lM]
        show (if nI 0 ≤ nI j then some (nI 1, sI m 0 18 (nI j)) else _) = _
        rw [if_pos (by rw [nle (by omega) (by omega)]; omega)]
  · right
    obtain ⟨ta', m', g1, g2, g3, g4, g5⟩ := bad2 h (nI 1)
    rw [if_neg hk] at hn
    have hk6 : k < 6 := by omega
    refine ⟨ta', m', ?_, ?_, g3, g4, g5⟩
    · unfold fTa_personHere
      simp only [lit]
      rw [t1, if_neg (by rw [neq (by omega) (by omega)]; exact hk), g1]
      rfl
    · unfold fMo_looksAt
      simp only [lit, bnd]
      rw [hn, Option.bind_some, if_pos rfl, g2]
      simp only [Option.bind_some, bz_0]
/-- .. after one token more -/
theorem pe_take {c base : Nat} (hc : c ≤ 8) (hbc : base + c ≤ 28) (h4 : q.1 0 4 = nI c) (hN : ∀ j, j < c → nmR (q.2 6 j) (m.2 5 (base + j))) (h : lag z lim b p0 ta m) : (∃ j v l pl p ta1, j < c ∧ fTa_takePerson q ta = some (nI j, ta1) ∧ fMo_looksAt m (nI base) (nI c) = some (nI 1, sI m 0 18 (nI j)) ∧ syn z lim b 2 v l pl p ta1 (sI m 0 18 (nI j)) ∧ p0 < p ∧ taF ta ta1) ∨ (∃ ta' m', fTa_takePerson q ta = some (-nI 1, ta') ∧ fMo_looksAt m (nI base) (nI c) = some (nI 0, m') ∧ fai ta' m' ∧ taB ta ta' ∧ moB m m') := by
  obtain ⟨ta1, k, v, l, pl, p, h1, h1', h2, h3, -⟩ := h
  rcases pe_here hc hbc h4 hN h2 with ⟨j, j1, j2, j3, j4⟩ | ⟨ta', m', g1, g2, g3, g4, g5⟩
  · left
    subst j2
    refine ⟨j, v, l, pl, p, ta1, j1, ?_, j4, h2, h3 (by decide) (by decide), h1'⟩
    unfold fTa_takePerson
    rw [h1, Option.bind_some, j3]
    rfl
  · right
    refine ⟨ta', m', ?_, g2, g3, taB_trans (taB_F h1') g4, g5⟩
    unfold fTa_takePerson
    rw [h1, Option.bind_some, g1]
    rfl

theorem ho_find {c : Nat} (hc : c ≤ 6) (h4 : q.1 0 3 = nI c) (w : Int64) : fQu_findHouse q w = some (bI (fi (fun j => decide (q.2 3 j = w)) c)) := by
  have key := find_loop (f := fQu_findHouse_L2 q w) c (by omega) (fun j => decide (q.2 3 j = w)) (fun j hj hP => ?_) (fun j hj hP => ?_) ?_
  · unfold fQu_findHouse
    simp only [lit]
    rw [key]
    cases fi (fun j => decide (q.2 3 j = w)) c with
    | none => rfl
    | some j => rfl
  · unfold fQu_findHouse_L2
    simp only [lit]
    rw [h4, if_neg (by rw [nle (by omega) (by omega)]; omega), if_neg (by rw [nle (by omega) (by omega)]; omega), ix_nI (by omega) (by omega), Option.bind_some, if_neg (fun w => absurd ((lcmpN _ _).mp w) (of_decide_eq_false hP)), nadd]
  · unfold fQu_findHouse_L2
    simp only [lit]
    rw [h4, if_neg (by rw [nle (by omega) (by omega)]; omega), if_neg (by rw [nle (by omega) (by omega)]; omega), ix_nI (by omega) (by omega), Option.bind_some, if_pos ((lcmpN _ _).mpr (of_decide_eq_true hP))]
  · unfold fQu_findHouse_L2
    simp only [lit]
    rw [h4, if_pos (by rw [nle (by omega) (by omega)]; omega)]
theorem ho_here {c base : Nat} (hc : c ≤ 6) (hbc : base + c ≤ 28) (h4 : q.1 0 3 = nI c) (hN : ∀ j, j < c → nmR (q.2 3 j) (m.2 5 (base + j))) (h : syn z lim b k v l pl p ta m) : (∃ j, j < c ∧ k = 2 ∧ fTa_houseHere q ta = some (nI j, ta) ∧ fMo_looksAt m (nI base) (nI c) = some (nI 1, sI m 0 18 (nI j))) ∨ (∃ ta' m', fTa_houseHere q ta = some (-nI 1, ta') ∧ fMo_looksAt m (nI base) (nI c) = some (nI 0, m') ∧ fai ta' m' ∧ taB ta ta' ∧ moB m m') := by
  have hn := mo_isName h
  have u1 : ¬ nI 1 = nI 0 := by decide +kernel
  obtain ⟨-, ⟨t1, t2, t3, t4, t5⟩, -⟩ := id h
  by_cases hk : k = 2
  · subst hk
    obtain ⟨-, l1, l2, l3, l4, l5, l6, l7⟩ : (2 = 2 ∧ lok l ∧ 1 ≤ l.length ∧ l.length ≤ 8 ∧ ta.2 0 6 = kw5 l ∧ m.1 0 11 = nI 1 ∧ m.2 0 17 = kw8 l ∧ ∀ w, w < 29 → l ≠ kws.getD w []) := by
      rcases t5 with t | t | t | t | t | t
      · exact absurd t.1 (by decide)
      · exact absurd t.1 (by decide)
      · exact t
      · exact absurd t.1 (by decide)
      · exact absurd t.1 (by decide)
      · exact absurd t.1 (by decide)
    have hl : nmR (kw5 l) (kw8 l) := ⟨l, l2, l3, l1, rfl, rfl⟩
    have hfc : fi (fun j => decide (q.2 3 j = kw5 l)) c = fi (fun j => decide (m.2 5 (base + j) = kw8 l)) c := fi_congr (fun j hj => decide_eq_decide.mpr (nmR_iff (hN j hj) hl))
    have s1 := ho_find hc h4 (kw5 l)
    have s2 := mo_seek (m := m) (base := base) (c := c) hbc
    rw [l6, ← hfc] at s2
    rw [if_pos rfl] at hn
    have lC : fTa_houseHere q ta = (fQu_findHouse q (kw5 l)).bind fun r1 => if r1 = -nI 1 then (fTa_refuse ta (nI 3)).bind fun r2 => some (r2.1, r2.2) else some (r1, ta) := by
      unfold fTa_houseHere
      simp only [lit]
      rw [t1, if_pos rfl, l4]
    have lM : fMo_looksAt m (nI base) (nI c) = (fMo_seek m (nI base) (nI c)).bind fun r3 => if nI 0 ≤ r3 then some (nI 1, sI m 0 18 r3) else (fMo_bad (sI m 0 18 r3) (nI 3)).bind fun r5 => if r5.1 = nI 0 then some (nI 0, r5.2) else some (nI 1, r5.2) := by
      have e18 : ∀ v, (sI m 0 18 v).1 0 18 = v := fun v => by rw [sI_1, if_pos ⟨rfl, rfl⟩]
      unfold fMo_looksAt
      simp only [lit, bnd]
      rw [hn, Option.bind_some, if_neg u1]
      simp only [e18]
    rw [s1, Option.bind_some] at lC
    rw [s2, Option.bind_some] at lM
    rcases fi_cases (fun j => decide (q.2 3 j = kw5 l)) c with ⟨f1, -⟩ | ⟨j, j1, -, -, f1⟩
    · right
      rw [f1] at lC lM
      have hs : syn z lim b 2 v l pl p ta (sI m 0 18 (-nI 1)) := h
      obtain ⟨ta', m', g1, g2, g3, g4, g5⟩ := bad2 hs (nI 3)
      refine ⟨ta', m', ?_, ?_, g3, g4, moB_trans moB_18 g5⟩
      · rw [lC]
        show (if -nI 1 = -nI 1 then _ else _) = _
        rw [if_pos rfl, g1]; rfl
      · rw [lM]
        show (if nI 0 ≤ -nI 1 then _ else (fMo_bad (sI m 0 18 (-nI 1)) (nI 3)).bind _) = _
        rw [if_neg (show ¬ nI 0 ≤ -nI 1 by decide +kernel), g2, Option.bind_some, if_pos rfl]
    · left
      rw [f1] at lC lM
      refine ⟨j, j1, rfl, ?_, ?_⟩
      · rw [lC]
        show (if nI j = -nI 1 then _ else some (nI j, ta)) = _
        rw [if_neg (nI_ne_m1' (by omega))]
      · rw [lM]
        show (if nI 0 ≤ nI j then some (nI 1, sI m 0 18 (nI j)) else _) = _
        rw [if_pos (by rw [nle (by omega) (by omega)]; omega)]
  · right
    obtain ⟨ta', m', g1, g2, g3, g4, g5⟩ := bad2 h (nI 1)
    rw [if_neg hk] at hn
    have hk6 : k < 6 := by omega
    refine ⟨ta', m', ?_, ?_, g3, g4, g5⟩
    · unfold fTa_houseHere
      simp only [lit]
      rw [t1, if_neg (by rw [neq (by omega) (by omega)]; exact hk), g1]
      rfl
    · unfold fMo_looksAt
      simp only [lit, bnd]
      rw [hn, Option.bind_some, if_pos rfl, g2]
      simp only [Option.bind_some, bz_0]
/-- .. after one token more -/
theorem ho_take {c base : Nat} (hc : c ≤ 6) (hbc : base + c ≤ 28) (h4 : q.1 0 3 = nI c) (hN : ∀ j, j < c → nmR (q.2 3 j) (m.2 5 (base + j))) (h : lag z lim b p0 ta m) : (∃ j v l pl p ta1, j < c ∧ fTa_takeHouse q ta = some (nI j, ta1) ∧ fMo_looksAt m (nI base) (nI c) = some (nI 1, sI m 0 18 (nI j)) ∧ syn z lim b 2 v l pl p ta1 (sI m 0 18 (nI j)) ∧ p0 < p ∧ taF ta ta1) ∨ (∃ ta' m', fTa_takeHouse q ta = some (-nI 1, ta') ∧ fMo_looksAt m (nI base) (nI c) = some (nI 0, m') ∧ fai ta' m' ∧ taB ta ta' ∧ moB m m') := by
  obtain ⟨ta1, k, v, l, pl, p, h1, h1', h2, h3, -⟩ := h
  rcases ho_here hc hbc h4 hN h2 with ⟨j, j1, j2, j3, j4⟩ | ⟨ta', m', g1, g2, g3, g4, g5⟩
  · left
    subst j2
    refine ⟨j, v, l, pl, p, ta1, j1, ?_, j4, h2, h3 (by decide) (by decide), h1'⟩
    unfold fTa_takeHouse
    rw [h1, Option.bind_some, j3]
    rfl
  · right
    refine ⟨ta', m', ?_, g2, g3, taB_trans (taB_F h1') g4, g5⟩
    unfold fTa_takeHouse
    rw [h1, Option.bind_some, g1]
    rfl
end
