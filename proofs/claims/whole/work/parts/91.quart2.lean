section
variable {X X' X1 : Nat → Obj} {z lim : Nat} {b : Nat → Nat} {ta ta1 m ta' m' m1 x y q q' qr qr' sc sc' : Obj} {k v v0 pl p p0 : Nat} {l : List Nat} {n h L e t : Nat} {hp hm : Nat → Nat} {sr sr' : Nat → Bool} {S : Nat → Nat → Nat} {fa fb fc : Bool}
theorem mo_clears_ok : fMo_clears m = some (sI (sI (sI (sA m 3 (fun i => if 0 ≤ i ∧ i < 0 + 69 then nI 0 else m.1 3 i)) 3 2 (nI 10)) 3 3 (nI 2)) 3 4 (nI 3)) := by
  have key := cpyL (m := m) (f := fMo_clears_L2) 3 0 69 (by omega) (fun _ => nI 0) (fun k hk => ?_) (fun x => ?_)
  · unfold fMo_clears
    simp only [lit]
    rw [key]
    rfl
  · generalize (fun i => if 0 ≤ i ∧ i < 0 + k then (fun _ => nI 0) (i - 0) else m.1 3 i) = g
    unfold fMo_clears_L2
    simp only [lit]
    rw [if_neg (by rw [nle (by omega) (by omega)]; omega), ix_nI (by omega) (by omega)]
    simp only [Option.bind_some, bnd, nadd, Nat.zero_add]
  · unfold fMo_clears_L2
    simp only [lit]
    rw [if_pos (by rw [nle (by omega) (by omega)]; omega)]
theorem mo_L80 : iter fMo_quarter_L80 FU (nI 0, m) = some (sA m 2 (fun i => if 0 ≤ i ∧ i < 0 + 342 then (if 69 ≤ i - 0 then nI 0 else m.1 3 (i - 0)) else m.1 2 i)) := by
  refine cpyL (m := m) (f := fMo_quarter_L80) 2 0 342 (by omega) (fun i => if 69 ≤ i then nI 0 else m.1 3 i) (fun k hk => ?_) (fun x => ?_)
  · show fMo_quarter_L80 (nI k, sA m 2 (fun i => if 0 ≤ i ∧ i < 0 + k then (if 69 ≤ i - 0 then nI 0 else m.1 3 (i - 0)) else m.1 2 i)) = some (.inl (nI (k + 1), sI (sA m 2 (fun i => if 0 ≤ i ∧ i < 0 + k then (if 69 ≤ i - 0 then nI 0 else m.1 3 (i - 0)) else m.1 2 i)) 2 (0 + k) (if 69 ≤ k then nI 0 else m.1 3 k)))
    generalize (fun i => if 0 ≤ i ∧ i < 0 + k then (if 69 ≤ i - 0 then nI 0 else m.1 3 (i - 0)) else m.1 2 i) = g
    have e2 : ∀ j, (sA m 2 g).1 3 j = m.1 3 j := fun j => rfl
    unfold fMo_quarter_L80
    simp only [lit]
    rw [if_neg (by rw [nle (by omega) (by omega)]; omega)]
    by_cases hk69 : 69 ≤ k
    · rw [if_pos (by rw [nle (by omega) (by omega)]; exact hk69), if_pos hk69, ix_nI (by omega) (by omega)]
      simp only [Option.bind_some, bnd, nadd, Nat.zero_add]
    · rw [if_neg (by rw [nle (by omega) (by omega)]; exact hk69), if_neg hk69, ix_nI (by omega) (by omega), ix_nI (by omega) (by omega)]
      simp only [Option.bind_some, bnd, e2, nadd, Nat.zero_add]
  · unfold fMo_quarter_L80
    simp only [lit]
    rw [if_pos (by rw [nle (by omega) (by omega)]; omega)]
theorem mo_L117 : iter fMo_quarter_L117 FU (nI 0, m) = some (sAL m 5 (fun i => if 0 ≤ i ∧ i < 0 + 14 then m.2 5 (14 + (i - 0)) else m.2 5 i)) := by
  refine cpyLL (m := m) (f := fMo_quarter_L117) 5 0 14 (by omega) (fun i => m.2 5 (14 + i)) (fun k hk => ?_) (fun x => ?_)
  · show fMo_quarter_L117 (nI k, sAL m 5 (fun i => if 0 ≤ i ∧ i < 0 + k then m.2 5 (14 + (i - 0)) else m.2 5 i)) = some (.inl (nI (k + 1), sL (sAL m 5 (fun i => if 0 ≤ i ∧ i < 0 + k then m.2 5 (14 + (i - 0)) else m.2 5 i)) 5 (0 + k) (m.2 5 (14 + k))))
    have e2 : (sAL m 5 (fun i => if 0 ≤ i ∧ i < 0 + k then m.2 5 (14 + (i - 0)) else m.2 5 i)).2 5 (14 + k) = m.2 5 (14 + k) := by rw [sAL_2, if_pos rfl, if_neg (by omega)]
    generalize (fun i => if 0 ≤ i ∧ i < 0 + k then m.2 5 (14 + (i - 0)) else m.2 5 i) = g at e2
    unfold fMo_quarter_L117
    simp only [lit]
    rw [if_neg (by rw [nle (by omega) (by omega)]; omega), nadd, ix_nI (by omega) (by omega), ix_nI (by omega) (by omega)]
    simp only [Option.bind_some, bnd, e2, nadd, Nat.zero_add]
  · unfold fMo_quarter_L117
    simp only [lit]
    rw [if_pos (by rw [nle (by omega) (by omega)]; omega)]
theorem mo_L160 : ∃ m', iter fMo_quarter_L160 FU (nI 0, m) = some m' ∧ m'.2 = m.2 ∧ (∀ j, j ≠ 2 → m'.1 j = m.1 j) ∧ (∀ i, i < 81 ∨ (97 ≤ i ∧ i < 113) ∨ 121 ≤ i → m'.1 2 i = m.1 2 i) ∧ ∀ r, r < 8 → m'.1 2 (81 + r) = m.1 2 (19 + r) ∧ m'.1 2 (89 + r) = m.1 2 (27 + r) ∧ m'.1 2 (113 + r) = m.1 2 (36 + r) := by
  refine lpo (f := fMo_quarter_L160) (J := fun k m' => m'.2 = m.2 ∧ (∀ j, j ≠ 2 → m'.1 j = m.1 j) ∧ (∀ i, i < 81 ∨ (97 ≤ i ∧ i < 113) ∨ 121 ≤ i → m'.1 2 i = m.1 2 i) ∧ ∀ r, r < k → m'.1 2 (81 + r) = m.1 2 (19 + r) ∧ m'.1 2 (89 + r) = m.1 2 (27 + r) ∧ m'.1 2 (113 + r) = m.1 2 (36 + r)) 8 (by omega) (x := m) ⟨rfl, fun _ _ => rfl, fun _ _ => rfl, fun r hr => absurd hr (by omega)⟩ (fun k x hk hz => ?_) (fun x _ => ?_)
  · obtain ⟨z1, z2, z3, z4⟩ := hz
    refine ⟨sI (sI (sI x 2 (81 + k) (m.1 2 (19 + k))) 2 (89 + k) (m.1 2 (27 + k))) 2 (113 + k) (m.1 2 (36 + k)), ?_, z1, fun j hj => ?_, fun i hi => ?_, fun r hr => ?_⟩
    · have a1 : x.1 2 (19 + k) = m.1 2 (19 + k) := z3 _ (by omega)
      have a2 : ∀ w, (sI x 2 (81 + k) w).1 2 (27 + k) = m.1 2 (27 + k) := fun w => by rw [sI_1, if_neg (by omega)]; exact z3 _ (by omega)
      have a3 : ∀ w w', (sI (sI x 2 (81 + k) w) 2 (89 + k) w').1 2 (36 + k) = m.1 2 (36 + k) := fun w w' => by rw [sI_1, if_neg (by omega), sI_1, if_neg (by omega)]; exact z3 _ (by omega)
      unfold fMo_quarter_L160
      simp only [lit, bnd, nadd]
      rw [if_neg (by rw [nle (by omega) (by omega)]; omega), ix_nI (by omega) (by omega), Option.bind_some, ix_nI (by omega) (by omega), Option.bind_some, ix_nI (by omega) (by omega), Option.bind_some, ix_nI (by omega) (by omega), Option.bind_some, ix_nI (by omega) (by omega), Option.bind_some, ix_nI (by omega) (by omega), Option.bind_some, a1, a2, a3]
    · show va_up (va_up (va_up x.1 2 _) 2 _) 2 _ j = _
      rw [va_up_ne _ _ hj, va_up_ne _ _ hj, va_up_ne _ _ hj]; exact z2 j hj
    · rw [sI_1, if_neg (by omega), sI_1, if_neg (by omega), sI_1, if_neg (by omega)]; exact z3 i hi
    · simp only [sI_1]
      by_cases hrk : r = k
      · subst hrk
        rw [if_neg (by omega), if_neg (by omega), if_pos ⟨trivial, rfl⟩, if_neg (by omega), if_pos ⟨trivial, rfl⟩, if_pos ⟨trivial, rfl⟩]
        exact ⟨rfl, rfl, rfl⟩
      · rw [if_neg (by omega), if_neg (by omega), if_neg (by omega), if_neg (by omega), if_neg (by omega), if_neg (by omega), if_neg (by omega), if_neg (by omega), if_neg (by omega)]
        exact z4 r (by omega)
  · unfold fMo_quarter_L160
    simp only [lit]
    rw [if_pos (by rw [nle (by omega) (by omega)]; omega)]
theorem mo_L228 : ∃ m', iter fMo_quarter_L228 FU (nI 0, m) = some m' ∧ m'.2 = m.2 ∧ (∀ j, j ≠ 2 → m'.1 j = m.1 j) ∧ (∀ i, i < 137 ∨ 161 ≤ i → m'.1 2 i = m.1 2 i) ∧ ∀ r, r < 12 → m'.1 2 (137 + r) = m.1 2 (45 + r) ∧ m'.1 2 (149 + r) = m.1 2 (57 + r) := by
  refine lpo (f := fMo_quarter_L228) (J := fun k m' => m'.2 = m.2 ∧ (∀ j, j ≠ 2 → m'.1 j = m.1 j) ∧ (∀ i, i < 137 ∨ 161 ≤ i → m'.1 2 i = m.1 2 i) ∧ ∀ r, r < k → m'.1 2 (137 + r) = m.1 2 (45 + r) ∧ m'.1 2 (149 + r) = m.1 2 (57 + r)) 12 (by omega) (x := m) ⟨rfl, fun _ _ => rfl, fun _ _ => rfl, fun r hr => absurd hr (by omega)⟩ (fun k x hk hz => ?_) (fun x _ => ?_)
  · obtain ⟨z1, z2, z3, z4⟩ := hz
    refine ⟨sI (sI x 2 (137 + k) (m.1 2 (45 + k))) 2 (149 + k) (m.1 2 (57 + k)), ?_, z1, fun j hj => ?_, fun i hi => ?_, fun r hr => ?_⟩
    · have a1 : x.1 2 (45 + k) = m.1 2 (45 + k) := z3 _ (by omega)
      have a2 : ∀ w, (sI x 2 (137 + k) w).1 2 (57 + k) = m.1 2 (57 + k) := fun w => by rw [sI_1, if_neg (by omega)]; exact z3 _ (by omega)
      unfold fMo_quarter_L228
      simp only [lit, bnd, nadd]
      rw [if_neg (by rw [nle (by omega) (by omega)]; omega), ix_nI (by omega) (by omega), Option.bind_some, ix_nI (by omega) (by omega), Option.bind_some, ix_nI (by omega) (by omega), Option.bind_some, ix_nI (by omega) (by omega), Option.bind_some, a1, a2]
    · show va_up (va_up x.1 2 _) 2 _ j = _
      rw [va_up_ne _ _ hj, va_up_ne _ _ hj]; exact z2 j hj
    · rw [sI_1, if_neg (by omega), sI_1, if_neg (by omega)]; exact z3 i hi
    · simp only [sI_1]
      by_cases hrk : r = k
      · subst hrk
        rw [if_neg (by omega), if_pos ⟨trivial, rfl⟩, if_pos ⟨trivial, rfl⟩]
        exact ⟨rfl, rfl⟩
      · rw [if_neg (by omega), if_neg (by omega), if_neg (by omega), if_neg (by omega)]
        exact z4 r (by omega)
  · unfold fMo_quarter_L228
    simp only [lit]
    rw [if_pos (by rw [nle (by omega) (by omega)]; omega)]
/-- the reference's end of a QUARTER: the row that was read becomes the row that stands -/
theorem mo_fin : ∃ m', ((iter fMo_quarter_L80 FU (nI 0, m)).bind fun e17 => (iter fMo_quarter_L117 FU (nI 0, e17)).bind fun e21 => (iter fMo_quarter_L160 FU (nI 0, sI e21 2 72 (e21.1 2 44))).bind fun e32 => (iter fMo_quarter_L228 FU (nI 0, e32)).bind fun e39 => some ((sI e39 0 23 (nI 0)).1 0 19, sI e39 0 23 (nI 0))) = some (m.1 0 19, m') ∧ (∀ j, j ≠ 0 → j ≠ 2 → m'.1 j = m.1 j) ∧ (∀ i, i ≠ 23 → m'.1 0 i = m.1 0 i) ∧ m'.1 0 23 = nI 0 ∧ (∀ j, j ≠ 5 → m'.2 j = m.2 j) ∧ (∀ i, i < 14 → m'.2 5 i = m.2 5 (14 + i)) ∧ (∀ i, i < 69 → m'.1 2 i = m.1 3 i) ∧ m'.1 2 72 = m.1 3 44 ∧ (∀ r, r < 8 → m'.1 2 (81 + r) = m.1 3 (19 + r) ∧ m'.1 2 (89 + r) = m.1 3 (27 + r) ∧ m'.1 2 (113 + r) = m.1 3 (36 + r)) ∧ (∀ r, r < 12 → m'.1 2 (137 + r) = m.1 3 (45 + r) ∧ m'.1 2 (149 + r) = m.1 3 (57 + r)) ∧ (∀ i, 69 ≤ i → i < 342 → i ≠ 72 → i < 81 ∨ (97 ≤ i ∧ i < 113) ∨ (121 ≤ i ∧ i < 137) ∨ 161 ≤ i → m'.1 2 i = nI 0) := by
  rw [mo_L80, Option.bind_some, mo_L117, Option.bind_some]
  generalize hA : sA m 2 (fun i => if 0 ≤ i ∧ i < 0 + 342 then (if 69 ≤ i - 0 then nI 0 else m.1 3 (i - 0)) else m.1 2 i) = mA
  have A2 : ∀ i, i < 342 → mA.1 2 i = if 69 ≤ i then nI 0 else m.1 3 i := fun i hi => by
    rw [← hA, sA_1, if_pos rfl, if_pos (by omega)]
    rfl
  have Aj : ∀ j, j ≠ 2 → mA.1 j = m.1 j := fun j hj => by rw [← hA]; exact va_up_ne _ _ hj
  have A5 : mA.2 = m.2 := by rw [← hA]; rfl
  generalize hB : sAL mA 5 (fun i => if 0 ≤ i ∧ i < 0 + 14 then mA.2 5 (14 + (i - 0)) else mA.2 5 i) = mB
  have B1 : mB.1 = mA.1 := by rw [← hB]; rfl
  have B5 : ∀ i, i < 14 → mB.2 5 i = m.2 5 (14 + i) := fun i hi => by
    rw [← hB, sAL_2, if_pos rfl, if_pos (by omega), A5]
    rfl
  have Bj : ∀ j, j ≠ 5 → mB.2 j = m.2 j := fun j hj => by
    rw [← hB]
    show va_up mA.2 5 _ j = _
    rw [va_up_ne _ _ hj, A5]
  obtain ⟨mC, c1, c2, c3, c4, c5⟩ := mo_L160 (m := sI mB 2 72 (mB.1 2 44))
  obtain ⟨mD, d1, d2, d3, d4, d5⟩ := mo_L228 (m := mC)
  rw [c1, Option.bind_some, d1, Option.bind_some]
  have C0 : ∀ i, i ≠ 72 → i < 342 → (sI mB 2 72 (mB.1 2 44)).1 2 i = if 69 ≤ i then nI 0 else m.1 3 i := fun i h1 h2 => by
    rw [sI_1, if_neg (by omega), B1]; exact A2 i h2
  have E0 : ∀ i, i ≠ 23 → (sI mD 0 23 (nI 0)).1 0 i = m.1 0 i := fun i hi => by
    rw [sI_1, if_neg (by omega), d3 0 (by omega), c3 0 (by omega)]
    show mB.1 0 i = _
    rw [B1, Aj 0 (by omega)]
  refine ⟨sI mD 0 23 (nI 0), by rw [E0 19 (by omega)], fun j h0 h2 => ?_, E0, by rw [sI_1, if_pos ⟨rfl, rfl⟩], fun j hj => ?_, fun i hi => ?_, fun i hi => ?_, ?_, fun r hr => ?_, fun r hr => ?_, fun i h1 h2 h3 h4 => ?_⟩
  · show va_up mD.1 0 _ j = _
    rw [va_up_ne _ _ h0, d3 j h2, c3 j h2]
    show va_up mB.1 2 _ j = _
    rw [va_up_ne _ _ h2, B1, Aj j h2]
  · show mD.2 j = _
    rw [d2, c2]
    exact Bj j hj
  · show mD.2 5 i = _
    rw [d2, c2]
    exact B5 i hi
  · show mD.1 2 i = _
    rw [d4 i (by omega), c4 i (by omega), C0 i (by omega) (by omega), if_neg (by omega)]
  · show mD.1 2 72 = _
    rw [d4 72 (by omega), c4 72 (by omega), sI_1, if_pos ⟨rfl, rfl⟩, B1, A2 44 (by omega), if_neg (by omega)]
  · obtain ⟨f1, f2, f3⟩ := c5 r hr
    show mD.1 2 (81 + r) = _ ∧ mD.1 2 (89 + r) = _ ∧ mD.1 2 (113 + r) = _
    rw [d4 (81 + r) (by omega), d4 (89 + r) (by omega), d4 (113 + r) (by omega), f1, f2, f3, C0 (19 + r) (by omega) (by omega), C0 (27 + r) (by omega) (by omega), C0 (36 + r) (by omega) (by omega), if_neg (by omega), if_neg (by omega), if_neg (by omega)]
    exact ⟨rfl, rfl, rfl⟩
  · obtain ⟨f1, f2⟩ := d5 r hr
    show mD.1 2 (137 + r) = _ ∧ mD.1 2 (149 + r) = _
    rw [f1, f2, c4 (45 + r) (by omega), c4 (57 + r) (by omega), C0 (45 + r) (by omega) (by omega), C0 (57 + r) (by omega) (by omega), if_neg (by omega), if_neg (by omega)]
    exact ⟨rfl, rfl⟩
  · show mD.1 2 i = _
    rw [d4 i (by omega), c4 i (by omega), C0 i (by omega) (by omega), if_pos (by omega)]
theorem past_x {un : Nat → Int32} {many : Int32} (hP : pPast n h L hp X un many) (hx : ∀ j, 100 ≤ j → j < 201 → X' j = X j) : pPast n h L hp X' un many := by
  obtain ⟨f, z, p1, p2, p3, p4, p5, p6⟩ := hP
  refine ⟨f, z, p1, p2, ?_, ?_, p5, fun i hi => ?_⟩
  · rw [hx 100 (by omega) (by omega)]; exact p3
  · rw [hx 100 (by omega) (by omega)]; exact p4
  · rw [hx (102 + 11 * ((f + i) % 9)) (by omega) (by omega)]; exact p6 i hi
theorem pRest_read (hr : pRest X m) (hx : ∀ j, (52 ≤ j ∧ j < 100) ∨ 220 ≤ j → X' j = X j) (x0 : ∀ i, i ≠ 12 → (X' 0).1 0 i = (X 0).1 0 i) (xf : (X' 0).1 0 12 = m'.1 0 15) (x1 : (X' 1).2 1 = (X 1).2 1)
    (f1 : ∀ j, j = 11 ∨ j = 12 ∨ j = 16 ∨ j = 18 → m'.1 j = m.1 j) (g6 : m'.2 6 = m.2 6) (g17 : m'.2 17 = m.2 17) (f0 : ∀ i, 24 ≤ i → i ≤ 33 → m'.1 0 i = m.1 0 i) (hT : pTol (X' 213) (m'.1 0 37) (m'.1 13)) : pRest X' m' := by
  obtain ⟨r1, r2, r3, r4, r5, r6, r7, r8, r9⟩ := hr
  refine ⟨?_, ?_, ?_, xf, ?_, ?_, ?_, ?_, hT⟩
  · rw [hx 52 (by omega), hx 53 (by omega), hx 60 (by omega), hx 71 (by omega), f1 16 (by omega), f1 18 (by omega), g17]
    exact r1
  · rw [hx 76 (by omega), hx 77 (by omega), hx 84 (by omega), hx 95 (by omega), f1 16 (by omega), f1 18 (by omega), g17]
    exact r2
  · rw [x1, g6]; exact r3
  · rw [x0 13 (by omega), f0 24 (by omega) (by omega), f0 25 (by omega) (by omega)]; exact r5
  · rw [x0 14 (by omega), f0 30 (by omega) (by omega), f0 31 (by omega) (by omega)]; exact r6
  · rw [hx 220 (by omega), f0 29 (by omega) (by omega), f1 11 (by omega)]; exact r7
  · rw [hx 223 (by omega), f0 33 (by omega) (by omega), f1 12 (by omega)]; exact r8
/-- a reading that ended in a refusal, or left the street as it was -/
theorem R_read (hs : pStr n h L e t hp hm sr (X 5) (X 12) (X 23) (m.1 2) (m.2 5)) (hP : pPast n h L hp X (m.1 7) (m.1 0 23)) (hr : pRest X m)
    (hx : ∀ j, j ≠ 0 → j ≠ 1 → j ≠ 29 → j ≠ 36 → j ≠ 47 → j ≠ 201 → j ≠ 212 → j ≠ 213 → X' j = X j) (x0 : ∀ i, i ≠ 12 → (X' 0).1 0 i = (X 0).1 0 i) (xf : (X' 0).1 0 12 = m'.1 0 15) (x1 : (X' 1).2 1 = (X 1).2 1) (xs : (X' 1).1 0 1 = nI 0) (ml : m'.1 0 2 = nI 0)
    (f1 : ∀ j, j = 2 ∨ j = 7 ∨ j = 11 ∨ j = 12 ∨ j = 16 ∨ j = 18 → m'.1 j = m.1 j) (g5 : ∀ i, i < 14 → m'.2 5 i = m.2 5 i) (g6 : m'.2 6 = m.2 6) (g17 : m'.2 17 = m.2 17) (f0 : ∀ i, 23 ≤ i → i ≤ 33 → m'.1 0 i = m.1 0 i) (hT : pTol (X' 213) (m'.1 0 37) (m'.1 13)) : R X' m' := by
  refine ⟨n, h, L, e, t, hp, hm, sr, ?_, ?_, ⟨0, by omega, xs, ml, fun i hi => absurd hi (by omega)⟩, pRest_read hr (fun j hj => hx j (by omega) (by omega) (by omega) (by omega) (by omega) (by omega) (by omega) (by omega)) x0 xf x1 (fun j hj => f1 j (by omega)) g6 g17 (fun i h1 h2 => f0 i (by omega) h2) hT⟩
  · rw [hx 5 (by omega) (by omega) (by omega) (by omega) (by omega) (by omega) (by omega) (by omega), hx 12 (by omega) (by omega) (by omega) (by omega) (by omega) (by omega) (by omega) (by omega), hx 23 (by omega) (by omega) (by omega) (by omega) (by omega) (by omega) (by omega) (by omega)]
    exact pStr_s hs (fun i _ => by rw [f1 2 (by omega)]) g5
  · rw [f1 7 (by omega), f0 23 (by omega) (by omega)]
    exact past_x hP (fun j h1 h2 => hx j (by omega) (by omega) (by omega) (by omega) (by omega) (by omega) (by omega) (by omega))
end
