def f15 (m x : Obj) : Prop := x.2 = m.2 ∧ ∀ j, j ≠ 15 → x.1 j = m.1 j
theorem f15_refl (m : Obj) : f15 m m := ⟨rfl, fun _ _ => rfl⟩
theorem f15_trans {a b c : Obj} (h1 : f15 a b) (h2 : f15 b c) : f15 a c := ⟨h2.1.trans h1.1, fun j hj => (h2.2 j hj).trans (h1.2 j hj)⟩
theorem f15_sI {m : Obj} {i : Nat} {v : Int32} : f15 m (sI m 15 i v) := ⟨rfl, fun j hj => va_up_ne _ _ hj⟩
section
variable {X X' : Nat → Obj} {n h L e t : Nat} {hp hm : Nat → Nat} {sr : Nat → Bool} {q m sc sy y x : Obj} {S : Nat → Nat → Nat} {A B C : Nat → Nat} {c : Nat}
theorem sy_true (hB : sQB n h L e t hp hm) (hC : sQC n h L e t hp hm sr q) (hV : sSV n h L hp S) (hS : sSC n S sc) (hc : c ≤ 40) (ht : ∀ i, i < c → tok n h (A i) (B i) (C i)) (hd : dpt A c = some 1) (hy : sayC c A B C sy) : ∃ y', fSy_trueOf q sc sy = some (nI (msk n (stf (fun i p => leaf hm sr S (A i) (B i) (C i) p) A c 0)), y') ∧ sayC c A B C y' ∧ y'.1 0 0 = sy.1 0 0 := by
  have b1 := hB.1
  have c4 := hC.1.2.2.2.2
  have hpre : ∀ i, i ≤ c → ∃ d, dpt A i = some d := fun i hi => by
    cases hq : dpt A i with
    | some d => exact ⟨d, rfl⟩
    | none =>
      have := dpt_pre (A := A) (c := i) (k := c - i) (by rw [show i + (c - i) = c by omega, hd]; exact fun z => by cases z)
      exact absurd hq this
  have keep00 : ∀ (y : Obj) (i : Nat) (y' : Obj), fSy_trueOf_L7 q sc (nI i, y) = some (.inl (nI (i + 1), y')) → y'.1 0 0 = y.1 0 0 := fun y i y' hh => by
    have pk : ∀ (z : Obj), kk (fun r : Int32 × Obj => r.2.1 0 0 = z.1 0 0) (fSy_pop z) := fun z => by
      unfold fSy_pop
      refine kk_ite (kk_some rfl) (kk_ite (kk_bnd (kk_any fun r => kk_some rfl)) (kk_some rfl))
    have pp : ∀ (z : Obj) (v : Int32), kk (fun r : Obj => r.1 0 0 = z.1 0 0) (fSy_push z v) := fun z v => by
      unfold fSy_push
      refine kk_ite (kk_some rfl) (kk_ite (kk_some rfl) (kk_any fun r => kk_bnd (kk_bnd (kk_some rfl))))
    have kl : kk (Sum.elim (fun a : Int32 × Obj => a.2.1 0 0 = y.1 0 0) (fun _ : Obj => True)) (fSy_trueOf_L7 q sc (nI i, y)) := by
      unfold fSy_trueOf_L7
      refine kk_ite (kk_some trivial) (kk_ite (kk_some trivial) (kk_any fun r => kk_ite ?_ (kk_any fun r => kk_ite ?_ (kk_any fun r => kk_ite ?_ ?_))))
      · exact kk_bind (pk _) fun r hr => kk_bind (pk _) fun r' hr' => kk_bind (pp _ _) fun r'' hr'' => kk_some (hr''.trans (hr'.trans hr))
      · exact kk_bind (pk _) fun r hr => kk_bind (pk _) fun r' hr' => kk_bind (pp _ _) fun r'' hr'' => kk_some (hr''.trans (hr'.trans hr))
      · exact kk_bind (pk _) fun r hr => kk_bind (pp _ _) fun r'' hr'' => kk_some (hr''.trans hr)
      · exact kk_any fun r => kk_any fun r => kk_any fun r => kk_any fun r => kk_bind (pp _ _) fun r'' hr'' => kk_some hr''
    exact kl _ hh
  have key := iter_I (f := fSy_trueOf_L7 q sc) (I := fun i a => ∃ d y, a = (nI i, y) ∧ dpt A i = some d ∧ yR n c A B C (stf (fun i p => leaf hm sr S (A i) (B i) (C i) p) A i) d y ∧ y.1 0 0 = sy.1 0 0) (E := fun y => yR n c A B C (stf (fun i p => leaf hm sr S (A i) (B i) (C i) p) A c) 1 y ∧ y.1 0 0 = sy.1 0 0) c (by omega) (a := (nI 0, sI sy 0 6 (nI 0))) ⟨0, _, rfl, rfl, ⟨hy, by rw [sI_1, if_pos ⟨rfl, rfl⟩], fun j hj => absurd hj (by omega)⟩, rfl⟩ (fun i a hi hz => ?_) (fun a hz => ?_)
  · obtain ⟨y, g1, ⟨g2, g3, g4⟩, g5⟩ := key
    refine ⟨sI y 0 6 (nI 0), ?_, g2, g5⟩
    unfold fSy_trueOf
    have e0 : ∀ z : Obj, bnd (sI sy 0 6 (0 : Int32)) (fun s1 => (iter (fSy_trueOf_L7 q sc) FU ((0 : Int32), s1)).bind fun e18 => (fSy_pop e18).bind fun r19 => some ((r19.1 &&& ((shl (1 : Int32) (q.1 0 4)) - (1 : Int32))), r19.2)) = (iter (fSy_trueOf_L7 q sc) FU (nI 0, sI sy 0 6 (nI 0))).bind fun e18 => (fSy_pop e18).bind fun r19 => some ((r19.1 &&& ((shl (1 : Int32) (q.1 0 4)) - (1 : Int32))), r19.2) := fun z => rfl
    rw [e0 y, g1, Option.bind_some, sy_pop (d := 0) (by omega) g3, Option.bind_some, c4, ib_msk _ b1]
    congr 2
    congr 1
    exact msk_congr (fun p hpn => g4 0 (by omega) p hpn)
  · obtain ⟨d, y, rfl, h1, h2, h3⟩ := hz
    left
    obtain ⟨d', h4⟩ := hpre (i + 1) (by omega)
    obtain ⟨y', g1, g2⟩ := sy_step hB hC hV hS hc ht hi h1 h4 h2
    exact ⟨_, g1, d', y', rfl, h4, g2, (keep00 y i y' g1).trans h3⟩
  · obtain ⟨d, y, rfl, h1, h2, h3⟩ := hz
    rw [hd] at h1
    have : 1 = d := Option.some.inj h1
    subst this
    refine ⟨y, ?_, h2, h3⟩
    unfold fSy_trueOf_L7
    simp only
    rw [h2.1.1, if_pos (by rw [nle (by omega) (by omega)]; omega)]
theorem mo_step (hB : sQB n h L e t hp hm) (hM : sQM n h L e t hp hm sr (m.1 2)) (hV : sSV n h L hp S) (hD : sSM n S (dOf m)) (hc : c ≤ 40) (ht : ∀ i, i < c → tok n h (A i) (B i) (C i)) (hY : sayM c A B C (m.1 2)) {i d d' p : Nat} (hpn : p < n) (hi : i < c) (hd : dpt A i = some d) (hd' : dpt A (i + 1) = some d') (hf : f15 m x) (hx : ∀ j, j < d → x.1 15 j = nI (bn (stf (fun i p => leaf hm sr S (A i) (B i) (C i) p) A i j p))) : ∃ x', fMo_isSaid_L4 (nI p) (nI d, nI i, x) = some (.inl (nI d', nI (i + 1), x')) ∧ f15 m x' ∧ ∀ j, j < d' → x'.1 15 j = nI (bn (stf (fun i p => leaf hm sr S (A i) (B i) (C i) p) A (i + 1) j p)) := by
  have x2 : x.1 2 = m.1 2 := hf.2 2 (by omega)
  obtain ⟨s1, s2⟩ := hY
  obtain ⟨k1, k2, k3⟩ := s2 i hi
  have hle := dpt_le hd
  have htk := ht i hi
  have hMx : sQM n h L e t hp hm sr (x.1 2) := by rw [x2]; exact hM
  have hDx : sSM n S (dOf x) := by
    show sSM n S (fun j => x.1 2 (69 + j))
    rw [x2]; exact hD
  have b1 := hB.1
  have st : ∀ j, stf (fun i p => leaf hm sr S (A i) (B i) (C i) p) A (i + 1) j p = if A i = 20 then (if j = d - 1 then !(stf (fun i p => leaf hm sr S (A i) (B i) (C i) p) A i j p) else stf (fun i p => leaf hm sr S (A i) (B i) (C i) p) A i j p) else if A i = 21 then (if j = d - 2 then (stf (fun i p => leaf hm sr S (A i) (B i) (C i) p) A i j p && stf (fun i p => leaf hm sr S (A i) (B i) (C i) p) A i (d - 1) p) else stf (fun i p => leaf hm sr S (A i) (B i) (C i) p) A i j p) else if A i = 22 then (if j = d - 2 then (stf (fun i p => leaf hm sr S (A i) (B i) (C i) p) A i j p || stf (fun i p => leaf hm sr S (A i) (B i) (C i) p) A i (d - 1) p) else stf (fun i p => leaf hm sr S (A i) (B i) (C i) p) A i j p) else (if j = d then leaf hm sr S (A i) (B i) (C i) p else stf (fun i p => leaf hm sr S (A i) (B i) (C i) p) A i j p) := fun j => by
    show (match dpt A i with | none => false | some d => _) = _
    rw [hd]
  rw [dpt_s, hd] at hd'
  simp only at hd'
  revert st hx
  generalize stf (fun i p => leaf hm sr S (A i) (B i) (C i) p) A (i + 1) = T'
  generalize stf (fun i p => leaf hm sr S (A i) (B i) (C i) p) A i = T0
  intro hx st
  have hA : A i < 100 := by unfold tok at htk; omega
  have put : ∀ (jj : Nat) (b : Bool), (∀ j, j < d' → j ≠ jj → j < d ∧ T' j p = T0 j p) → T' jj p = b → f15 m (sI x 15 jj (nI (bn b))) ∧ ∀ j, j < d' → (sI x 15 jj (nI (bn b))).1 15 j = nI (bn (T' j p)) := fun jj b h1 h2 => by
    refine ⟨f15_trans hf f15_sI, fun j hj => ?_⟩
    rw [sI_1]
    by_cases hjj : j = jj
    · rw [if_pos ⟨rfl, hjj⟩, hjj, h2]
    · rw [if_neg (fun z => hjj z.2)]
      obtain ⟨g1, g2⟩ := h1 j hj hjj
      rw [hx j g1, g2]
  have l0 : fMo_isSaid_L4 (nI p) (nI d, nI i, x) = if nI (A i) = nI 20 then (ix 45 (nI d - nI 1)).bind fun i3 => (if x.1 15 i3 = nI 0 then (ix 45 (nI d - nI 1)).bind fun i4 => some (.inl (nI d, nI (i + 1), sI x 15 i4 (nI 1))) else (ix 45 (nI d - nI 1)).bind fun i6 => some (.inl (nI d, nI (i + 1), sI x 15 i6 (nI 0)))) else if nI (A i) = nI 21 then fMo_isSaid_J88 x (nI d) (nI i) (nI (162 + 3 * i)) else if nI (A i) = nI 22 then fMo_isSaid_J88 x (nI d) (nI i) (nI (162 + 3 * i)) else (fMo_isLeaf x (nI p) (nI (A i)) (nI (B i)) (nI (C i))).bind fun r30 => (ix 45 (nI d)).bind fun i31 => some (.inl (nI (d + 1), nI (i + 1), sI x 15 i31 (bz r30))) := by
    unfold fMo_isSaid_L4
    simp only [lit, bnd, nmul, nadd]
    rw [x2, s1, if_neg (by rw [nle (by omega) (by omega)]; omega), ix_nI (show 162 + 3 * i < 342 by omega) (by omega), ix_nI (show 162 + 3 * i + 1 < 342 by omega) (by omega), ix_nI (show 162 + 3 * i + 2 < 342 by omega) (by omega)]
    simp only [Option.bind_some]
    rw [k1, show 162 + 3 * i + 1 = 163 + 3 * i by omega, show 162 + 3 * i + 2 = 164 + 3 * i by omega, k2, k3]
  have l88 : ∀ dd, d = dd + 2 → fMo_isSaid_J88 x (nI d) (nI i) (nI (162 + 3 * i)) = some (.inl (nI (dd + 1), nI (i + 1), sI x 15 dd (nI (bn (if A i = 21 then (T0 dd p && T0 (dd + 1) p) else (T0 dd p || T0 (dd + 1) p)))))) := fun dd hdd => by
    subst hdd
    unfold fMo_isSaid_J88
    simp only [lit, bnd, nadd]
    rw [add_n2 (by omega), show dd + 2 - 1 = dd + 1 by omega, nsub (by omega), Nat.add_sub_cancel, ix_nI (show 162 + 3 * i < 342 by omega) (by omega), ix_nI (show dd < 45 by omega) (by omega), ix_nI (show dd + 1 < 45 by omega) (by omega)]
    simp only [Option.bind_some]
    rw [x2, k1, hx dd (by omega), hx (dd + 1) (by omega)]
    have w0 : nI (bn false) = nI 0 := rfl
    have w1 : ¬ nI (bn true) = nI 0 := by decide +kernel
    by_cases h21 : A i = 21
    · rw [if_pos (by rw [h21]), if_pos h21]
      cases T0 dd p
      · rw [if_pos w0]; rfl
      · rw [if_neg w1]
        cases T0 (dd + 1) p
        · rw [if_pos w0]; rfl
        · rw [if_neg w1]; rfl
    · rw [if_neg (by rw [neq (by omega) (by omega)]; exact h21), if_neg h21]
      cases T0 dd p
      · rw [if_pos w0]
        cases T0 (dd + 1) p
        · rw [if_pos w0]; rfl
        · rw [if_neg w1]; rfl
      · rw [if_neg w1]; rfl
  rw [l0]
  by_cases a20 : A i = 20
  · rw [if_pos a20] at hd'
    by_cases h2 : 1 ≤ d
    · rw [if_pos h2] at hd'
      have e' : d' = d := (Option.some.inj hd').symm
      subst e'
      obtain ⟨dd, rfl⟩ : ∃ dd, d' = dd + 1 := ⟨d' - 1, by omega⟩
      obtain ⟨g1, g2⟩ := put dd (!(T0 dd p)) (fun j hj hne => ⟨by omega, by rw [st j, if_pos a20, if_neg (by omega)]⟩) (by rw [st dd, if_pos a20, if_pos (by omega)])
      refine ⟨_, ?_, g1, g2⟩
      rw [if_pos (by rw [a20]), nsub (by omega), Nat.add_sub_cancel, ix_nI (by omega) (by omega), Option.bind_some, hx dd (by omega), Option.bind_some, Option.bind_some]
      cases T0 dd p
      · rw [if_pos (show nI (bn false) = nI 0 from rfl)]; rfl
      · rw [if_neg (show ¬ nI (bn true) = nI 0 by decide +kernel)]; rfl
    · rw [if_neg h2] at hd'; cases hd'
  · rw [if_neg (c := nI (A i) = nI 20) (by rw [neq (by omega) (by omega)]; exact a20)]
    rw [if_neg a20] at hd'
    by_cases a21 : A i = 21
    · rw [if_pos (by omega)] at hd'
      by_cases h2 : 2 ≤ d
      · rw [if_pos h2] at hd'
        have e' : d' = d - 1 := (Option.some.inj hd').symm
        obtain ⟨dd, rfl⟩ : ∃ dd, d = dd + 2 := ⟨d - 2, by omega⟩
        obtain ⟨g1, g2⟩ := put dd (T0 dd p && T0 (dd + 1) p) (fun j hj hne => ⟨by omega, by rw [st j, if_neg a20, if_pos a21, if_neg (by omega)]⟩) (by rw [st dd, if_neg a20, if_pos a21, if_pos (by omega)]; rfl)
        refine ⟨_, ?_, g1, g2⟩
        rw [if_pos (by rw [a21]), l88 dd rfl, if_pos a21, e', show dd + 2 - 1 = dd + 1 by omega]
      · rw [if_neg h2] at hd'; cases hd'
    · rw [if_neg (c := nI (A i) = nI 21) (by rw [neq (by omega) (by omega)]; exact a21)]
      by_cases a22 : A i = 22
      · rw [if_pos (by omega)] at hd'
        by_cases h2 : 2 ≤ d
        · rw [if_pos h2] at hd'
          have e' : d' = d - 1 := (Option.some.inj hd').symm
          obtain ⟨dd, rfl⟩ : ∃ dd, d = dd + 2 := ⟨d - 2, by omega⟩
          obtain ⟨g1, g2⟩ := put dd (T0 dd p || T0 (dd + 1) p) (fun j hj hne => ⟨by omega, by rw [st j, if_neg a20, if_neg a21, if_pos a22, if_neg (by omega)]⟩) (by rw [st dd, if_neg a20, if_neg a21, if_pos a22, if_pos (by omega)]; rfl)
          refine ⟨_, ?_, g1, g2⟩
          rw [if_pos (by rw [a22]), l88 dd rfl, if_neg a21, e', show dd + 2 - 1 = dd + 1 by omega]
        · rw [if_neg h2] at hd'; cases hd'
      · rw [if_neg (c := nI (A i) = nI 22) (by rw [neq (by omega) (by omega)]; exact a22)]
        rw [if_neg (by omega)] at hd'
        have e' : d' = d + 1 := (Option.some.inj hd').symm
        subst e'
        have h9 : A i ≤ 9 := by unfold tok at htk; omega
        obtain ⟨g1, g2⟩ := put d (leaf hm sr S (A i) (B i) (C i) p) (fun j hj hne => ⟨by omega, by rw [st j, if_neg a20, if_neg a21, if_neg a22, if_neg (by omega)]⟩) (by rw [st d, if_neg a20, if_neg a21, if_neg a22, if_pos rfl])
        refine ⟨_, ?_, g1, g2⟩
        rw [mo_leaf hB hMx hV hDx hpn htk h9, Option.bind_some, ix_nI (by omega) (by omega), Option.bind_some, bz_b]
theorem mo_isSaid (hB : sQB n h L e t hp hm) (hM : sQM n h L e t hp hm sr (m.1 2)) (hV : sSV n h L hp S) (hD : sSM n S (dOf m)) (hc : c ≤ 40) (ht : ∀ i, i < c → tok n h (A i) (B i) (C i)) (hd : dpt A c = some 1) (hY : sayM c A B C (m.1 2)) {p : Nat} (hpn : p < n) (hf : f15 m x) : ∃ x', fMo_isSaid x (nI p) = some (nI (bn (stf (fun i p => leaf hm sr S (A i) (B i) (C i) p) A c 0 p)), x') ∧ f15 m x' := by
  have hpre : ∀ i, i ≤ c → ∃ d, dpt A i = some d := fun i hi => by
    cases hq : dpt A i with
    | some d => exact ⟨d, rfl⟩
    | none =>
      have := dpt_pre (A := A) (c := i) (k := c - i) (by rw [show i + (c - i) = c by omega, hd]; exact fun z => by cases z)
      exact absurd hq this
  have key := iter_I (f := fMo_isSaid_L4 (nI p)) (I := fun i a => ∃ d x', a = (nI d, nI i, x') ∧ dpt A i = some d ∧ f15 m x' ∧ ∀ j, j < d → x'.1 15 j = nI (bn (stf (fun i p => leaf hm sr S (A i) (B i) (C i) p) A i j p))) (E := fun x' => f15 m x' ∧ x'.1 15 0 = nI (bn (stf (fun i p => leaf hm sr S (A i) (B i) (C i) p) A c 0 p))) c (by omega) (a := (nI 0, nI 0, x)) ⟨0, x, rfl, rfl, hf, fun j hj => absurd hj (by omega)⟩ (fun i a hi hz => ?_) (fun a hz => ?_)
  · obtain ⟨x', g1, g2, g3⟩ := key
    refine ⟨x', ?_, g2⟩
    unfold fMo_isSaid
    simp only [lit]
    rw [g1, Option.bind_some, g3, bz_b]
  · obtain ⟨d, x', rfl, h1, h2, h3⟩ := hz
    left
    obtain ⟨d', h4⟩ := hpre (i + 1) (by omega)
    obtain ⟨x'', g1, g2, g3⟩ := mo_step hB hM hV hD hc ht hY hpn hi h1 h4 h2 h3
    exact ⟨_, g1, d', x'', rfl, h4, g2, g3⟩
  · obtain ⟨d, x', rfl, h1, h2, h3⟩ := hz
    rw [hd] at h1
    have : 1 = d := Option.some.inj h1
    subst this
    refine ⟨x', ?_, h2, h3 0 (by omega)⟩
    unfold fMo_isSaid_L4
    simp only
    rw [h2.2 2 (by omega), hY.1, if_pos (by rw [nle (by omega) (by omega)]; omega)]
end
