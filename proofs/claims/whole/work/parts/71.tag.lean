theorem i2b_c : ∀ c, c < 128 → i2b (i2b (nI c)) = nI c := by decide +kernel
def fT (m m' : Obj) : Prop := m'.2 = m.2 ∧ (∀ j, j ≠ 0 → j ≠ 12 → m'.1 j = m.1 j) ∧ ∀ i, i ≠ 0 → i ≠ 33 → m'.1 0 i = m.1 0 i
theorem fT_refl (m : Obj) : fT m m := ⟨rfl, fun _ _ _ => rfl, fun _ _ _ => rfl⟩
theorem fT_trans {a b c : Obj} (h1 : fT a b) (h2 : fT b c) : fT a c := ⟨h2.1.trans h1.1, fun j x y => (h2.2.1 j x y).trans (h1.2.1 j x y), fun i x y => (h2.2.2 i x y).trans (h1.2.2 i x y)⟩
theorem fT_sI {m : Obj} {j i : Nat} {v : Int32} (hj : j = 12 ∨ (j = 0 ∧ (i = 0 ∨ i = 33))) : fT m (sI m j i v) := by
  refine ⟨rfl, fun j' h0 h1 => va_up_ne _ _ (by omega), fun i' h0 h2 => ?_⟩
  rw [sI_1, if_neg (by omega)]
def chs (L : List Nat) : Prop := ∀ c, c ∈ L → c < 128
def laS (L : List Nat) (la : Obj) : Prop := la.1 0 0 = nI L.length ∧ ∀ k, k < L.length → la.1 1 k = nI (L.getD k 0)
def moS (L : List Nat) (m : Obj) : Prop := m.1 0 33 = nI L.length ∧ ∀ k, k < L.length → m.1 12 k = nI (L.getD k 0)
theorem getD_app {L : List Nat} {c k : Nat} (h : k < L.length + 1) : (L ++ [c]).getD k 0 = if k = L.length then c else L.getD k 0 := by
  rw [List.getD_eq_getElem?_getD, List.getD_eq_getElem?_getD]
  by_cases hk : k = L.length
  · rw [if_pos hk, hk, List.getElem?_append_right (Nat.le_refl _), Nat.sub_self]; rfl
  · rw [if_neg hk, List.getElem?_append_left (by omega)]
theorem getD_mem {W : List Nat} {k : Nat} (hk : k < W.length) : W.getD k 0 ∈ W := by
  rw [List.getD_eq_getElem?_getD, List.getElem?_eq_getElem hk]
  exact List.getElem_mem _
theorem getD_get {W : List Nat} {k : Nat} (hk : k < W.length) : W.getD k 0 = W[k] := by
  rw [List.getD_eq_getElem?_getD, List.getElem?_eq_getElem hk]; rfl
section
variable {la m : Obj} {L : List Nat}
theorem la_add (h : laS L la) (hl : L.length < 32) {c : Nat} (hc : c < 128) : ∃ la', fLa_add la (nI c) = some la' ∧ laS (L ++ [c]) la' := by
  obtain ⟨h1, h2⟩ := h
  refine ⟨sI (sI la 1 L.length (nI c)) 0 0 (nI (L.length + 1)), ?_, ?_, fun k hk => ?_⟩
  · have e1 : ∀ v, (sI la 1 L.length v).1 0 0 = nI L.length := fun v => h1
    unfold fLa_add
    simp only [lit]
    rw [h1, if_neg (by rw [nle (by omega) (by omega)]; omega), ix_nI (by omega) (by omega), Option.bind_some, i2b_c c hc]
    simp only [bnd]
    rw [e1, nadd]
  · rw [sI_1, if_pos ⟨rfl, rfl⟩, List.length_append]; rfl
  · rw [List.length_append] at hk
    have hk' : k < L.length + 1 := hk
    rw [getD_app hk']
    show (if k = L.length then nI c else la.1 1 k) = _
    by_cases hkl : k = L.length
    · rw [if_pos hkl, if_pos hkl]
    · rw [if_neg hkl, if_neg hkl]; exact h2 k (by omega)
theorem mo_lay (h : moS L m) (hl : L.length < 40) {c : Nat} (hc : c < 128) : ∃ m', fMo_lays m (nI c) = some m' ∧ moS (L ++ [c]) m' ∧ fT m m' := by
  obtain ⟨h1, h2⟩ := h
  refine ⟨sI (sI m 12 L.length (nI c)) 0 33 (nI (L.length + 1)), ?_, ⟨?_, fun k hk => ?_⟩, fT_trans (fT_sI (by omega)) (fT_sI (by omega))⟩
  · have e1 : ∀ v, (sI m 12 L.length v).1 0 33 = nI L.length := fun v => h1
    unfold fMo_lays
    rw [h1, ix_nI (by omega) (by omega), Option.bind_some, i2b_c c hc]
    simp only [bnd]
    rw [e1, lit, nadd]
  · rw [sI_1, if_pos ⟨rfl, rfl⟩, List.length_append]; rfl
  · rw [List.length_append] at hk
    have hk' : k < L.length + 1 := hk
    rw [getD_app hk']
    show (if k = L.length then nI c else m.1 12 k) = _
    by_cases hkl : k = L.length
    · rw [if_pos hkl, if_pos hkl]
    · rw [if_neg hkl, if_neg hkl]; exact h2 k (by omega)
theorem rev_getD {l : List Nat} {j : Nat} (hj : j < l.length) : l.reverse.getD j 0 = l.getD (l.length - 1 - j) 0 := by
  rw [List.getD_eq_getElem?_getD, List.getD_eq_getElem?_getD, List.getElem?_reverse hj]
theorem take_next {l : List Nat} {i : Nat} (hi : i < l.length) : (l.take (i + 1)).map (· + 96) = (l.take i).map (· + 96) ++ [l.getD i 0 + 96] := by
  rw [List.take_succ, List.map_append, List.getD_eq_getElem?_getD, List.getElem?_eq_getElem hi]
  rfl
theorem la_word (h : laS L la) {l : List Nat} (hl : lok l) (h1 : 1 ≤ l.length) (h8 : l.length ≤ 8) (hL : L.length + l.length ≤ 32) : ∃ la', fLa_addWord la (kw5 l) = some la' ∧ laS (L ++ l.map (· + 96)) la' := by
  have key := iter_I (f := fLa_addWord_L3 (kw5 l)) (I := fun k a => ∃ x, a = (nI (5 * (8 - k)) - nI 5, x) ∧ laS (L ++ (l.take (l.length - (8 - k))).map (· + 96)) x) (E := fun x => laS (L ++ l.map (· + 96)) x) 8 (by omega) (a := (nI 35, la)) ⟨la, rfl, ?_⟩ (fun k a hk hz => ?_) (fun a hz => ?_)
  · obtain ⟨x, g1, g2⟩ := key
    refine ⟨x, ?_, g2⟩
    unfold fLa_addWord
    have g1' : iter (fLa_addWord_L3 (kw5 l)) FU ((35 : Int32), la) = some x := g1
    rw [g1']; rfl
  · rw [show l.length - (8 - 0) = 0 by omega]
    show laS (L ++ []) la
    rw [List.append_nil]; exact h
  · obtain ⟨x, rfl, hx⟩ := hz
    left
    have hb := e5_lt hl h8
    have hd := v5_dig (lok_rev hl) (7 - k)
    rw [← e5_0] at hd
    have ev : l2i (lshr (kw5 l) (nI (5 * (7 - k)))) &&& nI 31 = nI (l.reverse.getD (7 - k) 0) := by
      have : lshr (kw5 l) (nI (5 * (7 - k))) = lN (e5 0 l / 2 ^ (5 * (7 - k))) := lshr_n (by omega) (by omega)
      rw [this]
      show (lN (e5 0 l / 2 ^ (5 * (7 - k)))).toInt32 &&& nI 31 = _
      rw [lN_i, nx_and, and31, show 2 ^ (5 * (7 - k)) = 32 ^ (7 - k) by rw [Nat.pow_mul], hd]
    have es : nI (5 * (8 - k)) - nI 5 = nI (5 * (7 - k)) := by
      rw [nsub (by omega), show 5 * (8 - k) - 5 = 5 * (7 - k) by omega]
    have en : nI (5 * (7 - k)) + -nI 5 = nI (5 * (8 - (k + 1))) - nI 5 := by
      rw [show 8 - (k + 1) = 7 - k by omega]
      exact (Int32.sub_eq_add_neg _ _).symm
    rw [es]
    unfold fLa_addWord_L3
    simp only [lit]
    rw [if_neg (nI_lt0 (by omega))]
    simp only [bnd]
    rw [ev, en]
    by_cases hj : 7 - k < l.length
    · rw [rev_getD hj]
      have hmem : l.getD (l.length - 1 - (7 - k)) 0 ∈ l := by
        rw [List.getD_eq_getElem?_getD, List.getElem?_eq_getElem (by omega)]
        exact List.getElem_mem _
      obtain ⟨m1, m2⟩ := hl _ hmem
      obtain ⟨x', g1, g2⟩ := la_add hx (by rw [List.length_append, List.length_map, List.length_take]; omega) (c := l.getD (l.length - 1 - (7 - k)) 0 + 96) (by omega)
      rw [if_neg (by rw [neq (by omega) (by omega)]; omega), nadd, g1]
      refine ⟨_, rfl, x', rfl, ?_⟩
      rw [show l.length - (8 - (k + 1)) = (l.length - (8 - k)) + 1 by omega, take_next (by omega), ← List.append_assoc, show l.length - (8 - k) = l.length - 1 - (7 - k) by omega]
      rw [show l.length - (8 - k) = l.length - 1 - (7 - k) by omega] at g2
      exact g2
    · have h0 : l.reverse.getD (7 - k) 0 = 0 := by
        rw [List.getD_eq_getElem?_getD, List.getElem?_eq_none (by rw [List.length_reverse]; omega)]; rfl
      rw [h0, if_pos rfl]
      refine ⟨_, rfl, x, rfl, ?_⟩
      rw [show l.length - (8 - (k + 1)) = 0 by omega]
      rw [show l.length - (8 - k) = 0 by omega] at hx
      exact hx
  · obtain ⟨x, rfl, hx⟩ := hz
    refine ⟨x, ?_, ?_⟩
    · unfold fLa_addWord_L3
      simp only [lit]
      rw [if_pos (by decide +kernel)]
    · rw [show l.length - (8 - 8) = l.length by omega, List.take_length] at hx
      exact hx
theorem mo_word (h : moS L m) {l : List Nat} (hl : lok l) (h1 : 1 ≤ l.length) (h8 : l.length ≤ 8) (hL : L.length + l.length ≤ 40) : ∃ m', fMo_spells m (kw8 l) = some m' ∧ moS (L ++ l.map (· + 96)) m' ∧ fT m m' := by
  have key := iter_I (f := fMo_spells_L3 (kw8 l)) (I := fun k a => ∃ x, a = (nI (8 * (8 - k)) - nI 8, x) ∧ moS (L ++ (l.take (l.length - (8 - k))).map (· + 96)) x ∧ fT m x) (E := fun x => moS (L ++ l.map (· + 96)) x ∧ fT m x) 8 (by omega) (a := (nI 56, m)) ⟨m, rfl, ?_, fT_refl m⟩ (fun k a hk hz => ?_) (fun a hz => ?_)
  · obtain ⟨x, g1, g2⟩ := key
    refine ⟨x, ?_, g2⟩
    unfold fMo_spells
    have g1' : iter (fMo_spells_L3 (kw8 l)) FU ((56 : Int32), m) = some x := g1
    rw [g1']; rfl
  · rw [show l.length - (8 - 0) = 0 by omega]
    show moS (L ++ []) m
    rw [List.append_nil]; exact h
  · obtain ⟨x, rfl, hx, hf⟩ := hz
    left
    have hb := e8_lt hl h8
    have hd := v8_dig (lok_rev hl) (7 - k)
    rw [← e8_0, List.length_reverse] at hd
    have ev : lshr (kw8 l) (nI (8 * (7 - k))) &&& (255 : Int64) = lN (if 7 - k < l.length then l.reverse.getD (7 - k) 0 + 96 else 0) := by
      have : lshr (kw8 l) (nI (8 * (7 - k))) = lN (e8 0 l / 2 ^ (8 * (7 - k))) := lshr_n (by omega) (by omega)
      rw [this]
      show lN (e8 0 l / 2 ^ (8 * (7 - k))) &&& lN 255 = _
      rw [land_n, and255m, show 2 ^ (8 * (7 - k)) = 256 ^ (7 - k) by rw [Nat.pow_mul], hd]
    have es : nI (8 * (8 - k)) - nI 8 = nI (8 * (7 - k)) := by
      rw [nsub (by omega), show 8 * (8 - k) - 8 = 8 * (7 - k) by omega]
    have en : nI (8 * (7 - k)) + (-8 : Int32) = nI (8 * (8 - (k + 1))) - nI 8 := by
      rw [show 8 - (k + 1) = 7 - k by omega]
      exact (Int32.sub_eq_add_neg _ _).symm
    have q0 : ¬ nI (8 * (7 - k)) < (0 : Int32) := nI_lt0 (by omega)
    have l0 : fMo_spells_L3 (kw8 l) (nI (8 * (7 - k)), x) = ((if lg_cmp (lN (if 7 - k < l.length then l.reverse.getD (7 - k) 0 + 96 else 0)) (0 : Int64) = (0 : Int32) then some (.inl (nI (8 * (8 - (k + 1))) - nI 8, x)) else (fMo_lays x (l2i (lN (if 7 - k < l.length then l.reverse.getD (7 - k) 0 + 96 else 0)))).bind fun r1 => some (.inl (nI (8 * (8 - (k + 1))) - nI 8, r1))) : Option ((Int32 × Obj) ⊕ Obj)) := by
      show ((if nI (8 * (7 - k)) < (0 : Int32) then some (.inr x) else if lg_cmp (lshr (kw8 l) (nI (8 * (7 - k))) &&& (255 : Int64)) (0 : Int64) = (0 : Int32) then some (.inl (nI (8 * (7 - k)) + (-8 : Int32), x)) else (fMo_lays x (l2i (lshr (kw8 l) (nI (8 * (7 - k))) &&& (255 : Int64)))).bind fun r1 => some (.inl (nI (8 * (7 - k)) + (-8 : Int32), r1))) : Option ((Int32 × Obj) ⊕ Obj)) = _
      rw [if_neg q0, ev, en]
    rw [es, l0]
    by_cases hj : 7 - k < l.length
    · rw [if_pos hj, rev_getD hj]
      have hmem : l.getD (l.length - 1 - (7 - k)) 0 ∈ l := by
        rw [List.getD_eq_getElem?_getD, List.getElem?_eq_getElem (by omega)]
        exact List.getElem_mem _
      obtain ⟨m1, m2⟩ := hl _ hmem
      obtain ⟨x', g1, g2, g3⟩ := mo_lay hx (by rw [List.length_append, List.length_map, List.length_take]; omega) (c := l.getD (l.length - 1 - (7 - k)) 0 + 96) (by omega)
      have w1 : ¬ lg_cmp (lN (l.getD (l.length - 1 - (7 - k)) 0 + 96)) (0 : Int64) = (0 : Int32) := fun z => by
        have z' : lN (l.getD (l.length - 1 - (7 - k)) 0 + 96) = lN 0 := (lcmp0 _ _).mp z
        rw [pk_lEQ (by omega) (by omega)] at z'
        omega
      have w2 : l2i (lN (l.getD (l.length - 1 - (7 - k)) 0 + 96)) = nI (l.getD (l.length - 1 - (7 - k)) 0 + 96) := lN_i _
      rw [if_neg w1, w2, g1]
      refine ⟨_, rfl, x', rfl, ?_, fT_trans hf g3⟩
      rw [show l.length - (8 - (k + 1)) = (l.length - (8 - k)) + 1 by omega, take_next (by omega), ← List.append_assoc, show l.length - (8 - k) = l.length - 1 - (7 - k) by omega]
      rw [show l.length - (8 - k) = l.length - 1 - (7 - k) by omega] at g2
      exact g2
    · have w1 : lg_cmp (lN 0) (0 : Int64) = (0 : Int32) := (lcmp0 _ _).mpr rfl
      rw [if_neg hj, if_pos w1]
      refine ⟨_, rfl, x, rfl, ?_, hf⟩
      rw [show l.length - (8 - (k + 1)) = 0 by omega]
      rw [show l.length - (8 - k) = 0 by omega] at hx
      exact hx
  · obtain ⟨x, rfl, hx, hf⟩ := hz
    refine ⟨x, ?_, ?_, hf⟩
    · unfold fMo_spells_L3
      rw [if_pos (show nI (8 * (8 - 8)) - nI 8 < (0 : Int32) by decide +kernel)]
    · rw [show l.length - (8 - 8) = l.length by omega, List.take_length] at hx
      exact hx
theorem la_text {t : Nat} (h : laS L la) (ht : chs (strs.getD t [])) (hl : (strs.getD t []).length ≤ 20) (hL : L.length + (strs.getD t []).length ≤ 32) : ∃ la', fLa_addText la t = some la' ∧ laS (L ++ strs.getD t []) la' := by
  have key := iter_I (f := fLa_addText_L2 t) (I := fun k a => ∃ x, a = (nI k, x) ∧ laS (L ++ (strs.getD t []).take k) x) (E := fun x => laS (L ++ strs.getD t []) x) (strs.getD t []).length (by omega) (a := (nI 0, la)) ⟨la, rfl, by show laS (L ++ []) la; rw [List.append_nil]; exact h⟩ (fun k a hk hz => ?_) (fun a hz => ?_)
  · obtain ⟨x, g1, g2⟩ := key
    refine ⟨x, ?_, g2⟩
    unfold fLa_addText
    have g1' : iter (fLa_addText_L2 t) FU ((0 : Int32), la) = some x := g1
    rw [g1']; rfl
  · obtain ⟨x, rfl, hx⟩ := hz
    left
    have hmem : (strs.getD t []).getD k 0 ∈ strs.getD t [] := getD_mem hk
    have hc := ht _ hmem
    obtain ⟨x', g1, g2⟩ := la_add hx (by rw [List.length_append, List.length_take]; omega) hc
    have hA : strAt t (nI k) = some (nI ((strs.getD t []).getD k 0)) := by
      unfold strAt
      rw [ix_nI hk (by omega), Option.bind_some]
      rfl
    refine ⟨(nI (k + 1), x'), ?_, x', rfl, ?_⟩
    · unfold fLa_addText_L2
      rw [if_neg (show ¬ strLen t ≤ nI k by
        show ¬ nI (strs.getD t []).length ≤ nI k
        rw [nle (by omega) (by omega)]; omega), hA, Option.bind_some, g1, Option.bind_some, nsc]
    · rw [List.take_succ, List.getElem?_eq_getElem hk, ← List.append_assoc]
      have : (strs.getD t []).getD k 0 = (strs.getD t [])[k] := getD_get hk
      rw [this] at g2
      exact g2
  · obtain ⟨x, rfl, hx⟩ := hz
    refine ⟨x, ?_, ?_⟩
    · unfold fLa_addText_L2
      rw [if_pos (show strLen t ≤ nI (strs.getD t []).length by
        show nI (strs.getD t []).length ≤ nI (strs.getD t []).length
        rw [nle (by omega) (by omega)]; omega)]
    · rw [List.take_length] at hx
      exact hx
end
