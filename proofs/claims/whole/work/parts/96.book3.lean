def moK2 (m m' : Obj) : Prop := (∀ j, j ≠ 0 → j ≠ 4 → m'.1 j = m.1 j) ∧ (∀ j, j ≠ 0 → m'.2 j = m.2 j) ∧ ∀ i, i ≠ 4 → i < 11 ∨ 16 < i → i ≠ 18 → i ≠ 35 → m'.1 0 i = m.1 0 i
theorem moK2_refl (m : Obj) : moK2 m m := ⟨fun _ _ _ => rfl, fun _ _ => rfl, fun _ _ _ _ _ => rfl⟩
theorem moK2_trans {a b c : Obj} (h1 : moK2 a b) (h2 : moK2 b c) : moK2 a c := ⟨fun j x y => (h2.1 j x y).trans (h1.1 j x y), fun j x => (h2.2.1 j x).trans (h1.2.1 j x), fun i x y w u => (h2.2.2 i x y w u).trans (h1.2.2 i x y w u)⟩
theorem moK2_K {m m' : Obj} (h : moK m m') : moK2 m m' := ⟨h.1, h.2.1, fun i x y w _ => h.2.2 i x y w⟩
theorem moK2_35 {m : Obj} {v : Int32} : moK2 m (sI m 0 35 v) := ⟨fun j hj _ => va_up_ne _ _ hj, fun _ _ => rfl, fun i _ _ _ _ => by rw [sI_1, if_neg (by omega)]⟩
section
variable {X X' X1 : Nat → Obj} {z lim : Nat} {b : Nat → Nat} {ta ta1 m ta' m' m0 m1 m2 m3 m4 x y q bk bk' sc sc' : Obj} {k v v0 pl p p0 p1 c j T A B C : Nat} {l : List Nat} {n h L e t : Nat} {hp hm : Nat → Nat} {sr sr' : Nat → Bool} {S S' : Nat → Nat → Nat} {s s' : Nat → Int32}
theorem sQM_lo (hB : sQB n h L e t hp hm) (hM : sQM n h L e t hp hm sr s) (f : ∀ i, i < 69 → s' i = s i) : sQM n h L e t hp hm sr s' := by
  obtain ⟨⟨c0, c1, c2, c3, c4⟩, c5, c6, c7⟩ := hM
  obtain ⟨b1, b2, -⟩ := hB
  refine ⟨⟨?_, ?_, ?_, ?_, ?_⟩, fun k hk => ?_, fun p hpn => ?_, ?_⟩
  · rw [f 0 (by omega)]; exact c0
  · rw [f 1 (by omega)]; exact c1
  · rw [f 2 (by omega)]; exact c2
  · rw [f 3 (by omega)]; exact c3
  · rw [f 4 (by omega)]; exact c4
  · rw [f (5 + k) (by omega)]; exact c5 k hk
  · rw [f (11 + p) (by omega)]; exact c6 p hpn
  · rw [f 35 (by omega)]; exact c7
theorem bkF_trans {a b c : Obj} (h1 : bkF a b) (h2 : bkF b c) : bkF a c := fun i hi => (h2 i hi).trans (h1 i hi)
theorem book_loop (hB : sQB n h L e t hp hm) (hC : sQC n h L e t hp hm sr q) (hM : sQM n h L e t hp hm sr (m.1 2)) (hN : sQN n h q (m.2 5)) (hs : syn z lim b k v l pl p ta m) (h7 : bk.1 0 7 = nI 0) (h35 : m.1 0 35 = nI 0) :
    ∃ r r', iter (fBk_readAll_L17 q) FU (nI 0, bk, ta) = some r ∧ iter fMo_book_L39 FU m = some r' ∧
    ((∃ c bk' ta' m', c ≤ 40 ∧ r = .inl (bk', ta') ∧ r' = .inl m' ∧ bk'.1 0 7 = nI c ∧ m'.1 0 35 = nI c ∧ (∀ i, i < c → ent n h bk' m' i) ∧ taB ta ta' ∧ moK2 m m' ∧ bkF bk bk' ∧ ta'.1 0 2 = ta.1 0 2 ∧ m'.1 0 15 = m.1 0 15) ∨ (∃ bk' ta' m', r = .inr (nI 0, bk', ta') ∧ r' = .inr (-nI 2 - m'.1 0 16, m') ∧ fai ta' m' ∧ taB ta ta' ∧ moK2 m m' ∧ bkF bk bk')) := by
  have u1 : ¬ nI 1 = nI 0 := by decide +kernel
  have step : ∀ c (a : Int32 × Obj × Obj) (a' : Obj), c ≤ 40 → (a.1 = nI c ∧ a.2.1.1 0 7 = nI c ∧ a'.1 0 35 = nI c ∧ (∀ i, i < c → ent n h a.2.1 a' i) ∧ taB ta a.2.2 ∧ moK2 m a' ∧ bkF bk a.2.1 ∧ a.2.2.1 0 2 = ta.1 0 2 ∧ a'.1 0 15 = m.1 0 15 ∧ ∃ k v l pl p, syn z lim b k v l pl p a.2.2 a') →
      (∃ b1 b1', c < 40 ∧ fBk_readAll_L17 q a = some (.inl b1) ∧ fMo_book_L39 a' = some (.inl b1') ∧ (b1.1 = nI (c + 1) ∧ b1.2.1.1 0 7 = nI (c + 1) ∧ b1'.1 0 35 = nI (c + 1) ∧ (∀ i, i < c + 1 → ent n h b1.2.1 b1' i) ∧ taB ta b1.2.2 ∧ moK2 m b1' ∧ bkF bk b1.2.1 ∧ b1.2.2.1 0 2 = ta.1 0 2 ∧ b1'.1 0 15 = m.1 0 15 ∧ ∃ k v l pl p, syn z lim b k v l pl p b1.2.2 b1')) ∨
      (∃ r r', fBk_readAll_L17 q a = some (.inr r) ∧ fMo_book_L39 a' = some (.inr r') ∧ ((∃ c bk' ta' m', c ≤ 40 ∧ r = .inl (bk', ta') ∧ r' = .inl m' ∧ bk'.1 0 7 = nI c ∧ m'.1 0 35 = nI c ∧ (∀ i, i < c → ent n h bk' m' i) ∧ taB ta ta' ∧ moK2 m m' ∧ bkF bk bk' ∧ ta'.1 0 2 = ta.1 0 2 ∧ m'.1 0 15 = m.1 0 15) ∨ (∃ bk' ta' m', r = .inr (nI 0, bk', ta') ∧ r' = .inr (-nI 2 - m'.1 0 16, m') ∧ fai ta' m' ∧ taB ta ta' ∧ moK2 m m' ∧ bkF bk bk'))) := fun c a a' hc hI => by
    obtain ⟨ac, abk, ata⟩ := a
    obtain ⟨i1, i2, i3, i4, i5, i6, i7, i8, i9, k, v, l, pl, p, i10⟩ := hI
    simp only at i1 i2 i3 i4 i5 i6 i7 i8 i9 i10
    subst i1
    obtain ⟨t1, t2⟩ := tk_end i10
    have lC : fBk_readAll_L17 q (nI c, abk, ata) = if k = 0 then some (.inr (.inl (abk, ata))) else (fBk_readLine q abk ata).bind fun r4 => if r4.1 = nI 0 then some (.inr (.inr (nI 0, r4.2.1, r4.2.2))) else (fTa_takeLineEnd r4.2.2).bind fun r5 => if r5.1 = nI 0 then some (.inr (.inr (nI 0, r4.2.1, r5.2))) else some (.inl (nI (c + 1), r4.2.1, r5.2)) := by
      unfold fBk_readAll_L17
      simp only [lit]
      rw [if_neg (by rw [nle (by omega) (by omega)]; omega), t1, Option.bind_some, nadd]
      by_cases hk : k = 0
      · rw [if_pos hk, if_pos hk, if_neg u1]
      · rw [if_neg hk, if_neg hk, if_pos rfl]
    have lM : fMo_book_L39 a' = if k = 0 then some (.inr (.inl a')) else (fMo_bookLine a').bind fun r8 => if r8.1 = nI 0 then some (.inr (.inr (-nI 2 - r8.2.1 0 16, r8.2))) else (fMo_sign r8.2 (nI 59)).bind fun r9 => if r9.1 = nI 0 then some (.inr (.inr (-nI 2 - r9.2.1 0 16, r9.2))) else some (.inl (sI r9.2 0 35 (r9.2.1 0 35 + nI 1))) := by
      unfold fMo_book_L39
      simp only [lit, bnd]
      by_cases hk : k = 0
      · rw [if_pos (t2.mpr hk), if_pos hk]
      · rw [if_neg (fun w => hk (t2.mp w)), if_neg hk]
    by_cases hk : k = 0
    · right
      rw [if_pos hk] at lC lM
      exact ⟨_, _, lC, lM, Or.inl ⟨c, abk, ata, a', hc, rfl, rfl, i2, i3, i4, i5, i6, i7, i8, i9⟩⟩
    rw [if_neg hk] at lC lM
    rcases book_line (m := a') hB hC (by rw [i6.1 2 (by omega) (by omega)]; exact hM) (by rw [i6.2.1 5 (by omega)]; exact hN) i10 i2 i3 hc i4 with ⟨bk', ta', m', g1, g2, g3, g4, g5, g6, g7, g8, g9, g10, g11, g12, g13⟩ | ⟨bk', ta', m', g1, g2, g3, g4, g5, g6⟩
    · rw [g1, Option.bind_some, if_neg u1] at lC
      rw [g2, Option.bind_some, if_neg u1] at lM
      simp only at lC lM
      rcases end_both g8 with ⟨k2, v2, l2, pl2, p2, ta2, m2, j1, j2, j3, j4, j5, j6, j7⟩ | ⟨ta2, m2, j1, j2, j3, j4, j5⟩
      · left
        rw [j1, Option.bind_some, if_neg u1] at lC
        rw [j2, Option.bind_some, if_neg u1] at lM
        simp only at lC lM
        have h35' : m2.1 0 35 = nI c := by
          rw [j5.2.1 35 (by omega) (by omega), g10.2.2 35 (by omega) (by omega) (by omega)]; exact i3
        rw [h35', nadd] at lM
        refine ⟨_, _, g7, lC, lM, rfl, g5, ?_, fun i hi => ent_K (g6 i hi) ?_, taB_trans i5 (taB_trans g9 (taB_F j4)), moK2_trans i6 (moK2_trans (moK2_K (moK_trans g10 (moK_F j5))) moK2_35), bkF_trans i7 g11, ?_, ?_, k2, v2, l2, pl2, p2, j3⟩
        · rw [sI_1, if_pos ⟨rfl, rfl⟩]
        · show m2.1 4 = _
          rw [j5.1 4 (by omega)]
        · show ta2.1 0 2 = _
          rw [j4.2.1 2 (by omega) (by omega) (by omega) (by omega), g12, i8]
        · show m2.1 0 15 = _
          rw [j5.2.1 15 (by omega) (by omega), g13, i9]
      · right
        rw [j1, Option.bind_some, if_pos rfl] at lC
        rw [j2, Option.bind_some, if_pos rfl] at lM
        exact ⟨_, _, lC, lM, Or.inr ⟨bk', ta2, m2, rfl, rfl, j3, taB_trans i5 (taB_trans g9 j4), moK2_trans i6 (moK2_K (moK_trans g10 (moK_B j5))), bkF_trans i7 g11⟩⟩
    · right
      rw [g1, Option.bind_some, if_pos rfl] at lC
      rw [g2, Option.bind_some, if_pos rfl] at lM
      exact ⟨_, _, lC, lM, Or.inr ⟨bk', ta', m', rfl, rfl, g3, taB_trans i5 g4, moK2_trans i6 (moK2_K g5), bkF_trans i7 g6⟩⟩
  refine iter2 (f := fBk_readAll_L17 q) (g := fMo_book_L39) (I := fun c a a' => a.1 = nI c ∧ a.2.1.1 0 7 = nI c ∧ a'.1 0 35 = nI c ∧ (∀ i, i < c → ent n h a.2.1 a' i) ∧ taB ta a.2.2 ∧ moK2 m a' ∧ bkF bk a.2.1 ∧ a.2.2.1 0 2 = ta.1 0 2 ∧ a'.1 0 15 = m.1 0 15 ∧ ∃ k v l pl p, syn z lim b k v l pl p a.2.2 a')
    (E := fun r r' => (∃ c bk' ta' m', c ≤ 40 ∧ r = .inl (bk', ta') ∧ r' = .inl m' ∧ bk'.1 0 7 = nI c ∧ m'.1 0 35 = nI c ∧ (∀ i, i < c → ent n h bk' m' i) ∧ taB ta ta' ∧ moK2 m m' ∧ bkF bk bk' ∧ ta'.1 0 2 = ta.1 0 2 ∧ m'.1 0 15 = m.1 0 15) ∨ (∃ bk' ta' m', r = .inr (nI 0, bk', ta') ∧ r' = .inr (-nI 2 - m'.1 0 16, m') ∧ fai ta' m' ∧ taB ta ta' ∧ moK2 m m' ∧ bkF bk bk'))
    40 (by omega) (a := (nI 0, bk, ta)) (a' := m) ⟨rfl, h7, h35, fun i hi => absurd hi (by omega), taB_refl _, moK2_refl _, bkF_refl, rfl, rfl, k, v, l, pl, p, hs⟩ (fun c a a' hc hI => ?_) (fun a a' hI => ?_)
  · rcases step c a a' (by omega) hI with ⟨b1, b1', _, h1, h2, h3⟩ | ⟨r, r', h1, h2, h3⟩
    · exact Or.inl ⟨b1, b1', h1, h2, h3⟩
    · exact Or.inr ⟨r, r', h1, h2, h3⟩
  · rcases step 40 a a' (by omega) hI with ⟨b1, b1', h0, _⟩ | ⟨r, r', h1, h2, h3⟩
    · exact absurd h0 (by omega)
    · exact ⟨r, r', h1, h2, h3⟩
theorem mo_L89 : iter fMo_book_L89 FU (nI 0, m) = some (sA m 13 (fun i => if 0 ≤ i ∧ i < 0 + 4 then nI 0 else m.1 13 i)) := by
  refine cpyL (m := m) (f := fMo_book_L89) 13 0 4 (by omega) (fun _ => nI 0) (fun k hk => ?_) (fun x => ?_)
  · generalize (fun i => if 0 ≤ i ∧ i < 0 + k then (fun _ => nI 0) (i - 0) else m.1 13 i) = g
    unfold fMo_book_L89
    simp only [lit]
    rw [if_neg (by rw [nle (by omega) (by omega)]; omega), ix_nI (by omega) (by omega)]
    simp only [Option.bind_some, bnd, nadd, Nat.zero_add]
  · unfold fMo_book_L89
    simp only [lit]
    rw [if_pos (by rw [nle (by omega) (by omega)]; omega)]
/-- the book is lived, by both -/
theorem live_tail (hB : sQB n h L e t hp hm) (hC : sQC n h L e t hp hm sr q) (hM : sQM n h L e t hp hm sr (m.1 2)) (hR : RC n h L hp sc (dOf m)) (hc : c ≤ 40) (h7 : bk.1 0 7 = nI c) (h35 : m.1 0 35 = nI c) (he : ∀ i, i < c → ent n h bk m i) :
    ∃ mt mz ea eb bk' sc' r23 w d, fMo_tries m = some mt ∧ iter fMo_book_L89 FU (nI 0, mt) = some mz ∧ iter fMo_book_L111 FU (-nI 1, nI 0, mz) = some (ea, eb) ∧ fMo_are (sI eb 13 2 (eb.1 2 69)) (nI 2) = some r23 ∧ fBk_live q bk sc = some (bk', sc') ∧ ea = (if w = 0 then -nI 1 else nI d) ∧ bk'.1 0 0 = nI w ∧ bk'.1 0 1 = nI d ∧ w < 100 ∧ d ≤ 40 ∧ eb.1 13 1 = nI d ∧ RC n h L hp sc' (dOf eb) ∧ pTol bk' (nI 1) ((sI (sI (sI eb 13 2 (eb.1 2 69)) 13 3 r23) 0 37 (nI 1)).1 13) ∧ eb.2 = m.2 ∧ (∀ j, j ≠ 2 → j ≠ 8 → j ≠ 13 → eb.1 j = m.1 j) ∧ (∀ i, i < 69 ∨ 161 ≤ i → eb.1 2 i = m.1 2 i) ∧ ∀ i, i < 92 → eb.1 8 i = m.1 2 (69 + i) := by
  obtain ⟨mt, hmt⟩ : ∃ mt, mt = sA m 8 (fun i => if 0 ≤ i ∧ i < 0 + 92 then m.1 2 (69 + (i - 0)) else m.1 8 i) := ⟨_, rfl⟩
  obtain ⟨mz, hmz⟩ : ∃ mz, mz = sA mt 13 (fun i => if 0 ≤ i ∧ i < 0 + 4 then nI 0 else mt.1 13 i) := ⟨_, rfl⟩
  have t2 : mt.2 = m.2 := by rw [hmt]; rfl
  have tj : ∀ j, j ≠ 8 → mt.1 j = m.1 j := fun j hj => by rw [hmt]; exact va_up_ne _ _ hj
  have t8 : ∀ i, i < 92 → mt.1 8 i = m.1 2 (69 + i) := fun i hi => by rw [hmt, sA_1, if_pos rfl, if_pos (by omega), Nat.sub_zero]
  have z2 : mz.2 = m.2 := by rw [hmz]; exact t2
  have zj : ∀ j, j ≠ 13 → mz.1 j = mt.1 j := fun j hj => by rw [hmz]; exact va_up_ne _ _ hj
  have z13 : ∀ i, i < 4 → mz.1 13 i = nI 0 := fun i hi => by rw [hmz, sA_1, if_pos rfl, if_pos (by omega)]
  obtain ⟨s2, hs2⟩ : ∃ s2, s2 = sI (sI bk 0 0 (nI 0)) 0 1 (nI 0) := ⟨_, rfl⟩
  have s27 : s2.1 0 7 = nI c := by rw [hs2]; exact h7
  have s2j : ∀ j, j ≠ 0 → s2.1 j = bk.1 j := fun j hj => by rw [hs2, sI_0 hj, sI_0 hj]
  have dz : dOf mz = dOf m := by
    funext i
    show mz.1 2 (69 + i) = _
    rw [zj 2 (by omega), tj 2 (by omega)]
  have hez : ∀ i, i < c → ent n h s2 mz i := fun i hi => by
    obtain ⟨A, B, C, a1, a2, a3, a4, a5, a6, a7⟩ := he i hi
    have m4 : mz.1 4 = m.1 4 := by rw [zj 4 (by omega), tj 4 (by omega)]
    exact ⟨A, B, C, a1, by rw [s2j 1 (by omega)]; exact a2, by rw [s2j 2 (by omega)]; exact a3, by rw [s2j 3 (by omega)]; exact a4, by rw [m4]; exact a5, by rw [m4]; exact a6, fun u v => by rw [m4]; exact a7 u v⟩
  obtain ⟨r, r', g1, g2, w, d, g3, g4, g5, g6, g7, g8, g9, g10, g11⟩ := live_loop (m := mz) (bk := s2) (sc := sc) (c := c) hB hC (by rw [zj 2 (by omega), tj 2 (by omega)]; exact hM) (by rw [dz]; exact hR) hc s27 (by rw [zj 0 (by omega), tj 0 (by omega)]; exact h35) hez (by rw [hs2, sI_1, if_neg (by omega), sI_1, if_pos ⟨rfl, rfl⟩]) (by rw [hs2, sI_1, if_pos ⟨rfl, rfl⟩]) (z13 0 (by omega)) (z13 1 (by omega))
  obtain ⟨rb, rs⟩ := r
  obtain ⟨ea, eb⟩ := r'
  simp only at g5 g6 g7 g8 g9 g10 g11
  obtain ⟨S, hV, hS, hD, hx1, hx2⟩ := id g10
  have e2 : eb.2 = m.2 := g11.1.trans z2
  have ej : ∀ j, j ≠ 2 → j ≠ 8 → j ≠ 13 → eb.1 j = m.1 j := fun j a b d => by rw [g11.2.1 j a d, zj j d, tj j b]
  have e20 : ∀ i, i < 69 ∨ 161 ≤ i → eb.1 2 i = m.1 2 i := fun i hi => by rw [g11.2.2 i hi, zj 2 (by omega), tj 2 (by omega)]
  have hMe : sQM n h L e t hp hm sr (eb.1 2) := sQM_lo hB hM (fun i hi => e20 i (by omega))
  have hDe : sSM n S (dOf (sI eb 13 2 (eb.1 2 69))) := hD
  have hare := mo_are (m := sI eb 13 2 (eb.1 2 69)) hB hMe hV hDe (v := 2) (by omega)
  have hcare := sc_are hB hC hV hS (v := 2) (by omega)
  have s1 := hS.1.1
  have d1 := (sSM_live hD).1.1
  refine ⟨mt, mz, ea, eb, sI (sI (sI rb 0 8 (nI 1)) 0 9 (rs.1 0 1)) 0 10 (nI (msk n (fun p => S 3 p == 2))), rs, nI (msk n (fun p => S 3 p == 2)), w, d, ?_, ?_, g2, hare, ?_, g9, ?_, ?_, g3, g4, g8, g10, ?_, e2, ej, e20, fun i hi => ?_⟩
  · rw [hmt]; exact mo_tries
  · rw [hmz]; exact mo_L89
  · unfold fBk_live
    simp only [lit, bnd]
    rw [← hs2, g1, Option.bind_some]
    simp only
    rw [hcare, Option.bind_some]
  · rw [sI_1, if_neg (by omega), sI_1, if_neg (by omega), sI_1, if_neg (by omega)]; exact g5
  · rw [sI_1, if_neg (by omega), sI_1, if_neg (by omega), sI_1, if_neg (by omega)]; exact g7
  · right
    refine ⟨?_, rfl, ?_, ?_, ?_, ?_⟩
    · rw [sI_1, if_neg (by omega), sI_1, if_neg (by omega), sI_1, if_pos ⟨rfl, rfl⟩]
    · rw [sI_1, if_neg (by omega), sI_1, if_neg (by omega), sI_1, if_neg (by omega), g5, sI_1, if_neg (by omega), sI_1, if_neg (by omega), sI_1, if_neg (by omega), g6]
    · rw [sI_1, if_neg (by omega), sI_1, if_neg (by omega), sI_1, if_neg (by omega), g7, sI_1, if_neg (by omega), sI_1, if_neg (by omega), sI_1, if_neg (by omega), g8]
    · rw [sI_1, if_neg (by omega), sI_1, if_pos ⟨rfl, rfl⟩, sI_1, if_neg (by omega), sI_1, if_neg (by omega), sI_1, if_pos ⟨rfl, rfl⟩, s1, d1]
    · rw [sI_1, if_pos ⟨rfl, rfl⟩, sI_1, if_neg (by omega), sI_1, if_pos ⟨rfl, rfl⟩]
  · rw [g11.2.1 8 (by omega) (by omega), zj 8 (by omega), t8 i hi]
theorem R_book (hs : pStr n h L e t hp hm sr (X 5) (X 12) (X 23) (m.1 2) (m.2 5)) (hr : pRest X m)
    (hx : ∀ j, j ≠ 0 → j ≠ 1 → j ≠ 12 → (j < 100 ∨ 200 < j) → j ≠ 201 → j ≠ 213 → X' j = X j) (x0 : ∀ i, i ≠ 12 → (X' 0).1 0 i = (X 0).1 0 i) (xf : (X' 0).1 0 12 = m'.1 0 15) (x1 : (X' 1).2 1 = (X 1).2 1) (xs : (X' 1).1 0 1 = nI 0) (ml : m'.1 0 2 = nI 0)
    (f1 : ∀ j, j = 11 ∨ j = 12 ∨ j = 16 ∨ j = 18 → m'.1 j = m.1 j) (f2 : ∀ i, i < 69 ∨ 161 ≤ i → m'.1 2 i = m.1 2 i) (g : ∀ j, j ≠ 0 → m'.2 j = m.2 j) (f0 : ∀ i, 24 ≤ i → i ≤ 33 → m'.1 0 i = m.1 0 i) (hc : RC n h L hp (X' 12) (dOf m')) (hP : pPast n h L hp X' (m'.1 7) (m'.1 0 23)) (hT : pTol (X' 213) (m'.1 0 37) (m'.1 13)) : R X' m' := by
  obtain ⟨hB, hC, hM, hN, -, hY⟩ := hs
  refine ⟨n, h, L, e, t, hp, hm, sr, ⟨hB, ?_, sQM_lo hB hM (fun i hi => f2 i (by omega)), ?_, hc, ?_⟩, hP, ⟨0, by omega, xs, ml, fun i hi => absurd hi (by omega)⟩, pRest_read hr (fun j hj => hx j (by omega) (by omega) (by omega) (by omega) (by omega) (by omega)) x0 xf x1 f1 (g 6 (by omega)) (g 17 (by omega)) f0 hT⟩
  · rw [hx 5 (by omega) (by omega) (by omega) (by omega) (by omega) (by omega)]; exact hC
  · rw [hx 5 (by omega) (by omega) (by omega) (by omega) (by omega) (by omega), g 5 (by omega)]; exact hN
  · rw [hx 23 (by omega) (by omega) (by omega) (by omega) (by omega) (by omega)]
    exact sayR_s (fun i hi _ => f2 i (by omega)) hY
end
