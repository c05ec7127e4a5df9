section
variable {z lim : Nat} {b : Nat → Nat} {ta m ta' m' m1 x y q q' qr qr' sc : Obj} {k v pl p p0 : Nat} {l : List Nat} {n h L e t : Nat} {hp hm : Nat → Nat} {sr : Nat → Bool} {S : Nat → Nat → Nat} {fa fb fc : Bool}
theorem once_ok (hs : syn z lim b k v l pl p ta m) (hk : k ≠ 5) {j : Nat} {o : Int32} (hb : fMo_bitOf (m.1 0 20) (nI j) = some (nI 0)) (ho : m.1 0 20 ||| shl (nI 1) (nI j) = o) : ∃ m1, fMo_once m (nI j) = some (nI 1, m1) ∧ m1.1 0 20 = o ∧ m1.1 3 = m.1 3 ∧ m1.2 5 = m.2 5 ∧ lag z lim b p ta m1 ∧ moQ m m1 ∧ m1.1 0 15 = m.1 0 15 := by
  have hs' : syn z lim b k v l pl p ta (sI m 0 20 o) := hs
  obtain ⟨m1, g1, g2, g3⟩ := syn_lag hs' hk
  refine ⟨m1, ?_, ?_, ?_, ?_, g3, moQ_trans (moQ_0 (by omega)) (moQ_F g2), ?_⟩
  · unfold fMo_once
    simp only [lit, bnd]
    rw [hb, Option.bind_some, if_pos rfl, ho, g1]
    rfl
  · rw [g2.2.1 20 (by omega) (by omega), sI_1, if_pos ⟨rfl, rfl⟩]
  · rw [g2.1 3 (by omega)]; rfl
  · rw [g2.2.2 5 (by omega)]; rfl
  · rw [g2.2.1 15 (by omega) (by omega)]; rfl
theorem once_no (hs : syn z lim b k v l pl p ta m) {j : Nat} (hb : fMo_bitOf (m.1 0 20) (nI j) = some (nI 1)) : ∃ ta' m', fQr_refuse ta (nI 3) = some (nI 0, ta') ∧ fMo_once m (nI j) = some (nI 0, m') ∧ lnNO ta m ta' m' := by
  obtain ⟨ta', m', g1, g2, g3⟩ := refuse_q hs 3
  refine ⟨ta', m', g1, ?_, g3⟩
  unfold fMo_once
  simp only [lit, bnd]
  rw [hb, Option.bind_some, if_neg (by decide +kernel), g2]
  simp only [Option.bind_some, bz_0]
/-- one of the quarter's three numbers changes -/
theorem dR_num (hd : dR n h L e t hp hm sr S fa fb fc q qr sc m) {L' e' t' : Nat} {fa' fb' fc' : Bool} (h3 : m1.1 3 = m.1 3) (h5 : m1.2 5 = m.2 5)
    (hB : sQB n h L' e' t' hp hm) (hV : L' = L ∨ n = 0) {i v : Nat} (hi : 2 ≤ i ∧ i ≤ 4) (hL : L' = if i = 2 then v else L) (he : e' = if i = 3 then v else e) (ht : t' = if i = 4 then v else t)
    (hqr : qr'.1 0 3 = nI (bn fa') ∧ qr'.1 0 4 = nI (bn fb') ∧ qr'.1 0 5 = nI (bn fc')) (h20 : m1.1 0 20 = nI (bn (fa' || decide (0 < h ∨ 0 < n)) + 2 * bn fb' + 4 * bn fc')) : dR n h L' e' t' hp hm sr S fa' fb' fc' (sI q 0 (i - 2) (nI v)) qr' sc (sI m1 3 i (nI v)) := by
  obtain ⟨b0, ⟨⟨c0, c1, c2, c3, c4⟩, c5, c6⟩, ⟨⟨d0, d1, d2, d3, d4⟩, d5, d6, d7⟩, hN, ⟨s1, s2, s3, s4, s5, s6, s7, s8, s9⟩, -⟩ := hd
  obtain ⟨b1, b2, -⟩ := id hB
  have f0 : ∀ j, j ≠ i → (sI m1 3 i (nI v)).1 3 j = m.1 3 j := fun j hj => by rw [sI_1, if_neg (by omega), h3]
  have f1 : (sI m1 3 i (nI v)).1 3 i = nI v := by rw [sI_1, if_pos ⟨rfl, rfl⟩]
  have q0 : ∀ j, j ≠ i - 2 → (sI q 0 (i - 2) (nI v)).1 0 j = q.1 0 j := fun j hj => by rw [sI_1, if_neg (by omega)]
  have q1 : (sI q 0 (i - 2) (nI v)).1 0 (i - 2) = nI v := by rw [sI_1, if_pos ⟨rfl, rfl⟩]
  have q2 : ∀ j k, j ≠ 0 → (sI q 0 (i - 2) (nI v)).1 j k = q.1 j k := fun j k hj => by rw [sI_1, if_neg (by omega)]
  refine ⟨hB, ⟨⟨?_, ?_, ?_, ?_, ?_⟩, fun k hk => ?_, fun p hpn => ?_⟩, ⟨⟨?_, ?_, ?_, ?_, ?_⟩, fun k hk => ?_, fun p hpn => ?_, ?_⟩, ?_, ⟨?_, s2, s3, s4, s5, fun p hpn => ?_, fun p h1 h2 => ?_, ?_, fun k hk => ?_⟩, hqr.1, hqr.2.1, hqr.2.2, h20⟩
  · by_cases h : i = 2
    · subst h; rw [hL, if_pos rfl]; exact q1
    · rw [q0 0 (by omega), hL, if_neg h]; exact c0
  · by_cases h : i = 3
    · subst h; rw [he, if_pos rfl]; exact q1
    · rw [q0 1 (by omega), he, if_neg h]; exact c1
  · by_cases h : i = 4
    · subst h; rw [ht, if_pos rfl]; exact q1
    · rw [q0 2 (by omega), ht, if_neg h]; exact c2
  · rw [q0 3 (by omega)]; exact c3
  · rw [q0 4 (by omega)]; exact c4
  · rw [q2 1 k (by omega), q2 2 k (by omega)]; exact c5 k hk
  · rw [q2 4 p (by omega), q2 5 p (by omega)]; exact c6 p hpn
  · rw [f0 0 (by omega)]; exact d0
  · rw [f0 1 (by omega)]; exact d1
  · by_cases h : i = 2
    · subst h; rw [hL, if_pos rfl]; exact f1
    · rw [f0 2 (by omega), hL, if_neg h]; exact d2
  · by_cases h : i = 3
    · subst h; rw [he, if_pos rfl]; exact f1
    · rw [f0 3 (by omega), he, if_neg h]; exact d3
  · by_cases h : i = 4
    · subst h; rw [ht, if_pos rfl]; exact f1
    · rw [f0 4 (by omega), ht, if_neg h]; exact d4
  · rw [f0 (5 + k) (by omega)]; exact d5 k hk
  · rw [f0 (11 + p) (by omega)]; exact d6 p hpn
  · rw [f0 35 (by omega)]; exact d7
  · show sQN n h (sI q 0 (i - 2) (nI v)) (fun i => m1.2 5 (14 + i))
    rw [h5]; exact hN
  · rcases hV with hV | hV
    · rw [hV]; exact s1
    · obtain ⟨v1, v2, v3, v4⟩ := s1
      exact ⟨v1, v2, fun p hpn => absurd hpn (by omega), v4⟩
  · obtain ⟨w1, w2, w3, w4, w5, w6, w7, w8⟩ := s6 p hpn
    rw [f0 (19 + p) (by omega), f0 (27 + p) (by omega), f0 (36 + p) (by omega)]
    exact ⟨w1, w2, w3, w4, w5, w6, w7, w8⟩
  · rw [f0 (36 + p) (by omega)]; exact s7 p h1 h2
  · rw [f0 44 (by omega)]; exact s8
  · rw [f0 (45 + k) (by have := s1.1.2; omega), f0 (57 + k) (by have := s1.1.2; omega)]; exact s9 k hk
end
