section
variable {z lim : Nat} {b : Nat → Nat} {ta m ta' m' m1 x y q q' qr qr' sc : Obj} {k v v0 pl p p0 : Nat} {l : List Nat} {n h L e t : Nat} {hp hm : Nat → Nat} {sr : Nat → Bool} {S : Nat → Nat → Nat} {fa fb fc : Bool}
theorem ear_line (hd : dR n h L e t hp hm sr S fa fb fc q qr sc m) (hs : syn z lim b 1 v0 l pl p ta m) : (∃ q' qr' ta' m', fQr_readEar q qr ta = some (nI 1, q', qr', ta') ∧ ((fMo_once m (nI 1)).bind fun r15 => if r15.1 = nI 0 then some (nI 0, r15.2) else (fMo_puts r15.2 (nI 3) (nI 0) (nI 9)).bind fun r16 => if r16.1 = nI 0 then some (nI 0, r16.2) else some (nI 1, r16.2)) = some (nI 1, m') ∧ lnOK z lim b p ta m q' qr' ta' sc m') ∨ (∃ q' qr' ta' m', fQr_readEar q qr ta = some (nI 0, q', qr', ta') ∧ ((fMo_once m (nI 1)).bind fun r15 => if r15.1 = nI 0 then some (nI 0, r15.2) else (fMo_puts r15.2 (nI 3) (nI 0) (nI 9)).bind fun r16 => if r16.1 = nI 0 then some (nI 0, r16.2) else some (nI 1, r16.2)) = some (nI 0, m') ∧ lnNO ta m ta' m') := by
  have u1 : ¬ nI 1 = nI 0 := by decide +kernel
  obtain ⟨hB, -, -, -, -, r3, r4, r5, r20⟩ := id hd
  obtain ⟨b1, b2, b3, b4, b5, b6, b7, b8, b9⟩ := id hB
  obtain ⟨o1, o2, o3, o4, o5, o6, o7⟩ := on_bits (fa || decide (0 < h ∨ 0 < n)) fb fc
  cases hf : fb
  · subst hf
    rw [← r20] at o2
    obtain ⟨m1, g1, g2, g3, g4, g5, g6, g7⟩ := once_ok hs (by decide) o2 (o := nI (bn (fa || decide (0 < h ∨ 0 < n)) + 2 * bn true + 4 * bn fc)) (by rw [r20]; exact o5)
    rcases puts_both (i := 3) (lo := 0) (hi := 9) (by omega) (by omega) (by omega) g5 with ⟨v, ta', m2, p', j1, j2, j3, j4, j5, j6, j7, j8, j9, j10⟩ | ⟨ta', m2, j1, j2, j3, j4, j5⟩
    · left
      have hq : (sI q 0 1 (nI v)).1 0 1 = nI v := by rw [sI_1, if_pos ⟨rfl, rfl⟩]
      refine ⟨sI q 0 1 (nI v), sI qr 0 4 (nI 1), ta', sI m2 3 3 (nI v), ?_, ?_, ⟨n, h, L, v, t, hp, hm, sr, S, fa, true, fc, ?_⟩, lag_le j5 (by omega), j7, moQ_trans g6 (moQ_trans (moQ_B j8) moQ_3), j9, ?_⟩
      · unfold fQr_readEar
        simp only [lit, bnd]
        rw [r4, if_pos (show nI (bn false) = nI 0 from rfl), j1, Option.bind_some, hq, if_neg (nI_ne_m1' (by omega))]
      · rw [g1, Option.bind_some, if_neg u1, j2, Option.bind_some, if_neg u1]
      · refine dR_num (m1 := m2) hd (by rw [j8.1 3 (by omega), g3]) (by rw [j8.2.1 5 (by omega), g4]) ⟨b1, b2, b3, b4, j4, b6, b7, b8, b9⟩ (Or.inl rfl) (i := 3) (v := v) (by omega) (by rw [if_neg (by omega)]) (by rw [if_pos rfl]) (by rw [if_neg (by omega)]) ⟨r3, by rw [sI_1, if_pos ⟨rfl, rfl⟩]; rfl, r5⟩ ?_
        rw [j8.2.2 20 (by omega) (by omega) (by omega), g2]
      · show m2.1 0 15 = _
        rw [j10, g7]
    · right
      have hq : (sI q 0 1 (-nI 1)).1 0 1 = -nI 1 := by rw [sI_1, if_pos ⟨rfl, rfl⟩]
      refine ⟨sI q 0 1 (-nI 1), sI qr 0 4 (nI 1), ta', m2, ?_, ?_, j3, j4, moQ_trans g6 (moQ_B j5)⟩
      · unfold fQr_readEar
        simp only [lit, bnd]
        rw [r4, if_pos (show nI (bn false) = nI 0 from rfl), j1, Option.bind_some, hq, if_pos rfl]
      · rw [g1, Option.bind_some, if_neg u1, j2, Option.bind_some, if_pos rfl]
  · right
    subst hf
    rw [← r20] at o2
    obtain ⟨ta', m', g1, g2, g3⟩ := once_no hs o2
    refine ⟨q, qr, ta', m', ?_, ?_, g3⟩
    · unfold fQr_readEar
      simp only [lit, bnd]
      rw [r4, if_neg (show ¬ nI (bn true) = nI 0 from u1), g1]
      simp only [Option.bind_some, bz_0]
    · rw [g2, Option.bind_some, if_pos rfl]
theorem stay_line (hd : dR n h L e t hp hm sr S fa fb fc q qr sc m) (hs : syn z lim b 1 v0 l pl p ta m) : (∃ q' qr' ta' m', fQr_readStay q qr ta = some (nI 1, q', qr', ta') ∧ ((fMo_once m (nI 2)).bind fun r15 => if r15.1 = nI 0 then some (nI 0, r15.2) else (fMo_puts r15.2 (nI 4) (nI 1) (nI 30)).bind fun r16 => if r16.1 = nI 0 then some (nI 0, r16.2) else some (nI 1, r16.2)) = some (nI 1, m') ∧ lnOK z lim b p ta m q' qr' ta' sc m') ∨ (∃ q' qr' ta' m', fQr_readStay q qr ta = some (nI 0, q', qr', ta') ∧ ((fMo_once m (nI 2)).bind fun r15 => if r15.1 = nI 0 then some (nI 0, r15.2) else (fMo_puts r15.2 (nI 4) (nI 1) (nI 30)).bind fun r16 => if r16.1 = nI 0 then some (nI 0, r16.2) else some (nI 1, r16.2)) = some (nI 0, m') ∧ lnNO ta m ta' m') := by
  have u1 : ¬ nI 1 = nI 0 := by decide +kernel
  obtain ⟨hB, -, -, -, -, r3, r4, r5, r20⟩ := id hd
  obtain ⟨b1, b2, b3, b4, b5, b6, b7, b8, b9⟩ := id hB
  obtain ⟨o1, o2, o3, o4, o5, o6, o7⟩ := on_bits (fa || decide (0 < h ∨ 0 < n)) fb fc
  cases hf : fc
  · subst hf
    rw [← r20] at o3
    obtain ⟨m1, g1, g2, g3, g4, g5, g6, g7⟩ := once_ok hs (by decide) o3 (o := nI (bn (fa || decide (0 < h ∨ 0 < n)) + 2 * bn fb + 4 * bn true)) (by rw [r20]; exact o6)
    rcases puts_both (i := 4) (lo := 1) (hi := 30) (by omega) (by omega) (by omega) g5 with ⟨v, ta', m2, p', j1, j2, j3, j4, j5, j6, j7, j8, j9, j10⟩ | ⟨ta', m2, j1, j2, j3, j4, j5⟩
    · left
      have hq : (sI q 0 2 (nI v)).1 0 2 = nI v := by rw [sI_1, if_pos ⟨rfl, rfl⟩]
      refine ⟨sI q 0 2 (nI v), sI qr 0 5 (nI 1), ta', sI m2 3 4 (nI v), ?_, ?_, ⟨n, h, L, e, v, hp, hm, sr, S, fa, fb, true, ?_⟩, lag_le j5 (by omega), j7, moQ_trans g6 (moQ_trans (moQ_B j8) moQ_3), j9, ?_⟩
      · unfold fQr_readStay
        simp only [lit, bnd]
        rw [r5, if_pos (show nI (bn false) = nI 0 from rfl), j1, Option.bind_some, hq, if_neg (nI_ne_m1' (by omega))]
      · rw [g1, Option.bind_some, if_neg u1, j2, Option.bind_some, if_neg u1]
      · refine dR_num (m1 := m2) hd (by rw [j8.1 3 (by omega), g3]) (by rw [j8.2.1 5 (by omega), g4]) ⟨b1, b2, b3, b4, b5, j3, j4, b8, b9⟩ (Or.inl rfl) (i := 4) (v := v) (by omega) (by rw [if_neg (by omega)]) (by rw [if_neg (by omega)]) (by rw [if_pos rfl]) ⟨r3, r4, by rw [sI_1, if_pos ⟨rfl, rfl⟩]; rfl⟩ ?_
        rw [j8.2.2 20 (by omega) (by omega) (by omega), g2]
      · show m2.1 0 15 = _
        rw [j10, g7]
    · right
      have hq : (sI q 0 2 (-nI 1)).1 0 2 = -nI 1 := by rw [sI_1, if_pos ⟨rfl, rfl⟩]
      refine ⟨sI q 0 2 (-nI 1), sI qr 0 5 (nI 1), ta', m2, ?_, ?_, j3, j4, moQ_trans g6 (moQ_B j5)⟩
      · unfold fQr_readStay
        simp only [lit, bnd]
        rw [r5, if_pos (show nI (bn false) = nI 0 from rfl), j1, Option.bind_some, hq, if_pos rfl]
      · rw [g1, Option.bind_some, if_neg u1, j2, Option.bind_some, if_pos rfl]
  · right
    subst hf
    rw [← r20] at o3
    obtain ⟨ta', m', g1, g2, g3⟩ := once_no hs o3
    refine ⟨q, qr, ta', m', ?_, ?_, g3⟩
    · unfold fQr_readStay
      simp only [lit, bnd]
      rw [r5, if_neg (show ¬ nI (bn true) = nI 0 from u1), g1]
      simp only [Option.bind_some, bz_0]
    · rw [g2, Option.bind_some, if_pos rfl]
theorem lane_line (hd : dR n h L e t hp hm sr S fa fb fc q qr sc m) (hs : syn z lim b 1 v0 l pl p ta m) : (∃ q' qr' ta' m', fQr_readLane q qr ta = some (nI 1, q', qr', ta') ∧ ((fMo_once m (nI 0)).bind fun r15 => if r15.1 = nI 0 then some (nI 0, r15.2) else (fMo_puts r15.2 (nI 2) (nI 2) (nI 20)).bind fun r16 => if r16.1 = nI 0 then some (nI 0, r16.2) else some (nI 1, r16.2)) = some (nI 1, m') ∧ lnOK z lim b p ta m q' qr' ta' sc m') ∨ (∃ q' qr' ta' m', fQr_readLane q qr ta = some (nI 0, q', qr', ta') ∧ ((fMo_once m (nI 0)).bind fun r15 => if r15.1 = nI 0 then some (nI 0, r15.2) else (fMo_puts r15.2 (nI 2) (nI 2) (nI 20)).bind fun r16 => if r16.1 = nI 0 then some (nI 0, r16.2) else some (nI 1, r16.2)) = some (nI 0, m') ∧ lnNO ta m ta' m') := by
  have u1 : ¬ nI 1 = nI 0 := by decide +kernel
  obtain ⟨hB, hC, -, -, -, r3, r4, r5, r20⟩ := id hd
  obtain ⟨b1, b2, b3, b4, b5, b6, b7, b8, b9⟩ := id hB
  have c3 := hC.1.2.2.2.1
  have c4 := hC.1.2.2.2.2
  obtain ⟨o1, o2, o3, o4, o5, o6, o7⟩ := on_bits (fa || decide (0 < h ∨ 0 < n)) fb fc
  rw [← r20] at o1
  cases hf : (fa || decide (0 < h ∨ 0 < n))
  · rw [hf] at o1 r20
    rw [Bool.or_eq_false_iff, decide_eq_false_iff_not] at hf
    obtain ⟨hfa, hhn⟩ := hf
    have h0 : h = 0 := by omega
    have n0 : n = 0 := by omega
    obtain ⟨m1, g1, g2, g3, g4, g5, g6, g7⟩ := once_ok hs (by decide) o1 (o := nI (bn true + 2 * bn fb + 4 * bn fc)) (by rw [r20]; exact o4)
    have lC : fQr_readLane q qr ta = (fTa_takeNumber ta (nI 2) (nI 20)).bind fun r3 => if (sI q 0 0 r3.1).1 0 0 = -nI 1 then some (nI 0, sI q 0 0 r3.1, sI qr 0 3 (nI 1), r3.2) else some (nI 1, sI q 0 0 r3.1, sI qr 0 3 (nI 1), r3.2) := by
      unfold fQr_readLane
      simp only [lit, bnd]
      rw [r3, hfa, if_pos (show nI (bn false) = nI 0 from rfl), c3, c4, if_neg (by rw [nlt (by omega) (by omega)]; omega), if_pos (by rw [nle (by omega) (by omega)]; omega)]
    rcases puts_both (i := 2) (lo := 2) (hi := 20) (by omega) (by omega) (by omega) g5 with ⟨v, ta', m2, p', j1, j2, j3, j4, j5, j6, j7, j8, j9, j10⟩ | ⟨ta', m2, j1, j2, j3, j4, j5⟩
    · left
      have hq : (sI q 0 0 (nI v)).1 0 0 = nI v := by rw [sI_1, if_pos ⟨rfl, rfl⟩]
      refine ⟨sI q 0 0 (nI v), sI qr 0 3 (nI 1), ta', sI m2 3 2 (nI v), ?_, ?_, ⟨n, h, v, e, t, hp, hm, sr, S, true, fb, fc, ?_⟩, lag_le j5 (by omega), j7, moQ_trans g6 (moQ_trans (moQ_B j8) moQ_3), j9, ?_⟩
      · rw [lC, j1, Option.bind_some, hq, if_neg (nI_ne_m1' (by omega))]
      · rw [g1, Option.bind_some, if_neg u1, j2, Option.bind_some, if_neg u1]
      · refine dR_num (m1 := m2) hd (by rw [j8.1 3 (by omega), g3]) (by rw [j8.2.1 5 (by omega), g4]) ⟨b1, b2, j3, j4, b5, b6, b7, fun k hk => absurd hk (by omega), b9⟩ (Or.inr n0) (i := 2) (v := v) (by omega) (by rw [if_pos rfl]) (by rw [if_neg (by omega)]) (by rw [if_neg (by omega)]) ⟨by rw [sI_1, if_pos ⟨rfl, rfl⟩]; rfl, r4, r5⟩ ?_
        rw [j8.2.2 20 (by omega) (by omega) (by omega), g2, Bool.true_or]
      · show m2.1 0 15 = _
        rw [j10, g7]
    · right
      have hq : (sI q 0 0 (-nI 1)).1 0 0 = -nI 1 := by rw [sI_1, if_pos ⟨rfl, rfl⟩]
      refine ⟨sI q 0 0 (-nI 1), sI qr 0 3 (nI 1), ta', m2, ?_, ?_, j3, j4, moQ_trans g6 (moQ_B j5)⟩
      · rw [lC, j1, Option.bind_some, hq, if_pos rfl]
      · rw [g1, Option.bind_some, if_neg u1, j2, Option.bind_some, if_pos rfl]
  · right
    rw [hf] at o1
    obtain ⟨ta', m', g1, g2, g3⟩ := once_no hs o1
    have lJ : fQr_readLane_J27 q qr ta = some (nI 0, q, qr, ta') := by
      unfold fQr_readLane_J27
      simp only [lit]
      rw [g1]
      simp only [Option.bind_some, bz_0]
    refine ⟨q, qr, ta', m', ?_, ?_, g3⟩
    · unfold fQr_readLane
      simp only [lit, bnd]
      rw [r3, c3, c4, lJ]
      cases hfa : fa
      · rw [if_pos (show nI (bn false) = nI 0 from rfl)]
        rw [hfa, Bool.false_or, decide_eq_true_eq] at hf
        by_cases hh : 0 < h
        · rw [if_pos (by rw [nlt (by omega) (by omega)]; exact hh)]
        · rw [if_neg (by rw [nlt (by omega) (by omega)]; exact hh), if_neg (by rw [nle (by omega) (by omega)]; omega)]
      · rw [if_neg (show ¬ nI (bn true) = nI 0 from u1)]
    · rw [g2, Option.bind_some, if_pos rfl]
end
