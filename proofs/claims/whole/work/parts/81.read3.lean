theorem kws_inj : ∀ v, v < 29 → ∀ w, w < 29 → kws.getD v [] = kws.getD w [] → v = w := by decide +kernel
section
variable {z lim : Nat} {b : Nat → Nat} {ta m ta' m' x y q : Obj} {k v pl p p0 : Nat} {l : List Nat}
theorem ta_isW (h : syn z lim b k v l pl p ta m) {w : Nat} (hw : w < 29) : fTa_isWord ta (nI w) = some (nI (if k = 1 ∧ v = w then 1 else 0)) := by
  obtain ⟨-, ⟨t1, t2, t3, t4, t5⟩, -⟩ := h
  unfold fTa_isWord
  simp only [lit]
  rw [t1]
  by_cases hk : k = 1
  · subst hk
    obtain ⟨-, a1, a2, -⟩ : (1 = 1 ∧ v < 29 ∧ ta.1 0 5 = nI v ∧ m.1 0 11 = nI 1 ∧ m.2 0 17 = kw8 (kws.getD v [])) := by
      rcases t5 with t | t | t | t | t | t
      · exact absurd t.1 (by decide)
      · exact t
      · exact absurd t.1 (by decide)
      · exact absurd t.1 (by decide)
      · exact absurd t.1 (by decide)
      · exact absurd t.1 (by decide)
    rw [if_pos rfl, a2]
    by_cases hv : v = w
    · rw [if_pos (by rw [hv]), if_pos ⟨rfl, hv⟩]
    · rw [if_neg (by rw [neq (by omega) (by omega)]; exact hv), if_neg (fun u => hv u.2)]
  · rw [if_neg (by rw [neq (by omega) (by omega)]; exact hk), if_neg (fun u => hk u.1)]
theorem mo_isW (h : syn z lim b k v l pl p ta m) {w : Nat} (hw : w < 29) : fMo_isWord m (kw8 (kws.getD w [])) = some (nI (if k = 1 ∧ v = w then 1 else 0)) := by
  obtain ⟨-, ⟨t1, t2, t3, t4, t5⟩, -⟩ := h
  obtain ⟨k1, k2, k3⟩ := kws_ok w hw
  unfold fMo_isWord
  simp only [lit]
  have no : ∀ c, c < 5 → c ≠ 1 → k ≠ 1 → m.1 0 11 = nI c → (if m.1 0 11 = nI 1 then (if lg_cmp (m.2 0 17) (kw8 (kws.getD w [])) = nI 0 then some (nI 1) else some (nI 0)) else some (nI 0)) = some (nI (if k = 1 ∧ v = w then 1 else 0)) := fun c h1 h2 h3 h4 => by
    rw [h4, if_neg (by rw [neq (by omega) (by omega)]; exact h2), if_neg (fun u => h3 u.1)]
  rcases t5 with t | t | t | t | t | t
  · exact no 0 (by omega) (by omega) (by omega) t.2
  · obtain ⟨a1, a2, a3, a4, a5⟩ := t
    obtain ⟨j1, j2, j3⟩ := kws_ok v a2
    rw [a4, if_pos rfl, a5]
    by_cases hv : v = w
    · rw [if_pos ((lcmpN _ _).mpr (by rw [hv])), if_pos ⟨a1, hv⟩]
    · rw [if_neg (fun u => hv (kws_inj v a2 w hw ((kw_inj8 j1 k1 j3 k3).mp ((lcmpN _ _).mp u)))), if_neg (fun u => hv u.2)]
  · obtain ⟨a1, a2, a3, a4, a5, a6, a7, a8⟩ := t
    rw [a6, if_pos rfl, a7, if_neg (fun u => a8 w hw ((kw_inj8 a2 k1 a4 k3).mp ((lcmpN _ _).mp u))), if_neg (fun u => absurd (a1.symm.trans u.1) (by decide))]
  · exact no 2 (by omega) (by omega) (by omega) t.2.2.2.1
  · exact no 3 (by omega) (by omega) (by omega) t.2.2.2.2.1
  · exact no 4 (by omega) (by omega) (by omega) t.2
theorem sg_both (h : syn z lim b k v l pl p ta m) {c : Nat} (hc : c < 1000) : fTa_isSignOf ta (nI c) = some (nI (if k = 4 ∧ v = c then 1 else 0)) ∧ fMo_isSign m (nI c) = some (nI (if k = 4 ∧ v = c then 1 else 0)) := by
  obtain ⟨-, ⟨t1, t2, t3, t4, t5⟩, -⟩ := h
  unfold fTa_isSignOf fMo_isSign
  simp only [lit]
  rw [t1]
  by_cases hk : k = 4
  · subst hk
    obtain ⟨-, a0, a1, a2, a3, a4⟩ : (4 = 4 ∧ isSg v = true ∧ v < 256 ∧ ta.1 0 5 = nI v ∧ m.1 0 11 = nI 3 ∧ m.1 0 14 = nI v) := by
      rcases t5 with t | t | t | t | t | t
      · exact absurd t.1 (by decide)
      · exact absurd t.1 (by decide)
      · exact absurd t.1 (by decide)
      · exact absurd t.1 (by decide)
      · exact t
      · exact absurd t.1 (by decide)
    rw [if_pos rfl, a2, a3, if_pos rfl, a4]
    by_cases hv : v = c
    · rw [if_pos (by rw [hv]), if_pos ⟨rfl, hv⟩]; exact ⟨rfl, rfl⟩
    · rw [if_neg (by rw [neq (by omega) (by omega)]; exact hv), if_neg (fun u => hv u.2)]; exact ⟨rfl, rfl⟩
  · have h11 : ¬ m.1 0 11 = nI 3 := by
      rcases t5 with t | t | t | t | t | t
      · rw [t.2]; decide +kernel
      · rw [t.2.2.2.1]; decide +kernel
      · rw [t.2.2.2.2.2.1]; decide +kernel
      · rw [t.2.2.2.1]; decide +kernel
      · exact absurd t.1 hk
      · rw [t.2]; decide +kernel
    rw [if_neg (by rw [neq (by omega) (by omega)]; exact hk), if_neg h11, if_neg (fun u => hk u.1)]
    exact ⟨rfl, rfl⟩
/-- the end of a line -/
theorem end_both (h : lag z lim b p0 ta m) : (∃ k v l pl p ta' m', fTa_takeLineEnd ta = some (nI 1, ta') ∧ fMo_sign m (nI 59) = some (nI 1, m') ∧ syn z lim b k v l pl p ta' m' ∧ taF ta ta' ∧ moF m m' ∧ (k ≠ 0 → k ≠ 5 → p0 + 1 < p) ∧ p0 < z) ∨ (∃ ta' m', fTa_takeLineEnd ta = some (nI 0, ta') ∧ fMo_sign m (nI 59) = some (nI 0, m') ∧ fai ta' m' ∧ taB ta ta' ∧ moB m m') := by
  obtain ⟨ta1, k, v, l, pl, p, h1, h1', h2, h3, h5⟩ := h
  obtain ⟨g1, g2⟩ := sg_both h2 (c := 59) (by omega)
  have u1 : ¬ nI 1 = nI 0 := by decide +kernel
  have hpz := h2.2.2.1
  by_cases hq : k = 4 ∧ v = 59
  · left
    rw [if_pos hq] at g1 g2
    obtain ⟨k', v', l', pl', p', ta', m', j1, j2, j3, j4, j5, j6⟩ := syn_syn h2 (by omega)
    have hp := h3 (by omega) (by omega)
    refine ⟨k', v', l', pl', p', ta', m', ?_, ?_, j5, taF_trans h1' j3, j4, fun a b => ?_, by omega⟩
    · unfold fTa_takeLineEnd
      simp only [lit]
      rw [h1, Option.bind_some, g1, Option.bind_some, if_neg u1, j1]
      rfl
    · unfold fMo_sign
      simp only [lit]
      rw [g2, Option.bind_some, if_neg u1, j2]
      rfl
    · have := j6 a b
      omega
  · right
    rw [if_neg hq] at g1 g2
    obtain ⟨ta', m', j1, j2, j3, j4, j5⟩ := bad2 h2 (nI 1)
    refine ⟨ta', m', ?_, ?_, j3, taB_trans (taB_F h1') j4, j5⟩
    · unfold fTa_takeLineEnd
      simp only [lit]
      rw [h1, Option.bind_some, g1, Option.bind_some, if_pos rfl, j1]
      rfl
    · unfold fMo_sign
      simp only [lit]
      rw [g2, Option.bind_some, if_pos rfl, j2]
      simp only [Option.bind_some, bz_0]
/-- one of some words -/
theorem of_take {lo hi : Nat} (hlo : lo ≤ hi) (hhi : hi < 29) (h : lag z lim b p0 ta m) : (∃ d l pl p ta1, lo + d ≤ hi ∧ fTa_takeOneOf ta (nI lo) (nI hi) = some (nI d, ta1) ∧ syn z lim b 1 (lo + d) l pl p ta1 m ∧ p0 < p ∧ taF ta ta1) ∨ (∃ ta' m', fTa_takeOneOf ta (nI lo) (nI hi) = some (-nI 1, ta') ∧ fMo_bad m (nI 1) = some (nI 0, m') ∧ fai ta' m' ∧ taB ta ta' ∧ moB m m' ∧ ∀ w, lo ≤ w → w ≤ hi → fMo_isWord m (kw8 (kws.getD w [])) = some (nI 0)) := by
  obtain ⟨ta1, k, v, l, pl, p, h1, h1', h2, h3, h5⟩ := h
  obtain ⟨-, ⟨t1, t2, t3, t4, t5⟩, -⟩ := id h2
  have badC : ¬ (k = 1 ∧ lo ≤ v ∧ v ≤ hi) → (∃ ta' m', fTa_takeOneOf ta (nI lo) (nI hi) = some (-nI 1, ta') ∧ fMo_bad m (nI 1) = some (nI 0, m') ∧ fai ta' m' ∧ taB ta ta' ∧ moB m m' ∧ ∀ w, lo ≤ w → w ≤ hi → fMo_isWord m (kw8 (kws.getD w [])) = some (nI 0)) := fun hno => by
    obtain ⟨ta', m', j1, j2, j3, j4, j5⟩ := bad2 h2 (nI 1)
    have lJ : fTa_takeOneOf_J28 ta1 = some (-nI 1, ta') := by
      unfold fTa_takeOneOf_J28
      simp only [lit]
      rw [j1]; rfl
    refine ⟨ta', m', ?_, j2, j3, taB_trans (taB_F h1') j4, j5, fun w w1 w2 => ?_⟩
    · unfold fTa_takeOneOf
      simp only [lit]
      rw [h1, Option.bind_some, t1, lJ]
      by_cases hk : k = 1
      · subst hk
        obtain ⟨-, a1, a2, -⟩ : (1 = 1 ∧ v < 29 ∧ ta1.1 0 5 = nI v ∧ m.1 0 11 = nI 1 ∧ m.2 0 17 = kw8 (kws.getD v [])) := by
          rcases t5 with t | t | t | t | t | t
          · exact absurd t.1 (by decide)
          · exact t
          · exact absurd t.1 (by decide)
          · exact absurd t.1 (by decide)
          · exact absurd t.1 (by decide)
          · exact absurd t.1 (by decide)
        rw [if_pos rfl, a2]
        by_cases hl : v < lo
        · rw [if_pos (by rw [nlt (by omega) (by omega)]; exact hl)]
        · rw [if_neg (by rw [nlt (by omega) (by omega)]; exact hl), if_neg (by rw [nle (by omega) (by omega)]; omega)]
      · rw [if_neg (by rw [neq (by omega) (by omega)]; exact hk)]
    · rw [mo_isW h2 (by omega), if_neg (fun u => hno ⟨u.1, by omega, by omega⟩)]
  by_cases hk : k = 1 ∧ lo ≤ v ∧ v ≤ hi
  · left
    obtain ⟨rfl, hv1, hv2⟩ := hk
    obtain ⟨-, a1, a2, -⟩ : (1 = 1 ∧ v < 29 ∧ ta1.1 0 5 = nI v ∧ m.1 0 11 = nI 1 ∧ m.2 0 17 = kw8 (kws.getD v [])) := by
      rcases t5 with t | t | t | t | t | t
      · exact absurd t.1 (by decide)
      · exact t
      · exact absurd t.1 (by decide)
      · exact absurd t.1 (by decide)
      · exact absurd t.1 (by decide)
      · exact absurd t.1 (by decide)
    refine ⟨v - lo, l, pl, p, ta1, by omega, ?_, by rw [show lo + (v - lo) = v by omega]; exact h2, h3 (by decide) (by decide), h1'⟩
    unfold fTa_takeOneOf
    simp only [lit]
    rw [h1, Option.bind_some, t1, if_pos rfl, a2, if_neg (by rw [nlt (by omega) (by omega)]; omega), if_pos (by rw [nle (by omega) (by omega)]; omega), nsub hv1]
  · exact Or.inr (badC hk)
/-- a way to go -/
theorem way_both (h : lag z lim b p0 ta m) : (∃ d ta' m' p, d < 3 ∧ fTa_takeOneOf ta (nI 8) (nI 10) = some (nI d, ta') ∧ fMo_takesWay m = some (nI 1, m') ∧ m'.1 0 18 = nI d ∧ lag z lim b p ta' m' ∧ p0 < p ∧ taF ta ta' ∧ moB m m' ∧ m'.1 0 15 = m.1 0 15) ∨ (∃ ta' m', fTa_takeOneOf ta (nI 8) (nI 10) = some (-nI 1, ta') ∧ fMo_takesWay m = some (nI 0, m') ∧ fai ta' m' ∧ taB ta ta' ∧ moB m m') := by
  have u1 : ¬ nI 1 = nI 0 := by decide +kernel
  have e1 : (30064 : Int64) = kw8 (kws.getD 8 []) := by decide +kernel
  have e2 : (1685026670 : Int64) = kw8 (kws.getD 9 []) := by decide +kernel
  have e3 : (126943688025203 : Int64) = kw8 (kws.getD 10 []) := by decide +kernel
  rcases of_take (lo := 8) (hi := 10) (by omega) (by omega) h with ⟨d, l, pl, p, ta1, d1, g1, g2, g3, g4⟩ | ⟨ta', m', g1, g2, g3, g4, g5, g6⟩
  · left
    have w8 := mo_isW g2 (w := 8) (by omega)
    have w9 := mo_isW g2 (w := 9) (by omega)
    have w10 := mo_isW g2 (w := 10) (by omega)
    have hw : fMo_wayWord m = some (nI d) := by
      unfold fMo_wayWord
      simp only [lit]
      rw [e1, e2, e3, w8, w9, w10]
      simp only [Option.bind_some]
      rcases (show d = 0 ∨ d = 1 ∨ d = 2 by omega) with w | w | w <;> subst w
      all_goals decide +kernel
    have hs : syn z lim b 1 (8 + d) l pl p ta1 (sI m 0 18 (nI d)) := g2
    obtain ⟨m', j1, j2, j3⟩ := syn_lag hs (by decide)
    refine ⟨d, ta1, m', p, by omega, g1, ?_, ?_, j3, g3, g4, moB_trans moB_18 (moB_F j2), ?_⟩
    · unfold fMo_takesWay
      simp only [lit, bnd]
      rw [hw, Option.bind_some, if_pos (show nI 0 ≤ (sI m 0 18 (nI d)).1 0 18 by rw [sI_1, if_pos ⟨rfl, rfl⟩, nle (by omega) (by omega)]; omega), j1]
      rfl
    · rw [j2.2.1 18 (by omega) (by omega), sI_1, if_pos ⟨rfl, rfl⟩]
    · rw [j2.2.1 15 (by omega) (by omega)]; rfl
  · right
    have hw : fMo_wayWord m = some (-nI 1) := by
      unfold fMo_wayWord
      simp only [lit]
      rw [e1, e2, e3, g6 8 (by omega) (by omega), g6 9 (by omega) (by omega), g6 10 (by omega) (by omega)]
      simp only [Option.bind_some, if_true]
    -- the refusal, with the reference's own cell set before
    obtain ⟨ta1, k, v, l', pl, p, h1, h1', h2, h3, h5⟩ := h
    have hs : syn z lim b k v l' pl p ta1 (sI m 0 18 (-nI 1)) := h2
    refine ⟨ta', sI (sI (sI m 0 18 (-nI 1)) 0 15 (nI 1)) 0 16 (m.1 0 12), g1, ?_, ?_, g4, ?_⟩
    · unfold fMo_takesWay
      simp only [lit, bnd]
      rw [hw, Option.bind_some, if_neg (show ¬ nI 0 ≤ (sI m 0 18 (-nI 1)).1 0 18 by rw [sI_1, if_pos ⟨rfl, rfl⟩]; decide +kernel)]
      show some (bz (nI 0), _) = _
      rw [bz_0]
      rfl
    · have : m' = sI (sI m 0 15 (nI 1)) 0 16 (m.1 0 12) := by
        have := Option.some.inj g2
        exact (congrArg Prod.snd this).symm
      rw [this] at g3
      exact g3
    · refine moB_trans (moB_18 (v := -nI 1)) ⟨fun j hj => ?_, fun _ _ => rfl, fun i a b c => ?_⟩
      · show va_up (va_up (sI m 0 18 (-nI 1)).1 0 _) 0 _ j = _
        rw [va_up_ne _ _ hj, va_up_ne _ _ hj]
      · rw [sI_1, if_neg (by omega), sI_1, if_neg (by omega)]
end
