/-- how many bits lie below -/
def ctb (a p : Nat) : Nat := sm p (fun i => if a.testBit i then 1 else 0)
theorem ctb_le (a p : Nat) : ctb a p ≤ p := by
  have := sm_le (n := p) (f := fun i => if a.testBit i then 1 else 0) (b := 1) (fun i _ => by
    show (if _ then 1 else 0) ≤ 1
    split <;> omega)
  unfold ctb
  omega
theorem bio {a : Nat} (ha : a < 256) (v : Int32) : fKL_bitInOrder (nI a) v = some (bI (fi (fun p => a.testBit p && decide (nI (ctb a p) = v)) 8)) := by
  have u1 : ¬ nI 1 = nI 0 := by decide +kernel
  have key := iter_I (f := fKL_bitInOrder_L4 (nI a) v) (I := fun p s => s = (nI (ctb a p), nI p) ∧ ∀ j, j < p → (a.testBit j && decide (nI (ctb a j) = v)) = false) (E := fun e => Sum.elim (fun _ => some (-nI 1)) (fun r3 => some r3) e = some (bI (fi (fun p => a.testBit p && decide (nI (ctb a p) = v)) 8))) 8 (by omega) (a := (nI 0, nI 0)) ⟨rfl, fun j hj => absurd hj (by omega)⟩ (fun p s hp hz => ?_) (fun s hz => ?_)
  · obtain ⟨e, g1, g2⟩ := key
    unfold fKL_bitInOrder
    simp only [lit]
    rw [g1]
    exact g2
  · obtain ⟨rfl, hno⟩ := hz
    have hb := hasBit_n (a := a) (p := p) (by omega) (by omega)
    unfold fKL_bitInOrder_L4
    simp only [lit, nadd]
    rw [if_neg (by rw [nle (by omega) (by omega)]; omega), hb]
    simp only [Option.bind_some]
    cases hbb : a.testBit p
    · left
      simp only [Bool.false_eq_true, if_false, if_true]
      refine ⟨_, rfl, ?_, fun j hj => ?_⟩
      · show (nI (ctb a p), nI (p + 1)) = (nI (ctb a p + (if a.testBit p then 1 else 0)), nI (p + 1))
        rw [hbb]; rfl
      · by_cases hjp : j = p
        · subst hjp; rw [hbb]; rfl
        · exact hno j (by omega)
    · simp only [if_true, u1, if_false]
      by_cases hv : nI (ctb a p) = v
      · right
        rw [if_pos hv]
        refine ⟨_, rfl, ?_⟩
        rw [fi_some (P := fun p => a.testBit p && decide (nI (ctb a p) = v)) (k := p) (by show (a.testBit p && decide (nI (ctb a p) = v)) = true; rw [hbb, decide_eq_true hv]; rfl) hno hp]
        rfl
      · left
        rw [if_neg hv]
        refine ⟨_, rfl, ?_, fun j hj => ?_⟩
        · show (nI (ctb a p + 1), nI (p + 1)) = (nI (ctb a p + (if a.testBit p then 1 else 0)), nI (p + 1))
          rw [hbb]; rfl
        · by_cases hjp : j = p
          · subst hjp; rw [decide_eq_false hv, Bool.and_false]
          · exact hno j (by omega)
  · obtain ⟨rfl, hno⟩ := hz
    refine ⟨.inl (), ?_, ?_⟩
    · unfold fKL_bitInOrder_L4
      simp only [lit]
      rw [if_pos (by rw [nle (by omega) (by omega)]; omega)]
    · rw [fi_none hno]; rfl
theorem ctb_0 {a p : Nat} (h : ∀ j, j < p → a.testBit j = false) : ctb a p = 0 := by
  unfold ctb
  induction p with
  | zero => rfl
  | succ p ih =>
    show sm p _ + (if a.testBit p then 1 else 0) = 0
    rw [ih (fun j hj => h j (by omega)), h p (by omega)]; rfl
theorem bio0 {a : Nat} (ha : a < 256) : fKL_bitInOrder (nI a) (nI 0) = some (bI (fi (fun p => a.testBit p) 8)) := by
  rw [bio ha]
  congr 2
  rcases fi_cases (fun p => a.testBit p) 8 with ⟨f1, f2⟩ | ⟨k, h1, h2, h3, h4⟩
  · rw [f1]
    exact fi_none (fun j hj => by rw [f2 j hj]; rfl)
  · rw [h4]
    exact fi_some (by rw [h2, ctb_0 h3]; rfl) (fun j hj => by rw [h3 j hj]; rfl) h1
def cf (m m' : Obj) : Prop := m'.2 = m.2 ∧ (∀ j, j ≠ 0 → j ≠ 10 → j ≠ 11 → m'.1 j = m.1 j) ∧ ∀ i, i ≠ 0 → i ≠ 29 → m'.1 0 i = m.1 0 i
section
variable {X X' X1 : Nat → Obj} {n h L e t : Nat} {hp hm : Nat → Nat} {sr : Nat → Bool} {q m m' m0 m1 sc sc0 sc2 ta ch ch' : Obj} {S S' : Nat → Nat → Nat} {T : Nat} {B : Nat → Nat}
theorem gr_of (hn : n ≤ 8) (hV : sSV n h L hp S) : gr n S := ⟨hn, fun p hpn => ⟨(hV.2.2.1 p hpn).1.2.2.2.2.2.1, (hV.2.2.1 p hpn).2.2.1⟩, hV.2.2.2⟩
theorem ch_any (hB : sQB n h L e t hp hm) (hC : sQC n h L e t hp hm sr q) (hV : sSV n h L hp S) (hS : sSC n S sc) {a : Nat} (ha : a < 256) : fCh_knownToAny q sc (nI a) = some (nI (kny n S a 8)) := by
  have b1 := hB.1
  have u1 : ¬ nI 1 = nI 0 := by decide +kernel
  have key := iter_F (f := fCh_knownToAny_L4 q sc (nI a)) (F := fun p => (nI (kny n S a p), nI p)) (nI (kny n S a 8)) 8 (by omega) (fun p hp => ?_) ?_
  · unfold fCh_knownToAny
    have key' : iter (fCh_knownToAny_L4 q sc (nI a)) FU (nI 0, nI 0) = _ := key
    simp only [lit]
    rw [key']; rfl
  · have hb := hasBit_n (a := a) (p := p) (by omega) (by omega)
    show fCh_knownToAny_L4 q sc (nI a) (nI (kny n S a p), nI p) = some (.inl (nI (kny n S a p ||| (if a.testBit p = true ∧ p < n then S 8 p else 0)), nI (p + 1)))
    unfold fCh_knownToAny_L4
    simp only [lit, nadd]
    rw [if_neg (by rw [nle (by omega) (by omega)]; omega), hb]
    simp only [Option.bind_some]
    cases hbb : a.testBit p
    · simp only [Bool.false_eq_true, if_false, if_true, false_and, Nat.or_zero]
    · simp only [if_true, u1, if_false, true_and]
      by_cases hpn : p < n
      · rw [sc_knownTo hB hC hS hpn, if_pos hpn]
        simp only [Option.bind_some, bnd, nx_or]
      · have : fSc_knownTo q sc (nI p) = some (nI 0) := by
          unfold fSc_knownTo
          simp only [lit]
          rw [qu_hasP0 hB hC (fun r hr => by rw [neq (by omega) (by omega)]; omega)]
          rfl
        rw [this, if_neg hpn]
        simp only [Option.bind_some, bnd, nx_or]
  · show fCh_knownToAny_L4 q sc (nI a) (nI (kny n S a 8), nI 8) = some (.inr (nI (kny n S a 8)))
    unfold fCh_knownToAny_L4
    simp only [lit]
    rw [if_pos (by rw [nle (by omega) (by omega)]; omega)]
theorem ch_layers (hB : sQB n h L e t hp hm) (hC : sQC n h L e t hp hm sr q) (hV : sSV n h L hp S) (hS : sSC n S sc) {b c : Nat} (hb : b < n) (hc : c < n) : ∃ d ch', iter (fCh_find_L12 q sc (nI c)) FU (nI 0, sI ch 2 0 (nI (2 ^ b))) = some (nI d, ch') ∧ d ≤ 7 ∧ (∀ i, i ≤ d → ch'.1 2 i = nI (lay n S b i)) ∧ ch'.1 0 2 = ch.1 0 2 ∧ ch'.1 1 = ch.1 1 ∧ ((lay n S b d).testBit c = true ∨ d = 7) ∧ ∀ i, i < d → (lay n S b i).testBit c = false := by
  have b1 := hB.1
  have hg := gr_of b1 hV
  have u1 : ¬ nI 1 = nI 0 := by decide +kernel
  have key := iter_I (f := fCh_find_L12 q sc (nI c)) (I := fun d a => ∃ ch', a = (nI d, ch') ∧ (∀ i, i ≤ d → ch'.1 2 i = nI (lay n S b i)) ∧ ch'.1 0 2 = ch.1 0 2 ∧ ch'.1 1 = ch.1 1 ∧ ∀ i, i < d → (lay n S b i).testBit c = false) (E := fun z => ∃ d ch', z = (nI d, ch') ∧ d ≤ 7 ∧ (∀ i, i ≤ d → ch'.1 2 i = nI (lay n S b i)) ∧ ch'.1 0 2 = ch.1 0 2 ∧ ch'.1 1 = ch.1 1 ∧ ((lay n S b d).testBit c = true ∨ d = 7) ∧ ∀ i, i < d → (lay n S b i).testBit c = false) 7 (by omega) (a := (nI 0, sI ch 2 0 (nI (2 ^ b)))) ⟨_, rfl, fun i hi => ?_, rfl, rfl, fun i hi => absurd hi (by omega)⟩ (fun d a hd hz => ?_) (fun a hz => ?_)
  · obtain ⟨z, g1, d, ch', rfl, g3⟩ := key
    exact ⟨d, ch', g1, g3⟩
  · have : i = 0 := by omega
    subst this
    rw [sI_1, if_pos ⟨rfl, rfl⟩]; rfl
  · obtain ⟨ch', rfl, h1, h2, h3, h4⟩ := hz
    have hl := lay_lt hg (d := d) hb
    have hbt := hasBit_n (a := lay n S b d) (p := c) (by omega) (by omega)
    unfold fCh_find_L12
    simp only [lit, nadd]
    rw [if_neg (by rw [nle (by omega) (by omega)]; omega), ix_nI (by omega) (by omega)]
    simp only [Option.bind_some]
    rw [h1 d (by omega), hbt]
    simp only [Option.bind_some]
    cases hbb : (lay n S b d).testBit c
    · left
      simp only [Bool.false_eq_true, if_false, if_true]
      rw [nsub (by omega), Nat.add_sub_cancel, ix_nI (by omega) (by omega)]
      simp only [Option.bind_some]
      rw [h1 d (by omega), ch_any hB hC hV hS hl, ix_nI (by omega) (by omega)]
      refine ⟨_, rfl, _, rfl, fun i hi => ?_, h2, h3, fun i hi => ?_⟩
      · by_cases hid : i = d + 1
        · subst hid
          rw [sI_1, if_pos ⟨rfl, rfl⟩]; rfl
        · rw [sI_1, if_neg (fun z => hid z.2)]
          exact h1 i (by omega)
      · by_cases hid : i = d
        · subst hid; exact hbb
        · exact h4 i (by omega)
    · right
      simp only [if_true, u1, if_false]
      exact ⟨_, rfl, d, ch', rfl, by omega, h1, h2, h3, Or.inl hbb, h4⟩
  · obtain ⟨ch', rfl, h1, h2, h3, h4⟩ := hz
    refine ⟨_, ?_, 7, ch', rfl, by omega, h1, h2, h3, Or.inr rfl, h4⟩
    unfold fCh_find_L12
    simp only [lit, nadd]
    rw [if_pos (by rw [nle (by omega) (by omega)]; omega)]
theorem ch_walk (hB : sQB n h L e t hp hm) (hC : sQC n h L e t hp hm sr q) (hV : sSV n h L hp S) (hS : sSC n S sc) {b c d : Nat} (hb : b < n) (hc : c < n) (hd : d ≤ 7) (hl : ∀ i, i ≤ d → ch.1 2 i = nI (lay n S b i)) (h1 : (lay n S b d).testBit c = true) (h2 : ∀ i, i < d → (lay n S b i).testBit c = false) : ∃ ch', fCh_walk q sc ch (nI c) (nI d) = some ch' ∧ ch'.1 0 2 = nI (d + 1) ∧ ∀ i, i ≤ d → ch'.1 1 i = nI (rowf n S b d c i) := by
  have b1 := hB.1
  have hg := gr_of b1 hV
  have key := iter_I (f := fCh_walk_L17 q sc) (I := fun s a => ∃ ch', a = (nI (d - s) - nI 1, ch') ∧ ch'.1 0 2 = nI (s + 1) ∧ (∀ i, i ≤ s → ch'.1 1 i = nI (rowf n S b d c i)) ∧ ∀ i, i ≤ d → ch'.1 2 i = nI (lay n S b i)) (E := fun ch' => ch'.1 0 2 = nI (d + 1) ∧ ∀ i, i ≤ d → ch'.1 1 i = nI (rowf n S b d c i)) d (by omega) (a := (nI d - nI 1, sI (sI ch 1 0 (nI c)) 0 2 (nI 1))) ⟨_, rfl, rfl, fun i hi => ?_, hl⟩ (fun s a hs hz => ?_) (fun a hz => ?_)
  · obtain ⟨z, g1, g2⟩ := key
    refine ⟨z, ?_, g2⟩
    unfold fCh_walk
    simp only [lit, bnd]
    rw [g1]; rfl
  · have : i = 0 := by omega
    subst this
    rfl
  · obtain ⟨ch', rfl, k1, k2, k3⟩ := hz
    left
    obtain ⟨g1, g2, g3, g4⟩ := row_ok hg hb hc h1 h2 s (by omega)
    obtain ⟨k, j1, j2, j3, j4⟩ := g4 hs
    have er : rowf n S b d c (s + 1) = k := by
      show (fi _ 8).getD 0 = k
      rw [j2]; rfl
    have v8 := (hV.2.2.1 _ g1).1.2.2.2.2.2.1
    have hab := and_256 (b := lay n S b (d - s - 1)) v8
    have hbio : fKL_bitInOrder (nI (S 8 (rowf n S b d c s) &&& lay n S b (d - s - 1))) (nI 0) = some (nI k) := by
      rw [bio0 hab, fi_congr (Q := fun k => (S 8 (rowf n S b d c s)).testBit k && (lay n S b (d - s - 1)).testBit k) (fun i _ => Nat.testBit_and _ _ _), j2]; rfl
    unfold fCh_walk_L17
    rw [nsub (by omega)]
    simp only [lit]
    rw [if_neg (nI_lt0 (by omega)), if_neg (by rw [nle (by omega) (by omega)]; omega), k1, if_neg (by rw [nle (by omega) (by omega)]; omega), nsub (by omega), Nat.add_sub_cancel, ix_nI (by omega) (by omega)]
    simp only [Option.bind_some]
    rw [k2 s (by omega), sc_knownTo hB hC hS g1, ix_nI (by omega) (by omega)]
    simp only [Option.bind_some]
    rw [k3 (d - s - 1) (by omega), nx_and, hbio, ix_nI (by omega) (by omega)]
    simp only [Option.bind_some, bnd]
    have e1 : ∀ v, (sI ch' 1 (s + 1) v).1 0 2 = nI (s + 1) := fun v => k1
    rw [e1, nadd, add_n1]
    refine ⟨_, rfl, sI (sI ch' 1 (s + 1) (nI k)) 0 2 (nI (s + 1 + 1)), ?_, rfl, fun i hi => ?_, k3⟩
    · rw [show d - s - 1 = d - (s + 1) by omega]
    · show (if i = s + 1 then nI k else ch'.1 1 i) = _
      by_cases his : i = s + 1
      · rw [if_pos his, his, er]
      · rw [if_neg his]; exact k2 i (by omega)
  · obtain ⟨ch', rfl, k1, k2, k3⟩ := hz
    refine ⟨ch', ?_, k1, k2⟩
    unfold fCh_walk_L17
    simp only [lit]
    rw [Nat.sub_self, if_pos (by decide +kernel)]
end
