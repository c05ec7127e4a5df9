def isL (c : Nat) : Bool := decide (97 ≤ c ∧ c ≤ 122)
def isD (c : Nat) : Bool := decide (48 ≤ c ∧ c ≤ 57)
def isBl (c : Nat) : Bool := decide (c = 32 ∨ c = 10)
def isSg (c : Nat) : Bool := decide (c = 59 ∨ c = 60 ∨ c = 61 ∨ c = 62 ∨ c = 40 ∨ c = 41)
theorem tb_bl : ∀ c, c < 256 → fTa_isBlank (nI c) = some (nI (bn (isBl c))) := by decide +kernel
theorem tb_sg : ∀ c, c < 256 → fTa_isSign (nI c) = some (nI (bn (isSg c))) := by decide +kernel
theorem tb_sm : ∀ c, c < 256 → fMo_isSmall (nI c) = some (nI (bn (isL c))) := by decide +kernel
theorem tb_dg : ∀ c, c < 256 → fMo_isDigit (nI c) = some (nI (bn (isD c))) := by decide +kernel
theorem tb_b : ∀ c, c < 256 → ((i2b (nI c) < nI 97 ∨ nI 122 < i2b (nI c)) ↔ isL c = false) ∧ ((i2b (nI c) < nI 48 ∨ nI 57 < i2b (nI c)) ↔ isD c = false) := by decide +kernel
theorem tb_c : ∀ c, c < 128 → i2b (nI c) = nI c := by decide +kernel
theorem tb_m1 : fMo_isSmall (-nI 1) = some (nI 0) ∧ fMo_isDigit (-nI 1) = some (nI 0) ∧ ¬ -nI 1 = nI 32 ∧ ¬ -nI 1 = nI 10 := by decide +kernel
/-- all that reading a token leaves as it was -/
def taF (ta ta' : Obj) : Prop := (∀ j, j ≠ 0 → ta'.1 j = ta.1 j) ∧ (∀ i, i ≠ 4 → i ≠ 5 → i ≠ 9 → i ≠ 10 → ta'.1 0 i = ta.1 0 i) ∧ ∀ j, j ≠ 0 → ta'.2 j = ta.2 j
def moF (m m' : Obj) : Prop := (∀ j, j ≠ 0 → m'.1 j = m.1 j) ∧ (∀ i, i ≠ 4 → i < 11 ∨ 14 < i → m'.1 0 i = m.1 0 i) ∧ ∀ j, j ≠ 0 → m'.2 j = m.2 j
theorem taF_refl (x : Obj) : taF x x := ⟨fun _ _ => rfl, fun _ _ _ _ _ => rfl, fun _ _ => rfl⟩
theorem moF_refl (x : Obj) : moF x x := ⟨fun _ _ => rfl, fun _ _ _ => rfl, fun _ _ => rfl⟩
theorem taF_trans {a b c : Obj} (h1 : taF a b) (h2 : taF b c) : taF a c := ⟨fun j x => (h2.1 j x).trans (h1.1 j x), fun i x y z w => (h2.2.1 i x y z w).trans (h1.2.1 i x y z w), fun j x => (h2.2.2 j x).trans (h1.2.2 j x)⟩
theorem moF_trans {a b c : Obj} (h1 : moF a b) (h2 : moF b c) : moF a c := ⟨fun j x => (h2.1 j x).trans (h1.1 j x), fun i x y => (h2.2.1 i x y).trans (h1.2.1 i x y), fun j x => (h2.2.2 j x).trans (h1.2.2 j x)⟩
theorem taF_sI {x : Obj} {i : Nat} {v : Int32} (h : i = 4 ∨ i = 5 ∨ i = 9 ∨ i = 10) : taF x (sI x 0 i v) := ⟨fun j hj => va_up_ne _ _ hj, fun i' a b c d => by rw [sI_1, if_neg (by omega)], fun _ _ => rfl⟩
theorem moF_sI {x : Obj} {i : Nat} {v : Int32} (h : i = 4 ∨ (11 ≤ i ∧ i ≤ 14)) : moF x (sI x 0 i v) := ⟨fun j hj => va_up_ne _ _ hj, fun i' a b => by rw [sI_1, if_neg (by omega)], fun _ _ => rfl⟩
theorem taF_sL {x : Obj} {i : Nat} {v : Int64} : taF x (sL x 0 i v) := ⟨fun _ _ => rfl, fun _ _ _ _ _ => rfl, fun j hj => va_up_ne _ _ hj⟩
theorem moF_sL {x : Obj} {i : Nat} {v : Int64} : moF x (sL x 0 i v) := ⟨fun _ _ => rfl, fun _ _ _ => rfl, fun j hj => va_up_ne _ _ hj⟩
/-- the tape while it is read: b its bytes -/
def rdB (z lim : Nat) (b : Nat → Nat) (ta m : Obj) : Prop := z ≤ 940 ∧ lim ≤ 940 ∧ ta.1 0 1 = nI z ∧ m.1 0 3 = nI z ∧ ta.1 0 8 = nI lim ∧ m.1 0 5 = nI lim ∧ (∀ i, i < z → ta.1 2 i = i2b (nI (b i)) ∧ m.1 1 i = i2b (nI (b i)) ∧ b i < 256) ∧ pWds (ta.2 1) (m.2 6)
section
variable {z lim : Nat} {b : Nat → Nat} {ta m ta' m' : Obj}
theorem rdB_f (h : rdB z lim b ta m) (h1 : taF ta ta') (h2 : moF m m') : rdB z lim b ta' m' := by
  obtain ⟨a1, a2, a3, a4, a5, a6, a7, a8⟩ := h
  refine ⟨a1, a2, ?_, ?_, ?_, ?_, fun i hi => ?_, ?_⟩
  · rw [h1.2.1 1 (by omega) (by omega) (by omega) (by omega)]; exact a3
  · rw [h2.2.1 3 (by omega) (by omega)]; exact a4
  · rw [h1.2.1 8 (by omega) (by omega) (by omega) (by omega)]; exact a5
  · rw [h2.2.1 5 (by omega) (by omega)]; exact a6
  · rw [h1.1 2 (by omega), h2.1 1 (by omega)]; exact a7 i hi
  · rw [h1.2.2 1 (by omega), h2.2.2 6 (by omega)]; exact a8
theorem ta_byte (h : rdB z lim b ta m) {i : Nat} (hi : i < z) : fTa_byteOf ta (nI i) = some (nI (b i)) := by
  obtain ⟨a1, a2, a3, a4, a5, a6, a7, a8⟩ := h
  obtain ⟨k1, k2, k3⟩ := a7 i hi
  unfold fTa_byteOf
  simp only [lit]
  rw [a3, if_neg (nI_lt0 (by omega)), if_neg (by rw [nle (by omega) (by omega)]; omega), if_neg (by rw [nle (by omega) (by omega)]; omega), ix_nI (by omega) (by omega), Option.bind_some, k1, b_all _ k3]
theorem ta_byteE (h : rdB z lim b ta m) {i : Nat} (hi : z ≤ i) (hb : i < 2000) : fTa_byteOf ta (nI i) = some (-nI 1) := by
  obtain ⟨a1, a2, a3, a4, a5, a6, a7, a8⟩ := h
  unfold fTa_byteOf
  simp only [lit]
  rw [a3, if_neg (nI_lt0 (by omega)), if_pos (by rw [nle (by omega) (by omega)]; omega)]
theorem mo_peek (h : rdB z lim b ta m) {i : Nat} (h4 : m.1 0 4 = nI i) (hb : i < 2000) : fMo_peek m = some (if i < z then nI (b i) else -nI 1) := by
  obtain ⟨a1, a2, a3, a4, a5, a6, a7, a8⟩ := h
  unfold fMo_peek
  simp only [lit]
  rw [a4, h4]
  by_cases hi : i < z
  · obtain ⟨k1, k2, k3⟩ := a7 i hi
    rw [if_neg (by rw [nle (by omega) (by omega)]; omega), ix_nI (by omega) (by omega), Option.bind_some, k2, b_all _ k3, if_pos hi]
  · rw [if_pos (by rw [nle (by omega) (by omega)]; omega), if_neg hi]
/-- blanks are passed over -/
theorem skip_both (h : rdB z lim b ta m) {p : Nat} (hp : p ≤ z) (h9 : ta.1 0 9 = nI p) (h4 : m.1 0 4 = nI p) : ∃ s ta' m', iter fTa_take_L0 FU ta = some ta' ∧ iter fMo_next_L0 FU m = some m' ∧ taF ta ta' ∧ moF m m' ∧ p ≤ s ∧ s ≤ z ∧ (s < z → isBl (b s) = false) ∧ ta'.1 0 9 = nI s ∧ m'.1 0 4 = nI s := by
  have hz := h.1
  have u1 : ¬ nI 1 = nI 0 := by decide +kernel
  have key := iter2 (f := fTa_take_L0) (g := fMo_next_L0) (I := fun k x y => taF ta x ∧ moF m y ∧ p + k ≤ z ∧ x.1 0 9 = nI (p + k) ∧ y.1 0 4 = nI (p + k)) (E := fun x y => ∃ s, taF ta x ∧ moF m y ∧ p ≤ s ∧ s ≤ z ∧ (s < z → isBl (b s) = false) ∧ x.1 0 9 = nI s ∧ y.1 0 4 = nI s) (z - p) (by omega) (a := ta) (a' := m) ⟨taF_refl _, moF_refl _, by omega, h9, h4⟩ (fun k x y hk hz' => ?_) (fun x y hz' => ?_)
  · obtain ⟨x, y, g1, g2, s, g3⟩ := key
    exact ⟨s, x, y, g1, g2, g3⟩
  · obtain ⟨f1, f2, f3, f4, f5⟩ := hz'
    have hr := rdB_f h f1 f2
    have b3 := (hr.2.2.2.2.2.2.1 (p + k) (by omega)).2.2
    have hpk := mo_peek hr f5 (by omega)
    rw [if_pos (show p + k < z by omega)] at hpk
    have e1 : x.1 0 1 = nI z := hr.2.2.1
    have hbl : isBl (b (p + k)) = true ↔ b (p + k) = 32 ∨ b (p + k) = 10 := by unfold isBl; exact decide_eq_true_iff
    have lC : fTa_take_L0 x = if isBl (b (p + k)) then some (.inl (sI x 0 9 (nI (p + k + 1)))) else some (.inr x) := by
      unfold fTa_take_L0
      simp only [lit]
      rw [e1, f4, if_neg (by rw [nle (by omega) (by omega)]; omega), ta_byte hr (by omega), Option.bind_some, tb_bl _ b3, Option.bind_some, nadd]
      cases isBl (b (p + k))
      · rw [if_pos (show nI (bn false) = nI 0 from rfl), if_neg (by decide)]
      · rw [if_neg (show ¬ nI (bn true) = nI 0 by decide +kernel), if_pos rfl]; rfl
    have lM : fMo_next_L0 y = if isBl (b (p + k)) then some (.inl (sI y 0 4 (nI (p + k + 1)))) else some (.inr y) := by
      unfold fMo_next_L0
      simp only [lit]
      rw [hpk, Option.bind_some, Option.bind_some, f5, nadd]
      simp only [bnd]
      by_cases h32 : b (p + k) = 32
      · rw [if_pos (by rw [h32]), hbl.mpr (Or.inl h32), if_pos rfl]
      · rw [if_neg (by rw [neq (by omega) (by omega)]; exact h32)]
        by_cases h10 : b (p + k) = 10
        · rw [if_pos (by rw [h10]), hbl.mpr (Or.inr h10), if_pos rfl]
        · have : isBl (b (p + k)) = false := by
            cases hc : isBl (b (p + k))
            · rfl
            · exact absurd (hbl.mp hc) (by omega)
          rw [if_neg (by rw [neq (by omega) (by omega)]; exact h10), this]; rfl
    rw [lC, lM]
    cases hb : isBl (b (p + k))
    · right
      exact ⟨x, y, rfl, rfl, p + k, f1, f2, by omega, by omega, fun _ => hb, f4, f5⟩
    · left
      exact ⟨_, _, rfl, rfl, taF_trans f1 (taF_sI (by omega)), moF_trans f2 (moF_sI (by omega)), by omega, by rw [sI_1, if_pos ⟨rfl, rfl⟩]; rfl, by rw [sI_1, if_pos ⟨rfl, rfl⟩]; rfl⟩
  · obtain ⟨f1, f2, f3, f4, f5⟩ := hz'
    have hr := rdB_f h f1 f2
    have hpz : p + (z - p) = z := by omega
    rw [hpz] at f4 f5
    have hpk := mo_peek hr f5 (by omega)
    rw [if_neg (show ¬ z < z by omega)] at hpk
    have e1 : x.1 0 1 = nI z := hr.2.2.1
    refine ⟨x, y, ?_, ?_, z, f1, f2, hp, Nat.le_refl _, fun hh => absurd hh (by omega), f4, f5⟩
    · unfold fTa_take_L0
      rw [e1, f4, if_pos (by rw [nle (by omega) (by omega)]; omega)]
    · unfold fMo_next_L0
      simp only [lit]
      rw [hpk, Option.bind_some, if_neg tb_m1.2.2.1, Option.bind_some, if_neg tb_m1.2.2.2]
end
