theorem nle {a b : Nat} (ha : a < 2147483648) (hb : b < 2147483648) : nI a ≤ nI b ↔ a ≤ b := nI_leI ha hb
theorem nlt {a b : Nat} (ha : a < 2147483648) (hb : b < 2147483648) : nI a < nI b ↔ a < b := nI_ltI ha hb
theorem neq {a b : Nat} (ha : a < 2147483648) (hb : b < 2147483648) : nI a = nI b ↔ a = b := nI_eq ha hb
theorem nadd (a b : Nat) : nI a + nI b = nI (a + b) := nI_add a b
theorem nsub {a b : Nat} (h : b ≤ a) : nI a - nI b = nI (a - b) := pk_sub h
theorem bz_1 : bz (nI 1) = nI 1 := by decide +kernel
theorem bz_0 : bz (nI 0) = nI 0 := by decide +kernel
/-- the quarter: its numbers, and how the class and the reference hold them -/
def sQB (n h L e t : Nat) (hp hm : Nat → Nat) : Prop := n ≤ 8 ∧ h ≤ 6 ∧ 2 ≤ L ∧ L ≤ 20 ∧ e ≤ 9 ∧ 1 ≤ t ∧ t ≤ 30 ∧ (∀ k, k < h → hp k < L) ∧ ∀ p, p < n → hm p ≤ h
def lvm (n : Nat) (hm : Nat → Nat) (k : Nat) : Nat := msk n (fun p => hm p == k + 1)
def sQC (n h L e t : Nat) (hp hm : Nat → Nat) (sr : Nat → Bool) (q : Obj) : Prop :=
  (q.1 0 0 = nI L ∧ q.1 0 1 = nI e ∧ q.1 0 2 = nI t ∧ q.1 0 3 = nI h ∧ q.1 0 4 = nI n) ∧ (∀ k, k < h → q.1 1 k = nI (hp k) ∧ q.1 2 k = nI (lvm n hm k)) ∧ ∀ p, p < n → q.1 4 p = nI (hm p) - nI 1 ∧ q.1 5 p = nI (if sr p then 1 else 0)
def sQM (n h L e t : Nat) (hp hm : Nat → Nat) (sr : Nat → Bool) (s : Nat → Int32) : Prop :=
  (s 0 = nI h ∧ s 1 = nI n ∧ s 2 = nI L ∧ s 3 = nI e ∧ s 4 = nI t) ∧ (∀ k, k < h → s (5 + k) = nI (hp k)) ∧ (∀ p, p < n → s (11 + p) = nI (hm p)) ∧ s 35 = nI (msk n sr)
section
variable {n h L e t : Nat} {hp hm : Nat → Nat} {sr : Nat → Bool} {q m : Obj}
theorem qu_hasP (hB : sQB n h L e t hp hm) (hC : sQC n h L e t hp hm sr q) {p : Nat} (hpn : p < n) : fQu_hasPerson q (nI p) = some (nI 1) := by
  obtain ⟨b1, b2, -⟩ := hB
  obtain ⟨⟨c0, c1, c2, c3, c4⟩, -⟩ := hC
  unfold fQu_hasPerson
  simp (disch := omega) only [c4, Option.bind_some, bnd, Sum.elim_inl, Sum.elim_inr, lit, nle, nlt, neq, nadd, nsub, nx_or, nx_and, shl_1, ix_nI]
  rw [if_neg (by omega), if_neg (by omega), if_neg (by omega)]
theorem qu_hasP0 (hB : sQB n h L e t hp hm) (hC : sQC n h L e t hp hm sr q) {v : Int32} (hv : ∀ p, p < n → ¬ v = nI p) : fQu_hasPerson q v = some (nI 0) := by
  obtain ⟨b1, b2, -⟩ := hB
  obtain ⟨⟨c0, c1, c2, c3, c4⟩, -⟩ := hC
  unfold fQu_hasPerson
  rcases nI_cases v with ⟨k, hk, rfl⟩ | ⟨hlt, -⟩
  · have hkn : n ≤ k := Nat.le_of_not_lt (fun z => hv k z rfl)
    simp (disch := omega) only [c4, Option.bind_some, bnd, Sum.elim_inl, Sum.elim_inr, lit, nle, nlt, neq, nadd, nsub, nx_or, nx_and, shl_1, ix_nI]
    rw [if_neg (by omega), if_pos hkn]
  · simp only [lit]
    rw [if_pos hlt]
theorem qu_hasH (hB : sQB n h L e t hp hm) (hC : sQC n h L e t hp hm sr q) {p : Nat} (hpn : p < h) : fQu_hasHouse q (nI p) = some (nI 1) := by
  obtain ⟨b1, b2, -⟩ := hB
  obtain ⟨⟨c0, c1, c2, c3, c4⟩, -⟩ := hC
  unfold fQu_hasHouse
  simp (disch := omega) only [c3, Option.bind_some, bnd, Sum.elim_inl, Sum.elim_inr, lit, nle, nlt, neq, nadd, nsub, nx_or, nx_and, shl_1, ix_nI]
  rw [if_neg (by omega), if_neg (by omega), if_neg (by omega)]
theorem qu_hasH0 (hB : sQB n h L e t hp hm) (hC : sQC n h L e t hp hm sr q) {v : Int32} (hv : ∀ p, p < h → ¬ v = nI p) : fQu_hasHouse q v = some (nI 0) := by
  obtain ⟨b1, b2, -⟩ := hB
  obtain ⟨⟨c0, c1, c2, c3, c4⟩, -⟩ := hC
  unfold fQu_hasHouse
  rcases nI_cases v with ⟨k, hk, rfl⟩ | ⟨hlt, -⟩
  · have hkn : h ≤ k := Nat.le_of_not_lt (fun z => hv k z rfl)
    simp (disch := omega) only [c3, Option.bind_some, bnd, Sum.elim_inl, Sum.elim_inr, lit, nle, nlt, neq, nadd, nsub, nx_or, nx_and, shl_1, ix_nI]
    rw [if_neg (by omega), if_pos hkn]
  · simp only [lit]
    rw [if_pos hlt]
theorem mo_isIn {v : Int32} {a b : Nat} : True := trivial
theorem mo_isP (hB : sQB n h L e t hp hm) (hM : sQM n h L e t hp hm sr (m.1 2)) {p : Nat} (hpn : p < n) : fMo_isPerson m (nI p) = some (nI 1) := by
  obtain ⟨b1, b2, -⟩ := hB
  obtain ⟨⟨c0, c1, c2, c3, c4⟩, -⟩ := hM
  unfold fMo_isPerson fMo_isIn
  simp (disch := omega) only [c1, Option.bind_some, bnd, Sum.elim_inl, Sum.elim_inr, lit, nle, nlt, neq, nadd, nsub, nx_or, nx_and, shl_1, ix_nI]
  rw [if_neg (by omega), if_neg (by omega)]
  simp only [Option.bind_some, bz_1]
theorem m1_lt {v : Int32} {k : Nat} (hk : k < 2147483648) (h : ¬ v < nI 0) (h2 : ∀ p, p < k → ¬ v = nI p) : nI k - nI 1 < v := by
  obtain ⟨j, hj, rfl⟩ := nI_of h
  have hkj : k ≤ j := Nat.le_of_not_lt (fun z => h2 j z rfl)
  cases k with
  | zero =>
    rw [Int32.lt_iff_toInt_lt, nI_toInt hj]
    have : (nI 0 - nI 1).toInt = -1 := by decide +kernel
    omega
  | succ k =>
    rw [nsub (by omega), nlt (by omega) hj]
    omega
theorem mo_isP0 (hB : sQB n h L e t hp hm) (hM : sQM n h L e t hp hm sr (m.1 2)) {v : Int32} (hv : ∀ p, p < n → ¬ v = nI p) : fMo_isPerson m v = some (nI 0) := by
  obtain ⟨b1, b2, -⟩ := hB
  obtain ⟨⟨c0, c1, c2, c3, c4⟩, -⟩ := hM
  unfold fMo_isPerson fMo_isIn
  simp only [c1, lit]
  by_cases h0 : v < nI 0
  · rw [if_pos h0]; simp only [Option.bind_some, bz_0]
  · rw [if_neg h0, if_pos (m1_lt (by omega) h0 hv)]; simp only [Option.bind_some, bz_0]
theorem mo_isH (hB : sQB n h L e t hp hm) (hM : sQM n h L e t hp hm sr (m.1 2)) {p : Nat} (hpn : p < h) : fMo_isHouse m (nI p) = some (nI 1) := by
  obtain ⟨b1, b2, -⟩ := hB
  obtain ⟨⟨c0, c1, c2, c3, c4⟩, -⟩ := hM
  unfold fMo_isHouse fMo_isIn
  simp (disch := omega) only [c0, Option.bind_some, bnd, Sum.elim_inl, Sum.elim_inr, lit, nle, nlt, neq, nadd, nsub, nx_or, nx_and, shl_1, ix_nI]
  rw [if_neg (by omega), if_neg (by omega)]
  simp only [Option.bind_some, bz_1]
theorem mo_isH0 (hB : sQB n h L e t hp hm) (hM : sQM n h L e t hp hm sr (m.1 2)) {v : Int32} (hv : ∀ p, p < h → ¬ v = nI p) : fMo_isHouse m v = some (nI 0) := by
  obtain ⟨b1, b2, -⟩ := hB
  obtain ⟨⟨c0, c1, c2, c3, c4⟩, -⟩ := hM
  unfold fMo_isHouse fMo_isIn
  simp only [c0, lit]
  by_cases h0 : v < nI 0
  · rw [if_pos h0]; simp only [Option.bind_some, bz_0]
  · rw [if_neg h0, if_pos (m1_lt (by omega) h0 hv)]; simp only [Option.bind_some, bz_0]
theorem isP_or (v : Int32) (n : Nat) : (∃ p, p < n ∧ v = nI p) ∨ ∀ p, p < n → ¬ v = nI p := by
  by_cases h : ∃ p, p < n ∧ v = nI p
  · exact Or.inl h
  · exact Or.inr (fun p hp e => h ⟨p, hp, e⟩)
theorem mo_dwellers (hB : sQB n h L e t hp hm) (hM : sQM n h L e t hp hm sr (m.1 2)) {k : Nat} (hk : k < 1000) : fMo_dwellers m (nI k) = some (nI (lvm n hm k)) := by
  obtain ⟨b1, b2, b3, b4, b5, b6, b7, b8, b9⟩ := hB
  obtain ⟨⟨c0, c1, c2, c3, c4⟩, c5, c6, c7⟩ := hM
  unfold fMo_dwellers
  have key := msk_loop (f := fMo_dwellers_L4 m (nI k)) n (by omega) (fun p => hm p == k + 1) (fun p hpn => ?_) ?_
  · simp only [lit]
    rw [key]
    rfl
  · unfold fMo_dwellers_L4
    have h1 := c6 p hpn
    have h2 := b9 p hpn
    simp (disch := omega) only [c1, h1, Option.bind_some, bnd, Sum.elim_inl, Sum.elim_inr, lit, nle, nlt, neq, nadd, nsub, nx_or, nx_and, shl_1, ix_nI]
    rw [if_neg (by omega)]
    by_cases hc : hm p = k + 1
    · rw [if_pos hc]
      simp [hc]
    · rw [if_neg hc]
      simp [hc]
  · unfold fMo_dwellers_L4
    simp (disch := omega) only [c1, Option.bind_some, bnd, Sum.elim_inl, Sum.elim_inr, lit, nle, nlt, neq, nadd, nsub, nx_or, nx_and, shl_1, ix_nI]
    rw [if_pos (Nat.le_refl _)]
end
