/-- what reading a QUARTER leaves of the reference -/
def moQ (m m' : Obj) : Prop := (∀ j, j ≠ 0 → j ≠ 3 → m'.1 j = m.1 j) ∧ (∀ j, j ≠ 0 → j ≠ 5 → m'.2 j = m.2 j) ∧ (∀ i, i < 14 → m'.2 5 i = m.2 5 i) ∧ ∀ i, i ≠ 4 → i < 11 ∨ i = 19 ∨ 20 < i → m'.1 0 i = m.1 0 i
theorem moQ_refl (m : Obj) : moQ m m := ⟨fun _ _ _ => rfl, fun _ _ _ => rfl, fun _ _ => rfl, fun _ _ _ => rfl⟩
theorem moQ_trans {a b c : Obj} (h1 : moQ a b) (h2 : moQ b c) : moQ a c := ⟨fun j x y => (h2.1 j x y).trans (h1.1 j x y), fun j x y => (h2.2.1 j x y).trans (h1.2.1 j x y), fun i x => (h2.2.2.1 i x).trans (h1.2.2.1 i x), fun i x y => (h2.2.2.2 i x y).trans (h1.2.2.2 i x y)⟩
theorem moQ_B {m m' : Obj} (h : moB m m') : moQ m m' := ⟨fun j x _ => h.1 j x, fun j x _ => h.2.1 j x, fun i _ => by rw [h.2.1 5 (by omega)], fun i x y => h.2.2 i x (by omega) (by omega)⟩
theorem moQ_F {m m' : Obj} (h : moF m m') : moQ m m' := moQ_B (moB_F h)
theorem moQ_3 {m : Obj} {i : Nat} {v : Int32} : moQ m (sI m 3 i v) := ⟨fun j _ hj => va_up_ne _ _ hj, fun _ _ _ => rfl, fun _ _ => rfl, fun _ _ _ => rfl⟩
theorem moQ_0 {m : Obj} {i : Nat} {v : Int32} (h : i = 18 ∨ i = 20) : moQ m (sI m 0 i v) := ⟨fun j hj _ => va_up_ne _ _ hj, fun _ _ _ => rfl, fun _ _ => rfl, fun i' _ _ => by rw [sI_1, if_neg (by omega)]⟩
theorem moQ_5 {m : Obj} {i : Nat} {v : Int64} (h : 14 ≤ i) : moQ m (sL m 5 i v) := ⟨fun _ _ _ => rfl, fun j _ hj => va_up_ne _ _ hj, fun i' hi => by rw [sL_2, if_neg (by omega)], fun _ _ _ => rfl⟩
/-- the QUARTER that is being read, as both have it -/
def dR (n h L e t : Nat) (hp hm : Nat → Nat) (sr : Nat → Bool) (S : Nat → Nat → Nat) (fa fb fc : Bool) (q qr sc m : Obj) : Prop :=
  sQB n h L e t hp hm ∧ sQC n h L e t hp hm sr q ∧ sQM n h L e t hp hm sr (m.1 3) ∧ sQN n h q (fun i => m.2 5 (14 + i)) ∧
  (sSV n h L hp S ∧ S 0 0 = 0 ∧ S 0 1 = 0 ∧ S 0 2 = 0 ∧ sSC n S sc ∧ (∀ p, p < n → S 3 p = 0 ∧ S 6 p = 0 ∧ S 7 p = 0 ∧ S 9 p = 0 ∧ S 10 p = 0 ∧ m.1 3 (19 + p) = nI (S 4 p) ∧ m.1 3 (27 + p) = nI (S 5 p) ∧ m.1 3 (36 + p) = nI (S 8 p)) ∧ (∀ p, n ≤ p → p < 8 → m.1 3 (36 + p) = nI 0) ∧ m.1 3 44 = nI (S 0 3) ∧ ∀ k, k < S 0 3 → m.1 3 (45 + k) = nI (S 1 k) ∧ m.1 3 (57 + k) = nI (S 2 k)) ∧
  (qr.1 0 3 = nI (bn fa) ∧ qr.1 0 4 = nI (bn fb) ∧ qr.1 0 5 = nI (bn fc) ∧ m.1 0 20 = nI (bn (fa || decide (0 < h ∨ 0 < n)) + 2 * bn fb + 4 * bn fc))
def dRx (q qr sc m : Obj) : Prop := ∃ n h L e t hp hm sr S fa fb fc, dR n h L e t hp hm sr S fa fb fc q qr sc m
/-- a line is read -/
def lnOK (z lim : Nat) (b : Nat → Nat) (p : Nat) (ta m q' qr' ta' sc' m' : Obj) : Prop := dRx q' qr' sc' m' ∧ lag z lim b p ta' m' ∧ taB ta ta' ∧ moQ m m' ∧ ta'.1 0 2 = ta.1 0 2 ∧ m'.1 0 15 = m.1 0 15
/-- .. or refused -/
def lnNO (ta m ta' m' : Obj) : Prop := fai ta' m' ∧ taB ta ta' ∧ moQ m m'
section
variable {z lim : Nat} {b : Nat → Nat} {ta m ta' m' x y q qr sc : Obj} {k v pl p p0 : Nat} {l : List Nat} {n h L e t : Nat} {hp hm : Nat → Nat} {sr : Nat → Bool} {S : Nat → Nat → Nat} {fa fb fc : Bool}
theorem lag_le (h : lag z lim b p ta m) (hp : p0 ≤ p) : lag z lim b p0 ta m := by
  obtain ⟨ta1, k, v, l, pl, p', h1, h1', h2, h3, h4⟩ := h
  exact ⟨ta1, k, v, l, pl, p', h1, h1', h2, fun a b => by have := h3 a b; omega, by omega⟩
/-- the relation looks at rows 3 and 5 and at one field -/
theorem dR_m (hd : dR n h L e t hp hm sr S fa fb fc q qr sc m) (h3 : m'.1 3 = m.1 3) (h5 : m'.2 5 = m.2 5) (h20 : m'.1 0 20 = m.1 0 20) : dR n h L e t hp hm sr S fa fb fc q qr sc m' := by
  unfold dR at hd ⊢
  rw [h3, h5, h20]
  exact hd
theorem on_bits : ∀ a b c : Bool, fMo_bitOf (nI (bn a + 2 * bn b + 4 * bn c)) (nI 0) = some (nI (bn a)) ∧ fMo_bitOf (nI (bn a + 2 * bn b + 4 * bn c)) (nI 1) = some (nI (bn b)) ∧ fMo_bitOf (nI (bn a + 2 * bn b + 4 * bn c)) (nI 2) = some (nI (bn c)) ∧ nI (bn false + 2 * bn b + 4 * bn c) ||| shl (nI 1) (nI 0) = nI (bn true + 2 * bn b + 4 * bn c) ∧ nI (bn a + 2 * bn false + 4 * bn c) ||| shl (nI 1) (nI 1) = nI (bn a + 2 * bn true + 4 * bn c) ∧ nI (bn a + 2 * bn b + 4 * bn false) ||| shl (nI 1) (nI 2) = nI (bn a + 2 * bn b + 4 * bn true) ∧ nI (bn a + 2 * bn b + 4 * bn c) ||| nI 1 = nI (bn true + 2 * bn b + 4 * bn c) := by decide +kernel
theorem refuse_q (hs : syn z lim b k v l pl p ta m) (f : Nat) : ∃ ta' m', fQr_refuse ta (nI f) = some (nI 0, ta') ∧ fMo_bad m (nI f) = some (nI 0, m') ∧ lnNO ta m ta' m' := by
  obtain ⟨ta', m', g1, g2, g3, g4, g5⟩ := bad2 hs (nI f)
  refine ⟨ta', m', ?_, g2, g3, g4, moQ_B g5⟩
  unfold fQr_refuse
  rw [g1]; rfl
theorem puts_both {i lo hi : Nat} (hi' : i < 69) (hlo : lo < 2000) (hhi : hi < 2000) (h : lag z lim b p0 ta m) : (∃ v ta' m' p, fTa_takeNumber ta (nI lo) (nI hi) = some (nI v, ta') ∧ fMo_puts m (nI i) (nI lo) (nI hi) = some (nI 1, sI m' 3 i (nI v)) ∧ lo ≤ v ∧ v ≤ hi ∧ lag z lim b p ta' (sI m' 3 i (nI v)) ∧ p0 < p ∧ taB ta ta' ∧ moB m m' ∧ ta'.1 0 2 = ta.1 0 2 ∧ m'.1 0 15 = m.1 0 15) ∨ (∃ ta' m', fTa_takeNumber ta (nI lo) (nI hi) = some (-nI 1, ta') ∧ fMo_puts m (nI i) (nI lo) (nI hi) = some (nI 0, m') ∧ fai ta' m' ∧ taB ta ta' ∧ moB m m') := by
  rcases num_both hlo hhi h with ⟨v, ta', m', p, g1, g2, g3, g4, g5, g6, g7, g8, g9, g10, g11⟩ | ⟨ta', m', g1, g2, g3, g4, g5⟩
  · left
    refine ⟨v, ta', m', p, g1, ?_, g3, g4, g6, g7, g8, g9, g10, g11⟩
    unfold fMo_puts
    simp only [lit]
    rw [g2, Option.bind_some, if_neg (show ¬ nI 1 = nI 0 by decide +kernel), ix_nI (by omega) (by omega), Option.bind_some]
    simp only [bnd]
    rw [g5]
  · right
    refine ⟨ta', m', g1, ?_, g3, g4, g5⟩
    unfold fMo_puts
    simp only [lit]
    rw [g2, Option.bind_some, if_pos rfl]
end
