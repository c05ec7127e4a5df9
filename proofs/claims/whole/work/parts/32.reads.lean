def u2 (S : Nat → Nat → Nat) (j p v : Nat) : Nat → Nat → Nat := va_up S j (va_up (S j) p v)
theorem u2_at (S : Nat → Nat → Nat) (j p v j' p' : Nat) : u2 S j p v j' p' = if j' = j ∧ p' = p then v else S j' p' := by
  show va_up S j (va_up (S j) p v) j' p' = _
  by_cases h : j' = j
  · subst h
    rw [va_up_self]
    by_cases h2 : p' = p
    · subst h2; rw [va_up_self, if_pos ⟨rfl, rfl⟩]
    · rw [va_up_ne _ _ h2, if_neg (fun z => h2 z.2)]
  · rw [va_up_ne _ _ h, if_neg (fun z => h z.1)]
def sm : Nat → (Nat → Nat) → Nat
  | 0, _ => 0
  | n + 1, f => sm n f + f n
theorem sm_congr {f g : Nat → Nat} : ∀ {n : Nat}, (∀ p, p < n → f p = g p) → sm n f = sm n g
  | 0, _ => rfl
  | n + 1, h => by
    show sm n f + f n = sm n g + g n
    rw [sm_congr (fun p hp => h p (by omega)), h n (by omega)]
/-- a scene: S j p as the class's components; a door is one more than its number, 0 for none -/
def sSC (n : Nat) (S : Nat → Nat → Nat) (sc : Obj) : Prop :=
  (sc.1 0 1 = nI (S 0 1) ∧ sc.1 0 2 = nI (S 0 2) ∧ sc.1 0 3 = nI (S 0 3)) ∧ (∀ k, k < S 0 3 → sc.1 1 k = nI (S 1 k) ∧ sc.1 2 k = nI (S 2 k)) ∧
  ∀ p, p < n → sc.1 3 p = nI (S 3 p) ∧ sc.1 4 p = nI (S 4 p) ∧ sc.1 5 p = nI (S 5 p) ∧ sc.1 6 p = nI (S 6 p) - nI 1 ∧ sc.1 7 p = nI (S 7 p) ∧ sc.1 8 p = nI (S 8 p) ∧ sc.1 9 p = nI (S 9 p) ∧ sc.1 10 p = nI (S 10 p)
/-- .. and as the reference keeps it, 92 numbers -/
def sSM (n : Nat) (S : Nat → Nat → Nat) (d : Nat → Int32) : Prop :=
  (d 0 = nI (S 0 1) ∧ d 1 = nI (sm n (S 10)) ∧ d 2 = nI (S 0 2) ∧ d 3 = nI (S 0 3)) ∧ (∀ k, k < S 0 3 → d (68 + k) = nI (S 1 k) ∧ d (80 + k) = nI (S 2 k)) ∧
  ∀ p, p < n → d (4 + p) = nI (S 3 p) ∧ d (12 + p) = nI (S 4 p) ∧ d (20 + p) = nI (S 5 p) ∧ d (28 + p) = nI (S 6 p) ∧ d (36 + p) = nI (S 7 p) ∧ d (44 + p) = nI (S 8 p) ∧ d (52 + p) = nI (S 9 p) ∧ d (60 + p) = nI (S 10 p)
/-- the reference's own cells -/
abbrev dOf (m : Obj) : Nat → Int32 := fun j => m.1 2 (69 + j)
theorem sSM_live {n : Nat} {S : Nat → Nat → Nat} {m : Obj} (h : sSM n S (dOf m)) : (m.1 2 69 = nI (S 0 1) ∧ m.1 2 70 = nI (sm n (S 10)) ∧ m.1 2 71 = nI (S 0 2) ∧ m.1 2 72 = nI (S 0 3)) ∧ (∀ k, k < S 0 3 → m.1 2 (137 + k) = nI (S 1 k) ∧ m.1 2 (149 + k) = nI (S 2 k)) ∧
  ∀ p, p < n → m.1 2 (73 + p) = nI (S 3 p) ∧ m.1 2 (81 + p) = nI (S 4 p) ∧ m.1 2 (89 + p) = nI (S 5 p) ∧ m.1 2 (97 + p) = nI (S 6 p) ∧ m.1 2 (105 + p) = nI (S 7 p) ∧ m.1 2 (113 + p) = nI (S 8 p) ∧ m.1 2 (121 + p) = nI (S 9 p) ∧ m.1 2 (129 + p) = nI (S 10 p) := by
  have g : ∀ a b k : Nat, 69 + a = b → 69 + (a + k) = b + k := fun a b k h => by omega
  refine ⟨h.1, fun k hk => ?_, fun p hp => ?_⟩
  · have h1 := h.2.1 k hk
    simp only [dOf, g 68 137 k rfl, g 80 149 k rfl] at h1
    exact h1
  · have h1 := h.2.2 p hp
    simp only [dOf, g 4 73 p rfl, g 12 81 p rfl, g 20 89 p rfl, g 28 97 p rfl, g 36 105 p rfl, g 44 113 p rfl, g 52 121 p rfl, g 60 129 p rfl] at h1
    exact h1
/-- what holds of a scene always -/
def sRow (n h L : Nat) (hp : Nat → Nat) (S : Nat → Nat → Nat) (p : Nat) : Prop :=
  (S 3 p ≤ 2 ∧ S 4 p < L ∧ S 5 p ≤ 2 ∧ S 6 p ≤ h ∧ S 7 p ≤ 30 ∧ S 8 p < 256 ∧ S 9 p ≤ S 0 0 ∧ S 10 p ≤ S 0 0) ∧ ((S 3 p = 0 ↔ S 6 p = 0) ∧ (S 6 p ≠ 0 → hp (S 6 p - 1) = S 4 p) ∧ (S 3 p = 2 ↔ S 7 p ≠ 0)) ∧
  ((∀ r, n ≤ r → (S 8 p).testBit r = false) ∧ (S 8 p).testBit p = false)
def sSV (n h L : Nat) (hp : Nat → Nat) (S : Nat → Nat → Nat) : Prop :=
  ((S 0 1 ≤ 100000 ∧ S 0 0 ≤ 1000000) ∧ S 0 3 ≤ 12) ∧ (∀ k, k < S 0 3 → S 1 k < n ∧ S 2 k < h) ∧ (∀ p, p < n → sRow n h L hp S p) ∧ ∀ p r, p < n → r < n → (S 8 p).testBit r = (S 8 r).testBit p
def strg (n : Nat) (hm : Nat → Nat) (S : Nat → Nat → Nat) (p k : Nat) : Bool := ((S 8 p ||| 2 ^ p) &&& lvm n hm k) == 0
def strgs (n : Nat) (hm : Nat → Nat) (S : Nat → Nat → Nat) (k : Nat) : Nat := msk n (fun p => strg n hm S p k)
theorem lvm_lt {n k : Nat} {hm : Nat → Nat} (hn : n ≤ 8) : lvm n hm k < 256 := Nat.lt_of_lt_of_le (msk_lt _ n) (Nat.le_trans (Nat.pow_le_pow_right (by decide) hn) (by decide))
theorem msk_256 {n : Nat} (P : Nat → Bool) (hn : n ≤ 8) : msk n P < 256 := Nat.lt_of_lt_of_le (msk_lt _ n) (Nat.le_trans (Nat.pow_le_pow_right (by decide) hn) (by decide))
theorem p2_lt {p : Nat} (h : p < 8) : 2 ^ p < 256 := Nat.lt_of_lt_of_le (Nat.pow_lt_pow_right (by decide) h) (by decide)
theorem or_256 {a b : Nat} (ha : a < 256) (hb : b < 256) : a ||| b < 256 := Nat.or_lt_two_pow (n := 8) ha hb
theorem and_256 {a b : Nat} (ha : a < 256) : a &&& b < 256 := Nat.lt_of_le_of_lt Nat.and_le_left ha
section
variable {n h L e t : Nat} {hp hm : Nat → Nat} {sr : Nat → Bool} {q m sc : Obj} {S : Nat → Nat → Nat}
theorem qu_living (hB : sQB n h L e t hp hm) (hC : sQC n h L e t hp hm sr q) {k : Nat} (hk : k < h) : fQu_livingIn q (nI k) = some (nI (lvm n hm k)) := by
  obtain ⟨b1, b2, -⟩ := hB
  obtain ⟨⟨c0, c1, c2, c3, c4⟩, c5, -⟩ := hC
  have c6 := (c5 k hk).2
  unfold fQu_livingIn
  simp (disch := omega) only [c3, c6, Option.bind_some, bnd, Sum.elim_inl, Sum.elim_inr, lit, nle, nlt, neq, nadd, nsub, nx_or, nx_and, shl_1, ix_nI]
  rw [if_neg (by omega), if_neg (by omega), if_neg (by omega)]
theorem qu_place (hB : sQB n h L e t hp hm) (hC : sQC n h L e t hp hm sr q) {k : Nat} (hk : k < h) : fQu_placeOf q (nI k) = some (nI (hp k)) := by
  have hH := qu_hasH hB hC hk
  obtain ⟨b1, b2, -⟩ := hB
  have c6 := (hC.2.1 k hk).1
  unfold fQu_placeOf
  simp (disch := omega) only [hH, c6, Option.bind_some, bnd, Sum.elim_inl, Sum.elim_inr, lit, nle, nlt, neq, nadd, nsub, nx_or, nx_and, shl_1, ix_nI]
  rw [if_neg (by omega)]
theorem qu_home (hB : sQB n h L e t hp hm) (hC : sQC n h L e t hp hm sr q) {p : Nat} (hpn : p < n) : fQu_homeOf q (nI p) = some (nI (hm p) - nI 1) := by
  have hH := qu_hasP hB hC hpn
  obtain ⟨b1, b2, -⟩ := hB
  have c6 := (hC.2.2 p hpn).1
  unfold fQu_homeOf
  simp (disch := omega) only [hH, c6, Option.bind_some, bnd, Sum.elim_inl, Sum.elim_inr, lit, nle, nlt, neq, nadd, nsub, nx_or, nx_and, shl_1, ix_nI]
  rw [if_neg (by omega)]
theorem qu_stern (hB : sQB n h L e t hp hm) (hC : sQC n h L e t hp hm sr q) {p : Nat} (hpn : p < n) : fQu_isStern q (nI p) = some (nI (if sr p then 1 else 0)) := by
  have hH := qu_hasP hB hC hpn
  obtain ⟨b1, b2, -⟩ := hB
  have c6 := (hC.2.2 p hpn).2
  unfold fQu_isStern
  simp (disch := omega) only [hH, c6, Option.bind_some, bnd, Sum.elim_inl, Sum.elim_inr, lit, nle, nlt, neq, nadd, nsub, nx_or, nx_and, shl_1, ix_nI]
  rw [if_neg (by omega)]
  cases hs : sr p
  · simp only [Bool.false_eq_true, if_false]
    rw [if_neg (by decide)]
  · simp only [if_true]
theorem home_eq {a k : Nat} (ha : a < 1000) (hk : k < 1000) : (nI a - nI 1 = nI k) ↔ a = k + 1 := by
  constructor
  · intro e
    have : nI a = nI (k + 1) := by
      rw [← nadd, ← e, Int32.sub_add_cancel]
    exact (neq (by omega) (by omega)).mp this
  · rintro rfl
    rw [nsub (by omega)]
    rfl
theorem sc_strangers (hB : sQB n h L e t hp hm) (hC : sQC n h L e t hp hm sr q) (hV : sSV n h L hp S) (hS : sSC n S sc) {k : Nat} (hk : k < h) : fSc_strangersOf q sc (nI k) = some (nI (strgs n hm S k)) := by
  have hL := qu_living hB hC hk
  obtain ⟨b1, b2, -⟩ := hB
  obtain ⟨⟨c0, c1, c2, c3, c4⟩, -, -⟩ := hC
  unfold fSc_strangersOf
  have key := msk_loop (f := fSc_strangersOf_L14 q sc (nI (lvm n hm k))) n (by omega) (fun p => strg n hm S p k) (fun p hpn => ?_) ?_
  · simp only [hL, lit, key, Option.bind_some]
    rfl
  · unfold fSc_strangersOf_L14
    obtain ⟨r3, r4, r5, r6, r7, r8, r9, r10⟩ := hS.2.2 p hpn
    have v8 := (hV.2.2.1 p hpn).1.2.2.2.2.2.1
    have x1 := or_256 v8 (p2_lt (p := p) (by omega))
    have x2 := and_256 (b := lvm n hm k) x1
    simp (disch := omega) only [c4, r8, Option.bind_some, bnd, Sum.elim_inl, Sum.elim_inr, lit, nle, nlt, neq, nadd, nsub, nx_or, nx_and, shl_1, ix_nI]
    rw [if_neg (by omega), if_neg (by omega)]
    by_cases hc : (S 8 p ||| 2 ^ p) &&& lvm n hm k = 0
    · rw [if_pos hc]
      simp [strg, hc]
    · rw [if_neg hc]
      simp [strg, hc]
  · unfold fSc_strangersOf_L14
    simp (disch := omega) only [c4, Option.bind_some, bnd, Sum.elim_inl, Sum.elim_inr, lit, nle, nlt, neq, nadd, nsub, nx_or, nx_and, shl_1, ix_nI]
    split
    · rfl
    · rw [if_pos (Nat.le_refl _)]
theorem mo_stranger (hB : sQB n h L e t hp hm) (hM : sQM n h L e t hp hm sr (m.1 2)) (hV : sSV n h L hp S) (hS : sSM n S (dOf m)) {p k : Nat} (hpn : p < n) (hk : k < h) : fMo_isStranger m (nI p) (nI k) = some (nI (if strg n hm S p k then 1 else 0)) := by
  have hL := mo_dwellers (k := k) hB hM (by have := hB.2.1; omega)
  obtain ⟨b1, b2, -⟩ := hB
  obtain ⟨r3, r4, r5, r6, r7, r8, r9, r10⟩ := (sSM_live hS).2.2 p hpn
  have v8 := (hV.2.2.1 p hpn).1.2.2.2.2.2.1
  have x1 := or_256 v8 (p2_lt (p := p) (by omega))
  have x2 := and_256 (b := lvm n hm k) x1
  unfold fMo_isStranger
  simp (disch := omega) only [hL, r8, Option.bind_some, bnd, Sum.elim_inl, Sum.elim_inr, lit, nle, nlt, neq, nadd, nsub, nx_or, nx_and, shl_1, ix_nI]
  by_cases hc : (S 8 p ||| 2 ^ p) &&& lvm n hm k = 0
  · rw [if_pos hc]
    simp [strg, hc]
  · rw [if_neg hc]
    simp [strg, hc]
theorem mo_strangers (hB : sQB n h L e t hp hm) (hM : sQM n h L e t hp hm sr (m.1 2)) (hV : sSV n h L hp S) (hS : sSM n S (dOf m)) {k : Nat} (hk : k < h) : fMo_strangers m (nI k) = some (nI (strgs n hm S k)) := by
  have hst : ∀ p, p < n → fMo_isStranger m (nI p) (nI k) = some (nI (if strg n hm S p k then 1 else 0)) := fun p hpn => mo_stranger hB hM hV hS hpn hk
  obtain ⟨b1, b2, -⟩ := hB
  obtain ⟨⟨c0, c1, c2, c3, c4⟩, -⟩ := hM
  unfold fMo_strangers
  have key := msk_loop (f := fMo_strangers_L4 m (nI k)) n (by omega) (fun p => strg n hm S p k) (fun p hpn => ?_) ?_
  · simp only [lit, key, Option.bind_some]
    rfl
  · unfold fMo_strangers_L4
    have h1 := hst p hpn
    cases hc : strg n hm S p k
    · rw [hc] at h1
      simp only [Bool.false_eq_true, if_false] at h1
      simp (disch := omega) only [c1, h1, Option.bind_some, bnd, Sum.elim_inl, Sum.elim_inr, lit, nle, nlt, neq, nadd, nsub, nx_or, nx_and, shl_1, ix_nI]
      rw [if_neg (by omega), if_pos True.intro]
      rfl
    · rw [hc] at h1
      simp only [if_true] at h1
      simp (disch := omega) only [c1, h1, Option.bind_some, bnd, Sum.elim_inl, Sum.elim_inr, lit, nle, nlt, neq, nadd, nsub, nx_or, nx_and, shl_1, ix_nI]
      rw [if_neg (by omega), if_neg (by omega)]
      rfl
  · unfold fMo_strangers_L4
    simp (disch := omega) only [c1, Option.bind_some, bnd, Sum.elim_inl, Sum.elim_inr, lit, nle, nlt, neq, nadd, nsub, nx_or, nx_and, shl_1, ix_nI]
    rw [if_pos (Nat.le_refl _)]
theorem sc_open (hB : sQB n h L e t hp hm) (hC : sQC n h L e t hp hm sr q) (hV : sSV n h L hp S) (hS : sSC n S sc) : fSc_housesWithStrangers q sc = some (nI (msk h (fun k => strgs n hm S k != 0))) := by
  have hst : ∀ k, k < h → fSc_strangersOf q sc (nI k) = some (nI (strgs n hm S k)) := fun k hk => sc_strangers hB hC hV hS hk
  obtain ⟨b1, b2, -⟩ := hB
  obtain ⟨⟨c0, c1, c2, c3, c4⟩, -⟩ := hC
  unfold fSc_housesWithStrangers
  have key := msk_loop (f := fSc_housesWithStrangers_L4 q sc) h (by omega) (fun k => strgs n hm S k != 0) (fun k hk => ?_) ?_
  · simp only [lit, key, Option.bind_some]
  · unfold fSc_housesWithStrangers_L4
    have h1 := hst k hk
    have h2 := msk_256 (fun p => strg n hm S p k) b1
    have h3 : strgs n hm S k < 256 := h2
    simp (disch := omega) only [c3, h1, Option.bind_some, bnd, Sum.elim_inl, Sum.elim_inr, lit, nle, nlt, neq, nadd, nsub, nx_or, nx_and, shl_1, ix_nI]
    rw [if_neg (by omega)]
    by_cases hc : strgs n hm S k = 0
    · rw [if_pos hc]; simp [hc]
    · rw [if_neg hc]; simp [hc]
  · unfold fSc_housesWithStrangers_L4
    simp (disch := omega) only [c3, Option.bind_some, bnd, Sum.elim_inl, Sum.elim_inr, lit, nle, nlt, neq, nadd, nsub, nx_or, nx_and, shl_1, ix_nI]
    rw [if_pos (Nat.le_refl _)]
theorem mo_open (hB : sQB n h L e t hp hm) (hM : sQM n h L e t hp hm sr (m.1 2)) (hV : sSV n h L hp S) (hS : sSM n S (dOf m)) : fMo_openHouses m = some (nI (msk h (fun k => strgs n hm S k != 0))) := by
  have hst : ∀ k, k < h → fMo_strangers m (nI k) = some (nI (strgs n hm S k)) := fun k hk => mo_strangers hB hM hV hS hk
  obtain ⟨b1, b2, -⟩ := hB
  obtain ⟨⟨c0, c1, c2, c3, c4⟩, -⟩ := hM
  unfold fMo_openHouses
  have key := msk_loop (f := fMo_openHouses_L4 m) h (by omega) (fun k => strgs n hm S k != 0) (fun k hk => ?_) ?_
  · simp only [lit, key, Option.bind_some]
  · unfold fMo_openHouses_L4
    have h1 := hst k hk
    have h2 := msk_256 (fun p => strg n hm S p k) b1
    have h3 : strgs n hm S k < 256 := h2
    simp (disch := omega) only [c0, h1, Option.bind_some, bnd, Sum.elim_inl, Sum.elim_inr, lit, nle, nlt, neq, nadd, nsub, nx_or, nx_and, shl_1, ix_nI]
    rw [if_neg (by omega)]
    by_cases hc : strgs n hm S k = 0
    · rw [if_pos hc]; simp [hc]
    · rw [if_neg hc]; simp [hc]
  · unfold fMo_openHouses_L4
    simp (disch := omega) only [c0, Option.bind_some, bnd, Sum.elim_inl, Sum.elim_inr, lit, nle, nlt, neq, nadd, nsub, nx_or, nx_and, shl_1, ix_nI]
    rw [if_pos (Nat.le_refl _)]
theorem sc_are (hB : sQB n h L e t hp hm) (hC : sQC n h L e t hp hm sr q) (hV : sSV n h L hp S) (hS : sSC n S sc) {v : Nat} (hv : v < 1000) : fSc_thoseWhoAre q sc (nI v) = some (nI (msk n (fun p => S 3 p == v))) := by
  obtain ⟨b1, b2, -⟩ := hB
  obtain ⟨⟨c0, c1, c2, c3, c4⟩, -⟩ := hC
  unfold fSc_thoseWhoAre
  have key := msk_loop (f := fSc_thoseWhoAre_L4 q sc (nI v)) n (by omega) (fun p => S 3 p == v) (fun p hpn => ?_) ?_
  · simp only [lit, key, Option.bind_some]
  · unfold fSc_thoseWhoAre_L4
    obtain ⟨r3, r4, r5, r6, r7, r8, r9, r10⟩ := hS.2.2 p hpn
    have v3 := (hV.2.2.1 p hpn).1.1
    simp (disch := omega) only [c4, r3, Option.bind_some, bnd, Sum.elim_inl, Sum.elim_inr, lit, nle, nlt, neq, nadd, nsub, nx_or, nx_and, shl_1, ix_nI]
    rw [if_neg (by omega), if_neg (by omega)]
    by_cases hc : S 3 p = v
    · rw [if_pos hc]; simp [hc]
    · rw [if_neg hc]; simp [hc]
  · unfold fSc_thoseWhoAre_L4
    simp (disch := omega) only [c4, Option.bind_some, bnd, Sum.elim_inl, Sum.elim_inr, lit, nle, nlt, neq, nadd, nsub, nx_or, nx_and, shl_1, ix_nI]
    split
    · rfl
    · rw [if_pos (Nat.le_refl _)]
theorem mo_are (hB : sQB n h L e t hp hm) (hM : sQM n h L e t hp hm sr (m.1 2)) (hV : sSV n h L hp S) (hS : sSM n S (dOf m)) {v : Nat} (hv : v < 1000) : fMo_are m (nI v) = some (nI (msk n (fun p => S 3 p == v))) := by
  obtain ⟨b1, b2, -⟩ := hB
  obtain ⟨⟨c0, c1, c2, c3, c4⟩, -⟩ := hM
  unfold fMo_are
  have key := msk_loop (f := fMo_are_L4 m (nI v)) n (by omega) (fun p => S 3 p == v) (fun p hpn => ?_) ?_
  · simp only [lit, key, Option.bind_some]
  · unfold fMo_are_L4
    obtain ⟨r3, r4, r5, r6, r7, r8, r9, r10⟩ := (sSM_live hS).2.2 p hpn
    have v3 := (hV.2.2.1 p hpn).1.1
    simp (disch := omega) only [c1, r3, Option.bind_some, bnd, Sum.elim_inl, Sum.elim_inr, lit, nle, nlt, neq, nadd, nsub, nx_or, nx_and, shl_1, ix_nI]
    rw [if_neg (by omega)]
    by_cases hc : S 3 p = v
    · rw [if_pos hc]; simp [hc]
    · rw [if_neg hc]; simp [hc]
  · unfold fMo_are_L4
    simp (disch := omega) only [c1, Option.bind_some, bnd, Sum.elim_inl, Sum.elim_inr, lit, nle, nlt, neq, nadd, nsub, nx_or, nx_and, shl_1, ix_nI]
    rw [if_pos (Nat.le_refl _)]
theorem sc_at (hB : sQB n h L e t hp hm) (hC : sQC n h L e t hp hm sr q) (hV : sSV n h L hp S) (hS : sSC n S sc) {k v : Nat} (hk : k < h) (hv : v < 1000) : fSc_thoseAt q sc (nI k) (nI v) = some (nI (msk n (fun p => S 3 p == v && S 6 p == k + 1))) := by
  obtain ⟨b1, b2, -⟩ := hB
  obtain ⟨⟨c0, c1, c2, c3, c4⟩, -⟩ := hC
  unfold fSc_thoseAt
  have key := msk_loop (f := fSc_thoseAt_L5 q sc (nI k) (nI v)) n (by omega) (fun p => S 3 p == v && S 6 p == k + 1) (fun p hpn => ?_) ?_
  · simp only [lit, key, Option.bind_some]
  · unfold fSc_thoseAt_L5
    obtain ⟨r3, r4, r5, r6, r7, r8, r9, r10⟩ := hS.2.2 p hpn
    obtain ⟨v3, v4, v5, v6, -⟩ := (hV.2.2.1 p hpn).1
    simp (disch := omega) only [c4, r3, r6, home_eq, Option.bind_some, bnd, Sum.elim_inl, Sum.elim_inr, lit, nle, nlt, neq, nadd, nsub, nx_or, nx_and, shl_1, ix_nI]
    rw [if_neg (by omega), if_neg (by omega)]
    by_cases hc : S 3 p = v
    · rw [if_pos hc]
      by_cases hc2 : S 6 p = k + 1
      · rw [if_pos hc2]; simp [hc, hc2]
      · rw [if_neg hc2]; simp [hc, hc2]
    · rw [if_neg hc]; simp [hc]
  · unfold fSc_thoseAt_L5
    simp (disch := omega) only [c4, Option.bind_some, bnd, Sum.elim_inl, Sum.elim_inr, lit, nle, nlt, neq, nadd, nsub, nx_or, nx_and, shl_1, ix_nI]
    split
    · rfl
    · rw [if_pos (Nat.le_refl _)]
theorem mo_at (hB : sQB n h L e t hp hm) (hM : sQM n h L e t hp hm sr (m.1 2)) (hV : sSV n h L hp S) (hS : sSM n S (dOf m)) {k v : Nat} (hk : k < h) (hv : v < 1000) : fMo_areAt m (nI k) (nI v) = some (nI (msk n (fun p => S 3 p == v && S 6 p == k + 1))) := by
  obtain ⟨b1, b2, -⟩ := hB
  obtain ⟨⟨c0, c1, c2, c3, c4⟩, -⟩ := hM
  unfold fMo_areAt
  have key := msk_loop (f := fMo_areAt_L5 m (nI k) (nI v)) n (by omega) (fun p => S 3 p == v && S 6 p == k + 1) (fun p hpn => ?_) ?_
  · simp only [lit, key, Option.bind_some]
  · unfold fMo_areAt_L5
    obtain ⟨r3, r4, r5, r6, r7, r8, r9, r10⟩ := (sSM_live hS).2.2 p hpn
    obtain ⟨v3, v4, v5, v6, -⟩ := (hV.2.2.1 p hpn).1
    simp (disch := omega) only [c1, r3, r6, Option.bind_some, bnd, Sum.elim_inl, Sum.elim_inr, lit, nle, nlt, neq, nadd, nsub, nx_or, nx_and, shl_1, ix_nI]
    rw [if_neg (by omega)]
    by_cases hc : S 3 p = v
    · rw [if_pos hc]
      by_cases hc2 : S 6 p = k + 1
      · rw [if_pos hc2]; simp [hc, hc2]
      · rw [if_neg hc2]; simp [hc, hc2]
    · rw [if_neg hc]; simp [hc]
  · unfold fMo_areAt_L5
    simp (disch := omega) only [c1, Option.bind_some, bnd, Sum.elim_inl, Sum.elim_inr, lit, nle, nlt, neq, nadd, nsub, nx_or, nx_and, shl_1, ix_nI]
    rw [if_pos (Nat.le_refl _)]
end
