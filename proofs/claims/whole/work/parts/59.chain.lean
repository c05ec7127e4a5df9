def kny (n : Nat) (S : Nat → Nat → Nat) (a : Nat) : Nat → Nat
  | 0 => 0
  | k + 1 => kny n S a k ||| (if a.testBit k = true ∧ k < n then S 8 k else 0)
theorem kny_bit {n : Nat} {S : Nat → Nat → Nat} {a : Nat} : ∀ {k p : Nat}, (kny n S a k).testBit p = true ↔ ∃ r, r < k ∧ r < n ∧ a.testBit r = true ∧ (S 8 r).testBit p = true
  | 0, p => by simp [kny]
  | k + 1, p => by
    show (kny n S a k ||| (if a.testBit k = true ∧ k < n then S 8 k else 0)).testBit p = true ↔ _
    rw [Nat.testBit_or, Bool.or_eq_true, kny_bit]
    constructor
    · rintro (⟨r, h1, h2, h3, h4⟩ | h)
      · exact ⟨r, by omega, h2, h3, h4⟩
      · by_cases hc : a.testBit k = true ∧ k < n
        · rw [if_pos hc] at h
          exact ⟨k, by omega, hc.2, hc.1, h⟩
        · rw [if_neg hc, Nat.zero_testBit] at h
          cases h
    · rintro ⟨r, h1, h2, h3, h4⟩
      by_cases hr : r = k
      · subst hr
        right
        rw [if_pos ⟨h3, h2⟩]; exact h4
      · exact Or.inl ⟨r, by omega, h2, h3, h4⟩
def lay (n : Nat) (S : Nat → Nat → Nat) (to' : Nat) : Nat → Nat
  | 0 => 2 ^ to'
  | d + 1 => kny n S (lay n S to' d) 8
/-- what holds of a graph of at most eight -/
def gr (n : Nat) (S : Nat → Nat → Nat) : Prop := n ≤ 8 ∧ (∀ p, p < n → S 8 p < 256 ∧ (∀ r, n ≤ r → (S 8 p).testBit r = false)) ∧ ∀ p r, p < n → r < n → (S 8 p).testBit r = (S 8 r).testBit p
section
variable {n a : Nat} {S : Nat → Nat → Nat}
theorem kny_lt (hg : gr n S) : ∀ k, kny n S a k < 256
  | 0 => by show 0 < 256; omega
  | k + 1 => by
    show (kny n S a k ||| (if a.testBit k = true ∧ k < n then S 8 k else 0)) < 256
    refine or_256 (kny_lt hg k) ?_
    split
    · rename_i hc
      exact (hg.2.1 k hc.2).1
    · omega
theorem lay_lt (hg : gr n S) {b d : Nat} (hb : b < n) : lay n S b d < 256 := by
  cases d with
  | zero => exact p2_lt (by have := hg.1; omega)
  | succ d => exact kny_lt hg 8
theorem lay_s (hg : gr n S) {b d p : Nat} (hb : b < n) : (lay n S b (d + 1)).testBit p = true ↔ ∃ r, r < n ∧ (lay n S b d).testBit r = true ∧ (S 8 r).testBit p = true := by
  show (kny n S (lay n S b d) 8).testBit p = true ↔ _
  rw [kny_bit]
  have := hg.1
  constructor
  · rintro ⟨r, h1, h2, h3, h4⟩
    exact ⟨r, h2, h3, h4⟩
  · rintro ⟨r, h2, h3, h4⟩
    exact ⟨r, by omega, h2, h3, h4⟩
theorem lay_n (hg : gr n S) {b d p : Nat} (hb : b < n) (h : (lay n S b d).testBit p = true) : p < n := by
  cases d with
  | zero =>
    have h' : (2 ^ b).testBit p = true := h
    rw [Nat.testBit_two_pow] at h'
    have := of_decide_eq_true h'
    omega
  | succ d =>
    obtain ⟨r, h1, h2, h3⟩ := (lay_s hg hb).mp h
    rcases Nat.lt_or_ge p n with hp | hp
    · exact hp
    · rw [(hg.2.1 r h1).2 p hp] at h3
      cases h3
theorem lay_step (hg : gr n S) {b d p r : Nat} (hb : b < n) (hp : p < n) (h : (lay n S b d).testBit r = true) (hk : (S 8 p).testBit r = true) : (lay n S b (d + 1)).testBit p = true := by
  have hr := lay_n hg hb h
  exact (lay_s hg hb).mpr ⟨r, hr, h, by rw [hg.2.2 r p hr hp]; exact hk⟩
/-- all that is reached in at most d steps -/
def rch (n : Nat) (S : Nat → Nat → Nat) (b : Nat) : Nat → Nat
  | 0 => lay n S b 0
  | d + 1 => rch n S b d ||| lay n S b (d + 1)
theorem rch_bit {b : Nat} : ∀ {d p : Nat}, (rch n S b d).testBit p = true ↔ ∃ i, i ≤ d ∧ (lay n S b i).testBit p = true
  | 0, p => by
    constructor
    · intro h; exact ⟨0, by omega, h⟩
    · rintro ⟨i, h1, h2⟩
      have : i = 0 := by omega
      subst this; exact h2
  | d + 1, p => by
    show (rch n S b d ||| lay n S b (d + 1)).testBit p = true ↔ _
    rw [Nat.testBit_or, Bool.or_eq_true, rch_bit]
    constructor
    · rintro (⟨i, h1, h2⟩ | h)
      · exact ⟨i, by omega, h2⟩
      · exact ⟨d + 1, by omega, h⟩
    · rintro ⟨i, h1, h2⟩
      by_cases hi : i = d + 1
      · subst hi; exact Or.inr h2
      · exact Or.inl ⟨i, by omega, h2⟩
theorem sm_le2 {f g : Nat → Nat} (h : ∀ p, p < n → f p ≤ g p) : sm n f ≤ sm n g := by
  induction n with
  | zero => exact Nat.le_refl _
  | succ n ih =>
    show sm n f + f n ≤ sm n g + g n
    have := ih (fun p hp => h p (by omega))
    have := h n (by omega)
    omega
theorem sm_lt2 {f g : Nat → Nat} {p : Nat} (h : ∀ p, p < n → f p ≤ g p) (hp : p < n) (hl : f p < g p) : sm n f < sm n g := by
  induction n with
  | zero => omega
  | succ n ih =>
    show sm n f + f n < sm n g + g n
    have h2 := h n (by omega)
    by_cases hpn : p = n
    · subst hpn
      have := sm_le2 (n := p) (f := f) (g := g) (fun p hp => h p (by omega))
      omega
    · have := ih (fun p hp => h p (by omega)) (by omega)
      omega
theorem pc_lt {x y p : Nat} (h : ∀ i, x.testBit i = true → y.testBit i = true) (hp : p < 8) (h1 : x.testBit p = false) (h2 : y.testBit p = true) : pcnt x < pcnt y := by
  unfold pcnt
  refine sm_lt2 (p := p) (fun i hi => ?_) hp ?_
  · cases hx : x.testBit i
    · simp
    · rw [h i hx]; exact Nat.le_refl _
  · rw [h1, h2]; decide
theorem rch_le8 (b d : Nat) : pcnt (rch n S b d) ≤ 8 := by
  unfold pcnt
  have := sm_le (n := 8) (f := fun i => if (rch n S b d).testBit i then 1 else 0) (b := 1) (fun p _ => by
    show (if _ then 1 else 0) ≤ 1
    split <;> omega)
  omega
theorem rch_grow (hg : gr n S) {b : Nat} (hb : b < n) : ∀ d, (∃ i, i < d ∧ ∀ p, (rch n S b (i + 1)).testBit p = true → (rch n S b i).testBit p = true) ∨ d + 1 ≤ pcnt (rch n S b d)
  | 0 => by
    right
    have h1 : pcnt 0 < pcnt (rch n S b 0) := pc_lt (p := b) (fun i hi => by rw [Nat.zero_testBit] at hi; cases hi) (by have := hg.1; omega) (Nat.zero_testBit b) (by
      show (2 ^ b).testBit b = true
      rw [Nat.testBit_two_pow]; exact decide_eq_true rfl)
    omega
  | d + 1 => by
    rcases rch_grow hg hb d with ⟨i, h1, h2⟩ | h
    · exact Or.inl ⟨i, by omega, h2⟩
    · by_cases hc : ∀ p, (rch n S b (d + 1)).testBit p = true → (rch n S b d).testBit p = true
      · exact Or.inl ⟨d, by omega, hc⟩
      · right
        have : ∃ p, (rch n S b (d + 1)).testBit p = true ∧ (rch n S b d).testBit p = false := by
          apply Classical.byContradiction
          intro hn
          apply hc
          intro p hp
          cases hq : (rch n S b d).testBit p
          · exact absurd ⟨p, hp, hq⟩ hn
          · rfl
        obtain ⟨p, h3, h4⟩ := this
        obtain ⟨i, -, h5⟩ := rch_bit.mp h3
        have hp := lay_n hg hb h5
        have := pc_lt (x := rch n S b d) (y := rch n S b (d + 1)) (p := p) (fun i hi => by
          show (rch n S b d ||| lay n S b (d + 1)).testBit i = true
          rw [Nat.testBit_or, hi]; rfl) (by have := hg.1; omega) h4 h3
        omega
/-- whoever is reached at all is reached in seven steps -/
theorem lay_7 (hg : gr n S) {b : Nat} (hb : b < n) : ∀ {d p : Nat}, (lay n S b d).testBit p = true → ∃ i, i ≤ 7 ∧ (lay n S b i).testBit p = true := by
  obtain ⟨i, hi, hst⟩ : ∃ i, i < 8 ∧ ∀ p, (rch n S b (i + 1)).testBit p = true → (rch n S b i).testBit p = true := by
    rcases rch_grow hg hb 8 with h | h
    · exact h
    · have := rch_le8 (n := n) (S := S) b 8
      omega
  have key : ∀ d p, (lay n S b d).testBit p = true → (rch n S b i).testBit p = true := by
    intro d
    induction d with
    | zero => exact fun p h => rch_bit.mpr ⟨0, by omega, h⟩
    | succ d ih =>
      intro p h
      obtain ⟨r, h1, h2, h3⟩ := (lay_s hg hb).mp h
      obtain ⟨j, h4, h5⟩ := rch_bit.mp (ih r h2)
      exact hst p (rch_bit.mpr ⟨j + 1, by omega, (lay_s hg hb).mpr ⟨r, h1, h5, h3⟩⟩)
  intro d p h
  obtain ⟨j, h1, h2⟩ := rch_bit.mp (key d p h)
  exact ⟨j, by omega, h2⟩
/-- far off, as the reference counts it -/
def offA (n : Nat) (S : Nat → Nat → Nat) (b : Nat) (o : Nat → Nat) : Prop := ∀ p, p < 8 → o p ≤ 1000000 ∧ (o p < 1000000 → p < n ∧ (lay n S b (o p)).testBit p = true)
def offC (n : Nat) (S : Nat → Nat → Nat) (b r : Nat) (o : Nat → Nat) : Prop := ∀ d, d ≤ r → ∀ p, (lay n S b d).testBit p = true → o p ≤ d
def rlx (S : Nat → Nat → Nat) (o : Nat → Nat) (k i : Nat) : Nat → Nat := if (S 8 k).testBit i = true ∧ o i + 1 < o k then va_up o k (o i + 1) else o
theorem rlx_le {o : Nat → Nat} {k i p : Nat} : rlx S o k i p ≤ o p := by
  unfold rlx
  split
  · rename_i h
    rw [va_up_at]
    split
    · rename_i hp; rw [hp]; omega
    · exact Nat.le_refl _
  · exact Nat.le_refl _
theorem rlx_A (hg : gr n S) {b : Nat} (hb : b < n) {o : Nat → Nat} {k i : Nat} (hk : k < n) (hi : i < n) (hA : offA n S b o) : offA n S b (rlx S o k i) := by
  intro p hp
  unfold rlx
  split
  · rename_i h
    rw [va_up_at]
    split
    · rename_i hpk
      subst hpk
      have h1 := hA p hp
      have h2 := hA i (by have := hg.1; omega)
      refine ⟨by omega, fun _ => ⟨hk, ?_⟩⟩
      exact lay_step hg hb hk (h2.2 (by omega)).2 h.1
    · exact hA p hp
  · exact hA p hp
theorem rlx_C {b r : Nat} {o : Nat → Nat} {k i : Nat} (hC : offC n S b r o) : offC n S b r (rlx S o k i) := fun d hd p hp => Nat.le_trans rlx_le (hC d hd p hp)
theorem rlx_to {b r : Nat} {o : Nat → Nat} {k i : Nat} (hC : offC n S b r o) (hK : (S 8 k).testBit i = true) (hl : (lay n S b r).testBit i = true) : rlx S o k i k ≤ r + 1 := by
  have h1 := hC r (Nat.le_refl _) i hl
  unfold rlx
  by_cases h : (S 8 k).testBit i = true ∧ o i + 1 < o k
  · rw [if_pos h, va_up_at, if_pos rfl]; omega
  · rw [if_neg h]
    have : ¬ o i + 1 < o k := fun z => h ⟨hK, z⟩
    omega
theorem off_end (hg : gr n S) {b : Nat} (hb : b < n) {o : Nat → Nat} (hA : offA n S b o) (hC : offC n S b 8 o) {p : Nat} (hp : p < n) : (o p = 1000000 ∧ ∀ d, (lay n S b d).testBit p = false) ∨ (o p ≤ 7 ∧ (lay n S b (o p)).testBit p = true ∧ ∀ i, i < o p → (lay n S b i).testBit p = false) := by
  have hg1 := hg.1
  obtain ⟨h1, h2⟩ := hA p (by omega)
  by_cases h : o p < 1000000
  · right
    obtain ⟨-, h3⟩ := h2 h
    obtain ⟨i, h4, h5⟩ := lay_7 hg hb h3
    have h6 := hC i (by omega) p h5
    refine ⟨by omega, h3, fun j hj => ?_⟩
    cases hq : (lay n S b j).testBit p
    · rfl
    · have := hC j (by omega) p hq
      omega
  · left
    refine ⟨by omega, fun d => ?_⟩
    cases hq : (lay n S b d).testBit p
    · rfl
    · obtain ⟨i, h4, h5⟩ := lay_7 hg hb hq
      have := hC i (by omega) p h5
      omega
/-- the row of persons -/
def rowf (n : Nat) (S : Nat → Nat → Nat) (b d c : Nat) : Nat → Nat
  | 0 => c
  | s + 1 => (fi (fun k => (S 8 (rowf n S b d c s)).testBit k && (lay n S b (d - s - 1)).testBit k) 8).getD 0
theorem row_ok (hg : gr n S) {b d c : Nat} (hb : b < n) (hc : c < n) (h1 : (lay n S b d).testBit c = true) (h2 : ∀ i, i < d → (lay n S b i).testBit c = false) : ∀ s, s ≤ d → rowf n S b d c s < n ∧ (lay n S b (d - s)).testBit (rowf n S b d c s) = true ∧ (∀ i, i < d - s → (lay n S b i).testBit (rowf n S b d c s) = false) ∧ (s < d → ∃ k, k < 8 ∧ fi (fun k => (S 8 (rowf n S b d c s)).testBit k && (lay n S b (d - s - 1)).testBit k) 8 = some k ∧ (S 8 (rowf n S b d c s)).testBit k = true ∧ (lay n S b (d - s - 1)).testBit k = true) := by
  have nxt : ∀ s, s < d → ∀ r, r < n → (lay n S b (d - s)).testBit r = true → ∃ k, k < 8 ∧ fi (fun k => (S 8 r).testBit k && (lay n S b (d - s - 1)).testBit k) 8 = some k ∧ (S 8 r).testBit k = true ∧ (lay n S b (d - s - 1)).testBit k = true := by
    intro s hs r hr hl
    rw [show d - s = (d - s - 1) + 1 by omega] at hl
    obtain ⟨k, k1, k2, k3⟩ := (lay_s hg hb).mp hl
    have hk8 : k < 8 := by have := hg.1; omega
    have hP : ((S 8 r).testBit k && (lay n S b (d - s - 1)).testBit k) = true := by
      rw [hg.2.2 r k hr k1, k3, k2]; rfl
    rcases fi_cases (fun k => (S 8 r).testBit k && (lay n S b (d - s - 1)).testBit k) 8 with ⟨-, f2⟩ | ⟨j, f1, f2, f3, f4⟩
    · rw [f2 k hk8] at hP; cases hP
    · rw [Bool.and_eq_true] at f2
      exact ⟨j, f1, f4, f2.1, f2.2⟩
  intro s
  induction s with
  | zero =>
    intro _
    exact ⟨hc, h1, h2, fun hs => nxt 0 hs c hc h1⟩
  | succ s ih =>
    intro hs
    obtain ⟨g1, g2, g3, g4⟩ := ih (by omega)
    obtain ⟨k, k1, k2, k3, k4⟩ := g4 (by omega)
    have e : rowf n S b d c (s + 1) = k := by
      show (fi _ 8).getD 0 = k
      rw [k2]; rfl
    rw [e]
    have hk : k < n := lay_n hg hb k4
    have l1 : (lay n S b (d - (s + 1))).testBit k = true := by rw [show d - (s + 1) = d - s - 1 by omega]; exact k4
    refine ⟨hk, l1, fun i hi => ?_, fun hs' => nxt (s + 1) hs' k hk l1⟩
    cases hq : (lay n S b i).testBit k
    · rfl
    · have := lay_step hg hb g1 hq k3
      rw [g3 (i + 1) (by omega)] at this
      cases this
theorem row_off (hg : gr n S) {b d c : Nat} (hb : b < n) (hc : c < n) (h1 : (lay n S b d).testBit c = true) (h2 : ∀ i, i < d → (lay n S b i).testBit c = false) {o : Nat → Nat} (hA : offA n S b o) (hC : offC n S b 8 o) (hd : d ≤ 7) {s k : Nat} (hs : s < d) (hk : k < n) (hK : (S 8 (rowf n S b d c s)).testBit k = true) : o k = d - (s + 1) ↔ (lay n S b (d - s - 1)).testBit k = true := by
  obtain ⟨g1, g2, g3, -⟩ := row_ok hg hb hc h1 h2 s (by omega)
  have hg1 := hg.1
  constructor
  · intro ho
    have := (hA k (by omega)).2 (by omega)
    rw [ho, show d - (s + 1) = d - s - 1 by omega] at this
    exact this.2
  · intro hl
    have h3 := hC (d - s - 1) (by omega) k hl
    have h4 := (hA k (by omega)).2 (by omega)
    rcases Nat.lt_or_ge (o k) (d - s - 1) with h5 | h5
    · have := lay_step hg hb g1 h4.2 hK
      rw [g3 (o k + 1) (by omega)] at this
      cases this
    · omega
end
