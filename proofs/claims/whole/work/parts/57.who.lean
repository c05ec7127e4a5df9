theorem b_all : ∀ c, c < 256 → i2b (nI c) &&& nI 255 = nI c := by decide +kernel
def bv (v : Int32) : Nat := (v &&& nI 255).toNatClampNeg
theorem isB_and {v : Int32} (h : isB v) : v &&& nI 255 = nI (bv v) ∧ bv v < 256 := by
  obtain ⟨c, hc, rfl⟩ := h
  have h1 := b_all c hc
  have h2 : bv (i2b (nI c)) = c := by
    unfold bv
    rw [h1, nI_clamp (by omega)]
  rw [h2]
  exact ⟨h1, hc⟩
def ym (B : Nat → Nat) (v : Nat) : Nat → Nat
  | 0 => 0
  | j + 1 => ym B v j ||| (if B (2 * j + 1) = v then 2 ^ B (2 * j) else 0)
theorem ym_bit (B : Nat → Nat) (v : Nat) : ∀ j b, (ym B v j).testBit b = true ↔ ∃ i, i < j ∧ B (2 * i + 1) = v ∧ B (2 * i) = b
  | 0, b => by simp [ym]
  | j + 1, b => by
    show (ym B v j ||| (if B (2 * j + 1) = v then 2 ^ B (2 * j) else 0)).testBit b = true ↔ _
    rw [Nat.testBit_or, Bool.or_eq_true, ym_bit B v j b]
    constructor
    · rintro (⟨i, h1, h2, h3⟩ | h)
      · exact ⟨i, by omega, h2, h3⟩
      · by_cases hv : B (2 * j + 1) = v
        · rw [if_pos hv, Nat.testBit_two_pow] at h
          exact ⟨j, by omega, hv, of_decide_eq_true h⟩
        · rw [if_neg hv, Nat.zero_testBit] at h
          cases h
    · rintro ⟨i, h1, h2, h3⟩
      by_cases hi : i = j
      · subst hi
        right
        rw [if_pos h2, Nat.testBit_two_pow]
        exact decide_eq_true h3
      · left
        exact ⟨i, by omega, h2, h3⟩
theorem ym_lt {B : Nat → Nat} {v : Nat} : ∀ {j : Nat}, (∀ i, i < j → B (2 * i) < 8) → ym B v j < 256
  | 0, _ => by show 0 < 256; omega
  | j + 1, h => by
    show (ym B v j ||| (if B (2 * j + 1) = v then 2 ^ B (2 * j) else 0)) < 256
    refine or_256 (ym_lt (fun i hi => h i (by omega))) ?_
    split
    · exact p2_lt (h j (by omega))
    · omega
/-- he is meant -/
def mnt (S : Nat → Nat → Nat) (B : Nat → Nat) (j q : Nat) : Bool := decide (∀ i, i < j → B (2 * i) ≠ q ∧ (if (S 8 (B (2 * i))).testBit q then 1 else 0) = B (2 * i + 1))
def lft (f K p : Nat) : Nat := max (max (pcnt (f &&& K)) (pcnt f - pcnt (f &&& K) - (if f.testBit p then 1 else 0))) (if f.testBit p then 1 else 0)
def bmn (g : Nat → Nat) : Nat → Nat
  | 0 => 0
  | i + 1 => if g i < g (bmn g i) then i else bmn g i
theorem bmn_lt (g : Nat → Nat) : ∀ i, bmn g (i + 1) < i + 1
  | 0 => by
    show (if g 0 < g 0 then 0 else 0) < 1
    split <;> omega
  | i + 1 => by
    show (if g (i + 1) < g (bmn g (i + 1)) then i + 1 else bmn g (i + 1)) < i + 2
    have := bmn_lt g i
    split <;> omega
theorem sm_add {f g : Nat → Nat} : ∀ {n : Nat}, sm n (fun i => f i + g i) = sm n f + sm n g
  | 0 => rfl
  | n + 1 => by
    show sm n (fun i => f i + g i) + (f n + g n) = (sm n f + f n) + (sm n g + g n)
    rw [sm_add]
    omega
theorem sm_one {c p : Nat} : ∀ {n : Nat}, sm n (fun i => if i = p then c else 0) = if p < n then c else 0
  | 0 => rfl
  | n + 1 => by
    show sm n (fun i => if i = p then c else 0) + (if n = p then c else 0) = _
    rw [sm_one]
    by_cases h1 : n = p
    · subst h1
      rw [if_neg (by omega), if_pos rfl, if_pos (by omega)]
      omega
    · rw [if_neg h1]
      by_cases h2 : p < n
      · rw [if_pos h2, if_pos (by omega)]; rfl
      · rw [if_neg h2, if_neg (by omega)]
theorem pc_split {f K p : Nat} (hp : p < 8) (hK : K.testBit p = false) : pcnt (f &&& (255 ^^^ K) &&& (255 ^^^ (f &&& 2 ^ p))) + pcnt (f &&& K) + (if f.testBit p then 1 else 0) = pcnt f := by
  have h1 : (if f.testBit p then 1 else 0) = sm 8 (fun i => if i = p then (if f.testBit p then 1 else 0) else 0) := by
    rw [sm_one, if_pos hp]
  rw [h1]
  unfold pcnt
  rw [← sm_add, ← sm_add]
  refine sm_congr (fun i hi => ?_)
  have h255 : (255 : Nat).testBit i = true := by
    have := Nat.testBit_two_pow_sub_one 8 i
    simpa [hi] using this
  simp only [Nat.testBit_and, Nat.testBit_xor, Nat.testBit_two_pow, h255]
  by_cases hip : i = p
  · subst hip
    rw [hK]
    cases f.testBit i <;> simp
  · have : ¬ p = i := fun z => hip z.symm
    cases f.testBit i <;> cases K.testBit i <;> simp [hip, this]
theorem pc_bit {f p : Nat} (hp : p < 8) : pcnt (f &&& 2 ^ p) = if f.testBit p then 1 else 0 := by
  have h1 : (if f.testBit p then 1 else 0) = sm 8 (fun i => if i = p then (if f.testBit p then 1 else 0) else 0) := by
    rw [sm_one, if_pos hp]
  rw [h1]
  unfold pcnt
  refine sm_congr (fun i hi => ?_)
  rw [Nat.testBit_and, Nat.testBit_two_pow]
  by_cases hip : i = p
  · subst hip
    cases f.testBit i <;> simp
  · have : ¬ p = i := fun z => hip z.symm
    simp [hip, this]
theorem jmax {a b : Nat} (ha : a < 2147483648) (hb : b < 2147483648) : fJM_max (nI a) (nI b) = some (nI (max a b)) := by
  unfold fJM_max
  by_cases h : a < b
  · rw [if_pos (by rw [nlt ha hb]; exact h), Nat.max_eq_right (by omega)]
  · rw [if_neg (by rw [nlt ha hb]; exact h), Nat.max_eq_left (by omega)]
theorem mgr {a b : Nat} (ha : a < 2147483648) (hb : b < 2147483648) : fMo_greater (nI a) (nI b) = some (nI (max a b)) := by
  unfold fMo_greater
  by_cases h : a ≤ b
  · rw [if_pos (by rw [nle ha hb]; exact h), Nat.max_eq_right (by omega)]
  · rw [if_neg (by rw [nle ha hb]; exact h), Nat.max_eq_left (by omega)]
theorem sI_sI {m : Obj} {j i : Nat} {a b : Int32} : sI (sI m j i a) j i b = sI m j i b := by
  refine Prod.ext ?_ rfl
  show va_up (va_up m.1 j (va_up (m.1 j) i a)) j (va_up (va_up m.1 j (va_up (m.1 j) i a) j) i b) = va_up m.1 j (va_up (m.1 j) i b)
  funext j'
  simp only [va_up_at, if_true]
  by_cases hj : j' = j
  · rw [if_pos hj, if_pos hj]
    funext i'
    simp only [va_up_at]
    by_cases hi : i' = i
    · rw [if_pos hi, if_pos hi]
    · rw [if_neg hi, if_neg hi, if_neg hi]
  · rw [if_neg hj, if_neg hj, if_neg hj]
section
variable {X X' X1 : Nat → Obj} {n h L e t : Nat} {hp hm : Nat → Nat} {sr : Nat → Bool} {q m m' m0 m1 sc sc0 sc2 ta : Obj} {S S' : Nat → Nat → Nat} {T : Nat} {B : Nat → Nat}
theorem mnt_eq (hn : n ≤ 8) (hV : sSV n h L hp S) {j : Nat} (hB : ∀ i, i < j → B (2 * i) < n ∧ B (2 * i + 1) ≤ 1) {p : Nat} (hpn : p < n) (h0 : ym B 1 j &&& ym B 0 j = 0) : (!(ym B 1 j ||| ym B 0 j).testBit p && (S 8 p &&& (ym B 1 j ||| ym B 0 j)) == ym B 1 j) = mnt S B j p := by
  have hsym := hV.2.2.2
  have hno : ∀ b, (ym B 1 j).testBit b = true → (ym B 0 j).testBit b = true → False := fun b h1 h2 => by
    have : (ym B 1 j &&& ym B 0 j).testBit b = true := by rw [Nat.testBit_and, h1, h2]; rfl
    rw [h0, Nat.zero_testBit] at this
    cases this
  rw [Bool.eq_iff_iff]
  unfold mnt
  rw [Bool.and_eq_true, Bool.not_eq_true', beq_iff_eq, decide_eq_true_eq]
  constructor
  · rintro ⟨h1, h2⟩ i hi
    rw [Nat.testBit_or, Bool.or_eq_false_iff] at h1
    obtain ⟨g1, g2⟩ := hB i hi
    have hb : (S 8 p &&& (ym B 1 j ||| ym B 0 j)).testBit (B (2 * i)) = (ym B 1 j).testBit (B (2 * i)) := by rw [h2]
    rw [Nat.testBit_and, Nat.testBit_or] at hb
    rw [hsym _ p g1 hpn]
    by_cases hk : B (2 * i + 1) = 1
    · have y1 : (ym B 1 j).testBit (B (2 * i)) = true := (ym_bit B 1 j _).mpr ⟨i, hi, hk, rfl⟩
      refine ⟨fun z => ?_, ?_⟩
      · rw [z, h1.1] at y1; cases y1
      · rw [y1, Bool.true_or, Bool.and_true] at hb
        rw [hb, hk]; rfl
    · have hk0 : B (2 * i + 1) = 0 := by omega
      have y0 : (ym B 0 j).testBit (B (2 * i)) = true := (ym_bit B 0 j _).mpr ⟨i, hi, hk0, rfl⟩
      have y1 : (ym B 1 j).testBit (B (2 * i)) = false := by
        cases hc : (ym B 1 j).testBit (B (2 * i))
        · rfl
        · exact absurd y0 (fun z => hno _ hc z)
      refine ⟨fun z => ?_, ?_⟩
      · rw [z, h1.2] at y0; cases y0
      · rw [y1, y0, Bool.false_or, Bool.and_true] at hb
        rw [hb, hk0]; rfl
  · intro hall
    refine ⟨?_, ?_⟩
    · rw [Nat.testBit_or, Bool.or_eq_false_iff]
      refine ⟨?_, ?_⟩
      · cases hc : (ym B 1 j).testBit p
        · rfl
        · obtain ⟨i, hi, -, h3⟩ := (ym_bit B 1 j p).mp hc
          exact absurd h3 (hall i hi).1
      · cases hc : (ym B 0 j).testBit p
        · rfl
        · obtain ⟨i, hi, -, h3⟩ := (ym_bit B 0 j p).mp hc
          exact absurd h3 (hall i hi).1
    · apply Nat.eq_of_testBit_eq
      intro b
      rw [Nat.testBit_and, Nat.testBit_or]
      cases h1 : (ym B 1 j).testBit b
      · cases h0' : (ym B 0 j).testBit b
        · rw [Bool.or_false, Bool.and_false]
        · obtain ⟨i, hi, h2, h3⟩ := (ym_bit B 0 j b).mp h0'
          have := (hall i hi).2
          subst h3
          rw [hsym _ p (hB i hi).1 hpn, h2] at this
          cases hs : (S 8 p).testBit (B (2 * i))
          · rfl
          · rw [hs] at this; cases this
      · obtain ⟨i, hi, h2, h3⟩ := (ym_bit B 1 j b).mp h1
        have := (hall i hi).2
        subst h3
        rw [hsym _ p (hB i hi).1 hpn, h2] at this
        cases hs : (S 8 p).testBit (B (2 * i))
        · rw [hs] at this; cases this
        · rfl
theorem mnt_no (hV : sSV n h L hp S) {j : Nat} (h0 : ym B 1 j &&& ym B 0 j ≠ 0) (p : Nat) : mnt S B j p = false := by
  obtain ⟨b, hb⟩ : ∃ b, (ym B 1 j &&& ym B 0 j).testBit b = true := by
    have := Nat.exists_testBit_of_ne_zero h0
    exact this
  rw [Nat.testBit_and, Bool.and_eq_true] at hb
  obtain ⟨i, hi, h2, h3⟩ := (ym_bit B 1 j b).mp hb.1
  obtain ⟨i', hi', h2', h3'⟩ := (ym_bit B 0 j b).mp hb.2
  unfold mnt
  rw [decide_eq_false_iff_not]
  intro hall
  have a1 := (hall i hi).2
  have a2 := (hall i' hi').2
  rw [h3, h2] at a1
  rw [h3', h2'] at a2
  omega
theorem msk_false {n : Nat} {P : Nat → Bool} (h : ∀ p, p < n → P p = false) : msk n P = 0 := by
  apply Nat.eq_of_testBit_eq
  intro i
  rw [msk_bit, Nat.zero_testBit]
  by_cases hi : i < n
  · rw [h i hi, Bool.and_false]
  · rw [decide_eq_false hi, Bool.false_and]
theorem sc_whom (hB' : sQB n h L e t hp hm) (hC : sQC n h L e t hp hm sr q) (hV : sSV n h L hp S) (hS : sSC n S sc) {j : Nat} (hB : ∀ i, i < j → B (2 * i) < n ∧ B (2 * i + 1) ≤ 1) : fSc_whomJustTheseKnow q sc (nI (ym B 1 j)) (nI (ym B 0 j)) = some (nI (msk n (mnt S B j))) := by
  have b1 := hB'.1
  have c4 := hC.1.2.2.2.2
  have y1 : ym B 1 j < 256 := ym_lt (fun i hi => by have := (hB i hi).1; omega)
  have y0 : ym B 0 j < 256 := ym_lt (fun i hi => by have := (hB i hi).1; omega)
  have y2 := or_256 y1 y0
  have y3 := and_256 (b := ym B 0 j) y1
  unfold fSc_whomJustTheseKnow
  simp only [lit]
  rw [nx_and]
  by_cases h0 : ym B 1 j &&& ym B 0 j = 0
  · rw [if_pos (by rw [h0])]
    have hc : msk n (mnt S B j) = msk n (fun p => !(ym B 1 j ||| ym B 0 j).testBit p && (S 8 p &&& (ym B 1 j ||| ym B 0 j)) == ym B 1 j) := msk_congr (fun p hpn => (mnt_eq b1 hV hB hpn h0).symm)
    rw [hc]
    have key := msk_loop (f := fSc_whomJustTheseKnow_L13 q sc (nI (ym B 1 j)) (nI (ym B 0 j))) n (by omega) (fun p => !(ym B 1 j ||| ym B 0 j).testBit p && (S 8 p &&& (ym B 1 j ||| ym B 0 j)) == ym B 1 j) (fun p hpn => ?_) ?_
    · rw [key]; rfl
    · have r8 := (hS.2.2 p hpn).2.2.2.2.2.1
      have v8 := (hV.2.2.1 p hpn).1.2.2.2.2.2.1
      have hb := hasBit_n (a := ym B 1 j ||| ym B 0 j) (p := p) (by omega) (by omega)
      have y4 := and_256 (b := ym B 1 j ||| ym B 0 j) v8
      unfold fSc_whomJustTheseKnow_L13
      simp only [lit, nx_or]
      rw [c4, if_neg (by rw [nle (by omega) (by omega)]; omega), if_neg (by rw [nle (by omega) (by omega)]; omega), hb, ix_nI (by omega) (by omega)]
      simp only [Option.bind_some, bnd]
      rw [r8, nx_and, shl_1 (by omega), nx_or, nadd]
      cases hbb : (ym B 1 j ||| ym B 0 j).testBit p
      · simp only [Bool.false_eq_true, if_false, if_true, Bool.not_false, Bool.true_and]
        by_cases h5 : S 8 p &&& (ym B 1 j ||| ym B 0 j) = ym B 1 j
        · rw [if_pos (by rw [h5]), h5, beq_self_eq_true, if_pos rfl]
        · rw [if_neg (by rw [neq (by omega) (by omega)]; exact h5), beq_eq_false_iff_ne.mpr h5, if_neg (by decide), Nat.or_zero]
      · simp only [if_true, Bool.not_true, Bool.false_and, Bool.false_eq_true, if_false]
        rw [if_neg (by decide +kernel), Nat.or_zero]
    · unfold fSc_whomJustTheseKnow_L13
      simp only [lit]
      rw [c4]
      split
      · rfl
      · rw [if_pos (by rw [nle (by omega) (by omega)]; omega)]
  · rw [if_neg (by rw [neq (by omega) (by omega)]; exact h0), msk_false (fun p _ => mnt_no hV h0 p)]
theorem lft_lt {f K p : Nat} (hf : f < 256) : lft f K p < 100 := by
  have h1 := pcnt_le hf
  have h2 := pcnt_le (and_256 (b := K) hf)
  unfold lft
  split <;> omega
theorem andm {a b : Nat} (ha : a < 256) : nI a &&& (nI b ^^^ (-1 : Int32)) = nI (a &&& (255 ^^^ b)) := andn ha
theorem shm {p : Nat} (h : p < 31) : shl (1 : Int32) (nI p) = nI (2 ^ p) := shl_1 h
theorem nsc (p : Nat) : nI p + (1 : Int32) = nI (p + 1) := nadd p 1
theorem sc_bestS (hB' : sQB n h L e t hp hm) (hC : sQC n h L e t hp hm sr q) (hV : sSV n h L hp S) (hS : sSC n S sc) {f : Nat} (hf : f < 256) {p : Nat} (hpn : p < n) (a b : Int32) : fSc_bestToAsk_L7 q sc (nI f) (a, b, nI p) = if a = (-1 : Int32) then some (.inl (nI p, nI (lft f (S 8 p) p), nI (p + 1))) else if b ≤ nI (lft f (S 8 p) p) then some (.inl (a, b, nI (p + 1))) else some (.inl (nI p, nI (lft f (S 8 p) p), nI (p + 1))) := by
  have b1 := hB'.1
  have c4 := hC.1.2.2.2.2
  have r8 := (hS.2.2 p hpn).2.2.2.2.2.1
  obtain ⟨⟨v3, v4, v5, v6, v7, v8, v9, v10⟩, -, ⟨-, v11⟩⟩ := hV.2.2.1 p hpn
  have h1 := and_256 (b := S 8 p) hf
  have h2 := and_256 (b := 255 ^^^ S 8 p) hf
  have h3 := and_256 (b := 255 ^^^ (f &&& 2 ^ p)) h2
  have h4 := and_256 (b := 2 ^ p) hf
  have hs := pc_split (f := f) (K := S 8 p) (p := p) (by omega) v11
  have p1 := pcnt_le h1
  have p2 := pcnt_le h3
  have p3 := pcnt_le h4
  have hpb := pc_bit (f := f) (p := p) (by omega)
  have e1 : pcnt (f &&& (255 ^^^ S 8 p) &&& (255 ^^^ (f &&& 2 ^ p))) = pcnt f - pcnt (f &&& S 8 p) - (if f.testBit p then 1 else 0) := by omega
  have e2 : max (max (pcnt (f &&& S 8 p)) (pcnt f - pcnt (f &&& S 8 p) - (if f.testBit p then 1 else 0))) (if f.testBit p then 1 else 0) = lft f (S 8 p) p := rfl
  have q1 : ¬ (8 : Int32) ≤ nI p := by
    show ¬ nI 8 ≤ nI p
    rw [nle (by omega) (by omega)]; omega
  have q2 : ¬ q.1 0 4 ≤ nI p := by rw [c4, nle (by omega) (by omega)]; omega
  have i1 : ix 8 (nI p) = some p := ix_nI (by omega) (by omega)
  have a1 : nI f &&& nI (S 8 p) = nI (f &&& S 8 p) := nx_and _ _
  have a2 : nI f &&& nI (2 ^ p) = nI (f &&& 2 ^ p) := nx_and _ _
  have m1 : fJM_max (nI (pcnt (f &&& S 8 p))) (nI (pcnt (f &&& (255 ^^^ S 8 p) &&& (255 ^^^ (f &&& 2 ^ p))))) = some (nI (max (pcnt (f &&& S 8 p)) (pcnt (f &&& (255 ^^^ S 8 p) &&& (255 ^^^ (f &&& 2 ^ p)))))) := jmax (by omega) (by omega)
  have m2 : fJM_max (nI (max (pcnt (f &&& S 8 p)) (pcnt (f &&& (255 ^^^ S 8 p) &&& (255 ^^^ (f &&& 2 ^ p)))))) (nI (pcnt (f &&& 2 ^ p))) = some (nI (lft f (S 8 p) p)) := by
    rw [jmax (by omega) (by omega), e1, hpb, e2]
  show ((if (8 : Int32) ≤ nI p then some (.inr a) else if q.1 0 4 ≤ nI p then some (.inr a) else (ix 8 (nI p)).bind fun i2 => (fJI_bitCount (nI f &&& sc.1 8 i2)).bind fun r3 => (ix 8 (nI p)).bind fun i4 => (fJI_bitCount ((nI f &&& (sc.1 8 i4 ^^^ (-1 : Int32))) &&& ((nI f &&& shl (1 : Int32) (nI p)) ^^^ (-1 : Int32)))).bind fun r5 => (fJM_max r3 r5).bind fun r6 => (fJI_bitCount (nI f &&& shl (1 : Int32) (nI p))).bind fun r7 => (fJM_max r6 r7).bind fun r8 => if a = (-1 : Int32) then some (.inl (nI p, r8, nI p + (1 : Int32))) else if b ≤ r8 then some (.inl (a, b, nI p + (1 : Int32))) else some (.inl (nI p, r8, nI p + (1 : Int32)))) : Option ((Int32 × Int32 × Int32) ⊕ Int32)) = _
  rw [if_neg q1, if_neg q2, i1, Option.bind_some, r8, a1, jbc h1, Option.bind_some, Option.bind_some, r8, shm (by omega), a2, andm hf, andm h2, jbc h3, Option.bind_some, m1, Option.bind_some, jbc h4, Option.bind_some, m2, Option.bind_some, nsc]
theorem sc_best (hB' : sQB n h L e t hp hm) (hC : sQC n h L e t hp hm sr q) (hV : sSV n h L hp S) (hS : sSC n S sc) {f : Nat} (hf : f < 256) (hn : 1 ≤ n) : fSc_bestToAsk q sc (nI f) = some (nI (bmn (fun p => lft f (S 8 p) p) n)) := by
  have b1 := hB'.1
  have c4 := hC.1.2.2.2.2
  have hl : ∀ p, p < n → lft f (S 8 p) p < 100 := fun p hpn => lft_lt hf
  have hstep := fun (p : Nat) (hpn : p < n) (a b : Int32) => sc_bestS hB' hC hV hS hf hpn a b
  have key := iter_F (f := fSc_bestToAsk_L7 q sc (nI f)) (F := fun i => if i = 0 then ((-1 : Int32), (0 : Int32), (0 : Int32)) else (nI (bmn (fun p => lft f (S 8 p) p) i), nI (lft f (S 8 (bmn (fun p => lft f (S 8 p) p) i)) (bmn (fun p => lft f (S 8 p) p) i)), nI i)) (nI (bmn (fun p => lft f (S 8 p) p) n)) n (by omega) (fun i hi => ?_) ?_
  · unfold fSc_bestToAsk
    rw [if_pos rfl] at key
    rw [key]; rfl
  · simp only [Nat.add_eq_zero_iff, Nat.succ_ne_self, and_false, if_false]
    by_cases h0 : i = 0
    · subst h0
      rw [if_pos rfl, show (0 : Int32) = nI 0 from rfl, hstep 0 hi, if_pos rfl]
      simp only [bmn, Nat.lt_irrefl, if_false]
    · rw [if_neg h0, hstep i hi]
      have hb := bmn_lt (fun p => lft f (S 8 p) p) (i - 1)
      rw [show i - 1 + 1 = i by omega] at hb
      have l1 := hl i hi
      have l2 := hl (bmn (fun p => lft f (S 8 p) p) i) (by omega)
      rw [if_neg (nI_ne_m1 (by omega))]
      by_cases h1 : lft f (S 8 i) i < lft f (S 8 (bmn (fun p => lft f (S 8 p) p) i)) (bmn (fun p => lft f (S 8 p) p) i)
      · rw [if_neg (by rw [nle (by omega) (by omega)]; omega)]
        simp only [bmn, h1, if_true]
      · rw [if_pos (by rw [nle (by omega) (by omega)]; omega)]
        simp only [bmn, h1, if_false]
  · rw [if_neg (by omega)]
    unfold fSc_bestToAsk_L7
    simp only [lit]
    rw [c4]
    split
    · rfl
    · rw [if_pos (by rw [nle (by omega) (by omega)]; omega)]
end
