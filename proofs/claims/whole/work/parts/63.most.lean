noncomputable def hb (N : Nat → Nat) (T : Nat) : Nat := @ite Nat (hall N T) (Classical.propDecidable _) 1 0
theorem hb_1 {N : Nat → Nat} {T : Nat} (h : hall N T) : hb N T = 1 := by
  unfold hb
  exact @if_pos _ (Classical.propDecidable _) h _ _ _
theorem hb_0 {N : Nat → Nat} {T : Nat} (h : ¬ hall N T) : hb N T = 0 := by
  unfold hb
  exact @if_neg _ (Classical.propDecidable _) h _ _ _
theorem hb_le (N : Nat → Nat) (T : Nat) : hb N T ≤ 1 := by
  by_cases h : hall N T
  · rw [hb_1 h]; exact Nat.le_refl _
  · rw [hb_0 h]; exact Nat.zero_le _
theorem less_lt {T p : Nat} (hp : p < 8) (hb : T.testBit p = true) : T &&& (255 ^^^ 2 ^ p) < T := by
  have h1 : T &&& (255 ^^^ 2 ^ p) ≤ T := Nat.and_le_left
  rcases Nat.lt_or_ge (T &&& (255 ^^^ 2 ^ p)) T with h | h
  · exact h
  · have he : T &&& (255 ^^^ 2 ^ p) = T := by omega
    have h2 : (T &&& (255 ^^^ 2 ^ p)).testBit p = true := by rw [he]; exact hb
    rw [Nat.testBit_and, Nat.testBit_xor, Nat.testBit_two_pow, bit255 hp, decide_eq_true rfl, Bool.and_eq_true] at h2
    exact absurd h2.2 (by decide)
theorem less_bit {T p i : Nat} (hT : T < 256) : (T &&& (255 ^^^ 2 ^ p)).testBit i = true ↔ T.testBit i = true ∧ i ≠ p := by
  rw [Nat.testBit_and, Nat.testBit_xor, Nat.testBit_two_pow, Bool.and_eq_true]
  by_cases hi : i < 8
  · rw [bit255 hi]
    by_cases hp : p = i
    · subst hp; simp
    · have : i ≠ p := fun z => hp z.symm
      simp [hp, this]
  · have h0 : T.testBit i = false := Nat.testBit_lt_two_pow (Nat.lt_of_lt_of_le hT (Nat.le_trans (by decide : 256 ≤ 2 ^ 8) (Nat.pow_le_pow_right (by decide) (by omega))))
    rw [h0]; simp
theorem hall_rec {N : Nat → Nat} {T : Nat} (hT : T < 256) : hall N T ↔ (∀ p, p < 8 → T.testBit p = true → hall N (T &&& (255 ^^^ 2 ^ p))) ∧ pcnt T ≤ pcnt (un N T 8) := by
  constructor
  · intro h
    exact ⟨fun p _ _ => hall_sub h (fun i hi => ((less_bit hT).mp hi).1), h T (fun i hi => hi)⟩
  · rintro ⟨h1, h2⟩ U hU
    by_cases hUT : U = T
    · rw [hUT]; exact h2
    · have : ∃ p, T.testBit p = true ∧ U.testBit p = false := by
        apply Classical.byContradiction
        intro hn
        apply hUT
        apply Nat.eq_of_testBit_eq
        intro i
        cases hc : T.testBit i
        · cases hu : U.testBit i
          · rfl
          · rw [hU i hu] at hc; cases hc
        · cases hu : U.testBit i
          · exact absurd ⟨i, hc, hu⟩ hn
          · rfl
      obtain ⟨p, p1, p2⟩ := this
      have hp8 : p < 8 := by
        rcases Nat.lt_or_ge p 8 with h | h
        · exact h
        · rw [Nat.testBit_lt_two_pow (Nat.lt_of_lt_of_le hT (Nat.le_trans (by decide : 256 ≤ 2 ^ 8) (Nat.pow_le_pow_right (by decide) h)))] at p1
          cases p1
      refine h1 p hp8 p1 U (fun i hi => (less_bit hT).mpr ⟨hU i hi, fun z => ?_⟩)
      rw [← z, hi] at p2; cases p2
def gb (N : Nat → Nat) (g : Nat → Nat) : Nat → Nat
  | 0 => 0
  | k + 1 => if g (k + 1) = 1 ∧ pcnt (gb N g k) < pcnt (k + 1) then k + 1 else gb N g k
theorem gb_le (N g : Nat → Nat) : ∀ k, gb N g k ≤ k
  | 0 => Nat.le_refl _
  | k + 1 => by
    show (if g (k + 1) = 1 ∧ pcnt (gb N g k) < pcnt (k + 1) then k + 1 else gb N g k) ≤ k + 1
    have := gb_le N g k
    split <;> omega
theorem gb_more {N g : Nat → Nat} {c : Nat} : ∀ {k : Nat}, c ≤ k → (∀ T, c < T → T ≤ k → g T = 0) → gb N g k = gb N g c
  | 0, h, _ => by
    have : c = 0 := by omega
    rw [this]
  | k + 1, h, hz => by
    by_cases hc : c = k + 1
    · rw [hc]
    · show (if g (k + 1) = 1 ∧ pcnt (gb N g k) < pcnt (k + 1) then k + 1 else gb N g k) = _
      rw [hz (k + 1) (by omega) (by omega), if_neg (fun z => absurd z.1 (by decide))]
      exact gb_more (by omega) (fun T h1 h2 => hz T h1 (by omega))
def nea (n e : Nat) (hp hm : Nat → Nat) (S : Nat → Nat → Nat) (p : Nat) : Nat := if p < n ∧ S 3 p = 1 then msk n (fun r => canA n e hp hm S r (S 6 p - 1)) else 0
section
variable {X X' X1 : Nat → Obj} {n h L e t : Nat} {hp hm : Nat → Nat} {sr : Nat → Bool} {q m m' m0 m1 sc mt : Obj} {S S' : Nat → Nat → Nat} {T : Nat} {N : Nat → Nat}
theorem nea_lt (hn : n ≤ 8) (p : Nat) : nea n e hp hm S p < 256 := by
  unfold nea
  split
  · exact msk_256 _ hn
  · omega
theorem nea_n {p r : Nat} (h : (nea n e hp hm S p).testBit r = true) : r < n := by
  unfold nea at h
  split at h
  · rw [msk_bit, Bool.and_eq_true] at h
    exact of_decide_eq_true h.1
  · rw [Nat.zero_testBit] at h; cases h
theorem sc_near (hB : sQB n h L e t hp hm) (hC : sQC n h L e t hp hm sr q) (hV : sSV n h L hp S) (hS : sSC n S sc) {p : Nat} (hp8 : p < 8) : fSc_thoseWhoCouldAnswer q sc (nI p) = some (nI (nea n e hp hm S p)) := by
  have u1 : ¬ nI 1 = nI 0 := by decide +kernel
  unfold nea
  by_cases hpn : p < n
  · obtain ⟨⟨v3, v4, v5, v6, v7, v8, v9, v10⟩, ⟨x1, x2, x3⟩, x4⟩ := hV.2.2.1 p hpn
    by_cases h3 : S 3 p = 1
    · rw [if_pos ⟨hpn, h3⟩]
      exact sc_could hB hC hV hS hpn h3 (by omega)
    · rw [if_neg (fun z => h3 z.2)]
      have r3 := (hS.2.2 p hpn).1
      unfold fSc_thoseWhoCouldAnswer
      simp only [lit]
      rw [qu_hasP hB hC hpn, Option.bind_some, if_neg u1, ix_nI (by omega) (by omega), Option.bind_some, r3, if_neg (by rw [neq (by omega) (by omega)]; exact h3)]
  · rw [if_neg (fun z => hpn z.1)]
    have b1 := hB.1
    unfold fSc_thoseWhoCouldAnswer
    simp only [lit]
    rw [qu_hasP0 hB hC (fun r hr => by rw [neq (by omega) (by omega)]; omega), Option.bind_some, if_pos rfl]
theorem mt_step {T u p : Nat} (hT : T < 256) (hp8 : p < 8) (h2 : mt.1 2 p = nI (N p)) : fMt_canBeOpen_L4 mt (nI T) (nI u, nI p) = if T.testBit p then (if mt.1 1 (T &&& (255 ^^^ 2 ^ p)) = nI 0 then some (.inr (.inr (nI 0))) else some (.inl (nI (u ||| N p), nI (p + 1)))) else some (.inl (nI u, nI (p + 1))) := by
  have q1 : ¬ (8 : Int32) ≤ nI p := by
    show ¬ nI 8 ≤ nI p
    rw [nle (by omega) (by omega)]; omega
  have hbt := hasBit_n (a := T) (p := p) (by omega) (by omega)
  have hl := and_256 (b := 255 ^^^ 2 ^ p) hT
  have e1 : nI T &&& (shl (1 : Int32) (nI p) ^^^ (-1 : Int32)) = nI (T &&& (255 ^^^ 2 ^ p)) := by rw [shm (by omega)]; exact andm hT
  have q2 : ¬ nI (T &&& (255 ^^^ 2 ^ p)) < (0 : Int32) := nI_lt0 (by omega)
  have q3 : ¬ (256 : Int32) ≤ nI (T &&& (255 ^^^ 2 ^ p)) := by
    show ¬ nI 256 ≤ nI _
    rw [nle (by omega) (by omega)]; omega
  have i1 : ix 256 (nI (T &&& (255 ^^^ 2 ^ p))) = some (T &&& (255 ^^^ 2 ^ p)) := ix_nI (by omega) (by omega)
  have i2 : ix 8 (nI p) = some p := ix_nI (by omega) (by omega)
  show ((if (8 : Int32) ≤ nI p then some (.inr (.inl (nI u))) else (fKL_hasBit (nI T) (nI p)).bind fun r1 => if r1 = (0 : Int32) then some (.inl (nI u, nI p + (1 : Int32))) else if nI T &&& (shl (1 : Int32) (nI p) ^^^ (-1 : Int32)) < (0 : Int32) then some (.inr (.inr (0 : Int32))) else if (256 : Int32) ≤ nI T &&& (shl (1 : Int32) (nI p) ^^^ (-1 : Int32)) then some (.inr (.inr (0 : Int32))) else (ix 256 (nI T &&& (shl (1 : Int32) (nI p) ^^^ (-1 : Int32)))).bind fun i3 => if mt.1 1 i3 = (0 : Int32) then some (.inr (.inr (0 : Int32))) else (ix 8 (nI p)).bind fun i4 => some (.inl (nI u ||| mt.1 2 i4, nI p + (1 : Int32)))) : Option ((Int32 × Int32) ⊕ (Int32 ⊕ Int32))) = _
  rw [if_neg q1, hbt, Option.bind_some, e1, nsc]
  cases T.testBit p
  · rw [if_pos (show nI (if false = true then 1 else 0) = (0 : Int32) from rfl), if_neg (by decide)]
  · rw [if_neg (show ¬ nI (if true = true then 1 else 0) = (0 : Int32) by decide +kernel), if_pos rfl, if_neg q2, if_neg q3, i1, Option.bind_some, i2, Option.bind_some, h2, nx_or]
    rfl
theorem mt_open {T : Nat} (hT : T < 256) (h2 : ∀ p, p < 8 → mt.1 2 p = nI (N p)) (hN : ∀ p, N p < 256) (h1 : ∀ U, U < T → mt.1 1 U = nI (hb N U)) : fMt_canBeOpen mt (nI T) = some (nI (hb N T)) := by
  have key := iter_I (f := fMt_canBeOpen_L4 mt (nI T)) (I := fun p a => a = (nI (un N T p), nI p) ∧ ∀ i, i < p → T.testBit i = true → hall N (T &&& (255 ^^^ 2 ^ i))) (E := fun z => (z = .inl (nI (un N T 8)) ∧ ∀ i, i < 8 → T.testBit i = true → hall N (T &&& (255 ^^^ 2 ^ i))) ∨ (z = .inr (nI 0) ∧ ¬ hall N T)) 8 (by omega) (a := (nI 0, nI 0)) ⟨rfl, fun i hi => absurd hi (by omega)⟩ (fun p a hp hz => ?_) (fun a hz => ?_)
  · obtain ⟨z, g1, g2⟩ := key
    unfold fMt_canBeOpen
    simp only [lit]
    rw [g1, Option.bind_some]
    have hu : un N T 8 < 256 := Nat.lt_pow_two_of_testBit (n := 8) _ (fun i hi => by
      cases hc : (un N T 8).testBit i
      · rfl
      · obtain ⟨p, p1, p2, p3⟩ := un_bit.mp hc
        rw [Nat.testBit_lt_two_pow (Nat.lt_of_lt_of_le (hN p) (Nat.le_trans (by decide : 256 ≤ 2 ^ 8) (Nat.pow_le_pow_right (by decide) hi)))] at p3
        cases p3)
    rcases g2 with ⟨rfl, g3⟩ | ⟨rfl, g3⟩
    · rw [Sum.elim_inl, jbc hu, Option.bind_some, jbc hT, Option.bind_some]
      have l1 := pcnt_le hu
      have l2 := pcnt_le hT
      by_cases hc : pcnt (un N T 8) < pcnt T
      · rw [if_pos (by rw [nlt (by omega) (by omega)]; exact hc), hb_0 (fun z => ?_)]
        have := ((hall_rec hT).mp z).2
        omega
      · rw [if_neg (by rw [nlt (by omega) (by omega)]; exact hc), hb_1 ((hall_rec hT).mpr ⟨g3, by omega⟩)]
    · rw [Sum.elim_inr, hb_0 g3]
  · obtain ⟨rfl, hall'⟩ := hz
    rw [mt_step hT hp (h2 p hp)]
    cases hbb : T.testBit p
    · left
      refine ⟨_, rfl, ?_, fun i hi hb => ?_⟩
      · show _ = (nI (un N T p ||| (if T.testBit p then N p else 0)), nI (p + 1))
        rw [hbb, if_neg (by decide), Nat.or_zero]
      · by_cases hip : i = p
        · subst hip; rw [hbb] at hb; cases hb
        · exact hall' i (by omega) hb
    · rw [if_pos rfl, h1 _ (less_lt hp hbb)]
      by_cases hh : hall N (T &&& (255 ^^^ 2 ^ p))
      · left
        rw [hb_1 hh, if_neg (by decide +kernel)]
        refine ⟨_, rfl, ?_, fun i hi hb => ?_⟩
        · show _ = (nI (un N T p ||| (if T.testBit p then N p else 0)), nI (p + 1))
          rw [hbb]; rfl
        · by_cases hip : i = p
          · subst hip; exact hh
          · exact hall' i (by omega) hb
      · right
        rw [hb_0 hh, if_pos rfl]
        exact ⟨_, rfl, Or.inr ⟨rfl, fun z => hh (((hall_rec hT).mp z).1 p hp hbb)⟩⟩
  · obtain ⟨rfl, hall'⟩ := hz
    refine ⟨_, ?_, Or.inl ⟨rfl, hall'⟩⟩
    unfold fMt_canBeOpen_L4
    simp only [lit]
    rw [if_pos (by rw [nle (by omega) (by omega)]; omega)]
end
