/-! numbers -/
theorem lit (k : Nat) : (OfNat.ofNat k : Int32) = nI (OfNat.ofNat k) := by cases k <;> rfl
theorem nx_and (a b : Nat) : nI a &&& nI b = nI (a &&& b) := by
  apply Int32.toBitVec_inj.1
  show BitVec.ofNat 32 a &&& BitVec.ofNat 32 b = BitVec.ofNat 32 (a &&& b)
  apply BitVec.eq_of_getLsbD_eq
  intro i hi
  simp [hi]
theorem nx_or (a b : Nat) : nI a ||| nI b = nI (a ||| b) := by
  apply Int32.toBitVec_inj.1
  show BitVec.ofNat 32 a ||| BitVec.ofNat 32 b = BitVec.ofNat 32 (a ||| b)
  apply BitVec.eq_of_getLsbD_eq
  intro i hi
  simp [hi]
theorem nx_xor (a b : Nat) : nI a ^^^ nI b = nI (a ^^^ b) := by
  apply Int32.toBitVec_inj.1
  show BitVec.ofNat 32 a ^^^ BitVec.ofNat 32 b = BitVec.ofNat 32 (a ^^^ b)
  apply BitVec.eq_of_getLsbD_eq
  intro i hi
  simp [hi]
theorem sh_smod : ∀ n, n < 32 → ((nI n &&& 31).toBitVec.smod 32).toNat = n := by decide +kernel
theorem shl_1 {p : Nat} (h : p < 31) : shl (nI 1) (nI p) = nI (2 ^ p) := by
  unfold shl
  have := pk_shlN (n := 1) (nI p &&& 31) p (sh_smod p (by omega)) (by rw [Nat.one_mul]; exact Nat.pow_lt_pow_right (by decide) (by omega))
  rw [Nat.one_mul] at this
  exact this
theorem shr_n {a p : Nat} (ha : a < 2147483648) (h : p < 32) : shr (nI a) (nI p) = nI (a / 2 ^ p) := pk_shrN ha (nI p &&& 31) p (sh_smod p h)
theorem bit_n {a p : Nat} (ha : a < 2147483648) (h : p < 32) : shr (nI a) (nI p) &&& nI 1 = nI (if a.testBit p then 1 else 0) := by
  rw [shr_n ha h, nx_and, Nat.and_one_is_mod]
  congr 1
  rw [Nat.testBit_eq_decide_div_mod_eq]
  by_cases hb : a / 2 ^ p % 2 = 1
  · rw [hb]; rfl
  · rw [if_neg (by simpa using hb)]
    omega
theorem nI_ne_m1 {a : Nat} (h : a < 2147483648) : ¬ nI a = -1 := by
  intro e
  have h1 := congrArg Int32.toInt e
  rw [nI_toInt h] at h1
  have h2 : (-1 : Int32).toInt = -1 := by decide +kernel
  omega
theorem nI_ne_m1' {a : Nat} (h : a < 2147483648) : ¬ nI a = -nI 1 := nI_ne_m1 h
theorem nI_lt0 {a : Nat} (h : a < 2147483648) : ¬ nI a < nI 0 := by
  rw [nI_ltI h (by decide)]
  omega
theorem ix_nI {n k : Nat} (h : k < n) (hn : n ≤ 2147483648) : ix n (nI k) = some k := by
  unfold ix
  rw [nI_clamp (by omega), if_neg]
  rintro (h1 | h1)
  · exact nI_lt0 (a := k) (by omega) h1
  · omega
theorem ix_some {n k : Nat} {v : Int32} (hn : n ≤ 2147483648) (h : ix n v = some k) : v = nI k ∧ k < n := by
  unfold ix at h
  by_cases hv : v < 0 ∨ n ≤ v.toNatClampNeg
  · rw [if_pos hv] at h; cases h
  · rw [if_neg hv] at h
    have hk : v.toNatClampNeg = k := Option.some.inj h
    have h0 : ¬ v < 0 := fun z => hv (Or.inl z)
    obtain ⟨j, hj, rfl⟩ := nI_of h0
    rw [nI_clamp hj] at hk
    subst hk
    exact ⟨rfl, by rw [nI_clamp hj] at hv; omega⟩
theorem nI_cases (v : Int32) : (∃ k, k < 2147483648 ∧ v = nI k) ∨ (v < nI 0 ∧ ∀ k, k < 2147483648 → ¬ v = nI k) := by
  by_cases h : v < 0
  · exact Or.inr ⟨h, fun k hk e => by rw [e] at h; exact nI_lt0 hk h⟩
  · exact Or.inl (nI_of h)
/-! objects -/
theorem sI_1 (x : Obj) (j i j' i' : Nat) (v : Int32) : (sI x j i v).1 j' i' = if j' = j ∧ i' = i then v else x.1 j' i' := by
  show va_up x.1 j (va_up (x.1 j) i v) j' i' = _
  by_cases h : j' = j
  · subst h
    rw [va_up_self]
    by_cases h2 : i' = i
    · subst h2; rw [va_up_self, if_pos ⟨rfl, rfl⟩]
    · rw [va_up_ne _ _ h2, if_neg (fun z => h2 z.2)]
  · rw [va_up_ne _ _ h, if_neg (fun z => h z.1)]
theorem sI_2 (x : Obj) (j i : Nat) (v : Int32) : (sI x j i v).2 = x.2 := rfl
theorem sL_1 (x : Obj) (j i : Nat) (v : Int64) : (sL x j i v).1 = x.1 := rfl
theorem sL_2 (x : Obj) (j i j' i' : Nat) (v : Int64) : (sL x j i v).2 j' i' = if j' = j ∧ i' = i then v else x.2 j' i' := by
  show va_up x.2 j (va_up (x.2 j) i v) j' i' = _
  by_cases h : j' = j
  · subst h
    rw [va_up_self]
    by_cases h2 : i' = i
    · subst h2; rw [va_up_self, if_pos ⟨rfl, rfl⟩]
    · rw [va_up_ne _ _ h2, if_neg (fun z => h2 z.2)]
  · rw [va_up_ne _ _ h, if_neg (fun z => h z.1)]
theorem sA_1 (x : Obj) (j j' : Nat) (f : Nat → Int32) (i : Nat) : (sA x j f).1 j' i = if j' = j then f i else x.1 j' i := by
  show va_up x.1 j f j' i = _
  by_cases h : j' = j
  · subst h; rw [va_up_self, if_pos rfl]
  · rw [va_up_ne _ _ h, if_neg h]
theorem sA_2 (x : Obj) (j : Nat) (f : Nat → Int32) : (sA x j f).2 = x.2 := rfl
theorem sAL_1 (x : Obj) (j : Nat) (f : Nat → Int64) : (sAL x j f).1 = x.1 := rfl
theorem sAL_2 (x : Obj) (j j' : Nat) (f : Nat → Int64) (i : Nat) : (sAL x j f).2 j' i = if j' = j then f i else x.2 j' i := by
  show va_up x.2 j f j' i = _
  by_cases h : j' = j
  · subst h; rw [va_up_self, if_pos rfl]
  · rw [va_up_ne _ _ h, if_neg h]
theorem va_up_at {α : Type} (f : Nat → α) (k : Nat) (v : α) (j : Nat) : va_up f k v j = if j = k then v else f j := rfl
/-! loops -/
theorem iter_s {α β : Type} (f : α → Option (α ⊕ β)) (n : Nat) (a : α) : iter f (n + 1) a = (f a).bind (Sum.elim (iter f n) some) := rfl
/-- a loop of at most N rounds, seen from the invariant I; E holds where it ends -/
theorem iter_r {α β : Type} {f : α → Option (α ⊕ β)} (I : Nat → α → Prop) (E : β → Prop) (N : Nat)
    (hs : ∀ k a, k < N → I k a → (∃ b, f a = some (.inl b) ∧ I (k + 1) b) ∨ (∃ e, f a = some (.inr e) ∧ E e))
    (he : ∀ a, I N a → ∃ e, f a = some (.inr e) ∧ E e) : ∀ j k a, k + j = N → I k a → ∀ n, j < n → ∃ e, iter f n a = some e ∧ E e := by
  intro j
  induction j with
  | zero =>
    intro k a hk hI n hn
    have hkN : k = N := by omega
    subst hkN
    obtain ⟨e, h1, h2⟩ := he a hI
    cases n with
    | zero => omega
    | succ n => exact ⟨e, by rw [iter_s, h1]; rfl, h2⟩
  | succ j ih =>
    intro k a hk hI n hn
    cases n with
    | zero => omega
    | succ n =>
      rcases hs k a (by omega) hI with ⟨b, h1, h2⟩ | ⟨e, h1, h2⟩
      · obtain ⟨e, h3, h4⟩ := ih (k + 1) b (by omega) h2 n (by omega)
        exact ⟨e, by rw [iter_s, h1]; exact h3, h4⟩
      · exact ⟨e, by rw [iter_s, h1]; rfl, h2⟩
theorem iter_I {α β : Type} {f : α → Option (α ⊕ β)} (I : Nat → α → Prop) (E : β → Prop) (N : Nat) (hN : N < 2000) {a : α} (h0 : I 0 a)
    (hs : ∀ k a, k < N → I k a → (∃ b, f a = some (.inl b) ∧ I (k + 1) b) ∨ (∃ e, f a = some (.inr e) ∧ E e))
    (he : ∀ a, I N a → ∃ e, f a = some (.inr e) ∧ E e) : ∃ e, iter f FU a = some e ∧ E e :=
  iter_r I E N hs he N 0 a (by omega) h0 FU (Nat.lt_of_lt_of_le hN FU_ge)
/-- two loops side by side -/
theorem iter2_r {α β α' β' : Type} {f : α → Option (α ⊕ β)} {g : α' → Option (α' ⊕ β')} (I : Nat → α → α' → Prop) (E : β → β' → Prop) (N : Nat)
    (hs : ∀ k a a', k < N → I k a a' → (∃ b b', f a = some (.inl b) ∧ g a' = some (.inl b') ∧ I (k + 1) b b') ∨ (∃ e e', f a = some (.inr e) ∧ g a' = some (.inr e') ∧ E e e'))
    (he : ∀ a a', I N a a' → ∃ e e', f a = some (.inr e) ∧ g a' = some (.inr e') ∧ E e e') : ∀ j k a a', k + j = N → I k a a' → ∀ n, j < n → ∃ e e', iter f n a = some e ∧ iter g n a' = some e' ∧ E e e' := by
  intro j
  induction j with
  | zero =>
    intro k a a' hk hI n hn
    have hkN : k = N := by omega
    subst hkN
    obtain ⟨e, e', h1, h2, h3⟩ := he a a' hI
    cases n with
    | zero => omega
    | succ n => exact ⟨e, e', by rw [iter_s, h1]; rfl, by rw [iter_s, h2]; rfl, h3⟩
  | succ j ih =>
    intro k a a' hk hI n hn
    cases n with
    | zero => omega
    | succ n =>
      rcases hs k a a' (by omega) hI with ⟨b, b', h1, h2, h3⟩ | ⟨e, e', h1, h2, h3⟩
      · obtain ⟨e, e', h4, h5, h6⟩ := ih (k + 1) b b' (by omega) h3 n (by omega)
        exact ⟨e, e', by rw [iter_s, h1]; exact h4, by rw [iter_s, h2]; exact h5, h6⟩
      · exact ⟨e, e', by rw [iter_s, h1]; rfl, by rw [iter_s, h2]; rfl, h3⟩
theorem iter2 {α β α' β' : Type} {f : α → Option (α ⊕ β)} {g : α' → Option (α' ⊕ β')} (I : Nat → α → α' → Prop) (E : β → β' → Prop) (N : Nat) (hN : N < 2000) {a : α} {a' : α'} (h0 : I 0 a a')
    (hs : ∀ k a a', k < N → I k a a' → (∃ b b', f a = some (.inl b) ∧ g a' = some (.inl b') ∧ I (k + 1) b b') ∨ (∃ e e', f a = some (.inr e) ∧ g a' = some (.inr e') ∧ E e e'))
    (he : ∀ a a', I N a a' → ∃ e e', f a = some (.inr e) ∧ g a' = some (.inr e') ∧ E e e') : ∃ e e', iter f FU a = some e ∧ iter g FU a' = some e' ∧ E e e' :=
  iter2_r I E N hs he N 0 a a' (by omega) h0 FU (Nat.lt_of_lt_of_le hN FU_ge)
/-- a loop that runs through N rounds, its state by F -/
theorem iter_F {α β : Type} {f : α → Option (α ⊕ β)} (F : Nat → α) (e : β) (N : Nat) (hN : N < 2000) (hs : ∀ k, k < N → f (F k) = some (.inl (F (k + 1)))) (he : f (F N) = some (.inr e)) : iter f FU (F 0) = some e := by
  obtain ⟨e', h1, h2⟩ := iter_I (I := fun k a => a = F k) (E := fun z => z = e) N hN (a := F 0) rfl (fun k a hk ha => Or.inl ⟨F (k + 1), by rw [ha]; exact hs k hk, rfl⟩) (fun a ha => ⟨e, by rw [ha]; exact he, rfl⟩)
  rw [h1, h2]
/-! sets as bits -/
def msk : Nat → (Nat → Bool) → Nat
  | 0, _ => 0
  | n + 1, P => msk n P ||| (if P n then 2 ^ n else 0)
theorem msk_lt (P : Nat → Bool) : ∀ n, msk n P < 2 ^ n
  | 0 => Nat.zero_lt_one
  | n + 1 => by
    show (msk n P ||| (if P n then 2 ^ n else 0)) < 2 ^ (n + 1)
    have h := msk_lt P n
    have h2 : 2 ^ n < 2 ^ (n + 1) := Nat.pow_lt_pow_right (by decide) (by omega)
    refine Nat.or_lt_two_pow (by omega) ?_
    split
    · exact h2
    · exact Nat.two_pow_pos _
theorem msk_bit (P : Nat → Bool) : ∀ n p, (msk n P).testBit p = (decide (p < n) && P p)
  | 0, p => by simp [msk]
  | n + 1, p => by
    show (msk n P ||| (if P n then 2 ^ n else 0)).testBit p = _
    rw [Nat.testBit_or, msk_bit P n p]
    by_cases hp : p = n
    · subst hp
      cases hP : P p <;> simp
    · have h1 : (if P n = true then 2 ^ n else 0).testBit p = false := by
        split
        · rw [Nat.testBit_two_pow]
          simp [Ne.symm hp]
        · simp
      rw [h1, Bool.or_false]
      congr 1
      simp
      omega
theorem msk_congr {P Q : Nat → Bool} {n : Nat} (h : ∀ p, p < n → P p = Q p) : msk n P = msk n Q := by
  apply Nat.eq_of_testBit_eq
  intro i
  rw [msk_bit, msk_bit]
  by_cases hi : i < n
  · rw [h i hi]
  · simp [hi]
theorem msk_small (P : Nat → Bool) {n : Nat} (h : n ≤ 30) : msk n P < 2147483648 := Nat.lt_of_lt_of_le (msk_lt P n) (Nat.le_trans (Nat.pow_le_pow_right (by decide) h) (by decide))
/-- a loop that gathers bits -/
theorem msk_loop {f : Int32 × Int32 → Option ((Int32 × Int32) ⊕ Int32)} (n : Nat) (hn : n < 2000) (P : Nat → Bool) (hs : ∀ p, p < n → f (nI (msk p P), nI p) = some (.inl (nI (msk p P ||| (if P p then 2 ^ p else 0)), nI (p + 1)))) (he : f (nI (msk n P), nI n) = some (.inr (nI (msk n P)))) : iter f FU (nI 0, nI 0) = some (nI (msk n P)) :=
  iter_F (F := fun k => (nI (msk k P), nI k)) (nI (msk n P)) n hn hs he
theorem or_ite {a : Nat} {c : Prop} [Decidable c] {b : Nat} : (if c then nI (a ||| b) else nI a) = nI (a ||| (if c then b else 0)) := by
  by_cases h : c
  · rw [if_pos h, if_pos h]
  · rw [if_neg h, if_neg h, Nat.or_zero]
