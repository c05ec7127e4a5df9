theorem iter_mono {α β : Type} {f : α → Option (α ⊕ β)} {e : β} : ∀ (n : Nat) {n' : Nat} {a : α}, n ≤ n' → iter f n a = some e → iter f n' a = some e
  | 0, _, _, _, h => by cases h
  | n + 1, 0, _, hn, _ => by omega
  | n + 1, n' + 1, a, hn, h => by
    rw [iter_s] at h ⊢
    cases hf : f a with
    | none => rw [hf] at h; cases h
    | some x =>
      rw [hf] at h
      cases x with
      | inl b => exact iter_mono n (by omega) h
      | inr b => exact h
theorem iter_FU {α β : Type} {f : α → Option (α ⊕ β)} {e : β} {n : Nat} {a : α} (h : iter f n a = some e) (hn : n ≤ 2000) : iter f FU a = some e := iter_mono n (Nat.le_trans hn FU_ge) h
def fi (P : Nat → Bool) : Nat → Option Nat
  | 0 => none
  | c + 1 => match fi P c with
    | some k => some k
    | none => if P c then some c else none
theorem fi_none {P : Nat → Bool} : ∀ {c : Nat}, (∀ k, k < c → P k = false) → fi P c = none
  | 0, _ => rfl
  | c + 1, h => by
    unfold fi
    rw [fi_none (fun k hk => h k (by omega)), h c (by omega)]
    rfl
theorem fi_some {P : Nat → Bool} {k : Nat} (hk : P k = true) (hl : ∀ j, j < k → P j = false) : ∀ {c : Nat}, k < c → fi P c = some k
  | 0, h => by omega
  | c + 1, h => by
    unfold fi
    by_cases hc : k < c
    · rw [fi_some hk hl hc]
    · have : k = c := by omega
      subst this
      rw [fi_none hl, hk]
      rfl
theorem fi_cases (P : Nat → Bool) : ∀ c, (fi P c = none ∧ ∀ k, k < c → P k = false) ∨ ∃ k, k < c ∧ P k = true ∧ (∀ j, j < k → P j = false) ∧ fi P c = some k
  | 0 => Or.inl ⟨rfl, fun k hk => by omega⟩
  | c + 1 => by
    rcases fi_cases P c with ⟨h1, h2⟩ | ⟨k, h1, h2, h3, h4⟩
    · cases hP : P c
      · refine Or.inl ⟨fi_none (fun k hk => ?_), fun k hk => ?_⟩ <;>
        · by_cases hkc : k = c
          · subst hkc; exact hP
          · exact h2 k (by omega)
      · exact Or.inr ⟨c, by omega, hP, h2, fi_some hP h2 (by omega)⟩
    · exact Or.inr ⟨k, by omega, h2, h3, fi_some h2 h3 (by omega)⟩
theorem fi_congr {P Q : Nat → Bool} {c : Nat} (h : ∀ k, k < c → P k = Q k) : fi P c = fi Q c := by
  rcases fi_cases P c with ⟨h1, h2⟩ | ⟨k, h1, h2, h3, h4⟩
  · rw [h1, fi_none (fun k hk => by rw [← h k hk]; exact h2 k hk)]
  · rw [h4, fi_some (by rw [← h k h1]; exact h2) (fun j hj => by rw [← h j (by omega)]; exact h3 j hj) h1]
/-- a search from 0 on -/
theorem find_loop {f : Int32 → Option (Int32 ⊕ (Unit ⊕ Int32))} (c : Nat) (hc : c < 2000) (P : Nat → Bool) (hs : ∀ k, k < c → P k = false → f (nI k) = some (.inl (nI (k + 1)))) (hf : ∀ k, k < c → P k = true → f (nI k) = some (.inr (.inr (nI k)))) (he : f (nI c) = some (.inr (.inl ()))) :
    iter f FU (nI 0) = some (match fi P c with | none => .inl () | some k => .inr (nI k)) := by
  obtain ⟨z, h1, h2⟩ := iter_I (f := f) (I := fun k a => a = nI k ∧ ∀ j, j < k → P j = false) (E := fun z => z = (match fi P c with | none => .inl () | some k => .inr (nI k))) c hc (a := nI 0) ⟨rfl, fun j hj => by omega⟩
    (fun k a hk ⟨ha, hl⟩ => by
      subst ha
      cases hP : P k
      · exact Or.inl ⟨nI (k + 1), hs k hk hP, rfl, fun j hj => by
          by_cases hjk : j = k
          · subst hjk; exact hP
          · exact hl j (by omega)⟩
      · exact Or.inr ⟨_, hf k hk hP, by rw [fi_some hP hl hk]⟩)
    (fun a ⟨ha, hl⟩ => by
      subst ha
      exact ⟨_, he, by rw [fi_none hl]⟩)
  rw [h1, h2]
theorem hasBit_n {a p : Nat} (ha : a < 2147483648) (h : p < 32) : fKL_hasBit (nI a) (nI p) = some (nI (if a.testBit p then 1 else 0)) := by
  unfold fKL_hasBit
  simp only [lit]
  rw [bit_n ha h]
  cases a.testBit p
  · rfl
  · rfl
theorem bitOf_n {a p : Nat} (ha : a < 2147483648) (h : p < 32) : fMo_bitOf (nI a) (nI p) = some (nI (if a.testBit p then 1 else 0)) := by
  unfold fMo_bitOf
  simp only [lit]
  rw [bit_n ha h]
  cases a.testBit p
  · rfl
  · rfl
def pcnt (a : Nat) : Nat := sm 8 (fun i => if a.testBit i then 1 else 0)
theorem bc_all : ∀ a, a < 256 → fJI_bitCount (nI a) = some (nI (pcnt a)) ∧ iter fMo_bits_L4 9 (nI 0, nI a) = some (nI (pcnt a)) ∧ pcnt a ≤ 8 := by decide +kernel
theorem jbc {a : Nat} (h : a < 256) : fJI_bitCount (nI a) = some (nI (pcnt a)) := (bc_all a h).1
theorem mbc {a : Nat} (h : a < 256) : fMo_bits (nI a) = some (nI (pcnt a)) := by
  unfold fMo_bits
  simp only [lit]
  rw [iter_FU (bc_all a h).2.1 (by decide)]
  rfl
theorem pcnt_le {a : Nat} (h : a < 256) : pcnt a ≤ 8 := (bc_all a h).2.2
section
variable {n h L e t : Nat} {hp hm : Nat → Nat} {sr : Nat → Bool} {q m sc : Obj} {S : Nat → Nat → Nat}
theorem sc_how (hB : sQB n h L e t hp hm) (hC : sQC n h L e t hp hm sr q) (hV : sSV n h L hp S) (hS : sSC n S sc) {p : Nat} (hpn : p < n) : fSc_isInLane q sc (nI p) = some (nI (if S 3 p = 0 then 1 else 0)) ∧ fSc_isKnocking q sc (nI p) = some (nI (if S 3 p = 1 then 1 else 0)) ∧ fSc_isInside q sc (nI p) = some (nI (if S 3 p = 2 then 1 else 0)) := by
  have hH := qu_hasP hB hC hpn
  have b1 := hB.1
  obtain ⟨r3, r4, r5, r6, r7, r8, r9, r10⟩ := hS.2.2 p hpn
  have v3 := (hV.2.2.1 p hpn).1.1
  unfold fSc_isInLane fSc_isKnocking fSc_isInside
  simp (disch := omega) only [hH, r3, Option.bind_some, bnd, Sum.elim_inl, Sum.elim_inr, lit, nle, nlt, neq, nadd, nsub, nx_or, nx_and, shl_1, ix_nI]
  refine ⟨?_, ?_, ?_⟩ <;> (rw [if_neg (by omega)]; split <;> rfl)
theorem sc_how0 (hB : sQB n h L e t hp hm) (hC : sQC n h L e t hp hm sr q) {v : Int32} (hv : ∀ p, p < n → ¬ v = nI p) : fSc_isInLane q sc v = some (nI 0) ∧ fSc_isKnocking q sc v = some (nI 0) ∧ fSc_isInside q sc v = some (nI 0) := by
  have hH := qu_hasP0 hB hC hv
  unfold fSc_isInLane fSc_isKnocking fSc_isInside
  simp only [hH, lit, Option.bind_some, if_true, and_self]
theorem sc_knows (hB : sQB n h L e t hp hm) (hC : sQC n h L e t hp hm sr q) (hV : sSV n h L hp S) (hS : sSC n S sc) {p r : Nat} (hpn : p < n) (hrn : r < n) : fSc_doesKnow q sc (nI p) (nI r) = some (nI (if (S 8 p).testBit r then 1 else 0)) := by
  have hH := qu_hasP hB hC hpn
  have hH2 := qu_hasP hB hC hrn
  have b1 := hB.1
  obtain ⟨r3, r4, r5, r6, r7, r8, r9, r10⟩ := hS.2.2 p hpn
  have v8 := (hV.2.2.1 p hpn).1.2.2.2.2.2.1
  have hb := hasBit_n (a := S 8 p) (p := r) (by omega) (by omega)
  unfold fSc_doesKnow
  simp (disch := omega) only [hH, hH2, r8, hb, Option.bind_some, bnd, Sum.elim_inl, Sum.elim_inr, lit, nle, nlt, neq, nadd, nsub, nx_or, nx_and, shl_1, ix_nI]
  rw [if_neg (by omega), if_neg (by omega)]
  cases (S 8 p).testBit r
  · rfl
  · rfl
theorem sc_knownTo (hB : sQB n h L e t hp hm) (hC : sQC n h L e t hp hm sr q) (hS : sSC n S sc) {p : Nat} (hpn : p < n) : fSc_knownTo q sc (nI p) = some (nI (S 8 p)) := by
  have hH := qu_hasP hB hC hpn
  have b1 := hB.1
  obtain ⟨r3, r4, r5, r6, r7, r8, r9, r10⟩ := hS.2.2 p hpn
  unfold fSc_knownTo
  simp (disch := omega) only [hH, r8, Option.bind_some, bnd, Sum.elim_inl, Sum.elim_inr, lit, nle, nlt, neq, nadd, nsub, nx_or, nx_and, shl_1, ix_nI]
  rw [if_neg (by omega)]
def cmk (S : Nat → Nat → Nat) (p : Nat) : Nat → Nat
  | 0 => 0
  | k + 1 => cmk S p k ||| (if S 1 k = p then 2 ^ S 2 k else 0)
theorem sc_calls (hV : sSV n h L hp S) (h6 : h ≤ 6) (h8 : n ≤ 8) (hS : sSC n S sc) {p : Nat} (hpn : p < n) : fSc_housesToCallAt sc (nI p) = some (nI (cmk S p (S 0 3))) := by
  obtain ⟨⟨s1, s2, s3⟩, sk, -⟩ := hS
  have hc := hV.1.2
  unfold fSc_housesToCallAt
  have key := iter_F (f := fSc_housesToCallAt_L4 sc (nI p)) (F := fun k => (nI (cmk S p k), nI k)) (nI (cmk S p (S 0 3))) (S 0 3) (by omega) (fun k hk => ?_) ?_
  · simp only [lit]
    have key2 : iter (fSc_housesToCallAt_L4 sc (nI p)) FU (nI 0, nI 0) = some (nI (cmk S p (S 0 3))) := key
    rw [key2]
    rfl
  · unfold fSc_housesToCallAt_L4
    obtain ⟨k1, k2⟩ := sk k hk
    obtain ⟨w1, w2⟩ := hV.2.1 k hk
    simp (disch := omega) only [s3, k1, k2, Option.bind_some, bnd, Sum.elim_inl, Sum.elim_inr, lit, nle, nlt, neq, nadd, nsub, nx_or, nx_and, shl_1, ix_nI]
    rw [if_neg (by omega), if_neg (by omega)]
    by_cases hcp : S 1 k = p
    · rw [if_pos hcp]; simp [cmk, hcp]
    · rw [if_neg hcp]; simp [cmk, hcp]
  · unfold fSc_housesToCallAt_L4
    simp (disch := omega) only [s3, Option.bind_some, bnd, Sum.elim_inl, Sum.elim_inr, lit, nle, nlt, neq, nadd, nsub, nx_or, nx_and, shl_1, ix_nI]
    rw [if_pos (Nat.le_refl _)]
theorem mo_callsL (hV : sSV n h L hp S) (h6 : h ≤ 6) (h8 : n ≤ 8) (hS : sSM n S (dOf m)) {p : Nat} (hpn : p < n) : iter (fMo_person_L37 m (nI p)) FU (nI 0, nI 0) = some (nI (cmk S p (S 0 3))) := by
  obtain ⟨⟨s1, -, s2, s3⟩, sk, -⟩ := sSM_live hS
  have hc := hV.1.2
  have key := iter_F (f := fMo_person_L37 m (nI p)) (F := fun k => (nI (cmk S p k), nI k)) (nI (cmk S p (S 0 3))) (S 0 3) (by omega) (fun k hk => ?_) ?_
  · exact key
  · unfold fMo_person_L37
    obtain ⟨k1, k2⟩ := sk k hk
    obtain ⟨w1, w2⟩ := hV.2.1 k hk
    simp (disch := omega) only [s3, k1, k2, Option.bind_some, bnd, Sum.elim_inl, Sum.elim_inr, lit, nle, nlt, neq, nadd, nsub, nx_or, nx_and, shl_1, ix_nI]
    rw [if_neg (by omega)]
    by_cases hcp : S 1 k = p
    · rw [if_pos hcp]; simp [cmk, hcp]
    · rw [if_neg hcp]; simp [cmk, hcp]
  · unfold fMo_person_L37
    simp (disch := omega) only [s3, Option.bind_some, bnd, Sum.elim_inl, Sum.elim_inr, lit, nle, nlt, neq, nadd, nsub, nx_or, nx_and, shl_1, ix_nI]
    rw [if_pos (Nat.le_refl _)]
theorem cmk_bit (hV : sSV n h L hp S) {p : Nat} : ∀ {c : Nat}, c ≤ S 0 3 → ∀ x, (cmk S p c).testBit x = (fi (fun k => decide (S 1 k = p ∧ S 2 k = x)) c).isSome
  | 0, _, x => by simp [cmk, fi]
  | c + 1, hc, x => by
    have ih := cmk_bit hV (p := p) (c := c) (by omega) x
    unfold cmk fi
    rw [Nat.testBit_or, ih]
    by_cases h1 : S 1 c = p
    · rw [if_pos h1, Nat.testBit_two_pow]
      cases fi (fun k => decide (S 1 k = p ∧ S 2 k = x)) c with
      | none =>
        by_cases h2 : S 2 c = x
        · simp [h1, h2]
        · simp [h1, h2]
      | some k => simp
    · rw [if_neg h1]
      cases fi (fun k => decide (S 1 k = p ∧ S 2 k = x)) c with
      | none => simp [h1]
      | some k => simp
theorem cmk_lt (hV : sSV n h L hp S) (h6 : h ≤ 6) {p : Nat} : ∀ {c : Nat}, c ≤ S 0 3 → cmk S p c < 64
  | 0, _ => by show (0 : Nat) < 64; decide
  | c + 1, hc => by
    unfold cmk
    have := (hV.2.1 c (by omega)).2
    refine Nat.or_lt_two_pow (n := 6) (cmk_lt hV h6 (by omega)) ?_
    split
    · exact Nat.pow_lt_pow_right (by decide) (by omega)
    · decide
theorem mo_callOf (hV : sSV n h L hp S) (h6 : h ≤ 6) (h8 : n ≤ 8) (hS : sSM n S (dOf m)) {p x : Nat} (hpn : p < n) (hx : x < h) : fMo_callOf m (nI p) (nI x) = some (match fi (fun k => decide (S 1 k = p ∧ S 2 k = x)) (S 0 3) with | none => -nI 1 | some k => nI k) := by
  obtain ⟨⟨s1, -, s2, s3⟩, sk, -⟩ := sSM_live hS
  have hc := hV.1.2
  unfold fMo_callOf
  have key := find_loop (f := fMo_callOf_L2 m (nI p) (nI x)) (S 0 3) (by omega) (fun k => decide (S 1 k = p ∧ S 2 k = x)) (fun k hk hP => ?_) (fun k hk hP => ?_) ?_
  · simp only [lit, key, Option.bind_some]
    cases fi (fun k => decide (S 1 k = p ∧ S 2 k = x)) (S 0 3) with
    | none => rfl
    | some k => rfl
  · unfold fMo_callOf_L2
    obtain ⟨k1, k2⟩ := sk k hk
    obtain ⟨w1, w2⟩ := hV.2.1 k hk
    have hP2 : ¬ (S 1 k = p ∧ S 2 k = x) := of_decide_eq_false hP
    simp (disch := omega) only [s3, k1, k2, Option.bind_some, bnd, Sum.elim_inl, Sum.elim_inr, lit, nle, nlt, neq, nadd, nsub, nx_or, nx_and, shl_1, ix_nI]
    rw [if_neg (by omega)]
    by_cases h1 : S 1 k = p
    · rw [if_pos h1, if_pos (Nat.zero_le _), if_neg (fun z => hP2 ⟨h1, z⟩)]
    · rw [if_neg h1]
  · unfold fMo_callOf_L2
    obtain ⟨k1, k2⟩ := sk k hk
    obtain ⟨w1, w2⟩ := hV.2.1 k hk
    have hP2 : S 1 k = p ∧ S 2 k = x := of_decide_eq_true hP
    simp (disch := omega) only [s3, k1, k2, Option.bind_some, bnd, Sum.elim_inl, Sum.elim_inr, lit, nle, nlt, neq, nadd, nsub, nx_or, nx_and, shl_1, ix_nI]
    rw [if_neg (by omega), if_pos hP2.1, if_pos (Nat.zero_le _), if_pos hP2.2]
  · unfold fMo_callOf_L2
    simp (disch := omega) only [s3, Option.bind_some, bnd, Sum.elim_inl, Sum.elim_inr, lit, nle, nlt, neq, nadd, nsub, nx_or, nx_and, shl_1, ix_nI]
    rw [if_pos (Nat.le_refl _)]
theorem sc_opened (hB : sQB n h L e t hp hm) (hC : sQC n h L e t hp hm sr q) (hS : sSC n S sc) : fSc_openedInAll q sc = some (nI (sm n (S 10))) := by
  obtain ⟨b1, b2, -⟩ := hB
  obtain ⟨⟨c0, c1, c2, c3, c4⟩, -⟩ := hC
  unfold fSc_openedInAll
  have key := iter_F (f := fSc_openedInAll_L4 q sc) (F := fun k => (nI (sm k (S 10)), nI k)) (nI (sm n (S 10))) n (by omega) (fun k hk => ?_) ?_
  · simp only [lit]
    have key2 : iter (fSc_openedInAll_L4 q sc) FU (nI 0, nI 0) = some (nI (sm n (S 10))) := key
    rw [key2]
    rfl
  · unfold fSc_openedInAll_L4
    obtain ⟨r3, r4, r5, r6, r7, r8, r9, r10⟩ := hS.2.2 k hk
    simp (disch := omega) only [c4, r10, Option.bind_some, bnd, Sum.elim_inl, Sum.elim_inr, lit, nle, nlt, neq, nadd, nsub, nx_or, nx_and, shl_1, ix_nI]
    rw [if_neg (by omega), if_neg (by omega)]
    rfl
  · unfold fSc_openedInAll_L4
    simp (disch := omega) only [c4, Option.bind_some, bnd, Sum.elim_inl, Sum.elim_inr, lit, nle, nlt, neq, nadd, nsub, nx_or, nx_and, shl_1, ix_nI]
    split
    · rfl
    · rw [if_pos (Nat.le_refl _)]
def ksum (n : Nat) (S : Nat → Nat → Nat) : Nat := sm n (fun p => pcnt (S 8 p))
theorem sc_known (hB : sQB n h L e t hp hm) (hC : sQC n h L e t hp hm sr q) (hV : sSV n h L hp S) (hS : sSC n S sc) : fSc_knownInAll q sc = some (nI (ksum n S)) := by
  obtain ⟨b1, b2, -⟩ := hB
  obtain ⟨⟨c0, c1, c2, c3, c4⟩, -⟩ := hC
  unfold fSc_knownInAll
  have key := iter_F (f := fSc_knownInAll_L4 q sc) (F := fun k => (nI (ksum k S), nI k)) (nI (ksum n S)) n (by omega) (fun k hk => ?_) ?_
  · simp only [lit]
    have key2 : iter (fSc_knownInAll_L4 q sc) FU (nI 0, nI 0) = some (nI (ksum n S)) := key
    rw [key2]
    rfl
  · unfold fSc_knownInAll_L4
    obtain ⟨r3, r4, r5, r6, r7, r8, r9, r10⟩ := hS.2.2 k hk
    have v8 := (hV.2.2.1 k hk).1.2.2.2.2.2.1
    have hj := jbc v8
    simp (disch := omega) only [c4, r8, hj, Option.bind_some, bnd, Sum.elim_inl, Sum.elim_inr, lit, nle, nlt, neq, nadd, nsub, nx_or, nx_and, shl_1, ix_nI]
    rw [if_neg (by omega), if_neg (by omega)]
    rfl
  · unfold fSc_knownInAll_L4
    simp (disch := omega) only [c4, Option.bind_some, bnd, Sum.elim_inl, Sum.elim_inr, lit, nle, nlt, neq, nadd, nsub, nx_or, nx_and, shl_1, ix_nI]
    split
    · rfl
    · rw [if_pos (Nat.le_refl _)]
theorem mo_known (hB : sQB n h L e t hp hm) (hM : sQM n h L e t hp hm sr (m.1 2)) (hV : sSV n h L hp S) (hS : sSM n S (dOf m)) : iter (fMo_mean_L36 m) FU (nI 0, nI 0) = some (nI (ksum n S)) := by
  obtain ⟨b1, b2, -⟩ := hB
  obtain ⟨⟨c0, c1, c2, c3, c4⟩, -⟩ := hM
  have key := iter_F (f := fMo_mean_L36 m) (F := fun k => (nI (ksum k S), nI k)) (nI (ksum n S)) n (by omega) (fun k hk => ?_) ?_
  · exact key
  · unfold fMo_mean_L36
    obtain ⟨r3, r4, r5, r6, r7, r8, r9, r10⟩ := (sSM_live hS).2.2 k hk
    have v8 := (hV.2.2.1 k hk).1.2.2.2.2.2.1
    have hj := mbc v8
    simp (disch := omega) only [c1, r8, hj, Option.bind_some, bnd, Sum.elim_inl, Sum.elim_inr, lit, nle, nlt, neq, nadd, nsub, nx_or, nx_and, shl_1, ix_nI]
    rw [if_neg (by omega)]
    rfl
  · unfold fMo_mean_L36
    simp (disch := omega) only [c1, Option.bind_some, bnd, Sum.elim_inl, Sum.elim_inr, lit, nle, nlt, neq, nadd, nsub, nx_or, nx_and, shl_1, ix_nI]
    rw [if_pos (Nat.le_refl _)]
end
