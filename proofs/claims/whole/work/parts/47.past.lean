theorem nmul (a b : Nat) : nI a * nI b = nI (a * b) := (Int32.ofNat_mul a b).symm
theorem irm9 : ∀ f, f < 9 → ∀ z, z < 9 → irm (nI f + nI z) (nI 9) = nI ((f + z) % 9) := by decide +kernel
def mf (m m' : Obj) : Prop := m'.2 = m.2 ∧ (∀ j, j ≠ 0 → j ≠ 2 → j ≠ 7 → j ≠ 8 → m'.1 j = m.1 j) ∧ ∀ i, i ≠ 0 → i ≠ 23 → i ≠ 34 → m'.1 0 i = m.1 0 i
def xf (X X' : Nat → Obj) : Prop := ∀ k, (k < 100 ∨ 200 < k) → k ≠ 12 → k ≠ 201 → X' k = X k
def pPastN (n h L : Nat) (hp : Nat → Nat) (X : Nat → Obj) (un : Nat → Int32) (many : Int32) (d : Nat → Int32) : Prop := ∃ f z, f < 9 ∧ z ≤ 8 ∧ (X 100).1 0 1 = nI f ∧ (X 100).1 0 2 = nI z ∧ many = nI z ∧ (∀ i, i < z → RC n h L hp (X (102 + 11 * ((f + i) % 9))) (fun j => un (92 * i + j))) ∧ RC n h L hp (X (102 + 11 * ((f + z) % 9))) d
def stoR (un : Nat → Int32) (many : Int32) (un' : Nat → Int32) (many' : Int32) (d : Nat → Int32) : Prop := ∃ z, z ≤ 8 ∧ many = nI z ∧ ((z < 8 ∧ many' = nI (z + 1) ∧ (∀ i, i < z → ∀ j, j < 92 → un' (92 * i + j) = un (92 * i + j)) ∧ ∀ j, j < 92 → un' (92 * z + j) = d j) ∨ (z = 8 ∧ many' = nI 8 ∧ (∀ i, i < 7 → ∀ j, j < 92 → un' (92 * i + j) = un (92 * (i + 1) + j)) ∧ ∀ j, j < 92 → un' (92 * 7 + j) = d j))
section
variable {X X' X1 : Nat → Obj} {n h L e t : Nat} {hp hm : Nat → Nat} {sr : Nat → Bool} {q m m' m0 m1 sc sc2 : Obj} {S S' : Nat → Nat → Nat} {T B : Nat} {d un un' : Nat → Int32} {many many' : Int32}
theorem mf_refl (m : Obj) : mf m m := ⟨rfl, fun _ _ _ _ _ => rfl, fun _ _ _ _ => rfl⟩
theorem mf_trans {a b c : Obj} (h1 : mf a b) (h2 : mf b c) : mf a c :=
  ⟨h2.1.trans h1.1, fun j a b c d => (h2.2.1 j a b c d).trans (h1.2.1 j a b c d), fun i a b c => (h2.2.2 i a b c).trans (h1.2.2 i a b c)⟩
theorem mf_fr (hf : mFr m m') : mf m m' := ⟨hf.1, fun j _ h2 _ _ => funext fun i => mFr_1 hf h2, fun i _ _ _ => mFr_1 hf (by omega)⟩
theorem mf_thr {v : Int32} : mf m (sI m 0 0 v) := by
  refine ⟨rfl, fun j h0 _ _ _ => ?_, fun i h0 _ _ => ?_⟩
  · exact va_up_ne _ _ h0
  · rw [sI_1, if_neg (by omega)]
theorem mf_sI {j i : Nat} {v : Int32} (hj : j = 7 ∨ j = 8 ∨ (j = 0 ∧ (i = 23 ∨ i = 34))) : mf m (sI m j i v) := by
  refine ⟨rfl, fun j' h0 h2 h7 h8 => ?_, fun i' h0 h2 h3 => ?_⟩
  · exact va_up_ne _ _ (by omega)
  · rw [sI_1, if_neg (by omega)]
theorem mf_sA {j : Nat} {g : Nat → Int32} (hj : j = 7 ∨ j = 8) : mf m (sA m j g) := by
  refine ⟨rfl, fun j' h0 h2 h7 h8 => ?_, fun i' h0 h2 h3 => ?_⟩
  · exact va_up_ne _ _ (by omega)
  · rw [sA_1, if_neg (by omega)]
theorem xf_refl : xf X X := fun _ _ _ _ => rfl
theorem xf_trans {X2 : Nat → Obj} (h1 : xf X X1) (h2 : xf X1 X2) : xf X X2 := fun k a b c => (h2 k a b c).trans (h1 k a b c)
theorem xf_up {k : Nat} {o : Obj} (hk : k = 12 ∨ k = 201 ∨ (100 ≤ k ∧ k ≤ 200)) : xf X (va_up X k o) := fun j a b c => va_up_ne _ _ (by omega)
theorem pRest_f (hx : xf X X') (hm : mf m m') (h : pRest X m) : pRest X' m' := by
  obtain ⟨m2, m1, m0⟩ := hm
  unfold pRest at h ⊢
  rw [hx 52 (by omega) (by omega) (by omega), hx 53 (by omega) (by omega) (by omega), hx 60 (by omega) (by omega) (by omega), hx 71 (by omega) (by omega) (by omega), hx 76 (by omega) (by omega) (by omega), hx 77 (by omega) (by omega) (by omega), hx 84 (by omega) (by omega) (by omega), hx 95 (by omega) (by omega) (by omega), hx 1 (by omega) (by omega) (by omega), hx 0 (by omega) (by omega) (by omega), hx 220 (by omega) (by omega) (by omega), hx 223 (by omega) (by omega) (by omega), hx 213 (by omega) (by omega) (by omega), m2, m1 16 (by omega) (by omega) (by omega) (by omega), m1 18 (by omega) (by omega) (by omega) (by omega), m1 11 (by omega) (by omega) (by omega) (by omega), m1 12 (by omega) (by omega) (by omega) (by omega), m1 13 (by omega) (by omega) (by omega) (by omega), m0 15 (by omega) (by omega) (by omega), m0 25 (by omega) (by omega) (by omega), m0 24 (by omega) (by omega) (by omega), m0 31 (by omega) (by omega) (by omega), m0 30 (by omega) (by omega) (by omega), m0 29 (by omega) (by omega) (by omega), m0 33 (by omega) (by omega) (by omega), m0 37 (by omega) (by omega) (by omega)]
  exact h
theorem pTape_f (hx : xf X X') (hm : mf m m') (h : pTape (X 1) (m.1 1) (m.1 0 2)) : pTape (X' 1) (m'.1 1) (m'.1 0 2) := by
  rw [hx 1 (by omega) (by omega) (by omega), hm.2.1 1 (by omega) (by omega) (by omega) (by omega), hm.2.2 2 (by omega) (by omega) (by omega)]
  exact h
/-- the relation anew, after an act -/
theorem R_mk (hB : sQB n h L e t hp hm) (hC : sQC n h L e t hp hm sr (X 5)) (hM : sQM n h L e t hp hm sr (m.1 2)) (hN : sQN n h (X 5) (m.2 5)) (hY : sayR n h (X 23) (m.1 2)) (hT : pTape (X 1) (m.1 1) (m.1 0 2)) (hr : pRest X m) (hx : xf X X') (hf : mf m m') (hs : ∀ i, i < 69 ∨ 161 ≤ i → m'.1 2 i = m.1 2 i) (hc : RC n h L hp (X' 12) (dOf m')) (hP : pPast n h L hp X' (m'.1 7) (m'.1 0 23)) : R X' m' := by
  refine ⟨n, h, L, e, t, hp, hm, sr, ⟨hB, ?_, ?_, ?_, hc, ?_⟩, hP, pTape_f hx hf hT, pRest_f hx hf hr⟩
  · rw [hx 5 (by omega) (by omega) (by omega)]; exact hC
  · obtain ⟨b1, b2, -⟩ := hB
    obtain ⟨⟨c0, c1, c2, c3, c4⟩, c5, c6, c7⟩ := hM
    refine ⟨⟨?_, ?_, ?_, ?_, ?_⟩, fun k hk => ?_, fun p hpn => ?_, ?_⟩
    · rw [hs 0 (by omega)]; exact c0
    · rw [hs 1 (by omega)]; exact c1
    · rw [hs 2 (by omega)]; exact c2
    · rw [hs 3 (by omega)]; exact c3
    · rw [hs 4 (by omega)]; exact c4
    · rw [hs (5 + k) (by omega)]; exact c5 k hk
    · rw [hs (11 + p) (by omega)]; exact c6 p hpn
    · rw [hs 35 (by omega)]; exact c7
  · rw [hx 5 (by omega) (by omega) (by omega), hf.1]; exact hN
  · rw [hx 23 (by omega) (by omega) (by omega)]
    exact sayR_s (fun i h1 _ => hs i (by omega)) hY
theorem pa_any (X : Nat → Obj) (v : Int32) : ∃ r, fPa_roomBehind X v = some r := by
  unfold fPa_roomBehind
  simp only [lit, bnd]
  generalize irm ((X 100).1 0 1 + v) (nI 9) = x
  rcases nI_cases x with ⟨k, hk, rfl⟩ | ⟨hx, -⟩
  · rw [if_neg (nI_lt0 hk)]
    by_cases h9 : k < 9
    · rw [if_neg (by rw [nle (by omega) hk]; omega), ix_nI h9 (by omega)]
      exact ⟨_, rfl⟩
    · rw [if_pos (by rw [nle (by omega) hk]; omega)]
      exact ⟨_, rfl⟩
  · rw [if_pos hx]
    exact ⟨_, rfl⟩
theorem pa_room {f k : Nat} (h1 : f < 9) (h3 : (X 100).1 0 1 = nI f) (hk : k < 9) : fPa_roomBehind X (nI k) = some ((f + k) % 9) := by
  unfold fPa_roomBehind
  simp only [lit, bnd]
  rw [h3, irm9 f h1 k hk, if_neg (nI_lt0 (by omega)), if_neg (by rw [nle (by omega) (by omega)]; omega), ix_nI (by omega) (by omega)] <;> rfl
theorem pa_back0 (h4 : (X 100).1 0 2 = nI 0) : fPa_bringBack X = some ((-1 : Int32), X) := by
  obtain ⟨r, hr⟩ := pa_any X ((X 100).1 0 2 - (1 : Int32))
  have h01 : nI 0 < (1 : Int32) := by decide +kernel
  unfold fPa_bringBack
  rw [hr, Option.bind_some, h4]
  by_cases h9 : r < 9
  · rw [if_pos h9, if_pos h01]
  · rw [if_neg h9, if_pos h01]
theorem pa_backS {f z : Nat} {sc' : Obj} (h1 : f < 9) (h0 : ¬ z = 0) (h2 : z ≤ 8) (h3 : (X 100).1 0 1 = nI f) (h4 : (X 100).1 0 2 = nI z) (hX1 : va_up X 100 (sI (X 100) 0 2 (nI (z - 1))) = X1) (g1 : fSc_copyFrom (X1 (102 + 11 * ((f + (z - 1)) % 9))) (X1 12) = some sc') : fPa_bringBack X = some (((va_up X1 12 sc') 100).1 0 2, va_up X1 12 sc') := by
  unfold fPa_bringBack
  simp only [lit, bnd]
  rw [h4, nsub (by omega), pa_room h1 h3 (by omega), Option.bind_some, if_pos (show (f + (z - 1)) % 9 < 9 by omega), if_neg (by rw [nlt (by omega) (by omega)]; omega), hX1, g1] <;> rfl
theorem past_note (hn : n ≤ 8) (hP : pPast n h L hp X un many) (hc : RC n h L hp (X 12) d) : ∃ X1, fPa_note X = some X1 ∧ xf X X1 ∧ X1 12 = X 12 ∧ X1 201 = X 201 ∧ pPastN n h L hp X1 un many d := by
  obtain ⟨f, z, h1, h2, h3, h4, h5, h6⟩ := hP
  obtain ⟨sc', g1, g2⟩ := RC_copy (sc := X (102 + 11 * ((f + z) % 9))) hn hc
  have e1 : ∀ k, k ≠ 102 + 11 * ((f + z) % 9) → va_up X (102 + 11 * ((f + z) % 9)) sc' k = X k := fun k hk => va_up_ne _ _ hk
  refine ⟨va_up X (102 + 11 * ((f + z) % 9)) sc', ?_, xf_up (by omega), e1 12 (by omega), e1 201 (by omega), f, z, h1, h2, ?_, ?_, h5, fun i hi => ?_, ?_⟩
  · unfold fPa_note
    rw [h4, pa_room h1 h3 (by omega), Option.bind_some, if_pos (show (f + z) % 9 < 9 by omega), g1] <;> rfl
  · rw [e1 100 (by omega)]; exact h3
  · rw [e1 100 (by omega)]; exact h4
  · rw [e1 _ (by omega)]; exact h6 i hi
  · rw [va_up_at, if_pos rfl]; exact g2
theorem pastN_up (hP : pPastN n h L hp X un many d) {k : Nat} {o : Obj} (hk : k < 100 ∨ 200 < k) : pPastN n h L hp (va_up X k o) un many d := by
  obtain ⟨f, z, h1, h2, h3, h4, h5, h6, h7⟩ := hP
  have e1 : ∀ j, 100 ≤ j → j ≤ 200 → va_up X k o j = X j := fun j a b => va_up_ne _ _ (by omega)
  refine ⟨f, z, h1, h2, ?_, ?_, h5, fun i hi => ?_, ?_⟩
  · rw [e1 _ (by omega) (by omega)]; exact h3
  · rw [e1 _ (by omega) (by omega)]; exact h4
  · rw [e1 _ (by omega) (by omega)]; exact h6 i hi
  · rw [e1 _ (by omega) (by omega)]; exact h7
theorem past_up (hP : pPast n h L hp X un many) {k : Nat} {o : Obj} (hk : k < 100 ∨ 200 < k) : pPast n h L hp (va_up X k o) un many := by
  obtain ⟨f, z, h1, h2, h3, h4, h5, h6⟩ := hP
  have e1 : ∀ j, 100 ≤ j → j ≤ 200 → va_up X k o j = X j := fun j a b => va_up_ne _ _ (by omega)
  refine ⟨f, z, h1, h2, ?_, ?_, h5, fun i hi => ?_⟩
  · rw [e1 _ (by omega) (by omega)]; exact h3
  · rw [e1 _ (by omega) (by omega)]; exact h4
  · rw [e1 _ (by omega) (by omega)]; exact h6 i hi
theorem pastN_past (hP : pPastN n h L hp X un many d) : pPast n h L hp X un many := by
  obtain ⟨f, z, h1, h2, h3, h4, h5, h6, -⟩ := hP
  exact ⟨f, z, h1, h2, h3, h4, h5, h6⟩
theorem past_keep (hn : n ≤ 8) (hP : pPastN n h L hp X un many d) (hs : stoR un many un' many' d) : ∃ X1, fPa_keep X = some X1 ∧ xf X X1 ∧ X1 12 = X 12 ∧ pPast n h L hp X1 un' many' := by
  obtain ⟨f, z, h1, h2, h3, h4, h5, h6, h7⟩ := hP
  obtain ⟨z', g1, g2, g3⟩ := hs
  have hz : z' = z := (neq (by omega) (by omega)).mp (g2.symm.trans h5)
  subst hz
  have e1 : ∀ o k, k ≠ 100 → va_up X 100 o k = X k := fun o k hk => va_up_ne _ _ hk
  unfold fPa_keep
  simp only [lit]
  rw [h4, h3]
  rcases g3 with ⟨k1, k2, k3, k4⟩ | ⟨k1, k2, k3, k4⟩
  · rw [if_neg (by rw [nle (by omega) (by omega)]; omega), nadd]
    refine ⟨_, rfl, xf_up (by omega), e1 _ 12 (by omega), f, z' + 1, h1, by omega, ?_, ?_, k2, fun i hi => ?_⟩
    · exact h3
    · rfl
    · rw [e1 _ _ (by omega)]
      by_cases hiz : i = z'
      · subst hiz
        exact RC_d hn k4 h7
      · exact RC_d hn (k3 i (by omega)) (h6 i (by omega))
  · subst k1
    rw [if_pos (by rw [nle (by omega) (by omega)]; omega), irm9 f h1 1 (by omega)]
    refine ⟨_, rfl, xf_up (by omega), e1 _ 12 (by omega), (f + 1) % 9, 8, by omega, by omega, ?_, ?_, k2, fun i hi => ?_⟩
    · rfl
    · exact h4
    · rw [e1 _ _ (by omega)]
      by_cases hiz : i = 7
      · subst hiz
        have : ((f + 1) % 9 + 7) % 9 = (f + 8) % 9 := by omega
        rw [this]
        exact RC_d hn k4 h7
      · have : ((f + 1) % 9 + i) % 9 = (f + (i + 1)) % 9 := by omega
        rw [this]
        exact RC_d hn (k3 i (by omega)) (h6 (i + 1) (by omega))
theorem mo_storesJ {z : Nat} (hz : z < 8) (h23 : m.1 0 23 = nI z) : fMo_stores_J45 m = some (sI (sA m 7 (fun i => if 92 * z ≤ i ∧ i < 92 * z + 92 then m.1 2 (69 + (i - 92 * z)) else m.1 7 i)) 0 23 (nI (z + 1))) := by
  have key := cpyL (m := m) (f := fMo_stores_L47) 7 (92 * z) 92 (by omega) (fun k => m.1 2 (69 + k)) (fun k hk => ?_) (fun x => ?_)
  · unfold fMo_stores_J45
    simp only [lit]
    rw [key]
    simp only [Option.bind_some, bnd]
    have e : ∀ g, (sA m 7 g).1 0 23 = nI z := fun g => h23
    rw [e, nadd]
  · generalize hg : (fun i => if 92 * z ≤ i ∧ i < 92 * z + k then m.1 2 (69 + (i - 92 * z)) else m.1 7 i) = g
    have e : (sA m 7 g).1 0 23 = nI z := h23
    have e2 : (sA m 7 g).1 2 (69 + k) = m.1 2 (69 + k) := rfl
    unfold fMo_stores_L47
    simp (disch := omega) only [lit, nadd, ix_nI, Option.bind_some, bnd, e, e2]
    rw [if_neg (by rw [nle (by omega) (by omega)]; omega), show nI 92 * nI z = nI (92 * z) from nmul _ _, nadd, ix_nI (by omega) (by omega)]
    rfl
  · unfold fMo_stores_L47
    simp only [lit]
    rw [if_pos (by rw [nle (by omega) (by omega)]; omega)]
theorem mo_stores {z : Nat} (hz : z ≤ 8) (h23 : m.1 0 23 = nI z) : ∃ m1, fMo_stores m = some m1 ∧ mf m m1 ∧ m1.1 2 = m.1 2 ∧ stoR (m.1 7) (m.1 0 23) (m1.1 7) (m1.1 0 23) (dOf m) := by
  unfold fMo_stores
  simp only [lit]
  by_cases h8 : z = 8
  · subst h8
    rw [h23, if_pos rfl]
    have key := cpyL (m := m) (f := fMo_stores_L11) 7 0 644 (by omega) (fun k => m.1 7 (k + 92)) (fun k hk => ?_) (fun x => ?_)
    · rw [key]
      simp only [Option.bind_some, bnd]
      rw [mo_storesJ (z := 7) (by omega) (by rw [sI_1, if_pos ⟨rfl, rfl⟩])]
      refine ⟨_, rfl, ?_, rfl, 8, by omega, rfl, Or.inr ⟨rfl, ?_, fun i hi j hj => ?_, fun j hj => ?_⟩⟩
      · exact mf_trans (mf_trans (mf_sA (by omega)) (mf_sI (by omega))) (mf_trans (mf_sA (by omega)) (mf_sI (by omega)))
      · rw [sI_1, if_pos ⟨rfl, rfl⟩]
      · show (if 92 * 7 ≤ 92 * i + j ∧ 92 * i + j < 92 * 7 + 92 then _ else (if 0 ≤ 92 * i + j ∧ 92 * i + j < 0 + 644 then m.1 7 (92 * i + j - 0 + 92) else _)) = _
        rw [if_neg (by omega), if_pos (by omega), show 92 * i + j - 0 + 92 = 92 * (i + 1) + j by omega]
      · show (if 92 * 7 ≤ 92 * 7 + j ∧ 92 * 7 + j < 92 * 7 + 92 then m.1 2 (69 + (92 * 7 + j - 92 * 7)) else _) = _
        rw [if_pos (by omega), Nat.add_sub_cancel_left]
    · generalize hg : (fun i => if 0 ≤ i ∧ i < 0 + k then m.1 7 (i - 0 + 92) else m.1 7 i) = g
      have e : (sA m 7 g).1 7 (k + 92) = m.1 7 (k + 92) := by
        show g (k + 92) = _
        rw [← hg]
        show (if 0 ≤ k + 92 ∧ k + 92 < 0 + k then _ else _) = _
        rw [if_neg (by omega)]
      unfold fMo_stores_L11
      simp (disch := omega) only [lit, nadd, ix_nI, Option.bind_some, bnd, e]
      rw [if_neg (by rw [nle (by omega) (by omega)]; omega), Nat.zero_add]
    · unfold fMo_stores_L11
      simp only [lit]
      rw [if_pos (by rw [nle (by omega) (by omega)]; omega)]
  · rw [h23, if_neg (by rw [neq (by omega) (by omega)]; exact h8), mo_storesJ (by omega) h23]
    refine ⟨_, rfl, mf_trans (mf_sA (by omega)) (mf_sI (by omega)), rfl, z, hz, rfl, Or.inl ⟨by omega, ?_, fun i hi j hj => ?_, fun j hj => ?_⟩⟩
    · rw [sI_1, if_pos ⟨rfl, rfl⟩]
    · show (if 92 * z ≤ 92 * i + j ∧ 92 * i + j < 92 * z + 92 then _ else _) = _
      rw [if_neg (by omega)]
    · show (if 92 * z ≤ 92 * z + j ∧ 92 * z + j < 92 * z + 92 then m.1 2 (69 + (92 * z + j - 92 * z)) else _) = _
      rw [if_pos (by omega), Nat.add_sub_cancel_left]
end
