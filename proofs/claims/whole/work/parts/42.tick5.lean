theorem lpo {f : Int32 × Obj → Option ((Int32 × Obj) ⊕ Obj)} (J : Nat → Obj → Prop) (N : Nat) (hN : N < 2000) {x : Obj} (h0 : J 0 x)
    (hs : ∀ k x, k < N → J k x → ∃ x', f (nI k, x) = some (.inl (nI (k + 1), x')) ∧ J (k + 1) x')
    (he : ∀ x, J N x → f (nI N, x) = some (.inr x)) : ∃ x', iter f FU (nI 0, x) = some x' ∧ J N x' := by
  refine iter_I (I := fun k a => a.1 = nI k ∧ J k a.2) (E := fun e => J N e) N hN ⟨rfl, h0⟩ (fun k a hk hz => ?_) (fun a hz => ?_)
  · obtain ⟨a1, a2⟩ := a
    obtain ⟨z1, z3⟩ := hz
    simp only at z1 z3
    subst z1
    obtain ⟨x', g1, g3⟩ := hs k a2 hk z3
    exact Or.inl ⟨_, g1, rfl, g3⟩
  · obtain ⟨a1, a2⟩ := a
    obtain ⟨z1, z3⟩ := hz
    simp only at z1 z3
    subst z1
    exact ⟨_, he a2 z3, z3⟩
theorem sm_up {f : Nat → Nat} {p : Nat} : ∀ {n : Nat}, sm n (va_up f p (f p + 1)) = sm n f + (if p < n then 1 else 0)
  | 0 => rfl
  | n + 1 => by
    show sm n (va_up f p (f p + 1)) + va_up f p (f p + 1) n = sm n f + f n + _
    rw [sm_up, va_up_at]
    by_cases h1 : n = p
    · subst h1
      simp
      omega
    · by_cases h2 : p < n
      · simp [h1, h2, show p < n + 1 from by omega]; omega
      · simp [h1, h2, show ¬ p < n + 1 from by omega]
def bmp (S : Nat → Nat → Nat) (j p : Nat) : Nat → Nat → Nat := u2 (u2 S j p (S j p + 1)) 0 0 (S 0 0 + 1)
section
variable {n h L e t : Nat} {hp hm : Nat → Nat} {sr : Nat → Bool} {q m m' m0 sc : Obj} {S S' : Nat → Nat → Nat} {T B : Nat}
theorem bmp_at {j p j' p' : Nat} : bmp S j p j' p' = if j' = 0 ∧ p' = 0 then S 0 0 + 1 else if j' = j ∧ p' = p then S j p + 1 else S j' p' := by
  unfold bmp
  rw [u2_at, u2_at]
theorem sSV_bmp (hV : sSV n h L hp S) {j p : Nat} (hj : j = 9 ∨ j = 10) (h0 : S 0 0 < 1000000) : sSV n h L hp (bmp S j p) := by
  obtain ⟨⟨⟨v1, v1'⟩, v2⟩, v3, v4, v5⟩ := hV
  have e00 : bmp S j p 0 0 = S 0 0 + 1 := by rw [bmp_at, if_pos ⟨rfl, rfl⟩]
  have e0 : ∀ i, i ≠ 0 → bmp S j p 0 i = S 0 i := fun i hi => by rw [bmp_at, if_neg (by omega), if_neg (by omega)]
  have ee : ∀ j' i, 1 ≤ j' → j' ≤ 8 → bmp S j p j' i = S j' i := fun j' i h1 h2 => by rw [bmp_at, if_neg (by omega), if_neg (by omega)]
  refine ⟨⟨⟨?_, ?_⟩, ?_⟩, fun k hk => ?_, fun r hr => ?_, fun x y hx hy => ?_⟩
  · rw [e0 _ (by omega)]; exact v1
  · rw [e00]; omega
  · rw [e0 _ (by omega)]; exact v2
  · rw [e0 _ (by omega)] at hk
    rw [ee 1 _ (by omega) (by omega), ee 2 _ (by omega) (by omega)]
    exact v3 k hk
  · obtain ⟨⟨w3, w4, w5, w6, w7, w8, w9, w10⟩, w11, w12⟩ := v4 r hr
    unfold sRow
    rw [ee 3 _ (by omega) (by omega), ee 4 _ (by omega) (by omega), ee 5 _ (by omega) (by omega), ee 6 _ (by omega) (by omega), ee 7 _ (by omega) (by omega), ee 8 _ (by omega) (by omega), e00]
    refine ⟨⟨w3, w4, w5, w6, w7, w8, ?_, ?_⟩, w11, w12⟩
    · rw [bmp_at, if_neg (by omega)]
      split
      · rename_i hh; obtain ⟨hh1, hh2⟩ := hh; subst hh1 hh2; omega
      · omega
    · rw [bmp_at, if_neg (by omega)]
      split
      · rename_i hh; obtain ⟨hh1, hh2⟩ := hh; subst hh1 hh2; omega
      · omega
  · rw [ee 8 _ (by omega) (by omega), ee 8 _ (by omega) (by omega)]
    exact v5 x y hx hy
theorem sEq_bmp {j p : Nat} : sEq n (u2 S j p (S j p + 1)) (bmp S j p) := by
  refine ⟨fun i h1 _ => ?_, fun k _ => ⟨?_, ?_⟩, fun r _ j' hj _ => ?_⟩
  · show u2 _ 0 0 _ 0 i = _
    rw [u2_at, if_neg (by omega)]
  · show u2 _ 0 0 _ 1 k = _
    rw [u2_at, if_neg (by omega)]
  · show u2 _ 0 0 _ 2 k = _
    rw [u2_at, if_neg (by omega)]
  · show u2 _ 0 0 _ j' r = _
    rw [u2_at, if_neg (by omega)]
theorem sSM_up10 (hn : n ≤ 8) (hS : sSM n S (dOf m)) (hc : S 0 3 ≤ 12) {p : Nat} (hpn : p < n) : sSM n (bmp S 10 p) (dOf (sI (sI m 2 (129 + p) (nI (S 10 p + 1))) 2 70 (nI (sm n (S 10) + 1)))) := by
  refine sSM_congr ?_ sEq_bmp
  obtain ⟨⟨s1, s2, s3, s3'⟩, s4, s5⟩ := hS
  have e0 : ∀ i, u2 S 10 p (S 10 p + 1) 0 i = S 0 i := fun i => by rw [u2_at, if_neg (by omega)]
  have e10 : sm n (u2 S 10 p (S 10 p + 1) 10) = sm n (S 10) + 1 := by
    have := sm_up (f := S 10) (p := p) (n := n)
    rw [if_pos hpn] at this
    rw [← this]
    congr 1
  have f0 : ∀ i, i ≠ 1 → (69 + i = 129 + p → False) → dOf (sI (sI m 2 (129 + p) (nI (S 10 p + 1))) 2 70 (nI (sm n (S 10) + 1))) i = dOf m i := fun i h1 hi => by
    show (sI (sI m 2 (129 + p) (nI (S 10 p + 1))) 2 70 (nI (sm n (S 10) + 1))).1 2 (69 + i) = _
    rw [sI_1, if_neg (by omega), sI_1, if_neg (fun z => hi z.2)]
  refine ⟨⟨?_, ?_, ?_, ?_⟩, fun k hk => ?_, fun r hr => ?_⟩
  · rw [f0 0 (by omega) (by omega), e0]; exact s1
  · rw [e10]
    show (sI (sI m 2 (129 + p) (nI (S 10 p + 1))) 2 70 (nI (sm n (S 10) + 1))).1 2 70 = _
    rw [sI_1, if_pos ⟨rfl, rfl⟩]
  · rw [f0 2 (by omega) (by omega), e0]; exact s3
  · rw [f0 3 (by omega) (by omega), e0]; exact s3'
  · rw [e0] at hk
    rw [f0 (68 + k) (by omega) (by omega), f0 (80 + k) (by omega) (by omega), u2_at, if_neg (by omega), u2_at, if_neg (by omega)]
    exact s4 k hk
  · obtain ⟨r3, r4, r5, r6, r7, r8, r9, r10⟩ := s5 r hr
    rw [f0 (4 + r) (by omega) (by omega), f0 (12 + r) (by omega) (by omega), f0 (20 + r) (by omega) (by omega), f0 (28 + r) (by omega) (by omega), f0 (36 + r) (by omega) (by omega), f0 (44 + r) (by omega) (by omega), f0 (52 + r) (by omega) (by omega)]
    simp only [dOf, sI_1, u2_at, true_and]
    refine ⟨by rw [if_neg (by omega)]; exact r3, by rw [if_neg (by omega)]; exact r4, by rw [if_neg (by omega)]; exact r5, by rw [if_neg (by omega)]; exact r6, by rw [if_neg (by omega)]; exact r7, by rw [if_neg (by omega)]; exact r8, by rw [if_neg (by omega)]; exact r9, ?_⟩
    rw [if_neg (by omega)]
    exact up_eq (by omega) rfl r10
theorem sSC_up0 (hS : sSC n S sc) {v : Nat} : sSC n (u2 S 0 2 v) (sI sc 0 2 (nI v)) := by
  obtain ⟨⟨s1, s2, s3⟩, s4, s5⟩ := hS
  refine ⟨⟨?_, ?_, ?_⟩, fun k hk => ?_, fun r hr => ?_⟩
  · rw [sI_1, if_neg (by omega)]; exact s1
  · rw [sI_1, if_pos ⟨rfl, rfl⟩]; rfl
  · rw [sI_1, if_neg (by omega)]; exact s3
  · rw [sI_1, if_neg (by omega), sI_1, if_neg (by omega)]; exact s4 k hk
  · have f0 : ∀ j, 3 ≤ j → (sI sc 0 2 (nI v)).1 j r = sc.1 j r := fun j hj => by rw [sI_1, if_neg (by omega)]
    rw [f0 3 (by omega), f0 4 (by omega), f0 5 (by omega), f0 6 (by omega), f0 7 (by omega), f0 8 (by omega), f0 9 (by omega), f0 10 (by omega)]
    exact s5 r hr
theorem sSM_up0 (hS : sSM n S (dOf m)) {v : Nat} : sSM n (u2 S 0 2 v) (dOf (sI m 2 71 (nI v))) := by
  obtain ⟨⟨s1, s2, s3, s3'⟩, s4, s5⟩ := hS
  have f0 : ∀ i, i ≠ 2 → dOf (sI m 2 71 (nI v)) i = dOf m i := fun i h1 => by
    show (sI m 2 71 (nI v)).1 2 (69 + i) = _
    rw [sI_1, if_neg (by omega)]
  refine ⟨⟨?_, ?_, ?_, ?_⟩, fun k hk => ?_, fun r hr => ?_⟩
  · rw [f0 0 (by omega)]; exact s1
  · rw [f0 1 (by omega)]; exact s2
  · show (sI m 2 71 (nI v)).1 2 71 = _
    rw [sI_1, if_pos ⟨rfl, rfl⟩]; rfl
  · rw [f0 3 (by omega)]; exact s3'
  · rw [f0 (68 + k) (by omega), f0 (80 + k) (by omega)]; exact s4 k hk
  · rw [f0 (4 + r) (by omega), f0 (12 + r) (by omega), f0 (20 + r) (by omega), f0 (28 + r) (by omega), f0 (36 + r) (by omega), f0 (44 + r) (by omega), f0 (52 + r) (by omega), f0 (60 + r) (by omega)]
    exact s5 r hr
theorem sSV_02 (hV : sSV n h L hp S) {v : Nat} : sSV n h L hp (u2 S 0 2 v) := hV
/-- he who opens, him who knocks, the house; who of both is shut out -/
def opA (sr : Nat → Bool) (S : Nat → Nat → Nat) (c p : Nat) : Bool := sr c && (S 8 c).testBit p
def opB (t : Nat) (sr : Nat → Bool) (S : Nat → Nat → Nat) (c p k : Nat) : Nat → Nat → Nat :=
  if opA sr S c p then stn (u2 (bmp S 10 c) 0 2 (S 0 2 + 1)) p 0 0 0 else stn (bmp S 10 c) p 2 (k + 1) t
def opS (n t : Nat) (hm : Nat → Nat) (sr : Nat → Bool) (S : Nat → Nat → Nat) (c p k : Nat) : Nat → Nat → Nat := mkK (opB t sr S c p k) c (2 ^ p ||| lvm n hm k)
theorem sc_opend (hB : sQB n h L e t hp hm) (hC : sQC n h L e t hp hm sr q) (hV : sSV n h L hp S) (hS : sSC n S sc) {c p k : Nat} (hcn : c < n) (hpn : p < n) (hk6 : S 6 p = k + 1) (h0 : S 0 0 < 1000000) : ∃ sc', fSc_openDoor q sc (nI c) (nI p) = some sc' ∧ sSC n (opS n t hm sr S c p k) sc' := by
  have b1 := hB.1
  have hk : k < h := by have := (hV.2.2.1 p hpn).1.2.2.2.1; omega
  have h1 := qu_hasP hB hC hcn
  have h2 := qu_hasP hB hC hpn
  have h4 := qu_living hB hC hk
  have h9 := qu_stern hB hC hcn
  have c2 := hC.1.2.2.1
  have r6 := (hS.2.2 p hpn).2.2.2.1
  rw [hk6, nsub (by omega), Nat.add_sub_cancel] at r6
  have r10 := (hS.2.2 c hcn).2.2.2.2.2.2.2
  have g2 := sSC_congr (sSC_up hS (j := 10) (p := c) (v := S 10 c + 1) (by omega) (by omega)) (sEq_bmp (n := n))
  have hV1 := sSV_bmp hV (j := 10) (p := c) (by omega) h0
  have hkn := sc_knows hB hC hV1 g2 hcn hpn
  rw [show bmp S 10 c 8 = S 8 from rfl] at hkn
  have hor := or_256 (p2_lt (p := p) (by omega)) (lvm_lt (n := n) (k := k) (hm := hm) b1)
  have hJ : ∃ sc', fSc_openDoor_J89 q (sI sc 10 c (nI (S 10 c + 1))) (nI c) (nI p) (nI (2 ^ p ||| lvm n hm k)) = some sc' ∧ sSC n (mkK (stn (bmp S 10 c) p 2 (k + 1) t) c (2 ^ p ||| lvm n hm k)) sc' := by
    have a1 := sSC_up (sSC_up g2 (j := 3) (p := p) (v := 2) (by omega) (by omega)) (j := 7) (p := p) (v := t) (by omega) (by omega)
    have a2 : sSC n (stn (bmp S 10 c) p 2 (k + 1) t) _ := sSC_congr a1 ⟨fun i _ _ => rfl, fun k _ => ⟨rfl, rfl⟩, fun r hr j _ _ => by
      rw [stn_at, u2_at, u2_at, bmp_at]
      by_cases hr : r = p
      · subst hr
        by_cases h7 : j = 7
        · subst h7; simp
        · by_cases h3 : j = 3
          · subst h3; simp
          · by_cases h6 : j = 6
            · subst h6; simp [hk6]
            · simp [h7, h3, h6]
      · simp [hr]⟩
    obtain ⟨sc2, a3, a4⟩ := sc_makeK hB hC a2 (p := c) (a := 2 ^ p ||| lvm n hm k) hcn hor
    refine ⟨sc2, ?_, a4⟩
    unfold fSc_openDoor_J89 fSc_openDoor_J109
    simp (disch := omega) only [c2, a3, Option.bind_some, bnd, Sum.elim_inl, Sum.elim_inr, lit, nle, nlt, neq, nadd, nsub, nx_or, nx_and, shl_1, ix_nI]
  unfold fSc_openDoor
  simp (disch := omega) only [h1, h2, h4, h9, r6, r10, hkn, Option.bind_some, bnd, Sum.elim_inl, Sum.elim_inr, lit, nle, nlt, neq, nadd, nsub, nx_or, nx_and, shl_1, ix_nI]
  rw [if_neg (by omega), if_neg (by omega)]
  unfold opS opB opA
  cases hs : sr c
  · simp only [Bool.false_eq_true, if_false, if_true, Bool.false_and]
    exact hJ
  · simp only [if_true, Bool.true_and]
    rw [if_neg (by decide +kernel)]
    cases hb : (S 8 c).testBit p
    · simp only [Bool.false_eq_true, if_false, if_true]
      exact hJ
    · simp only [if_true]
      rw [if_neg (by decide +kernel)]
      obtain ⟨sc2, a1, a2⟩ := sc_putIn hB hC g2 hpn
      have a3 := sSC_up0 a2 (v := S 0 2 + 1)
      have a4 : sSC n (stn (u2 (bmp S 10 c) 0 2 (S 0 2 + 1)) p 0 0 0) _ := sSC_congr a3 ⟨fun i _ _ => rfl, fun k _ => ⟨rfl, rfl⟩, fun r hr j _ _ => by
        rw [stn_at, u2_at, u2_at, stn_at]
        have : ¬ (j = 0 ∧ r = 2) := by omega
        simp only [this, if_false]⟩
      obtain ⟨sc3, a5, a6⟩ := sc_makeK hB hC a4 (p := c) (a := 2 ^ p ||| lvm n hm k) hcn hor
      have e2 : sc2.1 0 2 = nI (S 0 2) := a2.1.2.1
      refine ⟨sc3, ?_, a6⟩
      rw [a1]
      unfold fSc_openDoor_J109
      simp only [Option.bind_some, bnd]
      rw [e2, nadd, a5]
      rfl
end
