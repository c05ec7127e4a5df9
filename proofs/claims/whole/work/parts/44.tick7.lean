section
variable {n h L e t : Nat} {hp hm : Nat → Nat} {sr : Nat → Bool} {q m m' m0 sc : Obj} {S S' : Nat → Nat → Nat} {T B : Nat}
theorem tick_open (hB : sQB n h L e t hp hm) (hC : sQC n h L e t hp hm sr q) (hM : sQM n h L e t hp hm sr (m0.1 2)) (hR : RT n h L hp m0 T B sc m) (hBB : B < 1000000) {p bz : Nat} (hpn : p < n) (hbz : bz < 256) : ∃ sc' m' bz', bz' < 256 ∧ fSc_letTickGo_L99 q (nI n) (nI bz, nI p, sc) = some (.inl (nI bz', nI (p + 1), sc')) ∧ fMo_tick_L174 (nI bz, nI p, m) = some (.inl (nI bz', nI (p + 1), m')) ∧ RT n h L hp m0 T (B + 1) sc' m' := by
  obtain ⟨S, hV, hS, hD, hf, hT, hBd⟩ := hR
  have hM2 := sQM_fr hB hM hf
  obtain ⟨b1, b2, b3, b4, b5, b6, b7, b8, b9⟩ := id hB
  have c1 := hM2.1.2.1
  have hc := hV.1.2
  obtain ⟨r3, r4, r5, r6, r7, r8, r9, r10⟩ := hS.2.2 p hpn
  obtain ⟨d3, d4, d5, d6, d7, d8, d9, d10⟩ := (sSM_live hD).2.2 p hpn
  obtain ⟨⟨v3, v4, v5, v6, v7, v8, v9, v10⟩, ⟨x1, x2, x3⟩, x4⟩ := hV.2.2.1 p hpn
  have hnp : ¬ n ≤ p := by omega
  have un : ¬ nI 0 ≤ -nI 1 := by decide +kernel
  by_cases w : S 3 p = 1
  · obtain ⟨k, hk6⟩ : ∃ k, S 6 p = k + 1 := ⟨S 6 p - 1, by omega⟩
    have hk : k < h := by omega
    have g1 := sc_answer hB hC hV hS hpn w hk6 hbz
    have g2 := mo_answers hB hM2 hV hD hk hbz
    cases ho : bst (fun r => canA n e hp hm S r k && !bz.testBit r) (fun r => dst (S 4 r) (hp k)) n with
    | none =>
      rw [ho] at g1 g2
      have a1 := sSC_congr (sSC_up hS (j := 9) (p := p) (v := S 9 p + 1) (by omega) (by omega)) (sEq_bmp (n := n))
      have a2 := sSM_congr (sSM_up b1 hD hc (j := 9) (p := p) (v := S 9 p + 1) (by omega) (by omega) (by omega)) (sEq_bmp (n := n))
      simp only [show 49 + 8 * 9 = 121 from rfl] at a2
      refine ⟨_, _, bz, hbz, ?_, ?_, bmp S 9 p, sSV_bmp hV (by omega) (by omega), a1, a2, mFr_trans hf (mFr_sI (by omega) (by omega)), hT, by rw [bmp_at, if_pos ⟨rfl, rfl⟩]; omega⟩
      · unfold fSc_letTickGo_L99
        simp (disch := omega) only [r3, w, hnp, r9, g1, bI, if_true, if_false, Option.bind_some, bnd, Sum.elim_inl, Sum.elim_inr, lit, nle, nlt, neq, nadd, nsub, nx_or, nx_and, shl_1, ix_nI]
      · unfold fMo_tick_L174
        simp (disch := omega) only [lit, nadd, ix_nI, Option.bind_some]
        rw [c1, d3, w, if_neg (by rw [nle (by omega) (by omega)]; omega), if_pos rfl, d6, hk6, nsub (by omega), Nat.add_sub_cancel, g2]
        simp only [Option.bind_some, bI]
        rw [if_neg un, d9, nadd]
        rfl
    | some c =>
      rw [ho] at g1 g2
      obtain ⟨hcn, hP⟩ := bst_some ho
      simp only [Bool.and_eq_true] at hP
      have hP1 := hP.1
      unfold canA at hP1
      simp only [Bool.and_eq_true, beq_iff_eq] at hP1
      obtain ⟨q1, -, q3⟩ := hP1
      have hcp : p ≠ c := fun z => by subst z; omega
      obtain ⟨sc2, a1, a2⟩ := sc_opend hB hC hV hS hcn hpn hk6 (by omega)
      obtain ⟨m2, a3, a4, a5⟩ := mo_opend hB hM2 hV hD hcn hpn hk6 (by omega) hcp q3
      have hV2 : sSV n h L hp (opS n t hm sr S c p k) := sSV_mkK b1 (sSV_opB hB hV hcn hpn hk6 (by omega)) hcn (opK q3 hcp hpn)
      have e0 : opS n t hm sr S c p k 0 1 = S 0 1 ∧ opS n t hm sr S c p k 0 0 = S 0 0 + 1 := by
        refine ⟨?_, ?_⟩
        · show mkK (opB t sr S c p k) c (2 ^ p ||| lvm n hm k) 0 1 = _
          rw [mkK_at, if_neg (by decide)]
          unfold opB
          split <;> rfl
        · show mkK (opB t sr S c p k) c (2 ^ p ||| lvm n hm k) 0 0 = _
          rw [mkK_at, if_neg (by decide)]
          unfold opB
          split <;> rfl
      refine ⟨sc2, m2, bz ||| 2 ^ c, or_256 hbz (p2_lt (by omega)), ?_, ?_, opS n t hm sr S c p k, hV2, a2, a5, mFr_trans hf a4, by rw [e0.1]; exact hT, by rw [e0.2]; omega⟩
      · have u1 : ¬ nI c = -nI 1 := nI_ne_m1' (by omega)
        unfold fSc_letTickGo_L99
        simp (disch := omega) only [r3, w, hnp, g1, bI, a1, u1, if_true, if_false, Option.bind_some, bnd, Sum.elim_inl, Sum.elim_inr, lit, nle, nlt, neq, nadd, nsub, nx_or, nx_and, shl_1, ix_nI]
      · unfold fMo_tick_L174
        simp (disch := omega) only [lit, nadd, ix_nI, Option.bind_some]
        rw [c1, d3, w, if_neg (by rw [nle (by omega) (by omega)]; omega), if_pos rfl, d6, hk6, nsub (by omega), Nat.add_sub_cancel, g2]
        simp only [Option.bind_some, bI]
        rw [if_pos (by rw [nle (by omega) (by omega)]; omega), a3, shl_1 (by omega), nx_or]
        rfl
  · refine ⟨sc, m, bz, hbz, ?_, ?_, S, hV, hS, hD, hf, hT, by omega⟩
    · unfold fSc_letTickGo_L99
      simp (disch := omega) only [r3, w, hnp, if_false, Option.bind_some, bnd, Sum.elim_inl, Sum.elim_inr, lit, nle, nlt, neq, nadd, nsub, nx_or, nx_and, shl_1, ix_nI]
    · unfold fMo_tick_L174
      simp (disch := omega) only [lit, nadd, ix_nI, Option.bind_some]
      rw [c1, d3, if_neg (by rw [nle (by omega) (by omega)]; omega), if_neg (by rw [neq (by omega) (by omega)]; exact w)]
theorem sSC_t (hS : sSC n S sc) {v : Nat} : sSC n (u2 S 0 1 v) (sI sc 0 1 (nI v)) := by
  obtain ⟨⟨s1, s2, s3⟩, s4, s5⟩ := hS
  refine ⟨⟨?_, ?_, ?_⟩, fun k hk => ?_, fun r hr => ?_⟩
  · rw [sI_1, if_pos ⟨rfl, rfl⟩]; rfl
  · rw [sI_1, if_neg (by omega)]; exact s2
  · rw [sI_1, if_neg (by omega)]; exact s3
  · rw [sI_1, if_neg (by omega), sI_1, if_neg (by omega)]; exact s4 k hk
  · have f0 : ∀ j, 3 ≤ j → (sI sc 0 1 (nI v)).1 j r = sc.1 j r := fun j hj => by rw [sI_1, if_neg (by omega)]
    rw [f0 3 (by omega), f0 4 (by omega), f0 5 (by omega), f0 6 (by omega), f0 7 (by omega), f0 8 (by omega), f0 9 (by omega), f0 10 (by omega)]
    exact s5 r hr
theorem sSM_t (hS : sSM n S (dOf m)) {v : Nat} : sSM n (u2 S 0 1 v) (dOf (sI m 2 69 (nI v))) := by
  obtain ⟨⟨s1, s2, s3, s3'⟩, s4, s5⟩ := hS
  have f0 : ∀ i, i ≠ 0 → dOf (sI m 2 69 (nI v)) i = dOf m i := fun i h1 => by
    show (sI m 2 69 (nI v)).1 2 (69 + i) = _
    rw [sI_1, if_neg (by omega)]
  refine ⟨⟨?_, ?_, ?_, ?_⟩, fun k hk => ?_, fun r hr => ?_⟩
  · show (sI m 2 69 (nI v)).1 2 69 = _
    rw [sI_1, if_pos ⟨rfl, rfl⟩]; rfl
  · rw [f0 1 (by omega)]; exact s2
  · rw [f0 2 (by omega)]; exact s3
  · rw [f0 3 (by omega)]; exact s3'
  · rw [f0 (68 + k) (by omega), f0 (80 + k) (by omega)]; exact s4 k hk
  · rw [f0 (4 + r) (by omega), f0 (12 + r) (by omega), f0 (20 + r) (by omega), f0 (28 + r) (by omega), f0 (36 + r) (by omega), f0 (44 + r) (by omega), f0 (52 + r) (by omega), f0 (60 + r) (by omega)]
    exact s5 r hr
theorem sSV_t (hV : sSV n h L hp S) {v : Nat} (hv : v ≤ 100000) : sSV n h L hp (u2 S 0 1 v) := ⟨⟨⟨hv, hV.1.1.2⟩, hV.1.2⟩, hV.2⟩
theorem min_8 : ∀ n, n < 9 → fJM_min (nI 8) (nI n) = some (nI n) := by decide +kernel
theorem tick_all (hB : sQB n h L e t hp hm) (hC : sQC n h L e t hp hm sr q) (hM : sQM n h L e t hp hm sr (m0.1 2)) (hT : T < 100000) (hR : RT n h L hp m0 T (8 * T) sc m) : ∃ sc' m', fSc_letTickGo q sc = some sc' ∧ fMo_tick m = some m' ∧ RT n h L hp m0 (T + 1) (8 * (T + 1)) sc' m' := by
  obtain ⟨b1, b2, b3, b4, b5, b6, b7, b8, b9⟩ := id hB
  have c4 := hC.1.2.2.2.2
  have cM : ∀ {x : Obj} {B : Nat} {y : Obj}, RT n h L hp m0 T B y x → x.1 2 1 = nI n := fun hz => by
    obtain ⟨_, _, _, _, hf, _⟩ := hz
    exact (sQM_fr hB hM hf).1.2.1
  obtain ⟨x1, y1, e1, e2, R1⟩ := lpp (f := fSc_letTickGo_L15 q (nI n)) (g := fMo_tick_L2) (J := fun _ x y => RT n h L hp m0 T (8 * T) x y) n (by omega) hR (fun k x y hk hz => tick_stay hB hC hM hz hk) (fun x y hz => by
    have := cM hz
    unfold fSc_letTickGo_L15 fMo_tick_L2
    simp only [this]
    rw [if_pos (by rw [nle (by omega) (by omega)]; omega)]
    exact ⟨rfl, if_pos (by rw [nle (by omega) (by omega)]; omega)⟩)
  obtain ⟨x2, y2, e3, e4, R2⟩ := lpp (f := fSc_letTickGo_L43 q (nI n)) (g := fMo_tick_L68) (J := fun _ x y => RT n h L hp m0 T (8 * T) x y) n (by omega) R1 (fun k x y hk hz => tick_walk hB hC hM hz hk) (fun x y hz => by
    have := cM hz
    unfold fSc_letTickGo_L43 fMo_tick_L68
    simp only [this]
    rw [if_pos (by rw [nle (by omega) (by omega)]; omega)]
    exact ⟨rfl, if_pos (by rw [nle (by omega) (by omega)]; omega)⟩)
  obtain ⟨x3, y3, e5, e6, R3⟩ := lpp (f := fSc_letTickGo_L70 q (nI n)) (g := fMo_tick_L103) (J := fun _ x y => RT n h L hp m0 T (8 * T) x y) n (by omega) R2 (fun k x y hk hz => tick_call hB hC hM hz hk) (fun x y hz => by
    have := cM hz
    unfold fSc_letTickGo_L70 fMo_tick_L103
    simp only [this]
    rw [if_pos (by rw [nle (by omega) (by omega)]; omega)]
    exact ⟨rfl, if_pos (by rw [nle (by omega) (by omega)]; omega)⟩)
  obtain ⟨x4, y4, e7, e8, R4⟩ := iter2 (f := fSc_letTickGo_L99 q (nI n)) (g := fMo_tick_L174) (I := fun k a a' => ∃ bz, bz < 256 ∧ a.1 = nI bz ∧ a'.1 = nI bz ∧ a.2.1 = nI k ∧ a'.2.1 = nI k ∧ RT n h L hp m0 T (8 * T + k) a.2.2 a'.2.2) (E := fun x y => RT n h L hp m0 T (8 * T + n) x y) n (by omega) (a := (nI 0, nI 0, x3)) (a' := (nI 0, nI 0, y3)) ⟨0, by omega, rfl, rfl, rfl, rfl, R3⟩ (fun k a a' hk hz => by
      obtain ⟨a1, a2, a3⟩ := a
      obtain ⟨a1', a2', a3'⟩ := a'
      obtain ⟨bz, h1, h2, h3, h4, h5, h6⟩ := hz
      simp only at h2 h3 h4 h5 h6
      subst h2 h3 h4 h5
      obtain ⟨sc', m', bz', g1, g2, g3, g4⟩ := tick_open hB hC hM h6 (by omega) hk h1
      exact Or.inl ⟨_, _, g2, g3, bz', g1, rfl, rfl, rfl, rfl, g4⟩) (fun a a' hz => by
      obtain ⟨a1, a2, a3⟩ := a
      obtain ⟨a1', a2', a3'⟩ := a'
      obtain ⟨bz, h1, h2, h3, h4, h5, h6⟩ := hz
      simp only at h2 h3 h4 h5 h6
      subst h2 h3 h4 h5
      have := cM h6
      unfold fSc_letTickGo_L99 fMo_tick_L174
      simp only [this]
      rw [if_pos (by rw [nle (by omega) (by omega)]; omega), if_pos (by rw [nle (by omega) (by omega)]; omega)]
      exact ⟨_, _, rfl, rfl, h6⟩)
  obtain ⟨S, hV, hS, hD, hf, hT', hBd⟩ := R4
  have g1 := sSC_t hS (v := T + 1)
  have g2 := sSM_t hD (v := T + 1)
  have s1 := hS.1.1
  have s2 := (sSM_live hD).1.1
  rw [hT'] at s1 s2
  refine ⟨_, _, ?_, ?_, u2 S 0 1 (T + 1), sSV_t hV (by omega), g1, g2, mFr_trans hf (mFr_sI (by omega) (by omega)), rfl, ?_⟩
  · unfold fSc_letTickGo
    simp only [lit, c4, min_8 n (by omega), Option.bind_some, e1, e3, e5, e7, bnd, s1, nadd]
  · unfold fMo_tick
    simp only [lit, Option.bind_some, e2, e4, e6, e8, bnd, s2, nadd]
  · show S 0 0 ≤ _
    omega
end
