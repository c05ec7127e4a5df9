def seedN (s : Int32) : Int32 := s * (1103515245 : Int32) + (12345 : Int32)
def drwN (s : Int32) (k : Nat) : Nat := ((seedN s).toBitVec.toNat / 256) % k
theorem drw_v (s : Int32) {k : Nat} (h1 : 1 ≤ k) (hk : k ≤ 8) : irm (ushr (seedN s) (8 : Int32)) (nI k) = nI (drwN s k) := by
  unfold drwN
  generalize seedN s = x
  have h3 : x.toBitVec.toNat / 256 < 2 ^ 31 := by
    have := x.toBitVec.isLt
    omega
  have h2 : ushr x (8 : Int32) = nI (x.toBitVec.toNat / 256) := by
    apply Int32.toBitVec_inj.mp
    apply BitVec.eq_of_toNat_eq
    unfold ushr
    rw [pk_ushr x 8 8 (by decide +kernel), pk_tn (by omega)]
  rw [h2]
  exact pk_rem h3 (by omega) (by omega)
theorem drw_lt (s : Int32) {k : Nat} (h1 : 1 ≤ k) : drwN s k < k := Nat.mod_lt _ (by omega)
def RD (n h L : Nat) (hp : Nat → Nat) (m0 : Obj) (T : Nat) (sc m : Obj) : Prop := ∃ S, sSV n h L hp S ∧ sSC n S sc ∧ sSM n S (dOf m) ∧ mg m0 m ∧ S 0 1 = T ∧ S 0 0 ≤ 8 * T ∧ sc.1 0 14 = m.1 0 34
section
variable {X X' X1 : Nat → Obj} {n h L e t : Nat} {hp hm : Nat → Nat} {sr : Nat → Bool} {q m m' m0 m1 sc sc0 sc2 : Obj} {S S' : Nat → Nat → Nat} {T B : Nat} {d un un' : Nat → Int32} {many many' : Int32}
theorem sc_drw {k : Nat} (h1 : 1 ≤ k) (hk : k ≤ 8) : fSc_draw sc (nI k) = some (nI (drwN (sc.1 0 14) k), sI sc 0 14 (seedN (sc.1 0 14))) := by
  show (if nI k ≤ (0 : Int32) then some ((0 : Int32), sI sc 0 14 (seedN (sc.1 0 14))) else (nz (nI k)).bind fun _ => some (irm (ushr (seedN (sc.1 0 14)) 8) (nI k), sI sc 0 14 (seedN (sc.1 0 14)))) = _
  rw [drw_v _ h1 hk]
  unfold nz
  simp only [lit]
  rw [if_neg (by rw [nle (by omega) (by omega)]; omega), if_neg (by rw [neq (by omega) (by omega)]; omega)]
  rfl
theorem mo_drw {k : Nat} (h1 : 1 ≤ k) (hk : k ≤ 8) : fMo_draw m (nI k) = some (nI (drwN (m.1 0 34) k), sI m 0 34 (seedN (m.1 0 34))) := by
  show ((nz (nI k)).bind fun _ => some (irm (ushr (seedN (m.1 0 34)) 8) (nI k), sI m 0 34 (seedN (m.1 0 34)))) = _
  rw [drw_v _ h1 hk]
  unfold nz
  simp only [lit]
  rw [if_neg (by rw [neq (by omega) (by omega)]; omega)]
  rfl
theorem mg_sd {v : Int32} : mg m (sI m 0 34 v) := ⟨mf_sI (by omega), fun _ _ => rfl, rfl, rfl, rfl⟩
theorem sQM_mg (hB : sQB n h L e t hp hm) (hM : sQM n h L e t hp hm sr (m.1 2)) (hf : mg m m') : sQM n h L e t hp hm sr (m'.1 2) := by
  have hs := hf.2.1
  obtain ⟨b1, b2, -⟩ := hB
  obtain ⟨⟨c0, c1, c2, c3, c4⟩, c5, c6, c7⟩ := hM
  refine ⟨⟨?_, ?_, ?_, ?_, ?_⟩, fun k hk => ?_, fun p hpn => ?_, ?_⟩
  · rw [hs 0 (by omega)]; exact c0
  · rw [hs 1 (by omega)]; exact c1
  · rw [hs 2 (by omega)]; exact c2
  · rw [hs 3 (by omega)]; exact c3
  · rw [hs 4 (by omega)]; exact c4
  · rw [hs (5 + k) (by omega)]; exact c5 k hk
  · rw [hs (11 + p) (by omega)]; exact c6 p hpn
  · rw [hs 35 (by omega)]; exact c7
theorem RD_sd (hR : RD n h L hp m0 T sc m) (s : Int32) : RD n h L hp m0 T (sI sc 0 14 s) (sI m 0 34 s) := by
  obtain ⟨S, hV, hS, hD, hf, hT, hG, hs⟩ := hR
  exact ⟨S, hV, hS, hD, mg_trans hf mg_sd, hT, hG, by rw [sI_1, if_pos ⟨rfl, rfl⟩, sI_1, if_pos ⟨rfl, rfl⟩]⟩
theorem draw_knock (hB : sQB n h L e t hp hm) (hC : sQC n h L e t hp hm sr q) (hM : sQM n h L e t hp hm sr (m0.1 2)) {sc1 m1 : Obj} (g1 : fSc_draw sc (nI 8) = some (nI 0, sc1)) (g2 : fMo_draw m (nI 8) = some (nI 0, m1)) (base : RD n h L hp m0 T sc1 m1) {p : Nat} (hpn : p < n) : ∃ sc' m', fSc_actByDraw q sc (nI p) = some sc' ∧ fMo_drawPerson m (nI p) = some m' ∧ RD n h L hp m0 T sc' m' := by
  obtain ⟨S, hV, hS1, hD1, hf1, hT, hG, hs⟩ := id base
  obtain ⟨b1, b2, b3, b4, b5, b6, b7, b8, b9⟩ := id hB
  have c3 := hC.1.2.2.2.1
  have hM1 := sQM_mg hB hM hf1
  have c0 := hM1.1.1
  have u4 : ¬ nI 0 = nI 1 := by decide +kernel
  have u5 : ¬ nI 0 = nI 2 := by decide +kernel
  have u6 : ¬ nI 0 = nI 3 := by decide +kernel
  by_cases hh : h = 0
  · refine ⟨sc1, m1, ?_, ?_, base⟩
    · unfold fSc_actByDraw
      simp only [lit]
      rw [g1]
      simp only [Option.bind_some, if_true]
      rw [c3, hh, if_pos (by rw [nle (by omega) (by omega)]; omega)]
    · unfold fMo_drawPerson fMo_drawPerson_J37 fMo_drawPerson_J62 fMo_drawPerson_J71
      simp only [lit]
      rw [g2]
      simp only [Option.bind_some, u4, u6, if_false, if_true]
      rw [c0, hh, if_pos rfl]
  have d1 := sc_drw (sc := sc1) (k := h) (by omega) (by omega)
  have d2 := mo_drw (m := m1) (k := h) (by omega) (by omega)
  have e1 : (sI sc1 0 14 (seedN (sc1.1 0 14))).1 0 14 = seedN (sc1.1 0 14) := by rw [sI_1, if_pos ⟨rfl, rfl⟩]
  have e2 : (sI m1 0 34 (seedN (m1.1 0 34))).1 0 34 = seedN (m1.1 0 34) := by rw [sI_1, if_pos ⟨rfl, rfl⟩]
  rw [← hs] at d2 e2
  have hkh := drw_lt (sc1.1 0 14) (k := h) (by omega)
  revert d1 d2 hkh e1 e2
  generalize drwN (sc1.1 0 14) h = kh
  generalize seedN (sc1.1 0 14) = s2
  intro d1 d2 e1 e2 hkh
  have hS2 : sSC n S (sI sc1 0 14 s2) := hS1
  have hD2 : sSM n S (dOf (sI m1 0 34 s2)) := hD1
  have hM2 : sQM n h L e t hp hm sr ((sI m1 0 34 s2).1 2) := hM1
  have hf2 : mg m0 (sI m1 0 34 s2) := mg_trans hf1 mg_sd
  revert d1 d2 e1 e2 hS2 hD2 hM2 hf2
  generalize sI sc1 0 14 s2 = sc2
  generalize sI m1 0 34 s2 = m2
  intro d1 d2 e1 e2 hS2 hD2 hM2 hf2
  obtain ⟨sc3, w1, w2⟩ := sc_tryK hB hC hV hS2 hpn hkh
  have w3 := mo_whyK hB hM2 hV hD2 hpn hkh
  have w4 := dk_tryK (q := q) (v1 := nI p) (v2 := nI kh) e1 _ w1
  have hwl : whyK hp hm S p kh ≤ 3 := by
    unfold whyK
    split
    · split
      · split <;> omega
      · omega
    · omega
  have l1 : fSc_actByDraw q sc (nI p) = some sc3 := by
    unfold fSc_actByDraw
    simp only [lit]
    rw [g1]
    simp only [Option.bind_some, if_true]
    rw [c3, if_neg (by rw [nle (by omega) (by omega)]; omega), d1]
    simp only [Option.bind_some, w1]
  have l2 : fMo_drawPerson m (nI p) = if whyK hp hm S p kh = 0 then fMo_stands m2 (nI p) (nI 1) (nI kh) else some m2 := by
    unfold fMo_drawPerson fMo_drawPerson_J37 fMo_drawPerson_J62 fMo_drawPerson_J71 fMo_drawPerson_J112
    simp only [lit]
    rw [g2]
    simp only [Option.bind_some, u4, u5, u6, if_false, if_true]
    rw [c0, if_neg (by rw [neq (by omega) (by omega)]; omega), d2]
    simp only [Option.bind_some, w3]
    by_cases h0 : whyK hp hm S p kh = 0
    · rw [if_pos h0, if_pos (by rw [h0])]
      cases fMo_stands m2 (nI p) (nI 1) (nI kh) <;> rfl
    · rw [if_neg h0, if_neg (by rw [neq (by omega) (by omega)]; exact h0)]
  rw [l1, l2]
  by_cases h0 : whyK hp hm S p kh = 0
  · rw [if_pos h0] at w2 ⊢
    have hy := whyK_0 h0
    obtain ⟨m3, t1, t2, t3⟩ := mo_doK hB hM2 hV hD2 (k := kh) hpn hy.1
    refine ⟨sc3, m3, rfl, t1, doK S p kh, sSV_doK hB hV hpn hkh hy, w2, t3, mg_trans hf2 (mg_fr t2), hT, hG, ?_⟩
    rw [w4, mFr_1 t2 (by omega), e2]
  · rw [if_neg h0] at w2 ⊢
    refine ⟨sc3, _, rfl, rfl, S, hV, w2, hD2, hf2, hT, hG, ?_⟩
    rw [w4, e2]
theorem draw_go (hB : sQB n h L e t hp hm) (hC : sQC n h L e t hp hm sr q) (hM : sQM n h L e t hp hm sr (m0.1 2)) {sc1 m1 : Obj} (g1 : fSc_draw sc (nI 8) = some (nI 1, sc1)) (g2 : fMo_draw m (nI 8) = some (nI 1, m1)) (base : RD n h L hp m0 T sc1 m1) {p : Nat} (hpn : p < n) : ∃ sc' m', fSc_actByDraw q sc (nI p) = some sc' ∧ fMo_drawPerson m (nI p) = some m' ∧ RD n h L hp m0 T sc' m' := by
  obtain ⟨S, hV, hS1, hD1, hf1, hT, hG, hs⟩ := id base
  obtain ⟨b1, b2, b3, b4, b5, b6, b7, b8, b9⟩ := id hB
  have c3 := hC.1.2.2.2.1
  have hM1 := sQM_mg hB hM hf1
  have c0 := hM1.1.1
  have u1 : ¬ nI 1 = nI 0 := by decide +kernel
  have u10 : ¬ nI 1 = nI 3 := by decide +kernel
  have u11 : ¬ nI 1 = nI 2 := by decide +kernel
  have d1 := sc_drw (sc := sc1) (k := 3) (by omega) (by omega)
  have d2 := mo_drw (m := m1) (k := 3) (by omega) (by omega)
  have e1 : (sI sc1 0 14 (seedN (sc1.1 0 14))).1 0 14 = seedN (sc1.1 0 14) := by rw [sI_1, if_pos ⟨rfl, rfl⟩]
  have e2 : (sI m1 0 34 (seedN (m1.1 0 34))).1 0 34 = seedN (m1.1 0 34) := by rw [sI_1, if_pos ⟨rfl, rfl⟩]
  rw [← hs] at d2 e2
  have hkh := drw_lt (sc1.1 0 14) (k := 3) (by omega)
  revert d1 d2 hkh e1 e2
  generalize drwN (sc1.1 0 14) 3 = kh
  generalize seedN (sc1.1 0 14) = s2
  intro d1 d2 e1 e2 hkh
  have hS2 : sSC n S (sI sc1 0 14 s2) := hS1
  have hD2 : sSM n S (dOf (sI m1 0 34 s2)) := hD1
  have hM2 : sQM n h L e t hp hm sr ((sI m1 0 34 s2).1 2) := hM1
  have hf2 : mg m0 (sI m1 0 34 s2) := mg_trans hf1 mg_sd
  revert d1 d2 e1 e2 hS2 hD2 hM2 hf2
  generalize sI sc1 0 14 s2 = sc2
  generalize sI m1 0 34 s2 = m2
  intro d1 d2 e1 e2 hS2 hD2 hM2 hf2
  obtain ⟨sc3, w1, w2⟩ := sc_tryG hB hC hV hS2 hpn hkh
  have w3 := mo_whyG hB hV hD2 hpn hkh
  have w4 := dk_tryG (q := q) (v1 := nI p) (v2 := nI kh) e1 _ w1
  have hwl : whyG S p kh ≤ 2 := by
    unfold whyG
    split
    · split <;> omega
    · omega
  have l1 : fSc_actByDraw q sc (nI p) = some sc3 := by
    unfold fSc_actByDraw
    simp only [lit]
    rw [g1]
    simp only [Option.bind_some, if_true, u1, if_false]
    rw [d1]
    simp only [Option.bind_some, w1]
  have l2 : fMo_drawPerson m (nI p) = some (if whyG S p kh = 0 then sI m2 2 (89 + p) (nI kh) else m2) := by
    unfold fMo_drawPerson fMo_drawPerson_J37 fMo_drawPerson_J62
    simp only [lit]
    rw [g2]
    simp only [Option.bind_some, u1, u10, u11, if_false, if_true]
    rw [d2]
    simp only [Option.bind_some, w3, nadd, bnd]
    rw [ix_nI (by omega) (by omega)]
    by_cases h0 : whyG S p kh = 0
    · rw [if_pos h0, if_pos (by rw [h0])]; rfl
    · rw [if_neg h0, if_neg (by rw [neq (by omega) (by omega)]; exact h0)]
  rw [l1, l2]
  by_cases h0 : whyG S p kh = 0
  · rw [if_pos h0] at w2 ⊢
    obtain ⟨t2, t3⟩ := mo_doG hB hV hD2 (w := kh) hpn
    refine ⟨sc3, _, rfl, rfl, doG S p kh, sSV_doG hV hpn hkh, w2, t3, mg_trans hf2 (mg_fr t2), hT, hG, ?_⟩
    rw [w4, mFr_1 t2 (by omega), e2]
  · rw [if_neg h0] at w2 ⊢
    refine ⟨sc3, _, rfl, rfl, S, hV, w2, hD2, hf2, hT, hG, ?_⟩
    rw [w4, e2]
theorem draw_call (hB : sQB n h L e t hp hm) (hC : sQC n h L e t hp hm sr q) (hM : sQM n h L e t hp hm sr (m0.1 2)) {sc1 m1 : Obj} (g1 : fSc_draw sc (nI 8) = some (nI 2, sc1)) (g2 : fMo_draw m (nI 8) = some (nI 2, m1)) (base : RD n h L hp m0 T sc1 m1) {p : Nat} (hpn : p < n) : ∃ sc' m', fSc_actByDraw q sc (nI p) = some sc' ∧ fMo_drawPerson m (nI p) = some m' ∧ RD n h L hp m0 T sc' m' := by
  obtain ⟨S, hV, hS1, hD1, hf1, hT, hG, hs⟩ := id base
  obtain ⟨b1, b2, b3, b4, b5, b6, b7, b8, b9⟩ := id hB
  have c3 := hC.1.2.2.2.1
  have hM1 := sQM_mg hB hM hf1
  have c0 := hM1.1.1
  have u2q : ¬ nI 2 = nI 0 := by decide +kernel
  have u7 : ¬ nI 2 = nI 1 := by decide +kernel
  have u12 : ¬ nI 2 = nI 3 := by decide +kernel
  by_cases hh : h = 0
  · refine ⟨sc1, m1, ?_, ?_, base⟩
    · unfold fSc_actByDraw
      simp only [lit]
      rw [g1]
      simp only [Option.bind_some, if_true, u2q, u7, if_false]
      rw [c3, hh, if_pos (by rw [nle (by omega) (by omega)]; omega)]
    · unfold fMo_drawPerson fMo_drawPerson_J37 fMo_drawPerson_J62 fMo_drawPerson_J71
      simp only [lit]
      rw [g2]
      simp only [Option.bind_some, u7, u12, u2q, if_false, if_true]
      rw [c0, hh, if_pos rfl]
  have d1 := sc_drw (sc := sc1) (k := h) (by omega) (by omega)
  have d2 := mo_drw (m := m1) (k := h) (by omega) (by omega)
  have e1 : (sI sc1 0 14 (seedN (sc1.1 0 14))).1 0 14 = seedN (sc1.1 0 14) := by rw [sI_1, if_pos ⟨rfl, rfl⟩]
  have e2 : (sI m1 0 34 (seedN (m1.1 0 34))).1 0 34 = seedN (m1.1 0 34) := by rw [sI_1, if_pos ⟨rfl, rfl⟩]
  rw [← hs] at d2 e2
  have hkh := drw_lt (sc1.1 0 14) (k := h) (by omega)
  revert d1 d2 hkh e1 e2
  generalize drwN (sc1.1 0 14) h = kh
  generalize seedN (sc1.1 0 14) = s2
  intro d1 d2 e1 e2 hkh
  have hS2 : sSC n S (sI sc1 0 14 s2) := hS1
  have hD2 : sSM n S (dOf (sI m1 0 34 s2)) := hD1
  have hM2 : sQM n h L e t hp hm sr ((sI m1 0 34 s2).1 2) := hM1
  have hf2 : mg m0 (sI m1 0 34 s2) := mg_trans hf1 mg_sd
  revert d1 d2 e1 e2 hS2 hD2 hM2 hf2
  generalize sI sc1 0 14 s2 = sc2
  generalize sI m1 0 34 s2 = m2
  intro d1 d2 e1 e2 hS2 hD2 hM2 hf2
  obtain ⟨sc3, w1, w2⟩ := sc_tryC hB hC hV hS2 hpn hkh
  have w3 := mo_whyC hB hM2 hV hD2 hpn hkh
  have w4 := dk_tryC (q := q) (v1 := nI p) (v2 := nI kh) e1 _ w1
  have hwl : whyC hm S p kh ≤ 3 := by
    unfold whyC
    split
    · omega
    · split
      · omega
      · split <;> omega
  have l1 : fSc_actByDraw q sc (nI p) = some sc3 := by
    unfold fSc_actByDraw
    simp only [lit]
    rw [g1]
    simp only [Option.bind_some, if_true, u2q, u7, if_false]
    rw [c3, if_neg (by rw [nle (by omega) (by omega)]; omega), d1]
    simp only [Option.bind_some, w1]
  have l2 : fMo_drawPerson m (nI p) = if whyC hm S p kh = 0 then fMo_books m2 (nI p) (nI kh) else some m2 := by
    unfold fMo_drawPerson fMo_drawPerson_J37 fMo_drawPerson_J62 fMo_drawPerson_J71 fMo_drawPerson_J112
    simp only [lit]
    rw [g2]
    simp only [Option.bind_some, u7, u12, u2q, if_false, if_true]
    rw [c0, if_neg (by rw [neq (by omega) (by omega)]; omega), d2]
    simp only [Option.bind_some, w3]
    by_cases h0 : whyC hm S p kh = 0
    · rw [if_pos h0, if_pos (by rw [h0])]
      cases fMo_books m2 (nI p) (nI kh) <;> rfl
    · rw [if_neg h0, if_neg (by rw [neq (by omega) (by omega)]; exact h0)]
  rw [l1, l2]
  by_cases h0 : whyC hm S p kh = 0
  · rw [if_pos h0] at w2 ⊢
    obtain ⟨m3, t1, t2, t3⟩ := mo_doC hB hV hD2 (k := kh) hpn h0
    refine ⟨sc3, m3, rfl, t1, doC S p kh, sSV_doC hV hpn hkh h0, w2, t3, mg_trans hf2 (mg_fr t2), hT, hG, ?_⟩
    rw [w4, mFr_1 t2 (by omega), e2]
  · rw [if_neg h0] at w2 ⊢
    refine ⟨sc3, _, rfl, rfl, S, hV, w2, hD2, hf2, hT, hG, ?_⟩
    rw [w4, e2]
theorem draw_quit (hB : sQB n h L e t hp hm) (hC : sQC n h L e t hp hm sr q) (hM : sQM n h L e t hp hm sr (m0.1 2)) {sc1 m1 : Obj} (g1 : fSc_draw sc (nI 8) = some (nI 3, sc1)) (g2 : fMo_draw m (nI 8) = some (nI 3, m1)) (base : RD n h L hp m0 T sc1 m1) {p : Nat} (hpn : p < n) : ∃ sc' m', fSc_actByDraw q sc (nI p) = some sc' ∧ fMo_drawPerson m (nI p) = some m' ∧ RD n h L hp m0 T sc' m' := by
  obtain ⟨S, hV, hS1, hD1, hf1, hT, hG, hs⟩ := id base
  obtain ⟨b1, b2, b3, b4, b5, b6, b7, b8, b9⟩ := id hB
  have c3 := hC.1.2.2.2.1
  have hM1 := sQM_mg hB hM hf1
  have c0 := hM1.1.1
  have u3 : ¬ nI 3 = nI 0 := by decide +kernel
  have u8 : ¬ nI 3 = nI 1 := by decide +kernel
  have u9 : ¬ nI 3 = nI 2 := by decide +kernel
  obtain ⟨sc3, w1, w2⟩ := sc_tryQ hB hC hV hS1 hpn
  have w4 := dk_tryQ (q := q) (v := nI p) rfl _ w1
  have d3 := ((sSM_live hD1).2.2 p hpn).1
  have v3 := (hV.2.2.1 p hpn).1.1
  have l1 : fSc_actByDraw q sc (nI p) = some sc3 := by
    unfold fSc_actByDraw
    simp only [lit]
    rw [g1]
    simp only [Option.bind_some, if_true, u3, u8, u9, if_false, w1]
  have l2 : fMo_drawPerson m (nI p) = if S 3 p = 1 then fMo_stands m1 (nI p) (nI 0) (-nI 1) else some m1 := by
    unfold fMo_drawPerson fMo_drawPerson_J37 fMo_drawPerson_J62
    simp only [lit, nadd]
    rw [g2, Option.bind_some, if_neg u8, if_pos rfl, ix_nI (by omega) (by omega), Option.bind_some, d3, if_neg u3, if_neg u9]
    by_cases h0 : S 3 p = 1
    · rw [if_pos h0, if_pos (by rw [h0])]
      cases fMo_stands m1 (nI p) (nI 0) (-nI 1) with
      | none => rfl
      | some x => rw [Option.bind_some, if_neg u3, if_neg u9]
    · rw [if_neg h0, if_neg (by rw [neq (by omega) (by omega)]; exact h0)]
  rw [l1, l2]
  unfold whyQ at w2
  by_cases h0 : S 3 p = 1
  · rw [if_pos h0] at w2 ⊢
    rw [if_pos rfl] at w2
    obtain ⟨m2, t1, t2, t3⟩ := mo_doQ hB hM1 hV hD1 hpn
    refine ⟨sc3, m2, rfl, t1, stn S p 0 0 0, sSV_lane hV hpn, w2, t3, mg_trans hf1 (mg_fr t2), hT, hG, ?_⟩
    rw [w4, mFr_1 t2 (by omega), hs]
  · rw [if_neg h0] at w2 ⊢
    rw [if_neg (by omega)] at w2
    refine ⟨sc3, _, rfl, rfl, S, hV, w2, hD1, hf1, hT, hG, ?_⟩
    rw [w4, hs]
theorem draw_act' (hB : sQB n h L e t hp hm) (hC : sQC n h L e t hp hm sr q) (hM : sQM n h L e t hp hm sr (m0.1 2)) {sc1 m1 : Obj} {k0 : Nat} (hk8 : k0 < 8) (g1 : fSc_draw sc (nI 8) = some (nI k0, sc1)) (g2 : fMo_draw m (nI 8) = some (nI k0, m1)) (base : RD n h L hp m0 T sc1 m1) {p : Nat} (hpn : p < n) : ∃ sc' m', fSc_actByDraw q sc (nI p) = some sc' ∧ fMo_drawPerson m (nI p) = some m' ∧ RD n h L hp m0 T sc' m' := by
  by_cases k1 : k0 = 0
  · subst k1; exact draw_knock hB hC hM g1 g2 base hpn
  by_cases k2 : k0 = 1
  · subst k2; exact draw_go hB hC hM g1 g2 base hpn
  by_cases k3 : k0 = 2
  · subst k3; exact draw_call hB hC hM g1 g2 base hpn
  by_cases k4 : k0 = 3
  · subst k4; exact draw_quit hB hC hM g1 g2 base hpn
  have n0 : ¬ nI k0 = nI 0 := by rw [neq (by omega) (by omega)]; exact k1
  have n1 : ¬ nI k0 = nI 1 := by rw [neq (by omega) (by omega)]; exact k2
  have n2 : ¬ nI k0 = nI 2 := by rw [neq (by omega) (by omega)]; exact k3
  have n3 : ¬ nI k0 = nI 3 := by rw [neq (by omega) (by omega)]; exact k4
  refine ⟨sc1, m1, ?_, ?_, base⟩
  · unfold fSc_actByDraw
    simp only [lit]
    rw [g1]
    simp only [Option.bind_some, n0, n1, n2, n3, if_false]
  · unfold fMo_drawPerson fMo_drawPerson_J37 fMo_drawPerson_J62
    simp only [lit]
    rw [g2]
    rw [Option.bind_some, if_neg n1, if_neg n3, if_neg n0, if_neg n2]
theorem mo_drw' {k : Nat} {s : Int32} (hs : s = m.1 0 34) (h1 : 1 ≤ k) (hk : k ≤ 8) : fMo_draw m (nI k) = some (nI (drwN s k), sI m 0 34 (seedN s)) := by
  subst hs
  exact mo_drw h1 hk
theorem draw_act (hB : sQB n h L e t hp hm) (hC : sQC n h L e t hp hm sr q) (hM : sQM n h L e t hp hm sr (m0.1 2)) (hR : RD n h L hp m0 T sc m) {p : Nat} (hpn : p < n) : ∃ sc' m', fSc_actByDraw q sc (nI p) = some sc' ∧ fMo_drawPerson m (nI p) = some m' ∧ RD n h L hp m0 T sc' m' := by
  have hs : sc.1 0 14 = m.1 0 34 := by
    obtain ⟨S, hV, hS, hD, hf, hT, hG, hs⟩ := hR
    exact hs
  exact draw_act' hB hC hM (drw_lt _ (by decide)) (sc_drw (by decide) (by decide)) (mo_drw' hs (by decide) (by decide)) (RD_sd hR _) hpn
end
