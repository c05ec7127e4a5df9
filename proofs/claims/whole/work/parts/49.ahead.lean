theorem iter2x_r {α β α' β' : Type} {f : α → Option (α ⊕ β)} {g : α' → Option (α' ⊕ β')} (I : Nat → α → α' → Prop) (E : β → β' → Prop) (N : Nat)
    (hs : ∀ k a a', k < N → I k a a' → (∃ b b', f a = some (.inl b) ∧ g a' = some (.inl b') ∧ I (k + 1) b b') ∨ (∃ e e', iter f 2 a = some e ∧ iter g 2 a' = some e' ∧ E e e'))
    (he : ∀ a a', I N a a' → ∃ e e', iter f 2 a = some e ∧ iter g 2 a' = some e' ∧ E e e') : ∀ j k a a', k + j = N → I k a a' → ∀ n, j + 2 ≤ n → ∃ e e', iter f n a = some e ∧ iter g n a' = some e' ∧ E e e' := by
  intro j
  induction j with
  | zero =>
    intro k a a' hk hI n hn
    have hkN : k = N := by omega
    subst hkN
    obtain ⟨e, e', h1, h2, h3⟩ := he a a' hI
    exact ⟨e, e', iter_mono 2 (by omega) h1, iter_mono 2 (by omega) h2, h3⟩
  | succ j ih =>
    intro k a a' hk hI n hn
    rcases hs k a a' (by omega) hI with ⟨b, b', h1, h2, h3⟩ | ⟨e, e', h1, h2, h3⟩
    · cases n with
      | zero => omega
      | succ n =>
        obtain ⟨e, e', h4, h5, h6⟩ := ih (k + 1) b b' (by omega) h3 n (by omega)
        exact ⟨e, e', by rw [iter_s, h1]; exact h4, by rw [iter_s, h2]; exact h5, h6⟩
    · exact ⟨e, e', iter_mono 2 (by omega) h1, iter_mono 2 (by omega) h2, h3⟩
theorem iter2x {α β α' β' : Type} {f : α → Option (α ⊕ β)} {g : α' → Option (α' ⊕ β')} (I : Nat → α → α' → Prop) (E : β → β' → Prop) (N : Nat) (hN : N < 1998) {a : α} {a' : α'} (h0 : I 0 a a')
    (hs : ∀ k a a', k < N → I k a a' → (∃ b b', f a = some (.inl b) ∧ g a' = some (.inl b') ∧ I (k + 1) b b') ∨ (∃ e e', iter f 2 a = some e ∧ iter g 2 a' = some e' ∧ E e e'))
    (he : ∀ a a', I N a a' → ∃ e e', iter f 2 a = some e ∧ iter g 2 a' = some e' ∧ E e e') : ∃ e e', iter f FU a = some e ∧ iter g FU a' = some e' ∧ E e e' :=
  iter2x_r I E N hs he N 0 a a' (by omega) h0 FU (Nat.le_trans (by omega) FU_ge)
theorem iter_1 {α β : Type} {f : α → Option (α ⊕ β)} {a : α} {e : β} (h : f a = some (.inr e)) : iter f 2 a = some e := by rw [iter_s, h]; rfl
theorem iter_2 {α β : Type} {f : α → Option (α ⊕ β)} {a b : α} {e : β} (h : f a = some (.inl b)) (h2 : f b = some (.inr e)) : iter f 2 a = some e := by
  rw [iter_s, h]
  show iter f 1 b = _
  rw [iter_s, h2]; rfl
def mg (m m' : Obj) : Prop := mf m m' ∧ (∀ i, i < 69 ∨ 161 ≤ i → m'.1 2 i = m.1 2 i) ∧ m'.1 7 = m.1 7 ∧ m'.1 8 = m.1 8 ∧ m'.1 0 23 = m.1 0 23
section
variable {X X' X1 : Nat → Obj} {n h L e t : Nat} {hp hm : Nat → Nat} {sr : Nat → Bool} {q m m' m0 m1 sc sc2 : Obj} {S S' : Nat → Nat → Nat} {T B : Nat} {d un un' : Nat → Int32} {many many' : Int32}
theorem mg_refl (m : Obj) : mg m m := ⟨mf_refl m, fun _ _ => rfl, rfl, rfl, rfl⟩
theorem mg_trans {a b c : Obj} (h1 : mg a b) (h2 : mg b c) : mg a c :=
  ⟨mf_trans h1.1 h2.1, fun i hi => (h2.2.1 i hi).trans (h1.2.1 i hi), h2.2.2.1.trans h1.2.2.1, h2.2.2.2.1.trans h1.2.2.2.1, h2.2.2.2.2.trans h1.2.2.2.2⟩
theorem mg_fr (hf : mFr m m') : mg m m' := ⟨mf_fr hf, fun i hi => mFr_2 hf hi, funext fun i => mFr_1 hf (by omega), funext fun i => mFr_1 hf (by omega), mFr_1 hf (by omega)⟩
theorem mo_tries : fMo_tries m = some (sA m 8 (fun i => if 0 ≤ i ∧ i < 0 + 92 then m.1 2 (69 + (i - 0)) else m.1 8 i)) := by
  have key := cpyL (m := m) (f := fMo_tries_L2) 8 0 92 (by omega) (fun k => m.1 2 (69 + k)) (fun k hk => ?_) (fun x => ?_)
  · unfold fMo_tries
    simp only [lit]
    rw [key]; rfl
  · generalize hg : (fun i => if 0 ≤ i ∧ i < 0 + k then m.1 2 (69 + (i - 0)) else m.1 8 i) = g
    have e2 : (sA m 8 g).1 2 (69 + k) = m.1 2 (69 + k) := rfl
    unfold fMo_tries_L2
    simp (disch := omega) only [lit, nadd, ix_nI, Option.bind_some, bnd, e2]
    rw [if_neg (by rw [nle (by omega) (by omega)]; omega), Nat.zero_add]
  · unfold fMo_tries_L2
    simp only [lit]
    rw [if_pos (by rw [nle (by omega) (by omega)]; omega)]
theorem mo_brings : fMo_brings m = some (sA m 2 (fun i => if 69 ≤ i ∧ i < 69 + 92 then m.1 8 (i - 69) else m.1 2 i)) := by
  have key := cpyL (m := m) (f := fMo_brings_L2) 2 69 92 (by omega) (fun k => m.1 8 k) (fun k hk => ?_) (fun x => ?_)
  · unfold fMo_brings
    simp only [lit]
    rw [key]; rfl
  · generalize hg : (fun i => if 69 ≤ i ∧ i < 69 + k then m.1 8 (i - 69) else m.1 2 i) = g
    have e2 : (sA m 2 g).1 8 k = m.1 8 k := rfl
    unfold fMo_brings_L2
    simp (disch := omega) only [lit, nadd, ix_nI, Option.bind_some, bnd, e2]
    rw [if_neg (by rw [nle (by omega) (by omega)]; omega)]
  · unfold fMo_brings_L2
    simp only [lit]
    rw [if_pos (by rw [nle (by omega) (by omega)]; omega)]
/-- a look ahead, and back -/
theorem ahead (hR : R X m) : ∃ n h L e t hp hm sr S sc0 m0, sQB n h L e t hp hm ∧ sQC n h L e t hp hm sr (X 5) ∧ sQM n h L e t hp hm sr ((sI m 0 0 (nI 0)).1 2) ∧ sSV n h L hp S ∧ sSC n S (X 12) ∧ sSM n S (dOf (sI m 0 0 (nI 0))) ∧ S 0 1 ≤ 1000 ∧
    sQM n h L e t hp hm sr (m0.1 2) ∧ fSc_copyFrom (X 12) (X 201) = some sc0 ∧ fMo_tries (sI m 0 0 (nI 0)) = some m0 ∧ RT n h L hp m0 (S 0 1) (8 * S 0 1) sc0 m0 ∧ (∀ sc mc, mg m0 mc → ∃ m', fMo_brings mc = some m' ∧ R (va_up X 201 sc) m' ∧ mg m0 m' ∧ m'.1 2 = m0.1 2) ∧ (∀ sc, ∃ sc', fSc_copyFrom (X 12) sc = some sc' ∧ sSC n S sc') ∧ sSM n S (dOf m0) ∧ S 0 0 ≤ 8 * S 0 1 := by
  obtain ⟨n, h, L, e, t, hp, hm, sr, ⟨hB, hC, hM, hN, hc, hY⟩, hP, hT, hr⟩ := hR
  obtain ⟨S, hV, hS, hD, hx1, hx2⟩ := id hc
  obtain ⟨sc0, g1, g2⟩ := sSC_copy (sc := X 201) hB.1 hV.1.2 hS
  refine ⟨n, h, L, e, t, hp, hm, sr, S, sc0, _, hB, hC, hM, hV, hS, hD, hx1, ?_, g1, mo_tries, ⟨S, hV, g2, hD, mFr_refl _, rfl, hx2⟩, fun sc mc hf => ?_, fun sc => sSC_copy hB.1 hV.1.2 hS, hD, hx2⟩
  · exact hM
  · obtain ⟨f1, f2, f3, f4, f5⟩ := hf
    have e2 : (fun i => if 69 ≤ i ∧ i < 69 + 92 then mc.1 8 (i - 69) else mc.1 2 i) = m.1 2 := by
      funext i
      by_cases hi : 69 ≤ i ∧ i < 69 + 92
      · rw [if_pos hi, f4]
        show (if 0 ≤ i - 69 ∧ i - 69 < 0 + 92 then m.1 2 (69 + (i - 69 - 0)) else _) = _
        rw [if_pos (by omega), show 69 + (i - 69 - 0) = i by omega]
      · rw [if_neg hi, f2 i (by omega)]; rfl
    refine ⟨_, mo_brings, ?_, ⟨⟨f1.1, fun j a b c d => ?_, fun i a b c => ?_⟩, fun i _ => ?_, f3, f4, f5⟩, ?_⟩
    · refine R_mk hB hC hM hN hY hT hr (xf_up (by omega)) ?_ (fun i hi => ?_) ?_ ?_
      · refine mf_trans mf_thr (mf_trans (mf_sA (j := 8) (by omega)) (mf_trans f1 ⟨rfl, fun j h0 h2 h7 h8 => va_up_ne _ _ h2, fun i _ _ _ => rfl⟩))
      · show (fun i => if 69 ≤ i ∧ i < 69 + 92 then mc.1 8 (i - 69) else mc.1 2 i) i = _
        rw [e2]
      · show RC n h L hp (X 12) (fun j => (fun i => if 69 ≤ i ∧ i < 69 + 92 then mc.1 8 (i - 69) else mc.1 2 i) (69 + j))
        rw [e2]; exact hc
      · show pPast n h L hp (va_up X 201 sc) (mc.1 7) (mc.1 0 23)
        rw [f3, f5]
        exact past_up hP (by omega)
    · show va_up mc.1 2 _ j = _
      rw [va_up_ne _ _ b]
      exact f1.2.1 j a b c d
    · show mc.1 0 i = _
      exact f1.2.2 i a b c
    · show (fun i => if 69 ≤ i ∧ i < 69 + 92 then mc.1 8 (i - 69) else mc.1 2 i) i = _
      rw [e2]; rfl
    · show (fun i => if 69 ≤ i ∧ i < 69 + 92 then mc.1 8 (i - 69) else mc.1 2 i) = _
      rw [e2]; rfl
theorem xu_up {k : Nat} {a b : Obj} : va_up (va_up X k a) k b = va_up X k b := by
  funext j
  rw [va_up_at, va_up_at, va_up_at]
  by_cases h : j = k
  · rw [if_pos h, if_pos h]
  · rw [if_neg h, if_neg h, if_neg h]
theorem k_opens (hR : R X m) (v : Int32) : ∃ r X' m', fKL_opens X v = some (r, X') ∧ fMo_opens m v = some (r, m') ∧ R X' m' := by
  have hR1 := R_thr (v := nI 0) hR
  obtain ⟨n, h, L, e, t, hp, hm, sr, S, sc0, m0, hB, hC, hM, hV, hS, hD, hT0, hM0, c1, c2, hRT, hback, -⟩ := ahead hR
  have u1 : ¬ nI 1 = nI 0 := by decide +kernel
  have b1 := hB.1
  rcases isP_or v n with ⟨p, hpn, rfl⟩ | hv
  · have d3 := ((sSM_live hD).2.2 p hpn).1
    have v3 := (hV.2.2.1 p hpn).1.1
    have k1 := (sc_how hB hC hV hS hpn).2.1
    unfold fKL_opens fMo_opens
    simp (disch := omega) only [lit, bnd, k1, mo_isP hB hM hpn, Option.bind_some, u1, if_false, nadd, ix_nI, d3]
    by_cases h1 : S 3 p = 1
    · rw [h1, if_neg (show ¬ nI (if 1 = 1 then 1 else 0) = nI 0 by decide +kernel), if_pos rfl, c1, c2]
      simp only [Option.bind_some]
      have key := iter2x (f := fKL_opens_L32 (nI p)) (g := fMo_opens_L36 (nI p)) (I := fun k a a' => ∃ sc mc, a = (nI (k + 1), va_up X 201 sc) ∧ a' = (-nI 1, nI (k + 1), mc) ∧ RT n h L hp m0 (S 0 1 + k) (8 * (S 0 1 + k)) sc mc) (E := fun z z' => ∃ r sc mc, Sum.elim (fun e8 => some (-nI 1, e8)) (fun r9 => some r9) z = some (r, va_up X 201 sc) ∧ z' = (r, mc) ∧ mFr m0 mc) 300 (by omega) (a := (nI 1, va_up X 201 sc0)) (a' := (-nI 1, nI 1, m0)) ⟨sc0, m0, rfl, rfl, hRT⟩ (fun k a a' hk hz => ?_) (fun a a' hz => ?_)
      · obtain ⟨z, z', g1, g2, r, sc', mc, q1, q2, q3⟩ := key
        rw [g1, g2]
        simp only [Option.bind_some]
        obtain ⟨m', b1, b2, -⟩ := hback sc' mc (mg_fr q3)
        refine ⟨r, _, m', q1, ?_, b2⟩
        rw [q2]
        simp only [b1, Option.bind_some]
      · obtain ⟨sc, mc, rfl, rfl, hz⟩ := hz
        obtain ⟨S1, w1, w2, w3, w4, w5, w6⟩ := id hz
        have kk1 := (sc_how hB hC w1 w2 hpn).2.1
        have dd3 := ((sSM_live w3).2.2 p hpn).1
        have vv3 := (w1.2.2.1 p hpn).1.1
        have l1 : fKL_opens_L32 (nI p) (nI (k + 1), va_up X 201 sc) = (if S1 3 p = 1 then (fSc_letTickGo (X 5) sc).bind fun r5 => (fSc_isInside (X 5) r5 (nI p)).bind fun r7 => if r7 = nI 0 then some (.inl (nI (k + 2), va_up X 201 r5)) else some (.inr (.inr (nI (k + 1), va_up X 201 r5))) else some (.inr (.inl (va_up X 201 sc)))) := by
          unfold fKL_opens_L32
          simp only [lit]
          rw [if_neg (by rw [nlt (by omega) (by omega)]; omega), va_up_ne (j := 5) (k := 201) _ _ (by omega), va_up_at, if_pos rfl, kk1]
          simp only [Option.bind_some, bnd]
          by_cases h1 : S1 3 p = 1
          · rw [if_pos h1, if_pos h1, if_neg u1]
            congr 1
            funext r5
            rw [xu_up, va_up_ne (j := 5) (k := 201) _ _ (by omega), va_up_at, if_pos rfl, nadd]
          · rw [if_neg h1, if_neg h1, if_pos rfl]
        have l2 : fMo_opens_L36 (nI p) (-nI 1, nI (k + 1), mc) = (if S1 3 p = 1 then (fMo_tick mc).bind fun r6 => if r6.1 2 (73 + p) = nI 2 then some (.inl (nI (k + 1), nI (k + 2), r6)) else some (.inl (-nI 1, nI (k + 2), r6)) else some (.inr (-nI 1, mc))) := by
          unfold fMo_opens_L36
          simp only [lit, nadd]
          rw [if_neg (by rw [nlt (by omega) (by omega)]; omega), ix_nI (by omega) (by omega)]
          simp only [Option.bind_some]
          rw [dd3]
          by_cases h1 : S1 3 p = 1
          · rw [if_pos h1, if_pos (by rw [h1])]
          · rw [if_neg h1, if_neg (by rw [neq (by omega) (by omega)]; exact h1)]
        by_cases h1 : S1 3 p = 1
        · rw [if_pos h1] at l1 l2
          obtain ⟨sc2, m2, t1, t2, t3⟩ := tick_all hB hC hM0 (by omega) hz
          obtain ⟨S2, y1, y2, y3, y4, y5, y6⟩ := id t3
          have ki := (sc_how hB hC y1 y2 hpn).2.2
          have di := ((sSM_live y3).2.2 p hpn).1
          have vi := (y1.2.2.1 p hpn).1.1
          rw [t1] at l1
          rw [t2] at l2
          simp only [Option.bind_some, ki, di] at l1 l2
          by_cases h2 : S2 3 p = 2
          · right
            rw [if_pos h2, if_neg u1] at l1
            rw [h2, if_pos rfl] at l2
            refine ⟨_, _, iter_1 l1, iter_2 l2 ?_, nI (k + 1), sc2, m2, rfl, rfl, y4⟩
            unfold fMo_opens_L36
            simp only [lit, nadd]
            rw [ix_nI (by omega) (by omega)]
            simp only [Option.bind_some, di]
            rw [h2, if_neg (show ¬ nI 2 = nI 1 by decide +kernel)]
            split <;> rfl
          · left
            rw [if_neg h2, if_pos rfl] at l1
            rw [if_neg (by rw [neq (by omega) (by omega)]; exact h2)] at l2
            exact ⟨_, _, l1, l2, sc2, m2, rfl, rfl, t3⟩
        · right
          rw [if_neg h1] at l1 l2
          exact ⟨_, _, iter_1 l1, iter_1 l2, -nI 1, sc, mc, rfl, rfl, w4⟩
      · obtain ⟨sc, mc, rfl, rfl, hz⟩ := hz
        obtain ⟨S1, w1, w2, w3, w4, w5, w6⟩ := id hz
        refine ⟨.inl (va_up X 201 sc), _, iter_1 ?_, iter_1 (e := (-nI 1, mc)) ?_, -nI 1, sc, mc, rfl, rfl, w4⟩
        · unfold fKL_opens_L32
          simp only [lit]
          rw [if_pos (by rw [nlt (by omega) (by omega)]; omega)]
        · unfold fMo_opens_L36
          simp only [lit]
          rw [if_pos (by rw [nlt (by omega) (by omega)]; omega)]
    · rw [if_neg h1, if_pos rfl, if_neg (by rw [neq (by omega) (by omega)]; exact h1)]
      exact ⟨_, X, _, rfl, rfl, hR1⟩
  · unfold fKL_opens fMo_opens
    simp only [lit, bnd, (sc_how0 (sc := X 12) hB hC hv).2.1, mo_isP0 hB hM hv, Option.bind_some, if_true]
    exact ⟨_, X, _, rfl, rfl, hR1⟩
end
