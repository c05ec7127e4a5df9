/-- one token, as both have it: its kind, number, letters, place -/
def tkR (k v : Nat) (l : List Nat) (pl : Nat) (ta m : Obj) : Prop := ta.1 0 4 = nI k ∧ ta.1 0 10 = nI pl ∧ m.1 0 12 = nI pl ∧ pl ≤ 940 ∧
  ((k = 0 ∧ m.1 0 11 = nI 0) ∨
   (k = 1 ∧ v < 29 ∧ ta.1 0 5 = nI v ∧ m.1 0 11 = nI 1 ∧ m.2 0 17 = kw8 (kws.getD v [])) ∨
   (k = 2 ∧ lok l ∧ 1 ≤ l.length ∧ l.length ≤ 8 ∧ ta.2 0 6 = kw5 l ∧ m.1 0 11 = nI 1 ∧ m.2 0 17 = kw8 l ∧ ∀ w, w < 29 → l ≠ kws.getD w []) ∨
   (k = 3 ∧ v ≤ 999 ∧ ta.1 0 5 = nI v ∧ m.1 0 11 = nI 2 ∧ m.1 0 14 = nI v) ∨
   (k = 4 ∧ isSg v = true ∧ v < 256 ∧ ta.1 0 5 = nI v ∧ m.1 0 11 = nI 3 ∧ m.1 0 14 = nI v) ∨
   (k = 5 ∧ m.1 0 11 = nI 4))
section
variable {z lim : Nat} {b : Nat → Nat} {ta m ta' m' x y : Obj} {s i : Nat} {l : List Nat}
theorem LL_pos (hs : isL (b s) = true) : ∀ i, 1 ≤ (LLr b s (i + 1)).length
  | 0 => by
    show 1 ≤ (if isL (b (s + 0)) then LLr b s 0 ++ [b (s + 0) - 96] else LLr b s 0).length
    rw [Nat.add_zero, hs]; exact Nat.le_refl 1
  | i + 1 => by
    have ih := LL_pos hs i
    show 1 ≤ (if isL (b (s + (i + 1))) then LLr b s (i + 1) ++ [b (s + (i + 1)) - 96] else LLr b s (i + 1)).length
    split
    · rw [List.length_append]; omega
    · exact ih
theorem DL_pos (hs : isD (b s) = true) : ∀ i, 1 ≤ (DLr b s (i + 1)).length
  | 0 => by
    show 1 ≤ (if isD (b (s + 0)) then DLr b s 0 ++ [b (s + 0) - 48] else DLr b s 0).length
    rw [Nat.add_zero, hs]; exact Nat.le_refl 1
  | i + 1 => by
    have ih := DL_pos hs i
    show 1 ≤ (if isD (b (s + (i + 1))) then DLr b s (i + 1) ++ [b (s + (i + 1)) - 48] else DLr b s (i + 1)).length
    split
    · rw [List.length_append]; omega
    · exact ih
theorem DL_ok : ∀ i x, x ∈ DLr b s i → x ≤ 9
  | 0, x, hx => by cases hx
  | i + 1, x, hx => by
    have e : DLr b s (i + 1) = if isD (b (s + i)) then DLr b s i ++ [b (s + i) - 48] else DLr b s i := rfl
    rw [e] at hx
    cases hd : isD (b (s + i))
    · rw [hd, if_neg (by decide)] at hx
      exact DL_ok i x hx
    · rw [hd, if_pos rfl] at hx
      rcases List.mem_append.mp hx with h | h
      · exact DL_ok i x h
      · have h1 := List.mem_singleton.mp h
        have := isD_t hd
        omega
theorem dvf_le : ∀ {l : List Nat} {a : Nat}, (∀ x, x ∈ l → x ≤ 9) → dvf a l < 10 ^ l.length * (a + 1)
  | [], a, _ => by
    show a < 1 * (a + 1)
    omega
  | y :: l, a, h => by
    have hy := h y (List.mem_cons_self)
    have ih := dvf_le (l := l) (a := 10 * a + y) (fun x hx => h x (List.mem_cons_of_mem _ hx))
    show dvf (10 * a + y) l < 10 ^ (l.length + 1) * (a + 1)
    have h2 : 10 ^ l.length * (10 * a + y + 1) ≤ 10 ^ (l.length + 1) * (a + 1) := by
      rw [Nat.pow_succ, Nat.mul_assoc]
      exact Nat.mul_le_mul_left _ (by omega)
    omega
theorem nw_both (hW : ∀ w, w < 29 → x.2 1 w = kw5 (kws.getD w [])) (hl : lok l) (h8 : l.length ≤ 8) (h6 : x.2 0 6 = kw5 l) (h4 : x.1 0 4 = nI 2) : (∃ w, w < 29 ∧ l = kws.getD w [] ∧ fTa_nameWord x = some (sI (sI x 0 4 (nI 1)) 0 5 (nI w))) ∨ ((∀ w, w < 29 → l ≠ kws.getD w []) ∧ fTa_nameWord x = some x) := by
  have u1 : ¬ nI 1 = nI 2 := by decide +kernel
  have key := iter_I (f := fTa_nameWord_L2) (I := fun k a => (a = (nI k, x) ∧ ∀ w, w < k → l ≠ kws.getD w []) ∨ ∃ w, w < 29 ∧ l = kws.getD w [] ∧ a = (nI k, sI (sI x 0 4 (nI 1)) 0 5 (nI w))) (E := fun e => (e = x ∧ ∀ w, w < 29 → l ≠ kws.getD w []) ∨ ∃ w, w < 29 ∧ l = kws.getD w [] ∧ e = sI (sI x 0 4 (nI 1)) 0 5 (nI w)) 29 (by omega) (a := (nI 0, x)) (Or.inl ⟨rfl, fun w hw => absurd hw (by omega)⟩) (fun k a hk hz => ?_) (fun a hz => ?_)
  · obtain ⟨e, g1, g2⟩ := key
    have g3 : fTa_nameWord x = some e := by
      unfold fTa_nameWord
      simp only [lit]
      rw [g1]; rfl
    rcases g2 with ⟨rfl, g4⟩ | ⟨w, w1, w2, rfl⟩
    · exact Or.inr ⟨g4, g3⟩
    · exact Or.inl ⟨w, w1, w2, g3⟩
  · rcases hz with ⟨rfl, hno⟩ | ⟨w, w1, w2, rfl⟩
    · left
      obtain ⟨k1, k2, k3⟩ := kws_ok k hk
      have l0 : fTa_nameWord_L2 (nI k, x) = if lg_cmp (kw5 (kws.getD k [])) (kw5 l) = (0 : Int32) then some (.inl (nI (k + 1), sI (sI x 0 4 (nI 1)) 0 5 (nI k))) else some (.inl (nI (k + 1), x)) := by
        unfold fTa_nameWord_L2
        simp only [lit]
        rw [if_neg (by rw [nle (by omega) (by omega)]; omega), h4, if_pos rfl, ix_nI (by omega) (by omega), Option.bind_some, hW k hk, h6]
        simp only [bnd, nadd]
      rw [l0]
      by_cases hq : l = kws.getD k []
      · rw [if_pos ((lcmp0 _ _).mpr (by rw [hq]))]
        exact ⟨_, rfl, Or.inr ⟨k, hk, hq, rfl⟩⟩
      · rw [if_neg (fun w => hq ((kw_inj5 k1 hl k3 h8).mp ((lcmp0 _ _).mp w)).symm)]
        refine ⟨_, rfl, Or.inl ⟨rfl, fun w hw => ?_⟩⟩
        by_cases hwk : w = k
        · subst hwk; exact hq
        · exact hno w (by omega)
    · right
      refine ⟨_, ?_, Or.inr ⟨w, w1, w2, rfl⟩⟩
      unfold fTa_nameWord_L2
      simp only [lit]
      rw [if_neg (by rw [nle (by omega) (by omega)]; omega), if_neg (show ¬ (sI (sI x 0 4 (nI 1)) 0 5 (nI w)).1 0 4 = nI 2 from u1)]
  · rcases hz with ⟨rfl, hno⟩ | ⟨w, w1, w2, rfl⟩
    · refine ⟨_, ?_, Or.inl ⟨rfl, hno⟩⟩
      unfold fTa_nameWord_L2
      simp only [lit]
      rw [if_pos (by rw [nle (by omega) (by omega)]; omega)]
    · refine ⟨_, ?_, Or.inr ⟨w, w1, w2, rfl⟩⟩
      unfold fTa_nameWord_L2
      simp only [lit]
      rw [if_pos (by rw [nle (by omega) (by omega)]; omega)]
theorem tb_J : ∀ c, c < 256 → isSg c = true → isL c = false ∧ isD c = false := by decide +kernel
/-- what the reference makes of a sign, or of another byte -/
theorem mo_J80 {p c : Nat} (hpk : fMo_peek y = some (nI c)) (hc : c < 256) (hL : isL c = false) (hD : isD c = false) (h4 : y.1 0 4 = nI p) : fMo_next_J80 y = some (sI (sI (sI y 0 11 (nI (if isSg c then 3 else 4))) 0 14 (nI c)) 0 4 (nI (p + 1))) := by
  have l145 : ∀ k, fMo_next_J145 y (nI c) k = some (sI (sI (sI y 0 11 k) 0 14 (nI c)) 0 4 (nI (p + 1))) := fun k => by
    have e4 : ∀ v, (sI (sI y 0 11 k) 0 14 v).1 0 4 = nI p := fun v => h4
    unfold fMo_next_J145
    simp only [lit, bnd]
    rw [e4, nadd]
  have hsg : isSg c = true ↔ c = 59 ∨ c = 60 ∨ c = 61 ∨ c = 62 ∨ c = 40 ∨ c = 41 := by unfold isSg; exact decide_eq_true_iff
  unfold fMo_next_J80 fMo_next_J140 fMo_next_J144
  simp only [lit]
  rw [hpk, Option.bind_some, if_pos (by rw [nle (by omega) (by omega)]; omega), tb_sm c hc, Option.bind_some, hL, if_pos (show nI (bn false) = nI 0 from rfl), tb_dg c hc, Option.bind_some, hD, if_pos (show nI (bn false) = nI 0 from rfl), l145, l145]
  by_cases c1 : c = 59
  · rw [if_pos (by rw [c1]), hsg.mpr (by omega)]; rfl
  · rw [if_neg (by rw [neq (by omega) (by omega)]; exact c1)]
    by_cases c2 : c = 40
    · rw [if_pos (by rw [c2]), hsg.mpr (by omega)]; rfl
    · rw [if_neg (by rw [neq (by omega) (by omega)]; exact c2)]
      by_cases c3 : c = 41
      · rw [if_pos (by rw [c3]), hsg.mpr (by omega)]; rfl
      · rw [if_neg (by rw [neq (by omega) (by omega)]; exact c3)]
        by_cases c4 : c < 60
        · have : isSg c = false := by
            cases hq : isSg c
            · rfl
            · have := hsg.mp hq; omega
          rw [if_pos (by rw [nlt (by omega) (by omega)]; exact c4), this]; rfl
        · rw [if_neg (by rw [nlt (by omega) (by omega)]; exact c4)]
          by_cases c5 : 62 < c
          · have : isSg c = false := by
              cases hq : isSg c
              · rfl
              · have := hsg.mp hq; omega
            rw [if_pos (by rw [nlt (by omega) (by omega)]; exact c5), this]; rfl
          · rw [if_neg (by rw [nlt (by omega) (by omega)]; exact c5), hsg.mpr (by omega)]; rfl
end
