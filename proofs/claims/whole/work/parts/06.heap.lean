def cOK (ci : Nat) (C : String) (T : u_T) (N : Nat) (ty0 : Nat → FieldType) : Prop := vwCl[ci]? = some (C, T, N) ∧ (∀ w ∈ u_ws C T N, w ∈ Tg) ∧ (∀ k, k < N → parseFieldDescriptor (T k).2.2.1 = some (ty0 k)) ∧ ∀ a, a < N → ∀ b, b < N → a ≠ b → (T a).2.1 ≠ (T b).2.1
theorem cell_obj {b : Nat} {cy : Nat → ClassId} {M : Nat → Obj} {a ci : Nat} {ks : List (Nat × Nat)} {s : Obj} (hs : shp a = (a, 0, ci, ks)) (hM : M a = s) : cell b cy M a = .inr (ci, mkF b s ks 0) := by
  unfold cell
  rw [hs, hM]
  rfl
theorem cell_arr {b : Nat} {cy : Nat → ClassId} {M : Nat → Obj} {a o t n : Nat} {s : Obj} (hs : shp a = (o, t, n, [])) (hM : M o = s) : cell b cy M a = mkC b cy s (a - o) t n [] := by
  unfold cell
  rw [hs, hM]
theorem ws_obj {b : Nat} {cy : Nat → ClassId} {M : Nat → Obj} {a ci : Nat} {ks : List (Nat × Nat)} {s : Obj} (hs : shp a = (a, 0, ci, ks)) (hM : M a = s) : (wsF b (cell b cy M))[a]? = some (b + a, .inr (ci, mkF b s ks 0)) := by
  rw [wsF_get (shp_lt hs (by decide)), cell_obj hs hM]
theorem ws_arr {b : Nat} {cy : Nat → ClassId} {M : Nat → Obj} {a o t n : Nat} {s : Obj} {e : va_E} (hs : shp a = (o, t, n, [])) (ht : t ≠ 9) (hM : M o = s) (he : mkC b cy s (a - o) t n [] = e) : (wsF b (cell b cy M))[a]? = some (b + a, e) := by
  rw [wsF_get (shp_lt hs ht), cell_arr hs hM, he]
theorem sI_c (s : Obj) (j i : Nat) (v : Int32) : (sI s j i v).1 j = va_up (s.1 j) i v := va_up_self _ _ _
theorem sL_c (s : Obj) (j i : Nat) (v : Int64) : (sL s j i v).2 j = va_up (s.2 j) i v := va_up_self _ _ _
theorem sA_c (s : Obj) (j : Nat) (f : Nat → Int32) : (sA s j f).1 j = f := va_up_self _ _ _
theorem sAL_c (s : Obj) (j : Nat) (f : Nat → Int64) : (sAL s j f).2 j = f := va_up_self _ _ _
theorem wd_obj {D : va_G} {cy : Nat → ClassId} {b : Nat} {wf : Obj → Nat → Obj} {a ci k : Nat} {ks : List (Nat × Nat)} {s s' : Obj} {t : Nat × Nat} {v : Value} {H : Heap} (hs : shp a = (a, 0, ci, ks)) (hk : ks[k]? = some t) (hM : wf s a = s) (hU : ∀ s', va_up (wf s) a s' = wf s')
    (h1 : ∀ i, i ≠ 0 → s'.1 i = s.1 i) (h2 : ∀ i, i ≠ 0 → s'.2 i = s.2 i) (h3 : ∀ i, i ≠ k → s'.1 0 i = s.1 0 i) (h4 : ∀ i, i ≠ k → s'.2 0 i = s.2 0 i)
    (hv : (if t.1 = 0 then Value.int (s'.1 0 k) else if t.1 = 1 then Value.long (s'.2 0 k) else Value.ref (b + t.2)) = v)
    (h : va_P D vwCl ((wsF b (cell b cy (wf s))).set a (b + a, .inr (ci, (mkF b s ks 0).set k v))) H) : Wd D cy b (wf s') H := by
  rw [wsF_set (shp_lt hs (by decide)), cell_upd (o := a) (j := 0) (s := s) (s' := s') (by rw [hs]) (by omega) hM ?_ h1 h2, hU] at h
  · exact h
  · rw [hs]
    have e := mkF_set (b := b) (x := s') (y := s) (v := v) ks 0 k hk (by rw [Nat.zero_add]; exact hv) (fun i hi => h3 i (by omega)) (fun i hi => h4 i (by omega))
    show Sum.inr (ci, mkF b s' ks 0) = _
    rw [e]
theorem wd_arr {D : va_G} {cy : Nat → ClassId} {b : Nat} {wf : Obj → Nat → Obj} {a o t n : Nat} {s s' : Obj} {e : va_E} {H : Heap} (hs : shp a = (o, t, n, [])) (ht : t ≠ 9) (hM : wf s o = s) (hU : ∀ s', va_up (wf s) o s' = wf s')
    (h1 : ∀ i, i ≠ a - o → s'.1 i = s.1 i) (h2 : ∀ i, i ≠ a - o → s'.2 i = s.2 i) (he : mkC b cy s' (a - o) t n [] = e)
    (h : va_P D vwCl ((wsF b (cell b cy (wf s))).set a (b + a, e)) H) : Wd D cy b (wf s') H := by
  have hle : o ≤ a := by
    have := shp_le a
    rw [hs] at this
    exact this
  rw [wsF_set (shp_lt hs ht), cell_upd (o := o) (j := a - o) (s := s) (s' := s') (by rw [hs]) (by omega) hM ?_ h1 h2, hU] at h
  · exact h
  · rw [hs]
    exact he
theorem r_getI {ρ : Type} {X : Cx} {G : Gx} {b nL d : Nat} {Qf : ρ → State → Prop} {M : Nat → Obj} {pc : Nat} {lv : List (Option Value)} {st : List Value} {o : Option ρ} {cc : ByteArray} {own : String} {ret : Option FieldType} (ok : OK X G b cc nL d own ret) {a ci k idx N : Nat} {ks : List (Nat × Nat)} {s : Obj} {C : String} {T : u_T} {ty0 : Nat → FieldType} (hc : cOK ci C T N ty0) (hs : shp a = (a, 0, ci, ks)) (hk : ks[k]? = some (0, 0)) (hN : k < N) (hM : M a = s) (hd : decode cc pc = .ok (.getfield idx, 3)) (hl : Cond.fieldLink own idx (T k).1 (T k).2.1 (T k).2.2.1 ∈ Tg) (kk : VO X G b nL Qf M (pc + 3) lv (.int (s.1 0 k) :: st) o) : VO X G b nL Qf M pc lv (.ref (b + a) :: st) o := by
  intro r hr H locs ls hW hS hlv
  have hW2 : va_P G.1 vwCl (wsF b (cell b G.2 M)) H := hW
  refine va_get (D := G.1) ok.1 ok.2.1 ok.2.2.2.2.1 hc.2.1 ok.2.2.2.1 ok.2.2.2.2.2.1.1 hW2 a (ws_obj hs hM) hc.1 k hN (ok.2.2.2.2.1 _ hl) (fun _ h => h) (mkF_get ks 0 k hk) hd ?_
  have k2 := kk r hr H locs ls hW hS hlv
  rw [Nat.zero_add]
  exact k2
theorem r_getJ {ρ : Type} {X : Cx} {G : Gx} {b nL d : Nat} {Qf : ρ → State → Prop} {M : Nat → Obj} {pc : Nat} {lv : List (Option Value)} {st : List Value} {o : Option ρ} {cc : ByteArray} {own : String} {ret : Option FieldType} (ok : OK X G b cc nL d own ret) {a ci k idx N : Nat} {ks : List (Nat × Nat)} {s : Obj} {C : String} {T : u_T} {ty0 : Nat → FieldType} (hc : cOK ci C T N ty0) (hs : shp a = (a, 0, ci, ks)) (hk : ks[k]? = some (1, 0)) (hN : k < N) (hM : M a = s) (hd : decode cc pc = .ok (.getfield idx, 3)) (hl : Cond.fieldLink own idx (T k).1 (T k).2.1 (T k).2.2.1 ∈ Tg) (kk : VO X G b nL Qf M (pc + 3) lv (.long (s.2 0 k) :: st) o) : VO X G b nL Qf M pc lv (.ref (b + a) :: st) o := by
  intro r hr H locs ls hW hS hlv
  have hW2 : va_P G.1 vwCl (wsF b (cell b G.2 M)) H := hW
  refine va_get (D := G.1) ok.1 ok.2.1 ok.2.2.2.2.1 hc.2.1 ok.2.2.2.1 ok.2.2.2.2.2.1.1 hW2 a (ws_obj hs hM) hc.1 k hN (ok.2.2.2.2.1 _ hl) (fun _ h => h) (mkF_get ks 0 k hk) hd ?_
  have k2 := kk r hr H locs ls hW hS hlv
  rw [Nat.zero_add]
  exact k2
theorem r_getR {ρ : Type} {X : Cx} {G : Gx} {b nL d : Nat} {Qf : ρ → State → Prop} {M : Nat → Obj} {pc : Nat} {lv : List (Option Value)} {st : List Value} {o : Option ρ} {cc : ByteArray} {own : String} {ret : Option FieldType} (ok : OK X G b cc nL d own ret) {a ci k idx N : Nat} {ks : List (Nat × Nat)} {s : Obj} {C : String} {T : u_T} {ty0 : Nat → FieldType} (hc : cOK ci C T N ty0) (hs : shp a = (a, 0, ci, ks)) {rr : Nat} (hk : ks[k]? = some (2, rr)) (hN : k < N) (hM : M a = s) (hd : decode cc pc = .ok (.getfield idx, 3)) (hl : Cond.fieldLink own idx (T k).1 (T k).2.1 (T k).2.2.1 ∈ Tg) (kk : VO X G b nL Qf M (pc + 3) lv (.ref (b + rr) :: st) o) : VO X G b nL Qf M pc lv (.ref (b + a) :: st) o := by
  intro r hr H locs ls hW hS hlv
  have hW2 : va_P G.1 vwCl (wsF b (cell b G.2 M)) H := hW
  refine va_get (D := G.1) ok.1 ok.2.1 ok.2.2.2.2.1 hc.2.1 ok.2.2.2.1 ok.2.2.2.2.2.1.1 hW2 a (ws_obj hs hM) hc.1 k hN (ok.2.2.2.2.1 _ hl) (fun _ h => h) (mkF_get ks 0 k hk) hd ?_
  have k2 := kk r hr H locs ls hW hS hlv
  skip
  exact k2
theorem r_putI {ρ : Type} {X : Cx} {G : Gx} {b nL d : Nat} {Qf : ρ → State → Prop} {pc : Nat} {lv : List (Option Value)} {st : List Value} {cc : ByteArray} {own : String} {ret : Option FieldType} (ok : OK X G b cc nL d own ret) {a ci k idx N : Nat} {ks : List (Nat × Nat)} {s : Obj} {C : String} {T : u_T} {ty0 : Nat → FieldType} (hc : cOK ci C T N ty0) (hs : shp a = (a, 0, ci, ks)) (hk : ks[k]? = some (0, 0)) (hN : k < N) {τ : Type} {v : Int32} {f : Obj → Option τ} {K : τ → Option ρ} (wf : Obj → Nat → Obj) (hM : ∀ s, wf s a = s) (hU : ∀ s s', va_up (wf s) a s' = wf s') (hfin : (T k).2.2.2 = false) (hn : narrow (ty0 k) (.int v) = .int v) (hft : fits (ty0 k) (.int v) = true) (hd : decode cc pc = .ok (.putfield idx, 3)) (hl : Cond.fieldLink own idx (T k).1 (T k).2.1 (T k).2.2.1 ∈ Tg) (kk : ∀ s', VO X G b nL Qf (wf s') (pc + 3) lv st ((f s').bind K)) : VO X G b nL Qf (wf s) pc lv (.int v :: .ref (b + a) :: st) ((bnd (sI s 0 k v) f).bind K) := by
  intro r hr H locs ls hW hS hlv
  have hW2 : va_P G.1 vwCl (wsF b (cell b G.2 (wf s))) H := hW
  have hlen : k < (mkF b s ks 0).length := by
    rw [mkF_len]
    exact (List.getElem?_eq_some_iff.mp hk).1
  refine va_put (D := G.1) (A := fun q => b ≤ q) ok.1 ok.2.1 ok.2.2.2.2.1 hc.2.1 ty0 hc.2.2.1 hc.2.2.2 ok.2.2.2.1 ok.2.2.2.2.2.1.1 hW2 wsF_D hS a (ws_obj hs (hM s)) hc.1 k hN (ok.2.2.2.2.1 _ hl) (fun _ h => h) hfin (hc.2.2.1 k hN) hn hft hlen hd (fun H1 locs1 hP1 _ hS1 => ?_)
  exact kk (sI s 0 k v) r hr H1 locs1 ls (wd_obj (t := (0, 0)) hs hk (hM s) (hU s) (fun i h => va_up_ne _ _ h) (fun _ _ => rfl) (fun i h => by rw [sI_c, va_up_ne _ _ h]) (fun _ _ => rfl) (by show Value.int ((sI s 0 k v).1 0 k) = _; rw [sI_c, va_up_self]) hP1) hS1 hlv
theorem r_putJ {ρ : Type} {X : Cx} {G : Gx} {b nL d : Nat} {Qf : ρ → State → Prop} {pc : Nat} {lv : List (Option Value)} {st : List Value} {cc : ByteArray} {own : String} {ret : Option FieldType} (ok : OK X G b cc nL d own ret) {a ci k idx N : Nat} {ks : List (Nat × Nat)} {s : Obj} {C : String} {T : u_T} {ty0 : Nat → FieldType} (hc : cOK ci C T N ty0) (hs : shp a = (a, 0, ci, ks)) (hk : ks[k]? = some (1, 0)) (hN : k < N) {τ : Type} {v : Int64} {f : Obj → Option τ} {K : τ → Option ρ} (wf : Obj → Nat → Obj) (hM : ∀ s, wf s a = s) (hU : ∀ s s', va_up (wf s) a s' = wf s') (hfin : (T k).2.2.2 = false) (hn : narrow (ty0 k) (.long v) = .long v) (hft : fits (ty0 k) (.long v) = true) (hd : decode cc pc = .ok (.putfield idx, 3)) (hl : Cond.fieldLink own idx (T k).1 (T k).2.1 (T k).2.2.1 ∈ Tg) (kk : ∀ s', VO X G b nL Qf (wf s') (pc + 3) lv st ((f s').bind K)) : VO X G b nL Qf (wf s) pc lv (.long v :: .ref (b + a) :: st) ((bnd (sL s 0 k v) f).bind K) := by
  intro r hr H locs ls hW hS hlv
  have hW2 : va_P G.1 vwCl (wsF b (cell b G.2 (wf s))) H := hW
  have hlen : k < (mkF b s ks 0).length := by
    rw [mkF_len]
    exact (List.getElem?_eq_some_iff.mp hk).1
  refine va_put (D := G.1) (A := fun q => b ≤ q) ok.1 ok.2.1 ok.2.2.2.2.1 hc.2.1 ty0 hc.2.2.1 hc.2.2.2 ok.2.2.2.1 ok.2.2.2.2.2.1.1 hW2 wsF_D hS a (ws_obj hs (hM s)) hc.1 k hN (ok.2.2.2.2.1 _ hl) (fun _ h => h) hfin (hc.2.2.1 k hN) hn hft hlen hd (fun H1 locs1 hP1 _ hS1 => ?_)
  exact kk (sL s 0 k v) r hr H1 locs1 ls (wd_obj (t := (1, 0)) hs hk (hM s) (hU s) (fun _ _ => rfl) (fun i h => va_up_ne _ _ h) (fun _ _ => rfl) (fun i h => by rw [sL_c, va_up_ne _ _ h]) (by show Value.long ((sL s 0 k v).2 0 k) = _; rw [sL_c, va_up_self]) hP1) hS1 hlv
theorem r_ialdc {ρ : Type} {X : Cx} {G : Gx} {b nL d : Nat} {Qf : ρ → State → Prop} {M : Nat → Obj} {pc : Nat} {lv : List (Option Value)} {st : List Value} {o : Option ρ} {cc : ByteArray} {own : String} {ret : Option FieldType} (ok : OK X G b cc nL d own ret) {a oo j n : Nat} {s : Obj} (hs : shp a = (oo, 2, n, [])) (hj : a - oo = j) {e : Int32} {i : Nat} (hi : ix n e = some i) (hM : M oo = s) (hd : decode cc pc = .ok (.iaload, 1)) (kk : VO X G b nL Qf M (pc + 1) lv (.int (s.1 j i) :: st) o) : VO X G b nL Qf M pc lv (.int e :: .ref (b + a) :: st) o := by
  intro r hr H locs ls hW hS hlv
  have hW2 : va_P G.1 vwCl (wsF b (cell b G.2 M)) H := hW
  have hin : vp_in e n ∧ e.toNatClampNeg = i := by
    unfold ix at hi
    by_cases h : e < 0 ∨ n ≤ e.toNatClampNeg
    · rw [if_pos h] at hi; cases hi
    · rw [if_neg h] at hi; exact ⟨h, Option.some.inj hi⟩
  obtain ⟨h1, rfl⟩ := hin
  subst hj
  exact va_iald (D := G.1) ok.1 ok.2.1 ok.2.2.2.2.2.1.1 hW2 a 1 (ws_arr (e := .inl (G.2 2, n, .inl (s.1 (a - oo)))) hs (by decide) hM rfl) rfl h1 hd (kk r hr H locs ls hW hS hlv)
theorem r_iald {ρ : Type} {X : Cx} {G : Gx} {b nL d : Nat} {Qf : ρ → State → Prop} {M : Nat → Obj} {pc : Nat} {lv : List (Option Value)} {st : List Value} {cc : ByteArray} {own : String} {ret : Option FieldType} (ok : OK X G b cc nL d own ret) {a oo j n : Nat} {s : Obj} (hs : shp a = (oo, 2, n, [])) (hj : a - oo = j) {τ : Type} {e : Int32} {f : Nat → Option τ} {K : τ → Option ρ} (hM : M oo = s) (hd : decode cc pc = .ok (.iaload, 1)) (kk : ∀ i, VO X G b nL Qf M (pc + 1) lv (.int (s.1 j i) :: st) ((f i).bind K)) : VO X G b nL Qf M pc lv (.int e :: .ref (b + a) :: st) (((ix n e).bind f).bind K) := by
  intro r hr
  cases hi : ix n e with
  | none => rw [hi] at hr; cases hr
  | some i =>
    rw [hi] at hr
    exact r_ialdc (o := (f i).bind K) ok hs hj hi hM hd (kk i) r hr
theorem r_iastc {ρ : Type} {X : Cx} {G : Gx} {b nL d : Nat} {Qf : ρ → State → Prop} {pc : Nat} {lv : List (Option Value)} {st : List Value} {cc : ByteArray} {own : String} {ret : Option FieldType} (ok : OK X G b cc nL d own ret) {a oo j n : Nat} {s : Obj} (hs : shp a = (oo, 2, n, [])) (hj : a - oo = j) {τ : Type} {e : Int32} {i : Nat} {v w : Int32} {f : Obj → Option τ} {K : τ → Option ρ} (hi : ix n e = some i) (hw : v = w) (wf : Obj → Nat → Obj) (hM : ∀ s, wf s oo = s) (hU : ∀ s s', va_up (wf s) oo s' = wf s') (hd : decode cc pc = .ok (.iastore, 1)) (kk : ∀ s', VO X G b nL Qf (wf s') (pc + 1) lv st ((f s').bind K)) : VO X G b nL Qf (wf s) pc lv (.int v :: .int e :: .ref (b + a) :: st) ((bnd (sI s j i w) f).bind K) := by
  intro r hr H locs ls hW hS hlv
  have hW2 : va_P G.1 vwCl (wsF b (cell b G.2 (wf s))) H := hW
  have hin : vp_in e n ∧ e.toNatClampNeg = i := by
    unfold ix at hi
    by_cases h : e < 0 ∨ n ≤ e.toNatClampNeg
    · rw [if_pos h] at hi; cases hi
    · rw [if_neg h] at hi; exact ⟨h, Option.some.inj hi⟩
  obtain ⟨h1, rfl⟩ := hin
  subst hj
  subst hw
  refine va_iast (D := G.1) (A := fun q => b ≤ q) ok.1 ok.2.1 ok.2.2.2.2.2.1.1 hW2 wsF_D hS a 1 (ws_arr (e := .inl (G.2 2, n, .inl (s.1 (a - oo)))) hs (by decide) (hM s) rfl) rfl h1 hd (fun H1 locs1 hP1 _ hS1 => ?_)
  exact kk (sI s (a - oo) e.toNatClampNeg v) r hr H1 locs1 ls (wd_arr (e := .inl (G.2 2, n, .inl (va_up (s.1 (a - oo)) e.toNatClampNeg v))) hs (by decide) (hM s) (hU s) (fun i h => va_up_ne _ _ h) (fun _ _ => rfl) (by show mkC b G.2 (sI s (a - oo) e.toNatClampNeg v) (a - oo) 2 n [] = _; simp only [mkC, sI_c]; rfl) hP1) hS1 hlv
theorem r_iast {ρ : Type} {X : Cx} {G : Gx} {b nL d : Nat} {Qf : ρ → State → Prop} {pc : Nat} {lv : List (Option Value)} {st : List Value} {cc : ByteArray} {own : String} {ret : Option FieldType} (ok : OK X G b cc nL d own ret) {a oo j n : Nat} {s : Obj} (hs : shp a = (oo, 2, n, [])) (hj : a - oo = j) {τ : Type} {e : Int32} {v w : Int32} {f : Nat → Obj → Option τ} {K : τ → Option ρ} (hw : v = w) (wf : Obj → Nat → Obj) (hM : ∀ s, wf s oo = s) (hU : ∀ s s', va_up (wf s) oo s' = wf s') (hd : decode cc pc = .ok (.iastore, 1)) (kk : ∀ i s', VO X G b nL Qf (wf s') (pc + 1) lv st ((f i s').bind K)) : VO X G b nL Qf (wf s) pc lv (.int v :: .int e :: .ref (b + a) :: st) (((ix n e).bind fun i => bnd (sI s j i w) (f i)).bind K) := by
  intro r hr
  cases hi : ix n e with
  | none => rw [hi] at hr; cases hr
  | some i =>
    rw [hi] at hr
    exact r_iastc ok hs hj hi hw wf hM hU hd (kk i) r hr
theorem r_baldc {ρ : Type} {X : Cx} {G : Gx} {b nL d : Nat} {Qf : ρ → State → Prop} {M : Nat → Obj} {pc : Nat} {lv : List (Option Value)} {st : List Value} {o : Option ρ} {cc : ByteArray} {own : String} {ret : Option FieldType} (ok : OK X G b cc nL d own ret) {a oo j n : Nat} {s : Obj} (hs : shp a = (oo, 1, n, [])) (hj : a - oo = j) {e : Int32} {i : Nat} (hi : ix n e = some i) (hM : M oo = s) (hd : decode cc pc = .ok (.baload, 1)) (kk : VO X G b nL Qf M (pc + 1) lv (.int (s.1 j i) :: st) o) : VO X G b nL Qf M pc lv (.int e :: .ref (b + a) :: st) o := by
  intro r hr H locs ls hW hS hlv
  have hW2 : va_P G.1 vwCl (wsF b (cell b G.2 M)) H := hW
  have hin : vp_in e n ∧ e.toNatClampNeg = i := by
    unfold ix at hi
    by_cases h : e < 0 ∨ n ≤ e.toNatClampNeg
    · rw [if_pos h] at hi; cases hi
    · rw [if_neg h] at hi; exact ⟨h, Option.some.inj hi⟩
  obtain ⟨h1, rfl⟩ := hin
  subst hj
  exact va_bald (D := G.1) ok.1 ok.2.1 ok.2.2.2.2.2.1.1 hW2 a 0 (ws_arr (e := .inl (G.2 1, n, .inl (s.1 (a - oo)))) hs (by decide) hM rfl) rfl h1 hd (kk r hr H locs ls hW hS hlv)
theorem r_bald {ρ : Type} {X : Cx} {G : Gx} {b nL d : Nat} {Qf : ρ → State → Prop} {M : Nat → Obj} {pc : Nat} {lv : List (Option Value)} {st : List Value} {cc : ByteArray} {own : String} {ret : Option FieldType} (ok : OK X G b cc nL d own ret) {a oo j n : Nat} {s : Obj} (hs : shp a = (oo, 1, n, [])) (hj : a - oo = j) {τ : Type} {e : Int32} {f : Nat → Option τ} {K : τ → Option ρ} (hM : M oo = s) (hd : decode cc pc = .ok (.baload, 1)) (kk : ∀ i, VO X G b nL Qf M (pc + 1) lv (.int (s.1 j i) :: st) ((f i).bind K)) : VO X G b nL Qf M pc lv (.int e :: .ref (b + a) :: st) (((ix n e).bind f).bind K) := by
  intro r hr
  cases hi : ix n e with
  | none => rw [hi] at hr; cases hr
  | some i =>
    rw [hi] at hr
    exact r_baldc (o := (f i).bind K) ok hs hj hi hM hd (kk i) r hr
theorem r_bastc {ρ : Type} {X : Cx} {G : Gx} {b nL d : Nat} {Qf : ρ → State → Prop} {pc : Nat} {lv : List (Option Value)} {st : List Value} {cc : ByteArray} {own : String} {ret : Option FieldType} (ok : OK X G b cc nL d own ret) {a oo j n : Nat} {s : Obj} (hs : shp a = (oo, 1, n, [])) (hj : a - oo = j) {τ : Type} {e : Int32} {i : Nat} {v w : Int32} {f : Obj → Option τ} {K : τ → Option ρ} (hi : ix n e = some i) (hw : (i2b v) = w) (wf : Obj → Nat → Obj) (hM : ∀ s, wf s oo = s) (hU : ∀ s s', va_up (wf s) oo s' = wf s') (hd : decode cc pc = .ok (.bastore, 1)) (kk : ∀ s', VO X G b nL Qf (wf s') (pc + 1) lv st ((f s').bind K)) : VO X G b nL Qf (wf s) pc lv (.int v :: .int e :: .ref (b + a) :: st) ((bnd (sI s j i w) f).bind K) := by
  intro r hr H locs ls hW hS hlv
  have hW2 : va_P G.1 vwCl (wsF b (cell b G.2 (wf s))) H := hW
  have hin : vp_in e n ∧ e.toNatClampNeg = i := by
    unfold ix at hi
    by_cases h : e < 0 ∨ n ≤ e.toNatClampNeg
    · rw [if_pos h] at hi; cases hi
    · rw [if_neg h] at hi; exact ⟨h, Option.some.inj hi⟩
  obtain ⟨h1, rfl⟩ := hin
  subst hj
  subst hw
  refine va_bast (D := G.1) (A := fun q => b ≤ q) ok.1 ok.2.1 ok.2.2.2.2.2.1.1 hW2 wsF_D hS a 0 (ws_arr (e := .inl (G.2 1, n, .inl (s.1 (a - oo)))) hs (by decide) (hM s) rfl) rfl h1 hd (fun H1 locs1 hP1 _ hS1 => ?_)
  exact kk (sI s (a - oo) e.toNatClampNeg (i2b v)) r hr H1 locs1 ls (wd_arr (e := .inl (G.2 1, n, .inl (va_up (s.1 (a - oo)) e.toNatClampNeg (i2b v)))) hs (by decide) (hM s) (hU s) (fun i h => va_up_ne _ _ h) (fun _ _ => rfl) (by show mkC b G.2 (sI s (a - oo) e.toNatClampNeg (i2b v)) (a - oo) 1 n [] = _; simp only [mkC, sI_c]; rfl) hP1) hS1 hlv
theorem r_bast {ρ : Type} {X : Cx} {G : Gx} {b nL d : Nat} {Qf : ρ → State → Prop} {pc : Nat} {lv : List (Option Value)} {st : List Value} {cc : ByteArray} {own : String} {ret : Option FieldType} (ok : OK X G b cc nL d own ret) {a oo j n : Nat} {s : Obj} (hs : shp a = (oo, 1, n, [])) (hj : a - oo = j) {τ : Type} {e : Int32} {v w : Int32} {f : Nat → Obj → Option τ} {K : τ → Option ρ} (hw : (i2b v) = w) (wf : Obj → Nat → Obj) (hM : ∀ s, wf s oo = s) (hU : ∀ s s', va_up (wf s) oo s' = wf s') (hd : decode cc pc = .ok (.bastore, 1)) (kk : ∀ i s', VO X G b nL Qf (wf s') (pc + 1) lv st ((f i s').bind K)) : VO X G b nL Qf (wf s) pc lv (.int v :: .int e :: .ref (b + a) :: st) (((ix n e).bind fun i => bnd (sI s j i w) (f i)).bind K) := by
  intro r hr
  cases hi : ix n e with
  | none => rw [hi] at hr; cases hr
  | some i =>
    rw [hi] at hr
    exact r_bastc ok hs hj hi hw wf hM hU hd (kk i) r hr
theorem r_zaldc {ρ : Type} {X : Cx} {G : Gx} {b nL d : Nat} {Qf : ρ → State → Prop} {M : Nat → Obj} {pc : Nat} {lv : List (Option Value)} {st : List Value} {o : Option ρ} {cc : ByteArray} {own : String} {ret : Option FieldType} (ok : OK X G b cc nL d own ret) {a oo j n : Nat} {s : Obj} (hs : shp a = (oo, 4, n, [])) (hj : a - oo = j) {e : Int32} {i : Nat} (hi : ix n e = some i) (hM : M oo = s) (hd : decode cc pc = .ok (.baload, 1)) (kk : VO X G b nL Qf M (pc + 1) lv (.int (s.1 j i) :: st) o) : VO X G b nL Qf M pc lv (.int e :: .ref (b + a) :: st) o := by
  intro r hr H locs ls hW hS hlv
  have hW2 : va_P G.1 vwCl (wsF b (cell b G.2 M)) H := hW
  have hin : vp_in e n ∧ e.toNatClampNeg = i := by
    unfold ix at hi
    by_cases h : e < 0 ∨ n ≤ e.toNatClampNeg
    · rw [if_pos h] at hi; cases hi
    · rw [if_neg h] at hi; exact ⟨h, Option.some.inj hi⟩
  obtain ⟨h1, rfl⟩ := hin
  subst hj
  exact va_zald (D := G.1) ok.1 ok.2.1 ok.2.2.2.2.2.1.1 hW2 a 3 (ws_arr (e := .inl (G.2 4, n, .inl (s.1 (a - oo)))) hs (by decide) hM rfl) rfl h1 hd (kk r hr H locs ls hW hS hlv)
theorem r_zald {ρ : Type} {X : Cx} {G : Gx} {b nL d : Nat} {Qf : ρ → State → Prop} {M : Nat → Obj} {pc : Nat} {lv : List (Option Value)} {st : List Value} {cc : ByteArray} {own : String} {ret : Option FieldType} (ok : OK X G b cc nL d own ret) {a oo j n : Nat} {s : Obj} (hs : shp a = (oo, 4, n, [])) (hj : a - oo = j) {τ : Type} {e : Int32} {f : Nat → Option τ} {K : τ → Option ρ} (hM : M oo = s) (hd : decode cc pc = .ok (.baload, 1)) (kk : ∀ i, VO X G b nL Qf M (pc + 1) lv (.int (s.1 j i) :: st) ((f i).bind K)) : VO X G b nL Qf M pc lv (.int e :: .ref (b + a) :: st) (((ix n e).bind f).bind K) := by
  intro r hr
  cases hi : ix n e with
  | none => rw [hi] at hr; cases hr
  | some i =>
    rw [hi] at hr
    exact r_zaldc (o := (f i).bind K) ok hs hj hi hM hd (kk i) r hr
theorem r_zastc {ρ : Type} {X : Cx} {G : Gx} {b nL d : Nat} {Qf : ρ → State → Prop} {pc : Nat} {lv : List (Option Value)} {st : List Value} {cc : ByteArray} {own : String} {ret : Option FieldType} (ok : OK X G b cc nL d own ret) {a oo j n : Nat} {s : Obj} (hs : shp a = (oo, 4, n, [])) (hj : a - oo = j) {τ : Type} {e : Int32} {i : Nat} {v w : Int32} {f : Obj → Option τ} {K : τ → Option ρ} (hi : ix n e = some i) (hw : (bz v) = w) (wf : Obj → Nat → Obj) (hM : ∀ s, wf s oo = s) (hU : ∀ s s', va_up (wf s) oo s' = wf s') (hd : decode cc pc = .ok (.bastore, 1)) (kk : ∀ s', VO X G b nL Qf (wf s') (pc + 1) lv st ((f s').bind K)) : VO X G b nL Qf (wf s) pc lv (.int v :: .int e :: .ref (b + a) :: st) ((bnd (sI s j i w) f).bind K) := by
  intro r hr H locs ls hW hS hlv
  have hW2 : va_P G.1 vwCl (wsF b (cell b G.2 (wf s))) H := hW
  have hin : vp_in e n ∧ e.toNatClampNeg = i := by
    unfold ix at hi
    by_cases h : e < 0 ∨ n ≤ e.toNatClampNeg
    · rw [if_pos h] at hi; cases hi
    · rw [if_neg h] at hi; exact ⟨h, Option.some.inj hi⟩
  obtain ⟨h1, rfl⟩ := hin
  subst hj
  subst hw
  refine va_zast (D := G.1) (A := fun q => b ≤ q) ok.1 ok.2.1 ok.2.2.2.2.2.1.1 hW2 wsF_D hS a 3 (ws_arr (e := .inl (G.2 4, n, .inl (s.1 (a - oo)))) hs (by decide) (hM s) rfl) rfl h1 hd (fun H1 locs1 hP1 _ hS1 => ?_)
  exact kk (sI s (a - oo) e.toNatClampNeg (bz v)) r hr H1 locs1 ls (wd_arr (e := .inl (G.2 4, n, .inl (va_up (s.1 (a - oo)) e.toNatClampNeg (bz v)))) hs (by decide) (hM s) (hU s) (fun i h => va_up_ne _ _ h) (fun _ _ => rfl) (by show mkC b G.2 (sI s (a - oo) e.toNatClampNeg (bz v)) (a - oo) 4 n [] = _; simp only [mkC, sI_c]; rfl) hP1) hS1 hlv
theorem r_zast {ρ : Type} {X : Cx} {G : Gx} {b nL d : Nat} {Qf : ρ → State → Prop} {pc : Nat} {lv : List (Option Value)} {st : List Value} {cc : ByteArray} {own : String} {ret : Option FieldType} (ok : OK X G b cc nL d own ret) {a oo j n : Nat} {s : Obj} (hs : shp a = (oo, 4, n, [])) (hj : a - oo = j) {τ : Type} {e : Int32} {v w : Int32} {f : Nat → Obj → Option τ} {K : τ → Option ρ} (hw : (bz v) = w) (wf : Obj → Nat → Obj) (hM : ∀ s, wf s oo = s) (hU : ∀ s s', va_up (wf s) oo s' = wf s') (hd : decode cc pc = .ok (.bastore, 1)) (kk : ∀ i s', VO X G b nL Qf (wf s') (pc + 1) lv st ((f i s').bind K)) : VO X G b nL Qf (wf s) pc lv (.int v :: .int e :: .ref (b + a) :: st) (((ix n e).bind fun i => bnd (sI s j i w) (f i)).bind K) := by
  intro r hr
  cases hi : ix n e with
  | none => rw [hi] at hr; cases hr
  | some i =>
    rw [hi] at hr
    exact r_zastc ok hs hj hi hw wf hM hU hd (kk i) r hr
theorem r_laldc {ρ : Type} {X : Cx} {G : Gx} {b nL d : Nat} {Qf : ρ → State → Prop} {M : Nat → Obj} {pc : Nat} {lv : List (Option Value)} {st : List Value} {o : Option ρ} {cc : ByteArray} {own : String} {ret : Option FieldType} (ok : OK X G b cc nL d own ret) {a oo j n : Nat} {s : Obj} (hs : shp a = (oo, 3, n, [])) (hj : a - oo = j) {e : Int32} {i : Nat} (hi : ix n e = some i) (hM : M oo = s) (hd : decode cc pc = .ok (.laload, 1)) (kk : VO X G b nL Qf M (pc + 1) lv (.long (s.2 j i) :: st) o) : VO X G b nL Qf M pc lv (.int e :: .ref (b + a) :: st) o := by
  intro r hr H locs ls hW hS hlv
  have hW2 : va_P G.1 vwCl (wsF b (cell b G.2 M)) H := hW
  have hin : vp_in e n ∧ e.toNatClampNeg = i := by
    unfold ix at hi
    by_cases h : e < 0 ∨ n ≤ e.toNatClampNeg
    · rw [if_pos h] at hi; cases hi
    · rw [if_neg h] at hi; exact ⟨h, Option.some.inj hi⟩
  obtain ⟨h1, rfl⟩ := hin
  subst hj
  exact va_lald (D := G.1) ok.1 ok.2.1 ok.2.2.2.2.2.1.1 hW2 a 2 (ws_arr (e := .inl (G.2 3, n, .inr (.inl (s.2 (a - oo))))) hs (by decide) hM rfl) rfl h1 hd (kk r hr H locs ls hW hS hlv)
theorem r_lald {ρ : Type} {X : Cx} {G : Gx} {b nL d : Nat} {Qf : ρ → State → Prop} {M : Nat → Obj} {pc : Nat} {lv : List (Option Value)} {st : List Value} {cc : ByteArray} {own : String} {ret : Option FieldType} (ok : OK X G b cc nL d own ret) {a oo j n : Nat} {s : Obj} (hs : shp a = (oo, 3, n, [])) (hj : a - oo = j) {τ : Type} {e : Int32} {f : Nat → Option τ} {K : τ → Option ρ} (hM : M oo = s) (hd : decode cc pc = .ok (.laload, 1)) (kk : ∀ i, VO X G b nL Qf M (pc + 1) lv (.long (s.2 j i) :: st) ((f i).bind K)) : VO X G b nL Qf M pc lv (.int e :: .ref (b + a) :: st) (((ix n e).bind f).bind K) := by
  intro r hr
  cases hi : ix n e with
  | none => rw [hi] at hr; cases hr
  | some i =>
    rw [hi] at hr
    exact r_laldc (o := (f i).bind K) ok hs hj hi hM hd (kk i) r hr
theorem r_lastc {ρ : Type} {X : Cx} {G : Gx} {b nL d : Nat} {Qf : ρ → State → Prop} {pc : Nat} {lv : List (Option Value)} {st : List Value} {cc : ByteArray} {own : String} {ret : Option FieldType} (ok : OK X G b cc nL d own ret) {a oo j n : Nat} {s : Obj} (hs : shp a = (oo, 3, n, [])) (hj : a - oo = j) {τ : Type} {e : Int32} {i : Nat} {v w : Int64} {f : Obj → Option τ} {K : τ → Option ρ} (hi : ix n e = some i) (hw : v = w) (wf : Obj → Nat → Obj) (hM : ∀ s, wf s oo = s) (hU : ∀ s s', va_up (wf s) oo s' = wf s') (hd : decode cc pc = .ok (.lastore, 1)) (kk : ∀ s', VO X G b nL Qf (wf s') (pc + 1) lv st ((f s').bind K)) : VO X G b nL Qf (wf s) pc lv (.long v :: .int e :: .ref (b + a) :: st) ((bnd (sL s j i w) f).bind K) := by
  intro r hr H locs ls hW hS hlv
  have hW2 : va_P G.1 vwCl (wsF b (cell b G.2 (wf s))) H := hW
  have hin : vp_in e n ∧ e.toNatClampNeg = i := by
    unfold ix at hi
    by_cases h : e < 0 ∨ n ≤ e.toNatClampNeg
    · rw [if_pos h] at hi; cases hi
    · rw [if_neg h] at hi; exact ⟨h, Option.some.inj hi⟩
  obtain ⟨h1, rfl⟩ := hin
  subst hj
  subst hw
  refine va_last (D := G.1) (A := fun q => b ≤ q) ok.1 ok.2.1 ok.2.2.2.2.2.1.1 hW2 wsF_D hS a 2 (ws_arr (e := .inl (G.2 3, n, .inr (.inl (s.2 (a - oo))))) hs (by decide) (hM s) rfl) rfl h1 hd (fun H1 locs1 hP1 _ hS1 => ?_)
  exact kk (sL s (a - oo) e.toNatClampNeg v) r hr H1 locs1 ls (wd_arr (e := .inl (G.2 3, n, .inr (.inl (va_up (s.2 (a - oo)) e.toNatClampNeg v)))) hs (by decide) (hM s) (hU s) (fun _ _ => rfl) (fun i h => va_up_ne _ _ h) (by show mkC b G.2 (sL s (a - oo) e.toNatClampNeg v) (a - oo) 3 n [] = _; simp only [mkC, sL_c]; rfl) hP1) hS1 hlv
theorem r_last {ρ : Type} {X : Cx} {G : Gx} {b nL d : Nat} {Qf : ρ → State → Prop} {pc : Nat} {lv : List (Option Value)} {st : List Value} {cc : ByteArray} {own : String} {ret : Option FieldType} (ok : OK X G b cc nL d own ret) {a oo j n : Nat} {s : Obj} (hs : shp a = (oo, 3, n, [])) (hj : a - oo = j) {τ : Type} {e : Int32} {v w : Int64} {f : Nat → Obj → Option τ} {K : τ → Option ρ} (hw : v = w) (wf : Obj → Nat → Obj) (hM : ∀ s, wf s oo = s) (hU : ∀ s s', va_up (wf s) oo s' = wf s') (hd : decode cc pc = .ok (.lastore, 1)) (kk : ∀ i s', VO X G b nL Qf (wf s') (pc + 1) lv st ((f i s').bind K)) : VO X G b nL Qf (wf s) pc lv (.long v :: .int e :: .ref (b + a) :: st) (((ix n e).bind fun i => bnd (sL s j i w) (f i)).bind K) := by
  intro r hr
  cases hi : ix n e with
  | none => rw [hi] at hr; cases hr
  | some i =>
    rw [hi] at hr
    exact r_lastc ok hs hj hi hw wf hM hU hd (kk i) r hr
theorem r_aald {ρ : Type} {X : Cx} {G : Gx} {b nL d : Nat} {Qf : ρ → State → Prop} {M : Nat → Obj} {pc : Nat} {lv : List (Option Value)} {st : List Value} {cc : ByteArray} {own : String} {ret : Option FieldType} (ok : OK X G b cc nL d own ret) {τ : Type} {e : Int32} {f : Nat → Option τ} {K : τ → Option ρ} (hd : decode cc pc = .ok (.aaload, 1)) (kk : ∀ i, i < 9 → VO X G b nL Qf M (pc + 1) lv (.ref (b + (102 + 11 * i)) :: st) ((f i).bind K)) : VO X G b nL Qf M pc lv (.int e :: .ref (b + 101) :: st) (((ix 9 e).bind f).bind K) := by
  intro r hr H locs ls hW hS hlv
  have hW2 : va_P G.1 vwCl (wsF b (cell b G.2 M)) H := hW
  unfold ix at hr
  by_cases h : e < 0 ∨ 9 ≤ e.toNatClampNeg
  · rw [if_pos h] at hr; cases hr
  · rw [if_neg h] at hr
    have hlt : e.toNatClampNeg < 9 := Nat.lt_of_not_le (fun z => h (Or.inr z))
    exact va_aldq (D := G.1) ok.1 ok.2.1 ok.2.2.2.2.2.1.1 hW2 101 4 (ws_arr (a := 101) (o := 100) (t := 5) (n := 9) (s := M 100) (e := .inl (G.2 5, 9, .inr (.inr (.inr (.inr (fun i => some (b + (102 + 11 * i)))))))) (by decide +kernel) (by decide) rfl rfl) rfl h hd (kk _ hlt r hr H locs ls hW hS hlv)
def wAC : List Cond := [.native arraycopyName, .static arraycopyName, .initialized "java/lang/System"]
theorem r_icpy {ρ : Type} {X : Cx} {G : Gx} {b nL d : Nat} {Qf : ρ → State → Prop} {pc : Nat} {lv : List (Option Value)} {st : List Value} {cc : ByteArray} {own : String} {ret : Option FieldType} (ok : OK X G b cc nL d own ret) {τ : Type} {a a0 oo o0 j j0 n0 n1 N idx : Nat} {s s0 : Obj} {n : Int32} {f : Obj → Option τ} {K : τ → Option ρ} (hs0 : shp a0 = (o0, 2, n0, [])) (hj0 : a0 - o0 = j0) (hs : shp a = (oo, 2, n1, [])) (hj : a - oo = j) (wf : Obj → Nat → Obj) (hM : ∀ s, wf s oo = s) (hU : ∀ s s', va_up (wf s) oo s' = wf s') (hM0 : ∀ s, wf s o0 = s0) (hn : ¬ n < 0 ∧ n.toNatClampNeg = N ∧ N ≤ n0 ∧ N ≤ n1) (hwd : ∀ w ∈ wAC, w ∈ Tg) (hl : Cond.methodLink own idx arraycopyName ∈ Tg) (hdp : 1 ≤ d) (hst : (st.map fun v => v.category).sum ≤ 8) (hd : decode cc pc = .ok (.invokestatic idx, 3)) (kk : ∀ s', VO X G b nL Qf (wf s') (pc + 3) lv st ((f s').bind K)) : VO X G b nL Qf (wf s) pc lv (.int n :: .int 0 :: .ref (b + a) :: .int 0 :: .ref (b + a0) :: st) ((bnd (sA s j (va_cpy (s0.1 j0) (s.1 j) 0 0 N)) f).bind K) := by
  intro r hr H locs ls hW hS hlv
  have hW2 : va_P G.1 vwCl (wsF b (cell b G.2 (wf s))) H := hW
  obtain ⟨hn0, rfl, hn1, hn2⟩ := hn
  subst hj0
  subst hj
  have hts := ok.2.2.2.2.1
  have hR := ok.2.2.2.2.2.2.2.1
  have z0 : (0 : Int32).toNatClampNeg = 0 := by decide +kernel
  refine va_copyi (D := G.1) (A := fun q => b ≤ q) ok.1 ok.2.1 (ok.2.2.1.trans hlv.1.symm) ok.2.2.2.1 (hts _ hl) (hts _ (hwd _ (List.mem_cons_self))) (hts _ (hwd _ (by simp [wAC]))) (hts _ (hwd _ (by simp [wAC]))) ok.2.2.2.2.2.1.1 hW2 wsF_D hS a0 a 1 1 (ws_arr (e := .inl (G.2 2, n0, .inl (s0.1 (a0 - o0)))) hs0 (by decide) (hM0 s) rfl) (ws_arr (e := .inl (G.2 2, n1, .inl (s.1 (a - oo)))) hs (by decide) (hM s) rfl) rfl rfl rfl (by decide +kernel) (by decide +kernel) hn0 (by rw [z0, Nat.zero_add]; exact hn1) (by rw [z0, Nat.zero_add]; exact hn2) (fun _ _ => rfl) (by rw [hR]; exact hdp) (by rw [hR]; show _ + (nativeFrameWords "java/lang/System" "arraycopy" 5 + 11) ≤ 60 * d; have h7 : nativeFrameWords "java/lang/System" "arraycopy" 5 = 7 := (by decide +kernel); rw [h7]; omega) hd (fun H1 locs1 hP1 _ hS1 => ?_)
  rw [z0] at hP1
  exact kk _ r hr H1 locs1 ls (wd_arr (e := .inl (G.2 2, n1, .inl (va_cpy (s0.1 (a0 - o0)) (s.1 (a - oo)) 0 0 n.toNatClampNeg))) (s' := sA s (a - oo) (va_cpy (s0.1 (a0 - o0)) (s.1 (a - oo)) 0 0 n.toNatClampNeg)) hs (by decide) (hM s) (hU s) (fun i h => va_up_ne _ _ h) (fun _ _ => rfl) (by simp only [mkC, sA_c]; rfl) hP1) hS1 hlv
theorem r_lcpy {ρ : Type} {X : Cx} {G : Gx} {b nL d : Nat} {Qf : ρ → State → Prop} {pc : Nat} {lv : List (Option Value)} {st : List Value} {cc : ByteArray} {own : String} {ret : Option FieldType} (ok : OK X G b cc nL d own ret) {τ : Type} {a a0 oo o0 j j0 n0 n1 N idx : Nat} {s s0 : Obj} {n : Int32} {f : Obj → Option τ} {K : τ → Option ρ} (hs0 : shp a0 = (o0, 3, n0, [])) (hj0 : a0 - o0 = j0) (hs : shp a = (oo, 3, n1, [])) (hj : a - oo = j) (wf : Obj → Nat → Obj) (hM : ∀ s, wf s oo = s) (hU : ∀ s s', va_up (wf s) oo s' = wf s') (hM0 : ∀ s, wf s o0 = s0) (hn : ¬ n < 0 ∧ n.toNatClampNeg = N ∧ N ≤ n0 ∧ N ≤ n1) (hwd : ∀ w ∈ wAC, w ∈ Tg) (hl : Cond.methodLink own idx arraycopyName ∈ Tg) (hdp : 1 ≤ d) (hst : (st.map fun v => v.category).sum ≤ 8) (hd : decode cc pc = .ok (.invokestatic idx, 3)) (kk : ∀ s', VO X G b nL Qf (wf s') (pc + 3) lv st ((f s').bind K)) : VO X G b nL Qf (wf s) pc lv (.int n :: .int 0 :: .ref (b + a) :: .int 0 :: .ref (b + a0) :: st) ((bnd (sAL s j (va_cpy (s0.2 j0) (s.2 j) 0 0 N)) f).bind K) := by
  intro r hr H locs ls hW hS hlv
  have hW2 : va_P G.1 vwCl (wsF b (cell b G.2 (wf s))) H := hW
  obtain ⟨hn0, rfl, hn1, hn2⟩ := hn
  subst hj0
  subst hj
  have hts := ok.2.2.2.2.1
  have hR := ok.2.2.2.2.2.2.2.1
  have z0 : (0 : Int32).toNatClampNeg = 0 := by decide +kernel
  refine va_copyl (D := G.1) (A := fun q => b ≤ q) ok.1 ok.2.1 (ok.2.2.1.trans hlv.1.symm) ok.2.2.2.1 (hts _ hl) (hts _ (hwd _ (List.mem_cons_self))) (hts _ (hwd _ (by simp [wAC]))) (hts _ (hwd _ (by simp [wAC]))) ok.2.2.2.2.2.1.1 hW2 wsF_D hS a0 a 2 2 (ws_arr (e := .inl (G.2 3, n0, .inr (.inl (s0.2 (a0 - o0))))) hs0 (by decide) (hM0 s) rfl) (ws_arr (e := .inl (G.2 3, n1, .inr (.inl (s.2 (a - oo))))) hs (by decide) (hM s) rfl) rfl rfl rfl (by decide +kernel) (by decide +kernel) hn0 (by rw [z0, Nat.zero_add]; exact hn1) (by rw [z0, Nat.zero_add]; exact hn2) (fun _ _ => rfl) (by rw [hR]; exact hdp) (by rw [hR]; show _ + (nativeFrameWords "java/lang/System" "arraycopy" 5 + 11) ≤ 60 * d; have h7 : nativeFrameWords "java/lang/System" "arraycopy" 5 = 7 := (by decide +kernel); rw [h7]; omega) hd (fun H1 locs1 hP1 _ hS1 => ?_)
  rw [z0] at hP1
  exact kk _ r hr H1 locs1 ls (wd_arr (e := .inl (G.2 3, n1, .inr (.inl (va_cpy (s0.2 (a0 - o0)) (s.2 (a - oo)) 0 0 n.toNatClampNeg)))) (s' := sAL s (a - oo) (va_cpy (s0.2 (a0 - o0)) (s.2 (a - oo)) 0 0 n.toNatClampNeg)) hs (by decide) (hM s) (hU s) (fun _ _ => rfl) (fun i h => va_up_ne _ _ h) (by simp only [mkC, sAL_c]; rfl) hP1) hS1 hlv
/-! contracts -/
def MetG (l : Launch) (G : Gx) (b : Nat) (y : MethodName) (cc : ByteArray) (maxL : Nat) (ret : Option FieldType) (d : Nat) (vs : List Value) (M : Nat → Obj) (Qc : Array Value → State → Outcome → State → Prop) : Prop :=
  Met l y (Cond.code y cc maxL ret :: Tg) (rmd d) (va_Pc vs (fun U => Wd G.1 G.2 b M U.heap ∧ EV G b U)) Qc 0 0 (fun q => b ≤ q)
def qI (G : Gx) (b : Nat) (v : Int32) (M : Nat → Obj) : Array Value → State → Outcome → State → Prop := va_Qi (fun (x : Int32) (_ : Unit) => x = v) (fun _ t => Wd G.1 G.2 b M t.heap) (fun q => b ≤ q)
def qJ (G : Gx) (b : Nat) (v : Int64) (M : Nat → Obj) : Array Value → State → Outcome → State → Prop := va_Ql (fun (x : Int64) (_ : Unit) => x = v) (fun _ t => Wd G.1 G.2 b M t.heap) (fun q => b ≤ q)
def qV (G : Gx) (b : Nat) (M : Nat → Obj) : Array Value → State → Outcome → State → Prop := va_Qv (fun (_ : Unit) => True) (fun _ t => Wd G.1 G.2 b M t.heap) (fun q => b ≤ q)
def qQ (G : Gx) (b : Nat) (v : Option Nat) (M : Nat → Obj) : Array Value → State → Outcome → State → Prop := va_Qq (fun (x : Option Nat) (_ : Unit) => x = v) (fun _ t => Wd G.1 G.2 b M t.heap) (fun q => b ≤ q)
def QX (X : Cx) (b : Nat) (Qc : Array Value → State → Outcome → State → Prop) : State → Prop := MQ X.2.2.2.2.2.2.2.1 Qc X.2.2.2.2.2.2.1 X.2.2.2.2.1 0 0 (fun q => b ≤ q)
theorem met_blind {G : Gx} {b : Nat} {vs : List Value} {M : Nat → Obj} : FrameBlind (va_Pc vs (fun U => Wd G.1 G.2 b M U.heap ∧ EV G b U)) := by
  intro a U g mk h
  obtain ⟨h1, h2, h3⟩ := h
  exact ⟨h1, h2, EV.same (u := U) (U := U.calling g mk a) rfl rfl h3⟩
theorem met_start {l : Launch} {G : Gx} {b : Nat} {y : MethodName} {cc : ByteArray} {maxL : Nat} {ret : Option FieldType} {d : Nat} {vs : List Value} {M : Nat → Obj} {Qc : Array Value → State → Outcome → State → Prop} (lv : List (Option Value)) (hy : plainName y.cls = true) (hlen : (lg_sl vs).length ≤ maxL) (hlv : lvp 0 lv = lv_args 0 vs)
    (body : ∀ X : Cx, X.2.1 = l → OK X G b cc maxL d y.cls ret → VW X G b maxL (QX X b Qc) M 0 lv []) : MetG l G b y cc maxL ret d vs M Qc := by
  refine Met.ofW (cc := cc) (maxL := maxL) (ret := ret) hy rfl ?_
  intro p e s m args below meth c s₁ B hml hv
  obtain ⟨rfl, hW, hE⟩ := hv
  have hts := atoms_spec (ws := Cond.code y cc maxL ret :: Tg) B.pre
  have hl := lv_entry vs (n := maxL) hlen
  rw [lg_entry_eq]
  refine body (p, l, e, rmd d, s, m, vs.toArray, below, meth, c) rfl ⟨B.exec, B.bytes, hml, findClass_of_methodNamed B.named, fun w h => hts w (List.mem_cons_of_mem _ h), hE, B.notSynchronized, rfl, B.returns⟩ s.heap [] _ hW va_S.rf ?_
  unfold lvs
  rw [hlv]
  exact hl
section RET
variable {ρ : Type} {X : Cx} {G : Gx} {b nL d : Nat} {Qf : ρ → State → Prop} {M : Nat → Obj} {pc : Nat} {lv : List (Option Value)} {st : List Value} {cc : ByteArray} {own : String} {ret : Option FieldType}
theorem r_eq {o o' : Option ρ} (h : o = o') (k : VO X G b nL Qf M pc lv st o') : VO X G b nL Qf M pc lv st o := by rw [h]; exact k
theorem r_none : VO X G b nL Qf M pc lv st none := fun _ h => by cases h
theorem r_lv {o : Option ρ} {lv' : List (Option Value)} (h : ∀ (i : Nat) (v : Value), lv'[i]? = some (some v) → lv[i]? = some (some v)) (k : VO X G b nL Qf M pc lv' st o) : VO X G b nL Qf M pc lv st o := fun r hr H locs ls hW hS hl => k r hr H locs ls hW hS (hl.mono h)
theorem r_M {o : Option ρ} {M' : Nat → Obj} (h : M = M') (k : VO X G b nL Qf M' pc lv st o) : VO X G b nL Qf M pc lv st o := by rw [h]; exact k
theorem lk_n {l' l : List (Option Value)} (h : ∀ (i : Nat) (v : Value), l'[i]? = some (some v) → l[i]? = some (some v)) (x : Option Value) : ∀ (i : Nat) (v : Value), (none :: l')[i]? = some (some v) → (x :: l)[i]? = some (some v)
  | 0, v, e => by rw [List.getElem?_cons_zero] at e; cases e
  | i + 1, v, e => by rw [List.getElem?_cons_succ] at e ⊢; exact h i v e
theorem lk_s {l' l : List (Option Value)} (h : ∀ (i : Nat) (v : Value), l'[i]? = some (some v) → l[i]? = some (some v)) (x : Option Value) : ∀ (i : Nat) (v : Value), (x :: l')[i]? = some (some v) → (x :: l)[i]? = some (some v)
  | 0, v, e => e
  | i + 1, v, e => by rw [List.getElem?_cons_succ] at e ⊢; exact h i v e
theorem lk_0 {l : List (Option Value)} : ∀ (i : Nat) (v : Value), ([] : List (Option Value))[i]? = some (some v) → l[i]? = some (some v) := fun i v e => by simp at e
theorem r_iret (ok : OK X G b cc nL d own (some .int)) {v : Int32} {r : ρ} (hd : decode cc pc = .ok (.ireturn, 1)) (hq : Qf r = QX X b (qI G b v M)) : VO X G b nL Qf M pc lv [.int v] (some r) := by
  intro r' hr H locs ls hW hS hl
  cases hr
  rw [hq]
  have hlocks : X.2.2.2.2.2.2.2.2.1.locks = false := ok.2.2.2.2.2.2.1
  exact W.iret ok.1 ok.2.1 ok.2.2.2.2.2.2.2.2 (fun t ht hWm => ⟨⟨v, (), rfl, rfl, (show Wd G.1 G.2 b M t.heap from by rw [ht]; exact hW)⟩, hS.F ht⟩) hS.2.2 hd
/-- the answer of a boolean method keeps its lowest bit -/
theorem W_zret {p : Program} {l : Launch} {e : Env} {R : Room} {s : State} {m : MethodId} {args : Array Value} {below : List Frame} {meth : Method} {c : Code} {H : Heap} {locs : List Loc} {cells slots : Nat} {cc : ByteArray} {Qc : Array Value → State → Outcome → State → Prop} {free : Addr → Prop} {v w : Int32} {ty : FieldType} (hexec : p.tables.exec = Jvm.exec) (hb : c.code = cc) (hr : meth.sig.returnType = some ty) (hn : narrow ty (.int v) = .int w)
    (hq : ∀ t : State, t.heap = H → s.WarmedH t.vm → Qc args s (.returned (some (.int w))) t) (hf : ∀ q ∈ locs, free q.base) {pc : Nat} {ls : Array Slot} (hdg : decode cc pc = .ok (.ireturn, 1)) (hlocks : meth.locks = false) : W p l e R s m args below meth c H locs cells slots (MQ below Qc args s cells slots free) (F0 m pc ls [.int v]) := by
  intro T hT X
  obtain ⟨fs, hret, hrun, hended, hW, hframe⟩ := X.leave (v := some (.int w)) (fun h => by rw [hr] at h; cases h)
  have hmeth' : T.vm.method? m = some meth := X.method'
  refine ⟨T.setFrames fs, ?_, .returned (some (.int w)), hrun, hended, hq _ hT hW, locs, ⟨⟨_, rfl⟩, hW, hframe⟩, hf⟩
  jvm_step X.here [X.here.top, hexec, hb, hdg, hmeth', hr, hn]
  (try refine ⟨rfl, ?_⟩); (try refine ⟨rfl, ?_⟩)
  first | (intro acts; rw [hret _ acts rfl rfl rfl]) | rw [hret _ _ rfl rfl rfl]
  exact Steps.refl _
theorem r_zret (ok : OK X G b cc nL d own (some .boolean)) {v w : Int32} {r : ρ} (hd : decode cc pc = .ok (.ireturn, 1)) (hw : v &&& 1 = w) (hq : Qf r = QX X b (qI G b w M)) : VO X G b nL Qf M pc lv [.int v] (some r) := by
  intro r' hr H locs ls hW hS hl
  cases hr
  rw [hq]
  exact W_zret ok.1 ok.2.1 ok.2.2.2.2.2.2.2.2 (show narrow .boolean (.int v) = .int w by rw [← hw]; rfl) (fun t ht hWm => ⟨⟨w, (), rfl, rfl, (show Wd G.1 G.2 b M t.heap from by rw [ht]; exact hW)⟩, hS.F ht⟩) hS.2.2 hd ok.2.2.2.2.2.2.1
theorem r_lret (ok : OK X G b cc nL d own (some .long)) {v : Int64} {r : ρ} (hd : decode cc pc = .ok (.lreturn, 1)) (hq : Qf r = QX X b (qJ G b v M)) : VO X G b nL Qf M pc lv [.long v] (some r) := by
  intro r' hr H locs ls hW hS hl
  cases hr
  rw [hq]
  have hlocks : X.2.2.2.2.2.2.2.2.1.locks = false := ok.2.2.2.2.2.2.1
  exact W.lret ok.1 ok.2.1 ok.2.2.2.2.2.2.2.2 (fun t ht hWm => ⟨⟨v, (), rfl, rfl, (show Wd G.1 G.2 b M t.heap from by rw [ht]; exact hW)⟩, hS.F ht⟩) hS.2.2 hd
theorem r_vret (ok : OK X G b cc nL d own none) {r : ρ} (hd : decode cc pc = .ok (.return_, 1)) (hq : Qf r = QX X b (qV G b M)) : VO X G b nL Qf M pc lv [] (some r) := by
  intro r' hr H locs ls hW hS hl
  cases hr
  rw [hq]
  have hlocks : X.2.2.2.2.2.2.2.2.1.locks = false := ok.2.2.2.2.2.2.1
  exact W.vret ok.1 ok.2.1 ok.2.2.2.2.2.2.2.2 (fun t ht hWm => ⟨⟨(), rfl, trivial, (show Wd G.1 G.2 b M t.heap from by rw [ht]; exact hW)⟩, hS.F ht⟩) hS.2.2 hd
theorem r_aret {C : String} (ok : OK X G b cc nL d own (some (.object C))) {v : Option Nat} {r : ρ} (hd : decode cc pc = .ok (.areturn, 1)) (hq : Qf r = QX X b (qQ G b v M)) : VO X G b nL Qf M pc lv [va_rf v] (some r) := by
  intro r' hr H locs ls hW hS hl
  cases hr
  rw [hq]
  have hlocks : X.2.2.2.2.2.2.2.2.1.locks = false := ok.2.2.2.2.2.2.1
  exact W.aret ok.1 ok.2.1 ok.2.2.2.2.2.2.2.2 (Or.inl ⟨_, rfl⟩) (by cases v with | none => exact Or.inl rfl | some a => exact Or.inr ⟨a, rfl⟩) (fun t ht hWm => ⟨⟨v, (), rfl, rfl, (show Wd G.1 G.2 b M t.heap from by rw [ht]; exact hW)⟩, hS.F ht⟩) hS.2.2 hd
/-- a loop: its body goes on, or out -/
theorem r_iter {α β : Type} {ρ : Type} {body : α → Option (α ⊕ β)} {P : α → Option ρ → Prop} {E : β → Option ρ → Prop} (h0 : ∀ a, P a none) (hb : ∀ (K : α ⊕ β → Option ρ), (∀ a, P a (K (.inl a))) → (∀ e, E e (K (.inr e))) → ∀ a, P a ((body a).bind K))
    {τ : Type} {f : β → Option τ} {K : τ → Option ρ} (hk : ∀ e, E e ((f e).bind K)) : ∀ n a, P a (((iter body n a).bind f).bind K) := by
  intro n
  induction n with
  | zero => intro a; exact h0 a
  | succ n ih =>
    intro a
    have e : ((iter body (n + 1) a).bind f).bind K = (body a).bind (fun x => ((Sum.elim (iter body n) some x).bind f).bind K) := by
      show (((body a).bind (Sum.elim (iter body n) some)).bind f).bind K = _
      rw [Option.bind_assoc, Option.bind_assoc]
      congr 1
      funext x
      rw [Option.bind_assoc]
    rw [e]
    exact hb _ ih (fun x => hk x) a
end RET
/-! calls -/
def wV (y : MethodName) (cc : ByteArray) (maxL : Nat) (ret : Option FieldType) : Prop := Cond.instanceMethod y ∈ Tg ∧ Cond.selects y.cls y y ∈ Tg ∧ Cond.initialized y.cls ∈ Tg ∧ Cond.code y cc maxL ret ∈ Tg
def wSt (y : MethodName) (cc : ByteArray) (maxL : Nat) (ret : Option FieldType) : Prop := Cond.static y ∈ Tg ∧ Cond.initialized y.cls ∈ Tg ∧ Cond.code y cc maxL ret ∈ Tg
def yOK (y : MethodName) (n : Nat) : Prop := y.cls ≠ "java/lang/invoke/MethodHandle" ∧ y.cls ≠ "java/lang/invoke/VarHandle" ∧ (parseMethodDescriptor y.desc).map (fun d => d.parameters.length) = some n
theorem good_cons {y : MethodName} {cc : ByteArray} {maxL : Nat} {ret : Option FieldType} (h : Cond.code y cc maxL ret ∈ Tg) : GoodIn Tg (Cond.code y cc maxL ret :: Tg) := fun w hw => (List.mem_cons.mp hw).elim (fun e => by rw [e]; exact tg_in _ h) (fun h => tg_in w h)
section CALL
variable {ρ : Type} {X : Cx} {G : Gx} {b nL d : Nat} {Qf : ρ → State → Prop} {M : Nat → Obj} {pc : Nat} {lv : List (Option Value)} {st st0 : List Value} {cc : ByteArray} {own : String} {ret : Option FieldType}
variable {y : MethodName} {cy : ByteArray} {mL dy n idx : Nat} {ry : Option FieldType} {As : List Value}
/-- what a call comes to -/
def Rn (X : Cx) (G : Gx) (b : Nat) (nL : Nat) (M : Nat → Obj) (pc : Nat) (lv : List (Option Value)) (st0 st : List Value) (Qc : Array Value → State → Outcome → State → Prop) (a : Array Value) : Prop :=
  ∀ (H : Heap) (locs : List Loc) (ls : Array Slot), Wd G.1 G.2 b M H → va_S (fun q => b ≤ q) X.2.2.2.2.1.heap H locs → lvs ls nL lv →
    va_Run X.1 X.2.1 X.2.2.1 X.2.2.2.1 X.2.2.2.2.1 X.2.2.2.2.2.1 X.2.2.2.2.2.2.1 X.2.2.2.2.2.2.2.1 X.2.2.2.2.2.2.2.2.1 X.2.2.2.2.2.2.2.2.2 H locs 0 0 0 0 (F0 X.2.2.2.2.2.1 pc ls st0) st (Qc a) (fun q => b ≤ q)
theorem call_b (ok : OK X G b cc nL d own ret) (hl : Cond.methodLink own idx y ∈ Tg) (hcd : Cond.code y cy mL ry ∈ Tg) (hin : Cond.initialized y.cls ∈ Tg) (hy : yOK y n) (hd1 : dy + 1 ≤ d) (hd2 : 8 + (mL + 11) + 60 * dy ≤ 60 * d) : CallB X.2.2.2.1 X.2.2.2.2.1 X.2.2.2.2.2.2.1 own idx y cy mL ry (Cond.code y cy mL ry :: Tg) (rmd dy) 0 0 n := by
  have hts := ok.2.2.2.2.1
  have hR := ok.2.2.2.2.2.2.2.1
  refine callB_of (Ts := Tg) n hts (good_cons hcd) rfl rfl rfl (hts _ hin) (hts _ hl) hy ?_
  rw [hR]
  exact ⟨hd1, hd2⟩
theorem c_V (ok : OK X G b cc nL d own ret) {a ci N : Nat} {ks : List (Nat × Nat)} {C : String} {T : u_T} {ty0 : Nat → FieldType} {Qc : Array Value → State → Outcome → State → Prop} (hc : cOK ci C T N ty0) (hs : shp a = (a, 0, ci, ks)) (hC : y.cls = C) (hl : Cond.methodLink own idx y ∈ Tg) (hw : wV y cy mL ry) (hy : yOK y n) (hn : As.length = n) (hd1 : dy + 1 ≤ d) (hd2 : 8 + (mL + 11) + 60 * dy ≤ 60 * d)
    (hM : MetG X.2.1 G b y cy mL ry dy (.ref (b + a) :: As) M Qc) (hst : st0 = As.reverse ++ .ref (b + a) :: st) (hcat : (st.map fun v => v.category).sum ≤ 8) (hd : decode cc pc = .ok (.invokevirtual idx, 3)) : Rn X G b nL M pc lv st0 st Qc (Value.ref (b + a) :: As).toArray := by
  intro H locs ls hW hS hlv
  have hts := ok.2.2.2.2.1
  have hcw : CallW X.2.2.2.1 X.2.2.2.2.1 X.2.2.2.2.2.2.1 own C idx y cy mL ry (Cond.code y cy mL ry :: Tg) (rmd dy) 0 0 n := ⟨call_b ok hl hw.2.2.2 hw.2.2.1 hy hd1 hd2, hts _ hw.1, by rw [← hC]; exact hts _ hw.2.1⟩
  have hrecv := va_recv ok.2.2.2.2.2.1.1 hW hc.1 (ws_obj hs (rfl : M a = M a))
  exact va_runV ⟨ok.1, ok.2.1, ok.2.2.1, ok.2.2.2.1, hts⟩ hM hcw ⟨met_blind, hrecv, fun U hU hWm => ⟨rfl, by rw [hU]; exact hW, EV.moved hWm (by rw [hU]; exact hS) ok.2.2.2.2.2.1⟩⟩ rfl hn hlv.1 hst (lv_room hcat) hd ⟨Nat.zero_le _, Nat.zero_le _⟩
theorem c_S (ok : OK X G b cc nL d own ret) {Qc : Array Value → State → Outcome → State → Prop} (hl : Cond.methodLink own idx y ∈ Tg) (hw : wSt y cy mL ry) (hy : yOK y n) (hn : As.length = n) (hd1 : dy + 1 ≤ d) (hd2 : 8 + (mL + 11) + 60 * dy ≤ 60 * d)
    (hM : MetG X.2.1 G b y cy mL ry dy As M Qc) (hst : st0 = As.reverse ++ st) (hcat : (st.map fun v => v.category).sum ≤ 8) (hd : decode cc pc = .ok (.invokestatic idx, 3)) : Rn X G b nL M pc lv st0 st Qc As.toArray := by
  intro H locs ls hW hS hlv
  have hts := ok.2.2.2.2.1
  exact va_runS ⟨ok.1, ok.2.1, ok.2.2.1, ok.2.2.2.1, hts⟩ hM ⟨call_b ok hl hw.2.2 hw.2.1 hy hd1 hd2, hts _ hw.1⟩ ⟨met_blind, fun U hU hWm => ⟨rfl, by rw [hU]; exact hW, EV.moved hWm (by rw [hU]; exact hS) ok.2.2.2.2.2.1⟩⟩ rfl hn hlv.1 hst (lv_room hcat) hd ⟨Nat.zero_le _, Nat.zero_le _⟩
theorem c_SN (ok : OK X G b cc nL d own ret) {host : String} {Qc : Array Value → State → Outcome → State → Prop} (hl : Cond.methodLinkNest own idx y host ∈ Tn) (hw : wSt y cy mL ry) (hy : yOK y n) (hn : As.length = n) (hd1 : dy + 1 ≤ d) (hd2 : 8 + (mL + 11) + 60 * dy ≤ 60 * d)
    (hM : MetG X.2.1 G b y cy mL ry dy As M Qc) (hst : st0 = As.reverse ++ st) (hcat : (st.map fun v => v.category).sum ≤ 8) (hd : decode cc pc = .ok (.invokestatic idx, 3)) : Rn X G b nL M pc lv st0 st Qc As.toArray := by
  intro H locs ls hW hS hlv
  have hts := ok.2.2.2.2.1
  have hR := ok.2.2.2.2.2.2.2.1
  have hcn : va_CN X.2.2.2.1 X.2.2.2.2.1 X.2.2.2.2.2.2.1 own idx y host cy mL ry (Cond.code y cy mL ry :: Tg) (rmd dy) 0 0 n := va_cnB (Ts := Tg) n hts (good_cons hw.2.2) rfl rfl rfl (ok.2.2.2.2.2.1.2.1 _ hl) (hts _ hw.2.1) hy (by rw [hR]; exact ⟨hd1, hd2⟩)
  exact va_runSN ⟨ok.1, ok.2.1, ok.2.2.1, ok.2.2.2.1, hts⟩ hM ⟨hcn, hts _ hw.1, trivial⟩ ⟨met_blind, fun U hU hWm => ⟨rfl, by rw [hU]; exact hW, EV.moved hWm (by rw [hU]; exact hS) ok.2.2.2.2.2.1⟩⟩ rfl hn hlv.1 hst (lv_room hcat) hd ⟨Nat.zero_le _, Nat.zero_le _⟩
/-- behind a call that answers an int; val and mem read its function's answer -/
theorem k_I {ρ' τ : Type} {fo : Option ρ'} {f : ρ' → Option τ} {K : τ → Option ρ} {a : Array Value} (val : ρ' → Int32) (mem : ρ' → Nat → Obj) (hr : ∀ r', fo = some r' → Rn X G b nL M pc lv st0 st (qI G b (val r') (mem r')) a) (kk : ∀ r', VO X G b nL Qf (mem r') (pc + 3) lv (.int (val r') :: st) ((f r').bind K)) : VO X G b nL Qf M pc lv st0 ((fo.bind f).bind K) := by
  intro r hrr H locs ls hW hS hl
  cases hfo : fo with
  | none => rw [hfo] at hrr; cases hrr
  | some r' =>
    rw [hfo] at hrr
    refine va_calli (A0 := fun q => b ≤ q) (hr r' hfo H locs ls hW hS hl) hS (fun _ _ h => h) (fun _ h => h) (fun x u t H1 locs1 ht hvm hw hB hz1 hk1 hS1 => ?_)
    rw [hw]
    exact kk r' r hrr H1 locs1 ls (by rw [← ht]; exact hB) hS1 hl
theorem k_J {ρ' τ : Type} {fo : Option ρ'} {f : ρ' → Option τ} {K : τ → Option ρ} {a : Array Value} (val : ρ' → Int64) (mem : ρ' → Nat → Obj) (hr : ∀ r', fo = some r' → Rn X G b nL M pc lv st0 st (qJ G b (val r') (mem r')) a) (kk : ∀ r', VO X G b nL Qf (mem r') (pc + 3) lv (.long (val r') :: st) ((f r').bind K)) : VO X G b nL Qf M pc lv st0 ((fo.bind f).bind K) := by
  intro r hrr H locs ls hW hS hl
  cases hfo : fo with
  | none => rw [hfo] at hrr; cases hrr
  | some r' =>
    rw [hfo] at hrr
    refine va_calll (A0 := fun q => b ≤ q) (hr r' hfo H locs ls hW hS hl) hS (fun _ _ h => h) (fun _ h => h) (fun x u t H1 locs1 ht hvm hw hB hz1 hk1 hS1 => ?_)
    rw [hw]
    exact kk r' r hrr H1 locs1 ls (by rw [← ht]; exact hB) hS1 hl
theorem k_V {ρ' τ : Type} {fo : Option ρ'} {f : ρ' → Option τ} {K : τ → Option ρ} {a : Array Value} (mem : ρ' → Nat → Obj) (hr : ∀ r', fo = some r' → Rn X G b nL M pc lv st0 st (qV G b (mem r')) a) (kk : ∀ r', VO X G b nL Qf (mem r') (pc + 3) lv st ((f r').bind K)) : VO X G b nL Qf M pc lv st0 ((fo.bind f).bind K) := by
  intro r hrr H locs ls hW hS hl
  cases hfo : fo with
  | none => rw [hfo] at hrr; cases hrr
  | some r' =>
    rw [hfo] at hrr
    refine va_callv (A0 := fun q => b ≤ q) (hr r' hfo H locs ls hW hS hl) hS (fun _ _ h => h) (fun _ h => h) (fun u t H1 locs1 ht hvm hw hB hz1 hk1 hS1 => ?_)
    exact kk r' r hrr H1 locs1 ls (by rw [← ht]; exact hB) hS1 hl
end CALL

