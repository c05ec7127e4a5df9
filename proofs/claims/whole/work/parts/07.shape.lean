/-! the world as a function of one object's state -/
def PP (wf : Obj → Nat → Obj) (a : Nat) : Prop := (∀ s, wf s a = s) ∧ ∀ s s', va_up (wf s) a s' = wf s'
theorem pm_0 (A : Nat → Obj) (i : Nat) : PP (fun s => va_up A i s) i := ⟨fun s => va_up_self _ _ _, fun s s' => up_up _ _ _ _⟩
theorem pm_s {F : Obj → Nat → Obj} {i j : Nat} {t : Obj} (h : i ≠ j) (k : PP F i) : PP (fun s => va_up (F s) j t) i :=
  ⟨fun s => (va_up_ne _ _ h).trans (k.1 s), fun s s' => (up_co (F s) t s' (Ne.symm h)).trans (congrArg (fun A => va_up A j t) (k.2 s s'))⟩
theorem pm_l {F : Obj → Nat → Obj} {YY : Nat → Obj} {i : Nat} (h : i < 225) (k : PP F i) : PP (fun s => mx (F s) YY) i :=
  ⟨fun s => mx_l h (k.1 s), fun s s' => (mx_ul s' h).trans (congrArg (fun A => mx A YY) (k.2 s s'))⟩
theorem pm_r (XX YY : Nat → Obj) : PP (fun s => mx XX (va_up YY 225 s)) 225 :=
  ⟨fun s => mx_r (by decide) (va_up_self _ _ _), fun s s' => (mx_ur s' (by decide)).trans (congrArg (fun A => mx XX A) (up_up _ _ _ _))⟩
theorem met_cast {l : Launch} {G : Gx} {b : Nat} {y : MethodName} {cc : ByteArray} {maxL : Nat} {ret : Option FieldType} {d : Nat} {vs : List Value} {M M0 : Nat → Obj} {Q Q0 : Array Value → State → Outcome → State → Prop} (h : M = M0) (hq : Q = Q0) (k : MetG l G b y cc maxL ret d vs M0 Q0) : MetG l G b y cc maxL ret d vs M Q := by
  rw [h, hq]; exact k
theorem r_bndX {ρ : Type} {X : Cx} {G : Gx} {b nL : Nat} {Qf : ρ → State → Prop} {pc : Nat} {lv : List (Option Value)} {st : List Value} {τ : Type} {e : Nat → Obj} {f : (Nat → Obj) → Option τ} {K : τ → Option ρ} {wf : (Nat → Obj) → Nat → Obj} (k : ∀ x, VO X G b nL Qf (wf x) pc lv st ((f x).bind K)) : VO X G b nL Qf (wf e) pc lv st ((bnd e f).bind K) := k e
theorem r_st {ρ : Type} {X : Cx} {G : Gx} {b nL : Nat} {Qf : ρ → State → Prop} {M : Nat → Obj} {pc : Nat} {lv : List (Option Value)} {st st' : List Value} {o : Option ρ} (h : st = st') (k : VO X G b nL Qf M pc lv st' o) : VO X G b nL Qf M pc lv st o := by rw [h]; exact k
theorem r_putG {ρ : Type} {X : Cx} {G : Gx} {b nL d : Nat} {Qf : ρ → State → Prop} {pc : Nat} {lv : List (Option Value)} {st : List Value} {cc : ByteArray} {own : String} {ret : Option FieldType} (ok : OK X G b cc nL d own ret) {a ci k idx N : Nat} {ks : List (Nat × Nat)} {C : String} {T : u_T} {ty0 : Nat → FieldType} (hc : cOK ci C T N ty0) (hs : shp a = (a, 0, ci, ks)) (hk : ks[k]? = some (0, 0)) (hN : k < N) (ha : a < 225) {τ : Type} {v : Int32} {XM YY : Nat → Obj} {f : (Nat → Obj) → Option τ} {K : τ → Option ρ} (hfin : (T k).2.2.2 = false) (hn : narrow (ty0 k) (.int v) = .int v) (hft : fits (ty0 k) (.int v) = true) (hd : decode cc pc = .ok (.putfield idx, 3)) (hl : Cond.fieldLink own idx (T k).1 (T k).2.1 (T k).2.2.1 ∈ Tg) (kk : ∀ x, VO X G b nL Qf (mx x YY) (pc + 3) lv st ((f x).bind K)) : VO X G b nL Qf (mx XM YY) pc lv (.int v :: .ref (b + a) :: st) ((bnd (va_up XM a (sI (XM a) 0 k v)) f).bind K) := by
  have h := r_putI (s := XM a) (v := v) (f := fun s' => f (va_up XM a s')) (K := K) ok hc hs hk hN (fun s => mx (va_up XM a s) YY) (pm_l ha (pm_0 _ _)).1 (pm_l ha (pm_0 _ _)).2 hfin hn hft hd hl (fun s' => kk _)
  rw [up_eta] at h
  exact h
def imgv (b k : Nat) : Option Nat := if k = 0 then none else if k = 1 then some (b + 52) else some (b + 76)
theorem k_Q {ρ : Type} {X : Cx} {G : Gx} {b nL : Nat} {Qf : ρ → State → Prop} {M : Nat → Obj} {pc : Nat} {lv : List (Option Value)} {st st0 : List Value} {ρ' τ : Type} {fo : Option ρ'} {f : ρ' → Option τ} {K : τ → Option ρ} {a : Array Value} (val : ρ' → Option Nat) (mem : ρ' → Nat → Obj) (hr : ∀ r', fo = some r' → Rn X G b nL M pc lv st0 st (qQ G b (val r') (mem r')) a) (kk : ∀ r', VO X G b nL Qf (mem r') (pc + 3) lv (va_rf (val r') :: st) ((f r').bind K)) : VO X G b nL Qf M pc lv st0 ((fo.bind f).bind K) := by
  intro r hrr H locs ls hW hS hl
  cases hfo : fo with
  | none => rw [hfo] at hrr; cases hrr
  | some r' =>
    rw [hfo] at hrr
    refine va_callq (A0 := fun q => b ≤ q) (hr r' hfo H locs ls hW hS hl) hS (fun _ _ h => h) (fun _ h => h) (fun x u t H1 locs1 ht hvm hw hB hz1 hk1 hS1 => ?_)
    rw [hw]
    exact kk r' r hrr H1 locs1 ls (by rw [← ht]; exact hB) hS1 hl
def rmv (b i : Nat) : Option Nat := if i < 9 then some (b + (102 + 11 * i)) else none
theorem rmv_in {b i : Nat} (h : i < 9) : rmv b i = some (b + (102 + 11 * i)) := if_pos h
theorem rmv_no {b i : Nat} (h : ¬ i < 9) : rmv b i = none := if_neg h
def SCN : List Nat := [12, 36, 60, 84, 102, 113, 124, 135, 146, 157, 168, 179, 190, 201]
def QUN : List Nat := [5, 29, 53, 77]
def SYN : List Nat := [23, 47, 71, 95]
def STN : List Nat := [4, 28, 52, 76]
def isSc (o : Nat) : Prop := o ∈ SCN
theorem sc_c {o : Nat} (h : o ∈ SCN) : isSc o := h
theorem sc_ne {o k : Nat} (h : isSc o) (hk : k ∉ SCN) : o ≠ k := fun e => hk (e ▸ h)
theorem sc_all {P : Nat → Prop} {o : Nat} (h : isSc o) (ha : ∀ x ∈ SCN, P x) : P o := ha o h
theorem sc_lt {o : Nat} (h : isSc o) : o < 225 := sc_all (P := fun o => o < 225) h (by decide +kernel)
def isQu (o : Nat) : Prop := o ∈ QUN
theorem qu_c {o : Nat} (h : o ∈ QUN) : isQu o := h
theorem qu_ne {o k : Nat} (h : isQu o) (hk : k ∉ QUN) : o ≠ k := fun e => hk (e ▸ h)
theorem qu_all {P : Nat → Prop} {o : Nat} (h : isQu o) (ha : ∀ x ∈ QUN, P x) : P o := ha o h
theorem qu_lt {o : Nat} (h : isQu o) : o < 225 := qu_all (P := fun o => o < 225) h (by decide +kernel)
def isSy (o : Nat) : Prop := o ∈ SYN
theorem sy_c {o : Nat} (h : o ∈ SYN) : isSy o := h
theorem sy_ne {o k : Nat} (h : isSy o) (hk : k ∉ SYN) : o ≠ k := fun e => hk (e ▸ h)
theorem sy_all {P : Nat → Prop} {o : Nat} (h : isSy o) (ha : ∀ x ∈ SYN, P x) : P o := ha o h
theorem sy_lt {o : Nat} (h : isSy o) : o < 225 := sy_all (P := fun o => o < 225) h (by decide +kernel)
def isSt (o : Nat) : Prop := o ∈ STN
theorem st_c {o : Nat} (h : o ∈ STN) : isSt o := h
theorem st_ne {o k : Nat} (h : isSt o) (hk : k ∉ STN) : o ≠ k := fun e => hk (e ▸ h)
theorem st_all {P : Nat → Prop} {o : Nat} (h : isSt o) (ha : ∀ x ∈ STN, P x) : P o := ha o h
theorem st_lt {o : Nat} (h : isSt o) : o < 225 := st_all (P := fun o => o < 225) h (by decide +kernel)
def qid (o : Nat) : Nat := if o = 36 then 29 else if o = 60 then 53 else if o = 84 then 77 else 5
theorem qid_qu {o : Nat} (h : isSc o) : isQu (qid o) := sc_all (P := fun o => qid o ∈ QUN) h (by decide +kernel)
theorem qid_ne {o : Nat} (h : isSc o) : qid o ≠ o := sc_all (P := fun o => qid o ≠ o) h (by decide +kernel)
theorem kd_ne {i j : Nat} {l1 l2 : List Nat} (h : i ∈ l1) (h2 : j ∈ l2) (hd : ∀ x ∈ l1, ∀ y ∈ l2, x ≠ y) : i ≠ j := hd i h j h2
theorem st_qu {z : Nat} (h : isSt z) : isQu (z + 1) := st_all (P := fun z => z + 1 ∈ QUN) h (by decide +kernel)
theorem st_sc {z : Nat} (h : isSt z) : isSc (z + 8) := st_all (P := fun z => z + 8 ∈ SCN) h (by decide +kernel)
theorem st_sy {z : Nat} (h : isSt z) : isSy (z + 19) := st_all (P := fun z => z + 19 ∈ SYN) h (by decide +kernel)
theorem st_nn {a b k : Nat} (h : a ≠ b) : a + k ≠ b + k := fun e => h (Nat.add_right_cancel e)
theorem past_sc {i : Nat} (h : i < 9) : isSc (102 + 11 * i) := (show ∀ i, i < 9 → 102 + 11 * i ∈ SCN by decide +kernel) i h
theorem past_ne {i k : Nat} (h : i < 9) (hk : ∀ i, i < 9 → 102 + 11 * i ≠ k) : 102 + 11 * i ≠ k := hk i h
theorem sc_sh {o : Nat} (h : isSc o) : shp o = (o, 0, 8, [(2, qid o), (0, 0), (0, 0), (0, 0), (2, o + 1), (2, o + 2), (2, o + 3), (2, o + 4), (2, o + 5), (2, o + 6), (2, o + 7), (2, o + 8), (2, o + 9), (2, o + 10), (0, 0)]) := sc_all (P := fun o => shp o = (o, 0, 8, [(2, qid o), (0, 0), (0, 0), (0, 0), (2, o + 1), (2, o + 2), (2, o + 3), (2, o + 4), (2, o + 5), (2, o + 6), (2, o + 7), (2, o + 8), (2, o + 9), (2, o + 10), (0, 0)])) h (by decide +kernel)
theorem sc_s1 {o : Nat} (h : isSc o) : shp (o + 1) = (o, 2, 12, []) := sc_all (P := fun o => shp (o + 1) = (o, 2, 12, [])) h (by decide +kernel)
theorem sc_s2 {o : Nat} (h : isSc o) : shp (o + 2) = (o, 2, 12, []) := sc_all (P := fun o => shp (o + 2) = (o, 2, 12, [])) h (by decide +kernel)
theorem sc_s3 {o : Nat} (h : isSc o) : shp (o + 3) = (o, 2, 8, []) := sc_all (P := fun o => shp (o + 3) = (o, 2, 8, [])) h (by decide +kernel)
theorem sc_s4 {o : Nat} (h : isSc o) : shp (o + 4) = (o, 2, 8, []) := sc_all (P := fun o => shp (o + 4) = (o, 2, 8, [])) h (by decide +kernel)
theorem sc_s5 {o : Nat} (h : isSc o) : shp (o + 5) = (o, 2, 8, []) := sc_all (P := fun o => shp (o + 5) = (o, 2, 8, [])) h (by decide +kernel)
theorem sc_s6 {o : Nat} (h : isSc o) : shp (o + 6) = (o, 2, 8, []) := sc_all (P := fun o => shp (o + 6) = (o, 2, 8, [])) h (by decide +kernel)
theorem sc_s7 {o : Nat} (h : isSc o) : shp (o + 7) = (o, 2, 8, []) := sc_all (P := fun o => shp (o + 7) = (o, 2, 8, [])) h (by decide +kernel)
theorem sc_s8 {o : Nat} (h : isSc o) : shp (o + 8) = (o, 2, 8, []) := sc_all (P := fun o => shp (o + 8) = (o, 2, 8, [])) h (by decide +kernel)
theorem sc_s9 {o : Nat} (h : isSc o) : shp (o + 9) = (o, 2, 8, []) := sc_all (P := fun o => shp (o + 9) = (o, 2, 8, [])) h (by decide +kernel)
theorem sc_s10 {o : Nat} (h : isSc o) : shp (o + 10) = (o, 2, 8, []) := sc_all (P := fun o => shp (o + 10) = (o, 2, 8, [])) h (by decide +kernel)
theorem qu_sh {o : Nat} (h : isQu o) : shp o = (o, 0, 5, [(0, 0), (0, 0), (0, 0), (0, 0), (0, 0), (2, o + 1), (2, o + 2), (2, o + 3), (2, o + 4), (2, o + 5), (2, o + 6)]) := qu_all (P := fun o => shp o = (o, 0, 5, [(0, 0), (0, 0), (0, 0), (0, 0), (0, 0), (2, o + 1), (2, o + 2), (2, o + 3), (2, o + 4), (2, o + 5), (2, o + 6)])) h (by decide +kernel)
theorem qu_s1 {o : Nat} (h : isQu o) : shp (o + 1) = (o, 2, 6, []) := qu_all (P := fun o => shp (o + 1) = (o, 2, 6, [])) h (by decide +kernel)
theorem qu_s2 {o : Nat} (h : isQu o) : shp (o + 2) = (o, 2, 6, []) := qu_all (P := fun o => shp (o + 2) = (o, 2, 6, [])) h (by decide +kernel)
theorem qu_s3 {o : Nat} (h : isQu o) : shp (o + 3) = (o, 3, 6, []) := qu_all (P := fun o => shp (o + 3) = (o, 3, 6, [])) h (by decide +kernel)
theorem qu_s4 {o : Nat} (h : isQu o) : shp (o + 4) = (o, 2, 8, []) := qu_all (P := fun o => shp (o + 4) = (o, 2, 8, [])) h (by decide +kernel)
theorem qu_s5 {o : Nat} (h : isQu o) : shp (o + 5) = (o, 2, 8, []) := qu_all (P := fun o => shp (o + 5) = (o, 2, 8, [])) h (by decide +kernel)
theorem qu_s6 {o : Nat} (h : isQu o) : shp (o + 6) = (o, 3, 8, []) := qu_all (P := fun o => shp (o + 6) = (o, 3, 8, [])) h (by decide +kernel)
theorem sy_sh {o : Nat} (h : isSy o) : shp o = (o, 0, 7, [(0, 0), (0, 0), (2, o + 1), (2, o + 2), (2, o + 3), (2, o + 4), (0, 0)]) := sy_all (P := fun o => shp o = (o, 0, 7, [(0, 0), (0, 0), (2, o + 1), (2, o + 2), (2, o + 3), (2, o + 4), (0, 0)])) h (by decide +kernel)
theorem sy_s1 {o : Nat} (h : isSy o) : shp (o + 1) = (o, 2, 40, []) := sy_all (P := fun o => shp (o + 1) = (o, 2, 40, [])) h (by decide +kernel)
theorem sy_s2 {o : Nat} (h : isSy o) : shp (o + 2) = (o, 2, 40, []) := sy_all (P := fun o => shp (o + 2) = (o, 2, 40, [])) h (by decide +kernel)
theorem sy_s3 {o : Nat} (h : isSy o) : shp (o + 3) = (o, 2, 40, []) := sy_all (P := fun o => shp (o + 3) = (o, 2, 40, [])) h (by decide +kernel)
theorem sy_s4 {o : Nat} (h : isSy o) : shp (o + 4) = (o, 2, 40, []) := sy_all (P := fun o => shp (o + 4) = (o, 2, 40, [])) h (by decide +kernel)
theorem st_sh {o : Nat} (h : isSt o) : shp o = (o, 0, 9, [(2, o + 1), (2, o + 8), (2, o + 19), (0, 0)]) := st_all (P := fun o => shp o = (o, 0, 9, [(2, o + 1), (2, o + 8), (2, o + 19), (0, 0)])) h (by decide +kernel)
theorem sh_0 : shp 0 = (0, 0, 11, [(2, 1), (2, 4), (2, 28), (2, 52), (2, 76), (2, 100), (2, 201), (2, 212), (2, 213), (2, 217), (2, 220), (2, 223), (0, 0), (0, 0), (0, 0)]) := by decide +kernel
theorem sh_1 : shp 1 = (1, 0, 10, [(2, 2), (0, 0), (0, 0), (0, 0), (0, 0), (0, 0), (1, 0), (2, 3), (0, 0), (0, 0), (0, 0)]) := by decide +kernel
theorem sh_2 : shp 2 = (1, 3, 29, []) := by decide +kernel
theorem sh_3 : shp 3 = (1, 1, 940, []) := by decide +kernel
theorem sh_4 : shp 4 = (4, 0, 9, [(2, 5), (2, 12), (2, 23), (0, 0)]) := by decide +kernel
theorem sh_5 : shp 5 = (5, 0, 5, [(0, 0), (0, 0), (0, 0), (0, 0), (0, 0), (2, 6), (2, 7), (2, 8), (2, 9), (2, 10), (2, 11)]) := by decide +kernel
theorem sh_12 : shp 12 = (12, 0, 8, [(2, 5), (0, 0), (0, 0), (0, 0), (2, 13), (2, 14), (2, 15), (2, 16), (2, 17), (2, 18), (2, 19), (2, 20), (2, 21), (2, 22), (0, 0)]) := by decide +kernel
theorem sh_13 : shp 13 = (12, 2, 12, []) := by decide +kernel
theorem sh_14 : shp 14 = (12, 2, 12, []) := by decide +kernel
theorem sh_23 : shp 23 = (23, 0, 7, [(0, 0), (0, 0), (2, 24), (2, 25), (2, 26), (2, 27), (0, 0)]) := by decide +kernel
theorem sh_24 : shp 24 = (23, 2, 40, []) := by decide +kernel
theorem sh_25 : shp 25 = (23, 2, 40, []) := by decide +kernel
theorem sh_26 : shp 26 = (23, 2, 40, []) := by decide +kernel
theorem sh_27 : shp 27 = (23, 2, 40, []) := by decide +kernel
theorem sh_28 : shp 28 = (28, 0, 9, [(2, 29), (2, 36), (2, 47), (0, 0)]) := by decide +kernel
theorem sh_29 : shp 29 = (29, 0, 5, [(0, 0), (0, 0), (0, 0), (0, 0), (0, 0), (2, 30), (2, 31), (2, 32), (2, 33), (2, 34), (2, 35)]) := by decide +kernel
theorem sh_36 : shp 36 = (36, 0, 8, [(2, 29), (0, 0), (0, 0), (0, 0), (2, 37), (2, 38), (2, 39), (2, 40), (2, 41), (2, 42), (2, 43), (2, 44), (2, 45), (2, 46), (0, 0)]) := by decide +kernel
theorem sh_47 : shp 47 = (47, 0, 7, [(0, 0), (0, 0), (2, 48), (2, 49), (2, 50), (2, 51), (0, 0)]) := by decide +kernel
theorem sh_48 : shp 48 = (47, 2, 40, []) := by decide +kernel
theorem sh_49 : shp 49 = (47, 2, 40, []) := by decide +kernel
theorem sh_50 : shp 50 = (47, 2, 40, []) := by decide +kernel
theorem sh_52 : shp 52 = (52, 0, 9, [(2, 53), (2, 60), (2, 71), (0, 0)]) := by decide +kernel
theorem sh_76 : shp 76 = (76, 0, 9, [(2, 77), (2, 84), (2, 95), (0, 0)]) := by decide +kernel
theorem sh_100 : shp 100 = (100, 0, 4, [(2, 101), (0, 0), (0, 0)]) := by decide +kernel
theorem sh_201 : shp 201 = (201, 0, 8, [(2, 5), (0, 0), (0, 0), (0, 0), (2, 202), (2, 203), (2, 204), (2, 205), (2, 206), (2, 207), (2, 208), (2, 209), (2, 210), (2, 211), (0, 0)]) := by decide +kernel
theorem sh_212 : shp 212 = (212, 0, 6, [(2, 1), (2, 29), (2, 36), (0, 0), (0, 0), (0, 0)]) := by decide +kernel
theorem sh_213 : shp 213 = (213, 0, 0, [(0, 0), (0, 0), (2, 1), (2, 5), (2, 214), (2, 215), (2, 216), (0, 0), (0, 0), (0, 0), (0, 0)]) := by decide +kernel
theorem sh_214 : shp 214 = (213, 2, 40, []) := by decide +kernel
theorem sh_215 : shp 215 = (213, 2, 40, []) := by decide +kernel
theorem sh_216 : shp 216 = (213, 2, 40, []) := by decide +kernel
theorem sh_217 : shp 217 = (217, 0, 3, [(2, 218), (2, 219)]) := by decide +kernel
theorem sh_218 : shp 218 = (217, 4, 256, []) := by decide +kernel
theorem sh_219 : shp 219 = (217, 2, 8, []) := by decide +kernel
theorem sh_220 : shp 220 = (220, 0, 1, [(2, 221), (2, 222), (0, 0)]) := by decide +kernel
theorem sh_221 : shp 221 = (220, 2, 8, []) := by decide +kernel
theorem sh_222 : shp 222 = (220, 2, 8, []) := by decide +kernel
theorem sh_223 : shp 223 = (223, 0, 2, [(0, 0), (2, 224), (2, 2)]) := by decide +kernel
theorem sh_224 : shp 224 = (223, 1, 32, []) := by decide +kernel
theorem sh_225 : shp 225 = (225, 0, 12, [(0, 0), (2, 226), (0, 0), (0, 0), (0, 0), (0, 0), (2, 227), (2, 228), (2, 229), (2, 230), (2, 231), (0, 0), (0, 0), (0, 0), (0, 0), (0, 0), (0, 0), (1, 0), (0, 0), (0, 0), (0, 0), (2, 232), (2, 233), (0, 0), (0, 0), (0, 0), (2, 234), (2, 235), (2, 236), (0, 0), (0, 0), (0, 0), (2, 237), (0, 0), (0, 0), (0, 0), (2, 238), (0, 0), (2, 239), (0, 0), (0, 0), (0, 0), (0, 0), (0, 0), (2, 240), (2, 241), (2, 242), (2, 243)]) := by decide +kernel
theorem sh_226 : shp 226 = (225, 1, 940, []) := by decide +kernel
theorem sh_227 : shp 227 = (225, 2, 342, []) := by decide +kernel
theorem sh_228 : shp 228 = (225, 2, 69, []) := by decide +kernel
theorem sh_229 : shp 229 = (225, 2, 135, []) := by decide +kernel
theorem sh_230 : shp 230 = (225, 3, 28, []) := by decide +kernel
theorem sh_231 : shp 231 = (225, 3, 29, []) := by decide +kernel
theorem sh_232 : shp 232 = (225, 2, 736, []) := by decide +kernel
theorem sh_233 : shp 233 = (225, 2, 92, []) := by decide +kernel
theorem sh_234 : shp 234 = (225, 4, 256, []) := by decide +kernel
theorem sh_235 : shp 235 = (225, 2, 8, []) := by decide +kernel
theorem sh_236 : shp 236 = (225, 2, 8, []) := by decide +kernel
theorem sh_237 : shp 237 = (225, 1, 40, []) := by decide +kernel
theorem sh_238 : shp 238 = (225, 2, 4, []) := by decide +kernel
theorem sh_239 : shp 239 = (225, 2, 45, []) := by decide +kernel
theorem sh_240 : shp 240 = (225, 4, 45, []) := by decide +kernel
theorem sh_241 : shp 241 = (225, 2, 684, []) := by decide +kernel
theorem sh_242 : shp 242 = (225, 3, 28, []) := by decide +kernel
theorem sh_243 : shp 243 = (225, 4, 2, []) := by decide +kernel
theorem ci_m8 : Int32.ofInt (-8) = (-8 : Int32) := by decide +kernel
theorem ci_m5 : Int32.ofInt (-5) = (-5 : Int32) := by decide +kernel
theorem ci_m1 : Int32.ofInt (-1) = (-1 : Int32) := by decide +kernel
theorem ci_0 : Int32.ofInt (0) = (0 : Int32) := by decide +kernel
theorem ci_1 : Int32.ofInt (1) = (1 : Int32) := by decide +kernel
theorem ci_2 : Int32.ofInt (2) = (2 : Int32) := by decide +kernel
theorem ci_3 : Int32.ofInt (3) = (3 : Int32) := by decide +kernel
theorem ci_4 : Int32.ofInt (4) = (4 : Int32) := by decide +kernel
theorem ci_5 : Int32.ofInt (5) = (5 : Int32) := by decide +kernel
theorem cb_m2 : (Int8.ofInt (-2)).toInt32 = (-2 : Int32) := by decide +kernel
theorem cb_6 : (Int8.ofInt (6)).toInt32 = (6 : Int32) := by decide +kernel
theorem cb_7 : (Int8.ofInt (7)).toInt32 = (7 : Int32) := by decide +kernel
theorem cb_8 : (Int8.ofInt (8)).toInt32 = (8 : Int32) := by decide +kernel
theorem cb_9 : (Int8.ofInt (9)).toInt32 = (9 : Int32) := by decide +kernel
theorem cb_10 : (Int8.ofInt (10)).toInt32 = (10 : Int32) := by decide +kernel
theorem cb_11 : (Int8.ofInt (11)).toInt32 = (11 : Int32) := by decide +kernel
theorem cb_12 : (Int8.ofInt (12)).toInt32 = (12 : Int32) := by decide +kernel
theorem cb_14 : (Int8.ofInt (14)).toInt32 = (14 : Int32) := by decide +kernel
theorem cb_16 : (Int8.ofInt (16)).toInt32 = (16 : Int32) := by decide +kernel
theorem cb_17 : (Int8.ofInt (17)).toInt32 = (17 : Int32) := by decide +kernel
theorem cb_18 : (Int8.ofInt (18)).toInt32 = (18 : Int32) := by decide +kernel
theorem cb_19 : (Int8.ofInt (19)).toInt32 = (19 : Int32) := by decide +kernel
theorem cb_20 : (Int8.ofInt (20)).toInt32 = (20 : Int32) := by decide +kernel
theorem cb_21 : (Int8.ofInt (21)).toInt32 = (21 : Int32) := by decide +kernel
theorem cb_22 : (Int8.ofInt (22)).toInt32 = (22 : Int32) := by decide +kernel
theorem cb_23 : (Int8.ofInt (23)).toInt32 = (23 : Int32) := by decide +kernel
theorem cb_24 : (Int8.ofInt (24)).toInt32 = (24 : Int32) := by decide +kernel
theorem cb_25 : (Int8.ofInt (25)).toInt32 = (25 : Int32) := by decide +kernel
theorem cb_27 : (Int8.ofInt (27)).toInt32 = (27 : Int32) := by decide +kernel
theorem cb_28 : (Int8.ofInt (28)).toInt32 = (28 : Int32) := by decide +kernel
theorem cb_29 : (Int8.ofInt (29)).toInt32 = (29 : Int32) := by decide +kernel
theorem cb_30 : (Int8.ofInt (30)).toInt32 = (30 : Int32) := by decide +kernel
theorem cb_31 : (Int8.ofInt (31)).toInt32 = (31 : Int32) := by decide +kernel
theorem cb_32 : (Int8.ofInt (32)).toInt32 = (32 : Int32) := by decide +kernel
theorem cb_35 : (Int8.ofInt (35)).toInt32 = (35 : Int32) := by decide +kernel
theorem cb_36 : (Int8.ofInt (36)).toInt32 = (36 : Int32) := by decide +kernel
theorem cb_40 : (Int8.ofInt (40)).toInt32 = (40 : Int32) := by decide +kernel
theorem cb_41 : (Int8.ofInt (41)).toInt32 = (41 : Int32) := by decide +kernel
theorem cb_44 : (Int8.ofInt (44)).toInt32 = (44 : Int32) := by decide +kernel
theorem cb_45 : (Int8.ofInt (45)).toInt32 = (45 : Int32) := by decide +kernel
theorem cb_48 : (Int8.ofInt (48)).toInt32 = (48 : Int32) := by decide +kernel
theorem cb_51 : (Int8.ofInt (51)).toInt32 = (51 : Int32) := by decide +kernel
theorem cb_56 : (Int8.ofInt (56)).toInt32 = (56 : Int32) := by decide +kernel
theorem cb_57 : (Int8.ofInt (57)).toInt32 = (57 : Int32) := by decide +kernel
theorem cb_59 : (Int8.ofInt (59)).toInt32 = (59 : Int32) := by decide +kernel
theorem cb_60 : (Int8.ofInt (60)).toInt32 = (60 : Int32) := by decide +kernel
theorem cb_61 : (Int8.ofInt (61)).toInt32 = (61 : Int32) := by decide +kernel
theorem cb_62 : (Int8.ofInt (62)).toInt32 = (62 : Int32) := by decide +kernel
theorem cb_63 : (Int8.ofInt (63)).toInt32 = (63 : Int32) := by decide +kernel
theorem cb_69 : (Int8.ofInt (69)).toInt32 = (69 : Int32) := by decide +kernel
theorem cb_70 : (Int8.ofInt (70)).toInt32 = (70 : Int32) := by decide +kernel
theorem cb_71 : (Int8.ofInt (71)).toInt32 = (71 : Int32) := by decide +kernel
theorem cb_72 : (Int8.ofInt (72)).toInt32 = (72 : Int32) := by decide +kernel
theorem cb_73 : (Int8.ofInt (73)).toInt32 = (73 : Int32) := by decide +kernel
theorem cb_81 : (Int8.ofInt (81)).toInt32 = (81 : Int32) := by decide +kernel
theorem cb_89 : (Int8.ofInt (89)).toInt32 = (89 : Int32) := by decide +kernel
theorem cb_92 : (Int8.ofInt (92)).toInt32 = (92 : Int32) := by decide +kernel
theorem cb_96 : (Int8.ofInt (96)).toInt32 = (96 : Int32) := by decide +kernel
theorem cb_97 : (Int8.ofInt (97)).toInt32 = (97 : Int32) := by decide +kernel
theorem cb_105 : (Int8.ofInt (105)).toInt32 = (105 : Int32) := by decide +kernel
theorem cb_113 : (Int8.ofInt (113)).toInt32 = (113 : Int32) := by decide +kernel
theorem cb_121 : (Int8.ofInt (121)).toInt32 = (121 : Int32) := by decide +kernel
theorem cb_122 : (Int8.ofInt (122)).toInt32 = (122 : Int32) := by decide +kernel
theorem cs_m1000 : (Int16.ofInt (-1000)).toInt32 = (-1000 : Int32) := by decide +kernel
theorem cs_129 : (Int16.ofInt (129)).toInt32 = (129 : Int32) := by decide +kernel
theorem cs_137 : (Int16.ofInt (137)).toInt32 = (137 : Int32) := by decide +kernel
theorem cs_149 : (Int16.ofInt (149)).toInt32 = (149 : Int32) := by decide +kernel
theorem cs_161 : (Int16.ofInt (161)).toInt32 = (161 : Int32) := by decide +kernel
theorem cs_162 : (Int16.ofInt (162)).toInt32 = (162 : Int32) := by decide +kernel
theorem cs_200 : (Int16.ofInt (200)).toInt32 = (200 : Int32) := by decide +kernel
theorem cs_255 : (Int16.ofInt (255)).toInt32 = (255 : Int32) := by decide +kernel
theorem cs_256 : (Int16.ofInt (256)).toInt32 = (256 : Int32) := by decide +kernel
theorem cs_300 : (Int16.ofInt (300)).toInt32 = (300 : Int32) := by decide +kernel
theorem cs_342 : (Int16.ofInt (342)).toInt32 = (342 : Int32) := by decide +kernel
theorem cs_400 : (Int16.ofInt (400)).toInt32 = (400 : Int32) := by decide +kernel
theorem cs_644 : (Int16.ofInt (644)).toInt32 = (644 : Int32) := by decide +kernel
theorem cs_900 : (Int16.ofInt (900)).toInt32 = (900 : Int32) := by decide +kernel
theorem cs_940 : (Int16.ofInt (940)).toInt32 = (940 : Int32) := by decide +kernel
theorem cs_999 : (Int16.ofInt (999)).toInt32 = (999 : Int32) := by decide +kernel
theorem cs_1000 : (Int16.ofInt (1000)).toInt32 = (1000 : Int32) := by decide +kernel
theorem cs_12345 : (Int16.ofInt (12345)).toInt32 = (12345 : Int32) := by decide +kernel
theorem tsw_enum_0_7 {x k : Int32} (hk : 0 ≤ k.toInt ∧ k.toInt ≤ 7) (hx : x = k) : x = (0 : Int32) ∨ x = (1 : Int32) ∨ x = (2 : Int32) ∨ x = (3 : Int32) ∨ x = (4 : Int32) ∨ x = (5 : Int32) ∨ x = (6 : Int32) ∨ x = (7 : Int32) := by
  subst hx
  have key : ∀ n : Nat, n < 8 → x.toInt = ((0 + n : Nat) : Int) → x = Int32.ofNat (0 + n) := fun n hn h => by
    apply Int32.toInt_inj.mp
    rw [h]
    exact (nI_toInt (by omega)).symm
  have h2 : ∃ n : Nat, n < 8 ∧ x.toInt = ((0 + n : Nat) : Int) := ⟨(x.toInt - 0).toNat, by omega, by omega⟩
  obtain ⟨n, hn, h⟩ := h2
  have h3 := key n hn h
  have h4 : n = 0 ∨ n = 1 ∨ n = 2 ∨ n = 3 ∨ n = 4 ∨ n = 5 ∨ n = 6 ∨ n = 7 := by omega
  rcases h4 with rfl | rfl | rfl | rfl | rfl | rfl | rfl | rfl
  · exact Or.inl h3
  · exact Or.inr (Or.inl h3)
  · exact Or.inr (Or.inr (Or.inl h3))
  · exact Or.inr (Or.inr (Or.inr (Or.inl h3)))
  · exact Or.inr (Or.inr (Or.inr (Or.inr (Or.inl h3))))
  · exact Or.inr (Or.inr (Or.inr (Or.inr (Or.inr (Or.inl h3)))))
  · exact Or.inr (Or.inr (Or.inr (Or.inr (Or.inr (Or.inr (Or.inl h3))))))
  · exact Or.inr (Or.inr (Or.inr (Or.inr (Or.inr (Or.inr (Or.inr (h3)))))))
theorem tsw_enum_4_27 {x k : Int32} (hk : 4 ≤ k.toInt ∧ k.toInt ≤ 27) (hx : x = k) : x = (4 : Int32) ∨ x = (5 : Int32) ∨ x = (6 : Int32) ∨ x = (7 : Int32) ∨ x = (8 : Int32) ∨ x = (9 : Int32) ∨ x = (10 : Int32) ∨ x = (11 : Int32) ∨ x = (12 : Int32) ∨ x = (13 : Int32) ∨ x = (14 : Int32) ∨ x = (15 : Int32) ∨ x = (16 : Int32) ∨ x = (17 : Int32) ∨ x = (18 : Int32) ∨ x = (19 : Int32) ∨ x = (20 : Int32) ∨ x = (21 : Int32) ∨ x = (22 : Int32) ∨ x = (23 : Int32) ∨ x = (24 : Int32) ∨ x = (25 : Int32) ∨ x = (26 : Int32) ∨ x = (27 : Int32) := by
  subst hx
  have key : ∀ n : Nat, n < 24 → x.toInt = ((4 + n : Nat) : Int) → x = Int32.ofNat (4 + n) := fun n hn h => by
    apply Int32.toInt_inj.mp
    rw [h]
    exact (nI_toInt (by omega)).symm
  have h2 : ∃ n : Nat, n < 24 ∧ x.toInt = ((4 + n : Nat) : Int) := ⟨(x.toInt - 4).toNat, by omega, by omega⟩
  obtain ⟨n, hn, h⟩ := h2
  have h3 := key n hn h
  have h4 : n = 0 ∨ n = 1 ∨ n = 2 ∨ n = 3 ∨ n = 4 ∨ n = 5 ∨ n = 6 ∨ n = 7 ∨ n = 8 ∨ n = 9 ∨ n = 10 ∨ n = 11 ∨ n = 12 ∨ n = 13 ∨ n = 14 ∨ n = 15 ∨ n = 16 ∨ n = 17 ∨ n = 18 ∨ n = 19 ∨ n = 20 ∨ n = 21 ∨ n = 22 ∨ n = 23 := by omega
  rcases h4 with rfl | rfl | rfl | rfl | rfl | rfl | rfl | rfl | rfl | rfl | rfl | rfl | rfl | rfl | rfl | rfl | rfl | rfl | rfl | rfl | rfl | rfl | rfl | rfl
  · exact Or.inl h3
  · exact Or.inr (Or.inl h3)
  · exact Or.inr (Or.inr (Or.inl h3))
  · exact Or.inr (Or.inr (Or.inr (Or.inl h3)))
  · exact Or.inr (Or.inr (Or.inr (Or.inr (Or.inl h3))))
  · exact Or.inr (Or.inr (Or.inr (Or.inr (Or.inr (Or.inl h3)))))
  · exact Or.inr (Or.inr (Or.inr (Or.inr (Or.inr (Or.inr (Or.inl h3))))))
  · exact Or.inr (Or.inr (Or.inr (Or.inr (Or.inr (Or.inr (Or.inr (Or.inl h3)))))))
  · exact Or.inr (Or.inr (Or.inr (Or.inr (Or.inr (Or.inr (Or.inr (Or.inr (Or.inl h3))))))))
  · exact Or.inr (Or.inr (Or.inr (Or.inr (Or.inr (Or.inr (Or.inr (Or.inr (Or.inr (Or.inl h3)))))))))
  · exact Or.inr (Or.inr (Or.inr (Or.inr (Or.inr (Or.inr (Or.inr (Or.inr (Or.inr (Or.inr (Or.inl h3))))))))))
  · exact Or.inr (Or.inr (Or.inr (Or.inr (Or.inr (Or.inr (Or.inr (Or.inr (Or.inr (Or.inr (Or.inr (Or.inl h3)))))))))))
  · exact Or.inr (Or.inr (Or.inr (Or.inr (Or.inr (Or.inr (Or.inr (Or.inr (Or.inr (Or.inr (Or.inr (Or.inr (Or.inl h3))))))))))))
  · exact Or.inr (Or.inr (Or.inr (Or.inr (Or.inr (Or.inr (Or.inr (Or.inr (Or.inr (Or.inr (Or.inr (Or.inr (Or.inr (Or.inl h3)))))))))))))
  · exact Or.inr (Or.inr (Or.inr (Or.inr (Or.inr (Or.inr (Or.inr (Or.inr (Or.inr (Or.inr (Or.inr (Or.inr (Or.inr (Or.inr (Or.inl h3))))))))))))))
  · exact Or.inr (Or.inr (Or.inr (Or.inr (Or.inr (Or.inr (Or.inr (Or.inr (Or.inr (Or.inr (Or.inr (Or.inr (Or.inr (Or.inr (Or.inr (Or.inl h3)))))))))))))))
  · exact Or.inr (Or.inr (Or.inr (Or.inr (Or.inr (Or.inr (Or.inr (Or.inr (Or.inr (Or.inr (Or.inr (Or.inr (Or.inr (Or.inr (Or.inr (Or.inr (Or.inl h3))))))))))))))))
  · exact Or.inr (Or.inr (Or.inr (Or.inr (Or.inr (Or.inr (Or.inr (Or.inr (Or.inr (Or.inr (Or.inr (Or.inr (Or.inr (Or.inr (Or.inr (Or.inr (Or.inr (Or.inl h3)))))))))))))))))
  · exact Or.inr (Or.inr (Or.inr (Or.inr (Or.inr (Or.inr (Or.inr (Or.inr (Or.inr (Or.inr (Or.inr (Or.inr (Or.inr (Or.inr (Or.inr (Or.inr (Or.inr (Or.inr (Or.inl h3))))))))))))))))))
  · exact Or.inr (Or.inr (Or.inr (Or.inr (Or.inr (Or.inr (Or.inr (Or.inr (Or.inr (Or.inr (Or.inr (Or.inr (Or.inr (Or.inr (Or.inr (Or.inr (Or.inr (Or.inr (Or.inr (Or.inl h3)))))))))))))))))))
  · exact Or.inr (Or.inr (Or.inr (Or.inr (Or.inr (Or.inr (Or.inr (Or.inr (Or.inr (Or.inr (Or.inr (Or.inr (Or.inr (Or.inr (Or.inr (Or.inr (Or.inr (Or.inr (Or.inr (Or.inr (Or.inl h3))))))))))))))))))))
  · exact Or.inr (Or.inr (Or.inr (Or.inr (Or.inr (Or.inr (Or.inr (Or.inr (Or.inr (Or.inr (Or.inr (Or.inr (Or.inr (Or.inr (Or.inr (Or.inr (Or.inr (Or.inr (Or.inr (Or.inr (Or.inr (Or.inl h3)))))))))))))))))))))
  · exact Or.inr (Or.inr (Or.inr (Or.inr (Or.inr (Or.inr (Or.inr (Or.inr (Or.inr (Or.inr (Or.inr (Or.inr (Or.inr (Or.inr (Or.inr (Or.inr (Or.inr (Or.inr (Or.inr (Or.inr (Or.inr (Or.inr (Or.inl h3))))))))))))))))))))))
  · exact Or.inr (Or.inr (Or.inr (Or.inr (Or.inr (Or.inr (Or.inr (Or.inr (Or.inr (Or.inr (Or.inr (Or.inr (Or.inr (Or.inr (Or.inr (Or.inr (Or.inr (Or.inr (Or.inr (Or.inr (Or.inr (Or.inr (Or.inr (h3)))))))))))))))))))))))
theorem tsw_enum_5_16 {x k : Int32} (hk : 5 ≤ k.toInt ∧ k.toInt ≤ 16) (hx : x = k) : x = (5 : Int32) ∨ x = (6 : Int32) ∨ x = (7 : Int32) ∨ x = (8 : Int32) ∨ x = (9 : Int32) ∨ x = (10 : Int32) ∨ x = (11 : Int32) ∨ x = (12 : Int32) ∨ x = (13 : Int32) ∨ x = (14 : Int32) ∨ x = (15 : Int32) ∨ x = (16 : Int32) := by
  subst hx
  have key : ∀ n : Nat, n < 12 → x.toInt = ((5 + n : Nat) : Int) → x = Int32.ofNat (5 + n) := fun n hn h => by
    apply Int32.toInt_inj.mp
    rw [h]
    exact (nI_toInt (by omega)).symm
  have h2 : ∃ n : Nat, n < 12 ∧ x.toInt = ((5 + n : Nat) : Int) := ⟨(x.toInt - 5).toNat, by omega, by omega⟩
  obtain ⟨n, hn, h⟩ := h2
  have h3 := key n hn h
  have h4 : n = 0 ∨ n = 1 ∨ n = 2 ∨ n = 3 ∨ n = 4 ∨ n = 5 ∨ n = 6 ∨ n = 7 ∨ n = 8 ∨ n = 9 ∨ n = 10 ∨ n = 11 := by omega
  rcases h4 with rfl | rfl | rfl | rfl | rfl | rfl | rfl | rfl | rfl | rfl | rfl | rfl
  · exact Or.inl h3
  · exact Or.inr (Or.inl h3)
  · exact Or.inr (Or.inr (Or.inl h3))
  · exact Or.inr (Or.inr (Or.inr (Or.inl h3)))
  · exact Or.inr (Or.inr (Or.inr (Or.inr (Or.inl h3))))
  · exact Or.inr (Or.inr (Or.inr (Or.inr (Or.inr (Or.inl h3)))))
  · exact Or.inr (Or.inr (Or.inr (Or.inr (Or.inr (Or.inr (Or.inl h3))))))
  · exact Or.inr (Or.inr (Or.inr (Or.inr (Or.inr (Or.inr (Or.inr (Or.inl h3)))))))
  · exact Or.inr (Or.inr (Or.inr (Or.inr (Or.inr (Or.inr (Or.inr (Or.inr (Or.inl h3))))))))
  · exact Or.inr (Or.inr (Or.inr (Or.inr (Or.inr (Or.inr (Or.inr (Or.inr (Or.inr (Or.inl h3)))))))))
  · exact Or.inr (Or.inr (Or.inr (Or.inr (Or.inr (Or.inr (Or.inr (Or.inr (Or.inr (Or.inr (Or.inl h3))))))))))
  · exact Or.inr (Or.inr (Or.inr (Or.inr (Or.inr (Or.inr (Or.inr (Or.inr (Or.inr (Or.inr (Or.inr (h3)))))))))))
theorem tsw_out4 {x : Int32} (hz0 : ¬ x = (0 : Int32)) (hz1 : ¬ x = (1 : Int32)) (hz2 : ¬ x = (2 : Int32)) (hz3 : ¬ x = (3 : Int32)) : x.toInt < 0 ∨ 3 < x.toInt := by
  by_cases h : x.toInt < 0
  · exact Or.inl h
  · right
    apply Int.not_le.mp
    intro hle9
    have key : x = Int32.ofNat x.toInt.toNat := by
      apply Int32.toInt_inj.mp
      rw [show (Int32.ofNat x.toInt.toNat).toInt = (x.toInt.toNat : Int) from nI_toInt (by omega)]
      omega
    have h10 : x.toInt.toNat = 0 ∨ x.toInt.toNat = 1 ∨ x.toInt.toNat = 2 ∨ x.toInt.toNat = 3 := by omega
    rcases h10 with h11 | h11 | h11 | h11 <;> rw [h11] at key
    · exact hz0 key
    · exact hz1 key
    · exact hz2 key
    · exact hz3 key
theorem tsw_out5 {x : Int32} (hz0 : ¬ x = (0 : Int32)) (hz1 : ¬ x = (1 : Int32)) (hz2 : ¬ x = (2 : Int32)) (hz3 : ¬ x = (3 : Int32)) (hz4 : ¬ x = (4 : Int32)) : x.toInt < 0 ∨ 4 < x.toInt := by
  by_cases h : x.toInt < 0
  · exact Or.inl h
  · right
    apply Int.not_le.mp
    intro hle9
    have key : x = Int32.ofNat x.toInt.toNat := by
      apply Int32.toInt_inj.mp
      rw [show (Int32.ofNat x.toInt.toNat).toInt = (x.toInt.toNat : Int) from nI_toInt (by omega)]
      omega
    have h10 : x.toInt.toNat = 0 ∨ x.toInt.toNat = 1 ∨ x.toInt.toNat = 2 ∨ x.toInt.toNat = 3 ∨ x.toInt.toNat = 4 := by omega
    rcases h10 with h11 | h11 | h11 | h11 | h11 <;> rw [h11] at key
    · exact hz0 key
    · exact hz1 key
    · exact hz2 key
    · exact hz3 key
    · exact hz4 key
theorem tsw_out6 {x : Int32} (hz0 : ¬ x = (0 : Int32)) (hz1 : ¬ x = (1 : Int32)) (hz2 : ¬ x = (2 : Int32)) (hz3 : ¬ x = (3 : Int32)) (hz4 : ¬ x = (4 : Int32)) (hz5 : ¬ x = (5 : Int32)) : x.toInt < 0 ∨ 5 < x.toInt := by
  by_cases h : x.toInt < 0
  · exact Or.inl h
  · right
    apply Int.not_le.mp
    intro hle9
    have key : x = Int32.ofNat x.toInt.toNat := by
      apply Int32.toInt_inj.mp
      rw [show (Int32.ofNat x.toInt.toNat).toInt = (x.toInt.toNat : Int) from nI_toInt (by omega)]
      omega
    have h10 : x.toInt.toNat = 0 ∨ x.toInt.toNat = 1 ∨ x.toInt.toNat = 2 ∨ x.toInt.toNat = 3 ∨ x.toInt.toNat = 4 ∨ x.toInt.toNat = 5 := by omega
    rcases h10 with h11 | h11 | h11 | h11 | h11 | h11 <;> rw [h11] at key
    · exact hz0 key
    · exact hz1 key
    · exact hz2 key
    · exact hz3 key
    · exact hz4 key
    · exact hz5 key
theorem tsw_out8 {x : Int32} (hz0 : ¬ x = (0 : Int32)) (hz1 : ¬ x = (1 : Int32)) (hz2 : ¬ x = (2 : Int32)) (hz3 : ¬ x = (3 : Int32)) (hz4 : ¬ x = (4 : Int32)) (hz5 : ¬ x = (5 : Int32)) (hz6 : ¬ x = (6 : Int32)) (hz7 : ¬ x = (7 : Int32)) : x.toInt < 0 ∨ 7 < x.toInt := by
  by_cases h : x.toInt < 0
  · exact Or.inl h
  · right
    apply Int.not_le.mp
    intro hle9
    have key : x = Int32.ofNat x.toInt.toNat := by
      apply Int32.toInt_inj.mp
      rw [show (Int32.ofNat x.toInt.toNat).toInt = (x.toInt.toNat : Int) from nI_toInt (by omega)]
      omega
    have h10 : x.toInt.toNat = 0 ∨ x.toInt.toNat = 1 ∨ x.toInt.toNat = 2 ∨ x.toInt.toNat = 3 ∨ x.toInt.toNat = 4 ∨ x.toInt.toNat = 5 ∨ x.toInt.toNat = 6 ∨ x.toInt.toNat = 7 := by omega
    rcases h10 with h11 | h11 | h11 | h11 | h11 | h11 | h11 | h11 <;> rw [h11] at key
    · exact hz0 key
    · exact hz1 key
    · exact hz2 key
    · exact hz3 key
    · exact hz4 key
    · exact hz5 key
    · exact hz6 key
    · exact hz7 key
theorem tsw_out10 {x : Int32} (hz0 : ¬ x = (0 : Int32)) (hz1 : ¬ x = (1 : Int32)) (hz2 : ¬ x = (2 : Int32)) (hz3 : ¬ x = (3 : Int32)) (hz4 : ¬ x = (4 : Int32)) (hz5 : ¬ x = (5 : Int32)) (hz6 : ¬ x = (6 : Int32)) (hz7 : ¬ x = (7 : Int32)) (hz8 : ¬ x = (8 : Int32)) (hz9 : ¬ x = (9 : Int32)) : x.toInt < 0 ∨ 9 < x.toInt := by
  by_cases h : x.toInt < 0
  · exact Or.inl h
  · right
    apply Int.not_le.mp
    intro hle9
    have key : x = Int32.ofNat x.toInt.toNat := by
      apply Int32.toInt_inj.mp
      rw [show (Int32.ofNat x.toInt.toNat).toInt = (x.toInt.toNat : Int) from nI_toInt (by omega)]
      omega
    have h10 : x.toInt.toNat = 0 ∨ x.toInt.toNat = 1 ∨ x.toInt.toNat = 2 ∨ x.toInt.toNat = 3 ∨ x.toInt.toNat = 4 ∨ x.toInt.toNat = 5 ∨ x.toInt.toNat = 6 ∨ x.toInt.toNat = 7 ∨ x.toInt.toNat = 8 ∨ x.toInt.toNat = 9 := by omega
    rcases h10 with h11 | h11 | h11 | h11 | h11 | h11 | h11 | h11 | h11 | h11 <;> rw [h11] at key
    · exact hz0 key
    · exact hz1 key
    · exact hz2 key
    · exact hz3 key
    · exact hz4 key
    · exact hz5 key
    · exact hz6 key
    · exact hz7 key
    · exact hz8 key
    · exact hz9 key
theorem tsw_out11 {x : Int32} (hz0 : ¬ x = (0 : Int32)) (hz1 : ¬ x = (1 : Int32)) (hz2 : ¬ x = (2 : Int32)) (hz3 : ¬ x = (3 : Int32)) (hz4 : ¬ x = (4 : Int32)) (hz5 : ¬ x = (5 : Int32)) (hz6 : ¬ x = (6 : Int32)) (hz7 : ¬ x = (7 : Int32)) (hz8 : ¬ x = (8 : Int32)) (hz9 : ¬ x = (9 : Int32)) (hz10 : ¬ x = (10 : Int32)) : x.toInt < 0 ∨ 10 < x.toInt := by
  by_cases h : x.toInt < 0
  · exact Or.inl h
  · right
    apply Int.not_le.mp
    intro hle9
    have key : x = Int32.ofNat x.toInt.toNat := by
      apply Int32.toInt_inj.mp
      rw [show (Int32.ofNat x.toInt.toNat).toInt = (x.toInt.toNat : Int) from nI_toInt (by omega)]
      omega
    have h10 : x.toInt.toNat = 0 ∨ x.toInt.toNat = 1 ∨ x.toInt.toNat = 2 ∨ x.toInt.toNat = 3 ∨ x.toInt.toNat = 4 ∨ x.toInt.toNat = 5 ∨ x.toInt.toNat = 6 ∨ x.toInt.toNat = 7 ∨ x.toInt.toNat = 8 ∨ x.toInt.toNat = 9 ∨ x.toInt.toNat = 10 := by omega
    rcases h10 with h11 | h11 | h11 | h11 | h11 | h11 | h11 | h11 | h11 | h11 | h11 <;> rw [h11] at key
    · exact hz0 key
    · exact hz1 key
    · exact hz2 key
    · exact hz3 key
    · exact hz4 key
    · exact hz5 key
    · exact hz6 key
    · exact hz7 key
    · exact hz8 key
    · exact hz9 key
    · exact hz10 key
theorem tsw_cases {lo hi : Int} {x : Int32} {P : Prop} (h1 : (x.toInt < lo ∨ hi < x.toInt) → P) (h2 : ∀ k : Int32, lo ≤ k.toInt ∧ k.toInt ≤ hi → x = k → P) : P := by
  by_cases h : x.toInt < lo ∨ hi < x.toInt
  · exact h1 h
  · exact h2 x (by omega) rfl
theorem lsw_out2 {x : Int32} (h0 : ¬ x = (0 : Int32)) (h1 : ¬ x = (1 : Int32)) {o1 o2 d : Int} : Op.lookupswitch.offset [((0 : Int), o1), (1, o2)] d x.toInt = d := by
  have e0 : ¬ (x.toInt = 0) := fun e => h0 (Int32.toInt_inj.mp e)
  have e1 : ¬ (x.toInt = 1) := fun e => h1 (Int32.toInt_inj.mp e)
  simp [Op.lookupswitch.offset, Ne.symm e0, Ne.symm e1, e0, e1]
