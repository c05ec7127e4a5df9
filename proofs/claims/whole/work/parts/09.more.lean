set_option maxRecDepth 20000 in
theorem wm_abs : Cond.static Lib.Math.abs.name ∈ Tg ∧ Cond.initialized "java/lang/Math" ∈ Tg ∧ Cond.code Lib.Math.abs.name Lib.Math.abs.code 1 (some .int) ∈ Tg := ⟨tg 984 (by decide +kernel) (by decide +kernel), tg 139 (by decide +kernel) (by decide +kernel), tg 985 (by decide +kernel) (by decide +kernel)⟩
set_option maxRecDepth 20000 in
theorem wm_max : Cond.static Lib.Math.max.name ∈ Tg ∧ Cond.initialized "java/lang/Math" ∈ Tg ∧ Cond.code Lib.Math.max.name Lib.Math.max.code 2 (some .int) ∈ Tg := ⟨tg 1092 (by decide +kernel) (by decide +kernel), tg 139 (by decide +kernel) (by decide +kernel), tg 1093 (by decide +kernel) (by decide +kernel)⟩
set_option maxRecDepth 20000 in
theorem wm_min : Cond.static Lib.Math.min.name ∈ Tg ∧ Cond.initialized "java/lang/Math" ∈ Tg ∧ Cond.code Lib.Math.min.name Lib.Math.min.code 2 (some .int) ∈ Tg := ⟨tg 957 (by decide +kernel) (by decide +kernel), tg 139 (by decide +kernel) (by decide +kernel), tg 958 (by decide +kernel) (by decide +kernel)⟩
theorem r_mabs {ρ : Type} {X : Cx} {G : Gx} {b nL d : Nat} {Qf : ρ → State → Prop} {M : Nat → Obj} {pc idx : Nat} {lv : List (Option Value)} {st : List Value} {cc : ByteArray} {own : String} {ret : Option FieldType} (ok : OK X G b cc nL d own ret) {τ : Type} {x : Int32} {f : Int32 → Option τ} {K : τ → Option ρ} (hl : Cond.methodLink own idx yJ9_abs_0f7a4 ∈ Tg) (hdp : 1 ≤ d) (hst : (st.map fun v => v.category).sum ≤ 8) (hd : decode cc pc = .ok (.invokestatic idx, 3)) (kk : ∀ r, VO X G b nL Qf M (pc + 3) lv (.int r :: st) ((f r).bind K)) : VO X G b nL Qf M pc lv (.int x :: st) (((fJM_abs x).bind f).bind K) := by
  have e : fJM_abs x = some (if 0 ≤ x then x else 0 - x) := by
    unfold fJM_abs
    by_cases h : (0 : Int32) ≤ x
    · rw [if_pos h, if_pos h]
    · rw [if_neg h, if_neg h, Int32.zero_sub]
  rw [e]
  intro r hr H locs ls hW hS hlv
  have hts := ok.2.2.2.2.1
  have hR := ok.2.2.2.2.2.2.2.1
  exact va_mabs ok.1 ok.2.1 (ok.2.2.1.trans hlv.1.symm) ok.2.2.2.1 (hts _ hl) (hts _ wm_abs.1) (hts _ wm_abs.2.1) (hts _ wm_abs.2.2) (by rw [hR]; exact hdp) (by rw [hR]; show _ + 13 ≤ 60 * d; omega) (Nat.zero_le _) (Nat.zero_le _) hd (kk _ r hr H locs ls hW hS hlv)
theorem r_mmax {ρ : Type} {X : Cx} {G : Gx} {b nL d : Nat} {Qf : ρ → State → Prop} {M : Nat → Obj} {pc idx : Nat} {lv : List (Option Value)} {st : List Value} {cc : ByteArray} {own : String} {ret : Option FieldType} (ok : OK X G b cc nL d own ret) {τ : Type} {x y : Int32} {f : Int32 → Option τ} {K : τ → Option ρ} (hl : Cond.methodLink own idx yJ9_max_7cf53 ∈ Tg) (hdp : 1 ≤ d) (hst : (st.map fun v => v.category).sum ≤ 8) (hd : decode cc pc = .ok (.invokestatic idx, 3)) (kk : ∀ r, VO X G b nL Qf M (pc + 3) lv (.int r :: st) ((f r).bind K)) : VO X G b nL Qf M pc lv (.int y :: .int x :: st) (((fJM_max x y).bind f).bind K) := by
  have e : fJM_max x y = some (if x < y then y else x) := by
    unfold fJM_max
    by_cases h : x < y
    · rw [if_pos h, if_pos h]
    · rw [if_neg h, if_neg h]
  rw [e]
  intro r hr H locs ls hW hS hlv
  have hts := ok.2.2.2.2.1
  have hR := ok.2.2.2.2.2.2.2.1
  exact va_mmax ok.1 ok.2.1 (ok.2.2.1.trans hlv.1.symm) ok.2.2.2.1 (hts _ hl) (hts _ wm_max.1) (hts _ wm_max.2.1) (hts _ wm_max.2.2) (by rw [hR]; exact hdp) (by rw [hR]; show _ + 13 ≤ 60 * d; omega) (Nat.zero_le _) (Nat.zero_le _) hd (kk _ r hr H locs ls hW hS hlv)
theorem r_mmin {ρ : Type} {X : Cx} {G : Gx} {b nL d : Nat} {Qf : ρ → State → Prop} {M : Nat → Obj} {pc idx : Nat} {lv : List (Option Value)} {st : List Value} {cc : ByteArray} {own : String} {ret : Option FieldType} (ok : OK X G b cc nL d own ret) {τ : Type} {x y : Int32} {f : Int32 → Option τ} {K : τ → Option ρ} (hl : Cond.methodLink own idx yJ9_min_7cf53 ∈ Tg) (hdp : 1 ≤ d) (hst : (st.map fun v => v.category).sum ≤ 8) (hd : decode cc pc = .ok (.invokestatic idx, 3)) (kk : ∀ r, VO X G b nL Qf M (pc + 3) lv (.int r :: st) ((f r).bind K)) : VO X G b nL Qf M pc lv (.int y :: .int x :: st) (((fJM_min x y).bind f).bind K) := by
  have e : fJM_min x y = some (if y < x then y else x) := by
    unfold fJM_min
    by_cases h : y < x
    · rw [if_pos h, if_pos h]
    · rw [if_neg h, if_neg h]
  rw [e]
  intro r hr H locs ls hW hS hlv
  have hts := ok.2.2.2.2.1
  have hR := ok.2.2.2.2.2.2.2.1
  exact va_mmin ok.1 ok.2.1 (ok.2.2.1.trans hlv.1.symm) ok.2.2.2.1 (hts _ hl) (hts _ wm_min.1) (hts _ wm_min.2.1) (hts _ wm_min.2.2) (by rw [hR]; exact hdp) (by rw [hR]; show _ + 13 ≤ 60 * d; omega) (Nat.zero_le _) (Nat.zero_le _) hd (kk _ r hr H locs ls hW hS hlv)
theorem r_inl {ρ : Type} {X : Cx} {G : Gx} {b nL : Nat} {Qf : ρ → State → Prop} {M : Nat → Obj} {pc : Nat} {lv : List (Option Value)} {st : List Value} {τ β γ : Type} {F : β → Option τ} {H : γ → Option τ} {e : β} {K : τ → Option ρ} (k : VO X G b nL Qf M pc lv st ((F e).bind K)) : VO X G b nL Qf M pc lv st ((Sum.elim F H (Sum.inl e)).bind K) := k

theorem r_lds {ρ : Type} {X : Cx} {G : Gx} {b nL d : Nat} {Qf : ρ → State → Prop} {M : Nat → Obj} {pc n i : Nat} {lv : List (Option Value)} {st : List Value} {o : Option ρ} {cc : ByteArray} {own tx : String} {ret : Option FieldType} (ok : OK X G b cc nL d own ret) (hd : decode cc pc = .ok (.ldc n, 2)) (hq : refS[i]? = some (own, n, tx)) (k : VO X G b nL Qf M (pc + 2) lv (.ref (aS G i) :: st) o) : VO X G b nL Qf M pc lv st o :=
  fun r hr H locs ls hW hS hl => va_ldcS ok.1 ok.2.1 ok.2.2.2.1 (ok.2.2.2.2.2.1.2.2.2.1 i _ hq) hd (k r hr H locs ls hW hS hl)
theorem r_slen {ρ : Type} {X : Cx} {G : Gx} {b nL d : Nat} {Qf : ρ → State → Prop} {M : Nat → Obj} {pc idx t : Nat} {lv : List (Option Value)} {st : List Value} {o : Option ρ} {cc : ByteArray} {own : String} {ret : Option FieldType} (ok : OK X G b cc nL d own ret) (ht : t < 7) (hl : Cond.methodLink own idx yJ0_length_8abf5 ∈ Tg) (hdp : 6 ≤ d) (hst : (st.map fun v => v.category).sum ≤ 8) (hd : decode cc pc = .ok (.invokevirtual idx, 3)) (k : VO X G b nL Qf M (pc + 3) lv (.int (strLen t) :: st) o) : VO X G b nL Qf M pc lv (.ref (aS G t) :: st) o :=
  fun r hr H locs ls hW hS hlv => g_kI (Q := Qf r) (P := Wd G.1 G.2 b M) (nc := 0) (ns := 0) (mc := 0) (ms := 0) (g_cV (dy := 1) (As := []) ok.g ht rfl hl wv_J0_length_8abf5 yk_J0_length_8abf5 rfl (by show 1 + 1 ≤ d; omega) (by show 8 + (1 + 11) + 60 * 1 ≤ 60 * d; omega) (Nat.zero_le _) (Nat.zero_le _) (sJ_length (d := 0) ht) rfl hst hd) (k r hr) H locs ls hW hS hlv
theorem r_sat {ρ : Type} {X : Cx} {G : Gx} {b nL d : Nat} {Qf : ρ → State → Prop} {M : Nat → Obj} {pc idx t : Nat} {lv : List (Option Value)} {st : List Value} {cc : ByteArray} {own : String} {ret : Option FieldType} (ok : OK X G b cc nL d own ret) {τ : Type} {e : Int32} {f : Int32 → Option τ} {K : τ → Option ρ} (ht : t < 7) (hl : Cond.methodLink own idx yJ0_charAt_5068e ∈ Tg) (hdp : 6 ≤ d) (hst : (st.map fun v => v.category).sum ≤ 8) (hd : decode cc pc = .ok (.invokevirtual idx, 3)) (kk : ∀ r, VO X G b nL Qf M (pc + 3) lv (.int r :: st) ((f r).bind K)) : VO X G b nL Qf M pc lv (.int e :: .ref (aS G t) :: st) (((strAt t e).bind f).bind K) := by
  intro r hr
  cases hi : ix (strs.getD t []).length e with
  | none => unfold strAt at hr; rw [hi] at hr; cases hr
  | some k0 =>
    have hin : vp_in e (lenS.getD t 0) ∧ e.toNatClampNeg = k0 := by
      unfold ix at hi
      rw [cS_len t ht] at hi
      by_cases hz : e < 0 ∨ lenS.getD t 0 ≤ e.toNatClampNeg
      · rw [if_pos hz] at hi; cases hi
      · rw [if_neg hz] at hi; exact ⟨hz, Option.some.inj hi⟩
    have hr2 : (f (cS t e.toNatClampNeg)).bind K = some r := by
      unfold strAt at hr
      rw [hi] at hr
      rw [hin.2]
      exact hr
    intro H locs ls hW hS hlv
    exact g_kI (Q := Qf r) (P := Wd G.1 G.2 b M) (nc := 0) (ns := 0) (mc := 0) (ms := 0) (g_cV (dy := 3) (As := [.int e]) ok.g ht rfl hl wv_J0_charAt_5068e yk_J0_charAt_5068e rfl (by show 3 + 1 ≤ d; omega) (by show 8 + (2 + 11) + 60 * 3 ≤ 60 * d; omega) (Nat.zero_le _) (Nat.zero_le _) (sJ_at (d := 0) ht hin.1) rfl hst hd) (kk _ r hr2) H locs ls hW hS hlv
