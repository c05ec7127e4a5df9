set_option maxRecDepth 20000
/-! the world behind the law's own makings -/
def q5I (i : Nat) : Int32 := if i = 0 then 10 else if i = 1 then 2 else if i = 2 then 3 else 0
def mfI (o i : Nat) : Int32 := if o = 0 then (if i = 13 then -1 else if i = 14 then -1 else 0) else if o = 5 then q5I i else if o = 29 then q5I i else if o = 53 then q5I i else if o = 77 then q5I i else 0
def mmI (c i : Nat) : Int32 := if c = 0 then (if i = 29 then -1 else 0) else if c = 2 then ss0 i else if c = 3 then hh0 i else 0
def m0I (o c i : Nat) : Int32 := if o = 225 then mmI c i else if c = 0 then mfI o i else 0
def m0J (o c i : Nat) : Int64 := if o = 1 then (if c = 1 then wd2.2 i else 0) else if o = 225 then (if c = 6 then rs29 i else 0) else 0
def M0 (o : Nat) : Obj := (m0I o, m0J o)
def cE0 : Nat → va_E := fun _ => .inr (0, [])
def cE1 : Nat → va_E := va_up cE0 0 (.inr (11, [.null, .null, .null, .null, .null, .null, .null, .null, .null, .null, .null, .null, .int 0, .int 0, .int 0]))
def cE2 (b : Nat) (G : Gx) : Nat → va_E := va_up (kl14 b G cE1) 225 (.inr (12, [.int 0, .null, .int 0, .int 0, .int 0, .int 0, .null, .null, .null, .null, .null, .int 0, .int 0, .int 0, .int 0, .int 0, .int 0, .long 0, .int 0, .int 0, .int 0, .null, .null, .int 0, .int 0, .int 0, .null, .null, .null, .int 0, .int 0, .int 0, .null, .int 0, .int 0, .int 0, .null, .int 0, .null, .int 0, .int 0, .int 0, .int 0, .int 0, .null, .null, .null, .null]))
def cE3 (b : Nat) (G : Gx) : Nat → va_E := va_up (moE b G (cE2 b G)) 244 (.inl (G.2 3, 1, .inr (.inl (fun _ => 0))))
theorem nstep {P : Nat → Prop} {n : Nat} (h : ∀ k, k < n → P k) (e : P n) : ∀ k, k < n + 1 → P k := by
  intro k hk
  by_cases hkn : k = n
  · subst hkn; exact e
  · exact h k (by omega)
def eqC (b : Nat) (G : Gx) (k : Nat) : Prop := ∀ H : Heap, va_at G.1 vwCl (b + k, cE3 b G k) H → va_at G.1 vwCl (b + k, cell b G.2 M0 k) H
theorem eqC_of {b : Nat} {G : Gx} {k : Nat} (e : cE3 b G k = cell b G.2 M0 k) : eqC b G k := fun H h => by rw [← e]; exact h
theorem arrV_cg {c : ClassId} {N : Nat} {f g : Nat → Value} (h : ∀ j, j < N → f j = g j) : arrV c N f = arrV c N g := by
  have e : (fun j : Fin N => f j.val) = fun j => g j.val := funext fun j => h j.val j.isLt
  unfold arrV
  rw [e]
section
variable {b : Nat} {G : Gx}
theorem ce_0 : eqC b G 0 := by
  refine eqC_of ?_
  unfold cell
  rw [show shp 0 = (0, 0, 11, [(2, 1), (2, 4), (2, 28), (2, 52), (2, 76), (2, 100), (2, 201), (2, 212), (2, 213), (2, 217), (2, 220), (2, 223), (0, 0), (0, 0), (0, 0)]) by decide +kernel]
  rfl
theorem ce_1 : eqC b G 1 := by
  refine eqC_of ?_
  unfold cell
  rw [show shp 1 = (1, 0, 10, [(2, 2), (0, 0), (0, 0), (0, 0), (0, 0), (0, 0), (1, 0), (2, 3), (0, 0), (0, 0), (0, 0)]) by decide +kernel]
  rfl
theorem ce_2 : eqC b G 2 := by
  refine eqC_of ?_
  unfold cell
  rw [show shp 2 = (1, 3, 29, []) by decide +kernel]
  rfl
theorem ce_3 : eqC b G 3 := by
  refine eqC_of ?_
  unfold cell
  rw [show shp 3 = (1, 1, 940, []) by decide +kernel]
  rfl
theorem ce_4 : eqC b G 4 := by
  refine eqC_of ?_
  unfold cell
  rw [show shp 4 = (4, 0, 9, [(2, 5), (2, 12), (2, 23), (0, 0)]) by decide +kernel]
  rfl
theorem ce_5 : eqC b G 5 := by
  refine eqC_of ?_
  unfold cell
  rw [show shp 5 = (5, 0, 5, [(0, 0), (0, 0), (0, 0), (0, 0), (0, 0), (2, 6), (2, 7), (2, 8), (2, 9), (2, 10), (2, 11)]) by decide +kernel]
  rfl
theorem ce_6 : eqC b G 6 := by
  refine eqC_of ?_
  unfold cell
  rw [show shp 6 = (5, 2, 6, []) by decide +kernel]
  rfl
theorem ce_7 : eqC b G 7 := by
  refine eqC_of ?_
  unfold cell
  rw [show shp 7 = (5, 2, 6, []) by decide +kernel]
  rfl
theorem ce_8 : eqC b G 8 := by
  refine eqC_of ?_
  unfold cell
  rw [show shp 8 = (5, 3, 6, []) by decide +kernel]
  rfl
theorem ce_9 : eqC b G 9 := by
  refine eqC_of ?_
  unfold cell
  rw [show shp 9 = (5, 2, 8, []) by decide +kernel]
  rfl
theorem ce_10 : eqC b G 10 := by
  refine eqC_of ?_
  unfold cell
  rw [show shp 10 = (5, 2, 8, []) by decide +kernel]
  rfl
theorem ce_11 : eqC b G 11 := by
  refine eqC_of ?_
  unfold cell
  rw [show shp 11 = (5, 3, 8, []) by decide +kernel]
  rfl
theorem ce_12 : eqC b G 12 := by
  refine eqC_of ?_
  unfold cell
  rw [show shp 12 = (12, 0, 8, [(2, 5), (0, 0), (0, 0), (0, 0), (2, 13), (2, 14), (2, 15), (2, 16), (2, 17), (2, 18), (2, 19), (2, 20), (2, 21), (2, 22), (0, 0)]) by decide +kernel]
  rfl
theorem ce_13 : eqC b G 13 := by
  refine eqC_of ?_
  unfold cell
  rw [show shp 13 = (12, 2, 12, []) by decide +kernel]
  rfl
theorem ce_14 : eqC b G 14 := by
  refine eqC_of ?_
  unfold cell
  rw [show shp 14 = (12, 2, 12, []) by decide +kernel]
  rfl
theorem ce_15 : eqC b G 15 := by
  refine eqC_of ?_
  unfold cell
  rw [show shp 15 = (12, 2, 8, []) by decide +kernel]
  rfl
theorem ce_16 : eqC b G 16 := by
  refine eqC_of ?_
  unfold cell
  rw [show shp 16 = (12, 2, 8, []) by decide +kernel]
  rfl
theorem ce_17 : eqC b G 17 := by
  refine eqC_of ?_
  unfold cell
  rw [show shp 17 = (12, 2, 8, []) by decide +kernel]
  rfl
theorem ce_18 : eqC b G 18 := by
  refine eqC_of ?_
  unfold cell
  rw [show shp 18 = (12, 2, 8, []) by decide +kernel]
  rfl
theorem ce_19 : eqC b G 19 := by
  refine eqC_of ?_
  unfold cell
  rw [show shp 19 = (12, 2, 8, []) by decide +kernel]
  rfl
theorem ce_20 : eqC b G 20 := by
  refine eqC_of ?_
  unfold cell
  rw [show shp 20 = (12, 2, 8, []) by decide +kernel]
  rfl
theorem ce_21 : eqC b G 21 := by
  refine eqC_of ?_
  unfold cell
  rw [show shp 21 = (12, 2, 8, []) by decide +kernel]
  rfl
theorem ce_22 : eqC b G 22 := by
  refine eqC_of ?_
  unfold cell
  rw [show shp 22 = (12, 2, 8, []) by decide +kernel]
  rfl
theorem ce_23 : eqC b G 23 := by
  refine eqC_of ?_
  unfold cell
  rw [show shp 23 = (23, 0, 7, [(0, 0), (0, 0), (2, 24), (2, 25), (2, 26), (2, 27), (0, 0)]) by decide +kernel]
  rfl
theorem ce_24 : eqC b G 24 := by
  refine eqC_of ?_
  unfold cell
  rw [show shp 24 = (23, 2, 40, []) by decide +kernel]
  rfl
theorem ce_25 : eqC b G 25 := by
  refine eqC_of ?_
  unfold cell
  rw [show shp 25 = (23, 2, 40, []) by decide +kernel]
  rfl
theorem ce_26 : eqC b G 26 := by
  refine eqC_of ?_
  unfold cell
  rw [show shp 26 = (23, 2, 40, []) by decide +kernel]
  rfl
theorem ce_27 : eqC b G 27 := by
  refine eqC_of ?_
  unfold cell
  rw [show shp 27 = (23, 2, 40, []) by decide +kernel]
  rfl
theorem ce_28 : eqC b G 28 := by
  refine eqC_of ?_
  unfold cell
  rw [show shp 28 = (28, 0, 9, [(2, 29), (2, 36), (2, 47), (0, 0)]) by decide +kernel]
  rfl
theorem ce_29 : eqC b G 29 := by
  refine eqC_of ?_
  unfold cell
  rw [show shp 29 = (29, 0, 5, [(0, 0), (0, 0), (0, 0), (0, 0), (0, 0), (2, 30), (2, 31), (2, 32), (2, 33), (2, 34), (2, 35)]) by decide +kernel]
  rfl
theorem ce_30 : eqC b G 30 := by
  refine eqC_of ?_
  unfold cell
  rw [show shp 30 = (29, 2, 6, []) by decide +kernel]
  rfl
theorem ce_31 : eqC b G 31 := by
  refine eqC_of ?_
  unfold cell
  rw [show shp 31 = (29, 2, 6, []) by decide +kernel]
  rfl
theorem ce_32 : eqC b G 32 := by
  refine eqC_of ?_
  unfold cell
  rw [show shp 32 = (29, 3, 6, []) by decide +kernel]
  rfl
theorem ce_33 : eqC b G 33 := by
  refine eqC_of ?_
  unfold cell
  rw [show shp 33 = (29, 2, 8, []) by decide +kernel]
  rfl
theorem ce_34 : eqC b G 34 := by
  refine eqC_of ?_
  unfold cell
  rw [show shp 34 = (29, 2, 8, []) by decide +kernel]
  rfl
theorem ce_35 : eqC b G 35 := by
  refine eqC_of ?_
  unfold cell
  rw [show shp 35 = (29, 3, 8, []) by decide +kernel]
  rfl
theorem ce_36 : eqC b G 36 := by
  refine eqC_of ?_
  unfold cell
  rw [show shp 36 = (36, 0, 8, [(2, 29), (0, 0), (0, 0), (0, 0), (2, 37), (2, 38), (2, 39), (2, 40), (2, 41), (2, 42), (2, 43), (2, 44), (2, 45), (2, 46), (0, 0)]) by decide +kernel]
  rfl
theorem ce_37 : eqC b G 37 := by
  refine eqC_of ?_
  unfold cell
  rw [show shp 37 = (36, 2, 12, []) by decide +kernel]
  rfl
theorem ce_38 : eqC b G 38 := by
  refine eqC_of ?_
  unfold cell
  rw [show shp 38 = (36, 2, 12, []) by decide +kernel]
  rfl
theorem ce_39 : eqC b G 39 := by
  refine eqC_of ?_
  unfold cell
  rw [show shp 39 = (36, 2, 8, []) by decide +kernel]
  rfl
theorem ce_40 : eqC b G 40 := by
  refine eqC_of ?_
  unfold cell
  rw [show shp 40 = (36, 2, 8, []) by decide +kernel]
  rfl
theorem ce_41 : eqC b G 41 := by
  refine eqC_of ?_
  unfold cell
  rw [show shp 41 = (36, 2, 8, []) by decide +kernel]
  rfl
theorem ce_42 : eqC b G 42 := by
  refine eqC_of ?_
  unfold cell
  rw [show shp 42 = (36, 2, 8, []) by decide +kernel]
  rfl
theorem ce_43 : eqC b G 43 := by
  refine eqC_of ?_
  unfold cell
  rw [show shp 43 = (36, 2, 8, []) by decide +kernel]
  rfl
theorem ce_44 : eqC b G 44 := by
  refine eqC_of ?_
  unfold cell
  rw [show shp 44 = (36, 2, 8, []) by decide +kernel]
  rfl
theorem ce_45 : eqC b G 45 := by
  refine eqC_of ?_
  unfold cell
  rw [show shp 45 = (36, 2, 8, []) by decide +kernel]
  rfl
theorem ce_46 : eqC b G 46 := by
  refine eqC_of ?_
  unfold cell
  rw [show shp 46 = (36, 2, 8, []) by decide +kernel]
  rfl
theorem ce_47 : eqC b G 47 := by
  refine eqC_of ?_
  unfold cell
  rw [show shp 47 = (47, 0, 7, [(0, 0), (0, 0), (2, 48), (2, 49), (2, 50), (2, 51), (0, 0)]) by decide +kernel]
  rfl
theorem ce_48 : eqC b G 48 := by
  refine eqC_of ?_
  unfold cell
  rw [show shp 48 = (47, 2, 40, []) by decide +kernel]
  rfl
theorem ce_49 : eqC b G 49 := by
  refine eqC_of ?_
  unfold cell
  rw [show shp 49 = (47, 2, 40, []) by decide +kernel]
  rfl
theorem ce_50 : eqC b G 50 := by
  refine eqC_of ?_
  unfold cell
  rw [show shp 50 = (47, 2, 40, []) by decide +kernel]
  rfl
theorem ce_51 : eqC b G 51 := by
  refine eqC_of ?_
  unfold cell
  rw [show shp 51 = (47, 2, 40, []) by decide +kernel]
  rfl
theorem ce_52 : eqC b G 52 := by
  refine eqC_of ?_
  unfold cell
  rw [show shp 52 = (52, 0, 9, [(2, 53), (2, 60), (2, 71), (0, 0)]) by decide +kernel]
  rfl
theorem ce_53 : eqC b G 53 := by
  refine eqC_of ?_
  unfold cell
  rw [show shp 53 = (53, 0, 5, [(0, 0), (0, 0), (0, 0), (0, 0), (0, 0), (2, 54), (2, 55), (2, 56), (2, 57), (2, 58), (2, 59)]) by decide +kernel]
  rfl
theorem ce_54 : eqC b G 54 := by
  refine eqC_of ?_
  unfold cell
  rw [show shp 54 = (53, 2, 6, []) by decide +kernel]
  rfl
theorem ce_55 : eqC b G 55 := by
  refine eqC_of ?_
  unfold cell
  rw [show shp 55 = (53, 2, 6, []) by decide +kernel]
  rfl
theorem ce_56 : eqC b G 56 := by
  refine eqC_of ?_
  unfold cell
  rw [show shp 56 = (53, 3, 6, []) by decide +kernel]
  rfl
theorem ce_57 : eqC b G 57 := by
  refine eqC_of ?_
  unfold cell
  rw [show shp 57 = (53, 2, 8, []) by decide +kernel]
  rfl
theorem ce_58 : eqC b G 58 := by
  refine eqC_of ?_
  unfold cell
  rw [show shp 58 = (53, 2, 8, []) by decide +kernel]
  rfl
theorem ce_59 : eqC b G 59 := by
  refine eqC_of ?_
  unfold cell
  rw [show shp 59 = (53, 3, 8, []) by decide +kernel]
  rfl
theorem ce_60 : eqC b G 60 := by
  refine eqC_of ?_
  unfold cell
  rw [show shp 60 = (60, 0, 8, [(2, 53), (0, 0), (0, 0), (0, 0), (2, 61), (2, 62), (2, 63), (2, 64), (2, 65), (2, 66), (2, 67), (2, 68), (2, 69), (2, 70), (0, 0)]) by decide +kernel]
  rfl
theorem ce_61 : eqC b G 61 := by
  refine eqC_of ?_
  unfold cell
  rw [show shp 61 = (60, 2, 12, []) by decide +kernel]
  rfl
theorem ce_62 : eqC b G 62 := by
  refine eqC_of ?_
  unfold cell
  rw [show shp 62 = (60, 2, 12, []) by decide +kernel]
  rfl
theorem ce_63 : eqC b G 63 := by
  refine eqC_of ?_
  unfold cell
  rw [show shp 63 = (60, 2, 8, []) by decide +kernel]
  rfl
theorem ce_64 : eqC b G 64 := by
  refine eqC_of ?_
  unfold cell
  rw [show shp 64 = (60, 2, 8, []) by decide +kernel]
  rfl
theorem ce_65 : eqC b G 65 := by
  refine eqC_of ?_
  unfold cell
  rw [show shp 65 = (60, 2, 8, []) by decide +kernel]
  rfl
theorem ce_66 : eqC b G 66 := by
  refine eqC_of ?_
  unfold cell
  rw [show shp 66 = (60, 2, 8, []) by decide +kernel]
  rfl
theorem ce_67 : eqC b G 67 := by
  refine eqC_of ?_
  unfold cell
  rw [show shp 67 = (60, 2, 8, []) by decide +kernel]
  rfl
theorem ce_68 : eqC b G 68 := by
  refine eqC_of ?_
  unfold cell
  rw [show shp 68 = (60, 2, 8, []) by decide +kernel]
  rfl
theorem ce_69 : eqC b G 69 := by
  refine eqC_of ?_
  unfold cell
  rw [show shp 69 = (60, 2, 8, []) by decide +kernel]
  rfl
theorem ce_70 : eqC b G 70 := by
  refine eqC_of ?_
  unfold cell
  rw [show shp 70 = (60, 2, 8, []) by decide +kernel]
  rfl
theorem ce_71 : eqC b G 71 := by
  refine eqC_of ?_
  unfold cell
  rw [show shp 71 = (71, 0, 7, [(0, 0), (0, 0), (2, 72), (2, 73), (2, 74), (2, 75), (0, 0)]) by decide +kernel]
  rfl
theorem ce_72 : eqC b G 72 := by
  refine eqC_of ?_
  unfold cell
  rw [show shp 72 = (71, 2, 40, []) by decide +kernel]
  rfl
theorem ce_73 : eqC b G 73 := by
  refine eqC_of ?_
  unfold cell
  rw [show shp 73 = (71, 2, 40, []) by decide +kernel]
  rfl
theorem ce_74 : eqC b G 74 := by
  refine eqC_of ?_
  unfold cell
  rw [show shp 74 = (71, 2, 40, []) by decide +kernel]
  rfl
theorem ce_75 : eqC b G 75 := by
  refine eqC_of ?_
  unfold cell
  rw [show shp 75 = (71, 2, 40, []) by decide +kernel]
  rfl
theorem ce_76 : eqC b G 76 := by
  refine eqC_of ?_
  unfold cell
  rw [show shp 76 = (76, 0, 9, [(2, 77), (2, 84), (2, 95), (0, 0)]) by decide +kernel]
  rfl
theorem ce_77 : eqC b G 77 := by
  refine eqC_of ?_
  unfold cell
  rw [show shp 77 = (77, 0, 5, [(0, 0), (0, 0), (0, 0), (0, 0), (0, 0), (2, 78), (2, 79), (2, 80), (2, 81), (2, 82), (2, 83)]) by decide +kernel]
  rfl
theorem ce_78 : eqC b G 78 := by
  refine eqC_of ?_
  unfold cell
  rw [show shp 78 = (77, 2, 6, []) by decide +kernel]
  rfl
theorem ce_79 : eqC b G 79 := by
  refine eqC_of ?_
  unfold cell
  rw [show shp 79 = (77, 2, 6, []) by decide +kernel]
  rfl
theorem ce_80 : eqC b G 80 := by
  refine eqC_of ?_
  unfold cell
  rw [show shp 80 = (77, 3, 6, []) by decide +kernel]
  rfl
theorem ce_81 : eqC b G 81 := by
  refine eqC_of ?_
  unfold cell
  rw [show shp 81 = (77, 2, 8, []) by decide +kernel]
  rfl
theorem ce_82 : eqC b G 82 := by
  refine eqC_of ?_
  unfold cell
  rw [show shp 82 = (77, 2, 8, []) by decide +kernel]
  rfl
theorem ce_83 : eqC b G 83 := by
  refine eqC_of ?_
  unfold cell
  rw [show shp 83 = (77, 3, 8, []) by decide +kernel]
  rfl
theorem ce_84 : eqC b G 84 := by
  refine eqC_of ?_
  unfold cell
  rw [show shp 84 = (84, 0, 8, [(2, 77), (0, 0), (0, 0), (0, 0), (2, 85), (2, 86), (2, 87), (2, 88), (2, 89), (2, 90), (2, 91), (2, 92), (2, 93), (2, 94), (0, 0)]) by decide +kernel]
  rfl
theorem ce_85 : eqC b G 85 := by
  refine eqC_of ?_
  unfold cell
  rw [show shp 85 = (84, 2, 12, []) by decide +kernel]
  rfl
theorem ce_86 : eqC b G 86 := by
  refine eqC_of ?_
  unfold cell
  rw [show shp 86 = (84, 2, 12, []) by decide +kernel]
  rfl
theorem ce_87 : eqC b G 87 := by
  refine eqC_of ?_
  unfold cell
  rw [show shp 87 = (84, 2, 8, []) by decide +kernel]
  rfl
theorem ce_88 : eqC b G 88 := by
  refine eqC_of ?_
  unfold cell
  rw [show shp 88 = (84, 2, 8, []) by decide +kernel]
  rfl
theorem ce_89 : eqC b G 89 := by
  refine eqC_of ?_
  unfold cell
  rw [show shp 89 = (84, 2, 8, []) by decide +kernel]
  rfl
theorem ce_90 : eqC b G 90 := by
  refine eqC_of ?_
  unfold cell
  rw [show shp 90 = (84, 2, 8, []) by decide +kernel]
  rfl
theorem ce_91 : eqC b G 91 := by
  refine eqC_of ?_
  unfold cell
  rw [show shp 91 = (84, 2, 8, []) by decide +kernel]
  rfl
theorem ce_92 : eqC b G 92 := by
  refine eqC_of ?_
  unfold cell
  rw [show shp 92 = (84, 2, 8, []) by decide +kernel]
  rfl
theorem ce_93 : eqC b G 93 := by
  refine eqC_of ?_
  unfold cell
  rw [show shp 93 = (84, 2, 8, []) by decide +kernel]
  rfl
theorem ce_94 : eqC b G 94 := by
  refine eqC_of ?_
  unfold cell
  rw [show shp 94 = (84, 2, 8, []) by decide +kernel]
  rfl
theorem ce_95 : eqC b G 95 := by
  refine eqC_of ?_
  unfold cell
  rw [show shp 95 = (95, 0, 7, [(0, 0), (0, 0), (2, 96), (2, 97), (2, 98), (2, 99), (0, 0)]) by decide +kernel]
  rfl
theorem ce_96 : eqC b G 96 := by
  refine eqC_of ?_
  unfold cell
  rw [show shp 96 = (95, 2, 40, []) by decide +kernel]
  rfl
theorem ce_97 : eqC b G 97 := by
  refine eqC_of ?_
  unfold cell
  rw [show shp 97 = (95, 2, 40, []) by decide +kernel]
  rfl
theorem ce_98 : eqC b G 98 := by
  refine eqC_of ?_
  unfold cell
  rw [show shp 98 = (95, 2, 40, []) by decide +kernel]
  rfl
theorem ce_99 : eqC b G 99 := by
  refine eqC_of ?_
  unfold cell
  rw [show shp 99 = (95, 2, 40, []) by decide +kernel]
  rfl
theorem ce_100 : eqC b G 100 := by
  refine eqC_of ?_
  unfold cell
  rw [show shp 100 = (100, 0, 4, [(2, 101), (0, 0), (0, 0)]) by decide +kernel]
  rfl
theorem ce_101 : eqC b G 101 := by
  intro H h
  have h1 : H[b + 101]? = some (arrV (G.2 5) 9 (fun j => va_rf ((va_up (va_up (va_up (va_up (va_up (va_up (va_up (va_up (va_up (fun _ => none) 0 (some (b + (101 + 1)))) 1 (some (b + (101 + 12)))) 2 (some (b + (101 + 23)))) 3 (some (b + (101 + 34)))) 4 (some (b + (101 + 45)))) 5 (some (b + (101 + 56)))) 6 (some (b + (101 + 67)))) 7 (some (b + (101 + 78)))) 8 (some (b + (101 + 89)))) j))) := h
  have h2 : H[b + 101]? = some (arrV (G.2 5) 9 (fun j => va_rf (some (b + (102 + 11 * j))))) := by
    rw [h1]
    refine congrArg some (arrV_cg fun j hj => ?_)
    rcases (show j = 0 ∨ j = 1 ∨ j = 2 ∨ j = 3 ∨ j = 4 ∨ j = 5 ∨ j = 6 ∨ j = 7 ∨ j = 8 by omega) with rfl | rfl | rfl | rfl | rfl | rfl | rfl | rfl | rfl <;> rfl
  have e : cell b G.2 M0 101 = .inl (G.2 5, 9, .inr (.inr (.inr (.inr (fun i => some (b + (102 + 11 * i))))))) := by
    unfold cell
    rw [show shp 101 = (100, 5, 9, []) by decide +kernel]
    rfl
  rw [e]
  exact h2
theorem ce_102 : eqC b G 102 := by
  refine eqC_of ?_
  unfold cell
  rw [show shp 102 = (102, 0, 8, [(2, 5), (0, 0), (0, 0), (0, 0), (2, 103), (2, 104), (2, 105), (2, 106), (2, 107), (2, 108), (2, 109), (2, 110), (2, 111), (2, 112), (0, 0)]) by decide +kernel]
  rfl
theorem ce_103 : eqC b G 103 := by
  refine eqC_of ?_
  unfold cell
  rw [show shp 103 = (102, 2, 12, []) by decide +kernel]
  rfl
theorem ce_104 : eqC b G 104 := by
  refine eqC_of ?_
  unfold cell
  rw [show shp 104 = (102, 2, 12, []) by decide +kernel]
  rfl
theorem ce_105 : eqC b G 105 := by
  refine eqC_of ?_
  unfold cell
  rw [show shp 105 = (102, 2, 8, []) by decide +kernel]
  rfl
theorem ce_106 : eqC b G 106 := by
  refine eqC_of ?_
  unfold cell
  rw [show shp 106 = (102, 2, 8, []) by decide +kernel]
  rfl
theorem ce_107 : eqC b G 107 := by
  refine eqC_of ?_
  unfold cell
  rw [show shp 107 = (102, 2, 8, []) by decide +kernel]
  rfl
theorem ce_108 : eqC b G 108 := by
  refine eqC_of ?_
  unfold cell
  rw [show shp 108 = (102, 2, 8, []) by decide +kernel]
  rfl
theorem ce_109 : eqC b G 109 := by
  refine eqC_of ?_
  unfold cell
  rw [show shp 109 = (102, 2, 8, []) by decide +kernel]
  rfl
theorem ce_110 : eqC b G 110 := by
  refine eqC_of ?_
  unfold cell
  rw [show shp 110 = (102, 2, 8, []) by decide +kernel]
  rfl
theorem ce_111 : eqC b G 111 := by
  refine eqC_of ?_
  unfold cell
  rw [show shp 111 = (102, 2, 8, []) by decide +kernel]
  rfl
theorem ce_112 : eqC b G 112 := by
  refine eqC_of ?_
  unfold cell
  rw [show shp 112 = (102, 2, 8, []) by decide +kernel]
  rfl
theorem ce_113 : eqC b G 113 := by
  refine eqC_of ?_
  unfold cell
  rw [show shp 113 = (113, 0, 8, [(2, 5), (0, 0), (0, 0), (0, 0), (2, 114), (2, 115), (2, 116), (2, 117), (2, 118), (2, 119), (2, 120), (2, 121), (2, 122), (2, 123), (0, 0)]) by decide +kernel]
  rfl
theorem ce_114 : eqC b G 114 := by
  refine eqC_of ?_
  unfold cell
  rw [show shp 114 = (113, 2, 12, []) by decide +kernel]
  rfl
theorem ce_115 : eqC b G 115 := by
  refine eqC_of ?_
  unfold cell
  rw [show shp 115 = (113, 2, 12, []) by decide +kernel]
  rfl
theorem ce_116 : eqC b G 116 := by
  refine eqC_of ?_
  unfold cell
  rw [show shp 116 = (113, 2, 8, []) by decide +kernel]
  rfl
theorem ce_117 : eqC b G 117 := by
  refine eqC_of ?_
  unfold cell
  rw [show shp 117 = (113, 2, 8, []) by decide +kernel]
  rfl
theorem ce_118 : eqC b G 118 := by
  refine eqC_of ?_
  unfold cell
  rw [show shp 118 = (113, 2, 8, []) by decide +kernel]
  rfl
theorem ce_119 : eqC b G 119 := by
  refine eqC_of ?_
  unfold cell
  rw [show shp 119 = (113, 2, 8, []) by decide +kernel]
  rfl
theorem ce_120 : eqC b G 120 := by
  refine eqC_of ?_
  unfold cell
  rw [show shp 120 = (113, 2, 8, []) by decide +kernel]
  rfl
theorem ce_121 : eqC b G 121 := by
  refine eqC_of ?_
  unfold cell
  rw [show shp 121 = (113, 2, 8, []) by decide +kernel]
  rfl
theorem ce_122 : eqC b G 122 := by
  refine eqC_of ?_
  unfold cell
  rw [show shp 122 = (113, 2, 8, []) by decide +kernel]
  rfl
theorem ce_123 : eqC b G 123 := by
  refine eqC_of ?_
  unfold cell
  rw [show shp 123 = (113, 2, 8, []) by decide +kernel]
  rfl
theorem ce_124 : eqC b G 124 := by
  refine eqC_of ?_
  unfold cell
  rw [show shp 124 = (124, 0, 8, [(2, 5), (0, 0), (0, 0), (0, 0), (2, 125), (2, 126), (2, 127), (2, 128), (2, 129), (2, 130), (2, 131), (2, 132), (2, 133), (2, 134), (0, 0)]) by decide +kernel]
  rfl
theorem ce_125 : eqC b G 125 := by
  refine eqC_of ?_
  unfold cell
  rw [show shp 125 = (124, 2, 12, []) by decide +kernel]
  rfl
theorem ce_126 : eqC b G 126 := by
  refine eqC_of ?_
  unfold cell
  rw [show shp 126 = (124, 2, 12, []) by decide +kernel]
  rfl
theorem ce_127 : eqC b G 127 := by
  refine eqC_of ?_
  unfold cell
  rw [show shp 127 = (124, 2, 8, []) by decide +kernel]
  rfl
theorem ce_128 : eqC b G 128 := by
  refine eqC_of ?_
  unfold cell
  rw [show shp 128 = (124, 2, 8, []) by decide +kernel]
  rfl
theorem ce_129 : eqC b G 129 := by
  refine eqC_of ?_
  unfold cell
  rw [show shp 129 = (124, 2, 8, []) by decide +kernel]
  rfl
theorem ce_130 : eqC b G 130 := by
  refine eqC_of ?_
  unfold cell
  rw [show shp 130 = (124, 2, 8, []) by decide +kernel]
  rfl
theorem ce_131 : eqC b G 131 := by
  refine eqC_of ?_
  unfold cell
  rw [show shp 131 = (124, 2, 8, []) by decide +kernel]
  rfl
theorem ce_132 : eqC b G 132 := by
  refine eqC_of ?_
  unfold cell
  rw [show shp 132 = (124, 2, 8, []) by decide +kernel]
  rfl
theorem ce_133 : eqC b G 133 := by
  refine eqC_of ?_
  unfold cell
  rw [show shp 133 = (124, 2, 8, []) by decide +kernel]
  rfl
theorem ce_134 : eqC b G 134 := by
  refine eqC_of ?_
  unfold cell
  rw [show shp 134 = (124, 2, 8, []) by decide +kernel]
  rfl
theorem ce_135 : eqC b G 135 := by
  refine eqC_of ?_
  unfold cell
  rw [show shp 135 = (135, 0, 8, [(2, 5), (0, 0), (0, 0), (0, 0), (2, 136), (2, 137), (2, 138), (2, 139), (2, 140), (2, 141), (2, 142), (2, 143), (2, 144), (2, 145), (0, 0)]) by decide +kernel]
  rfl
theorem ce_136 : eqC b G 136 := by
  refine eqC_of ?_
  unfold cell
  rw [show shp 136 = (135, 2, 12, []) by decide +kernel]
  rfl
theorem ce_137 : eqC b G 137 := by
  refine eqC_of ?_
  unfold cell
  rw [show shp 137 = (135, 2, 12, []) by decide +kernel]
  rfl
theorem ce_138 : eqC b G 138 := by
  refine eqC_of ?_
  unfold cell
  rw [show shp 138 = (135, 2, 8, []) by decide +kernel]
  rfl
theorem ce_139 : eqC b G 139 := by
  refine eqC_of ?_
  unfold cell
  rw [show shp 139 = (135, 2, 8, []) by decide +kernel]
  rfl
theorem ce_140 : eqC b G 140 := by
  refine eqC_of ?_
  unfold cell
  rw [show shp 140 = (135, 2, 8, []) by decide +kernel]
  rfl
theorem ce_141 : eqC b G 141 := by
  refine eqC_of ?_
  unfold cell
  rw [show shp 141 = (135, 2, 8, []) by decide +kernel]
  rfl
theorem ce_142 : eqC b G 142 := by
  refine eqC_of ?_
  unfold cell
  rw [show shp 142 = (135, 2, 8, []) by decide +kernel]
  rfl
theorem ce_143 : eqC b G 143 := by
  refine eqC_of ?_
  unfold cell
  rw [show shp 143 = (135, 2, 8, []) by decide +kernel]
  rfl
theorem ce_144 : eqC b G 144 := by
  refine eqC_of ?_
  unfold cell
  rw [show shp 144 = (135, 2, 8, []) by decide +kernel]
  rfl
theorem ce_145 : eqC b G 145 := by
  refine eqC_of ?_
  unfold cell
  rw [show shp 145 = (135, 2, 8, []) by decide +kernel]
  rfl
theorem ce_146 : eqC b G 146 := by
  refine eqC_of ?_
  unfold cell
  rw [show shp 146 = (146, 0, 8, [(2, 5), (0, 0), (0, 0), (0, 0), (2, 147), (2, 148), (2, 149), (2, 150), (2, 151), (2, 152), (2, 153), (2, 154), (2, 155), (2, 156), (0, 0)]) by decide +kernel]
  rfl
theorem ce_147 : eqC b G 147 := by
  refine eqC_of ?_
  unfold cell
  rw [show shp 147 = (146, 2, 12, []) by decide +kernel]
  rfl
theorem ce_148 : eqC b G 148 := by
  refine eqC_of ?_
  unfold cell
  rw [show shp 148 = (146, 2, 12, []) by decide +kernel]
  rfl
theorem ce_149 : eqC b G 149 := by
  refine eqC_of ?_
  unfold cell
  rw [show shp 149 = (146, 2, 8, []) by decide +kernel]
  rfl
theorem ce_150 : eqC b G 150 := by
  refine eqC_of ?_
  unfold cell
  rw [show shp 150 = (146, 2, 8, []) by decide +kernel]
  rfl
theorem ce_151 : eqC b G 151 := by
  refine eqC_of ?_
  unfold cell
  rw [show shp 151 = (146, 2, 8, []) by decide +kernel]
  rfl
theorem ce_152 : eqC b G 152 := by
  refine eqC_of ?_
  unfold cell
  rw [show shp 152 = (146, 2, 8, []) by decide +kernel]
  rfl
theorem ce_153 : eqC b G 153 := by
  refine eqC_of ?_
  unfold cell
  rw [show shp 153 = (146, 2, 8, []) by decide +kernel]
  rfl
theorem ce_154 : eqC b G 154 := by
  refine eqC_of ?_
  unfold cell
  rw [show shp 154 = (146, 2, 8, []) by decide +kernel]
  rfl
theorem ce_155 : eqC b G 155 := by
  refine eqC_of ?_
  unfold cell
  rw [show shp 155 = (146, 2, 8, []) by decide +kernel]
  rfl
theorem ce_156 : eqC b G 156 := by
  refine eqC_of ?_
  unfold cell
  rw [show shp 156 = (146, 2, 8, []) by decide +kernel]
  rfl
theorem ce_157 : eqC b G 157 := by
  refine eqC_of ?_
  unfold cell
  rw [show shp 157 = (157, 0, 8, [(2, 5), (0, 0), (0, 0), (0, 0), (2, 158), (2, 159), (2, 160), (2, 161), (2, 162), (2, 163), (2, 164), (2, 165), (2, 166), (2, 167), (0, 0)]) by decide +kernel]
  rfl
theorem ce_158 : eqC b G 158 := by
  refine eqC_of ?_
  unfold cell
  rw [show shp 158 = (157, 2, 12, []) by decide +kernel]
  rfl
theorem ce_159 : eqC b G 159 := by
  refine eqC_of ?_
  unfold cell
  rw [show shp 159 = (157, 2, 12, []) by decide +kernel]
  rfl
theorem ce_160 : eqC b G 160 := by
  refine eqC_of ?_
  unfold cell
  rw [show shp 160 = (157, 2, 8, []) by decide +kernel]
  rfl
theorem ce_161 : eqC b G 161 := by
  refine eqC_of ?_
  unfold cell
  rw [show shp 161 = (157, 2, 8, []) by decide +kernel]
  rfl
theorem ce_162 : eqC b G 162 := by
  refine eqC_of ?_
  unfold cell
  rw [show shp 162 = (157, 2, 8, []) by decide +kernel]
  rfl
theorem ce_163 : eqC b G 163 := by
  refine eqC_of ?_
  unfold cell
  rw [show shp 163 = (157, 2, 8, []) by decide +kernel]
  rfl
theorem ce_164 : eqC b G 164 := by
  refine eqC_of ?_
  unfold cell
  rw [show shp 164 = (157, 2, 8, []) by decide +kernel]
  rfl
theorem ce_165 : eqC b G 165 := by
  refine eqC_of ?_
  unfold cell
  rw [show shp 165 = (157, 2, 8, []) by decide +kernel]
  rfl
theorem ce_166 : eqC b G 166 := by
  refine eqC_of ?_
  unfold cell
  rw [show shp 166 = (157, 2, 8, []) by decide +kernel]
  rfl
theorem ce_167 : eqC b G 167 := by
  refine eqC_of ?_
  unfold cell
  rw [show shp 167 = (157, 2, 8, []) by decide +kernel]
  rfl
theorem ce_168 : eqC b G 168 := by
  refine eqC_of ?_
  unfold cell
  rw [show shp 168 = (168, 0, 8, [(2, 5), (0, 0), (0, 0), (0, 0), (2, 169), (2, 170), (2, 171), (2, 172), (2, 173), (2, 174), (2, 175), (2, 176), (2, 177), (2, 178), (0, 0)]) by decide +kernel]
  rfl
theorem ce_169 : eqC b G 169 := by
  refine eqC_of ?_
  unfold cell
  rw [show shp 169 = (168, 2, 12, []) by decide +kernel]
  rfl
theorem ce_170 : eqC b G 170 := by
  refine eqC_of ?_
  unfold cell
  rw [show shp 170 = (168, 2, 12, []) by decide +kernel]
  rfl
theorem ce_171 : eqC b G 171 := by
  refine eqC_of ?_
  unfold cell
  rw [show shp 171 = (168, 2, 8, []) by decide +kernel]
  rfl
theorem ce_172 : eqC b G 172 := by
  refine eqC_of ?_
  unfold cell
  rw [show shp 172 = (168, 2, 8, []) by decide +kernel]
  rfl
theorem ce_173 : eqC b G 173 := by
  refine eqC_of ?_
  unfold cell
  rw [show shp 173 = (168, 2, 8, []) by decide +kernel]
  rfl
theorem ce_174 : eqC b G 174 := by
  refine eqC_of ?_
  unfold cell
  rw [show shp 174 = (168, 2, 8, []) by decide +kernel]
  rfl
theorem ce_175 : eqC b G 175 := by
  refine eqC_of ?_
  unfold cell
  rw [show shp 175 = (168, 2, 8, []) by decide +kernel]
  rfl
theorem ce_176 : eqC b G 176 := by
  refine eqC_of ?_
  unfold cell
  rw [show shp 176 = (168, 2, 8, []) by decide +kernel]
  rfl
theorem ce_177 : eqC b G 177 := by
  refine eqC_of ?_
  unfold cell
  rw [show shp 177 = (168, 2, 8, []) by decide +kernel]
  rfl
theorem ce_178 : eqC b G 178 := by
  refine eqC_of ?_
  unfold cell
  rw [show shp 178 = (168, 2, 8, []) by decide +kernel]
  rfl
theorem ce_179 : eqC b G 179 := by
  refine eqC_of ?_
  unfold cell
  rw [show shp 179 = (179, 0, 8, [(2, 5), (0, 0), (0, 0), (0, 0), (2, 180), (2, 181), (2, 182), (2, 183), (2, 184), (2, 185), (2, 186), (2, 187), (2, 188), (2, 189), (0, 0)]) by decide +kernel]
  rfl
theorem ce_180 : eqC b G 180 := by
  refine eqC_of ?_
  unfold cell
  rw [show shp 180 = (179, 2, 12, []) by decide +kernel]
  rfl
theorem ce_181 : eqC b G 181 := by
  refine eqC_of ?_
  unfold cell
  rw [show shp 181 = (179, 2, 12, []) by decide +kernel]
  rfl
theorem ce_182 : eqC b G 182 := by
  refine eqC_of ?_
  unfold cell
  rw [show shp 182 = (179, 2, 8, []) by decide +kernel]
  rfl
theorem ce_183 : eqC b G 183 := by
  refine eqC_of ?_
  unfold cell
  rw [show shp 183 = (179, 2, 8, []) by decide +kernel]
  rfl
theorem ce_184 : eqC b G 184 := by
  refine eqC_of ?_
  unfold cell
  rw [show shp 184 = (179, 2, 8, []) by decide +kernel]
  rfl
theorem ce_185 : eqC b G 185 := by
  refine eqC_of ?_
  unfold cell
  rw [show shp 185 = (179, 2, 8, []) by decide +kernel]
  rfl
theorem ce_186 : eqC b G 186 := by
  refine eqC_of ?_
  unfold cell
  rw [show shp 186 = (179, 2, 8, []) by decide +kernel]
  rfl
theorem ce_187 : eqC b G 187 := by
  refine eqC_of ?_
  unfold cell
  rw [show shp 187 = (179, 2, 8, []) by decide +kernel]
  rfl
theorem ce_188 : eqC b G 188 := by
  refine eqC_of ?_
  unfold cell
  rw [show shp 188 = (179, 2, 8, []) by decide +kernel]
  rfl
theorem ce_189 : eqC b G 189 := by
  refine eqC_of ?_
  unfold cell
  rw [show shp 189 = (179, 2, 8, []) by decide +kernel]
  rfl
theorem ce_190 : eqC b G 190 := by
  refine eqC_of ?_
  unfold cell
  rw [show shp 190 = (190, 0, 8, [(2, 5), (0, 0), (0, 0), (0, 0), (2, 191), (2, 192), (2, 193), (2, 194), (2, 195), (2, 196), (2, 197), (2, 198), (2, 199), (2, 200), (0, 0)]) by decide +kernel]
  rfl
theorem ce_191 : eqC b G 191 := by
  refine eqC_of ?_
  unfold cell
  rw [show shp 191 = (190, 2, 12, []) by decide +kernel]
  rfl
theorem ce_192 : eqC b G 192 := by
  refine eqC_of ?_
  unfold cell
  rw [show shp 192 = (190, 2, 12, []) by decide +kernel]
  rfl
theorem ce_193 : eqC b G 193 := by
  refine eqC_of ?_
  unfold cell
  rw [show shp 193 = (190, 2, 8, []) by decide +kernel]
  rfl
theorem ce_194 : eqC b G 194 := by
  refine eqC_of ?_
  unfold cell
  rw [show shp 194 = (190, 2, 8, []) by decide +kernel]
  rfl
theorem ce_195 : eqC b G 195 := by
  refine eqC_of ?_
  unfold cell
  rw [show shp 195 = (190, 2, 8, []) by decide +kernel]
  rfl
theorem ce_196 : eqC b G 196 := by
  refine eqC_of ?_
  unfold cell
  rw [show shp 196 = (190, 2, 8, []) by decide +kernel]
  rfl
theorem ce_197 : eqC b G 197 := by
  refine eqC_of ?_
  unfold cell
  rw [show shp 197 = (190, 2, 8, []) by decide +kernel]
  rfl
theorem ce_198 : eqC b G 198 := by
  refine eqC_of ?_
  unfold cell
  rw [show shp 198 = (190, 2, 8, []) by decide +kernel]
  rfl
theorem ce_199 : eqC b G 199 := by
  refine eqC_of ?_
  unfold cell
  rw [show shp 199 = (190, 2, 8, []) by decide +kernel]
  rfl
theorem ce_200 : eqC b G 200 := by
  refine eqC_of ?_
  unfold cell
  rw [show shp 200 = (190, 2, 8, []) by decide +kernel]
  rfl
theorem ce_201 : eqC b G 201 := by
  refine eqC_of ?_
  unfold cell
  rw [show shp 201 = (201, 0, 8, [(2, 5), (0, 0), (0, 0), (0, 0), (2, 202), (2, 203), (2, 204), (2, 205), (2, 206), (2, 207), (2, 208), (2, 209), (2, 210), (2, 211), (0, 0)]) by decide +kernel]
  rfl
theorem ce_202 : eqC b G 202 := by
  refine eqC_of ?_
  unfold cell
  rw [show shp 202 = (201, 2, 12, []) by decide +kernel]
  rfl
theorem ce_203 : eqC b G 203 := by
  refine eqC_of ?_
  unfold cell
  rw [show shp 203 = (201, 2, 12, []) by decide +kernel]
  rfl
theorem ce_204 : eqC b G 204 := by
  refine eqC_of ?_
  unfold cell
  rw [show shp 204 = (201, 2, 8, []) by decide +kernel]
  rfl
theorem ce_205 : eqC b G 205 := by
  refine eqC_of ?_
  unfold cell
  rw [show shp 205 = (201, 2, 8, []) by decide +kernel]
  rfl
theorem ce_206 : eqC b G 206 := by
  refine eqC_of ?_
  unfold cell
  rw [show shp 206 = (201, 2, 8, []) by decide +kernel]
  rfl
theorem ce_207 : eqC b G 207 := by
  refine eqC_of ?_
  unfold cell
  rw [show shp 207 = (201, 2, 8, []) by decide +kernel]
  rfl
theorem ce_208 : eqC b G 208 := by
  refine eqC_of ?_
  unfold cell
  rw [show shp 208 = (201, 2, 8, []) by decide +kernel]
  rfl
theorem ce_209 : eqC b G 209 := by
  refine eqC_of ?_
  unfold cell
  rw [show shp 209 = (201, 2, 8, []) by decide +kernel]
  rfl
theorem ce_210 : eqC b G 210 := by
  refine eqC_of ?_
  unfold cell
  rw [show shp 210 = (201, 2, 8, []) by decide +kernel]
  rfl
theorem ce_211 : eqC b G 211 := by
  refine eqC_of ?_
  unfold cell
  rw [show shp 211 = (201, 2, 8, []) by decide +kernel]
  rfl
theorem ce_212 : eqC b G 212 := by
  refine eqC_of ?_
  unfold cell
  rw [show shp 212 = (212, 0, 6, [(2, 1), (2, 29), (2, 36), (0, 0), (0, 0), (0, 0)]) by decide +kernel]
  rfl
theorem ce_213 : eqC b G 213 := by
  refine eqC_of ?_
  unfold cell
  rw [show shp 213 = (213, 0, 0, [(0, 0), (0, 0), (2, 1), (2, 5), (2, 214), (2, 215), (2, 216), (0, 0), (0, 0), (0, 0), (0, 0)]) by decide +kernel]
  rfl
theorem ce_214 : eqC b G 214 := by
  refine eqC_of ?_
  unfold cell
  rw [show shp 214 = (213, 2, 40, []) by decide +kernel]
  rfl
theorem ce_215 : eqC b G 215 := by
  refine eqC_of ?_
  unfold cell
  rw [show shp 215 = (213, 2, 40, []) by decide +kernel]
  rfl
theorem ce_216 : eqC b G 216 := by
  refine eqC_of ?_
  unfold cell
  rw [show shp 216 = (213, 2, 40, []) by decide +kernel]
  rfl
theorem ce_217 : eqC b G 217 := by
  refine eqC_of ?_
  unfold cell
  rw [show shp 217 = (217, 0, 3, [(2, 218), (2, 219)]) by decide +kernel]
  rfl
theorem ce_218 : eqC b G 218 := by
  refine eqC_of ?_
  unfold cell
  rw [show shp 218 = (217, 4, 256, []) by decide +kernel]
  rfl
theorem ce_219 : eqC b G 219 := by
  refine eqC_of ?_
  unfold cell
  rw [show shp 219 = (217, 2, 8, []) by decide +kernel]
  rfl
theorem ce_220 : eqC b G 220 := by
  refine eqC_of ?_
  unfold cell
  rw [show shp 220 = (220, 0, 1, [(2, 221), (2, 222), (0, 0)]) by decide +kernel]
  rfl
theorem ce_221 : eqC b G 221 := by
  refine eqC_of ?_
  unfold cell
  rw [show shp 221 = (220, 2, 8, []) by decide +kernel]
  rfl
theorem ce_222 : eqC b G 222 := by
  refine eqC_of ?_
  unfold cell
  rw [show shp 222 = (220, 2, 8, []) by decide +kernel]
  rfl
theorem ce_223 : eqC b G 223 := by
  refine eqC_of ?_
  unfold cell
  rw [show shp 223 = (223, 0, 2, [(0, 0), (2, 224), (2, 2)]) by decide +kernel]
  rfl
theorem ce_224 : eqC b G 224 := by
  refine eqC_of ?_
  unfold cell
  rw [show shp 224 = (223, 1, 32, []) by decide +kernel]
  rfl
theorem ce_225 : eqC b G 225 := by
  refine eqC_of ?_
  unfold cell
  rw [show shp 225 = (225, 0, 12, [(0, 0), (2, 226), (0, 0), (0, 0), (0, 0), (0, 0), (2, 227), (2, 228), (2, 229), (2, 230), (2, 231), (0, 0), (0, 0), (0, 0), (0, 0), (0, 0), (0, 0), (1, 0), (0, 0), (0, 0), (0, 0), (2, 232), (2, 233), (0, 0), (0, 0), (0, 0), (2, 234), (2, 235), (2, 236), (0, 0), (0, 0), (0, 0), (2, 237), (0, 0), (0, 0), (0, 0), (2, 238), (0, 0), (2, 239), (0, 0), (0, 0), (0, 0), (0, 0), (0, 0), (2, 240), (2, 241), (2, 242), (2, 243)]) by decide +kernel]
  rfl
theorem ce_226 : eqC b G 226 := by
  refine eqC_of ?_
  unfold cell
  rw [show shp 226 = (225, 1, 940, []) by decide +kernel]
  rfl
theorem ce_227 : eqC b G 227 := by
  refine eqC_of ?_
  unfold cell
  rw [show shp 227 = (225, 2, 342, []) by decide +kernel]
  rfl
theorem ce_228 : eqC b G 228 := by
  refine eqC_of ?_
  unfold cell
  rw [show shp 228 = (225, 2, 69, []) by decide +kernel]
  rfl
theorem ce_229 : eqC b G 229 := by
  refine eqC_of ?_
  unfold cell
  rw [show shp 229 = (225, 2, 135, []) by decide +kernel]
  rfl
theorem ce_230 : eqC b G 230 := by
  refine eqC_of ?_
  unfold cell
  rw [show shp 230 = (225, 3, 28, []) by decide +kernel]
  rfl
theorem ce_231 : eqC b G 231 := by
  refine eqC_of ?_
  unfold cell
  rw [show shp 231 = (225, 3, 29, []) by decide +kernel]
  rfl
theorem ce_232 : eqC b G 232 := by
  refine eqC_of ?_
  unfold cell
  rw [show shp 232 = (225, 2, 736, []) by decide +kernel]
  rfl
theorem ce_233 : eqC b G 233 := by
  refine eqC_of ?_
  unfold cell
  rw [show shp 233 = (225, 2, 92, []) by decide +kernel]
  rfl
theorem ce_234 : eqC b G 234 := by
  refine eqC_of ?_
  unfold cell
  rw [show shp 234 = (225, 4, 256, []) by decide +kernel]
  rfl
theorem ce_235 : eqC b G 235 := by
  refine eqC_of ?_
  unfold cell
  rw [show shp 235 = (225, 2, 8, []) by decide +kernel]
  rfl
theorem ce_236 : eqC b G 236 := by
  refine eqC_of ?_
  unfold cell
  rw [show shp 236 = (225, 2, 8, []) by decide +kernel]
  rfl
theorem ce_237 : eqC b G 237 := by
  refine eqC_of ?_
  unfold cell
  rw [show shp 237 = (225, 1, 40, []) by decide +kernel]
  rfl
theorem ce_238 : eqC b G 238 := by
  refine eqC_of ?_
  unfold cell
  rw [show shp 238 = (225, 2, 4, []) by decide +kernel]
  rfl
theorem ce_239 : eqC b G 239 := by
  refine eqC_of ?_
  unfold cell
  rw [show shp 239 = (225, 2, 45, []) by decide +kernel]
  rfl
theorem ce_240 : eqC b G 240 := by
  refine eqC_of ?_
  unfold cell
  rw [show shp 240 = (225, 4, 45, []) by decide +kernel]
  rfl
theorem ce_241 : eqC b G 241 := by
  refine eqC_of ?_
  unfold cell
  rw [show shp 241 = (225, 2, 684, []) by decide +kernel]
  rfl
theorem ce_242 : eqC b G 242 := by
  refine eqC_of ?_
  unfold cell
  rw [show shp 242 = (225, 3, 28, []) by decide +kernel]
  rfl
theorem ce_243 : eqC b G 243 := by
  refine eqC_of ?_
  unfold cell
  rw [show shp 243 = (225, 4, 2, []) by decide +kernel]
  rfl
theorem ce_244 : eqC b G 244 := by
  refine eqC_of ?_
  unfold cell
  rw [show shp 244 = (244, 3, 1, []) by decide +kernel]
  rfl
theorem cw_0 : ∀ k, k < 0 → eqC b G k := fun k h => absurd h (Nat.not_lt_zero k)
theorem cw_1 : ∀ k, k < 1 → eqC b G k := nstep cw_0 ce_0
theorem cw_2 : ∀ k, k < 2 → eqC b G k := nstep cw_1 ce_1
theorem cw_3 : ∀ k, k < 3 → eqC b G k := nstep cw_2 ce_2
theorem cw_4 : ∀ k, k < 4 → eqC b G k := nstep cw_3 ce_3
theorem cw_5 : ∀ k, k < 5 → eqC b G k := nstep cw_4 ce_4
theorem cw_6 : ∀ k, k < 6 → eqC b G k := nstep cw_5 ce_5
theorem cw_7 : ∀ k, k < 7 → eqC b G k := nstep cw_6 ce_6
theorem cw_8 : ∀ k, k < 8 → eqC b G k := nstep cw_7 ce_7
theorem cw_9 : ∀ k, k < 9 → eqC b G k := nstep cw_8 ce_8
theorem cw_10 : ∀ k, k < 10 → eqC b G k := nstep cw_9 ce_9
theorem cw_11 : ∀ k, k < 11 → eqC b G k := nstep cw_10 ce_10
theorem cw_12 : ∀ k, k < 12 → eqC b G k := nstep cw_11 ce_11
theorem cw_13 : ∀ k, k < 13 → eqC b G k := nstep cw_12 ce_12
theorem cw_14 : ∀ k, k < 14 → eqC b G k := nstep cw_13 ce_13
theorem cw_15 : ∀ k, k < 15 → eqC b G k := nstep cw_14 ce_14
theorem cw_16 : ∀ k, k < 16 → eqC b G k := nstep cw_15 ce_15
theorem cw_17 : ∀ k, k < 17 → eqC b G k := nstep cw_16 ce_16
theorem cw_18 : ∀ k, k < 18 → eqC b G k := nstep cw_17 ce_17
theorem cw_19 : ∀ k, k < 19 → eqC b G k := nstep cw_18 ce_18
theorem cw_20 : ∀ k, k < 20 → eqC b G k := nstep cw_19 ce_19
theorem cw_21 : ∀ k, k < 21 → eqC b G k := nstep cw_20 ce_20
theorem cw_22 : ∀ k, k < 22 → eqC b G k := nstep cw_21 ce_21
theorem cw_23 : ∀ k, k < 23 → eqC b G k := nstep cw_22 ce_22
theorem cw_24 : ∀ k, k < 24 → eqC b G k := nstep cw_23 ce_23
theorem cw_25 : ∀ k, k < 25 → eqC b G k := nstep cw_24 ce_24
theorem cw_26 : ∀ k, k < 26 → eqC b G k := nstep cw_25 ce_25
theorem cw_27 : ∀ k, k < 27 → eqC b G k := nstep cw_26 ce_26
theorem cw_28 : ∀ k, k < 28 → eqC b G k := nstep cw_27 ce_27
theorem cw_29 : ∀ k, k < 29 → eqC b G k := nstep cw_28 ce_28
theorem cw_30 : ∀ k, k < 30 → eqC b G k := nstep cw_29 ce_29
theorem cw_31 : ∀ k, k < 31 → eqC b G k := nstep cw_30 ce_30
theorem cw_32 : ∀ k, k < 32 → eqC b G k := nstep cw_31 ce_31
theorem cw_33 : ∀ k, k < 33 → eqC b G k := nstep cw_32 ce_32
theorem cw_34 : ∀ k, k < 34 → eqC b G k := nstep cw_33 ce_33
theorem cw_35 : ∀ k, k < 35 → eqC b G k := nstep cw_34 ce_34
theorem cw_36 : ∀ k, k < 36 → eqC b G k := nstep cw_35 ce_35
theorem cw_37 : ∀ k, k < 37 → eqC b G k := nstep cw_36 ce_36
theorem cw_38 : ∀ k, k < 38 → eqC b G k := nstep cw_37 ce_37
theorem cw_39 : ∀ k, k < 39 → eqC b G k := nstep cw_38 ce_38
theorem cw_40 : ∀ k, k < 40 → eqC b G k := nstep cw_39 ce_39
theorem cw_41 : ∀ k, k < 41 → eqC b G k := nstep cw_40 ce_40
theorem cw_42 : ∀ k, k < 42 → eqC b G k := nstep cw_41 ce_41
theorem cw_43 : ∀ k, k < 43 → eqC b G k := nstep cw_42 ce_42
theorem cw_44 : ∀ k, k < 44 → eqC b G k := nstep cw_43 ce_43
theorem cw_45 : ∀ k, k < 45 → eqC b G k := nstep cw_44 ce_44
theorem cw_46 : ∀ k, k < 46 → eqC b G k := nstep cw_45 ce_45
theorem cw_47 : ∀ k, k < 47 → eqC b G k := nstep cw_46 ce_46
theorem cw_48 : ∀ k, k < 48 → eqC b G k := nstep cw_47 ce_47
theorem cw_49 : ∀ k, k < 49 → eqC b G k := nstep cw_48 ce_48
theorem cw_50 : ∀ k, k < 50 → eqC b G k := nstep cw_49 ce_49
theorem cw_51 : ∀ k, k < 51 → eqC b G k := nstep cw_50 ce_50
theorem cw_52 : ∀ k, k < 52 → eqC b G k := nstep cw_51 ce_51
theorem cw_53 : ∀ k, k < 53 → eqC b G k := nstep cw_52 ce_52
theorem cw_54 : ∀ k, k < 54 → eqC b G k := nstep cw_53 ce_53
theorem cw_55 : ∀ k, k < 55 → eqC b G k := nstep cw_54 ce_54
theorem cw_56 : ∀ k, k < 56 → eqC b G k := nstep cw_55 ce_55
theorem cw_57 : ∀ k, k < 57 → eqC b G k := nstep cw_56 ce_56
theorem cw_58 : ∀ k, k < 58 → eqC b G k := nstep cw_57 ce_57
theorem cw_59 : ∀ k, k < 59 → eqC b G k := nstep cw_58 ce_58
theorem cw_60 : ∀ k, k < 60 → eqC b G k := nstep cw_59 ce_59
theorem cw_61 : ∀ k, k < 61 → eqC b G k := nstep cw_60 ce_60
theorem cw_62 : ∀ k, k < 62 → eqC b G k := nstep cw_61 ce_61
theorem cw_63 : ∀ k, k < 63 → eqC b G k := nstep cw_62 ce_62
theorem cw_64 : ∀ k, k < 64 → eqC b G k := nstep cw_63 ce_63
theorem cw_65 : ∀ k, k < 65 → eqC b G k := nstep cw_64 ce_64
theorem cw_66 : ∀ k, k < 66 → eqC b G k := nstep cw_65 ce_65
theorem cw_67 : ∀ k, k < 67 → eqC b G k := nstep cw_66 ce_66
theorem cw_68 : ∀ k, k < 68 → eqC b G k := nstep cw_67 ce_67
theorem cw_69 : ∀ k, k < 69 → eqC b G k := nstep cw_68 ce_68
theorem cw_70 : ∀ k, k < 70 → eqC b G k := nstep cw_69 ce_69
theorem cw_71 : ∀ k, k < 71 → eqC b G k := nstep cw_70 ce_70
theorem cw_72 : ∀ k, k < 72 → eqC b G k := nstep cw_71 ce_71
theorem cw_73 : ∀ k, k < 73 → eqC b G k := nstep cw_72 ce_72
theorem cw_74 : ∀ k, k < 74 → eqC b G k := nstep cw_73 ce_73
theorem cw_75 : ∀ k, k < 75 → eqC b G k := nstep cw_74 ce_74
theorem cw_76 : ∀ k, k < 76 → eqC b G k := nstep cw_75 ce_75
theorem cw_77 : ∀ k, k < 77 → eqC b G k := nstep cw_76 ce_76
theorem cw_78 : ∀ k, k < 78 → eqC b G k := nstep cw_77 ce_77
theorem cw_79 : ∀ k, k < 79 → eqC b G k := nstep cw_78 ce_78
theorem cw_80 : ∀ k, k < 80 → eqC b G k := nstep cw_79 ce_79
theorem cw_81 : ∀ k, k < 81 → eqC b G k := nstep cw_80 ce_80
theorem cw_82 : ∀ k, k < 82 → eqC b G k := nstep cw_81 ce_81
theorem cw_83 : ∀ k, k < 83 → eqC b G k := nstep cw_82 ce_82
theorem cw_84 : ∀ k, k < 84 → eqC b G k := nstep cw_83 ce_83
theorem cw_85 : ∀ k, k < 85 → eqC b G k := nstep cw_84 ce_84
theorem cw_86 : ∀ k, k < 86 → eqC b G k := nstep cw_85 ce_85
theorem cw_87 : ∀ k, k < 87 → eqC b G k := nstep cw_86 ce_86
theorem cw_88 : ∀ k, k < 88 → eqC b G k := nstep cw_87 ce_87
theorem cw_89 : ∀ k, k < 89 → eqC b G k := nstep cw_88 ce_88
theorem cw_90 : ∀ k, k < 90 → eqC b G k := nstep cw_89 ce_89
theorem cw_91 : ∀ k, k < 91 → eqC b G k := nstep cw_90 ce_90
theorem cw_92 : ∀ k, k < 92 → eqC b G k := nstep cw_91 ce_91
theorem cw_93 : ∀ k, k < 93 → eqC b G k := nstep cw_92 ce_92
theorem cw_94 : ∀ k, k < 94 → eqC b G k := nstep cw_93 ce_93
theorem cw_95 : ∀ k, k < 95 → eqC b G k := nstep cw_94 ce_94
theorem cw_96 : ∀ k, k < 96 → eqC b G k := nstep cw_95 ce_95
theorem cw_97 : ∀ k, k < 97 → eqC b G k := nstep cw_96 ce_96
theorem cw_98 : ∀ k, k < 98 → eqC b G k := nstep cw_97 ce_97
theorem cw_99 : ∀ k, k < 99 → eqC b G k := nstep cw_98 ce_98
theorem cw_100 : ∀ k, k < 100 → eqC b G k := nstep cw_99 ce_99
theorem cw_101 : ∀ k, k < 101 → eqC b G k := nstep cw_100 ce_100
theorem cw_102 : ∀ k, k < 102 → eqC b G k := nstep cw_101 ce_101
theorem cw_103 : ∀ k, k < 103 → eqC b G k := nstep cw_102 ce_102
theorem cw_104 : ∀ k, k < 104 → eqC b G k := nstep cw_103 ce_103
theorem cw_105 : ∀ k, k < 105 → eqC b G k := nstep cw_104 ce_104
theorem cw_106 : ∀ k, k < 106 → eqC b G k := nstep cw_105 ce_105
theorem cw_107 : ∀ k, k < 107 → eqC b G k := nstep cw_106 ce_106
theorem cw_108 : ∀ k, k < 108 → eqC b G k := nstep cw_107 ce_107
theorem cw_109 : ∀ k, k < 109 → eqC b G k := nstep cw_108 ce_108
theorem cw_110 : ∀ k, k < 110 → eqC b G k := nstep cw_109 ce_109
theorem cw_111 : ∀ k, k < 111 → eqC b G k := nstep cw_110 ce_110
theorem cw_112 : ∀ k, k < 112 → eqC b G k := nstep cw_111 ce_111
theorem cw_113 : ∀ k, k < 113 → eqC b G k := nstep cw_112 ce_112
theorem cw_114 : ∀ k, k < 114 → eqC b G k := nstep cw_113 ce_113
theorem cw_115 : ∀ k, k < 115 → eqC b G k := nstep cw_114 ce_114
theorem cw_116 : ∀ k, k < 116 → eqC b G k := nstep cw_115 ce_115
theorem cw_117 : ∀ k, k < 117 → eqC b G k := nstep cw_116 ce_116
theorem cw_118 : ∀ k, k < 118 → eqC b G k := nstep cw_117 ce_117
theorem cw_119 : ∀ k, k < 119 → eqC b G k := nstep cw_118 ce_118
theorem cw_120 : ∀ k, k < 120 → eqC b G k := nstep cw_119 ce_119
theorem cw_121 : ∀ k, k < 121 → eqC b G k := nstep cw_120 ce_120
theorem cw_122 : ∀ k, k < 122 → eqC b G k := nstep cw_121 ce_121
theorem cw_123 : ∀ k, k < 123 → eqC b G k := nstep cw_122 ce_122
theorem cw_124 : ∀ k, k < 124 → eqC b G k := nstep cw_123 ce_123
theorem cw_125 : ∀ k, k < 125 → eqC b G k := nstep cw_124 ce_124
theorem cw_126 : ∀ k, k < 126 → eqC b G k := nstep cw_125 ce_125
theorem cw_127 : ∀ k, k < 127 → eqC b G k := nstep cw_126 ce_126
theorem cw_128 : ∀ k, k < 128 → eqC b G k := nstep cw_127 ce_127
theorem cw_129 : ∀ k, k < 129 → eqC b G k := nstep cw_128 ce_128
theorem cw_130 : ∀ k, k < 130 → eqC b G k := nstep cw_129 ce_129
theorem cw_131 : ∀ k, k < 131 → eqC b G k := nstep cw_130 ce_130
theorem cw_132 : ∀ k, k < 132 → eqC b G k := nstep cw_131 ce_131
theorem cw_133 : ∀ k, k < 133 → eqC b G k := nstep cw_132 ce_132
theorem cw_134 : ∀ k, k < 134 → eqC b G k := nstep cw_133 ce_133
theorem cw_135 : ∀ k, k < 135 → eqC b G k := nstep cw_134 ce_134
theorem cw_136 : ∀ k, k < 136 → eqC b G k := nstep cw_135 ce_135
theorem cw_137 : ∀ k, k < 137 → eqC b G k := nstep cw_136 ce_136
theorem cw_138 : ∀ k, k < 138 → eqC b G k := nstep cw_137 ce_137
theorem cw_139 : ∀ k, k < 139 → eqC b G k := nstep cw_138 ce_138
theorem cw_140 : ∀ k, k < 140 → eqC b G k := nstep cw_139 ce_139
theorem cw_141 : ∀ k, k < 141 → eqC b G k := nstep cw_140 ce_140
theorem cw_142 : ∀ k, k < 142 → eqC b G k := nstep cw_141 ce_141
theorem cw_143 : ∀ k, k < 143 → eqC b G k := nstep cw_142 ce_142
theorem cw_144 : ∀ k, k < 144 → eqC b G k := nstep cw_143 ce_143
theorem cw_145 : ∀ k, k < 145 → eqC b G k := nstep cw_144 ce_144
theorem cw_146 : ∀ k, k < 146 → eqC b G k := nstep cw_145 ce_145
theorem cw_147 : ∀ k, k < 147 → eqC b G k := nstep cw_146 ce_146
theorem cw_148 : ∀ k, k < 148 → eqC b G k := nstep cw_147 ce_147
theorem cw_149 : ∀ k, k < 149 → eqC b G k := nstep cw_148 ce_148
theorem cw_150 : ∀ k, k < 150 → eqC b G k := nstep cw_149 ce_149
theorem cw_151 : ∀ k, k < 151 → eqC b G k := nstep cw_150 ce_150
theorem cw_152 : ∀ k, k < 152 → eqC b G k := nstep cw_151 ce_151
theorem cw_153 : ∀ k, k < 153 → eqC b G k := nstep cw_152 ce_152
theorem cw_154 : ∀ k, k < 154 → eqC b G k := nstep cw_153 ce_153
theorem cw_155 : ∀ k, k < 155 → eqC b G k := nstep cw_154 ce_154
theorem cw_156 : ∀ k, k < 156 → eqC b G k := nstep cw_155 ce_155
theorem cw_157 : ∀ k, k < 157 → eqC b G k := nstep cw_156 ce_156
theorem cw_158 : ∀ k, k < 158 → eqC b G k := nstep cw_157 ce_157
theorem cw_159 : ∀ k, k < 159 → eqC b G k := nstep cw_158 ce_158
theorem cw_160 : ∀ k, k < 160 → eqC b G k := nstep cw_159 ce_159
theorem cw_161 : ∀ k, k < 161 → eqC b G k := nstep cw_160 ce_160
theorem cw_162 : ∀ k, k < 162 → eqC b G k := nstep cw_161 ce_161
theorem cw_163 : ∀ k, k < 163 → eqC b G k := nstep cw_162 ce_162
theorem cw_164 : ∀ k, k < 164 → eqC b G k := nstep cw_163 ce_163
theorem cw_165 : ∀ k, k < 165 → eqC b G k := nstep cw_164 ce_164
theorem cw_166 : ∀ k, k < 166 → eqC b G k := nstep cw_165 ce_165
theorem cw_167 : ∀ k, k < 167 → eqC b G k := nstep cw_166 ce_166
theorem cw_168 : ∀ k, k < 168 → eqC b G k := nstep cw_167 ce_167
theorem cw_169 : ∀ k, k < 169 → eqC b G k := nstep cw_168 ce_168
theorem cw_170 : ∀ k, k < 170 → eqC b G k := nstep cw_169 ce_169
theorem cw_171 : ∀ k, k < 171 → eqC b G k := nstep cw_170 ce_170
theorem cw_172 : ∀ k, k < 172 → eqC b G k := nstep cw_171 ce_171
theorem cw_173 : ∀ k, k < 173 → eqC b G k := nstep cw_172 ce_172
theorem cw_174 : ∀ k, k < 174 → eqC b G k := nstep cw_173 ce_173
theorem cw_175 : ∀ k, k < 175 → eqC b G k := nstep cw_174 ce_174
theorem cw_176 : ∀ k, k < 176 → eqC b G k := nstep cw_175 ce_175
theorem cw_177 : ∀ k, k < 177 → eqC b G k := nstep cw_176 ce_176
theorem cw_178 : ∀ k, k < 178 → eqC b G k := nstep cw_177 ce_177
theorem cw_179 : ∀ k, k < 179 → eqC b G k := nstep cw_178 ce_178
theorem cw_180 : ∀ k, k < 180 → eqC b G k := nstep cw_179 ce_179
theorem cw_181 : ∀ k, k < 181 → eqC b G k := nstep cw_180 ce_180
theorem cw_182 : ∀ k, k < 182 → eqC b G k := nstep cw_181 ce_181
theorem cw_183 : ∀ k, k < 183 → eqC b G k := nstep cw_182 ce_182
theorem cw_184 : ∀ k, k < 184 → eqC b G k := nstep cw_183 ce_183
theorem cw_185 : ∀ k, k < 185 → eqC b G k := nstep cw_184 ce_184
theorem cw_186 : ∀ k, k < 186 → eqC b G k := nstep cw_185 ce_185
theorem cw_187 : ∀ k, k < 187 → eqC b G k := nstep cw_186 ce_186
theorem cw_188 : ∀ k, k < 188 → eqC b G k := nstep cw_187 ce_187
theorem cw_189 : ∀ k, k < 189 → eqC b G k := nstep cw_188 ce_188
theorem cw_190 : ∀ k, k < 190 → eqC b G k := nstep cw_189 ce_189
theorem cw_191 : ∀ k, k < 191 → eqC b G k := nstep cw_190 ce_190
theorem cw_192 : ∀ k, k < 192 → eqC b G k := nstep cw_191 ce_191
theorem cw_193 : ∀ k, k < 193 → eqC b G k := nstep cw_192 ce_192
theorem cw_194 : ∀ k, k < 194 → eqC b G k := nstep cw_193 ce_193
theorem cw_195 : ∀ k, k < 195 → eqC b G k := nstep cw_194 ce_194
theorem cw_196 : ∀ k, k < 196 → eqC b G k := nstep cw_195 ce_195
theorem cw_197 : ∀ k, k < 197 → eqC b G k := nstep cw_196 ce_196
theorem cw_198 : ∀ k, k < 198 → eqC b G k := nstep cw_197 ce_197
theorem cw_199 : ∀ k, k < 199 → eqC b G k := nstep cw_198 ce_198
theorem cw_200 : ∀ k, k < 200 → eqC b G k := nstep cw_199 ce_199
theorem cw_201 : ∀ k, k < 201 → eqC b G k := nstep cw_200 ce_200
theorem cw_202 : ∀ k, k < 202 → eqC b G k := nstep cw_201 ce_201
theorem cw_203 : ∀ k, k < 203 → eqC b G k := nstep cw_202 ce_202
theorem cw_204 : ∀ k, k < 204 → eqC b G k := nstep cw_203 ce_203
theorem cw_205 : ∀ k, k < 205 → eqC b G k := nstep cw_204 ce_204
theorem cw_206 : ∀ k, k < 206 → eqC b G k := nstep cw_205 ce_205
theorem cw_207 : ∀ k, k < 207 → eqC b G k := nstep cw_206 ce_206
theorem cw_208 : ∀ k, k < 208 → eqC b G k := nstep cw_207 ce_207
theorem cw_209 : ∀ k, k < 209 → eqC b G k := nstep cw_208 ce_208
theorem cw_210 : ∀ k, k < 210 → eqC b G k := nstep cw_209 ce_209
theorem cw_211 : ∀ k, k < 211 → eqC b G k := nstep cw_210 ce_210
theorem cw_212 : ∀ k, k < 212 → eqC b G k := nstep cw_211 ce_211
theorem cw_213 : ∀ k, k < 213 → eqC b G k := nstep cw_212 ce_212
theorem cw_214 : ∀ k, k < 214 → eqC b G k := nstep cw_213 ce_213
theorem cw_215 : ∀ k, k < 215 → eqC b G k := nstep cw_214 ce_214
theorem cw_216 : ∀ k, k < 216 → eqC b G k := nstep cw_215 ce_215
theorem cw_217 : ∀ k, k < 217 → eqC b G k := nstep cw_216 ce_216
theorem cw_218 : ∀ k, k < 218 → eqC b G k := nstep cw_217 ce_217
theorem cw_219 : ∀ k, k < 219 → eqC b G k := nstep cw_218 ce_218
theorem cw_220 : ∀ k, k < 220 → eqC b G k := nstep cw_219 ce_219
theorem cw_221 : ∀ k, k < 221 → eqC b G k := nstep cw_220 ce_220
theorem cw_222 : ∀ k, k < 222 → eqC b G k := nstep cw_221 ce_221
theorem cw_223 : ∀ k, k < 223 → eqC b G k := nstep cw_222 ce_222
theorem cw_224 : ∀ k, k < 224 → eqC b G k := nstep cw_223 ce_223
theorem cw_225 : ∀ k, k < 225 → eqC b G k := nstep cw_224 ce_224
theorem cw_226 : ∀ k, k < 226 → eqC b G k := nstep cw_225 ce_225
theorem cw_227 : ∀ k, k < 227 → eqC b G k := nstep cw_226 ce_226
theorem cw_228 : ∀ k, k < 228 → eqC b G k := nstep cw_227 ce_227
theorem cw_229 : ∀ k, k < 229 → eqC b G k := nstep cw_228 ce_228
theorem cw_230 : ∀ k, k < 230 → eqC b G k := nstep cw_229 ce_229
theorem cw_231 : ∀ k, k < 231 → eqC b G k := nstep cw_230 ce_230
theorem cw_232 : ∀ k, k < 232 → eqC b G k := nstep cw_231 ce_231
theorem cw_233 : ∀ k, k < 233 → eqC b G k := nstep cw_232 ce_232
theorem cw_234 : ∀ k, k < 234 → eqC b G k := nstep cw_233 ce_233
theorem cw_235 : ∀ k, k < 235 → eqC b G k := nstep cw_234 ce_234
theorem cw_236 : ∀ k, k < 236 → eqC b G k := nstep cw_235 ce_235
theorem cw_237 : ∀ k, k < 237 → eqC b G k := nstep cw_236 ce_236
theorem cw_238 : ∀ k, k < 238 → eqC b G k := nstep cw_237 ce_237
theorem cw_239 : ∀ k, k < 239 → eqC b G k := nstep cw_238 ce_238
theorem cw_240 : ∀ k, k < 240 → eqC b G k := nstep cw_239 ce_239
theorem cw_241 : ∀ k, k < 241 → eqC b G k := nstep cw_240 ce_240
theorem cw_242 : ∀ k, k < 242 → eqC b G k := nstep cw_241 ce_241
theorem cw_243 : ∀ k, k < 243 → eqC b G k := nstep cw_242 ce_242
theorem cw_244 : ∀ k, k < 244 → eqC b G k := nstep cw_243 ce_243
theorem cw_245 : ∀ k, k < 245 → eqC b G k := nstep cw_244 ce_244
end
