/-! the cells that the law makes, by their places behind its start -/
def SH0 : List (Nat × Nat × Nat × List (Nat × Nat)) := [(0, 0, 11, [(2, 1), (2, 4), (2, 28), (2, 52), (2, 76), (2, 100), (2, 201), (2, 212), (2, 213), (2, 217), (2, 220), (2, 223), (0, 0), (0, 0), (0, 0)]), (1, 0, 10, [(2, 2), (0, 0), (0, 0), (0, 0), (0, 0), (0, 0), (1, 0), (2, 3), (0, 0), (0, 0), (0, 0)]), (1, 3, 29, []), (1, 1, 940, []), (4, 0, 9, [(2, 5), (2, 12), (2, 23), (0, 0)]), (5, 0, 5, [(0, 0), (0, 0), (0, 0), (0, 0), (0, 0), (2, 6), (2, 7), (2, 8), (2, 9), (2, 10), (2, 11)]), (5, 2, 6, []), (5, 2, 6, []), (5, 3, 6, []), (5, 2, 8, []), (5, 2, 8, []), (5, 3, 8, []), (12, 0, 8, [(2, 5), (0, 0), (0, 0), (0, 0), (2, 13), (2, 14), (2, 15), (2, 16), (2, 17), (2, 18), (2, 19), (2, 20), (2, 21), (2, 22), (0, 0)]), (12, 2, 12, []), (12, 2, 12, []), (12, 2, 8, []), (12, 2, 8, []), (12, 2, 8, []), (12, 2, 8, []), (12, 2, 8, [])]
def SH1 : List (Nat × Nat × Nat × List (Nat × Nat)) := [(12, 2, 8, []), (12, 2, 8, []), (12, 2, 8, []), (23, 0, 7, [(0, 0), (0, 0), (2, 24), (2, 25), (2, 26), (2, 27), (0, 0)]), (23, 2, 40, []), (23, 2, 40, []), (23, 2, 40, []), (23, 2, 40, []), (28, 0, 9, [(2, 29), (2, 36), (2, 47), (0, 0)]), (29, 0, 5, [(0, 0), (0, 0), (0, 0), (0, 0), (0, 0), (2, 30), (2, 31), (2, 32), (2, 33), (2, 34), (2, 35)]), (29, 2, 6, []), (29, 2, 6, []), (29, 3, 6, []), (29, 2, 8, []), (29, 2, 8, []), (29, 3, 8, []), (36, 0, 8, [(2, 29), (0, 0), (0, 0), (0, 0), (2, 37), (2, 38), (2, 39), (2, 40), (2, 41), (2, 42), (2, 43), (2, 44), (2, 45), (2, 46), (0, 0)]), (36, 2, 12, []), (36, 2, 12, []), (36, 2, 8, [])]
def SH2 : List (Nat × Nat × Nat × List (Nat × Nat)) := [(36, 2, 8, []), (36, 2, 8, []), (36, 2, 8, []), (36, 2, 8, []), (36, 2, 8, []), (36, 2, 8, []), (36, 2, 8, []), (47, 0, 7, [(0, 0), (0, 0), (2, 48), (2, 49), (2, 50), (2, 51), (0, 0)]), (47, 2, 40, []), (47, 2, 40, []), (47, 2, 40, []), (47, 2, 40, []), (52, 0, 9, [(2, 53), (2, 60), (2, 71), (0, 0)]), (53, 0, 5, [(0, 0), (0, 0), (0, 0), (0, 0), (0, 0), (2, 54), (2, 55), (2, 56), (2, 57), (2, 58), (2, 59)]), (53, 2, 6, []), (53, 2, 6, []), (53, 3, 6, []), (53, 2, 8, []), (53, 2, 8, []), (53, 3, 8, [])]
def SH3 : List (Nat × Nat × Nat × List (Nat × Nat)) := [(60, 0, 8, [(2, 53), (0, 0), (0, 0), (0, 0), (2, 61), (2, 62), (2, 63), (2, 64), (2, 65), (2, 66), (2, 67), (2, 68), (2, 69), (2, 70), (0, 0)]), (60, 2, 12, []), (60, 2, 12, []), (60, 2, 8, []), (60, 2, 8, []), (60, 2, 8, []), (60, 2, 8, []), (60, 2, 8, []), (60, 2, 8, []), (60, 2, 8, []), (60, 2, 8, []), (71, 0, 7, [(0, 0), (0, 0), (2, 72), (2, 73), (2, 74), (2, 75), (0, 0)]), (71, 2, 40, []), (71, 2, 40, []), (71, 2, 40, []), (71, 2, 40, []), (76, 0, 9, [(2, 77), (2, 84), (2, 95), (0, 0)]), (77, 0, 5, [(0, 0), (0, 0), (0, 0), (0, 0), (0, 0), (2, 78), (2, 79), (2, 80), (2, 81), (2, 82), (2, 83)]), (77, 2, 6, []), (77, 2, 6, [])]
def SH4 : List (Nat × Nat × Nat × List (Nat × Nat)) := [(77, 3, 6, []), (77, 2, 8, []), (77, 2, 8, []), (77, 3, 8, []), (84, 0, 8, [(2, 77), (0, 0), (0, 0), (0, 0), (2, 85), (2, 86), (2, 87), (2, 88), (2, 89), (2, 90), (2, 91), (2, 92), (2, 93), (2, 94), (0, 0)]), (84, 2, 12, []), (84, 2, 12, []), (84, 2, 8, []), (84, 2, 8, []), (84, 2, 8, []), (84, 2, 8, []), (84, 2, 8, []), (84, 2, 8, []), (84, 2, 8, []), (84, 2, 8, []), (95, 0, 7, [(0, 0), (0, 0), (2, 96), (2, 97), (2, 98), (2, 99), (0, 0)]), (95, 2, 40, []), (95, 2, 40, []), (95, 2, 40, []), (95, 2, 40, [])]
def SH5 : List (Nat × Nat × Nat × List (Nat × Nat)) := [(100, 0, 4, [(2, 101), (0, 0), (0, 0)]), (100, 5, 9, []), (102, 0, 8, [(2, 5), (0, 0), (0, 0), (0, 0), (2, 103), (2, 104), (2, 105), (2, 106), (2, 107), (2, 108), (2, 109), (2, 110), (2, 111), (2, 112), (0, 0)]), (102, 2, 12, []), (102, 2, 12, []), (102, 2, 8, []), (102, 2, 8, []), (102, 2, 8, []), (102, 2, 8, []), (102, 2, 8, []), (102, 2, 8, []), (102, 2, 8, []), (102, 2, 8, []), (113, 0, 8, [(2, 5), (0, 0), (0, 0), (0, 0), (2, 114), (2, 115), (2, 116), (2, 117), (2, 118), (2, 119), (2, 120), (2, 121), (2, 122), (2, 123), (0, 0)]), (113, 2, 12, []), (113, 2, 12, []), (113, 2, 8, []), (113, 2, 8, []), (113, 2, 8, []), (113, 2, 8, [])]
def SH6 : List (Nat × Nat × Nat × List (Nat × Nat)) := [(113, 2, 8, []), (113, 2, 8, []), (113, 2, 8, []), (113, 2, 8, []), (124, 0, 8, [(2, 5), (0, 0), (0, 0), (0, 0), (2, 125), (2, 126), (2, 127), (2, 128), (2, 129), (2, 130), (2, 131), (2, 132), (2, 133), (2, 134), (0, 0)]), (124, 2, 12, []), (124, 2, 12, []), (124, 2, 8, []), (124, 2, 8, []), (124, 2, 8, []), (124, 2, 8, []), (124, 2, 8, []), (124, 2, 8, []), (124, 2, 8, []), (124, 2, 8, []), (135, 0, 8, [(2, 5), (0, 0), (0, 0), (0, 0), (2, 136), (2, 137), (2, 138), (2, 139), (2, 140), (2, 141), (2, 142), (2, 143), (2, 144), (2, 145), (0, 0)]), (135, 2, 12, []), (135, 2, 12, []), (135, 2, 8, []), (135, 2, 8, [])]
def SH7 : List (Nat × Nat × Nat × List (Nat × Nat)) := [(135, 2, 8, []), (135, 2, 8, []), (135, 2, 8, []), (135, 2, 8, []), (135, 2, 8, []), (135, 2, 8, []), (146, 0, 8, [(2, 5), (0, 0), (0, 0), (0, 0), (2, 147), (2, 148), (2, 149), (2, 150), (2, 151), (2, 152), (2, 153), (2, 154), (2, 155), (2, 156), (0, 0)]), (146, 2, 12, []), (146, 2, 12, []), (146, 2, 8, []), (146, 2, 8, []), (146, 2, 8, []), (146, 2, 8, []), (146, 2, 8, []), (146, 2, 8, []), (146, 2, 8, []), (146, 2, 8, []), (157, 0, 8, [(2, 5), (0, 0), (0, 0), (0, 0), (2, 158), (2, 159), (2, 160), (2, 161), (2, 162), (2, 163), (2, 164), (2, 165), (2, 166), (2, 167), (0, 0)]), (157, 2, 12, []), (157, 2, 12, [])]
def SH8 : List (Nat × Nat × Nat × List (Nat × Nat)) := [(157, 2, 8, []), (157, 2, 8, []), (157, 2, 8, []), (157, 2, 8, []), (157, 2, 8, []), (157, 2, 8, []), (157, 2, 8, []), (157, 2, 8, []), (168, 0, 8, [(2, 5), (0, 0), (0, 0), (0, 0), (2, 169), (2, 170), (2, 171), (2, 172), (2, 173), (2, 174), (2, 175), (2, 176), (2, 177), (2, 178), (0, 0)]), (168, 2, 12, []), (168, 2, 12, []), (168, 2, 8, []), (168, 2, 8, []), (168, 2, 8, []), (168, 2, 8, []), (168, 2, 8, []), (168, 2, 8, []), (168, 2, 8, []), (168, 2, 8, []), (179, 0, 8, [(2, 5), (0, 0), (0, 0), (0, 0), (2, 180), (2, 181), (2, 182), (2, 183), (2, 184), (2, 185), (2, 186), (2, 187), (2, 188), (2, 189), (0, 0)])]
def SH9 : List (Nat × Nat × Nat × List (Nat × Nat)) := [(179, 2, 12, []), (179, 2, 12, []), (179, 2, 8, []), (179, 2, 8, []), (179, 2, 8, []), (179, 2, 8, []), (179, 2, 8, []), (179, 2, 8, []), (179, 2, 8, []), (179, 2, 8, []), (190, 0, 8, [(2, 5), (0, 0), (0, 0), (0, 0), (2, 191), (2, 192), (2, 193), (2, 194), (2, 195), (2, 196), (2, 197), (2, 198), (2, 199), (2, 200), (0, 0)]), (190, 2, 12, []), (190, 2, 12, []), (190, 2, 8, []), (190, 2, 8, []), (190, 2, 8, []), (190, 2, 8, []), (190, 2, 8, []), (190, 2, 8, []), (190, 2, 8, [])]
def SH10 : List (Nat × Nat × Nat × List (Nat × Nat)) := [(190, 2, 8, []), (201, 0, 8, [(2, 5), (0, 0), (0, 0), (0, 0), (2, 202), (2, 203), (2, 204), (2, 205), (2, 206), (2, 207), (2, 208), (2, 209), (2, 210), (2, 211), (0, 0)]), (201, 2, 12, []), (201, 2, 12, []), (201, 2, 8, []), (201, 2, 8, []), (201, 2, 8, []), (201, 2, 8, []), (201, 2, 8, []), (201, 2, 8, []), (201, 2, 8, []), (201, 2, 8, []), (212, 0, 6, [(2, 1), (2, 29), (2, 36), (0, 0), (0, 0), (0, 0)]), (213, 0, 0, [(0, 0), (0, 0), (2, 1), (2, 5), (2, 214), (2, 215), (2, 216), (0, 0), (0, 0), (0, 0), (0, 0)]), (213, 2, 40, []), (213, 2, 40, []), (213, 2, 40, []), (217, 0, 3, [(2, 218), (2, 219)]), (217, 4, 256, []), (217, 2, 8, [])]
def SH11 : List (Nat × Nat × Nat × List (Nat × Nat)) := [(220, 0, 1, [(2, 221), (2, 222), (0, 0)]), (220, 2, 8, []), (220, 2, 8, []), (223, 0, 2, [(0, 0), (2, 224), (2, 2)]), (223, 1, 32, []), (225, 0, 12, [(0, 0), (2, 226), (0, 0), (0, 0), (0, 0), (0, 0), (2, 227), (2, 228), (2, 229), (2, 230), (2, 231), (0, 0), (0, 0), (0, 0), (0, 0), (0, 0), (0, 0), (1, 0), (0, 0), (0, 0), (0, 0), (2, 232), (2, 233), (0, 0), (0, 0), (0, 0), (2, 234), (2, 235), (2, 236), (0, 0), (0, 0), (0, 0), (2, 237), (0, 0), (0, 0), (0, 0), (2, 238), (0, 0), (2, 239), (0, 0), (0, 0), (0, 0), (0, 0), (0, 0), (2, 240), (2, 241), (2, 242), (2, 243)]), (225, 1, 940, []), (225, 2, 342, []), (225, 2, 69, []), (225, 2, 135, []), (225, 3, 28, []), (225, 3, 29, []), (225, 2, 736, []), (225, 2, 92, []), (225, 4, 256, []), (225, 2, 8, []), (225, 2, 8, []), (225, 1, 40, []), (225, 2, 4, []), (225, 2, 45, [])]
def SH12 : List (Nat × Nat × Nat × List (Nat × Nat)) := [(225, 4, 45, []), (225, 2, 684, []), (225, 3, 28, []), (225, 4, 2, []), (244, 3, 1, [])]
def SH : List (Nat × Nat × Nat × List (Nat × Nat)) := SH0 ++ (SH1 ++ (SH2 ++ (SH3 ++ (SH4 ++ (SH5 ++ (SH6 ++ (SH7 ++ (SH8 ++ (SH9 ++ (SH10 ++ (SH11 ++ (SH12))))))))))))

def shp (k : Nat) : Nat × Nat × Nat × List (Nat × Nat) := SH.getD k (0, 9, 0, [])
def NC : Nat := 245
def mkF (b : Nat) (x : Obj) : List (Nat × Nat) → Nat → List Value
  | [], _ => []
  | t :: ks, k => (if t.1 = 0 then Value.int (x.1 0 k) else if t.1 = 1 then Value.long (x.2 0 k) else Value.ref (b + t.2)) :: mkF b x ks (k + 1)
def mkC (b : Nat) (cy : Nat → ClassId) (x : Obj) (j t n : Nat) (ks : List (Nat × Nat)) : va_E :=
  if t = 0 then .inr (n, mkF b x ks 0) else if t = 3 then .inl (cy 3, n, .inr (.inl (x.2 j)))
  else if t = 5 then .inl (cy 5, n, .inr (.inr (.inr (.inr (fun i => some (b + (102 + 11 * i))))))) else .inl (cy t, n, .inl (x.1 j))
def cell (b : Nat) (cy : Nat → ClassId) (M : Nat → Obj) (k : Nat) : va_E := mkC b cy (M (shp k).1) (k - (shp k).1) (shp k).2.1 (shp k).2.2.1 (shp k).2.2.2
def wsF (b : Nat) (cf : Nat → va_E) : va_W := (List.range NC).map (fun k => (b + k, cf k))
def tysOf (cy : Nat → ClassId) : List (ClassId × FieldType) := [(cy 1, .byte), (cy 2, .int), (cy 3, .long), (cy 4, .boolean), (cy 5, .object RX8)]
def Wd (D : va_G) (cy : Nat → ClassId) (b : Nat) (M : Nat → Obj) (H : Heap) : Prop := va_P D vwCl (wsF b (cell b cy M)) H
theorem wsF_get {b k : Nat} {cf : Nat → va_E} (h : k < NC) : (wsF b cf)[k]? = some (b + k, cf k) := by
  unfold wsF
  rw [List.getElem?_map, List.getElem?_range h]
  rfl
theorem wsF_at {b k : Nat} {cf : Nat → va_E} {q : Nat × va_E} (h : (wsF b cf)[k]? = some q) : k < NC ∧ q = (b + k, cf k) := by
  have hk : k < NC := by
    have := (List.getElem?_eq_some_iff.mp h).1
    simpa [wsF] using this
  rw [wsF_get hk] at h
  exact ⟨hk, (Option.some.inj h).symm⟩
theorem wsF_set {b k : Nat} {cf : Nat → va_E} {e : va_E} (h : k < NC) : (wsF b cf).set k (b + k, e) = wsF b (va_up cf k e) := by
  apply List.ext_getElem?
  intro i
  by_cases hi : i < NC
  · rw [wsF_get hi]
    by_cases hik : i = k
    · subst hik
      rw [List.getElem?_set_self (by simpa [wsF] using hi), va_up_self]
    · rw [List.getElem?_set_ne (Ne.symm hik), wsF_get hi, va_up_ne _ _ hik]
  · have e1 : ((wsF b cf).set k (b + k, e))[i]? = none := by
      rw [List.getElem?_eq_none_iff]
      simpa [wsF] using Nat.le_of_not_lt hi
    have e2 : (wsF b (va_up cf k e))[i]? = none := by
      rw [List.getElem?_eq_none_iff]
      simpa [wsF] using Nat.le_of_not_lt hi
    rw [e1, e2]
theorem wsF_D {b : Nat} {cf : Nat → va_E} : va_D (fun q => b ≤ q) (wsF b cf) := by
  refine ⟨fun i j x y hi hj hxy => ?_, fun k q hk => ?_⟩
  · obtain ⟨-, rfl⟩ := wsF_at hi
    obtain ⟨-, rfl⟩ := wsF_at hj
    have : b + i = b + j := hxy
    omega
  · obtain ⟨-, rfl⟩ := wsF_at hk
    exact Nat.le_add_right b k
theorem shp_big {q : Nat} (h : NC ≤ q) : shp q = (0, 9, 0, []) := by
  unfold shp
  have e : SH.length = 245 := by decide +kernel
  rw [List.getD_eq_getElem?_getD, List.getElem?_eq_none_iff.mpr (by rw [e]; exact h)]
  rfl
theorem shp_all : ∀ q, q < NC → ((shp q).2.1 = 0 → (shp q).1 = q) ∧ (shp q).1 ≤ q := by decide +kernel
theorem shp_0 (q : Nat) (h : (shp q).2.1 = 0) : (shp q).1 = q := by
  by_cases hq : q < NC
  · exact (shp_all q hq).1 h
  · rw [shp_big (Nat.le_of_not_lt hq)] at h
    exact absurd h (by decide)
theorem shp_le (q : Nat) : (shp q).1 ≤ q := by
  by_cases hq : q < NC
  · exact (shp_all q hq).2
  · rw [shp_big (Nat.le_of_not_lt hq)]
    exact Nat.zero_le q
theorem shp_lt {q : Nat} {o t n : Nat} {ks : List (Nat × Nat)} (h : shp q = (o, t, n, ks)) (ht : t ≠ 9) : q < NC := by
  apply Nat.lt_of_not_le
  intro hq
  rw [shp_big hq] at h
  exact ht (congrArg (fun z => z.2.1) h).symm
theorem mkF_eq {b : Nat} {x y : Obj} (h1 : x.1 0 = y.1 0) (h2 : x.2 0 = y.2 0) : ∀ (ks : List (Nat × Nat)) (k : Nat), mkF b x ks k = mkF b y ks k
  | [], _ => rfl
  | t :: ks, k => by
    unfold mkF
    rw [h1, h2, mkF_eq h1 h2 ks (k + 1)]
theorem mkC_eq {b : Nat} {cy : Nat → ClassId} {x y : Obj} {j t n : Nat} {ks : List (Nat × Nat)} (h1 : x.1 j = y.1 j) (h2 : x.2 j = y.2 j) (ht : t = 0 → j = 0) : mkC b cy x j t n ks = mkC b cy y j t n ks := by
  unfold mkC
  by_cases h0 : t = 0
  · have hj := ht h0
    subst hj
    rw [if_pos h0, if_pos h0, mkF_eq h1 h2]
  · rw [if_neg h0, if_neg h0, h1, h2]
/-- a cell written: the object's component j is another, all else stays -/
theorem cell_upd {b : Nat} {cy : Nat → ClassId} {M : Nat → Obj} {a o j : Nat} {s s' : Obj} {e : va_E} (ho : (shp a).1 = o) (hj : a = o + j) (hM : M o = s)
    (he : mkC b cy s' j (shp a).2.1 (shp a).2.2.1 (shp a).2.2.2 = e) (h1 : ∀ i, i ≠ j → s'.1 i = s.1 i) (h2 : ∀ i, i ≠ j → s'.2 i = s.2 i) : va_up (cell b cy M) a e = cell b cy (va_up M o s') := by
  funext q
  by_cases hq : q = a
  · subst hq
    rw [va_up_self, ← he]
    unfold cell
    rw [ho, va_up_self]
    congr 1
    omega
  · rw [va_up_ne _ _ hq]
    unfold cell
    by_cases hqo : (shp q).1 = o
    · have hle := shp_le q
      rw [hqo] at hle
      have hne : q - o ≠ j := by omega
      rw [hqo, hM, va_up_self]
      refine (mkC_eq (h1 _ hne).symm (h2 _ hne).symm (fun h => ?_))
      have := shp_0 q h
      omega
    · rw [va_up_ne _ _ hqo]
theorem mkF_get {b : Nat} {x : Obj} : ∀ (ks : List (Nat × Nat)) (k0 k : Nat) {t : Nat × Nat}, ks[k]? = some t → (mkF b x ks k0)[k]? = some (if t.1 = 0 then Value.int (x.1 0 (k0 + k)) else if t.1 = 1 then Value.long (x.2 0 (k0 + k)) else Value.ref (b + t.2))
  | [], _, _, _, h => by simp at h
  | t :: ks, k0, 0, t', h => by
    rw [List.getElem?_cons_zero] at h
    cases h
    rfl
  | t :: ks, k0, k + 1, t', h => by
    rw [List.getElem?_cons_succ] at h
    unfold mkF
    rw [List.getElem?_cons_succ, mkF_get ks (k0 + 1) k h]
    rw [show k0 + 1 + k = k0 + (k + 1) by omega]
theorem mkF_skip {b : Nat} {x y : Obj} {k1 : Nat} (h1 : ∀ k, k ≠ k1 → x.1 0 k = y.1 0 k) (h2 : ∀ k, k ≠ k1 → x.2 0 k = y.2 0 k) : ∀ (ks : List (Nat × Nat)) (k : Nat), k1 < k → mkF b x ks k = mkF b y ks k
  | [], _, _ => rfl
  | t :: ks, k, h => by
    unfold mkF
    rw [h1 k (by omega), h2 k (by omega), mkF_skip h1 h2 ks (k + 1) (by omega)]
theorem mkF_set {b : Nat} {x y : Obj} {v : Value} : ∀ (ks : List (Nat × Nat)) (k0 k : Nat) {t : Nat × Nat}, ks[k]? = some t → (if t.1 = 0 then Value.int (x.1 0 (k0 + k)) else if t.1 = 1 then Value.long (x.2 0 (k0 + k)) else Value.ref (b + t.2)) = v → (∀ i, i ≠ k0 + k → x.1 0 i = y.1 0 i) → (∀ i, i ≠ k0 + k → x.2 0 i = y.2 0 i) → mkF b x ks k0 = (mkF b y ks k0).set k v
  | [], _, _, _, h, _, _, _ => by simp at h
  | t :: ks, k0, 0, t', h, hv, h1, h2 => by
    rw [List.getElem?_cons_zero] at h
    cases h
    unfold mkF
    rw [List.set_cons_zero, ← hv, mkF_skip (k1 := k0) h1 h2 ks (k0 + 1) (by omega)]
    rfl
  | t :: ks, k0, k + 1, t', h, hv, h1, h2 => by
    rw [List.getElem?_cons_succ] at h
    unfold mkF
    have e : k0 + 1 + k = k0 + (k + 1) := by omega
    have ih := mkF_set (v := v) ks (k0 + 1) k h (by rw [e]; exact hv) (fun i hi => h1 i (by omega)) (fun i hi => h2 i (by omega))
    rw [List.set_cons_succ, h1 k0 (by omega), h2 k0 (by omega), ih]
theorem mkF_len {b : Nat} {x : Obj} : ∀ (ks : List (Nat × Nat)) (k : Nat), (mkF b x ks k).length = ks.length
  | [], _ => rfl
  | t :: ks, k => by
    unfold mkF
    rw [List.length_cons, List.length_cons, mkF_len ks (k + 1)]
/-! two memories side by side: the class's objects and all behind them -/
def mx (A B : Nat → Obj) : Nat → Obj := fun o => if o < 225 then A o else B o
theorem mx_l {A B : Nat → Obj} {i : Nat} {t : Obj} (h : i < 225) (e : A i = t) : mx A B i = t := by rw [← e]; exact if_pos h
theorem mx_r {A B : Nat → Obj} {i : Nat} {t : Obj} (h : ¬ i < 225) (e : B i = t) : mx A B i = t := by rw [← e]; exact if_neg h
theorem mx_ul {A B : Nat → Obj} {i : Nat} (s : Obj) (h : i < 225) : va_up (mx A B) i s = mx (va_up A i s) B := by
  funext q
  by_cases hq : q = i
  · subst hq
    rw [va_up_self]
    exact (mx_l h (va_up_self _ _ _)).symm
  · rw [va_up_ne _ _ hq]
    by_cases hl : q < 225
    · exact (if_pos hl).trans (((if_pos hl).trans (va_up_ne _ _ hq)).symm)
    · exact (if_neg hl).trans (if_neg hl).symm
theorem mx_ur {A B : Nat → Obj} {i : Nat} (s : Obj) (h : ¬ i < 225) : va_up (mx A B) i s = mx A (va_up B i s) := by
  funext q
  by_cases hq : q = i
  · subst hq
    rw [va_up_self]
    exact (mx_r h (va_up_self _ _ _)).symm
  · rw [va_up_ne _ _ hq]
    by_cases hl : q < 225
    · exact (if_pos hl).trans (if_pos hl).symm
    · exact (if_neg hl).trans (((if_neg hl).trans (va_up_ne _ _ hq)).symm)
theorem up_up {α : Type} (A : Nat → α) (i : Nat) (s t : α) : va_up (va_up A i s) i t = va_up A i t := by
  funext q
  by_cases hq : q = i
  · subst hq; rw [va_up_self, va_up_self]
  · rw [va_up_ne _ _ hq, va_up_ne _ _ hq, va_up_ne _ _ hq]
theorem up_co {α : Type} (A : Nat → α) {i j : Nat} (s t : α) (h : i ≠ j) : va_up (va_up A i s) j t = va_up (va_up A j t) i s := by
  funext q
  by_cases hq : q = j
  · subst hq; rw [va_up_self, va_up_ne _ _ (Ne.symm h), va_up_self]
  · rw [va_up_ne _ _ hq]
    by_cases hi : q = i
    · subst hi; rw [va_up_self, va_up_self]
    · rw [va_up_ne _ _ hi, va_up_ne _ _ hi, va_up_ne _ _ hq]
theorem up_eta {α : Type} (A : Nat → α) (i : Nat) : va_up A i (A i) = A := by
  funext q
  by_cases hq : q = i
  · subst hq; rw [va_up_self]
  · rw [va_up_ne _ _ hq]
/-! the tables' words that last -/
def Tg : List Cond := lw_tbl.filter goodWord
theorem tg {w : Cond} (i : Nat) (h : lw_tbl[i]? = some w) (hg : goodWord w = true) : w ∈ Tg := List.mem_filter.mpr ⟨List.mem_of_getElem? h, hg⟩
theorem tg_in : GoodIn Tg Tg := fun w h => ⟨h, good_of_word (List.mem_filter.mp h).2⟩
def Tn : List Cond := lw_tbl.filter (fun w => match w with | .methodLinkNest _ _ _ _ => true | _ => false)
theorem tn {a : String} {i : Nat} {x : MethodName} {h : String} (k : Nat) (e : lw_tbl[k]? = some (.methodLinkNest a i x h)) : Cond.methodLinkNest a i x h ∈ Tn := List.mem_filter.mpr ⟨List.mem_of_getElem? e, rfl⟩
theorem tn_form {w : Cond} (h : w ∈ Tn) : ∃ a i x z, w = .methodLinkNest a i x z := by
  have h2 := (List.mem_filter.mp h).2
  cases w <;> first | exact ⟨_, _, _, _, rfl⟩ | exact absurd h2 (by simp)
abbrev Gx : Type := va_G × (Nat → ClassId)
/-! what lies in the heap ahead of the law's start: String constants, statics -/
def lenS : List Nat := [70, 28, 63, 4, 1, 11, 4]
def bytS : List (List Int32) := [[108, 97, 110, 101, 32, 104, 111, 117, 115, 101, 32, 112, 101, 114, 115, 111, 110, 32, 116, 114, 97, 109, 112, 32, 107, 110, 111, 119, 115, 32, 99, 97, 108, 108, 115, 32, 101, 97, 114, 32, 115, 116, 97, 121, 32, 117, 112, 32, 100, 111, 119, 110, 32, 115, 116, 97, 110, 100, 115, 32, 107, 105, 110, 100, 32, 115, 116, 101, 114, 110], [107, 110, 111, 99, 107, 115, 32, 103, 111, 101, 115, 32, 113, 117, 105, 116, 115, 32, 109, 101, 101, 116, 115, 32, 116, 105, 99, 107], [111, 114, 32, 97, 110, 100, 32, 110, 111, 116, 32, 119, 97, 108, 107, 105, 110, 103, 32, 107, 110, 111, 99, 107, 105, 110, 103, 32, 105, 110, 115, 105, 100, 101, 32, 111, 102, 32, 112, 108, 97, 99, 101, 32, 107, 110, 111, 119, 110, 32, 119, 97, 105, 116, 101, 100, 32, 110, 117, 109, 98, 101, 114], [32, 97, 116, 32], [32], [32, 107, 110, 111, 99, 107, 115, 32, 97, 116, 32], [32, 105, 110, 32]]
def refS : List (String × Nat × String) := [("KnockLane$Tape", 23, "lane house person tramp knows calls ear stay up down stands kind stern"), ("KnockLane$Tape", 29, "knocks goes quits meets tick"), ("KnockLane$Tape", 31, "or and not walking knocking inside of place known waited number"), ("KnockLane$Label", 43, " at "), ("KnockLane$Label", 57, " "), ("KnockLane$Label", 65, " knocks at "), ("KnockLane$Label", 67, " in ")]
abbrev aS (G : Gx) : Nat → Nat := fun i => G.2 (10 + i)
abbrev aV (G : Gx) : Nat → Nat := fun i => G.2 (20 + i)
def SV (G : Gx) (b : Nat) (U : State) (H : Heap) : Prop :=
  vk_S 7 lenS bytS (aS G) (aV G) (fun q => b ≤ q) U H ∧ (∀ (i : Nat) (q : String × Nat × String), refS[i]? = some q → vk_R q.1 q.2.1 q.2.2 (aS G i) U) ∧
  va_Z "java/lang/String" "COMPACT_STRINGS" "Z" (.int 1) (fun q => b ≤ q) U H ∧ va_Zq "jdk/internal/util/Preconditions" "SIOOBE_FORMATTER" "Ljava/util/function/BiFunction;" (fun q => b ≤ q) U H ∧
  vx_Zq "java/lang/Throwable" "UNASSIGNED_STACK" "[Ljava/lang/StackTraceElement;" (fun q => b ≤ q) U H ∧ vx_Zq "java/lang/Throwable" "SUPPRESSED_SENTINEL" "Ljava/util/List;" (fun q => b ≤ q) U H ∧ va_AO RX8 U
theorem SV.moved {G : Gx} {b : Nat} {u U : State} {H : Heap} (hW : u.WarmedH U.vm) (h : SV G b u H) : SV G b U H :=
  ⟨vk_S.moved hW.alike h.1, fun i q hq => vk_R.warm hW (h.2.1 i q hq), va_Z.moved hW.alike h.2.2.1, va_Zq.moved hW.alike h.2.2.2.1, vx_Zq.moved hW.alike h.2.2.2.2.1, vx_Zq.moved hW.alike h.2.2.2.2.2.1, va_AO.moved hW.alike h.2.2.2.2.2.2⟩
theorem SV.same {G : Gx} {b : Nat} {u U : State} {H : Heap} (hv : u.vm = U.vm) (h : SV G b u H) : SV G b U H := by
  have ha : u.vm.Alike U.vm := by rw [← hv]; exact Vm.Alike.refl u.vm
  exact ⟨vk_S.moved ha h.1, fun i q hq => vk_R.same hv.symm (h.2.1 i q hq), va_Z.moved ha h.2.2.1, va_Zq.moved ha h.2.2.2.1, vx_Zq.moved ha h.2.2.2.2.1, vx_Zq.moved ha h.2.2.2.2.2.1, va_AO.moved ha h.2.2.2.2.2.2⟩
theorem SV.kept {G : Gx} {b : Nat} {U : State} {H H1 : Heap} (h : SV G b U H) (hq : ∀ a : Nat, a < H.size → ¬ b ≤ a → H1[a]? = H[a]?) : SV G b U H1 :=
  ⟨vk_S.kept h.1 hq, h.2.1, va_Z.kept h.2.2.1 hq, va_Zq.kept h.2.2.2.1 hq, vx_Zq.kept h.2.2.2.2.1 hq, vx_Zq.kept h.2.2.2.2.2.1 hq, h.2.2.2.2.2.2⟩
def EV (G : Gx) (b : Nat) (U : State) : Prop := va_K G.1 vwCl (tysOf G.2) U ∧ (∀ w ∈ Tn, va_Nw w U) ∧ SV G b U U.heap
theorem EV.moved {G : Gx} {b : Nat} {u U : State} {locs : List Loc} (hW : u.WarmedH U.vm) (hS : va_S (fun q => b ≤ q) u.heap U.heap locs) (h : EV G b u) : EV G b U :=
  ⟨va_K.moved hW.alike h.1, fun w hw => by obtain ⟨a, i, x, z, rfl⟩ := tn_form hw; exact va_Nw.warmM hW (h.2.1 _ hw), (h.2.2.kept (fun a h1 h2 => hS.2.1 a h1 h2)).moved hW⟩
theorem EV.same {G : Gx} {b : Nat} {u U : State} (hv : u.vm = U.vm) (hh : u.heap = U.heap) (h : EV G b u) : EV G b U :=
  ⟨va_K.moved (by rw [← hv]; exact Vm.Alike.refl u.vm) h.1, fun w hw => by obtain ⟨a, i, x, z, rfl⟩ := tn_form hw; exact va_Nw.same rfl hv (h.2.1 _ hw), by rw [← hh]; exact h.2.2.same hv⟩
/-! where a method's walk stands -/
abbrev Cx : Type := Program × Launch × Env × Room × State × MethodId × Array Value × List Frame × Method × Code
def lvp : Nat → List (Option Value) → List (Nat × Value)
  | _, [] => []
  | k, none :: l => lvp (k + 1) l
  | k, some v :: l => (k, v) :: lvp (k + 1) l
theorem lvp_mem : ∀ (l : List (Option Value)) (k : Nat) (q : Nat × Value), q ∈ lvp k l ↔ ∃ i, q.1 = k + i ∧ l[i]? = some (some q.2)
  | [], k, q => by simp [lvp]
  | none :: l, k, q => by
    unfold lvp
    rw [lvp_mem l (k + 1) q]
    constructor
    · rintro ⟨i, h1, h2⟩
      exact ⟨i + 1, by omega, by rw [List.getElem?_cons_succ]; exact h2⟩
    · rintro ⟨i, h1, h2⟩
      cases i with
      | zero => rw [List.getElem?_cons_zero] at h2; cases h2
      | succ i => exact ⟨i, by omega, by rw [List.getElem?_cons_succ] at h2; exact h2⟩
  | some v :: l, k, q => by
    unfold lvp
    rw [List.mem_cons, lvp_mem l (k + 1) q]
    constructor
    · rintro (rfl | ⟨i, h1, h2⟩)
      · exact ⟨0, rfl, rfl⟩
      · exact ⟨i + 1, by omega, by rw [List.getElem?_cons_succ]; exact h2⟩
    · rintro ⟨i, h1, h2⟩
      cases i with
      | zero =>
        rw [List.getElem?_cons_zero] at h2
        cases h2
        left
        obtain ⟨q1, q2⟩ := q
        simp only at h1 ⊢
        rw [h1]
        rfl
      | succ i => exact Or.inr ⟨i, by omega, by rw [List.getElem?_cons_succ] at h2; exact h2⟩
def lvs (ls : Array Slot) (nL : Nat) (lv : List (Option Value)) : Prop := lv_has ls nL (lvp 0 lv)
theorem lvs.at {ls : Array Slot} {nL : Nat} {lv : List (Option Value)} (h : lvs ls nL lv) {i : Nat} {v : Value} (hv : lv[i]? = some (some v)) : ls[i]? = some (.val v) :=
  h.2.2 (i, v) ((lvp_mem lv 0 (i, v)).mpr ⟨i, by simp, hv⟩)
theorem lvs.mono {ls : Array Slot} {nL : Nat} {lv lv' : List (Option Value)} (h : lvs ls nL lv) (hs : ∀ (i : Nat) (v : Value), lv'[i]? = some (some v) → lv[i]? = some (some v)) : lvs ls nL lv' := by
  refine ⟨h.1, h.2.1, fun q hq => ?_⟩
  obtain ⟨i, h1, h2⟩ := (lvp_mem lv' 0 q).mp hq
  rw [show q.1 = i by omega]
  exact h.at (hs i _ h2)
/-- what stays of the locals behind a store of one slot -/
def sOK (lv : List (Option Value)) (i : Nat) : Bool := match i with
  | 0 => true
  | j + 1 => match lv[j]? with
    | some (some (.long _)) => false
    | some (some (.double _)) => false
    | _ => true
theorem sOK_spec {lv : List (Option Value)} {i j : Nat} {w : Value} (h : sOK lv i = true) (hj : j + 1 = i) (hw : lv[j]? = some (some w)) : ¬ w.category = 2 := by
  subst hj
  simp only [sOK, hw] at h
  cases w <;> first | exact absurd h Bool.false_ne_true | (simp [Value.category]; done)
theorem lvs.put {ls : Array Slot} {nL : Nat} {lv : List (Option Value)} {i : Nat} {v : Value} (hs : sOK lv i = true) (h : lv_has ls nL ((i, v) :: (lvp 0 lv).filter (fun q => !(q.1 == i) && !(q.1 + 1 == i && q.2.category == 2)))) : lvs ls nL (lv.set i (some v)) := by
  refine ⟨h.1, h.2.1, fun q hq => ?_⟩
  obtain ⟨j, h1, h2⟩ := (lvp_mem _ 0 q).mp hq
  have hj : q.1 = j := by omega
  by_cases hji : j = i
  · subst hji
    rw [List.getElem?_set] at h2
    simp only [if_true] at h2
    split at h2
    · have : v = q.2 := Option.some.inj (Option.some.inj h2)
      rw [hj, ← this]
      exact h.2.2 (j, v) List.mem_cons_self
    · cases h2
  · rw [List.getElem?_set_ne (Ne.symm hji)] at h2
    refine h.2.2 q (List.mem_cons_of_mem _ (List.mem_filter.mpr ⟨(lvp_mem lv 0 q).mpr ⟨j, h1, h2⟩, ?_⟩))
    rw [hj]
    have : ¬ (j + 1 = i ∧ q.2.category = 2) := fun z => sOK_spec hs z.1 h2 z.2
    simp only [Bool.and_eq_true, Bool.not_eq_true', beq_eq_false_iff_ne, ne_eq, Bool.and_eq_false_iff, beq_eq_false_iff_ne]
    refine ⟨hji, ?_⟩
    by_cases hz : j + 1 = i
    · exact Or.inr (fun e => this ⟨hz, e⟩)
    · exact Or.inl hz
theorem lvs.put2 {ls : Array Slot} {nL : Nat} {lv : List (Option Value)} {i : Nat} {v : Value} (hs : sOK lv i = true) (h : lv_has ls nL ((i, v) :: (lvp 0 lv).filter (fun q => !(q.1 == i) && (!(q.1 == i + 1) && !(q.1 + 1 == i && q.2.category == 2))))) : lvs ls nL ((lv.set i (some v)).set (i + 1) none) := by
  refine ⟨h.1, h.2.1, fun q hq => ?_⟩
  obtain ⟨j, h1, h2⟩ := (lvp_mem _ 0 q).mp hq
  have hj : q.1 = j := by omega
  by_cases hji2 : j = i + 1
  · subst hji2
    rw [List.getElem?_set] at h2
    simp only [if_true] at h2
    split at h2
    · cases h2
    · cases h2
  · rw [List.getElem?_set_ne (Ne.symm hji2)] at h2
    by_cases hji : j = i
    · subst hji
      rw [List.getElem?_set] at h2
      simp only [if_true] at h2
      split at h2
      · have : v = q.2 := Option.some.inj (Option.some.inj h2)
        rw [hj, ← this]
        exact h.2.2 (j, v) List.mem_cons_self
      · cases h2
    · rw [List.getElem?_set_ne (Ne.symm hji)] at h2
      refine h.2.2 q (List.mem_cons_of_mem _ (List.mem_filter.mpr ⟨(lvp_mem lv 0 q).mpr ⟨j, h1, h2⟩, ?_⟩))
      rw [hj]
      have : ¬ (j + 1 = i ∧ q.2.category = 2) := fun z => sOK_spec hs z.1 h2 z.2
      simp only [Bool.and_eq_true, Bool.not_eq_true', beq_eq_false_iff_ne, ne_eq, Bool.and_eq_false_iff, beq_eq_false_iff_ne]
      refine ⟨hji, hji2, ?_⟩
      by_cases hz : j + 1 = i
      · exact Or.inr (fun e => this ⟨hz, e⟩)
      · exact Or.inl hz
def rmd (d : Nat) : Room := { frames := d, cells := 0, slots := 0, locals := 60 * d }
def VW (X : Cx) (G : Gx) (b nL : Nat) (Q : State → Prop) (M : Nat → Obj) (pc : Nat) (lv : List (Option Value)) (st : List Value) : Prop :=
  ∀ (H : Heap) (locs : List Loc) (ls : Array Slot), Wd G.1 G.2 b M H → va_S (fun q => b ≤ q) X.2.2.2.2.1.heap H locs → lvs ls nL lv →
    W X.1 X.2.1 X.2.2.1 X.2.2.2.1 X.2.2.2.2.1 X.2.2.2.2.2.1 X.2.2.2.2.2.2.1 X.2.2.2.2.2.2.2.1 X.2.2.2.2.2.2.2.2.1 X.2.2.2.2.2.2.2.2.2 H locs 0 0 Q (F0 X.2.2.2.2.2.1 pc ls st)
def VO {ρ : Type} (X : Cx) (G : Gx) (b nL : Nat) (Qf : ρ → State → Prop) (M : Nat → Obj) (pc : Nat) (lv : List (Option Value)) (st : List Value) (o : Option ρ) : Prop := ∀ r, o = some r → VW X G b nL (Qf r) M pc lv st
/-- what a walk rests on: the machine, the code, the tables' words, the classes, the room -/
def OK (X : Cx) (G : Gx) (b : Nat) (cc : ByteArray) (nL d : Nat) (own : String) (ret : Option FieldType) : Prop :=
  X.1.tables.exec = Jvm.exec ∧ X.2.2.2.2.2.2.2.2.2.code = cc ∧ X.2.2.2.2.2.2.2.2.2.maxLocals = nL ∧ X.2.2.2.2.1.vm.findClass own = some X.2.2.2.2.2.1.cls ∧
  (∀ w ∈ Tg, w.before X.2.2.2.2.2.2.1 X.2.2.2.2.1 = true) ∧ EV G b X.2.2.2.2.1 ∧ X.2.2.2.2.2.2.2.2.1.locks = false ∧ X.2.2.2.1 = rmd d ∧ X.2.2.2.2.2.2.2.2.1.sig.returnType = ret

theorem r_iconst {ρ : Type} {X : Cx} {G : Gx} {b nL d : Nat} {Qf : ρ → State → Prop} {M : Nat → Obj} {pc : Nat} {lv : List (Option Value)} {st : List Value} {o : Option ρ} {cc : ByteArray} {own : String} {ret : Option FieldType} (ok : OK X G b cc nL d own ret) {n : Int} (v : Int32) (hd : decode cc pc = .ok (.iconst n, 1)) (hv : Int32.ofInt n = v) (k : VO X G b nL Qf M (pc + 1) lv (.int v :: st) o) : VO X G b nL Qf M pc lv st o :=
  fun r hr H locs ls hW hS hl => lv_iconst ok.1 ok.2.1 hd hv (k r hr H locs ls hW hS hl)
theorem r_bipush {ρ : Type} {X : Cx} {G : Gx} {b nL d : Nat} {Qf : ρ → State → Prop} {M : Nat → Obj} {pc : Nat} {lv : List (Option Value)} {st : List Value} {o : Option ρ} {cc : ByteArray} {own : String} {ret : Option FieldType} (ok : OK X G b cc nL d own ret) {n : Int} (v : Int32) (hd : decode cc pc = .ok (.bipush n, 2)) (hv : (Int8.ofInt n).toInt32 = v) (k : VO X G b nL Qf M (pc + 2) lv (.int v :: st) o) : VO X G b nL Qf M pc lv st o :=
  fun r hr H locs ls hW hS hl => lv_bipush ok.1 ok.2.1 hd hv (k r hr H locs ls hW hS hl)
theorem r_sipush {ρ : Type} {X : Cx} {G : Gx} {b nL d : Nat} {Qf : ρ → State → Prop} {M : Nat → Obj} {pc : Nat} {lv : List (Option Value)} {st : List Value} {o : Option ρ} {cc : ByteArray} {own : String} {ret : Option FieldType} (ok : OK X G b cc nL d own ret) {n : Int} (v : Int32) (hd : decode cc pc = .ok (.sipush n, 3)) (hv : (Int16.ofInt n).toInt32 = v) (k : VO X G b nL Qf M (pc + 3) lv (.int v :: st) o) : VO X G b nL Qf M pc lv st o :=
  fun r hr H locs ls hW hS hl => lv_sipush ok.1 ok.2.1 hd hv (k r hr H locs ls hW hS hl)
theorem r_lconst {ρ : Type} {X : Cx} {G : Gx} {b nL d : Nat} {Qf : ρ → State → Prop} {M : Nat → Obj} {pc : Nat} {lv : List (Option Value)} {st : List Value} {o : Option ρ} {cc : ByteArray} {own : String} {ret : Option FieldType} (ok : OK X G b cc nL d own ret) {n : Fin 2} (v : Int64) (hd : decode cc pc = .ok (.lconst n, 1)) (hv : Int64.ofNat (n : Nat) = v) (k : VO X G b nL Qf M (pc + 1) lv (.long v :: st) o) : VO X G b nL Qf M pc lv st o :=
  fun r hr H locs ls hW hS hl => lv_lconst ok.1 ok.2.1 hd hv (k r hr H locs ls hW hS hl)
theorem r_iload_n {ρ : Type} {X : Cx} {G : Gx} {b nL d : Nat} {Qf : ρ → State → Prop} {M : Nat → Obj} {pc : Nat} {lv : List (Option Value)} {st : List Value} {o : Option ρ} {cc : ByteArray} {own : String} {ret : Option FieldType} (ok : OK X G b cc nL d own ret) {n : Fin 4} {x : Int32} (hd : decode cc pc = .ok (.iload_n n, 1)) (hv : lv[(n : Nat)]? = some (some (.int x))) (k : VO X G b nL Qf M (pc + 1) lv (.int x :: st) o) : VO X G b nL Qf M pc lv st o :=
  fun r hr H locs ls hW hS hl => lv_iload_n ok.1 ok.2.1 hd rfl (hl.at hv) (k r hr H locs ls hW hS hl)
theorem r_iload {ρ : Type} {X : Cx} {G : Gx} {b nL d : Nat} {Qf : ρ → State → Prop} {M : Nat → Obj} {pc : Nat} {lv : List (Option Value)} {st : List Value} {o : Option ρ} {cc : ByteArray} {own : String} {ret : Option FieldType} (ok : OK X G b cc nL d own ret) {n : Nat} {x : Int32} (hd : decode cc pc = .ok (.iload n, 2)) (hv : lv[n]? = some (some (.int x))) (k : VO X G b nL Qf M (pc + 2) lv (.int x :: st) o) : VO X G b nL Qf M pc lv st o :=
  fun r hr H locs ls hW hS hl => lv_iload ok.1 ok.2.1 hd (hl.at hv) (k r hr H locs ls hW hS hl)
theorem r_lload_n {ρ : Type} {X : Cx} {G : Gx} {b nL d : Nat} {Qf : ρ → State → Prop} {M : Nat → Obj} {pc : Nat} {lv : List (Option Value)} {st : List Value} {o : Option ρ} {cc : ByteArray} {own : String} {ret : Option FieldType} (ok : OK X G b cc nL d own ret) {n : Fin 4} {x : Int64} (hd : decode cc pc = .ok (.lload_n n, 1)) (hv : lv[(n : Nat)]? = some (some (.long x))) (k : VO X G b nL Qf M (pc + 1) lv (.long x :: st) o) : VO X G b nL Qf M pc lv st o :=
  fun r hr H locs ls hW hS hl => lv_lload_n ok.1 ok.2.1 hd rfl (hl.at hv) (k r hr H locs ls hW hS hl)
theorem r_lload {ρ : Type} {X : Cx} {G : Gx} {b nL d : Nat} {Qf : ρ → State → Prop} {M : Nat → Obj} {pc : Nat} {lv : List (Option Value)} {st : List Value} {o : Option ρ} {cc : ByteArray} {own : String} {ret : Option FieldType} (ok : OK X G b cc nL d own ret) {n : Nat} {x : Int64} (hd : decode cc pc = .ok (.lload n, 2)) (hv : lv[n]? = some (some (.long x))) (k : VO X G b nL Qf M (pc + 2) lv (.long x :: st) o) : VO X G b nL Qf M pc lv st o :=
  fun r hr H locs ls hW hS hl => lv_lload ok.1 ok.2.1 hd (hl.at hv) (k r hr H locs ls hW hS hl)
theorem r_aload_n {ρ : Type} {X : Cx} {G : Gx} {b nL d : Nat} {Qf : ρ → State → Prop} {M : Nat → Obj} {pc : Nat} {lv : List (Option Value)} {st : List Value} {o : Option ρ} {cc : ByteArray} {own : String} {ret : Option FieldType} (ok : OK X G b cc nL d own ret) {n : Fin 4} {x : Nat} (hd : decode cc pc = .ok (.aload_n n, 1)) (hv : lv[(n : Nat)]? = some (some (.ref x))) (k : VO X G b nL Qf M (pc + 1) lv (.ref x :: st) o) : VO X G b nL Qf M pc lv st o :=
  fun r hr H locs ls hW hS hl => lv_aload_n ok.1 ok.2.1 hd rfl (hl.at hv) (k r hr H locs ls hW hS hl)
theorem r_aload {ρ : Type} {X : Cx} {G : Gx} {b nL d : Nat} {Qf : ρ → State → Prop} {M : Nat → Obj} {pc : Nat} {lv : List (Option Value)} {st : List Value} {o : Option ρ} {cc : ByteArray} {own : String} {ret : Option FieldType} (ok : OK X G b cc nL d own ret) {n : Nat} {x : Nat} (hd : decode cc pc = .ok (.aload n, 2)) (hv : lv[n]? = some (some (.ref x))) (k : VO X G b nL Qf M (pc + 2) lv (.ref x :: st) o) : VO X G b nL Qf M pc lv st o :=
  fun r hr H locs ls hW hS hl => lv_aload ok.1 ok.2.1 hd (hl.at hv) (k r hr H locs ls hW hS hl)
theorem r_aload_nN {ρ : Type} {X : Cx} {G : Gx} {b nL d : Nat} {Qf : ρ → State → Prop} {M : Nat → Obj} {pc : Nat} {lv : List (Option Value)} {st : List Value} {o : Option ρ} {cc : ByteArray} {own : String} {ret : Option FieldType} (ok : OK X G b cc nL d own ret) {n : Fin 4} (hd : decode cc pc = .ok (.aload_n n, 1)) (hv : lv[(n : Nat)]? = some (some .null)) (k : VO X G b nL Qf M (pc + 1) lv (.null :: st) o) : VO X G b nL Qf M pc lv st o :=
  fun r hr H locs ls hW hS hl => lv_aload_nN ok.1 ok.2.1 hd rfl (hl.at hv) (k r hr H locs ls hW hS hl)
theorem r_istore_n {ρ : Type} {X : Cx} {G : Gx} {b nL d : Nat} {Qf : ρ → State → Prop} {M : Nat → Obj} {pc : Nat} {lv : List (Option Value)} {st : List Value} {o : Option ρ} {cc : ByteArray} {own : String} {ret : Option FieldType} (ok : OK X G b cc nL d own ret) {n : Fin 4} {x : Int32} (hd : decode cc pc = .ok (.istore_n n, 1)) (hn : (n : Nat) < nL) (hs : sOK lv (n : Nat) = true) (k : VO X G b nL Qf M (pc + 1) (lv.set (n : Nat) (some (Value.int x))) st o) : VO X G b nL Qf M pc lv (Value.int x :: st) o :=
  fun r hr H locs ls hW hS hl => lv_istore_n ok.1 ok.2.1 hd rfl hl hn rfl (fun ls2 h2 => k r hr H locs ls2 hW hS (lvs.put hs h2))
theorem r_istore {ρ : Type} {X : Cx} {G : Gx} {b nL d : Nat} {Qf : ρ → State → Prop} {M : Nat → Obj} {pc : Nat} {lv : List (Option Value)} {st : List Value} {o : Option ρ} {cc : ByteArray} {own : String} {ret : Option FieldType} (ok : OK X G b cc nL d own ret) {n : Nat} {x : Int32} (hd : decode cc pc = .ok (.istore n, 2)) (hn : n < nL) (hs : sOK lv n = true) (k : VO X G b nL Qf M (pc + 2) (lv.set n (some (Value.int x))) st o) : VO X G b nL Qf M pc lv (Value.int x :: st) o :=
  fun r hr H locs ls hW hS hl => lv_istore ok.1 ok.2.1 hd hl hn rfl (fun ls2 h2 => k r hr H locs ls2 hW hS (lvs.put hs h2))
theorem r_astore_n {ρ : Type} {X : Cx} {G : Gx} {b nL d : Nat} {Qf : ρ → State → Prop} {M : Nat → Obj} {pc : Nat} {lv : List (Option Value)} {st : List Value} {o : Option ρ} {cc : ByteArray} {own : String} {ret : Option FieldType} (ok : OK X G b cc nL d own ret) {n : Fin 4} {x : Nat} (hd : decode cc pc = .ok (.astore_n n, 1)) (hn : (n : Nat) < nL) (hs : sOK lv (n : Nat) = true) (k : VO X G b nL Qf M (pc + 1) (lv.set (n : Nat) (some (Value.ref x))) st o) : VO X G b nL Qf M pc lv (Value.ref x :: st) o :=
  fun r hr H locs ls hW hS hl => lv_astore_n ok.1 ok.2.1 hd rfl hl hn rfl (fun ls2 h2 => k r hr H locs ls2 hW hS (lvs.put hs h2))
theorem r_astore {ρ : Type} {X : Cx} {G : Gx} {b nL d : Nat} {Qf : ρ → State → Prop} {M : Nat → Obj} {pc : Nat} {lv : List (Option Value)} {st : List Value} {o : Option ρ} {cc : ByteArray} {own : String} {ret : Option FieldType} (ok : OK X G b cc nL d own ret) {n : Nat} {x : Nat} (hd : decode cc pc = .ok (.astore n, 2)) (hn : n < nL) (hs : sOK lv n = true) (k : VO X G b nL Qf M (pc + 2) (lv.set n (some (Value.ref x))) st o) : VO X G b nL Qf M pc lv (Value.ref x :: st) o :=
  fun r hr H locs ls hW hS hl => lv_astore ok.1 ok.2.1 hd hl hn rfl (fun ls2 h2 => k r hr H locs ls2 hW hS (lvs.put hs h2))
theorem r_astore_nN {ρ : Type} {X : Cx} {G : Gx} {b nL d : Nat} {Qf : ρ → State → Prop} {M : Nat → Obj} {pc : Nat} {lv : List (Option Value)} {st : List Value} {o : Option ρ} {cc : ByteArray} {own : String} {ret : Option FieldType} (ok : OK X G b cc nL d own ret) {n : Fin 4} (hd : decode cc pc = .ok (.astore_n n, 1)) (hn : (n : Nat) < nL) (hs : sOK lv (n : Nat) = true) (k : VO X G b nL Qf M (pc + 1) (lv.set (n : Nat) (some Value.null)) st o) : VO X G b nL Qf M pc lv (Value.null :: st) o :=
  fun r hr H locs ls hW hS hl => lv_astore_nN ok.1 ok.2.1 hd rfl hl hn rfl (fun ls2 h2 => k r hr H locs ls2 hW hS (lvs.put hs h2))
theorem r_lstore_n {ρ : Type} {X : Cx} {G : Gx} {b nL d : Nat} {Qf : ρ → State → Prop} {M : Nat → Obj} {pc : Nat} {lv : List (Option Value)} {st : List Value} {o : Option ρ} {cc : ByteArray} {own : String} {ret : Option FieldType} (ok : OK X G b cc nL d own ret) {n : Fin 4} {x : Int64} (hd : decode cc pc = .ok (.lstore_n n, 1)) (hn : (n : Nat) + 1 < nL) (hs : sOK lv (n : Nat) = true) (k : VO X G b nL Qf M (pc + 1) ((lv.set (n : Nat) (some (Value.long x))).set ((n : Nat) + 1) none) st o) : VO X G b nL Qf M pc lv (Value.long x :: st) o :=
  fun r hr H locs ls hW hS hl => lv_lstore_n ok.1 ok.2.1 hd rfl hl hn rfl (fun ls2 h2 => k r hr H locs ls2 hW hS (lvs.put2 hs h2))
theorem r_lstore {ρ : Type} {X : Cx} {G : Gx} {b nL d : Nat} {Qf : ρ → State → Prop} {M : Nat → Obj} {pc : Nat} {lv : List (Option Value)} {st : List Value} {o : Option ρ} {cc : ByteArray} {own : String} {ret : Option FieldType} (ok : OK X G b cc nL d own ret) {n : Nat} {x : Int64} (hd : decode cc pc = .ok (.lstore n, 2)) (hn : n + 1 < nL) (hs : sOK lv n = true) (k : VO X G b nL Qf M (pc + 2) ((lv.set n (some (Value.long x))).set (n + 1) none) st o) : VO X G b nL Qf M pc lv (Value.long x :: st) o :=
  fun r hr H locs ls hW hS hl => lv_lstore ok.1 ok.2.1 hd hl hn rfl (fun ls2 h2 => k r hr H locs ls2 hW hS (lvs.put2 hs h2))
theorem r_iinc {ρ : Type} {X : Cx} {G : Gx} {b nL d : Nat} {Qf : ρ → State → Prop} {M : Nat → Obj} {pc : Nat} {lv : List (Option Value)} {st : List Value} {o : Option ρ} {cc : ByteArray} {own : String} {ret : Option FieldType} (ok : OK X G b cc nL d own ret) {n : Nat} {c : Int} (v : Int32) {x : Int32} (hd : decode cc pc = .ok (.iinc n c, 3)) (hv : Int32.ofInt c = v) (hx : lv[n]? = some (some (.int x))) (hn : n < nL) (hs : sOK lv n = true) (k : VO X G b nL Qf M (pc + 3) (lv.set n (some (.int (x + v)))) st o) : VO X G b nL Qf M pc lv st o := by
  intro r hr H locs ls hW hS hl
  obtain ⟨j, hj⟩ := List.getElem?_of_mem ((lvp_mem lv 0 (n, Value.int x)).mpr ⟨n, by simp, hx⟩)
  exact lv_iinc ok.1 ok.2.1 hd hl hj (by rw [hv]) hn rfl (fun ls2 h2 => k r hr H locs ls2 hW hS (lvs.put hs h2))
theorem r_iadd {ρ : Type} {X : Cx} {G : Gx} {b nL d : Nat} {Qf : ρ → State → Prop} {M : Nat → Obj} {pc : Nat} {lv : List (Option Value)} {st : List Value} {o : Option ρ} {cc : ByteArray} {own : String} {ret : Option FieldType} (ok : OK X G b cc nL d own ret) {x y : Int32} (hd : decode cc pc = .ok (.iadd, 1)) (k : VO X G b nL Qf M (pc + 1) lv (.int (x + y) :: st) o) : VO X G b nL Qf M pc lv (.int y :: .int x :: st) o :=
  fun r hr H locs ls hW hS hl => lv_iadd ok.1 ok.2.1 hd (k r hr H locs ls hW hS hl)
theorem r_isub {ρ : Type} {X : Cx} {G : Gx} {b nL d : Nat} {Qf : ρ → State → Prop} {M : Nat → Obj} {pc : Nat} {lv : List (Option Value)} {st : List Value} {o : Option ρ} {cc : ByteArray} {own : String} {ret : Option FieldType} (ok : OK X G b cc nL d own ret) {x y : Int32} (hd : decode cc pc = .ok (.isub, 1)) (k : VO X G b nL Qf M (pc + 1) lv (.int (x - y) :: st) o) : VO X G b nL Qf M pc lv (.int y :: .int x :: st) o :=
  fun r hr H locs ls hW hS hl => lv_isub ok.1 ok.2.1 hd (k r hr H locs ls hW hS hl)
theorem r_imul {ρ : Type} {X : Cx} {G : Gx} {b nL d : Nat} {Qf : ρ → State → Prop} {M : Nat → Obj} {pc : Nat} {lv : List (Option Value)} {st : List Value} {o : Option ρ} {cc : ByteArray} {own : String} {ret : Option FieldType} (ok : OK X G b cc nL d own ret) {x y : Int32} (hd : decode cc pc = .ok (.imul, 1)) (k : VO X G b nL Qf M (pc + 1) lv (.int (x * y) :: st) o) : VO X G b nL Qf M pc lv (.int y :: .int x :: st) o :=
  fun r hr H locs ls hW hS hl => lv_imul ok.1 ok.2.1 hd (k r hr H locs ls hW hS hl)
theorem r_iand {ρ : Type} {X : Cx} {G : Gx} {b nL d : Nat} {Qf : ρ → State → Prop} {M : Nat → Obj} {pc : Nat} {lv : List (Option Value)} {st : List Value} {o : Option ρ} {cc : ByteArray} {own : String} {ret : Option FieldType} (ok : OK X G b cc nL d own ret) {x y : Int32} (hd : decode cc pc = .ok (.iand, 1)) (k : VO X G b nL Qf M (pc + 1) lv (.int (x &&& y) :: st) o) : VO X G b nL Qf M pc lv (.int y :: .int x :: st) o :=
  fun r hr H locs ls hW hS hl => lv_iand ok.1 ok.2.1 hd (k r hr H locs ls hW hS hl)
theorem r_ior {ρ : Type} {X : Cx} {G : Gx} {b nL d : Nat} {Qf : ρ → State → Prop} {M : Nat → Obj} {pc : Nat} {lv : List (Option Value)} {st : List Value} {o : Option ρ} {cc : ByteArray} {own : String} {ret : Option FieldType} (ok : OK X G b cc nL d own ret) {x y : Int32} (hd : decode cc pc = .ok (.ior, 1)) (k : VO X G b nL Qf M (pc + 1) lv (.int (x ||| y) :: st) o) : VO X G b nL Qf M pc lv (.int y :: .int x :: st) o :=
  fun r hr H locs ls hW hS hl => lv_ior ok.1 ok.2.1 hd (k r hr H locs ls hW hS hl)
theorem r_ixor {ρ : Type} {X : Cx} {G : Gx} {b nL d : Nat} {Qf : ρ → State → Prop} {M : Nat → Obj} {pc : Nat} {lv : List (Option Value)} {st : List Value} {o : Option ρ} {cc : ByteArray} {own : String} {ret : Option FieldType} (ok : OK X G b cc nL d own ret) {x y : Int32} (hd : decode cc pc = .ok (.ixor, 1)) (k : VO X G b nL Qf M (pc + 1) lv (.int (x ^^^ y) :: st) o) : VO X G b nL Qf M pc lv (.int y :: .int x :: st) o :=
  fun r hr H locs ls hW hS hl => lv_ixor ok.1 ok.2.1 hd (k r hr H locs ls hW hS hl)
theorem r_ishl {ρ : Type} {X : Cx} {G : Gx} {b nL d : Nat} {Qf : ρ → State → Prop} {M : Nat → Obj} {pc : Nat} {lv : List (Option Value)} {st : List Value} {o : Option ρ} {cc : ByteArray} {own : String} {ret : Option FieldType} (ok : OK X G b cc nL d own ret) {x y : Int32} (hd : decode cc pc = .ok (.ishl, 1)) (k : VO X G b nL Qf M (pc + 1) lv (.int (shl x y) :: st) o) : VO X G b nL Qf M pc lv (.int y :: .int x :: st) o :=
  fun r hr H locs ls hW hS hl => lv_ishl ok.1 ok.2.1 hd (k r hr H locs ls hW hS hl)
theorem r_ishr {ρ : Type} {X : Cx} {G : Gx} {b nL d : Nat} {Qf : ρ → State → Prop} {M : Nat → Obj} {pc : Nat} {lv : List (Option Value)} {st : List Value} {o : Option ρ} {cc : ByteArray} {own : String} {ret : Option FieldType} (ok : OK X G b cc nL d own ret) {x y : Int32} (hd : decode cc pc = .ok (.ishr, 1)) (k : VO X G b nL Qf M (pc + 1) lv (.int (shr x y) :: st) o) : VO X G b nL Qf M pc lv (.int y :: .int x :: st) o :=
  fun r hr H locs ls hW hS hl => lv_ishr ok.1 ok.2.1 hd (k r hr H locs ls hW hS hl)
theorem r_iushr {ρ : Type} {X : Cx} {G : Gx} {b nL d : Nat} {Qf : ρ → State → Prop} {M : Nat → Obj} {pc : Nat} {lv : List (Option Value)} {st : List Value} {o : Option ρ} {cc : ByteArray} {own : String} {ret : Option FieldType} (ok : OK X G b cc nL d own ret) {x y : Int32} (hd : decode cc pc = .ok (.iushr, 1)) (k : VO X G b nL Qf M (pc + 1) lv (.int (ushr x y) :: st) o) : VO X G b nL Qf M pc lv (.int y :: .int x :: st) o :=
  fun r hr H locs ls hW hS hl => lv_iushr ok.1 ok.2.1 hd rfl (k r hr H locs ls hW hS hl)
theorem r_idivc {ρ : Type} {X : Cx} {G : Gx} {b nL d : Nat} {Qf : ρ → State → Prop} {M : Nat → Obj} {pc : Nat} {lv : List (Option Value)} {st : List Value} {o : Option ρ} {cc : ByteArray} {own : String} {ret : Option FieldType} (ok : OK X G b cc nL d own ret) {x y : Int32} (hd : decode cc pc = .ok (.idiv, 1)) (hy : ¬ y = 0) (k : VO X G b nL Qf M (pc + 1) lv (.int (x / y) :: st) o) : VO X G b nL Qf M pc lv (.int y :: .int x :: st) o :=
  fun r hr H locs ls hW hS hl => lv_idiv ok.1 ok.2.1 hd hy (k r hr H locs ls hW hS hl)
theorem r_idiv {ρ : Type} {X : Cx} {G : Gx} {b nL d : Nat} {Qf : ρ → State → Prop} {M : Nat → Obj} {pc : Nat} {lv : List (Option Value)} {st : List Value} {o : Option ρ} {cc : ByteArray} {own : String} {ret : Option FieldType} (ok : OK X G b cc nL d own ret) {τ : Type} {x y : Int32} {f : Unit → Option τ} {K : τ → Option ρ} (hd : decode cc pc = .ok (.idiv, 1)) (k : VO X G b nL Qf M (pc + 1) lv (.int (x / y) :: st) ((f ()).bind K)) : VO X G b nL Qf M pc lv (.int y :: .int x :: st) (((nz y).bind f).bind K) := by
  intro r hr
  unfold nz at hr
  by_cases hy : y = 0
  · rw [if_pos hy] at hr; cases hr
  · rw [if_neg hy] at hr
    exact r_idivc (o := (f ()).bind K) ok hd hy k r hr
theorem r_iremc {ρ : Type} {X : Cx} {G : Gx} {b nL d : Nat} {Qf : ρ → State → Prop} {M : Nat → Obj} {pc : Nat} {lv : List (Option Value)} {st : List Value} {o : Option ρ} {cc : ByteArray} {own : String} {ret : Option FieldType} (ok : OK X G b cc nL d own ret) {x y : Int32} (hd : decode cc pc = .ok (.irem, 1)) (hy : ¬ y = 0) (k : VO X G b nL Qf M (pc + 1) lv (.int (irm x y) :: st) o) : VO X G b nL Qf M pc lv (.int y :: .int x :: st) o :=
  fun r hr H locs ls hW hS hl => lv_irem ok.1 ok.2.1 hd hy (k r hr H locs ls hW hS hl)
theorem r_irem {ρ : Type} {X : Cx} {G : Gx} {b nL d : Nat} {Qf : ρ → State → Prop} {M : Nat → Obj} {pc : Nat} {lv : List (Option Value)} {st : List Value} {o : Option ρ} {cc : ByteArray} {own : String} {ret : Option FieldType} (ok : OK X G b cc nL d own ret) {τ : Type} {x y : Int32} {f : Unit → Option τ} {K : τ → Option ρ} (hd : decode cc pc = .ok (.irem, 1)) (k : VO X G b nL Qf M (pc + 1) lv (.int (irm x y) :: st) ((f ()).bind K)) : VO X G b nL Qf M pc lv (.int y :: .int x :: st) (((nz y).bind f).bind K) := by
  intro r hr
  unfold nz at hr
  by_cases hy : y = 0
  · rw [if_pos hy] at hr; cases hr
  · rw [if_neg hy] at hr
    exact r_iremc (o := (f ()).bind K) ok hd hy k r hr
theorem r_ineg {ρ : Type} {X : Cx} {G : Gx} {b nL d : Nat} {Qf : ρ → State → Prop} {M : Nat → Obj} {pc : Nat} {lv : List (Option Value)} {st : List Value} {o : Option ρ} {cc : ByteArray} {own : String} {ret : Option FieldType} (ok : OK X G b cc nL d own ret) {x : Int32} (hd : decode cc pc = .ok (.ineg, 1)) (k : VO X G b nL Qf M (pc + 1) lv (.int (-x) :: st) o) : VO X G b nL Qf M pc lv (.int x :: st) o :=
  fun r hr H locs ls hW hS hl => lv_ineg ok.1 ok.2.1 hd (k r hr H locs ls hW hS hl)
theorem r_i2b {ρ : Type} {X : Cx} {G : Gx} {b nL d : Nat} {Qf : ρ → State → Prop} {M : Nat → Obj} {pc : Nat} {lv : List (Option Value)} {st : List Value} {o : Option ρ} {cc : ByteArray} {own : String} {ret : Option FieldType} (ok : OK X G b cc nL d own ret) {x : Int32} (hd : decode cc pc = .ok (.i2b, 1)) (k : VO X G b nL Qf M (pc + 1) lv (.int (i2b x) :: st) o) : VO X G b nL Qf M pc lv (.int x :: st) o :=
  fun r hr H locs ls hW hS hl => lv_i2b ok.1 ok.2.1 hd rfl (k r hr H locs ls hW hS hl)
theorem r_i2l {ρ : Type} {X : Cx} {G : Gx} {b nL d : Nat} {Qf : ρ → State → Prop} {M : Nat → Obj} {pc : Nat} {lv : List (Option Value)} {st : List Value} {o : Option ρ} {cc : ByteArray} {own : String} {ret : Option FieldType} (ok : OK X G b cc nL d own ret) {x : Int32} (hd : decode cc pc = .ok (.i2l, 1)) (k : VO X G b nL Qf M (pc + 1) lv (.long (i2l x) :: st) o) : VO X G b nL Qf M pc lv (.int x :: st) o :=
  fun r hr H locs ls hW hS hl => lv_i2l ok.1 ok.2.1 hd rfl (k r hr H locs ls hW hS hl)
theorem r_l2i {ρ : Type} {X : Cx} {G : Gx} {b nL d : Nat} {Qf : ρ → State → Prop} {M : Nat → Obj} {pc : Nat} {lv : List (Option Value)} {st : List Value} {o : Option ρ} {cc : ByteArray} {own : String} {ret : Option FieldType} (ok : OK X G b cc nL d own ret) {x : Int64} (hd : decode cc pc = .ok (.l2i, 1)) (k : VO X G b nL Qf M (pc + 1) lv (.int (l2i x) :: st) o) : VO X G b nL Qf M pc lv (.long x :: st) o :=
  fun r hr H locs ls hW hS hl => lv_l2i ok.1 ok.2.1 hd rfl (k r hr H locs ls hW hS hl)
theorem r_land {ρ : Type} {X : Cx} {G : Gx} {b nL d : Nat} {Qf : ρ → State → Prop} {M : Nat → Obj} {pc : Nat} {lv : List (Option Value)} {st : List Value} {o : Option ρ} {cc : ByteArray} {own : String} {ret : Option FieldType} (ok : OK X G b cc nL d own ret) {x y : Int64} (hd : decode cc pc = .ok (.land, 1)) (k : VO X G b nL Qf M (pc + 1) lv (.long (x &&& y) :: st) o) : VO X G b nL Qf M pc lv (.long y :: .long x :: st) o :=
  fun r hr H locs ls hW hS hl => lv_land ok.1 ok.2.1 hd (k r hr H locs ls hW hS hl)
theorem r_lor {ρ : Type} {X : Cx} {G : Gx} {b nL d : Nat} {Qf : ρ → State → Prop} {M : Nat → Obj} {pc : Nat} {lv : List (Option Value)} {st : List Value} {o : Option ρ} {cc : ByteArray} {own : String} {ret : Option FieldType} (ok : OK X G b cc nL d own ret) {x y : Int64} (hd : decode cc pc = .ok (.lor, 1)) (k : VO X G b nL Qf M (pc + 1) lv (.long (x ||| y) :: st) o) : VO X G b nL Qf M pc lv (.long y :: .long x :: st) o :=
  fun r hr H locs ls hW hS hl => lv_lor ok.1 ok.2.1 hd (k r hr H locs ls hW hS hl)
theorem r_lshl {ρ : Type} {X : Cx} {G : Gx} {b nL d : Nat} {Qf : ρ → State → Prop} {M : Nat → Obj} {pc : Nat} {lv : List (Option Value)} {st : List Value} {o : Option ρ} {cc : ByteArray} {own : String} {ret : Option FieldType} (ok : OK X G b cc nL d own ret) {x : Int64} {y : Int32} (hd : decode cc pc = .ok (.lshl, 1)) (k : VO X G b nL Qf M (pc + 1) lv (.long (lshl x y) :: st) o) : VO X G b nL Qf M pc lv (.int y :: .long x :: st) o :=
  fun r hr H locs ls hW hS hl => lv_lshl ok.1 ok.2.1 hd rfl (k r hr H locs ls hW hS hl)
theorem r_lshr {ρ : Type} {X : Cx} {G : Gx} {b nL d : Nat} {Qf : ρ → State → Prop} {M : Nat → Obj} {pc : Nat} {lv : List (Option Value)} {st : List Value} {o : Option ρ} {cc : ByteArray} {own : String} {ret : Option FieldType} (ok : OK X G b cc nL d own ret) {x : Int64} {y : Int32} (hd : decode cc pc = .ok (.lshr, 1)) (k : VO X G b nL Qf M (pc + 1) lv (.long (lshr x y) :: st) o) : VO X G b nL Qf M pc lv (.int y :: .long x :: st) o :=
  fun r hr H locs ls hW hS hl => lv_lshr ok.1 ok.2.1 hd rfl (k r hr H locs ls hW hS hl)
theorem r_lcmp {ρ : Type} {X : Cx} {G : Gx} {b nL d : Nat} {Qf : ρ → State → Prop} {M : Nat → Obj} {pc : Nat} {lv : List (Option Value)} {st : List Value} {o : Option ρ} {cc : ByteArray} {own : String} {ret : Option FieldType} (ok : OK X G b cc nL d own ret) {x y : Int64} (hd : decode cc pc = .ok (.lcmp, 1)) (k : VO X G b nL Qf M (pc + 1) lv (.int (lg_cmp x y) :: st) o) : VO X G b nL Qf M pc lv (.long y :: .long x :: st) o :=
  fun r hr H locs ls hW hS hl => W.lcmp ok.1 ok.2.1 hd (k r hr H locs ls hW hS hl)
theorem r_dup {ρ : Type} {X : Cx} {G : Gx} {b nL d : Nat} {Qf : ρ → State → Prop} {M : Nat → Obj} {pc : Nat} {lv : List (Option Value)} {st : List Value} {o : Option ρ} {cc : ByteArray} {own : String} {ret : Option FieldType} (ok : OK X G b cc nL d own ret) {v : Value} (hd : decode cc pc = .ok (.dup, 1)) (hv : v.category = 1) (k : VO X G b nL Qf M (pc + 1) lv (v :: v :: st) o) : VO X G b nL Qf M pc lv (v :: st) o :=
  fun r hr H locs ls hW hS hl => lv_dup ok.1 ok.2.1 hd hv (k r hr H locs ls hW hS hl)
theorem r_dup2 {ρ : Type} {X : Cx} {G : Gx} {b nL d : Nat} {Qf : ρ → State → Prop} {M : Nat → Obj} {pc : Nat} {lv : List (Option Value)} {st : List Value} {o : Option ρ} {cc : ByteArray} {own : String} {ret : Option FieldType} (ok : OK X G b cc nL d own ret) {v w : Value} (hd : decode cc pc = .ok (.dup2, 1)) (hv : v.category = 1) (hw : w.category = 1) (k : VO X G b nL Qf M (pc + 1) lv (v :: w :: v :: w :: st) o) : VO X G b nL Qf M pc lv (v :: w :: st) o :=
  fun r hr H locs ls hW hS hl => lv_dup2_11 ok.1 ok.2.1 hd hv hw (k r hr H locs ls hW hS hl)
theorem r_dup_x1 {ρ : Type} {X : Cx} {G : Gx} {b nL d : Nat} {Qf : ρ → State → Prop} {M : Nat → Obj} {pc : Nat} {lv : List (Option Value)} {st : List Value} {o : Option ρ} {cc : ByteArray} {own : String} {ret : Option FieldType} (ok : OK X G b cc nL d own ret) {v w : Value} (hd : decode cc pc = .ok (.dup_x1, 1)) (hv : v.category = 1) (hw : w.category = 1) (k : VO X G b nL Qf M (pc + 1) lv (v :: w :: v :: st) o) : VO X G b nL Qf M pc lv (v :: w :: st) o :=
  fun r hr H locs ls hW hS hl => lv_dup_x1 ok.1 ok.2.1 hd hv hw (k r hr H locs ls hW hS hl)
theorem r_pop {ρ : Type} {X : Cx} {G : Gx} {b nL d : Nat} {Qf : ρ → State → Prop} {M : Nat → Obj} {pc : Nat} {lv : List (Option Value)} {st : List Value} {o : Option ρ} {cc : ByteArray} {own : String} {ret : Option FieldType} (ok : OK X G b cc nL d own ret) {v : Value} (hd : decode cc pc = .ok (.pop, 1)) (hv : v.category = 1) (k : VO X G b nL Qf M (pc + 1) lv st o) : VO X G b nL Qf M pc lv (v :: st) o :=
  fun r hr H locs ls hW hS hl => lv_pop ok.1 ok.2.1 hd hv (k r hr H locs ls hW hS hl)
theorem r_goto {ρ : Type} {X : Cx} {G : Gx} {b nL d : Nat} {Qf : ρ → State → Prop} {M : Nat → Obj} {pc : Nat} {lv : List (Option Value)} {st : List Value} {o : Option ρ} {cc : ByteArray} {own : String} {ret : Option FieldType} (ok : OK X G b cc nL d own ret) {off : Int} (tgt : Nat) (hd : decode cc pc = .ok (.goto off, 3)) (ht : (pc : Int) + off = (tgt : Int)) (k : VO X G b nL Qf M tgt lv st o) : VO X G b nL Qf M pc lv st o :=
  fun r hr H locs ls hW hS hl => lv_goto ok.1 ok.2.1 hd ht (k r hr H locs ls hW hS hl)
theorem r_null {ρ : Type} {X : Cx} {G : Gx} {b nL d : Nat} {Qf : ρ → State → Prop} {M : Nat → Obj} {pc : Nat} {lv : List (Option Value)} {st : List Value} {o : Option ρ} {cc : ByteArray} {own : String} {ret : Option FieldType} (ok : OK X G b cc nL d own ret) (hd : decode cc pc = .ok (.aconst_null, 1)) (k : VO X G b nL Qf M (pc + 1) lv (.null :: st) o) : VO X G b nL Qf M pc lv st o :=
  fun r hr H locs ls hW hS hl => lv_null ok.1 ok.2.1 hd (k r hr H locs ls hW hS hl)
theorem r_ldc {ρ : Type} {X : Cx} {G : Gx} {b nL d : Nat} {Qf : ρ → State → Prop} {M : Nat → Obj} {pc : Nat} {lv : List (Option Value)} {st : List Value} {o : Option ρ} {cc : ByteArray} {own : String} {ret : Option FieldType} (ok : OK X G b cc nL d own ret) {n : Nat} (v : Int32) (hd : decode cc pc = .ok (.ldc n, 2)) (hc : Cond.constant own n v ∈ Tg) (k : VO X G b nL Qf M (pc + 2) lv (.int v :: st) o) : VO X G b nL Qf M pc lv st o :=
  fun r hr H locs ls hW hS hl => lv_ldc ok.1 ok.2.1 ok.2.2.2.1 (ok.2.2.2.2.1 _ hc) hd (k r hr H locs ls hW hS hl)
theorem r_ldcw {ρ : Type} {X : Cx} {G : Gx} {b nL d : Nat} {Qf : ρ → State → Prop} {M : Nat → Obj} {pc : Nat} {lv : List (Option Value)} {st : List Value} {o : Option ρ} {cc : ByteArray} {own : String} {ret : Option FieldType} (ok : OK X G b cc nL d own ret) {n : Nat} (v : Int32) (hd : decode cc pc = .ok (.ldc_w n, 3)) (hc : Cond.constant own n v ∈ Tg) (k : VO X G b nL Qf M (pc + 3) lv (.int v :: st) o) : VO X G b nL Qf M pc lv st o :=
  fun r hr H locs ls hW hS hl => lv_ldcw ok.1 ok.2.1 ok.2.2.2.1 (ok.2.2.2.2.1 _ hc) hd (k r hr H locs ls hW hS hl)
theorem r_ldc2 {ρ : Type} {X : Cx} {G : Gx} {b nL d : Nat} {Qf : ρ → State → Prop} {M : Nat → Obj} {pc : Nat} {lv : List (Option Value)} {st : List Value} {o : Option ρ} {cc : ByteArray} {own : String} {ret : Option FieldType} (ok : OK X G b cc nL d own ret) {n : Nat} (v : Int64) (hd : decode cc pc = .ok (.ldc2_w n, 3)) (hc : Cond.constantLong own n v ∈ Tg) (k : VO X G b nL Qf M (pc + 3) lv (.long v :: st) o) : VO X G b nL Qf M pc lv st o :=
  fun r hr H locs ls hW hS hl => lv_ldc2 ok.1 ok.2.1 ok.2.2.2.1 (ok.2.2.2.2.1 _ hc) hd (k r hr H locs ls hW hS hl)
theorem za_0 : (0 : Int32) &&& 1 = 0 := by decide +kernel
theorem za_1 : (1 : Int32) &&& 1 = 1 := by decide +kernel
theorem r_bndI {ρ : Type} {X : Cx} {G : Gx} {b nL : Nat} {Qf : ρ → State → Prop} {M : Nat → Obj} {pc : Nat} {lv : List (Option Value)} {st : List Value} {τ : Type} {e : Int32} {f : Int32 → Option τ} {K : τ → Option ρ} (k : ∀ x, VO X G b nL Qf M pc lv (.int x :: st) ((f x).bind K)) : VO X G b nL Qf M pc lv (.int e :: st) ((bnd e f).bind K) := k e
theorem r_bndJ {ρ : Type} {X : Cx} {G : Gx} {b nL : Nat} {Qf : ρ → State → Prop} {M : Nat → Obj} {pc : Nat} {lv : List (Option Value)} {st : List Value} {τ : Type} {e : Int64} {f : Int64 → Option τ} {K : τ → Option ρ} (k : ∀ x, VO X G b nL Qf M pc lv (.long x :: st) ((f x).bind K)) : VO X G b nL Qf M pc lv (.long e :: st) ((bnd e f).bind K) := k e
theorem r_if_eq {ρ : Type} {X : Cx} {G : Gx} {b nL d : Nat} {Qf : ρ → State → Prop} {M : Nat → Obj} {pc : Nat} {lv : List (Option Value)} {st : List Value} {cc : ByteArray} {own : String} {ret : Option FieldType} (ok : OK X G b cc nL d own ret) {τ : Type} {x : Int32} {off : Int} {A B : Option τ} {K : τ → Option ρ} (tgt : Nat) (hd : decode cc pc = .ok (.ifCond .eq off, 3)) (ht : (pc : Int) + off = (tgt : Int)) (kt : x = 0 → VO X G b nL Qf M tgt lv st (A.bind K)) (kf : ¬ x = 0 → VO X G b nL Qf M (pc + 3) lv st (B.bind K)) : VO X G b nL Qf M pc lv (.int x :: st) ((if x = 0 then A else B).bind K) := by
  intro r hr H locs ls hW hS hl
  have hr1 : x = 0 → A.bind K = some r := fun h => by rw [if_pos h] at hr; exact hr
  have hr2 : ¬ x = 0 → B.bind K = some r := fun h => by rw [if_neg h] at hr; exact hr
  exact lv_if_eq ok.1 ok.2.1 hd ht (fun h => kt h r (hr1 h) H locs ls hW hS hl) (fun h => kf h r (hr2 h) H locs ls hW hS hl)
theorem r_if_ne {ρ : Type} {X : Cx} {G : Gx} {b nL d : Nat} {Qf : ρ → State → Prop} {M : Nat → Obj} {pc : Nat} {lv : List (Option Value)} {st : List Value} {cc : ByteArray} {own : String} {ret : Option FieldType} (ok : OK X G b cc nL d own ret) {τ : Type} {x : Int32} {off : Int} {A B : Option τ} {K : τ → Option ρ} (tgt : Nat) (hd : decode cc pc = .ok (.ifCond .ne off, 3)) (ht : (pc : Int) + off = (tgt : Int)) (kt : x = 0 → VO X G b nL Qf M (pc + 3) lv st (A.bind K)) (kf : ¬ x = 0 → VO X G b nL Qf M tgt lv st (B.bind K)) : VO X G b nL Qf M pc lv (.int x :: st) ((if x = 0 then A else B).bind K) := by
  intro r hr H locs ls hW hS hl
  have hr1 : x = 0 → A.bind K = some r := fun h => by rw [if_pos h] at hr; exact hr
  have hr2 : ¬ x = 0 → B.bind K = some r := fun h => by rw [if_neg h] at hr; exact hr
  exact lv_if_ne ok.1 ok.2.1 hd ht (fun h => kf h r (hr2 h) H locs ls hW hS hl) (fun h => kt h r (hr1 h) H locs ls hW hS hl)
theorem r_if_lt {ρ : Type} {X : Cx} {G : Gx} {b nL d : Nat} {Qf : ρ → State → Prop} {M : Nat → Obj} {pc : Nat} {lv : List (Option Value)} {st : List Value} {cc : ByteArray} {own : String} {ret : Option FieldType} (ok : OK X G b cc nL d own ret) {τ : Type} {x : Int32} {off : Int} {A B : Option τ} {K : τ → Option ρ} (tgt : Nat) (hd : decode cc pc = .ok (.ifCond .lt off, 3)) (ht : (pc : Int) + off = (tgt : Int)) (kt : x < 0 → VO X G b nL Qf M tgt lv st (A.bind K)) (kf : ¬ x < 0 → VO X G b nL Qf M (pc + 3) lv st (B.bind K)) : VO X G b nL Qf M pc lv (.int x :: st) ((if x < 0 then A else B).bind K) := by
  intro r hr H locs ls hW hS hl
  have hr1 : x < 0 → A.bind K = some r := fun h => by rw [if_pos h] at hr; exact hr
  have hr2 : ¬ x < 0 → B.bind K = some r := fun h => by rw [if_neg h] at hr; exact hr
  exact lv_if_lt ok.1 ok.2.1 hd ht (fun h => kt h r (hr1 h) H locs ls hW hS hl) (fun h => kf h r (hr2 h) H locs ls hW hS hl)
theorem r_if_ge {ρ : Type} {X : Cx} {G : Gx} {b nL d : Nat} {Qf : ρ → State → Prop} {M : Nat → Obj} {pc : Nat} {lv : List (Option Value)} {st : List Value} {cc : ByteArray} {own : String} {ret : Option FieldType} (ok : OK X G b cc nL d own ret) {τ : Type} {x : Int32} {off : Int} {A B : Option τ} {K : τ → Option ρ} (tgt : Nat) (hd : decode cc pc = .ok (.ifCond .ge off, 3)) (ht : (pc : Int) + off = (tgt : Int)) (kt : 0 ≤ x → VO X G b nL Qf M tgt lv st (A.bind K)) (kf : ¬ 0 ≤ x → VO X G b nL Qf M (pc + 3) lv st (B.bind K)) : VO X G b nL Qf M pc lv (.int x :: st) ((if 0 ≤ x then A else B).bind K) := by
  intro r hr H locs ls hW hS hl
  have hr1 : 0 ≤ x → A.bind K = some r := fun h => by rw [if_pos h] at hr; exact hr
  have hr2 : ¬ 0 ≤ x → B.bind K = some r := fun h => by rw [if_neg h] at hr; exact hr
  exact lv_if_ge ok.1 ok.2.1 hd ht (fun h => kt h r (hr1 h) H locs ls hW hS hl) (fun h => kf h r (hr2 h) H locs ls hW hS hl)
theorem r_if_gt {ρ : Type} {X : Cx} {G : Gx} {b nL d : Nat} {Qf : ρ → State → Prop} {M : Nat → Obj} {pc : Nat} {lv : List (Option Value)} {st : List Value} {cc : ByteArray} {own : String} {ret : Option FieldType} (ok : OK X G b cc nL d own ret) {τ : Type} {x : Int32} {off : Int} {A B : Option τ} {K : τ → Option ρ} (tgt : Nat) (hd : decode cc pc = .ok (.ifCond .gt off, 3)) (ht : (pc : Int) + off = (tgt : Int)) (kt : 0 < x → VO X G b nL Qf M tgt lv st (A.bind K)) (kf : ¬ 0 < x → VO X G b nL Qf M (pc + 3) lv st (B.bind K)) : VO X G b nL Qf M pc lv (.int x :: st) ((if 0 < x then A else B).bind K) := by
  intro r hr H locs ls hW hS hl
  have hr1 : 0 < x → A.bind K = some r := fun h => by rw [if_pos h] at hr; exact hr
  have hr2 : ¬ 0 < x → B.bind K = some r := fun h => by rw [if_neg h] at hr; exact hr
  exact lv_if_gt ok.1 ok.2.1 hd ht (fun h => kt h r (hr1 h) H locs ls hW hS hl) (fun h => kf h r (hr2 h) H locs ls hW hS hl)
theorem r_if_le {ρ : Type} {X : Cx} {G : Gx} {b nL d : Nat} {Qf : ρ → State → Prop} {M : Nat → Obj} {pc : Nat} {lv : List (Option Value)} {st : List Value} {cc : ByteArray} {own : String} {ret : Option FieldType} (ok : OK X G b cc nL d own ret) {τ : Type} {x : Int32} {off : Int} {A B : Option τ} {K : τ → Option ρ} (tgt : Nat) (hd : decode cc pc = .ok (.ifCond .le off, 3)) (ht : (pc : Int) + off = (tgt : Int)) (kt : x ≤ 0 → VO X G b nL Qf M tgt lv st (A.bind K)) (kf : ¬ x ≤ 0 → VO X G b nL Qf M (pc + 3) lv st (B.bind K)) : VO X G b nL Qf M pc lv (.int x :: st) ((if x ≤ 0 then A else B).bind K) := by
  intro r hr H locs ls hW hS hl
  have hr1 : x ≤ 0 → A.bind K = some r := fun h => by rw [if_pos h] at hr; exact hr
  have hr2 : ¬ x ≤ 0 → B.bind K = some r := fun h => by rw [if_neg h] at hr; exact hr
  exact lv_if_le ok.1 ok.2.1 hd ht (fun h => kt h r (hr1 h) H locs ls hW hS hl) (fun h => kf h r (hr2 h) H locs ls hW hS hl)
theorem r_icmp_eq {ρ : Type} {X : Cx} {G : Gx} {b nL d : Nat} {Qf : ρ → State → Prop} {M : Nat → Obj} {pc : Nat} {lv : List (Option Value)} {st : List Value} {cc : ByteArray} {own : String} {ret : Option FieldType} (ok : OK X G b cc nL d own ret) {τ : Type} {x y : Int32} {off : Int} {A B : Option τ} {K : τ → Option ρ} (tgt : Nat) (hd : decode cc pc = .ok (.if_icmp .eq off, 3)) (ht : (pc : Int) + off = (tgt : Int)) (kt : x = y → VO X G b nL Qf M tgt lv st (A.bind K)) (kf : ¬ x = y → VO X G b nL Qf M (pc + 3) lv st (B.bind K)) : VO X G b nL Qf M pc lv (.int y :: .int x :: st) ((if x = y then A else B).bind K) := by
  intro r hr H locs ls hW hS hl
  have hr1 : x = y → A.bind K = some r := fun h => by rw [if_pos h] at hr; exact hr
  have hr2 : ¬ x = y → B.bind K = some r := fun h => by rw [if_neg h] at hr; exact hr
  exact lv_icmp_eq ok.1 ok.2.1 hd ht (fun h => kt h r (hr1 h) H locs ls hW hS hl) (fun h => kf h r (hr2 h) H locs ls hW hS hl)
theorem r_icmp_ne {ρ : Type} {X : Cx} {G : Gx} {b nL d : Nat} {Qf : ρ → State → Prop} {M : Nat → Obj} {pc : Nat} {lv : List (Option Value)} {st : List Value} {cc : ByteArray} {own : String} {ret : Option FieldType} (ok : OK X G b cc nL d own ret) {τ : Type} {x y : Int32} {off : Int} {A B : Option τ} {K : τ → Option ρ} (tgt : Nat) (hd : decode cc pc = .ok (.if_icmp .ne off, 3)) (ht : (pc : Int) + off = (tgt : Int)) (kt : x = y → VO X G b nL Qf M (pc + 3) lv st (A.bind K)) (kf : ¬ x = y → VO X G b nL Qf M tgt lv st (B.bind K)) : VO X G b nL Qf M pc lv (.int y :: .int x :: st) ((if x = y then A else B).bind K) := by
  intro r hr H locs ls hW hS hl
  have hr1 : x = y → A.bind K = some r := fun h => by rw [if_pos h] at hr; exact hr
  have hr2 : ¬ x = y → B.bind K = some r := fun h => by rw [if_neg h] at hr; exact hr
  exact lv_icmp_ne ok.1 ok.2.1 hd ht (fun h => kf h r (hr2 h) H locs ls hW hS hl) (fun h => kt h r (hr1 h) H locs ls hW hS hl)
theorem r_icmp_lt {ρ : Type} {X : Cx} {G : Gx} {b nL d : Nat} {Qf : ρ → State → Prop} {M : Nat → Obj} {pc : Nat} {lv : List (Option Value)} {st : List Value} {cc : ByteArray} {own : String} {ret : Option FieldType} (ok : OK X G b cc nL d own ret) {τ : Type} {x y : Int32} {off : Int} {A B : Option τ} {K : τ → Option ρ} (tgt : Nat) (hd : decode cc pc = .ok (.if_icmp .lt off, 3)) (ht : (pc : Int) + off = (tgt : Int)) (kt : x < y → VO X G b nL Qf M tgt lv st (A.bind K)) (kf : ¬ x < y → VO X G b nL Qf M (pc + 3) lv st (B.bind K)) : VO X G b nL Qf M pc lv (.int y :: .int x :: st) ((if x < y then A else B).bind K) := by
  intro r hr H locs ls hW hS hl
  have hr1 : x < y → A.bind K = some r := fun h => by rw [if_pos h] at hr; exact hr
  have hr2 : ¬ x < y → B.bind K = some r := fun h => by rw [if_neg h] at hr; exact hr
  exact lv_icmp_lt ok.1 ok.2.1 hd ht (fun h => kt h r (hr1 h) H locs ls hW hS hl) (fun h => kf h r (hr2 h) H locs ls hW hS hl)
theorem r_icmp_ge {ρ : Type} {X : Cx} {G : Gx} {b nL d : Nat} {Qf : ρ → State → Prop} {M : Nat → Obj} {pc : Nat} {lv : List (Option Value)} {st : List Value} {cc : ByteArray} {own : String} {ret : Option FieldType} (ok : OK X G b cc nL d own ret) {τ : Type} {x y : Int32} {off : Int} {A B : Option τ} {K : τ → Option ρ} (tgt : Nat) (hd : decode cc pc = .ok (.if_icmp .ge off, 3)) (ht : (pc : Int) + off = (tgt : Int)) (kt : y ≤ x → VO X G b nL Qf M tgt lv st (A.bind K)) (kf : ¬ y ≤ x → VO X G b nL Qf M (pc + 3) lv st (B.bind K)) : VO X G b nL Qf M pc lv (.int y :: .int x :: st) ((if y ≤ x then A else B).bind K) := by
  intro r hr H locs ls hW hS hl
  have hr1 : y ≤ x → A.bind K = some r := fun h => by rw [if_pos h] at hr; exact hr
  have hr2 : ¬ y ≤ x → B.bind K = some r := fun h => by rw [if_neg h] at hr; exact hr
  exact lv_icmp_ge ok.1 ok.2.1 hd ht (fun h => kt h r (hr1 h) H locs ls hW hS hl) (fun h => kf h r (hr2 h) H locs ls hW hS hl)
theorem r_icmp_gt {ρ : Type} {X : Cx} {G : Gx} {b nL d : Nat} {Qf : ρ → State → Prop} {M : Nat → Obj} {pc : Nat} {lv : List (Option Value)} {st : List Value} {cc : ByteArray} {own : String} {ret : Option FieldType} (ok : OK X G b cc nL d own ret) {τ : Type} {x y : Int32} {off : Int} {A B : Option τ} {K : τ → Option ρ} (tgt : Nat) (hd : decode cc pc = .ok (.if_icmp .gt off, 3)) (ht : (pc : Int) + off = (tgt : Int)) (kt : y < x → VO X G b nL Qf M tgt lv st (A.bind K)) (kf : ¬ y < x → VO X G b nL Qf M (pc + 3) lv st (B.bind K)) : VO X G b nL Qf M pc lv (.int y :: .int x :: st) ((if y < x then A else B).bind K) := by
  intro r hr H locs ls hW hS hl
  have hr1 : y < x → A.bind K = some r := fun h => by rw [if_pos h] at hr; exact hr
  have hr2 : ¬ y < x → B.bind K = some r := fun h => by rw [if_neg h] at hr; exact hr
  exact lv_icmp_gt ok.1 ok.2.1 hd ht (fun h => kt h r (hr1 h) H locs ls hW hS hl) (fun h => kf h r (hr2 h) H locs ls hW hS hl)
theorem r_icmp_le {ρ : Type} {X : Cx} {G : Gx} {b nL d : Nat} {Qf : ρ → State → Prop} {M : Nat → Obj} {pc : Nat} {lv : List (Option Value)} {st : List Value} {cc : ByteArray} {own : String} {ret : Option FieldType} (ok : OK X G b cc nL d own ret) {τ : Type} {x y : Int32} {off : Int} {A B : Option τ} {K : τ → Option ρ} (tgt : Nat) (hd : decode cc pc = .ok (.if_icmp .le off, 3)) (ht : (pc : Int) + off = (tgt : Int)) (kt : x ≤ y → VO X G b nL Qf M tgt lv st (A.bind K)) (kf : ¬ x ≤ y → VO X G b nL Qf M (pc + 3) lv st (B.bind K)) : VO X G b nL Qf M pc lv (.int y :: .int x :: st) ((if x ≤ y then A else B).bind K) := by
  intro r hr H locs ls hW hS hl
  have hr1 : x ≤ y → A.bind K = some r := fun h => by rw [if_pos h] at hr; exact hr
  have hr2 : ¬ x ≤ y → B.bind K = some r := fun h => by rw [if_neg h] at hr; exact hr
  exact lv_icmp_le ok.1 ok.2.1 hd ht (fun h => kt h r (hr1 h) H locs ls hW hS hl) (fun h => kf h r (hr2 h) H locs ls hW hS hl)
theorem r_ite {ρ : Type} {X : Cx} {G : Gx} {b nL : Nat} {Qf : ρ → State → Prop} {M : Nat → Obj} {pc : Nat} {lv : List (Option Value)} {st : List Value} {τ : Type} {c : Prop} {ic : Decidable c} {A B : Option τ} {K : τ → Option ρ} (kt : c → VO X G b nL Qf M pc lv st (A.bind K)) (kf : ¬ c → VO X G b nL Qf M pc lv st (B.bind K)) : VO X G b nL Qf M pc lv st ((@ite _ c ic A B).bind K) := by
  intro r hr
  by_cases h : c
  · rw [if_pos h] at hr; exact kt h r hr
  · rw [if_neg h] at hr; exact kf h r hr
theorem r_tsw {ρ : Type} {X : Cx} {G : Gx} {b nL d : Nat} {Qf : ρ → State → Prop} {M : Nat → Obj} {pc : Nat} {lv : List (Option Value)} {st : List Value} {o : Option ρ} {cc : ByteArray} {own : String} {ret : Option FieldType} (ok : OK X G b cc nL d own ret) {dflt lo hi : Int} {offs : Array Int} {len : Nat} {x : Int32} {off : Int} (tgt : Nat) (c : Int32) (hd : decode cc pc = .ok (.tableswitch dflt lo hi offs, len)) (hx : x = c) (h1 : ¬ c.toInt < lo) (h2 : ¬ hi < c.toInt) (ho : offs[(c.toInt - lo).toNat]? = some off) (ht : (pc : Int) + off = (tgt : Int)) (k : VO X G b nL Qf M tgt lv st o) : VO X G b nL Qf M pc lv (.int x :: st) o :=
  fun r hr H locs ls hW hS hl => lv_tableIn ok.1 ok.2.1 hd (by rw [hx]; exact h1) (by rw [hx]; exact h2) (by rw [hx]; exact ho) ht (k r hr H locs ls hW hS hl)
theorem r_tswd {ρ : Type} {X : Cx} {G : Gx} {b nL d : Nat} {Qf : ρ → State → Prop} {M : Nat → Obj} {pc : Nat} {lv : List (Option Value)} {st : List Value} {o : Option ρ} {cc : ByteArray} {own : String} {ret : Option FieldType} (ok : OK X G b cc nL d own ret) {dflt lo hi : Int} {offs : Array Int} {len : Nat} {x : Int32} (tgt : Nat) (hd : decode cc pc = .ok (.tableswitch dflt lo hi offs, len)) (hx : x.toInt < lo ∨ hi < x.toInt) (ht : (pc : Int) + dflt = (tgt : Int)) (k : VO X G b nL Qf M tgt lv st o) : VO X G b nL Qf M pc lv (.int x :: st) o :=
  fun r hr H locs ls hW hS hl => lv_tableOut ok.1 ok.2.1 hd hx ht (k r hr H locs ls hW hS hl)
theorem r_lsw {ρ : Type} {X : Cx} {G : Gx} {b nL d : Nat} {Qf : ρ → State → Prop} {M : Nat → Obj} {pc : Nat} {lv : List (Option Value)} {st : List Value} {o : Option ρ} {cc : ByteArray} {own : String} {ret : Option FieldType} (ok : OK X G b cc nL d own ret) {dflt : Int} {ps : Array (Int × Int)} {len : Nat} {x : Int32} {off : Int} (tgt : Nat) (hd : decode cc pc = .ok (.lookupswitch dflt ps, len)) (hp : (ps.toList.zip (ps.toList.drop 1)).all (fun (a, next) => a.1 < next.1) = true) (ho : Op.lookupswitch.offset ps.toList dflt x.toInt = off) (ht : (pc : Int) + off = (tgt : Int)) (k : VO X G b nL Qf M tgt lv st o) : VO X G b nL Qf M pc lv (.int x :: st) o :=
  fun r hr H locs ls hW hS hl => lv_lookup ok.1 ok.2.1 hd hp ho ht (k r hr H locs ls hW hS hl)
theorem r_ifnull {ρ : Type} {X : Cx} {G : Gx} {b nL d : Nat} {Qf : ρ → State → Prop} {M : Nat → Obj} {pc : Nat} {lv : List (Option Value)} {st : List Value} {o : Option ρ} {cc : ByteArray} {own : String} {ret : Option FieldType} (ok : OK X G b cc nL d own ret) {x : Nat} {off : Int} (hd : decode cc pc = .ok (.ifnull off, 3)) (k : VO X G b nL Qf M (pc + 3) lv st o) : VO X G b nL Qf M pc lv (.ref x :: st) o :=
  fun r hr H locs ls hW hS hl => lv_ifnull ok.1 ok.2.1 hd (k r hr H locs ls hW hS hl)
theorem r_ifnonnullN {ρ : Type} {X : Cx} {G : Gx} {b nL d : Nat} {Qf : ρ → State → Prop} {M : Nat → Obj} {pc : Nat} {lv : List (Option Value)} {st : List Value} {o : Option ρ} {cc : ByteArray} {own : String} {ret : Option FieldType} (ok : OK X G b cc nL d own ret) {off : Int} (hd : decode cc pc = .ok (.ifnonnull off, 3)) (k : VO X G b nL Qf M (pc + 3) lv st o) : VO X G b nL Qf M pc lv (.null :: st) o :=
  fun r hr H locs ls hW hS hl => lv_ifnonnullN ok.1 ok.2.1 hd (k r hr H locs ls hW hS hl)
theorem r_ifnullN {ρ : Type} {X : Cx} {G : Gx} {b nL d : Nat} {Qf : ρ → State → Prop} {M : Nat → Obj} {pc : Nat} {lv : List (Option Value)} {st : List Value} {o : Option ρ} {cc : ByteArray} {own : String} {ret : Option FieldType} (ok : OK X G b cc nL d own ret) {off : Int} (tgt : Nat) (hd : decode cc pc = .ok (.ifnull off, 3)) (ht : (pc : Int) + off = (tgt : Int)) (k : VO X G b nL Qf M tgt lv st o) : VO X G b nL Qf M pc lv (.null :: st) o :=
  fun r hr H locs ls hW hS hl => lv_ifnullN ok.1 ok.2.1 hd ht (k r hr H locs ls hW hS hl)
theorem r_ifnonnull {ρ : Type} {X : Cx} {G : Gx} {b nL d : Nat} {Qf : ρ → State → Prop} {M : Nat → Obj} {pc : Nat} {lv : List (Option Value)} {st : List Value} {o : Option ρ} {cc : ByteArray} {own : String} {ret : Option FieldType} (ok : OK X G b cc nL d own ret) {x : Nat} {off : Int} (tgt : Nat) (hd : decode cc pc = .ok (.ifnonnull off, 3)) (ht : (pc : Int) + off = (tgt : Int)) (k : VO X G b nL Qf M tgt lv st o) : VO X G b nL Qf M pc lv (.ref x :: st) o :=
  fun r hr H locs ls hW hS hl => lv_ifnonnull ok.1 ok.2.1 hd ht (k r hr H locs ls hW hS hl)
