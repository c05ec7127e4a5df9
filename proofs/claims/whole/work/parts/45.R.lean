theorem cpy0 {α : Type} {f g : Nat → α} {n j : Nat} (h : j < n) : va_cpy f g 0 0 n j = f j := by
  rw [pk_cpy_in (Nat.zero_le _) (by omega)]
  congr 1
  omega
/-- letters, in fives and in eights -/
def e5 : Nat → List Nat → Nat
  | a, [] => a
  | a, x :: l => e5 (32 * a + x) l
def e8 : Nat → List Nat → Nat
  | a, [] => a
  | a, x :: l => e8 (256 * a + (x + 96)) l
def nmR (a b : Int64) : Prop := ∃ l : List Nat, 1 ≤ l.length ∧ l.length ≤ 8 ∧ (∀ x, x ∈ l → 1 ≤ x ∧ x ≤ 26) ∧ a = Int64.ofNat (e5 0 l) ∧ b = Int64.ofNat (e8 0 l)
def sQN (n h : Nat) (q : Obj) (nm : Nat → Int64) : Prop := (∀ k, k < h → nmR (q.2 3 k) (nm k)) ∧ ∀ p, p < n → nmR (q.2 6 p) (nm (6 + p))
def RC (n h L : Nat) (hp : Nat → Nat) (sc : Obj) (d : Nat → Int32) : Prop := ∃ S, sSV n h L hp S ∧ sSC n S sc ∧ sSM n S d ∧ S 0 1 ≤ 1000 ∧ S 0 0 ≤ 8 * S 0 1
/-- a saying: the reference's codes -/
def dpt (a : Nat → Nat) : Nat → Option Nat
  | 0 => some 0
  | i + 1 => match dpt a i with
    | none => none
    | some d => if a i = 20 then (if 1 ≤ d then some d else none) else if a i = 21 ∨ a i = 22 then (if 2 ≤ d then some (d - 1) else none) else some (d + 1)
def tok (n h A B C : Nat) : Prop := (A ≤ 3 ∧ B = 0 ∧ C = 0) ∨ (A = 4 ∧ B = 0 ∧ C < n) ∨ (A = 5 ∧ B = 0 ∧ C < h) ∨ (6 ≤ A ∧ A ≤ 9 ∧ 60 ≤ B ∧ B ≤ 62 ∧ C ≤ 999) ∨ (20 ≤ A ∧ A ≤ 22 ∧ B = 0 ∧ C = 0)
def cwd (A : Nat) : Nat := if A ≤ 2 then 21 + A else if A = 3 then 12 else if A = 4 then 4 else if A = 5 then 24 else if A ≤ 9 then A + 19 else if A = 20 then 20 else if A = 21 then 19 else 18
def cwB (A B C : Nat) : Nat := if A = 4 ∨ A = 5 then C else B
def cwC (A C : Nat) : Nat := if A = 4 ∨ A = 5 then 0 else C
def sayC (c : Nat) (A B C : Nat → Nat) (sy : Obj) : Prop := sy.1 0 1 = nI c ∧ ∀ i, i < c → sy.1 1 i = nI (cwd (A i)) ∧ sy.1 2 i = nI (cwB (A i) (B i) (C i)) ∧ sy.1 3 i = nI (cwC (A i) (C i))
def sayM (c : Nat) (A B C : Nat → Nat) (s : Nat → Int32) : Prop := s 161 = nI c ∧ ∀ i, i < c → s (162 + 3 * i) = nI (A i) ∧ s (163 + 3 * i) = nI (B i) ∧ s (164 + 3 * i) = nI (C i)
def sayR (n h : Nat) (sy : Obj) (s : Nat → Int32) : Prop := ∃ (c o : Nat) (A B C : Nat → Nat), c ≤ 40 ∧ o ≤ 20 ∧ (o = 0 ↔ c = 0) ∧ sy.1 0 0 = nI o ∧ sayC c A B C sy ∧ sayM c A B C s ∧ (∀ i, i < c → tok n h (A i) (B i) (C i)) ∧ (c ≠ 0 → dpt A c = some 1)
def pStr (n h L e t : Nat) (hp hm : Nat → Nat) (sr : Nat → Bool) (q sc sy : Obj) (s : Nat → Int32) (nm : Nat → Int64) : Prop :=
  sQB n h L e t hp hm ∧ sQC n h L e t hp hm sr q ∧ sQM n h L e t hp hm sr s ∧ sQN n h q nm ∧ RC n h L hp sc (fun j => s (69 + j)) ∧ sayR n h sy s
def pPast (n h L : Nat) (hp : Nat → Nat) (X : Nat → Obj) (un : Nat → Int32) (many : Int32) : Prop := ∃ f z, f < 9 ∧ z ≤ 8 ∧ (X 100).1 0 1 = nI f ∧ (X 100).1 0 2 = nI z ∧ many = nI z ∧ ∀ i, i < z → RC n h L hp (X (102 + 11 * ((f + i) % 9))) (fun j => un (92 * i + j))
def pImg (st q sc sy : Obj) (im : Nat → Int32) (nk : Nat → Int64) (b : Int32) : Prop := (st.1 0 3 = nI 0 ∧ b = nI 0) ∨ (st.1 0 3 = nI 1 ∧ b = nI 1 ∧ ∃ n h L e t hp hm sr, pStr n h L e t hp hm sr q sc sy im nk)
def isB (v : Int32) : Prop := ∃ c, c < 256 ∧ v = i2b (nI c)
def kw5 : List Nat → Int64 := fun l => Int64.ofNat (e5 0 l)
def kw8 : List Nat → Int64 := fun l => Int64.ofNat (e8 0 l)
def kws : List (List Nat) := [[12,1,14,5],[8,15,21,19,5],[16,5,18,19,15,14],[20,18,1,13,16],[11,14,15,23,19],[3,1,12,12,19],[5,1,18],[19,20,1,25],[21,16],[4,15,23,14],[19,20,1,14,4,19],[11,9,14,4],[19,20,5,18,14],[11,14,15,3,11,19],[7,15,5,19],[17,21,9,20,19],[13,5,5,20,19],[20,9,3,11],[15,18],[1,14,4],[14,15,20],[23,1,12,11,9,14,7],[11,14,15,3,11,9,14,7],[9,14,19,9,4,5],[15,6],[16,12,1,3,5],[11,14,15,23,14],[23,1,9,20,5,4],[14,21,13,2,5,18]]
def pWds (w rs : Nat → Int64) : Prop := ∀ k, k < 29 → w k = kw5 (kws.getD k []) ∧ rs k = kw8 (kws.getD k [])
def pTape (ta : Obj) (by' : Nat → Int32) (len : Int32) : Prop := ∃ z, z ≤ 940 ∧ ta.1 0 1 = nI z ∧ len = nI z ∧ ∀ i, i < z → ta.1 2 i = by' i ∧ isB (by' i)
def pOpt (v has one : Int32) : Prop := (has = nI 0 ∧ v = -nI 1) ∨ (has = nI 1 ∧ v = one)
def pChn (ch : Obj) (many : Int32) (row : Nat → Int32) : Prop := (ch.1 0 2 = nI 0 ∧ many = -nI 1) ∨ ∃ z, z ≤ 8 ∧ ch.1 0 2 = nI z ∧ many = nI z ∧ ∀ k, k < z → ch.1 1 k = row k
def pLab (la : Obj) (many : Int32) (tx : Nat → Int32) : Prop := ∃ z, z ≤ 32 ∧ la.1 0 0 = nI z ∧ many = nI z ∧ ∀ k, k < z → la.1 1 k = tx k ∧ ∃ c, c < 128 ∧ tx k = nI c
def pTol (bk : Obj) (has : Int32) (ta : Nat → Int32) : Prop := (bk.1 0 8 = nI 0 ∧ has = nI 0) ∨ (bk.1 0 8 = nI 1 ∧ has = nI 1 ∧ bk.1 0 0 = ta 0 ∧ bk.1 0 1 = ta 1 ∧ bk.1 0 9 = ta 2 ∧ bk.1 0 10 = ta 3)
/-- what lies beside the street -/
def pRest (X : Nat → Obj) (m : Obj) : Prop :=
  pImg (X 52) (X 53) (X 60) (X 71) (fun i => m.1 16 (342 * 0 + i)) (fun i => m.2 17 (14 * 0 + i)) (m.1 18 0) ∧ pImg (X 76) (X 77) (X 84) (X 95) (fun i => m.1 16 (342 * 1 + i)) (fun i => m.2 17 (14 * 1 + i)) (m.1 18 1) ∧
  pWds ((X 1).2 1) (m.2 6) ∧ (X 0).1 0 12 = m.1 0 15 ∧ pOpt ((X 0).1 0 13) (m.1 0 25) (m.1 0 24) ∧ pOpt ((X 0).1 0 14) (m.1 0 31) (m.1 0 30) ∧
  pChn (X 220) (m.1 0 29) (m.1 11) ∧ pLab (X 223) (m.1 0 33) (m.1 12) ∧ pTol (X 213) (m.1 0 37) (m.1 13)
def R (X : Nat → Obj) (m : Obj) : Prop := ∃ n h L e t hp hm sr, pStr n h L e t hp hm sr (X 5) (X 12) (X 23) (m.1 2) (m.2 5) ∧ pPast n h L hp X (m.1 7) (m.1 0 23) ∧ pTape (X 1) (m.1 1) (m.1 0 2) ∧ pRest X m
section
variable {X X' : Nat → Obj} {n h L e t : Nat} {hp hm : Nat → Nat} {sr : Nat → Bool} {q m m' m0 sc sc2 : Obj} {S S' : Nat → Nat → Nat} {T B : Nat}
theorem R_thr {v : Int32} (hR : R X m) : R X (sI m 0 0 v) := hR
theorem mFr_eq (hf : mFr m m') : m' = sA m 2 (m'.1 2) := by
  obtain ⟨h2, h1⟩ := hf
  refine Prod.ext ?_ h2
  funext j
  show m'.1 j = va_up m.1 2 (m'.1 2) j
  rw [va_up_at]
  by_cases hj : j = 2
  · rw [if_pos hj, hj]
  · rw [if_neg hj]
    funext i
    rcases h1 j i with h | h
    · exact h
    · exact absurd h.1 hj
theorem sA_self (j : Nat) : sA m j (m.1 j) = m := by
  refine Prod.ext ?_ rfl
  funext j'
  show va_up m.1 j (m.1 j) j' = _
  rw [va_up_at]
  by_cases hj : j' = j
  · rw [if_pos hj, hj]
  · rw [if_neg hj]
/-- a loop that writes one row of an object -/
theorem cpyL {f : Int32 × Obj → Option ((Int32 × Obj) ⊕ Obj)} (j a N : Nat) (hN : N < 2000) (v : Nat → Int32)
    (hs : ∀ k, k < N → f (nI k, sA m j (fun i => if a ≤ i ∧ i < a + k then v (i - a) else m.1 j i)) = some (.inl (nI (k + 1), sI (sA m j (fun i => if a ≤ i ∧ i < a + k then v (i - a) else m.1 j i)) j (a + k) (v k))))
    (he : ∀ x, f (nI N, x) = some (.inr x)) : iter f FU (nI 0, m) = some (sA m j (fun i => if a ≤ i ∧ i < a + N then v (i - a) else m.1 j i)) := by
  have key := lpo (f := f) (J := fun k x => x = sA m j (fun i => if a ≤ i ∧ i < a + k then v (i - a) else m.1 j i)) N hN (x := m) ?_ (fun k x hk hz => ?_) (fun x _ => he x)
  · obtain ⟨x', g1, g2⟩ := key
    rw [g1, g2]
  · have : (fun i => if a ≤ i ∧ i < a + 0 then v (i - a) else m.1 j i) = m.1 j := by
      funext i
      rw [if_neg (by omega)]
    rw [this, sA_self]
  · subst hz
    refine ⟨_, hs k hk, ?_⟩
    refine Prod.ext ?_ rfl
    show va_up (va_up m.1 j _) j (va_up (va_up m.1 j _ j) (a + k) (v k)) = va_up m.1 j _
    funext j'
    simp only [va_up_at, if_true]
    by_cases hj : j' = j
    · rw [if_pos hj, if_pos hj]
      funext i
      simp only [va_up_at]
      by_cases h1 : i = a + k
      · rw [if_pos h1, if_pos (by omega)]
        congr 1
        omega
      · rw [if_neg h1]
        by_cases h2 : a ≤ i ∧ i < a + k
        · rw [if_pos h2, if_pos (by omega)]
        · rw [if_neg h2, if_neg (by omega)]
    · simp only [hj, if_false]
theorem sc_copy : ∃ sc', fSc_copyFrom sc2 sc = some sc' ∧ (∀ i, 1 ≤ i → i ≤ 3 → sc'.1 0 i = sc2.1 0 i) ∧ (∀ j i, 1 ≤ j → j ≤ 2 → i < 12 → sc'.1 j i = sc2.1 j i) ∧ (∀ j i, 3 ≤ j → j ≤ 10 → i < 8 → sc'.1 j i = sc2.1 j i) := by
  refine ⟨_, rfl, fun i h1 h2 => ?_, fun j i h1 h2 h3 => ?_, fun j i h1 h2 h3 => ?_⟩
  · rcases (show i = 1 ∨ i = 2 ∨ i = 3 by omega) with z | z | z <;> subst z <;> rfl
  · rcases (show j = 1 ∨ j = 2 by omega) with z | z <;> subst z
    · exact cpy0 h3
    · exact cpy0 h3
  · rcases (show j = 3 ∨ j = 4 ∨ j = 5 ∨ j = 6 ∨ j = 7 ∨ j = 8 ∨ j = 9 ∨ j = 10 by omega) with z | z | z | z | z | z | z | z <;> subst z <;> exact cpy0 h3
theorem sSC_copy (hn : n ≤ 8) (hc : S 0 3 ≤ 12) (hS : sSC n S sc2) : ∃ sc', fSc_copyFrom sc2 sc = some sc' ∧ sSC n S sc' := by
  obtain ⟨sc', g1, g2, g3, g4⟩ := sc_copy (sc := sc) (sc2 := sc2)
  obtain ⟨⟨s1, s2, s3⟩, s4, s5⟩ := hS
  refine ⟨sc', g1, ⟨?_, ?_, ?_⟩, fun k hk => ?_, fun r hr => ?_⟩
  · rw [g2 1 (by omega) (by omega)]; exact s1
  · rw [g2 2 (by omega) (by omega)]; exact s2
  · rw [g2 3 (by omega) (by omega)]; exact s3
  · rw [g3 1 k (by omega) (by omega) (by omega), g3 2 k (by omega) (by omega) (by omega)]; exact s4 k hk
  · rw [g4 3 r (by omega) (by omega) (by omega), g4 4 r (by omega) (by omega) (by omega), g4 5 r (by omega) (by omega) (by omega), g4 6 r (by omega) (by omega) (by omega), g4 7 r (by omega) (by omega) (by omega), g4 8 r (by omega) (by omega) (by omega), g4 9 r (by omega) (by omega) (by omega), g4 10 r (by omega) (by omega) (by omega)]
    exact s5 r hr
theorem RC_copy {d : Nat → Int32} (hn : n ≤ 8) (hS : RC n h L hp sc2 d) : ∃ sc', fSc_copyFrom sc2 sc = some sc' ∧ RC n h L hp sc' d := by
  obtain ⟨S, v1, v2, v3, v4⟩ := hS
  obtain ⟨sc', g1, g2⟩ := sSC_copy (sc := sc) hn v1.1.2 v2
  exact ⟨sc', g1, S, v1, g2, v3, v4⟩
theorem sSM_d {d d' : Nat → Int32} (hn : n ≤ 8) (hc : S 0 3 ≤ 12) (he : ∀ j, j < 92 → d' j = d j) (hS : sSM n S d) : sSM n S d' := by
  obtain ⟨⟨s1, s2, s3, s3'⟩, s4, s5⟩ := hS
  refine ⟨⟨?_, ?_, ?_, ?_⟩, fun k hk => ?_, fun r hr => ?_⟩
  · rw [he 0 (by omega)]; exact s1
  · rw [he 1 (by omega)]; exact s2
  · rw [he 2 (by omega)]; exact s3
  · rw [he 3 (by omega)]; exact s3'
  · rw [he (68 + k) (by omega), he (80 + k) (by omega)]; exact s4 k hk
  · rw [he (4 + r) (by omega), he (12 + r) (by omega), he (20 + r) (by omega), he (28 + r) (by omega), he (36 + r) (by omega), he (44 + r) (by omega), he (52 + r) (by omega), he (60 + r) (by omega)]
    exact s5 r hr
theorem RC_d {d d' : Nat → Int32} (hn : n ≤ 8) (he : ∀ j, j < 92 → d' j = d j) (hS : RC n h L hp sc d) : RC n h L hp sc d' := by
  obtain ⟨S, v1, v2, v3, v4⟩ := hS
  exact ⟨S, v1, v2, sSM_d hn v1.1.2 he v3, v4⟩
theorem qu_copy {q2 : Obj} : ∃ q', fQu_copyFrom q2 q = some q' ∧ (∀ i, i ≤ 4 → q'.1 0 i = q2.1 0 i) ∧ (∀ i, i < 6 → q'.1 1 i = q2.1 1 i ∧ q'.1 2 i = q2.1 2 i ∧ q'.2 3 i = q2.2 3 i) ∧ (∀ i, i < 8 → q'.1 4 i = q2.1 4 i ∧ q'.1 5 i = q2.1 5 i ∧ q'.2 6 i = q2.2 6 i) := by
  refine ⟨_, rfl, fun i h1 => ?_, fun i h1 => ⟨?_, ?_, ?_⟩, fun i h1 => ⟨?_, ?_, ?_⟩⟩
  · rcases (show i = 0 ∨ i = 1 ∨ i = 2 ∨ i = 3 ∨ i = 4 by omega) with z | z | z | z | z <;> subst z <;> rfl
  all_goals exact cpy0 h1
theorem sQ_copy {q2 : Obj} {nm : Nat → Int64} (hB : sQB n h L e t hp hm) (hC : sQC n h L e t hp hm sr q2) (hN : sQN n h q2 nm) : ∃ q', fQu_copyFrom q2 q = some q' ∧ sQC n h L e t hp hm sr q' ∧ sQN n h q' nm := by
  obtain ⟨q', g1, g2, g3, g4⟩ := qu_copy (q := q) (q2 := q2)
  obtain ⟨b1, b2, b3, b4, b5, b6, b7, b8, b9⟩ := hB
  obtain ⟨⟨c0, c1, c2, c3, c4⟩, c5, c6⟩ := hC
  refine ⟨q', g1, ⟨⟨?_, ?_, ?_, ?_, ?_⟩, fun k hk => ?_, fun p hpn => ?_⟩, fun k hk => ?_, fun p hpn => ?_⟩
  · rw [g2 0 (by omega)]; exact c0
  · rw [g2 1 (by omega)]; exact c1
  · rw [g2 2 (by omega)]; exact c2
  · rw [g2 3 (by omega)]; exact c3
  · rw [g2 4 (by omega)]; exact c4
  · obtain ⟨a1, a2, -⟩ := g3 k (by omega)
    rw [a1, a2]; exact c5 k hk
  · obtain ⟨a1, a2, -⟩ := g4 p (by omega)
    rw [a1, a2]; exact c6 p hpn
  · rw [(g3 k (by omega)).2.2]; exact hN.1 k hk
  · rw [(g4 p (by omega)).2.2]; exact hN.2 p hpn
theorem sy_copy {sy2 sy : Obj} : ∃ sy', fSy_copyFrom sy2 sy = some sy' ∧ sy'.1 0 0 = sy2.1 0 0 ∧ sy'.1 0 1 = sy2.1 0 1 ∧ ∀ i, i < 40 → sy'.1 1 i = sy2.1 1 i ∧ sy'.1 2 i = sy2.1 2 i ∧ sy'.1 3 i = sy2.1 3 i := by
  refine ⟨_, rfl, rfl, rfl, fun i h1 => ⟨?_, ?_, ?_⟩⟩
  all_goals exact cpy0 h1
theorem say_copy {sy2 sy : Obj} {s : Nat → Int32} (hS : sayR n h sy2 s) : ∃ sy', fSy_copyFrom sy2 sy = some sy' ∧ sayR n h sy' s := by
  obtain ⟨sy', g1, g2, g3, g4⟩ := sy_copy (sy := sy) (sy2 := sy2)
  obtain ⟨c, o, A, B, C, s1, s2, s3, s4, s5, s6⟩ := hS
  refine ⟨sy', g1, c, o, A, B, C, s1, s2, s3, by rw [g2]; exact s4, ⟨by rw [g3]; exact s5.1, fun i hi => ?_⟩, s6⟩
  obtain ⟨a1, a2, a3⟩ := g4 i (by omega)
  rw [a1, a2, a3]
  exact s5.2 i hi
theorem sayR_s {sy : Obj} {s s' : Nat → Int32} (he : ∀ i, 161 ≤ i → i < 342 → s' i = s i) (hS : sayR n h sy s) : sayR n h sy s' := by
  obtain ⟨c, o, A, B, C, s1, s2, s3, s4, s5, ⟨s6, s7⟩, s8⟩ := hS
  refine ⟨c, o, A, B, C, s1, s2, s3, s4, s5, ⟨?_, fun i hi => ?_⟩, s8⟩
  · rw [he 161 (by omega) (by omega)]; exact s6
  · rw [he (162 + 3 * i) (by omega) (by omega), he (163 + 3 * i) (by omega) (by omega), he (164 + 3 * i) (by omega) (by omega)]; exact s7 i hi
end
