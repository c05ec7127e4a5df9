theorem lcmp0 (x y : Int64) : lg_cmp x y = (0 : Int32) ↔ x = y := by
  unfold lg_cmp
  by_cases h1 : x > y
  · rw [if_pos h1]
    constructor
    · intro z
      exact absurd z (by decide +kernel)
    · intro z
      rw [z] at h1
      exact (Int64.lt_irrefl h1).elim
  · rw [if_neg h1]
    by_cases h2 : x = y
    · rw [if_pos h2]
      exact ⟨fun _ => h2, fun _ => rfl⟩
    · rw [if_neg h2]
      constructor
      · intro z
        exact absurd z (by decide +kernel)
      · intro z
        exact absurd z h2
theorem lsmod : ∀ s, s < 64 → (((nI s).toInt64 &&& (63 : Int64)).toBitVec.smod 64).toNat = s := by decide +kernel
theorem lshr_n {n s : Nat} (h : n < 2 ^ 63) (hs : s < 64) : lshr (lN n) (nI s) = lN (n / 2 ^ s) := by
  unfold lshr
  have hm := lsmod s hs
  generalize (nI s).toInt64 &&& (63 : Int64) = k at hm ⊢
  apply Int64.toInt_inj.mp
  have e : (lN n >>> k).toInt = (lN n).toInt >>> s := by
    show ((lN n).toBitVec.sshiftRight (k.toBitVec.smod 64).toNat).toInt = _
    rw [hm, BitVec.toInt_sshiftRight]
    rfl
  have h2 : n / 2 ^ s ≤ n := Nat.div_le_self _ _
  rw [e, pk_lT h, pk_lT (by omega), Int.shiftRight_eq_div_pow]
  rfl
theorem lshl5 (n : Nat) : lshl (lN n) (5 : Int32) = lN (n * 32) := by
  apply Int64.toBitVec_inj.mp
  apply BitVec.eq_of_toNat_eq
  show ((lN n).toBitVec <<< ((((5 : Int32).toInt64 &&& (63 : Int64)).toBitVec.smod 64))).toNat = _
  have hk : (((5 : Int32).toInt64 &&& (63 : Int64)).toBitVec.smod 64).toNat = 5 := by decide +kernel
  rw [BitVec.shiftLeft_eq', hk, BitVec.toNat_shiftLeft, Nat.shiftLeft_eq]
  show (BitVec.ofNat 64 n).toNat * 2 ^ 5 % 2 ^ 64 = (BitVec.ofNat 64 (n * 32)).toNat
  rw [BitVec.toNat_ofNat, BitVec.toNat_ofNat]
  omega
theorem lshl8 (n : Nat) : lshl (lN n) (8 : Int32) = lN (n * 256) := by
  apply Int64.toBitVec_inj.mp
  apply BitVec.eq_of_toNat_eq
  show ((lN n).toBitVec <<< ((((8 : Int32).toInt64 &&& (63 : Int64)).toBitVec.smod 64))).toNat = _
  have hk : (((8 : Int32).toInt64 &&& (63 : Int64)).toBitVec.smod 64).toNat = 8 := by decide +kernel
  rw [BitVec.shiftLeft_eq', hk, BitVec.toNat_shiftLeft, Nat.shiftLeft_eq]
  show (BitVec.ofNat 64 n).toNat * 2 ^ 8 % 2 ^ 64 = (BitVec.ofNat 64 (n * 256)).toNat
  rw [BitVec.toNat_ofNat, BitVec.toNat_ofNat]
  omega
theorem lor_n (a b : Nat) : lN a ||| lN b = lN (a ||| b) := by
  apply Int64.toBitVec_inj.mp
  rw [Int64.toBitVec_or]
  apply BitVec.eq_of_getLsbD_eq
  intro i hi
  rw [BitVec.getLsbD_or]
  show ((BitVec.ofNat 64 a).getLsbD i || (BitVec.ofNat 64 b).getLsbD i) = (BitVec.ofNat 64 (a ||| b)).getLsbD i
  rw [BitVec.getLsbD_ofNat, BitVec.getLsbD_ofNat, BitVec.getLsbD_ofNat, Nat.testBit_or, decide_eq_true hi]
  simp
theorem land_n (a b : Nat) : lN a &&& lN b = lN (a &&& b) := by
  apply Int64.toBitVec_inj.mp
  rw [Int64.toBitVec_and]
  apply BitVec.eq_of_getLsbD_eq
  intro i hi
  rw [BitVec.getLsbD_and]
  show ((BitVec.ofNat 64 a).getLsbD i && (BitVec.ofNat 64 b).getLsbD i) = (BitVec.ofNat 64 (a &&& b)).getLsbD i
  rw [BitVec.getLsbD_ofNat, BitVec.getLsbD_ofNat, BitVec.getLsbD_ofNat, Nat.testBit_and, decide_eq_true hi]
  simp
theorem and31 (a : Nat) : a &&& 31 = a % 32 := Nat.and_two_pow_sub_one_eq_mod a 5
theorem and255m (a : Nat) : a &&& 255 = a % 256 := Nat.and_two_pow_sub_one_eq_mod a 8
/-- letters from the last -/
def v5 : List Nat → Nat
  | [] => 0
  | x :: r => x + 32 * v5 r
def v8 : List Nat → Nat
  | [] => 0
  | x :: r => (x + 96) + 256 * v8 r
theorem e5_v : ∀ (l : List Nat) (a : Nat), e5 a l = v5 (l.reverse ++ []) + 32 ^ l.length * a
  | [], a => by
    show a = 0 + 1 * a
    omega
  | x :: l, a => by
    show e5 (32 * a + x) l = _
    have ap : ∀ (r : List Nat) (y : Nat), v5 (r ++ [y]) = v5 r + 32 ^ r.length * y := by
      intro r
      induction r with
      | nil => intro y; show y + 32 * 0 = 0 + 1 * y; omega
      | cons z r ih =>
        intro y
        show z + 32 * v5 (r ++ [y]) = (z + 32 * v5 r) + 32 ^ (r.length + 1) * y
        rw [ih y, Nat.pow_succ, Nat.mul_add, Nat.mul_assoc, Nat.mul_left_comm]
        omega
    rw [e5_v l, List.append_nil, List.append_nil, List.reverse_cons, ap, List.length_reverse, List.length_cons, Nat.pow_succ, Nat.mul_add, Nat.mul_assoc]
    omega
theorem e8_v : ∀ (l : List Nat) (a : Nat), e8 a l = v8 (l.reverse ++ []) + 256 ^ l.length * a
  | [], a => by
    show a = 0 + 1 * a
    omega
  | x :: l, a => by
    show e8 (256 * a + (x + 96)) l = _
    have ap : ∀ (r : List Nat) (y : Nat), v8 (r ++ [y]) = v8 r + 256 ^ r.length * (y + 96) := by
      intro r
      induction r with
      | nil => intro y; show (y + 96) + 256 * 0 = 0 + 1 * (y + 96); omega
      | cons z r ih =>
        intro y
        show (z + 96) + 256 * v8 (r ++ [y]) = ((z + 96) + 256 * v8 r) + 256 ^ (r.length + 1) * (y + 96)
        rw [ih y, Nat.pow_succ, Nat.mul_add, Nat.mul_assoc, Nat.mul_left_comm]
        omega
    rw [e8_v l, List.append_nil, List.append_nil, List.reverse_cons, ap, List.length_reverse, List.length_cons, Nat.pow_succ, Nat.mul_add, Nat.mul_assoc]
    omega
theorem e5_0 (l : List Nat) : e5 0 l = v5 l.reverse := by
  rw [e5_v l 0, List.append_nil]; omega
theorem e8_0 (l : List Nat) : e8 0 l = v8 l.reverse := by
  rw [e8_v l 0, List.append_nil]; omega
def lok (l : List Nat) : Prop := ∀ x, x ∈ l → 1 ≤ x ∧ x ≤ 26
theorem v5_dig : ∀ {r : List Nat} (_ : lok r) (j : Nat), v5 r / 32 ^ j % 32 = r.getD j 0
  | [], _, j => by
    show 0 / 32 ^ j % 32 = 0
    rw [Nat.zero_div]
  | x :: r, h, 0 => by
    have := h x (List.mem_cons_self)
    show (x + 32 * v5 r) / 1 % 32 = x
    omega
  | x :: r, h, j + 1 => by
    have hx := h x (List.mem_cons_self)
    have ih := v5_dig (r := r) (fun y hy => h y (List.mem_cons_of_mem _ hy)) j
    show (x + 32 * v5 r) / 32 ^ (j + 1) % 32 = r.getD j 0
    rw [show 32 ^ (j + 1) = 32 * 32 ^ j by rw [Nat.pow_succ]; exact Nat.mul_comm _ _, ← Nat.div_div_eq_div_mul, show (x + 32 * v5 r) / 32 = v5 r by omega]
    exact ih
theorem v8_dig : ∀ {r : List Nat} (_ : lok r) (j : Nat), v8 r / 256 ^ j % 256 = if j < r.length then r.getD j 0 + 96 else 0
  | [], _, j => by
    show 0 / 256 ^ j % 256 = _
    rw [Nat.zero_div, if_neg (by show ¬ j < 0; omega)]
  | x :: r, h, 0 => by
    have := h x (List.mem_cons_self)
    show ((x + 96) + 256 * v8 r) / 1 % 256 = _
    rw [if_pos (by show 0 < r.length + 1; omega)]
    show _ = x + 96
    omega
  | x :: r, h, j + 1 => by
    have hx := h x (List.mem_cons_self)
    have ih := v8_dig (r := r) (fun y hy => h y (List.mem_cons_of_mem _ hy)) j
    show ((x + 96) + 256 * v8 r) / 256 ^ (j + 1) % 256 = if j + 1 < r.length + 1 then r.getD j 0 + 96 else 0
    rw [show 256 ^ (j + 1) = 256 * 256 ^ j by rw [Nat.pow_succ]; exact Nat.mul_comm _ _, ← Nat.div_div_eq_div_mul, show ((x + 96) + 256 * v8 r) / 256 = v8 r by omega, ih]
    by_cases hj : j < r.length
    · rw [if_pos hj, if_pos (by omega)]
    · rw [if_neg hj, if_neg (by omega)]
theorem v5_lt : ∀ {r : List Nat} (_ : lok r), v5 r < 32 ^ r.length
  | [], _ => by show 0 < 1; omega
  | x :: r, h => by
    have hx := h x (List.mem_cons_self)
    have ih := v5_lt (r := r) (fun y hy => h y (List.mem_cons_of_mem _ hy))
    show x + 32 * v5 r < 32 ^ (r.length + 1)
    rw [Nat.pow_succ]
    omega
theorem v8_lt : ∀ {r : List Nat} (_ : lok r), 2 * v8 r < 256 ^ r.length ∨ r = []
  | [], _ => Or.inr rfl
  | x :: r, h => by
    left
    have hx := h x (List.mem_cons_self)
    show 2 * ((x + 96) + 256 * v8 r) < 256 ^ (r.length + 1)
    rw [Nat.pow_succ]
    rcases v8_lt (r := r) (fun y hy => h y (List.mem_cons_of_mem _ hy)) with ih | ih
    · omega
    · subst ih
      show 2 * ((x + 96) + 256 * 0) < 1 * 256
      omega
theorem v5_inj : ∀ {r s : List Nat} (_ : lok r) (_ : lok s), v5 r = v5 s → r = s
  | [], [], _, _, _ => rfl
  | [], y :: s, _, h, e => by
    have := h y (List.mem_cons_self)
    have e' : 0 = y + 32 * v5 s := e
    omega
  | x :: r, [], h, _, e => by
    have := h x (List.mem_cons_self)
    have e' : x + 32 * v5 r = 0 := e
    omega
  | x :: r, y :: s, hr, hs, e => by
    have h1 := hr x (List.mem_cons_self)
    have h2 := hs y (List.mem_cons_self)
    have e' : x + 32 * v5 r = y + 32 * v5 s := e
    have hxy : x = y := by omega
    have : v5 r = v5 s := by omega
    rw [hxy, v5_inj (fun z hz => hr z (List.mem_cons_of_mem _ hz)) (fun z hz => hs z (List.mem_cons_of_mem _ hz)) this]
theorem v8_inj : ∀ {r s : List Nat} (_ : lok r) (_ : lok s), v8 r = v8 s → r = s
  | [], [], _, _, _ => rfl
  | [], y :: s, _, h, e => by
    have e' : 0 = (y + 96) + 256 * v8 s := e
    omega
  | x :: r, [], h, _, e => by
    have e' : (x + 96) + 256 * v8 r = 0 := e
    omega
  | x :: r, y :: s, hr, hs, e => by
    have h1 := hr x (List.mem_cons_self)
    have h2 := hs y (List.mem_cons_self)
    have e' : (x + 96) + 256 * v8 r = (y + 96) + 256 * v8 s := e
    have hxy : x = y := by omega
    have : v8 r = v8 s := by omega
    rw [hxy, v8_inj (fun z hz => hr z (List.mem_cons_of_mem _ hz)) (fun z hz => hs z (List.mem_cons_of_mem _ hz)) this]
theorem lok_rev {l : List Nat} (h : lok l) : lok l.reverse := fun x hx => h x (List.mem_reverse.mp hx)
theorem e5_lt {l : List Nat} (h : lok l) (hl : l.length ≤ 8) : e5 0 l < 2 ^ 40 := by
  rw [e5_0]
  have h1 := v5_lt (lok_rev h)
  rw [List.length_reverse] at h1
  have h2 : 32 ^ l.length ≤ 32 ^ 8 := Nat.pow_le_pow_right (by decide) hl
  have h3 : 32 ^ 8 = 2 ^ 40 := by decide
  omega
theorem e8_lt {l : List Nat} (h : lok l) (hl : l.length ≤ 8) : e8 0 l < 2 ^ 63 := by
  rw [e8_0]
  rcases v8_lt (lok_rev h) with h1 | h1
  · rw [List.length_reverse] at h1
    have h2 : 256 ^ l.length ≤ 256 ^ 8 := Nat.pow_le_pow_right (by decide) hl
    have h3 : 256 ^ 8 = 2 ^ 64 := by decide
    omega
  · rw [h1]; decide
theorem kw_inj5 {l l' : List Nat} (h : lok l) (h' : lok l') (hl : l.length ≤ 8) (hl' : l'.length ≤ 8) : kw5 l = kw5 l' ↔ l = l' := by
  have b1 := e5_lt h hl
  have b2 := e5_lt h' hl'
  constructor
  · intro e
    have e' : lN (e5 0 l) = lN (e5 0 l') := e
    rw [pk_lEQ (by omega) (by omega), e5_0, e5_0] at e'
    have := v5_inj (lok_rev h) (lok_rev h') e'
    exact List.reverse_inj.mp this
  · intro e; rw [e]
theorem kw_inj8 {l l' : List Nat} (h : lok l) (h' : lok l') (hl : l.length ≤ 8) (hl' : l'.length ≤ 8) : kw8 l = kw8 l' ↔ l = l' := by
  have b1 := e8_lt h hl
  have b2 := e8_lt h' hl'
  constructor
  · intro e
    have e' : lN (e8 0 l) = lN (e8 0 l') := e
    rw [pk_lEQ (by omega) (by omega), e8_0, e8_0] at e'
    have := v8_inj (lok_rev h) (lok_rev h') e'
    exact List.reverse_inj.mp this
  · intro e; rw [e]
/-- two names are one in fives just as they are in eights -/
theorem nmR_iff {a b a' b' : Int64} (h : nmR a b) (h' : nmR a' b') : a = a' ↔ b = b' := by
  obtain ⟨l, l1, l2, l3, rfl, rfl⟩ := h
  obtain ⟨l', k1, k2, k3, rfl, rfl⟩ := h'
  exact (kw_inj5 l3 k3 l2 k2).trans (kw_inj8 l3 k3 l2 k2).symm
theorem nmR_0 {a b : Int64} (h : nmR a b) : ¬ a = 0 := by
  obtain ⟨l, l1, l2, l3, rfl, rfl⟩ := h
  have b1 := e5_lt l3 l2
  intro e
  have e' : lN (e5 0 l) = lN 0 := e
  rw [pk_lEQ (by omega) (by omega), e5_0] at e'
  have := v5_inj (r := l.reverse) (s := []) (lok_rev l3) (fun x hx => by cases hx) e'
  have h2 : l.reverse.length = 0 := by rw [this]; rfl
  rw [List.length_reverse] at h2
  omega
