def kk {α : Type} (P : α → Prop) (o : Option α) : Prop := ∀ a, o = some a → P a
theorem kk_some {α : Type} {P : α → Prop} {a : α} (h : P a) : kk P (some a) := fun b hb => Option.some.inj hb ▸ h
theorem kk_bind {α β : Type} {P : β → Prop} {Q : α → Prop} {o : Option α} {f : α → Option β} (h1 : kk Q o) (h2 : ∀ a, Q a → kk P (f a)) : kk P (o.bind f) := fun b hb => by
  cases o with
  | none => cases hb
  | some a => exact h2 a (h1 a rfl) b hb
theorem kk_any {α β : Type} {P : β → Prop} {o : Option α} {f : α → Option β} (h2 : ∀ a, kk P (f a)) : kk P (o.bind f) := kk_bind (Q := fun _ => True) (fun _ _ => trivial) (fun a _ => h2 a)
theorem kk_ite {α : Type} {P : α → Prop} {c : Prop} [Decidable c] {a b : Option α} (h1 : kk P a) (h2 : kk P b) : kk P (if c then a else b) := by
  split
  · exact h1
  · exact h2
theorem kk_bnd {α β : Type} {P : β → Prop} {a : α} {f : α → Option β} (h : kk P (f a)) : kk P (bnd a f) := h
theorem kk_iter {α β : Type} {f : α → Option (α ⊕ β)} (I : α → Prop) (E : β → Prop) (hs : ∀ a, I a → kk (Sum.elim I E) (f a)) : ∀ (n : Nat) (a : α), I a → kk E (iter f n a)
  | 0, _, _ => fun b hb => by cases hb
  | n + 1, a, ha => by
    rw [iter_s]
    refine kk_bind (hs a ha) (fun r hr => ?_)
    cases r with
    | inl a' => exact kk_iter I E hs n a' hr
    | inr e => exact kk_some hr
section
variable {q sc : Obj} {v v1 v2 w : Int32}
theorem dk_makeL (a : Int32 × Obj) (h : a.2.1 0 14 = w) : kk (Sum.elim (fun a : Int32 × Obj => a.2.1 0 14 = w) (fun x : Obj => x.1 0 14 = w)) (fSc_makeKnown_L24 q v1 v2 a) := by
  unfold fSc_makeKnown_L24
  repeat' (first | with_reducible refine kk_ite ?_ ?_ | with_reducible refine kk_bnd ?_ | with_reducible refine kk_any (fun r => ?_) | with_reducible refine kk_some ?_ | exact h | exact hx)
theorem dk_make (h : sc.1 0 14 = w) : kk (fun x => x.1 0 14 = w) (fSc_makeKnown q sc v1 v2) := by
  unfold fSc_makeKnown
  refine kk_any (fun r => kk_ite (kk_some h) ?_)
  refine kk_any (fun r => kk_any (fun r => kk_bnd ?_))
  exact kk_bind (kk_iter _ _ (fun a ha => dk_makeL a ha) _ _ h) (fun r hr => kk_some hr)
theorem dk_putIn (h : sc.1 0 14 = w) : kk (fun x => x.1 0 14 = w) (fSc_putInLane q sc v) := by
  unfold fSc_putInLane
  repeat' (first | with_reducible refine kk_ite ?_ ?_ | with_reducible refine kk_bnd ?_ | with_reducible refine kk_any (fun r => ?_) | with_reducible refine kk_some ?_ | exact h | exact hx)
theorem dk_stay (h : sc.1 0 14 = w) : kk (fun x => x.1 0 14 = w) (fSc_stayOn q sc v) := by
  unfold fSc_stayOn
  repeat' (first | with_reducible refine kk_ite ?_ ?_ | with_reducible refine kk_bnd ?_ | with_reducible refine kk_bind (dk_putIn (w := w) ?_) (fun r hx => ?_) | with_reducible refine kk_any (fun r => ?_) | with_reducible refine kk_some ?_ | exact h | exact hx)
theorem dk_w64 (h : sc.1 0 14 = w) : kk (fun x => x.1 0 14 = w) (fSc_walkOn_J64 sc v) := by
  unfold fSc_walkOn_J64
  repeat' (first | with_reducible refine kk_ite ?_ ?_ | with_reducible refine kk_bnd ?_ | with_reducible refine kk_any (fun r => ?_) | with_reducible refine kk_some ?_ | exact h | exact hx)
theorem dk_w48 {k : Int32} (h : sc.1 0 14 = w) : kk (fun x => x.1 0 14 = w) (fSc_walkOn_J48 q sc v k) := by
  unfold fSc_walkOn_J48
  refine kk_ite (dk_w64 h) (kk_ite ?_ (dk_w64 h))
  repeat' (first | with_reducible refine kk_ite ?_ ?_ | with_reducible refine kk_bnd ?_ | with_reducible refine kk_any (fun r => ?_) | with_reducible refine kk_some ?_ | exact h | exact hx)
theorem dk_w20 (h : sc.1 0 14 = w) : kk (fun x => x.1 0 14 = w) (fSc_walkOn_J20 q sc v) := by
  unfold fSc_walkOn_J20
  refine kk_any (fun r => kk_ite (kk_any fun r => dk_w48 h) (kk_any fun r => dk_w48 h))
theorem dk_walk (h : sc.1 0 14 = w) : kk (fun x => x.1 0 14 = w) (fSc_walkOn q sc v) := by
  unfold fSc_walkOn
  refine kk_any (fun r => kk_ite (dk_w20 h) (kk_any fun r => kk_ite (dk_w20 h) (kk_some h)))
theorem dk_dropL (a : Int32 × Obj) (h : a.2.1 0 14 = w) : kk (Sum.elim (fun a : Int32 × Obj => a.2.1 0 14 = w) (fun x : Obj => x.1 0 14 = w)) (fSc_dropCall_L2 a) := by
  unfold fSc_dropCall_L2
  repeat' (first | with_reducible refine kk_ite ?_ ?_ | with_reducible refine kk_bnd ?_ | with_reducible refine kk_any (fun r => ?_) | with_reducible refine kk_some ?_ | exact h | exact hx)
theorem dk_drop (h : sc.1 0 14 = w) : kk (fun x => x.1 0 14 = w) (fSc_dropCall sc v) := by
  unfold fSc_dropCall
  exact kk_bind (kk_iter _ _ (fun a ha => dk_dropL a ha) _ _ h) (fun r hr => kk_some hr)
theorem dk_callL (h : sc.1 0 14 = w) (a : Int32) : kk (Sum.elim (fun _ : Int32 => True) (Sum.elim (fun _ : Unit => True) (fun x : Obj => x.1 0 14 = w))) (fSc_callAtDoor_L2 q sc v a) := by
  unfold fSc_callAtDoor_L2
  refine kk_ite (kk_some trivial) (kk_ite (kk_some trivial) (kk_any fun r => kk_ite ?_ (kk_some trivial)))
  refine kk_any fun r => kk_any fun r => kk_any fun r => kk_ite ?_ (kk_some trivial)
  refine kk_any fun r => kk_bnd (kk_any fun r => kk_any fun r => kk_bnd ?_)
  exact kk_bind (dk_drop h) (fun r hr => kk_some hr)
theorem dk_call (h : sc.1 0 14 = w) : kk (fun x => x.1 0 14 = w) (fSc_callAtDoor q sc v) := by
  unfold fSc_callAtDoor
  refine kk_bind (kk_iter (fun _ => True) (Sum.elim (fun _ : Unit => True) (fun x : Obj => x.1 0 14 = w)) (fun a _ => dk_callL h a) _ _ trivial) (fun r hr => ?_)
  cases r with
  | inl u => exact kk_some h
  | inr x => exact kk_some hr
theorem dk_o109 (h : sc.1 0 14 = w) : kk (fun x => x.1 0 14 = w) (fSc_openDoor_J109 q sc v1 v2) := by
  unfold fSc_openDoor_J109
  exact kk_bind (dk_make h) (fun r hr => kk_some hr)
theorem dk_o89 {v3 : Int32} (h : sc.1 0 14 = w) : kk (fun x => x.1 0 14 = w) (fSc_openDoor_J89 q sc v1 v2 v3) := by
  unfold fSc_openDoor_J89
  exact kk_any fun r => kk_bnd (kk_any fun r => kk_bnd (dk_o109 h))
theorem dk_open (h : sc.1 0 14 = w) : kk (fun x => x.1 0 14 = w) (fSc_openDoor q sc v1 v2) := by
  unfold fSc_openDoor
  refine kk_any fun r => kk_ite (kk_some h) (kk_any fun r => kk_ite (kk_some h) ?_)
  refine kk_any fun r => kk_any fun r => kk_bnd (kk_any fun r => kk_any fun r => kk_bnd ?_)
  refine kk_any fun r => kk_ite (dk_o89 h) (kk_any fun r => kk_ite (dk_o89 h) ?_)
  exact kk_bind (dk_putIn h) (fun r hr => kk_bnd (dk_o109 hr))
theorem dk_tick (h : sc.1 0 14 = w) : kk (fun x => x.1 0 14 = w) (fSc_letTickGo q sc) := by
  unfold fSc_letTickGo
  refine kk_any fun r => ?_
  refine kk_bind (Q := fun x : Obj => x.1 0 14 = w) (kk_iter (fun a : Int32 × Obj => a.2.1 0 14 = w) _ (fun a ha => ?_) _ _ h) (fun e1 h1 => ?_)
  · unfold fSc_letTickGo_L15
    exact kk_ite (kk_some ha) (kk_any fun r => kk_ite (kk_bind (dk_stay ha) (fun r hr => kk_some hr)) (kk_some ha))
  refine kk_bind (Q := fun x : Obj => x.1 0 14 = w) (kk_iter (fun a : Int32 × Obj => a.2.1 0 14 = w) _ (fun a ha => ?_) _ _ h1) (fun e2 h2 => ?_)
  · unfold fSc_letTickGo_L43
    exact kk_ite (kk_some ha) (kk_any fun r => kk_ite (kk_bind (dk_walk ha) (fun r hr => kk_some hr)) (kk_some ha))
  refine kk_bind (Q := fun x : Obj => x.1 0 14 = w) (kk_iter (fun a : Int32 × Obj => a.2.1 0 14 = w) _ (fun a ha => ?_) _ _ h2) (fun e3 h3 => ?_)
  · unfold fSc_letTickGo_L70
    exact kk_ite (kk_some ha) (kk_any fun r => kk_ite (kk_bind (dk_call ha) (fun r hr => kk_some hr)) (kk_some ha))
  refine kk_bind (Q := fun x : Obj => x.1 0 14 = w) (kk_iter (fun a : Int32 × Int32 × Obj => a.2.2.1 0 14 = w) _ (fun a ha => ?_) _ _ h3) (fun e4 h4 => kk_bnd (kk_some h4))
  unfold fSc_letTickGo_L99
  refine kk_ite (kk_some ha) (kk_any fun r => kk_ite (kk_any fun r => kk_ite ?_ ?_) (kk_some ha))
  · exact kk_any fun r => kk_any fun r => kk_bnd (kk_some ha)
  · exact kk_bnd (kk_bind (dk_open ha) (fun r hr => kk_some hr))
theorem dk_tryK (h : sc.1 0 14 = w) : kk (fun x => x.2.1 0 14 = w) (fSc_tryKnock q sc v1 v2) := by
  unfold fSc_tryKnock
  repeat' (first | with_reducible refine kk_ite ?_ ?_ | with_reducible refine kk_bnd ?_ | with_reducible refine kk_any (fun r => ?_) | with_reducible refine kk_some ?_ | exact h | exact hx)
theorem dk_tryG (h : sc.1 0 14 = w) : kk (fun x => x.2.1 0 14 = w) (fSc_tryGo q sc v1 v2) := by
  unfold fSc_tryGo
  repeat' (first | with_reducible refine kk_ite ?_ ?_ | with_reducible refine kk_bnd ?_ | with_reducible refine kk_any (fun r => ?_) | with_reducible refine kk_some ?_ | exact h | exact hx)
theorem dk_tryC (h : sc.1 0 14 = w) : kk (fun x => x.2.1 0 14 = w) (fSc_tryCall q sc v1 v2) := by
  unfold fSc_tryCall
  repeat' (first | with_reducible refine kk_ite ?_ ?_ | with_reducible refine kk_bnd ?_ | with_reducible refine kk_any (fun r => ?_) | with_reducible refine kk_some ?_ | exact h | exact hx)
theorem dk_tryQ (h : sc.1 0 14 = w) : kk (fun x => x.2.1 0 14 = w) (fSc_tryQuit q sc v) := by
  unfold fSc_tryQuit
  repeat' (first | with_reducible refine kk_ite ?_ ?_ | with_reducible refine kk_bnd ?_ | with_reducible refine kk_bind (dk_putIn (w := w) ?_) (fun r hx => ?_) | with_reducible refine kk_any (fun r => ?_) | with_reducible refine kk_some ?_ | exact h | exact hx)
end
