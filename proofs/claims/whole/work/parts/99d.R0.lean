set_option maxRecDepth 20000
theorem ab0 {P : Nat → Prop} : ∀ k, k < 0 → P k := fun k h => absurd h (Nat.not_lt_zero k)
theorem RC_0 {o : Nat} {d : Nat → Int32} {hp : Nat → Nat} (h1 : (M0 o).1 0 1 = 0) (h2 : (M0 o).1 0 2 = 0) (h3 : (M0 o).1 0 3 = 0) (d0 : d 0 = 0) (d1 : d 1 = 0) (d2 : d 2 = 0) (d3 : d 3 = 0) : RC 0 0 10 hp (M0 o) d :=
  ⟨fun _ _ => 0, ⟨⟨⟨Nat.zero_le _, Nat.zero_le _⟩, Nat.zero_le _⟩, ab0, ab0, fun p r h => absurd h (Nat.not_lt_zero p)⟩, ⟨⟨h1, h2, h3⟩, ab0, ab0⟩, ⟨⟨d0, d1, d2, d3⟩, ab0, ab0⟩, Nat.zero_le _, Nat.zero_le _⟩
theorem pW_0 : pWds ((M0 1).2 1) ((M0 225).2 6) := by
  unfold pWds
  decide +kernel
theorem pStr_0 : pStr 0 0 10 2 3 (fun _ => 0) (fun _ => 0) (fun _ => false) (M0 5) (M0 12) (M0 23) ((M0 225).1 2) ((M0 225).2 5) := by
  refine ⟨⟨by decide, by decide, by decide, by decide, by decide, by decide, by decide, ab0, ab0⟩, ⟨⟨by decide +kernel, by decide +kernel, by decide +kernel, by decide +kernel, by decide +kernel⟩, ab0, ab0⟩, ⟨⟨by decide +kernel, by decide +kernel, by decide +kernel, by decide +kernel, by decide +kernel⟩, ab0, ab0, by decide +kernel⟩, ⟨ab0, ab0⟩, RC_0 (by decide +kernel) (by decide +kernel) (by decide +kernel) (by decide +kernel) (by decide +kernel) (by decide +kernel) (by decide +kernel), ?_⟩
  exact ⟨0, 0, fun _ => 0, fun _ => 0, fun _ => 0, by decide, by decide, Iff.rfl, by decide +kernel, ⟨by decide +kernel, ab0⟩, ⟨by decide +kernel, ab0⟩, ab0, fun h => absurd rfl h⟩
theorem R_start : R M0 (M0 225) := by
  refine ⟨0, 0, 10, 2, 3, fun _ => 0, fun _ => 0, fun _ => false, pStr_0, ⟨0, 0, by decide, by decide, by decide +kernel, by decide +kernel, by decide +kernel, ab0⟩, ⟨0, by decide, by decide +kernel, by decide +kernel, ab0⟩, ?_⟩
  exact ⟨Or.inl ⟨by decide +kernel, by decide +kernel⟩, Or.inl ⟨by decide +kernel, by decide +kernel⟩, pW_0, by decide +kernel, Or.inl ⟨by decide +kernel, by decide +kernel⟩, Or.inl ⟨by decide +kernel, by decide +kernel⟩, Or.inl ⟨by decide +kernel, by decide +kernel⟩, ⟨0, by decide, by decide +kernel, by decide +kernel, ab0⟩, Or.inl ⟨by decide +kernel, by decide +kernel⟩⟩
