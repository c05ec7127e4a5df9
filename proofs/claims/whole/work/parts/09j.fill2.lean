theorem kfill {l : Launch} {G : Gx} {b d K A t : Nat} {v0 : Int32} {r : Int32 × (Nat → Int64)} {cf : Nat → va_E} {f : Nat → Int64} (hA : A < K) (ht : t < 7) (n : Nat) (he : cf A = .inl (G.2 3, 29, .inr (.inl f))) (hr : iter (fcB t) n (v0, 0, 0, f) = some r) : MetP l G b yX10_fillCodes cX10_fillCodes 7 (some .int) (d + 5) 0 0 [.ref (b + A), .int v0, .ref (aS G t)] (WS G b K cf) (pI b r.1 (WS G b K (rowJ G cf A r.2))) := by
  refine metP_start [some (.ref (b + A)), some (.int v0), some (.ref (aS G t)), none, none, none, none] (by decide +kernel) (Nat.le_of_ble_eq_true rfl) rfl ?_
  intro X hX ok h0 hnm
  have hz : Sz X b 0 K := h0.sz
  have e0 : cf = rowJ G cf A f := by
    unfold rowJ
    rw [← he]
    exact (up_eta cf A).symm
  refine g_wk ?_
  refine g_to e0 ?_
  refine g_iload_n (pc := 0) ok dX10_fillCodes_0 rfl ?_
  refine g_istore_n (pc := 1) ok dX10_fillCodes_1 (Nat.le_of_ble_eq_true rfl) rfl ?_
  refine g_lconst (pc := 2) ok 0 dX10_fillCodes_2 (by decide +kernel) ?_
  refine g_lstore (pc := 3) ok dX10_fillCodes_3 (Nat.le_of_ble_eq_true rfl) rfl ?_
  refine g_iconst (pc := 5) ok 0 dX10_fillCodes_5 (by decide +kernel) ?_
  refine g_istore (pc := 6) ok dX10_fillCodes_6 (Nat.le_of_ble_eq_true rfl) rfl ?_
  refine fc_loop (v0 := v0) ok hA ht (fun lv' => ?_) n v0 0 0 f hr
  refine g_ws hz ?_
  exact g_iret (pc := 81) ok dX10_fillCodes_81 rfl (fun _ h => h)
