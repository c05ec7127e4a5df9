set_option maxRecDepth 20000
theorem fl_JS_9 : Cond.fieldLink RJ0 9 "java/lang/String" "value" "[B" ∈ Tg := tg 2124 (by decide +kernel) (by decide +kernel)
theorem fl_JS_15 : Cond.fieldLink RJ0 15 "java/lang/String" "coder" "B" ∈ Tg := tg 2125 (by decide +kernel) (by decide +kernel)
theorem fl_JS_38 : Cond.fieldLink RJ0 38 "java/lang/String" "COMPACT_STRINGS" "Z" ∈ Tg := tg 170 (by decide +kernel) (by decide +kernel)
theorem fl_JS_1053 : Cond.fieldLink RJ0 1053 "jdk/internal/util/Preconditions" "SIOOBE_FORMATTER" "Ljava/util/function/BiFunction;" ∈ Tg := tg 186 (by decide +kernel) (by decide +kernel)
theorem ml_JS_335 : Cond.methodLink RJ0 335 yJ0_coder_7d493 ∈ Tg := tg 166 (by decide +kernel) (by decide +kernel)
theorem ml_JS_492 : Cond.methodLink RJ0 492 yJ0_isLatin1_aae02 ∈ Tg := tg 176 (by decide +kernel) (by decide +kernel)
theorem ml_JS_495 : Cond.methodLink RJ0 495 yJ1_charAt_3b067 ∈ Tg := tg 180 (by decide +kernel) (by decide +kernel)
theorem ml_JL_9 : Cond.methodLink RJ1 9 yJ0_checkIndex_df160 ∈ Tg := tg 183 (by decide +kernel) (by decide +kernel)
theorem ml_JS_1059 : Cond.methodLink RJ0 1059 yJ3_checkIndex_8e157 ∈ Tg := tg 188 (by decide +kernel) (by decide +kernel)
theorem wv_J0_length_8abf5 : wV yJ0_length_8abf5 cJ0_length_8abf5 1 (some .int) := ⟨tg 163 (by decide +kernel) (by decide +kernel), tg 164 (by decide +kernel) (by decide +kernel), tg 119 (by decide +kernel) (by decide +kernel), tg 165 rfl rfl⟩
theorem wv_J0_coder_7d493 : wV yJ0_coder_7d493 cJ0_coder_7d493 1 (some .byte) := ⟨tg 167 (by decide +kernel) (by decide +kernel), tg 168 (by decide +kernel) (by decide +kernel), tg 119 (by decide +kernel) (by decide +kernel), tg 169 rfl rfl⟩
theorem wv_J0_charAt_5068e : wV yJ0_charAt_5068e cJ0_charAt_5068e 2 (some .char) := ⟨tg 173 (by decide +kernel) (by decide +kernel), tg 174 (by decide +kernel) (by decide +kernel), tg 119 (by decide +kernel) (by decide +kernel), tg 175 rfl rfl⟩
theorem wv_J0_isLatin1_aae02 : wV yJ0_isLatin1_aae02 cJ0_isLatin1_aae02 1 (some .boolean) := ⟨tg 177 (by decide +kernel) (by decide +kernel), tg 178 (by decide +kernel) (by decide +kernel), tg 119 (by decide +kernel) (by decide +kernel), tg 179 rfl rfl⟩
theorem ws_J1_charAt_3b067 : wSt yJ1_charAt_3b067 cJ1_charAt_3b067 2 (some .char) := ⟨tg 181 (by decide +kernel) (by decide +kernel), tg 120 (by decide +kernel) (by decide +kernel), tg 182 rfl rfl⟩
theorem ws_J0_checkIndex_df160 : wSt yJ0_checkIndex_df160 cJ0_checkIndex_df160 2 none := ⟨tg 184 (by decide +kernel) (by decide +kernel), tg 119 (by decide +kernel) (by decide +kernel), tg 185 rfl rfl⟩
theorem ws_J3_checkIndex_8e157 : wSt yJ3_checkIndex_8e157 cJ3_checkIndex_8e157 3 (some .int) := ⟨tg 189 (by decide +kernel) (by decide +kernel), tg 121 (by decide +kernel) (by decide +kernel), tg 190 rfl rfl⟩
theorem yk_J0_length_8abf5 : yOK yJ0_length_8abf5 0 := ⟨by decide +kernel, by decide +kernel, by decide +kernel⟩
theorem yk_J0_coder_7d493 : yOK yJ0_coder_7d493 0 := ⟨by decide +kernel, by decide +kernel, by decide +kernel⟩
theorem yk_J0_charAt_5068e : yOK yJ0_charAt_5068e 1 := ⟨by decide +kernel, by decide +kernel, by decide +kernel⟩
theorem yk_J0_isLatin1_aae02 : yOK yJ0_isLatin1_aae02 0 := ⟨by decide +kernel, by decide +kernel, by decide +kernel⟩
theorem yk_J1_charAt_3b067 : yOK yJ1_charAt_3b067 2 := ⟨by decide +kernel, by decide +kernel, by decide +kernel⟩
theorem yk_J0_checkIndex_df160 : yOK yJ0_checkIndex_df160 2 := ⟨by decide +kernel, by decide +kernel, by decide +kernel⟩
theorem yk_J3_checkIndex_8e157 : yOK yJ3_checkIndex_8e157 3 := ⟨by decide +kernel, by decide +kernel, by decide +kernel⟩
theorem eJ0_length_8abf5_0 : decode cJ0_length_8abf5 0 = .ok (.aload_n 0, 1) := by decide +kernel
theorem eJ0_length_8abf5_1 : decode cJ0_length_8abf5 1 = .ok (.getfield 9, 3) := by decide +kernel
theorem eJ0_length_8abf5_4 : decode cJ0_length_8abf5 4 = .ok (.arraylength, 1) := by decide +kernel
theorem eJ0_length_8abf5_5 : decode cJ0_length_8abf5 5 = .ok (.aload_n 0, 1) := by decide +kernel
theorem eJ0_length_8abf5_6 : decode cJ0_length_8abf5 6 = .ok (.invokevirtual 335, 3) := by decide +kernel
theorem eJ0_length_8abf5_9 : decode cJ0_length_8abf5 9 = .ok (.ishr, 1) := by decide +kernel
theorem eJ0_length_8abf5_10 : decode cJ0_length_8abf5 10 = .ok (.ireturn, 1) := by decide +kernel
theorem eJ0_coder_7d493_0 : decode cJ0_coder_7d493 0 = .ok (.getstatic 38, 3) := by decide +kernel
theorem eJ0_coder_7d493_3 : decode cJ0_coder_7d493 3 = .ok (.ifCond .eq 10, 3) := by decide +kernel
theorem eJ0_coder_7d493_6 : decode cJ0_coder_7d493 6 = .ok (.aload_n 0, 1) := by decide +kernel
theorem eJ0_coder_7d493_7 : decode cJ0_coder_7d493 7 = .ok (.getfield 15, 3) := by decide +kernel
theorem eJ0_coder_7d493_10 : decode cJ0_coder_7d493 10 = .ok (.goto 4, 3) := by decide +kernel
theorem eJ0_coder_7d493_13 : decode cJ0_coder_7d493 13 = .ok (.iconst 1, 1) := by decide +kernel
theorem eJ0_coder_7d493_14 : decode cJ0_coder_7d493 14 = .ok (.ireturn, 1) := by decide +kernel
theorem eJ0_charAt_5068e_0 : decode cJ0_charAt_5068e 0 = .ok (.aload_n 0, 1) := by decide +kernel
theorem eJ0_charAt_5068e_1 : decode cJ0_charAt_5068e 1 = .ok (.invokevirtual 492, 3) := by decide +kernel
theorem eJ0_charAt_5068e_4 : decode cJ0_charAt_5068e 4 = .ok (.ifCond .eq 12, 3) := by decide +kernel
theorem eJ0_charAt_5068e_7 : decode cJ0_charAt_5068e 7 = .ok (.aload_n 0, 1) := by decide +kernel
theorem eJ0_charAt_5068e_8 : decode cJ0_charAt_5068e 8 = .ok (.getfield 9, 3) := by decide +kernel
theorem eJ0_charAt_5068e_11 : decode cJ0_charAt_5068e 11 = .ok (.iload_n 1, 1) := by decide +kernel
theorem eJ0_charAt_5068e_12 : decode cJ0_charAt_5068e 12 = .ok (.invokestatic 495, 3) := by decide +kernel
theorem eJ0_charAt_5068e_15 : decode cJ0_charAt_5068e 15 = .ok (.ireturn, 1) := by decide +kernel
theorem eJ0_charAt_5068e_16 : decode cJ0_charAt_5068e 16 = .ok (.aload_n 0, 1) := by decide +kernel
theorem eJ0_charAt_5068e_17 : decode cJ0_charAt_5068e 17 = .ok (.getfield 9, 3) := by decide +kernel
theorem eJ0_charAt_5068e_20 : decode cJ0_charAt_5068e 20 = .ok (.iload_n 1, 1) := by decide +kernel
theorem eJ0_charAt_5068e_21 : decode cJ0_charAt_5068e 21 = .ok (.invokestatic 498, 3) := by decide +kernel
theorem eJ0_charAt_5068e_24 : decode cJ0_charAt_5068e 24 = .ok (.ireturn, 1) := by decide +kernel
theorem eJ0_isLatin1_aae02_0 : decode cJ0_isLatin1_aae02 0 = .ok (.getstatic 38, 3) := by decide +kernel
theorem eJ0_isLatin1_aae02_3 : decode cJ0_isLatin1_aae02 3 = .ok (.ifCond .eq 14, 3) := by decide +kernel
theorem eJ0_isLatin1_aae02_6 : decode cJ0_isLatin1_aae02 6 = .ok (.aload_n 0, 1) := by decide +kernel
theorem eJ0_isLatin1_aae02_7 : decode cJ0_isLatin1_aae02 7 = .ok (.getfield 15, 3) := by decide +kernel
theorem eJ0_isLatin1_aae02_10 : decode cJ0_isLatin1_aae02 10 = .ok (.ifCond .ne 7, 3) := by decide +kernel
theorem eJ0_isLatin1_aae02_13 : decode cJ0_isLatin1_aae02 13 = .ok (.iconst 1, 1) := by decide +kernel
theorem eJ0_isLatin1_aae02_14 : decode cJ0_isLatin1_aae02 14 = .ok (.goto 4, 3) := by decide +kernel
theorem eJ0_isLatin1_aae02_17 : decode cJ0_isLatin1_aae02 17 = .ok (.iconst 0, 1) := by decide +kernel
theorem eJ0_isLatin1_aae02_18 : decode cJ0_isLatin1_aae02 18 = .ok (.ireturn, 1) := by decide +kernel
theorem eJ1_charAt_3b067_0 : decode cJ1_charAt_3b067 0 = .ok (.iload_n 1, 1) := by decide +kernel
theorem eJ1_charAt_3b067_1 : decode cJ1_charAt_3b067 1 = .ok (.aload_n 0, 1) := by decide +kernel
theorem eJ1_charAt_3b067_2 : decode cJ1_charAt_3b067 2 = .ok (.arraylength, 1) := by decide +kernel
theorem eJ1_charAt_3b067_3 : decode cJ1_charAt_3b067 3 = .ok (.invokestatic 9, 3) := by decide +kernel
theorem eJ1_charAt_3b067_6 : decode cJ1_charAt_3b067 6 = .ok (.aload_n 0, 1) := by decide +kernel
theorem eJ1_charAt_3b067_7 : decode cJ1_charAt_3b067 7 = .ok (.iload_n 1, 1) := by decide +kernel
theorem eJ1_charAt_3b067_8 : decode cJ1_charAt_3b067 8 = .ok (.baload, 1) := by decide +kernel
theorem eJ1_charAt_3b067_9 : decode cJ1_charAt_3b067 9 = .ok (.sipush 255, 3) := by decide +kernel
theorem eJ1_charAt_3b067_12 : decode cJ1_charAt_3b067 12 = .ok (.iand, 1) := by decide +kernel
theorem eJ1_charAt_3b067_13 : decode cJ1_charAt_3b067 13 = .ok (.i2c, 1) := by decide +kernel
theorem eJ1_charAt_3b067_14 : decode cJ1_charAt_3b067 14 = .ok (.ireturn, 1) := by decide +kernel
theorem eJ0_checkIndex_df160_0 : decode cJ0_checkIndex_df160 0 = .ok (.iload_n 0, 1) := by decide +kernel
theorem eJ0_checkIndex_df160_1 : decode cJ0_checkIndex_df160 1 = .ok (.iload_n 1, 1) := by decide +kernel
theorem eJ0_checkIndex_df160_2 : decode cJ0_checkIndex_df160 2 = .ok (.getstatic 1053, 3) := by decide +kernel
theorem eJ0_checkIndex_df160_5 : decode cJ0_checkIndex_df160 5 = .ok (.invokestatic 1059, 3) := by decide +kernel
theorem eJ0_checkIndex_df160_8 : decode cJ0_checkIndex_df160 8 = .ok (.pop, 1) := by decide +kernel
theorem eJ0_checkIndex_df160_9 : decode cJ0_checkIndex_df160 9 = .ok (.return_, 1) := by decide +kernel
theorem eJ3_checkIndex_8e157_0 : decode cJ3_checkIndex_8e157 0 = .ok (.iload_n 0, 1) := by decide +kernel
theorem eJ3_checkIndex_8e157_1 : decode cJ3_checkIndex_8e157 1 = .ok (.ifCond .lt 8, 3) := by decide +kernel
theorem eJ3_checkIndex_8e157_4 : decode cJ3_checkIndex_8e157 4 = .ok (.iload_n 0, 1) := by decide +kernel
theorem eJ3_checkIndex_8e157_5 : decode cJ3_checkIndex_8e157 5 = .ok (.iload_n 1, 1) := by decide +kernel
theorem eJ3_checkIndex_8e157_6 : decode cJ3_checkIndex_8e157 6 = .ok (.if_icmp .lt 10, 3) := by decide +kernel
theorem eJ3_checkIndex_8e157_9 : decode cJ3_checkIndex_8e157 9 = .ok (.aload_n 2, 1) := by decide +kernel
theorem eJ3_checkIndex_8e157_10 : decode cJ3_checkIndex_8e157 10 = .ok (.iload_n 0, 1) := by decide +kernel
theorem eJ3_checkIndex_8e157_11 : decode cJ3_checkIndex_8e157 11 = .ok (.iload_n 1, 1) := by decide +kernel
theorem eJ3_checkIndex_8e157_12 : decode cJ3_checkIndex_8e157 12 = .ok (.invokestatic 95, 3) := by decide +kernel
theorem eJ3_checkIndex_8e157_15 : decode cJ3_checkIndex_8e157 15 = .ok (.athrow, 1) := by decide +kernel
theorem eJ3_checkIndex_8e157_16 : decode cJ3_checkIndex_8e157 16 = .ok (.iload_n 0, 1) := by decide +kernel
theorem eJ3_checkIndex_8e157_17 : decode cJ3_checkIndex_8e157 17 = .ok (.ireturn, 1) := by decide +kernel
def cS (i k : Nat) : Int32 := Int32.ofNat ((strs.getD i []).getD k 0)
theorem cS_len : ∀ i, i < 7 → (strs.getD i []).length = lenS.getD i 0 := by decide +kernel
theorem cS_sh : ∀ i, i < 7 → shr (Int32.ofNat (lenS.getD i 0)) 0 = strLen i := by decide +kernel
theorem cS_ch : ∀ i, i < 7 → ∀ k, k < lenS.getD i 0 → ((((bytS.getD i []).getD k 0) &&& 255).toUInt32 % 65536).toInt32 = cS i k := by decide +kernel
theorem cS_nr : ∀ i, i < 7 → ∀ k, k < lenS.getD i 0 → (cS i k).toUInt32.toUInt16.toUInt32.toInt32 = cS i k := by decide +kernel
theorem cS_lt : ∀ i, i < 7 → lenS.getD i 0 < 100 := by decide +kernel
section STR
variable {l : Launch} {G : Gx} {b d i : Nat} {P : Heap → Prop}
theorem sJ_coder (hi : i < 7) : MetP l G b yJ0_coder_7d493 cJ0_coder_7d493 1 (some .byte) d 0 0 [.ref (aS G i)] P (pI b 0 P) := by
  refine metP_start [some (.ref (aS G i))] (by decide +kernel) (Nat.le_of_ble_eq_true rfl) rfl ?_
  intro X hX ok h0 hnm
  have hE := ok.2.2.2.2.2.1.2.2
  have hS := hE.1.1 i hi
  refine g_gets (pc := 0) ok hE.2.2.1 fl_JS_38 eJ0_coder_7d493_0 ?_
  refine g_if_eq (pc := 3) ok 13 eJ0_coder_7d493_3 rfl (fun h => absurd h (by decide)) (fun _ => ?_)
  refine g_aload_n (pc := 6) ok eJ0_coder_7d493_6 rfl ?_
  refine g_getf (pc := 7) ok hS.2.1 fl_JS_15 eJ0_coder_7d493_7 ?_
  refine g_goto (pc := 10) ok 14 eJ0_coder_7d493_10 rfl ?_
  exact g_iret (pc := 14) ok eJ0_coder_7d493_14 rfl (fun _ h => h)
theorem sJ_isLatin1 (hi : i < 7) : MetP l G b yJ0_isLatin1_aae02 cJ0_isLatin1_aae02 1 (some .boolean) d 0 0 [.ref (aS G i)] P (pI b 1 P) := by
  refine metP_start [some (.ref (aS G i))] (by decide +kernel) (Nat.le_of_ble_eq_true rfl) rfl ?_
  intro X hX ok h0 hnm
  have hE := ok.2.2.2.2.2.1.2.2
  have hS := hE.1.1 i hi
  refine g_gets (pc := 0) ok hE.2.2.1 fl_JS_38 eJ0_isLatin1_aae02_0 ?_
  refine g_if_eq (pc := 3) ok 17 eJ0_isLatin1_aae02_3 rfl (fun h => absurd h (by decide)) (fun _ => ?_)
  refine g_aload_n (pc := 6) ok eJ0_isLatin1_aae02_6 rfl ?_
  refine g_getf (pc := 7) ok hS.2.1 fl_JS_15 eJ0_isLatin1_aae02_7 ?_
  refine g_if_ne (pc := 10) ok 17 eJ0_isLatin1_aae02_10 rfl (fun h => absurd rfl h) (fun _ => ?_)
  refine g_iconst (pc := 13) ok 1 eJ0_isLatin1_aae02_13 rfl ?_
  refine g_goto (pc := 14) ok 18 eJ0_isLatin1_aae02_14 rfl ?_
  exact g_iret (pc := 18) ok eJ0_isLatin1_aae02_18 rfl (fun _ h => h)
theorem sJ_length (hi : i < 7) : MetP l G b yJ0_length_8abf5 cJ0_length_8abf5 1 (some .int) (d + 1) 0 0 [.ref (aS G i)] P (pI b (strLen i) P) := by
  refine metP_start [some (.ref (aS G i))] (by decide +kernel) (Nat.le_of_ble_eq_true rfl) rfl ?_
  intro X hX ok h0 hnm
  have hE := ok.2.2.2.2.2.1.2.2
  have hS := hE.1.1 i hi
  refine g_aload_n (pc := 0) ok eJ0_length_8abf5_0 rfl ?_
  refine g_getf (pc := 1) ok hS.2.2.1 fl_JS_9 eJ0_length_8abf5_1 ?_
  refine g_tlen (pc := 4) ok hS.2.2.2 rfl eJ0_length_8abf5_4 ?_
  refine g_aload_n (pc := 5) ok eJ0_length_8abf5_5 rfl ?_
  refine g_kI (pc := 6) (g_cV (dy := d) (As := []) ok hi rfl ml_JS_335 wv_J0_coder_7d493 yk_J0_coder_7d493 rfl (Nat.le_refl _) (by show _ ≤ 60 * (d + 1); omega) (Nat.zero_le _) (Nat.zero_le _) (sJ_coder hi) rfl (Nat.le_of_ble_eq_true rfl) eJ0_length_8abf5_6) ?_
  refine g_ishr (pc := 9) ok eJ0_length_8abf5_9 ?_
  rw [cS_sh i hi]
  exact g_iret (pc := 10) ok eJ0_length_8abf5_10 rfl (fun _ h => h)
theorem sJ_check {x n : Int32} {v : Value} (hv : v = .null ∨ ∃ t, v = .ref t) (h1 : ¬ x < 0) (h2 : x < n) : MetP l G b yJ3_checkIndex_8e157 cJ3_checkIndex_8e157 3 (some .int) d 0 0 [.int x, .int n, v] P (pI b x P) := by
  have hlen : (lg_sl [.int x, .int n, v]).length ≤ 3 := by rcases hv with rfl | ⟨t, rfl⟩ <;> exact Nat.le_of_ble_eq_true rfl
  have hlv : lvp 0 [some (.int x), some (.int n), some v] = lv_args 0 [.int x, .int n, v] := by rcases hv with rfl | ⟨t, rfl⟩ <;> rfl
  refine metP_start [some (.int x), some (.int n), some v] (by decide +kernel) hlen hlv ?_
  intro X hX ok h0 hnm
  refine g_iload_n (pc := 0) ok eJ3_checkIndex_8e157_0 rfl ?_
  refine g_if_lt (pc := 1) ok 9 eJ3_checkIndex_8e157_1 rfl (fun h => absurd h h1) (fun _ => ?_)
  refine g_iload_n (pc := 4) ok eJ3_checkIndex_8e157_4 rfl ?_
  refine g_iload_n (pc := 5) ok eJ3_checkIndex_8e157_5 rfl ?_
  refine g_icmp_lt (pc := 6) ok 16 eJ3_checkIndex_8e157_6 rfl (fun _ => ?_) (fun h => absurd h2 h)
  refine g_iload_n (pc := 16) ok eJ3_checkIndex_8e157_16 rfl ?_
  exact g_iret (pc := 17) ok eJ3_checkIndex_8e157_17 rfl (fun _ h => h)
theorem sJ_check2 {x n : Int32} (h1 : ¬ x < 0) (h2 : x < n) : MetP l G b yJ0_checkIndex_df160 cJ0_checkIndex_df160 2 none (d + 1) 0 0 [.int x, .int n] P (pV b P) := by
  refine metP_start [some (.int x), some (.int n)] (by decide +kernel) (Nat.le_of_ble_eq_true rfl) rfl ?_
  intro X hX ok h0 hnm
  have hE := ok.2.2.2.2.2.1.2.2
  refine g_iload_n (pc := 0) ok eJ0_checkIndex_df160_0 rfl ?_
  refine g_iload_n (pc := 1) ok eJ0_checkIndex_df160_1 rfl ?_
  have go : ∀ v : Value, (v = .null ∨ ∃ t, v = .ref t) → va_Z "jdk/internal/util/Preconditions" "SIOOBE_FORMATTER" "Ljava/util/function/BiFunction;" v (fun q => b ≤ q) X.2.2.2.2.1 X.2.2.2.2.1.heap → VG X b 2 (QP X b 0 0 (pV b P)) P 0 0 2 [some (.int x), some (.int n)] [.int n, .int x] := by
    intro v hv hZ
    refine g_gets (pc := 2) ok hZ fl_JS_1053 eJ0_checkIndex_df160_2 ?_
    refine g_kI (pc := 5) (g_cS (dy := d) (As := [.int x, .int n, v]) (st := []) ok ml_JS_1059 ws_J3_checkIndex_8e157 yk_J3_checkIndex_8e157 rfl (Nat.le_refl _) (by show _ ≤ 60 * (d + 1); omega) (Nat.zero_le _) (Nat.zero_le _) (sJ_check hv h1 h2) rfl (Nat.le_of_ble_eq_true rfl) eJ0_checkIndex_df160_5) ?_
    refine g_pop (pc := 8) ok eJ0_checkIndex_df160_8 rfl ?_
    exact g_vret (pc := 9) ok eJ0_checkIndex_df160_9 (fun _ h => h)
  rcases hE.2.2.2.1 with hZ | ⟨t, hZ⟩
  · exact go .null (Or.inl rfl) hZ
  · exact go (.ref t) (Or.inr ⟨t, rfl⟩) hZ
theorem in_lt {x : Int32} {n : Nat} (hn : n < 100) (h : vp_in x n) : x < Int32.ofNat n := by
  have h0 : ¬ x < 0 := fun q => h (Or.inl q)
  have h1 : x.toNatClampNeg < n := Nat.not_le.mp fun q => h (Or.inr q)
  obtain ⟨j, hj, rfl⟩ := nI_of h0
  rw [nI_clamp hj] at h1
  exact (nI_ltI (a := j) (b := n) hj (by omega)).mpr h1
theorem sJ_at1 {x : Int32} (hi : i < 7) (hx : vp_in x (lenS.getD i 0)) : MetP l G b yJ1_charAt_3b067 cJ1_charAt_3b067 2 (some .char) (d + 2) 0 0 [.ref (aV G i), .int x] P (pI b (cS i x.toNatClampNeg) P) := by
  have h1 : ¬ x < 0 := fun q => hx (Or.inl q)
  have hk : x.toNatClampNeg < lenS.getD i 0 := Nat.not_le.mp fun q => hx (Or.inr q)
  refine metP_start [some (.ref (aV G i)), some (.int x)] (by decide +kernel) (Nat.le_of_ble_eq_true rfl) rfl ?_
  intro X hX ok h0 hnm
  have hE := ok.2.2.2.2.2.1.2.2
  have hS := hE.1.1 i hi
  refine g_iload_n (pc := 0) ok eJ1_charAt_3b067_0 rfl ?_
  refine g_aload_n (pc := 1) ok eJ1_charAt_3b067_1 rfl ?_
  refine g_tlen (pc := 2) ok hS.2.2.2 rfl eJ1_charAt_3b067_2 ?_
  refine g_kV (pc := 3) (g_cS (dy := d + 1) (As := [.int x, .int (Int32.ofNat (lenS.getD i 0))]) (st := []) ok ml_JL_9 ws_J0_checkIndex_df160 yk_J0_checkIndex_df160 rfl (Nat.le_refl _) (by show _ ≤ 60 * (d + 2); omega) (Nat.zero_le _) (Nat.zero_le _) (sJ_check2 h1 (in_lt (cS_lt i hi) hx)) rfl (Nat.le_of_ble_eq_true rfl) eJ1_charAt_3b067_3) ?_
  refine g_aload_n (pc := 6) ok eJ1_charAt_3b067_6 rfl ?_
  refine g_iload_n (pc := 7) ok eJ1_charAt_3b067_7 rfl ?_
  refine g_tb (pc := 8) ok hS.2.2.2 hx rfl eJ1_charAt_3b067_8 ?_
  refine g_sipush (pc := 9) ok 255 eJ1_charAt_3b067_9 (by decide) ?_
  refine g_iand (pc := 12) ok eJ1_charAt_3b067_12 ?_
  refine g_i2c (pc := 13) ok eJ1_charAt_3b067_13 (cS_ch i hi _ hk) ?_
  exact g_iret (pc := 14) ok eJ1_charAt_3b067_14 (by show Value.int _ = _; rw [cS_nr i hi _ hk]) (fun _ h => h)
theorem sJ_at {x : Int32} (hi : i < 7) (hx : vp_in x (lenS.getD i 0)) : MetP l G b yJ0_charAt_5068e cJ0_charAt_5068e 2 (some .char) (d + 3) 0 0 [.ref (aS G i), .int x] P (pI b (cS i x.toNatClampNeg) P) := by
  have hk : x.toNatClampNeg < lenS.getD i 0 := Nat.not_le.mp fun q => hx (Or.inr q)
  refine metP_start [some (.ref (aS G i)), some (.int x)] (by decide +kernel) (Nat.le_of_ble_eq_true rfl) rfl ?_
  intro X hX ok h0 hnm
  have hE := ok.2.2.2.2.2.1.2.2
  have hS := hE.1.1 i hi
  refine g_aload_n (pc := 0) ok eJ0_charAt_5068e_0 rfl ?_
  refine g_kI (pc := 1) (g_cV (dy := d) (As := []) (st := []) ok hi rfl ml_JS_492 wv_J0_isLatin1_aae02 yk_J0_isLatin1_aae02 rfl (by show d + 1 ≤ d + 3; omega) (by show _ ≤ 60 * (d + 3); omega) (Nat.zero_le _) (Nat.zero_le _) (sJ_isLatin1 hi) rfl (Nat.le_of_ble_eq_true rfl) eJ0_charAt_5068e_1) ?_
  refine g_if_eq (pc := 4) ok 16 eJ0_charAt_5068e_4 rfl (fun h => absurd h (by decide)) (fun _ => ?_)
  refine g_aload_n (pc := 7) ok eJ0_charAt_5068e_7 rfl ?_
  refine g_getf (pc := 8) ok hS.2.2.1 fl_JS_9 eJ0_charAt_5068e_8 ?_
  refine g_iload_n (pc := 11) ok eJ0_charAt_5068e_11 rfl ?_
  refine g_kI (pc := 12) (g_cS (dy := d + 2) (As := [.ref (aV G i), .int x]) (st := []) ok ml_JS_495 ws_J1_charAt_3b067 yk_J1_charAt_3b067 rfl (Nat.le_refl _) (by show _ ≤ 60 * (d + 3); omega) (Nat.zero_le _) (Nat.zero_le _) (sJ_at1 hi hx) rfl (Nat.le_of_ble_eq_true rfl) eJ0_charAt_5068e_12) ?_
  exact g_iret (pc := 15) ok eJ0_charAt_5068e_15 (by show Value.int _ = _; rw [cS_nr i hi _ hk]) (fun _ h => h)
end STR

