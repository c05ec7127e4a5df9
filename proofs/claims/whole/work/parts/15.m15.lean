theorem wMo_person_L37 {Z : Cx} {G : Gx} {b : Nat} {XX YY : Nat → Obj} {m : Obj} {v1 : Int32} {v2 : Int32} (ok : OK Z G b cX12_person 5 2 RX12 (some .int)) {K : ((Int32 × Int32) ⊕ (Int32)) → Option (Int32 × Obj)} (hc : ∀ (a : Int32 × Int32), VO Z G b 5 (fun (r : Int32 × Obj) => QX Z b (qI G b r.1 (mx XX (va_up YY 225 r.2)))) (mx XX (va_up YY 225 m)) 37 [some (.ref (b + 225)), some (.int v1), some (.int v2), some (.int a.1), some (.int a.2)] [] (K (.inl a))) (hx : ∀ (e : Int32), VO Z G b 5 (fun (r : Int32 × Obj) => QX Z b (qI G b r.1 (mx XX (va_up YY 225 r.2)))) (mx XX (va_up YY 225 m)) 90 [some (.ref (b + 225)), some (.int v1), some (.int v2), some (.int e), none] [] (K (.inr e))) : ∀ (a : Int32 × Int32), VO Z G b 5 (fun (r : Int32 × Obj) => QX Z b (qI G b r.1 (mx XX (va_up YY 225 r.2)))) (mx XX (va_up YY 225 m)) 37 [some (.ref (b + 225)), some (.int v1), some (.int v2), some (.int a.1), some (.int a.2)] [] ((fMo_person_L37 m v1 a).bind K) := by
  intro a
  unfold fMo_person_L37
  refine r_iload (pc := 37) ok dX12_person_37 rfl ?_
  refine r_aload_n (pc := 39) ok dX12_person_39 rfl ?_
  refine r_getR (pc := 40) ok cls12 sh_225 (k := 6) rfl (Nat.le_of_ble_eq_true rfl) rfl dX12_person_40 fl_Mo_33 ?_
  refine r_bipush (pc := 43) ok (72 : Int32) dX12_person_43 cb_72 ?_
  refine r_ialdc (pc := 45) ok sh_227 (j := 2) rfl (i := 72) (by decide +kernel) (mx_r (by decide) (va_up_self _ _ _)) dX12_person_45 ?_
  refine r_icmp_ge (pc := 46) ok 90 dX12_person_46 rfl (fun _ => ?_) (fun _ => ?_)
  · refine r_lv (lk_s (lk_s (lk_s (lk_s (lk_n lk_0 _) _) _) _) _) ?_
    exact hx a.1
  · refine r_iload_n (pc := 49) ok dX12_person_49 rfl ?_
    refine r_aload_n (pc := 50) ok dX12_person_50 rfl ?_
    refine r_getR (pc := 51) ok cls12 sh_225 (k := 6) rfl (Nat.le_of_ble_eq_true rfl) rfl dX12_person_51 fl_Mo_33 ?_
    refine r_sipush (pc := 54) ok (137 : Int32) dX12_person_54 cs_137 ?_
    refine r_iload (pc := 57) ok dX12_person_57 rfl ?_
    refine r_iadd (pc := 59) ok dX12_person_59 ?_
    refine r_iald (pc := 60) ok sh_227 (j := 2) rfl (mx_r (by decide) (va_up_self _ _ _)) dX12_person_60 (fun i3 => ?_)
    refine r_iload_n (pc := 61) ok dX12_person_61 rfl ?_
    refine r_icmp_ne (pc := 62) ok 81 dX12_person_62 rfl (fun _ => ?_) (fun _ => ?_)
    · refine r_iconst (pc := 65) ok (1 : Int32) dX12_person_65 ci_1 ?_
      refine r_aload_n (pc := 66) ok dX12_person_66 rfl ?_
      refine r_getR (pc := 67) ok cls12 sh_225 (k := 6) rfl (Nat.le_of_ble_eq_true rfl) rfl dX12_person_67 fl_Mo_33 ?_
      refine r_sipush (pc := 70) ok (149 : Int32) dX12_person_70 cs_149 ?_
      refine r_iload (pc := 73) ok dX12_person_73 rfl ?_
      refine r_iadd (pc := 75) ok dX12_person_75 ?_
      refine r_iald (pc := 76) ok sh_227 (j := 2) rfl (mx_r (by decide) (va_up_self _ _ _)) dX12_person_76 (fun i4 => ?_)
      refine r_ishl (pc := 77) ok dX12_person_77 ?_
      refine r_goto (pc := 78) ok 82 dX12_person_78 rfl ?_
      refine r_ior (pc := 82) ok dX12_person_82 ?_
      refine r_bndI (fun x5 => ?_)
      refine r_istore_n (pc := 83) ok dX12_person_83 (Nat.le_of_ble_eq_true rfl) rfl ?_
      refine r_iinc (pc := 84) ok (1 : Int32) dX12_person_84 ci_1 rfl (Nat.le_of_ble_eq_true rfl) rfl ?_
      refine r_goto (pc := 87) ok 37 dX12_person_87 rfl ?_
      exact hc (x5, (a.2 + (1 : Int32)))
    · refine r_iconst (pc := 81) ok (0 : Int32) dX12_person_81 ci_0 ?_
      refine r_ior (pc := 82) ok dX12_person_82 ?_
      refine r_bndI (fun x6 => ?_)
      refine r_istore_n (pc := 83) ok dX12_person_83 (Nat.le_of_ble_eq_true rfl) rfl ?_
      refine r_iinc (pc := 84) ok (1 : Int32) dX12_person_84 ci_1 rfl (Nat.le_of_ble_eq_true rfl) rfl ?_
      refine r_goto (pc := 87) ok 37 dX12_person_87 rfl ?_
      exact hc (x6, (a.2 + (1 : Int32)))
theorem wMo_person_J24 {Z : Cx} {G : Gx} {b : Nat} {XX YY : Nat → Obj} {m : Obj} {v1 : Int32} {v2 : Int32} {k1 : Int32} (ok : OK Z G b cX12_person 5 2 RX12 (some .int)) : VO Z G b 5 (fun (r : Int32 × Obj) => QX Z b (qI G b r.1 (mx XX (va_up YY 225 r.2)))) (mx XX (va_up YY 225 m)) 24 [some (.ref (b + 225)), some (.int v1), some (.int v2), none, none] [.int k1, .ref (b + 225)] ((fMo_person_J24 m v1 v2 k1).bind some) := by
  unfold fMo_person_J24
  refine k_I (pc := 24) (fun r2 => r2.1) (fun r2 => mx XX (va_up YY 225 r2.2)) (fun r2 hr_ => c_V (n := 1) ok cls12 sh_225 rfl ml_Mo_293 wv_X12_throwsIf yk_X12_throwsIf rfl (Nat.le_of_ble_eq_true rfl) (Nat.le_of_ble_eq_true rfl) (tMo_throwsIf hr_) rfl (Nat.le_of_ble_eq_true rfl) dX12_person_24) (fun r2 => ?_)
  refine r_if_eq (pc := 27) ok 32 dX12_person_27 rfl (fun _ => ?_) (fun _ => ?_)
  · refine r_iconst (pc := 32) ok (0 : Int32) dX12_person_32 ci_0 ?_
    refine r_istore_n (pc := 33) ok dX12_person_33 (Nat.le_of_ble_eq_true rfl) rfl ?_
    refine r_iconst (pc := 34) ok (0 : Int32) dX12_person_34 ci_0 ?_
    refine r_istore (pc := 35) ok dX12_person_35 (Nat.le_of_ble_eq_true rfl) rfl ?_
    refine r_iter (P := fun (a37 : Int32 × Int32) o => VO Z G b 5 (fun (r : Int32 × Obj) => QX Z b (qI G b r.1 (mx XX (va_up YY 225 r.2)))) (mx XX (va_up YY 225 r2.2)) 37 [some (.ref (b + 225)), some (.int v1), some (.int v2), some (.int a37.1), some (.int a37.2)] [] o) (E := fun (e_37 : Int32) o => VO Z G b 5 (fun (r : Int32 × Obj) => QX Z b (qI G b r.1 (mx XX (va_up YY 225 r.2)))) (mx XX (va_up YY 225 r2.2)) 90 [some (.ref (b + 225)), some (.int v1), some (.int v2), some (.int e_37), none] [] o) (fun _ => r_none) (fun K hc hx => wMo_person_L37 ok (K := K) hc hx) (fun e7 => ?_) FU ((0 : Int32), (0 : Int32))
    refine r_iload_n (pc := 90) ok dX12_person_90 rfl ?_
    refine r_ite (fun hs0 => ?_) (fun hs0 => ?_)
    · refine r_tsw (pc := 91) ok 144 (0 : Int32) dX12_person_91 hs0 (by decide +kernel) (by decide +kernel) rfl rfl ?_
      refine r_aload_n (pc := 144) ok dX12_person_144 rfl ?_
      refine r_getR (pc := 145) ok cls12 sh_225 (k := 6) rfl (Nat.le_of_ble_eq_true rfl) rfl dX12_person_145 fl_Mo_33 ?_
      refine r_bipush (pc := 148) ok (73 : Int32) dX12_person_148 cb_73 ?_
      refine r_iload_n (pc := 150) ok dX12_person_150 rfl ?_
      refine r_iadd (pc := 151) ok dX12_person_151 ?_
      refine r_iald (pc := 152) ok sh_227 (j := 2) rfl (mx_r (by decide) (va_up_self _ _ _)) dX12_person_152 (fun i8 => ?_)
      exact r_iret (pc := 153) ok dX12_person_153 rfl
    refine r_ite (fun hs1 => ?_) (fun hs1 => ?_)
    · refine r_tsw (pc := 91) ok 154 (1 : Int32) dX12_person_91 hs1 (by decide +kernel) (by decide +kernel) rfl rfl ?_
      refine r_aload_n (pc := 154) ok dX12_person_154 rfl ?_
      refine r_getR (pc := 155) ok cls12 sh_225 (k := 6) rfl (Nat.le_of_ble_eq_true rfl) rfl dX12_person_155 fl_Mo_33 ?_
      refine r_bipush (pc := 158) ok (81 : Int32) dX12_person_158 cb_81 ?_
      refine r_iload_n (pc := 160) ok dX12_person_160 rfl ?_
      refine r_iadd (pc := 161) ok dX12_person_161 ?_
      refine r_iald (pc := 162) ok sh_227 (j := 2) rfl (mx_r (by decide) (va_up_self _ _ _)) dX12_person_162 (fun i9 => ?_)
      exact r_iret (pc := 163) ok dX12_person_163 rfl
    refine r_ite (fun hs2 => ?_) (fun hs2 => ?_)
    · refine r_tsw (pc := 91) ok 164 (2 : Int32) dX12_person_91 hs2 (by decide +kernel) (by decide +kernel) rfl rfl ?_
      refine r_aload_n (pc := 164) ok dX12_person_164 rfl ?_
      refine r_getR (pc := 165) ok cls12 sh_225 (k := 6) rfl (Nat.le_of_ble_eq_true rfl) rfl dX12_person_165 fl_Mo_33 ?_
      refine r_bipush (pc := 168) ok (89 : Int32) dX12_person_168 cb_89 ?_
      refine r_iload_n (pc := 170) ok dX12_person_170 rfl ?_
      refine r_iadd (pc := 171) ok dX12_person_171 ?_
      refine r_iald (pc := 172) ok sh_227 (j := 2) rfl (mx_r (by decide) (va_up_self _ _ _)) dX12_person_172 (fun i10 => ?_)
      exact r_iret (pc := 173) ok dX12_person_173 rfl
    refine r_ite (fun hs3 => ?_) (fun hs3 => ?_)
    · refine r_tsw (pc := 91) ok 174 (3 : Int32) dX12_person_91 hs3 (by decide +kernel) (by decide +kernel) rfl rfl ?_
      refine r_aload_n (pc := 174) ok dX12_person_174 rfl ?_
      refine r_getR (pc := 175) ok cls12 sh_225 (k := 6) rfl (Nat.le_of_ble_eq_true rfl) rfl dX12_person_175 fl_Mo_33 ?_
      refine r_bipush (pc := 178) ok (97 : Int32) dX12_person_178 cb_97 ?_
      refine r_iload_n (pc := 180) ok dX12_person_180 rfl ?_
      refine r_iadd (pc := 181) ok dX12_person_181 ?_
      refine r_iald (pc := 182) ok sh_227 (j := 2) rfl (mx_r (by decide) (va_up_self _ _ _)) dX12_person_182 (fun i11 => ?_)
      refine r_iconst (pc := 183) ok (1 : Int32) dX12_person_183 ci_1 ?_
      refine r_isub (pc := 184) ok dX12_person_184 ?_
      exact r_iret (pc := 185) ok dX12_person_185 rfl
    refine r_ite (fun hs4 => ?_) (fun hs4 => ?_)
    · refine r_tsw (pc := 91) ok 186 (4 : Int32) dX12_person_91 hs4 (by decide +kernel) (by decide +kernel) rfl rfl ?_
      refine r_aload_n (pc := 186) ok dX12_person_186 rfl ?_
      refine r_getR (pc := 187) ok cls12 sh_225 (k := 6) rfl (Nat.le_of_ble_eq_true rfl) rfl dX12_person_187 fl_Mo_33 ?_
      refine r_bipush (pc := 190) ok (105 : Int32) dX12_person_190 cb_105 ?_
      refine r_iload_n (pc := 192) ok dX12_person_192 rfl ?_
      refine r_iadd (pc := 193) ok dX12_person_193 ?_
      refine r_iald (pc := 194) ok sh_227 (j := 2) rfl (mx_r (by decide) (va_up_self _ _ _)) dX12_person_194 (fun i12 => ?_)
      exact r_iret (pc := 195) ok dX12_person_195 rfl
    refine r_ite (fun hs5 => ?_) (fun hs5 => ?_)
    · refine r_tsw (pc := 91) ok 196 (5 : Int32) dX12_person_91 hs5 (by decide +kernel) (by decide +kernel) rfl rfl ?_
      refine r_aload_n (pc := 196) ok dX12_person_196 rfl ?_
      refine r_getR (pc := 197) ok cls12 sh_225 (k := 6) rfl (Nat.le_of_ble_eq_true rfl) rfl dX12_person_197 fl_Mo_33 ?_
      refine r_bipush (pc := 200) ok (113 : Int32) dX12_person_200 cb_113 ?_
      refine r_iload_n (pc := 202) ok dX12_person_202 rfl ?_
      refine r_iadd (pc := 203) ok dX12_person_203 ?_
      refine r_iald (pc := 204) ok sh_227 (j := 2) rfl (mx_r (by decide) (va_up_self _ _ _)) dX12_person_204 (fun i13 => ?_)
      exact r_iret (pc := 205) ok dX12_person_205 rfl
    refine r_ite (fun hs6 => ?_) (fun hs6 => ?_)
    · refine r_tsw (pc := 91) ok 206 (6 : Int32) dX12_person_91 hs6 (by decide +kernel) (by decide +kernel) rfl rfl ?_
      refine r_iload_n (pc := 206) ok dX12_person_206 rfl ?_
      exact r_iret (pc := 207) ok dX12_person_207 rfl
    refine r_ite (fun hs7 => ?_) (fun hs7 => ?_)
    · refine r_tsw (pc := 91) ok 208 (7 : Int32) dX12_person_91 hs7 (by decide +kernel) (by decide +kernel) rfl rfl ?_
      refine r_aload_n (pc := 208) ok dX12_person_208 rfl ?_
      refine r_getR (pc := 209) ok cls12 sh_225 (k := 6) rfl (Nat.le_of_ble_eq_true rfl) rfl dX12_person_209 fl_Mo_33 ?_
      refine r_bipush (pc := 212) ok (121 : Int32) dX12_person_212 cb_121 ?_
      refine r_iload_n (pc := 214) ok dX12_person_214 rfl ?_
      refine r_iadd (pc := 215) ok dX12_person_215 ?_
      refine r_iald (pc := 216) ok sh_227 (j := 2) rfl (mx_r (by decide) (va_up_self _ _ _)) dX12_person_216 (fun i14 => ?_)
      exact r_iret (pc := 217) ok dX12_person_217 rfl
    refine r_ite (fun hs8 => ?_) (fun hs8 => ?_)
    · refine r_tsw (pc := 91) ok 218 (8 : Int32) dX12_person_91 hs8 (by decide +kernel) (by decide +kernel) rfl rfl ?_
      refine r_aload_n (pc := 218) ok dX12_person_218 rfl ?_
      refine r_getR (pc := 219) ok cls12 sh_225 (k := 6) rfl (Nat.le_of_ble_eq_true rfl) rfl dX12_person_219 fl_Mo_33 ?_
      refine r_sipush (pc := 222) ok (129 : Int32) dX12_person_222 cs_129 ?_
      refine r_iload_n (pc := 225) ok dX12_person_225 rfl ?_
      refine r_iadd (pc := 226) ok dX12_person_226 ?_
      refine r_iald (pc := 227) ok sh_227 (j := 2) rfl (mx_r (by decide) (va_up_self _ _ _)) dX12_person_227 (fun i15 => ?_)
      exact r_iret (pc := 228) ok dX12_person_228 rfl
    refine r_ite (fun hs9 => ?_) (fun hs9 => ?_)
    · refine r_tsw (pc := 91) ok 229 (9 : Int32) dX12_person_91 hs9 (by decide +kernel) (by decide +kernel) rfl rfl ?_
      refine r_aload_n (pc := 229) ok dX12_person_229 rfl ?_
      refine r_getR (pc := 230) ok cls12 sh_225 (k := 6) rfl (Nat.le_of_ble_eq_true rfl) rfl dX12_person_230 fl_Mo_33 ?_
      refine r_bipush (pc := 233) ok (11 : Int32) dX12_person_233 cb_11 ?_
      refine r_iload_n (pc := 235) ok dX12_person_235 rfl ?_
      refine r_iadd (pc := 236) ok dX12_person_236 ?_
      refine r_iald (pc := 237) ok sh_227 (j := 2) rfl (mx_r (by decide) (va_up_self _ _ _)) dX12_person_237 (fun i16 => ?_)
      refine r_iconst (pc := 238) ok (1 : Int32) dX12_person_238 ci_1 ?_
      refine r_isub (pc := 239) ok dX12_person_239 ?_
      exact r_iret (pc := 240) ok dX12_person_240 rfl
    refine r_tswd (pc := 91) ok 241 dX12_person_91 (tsw_out10 hs0 hs1 hs2 hs3 hs4 hs5 hs6 hs7 hs8 hs9) rfl ?_
    refine r_aload_n (pc := 241) ok dX12_person_241 rfl ?_
    refine r_getR (pc := 242) ok cls12 sh_225 (k := 6) rfl (Nat.le_of_ble_eq_true rfl) rfl dX12_person_242 fl_Mo_33 ?_
    refine r_bipush (pc := 245) ok (35 : Int32) dX12_person_245 cb_35 ?_
    refine r_ialdc (pc := 247) ok sh_227 (j := 2) rfl (i := 35) (by decide +kernel) (mx_r (by decide) (va_up_self _ _ _)) dX12_person_247 ?_
    refine r_iload_n (pc := 248) ok dX12_person_248 rfl ?_
    refine r_ishr (pc := 249) ok dX12_person_249 ?_
    refine r_iconst (pc := 250) ok (1 : Int32) dX12_person_250 ci_1 ?_
    refine r_iand (pc := 251) ok dX12_person_251 ?_
    exact r_iret (pc := 252) ok dX12_person_252 rfl
  · refine r_iconst (pc := 30) ok (0 : Int32) dX12_person_30 ci_0 ?_
    exact r_iret (pc := 31) ok dX12_person_31 rfl
theorem wMo_person_J19 {Z : Cx} {G : Gx} {b : Nat} {XX YY : Nat → Obj} {m : Obj} {v1 : Int32} {v2 : Int32} (ok : OK Z G b cX12_person 5 2 RX12 (some .int)) : VO Z G b 5 (fun (r : Int32 × Obj) => QX Z b (qI G b r.1 (mx XX (va_up YY 225 r.2)))) (mx XX (va_up YY 225 m)) 19 [some (.ref (b + 225)), some (.int v1), some (.int v2), none, none] [.ref (b + 225)] ((fMo_person_J19 m v1 v2).bind some) := by
  unfold fMo_person_J19
  refine r_iconst (pc := 19) ok (1 : Int32) dX12_person_19 ci_1 ?_
  refine r_goto (pc := 20) ok 24 dX12_person_20 rfl ?_
  exact wMo_person_J24 ok
theorem vMo_person {Z : Cx} {G : Gx} {b : Nat} {XX YY : Nat → Obj} {m : Obj} {v1 : Int32} {v2 : Int32} (ok : OK Z G b cX12_person 5 2 RX12 (some .int)) : VO Z G b 5 (fun (r : Int32 × Obj) => QX Z b (qI G b r.1 (mx XX (va_up YY 225 r.2)))) (mx XX (va_up YY 225 m)) 0 [some (.ref (b + 225)), some (.int v1), some (.int v2), none, none] [] ((fMo_person m v1 v2).bind some) := by
  unfold fMo_person
  refine r_aload_n (pc := 0) ok dX12_person_0 rfl ?_
  refine r_aload_n (pc := 1) ok dX12_person_1 rfl ?_
  refine r_iload_n (pc := 2) ok dX12_person_2 rfl ?_
  refine k_I (pc := 3) (fun r1 => r1) (fun r1 => mx XX (va_up YY 225 m)) (fun r1 hr_ => c_V (n := 1) ok cls12 sh_225 rfl ml_Mo_290 wv_X12_isPerson yk_X12_isPerson rfl (Nat.le_of_ble_eq_true rfl) (Nat.le_of_ble_eq_true rfl) (tMo_isPerson (va_up_self _ _ _) hr_) rfl (Nat.le_of_ble_eq_true rfl) dX12_person_3) (fun r1 => ?_)
  refine r_if_eq (pc := 6) ok 19 dX12_person_6 rfl (fun _ => ?_) (fun _ => ?_)
  · exact wMo_person_J19 ok
  · refine r_iload_n (pc := 9) ok dX12_person_9 rfl ?_
    refine r_iconst (pc := 10) ok (0 : Int32) dX12_person_10 ci_0 ?_
    refine r_bipush (pc := 11) ok (10 : Int32) dX12_person_11 cb_10 ?_
    refine k_I (pc := 13) (fun r17 => r17) (fun r17 => mx XX (va_up YY 225 m)) (fun r17 hr_ => c_S (n := 3) ok ml_Mo_193 ws_X12_isIn yk_X12_isIn rfl (Nat.le_of_ble_eq_true rfl) (Nat.le_of_ble_eq_true rfl) (tMo_isIn hr_) rfl (Nat.le_of_ble_eq_true rfl) dX12_person_13) (fun r17 => ?_)
    refine r_if_ne (pc := 16) ok 23 dX12_person_16 rfl (fun _ => ?_) (fun _ => ?_)
    · exact wMo_person_J19 ok
    · refine r_iconst (pc := 23) ok (0 : Int32) dX12_person_23 ci_0 ?_
      exact wMo_person_J24 ok
theorem tMo_person {l : Launch} {G : Gx} {b : Nat} {XX YY : Nat → Obj} {m : Obj} {v1 : Int32} {v2 : Int32} {r : Int32 × Obj} (hr : fMo_person m v1 v2 = some r) : MetG l G b yX12_person cX12_person 5 (some .int) 2 [.ref (b + 225), .int v1, .int v2] (mx XX (va_up YY 225 m)) (qI G b r.1 (mx XX (va_up YY 225 r.2))) := by
  refine met_start [some (.ref (b + 225)), some (.int v1), some (.int v2), none, none] (by decide +kernel) (Nat.le_of_ble_eq_true rfl) rfl (fun Z hl ok => ?_)
  clear hl
  exact vMo_person ok r (by rw [hr]; rfl)
theorem vMo_call {Z : Cx} {G : Gx} {b : Nat} {XX YY : Nat → Obj} {m : Obj} {v1 : Int32} {v2 : Int32} (ok : OK Z G b cX12_call 3 1 RX12 (some .int)) : VO Z G b 3 (fun (r : Int32 × Obj) => QX Z b (qI G b r.1 (mx XX (va_up YY 225 r.2)))) (mx XX (va_up YY 225 m)) 0 [some (.ref (b + 225)), some (.int v1), some (.int v2)] [] ((fMo_call m v1 v2).bind some) := by
  unfold fMo_call
  refine r_aload_n (pc := 0) ok dX12_call_0 rfl ?_
  refine r_iconst (pc := 1) ok (0 : Int32) dX12_call_1 ci_0 ?_
  refine r_putI (pc := 2) ok cls12 sh_225 (k := 0) rfl (Nat.le_of_ble_eq_true rfl) (fun s_ => mx XX (va_up YY 225 s_)) (pm_r _ _).1 (pm_r _ _).2 rfl rfl rfl dX12_call_2 fl_Mo_1 (fun s1 => ?_)
  refine r_iload_n (pc := 5) ok dX12_call_5 rfl ?_
  refine r_iconst (pc := 6) ok (0 : Int32) dX12_call_6 ci_0 ?_
  refine r_aload_n (pc := 7) ok dX12_call_7 rfl ?_
  refine r_getR (pc := 8) ok cls12 sh_225 (k := 6) rfl (Nat.le_of_ble_eq_true rfl) rfl dX12_call_8 fl_Mo_33 ?_
  refine r_bipush (pc := 11) ok (72 : Int32) dX12_call_11 cb_72 ?_
  refine r_ialdc (pc := 13) ok sh_227 (j := 2) rfl (i := 72) (by decide +kernel) (mx_r (by decide) (va_up_self _ _ _)) dX12_call_13 ?_
  refine r_iconst (pc := 14) ok (1 : Int32) dX12_call_14 ci_1 ?_
  refine r_isub (pc := 15) ok dX12_call_15 ?_
  refine k_I (pc := 16) (fun r2 => r2) (fun r2 => mx XX (va_up YY 225 s1)) (fun r2 hr_ => c_S (n := 3) ok ml_Mo_193 ws_X12_isIn yk_X12_isIn rfl (Nat.le_of_ble_eq_true rfl) (Nat.le_of_ble_eq_true rfl) (tMo_isIn hr_) rfl (Nat.le_of_ble_eq_true rfl) dX12_call_16) (fun r2 => ?_)
  refine r_if_eq (pc := 19) ok 61 dX12_call_19 rfl (fun _ => ?_) (fun _ => ?_)
  · refine r_iconst (pc := 61) ok (-1 : Int32) dX12_call_61 ci_m1 ?_
    exact r_iret (pc := 62) ok dX12_call_62 rfl
  · refine r_iload_n (pc := 22) ok dX12_call_22 rfl ?_
    refine r_if_ne (pc := 23) ok 39 dX12_call_23 rfl (fun _ => ?_) (fun _ => ?_)
    · refine r_aload_n (pc := 26) ok dX12_call_26 rfl ?_
      refine r_getR (pc := 27) ok cls12 sh_225 (k := 6) rfl (Nat.le_of_ble_eq_true rfl) rfl dX12_call_27 fl_Mo_33 ?_
      refine r_sipush (pc := 30) ok (137 : Int32) dX12_call_30 cs_137 ?_
      refine r_iload_n (pc := 33) ok dX12_call_33 rfl ?_
      refine r_iadd (pc := 34) ok dX12_call_34 ?_
      refine r_iald (pc := 35) ok sh_227 (j := 2) rfl (mx_r (by decide) (va_up_self _ _ _)) dX12_call_35 (fun i3 => ?_)
      refine r_goto (pc := 36) ok 62 dX12_call_36 rfl ?_
      exact r_iret (pc := 62) ok dX12_call_62 rfl
    · refine r_iload_n (pc := 39) ok dX12_call_39 rfl ?_
      refine r_iconst (pc := 40) ok (1 : Int32) dX12_call_40 ci_1 ?_
      refine r_icmp_ne (pc := 41) ok 57 dX12_call_41 rfl (fun _ => ?_) (fun _ => ?_)
      · refine r_aload_n (pc := 44) ok dX12_call_44 rfl ?_
        refine r_getR (pc := 45) ok cls12 sh_225 (k := 6) rfl (Nat.le_of_ble_eq_true rfl) rfl dX12_call_45 fl_Mo_33 ?_
        refine r_sipush (pc := 48) ok (149 : Int32) dX12_call_48 cs_149 ?_
        refine r_iload_n (pc := 51) ok dX12_call_51 rfl ?_
        refine r_iadd (pc := 52) ok dX12_call_52 ?_
        refine r_iald (pc := 53) ok sh_227 (j := 2) rfl (mx_r (by decide) (va_up_self _ _ _)) dX12_call_53 (fun i4 => ?_)
        refine r_goto (pc := 54) ok 62 dX12_call_54 rfl ?_
        exact r_iret (pc := 62) ok dX12_call_62 rfl
      · refine r_iconst (pc := 57) ok (-1 : Int32) dX12_call_57 ci_m1 ?_
        refine r_goto (pc := 58) ok 62 dX12_call_58 rfl ?_
        exact r_iret (pc := 62) ok dX12_call_62 rfl
theorem tMo_call {l : Launch} {G : Gx} {b : Nat} {XX YY : Nat → Obj} {m : Obj} {v1 : Int32} {v2 : Int32} {r : Int32 × Obj} (hr : fMo_call m v1 v2 = some r) : MetG l G b yX12_call cX12_call 3 (some .int) 1 [.ref (b + 225), .int v1, .int v2] (mx XX (va_up YY 225 m)) (qI G b r.1 (mx XX (va_up YY 225 r.2))) := by
  refine met_start [some (.ref (b + 225)), some (.int v1), some (.int v2)] (by decide +kernel) (Nat.le_of_ble_eq_true rfl) rfl (fun Z hl ok => ?_)
  clear hl
  exact vMo_call ok r (by rw [hr]; rfl)
theorem vMo_now {Z : Cx} {G : Gx} {b : Nat} {XX YY : Nat → Obj} {m : Obj} {v1 : Int32} (ok : OK Z G b cX12_now 2 4 RX12 (some .int)) : VO Z G b 2 (fun (r : Int32 × Obj) => QX Z b (qI G b r.1 (mx XX (va_up YY 225 r.2)))) (mx XX (va_up YY 225 m)) 0 [some (.ref (b + 225)), some (.int v1)] [] ((fMo_now m v1).bind some) := by
  unfold fMo_now
  refine r_aload_n (pc := 0) ok dX12_now_0 rfl ?_
  refine r_iconst (pc := 1) ok (0 : Int32) dX12_now_1 ci_0 ?_
  refine r_putI (pc := 2) ok cls12 sh_225 (k := 0) rfl (Nat.le_of_ble_eq_true rfl) (fun s_ => mx XX (va_up YY 225 s_)) (pm_r _ _).1 (pm_r _ _).2 rfl rfl rfl dX12_now_2 fl_Mo_1 (fun s1 => ?_)
  refine r_iload_n (pc := 5) ok dX12_now_5 rfl ?_
  refine r_ite (fun hs0 => ?_) (fun hs0 => ?_)
  · refine r_tsw (pc := 6) ok 52 (0 : Int32) dX12_now_6 hs0 (by decide +kernel) (by decide +kernel) rfl rfl ?_
    refine r_aload_n (pc := 52) ok dX12_now_52 rfl ?_
    refine r_getR (pc := 53) ok cls12 sh_225 (k := 6) rfl (Nat.le_of_ble_eq_true rfl) rfl dX12_now_53 fl_Mo_33 ?_
    refine r_bipush (pc := 56) ok (69 : Int32) dX12_now_56 cb_69 ?_
    refine r_ialdc (pc := 58) ok sh_227 (j := 2) rfl (i := 69) (by decide +kernel) (mx_r (by decide) (va_up_self _ _ _)) dX12_now_58 ?_
    exact r_iret (pc := 59) ok dX12_now_59 rfl
  refine r_ite (fun hs1 => ?_) (fun hs1 => ?_)
  · refine r_tsw (pc := 6) ok 60 (1 : Int32) dX12_now_6 hs1 (by decide +kernel) (by decide +kernel) rfl rfl ?_
    refine r_aload_n (pc := 60) ok dX12_now_60 rfl ?_
    refine r_iconst (pc := 61) ok (0 : Int32) dX12_now_61 ci_0 ?_
    refine k_I (pc := 62) (fun r2 => r2) (fun r2 => mx XX (va_up YY 225 s1)) (fun r2 hr_ => c_V (n := 1) ok cls12 sh_225 rfl ml_Mo_297 wv_X12_are yk_X12_are rfl (Nat.le_of_ble_eq_true rfl) (Nat.le_of_ble_eq_true rfl) (tMo_are (va_up_self _ _ _) hr_) rfl (Nat.le_of_ble_eq_true rfl) dX12_now_62) (fun r2 => ?_)
    exact r_iret (pc := 65) ok dX12_now_65 rfl
  refine r_ite (fun hs2 => ?_) (fun hs2 => ?_)
  · refine r_tsw (pc := 6) ok 66 (2 : Int32) dX12_now_6 hs2 (by decide +kernel) (by decide +kernel) rfl rfl ?_
    refine r_aload_n (pc := 66) ok dX12_now_66 rfl ?_
    refine r_iconst (pc := 67) ok (1 : Int32) dX12_now_67 ci_1 ?_
    refine k_I (pc := 68) (fun r3 => r3) (fun r3 => mx XX (va_up YY 225 s1)) (fun r3 hr_ => c_V (n := 1) ok cls12 sh_225 rfl ml_Mo_297 wv_X12_are yk_X12_are rfl (Nat.le_of_ble_eq_true rfl) (Nat.le_of_ble_eq_true rfl) (tMo_are (va_up_self _ _ _) hr_) rfl (Nat.le_of_ble_eq_true rfl) dX12_now_68) (fun r3 => ?_)
    exact r_iret (pc := 71) ok dX12_now_71 rfl
  refine r_ite (fun hs3 => ?_) (fun hs3 => ?_)
  · refine r_tsw (pc := 6) ok 72 (3 : Int32) dX12_now_6 hs3 (by decide +kernel) (by decide +kernel) rfl rfl ?_
    refine r_aload_n (pc := 72) ok dX12_now_72 rfl ?_
    refine r_iconst (pc := 73) ok (2 : Int32) dX12_now_73 ci_2 ?_
    refine k_I (pc := 74) (fun r4 => r4) (fun r4 => mx XX (va_up YY 225 s1)) (fun r4 hr_ => c_V (n := 1) ok cls12 sh_225 rfl ml_Mo_297 wv_X12_are yk_X12_are rfl (Nat.le_of_ble_eq_true rfl) (Nat.le_of_ble_eq_true rfl) (tMo_are (va_up_self _ _ _) hr_) rfl (Nat.le_of_ble_eq_true rfl) dX12_now_74) (fun r4 => ?_)
    exact r_iret (pc := 77) ok dX12_now_77 rfl
  refine r_ite (fun hs4 => ?_) (fun hs4 => ?_)
  · refine r_tsw (pc := 6) ok 78 (4 : Int32) dX12_now_6 hs4 (by decide +kernel) (by decide +kernel) rfl rfl ?_
    refine r_aload_n (pc := 78) ok dX12_now_78 rfl ?_
    refine k_I (pc := 79) (fun r5 => r5) (fun r5 => mx XX (va_up YY 225 s1)) (fun r5 hr_ => c_V (n := 0) ok cls12 sh_225 rfl ml_Mo_300 wv_X12_openHouses yk_X12_openHouses rfl (Nat.le_of_ble_eq_true rfl) (Nat.le_of_ble_eq_true rfl) (tMo_openHouses (va_up_self _ _ _) hr_) rfl (Nat.le_of_ble_eq_true rfl) dX12_now_79) (fun r5 => ?_)
    exact r_iret (pc := 82) ok dX12_now_82 rfl
  refine r_ite (fun hs5 => ?_) (fun hs5 => ?_)
  · refine r_tsw (pc := 6) ok 83 (5 : Int32) dX12_now_6 hs5 (by decide +kernel) (by decide +kernel) rfl rfl ?_
    refine r_aload_n (pc := 83) ok dX12_now_83 rfl ?_
    refine r_getR (pc := 84) ok cls12 sh_225 (k := 6) rfl (Nat.le_of_ble_eq_true rfl) rfl dX12_now_84 fl_Mo_33 ?_
    refine r_bipush (pc := 87) ok (72 : Int32) dX12_now_87 cb_72 ?_
    refine r_ialdc (pc := 89) ok sh_227 (j := 2) rfl (i := 72) (by decide +kernel) (mx_r (by decide) (va_up_self _ _ _)) dX12_now_89 ?_
    exact r_iret (pc := 90) ok dX12_now_90 rfl
  refine r_ite (fun hs6 => ?_) (fun hs6 => ?_)
  · refine r_tsw (pc := 6) ok 91 (6 : Int32) dX12_now_6 hs6 (by decide +kernel) (by decide +kernel) rfl rfl ?_
    refine r_aload_n (pc := 91) ok dX12_now_91 rfl ?_
    refine r_getR (pc := 92) ok cls12 sh_225 (k := 6) rfl (Nat.le_of_ble_eq_true rfl) rfl dX12_now_92 fl_Mo_33 ?_
    refine r_bipush (pc := 95) ok (70 : Int32) dX12_now_95 cb_70 ?_
    refine r_ialdc (pc := 97) ok sh_227 (j := 2) rfl (i := 70) (by decide +kernel) (mx_r (by decide) (va_up_self _ _ _)) dX12_now_97 ?_
    exact r_iret (pc := 98) ok dX12_now_98 rfl
  refine r_ite (fun hs7 => ?_) (fun hs7 => ?_)
  · refine r_tsw (pc := 6) ok 99 (7 : Int32) dX12_now_6 hs7 (by decide +kernel) (by decide +kernel) rfl rfl ?_
    refine r_aload_n (pc := 99) ok dX12_now_99 rfl ?_
    refine r_getR (pc := 100) ok cls12 sh_225 (k := 6) rfl (Nat.le_of_ble_eq_true rfl) rfl dX12_now_100 fl_Mo_33 ?_
    refine r_bipush (pc := 103) ok (71 : Int32) dX12_now_103 cb_71 ?_
    refine r_ialdc (pc := 105) ok sh_227 (j := 2) rfl (i := 71) (by decide +kernel) (mx_r (by decide) (va_up_self _ _ _)) dX12_now_105 ?_
    exact r_iret (pc := 106) ok dX12_now_106 rfl
  refine r_tswd (pc := 6) ok 107 dX12_now_6 (tsw_out8 hs0 hs1 hs2 hs3 hs4 hs5 hs6 hs7) rfl ?_
  refine r_iconst (pc := 107) ok (-1 : Int32) dX12_now_107 ci_m1 ?_
  exact r_iret (pc := 108) ok dX12_now_108 rfl
theorem tMo_now {l : Launch} {G : Gx} {b : Nat} {XX YY : Nat → Obj} {m : Obj} {v1 : Int32} {r : Int32 × Obj} (hr : fMo_now m v1 = some r) : MetG l G b yX12_now cX12_now 2 (some .int) 4 [.ref (b + 225), .int v1] (mx XX (va_up YY 225 m)) (qI G b r.1 (mx XX (va_up YY 225 r.2))) := by
  refine met_start [some (.ref (b + 225)), some (.int v1)] (by decide +kernel) (Nat.le_of_ble_eq_true rfl) rfl (fun Z hl ok => ?_)
  clear hl
  exact vMo_now ok r (by rw [hr]; rfl)
theorem vMo_whyKnock {Z : Cx} {G : Gx} {b : Nat} {XX YY : Nat → Obj} {m : Obj} {v1 : Int32} {v2 : Int32} (ok : OK Z G b cX12_whyKnock 3 0 RX12 (some .int)) (hm : YY 225 = m) : VO Z G b 3 (fun (r : Int32) => QX Z b (qI G b r (mx XX YY))) (mx XX YY) 0 [some (.ref (b + 225)), some (.int v1), some (.int v2)] [] ((fMo_whyKnock m v1 v2).bind some) := by
  unfold fMo_whyKnock
  refine r_aload_n (pc := 0) ok dX12_whyKnock_0 rfl ?_
  refine r_getR (pc := 1) ok cls12 sh_225 (k := 6) rfl (Nat.le_of_ble_eq_true rfl) rfl dX12_whyKnock_1 fl_Mo_33 ?_
  refine r_bipush (pc := 4) ok (73 : Int32) dX12_whyKnock_4 cb_73 ?_
  refine r_iload_n (pc := 6) ok dX12_whyKnock_6 rfl ?_
  refine r_iadd (pc := 7) ok dX12_whyKnock_7 ?_
  refine r_iald (pc := 8) ok sh_227 (j := 2) rfl (mx_r (by decide) hm) dX12_whyKnock_8 (fun i1 => ?_)
  refine r_if_eq (pc := 9) ok 16 dX12_whyKnock_9 rfl (fun _ => ?_) (fun _ => ?_)
  · refine r_aload_n (pc := 16) ok dX12_whyKnock_16 rfl ?_
    refine r_getR (pc := 17) ok cls12 sh_225 (k := 6) rfl (Nat.le_of_ble_eq_true rfl) rfl dX12_whyKnock_17 fl_Mo_33 ?_
    refine r_iconst (pc := 20) ok (5 : Int32) dX12_whyKnock_20 ci_5 ?_
    refine r_iload_n (pc := 21) ok dX12_whyKnock_21 rfl ?_
    refine r_iadd (pc := 22) ok dX12_whyKnock_22 ?_
    refine r_iald (pc := 23) ok sh_227 (j := 2) rfl (mx_r (by decide) hm) dX12_whyKnock_23 (fun i2 => ?_)
    refine r_aload_n (pc := 24) ok dX12_whyKnock_24 rfl ?_
    refine r_getR (pc := 25) ok cls12 sh_225 (k := 6) rfl (Nat.le_of_ble_eq_true rfl) rfl dX12_whyKnock_25 fl_Mo_33 ?_
    refine r_bipush (pc := 28) ok (81 : Int32) dX12_whyKnock_28 cb_81 ?_
    refine r_iload_n (pc := 30) ok dX12_whyKnock_30 rfl ?_
    refine r_iadd (pc := 31) ok dX12_whyKnock_31 ?_
    refine r_iald (pc := 32) ok sh_227 (j := 2) rfl (mx_r (by decide) hm) dX12_whyKnock_32 (fun i3 => ?_)
    refine r_icmp_eq (pc := 33) ok 40 dX12_whyKnock_33 rfl (fun _ => ?_) (fun _ => ?_)
    · refine r_aload_n (pc := 40) ok dX12_whyKnock_40 rfl ?_
      refine r_getR (pc := 41) ok cls12 sh_225 (k := 6) rfl (Nat.le_of_ble_eq_true rfl) rfl dX12_whyKnock_41 fl_Mo_33 ?_
      refine r_bipush (pc := 44) ok (11 : Int32) dX12_whyKnock_44 cb_11 ?_
      refine r_iload_n (pc := 46) ok dX12_whyKnock_46 rfl ?_
      refine r_iadd (pc := 47) ok dX12_whyKnock_47 ?_
      refine r_iald (pc := 48) ok sh_227 (j := 2) rfl (mx_r (by decide) hm) dX12_whyKnock_48 (fun i4 => ?_)
      refine r_iload_n (pc := 49) ok dX12_whyKnock_49 rfl ?_
      refine r_iconst (pc := 50) ok (1 : Int32) dX12_whyKnock_50 ci_1 ?_
      refine r_iadd (pc := 51) ok dX12_whyKnock_51 ?_
      refine r_icmp_ne (pc := 52) ok 59 dX12_whyKnock_52 rfl (fun _ => ?_) (fun _ => ?_)
      · refine r_iconst (pc := 55) ok (3 : Int32) dX12_whyKnock_55 ci_3 ?_
        refine r_goto (pc := 56) ok 60 dX12_whyKnock_56 rfl ?_
        exact r_iret (pc := 60) ok dX12_whyKnock_60 rfl
      · refine r_iconst (pc := 59) ok (0 : Int32) dX12_whyKnock_59 ci_0 ?_
        exact r_iret (pc := 60) ok dX12_whyKnock_60 rfl
    · refine r_iconst (pc := 36) ok (2 : Int32) dX12_whyKnock_36 ci_2 ?_
      refine r_goto (pc := 37) ok 60 dX12_whyKnock_37 rfl ?_
      exact r_iret (pc := 60) ok dX12_whyKnock_60 rfl
  · refine r_iconst (pc := 12) ok (1 : Int32) dX12_whyKnock_12 ci_1 ?_
    refine r_goto (pc := 13) ok 60 dX12_whyKnock_13 rfl ?_
    exact r_iret (pc := 60) ok dX12_whyKnock_60 rfl
theorem tMo_whyKnock {l : Launch} {G : Gx} {b : Nat} {XX YY : Nat → Obj} {m : Obj} {v1 : Int32} {v2 : Int32} (hm : YY 225 = m) {r : Int32} (hr : fMo_whyKnock m v1 v2 = some r) : MetG l G b yX12_whyKnock cX12_whyKnock 3 (some .int) 0 [.ref (b + 225), .int v1, .int v2] (mx XX YY) (qI G b r (mx XX YY)) := by
  refine met_start [some (.ref (b + 225)), some (.int v1), some (.int v2)] (by decide +kernel) (Nat.le_of_ble_eq_true rfl) rfl (fun Z hl ok => ?_)
  clear hl
  exact vMo_whyKnock ok hm r (by rw [hr]; rfl)
theorem vMo_whyGo {Z : Cx} {G : Gx} {b : Nat} {XX YY : Nat → Obj} {m : Obj} {v1 : Int32} {v2 : Int32} (ok : OK Z G b cX12_whyGo 3 0 RX12 (some .int)) (hm : YY 225 = m) : VO Z G b 3 (fun (r : Int32) => QX Z b (qI G b r (mx XX YY))) (mx XX YY) 0 [some (.ref (b + 225)), some (.int v1), some (.int v2)] [] ((fMo_whyGo m v1 v2).bind some) := by
  unfold fMo_whyGo
  refine r_aload_n (pc := 0) ok dX12_whyGo_0 rfl ?_
  refine r_getR (pc := 1) ok cls12 sh_225 (k := 6) rfl (Nat.le_of_ble_eq_true rfl) rfl dX12_whyGo_1 fl_Mo_33 ?_
  refine r_bipush (pc := 4) ok (73 : Int32) dX12_whyGo_4 cb_73 ?_
  refine r_iload_n (pc := 6) ok dX12_whyGo_6 rfl ?_
  refine r_iadd (pc := 7) ok dX12_whyGo_7 ?_
  refine r_iald (pc := 8) ok sh_227 (j := 2) rfl (mx_r (by decide) hm) dX12_whyGo_8 (fun i1 => ?_)
  refine r_if_eq (pc := 9) ok 16 dX12_whyGo_9 rfl (fun _ => ?_) (fun _ => ?_)
  · refine r_aload_n (pc := 16) ok dX12_whyGo_16 rfl ?_
    refine r_getR (pc := 17) ok cls12 sh_225 (k := 6) rfl (Nat.le_of_ble_eq_true rfl) rfl dX12_whyGo_17 fl_Mo_33 ?_
    refine r_bipush (pc := 20) ok (89 : Int32) dX12_whyGo_20 cb_89 ?_
    refine r_iload_n (pc := 22) ok dX12_whyGo_22 rfl ?_
    refine r_iadd (pc := 23) ok dX12_whyGo_23 ?_
    refine r_iald (pc := 24) ok sh_227 (j := 2) rfl (mx_r (by decide) hm) dX12_whyGo_24 (fun i2 => ?_)
    refine r_iload_n (pc := 25) ok dX12_whyGo_25 rfl ?_
    refine r_icmp_ne (pc := 26) ok 33 dX12_whyGo_26 rfl (fun _ => ?_) (fun _ => ?_)
    · refine r_iconst (pc := 29) ok (2 : Int32) dX12_whyGo_29 ci_2 ?_
      refine r_goto (pc := 30) ok 34 dX12_whyGo_30 rfl ?_
      exact r_iret (pc := 34) ok dX12_whyGo_34 rfl
    · refine r_iconst (pc := 33) ok (0 : Int32) dX12_whyGo_33 ci_0 ?_
      exact r_iret (pc := 34) ok dX12_whyGo_34 rfl
  · refine r_iconst (pc := 12) ok (1 : Int32) dX12_whyGo_12 ci_1 ?_
    refine r_goto (pc := 13) ok 34 dX12_whyGo_13 rfl ?_
    exact r_iret (pc := 34) ok dX12_whyGo_34 rfl
theorem tMo_whyGo {l : Launch} {G : Gx} {b : Nat} {XX YY : Nat → Obj} {m : Obj} {v1 : Int32} {v2 : Int32} (hm : YY 225 = m) {r : Int32} (hr : fMo_whyGo m v1 v2 = some r) : MetG l G b yX12_whyGo cX12_whyGo 3 (some .int) 0 [.ref (b + 225), .int v1, .int v2] (mx XX YY) (qI G b r (mx XX YY)) := by
  refine met_start [some (.ref (b + 225)), some (.int v1), some (.int v2)] (by decide +kernel) (Nat.le_of_ble_eq_true rfl) rfl (fun Z hl ok => ?_)
  clear hl
  exact vMo_whyGo ok hm r (by rw [hr]; rfl)
theorem vMo_whyCall {Z : Cx} {G : Gx} {b : Nat} {XX YY : Nat → Obj} {m : Obj} {v1 : Int32} {v2 : Int32} (ok : OK Z G b cX12_whyCall 3 1 RX12 (some .int)) (hm : YY 225 = m) : VO Z G b 3 (fun (r : Int32) => QX Z b (qI G b r (mx XX YY))) (mx XX YY) 0 [some (.ref (b + 225)), some (.int v1), some (.int v2)] [] ((fMo_whyCall m v1 v2).bind some) := by
  unfold fMo_whyCall
  refine r_aload_n (pc := 0) ok dX12_whyCall_0 rfl ?_
  refine r_getR (pc := 1) ok cls12 sh_225 (k := 6) rfl (Nat.le_of_ble_eq_true rfl) rfl dX12_whyCall_1 fl_Mo_33 ?_
  refine r_bipush (pc := 4) ok (11 : Int32) dX12_whyCall_4 cb_11 ?_
  refine r_iload_n (pc := 6) ok dX12_whyCall_6 rfl ?_
  refine r_iadd (pc := 7) ok dX12_whyCall_7 ?_
  refine r_iald (pc := 8) ok sh_227 (j := 2) rfl (mx_r (by decide) hm) dX12_whyCall_8 (fun i1 => ?_)
  refine r_iload_n (pc := 9) ok dX12_whyCall_9 rfl ?_
  refine r_iconst (pc := 10) ok (1 : Int32) dX12_whyCall_10 ci_1 ?_
  refine r_iadd (pc := 11) ok dX12_whyCall_11 ?_
  refine r_icmp_ne (pc := 12) ok 19 dX12_whyCall_12 rfl (fun _ => ?_) (fun _ => ?_)
  · refine r_iconst (pc := 15) ok (1 : Int32) dX12_whyCall_15 ci_1 ?_
    refine r_goto (pc := 16) ok 49 dX12_whyCall_16 rfl ?_
    exact r_iret (pc := 49) ok dX12_whyCall_49 rfl
  · refine r_aload_n (pc := 19) ok dX12_whyCall_19 rfl ?_
    refine r_iload_n (pc := 20) ok dX12_whyCall_20 rfl ?_
    refine r_iload_n (pc := 21) ok dX12_whyCall_21 rfl ?_
    refine k_I (pc := 22) (fun r2 => r2) (fun r2 => mx XX YY) (fun r2 hr_ => c_V (n := 2) ok cls12 sh_225 rfl ml_Mo_303 wv_X12_callOf yk_X12_callOf rfl (Nat.le_of_ble_eq_true rfl) (Nat.le_of_ble_eq_true rfl) (tMo_callOf (hm) hr_) rfl (Nat.le_of_ble_eq_true rfl) dX12_whyCall_22) (fun r2 => ?_)
    refine r_if_lt (pc := 25) ok 32 dX12_whyCall_25 rfl (fun _ => ?_) (fun _ => ?_)
    · refine r_aload_n (pc := 32) ok dX12_whyCall_32 rfl ?_
      refine r_getR (pc := 33) ok cls12 sh_225 (k := 6) rfl (Nat.le_of_ble_eq_true rfl) rfl dX12_whyCall_33 fl_Mo_33 ?_
      refine r_bipush (pc := 36) ok (72 : Int32) dX12_whyCall_36 cb_72 ?_
      refine r_ialdc (pc := 38) ok sh_227 (j := 2) rfl (i := 72) (by decide +kernel) (mx_r (by decide) hm) dX12_whyCall_38 ?_
      refine r_bipush (pc := 39) ok (12 : Int32) dX12_whyCall_39 cb_12 ?_
      refine r_icmp_ne (pc := 41) ok 48 dX12_whyCall_41 rfl (fun _ => ?_) (fun _ => ?_)
      · refine r_iconst (pc := 44) ok (3 : Int32) dX12_whyCall_44 ci_3 ?_
        refine r_goto (pc := 45) ok 49 dX12_whyCall_45 rfl ?_
        exact r_iret (pc := 49) ok dX12_whyCall_49 rfl
      · refine r_iconst (pc := 48) ok (0 : Int32) dX12_whyCall_48 ci_0 ?_
        exact r_iret (pc := 49) ok dX12_whyCall_49 rfl
    · refine r_iconst (pc := 28) ok (2 : Int32) dX12_whyCall_28 ci_2 ?_
      refine r_goto (pc := 29) ok 49 dX12_whyCall_29 rfl ?_
      exact r_iret (pc := 49) ok dX12_whyCall_49 rfl
theorem tMo_whyCall {l : Launch} {G : Gx} {b : Nat} {XX YY : Nat → Obj} {m : Obj} {v1 : Int32} {v2 : Int32} (hm : YY 225 = m) {r : Int32} (hr : fMo_whyCall m v1 v2 = some r) : MetG l G b yX12_whyCall cX12_whyCall 3 (some .int) 1 [.ref (b + 225), .int v1, .int v2] (mx XX YY) (qI G b r (mx XX YY)) := by
  refine met_start [some (.ref (b + 225)), some (.int v1), some (.int v2)] (by decide +kernel) (Nat.le_of_ble_eq_true rfl) rfl (fun Z hl ok => ?_)
  clear hl
  exact vMo_whyCall ok hm r (by rw [hr]; rfl)
theorem vMo_stands {Z : Cx} {G : Gx} {b : Nat} {XX YY : Nat → Obj} {m : Obj} {v1 : Int32} {v2 : Int32} {v3 : Int32} (ok : OK Z G b cX12_stands 4 0 RX12 none) : VO Z G b 4 (fun (r : Obj) => QX Z b (qV G b (mx XX (va_up YY 225 r)))) (mx XX (va_up YY 225 m)) 0 [some (.ref (b + 225)), some (.int v1), some (.int v2), some (.int v3)] [] ((fMo_stands m v1 v2 v3).bind some) := by
  unfold fMo_stands
  refine r_aload_n (pc := 0) ok dX12_stands_0 rfl ?_
  refine r_getR (pc := 1) ok cls12 sh_225 (k := 6) rfl (Nat.le_of_ble_eq_true rfl) rfl dX12_stands_1 fl_Mo_33 ?_
  refine r_bipush (pc := 4) ok (73 : Int32) dX12_stands_4 cb_73 ?_
  refine r_iload_n (pc := 6) ok dX12_stands_6 rfl ?_
  refine r_iadd (pc := 7) ok dX12_stands_7 ?_
  refine r_iload_n (pc := 8) ok dX12_stands_8 rfl ?_
  refine r_iast (pc := 9) ok sh_227 (j := 2) rfl rfl (fun s_ => mx XX (va_up YY 225 s_)) (pm_r _ _).1 (pm_r _ _).2 dX12_stands_9 (fun i1 s2 => ?_)
  refine r_aload_n (pc := 10) ok dX12_stands_10 rfl ?_
  refine r_getR (pc := 11) ok cls12 sh_225 (k := 6) rfl (Nat.le_of_ble_eq_true rfl) rfl dX12_stands_11 fl_Mo_33 ?_
  refine r_bipush (pc := 14) ok (97 : Int32) dX12_stands_14 cb_97 ?_
  refine r_iload_n (pc := 16) ok dX12_stands_16 rfl ?_
  refine r_iadd (pc := 17) ok dX12_stands_17 ?_
  refine r_iload_n (pc := 18) ok dX12_stands_18 rfl ?_
  refine r_iconst (pc := 19) ok (1 : Int32) dX12_stands_19 ci_1 ?_
  refine r_iadd (pc := 20) ok dX12_stands_20 ?_
  refine r_iast (pc := 21) ok sh_227 (j := 2) rfl rfl (fun s_ => mx XX (va_up YY 225 s_)) (pm_r _ _).1 (pm_r _ _).2 dX12_stands_21 (fun i3 s4 => ?_)
  refine r_aload_n (pc := 22) ok dX12_stands_22 rfl ?_
  refine r_getR (pc := 23) ok cls12 sh_225 (k := 6) rfl (Nat.le_of_ble_eq_true rfl) rfl dX12_stands_23 fl_Mo_33 ?_
  refine r_bipush (pc := 26) ok (105 : Int32) dX12_stands_26 cb_105 ?_
  refine r_iload_n (pc := 28) ok dX12_stands_28 rfl ?_
  refine r_iadd (pc := 29) ok dX12_stands_29 ?_
  refine r_iload_n (pc := 30) ok dX12_stands_30 rfl ?_
  refine r_iconst (pc := 31) ok (2 : Int32) dX12_stands_31 ci_2 ?_
  refine r_icmp_ne (pc := 32) ok 44 dX12_stands_32 rfl (fun _ => ?_) (fun _ => ?_)
  · refine r_aload_n (pc := 35) ok dX12_stands_35 rfl ?_
    refine r_getR (pc := 36) ok cls12 sh_225 (k := 6) rfl (Nat.le_of_ble_eq_true rfl) rfl dX12_stands_36 fl_Mo_33 ?_
    refine r_iconst (pc := 39) ok (4 : Int32) dX12_stands_39 ci_4 ?_
    refine r_ialdc (pc := 40) ok sh_227 (j := 2) rfl (i := 4) (by decide +kernel) (mx_r (by decide) (va_up_self _ _ _)) dX12_stands_40 ?_
    refine r_goto (pc := 41) ok 45 dX12_stands_41 rfl ?_
    refine r_iast (pc := 45) ok sh_227 (j := 2) rfl rfl (fun s_ => mx XX (va_up YY 225 s_)) (pm_r _ _).1 (pm_r _ _).2 dX12_stands_45 (fun i5 s6 => ?_)
    exact r_vret (pc := 46) ok dX12_stands_46 rfl
  · refine r_iconst (pc := 44) ok (0 : Int32) dX12_stands_44 ci_0 ?_
    refine r_iast (pc := 45) ok sh_227 (j := 2) rfl rfl (fun s_ => mx XX (va_up YY 225 s_)) (pm_r _ _).1 (pm_r _ _).2 dX12_stands_45 (fun i7 s8 => ?_)
    exact r_vret (pc := 46) ok dX12_stands_46 rfl
theorem tMo_stands {l : Launch} {G : Gx} {b : Nat} {XX YY : Nat → Obj} {m : Obj} {v1 : Int32} {v2 : Int32} {v3 : Int32} {r : Obj} (hr : fMo_stands m v1 v2 v3 = some r) : MetG l G b yX12_stands cX12_stands 4 none 0 [.ref (b + 225), .int v1, .int v2, .int v3] (mx XX (va_up YY 225 m)) (qV G b (mx XX (va_up YY 225 r))) := by
  refine met_start [some (.ref (b + 225)), some (.int v1), some (.int v2), some (.int v3)] (by decide +kernel) (Nat.le_of_ble_eq_true rfl) rfl (fun Z hl ok => ?_)
  clear hl
  exact vMo_stands ok r (by rw [hr]; rfl)
theorem vMo_books {Z : Cx} {G : Gx} {b : Nat} {XX YY : Nat → Obj} {m : Obj} {v1 : Int32} {v2 : Int32} (ok : OK Z G b cX12_books 3 0 RX12 none) : VO Z G b 3 (fun (r : Obj) => QX Z b (qV G b (mx XX (va_up YY 225 r)))) (mx XX (va_up YY 225 m)) 0 [some (.ref (b + 225)), some (.int v1), some (.int v2)] [] ((fMo_books m v1 v2).bind some) := by
  unfold fMo_books
  refine r_aload_n (pc := 0) ok dX12_books_0 rfl ?_
  refine r_getR (pc := 1) ok cls12 sh_225 (k := 6) rfl (Nat.le_of_ble_eq_true rfl) rfl dX12_books_1 fl_Mo_33 ?_
  refine r_sipush (pc := 4) ok (137 : Int32) dX12_books_4 cs_137 ?_
  refine r_aload_n (pc := 7) ok dX12_books_7 rfl ?_
  refine r_getR (pc := 8) ok cls12 sh_225 (k := 6) rfl (Nat.le_of_ble_eq_true rfl) rfl dX12_books_8 fl_Mo_33 ?_
  refine r_bipush (pc := 11) ok (72 : Int32) dX12_books_11 cb_72 ?_
  refine r_ialdc (pc := 13) ok sh_227 (j := 2) rfl (i := 72) (by decide +kernel) (mx_r (by decide) (va_up_self _ _ _)) dX12_books_13 ?_
  refine r_iadd (pc := 14) ok dX12_books_14 ?_
  refine r_iload_n (pc := 15) ok dX12_books_15 rfl ?_
  refine r_iast (pc := 16) ok sh_227 (j := 2) rfl rfl (fun s_ => mx XX (va_up YY 225 s_)) (pm_r _ _).1 (pm_r _ _).2 dX12_books_16 (fun i1 s2 => ?_)
  refine r_aload_n (pc := 17) ok dX12_books_17 rfl ?_
  refine r_getR (pc := 18) ok cls12 sh_225 (k := 6) rfl (Nat.le_of_ble_eq_true rfl) rfl dX12_books_18 fl_Mo_33 ?_
  refine r_sipush (pc := 21) ok (149 : Int32) dX12_books_21 cs_149 ?_
  refine r_aload_n (pc := 24) ok dX12_books_24 rfl ?_
  refine r_getR (pc := 25) ok cls12 sh_225 (k := 6) rfl (Nat.le_of_ble_eq_true rfl) rfl dX12_books_25 fl_Mo_33 ?_
  refine r_bipush (pc := 28) ok (72 : Int32) dX12_books_28 cb_72 ?_
  refine r_ialdc (pc := 30) ok sh_227 (j := 2) rfl (i := 72) (by decide +kernel) (mx_r (by decide) (va_up_self _ _ _)) dX12_books_30 ?_
  refine r_iadd (pc := 31) ok dX12_books_31 ?_
  refine r_iload_n (pc := 32) ok dX12_books_32 rfl ?_
  refine r_iast (pc := 33) ok sh_227 (j := 2) rfl rfl (fun s_ => mx XX (va_up YY 225 s_)) (pm_r _ _).1 (pm_r _ _).2 dX12_books_33 (fun i3 s4 => ?_)
  refine r_aload_n (pc := 34) ok dX12_books_34 rfl ?_
  refine r_getR (pc := 35) ok cls12 sh_225 (k := 6) rfl (Nat.le_of_ble_eq_true rfl) rfl dX12_books_35 fl_Mo_33 ?_
  refine r_bipush (pc := 38) ok (72 : Int32) dX12_books_38 cb_72 ?_
  refine r_dup2 (pc := 40) ok dX12_books_40 rfl rfl ?_
  refine r_ialdc (pc := 41) ok sh_227 (j := 2) rfl (i := 72) (by decide +kernel) (mx_r (by decide) (va_up_self _ _ _)) dX12_books_41 ?_
  refine r_iconst (pc := 42) ok (1 : Int32) dX12_books_42 ci_1 ?_
  refine r_iadd (pc := 43) ok dX12_books_43 ?_
  refine r_iastc (pc := 44) ok sh_227 (j := 2) rfl (i := 72) (by decide +kernel) rfl (fun s_ => mx XX (va_up YY 225 s_)) (pm_r _ _).1 (pm_r _ _).2 dX12_books_44 (fun s5 => ?_)
  exact r_vret (pc := 45) ok dX12_books_45 rfl
theorem tMo_books {l : Launch} {G : Gx} {b : Nat} {XX YY : Nat → Obj} {m : Obj} {v1 : Int32} {v2 : Int32} {r : Obj} (hr : fMo_books m v1 v2 = some r) : MetG l G b yX12_books cX12_books 3 none 0 [.ref (b + 225), .int v1, .int v2] (mx XX (va_up YY 225 m)) (qV G b (mx XX (va_up YY 225 r))) := by
  refine met_start [some (.ref (b + 225)), some (.int v1), some (.int v2)] (by decide +kernel) (Nat.le_of_ble_eq_true rfl) rfl (fun Z hl ok => ?_)
  clear hl
  exact vMo_books ok r (by rw [hr]; rfl)
theorem wMo_strikes_L13 {Z : Cx} {G : Gx} {b : Nat} {XX YY : Nat → Obj} (ok : OK Z G b cX12_strikes 3 0 RX12 none) {K : ((Int32 × Obj) ⊕ (Obj)) → Option (Obj)} (hc : ∀ (a : Int32 × Obj), VO Z G b 3 (fun (r : Obj) => QX Z b (qV G b (mx XX (va_up YY 225 r)))) (mx XX (va_up YY 225 a.2)) 13 [some (.ref (b + 225)), none, some (.int a.1)] [] (K (.inl a))) (hx : ∀ (e : Obj), VO Z G b 3 (fun (r : Obj) => QX Z b (qV G b (mx XX (va_up YY 225 r)))) (mx XX (va_up YY 225 e)) 74 [some (.ref (b + 225)), none, none] [] (K (.inr e))) : ∀ (a : Int32 × Obj), VO Z G b 3 (fun (r : Obj) => QX Z b (qV G b (mx XX (va_up YY 225 r)))) (mx XX (va_up YY 225 a.2)) 13 [some (.ref (b + 225)), none, some (.int a.1)] [] ((fMo_strikes_L13 a).bind K) := by
  intro a
  unfold fMo_strikes_L13
  refine r_iload_n (pc := 13) ok dX12_strikes_13 rfl ?_
  refine r_aload_n (pc := 14) ok dX12_strikes_14 rfl ?_
  refine r_getR (pc := 15) ok cls12 sh_225 (k := 6) rfl (Nat.le_of_ble_eq_true rfl) rfl dX12_strikes_15 fl_Mo_33 ?_
  refine r_bipush (pc := 18) ok (72 : Int32) dX12_strikes_18 cb_72 ?_
  refine r_ialdc (pc := 20) ok sh_227 (j := 2) rfl (i := 72) (by decide +kernel) (mx_r (by decide) (va_up_self _ _ _)) dX12_strikes_20 ?_
  refine r_icmp_ge (pc := 21) ok 74 dX12_strikes_21 rfl (fun _ => ?_) (fun _ => ?_)
  · refine r_lv (lk_s (lk_n (lk_n lk_0 _) _) _) ?_
    exact hx a.2
  · refine r_aload_n (pc := 24) ok dX12_strikes_24 rfl ?_
    refine r_getR (pc := 25) ok cls12 sh_225 (k := 6) rfl (Nat.le_of_ble_eq_true rfl) rfl dX12_strikes_25 fl_Mo_33 ?_
    refine r_sipush (pc := 28) ok (137 : Int32) dX12_strikes_28 cs_137 ?_
    refine r_iload_n (pc := 31) ok dX12_strikes_31 rfl ?_
    refine r_iadd (pc := 32) ok dX12_strikes_32 ?_
    refine r_aload_n (pc := 33) ok dX12_strikes_33 rfl ?_
    refine r_getR (pc := 34) ok cls12 sh_225 (k := 6) rfl (Nat.le_of_ble_eq_true rfl) rfl dX12_strikes_34 fl_Mo_33 ?_
    refine r_sipush (pc := 37) ok (137 : Int32) dX12_strikes_37 cs_137 ?_
    refine r_iload_n (pc := 40) ok dX12_strikes_40 rfl ?_
    refine r_iadd (pc := 41) ok dX12_strikes_41 ?_
    refine r_iconst (pc := 42) ok (1 : Int32) dX12_strikes_42 ci_1 ?_
    refine r_iadd (pc := 43) ok dX12_strikes_43 ?_
    refine r_iald (pc := 44) ok sh_227 (j := 2) rfl (mx_r (by decide) (va_up_self _ _ _)) dX12_strikes_44 (fun i2 => ?_)
    refine r_iast (pc := 45) ok sh_227 (j := 2) rfl rfl (fun s_ => mx XX (va_up YY 225 s_)) (pm_r _ _).1 (pm_r _ _).2 dX12_strikes_45 (fun i3 s4 => ?_)
    refine r_aload_n (pc := 46) ok dX12_strikes_46 rfl ?_
    refine r_getR (pc := 47) ok cls12 sh_225 (k := 6) rfl (Nat.le_of_ble_eq_true rfl) rfl dX12_strikes_47 fl_Mo_33 ?_
    refine r_sipush (pc := 50) ok (149 : Int32) dX12_strikes_50 cs_149 ?_
    refine r_iload_n (pc := 53) ok dX12_strikes_53 rfl ?_
    refine r_iadd (pc := 54) ok dX12_strikes_54 ?_
    refine r_aload_n (pc := 55) ok dX12_strikes_55 rfl ?_
    refine r_getR (pc := 56) ok cls12 sh_225 (k := 6) rfl (Nat.le_of_ble_eq_true rfl) rfl dX12_strikes_56 fl_Mo_33 ?_
    refine r_sipush (pc := 59) ok (149 : Int32) dX12_strikes_59 cs_149 ?_
    refine r_iload_n (pc := 62) ok dX12_strikes_62 rfl ?_
    refine r_iadd (pc := 63) ok dX12_strikes_63 ?_
    refine r_iconst (pc := 64) ok (1 : Int32) dX12_strikes_64 ci_1 ?_
    refine r_iadd (pc := 65) ok dX12_strikes_65 ?_
    refine r_iald (pc := 66) ok sh_227 (j := 2) rfl (mx_r (by decide) (va_up_self _ _ _)) dX12_strikes_66 (fun i5 => ?_)
    refine r_iast (pc := 67) ok sh_227 (j := 2) rfl rfl (fun s_ => mx XX (va_up YY 225 s_)) (pm_r _ _).1 (pm_r _ _).2 dX12_strikes_67 (fun i6 s7 => ?_)
    refine r_iinc (pc := 68) ok (1 : Int32) dX12_strikes_68 ci_1 rfl (Nat.le_of_ble_eq_true rfl) rfl ?_
    refine r_goto (pc := 71) ok 13 dX12_strikes_71 rfl ?_
    exact hc ((a.1 + (1 : Int32)), s7)
theorem vMo_strikes {Z : Cx} {G : Gx} {b : Nat} {XX YY : Nat → Obj} {m : Obj} {v1 : Int32} (ok : OK Z G b cX12_strikes 3 0 RX12 none) : VO Z G b 3 (fun (r : Obj) => QX Z b (qV G b (mx XX (va_up YY 225 r)))) (mx XX (va_up YY 225 m)) 0 [some (.ref (b + 225)), some (.int v1), none] [] ((fMo_strikes m v1).bind some) := by
  unfold fMo_strikes
  refine r_aload_n (pc := 0) ok dX12_strikes_0 rfl ?_
  refine r_getR (pc := 1) ok cls12 sh_225 (k := 6) rfl (Nat.le_of_ble_eq_true rfl) rfl dX12_strikes_1 fl_Mo_33 ?_
  refine r_bipush (pc := 4) ok (72 : Int32) dX12_strikes_4 cb_72 ?_
  refine r_dup2 (pc := 6) ok dX12_strikes_6 rfl rfl ?_
  refine r_ialdc (pc := 7) ok sh_227 (j := 2) rfl (i := 72) (by decide +kernel) (mx_r (by decide) (va_up_self _ _ _)) dX12_strikes_7 ?_
  refine r_iconst (pc := 8) ok (1 : Int32) dX12_strikes_8 ci_1 ?_
  refine r_isub (pc := 9) ok dX12_strikes_9 ?_
  refine r_iastc (pc := 10) ok sh_227 (j := 2) rfl (i := 72) (by decide +kernel) rfl (fun s_ => mx XX (va_up YY 225 s_)) (pm_r _ _).1 (pm_r _ _).2 dX12_strikes_10 (fun s1 => ?_)
  refine r_iload_n (pc := 11) ok dX12_strikes_11 rfl ?_
  refine r_istore_n (pc := 12) ok dX12_strikes_12 (Nat.le_of_ble_eq_true rfl) rfl ?_
  refine r_lv (lk_s (lk_n (lk_s lk_0 _) _) _) ?_
  refine r_iter (P := fun (a13 : Int32 × Obj) o => VO Z G b 3 (fun (r : Obj) => QX Z b (qV G b (mx XX (va_up YY 225 r)))) (mx XX (va_up YY 225 a13.2)) 13 [some (.ref (b + 225)), none, some (.int a13.1)] [] o) (E := fun (e_13 : Obj) o => VO Z G b 3 (fun (r : Obj) => QX Z b (qV G b (mx XX (va_up YY 225 r)))) (mx XX (va_up YY 225 e_13)) 74 [some (.ref (b + 225)), none, none] [] o) (fun _ => r_none) (fun K hc hx => wMo_strikes_L13 ok (K := K) hc hx) (fun e8 => ?_) FU (v1, s1)
  refine r_aload_n (pc := 74) ok dX12_strikes_74 rfl ?_
  refine r_getR (pc := 75) ok cls12 sh_225 (k := 6) rfl (Nat.le_of_ble_eq_true rfl) rfl dX12_strikes_75 fl_Mo_33 ?_
  refine r_sipush (pc := 78) ok (137 : Int32) dX12_strikes_78 cs_137 ?_
  refine r_aload_n (pc := 81) ok dX12_strikes_81 rfl ?_
  refine r_getR (pc := 82) ok cls12 sh_225 (k := 6) rfl (Nat.le_of_ble_eq_true rfl) rfl dX12_strikes_82 fl_Mo_33 ?_
  refine r_bipush (pc := 85) ok (72 : Int32) dX12_strikes_85 cb_72 ?_
  refine r_ialdc (pc := 87) ok sh_227 (j := 2) rfl (i := 72) (by decide +kernel) (mx_r (by decide) (va_up_self _ _ _)) dX12_strikes_87 ?_
  refine r_iadd (pc := 88) ok dX12_strikes_88 ?_
  refine r_iconst (pc := 89) ok (0 : Int32) dX12_strikes_89 ci_0 ?_
  refine r_iast (pc := 90) ok sh_227 (j := 2) rfl rfl (fun s_ => mx XX (va_up YY 225 s_)) (pm_r _ _).1 (pm_r _ _).2 dX12_strikes_90 (fun i9 s10 => ?_)
  refine r_aload_n (pc := 91) ok dX12_strikes_91 rfl ?_
  refine r_getR (pc := 92) ok cls12 sh_225 (k := 6) rfl (Nat.le_of_ble_eq_true rfl) rfl dX12_strikes_92 fl_Mo_33 ?_
  refine r_sipush (pc := 95) ok (149 : Int32) dX12_strikes_95 cs_149 ?_
  refine r_aload_n (pc := 98) ok dX12_strikes_98 rfl ?_
  refine r_getR (pc := 99) ok cls12 sh_225 (k := 6) rfl (Nat.le_of_ble_eq_true rfl) rfl dX12_strikes_99 fl_Mo_33 ?_
  refine r_bipush (pc := 102) ok (72 : Int32) dX12_strikes_102 cb_72 ?_
  refine r_ialdc (pc := 104) ok sh_227 (j := 2) rfl (i := 72) (by decide +kernel) (mx_r (by decide) (va_up_self _ _ _)) dX12_strikes_104 ?_
  refine r_iadd (pc := 105) ok dX12_strikes_105 ?_
  refine r_iconst (pc := 106) ok (0 : Int32) dX12_strikes_106 ci_0 ?_
  refine r_iast (pc := 107) ok sh_227 (j := 2) rfl rfl (fun s_ => mx XX (va_up YY 225 s_)) (pm_r _ _).1 (pm_r _ _).2 dX12_strikes_107 (fun i11 s12 => ?_)
  exact r_vret (pc := 108) ok dX12_strikes_108 rfl
theorem tMo_strikes {l : Launch} {G : Gx} {b : Nat} {XX YY : Nat → Obj} {m : Obj} {v1 : Int32} {r : Obj} (hr : fMo_strikes m v1 = some r) : MetG l G b yX12_strikes cX12_strikes 3 none 0 [.ref (b + 225), .int v1] (mx XX (va_up YY 225 m)) (qV G b (mx XX (va_up YY 225 r))) := by
  refine met_start [some (.ref (b + 225)), some (.int v1), none] (by decide +kernel) (Nat.le_of_ble_eq_true rfl) rfl (fun Z hl ok => ?_)
  clear hl
  exact vMo_strikes ok r (by rw [hr]; rfl)
theorem wMo_walks_J40 {Z : Cx} {G : Gx} {b : Nat} {XX YY : Nat → Obj} {m : Obj} {v1 : Int32} {k0 : Int32} {k1 : Int32} (ok : OK Z G b cX12_walks 3 1 RX12 none) : VO Z G b 3 (fun (r : Obj) => QX Z b (qV G b (mx XX (va_up YY 225 r)))) (mx XX (va_up YY 225 m)) 40 [some (.ref (b + 225)), some (.int v1), none] [.int k1, .int k0] ((fMo_walks_J40 m v1 k0 k1).bind some) := by
  unfold fMo_walks_J40
  refine r_iadd (pc := 40) ok dX12_walks_40 ?_
  refine r_bndI (fun x4 => ?_)
  refine r_istore_n (pc := 41) ok dX12_walks_41 (Nat.le_of_ble_eq_true rfl) rfl ?_
  refine r_iload_n (pc := 42) ok dX12_walks_42 rfl ?_
  refine r_iconst (pc := 43) ok (0 : Int32) dX12_walks_43 ci_0 ?_
  refine r_aload_n (pc := 44) ok dX12_walks_44 rfl ?_
  refine r_getR (pc := 45) ok cls12 sh_225 (k := 6) rfl (Nat.le_of_ble_eq_true rfl) rfl dX12_walks_45 fl_Mo_33 ?_
  refine r_iconst (pc := 48) ok (2 : Int32) dX12_walks_48 ci_2 ?_
  refine r_ialdc (pc := 49) ok sh_227 (j := 2) rfl (i := 2) (by decide +kernel) (mx_r (by decide) (va_up_self _ _ _)) dX12_walks_49 ?_
  refine r_iconst (pc := 50) ok (1 : Int32) dX12_walks_50 ci_1 ?_
  refine r_isub (pc := 51) ok dX12_walks_51 ?_
  refine k_I (pc := 52) (fun r5 => r5) (fun r5 => mx XX (va_up YY 225 m)) (fun r5 hr_ => c_S (n := 3) ok ml_Mo_193 ws_X12_isIn yk_X12_isIn rfl (Nat.le_of_ble_eq_true rfl) (Nat.le_of_ble_eq_true rfl) (tMo_isIn hr_) rfl (Nat.le_of_ble_eq_true rfl) dX12_walks_52) (fun r5 => ?_)
  refine r_if_eq (pc := 55) ok 71 dX12_walks_55 rfl (fun _ => ?_) (fun _ => ?_)
  · refine r_aload_n (pc := 71) ok dX12_walks_71 rfl ?_
    refine r_getR (pc := 72) ok cls12 sh_225 (k := 6) rfl (Nat.le_of_ble_eq_true rfl) rfl dX12_walks_72 fl_Mo_33 ?_
    refine r_bipush (pc := 75) ok (89 : Int32) dX12_walks_75 cb_89 ?_
    refine r_iload_n (pc := 77) ok dX12_walks_77 rfl ?_
    refine r_iadd (pc := 78) ok dX12_walks_78 ?_
    refine r_iconst (pc := 79) ok (1 : Int32) dX12_walks_79 ci_1 ?_
    refine r_aload_n (pc := 80) ok dX12_walks_80 rfl ?_
    refine r_getR (pc := 81) ok cls12 sh_225 (k := 6) rfl (Nat.le_of_ble_eq_true rfl) rfl dX12_walks_81 fl_Mo_33 ?_
    refine r_bipush (pc := 84) ok (89 : Int32) dX12_walks_84 cb_89 ?_
    refine r_iload_n (pc := 86) ok dX12_walks_86 rfl ?_
    refine r_iadd (pc := 87) ok dX12_walks_87 ?_
    refine r_iald (pc := 88) ok sh_227 (j := 2) rfl (mx_r (by decide) (va_up_self _ _ _)) dX12_walks_88 (fun i6 => ?_)
    refine r_isub (pc := 89) ok dX12_walks_89 ?_
    refine r_iast (pc := 90) ok sh_227 (j := 2) rfl rfl (fun s_ => mx XX (va_up YY 225 s_)) (pm_r _ _).1 (pm_r _ _).2 dX12_walks_90 (fun i7 s8 => ?_)
    exact r_vret (pc := 91) ok dX12_walks_91 rfl
  · refine r_aload_n (pc := 58) ok dX12_walks_58 rfl ?_
    refine r_getR (pc := 59) ok cls12 sh_225 (k := 6) rfl (Nat.le_of_ble_eq_true rfl) rfl dX12_walks_59 fl_Mo_33 ?_
    refine r_bipush (pc := 62) ok (81 : Int32) dX12_walks_62 cb_81 ?_
    refine r_iload_n (pc := 64) ok dX12_walks_64 rfl ?_
    refine r_iadd (pc := 65) ok dX12_walks_65 ?_
    refine r_iload_n (pc := 66) ok dX12_walks_66 rfl ?_
    refine r_iast (pc := 67) ok sh_227 (j := 2) rfl rfl (fun s_ => mx XX (va_up YY 225 s_)) (pm_r _ _).1 (pm_r _ _).2 dX12_walks_67 (fun i9 s10 => ?_)
    refine r_goto (pc := 68) ok 91 dX12_walks_68 rfl ?_
    exact r_vret (pc := 91) ok dX12_walks_91 rfl
theorem vMo_walks {Z : Cx} {G : Gx} {b : Nat} {XX YY : Nat → Obj} {m : Obj} {v1 : Int32} (ok : OK Z G b cX12_walks 3 1 RX12 none) : VO Z G b 3 (fun (r : Obj) => QX Z b (qV G b (mx XX (va_up YY 225 r)))) (mx XX (va_up YY 225 m)) 0 [some (.ref (b + 225)), some (.int v1), none] [] ((fMo_walks m v1).bind some) := by
  unfold fMo_walks
  refine r_aload_n (pc := 0) ok dX12_walks_0 rfl ?_
  refine r_getR (pc := 1) ok cls12 sh_225 (k := 6) rfl (Nat.le_of_ble_eq_true rfl) rfl dX12_walks_1 fl_Mo_33 ?_
  refine r_bipush (pc := 4) ok (89 : Int32) dX12_walks_4 cb_89 ?_
  refine r_iload_n (pc := 6) ok dX12_walks_6 rfl ?_
  refine r_iadd (pc := 7) ok dX12_walks_7 ?_
  refine r_iald (pc := 8) ok sh_227 (j := 2) rfl (mx_r (by decide) (va_up_self _ _ _)) dX12_walks_8 (fun i1 => ?_)
  refine r_iconst (pc := 9) ok (1 : Int32) dX12_walks_9 ci_1 ?_
  refine r_icmp_le (pc := 10) ok 14 dX12_walks_10 rfl (fun _ => ?_) (fun _ => ?_)
  · refine r_aload_n (pc := 14) ok dX12_walks_14 rfl ?_
    refine r_getR (pc := 15) ok cls12 sh_225 (k := 6) rfl (Nat.le_of_ble_eq_true rfl) rfl dX12_walks_15 fl_Mo_33 ?_
    refine r_bipush (pc := 18) ok (81 : Int32) dX12_walks_18 cb_81 ?_
    refine r_iload_n (pc := 20) ok dX12_walks_20 rfl ?_
    refine r_iadd (pc := 21) ok dX12_walks_21 ?_
    refine r_iald (pc := 22) ok sh_227 (j := 2) rfl (mx_r (by decide) (va_up_self _ _ _)) dX12_walks_22 (fun i2 => ?_)
    refine r_aload_n (pc := 23) ok dX12_walks_23 rfl ?_
    refine r_getR (pc := 24) ok cls12 sh_225 (k := 6) rfl (Nat.le_of_ble_eq_true rfl) rfl dX12_walks_24 fl_Mo_33 ?_
    refine r_bipush (pc := 27) ok (89 : Int32) dX12_walks_27 cb_89 ?_
    refine r_iload_n (pc := 29) ok dX12_walks_29 rfl ?_
    refine r_iadd (pc := 30) ok dX12_walks_30 ?_
    refine r_iald (pc := 31) ok sh_227 (j := 2) rfl (mx_r (by decide) (va_up_self _ _ _)) dX12_walks_31 (fun i3 => ?_)
    refine r_if_ne (pc := 32) ok 39 dX12_walks_32 rfl (fun _ => ?_) (fun _ => ?_)
    · refine r_iconst (pc := 35) ok (1 : Int32) dX12_walks_35 ci_1 ?_
      refine r_goto (pc := 36) ok 40 dX12_walks_36 rfl ?_
      exact wMo_walks_J40 ok
    · refine r_iconst (pc := 39) ok (-1 : Int32) dX12_walks_39 ci_m1 ?_
      exact wMo_walks_J40 ok
  · exact r_vret (pc := 13) ok dX12_walks_13 rfl
theorem tMo_walks {l : Launch} {G : Gx} {b : Nat} {XX YY : Nat → Obj} {m : Obj} {v1 : Int32} {r : Obj} (hr : fMo_walks m v1 = some r) : MetG l G b yX12_walks cX12_walks 3 none 1 [.ref (b + 225), .int v1] (mx XX (va_up YY 225 m)) (qV G b (mx XX (va_up YY 225 r))) := by
  refine met_start [some (.ref (b + 225)), some (.int v1), none] (by decide +kernel) (Nat.le_of_ble_eq_true rfl) rfl (fun Z hl ok => ?_)
  clear hl
  exact vMo_walks ok r (by rw [hr]; rfl)
theorem vMo_canAnswer {Z : Cx} {G : Gx} {b : Nat} {XX YY : Nat → Obj} {m : Obj} {v1 : Int32} {v2 : Int32} (ok : OK Z G b cX12_canAnswer 4 2 RX12 (some .boolean)) (hm : YY 225 = m) : VO Z G b 4 (fun (r : Int32) => QX Z b (qI G b r (mx XX YY))) (mx XX YY) 0 [some (.ref (b + 225)), some (.int v1), some (.int v2), none] [] ((fMo_canAnswer m v1 v2).bind some) := by
  unfold fMo_canAnswer
  refine r_aload_n (pc := 0) ok dX12_canAnswer_0 rfl ?_
  refine r_getR (pc := 1) ok cls12 sh_225 (k := 6) rfl (Nat.le_of_ble_eq_true rfl) rfl dX12_canAnswer_1 fl_Mo_33 ?_
  refine r_bipush (pc := 4) ok (81 : Int32) dX12_canAnswer_4 cb_81 ?_
  refine r_iload_n (pc := 6) ok dX12_canAnswer_6 rfl ?_
  refine r_iadd (pc := 7) ok dX12_canAnswer_7 ?_
  refine r_iald (pc := 8) ok sh_227 (j := 2) rfl (mx_r (by decide) hm) dX12_canAnswer_8 (fun i1 => ?_)
  refine r_aload_n (pc := 9) ok dX12_canAnswer_9 rfl ?_
  refine r_getR (pc := 10) ok cls12 sh_225 (k := 6) rfl (Nat.le_of_ble_eq_true rfl) rfl dX12_canAnswer_10 fl_Mo_33 ?_
  refine r_iconst (pc := 13) ok (5 : Int32) dX12_canAnswer_13 ci_5 ?_
  refine r_iload_n (pc := 14) ok dX12_canAnswer_14 rfl ?_
  refine r_iadd (pc := 15) ok dX12_canAnswer_15 ?_
  refine r_iald (pc := 16) ok sh_227 (j := 2) rfl (mx_r (by decide) hm) dX12_canAnswer_16 (fun i2 => ?_)
  refine r_isub (pc := 17) ok dX12_canAnswer_17 ?_
  refine r_bndI (fun x3 => ?_)
  refine r_istore_n (pc := 18) ok dX12_canAnswer_18 (Nat.le_of_ble_eq_true rfl) rfl ?_
  refine r_aload_n (pc := 19) ok dX12_canAnswer_19 rfl ?_
  refine r_getR (pc := 20) ok cls12 sh_225 (k := 6) rfl (Nat.le_of_ble_eq_true rfl) rfl dX12_canAnswer_20 fl_Mo_33 ?_
  refine r_bipush (pc := 23) ok (73 : Int32) dX12_canAnswer_23 cb_73 ?_
  refine r_iload_n (pc := 25) ok dX12_canAnswer_25 rfl ?_
  refine r_iadd (pc := 26) ok dX12_canAnswer_26 ?_
  refine r_iald (pc := 27) ok sh_227 (j := 2) rfl (mx_r (by decide) hm) dX12_canAnswer_27 (fun i4 => ?_)
  refine r_if_ne (pc := 28) ok 65 dX12_canAnswer_28 rfl (fun _ => ?_) (fun _ => ?_)
  · refine r_iload_n (pc := 31) ok dX12_canAnswer_31 rfl ?_
    refine r_aload_n (pc := 32) ok dX12_canAnswer_32 rfl ?_
    refine r_getR (pc := 33) ok cls12 sh_225 (k := 6) rfl (Nat.le_of_ble_eq_true rfl) rfl dX12_canAnswer_33 fl_Mo_33 ?_
    refine r_iconst (pc := 36) ok (3 : Int32) dX12_canAnswer_36 ci_3 ?_
    refine r_ialdc (pc := 37) ok sh_227 (j := 2) rfl (i := 3) (by decide +kernel) (mx_r (by decide) hm) dX12_canAnswer_37 ?_
    refine r_icmp_gt (pc := 38) ok 65 dX12_canAnswer_38 rfl (fun _ => ?_) (fun _ => ?_)
    · refine r_iconst (pc := 65) ok (0 : Int32) dX12_canAnswer_65 ci_0 ?_
      exact r_zret (pc := 66) ok dX12_canAnswer_66 za_0 rfl
    · refine r_iload_n (pc := 41) ok dX12_canAnswer_41 rfl ?_
      refine r_ineg (pc := 42) ok dX12_canAnswer_42 ?_
      refine r_aload_n (pc := 43) ok dX12_canAnswer_43 rfl ?_
      refine r_getR (pc := 44) ok cls12 sh_225 (k := 6) rfl (Nat.le_of_ble_eq_true rfl) rfl dX12_canAnswer_44 fl_Mo_33 ?_
      refine r_iconst (pc := 47) ok (3 : Int32) dX12_canAnswer_47 ci_3 ?_
      refine r_ialdc (pc := 48) ok sh_227 (j := 2) rfl (i := 3) (by decide +kernel) (mx_r (by decide) hm) dX12_canAnswer_48 ?_
      refine r_icmp_gt (pc := 49) ok 65 dX12_canAnswer_49 rfl (fun _ => ?_) (fun _ => ?_)
      · refine r_iconst (pc := 65) ok (0 : Int32) dX12_canAnswer_65 ci_0 ?_
        exact r_zret (pc := 66) ok dX12_canAnswer_66 za_0 rfl
      · refine r_aload_n (pc := 52) ok dX12_canAnswer_52 rfl ?_
        refine r_iload_n (pc := 53) ok dX12_canAnswer_53 rfl ?_
        refine r_iload_n (pc := 54) ok dX12_canAnswer_54 rfl ?_
        refine k_I (pc := 55) (fun r5 => r5) (fun r5 => mx XX YY) (fun r5 hr_ => c_V (n := 2) ok cls12 sh_225 rfl ml_Mo_278 wv_X12_isStranger yk_X12_isStranger rfl (Nat.le_of_ble_eq_true rfl) (Nat.le_of_ble_eq_true rfl) (tMo_isStranger (hm) hr_) rfl (Nat.le_of_ble_eq_true rfl) dX12_canAnswer_55) (fun r5 => ?_)
        refine r_if_eq (pc := 58) ok 65 dX12_canAnswer_58 rfl (fun _ => ?_) (fun _ => ?_)
        · refine r_iconst (pc := 65) ok (0 : Int32) dX12_canAnswer_65 ci_0 ?_
          exact r_zret (pc := 66) ok dX12_canAnswer_66 za_0 rfl
        · refine r_iconst (pc := 61) ok (1 : Int32) dX12_canAnswer_61 ci_1 ?_
          refine r_goto (pc := 62) ok 66 dX12_canAnswer_62 rfl ?_
          exact r_zret (pc := 66) ok dX12_canAnswer_66 za_1 rfl
  · refine r_iconst (pc := 65) ok (0 : Int32) dX12_canAnswer_65 ci_0 ?_
    exact r_zret (pc := 66) ok dX12_canAnswer_66 za_0 rfl
theorem tMo_canAnswer {l : Launch} {G : Gx} {b : Nat} {XX YY : Nat → Obj} {m : Obj} {v1 : Int32} {v2 : Int32} (hm : YY 225 = m) {r : Int32} (hr : fMo_canAnswer m v1 v2 = some r) : MetG l G b yX12_canAnswer cX12_canAnswer 4 (some .boolean) 2 [.ref (b + 225), .int v1, .int v2] (mx XX YY) (qI G b r (mx XX YY)) := by
  refine met_start [some (.ref (b + 225)), some (.int v1), some (.int v2), none] (by decide +kernel) (Nat.le_of_ble_eq_true rfl) rfl (fun Z hl ok => ?_)
  clear hl
  exact vMo_canAnswer ok hm r (by rw [hr]; rfl)
theorem wMo_answers_J77 {Z : Cx} {G : Gx} {b : Nat} {XX YY : Nat → Obj} {m : Obj} {v1 : Int32} {v2 : Int32} {v3 : Int32} {v4 : Int32} {v5 : Int32} {k0 : Int32} (ok : OK Z G b cX12_answers 8 3 RX12 (some .int)) (hm : YY 225 = m) {K : ((Int32 × Int32 × Int32) ⊕ (Int32)) → Option (Int32)} (hc : ∀ (a : Int32 × Int32 × Int32), VO Z G b 8 (fun (r : Int32) => QX Z b (qI G b r (mx XX YY))) (mx XX YY) 10 [some (.ref (b + 225)), some (.int v1), some (.int v2), some (.int a.1), some (.int a.2.1), some (.int a.2.2), none, none] [] (K (.inl a))) (hx : ∀ (e : Int32), VO Z G b 8 (fun (r : Int32) => QX Z b (qI G b r (mx XX YY))) (mx XX YY) 102 [none, none, none, some (.int e), none, none, none, none] [] (K (.inr e))) : VO Z G b 8 (fun (r : Int32) => QX Z b (qI G b r (mx XX YY))) (mx XX YY) 77 [some (.ref (b + 225)), some (.int v1), some (.int v2), some (.int v3), some (.int v4), some (.int v5), none, none] [.int k0] ((fMo_answers_J77 v3 v4 v5 k0).bind K) := by
  unfold fMo_answers_J77
  refine r_istore (pc := 77) ok dX12_answers_77 (Nat.le_of_ble_eq_true rfl) rfl ?_
  refine r_iload (pc := 79) ok dX12_answers_79 rfl ?_
  refine r_iload (pc := 81) ok dX12_answers_81 rfl ?_
  refine r_icmp_lt (pc := 83) ok 89 dX12_answers_83 rfl (fun _ => ?_) (fun _ => ?_)
  · refine r_iload (pc := 89) ok dX12_answers_89 rfl ?_
    refine r_istore (pc := 91) ok dX12_answers_91 (Nat.le_of_ble_eq_true rfl) rfl ?_
    refine r_iload (pc := 93) ok dX12_answers_93 rfl ?_
    refine r_istore_n (pc := 95) ok dX12_answers_95 (Nat.le_of_ble_eq_true rfl) rfl ?_
    refine r_iinc (pc := 96) ok (1 : Int32) dX12_answers_96 ci_1 rfl (Nat.le_of_ble_eq_true rfl) rfl ?_
    refine r_goto (pc := 99) ok 10 dX12_answers_99 rfl ?_
    refine r_lv (lk_s (lk_s (lk_s (lk_s (lk_s (lk_s (lk_n (lk_n lk_0 _) _) _) _) _) _) _) _) ?_
    exact hc (v5, k0, (v5 + (1 : Int32)))
  · refine r_goto (pc := 86) ok 96 dX12_answers_86 rfl ?_
    refine r_iinc (pc := 96) ok (1 : Int32) dX12_answers_96 ci_1 rfl (Nat.le_of_ble_eq_true rfl) rfl ?_
    refine r_goto (pc := 99) ok 10 dX12_answers_99 rfl ?_
    refine r_lv (lk_s (lk_s (lk_s (lk_s (lk_s (lk_s (lk_n (lk_n lk_0 _) _) _) _) _) _) _) _) ?_
    exact hc (v3, v4, (v5 + (1 : Int32)))
theorem wMo_answers_L10 {Z : Cx} {G : Gx} {b : Nat} {XX YY : Nat → Obj} {m : Obj} {v1 : Int32} {v2 : Int32} (ok : OK Z G b cX12_answers 8 3 RX12 (some .int)) (hm : YY 225 = m) {K : ((Int32 × Int32 × Int32) ⊕ (Int32)) → Option (Int32)} (hc : ∀ (a : Int32 × Int32 × Int32), VO Z G b 8 (fun (r : Int32) => QX Z b (qI G b r (mx XX YY))) (mx XX YY) 10 [some (.ref (b + 225)), some (.int v1), some (.int v2), some (.int a.1), some (.int a.2.1), some (.int a.2.2), none, none] [] (K (.inl a))) (hx : ∀ (e : Int32), VO Z G b 8 (fun (r : Int32) => QX Z b (qI G b r (mx XX YY))) (mx XX YY) 102 [none, none, none, some (.int e), none, none, none, none] [] (K (.inr e))) : ∀ (a : Int32 × Int32 × Int32), VO Z G b 8 (fun (r : Int32) => QX Z b (qI G b r (mx XX YY))) (mx XX YY) 10 [some (.ref (b + 225)), some (.int v1), some (.int v2), some (.int a.1), some (.int a.2.1), some (.int a.2.2), none, none] [] ((fMo_answers_L10 m v1 v2 a).bind K) := by
  intro a
  unfold fMo_answers_L10
  refine r_iload (pc := 10) ok dX12_answers_10 rfl ?_
  refine r_aload_n (pc := 12) ok dX12_answers_12 rfl ?_
  refine r_getR (pc := 13) ok cls12 sh_225 (k := 6) rfl (Nat.le_of_ble_eq_true rfl) rfl dX12_answers_13 fl_Mo_33 ?_
  refine r_iconst (pc := 16) ok (1 : Int32) dX12_answers_16 ci_1 ?_
  refine r_ialdc (pc := 17) ok sh_227 (j := 2) rfl (i := 1) (by decide +kernel) (mx_r (by decide) hm) dX12_answers_17 ?_
  refine r_icmp_ge (pc := 18) ok 102 dX12_answers_18 rfl (fun _ => ?_) (fun _ => ?_)
  · refine r_lv (lk_n (lk_n (lk_n (lk_s (lk_n (lk_n (lk_n (lk_n lk_0 _) _) _) _) _) _) _) _) ?_
    exact hx a.1
  · refine r_iload_n (pc := 21) ok dX12_answers_21 rfl ?_
    refine r_iload (pc := 22) ok dX12_answers_22 rfl ?_
    refine k_I (pc := 24) (fun r1 => r1) (fun r1 => mx XX YY) (fun r1 hr_ => c_S (n := 2) ok ml_Mo_218 ws_X12_bitOf yk_X12_bitOf rfl (Nat.le_of_ble_eq_true rfl) (Nat.le_of_ble_eq_true rfl) (tMo_bitOf hr_) rfl (Nat.le_of_ble_eq_true rfl) dX12_answers_24) (fun r1 => ?_)
    refine r_if_ne (pc := 27) ok 96 dX12_answers_27 rfl (fun _ => ?_) (fun _ => ?_)
    · refine r_aload_n (pc := 30) ok dX12_answers_30 rfl ?_
      refine r_iload (pc := 31) ok dX12_answers_31 rfl ?_
      refine r_iload_n (pc := 33) ok dX12_answers_33 rfl ?_
      refine k_I (pc := 34) (fun r2 => r2) (fun r2 => mx XX YY) (fun r2 hr_ => c_V (n := 2) ok cls12 sh_225 rfl ml_Mo_307 wv_X12_canAnswer yk_X12_canAnswer rfl (Nat.le_of_ble_eq_true rfl) (Nat.le_of_ble_eq_true rfl) (tMo_canAnswer (hm) hr_) rfl (Nat.le_of_ble_eq_true rfl) dX12_answers_34) (fun r2 => ?_)
      refine r_if_ne (pc := 37) ok 43 dX12_answers_37 rfl (fun _ => ?_) (fun _ => ?_)
      · refine r_goto (pc := 40) ok 96 dX12_answers_40 rfl ?_
        refine r_iinc (pc := 96) ok (1 : Int32) dX12_answers_96 ci_1 rfl (Nat.le_of_ble_eq_true rfl) rfl ?_
        refine r_goto (pc := 99) ok 10 dX12_answers_99 rfl ?_
        exact hc (a.1, a.2.1, (a.2.2 + (1 : Int32)))
      · refine r_aload_n (pc := 43) ok dX12_answers_43 rfl ?_
        refine r_getR (pc := 44) ok cls12 sh_225 (k := 6) rfl (Nat.le_of_ble_eq_true rfl) rfl dX12_answers_44 fl_Mo_33 ?_
        refine r_bipush (pc := 47) ok (81 : Int32) dX12_answers_47 cb_81 ?_
        refine r_iload (pc := 49) ok dX12_answers_49 rfl ?_
        refine r_iadd (pc := 51) ok dX12_answers_51 ?_
        refine r_iald (pc := 52) ok sh_227 (j := 2) rfl (mx_r (by decide) hm) dX12_answers_52 (fun i3 => ?_)
        refine r_aload_n (pc := 53) ok dX12_answers_53 rfl ?_
        refine r_getR (pc := 54) ok cls12 sh_225 (k := 6) rfl (Nat.le_of_ble_eq_true rfl) rfl dX12_answers_54 fl_Mo_33 ?_
        refine r_iconst (pc := 57) ok (5 : Int32) dX12_answers_57 ci_5 ?_
        refine r_iload_n (pc := 58) ok dX12_answers_58 rfl ?_
        refine r_iadd (pc := 59) ok dX12_answers_59 ?_
        refine r_iald (pc := 60) ok sh_227 (j := 2) rfl (mx_r (by decide) hm) dX12_answers_60 (fun i4 => ?_)
        refine r_isub (pc := 61) ok dX12_answers_61 ?_
        refine r_bndI (fun x5 => ?_)
        refine r_istore (pc := 62) ok dX12_answers_62 (Nat.le_of_ble_eq_true rfl) rfl ?_
        refine r_iload (pc := 64) ok dX12_answers_64 rfl ?_
        refine r_if_ge (pc := 66) ok 75 dX12_answers_66 rfl (fun _ => ?_) (fun _ => ?_)
        · refine r_iload (pc := 75) ok dX12_answers_75 rfl ?_
          refine r_lv (lk_s (lk_s (lk_s (lk_s (lk_s (lk_s (lk_n (lk_n lk_0 _) _) _) _) _) _) _) _) ?_
          exact wMo_answers_J77 ok hm (K := K) hc hx
        · refine r_iload (pc := 69) ok dX12_answers_69 rfl ?_
          refine r_ineg (pc := 71) ok dX12_answers_71 ?_
          refine r_goto (pc := 72) ok 77 dX12_answers_72 rfl ?_
          refine r_lv (lk_s (lk_s (lk_s (lk_s (lk_s (lk_s (lk_n (lk_n lk_0 _) _) _) _) _) _) _) _) ?_
          exact wMo_answers_J77 ok hm (K := K) hc hx
    · refine r_iinc (pc := 96) ok (1 : Int32) dX12_answers_96 ci_1 rfl (Nat.le_of_ble_eq_true rfl) rfl ?_
      refine r_goto (pc := 99) ok 10 dX12_answers_99 rfl ?_
      exact hc (a.1, a.2.1, (a.2.2 + (1 : Int32)))
theorem vMo_answers {Z : Cx} {G : Gx} {b : Nat} {XX YY : Nat → Obj} {m : Obj} {v1 : Int32} {v2 : Int32} (ok : OK Z G b cX12_answers 8 3 RX12 (some .int)) (hm : YY 225 = m) : VO Z G b 8 (fun (r : Int32) => QX Z b (qI G b r (mx XX YY))) (mx XX YY) 0 [some (.ref (b + 225)), some (.int v1), some (.int v2), none, none, none, none, none] [] ((fMo_answers m v1 v2).bind some) := by
  unfold fMo_answers
  refine r_iconst (pc := 0) ok (-1 : Int32) dX12_answers_0 ci_m1 ?_
  refine r_istore_n (pc := 1) ok dX12_answers_1 (Nat.le_of_ble_eq_true rfl) rfl ?_
  refine r_ldcw (pc := 2) ok (1000000 : Int32) dX12_answers_2 cst_Mo_306 ?_
  refine r_istore (pc := 5) ok dX12_answers_5 (Nat.le_of_ble_eq_true rfl) rfl ?_
  refine r_iconst (pc := 7) ok (0 : Int32) dX12_answers_7 ci_0 ?_
  refine r_istore (pc := 8) ok dX12_answers_8 (Nat.le_of_ble_eq_true rfl) rfl ?_
  refine r_iter (P := fun (a10 : Int32 × Int32 × Int32) o => VO Z G b 8 (fun (r : Int32) => QX Z b (qI G b r (mx XX YY))) (mx XX YY) 10 [some (.ref (b + 225)), some (.int v1), some (.int v2), some (.int a10.1), some (.int a10.2.1), some (.int a10.2.2), none, none] [] o) (E := fun (e_10 : Int32) o => VO Z G b 8 (fun (r : Int32) => QX Z b (qI G b r (mx XX YY))) (mx XX YY) 102 [none, none, none, some (.int e_10), none, none, none, none] [] o) (fun _ => r_none) (fun K hc hx => wMo_answers_L10 ok hm (K := K) hc hx) (fun e6 => ?_) FU ((-1 : Int32), (1000000 : Int32), (0 : Int32))
  refine r_iload_n (pc := 102) ok dX12_answers_102 rfl ?_
  exact r_iret (pc := 103) ok dX12_answers_103 rfl
theorem tMo_answers {l : Launch} {G : Gx} {b : Nat} {XX YY : Nat → Obj} {m : Obj} {v1 : Int32} {v2 : Int32} (hm : YY 225 = m) {r : Int32} (hr : fMo_answers m v1 v2 = some r) : MetG l G b yX12_answers cX12_answers 8 (some .int) 3 [.ref (b + 225), .int v1, .int v2] (mx XX YY) (qI G b r (mx XX YY)) := by
  refine met_start [some (.ref (b + 225)), some (.int v1), some (.int v2), none, none, none, none, none] (by decide +kernel) (Nat.le_of_ble_eq_true rfl) rfl (fun Z hl ok => ?_)
  clear hl
  exact vMo_answers ok hm r (by rw [hr]; rfl)
theorem wMo_opens0_L130 {Z : Cx} {G : Gx} {b : Nat} {XX YY : Nat → Obj} {v1 : Int32} {v3 : Int32} (ok : OK Z G b cX12_opens0 6 1 RX12 none) {K : ((Int32 × Obj) ⊕ (Obj)) → Option (Obj)} (hc : ∀ (a : Int32 × Obj), VO Z G b 6 (fun (r : Obj) => QX Z b (qV G b (mx XX (va_up YY 225 r)))) (mx XX (va_up YY 225 a.2)) 130 [some (.ref (b + 225)), some (.int v1), none, some (.int v3), none, some (.int a.1)] [] (K (.inl a))) (hx : ∀ (e : Obj), VO Z G b 6 (fun (r : Obj) => QX Z b (qV G b (mx XX (va_up YY 225 r)))) (mx XX (va_up YY 225 e)) 175 [none, none, none, none, none, none] [] (K (.inr e))) : ∀ (a : Int32 × Obj), VO Z G b 6 (fun (r : Obj) => QX Z b (qV G b (mx XX (va_up YY 225 r)))) (mx XX (va_up YY 225 a.2)) 130 [some (.ref (b + 225)), some (.int v1), none, some (.int v3), none, some (.int a.1)] [] ((fMo_opens0_L130 v1 v3 a).bind K) := by
  intro a
  unfold fMo_opens0_L130
  refine r_iload (pc := 130) ok dX12_opens0_130 rfl ?_
  refine r_aload_n (pc := 132) ok dX12_opens0_132 rfl ?_
  refine r_getR (pc := 133) ok cls12 sh_225 (k := 6) rfl (Nat.le_of_ble_eq_true rfl) rfl dX12_opens0_133 fl_Mo_33 ?_
  refine r_iconst (pc := 136) ok (1 : Int32) dX12_opens0_136 ci_1 ?_
  refine r_ialdc (pc := 137) ok sh_227 (j := 2) rfl (i := 1) (by decide +kernel) (mx_r (by decide) (va_up_self _ _ _)) dX12_opens0_137 ?_
  refine r_icmp_ge (pc := 138) ok 175 dX12_opens0_138 rfl (fun _ => ?_) (fun _ => ?_)
  · refine r_lv (lk_n (lk_n (lk_n (lk_n (lk_n (lk_n lk_0 _) _) _) _) _) _) ?_
    exact hx a.2
  · refine r_aload_n (pc := 141) ok dX12_opens0_141 rfl ?_
    refine r_getR (pc := 142) ok cls12 sh_225 (k := 6) rfl (Nat.le_of_ble_eq_true rfl) rfl dX12_opens0_142 fl_Mo_33 ?_
    refine r_bipush (pc := 145) ok (11 : Int32) dX12_opens0_145 cb_11 ?_
    refine r_iload (pc := 147) ok dX12_opens0_147 rfl ?_
    refine r_iadd (pc := 149) ok dX12_opens0_149 ?_
    refine r_iald (pc := 150) ok sh_227 (j := 2) rfl (mx_r (by decide) (va_up_self _ _ _)) dX12_opens0_150 (fun i12 => ?_)
    refine r_iload_n (pc := 151) ok dX12_opens0_151 rfl ?_
    refine r_iconst (pc := 152) ok (1 : Int32) dX12_opens0_152 ci_1 ?_
    refine r_iadd (pc := 153) ok dX12_opens0_153 ?_
    refine r_icmp_ne (pc := 154) ok 169 dX12_opens0_154 rfl (fun _ => ?_) (fun _ => ?_)
    · refine r_aload_n (pc := 157) ok dX12_opens0_157 rfl ?_
      refine r_getR (pc := 158) ok cls12 sh_225 (k := 6) rfl (Nat.le_of_ble_eq_true rfl) rfl dX12_opens0_158 fl_Mo_33 ?_
      refine r_bipush (pc := 161) ok (113 : Int32) dX12_opens0_161 cb_113 ?_
      refine r_iload_n (pc := 163) ok dX12_opens0_163 rfl ?_
      refine r_iload (pc := 164) ok dX12_opens0_164 rfl ?_
      refine k_V (pc := 166)  (fun r13 => mx XX (va_up YY 225 r13)) (fun r13 hr_ => c_S (n := 4) ok ml_Mo_255 ws_X12_knowsIn yk_X12_knowsIn rfl (Nat.le_of_ble_eq_true rfl) (Nat.le_of_ble_eq_true rfl) (tMo_knowsIn_2 hr_) rfl (Nat.le_of_ble_eq_true rfl) dX12_opens0_166) (fun r13 => ?_)
      refine r_iinc (pc := 169) ok (1 : Int32) dX12_opens0_169 ci_1 rfl (Nat.le_of_ble_eq_true rfl) rfl ?_
      refine r_goto (pc := 172) ok 130 dX12_opens0_172 rfl ?_
      exact hc ((a.1 + (1 : Int32)), r13)
    · refine r_iinc (pc := 169) ok (1 : Int32) dX12_opens0_169 ci_1 rfl (Nat.le_of_ble_eq_true rfl) rfl ?_
      refine r_goto (pc := 172) ok 130 dX12_opens0_172 rfl ?_
      exact hc ((a.1 + (1 : Int32)), a.2)
theorem wMo_opens0_J116 {Z : Cx} {G : Gx} {b : Nat} {XX YY : Nat → Obj} {m : Obj} {v1 : Int32} {v2 : Int32} {v3 : Int32} (ok : OK Z G b cX12_opens0 6 1 RX12 none) : VO Z G b 6 (fun (r : Obj) => QX Z b (qV G b (mx XX (va_up YY 225 r)))) (mx XX (va_up YY 225 m)) 116 [some (.ref (b + 225)), some (.int v1), some (.int v2), some (.int v3), none, none] [] ((fMo_opens0_J116 m v1 v2 v3).bind some) := by
  unfold fMo_opens0_J116
  refine r_aload_n (pc := 116) ok dX12_opens0_116 rfl ?_
  refine r_getR (pc := 117) ok cls12 sh_225 (k := 6) rfl (Nat.le_of_ble_eq_true rfl) rfl dX12_opens0_117 fl_Mo_33 ?_
  refine r_bipush (pc := 120) ok (113 : Int32) dX12_opens0_120 cb_113 ?_
  refine r_iload_n (pc := 122) ok dX12_opens0_122 rfl ?_
  refine r_iload_n (pc := 123) ok dX12_opens0_123 rfl ?_
  refine k_V (pc := 124)  (fun r11 => mx XX (va_up YY 225 r11)) (fun r11 hr_ => c_S (n := 4) ok ml_Mo_255 ws_X12_knowsIn yk_X12_knowsIn rfl (Nat.le_of_ble_eq_true rfl) (Nat.le_of_ble_eq_true rfl) (tMo_knowsIn_2 hr_) rfl (Nat.le_of_ble_eq_true rfl) dX12_opens0_124) (fun r11 => ?_)
  refine r_iconst (pc := 127) ok (0 : Int32) dX12_opens0_127 ci_0 ?_
  refine r_istore (pc := 128) ok dX12_opens0_128 (Nat.le_of_ble_eq_true rfl) rfl ?_
  refine r_lv (lk_s (lk_s (lk_n (lk_s (lk_n (lk_s lk_0 _) _) _) _) _) _) ?_
  refine r_iter (P := fun (a130 : Int32 × Obj) o => VO Z G b 6 (fun (r : Obj) => QX Z b (qV G b (mx XX (va_up YY 225 r)))) (mx XX (va_up YY 225 a130.2)) 130 [some (.ref (b + 225)), some (.int v1), none, some (.int v3), none, some (.int a130.1)] [] o) (E := fun (e_130 : Obj) o => VO Z G b 6 (fun (r : Obj) => QX Z b (qV G b (mx XX (va_up YY 225 r)))) (mx XX (va_up YY 225 e_130)) 175 [none, none, none, none, none, none] [] o) (fun _ => r_none) (fun K hc hx => wMo_opens0_L130 ok (K := K) hc hx) (fun e14 => ?_) FU ((0 : Int32), r11)
  exact r_vret (pc := 175) ok dX12_opens0_175 rfl
theorem wMo_opens0_J92 {Z : Cx} {G : Gx} {b : Nat} {XX YY : Nat → Obj} {m : Obj} {v1 : Int32} {v2 : Int32} {v3 : Int32} {v4 : Int32} {k1 : Int32} {k2 : Int32} {k3 : Int32} (ok : OK Z G b cX12_opens0 6 1 RX12 none) : VO Z G b 6 (fun (r : Obj) => QX Z b (qV G b (mx XX (va_up YY 225 r)))) (mx XX (va_up YY 225 m)) 92 [some (.ref (b + 225)), some (.int v1), some (.int v2), some (.int v3), some (.int v4), none] [.int k3, .int k2, .int k1, .ref (b + 227)] ((fMo_opens0_J92 m v1 v2 v3 v4 k1 k2 k3).bind some) := by
  unfold fMo_opens0_J92
  refine r_iadd (pc := 92) ok dX12_opens0_92 ?_
  refine r_iast (pc := 93) ok sh_227 (j := 2) rfl rfl (fun s_ => mx XX (va_up YY 225 s_)) (pm_r _ _).1 (pm_r _ _).2 dX12_opens0_93 (fun i8 s9 => ?_)
  refine r_iload (pc := 94) ok dX12_opens0_94 rfl ?_
  refine r_if_eq (pc := 96) ok 109 dX12_opens0_96 rfl (fun _ => ?_) (fun _ => ?_)
  · refine r_aload_n (pc := 109) ok dX12_opens0_109 rfl ?_
    refine r_iload_n (pc := 110) ok dX12_opens0_110 rfl ?_
    refine r_iconst (pc := 111) ok (2 : Int32) dX12_opens0_111 ci_2 ?_
    refine r_iload_n (pc := 112) ok dX12_opens0_112 rfl ?_
    refine k_V (pc := 113)  (fun r10 => mx XX (va_up YY 225 r10)) (fun r10 hr_ => c_V (n := 3) ok cls12 sh_225 rfl ml_Mo_310 wv_X12_stands yk_X12_stands rfl (Nat.le_of_ble_eq_true rfl) (Nat.le_of_ble_eq_true rfl) (tMo_stands hr_) rfl (Nat.le_of_ble_eq_true rfl) dX12_opens0_113) (fun r10 => ?_)
    refine r_lv (lk_s (lk_s (lk_s (lk_s (lk_n (lk_n lk_0 _) _) _) _) _) _) ?_
    exact wMo_opens0_J116 ok
  · refine r_aload_n (pc := 99) ok dX12_opens0_99 rfl ?_
    refine r_iload_n (pc := 100) ok dX12_opens0_100 rfl ?_
    refine r_iconst (pc := 101) ok (0 : Int32) dX12_opens0_101 ci_0 ?_
    refine r_iconst (pc := 102) ok (-1 : Int32) dX12_opens0_102 ci_m1 ?_
    refine k_V (pc := 103)  (fun r15 => mx XX (va_up YY 225 r15)) (fun r15 hr_ => c_V (n := 3) ok cls12 sh_225 rfl ml_Mo_310 wv_X12_stands yk_X12_stands rfl (Nat.le_of_ble_eq_true rfl) (Nat.le_of_ble_eq_true rfl) (tMo_stands hr_) rfl (Nat.le_of_ble_eq_true rfl) dX12_opens0_103) (fun r15 => ?_)
    refine r_goto (pc := 106) ok 116 dX12_opens0_106 rfl ?_
    refine r_lv (lk_s (lk_s (lk_s (lk_s (lk_n (lk_n lk_0 _) _) _) _) _) _) ?_
    exact wMo_opens0_J116 ok
theorem wMo_opens0_J72 {Z : Cx} {G : Gx} {b : Nat} {XX YY : Nat → Obj} {m : Obj} {v1 : Int32} {v2 : Int32} {v3 : Int32} {k0 : Int32} (ok : OK Z G b cX12_opens0 6 1 RX12 none) : VO Z G b 6 (fun (r : Obj) => QX Z b (qV G b (mx XX (va_up YY 225 r)))) (mx XX (va_up YY 225 m)) 72 [some (.ref (b + 225)), some (.int v1), some (.int v2), some (.int v3), none, none] [.int k0] ((fMo_opens0_J72 m v1 v2 v3 k0).bind some) := by
  unfold fMo_opens0_J72
  refine r_istore (pc := 72) ok dX12_opens0_72 (Nat.le_of_ble_eq_true rfl) rfl ?_
  refine r_aload_n (pc := 74) ok dX12_opens0_74 rfl ?_
  refine r_getR (pc := 75) ok cls12 sh_225 (k := 6) rfl (Nat.le_of_ble_eq_true rfl) rfl dX12_opens0_75 fl_Mo_33 ?_
  refine r_bipush (pc := 78) ok (71 : Int32) dX12_opens0_78 cb_71 ?_
  refine r_dup2 (pc := 80) ok dX12_opens0_80 rfl rfl ?_
  refine r_ialdc (pc := 81) ok sh_227 (j := 2) rfl (i := 71) (by decide +kernel) (mx_r (by decide) (va_up_self _ _ _)) dX12_opens0_81 ?_
  refine r_iload (pc := 82) ok dX12_opens0_82 rfl ?_
  refine r_if_eq (pc := 84) ok 91 dX12_opens0_84 rfl (fun _ => ?_) (fun _ => ?_)
  · refine r_iconst (pc := 91) ok (0 : Int32) dX12_opens0_91 ci_0 ?_
    exact wMo_opens0_J92 ok
  · refine r_iconst (pc := 87) ok (1 : Int32) dX12_opens0_87 ci_1 ?_
    refine r_goto (pc := 88) ok 92 dX12_opens0_88 rfl ?_
    exact wMo_opens0_J92 ok
theorem wMo_opens0_J71 {Z : Cx} {G : Gx} {b : Nat} {XX YY : Nat → Obj} {m : Obj} {v1 : Int32} {v2 : Int32} {v3 : Int32} (ok : OK Z G b cX12_opens0 6 1 RX12 none) : VO Z G b 6 (fun (r : Obj) => QX Z b (qV G b (mx XX (va_up YY 225 r)))) (mx XX (va_up YY 225 m)) 71 [some (.ref (b + 225)), some (.int v1), some (.int v2), some (.int v3), none, none] [] ((fMo_opens0_J71 m v1 v2 v3).bind some) := by
  unfold fMo_opens0_J71
  refine r_iconst (pc := 71) ok (0 : Int32) dX12_opens0_71 ci_0 ?_
  exact wMo_opens0_J72 ok
theorem vMo_opens0 {Z : Cx} {G : Gx} {b : Nat} {XX YY : Nat → Obj} {m : Obj} {v1 : Int32} {v2 : Int32} (ok : OK Z G b cX12_opens0 6 1 RX12 none) : VO Z G b 6 (fun (r : Obj) => QX Z b (qV G b (mx XX (va_up YY 225 r)))) (mx XX (va_up YY 225 m)) 0 [some (.ref (b + 225)), some (.int v1), some (.int v2), none, none, none] [] ((fMo_opens0 m v1 v2).bind some) := by
  unfold fMo_opens0
  refine r_aload_n (pc := 0) ok dX12_opens0_0 rfl ?_
  refine r_getR (pc := 1) ok cls12 sh_225 (k := 6) rfl (Nat.le_of_ble_eq_true rfl) rfl dX12_opens0_1 fl_Mo_33 ?_
  refine r_bipush (pc := 4) ok (97 : Int32) dX12_opens0_4 cb_97 ?_
  refine r_iload_n (pc := 6) ok dX12_opens0_6 rfl ?_
  refine r_iadd (pc := 7) ok dX12_opens0_7 ?_
  refine r_iald (pc := 8) ok sh_227 (j := 2) rfl (mx_r (by decide) (va_up_self _ _ _)) dX12_opens0_8 (fun i1 => ?_)
  refine r_iconst (pc := 9) ok (1 : Int32) dX12_opens0_9 ci_1 ?_
  refine r_isub (pc := 10) ok dX12_opens0_10 ?_
  refine r_bndI (fun x2 => ?_)
  refine r_istore_n (pc := 11) ok dX12_opens0_11 (Nat.le_of_ble_eq_true rfl) rfl ?_
  refine r_aload_n (pc := 12) ok dX12_opens0_12 rfl ?_
  refine r_getR (pc := 13) ok cls12 sh_225 (k := 6) rfl (Nat.le_of_ble_eq_true rfl) rfl dX12_opens0_13 fl_Mo_33 ?_
  refine r_sipush (pc := 16) ok (129 : Int32) dX12_opens0_16 cs_129 ?_
  refine r_iload_n (pc := 19) ok dX12_opens0_19 rfl ?_
  refine r_iadd (pc := 20) ok dX12_opens0_20 ?_
  refine r_dup2 (pc := 21) ok dX12_opens0_21 rfl rfl ?_
  refine r_iald (pc := 22) ok sh_227 (j := 2) rfl (mx_r (by decide) (va_up_self _ _ _)) dX12_opens0_22 (fun i3 => ?_)
  refine r_iconst (pc := 23) ok (1 : Int32) dX12_opens0_23 ci_1 ?_
  refine r_iadd (pc := 24) ok dX12_opens0_24 ?_
  refine r_iast (pc := 25) ok sh_227 (j := 2) rfl rfl (fun s_ => mx XX (va_up YY 225 s_)) (pm_r _ _).1 (pm_r _ _).2 dX12_opens0_25 (fun i4 s5 => ?_)
  refine r_aload_n (pc := 26) ok dX12_opens0_26 rfl ?_
  refine r_getR (pc := 27) ok cls12 sh_225 (k := 6) rfl (Nat.le_of_ble_eq_true rfl) rfl dX12_opens0_27 fl_Mo_33 ?_
  refine r_bipush (pc := 30) ok (70 : Int32) dX12_opens0_30 cb_70 ?_
  refine r_dup2 (pc := 32) ok dX12_opens0_32 rfl rfl ?_
  refine r_ialdc (pc := 33) ok sh_227 (j := 2) rfl (i := 70) (by decide +kernel) (mx_r (by decide) (va_up_self _ _ _)) dX12_opens0_33 ?_
  refine r_iconst (pc := 34) ok (1 : Int32) dX12_opens0_34 ci_1 ?_
  refine r_iadd (pc := 35) ok dX12_opens0_35 ?_
  refine r_iastc (pc := 36) ok sh_227 (j := 2) rfl (i := 70) (by decide +kernel) rfl (fun s_ => mx XX (va_up YY 225 s_)) (pm_r _ _).1 (pm_r _ _).2 dX12_opens0_36 (fun s6 => ?_)
  refine r_aload_n (pc := 37) ok dX12_opens0_37 rfl ?_
  refine r_getR (pc := 38) ok cls12 sh_225 (k := 6) rfl (Nat.le_of_ble_eq_true rfl) rfl dX12_opens0_38 fl_Mo_33 ?_
  refine r_bipush (pc := 41) ok (35 : Int32) dX12_opens0_41 cb_35 ?_
  refine r_ialdc (pc := 43) ok sh_227 (j := 2) rfl (i := 35) (by decide +kernel) (mx_r (by decide) (va_up_self _ _ _)) dX12_opens0_43 ?_
  refine r_iload_n (pc := 44) ok dX12_opens0_44 rfl ?_
  refine k_I (pc := 45) (fun r7 => r7) (fun r7 => mx XX (va_up YY 225 s6)) (fun r7 hr_ => c_S (n := 2) ok ml_Mo_218 ws_X12_bitOf yk_X12_bitOf rfl (Nat.le_of_ble_eq_true rfl) (Nat.le_of_ble_eq_true rfl) (tMo_bitOf hr_) rfl (Nat.le_of_ble_eq_true rfl) dX12_opens0_45) (fun r7 => ?_)
  refine r_if_eq (pc := 48) ok 71 dX12_opens0_48 rfl (fun _ => ?_) (fun _ => ?_)
  · exact wMo_opens0_J71 ok
  · refine r_aload_n (pc := 51) ok dX12_opens0_51 rfl ?_
    refine r_getR (pc := 52) ok cls12 sh_225 (k := 6) rfl (Nat.le_of_ble_eq_true rfl) rfl dX12_opens0_52 fl_Mo_33 ?_
    refine r_bipush (pc := 55) ok (113 : Int32) dX12_opens0_55 cb_113 ?_
    refine r_iload_n (pc := 57) ok dX12_opens0_57 rfl ?_
    refine r_iadd (pc := 58) ok dX12_opens0_58 ?_
    refine r_iald (pc := 59) ok sh_227 (j := 2) rfl (mx_r (by decide) (va_up_self _ _ _)) dX12_opens0_59 (fun i16 => ?_)
    refine r_iload_n (pc := 60) ok dX12_opens0_60 rfl ?_
    refine k_I (pc := 61) (fun r17 => r17) (fun r17 => mx XX (va_up YY 225 s6)) (fun r17 hr_ => c_S (n := 2) ok ml_Mo_218 ws_X12_bitOf yk_X12_bitOf rfl (Nat.le_of_ble_eq_true rfl) (Nat.le_of_ble_eq_true rfl) (tMo_bitOf hr_) rfl (Nat.le_of_ble_eq_true rfl) dX12_opens0_61) (fun r17 => ?_)
    refine r_if_eq (pc := 64) ok 71 dX12_opens0_64 rfl (fun _ => ?_) (fun _ => ?_)
    · exact wMo_opens0_J71 ok
    · refine r_iconst (pc := 67) ok (1 : Int32) dX12_opens0_67 ci_1 ?_
      refine r_goto (pc := 68) ok 72 dX12_opens0_68 rfl ?_
      exact wMo_opens0_J72 ok
theorem tMo_opens0 {l : Launch} {G : Gx} {b : Nat} {XX YY : Nat → Obj} {m : Obj} {v1 : Int32} {v2 : Int32} {r : Obj} (hr : fMo_opens0 m v1 v2 = some r) : MetG l G b yX12_opens0 cX12_opens0 6 none 1 [.ref (b + 225), .int v1, .int v2] (mx XX (va_up YY 225 m)) (qV G b (mx XX (va_up YY 225 r))) := by
  refine met_start [some (.ref (b + 225)), some (.int v1), some (.int v2), none, none, none] (by decide +kernel) (Nat.le_of_ble_eq_true rfl) rfl (fun Z hl ok => ?_)
  clear hl
  exact vMo_opens0 ok r (by rw [hr]; rfl)
theorem wMo_tick_L2 {Z : Cx} {G : Gx} {b : Nat} {XX YY : Nat → Obj} (ok : OK Z G b cX12_tick 4 4 RX12 none) {K : ((Int32 × Obj) ⊕ (Obj)) → Option (Obj)} (hc : ∀ (a : Int32 × Obj), VO Z G b 4 (fun (r : Obj) => QX Z b (qV G b (mx XX (va_up YY 225 r)))) (mx XX (va_up YY 225 a.2)) 2 [some (.ref (b + 225)), some (.int a.1), none, none] [] (K (.inl a))) (hx : ∀ (e : Obj), VO Z G b 4 (fun (r : Obj) => QX Z b (qV G b (mx XX (va_up YY 225 r)))) (mx XX (va_up YY 225 e)) 66 [some (.ref (b + 225)), none, none, none] [] (K (.inr e))) : ∀ (a : Int32 × Obj), VO Z G b 4 (fun (r : Obj) => QX Z b (qV G b (mx XX (va_up YY 225 r)))) (mx XX (va_up YY 225 a.2)) 2 [some (.ref (b + 225)), some (.int a.1), none, none] [] ((fMo_tick_L2 a).bind K) := by
  intro a
  unfold fMo_tick_L2
  refine r_iload_n (pc := 2) ok dX12_tick_2 rfl ?_
  refine r_aload_n (pc := 3) ok dX12_tick_3 rfl ?_
  refine r_getR (pc := 4) ok cls12 sh_225 (k := 6) rfl (Nat.le_of_ble_eq_true rfl) rfl dX12_tick_4 fl_Mo_33 ?_
  refine r_iconst (pc := 7) ok (1 : Int32) dX12_tick_7 ci_1 ?_
  refine r_ialdc (pc := 8) ok sh_227 (j := 2) rfl (i := 1) (by decide +kernel) (mx_r (by decide) (va_up_self _ _ _)) dX12_tick_8 ?_
  refine r_icmp_ge (pc := 9) ok 66 dX12_tick_9 rfl (fun _ => ?_) (fun _ => ?_)
  · refine r_lv (lk_s (lk_n (lk_n (lk_n lk_0 _) _) _) _) ?_
    exact hx a.2
  · refine r_aload_n (pc := 12) ok dX12_tick_12 rfl ?_
    refine r_getR (pc := 13) ok cls12 sh_225 (k := 6) rfl (Nat.le_of_ble_eq_true rfl) rfl dX12_tick_13 fl_Mo_33 ?_
    refine r_bipush (pc := 16) ok (73 : Int32) dX12_tick_16 cb_73 ?_
    refine r_iload_n (pc := 18) ok dX12_tick_18 rfl ?_
    refine r_iadd (pc := 19) ok dX12_tick_19 ?_
    refine r_iald (pc := 20) ok sh_227 (j := 2) rfl (mx_r (by decide) (va_up_self _ _ _)) dX12_tick_20 (fun i1 => ?_)
    refine r_iconst (pc := 21) ok (2 : Int32) dX12_tick_21 ci_2 ?_
    refine r_icmp_eq (pc := 22) ok 28 dX12_tick_22 rfl (fun _ => ?_) (fun _ => ?_)
    · refine r_aload_n (pc := 28) ok dX12_tick_28 rfl ?_
      refine r_getR (pc := 29) ok cls12 sh_225 (k := 6) rfl (Nat.le_of_ble_eq_true rfl) rfl dX12_tick_29 fl_Mo_33 ?_
      refine r_bipush (pc := 32) ok (105 : Int32) dX12_tick_32 cb_105 ?_
      refine r_iload_n (pc := 34) ok dX12_tick_34 rfl ?_
      refine r_iadd (pc := 35) ok dX12_tick_35 ?_
      refine r_dup2 (pc := 36) ok dX12_tick_36 rfl rfl ?_
      refine r_iald (pc := 37) ok sh_227 (j := 2) rfl (mx_r (by decide) (va_up_self _ _ _)) dX12_tick_37 (fun i2 => ?_)
      refine r_iconst (pc := 38) ok (1 : Int32) dX12_tick_38 ci_1 ?_
      refine r_isub (pc := 39) ok dX12_tick_39 ?_
      refine r_iast (pc := 40) ok sh_227 (j := 2) rfl rfl (fun s_ => mx XX (va_up YY 225 s_)) (pm_r _ _).1 (pm_r _ _).2 dX12_tick_40 (fun i3 s4 => ?_)
      refine r_aload_n (pc := 41) ok dX12_tick_41 rfl ?_
      refine r_getR (pc := 42) ok cls12 sh_225 (k := 6) rfl (Nat.le_of_ble_eq_true rfl) rfl dX12_tick_42 fl_Mo_33 ?_
      refine r_bipush (pc := 45) ok (105 : Int32) dX12_tick_45 cb_105 ?_
      refine r_iload_n (pc := 47) ok dX12_tick_47 rfl ?_
      refine r_iadd (pc := 48) ok dX12_tick_48 ?_
      refine r_iald (pc := 49) ok sh_227 (j := 2) rfl (mx_r (by decide) (va_up_self _ _ _)) dX12_tick_49 (fun i5 => ?_)
      refine r_if_ne (pc := 50) ok 60 dX12_tick_50 rfl (fun _ => ?_) (fun _ => ?_)
      · refine r_aload_n (pc := 53) ok dX12_tick_53 rfl ?_
        refine r_iload_n (pc := 54) ok dX12_tick_54 rfl ?_
        refine r_iconst (pc := 55) ok (0 : Int32) dX12_tick_55 ci_0 ?_
        refine r_iconst (pc := 56) ok (-1 : Int32) dX12_tick_56 ci_m1 ?_
        refine k_V (pc := 57)  (fun r6 => mx XX (va_up YY 225 r6)) (fun r6 hr_ => c_V (n := 3) ok cls12 sh_225 rfl ml_Mo_310 wv_X12_stands yk_X12_stands rfl (Nat.le_of_ble_eq_true rfl) (Nat.le_of_ble_eq_true rfl) (tMo_stands hr_) rfl (Nat.le_of_ble_eq_true rfl) dX12_tick_57) (fun r6 => ?_)
        refine r_iinc (pc := 60) ok (1 : Int32) dX12_tick_60 ci_1 rfl (Nat.le_of_ble_eq_true rfl) rfl ?_
        refine r_goto (pc := 63) ok 2 dX12_tick_63 rfl ?_
        exact hc ((a.1 + (1 : Int32)), r6)
      · refine r_iinc (pc := 60) ok (1 : Int32) dX12_tick_60 ci_1 rfl (Nat.le_of_ble_eq_true rfl) rfl ?_
        refine r_goto (pc := 63) ok 2 dX12_tick_63 rfl ?_
        exact hc ((a.1 + (1 : Int32)), s4)
    · refine r_goto (pc := 25) ok 60 dX12_tick_25 rfl ?_
      refine r_iinc (pc := 60) ok (1 : Int32) dX12_tick_60 ci_1 rfl (Nat.le_of_ble_eq_true rfl) rfl ?_
      refine r_goto (pc := 63) ok 2 dX12_tick_63 rfl ?_
      exact hc ((a.1 + (1 : Int32)), a.2)
theorem wMo_tick_L68 {Z : Cx} {G : Gx} {b : Nat} {XX YY : Nat → Obj} (ok : OK Z G b cX12_tick 4 4 RX12 none) {K : ((Int32 × Obj) ⊕ (Obj)) → Option (Obj)} (hc : ∀ (a : Int32 × Obj), VO Z G b 4 (fun (r : Obj) => QX Z b (qV G b (mx XX (va_up YY 225 r)))) (mx XX (va_up YY 225 a.2)) 68 [some (.ref (b + 225)), some (.int a.1), none, none] [] (K (.inl a))) (hx : ∀ (e : Obj), VO Z G b 4 (fun (r : Obj) => QX Z b (qV G b (mx XX (va_up YY 225 r)))) (mx XX (va_up YY 225 e)) 101 [some (.ref (b + 225)), none, none, none] [] (K (.inr e))) : ∀ (a : Int32 × Obj), VO Z G b 4 (fun (r : Obj) => QX Z b (qV G b (mx XX (va_up YY 225 r)))) (mx XX (va_up YY 225 a.2)) 68 [some (.ref (b + 225)), some (.int a.1), none, none] [] ((fMo_tick_L68 a).bind K) := by
  intro a
  unfold fMo_tick_L68
  refine r_iload_n (pc := 68) ok dX12_tick_68 rfl ?_
  refine r_aload_n (pc := 69) ok dX12_tick_69 rfl ?_
  refine r_getR (pc := 70) ok cls12 sh_225 (k := 6) rfl (Nat.le_of_ble_eq_true rfl) rfl dX12_tick_70 fl_Mo_33 ?_
  refine r_iconst (pc := 73) ok (1 : Int32) dX12_tick_73 ci_1 ?_
  refine r_ialdc (pc := 74) ok sh_227 (j := 2) rfl (i := 1) (by decide +kernel) (mx_r (by decide) (va_up_self _ _ _)) dX12_tick_74 ?_
  refine r_icmp_ge (pc := 75) ok 101 dX12_tick_75 rfl (fun _ => ?_) (fun _ => ?_)
  · refine r_lv (lk_s (lk_n (lk_n (lk_n lk_0 _) _) _) _) ?_
    exact hx a.2
  · refine r_aload_n (pc := 78) ok dX12_tick_78 rfl ?_
    refine r_getR (pc := 79) ok cls12 sh_225 (k := 6) rfl (Nat.le_of_ble_eq_true rfl) rfl dX12_tick_79 fl_Mo_33 ?_
    refine r_bipush (pc := 82) ok (73 : Int32) dX12_tick_82 cb_73 ?_
    refine r_iload_n (pc := 84) ok dX12_tick_84 rfl ?_
    refine r_iadd (pc := 85) ok dX12_tick_85 ?_
    refine r_iald (pc := 86) ok sh_227 (j := 2) rfl (mx_r (by decide) (va_up_self _ _ _)) dX12_tick_86 (fun i8 => ?_)
    refine r_if_ne (pc := 87) ok 95 dX12_tick_87 rfl (fun _ => ?_) (fun _ => ?_)
    · refine r_aload_n (pc := 90) ok dX12_tick_90 rfl ?_
      refine r_iload_n (pc := 91) ok dX12_tick_91 rfl ?_
      refine k_V (pc := 92)  (fun r9 => mx XX (va_up YY 225 r9)) (fun r9 hr_ => c_V (n := 1) ok cls12 sh_225 rfl ml_Mo_314 wv_X12_walks yk_X12_walks rfl (Nat.le_of_ble_eq_true rfl) (Nat.le_of_ble_eq_true rfl) (tMo_walks hr_) rfl (Nat.le_of_ble_eq_true rfl) dX12_tick_92) (fun r9 => ?_)
      refine r_iinc (pc := 95) ok (1 : Int32) dX12_tick_95 ci_1 rfl (Nat.le_of_ble_eq_true rfl) rfl ?_
      refine r_goto (pc := 98) ok 68 dX12_tick_98 rfl ?_
      exact hc ((a.1 + (1 : Int32)), r9)
    · refine r_iinc (pc := 95) ok (1 : Int32) dX12_tick_95 ci_1 rfl (Nat.le_of_ble_eq_true rfl) rfl ?_
      refine r_goto (pc := 98) ok 68 dX12_tick_98 rfl ?_
      exact hc ((a.1 + (1 : Int32)), a.2)
theorem wMo_tick_J135 {Z : Cx} {G : Gx} {b : Nat} {XX YY : Nat → Obj} {m : Obj} {v1 : Int32} {k0 : Int32} (ok : OK Z G b cX12_tick 4 4 RX12 none) {K : ((Int32 × Obj) ⊕ (Obj)) → Option (Obj)} (hc : ∀ (a : Int32 × Obj), VO Z G b 4 (fun (r : Obj) => QX Z b (qV G b (mx XX (va_up YY 225 r)))) (mx XX (va_up YY 225 a.2)) 103 [some (.ref (b + 225)), some (.int a.1), none, none] [] (K (.inl a))) (hx : ∀ (e : Obj), VO Z G b 4 (fun (r : Obj) => QX Z b (qV G b (mx XX (va_up YY 225 r)))) (mx XX (va_up YY 225 e)) 170 [some (.ref (b + 225)), none, none, none] [] (K (.inr e))) : VO Z G b 4 (fun (r : Obj) => QX Z b (qV G b (mx XX (va_up YY 225 r)))) (mx XX (va_up YY 225 m)) 135 [some (.ref (b + 225)), some (.int v1), none, none] [.int k0] ((fMo_tick_J135 m v1 k0).bind K) := by
  unfold fMo_tick_J135
  refine r_istore_n (pc := 135) ok dX12_tick_135 (Nat.le_of_ble_eq_true rfl) rfl ?_
  refine r_iload_n (pc := 136) ok dX12_tick_136 rfl ?_
  refine r_if_ge (pc := 137) ok 143 dX12_tick_137 rfl (fun _ => ?_) (fun _ => ?_)
  · refine r_aload_n (pc := 143) ok dX12_tick_143 rfl ?_
    refine r_iload_n (pc := 144) ok dX12_tick_144 rfl ?_
    refine r_iconst (pc := 145) ok (1 : Int32) dX12_tick_145 ci_1 ?_
    refine r_aload_n (pc := 146) ok dX12_tick_146 rfl ?_
    refine r_getR (pc := 147) ok cls12 sh_225 (k := 6) rfl (Nat.le_of_ble_eq_true rfl) rfl dX12_tick_147 fl_Mo_33 ?_
    refine r_sipush (pc := 150) ok (149 : Int32) dX12_tick_150 cs_149 ?_
    refine r_iload_n (pc := 153) ok dX12_tick_153 rfl ?_
    refine r_iadd (pc := 154) ok dX12_tick_154 ?_
    refine r_iald (pc := 155) ok sh_227 (j := 2) rfl (mx_r (by decide) (va_up_self _ _ _)) dX12_tick_155 (fun i13 => ?_)
    refine k_V (pc := 156)  (fun r14 => mx XX (va_up YY 225 r14)) (fun r14 hr_ => c_V (n := 3) ok cls12 sh_225 rfl ml_Mo_310 wv_X12_stands yk_X12_stands rfl (Nat.le_of_ble_eq_true rfl) (Nat.le_of_ble_eq_true rfl) (tMo_stands hr_) rfl (Nat.le_of_ble_eq_true rfl) dX12_tick_156) (fun r14 => ?_)
    refine r_aload_n (pc := 159) ok dX12_tick_159 rfl ?_
    refine r_iload_n (pc := 160) ok dX12_tick_160 rfl ?_
    refine k_V (pc := 161)  (fun r15 => mx XX (va_up YY 225 r15)) (fun r15 hr_ => c_V (n := 1) ok cls12 sh_225 rfl ml_Mo_317 wv_X12_strikes yk_X12_strikes rfl (Nat.le_of_ble_eq_true rfl) (Nat.le_of_ble_eq_true rfl) (tMo_strikes hr_) rfl (Nat.le_of_ble_eq_true rfl) dX12_tick_161) (fun r15 => ?_)
    refine r_iinc (pc := 164) ok (1 : Int32) dX12_tick_164 ci_1 rfl (Nat.le_of_ble_eq_true rfl) rfl ?_
    refine r_goto (pc := 167) ok 103 dX12_tick_167 rfl ?_
    refine r_lv (lk_s (lk_s (lk_n (lk_n lk_0 _) _) _) _) ?_
    exact hc ((v1 + (1 : Int32)), r15)
  · refine r_goto (pc := 140) ok 164 dX12_tick_140 rfl ?_
    refine r_iinc (pc := 164) ok (1 : Int32) dX12_tick_164 ci_1 rfl (Nat.le_of_ble_eq_true rfl) rfl ?_
    refine r_goto (pc := 167) ok 103 dX12_tick_167 rfl ?_
    refine r_lv (lk_s (lk_s (lk_n (lk_n lk_0 _) _) _) _) ?_
    exact hc ((v1 + (1 : Int32)), m)
theorem wMo_tick_L103 {Z : Cx} {G : Gx} {b : Nat} {XX YY : Nat → Obj} (ok : OK Z G b cX12_tick 4 4 RX12 none) {K : ((Int32 × Obj) ⊕ (Obj)) → Option (Obj)} (hc : ∀ (a : Int32 × Obj), VO Z G b 4 (fun (r : Obj) => QX Z b (qV G b (mx XX (va_up YY 225 r)))) (mx XX (va_up YY 225 a.2)) 103 [some (.ref (b + 225)), some (.int a.1), none, none] [] (K (.inl a))) (hx : ∀ (e : Obj), VO Z G b 4 (fun (r : Obj) => QX Z b (qV G b (mx XX (va_up YY 225 r)))) (mx XX (va_up YY 225 e)) 170 [some (.ref (b + 225)), none, none, none] [] (K (.inr e))) : ∀ (a : Int32 × Obj), VO Z G b 4 (fun (r : Obj) => QX Z b (qV G b (mx XX (va_up YY 225 r)))) (mx XX (va_up YY 225 a.2)) 103 [some (.ref (b + 225)), some (.int a.1), none, none] [] ((fMo_tick_L103 a).bind K) := by
  intro a
  unfold fMo_tick_L103
  refine r_iload_n (pc := 103) ok dX12_tick_103 rfl ?_
  refine r_aload_n (pc := 104) ok dX12_tick_104 rfl ?_
  refine r_getR (pc := 105) ok cls12 sh_225 (k := 6) rfl (Nat.le_of_ble_eq_true rfl) rfl dX12_tick_105 fl_Mo_33 ?_
  refine r_iconst (pc := 108) ok (1 : Int32) dX12_tick_108 ci_1 ?_
  refine r_ialdc (pc := 109) ok sh_227 (j := 2) rfl (i := 1) (by decide +kernel) (mx_r (by decide) (va_up_self _ _ _)) dX12_tick_109 ?_
  refine r_icmp_ge (pc := 110) ok 170 dX12_tick_110 rfl (fun _ => ?_) (fun _ => ?_)
  · refine r_lv (lk_s (lk_n (lk_n (lk_n lk_0 _) _) _) _) ?_
    exact hx a.2
  · refine r_aload_n (pc := 113) ok dX12_tick_113 rfl ?_
    refine r_getR (pc := 114) ok cls12 sh_225 (k := 6) rfl (Nat.le_of_ble_eq_true rfl) rfl dX12_tick_114 fl_Mo_33 ?_
    refine r_bipush (pc := 117) ok (73 : Int32) dX12_tick_117 cb_73 ?_
    refine r_iload_n (pc := 119) ok dX12_tick_119 rfl ?_
    refine r_iadd (pc := 120) ok dX12_tick_120 ?_
    refine r_iald (pc := 121) ok sh_227 (j := 2) rfl (mx_r (by decide) (va_up_self _ _ _)) dX12_tick_121 (fun i11 => ?_)
    refine r_if_ne (pc := 122) ok 134 dX12_tick_122 rfl (fun _ => ?_) (fun _ => ?_)
    · refine r_aload_n (pc := 125) ok dX12_tick_125 rfl ?_
      refine r_iload_n (pc := 126) ok dX12_tick_126 rfl ?_
      refine r_iconst (pc := 127) ok (-1 : Int32) dX12_tick_127 ci_m1 ?_
      refine k_I (pc := 128) (fun r12 => r12) (fun r12 => mx XX (va_up YY 225 a.2)) (fun r12 hr_ => c_V (n := 2) ok cls12 sh_225 rfl ml_Mo_303 wv_X12_callOf yk_X12_callOf rfl (Nat.le_of_ble_eq_true rfl) (Nat.le_of_ble_eq_true rfl) (tMo_callOf (va_up_self _ _ _) hr_) rfl (Nat.le_of_ble_eq_true rfl) dX12_tick_128) (fun r12 => ?_)
      refine r_goto (pc := 131) ok 135 dX12_tick_131 rfl ?_
      exact wMo_tick_J135 ok (K := K) hc hx
    · refine r_iconst (pc := 134) ok (-1 : Int32) dX12_tick_134 ci_m1 ?_
      exact wMo_tick_J135 ok (K := K) hc hx
theorem wMo_tick_L174 {Z : Cx} {G : Gx} {b : Nat} {XX YY : Nat → Obj} (ok : OK Z G b cX12_tick 4 4 RX12 none) {K : ((Int32 × Int32 × Obj) ⊕ (Obj)) → Option (Obj)} (hc : ∀ (a : Int32 × Int32 × Obj), VO Z G b 4 (fun (r : Obj) => QX Z b (qV G b (mx XX (va_up YY 225 r)))) (mx XX (va_up YY 225 a.2.2)) 174 [some (.ref (b + 225)), some (.int a.1), some (.int a.2.1), none] [] (K (.inl a))) (hx : ∀ (e : Obj), VO Z G b 4 (fun (r : Obj) => QX Z b (qV G b (mx XX (va_up YY 225 r)))) (mx XX (va_up YY 225 e)) 255 [some (.ref (b + 225)), none, none, none] [] (K (.inr e))) : ∀ (a : Int32 × Int32 × Obj), VO Z G b 4 (fun (r : Obj) => QX Z b (qV G b (mx XX (va_up YY 225 r)))) (mx XX (va_up YY 225 a.2.2)) 174 [some (.ref (b + 225)), some (.int a.1), some (.int a.2.1), none] [] ((fMo_tick_L174 a).bind K) := by
  intro a
  unfold fMo_tick_L174
  refine r_iload_n (pc := 174) ok dX12_tick_174 rfl ?_
  refine r_aload_n (pc := 175) ok dX12_tick_175 rfl ?_
  refine r_getR (pc := 176) ok cls12 sh_225 (k := 6) rfl (Nat.le_of_ble_eq_true rfl) rfl dX12_tick_176 fl_Mo_33 ?_
  refine r_iconst (pc := 179) ok (1 : Int32) dX12_tick_179 ci_1 ?_
  refine r_ialdc (pc := 180) ok sh_227 (j := 2) rfl (i := 1) (by decide +kernel) (mx_r (by decide) (va_up_self _ _ _)) dX12_tick_180 ?_
  refine r_icmp_ge (pc := 181) ok 255 dX12_tick_181 rfl (fun _ => ?_) (fun _ => ?_)
  · refine r_lv (lk_s (lk_n (lk_n (lk_n lk_0 _) _) _) _) ?_
    exact hx a.2.2
  · refine r_aload_n (pc := 184) ok dX12_tick_184 rfl ?_
    refine r_getR (pc := 185) ok cls12 sh_225 (k := 6) rfl (Nat.le_of_ble_eq_true rfl) rfl dX12_tick_185 fl_Mo_33 ?_
    refine r_bipush (pc := 188) ok (73 : Int32) dX12_tick_188 cb_73 ?_
    refine r_iload_n (pc := 190) ok dX12_tick_190 rfl ?_
    refine r_iadd (pc := 191) ok dX12_tick_191 ?_
    refine r_iald (pc := 192) ok sh_227 (j := 2) rfl (mx_r (by decide) (va_up_self _ _ _)) dX12_tick_192 (fun i17 => ?_)
    refine r_iconst (pc := 193) ok (1 : Int32) dX12_tick_193 ci_1 ?_
    refine r_icmp_eq (pc := 194) ok 200 dX12_tick_194 rfl (fun _ => ?_) (fun _ => ?_)
    · refine r_aload_n (pc := 200) ok dX12_tick_200 rfl ?_
      refine r_aload_n (pc := 201) ok dX12_tick_201 rfl ?_
      refine r_getR (pc := 202) ok cls12 sh_225 (k := 6) rfl (Nat.le_of_ble_eq_true rfl) rfl dX12_tick_202 fl_Mo_33 ?_
      refine r_bipush (pc := 205) ok (97 : Int32) dX12_tick_205 cb_97 ?_
      refine r_iload_n (pc := 207) ok dX12_tick_207 rfl ?_
      refine r_iadd (pc := 208) ok dX12_tick_208 ?_
      refine r_iald (pc := 209) ok sh_227 (j := 2) rfl (mx_r (by decide) (va_up_self _ _ _)) dX12_tick_209 (fun i18 => ?_)
      refine r_iconst (pc := 210) ok (1 : Int32) dX12_tick_210 ci_1 ?_
      refine r_isub (pc := 211) ok dX12_tick_211 ?_
      refine r_iload_n (pc := 212) ok dX12_tick_212 rfl ?_
      refine k_I (pc := 213) (fun r19 => r19) (fun r19 => mx XX (va_up YY 225 a.2.2)) (fun r19 hr_ => c_V (n := 2) ok cls12 sh_225 rfl ml_Mo_320 wv_X12_answers yk_X12_answers rfl (Nat.le_of_ble_eq_true rfl) (Nat.le_of_ble_eq_true rfl) (tMo_answers (va_up_self _ _ _) hr_) rfl (Nat.le_of_ble_eq_true rfl) dX12_tick_213) (fun r19 => ?_)
      refine r_istore_n (pc := 216) ok dX12_tick_216 (Nat.le_of_ble_eq_true rfl) rfl ?_
      refine r_iload_n (pc := 217) ok dX12_tick_217 rfl ?_
      refine r_if_ge (pc := 218) ok 237 dX12_tick_218 rfl (fun _ => ?_) (fun _ => ?_)
      · refine r_iload_n (pc := 237) ok dX12_tick_237 rfl ?_
        refine r_iconst (pc := 238) ok (1 : Int32) dX12_tick_238 ci_1 ?_
        refine r_iload_n (pc := 239) ok dX12_tick_239 rfl ?_
        refine r_ishl (pc := 240) ok dX12_tick_240 ?_
        refine r_ior (pc := 241) ok dX12_tick_241 ?_
        refine r_bndI (fun x20 => ?_)
        refine r_istore_n (pc := 242) ok dX12_tick_242 (Nat.le_of_ble_eq_true rfl) rfl ?_
        refine r_aload_n (pc := 243) ok dX12_tick_243 rfl ?_
        refine r_iload_n (pc := 244) ok dX12_tick_244 rfl ?_
        refine r_iload_n (pc := 245) ok dX12_tick_245 rfl ?_
        refine k_V (pc := 246)  (fun r21 => mx XX (va_up YY 225 r21)) (fun r21 hr_ => c_V (n := 2) ok cls12 sh_225 rfl ml_Mo_323 wv_X12_opens0 yk_X12_opens0 rfl (Nat.le_of_ble_eq_true rfl) (Nat.le_of_ble_eq_true rfl) (tMo_opens0 hr_) rfl (Nat.le_of_ble_eq_true rfl) dX12_tick_246) (fun r21 => ?_)
        refine r_iinc (pc := 249) ok (1 : Int32) dX12_tick_249 ci_1 rfl (Nat.le_of_ble_eq_true rfl) rfl ?_
        refine r_goto (pc := 252) ok 174 dX12_tick_252 rfl ?_
        refine r_lv (lk_s (lk_s (lk_s (lk_n lk_0 _) _) _) _) ?_
        exact hc (x20, (a.2.1 + (1 : Int32)), r21)
      · refine r_aload_n (pc := 221) ok dX12_tick_221 rfl ?_
        refine r_getR (pc := 222) ok cls12 sh_225 (k := 6) rfl (Nat.le_of_ble_eq_true rfl) rfl dX12_tick_222 fl_Mo_33 ?_
        refine r_bipush (pc := 225) ok (121 : Int32) dX12_tick_225 cb_121 ?_
        refine r_iload_n (pc := 227) ok dX12_tick_227 rfl ?_
        refine r_iadd (pc := 228) ok dX12_tick_228 ?_
        refine r_dup2 (pc := 229) ok dX12_tick_229 rfl rfl ?_
        refine r_iald (pc := 230) ok sh_227 (j := 2) rfl (mx_r (by decide) (va_up_self _ _ _)) dX12_tick_230 (fun i22 => ?_)
        refine r_iconst (pc := 231) ok (1 : Int32) dX12_tick_231 ci_1 ?_
        refine r_iadd (pc := 232) ok dX12_tick_232 ?_
        refine r_iast (pc := 233) ok sh_227 (j := 2) rfl rfl (fun s_ => mx XX (va_up YY 225 s_)) (pm_r _ _).1 (pm_r _ _).2 dX12_tick_233 (fun i23 s24 => ?_)
        refine r_goto (pc := 234) ok 249 dX12_tick_234 rfl ?_
        refine r_iinc (pc := 249) ok (1 : Int32) dX12_tick_249 ci_1 rfl (Nat.le_of_ble_eq_true rfl) rfl ?_
        refine r_goto (pc := 252) ok 174 dX12_tick_252 rfl ?_
        refine r_lv (lk_s (lk_s (lk_s (lk_n lk_0 _) _) _) _) ?_
        exact hc (a.1, (a.2.1 + (1 : Int32)), s24)
    · refine r_goto (pc := 197) ok 249 dX12_tick_197 rfl ?_
      refine r_iinc (pc := 249) ok (1 : Int32) dX12_tick_249 ci_1 rfl (Nat.le_of_ble_eq_true rfl) rfl ?_
      refine r_goto (pc := 252) ok 174 dX12_tick_252 rfl ?_
      exact hc (a.1, (a.2.1 + (1 : Int32)), a.2.2)
theorem vMo_tick {Z : Cx} {G : Gx} {b : Nat} {XX YY : Nat → Obj} {m : Obj} (ok : OK Z G b cX12_tick 4 4 RX12 none) : VO Z G b 4 (fun (r : Obj) => QX Z b (qV G b (mx XX (va_up YY 225 r)))) (mx XX (va_up YY 225 m)) 0 [some (.ref (b + 225)), none, none, none] [] ((fMo_tick m).bind some) := by
  unfold fMo_tick
  refine r_iconst (pc := 0) ok (0 : Int32) dX12_tick_0 ci_0 ?_
  refine r_istore_n (pc := 1) ok dX12_tick_1 (Nat.le_of_ble_eq_true rfl) rfl ?_
  refine r_iter (P := fun (a2 : Int32 × Obj) o => VO Z G b 4 (fun (r : Obj) => QX Z b (qV G b (mx XX (va_up YY 225 r)))) (mx XX (va_up YY 225 a2.2)) 2 [some (.ref (b + 225)), some (.int a2.1), none, none] [] o) (E := fun (e_2 : Obj) o => VO Z G b 4 (fun (r : Obj) => QX Z b (qV G b (mx XX (va_up YY 225 r)))) (mx XX (va_up YY 225 e_2)) 66 [some (.ref (b + 225)), none, none, none] [] o) (fun _ => r_none) (fun K hc hx => wMo_tick_L2 ok (K := K) hc hx) (fun e7 => ?_) FU ((0 : Int32), m)
  refine r_iconst (pc := 66) ok (0 : Int32) dX12_tick_66 ci_0 ?_
  refine r_istore_n (pc := 67) ok dX12_tick_67 (Nat.le_of_ble_eq_true rfl) rfl ?_
  refine r_iter (P := fun (a68 : Int32 × Obj) o => VO Z G b 4 (fun (r : Obj) => QX Z b (qV G b (mx XX (va_up YY 225 r)))) (mx XX (va_up YY 225 a68.2)) 68 [some (.ref (b + 225)), some (.int a68.1), none, none] [] o) (E := fun (e_68 : Obj) o => VO Z G b 4 (fun (r : Obj) => QX Z b (qV G b (mx XX (va_up YY 225 r)))) (mx XX (va_up YY 225 e_68)) 101 [some (.ref (b + 225)), none, none, none] [] o) (fun _ => r_none) (fun K hc hx => wMo_tick_L68 ok (K := K) hc hx) (fun e10 => ?_) FU ((0 : Int32), e7)
  refine r_iconst (pc := 101) ok (0 : Int32) dX12_tick_101 ci_0 ?_
  refine r_istore_n (pc := 102) ok dX12_tick_102 (Nat.le_of_ble_eq_true rfl) rfl ?_
  refine r_iter (P := fun (a103 : Int32 × Obj) o => VO Z G b 4 (fun (r : Obj) => QX Z b (qV G b (mx XX (va_up YY 225 r)))) (mx XX (va_up YY 225 a103.2)) 103 [some (.ref (b + 225)), some (.int a103.1), none, none] [] o) (E := fun (e_103 : Obj) o => VO Z G b 4 (fun (r : Obj) => QX Z b (qV G b (mx XX (va_up YY 225 r)))) (mx XX (va_up YY 225 e_103)) 170 [some (.ref (b + 225)), none, none, none] [] o) (fun _ => r_none) (fun K hc hx => wMo_tick_L103 ok (K := K) hc hx) (fun e16 => ?_) FU ((0 : Int32), e10)
  refine r_iconst (pc := 170) ok (0 : Int32) dX12_tick_170 ci_0 ?_
  refine r_istore_n (pc := 171) ok dX12_tick_171 (Nat.le_of_ble_eq_true rfl) rfl ?_
  refine r_iconst (pc := 172) ok (0 : Int32) dX12_tick_172 ci_0 ?_
  refine r_istore_n (pc := 173) ok dX12_tick_173 (Nat.le_of_ble_eq_true rfl) rfl ?_
  refine r_iter (P := fun (a174 : Int32 × Int32 × Obj) o => VO Z G b 4 (fun (r : Obj) => QX Z b (qV G b (mx XX (va_up YY 225 r)))) (mx XX (va_up YY 225 a174.2.2)) 174 [some (.ref (b + 225)), some (.int a174.1), some (.int a174.2.1), none] [] o) (E := fun (e_174 : Obj) o => VO Z G b 4 (fun (r : Obj) => QX Z b (qV G b (mx XX (va_up YY 225 r)))) (mx XX (va_up YY 225 e_174)) 255 [some (.ref (b + 225)), none, none, none] [] o) (fun _ => r_none) (fun K hc hx => wMo_tick_L174 ok (K := K) hc hx) (fun e25 => ?_) FU ((0 : Int32), (0 : Int32), e16)
  refine r_aload_n (pc := 255) ok dX12_tick_255 rfl ?_
  refine r_getR (pc := 256) ok cls12 sh_225 (k := 6) rfl (Nat.le_of_ble_eq_true rfl) rfl dX12_tick_256 fl_Mo_33 ?_
  refine r_bipush (pc := 259) ok (69 : Int32) dX12_tick_259 cb_69 ?_
  refine r_dup2 (pc := 261) ok dX12_tick_261 rfl rfl ?_
  refine r_ialdc (pc := 262) ok sh_227 (j := 2) rfl (i := 69) (by decide +kernel) (mx_r (by decide) (va_up_self _ _ _)) dX12_tick_262 ?_
  refine r_iconst (pc := 263) ok (1 : Int32) dX12_tick_263 ci_1 ?_
  refine r_iadd (pc := 264) ok dX12_tick_264 ?_
  refine r_iastc (pc := 265) ok sh_227 (j := 2) rfl (i := 69) (by decide +kernel) rfl (fun s_ => mx XX (va_up YY 225 s_)) (pm_r _ _).1 (pm_r _ _).2 dX12_tick_265 (fun s26 => ?_)
  exact r_vret (pc := 266) ok dX12_tick_266 rfl
theorem tMo_tick {l : Launch} {G : Gx} {b : Nat} {XX YY : Nat → Obj} {m : Obj} {r : Obj} (hr : fMo_tick m = some r) : MetG l G b yX12_tick cX12_tick 4 none 4 [.ref (b + 225)] (mx XX (va_up YY 225 m)) (qV G b (mx XX (va_up YY 225 r))) := by
  refine met_start [some (.ref (b + 225)), none, none, none] (by decide +kernel) (Nat.le_of_ble_eq_true rfl) rfl (fun Z hl ok => ?_)
  clear hl
  exact vMo_tick ok r (by rw [hr]; rfl)
theorem wMo_goesOn_L2 {Z : Cx} {G : Gx} {b : Nat} {XX YY : Nat → Obj} {v1 : Int32} (ok : OK Z G b cX12_goesOn 3 5 RX12 (some .int)) {K : ((Int32 × Obj) ⊕ (Int32 × Obj)) → Option (Int32 × Obj)} (hc : ∀ (a : Int32 × Obj), VO Z G b 3 (fun (r : Int32 × Obj) => QX Z b (qI G b r.1 (mx XX (va_up YY 225 r.2)))) (mx XX (va_up YY 225 a.2)) 2 [some (.ref (b + 225)), some (.int v1), some (.int a.1)] [] (K (.inl a))) (hx : ∀ (e : Int32 × Obj), VO Z G b 3 (fun (r : Int32 × Obj) => QX Z b (qI G b r.1 (mx XX (va_up YY 225 r.2)))) (mx XX (va_up YY 225 e.2)) 30 [none, none, some (.int e.1)] [] (K (.inr e))) : ∀ (a : Int32 × Obj), VO Z G b 3 (fun (r : Int32 × Obj) => QX Z b (qI G b r.1 (mx XX (va_up YY 225 r.2)))) (mx XX (va_up YY 225 a.2)) 2 [some (.ref (b + 225)), some (.int v1), some (.int a.1)] [] ((fMo_goesOn_L2 v1 a).bind K) := by
  intro a
  unfold fMo_goesOn_L2
  refine r_iload_n (pc := 2) ok dX12_goesOn_2 rfl ?_
  refine r_iload_n (pc := 3) ok dX12_goesOn_3 rfl ?_
  refine r_icmp_ge (pc := 4) ok 30 dX12_goesOn_4 rfl (fun _ => ?_) (fun _ => ?_)
  · refine r_lv (lk_n (lk_n (lk_s lk_0 _) _) _) ?_
    exact hx (a.1, a.2)
  · refine r_aload_n (pc := 7) ok dX12_goesOn_7 rfl ?_
    refine r_getR (pc := 8) ok cls12 sh_225 (k := 6) rfl (Nat.le_of_ble_eq_true rfl) rfl dX12_goesOn_8 fl_Mo_33 ?_
    refine r_bipush (pc := 11) ok (69 : Int32) dX12_goesOn_11 cb_69 ?_
    refine r_ialdc (pc := 13) ok sh_227 (j := 2) rfl (i := 69) (by decide +kernel) (mx_r (by decide) (va_up_self _ _ _)) dX12_goesOn_13 ?_
    refine r_sipush (pc := 14) ok (1000 : Int32) dX12_goesOn_14 cs_1000 ?_
    refine r_icmp_ge (pc := 17) ok 30 dX12_goesOn_17 rfl (fun _ => ?_) (fun _ => ?_)
    · refine r_lv (lk_n (lk_n (lk_s lk_0 _) _) _) ?_
      exact hx (a.1, a.2)
    · refine r_aload_n (pc := 20) ok dX12_goesOn_20 rfl ?_
      refine k_V (pc := 21)  (fun r1 => mx XX (va_up YY 225 r1)) (fun r1 hr_ => c_V (n := 0) ok cls12 sh_225 rfl ml_Mo_327 wv_X12_tick yk_X12_tick rfl (Nat.le_of_ble_eq_true rfl) (Nat.le_of_ble_eq_true rfl) (tMo_tick hr_) rfl (Nat.le_of_ble_eq_true rfl) dX12_goesOn_21) (fun r1 => ?_)
      refine r_iinc (pc := 24) ok (1 : Int32) dX12_goesOn_24 ci_1 rfl (Nat.le_of_ble_eq_true rfl) rfl ?_
      refine r_goto (pc := 27) ok 2 dX12_goesOn_27 rfl ?_
      exact hc ((a.1 + (1 : Int32)), r1)
theorem vMo_goesOn {Z : Cx} {G : Gx} {b : Nat} {XX YY : Nat → Obj} {m : Obj} {v1 : Int32} (ok : OK Z G b cX12_goesOn 3 5 RX12 (some .int)) : VO Z G b 3 (fun (r : Int32 × Obj) => QX Z b (qI G b r.1 (mx XX (va_up YY 225 r.2)))) (mx XX (va_up YY 225 m)) 0 [some (.ref (b + 225)), some (.int v1), none] [] ((fMo_goesOn m v1).bind some) := by
  unfold fMo_goesOn
  refine r_iconst (pc := 0) ok (0 : Int32) dX12_goesOn_0 ci_0 ?_
  refine r_istore_n (pc := 1) ok dX12_goesOn_1 (Nat.le_of_ble_eq_true rfl) rfl ?_
  refine r_iter (P := fun (a2 : Int32 × Obj) o => VO Z G b 3 (fun (r : Int32 × Obj) => QX Z b (qI G b r.1 (mx XX (va_up YY 225 r.2)))) (mx XX (va_up YY 225 a2.2)) 2 [some (.ref (b + 225)), some (.int v1), some (.int a2.1)] [] o) (E := fun (e_2 : Int32 × Obj) o => VO Z G b 3 (fun (r : Int32 × Obj) => QX Z b (qI G b r.1 (mx XX (va_up YY 225 r.2)))) (mx XX (va_up YY 225 e_2.2)) 30 [none, none, some (.int e_2.1)] [] o) (fun _ => r_none) (fun K hc hx => wMo_goesOn_L2 ok (K := K) hc hx) (fun e2 => ?_) FU ((0 : Int32), m)
  refine r_iload_n (pc := 30) ok dX12_goesOn_30 rfl ?_
  exact r_iret (pc := 31) ok dX12_goesOn_31 rfl
theorem tMo_goesOn {l : Launch} {G : Gx} {b : Nat} {XX YY : Nat → Obj} {m : Obj} {v1 : Int32} {r : Int32 × Obj} (hr : fMo_goesOn m v1 = some r) : MetG l G b yX12_goesOn cX12_goesOn 3 (some .int) 5 [.ref (b + 225), .int v1] (mx XX (va_up YY 225 m)) (qI G b r.1 (mx XX (va_up YY 225 r.2))) := by
  refine met_start [some (.ref (b + 225)), some (.int v1), none] (by decide +kernel) (Nat.le_of_ble_eq_true rfl) rfl (fun Z hl ok => ?_)
  clear hl
  exact vMo_goesOn ok r (by rw [hr]; rfl)
theorem wMo_stores_L11 {Z : Cx} {G : Gx} {b : Nat} {XX YY : Nat → Obj} (ok : OK Z G b cX12_stores 2 0 RX12 none) {K : ((Int32 × Obj) ⊕ (Obj)) → Option (Obj)} (hc : ∀ (a : Int32 × Obj), VO Z G b 2 (fun (r : Obj) => QX Z b (qV G b (mx XX (va_up YY 225 r)))) (mx XX (va_up YY 225 a.2)) 11 [some (.ref (b + 225)), some (.int a.1)] [] (K (.inl a))) (hx : ∀ (e : Obj), VO Z G b 2 (fun (r : Obj) => QX Z b (qV G b (mx XX (va_up YY 225 r)))) (mx XX (va_up YY 225 e)) 39 [some (.ref (b + 225)), none] [] (K (.inr e))) : ∀ (a : Int32 × Obj), VO Z G b 2 (fun (r : Obj) => QX Z b (qV G b (mx XX (va_up YY 225 r)))) (mx XX (va_up YY 225 a.2)) 11 [some (.ref (b + 225)), some (.int a.1)] [] ((fMo_stores_L11 a).bind K) := by
  intro a
  unfold fMo_stores_L11
  refine r_iload_n (pc := 11) ok dX12_stores_11 rfl ?_
  refine r_sipush (pc := 12) ok (644 : Int32) dX12_stores_12 cs_644 ?_
  refine r_icmp_ge (pc := 15) ok 39 dX12_stores_15 rfl (fun _ => ?_) (fun _ => ?_)
  · refine r_lv (lk_s (lk_n lk_0 _) _) ?_
    exact hx a.2
  · refine r_aload_n (pc := 18) ok dX12_stores_18 rfl ?_
    refine r_getR (pc := 19) ok cls12 sh_225 (k := 21) rfl (Nat.le_of_ble_eq_true rfl) rfl dX12_stores_19 fl_Mo_50 ?_
    refine r_iload_n (pc := 22) ok dX12_stores_22 rfl ?_
    refine r_aload_n (pc := 23) ok dX12_stores_23 rfl ?_
    refine r_getR (pc := 24) ok cls12 sh_225 (k := 21) rfl (Nat.le_of_ble_eq_true rfl) rfl dX12_stores_24 fl_Mo_50 ?_
    refine r_iload_n (pc := 27) ok dX12_stores_27 rfl ?_
    refine r_bipush (pc := 28) ok (92 : Int32) dX12_stores_28 cb_92 ?_
    refine r_iadd (pc := 30) ok dX12_stores_30 ?_
    refine r_iald (pc := 31) ok sh_232 (j := 7) rfl (mx_r (by decide) (va_up_self _ _ _)) dX12_stores_31 (fun i1 => ?_)
    refine r_iast (pc := 32) ok sh_232 (j := 7) rfl rfl (fun s_ => mx XX (va_up YY 225 s_)) (pm_r _ _).1 (pm_r _ _).2 dX12_stores_32 (fun i2 s3 => ?_)
    refine r_iinc (pc := 33) ok (1 : Int32) dX12_stores_33 ci_1 rfl (Nat.le_of_ble_eq_true rfl) rfl ?_
    refine r_goto (pc := 36) ok 11 dX12_stores_36 rfl ?_
    exact hc ((a.1 + (1 : Int32)), s3)
theorem wMo_stores_L47 {Z : Cx} {G : Gx} {b : Nat} {XX YY : Nat → Obj} (ok : OK Z G b cX12_stores 2 0 RX12 none) {K : ((Int32 × Obj) ⊕ (Obj)) → Option (Obj)} (hc : ∀ (a : Int32 × Obj), VO Z G b 2 (fun (r : Obj) => QX Z b (qV G b (mx XX (va_up YY 225 r)))) (mx XX (va_up YY 225 a.2)) 47 [some (.ref (b + 225)), some (.int a.1)] [] (K (.inl a))) (hx : ∀ (e : Obj), VO Z G b 2 (fun (r : Obj) => QX Z b (qV G b (mx XX (va_up YY 225 r)))) (mx XX (va_up YY 225 e)) 82 [some (.ref (b + 225)), none] [] (K (.inr e))) : ∀ (a : Int32 × Obj), VO Z G b 2 (fun (r : Obj) => QX Z b (qV G b (mx XX (va_up YY 225 r)))) (mx XX (va_up YY 225 a.2)) 47 [some (.ref (b + 225)), some (.int a.1)] [] ((fMo_stores_L47 a).bind K) := by
  intro a
  unfold fMo_stores_L47
  refine r_iload_n (pc := 47) ok dX12_stores_47 rfl ?_
  refine r_bipush (pc := 48) ok (92 : Int32) dX12_stores_48 cb_92 ?_
  refine r_icmp_ge (pc := 50) ok 82 dX12_stores_50 rfl (fun _ => ?_) (fun _ => ?_)
  · refine r_lv (lk_s (lk_n lk_0 _) _) ?_
    exact hx a.2
  · refine r_aload_n (pc := 53) ok dX12_stores_53 rfl ?_
    refine r_getR (pc := 54) ok cls12 sh_225 (k := 21) rfl (Nat.le_of_ble_eq_true rfl) rfl dX12_stores_54 fl_Mo_50 ?_
    refine r_bipush (pc := 57) ok (92 : Int32) dX12_stores_57 cb_92 ?_
    refine r_aload_n (pc := 59) ok dX12_stores_59 rfl ?_
    refine r_getI (pc := 60) ok cls12 sh_225 (k := 23) rfl (Nat.le_of_ble_eq_true rfl) (mx_r (by decide) (va_up_self _ _ _)) dX12_stores_60 fl_Mo_271 ?_
    refine r_imul (pc := 63) ok dX12_stores_63 ?_
    refine r_iload_n (pc := 64) ok dX12_stores_64 rfl ?_
    refine r_iadd (pc := 65) ok dX12_stores_65 ?_
    refine r_aload_n (pc := 66) ok dX12_stores_66 rfl ?_
    refine r_getR (pc := 67) ok cls12 sh_225 (k := 6) rfl (Nat.le_of_ble_eq_true rfl) rfl dX12_stores_67 fl_Mo_33 ?_
    refine r_bipush (pc := 70) ok (69 : Int32) dX12_stores_70 cb_69 ?_
    refine r_iload_n (pc := 72) ok dX12_stores_72 rfl ?_
    refine r_iadd (pc := 73) ok dX12_stores_73 ?_
    refine r_iald (pc := 74) ok sh_227 (j := 2) rfl (mx_r (by decide) (va_up_self _ _ _)) dX12_stores_74 (fun i6 => ?_)
    refine r_iast (pc := 75) ok sh_232 (j := 7) rfl rfl (fun s_ => mx XX (va_up YY 225 s_)) (pm_r _ _).1 (pm_r _ _).2 dX12_stores_75 (fun i7 s8 => ?_)
    refine r_iinc (pc := 76) ok (1 : Int32) dX12_stores_76 ci_1 rfl (Nat.le_of_ble_eq_true rfl) rfl ?_
    refine r_goto (pc := 79) ok 47 dX12_stores_79 rfl ?_
    exact hc ((a.1 + (1 : Int32)), s8)
theorem wMo_stores_J45 {Z : Cx} {G : Gx} {b : Nat} {XX YY : Nat → Obj} {m : Obj} (ok : OK Z G b cX12_stores 2 0 RX12 none) : VO Z G b 2 (fun (r : Obj) => QX Z b (qV G b (mx XX (va_up YY 225 r)))) (mx XX (va_up YY 225 m)) 45 [some (.ref (b + 225)), none] [] ((fMo_stores_J45 m).bind some) := by
  unfold fMo_stores_J45
  refine r_iconst (pc := 45) ok (0 : Int32) dX12_stores_45 ci_0 ?_
  refine r_istore_n (pc := 46) ok dX12_stores_46 (Nat.le_of_ble_eq_true rfl) rfl ?_
  refine r_iter (P := fun (a47 : Int32 × Obj) o => VO Z G b 2 (fun (r : Obj) => QX Z b (qV G b (mx XX (va_up YY 225 r)))) (mx XX (va_up YY 225 a47.2)) 47 [some (.ref (b + 225)), some (.int a47.1)] [] o) (E := fun (e_47 : Obj) o => VO Z G b 2 (fun (r : Obj) => QX Z b (qV G b (mx XX (va_up YY 225 r)))) (mx XX (va_up YY 225 e_47)) 82 [some (.ref (b + 225)), none] [] o) (fun _ => r_none) (fun K hc hx => wMo_stores_L47 ok (K := K) hc hx) (fun e9 => ?_) FU ((0 : Int32), m)
  refine r_aload_n (pc := 82) ok dX12_stores_82 rfl ?_
  refine r_dup (pc := 83) ok dX12_stores_83 rfl ?_
  refine r_getI (pc := 84) ok cls12 sh_225 (k := 23) rfl (Nat.le_of_ble_eq_true rfl) (mx_r (by decide) (va_up_self _ _ _)) dX12_stores_84 fl_Mo_271 ?_
  refine r_iconst (pc := 87) ok (1 : Int32) dX12_stores_87 ci_1 ?_
  refine r_iadd (pc := 88) ok dX12_stores_88 ?_
  refine r_putI (pc := 89) ok cls12 sh_225 (k := 23) rfl (Nat.le_of_ble_eq_true rfl) (fun s_ => mx XX (va_up YY 225 s_)) (pm_r _ _).1 (pm_r _ _).2 rfl rfl rfl dX12_stores_89 fl_Mo_271 (fun s10 => ?_)
  exact r_vret (pc := 92) ok dX12_stores_92 rfl
theorem vMo_stores {Z : Cx} {G : Gx} {b : Nat} {XX YY : Nat → Obj} {m : Obj} (ok : OK Z G b cX12_stores 2 0 RX12 none) : VO Z G b 2 (fun (r : Obj) => QX Z b (qV G b (mx XX (va_up YY 225 r)))) (mx XX (va_up YY 225 m)) 0 [some (.ref (b + 225)), none] [] ((fMo_stores m).bind some) := by
  unfold fMo_stores
  refine r_aload_n (pc := 0) ok dX12_stores_0 rfl ?_
  refine r_getI (pc := 1) ok cls12 sh_225 (k := 23) rfl (Nat.le_of_ble_eq_true rfl) (mx_r (by decide) (va_up_self _ _ _)) dX12_stores_1 fl_Mo_271 ?_
  refine r_bipush (pc := 4) ok (8 : Int32) dX12_stores_4 cb_8 ?_
  refine r_icmp_ne (pc := 6) ok 45 dX12_stores_6 rfl (fun _ => ?_) (fun _ => ?_)
  · refine r_iconst (pc := 9) ok (0 : Int32) dX12_stores_9 ci_0 ?_
    refine r_istore_n (pc := 10) ok dX12_stores_10 (Nat.le_of_ble_eq_true rfl) rfl ?_
    refine r_iter (P := fun (a11 : Int32 × Obj) o => VO Z G b 2 (fun (r : Obj) => QX Z b (qV G b (mx XX (va_up YY 225 r)))) (mx XX (va_up YY 225 a11.2)) 11 [some (.ref (b + 225)), some (.int a11.1)] [] o) (E := fun (e_11 : Obj) o => VO Z G b 2 (fun (r : Obj) => QX Z b (qV G b (mx XX (va_up YY 225 r)))) (mx XX (va_up YY 225 e_11)) 39 [some (.ref (b + 225)), none] [] o) (fun _ => r_none) (fun K hc hx => wMo_stores_L11 ok (K := K) hc hx) (fun e4 => ?_) FU ((0 : Int32), m)
    refine r_aload_n (pc := 39) ok dX12_stores_39 rfl ?_
    refine r_bipush (pc := 40) ok (7 : Int32) dX12_stores_40 cb_7 ?_
    refine r_putI (pc := 42) ok cls12 sh_225 (k := 23) rfl (Nat.le_of_ble_eq_true rfl) (fun s_ => mx XX (va_up YY 225 s_)) (pm_r _ _).1 (pm_r _ _).2 rfl rfl rfl dX12_stores_42 fl_Mo_271 (fun s5 => ?_)
    exact wMo_stores_J45 ok
  · exact wMo_stores_J45 ok
theorem tMo_stores {l : Launch} {G : Gx} {b : Nat} {XX YY : Nat → Obj} {m : Obj} {r : Obj} (hr : fMo_stores m = some r) : MetG l G b yX12_stores cX12_stores 2 none 0 [.ref (b + 225)] (mx XX (va_up YY 225 m)) (qV G b (mx XX (va_up YY 225 r))) := by
  refine met_start [some (.ref (b + 225)), none] (by decide +kernel) (Nat.le_of_ble_eq_true rfl) rfl (fun Z hl ok => ?_)
  clear hl
  exact vMo_stores ok r (by rw [hr]; rfl)
theorem vMo_knock {Z : Cx} {G : Gx} {b : Nat} {XX YY : Nat → Obj} {m : Obj} {v1 : Int32} {v2 : Int32} (ok : OK Z G b cX12_knock 4 2 RX12 (some .int)) : VO Z G b 4 (fun (r : Int32 × Obj) => QX Z b (qI G b r.1 (mx XX (va_up YY 225 r.2)))) (mx XX (va_up YY 225 m)) 0 [some (.ref (b + 225)), some (.int v1), some (.int v2), none] [] ((fMo_knock m v1 v2).bind some) := by
  unfold fMo_knock
  refine r_aload_n (pc := 0) ok dX12_knock_0 rfl ?_
  refine r_iconst (pc := 1) ok (0 : Int32) dX12_knock_1 ci_0 ?_
  refine r_putI (pc := 2) ok cls12 sh_225 (k := 0) rfl (Nat.le_of_ble_eq_true rfl) (fun s_ => mx XX (va_up YY 225 s_)) (pm_r _ _).1 (pm_r _ _).2 rfl rfl rfl dX12_knock_2 fl_Mo_1 (fun s1 => ?_)
  refine r_aload_n (pc := 5) ok dX12_knock_5 rfl ?_
  refine r_iload_n (pc := 6) ok dX12_knock_6 rfl ?_
  refine k_I (pc := 7) (fun r2 => r2) (fun r2 => mx XX (va_up YY 225 s1)) (fun r2 hr_ => c_V (n := 1) ok cls12 sh_225 rfl ml_Mo_290 wv_X12_isPerson yk_X12_isPerson rfl (Nat.le_of_ble_eq_true rfl) (Nat.le_of_ble_eq_true rfl) (tMo_isPerson (va_up_self _ _ _) hr_) rfl (Nat.le_of_ble_eq_true rfl) dX12_knock_7) (fun r2 => ?_)
  refine r_if_eq (pc := 10) ok 21 dX12_knock_10 rfl (fun _ => ?_) (fun _ => ?_)
  · refine r_iconst (pc := 21) ok (-1 : Int32) dX12_knock_21 ci_m1 ?_
    exact r_iret (pc := 22) ok dX12_knock_22 rfl
  · refine r_aload_n (pc := 13) ok dX12_knock_13 rfl ?_
    refine r_iload_n (pc := 14) ok dX12_knock_14 rfl ?_
    refine k_I (pc := 15) (fun r3 => r3) (fun r3 => mx XX (va_up YY 225 s1)) (fun r3 hr_ => c_V (n := 1) ok cls12 sh_225 rfl ml_Mo_284 wv_X12_isHouse yk_X12_isHouse rfl (Nat.le_of_ble_eq_true rfl) (Nat.le_of_ble_eq_true rfl) (tMo_isHouse (va_up_self _ _ _) hr_) rfl (Nat.le_of_ble_eq_true rfl) dX12_knock_15) (fun r3 => ?_)
    refine r_if_ne (pc := 18) ok 23 dX12_knock_18 rfl (fun _ => ?_) (fun _ => ?_)
    · refine r_iconst (pc := 21) ok (-1 : Int32) dX12_knock_21 ci_m1 ?_
      exact r_iret (pc := 22) ok dX12_knock_22 rfl
    · refine r_aload_n (pc := 23) ok dX12_knock_23 rfl ?_
      refine r_iload_n (pc := 24) ok dX12_knock_24 rfl ?_
      refine r_iload_n (pc := 25) ok dX12_knock_25 rfl ?_
      refine k_I (pc := 26) (fun r4 => r4) (fun r4 => mx XX (va_up YY 225 s1)) (fun r4 hr_ => c_V (n := 2) ok cls12 sh_225 rfl ml_Mo_330 wv_X12_whyKnock yk_X12_whyKnock rfl (Nat.le_of_ble_eq_true rfl) (Nat.le_of_ble_eq_true rfl) (tMo_whyKnock (va_up_self _ _ _) hr_) rfl (Nat.le_of_ble_eq_true rfl) dX12_knock_26) (fun r4 => ?_)
      refine r_istore_n (pc := 29) ok dX12_knock_29 (Nat.le_of_ble_eq_true rfl) rfl ?_
      refine r_iload_n (pc := 30) ok dX12_knock_30 rfl ?_
      refine r_if_le (pc := 31) ok 36 dX12_knock_31 rfl (fun _ => ?_) (fun _ => ?_)
      · refine r_aload_n (pc := 36) ok dX12_knock_36 rfl ?_
        refine k_V (pc := 37)  (fun r5 => mx XX (va_up YY 225 r5)) (fun r5 hr_ => c_V (n := 0) ok cls12 sh_225 rfl ml_Mo_333 wv_X12_stores yk_X12_stores rfl (Nat.le_of_ble_eq_true rfl) (Nat.le_of_ble_eq_true rfl) (tMo_stores hr_) rfl (Nat.le_of_ble_eq_true rfl) dX12_knock_37) (fun r5 => ?_)
        refine r_aload_n (pc := 40) ok dX12_knock_40 rfl ?_
        refine r_iload_n (pc := 41) ok dX12_knock_41 rfl ?_
        refine r_iconst (pc := 42) ok (1 : Int32) dX12_knock_42 ci_1 ?_
        refine r_iload_n (pc := 43) ok dX12_knock_43 rfl ?_
        refine k_V (pc := 44)  (fun r6 => mx XX (va_up YY 225 r6)) (fun r6 hr_ => c_V (n := 3) ok cls12 sh_225 rfl ml_Mo_310 wv_X12_stands yk_X12_stands rfl (Nat.le_of_ble_eq_true rfl) (Nat.le_of_ble_eq_true rfl) (tMo_stands hr_) rfl (Nat.le_of_ble_eq_true rfl) dX12_knock_44) (fun r6 => ?_)
        refine r_iconst (pc := 47) ok (0 : Int32) dX12_knock_47 ci_0 ?_
        exact r_iret (pc := 48) ok dX12_knock_48 rfl
      · refine r_iload_n (pc := 34) ok dX12_knock_34 rfl ?_
        exact r_iret (pc := 35) ok dX12_knock_35 rfl
theorem tMo_knock {l : Launch} {G : Gx} {b : Nat} {XX YY : Nat → Obj} {m : Obj} {v1 : Int32} {v2 : Int32} {r : Int32 × Obj} (hr : fMo_knock m v1 v2 = some r) : MetG l G b yX12_knock cX12_knock 4 (some .int) 2 [.ref (b + 225), .int v1, .int v2] (mx XX (va_up YY 225 m)) (qI G b r.1 (mx XX (va_up YY 225 r.2))) := by
  refine met_start [some (.ref (b + 225)), some (.int v1), some (.int v2), none] (by decide +kernel) (Nat.le_of_ble_eq_true rfl) rfl (fun Z hl ok => ?_)
  clear hl
  exact vMo_knock ok r (by rw [hr]; rfl)
theorem vMo_go {Z : Cx} {G : Gx} {b : Nat} {XX YY : Nat → Obj} {m : Obj} {v1 : Int32} {v2 : Int32} (ok : OK Z G b cX12_go 4 2 RX12 (some .int)) : VO Z G b 4 (fun (r : Int32 × Obj) => QX Z b (qI G b r.1 (mx XX (va_up YY 225 r.2)))) (mx XX (va_up YY 225 m)) 0 [some (.ref (b + 225)), some (.int v1), some (.int v2), none] [] ((fMo_go m v1 v2).bind some) := by
  unfold fMo_go
  refine r_aload_n (pc := 0) ok dX12_go_0 rfl ?_
  refine r_iconst (pc := 1) ok (0 : Int32) dX12_go_1 ci_0 ?_
  refine r_putI (pc := 2) ok cls12 sh_225 (k := 0) rfl (Nat.le_of_ble_eq_true rfl) (fun s_ => mx XX (va_up YY 225 s_)) (pm_r _ _).1 (pm_r _ _).2 rfl rfl rfl dX12_go_2 fl_Mo_1 (fun s1 => ?_)
  refine r_aload_n (pc := 5) ok dX12_go_5 rfl ?_
  refine r_iload_n (pc := 6) ok dX12_go_6 rfl ?_
  refine k_I (pc := 7) (fun r2 => r2) (fun r2 => mx XX (va_up YY 225 s1)) (fun r2 hr_ => c_V (n := 1) ok cls12 sh_225 rfl ml_Mo_290 wv_X12_isPerson yk_X12_isPerson rfl (Nat.le_of_ble_eq_true rfl) (Nat.le_of_ble_eq_true rfl) (tMo_isPerson (va_up_self _ _ _) hr_) rfl (Nat.le_of_ble_eq_true rfl) dX12_go_7) (fun r2 => ?_)
  refine r_if_eq (pc := 10) ok 22 dX12_go_10 rfl (fun _ => ?_) (fun _ => ?_)
  · refine r_iconst (pc := 22) ok (-1 : Int32) dX12_go_22 ci_m1 ?_
    exact r_iret (pc := 23) ok dX12_go_23 rfl
  · refine r_iload_n (pc := 13) ok dX12_go_13 rfl ?_
    refine r_iconst (pc := 14) ok (0 : Int32) dX12_go_14 ci_0 ?_
    refine r_iconst (pc := 15) ok (2 : Int32) dX12_go_15 ci_2 ?_
    refine k_I (pc := 16) (fun r3 => r3) (fun r3 => mx XX (va_up YY 225 s1)) (fun r3 hr_ => c_S (n := 3) ok ml_Mo_193 ws_X12_isIn yk_X12_isIn rfl (Nat.le_of_ble_eq_true rfl) (Nat.le_of_ble_eq_true rfl) (tMo_isIn hr_) rfl (Nat.le_of_ble_eq_true rfl) dX12_go_16) (fun r3 => ?_)
    refine r_if_ne (pc := 19) ok 24 dX12_go_19 rfl (fun _ => ?_) (fun _ => ?_)
    · refine r_iconst (pc := 22) ok (-1 : Int32) dX12_go_22 ci_m1 ?_
      exact r_iret (pc := 23) ok dX12_go_23 rfl
    · refine r_aload_n (pc := 24) ok dX12_go_24 rfl ?_
      refine r_iload_n (pc := 25) ok dX12_go_25 rfl ?_
      refine r_iload_n (pc := 26) ok dX12_go_26 rfl ?_
      refine k_I (pc := 27) (fun r4 => r4) (fun r4 => mx XX (va_up YY 225 s1)) (fun r4 hr_ => c_V (n := 2) ok cls12 sh_225 rfl ml_Mo_336 wv_X12_whyGo yk_X12_whyGo rfl (Nat.le_of_ble_eq_true rfl) (Nat.le_of_ble_eq_true rfl) (tMo_whyGo (va_up_self _ _ _) hr_) rfl (Nat.le_of_ble_eq_true rfl) dX12_go_27) (fun r4 => ?_)
      refine r_istore_n (pc := 30) ok dX12_go_30 (Nat.le_of_ble_eq_true rfl) rfl ?_
      refine r_iload_n (pc := 31) ok dX12_go_31 rfl ?_
      refine r_if_le (pc := 32) ok 37 dX12_go_32 rfl (fun _ => ?_) (fun _ => ?_)
      · refine r_aload_n (pc := 37) ok dX12_go_37 rfl ?_
        refine k_V (pc := 38)  (fun r5 => mx XX (va_up YY 225 r5)) (fun r5 hr_ => c_V (n := 0) ok cls12 sh_225 rfl ml_Mo_333 wv_X12_stores yk_X12_stores rfl (Nat.le_of_ble_eq_true rfl) (Nat.le_of_ble_eq_true rfl) (tMo_stores hr_) rfl (Nat.le_of_ble_eq_true rfl) dX12_go_38) (fun r5 => ?_)
        refine r_aload_n (pc := 41) ok dX12_go_41 rfl ?_
        refine r_getR (pc := 42) ok cls12 sh_225 (k := 6) rfl (Nat.le_of_ble_eq_true rfl) rfl dX12_go_42 fl_Mo_33 ?_
        refine r_bipush (pc := 45) ok (89 : Int32) dX12_go_45 cb_89 ?_
        refine r_iload_n (pc := 47) ok dX12_go_47 rfl ?_
        refine r_iadd (pc := 48) ok dX12_go_48 ?_
        refine r_iload_n (pc := 49) ok dX12_go_49 rfl ?_
        refine r_iast (pc := 50) ok sh_227 (j := 2) rfl rfl (fun s_ => mx XX (va_up YY 225 s_)) (pm_r _ _).1 (pm_r _ _).2 dX12_go_50 (fun i6 s7 => ?_)
        refine r_iconst (pc := 51) ok (0 : Int32) dX12_go_51 ci_0 ?_
        exact r_iret (pc := 52) ok dX12_go_52 rfl
      · refine r_iload_n (pc := 35) ok dX12_go_35 rfl ?_
        exact r_iret (pc := 36) ok dX12_go_36 rfl
theorem tMo_go {l : Launch} {G : Gx} {b : Nat} {XX YY : Nat → Obj} {m : Obj} {v1 : Int32} {v2 : Int32} {r : Int32 × Obj} (hr : fMo_go m v1 v2 = some r) : MetG l G b yX12_go cX12_go 4 (some .int) 2 [.ref (b + 225), .int v1, .int v2] (mx XX (va_up YY 225 m)) (qI G b r.1 (mx XX (va_up YY 225 r.2))) := by
  refine met_start [some (.ref (b + 225)), some (.int v1), some (.int v2), none] (by decide +kernel) (Nat.le_of_ble_eq_true rfl) rfl (fun Z hl ok => ?_)
  clear hl
  exact vMo_go ok r (by rw [hr]; rfl)
theorem vMo_quit {Z : Cx} {G : Gx} {b : Nat} {XX YY : Nat → Obj} {m : Obj} {v1 : Int32} (ok : OK Z G b cX12_quit 2 2 RX12 (some .int)) : VO Z G b 2 (fun (r : Int32 × Obj) => QX Z b (qI G b r.1 (mx XX (va_up YY 225 r.2)))) (mx XX (va_up YY 225 m)) 0 [some (.ref (b + 225)), some (.int v1)] [] ((fMo_quit m v1).bind some) := by
  unfold fMo_quit
  refine r_aload_n (pc := 0) ok dX12_quit_0 rfl ?_
  refine r_iconst (pc := 1) ok (0 : Int32) dX12_quit_1 ci_0 ?_
  refine r_putI (pc := 2) ok cls12 sh_225 (k := 0) rfl (Nat.le_of_ble_eq_true rfl) (fun s_ => mx XX (va_up YY 225 s_)) (pm_r _ _).1 (pm_r _ _).2 rfl rfl rfl dX12_quit_2 fl_Mo_1 (fun s1 => ?_)
  refine r_aload_n (pc := 5) ok dX12_quit_5 rfl ?_
  refine r_iload_n (pc := 6) ok dX12_quit_6 rfl ?_
  refine k_I (pc := 7) (fun r2 => r2) (fun r2 => mx XX (va_up YY 225 s1)) (fun r2 hr_ => c_V (n := 1) ok cls12 sh_225 rfl ml_Mo_290 wv_X12_isPerson yk_X12_isPerson rfl (Nat.le_of_ble_eq_true rfl) (Nat.le_of_ble_eq_true rfl) (tMo_isPerson (va_up_self _ _ _) hr_) rfl (Nat.le_of_ble_eq_true rfl) dX12_quit_7) (fun r2 => ?_)
  refine r_if_ne (pc := 10) ok 15 dX12_quit_10 rfl (fun _ => ?_) (fun _ => ?_)
  · refine r_iconst (pc := 13) ok (-1 : Int32) dX12_quit_13 ci_m1 ?_
    exact r_iret (pc := 14) ok dX12_quit_14 rfl
  · refine r_aload_n (pc := 15) ok dX12_quit_15 rfl ?_
    refine r_getR (pc := 16) ok cls12 sh_225 (k := 6) rfl (Nat.le_of_ble_eq_true rfl) rfl dX12_quit_16 fl_Mo_33 ?_
    refine r_bipush (pc := 19) ok (73 : Int32) dX12_quit_19 cb_73 ?_
    refine r_iload_n (pc := 21) ok dX12_quit_21 rfl ?_
    refine r_iadd (pc := 22) ok dX12_quit_22 ?_
    refine r_iald (pc := 23) ok sh_227 (j := 2) rfl (mx_r (by decide) (va_up_self _ _ _)) dX12_quit_23 (fun i3 => ?_)
    refine r_iconst (pc := 24) ok (1 : Int32) dX12_quit_24 ci_1 ?_
    refine r_icmp_eq (pc := 25) ok 30 dX12_quit_25 rfl (fun _ => ?_) (fun _ => ?_)
    · refine r_aload_n (pc := 30) ok dX12_quit_30 rfl ?_
      refine k_V (pc := 31)  (fun r4 => mx XX (va_up YY 225 r4)) (fun r4 hr_ => c_V (n := 0) ok cls12 sh_225 rfl ml_Mo_333 wv_X12_stores yk_X12_stores rfl (Nat.le_of_ble_eq_true rfl) (Nat.le_of_ble_eq_true rfl) (tMo_stores hr_) rfl (Nat.le_of_ble_eq_true rfl) dX12_quit_31) (fun r4 => ?_)
      refine r_aload_n (pc := 34) ok dX12_quit_34 rfl ?_
      refine r_iload_n (pc := 35) ok dX12_quit_35 rfl ?_
      refine r_iconst (pc := 36) ok (0 : Int32) dX12_quit_36 ci_0 ?_
      refine r_iconst (pc := 37) ok (-1 : Int32) dX12_quit_37 ci_m1 ?_
      refine k_V (pc := 38)  (fun r5 => mx XX (va_up YY 225 r5)) (fun r5 hr_ => c_V (n := 3) ok cls12 sh_225 rfl ml_Mo_310 wv_X12_stands yk_X12_stands rfl (Nat.le_of_ble_eq_true rfl) (Nat.le_of_ble_eq_true rfl) (tMo_stands hr_) rfl (Nat.le_of_ble_eq_true rfl) dX12_quit_38) (fun r5 => ?_)
      refine r_iconst (pc := 41) ok (0 : Int32) dX12_quit_41 ci_0 ?_
      exact r_iret (pc := 42) ok dX12_quit_42 rfl
    · refine r_iconst (pc := 28) ok (1 : Int32) dX12_quit_28 ci_1 ?_
      exact r_iret (pc := 29) ok dX12_quit_29 rfl
theorem tMo_quit {l : Launch} {G : Gx} {b : Nat} {XX YY : Nat → Obj} {m : Obj} {v1 : Int32} {r : Int32 × Obj} (hr : fMo_quit m v1 = some r) : MetG l G b yX12_quit cX12_quit 2 (some .int) 2 [.ref (b + 225), .int v1] (mx XX (va_up YY 225 m)) (qI G b r.1 (mx XX (va_up YY 225 r.2))) := by
  refine met_start [some (.ref (b + 225)), some (.int v1)] (by decide +kernel) (Nat.le_of_ble_eq_true rfl) rfl (fun Z hl ok => ?_)
  clear hl
  exact vMo_quit ok r (by rw [hr]; rfl)
theorem vMo_meets {Z : Cx} {G : Gx} {b : Nat} {XX YY : Nat → Obj} {m : Obj} {v1 : Int32} {v2 : Int32} (ok : OK Z G b cX12_meets 3 2 RX12 (some .int)) : VO Z G b 3 (fun (r : Int32 × Obj) => QX Z b (qI G b r.1 (mx XX (va_up YY 225 r.2)))) (mx XX (va_up YY 225 m)) 0 [some (.ref (b + 225)), some (.int v1), some (.int v2)] [] ((fMo_meets m v1 v2).bind some) := by
  unfold fMo_meets
  refine r_aload_n (pc := 0) ok dX12_meets_0 rfl ?_
  refine r_iconst (pc := 1) ok (0 : Int32) dX12_meets_1 ci_0 ?_
  refine r_putI (pc := 2) ok cls12 sh_225 (k := 0) rfl (Nat.le_of_ble_eq_true rfl) (fun s_ => mx XX (va_up YY 225 s_)) (pm_r _ _).1 (pm_r _ _).2 rfl rfl rfl dX12_meets_2 fl_Mo_1 (fun s1 => ?_)
  refine r_aload_n (pc := 5) ok dX12_meets_5 rfl ?_
  refine r_iload_n (pc := 6) ok dX12_meets_6 rfl ?_
  refine k_I (pc := 7) (fun r2 => r2) (fun r2 => mx XX (va_up YY 225 s1)) (fun r2 hr_ => c_V (n := 1) ok cls12 sh_225 rfl ml_Mo_290 wv_X12_isPerson yk_X12_isPerson rfl (Nat.le_of_ble_eq_true rfl) (Nat.le_of_ble_eq_true rfl) (tMo_isPerson (va_up_self _ _ _) hr_) rfl (Nat.le_of_ble_eq_true rfl) dX12_meets_7) (fun r2 => ?_)
  refine r_if_eq (pc := 10) ok 26 dX12_meets_10 rfl (fun _ => ?_) (fun _ => ?_)
  · refine r_iconst (pc := 26) ok (-1 : Int32) dX12_meets_26 ci_m1 ?_
    exact r_iret (pc := 27) ok dX12_meets_27 rfl
  · refine r_aload_n (pc := 13) ok dX12_meets_13 rfl ?_
    refine r_iload_n (pc := 14) ok dX12_meets_14 rfl ?_
    refine k_I (pc := 15) (fun r3 => r3) (fun r3 => mx XX (va_up YY 225 s1)) (fun r3 hr_ => c_V (n := 1) ok cls12 sh_225 rfl ml_Mo_290 wv_X12_isPerson yk_X12_isPerson rfl (Nat.le_of_ble_eq_true rfl) (Nat.le_of_ble_eq_true rfl) (tMo_isPerson (va_up_self _ _ _) hr_) rfl (Nat.le_of_ble_eq_true rfl) dX12_meets_15) (fun r3 => ?_)
    refine r_if_eq (pc := 18) ok 26 dX12_meets_18 rfl (fun _ => ?_) (fun _ => ?_)
    · refine r_iconst (pc := 26) ok (-1 : Int32) dX12_meets_26 ci_m1 ?_
      exact r_iret (pc := 27) ok dX12_meets_27 rfl
    · refine r_iload_n (pc := 21) ok dX12_meets_21 rfl ?_
      refine r_iload_n (pc := 22) ok dX12_meets_22 rfl ?_
      refine r_icmp_ne (pc := 23) ok 28 dX12_meets_23 rfl (fun _ => ?_) (fun _ => ?_)
      · refine r_iconst (pc := 26) ok (-1 : Int32) dX12_meets_26 ci_m1 ?_
        exact r_iret (pc := 27) ok dX12_meets_27 rfl
      · refine r_aload_n (pc := 28) ok dX12_meets_28 rfl ?_
        refine r_getR (pc := 29) ok cls12 sh_225 (k := 6) rfl (Nat.le_of_ble_eq_true rfl) rfl dX12_meets_29 fl_Mo_33 ?_
        refine r_bipush (pc := 32) ok (113 : Int32) dX12_meets_32 cb_113 ?_
        refine r_iload_n (pc := 34) ok dX12_meets_34 rfl ?_
        refine r_iadd (pc := 35) ok dX12_meets_35 ?_
        refine r_iald (pc := 36) ok sh_227 (j := 2) rfl (mx_r (by decide) (va_up_self _ _ _)) dX12_meets_36 (fun i4 => ?_)
        refine r_iload_n (pc := 37) ok dX12_meets_37 rfl ?_
        refine k_I (pc := 38) (fun r5 => r5) (fun r5 => mx XX (va_up YY 225 s1)) (fun r5 hr_ => c_S (n := 2) ok ml_Mo_218 ws_X12_bitOf yk_X12_bitOf rfl (Nat.le_of_ble_eq_true rfl) (Nat.le_of_ble_eq_true rfl) (tMo_bitOf hr_) rfl (Nat.le_of_ble_eq_true rfl) dX12_meets_38) (fun r5 => ?_)
        refine r_if_eq (pc := 41) ok 46 dX12_meets_41 rfl (fun _ => ?_) (fun _ => ?_)
        · refine r_aload_n (pc := 46) ok dX12_meets_46 rfl ?_
          refine k_V (pc := 47)  (fun r6 => mx XX (va_up YY 225 r6)) (fun r6 hr_ => c_V (n := 0) ok cls12 sh_225 rfl ml_Mo_333 wv_X12_stores yk_X12_stores rfl (Nat.le_of_ble_eq_true rfl) (Nat.le_of_ble_eq_true rfl) (tMo_stores hr_) rfl (Nat.le_of_ble_eq_true rfl) dX12_meets_47) (fun r6 => ?_)
          refine r_aload_n (pc := 50) ok dX12_meets_50 rfl ?_
          refine r_getR (pc := 51) ok cls12 sh_225 (k := 6) rfl (Nat.le_of_ble_eq_true rfl) rfl dX12_meets_51 fl_Mo_33 ?_
          refine r_bipush (pc := 54) ok (113 : Int32) dX12_meets_54 cb_113 ?_
          refine r_iload_n (pc := 56) ok dX12_meets_56 rfl ?_
          refine r_iload_n (pc := 57) ok dX12_meets_57 rfl ?_
          refine k_V (pc := 58)  (fun r7 => mx XX (va_up YY 225 r7)) (fun r7 hr_ => c_S (n := 4) ok ml_Mo_255 ws_X12_knowsIn yk_X12_knowsIn rfl (Nat.le_of_ble_eq_true rfl) (Nat.le_of_ble_eq_true rfl) (tMo_knowsIn_2 hr_) rfl (Nat.le_of_ble_eq_true rfl) dX12_meets_58) (fun r7 => ?_)
          refine r_iconst (pc := 61) ok (0 : Int32) dX12_meets_61 ci_0 ?_
          exact r_iret (pc := 62) ok dX12_meets_62 rfl
        · refine r_iconst (pc := 44) ok (1 : Int32) dX12_meets_44 ci_1 ?_
          exact r_iret (pc := 45) ok dX12_meets_45 rfl
theorem tMo_meets {l : Launch} {G : Gx} {b : Nat} {XX YY : Nat → Obj} {m : Obj} {v1 : Int32} {v2 : Int32} {r : Int32 × Obj} (hr : fMo_meets m v1 v2 = some r) : MetG l G b yX12_meets cX12_meets 3 (some .int) 2 [.ref (b + 225), .int v1, .int v2] (mx XX (va_up YY 225 m)) (qI G b r.1 (mx XX (va_up YY 225 r.2))) := by
  refine met_start [some (.ref (b + 225)), some (.int v1), some (.int v2)] (by decide +kernel) (Nat.le_of_ble_eq_true rfl) rfl (fun Z hl ok => ?_)
  clear hl
  exact vMo_meets ok r (by rw [hr]; rfl)
theorem vMo_calls {Z : Cx} {G : Gx} {b : Nat} {XX YY : Nat → Obj} {m : Obj} {v1 : Int32} {v2 : Int32} (ok : OK Z G b cX12_calls 4 2 RX12 (some .int)) : VO Z G b 4 (fun (r : Int32 × Obj) => QX Z b (qI G b r.1 (mx XX (va_up YY 225 r.2)))) (mx XX (va_up YY 225 m)) 0 [some (.ref (b + 225)), some (.int v1), some (.int v2), none] [] ((fMo_calls m v1 v2).bind some) := by
  unfold fMo_calls
  refine r_aload_n (pc := 0) ok dX12_calls_0 rfl ?_
  refine r_iconst (pc := 1) ok (0 : Int32) dX12_calls_1 ci_0 ?_
  refine r_putI (pc := 2) ok cls12 sh_225 (k := 0) rfl (Nat.le_of_ble_eq_true rfl) (fun s_ => mx XX (va_up YY 225 s_)) (pm_r _ _).1 (pm_r _ _).2 rfl rfl rfl dX12_calls_2 fl_Mo_1 (fun s1 => ?_)
  refine r_aload_n (pc := 5) ok dX12_calls_5 rfl ?_
  refine r_iload_n (pc := 6) ok dX12_calls_6 rfl ?_
  refine k_I (pc := 7) (fun r2 => r2) (fun r2 => mx XX (va_up YY 225 s1)) (fun r2 hr_ => c_V (n := 1) ok cls12 sh_225 rfl ml_Mo_290 wv_X12_isPerson yk_X12_isPerson rfl (Nat.le_of_ble_eq_true rfl) (Nat.le_of_ble_eq_true rfl) (tMo_isPerson (va_up_self _ _ _) hr_) rfl (Nat.le_of_ble_eq_true rfl) dX12_calls_7) (fun r2 => ?_)
  refine r_if_eq (pc := 10) ok 21 dX12_calls_10 rfl (fun _ => ?_) (fun _ => ?_)
  · refine r_iconst (pc := 21) ok (-1 : Int32) dX12_calls_21 ci_m1 ?_
    exact r_iret (pc := 22) ok dX12_calls_22 rfl
  · refine r_aload_n (pc := 13) ok dX12_calls_13 rfl ?_
    refine r_iload_n (pc := 14) ok dX12_calls_14 rfl ?_
    refine k_I (pc := 15) (fun r3 => r3) (fun r3 => mx XX (va_up YY 225 s1)) (fun r3 hr_ => c_V (n := 1) ok cls12 sh_225 rfl ml_Mo_284 wv_X12_isHouse yk_X12_isHouse rfl (Nat.le_of_ble_eq_true rfl) (Nat.le_of_ble_eq_true rfl) (tMo_isHouse (va_up_self _ _ _) hr_) rfl (Nat.le_of_ble_eq_true rfl) dX12_calls_15) (fun r3 => ?_)
    refine r_if_ne (pc := 18) ok 23 dX12_calls_18 rfl (fun _ => ?_) (fun _ => ?_)
    · refine r_iconst (pc := 21) ok (-1 : Int32) dX12_calls_21 ci_m1 ?_
      exact r_iret (pc := 22) ok dX12_calls_22 rfl
    · refine r_aload_n (pc := 23) ok dX12_calls_23 rfl ?_
      refine r_iload_n (pc := 24) ok dX12_calls_24 rfl ?_
      refine r_iload_n (pc := 25) ok dX12_calls_25 rfl ?_
      refine k_I (pc := 26) (fun r4 => r4) (fun r4 => mx XX (va_up YY 225 s1)) (fun r4 hr_ => c_V (n := 2) ok cls12 sh_225 rfl ml_Mo_339 wv_X12_whyCall yk_X12_whyCall rfl (Nat.le_of_ble_eq_true rfl) (Nat.le_of_ble_eq_true rfl) (tMo_whyCall (va_up_self _ _ _) hr_) rfl (Nat.le_of_ble_eq_true rfl) dX12_calls_26) (fun r4 => ?_)
      refine r_istore_n (pc := 29) ok dX12_calls_29 (Nat.le_of_ble_eq_true rfl) rfl ?_
      refine r_iload_n (pc := 30) ok dX12_calls_30 rfl ?_
      refine r_if_le (pc := 31) ok 36 dX12_calls_31 rfl (fun _ => ?_) (fun _ => ?_)
      · refine r_aload_n (pc := 36) ok dX12_calls_36 rfl ?_
        refine k_V (pc := 37)  (fun r5 => mx XX (va_up YY 225 r5)) (fun r5 hr_ => c_V (n := 0) ok cls12 sh_225 rfl ml_Mo_333 wv_X12_stores yk_X12_stores rfl (Nat.le_of_ble_eq_true rfl) (Nat.le_of_ble_eq_true rfl) (tMo_stores hr_) rfl (Nat.le_of_ble_eq_true rfl) dX12_calls_37) (fun r5 => ?_)
        refine r_aload_n (pc := 40) ok dX12_calls_40 rfl ?_
        refine r_iload_n (pc := 41) ok dX12_calls_41 rfl ?_
        refine r_iload_n (pc := 42) ok dX12_calls_42 rfl ?_
        refine k_V (pc := 43)  (fun r6 => mx XX (va_up YY 225 r6)) (fun r6 hr_ => c_V (n := 2) ok cls12 sh_225 rfl ml_Mo_342 wv_X12_books yk_X12_books rfl (Nat.le_of_ble_eq_true rfl) (Nat.le_of_ble_eq_true rfl) (tMo_books hr_) rfl (Nat.le_of_ble_eq_true rfl) dX12_calls_43) (fun r6 => ?_)
        refine r_iconst (pc := 46) ok (0 : Int32) dX12_calls_46 ci_0 ?_
        exact r_iret (pc := 47) ok dX12_calls_47 rfl
      · refine r_iload_n (pc := 34) ok dX12_calls_34 rfl ?_
        exact r_iret (pc := 35) ok dX12_calls_35 rfl
theorem tMo_calls {l : Launch} {G : Gx} {b : Nat} {XX YY : Nat → Obj} {m : Obj} {v1 : Int32} {v2 : Int32} {r : Int32 × Obj} (hr : fMo_calls m v1 v2 = some r) : MetG l G b yX12_calls cX12_calls 4 (some .int) 2 [.ref (b + 225), .int v1, .int v2] (mx XX (va_up YY 225 m)) (qI G b r.1 (mx XX (va_up YY 225 r.2))) := by
  refine met_start [some (.ref (b + 225)), some (.int v1), some (.int v2), none] (by decide +kernel) (Nat.le_of_ble_eq_true rfl) rfl (fun Z hl ok => ?_)
  clear hl
  exact vMo_calls ok r (by rw [hr]; rfl)
theorem vMo_ticks {Z : Cx} {G : Gx} {b : Nat} {XX YY : Nat → Obj} {m : Obj} {v1 : Int32} (ok : OK Z G b cX12_ticks 2 6 RX12 (some .int)) : VO Z G b 2 (fun (r : Int32 × Obj) => QX Z b (qI G b r.1 (mx XX (va_up YY 225 r.2)))) (mx XX (va_up YY 225 m)) 0 [some (.ref (b + 225)), some (.int v1)] [] ((fMo_ticks m v1).bind some) := by
  unfold fMo_ticks
  refine r_aload_n (pc := 0) ok dX12_ticks_0 rfl ?_
  refine r_iconst (pc := 1) ok (0 : Int32) dX12_ticks_1 ci_0 ?_
  refine r_putI (pc := 2) ok cls12 sh_225 (k := 0) rfl (Nat.le_of_ble_eq_true rfl) (fun s_ => mx XX (va_up YY 225 s_)) (pm_r _ _).1 (pm_r _ _).2 rfl rfl rfl dX12_ticks_2 fl_Mo_1 (fun s1 => ?_)
  refine r_iload_n (pc := 5) ok dX12_ticks_5 rfl ?_
  refine r_iconst (pc := 6) ok (1 : Int32) dX12_ticks_6 ci_1 ?_
  refine r_bipush (pc := 7) ok (60 : Int32) dX12_ticks_7 cb_60 ?_
  refine k_I (pc := 9) (fun r2 => r2) (fun r2 => mx XX (va_up YY 225 s1)) (fun r2 hr_ => c_S (n := 3) ok ml_Mo_193 ws_X12_isIn yk_X12_isIn rfl (Nat.le_of_ble_eq_true rfl) (Nat.le_of_ble_eq_true rfl) (tMo_isIn hr_) rfl (Nat.le_of_ble_eq_true rfl) dX12_ticks_9) (fun r2 => ?_)
  refine r_if_ne (pc := 12) ok 17 dX12_ticks_12 rfl (fun _ => ?_) (fun _ => ?_)
  · refine r_iconst (pc := 15) ok (-1 : Int32) dX12_ticks_15 ci_m1 ?_
    exact r_iret (pc := 16) ok dX12_ticks_16 rfl
  · refine r_aload_n (pc := 17) ok dX12_ticks_17 rfl ?_
    refine r_getR (pc := 18) ok cls12 sh_225 (k := 6) rfl (Nat.le_of_ble_eq_true rfl) rfl dX12_ticks_18 fl_Mo_33 ?_
    refine r_bipush (pc := 21) ok (69 : Int32) dX12_ticks_21 cb_69 ?_
    refine r_ialdc (pc := 23) ok sh_227 (j := 2) rfl (i := 69) (by decide +kernel) (mx_r (by decide) (va_up_self _ _ _)) dX12_ticks_23 ?_
    refine r_sipush (pc := 24) ok (1000 : Int32) dX12_ticks_24 cs_1000 ?_
    refine r_icmp_ne (pc := 27) ok 32 dX12_ticks_27 rfl (fun _ => ?_) (fun _ => ?_)
    · refine r_iconst (pc := 30) ok (0 : Int32) dX12_ticks_30 ci_0 ?_
      exact r_iret (pc := 31) ok dX12_ticks_31 rfl
    · refine r_aload_n (pc := 32) ok dX12_ticks_32 rfl ?_
      refine k_V (pc := 33)  (fun r3 => mx XX (va_up YY 225 r3)) (fun r3 hr_ => c_V (n := 0) ok cls12 sh_225 rfl ml_Mo_333 wv_X12_stores yk_X12_stores rfl (Nat.le_of_ble_eq_true rfl) (Nat.le_of_ble_eq_true rfl) (tMo_stores hr_) rfl (Nat.le_of_ble_eq_true rfl) dX12_ticks_33) (fun r3 => ?_)
      refine r_aload_n (pc := 36) ok dX12_ticks_36 rfl ?_
      refine r_iload_n (pc := 37) ok dX12_ticks_37 rfl ?_
      refine k_I (pc := 38) (fun r4 => r4.1) (fun r4 => mx XX (va_up YY 225 r4.2)) (fun r4 hr_ => c_V (n := 1) ok cls12 sh_225 rfl ml_Mo_345 wv_X12_goesOn yk_X12_goesOn rfl (Nat.le_of_ble_eq_true rfl) (Nat.le_of_ble_eq_true rfl) (tMo_goesOn hr_) rfl (Nat.le_of_ble_eq_true rfl) dX12_ticks_38) (fun r4 => ?_)
      exact r_iret (pc := 41) ok dX12_ticks_41 rfl
theorem tMo_ticks {l : Launch} {G : Gx} {b : Nat} {XX YY : Nat → Obj} {m : Obj} {v1 : Int32} {r : Int32 × Obj} (hr : fMo_ticks m v1 = some r) : MetG l G b yX12_ticks cX12_ticks 2 (some .int) 6 [.ref (b + 225), .int v1] (mx XX (va_up YY 225 m)) (qI G b r.1 (mx XX (va_up YY 225 r.2))) := by
  refine met_start [some (.ref (b + 225)), some (.int v1)] (by decide +kernel) (Nat.le_of_ble_eq_true rfl) rfl (fun Z hl ok => ?_)
  clear hl
  exact vMo_ticks ok r (by rw [hr]; rfl)
theorem wMo_undo_L26 {Z : Cx} {G : Gx} {b : Nat} {XX YY : Nat → Obj} (ok : OK Z G b cX12_undo 2 0 RX12 (some .int)) {K : ((Int32 × Obj) ⊕ (Obj)) → Option (Int32 × Obj)} (hc : ∀ (a : Int32 × Obj), VO Z G b 2 (fun (r : Int32 × Obj) => QX Z b (qI G b r.1 (mx XX (va_up YY 225 r.2)))) (mx XX (va_up YY 225 a.2)) 26 [some (.ref (b + 225)), some (.int a.1)] [] (K (.inl a))) (hx : ∀ (e : Obj), VO Z G b 2 (fun (r : Int32 × Obj) => QX Z b (qI G b r.1 (mx XX (va_up YY 225 r.2)))) (mx XX (va_up YY 225 e)) 61 [some (.ref (b + 225)), none] [] (K (.inr e))) : ∀ (a : Int32 × Obj), VO Z G b 2 (fun (r : Int32 × Obj) => QX Z b (qI G b r.1 (mx XX (va_up YY 225 r.2)))) (mx XX (va_up YY 225 a.2)) 26 [some (.ref (b + 225)), some (.int a.1)] [] ((fMo_undo_L26 a).bind K) := by
  intro a
  unfold fMo_undo_L26
  refine r_iload_n (pc := 26) ok dX12_undo_26 rfl ?_
  refine r_bipush (pc := 27) ok (92 : Int32) dX12_undo_27 cb_92 ?_
  refine r_icmp_ge (pc := 29) ok 61 dX12_undo_29 rfl (fun _ => ?_) (fun _ => ?_)
  · refine r_lv (lk_s (lk_n lk_0 _) _) ?_
    exact hx a.2
  · refine r_aload_n (pc := 32) ok dX12_undo_32 rfl ?_
    refine r_getR (pc := 33) ok cls12 sh_225 (k := 6) rfl (Nat.le_of_ble_eq_true rfl) rfl dX12_undo_33 fl_Mo_33 ?_
    refine r_bipush (pc := 36) ok (69 : Int32) dX12_undo_36 cb_69 ?_
    refine r_iload_n (pc := 38) ok dX12_undo_38 rfl ?_
    refine r_iadd (pc := 39) ok dX12_undo_39 ?_
    refine r_aload_n (pc := 40) ok dX12_undo_40 rfl ?_
    refine r_getR (pc := 41) ok cls12 sh_225 (k := 21) rfl (Nat.le_of_ble_eq_true rfl) rfl dX12_undo_41 fl_Mo_50 ?_
    refine r_bipush (pc := 44) ok (92 : Int32) dX12_undo_44 cb_92 ?_
    refine r_aload_n (pc := 46) ok dX12_undo_46 rfl ?_
    refine r_getI (pc := 47) ok cls12 sh_225 (k := 23) rfl (Nat.le_of_ble_eq_true rfl) (mx_r (by decide) (va_up_self _ _ _)) dX12_undo_47 fl_Mo_271 ?_
    refine r_imul (pc := 50) ok dX12_undo_50 ?_
    refine r_iload_n (pc := 51) ok dX12_undo_51 rfl ?_
    refine r_iadd (pc := 52) ok dX12_undo_52 ?_
    refine r_iald (pc := 53) ok sh_232 (j := 7) rfl (mx_r (by decide) (va_up_self _ _ _)) dX12_undo_53 (fun i3 => ?_)
    refine r_iast (pc := 54) ok sh_227 (j := 2) rfl rfl (fun s_ => mx XX (va_up YY 225 s_)) (pm_r _ _).1 (pm_r _ _).2 dX12_undo_54 (fun i4 s5 => ?_)
    refine r_iinc (pc := 55) ok (1 : Int32) dX12_undo_55 ci_1 rfl (Nat.le_of_ble_eq_true rfl) rfl ?_
    refine r_goto (pc := 58) ok 26 dX12_undo_58 rfl ?_
    exact hc ((a.1 + (1 : Int32)), s5)
theorem vMo_undo {Z : Cx} {G : Gx} {b : Nat} {XX YY : Nat → Obj} {m : Obj} (ok : OK Z G b cX12_undo 2 0 RX12 (some .int)) : VO Z G b 2 (fun (r : Int32 × Obj) => QX Z b (qI G b r.1 (mx XX (va_up YY 225 r.2)))) (mx XX (va_up YY 225 m)) 0 [some (.ref (b + 225)), none] [] ((fMo_undo m).bind some) := by
  unfold fMo_undo
  refine r_aload_n (pc := 0) ok dX12_undo_0 rfl ?_
  refine r_iconst (pc := 1) ok (0 : Int32) dX12_undo_1 ci_0 ?_
  refine r_putI (pc := 2) ok cls12 sh_225 (k := 0) rfl (Nat.le_of_ble_eq_true rfl) (fun s_ => mx XX (va_up YY 225 s_)) (pm_r _ _).1 (pm_r _ _).2 rfl rfl rfl dX12_undo_2 fl_Mo_1 (fun s1 => ?_)
  refine r_aload_n (pc := 5) ok dX12_undo_5 rfl ?_
  refine r_getI (pc := 6) ok cls12 sh_225 (k := 23) rfl (Nat.le_of_ble_eq_true rfl) (mx_r (by decide) (va_up_self _ _ _)) dX12_undo_6 fl_Mo_271 ?_
  refine r_if_ne (pc := 9) ok 14 dX12_undo_9 rfl (fun _ => ?_) (fun _ => ?_)
  · refine r_iconst (pc := 12) ok (-1 : Int32) dX12_undo_12 ci_m1 ?_
    exact r_iret (pc := 13) ok dX12_undo_13 rfl
  · refine r_aload_n (pc := 14) ok dX12_undo_14 rfl ?_
    refine r_dup (pc := 15) ok dX12_undo_15 rfl ?_
    refine r_getI (pc := 16) ok cls12 sh_225 (k := 23) rfl (Nat.le_of_ble_eq_true rfl) (mx_r (by decide) (va_up_self _ _ _)) dX12_undo_16 fl_Mo_271 ?_
    refine r_iconst (pc := 19) ok (1 : Int32) dX12_undo_19 ci_1 ?_
    refine r_isub (pc := 20) ok dX12_undo_20 ?_
    refine r_putI (pc := 21) ok cls12 sh_225 (k := 23) rfl (Nat.le_of_ble_eq_true rfl) (fun s_ => mx XX (va_up YY 225 s_)) (pm_r _ _).1 (pm_r _ _).2 rfl rfl rfl dX12_undo_21 fl_Mo_271 (fun s2 => ?_)
    refine r_iconst (pc := 24) ok (0 : Int32) dX12_undo_24 ci_0 ?_
    refine r_istore_n (pc := 25) ok dX12_undo_25 (Nat.le_of_ble_eq_true rfl) rfl ?_
    refine r_iter (P := fun (a26 : Int32 × Obj) o => VO Z G b 2 (fun (r : Int32 × Obj) => QX Z b (qI G b r.1 (mx XX (va_up YY 225 r.2)))) (mx XX (va_up YY 225 a26.2)) 26 [some (.ref (b + 225)), some (.int a26.1)] [] o) (E := fun (e_26 : Obj) o => VO Z G b 2 (fun (r : Int32 × Obj) => QX Z b (qI G b r.1 (mx XX (va_up YY 225 r.2)))) (mx XX (va_up YY 225 e_26)) 61 [some (.ref (b + 225)), none] [] o) (fun _ => r_none) (fun K hc hx => wMo_undo_L26 ok (K := K) hc hx) (fun e6 => ?_) FU ((0 : Int32), s2)
    refine r_aload_n (pc := 61) ok dX12_undo_61 rfl ?_
    refine r_getI (pc := 62) ok cls12 sh_225 (k := 23) rfl (Nat.le_of_ble_eq_true rfl) (mx_r (by decide) (va_up_self _ _ _)) dX12_undo_62 fl_Mo_271 ?_
    exact r_iret (pc := 65) ok dX12_undo_65 rfl
theorem tMo_undo {l : Launch} {G : Gx} {b : Nat} {XX YY : Nat → Obj} {m : Obj} {r : Int32 × Obj} (hr : fMo_undo m = some r) : MetG l G b yX12_undo cX12_undo 2 (some .int) 0 [.ref (b + 225)] (mx XX (va_up YY 225 m)) (qI G b r.1 (mx XX (va_up YY 225 r.2))) := by
  refine met_start [some (.ref (b + 225)), none] (by decide +kernel) (Nat.le_of_ble_eq_true rfl) rfl (fun Z hl ok => ?_)
  clear hl
  exact vMo_undo ok r (by rw [hr]; rfl)
theorem wMo_tries_L2 {Z : Cx} {G : Gx} {b : Nat} {XX YY : Nat → Obj} (ok : OK Z G b cX12_tries 2 0 RX12 none) {K : ((Int32 × Obj) ⊕ (Obj)) → Option (Obj)} (hc : ∀ (a : Int32 × Obj), VO Z G b 2 (fun (r : Obj) => QX Z b (qV G b (mx XX (va_up YY 225 r)))) (mx XX (va_up YY 225 a.2)) 2 [some (.ref (b + 225)), some (.int a.1)] [] (K (.inl a))) (hx : ∀ (e : Obj), VO Z G b 2 (fun (r : Obj) => QX Z b (qV G b (mx XX (va_up YY 225 r)))) (mx XX (va_up YY 225 e)) 29 [none, none] [] (K (.inr e))) : ∀ (a : Int32 × Obj), VO Z G b 2 (fun (r : Obj) => QX Z b (qV G b (mx XX (va_up YY 225 r)))) (mx XX (va_up YY 225 a.2)) 2 [some (.ref (b + 225)), some (.int a.1)] [] ((fMo_tries_L2 a).bind K) := by
  intro a
  unfold fMo_tries_L2
  refine r_iload_n (pc := 2) ok dX12_tries_2 rfl ?_
  refine r_bipush (pc := 3) ok (92 : Int32) dX12_tries_3 cb_92 ?_
  refine r_icmp_ge (pc := 5) ok 29 dX12_tries_5 rfl (fun _ => ?_) (fun _ => ?_)
  · refine r_lv (lk_n (lk_n lk_0 _) _) ?_
    exact hx a.2
  · refine r_aload_n (pc := 8) ok dX12_tries_8 rfl ?_
    refine r_getR (pc := 9) ok cls12 sh_225 (k := 22) rfl (Nat.le_of_ble_eq_true rfl) rfl dX12_tries_9 fl_Mo_53 ?_
    refine r_iload_n (pc := 12) ok dX12_tries_12 rfl ?_
    refine r_aload_n (pc := 13) ok dX12_tries_13 rfl ?_
    refine r_getR (pc := 14) ok cls12 sh_225 (k := 6) rfl (Nat.le_of_ble_eq_true rfl) rfl dX12_tries_14 fl_Mo_33 ?_
    refine r_bipush (pc := 17) ok (69 : Int32) dX12_tries_17 cb_69 ?_
    refine r_iload_n (pc := 19) ok dX12_tries_19 rfl ?_
    refine r_iadd (pc := 20) ok dX12_tries_20 ?_
    refine r_iald (pc := 21) ok sh_227 (j := 2) rfl (mx_r (by decide) (va_up_self _ _ _)) dX12_tries_21 (fun i1 => ?_)
    refine r_iast (pc := 22) ok sh_233 (j := 8) rfl rfl (fun s_ => mx XX (va_up YY 225 s_)) (pm_r _ _).1 (pm_r _ _).2 dX12_tries_22 (fun i2 s3 => ?_)
    refine r_iinc (pc := 23) ok (1 : Int32) dX12_tries_23 ci_1 rfl (Nat.le_of_ble_eq_true rfl) rfl ?_
    refine r_goto (pc := 26) ok 2 dX12_tries_26 rfl ?_
    exact hc ((a.1 + (1 : Int32)), s3)
theorem vMo_tries {Z : Cx} {G : Gx} {b : Nat} {XX YY : Nat → Obj} {m : Obj} (ok : OK Z G b cX12_tries 2 0 RX12 none) : VO Z G b 2 (fun (r : Obj) => QX Z b (qV G b (mx XX (va_up YY 225 r)))) (mx XX (va_up YY 225 m)) 0 [some (.ref (b + 225)), none] [] ((fMo_tries m).bind some) := by
  unfold fMo_tries
  refine r_iconst (pc := 0) ok (0 : Int32) dX12_tries_0 ci_0 ?_
  refine r_istore_n (pc := 1) ok dX12_tries_1 (Nat.le_of_ble_eq_true rfl) rfl ?_
  refine r_iter (P := fun (a2 : Int32 × Obj) o => VO Z G b 2 (fun (r : Obj) => QX Z b (qV G b (mx XX (va_up YY 225 r)))) (mx XX (va_up YY 225 a2.2)) 2 [some (.ref (b + 225)), some (.int a2.1)] [] o) (E := fun (e_2 : Obj) o => VO Z G b 2 (fun (r : Obj) => QX Z b (qV G b (mx XX (va_up YY 225 r)))) (mx XX (va_up YY 225 e_2)) 29 [none, none] [] o) (fun _ => r_none) (fun K hc hx => wMo_tries_L2 ok (K := K) hc hx) (fun e4 => ?_) FU ((0 : Int32), m)
  exact r_vret (pc := 29) ok dX12_tries_29 rfl
theorem tMo_tries {l : Launch} {G : Gx} {b : Nat} {XX YY : Nat → Obj} {m : Obj} {r : Obj} (hr : fMo_tries m = some r) : MetG l G b yX12_tries cX12_tries 2 none 0 [.ref (b + 225)] (mx XX (va_up YY 225 m)) (qV G b (mx XX (va_up YY 225 r))) := by
  refine met_start [some (.ref (b + 225)), none] (by decide +kernel) (Nat.le_of_ble_eq_true rfl) rfl (fun Z hl ok => ?_)
  clear hl
  exact vMo_tries ok r (by rw [hr]; rfl)
theorem wMo_brings_L2 {Z : Cx} {G : Gx} {b : Nat} {XX YY : Nat → Obj} (ok : OK Z G b cX12_brings 2 0 RX12 none) {K : ((Int32 × Obj) ⊕ (Obj)) → Option (Obj)} (hc : ∀ (a : Int32 × Obj), VO Z G b 2 (fun (r : Obj) => QX Z b (qV G b (mx XX (va_up YY 225 r)))) (mx XX (va_up YY 225 a.2)) 2 [some (.ref (b + 225)), some (.int a.1)] [] (K (.inl a))) (hx : ∀ (e : Obj), VO Z G b 2 (fun (r : Obj) => QX Z b (qV G b (mx XX (va_up YY 225 r)))) (mx XX (va_up YY 225 e)) 29 [none, none] [] (K (.inr e))) : ∀ (a : Int32 × Obj), VO Z G b 2 (fun (r : Obj) => QX Z b (qV G b (mx XX (va_up YY 225 r)))) (mx XX (va_up YY 225 a.2)) 2 [some (.ref (b + 225)), some (.int a.1)] [] ((fMo_brings_L2 a).bind K) := by
  intro a
  unfold fMo_brings_L2
  refine r_iload_n (pc := 2) ok dX12_brings_2 rfl ?_
  refine r_bipush (pc := 3) ok (92 : Int32) dX12_brings_3 cb_92 ?_
  refine r_icmp_ge (pc := 5) ok 29 dX12_brings_5 rfl (fun _ => ?_) (fun _ => ?_)
  · refine r_lv (lk_n (lk_n lk_0 _) _) ?_
    exact hx a.2
  · refine r_aload_n (pc := 8) ok dX12_brings_8 rfl ?_
    refine r_getR (pc := 9) ok cls12 sh_225 (k := 6) rfl (Nat.le_of_ble_eq_true rfl) rfl dX12_brings_9 fl_Mo_33 ?_
    refine r_bipush (pc := 12) ok (69 : Int32) dX12_brings_12 cb_69 ?_
    refine r_iload_n (pc := 14) ok dX12_brings_14 rfl ?_
    refine r_iadd (pc := 15) ok dX12_brings_15 ?_
    refine r_aload_n (pc := 16) ok dX12_brings_16 rfl ?_
    refine r_getR (pc := 17) ok cls12 sh_225 (k := 22) rfl (Nat.le_of_ble_eq_true rfl) rfl dX12_brings_17 fl_Mo_53 ?_
    refine r_iload_n (pc := 20) ok dX12_brings_20 rfl ?_
    refine r_iald (pc := 21) ok sh_233 (j := 8) rfl (mx_r (by decide) (va_up_self _ _ _)) dX12_brings_21 (fun i1 => ?_)
    refine r_iast (pc := 22) ok sh_227 (j := 2) rfl rfl (fun s_ => mx XX (va_up YY 225 s_)) (pm_r _ _).1 (pm_r _ _).2 dX12_brings_22 (fun i2 s3 => ?_)
    refine r_iinc (pc := 23) ok (1 : Int32) dX12_brings_23 ci_1 rfl (Nat.le_of_ble_eq_true rfl) rfl ?_
    refine r_goto (pc := 26) ok 2 dX12_brings_26 rfl ?_
    exact hc ((a.1 + (1 : Int32)), s3)
theorem vMo_brings {Z : Cx} {G : Gx} {b : Nat} {XX YY : Nat → Obj} {m : Obj} (ok : OK Z G b cX12_brings 2 0 RX12 none) : VO Z G b 2 (fun (r : Obj) => QX Z b (qV G b (mx XX (va_up YY 225 r)))) (mx XX (va_up YY 225 m)) 0 [some (.ref (b + 225)), none] [] ((fMo_brings m).bind some) := by
  unfold fMo_brings
  refine r_iconst (pc := 0) ok (0 : Int32) dX12_brings_0 ci_0 ?_
  refine r_istore_n (pc := 1) ok dX12_brings_1 (Nat.le_of_ble_eq_true rfl) rfl ?_
  refine r_iter (P := fun (a2 : Int32 × Obj) o => VO Z G b 2 (fun (r : Obj) => QX Z b (qV G b (mx XX (va_up YY 225 r)))) (mx XX (va_up YY 225 a2.2)) 2 [some (.ref (b + 225)), some (.int a2.1)] [] o) (E := fun (e_2 : Obj) o => VO Z G b 2 (fun (r : Obj) => QX Z b (qV G b (mx XX (va_up YY 225 r)))) (mx XX (va_up YY 225 e_2)) 29 [none, none] [] o) (fun _ => r_none) (fun K hc hx => wMo_brings_L2 ok (K := K) hc hx) (fun e4 => ?_) FU ((0 : Int32), m)
  exact r_vret (pc := 29) ok dX12_brings_29 rfl
theorem tMo_brings {l : Launch} {G : Gx} {b : Nat} {XX YY : Nat → Obj} {m : Obj} {r : Obj} (hr : fMo_brings m = some r) : MetG l G b yX12_brings cX12_brings 2 none 0 [.ref (b + 225)] (mx XX (va_up YY 225 m)) (qV G b (mx XX (va_up YY 225 r))) := by
  refine met_start [some (.ref (b + 225)), none] (by decide +kernel) (Nat.le_of_ble_eq_true rfl) rfl (fun Z hl ok => ?_)
  clear hl
  exact vMo_brings ok r (by rw [hr]; rfl)
theorem vMo_answer {Z : Cx} {G : Gx} {b : Nat} {XX YY : Nat → Obj} {m : Obj} {v1 : Int32} (ok : OK Z G b cX12_answer 2 4 RX12 (some .int)) : VO Z G b 2 (fun (r : Int32 × Obj) => QX Z b (qI G b r.1 (mx XX (va_up YY 225 r.2)))) (mx XX (va_up YY 225 m)) 0 [some (.ref (b + 225)), some (.int v1)] [] ((fMo_answer m v1).bind some) := by
  unfold fMo_answer
  refine r_aload_n (pc := 0) ok dX12_answer_0 rfl ?_
  refine r_iconst (pc := 1) ok (0 : Int32) dX12_answer_1 ci_0 ?_
  refine r_putI (pc := 2) ok cls12 sh_225 (k := 0) rfl (Nat.le_of_ble_eq_true rfl) (fun s_ => mx XX (va_up YY 225 s_)) (pm_r _ _).1 (pm_r _ _).2 rfl rfl rfl dX12_answer_2 fl_Mo_1 (fun s1 => ?_)
  refine r_aload_n (pc := 5) ok dX12_answer_5 rfl ?_
  refine r_iload_n (pc := 6) ok dX12_answer_6 rfl ?_
  refine k_I (pc := 7) (fun r2 => r2) (fun r2 => mx XX (va_up YY 225 s1)) (fun r2 hr_ => c_V (n := 1) ok cls12 sh_225 rfl ml_Mo_290 wv_X12_isPerson yk_X12_isPerson rfl (Nat.le_of_ble_eq_true rfl) (Nat.le_of_ble_eq_true rfl) (tMo_isPerson (va_up_self _ _ _) hr_) rfl (Nat.le_of_ble_eq_true rfl) dX12_answer_7) (fun r2 => ?_)
  refine r_if_eq (pc := 10) ok 45 dX12_answer_10 rfl (fun _ => ?_) (fun _ => ?_)
  · refine r_iconst (pc := 45) ok (-1 : Int32) dX12_answer_45 ci_m1 ?_
    exact r_iret (pc := 46) ok dX12_answer_46 rfl
  · refine r_aload_n (pc := 13) ok dX12_answer_13 rfl ?_
    refine r_getR (pc := 14) ok cls12 sh_225 (k := 6) rfl (Nat.le_of_ble_eq_true rfl) rfl dX12_answer_14 fl_Mo_33 ?_
    refine r_bipush (pc := 17) ok (73 : Int32) dX12_answer_17 cb_73 ?_
    refine r_iload_n (pc := 19) ok dX12_answer_19 rfl ?_
    refine r_iadd (pc := 20) ok dX12_answer_20 ?_
    refine r_iald (pc := 21) ok sh_227 (j := 2) rfl (mx_r (by decide) (va_up_self _ _ _)) dX12_answer_21 (fun i3 => ?_)
    refine r_iconst (pc := 22) ok (1 : Int32) dX12_answer_22 ci_1 ?_
    refine r_icmp_ne (pc := 23) ok 45 dX12_answer_23 rfl (fun _ => ?_) (fun _ => ?_)
    · refine r_aload_n (pc := 26) ok dX12_answer_26 rfl ?_
      refine r_aload_n (pc := 27) ok dX12_answer_27 rfl ?_
      refine r_getR (pc := 28) ok cls12 sh_225 (k := 6) rfl (Nat.le_of_ble_eq_true rfl) rfl dX12_answer_28 fl_Mo_33 ?_
      refine r_bipush (pc := 31) ok (97 : Int32) dX12_answer_31 cb_97 ?_
      refine r_iload_n (pc := 33) ok dX12_answer_33 rfl ?_
      refine r_iadd (pc := 34) ok dX12_answer_34 ?_
      refine r_iald (pc := 35) ok sh_227 (j := 2) rfl (mx_r (by decide) (va_up_self _ _ _)) dX12_answer_35 (fun i4 => ?_)
      refine r_iconst (pc := 36) ok (1 : Int32) dX12_answer_36 ci_1 ?_
      refine r_isub (pc := 37) ok dX12_answer_37 ?_
      refine r_iconst (pc := 38) ok (0 : Int32) dX12_answer_38 ci_0 ?_
      refine k_I (pc := 39) (fun r5 => r5) (fun r5 => mx XX (va_up YY 225 s1)) (fun r5 hr_ => c_V (n := 2) ok cls12 sh_225 rfl ml_Mo_320 wv_X12_answers yk_X12_answers rfl (Nat.le_of_ble_eq_true rfl) (Nat.le_of_ble_eq_true rfl) (tMo_answers (va_up_self _ _ _) hr_) rfl (Nat.le_of_ble_eq_true rfl) dX12_answer_39) (fun r5 => ?_)
      refine r_goto (pc := 42) ok 46 dX12_answer_42 rfl ?_
      exact r_iret (pc := 46) ok dX12_answer_46 rfl
    · refine r_iconst (pc := 45) ok (-1 : Int32) dX12_answer_45 ci_m1 ?_
      exact r_iret (pc := 46) ok dX12_answer_46 rfl
theorem tMo_answer {l : Launch} {G : Gx} {b : Nat} {XX YY : Nat → Obj} {m : Obj} {v1 : Int32} {r : Int32 × Obj} (hr : fMo_answer m v1 = some r) : MetG l G b yX12_answer cX12_answer 2 (some .int) 4 [.ref (b + 225), .int v1] (mx XX (va_up YY 225 m)) (qI G b r.1 (mx XX (va_up YY 225 r.2))) := by
  refine met_start [some (.ref (b + 225)), some (.int v1)] (by decide +kernel) (Nat.le_of_ble_eq_true rfl) rfl (fun Z hl ok => ?_)
  clear hl
  exact vMo_answer ok r (by rw [hr]; rfl)
theorem wMo_areAnswered_L2 {Z : Cx} {G : Gx} {b : Nat} {XX YY : Nat → Obj} {v1 : Int32} (ok : OK Z G b cX12_areAnswered 6 3 RX12 (some .boolean)) {K : ((Int32 × Obj) ⊕ (Obj)) → Option (Int32 × Obj)} (hc : ∀ (a : Int32 × Obj), VO Z G b 6 (fun (r : Int32 × Obj) => QX Z b (qI G b r.1 (mx XX (va_up YY 225 r.2)))) (mx XX (va_up YY 225 a.2)) 2 [some (.ref (b + 225)), some (.int v1), some (.int a.1), none, none, none] [] (K (.inl a))) (hx : ∀ (e : Obj), VO Z G b 6 (fun (r : Int32 × Obj) => QX Z b (qI G b r.1 (mx XX (va_up YY 225 r.2)))) (mx XX (va_up YY 225 e)) 30 [some (.ref (b + 225)), some (.int v1), none, none, none, none] [] (K (.inr e))) : ∀ (a : Int32 × Obj), VO Z G b 6 (fun (r : Int32 × Obj) => QX Z b (qI G b r.1 (mx XX (va_up YY 225 r.2)))) (mx XX (va_up YY 225 a.2)) 2 [some (.ref (b + 225)), some (.int v1), some (.int a.1), none, none, none] [] ((fMo_areAnswered_L2 a).bind K) := by
  intro a
  unfold fMo_areAnswered_L2
  refine r_iload_n (pc := 2) ok dX12_areAnswered_2 rfl ?_
  refine r_sipush (pc := 3) ok (256 : Int32) dX12_areAnswered_3 cs_256 ?_
  refine r_icmp_ge (pc := 6) ok 30 dX12_areAnswered_6 rfl (fun _ => ?_) (fun _ => ?_)
  · refine r_lv (lk_s (lk_s (lk_n (lk_n (lk_n (lk_n lk_0 _) _) _) _) _) _) ?_
    exact hx a.2
  · refine r_aload_n (pc := 9) ok dX12_areAnswered_9 rfl ?_
    refine r_getR (pc := 10) ok cls12 sh_225 (k := 26) rfl (Nat.le_of_ble_eq_true rfl) rfl dX12_areAnswered_10 fl_Mo_56 ?_
    refine r_iload_n (pc := 13) ok dX12_areAnswered_13 rfl ?_
    refine r_iload_n (pc := 14) ok dX12_areAnswered_14 rfl ?_
    refine r_if_ne (pc := 15) ok 22 dX12_areAnswered_15 rfl (fun _ => ?_) (fun _ => ?_)
    · refine r_iconst (pc := 18) ok (1 : Int32) dX12_areAnswered_18 ci_1 ?_
      refine r_goto (pc := 19) ok 23 dX12_areAnswered_19 rfl ?_
      refine r_zast (pc := 23) ok sh_234 (j := 9) rfl za_1 (fun s_ => mx XX (va_up YY 225 s_)) (pm_r _ _).1 (pm_r _ _).2 dX12_areAnswered_23 (fun i1 s2 => ?_)
      refine r_iinc (pc := 24) ok (1 : Int32) dX12_areAnswered_24 ci_1 rfl (Nat.le_of_ble_eq_true rfl) rfl ?_
      refine r_goto (pc := 27) ok 2 dX12_areAnswered_27 rfl ?_
      exact hc ((a.1 + (1 : Int32)), s2)
    · refine r_iconst (pc := 22) ok (0 : Int32) dX12_areAnswered_22 ci_0 ?_
      refine r_zast (pc := 23) ok sh_234 (j := 9) rfl za_0 (fun s_ => mx XX (va_up YY 225 s_)) (pm_r _ _).1 (pm_r _ _).2 dX12_areAnswered_23 (fun i3 s4 => ?_)
      refine r_iinc (pc := 24) ok (1 : Int32) dX12_areAnswered_24 ci_1 rfl (Nat.le_of_ble_eq_true rfl) rfl ?_
      refine r_goto (pc := 27) ok 2 dX12_areAnswered_27 rfl ?_
      exact hc ((a.1 + (1 : Int32)), s4)
theorem wMo_areAnswered_L67 {Z : Cx} {G : Gx} {b : Nat} {XX YY : Nat → Obj} {m : Obj} {v1 : Int32} {v2 : Int32} {v3 : Int32} (ok : OK Z G b cX12_areAnswered 6 3 RX12 (some .boolean)) {K : ((Int32 × Int32) ⊕ (Int32)) → Option (Int32 × Obj)} (hc : ∀ (a : Int32 × Int32), VO Z G b 6 (fun (r : Int32 × Obj) => QX Z b (qI G b r.1 (mx XX (va_up YY 225 r.2)))) (mx XX (va_up YY 225 m)) 67 [some (.ref (b + 225)), some (.int v1), some (.int v2), some (.int v3), some (.int a.1), some (.int a.2)] [] (K (.inl a))) (hx : ∀ (e : Int32), VO Z G b 6 (fun (r : Int32 × Obj) => QX Z b (qI G b r.1 (mx XX (va_up YY 225 r.2)))) (mx XX (va_up YY 225 m)) 139 [some (.ref (b + 225)), some (.int v1), some (.int v2), some (.int v3), some (.int e), none] [] (K (.inr e))) : ∀ (a : Int32 × Int32), VO Z G b 6 (fun (r : Int32 × Obj) => QX Z b (qI G b r.1 (mx XX (va_up YY 225 r.2)))) (mx XX (va_up YY 225 m)) 67 [some (.ref (b + 225)), some (.int v1), some (.int v2), some (.int v3), some (.int a.1), some (.int a.2)] [] ((fMo_areAnswered_L67 m v2 v3 a).bind K) := by
  intro a
  unfold fMo_areAnswered_L67
  refine r_iload (pc := 67) ok dX12_areAnswered_67 rfl ?_
  refine r_aload_n (pc := 69) ok dX12_areAnswered_69 rfl ?_
  refine r_getR (pc := 70) ok cls12 sh_225 (k := 6) rfl (Nat.le_of_ble_eq_true rfl) rfl dX12_areAnswered_70 fl_Mo_33 ?_
  refine r_iconst (pc := 73) ok (1 : Int32) dX12_areAnswered_73 ci_1 ?_
  refine r_ialdc (pc := 74) ok sh_227 (j := 2) rfl (i := 1) (by decide +kernel) (mx_r (by decide) (va_up_self _ _ _)) dX12_areAnswered_74 ?_
  refine r_icmp_ge (pc := 75) ok 139 dX12_areAnswered_75 rfl (fun _ => ?_) (fun _ => ?_)
  · refine r_lv (lk_s (lk_s (lk_s (lk_s (lk_s (lk_n lk_0 _) _) _) _) _) _) ?_
    exact hx a.1
  · refine r_iload (pc := 78) ok dX12_areAnswered_78 rfl ?_
    refine r_if_ne (pc := 80) ok 139 dX12_areAnswered_80 rfl (fun _ => ?_) (fun _ => ?_)
    · refine r_iload_n (pc := 83) ok dX12_areAnswered_83 rfl ?_
      refine r_iload (pc := 84) ok dX12_areAnswered_84 rfl ?_
      refine k_I (pc := 86) (fun r7 => r7) (fun r7 => mx XX (va_up YY 225 m)) (fun r7 hr_ => c_S (n := 2) ok ml_Mo_218 ws_X12_bitOf yk_X12_bitOf rfl (Nat.le_of_ble_eq_true rfl) (Nat.le_of_ble_eq_true rfl) (tMo_bitOf hr_) rfl (Nat.le_of_ble_eq_true rfl) dX12_areAnswered_86) (fun r7 => ?_)
      refine r_if_eq (pc := 89) ok 130 dX12_areAnswered_89 rfl (fun _ => ?_) (fun _ => ?_)
      · refine r_iconst (pc := 130) ok (0 : Int32) dX12_areAnswered_130 ci_0 ?_
        refine r_istore (pc := 131) ok dX12_areAnswered_131 (Nat.le_of_ble_eq_true rfl) rfl ?_
        refine r_iinc (pc := 133) ok (1 : Int32) dX12_areAnswered_133 ci_1 rfl (Nat.le_of_ble_eq_true rfl) rfl ?_
        refine r_goto (pc := 136) ok 67 dX12_areAnswered_136 rfl ?_
        exact hc ((0 : Int32), (a.2 + (1 : Int32)))
      · refine r_aload_n (pc := 92) ok dX12_areAnswered_92 rfl ?_
        refine r_iload (pc := 93) ok dX12_areAnswered_93 rfl ?_
        refine r_aload_n (pc := 95) ok dX12_areAnswered_95 rfl ?_
        refine r_getR (pc := 96) ok cls12 sh_225 (k := 6) rfl (Nat.le_of_ble_eq_true rfl) rfl dX12_areAnswered_96 fl_Mo_33 ?_
        refine r_bipush (pc := 99) ok (97 : Int32) dX12_areAnswered_99 cb_97 ?_
        refine r_iload_n (pc := 101) ok dX12_areAnswered_101 rfl ?_
        refine r_iadd (pc := 102) ok dX12_areAnswered_102 ?_
        refine r_iald (pc := 103) ok sh_227 (j := 2) rfl (mx_r (by decide) (va_up_self _ _ _)) dX12_areAnswered_103 (fun i8 => ?_)
        refine r_iconst (pc := 104) ok (1 : Int32) dX12_areAnswered_104 ci_1 ?_
        refine r_isub (pc := 105) ok dX12_areAnswered_105 ?_
        refine k_I (pc := 106) (fun r9 => r9) (fun r9 => mx XX (va_up YY 225 m)) (fun r9 hr_ => c_V (n := 2) ok cls12 sh_225 rfl ml_Mo_307 wv_X12_canAnswer yk_X12_canAnswer rfl (Nat.le_of_ble_eq_true rfl) (Nat.le_of_ble_eq_true rfl) (tMo_canAnswer (va_up_self _ _ _) hr_) rfl (Nat.le_of_ble_eq_true rfl) dX12_areAnswered_106) (fun r9 => ?_)
        refine r_if_eq (pc := 109) ok 130 dX12_areAnswered_109 rfl (fun _ => ?_) (fun _ => ?_)
        · refine r_iconst (pc := 130) ok (0 : Int32) dX12_areAnswered_130 ci_0 ?_
          refine r_istore (pc := 131) ok dX12_areAnswered_131 (Nat.le_of_ble_eq_true rfl) rfl ?_
          refine r_iinc (pc := 133) ok (1 : Int32) dX12_areAnswered_133 ci_1 rfl (Nat.le_of_ble_eq_true rfl) rfl ?_
          refine r_goto (pc := 136) ok 67 dX12_areAnswered_136 rfl ?_
          exact hc ((0 : Int32), (a.2 + (1 : Int32)))
        · refine r_aload_n (pc := 112) ok dX12_areAnswered_112 rfl ?_
          refine r_getR (pc := 113) ok cls12 sh_225 (k := 26) rfl (Nat.le_of_ble_eq_true rfl) rfl dX12_areAnswered_113 fl_Mo_56 ?_
          refine r_iload_n (pc := 116) ok dX12_areAnswered_116 rfl ?_
          refine r_iconst (pc := 117) ok (1 : Int32) dX12_areAnswered_117 ci_1 ?_
          refine r_iload (pc := 118) ok dX12_areAnswered_118 rfl ?_
          refine r_ishl (pc := 120) ok dX12_areAnswered_120 ?_
          refine r_ixor (pc := 121) ok dX12_areAnswered_121 ?_
          refine r_zald (pc := 122) ok sh_234 (j := 9) rfl (mx_r (by decide) (va_up_self _ _ _)) dX12_areAnswered_122 (fun i10 => ?_)
          refine r_if_eq (pc := 123) ok 130 dX12_areAnswered_123 rfl (fun _ => ?_) (fun _ => ?_)
          · refine r_iconst (pc := 130) ok (0 : Int32) dX12_areAnswered_130 ci_0 ?_
            refine r_istore (pc := 131) ok dX12_areAnswered_131 (Nat.le_of_ble_eq_true rfl) rfl ?_
            refine r_iinc (pc := 133) ok (1 : Int32) dX12_areAnswered_133 ci_1 rfl (Nat.le_of_ble_eq_true rfl) rfl ?_
            refine r_goto (pc := 136) ok 67 dX12_areAnswered_136 rfl ?_
            exact hc ((0 : Int32), (a.2 + (1 : Int32)))
          · refine r_iconst (pc := 126) ok (1 : Int32) dX12_areAnswered_126 ci_1 ?_
            refine r_goto (pc := 127) ok 131 dX12_areAnswered_127 rfl ?_
            refine r_istore (pc := 131) ok dX12_areAnswered_131 (Nat.le_of_ble_eq_true rfl) rfl ?_
            refine r_iinc (pc := 133) ok (1 : Int32) dX12_areAnswered_133 ci_1 rfl (Nat.le_of_ble_eq_true rfl) rfl ?_
            refine r_goto (pc := 136) ok 67 dX12_areAnswered_136 rfl ?_
            exact hc ((1 : Int32), (a.2 + (1 : Int32)))
    · refine r_lv (lk_s (lk_s (lk_s (lk_s (lk_s (lk_n lk_0 _) _) _) _) _) _) ?_
      exact hx a.1
theorem wMo_areAnswered_L57 {Z : Cx} {G : Gx} {b : Nat} {XX YY : Nat → Obj} {v1 : Int32} {v2 : Int32} (ok : OK Z G b cX12_areAnswered 6 3 RX12 (some .boolean)) {K : ((Int32 × Obj) ⊕ (Obj)) → Option (Int32 × Obj)} (hc : ∀ (a : Int32 × Obj), VO Z G b 6 (fun (r : Int32 × Obj) => QX Z b (qI G b r.1 (mx XX (va_up YY 225 r.2)))) (mx XX (va_up YY 225 a.2)) 57 [some (.ref (b + 225)), some (.int v1), some (.int v2), some (.int a.1), none, none] [] (K (.inl a))) (hx : ∀ (e : Obj), VO Z G b 6 (fun (r : Int32 × Obj) => QX Z b (qI G b r.1 (mx XX (va_up YY 225 r.2)))) (mx XX (va_up YY 225 e)) 153 [some (.ref (b + 225)), some (.int v1), some (.int v2), none, none, none] [] (K (.inr e))) : ∀ (a : Int32 × Obj), VO Z G b 6 (fun (r : Int32 × Obj) => QX Z b (qI G b r.1 (mx XX (va_up YY 225 r.2)))) (mx XX (va_up YY 225 a.2)) 57 [some (.ref (b + 225)), some (.int v1), some (.int v2), some (.int a.1), none, none] [] ((fMo_areAnswered_L57 v2 a).bind K) := by
  intro a
  unfold fMo_areAnswered_L57
  refine r_iload_n (pc := 57) ok dX12_areAnswered_57 rfl ?_
  refine r_if_lt (pc := 58) ok 153 dX12_areAnswered_58 rfl (fun _ => ?_) (fun _ => ?_)
  · refine r_lv (lk_s (lk_s (lk_s (lk_n (lk_n (lk_n lk_0 _) _) _) _) _) _) ?_
    exact hx a.2
  · refine r_iconst (pc := 61) ok (0 : Int32) dX12_areAnswered_61 ci_0 ?_
    refine r_istore (pc := 62) ok dX12_areAnswered_62 (Nat.le_of_ble_eq_true rfl) rfl ?_
    refine r_iconst (pc := 64) ok (0 : Int32) dX12_areAnswered_64 ci_0 ?_
    refine r_istore (pc := 65) ok dX12_areAnswered_65 (Nat.le_of_ble_eq_true rfl) rfl ?_
    refine r_iter (P := fun (a67 : Int32 × Int32) o => VO Z G b 6 (fun (r : Int32 × Obj) => QX Z b (qI G b r.1 (mx XX (va_up YY 225 r.2)))) (mx XX (va_up YY 225 a.2)) 67 [some (.ref (b + 225)), some (.int v1), some (.int v2), some (.int a.1), some (.int a67.1), some (.int a67.2)] [] o) (E := fun (e_67 : Int32) o => VO Z G b 6 (fun (r : Int32 × Obj) => QX Z b (qI G b r.1 (mx XX (va_up YY 225 r.2)))) (mx XX (va_up YY 225 a.2)) 139 [some (.ref (b + 225)), some (.int v1), some (.int v2), some (.int a.1), some (.int e_67), none] [] o) (fun _ => r_none) (fun K hc hx => wMo_areAnswered_L67 ok (K := K) hc hx) (fun e11 => ?_) FU ((0 : Int32), (0 : Int32))
    refine r_aload_n (pc := 139) ok dX12_areAnswered_139 rfl ?_
    refine r_getR (pc := 140) ok cls12 sh_225 (k := 26) rfl (Nat.le_of_ble_eq_true rfl) rfl dX12_areAnswered_140 fl_Mo_56 ?_
    refine r_iload_n (pc := 143) ok dX12_areAnswered_143 rfl ?_
    refine r_iload (pc := 144) ok dX12_areAnswered_144 rfl ?_
    refine r_zast (pc := 146) ok sh_234 (j := 9) rfl rfl (fun s_ => mx XX (va_up YY 225 s_)) (pm_r _ _).1 (pm_r _ _).2 dX12_areAnswered_146 (fun i12 s13 => ?_)
    refine r_iinc (pc := 147) ok (-1 : Int32) dX12_areAnswered_147 ci_m1 rfl (Nat.le_of_ble_eq_true rfl) rfl ?_
    refine r_goto (pc := 150) ok 57 dX12_areAnswered_150 rfl ?_
    refine r_lv (lk_s (lk_s (lk_s (lk_s (lk_n (lk_n lk_0 _) _) _) _) _) _) ?_
    exact hc ((a.1 + (-1 : Int32)), s13)
theorem wMo_areAnswered_L32 {Z : Cx} {G : Gx} {b : Nat} {XX YY : Nat → Obj} {v1 : Int32} (ok : OK Z G b cX12_areAnswered 6 3 RX12 (some .boolean)) {K : ((Int32 × Obj) ⊕ (Obj)) → Option (Int32 × Obj)} (hc : ∀ (a : Int32 × Obj), VO Z G b 6 (fun (r : Int32 × Obj) => QX Z b (qI G b r.1 (mx XX (va_up YY 225 r.2)))) (mx XX (va_up YY 225 a.2)) 32 [some (.ref (b + 225)), some (.int v1), some (.int a.1), none, none, none] [] (K (.inl a))) (hx : ∀ (e : Obj), VO Z G b 6 (fun (r : Int32 × Obj) => QX Z b (qI G b r.1 (mx XX (va_up YY 225 r.2)))) (mx XX (va_up YY 225 e)) 159 [some (.ref (b + 225)), none, none, none, none, none] [] (K (.inr e))) : ∀ (a : Int32 × Obj), VO Z G b 6 (fun (r : Int32 × Obj) => QX Z b (qI G b r.1 (mx XX (va_up YY 225 r.2)))) (mx XX (va_up YY 225 a.2)) 32 [some (.ref (b + 225)), some (.int v1), some (.int a.1), none, none, none] [] ((fMo_areAnswered_L32 v1 a).bind K) := by
  intro a
  unfold fMo_areAnswered_L32
  refine r_iload_n (pc := 32) ok dX12_areAnswered_32 rfl ?_
  refine r_aload_n (pc := 33) ok dX12_areAnswered_33 rfl ?_
  refine r_getR (pc := 34) ok cls12 sh_225 (k := 6) rfl (Nat.le_of_ble_eq_true rfl) rfl dX12_areAnswered_34 fl_Mo_33 ?_
  refine r_iconst (pc := 37) ok (1 : Int32) dX12_areAnswered_37 ci_1 ?_
  refine r_ialdc (pc := 38) ok sh_227 (j := 2) rfl (i := 1) (by decide +kernel) (mx_r (by decide) (va_up_self _ _ _)) dX12_areAnswered_38 ?_
  refine r_icmp_ge (pc := 39) ok 159 dX12_areAnswered_39 rfl (fun _ => ?_) (fun _ => ?_)
  · refine r_lv (lk_s (lk_n (lk_n (lk_n (lk_n (lk_n lk_0 _) _) _) _) _) _) ?_
    exact hx a.2
  · refine r_iload_n (pc := 42) ok dX12_areAnswered_42 rfl ?_
    refine r_iload_n (pc := 43) ok dX12_areAnswered_43 rfl ?_
    refine k_I (pc := 44) (fun r6 => r6) (fun r6 => mx XX (va_up YY 225 a.2)) (fun r6 hr_ => c_S (n := 2) ok ml_Mo_218 ws_X12_bitOf yk_X12_bitOf rfl (Nat.le_of_ble_eq_true rfl) (Nat.le_of_ble_eq_true rfl) (tMo_bitOf hr_) rfl (Nat.le_of_ble_eq_true rfl) dX12_areAnswered_44) (fun r6 => ?_)
    refine r_if_ne (pc := 47) ok 53 dX12_areAnswered_47 rfl (fun _ => ?_) (fun _ => ?_)
    · refine r_goto (pc := 50) ok 153 dX12_areAnswered_50 rfl ?_
      refine r_iinc (pc := 153) ok (1 : Int32) dX12_areAnswered_153 ci_1 rfl (Nat.le_of_ble_eq_true rfl) rfl ?_
      refine r_goto (pc := 156) ok 32 dX12_areAnswered_156 rfl ?_
      exact hc ((a.1 + (1 : Int32)), a.2)
    · refine r_sipush (pc := 53) ok (255 : Int32) dX12_areAnswered_53 cs_255 ?_
      refine r_istore_n (pc := 56) ok dX12_areAnswered_56 (Nat.le_of_ble_eq_true rfl) rfl ?_
      refine r_iter (P := fun (a57 : Int32 × Obj) o => VO Z G b 6 (fun (r : Int32 × Obj) => QX Z b (qI G b r.1 (mx XX (va_up YY 225 r.2)))) (mx XX (va_up YY 225 a57.2)) 57 [some (.ref (b + 225)), some (.int v1), some (.int a.1), some (.int a57.1), none, none] [] o) (E := fun (e_57 : Obj) o => VO Z G b 6 (fun (r : Int32 × Obj) => QX Z b (qI G b r.1 (mx XX (va_up YY 225 r.2)))) (mx XX (va_up YY 225 e_57)) 153 [some (.ref (b + 225)), some (.int v1), some (.int a.1), none, none, none] [] o) (fun _ => r_none) (fun K hc hx => wMo_areAnswered_L57 ok (K := K) hc hx) (fun e14 => ?_) FU ((255 : Int32), a.2)
      refine r_iinc (pc := 153) ok (1 : Int32) dX12_areAnswered_153 ci_1 rfl (Nat.le_of_ble_eq_true rfl) rfl ?_
      refine r_goto (pc := 156) ok 32 dX12_areAnswered_156 rfl ?_
      exact hc ((a.1 + (1 : Int32)), e14)
theorem wMo_areAnswered_L163 {Z : Cx} {G : Gx} {b : Nat} {XX YY : Nat → Obj} {m : Obj} (ok : OK Z G b cX12_areAnswered 6 3 RX12 (some .boolean)) {K : ((Int32 × Int32) ⊕ (Int32)) → Option (Int32 × Obj)} (hc : ∀ (a : Int32 × Int32), VO Z G b 6 (fun (r : Int32 × Obj) => QX Z b (qI G b r.1 (mx XX (va_up YY 225 r.2)))) (mx XX (va_up YY 225 m)) 163 [some (.ref (b + 225)), none, some (.int a.1), some (.int a.2), none, none] [] (K (.inl a))) (hx : ∀ (e : Int32), VO Z G b 6 (fun (r : Int32 × Obj) => QX Z b (qI G b r.1 (mx XX (va_up YY 225 r.2)))) (mx XX (va_up YY 225 m)) 195 [none, none, some (.int e), none, none, none] [] (K (.inr e))) : ∀ (a : Int32 × Int32), VO Z G b 6 (fun (r : Int32 × Obj) => QX Z b (qI G b r.1 (mx XX (va_up YY 225 r.2)))) (mx XX (va_up YY 225 m)) 163 [some (.ref (b + 225)), none, some (.int a.1), some (.int a.2), none, none] [] ((fMo_areAnswered_L163 m a).bind K) := by
  intro a
  unfold fMo_areAnswered_L163
  refine r_iload_n (pc := 163) ok dX12_areAnswered_163 rfl ?_
  refine r_sipush (pc := 164) ok (256 : Int32) dX12_areAnswered_164 cs_256 ?_
  refine r_icmp_ge (pc := 167) ok 195 dX12_areAnswered_167 rfl (fun _ => ?_) (fun _ => ?_)
  · refine r_lv (lk_n (lk_n (lk_s (lk_n (lk_n (lk_n lk_0 _) _) _) _) _) _) ?_
    exact hx a.1
  · refine r_iload_n (pc := 170) ok dX12_areAnswered_170 rfl ?_
    refine r_if_ne (pc := 171) ok 183 dX12_areAnswered_171 rfl (fun _ => ?_) (fun _ => ?_)
    · refine r_aload_n (pc := 174) ok dX12_areAnswered_174 rfl ?_
      refine r_getR (pc := 175) ok cls12 sh_225 (k := 26) rfl (Nat.le_of_ble_eq_true rfl) rfl dX12_areAnswered_175 fl_Mo_56 ?_
      refine r_iload_n (pc := 178) ok dX12_areAnswered_178 rfl ?_
      refine r_zald (pc := 179) ok sh_234 (j := 9) rfl (mx_r (by decide) (va_up_self _ _ _)) dX12_areAnswered_179 (fun i16 => ?_)
      refine r_if_eq (pc := 180) ok 187 dX12_areAnswered_180 rfl (fun _ => ?_) (fun _ => ?_)
      · refine r_iconst (pc := 187) ok (0 : Int32) dX12_areAnswered_187 ci_0 ?_
        refine r_istore_n (pc := 188) ok dX12_areAnswered_188 (Nat.le_of_ble_eq_true rfl) rfl ?_
        refine r_iinc (pc := 189) ok (1 : Int32) dX12_areAnswered_189 ci_1 rfl (Nat.le_of_ble_eq_true rfl) rfl ?_
        refine r_goto (pc := 192) ok 163 dX12_areAnswered_192 rfl ?_
        exact hc ((0 : Int32), (a.2 + (1 : Int32)))
      · refine r_iconst (pc := 183) ok (1 : Int32) dX12_areAnswered_183 ci_1 ?_
        refine r_goto (pc := 184) ok 188 dX12_areAnswered_184 rfl ?_
        refine r_istore_n (pc := 188) ok dX12_areAnswered_188 (Nat.le_of_ble_eq_true rfl) rfl ?_
        refine r_iinc (pc := 189) ok (1 : Int32) dX12_areAnswered_189 ci_1 rfl (Nat.le_of_ble_eq_true rfl) rfl ?_
        refine r_goto (pc := 192) ok 163 dX12_areAnswered_192 rfl ?_
        exact hc ((1 : Int32), (a.2 + (1 : Int32)))
    · refine r_iconst (pc := 183) ok (1 : Int32) dX12_areAnswered_183 ci_1 ?_
      refine r_goto (pc := 184) ok 188 dX12_areAnswered_184 rfl ?_
      refine r_istore_n (pc := 188) ok dX12_areAnswered_188 (Nat.le_of_ble_eq_true rfl) rfl ?_
      refine r_iinc (pc := 189) ok (1 : Int32) dX12_areAnswered_189 ci_1 rfl (Nat.le_of_ble_eq_true rfl) rfl ?_
      refine r_goto (pc := 192) ok 163 dX12_areAnswered_192 rfl ?_
      exact hc ((1 : Int32), (a.2 + (1 : Int32)))
theorem vMo_areAnswered {Z : Cx} {G : Gx} {b : Nat} {XX YY : Nat → Obj} {m : Obj} {v1 : Int32} (ok : OK Z G b cX12_areAnswered 6 3 RX12 (some .boolean)) : VO Z G b 6 (fun (r : Int32 × Obj) => QX Z b (qI G b r.1 (mx XX (va_up YY 225 r.2)))) (mx XX (va_up YY 225 m)) 0 [some (.ref (b + 225)), some (.int v1), none, none, none, none] [] ((fMo_areAnswered m v1).bind some) := by
  unfold fMo_areAnswered
  refine r_iconst (pc := 0) ok (0 : Int32) dX12_areAnswered_0 ci_0 ?_
  refine r_istore_n (pc := 1) ok dX12_areAnswered_1 (Nat.le_of_ble_eq_true rfl) rfl ?_
  refine r_iter (P := fun (a2 : Int32 × Obj) o => VO Z G b 6 (fun (r : Int32 × Obj) => QX Z b (qI G b r.1 (mx XX (va_up YY 225 r.2)))) (mx XX (va_up YY 225 a2.2)) 2 [some (.ref (b + 225)), some (.int v1), some (.int a2.1), none, none, none] [] o) (E := fun (e_2 : Obj) o => VO Z G b 6 (fun (r : Int32 × Obj) => QX Z b (qI G b r.1 (mx XX (va_up YY 225 r.2)))) (mx XX (va_up YY 225 e_2)) 30 [some (.ref (b + 225)), some (.int v1), none, none, none, none] [] o) (fun _ => r_none) (fun K hc hx => wMo_areAnswered_L2 ok (K := K) hc hx) (fun e5 => ?_) FU ((0 : Int32), m)
  refine r_iconst (pc := 30) ok (0 : Int32) dX12_areAnswered_30 ci_0 ?_
  refine r_istore_n (pc := 31) ok dX12_areAnswered_31 (Nat.le_of_ble_eq_true rfl) rfl ?_
  refine r_iter (P := fun (a32 : Int32 × Obj) o => VO Z G b 6 (fun (r : Int32 × Obj) => QX Z b (qI G b r.1 (mx XX (va_up YY 225 r.2)))) (mx XX (va_up YY 225 a32.2)) 32 [some (.ref (b + 225)), some (.int v1), some (.int a32.1), none, none, none] [] o) (E := fun (e_32 : Obj) o => VO Z G b 6 (fun (r : Int32 × Obj) => QX Z b (qI G b r.1 (mx XX (va_up YY 225 r.2)))) (mx XX (va_up YY 225 e_32)) 159 [some (.ref (b + 225)), none, none, none, none, none] [] o) (fun _ => r_none) (fun K hc hx => wMo_areAnswered_L32 ok (K := K) hc hx) (fun e15 => ?_) FU ((0 : Int32), e5)
  refine r_iconst (pc := 159) ok (0 : Int32) dX12_areAnswered_159 ci_0 ?_
  refine r_istore_n (pc := 160) ok dX12_areAnswered_160 (Nat.le_of_ble_eq_true rfl) rfl ?_
  refine r_iconst (pc := 161) ok (0 : Int32) dX12_areAnswered_161 ci_0 ?_
  refine r_istore_n (pc := 162) ok dX12_areAnswered_162 (Nat.le_of_ble_eq_true rfl) rfl ?_
  refine r_iter (P := fun (a163 : Int32 × Int32) o => VO Z G b 6 (fun (r : Int32 × Obj) => QX Z b (qI G b r.1 (mx XX (va_up YY 225 r.2)))) (mx XX (va_up YY 225 e15)) 163 [some (.ref (b + 225)), none, some (.int a163.1), some (.int a163.2), none, none] [] o) (E := fun (e_163 : Int32) o => VO Z G b 6 (fun (r : Int32 × Obj) => QX Z b (qI G b r.1 (mx XX (va_up YY 225 r.2)))) (mx XX (va_up YY 225 e15)) 195 [none, none, some (.int e_163), none, none, none] [] o) (fun _ => r_none) (fun K hc hx => wMo_areAnswered_L163 ok (K := K) hc hx) (fun e17 => ?_) FU ((0 : Int32), (0 : Int32))
  refine r_iload_n (pc := 195) ok dX12_areAnswered_195 rfl ?_
  exact r_zret (pc := 196) ok dX12_areAnswered_196 rfl rfl
theorem tMo_areAnswered {l : Launch} {G : Gx} {b : Nat} {XX YY : Nat → Obj} {m : Obj} {v1 : Int32} {r : Int32 × Obj} (hr : fMo_areAnswered m v1 = some r) : MetG l G b yX12_areAnswered cX12_areAnswered 6 (some .boolean) 3 [.ref (b + 225), .int v1] (mx XX (va_up YY 225 m)) (qI G b r.1 (mx XX (va_up YY 225 r.2))) := by
  refine met_start [some (.ref (b + 225)), some (.int v1), none, none, none, none] (by decide +kernel) (Nat.le_of_ble_eq_true rfl) rfl (fun Z hl ok => ?_)
  clear hl
  exact vMo_areAnswered ok r (by rw [hr]; rfl)
theorem wMo_most_L15 {Z : Cx} {G : Gx} {b : Nat} {XX YY : Nat → Obj} {v1 : Int32} (ok : OK Z G b cX12_most 4 4 RX12 (some .int)) {K : ((Int32 × Int32 × Obj) ⊕ (Int32 × Obj)) → Option (Int32 × Obj)} (hc : ∀ (a : Int32 × Int32 × Obj), VO Z G b 4 (fun (r : Int32 × Obj) => QX Z b (qI G b r.1 (mx XX (va_up YY 225 r.2)))) (mx XX (va_up YY 225 a.2.2)) 15 [some (.ref (b + 225)), some (.int v1), some (.int a.1), some (.int a.2.1)] [] (K (.inl a))) (hx : ∀ (e : Int32 × Obj), VO Z G b 4 (fun (r : Int32 × Obj) => QX Z b (qI G b r.1 (mx XX (va_up YY 225 r.2)))) (mx XX (va_up YY 225 e.2)) 55 [some (.ref (b + 225)), none, some (.int e.1), none] [] (K (.inr e))) : ∀ (a : Int32 × Int32 × Obj), VO Z G b 4 (fun (r : Int32 × Obj) => QX Z b (qI G b r.1 (mx XX (va_up YY 225 r.2)))) (mx XX (va_up YY 225 a.2.2)) 15 [some (.ref (b + 225)), some (.int v1), some (.int a.1), some (.int a.2.1)] [] ((fMo_most_L15 v1 a).bind K) := by
  intro a
  unfold fMo_most_L15
  refine r_iload_n (pc := 15) ok dX12_most_15 rfl ?_
  refine r_iload_n (pc := 16) ok dX12_most_16 rfl ?_
  refine r_icmp_gt (pc := 17) ok 55 dX12_most_17 rfl (fun _ => ?_) (fun _ => ?_)
  · refine r_lv (lk_s (lk_n (lk_s (lk_n lk_0 _) _) _) _) ?_
    exact hx (a.1, a.2.2)
  · refine r_iload_n (pc := 20) ok dX12_most_20 rfl ?_
    refine r_iload_n (pc := 21) ok dX12_most_21 rfl ?_
    refine r_iconst (pc := 22) ok (-1 : Int32) dX12_most_22 ci_m1 ?_
    refine r_ixor (pc := 23) ok dX12_most_23 ?_
    refine r_iand (pc := 24) ok dX12_most_24 ?_
    refine r_if_ne (pc := 25) ok 49 dX12_most_25 rfl (fun _ => ?_) (fun _ => ?_)
    · refine r_iload_n (pc := 28) ok dX12_most_28 rfl ?_
      refine k_I (pc := 29) (fun r3 => r3) (fun r3 => mx XX (va_up YY 225 a.2.2)) (fun r3 hr_ => c_S (n := 1) ok ml_Mo_348 ws_X12_bits yk_X12_bits rfl (Nat.le_of_ble_eq_true rfl) (Nat.le_of_ble_eq_true rfl) (tMo_bits hr_) rfl (Nat.le_of_ble_eq_true rfl) dX12_most_29) (fun r3 => ?_)
      refine r_iload_n (pc := 32) ok dX12_most_32 rfl ?_
      refine k_I (pc := 33) (fun r4 => r4) (fun r4 => mx XX (va_up YY 225 a.2.2)) (fun r4 hr_ => c_S (n := 1) ok ml_Mo_348 ws_X12_bits yk_X12_bits rfl (Nat.le_of_ble_eq_true rfl) (Nat.le_of_ble_eq_true rfl) (tMo_bits hr_) rfl (Nat.le_of_ble_eq_true rfl) dX12_most_33) (fun r4 => ?_)
      refine r_icmp_le (pc := 36) ok 49 dX12_most_36 rfl (fun _ => ?_) (fun _ => ?_)
      · refine r_iinc (pc := 49) ok (1 : Int32) dX12_most_49 ci_1 rfl (Nat.le_of_ble_eq_true rfl) rfl ?_
        refine r_goto (pc := 52) ok 15 dX12_most_52 rfl ?_
        exact hc (a.1, (a.2.1 + (1 : Int32)), a.2.2)
      · refine r_aload_n (pc := 39) ok dX12_most_39 rfl ?_
        refine r_iload_n (pc := 40) ok dX12_most_40 rfl ?_
        refine k_I (pc := 41) (fun r5 => r5.1) (fun r5 => mx XX (va_up YY 225 r5.2)) (fun r5 hr_ => c_V (n := 1) ok cls12 sh_225 rfl ml_Mo_351 wv_X12_areAnswered yk_X12_areAnswered rfl (Nat.le_of_ble_eq_true rfl) (Nat.le_of_ble_eq_true rfl) (tMo_areAnswered hr_) rfl (Nat.le_of_ble_eq_true rfl) dX12_most_41) (fun r5 => ?_)
        refine r_if_eq (pc := 44) ok 49 dX12_most_44 rfl (fun _ => ?_) (fun _ => ?_)
        · refine r_iinc (pc := 49) ok (1 : Int32) dX12_most_49 ci_1 rfl (Nat.le_of_ble_eq_true rfl) rfl ?_
          refine r_goto (pc := 52) ok 15 dX12_most_52 rfl ?_
          exact hc (a.1, (a.2.1 + (1 : Int32)), r5.2)
        · refine r_iload_n (pc := 47) ok dX12_most_47 rfl ?_
          refine r_istore_n (pc := 48) ok dX12_most_48 (Nat.le_of_ble_eq_true rfl) rfl ?_
          refine r_iinc (pc := 49) ok (1 : Int32) dX12_most_49 ci_1 rfl (Nat.le_of_ble_eq_true rfl) rfl ?_
          refine r_goto (pc := 52) ok 15 dX12_most_52 rfl ?_
          exact hc (a.2.1, (a.2.1 + (1 : Int32)), r5.2)
    · refine r_iinc (pc := 49) ok (1 : Int32) dX12_most_49 ci_1 rfl (Nat.le_of_ble_eq_true rfl) rfl ?_
      refine r_goto (pc := 52) ok 15 dX12_most_52 rfl ?_
      exact hc (a.1, (a.2.1 + (1 : Int32)), a.2.2)
theorem vMo_most {Z : Cx} {G : Gx} {b : Nat} {XX YY : Nat → Obj} {m : Obj} (ok : OK Z G b cX12_most 4 4 RX12 (some .int)) : VO Z G b 4 (fun (r : Int32 × Obj) => QX Z b (qI G b r.1 (mx XX (va_up YY 225 r.2)))) (mx XX (va_up YY 225 m)) 0 [some (.ref (b + 225)), none, none, none] [] ((fMo_most m).bind some) := by
  unfold fMo_most
  refine r_aload_n (pc := 0) ok dX12_most_0 rfl ?_
  refine r_iconst (pc := 1) ok (0 : Int32) dX12_most_1 ci_0 ?_
  refine r_putI (pc := 2) ok cls12 sh_225 (k := 0) rfl (Nat.le_of_ble_eq_true rfl) (fun s_ => mx XX (va_up YY 225 s_)) (pm_r _ _).1 (pm_r _ _).2 rfl rfl rfl dX12_most_2 fl_Mo_1 (fun s1 => ?_)
  refine r_aload_n (pc := 5) ok dX12_most_5 rfl ?_
  refine r_iconst (pc := 6) ok (1 : Int32) dX12_most_6 ci_1 ?_
  refine k_I (pc := 7) (fun r2 => r2) (fun r2 => mx XX (va_up YY 225 s1)) (fun r2 hr_ => c_V (n := 1) ok cls12 sh_225 rfl ml_Mo_297 wv_X12_are yk_X12_are rfl (Nat.le_of_ble_eq_true rfl) (Nat.le_of_ble_eq_true rfl) (tMo_are (va_up_self _ _ _) hr_) rfl (Nat.le_of_ble_eq_true rfl) dX12_most_7) (fun r2 => ?_)
  refine r_istore_n (pc := 10) ok dX12_most_10 (Nat.le_of_ble_eq_true rfl) rfl ?_
  refine r_iconst (pc := 11) ok (0 : Int32) dX12_most_11 ci_0 ?_
  refine r_istore_n (pc := 12) ok dX12_most_12 (Nat.le_of_ble_eq_true rfl) rfl ?_
  refine r_iconst (pc := 13) ok (1 : Int32) dX12_most_13 ci_1 ?_
  refine r_istore_n (pc := 14) ok dX12_most_14 (Nat.le_of_ble_eq_true rfl) rfl ?_
  refine r_iter (P := fun (a15 : Int32 × Int32 × Obj) o => VO Z G b 4 (fun (r : Int32 × Obj) => QX Z b (qI G b r.1 (mx XX (va_up YY 225 r.2)))) (mx XX (va_up YY 225 a15.2.2)) 15 [some (.ref (b + 225)), some (.int r2), some (.int a15.1), some (.int a15.2.1)] [] o) (E := fun (e_15 : Int32 × Obj) o => VO Z G b 4 (fun (r : Int32 × Obj) => QX Z b (qI G b r.1 (mx XX (va_up YY 225 r.2)))) (mx XX (va_up YY 225 e_15.2)) 55 [some (.ref (b + 225)), none, some (.int e_15.1), none] [] o) (fun _ => r_none) (fun K hc hx => wMo_most_L15 ok (K := K) hc hx) (fun e6 => ?_) FU ((0 : Int32), (1 : Int32), s1)
  refine r_aload_n (pc := 55) ok dX12_most_55 rfl ?_
  refine r_iconst (pc := 56) ok (1 : Int32) dX12_most_56 ci_1 ?_
  refine r_putI (pc := 57) ok cls12 sh_225 (k := 25) rfl (Nat.le_of_ble_eq_true rfl) (fun s_ => mx XX (va_up YY 225 s_)) (pm_r _ _).1 (pm_r _ _).2 rfl rfl rfl dX12_most_57 fl_Mo_354 (fun s7 => ?_)
  refine r_aload_n (pc := 60) ok dX12_most_60 rfl ?_
  refine r_iload_n (pc := 61) ok dX12_most_61 rfl ?_
  refine r_putI (pc := 62) ok cls12 sh_225 (k := 24) rfl (Nat.le_of_ble_eq_true rfl) (fun s_ => mx XX (va_up YY 225 s_)) (pm_r _ _).1 (pm_r _ _).2 rfl rfl rfl dX12_most_62 fl_Mo_358 (fun s8 => ?_)
  refine r_iload_n (pc := 65) ok dX12_most_65 rfl ?_
  refine k_I (pc := 66) (fun r9 => r9) (fun r9 => mx XX (va_up YY 225 s8)) (fun r9 hr_ => c_S (n := 1) ok ml_Mo_348 ws_X12_bits yk_X12_bits rfl (Nat.le_of_ble_eq_true rfl) (Nat.le_of_ble_eq_true rfl) (tMo_bits hr_) rfl (Nat.le_of_ble_eq_true rfl) dX12_most_66) (fun r9 => ?_)
  exact r_iret (pc := 69) ok dX12_most_69 rfl
theorem tMo_most {l : Launch} {G : Gx} {b : Nat} {XX YY : Nat → Obj} {m : Obj} {r : Int32 × Obj} (hr : fMo_most m = some r) : MetG l G b yX12_most cX12_most 4 (some .int) 4 [.ref (b + 225)] (mx XX (va_up YY 225 m)) (qI G b r.1 (mx XX (va_up YY 225 r.2))) := by
  refine met_start [some (.ref (b + 225)), none, none, none] (by decide +kernel) (Nat.le_of_ble_eq_true rfl) rfl (fun Z hl ok => ?_)
  clear hl
  exact vMo_most ok r (by rw [hr]; rfl)
theorem vMo_those {Z : Cx} {G : Gx} {b : Nat} {XX YY : Nat → Obj} {m : Obj} (ok : OK Z G b cX12_those 1 0 RX12 (some .int)) : VO Z G b 1 (fun (r : Int32 × Obj) => QX Z b (qI G b r.1 (mx XX (va_up YY 225 r.2)))) (mx XX (va_up YY 225 m)) 0 [some (.ref (b + 225))] [] ((fMo_those m).bind some) := by
  unfold fMo_those
  refine r_aload_n (pc := 0) ok dX12_those_0 rfl ?_
  refine r_iconst (pc := 1) ok (0 : Int32) dX12_those_1 ci_0 ?_
  refine r_putI (pc := 2) ok cls12 sh_225 (k := 0) rfl (Nat.le_of_ble_eq_true rfl) (fun s_ => mx XX (va_up YY 225 s_)) (pm_r _ _).1 (pm_r _ _).2 rfl rfl rfl dX12_those_2 fl_Mo_1 (fun s1 => ?_)
  refine r_aload_n (pc := 5) ok dX12_those_5 rfl ?_
  refine r_getI (pc := 6) ok cls12 sh_225 (k := 25) rfl (Nat.le_of_ble_eq_true rfl) (mx_r (by decide) (va_up_self _ _ _)) dX12_those_6 fl_Mo_354 ?_
  refine r_if_eq (pc := 9) ok 19 dX12_those_9 rfl (fun _ => ?_) (fun _ => ?_)
  · refine r_iconst (pc := 19) ok (-1 : Int32) dX12_those_19 ci_m1 ?_
    exact r_iret (pc := 20) ok dX12_those_20 rfl
  · refine r_aload_n (pc := 12) ok dX12_those_12 rfl ?_
    refine r_getI (pc := 13) ok cls12 sh_225 (k := 24) rfl (Nat.le_of_ble_eq_true rfl) (mx_r (by decide) (va_up_self _ _ _)) dX12_those_13 fl_Mo_358 ?_
    refine r_goto (pc := 16) ok 20 dX12_those_16 rfl ?_
    exact r_iret (pc := 20) ok dX12_those_20 rfl
theorem tMo_those {l : Launch} {G : Gx} {b : Nat} {XX YY : Nat → Obj} {m : Obj} {r : Int32 × Obj} (hr : fMo_those m = some r) : MetG l G b yX12_those cX12_those 1 (some .int) 0 [.ref (b + 225)] (mx XX (va_up YY 225 m)) (qI G b r.1 (mx XX (va_up YY 225 r.2))) := by
  refine met_start [some (.ref (b + 225))] (by decide +kernel) (Nat.le_of_ble_eq_true rfl) rfl (fun Z hl ok => ?_)
  clear hl
  exact vMo_those ok r (by rw [hr]; rfl)
theorem wMo_chain_L25 {Z : Cx} {G : Gx} {b : Nat} {XX YY : Nat → Obj} {v1 : Int32} {v2 : Int32} (ok : OK Z G b cX12_chain 6 2 RX12 (some .int)) {K : ((Int32 × Obj) ⊕ (Obj)) → Option (Int32 × Obj)} (hc : ∀ (a : Int32 × Obj), VO Z G b 6 (fun (r : Int32 × Obj) => QX Z b (qI G b r.1 (mx XX (va_up YY 225 r.2)))) (mx XX (va_up YY 225 a.2)) 25 [some (.ref (b + 225)), some (.int v1), some (.int v2), some (.int a.1), none, none] [] (K (.inl a))) (hx : ∀ (e : Obj), VO Z G b 6 (fun (r : Int32 × Obj) => QX Z b (qI G b r.1 (mx XX (va_up YY 225 r.2)))) (mx XX (va_up YY 225 e)) 55 [some (.ref (b + 225)), some (.int v1), none, none, none, none] [] (K (.inr e))) : ∀ (a : Int32 × Obj), VO Z G b 6 (fun (r : Int32 × Obj) => QX Z b (qI G b r.1 (mx XX (va_up YY 225 r.2)))) (mx XX (va_up YY 225 a.2)) 25 [some (.ref (b + 225)), some (.int v1), some (.int v2), some (.int a.1), none, none] [] ((fMo_chain_L25 v2 a).bind K) := by
  intro a
  unfold fMo_chain_L25
  refine r_iload_n (pc := 25) ok dX12_chain_25 rfl ?_
  refine r_bipush (pc := 26) ok (8 : Int32) dX12_chain_26 cb_8 ?_
  refine r_icmp_ge (pc := 28) ok 55 dX12_chain_28 rfl (fun _ => ?_) (fun _ => ?_)
  · refine r_lv (lk_s (lk_s (lk_n (lk_n (lk_n (lk_n lk_0 _) _) _) _) _) _) ?_
    exact hx a.2
  · refine r_aload_n (pc := 31) ok dX12_chain_31 rfl ?_
    refine r_getR (pc := 32) ok cls12 sh_225 (k := 27) rfl (Nat.le_of_ble_eq_true rfl) rfl dX12_chain_32 fl_Mo_60 ?_
    refine r_iload_n (pc := 35) ok dX12_chain_35 rfl ?_
    refine r_iload_n (pc := 36) ok dX12_chain_36 rfl ?_
    refine r_iload_n (pc := 37) ok dX12_chain_37 rfl ?_
    refine r_icmp_ne (pc := 38) ok 45 dX12_chain_38 rfl (fun _ => ?_) (fun _ => ?_)
    · refine r_iconst (pc := 41) ok (0 : Int32) dX12_chain_41 ci_0 ?_
      refine r_goto (pc := 42) ok 48 dX12_chain_42 rfl ?_
      refine r_iast (pc := 48) ok sh_235 (j := 10) rfl rfl (fun s_ => mx XX (va_up YY 225 s_)) (pm_r _ _).1 (pm_r _ _).2 dX12_chain_48 (fun i4 s5 => ?_)
      refine r_iinc (pc := 49) ok (1 : Int32) dX12_chain_49 ci_1 rfl (Nat.le_of_ble_eq_true rfl) rfl ?_
      refine r_goto (pc := 52) ok 25 dX12_chain_52 rfl ?_
      exact hc ((a.1 + (1 : Int32)), s5)
    · refine r_ldcw (pc := 45) ok (1000000 : Int32) dX12_chain_45 cst_Mo_306 ?_
      refine r_iast (pc := 48) ok sh_235 (j := 10) rfl rfl (fun s_ => mx XX (va_up YY 225 s_)) (pm_r _ _).1 (pm_r _ _).2 dX12_chain_48 (fun i6 s7 => ?_)
      refine r_iinc (pc := 49) ok (1 : Int32) dX12_chain_49 ci_1 rfl (Nat.le_of_ble_eq_true rfl) rfl ?_
      refine r_goto (pc := 52) ok 25 dX12_chain_52 rfl ?_
      exact hc ((a.1 + (1 : Int32)), s7)
theorem wMo_chain_L80 {Z : Cx} {G : Gx} {b : Nat} {XX YY : Nat → Obj} {v1 : Int32} {v3 : Int32} {v4 : Int32} (ok : OK Z G b cX12_chain 6 2 RX12 (some .int)) {K : ((Int32 × Obj) ⊕ (Obj)) → Option (Int32 × Obj)} (hc : ∀ (a : Int32 × Obj), VO Z G b 6 (fun (r : Int32 × Obj) => QX Z b (qI G b r.1 (mx XX (va_up YY 225 r.2)))) (mx XX (va_up YY 225 a.2)) 80 [some (.ref (b + 225)), some (.int v1), none, some (.int v3), some (.int v4), some (.int a.1)] [] (K (.inl a))) (hx : ∀ (e : Obj), VO Z G b 6 (fun (r : Int32 × Obj) => QX Z b (qI G b r.1 (mx XX (va_up YY 225 r.2)))) (mx XX (va_up YY 225 e)) 150 [some (.ref (b + 225)), some (.int v1), none, some (.int v3), some (.int v4), none] [] (K (.inr e))) : ∀ (a : Int32 × Obj), VO Z G b 6 (fun (r : Int32 × Obj) => QX Z b (qI G b r.1 (mx XX (va_up YY 225 r.2)))) (mx XX (va_up YY 225 a.2)) 80 [some (.ref (b + 225)), some (.int v1), none, some (.int v3), some (.int v4), some (.int a.1)] [] ((fMo_chain_L80 v4 a).bind K) := by
  intro a
  unfold fMo_chain_L80
  refine r_iload (pc := 80) ok dX12_chain_80 rfl ?_
  refine r_aload_n (pc := 82) ok dX12_chain_82 rfl ?_
  refine r_getR (pc := 83) ok cls12 sh_225 (k := 6) rfl (Nat.le_of_ble_eq_true rfl) rfl dX12_chain_83 fl_Mo_33 ?_
  refine r_iconst (pc := 86) ok (1 : Int32) dX12_chain_86 ci_1 ?_
  refine r_ialdc (pc := 87) ok sh_227 (j := 2) rfl (i := 1) (by decide +kernel) (mx_r (by decide) (va_up_self _ _ _)) dX12_chain_87 ?_
  refine r_icmp_ge (pc := 88) ok 150 dX12_chain_88 rfl (fun _ => ?_) (fun _ => ?_)
  · refine r_lv (lk_s (lk_s (lk_n (lk_s (lk_s (lk_n lk_0 _) _) _) _) _) _) ?_
    exact hx a.2
  · refine r_aload_n (pc := 91) ok dX12_chain_91 rfl ?_
    refine r_getR (pc := 92) ok cls12 sh_225 (k := 6) rfl (Nat.le_of_ble_eq_true rfl) rfl dX12_chain_92 fl_Mo_33 ?_
    refine r_bipush (pc := 95) ok (113 : Int32) dX12_chain_95 cb_113 ?_
    refine r_iload (pc := 97) ok dX12_chain_97 rfl ?_
    refine r_iadd (pc := 99) ok dX12_chain_99 ?_
    refine r_iald (pc := 100) ok sh_227 (j := 2) rfl (mx_r (by decide) (va_up_self _ _ _)) dX12_chain_100 (fun i9 => ?_)
    refine r_iload (pc := 101) ok dX12_chain_101 rfl ?_
    refine k_I (pc := 103) (fun r10 => r10) (fun r10 => mx XX (va_up YY 225 a.2)) (fun r10 hr_ => c_S (n := 2) ok ml_Mo_218 ws_X12_bitOf yk_X12_bitOf rfl (Nat.le_of_ble_eq_true rfl) (Nat.le_of_ble_eq_true rfl) (tMo_bitOf hr_) rfl (Nat.le_of_ble_eq_true rfl) dX12_chain_103) (fun r10 => ?_)
    refine r_if_eq (pc := 106) ok 144 dX12_chain_106 rfl (fun _ => ?_) (fun _ => ?_)
    · refine r_iinc (pc := 144) ok (1 : Int32) dX12_chain_144 ci_1 rfl (Nat.le_of_ble_eq_true rfl) rfl ?_
      refine r_goto (pc := 147) ok 80 dX12_chain_147 rfl ?_
      exact hc ((a.1 + (1 : Int32)), a.2)
    · refine r_aload_n (pc := 109) ok dX12_chain_109 rfl ?_
      refine r_getR (pc := 110) ok cls12 sh_225 (k := 27) rfl (Nat.le_of_ble_eq_true rfl) rfl dX12_chain_110 fl_Mo_60 ?_
      refine r_iload (pc := 113) ok dX12_chain_113 rfl ?_
      refine r_iald (pc := 115) ok sh_235 (j := 10) rfl (mx_r (by decide) (va_up_self _ _ _)) dX12_chain_115 (fun i11 => ?_)
      refine r_iconst (pc := 116) ok (1 : Int32) dX12_chain_116 ci_1 ?_
      refine r_iadd (pc := 117) ok dX12_chain_117 ?_
      refine r_aload_n (pc := 118) ok dX12_chain_118 rfl ?_
      refine r_getR (pc := 119) ok cls12 sh_225 (k := 27) rfl (Nat.le_of_ble_eq_true rfl) rfl dX12_chain_119 fl_Mo_60 ?_
      refine r_iload (pc := 122) ok dX12_chain_122 rfl ?_
      refine r_iald (pc := 124) ok sh_235 (j := 10) rfl (mx_r (by decide) (va_up_self _ _ _)) dX12_chain_124 (fun i12 => ?_)
      refine r_icmp_ge (pc := 125) ok 144 dX12_chain_125 rfl (fun _ => ?_) (fun _ => ?_)
      · refine r_iinc (pc := 144) ok (1 : Int32) dX12_chain_144 ci_1 rfl (Nat.le_of_ble_eq_true rfl) rfl ?_
        refine r_goto (pc := 147) ok 80 dX12_chain_147 rfl ?_
        exact hc ((a.1 + (1 : Int32)), a.2)
      · refine r_aload_n (pc := 128) ok dX12_chain_128 rfl ?_
        refine r_getR (pc := 129) ok cls12 sh_225 (k := 27) rfl (Nat.le_of_ble_eq_true rfl) rfl dX12_chain_129 fl_Mo_60 ?_
        refine r_iload (pc := 132) ok dX12_chain_132 rfl ?_
        refine r_aload_n (pc := 134) ok dX12_chain_134 rfl ?_
        refine r_getR (pc := 135) ok cls12 sh_225 (k := 27) rfl (Nat.le_of_ble_eq_true rfl) rfl dX12_chain_135 fl_Mo_60 ?_
        refine r_iload (pc := 138) ok dX12_chain_138 rfl ?_
        refine r_iald (pc := 140) ok sh_235 (j := 10) rfl (mx_r (by decide) (va_up_self _ _ _)) dX12_chain_140 (fun i13 => ?_)
        refine r_iconst (pc := 141) ok (1 : Int32) dX12_chain_141 ci_1 ?_
        refine r_iadd (pc := 142) ok dX12_chain_142 ?_
        refine r_iast (pc := 143) ok sh_235 (j := 10) rfl rfl (fun s_ => mx XX (va_up YY 225 s_)) (pm_r _ _).1 (pm_r _ _).2 dX12_chain_143 (fun i14 s15 => ?_)
        refine r_iinc (pc := 144) ok (1 : Int32) dX12_chain_144 ci_1 rfl (Nat.le_of_ble_eq_true rfl) rfl ?_
        refine r_goto (pc := 147) ok 80 dX12_chain_147 rfl ?_
        exact hc ((a.1 + (1 : Int32)), s15)
theorem wMo_chain_L66 {Z : Cx} {G : Gx} {b : Nat} {XX YY : Nat → Obj} {v1 : Int32} {v3 : Int32} (ok : OK Z G b cX12_chain 6 2 RX12 (some .int)) {K : ((Int32 × Obj) ⊕ (Obj)) → Option (Int32 × Obj)} (hc : ∀ (a : Int32 × Obj), VO Z G b 6 (fun (r : Int32 × Obj) => QX Z b (qI G b r.1 (mx XX (va_up YY 225 r.2)))) (mx XX (va_up YY 225 a.2)) 66 [some (.ref (b + 225)), some (.int v1), none, some (.int v3), some (.int a.1), none] [] (K (.inl a))) (hx : ∀ (e : Obj), VO Z G b 6 (fun (r : Int32 × Obj) => QX Z b (qI G b r.1 (mx XX (va_up YY 225 r.2)))) (mx XX (va_up YY 225 e)) 156 [some (.ref (b + 225)), some (.int v1), none, some (.int v3), none, none] [] (K (.inr e))) : ∀ (a : Int32 × Obj), VO Z G b 6 (fun (r : Int32 × Obj) => QX Z b (qI G b r.1 (mx XX (va_up YY 225 r.2)))) (mx XX (va_up YY 225 a.2)) 66 [some (.ref (b + 225)), some (.int v1), none, some (.int v3), some (.int a.1), none] [] ((fMo_chain_L66 a).bind K) := by
  intro a
  unfold fMo_chain_L66
  refine r_iload (pc := 66) ok dX12_chain_66 rfl ?_
  refine r_aload_n (pc := 68) ok dX12_chain_68 rfl ?_
  refine r_getR (pc := 69) ok cls12 sh_225 (k := 6) rfl (Nat.le_of_ble_eq_true rfl) rfl dX12_chain_69 fl_Mo_33 ?_
  refine r_iconst (pc := 72) ok (1 : Int32) dX12_chain_72 ci_1 ?_
  refine r_ialdc (pc := 73) ok sh_227 (j := 2) rfl (i := 1) (by decide +kernel) (mx_r (by decide) (va_up_self _ _ _)) dX12_chain_73 ?_
  refine r_icmp_ge (pc := 74) ok 156 dX12_chain_74 rfl (fun _ => ?_) (fun _ => ?_)
  · refine r_lv (lk_s (lk_s (lk_n (lk_s (lk_n (lk_n lk_0 _) _) _) _) _) _) ?_
    exact hx a.2
  · refine r_iconst (pc := 77) ok (0 : Int32) dX12_chain_77 ci_0 ?_
    refine r_istore (pc := 78) ok dX12_chain_78 (Nat.le_of_ble_eq_true rfl) rfl ?_
    refine r_iter (P := fun (a80 : Int32 × Obj) o => VO Z G b 6 (fun (r : Int32 × Obj) => QX Z b (qI G b r.1 (mx XX (va_up YY 225 r.2)))) (mx XX (va_up YY 225 a80.2)) 80 [some (.ref (b + 225)), some (.int v1), none, some (.int v3), some (.int a.1), some (.int a80.1)] [] o) (E := fun (e_80 : Obj) o => VO Z G b 6 (fun (r : Int32 × Obj) => QX Z b (qI G b r.1 (mx XX (va_up YY 225 r.2)))) (mx XX (va_up YY 225 e_80)) 150 [some (.ref (b + 225)), some (.int v1), none, some (.int v3), some (.int a.1), none] [] o) (fun _ => r_none) (fun K hc hx => wMo_chain_L80 ok (K := K) hc hx) (fun e16 => ?_) FU ((0 : Int32), a.2)
    refine r_iinc (pc := 150) ok (1 : Int32) dX12_chain_150 ci_1 rfl (Nat.le_of_ble_eq_true rfl) rfl ?_
    refine r_goto (pc := 153) ok 66 dX12_chain_153 rfl ?_
    exact hc ((a.1 + (1 : Int32)), e16)
theorem wMo_chain_L57 {Z : Cx} {G : Gx} {b : Nat} {XX YY : Nat → Obj} {v1 : Int32} (ok : OK Z G b cX12_chain 6 2 RX12 (some .int)) {K : ((Int32 × Obj) ⊕ (Obj)) → Option (Int32 × Obj)} (hc : ∀ (a : Int32 × Obj), VO Z G b 6 (fun (r : Int32 × Obj) => QX Z b (qI G b r.1 (mx XX (va_up YY 225 r.2)))) (mx XX (va_up YY 225 a.2)) 57 [some (.ref (b + 225)), some (.int v1), none, some (.int a.1), none, none] [] (K (.inl a))) (hx : ∀ (e : Obj), VO Z G b 6 (fun (r : Int32 × Obj) => QX Z b (qI G b r.1 (mx XX (va_up YY 225 r.2)))) (mx XX (va_up YY 225 e)) 162 [some (.ref (b + 225)), some (.int v1), none, none, none, none] [] (K (.inr e))) : ∀ (a : Int32 × Obj), VO Z G b 6 (fun (r : Int32 × Obj) => QX Z b (qI G b r.1 (mx XX (va_up YY 225 r.2)))) (mx XX (va_up YY 225 a.2)) 57 [some (.ref (b + 225)), some (.int v1), none, some (.int a.1), none, none] [] ((fMo_chain_L57 a).bind K) := by
  intro a
  unfold fMo_chain_L57
  refine r_iload_n (pc := 57) ok dX12_chain_57 rfl ?_
  refine r_bipush (pc := 58) ok (8 : Int32) dX12_chain_58 cb_8 ?_
  refine r_icmp_ge (pc := 60) ok 162 dX12_chain_60 rfl (fun _ => ?_) (fun _ => ?_)
  · refine r_lv (lk_s (lk_s (lk_n (lk_n (lk_n (lk_n lk_0 _) _) _) _) _) _) ?_
    exact hx a.2
  · refine r_iconst (pc := 63) ok (0 : Int32) dX12_chain_63 ci_0 ?_
    refine r_istore (pc := 64) ok dX12_chain_64 (Nat.le_of_ble_eq_true rfl) rfl ?_
    refine r_iter (P := fun (a66 : Int32 × Obj) o => VO Z G b 6 (fun (r : Int32 × Obj) => QX Z b (qI G b r.1 (mx XX (va_up YY 225 r.2)))) (mx XX (va_up YY 225 a66.2)) 66 [some (.ref (b + 225)), some (.int v1), none, some (.int a.1), some (.int a66.1), none] [] o) (E := fun (e_66 : Obj) o => VO Z G b 6 (fun (r : Int32 × Obj) => QX Z b (qI G b r.1 (mx XX (va_up YY 225 r.2)))) (mx XX (va_up YY 225 e_66)) 156 [some (.ref (b + 225)), some (.int v1), none, some (.int a.1), none, none] [] o) (fun _ => r_none) (fun K hc hx => wMo_chain_L66 ok (K := K) hc hx) (fun e17 => ?_) FU ((0 : Int32), a.2)
    refine r_iinc (pc := 156) ok (1 : Int32) dX12_chain_156 ci_1 rfl (Nat.le_of_ble_eq_true rfl) rfl ?_
    refine r_goto (pc := 159) ok 57 dX12_chain_159 rfl ?_
    exact hc ((a.1 + (1 : Int32)), e17)
theorem wMo_chain_L197 {Z : Cx} {G : Gx} {b : Nat} {XX YY : Nat → Obj} {m : Obj} {v3 : Int32} {v4 : Int32} (ok : OK Z G b cX12_chain 6 2 RX12 (some .int)) {K : ((Int32) ⊕ (Int32)) → Option (Int32 × Obj)} (hc : ∀ (a : Int32), VO Z G b 6 (fun (r : Int32 × Obj) => QX Z b (qI G b r.1 (mx XX (va_up YY 225 r.2)))) (mx XX (va_up YY 225 m)) 197 [some (.ref (b + 225)), none, none, some (.int v3), some (.int v4), some (.int a)] [] (K (.inl a))) (hx : ∀ (e : Int32), VO Z G b 6 (fun (r : Int32 × Obj) => QX Z b (qI G b r.1 (mx XX (va_up YY 225 r.2)))) (mx XX (va_up YY 225 m)) 242 [some (.ref (b + 225)), none, none, some (.int v3), some (.int v4), some (.int e)] [] (K (.inr e))) : ∀ (a : Int32), VO Z G b 6 (fun (r : Int32 × Obj) => QX Z b (qI G b r.1 (mx XX (va_up YY 225 r.2)))) (mx XX (va_up YY 225 m)) 197 [some (.ref (b + 225)), none, none, some (.int v3), some (.int v4), some (.int a)] [] ((fMo_chain_L197 m v3 v4 a).bind K) := by
  intro a
  unfold fMo_chain_L197
  refine r_aload_n (pc := 197) ok dX12_chain_197 rfl ?_
  refine r_getR (pc := 198) ok cls12 sh_225 (k := 6) rfl (Nat.le_of_ble_eq_true rfl) rfl dX12_chain_198 fl_Mo_33 ?_
  refine r_bipush (pc := 201) ok (113 : Int32) dX12_chain_201 cb_113 ?_
  refine r_aload_n (pc := 203) ok dX12_chain_203 rfl ?_
  refine r_getR (pc := 204) ok cls12 sh_225 (k := 28) rfl (Nat.le_of_ble_eq_true rfl) rfl dX12_chain_204 fl_Mo_63 ?_
  refine r_iload (pc := 207) ok dX12_chain_207 rfl ?_
  refine r_iconst (pc := 209) ok (1 : Int32) dX12_chain_209 ci_1 ?_
  refine r_isub (pc := 210) ok dX12_chain_210 ?_
  refine r_iald (pc := 211) ok sh_236 (j := 11) rfl (mx_r (by decide) (va_up_self _ _ _)) dX12_chain_211 (fun i22 => ?_)
  refine r_iadd (pc := 212) ok dX12_chain_212 ?_
  refine r_iald (pc := 213) ok sh_227 (j := 2) rfl (mx_r (by decide) (va_up_self _ _ _)) dX12_chain_213 (fun i23 => ?_)
  refine r_iload (pc := 214) ok dX12_chain_214 rfl ?_
  refine k_I (pc := 216) (fun r24 => r24) (fun r24 => mx XX (va_up YY 225 m)) (fun r24 hr_ => c_S (n := 2) ok ml_Mo_218 ws_X12_bitOf yk_X12_bitOf rfl (Nat.le_of_ble_eq_true rfl) (Nat.le_of_ble_eq_true rfl) (tMo_bitOf hr_) rfl (Nat.le_of_ble_eq_true rfl) dX12_chain_216) (fun r24 => ?_)
  refine r_if_eq (pc := 219) ok 236 dX12_chain_219 rfl (fun _ => ?_) (fun _ => ?_)
  · refine r_iinc (pc := 236) ok (1 : Int32) dX12_chain_236 ci_1 rfl (Nat.le_of_ble_eq_true rfl) rfl ?_
    refine r_goto (pc := 239) ok 197 dX12_chain_239 rfl ?_
    exact hc (a + (1 : Int32))
  · refine r_aload_n (pc := 222) ok dX12_chain_222 rfl ?_
    refine r_getR (pc := 223) ok cls12 sh_225 (k := 27) rfl (Nat.le_of_ble_eq_true rfl) rfl dX12_chain_223 fl_Mo_60 ?_
    refine r_iload (pc := 226) ok dX12_chain_226 rfl ?_
    refine r_iald (pc := 228) ok sh_235 (j := 10) rfl (mx_r (by decide) (va_up_self _ _ _)) dX12_chain_228 (fun i25 => ?_)
    refine r_iload_n (pc := 229) ok dX12_chain_229 rfl ?_
    refine r_iload (pc := 230) ok dX12_chain_230 rfl ?_
    refine r_isub (pc := 232) ok dX12_chain_232 ?_
    refine r_icmp_eq (pc := 233) ok 242 dX12_chain_233 rfl (fun _ => ?_) (fun _ => ?_)
    · exact hx a
    · refine r_iinc (pc := 236) ok (1 : Int32) dX12_chain_236 ci_1 rfl (Nat.le_of_ble_eq_true rfl) rfl ?_
      refine r_goto (pc := 239) ok 197 dX12_chain_239 rfl ?_
      exact hc (a + (1 : Int32))
theorem wMo_chain_L188 {Z : Cx} {G : Gx} {b : Nat} {XX YY : Nat → Obj} {v3 : Int32} (ok : OK Z G b cX12_chain 6 2 RX12 (some .int)) {K : ((Int32 × Obj) ⊕ (Obj)) → Option (Int32 × Obj)} (hc : ∀ (a : Int32 × Obj), VO Z G b 6 (fun (r : Int32 × Obj) => QX Z b (qI G b r.1 (mx XX (va_up YY 225 r.2)))) (mx XX (va_up YY 225 a.2)) 188 [some (.ref (b + 225)), none, none, some (.int v3), some (.int a.1), none] [] (K (.inl a))) (hx : ∀ (e : Obj), VO Z G b 6 (fun (r : Int32 × Obj) => QX Z b (qI G b r.1 (mx XX (va_up YY 225 r.2)))) (mx XX (va_up YY 225 e)) 257 [some (.ref (b + 225)), none, none, some (.int v3), none, none] [] (K (.inr e))) : ∀ (a : Int32 × Obj), VO Z G b 6 (fun (r : Int32 × Obj) => QX Z b (qI G b r.1 (mx XX (va_up YY 225 r.2)))) (mx XX (va_up YY 225 a.2)) 188 [some (.ref (b + 225)), none, none, some (.int v3), some (.int a.1), none] [] ((fMo_chain_L188 v3 a).bind K) := by
  intro a
  unfold fMo_chain_L188
  refine r_iload (pc := 188) ok dX12_chain_188 rfl ?_
  refine r_iload_n (pc := 190) ok dX12_chain_190 rfl ?_
  refine r_icmp_gt (pc := 191) ok 257 dX12_chain_191 rfl (fun _ => ?_) (fun _ => ?_)
  · refine r_lv (lk_s (lk_n (lk_n (lk_s (lk_n (lk_n lk_0 _) _) _) _) _) _) ?_
    exact hx a.2
  · refine r_iconst (pc := 194) ok (0 : Int32) dX12_chain_194 ci_0 ?_
    refine r_istore (pc := 195) ok dX12_chain_195 (Nat.le_of_ble_eq_true rfl) rfl ?_
    refine r_iter (P := fun (a197 : Int32) o => VO Z G b 6 (fun (r : Int32 × Obj) => QX Z b (qI G b r.1 (mx XX (va_up YY 225 r.2)))) (mx XX (va_up YY 225 a.2)) 197 [some (.ref (b + 225)), none, none, some (.int v3), some (.int a.1), some (.int a197)] [] o) (E := fun (e_197 : Int32) o => VO Z G b 6 (fun (r : Int32 × Obj) => QX Z b (qI G b r.1 (mx XX (va_up YY 225 r.2)))) (mx XX (va_up YY 225 a.2)) 242 [some (.ref (b + 225)), none, none, some (.int v3), some (.int a.1), some (.int e_197)] [] o) (fun _ => r_none) (fun K hc hx => wMo_chain_L197 ok (K := K) hc hx) (fun e26 => ?_) FU (0 : Int32)
    refine r_aload_n (pc := 242) ok dX12_chain_242 rfl ?_
    refine r_getR (pc := 243) ok cls12 sh_225 (k := 28) rfl (Nat.le_of_ble_eq_true rfl) rfl dX12_chain_243 fl_Mo_63 ?_
    refine r_iload (pc := 246) ok dX12_chain_246 rfl ?_
    refine r_iload (pc := 248) ok dX12_chain_248 rfl ?_
    refine r_iast (pc := 250) ok sh_236 (j := 11) rfl rfl (fun s_ => mx XX (va_up YY 225 s_)) (pm_r _ _).1 (pm_r _ _).2 dX12_chain_250 (fun i27 s28 => ?_)
    refine r_iinc (pc := 251) ok (1 : Int32) dX12_chain_251 ci_1 rfl (Nat.le_of_ble_eq_true rfl) rfl ?_
    refine r_goto (pc := 254) ok 188 dX12_chain_254 rfl ?_
    refine r_lv (lk_s (lk_n (lk_n (lk_s (lk_s (lk_n lk_0 _) _) _) _) _) _) ?_
    exact hc ((a.1 + (1 : Int32)), s28)
theorem vMo_chain {Z : Cx} {G : Gx} {b : Nat} {XX YY : Nat → Obj} {m : Obj} {v1 : Int32} {v2 : Int32} (ok : OK Z G b cX12_chain 6 2 RX12 (some .int)) : VO Z G b 6 (fun (r : Int32 × Obj) => QX Z b (qI G b r.1 (mx XX (va_up YY 225 r.2)))) (mx XX (va_up YY 225 m)) 0 [some (.ref (b + 225)), some (.int v1), some (.int v2), none, none, none] [] ((fMo_chain m v1 v2).bind some) := by
  unfold fMo_chain
  refine r_aload_n (pc := 0) ok dX12_chain_0 rfl ?_
  refine r_iconst (pc := 1) ok (0 : Int32) dX12_chain_1 ci_0 ?_
  refine r_putI (pc := 2) ok cls12 sh_225 (k := 0) rfl (Nat.le_of_ble_eq_true rfl) (fun s_ => mx XX (va_up YY 225 s_)) (pm_r _ _).1 (pm_r _ _).2 rfl rfl rfl dX12_chain_2 fl_Mo_1 (fun s1 => ?_)
  refine r_aload_n (pc := 5) ok dX12_chain_5 rfl ?_
  refine r_iload_n (pc := 6) ok dX12_chain_6 rfl ?_
  refine k_I (pc := 7) (fun r2 => r2) (fun r2 => mx XX (va_up YY 225 s1)) (fun r2 hr_ => c_V (n := 1) ok cls12 sh_225 rfl ml_Mo_290 wv_X12_isPerson yk_X12_isPerson rfl (Nat.le_of_ble_eq_true rfl) (Nat.le_of_ble_eq_true rfl) (tMo_isPerson (va_up_self _ _ _) hr_) rfl (Nat.le_of_ble_eq_true rfl) dX12_chain_7) (fun r2 => ?_)
  refine r_if_eq (pc := 10) ok 21 dX12_chain_10 rfl (fun _ => ?_) (fun _ => ?_)
  · refine r_iconst (pc := 21) ok (-1 : Int32) dX12_chain_21 ci_m1 ?_
    exact r_iret (pc := 22) ok dX12_chain_22 rfl
  · refine r_aload_n (pc := 13) ok dX12_chain_13 rfl ?_
    refine r_iload_n (pc := 14) ok dX12_chain_14 rfl ?_
    refine k_I (pc := 15) (fun r3 => r3) (fun r3 => mx XX (va_up YY 225 s1)) (fun r3 hr_ => c_V (n := 1) ok cls12 sh_225 rfl ml_Mo_290 wv_X12_isPerson yk_X12_isPerson rfl (Nat.le_of_ble_eq_true rfl) (Nat.le_of_ble_eq_true rfl) (tMo_isPerson (va_up_self _ _ _) hr_) rfl (Nat.le_of_ble_eq_true rfl) dX12_chain_15) (fun r3 => ?_)
    refine r_if_ne (pc := 18) ok 23 dX12_chain_18 rfl (fun _ => ?_) (fun _ => ?_)
    · refine r_iconst (pc := 21) ok (-1 : Int32) dX12_chain_21 ci_m1 ?_
      exact r_iret (pc := 22) ok dX12_chain_22 rfl
    · refine r_iconst (pc := 23) ok (0 : Int32) dX12_chain_23 ci_0 ?_
      refine r_istore_n (pc := 24) ok dX12_chain_24 (Nat.le_of_ble_eq_true rfl) rfl ?_
      refine r_iter (P := fun (a25 : Int32 × Obj) o => VO Z G b 6 (fun (r : Int32 × Obj) => QX Z b (qI G b r.1 (mx XX (va_up YY 225 r.2)))) (mx XX (va_up YY 225 a25.2)) 25 [some (.ref (b + 225)), some (.int v1), some (.int v2), some (.int a25.1), none, none] [] o) (E := fun (e_25 : Obj) o => VO Z G b 6 (fun (r : Int32 × Obj) => QX Z b (qI G b r.1 (mx XX (va_up YY 225 r.2)))) (mx XX (va_up YY 225 e_25)) 55 [some (.ref (b + 225)), some (.int v1), none, none, none, none] [] o) (fun _ => r_none) (fun K hc hx => wMo_chain_L25 ok (K := K) hc hx) (fun e8 => ?_) FU ((0 : Int32), s1)
      refine r_iconst (pc := 55) ok (0 : Int32) dX12_chain_55 ci_0 ?_
      refine r_istore_n (pc := 56) ok dX12_chain_56 (Nat.le_of_ble_eq_true rfl) rfl ?_
      refine r_iter (P := fun (a57 : Int32 × Obj) o => VO Z G b 6 (fun (r : Int32 × Obj) => QX Z b (qI G b r.1 (mx XX (va_up YY 225 r.2)))) (mx XX (va_up YY 225 a57.2)) 57 [some (.ref (b + 225)), some (.int v1), none, some (.int a57.1), none, none] [] o) (E := fun (e_57 : Obj) o => VO Z G b 6 (fun (r : Int32 × Obj) => QX Z b (qI G b r.1 (mx XX (va_up YY 225 r.2)))) (mx XX (va_up YY 225 e_57)) 162 [some (.ref (b + 225)), some (.int v1), none, none, none, none] [] o) (fun _ => r_none) (fun K hc hx => wMo_chain_L57 ok (K := K) hc hx) (fun e18 => ?_) FU ((0 : Int32), e8)
      refine r_aload_n (pc := 162) ok dX12_chain_162 rfl ?_
      refine r_getR (pc := 163) ok cls12 sh_225 (k := 27) rfl (Nat.le_of_ble_eq_true rfl) rfl dX12_chain_163 fl_Mo_60 ?_
      refine r_iload_n (pc := 166) ok dX12_chain_166 rfl ?_
      refine r_iald (pc := 167) ok sh_235 (j := 10) rfl (mx_r (by decide) (va_up_self _ _ _)) dX12_chain_167 (fun i19 => ?_)
      refine r_bndI (fun x20 => ?_)
      refine r_istore_n (pc := 168) ok dX12_chain_168 (Nat.le_of_ble_eq_true rfl) rfl ?_
      refine r_iload_n (pc := 169) ok dX12_chain_169 rfl ?_
      refine r_ldcw (pc := 170) ok (1000000 : Int32) dX12_chain_170 cst_Mo_306 ?_
      refine r_icmp_lt (pc := 173) ok 178 dX12_chain_173 rfl (fun _ => ?_) (fun _ => ?_)
      · refine r_aload_n (pc := 178) ok dX12_chain_178 rfl ?_
        refine r_getR (pc := 179) ok cls12 sh_225 (k := 28) rfl (Nat.le_of_ble_eq_true rfl) rfl dX12_chain_179 fl_Mo_63 ?_
        refine r_iconst (pc := 182) ok (0 : Int32) dX12_chain_182 ci_0 ?_
        refine r_iload_n (pc := 183) ok dX12_chain_183 rfl ?_
        refine r_iastc (pc := 184) ok sh_236 (j := 11) rfl (i := 0) (by decide +kernel) rfl (fun s_ => mx XX (va_up YY 225 s_)) (pm_r _ _).1 (pm_r _ _).2 dX12_chain_184 (fun s21 => ?_)
        refine r_iconst (pc := 185) ok (1 : Int32) dX12_chain_185 ci_1 ?_
        refine r_istore (pc := 186) ok dX12_chain_186 (Nat.le_of_ble_eq_true rfl) rfl ?_
        refine r_lv (lk_s (lk_n (lk_n (lk_s (lk_s (lk_n lk_0 _) _) _) _) _) _) ?_
        refine r_iter (P := fun (a188 : Int32 × Obj) o => VO Z G b 6 (fun (r : Int32 × Obj) => QX Z b (qI G b r.1 (mx XX (va_up YY 225 r.2)))) (mx XX (va_up YY 225 a188.2)) 188 [some (.ref (b + 225)), none, none, some (.int x20), some (.int a188.1), none] [] o) (E := fun (e_188 : Obj) o => VO Z G b 6 (fun (r : Int32 × Obj) => QX Z b (qI G b r.1 (mx XX (va_up YY 225 r.2)))) (mx XX (va_up YY 225 e_188)) 257 [some (.ref (b + 225)), none, none, some (.int x20), none, none] [] o) (fun _ => r_none) (fun K hc hx => wMo_chain_L188 ok (K := K) hc hx) (fun e29 => ?_) FU ((1 : Int32), s21)
        refine r_aload_n (pc := 257) ok dX12_chain_257 rfl ?_
        refine r_iload_n (pc := 258) ok dX12_chain_258 rfl ?_
        refine r_iconst (pc := 259) ok (1 : Int32) dX12_chain_259 ci_1 ?_
        refine r_iadd (pc := 260) ok dX12_chain_260 ?_
        refine r_putI (pc := 261) ok cls12 sh_225 (k := 29) rfl (Nat.le_of_ble_eq_true rfl) (fun s_ => mx XX (va_up YY 225 s_)) (pm_r _ _).1 (pm_r _ _).2 rfl rfl rfl dX12_chain_261 fl_Mo_66 (fun s30 => ?_)
        refine r_iload_n (pc := 264) ok dX12_chain_264 rfl ?_
        exact r_iret (pc := 265) ok dX12_chain_265 rfl
      · refine r_iconst (pc := 176) ok (-1 : Int32) dX12_chain_176 ci_m1 ?_
        exact r_iret (pc := 177) ok dX12_chain_177 rfl
theorem tMo_chain {l : Launch} {G : Gx} {b : Nat} {XX YY : Nat → Obj} {m : Obj} {v1 : Int32} {v2 : Int32} {r : Int32 × Obj} (hr : fMo_chain m v1 v2 = some r) : MetG l G b yX12_chain cX12_chain 6 (some .int) 2 [.ref (b + 225), .int v1, .int v2] (mx XX (va_up YY 225 m)) (qI G b r.1 (mx XX (va_up YY 225 r.2))) := by
  refine met_start [some (.ref (b + 225)), some (.int v1), some (.int v2), none, none, none] (by decide +kernel) (Nat.le_of_ble_eq_true rfl) rfl (fun Z hl ok => ?_)
  clear hl
  exact vMo_chain ok r (by rw [hr]; rfl)
theorem vMo_chainAt {Z : Cx} {G : Gx} {b : Nat} {XX YY : Nat → Obj} {m : Obj} {v1 : Int32} (ok : OK Z G b cX12_chainAt 2 1 RX12 (some .int)) : VO Z G b 2 (fun (r : Int32 × Obj) => QX Z b (qI G b r.1 (mx XX (va_up YY 225 r.2)))) (mx XX (va_up YY 225 m)) 0 [some (.ref (b + 225)), some (.int v1)] [] ((fMo_chainAt m v1).bind some) := by
  unfold fMo_chainAt
  refine r_aload_n (pc := 0) ok dX12_chainAt_0 rfl ?_
  refine r_iconst (pc := 1) ok (0 : Int32) dX12_chainAt_1 ci_0 ?_
  refine r_putI (pc := 2) ok cls12 sh_225 (k := 0) rfl (Nat.le_of_ble_eq_true rfl) (fun s_ => mx XX (va_up YY 225 s_)) (pm_r _ _).1 (pm_r _ _).2 rfl rfl rfl dX12_chainAt_2 fl_Mo_1 (fun s1 => ?_)
  refine r_iload_n (pc := 5) ok dX12_chainAt_5 rfl ?_
  refine r_iconst (pc := 6) ok (0 : Int32) dX12_chainAt_6 ci_0 ?_
  refine r_aload_n (pc := 7) ok dX12_chainAt_7 rfl ?_
  refine r_getI (pc := 8) ok cls12 sh_225 (k := 29) rfl (Nat.le_of_ble_eq_true rfl) (mx_r (by decide) (va_up_self _ _ _)) dX12_chainAt_8 fl_Mo_66 ?_
  refine r_iconst (pc := 11) ok (1 : Int32) dX12_chainAt_11 ci_1 ?_
  refine r_isub (pc := 12) ok dX12_chainAt_12 ?_
  refine k_I (pc := 13) (fun r2 => r2) (fun r2 => mx XX (va_up YY 225 s1)) (fun r2 hr_ => c_S (n := 3) ok ml_Mo_193 ws_X12_isIn yk_X12_isIn rfl (Nat.le_of_ble_eq_true rfl) (Nat.le_of_ble_eq_true rfl) (tMo_isIn hr_) rfl (Nat.le_of_ble_eq_true rfl) dX12_chainAt_13) (fun r2 => ?_)
  refine r_if_eq (pc := 16) ok 28 dX12_chainAt_16 rfl (fun _ => ?_) (fun _ => ?_)
  · refine r_iconst (pc := 28) ok (-1 : Int32) dX12_chainAt_28 ci_m1 ?_
    exact r_iret (pc := 29) ok dX12_chainAt_29 rfl
  · refine r_aload_n (pc := 19) ok dX12_chainAt_19 rfl ?_
    refine r_getR (pc := 20) ok cls12 sh_225 (k := 28) rfl (Nat.le_of_ble_eq_true rfl) rfl dX12_chainAt_20 fl_Mo_63 ?_
    refine r_iload_n (pc := 23) ok dX12_chainAt_23 rfl ?_
    refine r_iald (pc := 24) ok sh_236 (j := 11) rfl (mx_r (by decide) (va_up_self _ _ _)) dX12_chainAt_24 (fun i3 => ?_)
    refine r_goto (pc := 25) ok 29 dX12_chainAt_25 rfl ?_
    exact r_iret (pc := 29) ok dX12_chainAt_29 rfl
theorem tMo_chainAt {l : Launch} {G : Gx} {b : Nat} {XX YY : Nat → Obj} {m : Obj} {v1 : Int32} {r : Int32 × Obj} (hr : fMo_chainAt m v1 = some r) : MetG l G b yX12_chainAt cX12_chainAt 2 (some .int) 1 [.ref (b + 225), .int v1] (mx XX (va_up YY 225 m)) (qI G b r.1 (mx XX (va_up YY 225 r.2))) := by
  refine met_start [some (.ref (b + 225)), some (.int v1)] (by decide +kernel) (Nat.le_of_ble_eq_true rfl) rfl (fun Z hl ok => ?_)
  clear hl
  exact vMo_chainAt ok r (by rw [hr]; rfl)
theorem wMo_isMeant_L4 {Z : Cx} {G : Gx} {b : Nat} {XX YY : Nat → Obj} {m : Obj} {v1 : Int32} (ok : OK Z G b cX12_isMeant 4 1 RX12 (some .boolean)) (hm : YY 225 = m) {K : ((Int32 × Int32) ⊕ (Int32)) → Option (Int32)} (hc : ∀ (a : Int32 × Int32), VO Z G b 4 (fun (r : Int32) => QX Z b (qI G b r (mx XX YY))) (mx XX YY) 4 [some (.ref (b + 225)), some (.int v1), some (.int a.1), some (.int a.2)] [] (K (.inl a))) (hx : ∀ (e : Int32), VO Z G b 4 (fun (r : Int32) => QX Z b (qI G b r (mx XX YY))) (mx XX YY) 64 [none, none, some (.int e), none] [] (K (.inr e))) : ∀ (a : Int32 × Int32), VO Z G b 4 (fun (r : Int32) => QX Z b (qI G b r (mx XX YY))) (mx XX YY) 4 [some (.ref (b + 225)), some (.int v1), some (.int a.1), some (.int a.2)] [] ((fMo_isMeant_L4 m v1 a).bind K) := by
  intro a
  unfold fMo_isMeant_L4
  refine r_iload_n (pc := 4) ok dX12_isMeant_4 rfl ?_
  refine r_aload_n (pc := 5) ok dX12_isMeant_5 rfl ?_
  refine r_getI (pc := 6) ok cls12 sh_225 (k := 3) rfl (Nat.le_of_ble_eq_true rfl) (mx_r (by decide) hm) dX12_isMeant_6 fl_Mo_18 ?_
  refine r_icmp_ge (pc := 9) ok 64 dX12_isMeant_9 rfl (fun _ => ?_) (fun _ => ?_)
  · refine r_lv (lk_n (lk_n (lk_s (lk_n lk_0 _) _) _) _) ?_
    exact hx a.1
  · refine r_iload_n (pc := 12) ok dX12_isMeant_12 rfl ?_
    refine r_if_eq (pc := 13) ok 64 dX12_isMeant_13 rfl (fun _ => ?_) (fun _ => ?_)
    · refine r_lv (lk_n (lk_n (lk_s (lk_n lk_0 _) _) _) _) ?_
      exact hx a.1
    · refine r_aload_n (pc := 16) ok dX12_isMeant_16 rfl ?_
      refine r_iload_n (pc := 17) ok dX12_isMeant_17 rfl ?_
      refine k_I (pc := 18) (fun r1 => r1) (fun r1 => mx XX YY) (fun r1 hr_ => c_V (n := 1) ok cls12 sh_225 rfl ml_Mo_361 wv_X12_octet yk_X12_octet rfl (Nat.le_of_ble_eq_true rfl) (Nat.le_of_ble_eq_true rfl) (tMo_octet (hm) hr_) rfl (Nat.le_of_ble_eq_true rfl) dX12_isMeant_18) (fun r1 => ?_)
      refine r_iload_n (pc := 21) ok dX12_isMeant_21 rfl ?_
      refine r_icmp_eq (pc := 22) ok 56 dX12_isMeant_22 rfl (fun _ => ?_) (fun _ => ?_)
      · refine r_iconst (pc := 56) ok (0 : Int32) dX12_isMeant_56 ci_0 ?_
        refine r_istore_n (pc := 57) ok dX12_isMeant_57 (Nat.le_of_ble_eq_true rfl) rfl ?_
        refine r_iinc (pc := 58) ok (2 : Int32) dX12_isMeant_58 ci_2 rfl (Nat.le_of_ble_eq_true rfl) rfl ?_
        refine r_goto (pc := 61) ok 4 dX12_isMeant_61 rfl ?_
        exact hc ((0 : Int32), (a.2 + (2 : Int32)))
      · refine r_aload_n (pc := 25) ok dX12_isMeant_25 rfl ?_
        refine r_getR (pc := 26) ok cls12 sh_225 (k := 6) rfl (Nat.le_of_ble_eq_true rfl) rfl dX12_isMeant_26 fl_Mo_33 ?_
        refine r_bipush (pc := 29) ok (113 : Int32) dX12_isMeant_29 cb_113 ?_
        refine r_aload_n (pc := 31) ok dX12_isMeant_31 rfl ?_
        refine r_iload_n (pc := 32) ok dX12_isMeant_32 rfl ?_
        refine k_I (pc := 33) (fun r2 => r2) (fun r2 => mx XX YY) (fun r2 hr_ => c_V (n := 1) ok cls12 sh_225 rfl ml_Mo_361 wv_X12_octet yk_X12_octet rfl (Nat.le_of_ble_eq_true rfl) (Nat.le_of_ble_eq_true rfl) (tMo_octet (hm) hr_) rfl (Nat.le_of_ble_eq_true rfl) dX12_isMeant_33) (fun r2 => ?_)
        refine r_iadd (pc := 36) ok dX12_isMeant_36 ?_
        refine r_iald (pc := 37) ok sh_227 (j := 2) rfl (mx_r (by decide) hm) dX12_isMeant_37 (fun i3 => ?_)
        refine r_iload_n (pc := 38) ok dX12_isMeant_38 rfl ?_
        refine r_ishr (pc := 39) ok dX12_isMeant_39 ?_
        refine r_iconst (pc := 40) ok (1 : Int32) dX12_isMeant_40 ci_1 ?_
        refine r_iand (pc := 41) ok dX12_isMeant_41 ?_
        refine r_aload_n (pc := 42) ok dX12_isMeant_42 rfl ?_
        refine r_iload_n (pc := 43) ok dX12_isMeant_43 rfl ?_
        refine r_iconst (pc := 44) ok (1 : Int32) dX12_isMeant_44 ci_1 ?_
        refine r_iadd (pc := 45) ok dX12_isMeant_45 ?_
        refine k_I (pc := 46) (fun r4 => r4) (fun r4 => mx XX YY) (fun r4 hr_ => c_V (n := 1) ok cls12 sh_225 rfl ml_Mo_361 wv_X12_octet yk_X12_octet rfl (Nat.le_of_ble_eq_true rfl) (Nat.le_of_ble_eq_true rfl) (tMo_octet (hm) hr_) rfl (Nat.le_of_ble_eq_true rfl) dX12_isMeant_46) (fun r4 => ?_)
        refine r_icmp_ne (pc := 49) ok 56 dX12_isMeant_49 rfl (fun _ => ?_) (fun _ => ?_)
        · refine r_iconst (pc := 52) ok (1 : Int32) dX12_isMeant_52 ci_1 ?_
          refine r_goto (pc := 53) ok 57 dX12_isMeant_53 rfl ?_
          refine r_istore_n (pc := 57) ok dX12_isMeant_57 (Nat.le_of_ble_eq_true rfl) rfl ?_
          refine r_iinc (pc := 58) ok (2 : Int32) dX12_isMeant_58 ci_2 rfl (Nat.le_of_ble_eq_true rfl) rfl ?_
          refine r_goto (pc := 61) ok 4 dX12_isMeant_61 rfl ?_
          exact hc ((1 : Int32), (a.2 + (2 : Int32)))
        · refine r_iconst (pc := 56) ok (0 : Int32) dX12_isMeant_56 ci_0 ?_
          refine r_istore_n (pc := 57) ok dX12_isMeant_57 (Nat.le_of_ble_eq_true rfl) rfl ?_
          refine r_iinc (pc := 58) ok (2 : Int32) dX12_isMeant_58 ci_2 rfl (Nat.le_of_ble_eq_true rfl) rfl ?_
          refine r_goto (pc := 61) ok 4 dX12_isMeant_61 rfl ?_
          exact hc ((0 : Int32), (a.2 + (2 : Int32)))
theorem vMo_isMeant {Z : Cx} {G : Gx} {b : Nat} {XX YY : Nat → Obj} {m : Obj} {v1 : Int32} (ok : OK Z G b cX12_isMeant 4 1 RX12 (some .boolean)) (hm : YY 225 = m) : VO Z G b 4 (fun (r : Int32) => QX Z b (qI G b r (mx XX YY))) (mx XX YY) 0 [some (.ref (b + 225)), some (.int v1), none, none] [] ((fMo_isMeant m v1).bind some) := by
  unfold fMo_isMeant
  refine r_iconst (pc := 0) ok (1 : Int32) dX12_isMeant_0 ci_1 ?_
  refine r_istore_n (pc := 1) ok dX12_isMeant_1 (Nat.le_of_ble_eq_true rfl) rfl ?_
  refine r_iconst (pc := 2) ok (0 : Int32) dX12_isMeant_2 ci_0 ?_
  refine r_istore_n (pc := 3) ok dX12_isMeant_3 (Nat.le_of_ble_eq_true rfl) rfl ?_
  refine r_iter (P := fun (a4 : Int32 × Int32) o => VO Z G b 4 (fun (r : Int32) => QX Z b (qI G b r (mx XX YY))) (mx XX YY) 4 [some (.ref (b + 225)), some (.int v1), some (.int a4.1), some (.int a4.2)] [] o) (E := fun (e_4 : Int32) o => VO Z G b 4 (fun (r : Int32) => QX Z b (qI G b r (mx XX YY))) (mx XX YY) 64 [none, none, some (.int e_4), none] [] o) (fun _ => r_none) (fun K hc hx => wMo_isMeant_L4 ok hm (K := K) hc hx) (fun e5 => ?_) FU ((1 : Int32), (0 : Int32))
  refine r_iload_n (pc := 64) ok dX12_isMeant_64 rfl ?_
  exact r_zret (pc := 65) ok dX12_isMeant_65 rfl rfl
theorem tMo_isMeant {l : Launch} {G : Gx} {b : Nat} {XX YY : Nat → Obj} {m : Obj} {v1 : Int32} (hm : YY 225 = m) {r : Int32} (hr : fMo_isMeant m v1 = some r) : MetG l G b yX12_isMeant cX12_isMeant 4 (some .boolean) 1 [.ref (b + 225), .int v1] (mx XX YY) (qI G b r (mx XX YY)) := by
  refine met_start [some (.ref (b + 225)), some (.int v1), none, none] (by decide +kernel) (Nat.le_of_ble_eq_true rfl) rfl (fun Z hl ok => ?_)
  clear hl
  exact vMo_isMeant ok hm r (by rw [hr]; rfl)
theorem vMo_leftBy {Z : Cx} {G : Gx} {b : Nat} {XX YY : Nat → Obj} {m : Obj} {v1 : Int32} {v2 : Int32} (ok : OK Z G b cX12_leftBy 5 1 RX12 (some .int)) (hm : YY 225 = m) : VO Z G b 5 (fun (r : Int32) => QX Z b (qI G b r (mx XX YY))) (mx XX YY) 0 [some (.ref (b + 225)), some (.int v1), some (.int v2), none, none] [] ((fMo_leftBy m v1 v2).bind some) := by
  unfold fMo_leftBy
  refine r_iload_n (pc := 0) ok dX12_leftBy_0 rfl ?_
  refine r_aload_n (pc := 1) ok dX12_leftBy_1 rfl ?_
  refine r_getR (pc := 2) ok cls12 sh_225 (k := 6) rfl (Nat.le_of_ble_eq_true rfl) rfl dX12_leftBy_2 fl_Mo_33 ?_
  refine r_bipush (pc := 5) ok (113 : Int32) dX12_leftBy_5 cb_113 ?_
  refine r_iload_n (pc := 7) ok dX12_leftBy_7 rfl ?_
  refine r_iadd (pc := 8) ok dX12_leftBy_8 ?_
  refine r_iald (pc := 9) ok sh_227 (j := 2) rfl (mx_r (by decide) hm) dX12_leftBy_9 (fun i1 => ?_)
  refine r_iand (pc := 10) ok dX12_leftBy_10 ?_
  refine k_I (pc := 11) (fun r2 => r2) (fun r2 => mx XX YY) (fun r2 hr_ => c_S (n := 1) ok ml_Mo_348 ws_X12_bits yk_X12_bits rfl (Nat.le_of_ble_eq_true rfl) (Nat.le_of_ble_eq_true rfl) (tMo_bits hr_) rfl (Nat.le_of_ble_eq_true rfl) dX12_leftBy_11) (fun r2 => ?_)
  refine r_istore_n (pc := 14) ok dX12_leftBy_14 (Nat.le_of_ble_eq_true rfl) rfl ?_
  refine r_iload_n (pc := 15) ok dX12_leftBy_15 rfl ?_
  refine r_iload_n (pc := 16) ok dX12_leftBy_16 rfl ?_
  refine r_ishr (pc := 17) ok dX12_leftBy_17 ?_
  refine r_iconst (pc := 18) ok (1 : Int32) dX12_leftBy_18 ci_1 ?_
  refine r_iand (pc := 19) ok dX12_leftBy_19 ?_
  refine r_bndI (fun x3 => ?_)
  refine r_istore (pc := 20) ok dX12_leftBy_20 (Nat.le_of_ble_eq_true rfl) rfl ?_
  refine r_iload_n (pc := 22) ok dX12_leftBy_22 rfl ?_
  refine r_iload_n (pc := 23) ok dX12_leftBy_23 rfl ?_
  refine k_I (pc := 24) (fun r4 => r4) (fun r4 => mx XX YY) (fun r4 hr_ => c_S (n := 1) ok ml_Mo_348 ws_X12_bits yk_X12_bits rfl (Nat.le_of_ble_eq_true rfl) (Nat.le_of_ble_eq_true rfl) (tMo_bits hr_) rfl (Nat.le_of_ble_eq_true rfl) dX12_leftBy_24) (fun r4 => ?_)
  refine r_iload_n (pc := 27) ok dX12_leftBy_27 rfl ?_
  refine r_isub (pc := 28) ok dX12_leftBy_28 ?_
  refine r_iload (pc := 29) ok dX12_leftBy_29 rfl ?_
  refine r_isub (pc := 31) ok dX12_leftBy_31 ?_
  refine k_I (pc := 32) (fun r5 => r5) (fun r5 => mx XX YY) (fun r5 hr_ => c_S (n := 2) ok ml_Mo_364 ws_X12_greater yk_X12_greater rfl (Nat.le_of_ble_eq_true rfl) (Nat.le_of_ble_eq_true rfl) (tMo_greater hr_) rfl (Nat.le_of_ble_eq_true rfl) dX12_leftBy_32) (fun r5 => ?_)
  refine r_iload (pc := 35) ok dX12_leftBy_35 rfl ?_
  refine k_I (pc := 37) (fun r6 => r6) (fun r6 => mx XX YY) (fun r6 hr_ => c_S (n := 2) ok ml_Mo_364 ws_X12_greater yk_X12_greater rfl (Nat.le_of_ble_eq_true rfl) (Nat.le_of_ble_eq_true rfl) (tMo_greater hr_) rfl (Nat.le_of_ble_eq_true rfl) dX12_leftBy_37) (fun r6 => ?_)
  exact r_iret (pc := 40) ok dX12_leftBy_40 rfl
theorem tMo_leftBy {l : Launch} {G : Gx} {b : Nat} {XX YY : Nat → Obj} {m : Obj} {v1 : Int32} {v2 : Int32} (hm : YY 225 = m) {r : Int32} (hr : fMo_leftBy m v1 v2 = some r) : MetG l G b yX12_leftBy cX12_leftBy 5 (some .int) 1 [.ref (b + 225), .int v1, .int v2] (mx XX YY) (qI G b r (mx XX YY)) := by
  refine met_start [some (.ref (b + 225)), some (.int v1), some (.int v2), none, none] (by decide +kernel) (Nat.le_of_ble_eq_true rfl) rfl (fun Z hl ok => ?_)
  clear hl
  exact vMo_leftBy ok hm r (by rw [hr]; rfl)
theorem wMo_who_L39 {Z : Cx} {G : Gx} {b : Nat} {XX YY : Nat → Obj} {m : Obj} (ok : OK Z G b cX12_who 3 2 RX12 (some .int)) {K : ((Int32) ⊕ ((Unit) ⊕ (Int32 × Obj))) → Option (Int32 × Obj)} (hc : ∀ (a : Int32), VO Z G b 3 (fun (r : Int32 × Obj) => QX Z b (qI G b r.1 (mx XX (va_up YY 225 r.2)))) (mx XX (va_up YY 225 m)) 39 [some (.ref (b + 225)), some (.int a), none] [] (K (.inl a))) (hx : ∀ (z : (Unit) ⊕ (Int32 × Obj)), (∀ (e : Unit), z = .inl e → VO Z G b 3 (fun (r : Int32 × Obj) => QX Z b (qI G b r.1 (mx XX (va_up YY 225 r.2)))) (mx XX (va_up YY 225 m)) 78 [some (.ref (b + 225)), none, none] [] (K (.inr z))) ∧ (∀ (r : Int32 × Obj), z = .inr r → K (.inr z) = some r)) : ∀ (a : Int32), VO Z G b 3 (fun (r : Int32 × Obj) => QX Z b (qI G b r.1 (mx XX (va_up YY 225 r.2)))) (mx XX (va_up YY 225 m)) 39 [some (.ref (b + 225)), some (.int a), none] [] ((fMo_who_L39 m a).bind K) := by
  intro a
  unfold fMo_who_L39
  refine r_iload_n (pc := 39) ok dX12_who_39 rfl ?_
  refine r_aload_n (pc := 40) ok dX12_who_40 rfl ?_
  refine r_getI (pc := 41) ok cls12 sh_225 (k := 3) rfl (Nat.le_of_ble_eq_true rfl) (mx_r (by decide) (va_up_self _ _ _)) dX12_who_41 fl_Mo_18 ?_
  refine r_icmp_ge (pc := 44) ok 78 dX12_who_44 rfl (fun _ => ?_) (fun _ => ?_)
  · refine r_lv (lk_s (lk_n (lk_n lk_0 _) _) _) ?_
    exact (hx (.inl ())).1 _ rfl
  · refine r_aload_n (pc := 47) ok dX12_who_47 rfl ?_
    refine r_aload_n (pc := 48) ok dX12_who_48 rfl ?_
    refine r_iload_n (pc := 49) ok dX12_who_49 rfl ?_
    refine k_I (pc := 50) (fun r4 => r4) (fun r4 => mx XX (va_up YY 225 m)) (fun r4 hr_ => c_V (n := 1) ok cls12 sh_225 rfl ml_Mo_361 wv_X12_octet yk_X12_octet rfl (Nat.le_of_ble_eq_true rfl) (Nat.le_of_ble_eq_true rfl) (tMo_octet (va_up_self _ _ _) hr_) rfl (Nat.le_of_ble_eq_true rfl) dX12_who_50) (fun r4 => ?_)
    refine k_I (pc := 53) (fun r5 => r5) (fun r5 => mx XX (va_up YY 225 m)) (fun r5 hr_ => c_V (n := 1) ok cls12 sh_225 rfl ml_Mo_290 wv_X12_isPerson yk_X12_isPerson rfl (Nat.le_of_ble_eq_true rfl) (Nat.le_of_ble_eq_true rfl) (tMo_isPerson (va_up_self _ _ _) hr_) rfl (Nat.le_of_ble_eq_true rfl) dX12_who_53) (fun r5 => ?_)
    refine r_if_eq (pc := 56) ok 70 dX12_who_56 rfl (fun _ => ?_) (fun _ => ?_)
    · refine r_iconst (pc := 70) ok (-1 : Int32) dX12_who_70 ci_m1 ?_
      refine r_eq ((hx (.inr ((-1 : Int32), m))).2 _ rfl) ?_
      exact r_iret (pc := 71) ok dX12_who_71 rfl
    · refine r_aload_n (pc := 59) ok dX12_who_59 rfl ?_
      refine r_iload_n (pc := 60) ok dX12_who_60 rfl ?_
      refine r_iconst (pc := 61) ok (1 : Int32) dX12_who_61 ci_1 ?_
      refine r_iadd (pc := 62) ok dX12_who_62 ?_
      refine k_I (pc := 63) (fun r6 => r6) (fun r6 => mx XX (va_up YY 225 m)) (fun r6 hr_ => c_V (n := 1) ok cls12 sh_225 rfl ml_Mo_361 wv_X12_octet yk_X12_octet rfl (Nat.le_of_ble_eq_true rfl) (Nat.le_of_ble_eq_true rfl) (tMo_octet (va_up_self _ _ _) hr_) rfl (Nat.le_of_ble_eq_true rfl) dX12_who_63) (fun r6 => ?_)
      refine r_iconst (pc := 66) ok (1 : Int32) dX12_who_66 ci_1 ?_
      refine r_icmp_le (pc := 67) ok 72 dX12_who_67 rfl (fun _ => ?_) (fun _ => ?_)
      · refine r_iinc (pc := 72) ok (2 : Int32) dX12_who_72 ci_2 rfl (Nat.le_of_ble_eq_true rfl) rfl ?_
        refine r_goto (pc := 75) ok 39 dX12_who_75 rfl ?_
        exact hc (a + (2 : Int32))
      · refine r_iconst (pc := 70) ok (-1 : Int32) dX12_who_70 ci_m1 ?_
        refine r_eq ((hx (.inr ((-1 : Int32), m))).2 _ rfl) ?_
        exact r_iret (pc := 71) ok dX12_who_71 rfl
theorem wMo_who_L82 {Z : Cx} {G : Gx} {b : Nat} {XX YY : Nat → Obj} {m : Obj} (ok : OK Z G b cX12_who 3 2 RX12 (some .int)) {K : ((Int32 × Int32) ⊕ (Int32)) → Option (Int32 × Obj)} (hc : ∀ (a : Int32 × Int32), VO Z G b 3 (fun (r : Int32 × Obj) => QX Z b (qI G b r.1 (mx XX (va_up YY 225 r.2)))) (mx XX (va_up YY 225 m)) 82 [some (.ref (b + 225)), some (.int a.1), some (.int a.2)] [] (K (.inl a))) (hx : ∀ (e : Int32), VO Z G b 3 (fun (r : Int32 × Obj) => QX Z b (qI G b r.1 (mx XX (va_up YY 225 r.2)))) (mx XX (va_up YY 225 m)) 116 [some (.ref (b + 225)), some (.int e), none] [] (K (.inr e))) : ∀ (a : Int32 × Int32), VO Z G b 3 (fun (r : Int32 × Obj) => QX Z b (qI G b r.1 (mx XX (va_up YY 225 r.2)))) (mx XX (va_up YY 225 m)) 82 [some (.ref (b + 225)), some (.int a.1), some (.int a.2)] [] ((fMo_who_L82 m a).bind K) := by
  intro a
  unfold fMo_who_L82
  refine r_iload_n (pc := 82) ok dX12_who_82 rfl ?_
  refine r_aload_n (pc := 83) ok dX12_who_83 rfl ?_
  refine r_getR (pc := 84) ok cls12 sh_225 (k := 6) rfl (Nat.le_of_ble_eq_true rfl) rfl dX12_who_84 fl_Mo_33 ?_
  refine r_iconst (pc := 87) ok (1 : Int32) dX12_who_87 ci_1 ?_
  refine r_ialdc (pc := 88) ok sh_227 (j := 2) rfl (i := 1) (by decide +kernel) (mx_r (by decide) (va_up_self _ _ _)) dX12_who_88 ?_
  refine r_icmp_ge (pc := 89) ok 116 dX12_who_89 rfl (fun _ => ?_) (fun _ => ?_)
  · refine r_lv (lk_s (lk_s (lk_n lk_0 _) _) _) ?_
    exact hx a.1
  · refine r_iload_n (pc := 92) ok dX12_who_92 rfl ?_
    refine r_aload_n (pc := 93) ok dX12_who_93 rfl ?_
    refine r_iload_n (pc := 94) ok dX12_who_94 rfl ?_
    refine k_I (pc := 95) (fun r8 => r8) (fun r8 => mx XX (va_up YY 225 m)) (fun r8 hr_ => c_V (n := 1) ok cls12 sh_225 rfl ml_Mo_367 wv_X12_isMeant yk_X12_isMeant rfl (Nat.le_of_ble_eq_true rfl) (Nat.le_of_ble_eq_true rfl) (tMo_isMeant (va_up_self _ _ _) hr_) rfl (Nat.le_of_ble_eq_true rfl) dX12_who_95) (fun r8 => ?_)
    refine r_if_eq (pc := 98) ok 107 dX12_who_98 rfl (fun _ => ?_) (fun _ => ?_)
    · refine r_iconst (pc := 107) ok (0 : Int32) dX12_who_107 ci_0 ?_
      refine r_ior (pc := 108) ok dX12_who_108 ?_
      refine r_bndI (fun x9 => ?_)
      refine r_istore_n (pc := 109) ok dX12_who_109 (Nat.le_of_ble_eq_true rfl) rfl ?_
      refine r_iinc (pc := 110) ok (1 : Int32) dX12_who_110 ci_1 rfl (Nat.le_of_ble_eq_true rfl) rfl ?_
      refine r_goto (pc := 113) ok 82 dX12_who_113 rfl ?_
      exact hc (x9, (a.2 + (1 : Int32)))
    · refine r_iconst (pc := 101) ok (1 : Int32) dX12_who_101 ci_1 ?_
      refine r_iload_n (pc := 102) ok dX12_who_102 rfl ?_
      refine r_ishl (pc := 103) ok dX12_who_103 ?_
      refine r_goto (pc := 104) ok 108 dX12_who_104 rfl ?_
      refine r_ior (pc := 108) ok dX12_who_108 ?_
      refine r_bndI (fun x10 => ?_)
      refine r_istore_n (pc := 109) ok dX12_who_109 (Nat.le_of_ble_eq_true rfl) rfl ?_
      refine r_iinc (pc := 110) ok (1 : Int32) dX12_who_110 ci_1 rfl (Nat.le_of_ble_eq_true rfl) rfl ?_
      refine r_goto (pc := 113) ok 82 dX12_who_113 rfl ?_
      exact hc (x10, (a.2 + (1 : Int32)))
theorem wMo_who_L134 {Z : Cx} {G : Gx} {b : Nat} {XX YY : Nat → Obj} {v1 : Int32} (ok : OK Z G b cX12_who 3 2 RX12 (some .int)) {K : ((Int32 × Obj) ⊕ (Obj)) → Option (Int32 × Obj)} (hc : ∀ (a : Int32 × Obj), VO Z G b 3 (fun (r : Int32 × Obj) => QX Z b (qI G b r.1 (mx XX (va_up YY 225 r.2)))) (mx XX (va_up YY 225 a.2)) 134 [some (.ref (b + 225)), some (.int v1), some (.int a.1)] [] (K (.inl a))) (hx : ∀ (e : Obj), VO Z G b 3 (fun (r : Int32 × Obj) => QX Z b (qI G b r.1 (mx XX (va_up YY 225 r.2)))) (mx XX (va_up YY 225 e)) 173 [none, some (.int v1), none] [] (K (.inr e))) : ∀ (a : Int32 × Obj), VO Z G b 3 (fun (r : Int32 × Obj) => QX Z b (qI G b r.1 (mx XX (va_up YY 225 r.2)))) (mx XX (va_up YY 225 a.2)) 134 [some (.ref (b + 225)), some (.int v1), some (.int a.1)] [] ((fMo_who_L134 v1 a).bind K) := by
  intro a
  unfold fMo_who_L134
  refine r_iload_n (pc := 134) ok dX12_who_134 rfl ?_
  refine r_aload_n (pc := 135) ok dX12_who_135 rfl ?_
  refine r_getR (pc := 136) ok cls12 sh_225 (k := 6) rfl (Nat.le_of_ble_eq_true rfl) rfl dX12_who_136 fl_Mo_33 ?_
  refine r_iconst (pc := 139) ok (1 : Int32) dX12_who_139 ci_1 ?_
  refine r_ialdc (pc := 140) ok sh_227 (j := 2) rfl (i := 1) (by decide +kernel) (mx_r (by decide) (va_up_self _ _ _)) dX12_who_140 ?_
  refine r_icmp_ge (pc := 141) ok 173 dX12_who_141 rfl (fun _ => ?_) (fun _ => ?_)
  · refine r_lv (lk_n (lk_s (lk_n lk_0 _) _) _) ?_
    exact hx a.2
  · refine r_aload_n (pc := 144) ok dX12_who_144 rfl ?_
    refine r_iload_n (pc := 145) ok dX12_who_145 rfl ?_
    refine r_iload_n (pc := 146) ok dX12_who_146 rfl ?_
    refine k_I (pc := 147) (fun r14 => r14) (fun r14 => mx XX (va_up YY 225 a.2)) (fun r14 hr_ => c_V (n := 2) ok cls12 sh_225 rfl ml_Mo_376 wv_X12_leftBy yk_X12_leftBy rfl (Nat.le_of_ble_eq_true rfl) (Nat.le_of_ble_eq_true rfl) (tMo_leftBy (va_up_self _ _ _) hr_) rfl (Nat.le_of_ble_eq_true rfl) dX12_who_147) (fun r14 => ?_)
    refine r_aload_n (pc := 150) ok dX12_who_150 rfl ?_
    refine r_iload_n (pc := 151) ok dX12_who_151 rfl ?_
    refine r_aload_n (pc := 152) ok dX12_who_152 rfl ?_
    refine r_getI (pc := 153) ok cls12 sh_225 (k := 30) rfl (Nat.le_of_ble_eq_true rfl) (mx_r (by decide) (va_up_self _ _ _)) dX12_who_153 fl_Mo_373 ?_
    refine k_I (pc := 156) (fun r15 => r15) (fun r15 => mx XX (va_up YY 225 a.2)) (fun r15 hr_ => c_V (n := 2) ok cls12 sh_225 rfl ml_Mo_376 wv_X12_leftBy yk_X12_leftBy rfl (Nat.le_of_ble_eq_true rfl) (Nat.le_of_ble_eq_true rfl) (tMo_leftBy (va_up_self _ _ _) hr_) rfl (Nat.le_of_ble_eq_true rfl) dX12_who_156) (fun r15 => ?_)
    refine r_icmp_ge (pc := 159) ok 167 dX12_who_159 rfl (fun _ => ?_) (fun _ => ?_)
    · refine r_iinc (pc := 167) ok (1 : Int32) dX12_who_167 ci_1 rfl (Nat.le_of_ble_eq_true rfl) rfl ?_
      refine r_goto (pc := 170) ok 134 dX12_who_170 rfl ?_
      exact hc ((a.1 + (1 : Int32)), a.2)
    · refine r_aload_n (pc := 162) ok dX12_who_162 rfl ?_
      refine r_iload_n (pc := 163) ok dX12_who_163 rfl ?_
      refine r_putI (pc := 164) ok cls12 sh_225 (k := 30) rfl (Nat.le_of_ble_eq_true rfl) (fun s_ => mx XX (va_up YY 225 s_)) (pm_r _ _).1 (pm_r _ _).2 rfl rfl rfl dX12_who_164 fl_Mo_373 (fun s16 => ?_)
      refine r_iinc (pc := 167) ok (1 : Int32) dX12_who_167 ci_1 rfl (Nat.le_of_ble_eq_true rfl) rfl ?_
      refine r_goto (pc := 170) ok 134 dX12_who_170 rfl ?_
      exact hc ((a.1 + (1 : Int32)), s16)
theorem vMo_who {Z : Cx} {G : Gx} {b : Nat} {XX YY : Nat → Obj} {m : Obj} (ok : OK Z G b cX12_who 3 2 RX12 (some .int)) : VO Z G b 3 (fun (r : Int32 × Obj) => QX Z b (qI G b r.1 (mx XX (va_up YY 225 r.2)))) (mx XX (va_up YY 225 m)) 0 [some (.ref (b + 225)), none, none] [] ((fMo_who m).bind some) := by
  unfold fMo_who
  refine r_aload_n (pc := 0) ok dX12_who_0 rfl ?_
  refine r_iconst (pc := 1) ok (0 : Int32) dX12_who_1 ci_0 ?_
  refine r_putI (pc := 2) ok cls12 sh_225 (k := 0) rfl (Nat.le_of_ble_eq_true rfl) (fun s_ => mx XX (va_up YY 225 s_)) (pm_r _ _).1 (pm_r _ _).2 rfl rfl rfl dX12_who_2 fl_Mo_1 (fun s1 => ?_)
  refine r_aload_n (pc := 5) ok dX12_who_5 rfl ?_
  refine r_sipush (pc := 6) ok (940 : Int32) dX12_who_6 cs_940 ?_
  refine k_V (pc := 9)  (fun r2 => mx XX (va_up YY 225 r2)) (fun r2 hr_ => c_V (n := 1) ok cls12 sh_225 rfl ml_Mo_259 wv_X12_taken yk_X12_taken rfl (Nat.le_of_ble_eq_true rfl) (Nat.le_of_ble_eq_true rfl) (tMo_taken hr_) rfl (Nat.le_of_ble_eq_true rfl) dX12_who_9) (fun r2 => ?_)
  refine r_aload_n (pc := 12) ok dX12_who_12 rfl ?_
  refine r_getI (pc := 13) ok cls12 sh_225 (k := 3) rfl (Nat.le_of_ble_eq_true rfl) (mx_r (by decide) (va_up_self _ _ _)) dX12_who_13 fl_Mo_18 ?_
  refine r_iconst (pc := 16) ok (2 : Int32) dX12_who_16 ci_2 ?_
  refine r_bipush (pc := 17) ok (12 : Int32) dX12_who_17 cb_12 ?_
  refine k_I (pc := 19) (fun r3 => r3) (fun r3 => mx XX (va_up YY 225 r2)) (fun r3 hr_ => c_S (n := 3) ok ml_Mo_193 ws_X12_isIn yk_X12_isIn rfl (Nat.le_of_ble_eq_true rfl) (Nat.le_of_ble_eq_true rfl) (tMo_isIn hr_) rfl (Nat.le_of_ble_eq_true rfl) dX12_who_19) (fun r3 => ?_)
  refine r_if_eq (pc := 22) ok 35 dX12_who_22 rfl (fun _ => ?_) (fun _ => ?_)
  · refine r_iconst (pc := 35) ok (-1 : Int32) dX12_who_35 ci_m1 ?_
    exact r_iret (pc := 36) ok dX12_who_36 rfl
  · refine r_aload_n (pc := 25) ok dX12_who_25 rfl ?_
    refine r_getI (pc := 26) ok cls12 sh_225 (k := 3) rfl (Nat.le_of_ble_eq_true rfl) (mx_r (by decide) (va_up_self _ _ _)) dX12_who_26 fl_Mo_18 ?_
    refine r_iconst (pc := 29) ok (2 : Int32) dX12_who_29 ci_2 ?_
    refine r_iremc (pc := 30) ok dX12_who_30 (by decide +kernel) ?_
    refine r_iconst (pc := 31) ok (1 : Int32) dX12_who_31 ci_1 ?_
    refine r_icmp_ne (pc := 32) ok 37 dX12_who_32 rfl (fun _ => ?_) (fun _ => ?_)
    · refine r_iconst (pc := 35) ok (-1 : Int32) dX12_who_35 ci_m1 ?_
      exact r_iret (pc := 36) ok dX12_who_36 rfl
    · refine r_iconst (pc := 37) ok (0 : Int32) dX12_who_37 ci_0 ?_
      refine r_istore_n (pc := 38) ok dX12_who_38 (Nat.le_of_ble_eq_true rfl) rfl ?_
      refine r_iter (P := fun (a39 : Int32) o => VO Z G b 3 (fun (r : Int32 × Obj) => QX Z b (qI G b r.1 (mx XX (va_up YY 225 r.2)))) (mx XX (va_up YY 225 r2)) 39 [some (.ref (b + 225)), some (.int a39), none] [] o) (E := fun (z : (Unit) ⊕ (Int32 × Obj)) o => (∀ (e_39 : Unit), z = .inl e_39 → VO Z G b 3 (fun (r : Int32 × Obj) => QX Z b (qI G b r.1 (mx XX (va_up YY 225 r.2)))) (mx XX (va_up YY 225 r2)) 78 [some (.ref (b + 225)), none, none] [] o) ∧ (∀ (r : Int32 × Obj), z = .inr r → o = some r)) (fun _ => r_none) (fun K hc hx => wMo_who_L39 ok (K := K) hc hx) (fun z => ⟨fun e7 hz => ?_, fun r hz => ?_⟩) FU (0 : Int32)
      · subst hz
        refine r_inl ?_
        refine r_iconst (pc := 78) ok (0 : Int32) dX12_who_78 ci_0 ?_
        refine r_istore_n (pc := 79) ok dX12_who_79 (Nat.le_of_ble_eq_true rfl) rfl ?_
        refine r_iconst (pc := 80) ok (0 : Int32) dX12_who_80 ci_0 ?_
        refine r_istore_n (pc := 81) ok dX12_who_81 (Nat.le_of_ble_eq_true rfl) rfl ?_
        refine r_iter (P := fun (a82 : Int32 × Int32) o => VO Z G b 3 (fun (r : Int32 × Obj) => QX Z b (qI G b r.1 (mx XX (va_up YY 225 r.2)))) (mx XX (va_up YY 225 r2)) 82 [some (.ref (b + 225)), some (.int a82.1), some (.int a82.2)] [] o) (E := fun (e_82 : Int32) o => VO Z G b 3 (fun (r : Int32 × Obj) => QX Z b (qI G b r.1 (mx XX (va_up YY 225 r.2)))) (mx XX (va_up YY 225 r2)) 116 [some (.ref (b + 225)), some (.int e_82), none] [] o) (fun _ => r_none) (fun K hc hx => wMo_who_L82 ok (K := K) hc hx) (fun e11 => ?_) FU ((0 : Int32), (0 : Int32))
        refine r_iload_n (pc := 116) ok dX12_who_116 rfl ?_
        refine r_if_ne (pc := 117) ok 122 dX12_who_117 rfl (fun _ => ?_) (fun _ => ?_)
        · refine r_iconst (pc := 120) ok (0 : Int32) dX12_who_120 ci_0 ?_
          exact r_iret (pc := 121) ok dX12_who_121 rfl
        · refine r_aload_n (pc := 122) ok dX12_who_122 rfl ?_
          refine r_iconst (pc := 123) ok (1 : Int32) dX12_who_123 ci_1 ?_
          refine r_putI (pc := 124) ok cls12 sh_225 (k := 31) rfl (Nat.le_of_ble_eq_true rfl) (fun s_ => mx XX (va_up YY 225 s_)) (pm_r _ _).1 (pm_r _ _).2 rfl rfl rfl dX12_who_124 fl_Mo_370 (fun s12 => ?_)
          refine r_aload_n (pc := 127) ok dX12_who_127 rfl ?_
          refine r_iconst (pc := 128) ok (0 : Int32) dX12_who_128 ci_0 ?_
          refine r_putI (pc := 129) ok cls12 sh_225 (k := 30) rfl (Nat.le_of_ble_eq_true rfl) (fun s_ => mx XX (va_up YY 225 s_)) (pm_r _ _).1 (pm_r _ _).2 rfl rfl rfl dX12_who_129 fl_Mo_373 (fun s13 => ?_)
          refine r_iconst (pc := 132) ok (1 : Int32) dX12_who_132 ci_1 ?_
          refine r_istore_n (pc := 133) ok dX12_who_133 (Nat.le_of_ble_eq_true rfl) rfl ?_
          refine r_iter (P := fun (a134 : Int32 × Obj) o => VO Z G b 3 (fun (r : Int32 × Obj) => QX Z b (qI G b r.1 (mx XX (va_up YY 225 r.2)))) (mx XX (va_up YY 225 a134.2)) 134 [some (.ref (b + 225)), some (.int e11), some (.int a134.1)] [] o) (E := fun (e_134 : Obj) o => VO Z G b 3 (fun (r : Int32 × Obj) => QX Z b (qI G b r.1 (mx XX (va_up YY 225 r.2)))) (mx XX (va_up YY 225 e_134)) 173 [none, some (.int e11), none] [] o) (fun _ => r_none) (fun K hc hx => wMo_who_L134 ok (K := K) hc hx) (fun e17 => ?_) FU ((1 : Int32), s13)
          refine r_iload_n (pc := 173) ok dX12_who_173 rfl ?_
          exact r_iret (pc := 174) ok dX12_who_174 rfl
      · subst hz
        rfl
theorem tMo_who {l : Launch} {G : Gx} {b : Nat} {XX YY : Nat → Obj} {m : Obj} {r : Int32 × Obj} (hr : fMo_who m = some r) : MetG l G b yX12_who cX12_who 3 (some .int) 2 [.ref (b + 225)] (mx XX (va_up YY 225 m)) (qI G b r.1 (mx XX (va_up YY 225 r.2))) := by
  refine met_start [some (.ref (b + 225)), none, none] (by decide +kernel) (Nat.le_of_ble_eq_true rfl) rfl (fun Z hl ok => ?_)
  clear hl
  exact vMo_who ok r (by rw [hr]; rfl)
theorem vMo_ask {Z : Cx} {G : Gx} {b : Nat} {XX YY : Nat → Obj} {m : Obj} (ok : OK Z G b cX12_ask 1 0 RX12 (some .int)) : VO Z G b 1 (fun (r : Int32 × Obj) => QX Z b (qI G b r.1 (mx XX (va_up YY 225 r.2)))) (mx XX (va_up YY 225 m)) 0 [some (.ref (b + 225))] [] ((fMo_ask m).bind some) := by
  unfold fMo_ask
  refine r_aload_n (pc := 0) ok dX12_ask_0 rfl ?_
  refine r_iconst (pc := 1) ok (0 : Int32) dX12_ask_1 ci_0 ?_
  refine r_putI (pc := 2) ok cls12 sh_225 (k := 0) rfl (Nat.le_of_ble_eq_true rfl) (fun s_ => mx XX (va_up YY 225 s_)) (pm_r _ _).1 (pm_r _ _).2 rfl rfl rfl dX12_ask_2 fl_Mo_1 (fun s1 => ?_)
  refine r_aload_n (pc := 5) ok dX12_ask_5 rfl ?_
  refine r_getI (pc := 6) ok cls12 sh_225 (k := 31) rfl (Nat.le_of_ble_eq_true rfl) (mx_r (by decide) (va_up_self _ _ _)) dX12_ask_6 fl_Mo_370 ?_
  refine r_if_eq (pc := 9) ok 19 dX12_ask_9 rfl (fun _ => ?_) (fun _ => ?_)
  · refine r_iconst (pc := 19) ok (-1 : Int32) dX12_ask_19 ci_m1 ?_
    exact r_iret (pc := 20) ok dX12_ask_20 rfl
  · refine r_aload_n (pc := 12) ok dX12_ask_12 rfl ?_
    refine r_getI (pc := 13) ok cls12 sh_225 (k := 30) rfl (Nat.le_of_ble_eq_true rfl) (mx_r (by decide) (va_up_self _ _ _)) dX12_ask_13 fl_Mo_373 ?_
    refine r_goto (pc := 16) ok 20 dX12_ask_16 rfl ?_
    exact r_iret (pc := 20) ok dX12_ask_20 rfl
theorem tMo_ask {l : Launch} {G : Gx} {b : Nat} {XX YY : Nat → Obj} {m : Obj} {r : Int32 × Obj} (hr : fMo_ask m = some r) : MetG l G b yX12_ask cX12_ask 1 (some .int) 0 [.ref (b + 225)] (mx XX (va_up YY 225 m)) (qI G b r.1 (mx XX (va_up YY 225 r.2))) := by
  refine met_start [some (.ref (b + 225))] (by decide +kernel) (Nat.le_of_ble_eq_true rfl) rfl (fun Z hl ok => ?_)
  clear hl
  exact vMo_ask ok r (by rw [hr]; rfl)
