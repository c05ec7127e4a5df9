theorem wMo_isSaid_J88 {Z : Cx} {G : Gx} {b : Nat} {XX YY : Nat → Obj} {m : Obj} {v1 : Int32} {v2 : Int32} {v3 : Int32} {v4 : Int32} (ok : OK Z G b cX12_isSaid 5 2 RX12 (some .boolean)) {K : ((Int32 × Int32 × Obj) ⊕ (Obj)) → Option (Int32 × Obj)} (hc : ∀ (a : Int32 × Int32 × Obj), VO Z G b 5 (fun (r : Int32 × Obj) => QX Z b (qI G b r.1 (mx XX (va_up YY 225 r.2)))) (mx XX (va_up YY 225 a.2.2)) 4 [some (.ref (b + 225)), some (.int v1), some (.int a.1), some (.int a.2.1), none] [] (K (.inl a))) (hx : ∀ (e : Obj), VO Z G b 5 (fun (r : Int32 × Obj) => QX Z b (qI G b r.1 (mx XX (va_up YY 225 r.2)))) (mx XX (va_up YY 225 e)) 212 [some (.ref (b + 225)), none, none, none, none] [] (K (.inr e))) : VO Z G b 5 (fun (r : Int32 × Obj) => QX Z b (qI G b r.1 (mx XX (va_up YY 225 r.2)))) (mx XX (va_up YY 225 m)) 88 [some (.ref (b + 225)), some (.int v1), some (.int v2), some (.int v3), some (.int v4)] [] ((fMo_isSaid_J88 m v2 v3 v4).bind K) := by
  unfold fMo_isSaid_J88
  refine r_iinc (pc := 88) ok (-1 : Int32) dX12_isSaid_88 ci_m1 rfl (Nat.le_of_ble_eq_true rfl) rfl ?_
  refine r_aload_n (pc := 91) ok dX12_isSaid_91 rfl ?_
  refine r_getR (pc := 92) ok cls12 sh_225 (k := 44) rfl (Nat.le_of_ble_eq_true rfl) rfl dX12_isSaid_92 fl_Mo_78 ?_
  refine r_iload_n (pc := 95) ok dX12_isSaid_95 rfl ?_
  refine r_iconst (pc := 96) ok (1 : Int32) dX12_isSaid_96 ci_1 ?_
  refine r_isub (pc := 97) ok dX12_isSaid_97 ?_
  refine r_aload_n (pc := 98) ok dX12_isSaid_98 rfl ?_
  refine r_getR (pc := 99) ok cls12 sh_225 (k := 6) rfl (Nat.le_of_ble_eq_true rfl) rfl dX12_isSaid_99 fl_Mo_33 ?_
  refine r_iload (pc := 102) ok dX12_isSaid_102 rfl ?_
  refine r_iald (pc := 104) ok sh_227 (j := 2) rfl (mx_r (by decide) (va_up_self _ _ _)) dX12_isSaid_104 (fun i9 => ?_)
  refine r_bipush (pc := 105) ok (21 : Int32) dX12_isSaid_105 cb_21 ?_
  refine r_icmp_ne (pc := 107) ok 138 dX12_isSaid_107 rfl (fun _ => ?_) (fun _ => ?_)
  · refine r_aload_n (pc := 110) ok dX12_isSaid_110 rfl ?_
    refine r_getR (pc := 111) ok cls12 sh_225 (k := 44) rfl (Nat.le_of_ble_eq_true rfl) rfl dX12_isSaid_111 fl_Mo_78 ?_
    refine r_iload_n (pc := 114) ok dX12_isSaid_114 rfl ?_
    refine r_iconst (pc := 115) ok (1 : Int32) dX12_isSaid_115 ci_1 ?_
    refine r_isub (pc := 116) ok dX12_isSaid_116 ?_
    refine r_zald (pc := 117) ok sh_240 (j := 15) rfl (mx_r (by decide) (va_up_self _ _ _)) dX12_isSaid_117 (fun i10 => ?_)
    refine r_if_eq (pc := 118) ok 134 dX12_isSaid_118 rfl (fun _ => ?_) (fun _ => ?_)
    · refine r_iconst (pc := 134) ok (0 : Int32) dX12_isSaid_134 ci_0 ?_
      refine r_goto (pc := 135) ok 163 dX12_isSaid_135 rfl ?_
      refine r_zast (pc := 163) ok sh_240 (j := 15) rfl za_0 (fun s_ => mx XX (va_up YY 225 s_)) (pm_r _ _).1 (pm_r _ _).2 dX12_isSaid_163 (fun i11 s12 => ?_)
      refine r_goto (pc := 164) ok 206 dX12_isSaid_164 rfl ?_
      refine r_iinc (pc := 206) ok (1 : Int32) dX12_isSaid_206 ci_1 rfl (Nat.le_of_ble_eq_true rfl) rfl ?_
      refine r_goto (pc := 209) ok 4 dX12_isSaid_209 rfl ?_
      refine r_lv (lk_s (lk_s (lk_s (lk_s (lk_n lk_0 _) _) _) _) _) ?_
      exact hc ((v2 + (-1 : Int32)), (v3 + (1 : Int32)), s12)
    · refine r_aload_n (pc := 121) ok dX12_isSaid_121 rfl ?_
      refine r_getR (pc := 122) ok cls12 sh_225 (k := 44) rfl (Nat.le_of_ble_eq_true rfl) rfl dX12_isSaid_122 fl_Mo_78 ?_
      refine r_iload_n (pc := 125) ok dX12_isSaid_125 rfl ?_
      refine r_zald (pc := 126) ok sh_240 (j := 15) rfl (mx_r (by decide) (va_up_self _ _ _)) dX12_isSaid_126 (fun i13 => ?_)
      refine r_if_eq (pc := 127) ok 134 dX12_isSaid_127 rfl (fun _ => ?_) (fun _ => ?_)
      · refine r_iconst (pc := 134) ok (0 : Int32) dX12_isSaid_134 ci_0 ?_
        refine r_goto (pc := 135) ok 163 dX12_isSaid_135 rfl ?_
        refine r_zast (pc := 163) ok sh_240 (j := 15) rfl za_0 (fun s_ => mx XX (va_up YY 225 s_)) (pm_r _ _).1 (pm_r _ _).2 dX12_isSaid_163 (fun i14 s15 => ?_)
        refine r_goto (pc := 164) ok 206 dX12_isSaid_164 rfl ?_
        refine r_iinc (pc := 206) ok (1 : Int32) dX12_isSaid_206 ci_1 rfl (Nat.le_of_ble_eq_true rfl) rfl ?_
        refine r_goto (pc := 209) ok 4 dX12_isSaid_209 rfl ?_
        refine r_lv (lk_s (lk_s (lk_s (lk_s (lk_n lk_0 _) _) _) _) _) ?_
        exact hc ((v2 + (-1 : Int32)), (v3 + (1 : Int32)), s15)
      · refine r_iconst (pc := 130) ok (1 : Int32) dX12_isSaid_130 ci_1 ?_
        refine r_goto (pc := 131) ok 163 dX12_isSaid_131 rfl ?_
        refine r_zast (pc := 163) ok sh_240 (j := 15) rfl za_1 (fun s_ => mx XX (va_up YY 225 s_)) (pm_r _ _).1 (pm_r _ _).2 dX12_isSaid_163 (fun i16 s17 => ?_)
        refine r_goto (pc := 164) ok 206 dX12_isSaid_164 rfl ?_
        refine r_iinc (pc := 206) ok (1 : Int32) dX12_isSaid_206 ci_1 rfl (Nat.le_of_ble_eq_true rfl) rfl ?_
        refine r_goto (pc := 209) ok 4 dX12_isSaid_209 rfl ?_
        refine r_lv (lk_s (lk_s (lk_s (lk_s (lk_n lk_0 _) _) _) _) _) ?_
        exact hc ((v2 + (-1 : Int32)), (v3 + (1 : Int32)), s17)
  · refine r_aload_n (pc := 138) ok dX12_isSaid_138 rfl ?_
    refine r_getR (pc := 139) ok cls12 sh_225 (k := 44) rfl (Nat.le_of_ble_eq_true rfl) rfl dX12_isSaid_139 fl_Mo_78 ?_
    refine r_iload_n (pc := 142) ok dX12_isSaid_142 rfl ?_
    refine r_iconst (pc := 143) ok (1 : Int32) dX12_isSaid_143 ci_1 ?_
    refine r_isub (pc := 144) ok dX12_isSaid_144 ?_
    refine r_zald (pc := 145) ok sh_240 (j := 15) rfl (mx_r (by decide) (va_up_self _ _ _)) dX12_isSaid_145 (fun i18 => ?_)
    refine r_if_ne (pc := 146) ok 158 dX12_isSaid_146 rfl (fun _ => ?_) (fun _ => ?_)
    · refine r_aload_n (pc := 149) ok dX12_isSaid_149 rfl ?_
      refine r_getR (pc := 150) ok cls12 sh_225 (k := 44) rfl (Nat.le_of_ble_eq_true rfl) rfl dX12_isSaid_150 fl_Mo_78 ?_
      refine r_iload_n (pc := 153) ok dX12_isSaid_153 rfl ?_
      refine r_zald (pc := 154) ok sh_240 (j := 15) rfl (mx_r (by decide) (va_up_self _ _ _)) dX12_isSaid_154 (fun i19 => ?_)
      refine r_if_eq (pc := 155) ok 162 dX12_isSaid_155 rfl (fun _ => ?_) (fun _ => ?_)
      · refine r_iconst (pc := 162) ok (0 : Int32) dX12_isSaid_162 ci_0 ?_
        refine r_zast (pc := 163) ok sh_240 (j := 15) rfl za_0 (fun s_ => mx XX (va_up YY 225 s_)) (pm_r _ _).1 (pm_r _ _).2 dX12_isSaid_163 (fun i20 s21 => ?_)
        refine r_goto (pc := 164) ok 206 dX12_isSaid_164 rfl ?_
        refine r_iinc (pc := 206) ok (1 : Int32) dX12_isSaid_206 ci_1 rfl (Nat.le_of_ble_eq_true rfl) rfl ?_
        refine r_goto (pc := 209) ok 4 dX12_isSaid_209 rfl ?_
        refine r_lv (lk_s (lk_s (lk_s (lk_s (lk_n lk_0 _) _) _) _) _) ?_
        exact hc ((v2 + (-1 : Int32)), (v3 + (1 : Int32)), s21)
      · refine r_iconst (pc := 158) ok (1 : Int32) dX12_isSaid_158 ci_1 ?_
        refine r_goto (pc := 159) ok 163 dX12_isSaid_159 rfl ?_
        refine r_zast (pc := 163) ok sh_240 (j := 15) rfl za_1 (fun s_ => mx XX (va_up YY 225 s_)) (pm_r _ _).1 (pm_r _ _).2 dX12_isSaid_163 (fun i22 s23 => ?_)
        refine r_goto (pc := 164) ok 206 dX12_isSaid_164 rfl ?_
        refine r_iinc (pc := 206) ok (1 : Int32) dX12_isSaid_206 ci_1 rfl (Nat.le_of_ble_eq_true rfl) rfl ?_
        refine r_goto (pc := 209) ok 4 dX12_isSaid_209 rfl ?_
        refine r_lv (lk_s (lk_s (lk_s (lk_s (lk_n lk_0 _) _) _) _) _) ?_
        exact hc ((v2 + (-1 : Int32)), (v3 + (1 : Int32)), s23)
    · refine r_iconst (pc := 158) ok (1 : Int32) dX12_isSaid_158 ci_1 ?_
      refine r_goto (pc := 159) ok 163 dX12_isSaid_159 rfl ?_
      refine r_zast (pc := 163) ok sh_240 (j := 15) rfl za_1 (fun s_ => mx XX (va_up YY 225 s_)) (pm_r _ _).1 (pm_r _ _).2 dX12_isSaid_163 (fun i24 s25 => ?_)
      refine r_goto (pc := 164) ok 206 dX12_isSaid_164 rfl ?_
      refine r_iinc (pc := 206) ok (1 : Int32) dX12_isSaid_206 ci_1 rfl (Nat.le_of_ble_eq_true rfl) rfl ?_
      refine r_goto (pc := 209) ok 4 dX12_isSaid_209 rfl ?_
      refine r_lv (lk_s (lk_s (lk_s (lk_s (lk_n lk_0 _) _) _) _) _) ?_
      exact hc ((v2 + (-1 : Int32)), (v3 + (1 : Int32)), s25)
theorem wMo_isSaid_L4 {Z : Cx} {G : Gx} {b : Nat} {XX YY : Nat → Obj} {v1 : Int32} (ok : OK Z G b cX12_isSaid 5 2 RX12 (some .boolean)) {K : ((Int32 × Int32 × Obj) ⊕ (Obj)) → Option (Int32 × Obj)} (hc : ∀ (a : Int32 × Int32 × Obj), VO Z G b 5 (fun (r : Int32 × Obj) => QX Z b (qI G b r.1 (mx XX (va_up YY 225 r.2)))) (mx XX (va_up YY 225 a.2.2)) 4 [some (.ref (b + 225)), some (.int v1), some (.int a.1), some (.int a.2.1), none] [] (K (.inl a))) (hx : ∀ (e : Obj), VO Z G b 5 (fun (r : Int32 × Obj) => QX Z b (qI G b r.1 (mx XX (va_up YY 225 r.2)))) (mx XX (va_up YY 225 e)) 212 [some (.ref (b + 225)), none, none, none, none] [] (K (.inr e))) : ∀ (a : Int32 × Int32 × Obj), VO Z G b 5 (fun (r : Int32 × Obj) => QX Z b (qI G b r.1 (mx XX (va_up YY 225 r.2)))) (mx XX (va_up YY 225 a.2.2)) 4 [some (.ref (b + 225)), some (.int v1), some (.int a.1), some (.int a.2.1), none] [] ((fMo_isSaid_L4 v1 a).bind K) := by
  intro a
  unfold fMo_isSaid_L4
  refine r_iload_n (pc := 4) ok dX12_isSaid_4 rfl ?_
  refine r_aload_n (pc := 5) ok dX12_isSaid_5 rfl ?_
  refine r_getR (pc := 6) ok cls12 sh_225 (k := 6) rfl (Nat.le_of_ble_eq_true rfl) rfl dX12_isSaid_6 fl_Mo_33 ?_
  refine r_sipush (pc := 9) ok (161 : Int32) dX12_isSaid_9 cs_161 ?_
  refine r_ialdc (pc := 12) ok sh_227 (j := 2) rfl (i := 161) (by decide +kernel) (mx_r (by decide) (va_up_self _ _ _)) dX12_isSaid_12 ?_
  refine r_icmp_ge (pc := 13) ok 212 dX12_isSaid_13 rfl (fun _ => ?_) (fun _ => ?_)
  · refine r_lv (lk_s (lk_n (lk_n (lk_n (lk_n lk_0 _) _) _) _) _) ?_
    exact hx a.2.2
  · refine r_sipush (pc := 16) ok (162 : Int32) dX12_isSaid_16 cs_162 ?_
    refine r_iconst (pc := 19) ok (3 : Int32) dX12_isSaid_19 ci_3 ?_
    refine r_iload_n (pc := 20) ok dX12_isSaid_20 rfl ?_
    refine r_imul (pc := 21) ok dX12_isSaid_21 ?_
    refine r_iadd (pc := 22) ok dX12_isSaid_22 ?_
    refine r_bndI (fun x1 => ?_)
    refine r_istore (pc := 23) ok dX12_isSaid_23 (Nat.le_of_ble_eq_true rfl) rfl ?_
    refine r_aload_n (pc := 25) ok dX12_isSaid_25 rfl ?_
    refine r_getR (pc := 26) ok cls12 sh_225 (k := 6) rfl (Nat.le_of_ble_eq_true rfl) rfl dX12_isSaid_26 fl_Mo_33 ?_
    refine r_iload (pc := 29) ok dX12_isSaid_29 rfl ?_
    refine r_iald (pc := 31) ok sh_227 (j := 2) rfl (mx_r (by decide) (va_up_self _ _ _)) dX12_isSaid_31 (fun i2 => ?_)
    refine r_bipush (pc := 32) ok (20 : Int32) dX12_isSaid_32 cb_20 ?_
    refine r_icmp_ne (pc := 34) ok 64 dX12_isSaid_34 rfl (fun _ => ?_) (fun _ => ?_)
    · refine r_aload_n (pc := 37) ok dX12_isSaid_37 rfl ?_
      refine r_getR (pc := 38) ok cls12 sh_225 (k := 44) rfl (Nat.le_of_ble_eq_true rfl) rfl dX12_isSaid_38 fl_Mo_78 ?_
      refine r_iload_n (pc := 41) ok dX12_isSaid_41 rfl ?_
      refine r_iconst (pc := 42) ok (1 : Int32) dX12_isSaid_42 ci_1 ?_
      refine r_isub (pc := 43) ok dX12_isSaid_43 ?_
      refine r_aload_n (pc := 44) ok dX12_isSaid_44 rfl ?_
      refine r_getR (pc := 45) ok cls12 sh_225 (k := 44) rfl (Nat.le_of_ble_eq_true rfl) rfl dX12_isSaid_45 fl_Mo_78 ?_
      refine r_iload_n (pc := 48) ok dX12_isSaid_48 rfl ?_
      refine r_iconst (pc := 49) ok (1 : Int32) dX12_isSaid_49 ci_1 ?_
      refine r_isub (pc := 50) ok dX12_isSaid_50 ?_
      refine r_zald (pc := 51) ok sh_240 (j := 15) rfl (mx_r (by decide) (va_up_self _ _ _)) dX12_isSaid_51 (fun i3 => ?_)
      refine r_if_ne (pc := 52) ok 59 dX12_isSaid_52 rfl (fun _ => ?_) (fun _ => ?_)
      · refine r_iconst (pc := 55) ok (1 : Int32) dX12_isSaid_55 ci_1 ?_
        refine r_goto (pc := 56) ok 60 dX12_isSaid_56 rfl ?_
        refine r_zast (pc := 60) ok sh_240 (j := 15) rfl za_1 (fun s_ => mx XX (va_up YY 225 s_)) (pm_r _ _).1 (pm_r _ _).2 dX12_isSaid_60 (fun i4 s5 => ?_)
        refine r_goto (pc := 61) ok 206 dX12_isSaid_61 rfl ?_
        refine r_iinc (pc := 206) ok (1 : Int32) dX12_isSaid_206 ci_1 rfl (Nat.le_of_ble_eq_true rfl) rfl ?_
        refine r_goto (pc := 209) ok 4 dX12_isSaid_209 rfl ?_
        refine r_lv (lk_s (lk_s (lk_s (lk_s (lk_n lk_0 _) _) _) _) _) ?_
        exact hc (a.1, (a.2.1 + (1 : Int32)), s5)
      · refine r_iconst (pc := 59) ok (0 : Int32) dX12_isSaid_59 ci_0 ?_
        refine r_zast (pc := 60) ok sh_240 (j := 15) rfl za_0 (fun s_ => mx XX (va_up YY 225 s_)) (pm_r _ _).1 (pm_r _ _).2 dX12_isSaid_60 (fun i6 s7 => ?_)
        refine r_goto (pc := 61) ok 206 dX12_isSaid_61 rfl ?_
        refine r_iinc (pc := 206) ok (1 : Int32) dX12_isSaid_206 ci_1 rfl (Nat.le_of_ble_eq_true rfl) rfl ?_
        refine r_goto (pc := 209) ok 4 dX12_isSaid_209 rfl ?_
        refine r_lv (lk_s (lk_s (lk_s (lk_s (lk_n lk_0 _) _) _) _) _) ?_
        exact hc (a.1, (a.2.1 + (1 : Int32)), s7)
    · refine r_aload_n (pc := 64) ok dX12_isSaid_64 rfl ?_
      refine r_getR (pc := 65) ok cls12 sh_225 (k := 6) rfl (Nat.le_of_ble_eq_true rfl) rfl dX12_isSaid_65 fl_Mo_33 ?_
      refine r_iload (pc := 68) ok dX12_isSaid_68 rfl ?_
      refine r_iald (pc := 70) ok sh_227 (j := 2) rfl (mx_r (by decide) (va_up_self _ _ _)) dX12_isSaid_70 (fun i8 => ?_)
      refine r_bipush (pc := 71) ok (21 : Int32) dX12_isSaid_71 cb_21 ?_
      refine r_icmp_eq (pc := 73) ok 88 dX12_isSaid_73 rfl (fun _ => ?_) (fun _ => ?_)
      · exact wMo_isSaid_J88 ok (K := K) hc hx
      · refine r_aload_n (pc := 76) ok dX12_isSaid_76 rfl ?_
        refine r_getR (pc := 77) ok cls12 sh_225 (k := 6) rfl (Nat.le_of_ble_eq_true rfl) rfl dX12_isSaid_77 fl_Mo_33 ?_
        refine r_iload (pc := 80) ok dX12_isSaid_80 rfl ?_
        refine r_iald (pc := 82) ok sh_227 (j := 2) rfl (mx_r (by decide) (va_up_self _ _ _)) dX12_isSaid_82 (fun i26 => ?_)
        refine r_bipush (pc := 83) ok (22 : Int32) dX12_isSaid_83 cb_22 ?_
        refine r_icmp_ne (pc := 85) ok 167 dX12_isSaid_85 rfl (fun _ => ?_) (fun _ => ?_)
        · exact wMo_isSaid_J88 ok (K := K) hc hx
        · refine r_aload_n (pc := 167) ok dX12_isSaid_167 rfl ?_
          refine r_getR (pc := 168) ok cls12 sh_225 (k := 44) rfl (Nat.le_of_ble_eq_true rfl) rfl dX12_isSaid_168 fl_Mo_78 ?_
          refine r_iload_n (pc := 171) ok dX12_isSaid_171 rfl ?_
          refine r_aload_n (pc := 172) ok dX12_isSaid_172 rfl ?_
          refine r_iload_n (pc := 173) ok dX12_isSaid_173 rfl ?_
          refine r_aload_n (pc := 174) ok dX12_isSaid_174 rfl ?_
          refine r_getR (pc := 175) ok cls12 sh_225 (k := 6) rfl (Nat.le_of_ble_eq_true rfl) rfl dX12_isSaid_175 fl_Mo_33 ?_
          refine r_iload (pc := 178) ok dX12_isSaid_178 rfl ?_
          refine r_iald (pc := 180) ok sh_227 (j := 2) rfl (mx_r (by decide) (va_up_self _ _ _)) dX12_isSaid_180 (fun i27 => ?_)
          refine r_aload_n (pc := 181) ok dX12_isSaid_181 rfl ?_
          refine r_getR (pc := 182) ok cls12 sh_225 (k := 6) rfl (Nat.le_of_ble_eq_true rfl) rfl dX12_isSaid_182 fl_Mo_33 ?_
          refine r_iload (pc := 185) ok dX12_isSaid_185 rfl ?_
          refine r_iconst (pc := 187) ok (1 : Int32) dX12_isSaid_187 ci_1 ?_
          refine r_iadd (pc := 188) ok dX12_isSaid_188 ?_
          refine r_iald (pc := 189) ok sh_227 (j := 2) rfl (mx_r (by decide) (va_up_self _ _ _)) dX12_isSaid_189 (fun i28 => ?_)
          refine r_aload_n (pc := 190) ok dX12_isSaid_190 rfl ?_
          refine r_getR (pc := 191) ok cls12 sh_225 (k := 6) rfl (Nat.le_of_ble_eq_true rfl) rfl dX12_isSaid_191 fl_Mo_33 ?_
          refine r_iload (pc := 194) ok dX12_isSaid_194 rfl ?_
          refine r_iconst (pc := 196) ok (2 : Int32) dX12_isSaid_196 ci_2 ?_
          refine r_iadd (pc := 197) ok dX12_isSaid_197 ?_
          refine r_iald (pc := 198) ok sh_227 (j := 2) rfl (mx_r (by decide) (va_up_self _ _ _)) dX12_isSaid_198 (fun i29 => ?_)
          refine k_I (pc := 199) (fun r30 => r30) (fun r30 => mx XX (va_up YY 225 a.2.2)) (fun r30 hr_ => c_V (n := 4) ok cls12 sh_225 rfl ml_Mo_463 wv_X12_isLeaf yk_X12_isLeaf rfl (Nat.le_of_ble_eq_true rfl) (Nat.le_of_ble_eq_true rfl) (tMo_isLeaf (va_up_self _ _ _) hr_) rfl (Nat.le_of_ble_eq_true rfl) dX12_isSaid_199) (fun r30 => ?_)
          refine r_zast (pc := 202) ok sh_240 (j := 15) rfl rfl (fun s_ => mx XX (va_up YY 225 s_)) (pm_r _ _).1 (pm_r _ _).2 dX12_isSaid_202 (fun i31 s32 => ?_)
          refine r_iinc (pc := 203) ok (1 : Int32) dX12_isSaid_203 ci_1 rfl (Nat.le_of_ble_eq_true rfl) rfl ?_
          refine r_iinc (pc := 206) ok (1 : Int32) dX12_isSaid_206 ci_1 rfl (Nat.le_of_ble_eq_true rfl) rfl ?_
          refine r_goto (pc := 209) ok 4 dX12_isSaid_209 rfl ?_
          refine r_lv (lk_s (lk_s (lk_s (lk_s (lk_n lk_0 _) _) _) _) _) ?_
          exact hc ((a.1 + (1 : Int32)), (a.2.1 + (1 : Int32)), s32)
theorem vMo_isSaid {Z : Cx} {G : Gx} {b : Nat} {XX YY : Nat → Obj} {m : Obj} {v1 : Int32} (ok : OK Z G b cX12_isSaid 5 2 RX12 (some .boolean)) : VO Z G b 5 (fun (r : Int32 × Obj) => QX Z b (qI G b r.1 (mx XX (va_up YY 225 r.2)))) (mx XX (va_up YY 225 m)) 0 [some (.ref (b + 225)), some (.int v1), none, none, none] [] ((fMo_isSaid m v1).bind some) := by
  unfold fMo_isSaid
  refine r_iconst (pc := 0) ok (0 : Int32) dX12_isSaid_0 ci_0 ?_
  refine r_istore_n (pc := 1) ok dX12_isSaid_1 (Nat.le_of_ble_eq_true rfl) rfl ?_
  refine r_iconst (pc := 2) ok (0 : Int32) dX12_isSaid_2 ci_0 ?_
  refine r_istore_n (pc := 3) ok dX12_isSaid_3 (Nat.le_of_ble_eq_true rfl) rfl ?_
  refine r_iter (P := fun (a4 : Int32 × Int32 × Obj) o => VO Z G b 5 (fun (r : Int32 × Obj) => QX Z b (qI G b r.1 (mx XX (va_up YY 225 r.2)))) (mx XX (va_up YY 225 a4.2.2)) 4 [some (.ref (b + 225)), some (.int v1), some (.int a4.1), some (.int a4.2.1), none] [] o) (E := fun (e_4 : Obj) o => VO Z G b 5 (fun (r : Int32 × Obj) => QX Z b (qI G b r.1 (mx XX (va_up YY 225 r.2)))) (mx XX (va_up YY 225 e_4)) 212 [some (.ref (b + 225)), none, none, none, none] [] o) (fun _ => r_none) (fun K hc hx => wMo_isSaid_L4 ok (K := K) hc hx) (fun e33 => ?_) FU ((0 : Int32), (0 : Int32), m)
  refine r_aload_n (pc := 212) ok dX12_isSaid_212 rfl ?_
  refine r_getR (pc := 213) ok cls12 sh_225 (k := 44) rfl (Nat.le_of_ble_eq_true rfl) rfl dX12_isSaid_213 fl_Mo_78 ?_
  refine r_iconst (pc := 216) ok (0 : Int32) dX12_isSaid_216 ci_0 ?_
  refine r_zaldc (pc := 217) ok sh_240 (j := 15) rfl (i := 0) (by decide +kernel) (mx_r (by decide) (va_up_self _ _ _)) dX12_isSaid_217 ?_
  exact r_zret (pc := 218) ok dX12_isSaid_218 rfl rfl
theorem tMo_isSaid {l : Launch} {G : Gx} {b : Nat} {XX YY : Nat → Obj} {m : Obj} {v1 : Int32} {r : Int32 × Obj} (hr : fMo_isSaid m v1 = some r) : MetG l G b yX12_isSaid cX12_isSaid 5 (some .boolean) 2 [.ref (b + 225), .int v1] (mx XX (va_up YY 225 m)) (qI G b r.1 (mx XX (va_up YY 225 r.2))) := by
  refine met_start [some (.ref (b + 225)), some (.int v1), none, none, none] (by decide +kernel) (Nat.le_of_ble_eq_true rfl) rfl (fun Z hl ok => ?_)
  clear hl
  exact vMo_isSaid ok r (by rw [hr]; rfl)
theorem wMo_said_L27 {Z : Cx} {G : Gx} {b : Nat} {XX YY : Nat → Obj} {v1 : Int32} (ok : OK Z G b cX12_said 4 3 RX12 (some .int)) {K : ((Int32 × Int32 × Obj) ⊕ ((Int32 × Obj) ⊕ (Int32 × Obj))) → Option (Int32 × Obj)} (hc : ∀ (a : Int32 × Int32 × Obj), VO Z G b 4 (fun (r : Int32 × Obj) => QX Z b (qI G b r.1 (mx XX (va_up YY 225 r.2)))) (mx XX (va_up YY 225 a.2.2)) 27 [some (.ref (b + 225)), some (.int v1), some (.int a.1), some (.int a.2.1)] [] (K (.inl a))) (hx : ∀ (z : (Int32 × Obj) ⊕ (Int32 × Obj)), (∀ (e : Int32 × Obj), z = .inl e → VO Z G b 4 (fun (r : Int32 × Obj) => QX Z b (qI G b r.1 (mx XX (va_up YY 225 r.2)))) (mx XX (va_up YY 225 e.2)) 64 [none, some (.int v1), some (.int e.1), none] [] (K (.inr z))) ∧ (∀ (r : Int32 × Obj), z = .inr r → K (.inr z) = some r)) : ∀ (a : Int32 × Int32 × Obj), VO Z G b 4 (fun (r : Int32 × Obj) => QX Z b (qI G b r.1 (mx XX (va_up YY 225 r.2)))) (mx XX (va_up YY 225 a.2.2)) 27 [some (.ref (b + 225)), some (.int v1), some (.int a.1), some (.int a.2.1)] [] ((fMo_said_L27 v1 a).bind K) := by
  intro a
  unfold fMo_said_L27
  refine r_iload_n (pc := 27) ok dX12_said_27 rfl ?_
  refine r_aload_n (pc := 28) ok dX12_said_28 rfl ?_
  refine r_getR (pc := 29) ok cls12 sh_225 (k := 6) rfl (Nat.le_of_ble_eq_true rfl) rfl dX12_said_29 fl_Mo_33 ?_
  refine r_iconst (pc := 32) ok (1 : Int32) dX12_said_32 ci_1 ?_
  refine r_ialdc (pc := 33) ok sh_227 (j := 2) rfl (i := 1) (by decide +kernel) (mx_r (by decide) (va_up_self _ _ _)) dX12_said_33 ?_
  refine r_icmp_ge (pc := 34) ok 64 dX12_said_34 rfl (fun _ => ?_) (fun _ => ?_)
  · refine r_lv (lk_n (lk_s (lk_s (lk_n lk_0 _) _) _) _) ?_
    exact (hx (.inl (a.1, a.2.2))).1 _ rfl
  · refine r_aload_n (pc := 37) ok dX12_said_37 rfl ?_
    refine r_iload_n (pc := 38) ok dX12_said_38 rfl ?_
    refine k_I (pc := 39) (fun r2 => r2.1) (fun r2 => mx XX (va_up YY 225 r2.2)) (fun r2 hr_ => c_V (n := 1) ok cls12 sh_225 rfl ml_Mo_467 wv_X12_isSaid yk_X12_isSaid rfl (Nat.le_of_ble_eq_true rfl) (Nat.le_of_ble_eq_true rfl) (tMo_isSaid hr_) rfl (Nat.le_of_ble_eq_true rfl) dX12_said_39) (fun r2 => ?_)
    refine r_if_ne (pc := 42) ok 48 dX12_said_42 rfl (fun _ => ?_) (fun _ => ?_)
    · refine r_goto (pc := 45) ok 58 dX12_said_45 rfl ?_
      refine r_iinc (pc := 58) ok (1 : Int32) dX12_said_58 ci_1 rfl (Nat.le_of_ble_eq_true rfl) rfl ?_
      refine r_goto (pc := 61) ok 27 dX12_said_61 rfl ?_
      exact hc (a.1, (a.2.1 + (1 : Int32)), r2.2)
    · refine r_iload_n (pc := 48) ok dX12_said_48 rfl ?_
      refine r_iload_n (pc := 49) ok dX12_said_49 rfl ?_
      refine r_icmp_ne (pc := 50) ok 55 dX12_said_50 rfl (fun _ => ?_) (fun _ => ?_)
      · refine r_iload_n (pc := 53) ok dX12_said_53 rfl ?_
        refine r_eq ((hx (.inr (a.2.1, r2.2))).2 _ rfl) ?_
        exact r_iret (pc := 54) ok dX12_said_54 rfl
      · refine r_iinc (pc := 55) ok (1 : Int32) dX12_said_55 ci_1 rfl (Nat.le_of_ble_eq_true rfl) rfl ?_
        refine r_iinc (pc := 58) ok (1 : Int32) dX12_said_58 ci_1 rfl (Nat.le_of_ble_eq_true rfl) rfl ?_
        refine r_goto (pc := 61) ok 27 dX12_said_61 rfl ?_
        exact hc ((a.1 + (1 : Int32)), (a.2.1 + (1 : Int32)), r2.2)
theorem vMo_said {Z : Cx} {G : Gx} {b : Nat} {XX YY : Nat → Obj} {m : Obj} {v1 : Int32} (ok : OK Z G b cX12_said 4 3 RX12 (some .int)) : VO Z G b 4 (fun (r : Int32 × Obj) => QX Z b (qI G b r.1 (mx XX (va_up YY 225 r.2)))) (mx XX (va_up YY 225 m)) 0 [some (.ref (b + 225)), some (.int v1), none, none] [] ((fMo_said m v1).bind some) := by
  unfold fMo_said
  refine r_aload_n (pc := 0) ok dX12_said_0 rfl ?_
  refine r_iconst (pc := 1) ok (0 : Int32) dX12_said_1 ci_0 ?_
  refine r_putI (pc := 2) ok cls12 sh_225 (k := 0) rfl (Nat.le_of_ble_eq_true rfl) (fun s_ => mx XX (va_up YY 225 s_)) (pm_r _ _).1 (pm_r _ _).2 rfl rfl rfl dX12_said_2 fl_Mo_1 (fun s1 => ?_)
  refine r_aload_n (pc := 5) ok dX12_said_5 rfl ?_
  refine r_getR (pc := 6) ok cls12 sh_225 (k := 6) rfl (Nat.le_of_ble_eq_true rfl) rfl dX12_said_6 fl_Mo_33 ?_
  refine r_sipush (pc := 9) ok (161 : Int32) dX12_said_9 cs_161 ?_
  refine r_ialdc (pc := 12) ok sh_227 (j := 2) rfl (i := 161) (by decide +kernel) (mx_r (by decide) (va_up_self _ _ _)) dX12_said_12 ?_
  refine r_if_eq (pc := 13) ok 21 dX12_said_13 rfl (fun _ => ?_) (fun _ => ?_)
  · refine r_iconst (pc := 21) ok (-1 : Int32) dX12_said_21 ci_m1 ?_
    exact r_iret (pc := 22) ok dX12_said_22 rfl
  · refine r_iload_n (pc := 16) ok dX12_said_16 rfl ?_
    refine r_iconst (pc := 17) ok (-1 : Int32) dX12_said_17 ci_m1 ?_
    refine r_icmp_ge (pc := 18) ok 23 dX12_said_18 rfl (fun _ => ?_) (fun _ => ?_)
    · refine r_iconst (pc := 23) ok (0 : Int32) dX12_said_23 ci_0 ?_
      refine r_istore_n (pc := 24) ok dX12_said_24 (Nat.le_of_ble_eq_true rfl) rfl ?_
      refine r_iconst (pc := 25) ok (0 : Int32) dX12_said_25 ci_0 ?_
      refine r_istore_n (pc := 26) ok dX12_said_26 (Nat.le_of_ble_eq_true rfl) rfl ?_
      refine r_iter (P := fun (a27 : Int32 × Int32 × Obj) o => VO Z G b 4 (fun (r : Int32 × Obj) => QX Z b (qI G b r.1 (mx XX (va_up YY 225 r.2)))) (mx XX (va_up YY 225 a27.2.2)) 27 [some (.ref (b + 225)), some (.int v1), some (.int a27.1), some (.int a27.2.1)] [] o) (E := fun (z : (Int32 × Obj) ⊕ (Int32 × Obj)) o => (∀ (e_27 : Int32 × Obj), z = .inl e_27 → VO Z G b 4 (fun (r : Int32 × Obj) => QX Z b (qI G b r.1 (mx XX (va_up YY 225 r.2)))) (mx XX (va_up YY 225 e_27.2)) 64 [none, some (.int v1), some (.int e_27.1), none] [] o) ∧ (∀ (r : Int32 × Obj), z = .inr r → o = some r)) (fun _ => r_none) (fun K hc hx => wMo_said_L27 ok (K := K) hc hx) (fun z => ⟨fun e3 hz => ?_, fun r hz => ?_⟩) FU ((0 : Int32), (0 : Int32), s1)
      · subst hz
        refine r_inl ?_
        refine r_iload_n (pc := 64) ok dX12_said_64 rfl ?_
        refine r_iconst (pc := 65) ok (-1 : Int32) dX12_said_65 ci_m1 ?_
        refine r_icmp_ne (pc := 66) ok 73 dX12_said_66 rfl (fun _ => ?_) (fun _ => ?_)
        · refine r_iload_n (pc := 69) ok dX12_said_69 rfl ?_
          refine r_goto (pc := 70) ok 74 dX12_said_70 rfl ?_
          exact r_iret (pc := 74) ok dX12_said_74 rfl
        · refine r_iconst (pc := 73) ok (-1 : Int32) dX12_said_73 ci_m1 ?_
          exact r_iret (pc := 74) ok dX12_said_74 rfl
      · subst hz
        rfl
    · refine r_iconst (pc := 21) ok (-1 : Int32) dX12_said_21 ci_m1 ?_
      exact r_iret (pc := 22) ok dX12_said_22 rfl
theorem tMo_said {l : Launch} {G : Gx} {b : Nat} {XX YY : Nat → Obj} {m : Obj} {v1 : Int32} {r : Int32 × Obj} (hr : fMo_said m v1 = some r) : MetG l G b yX12_said cX12_said 4 (some .int) 3 [.ref (b + 225), .int v1] (mx XX (va_up YY 225 m)) (qI G b r.1 (mx XX (va_up YY 225 r.2))) := by
  refine met_start [some (.ref (b + 225)), some (.int v1), none, none] (by decide +kernel) (Nat.le_of_ble_eq_true rfl) rfl (fun Z hl ok => ?_)
  clear hl
  exact vMo_said ok r (by rw [hr]; rfl)
theorem wMo_image_L18 {Z : Cx} {G : Gx} {b : Nat} {XX YY : Nat → Obj} {v1 : Int32} (ok : OK Z G b cX12_image 3 1 RX12 (some .boolean)) {K : ((Int32 × Obj) ⊕ (Obj)) → Option (Int32 × Obj)} (hc : ∀ (a : Int32 × Obj), VO Z G b 3 (fun (r : Int32 × Obj) => QX Z b (qI G b r.1 (mx XX (va_up YY 225 r.2)))) (mx XX (va_up YY 225 a.2)) 18 [some (.ref (b + 225)), some (.int v1), some (.int a.1)] [] (K (.inl a))) (hx : ∀ (e : Obj), VO Z G b 3 (fun (r : Int32 × Obj) => QX Z b (qI G b r.1 (mx XX (va_up YY 225 r.2)))) (mx XX (va_up YY 225 e)) 49 [some (.ref (b + 225)), some (.int v1), none] [] (K (.inr e))) : ∀ (a : Int32 × Obj), VO Z G b 3 (fun (r : Int32 × Obj) => QX Z b (qI G b r.1 (mx XX (va_up YY 225 r.2)))) (mx XX (va_up YY 225 a.2)) 18 [some (.ref (b + 225)), some (.int v1), some (.int a.1)] [] ((fMo_image_L18 v1 a).bind K) := by
  intro a
  unfold fMo_image_L18
  refine r_iload_n (pc := 18) ok dX12_image_18 rfl ?_
  refine r_sipush (pc := 19) ok (342 : Int32) dX12_image_19 cs_342 ?_
  refine r_icmp_ge (pc := 22) ok 49 dX12_image_22 rfl (fun _ => ?_) (fun _ => ?_)
  · refine r_lv (lk_s (lk_s (lk_n lk_0 _) _) _) ?_
    exact hx a.2
  · refine r_aload_n (pc := 25) ok dX12_image_25 rfl ?_
    refine r_getR (pc := 26) ok cls12 sh_225 (k := 45) rfl (Nat.le_of_ble_eq_true rfl) rfl dX12_image_26 fl_Mo_81 ?_
    refine r_sipush (pc := 29) ok (342 : Int32) dX12_image_29 cs_342 ?_
    refine r_iload_n (pc := 32) ok dX12_image_32 rfl ?_
    refine r_imul (pc := 33) ok dX12_image_33 ?_
    refine r_iload_n (pc := 34) ok dX12_image_34 rfl ?_
    refine r_iadd (pc := 35) ok dX12_image_35 ?_
    refine r_aload_n (pc := 36) ok dX12_image_36 rfl ?_
    refine r_getR (pc := 37) ok cls12 sh_225 (k := 6) rfl (Nat.le_of_ble_eq_true rfl) rfl dX12_image_37 fl_Mo_33 ?_
    refine r_iload_n (pc := 40) ok dX12_image_40 rfl ?_
    refine r_iald (pc := 41) ok sh_227 (j := 2) rfl (mx_r (by decide) (va_up_self _ _ _)) dX12_image_41 (fun i3 => ?_)
    refine r_iast (pc := 42) ok sh_241 (j := 16) rfl rfl (fun s_ => mx XX (va_up YY 225 s_)) (pm_r _ _).1 (pm_r _ _).2 dX12_image_42 (fun i4 s5 => ?_)
    refine r_iinc (pc := 43) ok (1 : Int32) dX12_image_43 ci_1 rfl (Nat.le_of_ble_eq_true rfl) rfl ?_
    refine r_goto (pc := 46) ok 18 dX12_image_46 rfl ?_
    exact hc ((a.1 + (1 : Int32)), s5)
theorem wMo_image_L51 {Z : Cx} {G : Gx} {b : Nat} {XX YY : Nat → Obj} {v1 : Int32} (ok : OK Z G b cX12_image 3 1 RX12 (some .boolean)) {K : ((Int32 × Obj) ⊕ (Obj)) → Option (Int32 × Obj)} (hc : ∀ (a : Int32 × Obj), VO Z G b 3 (fun (r : Int32 × Obj) => QX Z b (qI G b r.1 (mx XX (va_up YY 225 r.2)))) (mx XX (va_up YY 225 a.2)) 51 [some (.ref (b + 225)), some (.int v1), some (.int a.1)] [] (K (.inl a))) (hx : ∀ (e : Obj), VO Z G b 3 (fun (r : Int32 × Obj) => QX Z b (qI G b r.1 (mx XX (va_up YY 225 r.2)))) (mx XX (va_up YY 225 e)) 80 [some (.ref (b + 225)), some (.int v1), none] [] (K (.inr e))) : ∀ (a : Int32 × Obj), VO Z G b 3 (fun (r : Int32 × Obj) => QX Z b (qI G b r.1 (mx XX (va_up YY 225 r.2)))) (mx XX (va_up YY 225 a.2)) 51 [some (.ref (b + 225)), some (.int v1), some (.int a.1)] [] ((fMo_image_L51 v1 a).bind K) := by
  intro a
  unfold fMo_image_L51
  refine r_iload_n (pc := 51) ok dX12_image_51 rfl ?_
  refine r_bipush (pc := 52) ok (14 : Int32) dX12_image_52 cb_14 ?_
  refine r_icmp_ge (pc := 54) ok 80 dX12_image_54 rfl (fun _ => ?_) (fun _ => ?_)
  · refine r_lv (lk_s (lk_s (lk_n lk_0 _) _) _) ?_
    exact hx a.2
  · refine r_aload_n (pc := 57) ok dX12_image_57 rfl ?_
    refine r_getR (pc := 58) ok cls12 sh_225 (k := 46) rfl (Nat.le_of_ble_eq_true rfl) rfl dX12_image_58 fl_Mo_84 ?_
    refine r_bipush (pc := 61) ok (14 : Int32) dX12_image_61 cb_14 ?_
    refine r_iload_n (pc := 63) ok dX12_image_63 rfl ?_
    refine r_imul (pc := 64) ok dX12_image_64 ?_
    refine r_iload_n (pc := 65) ok dX12_image_65 rfl ?_
    refine r_iadd (pc := 66) ok dX12_image_66 ?_
    refine r_aload_n (pc := 67) ok dX12_image_67 rfl ?_
    refine r_getR (pc := 68) ok cls12 sh_225 (k := 9) rfl (Nat.le_of_ble_eq_true rfl) rfl dX12_image_68 fl_Mo_43 ?_
    refine r_iload_n (pc := 71) ok dX12_image_71 rfl ?_
    refine r_lald (pc := 72) ok sh_230 (j := 5) rfl (mx_r (by decide) (va_up_self _ _ _)) dX12_image_72 (fun i7 => ?_)
    refine r_last (pc := 73) ok sh_242 (j := 17) rfl rfl (fun s_ => mx XX (va_up YY 225 s_)) (pm_r _ _).1 (pm_r _ _).2 dX12_image_73 (fun i8 s9 => ?_)
    refine r_iinc (pc := 74) ok (1 : Int32) dX12_image_74 ci_1 rfl (Nat.le_of_ble_eq_true rfl) rfl ?_
    refine r_goto (pc := 77) ok 51 dX12_image_77 rfl ?_
    exact hc ((a.1 + (1 : Int32)), s9)
theorem vMo_image {Z : Cx} {G : Gx} {b : Nat} {XX YY : Nat → Obj} {m : Obj} {v1 : Int32} (ok : OK Z G b cX12_image 3 1 RX12 (some .boolean)) : VO Z G b 3 (fun (r : Int32 × Obj) => QX Z b (qI G b r.1 (mx XX (va_up YY 225 r.2)))) (mx XX (va_up YY 225 m)) 0 [some (.ref (b + 225)), some (.int v1), none] [] ((fMo_image m v1).bind some) := by
  unfold fMo_image
  refine r_aload_n (pc := 0) ok dX12_image_0 rfl ?_
  refine r_iconst (pc := 1) ok (0 : Int32) dX12_image_1 ci_0 ?_
  refine r_putI (pc := 2) ok cls12 sh_225 (k := 0) rfl (Nat.le_of_ble_eq_true rfl) (fun s_ => mx XX (va_up YY 225 s_)) (pm_r _ _).1 (pm_r _ _).2 rfl rfl rfl dX12_image_2 fl_Mo_1 (fun s1 => ?_)
  refine r_iload_n (pc := 5) ok dX12_image_5 rfl ?_
  refine r_iconst (pc := 6) ok (0 : Int32) dX12_image_6 ci_0 ?_
  refine r_iconst (pc := 7) ok (1 : Int32) dX12_image_7 ci_1 ?_
  refine k_I (pc := 8) (fun r2 => r2) (fun r2 => mx XX (va_up YY 225 s1)) (fun r2 hr_ => c_S (n := 3) ok ml_Mo_193 ws_X12_isIn yk_X12_isIn rfl (Nat.le_of_ble_eq_true rfl) (Nat.le_of_ble_eq_true rfl) (tMo_isIn hr_) rfl (Nat.le_of_ble_eq_true rfl) dX12_image_8) (fun r2 => ?_)
  refine r_if_ne (pc := 11) ok 16 dX12_image_11 rfl (fun _ => ?_) (fun _ => ?_)
  · refine r_iconst (pc := 14) ok (0 : Int32) dX12_image_14 ci_0 ?_
    exact r_zret (pc := 15) ok dX12_image_15 za_0 rfl
  · refine r_iconst (pc := 16) ok (0 : Int32) dX12_image_16 ci_0 ?_
    refine r_istore_n (pc := 17) ok dX12_image_17 (Nat.le_of_ble_eq_true rfl) rfl ?_
    refine r_iter (P := fun (a18 : Int32 × Obj) o => VO Z G b 3 (fun (r : Int32 × Obj) => QX Z b (qI G b r.1 (mx XX (va_up YY 225 r.2)))) (mx XX (va_up YY 225 a18.2)) 18 [some (.ref (b + 225)), some (.int v1), some (.int a18.1)] [] o) (E := fun (e_18 : Obj) o => VO Z G b 3 (fun (r : Int32 × Obj) => QX Z b (qI G b r.1 (mx XX (va_up YY 225 r.2)))) (mx XX (va_up YY 225 e_18)) 49 [some (.ref (b + 225)), some (.int v1), none] [] o) (fun _ => r_none) (fun K hc hx => wMo_image_L18 ok (K := K) hc hx) (fun e6 => ?_) FU ((0 : Int32), s1)
    refine r_iconst (pc := 49) ok (0 : Int32) dX12_image_49 ci_0 ?_
    refine r_istore_n (pc := 50) ok dX12_image_50 (Nat.le_of_ble_eq_true rfl) rfl ?_
    refine r_iter (P := fun (a51 : Int32 × Obj) o => VO Z G b 3 (fun (r : Int32 × Obj) => QX Z b (qI G b r.1 (mx XX (va_up YY 225 r.2)))) (mx XX (va_up YY 225 a51.2)) 51 [some (.ref (b + 225)), some (.int v1), some (.int a51.1)] [] o) (E := fun (e_51 : Obj) o => VO Z G b 3 (fun (r : Int32 × Obj) => QX Z b (qI G b r.1 (mx XX (va_up YY 225 r.2)))) (mx XX (va_up YY 225 e_51)) 80 [some (.ref (b + 225)), some (.int v1), none] [] o) (fun _ => r_none) (fun K hc hx => wMo_image_L51 ok (K := K) hc hx) (fun e10 => ?_) FU ((0 : Int32), e6)
    refine r_aload_n (pc := 80) ok dX12_image_80 rfl ?_
    refine r_getR (pc := 81) ok cls12 sh_225 (k := 47) rfl (Nat.le_of_ble_eq_true rfl) rfl dX12_image_81 fl_Mo_87 ?_
    refine r_iload_n (pc := 84) ok dX12_image_84 rfl ?_
    refine r_iconst (pc := 85) ok (1 : Int32) dX12_image_85 ci_1 ?_
    refine r_zast (pc := 86) ok sh_243 (j := 18) rfl za_1 (fun s_ => mx XX (va_up YY 225 s_)) (pm_r _ _).1 (pm_r _ _).2 dX12_image_86 (fun i11 s12 => ?_)
    refine r_iconst (pc := 87) ok (1 : Int32) dX12_image_87 ci_1 ?_
    exact r_zret (pc := 88) ok dX12_image_88 za_1 rfl
theorem tMo_image {l : Launch} {G : Gx} {b : Nat} {XX YY : Nat → Obj} {m : Obj} {v1 : Int32} {r : Int32 × Obj} (hr : fMo_image m v1 = some r) : MetG l G b yX12_image cX12_image 3 (some .boolean) 1 [.ref (b + 225), .int v1] (mx XX (va_up YY 225 m)) (qI G b r.1 (mx XX (va_up YY 225 r.2))) := by
  refine met_start [some (.ref (b + 225)), some (.int v1), none] (by decide +kernel) (Nat.le_of_ble_eq_true rfl) rfl (fun Z hl ok => ?_)
  clear hl
  exact vMo_image ok r (by rw [hr]; rfl)
theorem wMo_restore_L27 {Z : Cx} {G : Gx} {b : Nat} {XX YY : Nat → Obj} {v1 : Int32} (ok : OK Z G b cX12_restore 3 1 RX12 (some .boolean)) {K : ((Int32 × Obj) ⊕ (Obj)) → Option (Int32 × Obj)} (hc : ∀ (a : Int32 × Obj), VO Z G b 3 (fun (r : Int32 × Obj) => QX Z b (qI G b r.1 (mx XX (va_up YY 225 r.2)))) (mx XX (va_up YY 225 a.2)) 27 [some (.ref (b + 225)), some (.int v1), some (.int a.1)] [] (K (.inl a))) (hx : ∀ (e : Obj), VO Z G b 3 (fun (r : Int32 × Obj) => QX Z b (qI G b r.1 (mx XX (va_up YY 225 r.2)))) (mx XX (va_up YY 225 e)) 58 [some (.ref (b + 225)), some (.int v1), none] [] (K (.inr e))) : ∀ (a : Int32 × Obj), VO Z G b 3 (fun (r : Int32 × Obj) => QX Z b (qI G b r.1 (mx XX (va_up YY 225 r.2)))) (mx XX (va_up YY 225 a.2)) 27 [some (.ref (b + 225)), some (.int v1), some (.int a.1)] [] ((fMo_restore_L27 v1 a).bind K) := by
  intro a
  unfold fMo_restore_L27
  refine r_iload_n (pc := 27) ok dX12_restore_27 rfl ?_
  refine r_sipush (pc := 28) ok (342 : Int32) dX12_restore_28 cs_342 ?_
  refine r_icmp_ge (pc := 31) ok 58 dX12_restore_31 rfl (fun _ => ?_) (fun _ => ?_)
  · refine r_lv (lk_s (lk_s (lk_n lk_0 _) _) _) ?_
    exact hx a.2
  · refine r_aload_n (pc := 34) ok dX12_restore_34 rfl ?_
    refine r_getR (pc := 35) ok cls12 sh_225 (k := 6) rfl (Nat.le_of_ble_eq_true rfl) rfl dX12_restore_35 fl_Mo_33 ?_
    refine r_iload_n (pc := 38) ok dX12_restore_38 rfl ?_
    refine r_aload_n (pc := 39) ok dX12_restore_39 rfl ?_
    refine r_getR (pc := 40) ok cls12 sh_225 (k := 45) rfl (Nat.le_of_ble_eq_true rfl) rfl dX12_restore_40 fl_Mo_81 ?_
    refine r_sipush (pc := 43) ok (342 : Int32) dX12_restore_43 cs_342 ?_
    refine r_iload_n (pc := 46) ok dX12_restore_46 rfl ?_
    refine r_imul (pc := 47) ok dX12_restore_47 ?_
    refine r_iload_n (pc := 48) ok dX12_restore_48 rfl ?_
    refine r_iadd (pc := 49) ok dX12_restore_49 ?_
    refine r_iald (pc := 50) ok sh_241 (j := 16) rfl (mx_r (by decide) (va_up_self _ _ _)) dX12_restore_50 (fun i4 => ?_)
    refine r_iast (pc := 51) ok sh_227 (j := 2) rfl rfl (fun s_ => mx XX (va_up YY 225 s_)) (pm_r _ _).1 (pm_r _ _).2 dX12_restore_51 (fun i5 s6 => ?_)
    refine r_iinc (pc := 52) ok (1 : Int32) dX12_restore_52 ci_1 rfl (Nat.le_of_ble_eq_true rfl) rfl ?_
    refine r_goto (pc := 55) ok 27 dX12_restore_55 rfl ?_
    exact hc ((a.1 + (1 : Int32)), s6)
theorem wMo_restore_L60 {Z : Cx} {G : Gx} {b : Nat} {XX YY : Nat → Obj} {v1 : Int32} (ok : OK Z G b cX12_restore 3 1 RX12 (some .boolean)) {K : ((Int32 × Obj) ⊕ (Obj)) → Option (Int32 × Obj)} (hc : ∀ (a : Int32 × Obj), VO Z G b 3 (fun (r : Int32 × Obj) => QX Z b (qI G b r.1 (mx XX (va_up YY 225 r.2)))) (mx XX (va_up YY 225 a.2)) 60 [some (.ref (b + 225)), some (.int v1), some (.int a.1)] [] (K (.inl a))) (hx : ∀ (e : Obj), VO Z G b 3 (fun (r : Int32 × Obj) => QX Z b (qI G b r.1 (mx XX (va_up YY 225 r.2)))) (mx XX (va_up YY 225 e)) 89 [some (.ref (b + 225)), none, none] [] (K (.inr e))) : ∀ (a : Int32 × Obj), VO Z G b 3 (fun (r : Int32 × Obj) => QX Z b (qI G b r.1 (mx XX (va_up YY 225 r.2)))) (mx XX (va_up YY 225 a.2)) 60 [some (.ref (b + 225)), some (.int v1), some (.int a.1)] [] ((fMo_restore_L60 v1 a).bind K) := by
  intro a
  unfold fMo_restore_L60
  refine r_iload_n (pc := 60) ok dX12_restore_60 rfl ?_
  refine r_bipush (pc := 61) ok (14 : Int32) dX12_restore_61 cb_14 ?_
  refine r_icmp_ge (pc := 63) ok 89 dX12_restore_63 rfl (fun _ => ?_) (fun _ => ?_)
  · refine r_lv (lk_s (lk_n (lk_n lk_0 _) _) _) ?_
    exact hx a.2
  · refine r_aload_n (pc := 66) ok dX12_restore_66 rfl ?_
    refine r_getR (pc := 67) ok cls12 sh_225 (k := 9) rfl (Nat.le_of_ble_eq_true rfl) rfl dX12_restore_67 fl_Mo_43 ?_
    refine r_iload_n (pc := 70) ok dX12_restore_70 rfl ?_
    refine r_aload_n (pc := 71) ok dX12_restore_71 rfl ?_
    refine r_getR (pc := 72) ok cls12 sh_225 (k := 46) rfl (Nat.le_of_ble_eq_true rfl) rfl dX12_restore_72 fl_Mo_84 ?_
    refine r_bipush (pc := 75) ok (14 : Int32) dX12_restore_75 cb_14 ?_
    refine r_iload_n (pc := 77) ok dX12_restore_77 rfl ?_
    refine r_imul (pc := 78) ok dX12_restore_78 ?_
    refine r_iload_n (pc := 79) ok dX12_restore_79 rfl ?_
    refine r_iadd (pc := 80) ok dX12_restore_80 ?_
    refine r_lald (pc := 81) ok sh_242 (j := 17) rfl (mx_r (by decide) (va_up_self _ _ _)) dX12_restore_81 (fun i8 => ?_)
    refine r_last (pc := 82) ok sh_230 (j := 5) rfl rfl (fun s_ => mx XX (va_up YY 225 s_)) (pm_r _ _).1 (pm_r _ _).2 dX12_restore_82 (fun i9 s10 => ?_)
    refine r_iinc (pc := 83) ok (1 : Int32) dX12_restore_83 ci_1 rfl (Nat.le_of_ble_eq_true rfl) rfl ?_
    refine r_goto (pc := 86) ok 60 dX12_restore_86 rfl ?_
    exact hc ((a.1 + (1 : Int32)), s10)
theorem vMo_restore {Z : Cx} {G : Gx} {b : Nat} {XX YY : Nat → Obj} {m : Obj} {v1 : Int32} (ok : OK Z G b cX12_restore 3 1 RX12 (some .boolean)) : VO Z G b 3 (fun (r : Int32 × Obj) => QX Z b (qI G b r.1 (mx XX (va_up YY 225 r.2)))) (mx XX (va_up YY 225 m)) 0 [some (.ref (b + 225)), some (.int v1), none] [] ((fMo_restore m v1).bind some) := by
  unfold fMo_restore
  refine r_aload_n (pc := 0) ok dX12_restore_0 rfl ?_
  refine r_iconst (pc := 1) ok (0 : Int32) dX12_restore_1 ci_0 ?_
  refine r_putI (pc := 2) ok cls12 sh_225 (k := 0) rfl (Nat.le_of_ble_eq_true rfl) (fun s_ => mx XX (va_up YY 225 s_)) (pm_r _ _).1 (pm_r _ _).2 rfl rfl rfl dX12_restore_2 fl_Mo_1 (fun s1 => ?_)
  refine r_iload_n (pc := 5) ok dX12_restore_5 rfl ?_
  refine r_iconst (pc := 6) ok (0 : Int32) dX12_restore_6 ci_0 ?_
  refine r_iconst (pc := 7) ok (1 : Int32) dX12_restore_7 ci_1 ?_
  refine k_I (pc := 8) (fun r2 => r2) (fun r2 => mx XX (va_up YY 225 s1)) (fun r2 hr_ => c_S (n := 3) ok ml_Mo_193 ws_X12_isIn yk_X12_isIn rfl (Nat.le_of_ble_eq_true rfl) (Nat.le_of_ble_eq_true rfl) (tMo_isIn hr_) rfl (Nat.le_of_ble_eq_true rfl) dX12_restore_8) (fun r2 => ?_)
  refine r_if_eq (pc := 11) ok 23 dX12_restore_11 rfl (fun _ => ?_) (fun _ => ?_)
  · refine r_iconst (pc := 23) ok (0 : Int32) dX12_restore_23 ci_0 ?_
    exact r_zret (pc := 24) ok dX12_restore_24 za_0 rfl
  · refine r_aload_n (pc := 14) ok dX12_restore_14 rfl ?_
    refine r_getR (pc := 15) ok cls12 sh_225 (k := 47) rfl (Nat.le_of_ble_eq_true rfl) rfl dX12_restore_15 fl_Mo_87 ?_
    refine r_iload_n (pc := 18) ok dX12_restore_18 rfl ?_
    refine r_zald (pc := 19) ok sh_243 (j := 18) rfl (mx_r (by decide) (va_up_self _ _ _)) dX12_restore_19 (fun i3 => ?_)
    refine r_if_ne (pc := 20) ok 25 dX12_restore_20 rfl (fun _ => ?_) (fun _ => ?_)
    · refine r_iconst (pc := 23) ok (0 : Int32) dX12_restore_23 ci_0 ?_
      exact r_zret (pc := 24) ok dX12_restore_24 za_0 rfl
    · refine r_iconst (pc := 25) ok (0 : Int32) dX12_restore_25 ci_0 ?_
      refine r_istore_n (pc := 26) ok dX12_restore_26 (Nat.le_of_ble_eq_true rfl) rfl ?_
      refine r_iter (P := fun (a27 : Int32 × Obj) o => VO Z G b 3 (fun (r : Int32 × Obj) => QX Z b (qI G b r.1 (mx XX (va_up YY 225 r.2)))) (mx XX (va_up YY 225 a27.2)) 27 [some (.ref (b + 225)), some (.int v1), some (.int a27.1)] [] o) (E := fun (e_27 : Obj) o => VO Z G b 3 (fun (r : Int32 × Obj) => QX Z b (qI G b r.1 (mx XX (va_up YY 225 r.2)))) (mx XX (va_up YY 225 e_27)) 58 [some (.ref (b + 225)), some (.int v1), none] [] o) (fun _ => r_none) (fun K hc hx => wMo_restore_L27 ok (K := K) hc hx) (fun e7 => ?_) FU ((0 : Int32), s1)
      refine r_iconst (pc := 58) ok (0 : Int32) dX12_restore_58 ci_0 ?_
      refine r_istore_n (pc := 59) ok dX12_restore_59 (Nat.le_of_ble_eq_true rfl) rfl ?_
      refine r_iter (P := fun (a60 : Int32 × Obj) o => VO Z G b 3 (fun (r : Int32 × Obj) => QX Z b (qI G b r.1 (mx XX (va_up YY 225 r.2)))) (mx XX (va_up YY 225 a60.2)) 60 [some (.ref (b + 225)), some (.int v1), some (.int a60.1)] [] o) (E := fun (e_60 : Obj) o => VO Z G b 3 (fun (r : Int32 × Obj) => QX Z b (qI G b r.1 (mx XX (va_up YY 225 r.2)))) (mx XX (va_up YY 225 e_60)) 89 [some (.ref (b + 225)), none, none] [] o) (fun _ => r_none) (fun K hc hx => wMo_restore_L60 ok (K := K) hc hx) (fun e11 => ?_) FU ((0 : Int32), e7)
      refine r_aload_n (pc := 89) ok dX12_restore_89 rfl ?_
      refine r_iconst (pc := 90) ok (0 : Int32) dX12_restore_90 ci_0 ?_
      refine r_putI (pc := 91) ok cls12 sh_225 (k := 23) rfl (Nat.le_of_ble_eq_true rfl) (fun s_ => mx XX (va_up YY 225 s_)) (pm_r _ _).1 (pm_r _ _).2 rfl rfl rfl dX12_restore_91 fl_Mo_271 (fun s12 => ?_)
      refine r_iconst (pc := 94) ok (1 : Int32) dX12_restore_94 ci_1 ?_
      exact r_zret (pc := 95) ok dX12_restore_95 za_1 rfl
theorem tMo_restore {l : Launch} {G : Gx} {b : Nat} {XX YY : Nat → Obj} {m : Obj} {v1 : Int32} {r : Int32 × Obj} (hr : fMo_restore m v1 = some r) : MetG l G b yX12_restore cX12_restore 3 (some .boolean) 1 [.ref (b + 225), .int v1] (mx XX (va_up YY 225 m)) (qI G b r.1 (mx XX (va_up YY 225 r.2))) := by
  refine met_start [some (.ref (b + 225)), some (.int v1), none] (by decide +kernel) (Nat.le_of_ble_eq_true rfl) rfl (fun Z hl ok => ?_)
  clear hl
  exact vMo_restore ok r (by rw [hr]; rfl)
theorem vMo_count {Z : Cx} {G : Gx} {b : Nat} {XX YY : Nat → Obj} {m : Obj} {v1 : Int32} (ok : OK Z G b cX12_count 2 1 RX12 (some .int)) : VO Z G b 2 (fun (r : Int32 × Obj) => QX Z b (qI G b r.1 (mx XX (va_up YY 225 r.2)))) (mx XX (va_up YY 225 m)) 0 [some (.ref (b + 225)), some (.int v1)] [] ((fMo_count m v1).bind some) := by
  unfold fMo_count
  refine r_aload_n (pc := 0) ok dX12_count_0 rfl ?_
  refine r_iconst (pc := 1) ok (0 : Int32) dX12_count_1 ci_0 ?_
  refine r_putI (pc := 2) ok cls12 sh_225 (k := 0) rfl (Nat.le_of_ble_eq_true rfl) (fun s_ => mx XX (va_up YY 225 s_)) (pm_r _ _).1 (pm_r _ _).2 rfl rfl rfl dX12_count_2 fl_Mo_1 (fun s1 => ?_)
  refine r_iload_n (pc := 5) ok dX12_count_5 rfl ?_
  refine r_iconst (pc := 6) ok (5 : Int32) dX12_count_6 ci_5 ?_
  refine r_icmp_ne (pc := 7) ok 17 dX12_count_7 rfl (fun _ => ?_) (fun _ => ?_)
  · refine r_aload_n (pc := 10) ok dX12_count_10 rfl ?_
    refine r_getI (pc := 11) ok cls12 sh_225 (k := 2) rfl (Nat.le_of_ble_eq_true rfl) (mx_r (by decide) (va_up_self _ _ _)) dX12_count_11 fl_Mo_7 ?_
    refine r_goto (pc := 14) ok 36 dX12_count_14 rfl ?_
    exact r_iret (pc := 36) ok dX12_count_36 rfl
  · refine r_iload_n (pc := 17) ok dX12_count_17 rfl ?_
    refine r_iconst (pc := 18) ok (0 : Int32) dX12_count_18 ci_0 ?_
    refine r_iconst (pc := 19) ok (4 : Int32) dX12_count_19 ci_4 ?_
    refine k_I (pc := 20) (fun r2 => r2) (fun r2 => mx XX (va_up YY 225 s1)) (fun r2 hr_ => c_S (n := 3) ok ml_Mo_193 ws_X12_isIn yk_X12_isIn rfl (Nat.le_of_ble_eq_true rfl) (Nat.le_of_ble_eq_true rfl) (tMo_isIn hr_) rfl (Nat.le_of_ble_eq_true rfl) dX12_count_20) (fun r2 => ?_)
    refine r_if_eq (pc := 23) ok 35 dX12_count_23 rfl (fun _ => ?_) (fun _ => ?_)
    · refine r_iconst (pc := 35) ok (-1 : Int32) dX12_count_35 ci_m1 ?_
      exact r_iret (pc := 36) ok dX12_count_36 rfl
    · refine r_aload_n (pc := 26) ok dX12_count_26 rfl ?_
      refine r_getR (pc := 27) ok cls12 sh_225 (k := 6) rfl (Nat.le_of_ble_eq_true rfl) rfl dX12_count_27 fl_Mo_33 ?_
      refine r_iload_n (pc := 30) ok dX12_count_30 rfl ?_
      refine r_iald (pc := 31) ok sh_227 (j := 2) rfl (mx_r (by decide) (va_up_self _ _ _)) dX12_count_31 (fun i3 => ?_)
      refine r_goto (pc := 32) ok 36 dX12_count_32 rfl ?_
      exact r_iret (pc := 36) ok dX12_count_36 rfl
theorem tMo_count {l : Launch} {G : Gx} {b : Nat} {XX YY : Nat → Obj} {m : Obj} {v1 : Int32} {r : Int32 × Obj} (hr : fMo_count m v1 = some r) : MetG l G b yX12_count cX12_count 2 (some .int) 1 [.ref (b + 225), .int v1] (mx XX (va_up YY 225 m)) (qI G b r.1 (mx XX (va_up YY 225 r.2))) := by
  refine met_start [some (.ref (b + 225)), some (.int v1)] (by decide +kernel) (Nat.le_of_ble_eq_true rfl) rfl (fun Z hl ok => ?_)
  clear hl
  exact vMo_count ok r (by rw [hr]; rfl)
