set_option maxRecDepth 20000
abbrev LW (X : Nat → Obj) (m o : Obj) : Nat → Obj := mx X (va_up (va_up M0 244 o) 225 m)
def lvL (b sb ii : Nat) : List (Option Value) := [some (.ref sb), some (.ref (b + 0)), some (.ref (b + 225)), some (.ref (b + 244)), some (.int (nI ii)), none, none]
def lvK (b sb ii : Nat) (k : Int32) : List (Option Value) := [some (.ref sb), some (.ref (b + 0)), some (.ref (b + 225)), some (.ref (b + 244)), some (.int (nI ii)), some (.int k), none]
def lvR (b sb ii : Nat) (k r : Int32) : List (Option Value) := [some (.ref sb), some (.ref (b + 0)), some (.ref (b + 225)), some (.ref (b + 244)), some (.int (nI ii)), some (.int k), some (.int r)]
def LC (Z : Cx) (G : Gx) (b sb L : Nat) (xs : Nat → Int32) : Prop := OKg Z G b code 7 RL ret room_1 ∧ va_X sb L xs Z.2.2.2.2.1 Z.2.2.2.2.1.heap ∧ sb < Z.2.2.2.2.1.heap.size ∧ ¬ b ≤ sb ∧ L ≤ 3072 ∧ NX Z.2.2.2.2.1 ∧ Z.2.1.stackTraces = false
def ar (xs : Nat → Int32) (ii : Nat) (c : Int32) : Int32 := xs (nI ii + c).toNatClampNeg
theorem in_k {ii L k : Nat} (h : ii + 6 ≤ L) (hL : L ≤ 3072) (hk : k ≤ 5) {c : Int32} (hc : c = nI k) : vp_in (nI ii + c) L := pk_in (ii + k) L (by omega) (by rw [hc]; exact (Int32.ofNat_add ii k).symm) (by omega)
section LA
variable {Z : Cx} {G : Gx} {b sb L ii nc ns : Nat} {xs : Nat → Int32} {Q : State → Prop} {P : Heap → Prop} {pc : Nat} {lv : List (Option Value)} {st st0 : List Value}
theorem g_arg (C : LC Z G b sb L xs) (hi : ii + 6 ≤ L) (k : Nat) (hk : k ≤ 5) {c : Int32} {z : Int} (hc : c = nI k) (hz : Int32.ofInt z = c) (h0 : lv[0]? = some (some (.ref sb))) (h4 : lv[4]? = some (some (.int (nI ii)))) (d0 : decode code pc = .ok (.aload_n 0, 1)) (d1 : decode code (pc + 1) = .ok (.iload 4, 2)) (d3 : decode code (pc + 3) = .ok (.iconst z, 1)) (d4 : decode code (pc + 4) = .ok (.iadd, 1)) (d5 : decode code (pc + 5) = .ok (.iaload, 1)) (kk : VG Z b 7 Q P nc ns (pc + 6) lv (.int (ar xs ii c) :: st)) : VG Z b 7 Q P nc ns pc lv st :=
  g_aload_n C.1 d0 h0 (g_iload (pc := pc + 1) C.1 d1 h4 (g_iconst (pc := pc + 3) C.1 c d3 hz (g_iadd (pc := pc + 4) C.1 d4 (g_sld (pc := pc + 5) C.1 C.2.1 C.2.2.1 C.2.2.2.1 (in_k hi C.2.2.2.2.1 hk hc) d5 kk))))
theorem g_cH {R : Room} {nL : Nat} {cc : ByteArray} {own : String} {ret' : Option FieldType} {y : MethodName} {cy : ByteArray} {mL dy n idx mc ms : Nat} {ry : Option FieldType} {As : List Value} {hh : List (Nat × Nat × Nat × Nat)} {Qc : Array Value → State → Outcome → State → Prop} (ok : OKg Z G b cc nL own ret' R) (hN : NX Z.2.2.2.2.1) (hl : Cond.methodLink own idx y ∈ Tg) (hsta : Cond.static y ∈ Tg) (hin : Cond.initialized y.cls ∈ Tg) (hcd : Cond.codeWith y cy mL ry hh ∈ Tg) (hy : yOK y n) (hn : As.length = n) (hd1 : dy + 1 ≤ R.frames) (hd2 : 8 + (mL + 11) + 60 * dy ≤ R.locals) (hrc : nc + mc ≤ R.cells) (hrs : ns + ms ≤ R.slots)
    (hM : MetH Z.2.1 G b y cy mL ry hh dy mc ms As P Qc) (hst : st0 = As.reverse ++ st) (hcat : (st.map fun v => v.category).sum ≤ 8) (hd : decode cc pc = .ok (.invokestatic idx, 3)) : RnP Z b nL P nc ns mc ms pc lv st0 st Qc As.toArray := by
  intro H locs ls hW hS hlv
  have hts := ok.2.2.2.2.1
  have hR := ok.2.2.2.2.2.2.2.1
  have hcw : vx_CSW Z.2.2.2.1 Z.2.2.2.2.1 Z.2.2.2.2.2.2.1 own idx y cy mL ry hh (Cond.codeWith y cy mL ry hh :: Tg) (rmc dy mc ms) mc ms n := ⟨⟨rfl, rfl, by rw [hR]; exact hd1, by rw [hR]; exact hd2, pay_in hts (fun w hw => (List.mem_cons.mp hw).elim (fun e => by rw [e]; exact tg_in _ hcd) (tg_in w)), List.mem_cons_self⟩, hts _ hcd, hts _ hin, ⟨hy.1, hy.2.1⟩, fun sig h => by have h2 := hy.2.2; rw [h] at h2; exact (Option.some.inj h2).symm, hts _ hl, hts _ hsta⟩
  exact vx_runSW ⟨ok.1, ok.2.1, ok.2.2.1, ok.2.2.2.1, hts⟩ hM hcw ⟨metX_blind, fun U hU hWm => ⟨rfl, by rw [hU]; exact hW, EV.moved hWm (by rw [hU]; exact hS) ok.2.2.2.2.2.1, NX.warm hWm hN⟩⟩ rfl hn hlv.1 hst (lv_room hcat) hd (by rw [hR]; exact ⟨hrc, hrs⟩)
theorem gw_kH {a : Array Value} {v : Int32} {M' : Nat → Obj} (hr : RnP Z b 7 P nc ns 1 6 pc lv st0 st (qI G b v M') a) (kk : VG Z b 7 Q (Wd G.1 G.2 b M') (nc + 1) (ns + 6) (pc + 3) lv (.int v :: st)) : VG Z b 7 Q P nc ns pc lv st0 := g_kI (P' := Wd G.1 G.2 b M') (mc := 1) (ms := 6) hr kk
end LA
theorem outW_LW (X : Nat → Obj) (m o : Obj) (r : Int32) : outW (LW X m o) r = LW X m (sL o 0 (Int32.toNatClampNeg 0) (i2l r)) := by
  funext q
  unfold outW
  by_cases hq : q = 244
  · subst hq
    rw [va_up_self]
    rfl
  · rw [va_up_ne _ _ hq]
    show mx X (va_up (va_up M0 244 o) 225 m) q = mx X (va_up (va_up M0 244 (sL o 0 (Int32.toNatClampNeg 0) (i2l r))) 225 m) q
    unfold mx
    by_cases h1 : q < 225
    · rw [if_pos h1, if_pos h1]
    · rw [if_neg h1, if_neg h1]
      by_cases h2 : q = 225
      · subst h2; rw [va_up_self, va_up_self]
      · rw [va_up_ne _ _ h2, va_up_ne _ _ h2, va_up_ne _ _ hq, va_up_ne _ _ hq]
theorem wv_X11_feed : wV yX11_feed cX11_feed 6 (some .int) := ⟨tg 611 (by decide +kernel) (by decide +kernel), tg 612 (by decide +kernel) (by decide +kernel), tg 117 (by decide +kernel) (by decide +kernel), tg 613 rfl rfl⟩
theorem yk_X11_feed : yOK yX11_feed 5 := ⟨by decide +kernel, by decide +kernel, by decide +kernel⟩
theorem wv_X12_feed : wV yX12_feed cX12_feed 6 (some .int) := ⟨tg 1474 (by decide +kernel) (by decide +kernel), tg 1475 (by decide +kernel) (by decide +kernel), tg 133 (by decide +kernel) (by decide +kernel), tg 1476 rfl rfl⟩
theorem yk_X12_feed : yOK yX12_feed 5 := ⟨by decide +kernel, by decide +kernel, by decide +kernel⟩
theorem lk_23 : Cond.methodLink RL 23 yX11_feed ∈ Tg := tg 610 (by decide +kernel) (by decide +kernel)
theorem lk_27 : Cond.methodLink RL 27 yX12_feed ∈ Tg := tg 1473 (by decide +kernel) (by decide +kernel)
theorem wv_X11_end : wV yX11_end cX11_end 2 (some .boolean) := ⟨tg 619 (by decide +kernel) (by decide +kernel), tg 620 (by decide +kernel) (by decide +kernel), tg 117 (by decide +kernel) (by decide +kernel), tg 621 rfl rfl⟩
theorem yk_X11_end : yOK yX11_end 1 := ⟨by decide +kernel, by decide +kernel, by decide +kernel⟩
theorem wv_X12_end : wV yX12_end cX12_end 2 (some .boolean) := ⟨tg 1483 (by decide +kernel) (by decide +kernel), tg 1484 (by decide +kernel) (by decide +kernel), tg 133 (by decide +kernel) (by decide +kernel), tg 1485 rfl rfl⟩
theorem yk_X12_end : yOK yX12_end 1 := ⟨by decide +kernel, by decide +kernel, by decide +kernel⟩
theorem lk_28 : Cond.methodLink RL 28 yX11_end ∈ Tg := tg 618 (by decide +kernel) (by decide +kernel)
theorem lk_32 : Cond.methodLink RL 32 yX12_end ∈ Tg := tg 1482 (by decide +kernel) (by decide +kernel)
theorem wv_X11_quarter : wV yX11_quarter cX11_quarter 2 (some .int) := ⟨tg 623 (by decide +kernel) (by decide +kernel), tg 624 (by decide +kernel) (by decide +kernel), tg 117 (by decide +kernel) (by decide +kernel), tg 625 rfl rfl⟩
theorem yk_X11_quarter : yOK yX11_quarter 0 := ⟨by decide +kernel, by decide +kernel, by decide +kernel⟩
theorem wv_X12_quarter : wV yX12_quarter cX12_quarter 2 (some .int) := ⟨tg 1670 (by decide +kernel) (by decide +kernel), tg 1671 (by decide +kernel) (by decide +kernel), tg 133 (by decide +kernel) (by decide +kernel), tg 1672 rfl rfl⟩
theorem yk_X12_quarter : yOK yX12_quarter 0 := ⟨by decide +kernel, by decide +kernel, by decide +kernel⟩
theorem lk_33 : Cond.methodLink RL 33 yX11_quarter ∈ Tg := tg 622 (by decide +kernel) (by decide +kernel)
theorem lk_37 : Cond.methodLink RL 37 yX12_quarter ∈ Tg := tg 1669 (by decide +kernel) (by decide +kernel)
theorem wv_X11_fault : wV yX11_fault cX11_fault 1 (some .int) := ⟨tg 846 (by decide +kernel) (by decide +kernel), tg 847 (by decide +kernel) (by decide +kernel), tg 117 (by decide +kernel) (by decide +kernel), tg 848 rfl rfl⟩
theorem yk_X11_fault : yOK yX11_fault 0 := ⟨by decide +kernel, by decide +kernel, by decide +kernel⟩
theorem wv_X12_fault : wV yX12_fault cX12_fault 1 (some .int) := ⟨tg 1777 (by decide +kernel) (by decide +kernel), tg 1778 (by decide +kernel) (by decide +kernel), tg 133 (by decide +kernel) (by decide +kernel), tg 1779 rfl rfl⟩
theorem yk_X12_fault : yOK yX12_fault 0 := ⟨by decide +kernel, by decide +kernel, by decide +kernel⟩
theorem lk_38 : Cond.methodLink RL 38 yX11_fault ∈ Tg := tg 845 (by decide +kernel) (by decide +kernel)
theorem lk_41 : Cond.methodLink RL 41 yX12_fault ∈ Tg := tg 1776 (by decide +kernel) (by decide +kernel)
theorem wv_X11_house : wV yX11_house cX11_house 4 (some .int) := ⟨tg 850 (by decide +kernel) (by decide +kernel), tg 851 (by decide +kernel) (by decide +kernel), tg 117 (by decide +kernel) (by decide +kernel), tg 852 rfl rfl⟩
theorem yk_X11_house : yOK yX11_house 2 := ⟨by decide +kernel, by decide +kernel, by decide +kernel⟩
theorem wv_X12_house : wV yX12_house cX12_house 3 (some .int) := ⟨tg 1781 (by decide +kernel) (by decide +kernel), tg 1782 (by decide +kernel) (by decide +kernel), tg 133 (by decide +kernel) (by decide +kernel), tg 1783 rfl rfl⟩
theorem yk_X12_house : yOK yX12_house 2 := ⟨by decide +kernel, by decide +kernel, by decide +kernel⟩
theorem lk_42 : Cond.methodLink RL 42 yX11_house ∈ Tg := tg 849 (by decide +kernel) (by decide +kernel)
theorem lk_45 : Cond.methodLink RL 45 yX12_house ∈ Tg := tg 1780 (by decide +kernel) (by decide +kernel)
theorem wv_X11_call : wV yX11_call cX11_call 4 (some .int) := ⟨tg 868 (by decide +kernel) (by decide +kernel), tg 869 (by decide +kernel) (by decide +kernel), tg 117 (by decide +kernel) (by decide +kernel), tg 870 rfl rfl⟩
theorem yk_X11_call : yOK yX11_call 2 := ⟨by decide +kernel, by decide +kernel, by decide +kernel⟩
theorem wv_X12_call : wV yX12_call cX12_call 3 (some .int) := ⟨tg 1817 (by decide +kernel) (by decide +kernel), tg 1818 (by decide +kernel) (by decide +kernel), tg 133 (by decide +kernel) (by decide +kernel), tg 1819 rfl rfl⟩
theorem yk_X12_call : yOK yX12_call 2 := ⟨by decide +kernel, by decide +kernel, by decide +kernel⟩
theorem lk_55 : Cond.methodLink RL 55 yX11_call ∈ Tg := tg 867 (by decide +kernel) (by decide +kernel)
theorem lk_58 : Cond.methodLink RL 58 yX12_call ∈ Tg := tg 1816 (by decide +kernel) (by decide +kernel)
theorem wv_X11_now : wV yX11_now cX11_now 3 (some .int) := ⟨tg 872 (by decide +kernel) (by decide +kernel), tg 873 (by decide +kernel) (by decide +kernel), tg 117 (by decide +kernel) (by decide +kernel), tg 874 rfl rfl⟩
theorem yk_X11_now : yOK yX11_now 1 := ⟨by decide +kernel, by decide +kernel, by decide +kernel⟩
theorem wv_X12_now : wV yX12_now cX12_now 2 (some .int) := ⟨tg 1821 (by decide +kernel) (by decide +kernel), tg 1822 (by decide +kernel) (by decide +kernel), tg 133 (by decide +kernel) (by decide +kernel), tg 1823 rfl rfl⟩
theorem yk_X12_now : yOK yX12_now 1 := ⟨by decide +kernel, by decide +kernel, by decide +kernel⟩
theorem lk_59 : Cond.methodLink RL 59 yX11_now ∈ Tg := tg 871 (by decide +kernel) (by decide +kernel)
theorem lk_62 : Cond.methodLink RL 62 yX12_now ∈ Tg := tg 1820 (by decide +kernel) (by decide +kernel)
theorem wv_X11_knock : wV yX11_knock cX11_knock 3 (some .int) := ⟨tg 889 (by decide +kernel) (by decide +kernel), tg 890 (by decide +kernel) (by decide +kernel), tg 117 (by decide +kernel) (by decide +kernel), tg 891 rfl rfl⟩
theorem yk_X11_knock : yOK yX11_knock 2 := ⟨by decide +kernel, by decide +kernel, by decide +kernel⟩
theorem wv_X12_knock : wV yX12_knock cX12_knock 4 (some .int) := ⟨tg 1833 (by decide +kernel) (by decide +kernel), tg 1834 (by decide +kernel) (by decide +kernel), tg 133 (by decide +kernel) (by decide +kernel), tg 1835 rfl rfl⟩
theorem yk_X12_knock : yOK yX12_knock 2 := ⟨by decide +kernel, by decide +kernel, by decide +kernel⟩
theorem lk_63 : Cond.methodLink RL 63 yX11_knock ∈ Tg := tg 888 (by decide +kernel) (by decide +kernel)
theorem lk_66 : Cond.methodLink RL 66 yX12_knock ∈ Tg := tg 1832 (by decide +kernel) (by decide +kernel)
theorem wv_X11_go : wV yX11_go cX11_go 3 (some .int) := ⟨tg 915 (by decide +kernel) (by decide +kernel), tg 916 (by decide +kernel) (by decide +kernel), tg 117 (by decide +kernel) (by decide +kernel), tg 917 rfl rfl⟩
theorem yk_X11_go : yOK yX11_go 2 := ⟨by decide +kernel, by decide +kernel, by decide +kernel⟩
theorem wv_X12_go : wV yX12_go cX12_go 4 (some .int) := ⟨tg 1849 (by decide +kernel) (by decide +kernel), tg 1850 (by decide +kernel) (by decide +kernel), tg 133 (by decide +kernel) (by decide +kernel), tg 1851 rfl rfl⟩
theorem yk_X12_go : yOK yX12_go 2 := ⟨by decide +kernel, by decide +kernel, by decide +kernel⟩
theorem lk_67 : Cond.methodLink RL 67 yX11_go ∈ Tg := tg 914 (by decide +kernel) (by decide +kernel)
theorem lk_70 : Cond.methodLink RL 70 yX12_go ∈ Tg := tg 1848 (by decide +kernel) (by decide +kernel)
theorem wv_X11_quit : wV yX11_quit cX11_quit 2 (some .int) := ⟨tg 923 (by decide +kernel) (by decide +kernel), tg 924 (by decide +kernel) (by decide +kernel), tg 117 (by decide +kernel) (by decide +kernel), tg 925 rfl rfl⟩
theorem yk_X11_quit : yOK yX11_quit 1 := ⟨by decide +kernel, by decide +kernel, by decide +kernel⟩
theorem wv_X12_quit : wV yX12_quit cX12_quit 2 (some .int) := ⟨tg 1857 (by decide +kernel) (by decide +kernel), tg 1858 (by decide +kernel) (by decide +kernel), tg 133 (by decide +kernel) (by decide +kernel), tg 1859 rfl rfl⟩
theorem yk_X12_quit : yOK yX12_quit 1 := ⟨by decide +kernel, by decide +kernel, by decide +kernel⟩
theorem lk_71 : Cond.methodLink RL 71 yX11_quit ∈ Tg := tg 922 (by decide +kernel) (by decide +kernel)
theorem lk_74 : Cond.methodLink RL 74 yX12_quit ∈ Tg := tg 1856 (by decide +kernel) (by decide +kernel)
theorem wv_X11_meets : wV yX11_meets cX11_meets 3 (some .int) := ⟨tg 935 (by decide +kernel) (by decide +kernel), tg 936 (by decide +kernel) (by decide +kernel), tg 117 (by decide +kernel) (by decide +kernel), tg 937 rfl rfl⟩
theorem yk_X11_meets : yOK yX11_meets 2 := ⟨by decide +kernel, by decide +kernel, by decide +kernel⟩
theorem wv_X12_meets : wV yX12_meets cX12_meets 3 (some .int) := ⟨tg 1861 (by decide +kernel) (by decide +kernel), tg 1862 (by decide +kernel) (by decide +kernel), tg 133 (by decide +kernel) (by decide +kernel), tg 1863 rfl rfl⟩
theorem yk_X12_meets : yOK yX12_meets 2 := ⟨by decide +kernel, by decide +kernel, by decide +kernel⟩
theorem lk_75 : Cond.methodLink RL 75 yX11_meets ∈ Tg := tg 934 (by decide +kernel) (by decide +kernel)
theorem lk_78 : Cond.methodLink RL 78 yX12_meets ∈ Tg := tg 1860 (by decide +kernel) (by decide +kernel)
theorem wv_X11_calls : wV yX11_calls cX11_calls 3 (some .int) := ⟨tg 940 (by decide +kernel) (by decide +kernel), tg 941 (by decide +kernel) (by decide +kernel), tg 117 (by decide +kernel) (by decide +kernel), tg 942 rfl rfl⟩
theorem yk_X11_calls : yOK yX11_calls 2 := ⟨by decide +kernel, by decide +kernel, by decide +kernel⟩
theorem wv_X12_calls : wV yX12_calls cX12_calls 4 (some .int) := ⟨tg 1865 (by decide +kernel) (by decide +kernel), tg 1866 (by decide +kernel) (by decide +kernel), tg 133 (by decide +kernel) (by decide +kernel), tg 1867 rfl rfl⟩
theorem yk_X12_calls : yOK yX12_calls 2 := ⟨by decide +kernel, by decide +kernel, by decide +kernel⟩
theorem lk_79 : Cond.methodLink RL 79 yX11_calls ∈ Tg := tg 939 (by decide +kernel) (by decide +kernel)
theorem lk_82 : Cond.methodLink RL 82 yX12_calls ∈ Tg := tg 1864 (by decide +kernel) (by decide +kernel)
theorem wv_X11_ticks : wV yX11_ticks cX11_ticks 2 (some .int) := ⟨tg 945 (by decide +kernel) (by decide +kernel), tg 946 (by decide +kernel) (by decide +kernel), tg 117 (by decide +kernel) (by decide +kernel), tg 947 rfl rfl⟩
theorem yk_X11_ticks : yOK yX11_ticks 1 := ⟨by decide +kernel, by decide +kernel, by decide +kernel⟩
theorem wv_X12_ticks : wV yX12_ticks cX12_ticks 2 (some .int) := ⟨tg 1881 (by decide +kernel) (by decide +kernel), tg 1882 (by decide +kernel) (by decide +kernel), tg 133 (by decide +kernel) (by decide +kernel), tg 1883 rfl rfl⟩
theorem yk_X12_ticks : yOK yX12_ticks 1 := ⟨by decide +kernel, by decide +kernel, by decide +kernel⟩
theorem lk_83 : Cond.methodLink RL 83 yX11_ticks ∈ Tg := tg 944 (by decide +kernel) (by decide +kernel)
theorem lk_86 : Cond.methodLink RL 86 yX12_ticks ∈ Tg := tg 1880 (by decide +kernel) (by decide +kernel)
theorem wv_X11_undo : wV yX11_undo cX11_undo 1 (some .int) := ⟨tg 999 (by decide +kernel) (by decide +kernel), tg 1000 (by decide +kernel) (by decide +kernel), tg 117 (by decide +kernel) (by decide +kernel), tg 1001 rfl rfl⟩
theorem yk_X11_undo : yOK yX11_undo 0 := ⟨by decide +kernel, by decide +kernel, by decide +kernel⟩
theorem wv_X12_undo : wV yX12_undo cX12_undo 2 (some .int) := ⟨tg 1914 (by decide +kernel) (by decide +kernel), tg 1915 (by decide +kernel) (by decide +kernel), tg 133 (by decide +kernel) (by decide +kernel), tg 1916 rfl rfl⟩
theorem yk_X12_undo : yOK yX12_undo 0 := ⟨by decide +kernel, by decide +kernel, by decide +kernel⟩
theorem lk_87 : Cond.methodLink RL 87 yX11_undo ∈ Tg := tg 998 (by decide +kernel) (by decide +kernel)
theorem lk_90 : Cond.methodLink RL 90 yX12_undo ∈ Tg := tg 1913 (by decide +kernel) (by decide +kernel)
theorem wv_X11_answer : wV yX11_answer cX11_answer 2 (some .int) := ⟨tg 1007 (by decide +kernel) (by decide +kernel), tg 1008 (by decide +kernel) (by decide +kernel), tg 117 (by decide +kernel) (by decide +kernel), tg 1009 rfl rfl⟩
theorem yk_X11_answer : yOK yX11_answer 1 := ⟨by decide +kernel, by decide +kernel, by decide +kernel⟩
theorem wv_X12_answer : wV yX12_answer cX12_answer 2 (some .int) := ⟨tg 1918 (by decide +kernel) (by decide +kernel), tg 1919 (by decide +kernel) (by decide +kernel), tg 133 (by decide +kernel) (by decide +kernel), tg 1920 rfl rfl⟩
theorem yk_X12_answer : yOK yX12_answer 1 := ⟨by decide +kernel, by decide +kernel, by decide +kernel⟩
theorem lk_91 : Cond.methodLink RL 91 yX11_answer ∈ Tg := tg 1006 (by decide +kernel) (by decide +kernel)
theorem lk_94 : Cond.methodLink RL 94 yX12_answer ∈ Tg := tg 1917 (by decide +kernel) (by decide +kernel)
theorem wv_X11_most : wV yX11_most cX11_most 1 (some .int) := ⟨tg 1016 (by decide +kernel) (by decide +kernel), tg 1017 (by decide +kernel) (by decide +kernel), tg 117 (by decide +kernel) (by decide +kernel), tg 1018 rfl rfl⟩
theorem yk_X11_most : yOK yX11_most 0 := ⟨by decide +kernel, by decide +kernel, by decide +kernel⟩
theorem wv_X12_most : wV yX12_most cX12_most 4 (some .int) := ⟨tg 1922 (by decide +kernel) (by decide +kernel), tg 1923 (by decide +kernel) (by decide +kernel), tg 133 (by decide +kernel) (by decide +kernel), tg 1924 rfl rfl⟩
theorem yk_X12_most : yOK yX12_most 0 := ⟨by decide +kernel, by decide +kernel, by decide +kernel⟩
theorem lk_95 : Cond.methodLink RL 95 yX11_most ∈ Tg := tg 1015 (by decide +kernel) (by decide +kernel)
theorem lk_98 : Cond.methodLink RL 98 yX12_most ∈ Tg := tg 1921 (by decide +kernel) (by decide +kernel)
theorem wv_X11_those : wV yX11_those cX11_those 1 (some .int) := ⟨tg 1037 (by decide +kernel) (by decide +kernel), tg 1038 (by decide +kernel) (by decide +kernel), tg 117 (by decide +kernel) (by decide +kernel), tg 1039 rfl rfl⟩
theorem yk_X11_those : yOK yX11_those 0 := ⟨by decide +kernel, by decide +kernel, by decide +kernel⟩
theorem wv_X12_those : wV yX12_those cX12_those 1 (some .int) := ⟨tg 1933 (by decide +kernel) (by decide +kernel), tg 1934 (by decide +kernel) (by decide +kernel), tg 133 (by decide +kernel) (by decide +kernel), tg 1935 rfl rfl⟩
theorem yk_X12_those : yOK yX12_those 0 := ⟨by decide +kernel, by decide +kernel, by decide +kernel⟩
theorem lk_99 : Cond.methodLink RL 99 yX11_those ∈ Tg := tg 1036 (by decide +kernel) (by decide +kernel)
theorem lk_102 : Cond.methodLink RL 102 yX12_those ∈ Tg := tg 1932 (by decide +kernel) (by decide +kernel)
theorem wv_X11_chain : wV yX11_chain cX11_chain 3 (some .int) := ⟨tg 1041 (by decide +kernel) (by decide +kernel), tg 1042 (by decide +kernel) (by decide +kernel), tg 117 (by decide +kernel) (by decide +kernel), tg 1043 rfl rfl⟩
theorem yk_X11_chain : yOK yX11_chain 2 := ⟨by decide +kernel, by decide +kernel, by decide +kernel⟩
theorem wv_X12_chain : wV yX12_chain cX12_chain 6 (some .int) := ⟨tg 1937 (by decide +kernel) (by decide +kernel), tg 1938 (by decide +kernel) (by decide +kernel), tg 133 (by decide +kernel) (by decide +kernel), tg 1939 rfl rfl⟩
theorem yk_X12_chain : yOK yX12_chain 2 := ⟨by decide +kernel, by decide +kernel, by decide +kernel⟩
theorem lk_103 : Cond.methodLink RL 103 yX11_chain ∈ Tg := tg 1040 (by decide +kernel) (by decide +kernel)
theorem lk_106 : Cond.methodLink RL 106 yX12_chain ∈ Tg := tg 1936 (by decide +kernel) (by decide +kernel)
theorem wv_X11_chainAt : wV yX11_chainAt cX11_chainAt 2 (some .int) := ⟨tg 1066 (by decide +kernel) (by decide +kernel), tg 1067 (by decide +kernel) (by decide +kernel), tg 117 (by decide +kernel) (by decide +kernel), tg 1068 rfl rfl⟩
theorem yk_X11_chainAt : yOK yX11_chainAt 1 := ⟨by decide +kernel, by decide +kernel, by decide +kernel⟩
theorem wv_X12_chainAt : wV yX12_chainAt cX12_chainAt 2 (some .int) := ⟨tg 1941 (by decide +kernel) (by decide +kernel), tg 1942 (by decide +kernel) (by decide +kernel), tg 133 (by decide +kernel) (by decide +kernel), tg 1943 rfl rfl⟩
theorem yk_X12_chainAt : yOK yX12_chainAt 1 := ⟨by decide +kernel, by decide +kernel, by decide +kernel⟩
theorem lk_107 : Cond.methodLink RL 107 yX11_chainAt ∈ Tg := tg 1065 (by decide +kernel) (by decide +kernel)
theorem lk_110 : Cond.methodLink RL 110 yX12_chainAt ∈ Tg := tg 1940 (by decide +kernel) (by decide +kernel)
theorem wv_X11_who : wV yX11_who cX11_who 2 (some .int) := ⟨tg 1074 (by decide +kernel) (by decide +kernel), tg 1075 (by decide +kernel) (by decide +kernel), tg 117 (by decide +kernel) (by decide +kernel), tg 1076 rfl rfl⟩
theorem yk_X11_who : yOK yX11_who 0 := ⟨by decide +kernel, by decide +kernel, by decide +kernel⟩
theorem wv_X12_who : wV yX12_who cX12_who 3 (some .int) := ⟨tg 1945 (by decide +kernel) (by decide +kernel), tg 1946 (by decide +kernel) (by decide +kernel), tg 133 (by decide +kernel) (by decide +kernel), tg 1947 rfl rfl⟩
theorem yk_X12_who : yOK yX12_who 0 := ⟨by decide +kernel, by decide +kernel, by decide +kernel⟩
theorem lk_111 : Cond.methodLink RL 111 yX11_who ∈ Tg := tg 1073 (by decide +kernel) (by decide +kernel)
theorem lk_114 : Cond.methodLink RL 114 yX12_who ∈ Tg := tg 1944 (by decide +kernel) (by decide +kernel)
theorem wv_X11_ask : wV yX11_ask cX11_ask 1 (some .int) := ⟨tg 1095 (by decide +kernel) (by decide +kernel), tg 1096 (by decide +kernel) (by decide +kernel), tg 117 (by decide +kernel) (by decide +kernel), tg 1097 rfl rfl⟩
theorem yk_X11_ask : yOK yX11_ask 0 := ⟨by decide +kernel, by decide +kernel, by decide +kernel⟩
theorem wv_X12_ask : wV yX12_ask cX12_ask 1 (some .int) := ⟨tg 1964 (by decide +kernel) (by decide +kernel), tg 1965 (by decide +kernel) (by decide +kernel), tg 133 (by decide +kernel) (by decide +kernel), tg 1966 rfl rfl⟩
theorem yk_X12_ask : yOK yX12_ask 0 := ⟨by decide +kernel, by decide +kernel, by decide +kernel⟩
theorem lk_115 : Cond.methodLink RL 115 yX11_ask ∈ Tg := tg 1094 (by decide +kernel) (by decide +kernel)
theorem lk_118 : Cond.methodLink RL 118 yX12_ask ∈ Tg := tg 1963 (by decide +kernel) (by decide +kernel)
theorem wv_X11_opens : wV yX11_opens cX11_opens 3 (some .int) := ⟨tg 1099 (by decide +kernel) (by decide +kernel), tg 1100 (by decide +kernel) (by decide +kernel), tg 117 (by decide +kernel) (by decide +kernel), tg 1101 rfl rfl⟩
theorem yk_X11_opens : yOK yX11_opens 1 := ⟨by decide +kernel, by decide +kernel, by decide +kernel⟩
theorem wv_X12_opens : wV yX12_opens cX12_opens 4 (some .int) := ⟨tg 1968 (by decide +kernel) (by decide +kernel), tg 1969 (by decide +kernel) (by decide +kernel), tg 133 (by decide +kernel) (by decide +kernel), tg 1970 rfl rfl⟩
theorem yk_X12_opens : yOK yX12_opens 1 := ⟨by decide +kernel, by decide +kernel, by decide +kernel⟩
theorem lk_119 : Cond.methodLink RL 119 yX11_opens ∈ Tg := tg 1098 (by decide +kernel) (by decide +kernel)
theorem lk_122 : Cond.methodLink RL 122 yX12_opens ∈ Tg := tg 1967 (by decide +kernel) (by decide +kernel)
theorem wv_X11_known : wV yX11_known cX11_known 2 (some .int) := ⟨tg 1109 (by decide +kernel) (by decide +kernel), tg 1110 (by decide +kernel) (by decide +kernel), tg 117 (by decide +kernel) (by decide +kernel), tg 1111 rfl rfl⟩
theorem yk_X11_known : yOK yX11_known 0 := ⟨by decide +kernel, by decide +kernel, by decide +kernel⟩
theorem wv_X12_known : wV yX12_known cX12_known 3 (some .int) := ⟨tg 1980 (by decide +kernel) (by decide +kernel), tg 1981 (by decide +kernel) (by decide +kernel), tg 133 (by decide +kernel) (by decide +kernel), tg 1982 rfl rfl⟩
theorem yk_X12_known : yOK yX12_known 0 := ⟨by decide +kernel, by decide +kernel, by decide +kernel⟩
theorem lk_123 : Cond.methodLink RL 123 yX11_known ∈ Tg := tg 1108 (by decide +kernel) (by decide +kernel)
theorem lk_126 : Cond.methodLink RL 126 yX12_known ∈ Tg := tg 1979 (by decide +kernel) (by decide +kernel)
theorem wv_X11_meet : wV yX11_meet cX11_meet 4 (some .int) := ⟨tg 1113 (by decide +kernel) (by decide +kernel), tg 1114 (by decide +kernel) (by decide +kernel), tg 117 (by decide +kernel) (by decide +kernel), tg 1115 rfl rfl⟩
theorem yk_X11_meet : yOK yX11_meet 2 := ⟨by decide +kernel, by decide +kernel, by decide +kernel⟩
theorem wv_X12_meet : wV yX12_meet cX12_meet 5 (some .int) := ⟨tg 1984 (by decide +kernel) (by decide +kernel), tg 1985 (by decide +kernel) (by decide +kernel), tg 133 (by decide +kernel) (by decide +kernel), tg 1986 rfl rfl⟩
theorem yk_X12_meet : yOK yX12_meet 2 := ⟨by decide +kernel, by decide +kernel, by decide +kernel⟩
theorem lk_127 : Cond.methodLink RL 127 yX11_meet ∈ Tg := tg 1112 (by decide +kernel) (by decide +kernel)
theorem lk_130 : Cond.methodLink RL 130 yX12_meet ∈ Tg := tg 1983 (by decide +kernel) (by decide +kernel)
theorem wv_X11_busiest : wV yX11_busiest cX11_busiest 1 (some .int) := ⟨tg 1125 (by decide +kernel) (by decide +kernel), tg 1126 (by decide +kernel) (by decide +kernel), tg 117 (by decide +kernel) (by decide +kernel), tg 1127 rfl rfl⟩
theorem yk_X11_busiest : yOK yX11_busiest 0 := ⟨by decide +kernel, by decide +kernel, by decide +kernel⟩
theorem wv_X12_busiest : wV yX12_busiest cX12_busiest 3 (some .int) := ⟨tg 1988 (by decide +kernel) (by decide +kernel), tg 1989 (by decide +kernel) (by decide +kernel), tg 133 (by decide +kernel) (by decide +kernel), tg 1990 rfl rfl⟩
theorem yk_X12_busiest : yOK yX12_busiest 0 := ⟨by decide +kernel, by decide +kernel, by decide +kernel⟩
theorem lk_131 : Cond.methodLink RL 131 yX11_busiest ∈ Tg := tg 1124 (by decide +kernel) (by decide +kernel)
theorem lk_134 : Cond.methodLink RL 134 yX12_busiest ∈ Tg := tg 1987 (by decide +kernel) (by decide +kernel)
theorem wv_X11_tag : wV yX11_tag cX11_tag 2 (some .int) := ⟨tg 1133 (by decide +kernel) (by decide +kernel), tg 1134 (by decide +kernel) (by decide +kernel), tg 117 (by decide +kernel) (by decide +kernel), tg 1135 rfl rfl⟩
theorem yk_X11_tag : yOK yX11_tag 1 := ⟨by decide +kernel, by decide +kernel, by decide +kernel⟩
theorem wv_X12_tag : wV yX12_tag cX12_tag 2 (some .int) := ⟨tg 1996 (by decide +kernel) (by decide +kernel), tg 1997 (by decide +kernel) (by decide +kernel), tg 133 (by decide +kernel) (by decide +kernel), tg 1998 rfl rfl⟩
theorem yk_X12_tag : yOK yX12_tag 1 := ⟨by decide +kernel, by decide +kernel, by decide +kernel⟩
theorem lk_139 : Cond.methodLink RL 139 yX11_tag ∈ Tg := tg 1132 (by decide +kernel) (by decide +kernel)
theorem lk_142 : Cond.methodLink RL 142 yX12_tag ∈ Tg := tg 1995 (by decide +kernel) (by decide +kernel)
theorem wv_X11_byteAt : wV yX11_byteAt cX11_byteAt 2 (some .int) := ⟨tg 1181 (by decide +kernel) (by decide +kernel), tg 1182 (by decide +kernel) (by decide +kernel), tg 117 (by decide +kernel) (by decide +kernel), tg 1183 rfl rfl⟩
theorem yk_X11_byteAt : yOK yX11_byteAt 1 := ⟨by decide +kernel, by decide +kernel, by decide +kernel⟩
theorem wv_X12_byteAt : wV yX12_byteAt cX12_byteAt 2 (some .int) := ⟨tg 2015 (by decide +kernel) (by decide +kernel), tg 2016 (by decide +kernel) (by decide +kernel), tg 133 (by decide +kernel) (by decide +kernel), tg 2017 rfl rfl⟩
theorem yk_X12_byteAt : yOK yX12_byteAt 1 := ⟨by decide +kernel, by decide +kernel, by decide +kernel⟩
theorem lk_143 : Cond.methodLink RL 143 yX11_byteAt ∈ Tg := tg 1180 (by decide +kernel) (by decide +kernel)
theorem lk_146 : Cond.methodLink RL 146 yX12_byteAt ∈ Tg := tg 2014 (by decide +kernel) (by decide +kernel)
theorem wv_X11_drawn : wV yX11_drawn cX11_drawn 3 (some .int) := ⟨tg 1189 (by decide +kernel) (by decide +kernel), tg 1190 (by decide +kernel) (by decide +kernel), tg 117 (by decide +kernel) (by decide +kernel), tg 1191 rfl rfl⟩
theorem yk_X11_drawn : yOK yX11_drawn 2 := ⟨by decide +kernel, by decide +kernel, by decide +kernel⟩
theorem wv_X12_drawn : wV yX12_drawn cX12_drawn 3 (some .int) := ⟨tg 2019 (by decide +kernel) (by decide +kernel), tg 2020 (by decide +kernel) (by decide +kernel), tg 133 (by decide +kernel) (by decide +kernel), tg 2021 rfl rfl⟩
theorem yk_X12_drawn : yOK yX12_drawn 2 := ⟨by decide +kernel, by decide +kernel, by decide +kernel⟩
theorem lk_147 : Cond.methodLink RL 147 yX11_drawn ∈ Tg := tg 1188 (by decide +kernel) (by decide +kernel)
theorem lk_150 : Cond.methodLink RL 150 yX12_drawn ∈ Tg := tg 2018 (by decide +kernel) (by decide +kernel)
theorem wv_X11_odds : wV yX11_odds cX11_odds 6 (some .int) := ⟨tg 1210 (by decide +kernel) (by decide +kernel), tg 1211 (by decide +kernel) (by decide +kernel), tg 117 (by decide +kernel) (by decide +kernel), tg 1212 rfl rfl⟩
theorem yk_X11_odds : yOK yX11_odds 3 := ⟨by decide +kernel, by decide +kernel, by decide +kernel⟩
theorem wv_X12_odds : wV yX12_odds cX12_odds 6 (some .int) := ⟨tg 2036 (by decide +kernel) (by decide +kernel), tg 2037 (by decide +kernel) (by decide +kernel), tg 133 (by decide +kernel) (by decide +kernel), tg 2038 rfl rfl⟩
theorem yk_X12_odds : yOK yX12_odds 3 := ⟨by decide +kernel, by decide +kernel, by decide +kernel⟩
theorem lk_151 : Cond.methodLink RL 151 yX11_odds ∈ Tg := tg 1209 (by decide +kernel) (by decide +kernel)
theorem lk_155 : Cond.methodLink RL 155 yX12_odds ∈ Tg := tg 2035 (by decide +kernel) (by decide +kernel)
theorem wv_X11_book : wV yX11_book cX11_book 3 (some .int) := ⟨tg 1214 (by decide +kernel) (by decide +kernel), tg 1215 (by decide +kernel) (by decide +kernel), tg 117 (by decide +kernel) (by decide +kernel), tg 1216 rfl rfl⟩
theorem yk_X11_book : yOK yX11_book 1 := ⟨by decide +kernel, by decide +kernel, by decide +kernel⟩
theorem wv_X12_book : wV yX12_book cX12_book 4 (some .int) := ⟨tg 2040 (by decide +kernel) (by decide +kernel), tg 2041 (by decide +kernel) (by decide +kernel), tg 133 (by decide +kernel) (by decide +kernel), tg 2042 rfl rfl⟩
theorem yk_X12_book : yOK yX12_book 1 := ⟨by decide +kernel, by decide +kernel, by decide +kernel⟩
theorem lk_156 : Cond.methodLink RL 156 yX11_book ∈ Tg := tg 1213 (by decide +kernel) (by decide +kernel)
theorem lk_159 : Cond.methodLink RL 159 yX12_book ∈ Tg := tg 2039 (by decide +kernel) (by decide +kernel)
theorem wv_X11_told : wV yX11_told cX11_told 2 (some .int) := ⟨tg 1274 (by decide +kernel) (by decide +kernel), tg 1275 (by decide +kernel) (by decide +kernel), tg 117 (by decide +kernel) (by decide +kernel), tg 1276 rfl rfl⟩
theorem yk_X11_told : yOK yX11_told 1 := ⟨by decide +kernel, by decide +kernel, by decide +kernel⟩
theorem wv_X12_told : wV yX12_told cX12_told 2 (some .int) := ⟨tg 2052 (by decide +kernel) (by decide +kernel), tg 2053 (by decide +kernel) (by decide +kernel), tg 133 (by decide +kernel) (by decide +kernel), tg 2054 rfl rfl⟩
theorem yk_X12_told : yOK yX12_told 1 := ⟨by decide +kernel, by decide +kernel, by decide +kernel⟩
theorem lk_160 : Cond.methodLink RL 160 yX11_told ∈ Tg := tg 1273 (by decide +kernel) (by decide +kernel)
theorem lk_163 : Cond.methodLink RL 163 yX12_told ∈ Tg := tg 2051 (by decide +kernel) (by decide +kernel)
theorem wv_X11_sentence : wV yX11_sentence cX11_sentence 2 (some .int) := ⟨tg 1282 (by decide +kernel) (by decide +kernel), tg 1283 (by decide +kernel) (by decide +kernel), tg 117 (by decide +kernel) (by decide +kernel), tg 1284 rfl rfl⟩
theorem yk_X11_sentence : yOK yX11_sentence 0 := ⟨by decide +kernel, by decide +kernel, by decide +kernel⟩
theorem wv_X12_sentence : wV yX12_sentence cX12_sentence 3 (some .int) := ⟨tg 2056 (by decide +kernel) (by decide +kernel), tg 2057 (by decide +kernel) (by decide +kernel), tg 133 (by decide +kernel) (by decide +kernel), tg 2058 rfl rfl⟩
theorem yk_X12_sentence : yOK yX12_sentence 0 := ⟨by decide +kernel, by decide +kernel, by decide +kernel⟩
theorem lk_164 : Cond.methodLink RL 164 yX11_sentence ∈ Tg := tg 1281 (by decide +kernel) (by decide +kernel)
theorem lk_167 : Cond.methodLink RL 167 yX12_sentence ∈ Tg := tg 2055 (by decide +kernel) (by decide +kernel)
theorem wv_X11_said : wV yX11_said cX11_said 3 (some .int) := ⟨tg 1335 (by decide +kernel) (by decide +kernel), tg 1336 (by decide +kernel) (by decide +kernel), tg 117 (by decide +kernel) (by decide +kernel), tg 1337 rfl rfl⟩
theorem yk_X11_said : yOK yX11_said 1 := ⟨by decide +kernel, by decide +kernel, by decide +kernel⟩
theorem wv_X12_said : wV yX12_said cX12_said 4 (some .int) := ⟨tg 2084 (by decide +kernel) (by decide +kernel), tg 2085 (by decide +kernel) (by decide +kernel), tg 133 (by decide +kernel) (by decide +kernel), tg 2086 rfl rfl⟩
theorem yk_X12_said : yOK yX12_said 1 := ⟨by decide +kernel, by decide +kernel, by decide +kernel⟩
theorem lk_168 : Cond.methodLink RL 168 yX11_said ∈ Tg := tg 1334 (by decide +kernel) (by decide +kernel)
theorem lk_171 : Cond.methodLink RL 171 yX12_said ∈ Tg := tg 2083 (by decide +kernel) (by decide +kernel)
theorem wv_X11_image : wV yX11_image cX11_image 3 (some .boolean) := ⟨tg 1370 (by decide +kernel) (by decide +kernel), tg 1371 (by decide +kernel) (by decide +kernel), tg 117 (by decide +kernel) (by decide +kernel), tg 1372 rfl rfl⟩
theorem yk_X11_image : yOK yX11_image 1 := ⟨by decide +kernel, by decide +kernel, by decide +kernel⟩
theorem wv_X12_image : wV yX12_image cX12_image 3 (some .boolean) := ⟨tg 2096 (by decide +kernel) (by decide +kernel), tg 2097 (by decide +kernel) (by decide +kernel), tg 133 (by decide +kernel) (by decide +kernel), tg 2098 rfl rfl⟩
theorem yk_X12_image : yOK yX12_image 1 := ⟨by decide +kernel, by decide +kernel, by decide +kernel⟩
theorem lk_172 : Cond.methodLink RL 172 yX11_image ∈ Tg := tg 1369 (by decide +kernel) (by decide +kernel)
theorem lk_175 : Cond.methodLink RL 175 yX12_image ∈ Tg := tg 2095 (by decide +kernel) (by decide +kernel)
theorem wv_X11_restore : wV yX11_restore cX11_restore 3 (some .boolean) := ⟨tg 1378 (by decide +kernel) (by decide +kernel), tg 1379 (by decide +kernel) (by decide +kernel), tg 117 (by decide +kernel) (by decide +kernel), tg 1380 rfl rfl⟩
theorem yk_X11_restore : yOK yX11_restore 1 := ⟨by decide +kernel, by decide +kernel, by decide +kernel⟩
theorem wv_X12_restore : wV yX12_restore cX12_restore 3 (some .boolean) := ⟨tg 2100 (by decide +kernel) (by decide +kernel), tg 2101 (by decide +kernel) (by decide +kernel), tg 133 (by decide +kernel) (by decide +kernel), tg 2102 rfl rfl⟩
theorem yk_X12_restore : yOK yX12_restore 1 := ⟨by decide +kernel, by decide +kernel, by decide +kernel⟩
theorem lk_176 : Cond.methodLink RL 176 yX11_restore ∈ Tg := tg 1377 (by decide +kernel) (by decide +kernel)
theorem lk_179 : Cond.methodLink RL 179 yX12_restore ∈ Tg := tg 2099 (by decide +kernel) (by decide +kernel)
theorem wv_X11_count : wV yX11_count cX11_count 3 (some .int) := ⟨tg 1382 (by decide +kernel) (by decide +kernel), tg 1383 (by decide +kernel) (by decide +kernel), tg 117 (by decide +kernel) (by decide +kernel), tg 1384 rfl rfl⟩
theorem yk_X11_count : yOK yX11_count 1 := ⟨by decide +kernel, by decide +kernel, by decide +kernel⟩
theorem wv_X12_count : wV yX12_count cX12_count 2 (some .int) := ⟨tg 2104 (by decide +kernel) (by decide +kernel), tg 2105 (by decide +kernel) (by decide +kernel), tg 133 (by decide +kernel) (by decide +kernel), tg 2106 rfl rfl⟩
theorem yk_X12_count : yOK yX12_count 1 := ⟨by decide +kernel, by decide +kernel, by decide +kernel⟩
theorem lk_180 : Cond.methodLink RL 180 yX11_count ∈ Tg := tg 1381 (by decide +kernel) (by decide +kernel)
theorem lk_183 : Cond.methodLink RL 183 yX12_count ∈ Tg := tg 2103 (by decide +kernel) (by decide +kernel)
theorem wv_X12_person : wV yX12_person cX12_person 5 (some .int) := ⟨tg 1805 (by decide +kernel) (by decide +kernel), tg 1806 (by decide +kernel) (by decide +kernel), tg 133 (by decide +kernel) (by decide +kernel), tg 1807 rfl rfl⟩
theorem yk_X12_person : yOK yX12_person 2 := ⟨by decide +kernel, by decide +kernel, by decide +kernel⟩
theorem wv_X12_thrown : wV yX12_thrown cX12_thrown 1 (some .int) := ⟨tg 1470 (by decide +kernel) (by decide +kernel), tg 1471 (by decide +kernel) (by decide +kernel), tg 133 (by decide +kernel) (by decide +kernel), tg 1472 rfl rfl⟩
theorem yk_X12_thrown : yOK yX12_thrown 0 := ⟨by decide +kernel, by decide +kernel, by decide +kernel⟩
theorem lk_51 : Cond.methodLink RL 51 yX12_person ∈ Tg := tg 1804 (by decide +kernel) (by decide +kernel)
theorem lk_52 : Cond.methodLink RL 52 yX12_thrown ∈ Tg := tg 1469 (by decide +kernel) (by decide +kernel)
theorem lk_L_person : Cond.methodLink RL 46 yL_person ∈ Tg := tg 1385 (by decide +kernel) (by decide +kernel)
theorem sta_L_person : Cond.static yL_person ∈ Tg := tg 1386 (by decide +kernel) (by decide +kernel)
theorem cdw_L_person : Cond.codeWith yL_person cL_person 5 (some .int) [(0, 10, 13, 13)] ∈ Tg := tg 1387 rfl rfl
theorem yk_L_person : yOK yL_person 4 := ⟨by decide +kernel, by decide +kernel, by decide +kernel⟩
theorem ini_L : Cond.initialized RL ∈ Tg := tg 116 (by decide +kernel) (by decide +kernel)
theorem wv_X12_mean : wV yX12_mean cX12_mean 6 (some .int) := ⟨tg 1992 (by decide +kernel) (by decide +kernel), tg 1993 (by decide +kernel) (by decide +kernel), tg 133 (by decide +kernel) (by decide +kernel), tg 1994 rfl rfl⟩
theorem yk_X12_mean : yOK yX12_mean 1 := ⟨by decide +kernel, by decide +kernel, by decide +kernel⟩
theorem lk_138 : Cond.methodLink RL 138 yX12_mean ∈ Tg := tg 1991 (by decide +kernel) (by decide +kernel)
theorem lk_L_mean : Cond.methodLink RL 135 yL_mean ∈ Tg := tg 1455 (by decide +kernel) (by decide +kernel)
theorem sta_L_mean : Cond.static yL_mean ∈ Tg := tg 1456 (by decide +kernel) (by decide +kernel)
theorem cdw_L_mean : Cond.codeWith yL_mean cL_mean 4 (some .int) [(0, 9, 12, 13)] ∈ Tg := tg 1457 rfl rfl
theorem yk_L_mean : yOK yL_mean 3 := ⟨by decide +kernel, by decide +kernel, by decide +kernel⟩
theorem va_sL (o : Obj) (r : Int32) : (sL o 0 (Int32.toNatClampNeg 0) (i2l r)).2 0 (Int32.toNatClampNeg 0) = i2l r := by
  rw [sL_c, va_up_self]
