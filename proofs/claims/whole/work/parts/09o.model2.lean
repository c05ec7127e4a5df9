set_option maxRecDepth 20000
theorem wi_X12_init : wI yX12_init cX12_init 2 := ⟨tg 1488 (by decide +kernel) (by decide +kernel), tg 133 (by decide +kernel) (by decide +kernel), tg 1489 rfl rfl, rfl⟩
theorem yi_X12_init : yOK yX12_init 0 := ⟨by decide +kernel, by decide +kernel, by decide +kernel⟩
theorem om_X12_27 : Cond.methodLink RX12 27 Lib.objectInit ∈ Tg := tg 1490 (by decide +kernel) (by decide +kernel)
theorem cfl_X12_14 : Cond.fieldLink RX12 14 (TX12 1).1 (TX12 1).2.1 (TX12 1).2.2.1 ∈ Tg := tg 1525 (by decide +kernel) (by decide +kernel)
theorem cfl_X12_33 : Cond.fieldLink RX12 33 (TX12 6).1 (TX12 6).2.1 (TX12 6).2.2.1 ∈ Tg := tg 1530 (by decide +kernel) (by decide +kernel)
theorem cfl_X12_37 : Cond.fieldLink RX12 37 (TX12 7).1 (TX12 7).2.1 (TX12 7).2.2.1 ∈ Tg := tg 1531 (by decide +kernel) (by decide +kernel)
theorem cfl_X12_40 : Cond.fieldLink RX12 40 (TX12 8).1 (TX12 8).2.1 (TX12 8).2.2.1 ∈ Tg := tg 1532 (by decide +kernel) (by decide +kernel)
theorem cfl_X12_43 : Cond.fieldLink RX12 43 (TX12 9).1 (TX12 9).2.1 (TX12 9).2.2.1 ∈ Tg := tg 1533 (by decide +kernel) (by decide +kernel)
theorem cfl_X12_47 : Cond.fieldLink RX12 47 (TX12 10).1 (TX12 10).2.1 (TX12 10).2.2.1 ∈ Tg := tg 1534 (by decide +kernel) (by decide +kernel)
theorem cfl_X12_50 : Cond.fieldLink RX12 50 (TX12 21).1 (TX12 21).2.1 (TX12 21).2.2.1 ∈ Tg := tg 1545 (by decide +kernel) (by decide +kernel)
theorem cfl_X12_53 : Cond.fieldLink RX12 53 (TX12 22).1 (TX12 22).2.1 (TX12 22).2.2.1 ∈ Tg := tg 1546 (by decide +kernel) (by decide +kernel)
theorem cfl_X12_56 : Cond.fieldLink RX12 56 (TX12 26).1 (TX12 26).2.1 (TX12 26).2.2.1 ∈ Tg := tg 1550 (by decide +kernel) (by decide +kernel)
theorem cfl_X12_60 : Cond.fieldLink RX12 60 (TX12 27).1 (TX12 27).2.1 (TX12 27).2.2.1 ∈ Tg := tg 1551 (by decide +kernel) (by decide +kernel)
theorem cfl_X12_63 : Cond.fieldLink RX12 63 (TX12 28).1 (TX12 28).2.1 (TX12 28).2.2.1 ∈ Tg := tg 1552 (by decide +kernel) (by decide +kernel)
theorem cfl_X12_66 : Cond.fieldLink RX12 66 (TX12 29).1 (TX12 29).2.1 (TX12 29).2.2.1 ∈ Tg := tg 1553 (by decide +kernel) (by decide +kernel)
theorem cfl_X12_69 : Cond.fieldLink RX12 69 (TX12 32).1 (TX12 32).2.1 (TX12 32).2.2.1 ∈ Tg := tg 1556 (by decide +kernel) (by decide +kernel)
theorem cfl_X12_72 : Cond.fieldLink RX12 72 (TX12 36).1 (TX12 36).2.1 (TX12 36).2.2.1 ∈ Tg := tg 1560 (by decide +kernel) (by decide +kernel)
theorem cfl_X12_75 : Cond.fieldLink RX12 75 (TX12 38).1 (TX12 38).2.1 (TX12 38).2.2.1 ∈ Tg := tg 1562 (by decide +kernel) (by decide +kernel)
theorem cfl_X12_78 : Cond.fieldLink RX12 78 (TX12 44).1 (TX12 44).2.1 (TX12 44).2.2.1 ∈ Tg := tg 1568 (by decide +kernel) (by decide +kernel)
theorem cfl_X12_81 : Cond.fieldLink RX12 81 (TX12 45).1 (TX12 45).2.1 (TX12 45).2.2.1 ∈ Tg := tg 1569 (by decide +kernel) (by decide +kernel)
theorem cfl_X12_84 : Cond.fieldLink RX12 84 (TX12 46).1 (TX12 46).2.1 (TX12 46).2.2.1 ∈ Tg := tg 1570 (by decide +kernel) (by decide +kernel)
theorem cfl_X12_87 : Cond.fieldLink RX12 87 (TX12 47).1 (TX12 47).2.1 (TX12 47).2.2.1 ∈ Tg := tg 1571 (by decide +kernel) (by decide +kernel)
theorem kc_X12_90 : Cond.constantLong RX12 90 1818324581 ∈ Tg := tg 1491 (by decide +kernel) (by decide +kernel)
theorem kc_X12_92 : Cond.constantLong RX12 92 448546567013 ∈ Tg := tg 1492 (by decide +kernel) (by decide +kernel)
theorem kc_X12_94 : Cond.constantLong RX12 94 123581014175598 ∈ Tg := tg 1493 (by decide +kernel) (by decide +kernel)
theorem kc_X12_96 : Cond.constantLong RX12 96 500135193968 ∈ Tg := tg 1494 (by decide +kernel) (by decide +kernel)
theorem kc_X12_98 : Cond.constantLong RX12 98 461414299507 ∈ Tg := tg 1495 (by decide +kernel) (by decide +kernel)
theorem kc_X12_100 : Cond.constantLong RX12 100 426836257907 ∈ Tg := tg 1496 (by decide +kernel) (by decide +kernel)
theorem kc_X12_102 : Cond.constantLong RX12 102 6644082 ∈ Tg := tg 1497 (by decide +kernel) (by decide +kernel)
theorem kc_X12_104 : Cond.constantLong RX12 104 1937006969 ∈ Tg := tg 1498 (by decide +kernel) (by decide +kernel)
theorem kc_X12_106 : Cond.constantLong RX12 106 30064 ∈ Tg := tg 1499 (by decide +kernel) (by decide +kernel)
theorem kc_X12_108 : Cond.constantLong RX12 108 1685026670 ∈ Tg := tg 1500 (by decide +kernel) (by decide +kernel)
theorem kc_X12_110 : Cond.constantLong RX12 110 126943688025203 ∈ Tg := tg 1501 (by decide +kernel) (by decide +kernel)
theorem kc_X12_112 : Cond.constantLong RX12 112 1802071652 ∈ Tg := tg 1502 (by decide +kernel) (by decide +kernel)
theorem kc_X12_114 : Cond.constantLong RX12 114 495874044526 ∈ Tg := tg 1503 (by decide +kernel) (by decide +kernel)
theorem kc_X12_116 : Cond.constantLong RX12 116 118122059361139 ∈ Tg := tg 1504 (by decide +kernel) (by decide +kernel)
theorem kc_X12_118 : Cond.constantLong RX12 118 1735353715 ∈ Tg := tg 1505 (by decide +kernel) (by decide +kernel)
theorem kc_X12_120 : Cond.constantLong RX12 120 487301149811 ∈ Tg := tg 1506 (by decide +kernel) (by decide +kernel)
theorem kc_X12_122 : Cond.constantLong RX12 122 469852583027 ∈ Tg := tg 1507 (by decide +kernel) (by decide +kernel)
theorem kc_X12_124 : Cond.constantLong RX12 124 1953063787 ∈ Tg := tg 1508 (by decide +kernel) (by decide +kernel)
theorem kc_X12_126 : Cond.constantLong RX12 126 28530 ∈ Tg := tg 1509 (by decide +kernel) (by decide +kernel)
theorem kc_X12_128 : Cond.constantLong RX12 128 6385252 ∈ Tg := tg 1510 (by decide +kernel) (by decide +kernel)
theorem kc_X12_130 : Cond.constantLong RX12 130 7237492 ∈ Tg := tg 1511 (by decide +kernel) (by decide +kernel)
theorem kc_X12_132 : Cond.constantLong RX12 132 33602640515001959 ∈ Tg := tg 1512 (by decide +kernel) (by decide +kernel)
theorem kc_X12_134 : Cond.constantLong RX12 134 7741247282290978407 ∈ Tg := tg 1513 (by decide +kernel) (by decide +kernel)
theorem kc_X12_136 : Cond.constantLong RX12 136 115923103605861 ∈ Tg := tg 1514 (by decide +kernel) (by decide +kernel)
theorem kc_X12_138 : Cond.constantLong RX12 138 28518 ∈ Tg := tg 1515 (by decide +kernel) (by decide +kernel)
theorem kc_X12_140 : Cond.constantLong RX12 140 482854658917 ∈ Tg := tg 1516 (by decide +kernel) (by decide +kernel)
theorem kc_X12_142 : Cond.constantLong RX12 142 461414299502 ∈ Tg := tg 1517 (by decide +kernel) (by decide +kernel)
theorem kc_X12_144 : Cond.constantLong RX12 144 131260264768868 ∈ Tg := tg 1518 (by decide +kernel) (by decide +kernel)
theorem kc_X12_146 : Cond.constantLong RX12 146 121450625394034 ∈ Tg := tg 1519 (by decide +kernel) (by decide +kernel)
def mo1 (b : Nat) (G : Gx) (cf : Nat → va_E) : Nat → va_E := va_up (va_up (cf) 226 (.inl (G.2 1, 940, .inl (fun _ => 0)))) 225 (.inr (12, [.int 0, .ref (b + 226), .int 0, .int 0, .int 0, .int 0, .null, .null, .null, .null, .null, .int 0, .int 0, .int 0, .int 0, .int 0, .int 0, .long 0, .int 0, .int 0, .int 0, .null, .null, .int 0, .int 0, .int 0, .null, .null, .null, .int 0, .int 0, .int 0, .null, .int 0, .int 0, .int 0, .null, .int 0, .null, .int 0, .int 0, .int 0, .int 0, .int 0, .null, .null, .null, .null]))
def mo2 (b : Nat) (G : Gx) (cf : Nat → va_E) : Nat → va_E := va_up (va_up (mo1 b G cf) 227 (.inl (G.2 2, 342, .inl (fun _ => 0)))) 225 (.inr (12, [.int 0, .ref (b + 226), .int 0, .int 0, .int 0, .int 0, .ref (b + 227), .null, .null, .null, .null, .int 0, .int 0, .int 0, .int 0, .int 0, .int 0, .long 0, .int 0, .int 0, .int 0, .null, .null, .int 0, .int 0, .int 0, .null, .null, .null, .int 0, .int 0, .int 0, .null, .int 0, .int 0, .int 0, .null, .int 0, .null, .int 0, .int 0, .int 0, .int 0, .int 0, .null, .null, .null, .null]))
def mo3 (b : Nat) (G : Gx) (cf : Nat → va_E) : Nat → va_E := va_up (va_up (mo2 b G cf) 228 (.inl (G.2 2, 69, .inl (fun _ => 0)))) 225 (.inr (12, [.int 0, .ref (b + 226), .int 0, .int 0, .int 0, .int 0, .ref (b + 227), .ref (b + 228), .null, .null, .null, .int 0, .int 0, .int 0, .int 0, .int 0, .int 0, .long 0, .int 0, .int 0, .int 0, .null, .null, .int 0, .int 0, .int 0, .null, .null, .null, .int 0, .int 0, .int 0, .null, .int 0, .int 0, .int 0, .null, .int 0, .null, .int 0, .int 0, .int 0, .int 0, .int 0, .null, .null, .null, .null]))
def mo4 (b : Nat) (G : Gx) (cf : Nat → va_E) : Nat → va_E := va_up (va_up (mo3 b G cf) 229 (.inl (G.2 2, 135, .inl (fun _ => 0)))) 225 (.inr (12, [.int 0, .ref (b + 226), .int 0, .int 0, .int 0, .int 0, .ref (b + 227), .ref (b + 228), .ref (b + 229), .null, .null, .int 0, .int 0, .int 0, .int 0, .int 0, .int 0, .long 0, .int 0, .int 0, .int 0, .null, .null, .int 0, .int 0, .int 0, .null, .null, .null, .int 0, .int 0, .int 0, .null, .int 0, .int 0, .int 0, .null, .int 0, .null, .int 0, .int 0, .int 0, .int 0, .int 0, .null, .null, .null, .null]))
def mo5 (b : Nat) (G : Gx) (cf : Nat → va_E) : Nat → va_E := va_up (va_up (mo4 b G cf) 230 (.inl (G.2 3, 28, .inr (.inl (fun _ => 0))))) 225 (.inr (12, [.int 0, .ref (b + 226), .int 0, .int 0, .int 0, .int 0, .ref (b + 227), .ref (b + 228), .ref (b + 229), .ref (b + 230), .null, .int 0, .int 0, .int 0, .int 0, .int 0, .int 0, .long 0, .int 0, .int 0, .int 0, .null, .null, .int 0, .int 0, .int 0, .null, .null, .null, .int 0, .int 0, .int 0, .null, .int 0, .int 0, .int 0, .null, .int 0, .null, .int 0, .int 0, .int 0, .int 0, .int 0, .null, .null, .null, .null]))
def mo6 (b : Nat) (G : Gx) (cf : Nat → va_E) : Nat → va_E := va_up (va_up (mo5 b G cf) 231 (.inl (G.2 3, 29, .inr (.inl (fun _ => 0))))) 225 (.inr (12, [.int 0, .ref (b + 226), .int 0, .int 0, .int 0, .int 0, .ref (b + 227), .ref (b + 228), .ref (b + 229), .ref (b + 230), .ref (b + 231), .int 0, .int 0, .int 0, .int 0, .int 0, .int 0, .long 0, .int 0, .int 0, .int 0, .null, .null, .int 0, .int 0, .int 0, .null, .null, .null, .int 0, .int 0, .int 0, .null, .int 0, .int 0, .int 0, .null, .int 0, .null, .int 0, .int 0, .int 0, .int 0, .int 0, .null, .null, .null, .null]))
def mo7 (b : Nat) (G : Gx) (cf : Nat → va_E) : Nat → va_E := va_up (va_up (mo6 b G cf) 232 (.inl (G.2 2, 736, .inl (fun _ => 0)))) 225 (.inr (12, [.int 0, .ref (b + 226), .int 0, .int 0, .int 0, .int 0, .ref (b + 227), .ref (b + 228), .ref (b + 229), .ref (b + 230), .ref (b + 231), .int 0, .int 0, .int 0, .int 0, .int 0, .int 0, .long 0, .int 0, .int 0, .int 0, .ref (b + 232), .null, .int 0, .int 0, .int 0, .null, .null, .null, .int 0, .int 0, .int 0, .null, .int 0, .int 0, .int 0, .null, .int 0, .null, .int 0, .int 0, .int 0, .int 0, .int 0, .null, .null, .null, .null]))
def mo8 (b : Nat) (G : Gx) (cf : Nat → va_E) : Nat → va_E := va_up (va_up (mo7 b G cf) 233 (.inl (G.2 2, 92, .inl (fun _ => 0)))) 225 (.inr (12, [.int 0, .ref (b + 226), .int 0, .int 0, .int 0, .int 0, .ref (b + 227), .ref (b + 228), .ref (b + 229), .ref (b + 230), .ref (b + 231), .int 0, .int 0, .int 0, .int 0, .int 0, .int 0, .long 0, .int 0, .int 0, .int 0, .ref (b + 232), .ref (b + 233), .int 0, .int 0, .int 0, .null, .null, .null, .int 0, .int 0, .int 0, .null, .int 0, .int 0, .int 0, .null, .int 0, .null, .int 0, .int 0, .int 0, .int 0, .int 0, .null, .null, .null, .null]))
def mo9 (b : Nat) (G : Gx) (cf : Nat → va_E) : Nat → va_E := va_up (va_up (mo8 b G cf) 234 (.inl (G.2 4, 256, .inl (fun _ => 0)))) 225 (.inr (12, [.int 0, .ref (b + 226), .int 0, .int 0, .int 0, .int 0, .ref (b + 227), .ref (b + 228), .ref (b + 229), .ref (b + 230), .ref (b + 231), .int 0, .int 0, .int 0, .int 0, .int 0, .int 0, .long 0, .int 0, .int 0, .int 0, .ref (b + 232), .ref (b + 233), .int 0, .int 0, .int 0, .ref (b + 234), .null, .null, .int 0, .int 0, .int 0, .null, .int 0, .int 0, .int 0, .null, .int 0, .null, .int 0, .int 0, .int 0, .int 0, .int 0, .null, .null, .null, .null]))
def mo10 (b : Nat) (G : Gx) (cf : Nat → va_E) : Nat → va_E := va_up (va_up (mo9 b G cf) 235 (.inl (G.2 2, 8, .inl (fun _ => 0)))) 225 (.inr (12, [.int 0, .ref (b + 226), .int 0, .int 0, .int 0, .int 0, .ref (b + 227), .ref (b + 228), .ref (b + 229), .ref (b + 230), .ref (b + 231), .int 0, .int 0, .int 0, .int 0, .int 0, .int 0, .long 0, .int 0, .int 0, .int 0, .ref (b + 232), .ref (b + 233), .int 0, .int 0, .int 0, .ref (b + 234), .ref (b + 235), .null, .int 0, .int 0, .int 0, .null, .int 0, .int 0, .int 0, .null, .int 0, .null, .int 0, .int 0, .int 0, .int 0, .int 0, .null, .null, .null, .null]))
def mo11 (b : Nat) (G : Gx) (cf : Nat → va_E) : Nat → va_E := va_up (va_up (mo10 b G cf) 236 (.inl (G.2 2, 8, .inl (fun _ => 0)))) 225 (.inr (12, [.int 0, .ref (b + 226), .int 0, .int 0, .int 0, .int 0, .ref (b + 227), .ref (b + 228), .ref (b + 229), .ref (b + 230), .ref (b + 231), .int 0, .int 0, .int 0, .int 0, .int 0, .int 0, .long 0, .int 0, .int 0, .int 0, .ref (b + 232), .ref (b + 233), .int 0, .int 0, .int 0, .ref (b + 234), .ref (b + 235), .ref (b + 236), .int 0, .int 0, .int 0, .null, .int 0, .int 0, .int 0, .null, .int 0, .null, .int 0, .int 0, .int 0, .int 0, .int 0, .null, .null, .null, .null]))
def mo12 (b : Nat) (G : Gx) (cf : Nat → va_E) : Nat → va_E := va_up (mo11 b G cf) 225 (.inr (12, [.int 0, .ref (b + 226), .int 0, .int 0, .int 0, .int 0, .ref (b + 227), .ref (b + 228), .ref (b + 229), .ref (b + 230), .ref (b + 231), .int 0, .int 0, .int 0, .int 0, .int 0, .int 0, .long 0, .int 0, .int 0, .int 0, .ref (b + 232), .ref (b + 233), .int 0, .int 0, .int 0, .ref (b + 234), .ref (b + 235), .ref (b + 236), .int (-1), .int 0, .int 0, .null, .int 0, .int 0, .int 0, .null, .int 0, .null, .int 0, .int 0, .int 0, .int 0, .int 0, .null, .null, .null, .null]))
def mo13 (b : Nat) (G : Gx) (cf : Nat → va_E) : Nat → va_E := va_up (va_up (mo12 b G cf) 237 (.inl (G.2 1, 40, .inl (fun _ => 0)))) 225 (.inr (12, [.int 0, .ref (b + 226), .int 0, .int 0, .int 0, .int 0, .ref (b + 227), .ref (b + 228), .ref (b + 229), .ref (b + 230), .ref (b + 231), .int 0, .int 0, .int 0, .int 0, .int 0, .int 0, .long 0, .int 0, .int 0, .int 0, .ref (b + 232), .ref (b + 233), .int 0, .int 0, .int 0, .ref (b + 234), .ref (b + 235), .ref (b + 236), .int (-1), .int 0, .int 0, .ref (b + 237), .int 0, .int 0, .int 0, .null, .int 0, .null, .int 0, .int 0, .int 0, .int 0, .int 0, .null, .null, .null, .null]))
def mo14 (b : Nat) (G : Gx) (cf : Nat → va_E) : Nat → va_E := va_up (va_up (mo13 b G cf) 238 (.inl (G.2 2, 4, .inl (fun _ => 0)))) 225 (.inr (12, [.int 0, .ref (b + 226), .int 0, .int 0, .int 0, .int 0, .ref (b + 227), .ref (b + 228), .ref (b + 229), .ref (b + 230), .ref (b + 231), .int 0, .int 0, .int 0, .int 0, .int 0, .int 0, .long 0, .int 0, .int 0, .int 0, .ref (b + 232), .ref (b + 233), .int 0, .int 0, .int 0, .ref (b + 234), .ref (b + 235), .ref (b + 236), .int (-1), .int 0, .int 0, .ref (b + 237), .int 0, .int 0, .int 0, .ref (b + 238), .int 0, .null, .int 0, .int 0, .int 0, .int 0, .int 0, .null, .null, .null, .null]))
def mo15 (b : Nat) (G : Gx) (cf : Nat → va_E) : Nat → va_E := va_up (va_up (mo14 b G cf) 239 (.inl (G.2 2, 45, .inl (fun _ => 0)))) 225 (.inr (12, [.int 0, .ref (b + 226), .int 0, .int 0, .int 0, .int 0, .ref (b + 227), .ref (b + 228), .ref (b + 229), .ref (b + 230), .ref (b + 231), .int 0, .int 0, .int 0, .int 0, .int 0, .int 0, .long 0, .int 0, .int 0, .int 0, .ref (b + 232), .ref (b + 233), .int 0, .int 0, .int 0, .ref (b + 234), .ref (b + 235), .ref (b + 236), .int (-1), .int 0, .int 0, .ref (b + 237), .int 0, .int 0, .int 0, .ref (b + 238), .int 0, .ref (b + 239), .int 0, .int 0, .int 0, .int 0, .int 0, .null, .null, .null, .null]))
def mo16 (b : Nat) (G : Gx) (cf : Nat → va_E) : Nat → va_E := va_up (va_up (mo15 b G cf) 240 (.inl (G.2 4, 45, .inl (fun _ => 0)))) 225 (.inr (12, [.int 0, .ref (b + 226), .int 0, .int 0, .int 0, .int 0, .ref (b + 227), .ref (b + 228), .ref (b + 229), .ref (b + 230), .ref (b + 231), .int 0, .int 0, .int 0, .int 0, .int 0, .int 0, .long 0, .int 0, .int 0, .int 0, .ref (b + 232), .ref (b + 233), .int 0, .int 0, .int 0, .ref (b + 234), .ref (b + 235), .ref (b + 236), .int (-1), .int 0, .int 0, .ref (b + 237), .int 0, .int 0, .int 0, .ref (b + 238), .int 0, .ref (b + 239), .int 0, .int 0, .int 0, .int 0, .int 0, .ref (b + 240), .null, .null, .null]))
def mo17 (b : Nat) (G : Gx) (cf : Nat → va_E) : Nat → va_E := va_up (va_up (mo16 b G cf) 241 (.inl (G.2 2, 684, .inl (fun _ => 0)))) 225 (.inr (12, [.int 0, .ref (b + 226), .int 0, .int 0, .int 0, .int 0, .ref (b + 227), .ref (b + 228), .ref (b + 229), .ref (b + 230), .ref (b + 231), .int 0, .int 0, .int 0, .int 0, .int 0, .int 0, .long 0, .int 0, .int 0, .int 0, .ref (b + 232), .ref (b + 233), .int 0, .int 0, .int 0, .ref (b + 234), .ref (b + 235), .ref (b + 236), .int (-1), .int 0, .int 0, .ref (b + 237), .int 0, .int 0, .int 0, .ref (b + 238), .int 0, .ref (b + 239), .int 0, .int 0, .int 0, .int 0, .int 0, .ref (b + 240), .ref (b + 241), .null, .null]))
def mo18 (b : Nat) (G : Gx) (cf : Nat → va_E) : Nat → va_E := va_up (va_up (mo17 b G cf) 242 (.inl (G.2 3, 28, .inr (.inl (fun _ => 0))))) 225 (.inr (12, [.int 0, .ref (b + 226), .int 0, .int 0, .int 0, .int 0, .ref (b + 227), .ref (b + 228), .ref (b + 229), .ref (b + 230), .ref (b + 231), .int 0, .int 0, .int 0, .int 0, .int 0, .int 0, .long 0, .int 0, .int 0, .int 0, .ref (b + 232), .ref (b + 233), .int 0, .int 0, .int 0, .ref (b + 234), .ref (b + 235), .ref (b + 236), .int (-1), .int 0, .int 0, .ref (b + 237), .int 0, .int 0, .int 0, .ref (b + 238), .int 0, .ref (b + 239), .int 0, .int 0, .int 0, .int 0, .int 0, .ref (b + 240), .ref (b + 241), .ref (b + 242), .null]))
def mo19 (b : Nat) (G : Gx) (cf : Nat → va_E) : Nat → va_E := va_up (va_up (mo18 b G cf) 243 (.inl (G.2 4, 2, .inl (fun _ => 0)))) 225 (.inr (12, [.int 0, .ref (b + 226), .int 0, .int 0, .int 0, .int 0, .ref (b + 227), .ref (b + 228), .ref (b + 229), .ref (b + 230), .ref (b + 231), .int 0, .int 0, .int 0, .int 0, .int 0, .int 0, .long 0, .int 0, .int 0, .int 0, .ref (b + 232), .ref (b + 233), .int 0, .int 0, .int 0, .ref (b + 234), .ref (b + 235), .ref (b + 236), .int (-1), .int 0, .int 0, .ref (b + 237), .int 0, .int 0, .int 0, .ref (b + 238), .int 0, .ref (b + 239), .int 0, .int 0, .int 0, .int 0, .int 0, .ref (b + 240), .ref (b + 241), .ref (b + 242), .ref (b + 243)]))
def rs0 : Nat → Int64 := fun _ => 0
def rs1 : Nat → Int64 := vp_updL rs0 (Int32.toNatClampNeg 0) 1818324581
def rs2 : Nat → Int64 := vp_updL rs1 (Int32.toNatClampNeg 1) 448546567013
def rs3 : Nat → Int64 := vp_updL rs2 (Int32.toNatClampNeg 2) 123581014175598
def rs4 : Nat → Int64 := vp_updL rs3 (Int32.toNatClampNeg 3) 500135193968
def rs5 : Nat → Int64 := vp_updL rs4 (Int32.toNatClampNeg 4) 461414299507
def rs6 : Nat → Int64 := vp_updL rs5 (Int32.toNatClampNeg 5) 426836257907
def rs7 : Nat → Int64 := vp_updL rs6 (Int32.toNatClampNeg 6) 6644082
def rs8 : Nat → Int64 := vp_updL rs7 (Int32.toNatClampNeg 7) 1937006969
def rs9 : Nat → Int64 := vp_updL rs8 (Int32.toNatClampNeg 8) 30064
def rs10 : Nat → Int64 := vp_updL rs9 (Int32.toNatClampNeg 9) 1685026670
def rs11 : Nat → Int64 := vp_updL rs10 (Int32.toNatClampNeg 10) 126943688025203
def rs12 : Nat → Int64 := vp_updL rs11 (Int32.toNatClampNeg 11) 1802071652
def rs13 : Nat → Int64 := vp_updL rs12 (Int32.toNatClampNeg 12) 495874044526
def rs14 : Nat → Int64 := vp_updL rs13 (Int32.toNatClampNeg 13) 118122059361139
def rs15 : Nat → Int64 := vp_updL rs14 (Int32.toNatClampNeg 14) 1735353715
def rs16 : Nat → Int64 := vp_updL rs15 (Int32.toNatClampNeg 15) 487301149811
def rs17 : Nat → Int64 := vp_updL rs16 (Int32.toNatClampNeg 16) 469852583027
def rs18 : Nat → Int64 := vp_updL rs17 (Int32.toNatClampNeg 17) 1953063787
def rs19 : Nat → Int64 := vp_updL rs18 (Int32.toNatClampNeg 18) 28530
def rs20 : Nat → Int64 := vp_updL rs19 (Int32.toNatClampNeg 19) 6385252
def rs21 : Nat → Int64 := vp_updL rs20 (Int32.toNatClampNeg 20) 7237492
def rs22 : Nat → Int64 := vp_updL rs21 (Int32.toNatClampNeg 21) 33602640515001959
def rs23 : Nat → Int64 := vp_updL rs22 (Int32.toNatClampNeg 22) 7741247282290978407
def rs24 : Nat → Int64 := vp_updL rs23 (Int32.toNatClampNeg 23) 115923103605861
def rs25 : Nat → Int64 := vp_updL rs24 (Int32.toNatClampNeg 24) 28518
def rs26 : Nat → Int64 := vp_updL rs25 (Int32.toNatClampNeg 25) 482854658917
def rs27 : Nat → Int64 := vp_updL rs26 (Int32.toNatClampNeg 26) 461414299502
def rs28 : Nat → Int64 := vp_updL rs27 (Int32.toNatClampNeg 27) 131260264768868
def rs29 : Nat → Int64 := vp_updL rs28 (Int32.toNatClampNeg 28) 121450625394034
def moE (b : Nat) (G : Gx) (cf : Nat → va_E) : Nat → va_E := rowI G (rowI G (rowJ G (mo19 b G cf) 231 rs29) 228 69 hh0) 227 342 ss0
theorem kX12 {l : Launch} {G : Gx} {b d : Nat} {cf : Nat → va_E} (he : cf 225 = .inr (12, [.int 0, .null, .int 0, .int 0, .int 0, .int 0, .null, .null, .null, .null, .null, .int 0, .int 0, .int 0, .int 0, .int 0, .int 0, .long 0, .int 0, .int 0, .int 0, .null, .null, .int 0, .int 0, .int 0, .null, .null, .null, .int 0, .int 0, .int 0, .null, .int 0, .int 0, .int 0, .null, .int 0, .null, .int 0, .int 0, .int 0, .int 0, .int 0, .null, .null, .null, .null])) : MetP l G b yX12_init cX12_init 2 none (d + 1) 18 3491 [.ref (b + 225)] (WS G b 226 cf) (pV b (WS G b 244 (moE b G cf))) := by
  refine metP_start [some (.ref (b + 225)), none] (by decide +kernel) (Nat.le_of_ble_eq_true rfl) rfl ?_
  intro X hX ok h0 hnm
  have hz : Sz X b 0 226 := h0.sz
  refine g_wk ?_
  refine g_aload_n (pc := 0) ok dX12_init_0 rfl ?_
  refine g_oinit (pc := 1) ok om_X12_27 oi_i oi_c (show 1 ≤ d + 1 by omega) (Nat.le_trans (Nat.le_of_ble_eq_true rfl : _ ≤ 60) (show 60 ≤ 60 * (d + 1) by omega)) dX12_init_1 ?_
  refine g_aload_n (pc := 4) ok dX12_init_4 rfl ?_
  refine g_sipush (pc := 5) ok 940 dX12_init_5 (by decide +kernel) ?_
  refine g_newaB' (pc := 8) (N := 940) ok (hz.up 0) (by decide) (by decide +kernel) (Nat.le_of_ble_eq_true rfl) (Nat.le_of_ble_eq_true rfl) (Nat.le_of_ble_eq_true rfl) dX12_init_8 ?_
  refine g_putF (pc := 10) ok hnm (a := 225) (k := 1) cls12 (show 225 < 227 by omega) (va_upN (show 225 ≠ 226 by omega) he) (Nat.le_of_ble_eq_true rfl) cfl_X12_14 rfl rfl rfl rfl (Nat.le_of_ble_eq_true rfl) dX12_init_10 ?_
  refine g_to (show _ = mo1 b G cf from rfl) ?_
  have he1 : mo1 b G cf 225 = .inr (12, [.int 0, .ref (b + 226), .int 0, .int 0, .int 0, .int 0, .null, .null, .null, .null, .null, .int 0, .int 0, .int 0, .int 0, .int 0, .int 0, .long 0, .int 0, .int 0, .int 0, .null, .null, .int 0, .int 0, .int 0, .null, .null, .null, .int 0, .int 0, .int 0, .null, .int 0, .int 0, .int 0, .null, .int 0, .null, .int 0, .int 0, .int 0, .int 0, .int 0, .null, .null, .null, .null]) := va_upS
  refine g_aload_n (pc := 13) ok dX12_init_13 rfl ?_
  refine g_sipush (pc := 14) ok 342 dX12_init_14 (by decide +kernel) ?_
  refine g_newaI' (pc := 17) (N := 342) ok (hz.up 1) (by decide) (by decide +kernel) (Nat.le_of_ble_eq_true rfl) (Nat.le_of_ble_eq_true rfl) (Nat.le_of_ble_eq_true rfl) dX12_init_17 ?_
  refine g_putF (pc := 19) ok hnm (a := 225) (k := 6) cls12 (show 225 < 228 by omega) (va_upN (show 225 ≠ 227 by omega) he1) (Nat.le_of_ble_eq_true rfl) cfl_X12_33 rfl rfl rfl rfl (Nat.le_of_ble_eq_true rfl) dX12_init_19 ?_
  refine g_to (show _ = mo2 b G cf from rfl) ?_
  have he2 : mo2 b G cf 225 = .inr (12, [.int 0, .ref (b + 226), .int 0, .int 0, .int 0, .int 0, .ref (b + 227), .null, .null, .null, .null, .int 0, .int 0, .int 0, .int 0, .int 0, .int 0, .long 0, .int 0, .int 0, .int 0, .null, .null, .int 0, .int 0, .int 0, .null, .null, .null, .int 0, .int 0, .int 0, .null, .int 0, .int 0, .int 0, .null, .int 0, .null, .int 0, .int 0, .int 0, .int 0, .int 0, .null, .null, .null, .null]) := va_upS
  refine g_aload_n (pc := 22) ok dX12_init_22 rfl ?_
  refine g_bipush (pc := 23) ok 69 dX12_init_23 (by decide +kernel) ?_
  refine g_newaI' (pc := 25) (N := 69) ok (hz.up 2) (by decide) (by decide +kernel) (Nat.le_of_ble_eq_true rfl) (Nat.le_of_ble_eq_true rfl) (Nat.le_of_ble_eq_true rfl) dX12_init_25 ?_
  refine g_putF (pc := 27) ok hnm (a := 225) (k := 7) cls12 (show 225 < 229 by omega) (va_upN (show 225 ≠ 228 by omega) he2) (Nat.le_of_ble_eq_true rfl) cfl_X12_37 rfl rfl rfl rfl (Nat.le_of_ble_eq_true rfl) dX12_init_27 ?_
  refine g_to (show _ = mo3 b G cf from rfl) ?_
  have he3 : mo3 b G cf 225 = .inr (12, [.int 0, .ref (b + 226), .int 0, .int 0, .int 0, .int 0, .ref (b + 227), .ref (b + 228), .null, .null, .null, .int 0, .int 0, .int 0, .int 0, .int 0, .int 0, .long 0, .int 0, .int 0, .int 0, .null, .null, .int 0, .int 0, .int 0, .null, .null, .null, .int 0, .int 0, .int 0, .null, .int 0, .int 0, .int 0, .null, .int 0, .null, .int 0, .int 0, .int 0, .int 0, .int 0, .null, .null, .null, .null]) := va_upS
  refine g_aload_n (pc := 30) ok dX12_init_30 rfl ?_
  refine g_sipush (pc := 31) ok 135 dX12_init_31 (by decide +kernel) ?_
  refine g_newaI' (pc := 34) (N := 135) ok (hz.up 3) (by decide) (by decide +kernel) (Nat.le_of_ble_eq_true rfl) (Nat.le_of_ble_eq_true rfl) (Nat.le_of_ble_eq_true rfl) dX12_init_34 ?_
  refine g_putF (pc := 36) ok hnm (a := 225) (k := 8) cls12 (show 225 < 230 by omega) (va_upN (show 225 ≠ 229 by omega) he3) (Nat.le_of_ble_eq_true rfl) cfl_X12_40 rfl rfl rfl rfl (Nat.le_of_ble_eq_true rfl) dX12_init_36 ?_
  refine g_to (show _ = mo4 b G cf from rfl) ?_
  have he4 : mo4 b G cf 225 = .inr (12, [.int 0, .ref (b + 226), .int 0, .int 0, .int 0, .int 0, .ref (b + 227), .ref (b + 228), .ref (b + 229), .null, .null, .int 0, .int 0, .int 0, .int 0, .int 0, .int 0, .long 0, .int 0, .int 0, .int 0, .null, .null, .int 0, .int 0, .int 0, .null, .null, .null, .int 0, .int 0, .int 0, .null, .int 0, .int 0, .int 0, .null, .int 0, .null, .int 0, .int 0, .int 0, .int 0, .int 0, .null, .null, .null, .null]) := va_upS
  refine g_aload_n (pc := 39) ok dX12_init_39 rfl ?_
  refine g_bipush (pc := 40) ok 28 dX12_init_40 (by decide +kernel) ?_
  refine g_newaJ (pc := 42) (N := 28) ok ac_J (hz.up 4) (by decide) (by decide +kernel) (Nat.le_of_ble_eq_true rfl) (Nat.le_of_ble_eq_true rfl) (Nat.le_of_ble_eq_true rfl) dX12_init_42 ?_
  refine g_putF (pc := 44) ok hnm (a := 225) (k := 9) cls12 (show 225 < 231 by omega) (va_upN (show 225 ≠ 230 by omega) he4) (Nat.le_of_ble_eq_true rfl) cfl_X12_43 rfl rfl rfl rfl (Nat.le_of_ble_eq_true rfl) dX12_init_44 ?_
  refine g_to (show _ = mo5 b G cf from rfl) ?_
  have he5 : mo5 b G cf 225 = .inr (12, [.int 0, .ref (b + 226), .int 0, .int 0, .int 0, .int 0, .ref (b + 227), .ref (b + 228), .ref (b + 229), .ref (b + 230), .null, .int 0, .int 0, .int 0, .int 0, .int 0, .int 0, .long 0, .int 0, .int 0, .int 0, .null, .null, .int 0, .int 0, .int 0, .null, .null, .null, .int 0, .int 0, .int 0, .null, .int 0, .int 0, .int 0, .null, .int 0, .null, .int 0, .int 0, .int 0, .int 0, .int 0, .null, .null, .null, .null]) := va_upS
  refine g_aload_n (pc := 47) ok dX12_init_47 rfl ?_
  refine g_bipush (pc := 48) ok 29 dX12_init_48 (by decide +kernel) ?_
  refine g_newaJ (pc := 50) (N := 29) ok ac_J (hz.up 5) (by decide) (by decide +kernel) (Nat.le_of_ble_eq_true rfl) (Nat.le_of_ble_eq_true rfl) (Nat.le_of_ble_eq_true rfl) dX12_init_50 ?_
  refine g_putF (pc := 52) ok hnm (a := 225) (k := 10) cls12 (show 225 < 232 by omega) (va_upN (show 225 ≠ 231 by omega) he5) (Nat.le_of_ble_eq_true rfl) cfl_X12_47 rfl rfl rfl rfl (Nat.le_of_ble_eq_true rfl) dX12_init_52 ?_
  refine g_to (show _ = mo6 b G cf from rfl) ?_
  have he6 : mo6 b G cf 225 = .inr (12, [.int 0, .ref (b + 226), .int 0, .int 0, .int 0, .int 0, .ref (b + 227), .ref (b + 228), .ref (b + 229), .ref (b + 230), .ref (b + 231), .int 0, .int 0, .int 0, .int 0, .int 0, .int 0, .long 0, .int 0, .int 0, .int 0, .null, .null, .int 0, .int 0, .int 0, .null, .null, .null, .int 0, .int 0, .int 0, .null, .int 0, .int 0, .int 0, .null, .int 0, .null, .int 0, .int 0, .int 0, .int 0, .int 0, .null, .null, .null, .null]) := va_upS
  refine g_aload_n (pc := 55) ok dX12_init_55 rfl ?_
  refine g_sipush (pc := 56) ok 736 dX12_init_56 (by decide +kernel) ?_
  refine g_newaI' (pc := 59) (N := 736) ok (hz.up 6) (by decide) (by decide +kernel) (Nat.le_of_ble_eq_true rfl) (Nat.le_of_ble_eq_true rfl) (Nat.le_of_ble_eq_true rfl) dX12_init_59 ?_
  refine g_putF (pc := 61) ok hnm (a := 225) (k := 21) cls12 (show 225 < 233 by omega) (va_upN (show 225 ≠ 232 by omega) he6) (Nat.le_of_ble_eq_true rfl) cfl_X12_50 rfl rfl rfl rfl (Nat.le_of_ble_eq_true rfl) dX12_init_61 ?_
  refine g_to (show _ = mo7 b G cf from rfl) ?_
  have he7 : mo7 b G cf 225 = .inr (12, [.int 0, .ref (b + 226), .int 0, .int 0, .int 0, .int 0, .ref (b + 227), .ref (b + 228), .ref (b + 229), .ref (b + 230), .ref (b + 231), .int 0, .int 0, .int 0, .int 0, .int 0, .int 0, .long 0, .int 0, .int 0, .int 0, .ref (b + 232), .null, .int 0, .int 0, .int 0, .null, .null, .null, .int 0, .int 0, .int 0, .null, .int 0, .int 0, .int 0, .null, .int 0, .null, .int 0, .int 0, .int 0, .int 0, .int 0, .null, .null, .null, .null]) := va_upS
  refine g_aload_n (pc := 64) ok dX12_init_64 rfl ?_
  refine g_bipush (pc := 65) ok 92 dX12_init_65 (by decide +kernel) ?_
  refine g_newaI' (pc := 67) (N := 92) ok (hz.up 7) (by decide) (by decide +kernel) (Nat.le_of_ble_eq_true rfl) (Nat.le_of_ble_eq_true rfl) (Nat.le_of_ble_eq_true rfl) dX12_init_67 ?_
  refine g_putF (pc := 69) ok hnm (a := 225) (k := 22) cls12 (show 225 < 234 by omega) (va_upN (show 225 ≠ 233 by omega) he7) (Nat.le_of_ble_eq_true rfl) cfl_X12_53 rfl rfl rfl rfl (Nat.le_of_ble_eq_true rfl) dX12_init_69 ?_
  refine g_to (show _ = mo8 b G cf from rfl) ?_
  have he8 : mo8 b G cf 225 = .inr (12, [.int 0, .ref (b + 226), .int 0, .int 0, .int 0, .int 0, .ref (b + 227), .ref (b + 228), .ref (b + 229), .ref (b + 230), .ref (b + 231), .int 0, .int 0, .int 0, .int 0, .int 0, .int 0, .long 0, .int 0, .int 0, .int 0, .ref (b + 232), .ref (b + 233), .int 0, .int 0, .int 0, .null, .null, .null, .int 0, .int 0, .int 0, .null, .int 0, .int 0, .int 0, .null, .int 0, .null, .int 0, .int 0, .int 0, .int 0, .int 0, .null, .null, .null, .null]) := va_upS
  refine g_aload_n (pc := 72) ok dX12_init_72 rfl ?_
  refine g_sipush (pc := 73) ok 256 dX12_init_73 (by decide +kernel) ?_
  refine g_newaZ' (pc := 76) (N := 256) ok (hz.up 8) (by decide) (by decide +kernel) (Nat.le_of_ble_eq_true rfl) (Nat.le_of_ble_eq_true rfl) (Nat.le_of_ble_eq_true rfl) dX12_init_76 ?_
  refine g_putF (pc := 78) ok hnm (a := 225) (k := 26) cls12 (show 225 < 235 by omega) (va_upN (show 225 ≠ 234 by omega) he8) (Nat.le_of_ble_eq_true rfl) cfl_X12_56 rfl rfl rfl rfl (Nat.le_of_ble_eq_true rfl) dX12_init_78 ?_
  refine g_to (show _ = mo9 b G cf from rfl) ?_
  have he9 : mo9 b G cf 225 = .inr (12, [.int 0, .ref (b + 226), .int 0, .int 0, .int 0, .int 0, .ref (b + 227), .ref (b + 228), .ref (b + 229), .ref (b + 230), .ref (b + 231), .int 0, .int 0, .int 0, .int 0, .int 0, .int 0, .long 0, .int 0, .int 0, .int 0, .ref (b + 232), .ref (b + 233), .int 0, .int 0, .int 0, .ref (b + 234), .null, .null, .int 0, .int 0, .int 0, .null, .int 0, .int 0, .int 0, .null, .int 0, .null, .int 0, .int 0, .int 0, .int 0, .int 0, .null, .null, .null, .null]) := va_upS
  refine g_aload_n (pc := 81) ok dX12_init_81 rfl ?_
  refine g_bipush (pc := 82) ok 8 dX12_init_82 (by decide +kernel) ?_
  refine g_newaI' (pc := 84) (N := 8) ok (hz.up 9) (by decide) (by decide +kernel) (Nat.le_of_ble_eq_true rfl) (Nat.le_of_ble_eq_true rfl) (Nat.le_of_ble_eq_true rfl) dX12_init_84 ?_
  refine g_putF (pc := 86) ok hnm (a := 225) (k := 27) cls12 (show 225 < 236 by omega) (va_upN (show 225 ≠ 235 by omega) he9) (Nat.le_of_ble_eq_true rfl) cfl_X12_60 rfl rfl rfl rfl (Nat.le_of_ble_eq_true rfl) dX12_init_86 ?_
  refine g_to (show _ = mo10 b G cf from rfl) ?_
  have he10 : mo10 b G cf 225 = .inr (12, [.int 0, .ref (b + 226), .int 0, .int 0, .int 0, .int 0, .ref (b + 227), .ref (b + 228), .ref (b + 229), .ref (b + 230), .ref (b + 231), .int 0, .int 0, .int 0, .int 0, .int 0, .int 0, .long 0, .int 0, .int 0, .int 0, .ref (b + 232), .ref (b + 233), .int 0, .int 0, .int 0, .ref (b + 234), .ref (b + 235), .null, .int 0, .int 0, .int 0, .null, .int 0, .int 0, .int 0, .null, .int 0, .null, .int 0, .int 0, .int 0, .int 0, .int 0, .null, .null, .null, .null]) := va_upS
  refine g_aload_n (pc := 89) ok dX12_init_89 rfl ?_
  refine g_bipush (pc := 90) ok 8 dX12_init_90 (by decide +kernel) ?_
  refine g_newaI' (pc := 92) (N := 8) ok (hz.up 10) (by decide) (by decide +kernel) (Nat.le_of_ble_eq_true rfl) (Nat.le_of_ble_eq_true rfl) (Nat.le_of_ble_eq_true rfl) dX12_init_92 ?_
  refine g_putF (pc := 94) ok hnm (a := 225) (k := 28) cls12 (show 225 < 237 by omega) (va_upN (show 225 ≠ 236 by omega) he10) (Nat.le_of_ble_eq_true rfl) cfl_X12_63 rfl rfl rfl rfl (Nat.le_of_ble_eq_true rfl) dX12_init_94 ?_
  refine g_to (show _ = mo11 b G cf from rfl) ?_
  have he11 : mo11 b G cf 225 = .inr (12, [.int 0, .ref (b + 226), .int 0, .int 0, .int 0, .int 0, .ref (b + 227), .ref (b + 228), .ref (b + 229), .ref (b + 230), .ref (b + 231), .int 0, .int 0, .int 0, .int 0, .int 0, .int 0, .long 0, .int 0, .int 0, .int 0, .ref (b + 232), .ref (b + 233), .int 0, .int 0, .int 0, .ref (b + 234), .ref (b + 235), .ref (b + 236), .int 0, .int 0, .int 0, .null, .int 0, .int 0, .int 0, .null, .int 0, .null, .int 0, .int 0, .int 0, .int 0, .int 0, .null, .null, .null, .null]) := va_upS
  refine g_aload_n (pc := 97) ok dX12_init_97 rfl ?_
  refine g_iconst (pc := 98) ok (-1) dX12_init_98 (by decide +kernel) ?_
  refine g_put (pc := 99) ok (a := 225) (k := 29) cls12 (show 225 < 237 by omega) he11 (Nat.le_of_ble_eq_true rfl) cfl_X12_66 rfl rfl rfl (Nat.le_of_ble_eq_true rfl) dX12_init_99 ?_
  refine g_to (show _ = mo12 b G cf from rfl) ?_
  have he12 : mo12 b G cf 225 = .inr (12, [.int 0, .ref (b + 226), .int 0, .int 0, .int 0, .int 0, .ref (b + 227), .ref (b + 228), .ref (b + 229), .ref (b + 230), .ref (b + 231), .int 0, .int 0, .int 0, .int 0, .int 0, .int 0, .long 0, .int 0, .int 0, .int 0, .ref (b + 232), .ref (b + 233), .int 0, .int 0, .int 0, .ref (b + 234), .ref (b + 235), .ref (b + 236), .int (-1), .int 0, .int 0, .null, .int 0, .int 0, .int 0, .null, .int 0, .null, .int 0, .int 0, .int 0, .int 0, .int 0, .null, .null, .null, .null]) := va_upS
  refine g_aload_n (pc := 102) ok dX12_init_102 rfl ?_
  refine g_bipush (pc := 103) ok 40 dX12_init_103 (by decide +kernel) ?_
  refine g_newaB' (pc := 105) (N := 40) ok (hz.up 11) (by decide) (by decide +kernel) (Nat.le_of_ble_eq_true rfl) (Nat.le_of_ble_eq_true rfl) (Nat.le_of_ble_eq_true rfl) dX12_init_105 ?_
  refine g_putF (pc := 107) ok hnm (a := 225) (k := 32) cls12 (show 225 < 238 by omega) (va_upN (show 225 ≠ 237 by omega) he12) (Nat.le_of_ble_eq_true rfl) cfl_X12_69 rfl rfl rfl rfl (Nat.le_of_ble_eq_true rfl) dX12_init_107 ?_
  refine g_to (show _ = mo13 b G cf from rfl) ?_
  have he13 : mo13 b G cf 225 = .inr (12, [.int 0, .ref (b + 226), .int 0, .int 0, .int 0, .int 0, .ref (b + 227), .ref (b + 228), .ref (b + 229), .ref (b + 230), .ref (b + 231), .int 0, .int 0, .int 0, .int 0, .int 0, .int 0, .long 0, .int 0, .int 0, .int 0, .ref (b + 232), .ref (b + 233), .int 0, .int 0, .int 0, .ref (b + 234), .ref (b + 235), .ref (b + 236), .int (-1), .int 0, .int 0, .ref (b + 237), .int 0, .int 0, .int 0, .null, .int 0, .null, .int 0, .int 0, .int 0, .int 0, .int 0, .null, .null, .null, .null]) := va_upS
  refine g_aload_n (pc := 110) ok dX12_init_110 rfl ?_
  refine g_iconst (pc := 111) ok 4 dX12_init_111 (by decide +kernel) ?_
  refine g_newaI' (pc := 112) (N := 4) ok (hz.up 12) (by decide) (by decide +kernel) (Nat.le_of_ble_eq_true rfl) (Nat.le_of_ble_eq_true rfl) (Nat.le_of_ble_eq_true rfl) dX12_init_112 ?_
  refine g_putF (pc := 114) ok hnm (a := 225) (k := 36) cls12 (show 225 < 239 by omega) (va_upN (show 225 ≠ 238 by omega) he13) (Nat.le_of_ble_eq_true rfl) cfl_X12_72 rfl rfl rfl rfl (Nat.le_of_ble_eq_true rfl) dX12_init_114 ?_
  refine g_to (show _ = mo14 b G cf from rfl) ?_
  have he14 : mo14 b G cf 225 = .inr (12, [.int 0, .ref (b + 226), .int 0, .int 0, .int 0, .int 0, .ref (b + 227), .ref (b + 228), .ref (b + 229), .ref (b + 230), .ref (b + 231), .int 0, .int 0, .int 0, .int 0, .int 0, .int 0, .long 0, .int 0, .int 0, .int 0, .ref (b + 232), .ref (b + 233), .int 0, .int 0, .int 0, .ref (b + 234), .ref (b + 235), .ref (b + 236), .int (-1), .int 0, .int 0, .ref (b + 237), .int 0, .int 0, .int 0, .ref (b + 238), .int 0, .null, .int 0, .int 0, .int 0, .int 0, .int 0, .null, .null, .null, .null]) := va_upS
  refine g_aload_n (pc := 117) ok dX12_init_117 rfl ?_
  refine g_bipush (pc := 118) ok 45 dX12_init_118 (by decide +kernel) ?_
  refine g_newaI' (pc := 120) (N := 45) ok (hz.up 13) (by decide) (by decide +kernel) (Nat.le_of_ble_eq_true rfl) (Nat.le_of_ble_eq_true rfl) (Nat.le_of_ble_eq_true rfl) dX12_init_120 ?_
  refine g_putF (pc := 122) ok hnm (a := 225) (k := 38) cls12 (show 225 < 240 by omega) (va_upN (show 225 ≠ 239 by omega) he14) (Nat.le_of_ble_eq_true rfl) cfl_X12_75 rfl rfl rfl rfl (Nat.le_of_ble_eq_true rfl) dX12_init_122 ?_
  refine g_to (show _ = mo15 b G cf from rfl) ?_
  have he15 : mo15 b G cf 225 = .inr (12, [.int 0, .ref (b + 226), .int 0, .int 0, .int 0, .int 0, .ref (b + 227), .ref (b + 228), .ref (b + 229), .ref (b + 230), .ref (b + 231), .int 0, .int 0, .int 0, .int 0, .int 0, .int 0, .long 0, .int 0, .int 0, .int 0, .ref (b + 232), .ref (b + 233), .int 0, .int 0, .int 0, .ref (b + 234), .ref (b + 235), .ref (b + 236), .int (-1), .int 0, .int 0, .ref (b + 237), .int 0, .int 0, .int 0, .ref (b + 238), .int 0, .ref (b + 239), .int 0, .int 0, .int 0, .int 0, .int 0, .null, .null, .null, .null]) := va_upS
  refine g_aload_n (pc := 125) ok dX12_init_125 rfl ?_
  refine g_bipush (pc := 126) ok 45 dX12_init_126 (by decide +kernel) ?_
  refine g_newaZ' (pc := 128) (N := 45) ok (hz.up 14) (by decide) (by decide +kernel) (Nat.le_of_ble_eq_true rfl) (Nat.le_of_ble_eq_true rfl) (Nat.le_of_ble_eq_true rfl) dX12_init_128 ?_
  refine g_putF (pc := 130) ok hnm (a := 225) (k := 44) cls12 (show 225 < 241 by omega) (va_upN (show 225 ≠ 240 by omega) he15) (Nat.le_of_ble_eq_true rfl) cfl_X12_78 rfl rfl rfl rfl (Nat.le_of_ble_eq_true rfl) dX12_init_130 ?_
  refine g_to (show _ = mo16 b G cf from rfl) ?_
  have he16 : mo16 b G cf 225 = .inr (12, [.int 0, .ref (b + 226), .int 0, .int 0, .int 0, .int 0, .ref (b + 227), .ref (b + 228), .ref (b + 229), .ref (b + 230), .ref (b + 231), .int 0, .int 0, .int 0, .int 0, .int 0, .int 0, .long 0, .int 0, .int 0, .int 0, .ref (b + 232), .ref (b + 233), .int 0, .int 0, .int 0, .ref (b + 234), .ref (b + 235), .ref (b + 236), .int (-1), .int 0, .int 0, .ref (b + 237), .int 0, .int 0, .int 0, .ref (b + 238), .int 0, .ref (b + 239), .int 0, .int 0, .int 0, .int 0, .int 0, .ref (b + 240), .null, .null, .null]) := va_upS
  refine g_aload_n (pc := 133) ok dX12_init_133 rfl ?_
  refine g_sipush (pc := 134) ok 684 dX12_init_134 (by decide +kernel) ?_
  refine g_newaI' (pc := 137) (N := 684) ok (hz.up 15) (by decide) (by decide +kernel) (Nat.le_of_ble_eq_true rfl) (Nat.le_of_ble_eq_true rfl) (Nat.le_of_ble_eq_true rfl) dX12_init_137 ?_
  refine g_putF (pc := 139) ok hnm (a := 225) (k := 45) cls12 (show 225 < 242 by omega) (va_upN (show 225 ≠ 241 by omega) he16) (Nat.le_of_ble_eq_true rfl) cfl_X12_81 rfl rfl rfl rfl (Nat.le_of_ble_eq_true rfl) dX12_init_139 ?_
  refine g_to (show _ = mo17 b G cf from rfl) ?_
  have he17 : mo17 b G cf 225 = .inr (12, [.int 0, .ref (b + 226), .int 0, .int 0, .int 0, .int 0, .ref (b + 227), .ref (b + 228), .ref (b + 229), .ref (b + 230), .ref (b + 231), .int 0, .int 0, .int 0, .int 0, .int 0, .int 0, .long 0, .int 0, .int 0, .int 0, .ref (b + 232), .ref (b + 233), .int 0, .int 0, .int 0, .ref (b + 234), .ref (b + 235), .ref (b + 236), .int (-1), .int 0, .int 0, .ref (b + 237), .int 0, .int 0, .int 0, .ref (b + 238), .int 0, .ref (b + 239), .int 0, .int 0, .int 0, .int 0, .int 0, .ref (b + 240), .ref (b + 241), .null, .null]) := va_upS
  refine g_aload_n (pc := 142) ok dX12_init_142 rfl ?_
  refine g_bipush (pc := 143) ok 28 dX12_init_143 (by decide +kernel) ?_
  refine g_newaJ (pc := 145) (N := 28) ok ac_J (hz.up 16) (by decide) (by decide +kernel) (Nat.le_of_ble_eq_true rfl) (Nat.le_of_ble_eq_true rfl) (Nat.le_of_ble_eq_true rfl) dX12_init_145 ?_
  refine g_putF (pc := 147) ok hnm (a := 225) (k := 46) cls12 (show 225 < 243 by omega) (va_upN (show 225 ≠ 242 by omega) he17) (Nat.le_of_ble_eq_true rfl) cfl_X12_84 rfl rfl rfl rfl (Nat.le_of_ble_eq_true rfl) dX12_init_147 ?_
  refine g_to (show _ = mo18 b G cf from rfl) ?_
  have he18 : mo18 b G cf 225 = .inr (12, [.int 0, .ref (b + 226), .int 0, .int 0, .int 0, .int 0, .ref (b + 227), .ref (b + 228), .ref (b + 229), .ref (b + 230), .ref (b + 231), .int 0, .int 0, .int 0, .int 0, .int 0, .int 0, .long 0, .int 0, .int 0, .int 0, .ref (b + 232), .ref (b + 233), .int 0, .int 0, .int 0, .ref (b + 234), .ref (b + 235), .ref (b + 236), .int (-1), .int 0, .int 0, .ref (b + 237), .int 0, .int 0, .int 0, .ref (b + 238), .int 0, .ref (b + 239), .int 0, .int 0, .int 0, .int 0, .int 0, .ref (b + 240), .ref (b + 241), .ref (b + 242), .null]) := va_upS
  refine g_aload_n (pc := 150) ok dX12_init_150 rfl ?_
  refine g_iconst (pc := 151) ok 2 dX12_init_151 (by decide +kernel) ?_
  refine g_newaZ' (pc := 152) (N := 2) ok (hz.up 17) (by decide) (by decide +kernel) (Nat.le_of_ble_eq_true rfl) (Nat.le_of_ble_eq_true rfl) (Nat.le_of_ble_eq_true rfl) dX12_init_152 ?_
  refine g_putF (pc := 154) ok hnm (a := 225) (k := 47) cls12 (show 225 < 244 by omega) (va_upN (show 225 ≠ 243 by omega) he18) (Nat.le_of_ble_eq_true rfl) cfl_X12_87 rfl rfl rfl rfl (Nat.le_of_ble_eq_true rfl) dX12_init_154 ?_
  refine g_to (show _ = mo19 b G cf from rfl) ?_
  have he19 : mo19 b G cf 225 = .inr (12, [.int 0, .ref (b + 226), .int 0, .int 0, .int 0, .int 0, .ref (b + 227), .ref (b + 228), .ref (b + 229), .ref (b + 230), .ref (b + 231), .int 0, .int 0, .int 0, .int 0, .int 0, .int 0, .long 0, .int 0, .int 0, .int 0, .ref (b + 232), .ref (b + 233), .int 0, .int 0, .int 0, .ref (b + 234), .ref (b + 235), .ref (b + 236), .int (-1), .int 0, .int 0, .ref (b + 237), .int 0, .int 0, .int 0, .ref (b + 238), .int 0, .ref (b + 239), .int 0, .int 0, .int 0, .int 0, .int 0, .ref (b + 240), .ref (b + 241), .ref (b + 242), .ref (b + 243)]) := va_upS
  have hr0 : mo19 b G cf 231 = .inl (G.2 3, 29, .inr (.inl rs0)) := rfl
  have er0 : mo19 b G cf = rowJ G (mo19 b G cf) 231 rs0 := by
    unfold rowJ
    rw [← hr0]
    exact (up_eta _ 231).symm
  refine g_to er0 ?_
  refine g_aload_n (pc := 157) ok dX12_init_157 rfl ?_
  refine g_get (pc := 158) (a := 225) (k := 10) ok cls12 (show 225 < 244 by omega) (va_upN (show 225 ≠ 231 by omega) he19) (Nat.le_of_ble_eq_true rfl) cfl_X12_47 rfl dX12_init_158 ?_
  refine g_iconst (pc := 161) ok 0 dX12_init_161 (by decide +kernel) ?_
  refine g_ldc2 (pc := 162) ok 1818324581 dX12_init_162 kc_X12_90 ?_
  refine g_last (pc := 165) (a := 231) ok (show 231 < 244 by omega) va_upS (by unfold vp_in; decide) dX12_init_165 ?_
  refine g_to (show _ = rowJ G (mo19 b G cf) 231 rs1 from rowJ_up) ?_
  refine g_aload_n (pc := 166) ok dX12_init_166 rfl ?_
  refine g_get (pc := 167) (a := 225) (k := 10) ok cls12 (show 225 < 244 by omega) (va_upN (show 225 ≠ 231 by omega) he19) (Nat.le_of_ble_eq_true rfl) cfl_X12_47 rfl dX12_init_167 ?_
  refine g_iconst (pc := 170) ok 1 dX12_init_170 (by decide +kernel) ?_
  refine g_ldc2 (pc := 171) ok 448546567013 dX12_init_171 kc_X12_92 ?_
  refine g_last (pc := 174) (a := 231) ok (show 231 < 244 by omega) va_upS (by unfold vp_in; decide) dX12_init_174 ?_
  refine g_to (show _ = rowJ G (mo19 b G cf) 231 rs2 from rowJ_up) ?_
  refine g_aload_n (pc := 175) ok dX12_init_175 rfl ?_
  refine g_get (pc := 176) (a := 225) (k := 10) ok cls12 (show 225 < 244 by omega) (va_upN (show 225 ≠ 231 by omega) he19) (Nat.le_of_ble_eq_true rfl) cfl_X12_47 rfl dX12_init_176 ?_
  refine g_iconst (pc := 179) ok 2 dX12_init_179 (by decide +kernel) ?_
  refine g_ldc2 (pc := 180) ok 123581014175598 dX12_init_180 kc_X12_94 ?_
  refine g_last (pc := 183) (a := 231) ok (show 231 < 244 by omega) va_upS (by unfold vp_in; decide) dX12_init_183 ?_
  refine g_to (show _ = rowJ G (mo19 b G cf) 231 rs3 from rowJ_up) ?_
  refine g_aload_n (pc := 184) ok dX12_init_184 rfl ?_
  refine g_get (pc := 185) (a := 225) (k := 10) ok cls12 (show 225 < 244 by omega) (va_upN (show 225 ≠ 231 by omega) he19) (Nat.le_of_ble_eq_true rfl) cfl_X12_47 rfl dX12_init_185 ?_
  refine g_iconst (pc := 188) ok 3 dX12_init_188 (by decide +kernel) ?_
  refine g_ldc2 (pc := 189) ok 500135193968 dX12_init_189 kc_X12_96 ?_
  refine g_last (pc := 192) (a := 231) ok (show 231 < 244 by omega) va_upS (by unfold vp_in; decide) dX12_init_192 ?_
  refine g_to (show _ = rowJ G (mo19 b G cf) 231 rs4 from rowJ_up) ?_
  refine g_aload_n (pc := 193) ok dX12_init_193 rfl ?_
  refine g_get (pc := 194) (a := 225) (k := 10) ok cls12 (show 225 < 244 by omega) (va_upN (show 225 ≠ 231 by omega) he19) (Nat.le_of_ble_eq_true rfl) cfl_X12_47 rfl dX12_init_194 ?_
  refine g_iconst (pc := 197) ok 4 dX12_init_197 (by decide +kernel) ?_
  refine g_ldc2 (pc := 198) ok 461414299507 dX12_init_198 kc_X12_98 ?_
  refine g_last (pc := 201) (a := 231) ok (show 231 < 244 by omega) va_upS (by unfold vp_in; decide) dX12_init_201 ?_
  refine g_to (show _ = rowJ G (mo19 b G cf) 231 rs5 from rowJ_up) ?_
  refine g_aload_n (pc := 202) ok dX12_init_202 rfl ?_
  refine g_get (pc := 203) (a := 225) (k := 10) ok cls12 (show 225 < 244 by omega) (va_upN (show 225 ≠ 231 by omega) he19) (Nat.le_of_ble_eq_true rfl) cfl_X12_47 rfl dX12_init_203 ?_
  refine g_iconst (pc := 206) ok 5 dX12_init_206 (by decide +kernel) ?_
  refine g_ldc2 (pc := 207) ok 426836257907 dX12_init_207 kc_X12_100 ?_
  refine g_last (pc := 210) (a := 231) ok (show 231 < 244 by omega) va_upS (by unfold vp_in; decide) dX12_init_210 ?_
  refine g_to (show _ = rowJ G (mo19 b G cf) 231 rs6 from rowJ_up) ?_
  refine g_aload_n (pc := 211) ok dX12_init_211 rfl ?_
  refine g_get (pc := 212) (a := 225) (k := 10) ok cls12 (show 225 < 244 by omega) (va_upN (show 225 ≠ 231 by omega) he19) (Nat.le_of_ble_eq_true rfl) cfl_X12_47 rfl dX12_init_212 ?_
  refine g_bipush (pc := 215) ok 6 dX12_init_215 (by decide +kernel) ?_
  refine g_ldc2 (pc := 217) ok 6644082 dX12_init_217 kc_X12_102 ?_
  refine g_last (pc := 220) (a := 231) ok (show 231 < 244 by omega) va_upS (by unfold vp_in; decide) dX12_init_220 ?_
  refine g_to (show _ = rowJ G (mo19 b G cf) 231 rs7 from rowJ_up) ?_
  refine g_aload_n (pc := 221) ok dX12_init_221 rfl ?_
  refine g_get (pc := 222) (a := 225) (k := 10) ok cls12 (show 225 < 244 by omega) (va_upN (show 225 ≠ 231 by omega) he19) (Nat.le_of_ble_eq_true rfl) cfl_X12_47 rfl dX12_init_222 ?_
  refine g_bipush (pc := 225) ok 7 dX12_init_225 (by decide +kernel) ?_
  refine g_ldc2 (pc := 227) ok 1937006969 dX12_init_227 kc_X12_104 ?_
  refine g_last (pc := 230) (a := 231) ok (show 231 < 244 by omega) va_upS (by unfold vp_in; decide) dX12_init_230 ?_
  refine g_to (show _ = rowJ G (mo19 b G cf) 231 rs8 from rowJ_up) ?_
  refine g_aload_n (pc := 231) ok dX12_init_231 rfl ?_
  refine g_get (pc := 232) (a := 225) (k := 10) ok cls12 (show 225 < 244 by omega) (va_upN (show 225 ≠ 231 by omega) he19) (Nat.le_of_ble_eq_true rfl) cfl_X12_47 rfl dX12_init_232 ?_
  refine g_bipush (pc := 235) ok 8 dX12_init_235 (by decide +kernel) ?_
  refine g_ldc2 (pc := 237) ok 30064 dX12_init_237 kc_X12_106 ?_
  refine g_last (pc := 240) (a := 231) ok (show 231 < 244 by omega) va_upS (by unfold vp_in; decide) dX12_init_240 ?_
  refine g_to (show _ = rowJ G (mo19 b G cf) 231 rs9 from rowJ_up) ?_
  refine g_aload_n (pc := 241) ok dX12_init_241 rfl ?_
  refine g_get (pc := 242) (a := 225) (k := 10) ok cls12 (show 225 < 244 by omega) (va_upN (show 225 ≠ 231 by omega) he19) (Nat.le_of_ble_eq_true rfl) cfl_X12_47 rfl dX12_init_242 ?_
  refine g_bipush (pc := 245) ok 9 dX12_init_245 (by decide +kernel) ?_
  refine g_ldc2 (pc := 247) ok 1685026670 dX12_init_247 kc_X12_108 ?_
  refine g_last (pc := 250) (a := 231) ok (show 231 < 244 by omega) va_upS (by unfold vp_in; decide) dX12_init_250 ?_
  refine g_to (show _ = rowJ G (mo19 b G cf) 231 rs10 from rowJ_up) ?_
  refine g_aload_n (pc := 251) ok dX12_init_251 rfl ?_
  refine g_get (pc := 252) (a := 225) (k := 10) ok cls12 (show 225 < 244 by omega) (va_upN (show 225 ≠ 231 by omega) he19) (Nat.le_of_ble_eq_true rfl) cfl_X12_47 rfl dX12_init_252 ?_
  refine g_bipush (pc := 255) ok 10 dX12_init_255 (by decide +kernel) ?_
  refine g_ldc2 (pc := 257) ok 126943688025203 dX12_init_257 kc_X12_110 ?_
  refine g_last (pc := 260) (a := 231) ok (show 231 < 244 by omega) va_upS (by unfold vp_in; decide) dX12_init_260 ?_
  refine g_to (show _ = rowJ G (mo19 b G cf) 231 rs11 from rowJ_up) ?_
  refine g_aload_n (pc := 261) ok dX12_init_261 rfl ?_
  refine g_get (pc := 262) (a := 225) (k := 10) ok cls12 (show 225 < 244 by omega) (va_upN (show 225 ≠ 231 by omega) he19) (Nat.le_of_ble_eq_true rfl) cfl_X12_47 rfl dX12_init_262 ?_
  refine g_bipush (pc := 265) ok 11 dX12_init_265 (by decide +kernel) ?_
  refine g_ldc2 (pc := 267) ok 1802071652 dX12_init_267 kc_X12_112 ?_
  refine g_last (pc := 270) (a := 231) ok (show 231 < 244 by omega) va_upS (by unfold vp_in; decide) dX12_init_270 ?_
  refine g_to (show _ = rowJ G (mo19 b G cf) 231 rs12 from rowJ_up) ?_
  refine g_aload_n (pc := 271) ok dX12_init_271 rfl ?_
  refine g_get (pc := 272) (a := 225) (k := 10) ok cls12 (show 225 < 244 by omega) (va_upN (show 225 ≠ 231 by omega) he19) (Nat.le_of_ble_eq_true rfl) cfl_X12_47 rfl dX12_init_272 ?_
  refine g_bipush (pc := 275) ok 12 dX12_init_275 (by decide +kernel) ?_
  refine g_ldc2 (pc := 277) ok 495874044526 dX12_init_277 kc_X12_114 ?_
  refine g_last (pc := 280) (a := 231) ok (show 231 < 244 by omega) va_upS (by unfold vp_in; decide) dX12_init_280 ?_
  refine g_to (show _ = rowJ G (mo19 b G cf) 231 rs13 from rowJ_up) ?_
  refine g_aload_n (pc := 281) ok dX12_init_281 rfl ?_
  refine g_get (pc := 282) (a := 225) (k := 10) ok cls12 (show 225 < 244 by omega) (va_upN (show 225 ≠ 231 by omega) he19) (Nat.le_of_ble_eq_true rfl) cfl_X12_47 rfl dX12_init_282 ?_
  refine g_bipush (pc := 285) ok 13 dX12_init_285 (by decide +kernel) ?_
  refine g_ldc2 (pc := 287) ok 118122059361139 dX12_init_287 kc_X12_116 ?_
  refine g_last (pc := 290) (a := 231) ok (show 231 < 244 by omega) va_upS (by unfold vp_in; decide) dX12_init_290 ?_
  refine g_to (show _ = rowJ G (mo19 b G cf) 231 rs14 from rowJ_up) ?_
  refine g_aload_n (pc := 291) ok dX12_init_291 rfl ?_
  refine g_get (pc := 292) (a := 225) (k := 10) ok cls12 (show 225 < 244 by omega) (va_upN (show 225 ≠ 231 by omega) he19) (Nat.le_of_ble_eq_true rfl) cfl_X12_47 rfl dX12_init_292 ?_
  refine g_bipush (pc := 295) ok 14 dX12_init_295 (by decide +kernel) ?_
  refine g_ldc2 (pc := 297) ok 1735353715 dX12_init_297 kc_X12_118 ?_
  refine g_last (pc := 300) (a := 231) ok (show 231 < 244 by omega) va_upS (by unfold vp_in; decide) dX12_init_300 ?_
  refine g_to (show _ = rowJ G (mo19 b G cf) 231 rs15 from rowJ_up) ?_
  refine g_aload_n (pc := 301) ok dX12_init_301 rfl ?_
  refine g_get (pc := 302) (a := 225) (k := 10) ok cls12 (show 225 < 244 by omega) (va_upN (show 225 ≠ 231 by omega) he19) (Nat.le_of_ble_eq_true rfl) cfl_X12_47 rfl dX12_init_302 ?_
  refine g_bipush (pc := 305) ok 15 dX12_init_305 (by decide +kernel) ?_
  refine g_ldc2 (pc := 307) ok 487301149811 dX12_init_307 kc_X12_120 ?_
  refine g_last (pc := 310) (a := 231) ok (show 231 < 244 by omega) va_upS (by unfold vp_in; decide) dX12_init_310 ?_
  refine g_to (show _ = rowJ G (mo19 b G cf) 231 rs16 from rowJ_up) ?_
  refine g_aload_n (pc := 311) ok dX12_init_311 rfl ?_
  refine g_get (pc := 312) (a := 225) (k := 10) ok cls12 (show 225 < 244 by omega) (va_upN (show 225 ≠ 231 by omega) he19) (Nat.le_of_ble_eq_true rfl) cfl_X12_47 rfl dX12_init_312 ?_
  refine g_bipush (pc := 315) ok 16 dX12_init_315 (by decide +kernel) ?_
  refine g_ldc2 (pc := 317) ok 469852583027 dX12_init_317 kc_X12_122 ?_
  refine g_last (pc := 320) (a := 231) ok (show 231 < 244 by omega) va_upS (by unfold vp_in; decide) dX12_init_320 ?_
  refine g_to (show _ = rowJ G (mo19 b G cf) 231 rs17 from rowJ_up) ?_
  refine g_aload_n (pc := 321) ok dX12_init_321 rfl ?_
  refine g_get (pc := 322) (a := 225) (k := 10) ok cls12 (show 225 < 244 by omega) (va_upN (show 225 ≠ 231 by omega) he19) (Nat.le_of_ble_eq_true rfl) cfl_X12_47 rfl dX12_init_322 ?_
  refine g_bipush (pc := 325) ok 17 dX12_init_325 (by decide +kernel) ?_
  refine g_ldc2 (pc := 327) ok 1953063787 dX12_init_327 kc_X12_124 ?_
  refine g_last (pc := 330) (a := 231) ok (show 231 < 244 by omega) va_upS (by unfold vp_in; decide) dX12_init_330 ?_
  refine g_to (show _ = rowJ G (mo19 b G cf) 231 rs18 from rowJ_up) ?_
  refine g_aload_n (pc := 331) ok dX12_init_331 rfl ?_
  refine g_get (pc := 332) (a := 225) (k := 10) ok cls12 (show 225 < 244 by omega) (va_upN (show 225 ≠ 231 by omega) he19) (Nat.le_of_ble_eq_true rfl) cfl_X12_47 rfl dX12_init_332 ?_
  refine g_bipush (pc := 335) ok 18 dX12_init_335 (by decide +kernel) ?_
  refine g_ldc2 (pc := 337) ok 28530 dX12_init_337 kc_X12_126 ?_
  refine g_last (pc := 340) (a := 231) ok (show 231 < 244 by omega) va_upS (by unfold vp_in; decide) dX12_init_340 ?_
  refine g_to (show _ = rowJ G (mo19 b G cf) 231 rs19 from rowJ_up) ?_
  refine g_aload_n (pc := 341) ok dX12_init_341 rfl ?_
  refine g_get (pc := 342) (a := 225) (k := 10) ok cls12 (show 225 < 244 by omega) (va_upN (show 225 ≠ 231 by omega) he19) (Nat.le_of_ble_eq_true rfl) cfl_X12_47 rfl dX12_init_342 ?_
  refine g_bipush (pc := 345) ok 19 dX12_init_345 (by decide +kernel) ?_
  refine g_ldc2 (pc := 347) ok 6385252 dX12_init_347 kc_X12_128 ?_
  refine g_last (pc := 350) (a := 231) ok (show 231 < 244 by omega) va_upS (by unfold vp_in; decide) dX12_init_350 ?_
  refine g_to (show _ = rowJ G (mo19 b G cf) 231 rs20 from rowJ_up) ?_
  refine g_aload_n (pc := 351) ok dX12_init_351 rfl ?_
  refine g_get (pc := 352) (a := 225) (k := 10) ok cls12 (show 225 < 244 by omega) (va_upN (show 225 ≠ 231 by omega) he19) (Nat.le_of_ble_eq_true rfl) cfl_X12_47 rfl dX12_init_352 ?_
  refine g_bipush (pc := 355) ok 20 dX12_init_355 (by decide +kernel) ?_
  refine g_ldc2 (pc := 357) ok 7237492 dX12_init_357 kc_X12_130 ?_
  refine g_last (pc := 360) (a := 231) ok (show 231 < 244 by omega) va_upS (by unfold vp_in; decide) dX12_init_360 ?_
  refine g_to (show _ = rowJ G (mo19 b G cf) 231 rs21 from rowJ_up) ?_
  refine g_aload_n (pc := 361) ok dX12_init_361 rfl ?_
  refine g_get (pc := 362) (a := 225) (k := 10) ok cls12 (show 225 < 244 by omega) (va_upN (show 225 ≠ 231 by omega) he19) (Nat.le_of_ble_eq_true rfl) cfl_X12_47 rfl dX12_init_362 ?_
  refine g_bipush (pc := 365) ok 21 dX12_init_365 (by decide +kernel) ?_
  refine g_ldc2 (pc := 367) ok 33602640515001959 dX12_init_367 kc_X12_132 ?_
  refine g_last (pc := 370) (a := 231) ok (show 231 < 244 by omega) va_upS (by unfold vp_in; decide) dX12_init_370 ?_
  refine g_to (show _ = rowJ G (mo19 b G cf) 231 rs22 from rowJ_up) ?_
  refine g_aload_n (pc := 371) ok dX12_init_371 rfl ?_
  refine g_get (pc := 372) (a := 225) (k := 10) ok cls12 (show 225 < 244 by omega) (va_upN (show 225 ≠ 231 by omega) he19) (Nat.le_of_ble_eq_true rfl) cfl_X12_47 rfl dX12_init_372 ?_
  refine g_bipush (pc := 375) ok 22 dX12_init_375 (by decide +kernel) ?_
  refine g_ldc2 (pc := 377) ok 7741247282290978407 dX12_init_377 kc_X12_134 ?_
  refine g_last (pc := 380) (a := 231) ok (show 231 < 244 by omega) va_upS (by unfold vp_in; decide) dX12_init_380 ?_
  refine g_to (show _ = rowJ G (mo19 b G cf) 231 rs23 from rowJ_up) ?_
  refine g_aload_n (pc := 381) ok dX12_init_381 rfl ?_
  refine g_get (pc := 382) (a := 225) (k := 10) ok cls12 (show 225 < 244 by omega) (va_upN (show 225 ≠ 231 by omega) he19) (Nat.le_of_ble_eq_true rfl) cfl_X12_47 rfl dX12_init_382 ?_
  refine g_bipush (pc := 385) ok 23 dX12_init_385 (by decide +kernel) ?_
  refine g_ldc2 (pc := 387) ok 115923103605861 dX12_init_387 kc_X12_136 ?_
  refine g_last (pc := 390) (a := 231) ok (show 231 < 244 by omega) va_upS (by unfold vp_in; decide) dX12_init_390 ?_
  refine g_to (show _ = rowJ G (mo19 b G cf) 231 rs24 from rowJ_up) ?_
  refine g_aload_n (pc := 391) ok dX12_init_391 rfl ?_
  refine g_get (pc := 392) (a := 225) (k := 10) ok cls12 (show 225 < 244 by omega) (va_upN (show 225 ≠ 231 by omega) he19) (Nat.le_of_ble_eq_true rfl) cfl_X12_47 rfl dX12_init_392 ?_
  refine g_bipush (pc := 395) ok 24 dX12_init_395 (by decide +kernel) ?_
  refine g_ldc2 (pc := 397) ok 28518 dX12_init_397 kc_X12_138 ?_
  refine g_last (pc := 400) (a := 231) ok (show 231 < 244 by omega) va_upS (by unfold vp_in; decide) dX12_init_400 ?_
  refine g_to (show _ = rowJ G (mo19 b G cf) 231 rs25 from rowJ_up) ?_
  refine g_aload_n (pc := 401) ok dX12_init_401 rfl ?_
  refine g_get (pc := 402) (a := 225) (k := 10) ok cls12 (show 225 < 244 by omega) (va_upN (show 225 ≠ 231 by omega) he19) (Nat.le_of_ble_eq_true rfl) cfl_X12_47 rfl dX12_init_402 ?_
  refine g_bipush (pc := 405) ok 25 dX12_init_405 (by decide +kernel) ?_
  refine g_ldc2 (pc := 407) ok 482854658917 dX12_init_407 kc_X12_140 ?_
  refine g_last (pc := 410) (a := 231) ok (show 231 < 244 by omega) va_upS (by unfold vp_in; decide) dX12_init_410 ?_
  refine g_to (show _ = rowJ G (mo19 b G cf) 231 rs26 from rowJ_up) ?_
  refine g_aload_n (pc := 411) ok dX12_init_411 rfl ?_
  refine g_get (pc := 412) (a := 225) (k := 10) ok cls12 (show 225 < 244 by omega) (va_upN (show 225 ≠ 231 by omega) he19) (Nat.le_of_ble_eq_true rfl) cfl_X12_47 rfl dX12_init_412 ?_
  refine g_bipush (pc := 415) ok 26 dX12_init_415 (by decide +kernel) ?_
  refine g_ldc2 (pc := 417) ok 461414299502 dX12_init_417 kc_X12_142 ?_
  refine g_last (pc := 420) (a := 231) ok (show 231 < 244 by omega) va_upS (by unfold vp_in; decide) dX12_init_420 ?_
  refine g_to (show _ = rowJ G (mo19 b G cf) 231 rs27 from rowJ_up) ?_
  refine g_aload_n (pc := 421) ok dX12_init_421 rfl ?_
  refine g_get (pc := 422) (a := 225) (k := 10) ok cls12 (show 225 < 244 by omega) (va_upN (show 225 ≠ 231 by omega) he19) (Nat.le_of_ble_eq_true rfl) cfl_X12_47 rfl dX12_init_422 ?_
  refine g_bipush (pc := 425) ok 27 dX12_init_425 (by decide +kernel) ?_
  refine g_ldc2 (pc := 427) ok 131260264768868 dX12_init_427 kc_X12_144 ?_
  refine g_last (pc := 430) (a := 231) ok (show 231 < 244 by omega) va_upS (by unfold vp_in; decide) dX12_init_430 ?_
  refine g_to (show _ = rowJ G (mo19 b G cf) 231 rs28 from rowJ_up) ?_
  refine g_aload_n (pc := 431) ok dX12_init_431 rfl ?_
  refine g_get (pc := 432) (a := 225) (k := 10) ok cls12 (show 225 < 244 by omega) (va_upN (show 225 ≠ 231 by omega) he19) (Nat.le_of_ble_eq_true rfl) cfl_X12_47 rfl dX12_init_432 ?_
  refine g_bipush (pc := 435) ok 28 dX12_init_435 (by decide +kernel) ?_
  refine g_ldc2 (pc := 437) ok 121450625394034 dX12_init_437 kc_X12_146 ?_
  refine g_last (pc := 440) (a := 231) ok (show 231 < 244 by omega) va_upS (by unfold vp_in; decide) dX12_init_440 ?_
  refine g_to (show _ = rowJ G (mo19 b G cf) 231 rs29 from rowJ_up) ?_
  have hJ : rowJ G (mo19 b G cf) 231 rs29 225 = .inr (12, [.int 0, .ref (b + 226), .int 0, .int 0, .int 0, .int 0, .ref (b + 227), .ref (b + 228), .ref (b + 229), .ref (b + 230), .ref (b + 231), .int 0, .int 0, .int 0, .int 0, .int 0, .int 0, .long 0, .int 0, .int 0, .int 0, .ref (b + 232), .ref (b + 233), .int 0, .int 0, .int 0, .ref (b + 234), .ref (b + 235), .ref (b + 236), .int (-1), .int 0, .int 0, .ref (b + 237), .int 0, .int 0, .int 0, .ref (b + 238), .int 0, .ref (b + 239), .int 0, .int 0, .int 0, .int 0, .int 0, .ref (b + 240), .ref (b + 241), .ref (b + 242), .ref (b + 243)]) := va_upN (show 225 ≠ 231 by omega) he19
  have hH : rowJ G (mo19 b G cf) 231 rs29 228 = .inl (G.2 2, 69, .inl (fun _ => 0)) := va_upN (show 228 ≠ 231 by omega) rfl
  have hS0 : rowJ G (mo19 b G cf) 231 rs29 227 = .inl (G.2 2, 342, .inl (fun _ => 0)) := va_upN (show 227 ≠ 231 by omega) rfl
  refine g_aload_n (pc := 441) ok dX12_init_441 rfl ?_
  refine g_ws (hz.up 18) ?_
  refine g_kV (pc := 442) (g_cVo (dy := d) (mc := 0) (ms := 0) (a := 225) (As := []) ok cls12 (show 225 < 244 by omega) hJ rfl ml_Mo_148 wv_X12_clears yk_X12_clears rfl (show d + 1 ≤ d + 1 by omega) (show 8 + (2 + 11) + 60 * d ≤ 60 * (d + 1) by omega) (Nat.le_of_ble_eq_true rfl) (Nat.le_of_ble_eq_true rfl) (kclears (K := 244) (a := 225) (A := 228) (show 225 < 244 by omega) (show 228 < 244 by omega) (show 225 ≠ 228 by omega) hJ rfl hH 100 clr0_e) rfl (Nat.le_of_ble_eq_true rfl) dX12_init_442) ?_
  refine g_wk ?_
  refine g_iconst (pc := 445) ok 0 dX12_init_445 (by decide +kernel) ?_
  refine g_istore_n (pc := 446) ok dX12_init_446 (Nat.le_of_ble_eq_true rfl) rfl ?_
  refine g_to (rowI_eta (N := 342) (A := 227) (f := fun _ => 0) (va_upN (show 227 ≠ 228 by omega) hS0)) ?_
  refine cp_loop (a := 225) (A := 227) (A2 := 228) (r := ss0) ok (show 225 < 244 by omega) (show 227 < 244 by omega) (show 228 < 244 by omega) (show 225 ≠ 227 by omega) (show 228 ≠ 227 by omega) (va_upN (show 225 ≠ 228 by omega) hJ) rfl rfl va_upS (fun c => ?_) 100 0 _ ss0_e
  refine g_ws (hz.up 18) ?_
  exact g_vret (pc := 471) ok dX12_init_471 (fun _ h => h)
