/-! each entry is one that the machine does (printed by a program) -/
abbrev qX12_putShare : Nat × aI → Prop := OkQ RX12 "putShare" cX12_putShare 11 (none)
set_option maxRecDepth 20000 in
theorem kX12_putShare_0 : ∀ q ∈ tX12_putShare_0, qX12_putShare q :=
  allq qX12_putShare 0 (.inl (a_al 0 1)) (s_aload_n (q := 0) (i := 0) rfl (by decide +kernel)) <|
  allq qX12_putShare 1 (.inl (a_il 3 2)) (s_iload_n (q := 3) (i := 3) rfl (by decide +kernel)) <|
  allq qX12_putShare 2 (.inl (a_ic 5 3)) (s_iconst (n := 5) (v := 5) rfl (by decide +kernel)) <|
  allq qX12_putShare 3 (.inl (o_isub 4)) (s_isub (by decide +kernel)) <|
  allq qX12_putShare 4 (.inl (a_ic 4 5)) (s_iconst (n := 4) (v := 4) rfl (by decide +kernel)) <|
  allq qX12_putShare 5 (.inr (.inl (147, 3, 12))) (okV (y := yX12_put) kw_1515 kw_118 rfl rfl (by decide +kernel) kw_1514 kw_65 kw_1512) <|
  allq qX12_putShare 8 (.inl (a_ic 1 9)) (s_iconst (n := 1) (v := 1) rfl (by decide +kernel)) <|
  allq qX12_putShare 9 (.inl (a_il 3 10)) (s_iload_n (q := 3) (i := 3) rfl (by decide +kernel)) <|
  allq qX12_putShare 10 (.inl (o_ishl 11)) (s_ishl (by decide +kernel)) <|
  allq qX12_putShare 11 (.inl (a_is 4 13)) (s_istore (i := 4) (by decide +kernel) (by decide)) <|
  allq qX12_putShare 13 (.inl (a_ic 0 14)) (s_iconst (n := 0) (v := 0) rfl (by decide +kernel)) <|
  allq qX12_putShare 14 (.inl (a_is 5 16)) (s_istore (i := 5) (by decide +kernel) (by decide)) <|
  allq qX12_putShare 16 (.inl (a_il 4 18)) (s_iload (i := 4) (by decide +kernel)) <|
  allq qX12_putShare 18 (.inl (o_if_le 181 21)) (s_if_le (off := 163) (by decide +kernel) (by decide)) <|
  allq qX12_putShare 21 (.inl (a_al 1 22)) (s_aload_n (q := 1) (i := 1) rfl (by decide +kernel)) <|
  allq qX12_putShare 22 (.inl (a_il 2 23)) (s_iload_n (q := 2) (i := 2) rfl (by decide +kernel)) <|
  allq qX12_putShare 23 (.inl (a_il 5 25)) (s_iload (i := 5) (by decide +kernel)) <|
  allq qX12_putShare 25 (.inl (o_iadd 26)) (s_iadd (by decide +kernel)) <|
  allq qX12_putShare 26 (.inl (a_iald 27)) (s_iald (by decide +kernel)) <|
  allq qX12_putShare 27 (.inl (a_ic 1 28)) (s_iconst (n := 1) (v := 1) rfl (by decide +kernel)) <|
  allq qX12_putShare 28 (.inl (o_iadd 29)) (s_iadd (by decide +kernel)) <|
  allq qX12_putShare 29 (.inl (a_is 6 31)) (s_istore (i := 6) (by decide +kernel) (by decide)) <|
  allq qX12_putShare 31 (.inl (a_il 4 33)) (s_iload (i := 4) (by decide +kernel)) <|
  allq qX12_putShare 33 (.inl (a_ic 1 34)) (s_iconst (n := 1) (v := 1) rfl (by decide +kernel)) <|
  allq qX12_putShare 34 (.inl (o_iadd 35)) (s_iadd (by decide +kernel)) <|
  allq qX12_putShare 35 (.inr (.inl (158, 1, 0))) (okS (y := yX12_log) kw_1530 kw_118 rfl (by decide +kernel) kw_1529 (Or.inl kw_1528)) <|
  allq qX12_putShare 38 (.inl (a_is 7 40)) (s_istore (i := 7) (by decide +kernel) (by decide)) <|
  allq qX12_putShare 40 (.inl (a_ic 1 41)) (s_iconst (n := 1) (v := 1) rfl (by decide +kernel)) <|
  allq qX12_putShare 41 (.inl (a_il 7 43)) (s_iload (i := 7) (by decide +kernel)) <|
  allq qX12_putShare 43 (.inl (o_ishl 44)) (s_ishl (by decide +kernel)) <|
  allq qX12_putShare 44 (.inl (a_is 8 46)) (s_istore (i := 8) (by decide +kernel) (by decide)) <|
  allq qX12_putShare 46 (.inl (a_ic 2 47)) (s_iconst (n := 2) (v := 2) rfl (by decide +kernel)) <|
  allq qX12_putShare 47 (.inl (a_il 8 49)) (s_iload (i := 8) (by decide +kernel)) <|
  allq qX12_putShare 49 (.inl (o_imul 50)) (s_imul (by decide +kernel)) <|
  allq qX12_putShare 50 (.inl (a_ic 2 51)) (s_iconst (n := 2) (v := 2) rfl (by decide +kernel)) <|
  allq qX12_putShare 51 (.inl (o_isub 52)) (s_isub (by decide +kernel)) <|
  allq qX12_putShare 52 (.inl (a_il 4 54)) (s_iload (i := 4) (by decide +kernel)) <|
  allq qX12_putShare 54 (.inl (o_isub 55)) (s_isub (by decide +kernel)) <|
  allq qX12_putShare 55 (.inl (a_is 9 57)) (s_istore (i := 9) (by decide +kernel) (by decide)) <|
  allq qX12_putShare 57 (.inl (a_al 0 58)) (s_aload_n (q := 0) (i := 0) rfl (by decide +kernel)) <|
  alln
set_option maxRecDepth 20000 in
theorem kX12_putShare_1 : ∀ q ∈ tX12_putShare_1, qX12_putShare q :=
  allq qX12_putShare 58 (.inl (a_il 6 60)) (s_iload (i := 6) (by decide +kernel)) <|
  allq qX12_putShare 60 (.inl (a_il 9 62)) (s_iload (i := 9) (by decide +kernel)) <|
  allq qX12_putShare 62 (.inl (o_icmp_lt 72 65)) (s_icmp_lt (off := 10) (by decide +kernel) (by decide)) <|
  allq qX12_putShare 65 (.inl (a_il 6 67)) (s_iload (i := 6) (by decide +kernel)) <|
  allq qX12_putShare 67 (.inl (a_il 8 69)) (s_iload (i := 8) (by decide +kernel)) <|
  allq qX12_putShare 69 (.inl (o_icmp_ge 77 72)) (s_icmp_ge (off := 8) (by decide +kernel) (by decide)) <|
  allq qX12_putShare 72 (.inl (a_il 6 74)) (s_iload (i := 6) (by decide +kernel)) <|
  allq qX12_putShare 74 (.inl (a_go 82)) (s_goto (off := 8) (by decide +kernel) (by decide)) <|
  allq qX12_putShare 77 (.inl (a_il 6 79)) (s_iload (i := 6) (by decide +kernel)) <|
  allq qX12_putShare 79 (.inl (a_il 9 81)) (s_iload (i := 9) (by decide +kernel)) <|
  allq qX12_putShare 81 (.inl (o_iadd 82)) (s_iadd (by decide +kernel)) <|
  allq qX12_putShare 82 (.inl (a_il 6 84)) (s_iload (i := 6) (by decide +kernel)) <|
  allq qX12_putShare 84 (.inl (a_il 9 86)) (s_iload (i := 9) (by decide +kernel)) <|
  allq qX12_putShare 86 (.inl (o_icmp_ge 94 89)) (s_icmp_ge (off := 8) (by decide +kernel) (by decide)) <|
  allq qX12_putShare 89 (.inl (a_il 7 91)) (s_iload (i := 7) (by decide +kernel)) <|
  allq qX12_putShare 91 (.inl (a_go 98)) (s_goto (off := 7) (by decide +kernel) (by decide)) <|
  allq qX12_putShare 94 (.inl (a_il 7 96)) (s_iload (i := 7) (by decide +kernel)) <|
  allq qX12_putShare 96 (.inl (a_ic 1 97)) (s_iconst (n := 1) (v := 1) rfl (by decide +kernel)) <|
  allq qX12_putShare 97 (.inl (o_iadd 98)) (s_iadd (by decide +kernel)) <|
  allq qX12_putShare 98 (.inr (.inl (147, 3, 12))) (okV (y := yX12_put) kw_1515 kw_118 rfl rfl (by decide +kernel) kw_1514 kw_65 kw_1512) <|
  allq qX12_putShare 101 (.inl (a_il 4 103)) (s_iload (i := 4) (by decide +kernel)) <|
  allq qX12_putShare 103 (.inl (a_il 6 105)) (s_iload (i := 6) (by decide +kernel)) <|
  allq qX12_putShare 105 (.inl (a_ic 1 106)) (s_iconst (n := 1) (v := 1) rfl (by decide +kernel)) <|
  allq qX12_putShare 106 (.inl (o_isub 107)) (s_isub (by decide +kernel)) <|
  allq qX12_putShare 107 (.inr (.inl (164, 1, 0))) (okS (y := yX12_mass) kw_1523 kw_118 rfl (by decide +kernel) kw_1522 (Or.inl kw_1521)) <|
  allq qX12_putShare 110 (.inl (o_isub 111)) (s_isub (by decide +kernel)) <|
  allq qX12_putShare 111 (.inl (a_is 4 113)) (s_istore (i := 4) (by decide +kernel) (by decide)) <|
  allq qX12_putShare 113 (.inl (a_inc 5 1 116)) (s_iinc (i := 5) (n := 1) (n2 := 1) rfl (by decide +kernel) (by decide)) <|
  allq qX12_putShare 116 (.inl (a_il 6 118)) (s_iload (i := 6) (by decide +kernel)) <|
  allq qX12_putShare 118 (.inl (a_ic 1 119)) (s_iconst (n := 1) (v := 1) rfl (by decide +kernel)) <|
  allq qX12_putShare 119 (.inl (o_icmp_eq 125 122)) (s_icmp_eq (off := 6) (by decide +kernel) (by decide)) <|
  allq qX12_putShare 122 (.inl (a_go 16)) (s_goto (off := (-106)) (by decide +kernel) (by decide)) <|
  allq qX12_putShare 125 (.inl (a_ic 0 126)) (s_iconst (n := 0) (v := 0) rfl (by decide +kernel)) <|
  allq qX12_putShare 126 (.inl (a_is 10 128)) (s_istore (i := 10) (by decide +kernel) (by decide)) <|
  allq qX12_putShare 128 (.inl (a_al 1 129)) (s_aload_n (q := 1) (i := 1) rfl (by decide +kernel)) <|
  allq qX12_putShare 129 (.inl (a_il 2 130)) (s_iload_n (q := 2) (i := 2) rfl (by decide +kernel)) <|
  allq qX12_putShare 130 (.inl (a_il 5 132)) (s_iload (i := 5) (by decide +kernel)) <|
  allq qX12_putShare 132 (.inl (o_iadd 133)) (s_iadd (by decide +kernel)) <|
  allq qX12_putShare 133 (.inl (a_il 10 135)) (s_iload (i := 10) (by decide +kernel)) <|
  allq qX12_putShare 135 (.inl (o_iadd 136)) (s_iadd (by decide +kernel)) <|
  alln
set_option maxRecDepth 20000 in
theorem kX12_putShare_2 : ∀ q ∈ tX12_putShare_2, qX12_putShare q :=
  allq qX12_putShare 136 (.inl (a_iald 137)) (s_iald (by decide +kernel)) <|
  allq qX12_putShare 137 (.inl (o_if_ne 146 140)) (s_if_ne (off := 9) (by decide +kernel) (by decide)) <|
  allq qX12_putShare 140 (.inl (a_inc 10 1 143)) (s_iinc (i := 10) (n := 1) (n2 := 1) rfl (by decide +kernel) (by decide)) <|
  allq qX12_putShare 143 (.inl (a_go 128)) (s_goto (off := (-15)) (by decide +kernel) (by decide)) <|
  allq qX12_putShare 146 (.inl (a_il 5 148)) (s_iload (i := 5) (by decide +kernel)) <|
  allq qX12_putShare 148 (.inl (a_il 10 150)) (s_iload (i := 10) (by decide +kernel)) <|
  allq qX12_putShare 150 (.inl (o_iadd 151)) (s_iadd (by decide +kernel)) <|
  allq qX12_putShare 151 (.inl (a_is 5 153)) (s_istore (i := 5) (by decide +kernel) (by decide)) <|
  allq qX12_putShare 153 (.inl (a_il 10 155)) (s_iload (i := 10) (by decide +kernel)) <|
  allq qX12_putShare 155 (.inl (a_ic 2 156)) (s_iconst (n := 2) (v := 2) rfl (by decide +kernel)) <|
  allq qX12_putShare 156 (.inl (o_icmp_le 171 159)) (s_icmp_le (off := 15) (by decide +kernel) (by decide)) <|
  allq qX12_putShare 159 (.inl (a_al 0 160)) (s_aload_n (q := 0) (i := 0) rfl (by decide +kernel)) <|
  allq qX12_putShare 160 (.inl (a_ic 3 161)) (s_iconst (n := 3) (v := 3) rfl (by decide +kernel)) <|
  allq qX12_putShare 161 (.inl (a_ic 2 162)) (s_iconst (n := 2) (v := 2) rfl (by decide +kernel)) <|
  allq qX12_putShare 162 (.inr (.inl (147, 3, 12))) (okV (y := yX12_put) kw_1515 kw_118 rfl rfl (by decide +kernel) kw_1514 kw_65 kw_1512) <|
  allq qX12_putShare 165 (.inl (a_inc 10 (-3) 168)) (s_iinc (i := 10) (n := (-3)) (n2 := (-3)) rfl (by decide +kernel) (by decide)) <|
  allq qX12_putShare 168 (.inl (a_go 153)) (s_goto (off := (-15)) (by decide +kernel) (by decide)) <|
  allq qX12_putShare 171 (.inl (a_al 0 172)) (s_aload_n (q := 0) (i := 0) rfl (by decide +kernel)) <|
  allq qX12_putShare 172 (.inl (a_il 10 174)) (s_iload (i := 10) (by decide +kernel)) <|
  allq qX12_putShare 174 (.inl (a_ic 2 175)) (s_iconst (n := 2) (v := 2) rfl (by decide +kernel)) <|
  allq qX12_putShare 175 (.inr (.inl (147, 3, 12))) (okV (y := yX12_put) kw_1515 kw_118 rfl rfl (by decide +kernel) kw_1514 kw_65 kw_1512) <|
  allq qX12_putShare 178 (.inl (a_go 16)) (s_goto (off := (-162)) (by decide +kernel) (by decide)) <|
  allq qX12_putShare 181 (.inl (a_al 0 182)) (s_aload_n (q := 0) (i := 0) rfl (by decide +kernel)) <|
  allq qX12_putShare 182 (.inr (.inl (148, 1, 12))) (okV (y := yX12_fill) kw_1534 kw_118 rfl rfl (by decide +kernel) kw_1533 kw_68 kw_1531) <|
  allq qX12_putShare 185 (.inr (.inr 0)) (Or.inl ⟨rfl, rfl, by decide +kernel⟩) <|
  alln
theorem kX12_putShare : ∀ q ∈ tX12_putShare, qX12_putShare q := alla kX12_putShare_0 (alla kX12_putShare_1 kX12_putShare_2)
abbrev qX12_bestOrder : Nat × aI → Prop := OkQ RX12 "bestOrder" cX12_bestOrder 7 (some .int)
set_option maxRecDepth 20000 in
theorem kX12_bestOrder_0 : ∀ q ∈ tX12_bestOrder_0, qX12_bestOrder q :=
  allq qX12_bestOrder 0 (.inl (a_al 0 1)) (s_aload_n (q := 0) (i := 0) rfl (by decide +kernel)) <|
  allq qX12_bestOrder 1 (.inl (a_il 1 2)) (s_iload_n (q := 1) (i := 1) rfl (by decide +kernel)) <|
  allq qX12_bestOrder 2 (.inr (.inl (172, 2, 12))) (okV (y := yX12_countSymbols) kw_1596 kw_118 rfl rfl (by decide +kernel) kw_1595 kw_82 kw_1593) <|
  allq qX12_bestOrder 5 (.inl (a_is 2 6)) (s_istore_n (q := 2) (i := 2) rfl (by decide +kernel) (by decide)) <|
  allq qX12_bestOrder 6 (.inl (a_ic (-1) 7)) (s_iconst (n := (-1)) (v := (-1)) rfl (by decide +kernel)) <|
  allq qX12_bestOrder 7 (.inl (a_is 3 8)) (s_istore_n (q := 3) (i := 3) rfl (by decide +kernel) (by decide)) <|
  allq qX12_bestOrder 8 (.inl (a_ic 0 9)) (s_iconst (n := 0) (v := 0) rfl (by decide +kernel)) <|
  allq qX12_bestOrder 9 (.inl (a_is 4 11)) (s_istore (i := 4) (by decide +kernel) (by decide)) <|
  allq qX12_bestOrder 11 (.inl (a_ic 5 12)) (s_iconst (n := 5) (v := 5) rfl (by decide +kernel)) <|
  allq qX12_bestOrder 12 (.inl (a_is 5 14)) (s_istore (i := 5) (by decide +kernel) (by decide)) <|
  allq qX12_bestOrder 14 (.inl (a_il 5 16)) (s_iload (i := 5) (by decide +kernel)) <|
  allq qX12_bestOrder 16 (.inl (a_il 1 17)) (s_iload_n (q := 1) (i := 1) rfl (by decide +kernel)) <|
  allq qX12_bestOrder 17 (.inl (a_ic 1 18)) (s_iconst (n := 1) (v := 1) rfl (by decide +kernel)) <|
  allq qX12_bestOrder 18 (.inl (o_icmp_ne 26 21)) (s_icmp_ne (off := 8) (by decide +kernel) (by decide)) <|
  allq qX12_bestOrder 21 (.inl (a_ic 8 23)) (s_bipush (n := 8) (v := 8) rfl (by decide +kernel)) <|
  allq qX12_bestOrder 23 (.inl (a_go 28)) (s_goto (off := 5) (by decide +kernel) (by decide)) <|
  allq qX12_bestOrder 26 (.inl (a_ic 9 28)) (s_bipush (n := 9) (v := 9) rfl (by decide +kernel)) <|
  allq qX12_bestOrder 28 (.inl (o_icmp_gt 75 31)) (s_icmp_gt (off := 47) (by decide +kernel) (by decide)) <|
  allq qX12_bestOrder 31 (.inl (a_il 2 32)) (s_iload_n (q := 2) (i := 2) rfl (by decide +kernel)) <|
  allq qX12_bestOrder 32 (.inl (a_ic 1 33)) (s_iconst (n := 1) (v := 1) rfl (by decide +kernel)) <|
  allq qX12_bestOrder 33 (.inl (a_il 5 35)) (s_iload (i := 5) (by decide +kernel)) <|
  allq qX12_bestOrder 35 (.inl (o_ishl 36)) (s_ishl (by decide +kernel)) <|
  allq qX12_bestOrder 36 (.inl (o_icmp_le 42 39)) (s_icmp_le (off := 6) (by decide +kernel) (by decide)) <|
  allq qX12_bestOrder 39 (.inl (a_go 69)) (s_goto (off := 30) (by decide +kernel) (by decide)) <|
  allq qX12_bestOrder 42 (.inl (a_al 0 43)) (s_aload_n (q := 0) (i := 0) rfl (by decide +kernel)) <|
  allq qX12_bestOrder 43 (.inl (a_il 1 44)) (s_iload_n (q := 1) (i := 1) rfl (by decide +kernel)) <|
  allq qX12_bestOrder 44 (.inl (a_il 5 46)) (s_iload (i := 5) (by decide +kernel)) <|
  allq qX12_bestOrder 46 (.inr (.inl (173, 3, 12))) (okV (y := yX12_shareCost) kw_1616 kw_118 rfl rfl (by decide +kernel) kw_1615 kw_87 kw_1613) <|
  allq qX12_bestOrder 49 (.inl (a_is 6 51)) (s_istore (i := 6) (by decide +kernel) (by decide)) <|
  allq qX12_bestOrder 51 (.inl (a_il 3 52)) (s_iload_n (q := 3) (i := 3) rfl (by decide +kernel)) <|
  allq qX12_bestOrder 52 (.inl (o_if_lt 62 55)) (s_if_lt (off := 10) (by decide +kernel) (by decide)) <|
  allq qX12_bestOrder 55 (.inl (a_il 6 57)) (s_iload (i := 6) (by decide +kernel)) <|
  allq qX12_bestOrder 57 (.inl (a_il 4 59)) (s_iload (i := 4) (by decide +kernel)) <|
  allq qX12_bestOrder 59 (.inl (o_icmp_ge 69 62)) (s_icmp_ge (off := 10) (by decide +kernel) (by decide)) <|
  allq qX12_bestOrder 62 (.inl (a_il 5 64)) (s_iload (i := 5) (by decide +kernel)) <|
  allq qX12_bestOrder 64 (.inl (a_is 3 65)) (s_istore_n (q := 3) (i := 3) rfl (by decide +kernel) (by decide)) <|
  allq qX12_bestOrder 65 (.inl (a_il 6 67)) (s_iload (i := 6) (by decide +kernel)) <|
  allq qX12_bestOrder 67 (.inl (a_is 4 69)) (s_istore (i := 4) (by decide +kernel) (by decide)) <|
  allq qX12_bestOrder 69 (.inl (a_inc 5 1 72)) (s_iinc (i := 5) (n := 1) (n2 := 1) rfl (by decide +kernel) (by decide)) <|
  allq qX12_bestOrder 72 (.inl (a_go 14)) (s_goto (off := (-58)) (by decide +kernel) (by decide)) <|
  alln
set_option maxRecDepth 20000 in
theorem kX12_bestOrder_1 : ∀ q ∈ tX12_bestOrder_1, qX12_bestOrder q :=
  allq qX12_bestOrder 75 (.inl (a_al 0 76)) (s_aload_n (q := 0) (i := 0) rfl (by decide +kernel)) <|
  allq qX12_bestOrder 76 (.inl (a_il 1 77)) (s_iload_n (q := 1) (i := 1) rfl (by decide +kernel)) <|
  allq qX12_bestOrder 77 (.inl (a_il 3 78)) (s_iload_n (q := 3) (i := 3) rfl (by decide +kernel)) <|
  allq qX12_bestOrder 78 (.inr (.inl (173, 3, 12))) (okV (y := yX12_shareCost) kw_1616 kw_118 rfl rfl (by decide +kernel) kw_1615 kw_87 kw_1613) <|
  allq qX12_bestOrder 81 (.inl (a_is 4 83)) (s_istore (i := 4) (by decide +kernel) (by decide)) <|
  allq qX12_bestOrder 83 (.inl (a_il 3 84)) (s_iload_n (q := 3) (i := 3) rfl (by decide +kernel)) <|
  allq qX12_bestOrder 84 (.inr (.inr 1)) (Or.inr (Or.inl ⟨rfl, rfl, by decide +kernel⟩)) <|
  alln
theorem kX12_bestOrder : ∀ q ∈ tX12_bestOrder, qX12_bestOrder q := alla kX12_bestOrder_0 kX12_bestOrder_1
abbrev qX12_countSymbols : Nat × aI → Prop := OkQ RX12 "countSymbols" cX12_countSymbols 5 (some .int)
set_option maxRecDepth 20000 in
theorem kX12_countSymbols_0 : ∀ q ∈ tX12_countSymbols_0, qX12_countSymbols q :=
  allq qX12_countSymbols 0 (.inl (a_ic 0 1)) (s_iconst (n := 0) (v := 0) rfl (by decide +kernel)) <|
  allq qX12_countSymbols 1 (.inl (a_is 2 2)) (s_istore_n (q := 2) (i := 2) rfl (by decide +kernel) (by decide)) <|
  allq qX12_countSymbols 2 (.inl (a_il 2 3)) (s_iload_n (q := 2) (i := 2) rfl (by decide +kernel)) <|
  allq qX12_countSymbols 3 (.inl (a_ic 256 6)) (s_sipush (n := 256) (v := 256) rfl (by decide +kernel)) <|
  allq qX12_countSymbols 6 (.inl (o_icmp_ge 22 9)) (s_icmp_ge (off := 16) (by decide +kernel) (by decide)) <|
  allq qX12_countSymbols 9 (.inl (a_al 0 10)) (s_aload_n (q := 0) (i := 0) rfl (by decide +kernel)) <|
  allq qX12_countSymbols 10 (.inl (a_get 11 48 13)) (gX12 (f0 := 48) (by decide) kw_1233 (by decide +kernel)) <|
  allq qX12_countSymbols 13 (.inl (a_il 2 14)) (s_iload_n (q := 2) (i := 2) rfl (by decide +kernel)) <|
  allq qX12_countSymbols 14 (.inl (a_ic 0 15)) (s_iconst (n := 0) (v := 0) rfl (by decide +kernel)) <|
  allq qX12_countSymbols 15 (.inl (a_iast 16)) (s_iast (by decide +kernel)) <|
  allq qX12_countSymbols 16 (.inl (a_inc 2 1 19)) (s_iinc (i := 2) (n := 1) (n2 := 1) rfl (by decide +kernel) (by decide)) <|
  allq qX12_countSymbols 19 (.inl (a_go 2)) (s_goto (off := (-17)) (by decide +kernel) (by decide)) <|
  allq qX12_countSymbols 22 (.inl (a_ic 0 23)) (s_iconst (n := 0) (v := 0) rfl (by decide +kernel)) <|
  allq qX12_countSymbols 23 (.inl (a_is 2 24)) (s_istore_n (q := 2) (i := 2) rfl (by decide +kernel) (by decide)) <|
  allq qX12_countSymbols 24 (.inl (a_ic 0 25)) (s_iconst (n := 0) (v := 0) rfl (by decide +kernel)) <|
  allq qX12_countSymbols 25 (.inl (a_is 3 26)) (s_istore_n (q := 3) (i := 3) rfl (by decide +kernel) (by decide)) <|
  allq qX12_countSymbols 26 (.inl (a_il 3 27)) (s_iload_n (q := 3) (i := 3) rfl (by decide +kernel)) <|
  allq qX12_countSymbols 27 (.inl (a_al 0 28)) (s_aload_n (q := 0) (i := 0) rfl (by decide +kernel)) <|
  allq qX12_countSymbols 28 (.inl (a_get 11 31 31)) (gX12 (f0 := 31) (by decide) kw_1216 (by decide +kernel)) <|
  allq qX12_countSymbols 31 (.inl (o_icmp_ge 83 34)) (s_icmp_ge (off := 52) (by decide +kernel) (by decide)) <|
  allq qX12_countSymbols 34 (.inl (a_al 0 35)) (s_aload_n (q := 0) (i := 0) rfl (by decide +kernel)) <|
  allq qX12_countSymbols 35 (.inl (a_get 11 34 38)) (gX12 (f0 := 34) (by decide) kw_1219 (by decide +kernel)) <|
  allq qX12_countSymbols 38 (.inl (a_ic 8001 41)) (s_sipush (n := 8001) (v := 8001) rfl (by decide +kernel)) <|
  allq qX12_countSymbols 41 (.inl (a_il 1 42)) (s_iload_n (q := 1) (i := 1) rfl (by decide +kernel)) <|
  allq qX12_countSymbols 42 (.inl (o_imul 43)) (s_imul (by decide +kernel)) <|
  allq qX12_countSymbols 43 (.inl (a_il 3 44)) (s_iload_n (q := 3) (i := 3) rfl (by decide +kernel)) <|
  allq qX12_countSymbols 44 (.inl (o_iadd 45)) (s_iadd (by decide +kernel)) <|
  allq qX12_countSymbols 45 (.inl (a_iald 46)) (s_iald (by decide +kernel)) <|
  allq qX12_countSymbols 46 (.inl (a_is 4 48)) (s_istore (i := 4) (by decide +kernel) (by decide)) <|
  allq qX12_countSymbols 48 (.inl (a_al 0 49)) (s_aload_n (q := 0) (i := 0) rfl (by decide +kernel)) <|
  allq qX12_countSymbols 49 (.inl (a_get 11 48 52)) (gX12 (f0 := 48) (by decide) kw_1233 (by decide +kernel)) <|
  allq qX12_countSymbols 52 (.inl (a_il 4 54)) (s_iload (i := 4) (by decide +kernel)) <|
  allq qX12_countSymbols 54 (.inl (a_iald 55)) (s_iald (by decide +kernel)) <|
  allq qX12_countSymbols 55 (.inl (o_if_ne 64 58)) (s_if_ne (off := 9) (by decide +kernel) (by decide)) <|
  allq qX12_countSymbols 58 (.inl (a_il 2 59)) (s_iload_n (q := 2) (i := 2) rfl (by decide +kernel)) <|
  allq qX12_countSymbols 59 (.inl (a_ic 1 60)) (s_iconst (n := 1) (v := 1) rfl (by decide +kernel)) <|
  allq qX12_countSymbols 60 (.inl (o_iadd 61)) (s_iadd (by decide +kernel)) <|
  allq qX12_countSymbols 61 (.inl (a_go 65)) (s_goto (off := 4) (by decide +kernel) (by decide)) <|
  allq qX12_countSymbols 64 (.inl (a_il 2 65)) (s_iload_n (q := 2) (i := 2) rfl (by decide +kernel)) <|
  allq qX12_countSymbols 65 (.inl (a_is 2 66)) (s_istore_n (q := 2) (i := 2) rfl (by decide +kernel) (by decide)) <|
  alln
set_option maxRecDepth 20000 in
theorem kX12_countSymbols_1 : ∀ q ∈ tX12_countSymbols_1, qX12_countSymbols q :=
  allq qX12_countSymbols 66 (.inl (a_al 0 67)) (s_aload_n (q := 0) (i := 0) rfl (by decide +kernel)) <|
  allq qX12_countSymbols 67 (.inl (a_get 11 48 70)) (gX12 (f0 := 48) (by decide) kw_1233 (by decide +kernel)) <|
  allq qX12_countSymbols 70 (.inl (a_il 4 72)) (s_iload (i := 4) (by decide +kernel)) <|
  allq qX12_countSymbols 72 (.inl (a_dup2 73)) (s_dup2 (by decide +kernel)) <|
  allq qX12_countSymbols 73 (.inl (a_iald 74)) (s_iald (by decide +kernel)) <|
  allq qX12_countSymbols 74 (.inl (a_ic 1 75)) (s_iconst (n := 1) (v := 1) rfl (by decide +kernel)) <|
  allq qX12_countSymbols 75 (.inl (o_iadd 76)) (s_iadd (by decide +kernel)) <|
  allq qX12_countSymbols 76 (.inl (a_iast 77)) (s_iast (by decide +kernel)) <|
  allq qX12_countSymbols 77 (.inl (a_inc 3 1 80)) (s_iinc (i := 3) (n := 1) (n2 := 1) rfl (by decide +kernel) (by decide)) <|
  allq qX12_countSymbols 80 (.inl (a_go 26)) (s_goto (off := (-54)) (by decide +kernel) (by decide)) <|
  allq qX12_countSymbols 83 (.inl (a_il 2 84)) (s_iload_n (q := 2) (i := 2) rfl (by decide +kernel)) <|
  allq qX12_countSymbols 84 (.inr (.inr 1)) (Or.inr (Or.inl ⟨rfl, rfl, by decide +kernel⟩)) <|
  alln
theorem kX12_countSymbols : ∀ q ∈ tX12_countSymbols, qX12_countSymbols q := alla kX12_countSymbols_0 kX12_countSymbols_1
abbrev qX12_shareCost : Nat × aI → Prop := OkQ RX12 "shareCost" cX12_shareCost 3 (some .int)
set_option maxRecDepth 20000 in
theorem kX12_shareCost_0 : ∀ q ∈ tX12_shareCost_0, qX12_shareCost q :=
  allq qX12_shareCost 0 (.inl (a_al 0 1)) (s_aload_n (q := 0) (i := 0) rfl (by decide +kernel)) <|
  allq qX12_shareCost 1 (.inl (a_al 0 2)) (s_aload_n (q := 0) (i := 0) rfl (by decide +kernel)) <|
  allq qX12_shareCost 2 (.inl (a_get 11 31 5)) (gX12 (f0 := 31) (by decide) kw_1216 (by decide +kernel)) <|
  allq qX12_shareCost 5 (.inl (a_il 2 6)) (s_iload_n (q := 2) (i := 2) rfl (by decide +kernel)) <|
  allq qX12_shareCost 6 (.inr (.inl (169, 3, 12))) (okV (y := yX12_divide) kw_1520 kw_118 rfl rfl (by decide +kernel) kw_1519 kw_66 kw_1517) <|
  allq qX12_shareCost 9 (.inl (a_al 0 10)) (s_aload_n (q := 0) (i := 0) rfl (by decide +kernel)) <|
  allq qX12_shareCost 10 (.inr (.inl (149, 1, 12))) (okV (y := yX12_begin) kw_1511 kw_118 rfl rfl (by decide +kernel) kw_1510 kw_64 kw_1508) <|
  allq qX12_shareCost 13 (.inl (a_al 0 14)) (s_aload_n (q := 0) (i := 0) rfl (by decide +kernel)) <|
  allq qX12_shareCost 14 (.inl (a_al 0 15)) (s_aload_n (q := 0) (i := 0) rfl (by decide +kernel)) <|
  allq qX12_shareCost 15 (.inl (a_get 11 45 18)) (gX12 (f0 := 45) (by decide) kw_1230 (by decide +kernel)) <|
  allq qX12_shareCost 18 (.inl (a_ic 0 19)) (s_iconst (n := 0) (v := 0) rfl (by decide +kernel)) <|
  allq qX12_shareCost 19 (.inl (a_il 2 20)) (s_iload_n (q := 2) (i := 2) rfl (by decide +kernel)) <|
  allq qX12_shareCost 20 (.inr (.inl (170, 4, 12))) (okV (y := yX12_putShare) kw_1527 kw_118 rfl rfl (by decide +kernel) kw_1526 kw_67 kw_1524) <|
  allq qX12_shareCost 23 (.inl (a_al 0 24)) (s_aload_n (q := 0) (i := 0) rfl (by decide +kernel)) <|
  allq qX12_shareCost 24 (.inl (a_get 11 38 27)) (gX12 (f0 := 38) (by decide) kw_1223 (by decide +kernel)) <|
  allq qX12_shareCost 27 (.inl (a_al 0 28)) (s_aload_n (q := 0) (i := 0) rfl (by decide +kernel)) <|
  allq qX12_shareCost 28 (.inl (a_il 1 29)) (s_iload_n (q := 1) (i := 1) rfl (by decide +kernel)) <|
  allq qX12_shareCost 29 (.inl (a_al 0 30)) (s_aload_n (q := 0) (i := 0) rfl (by decide +kernel)) <|
  allq qX12_shareCost 30 (.inl (a_get 11 45 33)) (gX12 (f0 := 45) (by decide) kw_1230 (by decide +kernel)) <|
  allq qX12_shareCost 33 (.inl (a_ic 0 34)) (s_iconst (n := 0) (v := 0) rfl (by decide +kernel)) <|
  allq qX12_shareCost 34 (.inl (a_il 2 35)) (s_iload_n (q := 2) (i := 2) rfl (by decide +kernel)) <|
  allq qX12_shareCost 35 (.inr (.inl (168, 5, 12))) (okV (y := yX12_rowCost) kw_1608 kw_118 rfl rfl (by decide +kernel) kw_1607 kw_85 kw_1605) <|
  allq qX12_shareCost 38 (.inl (o_iadd 39)) (s_iadd (by decide +kernel)) <|
  allq qX12_shareCost 39 (.inr (.inr 1)) (Or.inr (Or.inl ⟨rfl, rfl, by decide +kernel⟩)) <|
  alln
theorem kX12_shareCost : ∀ q ∈ tX12_shareCost, qX12_shareCost q := kX12_shareCost_0
abbrev qX12_run : Nat × aI → Prop := OkQ RX12 "run" cX12_run 5 (some .int)
set_option maxRecDepth 20000 in
theorem kX12_run_0 : ∀ q ∈ tX12_run_0, qX12_run q :=
  allq qX12_run 0 (.inl (a_ic 0 1)) (s_iconst (n := 0) (v := 0) rfl (by decide +kernel)) <|
  allq qX12_run 1 (.inl (a_is 4 3)) (s_istore (i := 4) (by decide +kernel) (by decide)) <|
  allq qX12_run 3 (.inl (a_il 4 5)) (s_iload (i := 4) (by decide +kernel)) <|
  allq qX12_run 5 (.inl (a_il 2 6)) (s_iload_n (q := 2) (i := 2) rfl (by decide +kernel)) <|
  allq qX12_run 6 (.inl (o_icmp_ge 25 9)) (s_icmp_ge (off := 19) (by decide +kernel) (by decide)) <|
  allq qX12_run 9 (.inl (a_al 0 10)) (s_aload_n (q := 0) (i := 0) rfl (by decide +kernel)) <|
  allq qX12_run 10 (.inl (a_get 11 45 13)) (gX12 (f0 := 45) (by decide) kw_1230 (by decide +kernel)) <|
  allq qX12_run 13 (.inl (a_il 1 14)) (s_iload_n (q := 1) (i := 1) rfl (by decide +kernel)) <|
  allq qX12_run 14 (.inl (a_il 4 16)) (s_iload (i := 4) (by decide +kernel)) <|
  allq qX12_run 16 (.inl (o_iadd 17)) (s_iadd (by decide +kernel)) <|
  allq qX12_run 17 (.inl (a_il 3 18)) (s_iload_n (q := 3) (i := 3) rfl (by decide +kernel)) <|
  allq qX12_run 18 (.inl (a_iast 19)) (s_iast (by decide +kernel)) <|
  allq qX12_run 19 (.inl (a_inc 4 1 22)) (s_iinc (i := 4) (n := 1) (n2 := 1) rfl (by decide +kernel) (by decide)) <|
  allq qX12_run 22 (.inl (a_go 3)) (s_goto (off := (-19)) (by decide +kernel) (by decide)) <|
  allq qX12_run 25 (.inl (a_il 1 26)) (s_iload_n (q := 1) (i := 1) rfl (by decide +kernel)) <|
  allq qX12_run 26 (.inl (a_il 2 27)) (s_iload_n (q := 2) (i := 2) rfl (by decide +kernel)) <|
  allq qX12_run 27 (.inl (o_iadd 28)) (s_iadd (by decide +kernel)) <|
  allq qX12_run 28 (.inr (.inr 1)) (Or.inr (Or.inl ⟨rfl, rfl, by decide +kernel⟩)) <|
  alln
theorem kX12_run : ∀ q ∈ tX12_run, qX12_run q := kX12_run_0
abbrev qX12_know : Nat × aI → Prop := OkQ RX12 "know" cX12_know 3 (some .int)
set_option maxRecDepth 20000 in
theorem kX12_know_0 : ∀ q ∈ tX12_know_0, qX12_know q :=
  allq qX12_know 0 (.inl (a_al 0 1)) (s_aload_n (q := 0) (i := 0) rfl (by decide +kernel)) <|
  allq qX12_know 1 (.inl (a_ic 0 2)) (s_iconst (n := 0) (v := 0) rfl (by decide +kernel)) <|
  allq qX12_know 2 (.inl (a_ic 64 4)) (s_bipush (n := 64) (v := 64) rfl (by decide +kernel)) <|
  allq qX12_know 4 (.inl (a_ic 0 5)) (s_iconst (n := 0) (v := 0) rfl (by decide +kernel)) <|
  allq qX12_know 5 (.inr (.inl (174, 4, 12))) (okV (y := yX12_run) kw_1604 kw_118 rfl rfl (by decide +kernel) kw_1603 kw_84 kw_1601) <|
  allq qX12_know 8 (.inl (a_is 2 9)) (s_istore_n (q := 2) (i := 2) rfl (by decide +kernel) (by decide)) <|
  allq qX12_know 9 (.inl (a_il 1 10)) (s_iload_n (q := 1) (i := 1) rfl (by decide +kernel)) <|
  allq qX12_know 10 (.inl (o_if_ne 76 13)) (s_if_ne (off := 66) (by decide +kernel) (by decide)) <|
  allq qX12_know 13 (.inl (a_al 0 14)) (s_aload_n (q := 0) (i := 0) rfl (by decide +kernel)) <|
  allq qX12_know 14 (.inl (a_al 0 15)) (s_aload_n (q := 0) (i := 0) rfl (by decide +kernel)) <|
  allq qX12_know 15 (.inl (a_al 0 16)) (s_aload_n (q := 0) (i := 0) rfl (by decide +kernel)) <|
  allq qX12_know 16 (.inl (a_al 0 17)) (s_aload_n (q := 0) (i := 0) rfl (by decide +kernel)) <|
  allq qX12_know 17 (.inl (a_ic 0 18)) (s_iconst (n := 0) (v := 0) rfl (by decide +kernel)) <|
  allq qX12_know 18 (.inl (a_ic 1 19)) (s_iconst (n := 1) (v := 1) rfl (by decide +kernel)) <|
  allq qX12_know 19 (.inl (a_ic 4 20)) (s_iconst (n := 4) (v := 4) rfl (by decide +kernel)) <|
  allq qX12_know 20 (.inr (.inl (174, 4, 12))) (okV (y := yX12_run) kw_1604 kw_118 rfl rfl (by decide +kernel) kw_1603 kw_84 kw_1601) <|
  allq qX12_know 23 (.inl (a_ic 1 24)) (s_iconst (n := 1) (v := 1) rfl (by decide +kernel)) <|
  allq qX12_know 24 (.inl (a_ic 3 25)) (s_iconst (n := 3) (v := 3) rfl (by decide +kernel)) <|
  allq qX12_know 25 (.inr (.inl (174, 4, 12))) (okV (y := yX12_run) kw_1604 kw_118 rfl rfl (by decide +kernel) kw_1603 kw_84 kw_1601) <|
  allq qX12_know 28 (.inl (a_ic 11 30)) (s_bipush (n := 11) (v := 11) rfl (by decide +kernel)) <|
  allq qX12_know 30 (.inl (a_ic 2 31)) (s_iconst (n := 2) (v := 2) rfl (by decide +kernel)) <|
  allq qX12_know 31 (.inr (.inl (174, 4, 12))) (okV (y := yX12_run) kw_1604 kw_118 rfl rfl (by decide +kernel) kw_1603 kw_84 kw_1601) <|
  allq qX12_know 34 (.inl (a_ic 3 35)) (s_iconst (n := 3) (v := 3) rfl (by decide +kernel)) <|
  allq qX12_know 35 (.inl (a_ic 1 36)) (s_iconst (n := 1) (v := 1) rfl (by decide +kernel)) <|
  allq qX12_know 36 (.inr (.inl (174, 4, 12))) (okV (y := yX12_run) kw_1604 kw_118 rfl rfl (by decide +kernel) kw_1603 kw_84 kw_1601) <|
  allq qX12_know 39 (.inl (a_is 2 40)) (s_istore_n (q := 2) (i := 2) rfl (by decide +kernel) (by decide)) <|
  allq qX12_know 40 (.inl (a_al 0 41)) (s_aload_n (q := 0) (i := 0) rfl (by decide +kernel)) <|
  allq qX12_know 41 (.inl (a_al 0 42)) (s_aload_n (q := 0) (i := 0) rfl (by decide +kernel)) <|
  allq qX12_know 42 (.inl (a_al 0 43)) (s_aload_n (q := 0) (i := 0) rfl (by decide +kernel)) <|
  allq qX12_know 43 (.inl (a_al 0 44)) (s_aload_n (q := 0) (i := 0) rfl (by decide +kernel)) <|
  allq qX12_know 44 (.inl (a_al 0 45)) (s_aload_n (q := 0) (i := 0) rfl (by decide +kernel)) <|
  allq qX12_know 45 (.inl (a_il 2 46)) (s_iload_n (q := 2) (i := 2) rfl (by decide +kernel)) <|
  allq qX12_know 46 (.inl (a_ic 9 48)) (s_bipush (n := 9) (v := 9) rfl (by decide +kernel)) <|
  allq qX12_know 48 (.inl (a_ic 2 49)) (s_iconst (n := 2) (v := 2) rfl (by decide +kernel)) <|
  allq qX12_know 49 (.inr (.inl (174, 4, 12))) (okV (y := yX12_run) kw_1604 kw_118 rfl rfl (by decide +kernel) kw_1603 kw_84 kw_1601) <|
  allq qX12_know 52 (.inl (a_ic 1 53)) (s_iconst (n := 1) (v := 1) rfl (by decide +kernel)) <|
  allq qX12_know 53 (.inl (a_ic 3 54)) (s_iconst (n := 3) (v := 3) rfl (by decide +kernel)) <|
  allq qX12_know 54 (.inr (.inl (174, 4, 12))) (okV (y := yX12_run) kw_1604 kw_118 rfl rfl (by decide +kernel) kw_1603 kw_84 kw_1601) <|
  allq qX12_know 57 (.inl (a_ic 1 58)) (s_iconst (n := 1) (v := 1) rfl (by decide +kernel)) <|
  allq qX12_know 58 (.inl (a_ic 2 59)) (s_iconst (n := 2) (v := 2) rfl (by decide +kernel)) <|
  alln
set_option maxRecDepth 20000 in
theorem kX12_know_1 : ∀ q ∈ tX12_know_1, qX12_know q :=
  allq qX12_know 59 (.inr (.inl (174, 4, 12))) (okV (y := yX12_run) kw_1604 kw_118 rfl rfl (by decide +kernel) kw_1603 kw_84 kw_1601) <|
  allq qX12_know 62 (.inl (a_ic 5 63)) (s_iconst (n := 5) (v := 5) rfl (by decide +kernel)) <|
  allq qX12_know 63 (.inl (a_ic 1 64)) (s_iconst (n := 1) (v := 1) rfl (by decide +kernel)) <|
  allq qX12_know 64 (.inr (.inl (174, 4, 12))) (okV (y := yX12_run) kw_1604 kw_118 rfl rfl (by decide +kernel) kw_1603 kw_84 kw_1601) <|
  allq qX12_know 67 (.inl (a_ic 4 68)) (s_iconst (n := 4) (v := 4) rfl (by decide +kernel)) <|
  allq qX12_know 68 (.inl (a_ic (-1) 69)) (s_iconst (n := (-1)) (v := (-1)) rfl (by decide +kernel)) <|
  allq qX12_know 69 (.inr (.inl (174, 4, 12))) (okV (y := yX12_run) kw_1604 kw_118 rfl rfl (by decide +kernel) kw_1603 kw_84 kw_1601) <|
  allq qX12_know 72 (.inl (a_is 2 73)) (s_istore_n (q := 2) (i := 2) rfl (by decide +kernel) (by decide)) <|
  allq qX12_know 73 (.inl (a_ic 6 75)) (s_bipush (n := 6) (v := 6) rfl (by decide +kernel)) <|
  allq qX12_know 75 (.inr (.inr 1)) (Or.inr (Or.inl ⟨rfl, rfl, by decide +kernel⟩)) <|
  allq qX12_know 76 (.inl (a_il 1 77)) (s_iload_n (q := 1) (i := 1) rfl (by decide +kernel)) <|
  allq qX12_know 77 (.inl (a_ic 1 78)) (s_iconst (n := 1) (v := 1) rfl (by decide +kernel)) <|
  allq qX12_know 78 (.inl (o_icmp_ne 111 81)) (s_icmp_ne (off := 33) (by decide +kernel) (by decide)) <|
  allq qX12_know 81 (.inl (a_al 0 82)) (s_aload_n (q := 0) (i := 0) rfl (by decide +kernel)) <|
  allq qX12_know 82 (.inl (a_al 0 83)) (s_aload_n (q := 0) (i := 0) rfl (by decide +kernel)) <|
  allq qX12_know 83 (.inl (a_al 0 84)) (s_aload_n (q := 0) (i := 0) rfl (by decide +kernel)) <|
  allq qX12_know 84 (.inl (a_al 0 85)) (s_aload_n (q := 0) (i := 0) rfl (by decide +kernel)) <|
  allq qX12_know 85 (.inl (a_ic 0 86)) (s_iconst (n := 0) (v := 0) rfl (by decide +kernel)) <|
  allq qX12_know 86 (.inl (a_ic 6 88)) (s_bipush (n := 6) (v := 6) rfl (by decide +kernel)) <|
  allq qX12_know 88 (.inl (a_ic 1 89)) (s_iconst (n := 1) (v := 1) rfl (by decide +kernel)) <|
  allq qX12_know 89 (.inr (.inl (174, 4, 12))) (okV (y := yX12_run) kw_1604 kw_118 rfl rfl (by decide +kernel) kw_1603 kw_84 kw_1601) <|
  allq qX12_know 92 (.inl (a_ic 3 93)) (s_iconst (n := 3) (v := 3) rfl (by decide +kernel)) <|
  allq qX12_know 93 (.inl (a_ic 2 94)) (s_iconst (n := 2) (v := 2) rfl (by decide +kernel)) <|
  allq qX12_know 94 (.inr (.inl (174, 4, 12))) (okV (y := yX12_run) kw_1604 kw_118 rfl rfl (by decide +kernel) kw_1603 kw_84 kw_1601) <|
  allq qX12_know 97 (.inl (a_ic 15 99)) (s_bipush (n := 15) (v := 15) rfl (by decide +kernel)) <|
  allq qX12_know 99 (.inl (a_ic 1 100)) (s_iconst (n := 1) (v := 1) rfl (by decide +kernel)) <|
  allq qX12_know 100 (.inr (.inl (174, 4, 12))) (okV (y := yX12_run) kw_1604 kw_118 rfl rfl (by decide +kernel) kw_1603 kw_84 kw_1601) <|
  allq qX12_know 103 (.inl (a_ic 5 104)) (s_iconst (n := 5) (v := 5) rfl (by decide +kernel)) <|
  allq qX12_know 104 (.inl (a_ic (-1) 105)) (s_iconst (n := (-1)) (v := (-1)) rfl (by decide +kernel)) <|
  allq qX12_know 105 (.inr (.inl (174, 4, 12))) (okV (y := yX12_run) kw_1604 kw_118 rfl rfl (by decide +kernel) kw_1603 kw_84 kw_1601) <|
  allq qX12_know 108 (.inl (a_is 2 109)) (s_istore_n (q := 2) (i := 2) rfl (by decide +kernel) (by decide)) <|
  allq qX12_know 109 (.inl (a_ic 5 110)) (s_iconst (n := 5) (v := 5) rfl (by decide +kernel)) <|
  allq qX12_know 110 (.inr (.inr 1)) (Or.inr (Or.inl ⟨rfl, rfl, by decide +kernel⟩)) <|
  allq qX12_know 111 (.inl (a_al 0 112)) (s_aload_n (q := 0) (i := 0) rfl (by decide +kernel)) <|
  allq qX12_know 112 (.inl (a_al 0 113)) (s_aload_n (q := 0) (i := 0) rfl (by decide +kernel)) <|
  allq qX12_know 113 (.inl (a_al 0 114)) (s_aload_n (q := 0) (i := 0) rfl (by decide +kernel)) <|
  allq qX12_know 114 (.inl (a_al 0 115)) (s_aload_n (q := 0) (i := 0) rfl (by decide +kernel)) <|
  allq qX12_know 115 (.inl (a_al 0 116)) (s_aload_n (q := 0) (i := 0) rfl (by decide +kernel)) <|
  allq qX12_know 116 (.inl (a_al 0 117)) (s_aload_n (q := 0) (i := 0) rfl (by decide +kernel)) <|
  allq qX12_know 117 (.inl (a_ic 0 118)) (s_iconst (n := 0) (v := 0) rfl (by decide +kernel)) <|
  alln
set_option maxRecDepth 20000 in
theorem kX12_know_2 : ∀ q ∈ tX12_know_2, qX12_know q :=
  allq qX12_know 118 (.inl (a_ic 1 119)) (s_iconst (n := 1) (v := 1) rfl (by decide +kernel)) <|
  allq qX12_know 119 (.inl (a_ic 1 120)) (s_iconst (n := 1) (v := 1) rfl (by decide +kernel)) <|
  allq qX12_know 120 (.inr (.inl (174, 4, 12))) (okV (y := yX12_run) kw_1604 kw_118 rfl rfl (by decide +kernel) kw_1603 kw_84 kw_1601) <|
  allq qX12_know 123 (.inl (a_ic 1 124)) (s_iconst (n := 1) (v := 1) rfl (by decide +kernel)) <|
  allq qX12_know 124 (.inl (a_ic 4 125)) (s_iconst (n := 4) (v := 4) rfl (by decide +kernel)) <|
  allq qX12_know 125 (.inr (.inl (174, 4, 12))) (okV (y := yX12_run) kw_1604 kw_118 rfl rfl (by decide +kernel) kw_1603 kw_84 kw_1601) <|
  allq qX12_know 128 (.inl (a_ic 1 129)) (s_iconst (n := 1) (v := 1) rfl (by decide +kernel)) <|
  allq qX12_know 129 (.inl (a_ic 3 130)) (s_iconst (n := 3) (v := 3) rfl (by decide +kernel)) <|
  allq qX12_know 130 (.inr (.inl (174, 4, 12))) (okV (y := yX12_run) kw_1604 kw_118 rfl rfl (by decide +kernel) kw_1603 kw_84 kw_1601) <|
  allq qX12_know 133 (.inl (a_ic 6 135)) (s_bipush (n := 6) (v := 6) rfl (by decide +kernel)) <|
  allq qX12_know 135 (.inl (a_ic 2 136)) (s_iconst (n := 2) (v := 2) rfl (by decide +kernel)) <|
  allq qX12_know 136 (.inr (.inl (174, 4, 12))) (okV (y := yX12_run) kw_1604 kw_118 rfl rfl (by decide +kernel) kw_1603 kw_84 kw_1601) <|
  allq qX12_know 139 (.inl (a_ic 37 141)) (s_bipush (n := 37) (v := 37) rfl (by decide +kernel)) <|
  allq qX12_know 141 (.inl (a_ic 1 142)) (s_iconst (n := 1) (v := 1) rfl (by decide +kernel)) <|
  allq qX12_know 142 (.inr (.inl (174, 4, 12))) (okV (y := yX12_run) kw_1604 kw_118 rfl rfl (by decide +kernel) kw_1603 kw_84 kw_1601) <|
  allq qX12_know 145 (.inl (a_ic 7 147)) (s_bipush (n := 7) (v := 7) rfl (by decide +kernel)) <|
  allq qX12_know 147 (.inl (a_ic (-1) 148)) (s_iconst (n := (-1)) (v := (-1)) rfl (by decide +kernel)) <|
  allq qX12_know 148 (.inr (.inl (174, 4, 12))) (okV (y := yX12_run) kw_1604 kw_118 rfl rfl (by decide +kernel) kw_1603 kw_84 kw_1601) <|
  allq qX12_know 151 (.inl (a_is 2 152)) (s_istore_n (q := 2) (i := 2) rfl (by decide +kernel) (by decide)) <|
  allq qX12_know 152 (.inl (a_ic 6 154)) (s_bipush (n := 6) (v := 6) rfl (by decide +kernel)) <|
  allq qX12_know 154 (.inr (.inr 1)) (Or.inr (Or.inl ⟨rfl, rfl, by decide +kernel⟩)) <|
  alln
theorem kX12_know : ∀ q ∈ tX12_know, qX12_know q := alla kX12_know_0 (alla kX12_know_1 kX12_know_2)
abbrev qX12_leastKnot : Nat × aI → Prop := OkQ RX12 "leastKnot" cX12_leastKnot 4 (some .int)
set_option maxRecDepth 20000 in
theorem kX12_leastKnot_0 : ∀ q ∈ tX12_leastKnot_0, qX12_leastKnot q :=
  allq qX12_leastKnot 0 (.inl (a_ic (-1) 1)) (s_iconst (n := (-1)) (v := (-1)) rfl (by decide +kernel)) <|
  allq qX12_leastKnot 1 (.inl (a_is 2 2)) (s_istore_n (q := 2) (i := 2) rfl (by decide +kernel) (by decide)) <|
  allq qX12_leastKnot 2 (.inl (a_ic 0 3)) (s_iconst (n := 0) (v := 0) rfl (by decide +kernel)) <|
  allq qX12_leastKnot 3 (.inl (a_is 3 4)) (s_istore_n (q := 3) (i := 3) rfl (by decide +kernel) (by decide)) <|
  allq qX12_leastKnot 4 (.inl (a_il 3 5)) (s_iload_n (q := 3) (i := 3) rfl (by decide +kernel)) <|
  allq qX12_leastKnot 5 (.inl (a_al 0 6)) (s_aload_n (q := 0) (i := 0) rfl (by decide +kernel)) <|
  allq qX12_leastKnot 6 (.inl (a_get 11 52 9)) (gX12 (f0 := 52) (by decide) kw_1237 (by decide +kernel)) <|
  allq qX12_leastKnot 9 (.inl (o_icmp_ge 62 12)) (s_icmp_ge (off := 53) (by decide +kernel) (by decide)) <|
  allq qX12_leastKnot 12 (.inl (a_il 3 13)) (s_iload_n (q := 3) (i := 3) rfl (by decide +kernel)) <|
  allq qX12_leastKnot 13 (.inl (a_il 1 14)) (s_iload_n (q := 1) (i := 1) rfl (by decide +kernel)) <|
  allq qX12_leastKnot 14 (.inl (o_icmp_eq 56 17)) (s_icmp_eq (off := 42) (by decide +kernel) (by decide)) <|
  allq qX12_leastKnot 17 (.inl (a_al 0 18)) (s_aload_n (q := 0) (i := 0) rfl (by decide +kernel)) <|
  allq qX12_leastKnot 18 (.inl (a_get 11 50 21)) (gX12 (f0 := 50) (by decide) kw_1235 (by decide +kernel)) <|
  allq qX12_leastKnot 21 (.inl (a_il 3 22)) (s_iload_n (q := 3) (i := 3) rfl (by decide +kernel)) <|
  allq qX12_leastKnot 22 (.inl (a_iald 23)) (s_iald (by decide +kernel)) <|
  allq qX12_leastKnot 23 (.inl (o_if_le 56 26)) (s_if_le (off := 33) (by decide +kernel) (by decide)) <|
  allq qX12_leastKnot 26 (.inl (a_al 0 27)) (s_aload_n (q := 0) (i := 0) rfl (by decide +kernel)) <|
  allq qX12_leastKnot 27 (.inl (a_get 11 51 30)) (gX12 (f0 := 51) (by decide) kw_1236 (by decide +kernel)) <|
  allq qX12_leastKnot 30 (.inl (a_il 3 31)) (s_iload_n (q := 3) (i := 3) rfl (by decide +kernel)) <|
  allq qX12_leastKnot 31 (.inl (a_iald 32)) (s_iald (by decide +kernel)) <|
  allq qX12_leastKnot 32 (.inl (o_if_ge 56 35)) (s_if_ge (off := 24) (by decide +kernel) (by decide)) <|
  allq qX12_leastKnot 35 (.inl (a_il 2 36)) (s_iload_n (q := 2) (i := 2) rfl (by decide +kernel)) <|
  allq qX12_leastKnot 36 (.inl (o_if_lt 54 39)) (s_if_lt (off := 18) (by decide +kernel) (by decide)) <|
  allq qX12_leastKnot 39 (.inl (a_al 0 40)) (s_aload_n (q := 0) (i := 0) rfl (by decide +kernel)) <|
  allq qX12_leastKnot 40 (.inl (a_get 11 50 43)) (gX12 (f0 := 50) (by decide) kw_1235 (by decide +kernel)) <|
  allq qX12_leastKnot 43 (.inl (a_il 3 44)) (s_iload_n (q := 3) (i := 3) rfl (by decide +kernel)) <|
  allq qX12_leastKnot 44 (.inl (a_iald 45)) (s_iald (by decide +kernel)) <|
  allq qX12_leastKnot 45 (.inl (a_al 0 46)) (s_aload_n (q := 0) (i := 0) rfl (by decide +kernel)) <|
  allq qX12_leastKnot 46 (.inl (a_get 11 50 49)) (gX12 (f0 := 50) (by decide) kw_1235 (by decide +kernel)) <|
  allq qX12_leastKnot 49 (.inl (a_il 2 50)) (s_iload_n (q := 2) (i := 2) rfl (by decide +kernel)) <|
  allq qX12_leastKnot 50 (.inl (a_iald 51)) (s_iald (by decide +kernel)) <|
  allq qX12_leastKnot 51 (.inl (o_icmp_ge 56 54)) (s_icmp_ge (off := 5) (by decide +kernel) (by decide)) <|
  allq qX12_leastKnot 54 (.inl (a_il 3 55)) (s_iload_n (q := 3) (i := 3) rfl (by decide +kernel)) <|
  allq qX12_leastKnot 55 (.inl (a_is 2 56)) (s_istore_n (q := 2) (i := 2) rfl (by decide +kernel) (by decide)) <|
  allq qX12_leastKnot 56 (.inl (a_inc 3 1 59)) (s_iinc (i := 3) (n := 1) (n2 := 1) rfl (by decide +kernel) (by decide)) <|
  allq qX12_leastKnot 59 (.inl (a_go 4)) (s_goto (off := (-55)) (by decide +kernel) (by decide)) <|
  allq qX12_leastKnot 62 (.inl (a_il 2 63)) (s_iload_n (q := 2) (i := 2) rfl (by decide +kernel)) <|
  allq qX12_leastKnot 63 (.inr (.inr 1)) (Or.inr (Or.inl ⟨rfl, rfl, by decide +kernel⟩)) <|
  alln
theorem kX12_leastKnot : ∀ q ∈ tX12_leastKnot, qX12_leastKnot q := kX12_leastKnot_0
abbrev qX12_tree : Nat × aI → Prop := OkQ RX12 "tree" cX12_tree 6 (some .int)
set_option maxRecDepth 20000 in
theorem kX12_tree_0 : ∀ q ∈ tX12_tree_0, qX12_tree q :=
  allq qX12_tree 0 (.inl (a_al 0 1)) (s_aload_n (q := 0) (i := 0) rfl (by decide +kernel)) <|
  allq qX12_tree 1 (.inl (a_ic 256 4)) (s_sipush (n := 256) (v := 256) rfl (by decide +kernel)) <|
  allq qX12_tree 4 (.inl (a_put 11 52 .int 7)) (pX12 (f0 := 52) (by decide) rfl rfl tOk kw_1237 (by decide +kernel)) <|
  allq qX12_tree 7 (.inl (a_ic 0 8)) (s_iconst (n := 0) (v := 0) rfl (by decide +kernel)) <|
  allq qX12_tree 8 (.inl (a_is 1 9)) (s_istore_n (q := 1) (i := 1) rfl (by decide +kernel) (by decide)) <|
  allq qX12_tree 9 (.inl (a_il 1 10)) (s_iload_n (q := 1) (i := 1) rfl (by decide +kernel)) <|
  allq qX12_tree 10 (.inl (a_ic 256 13)) (s_sipush (n := 256) (v := 256) rfl (by decide +kernel)) <|
  allq qX12_tree 13 (.inl (o_icmp_ge 41 16)) (s_icmp_ge (off := 28) (by decide +kernel) (by decide)) <|
  allq qX12_tree 16 (.inl (a_al 0 17)) (s_aload_n (q := 0) (i := 0) rfl (by decide +kernel)) <|
  allq qX12_tree 17 (.inl (a_get 11 50 20)) (gX12 (f0 := 50) (by decide) kw_1235 (by decide +kernel)) <|
  allq qX12_tree 20 (.inl (a_il 1 21)) (s_iload_n (q := 1) (i := 1) rfl (by decide +kernel)) <|
  allq qX12_tree 21 (.inl (a_al 0 22)) (s_aload_n (q := 0) (i := 0) rfl (by decide +kernel)) <|
  allq qX12_tree 22 (.inl (a_get 11 49 25)) (gX12 (f0 := 49) (by decide) kw_1234 (by decide +kernel)) <|
  allq qX12_tree 25 (.inl (a_il 1 26)) (s_iload_n (q := 1) (i := 1) rfl (by decide +kernel)) <|
  allq qX12_tree 26 (.inl (a_iald 27)) (s_iald (by decide +kernel)) <|
  allq qX12_tree 27 (.inl (a_iast 28)) (s_iast (by decide +kernel)) <|
  allq qX12_tree 28 (.inl (a_al 0 29)) (s_aload_n (q := 0) (i := 0) rfl (by decide +kernel)) <|
  allq qX12_tree 29 (.inl (a_get 11 51 32)) (gX12 (f0 := 51) (by decide) kw_1236 (by decide +kernel)) <|
  allq qX12_tree 32 (.inl (a_il 1 33)) (s_iload_n (q := 1) (i := 1) rfl (by decide +kernel)) <|
  allq qX12_tree 33 (.inl (a_ic (-1) 34)) (s_iconst (n := (-1)) (v := (-1)) rfl (by decide +kernel)) <|
  allq qX12_tree 34 (.inl (a_iast 35)) (s_iast (by decide +kernel)) <|
  allq qX12_tree 35 (.inl (a_inc 1 1 38)) (s_iinc (i := 1) (n := 1) (n2 := 1) rfl (by decide +kernel) (by decide)) <|
  allq qX12_tree 38 (.inl (a_go 9)) (s_goto (off := (-29)) (by decide +kernel) (by decide)) <|
  allq qX12_tree 41 (.inl (a_al 0 42)) (s_aload_n (q := 0) (i := 0) rfl (by decide +kernel)) <|
  allq qX12_tree 42 (.inl (a_ic (-1) 43)) (s_iconst (n := (-1)) (v := (-1)) rfl (by decide +kernel)) <|
  allq qX12_tree 43 (.inr (.inl (176, 2, 12))) (okV (y := yX12_leastKnot) kw_1495 kw_118 rfl rfl (by decide +kernel) kw_1494 kw_60 kw_1492) <|
  allq qX12_tree 46 (.inl (a_is 1 47)) (s_istore_n (q := 1) (i := 1) rfl (by decide +kernel) (by decide)) <|
  allq qX12_tree 47 (.inl (a_al 0 48)) (s_aload_n (q := 0) (i := 0) rfl (by decide +kernel)) <|
  allq qX12_tree 48 (.inl (a_il 1 49)) (s_iload_n (q := 1) (i := 1) rfl (by decide +kernel)) <|
  allq qX12_tree 49 (.inr (.inl (176, 2, 12))) (okV (y := yX12_leastKnot) kw_1495 kw_118 rfl rfl (by decide +kernel) kw_1494 kw_60 kw_1492) <|
  allq qX12_tree 52 (.inl (a_is 2 53)) (s_istore_n (q := 2) (i := 2) rfl (by decide +kernel) (by decide)) <|
  allq qX12_tree 53 (.inl (a_il 2 54)) (s_iload_n (q := 2) (i := 2) rfl (by decide +kernel)) <|
  allq qX12_tree 54 (.inl (o_if_lt 134 57)) (s_if_lt (off := 80) (by decide +kernel) (by decide)) <|
  allq qX12_tree 57 (.inl (a_al 0 58)) (s_aload_n (q := 0) (i := 0) rfl (by decide +kernel)) <|
  allq qX12_tree 58 (.inl (a_get 11 50 61)) (gX12 (f0 := 50) (by decide) kw_1235 (by decide +kernel)) <|
  allq qX12_tree 61 (.inl (a_al 0 62)) (s_aload_n (q := 0) (i := 0) rfl (by decide +kernel)) <|
  allq qX12_tree 62 (.inl (a_get 11 52 65)) (gX12 (f0 := 52) (by decide) kw_1237 (by decide +kernel)) <|
  allq qX12_tree 65 (.inl (a_al 0 66)) (s_aload_n (q := 0) (i := 0) rfl (by decide +kernel)) <|
  allq qX12_tree 66 (.inl (a_get 11 50 69)) (gX12 (f0 := 50) (by decide) kw_1235 (by decide +kernel)) <|
  allq qX12_tree 69 (.inl (a_il 1 70)) (s_iload_n (q := 1) (i := 1) rfl (by decide +kernel)) <|
  alln
set_option maxRecDepth 20000 in
theorem kX12_tree_1 : ∀ q ∈ tX12_tree_1, qX12_tree q :=
  allq qX12_tree 70 (.inl (a_iald 71)) (s_iald (by decide +kernel)) <|
  allq qX12_tree 71 (.inl (a_al 0 72)) (s_aload_n (q := 0) (i := 0) rfl (by decide +kernel)) <|
  allq qX12_tree 72 (.inl (a_get 11 50 75)) (gX12 (f0 := 50) (by decide) kw_1235 (by decide +kernel)) <|
  allq qX12_tree 75 (.inl (a_il 2 76)) (s_iload_n (q := 2) (i := 2) rfl (by decide +kernel)) <|
  allq qX12_tree 76 (.inl (a_iald 77)) (s_iald (by decide +kernel)) <|
  allq qX12_tree 77 (.inl (o_iadd 78)) (s_iadd (by decide +kernel)) <|
  allq qX12_tree 78 (.inl (a_iast 79)) (s_iast (by decide +kernel)) <|
  allq qX12_tree 79 (.inl (a_al 0 80)) (s_aload_n (q := 0) (i := 0) rfl (by decide +kernel)) <|
  allq qX12_tree 80 (.inl (a_get 11 51 83)) (gX12 (f0 := 51) (by decide) kw_1236 (by decide +kernel)) <|
  allq qX12_tree 83 (.inl (a_al 0 84)) (s_aload_n (q := 0) (i := 0) rfl (by decide +kernel)) <|
  allq qX12_tree 84 (.inl (a_get 11 52 87)) (gX12 (f0 := 52) (by decide) kw_1237 (by decide +kernel)) <|
  allq qX12_tree 87 (.inl (a_ic (-1) 88)) (s_iconst (n := (-1)) (v := (-1)) rfl (by decide +kernel)) <|
  allq qX12_tree 88 (.inl (a_iast 89)) (s_iast (by decide +kernel)) <|
  allq qX12_tree 89 (.inl (a_al 0 90)) (s_aload_n (q := 0) (i := 0) rfl (by decide +kernel)) <|
  allq qX12_tree 90 (.inl (a_get 11 51 93)) (gX12 (f0 := 51) (by decide) kw_1236 (by decide +kernel)) <|
  allq qX12_tree 93 (.inl (a_il 1 94)) (s_iload_n (q := 1) (i := 1) rfl (by decide +kernel)) <|
  allq qX12_tree 94 (.inl (a_al 0 95)) (s_aload_n (q := 0) (i := 0) rfl (by decide +kernel)) <|
  allq qX12_tree 95 (.inl (a_get 11 52 98)) (gX12 (f0 := 52) (by decide) kw_1237 (by decide +kernel)) <|
  allq qX12_tree 98 (.inl (a_iast 99)) (s_iast (by decide +kernel)) <|
  allq qX12_tree 99 (.inl (a_al 0 100)) (s_aload_n (q := 0) (i := 0) rfl (by decide +kernel)) <|
  allq qX12_tree 100 (.inl (a_get 11 51 103)) (gX12 (f0 := 51) (by decide) kw_1236 (by decide +kernel)) <|
  allq qX12_tree 103 (.inl (a_il 2 104)) (s_iload_n (q := 2) (i := 2) rfl (by decide +kernel)) <|
  allq qX12_tree 104 (.inl (a_al 0 105)) (s_aload_n (q := 0) (i := 0) rfl (by decide +kernel)) <|
  allq qX12_tree 105 (.inl (a_get 11 52 108)) (gX12 (f0 := 52) (by decide) kw_1237 (by decide +kernel)) <|
  allq qX12_tree 108 (.inl (a_iast 109)) (s_iast (by decide +kernel)) <|
  allq qX12_tree 109 (.inl (a_al 0 110)) (s_aload_n (q := 0) (i := 0) rfl (by decide +kernel)) <|
  allq qX12_tree 110 (.inl (a_dup 111)) (s_dup (by decide +kernel)) <|
  allq qX12_tree 111 (.inl (a_get 11 52 114)) (gX12 (f0 := 52) (by decide) kw_1237 (by decide +kernel)) <|
  allq qX12_tree 114 (.inl (a_ic 1 115)) (s_iconst (n := 1) (v := 1) rfl (by decide +kernel)) <|
  allq qX12_tree 115 (.inl (o_iadd 116)) (s_iadd (by decide +kernel)) <|
  allq qX12_tree 116 (.inl (a_put 11 52 .int 119)) (pX12 (f0 := 52) (by decide) rfl rfl tOk kw_1237 (by decide +kernel)) <|
  allq qX12_tree 119 (.inl (a_al 0 120)) (s_aload_n (q := 0) (i := 0) rfl (by decide +kernel)) <|
  allq qX12_tree 120 (.inl (a_ic (-1) 121)) (s_iconst (n := (-1)) (v := (-1)) rfl (by decide +kernel)) <|
  allq qX12_tree 121 (.inr (.inl (176, 2, 12))) (okV (y := yX12_leastKnot) kw_1495 kw_118 rfl rfl (by decide +kernel) kw_1494 kw_60 kw_1492) <|
  allq qX12_tree 124 (.inl (a_is 1 125)) (s_istore_n (q := 1) (i := 1) rfl (by decide +kernel) (by decide)) <|
  allq qX12_tree 125 (.inl (a_al 0 126)) (s_aload_n (q := 0) (i := 0) rfl (by decide +kernel)) <|
  allq qX12_tree 126 (.inl (a_il 1 127)) (s_iload_n (q := 1) (i := 1) rfl (by decide +kernel)) <|
  allq qX12_tree 127 (.inr (.inl (176, 2, 12))) (okV (y := yX12_leastKnot) kw_1495 kw_118 rfl rfl (by decide +kernel) kw_1494 kw_60 kw_1492) <|
  allq qX12_tree 130 (.inl (a_is 2 131)) (s_istore_n (q := 2) (i := 2) rfl (by decide +kernel) (by decide)) <|
  allq qX12_tree 131 (.inl (a_go 53)) (s_goto (off := (-78)) (by decide +kernel) (by decide)) <|
  alln
set_option maxRecDepth 20000 in
theorem kX12_tree_2 : ∀ q ∈ tX12_tree_2, qX12_tree q :=
  allq qX12_tree 134 (.inl (a_ic 0 135)) (s_iconst (n := 0) (v := 0) rfl (by decide +kernel)) <|
  allq qX12_tree 135 (.inl (a_is 3 136)) (s_istore_n (q := 3) (i := 3) rfl (by decide +kernel) (by decide)) <|
  allq qX12_tree 136 (.inl (a_ic 0 137)) (s_iconst (n := 0) (v := 0) rfl (by decide +kernel)) <|
  allq qX12_tree 137 (.inl (a_is 4 139)) (s_istore (i := 4) (by decide +kernel) (by decide)) <|
  allq qX12_tree 139 (.inl (a_il 4 141)) (s_iload (i := 4) (by decide +kernel)) <|
  allq qX12_tree 141 (.inl (a_ic 256 144)) (s_sipush (n := 256) (v := 256) rfl (by decide +kernel)) <|
  allq qX12_tree 144 (.inl (o_icmp_ge 221 147)) (s_icmp_ge (off := 77) (by decide +kernel) (by decide)) <|
  allq qX12_tree 147 (.inl (a_al 0 148)) (s_aload_n (q := 0) (i := 0) rfl (by decide +kernel)) <|
  allq qX12_tree 148 (.inl (a_get 11 53 151)) (gX12 (f0 := 53) (by decide) kw_1238 (by decide +kernel)) <|
  allq qX12_tree 151 (.inl (a_il 4 153)) (s_iload (i := 4) (by decide +kernel)) <|
  allq qX12_tree 153 (.inl (a_ic 0 154)) (s_iconst (n := 0) (v := 0) rfl (by decide +kernel)) <|
  allq qX12_tree 154 (.inl (a_iast 155)) (s_iast (by decide +kernel)) <|
  allq qX12_tree 155 (.inl (a_al 0 156)) (s_aload_n (q := 0) (i := 0) rfl (by decide +kernel)) <|
  allq qX12_tree 156 (.inl (a_get 11 51 159)) (gX12 (f0 := 51) (by decide) kw_1236 (by decide +kernel)) <|
  allq qX12_tree 159 (.inl (a_il 4 161)) (s_iload (i := 4) (by decide +kernel)) <|
  allq qX12_tree 161 (.inl (a_iald 162)) (s_iald (by decide +kernel)) <|
  allq qX12_tree 162 (.inl (a_is 5 164)) (s_istore (i := 5) (by decide +kernel) (by decide)) <|
  allq qX12_tree 164 (.inl (a_il 5 166)) (s_iload (i := 5) (by decide +kernel)) <|
  allq qX12_tree 166 (.inl (o_if_lt 192 169)) (s_if_lt (off := 26) (by decide +kernel) (by decide)) <|
  allq qX12_tree 169 (.inl (a_al 0 170)) (s_aload_n (q := 0) (i := 0) rfl (by decide +kernel)) <|
  allq qX12_tree 170 (.inl (a_get 11 53 173)) (gX12 (f0 := 53) (by decide) kw_1238 (by decide +kernel)) <|
  allq qX12_tree 173 (.inl (a_il 4 175)) (s_iload (i := 4) (by decide +kernel)) <|
  allq qX12_tree 175 (.inl (a_dup2 176)) (s_dup2 (by decide +kernel)) <|
  allq qX12_tree 176 (.inl (a_iald 177)) (s_iald (by decide +kernel)) <|
  allq qX12_tree 177 (.inl (a_ic 1 178)) (s_iconst (n := 1) (v := 1) rfl (by decide +kernel)) <|
  allq qX12_tree 178 (.inl (o_iadd 179)) (s_iadd (by decide +kernel)) <|
  allq qX12_tree 179 (.inl (a_iast 180)) (s_iast (by decide +kernel)) <|
  allq qX12_tree 180 (.inl (a_al 0 181)) (s_aload_n (q := 0) (i := 0) rfl (by decide +kernel)) <|
  allq qX12_tree 181 (.inl (a_get 11 51 184)) (gX12 (f0 := 51) (by decide) kw_1236 (by decide +kernel)) <|
  allq qX12_tree 184 (.inl (a_il 5 186)) (s_iload (i := 5) (by decide +kernel)) <|
  allq qX12_tree 186 (.inl (a_iald 187)) (s_iald (by decide +kernel)) <|
  allq qX12_tree 187 (.inl (a_is 5 189)) (s_istore (i := 5) (by decide +kernel) (by decide)) <|
  allq qX12_tree 189 (.inl (a_go 164)) (s_goto (off := (-25)) (by decide +kernel) (by decide)) <|
  allq qX12_tree 192 (.inl (a_al 0 193)) (s_aload_n (q := 0) (i := 0) rfl (by decide +kernel)) <|
  allq qX12_tree 193 (.inl (a_get 11 53 196)) (gX12 (f0 := 53) (by decide) kw_1238 (by decide +kernel)) <|
  allq qX12_tree 196 (.inl (a_il 4 198)) (s_iload (i := 4) (by decide +kernel)) <|
  allq qX12_tree 198 (.inl (a_iald 199)) (s_iald (by decide +kernel)) <|
  allq qX12_tree 199 (.inl (a_il 3 200)) (s_iload_n (q := 3) (i := 3) rfl (by decide +kernel)) <|
  allq qX12_tree 200 (.inl (o_icmp_le 213 203)) (s_icmp_le (off := 13) (by decide +kernel) (by decide)) <|
  allq qX12_tree 203 (.inl (a_al 0 204)) (s_aload_n (q := 0) (i := 0) rfl (by decide +kernel)) <|
  alln
set_option maxRecDepth 20000 in
theorem kX12_tree_3 : ∀ q ∈ tX12_tree_3, qX12_tree q :=
  allq qX12_tree 204 (.inl (a_get 11 53 207)) (gX12 (f0 := 53) (by decide) kw_1238 (by decide +kernel)) <|
  allq qX12_tree 207 (.inl (a_il 4 209)) (s_iload (i := 4) (by decide +kernel)) <|
  allq qX12_tree 209 (.inl (a_iald 210)) (s_iald (by decide +kernel)) <|
  allq qX12_tree 210 (.inl (a_go 214)) (s_goto (off := 4) (by decide +kernel) (by decide)) <|
  allq qX12_tree 213 (.inl (a_il 3 214)) (s_iload_n (q := 3) (i := 3) rfl (by decide +kernel)) <|
  allq qX12_tree 214 (.inl (a_is 3 215)) (s_istore_n (q := 3) (i := 3) rfl (by decide +kernel) (by decide)) <|
  allq qX12_tree 215 (.inl (a_inc 4 1 218)) (s_iinc (i := 4) (n := 1) (n2 := 1) rfl (by decide +kernel) (by decide)) <|
  allq qX12_tree 218 (.inl (a_go 139)) (s_goto (off := (-79)) (by decide +kernel) (by decide)) <|
  allq qX12_tree 221 (.inl (a_il 3 222)) (s_iload_n (q := 3) (i := 3) rfl (by decide +kernel)) <|
  allq qX12_tree 222 (.inr (.inr 1)) (Or.inr (Or.inl ⟨rfl, rfl, by decide +kernel⟩)) <|
  alln
theorem kX12_tree : ∀ q ∈ tX12_tree, qX12_tree q := alla kX12_tree_0 (alla kX12_tree_1 (alla kX12_tree_2 kX12_tree_3))
abbrev qX12_lengthsByCounts : Nat × aI → Prop := OkQ RX12 "lengthsByCounts" cX12_lengthsByCounts 3 (some .int)
set_option maxRecDepth 20000 in
theorem kX12_lengthsByCounts_0 : ∀ q ∈ tX12_lengthsByCounts_0, qX12_lengthsByCounts q :=
  allq qX12_lengthsByCounts 0 (.inl (a_ic 0 1)) (s_iconst (n := 0) (v := 0) rfl (by decide +kernel)) <|
  allq qX12_lengthsByCounts 1 (.inl (a_is 1 2)) (s_istore_n (q := 1) (i := 1) rfl (by decide +kernel) (by decide)) <|
  allq qX12_lengthsByCounts 2 (.inl (a_il 1 3)) (s_iload_n (q := 1) (i := 1) rfl (by decide +kernel)) <|
  allq qX12_lengthsByCounts 3 (.inl (a_ic 256 6)) (s_sipush (n := 256) (v := 256) rfl (by decide +kernel)) <|
  allq qX12_lengthsByCounts 6 (.inl (o_icmp_ge 22 9)) (s_icmp_ge (off := 16) (by decide +kernel) (by decide)) <|
  allq qX12_lengthsByCounts 9 (.inl (a_al 0 10)) (s_aload_n (q := 0) (i := 0) rfl (by decide +kernel)) <|
  allq qX12_lengthsByCounts 10 (.inl (a_get 11 49 13)) (gX12 (f0 := 49) (by decide) kw_1234 (by decide +kernel)) <|
  allq qX12_lengthsByCounts 13 (.inl (a_il 1 14)) (s_iload_n (q := 1) (i := 1) rfl (by decide +kernel)) <|
  allq qX12_lengthsByCounts 14 (.inl (a_ic 0 15)) (s_iconst (n := 0) (v := 0) rfl (by decide +kernel)) <|
  allq qX12_lengthsByCounts 15 (.inl (a_iast 16)) (s_iast (by decide +kernel)) <|
  allq qX12_lengthsByCounts 16 (.inl (a_inc 1 1 19)) (s_iinc (i := 1) (n := 1) (n2 := 1) rfl (by decide +kernel) (by decide)) <|
  allq qX12_lengthsByCounts 19 (.inl (a_go 2)) (s_goto (off := (-17)) (by decide +kernel) (by decide)) <|
  allq qX12_lengthsByCounts 22 (.inl (a_ic 0 23)) (s_iconst (n := 0) (v := 0) rfl (by decide +kernel)) <|
  allq qX12_lengthsByCounts 23 (.inl (a_is 1 24)) (s_istore_n (q := 1) (i := 1) rfl (by decide +kernel) (by decide)) <|
  allq qX12_lengthsByCounts 24 (.inl (a_il 1 25)) (s_iload_n (q := 1) (i := 1) rfl (by decide +kernel)) <|
  allq qX12_lengthsByCounts 25 (.inl (a_al 0 26)) (s_aload_n (q := 0) (i := 0) rfl (by decide +kernel)) <|
  allq qX12_lengthsByCounts 26 (.inl (a_get 11 33 29)) (gX12 (f0 := 33) (by decide) kw_1218 (by decide +kernel)) <|
  allq qX12_lengthsByCounts 29 (.inl (o_icmp_ge 53 32)) (s_icmp_ge (off := 24) (by decide +kernel) (by decide)) <|
  allq qX12_lengthsByCounts 32 (.inl (a_al 0 33)) (s_aload_n (q := 0) (i := 0) rfl (by decide +kernel)) <|
  allq qX12_lengthsByCounts 33 (.inl (a_get 11 49 36)) (gX12 (f0 := 49) (by decide) kw_1234 (by decide +kernel)) <|
  allq qX12_lengthsByCounts 36 (.inl (a_al 0 37)) (s_aload_n (q := 0) (i := 0) rfl (by decide +kernel)) <|
  allq qX12_lengthsByCounts 37 (.inl (a_get 11 32 40)) (gX12 (f0 := 32) (by decide) kw_1217 (by decide +kernel)) <|
  allq qX12_lengthsByCounts 40 (.inl (a_il 1 41)) (s_iload_n (q := 1) (i := 1) rfl (by decide +kernel)) <|
  allq qX12_lengthsByCounts 41 (.inl (a_iald 42)) (s_iald (by decide +kernel)) <|
  allq qX12_lengthsByCounts 42 (.inl (a_dup2 43)) (s_dup2 (by decide +kernel)) <|
  allq qX12_lengthsByCounts 43 (.inl (a_iald 44)) (s_iald (by decide +kernel)) <|
  allq qX12_lengthsByCounts 44 (.inl (a_ic 1 45)) (s_iconst (n := 1) (v := 1) rfl (by decide +kernel)) <|
  allq qX12_lengthsByCounts 45 (.inl (o_iadd 46)) (s_iadd (by decide +kernel)) <|
  allq qX12_lengthsByCounts 46 (.inl (a_iast 47)) (s_iast (by decide +kernel)) <|
  allq qX12_lengthsByCounts 47 (.inl (a_inc 1 1 50)) (s_iinc (i := 1) (n := 1) (n2 := 1) rfl (by decide +kernel) (by decide)) <|
  allq qX12_lengthsByCounts 50 (.inl (a_go 24)) (s_goto (off := (-26)) (by decide +kernel) (by decide)) <|
  allq qX12_lengthsByCounts 53 (.inl (a_al 0 54)) (s_aload_n (q := 0) (i := 0) rfl (by decide +kernel)) <|
  allq qX12_lengthsByCounts 54 (.inr (.inl (177, 1, 12))) (okV (y := yX12_tree) kw_1491 kw_118 rfl rfl (by decide +kernel) kw_1490 kw_59 kw_1488) <|
  allq qX12_lengthsByCounts 57 (.inl (a_is 1 58)) (s_istore_n (q := 1) (i := 1) rfl (by decide +kernel) (by decide)) <|
  allq qX12_lengthsByCounts 58 (.inl (a_il 1 59)) (s_iload_n (q := 1) (i := 1) rfl (by decide +kernel)) <|
  allq qX12_lengthsByCounts 59 (.inl (a_ic 11 61)) (s_bipush (n := 11) (v := 11) rfl (by decide +kernel)) <|
  allq qX12_lengthsByCounts 61 (.inl (o_icmp_le 103 64)) (s_icmp_le (off := 42) (by decide +kernel) (by decide)) <|
  allq qX12_lengthsByCounts 64 (.inl (a_ic 0 65)) (s_iconst (n := 0) (v := 0) rfl (by decide +kernel)) <|
  allq qX12_lengthsByCounts 65 (.inl (a_is 2 66)) (s_istore_n (q := 2) (i := 2) rfl (by decide +kernel) (by decide)) <|
  allq qX12_lengthsByCounts 66 (.inl (a_il 2 67)) (s_iload_n (q := 2) (i := 2) rfl (by decide +kernel)) <|
  alln
set_option maxRecDepth 20000 in
theorem kX12_lengthsByCounts_1 : ∀ q ∈ tX12_lengthsByCounts_1, qX12_lengthsByCounts q :=
  allq qX12_lengthsByCounts 67 (.inl (a_ic 256 70)) (s_sipush (n := 256) (v := 256) rfl (by decide +kernel)) <|
  allq qX12_lengthsByCounts 70 (.inl (o_icmp_ge 95 73)) (s_icmp_ge (off := 25) (by decide +kernel) (by decide)) <|
  allq qX12_lengthsByCounts 73 (.inl (a_al 0 74)) (s_aload_n (q := 0) (i := 0) rfl (by decide +kernel)) <|
  allq qX12_lengthsByCounts 74 (.inl (a_get 11 49 77)) (gX12 (f0 := 49) (by decide) kw_1234 (by decide +kernel)) <|
  allq qX12_lengthsByCounts 77 (.inl (a_il 2 78)) (s_iload_n (q := 2) (i := 2) rfl (by decide +kernel)) <|
  allq qX12_lengthsByCounts 78 (.inl (a_al 0 79)) (s_aload_n (q := 0) (i := 0) rfl (by decide +kernel)) <|
  allq qX12_lengthsByCounts 79 (.inl (a_get 11 49 82)) (gX12 (f0 := 49) (by decide) kw_1234 (by decide +kernel)) <|
  allq qX12_lengthsByCounts 82 (.inl (a_il 2 83)) (s_iload_n (q := 2) (i := 2) rfl (by decide +kernel)) <|
  allq qX12_lengthsByCounts 83 (.inl (a_iald 84)) (s_iald (by decide +kernel)) <|
  allq qX12_lengthsByCounts 84 (.inl (a_ic 1 85)) (s_iconst (n := 1) (v := 1) rfl (by decide +kernel)) <|
  allq qX12_lengthsByCounts 85 (.inl (o_iadd 86)) (s_iadd (by decide +kernel)) <|
  allq qX12_lengthsByCounts 86 (.inl (a_ic 2 87)) (s_iconst (n := 2) (v := 2) rfl (by decide +kernel)) <|
  allq qX12_lengthsByCounts 87 (.inl (o_idiv 88)) (s_idiv (by decide +kernel)) <|
  allq qX12_lengthsByCounts 88 (.inl (a_iast 89)) (s_iast (by decide +kernel)) <|
  allq qX12_lengthsByCounts 89 (.inl (a_inc 2 1 92)) (s_iinc (i := 2) (n := 1) (n2 := 1) rfl (by decide +kernel) (by decide)) <|
  allq qX12_lengthsByCounts 92 (.inl (a_go 66)) (s_goto (off := (-26)) (by decide +kernel) (by decide)) <|
  allq qX12_lengthsByCounts 95 (.inl (a_al 0 96)) (s_aload_n (q := 0) (i := 0) rfl (by decide +kernel)) <|
  allq qX12_lengthsByCounts 96 (.inr (.inl (177, 1, 12))) (okV (y := yX12_tree) kw_1491 kw_118 rfl rfl (by decide +kernel) kw_1490 kw_59 kw_1488) <|
  allq qX12_lengthsByCounts 99 (.inl (a_is 1 100)) (s_istore_n (q := 1) (i := 1) rfl (by decide +kernel) (by decide)) <|
  allq qX12_lengthsByCounts 100 (.inl (a_go 58)) (s_goto (off := (-42)) (by decide +kernel) (by decide)) <|
  allq qX12_lengthsByCounts 103 (.inl (a_il 1 104)) (s_iload_n (q := 1) (i := 1) rfl (by decide +kernel)) <|
  allq qX12_lengthsByCounts 104 (.inr (.inr 1)) (Or.inr (Or.inl ⟨rfl, rfl, by decide +kernel⟩)) <|
  alln
theorem kX12_lengthsByCounts : ∀ q ∈ tX12_lengthsByCounts, qX12_lengthsByCounts q := alla kX12_lengthsByCounts_0 kX12_lengthsByCounts_1
abbrev qX12_weighing : Nat × aI → Prop := OkQ RX12 "weighing" cX12_weighing 3 (some .int)
set_option maxRecDepth 20000 in
theorem kX12_weighing_0 : ∀ q ∈ tX12_weighing_0, qX12_weighing q :=
  allq qX12_weighing 0 (.inl (a_al 0 1)) (s_aload_n (q := 0) (i := 0) rfl (by decide +kernel)) <|
  allq qX12_weighing 1 (.inl (a_get 11 53 4)) (gX12 (f0 := 53) (by decide) kw_1238 (by decide +kernel)) <|
  allq qX12_weighing 4 (.inl (a_il 1 5)) (s_iload_n (q := 1) (i := 1) rfl (by decide +kernel)) <|
  allq qX12_weighing 5 (.inl (a_iald 6)) (s_iald (by decide +kernel)) <|
  allq qX12_weighing 6 (.inl (o_if_ne 13 9)) (s_if_ne (off := 7) (by decide +kernel) (by decide)) <|
  allq qX12_weighing 9 (.inl (a_ic 0 10)) (s_iconst (n := 0) (v := 0) rfl (by decide +kernel)) <|
  allq qX12_weighing 10 (.inl (a_go 23)) (s_goto (off := 13) (by decide +kernel) (by decide)) <|
  allq qX12_weighing 13 (.inl (a_il 2 14)) (s_iload_n (q := 2) (i := 2) rfl (by decide +kernel)) <|
  allq qX12_weighing 14 (.inl (a_ic 1 15)) (s_iconst (n := 1) (v := 1) rfl (by decide +kernel)) <|
  allq qX12_weighing 15 (.inl (o_iadd 16)) (s_iadd (by decide +kernel)) <|
  allq qX12_weighing 16 (.inl (a_al 0 17)) (s_aload_n (q := 0) (i := 0) rfl (by decide +kernel)) <|
  allq qX12_weighing 17 (.inl (a_get 11 53 20)) (gX12 (f0 := 53) (by decide) kw_1238 (by decide +kernel)) <|
  allq qX12_weighing 20 (.inl (a_il 1 21)) (s_iload_n (q := 1) (i := 1) rfl (by decide +kernel)) <|
  allq qX12_weighing 21 (.inl (a_iald 22)) (s_iald (by decide +kernel)) <|
  allq qX12_weighing 22 (.inl (o_isub 23)) (s_isub (by decide +kernel)) <|
  allq qX12_weighing 23 (.inr (.inr 1)) (Or.inr (Or.inl ⟨rfl, rfl, by decide +kernel⟩)) <|
  alln
theorem kX12_weighing : ∀ q ∈ tX12_weighing, qX12_weighing q := kX12_weighing_0
abbrev qX12_describe : Nat × aI → Prop := OkQ RX12 "describe" cX12_describe 8 (some .int)
set_option maxRecDepth 20000 in
theorem kX12_describe_0 : ∀ q ∈ tX12_describe_0, qX12_describe q :=
  allq qX12_describe 0 (.inl (a_al 0 1)) (s_aload_n (q := 0) (i := 0) rfl (by decide +kernel)) <|
  allq qX12_describe 1 (.inl (a_ic 255 4)) (s_sipush (n := 255) (v := 255) rfl (by decide +kernel)) <|
  allq qX12_describe 4 (.inl (a_put 11 56 .int 7)) (pX12 (f0 := 56) (by decide) rfl rfl tOk kw_1241 (by decide +kernel)) <|
  allq qX12_describe 7 (.inl (a_al 0 8)) (s_aload_n (q := 0) (i := 0) rfl (by decide +kernel)) <|
  allq qX12_describe 8 (.inl (a_get 11 53 11)) (gX12 (f0 := 53) (by decide) kw_1238 (by decide +kernel)) <|
  allq qX12_describe 11 (.inl (a_al 0 12)) (s_aload_n (q := 0) (i := 0) rfl (by decide +kernel)) <|
  allq qX12_describe 12 (.inl (a_get 11 56 15)) (gX12 (f0 := 56) (by decide) kw_1241 (by decide +kernel)) <|
  allq qX12_describe 15 (.inl (a_iald 16)) (s_iald (by decide +kernel)) <|
  allq qX12_describe 16 (.inl (o_if_ne 32 19)) (s_if_ne (off := 16) (by decide +kernel) (by decide)) <|
  allq qX12_describe 19 (.inl (a_al 0 20)) (s_aload_n (q := 0) (i := 0) rfl (by decide +kernel)) <|
  allq qX12_describe 20 (.inl (a_dup 21)) (s_dup (by decide +kernel)) <|
  allq qX12_describe 21 (.inl (a_get 11 56 24)) (gX12 (f0 := 56) (by decide) kw_1241 (by decide +kernel)) <|
  allq qX12_describe 24 (.inl (a_ic 1 25)) (s_iconst (n := 1) (v := 1) rfl (by decide +kernel)) <|
  allq qX12_describe 25 (.inl (o_isub 26)) (s_isub (by decide +kernel)) <|
  allq qX12_describe 26 (.inl (a_put 11 56 .int 29)) (pX12 (f0 := 56) (by decide) rfl rfl tOk kw_1241 (by decide +kernel)) <|
  allq qX12_describe 29 (.inl (a_go 7)) (s_goto (off := (-22)) (by decide +kernel) (by decide)) <|
  allq qX12_describe 32 (.inl (a_ic 0 33)) (s_iconst (n := 0) (v := 0) rfl (by decide +kernel)) <|
  allq qX12_describe 33 (.inl (a_is 2 34)) (s_istore_n (q := 2) (i := 2) rfl (by decide +kernel) (by decide)) <|
  allq qX12_describe 34 (.inl (a_il 2 35)) (s_iload_n (q := 2) (i := 2) rfl (by decide +kernel)) <|
  allq qX12_describe 35 (.inl (a_ic 256 38)) (s_sipush (n := 256) (v := 256) rfl (by decide +kernel)) <|
  allq qX12_describe 38 (.inl (o_icmp_ge 54 41)) (s_icmp_ge (off := 16) (by decide +kernel) (by decide)) <|
  allq qX12_describe 41 (.inl (a_al 0 42)) (s_aload_n (q := 0) (i := 0) rfl (by decide +kernel)) <|
  allq qX12_describe 42 (.inl (a_get 11 48 45)) (gX12 (f0 := 48) (by decide) kw_1233 (by decide +kernel)) <|
  allq qX12_describe 45 (.inl (a_il 2 46)) (s_iload_n (q := 2) (i := 2) rfl (by decide +kernel)) <|
  allq qX12_describe 46 (.inl (a_ic 0 47)) (s_iconst (n := 0) (v := 0) rfl (by decide +kernel)) <|
  allq qX12_describe 47 (.inl (a_iast 48)) (s_iast (by decide +kernel)) <|
  allq qX12_describe 48 (.inl (a_inc 2 1 51)) (s_iinc (i := 2) (n := 1) (n2 := 1) rfl (by decide +kernel) (by decide)) <|
  allq qX12_describe 51 (.inl (a_go 34)) (s_goto (off := (-17)) (by decide +kernel) (by decide)) <|
  allq qX12_describe 54 (.inl (a_ic 0 55)) (s_iconst (n := 0) (v := 0) rfl (by decide +kernel)) <|
  allq qX12_describe 55 (.inl (a_is 2 56)) (s_istore_n (q := 2) (i := 2) rfl (by decide +kernel) (by decide)) <|
  allq qX12_describe 56 (.inl (a_ic 0 57)) (s_iconst (n := 0) (v := 0) rfl (by decide +kernel)) <|
  allq qX12_describe 57 (.inl (a_is 3 58)) (s_istore_n (q := 3) (i := 3) rfl (by decide +kernel) (by decide)) <|
  allq qX12_describe 58 (.inl (a_il 3 59)) (s_iload_n (q := 3) (i := 3) rfl (by decide +kernel)) <|
  allq qX12_describe 59 (.inl (a_al 0 60)) (s_aload_n (q := 0) (i := 0) rfl (by decide +kernel)) <|
  allq qX12_describe 60 (.inl (a_get 11 56 63)) (gX12 (f0 := 56) (by decide) kw_1241 (by decide +kernel)) <|
  allq qX12_describe 63 (.inl (o_icmp_ge 121 66)) (s_icmp_ge (off := 58) (by decide +kernel) (by decide)) <|
  allq qX12_describe 66 (.inl (a_al 0 67)) (s_aload_n (q := 0) (i := 0) rfl (by decide +kernel)) <|
  allq qX12_describe 67 (.inl (a_get 11 55 70)) (gX12 (f0 := 55) (by decide) kw_1240 (by decide +kernel)) <|
  allq qX12_describe 70 (.inl (a_il 3 71)) (s_iload_n (q := 3) (i := 3) rfl (by decide +kernel)) <|
  allq qX12_describe 71 (.inl (a_al 0 72)) (s_aload_n (q := 0) (i := 0) rfl (by decide +kernel)) <|
  alln
set_option maxRecDepth 20000 in
theorem kX12_describe_1 : ∀ q ∈ tX12_describe_1, qX12_describe q :=
  allq qX12_describe 72 (.inl (a_il 3 73)) (s_iload_n (q := 3) (i := 3) rfl (by decide +kernel)) <|
  allq qX12_describe 73 (.inl (a_il 1 74)) (s_iload_n (q := 1) (i := 1) rfl (by decide +kernel)) <|
  allq qX12_describe 74 (.inr (.inl (179, 3, 12))) (okV (y := yX12_weighing) kw_1503 kw_118 rfl rfl (by decide +kernel) kw_1502 kw_62 kw_1500) <|
  allq qX12_describe 77 (.inl (a_iast 78)) (s_iast (by decide +kernel)) <|
  allq qX12_describe 78 (.inl (a_al 0 79)) (s_aload_n (q := 0) (i := 0) rfl (by decide +kernel)) <|
  allq qX12_describe 79 (.inl (a_get 11 48 82)) (gX12 (f0 := 48) (by decide) kw_1233 (by decide +kernel)) <|
  allq qX12_describe 82 (.inl (a_al 0 83)) (s_aload_n (q := 0) (i := 0) rfl (by decide +kernel)) <|
  allq qX12_describe 83 (.inl (a_get 11 55 86)) (gX12 (f0 := 55) (by decide) kw_1240 (by decide +kernel)) <|
  allq qX12_describe 86 (.inl (a_il 3 87)) (s_iload_n (q := 3) (i := 3) rfl (by decide +kernel)) <|
  allq qX12_describe 87 (.inl (a_iald 88)) (s_iald (by decide +kernel)) <|
  allq qX12_describe 88 (.inl (a_iald 89)) (s_iald (by decide +kernel)) <|
  allq qX12_describe 89 (.inl (o_if_ne 98 92)) (s_if_ne (off := 9) (by decide +kernel) (by decide)) <|
  allq qX12_describe 92 (.inl (a_il 2 93)) (s_iload_n (q := 2) (i := 2) rfl (by decide +kernel)) <|
  allq qX12_describe 93 (.inl (a_ic 1 94)) (s_iconst (n := 1) (v := 1) rfl (by decide +kernel)) <|
  allq qX12_describe 94 (.inl (o_iadd 95)) (s_iadd (by decide +kernel)) <|
  allq qX12_describe 95 (.inl (a_go 99)) (s_goto (off := 4) (by decide +kernel) (by decide)) <|
  allq qX12_describe 98 (.inl (a_il 2 99)) (s_iload_n (q := 2) (i := 2) rfl (by decide +kernel)) <|
  allq qX12_describe 99 (.inl (a_is 2 100)) (s_istore_n (q := 2) (i := 2) rfl (by decide +kernel) (by decide)) <|
  allq qX12_describe 100 (.inl (a_al 0 101)) (s_aload_n (q := 0) (i := 0) rfl (by decide +kernel)) <|
  allq qX12_describe 101 (.inl (a_get 11 48 104)) (gX12 (f0 := 48) (by decide) kw_1233 (by decide +kernel)) <|
  allq qX12_describe 104 (.inl (a_al 0 105)) (s_aload_n (q := 0) (i := 0) rfl (by decide +kernel)) <|
  allq qX12_describe 105 (.inl (a_get 11 55 108)) (gX12 (f0 := 55) (by decide) kw_1240 (by decide +kernel)) <|
  allq qX12_describe 108 (.inl (a_il 3 109)) (s_iload_n (q := 3) (i := 3) rfl (by decide +kernel)) <|
  allq qX12_describe 109 (.inl (a_iald 110)) (s_iald (by decide +kernel)) <|
  allq qX12_describe 110 (.inl (a_dup2 111)) (s_dup2 (by decide +kernel)) <|
  allq qX12_describe 111 (.inl (a_iald 112)) (s_iald (by decide +kernel)) <|
  allq qX12_describe 112 (.inl (a_ic 1 113)) (s_iconst (n := 1) (v := 1) rfl (by decide +kernel)) <|
  allq qX12_describe 113 (.inl (o_iadd 114)) (s_iadd (by decide +kernel)) <|
  allq qX12_describe 114 (.inl (a_iast 115)) (s_iast (by decide +kernel)) <|
  allq qX12_describe 115 (.inl (a_inc 3 1 118)) (s_iinc (i := 3) (n := 1) (n2 := 1) rfl (by decide +kernel) (by decide)) <|
  allq qX12_describe 118 (.inl (a_go 58)) (s_goto (off := (-60)) (by decide +kernel) (by decide)) <|
  allq qX12_describe 121 (.inl (a_al 0 122)) (s_aload_n (q := 0) (i := 0) rfl (by decide +kernel)) <|
  allq qX12_describe 122 (.inl (a_get 11 56 125)) (gX12 (f0 := 56) (by decide) kw_1241 (by decide +kernel)) <|
  allq qX12_describe 125 (.inl (a_ic 128 128)) (s_sipush (n := 128) (v := 128) rfl (by decide +kernel)) <|
  allq qX12_describe 128 (.inl (o_icmp_le 137 131)) (s_icmp_le (off := 9) (by decide +kernel) (by decide)) <|
  allq qX12_describe 131 (.inl (a_ic 9999 134)) (s_sipush (n := 9999) (v := 9999) rfl (by decide +kernel)) <|
  allq qX12_describe 134 (.inl (a_go 147)) (s_goto (off := 13) (by decide +kernel) (by decide)) <|
  allq qX12_describe 137 (.inl (a_ic 1 138)) (s_iconst (n := 1) (v := 1) rfl (by decide +kernel)) <|
  allq qX12_describe 138 (.inl (a_al 0 139)) (s_aload_n (q := 0) (i := 0) rfl (by decide +kernel)) <|
  allq qX12_describe 139 (.inl (a_get 11 56 142)) (gX12 (f0 := 56) (by decide) kw_1241 (by decide +kernel)) <|
  alln
set_option maxRecDepth 20000 in
theorem kX12_describe_2 : ∀ q ∈ tX12_describe_2, qX12_describe q :=
  allq qX12_describe 142 (.inl (a_ic 1 143)) (s_iconst (n := 1) (v := 1) rfl (by decide +kernel)) <|
  allq qX12_describe 143 (.inl (o_iadd 144)) (s_iadd (by decide +kernel)) <|
  allq qX12_describe 144 (.inl (a_ic 2 145)) (s_iconst (n := 2) (v := 2) rfl (by decide +kernel)) <|
  allq qX12_describe 145 (.inl (o_idiv 146)) (s_idiv (by decide +kernel)) <|
  allq qX12_describe 146 (.inl (o_iadd 147)) (s_iadd (by decide +kernel)) <|
  allq qX12_describe 147 (.inl (a_is 3 148)) (s_istore_n (q := 3) (i := 3) rfl (by decide +kernel) (by decide)) <|
  allq qX12_describe 148 (.inl (a_il 2 149)) (s_iload_n (q := 2) (i := 2) rfl (by decide +kernel)) <|
  allq qX12_describe 149 (.inl (a_ic 2 150)) (s_iconst (n := 2) (v := 2) rfl (by decide +kernel)) <|
  allq qX12_describe 150 (.inl (o_icmp_lt 161 153)) (s_icmp_lt (off := 11) (by decide +kernel) (by decide)) <|
  allq qX12_describe 153 (.inl (a_al 0 154)) (s_aload_n (q := 0) (i := 0) rfl (by decide +kernel)) <|
  allq qX12_describe 154 (.inl (a_get 11 56 157)) (gX12 (f0 := 56) (by decide) kw_1241 (by decide +kernel)) <|
  allq qX12_describe 157 (.inl (a_ic 2 158)) (s_iconst (n := 2) (v := 2) rfl (by decide +kernel)) <|
  allq qX12_describe 158 (.inl (o_icmp_ge 167 161)) (s_icmp_ge (off := 9) (by decide +kernel) (by decide)) <|
  allq qX12_describe 161 (.inl (a_ic 9999 164)) (s_sipush (n := 9999) (v := 9999) rfl (by decide +kernel)) <|
  allq qX12_describe 164 (.inl (a_go 172)) (s_goto (off := 8) (by decide +kernel) (by decide)) <|
  allq qX12_describe 167 (.inl (a_al 0 168)) (s_aload_n (q := 0) (i := 0) rfl (by decide +kernel)) <|
  allq qX12_describe 168 (.inl (a_ic 5 169)) (s_iconst (n := 5) (v := 5) rfl (by decide +kernel)) <|
  allq qX12_describe 169 (.inr (.inl (181, 2, 12))) (okV (y := yX12_byStates) kw_1507 kw_118 rfl rfl (by decide +kernel) kw_1506 kw_63 kw_1504) <|
  allq qX12_describe 172 (.inl (a_is 4 174)) (s_istore (i := 4) (by decide +kernel) (by decide)) <|
  allq qX12_describe 174 (.inl (a_il 2 175)) (s_iload_n (q := 2) (i := 2) rfl (by decide +kernel)) <|
  allq qX12_describe 175 (.inl (a_ic 2 176)) (s_iconst (n := 2) (v := 2) rfl (by decide +kernel)) <|
  allq qX12_describe 176 (.inl (o_icmp_lt 187 179)) (s_icmp_lt (off := 11) (by decide +kernel) (by decide)) <|
  allq qX12_describe 179 (.inl (a_al 0 180)) (s_aload_n (q := 0) (i := 0) rfl (by decide +kernel)) <|
  allq qX12_describe 180 (.inl (a_get 11 56 183)) (gX12 (f0 := 56) (by decide) kw_1241 (by decide +kernel)) <|
  allq qX12_describe 183 (.inl (a_ic 2 184)) (s_iconst (n := 2) (v := 2) rfl (by decide +kernel)) <|
  allq qX12_describe 184 (.inl (o_icmp_ge 193 187)) (s_icmp_ge (off := 9) (by decide +kernel) (by decide)) <|
  allq qX12_describe 187 (.inl (a_ic 9999 190)) (s_sipush (n := 9999) (v := 9999) rfl (by decide +kernel)) <|
  allq qX12_describe 190 (.inl (a_go 199)) (s_goto (off := 9) (by decide +kernel) (by decide)) <|
  allq qX12_describe 193 (.inl (a_al 0 194)) (s_aload_n (q := 0) (i := 0) rfl (by decide +kernel)) <|
  allq qX12_describe 194 (.inl (a_ic 6 196)) (s_bipush (n := 6) (v := 6) rfl (by decide +kernel)) <|
  allq qX12_describe 196 (.inr (.inl (181, 2, 12))) (okV (y := yX12_byStates) kw_1507 kw_118 rfl rfl (by decide +kernel) kw_1506 kw_63 kw_1504) <|
  allq qX12_describe 199 (.inl (a_is 5 201)) (s_istore (i := 5) (by decide +kernel) (by decide)) <|
  allq qX12_describe 201 (.inl (a_il 4 203)) (s_iload (i := 4) (by decide +kernel)) <|
  allq qX12_describe 203 (.inl (a_il 5 205)) (s_iload (i := 5) (by decide +kernel)) <|
  allq qX12_describe 205 (.inl (o_icmp_ge 213 208)) (s_icmp_ge (off := 8) (by decide +kernel) (by decide)) <|
  allq qX12_describe 208 (.inl (a_il 4 210)) (s_iload (i := 4) (by decide +kernel)) <|
  allq qX12_describe 210 (.inl (a_go 215)) (s_goto (off := 5) (by decide +kernel) (by decide)) <|
  allq qX12_describe 213 (.inl (a_il 5 215)) (s_iload (i := 5) (by decide +kernel)) <|
  allq qX12_describe 215 (.inl (a_is 6 217)) (s_istore (i := 6) (by decide +kernel) (by decide)) <|
  allq qX12_describe 217 (.inl (a_il 6 219)) (s_iload (i := 6) (by decide +kernel)) <|
  alln
set_option maxRecDepth 20000 in
theorem kX12_describe_3 : ∀ q ∈ tX12_describe_3, qX12_describe q :=
  allq qX12_describe 219 (.inl (a_ic 128 222)) (s_sipush (n := 128) (v := 128) rfl (by decide +kernel)) <|
  allq qX12_describe 222 (.inl (o_icmp_le 231 225)) (s_icmp_le (off := 9) (by decide +kernel) (by decide)) <|
  allq qX12_describe 225 (.inl (a_ic 9999 228)) (s_sipush (n := 9999) (v := 9999) rfl (by decide +kernel)) <|
  allq qX12_describe 228 (.inl (a_go 233)) (s_goto (off := 5) (by decide +kernel) (by decide)) <|
  allq qX12_describe 231 (.inl (a_il 6 233)) (s_iload (i := 6) (by decide +kernel)) <|
  allq qX12_describe 233 (.inl (a_is 6 235)) (s_istore (i := 6) (by decide +kernel) (by decide)) <|
  allq qX12_describe 235 (.inl (a_il 3 236)) (s_iload_n (q := 3) (i := 3) rfl (by decide +kernel)) <|
  allq qX12_describe 236 (.inl (a_ic 9999 239)) (s_sipush (n := 9999) (v := 9999) rfl (by decide +kernel)) <|
  allq qX12_describe 239 (.inl (o_icmp_ne 253 242)) (s_icmp_ne (off := 14) (by decide +kernel) (by decide)) <|
  allq qX12_describe 242 (.inl (a_il 6 244)) (s_iload (i := 6) (by decide +kernel)) <|
  allq qX12_describe 244 (.inl (a_ic 9999 247)) (s_sipush (n := 9999) (v := 9999) rfl (by decide +kernel)) <|
  allq qX12_describe 247 (.inl (o_icmp_ne 253 250)) (s_icmp_ne (off := 6) (by decide +kernel) (by decide)) <|
  allq qX12_describe 250 (.inl (a_ic (-2) 252)) (s_bipush (n := (-2)) (v := (-2)) rfl (by decide +kernel)) <|
  allq qX12_describe 252 (.inr (.inr 1)) (Or.inr (Or.inl ⟨rfl, rfl, by decide +kernel⟩)) <|
  allq qX12_describe 253 (.inl (a_il 3 254)) (s_iload_n (q := 3) (i := 3) rfl (by decide +kernel)) <|
  allq qX12_describe 254 (.inl (a_il 6 256)) (s_iload (i := 6) (by decide +kernel)) <|
  allq qX12_describe 256 (.inl (o_icmp_gt 337 259)) (s_icmp_gt (off := 81) (by decide +kernel) (by decide)) <|
  allq qX12_describe 259 (.inl (a_al 0 260)) (s_aload_n (q := 0) (i := 0) rfl (by decide +kernel)) <|
  allq qX12_describe 260 (.inr (.inl (149, 1, 12))) (okV (y := yX12_begin) kw_1511 kw_118 rfl rfl (by decide +kernel) kw_1510 kw_64 kw_1508) <|
  allq qX12_describe 263 (.inl (a_al 0 264)) (s_aload_n (q := 0) (i := 0) rfl (by decide +kernel)) <|
  allq qX12_describe 264 (.inl (a_ic 127 266)) (s_bipush (n := 127) (v := 127) rfl (by decide +kernel)) <|
  allq qX12_describe 266 (.inl (a_al 0 267)) (s_aload_n (q := 0) (i := 0) rfl (by decide +kernel)) <|
  allq qX12_describe 267 (.inl (a_get 11 56 270)) (gX12 (f0 := 56) (by decide) kw_1241 (by decide +kernel)) <|
  allq qX12_describe 270 (.inl (o_iadd 271)) (s_iadd (by decide +kernel)) <|
  allq qX12_describe 271 (.inl (a_ic 8 273)) (s_bipush (n := 8) (v := 8) rfl (by decide +kernel)) <|
  allq qX12_describe 273 (.inr (.inl (147, 3, 12))) (okV (y := yX12_put) kw_1515 kw_118 rfl rfl (by decide +kernel) kw_1514 kw_65 kw_1512) <|
  allq qX12_describe 276 (.inl (a_ic 0 277)) (s_iconst (n := 0) (v := 0) rfl (by decide +kernel)) <|
  allq qX12_describe 277 (.inl (a_is 7 279)) (s_istore (i := 7) (by decide +kernel) (by decide)) <|
  allq qX12_describe 279 (.inl (a_il 7 281)) (s_iload (i := 7) (by decide +kernel)) <|
  allq qX12_describe 281 (.inl (a_al 0 282)) (s_aload_n (q := 0) (i := 0) rfl (by decide +kernel)) <|
  allq qX12_describe 282 (.inl (a_get 11 56 285)) (gX12 (f0 := 56) (by decide) kw_1241 (by decide +kernel)) <|
  allq qX12_describe 285 (.inl (o_icmp_ge 335 288)) (s_icmp_ge (off := 50) (by decide +kernel) (by decide)) <|
  allq qX12_describe 288 (.inl (a_al 0 289)) (s_aload_n (q := 0) (i := 0) rfl (by decide +kernel)) <|
  allq qX12_describe 289 (.inl (a_il 7 291)) (s_iload (i := 7) (by decide +kernel)) <|
  allq qX12_describe 291 (.inl (a_ic 1 292)) (s_iconst (n := 1) (v := 1) rfl (by decide +kernel)) <|
  allq qX12_describe 292 (.inl (o_iadd 293)) (s_iadd (by decide +kernel)) <|
  allq qX12_describe 293 (.inl (a_al 0 294)) (s_aload_n (q := 0) (i := 0) rfl (by decide +kernel)) <|
  allq qX12_describe 294 (.inl (a_get 11 56 297)) (gX12 (f0 := 56) (by decide) kw_1241 (by decide +kernel)) <|
  allq qX12_describe 297 (.inl (o_icmp_ge 312 300)) (s_icmp_ge (off := 15) (by decide +kernel) (by decide)) <|
  allq qX12_describe 300 (.inl (a_al 0 301)) (s_aload_n (q := 0) (i := 0) rfl (by decide +kernel)) <|
  alln
set_option maxRecDepth 20000 in
theorem kX12_describe_4 : ∀ q ∈ tX12_describe_4, qX12_describe q :=
  allq qX12_describe 301 (.inl (a_get 11 55 304)) (gX12 (f0 := 55) (by decide) kw_1240 (by decide +kernel)) <|
  allq qX12_describe 304 (.inl (a_il 7 306)) (s_iload (i := 7) (by decide +kernel)) <|
  allq qX12_describe 306 (.inl (a_ic 1 307)) (s_iconst (n := 1) (v := 1) rfl (by decide +kernel)) <|
  allq qX12_describe 307 (.inl (o_iadd 308)) (s_iadd (by decide +kernel)) <|
  allq qX12_describe 308 (.inl (a_iald 309)) (s_iald (by decide +kernel)) <|
  allq qX12_describe 309 (.inl (a_go 313)) (s_goto (off := 4) (by decide +kernel) (by decide)) <|
  allq qX12_describe 312 (.inl (a_ic 0 313)) (s_iconst (n := 0) (v := 0) rfl (by decide +kernel)) <|
  allq qX12_describe 313 (.inl (a_ic 4 314)) (s_iconst (n := 4) (v := 4) rfl (by decide +kernel)) <|
  allq qX12_describe 314 (.inr (.inl (147, 3, 12))) (okV (y := yX12_put) kw_1515 kw_118 rfl rfl (by decide +kernel) kw_1514 kw_65 kw_1512) <|
  allq qX12_describe 317 (.inl (a_al 0 318)) (s_aload_n (q := 0) (i := 0) rfl (by decide +kernel)) <|
  allq qX12_describe 318 (.inl (a_al 0 319)) (s_aload_n (q := 0) (i := 0) rfl (by decide +kernel)) <|
  allq qX12_describe 319 (.inl (a_get 11 55 322)) (gX12 (f0 := 55) (by decide) kw_1240 (by decide +kernel)) <|
  allq qX12_describe 322 (.inl (a_il 7 324)) (s_iload (i := 7) (by decide +kernel)) <|
  allq qX12_describe 324 (.inl (a_iald 325)) (s_iald (by decide +kernel)) <|
  allq qX12_describe 325 (.inl (a_ic 4 326)) (s_iconst (n := 4) (v := 4) rfl (by decide +kernel)) <|
  allq qX12_describe 326 (.inr (.inl (147, 3, 12))) (okV (y := yX12_put) kw_1515 kw_118 rfl rfl (by decide +kernel) kw_1514 kw_65 kw_1512) <|
  allq qX12_describe 329 (.inl (a_inc 7 2 332)) (s_iinc (i := 7) (n := 2) (n2 := 2) rfl (by decide +kernel) (by decide)) <|
  allq qX12_describe 332 (.inl (a_go 279)) (s_goto (off := (-53)) (by decide +kernel) (by decide)) <|
  allq qX12_describe 335 (.inl (a_il 3 336)) (s_iload_n (q := 3) (i := 3) rfl (by decide +kernel)) <|
  allq qX12_describe 336 (.inr (.inr 1)) (Or.inr (Or.inl ⟨rfl, rfl, by decide +kernel⟩)) <|
  allq qX12_describe 337 (.inl (a_al 0 338)) (s_aload_n (q := 0) (i := 0) rfl (by decide +kernel)) <|
  allq qX12_describe 338 (.inl (a_il 4 340)) (s_iload (i := 4) (by decide +kernel)) <|
  allq qX12_describe 340 (.inl (a_il 5 342)) (s_iload (i := 5) (by decide +kernel)) <|
  allq qX12_describe 342 (.inl (o_icmp_gt 349 345)) (s_icmp_gt (off := 7) (by decide +kernel) (by decide)) <|
  allq qX12_describe 345 (.inl (a_ic 5 346)) (s_iconst (n := 5) (v := 5) rfl (by decide +kernel)) <|
  allq qX12_describe 346 (.inl (a_go 351)) (s_goto (off := 5) (by decide +kernel) (by decide)) <|
  allq qX12_describe 349 (.inl (a_ic 6 351)) (s_bipush (n := 6) (v := 6) rfl (by decide +kernel)) <|
  allq qX12_describe 351 (.inr (.inl (181, 2, 12))) (okV (y := yX12_byStates) kw_1507 kw_118 rfl rfl (by decide +kernel) kw_1506 kw_63 kw_1504) <|
  allq qX12_describe 354 (.inl (a_is 7 356)) (s_istore (i := 7) (by decide +kernel) (by decide)) <|
  allq qX12_describe 356 (.inl (a_il 6 358)) (s_iload (i := 6) (by decide +kernel)) <|
  allq qX12_describe 358 (.inr (.inr 1)) (Or.inr (Or.inl ⟨rfl, rfl, by decide +kernel⟩)) <|
  alln
theorem kX12_describe : ∀ q ∈ tX12_describe, qX12_describe q := alla kX12_describe_0 (alla kX12_describe_1 (alla kX12_describe_2 (alla kX12_describe_3 kX12_describe_4)))
abbrev qX12_byStates : Nat × aI → Prop := OkQ RX12 "byStates" cX12_byStates 6 (some .int)
set_option maxRecDepth 20000 in
theorem kX12_byStates_0 : ∀ q ∈ tX12_byStates_0, qX12_byStates q :=
  allq qX12_byStates 0 (.inl (a_al 0 1)) (s_aload_n (q := 0) (i := 0) rfl (by decide +kernel)) <|
  allq qX12_byStates 1 (.inr (.inl (149, 1, 12))) (okV (y := yX12_begin) kw_1511 kw_118 rfl rfl (by decide +kernel) kw_1510 kw_64 kw_1508) <|
  allq qX12_byStates 4 (.inl (a_al 0 5)) (s_aload_n (q := 0) (i := 0) rfl (by decide +kernel)) <|
  allq qX12_byStates 5 (.inl (a_ic 0 6)) (s_iconst (n := 0) (v := 0) rfl (by decide +kernel)) <|
  allq qX12_byStates 6 (.inl (a_ic 8 8)) (s_bipush (n := 8) (v := 8) rfl (by decide +kernel)) <|
  allq qX12_byStates 8 (.inr (.inl (147, 3, 12))) (okV (y := yX12_put) kw_1515 kw_118 rfl rfl (by decide +kernel) kw_1514 kw_65 kw_1512) <|
  allq qX12_byStates 11 (.inl (a_al 0 12)) (s_aload_n (q := 0) (i := 0) rfl (by decide +kernel)) <|
  allq qX12_byStates 12 (.inl (a_al 0 13)) (s_aload_n (q := 0) (i := 0) rfl (by decide +kernel)) <|
  allq qX12_byStates 13 (.inl (a_get 11 56 16)) (gX12 (f0 := 56) (by decide) kw_1241 (by decide +kernel)) <|
  allq qX12_byStates 16 (.inl (a_il 1 17)) (s_iload_n (q := 1) (i := 1) rfl (by decide +kernel)) <|
  allq qX12_byStates 17 (.inr (.inl (169, 3, 12))) (okV (y := yX12_divide) kw_1520 kw_118 rfl rfl (by decide +kernel) kw_1519 kw_66 kw_1517) <|
  allq qX12_byStates 20 (.inl (a_al 0 21)) (s_aload_n (q := 0) (i := 0) rfl (by decide +kernel)) <|
  allq qX12_byStates 21 (.inl (a_al 0 22)) (s_aload_n (q := 0) (i := 0) rfl (by decide +kernel)) <|
  allq qX12_byStates 22 (.inl (a_get 11 45 25)) (gX12 (f0 := 45) (by decide) kw_1230 (by decide +kernel)) <|
  allq qX12_byStates 25 (.inl (a_ic 0 26)) (s_iconst (n := 0) (v := 0) rfl (by decide +kernel)) <|
  allq qX12_byStates 26 (.inl (a_il 1 27)) (s_iload_n (q := 1) (i := 1) rfl (by decide +kernel)) <|
  allq qX12_byStates 27 (.inr (.inl (170, 4, 12))) (okV (y := yX12_putShare) kw_1527 kw_118 rfl rfl (by decide +kernel) kw_1526 kw_67 kw_1524) <|
  allq qX12_byStates 30 (.inl (a_al 0 31)) (s_aload_n (q := 0) (i := 0) rfl (by decide +kernel)) <|
  allq qX12_byStates 31 (.inl (a_al 0 32)) (s_aload_n (q := 0) (i := 0) rfl (by decide +kernel)) <|
  allq qX12_byStates 32 (.inl (a_get 11 45 35)) (gX12 (f0 := 45) (by decide) kw_1230 (by decide +kernel)) <|
  allq qX12_byStates 35 (.inl (a_ic 0 36)) (s_iconst (n := 0) (v := 0) rfl (by decide +kernel)) <|
  allq qX12_byStates 36 (.inl (a_ic 64 38)) (s_bipush (n := 64) (v := 64) rfl (by decide +kernel)) <|
  allq qX12_byStates 38 (.inl (a_il 1 39)) (s_iload_n (q := 1) (i := 1) rfl (by decide +kernel)) <|
  allq qX12_byStates 39 (.inl (a_ic 1536 42)) (s_sipush (n := 1536) (v := 1536) rfl (by decide +kernel)) <|
  allq qX12_byStates 42 (.inr (.inl (165, 6, 12))) (okV (y := yX12_lay) kw_1538 kw_118 rfl rfl (by decide +kernel) kw_1537 kw_69 kw_1535) <|
  allq qX12_byStates 45 (.inl (a_al 0 46)) (s_aload_n (q := 0) (i := 0) rfl (by decide +kernel)) <|
  allq qX12_byStates 46 (.inl (a_ic 1536 49)) (s_sipush (n := 1536) (v := 1536) rfl (by decide +kernel)) <|
  allq qX12_byStates 49 (.inl (a_il 1 50)) (s_iload_n (q := 1) (i := 1) rfl (by decide +kernel)) <|
  allq qX12_byStates 50 (.inl (a_al 0 51)) (s_aload_n (q := 0) (i := 0) rfl (by decide +kernel)) <|
  allq qX12_byStates 51 (.inl (a_get 11 55 54)) (gX12 (f0 := 55) (by decide) kw_1240 (by decide +kernel)) <|
  allq qX12_byStates 54 (.inl (a_al 0 55)) (s_aload_n (q := 0) (i := 0) rfl (by decide +kernel)) <|
  allq qX12_byStates 55 (.inl (a_get 11 56 58)) (gX12 (f0 := 56) (by decide) kw_1241 (by decide +kernel)) <|
  allq qX12_byStates 58 (.inl (a_ic 1 59)) (s_iconst (n := 1) (v := 1) rfl (by decide +kernel)) <|
  allq qX12_byStates 59 (.inl (o_isub 60)) (s_isub (by decide +kernel)) <|
  allq qX12_byStates 60 (.inl (a_iald 61)) (s_iald (by decide +kernel)) <|
  allq qX12_byStates 61 (.inl (a_ic 1 62)) (s_iconst (n := 1) (v := 1) rfl (by decide +kernel)) <|
  allq qX12_byStates 62 (.inr (.inl (166, 5, 12))) (okV (y := yX12_lowest) kw_1542 kw_118 rfl rfl (by decide +kernel) kw_1541 kw_70 kw_1539) <|
  allq qX12_byStates 65 (.inl (a_is 2 66)) (s_istore_n (q := 2) (i := 2) rfl (by decide +kernel) (by decide)) <|
  allq qX12_byStates 66 (.inl (a_al 0 67)) (s_aload_n (q := 0) (i := 0) rfl (by decide +kernel)) <|
  allq qX12_byStates 67 (.inl (a_ic 1536 70)) (s_sipush (n := 1536) (v := 1536) rfl (by decide +kernel)) <|
  alln
set_option maxRecDepth 20000 in
theorem kX12_byStates_1 : ∀ q ∈ tX12_byStates_1, qX12_byStates q :=
  allq qX12_byStates 70 (.inl (a_il 1 71)) (s_iload_n (q := 1) (i := 1) rfl (by decide +kernel)) <|
  allq qX12_byStates 71 (.inl (a_al 0 72)) (s_aload_n (q := 0) (i := 0) rfl (by decide +kernel)) <|
  allq qX12_byStates 72 (.inl (a_get 11 55 75)) (gX12 (f0 := 55) (by decide) kw_1240 (by decide +kernel)) <|
  allq qX12_byStates 75 (.inl (a_al 0 76)) (s_aload_n (q := 0) (i := 0) rfl (by decide +kernel)) <|
  allq qX12_byStates 76 (.inl (a_get 11 56 79)) (gX12 (f0 := 56) (by decide) kw_1241 (by decide +kernel)) <|
  allq qX12_byStates 79 (.inl (a_ic 2 80)) (s_iconst (n := 2) (v := 2) rfl (by decide +kernel)) <|
  allq qX12_byStates 80 (.inl (o_isub 81)) (s_isub (by decide +kernel)) <|
  allq qX12_byStates 81 (.inl (a_iald 82)) (s_iald (by decide +kernel)) <|
  allq qX12_byStates 82 (.inl (a_ic 1 83)) (s_iconst (n := 1) (v := 1) rfl (by decide +kernel)) <|
  allq qX12_byStates 83 (.inr (.inl (166, 5, 12))) (okV (y := yX12_lowest) kw_1542 kw_118 rfl rfl (by decide +kernel) kw_1541 kw_70 kw_1539) <|
  allq qX12_byStates 86 (.inl (a_is 3 87)) (s_istore_n (q := 3) (i := 3) rfl (by decide +kernel) (by decide)) <|
  allq qX12_byStates 87 (.inl (a_al 0 88)) (s_aload_n (q := 0) (i := 0) rfl (by decide +kernel)) <|
  allq qX12_byStates 88 (.inl (a_get 11 56 91)) (gX12 (f0 := 56) (by decide) kw_1241 (by decide +kernel)) <|
  allq qX12_byStates 91 (.inl (a_ic 3 92)) (s_iconst (n := 3) (v := 3) rfl (by decide +kernel)) <|
  allq qX12_byStates 92 (.inl (o_isub 93)) (s_isub (by decide +kernel)) <|
  allq qX12_byStates 93 (.inl (a_is 4 95)) (s_istore (i := 4) (by decide +kernel) (by decide)) <|
  allq qX12_byStates 95 (.inl (a_il 4 97)) (s_iload (i := 4) (by decide +kernel)) <|
  allq qX12_byStates 97 (.inl (o_if_lt 157 100)) (s_if_lt (off := 60) (by decide +kernel) (by decide)) <|
  allq qX12_byStates 100 (.inl (a_al 0 101)) (s_aload_n (q := 0) (i := 0) rfl (by decide +kernel)) <|
  allq qX12_byStates 101 (.inl (a_ic 1536 104)) (s_sipush (n := 1536) (v := 1536) rfl (by decide +kernel)) <|
  allq qX12_byStates 104 (.inl (a_il 1 105)) (s_iload_n (q := 1) (i := 1) rfl (by decide +kernel)) <|
  allq qX12_byStates 105 (.inl (a_al 0 106)) (s_aload_n (q := 0) (i := 0) rfl (by decide +kernel)) <|
  allq qX12_byStates 106 (.inl (a_get 11 55 109)) (gX12 (f0 := 55) (by decide) kw_1240 (by decide +kernel)) <|
  allq qX12_byStates 109 (.inl (a_il 4 111)) (s_iload (i := 4) (by decide +kernel)) <|
  allq qX12_byStates 111 (.inl (a_iald 112)) (s_iald (by decide +kernel)) <|
  allq qX12_byStates 112 (.inl (a_il 2 113)) (s_iload_n (q := 2) (i := 2) rfl (by decide +kernel)) <|
  allq qX12_byStates 113 (.inr (.inl (167, 5, 12))) (okV (y := yX12_leading) kw_1546 kw_118 rfl rfl (by decide +kernel) kw_1545 kw_71 kw_1543) <|
  allq qX12_byStates 116 (.inl (a_is 5 118)) (s_istore (i := 5) (by decide +kernel) (by decide)) <|
  allq qX12_byStates 118 (.inl (a_al 0 119)) (s_aload_n (q := 0) (i := 0) rfl (by decide +kernel)) <|
  allq qX12_byStates 119 (.inl (a_il 2 120)) (s_iload_n (q := 2) (i := 2) rfl (by decide +kernel)) <|
  allq qX12_byStates 120 (.inl (a_al 0 121)) (s_aload_n (q := 0) (i := 0) rfl (by decide +kernel)) <|
  allq qX12_byStates 121 (.inl (a_get 11 43 124)) (gX12 (f0 := 43) (by decide) kw_1228 (by decide +kernel)) <|
  allq qX12_byStates 124 (.inl (a_ic 1536 127)) (s_sipush (n := 1536) (v := 1536) rfl (by decide +kernel)) <|
  allq qX12_byStates 127 (.inl (a_il 5 129)) (s_iload (i := 5) (by decide +kernel)) <|
  allq qX12_byStates 129 (.inl (o_iadd 130)) (s_iadd (by decide +kernel)) <|
  allq qX12_byStates 130 (.inl (a_iald 131)) (s_iald (by decide +kernel)) <|
  allq qX12_byStates 131 (.inl (o_isub 132)) (s_isub (by decide +kernel)) <|
  allq qX12_byStates 132 (.inl (a_al 0 133)) (s_aload_n (q := 0) (i := 0) rfl (by decide +kernel)) <|
  allq qX12_byStates 133 (.inl (a_get 11 42 136)) (gX12 (f0 := 42) (by decide) kw_1227 (by decide +kernel)) <|
  allq qX12_byStates 136 (.inl (a_ic 1536 139)) (s_sipush (n := 1536) (v := 1536) rfl (by decide +kernel)) <|
  alln
set_option maxRecDepth 20000 in
theorem kX12_byStates_2 : ∀ q ∈ tX12_byStates_2, qX12_byStates q :=
  allq qX12_byStates 139 (.inl (a_il 5 141)) (s_iload (i := 5) (by decide +kernel)) <|
  allq qX12_byStates 141 (.inl (o_iadd 142)) (s_iadd (by decide +kernel)) <|
  allq qX12_byStates 142 (.inl (a_iald 143)) (s_iald (by decide +kernel)) <|
  allq qX12_byStates 143 (.inr (.inl (147, 3, 12))) (okV (y := yX12_put) kw_1515 kw_118 rfl rfl (by decide +kernel) kw_1514 kw_65 kw_1512) <|
  allq qX12_byStates 146 (.inl (a_il 3 147)) (s_iload_n (q := 3) (i := 3) rfl (by decide +kernel)) <|
  allq qX12_byStates 147 (.inl (a_is 2 148)) (s_istore_n (q := 2) (i := 2) rfl (by decide +kernel) (by decide)) <|
  allq qX12_byStates 148 (.inl (a_il 5 150)) (s_iload (i := 5) (by decide +kernel)) <|
  allq qX12_byStates 150 (.inl (a_is 3 151)) (s_istore_n (q := 3) (i := 3) rfl (by decide +kernel) (by decide)) <|
  allq qX12_byStates 151 (.inl (a_inc 4 (-1) 154)) (s_iinc (i := 4) (n := (-1)) (n2 := (-1)) rfl (by decide +kernel) (by decide)) <|
  allq qX12_byStates 154 (.inl (a_go 95)) (s_goto (off := (-59)) (by decide +kernel) (by decide)) <|
  allq qX12_byStates 157 (.inl (a_al 0 158)) (s_aload_n (q := 0) (i := 0) rfl (by decide +kernel)) <|
  allq qX12_byStates 158 (.inl (a_il 2 159)) (s_iload_n (q := 2) (i := 2) rfl (by decide +kernel)) <|
  allq qX12_byStates 159 (.inl (a_il 1 160)) (s_iload_n (q := 1) (i := 1) rfl (by decide +kernel)) <|
  allq qX12_byStates 160 (.inr (.inl (147, 3, 12))) (okV (y := yX12_put) kw_1515 kw_118 rfl rfl (by decide +kernel) kw_1514 kw_65 kw_1512) <|
  allq qX12_byStates 163 (.inl (a_al 0 164)) (s_aload_n (q := 0) (i := 0) rfl (by decide +kernel)) <|
  allq qX12_byStates 164 (.inl (a_il 3 165)) (s_iload_n (q := 3) (i := 3) rfl (by decide +kernel)) <|
  allq qX12_byStates 165 (.inl (a_il 1 166)) (s_iload_n (q := 1) (i := 1) rfl (by decide +kernel)) <|
  allq qX12_byStates 166 (.inr (.inl (147, 3, 12))) (okV (y := yX12_put) kw_1515 kw_118 rfl rfl (by decide +kernel) kw_1514 kw_65 kw_1512) <|
  allq qX12_byStates 169 (.inl (a_al 0 170)) (s_aload_n (q := 0) (i := 0) rfl (by decide +kernel)) <|
  allq qX12_byStates 170 (.inl (a_ic 1 171)) (s_iconst (n := 1) (v := 1) rfl (by decide +kernel)) <|
  allq qX12_byStates 171 (.inl (a_ic 1 172)) (s_iconst (n := 1) (v := 1) rfl (by decide +kernel)) <|
  allq qX12_byStates 172 (.inr (.inl (147, 3, 12))) (okV (y := yX12_put) kw_1515 kw_118 rfl rfl (by decide +kernel) kw_1514 kw_65 kw_1512) <|
  allq qX12_byStates 175 (.inl (a_al 0 176)) (s_aload_n (q := 0) (i := 0) rfl (by decide +kernel)) <|
  allq qX12_byStates 176 (.inr (.inl (148, 1, 12))) (okV (y := yX12_fill) kw_1534 kw_118 rfl rfl (by decide +kernel) kw_1533 kw_68 kw_1531) <|
  allq qX12_byStates 179 (.inl (a_al 0 180)) (s_aload_n (q := 0) (i := 0) rfl (by decide +kernel)) <|
  allq qX12_byStates 180 (.inl (a_get 11 37 183)) (gX12 (f0 := 37) (by decide) kw_1222 (by decide +kernel)) <|
  allq qX12_byStates 183 (.inl (a_ic 0 184)) (s_iconst (n := 0) (v := 0) rfl (by decide +kernel)) <|
  allq qX12_byStates 184 (.inl (a_al 0 185)) (s_aload_n (q := 0) (i := 0) rfl (by decide +kernel)) <|
  allq qX12_byStates 185 (.inl (a_get 11 38 188)) (gX12 (f0 := 38) (by decide) kw_1223 (by decide +kernel)) <|
  allq qX12_byStates 188 (.inl (a_ic 8 190)) (s_bipush (n := 8) (v := 8) rfl (by decide +kernel)) <|
  allq qX12_byStates 190 (.inl (o_idiv 191)) (s_idiv (by decide +kernel)) <|
  allq qX12_byStates 191 (.inl (a_ic 1 192)) (s_iconst (n := 1) (v := 1) rfl (by decide +kernel)) <|
  allq qX12_byStates 192 (.inl (o_isub 193)) (s_isub (by decide +kernel)) <|
  allq qX12_byStates 193 (.inl (a_iast 194)) (s_iast (by decide +kernel)) <|
  allq qX12_byStates 194 (.inl (a_al 0 195)) (s_aload_n (q := 0) (i := 0) rfl (by decide +kernel)) <|
  allq qX12_byStates 195 (.inl (a_get 11 38 198)) (gX12 (f0 := 38) (by decide) kw_1223 (by decide +kernel)) <|
  allq qX12_byStates 198 (.inl (a_ic 8 200)) (s_bipush (n := 8) (v := 8) rfl (by decide +kernel)) <|
  allq qX12_byStates 200 (.inl (o_idiv 201)) (s_idiv (by decide +kernel)) <|
  allq qX12_byStates 201 (.inr (.inr 1)) (Or.inr (Or.inl ⟨rfl, rfl, by decide +kernel⟩)) <|
  alln
theorem kX12_byStates : ∀ q ∈ tX12_byStates, qX12_byStates q := alla kX12_byStates_0 (alla kX12_byStates_1 kX12_byStates_2)
abbrev qX12_streamBytes : Nat × aI → Prop := OkQ RX12 "streamBytes" cX12_streamBytes 6 (some .int)
set_option maxRecDepth 20000 in
theorem kX12_streamBytes_0 : ∀ q ∈ tX12_streamBytes_0, qX12_streamBytes q :=
  allq qX12_streamBytes 0 (.inl (a_ic 1 1)) (s_iconst (n := 1) (v := 1) rfl (by decide +kernel)) <|
  allq qX12_streamBytes 1 (.inl (a_is 4 3)) (s_istore (i := 4) (by decide +kernel) (by decide)) <|
  allq qX12_streamBytes 3 (.inl (a_il 2 4)) (s_iload_n (q := 2) (i := 2) rfl (by decide +kernel)) <|
  allq qX12_streamBytes 4 (.inl (a_is 5 6)) (s_istore (i := 5) (by decide +kernel) (by decide)) <|
  allq qX12_streamBytes 6 (.inl (a_il 5 8)) (s_iload (i := 5) (by decide +kernel)) <|
  allq qX12_streamBytes 8 (.inl (a_il 3 9)) (s_iload_n (q := 3) (i := 3) rfl (by decide +kernel)) <|
  allq qX12_streamBytes 9 (.inl (o_icmp_ge 32 12)) (s_icmp_ge (off := 23) (by decide +kernel) (by decide)) <|
  allq qX12_streamBytes 12 (.inl (a_il 4 14)) (s_iload (i := 4) (by decide +kernel)) <|
  allq qX12_streamBytes 14 (.inl (a_al 1 15)) (s_aload_n (q := 1) (i := 1) rfl (by decide +kernel)) <|
  allq qX12_streamBytes 15 (.inl (a_al 0 16)) (s_aload_n (q := 0) (i := 0) rfl (by decide +kernel)) <|
  allq qX12_streamBytes 16 (.inl (a_get 11 32 19)) (gX12 (f0 := 32) (by decide) kw_1217 (by decide +kernel)) <|
  allq qX12_streamBytes 19 (.inl (a_il 5 21)) (s_iload (i := 5) (by decide +kernel)) <|
  allq qX12_streamBytes 21 (.inl (a_iald 22)) (s_iald (by decide +kernel)) <|
  allq qX12_streamBytes 22 (.inl (a_iald 23)) (s_iald (by decide +kernel)) <|
  allq qX12_streamBytes 23 (.inl (o_iadd 24)) (s_iadd (by decide +kernel)) <|
  allq qX12_streamBytes 24 (.inl (a_is 4 26)) (s_istore (i := 4) (by decide +kernel) (by decide)) <|
  allq qX12_streamBytes 26 (.inl (a_inc 5 1 29)) (s_iinc (i := 5) (n := 1) (n2 := 1) rfl (by decide +kernel) (by decide)) <|
  allq qX12_streamBytes 29 (.inl (a_go 6)) (s_goto (off := (-23)) (by decide +kernel) (by decide)) <|
  allq qX12_streamBytes 32 (.inl (a_il 4 34)) (s_iload (i := 4) (by decide +kernel)) <|
  allq qX12_streamBytes 34 (.inl (a_ic 7 36)) (s_bipush (n := 7) (v := 7) rfl (by decide +kernel)) <|
  allq qX12_streamBytes 36 (.inl (o_iadd 37)) (s_iadd (by decide +kernel)) <|
  allq qX12_streamBytes 37 (.inl (a_ic 8 39)) (s_bipush (n := 8) (v := 8) rfl (by decide +kernel)) <|
  allq qX12_streamBytes 39 (.inl (o_idiv 40)) (s_idiv (by decide +kernel)) <|
  allq qX12_streamBytes 40 (.inr (.inr 1)) (Or.inr (Or.inl ⟨rfl, rfl, by decide +kernel⟩)) <|
  alln
theorem kX12_streamBytes : ∀ q ∈ tX12_streamBytes, qX12_streamBytes q := kX12_streamBytes_0
abbrev qX12_fourBytes : Nat × aI → Prop := OkQ RX12 "fourBytes" cX12_fourBytes 3 (some .int)
set_option maxRecDepth 20000 in
theorem kX12_fourBytes_0 : ∀ q ∈ tX12_fourBytes_0, qX12_fourBytes q :=
  allq qX12_fourBytes 0 (.inl (a_al 0 1)) (s_aload_n (q := 0) (i := 0) rfl (by decide +kernel)) <|
  allq qX12_fourBytes 1 (.inl (a_get 11 33 4)) (gX12 (f0 := 33) (by decide) kw_1218 (by decide +kernel)) <|
  allq qX12_fourBytes 4 (.inl (a_ic 3 5)) (s_iconst (n := 3) (v := 3) rfl (by decide +kernel)) <|
  allq qX12_fourBytes 5 (.inl (o_iadd 6)) (s_iadd (by decide +kernel)) <|
  allq qX12_fourBytes 6 (.inl (a_ic 4 7)) (s_iconst (n := 4) (v := 4) rfl (by decide +kernel)) <|
  allq qX12_fourBytes 7 (.inl (o_idiv 8)) (s_idiv (by decide +kernel)) <|
  allq qX12_fourBytes 8 (.inl (a_is 2 9)) (s_istore_n (q := 2) (i := 2) rfl (by decide +kernel) (by decide)) <|
  allq qX12_fourBytes 9 (.inl (a_ic 6 11)) (s_bipush (n := 6) (v := 6) rfl (by decide +kernel)) <|
  allq qX12_fourBytes 11 (.inl (a_al 0 12)) (s_aload_n (q := 0) (i := 0) rfl (by decide +kernel)) <|
  allq qX12_fourBytes 12 (.inl (a_al 1 13)) (s_aload_n (q := 1) (i := 1) rfl (by decide +kernel)) <|
  allq qX12_fourBytes 13 (.inl (a_ic 0 14)) (s_iconst (n := 0) (v := 0) rfl (by decide +kernel)) <|
  allq qX12_fourBytes 14 (.inl (a_il 2 15)) (s_iload_n (q := 2) (i := 2) rfl (by decide +kernel)) <|
  allq qX12_fourBytes 15 (.inr (.inl (182, 4, 12))) (okV (y := yX12_streamBytes) kw_1469 kw_118 rfl rfl (by decide +kernel) kw_1468 kw_55 kw_1466) <|
  allq qX12_fourBytes 18 (.inl (o_iadd 19)) (s_iadd (by decide +kernel)) <|
  allq qX12_fourBytes 19 (.inl (a_al 0 20)) (s_aload_n (q := 0) (i := 0) rfl (by decide +kernel)) <|
  allq qX12_fourBytes 20 (.inl (a_al 1 21)) (s_aload_n (q := 1) (i := 1) rfl (by decide +kernel)) <|
  allq qX12_fourBytes 21 (.inl (a_il 2 22)) (s_iload_n (q := 2) (i := 2) rfl (by decide +kernel)) <|
  allq qX12_fourBytes 22 (.inl (a_ic 2 23)) (s_iconst (n := 2) (v := 2) rfl (by decide +kernel)) <|
  allq qX12_fourBytes 23 (.inl (a_il 2 24)) (s_iload_n (q := 2) (i := 2) rfl (by decide +kernel)) <|
  allq qX12_fourBytes 24 (.inl (o_imul 25)) (s_imul (by decide +kernel)) <|
  allq qX12_fourBytes 25 (.inr (.inl (182, 4, 12))) (okV (y := yX12_streamBytes) kw_1469 kw_118 rfl rfl (by decide +kernel) kw_1468 kw_55 kw_1466) <|
  allq qX12_fourBytes 28 (.inl (o_iadd 29)) (s_iadd (by decide +kernel)) <|
  allq qX12_fourBytes 29 (.inl (a_al 0 30)) (s_aload_n (q := 0) (i := 0) rfl (by decide +kernel)) <|
  allq qX12_fourBytes 30 (.inl (a_al 1 31)) (s_aload_n (q := 1) (i := 1) rfl (by decide +kernel)) <|
  allq qX12_fourBytes 31 (.inl (a_ic 2 32)) (s_iconst (n := 2) (v := 2) rfl (by decide +kernel)) <|
  allq qX12_fourBytes 32 (.inl (a_il 2 33)) (s_iload_n (q := 2) (i := 2) rfl (by decide +kernel)) <|
  allq qX12_fourBytes 33 (.inl (o_imul 34)) (s_imul (by decide +kernel)) <|
  allq qX12_fourBytes 34 (.inl (a_ic 3 35)) (s_iconst (n := 3) (v := 3) rfl (by decide +kernel)) <|
  allq qX12_fourBytes 35 (.inl (a_il 2 36)) (s_iload_n (q := 2) (i := 2) rfl (by decide +kernel)) <|
  allq qX12_fourBytes 36 (.inl (o_imul 37)) (s_imul (by decide +kernel)) <|
  allq qX12_fourBytes 37 (.inr (.inl (182, 4, 12))) (okV (y := yX12_streamBytes) kw_1469 kw_118 rfl rfl (by decide +kernel) kw_1468 kw_55 kw_1466) <|
  allq qX12_fourBytes 40 (.inl (o_iadd 41)) (s_iadd (by decide +kernel)) <|
  allq qX12_fourBytes 41 (.inl (a_al 0 42)) (s_aload_n (q := 0) (i := 0) rfl (by decide +kernel)) <|
  allq qX12_fourBytes 42 (.inl (a_al 1 43)) (s_aload_n (q := 1) (i := 1) rfl (by decide +kernel)) <|
  allq qX12_fourBytes 43 (.inl (a_ic 3 44)) (s_iconst (n := 3) (v := 3) rfl (by decide +kernel)) <|
  allq qX12_fourBytes 44 (.inl (a_il 2 45)) (s_iload_n (q := 2) (i := 2) rfl (by decide +kernel)) <|
  allq qX12_fourBytes 45 (.inl (o_imul 46)) (s_imul (by decide +kernel)) <|
  allq qX12_fourBytes 46 (.inl (a_al 0 47)) (s_aload_n (q := 0) (i := 0) rfl (by decide +kernel)) <|
  allq qX12_fourBytes 47 (.inl (a_get 11 33 50)) (gX12 (f0 := 33) (by decide) kw_1218 (by decide +kernel)) <|
  allq qX12_fourBytes 50 (.inr (.inl (182, 4, 12))) (okV (y := yX12_streamBytes) kw_1469 kw_118 rfl rfl (by decide +kernel) kw_1468 kw_55 kw_1466) <|
  alln
set_option maxRecDepth 20000 in
theorem kX12_fourBytes_1 : ∀ q ∈ tX12_fourBytes_1, qX12_fourBytes q :=
  allq qX12_fourBytes 53 (.inl (o_iadd 54)) (s_iadd (by decide +kernel)) <|
  allq qX12_fourBytes 54 (.inr (.inr 1)) (Or.inr (Or.inl ⟨rfl, rfl, by decide +kernel⟩)) <|
  alln
theorem kX12_fourBytes : ∀ q ∈ tX12_fourBytes, qX12_fourBytes q := alla kX12_fourBytes_0 kX12_fourBytes_1
abbrev qX12_bytesTold : Nat × aI → Prop := OkQ RX12 "bytesTold" cX12_bytesTold 3 (some .int)
set_option maxRecDepth 20000 in
theorem kX12_bytesTold_0 : ∀ q ∈ tX12_bytesTold_0, qX12_bytesTold q :=
  allq qX12_bytesTold 0 (.inl (a_il 2 1)) (s_iload_n (q := 2) (i := 2) rfl (by decide +kernel)) <|
  allq qX12_bytesTold 1 (.inl (a_al 0 2)) (s_aload_n (q := 0) (i := 0) rfl (by decide +kernel)) <|
  allq qX12_bytesTold 2 (.inl (a_get 11 33 5)) (gX12 (f0 := 33) (by decide) kw_1218 (by decide +kernel)) <|
  allq qX12_bytesTold 5 (.inl (a_ic 1024 8)) (s_sipush (n := 1024) (v := 1024) rfl (by decide +kernel)) <|
  allq qX12_bytesTold 8 (.inl (o_icmp_ge 24 11)) (s_icmp_ge (off := 16) (by decide +kernel) (by decide)) <|
  allq qX12_bytesTold 11 (.inl (a_al 0 12)) (s_aload_n (q := 0) (i := 0) rfl (by decide +kernel)) <|
  allq qX12_bytesTold 12 (.inl (a_al 1 13)) (s_aload_n (q := 1) (i := 1) rfl (by decide +kernel)) <|
  allq qX12_bytesTold 13 (.inl (a_ic 0 14)) (s_iconst (n := 0) (v := 0) rfl (by decide +kernel)) <|
  allq qX12_bytesTold 14 (.inl (a_al 0 15)) (s_aload_n (q := 0) (i := 0) rfl (by decide +kernel)) <|
  allq qX12_bytesTold 15 (.inl (a_get 11 33 18)) (gX12 (f0 := 33) (by decide) kw_1218 (by decide +kernel)) <|
  allq qX12_bytesTold 18 (.inr (.inl (182, 4, 12))) (okV (y := yX12_streamBytes) kw_1469 kw_118 rfl rfl (by decide +kernel) kw_1468 kw_55 kw_1466) <|
  allq qX12_bytesTold 21 (.inl (a_go 29)) (s_goto (off := 8) (by decide +kernel) (by decide)) <|
  allq qX12_bytesTold 24 (.inl (a_al 0 25)) (s_aload_n (q := 0) (i := 0) rfl (by decide +kernel)) <|
  allq qX12_bytesTold 25 (.inl (a_al 1 26)) (s_aload_n (q := 1) (i := 1) rfl (by decide +kernel)) <|
  allq qX12_bytesTold 26 (.inr (.inl (183, 2, 12))) (okV (y := yX12_fourBytes) kw_1473 kw_118 rfl rfl (by decide +kernel) kw_1472 kw_56 kw_1470) <|
  allq qX12_bytesTold 29 (.inl (o_iadd 30)) (s_iadd (by decide +kernel)) <|
  allq qX12_bytesTold 30 (.inr (.inr 1)) (Or.inr (Or.inl ⟨rfl, rfl, by decide +kernel⟩)) <|
  alln
theorem kX12_bytesTold : ∀ q ∈ tX12_bytesTold, qX12_bytesTold q := kX12_bytesTold_0
abbrev qX12_width : Nat × aI → Prop := OkQ RX12 "width" cX12_width 1 (some .int)
set_option maxRecDepth 20000 in
theorem kX12_width_0 : ∀ q ∈ tX12_width_0, qX12_width q :=
  allq qX12_width 0 (.inl (a_il 0 1)) (s_iload_n (q := 0) (i := 0) rfl (by decide +kernel)) <|
  allq qX12_width 1 (.inl (a_ic 2 2)) (s_iconst (n := 2) (v := 2) rfl (by decide +kernel)) <|
  allq qX12_width 2 (.inl (o_icmp_ge 10 5)) (s_icmp_ge (off := 8) (by decide +kernel) (by decide)) <|
  allq qX12_width 5 (.inl (a_ic 10 7)) (s_bipush (n := 10) (v := 10) rfl (by decide +kernel)) <|
  allq qX12_width 7 (.inl (a_go 22)) (s_goto (off := 15) (by decide +kernel) (by decide)) <|
  allq qX12_width 10 (.inl (a_il 0 11)) (s_iload_n (q := 0) (i := 0) rfl (by decide +kernel)) <|
  allq qX12_width 11 (.inl (a_ic 2 12)) (s_iconst (n := 2) (v := 2) rfl (by decide +kernel)) <|
  allq qX12_width 12 (.inl (o_icmp_ne 20 15)) (s_icmp_ne (off := 8) (by decide +kernel) (by decide)) <|
  allq qX12_width 15 (.inl (a_ic 14 17)) (s_bipush (n := 14) (v := 14) rfl (by decide +kernel)) <|
  allq qX12_width 17 (.inl (a_go 22)) (s_goto (off := 5) (by decide +kernel) (by decide)) <|
  allq qX12_width 20 (.inl (a_ic 18 22)) (s_bipush (n := 18) (v := 18) rfl (by decide +kernel)) <|
  allq qX12_width 22 (.inr (.inr 1)) (Or.inr (Or.inl ⟨rfl, rfl, by decide +kernel⟩)) <|
  alln
theorem kX12_width : ∀ q ∈ tX12_width, qX12_width q := kX12_width_0
abbrev qX12_headBytes : Nat × aI → Prop := OkQ RX12 "headBytes" cX12_headBytes 1 (some .int)
set_option maxRecDepth 20000 in
theorem kX12_headBytes_0 : ∀ q ∈ tX12_headBytes_0, qX12_headBytes q :=
  allq qX12_headBytes 0 (.inl (a_il 0 1)) (s_iload_n (q := 0) (i := 0) rfl (by decide +kernel)) <|
  allq qX12_headBytes 1 (.inl (a_ic 2 2)) (s_iconst (n := 2) (v := 2) rfl (by decide +kernel)) <|
  allq qX12_headBytes 2 (.inl (o_icmp_ge 9 5)) (s_icmp_ge (off := 7) (by decide +kernel) (by decide)) <|
  allq qX12_headBytes 5 (.inl (a_ic 3 6)) (s_iconst (n := 3) (v := 3) rfl (by decide +kernel)) <|
  allq qX12_headBytes 6 (.inl (a_go 19)) (s_goto (off := 13) (by decide +kernel) (by decide)) <|
  allq qX12_headBytes 9 (.inl (a_il 0 10)) (s_iload_n (q := 0) (i := 0) rfl (by decide +kernel)) <|
  allq qX12_headBytes 10 (.inl (a_ic 2 11)) (s_iconst (n := 2) (v := 2) rfl (by decide +kernel)) <|
  allq qX12_headBytes 11 (.inl (o_icmp_ne 18 14)) (s_icmp_ne (off := 7) (by decide +kernel) (by decide)) <|
  allq qX12_headBytes 14 (.inl (a_ic 4 15)) (s_iconst (n := 4) (v := 4) rfl (by decide +kernel)) <|
  allq qX12_headBytes 15 (.inl (a_go 19)) (s_goto (off := 4) (by decide +kernel) (by decide)) <|
  allq qX12_headBytes 18 (.inl (a_ic 5 19)) (s_iconst (n := 5) (v := 5) rfl (by decide +kernel)) <|
  allq qX12_headBytes 19 (.inr (.inr 1)) (Or.inr (Or.inl ⟨rfl, rfl, by decide +kernel⟩)) <|
  alln
theorem kX12_headBytes : ∀ q ∈ tX12_headBytes, qX12_headBytes q := kX12_headBytes_0
