/-! each entry is one that the machine does (printed by a program) -/
abbrev qX12_forget : Nat × aI → Prop := OkQ RX12 "forget" cX12_forget 1 (none)
set_option maxRecDepth 20000 in
theorem kX12_forget_0 : ∀ q ∈ tX12_forget_0, qX12_forget q :=
  allq qX12_forget 0 (.inl (a_al 0 1)) (s_aload_n (q := 0) (i := 0) rfl (by decide +kernel)) <|
  allq qX12_forget 1 (.inl (a_ic 0 2)) (s_iconst (n := 0) (v := 0) rfl (by decide +kernel)) <|
  allq qX12_forget 2 (.inl (a_put 11 7 .int 5)) (pX12 (f0 := 7) (by decide) rfl rfl tOk kw_1192 (by decide +kernel)) <|
  allq qX12_forget 5 (.inl (a_al 0 6)) (s_aload_n (q := 0) (i := 0) rfl (by decide +kernel)) <|
  allq qX12_forget 6 (.inl (a_ic 0 7)) (s_iconst (n := 0) (v := 0) rfl (by decide +kernel)) <|
  allq qX12_forget 7 (.inl (a_put 11 8 .int 10)) (pX12 (f0 := 8) (by decide) rfl rfl tOk kw_1193 (by decide +kernel)) <|
  allq qX12_forget 10 (.inl (a_al 0 11)) (s_aload_n (q := 0) (i := 0) rfl (by decide +kernel)) <|
  allq qX12_forget 11 (.inl (a_ic 0 12)) (s_iconst (n := 0) (v := 0) rfl (by decide +kernel)) <|
  allq qX12_forget 12 (.inl (a_put 11 9 .boolean 15)) (pX12 (f0 := 9) (by decide) rfl rfl tOk kw_1194 (by decide +kernel)) <|
  allq qX12_forget 15 (.inr (.inr 0)) (Or.inl ⟨rfl, rfl, by decide +kernel⟩) <|
  alln
theorem kX12_forget : ∀ q ∈ tX12_forget, qX12_forget q := kX12_forget_0
abbrev qX12_take : Nat × aI → Prop := OkQ RX12 "take" cX12_take 4 (some .int)
set_option maxRecDepth 20000 in
theorem kX12_take_0 : ∀ q ∈ tX12_take_0, qX12_take q :=
  allq qX12_take 0 (.inl (a_al 0 1)) (s_aload_n (q := 0) (i := 0) rfl (by decide +kernel)) <|
  allq qX12_take 1 (.inl (a_get 11 60 4)) (gX12 (f0 := 60) (by decide) kw_1245 (by decide +kernel)) <|
  allq qX12_take 4 (.inl (a_il 1 5)) (s_iload_n (q := 1) (i := 1) rfl (by decide +kernel)) <|
  allq qX12_take 5 (.inl (o_iadd 6)) (s_iadd (by decide +kernel)) <|
  allq qX12_take 6 (.inl (a_al 0 7)) (s_aload_n (q := 0) (i := 0) rfl (by decide +kernel)) <|
  allq qX12_take 7 (.inl (a_get 11 61 10)) (gX12 (f0 := 61) (by decide) kw_1246 (by decide +kernel)) <|
  allq qX12_take 10 (.inl (o_icmp_le 15 13)) (s_icmp_le (off := 5) (by decide +kernel) (by decide)) <|
  allq qX12_take 13 (.inl (a_ic (-1) 14)) (s_iconst (n := (-1)) (v := (-1)) rfl (by decide +kernel)) <|
  allq qX12_take 14 (.inr (.inr 1)) (Or.inr (Or.inl ⟨rfl, rfl, by decide +kernel⟩)) <|
  allq qX12_take 15 (.inl (a_ic 0 16)) (s_iconst (n := 0) (v := 0) rfl (by decide +kernel)) <|
  allq qX12_take 16 (.inl (a_is 2 17)) (s_istore_n (q := 2) (i := 2) rfl (by decide +kernel) (by decide)) <|
  allq qX12_take 17 (.inl (a_ic 0 18)) (s_iconst (n := 0) (v := 0) rfl (by decide +kernel)) <|
  allq qX12_take 18 (.inl (a_is 3 19)) (s_istore_n (q := 3) (i := 3) rfl (by decide +kernel) (by decide)) <|
  allq qX12_take 19 (.inl (a_il 3 20)) (s_iload_n (q := 3) (i := 3) rfl (by decide +kernel)) <|
  allq qX12_take 20 (.inl (a_il 1 21)) (s_iload_n (q := 1) (i := 1) rfl (by decide +kernel)) <|
  allq qX12_take 21 (.inl (o_icmp_ge 61 24)) (s_icmp_ge (off := 40) (by decide +kernel) (by decide)) <|
  allq qX12_take 24 (.inl (a_il 2 25)) (s_iload_n (q := 2) (i := 2) rfl (by decide +kernel)) <|
  allq qX12_take 25 (.inl (a_al 0 26)) (s_aload_n (q := 0) (i := 0) rfl (by decide +kernel)) <|
  allq qX12_take 26 (.inl (a_get 11 0 29)) (gX12 (f0 := 0) (by decide) kw_1185 (by decide +kernel)) <|
  allq qX12_take 29 (.inl (a_al 0 30)) (s_aload_n (q := 0) (i := 0) rfl (by decide +kernel)) <|
  allq qX12_take 30 (.inl (a_get 11 60 33)) (gX12 (f0 := 60) (by decide) kw_1245 (by decide +kernel)) <|
  allq qX12_take 33 (.inl (a_il 3 34)) (s_iload_n (q := 3) (i := 3) rfl (by decide +kernel)) <|
  allq qX12_take 34 (.inl (o_iadd 35)) (s_iadd (by decide +kernel)) <|
  allq qX12_take 35 (.inl (a_ic 8 37)) (s_bipush (n := 8) (v := 8) rfl (by decide +kernel)) <|
  allq qX12_take 37 (.inl (o_idiv 38)) (s_idiv (by decide +kernel)) <|
  allq qX12_take 38 (.inl (a_iald 39)) (s_iald (by decide +kernel)) <|
  allq qX12_take 39 (.inl (a_al 0 40)) (s_aload_n (q := 0) (i := 0) rfl (by decide +kernel)) <|
  allq qX12_take 40 (.inl (a_get 11 60 43)) (gX12 (f0 := 60) (by decide) kw_1245 (by decide +kernel)) <|
  allq qX12_take 43 (.inl (a_il 3 44)) (s_iload_n (q := 3) (i := 3) rfl (by decide +kernel)) <|
  allq qX12_take 44 (.inl (o_iadd 45)) (s_iadd (by decide +kernel)) <|
  allq qX12_take 45 (.inl (a_ic 8 47)) (s_bipush (n := 8) (v := 8) rfl (by decide +kernel)) <|
  allq qX12_take 47 (.inl (o_irem 48)) (s_irem (by decide +kernel)) <|
  allq qX12_take 48 (.inl (o_ishr 49)) (s_ishr (by decide +kernel)) <|
  allq qX12_take 49 (.inl (a_ic 1 50)) (s_iconst (n := 1) (v := 1) rfl (by decide +kernel)) <|
  allq qX12_take 50 (.inl (o_iand 51)) (s_iand (by decide +kernel)) <|
  allq qX12_take 51 (.inl (a_il 3 52)) (s_iload_n (q := 3) (i := 3) rfl (by decide +kernel)) <|
  allq qX12_take 52 (.inl (o_ishl 53)) (s_ishl (by decide +kernel)) <|
  allq qX12_take 53 (.inl (o_ior 54)) (s_ior (by decide +kernel)) <|
  allq qX12_take 54 (.inl (a_is 2 55)) (s_istore_n (q := 2) (i := 2) rfl (by decide +kernel) (by decide)) <|
  allq qX12_take 55 (.inl (a_inc 3 1 58)) (s_iinc (i := 3) (n := 1) (n2 := 1) rfl (by decide +kernel) (by decide)) <|
  alln
set_option maxRecDepth 20000 in
theorem kX12_take_1 : ∀ q ∈ tX12_take_1, qX12_take q :=
  allq qX12_take 58 (.inl (a_go 19)) (s_goto (off := (-39)) (by decide +kernel) (by decide)) <|
  allq qX12_take 61 (.inl (a_al 0 62)) (s_aload_n (q := 0) (i := 0) rfl (by decide +kernel)) <|
  allq qX12_take 62 (.inl (a_dup 63)) (s_dup (by decide +kernel)) <|
  allq qX12_take 63 (.inl (a_get 11 60 66)) (gX12 (f0 := 60) (by decide) kw_1245 (by decide +kernel)) <|
  allq qX12_take 66 (.inl (a_il 1 67)) (s_iload_n (q := 1) (i := 1) rfl (by decide +kernel)) <|
  allq qX12_take 67 (.inl (o_iadd 68)) (s_iadd (by decide +kernel)) <|
  allq qX12_take 68 (.inl (a_put 11 60 .int 71)) (pX12 (f0 := 60) (by decide) rfl rfl tOk kw_1245 (by decide +kernel)) <|
  allq qX12_take 71 (.inl (a_il 2 72)) (s_iload_n (q := 2) (i := 2) rfl (by decide +kernel)) <|
  allq qX12_take 72 (.inr (.inr 1)) (Or.inr (Or.inl ⟨rfl, rfl, by decide +kernel⟩)) <|
  alln
theorem kX12_take : ∀ q ∈ tX12_take, qX12_take q := alla kX12_take_0 kX12_take_1
abbrev qX12_readShare : Nat × aI → Prop := OkQ RX12 "readShare" cX12_readShare 11 (some .int)
set_option maxRecDepth 20000 in
theorem kX12_readShare_0 : ∀ q ∈ tX12_readShare_0, qX12_readShare q :=
  allq qX12_readShare 0 (.inl (a_al 0 1)) (s_aload_n (q := 0) (i := 0) rfl (by decide +kernel)) <|
  allq qX12_readShare 1 (.inl (a_ic 4 2)) (s_iconst (n := 4) (v := 4) rfl (by decide +kernel)) <|
  allq qX12_readShare 2 (.inr (.inl (215, 2, 12))) (okV (y := yX12_take) kw_1700 kw_118 rfl rfl (by decide +kernel) kw_1699 kw_101 kw_1697) <|
  allq qX12_readShare 5 (.inl (a_ic 5 6)) (s_iconst (n := 5) (v := 5) rfl (by decide +kernel)) <|
  allq qX12_readShare 6 (.inl (o_iadd 7)) (s_iadd (by decide +kernel)) <|
  allq qX12_readShare 7 (.inl (a_is 3 8)) (s_istore_n (q := 3) (i := 3) rfl (by decide +kernel) (by decide)) <|
  allq qX12_readShare 8 (.inl (a_il 3 9)) (s_iload_n (q := 3) (i := 3) rfl (by decide +kernel)) <|
  allq qX12_readShare 9 (.inl (a_ic 5 10)) (s_iconst (n := 5) (v := 5) rfl (by decide +kernel)) <|
  allq qX12_readShare 10 (.inl (o_icmp_lt 18 13)) (s_icmp_lt (off := 8) (by decide +kernel) (by decide)) <|
  allq qX12_readShare 13 (.inl (a_il 3 14)) (s_iload_n (q := 3) (i := 3) rfl (by decide +kernel)) <|
  allq qX12_readShare 14 (.inl (a_il 1 15)) (s_iload_n (q := 1) (i := 1) rfl (by decide +kernel)) <|
  allq qX12_readShare 15 (.inl (o_icmp_le 20 18)) (s_icmp_le (off := 5) (by decide +kernel) (by decide)) <|
  allq qX12_readShare 18 (.inl (a_ic (-1) 19)) (s_iconst (n := (-1)) (v := (-1)) rfl (by decide +kernel)) <|
  allq qX12_readShare 19 (.inr (.inr 1)) (Or.inr (Or.inl ⟨rfl, rfl, by decide +kernel⟩)) <|
  allq qX12_readShare 20 (.inl (a_ic 0 21)) (s_iconst (n := 0) (v := 0) rfl (by decide +kernel)) <|
  allq qX12_readShare 21 (.inl (a_is 4 23)) (s_istore (i := 4) (by decide +kernel) (by decide)) <|
  allq qX12_readShare 23 (.inl (a_il 4 25)) (s_iload (i := 4) (by decide +kernel)) <|
  allq qX12_readShare 25 (.inl (a_ic 64 27)) (s_bipush (n := 64) (v := 64) rfl (by decide +kernel)) <|
  allq qX12_readShare 27 (.inl (o_icmp_ge 44 30)) (s_icmp_ge (off := 17) (by decide +kernel) (by decide)) <|
  allq qX12_readShare 30 (.inl (a_al 0 31)) (s_aload_n (q := 0) (i := 0) rfl (by decide +kernel)) <|
  allq qX12_readShare 31 (.inl (a_get 11 45 34)) (gX12 (f0 := 45) (by decide) kw_1230 (by decide +kernel)) <|
  allq qX12_readShare 34 (.inl (a_il 4 36)) (s_iload (i := 4) (by decide +kernel)) <|
  allq qX12_readShare 36 (.inl (a_ic 0 37)) (s_iconst (n := 0) (v := 0) rfl (by decide +kernel)) <|
  allq qX12_readShare 37 (.inl (a_iast 38)) (s_iast (by decide +kernel)) <|
  allq qX12_readShare 38 (.inl (a_inc 4 1 41)) (s_iinc (i := 4) (n := 1) (n2 := 1) rfl (by decide +kernel) (by decide)) <|
  allq qX12_readShare 41 (.inl (a_go 23)) (s_goto (off := (-18)) (by decide +kernel) (by decide)) <|
  allq qX12_readShare 44 (.inl (a_ic 1 45)) (s_iconst (n := 1) (v := 1) rfl (by decide +kernel)) <|
  allq qX12_readShare 45 (.inl (a_il 3 46)) (s_iload_n (q := 3) (i := 3) rfl (by decide +kernel)) <|
  allq qX12_readShare 46 (.inl (o_ishl 47)) (s_ishl (by decide +kernel)) <|
  allq qX12_readShare 47 (.inl (a_is 4 49)) (s_istore (i := 4) (by decide +kernel) (by decide)) <|
  allq qX12_readShare 49 (.inl (a_ic 0 50)) (s_iconst (n := 0) (v := 0) rfl (by decide +kernel)) <|
  allq qX12_readShare 50 (.inl (a_is 5 52)) (s_istore (i := 5) (by decide +kernel) (by decide)) <|
  allq qX12_readShare 52 (.inl (a_il 4 54)) (s_iload (i := 4) (by decide +kernel)) <|
  allq qX12_readShare 54 (.inl (o_if_le 227 57)) (s_if_le (off := 173) (by decide +kernel) (by decide)) <|
  allq qX12_readShare 57 (.inl (a_il 5 59)) (s_iload (i := 5) (by decide +kernel)) <|
  allq qX12_readShare 59 (.inl (a_il 2 60)) (s_iload_n (q := 2) (i := 2) rfl (by decide +kernel)) <|
  allq qX12_readShare 60 (.inl (o_icmp_le 65 63)) (s_icmp_le (off := 5) (by decide +kernel) (by decide)) <|
  allq qX12_readShare 63 (.inl (a_ic (-1) 64)) (s_iconst (n := (-1)) (v := (-1)) rfl (by decide +kernel)) <|
  allq qX12_readShare 64 (.inr (.inr 1)) (Or.inr (Or.inl ⟨rfl, rfl, by decide +kernel⟩)) <|
  allq qX12_readShare 65 (.inl (a_il 4 67)) (s_iload (i := 4) (by decide +kernel)) <|
  alln
set_option maxRecDepth 20000 in
theorem kX12_readShare_1 : ∀ q ∈ tX12_readShare_1, qX12_readShare q :=
  allq qX12_readShare 67 (.inl (a_ic 1 68)) (s_iconst (n := 1) (v := 1) rfl (by decide +kernel)) <|
  allq qX12_readShare 68 (.inl (o_iadd 69)) (s_iadd (by decide +kernel)) <|
  allq qX12_readShare 69 (.inr (.inl (158, 1, 0))) (okS (y := yX12_log) kw_1530 kw_118 rfl (by decide +kernel) kw_1529 (Or.inl kw_1528)) <|
  allq qX12_readShare 72 (.inl (a_is 6 74)) (s_istore (i := 6) (by decide +kernel) (by decide)) <|
  allq qX12_readShare 74 (.inl (a_ic 1 75)) (s_iconst (n := 1) (v := 1) rfl (by decide +kernel)) <|
  allq qX12_readShare 75 (.inl (a_il 6 77)) (s_iload (i := 6) (by decide +kernel)) <|
  allq qX12_readShare 77 (.inl (o_ishl 78)) (s_ishl (by decide +kernel)) <|
  allq qX12_readShare 78 (.inl (a_is 7 80)) (s_istore (i := 7) (by decide +kernel) (by decide)) <|
  allq qX12_readShare 80 (.inl (a_ic 2 81)) (s_iconst (n := 2) (v := 2) rfl (by decide +kernel)) <|
  allq qX12_readShare 81 (.inl (a_il 7 83)) (s_iload (i := 7) (by decide +kernel)) <|
  allq qX12_readShare 83 (.inl (o_imul 84)) (s_imul (by decide +kernel)) <|
  allq qX12_readShare 84 (.inl (a_ic 2 85)) (s_iconst (n := 2) (v := 2) rfl (by decide +kernel)) <|
  allq qX12_readShare 85 (.inl (o_isub 86)) (s_isub (by decide +kernel)) <|
  allq qX12_readShare 86 (.inl (a_il 4 88)) (s_iload (i := 4) (by decide +kernel)) <|
  allq qX12_readShare 88 (.inl (o_isub 89)) (s_isub (by decide +kernel)) <|
  allq qX12_readShare 89 (.inl (a_is 8 91)) (s_istore (i := 8) (by decide +kernel) (by decide)) <|
  allq qX12_readShare 91 (.inl (a_al 0 92)) (s_aload_n (q := 0) (i := 0) rfl (by decide +kernel)) <|
  allq qX12_readShare 92 (.inl (a_il 6 94)) (s_iload (i := 6) (by decide +kernel)) <|
  allq qX12_readShare 94 (.inr (.inl (215, 2, 12))) (okV (y := yX12_take) kw_1700 kw_118 rfl rfl (by decide +kernel) kw_1699 kw_101 kw_1697) <|
  allq qX12_readShare 97 (.inl (a_is 9 99)) (s_istore (i := 9) (by decide +kernel) (by decide)) <|
  allq qX12_readShare 99 (.inl (a_il 9 101)) (s_iload (i := 9) (by decide +kernel)) <|
  allq qX12_readShare 101 (.inl (o_if_ge 106 104)) (s_if_ge (off := 5) (by decide +kernel) (by decide)) <|
  allq qX12_readShare 104 (.inl (a_ic (-1) 105)) (s_iconst (n := (-1)) (v := (-1)) rfl (by decide +kernel)) <|
  allq qX12_readShare 105 (.inr (.inr 1)) (Or.inr (Or.inl ⟨rfl, rfl, by decide +kernel⟩)) <|
  allq qX12_readShare 106 (.inl (a_il 9 108)) (s_iload (i := 9) (by decide +kernel)) <|
  allq qX12_readShare 108 (.inl (a_il 8 110)) (s_iload (i := 8) (by decide +kernel)) <|
  allq qX12_readShare 110 (.inl (o_icmp_lt 148 113)) (s_icmp_lt (off := 38) (by decide +kernel) (by decide)) <|
  allq qX12_readShare 113 (.inl (a_al 0 114)) (s_aload_n (q := 0) (i := 0) rfl (by decide +kernel)) <|
  allq qX12_readShare 114 (.inl (a_ic 1 115)) (s_iconst (n := 1) (v := 1) rfl (by decide +kernel)) <|
  allq qX12_readShare 115 (.inr (.inl (215, 2, 12))) (okV (y := yX12_take) kw_1700 kw_118 rfl rfl (by decide +kernel) kw_1699 kw_101 kw_1697) <|
  allq qX12_readShare 118 (.inl (a_is 10 120)) (s_istore (i := 10) (by decide +kernel) (by decide)) <|
  allq qX12_readShare 120 (.inl (a_il 10 122)) (s_iload (i := 10) (by decide +kernel)) <|
  allq qX12_readShare 122 (.inl (o_if_ge 127 125)) (s_if_ge (off := 5) (by decide +kernel) (by decide)) <|
  allq qX12_readShare 125 (.inl (a_ic (-1) 126)) (s_iconst (n := (-1)) (v := (-1)) rfl (by decide +kernel)) <|
  allq qX12_readShare 126 (.inr (.inr 1)) (Or.inr (Or.inl ⟨rfl, rfl, by decide +kernel⟩)) <|
  allq qX12_readShare 127 (.inl (a_il 10 129)) (s_iload (i := 10) (by decide +kernel)) <|
  allq qX12_readShare 129 (.inl (a_ic 1 130)) (s_iconst (n := 1) (v := 1) rfl (by decide +kernel)) <|
  allq qX12_readShare 130 (.inl (o_icmp_ne 144 133)) (s_icmp_ne (off := 14) (by decide +kernel) (by decide)) <|
  allq qX12_readShare 133 (.inl (a_il 9 135)) (s_iload (i := 9) (by decide +kernel)) <|
  allq qX12_readShare 135 (.inl (a_il 7 137)) (s_iload (i := 7) (by decide +kernel)) <|
  alln
set_option maxRecDepth 20000 in
theorem kX12_readShare_2 : ∀ q ∈ tX12_readShare_2, qX12_readShare q :=
  allq qX12_readShare 137 (.inl (o_iadd 138)) (s_iadd (by decide +kernel)) <|
  allq qX12_readShare 138 (.inl (a_il 8 140)) (s_iload (i := 8) (by decide +kernel)) <|
  allq qX12_readShare 140 (.inl (o_isub 141)) (s_isub (by decide +kernel)) <|
  allq qX12_readShare 141 (.inl (a_go 146)) (s_goto (off := 5) (by decide +kernel) (by decide)) <|
  allq qX12_readShare 144 (.inl (a_il 9 146)) (s_iload (i := 9) (by decide +kernel)) <|
  allq qX12_readShare 146 (.inl (a_is 9 148)) (s_istore (i := 9) (by decide +kernel) (by decide)) <|
  allq qX12_readShare 148 (.inl (a_al 0 149)) (s_aload_n (q := 0) (i := 0) rfl (by decide +kernel)) <|
  allq qX12_readShare 149 (.inl (a_get 11 45 152)) (gX12 (f0 := 45) (by decide) kw_1230 (by decide +kernel)) <|
  allq qX12_readShare 152 (.inl (a_il 5 154)) (s_iload (i := 5) (by decide +kernel)) <|
  allq qX12_readShare 154 (.inl (a_il 9 156)) (s_iload (i := 9) (by decide +kernel)) <|
  allq qX12_readShare 156 (.inl (a_ic 1 157)) (s_iconst (n := 1) (v := 1) rfl (by decide +kernel)) <|
  allq qX12_readShare 157 (.inl (o_isub 158)) (s_isub (by decide +kernel)) <|
  allq qX12_readShare 158 (.inl (a_iast 159)) (s_iast (by decide +kernel)) <|
  allq qX12_readShare 159 (.inl (a_il 4 161)) (s_iload (i := 4) (by decide +kernel)) <|
  allq qX12_readShare 161 (.inl (a_il 9 163)) (s_iload (i := 9) (by decide +kernel)) <|
  allq qX12_readShare 163 (.inl (a_ic 1 164)) (s_iconst (n := 1) (v := 1) rfl (by decide +kernel)) <|
  allq qX12_readShare 164 (.inl (o_isub 165)) (s_isub (by decide +kernel)) <|
  allq qX12_readShare 165 (.inr (.inl (164, 1, 0))) (okS (y := yX12_mass) kw_1523 kw_118 rfl (by decide +kernel) kw_1522 (Or.inl kw_1521)) <|
  allq qX12_readShare 168 (.inl (o_isub 169)) (s_isub (by decide +kernel)) <|
  allq qX12_readShare 169 (.inl (a_is 4 171)) (s_istore (i := 4) (by decide +kernel) (by decide)) <|
  allq qX12_readShare 171 (.inl (a_inc 5 1 174)) (s_iinc (i := 5) (n := 1) (n2 := 1) rfl (by decide +kernel) (by decide)) <|
  allq qX12_readShare 174 (.inl (a_il 9 176)) (s_iload (i := 9) (by decide +kernel)) <|
  allq qX12_readShare 176 (.inl (a_ic 1 177)) (s_iconst (n := 1) (v := 1) rfl (by decide +kernel)) <|
  allq qX12_readShare 177 (.inl (o_icmp_ne 184 180)) (s_icmp_ne (off := 7) (by decide +kernel) (by decide)) <|
  allq qX12_readShare 180 (.inl (a_ic 3 181)) (s_iconst (n := 3) (v := 3) rfl (by decide +kernel)) <|
  allq qX12_readShare 181 (.inl (a_go 185)) (s_goto (off := 4) (by decide +kernel) (by decide)) <|
  allq qX12_readShare 184 (.inl (a_ic 0 185)) (s_iconst (n := 0) (v := 0) rfl (by decide +kernel)) <|
  allq qX12_readShare 185 (.inl (a_is 10 187)) (s_istore (i := 10) (by decide +kernel) (by decide)) <|
  allq qX12_readShare 187 (.inl (a_il 10 189)) (s_iload (i := 10) (by decide +kernel)) <|
  allq qX12_readShare 189 (.inl (a_ic 3 190)) (s_iconst (n := 3) (v := 3) rfl (by decide +kernel)) <|
  allq qX12_readShare 190 (.inl (o_icmp_ne 224 193)) (s_icmp_ne (off := 34) (by decide +kernel) (by decide)) <|
  allq qX12_readShare 193 (.inl (a_al 0 194)) (s_aload_n (q := 0) (i := 0) rfl (by decide +kernel)) <|
  allq qX12_readShare 194 (.inl (a_ic 2 195)) (s_iconst (n := 2) (v := 2) rfl (by decide +kernel)) <|
  allq qX12_readShare 195 (.inr (.inl (215, 2, 12))) (okV (y := yX12_take) kw_1700 kw_118 rfl rfl (by decide +kernel) kw_1699 kw_101 kw_1697) <|
  allq qX12_readShare 198 (.inl (a_is 10 200)) (s_istore (i := 10) (by decide +kernel) (by decide)) <|
  allq qX12_readShare 200 (.inl (a_il 10 202)) (s_iload (i := 10) (by decide +kernel)) <|
  allq qX12_readShare 202 (.inl (o_if_ge 207 205)) (s_if_ge (off := 5) (by decide +kernel) (by decide)) <|
  allq qX12_readShare 205 (.inl (a_ic (-1) 206)) (s_iconst (n := (-1)) (v := (-1)) rfl (by decide +kernel)) <|
  allq qX12_readShare 206 (.inr (.inr 1)) (Or.inr (Or.inl ⟨rfl, rfl, by decide +kernel⟩)) <|
  allq qX12_readShare 207 (.inl (a_il 5 209)) (s_iload (i := 5) (by decide +kernel)) <|
  alln
set_option maxRecDepth 20000 in
theorem kX12_readShare_3 : ∀ q ∈ tX12_readShare_3, qX12_readShare q :=
  allq qX12_readShare 209 (.inl (a_il 10 211)) (s_iload (i := 10) (by decide +kernel)) <|
  allq qX12_readShare 211 (.inl (o_iadd 212)) (s_iadd (by decide +kernel)) <|
  allq qX12_readShare 212 (.inl (a_is 5 214)) (s_istore (i := 5) (by decide +kernel) (by decide)) <|
  allq qX12_readShare 214 (.inl (a_il 5 216)) (s_iload (i := 5) (by decide +kernel)) <|
  allq qX12_readShare 216 (.inl (a_il 2 217)) (s_iload_n (q := 2) (i := 2) rfl (by decide +kernel)) <|
  allq qX12_readShare 217 (.inl (a_ic 1 218)) (s_iconst (n := 1) (v := 1) rfl (by decide +kernel)) <|
  allq qX12_readShare 218 (.inl (o_iadd 219)) (s_iadd (by decide +kernel)) <|
  allq qX12_readShare 219 (.inl (o_icmp_le 187 222)) (s_icmp_le (off := (-32)) (by decide +kernel) (by decide)) <|
  allq qX12_readShare 222 (.inl (a_ic (-1) 223)) (s_iconst (n := (-1)) (v := (-1)) rfl (by decide +kernel)) <|
  allq qX12_readShare 223 (.inr (.inr 1)) (Or.inr (Or.inl ⟨rfl, rfl, by decide +kernel⟩)) <|
  allq qX12_readShare 224 (.inl (a_go 52)) (s_goto (off := (-172)) (by decide +kernel) (by decide)) <|
  allq qX12_readShare 227 (.inl (a_al 0 228)) (s_aload_n (q := 0) (i := 0) rfl (by decide +kernel)) <|
  allq qX12_readShare 228 (.inl (a_al 0 229)) (s_aload_n (q := 0) (i := 0) rfl (by decide +kernel)) <|
  allq qX12_readShare 229 (.inl (a_get 11 60 232)) (gX12 (f0 := 60) (by decide) kw_1245 (by decide +kernel)) <|
  allq qX12_readShare 232 (.inl (a_ic 7 234)) (s_bipush (n := 7) (v := 7) rfl (by decide +kernel)) <|
  allq qX12_readShare 234 (.inl (o_iadd 235)) (s_iadd (by decide +kernel)) <|
  allq qX12_readShare 235 (.inl (a_ic 8 237)) (s_bipush (n := 8) (v := 8) rfl (by decide +kernel)) <|
  allq qX12_readShare 237 (.inl (o_idiv 238)) (s_idiv (by decide +kernel)) <|
  allq qX12_readShare 238 (.inl (a_ic 8 240)) (s_bipush (n := 8) (v := 8) rfl (by decide +kernel)) <|
  allq qX12_readShare 240 (.inl (o_imul 241)) (s_imul (by decide +kernel)) <|
  allq qX12_readShare 241 (.inl (a_put 11 60 .int 244)) (pX12 (f0 := 60) (by decide) rfl rfl tOk kw_1245 (by decide +kernel)) <|
  allq qX12_readShare 244 (.inl (a_il 3 245)) (s_iload_n (q := 3) (i := 3) rfl (by decide +kernel)) <|
  allq qX12_readShare 245 (.inr (.inr 1)) (Or.inr (Or.inl ⟨rfl, rfl, by decide +kernel⟩)) <|
  alln
theorem kX12_readShare : ∀ q ∈ tX12_readShare, qX12_readShare q := alla kX12_readShare_0 (alla kX12_readShare_1 (alla kX12_readShare_2 kX12_readShare_3))
abbrev qX12_takeDown : Nat × aI → Prop := OkQ RX12 "takeDown" cX12_takeDown 4 (some .int)
set_option maxRecDepth 20000 in
theorem kX12_takeDown_0 : ∀ q ∈ tX12_takeDown_0, qX12_takeDown q :=
  allq qX12_takeDown 0 (.inl (a_al 0 1)) (s_aload_n (q := 0) (i := 0) rfl (by decide +kernel)) <|
  allq qX12_takeDown 1 (.inl (a_dup 2)) (s_dup (by decide +kernel)) <|
  allq qX12_takeDown 2 (.inl (a_get 11 61 5)) (gX12 (f0 := 61) (by decide) kw_1246 (by decide +kernel)) <|
  allq qX12_takeDown 5 (.inl (a_il 1 6)) (s_iload_n (q := 1) (i := 1) rfl (by decide +kernel)) <|
  allq qX12_takeDown 6 (.inl (o_isub 7)) (s_isub (by decide +kernel)) <|
  allq qX12_takeDown 7 (.inl (a_put 11 61 .int 10)) (pX12 (f0 := 61) (by decide) rfl rfl tOk kw_1246 (by decide +kernel)) <|
  allq qX12_takeDown 10 (.inl (a_ic 0 11)) (s_iconst (n := 0) (v := 0) rfl (by decide +kernel)) <|
  allq qX12_takeDown 11 (.inl (a_is 2 12)) (s_istore_n (q := 2) (i := 2) rfl (by decide +kernel) (by decide)) <|
  allq qX12_takeDown 12 (.inl (a_ic 0 13)) (s_iconst (n := 0) (v := 0) rfl (by decide +kernel)) <|
  allq qX12_takeDown 13 (.inl (a_is 3 14)) (s_istore_n (q := 3) (i := 3) rfl (by decide +kernel) (by decide)) <|
  allq qX12_takeDown 14 (.inl (a_il 3 15)) (s_iload_n (q := 3) (i := 3) rfl (by decide +kernel)) <|
  allq qX12_takeDown 15 (.inl (a_il 1 16)) (s_iload_n (q := 1) (i := 1) rfl (by decide +kernel)) <|
  allq qX12_takeDown 16 (.inl (o_icmp_ge 56 19)) (s_icmp_ge (off := 40) (by decide +kernel) (by decide)) <|
  allq qX12_takeDown 19 (.inl (a_il 2 20)) (s_iload_n (q := 2) (i := 2) rfl (by decide +kernel)) <|
  allq qX12_takeDown 20 (.inl (a_al 0 21)) (s_aload_n (q := 0) (i := 0) rfl (by decide +kernel)) <|
  allq qX12_takeDown 21 (.inl (a_get 11 0 24)) (gX12 (f0 := 0) (by decide) kw_1185 (by decide +kernel)) <|
  allq qX12_takeDown 24 (.inl (a_al 0 25)) (s_aload_n (q := 0) (i := 0) rfl (by decide +kernel)) <|
  allq qX12_takeDown 25 (.inl (a_get 11 61 28)) (gX12 (f0 := 61) (by decide) kw_1246 (by decide +kernel)) <|
  allq qX12_takeDown 28 (.inl (a_il 3 29)) (s_iload_n (q := 3) (i := 3) rfl (by decide +kernel)) <|
  allq qX12_takeDown 29 (.inl (o_iadd 30)) (s_iadd (by decide +kernel)) <|
  allq qX12_takeDown 30 (.inl (a_ic 8 32)) (s_bipush (n := 8) (v := 8) rfl (by decide +kernel)) <|
  allq qX12_takeDown 32 (.inl (o_idiv 33)) (s_idiv (by decide +kernel)) <|
  allq qX12_takeDown 33 (.inl (a_iald 34)) (s_iald (by decide +kernel)) <|
  allq qX12_takeDown 34 (.inl (a_al 0 35)) (s_aload_n (q := 0) (i := 0) rfl (by decide +kernel)) <|
  allq qX12_takeDown 35 (.inl (a_get 11 61 38)) (gX12 (f0 := 61) (by decide) kw_1246 (by decide +kernel)) <|
  allq qX12_takeDown 38 (.inl (a_il 3 39)) (s_iload_n (q := 3) (i := 3) rfl (by decide +kernel)) <|
  allq qX12_takeDown 39 (.inl (o_iadd 40)) (s_iadd (by decide +kernel)) <|
  allq qX12_takeDown 40 (.inl (a_ic 8 42)) (s_bipush (n := 8) (v := 8) rfl (by decide +kernel)) <|
  allq qX12_takeDown 42 (.inl (o_irem 43)) (s_irem (by decide +kernel)) <|
  allq qX12_takeDown 43 (.inl (o_ishr 44)) (s_ishr (by decide +kernel)) <|
  allq qX12_takeDown 44 (.inl (a_ic 1 45)) (s_iconst (n := 1) (v := 1) rfl (by decide +kernel)) <|
  allq qX12_takeDown 45 (.inl (o_iand 46)) (s_iand (by decide +kernel)) <|
  allq qX12_takeDown 46 (.inl (a_il 3 47)) (s_iload_n (q := 3) (i := 3) rfl (by decide +kernel)) <|
  allq qX12_takeDown 47 (.inl (o_ishl 48)) (s_ishl (by decide +kernel)) <|
  allq qX12_takeDown 48 (.inl (o_ior 49)) (s_ior (by decide +kernel)) <|
  allq qX12_takeDown 49 (.inl (a_is 2 50)) (s_istore_n (q := 2) (i := 2) rfl (by decide +kernel) (by decide)) <|
  allq qX12_takeDown 50 (.inl (a_inc 3 1 53)) (s_iinc (i := 3) (n := 1) (n2 := 1) rfl (by decide +kernel) (by decide)) <|
  allq qX12_takeDown 53 (.inl (a_go 14)) (s_goto (off := (-39)) (by decide +kernel) (by decide)) <|
  allq qX12_takeDown 56 (.inl (a_il 2 57)) (s_iload_n (q := 2) (i := 2) rfl (by decide +kernel)) <|
  allq qX12_takeDown 57 (.inr (.inr 1)) (Or.inr (Or.inl ⟨rfl, rfl, by decide +kernel⟩)) <|
  alln
theorem kX12_takeDown : ∀ q ∈ tX12_takeDown, qX12_takeDown q := kX12_takeDown_0
abbrev qX12_readWeights : Nat × aI → Prop := OkQ RX12 "readWeights" cX12_readWeights 7 (some .boolean)
set_option maxRecDepth 20000 in
theorem kX12_readWeights_0 : ∀ q ∈ tX12_readWeights_0, qX12_readWeights q :=
  allq qX12_readWeights 0 (.inl (a_al 0 1)) (s_aload_n (q := 0) (i := 0) rfl (by decide +kernel)) <|
  allq qX12_readWeights 1 (.inl (a_ic 8 3)) (s_bipush (n := 8) (v := 8) rfl (by decide +kernel)) <|
  allq qX12_readWeights 3 (.inl (a_il 1 4)) (s_iload_n (q := 1) (i := 1) rfl (by decide +kernel)) <|
  allq qX12_readWeights 4 (.inl (o_imul 5)) (s_imul (by decide +kernel)) <|
  allq qX12_readWeights 5 (.inl (a_put 11 60 .int 8)) (pX12 (f0 := 60) (by decide) rfl rfl tOk kw_1245 (by decide +kernel)) <|
  allq qX12_readWeights 8 (.inl (a_al 0 9)) (s_aload_n (q := 0) (i := 0) rfl (by decide +kernel)) <|
  allq qX12_readWeights 9 (.inl (a_ic 8 11)) (s_bipush (n := 8) (v := 8) rfl (by decide +kernel)) <|
  allq qX12_readWeights 11 (.inl (a_il 2 12)) (s_iload_n (q := 2) (i := 2) rfl (by decide +kernel)) <|
  allq qX12_readWeights 12 (.inl (o_imul 13)) (s_imul (by decide +kernel)) <|
  allq qX12_readWeights 13 (.inl (a_put 11 61 .int 16)) (pX12 (f0 := 61) (by decide) rfl rfl tOk kw_1246 (by decide +kernel)) <|
  allq qX12_readWeights 16 (.inl (a_al 0 17)) (s_aload_n (q := 0) (i := 0) rfl (by decide +kernel)) <|
  allq qX12_readWeights 17 (.inl (a_al 0 18)) (s_aload_n (q := 0) (i := 0) rfl (by decide +kernel)) <|
  allq qX12_readWeights 18 (.inl (a_ic 6 20)) (s_bipush (n := 6) (v := 6) rfl (by decide +kernel)) <|
  allq qX12_readWeights 20 (.inl (a_ic 11 22)) (s_bipush (n := 11) (v := 11) rfl (by decide +kernel)) <|
  allq qX12_readWeights 22 (.inr (.inl (216, 3, 12))) (okV (y := yX12_readShare) kw_1696 kw_118 rfl rfl (by decide +kernel) kw_1695 kw_100 kw_1693) <|
  allq qX12_readWeights 25 (.inl (a_put 11 57 .int 28)) (pX12 (f0 := 57) (by decide) rfl rfl tOk kw_1242 (by decide +kernel)) <|
  allq qX12_readWeights 28 (.inl (a_al 0 29)) (s_aload_n (q := 0) (i := 0) rfl (by decide +kernel)) <|
  allq qX12_readWeights 29 (.inl (a_get 11 57 32)) (gX12 (f0 := 57) (by decide) kw_1242 (by decide +kernel)) <|
  allq qX12_readWeights 32 (.inl (o_if_lt 57 35)) (s_if_lt (off := 25) (by decide +kernel) (by decide)) <|
  allq qX12_readWeights 35 (.inl (a_al 0 36)) (s_aload_n (q := 0) (i := 0) rfl (by decide +kernel)) <|
  allq qX12_readWeights 36 (.inl (a_get 11 60 39)) (gX12 (f0 := 60) (by decide) kw_1245 (by decide +kernel)) <|
  allq qX12_readWeights 39 (.inl (a_al 0 40)) (s_aload_n (q := 0) (i := 0) rfl (by decide +kernel)) <|
  allq qX12_readWeights 40 (.inl (a_get 11 61 43)) (gX12 (f0 := 61) (by decide) kw_1246 (by decide +kernel)) <|
  allq qX12_readWeights 43 (.inl (o_icmp_ge 57 46)) (s_icmp_ge (off := 14) (by decide +kernel) (by decide)) <|
  allq qX12_readWeights 46 (.inl (a_al 0 47)) (s_aload_n (q := 0) (i := 0) rfl (by decide +kernel)) <|
  allq qX12_readWeights 47 (.inl (a_get 11 0 50)) (gX12 (f0 := 0) (by decide) kw_1185 (by decide +kernel)) <|
  allq qX12_readWeights 50 (.inl (a_il 2 51)) (s_iload_n (q := 2) (i := 2) rfl (by decide +kernel)) <|
  allq qX12_readWeights 51 (.inl (a_ic 1 52)) (s_iconst (n := 1) (v := 1) rfl (by decide +kernel)) <|
  allq qX12_readWeights 52 (.inl (o_isub 53)) (s_isub (by decide +kernel)) <|
  allq qX12_readWeights 53 (.inl (a_iald 54)) (s_iald (by decide +kernel)) <|
  allq qX12_readWeights 54 (.inl (o_if_ne 59 57)) (s_if_ne (off := 5) (by decide +kernel) (by decide)) <|
  allq qX12_readWeights 57 (.inl (a_ic 0 58)) (s_iconst (n := 0) (v := 0) rfl (by decide +kernel)) <|
  allq qX12_readWeights 58 (.inr (.inr 3)) (Or.inr (Or.inr (Or.inr ⟨rfl, rfl, by decide +kernel⟩))) <|
  allq qX12_readWeights 59 (.inl (a_al 0 60)) (s_aload_n (q := 0) (i := 0) rfl (by decide +kernel)) <|
  allq qX12_readWeights 60 (.inl (a_al 0 61)) (s_aload_n (q := 0) (i := 0) rfl (by decide +kernel)) <|
  allq qX12_readWeights 61 (.inl (a_get 11 45 64)) (gX12 (f0 := 45) (by decide) kw_1230 (by decide +kernel)) <|
  allq qX12_readWeights 64 (.inl (a_ic 0 65)) (s_iconst (n := 0) (v := 0) rfl (by decide +kernel)) <|
  allq qX12_readWeights 65 (.inl (a_ic 64 67)) (s_bipush (n := 64) (v := 64) rfl (by decide +kernel)) <|
  allq qX12_readWeights 67 (.inl (a_al 0 68)) (s_aload_n (q := 0) (i := 0) rfl (by decide +kernel)) <|
  allq qX12_readWeights 68 (.inl (a_get 11 57 71)) (gX12 (f0 := 57) (by decide) kw_1242 (by decide +kernel)) <|
  alln
set_option maxRecDepth 20000 in
theorem kX12_readWeights_1 : ∀ q ∈ tX12_readWeights_1, qX12_readWeights q :=
  allq qX12_readWeights 71 (.inl (a_ic 1536 74)) (s_sipush (n := 1536) (v := 1536) rfl (by decide +kernel)) <|
  allq qX12_readWeights 74 (.inr (.inl (165, 6, 12))) (okV (y := yX12_lay) kw_1538 kw_118 rfl rfl (by decide +kernel) kw_1537 kw_69 kw_1535) <|
  allq qX12_readWeights 77 (.inl (a_al 0 78)) (s_aload_n (q := 0) (i := 0) rfl (by decide +kernel)) <|
  allq qX12_readWeights 78 (.inl (a_ic 8 80)) (s_bipush (n := 8) (v := 8) rfl (by decide +kernel)) <|
  allq qX12_readWeights 80 (.inl (a_il 2 81)) (s_iload_n (q := 2) (i := 2) rfl (by decide +kernel)) <|
  allq qX12_readWeights 81 (.inl (a_ic 1 82)) (s_iconst (n := 1) (v := 1) rfl (by decide +kernel)) <|
  allq qX12_readWeights 82 (.inl (o_isub 83)) (s_isub (by decide +kernel)) <|
  allq qX12_readWeights 83 (.inl (o_imul 84)) (s_imul (by decide +kernel)) <|
  allq qX12_readWeights 84 (.inl (a_al 0 85)) (s_aload_n (q := 0) (i := 0) rfl (by decide +kernel)) <|
  allq qX12_readWeights 85 (.inl (a_get 11 0 88)) (gX12 (f0 := 0) (by decide) kw_1185 (by decide +kernel)) <|
  allq qX12_readWeights 88 (.inl (a_il 2 89)) (s_iload_n (q := 2) (i := 2) rfl (by decide +kernel)) <|
  allq qX12_readWeights 89 (.inl (a_ic 1 90)) (s_iconst (n := 1) (v := 1) rfl (by decide +kernel)) <|
  allq qX12_readWeights 90 (.inl (o_isub 91)) (s_isub (by decide +kernel)) <|
  allq qX12_readWeights 91 (.inl (a_iald 92)) (s_iald (by decide +kernel)) <|
  allq qX12_readWeights 92 (.inr (.inl (158, 1, 0))) (okS (y := yX12_log) kw_1530 kw_118 rfl (by decide +kernel) kw_1529 (Or.inl kw_1528)) <|
  allq qX12_readWeights 95 (.inl (o_iadd 96)) (s_iadd (by decide +kernel)) <|
  allq qX12_readWeights 96 (.inl (a_put 11 61 .int 99)) (pX12 (f0 := 61) (by decide) rfl rfl tOk kw_1246 (by decide +kernel)) <|
  allq qX12_readWeights 99 (.inl (a_al 0 100)) (s_aload_n (q := 0) (i := 0) rfl (by decide +kernel)) <|
  allq qX12_readWeights 100 (.inl (a_get 11 61 103)) (gX12 (f0 := 61) (by decide) kw_1246 (by decide +kernel)) <|
  allq qX12_readWeights 103 (.inl (a_al 0 104)) (s_aload_n (q := 0) (i := 0) rfl (by decide +kernel)) <|
  allq qX12_readWeights 104 (.inl (a_get 11 60 107)) (gX12 (f0 := 60) (by decide) kw_1245 (by decide +kernel)) <|
  allq qX12_readWeights 107 (.inl (o_isub 108)) (s_isub (by decide +kernel)) <|
  allq qX12_readWeights 108 (.inl (a_ic 2 109)) (s_iconst (n := 2) (v := 2) rfl (by decide +kernel)) <|
  allq qX12_readWeights 109 (.inl (a_al 0 110)) (s_aload_n (q := 0) (i := 0) rfl (by decide +kernel)) <|
  allq qX12_readWeights 110 (.inl (a_get 11 57 113)) (gX12 (f0 := 57) (by decide) kw_1242 (by decide +kernel)) <|
  allq qX12_readWeights 113 (.inl (o_imul 114)) (s_imul (by decide +kernel)) <|
  allq qX12_readWeights 114 (.inl (o_icmp_ge 119 117)) (s_icmp_ge (off := 5) (by decide +kernel) (by decide)) <|
  allq qX12_readWeights 117 (.inl (a_ic 0 118)) (s_iconst (n := 0) (v := 0) rfl (by decide +kernel)) <|
  allq qX12_readWeights 118 (.inr (.inr 3)) (Or.inr (Or.inr (Or.inr ⟨rfl, rfl, by decide +kernel⟩))) <|
  allq qX12_readWeights 119 (.inl (a_al 0 120)) (s_aload_n (q := 0) (i := 0) rfl (by decide +kernel)) <|
  allq qX12_readWeights 120 (.inl (a_al 0 121)) (s_aload_n (q := 0) (i := 0) rfl (by decide +kernel)) <|
  allq qX12_readWeights 121 (.inl (a_get 11 57 124)) (gX12 (f0 := 57) (by decide) kw_1242 (by decide +kernel)) <|
  allq qX12_readWeights 124 (.inr (.inl (217, 2, 12))) (okV (y := yX12_takeDown) kw_1704 kw_118 rfl rfl (by decide +kernel) kw_1703 kw_102 kw_1701) <|
  allq qX12_readWeights 127 (.inl (a_is 3 128)) (s_istore_n (q := 3) (i := 3) rfl (by decide +kernel) (by decide)) <|
  allq qX12_readWeights 128 (.inl (a_al 0 129)) (s_aload_n (q := 0) (i := 0) rfl (by decide +kernel)) <|
  allq qX12_readWeights 129 (.inl (a_al 0 130)) (s_aload_n (q := 0) (i := 0) rfl (by decide +kernel)) <|
  allq qX12_readWeights 130 (.inl (a_get 11 57 133)) (gX12 (f0 := 57) (by decide) kw_1242 (by decide +kernel)) <|
  allq qX12_readWeights 133 (.inr (.inl (217, 2, 12))) (okV (y := yX12_takeDown) kw_1704 kw_118 rfl rfl (by decide +kernel) kw_1703 kw_102 kw_1701) <|
  allq qX12_readWeights 136 (.inl (a_is 4 138)) (s_istore (i := 4) (by decide +kernel) (by decide)) <|
  allq qX12_readWeights 138 (.inl (a_al 0 139)) (s_aload_n (q := 0) (i := 0) rfl (by decide +kernel)) <|
  alln
set_option maxRecDepth 20000 in
theorem kX12_readWeights_2 : ∀ q ∈ tX12_readWeights_2, qX12_readWeights q :=
  allq qX12_readWeights 139 (.inl (a_ic 0 140)) (s_iconst (n := 0) (v := 0) rfl (by decide +kernel)) <|
  allq qX12_readWeights 140 (.inl (a_put 11 56 .int 143)) (pX12 (f0 := 56) (by decide) rfl rfl tOk kw_1241 (by decide +kernel)) <|
  allq qX12_readWeights 143 (.inl (a_al 0 144)) (s_aload_n (q := 0) (i := 0) rfl (by decide +kernel)) <|
  allq qX12_readWeights 144 (.inl (a_get 11 56 147)) (gX12 (f0 := 56) (by decide) kw_1241 (by decide +kernel)) <|
  allq qX12_readWeights 147 (.inl (a_ic 255 150)) (s_sipush (n := 255) (v := 255) rfl (by decide +kernel)) <|
  allq qX12_readWeights 150 (.inl (o_icmp_ge 283 153)) (s_icmp_ge (off := 133) (by decide +kernel) (by decide)) <|
  allq qX12_readWeights 153 (.inl (a_al 0 154)) (s_aload_n (q := 0) (i := 0) rfl (by decide +kernel)) <|
  allq qX12_readWeights 154 (.inl (a_get 11 55 157)) (gX12 (f0 := 55) (by decide) kw_1240 (by decide +kernel)) <|
  allq qX12_readWeights 157 (.inl (a_al 0 158)) (s_aload_n (q := 0) (i := 0) rfl (by decide +kernel)) <|
  allq qX12_readWeights 158 (.inl (a_get 11 56 161)) (gX12 (f0 := 56) (by decide) kw_1241 (by decide +kernel)) <|
  allq qX12_readWeights 161 (.inl (a_al 0 162)) (s_aload_n (q := 0) (i := 0) rfl (by decide +kernel)) <|
  allq qX12_readWeights 162 (.inl (a_get 11 41 165)) (gX12 (f0 := 41) (by decide) kw_1226 (by decide +kernel)) <|
  allq qX12_readWeights 165 (.inl (a_ic 1536 168)) (s_sipush (n := 1536) (v := 1536) rfl (by decide +kernel)) <|
  allq qX12_readWeights 168 (.inl (a_il 3 169)) (s_iload_n (q := 3) (i := 3) rfl (by decide +kernel)) <|
  allq qX12_readWeights 169 (.inl (o_iadd 170)) (s_iadd (by decide +kernel)) <|
  allq qX12_readWeights 170 (.inl (a_iald 171)) (s_iald (by decide +kernel)) <|
  allq qX12_readWeights 171 (.inl (a_iast 172)) (s_iast (by decide +kernel)) <|
  allq qX12_readWeights 172 (.inl (a_al 0 173)) (s_aload_n (q := 0) (i := 0) rfl (by decide +kernel)) <|
  allq qX12_readWeights 173 (.inl (a_dup 174)) (s_dup (by decide +kernel)) <|
  allq qX12_readWeights 174 (.inl (a_get 11 56 177)) (gX12 (f0 := 56) (by decide) kw_1241 (by decide +kernel)) <|
  allq qX12_readWeights 177 (.inl (a_ic 1 178)) (s_iconst (n := 1) (v := 1) rfl (by decide +kernel)) <|
  allq qX12_readWeights 178 (.inl (o_iadd 179)) (s_iadd (by decide +kernel)) <|
  allq qX12_readWeights 179 (.inl (a_put 11 56 .int 182)) (pX12 (f0 := 56) (by decide) rfl rfl tOk kw_1241 (by decide +kernel)) <|
  allq qX12_readWeights 182 (.inl (a_al 0 183)) (s_aload_n (q := 0) (i := 0) rfl (by decide +kernel)) <|
  allq qX12_readWeights 183 (.inl (a_get 11 42 186)) (gX12 (f0 := 42) (by decide) kw_1227 (by decide +kernel)) <|
  allq qX12_readWeights 186 (.inl (a_ic 1536 189)) (s_sipush (n := 1536) (v := 1536) rfl (by decide +kernel)) <|
  allq qX12_readWeights 189 (.inl (a_il 3 190)) (s_iload_n (q := 3) (i := 3) rfl (by decide +kernel)) <|
  allq qX12_readWeights 190 (.inl (o_iadd 191)) (s_iadd (by decide +kernel)) <|
  allq qX12_readWeights 191 (.inl (a_iald 192)) (s_iald (by decide +kernel)) <|
  allq qX12_readWeights 192 (.inl (a_is 5 194)) (s_istore (i := 5) (by decide +kernel) (by decide)) <|
  allq qX12_readWeights 194 (.inl (a_al 0 195)) (s_aload_n (q := 0) (i := 0) rfl (by decide +kernel)) <|
  allq qX12_readWeights 195 (.inl (a_get 11 61 198)) (gX12 (f0 := 61) (by decide) kw_1246 (by decide +kernel)) <|
  allq qX12_readWeights 198 (.inl (a_al 0 199)) (s_aload_n (q := 0) (i := 0) rfl (by decide +kernel)) <|
  allq qX12_readWeights 199 (.inl (a_get 11 60 202)) (gX12 (f0 := 60) (by decide) kw_1245 (by decide +kernel)) <|
  allq qX12_readWeights 202 (.inl (o_isub 203)) (s_isub (by decide +kernel)) <|
  allq qX12_readWeights 203 (.inl (a_il 5 205)) (s_iload (i := 5) (by decide +kernel)) <|
  allq qX12_readWeights 205 (.inl (o_icmp_ge 254 208)) (s_icmp_ge (off := 49) (by decide +kernel) (by decide)) <|
  allq qX12_readWeights 208 (.inl (a_al 0 209)) (s_aload_n (q := 0) (i := 0) rfl (by decide +kernel)) <|
  allq qX12_readWeights 209 (.inl (a_get 11 55 212)) (gX12 (f0 := 55) (by decide) kw_1240 (by decide +kernel)) <|
  allq qX12_readWeights 212 (.inl (a_al 0 213)) (s_aload_n (q := 0) (i := 0) rfl (by decide +kernel)) <|
  alln
set_option maxRecDepth 20000 in
theorem kX12_readWeights_3 : ∀ q ∈ tX12_readWeights_3, qX12_readWeights q :=
  allq qX12_readWeights 213 (.inl (a_get 11 56 216)) (gX12 (f0 := 56) (by decide) kw_1241 (by decide +kernel)) <|
  allq qX12_readWeights 216 (.inl (a_al 0 217)) (s_aload_n (q := 0) (i := 0) rfl (by decide +kernel)) <|
  allq qX12_readWeights 217 (.inl (a_get 11 41 220)) (gX12 (f0 := 41) (by decide) kw_1226 (by decide +kernel)) <|
  allq qX12_readWeights 220 (.inl (a_ic 1536 223)) (s_sipush (n := 1536) (v := 1536) rfl (by decide +kernel)) <|
  allq qX12_readWeights 223 (.inl (a_il 4 225)) (s_iload (i := 4) (by decide +kernel)) <|
  allq qX12_readWeights 225 (.inl (o_iadd 226)) (s_iadd (by decide +kernel)) <|
  allq qX12_readWeights 226 (.inl (a_iald 227)) (s_iald (by decide +kernel)) <|
  allq qX12_readWeights 227 (.inl (a_iast 228)) (s_iast (by decide +kernel)) <|
  allq qX12_readWeights 228 (.inl (a_al 0 229)) (s_aload_n (q := 0) (i := 0) rfl (by decide +kernel)) <|
  allq qX12_readWeights 229 (.inl (a_dup 230)) (s_dup (by decide +kernel)) <|
  allq qX12_readWeights 230 (.inl (a_get 11 56 233)) (gX12 (f0 := 56) (by decide) kw_1241 (by decide +kernel)) <|
  allq qX12_readWeights 233 (.inl (a_ic 1 234)) (s_iconst (n := 1) (v := 1) rfl (by decide +kernel)) <|
  allq qX12_readWeights 234 (.inl (o_iadd 235)) (s_iadd (by decide +kernel)) <|
  allq qX12_readWeights 235 (.inl (a_put 11 56 .int 238)) (pX12 (f0 := 56) (by decide) rfl rfl tOk kw_1241 (by decide +kernel)) <|
  allq qX12_readWeights 238 (.inl (a_al 0 239)) (s_aload_n (q := 0) (i := 0) rfl (by decide +kernel)) <|
  allq qX12_readWeights 239 (.inl (a_get 11 56 242)) (gX12 (f0 := 56) (by decide) kw_1241 (by decide +kernel)) <|
  allq qX12_readWeights 242 (.inl (a_ic 256 245)) (s_sipush (n := 256) (v := 256) rfl (by decide +kernel)) <|
  allq qX12_readWeights 245 (.inl (o_icmp_ge 252 248)) (s_icmp_ge (off := 7) (by decide +kernel) (by decide)) <|
  allq qX12_readWeights 248 (.inl (a_ic 1 249)) (s_iconst (n := 1) (v := 1) rfl (by decide +kernel)) <|
  allq qX12_readWeights 249 (.inl (a_go 253)) (s_goto (off := 4) (by decide +kernel) (by decide)) <|
  allq qX12_readWeights 252 (.inl (a_ic 0 253)) (s_iconst (n := 0) (v := 0) rfl (by decide +kernel)) <|
  allq qX12_readWeights 253 (.inr (.inr 3)) (Or.inr (Or.inr (Or.inr ⟨rfl, rfl, by decide +kernel⟩))) <|
  allq qX12_readWeights 254 (.inl (a_al 0 255)) (s_aload_n (q := 0) (i := 0) rfl (by decide +kernel)) <|
  allq qX12_readWeights 255 (.inl (a_get 11 43 258)) (gX12 (f0 := 43) (by decide) kw_1228 (by decide +kernel)) <|
  allq qX12_readWeights 258 (.inl (a_ic 1536 261)) (s_sipush (n := 1536) (v := 1536) rfl (by decide +kernel)) <|
  allq qX12_readWeights 261 (.inl (a_il 3 262)) (s_iload_n (q := 3) (i := 3) rfl (by decide +kernel)) <|
  allq qX12_readWeights 262 (.inl (o_iadd 263)) (s_iadd (by decide +kernel)) <|
  allq qX12_readWeights 263 (.inl (a_iald 264)) (s_iald (by decide +kernel)) <|
  allq qX12_readWeights 264 (.inl (a_al 0 265)) (s_aload_n (q := 0) (i := 0) rfl (by decide +kernel)) <|
  allq qX12_readWeights 265 (.inl (a_il 5 267)) (s_iload (i := 5) (by decide +kernel)) <|
  allq qX12_readWeights 267 (.inr (.inl (217, 2, 12))) (okV (y := yX12_takeDown) kw_1704 kw_118 rfl rfl (by decide +kernel) kw_1703 kw_102 kw_1701) <|
  allq qX12_readWeights 270 (.inl (o_iadd 271)) (s_iadd (by decide +kernel)) <|
  allq qX12_readWeights 271 (.inl (a_is 6 273)) (s_istore (i := 6) (by decide +kernel) (by decide)) <|
  allq qX12_readWeights 273 (.inl (a_il 4 275)) (s_iload (i := 4) (by decide +kernel)) <|
  allq qX12_readWeights 275 (.inl (a_is 3 276)) (s_istore_n (q := 3) (i := 3) rfl (by decide +kernel) (by decide)) <|
  allq qX12_readWeights 276 (.inl (a_il 6 278)) (s_iload (i := 6) (by decide +kernel)) <|
  allq qX12_readWeights 278 (.inl (a_is 4 280)) (s_istore (i := 4) (by decide +kernel) (by decide)) <|
  allq qX12_readWeights 280 (.inl (a_go 143)) (s_goto (off := (-137)) (by decide +kernel) (by decide)) <|
  allq qX12_readWeights 283 (.inl (a_ic 0 284)) (s_iconst (n := 0) (v := 0) rfl (by decide +kernel)) <|
  allq qX12_readWeights 284 (.inr (.inr 3)) (Or.inr (Or.inr (Or.inr ⟨rfl, rfl, by decide +kernel⟩))) <|
  alln
theorem kX12_readWeights : ∀ q ∈ tX12_readWeights, qX12_readWeights q := alla kX12_readWeights_0 (alla kX12_readWeights_1 (alla kX12_readWeights_2 kX12_readWeights_3))
abbrev qX12_readDescription : Nat × aI → Prop := OkQ RX12 "readDescription" cX12_readDescription 9 (some .int)
set_option maxRecDepth 20000 in
theorem kX12_readDescription_0 : ∀ q ∈ tX12_readDescription_0, qX12_readDescription q :=
  allq qX12_readDescription 0 (.inl (a_il 1 1)) (s_iload_n (q := 1) (i := 1) rfl (by decide +kernel)) <|
  allq qX12_readDescription 1 (.inl (a_al 0 2)) (s_aload_n (q := 0) (i := 0) rfl (by decide +kernel)) <|
  allq qX12_readDescription 2 (.inl (a_get 11 1 5)) (gX12 (f0 := 1) (by decide) kw_1186 (by decide +kernel)) <|
  allq qX12_readDescription 5 (.inl (o_icmp_lt 10 8)) (s_icmp_lt (off := 5) (by decide +kernel) (by decide)) <|
  allq qX12_readDescription 8 (.inl (a_ic (-1) 9)) (s_iconst (n := (-1)) (v := (-1)) rfl (by decide +kernel)) <|
  allq qX12_readDescription 9 (.inr (.inr 1)) (Or.inr (Or.inl ⟨rfl, rfl, by decide +kernel⟩)) <|
  allq qX12_readDescription 10 (.inl (a_al 0 11)) (s_aload_n (q := 0) (i := 0) rfl (by decide +kernel)) <|
  allq qX12_readDescription 11 (.inl (a_get 11 0 14)) (gX12 (f0 := 0) (by decide) kw_1185 (by decide +kernel)) <|
  allq qX12_readDescription 14 (.inl (a_il 1 15)) (s_iload_n (q := 1) (i := 1) rfl (by decide +kernel)) <|
  allq qX12_readDescription 15 (.inl (a_iald 16)) (s_iald (by decide +kernel)) <|
  allq qX12_readDescription 16 (.inl (a_is 2 17)) (s_istore_n (q := 2) (i := 2) rfl (by decide +kernel) (by decide)) <|
  allq qX12_readDescription 17 (.inl (a_il 1 18)) (s_iload_n (q := 1) (i := 1) rfl (by decide +kernel)) <|
  allq qX12_readDescription 18 (.inl (a_ic 1 19)) (s_iconst (n := 1) (v := 1) rfl (by decide +kernel)) <|
  allq qX12_readDescription 19 (.inl (o_iadd 20)) (s_iadd (by decide +kernel)) <|
  allq qX12_readDescription 20 (.inl (a_il 2 21)) (s_iload_n (q := 2) (i := 2) rfl (by decide +kernel)) <|
  allq qX12_readDescription 21 (.inl (a_ic 127 23)) (s_bipush (n := 127) (v := 127) rfl (by decide +kernel)) <|
  allq qX12_readDescription 23 (.inl (o_icmp_le 35 26)) (s_icmp_le (off := 12) (by decide +kernel) (by decide)) <|
  allq qX12_readDescription 26 (.inl (a_il 2 27)) (s_iload_n (q := 2) (i := 2) rfl (by decide +kernel)) <|
  allq qX12_readDescription 27 (.inl (a_ic 126 29)) (s_bipush (n := 126) (v := 126) rfl (by decide +kernel)) <|
  allq qX12_readDescription 29 (.inl (o_isub 30)) (s_isub (by decide +kernel)) <|
  allq qX12_readDescription 30 (.inl (a_ic 2 31)) (s_iconst (n := 2) (v := 2) rfl (by decide +kernel)) <|
  allq qX12_readDescription 31 (.inl (o_idiv 32)) (s_idiv (by decide +kernel)) <|
  allq qX12_readDescription 32 (.inl (a_go 36)) (s_goto (off := 4) (by decide +kernel) (by decide)) <|
  allq qX12_readDescription 35 (.inl (a_il 2 36)) (s_iload_n (q := 2) (i := 2) rfl (by decide +kernel)) <|
  allq qX12_readDescription 36 (.inl (o_iadd 37)) (s_iadd (by decide +kernel)) <|
  allq qX12_readDescription 37 (.inl (a_is 3 38)) (s_istore_n (q := 3) (i := 3) rfl (by decide +kernel) (by decide)) <|
  allq qX12_readDescription 38 (.inl (a_il 3 39)) (s_iload_n (q := 3) (i := 3) rfl (by decide +kernel)) <|
  allq qX12_readDescription 39 (.inl (a_al 0 40)) (s_aload_n (q := 0) (i := 0) rfl (by decide +kernel)) <|
  allq qX12_readDescription 40 (.inl (a_get 11 1 43)) (gX12 (f0 := 1) (by decide) kw_1186 (by decide +kernel)) <|
  allq qX12_readDescription 43 (.inl (o_icmp_le 48 46)) (s_icmp_le (off := 5) (by decide +kernel) (by decide)) <|
  allq qX12_readDescription 46 (.inl (a_ic (-1) 47)) (s_iconst (n := (-1)) (v := (-1)) rfl (by decide +kernel)) <|
  allq qX12_readDescription 47 (.inr (.inr 1)) (Or.inr (Or.inl ⟨rfl, rfl, by decide +kernel⟩)) <|
  allq qX12_readDescription 48 (.inl (a_il 2 49)) (s_iload_n (q := 2) (i := 2) rfl (by decide +kernel)) <|
  allq qX12_readDescription 49 (.inl (a_ic 127 51)) (s_bipush (n := 127) (v := 127) rfl (by decide +kernel)) <|
  allq qX12_readDescription 51 (.inl (o_icmp_le 132 54)) (s_icmp_le (off := 81) (by decide +kernel) (by decide)) <|
  allq qX12_readDescription 54 (.inl (a_al 0 55)) (s_aload_n (q := 0) (i := 0) rfl (by decide +kernel)) <|
  allq qX12_readDescription 55 (.inl (a_il 2 56)) (s_iload_n (q := 2) (i := 2) rfl (by decide +kernel)) <|
  allq qX12_readDescription 56 (.inl (a_ic 127 58)) (s_bipush (n := 127) (v := 127) rfl (by decide +kernel)) <|
  allq qX12_readDescription 58 (.inl (o_isub 59)) (s_isub (by decide +kernel)) <|
  allq qX12_readDescription 59 (.inl (a_put 11 56 .int 62)) (pX12 (f0 := 56) (by decide) rfl rfl tOk kw_1241 (by decide +kernel)) <|
  alln
set_option maxRecDepth 20000 in
theorem kX12_readDescription_1 : ∀ q ∈ tX12_readDescription_1, qX12_readDescription q :=
  allq qX12_readDescription 62 (.inl (a_ic 0 63)) (s_iconst (n := 0) (v := 0) rfl (by decide +kernel)) <|
  allq qX12_readDescription 63 (.inl (a_is 4 65)) (s_istore (i := 4) (by decide +kernel) (by decide)) <|
  allq qX12_readDescription 65 (.inl (a_il 4 67)) (s_iload (i := 4) (by decide +kernel)) <|
  allq qX12_readDescription 67 (.inl (a_al 0 68)) (s_aload_n (q := 0) (i := 0) rfl (by decide +kernel)) <|
  allq qX12_readDescription 68 (.inl (a_get 11 56 71)) (gX12 (f0 := 56) (by decide) kw_1241 (by decide +kernel)) <|
  allq qX12_readDescription 71 (.inl (o_icmp_ge 129 74)) (s_icmp_ge (off := 58) (by decide +kernel) (by decide)) <|
  allq qX12_readDescription 74 (.inl (a_al 0 75)) (s_aload_n (q := 0) (i := 0) rfl (by decide +kernel)) <|
  allq qX12_readDescription 75 (.inl (a_get 11 55 78)) (gX12 (f0 := 55) (by decide) kw_1240 (by decide +kernel)) <|
  allq qX12_readDescription 78 (.inl (a_il 4 80)) (s_iload (i := 4) (by decide +kernel)) <|
  allq qX12_readDescription 80 (.inl (a_il 4 82)) (s_iload (i := 4) (by decide +kernel)) <|
  allq qX12_readDescription 82 (.inl (a_ic 2 83)) (s_iconst (n := 2) (v := 2) rfl (by decide +kernel)) <|
  allq qX12_readDescription 83 (.inl (o_irem 84)) (s_irem (by decide +kernel)) <|
  allq qX12_readDescription 84 (.inl (o_if_ne 106 87)) (s_if_ne (off := 22) (by decide +kernel) (by decide)) <|
  allq qX12_readDescription 87 (.inl (a_al 0 88)) (s_aload_n (q := 0) (i := 0) rfl (by decide +kernel)) <|
  allq qX12_readDescription 88 (.inl (a_get 11 0 91)) (gX12 (f0 := 0) (by decide) kw_1185 (by decide +kernel)) <|
  allq qX12_readDescription 91 (.inl (a_il 1 92)) (s_iload_n (q := 1) (i := 1) rfl (by decide +kernel)) <|
  allq qX12_readDescription 92 (.inl (a_ic 1 93)) (s_iconst (n := 1) (v := 1) rfl (by decide +kernel)) <|
  allq qX12_readDescription 93 (.inl (o_iadd 94)) (s_iadd (by decide +kernel)) <|
  allq qX12_readDescription 94 (.inl (a_il 4 96)) (s_iload (i := 4) (by decide +kernel)) <|
  allq qX12_readDescription 96 (.inl (a_ic 2 97)) (s_iconst (n := 2) (v := 2) rfl (by decide +kernel)) <|
  allq qX12_readDescription 97 (.inl (o_idiv 98)) (s_idiv (by decide +kernel)) <|
  allq qX12_readDescription 98 (.inl (o_iadd 99)) (s_iadd (by decide +kernel)) <|
  allq qX12_readDescription 99 (.inl (a_iald 100)) (s_iald (by decide +kernel)) <|
  allq qX12_readDescription 100 (.inl (a_ic 16 102)) (s_bipush (n := 16) (v := 16) rfl (by decide +kernel)) <|
  allq qX12_readDescription 102 (.inl (o_idiv 103)) (s_idiv (by decide +kernel)) <|
  allq qX12_readDescription 103 (.inl (a_go 122)) (s_goto (off := 19) (by decide +kernel) (by decide)) <|
  allq qX12_readDescription 106 (.inl (a_al 0 107)) (s_aload_n (q := 0) (i := 0) rfl (by decide +kernel)) <|
  allq qX12_readDescription 107 (.inl (a_get 11 0 110)) (gX12 (f0 := 0) (by decide) kw_1185 (by decide +kernel)) <|
  allq qX12_readDescription 110 (.inl (a_il 1 111)) (s_iload_n (q := 1) (i := 1) rfl (by decide +kernel)) <|
  allq qX12_readDescription 111 (.inl (a_ic 1 112)) (s_iconst (n := 1) (v := 1) rfl (by decide +kernel)) <|
  allq qX12_readDescription 112 (.inl (o_iadd 113)) (s_iadd (by decide +kernel)) <|
  allq qX12_readDescription 113 (.inl (a_il 4 115)) (s_iload (i := 4) (by decide +kernel)) <|
  allq qX12_readDescription 115 (.inl (a_ic 2 116)) (s_iconst (n := 2) (v := 2) rfl (by decide +kernel)) <|
  allq qX12_readDescription 116 (.inl (o_idiv 117)) (s_idiv (by decide +kernel)) <|
  allq qX12_readDescription 117 (.inl (o_iadd 118)) (s_iadd (by decide +kernel)) <|
  allq qX12_readDescription 118 (.inl (a_iald 119)) (s_iald (by decide +kernel)) <|
  allq qX12_readDescription 119 (.inl (a_ic 16 121)) (s_bipush (n := 16) (v := 16) rfl (by decide +kernel)) <|
  allq qX12_readDescription 121 (.inl (o_irem 122)) (s_irem (by decide +kernel)) <|
  allq qX12_readDescription 122 (.inl (a_iast 123)) (s_iast (by decide +kernel)) <|
  allq qX12_readDescription 123 (.inl (a_inc 4 1 126)) (s_iinc (i := 4) (n := 1) (n2 := 1) rfl (by decide +kernel) (by decide)) <|
  alln
set_option maxRecDepth 20000 in
theorem kX12_readDescription_2 : ∀ q ∈ tX12_readDescription_2, qX12_readDescription q :=
  allq qX12_readDescription 126 (.inl (a_go 65)) (s_goto (off := (-61)) (by decide +kernel) (by decide)) <|
  allq qX12_readDescription 129 (.inl (a_go 145)) (s_goto (off := 16) (by decide +kernel) (by decide)) <|
  allq qX12_readDescription 132 (.inl (a_al 0 133)) (s_aload_n (q := 0) (i := 0) rfl (by decide +kernel)) <|
  allq qX12_readDescription 133 (.inl (a_il 1 134)) (s_iload_n (q := 1) (i := 1) rfl (by decide +kernel)) <|
  allq qX12_readDescription 134 (.inl (a_ic 1 135)) (s_iconst (n := 1) (v := 1) rfl (by decide +kernel)) <|
  allq qX12_readDescription 135 (.inl (o_iadd 136)) (s_iadd (by decide +kernel)) <|
  allq qX12_readDescription 136 (.inl (a_il 3 137)) (s_iload_n (q := 3) (i := 3) rfl (by decide +kernel)) <|
  allq qX12_readDescription 137 (.inr (.inl (218, 3, 12))) (okV (y := yX12_readWeights) kw_1692 kw_118 rfl rfl (by decide +kernel) kw_1691 kw_99 kw_1689) <|
  allq qX12_readDescription 140 (.inl (o_if_ne 145 143)) (s_if_ne (off := 5) (by decide +kernel) (by decide)) <|
  allq qX12_readDescription 143 (.inl (a_ic (-1) 144)) (s_iconst (n := (-1)) (v := (-1)) rfl (by decide +kernel)) <|
  allq qX12_readDescription 144 (.inr (.inr 1)) (Or.inr (Or.inl ⟨rfl, rfl, by decide +kernel⟩)) <|
  allq qX12_readDescription 145 (.inl (a_ic 0 146)) (s_iconst (n := 0) (v := 0) rfl (by decide +kernel)) <|
  allq qX12_readDescription 146 (.inl (a_is 4 148)) (s_istore (i := 4) (by decide +kernel) (by decide)) <|
  allq qX12_readDescription 148 (.inl (a_ic 0 149)) (s_iconst (n := 0) (v := 0) rfl (by decide +kernel)) <|
  allq qX12_readDescription 149 (.inl (a_is 5 151)) (s_istore (i := 5) (by decide +kernel) (by decide)) <|
  allq qX12_readDescription 151 (.inl (a_il 5 153)) (s_iload (i := 5) (by decide +kernel)) <|
  allq qX12_readDescription 153 (.inl (a_al 0 154)) (s_aload_n (q := 0) (i := 0) rfl (by decide +kernel)) <|
  allq qX12_readDescription 154 (.inl (a_get 11 56 157)) (gX12 (f0 := 56) (by decide) kw_1241 (by decide +kernel)) <|
  allq qX12_readDescription 157 (.inl (o_icmp_ge 196 160)) (s_icmp_ge (off := 39) (by decide +kernel) (by decide)) <|
  allq qX12_readDescription 160 (.inl (a_il 4 162)) (s_iload (i := 4) (by decide +kernel)) <|
  allq qX12_readDescription 162 (.inl (a_al 0 163)) (s_aload_n (q := 0) (i := 0) rfl (by decide +kernel)) <|
  allq qX12_readDescription 163 (.inl (a_get 11 55 166)) (gX12 (f0 := 55) (by decide) kw_1240 (by decide +kernel)) <|
  allq qX12_readDescription 166 (.inl (a_il 5 168)) (s_iload (i := 5) (by decide +kernel)) <|
  allq qX12_readDescription 168 (.inl (a_iald 169)) (s_iald (by decide +kernel)) <|
  allq qX12_readDescription 169 (.inl (o_if_le 186 172)) (s_if_le (off := 17) (by decide +kernel) (by decide)) <|
  allq qX12_readDescription 172 (.inl (a_ic 1 173)) (s_iconst (n := 1) (v := 1) rfl (by decide +kernel)) <|
  allq qX12_readDescription 173 (.inl (a_al 0 174)) (s_aload_n (q := 0) (i := 0) rfl (by decide +kernel)) <|
  allq qX12_readDescription 174 (.inl (a_get 11 55 177)) (gX12 (f0 := 55) (by decide) kw_1240 (by decide +kernel)) <|
  allq qX12_readDescription 177 (.inl (a_il 5 179)) (s_iload (i := 5) (by decide +kernel)) <|
  allq qX12_readDescription 179 (.inl (a_iald 180)) (s_iald (by decide +kernel)) <|
  allq qX12_readDescription 180 (.inl (a_ic 1 181)) (s_iconst (n := 1) (v := 1) rfl (by decide +kernel)) <|
  allq qX12_readDescription 181 (.inl (o_isub 182)) (s_isub (by decide +kernel)) <|
  allq qX12_readDescription 182 (.inl (o_ishl 183)) (s_ishl (by decide +kernel)) <|
  allq qX12_readDescription 183 (.inl (a_go 187)) (s_goto (off := 4) (by decide +kernel) (by decide)) <|
  allq qX12_readDescription 186 (.inl (a_ic 0 187)) (s_iconst (n := 0) (v := 0) rfl (by decide +kernel)) <|
  allq qX12_readDescription 187 (.inl (o_iadd 188)) (s_iadd (by decide +kernel)) <|
  allq qX12_readDescription 188 (.inl (a_is 4 190)) (s_istore (i := 4) (by decide +kernel) (by decide)) <|
  allq qX12_readDescription 190 (.inl (a_inc 5 1 193)) (s_iinc (i := 5) (n := 1) (n2 := 1) rfl (by decide +kernel) (by decide)) <|
  allq qX12_readDescription 193 (.inl (a_go 151)) (s_goto (off := (-42)) (by decide +kernel) (by decide)) <|
  allq qX12_readDescription 196 (.inl (a_il 4 198)) (s_iload (i := 4) (by decide +kernel)) <|
  alln
set_option maxRecDepth 20000 in
theorem kX12_readDescription_3 : ∀ q ∈ tX12_readDescription_3, qX12_readDescription q :=
  allq qX12_readDescription 198 (.inl (o_if_ne 203 201)) (s_if_ne (off := 5) (by decide +kernel) (by decide)) <|
  allq qX12_readDescription 201 (.inl (a_ic (-1) 202)) (s_iconst (n := (-1)) (v := (-1)) rfl (by decide +kernel)) <|
  allq qX12_readDescription 202 (.inr (.inr 1)) (Or.inr (Or.inl ⟨rfl, rfl, by decide +kernel⟩)) <|
  allq qX12_readDescription 203 (.inl (a_il 4 205)) (s_iload (i := 4) (by decide +kernel)) <|
  allq qX12_readDescription 205 (.inr (.inl (158, 1, 0))) (okS (y := yX12_log) kw_1530 kw_118 rfl (by decide +kernel) kw_1529 (Or.inl kw_1528)) <|
  allq qX12_readDescription 208 (.inl (a_ic 1 209)) (s_iconst (n := 1) (v := 1) rfl (by decide +kernel)) <|
  allq qX12_readDescription 209 (.inl (o_iadd 210)) (s_iadd (by decide +kernel)) <|
  allq qX12_readDescription 210 (.inl (a_is 5 212)) (s_istore (i := 5) (by decide +kernel) (by decide)) <|
  allq qX12_readDescription 212 (.inl (a_ic 1 213)) (s_iconst (n := 1) (v := 1) rfl (by decide +kernel)) <|
  allq qX12_readDescription 213 (.inl (a_il 5 215)) (s_iload (i := 5) (by decide +kernel)) <|
  allq qX12_readDescription 215 (.inl (o_ishl 216)) (s_ishl (by decide +kernel)) <|
  allq qX12_readDescription 216 (.inl (a_il 4 218)) (s_iload (i := 4) (by decide +kernel)) <|
  allq qX12_readDescription 218 (.inl (o_isub 219)) (s_isub (by decide +kernel)) <|
  allq qX12_readDescription 219 (.inl (a_is 6 221)) (s_istore (i := 6) (by decide +kernel) (by decide)) <|
  allq qX12_readDescription 221 (.inl (a_il 5 223)) (s_iload (i := 5) (by decide +kernel)) <|
  allq qX12_readDescription 223 (.inl (a_ic 11 225)) (s_bipush (n := 11) (v := 11) rfl (by decide +kernel)) <|
  allq qX12_readDescription 225 (.inl (o_icmp_gt 240 228)) (s_icmp_gt (off := 15) (by decide +kernel) (by decide)) <|
  allq qX12_readDescription 228 (.inl (a_ic 1 229)) (s_iconst (n := 1) (v := 1) rfl (by decide +kernel)) <|
  allq qX12_readDescription 229 (.inl (a_il 6 231)) (s_iload (i := 6) (by decide +kernel)) <|
  allq qX12_readDescription 231 (.inr (.inl (158, 1, 0))) (okS (y := yX12_log) kw_1530 kw_118 rfl (by decide +kernel) kw_1529 (Or.inl kw_1528)) <|
  allq qX12_readDescription 234 (.inl (o_ishl 235)) (s_ishl (by decide +kernel)) <|
  allq qX12_readDescription 235 (.inl (a_il 6 237)) (s_iload (i := 6) (by decide +kernel)) <|
  allq qX12_readDescription 237 (.inl (o_icmp_eq 242 240)) (s_icmp_eq (off := 5) (by decide +kernel) (by decide)) <|
  allq qX12_readDescription 240 (.inl (a_ic (-1) 241)) (s_iconst (n := (-1)) (v := (-1)) rfl (by decide +kernel)) <|
  allq qX12_readDescription 241 (.inr (.inr 1)) (Or.inr (Or.inl ⟨rfl, rfl, by decide +kernel⟩)) <|
  allq qX12_readDescription 242 (.inl (a_al 0 243)) (s_aload_n (q := 0) (i := 0) rfl (by decide +kernel)) <|
  allq qX12_readDescription 243 (.inl (a_get 11 55 246)) (gX12 (f0 := 55) (by decide) kw_1240 (by decide +kernel)) <|
  allq qX12_readDescription 246 (.inl (a_al 0 247)) (s_aload_n (q := 0) (i := 0) rfl (by decide +kernel)) <|
  allq qX12_readDescription 247 (.inl (a_get 11 56 250)) (gX12 (f0 := 56) (by decide) kw_1241 (by decide +kernel)) <|
  allq qX12_readDescription 250 (.inl (a_il 6 252)) (s_iload (i := 6) (by decide +kernel)) <|
  allq qX12_readDescription 252 (.inr (.inl (158, 1, 0))) (okS (y := yX12_log) kw_1530 kw_118 rfl (by decide +kernel) kw_1529 (Or.inl kw_1528)) <|
  allq qX12_readDescription 255 (.inl (a_ic 1 256)) (s_iconst (n := 1) (v := 1) rfl (by decide +kernel)) <|
  allq qX12_readDescription 256 (.inl (o_iadd 257)) (s_iadd (by decide +kernel)) <|
  allq qX12_readDescription 257 (.inl (a_iast 258)) (s_iast (by decide +kernel)) <|
  allq qX12_readDescription 258 (.inl (a_ic 0 259)) (s_iconst (n := 0) (v := 0) rfl (by decide +kernel)) <|
  allq qX12_readDescription 259 (.inl (a_is 7 261)) (s_istore (i := 7) (by decide +kernel) (by decide)) <|
  allq qX12_readDescription 261 (.inl (a_ic 0 262)) (s_iconst (n := 0) (v := 0) rfl (by decide +kernel)) <|
  allq qX12_readDescription 262 (.inl (a_is 8 264)) (s_istore (i := 8) (by decide +kernel) (by decide)) <|
  allq qX12_readDescription 264 (.inl (a_il 8 266)) (s_iload (i := 8) (by decide +kernel)) <|
  allq qX12_readDescription 266 (.inl (a_al 0 267)) (s_aload_n (q := 0) (i := 0) rfl (by decide +kernel)) <|
  alln
set_option maxRecDepth 20000 in
theorem kX12_readDescription_4 : ∀ q ∈ tX12_readDescription_4, qX12_readDescription q :=
  allq qX12_readDescription 267 (.inl (a_get 11 56 270)) (gX12 (f0 := 56) (by decide) kw_1241 (by decide +kernel)) <|
  allq qX12_readDescription 270 (.inl (o_icmp_gt 300 273)) (s_icmp_gt (off := 30) (by decide +kernel) (by decide)) <|
  allq qX12_readDescription 273 (.inl (a_il 7 275)) (s_iload (i := 7) (by decide +kernel)) <|
  allq qX12_readDescription 275 (.inl (a_al 0 276)) (s_aload_n (q := 0) (i := 0) rfl (by decide +kernel)) <|
  allq qX12_readDescription 276 (.inl (a_get 11 55 279)) (gX12 (f0 := 55) (by decide) kw_1240 (by decide +kernel)) <|
  allq qX12_readDescription 279 (.inl (a_il 8 281)) (s_iload (i := 8) (by decide +kernel)) <|
  allq qX12_readDescription 281 (.inl (a_iald 282)) (s_iald (by decide +kernel)) <|
  allq qX12_readDescription 282 (.inl (a_ic 1 283)) (s_iconst (n := 1) (v := 1) rfl (by decide +kernel)) <|
  allq qX12_readDescription 283 (.inl (o_icmp_ne 290 286)) (s_icmp_ne (off := 7) (by decide +kernel) (by decide)) <|
  allq qX12_readDescription 286 (.inl (a_ic 1 287)) (s_iconst (n := 1) (v := 1) rfl (by decide +kernel)) <|
  allq qX12_readDescription 287 (.inl (a_go 291)) (s_goto (off := 4) (by decide +kernel) (by decide)) <|
  allq qX12_readDescription 290 (.inl (a_ic 0 291)) (s_iconst (n := 0) (v := 0) rfl (by decide +kernel)) <|
  allq qX12_readDescription 291 (.inl (o_iadd 292)) (s_iadd (by decide +kernel)) <|
  allq qX12_readDescription 292 (.inl (a_is 7 294)) (s_istore (i := 7) (by decide +kernel) (by decide)) <|
  allq qX12_readDescription 294 (.inl (a_inc 8 1 297)) (s_iinc (i := 8) (n := 1) (n2 := 1) rfl (by decide +kernel) (by decide)) <|
  allq qX12_readDescription 297 (.inl (a_go 264)) (s_goto (off := (-33)) (by decide +kernel) (by decide)) <|
  allq qX12_readDescription 300 (.inl (a_il 7 302)) (s_iload (i := 7) (by decide +kernel)) <|
  allq qX12_readDescription 302 (.inl (a_ic 2 303)) (s_iconst (n := 2) (v := 2) rfl (by decide +kernel)) <|
  allq qX12_readDescription 303 (.inl (o_icmp_ge 308 306)) (s_icmp_ge (off := 5) (by decide +kernel) (by decide)) <|
  allq qX12_readDescription 306 (.inl (a_ic (-1) 307)) (s_iconst (n := (-1)) (v := (-1)) rfl (by decide +kernel)) <|
  allq qX12_readDescription 307 (.inr (.inr 1)) (Or.inr (Or.inl ⟨rfl, rfl, by decide +kernel⟩)) <|
  allq qX12_readDescription 308 (.inl (a_ic 0 309)) (s_iconst (n := 0) (v := 0) rfl (by decide +kernel)) <|
  allq qX12_readDescription 309 (.inl (a_is 8 311)) (s_istore (i := 8) (by decide +kernel) (by decide)) <|
  allq qX12_readDescription 311 (.inl (a_il 8 313)) (s_iload (i := 8) (by decide +kernel)) <|
  allq qX12_readDescription 313 (.inl (a_ic 256 316)) (s_sipush (n := 256) (v := 256) rfl (by decide +kernel)) <|
  allq qX12_readDescription 316 (.inl (o_icmp_ge 367 319)) (s_icmp_ge (off := 51) (by decide +kernel) (by decide)) <|
  allq qX12_readDescription 319 (.inl (a_al 0 320)) (s_aload_n (q := 0) (i := 0) rfl (by decide +kernel)) <|
  allq qX12_readDescription 320 (.inl (a_get 11 53 323)) (gX12 (f0 := 53) (by decide) kw_1238 (by decide +kernel)) <|
  allq qX12_readDescription 323 (.inl (a_il 8 325)) (s_iload (i := 8) (by decide +kernel)) <|
  allq qX12_readDescription 325 (.inl (a_il 8 327)) (s_iload (i := 8) (by decide +kernel)) <|
  allq qX12_readDescription 327 (.inl (a_al 0 328)) (s_aload_n (q := 0) (i := 0) rfl (by decide +kernel)) <|
  allq qX12_readDescription 328 (.inl (a_get 11 56 331)) (gX12 (f0 := 56) (by decide) kw_1241 (by decide +kernel)) <|
  allq qX12_readDescription 331 (.inl (o_icmp_gt 359 334)) (s_icmp_gt (off := 28) (by decide +kernel) (by decide)) <|
  allq qX12_readDescription 334 (.inl (a_al 0 335)) (s_aload_n (q := 0) (i := 0) rfl (by decide +kernel)) <|
  allq qX12_readDescription 335 (.inl (a_get 11 55 338)) (gX12 (f0 := 55) (by decide) kw_1240 (by decide +kernel)) <|
  allq qX12_readDescription 338 (.inl (a_il 8 340)) (s_iload (i := 8) (by decide +kernel)) <|
  allq qX12_readDescription 340 (.inl (a_iald 341)) (s_iald (by decide +kernel)) <|
  allq qX12_readDescription 341 (.inl (o_if_le 359 344)) (s_if_le (off := 18) (by decide +kernel) (by decide)) <|
  allq qX12_readDescription 344 (.inl (a_il 5 346)) (s_iload (i := 5) (by decide +kernel)) <|
  allq qX12_readDescription 346 (.inl (a_ic 1 347)) (s_iconst (n := 1) (v := 1) rfl (by decide +kernel)) <|
  alln
set_option maxRecDepth 20000 in
theorem kX12_readDescription_5 : ∀ q ∈ tX12_readDescription_5, qX12_readDescription q :=
  allq qX12_readDescription 347 (.inl (o_iadd 348)) (s_iadd (by decide +kernel)) <|
  allq qX12_readDescription 348 (.inl (a_al 0 349)) (s_aload_n (q := 0) (i := 0) rfl (by decide +kernel)) <|
  allq qX12_readDescription 349 (.inl (a_get 11 55 352)) (gX12 (f0 := 55) (by decide) kw_1240 (by decide +kernel)) <|
  allq qX12_readDescription 352 (.inl (a_il 8 354)) (s_iload (i := 8) (by decide +kernel)) <|
  allq qX12_readDescription 354 (.inl (a_iald 355)) (s_iald (by decide +kernel)) <|
  allq qX12_readDescription 355 (.inl (o_isub 356)) (s_isub (by decide +kernel)) <|
  allq qX12_readDescription 356 (.inl (a_go 360)) (s_goto (off := 4) (by decide +kernel) (by decide)) <|
  allq qX12_readDescription 359 (.inl (a_ic 0 360)) (s_iconst (n := 0) (v := 0) rfl (by decide +kernel)) <|
  allq qX12_readDescription 360 (.inl (a_iast 361)) (s_iast (by decide +kernel)) <|
  allq qX12_readDescription 361 (.inl (a_inc 8 1 364)) (s_iinc (i := 8) (n := 1) (n2 := 1) rfl (by decide +kernel) (by decide)) <|
  allq qX12_readDescription 364 (.inl (a_go 311)) (s_goto (off := (-53)) (by decide +kernel) (by decide)) <|
  allq qX12_readDescription 367 (.inl (a_il 3 368)) (s_iload_n (q := 3) (i := 3) rfl (by decide +kernel)) <|
  allq qX12_readDescription 368 (.inr (.inr 1)) (Or.inr (Or.inl ⟨rfl, rfl, by decide +kernel⟩)) <|
  alln
theorem kX12_readDescription : ∀ q ∈ tX12_readDescription, qX12_readDescription q := alla kX12_readDescription_0 (alla kX12_readDescription_1 (alla kX12_readDescription_2 (alla kX12_readDescription_3 (alla kX12_readDescription_4 kX12_readDescription_5))))
abbrev qX12_learn : Nat × aI → Prop := OkQ RX12 "learn" cX12_learn 8 (some .int)
set_option maxRecDepth 20000 in
theorem kX12_learn_0 : ∀ q ∈ tX12_learn_0, qX12_learn q :=
  allq qX12_learn 0 (.inl (a_al 0 1)) (s_aload_n (q := 0) (i := 0) rfl (by decide +kernel)) <|
  allq qX12_learn 1 (.inl (a_get 11 1 4)) (gX12 (f0 := 1) (by decide) kw_1186 (by decide +kernel)) <|
  allq qX12_learn 4 (.inl (a_ic 4 5)) (s_iconst (n := 4) (v := 4) rfl (by decide +kernel)) <|
  allq qX12_learn 5 (.inl (o_icmp_lt 58 8)) (s_icmp_lt (off := 53) (by decide +kernel) (by decide)) <|
  allq qX12_learn 8 (.inl (a_al 0 9)) (s_aload_n (q := 0) (i := 0) rfl (by decide +kernel)) <|
  allq qX12_learn 9 (.inl (a_get 11 0 12)) (gX12 (f0 := 0) (by decide) kw_1185 (by decide +kernel)) <|
  allq qX12_learn 12 (.inl (a_ic 0 13)) (s_iconst (n := 0) (v := 0) rfl (by decide +kernel)) <|
  allq qX12_learn 13 (.inl (a_iald 14)) (s_iald (by decide +kernel)) <|
  allq qX12_learn 14 (.inl (a_ic 55 16)) (s_bipush (n := 55) (v := 55) rfl (by decide +kernel)) <|
  allq qX12_learn 16 (.inl (o_icmp_ne 58 19)) (s_icmp_ne (off := 42) (by decide +kernel) (by decide)) <|
  allq qX12_learn 19 (.inl (a_al 0 20)) (s_aload_n (q := 0) (i := 0) rfl (by decide +kernel)) <|
  allq qX12_learn 20 (.inl (a_get 11 0 23)) (gX12 (f0 := 0) (by decide) kw_1185 (by decide +kernel)) <|
  allq qX12_learn 23 (.inl (a_ic 1 24)) (s_iconst (n := 1) (v := 1) rfl (by decide +kernel)) <|
  allq qX12_learn 24 (.inl (a_iald 25)) (s_iald (by decide +kernel)) <|
  allq qX12_learn 25 (.inl (a_ic 164 28)) (s_sipush (n := 164) (v := 164) rfl (by decide +kernel)) <|
  allq qX12_learn 28 (.inl (o_icmp_ne 58 31)) (s_icmp_ne (off := 30) (by decide +kernel) (by decide)) <|
  allq qX12_learn 31 (.inl (a_al 0 32)) (s_aload_n (q := 0) (i := 0) rfl (by decide +kernel)) <|
  allq qX12_learn 32 (.inl (a_get 11 0 35)) (gX12 (f0 := 0) (by decide) kw_1185 (by decide +kernel)) <|
  allq qX12_learn 35 (.inl (a_ic 2 36)) (s_iconst (n := 2) (v := 2) rfl (by decide +kernel)) <|
  allq qX12_learn 36 (.inl (a_iald 37)) (s_iald (by decide +kernel)) <|
  allq qX12_learn 37 (.inl (a_ic 48 39)) (s_bipush (n := 48) (v := 48) rfl (by decide +kernel)) <|
  allq qX12_learn 39 (.inl (o_icmp_ne 58 42)) (s_icmp_ne (off := 19) (by decide +kernel) (by decide)) <|
  allq qX12_learn 42 (.inl (a_al 0 43)) (s_aload_n (q := 0) (i := 0) rfl (by decide +kernel)) <|
  allq qX12_learn 43 (.inl (a_get 11 0 46)) (gX12 (f0 := 0) (by decide) kw_1185 (by decide +kernel)) <|
  allq qX12_learn 46 (.inl (a_ic 3 47)) (s_iconst (n := 3) (v := 3) rfl (by decide +kernel)) <|
  allq qX12_learn 47 (.inl (a_iald 48)) (s_iald (by decide +kernel)) <|
  allq qX12_learn 48 (.inl (a_ic 236 51)) (s_sipush (n := 236) (v := 236) rfl (by decide +kernel)) <|
  allq qX12_learn 51 (.inl (o_icmp_ne 58 54)) (s_icmp_ne (off := 7) (by decide +kernel) (by decide)) <|
  allq qX12_learn 54 (.inl (a_ic 1 55)) (s_iconst (n := 1) (v := 1) rfl (by decide +kernel)) <|
  allq qX12_learn 55 (.inl (a_go 59)) (s_goto (off := 4) (by decide +kernel) (by decide)) <|
  allq qX12_learn 58 (.inl (a_ic 0 59)) (s_iconst (n := 0) (v := 0) rfl (by decide +kernel)) <|
  allq qX12_learn 59 (.inl (a_is 1 60)) (s_istore_n (q := 1) (i := 1) rfl (by decide +kernel) (by decide)) <|
  allq qX12_learn 60 (.inl (a_ic 0 61)) (s_iconst (n := 0) (v := 0) rfl (by decide +kernel)) <|
  allq qX12_learn 61 (.inl (a_is 2 62)) (s_istore_n (q := 2) (i := 2) rfl (by decide +kernel) (by decide)) <|
  allq qX12_learn 62 (.inl (a_il 1 63)) (s_iload_n (q := 1) (i := 1) rfl (by decide +kernel)) <|
  allq qX12_learn 63 (.inl (o_if_eq 433 66)) (s_if_eq (off := 370) (by decide +kernel) (by decide)) <|
  allq qX12_learn 66 (.inl (a_al 0 67)) (s_aload_n (q := 0) (i := 0) rfl (by decide +kernel)) <|
  allq qX12_learn 67 (.inl (a_get 11 1 70)) (gX12 (f0 := 1) (by decide) kw_1186 (by decide +kernel)) <|
  allq qX12_learn 70 (.inl (a_ic 8 72)) (s_bipush (n := 8) (v := 8) rfl (by decide +kernel)) <|
  allq qX12_learn 72 (.inl (o_icmp_ge 77 75)) (s_icmp_ge (off := 5) (by decide +kernel) (by decide)) <|
  alln
set_option maxRecDepth 20000 in
theorem kX12_learn_1 : ∀ q ∈ tX12_learn_1, qX12_learn q :=
  allq qX12_learn 75 (.inl (a_ic (-1) 76)) (s_iconst (n := (-1)) (v := (-1)) rfl (by decide +kernel)) <|
  allq qX12_learn 76 (.inr (.inr 1)) (Or.inr (Or.inl ⟨rfl, rfl, by decide +kernel⟩)) <|
  allq qX12_learn 77 (.inl (a_al 0 78)) (s_aload_n (q := 0) (i := 0) rfl (by decide +kernel)) <|
  allq qX12_learn 78 (.inl (a_ic 8 80)) (s_bipush (n := 8) (v := 8) rfl (by decide +kernel)) <|
  allq qX12_learn 80 (.inr (.inl (219, 2, 12))) (okV (y := yX12_readDescription) kw_1688 kw_118 rfl rfl (by decide +kernel) kw_1687 kw_98 kw_1685) <|
  allq qX12_learn 83 (.inl (a_is 3 84)) (s_istore_n (q := 3) (i := 3) rfl (by decide +kernel) (by decide)) <|
  allq qX12_learn 84 (.inl (a_il 3 85)) (s_iload_n (q := 3) (i := 3) rfl (by decide +kernel)) <|
  allq qX12_learn 85 (.inl (o_if_ge 91 88)) (s_if_ge (off := 6) (by decide +kernel) (by decide)) <|
  allq qX12_learn 88 (.inl (a_ic (-2) 90)) (s_bipush (n := (-2)) (v := (-2)) rfl (by decide +kernel)) <|
  allq qX12_learn 90 (.inr (.inr 1)) (Or.inr (Or.inl ⟨rfl, rfl, by decide +kernel⟩)) <|
  allq qX12_learn 91 (.inl (a_al 0 92)) (s_aload_n (q := 0) (i := 0) rfl (by decide +kernel)) <|
  allq qX12_learn 92 (.inl (a_ic 8 94)) (s_bipush (n := 8) (v := 8) rfl (by decide +kernel)) <|
  allq qX12_learn 94 (.inl (a_il 3 95)) (s_iload_n (q := 3) (i := 3) rfl (by decide +kernel)) <|
  allq qX12_learn 95 (.inl (o_imul 96)) (s_imul (by decide +kernel)) <|
  allq qX12_learn 96 (.inl (a_put 11 60 .int 99)) (pX12 (f0 := 60) (by decide) rfl rfl tOk kw_1245 (by decide +kernel)) <|
  allq qX12_learn 99 (.inl (a_al 0 100)) (s_aload_n (q := 0) (i := 0) rfl (by decide +kernel)) <|
  allq qX12_learn 100 (.inl (a_ic 8 102)) (s_bipush (n := 8) (v := 8) rfl (by decide +kernel)) <|
  allq qX12_learn 102 (.inl (a_al 0 103)) (s_aload_n (q := 0) (i := 0) rfl (by decide +kernel)) <|
  allq qX12_learn 103 (.inl (a_get 11 1 106)) (gX12 (f0 := 1) (by decide) kw_1186 (by decide +kernel)) <|
  allq qX12_learn 106 (.inl (o_imul 107)) (s_imul (by decide +kernel)) <|
  allq qX12_learn 107 (.inl (a_put 11 61 .int 110)) (pX12 (f0 := 61) (by decide) rfl rfl tOk kw_1246 (by decide +kernel)) <|
  allq qX12_learn 110 (.inl (a_ic 0 111)) (s_iconst (n := 0) (v := 0) rfl (by decide +kernel)) <|
  allq qX12_learn 111 (.inl (a_is 4 113)) (s_istore (i := 4) (by decide +kernel) (by decide)) <|
  allq qX12_learn 113 (.inl (a_il 4 115)) (s_iload (i := 4) (by decide +kernel)) <|
  allq qX12_learn 115 (.inl (a_ic 3 116)) (s_iconst (n := 3) (v := 3) rfl (by decide +kernel)) <|
  allq qX12_learn 116 (.inl (o_icmp_ge 243 119)) (s_icmp_ge (off := 127) (by decide +kernel) (by decide)) <|
  allq qX12_learn 119 (.inl (a_il 4 121)) (s_iload (i := 4) (by decide +kernel)) <|
  allq qX12_learn 121 (.inl (o_if_ne 128 124)) (s_if_ne (off := 7) (by decide +kernel) (by decide)) <|
  allq qX12_learn 124 (.inl (a_ic 1 125)) (s_iconst (n := 1) (v := 1) rfl (by decide +kernel)) <|
  allq qX12_learn 125 (.inl (a_go 139)) (s_goto (off := 14) (by decide +kernel) (by decide)) <|
  allq qX12_learn 128 (.inl (a_il 4 130)) (s_iload (i := 4) (by decide +kernel)) <|
  allq qX12_learn 130 (.inl (a_ic 1 131)) (s_iconst (n := 1) (v := 1) rfl (by decide +kernel)) <|
  allq qX12_learn 131 (.inl (o_icmp_ne 138 134)) (s_icmp_ne (off := 7) (by decide +kernel) (by decide)) <|
  allq qX12_learn 134 (.inl (a_ic 2 135)) (s_iconst (n := 2) (v := 2) rfl (by decide +kernel)) <|
  allq qX12_learn 135 (.inl (a_go 139)) (s_goto (off := 4) (by decide +kernel) (by decide)) <|
  allq qX12_learn 138 (.inl (a_ic 0 139)) (s_iconst (n := 0) (v := 0) rfl (by decide +kernel)) <|
  allq qX12_learn 139 (.inl (a_is 5 141)) (s_istore (i := 5) (by decide +kernel) (by decide)) <|
  allq qX12_learn 141 (.inl (a_al 0 142)) (s_aload_n (q := 0) (i := 0) rfl (by decide +kernel)) <|
  allq qX12_learn 142 (.inl (a_il 5 144)) (s_iload (i := 5) (by decide +kernel)) <|
  allq qX12_learn 144 (.inl (a_ic 1 145)) (s_iconst (n := 1) (v := 1) rfl (by decide +kernel)) <|
  alln
set_option maxRecDepth 20000 in
theorem kX12_learn_2 : ∀ q ∈ tX12_learn_2, qX12_learn q :=
  allq qX12_learn 145 (.inl (o_icmp_ne 153 148)) (s_icmp_ne (off := 8) (by decide +kernel) (by decide)) <|
  allq qX12_learn 148 (.inl (a_ic 8 150)) (s_bipush (n := 8) (v := 8) rfl (by decide +kernel)) <|
  allq qX12_learn 150 (.inl (a_go 155)) (s_goto (off := 5) (by decide +kernel) (by decide)) <|
  allq qX12_learn 153 (.inl (a_ic 9 155)) (s_bipush (n := 9) (v := 9) rfl (by decide +kernel)) <|
  allq qX12_learn 155 (.inl (a_il 5 157)) (s_iload (i := 5) (by decide +kernel)) <|
  allq qX12_learn 157 (.inl (a_ic 1 158)) (s_iconst (n := 1) (v := 1) rfl (by decide +kernel)) <|
  allq qX12_learn 158 (.inl (o_icmp_ne 166 161)) (s_icmp_ne (off := 8) (by decide +kernel) (by decide)) <|
  allq qX12_learn 161 (.inl (a_ic 31 163)) (s_bipush (n := 31) (v := 31) rfl (by decide +kernel)) <|
  allq qX12_learn 163 (.inl (a_go 179)) (s_goto (off := 16) (by decide +kernel) (by decide)) <|
  allq qX12_learn 166 (.inl (a_il 5 168)) (s_iload (i := 5) (by decide +kernel)) <|
  allq qX12_learn 168 (.inl (a_ic 2 169)) (s_iconst (n := 2) (v := 2) rfl (by decide +kernel)) <|
  allq qX12_learn 169 (.inl (o_icmp_ne 177 172)) (s_icmp_ne (off := 8) (by decide +kernel) (by decide)) <|
  allq qX12_learn 172 (.inl (a_ic 52 174)) (s_bipush (n := 52) (v := 52) rfl (by decide +kernel)) <|
  allq qX12_learn 174 (.inl (a_go 179)) (s_goto (off := 5) (by decide +kernel) (by decide)) <|
  allq qX12_learn 177 (.inl (a_ic 35 179)) (s_bipush (n := 35) (v := 35) rfl (by decide +kernel)) <|
  allq qX12_learn 179 (.inr (.inl (216, 3, 12))) (okV (y := yX12_readShare) kw_1696 kw_118 rfl rfl (by decide +kernel) kw_1695 kw_100 kw_1693) <|
  allq qX12_learn 182 (.inl (a_is 6 184)) (s_istore (i := 6) (by decide +kernel) (by decide)) <|
  allq qX12_learn 184 (.inl (a_il 6 186)) (s_iload (i := 6) (by decide +kernel)) <|
  allq qX12_learn 186 (.inl (o_if_ge 192 189)) (s_if_ge (off := 6) (by decide +kernel) (by decide)) <|
  allq qX12_learn 189 (.inl (a_ic (-3) 191)) (s_bipush (n := (-3)) (v := (-3)) rfl (by decide +kernel)) <|
  allq qX12_learn 191 (.inr (.inr 1)) (Or.inr (Or.inl ⟨rfl, rfl, by decide +kernel⟩)) <|
  allq qX12_learn 192 (.inl (a_al 0 193)) (s_aload_n (q := 0) (i := 0) rfl (by decide +kernel)) <|
  allq qX12_learn 193 (.inl (a_get 11 22 196)) (gX12 (f0 := 22) (by decide) kw_1207 (by decide +kernel)) <|
  allq qX12_learn 196 (.inl (a_il 5 198)) (s_iload (i := 5) (by decide +kernel)) <|
  allq qX12_learn 198 (.inl (a_il 6 200)) (s_iload (i := 6) (by decide +kernel)) <|
  allq qX12_learn 200 (.inl (a_iast 201)) (s_iast (by decide +kernel)) <|
  allq qX12_learn 201 (.inl (a_ic 0 202)) (s_iconst (n := 0) (v := 0) rfl (by decide +kernel)) <|
  allq qX12_learn 202 (.inl (a_is 7 204)) (s_istore (i := 7) (by decide +kernel) (by decide)) <|
  allq qX12_learn 204 (.inl (a_il 7 206)) (s_iload (i := 7) (by decide +kernel)) <|
  allq qX12_learn 206 (.inl (a_ic 64 208)) (s_bipush (n := 64) (v := 64) rfl (by decide +kernel)) <|
  allq qX12_learn 208 (.inl (o_icmp_ge 237 211)) (s_icmp_ge (off := 29) (by decide +kernel) (by decide)) <|
  allq qX12_learn 211 (.inl (a_al 0 212)) (s_aload_n (q := 0) (i := 0) rfl (by decide +kernel)) <|
  allq qX12_learn 212 (.inl (a_get 11 21 215)) (gX12 (f0 := 21) (by decide) kw_1206 (by decide +kernel)) <|
  allq qX12_learn 215 (.inl (a_ic 64 217)) (s_bipush (n := 64) (v := 64) rfl (by decide +kernel)) <|
  allq qX12_learn 217 (.inl (a_il 5 219)) (s_iload (i := 5) (by decide +kernel)) <|
  allq qX12_learn 219 (.inl (o_imul 220)) (s_imul (by decide +kernel)) <|
  allq qX12_learn 220 (.inl (a_il 7 222)) (s_iload (i := 7) (by decide +kernel)) <|
  allq qX12_learn 222 (.inl (o_iadd 223)) (s_iadd (by decide +kernel)) <|
  allq qX12_learn 223 (.inl (a_al 0 224)) (s_aload_n (q := 0) (i := 0) rfl (by decide +kernel)) <|
  allq qX12_learn 224 (.inl (a_get 11 45 227)) (gX12 (f0 := 45) (by decide) kw_1230 (by decide +kernel)) <|
  alln
set_option maxRecDepth 20000 in
theorem kX12_learn_3 : ∀ q ∈ tX12_learn_3, qX12_learn q :=
  allq qX12_learn 227 (.inl (a_il 7 229)) (s_iload (i := 7) (by decide +kernel)) <|
  allq qX12_learn 229 (.inl (a_iald 230)) (s_iald (by decide +kernel)) <|
  allq qX12_learn 230 (.inl (a_iast 231)) (s_iast (by decide +kernel)) <|
  allq qX12_learn 231 (.inl (a_inc 7 1 234)) (s_iinc (i := 7) (n := 1) (n2 := 1) rfl (by decide +kernel) (by decide)) <|
  allq qX12_learn 234 (.inl (a_go 204)) (s_goto (off := (-30)) (by decide +kernel) (by decide)) <|
  allq qX12_learn 237 (.inl (a_inc 4 1 240)) (s_iinc (i := 4) (n := 1) (n2 := 1) rfl (by decide +kernel) (by decide)) <|
  allq qX12_learn 240 (.inl (a_go 113)) (s_goto (off := (-127)) (by decide +kernel) (by decide)) <|
  allq qX12_learn 243 (.inl (a_al 0 244)) (s_aload_n (q := 0) (i := 0) rfl (by decide +kernel)) <|
  allq qX12_learn 244 (.inl (a_get 11 60 247)) (gX12 (f0 := 60) (by decide) kw_1245 (by decide +kernel)) <|
  allq qX12_learn 247 (.inl (a_ic 8 249)) (s_bipush (n := 8) (v := 8) rfl (by decide +kernel)) <|
  allq qX12_learn 249 (.inl (o_idiv 250)) (s_idiv (by decide +kernel)) <|
  allq qX12_learn 250 (.inl (a_ic 12 252)) (s_bipush (n := 12) (v := 12) rfl (by decide +kernel)) <|
  allq qX12_learn 252 (.inl (o_iadd 253)) (s_iadd (by decide +kernel)) <|
  allq qX12_learn 253 (.inl (a_is 2 254)) (s_istore_n (q := 2) (i := 2) rfl (by decide +kernel) (by decide)) <|
  allq qX12_learn 254 (.inl (a_il 2 255)) (s_iload_n (q := 2) (i := 2) rfl (by decide +kernel)) <|
  allq qX12_learn 255 (.inl (a_al 0 256)) (s_aload_n (q := 0) (i := 0) rfl (by decide +kernel)) <|
  allq qX12_learn 256 (.inl (a_get 11 1 259)) (gX12 (f0 := 1) (by decide) kw_1186 (by decide +kernel)) <|
  allq qX12_learn 259 (.inl (o_icmp_le 264 262)) (s_icmp_le (off := 5) (by decide +kernel) (by decide)) <|
  allq qX12_learn 262 (.inl (a_ic (-1) 263)) (s_iconst (n := (-1)) (v := (-1)) rfl (by decide +kernel)) <|
  allq qX12_learn 263 (.inr (.inr 1)) (Or.inr (Or.inl ⟨rfl, rfl, by decide +kernel⟩)) <|
  allq qX12_learn 264 (.inl (a_ic 0 265)) (s_iconst (n := 0) (v := 0) rfl (by decide +kernel)) <|
  allq qX12_learn 265 (.inl (a_is 4 267)) (s_istore (i := 4) (by decide +kernel) (by decide)) <|
  allq qX12_learn 267 (.inl (a_il 4 269)) (s_iload (i := 4) (by decide +kernel)) <|
  allq qX12_learn 269 (.inl (a_ic 3 270)) (s_iconst (n := 3) (v := 3) rfl (by decide +kernel)) <|
  allq qX12_learn 270 (.inl (o_icmp_ge 328 273)) (s_icmp_ge (off := 58) (by decide +kernel) (by decide)) <|
  allq qX12_learn 273 (.inl (a_al 0 274)) (s_aload_n (q := 0) (i := 0) rfl (by decide +kernel)) <|
  allq qX12_learn 274 (.inl (a_il 2 275)) (s_iload_n (q := 2) (i := 2) rfl (by decide +kernel)) <|
  allq qX12_learn 275 (.inl (a_ic 12 277)) (s_bipush (n := 12) (v := 12) rfl (by decide +kernel)) <|
  allq qX12_learn 277 (.inl (o_isub 278)) (s_isub (by decide +kernel)) <|
  allq qX12_learn 278 (.inl (a_ic 4 279)) (s_iconst (n := 4) (v := 4) rfl (by decide +kernel)) <|
  allq qX12_learn 279 (.inl (a_il 4 281)) (s_iload (i := 4) (by decide +kernel)) <|
  allq qX12_learn 281 (.inl (o_imul 282)) (s_imul (by decide +kernel)) <|
  allq qX12_learn 282 (.inl (o_iadd 283)) (s_iadd (by decide +kernel)) <|
  allq qX12_learn 283 (.inl (a_ic 4 284)) (s_iconst (n := 4) (v := 4) rfl (by decide +kernel)) <|
  allq qX12_learn 284 (.inr (.inl (211, 3, 12))) (okV (y := yX12_wordAt) kw_1657 kw_118 rfl rfl (by decide +kernel) kw_1656 kw_96 kw_1654) <|
  allq qX12_learn 287 (.inl (a_lst 5 289)) (s_lstore (i := 5) (by decide +kernel) (by decide)) <|
  allq qX12_learn 289 (.inl (a_ll 5 291)) (s_lload (i := 5) (by decide +kernel)) <|
  allq qX12_learn 291 (.inl (a_lc 0 292)) (s_lconst (n := 0) rfl (by decide +kernel)) <|
  allq qX12_learn 292 (.inl (a_lcmp 293)) (s_lcmp (by decide +kernel)) <|
  allq qX12_learn 293 (.inl (o_if_eq 309 296)) (s_if_eq (off := 16) (by decide +kernel) (by decide)) <|
  alln
set_option maxRecDepth 20000 in
theorem kX12_learn_4 : ∀ q ∈ tX12_learn_4, qX12_learn q :=
  allq qX12_learn 296 (.inl (a_ll 5 298)) (s_lload (i := 5) (by decide +kernel)) <|
  allq qX12_learn 298 (.inl (a_al 0 299)) (s_aload_n (q := 0) (i := 0) rfl (by decide +kernel)) <|
  allq qX12_learn 299 (.inl (a_get 11 1 302)) (gX12 (f0 := 1) (by decide) kw_1186 (by decide +kernel)) <|
  allq qX12_learn 302 (.inl (a_il 2 303)) (s_iload_n (q := 2) (i := 2) rfl (by decide +kernel)) <|
  allq qX12_learn 303 (.inl (o_isub 304)) (s_isub (by decide +kernel)) <|
  allq qX12_learn 304 (.inl (a_i2l 305)) (s_i2l (by decide +kernel)) <|
  allq qX12_learn 305 (.inl (a_lcmp 306)) (s_lcmp (by decide +kernel)) <|
  allq qX12_learn 306 (.inl (o_if_le 312 309)) (s_if_le (off := 6) (by decide +kernel) (by decide)) <|
  allq qX12_learn 309 (.inl (a_ic (-4) 311)) (s_bipush (n := (-4)) (v := (-4)) rfl (by decide +kernel)) <|
  allq qX12_learn 311 (.inr (.inr 1)) (Or.inr (Or.inl ⟨rfl, rfl, by decide +kernel⟩)) <|
  allq qX12_learn 312 (.inl (a_al 0 313)) (s_aload_n (q := 0) (i := 0) rfl (by decide +kernel)) <|
  allq qX12_learn 313 (.inl (a_get 11 23 316)) (gX12 (f0 := 23) (by decide) kw_1208 (by decide +kernel)) <|
  allq qX12_learn 316 (.inl (a_il 4 318)) (s_iload (i := 4) (by decide +kernel)) <|
  allq qX12_learn 318 (.inl (a_ll 5 320)) (s_lload (i := 5) (by decide +kernel)) <|
  allq qX12_learn 320 (.inl (a_l2i 321)) (s_l2i (by decide +kernel)) <|
  allq qX12_learn 321 (.inl (a_iast 322)) (s_iast (by decide +kernel)) <|
  allq qX12_learn 322 (.inl (a_inc 4 1 325)) (s_iinc (i := 4) (n := 1) (n2 := 1) rfl (by decide +kernel) (by decide)) <|
  allq qX12_learn 325 (.inl (a_go 267)) (s_goto (off := (-58)) (by decide +kernel) (by decide)) <|
  allq qX12_learn 328 (.inl (a_ic 0 329)) (s_iconst (n := 0) (v := 0) rfl (by decide +kernel)) <|
  allq qX12_learn 329 (.inl (a_is 4 331)) (s_istore (i := 4) (by decide +kernel) (by decide)) <|
  allq qX12_learn 331 (.inl (a_il 4 333)) (s_iload (i := 4) (by decide +kernel)) <|
  allq qX12_learn 333 (.inl (a_ic 256 336)) (s_sipush (n := 256) (v := 256) rfl (by decide +kernel)) <|
  allq qX12_learn 336 (.inl (o_icmp_ge 359 339)) (s_icmp_ge (off := 23) (by decide +kernel) (by decide)) <|
  allq qX12_learn 339 (.inl (a_al 0 340)) (s_aload_n (q := 0) (i := 0) rfl (by decide +kernel)) <|
  allq qX12_learn 340 (.inl (a_get 11 10 343)) (gX12 (f0 := 10) (by decide) kw_1195 (by decide +kernel)) <|
  allq qX12_learn 343 (.inl (a_il 4 345)) (s_iload (i := 4) (by decide +kernel)) <|
  allq qX12_learn 345 (.inl (a_al 0 346)) (s_aload_n (q := 0) (i := 0) rfl (by decide +kernel)) <|
  allq qX12_learn 346 (.inl (a_get 11 53 349)) (gX12 (f0 := 53) (by decide) kw_1238 (by decide +kernel)) <|
  allq qX12_learn 349 (.inl (a_il 4 351)) (s_iload (i := 4) (by decide +kernel)) <|
  allq qX12_learn 351 (.inl (a_iald 352)) (s_iald (by decide +kernel)) <|
  allq qX12_learn 352 (.inl (a_iast 353)) (s_iast (by decide +kernel)) <|
  allq qX12_learn 353 (.inl (a_inc 4 1 356)) (s_iinc (i := 4) (n := 1) (n2 := 1) rfl (by decide +kernel) (by decide)) <|
  allq qX12_learn 356 (.inl (a_go 331)) (s_goto (off := (-25)) (by decide +kernel) (by decide)) <|
  allq qX12_learn 359 (.inl (a_ic 0 360)) (s_iconst (n := 0) (v := 0) rfl (by decide +kernel)) <|
  allq qX12_learn 360 (.inl (a_is 4 362)) (s_istore (i := 4) (by decide +kernel) (by decide)) <|
  allq qX12_learn 362 (.inl (a_il 4 364)) (s_iload (i := 4) (by decide +kernel)) <|
  allq qX12_learn 364 (.inl (a_ic 192 367)) (s_sipush (n := 192) (v := 192) rfl (by decide +kernel)) <|
  allq qX12_learn 367 (.inl (o_icmp_ge 390 370)) (s_icmp_ge (off := 23) (by decide +kernel) (by decide)) <|
  allq qX12_learn 370 (.inl (a_al 0 371)) (s_aload_n (q := 0) (i := 0) rfl (by decide +kernel)) <|
  allq qX12_learn 371 (.inl (a_get 11 11 374)) (gX12 (f0 := 11) (by decide) kw_1196 (by decide +kernel)) <|
  alln
set_option maxRecDepth 20000 in
theorem kX12_learn_5 : ∀ q ∈ tX12_learn_5, qX12_learn q :=
  allq qX12_learn 374 (.inl (a_il 4 376)) (s_iload (i := 4) (by decide +kernel)) <|
  allq qX12_learn 376 (.inl (a_al 0 377)) (s_aload_n (q := 0) (i := 0) rfl (by decide +kernel)) <|
  allq qX12_learn 377 (.inl (a_get 11 21 380)) (gX12 (f0 := 21) (by decide) kw_1206 (by decide +kernel)) <|
  allq qX12_learn 380 (.inl (a_il 4 382)) (s_iload (i := 4) (by decide +kernel)) <|
  allq qX12_learn 382 (.inl (a_iald 383)) (s_iald (by decide +kernel)) <|
  allq qX12_learn 383 (.inl (a_iast 384)) (s_iast (by decide +kernel)) <|
  allq qX12_learn 384 (.inl (a_inc 4 1 387)) (s_iinc (i := 4) (n := 1) (n2 := 1) rfl (by decide +kernel) (by decide)) <|
  allq qX12_learn 387 (.inl (a_go 362)) (s_goto (off := (-25)) (by decide +kernel) (by decide)) <|
  allq qX12_learn 390 (.inl (a_ic 0 391)) (s_iconst (n := 0) (v := 0) rfl (by decide +kernel)) <|
  allq qX12_learn 391 (.inl (a_is 4 393)) (s_istore (i := 4) (by decide +kernel) (by decide)) <|
  allq qX12_learn 393 (.inl (a_il 4 395)) (s_iload (i := 4) (by decide +kernel)) <|
  allq qX12_learn 395 (.inl (a_ic 3 396)) (s_iconst (n := 3) (v := 3) rfl (by decide +kernel)) <|
  allq qX12_learn 396 (.inl (o_icmp_ge 433 399)) (s_icmp_ge (off := 37) (by decide +kernel) (by decide)) <|
  allq qX12_learn 399 (.inl (a_al 0 400)) (s_aload_n (q := 0) (i := 0) rfl (by decide +kernel)) <|
  allq qX12_learn 400 (.inl (a_get 11 12 403)) (gX12 (f0 := 12) (by decide) kw_1197 (by decide +kernel)) <|
  allq qX12_learn 403 (.inl (a_il 4 405)) (s_iload (i := 4) (by decide +kernel)) <|
  allq qX12_learn 405 (.inl (a_al 0 406)) (s_aload_n (q := 0) (i := 0) rfl (by decide +kernel)) <|
  allq qX12_learn 406 (.inl (a_get 11 22 409)) (gX12 (f0 := 22) (by decide) kw_1207 (by decide +kernel)) <|
  allq qX12_learn 409 (.inl (a_il 4 411)) (s_iload (i := 4) (by decide +kernel)) <|
  allq qX12_learn 411 (.inl (a_iald 412)) (s_iald (by decide +kernel)) <|
  allq qX12_learn 412 (.inl (a_iast 413)) (s_iast (by decide +kernel)) <|
  allq qX12_learn 413 (.inl (a_al 0 414)) (s_aload_n (q := 0) (i := 0) rfl (by decide +kernel)) <|
  allq qX12_learn 414 (.inl (a_get 11 13 417)) (gX12 (f0 := 13) (by decide) kw_1198 (by decide +kernel)) <|
  allq qX12_learn 417 (.inl (a_il 4 419)) (s_iload (i := 4) (by decide +kernel)) <|
  allq qX12_learn 419 (.inl (a_al 0 420)) (s_aload_n (q := 0) (i := 0) rfl (by decide +kernel)) <|
  allq qX12_learn 420 (.inl (a_get 11 23 423)) (gX12 (f0 := 23) (by decide) kw_1208 (by decide +kernel)) <|
  allq qX12_learn 423 (.inl (a_il 4 425)) (s_iload (i := 4) (by decide +kernel)) <|
  allq qX12_learn 425 (.inl (a_iald 426)) (s_iald (by decide +kernel)) <|
  allq qX12_learn 426 (.inl (a_iast 427)) (s_iast (by decide +kernel)) <|
  allq qX12_learn 427 (.inl (a_inc 4 1 430)) (s_iinc (i := 4) (n := 1) (n2 := 1) rfl (by decide +kernel) (by decide)) <|
  allq qX12_learn 430 (.inl (a_go 393)) (s_goto (off := (-37)) (by decide +kernel) (by decide)) <|
  allq qX12_learn 433 (.inl (a_al 0 434)) (s_aload_n (q := 0) (i := 0) rfl (by decide +kernel)) <|
  allq qX12_learn 434 (.inl (a_il 1 435)) (s_iload_n (q := 1) (i := 1) rfl (by decide +kernel)) <|
  allq qX12_learn 435 (.inl (a_put 11 9 .boolean 438)) (pX12 (f0 := 9) (by decide) rfl rfl tOk kw_1194 (by decide +kernel)) <|
  allq qX12_learn 438 (.inl (a_al 0 439)) (s_aload_n (q := 0) (i := 0) rfl (by decide +kernel)) <|
  allq qX12_learn 439 (.inl (a_il 1 440)) (s_iload_n (q := 1) (i := 1) rfl (by decide +kernel)) <|
  allq qX12_learn 440 (.inl (o_if_eq 453 443)) (s_if_eq (off := 13) (by decide +kernel) (by decide)) <|
  allq qX12_learn 443 (.inl (a_al 0 444)) (s_aload_n (q := 0) (i := 0) rfl (by decide +kernel)) <|
  allq qX12_learn 444 (.inl (a_ic 4 445)) (s_iconst (n := 4) (v := 4) rfl (by decide +kernel)) <|
  allq qX12_learn 445 (.inl (a_ic 4 446)) (s_iconst (n := 4) (v := 4) rfl (by decide +kernel)) <|
  alln
set_option maxRecDepth 20000 in
theorem kX12_learn_6 : ∀ q ∈ tX12_learn_6, qX12_learn q :=
  allq qX12_learn 446 (.inr (.inl (211, 3, 12))) (okV (y := yX12_wordAt) kw_1657 kw_118 rfl rfl (by decide +kernel) kw_1656 kw_96 kw_1654) <|
  allq qX12_learn 449 (.inl (a_l2i 450)) (s_l2i (by decide +kernel)) <|
  allq qX12_learn 450 (.inl (a_go 454)) (s_goto (off := 4) (by decide +kernel) (by decide)) <|
  allq qX12_learn 453 (.inl (a_ic 0 454)) (s_iconst (n := 0) (v := 0) rfl (by decide +kernel)) <|
  allq qX12_learn 454 (.inl (a_put 11 8 .int 457)) (pX12 (f0 := 8) (by decide) rfl rfl tOk kw_1193 (by decide +kernel)) <|
  allq qX12_learn 457 (.inl (a_al 0 458)) (s_aload_n (q := 0) (i := 0) rfl (by decide +kernel)) <|
  allq qX12_learn 458 (.inl (a_al 0 459)) (s_aload_n (q := 0) (i := 0) rfl (by decide +kernel)) <|
  allq qX12_learn 459 (.inl (a_get 11 1 462)) (gX12 (f0 := 1) (by decide) kw_1186 (by decide +kernel)) <|
  allq qX12_learn 462 (.inl (a_il 2 463)) (s_iload_n (q := 2) (i := 2) rfl (by decide +kernel)) <|
  allq qX12_learn 463 (.inl (o_isub 464)) (s_isub (by decide +kernel)) <|
  allq qX12_learn 464 (.inl (a_put 11 7 .int 467)) (pX12 (f0 := 7) (by decide) rfl rfl tOk kw_1192 (by decide +kernel)) <|
  allq qX12_learn 467 (.inl (a_ic 0 468)) (s_iconst (n := 0) (v := 0) rfl (by decide +kernel)) <|
  allq qX12_learn 468 (.inl (a_is 3 469)) (s_istore_n (q := 3) (i := 3) rfl (by decide +kernel) (by decide)) <|
  allq qX12_learn 469 (.inl (a_il 3 470)) (s_iload_n (q := 3) (i := 3) rfl (by decide +kernel)) <|
  allq qX12_learn 470 (.inl (a_al 0 471)) (s_aload_n (q := 0) (i := 0) rfl (by decide +kernel)) <|
  allq qX12_learn 471 (.inl (a_get 11 7 474)) (gX12 (f0 := 7) (by decide) kw_1192 (by decide +kernel)) <|
  allq qX12_learn 474 (.inl (o_icmp_ge 497 477)) (s_icmp_ge (off := 23) (by decide +kernel) (by decide)) <|
  allq qX12_learn 477 (.inl (a_al 0 478)) (s_aload_n (q := 0) (i := 0) rfl (by decide +kernel)) <|
  allq qX12_learn 478 (.inl (a_get 11 6 481)) (gX12 (f0 := 6) (by decide) kw_1191 (by decide +kernel)) <|
  allq qX12_learn 481 (.inl (a_il 3 482)) (s_iload_n (q := 3) (i := 3) rfl (by decide +kernel)) <|
  allq qX12_learn 482 (.inl (a_al 0 483)) (s_aload_n (q := 0) (i := 0) rfl (by decide +kernel)) <|
  allq qX12_learn 483 (.inl (a_get 11 0 486)) (gX12 (f0 := 0) (by decide) kw_1185 (by decide +kernel)) <|
  allq qX12_learn 486 (.inl (a_il 2 487)) (s_iload_n (q := 2) (i := 2) rfl (by decide +kernel)) <|
  allq qX12_learn 487 (.inl (a_il 3 488)) (s_iload_n (q := 3) (i := 3) rfl (by decide +kernel)) <|
  allq qX12_learn 488 (.inl (o_iadd 489)) (s_iadd (by decide +kernel)) <|
  allq qX12_learn 489 (.inl (a_iald 490)) (s_iald (by decide +kernel)) <|
  allq qX12_learn 490 (.inl (a_iast 491)) (s_iast (by decide +kernel)) <|
  allq qX12_learn 491 (.inl (a_inc 3 1 494)) (s_iinc (i := 3) (n := 1) (n2 := 1) rfl (by decide +kernel) (by decide)) <|
  allq qX12_learn 494 (.inl (a_go 469)) (s_goto (off := (-25)) (by decide +kernel) (by decide)) <|
  allq qX12_learn 497 (.inl (a_al 0 498)) (s_aload_n (q := 0) (i := 0) rfl (by decide +kernel)) <|
  allq qX12_learn 498 (.inl (a_ic 0 499)) (s_iconst (n := 0) (v := 0) rfl (by decide +kernel)) <|
  allq qX12_learn 499 (.inl (a_put 11 1 .int 502)) (pX12 (f0 := 1) (by decide) rfl rfl tOk kw_1186 (by decide +kernel)) <|
  allq qX12_learn 502 (.inl (a_al 0 503)) (s_aload_n (q := 0) (i := 0) rfl (by decide +kernel)) <|
  allq qX12_learn 503 (.inl (a_get 11 7 506)) (gX12 (f0 := 7) (by decide) kw_1192 (by decide +kernel)) <|
  allq qX12_learn 506 (.inr (.inr 1)) (Or.inr (Or.inl ⟨rfl, rfl, by decide +kernel⟩)) <|
  alln
theorem kX12_learn : ∀ q ∈ tX12_learn, qX12_learn q := alla kX12_learn_0 (alla kX12_learn_1 (alla kX12_learn_2 (alla kX12_learn_3 (alla kX12_learn_4 (alla kX12_learn_5 kX12_learn_6)))))
abbrev qX12_size : Nat × aI → Prop := OkQ RX12 "size" cX12_size 1 (some .int)
set_option maxRecDepth 20000 in
theorem kX12_size_0 : ∀ q ∈ tX12_size_0, qX12_size q :=
  allq qX12_size 0 (.inl (a_al 0 1)) (s_aload_n (q := 0) (i := 0) rfl (by decide +kernel)) <|
  allq qX12_size 1 (.inl (a_get 11 3 4)) (gX12 (f0 := 3) (by decide) kw_1188 (by decide +kernel)) <|
  allq qX12_size 4 (.inr (.inr 1)) (Or.inr (Or.inl ⟨rfl, rfl, by decide +kernel⟩)) <|
  alln
theorem kX12_size : ∀ q ∈ tX12_size, qX12_size q := kX12_size_0
abbrev qX12_byteAt : Nat × aI → Prop := OkQ RX12 "byteAt" cX12_byteAt 2 (some .int)
set_option maxRecDepth 20000 in
theorem kX12_byteAt_0 : ∀ q ∈ tX12_byteAt_0, qX12_byteAt q :=
  allq qX12_byteAt 0 (.inl (a_il 1 1)) (s_iload_n (q := 1) (i := 1) rfl (by decide +kernel)) <|
  allq qX12_byteAt 1 (.inl (o_if_lt 12 4)) (s_if_lt (off := 11) (by decide +kernel) (by decide)) <|
  allq qX12_byteAt 4 (.inl (a_il 1 5)) (s_iload_n (q := 1) (i := 1) rfl (by decide +kernel)) <|
  allq qX12_byteAt 5 (.inl (a_al 0 6)) (s_aload_n (q := 0) (i := 0) rfl (by decide +kernel)) <|
  allq qX12_byteAt 6 (.inl (a_get 11 3 9)) (gX12 (f0 := 3) (by decide) kw_1188 (by decide +kernel)) <|
  allq qX12_byteAt 9 (.inl (o_icmp_lt 16 12)) (s_icmp_lt (off := 7) (by decide +kernel) (by decide)) <|
  allq qX12_byteAt 12 (.inl (a_ic (-1) 13)) (s_iconst (n := (-1)) (v := (-1)) rfl (by decide +kernel)) <|
  allq qX12_byteAt 13 (.inl (a_go 22)) (s_goto (off := 9) (by decide +kernel) (by decide)) <|
  allq qX12_byteAt 16 (.inl (a_al 0 17)) (s_aload_n (q := 0) (i := 0) rfl (by decide +kernel)) <|
  allq qX12_byteAt 17 (.inl (a_get 11 2 20)) (gX12 (f0 := 2) (by decide) kw_1187 (by decide +kernel)) <|
  allq qX12_byteAt 20 (.inl (a_il 1 21)) (s_iload_n (q := 1) (i := 1) rfl (by decide +kernel)) <|
  allq qX12_byteAt 21 (.inl (a_iald 22)) (s_iald (by decide +kernel)) <|
  allq qX12_byteAt 22 (.inr (.inr 1)) (Or.inr (Or.inl ⟨rfl, rfl, by decide +kernel⟩)) <|
  alln
theorem kX12_byteAt : ∀ q ∈ tX12_byteAt, qX12_byteAt q := kX12_byteAt_0
abbrev qJ7_fill_53178 : Nat × aI → Prop := OkQ RJ7 "fill" cJ7_fill_53178 4 (none)
set_option maxRecDepth 20000 in
theorem kJ7_fill_53178_0 : ∀ q ∈ tJ7_fill_53178_0, qJ7_fill_53178 q :=
  allq qJ7_fill_53178 0 (.inl (a_ic 0 1)) (s_iconst (n := 0) (v := 0) rfl (by decide +kernel)) <|
  allq qJ7_fill_53178 1 (.inl (a_is 2 2)) (s_istore_n (q := 2) (i := 2) rfl (by decide +kernel) (by decide)) <|
  allq qJ7_fill_53178 2 (.inl (a_al 0 3)) (s_aload_n (q := 0) (i := 0) rfl (by decide +kernel)) <|
  allq qJ7_fill_53178 3 (.inl (a_len 4)) (s_len (by decide +kernel)) <|
  allq qJ7_fill_53178 4 (.inl (a_is 3 5)) (s_istore_n (q := 3) (i := 3) rfl (by decide +kernel) (by decide)) <|
  allq qJ7_fill_53178 5 (.inl (a_il 2 6)) (s_iload_n (q := 2) (i := 2) rfl (by decide +kernel)) <|
  allq qJ7_fill_53178 6 (.inl (a_il 3 7)) (s_iload_n (q := 3) (i := 3) rfl (by decide +kernel)) <|
  allq qJ7_fill_53178 7 (.inl (o_icmp_ge 20 10)) (s_icmp_ge (off := 13) (by decide +kernel) (by decide)) <|
  allq qJ7_fill_53178 10 (.inl (a_al 0 11)) (s_aload_n (q := 0) (i := 0) rfl (by decide +kernel)) <|
  allq qJ7_fill_53178 11 (.inl (a_il 2 12)) (s_iload_n (q := 2) (i := 2) rfl (by decide +kernel)) <|
  allq qJ7_fill_53178 12 (.inl (a_il 1 13)) (s_iload_n (q := 1) (i := 1) rfl (by decide +kernel)) <|
  allq qJ7_fill_53178 13 (.inl (a_iast 14)) (s_iast (by decide +kernel)) <|
  allq qJ7_fill_53178 14 (.inl (a_inc 2 1 17)) (s_iinc (i := 2) (n := 1) (n2 := 1) rfl (by decide +kernel) (by decide)) <|
  allq qJ7_fill_53178 17 (.inl (a_go 5)) (s_goto (off := (-12)) (by decide +kernel) (by decide)) <|
  allq qJ7_fill_53178 20 (.inr (.inr 0)) (Or.inl ⟨rfl, rfl, by decide +kernel⟩) <|
  alln
theorem kJ7_fill_53178 : ∀ q ∈ tJ7_fill_53178, qJ7_fill_53178 q := kJ7_fill_53178_0
