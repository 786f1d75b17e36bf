/-! each entry is one that the machine does (printed by a program) -/
abbrev qX12_restore : Nat × aI → Prop := OkQ RX12 "restore" cX12_restore 2 (none)
set_option maxRecDepth 20000 in
theorem kX12_restore_0 : ∀ q ∈ tX12_restore_0, qX12_restore q :=
  allq qX12_restore 0 (.inl (a_ic 0 1)) (s_iconst (n := 0) (v := 0) rfl (by decide +kernel)) <|
  allq qX12_restore 1 (.inl (a_is 1 2)) (s_istore_n (q := 1) (i := 1) rfl (by decide +kernel) (by decide)) <|
  allq qX12_restore 2 (.inl (a_il 1 3)) (s_iload_n (q := 1) (i := 1) rfl (by decide +kernel)) <|
  allq qX12_restore 3 (.inl (a_ic 256 6)) (s_sipush (n := 256) (v := 256) rfl (by decide +kernel)) <|
  allq qX12_restore 6 (.inl (o_icmp_ge 27 9)) (s_icmp_ge (off := 21) (by decide +kernel) (by decide)) <|
  allq qX12_restore 9 (.inl (a_al 0 10)) (s_aload_n (q := 0) (i := 0) rfl (by decide +kernel)) <|
  allq qX12_restore 10 (.inl (a_get 11 14 13)) (gX12 (f0 := 14) (by decide) kw_1199 (by decide +kernel)) <|
  allq qX12_restore 13 (.inl (a_il 1 14)) (s_iload_n (q := 1) (i := 1) rfl (by decide +kernel)) <|
  allq qX12_restore 14 (.inl (a_al 0 15)) (s_aload_n (q := 0) (i := 0) rfl (by decide +kernel)) <|
  allq qX12_restore 15 (.inl (a_get 11 19 18)) (gX12 (f0 := 19) (by decide) kw_1204 (by decide +kernel)) <|
  allq qX12_restore 18 (.inl (a_il 1 19)) (s_iload_n (q := 1) (i := 1) rfl (by decide +kernel)) <|
  allq qX12_restore 19 (.inl (a_iald 20)) (s_iald (by decide +kernel)) <|
  allq qX12_restore 20 (.inl (a_iast 21)) (s_iast (by decide +kernel)) <|
  allq qX12_restore 21 (.inl (a_inc 1 1 24)) (s_iinc (i := 1) (n := 1) (n2 := 1) rfl (by decide +kernel) (by decide)) <|
  allq qX12_restore 24 (.inl (a_go 2)) (s_goto (off := (-22)) (by decide +kernel) (by decide)) <|
  allq qX12_restore 27 (.inl (a_al 0 28)) (s_aload_n (q := 0) (i := 0) rfl (by decide +kernel)) <|
  allq qX12_restore 28 (.inl (a_al 0 29)) (s_aload_n (q := 0) (i := 0) rfl (by decide +kernel)) <|
  allq qX12_restore 29 (.inl (a_get 11 20 32)) (gX12 (f0 := 20) (by decide) kw_1205 (by decide +kernel)) <|
  allq qX12_restore 32 (.inl (a_put 11 15 .int 35)) (pX12 (f0 := 15) (by decide) rfl rfl tOk kw_1200 (by decide +kernel)) <|
  allq qX12_restore 35 (.inl (a_ic 0 36)) (s_iconst (n := 0) (v := 0) rfl (by decide +kernel)) <|
  allq qX12_restore 36 (.inl (a_is 1 37)) (s_istore_n (q := 1) (i := 1) rfl (by decide +kernel) (by decide)) <|
  allq qX12_restore 37 (.inl (a_il 1 38)) (s_iload_n (q := 1) (i := 1) rfl (by decide +kernel)) <|
  allq qX12_restore 38 (.inl (a_ic 192 41)) (s_sipush (n := 192) (v := 192) rfl (by decide +kernel)) <|
  allq qX12_restore 41 (.inl (o_icmp_ge 62 44)) (s_icmp_ge (off := 21) (by decide +kernel) (by decide)) <|
  allq qX12_restore 44 (.inl (a_al 0 45)) (s_aload_n (q := 0) (i := 0) rfl (by decide +kernel)) <|
  allq qX12_restore 45 (.inl (a_get 11 16 48)) (gX12 (f0 := 16) (by decide) kw_1201 (by decide +kernel)) <|
  allq qX12_restore 48 (.inl (a_il 1 49)) (s_iload_n (q := 1) (i := 1) rfl (by decide +kernel)) <|
  allq qX12_restore 49 (.inl (a_al 0 50)) (s_aload_n (q := 0) (i := 0) rfl (by decide +kernel)) <|
  allq qX12_restore 50 (.inl (a_get 11 21 53)) (gX12 (f0 := 21) (by decide) kw_1206 (by decide +kernel)) <|
  allq qX12_restore 53 (.inl (a_il 1 54)) (s_iload_n (q := 1) (i := 1) rfl (by decide +kernel)) <|
  allq qX12_restore 54 (.inl (a_iald 55)) (s_iald (by decide +kernel)) <|
  allq qX12_restore 55 (.inl (a_iast 56)) (s_iast (by decide +kernel)) <|
  allq qX12_restore 56 (.inl (a_inc 1 1 59)) (s_iinc (i := 1) (n := 1) (n2 := 1) rfl (by decide +kernel) (by decide)) <|
  allq qX12_restore 59 (.inl (a_go 37)) (s_goto (off := (-22)) (by decide +kernel) (by decide)) <|
  allq qX12_restore 62 (.inl (a_ic 0 63)) (s_iconst (n := 0) (v := 0) rfl (by decide +kernel)) <|
  allq qX12_restore 63 (.inl (a_is 1 64)) (s_istore_n (q := 1) (i := 1) rfl (by decide +kernel) (by decide)) <|
  allq qX12_restore 64 (.inl (a_il 1 65)) (s_iload_n (q := 1) (i := 1) rfl (by decide +kernel)) <|
  allq qX12_restore 65 (.inl (a_ic 3 66)) (s_iconst (n := 3) (v := 3) rfl (by decide +kernel)) <|
  allq qX12_restore 66 (.inl (o_icmp_ge 99 69)) (s_icmp_ge (off := 33) (by decide +kernel) (by decide)) <|
  allq qX12_restore 69 (.inl (a_al 0 70)) (s_aload_n (q := 0) (i := 0) rfl (by decide +kernel)) <|
  alln
set_option maxRecDepth 20000 in
theorem kX12_restore_1 : ∀ q ∈ tX12_restore_1, qX12_restore q :=
  allq qX12_restore 70 (.inl (a_get 11 17 73)) (gX12 (f0 := 17) (by decide) kw_1202 (by decide +kernel)) <|
  allq qX12_restore 73 (.inl (a_il 1 74)) (s_iload_n (q := 1) (i := 1) rfl (by decide +kernel)) <|
  allq qX12_restore 74 (.inl (a_al 0 75)) (s_aload_n (q := 0) (i := 0) rfl (by decide +kernel)) <|
  allq qX12_restore 75 (.inl (a_get 11 22 78)) (gX12 (f0 := 22) (by decide) kw_1207 (by decide +kernel)) <|
  allq qX12_restore 78 (.inl (a_il 1 79)) (s_iload_n (q := 1) (i := 1) rfl (by decide +kernel)) <|
  allq qX12_restore 79 (.inl (a_iald 80)) (s_iald (by decide +kernel)) <|
  allq qX12_restore 80 (.inl (a_iast 81)) (s_iast (by decide +kernel)) <|
  allq qX12_restore 81 (.inl (a_al 0 82)) (s_aload_n (q := 0) (i := 0) rfl (by decide +kernel)) <|
  allq qX12_restore 82 (.inl (a_get 11 18 85)) (gX12 (f0 := 18) (by decide) kw_1203 (by decide +kernel)) <|
  allq qX12_restore 85 (.inl (a_il 1 86)) (s_iload_n (q := 1) (i := 1) rfl (by decide +kernel)) <|
  allq qX12_restore 86 (.inl (a_al 0 87)) (s_aload_n (q := 0) (i := 0) rfl (by decide +kernel)) <|
  allq qX12_restore 87 (.inl (a_get 11 23 90)) (gX12 (f0 := 23) (by decide) kw_1208 (by decide +kernel)) <|
  allq qX12_restore 90 (.inl (a_il 1 91)) (s_iload_n (q := 1) (i := 1) rfl (by decide +kernel)) <|
  allq qX12_restore 91 (.inl (a_iald 92)) (s_iald (by decide +kernel)) <|
  allq qX12_restore 92 (.inl (a_iast 93)) (s_iast (by decide +kernel)) <|
  allq qX12_restore 93 (.inl (a_inc 1 1 96)) (s_iinc (i := 1) (n := 1) (n2 := 1) rfl (by decide +kernel) (by decide)) <|
  allq qX12_restore 96 (.inl (a_go 64)) (s_goto (off := (-32)) (by decide +kernel) (by decide)) <|
  allq qX12_restore 99 (.inr (.inr 0)) (Or.inl ⟨rfl, rfl, by decide +kernel⟩) <|
  alln
theorem kX12_restore : ∀ q ∈ tX12_restore, qX12_restore q := alla kX12_restore_0 kX12_restore_1
abbrev qX12_beginFrame : Nat × aI → Prop := OkQ RX12 "beginFrame" cX12_beginFrame 2 (none)
set_option maxRecDepth 20000 in
theorem kX12_beginFrame_0 : ∀ q ∈ tX12_beginFrame_0, qX12_beginFrame q :=
  allq qX12_beginFrame 0 (.inl (a_al 0 1)) (s_aload_n (q := 0) (i := 0) rfl (by decide +kernel)) <|
  allq qX12_beginFrame 1 (.inl (a_ic 0 2)) (s_iconst (n := 0) (v := 0) rfl (by decide +kernel)) <|
  allq qX12_beginFrame 2 (.inl (a_put 11 15 .int 5)) (pX12 (f0 := 15) (by decide) rfl rfl tOk kw_1200 (by decide +kernel)) <|
  allq qX12_beginFrame 5 (.inl (a_ic 0 6)) (s_iconst (n := 0) (v := 0) rfl (by decide +kernel)) <|
  allq qX12_beginFrame 6 (.inl (a_is 1 7)) (s_istore_n (q := 1) (i := 1) rfl (by decide +kernel) (by decide)) <|
  allq qX12_beginFrame 7 (.inl (a_il 1 8)) (s_iload_n (q := 1) (i := 1) rfl (by decide +kernel)) <|
  allq qX12_beginFrame 8 (.inl (a_ic 3 9)) (s_iconst (n := 3) (v := 3) rfl (by decide +kernel)) <|
  allq qX12_beginFrame 9 (.inl (o_icmp_ge 42 12)) (s_icmp_ge (off := 33) (by decide +kernel) (by decide)) <|
  allq qX12_beginFrame 12 (.inl (a_al 0 13)) (s_aload_n (q := 0) (i := 0) rfl (by decide +kernel)) <|
  allq qX12_beginFrame 13 (.inl (a_get 11 17 16)) (gX12 (f0 := 17) (by decide) kw_1202 (by decide +kernel)) <|
  allq qX12_beginFrame 16 (.inl (a_il 1 17)) (s_iload_n (q := 1) (i := 1) rfl (by decide +kernel)) <|
  allq qX12_beginFrame 17 (.inl (a_ic (-1) 18)) (s_iconst (n := (-1)) (v := (-1)) rfl (by decide +kernel)) <|
  allq qX12_beginFrame 18 (.inl (a_iast 19)) (s_iast (by decide +kernel)) <|
  allq qX12_beginFrame 19 (.inl (a_al 0 20)) (s_aload_n (q := 0) (i := 0) rfl (by decide +kernel)) <|
  allq qX12_beginFrame 20 (.inl (a_get 11 18 23)) (gX12 (f0 := 18) (by decide) kw_1203 (by decide +kernel)) <|
  allq qX12_beginFrame 23 (.inl (a_il 1 24)) (s_iload_n (q := 1) (i := 1) rfl (by decide +kernel)) <|
  allq qX12_beginFrame 24 (.inl (a_il 1 25)) (s_iload_n (q := 1) (i := 1) rfl (by decide +kernel)) <|
  allq qX12_beginFrame 25 (.inl (o_if_ne 32 28)) (s_if_ne (off := 7) (by decide +kernel) (by decide)) <|
  allq qX12_beginFrame 28 (.inl (a_ic 1 29)) (s_iconst (n := 1) (v := 1) rfl (by decide +kernel)) <|
  allq qX12_beginFrame 29 (.inl (a_go 35)) (s_goto (off := 6) (by decide +kernel) (by decide)) <|
  allq qX12_beginFrame 32 (.inl (a_ic 4 33)) (s_iconst (n := 4) (v := 4) rfl (by decide +kernel)) <|
  allq qX12_beginFrame 33 (.inl (a_il 1 34)) (s_iload_n (q := 1) (i := 1) rfl (by decide +kernel)) <|
  allq qX12_beginFrame 34 (.inl (o_imul 35)) (s_imul (by decide +kernel)) <|
  allq qX12_beginFrame 35 (.inl (a_iast 36)) (s_iast (by decide +kernel)) <|
  allq qX12_beginFrame 36 (.inl (a_inc 1 1 39)) (s_iinc (i := 1) (n := 1) (n2 := 1) rfl (by decide +kernel) (by decide)) <|
  allq qX12_beginFrame 39 (.inl (a_go 7)) (s_goto (off := (-32)) (by decide +kernel) (by decide)) <|
  allq qX12_beginFrame 42 (.inl (a_al 0 43)) (s_aload_n (q := 0) (i := 0) rfl (by decide +kernel)) <|
  allq qX12_beginFrame 43 (.inl (a_get 11 9 46)) (gX12 (f0 := 9) (by decide) kw_1194 (by decide +kernel)) <|
  allq qX12_beginFrame 46 (.inl (o_if_ne 50 49)) (s_if_ne (off := 4) (by decide +kernel) (by decide)) <|
  allq qX12_beginFrame 49 (.inr (.inr 0)) (Or.inl ⟨rfl, rfl, by decide +kernel⟩) <|
  allq qX12_beginFrame 50 (.inl (a_ic 0 51)) (s_iconst (n := 0) (v := 0) rfl (by decide +kernel)) <|
  allq qX12_beginFrame 51 (.inl (a_is 1 52)) (s_istore_n (q := 1) (i := 1) rfl (by decide +kernel) (by decide)) <|
  allq qX12_beginFrame 52 (.inl (a_il 1 53)) (s_iload_n (q := 1) (i := 1) rfl (by decide +kernel)) <|
  allq qX12_beginFrame 53 (.inl (a_ic 256 56)) (s_sipush (n := 256) (v := 256) rfl (by decide +kernel)) <|
  allq qX12_beginFrame 56 (.inl (o_icmp_ge 107 59)) (s_icmp_ge (off := 51) (by decide +kernel) (by decide)) <|
  allq qX12_beginFrame 59 (.inl (a_al 0 60)) (s_aload_n (q := 0) (i := 0) rfl (by decide +kernel)) <|
  allq qX12_beginFrame 60 (.inl (a_get 11 14 63)) (gX12 (f0 := 14) (by decide) kw_1199 (by decide +kernel)) <|
  allq qX12_beginFrame 63 (.inl (a_il 1 64)) (s_iload_n (q := 1) (i := 1) rfl (by decide +kernel)) <|
  allq qX12_beginFrame 64 (.inl (a_al 0 65)) (s_aload_n (q := 0) (i := 0) rfl (by decide +kernel)) <|
  allq qX12_beginFrame 65 (.inl (a_get 11 10 68)) (gX12 (f0 := 10) (by decide) kw_1195 (by decide +kernel)) <|
  alln
set_option maxRecDepth 20000 in
theorem kX12_beginFrame_1 : ∀ q ∈ tX12_beginFrame_1, qX12_beginFrame q :=
  allq qX12_beginFrame 68 (.inl (a_il 1 69)) (s_iload_n (q := 1) (i := 1) rfl (by decide +kernel)) <|
  allq qX12_beginFrame 69 (.inl (a_iald 70)) (s_iald (by decide +kernel)) <|
  allq qX12_beginFrame 70 (.inl (a_iast 71)) (s_iast (by decide +kernel)) <|
  allq qX12_beginFrame 71 (.inl (a_al 0 72)) (s_aload_n (q := 0) (i := 0) rfl (by decide +kernel)) <|
  allq qX12_beginFrame 72 (.inl (a_al 0 73)) (s_aload_n (q := 0) (i := 0) rfl (by decide +kernel)) <|
  allq qX12_beginFrame 73 (.inl (a_get 11 14 76)) (gX12 (f0 := 14) (by decide) kw_1199 (by decide +kernel)) <|
  allq qX12_beginFrame 76 (.inl (a_il 1 77)) (s_iload_n (q := 1) (i := 1) rfl (by decide +kernel)) <|
  allq qX12_beginFrame 77 (.inl (a_iald 78)) (s_iald (by decide +kernel)) <|
  allq qX12_beginFrame 78 (.inl (a_al 0 79)) (s_aload_n (q := 0) (i := 0) rfl (by decide +kernel)) <|
  allq qX12_beginFrame 79 (.inl (a_get 11 15 82)) (gX12 (f0 := 15) (by decide) kw_1200 (by decide +kernel)) <|
  allq qX12_beginFrame 82 (.inl (o_icmp_le 94 85)) (s_icmp_le (off := 12) (by decide +kernel) (by decide)) <|
  allq qX12_beginFrame 85 (.inl (a_al 0 86)) (s_aload_n (q := 0) (i := 0) rfl (by decide +kernel)) <|
  allq qX12_beginFrame 86 (.inl (a_get 11 14 89)) (gX12 (f0 := 14) (by decide) kw_1199 (by decide +kernel)) <|
  allq qX12_beginFrame 89 (.inl (a_il 1 90)) (s_iload_n (q := 1) (i := 1) rfl (by decide +kernel)) <|
  allq qX12_beginFrame 90 (.inl (a_iald 91)) (s_iald (by decide +kernel)) <|
  allq qX12_beginFrame 91 (.inl (a_go 98)) (s_goto (off := 7) (by decide +kernel) (by decide)) <|
  allq qX12_beginFrame 94 (.inl (a_al 0 95)) (s_aload_n (q := 0) (i := 0) rfl (by decide +kernel)) <|
  allq qX12_beginFrame 95 (.inl (a_get 11 15 98)) (gX12 (f0 := 15) (by decide) kw_1200 (by decide +kernel)) <|
  allq qX12_beginFrame 98 (.inl (a_put 11 15 .int 101)) (pX12 (f0 := 15) (by decide) rfl rfl tOk kw_1200 (by decide +kernel)) <|
  allq qX12_beginFrame 101 (.inl (a_inc 1 1 104)) (s_iinc (i := 1) (n := 1) (n2 := 1) rfl (by decide +kernel) (by decide)) <|
  allq qX12_beginFrame 104 (.inl (a_go 52)) (s_goto (off := (-52)) (by decide +kernel) (by decide)) <|
  allq qX12_beginFrame 107 (.inl (a_ic 0 108)) (s_iconst (n := 0) (v := 0) rfl (by decide +kernel)) <|
  allq qX12_beginFrame 108 (.inl (a_is 1 109)) (s_istore_n (q := 1) (i := 1) rfl (by decide +kernel) (by decide)) <|
  allq qX12_beginFrame 109 (.inl (a_il 1 110)) (s_iload_n (q := 1) (i := 1) rfl (by decide +kernel)) <|
  allq qX12_beginFrame 110 (.inl (a_ic 192 113)) (s_sipush (n := 192) (v := 192) rfl (by decide +kernel)) <|
  allq qX12_beginFrame 113 (.inl (o_icmp_ge 134 116)) (s_icmp_ge (off := 21) (by decide +kernel) (by decide)) <|
  allq qX12_beginFrame 116 (.inl (a_al 0 117)) (s_aload_n (q := 0) (i := 0) rfl (by decide +kernel)) <|
  allq qX12_beginFrame 117 (.inl (a_get 11 16 120)) (gX12 (f0 := 16) (by decide) kw_1201 (by decide +kernel)) <|
  allq qX12_beginFrame 120 (.inl (a_il 1 121)) (s_iload_n (q := 1) (i := 1) rfl (by decide +kernel)) <|
  allq qX12_beginFrame 121 (.inl (a_al 0 122)) (s_aload_n (q := 0) (i := 0) rfl (by decide +kernel)) <|
  allq qX12_beginFrame 122 (.inl (a_get 11 11 125)) (gX12 (f0 := 11) (by decide) kw_1196 (by decide +kernel)) <|
  allq qX12_beginFrame 125 (.inl (a_il 1 126)) (s_iload_n (q := 1) (i := 1) rfl (by decide +kernel)) <|
  allq qX12_beginFrame 126 (.inl (a_iald 127)) (s_iald (by decide +kernel)) <|
  allq qX12_beginFrame 127 (.inl (a_iast 128)) (s_iast (by decide +kernel)) <|
  allq qX12_beginFrame 128 (.inl (a_inc 1 1 131)) (s_iinc (i := 1) (n := 1) (n2 := 1) rfl (by decide +kernel) (by decide)) <|
  allq qX12_beginFrame 131 (.inl (a_go 109)) (s_goto (off := (-22)) (by decide +kernel) (by decide)) <|
  allq qX12_beginFrame 134 (.inl (a_ic 0 135)) (s_iconst (n := 0) (v := 0) rfl (by decide +kernel)) <|
  allq qX12_beginFrame 135 (.inl (a_is 1 136)) (s_istore_n (q := 1) (i := 1) rfl (by decide +kernel) (by decide)) <|
  allq qX12_beginFrame 136 (.inl (a_il 1 137)) (s_iload_n (q := 1) (i := 1) rfl (by decide +kernel)) <|
  allq qX12_beginFrame 137 (.inl (a_ic 3 138)) (s_iconst (n := 3) (v := 3) rfl (by decide +kernel)) <|
  alln
set_option maxRecDepth 20000 in
theorem kX12_beginFrame_2 : ∀ q ∈ tX12_beginFrame_2, qX12_beginFrame q :=
  allq qX12_beginFrame 138 (.inl (o_icmp_ge 171 141)) (s_icmp_ge (off := 33) (by decide +kernel) (by decide)) <|
  allq qX12_beginFrame 141 (.inl (a_al 0 142)) (s_aload_n (q := 0) (i := 0) rfl (by decide +kernel)) <|
  allq qX12_beginFrame 142 (.inl (a_get 11 17 145)) (gX12 (f0 := 17) (by decide) kw_1202 (by decide +kernel)) <|
  allq qX12_beginFrame 145 (.inl (a_il 1 146)) (s_iload_n (q := 1) (i := 1) rfl (by decide +kernel)) <|
  allq qX12_beginFrame 146 (.inl (a_al 0 147)) (s_aload_n (q := 0) (i := 0) rfl (by decide +kernel)) <|
  allq qX12_beginFrame 147 (.inl (a_get 11 12 150)) (gX12 (f0 := 12) (by decide) kw_1197 (by decide +kernel)) <|
  allq qX12_beginFrame 150 (.inl (a_il 1 151)) (s_iload_n (q := 1) (i := 1) rfl (by decide +kernel)) <|
  allq qX12_beginFrame 151 (.inl (a_iald 152)) (s_iald (by decide +kernel)) <|
  allq qX12_beginFrame 152 (.inl (a_iast 153)) (s_iast (by decide +kernel)) <|
  allq qX12_beginFrame 153 (.inl (a_al 0 154)) (s_aload_n (q := 0) (i := 0) rfl (by decide +kernel)) <|
  allq qX12_beginFrame 154 (.inl (a_get 11 18 157)) (gX12 (f0 := 18) (by decide) kw_1203 (by decide +kernel)) <|
  allq qX12_beginFrame 157 (.inl (a_il 1 158)) (s_iload_n (q := 1) (i := 1) rfl (by decide +kernel)) <|
  allq qX12_beginFrame 158 (.inl (a_al 0 159)) (s_aload_n (q := 0) (i := 0) rfl (by decide +kernel)) <|
  allq qX12_beginFrame 159 (.inl (a_get 11 13 162)) (gX12 (f0 := 13) (by decide) kw_1198 (by decide +kernel)) <|
  allq qX12_beginFrame 162 (.inl (a_il 1 163)) (s_iload_n (q := 1) (i := 1) rfl (by decide +kernel)) <|
  allq qX12_beginFrame 163 (.inl (a_iald 164)) (s_iald (by decide +kernel)) <|
  allq qX12_beginFrame 164 (.inl (a_iast 165)) (s_iast (by decide +kernel)) <|
  allq qX12_beginFrame 165 (.inl (a_inc 1 1 168)) (s_iinc (i := 1) (n := 1) (n2 := 1) rfl (by decide +kernel) (by decide)) <|
  allq qX12_beginFrame 168 (.inl (a_go 136)) (s_goto (off := (-32)) (by decide +kernel) (by decide)) <|
  allq qX12_beginFrame 171 (.inr (.inr 0)) (Or.inl ⟨rfl, rfl, by decide +kernel⟩) <|
  alln
theorem kX12_beginFrame : ∀ q ∈ tX12_beginFrame, qX12_beginFrame q := alla kX12_beginFrame_0 (alla kX12_beginFrame_1 kX12_beginFrame_2)
abbrev qX12_sayBlockHead : Nat × aI → Prop := OkQ RX12 "sayBlockHead" cX12_sayBlockHead 6 (none)
set_option maxRecDepth 20000 in
theorem kX12_sayBlockHead_0 : ∀ q ∈ tX12_sayBlockHead_0, qX12_sayBlockHead q :=
  allq qX12_sayBlockHead 0 (.inl (a_al 0 1)) (s_aload_n (q := 0) (i := 0) rfl (by decide +kernel)) <|
  allq qX12_sayBlockHead 1 (.inl (a_get 11 40 4)) (gX12 (f0 := 40) (by decide) kw_1225 (by decide +kernel)) <|
  allq qX12_sayBlockHead 4 (.inl (a_is 5 6)) (s_istore (i := 5) (by decide +kernel) (by decide)) <|
  allq qX12_sayBlockHead 6 (.inl (a_al 0 7)) (s_aload_n (q := 0) (i := 0) rfl (by decide +kernel)) <|
  allq qX12_sayBlockHead 7 (.inl (a_il 1 8)) (s_iload_n (q := 1) (i := 1) rfl (by decide +kernel)) <|
  allq qX12_sayBlockHead 8 (.inl (a_put 11 40 .int 11)) (pX12 (f0 := 40) (by decide) rfl rfl tOk kw_1225 (by decide +kernel)) <|
  allq qX12_sayBlockHead 11 (.inl (a_al 0 12)) (s_aload_n (q := 0) (i := 0) rfl (by decide +kernel)) <|
  allq qX12_sayBlockHead 12 (.inl (a_ic 8 14)) (s_bipush (n := 8) (v := 8) rfl (by decide +kernel)) <|
  allq qX12_sayBlockHead 14 (.inl (a_il 2 15)) (s_iload_n (q := 2) (i := 2) rfl (by decide +kernel)) <|
  allq qX12_sayBlockHead 15 (.inl (o_imul 16)) (s_imul (by decide +kernel)) <|
  allq qX12_sayBlockHead 16 (.inl (a_ic 2 17)) (s_iconst (n := 2) (v := 2) rfl (by decide +kernel)) <|
  allq qX12_sayBlockHead 17 (.inl (a_il 3 18)) (s_iload_n (q := 3) (i := 3) rfl (by decide +kernel)) <|
  allq qX12_sayBlockHead 18 (.inl (o_imul 19)) (s_imul (by decide +kernel)) <|
  allq qX12_sayBlockHead 19 (.inl (o_iadd 20)) (s_iadd (by decide +kernel)) <|
  allq qX12_sayBlockHead 20 (.inl (a_il 4 22)) (s_iload (i := 4) (by decide +kernel)) <|
  allq qX12_sayBlockHead 22 (.inl (o_if_eq 29 25)) (s_if_eq (off := 7) (by decide +kernel) (by decide)) <|
  allq qX12_sayBlockHead 25 (.inl (a_ic 1 26)) (s_iconst (n := 1) (v := 1) rfl (by decide +kernel)) <|
  allq qX12_sayBlockHead 26 (.inl (a_go 30)) (s_goto (off := 4) (by decide +kernel) (by decide)) <|
  allq qX12_sayBlockHead 29 (.inl (a_ic 0 30)) (s_iconst (n := 0) (v := 0) rfl (by decide +kernel)) <|
  allq qX12_sayBlockHead 30 (.inl (o_iadd 31)) (s_iadd (by decide +kernel)) <|
  allq qX12_sayBlockHead 31 (.inl (a_i2l 32)) (s_i2l (by decide +kernel)) <|
  allq qX12_sayBlockHead 32 (.inl (a_ic 3 33)) (s_iconst (n := 3) (v := 3) rfl (by decide +kernel)) <|
  allq qX12_sayBlockHead 33 (.inr (.inl (151, 3, 12))) (okV (y := yX12_sayNumber) kw_1412 kw_118 rfl rfl (by decide +kernel) kw_1411 kw_41 kw_1409) <|
  allq qX12_sayBlockHead 36 (.inl (a_al 0 37)) (s_aload_n (q := 0) (i := 0) rfl (by decide +kernel)) <|
  allq qX12_sayBlockHead 37 (.inl (a_il 5 39)) (s_iload (i := 5) (by decide +kernel)) <|
  allq qX12_sayBlockHead 39 (.inl (a_al 0 40)) (s_aload_n (q := 0) (i := 0) rfl (by decide +kernel)) <|
  allq qX12_sayBlockHead 40 (.inl (a_get 11 40 43)) (gX12 (f0 := 40) (by decide) kw_1225 (by decide +kernel)) <|
  allq qX12_sayBlockHead 43 (.inl (o_icmp_le 51 46)) (s_icmp_le (off := 8) (by decide +kernel) (by decide)) <|
  allq qX12_sayBlockHead 46 (.inl (a_il 5 48)) (s_iload (i := 5) (by decide +kernel)) <|
  allq qX12_sayBlockHead 48 (.inl (a_go 55)) (s_goto (off := 7) (by decide +kernel) (by decide)) <|
  allq qX12_sayBlockHead 51 (.inl (a_al 0 52)) (s_aload_n (q := 0) (i := 0) rfl (by decide +kernel)) <|
  allq qX12_sayBlockHead 52 (.inl (a_get 11 40 55)) (gX12 (f0 := 40) (by decide) kw_1225 (by decide +kernel)) <|
  allq qX12_sayBlockHead 55 (.inl (a_put 11 40 .int 58)) (pX12 (f0 := 40) (by decide) rfl rfl tOk kw_1225 (by decide +kernel)) <|
  allq qX12_sayBlockHead 58 (.inr (.inr 0)) (Or.inl ⟨rfl, rfl, by decide +kernel⟩) <|
  alln
theorem kX12_sayBlockHead : ∀ q ∈ tX12_sayBlockHead, qX12_sayBlockHead q := kX12_sayBlockHead_0
abbrev qX12_sayBlock : Nat × aI → Prop := OkQ RX12 "sayBlock" cX12_sayBlock 10 (none)
set_option maxRecDepth 20000 in
theorem kX12_sayBlock_0 : ∀ q ∈ tX12_sayBlock_0, qX12_sayBlock q :=
  allq qX12_sayBlock 0 (.inl (a_al 0 1)) (s_aload_n (q := 0) (i := 0) rfl (by decide +kernel)) <|
  allq qX12_sayBlock 1 (.inl (a_get 11 40 4)) (gX12 (f0 := 40) (by decide) kw_1225 (by decide +kernel)) <|
  allq qX12_sayBlock 4 (.inl (a_is 4 6)) (s_istore (i := 4) (by decide +kernel) (by decide)) <|
  allq qX12_sayBlock 6 (.inl (a_il 2 7)) (s_iload_n (q := 2) (i := 2) rfl (by decide +kernel)) <|
  allq qX12_sayBlock 7 (.inl (a_il 1 8)) (s_iload_n (q := 1) (i := 1) rfl (by decide +kernel)) <|
  allq qX12_sayBlock 8 (.inl (o_isub 9)) (s_isub (by decide +kernel)) <|
  allq qX12_sayBlock 9 (.inl (a_is 5 11)) (s_istore (i := 5) (by decide +kernel) (by decide)) <|
  allq qX12_sayBlock 11 (.inl (a_il 5 13)) (s_iload (i := 5) (by decide +kernel)) <|
  allq qX12_sayBlock 13 (.inl (o_if_le 20 16)) (s_if_le (off := 7) (by decide +kernel) (by decide)) <|
  allq qX12_sayBlock 16 (.inl (a_ic 1 17)) (s_iconst (n := 1) (v := 1) rfl (by decide +kernel)) <|
  allq qX12_sayBlock 17 (.inl (a_go 21)) (s_goto (off := 4) (by decide +kernel) (by decide)) <|
  allq qX12_sayBlock 20 (.inl (a_ic 0 21)) (s_iconst (n := 0) (v := 0) rfl (by decide +kernel)) <|
  allq qX12_sayBlock 21 (.inl (a_is 6 23)) (s_istore (i := 6) (by decide +kernel) (by decide)) <|
  allq qX12_sayBlock 23 (.inl (a_il 1 24)) (s_iload_n (q := 1) (i := 1) rfl (by decide +kernel)) <|
  allq qX12_sayBlock 24 (.inl (a_is 7 26)) (s_istore (i := 7) (by decide +kernel) (by decide)) <|
  allq qX12_sayBlock 26 (.inl (a_il 7 28)) (s_iload (i := 7) (by decide +kernel)) <|
  allq qX12_sayBlock 28 (.inl (a_il 2 29)) (s_iload_n (q := 2) (i := 2) rfl (by decide +kernel)) <|
  allq qX12_sayBlock 29 (.inl (o_icmp_ge 66 32)) (s_icmp_ge (off := 37) (by decide +kernel) (by decide)) <|
  allq qX12_sayBlock 32 (.inl (a_il 6 34)) (s_iload (i := 6) (by decide +kernel)) <|
  allq qX12_sayBlock 34 (.inl (o_if_eq 57 37)) (s_if_eq (off := 23) (by decide +kernel) (by decide)) <|
  allq qX12_sayBlock 37 (.inl (a_al 0 38)) (s_aload_n (q := 0) (i := 0) rfl (by decide +kernel)) <|
  allq qX12_sayBlock 38 (.inl (a_get 11 0 41)) (gX12 (f0 := 0) (by decide) kw_1185 (by decide +kernel)) <|
  allq qX12_sayBlock 41 (.inl (a_il 7 43)) (s_iload (i := 7) (by decide +kernel)) <|
  allq qX12_sayBlock 43 (.inl (a_iald 44)) (s_iald (by decide +kernel)) <|
  allq qX12_sayBlock 44 (.inl (a_al 0 45)) (s_aload_n (q := 0) (i := 0) rfl (by decide +kernel)) <|
  allq qX12_sayBlock 45 (.inl (a_get 11 0 48)) (gX12 (f0 := 0) (by decide) kw_1185 (by decide +kernel)) <|
  allq qX12_sayBlock 48 (.inl (a_il 1 49)) (s_iload_n (q := 1) (i := 1) rfl (by decide +kernel)) <|
  allq qX12_sayBlock 49 (.inl (a_iald 50)) (s_iald (by decide +kernel)) <|
  allq qX12_sayBlock 50 (.inl (o_icmp_ne 57 53)) (s_icmp_ne (off := 7) (by decide +kernel) (by decide)) <|
  allq qX12_sayBlock 53 (.inl (a_ic 1 54)) (s_iconst (n := 1) (v := 1) rfl (by decide +kernel)) <|
  allq qX12_sayBlock 54 (.inl (a_go 58)) (s_goto (off := 4) (by decide +kernel) (by decide)) <|
  allq qX12_sayBlock 57 (.inl (a_ic 0 58)) (s_iconst (n := 0) (v := 0) rfl (by decide +kernel)) <|
  allq qX12_sayBlock 58 (.inl (a_is 6 60)) (s_istore (i := 6) (by decide +kernel) (by decide)) <|
  allq qX12_sayBlock 60 (.inl (a_inc 7 1 63)) (s_iinc (i := 7) (n := 1) (n2 := 1) rfl (by decide +kernel) (by decide)) <|
  allq qX12_sayBlock 63 (.inl (a_go 26)) (s_goto (off := (-37)) (by decide +kernel) (by decide)) <|
  allq qX12_sayBlock 66 (.inl (a_il 6 68)) (s_iload (i := 6) (by decide +kernel)) <|
  allq qX12_sayBlock 68 (.inl (o_if_eq 102 71)) (s_if_eq (off := 34) (by decide +kernel) (by decide)) <|
  allq qX12_sayBlock 71 (.inl (a_al 0 72)) (s_aload_n (q := 0) (i := 0) rfl (by decide +kernel)) <|
  allq qX12_sayBlock 72 (.inl (a_il 4 74)) (s_iload (i := 4) (by decide +kernel)) <|
  allq qX12_sayBlock 74 (.inl (a_il 5 76)) (s_iload (i := 5) (by decide +kernel)) <|
  alln
set_option maxRecDepth 20000 in
theorem kX12_sayBlock_1 : ∀ q ∈ tX12_sayBlock_1, qX12_sayBlock q :=
  allq qX12_sayBlock 76 (.inl (a_ic 1 77)) (s_iconst (n := 1) (v := 1) rfl (by decide +kernel)) <|
  allq qX12_sayBlock 77 (.inl (a_il 3 78)) (s_iload_n (q := 3) (i := 3) rfl (by decide +kernel)) <|
  allq qX12_sayBlock 78 (.inr (.inl (206, 5, 12))) (okV (y := yX12_sayBlockHead) kw_1428 kw_118 rfl rfl (by decide +kernel) kw_1427 kw_45 kw_1425) <|
  allq qX12_sayBlock 81 (.inl (a_al 0 82)) (s_aload_n (q := 0) (i := 0) rfl (by decide +kernel)) <|
  allq qX12_sayBlock 82 (.inl (a_al 0 83)) (s_aload_n (q := 0) (i := 0) rfl (by decide +kernel)) <|
  allq qX12_sayBlock 83 (.inl (a_get 11 0 86)) (gX12 (f0 := 0) (by decide) kw_1185 (by decide +kernel)) <|
  allq qX12_sayBlock 86 (.inl (a_il 1 87)) (s_iload_n (q := 1) (i := 1) rfl (by decide +kernel)) <|
  allq qX12_sayBlock 87 (.inl (a_iald 88)) (s_iald (by decide +kernel)) <|
  allq qX12_sayBlock 88 (.inr (.inl (150, 2, 12))) (okV (y := yX12_say) kw_1416 kw_118 rfl rfl (by decide +kernel) kw_1415 kw_42 kw_1413) <|
  allq qX12_sayBlock 91 (.inl (a_al 0 92)) (s_aload_n (q := 0) (i := 0) rfl (by decide +kernel)) <|
  allq qX12_sayBlock 92 (.inl (a_get 11 62 95)) (gX12 (f0 := 62) (by decide) kw_1247 (by decide +kernel)) <|
  allq qX12_sayBlock 95 (.inl (a_ic 1 96)) (s_iconst (n := 1) (v := 1) rfl (by decide +kernel)) <|
  allq qX12_sayBlock 96 (.inl (a_dup2 97)) (s_dup2 (by decide +kernel)) <|
  allq qX12_sayBlock 97 (.inl (a_iald 98)) (s_iald (by decide +kernel)) <|
  allq qX12_sayBlock 98 (.inl (a_ic 1 99)) (s_iconst (n := 1) (v := 1) rfl (by decide +kernel)) <|
  allq qX12_sayBlock 99 (.inl (o_iadd 100)) (s_iadd (by decide +kernel)) <|
  allq qX12_sayBlock 100 (.inl (a_iast 101)) (s_iast (by decide +kernel)) <|
  allq qX12_sayBlock 101 (.inr (.inr 0)) (Or.inl ⟨rfl, rfl, by decide +kernel⟩) <|
  allq qX12_sayBlock 102 (.inl (a_al 0 103)) (s_aload_n (q := 0) (i := 0) rfl (by decide +kernel)) <|
  allq qX12_sayBlock 103 (.inr (.inl (203, 1, 12))) (okV (y := yX12_keep) kw_1432 kw_118 rfl rfl (by decide +kernel) kw_1431 kw_46 kw_1429) <|
  allq qX12_sayBlock 106 (.inl (a_al 0 107)) (s_aload_n (q := 0) (i := 0) rfl (by decide +kernel)) <|
  allq qX12_sayBlock 107 (.inl (a_lc 0 108)) (s_lconst (n := 0) rfl (by decide +kernel)) <|
  allq qX12_sayBlock 108 (.inl (a_ic 3 109)) (s_iconst (n := 3) (v := 3) rfl (by decide +kernel)) <|
  allq qX12_sayBlock 109 (.inr (.inl (151, 3, 12))) (okV (y := yX12_sayNumber) kw_1412 kw_118 rfl rfl (by decide +kernel) kw_1411 kw_41 kw_1409) <|
  allq qX12_sayBlock 112 (.inl (a_al 0 113)) (s_aload_n (q := 0) (i := 0) rfl (by decide +kernel)) <|
  allq qX12_sayBlock 113 (.inl (a_ic 0 114)) (s_iconst (n := 0) (v := 0) rfl (by decide +kernel)) <|
  allq qX12_sayBlock 114 (.inl (a_put 11 25 .int 117)) (pX12 (f0 := 25) (by decide) rfl rfl tOk kw_1210 (by decide +kernel)) <|
  allq qX12_sayBlock 117 (.inl (a_ic 0 118)) (s_iconst (n := 0) (v := 0) rfl (by decide +kernel)) <|
  allq qX12_sayBlock 118 (.inl (a_is 7 120)) (s_istore (i := 7) (by decide +kernel) (by decide)) <|
  allq qX12_sayBlock 120 (.inl (a_il 7 122)) (s_iload (i := 7) (by decide +kernel)) <|
  allq qX12_sayBlock 122 (.inl (a_al 0 123)) (s_aload_n (q := 0) (i := 0) rfl (by decide +kernel)) <|
  allq qX12_sayBlock 123 (.inl (a_get 11 7 126)) (gX12 (f0 := 7) (by decide) kw_1192 (by decide +kernel)) <|
  allq qX12_sayBlock 126 (.inl (o_icmp_ge 161 129)) (s_icmp_ge (off := 35) (by decide +kernel) (by decide)) <|
  allq qX12_sayBlock 129 (.inl (a_al 0 130)) (s_aload_n (q := 0) (i := 0) rfl (by decide +kernel)) <|
  allq qX12_sayBlock 130 (.inl (a_get 11 24 133)) (gX12 (f0 := 24) (by decide) kw_1209 (by decide +kernel)) <|
  allq qX12_sayBlock 133 (.inl (a_al 0 134)) (s_aload_n (q := 0) (i := 0) rfl (by decide +kernel)) <|
  allq qX12_sayBlock 134 (.inl (a_get 11 25 137)) (gX12 (f0 := 25) (by decide) kw_1210 (by decide +kernel)) <|
  allq qX12_sayBlock 137 (.inl (a_al 0 138)) (s_aload_n (q := 0) (i := 0) rfl (by decide +kernel)) <|
  allq qX12_sayBlock 138 (.inl (a_get 11 6 141)) (gX12 (f0 := 6) (by decide) kw_1191 (by decide +kernel)) <|
  allq qX12_sayBlock 141 (.inl (a_il 7 143)) (s_iload (i := 7) (by decide +kernel)) <|
  alln
set_option maxRecDepth 20000 in
theorem kX12_sayBlock_2 : ∀ q ∈ tX12_sayBlock_2, qX12_sayBlock q :=
  allq qX12_sayBlock 143 (.inl (a_iald 144)) (s_iald (by decide +kernel)) <|
  allq qX12_sayBlock 144 (.inl (a_iast 145)) (s_iast (by decide +kernel)) <|
  allq qX12_sayBlock 145 (.inl (a_al 0 146)) (s_aload_n (q := 0) (i := 0) rfl (by decide +kernel)) <|
  allq qX12_sayBlock 146 (.inl (a_dup 147)) (s_dup (by decide +kernel)) <|
  allq qX12_sayBlock 147 (.inl (a_get 11 25 150)) (gX12 (f0 := 25) (by decide) kw_1210 (by decide +kernel)) <|
  allq qX12_sayBlock 150 (.inl (a_ic 1 151)) (s_iconst (n := 1) (v := 1) rfl (by decide +kernel)) <|
  allq qX12_sayBlock 151 (.inl (o_iadd 152)) (s_iadd (by decide +kernel)) <|
  allq qX12_sayBlock 152 (.inl (a_put 11 25 .int 155)) (pX12 (f0 := 25) (by decide) rfl rfl tOk kw_1210 (by decide +kernel)) <|
  allq qX12_sayBlock 155 (.inl (a_inc 7 1 158)) (s_iinc (i := 7) (n := 1) (n2 := 1) rfl (by decide +kernel) (by decide)) <|
  allq qX12_sayBlock 158 (.inl (a_go 120)) (s_goto (off := (-38)) (by decide +kernel) (by decide)) <|
  allq qX12_sayBlock 161 (.inl (a_ic 0 162)) (s_iconst (n := 0) (v := 0) rfl (by decide +kernel)) <|
  allq qX12_sayBlock 162 (.inl (a_is 7 164)) (s_istore (i := 7) (by decide +kernel) (by decide)) <|
  allq qX12_sayBlock 164 (.inl (a_il 7 166)) (s_iload (i := 7) (by decide +kernel)) <|
  allq qX12_sayBlock 166 (.inl (a_il 2 167)) (s_iload_n (q := 2) (i := 2) rfl (by decide +kernel)) <|
  allq qX12_sayBlock 167 (.inl (o_icmp_ge 202 170)) (s_icmp_ge (off := 35) (by decide +kernel) (by decide)) <|
  allq qX12_sayBlock 170 (.inl (a_al 0 171)) (s_aload_n (q := 0) (i := 0) rfl (by decide +kernel)) <|
  allq qX12_sayBlock 171 (.inl (a_get 11 24 174)) (gX12 (f0 := 24) (by decide) kw_1209 (by decide +kernel)) <|
  allq qX12_sayBlock 174 (.inl (a_al 0 175)) (s_aload_n (q := 0) (i := 0) rfl (by decide +kernel)) <|
  allq qX12_sayBlock 175 (.inl (a_get 11 25 178)) (gX12 (f0 := 25) (by decide) kw_1210 (by decide +kernel)) <|
  allq qX12_sayBlock 178 (.inl (a_al 0 179)) (s_aload_n (q := 0) (i := 0) rfl (by decide +kernel)) <|
  allq qX12_sayBlock 179 (.inl (a_get 11 0 182)) (gX12 (f0 := 0) (by decide) kw_1185 (by decide +kernel)) <|
  allq qX12_sayBlock 182 (.inl (a_il 7 184)) (s_iload (i := 7) (by decide +kernel)) <|
  allq qX12_sayBlock 184 (.inl (a_iald 185)) (s_iald (by decide +kernel)) <|
  allq qX12_sayBlock 185 (.inl (a_iast 186)) (s_iast (by decide +kernel)) <|
  allq qX12_sayBlock 186 (.inl (a_al 0 187)) (s_aload_n (q := 0) (i := 0) rfl (by decide +kernel)) <|
  allq qX12_sayBlock 187 (.inl (a_dup 188)) (s_dup (by decide +kernel)) <|
  allq qX12_sayBlock 188 (.inl (a_get 11 25 191)) (gX12 (f0 := 25) (by decide) kw_1210 (by decide +kernel)) <|
  allq qX12_sayBlock 191 (.inl (a_ic 1 192)) (s_iconst (n := 1) (v := 1) rfl (by decide +kernel)) <|
  allq qX12_sayBlock 192 (.inl (o_iadd 193)) (s_iadd (by decide +kernel)) <|
  allq qX12_sayBlock 193 (.inl (a_put 11 25 .int 196)) (pX12 (f0 := 25) (by decide) rfl rfl tOk kw_1210 (by decide +kernel)) <|
  allq qX12_sayBlock 196 (.inl (a_inc 7 1 199)) (s_iinc (i := 7) (n := 1) (n2 := 1) rfl (by decide +kernel) (by decide)) <|
  allq qX12_sayBlock 199 (.inl (a_go 164)) (s_goto (off := (-35)) (by decide +kernel) (by decide)) <|
  allq qX12_sayBlock 202 (.inl (a_ic 8 204)) (s_bipush (n := 8) (v := 8) rfl (by decide +kernel)) <|
  allq qX12_sayBlock 204 (.inl (a_is 7 206)) (s_istore (i := 7) (by decide +kernel) (by decide)) <|
  allq qX12_sayBlock 206 (.inl (a_il 7 208)) (s_iload (i := 7) (by decide +kernel)) <|
  allq qX12_sayBlock 208 (.inl (a_ic 12 210)) (s_bipush (n := 12) (v := 12) rfl (by decide +kernel)) <|
  allq qX12_sayBlock 210 (.inl (o_icmp_ge 233 213)) (s_icmp_ge (off := 23) (by decide +kernel) (by decide)) <|
  allq qX12_sayBlock 213 (.inl (a_al 0 214)) (s_aload_n (q := 0) (i := 0) rfl (by decide +kernel)) <|
  allq qX12_sayBlock 214 (.inl (a_get 11 58 217)) (gX12 (f0 := 58) (by decide) kw_1243 (by decide +kernel)) <|
  allq qX12_sayBlock 217 (.inl (a_il 7 219)) (s_iload (i := 7) (by decide +kernel)) <|
  alln
set_option maxRecDepth 20000 in
theorem kX12_sayBlock_3 : ∀ q ∈ tX12_sayBlock_3, qX12_sayBlock q :=
  allq qX12_sayBlock 219 (.inl (a_al 0 220)) (s_aload_n (q := 0) (i := 0) rfl (by decide +kernel)) <|
  allq qX12_sayBlock 220 (.inl (a_get 11 62 223)) (gX12 (f0 := 62) (by decide) kw_1247 (by decide +kernel)) <|
  allq qX12_sayBlock 223 (.inl (a_il 7 225)) (s_iload (i := 7) (by decide +kernel)) <|
  allq qX12_sayBlock 225 (.inl (a_iald 226)) (s_iald (by decide +kernel)) <|
  allq qX12_sayBlock 226 (.inl (a_iast 227)) (s_iast (by decide +kernel)) <|
  allq qX12_sayBlock 227 (.inl (a_inc 7 1 230)) (s_iinc (i := 7) (n := 1) (n2 := 1) rfl (by decide +kernel) (by decide)) <|
  allq qX12_sayBlock 230 (.inl (a_go 206)) (s_goto (off := (-24)) (by decide +kernel) (by decide)) <|
  allq qX12_sayBlock 233 (.inl (a_al 0 234)) (s_aload_n (q := 0) (i := 0) rfl (by decide +kernel)) <|
  allq qX12_sayBlock 234 (.inl (a_al 0 235)) (s_aload_n (q := 0) (i := 0) rfl (by decide +kernel)) <|
  allq qX12_sayBlock 235 (.inl (a_get 11 7 238)) (gX12 (f0 := 7) (by decide) kw_1192 (by decide +kernel)) <|
  allq qX12_sayBlock 238 (.inl (a_il 1 239)) (s_iload_n (q := 1) (i := 1) rfl (by decide +kernel)) <|
  allq qX12_sayBlock 239 (.inl (o_iadd 240)) (s_iadd (by decide +kernel)) <|
  allq qX12_sayBlock 240 (.inr (.inl (157, 2, 12))) (okV (y := yX12_go) kw_1436 kw_118 rfl rfl (by decide +kernel) kw_1435 kw_47 kw_1433) <|
  allq qX12_sayBlock 243 (.inl (a_al 0 244)) (s_aload_n (q := 0) (i := 0) rfl (by decide +kernel)) <|
  allq qX12_sayBlock 244 (.inr (.inl (192, 1, 12))) (okV (y := yX12_sayLiterals) kw_1453 kw_118 rfl rfl (by decide +kernel) kw_1452 kw_51 kw_1450) <|
  allq qX12_sayBlock 247 (.inl (a_is 7 249)) (s_istore (i := 7) (by decide +kernel) (by decide)) <|
  allq qX12_sayBlock 249 (.inl (a_al 0 250)) (s_aload_n (q := 0) (i := 0) rfl (by decide +kernel)) <|
  allq qX12_sayBlock 250 (.inr (.inl (162, 1, 12))) (okV (y := yX12_tellAll) kw_1570 kw_118 rfl rfl (by decide +kernel) kw_1569 kw_77 kw_1567) <|
  allq qX12_sayBlock 253 (.inl (a_al 0 254)) (s_aload_n (q := 0) (i := 0) rfl (by decide +kernel)) <|
  allq qX12_sayBlock 254 (.inr (.inl (202, 1, 12))) (okV (y := yX12_saySequences) kw_1588 kw_118 rfl rfl (by decide +kernel) kw_1587 kw_80 kw_1585) <|
  allq qX12_sayBlock 257 (.inl (a_al 0 258)) (s_aload_n (q := 0) (i := 0) rfl (by decide +kernel)) <|
  allq qX12_sayBlock 258 (.inl (a_get 11 40 261)) (gX12 (f0 := 40) (by decide) kw_1225 (by decide +kernel)) <|
  allq qX12_sayBlock 261 (.inl (a_il 4 263)) (s_iload (i := 4) (by decide +kernel)) <|
  allq qX12_sayBlock 263 (.inl (o_isub 264)) (s_isub (by decide +kernel)) <|
  allq qX12_sayBlock 264 (.inl (a_ic 3 265)) (s_iconst (n := 3) (v := 3) rfl (by decide +kernel)) <|
  allq qX12_sayBlock 265 (.inl (o_isub 266)) (s_isub (by decide +kernel)) <|
  allq qX12_sayBlock 266 (.inl (a_is 8 268)) (s_istore (i := 8) (by decide +kernel) (by decide)) <|
  allq qX12_sayBlock 268 (.inl (a_il 8 270)) (s_iload (i := 8) (by decide +kernel)) <|
  allq qX12_sayBlock 270 (.inl (a_il 5 272)) (s_iload (i := 5) (by decide +kernel)) <|
  allq qX12_sayBlock 272 (.inl (o_icmp_ge 322 275)) (s_icmp_ge (off := 50) (by decide +kernel) (by decide)) <|
  allq qX12_sayBlock 275 (.inl (a_al 0 276)) (s_aload_n (q := 0) (i := 0) rfl (by decide +kernel)) <|
  allq qX12_sayBlock 276 (.inl (a_il 4 278)) (s_iload (i := 4) (by decide +kernel)) <|
  allq qX12_sayBlock 278 (.inl (a_il 8 280)) (s_iload (i := 8) (by decide +kernel)) <|
  allq qX12_sayBlock 280 (.inl (a_ic 2 281)) (s_iconst (n := 2) (v := 2) rfl (by decide +kernel)) <|
  allq qX12_sayBlock 281 (.inl (a_il 3 282)) (s_iload_n (q := 3) (i := 3) rfl (by decide +kernel)) <|
  allq qX12_sayBlock 282 (.inr (.inl (206, 5, 12))) (okV (y := yX12_sayBlockHead) kw_1428 kw_118 rfl rfl (by decide +kernel) kw_1427 kw_45 kw_1425) <|
  allq qX12_sayBlock 285 (.inl (a_al 0 286)) (s_aload_n (q := 0) (i := 0) rfl (by decide +kernel)) <|
  allq qX12_sayBlock 286 (.inl (a_get 11 62 289)) (gX12 (f0 := 62) (by decide) kw_1247 (by decide +kernel)) <|
  allq qX12_sayBlock 289 (.inl (a_ic 2 290)) (s_iconst (n := 2) (v := 2) rfl (by decide +kernel)) <|
  allq qX12_sayBlock 290 (.inl (a_dup2 291)) (s_dup2 (by decide +kernel)) <|
  alln
set_option maxRecDepth 20000 in
theorem kX12_sayBlock_4 : ∀ q ∈ tX12_sayBlock_4, qX12_sayBlock q :=
  allq qX12_sayBlock 291 (.inl (a_iald 292)) (s_iald (by decide +kernel)) <|
  allq qX12_sayBlock 292 (.inl (a_ic 1 293)) (s_iconst (n := 1) (v := 1) rfl (by decide +kernel)) <|
  allq qX12_sayBlock 293 (.inl (o_iadd 294)) (s_iadd (by decide +kernel)) <|
  allq qX12_sayBlock 294 (.inl (a_iast 295)) (s_iast (by decide +kernel)) <|
  allq qX12_sayBlock 295 (.inl (a_al 0 296)) (s_aload_n (q := 0) (i := 0) rfl (by decide +kernel)) <|
  allq qX12_sayBlock 296 (.inl (a_get 11 62 299)) (gX12 (f0 := 62) (by decide) kw_1247 (by decide +kernel)) <|
  allq qX12_sayBlock 299 (.inl (a_ic 3 300)) (s_iconst (n := 3) (v := 3) rfl (by decide +kernel)) <|
  allq qX12_sayBlock 300 (.inl (a_dup2 301)) (s_dup2 (by decide +kernel)) <|
  allq qX12_sayBlock 301 (.inl (a_iald 302)) (s_iald (by decide +kernel)) <|
  allq qX12_sayBlock 302 (.inl (a_al 0 303)) (s_aload_n (q := 0) (i := 0) rfl (by decide +kernel)) <|
  allq qX12_sayBlock 303 (.inl (a_get 11 31 306)) (gX12 (f0 := 31) (by decide) kw_1216 (by decide +kernel)) <|
  allq qX12_sayBlock 306 (.inl (o_iadd 307)) (s_iadd (by decide +kernel)) <|
  allq qX12_sayBlock 307 (.inl (a_iast 308)) (s_iast (by decide +kernel)) <|
  allq qX12_sayBlock 308 (.inl (a_al 0 309)) (s_aload_n (q := 0) (i := 0) rfl (by decide +kernel)) <|
  allq qX12_sayBlock 309 (.inl (a_get 11 62 312)) (gX12 (f0 := 62) (by decide) kw_1247 (by decide +kernel)) <|
  allq qX12_sayBlock 312 (.inl (a_ic 4 313)) (s_iconst (n := 4) (v := 4) rfl (by decide +kernel)) <|
  allq qX12_sayBlock 313 (.inl (a_il 7 315)) (s_iload (i := 7) (by decide +kernel)) <|
  allq qX12_sayBlock 315 (.inl (o_iadd 316)) (s_iadd (by decide +kernel)) <|
  allq qX12_sayBlock 316 (.inl (a_dup2 317)) (s_dup2 (by decide +kernel)) <|
  allq qX12_sayBlock 317 (.inl (a_iald 318)) (s_iald (by decide +kernel)) <|
  allq qX12_sayBlock 318 (.inl (a_ic 1 319)) (s_iconst (n := 1) (v := 1) rfl (by decide +kernel)) <|
  allq qX12_sayBlock 319 (.inl (o_iadd 320)) (s_iadd (by decide +kernel)) <|
  allq qX12_sayBlock 320 (.inl (a_iast 321)) (s_iast (by decide +kernel)) <|
  allq qX12_sayBlock 321 (.inr (.inr 0)) (Or.inl ⟨rfl, rfl, by decide +kernel⟩) <|
  allq qX12_sayBlock 322 (.inl (a_al 0 323)) (s_aload_n (q := 0) (i := 0) rfl (by decide +kernel)) <|
  allq qX12_sayBlock 323 (.inr (.inl (204, 1, 12))) (okV (y := yX12_restore) kw_1644 kw_118 rfl rfl (by decide +kernel) kw_1643 kw_94 kw_1641) <|
  allq qX12_sayBlock 326 (.inl (a_ic 8 328)) (s_bipush (n := 8) (v := 8) rfl (by decide +kernel)) <|
  allq qX12_sayBlock 328 (.inl (a_is 9 330)) (s_istore (i := 9) (by decide +kernel) (by decide)) <|
  allq qX12_sayBlock 330 (.inl (a_il 9 332)) (s_iload (i := 9) (by decide +kernel)) <|
  allq qX12_sayBlock 332 (.inl (a_ic 12 334)) (s_bipush (n := 12) (v := 12) rfl (by decide +kernel)) <|
  allq qX12_sayBlock 334 (.inl (o_icmp_ge 357 337)) (s_icmp_ge (off := 23) (by decide +kernel) (by decide)) <|
  allq qX12_sayBlock 337 (.inl (a_al 0 338)) (s_aload_n (q := 0) (i := 0) rfl (by decide +kernel)) <|
  allq qX12_sayBlock 338 (.inl (a_get 11 62 341)) (gX12 (f0 := 62) (by decide) kw_1247 (by decide +kernel)) <|
  allq qX12_sayBlock 341 (.inl (a_il 9 343)) (s_iload (i := 9) (by decide +kernel)) <|
  allq qX12_sayBlock 343 (.inl (a_al 0 344)) (s_aload_n (q := 0) (i := 0) rfl (by decide +kernel)) <|
  allq qX12_sayBlock 344 (.inl (a_get 11 58 347)) (gX12 (f0 := 58) (by decide) kw_1243 (by decide +kernel)) <|
  allq qX12_sayBlock 347 (.inl (a_il 9 349)) (s_iload (i := 9) (by decide +kernel)) <|
  allq qX12_sayBlock 349 (.inl (a_iald 350)) (s_iald (by decide +kernel)) <|
  allq qX12_sayBlock 350 (.inl (a_iast 351)) (s_iast (by decide +kernel)) <|
  allq qX12_sayBlock 351 (.inl (a_inc 9 1 354)) (s_iinc (i := 9) (n := 1) (n2 := 1) rfl (by decide +kernel) (by decide)) <|
  alln
set_option maxRecDepth 20000 in
theorem kX12_sayBlock_5 : ∀ q ∈ tX12_sayBlock_5, qX12_sayBlock q :=
  allq qX12_sayBlock 354 (.inl (a_go 330)) (s_goto (off := (-24)) (by decide +kernel) (by decide)) <|
  allq qX12_sayBlock 357 (.inl (a_al 0 358)) (s_aload_n (q := 0) (i := 0) rfl (by decide +kernel)) <|
  allq qX12_sayBlock 358 (.inl (a_il 4 360)) (s_iload (i := 4) (by decide +kernel)) <|
  allq qX12_sayBlock 360 (.inl (a_put 11 40 .int 363)) (pX12 (f0 := 40) (by decide) rfl rfl tOk kw_1225 (by decide +kernel)) <|
  allq qX12_sayBlock 363 (.inl (a_al 0 364)) (s_aload_n (q := 0) (i := 0) rfl (by decide +kernel)) <|
  allq qX12_sayBlock 364 (.inl (a_il 4 366)) (s_iload (i := 4) (by decide +kernel)) <|
  allq qX12_sayBlock 366 (.inl (a_il 5 368)) (s_iload (i := 5) (by decide +kernel)) <|
  allq qX12_sayBlock 368 (.inl (a_ic 0 369)) (s_iconst (n := 0) (v := 0) rfl (by decide +kernel)) <|
  allq qX12_sayBlock 369 (.inl (a_il 3 370)) (s_iload_n (q := 3) (i := 3) rfl (by decide +kernel)) <|
  allq qX12_sayBlock 370 (.inr (.inl (206, 5, 12))) (okV (y := yX12_sayBlockHead) kw_1428 kw_118 rfl rfl (by decide +kernel) kw_1427 kw_45 kw_1425) <|
  allq qX12_sayBlock 373 (.inl (a_il 1 374)) (s_iload_n (q := 1) (i := 1) rfl (by decide +kernel)) <|
  allq qX12_sayBlock 374 (.inl (a_is 9 376)) (s_istore (i := 9) (by decide +kernel) (by decide)) <|
  allq qX12_sayBlock 376 (.inl (a_il 9 378)) (s_iload (i := 9) (by decide +kernel)) <|
  allq qX12_sayBlock 378 (.inl (a_il 2 379)) (s_iload_n (q := 2) (i := 2) rfl (by decide +kernel)) <|
  allq qX12_sayBlock 379 (.inl (o_icmp_ge 399 382)) (s_icmp_ge (off := 20) (by decide +kernel) (by decide)) <|
  allq qX12_sayBlock 382 (.inl (a_al 0 383)) (s_aload_n (q := 0) (i := 0) rfl (by decide +kernel)) <|
  allq qX12_sayBlock 383 (.inl (a_al 0 384)) (s_aload_n (q := 0) (i := 0) rfl (by decide +kernel)) <|
  allq qX12_sayBlock 384 (.inl (a_get 11 0 387)) (gX12 (f0 := 0) (by decide) kw_1185 (by decide +kernel)) <|
  allq qX12_sayBlock 387 (.inl (a_il 9 389)) (s_iload (i := 9) (by decide +kernel)) <|
  allq qX12_sayBlock 389 (.inl (a_iald 390)) (s_iald (by decide +kernel)) <|
  allq qX12_sayBlock 390 (.inr (.inl (150, 2, 12))) (okV (y := yX12_say) kw_1416 kw_118 rfl rfl (by decide +kernel) kw_1415 kw_42 kw_1413) <|
  allq qX12_sayBlock 393 (.inl (a_inc 9 1 396)) (s_iinc (i := 9) (n := 1) (n2 := 1) rfl (by decide +kernel) (by decide)) <|
  allq qX12_sayBlock 396 (.inl (a_go 376)) (s_goto (off := (-20)) (by decide +kernel) (by decide)) <|
  allq qX12_sayBlock 399 (.inl (a_al 0 400)) (s_aload_n (q := 0) (i := 0) rfl (by decide +kernel)) <|
  allq qX12_sayBlock 400 (.inl (a_get 11 62 403)) (gX12 (f0 := 62) (by decide) kw_1247 (by decide +kernel)) <|
  allq qX12_sayBlock 403 (.inl (a_ic 0 404)) (s_iconst (n := 0) (v := 0) rfl (by decide +kernel)) <|
  allq qX12_sayBlock 404 (.inl (a_dup2 405)) (s_dup2 (by decide +kernel)) <|
  allq qX12_sayBlock 405 (.inl (a_iald 406)) (s_iald (by decide +kernel)) <|
  allq qX12_sayBlock 406 (.inl (a_ic 1 407)) (s_iconst (n := 1) (v := 1) rfl (by decide +kernel)) <|
  allq qX12_sayBlock 407 (.inl (o_iadd 408)) (s_iadd (by decide +kernel)) <|
  allq qX12_sayBlock 408 (.inl (a_iast 409)) (s_iast (by decide +kernel)) <|
  allq qX12_sayBlock 409 (.inr (.inr 0)) (Or.inl ⟨rfl, rfl, by decide +kernel⟩) <|
  alln
theorem kX12_sayBlock : ∀ q ∈ tX12_sayBlock, qX12_sayBlock q := alla kX12_sayBlock_0 (alla kX12_sayBlock_1 (alla kX12_sayBlock_2 (alla kX12_sayBlock_3 (alla kX12_sayBlock_4 kX12_sayBlock_5))))
abbrev qX12_press : Nat × aI → Prop := OkQ RX12 "press" cX12_press 14 (some .int)
set_option maxRecDepth 20000 in
theorem kX12_press_0 : ∀ q ∈ tX12_press_0, qX12_press q :=
  allq qX12_press 0 (.inl (a_il 1 1)) (s_iload_n (q := 1) (i := 1) rfl (by decide +kernel)) <|
  allq qX12_press 1 (.inl (a_ic 4 2)) (s_iconst (n := 4) (v := 4) rfl (by decide +kernel)) <|
  allq qX12_press 2 (.inl (o_iand 3)) (s_iand (by decide +kernel)) <|
  allq qX12_press 3 (.inl (o_if_eq 10 6)) (s_if_eq (off := 7) (by decide +kernel) (by decide)) <|
  allq qX12_press 6 (.inl (a_ic 1 7)) (s_iconst (n := 1) (v := 1) rfl (by decide +kernel)) <|
  allq qX12_press 7 (.inl (a_go 11)) (s_goto (off := 4) (by decide +kernel) (by decide)) <|
  allq qX12_press 10 (.inl (a_ic 0 11)) (s_iconst (n := 0) (v := 0) rfl (by decide +kernel)) <|
  allq qX12_press 11 (.inl (a_is 4 13)) (s_istore (i := 4) (by decide +kernel) (by decide)) <|
  allq qX12_press 13 (.inl (a_il 1 14)) (s_iload_n (q := 1) (i := 1) rfl (by decide +kernel)) <|
  allq qX12_press 14 (.inl (o_if_lt 60 17)) (s_if_lt (off := 46) (by decide +kernel) (by decide)) <|
  allq qX12_press 17 (.inl (a_il 1 18)) (s_iload_n (q := 1) (i := 1) rfl (by decide +kernel)) <|
  allq qX12_press 18 (.inl (a_ic 15 20)) (s_bipush (n := 15) (v := 15) rfl (by decide +kernel)) <|
  allq qX12_press 20 (.inl (o_icmp_gt 60 23)) (s_icmp_gt (off := 40) (by decide +kernel) (by decide)) <|
  allq qX12_press 23 (.inl (a_il 2 24)) (s_iload_n (q := 2) (i := 2) rfl (by decide +kernel)) <|
  allq qX12_press 24 (.inl (o_if_lt 60 27)) (s_if_lt (off := 36) (by decide +kernel) (by decide)) <|
  allq qX12_press 27 (.inl (a_il 2 28)) (s_iload_n (q := 2) (i := 2) rfl (by decide +kernel)) <|
  allq qX12_press 28 (.inl (a_ic 11 30)) (s_bipush (n := 11) (v := 11) rfl (by decide +kernel)) <|
  allq qX12_press 30 (.inl (o_icmp_gt 60 33)) (s_icmp_gt (off := 30) (by decide +kernel) (by decide)) <|
  allq qX12_press 33 (.inl (a_il 3 34)) (s_iload_n (q := 3) (i := 3) rfl (by decide +kernel)) <|
  allq qX12_press 34 (.inl (a_ic 1 35)) (s_iconst (n := 1) (v := 1) rfl (by decide +kernel)) <|
  allq qX12_press 35 (.inl (o_icmp_lt 60 38)) (s_icmp_lt (off := 25) (by decide +kernel) (by decide)) <|
  allq qX12_press 38 (.inl (a_il 3 39)) (s_iload_n (q := 3) (i := 3) rfl (by decide +kernel)) <|
  allq qX12_press 39 (.inl (a_ic 8000 42)) (s_sipush (n := 8000) (v := 8000) rfl (by decide +kernel)) <|
  allq qX12_press 42 (.inl (o_icmp_gt 60 45)) (s_icmp_gt (off := 18) (by decide +kernel) (by decide)) <|
  allq qX12_press 45 (.inl (a_il 4 47)) (s_iload (i := 4) (by decide +kernel)) <|
  allq qX12_press 47 (.inl (o_if_ne 62 50)) (s_if_ne (off := 15) (by decide +kernel) (by decide)) <|
  allq qX12_press 50 (.inl (a_il 3 51)) (s_iload_n (q := 3) (i := 3) rfl (by decide +kernel)) <|
  allq qX12_press 51 (.inl (a_ic 1 52)) (s_iconst (n := 1) (v := 1) rfl (by decide +kernel)) <|
  allq qX12_press 52 (.inl (a_ic 10 54)) (s_bipush (n := 10) (v := 10) rfl (by decide +kernel)) <|
  allq qX12_press 54 (.inl (a_il 2 55)) (s_iload_n (q := 2) (i := 2) rfl (by decide +kernel)) <|
  allq qX12_press 55 (.inl (o_iadd 56)) (s_iadd (by decide +kernel)) <|
  allq qX12_press 56 (.inl (o_ishl 57)) (s_ishl (by decide +kernel)) <|
  allq qX12_press 57 (.inl (o_icmp_le 62 60)) (s_icmp_le (off := 5) (by decide +kernel) (by decide)) <|
  allq qX12_press 60 (.inl (a_ic (-1) 61)) (s_iconst (n := (-1)) (v := (-1)) rfl (by decide +kernel)) <|
  allq qX12_press 61 (.inr (.inr 1)) (Or.inr (Or.inl ⟨rfl, rfl, by decide +kernel⟩)) <|
  allq qX12_press 62 (.inl (a_ic 0 63)) (s_iconst (n := 0) (v := 0) rfl (by decide +kernel)) <|
  allq qX12_press 63 (.inl (a_is 5 65)) (s_istore (i := 5) (by decide +kernel) (by decide)) <|
  allq qX12_press 65 (.inl (a_il 5 67)) (s_iload (i := 5) (by decide +kernel)) <|
  allq qX12_press 67 (.inl (a_ic 12 69)) (s_bipush (n := 12) (v := 12) rfl (by decide +kernel)) <|
  allq qX12_press 69 (.inl (o_icmp_ge 86 72)) (s_icmp_ge (off := 17) (by decide +kernel) (by decide)) <|
  alln
set_option maxRecDepth 20000 in
theorem kX12_press_1 : ∀ q ∈ tX12_press_1, qX12_press q :=
  allq qX12_press 72 (.inl (a_al 0 73)) (s_aload_n (q := 0) (i := 0) rfl (by decide +kernel)) <|
  allq qX12_press 73 (.inl (a_get 11 62 76)) (gX12 (f0 := 62) (by decide) kw_1247 (by decide +kernel)) <|
  allq qX12_press 76 (.inl (a_il 5 78)) (s_iload (i := 5) (by decide +kernel)) <|
  allq qX12_press 78 (.inl (a_ic 0 79)) (s_iconst (n := 0) (v := 0) rfl (by decide +kernel)) <|
  allq qX12_press 79 (.inl (a_iast 80)) (s_iast (by decide +kernel)) <|
  allq qX12_press 80 (.inl (a_inc 5 1 83)) (s_iinc (i := 5) (n := 1) (n2 := 1) rfl (by decide +kernel) (by decide)) <|
  allq qX12_press 83 (.inl (a_go 65)) (s_goto (off := (-18)) (by decide +kernel) (by decide)) <|
  allq qX12_press 86 (.inl (a_al 0 87)) (s_aload_n (q := 0) (i := 0) rfl (by decide +kernel)) <|
  allq qX12_press 87 (.inl (a_ic 0 88)) (s_iconst (n := 0) (v := 0) rfl (by decide +kernel)) <|
  allq qX12_press 88 (.inl (a_put 11 40 .int 91)) (pX12 (f0 := 40) (by decide) rfl rfl tOk kw_1225 (by decide +kernel)) <|
  allq qX12_press 91 (.inl (a_il 4 93)) (s_iload (i := 4) (by decide +kernel)) <|
  allq qX12_press 93 (.inl (o_if_ne 102 96)) (s_if_ne (off := 9) (by decide +kernel) (by decide)) <|
  allq qX12_press 96 (.inl (a_il 1 97)) (s_iload_n (q := 1) (i := 1) rfl (by decide +kernel)) <|
  allq qX12_press 97 (.inl (a_ic 2 98)) (s_iconst (n := 2) (v := 2) rfl (by decide +kernel)) <|
  allq qX12_press 98 (.inl (o_iand 99)) (s_iand (by decide +kernel)) <|
  allq qX12_press 99 (.inl (o_if_eq 106 102)) (s_if_eq (off := 7) (by decide +kernel) (by decide)) <|
  allq qX12_press 102 (.inl (a_ic 1 103)) (s_iconst (n := 1) (v := 1) rfl (by decide +kernel)) <|
  allq qX12_press 103 (.inl (a_go 107)) (s_goto (off := 4) (by decide +kernel) (by decide)) <|
  allq qX12_press 106 (.inl (a_ic 0 107)) (s_iconst (n := 0) (v := 0) rfl (by decide +kernel)) <|
  allq qX12_press 107 (.inl (a_is 5 109)) (s_istore (i := 5) (by decide +kernel) (by decide)) <|
  allq qX12_press 109 (.inl (a_il 5 111)) (s_iload (i := 5) (by decide +kernel)) <|
  allq qX12_press 111 (.inl (o_if_ne 118 114)) (s_if_ne (off := 7) (by decide +kernel) (by decide)) <|
  allq qX12_press 114 (.inl (a_ic 0 115)) (s_iconst (n := 0) (v := 0) rfl (by decide +kernel)) <|
  allq qX12_press 115 (.inl (a_go 152)) (s_goto (off := 37) (by decide +kernel) (by decide)) <|
  allq qX12_press 118 (.inl (a_il 4 120)) (s_iload (i := 4) (by decide +kernel)) <|
  allq qX12_press 120 (.inl (o_if_eq 137 123)) (s_if_eq (off := 17) (by decide +kernel) (by decide)) <|
  allq qX12_press 123 (.inl (a_al 0 124)) (s_aload_n (q := 0) (i := 0) rfl (by decide +kernel)) <|
  allq qX12_press 124 (.inl (a_get 11 1 127)) (gX12 (f0 := 1) (by decide) kw_1186 (by decide +kernel)) <|
  allq qX12_press 127 (.inl (a_ic 256 130)) (s_sipush (n := 256) (v := 256) rfl (by decide +kernel)) <|
  allq qX12_press 130 (.inl (o_icmp_ge 137 133)) (s_icmp_ge (off := 7) (by decide +kernel) (by decide)) <|
  allq qX12_press 133 (.inl (a_ic 0 134)) (s_iconst (n := 0) (v := 0) rfl (by decide +kernel)) <|
  allq qX12_press 134 (.inl (a_go 152)) (s_goto (off := 18) (by decide +kernel) (by decide)) <|
  allq qX12_press 137 (.inl (a_al 0 138)) (s_aload_n (q := 0) (i := 0) rfl (by decide +kernel)) <|
  allq qX12_press 138 (.inl (a_get 11 1 141)) (gX12 (f0 := 1) (by decide) kw_1186 (by decide +kernel)) <|
  allq qX12_press 141 (.inl (a_ic 256 144)) (s_sipush (n := 256) (v := 256) rfl (by decide +kernel)) <|
  allq qX12_press 144 (.inl (o_icmp_ge 151 147)) (s_icmp_ge (off := 7) (by decide +kernel) (by decide)) <|
  allq qX12_press 147 (.inl (a_ic 2 148)) (s_iconst (n := 2) (v := 2) rfl (by decide +kernel)) <|
  allq qX12_press 148 (.inl (a_go 152)) (s_goto (off := 4) (by decide +kernel) (by decide)) <|
  allq qX12_press 151 (.inl (a_ic 1 152)) (s_iconst (n := 1) (v := 1) rfl (by decide +kernel)) <|
  allq qX12_press 152 (.inl (a_is 6 154)) (s_istore (i := 6) (by decide +kernel) (by decide)) <|
  alln
set_option maxRecDepth 20000 in
theorem kX12_press_2 : ∀ q ∈ tX12_press_2, qX12_press q :=
  allq qX12_press 154 (.inl (a_al 0 155)) (s_aload_n (q := 0) (i := 0) rfl (by decide +kernel)) <|
  allq qX12_press 155 (.inl (a_get 11 8 158)) (gX12 (f0 := 8) (by decide) kw_1193 (by decide +kernel)) <|
  allq qX12_press 158 (.inl (a_i2l 159)) (s_i2l (by decide +kernel)) <|
  allq qX12_press 159 (.inl (a_lc 4294967295 162)) (s_ldc2 kw_1405 (by decide +kernel)) <|
  allq qX12_press 162 (.inl (o_land 163)) (s_land (by decide +kernel)) <|
  allq qX12_press 163 (.inl (a_lst 7 165)) (s_lstore (i := 7) (by decide +kernel) (by decide)) <|
  allq qX12_press 165 (.inl (a_il 1 166)) (s_iload_n (q := 1) (i := 1) rfl (by decide +kernel)) <|
  allq qX12_press 166 (.inl (a_ic 8 168)) (s_bipush (n := 8) (v := 8) rfl (by decide +kernel)) <|
  allq qX12_press 168 (.inl (o_iand 169)) (s_iand (by decide +kernel)) <|
  allq qX12_press 169 (.inl (o_if_eq 179 172)) (s_if_eq (off := 10) (by decide +kernel) (by decide)) <|
  allq qX12_press 172 (.inl (a_ll 7 174)) (s_lload (i := 7) (by decide +kernel)) <|
  allq qX12_press 174 (.inl (a_lc 0 175)) (s_lconst (n := 0) rfl (by decide +kernel)) <|
  allq qX12_press 175 (.inl (a_lcmp 176)) (s_lcmp (by decide +kernel)) <|
  allq qX12_press 176 (.inl (o_if_ne 183 179)) (s_if_ne (off := 7) (by decide +kernel) (by decide)) <|
  allq qX12_press 179 (.inl (a_ic 0 180)) (s_iconst (n := 0) (v := 0) rfl (by decide +kernel)) <|
  allq qX12_press 180 (.inl (a_go 210)) (s_goto (off := 30) (by decide +kernel) (by decide)) <|
  allq qX12_press 183 (.inl (a_ll 7 185)) (s_lload (i := 7) (by decide +kernel)) <|
  allq qX12_press 185 (.inl (a_lc 256 188)) (s_ldc2 kw_1406 (by decide +kernel)) <|
  allq qX12_press 188 (.inl (a_lcmp 189)) (s_lcmp (by decide +kernel)) <|
  allq qX12_press 189 (.inl (o_if_ge 196 192)) (s_if_ge (off := 7) (by decide +kernel) (by decide)) <|
  allq qX12_press 192 (.inl (a_ic 1 193)) (s_iconst (n := 1) (v := 1) rfl (by decide +kernel)) <|
  allq qX12_press 193 (.inl (a_go 210)) (s_goto (off := 17) (by decide +kernel) (by decide)) <|
  allq qX12_press 196 (.inl (a_ll 7 198)) (s_lload (i := 7) (by decide +kernel)) <|
  allq qX12_press 198 (.inl (a_lc 65536 201)) (s_ldc2 kw_1407 (by decide +kernel)) <|
  allq qX12_press 201 (.inl (a_lcmp 202)) (s_lcmp (by decide +kernel)) <|
  allq qX12_press 202 (.inl (o_if_ge 209 205)) (s_if_ge (off := 7) (by decide +kernel) (by decide)) <|
  allq qX12_press 205 (.inl (a_ic 2 206)) (s_iconst (n := 2) (v := 2) rfl (by decide +kernel)) <|
  allq qX12_press 206 (.inl (a_go 210)) (s_goto (off := 4) (by decide +kernel) (by decide)) <|
  allq qX12_press 209 (.inl (a_ic 3 210)) (s_iconst (n := 3) (v := 3) rfl (by decide +kernel)) <|
  allq qX12_press 210 (.inl (a_is 9 212)) (s_istore (i := 9) (by decide +kernel) (by decide)) <|
  allq qX12_press 212 (.inl (a_al 0 213)) (s_aload_n (q := 0) (i := 0) rfl (by decide +kernel)) <|
  allq qX12_press 213 (.inl (a_lc 4247762216 216)) (s_ldc2 kw_1408 (by decide +kernel)) <|
  allq qX12_press 216 (.inl (a_ic 4 217)) (s_iconst (n := 4) (v := 4) rfl (by decide +kernel)) <|
  allq qX12_press 217 (.inr (.inl (151, 3, 12))) (okV (y := yX12_sayNumber) kw_1412 kw_118 rfl rfl (by decide +kernel) kw_1411 kw_41 kw_1409) <|
  allq qX12_press 220 (.inl (a_al 0 221)) (s_aload_n (q := 0) (i := 0) rfl (by decide +kernel)) <|
  allq qX12_press 221 (.inl (a_ic 64 223)) (s_bipush (n := 64) (v := 64) rfl (by decide +kernel)) <|
  allq qX12_press 223 (.inl (a_il 6 225)) (s_iload (i := 6) (by decide +kernel)) <|
  allq qX12_press 225 (.inl (o_imul 226)) (s_imul (by decide +kernel)) <|
  allq qX12_press 226 (.inl (a_il 4 228)) (s_iload (i := 4) (by decide +kernel)) <|
  allq qX12_press 228 (.inl (o_if_eq 236 231)) (s_if_eq (off := 8) (by decide +kernel) (by decide)) <|
  alln
set_option maxRecDepth 20000 in
theorem kX12_press_3 : ∀ q ∈ tX12_press_3, qX12_press q :=
  allq qX12_press 231 (.inl (a_ic 32 233)) (s_bipush (n := 32) (v := 32) rfl (by decide +kernel)) <|
  allq qX12_press 233 (.inl (a_go 237)) (s_goto (off := 4) (by decide +kernel) (by decide)) <|
  allq qX12_press 236 (.inl (a_ic 0 237)) (s_iconst (n := 0) (v := 0) rfl (by decide +kernel)) <|
  allq qX12_press 237 (.inl (o_iadd 238)) (s_iadd (by decide +kernel)) <|
  allq qX12_press 238 (.inl (a_il 1 239)) (s_iload_n (q := 1) (i := 1) rfl (by decide +kernel)) <|
  allq qX12_press 239 (.inl (a_ic 1 240)) (s_iconst (n := 1) (v := 1) rfl (by decide +kernel)) <|
  allq qX12_press 240 (.inl (o_iand 241)) (s_iand (by decide +kernel)) <|
  allq qX12_press 241 (.inl (o_if_eq 248 244)) (s_if_eq (off := 7) (by decide +kernel) (by decide)) <|
  allq qX12_press 244 (.inl (a_ic 4 245)) (s_iconst (n := 4) (v := 4) rfl (by decide +kernel)) <|
  allq qX12_press 245 (.inl (a_go 249)) (s_goto (off := 4) (by decide +kernel) (by decide)) <|
  allq qX12_press 248 (.inl (a_ic 0 249)) (s_iconst (n := 0) (v := 0) rfl (by decide +kernel)) <|
  allq qX12_press 249 (.inl (o_iadd 250)) (s_iadd (by decide +kernel)) <|
  allq qX12_press 250 (.inl (a_il 9 252)) (s_iload (i := 9) (by decide +kernel)) <|
  allq qX12_press 252 (.inl (o_iadd 253)) (s_iadd (by decide +kernel)) <|
  allq qX12_press 253 (.inr (.inl (150, 2, 12))) (okV (y := yX12_say) kw_1416 kw_118 rfl rfl (by decide +kernel) kw_1415 kw_42 kw_1413) <|
  allq qX12_press 256 (.inl (a_il 4 258)) (s_iload (i := 4) (by decide +kernel)) <|
  allq qX12_press 258 (.inl (o_if_ne 269 261)) (s_if_ne (off := 11) (by decide +kernel) (by decide)) <|
  allq qX12_press 261 (.inl (a_al 0 262)) (s_aload_n (q := 0) (i := 0) rfl (by decide +kernel)) <|
  allq qX12_press 262 (.inl (a_ic 8 264)) (s_bipush (n := 8) (v := 8) rfl (by decide +kernel)) <|
  allq qX12_press 264 (.inl (a_il 2 265)) (s_iload_n (q := 2) (i := 2) rfl (by decide +kernel)) <|
  allq qX12_press 265 (.inl (o_imul 266)) (s_imul (by decide +kernel)) <|
  allq qX12_press 266 (.inr (.inl (150, 2, 12))) (okV (y := yX12_say) kw_1416 kw_118 rfl rfl (by decide +kernel) kw_1415 kw_42 kw_1413) <|
  allq qX12_press 269 (.inl (a_al 0 270)) (s_aload_n (q := 0) (i := 0) rfl (by decide +kernel)) <|
  allq qX12_press 270 (.inl (a_ll 7 272)) (s_lload (i := 7) (by decide +kernel)) <|
  allq qX12_press 272 (.inl (a_il 9 274)) (s_iload (i := 9) (by decide +kernel)) <|
  allq qX12_press 274 (.inl (a_ic 3 275)) (s_iconst (n := 3) (v := 3) rfl (by decide +kernel)) <|
  allq qX12_press 275 (.inl (o_icmp_ne 282 278)) (s_icmp_ne (off := 7) (by decide +kernel) (by decide)) <|
  allq qX12_press 278 (.inl (a_ic 4 279)) (s_iconst (n := 4) (v := 4) rfl (by decide +kernel)) <|
  allq qX12_press 279 (.inl (a_go 284)) (s_goto (off := 5) (by decide +kernel) (by decide)) <|
  allq qX12_press 282 (.inl (a_il 9 284)) (s_iload (i := 9) (by decide +kernel)) <|
  allq qX12_press 284 (.inr (.inl (151, 3, 12))) (okV (y := yX12_sayNumber) kw_1412 kw_118 rfl rfl (by decide +kernel) kw_1411 kw_41 kw_1409) <|
  allq qX12_press 287 (.inl (a_il 5 289)) (s_iload (i := 5) (by decide +kernel)) <|
  allq qX12_press 289 (.inl (o_if_eq 339 292)) (s_if_eq (off := 50) (by decide +kernel) (by decide)) <|
  allq qX12_press 292 (.inl (a_al 0 293)) (s_aload_n (q := 0) (i := 0) rfl (by decide +kernel)) <|
  allq qX12_press 293 (.inl (a_il 6 295)) (s_iload (i := 6) (by decide +kernel)) <|
  allq qX12_press 295 (.inl (a_ic 1 296)) (s_iconst (n := 1) (v := 1) rfl (by decide +kernel)) <|
  allq qX12_press 296 (.inl (o_icmp_ne 311 299)) (s_icmp_ne (off := 15) (by decide +kernel) (by decide)) <|
  allq qX12_press 299 (.inl (a_al 0 300)) (s_aload_n (q := 0) (i := 0) rfl (by decide +kernel)) <|
  allq qX12_press 300 (.inl (a_get 11 1 303)) (gX12 (f0 := 1) (by decide) kw_1186 (by decide +kernel)) <|
  allq qX12_press 303 (.inl (a_ic 256 306)) (s_sipush (n := 256) (v := 256) rfl (by decide +kernel)) <|
  alln
set_option maxRecDepth 20000 in
theorem kX12_press_4 : ∀ q ∈ tX12_press_4, qX12_press q :=
  allq qX12_press 306 (.inl (o_isub 307)) (s_isub (by decide +kernel)) <|
  allq qX12_press 307 (.inl (a_i2l 308)) (s_i2l (by decide +kernel)) <|
  allq qX12_press 308 (.inl (a_go 316)) (s_goto (off := 8) (by decide +kernel) (by decide)) <|
  allq qX12_press 311 (.inl (a_al 0 312)) (s_aload_n (q := 0) (i := 0) rfl (by decide +kernel)) <|
  allq qX12_press 312 (.inl (a_get 11 1 315)) (gX12 (f0 := 1) (by decide) kw_1186 (by decide +kernel)) <|
  allq qX12_press 315 (.inl (a_i2l 316)) (s_i2l (by decide +kernel)) <|
  allq qX12_press 316 (.inl (a_il 6 318)) (s_iload (i := 6) (by decide +kernel)) <|
  allq qX12_press 318 (.inl (o_if_ne 325 321)) (s_if_ne (off := 7) (by decide +kernel) (by decide)) <|
  allq qX12_press 321 (.inl (a_ic 1 322)) (s_iconst (n := 1) (v := 1) rfl (by decide +kernel)) <|
  allq qX12_press 322 (.inl (a_go 336)) (s_goto (off := 14) (by decide +kernel) (by decide)) <|
  allq qX12_press 325 (.inl (a_il 6 327)) (s_iload (i := 6) (by decide +kernel)) <|
  allq qX12_press 327 (.inl (a_ic 1 328)) (s_iconst (n := 1) (v := 1) rfl (by decide +kernel)) <|
  allq qX12_press 328 (.inl (o_icmp_ne 335 331)) (s_icmp_ne (off := 7) (by decide +kernel) (by decide)) <|
  allq qX12_press 331 (.inl (a_ic 2 332)) (s_iconst (n := 2) (v := 2) rfl (by decide +kernel)) <|
  allq qX12_press 332 (.inl (a_go 336)) (s_goto (off := 4) (by decide +kernel) (by decide)) <|
  allq qX12_press 335 (.inl (a_ic 4 336)) (s_iconst (n := 4) (v := 4) rfl (by decide +kernel)) <|
  allq qX12_press 336 (.inr (.inl (151, 3, 12))) (okV (y := yX12_sayNumber) kw_1412 kw_118 rfl rfl (by decide +kernel) kw_1411 kw_41 kw_1409) <|
  allq qX12_press 339 (.inl (a_al 0 340)) (s_aload_n (q := 0) (i := 0) rfl (by decide +kernel)) <|
  allq qX12_press 340 (.inl (a_il 4 342)) (s_iload (i := 4) (by decide +kernel)) <|
  allq qX12_press 342 (.inl (o_if_eq 352 345)) (s_if_eq (off := 10) (by decide +kernel) (by decide)) <|
  allq qX12_press 345 (.inl (a_al 0 346)) (s_aload_n (q := 0) (i := 0) rfl (by decide +kernel)) <|
  allq qX12_press 346 (.inl (a_get 11 1 349)) (gX12 (f0 := 1) (by decide) kw_1186 (by decide +kernel)) <|
  allq qX12_press 349 (.inl (a_go 358)) (s_goto (off := 9) (by decide +kernel) (by decide)) <|
  allq qX12_press 352 (.inl (a_ic 1 353)) (s_iconst (n := 1) (v := 1) rfl (by decide +kernel)) <|
  allq qX12_press 353 (.inl (a_ic 10 355)) (s_bipush (n := 10) (v := 10) rfl (by decide +kernel)) <|
  allq qX12_press 355 (.inl (a_il 2 356)) (s_iload_n (q := 2) (i := 2) rfl (by decide +kernel)) <|
  allq qX12_press 356 (.inl (o_iadd 357)) (s_iadd (by decide +kernel)) <|
  allq qX12_press 357 (.inl (o_ishl 358)) (s_ishl (by decide +kernel)) <|
  allq qX12_press 358 (.inl (a_put 11 27 .int 361)) (pX12 (f0 := 27) (by decide) rfl rfl tOk kw_1212 (by decide +kernel)) <|
  allq qX12_press 361 (.inl (a_al 0 362)) (s_aload_n (q := 0) (i := 0) rfl (by decide +kernel)) <|
  allq qX12_press 362 (.inr (.inl (205, 1, 12))) (okV (y := yX12_beginFrame) kw_1420 kw_118 rfl rfl (by decide +kernel) kw_1419 kw_43 kw_1417) <|
  allq qX12_press 365 (.inl (a_ic 0 366)) (s_iconst (n := 0) (v := 0) rfl (by decide +kernel)) <|
  allq qX12_press 366 (.inl (a_is 10 368)) (s_istore (i := 10) (by decide +kernel) (by decide)) <|
  allq qX12_press 368 (.inl (a_ic 1 369)) (s_iconst (n := 1) (v := 1) rfl (by decide +kernel)) <|
  allq qX12_press 369 (.inl (a_is 11 371)) (s_istore (i := 11) (by decide +kernel) (by decide)) <|
  allq qX12_press 371 (.inl (a_il 11 373)) (s_iload (i := 11) (by decide +kernel)) <|
  allq qX12_press 373 (.inl (o_if_eq 441 376)) (s_if_eq (off := 68) (by decide +kernel) (by decide)) <|
  allq qX12_press 376 (.inl (a_il 10 378)) (s_iload (i := 10) (by decide +kernel)) <|
  allq qX12_press 378 (.inl (a_il 3 379)) (s_iload_n (q := 3) (i := 3) rfl (by decide +kernel)) <|
  allq qX12_press 379 (.inl (o_iadd 380)) (s_iadd (by decide +kernel)) <|
  alln
set_option maxRecDepth 20000 in
theorem kX12_press_5 : ∀ q ∈ tX12_press_5, qX12_press q :=
  allq qX12_press 380 (.inl (a_al 0 381)) (s_aload_n (q := 0) (i := 0) rfl (by decide +kernel)) <|
  allq qX12_press 381 (.inl (a_get 11 1 384)) (gX12 (f0 := 1) (by decide) kw_1186 (by decide +kernel)) <|
  allq qX12_press 384 (.inl (o_icmp_ge 394 387)) (s_icmp_ge (off := 10) (by decide +kernel) (by decide)) <|
  allq qX12_press 387 (.inl (a_il 10 389)) (s_iload (i := 10) (by decide +kernel)) <|
  allq qX12_press 389 (.inl (a_il 3 390)) (s_iload_n (q := 3) (i := 3) rfl (by decide +kernel)) <|
  allq qX12_press 390 (.inl (o_iadd 391)) (s_iadd (by decide +kernel)) <|
  allq qX12_press 391 (.inl (a_go 398)) (s_goto (off := 7) (by decide +kernel) (by decide)) <|
  allq qX12_press 394 (.inl (a_al 0 395)) (s_aload_n (q := 0) (i := 0) rfl (by decide +kernel)) <|
  allq qX12_press 395 (.inl (a_get 11 1 398)) (gX12 (f0 := 1) (by decide) kw_1186 (by decide +kernel)) <|
  allq qX12_press 398 (.inl (a_is 12 400)) (s_istore (i := 12) (by decide +kernel) (by decide)) <|
  allq qX12_press 400 (.inl (a_il 12 402)) (s_iload (i := 12) (by decide +kernel)) <|
  allq qX12_press 402 (.inl (a_al 0 403)) (s_aload_n (q := 0) (i := 0) rfl (by decide +kernel)) <|
  allq qX12_press 403 (.inl (a_get 11 1 406)) (gX12 (f0 := 1) (by decide) kw_1186 (by decide +kernel)) <|
  allq qX12_press 406 (.inl (o_icmp_ge 413 409)) (s_icmp_ge (off := 7) (by decide +kernel) (by decide)) <|
  allq qX12_press 409 (.inl (a_ic 1 410)) (s_iconst (n := 1) (v := 1) rfl (by decide +kernel)) <|
  allq qX12_press 410 (.inl (a_go 414)) (s_goto (off := 4) (by decide +kernel) (by decide)) <|
  allq qX12_press 413 (.inl (a_ic 0 414)) (s_iconst (n := 0) (v := 0) rfl (by decide +kernel)) <|
  allq qX12_press 414 (.inl (a_is 11 416)) (s_istore (i := 11) (by decide +kernel) (by decide)) <|
  allq qX12_press 416 (.inl (a_al 0 417)) (s_aload_n (q := 0) (i := 0) rfl (by decide +kernel)) <|
  allq qX12_press 417 (.inl (a_il 10 419)) (s_iload (i := 10) (by decide +kernel)) <|
  allq qX12_press 419 (.inl (a_il 12 421)) (s_iload (i := 12) (by decide +kernel)) <|
  allq qX12_press 421 (.inl (a_il 11 423)) (s_iload (i := 11) (by decide +kernel)) <|
  allq qX12_press 423 (.inl (o_if_ne 430 426)) (s_if_ne (off := 7) (by decide +kernel) (by decide)) <|
  allq qX12_press 426 (.inl (a_ic 1 427)) (s_iconst (n := 1) (v := 1) rfl (by decide +kernel)) <|
  allq qX12_press 427 (.inl (a_go 431)) (s_goto (off := 4) (by decide +kernel) (by decide)) <|
  allq qX12_press 430 (.inl (a_ic 0 431)) (s_iconst (n := 0) (v := 0) rfl (by decide +kernel)) <|
  allq qX12_press 431 (.inr (.inl (207, 4, 12))) (okV (y := yX12_sayBlock) kw_1424 kw_118 rfl rfl (by decide +kernel) kw_1423 kw_44 kw_1421) <|
  allq qX12_press 434 (.inl (a_il 12 436)) (s_iload (i := 12) (by decide +kernel)) <|
  allq qX12_press 436 (.inl (a_is 10 438)) (s_istore (i := 10) (by decide +kernel) (by decide)) <|
  allq qX12_press 438 (.inl (a_go 371)) (s_goto (off := (-67)) (by decide +kernel) (by decide)) <|
  allq qX12_press 441 (.inl (a_il 1 442)) (s_iload_n (q := 1) (i := 1) rfl (by decide +kernel)) <|
  allq qX12_press 442 (.inl (a_ic 1 443)) (s_iconst (n := 1) (v := 1) rfl (by decide +kernel)) <|
  allq qX12_press 443 (.inl (o_iand 444)) (s_iand (by decide +kernel)) <|
  allq qX12_press 444 (.inl (o_if_eq 460 447)) (s_if_eq (off := 16) (by decide +kernel) (by decide)) <|
  allq qX12_press 447 (.inl (a_al 0 448)) (s_aload_n (q := 0) (i := 0) rfl (by decide +kernel)) <|
  allq qX12_press 448 (.inl (a_al 0 449)) (s_aload_n (q := 0) (i := 0) rfl (by decide +kernel)) <|
  allq qX12_press 449 (.inr (.inl (212, 1, 12))) (okV (y := yX12_sum) kw_1648 kw_118 rfl rfl (by decide +kernel) kw_1647 kw_95 kw_1645) <|
  allq qX12_press 452 (.inl (a_lc 4294967295 455)) (s_ldc2 kw_1405 (by decide +kernel)) <|
  allq qX12_press 455 (.inl (o_land 456)) (s_land (by decide +kernel)) <|
  allq qX12_press 456 (.inl (a_ic 4 457)) (s_iconst (n := 4) (v := 4) rfl (by decide +kernel)) <|
  alln
set_option maxRecDepth 20000 in
theorem kX12_press_6 : ∀ q ∈ tX12_press_6, qX12_press q :=
  allq qX12_press 457 (.inr (.inl (151, 3, 12))) (okV (y := yX12_sayNumber) kw_1412 kw_118 rfl rfl (by decide +kernel) kw_1411 kw_41 kw_1409) <|
  allq qX12_press 460 (.inl (a_al 0 461)) (s_aload_n (q := 0) (i := 0) rfl (by decide +kernel)) <|
  allq qX12_press 461 (.inr (.inl (153, 1, 12))) (okV (y := yX12_show) kw_1664 kw_118 rfl rfl (by decide +kernel) kw_1663 kw_97 kw_1661) <|
  allq qX12_press 464 (.inl (a_is 12 466)) (s_istore (i := 12) (by decide +kernel) (by decide)) <|
  allq qX12_press 466 (.inl (a_ic 0 467)) (s_iconst (n := 0) (v := 0) rfl (by decide +kernel)) <|
  allq qX12_press 467 (.inl (a_is 13 469)) (s_istore (i := 13) (by decide +kernel) (by decide)) <|
  allq qX12_press 469 (.inl (a_il 13 471)) (s_iload (i := 13) (by decide +kernel)) <|
  allq qX12_press 471 (.inl (a_ic 12 473)) (s_bipush (n := 12) (v := 12) rfl (by decide +kernel)) <|
  allq qX12_press 473 (.inl (o_icmp_ge 501 476)) (s_icmp_ge (off := 28) (by decide +kernel) (by decide)) <|
  allq qX12_press 476 (.inl (a_il 12 478)) (s_iload (i := 12) (by decide +kernel)) <|
  allq qX12_press 478 (.inl (o_if_lt 501 481)) (s_if_lt (off := 23) (by decide +kernel) (by decide)) <|
  allq qX12_press 481 (.inl (a_al 0 482)) (s_aload_n (q := 0) (i := 0) rfl (by decide +kernel)) <|
  allq qX12_press 482 (.inl (a_get 11 63 485)) (gX12 (f0 := 63) (by decide) kw_1248 (by decide +kernel)) <|
  allq qX12_press 485 (.inl (a_il 13 487)) (s_iload (i := 13) (by decide +kernel)) <|
  allq qX12_press 487 (.inl (a_al 0 488)) (s_aload_n (q := 0) (i := 0) rfl (by decide +kernel)) <|
  allq qX12_press 488 (.inl (a_get 11 62 491)) (gX12 (f0 := 62) (by decide) kw_1247 (by decide +kernel)) <|
  allq qX12_press 491 (.inl (a_il 13 493)) (s_iload (i := 13) (by decide +kernel)) <|
  allq qX12_press 493 (.inl (a_iald 494)) (s_iald (by decide +kernel)) <|
  allq qX12_press 494 (.inl (a_iast 495)) (s_iast (by decide +kernel)) <|
  allq qX12_press 495 (.inl (a_inc 13 1 498)) (s_iinc (i := 13) (n := 1) (n2 := 1) rfl (by decide +kernel) (by decide)) <|
  allq qX12_press 498 (.inl (a_go 469)) (s_goto (off := (-29)) (by decide +kernel) (by decide)) <|
  allq qX12_press 501 (.inl (a_il 12 503)) (s_iload (i := 12) (by decide +kernel)) <|
  allq qX12_press 503 (.inr (.inr 1)) (Or.inr (Or.inl ⟨rfl, rfl, by decide +kernel⟩)) <|
  alln
theorem kX12_press : ∀ q ∈ tX12_press, qX12_press q := alla kX12_press_0 (alla kX12_press_1 (alla kX12_press_2 (alla kX12_press_3 (alla kX12_press_4 (alla kX12_press_5 kX12_press_6)))))
abbrev qX12_about : Nat × aI → Prop := OkQ RX12 "about" cX12_about 2 (some .int)
set_option maxRecDepth 20000 in
theorem kX12_about_0 : ∀ q ∈ tX12_about_0, qX12_about q :=
  allq qX12_about 0 (.inl (a_il 1 1)) (s_iload_n (q := 1) (i := 1) rfl (by decide +kernel)) <|
  allq qX12_about 1 (.inl (o_if_lt 10 4)) (s_if_lt (off := 9) (by decide +kernel) (by decide)) <|
  allq qX12_about 4 (.inl (a_il 1 5)) (s_iload_n (q := 1) (i := 1) rfl (by decide +kernel)) <|
  allq qX12_about 5 (.inl (a_ic 11 7)) (s_bipush (n := 11) (v := 11) rfl (by decide +kernel)) <|
  allq qX12_about 7 (.inl (o_icmp_le 14 10)) (s_icmp_le (off := 7) (by decide +kernel) (by decide)) <|
  allq qX12_about 10 (.inl (a_ic (-1) 11)) (s_iconst (n := (-1)) (v := (-1)) rfl (by decide +kernel)) <|
  allq qX12_about 11 (.inl (a_go 20)) (s_goto (off := 9) (by decide +kernel) (by decide)) <|
  allq qX12_about 14 (.inl (a_al 0 15)) (s_aload_n (q := 0) (i := 0) rfl (by decide +kernel)) <|
  allq qX12_about 15 (.inl (a_get 11 63 18)) (gX12 (f0 := 63) (by decide) kw_1248 (by decide +kernel)) <|
  allq qX12_about 18 (.inl (a_il 1 19)) (s_iload_n (q := 1) (i := 1) rfl (by decide +kernel)) <|
  allq qX12_about 19 (.inl (a_iald 20)) (s_iald (by decide +kernel)) <|
  allq qX12_about 20 (.inr (.inr 1)) (Or.inr (Or.inl ⟨rfl, rfl, by decide +kernel⟩)) <|
  alln
theorem kX12_about : ∀ q ∈ tX12_about, qX12_about q := kX12_about_0
abbrev qX12_rotated : Nat × aI → Prop := OkQ RX12 "rotated" cX12_rotated 3 (some .long)
set_option maxRecDepth 20000 in
theorem kX12_rotated_0 : ∀ q ∈ tX12_rotated_0, qX12_rotated q :=
  allq qX12_rotated 0 (.inl (a_ll 0 1)) (s_lload_n (q := 0) (i := 0) rfl (by decide +kernel)) <|
  allq qX12_rotated 1 (.inl (a_il 2 2)) (s_iload_n (q := 2) (i := 2) rfl (by decide +kernel)) <|
  allq qX12_rotated 2 (.inl (o_lshl 3)) (s_lshl (by decide +kernel)) <|
  allq qX12_rotated 3 (.inl (a_ll 0 4)) (s_lload_n (q := 0) (i := 0) rfl (by decide +kernel)) <|
  allq qX12_rotated 4 (.inl (a_ic 64 6)) (s_bipush (n := 64) (v := 64) rfl (by decide +kernel)) <|
  allq qX12_rotated 6 (.inl (a_il 2 7)) (s_iload_n (q := 2) (i := 2) rfl (by decide +kernel)) <|
  allq qX12_rotated 7 (.inl (o_isub 8)) (s_isub (by decide +kernel)) <|
  allq qX12_rotated 8 (.inl (o_lushr 9)) (s_lushr (by decide +kernel)) <|
  allq qX12_rotated 9 (.inl (o_lor 10)) (s_lor (by decide +kernel)) <|
  allq qX12_rotated 10 (.inr (.inr 2)) (Or.inr (Or.inr (Or.inl ⟨rfl, rfl, by decide +kernel⟩))) <|
  alln
theorem kX12_rotated : ∀ q ∈ tX12_rotated, qX12_rotated q := kX12_rotated_0
abbrev qX12_wordAt : Nat × aI → Prop := OkQ RX12 "wordAt" cX12_wordAt 6 (some .long)
set_option maxRecDepth 20000 in
theorem kX12_wordAt_0 : ∀ q ∈ tX12_wordAt_0, qX12_wordAt q :=
  allq qX12_wordAt 0 (.inl (a_lc 0 1)) (s_lconst (n := 0) rfl (by decide +kernel)) <|
  allq qX12_wordAt 1 (.inl (a_lst 3 2)) (s_lstore_n (q := 3) (i := 3) rfl (by decide +kernel) (by decide)) <|
  allq qX12_wordAt 2 (.inl (a_il 2 3)) (s_iload_n (q := 2) (i := 2) rfl (by decide +kernel)) <|
  allq qX12_wordAt 3 (.inl (a_ic 1 4)) (s_iconst (n := 1) (v := 1) rfl (by decide +kernel)) <|
  allq qX12_wordAt 4 (.inl (o_isub 5)) (s_isub (by decide +kernel)) <|
  allq qX12_wordAt 5 (.inl (a_is 5 7)) (s_istore (i := 5) (by decide +kernel) (by decide)) <|
  allq qX12_wordAt 7 (.inl (a_il 5 9)) (s_iload (i := 5) (by decide +kernel)) <|
  allq qX12_wordAt 9 (.inl (o_if_lt 34 12)) (s_if_lt (off := 25) (by decide +kernel) (by decide)) <|
  allq qX12_wordAt 12 (.inl (a_ll 3 13)) (s_lload_n (q := 3) (i := 3) rfl (by decide +kernel)) <|
  allq qX12_wordAt 13 (.inl (a_ic 8 15)) (s_bipush (n := 8) (v := 8) rfl (by decide +kernel)) <|
  allq qX12_wordAt 15 (.inl (o_lshl 16)) (s_lshl (by decide +kernel)) <|
  allq qX12_wordAt 16 (.inl (a_al 0 17)) (s_aload_n (q := 0) (i := 0) rfl (by decide +kernel)) <|
  allq qX12_wordAt 17 (.inl (a_get 11 0 20)) (gX12 (f0 := 0) (by decide) kw_1185 (by decide +kernel)) <|
  allq qX12_wordAt 20 (.inl (a_il 1 21)) (s_iload_n (q := 1) (i := 1) rfl (by decide +kernel)) <|
  allq qX12_wordAt 21 (.inl (a_il 5 23)) (s_iload (i := 5) (by decide +kernel)) <|
  allq qX12_wordAt 23 (.inl (o_iadd 24)) (s_iadd (by decide +kernel)) <|
  allq qX12_wordAt 24 (.inl (a_iald 25)) (s_iald (by decide +kernel)) <|
  allq qX12_wordAt 25 (.inl (a_i2l 26)) (s_i2l (by decide +kernel)) <|
  allq qX12_wordAt 26 (.inl (o_lor 27)) (s_lor (by decide +kernel)) <|
  allq qX12_wordAt 27 (.inl (a_lst 3 28)) (s_lstore_n (q := 3) (i := 3) rfl (by decide +kernel) (by decide)) <|
  allq qX12_wordAt 28 (.inl (a_inc 5 (-1) 31)) (s_iinc (i := 5) (n := (-1)) (n2 := (-1)) rfl (by decide +kernel) (by decide)) <|
  allq qX12_wordAt 31 (.inl (a_go 7)) (s_goto (off := (-24)) (by decide +kernel) (by decide)) <|
  allq qX12_wordAt 34 (.inl (a_ll 3 35)) (s_lload_n (q := 3) (i := 3) rfl (by decide +kernel)) <|
  allq qX12_wordAt 35 (.inr (.inr 2)) (Or.inr (Or.inr (Or.inl ⟨rfl, rfl, by decide +kernel⟩))) <|
  alln
theorem kX12_wordAt : ∀ q ∈ tX12_wordAt, qX12_wordAt q := kX12_wordAt_0
abbrev qX12_sum : Nat × aI → Prop := OkQ RX12 "sum" cX12_sum 15 (some .long)
set_option maxRecDepth 20000 in
theorem kX12_sum_0 : ∀ q ∈ tX12_sum_0, qX12_sum q :=
  allq qX12_sum 0 (.inl (a_lc (-7046029288634856825) 3)) (s_ldc2 kw_1649 (by decide +kernel)) <|
  allq qX12_sum 3 (.inl (a_lst 1 4)) (s_lstore_n (q := 1) (i := 1) rfl (by decide +kernel) (by decide)) <|
  allq qX12_sum 4 (.inl (a_lc (-4417276706812531889) 7)) (s_ldc2 kw_1650 (by decide +kernel)) <|
  allq qX12_sum 7 (.inl (a_lst 3 8)) (s_lstore_n (q := 3) (i := 3) rfl (by decide +kernel) (by decide)) <|
  allq qX12_sum 8 (.inl (a_lc 1609587929392839161 11)) (s_ldc2 kw_1651 (by decide +kernel)) <|
  allq qX12_sum 11 (.inl (a_lst 5 13)) (s_lstore (i := 5) (by decide +kernel) (by decide)) <|
  allq qX12_sum 13 (.inl (a_lc (-8796714831421723037) 16)) (s_ldc2 kw_1652 (by decide +kernel)) <|
  allq qX12_sum 16 (.inl (a_lst 7 18)) (s_lstore (i := 7) (by decide +kernel) (by decide)) <|
  allq qX12_sum 18 (.inl (a_lc 2870177450012600261 21)) (s_ldc2 kw_1653 (by decide +kernel)) <|
  allq qX12_sum 21 (.inl (a_lst 9 23)) (s_lstore (i := 9) (by decide +kernel) (by decide)) <|
  allq qX12_sum 23 (.inl (a_ll 9 25)) (s_lload (i := 9) (by decide +kernel)) <|
  allq qX12_sum 25 (.inl (a_lst 11 27)) (s_lstore (i := 11) (by decide +kernel) (by decide)) <|
  allq qX12_sum 27 (.inl (a_ic 0 28)) (s_iconst (n := 0) (v := 0) rfl (by decide +kernel)) <|
  allq qX12_sum 28 (.inl (a_is 13 30)) (s_istore (i := 13) (by decide +kernel) (by decide)) <|
  allq qX12_sum 30 (.inl (a_al 0 31)) (s_aload_n (q := 0) (i := 0) rfl (by decide +kernel)) <|
  allq qX12_sum 31 (.inl (a_get 11 1 34)) (gX12 (f0 := 1) (by decide) kw_1186 (by decide +kernel)) <|
  allq qX12_sum 34 (.inl (a_ic 32 36)) (s_bipush (n := 32) (v := 32) rfl (by decide +kernel)) <|
  allq qX12_sum 36 (.inl (o_icmp_lt 225 39)) (s_icmp_lt (off := 189) (by decide +kernel) (by decide)) <|
  allq qX12_sum 39 (.inl (a_al 0 40)) (s_aload_n (q := 0) (i := 0) rfl (by decide +kernel)) <|
  allq qX12_sum 40 (.inl (a_get 11 59 43)) (gX12 (f0 := 59) (by decide) kw_1244 (by decide +kernel)) <|
  allq qX12_sum 43 (.inl (a_ic 0 44)) (s_iconst (n := 0) (v := 0) rfl (by decide +kernel)) <|
  allq qX12_sum 44 (.inl (a_ll 1 45)) (s_lload_n (q := 1) (i := 1) rfl (by decide +kernel)) <|
  allq qX12_sum 45 (.inl (a_ll 3 46)) (s_lload_n (q := 3) (i := 3) rfl (by decide +kernel)) <|
  allq qX12_sum 46 (.inl (o_ladd 47)) (s_ladd (by decide +kernel)) <|
  allq qX12_sum 47 (.inl (a_last 48)) (s_last (by decide +kernel)) <|
  allq qX12_sum 48 (.inl (a_al 0 49)) (s_aload_n (q := 0) (i := 0) rfl (by decide +kernel)) <|
  allq qX12_sum 49 (.inl (a_get 11 59 52)) (gX12 (f0 := 59) (by decide) kw_1244 (by decide +kernel)) <|
  allq qX12_sum 52 (.inl (a_ic 1 53)) (s_iconst (n := 1) (v := 1) rfl (by decide +kernel)) <|
  allq qX12_sum 53 (.inl (a_ll 3 54)) (s_lload_n (q := 3) (i := 3) rfl (by decide +kernel)) <|
  allq qX12_sum 54 (.inl (a_last 55)) (s_last (by decide +kernel)) <|
  allq qX12_sum 55 (.inl (a_al 0 56)) (s_aload_n (q := 0) (i := 0) rfl (by decide +kernel)) <|
  allq qX12_sum 56 (.inl (a_get 11 59 59)) (gX12 (f0 := 59) (by decide) kw_1244 (by decide +kernel)) <|
  allq qX12_sum 59 (.inl (a_ic 2 60)) (s_iconst (n := 2) (v := 2) rfl (by decide +kernel)) <|
  allq qX12_sum 60 (.inl (a_lc 0 61)) (s_lconst (n := 0) rfl (by decide +kernel)) <|
  allq qX12_sum 61 (.inl (a_last 62)) (s_last (by decide +kernel)) <|
  allq qX12_sum 62 (.inl (a_al 0 63)) (s_aload_n (q := 0) (i := 0) rfl (by decide +kernel)) <|
  allq qX12_sum 63 (.inl (a_get 11 59 66)) (gX12 (f0 := 59) (by decide) kw_1244 (by decide +kernel)) <|
  allq qX12_sum 66 (.inl (a_ic 3 67)) (s_iconst (n := 3) (v := 3) rfl (by decide +kernel)) <|
  allq qX12_sum 67 (.inl (a_lc 0 68)) (s_lconst (n := 0) rfl (by decide +kernel)) <|
  allq qX12_sum 68 (.inl (a_ll 1 69)) (s_lload_n (q := 1) (i := 1) rfl (by decide +kernel)) <|
  alln
set_option maxRecDepth 20000 in
theorem kX12_sum_1 : ∀ q ∈ tX12_sum_1, qX12_sum q :=
  allq qX12_sum 69 (.inl (o_lsub 70)) (s_lsub (by decide +kernel)) <|
  allq qX12_sum 70 (.inl (a_last 71)) (s_last (by decide +kernel)) <|
  allq qX12_sum 71 (.inl (a_al 0 72)) (s_aload_n (q := 0) (i := 0) rfl (by decide +kernel)) <|
  allq qX12_sum 72 (.inl (a_get 11 1 75)) (gX12 (f0 := 1) (by decide) kw_1186 (by decide +kernel)) <|
  allq qX12_sum 75 (.inl (a_il 13 77)) (s_iload (i := 13) (by decide +kernel)) <|
  allq qX12_sum 77 (.inl (o_isub 78)) (s_isub (by decide +kernel)) <|
  allq qX12_sum 78 (.inl (a_ic 32 80)) (s_bipush (n := 32) (v := 32) rfl (by decide +kernel)) <|
  allq qX12_sum 80 (.inl (o_icmp_lt 136 83)) (s_icmp_lt (off := 56) (by decide +kernel) (by decide)) <|
  allq qX12_sum 83 (.inl (a_ic 0 84)) (s_iconst (n := 0) (v := 0) rfl (by decide +kernel)) <|
  allq qX12_sum 84 (.inl (a_is 14 86)) (s_istore (i := 14) (by decide +kernel) (by decide)) <|
  allq qX12_sum 86 (.inl (a_il 14 88)) (s_iload (i := 14) (by decide +kernel)) <|
  allq qX12_sum 88 (.inl (a_ic 4 89)) (s_iconst (n := 4) (v := 4) rfl (by decide +kernel)) <|
  allq qX12_sum 89 (.inl (o_icmp_ge 133 92)) (s_icmp_ge (off := 44) (by decide +kernel) (by decide)) <|
  allq qX12_sum 92 (.inl (a_al 0 93)) (s_aload_n (q := 0) (i := 0) rfl (by decide +kernel)) <|
  allq qX12_sum 93 (.inl (a_get 11 59 96)) (gX12 (f0 := 59) (by decide) kw_1244 (by decide +kernel)) <|
  allq qX12_sum 96 (.inl (a_il 14 98)) (s_iload (i := 14) (by decide +kernel)) <|
  allq qX12_sum 98 (.inl (a_al 0 99)) (s_aload_n (q := 0) (i := 0) rfl (by decide +kernel)) <|
  allq qX12_sum 99 (.inl (a_get 11 59 102)) (gX12 (f0 := 59) (by decide) kw_1244 (by decide +kernel)) <|
  allq qX12_sum 102 (.inl (a_il 14 104)) (s_iload (i := 14) (by decide +kernel)) <|
  allq qX12_sum 104 (.inl (a_lald 105)) (s_lald (by decide +kernel)) <|
  allq qX12_sum 105 (.inl (a_al 0 106)) (s_aload_n (q := 0) (i := 0) rfl (by decide +kernel)) <|
  allq qX12_sum 106 (.inl (a_il 13 108)) (s_iload (i := 13) (by decide +kernel)) <|
  allq qX12_sum 108 (.inl (a_ic 8 110)) (s_bipush (n := 8) (v := 8) rfl (by decide +kernel)) <|
  allq qX12_sum 110 (.inr (.inl (211, 3, 12))) (okV (y := yX12_wordAt) kw_1657 kw_118 rfl rfl (by decide +kernel) kw_1656 kw_96 kw_1654) <|
  allq qX12_sum 113 (.inl (a_ll 3 114)) (s_lload_n (q := 3) (i := 3) rfl (by decide +kernel)) <|
  allq qX12_sum 114 (.inl (o_lmul 115)) (s_lmul (by decide +kernel)) <|
  allq qX12_sum 115 (.inl (o_ladd 116)) (s_ladd (by decide +kernel)) <|
  allq qX12_sum 116 (.inl (a_ic 31 118)) (s_bipush (n := 31) (v := 31) rfl (by decide +kernel)) <|
  allq qX12_sum 118 (.inr (.inl (210, 2, 0))) (okS (y := yX12_rotated) kw_1660 kw_118 rfl (by decide +kernel) kw_1659 (Or.inl kw_1658)) <|
  allq qX12_sum 121 (.inl (a_ll 1 122)) (s_lload_n (q := 1) (i := 1) rfl (by decide +kernel)) <|
  allq qX12_sum 122 (.inl (o_lmul 123)) (s_lmul (by decide +kernel)) <|
  allq qX12_sum 123 (.inl (a_last 124)) (s_last (by decide +kernel)) <|
  allq qX12_sum 124 (.inl (a_inc 13 8 127)) (s_iinc (i := 13) (n := 8) (n2 := 8) rfl (by decide +kernel) (by decide)) <|
  allq qX12_sum 127 (.inl (a_inc 14 1 130)) (s_iinc (i := 14) (n := 1) (n2 := 1) rfl (by decide +kernel) (by decide)) <|
  allq qX12_sum 130 (.inl (a_go 86)) (s_goto (off := (-44)) (by decide +kernel) (by decide)) <|
  allq qX12_sum 133 (.inl (a_go 71)) (s_goto (off := (-62)) (by decide +kernel) (by decide)) <|
  allq qX12_sum 136 (.inl (a_al 0 137)) (s_aload_n (q := 0) (i := 0) rfl (by decide +kernel)) <|
  allq qX12_sum 137 (.inl (a_get 11 59 140)) (gX12 (f0 := 59) (by decide) kw_1244 (by decide +kernel)) <|
  allq qX12_sum 140 (.inl (a_ic 0 141)) (s_iconst (n := 0) (v := 0) rfl (by decide +kernel)) <|
  allq qX12_sum 141 (.inl (a_lald 142)) (s_lald (by decide +kernel)) <|
  alln
set_option maxRecDepth 20000 in
theorem kX12_sum_2 : ∀ q ∈ tX12_sum_2, qX12_sum q :=
  allq qX12_sum 142 (.inl (a_ic 1 143)) (s_iconst (n := 1) (v := 1) rfl (by decide +kernel)) <|
  allq qX12_sum 143 (.inr (.inl (210, 2, 0))) (okS (y := yX12_rotated) kw_1660 kw_118 rfl (by decide +kernel) kw_1659 (Or.inl kw_1658)) <|
  allq qX12_sum 146 (.inl (a_al 0 147)) (s_aload_n (q := 0) (i := 0) rfl (by decide +kernel)) <|
  allq qX12_sum 147 (.inl (a_get 11 59 150)) (gX12 (f0 := 59) (by decide) kw_1244 (by decide +kernel)) <|
  allq qX12_sum 150 (.inl (a_ic 1 151)) (s_iconst (n := 1) (v := 1) rfl (by decide +kernel)) <|
  allq qX12_sum 151 (.inl (a_lald 152)) (s_lald (by decide +kernel)) <|
  allq qX12_sum 152 (.inl (a_ic 7 154)) (s_bipush (n := 7) (v := 7) rfl (by decide +kernel)) <|
  allq qX12_sum 154 (.inr (.inl (210, 2, 0))) (okS (y := yX12_rotated) kw_1660 kw_118 rfl (by decide +kernel) kw_1659 (Or.inl kw_1658)) <|
  allq qX12_sum 157 (.inl (o_ladd 158)) (s_ladd (by decide +kernel)) <|
  allq qX12_sum 158 (.inl (a_al 0 159)) (s_aload_n (q := 0) (i := 0) rfl (by decide +kernel)) <|
  allq qX12_sum 159 (.inl (a_get 11 59 162)) (gX12 (f0 := 59) (by decide) kw_1244 (by decide +kernel)) <|
  allq qX12_sum 162 (.inl (a_ic 2 163)) (s_iconst (n := 2) (v := 2) rfl (by decide +kernel)) <|
  allq qX12_sum 163 (.inl (a_lald 164)) (s_lald (by decide +kernel)) <|
  allq qX12_sum 164 (.inl (a_ic 12 166)) (s_bipush (n := 12) (v := 12) rfl (by decide +kernel)) <|
  allq qX12_sum 166 (.inr (.inl (210, 2, 0))) (okS (y := yX12_rotated) kw_1660 kw_118 rfl (by decide +kernel) kw_1659 (Or.inl kw_1658)) <|
  allq qX12_sum 169 (.inl (o_ladd 170)) (s_ladd (by decide +kernel)) <|
  allq qX12_sum 170 (.inl (a_al 0 171)) (s_aload_n (q := 0) (i := 0) rfl (by decide +kernel)) <|
  allq qX12_sum 171 (.inl (a_get 11 59 174)) (gX12 (f0 := 59) (by decide) kw_1244 (by decide +kernel)) <|
  allq qX12_sum 174 (.inl (a_ic 3 175)) (s_iconst (n := 3) (v := 3) rfl (by decide +kernel)) <|
  allq qX12_sum 175 (.inl (a_lald 176)) (s_lald (by decide +kernel)) <|
  allq qX12_sum 176 (.inl (a_ic 18 178)) (s_bipush (n := 18) (v := 18) rfl (by decide +kernel)) <|
  allq qX12_sum 178 (.inr (.inl (210, 2, 0))) (okS (y := yX12_rotated) kw_1660 kw_118 rfl (by decide +kernel) kw_1659 (Or.inl kw_1658)) <|
  allq qX12_sum 181 (.inl (o_ladd 182)) (s_ladd (by decide +kernel)) <|
  allq qX12_sum 182 (.inl (a_lst 11 184)) (s_lstore (i := 11) (by decide +kernel) (by decide)) <|
  allq qX12_sum 184 (.inl (a_ic 0 185)) (s_iconst (n := 0) (v := 0) rfl (by decide +kernel)) <|
  allq qX12_sum 185 (.inl (a_is 14 187)) (s_istore (i := 14) (by decide +kernel) (by decide)) <|
  allq qX12_sum 187 (.inl (a_il 14 189)) (s_iload (i := 14) (by decide +kernel)) <|
  allq qX12_sum 189 (.inl (a_ic 4 190)) (s_iconst (n := 4) (v := 4) rfl (by decide +kernel)) <|
  allq qX12_sum 190 (.inl (o_icmp_ge 225 193)) (s_icmp_ge (off := 35) (by decide +kernel) (by decide)) <|
  allq qX12_sum 193 (.inl (a_ll 11 195)) (s_lload (i := 11) (by decide +kernel)) <|
  allq qX12_sum 195 (.inl (a_al 0 196)) (s_aload_n (q := 0) (i := 0) rfl (by decide +kernel)) <|
  allq qX12_sum 196 (.inl (a_get 11 59 199)) (gX12 (f0 := 59) (by decide) kw_1244 (by decide +kernel)) <|
  allq qX12_sum 199 (.inl (a_il 14 201)) (s_iload (i := 14) (by decide +kernel)) <|
  allq qX12_sum 201 (.inl (a_lald 202)) (s_lald (by decide +kernel)) <|
  allq qX12_sum 202 (.inl (a_ll 3 203)) (s_lload_n (q := 3) (i := 3) rfl (by decide +kernel)) <|
  allq qX12_sum 203 (.inl (o_lmul 204)) (s_lmul (by decide +kernel)) <|
  allq qX12_sum 204 (.inl (a_ic 31 206)) (s_bipush (n := 31) (v := 31) rfl (by decide +kernel)) <|
  allq qX12_sum 206 (.inr (.inl (210, 2, 0))) (okS (y := yX12_rotated) kw_1660 kw_118 rfl (by decide +kernel) kw_1659 (Or.inl kw_1658)) <|
  allq qX12_sum 209 (.inl (a_ll 1 210)) (s_lload_n (q := 1) (i := 1) rfl (by decide +kernel)) <|
  allq qX12_sum 210 (.inl (o_lmul 211)) (s_lmul (by decide +kernel)) <|
  alln
set_option maxRecDepth 20000 in
theorem kX12_sum_3 : ∀ q ∈ tX12_sum_3, qX12_sum q :=
  allq qX12_sum 211 (.inl (o_lxor 212)) (s_lxor (by decide +kernel)) <|
  allq qX12_sum 212 (.inl (a_ll 1 213)) (s_lload_n (q := 1) (i := 1) rfl (by decide +kernel)) <|
  allq qX12_sum 213 (.inl (o_lmul 214)) (s_lmul (by decide +kernel)) <|
  allq qX12_sum 214 (.inl (a_ll 7 216)) (s_lload (i := 7) (by decide +kernel)) <|
  allq qX12_sum 216 (.inl (o_ladd 217)) (s_ladd (by decide +kernel)) <|
  allq qX12_sum 217 (.inl (a_lst 11 219)) (s_lstore (i := 11) (by decide +kernel) (by decide)) <|
  allq qX12_sum 219 (.inl (a_inc 14 1 222)) (s_iinc (i := 14) (n := 1) (n2 := 1) rfl (by decide +kernel) (by decide)) <|
  allq qX12_sum 222 (.inl (a_go 187)) (s_goto (off := (-35)) (by decide +kernel) (by decide)) <|
  allq qX12_sum 225 (.inl (a_ll 11 227)) (s_lload (i := 11) (by decide +kernel)) <|
  allq qX12_sum 227 (.inl (a_al 0 228)) (s_aload_n (q := 0) (i := 0) rfl (by decide +kernel)) <|
  allq qX12_sum 228 (.inl (a_get 11 1 231)) (gX12 (f0 := 1) (by decide) kw_1186 (by decide +kernel)) <|
  allq qX12_sum 231 (.inl (a_i2l 232)) (s_i2l (by decide +kernel)) <|
  allq qX12_sum 232 (.inl (o_ladd 233)) (s_ladd (by decide +kernel)) <|
  allq qX12_sum 233 (.inl (a_lst 11 235)) (s_lstore (i := 11) (by decide +kernel) (by decide)) <|
  allq qX12_sum 235 (.inl (a_al 0 236)) (s_aload_n (q := 0) (i := 0) rfl (by decide +kernel)) <|
  allq qX12_sum 236 (.inl (a_get 11 1 239)) (gX12 (f0 := 1) (by decide) kw_1186 (by decide +kernel)) <|
  allq qX12_sum 239 (.inl (a_il 13 241)) (s_iload (i := 13) (by decide +kernel)) <|
  allq qX12_sum 241 (.inl (o_isub 242)) (s_isub (by decide +kernel)) <|
  allq qX12_sum 242 (.inl (a_ic 8 244)) (s_bipush (n := 8) (v := 8) rfl (by decide +kernel)) <|
  allq qX12_sum 244 (.inl (o_icmp_lt 285 247)) (s_icmp_lt (off := 41) (by decide +kernel) (by decide)) <|
  allq qX12_sum 247 (.inl (a_ll 11 249)) (s_lload (i := 11) (by decide +kernel)) <|
  allq qX12_sum 249 (.inl (a_al 0 250)) (s_aload_n (q := 0) (i := 0) rfl (by decide +kernel)) <|
  allq qX12_sum 250 (.inl (a_il 13 252)) (s_iload (i := 13) (by decide +kernel)) <|
  allq qX12_sum 252 (.inl (a_ic 8 254)) (s_bipush (n := 8) (v := 8) rfl (by decide +kernel)) <|
  allq qX12_sum 254 (.inr (.inl (211, 3, 12))) (okV (y := yX12_wordAt) kw_1657 kw_118 rfl rfl (by decide +kernel) kw_1656 kw_96 kw_1654) <|
  allq qX12_sum 257 (.inl (a_ll 3 258)) (s_lload_n (q := 3) (i := 3) rfl (by decide +kernel)) <|
  allq qX12_sum 258 (.inl (o_lmul 259)) (s_lmul (by decide +kernel)) <|
  allq qX12_sum 259 (.inl (a_ic 31 261)) (s_bipush (n := 31) (v := 31) rfl (by decide +kernel)) <|
  allq qX12_sum 261 (.inr (.inl (210, 2, 0))) (okS (y := yX12_rotated) kw_1660 kw_118 rfl (by decide +kernel) kw_1659 (Or.inl kw_1658)) <|
  allq qX12_sum 264 (.inl (a_ll 1 265)) (s_lload_n (q := 1) (i := 1) rfl (by decide +kernel)) <|
  allq qX12_sum 265 (.inl (o_lmul 266)) (s_lmul (by decide +kernel)) <|
  allq qX12_sum 266 (.inl (o_lxor 267)) (s_lxor (by decide +kernel)) <|
  allq qX12_sum 267 (.inl (a_ic 27 269)) (s_bipush (n := 27) (v := 27) rfl (by decide +kernel)) <|
  allq qX12_sum 269 (.inr (.inl (210, 2, 0))) (okS (y := yX12_rotated) kw_1660 kw_118 rfl (by decide +kernel) kw_1659 (Or.inl kw_1658)) <|
  allq qX12_sum 272 (.inl (a_ll 1 273)) (s_lload_n (q := 1) (i := 1) rfl (by decide +kernel)) <|
  allq qX12_sum 273 (.inl (o_lmul 274)) (s_lmul (by decide +kernel)) <|
  allq qX12_sum 274 (.inl (a_ll 7 276)) (s_lload (i := 7) (by decide +kernel)) <|
  allq qX12_sum 276 (.inl (o_ladd 277)) (s_ladd (by decide +kernel)) <|
  allq qX12_sum 277 (.inl (a_lst 11 279)) (s_lstore (i := 11) (by decide +kernel) (by decide)) <|
  allq qX12_sum 279 (.inl (a_inc 13 8 282)) (s_iinc (i := 13) (n := 8) (n2 := 8) rfl (by decide +kernel) (by decide)) <|
  alln
set_option maxRecDepth 20000 in
theorem kX12_sum_4 : ∀ q ∈ tX12_sum_4, qX12_sum q :=
  allq qX12_sum 282 (.inl (a_go 235)) (s_goto (off := (-47)) (by decide +kernel) (by decide)) <|
  allq qX12_sum 285 (.inl (a_al 0 286)) (s_aload_n (q := 0) (i := 0) rfl (by decide +kernel)) <|
  allq qX12_sum 286 (.inl (a_get 11 1 289)) (gX12 (f0 := 1) (by decide) kw_1186 (by decide +kernel)) <|
  allq qX12_sum 289 (.inl (a_il 13 291)) (s_iload (i := 13) (by decide +kernel)) <|
  allq qX12_sum 291 (.inl (o_isub 292)) (s_isub (by decide +kernel)) <|
  allq qX12_sum 292 (.inl (a_ic 4 293)) (s_iconst (n := 4) (v := 4) rfl (by decide +kernel)) <|
  allq qX12_sum 293 (.inl (o_icmp_lt 323 296)) (s_icmp_lt (off := 30) (by decide +kernel) (by decide)) <|
  allq qX12_sum 296 (.inl (a_ll 11 298)) (s_lload (i := 11) (by decide +kernel)) <|
  allq qX12_sum 298 (.inl (a_al 0 299)) (s_aload_n (q := 0) (i := 0) rfl (by decide +kernel)) <|
  allq qX12_sum 299 (.inl (a_il 13 301)) (s_iload (i := 13) (by decide +kernel)) <|
  allq qX12_sum 301 (.inl (a_ic 4 302)) (s_iconst (n := 4) (v := 4) rfl (by decide +kernel)) <|
  allq qX12_sum 302 (.inr (.inl (211, 3, 12))) (okV (y := yX12_wordAt) kw_1657 kw_118 rfl rfl (by decide +kernel) kw_1656 kw_96 kw_1654) <|
  allq qX12_sum 305 (.inl (a_ll 1 306)) (s_lload_n (q := 1) (i := 1) rfl (by decide +kernel)) <|
  allq qX12_sum 306 (.inl (o_lmul 307)) (s_lmul (by decide +kernel)) <|
  allq qX12_sum 307 (.inl (o_lxor 308)) (s_lxor (by decide +kernel)) <|
  allq qX12_sum 308 (.inl (a_ic 23 310)) (s_bipush (n := 23) (v := 23) rfl (by decide +kernel)) <|
  allq qX12_sum 310 (.inr (.inl (210, 2, 0))) (okS (y := yX12_rotated) kw_1660 kw_118 rfl (by decide +kernel) kw_1659 (Or.inl kw_1658)) <|
  allq qX12_sum 313 (.inl (a_ll 3 314)) (s_lload_n (q := 3) (i := 3) rfl (by decide +kernel)) <|
  allq qX12_sum 314 (.inl (o_lmul 315)) (s_lmul (by decide +kernel)) <|
  allq qX12_sum 315 (.inl (a_ll 5 317)) (s_lload (i := 5) (by decide +kernel)) <|
  allq qX12_sum 317 (.inl (o_ladd 318)) (s_ladd (by decide +kernel)) <|
  allq qX12_sum 318 (.inl (a_lst 11 320)) (s_lstore (i := 11) (by decide +kernel) (by decide)) <|
  allq qX12_sum 320 (.inl (a_inc 13 4 323)) (s_iinc (i := 13) (n := 4) (n2 := 4) rfl (by decide +kernel) (by decide)) <|
  allq qX12_sum 323 (.inl (a_il 13 325)) (s_iload (i := 13) (by decide +kernel)) <|
  allq qX12_sum 325 (.inl (a_al 0 326)) (s_aload_n (q := 0) (i := 0) rfl (by decide +kernel)) <|
  allq qX12_sum 326 (.inl (a_get 11 1 329)) (gX12 (f0 := 1) (by decide) kw_1186 (by decide +kernel)) <|
  allq qX12_sum 329 (.inl (o_icmp_ge 361 332)) (s_icmp_ge (off := 32) (by decide +kernel) (by decide)) <|
  allq qX12_sum 332 (.inl (a_ll 11 334)) (s_lload (i := 11) (by decide +kernel)) <|
  allq qX12_sum 334 (.inl (a_al 0 335)) (s_aload_n (q := 0) (i := 0) rfl (by decide +kernel)) <|
  allq qX12_sum 335 (.inl (a_get 11 0 338)) (gX12 (f0 := 0) (by decide) kw_1185 (by decide +kernel)) <|
  allq qX12_sum 338 (.inl (a_il 13 340)) (s_iload (i := 13) (by decide +kernel)) <|
  allq qX12_sum 340 (.inl (a_iald 341)) (s_iald (by decide +kernel)) <|
  allq qX12_sum 341 (.inl (a_i2l 342)) (s_i2l (by decide +kernel)) <|
  allq qX12_sum 342 (.inl (a_ll 9 344)) (s_lload (i := 9) (by decide +kernel)) <|
  allq qX12_sum 344 (.inl (o_lmul 345)) (s_lmul (by decide +kernel)) <|
  allq qX12_sum 345 (.inl (o_lxor 346)) (s_lxor (by decide +kernel)) <|
  allq qX12_sum 346 (.inl (a_ic 11 348)) (s_bipush (n := 11) (v := 11) rfl (by decide +kernel)) <|
  allq qX12_sum 348 (.inr (.inl (210, 2, 0))) (okS (y := yX12_rotated) kw_1660 kw_118 rfl (by decide +kernel) kw_1659 (Or.inl kw_1658)) <|
  allq qX12_sum 351 (.inl (a_ll 1 352)) (s_lload_n (q := 1) (i := 1) rfl (by decide +kernel)) <|
  allq qX12_sum 352 (.inl (o_lmul 353)) (s_lmul (by decide +kernel)) <|
  alln
set_option maxRecDepth 20000 in
theorem kX12_sum_5 : ∀ q ∈ tX12_sum_5, qX12_sum q :=
  allq qX12_sum 353 (.inl (a_lst 11 355)) (s_lstore (i := 11) (by decide +kernel) (by decide)) <|
  allq qX12_sum 355 (.inl (a_inc 13 1 358)) (s_iinc (i := 13) (n := 1) (n2 := 1) rfl (by decide +kernel) (by decide)) <|
  allq qX12_sum 358 (.inl (a_go 323)) (s_goto (off := (-35)) (by decide +kernel) (by decide)) <|
  allq qX12_sum 361 (.inl (a_ll 11 363)) (s_lload (i := 11) (by decide +kernel)) <|
  allq qX12_sum 363 (.inl (a_ll 11 365)) (s_lload (i := 11) (by decide +kernel)) <|
  allq qX12_sum 365 (.inl (a_ic 33 367)) (s_bipush (n := 33) (v := 33) rfl (by decide +kernel)) <|
  allq qX12_sum 367 (.inl (o_lushr 368)) (s_lushr (by decide +kernel)) <|
  allq qX12_sum 368 (.inl (o_lxor 369)) (s_lxor (by decide +kernel)) <|
  allq qX12_sum 369 (.inl (a_ll 3 370)) (s_lload_n (q := 3) (i := 3) rfl (by decide +kernel)) <|
  allq qX12_sum 370 (.inl (o_lmul 371)) (s_lmul (by decide +kernel)) <|
  allq qX12_sum 371 (.inl (a_lst 11 373)) (s_lstore (i := 11) (by decide +kernel) (by decide)) <|
  allq qX12_sum 373 (.inl (a_ll 11 375)) (s_lload (i := 11) (by decide +kernel)) <|
  allq qX12_sum 375 (.inl (a_ll 11 377)) (s_lload (i := 11) (by decide +kernel)) <|
  allq qX12_sum 377 (.inl (a_ic 29 379)) (s_bipush (n := 29) (v := 29) rfl (by decide +kernel)) <|
  allq qX12_sum 379 (.inl (o_lushr 380)) (s_lushr (by decide +kernel)) <|
  allq qX12_sum 380 (.inl (o_lxor 381)) (s_lxor (by decide +kernel)) <|
  allq qX12_sum 381 (.inl (a_ll 5 383)) (s_lload (i := 5) (by decide +kernel)) <|
  allq qX12_sum 383 (.inl (o_lmul 384)) (s_lmul (by decide +kernel)) <|
  allq qX12_sum 384 (.inl (a_lst 11 386)) (s_lstore (i := 11) (by decide +kernel) (by decide)) <|
  allq qX12_sum 386 (.inl (a_ll 11 388)) (s_lload (i := 11) (by decide +kernel)) <|
  allq qX12_sum 388 (.inl (a_ll 11 390)) (s_lload (i := 11) (by decide +kernel)) <|
  allq qX12_sum 390 (.inl (a_ic 32 392)) (s_bipush (n := 32) (v := 32) rfl (by decide +kernel)) <|
  allq qX12_sum 392 (.inl (o_lushr 393)) (s_lushr (by decide +kernel)) <|
  allq qX12_sum 393 (.inl (o_lxor 394)) (s_lxor (by decide +kernel)) <|
  allq qX12_sum 394 (.inr (.inr 2)) (Or.inr (Or.inr (Or.inl ⟨rfl, rfl, by decide +kernel⟩))) <|
  alln
theorem kX12_sum : ∀ q ∈ tX12_sum, qX12_sum q := alla kX12_sum_0 (alla kX12_sum_1 (alla kX12_sum_2 (alla kX12_sum_3 (alla kX12_sum_4 kX12_sum_5))))
abbrev qX12_make : Nat × aI → Prop := OkQ RX12 "make" cX12_make 6 (some .int)
set_option maxRecDepth 20000 in
theorem kX12_make_0 : ∀ q ∈ tX12_make_0, qX12_make q :=
  allq qX12_make 0 (.inl (a_al 0 1)) (s_aload_n (q := 0) (i := 0) rfl (by decide +kernel)) <|
  allq qX12_make 1 (.inl (a_get 11 1 4)) (gX12 (f0 := 1) (by decide) kw_1186 (by decide +kernel)) <|
  allq qX12_make 4 (.inl (a_ic 8 6)) (s_bipush (n := 8) (v := 8) rfl (by decide +kernel)) <|
  allq qX12_make 6 (.inl (o_icmp_ge 11 9)) (s_icmp_ge (off := 5) (by decide +kernel) (by decide)) <|
  allq qX12_make 9 (.inl (a_ic (-1) 10)) (s_iconst (n := (-1)) (v := (-1)) rfl (by decide +kernel)) <|
  allq qX12_make 10 (.inr (.inr 1)) (Or.inr (Or.inl ⟨rfl, rfl, by decide +kernel⟩)) <|
  allq qX12_make 11 (.inl (a_al 0 12)) (s_aload_n (q := 0) (i := 0) rfl (by decide +kernel)) <|
  allq qX12_make 12 (.inl (a_ic 65536 15)) (s_ldcw kw_1673 (by decide +kernel)) <|
  allq qX12_make 15 (.inl (a_put 11 27 .int 18)) (pX12 (f0 := 27) (by decide) rfl rfl tOk kw_1212 (by decide +kernel)) <|
  allq qX12_make 18 (.inl (a_al 0 19)) (s_aload_n (q := 0) (i := 0) rfl (by decide +kernel)) <|
  allq qX12_make 19 (.inl (a_al 0 20)) (s_aload_n (q := 0) (i := 0) rfl (by decide +kernel)) <|
  allq qX12_make 20 (.inl (a_get 11 1 23)) (gX12 (f0 := 1) (by decide) kw_1186 (by decide +kernel)) <|
  allq qX12_make 23 (.inl (a_put 11 25 .int 26)) (pX12 (f0 := 25) (by decide) rfl rfl tOk kw_1210 (by decide +kernel)) <|
  allq qX12_make 26 (.inl (a_ic 0 27)) (s_iconst (n := 0) (v := 0) rfl (by decide +kernel)) <|
  allq qX12_make 27 (.inl (a_is 2 28)) (s_istore_n (q := 2) (i := 2) rfl (by decide +kernel) (by decide)) <|
  allq qX12_make 28 (.inl (a_il 2 29)) (s_iload_n (q := 2) (i := 2) rfl (by decide +kernel)) <|
  allq qX12_make 29 (.inl (a_al 0 30)) (s_aload_n (q := 0) (i := 0) rfl (by decide +kernel)) <|
  allq qX12_make 30 (.inl (a_get 11 1 33)) (gX12 (f0 := 1) (by decide) kw_1186 (by decide +kernel)) <|
  allq qX12_make 33 (.inl (o_icmp_ge 54 36)) (s_icmp_ge (off := 21) (by decide +kernel) (by decide)) <|
  allq qX12_make 36 (.inl (a_al 0 37)) (s_aload_n (q := 0) (i := 0) rfl (by decide +kernel)) <|
  allq qX12_make 37 (.inl (a_get 11 24 40)) (gX12 (f0 := 24) (by decide) kw_1209 (by decide +kernel)) <|
  allq qX12_make 40 (.inl (a_il 2 41)) (s_iload_n (q := 2) (i := 2) rfl (by decide +kernel)) <|
  allq qX12_make 41 (.inl (a_al 0 42)) (s_aload_n (q := 0) (i := 0) rfl (by decide +kernel)) <|
  allq qX12_make 42 (.inl (a_get 11 0 45)) (gX12 (f0 := 0) (by decide) kw_1185 (by decide +kernel)) <|
  allq qX12_make 45 (.inl (a_il 2 46)) (s_iload_n (q := 2) (i := 2) rfl (by decide +kernel)) <|
  allq qX12_make 46 (.inl (a_iald 47)) (s_iald (by decide +kernel)) <|
  allq qX12_make 47 (.inl (a_iast 48)) (s_iast (by decide +kernel)) <|
  allq qX12_make 48 (.inl (a_inc 2 1 51)) (s_iinc (i := 2) (n := 1) (n2 := 1) rfl (by decide +kernel) (by decide)) <|
  allq qX12_make 51 (.inl (a_go 28)) (s_goto (off := (-23)) (by decide +kernel) (by decide)) <|
  allq qX12_make 54 (.inl (a_al 0 55)) (s_aload_n (q := 0) (i := 0) rfl (by decide +kernel)) <|
  allq qX12_make 55 (.inl (a_ic 0 56)) (s_iconst (n := 0) (v := 0) rfl (by decide +kernel)) <|
  allq qX12_make 56 (.inr (.inl (157, 2, 12))) (okV (y := yX12_go) kw_1436 kw_118 rfl rfl (by decide +kernel) kw_1435 kw_47 kw_1433) <|
  allq qX12_make 59 (.inl (a_al 0 60)) (s_aload_n (q := 0) (i := 0) rfl (by decide +kernel)) <|
  allq qX12_make 60 (.inl (a_get 11 31 63)) (gX12 (f0 := 31) (by decide) kw_1216 (by decide +kernel)) <|
  allq qX12_make 63 (.inl (o_if_eq 81 66)) (s_if_eq (off := 18) (by decide +kernel) (by decide)) <|
  allq qX12_make 66 (.inl (a_al 0 67)) (s_aload_n (q := 0) (i := 0) rfl (by decide +kernel)) <|
  allq qX12_make 67 (.inl (a_get 11 33 70)) (gX12 (f0 := 33) (by decide) kw_1218 (by decide +kernel)) <|
  allq qX12_make 70 (.inl (a_ic 2 71)) (s_iconst (n := 2) (v := 2) rfl (by decide +kernel)) <|
  allq qX12_make 71 (.inl (o_icmp_lt 81 74)) (s_icmp_lt (off := 10) (by decide +kernel) (by decide)) <|
  allq qX12_make 74 (.inl (a_al 0 75)) (s_aload_n (q := 0) (i := 0) rfl (by decide +kernel)) <|
  alln
set_option maxRecDepth 20000 in
theorem kX12_make_1 : ∀ q ∈ tX12_make_1, qX12_make q :=
  allq qX12_make 75 (.inr (.inl (190, 1, 12))) (okV (y := yX12_allAlike) kw_1457 kw_118 rfl rfl (by decide +kernel) kw_1456 kw_52 kw_1454) <|
  allq qX12_make 78 (.inl (o_if_eq 83 81)) (s_if_eq (off := 5) (by decide +kernel) (by decide)) <|
  allq qX12_make 81 (.inl (a_ic (-1) 82)) (s_iconst (n := (-1)) (v := (-1)) rfl (by decide +kernel)) <|
  allq qX12_make 82 (.inr (.inr 1)) (Or.inr (Or.inl ⟨rfl, rfl, by decide +kernel⟩)) <|
  allq qX12_make 83 (.inl (a_ic 0 84)) (s_iconst (n := 0) (v := 0) rfl (by decide +kernel)) <|
  allq qX12_make 84 (.inl (a_is 2 85)) (s_istore_n (q := 2) (i := 2) rfl (by decide +kernel) (by decide)) <|
  allq qX12_make 85 (.inl (a_il 2 86)) (s_iload_n (q := 2) (i := 2) rfl (by decide +kernel)) <|
  allq qX12_make 86 (.inl (a_ic 3 87)) (s_iconst (n := 3) (v := 3) rfl (by decide +kernel)) <|
  allq qX12_make 87 (.inl (o_icmp_ge 113 90)) (s_icmp_ge (off := 26) (by decide +kernel) (by decide)) <|
  allq qX12_make 90 (.inl (a_al 0 91)) (s_aload_n (q := 0) (i := 0) rfl (by decide +kernel)) <|
  allq qX12_make 91 (.inl (a_get 11 18 94)) (gX12 (f0 := 18) (by decide) kw_1203 (by decide +kernel)) <|
  allq qX12_make 94 (.inl (a_il 2 95)) (s_iload_n (q := 2) (i := 2) rfl (by decide +kernel)) <|
  allq qX12_make 95 (.inl (a_il 2 96)) (s_iload_n (q := 2) (i := 2) rfl (by decide +kernel)) <|
  allq qX12_make 96 (.inl (o_if_ne 103 99)) (s_if_ne (off := 7) (by decide +kernel) (by decide)) <|
  allq qX12_make 99 (.inl (a_ic 1 100)) (s_iconst (n := 1) (v := 1) rfl (by decide +kernel)) <|
  allq qX12_make 100 (.inl (a_go 106)) (s_goto (off := 6) (by decide +kernel) (by decide)) <|
  allq qX12_make 103 (.inl (a_ic 4 104)) (s_iconst (n := 4) (v := 4) rfl (by decide +kernel)) <|
  allq qX12_make 104 (.inl (a_il 2 105)) (s_iload_n (q := 2) (i := 2) rfl (by decide +kernel)) <|
  allq qX12_make 105 (.inl (o_imul 106)) (s_imul (by decide +kernel)) <|
  allq qX12_make 106 (.inl (a_iast 107)) (s_iast (by decide +kernel)) <|
  allq qX12_make 107 (.inl (a_inc 2 1 110)) (s_iinc (i := 2) (n := 1) (n2 := 1) rfl (by decide +kernel) (by decide)) <|
  allq qX12_make 110 (.inl (a_go 85)) (s_goto (off := (-25)) (by decide +kernel) (by decide)) <|
  allq qX12_make 113 (.inl (a_al 0 114)) (s_aload_n (q := 0) (i := 0) rfl (by decide +kernel)) <|
  allq qX12_make 114 (.inr (.inl (162, 1, 12))) (okV (y := yX12_tellAll) kw_1570 kw_118 rfl rfl (by decide +kernel) kw_1569 kw_77 kw_1567) <|
  allq qX12_make 117 (.inl (a_al 0 118)) (s_aload_n (q := 0) (i := 0) rfl (by decide +kernel)) <|
  allq qX12_make 118 (.inr (.inl (178, 1, 12))) (okV (y := yX12_lengthsByCounts) kw_1487 kw_118 rfl rfl (by decide +kernel) kw_1486 kw_58 kw_1484) <|
  allq qX12_make 121 (.inl (a_is 2 122)) (s_istore_n (q := 2) (i := 2) rfl (by decide +kernel) (by decide)) <|
  allq qX12_make 122 (.inl (a_al 0 123)) (s_aload_n (q := 0) (i := 0) rfl (by decide +kernel)) <|
  allq qX12_make 123 (.inl (a_il 2 124)) (s_iload_n (q := 2) (i := 2) rfl (by decide +kernel)) <|
  allq qX12_make 124 (.inr (.inl (180, 2, 12))) (okV (y := yX12_describe) kw_1499 kw_118 rfl rfl (by decide +kernel) kw_1498 kw_61 kw_1496) <|
  allq qX12_make 127 (.inl (o_if_ge 132 130)) (s_if_ge (off := 5) (by decide +kernel) (by decide)) <|
  allq qX12_make 130 (.inl (a_ic (-1) 131)) (s_iconst (n := (-1)) (v := (-1)) rfl (by decide +kernel)) <|
  allq qX12_make 131 (.inr (.inr 1)) (Or.inr (Or.inl ⟨rfl, rfl, by decide +kernel⟩)) <|
  allq qX12_make 132 (.inl (a_al 0 133)) (s_aload_n (q := 0) (i := 0) rfl (by decide +kernel)) <|
  allq qX12_make 133 (.inl (a_ic 0 134)) (s_iconst (n := 0) (v := 0) rfl (by decide +kernel)) <|
  allq qX12_make 134 (.inl (a_put 11 40 .int 137)) (pX12 (f0 := 40) (by decide) rfl rfl tOk kw_1225 (by decide +kernel)) <|
  allq qX12_make 137 (.inl (a_al 0 138)) (s_aload_n (q := 0) (i := 0) rfl (by decide +kernel)) <|
  allq qX12_make 138 (.inl (a_lc 3962610743 141)) (s_ldc2 kw_1674 (by decide +kernel)) <|
  allq qX12_make 141 (.inl (a_ic 4 142)) (s_iconst (n := 4) (v := 4) rfl (by decide +kernel)) <|
  allq qX12_make 142 (.inr (.inl (151, 3, 12))) (okV (y := yX12_sayNumber) kw_1412 kw_118 rfl rfl (by decide +kernel) kw_1411 kw_41 kw_1409) <|
  alln
set_option maxRecDepth 20000 in
theorem kX12_make_2 : ∀ q ∈ tX12_make_2, qX12_make q :=
  allq qX12_make 145 (.inl (a_al 0 146)) (s_aload_n (q := 0) (i := 0) rfl (by decide +kernel)) <|
  allq qX12_make 146 (.inl (a_il 1 147)) (s_iload_n (q := 1) (i := 1) rfl (by decide +kernel)) <|
  allq qX12_make 147 (.inl (a_i2l 148)) (s_i2l (by decide +kernel)) <|
  allq qX12_make 148 (.inl (a_lc 4294967295 151)) (s_ldc2 kw_1405 (by decide +kernel)) <|
  allq qX12_make 151 (.inl (o_land 152)) (s_land (by decide +kernel)) <|
  allq qX12_make 152 (.inl (a_ic 4 153)) (s_iconst (n := 4) (v := 4) rfl (by decide +kernel)) <|
  allq qX12_make 153 (.inr (.inl (151, 3, 12))) (okV (y := yX12_sayNumber) kw_1412 kw_118 rfl rfl (by decide +kernel) kw_1411 kw_41 kw_1409) <|
  allq qX12_make 156 (.inl (a_al 0 157)) (s_aload_n (q := 0) (i := 0) rfl (by decide +kernel)) <|
  allq qX12_make 157 (.inr (.inl (152, 1, 12))) (okV (y := yX12_sayMade) kw_1554 kw_118 rfl rfl (by decide +kernel) kw_1553 kw_73 kw_1551) <|
  allq qX12_make 160 (.inl (a_ic 0 161)) (s_iconst (n := 0) (v := 0) rfl (by decide +kernel)) <|
  allq qX12_make 161 (.inl (a_is 3 162)) (s_istore_n (q := 3) (i := 3) rfl (by decide +kernel) (by decide)) <|
  allq qX12_make 162 (.inl (a_il 3 163)) (s_iload_n (q := 3) (i := 3) rfl (by decide +kernel)) <|
  allq qX12_make 163 (.inl (a_ic 3 164)) (s_iconst (n := 3) (v := 3) rfl (by decide +kernel)) <|
  allq qX12_make 164 (.inl (o_icmp_ge 230 167)) (s_icmp_ge (off := 66) (by decide +kernel) (by decide)) <|
  allq qX12_make 167 (.inl (a_il 3 168)) (s_iload_n (q := 3) (i := 3) rfl (by decide +kernel)) <|
  allq qX12_make 168 (.inl (o_if_ne 175 171)) (s_if_ne (off := 7) (by decide +kernel) (by decide)) <|
  allq qX12_make 171 (.inl (a_ic 1 172)) (s_iconst (n := 1) (v := 1) rfl (by decide +kernel)) <|
  allq qX12_make 172 (.inl (a_go 185)) (s_goto (off := 13) (by decide +kernel) (by decide)) <|
  allq qX12_make 175 (.inl (a_il 3 176)) (s_iload_n (q := 3) (i := 3) rfl (by decide +kernel)) <|
  allq qX12_make 176 (.inl (a_ic 1 177)) (s_iconst (n := 1) (v := 1) rfl (by decide +kernel)) <|
  allq qX12_make 177 (.inl (o_icmp_ne 184 180)) (s_icmp_ne (off := 7) (by decide +kernel) (by decide)) <|
  allq qX12_make 180 (.inl (a_ic 2 181)) (s_iconst (n := 2) (v := 2) rfl (by decide +kernel)) <|
  allq qX12_make 181 (.inl (a_go 185)) (s_goto (off := 4) (by decide +kernel) (by decide)) <|
  allq qX12_make 184 (.inl (a_ic 0 185)) (s_iconst (n := 0) (v := 0) rfl (by decide +kernel)) <|
  allq qX12_make 185 (.inl (a_is 4 187)) (s_istore (i := 4) (by decide +kernel) (by decide)) <|
  allq qX12_make 187 (.inl (a_al 0 188)) (s_aload_n (q := 0) (i := 0) rfl (by decide +kernel)) <|
  allq qX12_make 188 (.inl (a_il 4 190)) (s_iload (i := 4) (by decide +kernel)) <|
  allq qX12_make 190 (.inr (.inl (171, 2, 12))) (okV (y := yX12_bestOrder) kw_1612 kw_118 rfl rfl (by decide +kernel) kw_1611 kw_86 kw_1609) <|
  allq qX12_make 193 (.inl (a_is 5 195)) (s_istore (i := 5) (by decide +kernel) (by decide)) <|
  allq qX12_make 195 (.inl (a_al 0 196)) (s_aload_n (q := 0) (i := 0) rfl (by decide +kernel)) <|
  allq qX12_make 196 (.inl (a_al 0 197)) (s_aload_n (q := 0) (i := 0) rfl (by decide +kernel)) <|
  allq qX12_make 197 (.inl (a_get 11 31 200)) (gX12 (f0 := 31) (by decide) kw_1216 (by decide +kernel)) <|
  allq qX12_make 200 (.inl (a_il 5 202)) (s_iload (i := 5) (by decide +kernel)) <|
  allq qX12_make 202 (.inr (.inl (169, 3, 12))) (okV (y := yX12_divide) kw_1520 kw_118 rfl rfl (by decide +kernel) kw_1519 kw_66 kw_1517) <|
  allq qX12_make 205 (.inl (a_al 0 206)) (s_aload_n (q := 0) (i := 0) rfl (by decide +kernel)) <|
  allq qX12_make 206 (.inr (.inl (149, 1, 12))) (okV (y := yX12_begin) kw_1511 kw_118 rfl rfl (by decide +kernel) kw_1510 kw_64 kw_1508) <|
  allq qX12_make 209 (.inl (a_al 0 210)) (s_aload_n (q := 0) (i := 0) rfl (by decide +kernel)) <|
  allq qX12_make 210 (.inl (a_al 0 211)) (s_aload_n (q := 0) (i := 0) rfl (by decide +kernel)) <|
  allq qX12_make 211 (.inl (a_get 11 45 214)) (gX12 (f0 := 45) (by decide) kw_1230 (by decide +kernel)) <|
  allq qX12_make 214 (.inl (a_ic 0 215)) (s_iconst (n := 0) (v := 0) rfl (by decide +kernel)) <|
  alln
set_option maxRecDepth 20000 in
theorem kX12_make_3 : ∀ q ∈ tX12_make_3, qX12_make q :=
  allq qX12_make 215 (.inl (a_il 5 217)) (s_iload (i := 5) (by decide +kernel)) <|
  allq qX12_make 217 (.inr (.inl (170, 4, 12))) (okV (y := yX12_putShare) kw_1527 kw_118 rfl rfl (by decide +kernel) kw_1526 kw_67 kw_1524) <|
  allq qX12_make 220 (.inl (a_al 0 221)) (s_aload_n (q := 0) (i := 0) rfl (by decide +kernel)) <|
  allq qX12_make 221 (.inr (.inl (152, 1, 12))) (okV (y := yX12_sayMade) kw_1554 kw_118 rfl rfl (by decide +kernel) kw_1553 kw_73 kw_1551) <|
  allq qX12_make 224 (.inl (a_inc 3 1 227)) (s_iinc (i := 3) (n := 1) (n2 := 1) rfl (by decide +kernel) (by decide)) <|
  allq qX12_make 227 (.inl (a_go 162)) (s_goto (off := (-65)) (by decide +kernel) (by decide)) <|
  allq qX12_make 230 (.inl (a_al 0 231)) (s_aload_n (q := 0) (i := 0) rfl (by decide +kernel)) <|
  allq qX12_make 231 (.inl (a_lc 1 232)) (s_lconst (n := 1) rfl (by decide +kernel)) <|
  allq qX12_make 232 (.inl (a_ic 4 233)) (s_iconst (n := 4) (v := 4) rfl (by decide +kernel)) <|
  allq qX12_make 233 (.inr (.inl (151, 3, 12))) (okV (y := yX12_sayNumber) kw_1412 kw_118 rfl rfl (by decide +kernel) kw_1411 kw_41 kw_1409) <|
  allq qX12_make 236 (.inl (a_al 0 237)) (s_aload_n (q := 0) (i := 0) rfl (by decide +kernel)) <|
  allq qX12_make 237 (.inl (a_lc 4 240)) (s_ldc2 kw_1675 (by decide +kernel)) <|
  allq qX12_make 240 (.inl (a_ic 4 241)) (s_iconst (n := 4) (v := 4) rfl (by decide +kernel)) <|
  allq qX12_make 241 (.inr (.inl (151, 3, 12))) (okV (y := yX12_sayNumber) kw_1412 kw_118 rfl rfl (by decide +kernel) kw_1411 kw_41 kw_1409) <|
  allq qX12_make 244 (.inl (a_al 0 245)) (s_aload_n (q := 0) (i := 0) rfl (by decide +kernel)) <|
  allq qX12_make 245 (.inl (a_lc 8 248)) (s_ldc2 kw_1676 (by decide +kernel)) <|
  allq qX12_make 248 (.inl (a_ic 4 249)) (s_iconst (n := 4) (v := 4) rfl (by decide +kernel)) <|
  allq qX12_make 249 (.inr (.inl (151, 3, 12))) (okV (y := yX12_sayNumber) kw_1412 kw_118 rfl rfl (by decide +kernel) kw_1411 kw_41 kw_1409) <|
  allq qX12_make 252 (.inl (a_ic 0 253)) (s_iconst (n := 0) (v := 0) rfl (by decide +kernel)) <|
  allq qX12_make 253 (.inl (a_is 3 254)) (s_istore_n (q := 3) (i := 3) rfl (by decide +kernel) (by decide)) <|
  allq qX12_make 254 (.inl (a_il 3 255)) (s_iload_n (q := 3) (i := 3) rfl (by decide +kernel)) <|
  allq qX12_make 255 (.inl (a_al 0 256)) (s_aload_n (q := 0) (i := 0) rfl (by decide +kernel)) <|
  allq qX12_make 256 (.inl (a_get 11 1 259)) (gX12 (f0 := 1) (by decide) kw_1186 (by decide +kernel)) <|
  allq qX12_make 259 (.inl (o_icmp_ge 278 262)) (s_icmp_ge (off := 19) (by decide +kernel) (by decide)) <|
  allq qX12_make 262 (.inl (a_al 0 263)) (s_aload_n (q := 0) (i := 0) rfl (by decide +kernel)) <|
  allq qX12_make 263 (.inl (a_al 0 264)) (s_aload_n (q := 0) (i := 0) rfl (by decide +kernel)) <|
  allq qX12_make 264 (.inl (a_get 11 0 267)) (gX12 (f0 := 0) (by decide) kw_1185 (by decide +kernel)) <|
  allq qX12_make 267 (.inl (a_il 3 268)) (s_iload_n (q := 3) (i := 3) rfl (by decide +kernel)) <|
  allq qX12_make 268 (.inl (a_iald 269)) (s_iald (by decide +kernel)) <|
  allq qX12_make 269 (.inr (.inl (150, 2, 12))) (okV (y := yX12_say) kw_1416 kw_118 rfl rfl (by decide +kernel) kw_1415 kw_42 kw_1413) <|
  allq qX12_make 272 (.inl (a_inc 3 1 275)) (s_iinc (i := 3) (n := 1) (n2 := 1) rfl (by decide +kernel) (by decide)) <|
  allq qX12_make 275 (.inl (a_go 254)) (s_goto (off := (-21)) (by decide +kernel) (by decide)) <|
  allq qX12_make 278 (.inl (a_al 0 279)) (s_aload_n (q := 0) (i := 0) rfl (by decide +kernel)) <|
  allq qX12_make 279 (.inr (.inl (153, 1, 12))) (okV (y := yX12_show) kw_1664 kw_118 rfl rfl (by decide +kernel) kw_1663 kw_97 kw_1661) <|
  allq qX12_make 282 (.inr (.inr 1)) (Or.inr (Or.inl ⟨rfl, rfl, by decide +kernel⟩)) <|
  alln
theorem kX12_make : ∀ q ∈ tX12_make, qX12_make q := alla kX12_make_0 (alla kX12_make_1 (alla kX12_make_2 kX12_make_3))
