/-! each entry is one that the machine does (printed by a program) -/
abbrev qX0_init : Nat × aI → Prop := OkQ RX0 "<init>" cX0_init 1 (none)
set_option maxRecDepth 20000 in
theorem kX0_init_0 : ∀ q ∈ tX0_init_0, qX0_init q :=
  allq qX0_init 0 (.inl (a_al 0 1)) (s_aload_n (q := 0) (i := 0) rfl (by decide +kernel)) <|
  allq qX0_init 1 (.inl (a_oi 4)) (s_oi kw_176 kw_126 kw_127 (by decide +kernel)) <|
  allq qX0_init 4 (.inl (a_al 0 5)) (s_aload_n (q := 0) (i := 0) rfl (by decide +kernel)) <|
  allq qX0_init 5 (.inl (a_ic 256 8)) (s_sipush (n := 256) (v := 256) rfl (by decide +kernel)) <|
  allq qX0_init 8 (.inl (a_newa 1 10)) (na_int kw_197 (by decide +kernel)) <|
  allq qX0_init 10 (.inl (a_put 0 0 (.array .int) 13)) (fX0 (f0 := 0) (by decide) rfl rfl rfl tOk kw_177 (by decide +kernel)) <|
  allq qX0_init 13 (.inl (a_al 0 14)) (s_aload_n (q := 0) (i := 0) rfl (by decide +kernel)) <|
  allq qX0_init 14 (.inl (a_ic 256 17)) (s_sipush (n := 256) (v := 256) rfl (by decide +kernel)) <|
  allq qX0_init 17 (.inl (a_newa 1 19)) (na_int kw_197 (by decide +kernel)) <|
  allq qX0_init 19 (.inl (a_put 0 1 (.array .int) 22)) (fX0 (f0 := 1) (by decide) rfl rfl rfl tOk kw_180 (by decide +kernel)) <|
  allq qX0_init 22 (.inl (a_al 0 23)) (s_aload_n (q := 0) (i := 0) rfl (by decide +kernel)) <|
  allq qX0_init 23 (.inl (a_ic 13 25)) (s_bipush (n := 13) (v := 13) rfl (by decide +kernel)) <|
  allq qX0_init 25 (.inl (a_newa 1 27)) (na_int kw_197 (by decide +kernel)) <|
  allq qX0_init 27 (.inl (a_put 0 2 (.array .int) 30)) (fX0 (f0 := 2) (by decide) rfl rfl rfl tOk kw_181 (by decide +kernel)) <|
  allq qX0_init 30 (.inr (.inr 0)) (Or.inl ⟨rfl, rfl, by decide +kernel⟩) <|
  alln
theorem kX0_init : ∀ q ∈ tX0_init, qX0_init q := kX0_init_0
abbrev qX0_become : Nat × aI → Prop := OkQ RX0 "become" cX0_become 2 (none)
set_option maxRecDepth 20000 in
theorem kX0_become_0 : ∀ q ∈ tX0_become_0, qX0_become q :=
  allq qX0_become 0 (.inl (a_al 0 1)) (s_aload_n (q := 0) (i := 0) rfl (by decide +kernel)) <|
  allq qX0_become 1 (.inl (a_al 1 2)) (s_aload_n (q := 1) (i := 1) rfl (by decide +kernel)) <|
  allq qX0_become 2 (.inl (a_get 0 4 5)) (gX0 (f0 := 4) (by decide) kw_183 (by decide +kernel)) <|
  allq qX0_become 5 (.inl (a_put 0 4 .boolean 8)) (pX0 (f0 := 4) (by decide) rfl rfl tOk kw_183 (by decide +kernel)) <|
  allq qX0_become 8 (.inl (a_al 0 9)) (s_aload_n (q := 0) (i := 0) rfl (by decide +kernel)) <|
  allq qX0_become 9 (.inl (a_get 0 4 12)) (gX0 (f0 := 4) (by decide) kw_183 (by decide +kernel)) <|
  allq qX0_become 12 (.inl (o_if_eq 59 15)) (s_if_eq (off := 47) (by decide +kernel) (by decide)) <|
  allq qX0_become 15 (.inl (a_al 0 16)) (s_aload_n (q := 0) (i := 0) rfl (by decide +kernel)) <|
  allq qX0_become 16 (.inl (a_al 1 17)) (s_aload_n (q := 1) (i := 1) rfl (by decide +kernel)) <|
  allq qX0_become 17 (.inl (a_get 0 3 20)) (gX0 (f0 := 3) (by decide) kw_182 (by decide +kernel)) <|
  allq qX0_become 20 (.inl (a_put 0 3 .int 23)) (pX0 (f0 := 3) (by decide) rfl rfl tOk kw_182 (by decide +kernel)) <|
  allq qX0_become 23 (.inl (a_al 1 24)) (s_aload_n (q := 1) (i := 1) rfl (by decide +kernel)) <|
  allq qX0_become 24 (.inl (a_get 0 0 27)) (gX0 (f0 := 0) (by decide) kw_177 (by decide +kernel)) <|
  allq qX0_become 27 (.inl (a_ic 0 28)) (s_iconst (n := 0) (v := 0) rfl (by decide +kernel)) <|
  allq qX0_become 28 (.inl (a_al 0 29)) (s_aload_n (q := 0) (i := 0) rfl (by decide +kernel)) <|
  allq qX0_become 29 (.inl (a_get 0 0 32)) (gX0 (f0 := 0) (by decide) kw_177 (by decide +kernel)) <|
  allq qX0_become 32 (.inl (a_ic 0 33)) (s_iconst (n := 0) (v := 0) rfl (by decide +kernel)) <|
  allq qX0_become 33 (.inl (a_al 0 34)) (s_aload_n (q := 0) (i := 0) rfl (by decide +kernel)) <|
  allq qX0_become 34 (.inl (a_get 0 0 37)) (gX0 (f0 := 0) (by decide) kw_177 (by decide +kernel)) <|
  allq qX0_become 37 (.inl (a_len 38)) (s_len (by decide +kernel)) <|
  allq qX0_become 38 (.inl (a_copy 1 41)) (cp1 kw_751 kw_502 kw_501 kw_117 (by decide +kernel)) <|
  allq qX0_become 41 (.inl (a_al 1 42)) (s_aload_n (q := 1) (i := 1) rfl (by decide +kernel)) <|
  allq qX0_become 42 (.inl (a_get 0 1 45)) (gX0 (f0 := 1) (by decide) kw_180 (by decide +kernel)) <|
  allq qX0_become 45 (.inl (a_ic 0 46)) (s_iconst (n := 0) (v := 0) rfl (by decide +kernel)) <|
  allq qX0_become 46 (.inl (a_al 0 47)) (s_aload_n (q := 0) (i := 0) rfl (by decide +kernel)) <|
  allq qX0_become 47 (.inl (a_get 0 1 50)) (gX0 (f0 := 1) (by decide) kw_180 (by decide +kernel)) <|
  allq qX0_become 50 (.inl (a_ic 0 51)) (s_iconst (n := 0) (v := 0) rfl (by decide +kernel)) <|
  allq qX0_become 51 (.inl (a_al 0 52)) (s_aload_n (q := 0) (i := 0) rfl (by decide +kernel)) <|
  allq qX0_become 52 (.inl (a_get 0 1 55)) (gX0 (f0 := 1) (by decide) kw_180 (by decide +kernel)) <|
  allq qX0_become 55 (.inl (a_len 56)) (s_len (by decide +kernel)) <|
  allq qX0_become 56 (.inl (a_copy 1 59)) (cp1 kw_751 kw_502 kw_501 kw_117 (by decide +kernel)) <|
  allq qX0_become 59 (.inr (.inr 0)) (Or.inl ⟨rfl, rfl, by decide +kernel⟩) <|
  alln
theorem kX0_become : ∀ q ∈ tX0_become, qX0_become q := kX0_become_0
abbrev qX0_weight : Nat × aI → Prop := OkQ RX0 "weight" cX0_weight 2 (some .int)
set_option maxRecDepth 20000 in
theorem kX0_weight_0 : ∀ q ∈ tX0_weight_0, qX0_weight q :=
  allq qX0_weight 0 (.inl (a_al 0 1)) (s_aload_n (q := 0) (i := 0) rfl (by decide +kernel)) <|
  allq qX0_weight 1 (.inl (a_get 0 0 4)) (gX0 (f0 := 0) (by decide) kw_177 (by decide +kernel)) <|
  allq qX0_weight 4 (.inl (a_il 1 5)) (s_iload_n (q := 1) (i := 1) rfl (by decide +kernel)) <|
  allq qX0_weight 5 (.inl (a_iald 6)) (s_iald (by decide +kernel)) <|
  allq qX0_weight 6 (.inl (o_if_ne 13 9)) (s_if_ne (off := 7) (by decide +kernel) (by decide)) <|
  allq qX0_weight 9 (.inl (a_ic 0 10)) (s_iconst (n := 0) (v := 0) rfl (by decide +kernel)) <|
  allq qX0_weight 10 (.inl (a_go 26)) (s_goto (off := 16) (by decide +kernel) (by decide)) <|
  allq qX0_weight 13 (.inl (a_al 0 14)) (s_aload_n (q := 0) (i := 0) rfl (by decide +kernel)) <|
  allq qX0_weight 14 (.inl (a_get 0 3 17)) (gX0 (f0 := 3) (by decide) kw_182 (by decide +kernel)) <|
  allq qX0_weight 17 (.inl (a_ic 1 18)) (s_iconst (n := 1) (v := 1) rfl (by decide +kernel)) <|
  allq qX0_weight 18 (.inl (o_iadd 19)) (s_iadd (by decide +kernel)) <|
  allq qX0_weight 19 (.inl (a_al 0 20)) (s_aload_n (q := 0) (i := 0) rfl (by decide +kernel)) <|
  allq qX0_weight 20 (.inl (a_get 0 0 23)) (gX0 (f0 := 0) (by decide) kw_177 (by decide +kernel)) <|
  allq qX0_weight 23 (.inl (a_il 1 24)) (s_iload_n (q := 1) (i := 1) rfl (by decide +kernel)) <|
  allq qX0_weight 24 (.inl (a_iald 25)) (s_iald (by decide +kernel)) <|
  allq qX0_weight 25 (.inl (o_isub 26)) (s_isub (by decide +kernel)) <|
  allq qX0_weight 26 (.inr (.inr 1)) (Or.inr (Or.inl ⟨rfl, rfl, by decide +kernel⟩)) <|
  alln
theorem kX0_weight : ∀ q ∈ tX0_weight, qX0_weight q := kX0_weight_0
abbrev qX0_settle : Nat × aI → Prop := OkQ RX0 "settle" cX0_settle 4 (none)
set_option maxRecDepth 20000 in
theorem kX0_settle_0 : ∀ q ∈ tX0_settle_0, qX0_settle q :=
  allq qX0_settle 0 (.inl (a_al 0 1)) (s_aload_n (q := 0) (i := 0) rfl (by decide +kernel)) <|
  allq qX0_settle 1 (.inl (a_il 1 2)) (s_iload_n (q := 1) (i := 1) rfl (by decide +kernel)) <|
  allq qX0_settle 2 (.inl (a_ic 11 4)) (s_bipush (n := 11) (v := 11) rfl (by decide +kernel)) <|
  allq qX0_settle 4 (.inl (o_mmin 7)) (s_mmin kw_704 kw_498 kw_106 kw_499 (by decide +kernel)) <|
  allq qX0_settle 7 (.inl (a_put 0 3 .int 10)) (pX0 (f0 := 3) (by decide) rfl rfl tOk kw_182 (by decide +kernel)) <|
  allq qX0_settle 10 (.inl (a_al 0 11)) (s_aload_n (q := 0) (i := 0) rfl (by decide +kernel)) <|
  allq qX0_settle 11 (.inl (a_get 0 2 14)) (gX0 (f0 := 2) (by decide) kw_181 (by decide +kernel)) <|
  allq qX0_settle 14 (.inl (a_ic 0 15)) (s_iconst (n := 0) (v := 0) rfl (by decide +kernel)) <|
  allq qX0_settle 15 (.inr (.inl (223, 2, 0))) (okS (y := yJ7_fill_53178) kw_496 kw_116 rfl (by decide +kernel) kw_495 (Or.inl kw_705)) <|
  allq qX0_settle 18 (.inl (a_ic 0 19)) (s_iconst (n := 0) (v := 0) rfl (by decide +kernel)) <|
  allq qX0_settle 19 (.inl (a_is 2 20)) (s_istore_n (q := 2) (i := 2) rfl (by decide +kernel) (by decide)) <|
  allq qX0_settle 20 (.inl (a_il 2 21)) (s_iload_n (q := 2) (i := 2) rfl (by decide +kernel)) <|
  allq qX0_settle 21 (.inl (a_al 0 22)) (s_aload_n (q := 0) (i := 0) rfl (by decide +kernel)) <|
  allq qX0_settle 22 (.inl (a_get 0 0 25)) (gX0 (f0 := 0) (by decide) kw_177 (by decide +kernel)) <|
  allq qX0_settle 25 (.inl (a_len 26)) (s_len (by decide +kernel)) <|
  allq qX0_settle 26 (.inl (o_icmp_ge 61 29)) (s_icmp_ge (off := 35) (by decide +kernel) (by decide)) <|
  allq qX0_settle 29 (.inl (a_al 0 30)) (s_aload_n (q := 0) (i := 0) rfl (by decide +kernel)) <|
  allq qX0_settle 30 (.inl (a_il 2 31)) (s_iload_n (q := 2) (i := 2) rfl (by decide +kernel)) <|
  allq qX0_settle 31 (.inr (.inl (2, 2, 1))) (okV (y := yX0_weight) kw_709 kw_108 rfl rfl (by decide +kernel) kw_707 kw_708 kw_706) <|
  allq qX0_settle 34 (.inl (a_is 3 35)) (s_istore_n (q := 3) (i := 3) rfl (by decide +kernel) (by decide)) <|
  allq qX0_settle 35 (.inl (a_il 3 36)) (s_iload_n (q := 3) (i := 3) rfl (by decide +kernel)) <|
  allq qX0_settle 36 (.inl (o_if_le 55 39)) (s_if_le (off := 19) (by decide +kernel) (by decide)) <|
  allq qX0_settle 39 (.inl (a_al 0 40)) (s_aload_n (q := 0) (i := 0) rfl (by decide +kernel)) <|
  allq qX0_settle 40 (.inl (a_get 0 2 43)) (gX0 (f0 := 2) (by decide) kw_181 (by decide +kernel)) <|
  allq qX0_settle 43 (.inl (a_il 3 44)) (s_iload_n (q := 3) (i := 3) rfl (by decide +kernel)) <|
  allq qX0_settle 44 (.inl (a_ic 1 45)) (s_iconst (n := 1) (v := 1) rfl (by decide +kernel)) <|
  allq qX0_settle 45 (.inl (o_iadd 46)) (s_iadd (by decide +kernel)) <|
  allq qX0_settle 46 (.inl (a_dup2 47)) (s_dup2 (by decide +kernel)) <|
  allq qX0_settle 47 (.inl (a_iald 48)) (s_iald (by decide +kernel)) <|
  allq qX0_settle 48 (.inl (a_ic 1 49)) (s_iconst (n := 1) (v := 1) rfl (by decide +kernel)) <|
  allq qX0_settle 49 (.inl (a_il 3 50)) (s_iload_n (q := 3) (i := 3) rfl (by decide +kernel)) <|
  allq qX0_settle 50 (.inl (a_ic 1 51)) (s_iconst (n := 1) (v := 1) rfl (by decide +kernel)) <|
  allq qX0_settle 51 (.inl (o_isub 52)) (s_isub (by decide +kernel)) <|
  allq qX0_settle 52 (.inl (o_ishl 53)) (s_ishl (by decide +kernel)) <|
  allq qX0_settle 53 (.inl (o_iadd 54)) (s_iadd (by decide +kernel)) <|
  allq qX0_settle 54 (.inl (a_iast 55)) (s_iast (by decide +kernel)) <|
  allq qX0_settle 55 (.inl (a_inc 2 1 58)) (s_iinc (i := 2) (n := 1) (n2 := 1) rfl (by decide +kernel) (by decide)) <|
  allq qX0_settle 58 (.inl (a_go 20)) (s_goto (off := (-38)) (by decide +kernel) (by decide)) <|
  allq qX0_settle 61 (.inl (a_ic 1 62)) (s_iconst (n := 1) (v := 1) rfl (by decide +kernel)) <|
  allq qX0_settle 62 (.inl (a_is 2 63)) (s_istore_n (q := 2) (i := 2) rfl (by decide +kernel) (by decide)) <|
  alln
set_option maxRecDepth 20000 in
theorem kX0_settle_1 : ∀ q ∈ tX0_settle_1, qX0_settle q :=
  allq qX0_settle 63 (.inl (a_il 2 64)) (s_iload_n (q := 2) (i := 2) rfl (by decide +kernel)) <|
  allq qX0_settle 64 (.inl (a_al 0 65)) (s_aload_n (q := 0) (i := 0) rfl (by decide +kernel)) <|
  allq qX0_settle 65 (.inl (a_get 0 2 68)) (gX0 (f0 := 2) (by decide) kw_181 (by decide +kernel)) <|
  allq qX0_settle 68 (.inl (a_len 69)) (s_len (by decide +kernel)) <|
  allq qX0_settle 69 (.inl (o_icmp_ge 95 72)) (s_icmp_ge (off := 26) (by decide +kernel) (by decide)) <|
  allq qX0_settle 72 (.inl (a_al 0 73)) (s_aload_n (q := 0) (i := 0) rfl (by decide +kernel)) <|
  allq qX0_settle 73 (.inl (a_get 0 2 76)) (gX0 (f0 := 2) (by decide) kw_181 (by decide +kernel)) <|
  allq qX0_settle 76 (.inl (a_il 2 77)) (s_iload_n (q := 2) (i := 2) rfl (by decide +kernel)) <|
  allq qX0_settle 77 (.inl (a_dup2 78)) (s_dup2 (by decide +kernel)) <|
  allq qX0_settle 78 (.inl (a_iald 79)) (s_iald (by decide +kernel)) <|
  allq qX0_settle 79 (.inl (a_al 0 80)) (s_aload_n (q := 0) (i := 0) rfl (by decide +kernel)) <|
  allq qX0_settle 80 (.inl (a_get 0 2 83)) (gX0 (f0 := 2) (by decide) kw_181 (by decide +kernel)) <|
  allq qX0_settle 83 (.inl (a_il 2 84)) (s_iload_n (q := 2) (i := 2) rfl (by decide +kernel)) <|
  allq qX0_settle 84 (.inl (a_ic 1 85)) (s_iconst (n := 1) (v := 1) rfl (by decide +kernel)) <|
  allq qX0_settle 85 (.inl (o_isub 86)) (s_isub (by decide +kernel)) <|
  allq qX0_settle 86 (.inl (a_iald 87)) (s_iald (by decide +kernel)) <|
  allq qX0_settle 87 (.inl (o_iadd 88)) (s_iadd (by decide +kernel)) <|
  allq qX0_settle 88 (.inl (a_iast 89)) (s_iast (by decide +kernel)) <|
  allq qX0_settle 89 (.inl (a_inc 2 1 92)) (s_iinc (i := 2) (n := 1) (n2 := 1) rfl (by decide +kernel) (by decide)) <|
  allq qX0_settle 92 (.inl (a_go 63)) (s_goto (off := (-29)) (by decide +kernel) (by decide)) <|
  allq qX0_settle 95 (.inl (a_ic 0 96)) (s_iconst (n := 0) (v := 0) rfl (by decide +kernel)) <|
  allq qX0_settle 96 (.inl (a_is 2 97)) (s_istore_n (q := 2) (i := 2) rfl (by decide +kernel) (by decide)) <|
  allq qX0_settle 97 (.inl (a_il 2 98)) (s_iload_n (q := 2) (i := 2) rfl (by decide +kernel)) <|
  allq qX0_settle 98 (.inl (a_al 0 99)) (s_aload_n (q := 0) (i := 0) rfl (by decide +kernel)) <|
  allq qX0_settle 99 (.inl (a_get 0 0 102)) (gX0 (f0 := 0) (by decide) kw_177 (by decide +kernel)) <|
  allq qX0_settle 102 (.inl (a_len 103)) (s_len (by decide +kernel)) <|
  allq qX0_settle 103 (.inl (o_icmp_ge 152 106)) (s_icmp_ge (off := 49) (by decide +kernel) (by decide)) <|
  allq qX0_settle 106 (.inl (a_al 0 107)) (s_aload_n (q := 0) (i := 0) rfl (by decide +kernel)) <|
  allq qX0_settle 107 (.inl (a_il 2 108)) (s_iload_n (q := 2) (i := 2) rfl (by decide +kernel)) <|
  allq qX0_settle 108 (.inr (.inl (2, 2, 1))) (okV (y := yX0_weight) kw_709 kw_108 rfl rfl (by decide +kernel) kw_707 kw_708 kw_706) <|
  allq qX0_settle 111 (.inl (a_is 3 112)) (s_istore_n (q := 3) (i := 3) rfl (by decide +kernel) (by decide)) <|
  allq qX0_settle 112 (.inl (a_il 3 113)) (s_iload_n (q := 3) (i := 3) rfl (by decide +kernel)) <|
  allq qX0_settle 113 (.inl (o_if_le 146 116)) (s_if_le (off := 33) (by decide +kernel) (by decide)) <|
  allq qX0_settle 116 (.inl (a_al 0 117)) (s_aload_n (q := 0) (i := 0) rfl (by decide +kernel)) <|
  allq qX0_settle 117 (.inl (a_get 0 1 120)) (gX0 (f0 := 1) (by decide) kw_180 (by decide +kernel)) <|
  allq qX0_settle 120 (.inl (a_il 2 121)) (s_iload_n (q := 2) (i := 2) rfl (by decide +kernel)) <|
  allq qX0_settle 121 (.inl (a_al 0 122)) (s_aload_n (q := 0) (i := 0) rfl (by decide +kernel)) <|
  allq qX0_settle 122 (.inl (a_get 0 2 125)) (gX0 (f0 := 2) (by decide) kw_181 (by decide +kernel)) <|
  allq qX0_settle 125 (.inl (a_il 3 126)) (s_iload_n (q := 3) (i := 3) rfl (by decide +kernel)) <|
  allq qX0_settle 126 (.inl (a_iald 127)) (s_iald (by decide +kernel)) <|
  alln
set_option maxRecDepth 20000 in
theorem kX0_settle_2 : ∀ q ∈ tX0_settle_2, qX0_settle q :=
  allq qX0_settle 127 (.inl (a_il 3 128)) (s_iload_n (q := 3) (i := 3) rfl (by decide +kernel)) <|
  allq qX0_settle 128 (.inl (a_ic 1 129)) (s_iconst (n := 1) (v := 1) rfl (by decide +kernel)) <|
  allq qX0_settle 129 (.inl (o_isub 130)) (s_isub (by decide +kernel)) <|
  allq qX0_settle 130 (.inl (o_ishr 131)) (s_ishr (by decide +kernel)) <|
  allq qX0_settle 131 (.inl (a_iast 132)) (s_iast (by decide +kernel)) <|
  allq qX0_settle 132 (.inl (a_al 0 133)) (s_aload_n (q := 0) (i := 0) rfl (by decide +kernel)) <|
  allq qX0_settle 133 (.inl (a_get 0 2 136)) (gX0 (f0 := 2) (by decide) kw_181 (by decide +kernel)) <|
  allq qX0_settle 136 (.inl (a_il 3 137)) (s_iload_n (q := 3) (i := 3) rfl (by decide +kernel)) <|
  allq qX0_settle 137 (.inl (a_dup2 138)) (s_dup2 (by decide +kernel)) <|
  allq qX0_settle 138 (.inl (a_iald 139)) (s_iald (by decide +kernel)) <|
  allq qX0_settle 139 (.inl (a_ic 1 140)) (s_iconst (n := 1) (v := 1) rfl (by decide +kernel)) <|
  allq qX0_settle 140 (.inl (a_il 3 141)) (s_iload_n (q := 3) (i := 3) rfl (by decide +kernel)) <|
  allq qX0_settle 141 (.inl (a_ic 1 142)) (s_iconst (n := 1) (v := 1) rfl (by decide +kernel)) <|
  allq qX0_settle 142 (.inl (o_isub 143)) (s_isub (by decide +kernel)) <|
  allq qX0_settle 143 (.inl (o_ishl 144)) (s_ishl (by decide +kernel)) <|
  allq qX0_settle 144 (.inl (o_iadd 145)) (s_iadd (by decide +kernel)) <|
  allq qX0_settle 145 (.inl (a_iast 146)) (s_iast (by decide +kernel)) <|
  allq qX0_settle 146 (.inl (a_inc 2 1 149)) (s_iinc (i := 2) (n := 1) (n2 := 1) rfl (by decide +kernel) (by decide)) <|
  allq qX0_settle 149 (.inl (a_go 97)) (s_goto (off := (-52)) (by decide +kernel) (by decide)) <|
  allq qX0_settle 152 (.inl (a_al 0 153)) (s_aload_n (q := 0) (i := 0) rfl (by decide +kernel)) <|
  allq qX0_settle 153 (.inl (a_ic 1 154)) (s_iconst (n := 1) (v := 1) rfl (by decide +kernel)) <|
  allq qX0_settle 154 (.inl (a_put 0 4 .boolean 157)) (pX0 (f0 := 4) (by decide) rfl rfl tOk kw_183 (by decide +kernel)) <|
  allq qX0_settle 157 (.inr (.inr 0)) (Or.inl ⟨rfl, rfl, by decide +kernel⟩) <|
  alln
theorem kX0_settle : ∀ q ∈ tX0_settle, qX0_settle q := alla kX0_settle_0 (alla kX0_settle_1 kX0_settle_2)
abbrev qX0_canTell : Nat × aI → Prop := OkQ RX0 "canTell" cX0_canTell 3 (some .boolean)
set_option maxRecDepth 20000 in
theorem kX0_canTell_0 : ∀ q ∈ tX0_canTell_0, qX0_canTell q :=
  allq qX0_canTell 0 (.inl (a_al 0 1)) (s_aload_n (q := 0) (i := 0) rfl (by decide +kernel)) <|
  allq qX0_canTell 1 (.inl (a_get 0 4 4)) (gX0 (f0 := 4) (by decide) kw_183 (by decide +kernel)) <|
  allq qX0_canTell 4 (.inl (o_if_ne 9 7)) (s_if_ne (off := 5) (by decide +kernel) (by decide)) <|
  allq qX0_canTell 7 (.inl (a_ic 0 8)) (s_iconst (n := 0) (v := 0) rfl (by decide +kernel)) <|
  allq qX0_canTell 8 (.inr (.inr 3)) (Or.inr (Or.inr (Or.inr ⟨rfl, rfl, by decide +kernel⟩))) <|
  allq qX0_canTell 9 (.inl (a_ic 0 10)) (s_iconst (n := 0) (v := 0) rfl (by decide +kernel)) <|
  allq qX0_canTell 10 (.inl (a_is 2 11)) (s_istore_n (q := 2) (i := 2) rfl (by decide +kernel) (by decide)) <|
  allq qX0_canTell 11 (.inl (a_il 2 12)) (s_iload_n (q := 2) (i := 2) rfl (by decide +kernel)) <|
  allq qX0_canTell 12 (.inl (a_al 1 13)) (s_aload_n (q := 1) (i := 1) rfl (by decide +kernel)) <|
  allq qX0_canTell 13 (.inl (a_len 14)) (s_len (by decide +kernel)) <|
  allq qX0_canTell 14 (.inl (o_icmp_ge 49 17)) (s_icmp_ge (off := 35) (by decide +kernel) (by decide)) <|
  allq qX0_canTell 17 (.inl (a_il 2 18)) (s_iload_n (q := 2) (i := 2) rfl (by decide +kernel)) <|
  allq qX0_canTell 18 (.inl (a_al 0 19)) (s_aload_n (q := 0) (i := 0) rfl (by decide +kernel)) <|
  allq qX0_canTell 19 (.inl (a_get 0 0 22)) (gX0 (f0 := 0) (by decide) kw_177 (by decide +kernel)) <|
  allq qX0_canTell 22 (.inl (a_len 23)) (s_len (by decide +kernel)) <|
  allq qX0_canTell 23 (.inl (o_icmp_ge 49 26)) (s_icmp_ge (off := 26) (by decide +kernel) (by decide)) <|
  allq qX0_canTell 26 (.inl (a_al 1 27)) (s_aload_n (q := 1) (i := 1) rfl (by decide +kernel)) <|
  allq qX0_canTell 27 (.inl (a_il 2 28)) (s_iload_n (q := 2) (i := 2) rfl (by decide +kernel)) <|
  allq qX0_canTell 28 (.inl (a_iald 29)) (s_iald (by decide +kernel)) <|
  allq qX0_canTell 29 (.inl (o_if_le 43 32)) (s_if_le (off := 14) (by decide +kernel) (by decide)) <|
  allq qX0_canTell 32 (.inl (a_al 0 33)) (s_aload_n (q := 0) (i := 0) rfl (by decide +kernel)) <|
  allq qX0_canTell 33 (.inl (a_get 0 0 36)) (gX0 (f0 := 0) (by decide) kw_177 (by decide +kernel)) <|
  allq qX0_canTell 36 (.inl (a_il 2 37)) (s_iload_n (q := 2) (i := 2) rfl (by decide +kernel)) <|
  allq qX0_canTell 37 (.inl (a_iald 38)) (s_iald (by decide +kernel)) <|
  allq qX0_canTell 38 (.inl (o_if_ne 43 41)) (s_if_ne (off := 5) (by decide +kernel) (by decide)) <|
  allq qX0_canTell 41 (.inl (a_ic 0 42)) (s_iconst (n := 0) (v := 0) rfl (by decide +kernel)) <|
  allq qX0_canTell 42 (.inr (.inr 3)) (Or.inr (Or.inr (Or.inr ⟨rfl, rfl, by decide +kernel⟩))) <|
  allq qX0_canTell 43 (.inl (a_inc 2 1 46)) (s_iinc (i := 2) (n := 1) (n2 := 1) rfl (by decide +kernel) (by decide)) <|
  allq qX0_canTell 46 (.inl (a_go 11)) (s_goto (off := (-35)) (by decide +kernel) (by decide)) <|
  allq qX0_canTell 49 (.inl (a_ic 1 50)) (s_iconst (n := 1) (v := 1) rfl (by decide +kernel)) <|
  allq qX0_canTell 50 (.inr (.inr 3)) (Or.inr (Or.inr (Or.inr ⟨rfl, rfl, by decide +kernel⟩))) <|
  alln
theorem kX0_canTell : ∀ q ∈ tX0_canTell, qX0_canTell q := kX0_canTell_0
abbrev qX0_streamBytes : Nat × aI → Prop := OkQ RX0 "streamBytes" cX0_streamBytes 6 (some .int)
set_option maxRecDepth 20000 in
theorem kX0_streamBytes_0 : ∀ q ∈ tX0_streamBytes_0, qX0_streamBytes q :=
  allq qX0_streamBytes 0 (.inl (a_ic 0 1)) (s_iconst (n := 0) (v := 0) rfl (by decide +kernel)) <|
  allq qX0_streamBytes 1 (.inl (a_is 4 3)) (s_istore (i := 4) (by decide +kernel) (by decide)) <|
  allq qX0_streamBytes 3 (.inl (a_il 2 4)) (s_iload_n (q := 2) (i := 2) rfl (by decide +kernel)) <|
  allq qX0_streamBytes 4 (.inl (a_is 5 6)) (s_istore (i := 5) (by decide +kernel) (by decide)) <|
  allq qX0_streamBytes 6 (.inl (a_il 5 8)) (s_iload (i := 5) (by decide +kernel)) <|
  allq qX0_streamBytes 8 (.inl (a_il 3 9)) (s_iload_n (q := 3) (i := 3) rfl (by decide +kernel)) <|
  allq qX0_streamBytes 9 (.inl (o_icmp_ge 36 12)) (s_icmp_ge (off := 27) (by decide +kernel) (by decide)) <|
  allq qX0_streamBytes 12 (.inl (a_il 4 14)) (s_iload (i := 4) (by decide +kernel)) <|
  allq qX0_streamBytes 14 (.inl (a_al 0 15)) (s_aload_n (q := 0) (i := 0) rfl (by decide +kernel)) <|
  allq qX0_streamBytes 15 (.inl (a_get 0 0 18)) (gX0 (f0 := 0) (by decide) kw_177 (by decide +kernel)) <|
  allq qX0_streamBytes 18 (.inl (a_al 1 19)) (s_aload_n (q := 1) (i := 1) rfl (by decide +kernel)) <|
  allq qX0_streamBytes 19 (.inl (a_il 5 21)) (s_iload (i := 5) (by decide +kernel)) <|
  allq qX0_streamBytes 21 (.inl (a_bald 22)) (s_bald (by decide +kernel)) <|
  allq qX0_streamBytes 22 (.inl (a_ic 255 25)) (s_sipush (n := 255) (v := 255) rfl (by decide +kernel)) <|
  allq qX0_streamBytes 25 (.inl (o_iand 26)) (s_iand (by decide +kernel)) <|
  allq qX0_streamBytes 26 (.inl (a_iald 27)) (s_iald (by decide +kernel)) <|
  allq qX0_streamBytes 27 (.inl (o_iadd 28)) (s_iadd (by decide +kernel)) <|
  allq qX0_streamBytes 28 (.inl (a_is 4 30)) (s_istore (i := 4) (by decide +kernel) (by decide)) <|
  allq qX0_streamBytes 30 (.inl (a_inc 5 1 33)) (s_iinc (i := 5) (n := 1) (n2 := 1) rfl (by decide +kernel) (by decide)) <|
  allq qX0_streamBytes 33 (.inl (a_go 6)) (s_goto (off := (-27)) (by decide +kernel) (by decide)) <|
  allq qX0_streamBytes 36 (.inl (a_il 4 38)) (s_iload (i := 4) (by decide +kernel)) <|
  allq qX0_streamBytes 38 (.inl (a_ic 8 40)) (s_bipush (n := 8) (v := 8) rfl (by decide +kernel)) <|
  allq qX0_streamBytes 40 (.inl (o_idiv 41)) (s_idiv (by decide +kernel)) <|
  allq qX0_streamBytes 41 (.inl (a_ic 1 42)) (s_iconst (n := 1) (v := 1) rfl (by decide +kernel)) <|
  allq qX0_streamBytes 42 (.inl (o_iadd 43)) (s_iadd (by decide +kernel)) <|
  allq qX0_streamBytes 43 (.inr (.inr 1)) (Or.inr (Or.inl ⟨rfl, rfl, by decide +kernel⟩)) <|
  alln
theorem kX0_streamBytes : ∀ q ∈ tX0_streamBytes, qX0_streamBytes q := kX0_streamBytes_0
abbrev qX0_putStream : Nat × aI → Prop := OkQ RX0 "putStream" cX0_putStream 7 (none)
set_option maxRecDepth 20000 in
theorem kX0_putStream_0 : ∀ q ∈ tX0_putStream_0, qX0_putStream q :=
  allq qX0_putStream 0 (.inl (a_il 4 2)) (s_iload (i := 4) (by decide +kernel)) <|
  allq qX0_putStream 2 (.inl (a_ic 1 3)) (s_iconst (n := 1) (v := 1) rfl (by decide +kernel)) <|
  allq qX0_putStream 3 (.inl (o_isub 4)) (s_isub (by decide +kernel)) <|
  allq qX0_putStream 4 (.inl (a_is 5 6)) (s_istore (i := 5) (by decide +kernel) (by decide)) <|
  allq qX0_putStream 6 (.inl (a_il 5 8)) (s_iload (i := 5) (by decide +kernel)) <|
  allq qX0_putStream 8 (.inl (a_il 3 9)) (s_iload_n (q := 3) (i := 3) rfl (by decide +kernel)) <|
  allq qX0_putStream 9 (.inl (o_icmp_lt 46 12)) (s_icmp_lt (off := 37) (by decide +kernel) (by decide)) <|
  allq qX0_putStream 12 (.inl (a_al 2 13)) (s_aload_n (q := 2) (i := 2) rfl (by decide +kernel)) <|
  allq qX0_putStream 13 (.inl (a_il 5 15)) (s_iload (i := 5) (by decide +kernel)) <|
  allq qX0_putStream 15 (.inl (a_bald 16)) (s_bald (by decide +kernel)) <|
  allq qX0_putStream 16 (.inl (a_ic 255 19)) (s_sipush (n := 255) (v := 255) rfl (by decide +kernel)) <|
  allq qX0_putStream 19 (.inl (o_iand 20)) (s_iand (by decide +kernel)) <|
  allq qX0_putStream 20 (.inl (a_is 6 22)) (s_istore (i := 6) (by decide +kernel) (by decide)) <|
  allq qX0_putStream 22 (.inl (a_al 1 23)) (s_aload_n (q := 1) (i := 1) rfl (by decide +kernel)) <|
  allq qX0_putStream 23 (.inl (a_al 0 24)) (s_aload_n (q := 0) (i := 0) rfl (by decide +kernel)) <|
  allq qX0_putStream 24 (.inl (a_get 0 1 27)) (gX0 (f0 := 1) (by decide) kw_180 (by decide +kernel)) <|
  allq qX0_putStream 27 (.inl (a_il 6 29)) (s_iload (i := 6) (by decide +kernel)) <|
  allq qX0_putStream 29 (.inl (a_iald 30)) (s_iald (by decide +kernel)) <|
  allq qX0_putStream 30 (.inl (a_al 0 31)) (s_aload_n (q := 0) (i := 0) rfl (by decide +kernel)) <|
  allq qX0_putStream 31 (.inl (a_get 0 0 34)) (gX0 (f0 := 0) (by decide) kw_177 (by decide +kernel)) <|
  allq qX0_putStream 34 (.inl (a_il 6 36)) (s_iload (i := 6) (by decide +kernel)) <|
  allq qX0_putStream 36 (.inl (a_iald 37)) (s_iald (by decide +kernel)) <|
  allq qX0_putStream 37 (.inr (.inl (90, 3, 8))) (okV (y := yX7_addBits) kw_921 kw_105 rfl rfl (by decide +kernel) kw_919 kw_920 kw_1060) <|
  allq qX0_putStream 40 (.inl (a_inc 5 (-1) 43)) (s_iinc (i := 5) (n := (-1)) (n2 := (-1)) rfl (by decide +kernel) (by decide)) <|
  allq qX0_putStream 43 (.inl (a_go 6)) (s_goto (off := (-37)) (by decide +kernel) (by decide)) <|
  allq qX0_putStream 46 (.inl (a_al 1 47)) (s_aload_n (q := 1) (i := 1) rfl (by decide +kernel)) <|
  allq qX0_putStream 47 (.inr (.inl (92, 1, 8))) (okV (y := yX7_endStream) kw_951 kw_105 rfl rfl (by decide +kernel) kw_949 kw_950 kw_1061) <|
  allq qX0_putStream 50 (.inr (.inr 0)) (Or.inl ⟨rfl, rfl, by decide +kernel⟩) <|
  alln
theorem kX0_putStream : ∀ q ∈ tX0_putStream, qX0_putStream q := kX0_putStream_0
abbrev qX1_init : Nat × aI → Prop := OkQ RX1 "<init>" cX1_init 5 (none)
set_option maxRecDepth 20000 in
theorem kX1_init_0 : ∀ q ∈ tX1_init_0, qX1_init q :=
  allq qX1_init 0 (.inl (a_al 0 1)) (s_aload_n (q := 0) (i := 0) rfl (by decide +kernel)) <|
  allq qX1_init 1 (.inl (a_oi 4)) (s_oi kw_422 kw_126 kw_127 (by decide +kernel)) <|
  allq qX1_init 4 (.inl (a_al 0 5)) (s_aload_n (q := 0) (i := 0) rfl (by decide +kernel)) <|
  allq qX1_init 5 (.inl (a_ic 2667 8)) (s_sipush (n := 2667) (v := 2667) rfl (by decide +kernel)) <|
  allq qX1_init 8 (.inl (a_newa 1 10)) (na_int kw_197 (by decide +kernel)) <|
  allq qX1_init 10 (.inl (a_put 1 3 (.array .int) 13)) (fX1 (f0 := 3) (by decide) rfl rfl rfl tOk kw_431 (by decide +kernel)) <|
  allq qX1_init 13 (.inl (a_al 0 14)) (s_aload_n (q := 0) (i := 0) rfl (by decide +kernel)) <|
  allq qX1_init 14 (.inl (a_ic 2667 17)) (s_sipush (n := 2667) (v := 2667) rfl (by decide +kernel)) <|
  allq qX1_init 17 (.inl (a_newa 1 19)) (na_int kw_197 (by decide +kernel)) <|
  allq qX1_init 19 (.inl (a_put 1 4 (.array .int) 22)) (fX1 (f0 := 4) (by decide) rfl rfl rfl tOk kw_432 (by decide +kernel)) <|
  allq qX1_init 22 (.inl (a_al 0 23)) (s_aload_n (q := 0) (i := 0) rfl (by decide +kernel)) <|
  allq qX1_init 23 (.inl (a_new 7 5 zX7 26)) (nX7 kw_423 (by decide +kernel)) <|
  allq qX1_init 26 (.inl (a_dup 27)) (s_dup (by decide +kernel)) <|
  allq qX1_init 27 (.inl (a_ic 128 30)) (s_sipush (n := 128) (v := 128) rfl (by decide +kernel)) <|
  allq qX1_init 30 (.inr (.inl (84, 2, 8))) (okN (y := yX7_init) kw_132 kw_105 rfl (by decide +kernel) kw_131 (Or.inl kw_424)) <|
  allq qX1_init 33 (.inl (a_put 1 13 (.object "StatePress$Row") 36)) (fX1 (f0 := 13) (by decide) rfl rfl rfl tOk kw_441 (by decide +kernel)) <|
  allq qX1_init 36 (.inl (a_al 0 37)) (s_aload_n (q := 0) (i := 0) rfl (by decide +kernel)) <|
  allq qX1_init 37 (.inl (a_al 1 38)) (s_aload_n (q := 1) (i := 1) rfl (by decide +kernel)) <|
  allq qX1_init 38 (.inl (a_put 1 0 (.array .int) 41)) (fX1 (f0 := 0) (by decide) rfl rfl rfl tOk kw_428 (by decide +kernel)) <|
  allq qX1_init 41 (.inl (a_al 0 42)) (s_aload_n (q := 0) (i := 0) rfl (by decide +kernel)) <|
  allq qX1_init 42 (.inl (a_al 2 43)) (s_aload_n (q := 2) (i := 2) rfl (by decide +kernel)) <|
  allq qX1_init 43 (.inl (a_put 1 1 (.array .int) 46)) (fX1 (f0 := 1) (by decide) rfl rfl rfl tOk kw_429 (by decide +kernel)) <|
  allq qX1_init 46 (.inl (a_al 0 47)) (s_aload_n (q := 0) (i := 0) rfl (by decide +kernel)) <|
  allq qX1_init 47 (.inl (a_il 4 49)) (s_iload (i := 4) (by decide +kernel)) <|
  allq qX1_init 49 (.inl (a_put 1 2 .int 52)) (fX1 (f0 := 2) (by decide) rfl rfl rfl tOk kw_430 (by decide +kernel)) <|
  allq qX1_init 52 (.inl (a_al 0 53)) (s_aload_n (q := 0) (i := 0) rfl (by decide +kernel)) <|
  allq qX1_init 53 (.inl (a_il 3 54)) (s_iload_n (q := 3) (i := 3) rfl (by decide +kernel)) <|
  allq qX1_init 54 (.inl (a_ic 0 55)) (s_iconst (n := 0) (v := 0) rfl (by decide +kernel)) <|
  allq qX1_init 55 (.inl (o_mmax 58)) (s_mmax kw_425 kw_135 kw_106 kw_136 (by decide +kernel)) <|
  allq qX1_init 58 (.inl (a_ic 1 59)) (s_iconst (n := 1) (v := 1) rfl (by decide +kernel)) <|
  allq qX1_init 59 (.inl (o_iadd 60)) (s_iadd (by decide +kernel)) <|
  allq qX1_init 60 (.inl (a_newa 1 62)) (na_int kw_197 (by decide +kernel)) <|
  allq qX1_init 62 (.inl (a_put 1 5 (.array .int) 65)) (fX1 (f0 := 5) (by decide) rfl rfl rfl tOk kw_433 (by decide +kernel)) <|
  allq qX1_init 65 (.inl (a_al 0 66)) (s_aload_n (q := 0) (i := 0) rfl (by decide +kernel)) <|
  allq qX1_init 66 (.inl (a_new 8 9 zX8 69)) (nX8 kw_426 (by decide +kernel)) <|
  allq qX1_init 69 (.inl (a_dup 70)) (s_dup (by decide +kernel)) <|
  allq qX1_init 70 (.inl (a_il 3 71)) (s_iload_n (q := 3) (i := 3) rfl (by decide +kernel)) <|
  allq qX1_init 71 (.inl (a_il 4 73)) (s_iload (i := 4) (by decide +kernel)) <|
  allq qX1_init 73 (.inr (.inl (96, 3, 9))) (okN (y := yX8_init) kw_202 kw_109 rfl (by decide +kernel) kw_201 (Or.inl kw_427)) <|
  allq qX1_init 76 (.inl (a_put 1 9 (.object "StatePress$Share") 79)) (fX1 (f0 := 9) (by decide) rfl rfl rfl tOk kw_437 (by decide +kernel)) <|
  alln
set_option maxRecDepth 20000 in
theorem kX1_init_1 : ∀ q ∈ tX1_init_1, qX1_init q :=
  allq qX1_init 79 (.inl (a_al 0 80)) (s_aload_n (q := 0) (i := 0) rfl (by decide +kernel)) <|
  allq qX1_init 80 (.inl (a_new 8 9 zX8 83)) (nX8 kw_426 (by decide +kernel)) <|
  allq qX1_init 83 (.inl (a_dup 84)) (s_dup (by decide +kernel)) <|
  allq qX1_init 84 (.inl (a_il 3 85)) (s_iload_n (q := 3) (i := 3) rfl (by decide +kernel)) <|
  allq qX1_init 85 (.inl (a_il 4 87)) (s_iload (i := 4) (by decide +kernel)) <|
  allq qX1_init 87 (.inr (.inl (96, 3, 9))) (okN (y := yX8_init) kw_202 kw_109 rfl (by decide +kernel) kw_201 (Or.inl kw_427)) <|
  allq qX1_init 90 (.inl (a_put 1 10 (.object "StatePress$Share") 93)) (fX1 (f0 := 10) (by decide) rfl rfl rfl tOk kw_438 (by decide +kernel)) <|
  allq qX1_init 93 (.inl (a_al 0 94)) (s_aload_n (q := 0) (i := 0) rfl (by decide +kernel)) <|
  allq qX1_init 94 (.inl (a_new 8 9 zX8 97)) (nX8 kw_426 (by decide +kernel)) <|
  allq qX1_init 97 (.inl (a_dup 98)) (s_dup (by decide +kernel)) <|
  allq qX1_init 98 (.inl (a_il 3 99)) (s_iload_n (q := 3) (i := 3) rfl (by decide +kernel)) <|
  allq qX1_init 99 (.inl (a_il 4 101)) (s_iload (i := 4) (by decide +kernel)) <|
  allq qX1_init 101 (.inr (.inl (96, 3, 9))) (okN (y := yX8_init) kw_202 kw_109 rfl (by decide +kernel) kw_201 (Or.inl kw_427)) <|
  allq qX1_init 104 (.inl (a_put 1 11 (.object "StatePress$Share") 107)) (fX1 (f0 := 11) (by decide) rfl rfl rfl tOk kw_439 (by decide +kernel)) <|
  allq qX1_init 107 (.inl (a_al 0 108)) (s_aload_n (q := 0) (i := 0) rfl (by decide +kernel)) <|
  allq qX1_init 108 (.inl (a_al 0 109)) (s_aload_n (q := 0) (i := 0) rfl (by decide +kernel)) <|
  allq qX1_init 109 (.inl (a_get 1 9 112)) (gX1 (f0 := 9) (by decide) kw_437 (by decide +kernel)) <|
  allq qX1_init 112 (.inl (a_put 1 12 (.object "StatePress$Share") 115)) (pX1 (f0 := 12) (by decide) rfl rfl tOk kw_440 (by decide +kernel)) <|
  allq qX1_init 115 (.inr (.inr 0)) (Or.inl ⟨rfl, rfl, by decide +kernel⟩) <|
  alln
theorem kX1_init : ∀ q ∈ tX1_init, qX1_init q := alla kX1_init_0 kX1_init_1
abbrev qX1_know : Nat × aI → Prop := OkQ RX1 "know" cX1_know 3 (none)
set_option maxRecDepth 20000 in
theorem kX1_know_0 : ∀ q ∈ tX1_know_0, qX1_know q :=
  allq qX1_know 0 (.inl (a_al 0 1)) (s_aload_n (q := 0) (i := 0) rfl (by decide +kernel)) <|
  allq qX1_know 1 (.inl (a_get 1 9 4)) (gX1 (f0 := 9) (by decide) kw_437 (by decide +kernel)) <|
  allq qX1_know 4 (.inl (a_al 1 5)) (s_aload_n (q := 1) (i := 1) rfl (by decide +kernel)) <|
  allq qX1_know 5 (.inl (a_il 2 6)) (s_iload_n (q := 2) (i := 2) rfl (by decide +kernel)) <|
  allq qX1_know 6 (.inr (.inl (98, 3, 9))) (okV (y := yX8_beOf) kw_493 kw_109 rfl rfl (by decide +kernel) kw_491 kw_492 kw_490) <|
  allq qX1_know 9 (.inr (.inr 0)) (Or.inl ⟨rfl, rfl, by decide +kernel⟩) <|
  alln
theorem kX1_know : ∀ q ∈ tX1_know, qX1_know q := kX1_know_0
abbrev qX1_begin : Nat × aI → Prop := OkQ RX1 "begin" cX1_begin 2 (none)
set_option maxRecDepth 20000 in
theorem kX1_begin_0 : ∀ q ∈ tX1_begin_0, qX1_begin q :=
  allq qX1_begin 0 (.inl (a_al 0 1)) (s_aload_n (q := 0) (i := 0) rfl (by decide +kernel)) <|
  allq qX1_begin 1 (.inl (a_get 1 10 4)) (gX1 (f0 := 10) (by decide) kw_438 (by decide +kernel)) <|
  allq qX1_begin 4 (.inl (a_al 1 5)) (s_aload_n (q := 1) (i := 1) rfl (by decide +kernel)) <|
  allq qX1_begin 5 (.inr (.inl (97, 2, 9))) (okV (y := yX8_become) kw_759 kw_109 rfl rfl (by decide +kernel) kw_757 kw_758 kw_756) <|
  allq qX1_begin 8 (.inr (.inr 0)) (Or.inl ⟨rfl, rfl, by decide +kernel⟩) <|
  alln
theorem kX1_begin : ∀ q ∈ tX1_begin, qX1_begin q := kX1_begin_0
abbrev qX1_drop : Nat × aI → Prop := OkQ RX1 "drop" cX1_drop 1 (none)
set_option maxRecDepth 20000 in
theorem kX1_drop_0 : ∀ q ∈ tX1_drop_0, qX1_drop q :=
  allq qX1_drop 0 (.inl (a_al 0 1)) (s_aload_n (q := 0) (i := 0) rfl (by decide +kernel)) <|
  allq qX1_drop 1 (.inl (a_ic 0 2)) (s_iconst (n := 0) (v := 0) rfl (by decide +kernel)) <|
  allq qX1_drop 2 (.inl (a_put 1 6 .int 5)) (pX1 (f0 := 6) (by decide) rfl rfl tOk kw_434 (by decide +kernel)) <|
  allq qX1_drop 5 (.inl (a_al 0 6)) (s_aload_n (q := 0) (i := 0) rfl (by decide +kernel)) <|
  allq qX1_drop 6 (.inl (a_ic 0 7)) (s_iconst (n := 0) (v := 0) rfl (by decide +kernel)) <|
  allq qX1_drop 7 (.inl (a_put 1 7 .int 10)) (pX1 (f0 := 7) (by decide) rfl rfl tOk kw_435 (by decide +kernel)) <|
  allq qX1_drop 10 (.inl (a_al 0 11)) (s_aload_n (q := 0) (i := 0) rfl (by decide +kernel)) <|
  allq qX1_drop 11 (.inl (a_ic 0 12)) (s_iconst (n := 0) (v := 0) rfl (by decide +kernel)) <|
  allq qX1_drop 12 (.inl (a_put 1 8 .int 15)) (pX1 (f0 := 8) (by decide) rfl rfl tOk kw_436 (by decide +kernel)) <|
  allq qX1_drop 15 (.inl (a_al 0 16)) (s_aload_n (q := 0) (i := 0) rfl (by decide +kernel)) <|
  allq qX1_drop 16 (.inl (a_get 1 5 19)) (gX1 (f0 := 5) (by decide) kw_433 (by decide +kernel)) <|
  allq qX1_drop 19 (.inl (a_ic 0 20)) (s_iconst (n := 0) (v := 0) rfl (by decide +kernel)) <|
  allq qX1_drop 20 (.inr (.inl (223, 2, 0))) (okS (y := yJ7_fill_53178) kw_496 kw_116 rfl (by decide +kernel) kw_495 (Or.inl kw_804)) <|
  allq qX1_drop 23 (.inr (.inr 0)) (Or.inl ⟨rfl, rfl, by decide +kernel⟩) <|
  alln
theorem kX1_drop : ∀ q ∈ tX1_drop, qX1_drop q := kX1_drop_0
abbrev qX1_add : Nat × aI → Prop := OkQ RX1 "add" cX1_add 3 (none)
set_option maxRecDepth 20000 in
theorem kX1_add_0 : ∀ q ∈ tX1_add_0, qX1_add q :=
  allq qX1_add 0 (.inl (a_ic 0 1)) (s_iconst (n := 0) (v := 0) rfl (by decide +kernel)) <|
  allq qX1_add 1 (.inl (a_is 2 2)) (s_istore_n (q := 2) (i := 2) rfl (by decide +kernel) (by decide)) <|
  allq qX1_add 2 (.inl (a_il 2 3)) (s_iload_n (q := 2) (i := 2) rfl (by decide +kernel)) <|
  allq qX1_add 3 (.inl (a_ic 1 4)) (s_iconst (n := 1) (v := 1) rfl (by decide +kernel)) <|
  allq qX1_add 4 (.inl (o_iadd 5)) (s_iadd (by decide +kernel)) <|
  allq qX1_add 5 (.inl (a_al 0 6)) (s_aload_n (q := 0) (i := 0) rfl (by decide +kernel)) <|
  allq qX1_add 6 (.inl (a_get 1 0 9)) (gX1 (f0 := 0) (by decide) kw_428 (by decide +kernel)) <|
  allq qX1_add 9 (.inl (a_len 10)) (s_len (by decide +kernel)) <|
  allq qX1_add 10 (.inl (o_icmp_ge 31 13)) (s_icmp_ge (off := 21) (by decide +kernel) (by decide)) <|
  allq qX1_add 13 (.inl (a_al 0 14)) (s_aload_n (q := 0) (i := 0) rfl (by decide +kernel)) <|
  allq qX1_add 14 (.inl (a_get 1 0 17)) (gX1 (f0 := 0) (by decide) kw_428 (by decide +kernel)) <|
  allq qX1_add 17 (.inl (a_il 2 18)) (s_iload_n (q := 2) (i := 2) rfl (by decide +kernel)) <|
  allq qX1_add 18 (.inl (a_ic 1 19)) (s_iconst (n := 1) (v := 1) rfl (by decide +kernel)) <|
  allq qX1_add 19 (.inl (o_iadd 20)) (s_iadd (by decide +kernel)) <|
  allq qX1_add 20 (.inl (a_iald 21)) (s_iald (by decide +kernel)) <|
  allq qX1_add 21 (.inl (a_il 1 22)) (s_iload_n (q := 1) (i := 1) rfl (by decide +kernel)) <|
  allq qX1_add 22 (.inl (o_icmp_gt 31 25)) (s_icmp_gt (off := 9) (by decide +kernel) (by decide)) <|
  allq qX1_add 25 (.inl (a_inc 2 1 28)) (s_iinc (i := 2) (n := 1) (n2 := 1) rfl (by decide +kernel) (by decide)) <|
  allq qX1_add 28 (.inl (a_go 2)) (s_goto (off := (-26)) (by decide +kernel) (by decide)) <|
  allq qX1_add 31 (.inl (a_al 0 32)) (s_aload_n (q := 0) (i := 0) rfl (by decide +kernel)) <|
  allq qX1_add 32 (.inl (a_get 1 6 35)) (gX1 (f0 := 6) (by decide) kw_434 (by decide +kernel)) <|
  allq qX1_add 35 (.inl (a_al 0 36)) (s_aload_n (q := 0) (i := 0) rfl (by decide +kernel)) <|
  allq qX1_add 36 (.inl (a_get 1 3 39)) (gX1 (f0 := 3) (by decide) kw_431 (by decide +kernel)) <|
  allq qX1_add 39 (.inl (a_len 40)) (s_len (by decide +kernel)) <|
  allq qX1_add 40 (.inl (o_icmp_ge 130 43)) (s_icmp_ge (off := 90) (by decide +kernel) (by decide)) <|
  allq qX1_add 43 (.inl (a_il 2 44)) (s_iload_n (q := 2) (i := 2) rfl (by decide +kernel)) <|
  allq qX1_add 44 (.inl (a_al 0 45)) (s_aload_n (q := 0) (i := 0) rfl (by decide +kernel)) <|
  allq qX1_add 45 (.inl (a_get 1 5 48)) (gX1 (f0 := 5) (by decide) kw_433 (by decide +kernel)) <|
  allq qX1_add 48 (.inl (a_len 49)) (s_len (by decide +kernel)) <|
  allq qX1_add 49 (.inl (o_icmp_ge 130 52)) (s_icmp_ge (off := 81) (by decide +kernel) (by decide)) <|
  allq qX1_add 52 (.inl (a_al 0 53)) (s_aload_n (q := 0) (i := 0) rfl (by decide +kernel)) <|
  allq qX1_add 53 (.inl (a_get 1 3 56)) (gX1 (f0 := 3) (by decide) kw_431 (by decide +kernel)) <|
  allq qX1_add 56 (.inl (a_al 0 57)) (s_aload_n (q := 0) (i := 0) rfl (by decide +kernel)) <|
  allq qX1_add 57 (.inl (a_get 1 6 60)) (gX1 (f0 := 6) (by decide) kw_434 (by decide +kernel)) <|
  allq qX1_add 60 (.inl (a_il 2 61)) (s_iload_n (q := 2) (i := 2) rfl (by decide +kernel)) <|
  allq qX1_add 61 (.inl (a_iast 62)) (s_iast (by decide +kernel)) <|
  allq qX1_add 62 (.inl (a_al 0 63)) (s_aload_n (q := 0) (i := 0) rfl (by decide +kernel)) <|
  allq qX1_add 63 (.inl (a_get 1 4 66)) (gX1 (f0 := 4) (by decide) kw_432 (by decide +kernel)) <|
  allq qX1_add 66 (.inl (a_al 0 67)) (s_aload_n (q := 0) (i := 0) rfl (by decide +kernel)) <|
  allq qX1_add 67 (.inl (a_get 1 6 70)) (gX1 (f0 := 6) (by decide) kw_434 (by decide +kernel)) <|
  alln
set_option maxRecDepth 20000 in
theorem kX1_add_1 : ∀ q ∈ tX1_add_1, qX1_add q :=
  allq qX1_add 70 (.inl (a_il 1 71)) (s_iload_n (q := 1) (i := 1) rfl (by decide +kernel)) <|
  allq qX1_add 71 (.inl (a_iast 72)) (s_iast (by decide +kernel)) <|
  allq qX1_add 72 (.inl (a_al 0 73)) (s_aload_n (q := 0) (i := 0) rfl (by decide +kernel)) <|
  allq qX1_add 73 (.inl (a_dup 74)) (s_dup (by decide +kernel)) <|
  allq qX1_add 74 (.inl (a_get 1 6 77)) (gX1 (f0 := 6) (by decide) kw_434 (by decide +kernel)) <|
  allq qX1_add 77 (.inl (a_ic 1 78)) (s_iconst (n := 1) (v := 1) rfl (by decide +kernel)) <|
  allq qX1_add 78 (.inl (o_iadd 79)) (s_iadd (by decide +kernel)) <|
  allq qX1_add 79 (.inl (a_put 1 6 .int 82)) (pX1 (f0 := 6) (by decide) rfl rfl tOk kw_434 (by decide +kernel)) <|
  allq qX1_add 82 (.inl (a_al 0 83)) (s_aload_n (q := 0) (i := 0) rfl (by decide +kernel)) <|
  allq qX1_add 83 (.inl (a_dup 84)) (s_dup (by decide +kernel)) <|
  allq qX1_add 84 (.inl (a_get 1 7 87)) (gX1 (f0 := 7) (by decide) kw_435 (by decide +kernel)) <|
  allq qX1_add 87 (.inl (a_al 0 88)) (s_aload_n (q := 0) (i := 0) rfl (by decide +kernel)) <|
  allq qX1_add 88 (.inl (a_get 1 5 91)) (gX1 (f0 := 5) (by decide) kw_433 (by decide +kernel)) <|
  allq qX1_add 91 (.inl (a_il 2 92)) (s_iload_n (q := 2) (i := 2) rfl (by decide +kernel)) <|
  allq qX1_add 92 (.inl (a_iald 93)) (s_iald (by decide +kernel)) <|
  allq qX1_add 93 (.inl (o_if_ne 100 96)) (s_if_ne (off := 7) (by decide +kernel) (by decide)) <|
  allq qX1_add 96 (.inl (a_ic 1 97)) (s_iconst (n := 1) (v := 1) rfl (by decide +kernel)) <|
  allq qX1_add 97 (.inl (a_go 101)) (s_goto (off := 4) (by decide +kernel) (by decide)) <|
  allq qX1_add 100 (.inl (a_ic 0 101)) (s_iconst (n := 0) (v := 0) rfl (by decide +kernel)) <|
  allq qX1_add 101 (.inl (o_iadd 102)) (s_iadd (by decide +kernel)) <|
  allq qX1_add 102 (.inl (a_put 1 7 .int 105)) (pX1 (f0 := 7) (by decide) rfl rfl tOk kw_435 (by decide +kernel)) <|
  allq qX1_add 105 (.inl (a_al 0 106)) (s_aload_n (q := 0) (i := 0) rfl (by decide +kernel)) <|
  allq qX1_add 106 (.inl (a_get 1 5 109)) (gX1 (f0 := 5) (by decide) kw_433 (by decide +kernel)) <|
  allq qX1_add 109 (.inl (a_il 2 110)) (s_iload_n (q := 2) (i := 2) rfl (by decide +kernel)) <|
  allq qX1_add 110 (.inl (a_dup2 111)) (s_dup2 (by decide +kernel)) <|
  allq qX1_add 111 (.inl (a_iald 112)) (s_iald (by decide +kernel)) <|
  allq qX1_add 112 (.inl (a_ic 1 113)) (s_iconst (n := 1) (v := 1) rfl (by decide +kernel)) <|
  allq qX1_add 113 (.inl (o_iadd 114)) (s_iadd (by decide +kernel)) <|
  allq qX1_add 114 (.inl (a_iast 115)) (s_iast (by decide +kernel)) <|
  allq qX1_add 115 (.inl (a_al 0 116)) (s_aload_n (q := 0) (i := 0) rfl (by decide +kernel)) <|
  allq qX1_add 116 (.inl (a_dup 117)) (s_dup (by decide +kernel)) <|
  allq qX1_add 117 (.inl (a_get 1 8 120)) (gX1 (f0 := 8) (by decide) kw_436 (by decide +kernel)) <|
  allq qX1_add 120 (.inl (a_al 0 121)) (s_aload_n (q := 0) (i := 0) rfl (by decide +kernel)) <|
  allq qX1_add 121 (.inl (a_get 1 1 124)) (gX1 (f0 := 1) (by decide) kw_429 (by decide +kernel)) <|
  allq qX1_add 124 (.inl (a_il 2 125)) (s_iload_n (q := 2) (i := 2) rfl (by decide +kernel)) <|
  allq qX1_add 125 (.inl (a_iald 126)) (s_iald (by decide +kernel)) <|
  allq qX1_add 126 (.inl (o_iadd 127)) (s_iadd (by decide +kernel)) <|
  allq qX1_add 127 (.inl (a_put 1 8 .int 130)) (pX1 (f0 := 8) (by decide) rfl rfl tOk kw_436 (by decide +kernel)) <|
  allq qX1_add 130 (.inr (.inr 0)) (Or.inl ⟨rfl, rfl, by decide +kernel⟩) <|
  alln
theorem kX1_add : ∀ q ∈ tX1_add, qX1_add q := alla kX1_add_0 kX1_add_1
abbrev qX1_choose : Nat × aI → Prop := OkQ RX1 "choose" cX1_choose 2 (some .int)
set_option maxRecDepth 20000 in
theorem kX1_choose_0 : ∀ q ∈ tX1_choose_0, qX1_choose q :=
  allq qX1_choose 0 (.inl (a_al 0 1)) (s_aload_n (q := 0) (i := 0) rfl (by decide +kernel)) <|
  allq qX1_choose 1 (.inl (a_get 1 6 4)) (gX1 (f0 := 6) (by decide) kw_434 (by decide +kernel)) <|
  allq qX1_choose 4 (.inl (o_if_ne 9 7)) (s_if_ne (off := 5) (by decide +kernel) (by decide)) <|
  allq qX1_choose 7 (.inl (a_ic 0 8)) (s_iconst (n := 0) (v := 0) rfl (by decide +kernel)) <|
  allq qX1_choose 8 (.inr (.inr 1)) (Or.inr (Or.inl ⟨rfl, rfl, by decide +kernel⟩)) <|
  allq qX1_choose 9 (.inl (a_al 0 10)) (s_aload_n (q := 0) (i := 0) rfl (by decide +kernel)) <|
  allq qX1_choose 10 (.inl (a_ic 1073741824 12)) (s_ldc kw_962 (by decide +kernel)) <|
  allq qX1_choose 12 (.inl (a_put 1 15 .int 15)) (pX1 (f0 := 15) (by decide) rfl rfl tOk kw_444 (by decide +kernel)) <|
  allq qX1_choose 15 (.inl (a_al 0 16)) (s_aload_n (q := 0) (i := 0) rfl (by decide +kernel)) <|
  allq qX1_choose 16 (.inl (a_get 1 9 19)) (gX1 (f0 := 9) (by decide) kw_437 (by decide +kernel)) <|
  allq qX1_choose 19 (.inl (a_al 0 20)) (s_aload_n (q := 0) (i := 0) rfl (by decide +kernel)) <|
  allq qX1_choose 20 (.inl (a_get 1 5 23)) (gX1 (f0 := 5) (by decide) kw_433 (by decide +kernel)) <|
  allq qX1_choose 23 (.inr (.inl (106, 2, 9))) (okV (y := yX8_canTell) kw_966 kw_109 rfl rfl (by decide +kernel) kw_964 kw_965 kw_963) <|
  allq qX1_choose 26 (.inl (o_if_eq 53 29)) (s_if_eq (off := 27) (by decide +kernel) (by decide)) <|
  allq qX1_choose 29 (.inl (a_al 0 30)) (s_aload_n (q := 0) (i := 0) rfl (by decide +kernel)) <|
  allq qX1_choose 30 (.inl (a_ic 0 31)) (s_iconst (n := 0) (v := 0) rfl (by decide +kernel)) <|
  allq qX1_choose 31 (.inl (a_al 0 32)) (s_aload_n (q := 0) (i := 0) rfl (by decide +kernel)) <|
  allq qX1_choose 32 (.inl (a_get 1 9 35)) (gX1 (f0 := 9) (by decide) kw_437 (by decide +kernel)) <|
  allq qX1_choose 35 (.inl (a_al 0 36)) (s_aload_n (q := 0) (i := 0) rfl (by decide +kernel)) <|
  allq qX1_choose 36 (.inl (a_get 1 9 39)) (gX1 (f0 := 9) (by decide) kw_437 (by decide +kernel)) <|
  allq qX1_choose 39 (.inl (a_al 0 40)) (s_aload_n (q := 0) (i := 0) rfl (by decide +kernel)) <|
  allq qX1_choose 40 (.inl (a_get 1 3 43)) (gX1 (f0 := 3) (by decide) kw_431 (by decide +kernel)) <|
  allq qX1_choose 43 (.inl (a_al 0 44)) (s_aload_n (q := 0) (i := 0) rfl (by decide +kernel)) <|
  allq qX1_choose 44 (.inl (a_get 1 6 47)) (gX1 (f0 := 6) (by decide) kw_434 (by decide +kernel)) <|
  allq qX1_choose 47 (.inr (.inl (110, 3, 9))) (okV (y := yX8_rowBits) kw_970 kw_109 rfl rfl (by decide +kernel) kw_968 kw_969 kw_967) <|
  allq qX1_choose 50 (.inr (.inl (13, 4, 2))) (okV (y := yX1_consider) kw_977 kw_115 rfl rfl (by decide +kernel) kw_976 kw_24 kw_974) <|
  allq qX1_choose 53 (.inl (a_al 0 54)) (s_aload_n (q := 0) (i := 0) rfl (by decide +kernel)) <|
  allq qX1_choose 54 (.inl (a_get 1 7 57)) (gX1 (f0 := 7) (by decide) kw_435 (by decide +kernel)) <|
  allq qX1_choose 57 (.inl (a_ic 1 58)) (s_iconst (n := 1) (v := 1) rfl (by decide +kernel)) <|
  allq qX1_choose 58 (.inl (o_icmp_ne 72 61)) (s_icmp_ne (off := 14) (by decide +kernel) (by decide)) <|
  allq qX1_choose 61 (.inl (a_al 0 62)) (s_aload_n (q := 0) (i := 0) rfl (by decide +kernel)) <|
  allq qX1_choose 62 (.inl (a_ic 1 63)) (s_iconst (n := 1) (v := 1) rfl (by decide +kernel)) <|
  allq qX1_choose 63 (.inl (a_al 0 64)) (s_aload_n (q := 0) (i := 0) rfl (by decide +kernel)) <|
  allq qX1_choose 64 (.inl (a_get 1 11 67)) (gX1 (f0 := 11) (by decide) kw_439 (by decide +kernel)) <|
  allq qX1_choose 67 (.inl (a_ic 8 69)) (s_bipush (n := 8) (v := 8) rfl (by decide +kernel)) <|
  allq qX1_choose 69 (.inr (.inl (13, 4, 2))) (okV (y := yX1_consider) kw_977 kw_115 rfl rfl (by decide +kernel) kw_976 kw_24 kw_974) <|
  allq qX1_choose 72 (.inl (a_al 0 73)) (s_aload_n (q := 0) (i := 0) rfl (by decide +kernel)) <|
  allq qX1_choose 73 (.inl (a_al 0 74)) (s_aload_n (q := 0) (i := 0) rfl (by decide +kernel)) <|
  allq qX1_choose 74 (.inl (a_get 1 15 77)) (gX1 (f0 := 15) (by decide) kw_444 (by decide +kernel)) <|
  allq qX1_choose 77 (.inr (.inl (14, 2, 2))) (okV (y := yX1_orderBelow) kw_981 kw_115 rfl rfl (by decide +kernel) kw_980 kw_25 kw_978) <|
  alln
set_option maxRecDepth 20000 in
theorem kX1_choose_1 : ∀ q ∈ tX1_choose_1, qX1_choose q :=
  allq qX1_choose 80 (.inl (a_is 1 81)) (s_istore_n (q := 1) (i := 1) rfl (by decide +kernel) (by decide)) <|
  allq qX1_choose 81 (.inl (a_il 1 82)) (s_iload_n (q := 1) (i := 1) rfl (by decide +kernel)) <|
  allq qX1_choose 82 (.inl (o_if_le 98 85)) (s_if_le (off := 16) (by decide +kernel) (by decide)) <|
  allq qX1_choose 85 (.inl (a_al 0 86)) (s_aload_n (q := 0) (i := 0) rfl (by decide +kernel)) <|
  allq qX1_choose 86 (.inl (a_ic 2 87)) (s_iconst (n := 2) (v := 2) rfl (by decide +kernel)) <|
  allq qX1_choose 87 (.inl (a_al 0 88)) (s_aload_n (q := 0) (i := 0) rfl (by decide +kernel)) <|
  allq qX1_choose 88 (.inl (a_get 1 11 91)) (gX1 (f0 := 11) (by decide) kw_439 (by decide +kernel)) <|
  allq qX1_choose 91 (.inl (a_al 0 92)) (s_aload_n (q := 0) (i := 0) rfl (by decide +kernel)) <|
  allq qX1_choose 92 (.inl (a_get 1 16 95)) (gX1 (f0 := 16) (by decide) kw_445 (by decide +kernel)) <|
  allq qX1_choose 95 (.inr (.inl (13, 4, 2))) (okV (y := yX1_consider) kw_977 kw_115 rfl rfl (by decide +kernel) kw_976 kw_24 kw_974) <|
  allq qX1_choose 98 (.inl (a_al 0 99)) (s_aload_n (q := 0) (i := 0) rfl (by decide +kernel)) <|
  allq qX1_choose 99 (.inl (a_get 1 10 102)) (gX1 (f0 := 10) (by decide) kw_438 (by decide +kernel)) <|
  allq qX1_choose 102 (.inl (a_get 8 8 105)) (gX8 (f0 := 8) (by decide) kw_217 (by decide +kernel)) <|
  allq qX1_choose 105 (.inl (o_if_eq 146 108)) (s_if_eq (off := 41) (by decide +kernel) (by decide)) <|
  allq qX1_choose 108 (.inl (a_al 0 109)) (s_aload_n (q := 0) (i := 0) rfl (by decide +kernel)) <|
  allq qX1_choose 109 (.inl (a_get 1 10 112)) (gX1 (f0 := 10) (by decide) kw_438 (by decide +kernel)) <|
  allq qX1_choose 112 (.inl (a_al 0 113)) (s_aload_n (q := 0) (i := 0) rfl (by decide +kernel)) <|
  allq qX1_choose 113 (.inl (a_get 1 5 116)) (gX1 (f0 := 5) (by decide) kw_433 (by decide +kernel)) <|
  allq qX1_choose 116 (.inr (.inl (106, 2, 9))) (okV (y := yX8_canTell) kw_966 kw_109 rfl rfl (by decide +kernel) kw_964 kw_965 kw_963) <|
  allq qX1_choose 119 (.inl (o_if_eq 146 122)) (s_if_eq (off := 27) (by decide +kernel) (by decide)) <|
  allq qX1_choose 122 (.inl (a_al 0 123)) (s_aload_n (q := 0) (i := 0) rfl (by decide +kernel)) <|
  allq qX1_choose 123 (.inl (a_ic 3 124)) (s_iconst (n := 3) (v := 3) rfl (by decide +kernel)) <|
  allq qX1_choose 124 (.inl (a_al 0 125)) (s_aload_n (q := 0) (i := 0) rfl (by decide +kernel)) <|
  allq qX1_choose 125 (.inl (a_get 1 10 128)) (gX1 (f0 := 10) (by decide) kw_438 (by decide +kernel)) <|
  allq qX1_choose 128 (.inl (a_al 0 129)) (s_aload_n (q := 0) (i := 0) rfl (by decide +kernel)) <|
  allq qX1_choose 129 (.inl (a_get 1 10 132)) (gX1 (f0 := 10) (by decide) kw_438 (by decide +kernel)) <|
  allq qX1_choose 132 (.inl (a_al 0 133)) (s_aload_n (q := 0) (i := 0) rfl (by decide +kernel)) <|
  allq qX1_choose 133 (.inl (a_get 1 3 136)) (gX1 (f0 := 3) (by decide) kw_431 (by decide +kernel)) <|
  allq qX1_choose 136 (.inl (a_al 0 137)) (s_aload_n (q := 0) (i := 0) rfl (by decide +kernel)) <|
  allq qX1_choose 137 (.inl (a_get 1 6 140)) (gX1 (f0 := 6) (by decide) kw_434 (by decide +kernel)) <|
  allq qX1_choose 140 (.inr (.inl (110, 3, 9))) (okV (y := yX8_rowBits) kw_970 kw_109 rfl rfl (by decide +kernel) kw_968 kw_969 kw_967) <|
  allq qX1_choose 143 (.inr (.inl (13, 4, 2))) (okV (y := yX1_consider) kw_977 kw_115 rfl rfl (by decide +kernel) kw_976 kw_24 kw_974) <|
  allq qX1_choose 146 (.inl (a_al 0 147)) (s_aload_n (q := 0) (i := 0) rfl (by decide +kernel)) <|
  allq qX1_choose 147 (.inl (a_get 1 14 150)) (gX1 (f0 := 14) (by decide) kw_442 (by decide +kernel)) <|
  allq qX1_choose 150 (.inl (a_ic 1 151)) (s_iconst (n := 1) (v := 1) rfl (by decide +kernel)) <|
  allq qX1_choose 151 (.inl (o_icmp_ne 170 154)) (s_icmp_ne (off := 19) (by decide +kernel) (by decide)) <|
  allq qX1_choose 154 (.inl (a_al 0 155)) (s_aload_n (q := 0) (i := 0) rfl (by decide +kernel)) <|
  allq qX1_choose 155 (.inl (a_get 1 11 158)) (gX1 (f0 := 11) (by decide) kw_439 (by decide +kernel)) <|
  allq qX1_choose 158 (.inl (a_al 0 159)) (s_aload_n (q := 0) (i := 0) rfl (by decide +kernel)) <|
  allq qX1_choose 159 (.inl (a_get 1 3 162)) (gX1 (f0 := 3) (by decide) kw_431 (by decide +kernel)) <|
  alln
set_option maxRecDepth 20000 in
theorem kX1_choose_2 : ∀ q ∈ tX1_choose_2, qX1_choose q :=
  allq qX1_choose 162 (.inl (a_ic 0 163)) (s_iconst (n := 0) (v := 0) rfl (by decide +kernel)) <|
  allq qX1_choose 163 (.inl (a_iald 164)) (s_iald (by decide +kernel)) <|
  allq qX1_choose 164 (.inr (.inl (99, 2, 9))) (okV (y := yX8_beAlone) kw_990 kw_109 rfl rfl (by decide +kernel) kw_988 kw_989 kw_987) <|
  allq qX1_choose 167 (.inl (a_go 183)) (s_goto (off := 16) (by decide +kernel) (by decide)) <|
  allq qX1_choose 170 (.inl (a_al 0 171)) (s_aload_n (q := 0) (i := 0) rfl (by decide +kernel)) <|
  allq qX1_choose 171 (.inl (a_get 1 14 174)) (gX1 (f0 := 14) (by decide) kw_442 (by decide +kernel)) <|
  allq qX1_choose 174 (.inl (a_ic 2 175)) (s_iconst (n := 2) (v := 2) rfl (by decide +kernel)) <|
  allq qX1_choose 175 (.inl (o_icmp_ne 183 178)) (s_icmp_ne (off := 8) (by decide +kernel) (by decide)) <|
  allq qX1_choose 178 (.inl (a_al 0 179)) (s_aload_n (q := 0) (i := 0) rfl (by decide +kernel)) <|
  allq qX1_choose 179 (.inl (a_il 1 180)) (s_iload_n (q := 1) (i := 1) rfl (by decide +kernel)) <|
  allq qX1_choose 180 (.inr (.inl (15, 2, 2))) (okV (y := yX1_form) kw_994 kw_115 rfl rfl (by decide +kernel) kw_993 kw_26 kw_991) <|
  allq qX1_choose 183 (.inl (a_al 0 184)) (s_aload_n (q := 0) (i := 0) rfl (by decide +kernel)) <|
  allq qX1_choose 184 (.inl (a_get 1 15 187)) (gX1 (f0 := 15) (by decide) kw_444 (by decide +kernel)) <|
  allq qX1_choose 187 (.inl (a_al 0 188)) (s_aload_n (q := 0) (i := 0) rfl (by decide +kernel)) <|
  allq qX1_choose 188 (.inl (a_get 1 8 191)) (gX1 (f0 := 8) (by decide) kw_436 (by decide +kernel)) <|
  allq qX1_choose 191 (.inl (o_iadd 192)) (s_iadd (by decide +kernel)) <|
  allq qX1_choose 192 (.inr (.inr 1)) (Or.inr (Or.inl ⟨rfl, rfl, by decide +kernel⟩)) <|
  alln
theorem kX1_choose : ∀ q ∈ tX1_choose, qX1_choose q := alla kX1_choose_0 (alla kX1_choose_1 kX1_choose_2)
abbrev qX1_consider : Nat × aI → Prop := OkQ RX1 "consider" cX1_consider 4 (none)
set_option maxRecDepth 20000 in
theorem kX1_consider_0 : ∀ q ∈ tX1_consider_0, qX1_consider q :=
  allq qX1_consider 0 (.inl (a_il 3 1)) (s_iload_n (q := 3) (i := 3) rfl (by decide +kernel)) <|
  allq qX1_consider 1 (.inl (a_al 0 2)) (s_aload_n (q := 0) (i := 0) rfl (by decide +kernel)) <|
  allq qX1_consider 2 (.inl (a_get 1 15 5)) (gX1 (f0 := 15) (by decide) kw_444 (by decide +kernel)) <|
  allq qX1_consider 5 (.inl (o_icmp_ge 23 8)) (s_icmp_ge (off := 18) (by decide +kernel) (by decide)) <|
  allq qX1_consider 8 (.inl (a_al 0 9)) (s_aload_n (q := 0) (i := 0) rfl (by decide +kernel)) <|
  allq qX1_consider 9 (.inl (a_il 1 10)) (s_iload_n (q := 1) (i := 1) rfl (by decide +kernel)) <|
  allq qX1_consider 10 (.inl (a_put 1 14 .int 13)) (pX1 (f0 := 14) (by decide) rfl rfl tOk kw_442 (by decide +kernel)) <|
  allq qX1_consider 13 (.inl (a_al 0 14)) (s_aload_n (q := 0) (i := 0) rfl (by decide +kernel)) <|
  allq qX1_consider 14 (.inl (a_al 2 15)) (s_aload_n (q := 2) (i := 2) rfl (by decide +kernel)) <|
  allq qX1_consider 15 (.inl (a_put 1 12 (.object "StatePress$Share") 18)) (pX1 (f0 := 12) (by decide) rfl rfl tOk kw_440 (by decide +kernel)) <|
  allq qX1_consider 18 (.inl (a_al 0 19)) (s_aload_n (q := 0) (i := 0) rfl (by decide +kernel)) <|
  allq qX1_consider 19 (.inl (a_il 3 20)) (s_iload_n (q := 3) (i := 3) rfl (by decide +kernel)) <|
  allq qX1_consider 20 (.inl (a_put 1 15 .int 23)) (pX1 (f0 := 15) (by decide) rfl rfl tOk kw_444 (by decide +kernel)) <|
  allq qX1_consider 23 (.inr (.inr 0)) (Or.inl ⟨rfl, rfl, by decide +kernel⟩) <|
  alln
theorem kX1_consider : ∀ q ∈ tX1_consider, qX1_consider q := kX1_consider_0
abbrev qX1_orderBelow : Nat × aI → Prop := OkQ RX1 "orderBelow" cX1_orderBelow 5 (some .int)
set_option maxRecDepth 20000 in
theorem kX1_orderBelow_0 : ∀ q ∈ tX1_orderBelow_0, qX1_orderBelow q :=
  allq qX1_orderBelow 0 (.inl (a_ic 0 1)) (s_iconst (n := 0) (v := 0) rfl (by decide +kernel)) <|
  allq qX1_orderBelow 1 (.inl (a_is 2 2)) (s_istore_n (q := 2) (i := 2) rfl (by decide +kernel) (by decide)) <|
  allq qX1_orderBelow 2 (.inl (a_al 0 3)) (s_aload_n (q := 0) (i := 0) rfl (by decide +kernel)) <|
  allq qX1_orderBelow 3 (.inl (a_il 1 4)) (s_iload_n (q := 1) (i := 1) rfl (by decide +kernel)) <|
  allq qX1_orderBelow 4 (.inl (a_put 1 16 .int 7)) (pX1 (f0 := 16) (by decide) rfl rfl tOk kw_445 (by decide +kernel)) <|
  allq qX1_orderBelow 7 (.inl (a_ic 5 8)) (s_iconst (n := 5) (v := 5) rfl (by decide +kernel)) <|
  allq qX1_orderBelow 8 (.inl (a_is 3 9)) (s_istore_n (q := 3) (i := 3) rfl (by decide +kernel) (by decide)) <|
  allq qX1_orderBelow 9 (.inl (a_il 3 10)) (s_iload_n (q := 3) (i := 3) rfl (by decide +kernel)) <|
  allq qX1_orderBelow 10 (.inl (a_al 0 11)) (s_aload_n (q := 0) (i := 0) rfl (by decide +kernel)) <|
  allq qX1_orderBelow 11 (.inl (a_get 1 2 14)) (gX1 (f0 := 2) (by decide) kw_430 (by decide +kernel)) <|
  allq qX1_orderBelow 14 (.inl (o_icmp_gt 159 17)) (s_icmp_gt (off := 145) (by decide +kernel) (by decide)) <|
  allq qX1_orderBelow 17 (.inl (a_ic 1 18)) (s_iconst (n := 1) (v := 1) rfl (by decide +kernel)) <|
  allq qX1_orderBelow 18 (.inl (a_il 3 19)) (s_iload_n (q := 3) (i := 3) rfl (by decide +kernel)) <|
  allq qX1_orderBelow 19 (.inl (o_ishl 20)) (s_ishl (by decide +kernel)) <|
  allq qX1_orderBelow 20 (.inl (a_al 0 21)) (s_aload_n (q := 0) (i := 0) rfl (by decide +kernel)) <|
  allq qX1_orderBelow 21 (.inl (a_get 1 7 24)) (gX1 (f0 := 7) (by decide) kw_435 (by decide +kernel)) <|
  allq qX1_orderBelow 24 (.inl (o_icmp_lt 153 27)) (s_icmp_lt (off := 129) (by decide +kernel) (by decide)) <|
  allq qX1_orderBelow 27 (.inl (a_ic 16 29)) (s_bipush (n := 16) (v := 16) rfl (by decide +kernel)) <|
  allq qX1_orderBelow 29 (.inl (a_il 3 30)) (s_iload_n (q := 3) (i := 3) rfl (by decide +kernel)) <|
  allq qX1_orderBelow 30 (.inl (o_iadd 31)) (s_iadd (by decide +kernel)) <|
  allq qX1_orderBelow 31 (.inl (a_al 0 32)) (s_aload_n (q := 0) (i := 0) rfl (by decide +kernel)) <|
  allq qX1_orderBelow 32 (.inl (a_get 1 16 35)) (gX1 (f0 := 16) (by decide) kw_445 (by decide +kernel)) <|
  allq qX1_orderBelow 35 (.inl (o_icmp_lt 41 38)) (s_icmp_lt (off := 6) (by decide +kernel) (by decide)) <|
  allq qX1_orderBelow 38 (.inl (a_go 153)) (s_goto (off := 115) (by decide +kernel) (by decide)) <|
  allq qX1_orderBelow 41 (.inl (a_al 0 42)) (s_aload_n (q := 0) (i := 0) rfl (by decide +kernel)) <|
  allq qX1_orderBelow 42 (.inl (a_get 1 11 45)) (gX1 (f0 := 11) (by decide) kw_439 (by decide +kernel)) <|
  allq qX1_orderBelow 45 (.inl (a_al 0 46)) (s_aload_n (q := 0) (i := 0) rfl (by decide +kernel)) <|
  allq qX1_orderBelow 46 (.inl (a_get 1 5 49)) (gX1 (f0 := 5) (by decide) kw_433 (by decide +kernel)) <|
  allq qX1_orderBelow 49 (.inl (a_il 3 50)) (s_iload_n (q := 3) (i := 3) rfl (by decide +kernel)) <|
  allq qX1_orderBelow 50 (.inr (.inl (100, 3, 9))) (okV (y := yX8_weigh) kw_903 kw_109 rfl rfl (by decide +kernel) kw_901 kw_902 kw_982) <|
  allq qX1_orderBelow 53 (.inl (a_al 0 54)) (s_aload_n (q := 0) (i := 0) rfl (by decide +kernel)) <|
  allq qX1_orderBelow 54 (.inl (a_get 1 13 57)) (gX1 (f0 := 13) (by decide) kw_441 (by decide +kernel)) <|
  allq qX1_orderBelow 57 (.inr (.inl (85, 1, 8))) (okV (y := yX7_drop) kw_625 kw_105 rfl rfl (by decide +kernel) kw_623 kw_624 kw_983) <|
  allq qX1_orderBelow 60 (.inl (a_al 0 61)) (s_aload_n (q := 0) (i := 0) rfl (by decide +kernel)) <|
  allq qX1_orderBelow 61 (.inl (a_get 1 11 64)) (gX1 (f0 := 11) (by decide) kw_439 (by decide +kernel)) <|
  allq qX1_orderBelow 64 (.inl (a_al 0 65)) (s_aload_n (q := 0) (i := 0) rfl (by decide +kernel)) <|
  allq qX1_orderBelow 65 (.inl (a_get 1 13 68)) (gX1 (f0 := 13) (by decide) kw_441 (by decide +kernel)) <|
  allq qX1_orderBelow 68 (.inr (.inl (113, 2, 9))) (okV (y := yX8_tell) kw_917 kw_109 rfl rfl (by decide +kernel) kw_915 kw_916 kw_984) <|
  allq qX1_orderBelow 71 (.inl (a_ic 8 73)) (s_bipush (n := 8) (v := 8) rfl (by decide +kernel)) <|
  allq qX1_orderBelow 73 (.inl (a_al 0 74)) (s_aload_n (q := 0) (i := 0) rfl (by decide +kernel)) <|
  alln
set_option maxRecDepth 20000 in
theorem kX1_orderBelow_1 : ∀ q ∈ tX1_orderBelow_1, qX1_orderBelow q :=
  allq qX1_orderBelow 74 (.inl (a_get 1 13 77)) (gX1 (f0 := 13) (by decide) kw_441 (by decide +kernel)) <|
  allq qX1_orderBelow 77 (.inl (a_get 7 1 80)) (gX7 (f0 := 1) (by decide) kw_146 (by decide +kernel)) <|
  allq qX1_orderBelow 80 (.inl (o_imul 81)) (s_imul (by decide +kernel)) <|
  allq qX1_orderBelow 81 (.inl (a_il 3 82)) (s_iload_n (q := 3) (i := 3) rfl (by decide +kernel)) <|
  allq qX1_orderBelow 82 (.inl (o_iadd 83)) (s_iadd (by decide +kernel)) <|
  allq qX1_orderBelow 83 (.inl (a_al 0 84)) (s_aload_n (q := 0) (i := 0) rfl (by decide +kernel)) <|
  allq qX1_orderBelow 84 (.inl (a_get 1 16 87)) (gX1 (f0 := 16) (by decide) kw_445 (by decide +kernel)) <|
  allq qX1_orderBelow 87 (.inl (o_icmp_ge 153 90)) (s_icmp_ge (off := 66) (by decide +kernel) (by decide)) <|
  allq qX1_orderBelow 90 (.inl (a_al 0 91)) (s_aload_n (q := 0) (i := 0) rfl (by decide +kernel)) <|
  allq qX1_orderBelow 91 (.inl (a_get 1 11 94)) (gX1 (f0 := 11) (by decide) kw_439 (by decide +kernel)) <|
  allq qX1_orderBelow 94 (.inr (.inl (103, 1, 9))) (okV (y := yX8_spread) kw_506 kw_109 rfl rfl (by decide +kernel) kw_504 kw_505 kw_985) <|
  allq qX1_orderBelow 97 (.inl (a_ic 8 99)) (s_bipush (n := 8) (v := 8) rfl (by decide +kernel)) <|
  allq qX1_orderBelow 99 (.inl (a_al 0 100)) (s_aload_n (q := 0) (i := 0) rfl (by decide +kernel)) <|
  allq qX1_orderBelow 100 (.inl (a_get 1 13 103)) (gX1 (f0 := 13) (by decide) kw_441 (by decide +kernel)) <|
  allq qX1_orderBelow 103 (.inl (a_get 7 1 106)) (gX7 (f0 := 1) (by decide) kw_146 (by decide +kernel)) <|
  allq qX1_orderBelow 106 (.inl (o_imul 107)) (s_imul (by decide +kernel)) <|
  allq qX1_orderBelow 107 (.inl (a_al 0 108)) (s_aload_n (q := 0) (i := 0) rfl (by decide +kernel)) <|
  allq qX1_orderBelow 108 (.inl (a_get 1 11 111)) (gX1 (f0 := 11) (by decide) kw_439 (by decide +kernel)) <|
  allq qX1_orderBelow 111 (.inl (a_al 0 112)) (s_aload_n (q := 0) (i := 0) rfl (by decide +kernel)) <|
  allq qX1_orderBelow 112 (.inl (a_get 1 3 115)) (gX1 (f0 := 3) (by decide) kw_431 (by decide +kernel)) <|
  allq qX1_orderBelow 115 (.inl (a_al 0 116)) (s_aload_n (q := 0) (i := 0) rfl (by decide +kernel)) <|
  allq qX1_orderBelow 116 (.inl (a_get 1 6 119)) (gX1 (f0 := 6) (by decide) kw_434 (by decide +kernel)) <|
  allq qX1_orderBelow 119 (.inr (.inl (110, 3, 9))) (okV (y := yX8_rowBits) kw_970 kw_109 rfl rfl (by decide +kernel) kw_968 kw_969 kw_967) <|
  allq qX1_orderBelow 122 (.inl (o_iadd 123)) (s_iadd (by decide +kernel)) <|
  allq qX1_orderBelow 123 (.inl (a_is 4 125)) (s_istore (i := 4) (by decide +kernel) (by decide)) <|
  allq qX1_orderBelow 125 (.inl (a_il 4 127)) (s_iload (i := 4) (by decide +kernel)) <|
  allq qX1_orderBelow 127 (.inl (a_al 0 128)) (s_aload_n (q := 0) (i := 0) rfl (by decide +kernel)) <|
  allq qX1_orderBelow 128 (.inl (a_get 1 16 131)) (gX1 (f0 := 16) (by decide) kw_445 (by decide +kernel)) <|
  allq qX1_orderBelow 131 (.inl (o_icmp_ge 138 134)) (s_icmp_ge (off := 7) (by decide +kernel) (by decide)) <|
  allq qX1_orderBelow 134 (.inl (a_il 3 135)) (s_iload_n (q := 3) (i := 3) rfl (by decide +kernel)) <|
  allq qX1_orderBelow 135 (.inl (a_go 139)) (s_goto (off := 4) (by decide +kernel) (by decide)) <|
  allq qX1_orderBelow 138 (.inl (a_il 2 139)) (s_iload_n (q := 2) (i := 2) rfl (by decide +kernel)) <|
  allq qX1_orderBelow 139 (.inl (a_is 2 140)) (s_istore_n (q := 2) (i := 2) rfl (by decide +kernel) (by decide)) <|
  allq qX1_orderBelow 140 (.inl (a_al 0 141)) (s_aload_n (q := 0) (i := 0) rfl (by decide +kernel)) <|
  allq qX1_orderBelow 141 (.inl (a_il 4 143)) (s_iload (i := 4) (by decide +kernel)) <|
  allq qX1_orderBelow 143 (.inl (a_al 0 144)) (s_aload_n (q := 0) (i := 0) rfl (by decide +kernel)) <|
  allq qX1_orderBelow 144 (.inl (a_get 1 16 147)) (gX1 (f0 := 16) (by decide) kw_445 (by decide +kernel)) <|
  allq qX1_orderBelow 147 (.inl (o_mmin 150)) (s_mmin kw_986 kw_498 kw_106 kw_499 (by decide +kernel)) <|
  allq qX1_orderBelow 150 (.inl (a_put 1 16 .int 153)) (pX1 (f0 := 16) (by decide) rfl rfl tOk kw_445 (by decide +kernel)) <|
  allq qX1_orderBelow 153 (.inl (a_inc 3 1 156)) (s_iinc (i := 3) (n := 1) (n2 := 1) rfl (by decide +kernel) (by decide)) <|
  alln
set_option maxRecDepth 20000 in
theorem kX1_orderBelow_2 : ∀ q ∈ tX1_orderBelow_2, qX1_orderBelow q :=
  allq qX1_orderBelow 156 (.inl (a_go 9)) (s_goto (off := (-147)) (by decide +kernel) (by decide)) <|
  allq qX1_orderBelow 159 (.inl (a_il 2 160)) (s_iload_n (q := 2) (i := 2) rfl (by decide +kernel)) <|
  allq qX1_orderBelow 160 (.inr (.inr 1)) (Or.inr (Or.inl ⟨rfl, rfl, by decide +kernel⟩)) <|
  alln
theorem kX1_orderBelow : ∀ q ∈ tX1_orderBelow, qX1_orderBelow q := alla kX1_orderBelow_0 (alla kX1_orderBelow_1 kX1_orderBelow_2)
abbrev qX1_form : Nat × aI → Prop := OkQ RX1 "form" cX1_form 2 (none)
set_option maxRecDepth 20000 in
theorem kX1_form_0 : ∀ q ∈ tX1_form_0, qX1_form q :=
  allq qX1_form 0 (.inl (a_al 0 1)) (s_aload_n (q := 0) (i := 0) rfl (by decide +kernel)) <|
  allq qX1_form 1 (.inl (a_get 1 11 4)) (gX1 (f0 := 11) (by decide) kw_439 (by decide +kernel)) <|
  allq qX1_form 4 (.inl (a_al 0 5)) (s_aload_n (q := 0) (i := 0) rfl (by decide +kernel)) <|
  allq qX1_form 5 (.inl (a_get 1 5 8)) (gX1 (f0 := 5) (by decide) kw_433 (by decide +kernel)) <|
  allq qX1_form 8 (.inl (a_il 1 9)) (s_iload_n (q := 1) (i := 1) rfl (by decide +kernel)) <|
  allq qX1_form 9 (.inr (.inl (100, 3, 9))) (okV (y := yX8_weigh) kw_903 kw_109 rfl rfl (by decide +kernel) kw_901 kw_902 kw_982) <|
  allq qX1_form 12 (.inl (a_al 0 13)) (s_aload_n (q := 0) (i := 0) rfl (by decide +kernel)) <|
  allq qX1_form 13 (.inl (a_get 1 11 16)) (gX1 (f0 := 11) (by decide) kw_439 (by decide +kernel)) <|
  allq qX1_form 16 (.inr (.inl (103, 1, 9))) (okV (y := yX8_spread) kw_506 kw_109 rfl rfl (by decide +kernel) kw_504 kw_505 kw_985) <|
  allq qX1_form 19 (.inl (a_al 0 20)) (s_aload_n (q := 0) (i := 0) rfl (by decide +kernel)) <|
  allq qX1_form 20 (.inl (a_get 1 13 23)) (gX1 (f0 := 13) (by decide) kw_441 (by decide +kernel)) <|
  allq qX1_form 23 (.inr (.inl (85, 1, 8))) (okV (y := yX7_drop) kw_625 kw_105 rfl rfl (by decide +kernel) kw_623 kw_624 kw_983) <|
  allq qX1_form 26 (.inl (a_al 0 27)) (s_aload_n (q := 0) (i := 0) rfl (by decide +kernel)) <|
  allq qX1_form 27 (.inl (a_get 1 11 30)) (gX1 (f0 := 11) (by decide) kw_439 (by decide +kernel)) <|
  allq qX1_form 30 (.inl (a_al 0 31)) (s_aload_n (q := 0) (i := 0) rfl (by decide +kernel)) <|
  allq qX1_form 31 (.inl (a_get 1 13 34)) (gX1 (f0 := 13) (by decide) kw_441 (by decide +kernel)) <|
  allq qX1_form 34 (.inr (.inl (113, 2, 9))) (okV (y := yX8_tell) kw_917 kw_109 rfl rfl (by decide +kernel) kw_915 kw_916 kw_984) <|
  allq qX1_form 37 (.inr (.inr 0)) (Or.inl ⟨rfl, rfl, by decide +kernel⟩) <|
  alln
theorem kX1_form : ∀ q ∈ tX1_form, qX1_form q := kX1_form_0
abbrev qX1_putTable : Nat × aI → Prop := OkQ RX1 "putTable" cX1_putTable 2 (none)
set_option maxRecDepth 20000 in
theorem kX1_putTable_0 : ∀ q ∈ tX1_putTable_0, qX1_putTable q :=
  allq qX1_putTable 0 (.inl (a_al 0 1)) (s_aload_n (q := 0) (i := 0) rfl (by decide +kernel)) <|
  allq qX1_putTable 1 (.inl (a_get 1 14 4)) (gX1 (f0 := 14) (by decide) kw_442 (by decide +kernel)) <|
  allq qX1_putTable 4 (.inl (a_ic 1 5)) (s_iconst (n := 1) (v := 1) rfl (by decide +kernel)) <|
  allq qX1_putTable 5 (.inl (o_icmp_ne 21 8)) (s_icmp_ne (off := 16) (by decide +kernel) (by decide)) <|
  allq qX1_putTable 8 (.inl (a_al 1 9)) (s_aload_n (q := 1) (i := 1) rfl (by decide +kernel)) <|
  allq qX1_putTable 9 (.inl (a_al 0 10)) (s_aload_n (q := 0) (i := 0) rfl (by decide +kernel)) <|
  allq qX1_putTable 10 (.inl (a_get 1 3 13)) (gX1 (f0 := 3) (by decide) kw_431 (by decide +kernel)) <|
  allq qX1_putTable 13 (.inl (a_ic 0 14)) (s_iconst (n := 0) (v := 0) rfl (by decide +kernel)) <|
  allq qX1_putTable 14 (.inl (a_iald 15)) (s_iald (by decide +kernel)) <|
  allq qX1_putTable 15 (.inr (.inl (86, 2, 8))) (okV (y := yX7_put) kw_608 kw_105 rfl rfl (by decide +kernel) kw_606 kw_607 kw_1074) <|
  allq qX1_putTable 18 (.inl (a_go 45)) (s_goto (off := 27) (by decide +kernel) (by decide)) <|
  allq qX1_putTable 21 (.inl (a_al 0 22)) (s_aload_n (q := 0) (i := 0) rfl (by decide +kernel)) <|
  allq qX1_putTable 22 (.inl (a_get 1 14 25)) (gX1 (f0 := 14) (by decide) kw_442 (by decide +kernel)) <|
  allq qX1_putTable 25 (.inl (a_ic 2 26)) (s_iconst (n := 2) (v := 2) rfl (by decide +kernel)) <|
  allq qX1_putTable 26 (.inl (o_icmp_ne 45 29)) (s_icmp_ne (off := 19) (by decide +kernel) (by decide)) <|
  allq qX1_putTable 29 (.inl (a_al 1 30)) (s_aload_n (q := 1) (i := 1) rfl (by decide +kernel)) <|
  allq qX1_putTable 30 (.inl (a_al 0 31)) (s_aload_n (q := 0) (i := 0) rfl (by decide +kernel)) <|
  allq qX1_putTable 31 (.inl (a_get 1 13 34)) (gX1 (f0 := 13) (by decide) kw_441 (by decide +kernel)) <|
  allq qX1_putTable 34 (.inl (a_ic 0 35)) (s_iconst (n := 0) (v := 0) rfl (by decide +kernel)) <|
  allq qX1_putTable 35 (.inl (a_al 0 36)) (s_aload_n (q := 0) (i := 0) rfl (by decide +kernel)) <|
  allq qX1_putTable 36 (.inl (a_get 1 13 39)) (gX1 (f0 := 13) (by decide) kw_441 (by decide +kernel)) <|
  allq qX1_putTable 39 (.inl (a_get 7 1 42)) (gX7 (f0 := 1) (by decide) kw_146 (by decide +kernel)) <|
  allq qX1_putTable 42 (.inr (.inl (88, 4, 8))) (okV (y := yX7_putRow) kw_633 kw_105 rfl rfl (by decide +kernel) kw_631 kw_632 kw_1075) <|
  allq qX1_putTable 45 (.inr (.inr 0)) (Or.inl ⟨rfl, rfl, by decide +kernel⟩) <|
  alln
theorem kX1_putTable : ∀ q ∈ tX1_putTable, qX1_putTable q := kX1_putTable_0
abbrev qX1_putShare : Nat × aI → Prop := OkQ RX1 "putShare" cX1_putShare 2 (none)
set_option maxRecDepth 20000 in
theorem kX1_putShare_0 : ∀ q ∈ tX1_putShare_0, qX1_putShare q :=
  allq qX1_putShare 0 (.inl (a_al 0 1)) (s_aload_n (q := 0) (i := 0) rfl (by decide +kernel)) <|
  allq qX1_putShare 1 (.inl (a_al 0 2)) (s_aload_n (q := 0) (i := 0) rfl (by decide +kernel)) <|
  allq qX1_putShare 2 (.inl (a_ic 1073741824 4)) (s_ldc kw_962 (by decide +kernel)) <|
  allq qX1_putShare 4 (.inr (.inl (14, 2, 2))) (okV (y := yX1_orderBelow) kw_981 kw_115 rfl rfl (by decide +kernel) kw_980 kw_25 kw_978) <|
  allq qX1_putShare 7 (.inr (.inl (15, 2, 2))) (okV (y := yX1_form) kw_994 kw_115 rfl rfl (by decide +kernel) kw_993 kw_26 kw_991) <|
  allq qX1_putShare 10 (.inl (a_al 1 11)) (s_aload_n (q := 1) (i := 1) rfl (by decide +kernel)) <|
  allq qX1_putShare 11 (.inl (a_al 0 12)) (s_aload_n (q := 0) (i := 0) rfl (by decide +kernel)) <|
  allq qX1_putShare 12 (.inl (a_get 1 13 15)) (gX1 (f0 := 13) (by decide) kw_441 (by decide +kernel)) <|
  allq qX1_putShare 15 (.inl (a_ic 0 16)) (s_iconst (n := 0) (v := 0) rfl (by decide +kernel)) <|
  allq qX1_putShare 16 (.inl (a_al 0 17)) (s_aload_n (q := 0) (i := 0) rfl (by decide +kernel)) <|
  allq qX1_putShare 17 (.inl (a_get 1 13 20)) (gX1 (f0 := 13) (by decide) kw_441 (by decide +kernel)) <|
  allq qX1_putShare 20 (.inl (a_get 7 1 23)) (gX7 (f0 := 1) (by decide) kw_146 (by decide +kernel)) <|
  allq qX1_putShare 23 (.inr (.inl (88, 4, 8))) (okV (y := yX7_putRow) kw_633 kw_105 rfl rfl (by decide +kernel) kw_631 kw_632 kw_1075) <|
  allq qX1_putShare 26 (.inr (.inr 0)) (Or.inl ⟨rfl, rfl, by decide +kernel⟩) <|
  alln
theorem kX1_putShare : ∀ q ∈ tX1_putShare, qX1_putShare q := kX1_putShare_0
abbrev qX1_beginStates : Nat × aI → Prop := OkQ RX1 "beginStates" cX1_beginStates 1 (none)
set_option maxRecDepth 20000 in
theorem kX1_beginStates_0 : ∀ q ∈ tX1_beginStates_0, qX1_beginStates q :=
  allq qX1_beginStates 0 (.inl (a_al 0 1)) (s_aload_n (q := 0) (i := 0) rfl (by decide +kernel)) <|
  allq qX1_beginStates 1 (.inl (a_al 0 2)) (s_aload_n (q := 0) (i := 0) rfl (by decide +kernel)) <|
  allq qX1_beginStates 2 (.inl (a_get 1 6 5)) (gX1 (f0 := 6) (by decide) kw_434 (by decide +kernel)) <|
  allq qX1_beginStates 5 (.inl (o_if_le 29 8)) (s_if_le (off := 24) (by decide +kernel) (by decide)) <|
  allq qX1_beginStates 8 (.inl (a_al 0 9)) (s_aload_n (q := 0) (i := 0) rfl (by decide +kernel)) <|
  allq qX1_beginStates 9 (.inl (a_get 1 12 12)) (gX1 (f0 := 12) (by decide) kw_440 (by decide +kernel)) <|
  allq qX1_beginStates 12 (.inl (a_al 0 13)) (s_aload_n (q := 0) (i := 0) rfl (by decide +kernel)) <|
  allq qX1_beginStates 13 (.inl (a_get 1 3 16)) (gX1 (f0 := 3) (by decide) kw_431 (by decide +kernel)) <|
  allq qX1_beginStates 16 (.inl (a_al 0 17)) (s_aload_n (q := 0) (i := 0) rfl (by decide +kernel)) <|
  allq qX1_beginStates 17 (.inl (a_get 1 6 20)) (gX1 (f0 := 6) (by decide) kw_434 (by decide +kernel)) <|
  allq qX1_beginStates 20 (.inl (a_ic 1 21)) (s_iconst (n := 1) (v := 1) rfl (by decide +kernel)) <|
  allq qX1_beginStates 21 (.inl (o_isub 22)) (s_isub (by decide +kernel)) <|
  allq qX1_beginStates 22 (.inl (a_iald 23)) (s_iald (by decide +kernel)) <|
  allq qX1_beginStates 23 (.inr (.inl (107, 2, 9))) (okV (y := yX8_lowest) kw_938 kw_109 rfl rfl (by decide +kernel) kw_936 kw_937 kw_1080) <|
  allq qX1_beginStates 26 (.inl (a_go 30)) (s_goto (off := 4) (by decide +kernel) (by decide)) <|
  allq qX1_beginStates 29 (.inl (a_ic 0 30)) (s_iconst (n := 0) (v := 0) rfl (by decide +kernel)) <|
  allq qX1_beginStates 30 (.inl (a_put 1 17 .int 33)) (pX1 (f0 := 17) (by decide) rfl rfl tOk kw_446 (by decide +kernel)) <|
  allq qX1_beginStates 33 (.inr (.inr 0)) (Or.inl ⟨rfl, rfl, by decide +kernel⟩) <|
  alln
theorem kX1_beginStates : ∀ q ∈ tX1_beginStates, qX1_beginStates q := kX1_beginStates_0
abbrev qX1_putState : Nat × aI → Prop := OkQ RX1 "putState" cX1_putState 5 (none)
set_option maxRecDepth 20000 in
theorem kX1_putState_0 : ∀ q ∈ tX1_putState_0, qX1_putState q :=
  allq qX1_putState 0 (.inl (a_al 0 1)) (s_aload_n (q := 0) (i := 0) rfl (by decide +kernel)) <|
  allq qX1_putState 1 (.inl (a_get 1 3 4)) (gX1 (f0 := 3) (by decide) kw_431 (by decide +kernel)) <|
  allq qX1_putState 4 (.inl (a_il 2 5)) (s_iload_n (q := 2) (i := 2) rfl (by decide +kernel)) <|
  allq qX1_putState 5 (.inl (a_iald 6)) (s_iald (by decide +kernel)) <|
  allq qX1_putState 6 (.inl (a_is 3 7)) (s_istore_n (q := 3) (i := 3) rfl (by decide +kernel) (by decide)) <|
  allq qX1_putState 7 (.inl (a_al 0 8)) (s_aload_n (q := 0) (i := 0) rfl (by decide +kernel)) <|
  allq qX1_putState 8 (.inl (a_get 1 12 11)) (gX1 (f0 := 12) (by decide) kw_440 (by decide +kernel)) <|
  allq qX1_putState 11 (.inl (a_il 3 12)) (s_iload_n (q := 3) (i := 3) rfl (by decide +kernel)) <|
  allq qX1_putState 12 (.inl (a_al 0 13)) (s_aload_n (q := 0) (i := 0) rfl (by decide +kernel)) <|
  allq qX1_putState 13 (.inl (a_get 1 17 16)) (gX1 (f0 := 17) (by decide) kw_446 (by decide +kernel)) <|
  allq qX1_putState 16 (.inr (.inl (108, 3, 9))) (okV (y := yX8_width) kw_942 kw_109 rfl rfl (by decide +kernel) kw_940 kw_941 kw_1094) <|
  allq qX1_putState 19 (.inl (a_is 4 21)) (s_istore (i := 4) (by decide +kernel) (by decide)) <|
  allq qX1_putState 21 (.inl (a_al 1 22)) (s_aload_n (q := 1) (i := 1) rfl (by decide +kernel)) <|
  allq qX1_putState 22 (.inl (a_al 0 23)) (s_aload_n (q := 0) (i := 0) rfl (by decide +kernel)) <|
  allq qX1_putState 23 (.inl (a_get 1 17 26)) (gX1 (f0 := 17) (by decide) kw_446 (by decide +kernel)) <|
  allq qX1_putState 26 (.inl (a_il 4 28)) (s_iload (i := 4) (by decide +kernel)) <|
  allq qX1_putState 28 (.inr (.inl (90, 3, 8))) (okV (y := yX7_addBits) kw_921 kw_105 rfl rfl (by decide +kernel) kw_919 kw_920 kw_1089) <|
  allq qX1_putState 31 (.inl (a_al 0 32)) (s_aload_n (q := 0) (i := 0) rfl (by decide +kernel)) <|
  allq qX1_putState 32 (.inl (a_al 0 33)) (s_aload_n (q := 0) (i := 0) rfl (by decide +kernel)) <|
  allq qX1_putState 33 (.inl (a_get 1 12 36)) (gX1 (f0 := 12) (by decide) kw_440 (by decide +kernel)) <|
  allq qX1_putState 36 (.inl (a_il 3 37)) (s_iload_n (q := 3) (i := 3) rfl (by decide +kernel)) <|
  allq qX1_putState 37 (.inl (a_al 0 38)) (s_aload_n (q := 0) (i := 0) rfl (by decide +kernel)) <|
  allq qX1_putState 38 (.inl (a_get 1 17 41)) (gX1 (f0 := 17) (by decide) kw_446 (by decide +kernel)) <|
  allq qX1_putState 41 (.inl (a_il 4 43)) (s_iload (i := 4) (by decide +kernel)) <|
  allq qX1_putState 43 (.inr (.inl (109, 4, 9))) (okV (y := yX8_before) kw_947 kw_109 rfl rfl (by decide +kernel) kw_945 kw_946 kw_1095) <|
  allq qX1_putState 46 (.inl (a_put 1 17 .int 49)) (pX1 (f0 := 17) (by decide) rfl rfl tOk kw_446 (by decide +kernel)) <|
  allq qX1_putState 49 (.inr (.inr 0)) (Or.inl ⟨rfl, rfl, by decide +kernel⟩) <|
  alln
theorem kX1_putState : ∀ q ∈ tX1_putState, qX1_putState q := kX1_putState_0
abbrev qX1_putAdditional : Nat × aI → Prop := OkQ RX1 "putAdditional" cX1_putAdditional 4 (none)
set_option maxRecDepth 20000 in
theorem kX1_putAdditional_0 : ∀ q ∈ tX1_putAdditional_0, qX1_putAdditional q :=
  allq qX1_putAdditional 0 (.inl (a_al 0 1)) (s_aload_n (q := 0) (i := 0) rfl (by decide +kernel)) <|
  allq qX1_putAdditional 1 (.inl (a_get 1 3 4)) (gX1 (f0 := 3) (by decide) kw_431 (by decide +kernel)) <|
  allq qX1_putAdditional 4 (.inl (a_il 2 5)) (s_iload_n (q := 2) (i := 2) rfl (by decide +kernel)) <|
  allq qX1_putAdditional 5 (.inl (a_iald 6)) (s_iald (by decide +kernel)) <|
  allq qX1_putAdditional 6 (.inl (a_is 3 7)) (s_istore_n (q := 3) (i := 3) rfl (by decide +kernel) (by decide)) <|
  allq qX1_putAdditional 7 (.inl (a_al 1 8)) (s_aload_n (q := 1) (i := 1) rfl (by decide +kernel)) <|
  allq qX1_putAdditional 8 (.inl (a_al 0 9)) (s_aload_n (q := 0) (i := 0) rfl (by decide +kernel)) <|
  allq qX1_putAdditional 9 (.inl (a_get 1 4 12)) (gX1 (f0 := 4) (by decide) kw_432 (by decide +kernel)) <|
  allq qX1_putAdditional 12 (.inl (a_il 2 13)) (s_iload_n (q := 2) (i := 2) rfl (by decide +kernel)) <|
  allq qX1_putAdditional 13 (.inl (a_iald 14)) (s_iald (by decide +kernel)) <|
  allq qX1_putAdditional 14 (.inl (a_al 0 15)) (s_aload_n (q := 0) (i := 0) rfl (by decide +kernel)) <|
  allq qX1_putAdditional 15 (.inl (a_get 1 0 18)) (gX1 (f0 := 0) (by decide) kw_428 (by decide +kernel)) <|
  allq qX1_putAdditional 18 (.inl (a_il 3 19)) (s_iload_n (q := 3) (i := 3) rfl (by decide +kernel)) <|
  allq qX1_putAdditional 19 (.inl (a_iald 20)) (s_iald (by decide +kernel)) <|
  allq qX1_putAdditional 20 (.inl (o_isub 21)) (s_isub (by decide +kernel)) <|
  allq qX1_putAdditional 21 (.inl (a_al 0 22)) (s_aload_n (q := 0) (i := 0) rfl (by decide +kernel)) <|
  allq qX1_putAdditional 22 (.inl (a_get 1 1 25)) (gX1 (f0 := 1) (by decide) kw_429 (by decide +kernel)) <|
  allq qX1_putAdditional 25 (.inl (a_il 3 26)) (s_iload_n (q := 3) (i := 3) rfl (by decide +kernel)) <|
  allq qX1_putAdditional 26 (.inl (a_iald 27)) (s_iald (by decide +kernel)) <|
  allq qX1_putAdditional 27 (.inr (.inl (90, 3, 8))) (okV (y := yX7_addBits) kw_921 kw_105 rfl rfl (by decide +kernel) kw_919 kw_920 kw_1089) <|
  allq qX1_putAdditional 30 (.inr (.inr 0)) (Or.inl ⟨rfl, rfl, by decide +kernel⟩) <|
  alln
theorem kX1_putAdditional : ∀ q ∈ tX1_putAdditional, qX1_putAdditional q := kX1_putAdditional_0
abbrev qX1_endStates : Nat × aI → Prop := OkQ RX1 "endStates" cX1_endStates 2 (none)
set_option maxRecDepth 20000 in
theorem kX1_endStates_0 : ∀ q ∈ tX1_endStates_0, qX1_endStates q :=
  allq qX1_endStates 0 (.inl (a_al 1 1)) (s_aload_n (q := 1) (i := 1) rfl (by decide +kernel)) <|
  allq qX1_endStates 1 (.inl (a_al 0 2)) (s_aload_n (q := 0) (i := 0) rfl (by decide +kernel)) <|
  allq qX1_endStates 2 (.inl (a_get 1 17 5)) (gX1 (f0 := 17) (by decide) kw_446 (by decide +kernel)) <|
  allq qX1_endStates 5 (.inl (a_al 0 6)) (s_aload_n (q := 0) (i := 0) rfl (by decide +kernel)) <|
  allq qX1_endStates 6 (.inl (a_get 1 12 9)) (gX1 (f0 := 12) (by decide) kw_440 (by decide +kernel)) <|
  allq qX1_endStates 9 (.inl (a_get 8 7 12)) (gX8 (f0 := 7) (by decide) kw_214 (by decide +kernel)) <|
  allq qX1_endStates 12 (.inr (.inl (90, 3, 8))) (okV (y := yX7_addBits) kw_921 kw_105 rfl rfl (by decide +kernel) kw_919 kw_920 kw_1089) <|
  allq qX1_endStates 15 (.inr (.inr 0)) (Or.inl ⟨rfl, rfl, by decide +kernel⟩) <|
  alln
theorem kX1_endStates : ∀ q ∈ tX1_endStates, qX1_endStates q := kX1_endStates_0
abbrev qX1_keep : Nat × aI → Prop := OkQ RX1 "keep" cX1_keep 1 (none)
set_option maxRecDepth 20000 in
theorem kX1_keep_0 : ∀ q ∈ tX1_keep_0, qX1_keep q :=
  allq qX1_keep 0 (.inl (a_al 0 1)) (s_aload_n (q := 0) (i := 0) rfl (by decide +kernel)) <|
  allq qX1_keep 1 (.inl (a_get 1 14 4)) (gX1 (f0 := 14) (by decide) kw_442 (by decide +kernel)) <|
  allq qX1_keep 4 (.inl (a_ic 3 5)) (s_iconst (n := 3) (v := 3) rfl (by decide +kernel)) <|
  allq qX1_keep 5 (.inl (o_icmp_eq 19 8)) (s_icmp_eq (off := 14) (by decide +kernel) (by decide)) <|
  allq qX1_keep 8 (.inl (a_al 0 9)) (s_aload_n (q := 0) (i := 0) rfl (by decide +kernel)) <|
  allq qX1_keep 9 (.inl (a_get 1 10 12)) (gX1 (f0 := 10) (by decide) kw_438 (by decide +kernel)) <|
  allq qX1_keep 12 (.inl (a_al 0 13)) (s_aload_n (q := 0) (i := 0) rfl (by decide +kernel)) <|
  allq qX1_keep 13 (.inl (a_get 1 12 16)) (gX1 (f0 := 12) (by decide) kw_440 (by decide +kernel)) <|
  allq qX1_keep 16 (.inr (.inl (97, 2, 9))) (okV (y := yX8_become) kw_759 kw_109 rfl rfl (by decide +kernel) kw_757 kw_758 kw_756) <|
  allq qX1_keep 19 (.inr (.inr 0)) (Or.inl ⟨rfl, rfl, by decide +kernel⟩) <|
  alln
theorem kX1_keep : ∀ q ∈ tX1_keep, qX1_keep q := kX1_keep_0
abbrev qX2_init : Nat × aI → Prop := OkQ RX2 "<init>" cX2_init 1 (none)
set_option maxRecDepth 20000 in
theorem kX2_init_0 : ∀ q ∈ tX2_init_0, qX2_init q :=
  allq qX2_init 0 (.inl (a_al 0 1)) (s_aload_n (q := 0) (i := 0) rfl (by decide +kernel)) <|
  allq qX2_init 1 (.inl (a_oi 4)) (s_oi kw_268 kw_126 kw_127 (by decide +kernel)) <|
  allq qX2_init 4 (.inl (a_al 0 5)) (s_aload_n (q := 0) (i := 0) rfl (by decide +kernel)) <|
  allq qX2_init 5 (.inl (a_ic 256 8)) (s_sipush (n := 256) (v := 256) rfl (by decide +kernel)) <|
  allq qX2_init 8 (.inl (a_newa 1 10)) (na_int kw_197 (by decide +kernel)) <|
  allq qX2_init 10 (.inl (a_put 2 0 (.array .int) 13)) (fX2 (f0 := 0) (by decide) rfl rfl rfl tOk kw_273 (by decide +kernel)) <|
  allq qX2_init 13 (.inl (a_al 0 14)) (s_aload_n (q := 0) (i := 0) rfl (by decide +kernel)) <|
  allq qX2_init 14 (.inl (a_ic 12 16)) (s_bipush (n := 12) (v := 12) rfl (by decide +kernel)) <|
  allq qX2_init 16 (.inl (a_newa 1 18)) (na_int kw_197 (by decide +kernel)) <|
  allq qX2_init 18 (.inl (a_put 2 1 (.array .int) 21)) (fX2 (f0 := 1) (by decide) rfl rfl rfl tOk kw_274 (by decide +kernel)) <|
  allq qX2_init 21 (.inl (a_al 0 22)) (s_aload_n (q := 0) (i := 0) rfl (by decide +kernel)) <|
  allq qX2_init 22 (.inl (a_new 8 9 zX8 25)) (nX8 kw_269 (by decide +kernel)) <|
  allq qX2_init 25 (.inl (a_dup 26)) (s_dup (by decide +kernel)) <|
  allq qX2_init 26 (.inl (a_ic 11 28)) (s_bipush (n := 11) (v := 11) rfl (by decide +kernel)) <|
  allq qX2_init 28 (.inl (a_ic 6 30)) (s_bipush (n := 6) (v := 6) rfl (by decide +kernel)) <|
  allq qX2_init 30 (.inr (.inl (96, 3, 9))) (okN (y := yX8_init) kw_202 kw_109 rfl (by decide +kernel) kw_201 (Or.inl kw_270)) <|
  allq qX2_init 33 (.inl (a_put 2 2 (.object "StatePress$Share") 36)) (fX2 (f0 := 2) (by decide) rfl rfl rfl tOk kw_275 (by decide +kernel)) <|
  allq qX2_init 36 (.inl (a_al 0 37)) (s_aload_n (q := 0) (i := 0) rfl (by decide +kernel)) <|
  allq qX2_init 37 (.inl (a_new 7 5 zX7 40)) (nX7 kw_271 (by decide +kernel)) <|
  allq qX2_init 40 (.inl (a_dup 41)) (s_dup (by decide +kernel)) <|
  allq qX2_init 41 (.inl (a_ic 512 44)) (s_sipush (n := 512) (v := 512) rfl (by decide +kernel)) <|
  allq qX2_init 44 (.inr (.inl (84, 2, 8))) (okN (y := yX7_init) kw_132 kw_105 rfl (by decide +kernel) kw_131 (Or.inl kw_272)) <|
  allq qX2_init 47 (.inl (a_put 2 3 (.object "StatePress$Row") 50)) (pX2 (f0 := 3) (by decide) rfl rfl tOk kw_276 (by decide +kernel)) <|
  allq qX2_init 50 (.inl (a_al 0 51)) (s_aload_n (q := 0) (i := 0) rfl (by decide +kernel)) <|
  allq qX2_init 51 (.inl (a_new 7 5 zX7 54)) (nX7 kw_271 (by decide +kernel)) <|
  allq qX2_init 54 (.inl (a_dup 55)) (s_dup (by decide +kernel)) <|
  allq qX2_init 55 (.inl (a_ic 512 58)) (s_sipush (n := 512) (v := 512) rfl (by decide +kernel)) <|
  allq qX2_init 58 (.inr (.inl (84, 2, 8))) (okN (y := yX7_init) kw_132 kw_105 rfl (by decide +kernel) kw_131 (Or.inl kw_272)) <|
  allq qX2_init 61 (.inl (a_put 2 4 (.object "StatePress$Row") 64)) (pX2 (f0 := 4) (by decide) rfl rfl tOk kw_277 (by decide +kernel)) <|
  allq qX2_init 64 (.inr (.inr 0)) (Or.inl ⟨rfl, rfl, by decide +kernel⟩) <|
  alln
theorem kX2_init : ∀ q ∈ tX2_init, qX2_init q := kX2_init_0
abbrev qX2_describe : Nat × aI → Prop := OkQ RX2 "describe" cX2_describe 7 (some .boolean)
set_option maxRecDepth 20000 in
theorem kX2_describe_0 : ∀ q ∈ tX2_describe_0, qX2_describe q :=
  allq qX2_describe 0 (.inl (a_al 0 1)) (s_aload_n (q := 0) (i := 0) rfl (by decide +kernel)) <|
  allq qX2_describe 1 (.inl (a_al 1 2)) (s_aload_n (q := 1) (i := 1) rfl (by decide +kernel)) <|
  allq qX2_describe 2 (.inr (.inl (25, 2, 3))) (okV (y := yX2_weigh) kw_898 kw_110 rfl rfl (by decide +kernel) kw_897 kw_18 kw_895) <|
  allq qX2_describe 5 (.inl (a_is 3 6)) (s_istore_n (q := 3) (i := 3) rfl (by decide +kernel) (by decide)) <|
  allq qX2_describe 6 (.inl (a_il 3 7)) (s_iload_n (q := 3) (i := 3) rfl (by decide +kernel)) <|
  allq qX2_describe 7 (.inl (a_ic 2 8)) (s_iconst (n := 2) (v := 2) rfl (by decide +kernel)) <|
  allq qX2_describe 8 (.inl (o_icmp_lt 30 11)) (s_icmp_lt (off := 22) (by decide +kernel) (by decide)) <|
  allq qX2_describe 11 (.inl (a_al 0 12)) (s_aload_n (q := 0) (i := 0) rfl (by decide +kernel)) <|
  allq qX2_describe 12 (.inl (a_get 2 1 15)) (gX2 (f0 := 1) (by decide) kw_274 (by decide +kernel)) <|
  allq qX2_describe 15 (.inl (a_al 0 16)) (s_aload_n (q := 0) (i := 0) rfl (by decide +kernel)) <|
  allq qX2_describe 16 (.inl (a_get 2 0 19)) (gX2 (f0 := 0) (by decide) kw_273 (by decide +kernel)) <|
  allq qX2_describe 19 (.inl (a_ic 0 20)) (s_iconst (n := 0) (v := 0) rfl (by decide +kernel)) <|
  allq qX2_describe 20 (.inl (a_iald 21)) (s_iald (by decide +kernel)) <|
  allq qX2_describe 21 (.inl (a_iald 22)) (s_iald (by decide +kernel)) <|
  allq qX2_describe 22 (.inl (a_il 3 23)) (s_iload_n (q := 3) (i := 3) rfl (by decide +kernel)) <|
  allq qX2_describe 23 (.inl (o_icmp_ge 30 26)) (s_icmp_ge (off := 7) (by decide +kernel) (by decide)) <|
  allq qX2_describe 26 (.inl (a_ic 1 27)) (s_iconst (n := 1) (v := 1) rfl (by decide +kernel)) <|
  allq qX2_describe 27 (.inl (a_go 31)) (s_goto (off := 4) (by decide +kernel) (by decide)) <|
  allq qX2_describe 30 (.inl (a_ic 0 31)) (s_iconst (n := 0) (v := 0) rfl (by decide +kernel)) <|
  allq qX2_describe 31 (.inl (a_is 4 33)) (s_istore (i := 4) (by decide +kernel) (by decide)) <|
  allq qX2_describe 33 (.inl (a_ic 5 34)) (s_iconst (n := 5) (v := 5) rfl (by decide +kernel)) <|
  allq qX2_describe 34 (.inl (a_is 5 36)) (s_istore (i := 5) (by decide +kernel) (by decide)) <|
  allq qX2_describe 36 (.inl (a_il 4 38)) (s_iload (i := 4) (by decide +kernel)) <|
  allq qX2_describe 38 (.inl (o_if_eq 144 41)) (s_if_eq (off := 106) (by decide +kernel) (by decide)) <|
  allq qX2_describe 41 (.inl (a_il 5 43)) (s_iload (i := 5) (by decide +kernel)) <|
  allq qX2_describe 43 (.inl (a_ic 6 45)) (s_bipush (n := 6) (v := 6) rfl (by decide +kernel)) <|
  allq qX2_describe 45 (.inl (o_icmp_gt 144 48)) (s_icmp_gt (off := 99) (by decide +kernel) (by decide)) <|
  allq qX2_describe 48 (.inl (a_al 0 49)) (s_aload_n (q := 0) (i := 0) rfl (by decide +kernel)) <|
  allq qX2_describe 49 (.inl (a_get 2 2 52)) (gX2 (f0 := 2) (by decide) kw_275 (by decide +kernel)) <|
  allq qX2_describe 52 (.inl (a_al 0 53)) (s_aload_n (q := 0) (i := 0) rfl (by decide +kernel)) <|
  allq qX2_describe 53 (.inl (a_get 2 1 56)) (gX2 (f0 := 1) (by decide) kw_274 (by decide +kernel)) <|
  allq qX2_describe 56 (.inl (a_il 5 58)) (s_iload (i := 5) (by decide +kernel)) <|
  allq qX2_describe 58 (.inr (.inl (100, 3, 9))) (okV (y := yX8_weigh) kw_903 kw_109 rfl rfl (by decide +kernel) kw_901 kw_902 kw_900) <|
  allq qX2_describe 61 (.inl (a_al 0 62)) (s_aload_n (q := 0) (i := 0) rfl (by decide +kernel)) <|
  allq qX2_describe 62 (.inl (a_get 2 2 65)) (gX2 (f0 := 2) (by decide) kw_275 (by decide +kernel)) <|
  allq qX2_describe 65 (.inr (.inl (103, 1, 9))) (okV (y := yX8_spread) kw_506 kw_109 rfl rfl (by decide +kernel) kw_504 kw_505 kw_912) <|
  allq qX2_describe 68 (.inl (a_al 0 69)) (s_aload_n (q := 0) (i := 0) rfl (by decide +kernel)) <|
  allq qX2_describe 69 (.inl (a_get 2 4 72)) (gX2 (f0 := 4) (by decide) kw_277 (by decide +kernel)) <|
  allq qX2_describe 72 (.inr (.inl (85, 1, 8))) (okV (y := yX7_drop) kw_625 kw_105 rfl rfl (by decide +kernel) kw_623 kw_624 kw_913) <|
  allq qX2_describe 75 (.inl (a_al 0 76)) (s_aload_n (q := 0) (i := 0) rfl (by decide +kernel)) <|
  alln
set_option maxRecDepth 20000 in
theorem kX2_describe_1 : ∀ q ∈ tX2_describe_1, qX2_describe q :=
  allq qX2_describe 76 (.inl (a_get 2 2 79)) (gX2 (f0 := 2) (by decide) kw_275 (by decide +kernel)) <|
  allq qX2_describe 79 (.inl (a_al 0 80)) (s_aload_n (q := 0) (i := 0) rfl (by decide +kernel)) <|
  allq qX2_describe 80 (.inl (a_get 2 4 83)) (gX2 (f0 := 4) (by decide) kw_277 (by decide +kernel)) <|
  allq qX2_describe 83 (.inr (.inl (113, 2, 9))) (okV (y := yX8_tell) kw_917 kw_109 rfl rfl (by decide +kernel) kw_915 kw_916 kw_914) <|
  allq qX2_describe 86 (.inl (a_al 0 87)) (s_aload_n (q := 0) (i := 0) rfl (by decide +kernel)) <|
  allq qX2_describe 87 (.inl (a_al 0 88)) (s_aload_n (q := 0) (i := 0) rfl (by decide +kernel)) <|
  allq qX2_describe 88 (.inl (a_get 2 4 91)) (gX2 (f0 := 4) (by decide) kw_277 (by decide +kernel)) <|
  allq qX2_describe 91 (.inl (a_il 3 92)) (s_iload_n (q := 3) (i := 3) rfl (by decide +kernel)) <|
  allq qX2_describe 92 (.inr (.inl (27, 3, 3))) (okV (y := yX2_putTwoStates) kw_934 kw_110 rfl rfl (by decide +kernel) kw_933 kw_22 kw_931) <|
  allq qX2_describe 95 (.inl (a_il 5 97)) (s_iload (i := 5) (by decide +kernel)) <|
  allq qX2_describe 97 (.inl (a_ic 5 98)) (s_iconst (n := 5) (v := 5) rfl (by decide +kernel)) <|
  allq qX2_describe 98 (.inl (o_icmp_eq 118 101)) (s_icmp_eq (off := 20) (by decide +kernel) (by decide)) <|
  allq qX2_describe 101 (.inl (a_al 0 102)) (s_aload_n (q := 0) (i := 0) rfl (by decide +kernel)) <|
  allq qX2_describe 102 (.inl (a_get 2 4 105)) (gX2 (f0 := 4) (by decide) kw_277 (by decide +kernel)) <|
  allq qX2_describe 105 (.inl (a_get 7 1 108)) (gX7 (f0 := 1) (by decide) kw_143 (by decide +kernel)) <|
  allq qX2_describe 108 (.inl (a_al 0 109)) (s_aload_n (q := 0) (i := 0) rfl (by decide +kernel)) <|
  allq qX2_describe 109 (.inl (a_get 2 3 112)) (gX2 (f0 := 3) (by decide) kw_276 (by decide +kernel)) <|
  allq qX2_describe 112 (.inl (a_get 7 1 115)) (gX7 (f0 := 1) (by decide) kw_143 (by decide +kernel)) <|
  allq qX2_describe 115 (.inl (o_icmp_ge 138 118)) (s_icmp_ge (off := 23) (by decide +kernel) (by decide)) <|
  allq qX2_describe 118 (.inl (a_al 0 119)) (s_aload_n (q := 0) (i := 0) rfl (by decide +kernel)) <|
  allq qX2_describe 119 (.inl (a_get 2 3 122)) (gX2 (f0 := 3) (by decide) kw_276 (by decide +kernel)) <|
  allq qX2_describe 122 (.inl (a_as 6 124)) (s_astore (i := 6) (by decide +kernel) (by decide)) <|
  allq qX2_describe 124 (.inl (a_al 0 125)) (s_aload_n (q := 0) (i := 0) rfl (by decide +kernel)) <|
  allq qX2_describe 125 (.inl (a_al 0 126)) (s_aload_n (q := 0) (i := 0) rfl (by decide +kernel)) <|
  allq qX2_describe 126 (.inl (a_get 2 4 129)) (gX2 (f0 := 4) (by decide) kw_277 (by decide +kernel)) <|
  allq qX2_describe 129 (.inl (a_put 2 3 (.object "StatePress$Row") 132)) (pX2 (f0 := 3) (by decide) rfl rfl tOk kw_276 (by decide +kernel)) <|
  allq qX2_describe 132 (.inl (a_al 0 133)) (s_aload_n (q := 0) (i := 0) rfl (by decide +kernel)) <|
  allq qX2_describe 133 (.inl (a_al 6 135)) (s_aload (i := 6) (by decide +kernel)) <|
  allq qX2_describe 135 (.inl (a_put 2 4 (.object "StatePress$Row") 138)) (pX2 (f0 := 4) (by decide) rfl rfl tOk kw_277 (by decide +kernel)) <|
  allq qX2_describe 138 (.inl (a_inc 5 1 141)) (s_iinc (i := 5) (n := 1) (n2 := 1) rfl (by decide +kernel) (by decide)) <|
  allq qX2_describe 141 (.inl (a_go 36)) (s_goto (off := (-105)) (by decide +kernel) (by decide)) <|
  allq qX2_describe 144 (.inl (a_il 4 146)) (s_iload (i := 4) (by decide +kernel)) <|
  allq qX2_describe 146 (.inl (o_if_eq 172 149)) (s_if_eq (off := 26) (by decide +kernel) (by decide)) <|
  allq qX2_describe 149 (.inl (a_al 0 150)) (s_aload_n (q := 0) (i := 0) rfl (by decide +kernel)) <|
  allq qX2_describe 150 (.inl (a_get 2 3 153)) (gX2 (f0 := 3) (by decide) kw_276 (by decide +kernel)) <|
  allq qX2_describe 153 (.inl (a_get 7 1 156)) (gX7 (f0 := 1) (by decide) kw_143 (by decide +kernel)) <|
  allq qX2_describe 156 (.inl (a_ic 128 159)) (s_sipush (n := 128) (v := 128) rfl (by decide +kernel)) <|
  allq qX2_describe 159 (.inl (o_icmp_ge 172 162)) (s_icmp_ge (off := 13) (by decide +kernel) (by decide)) <|
  allq qX2_describe 162 (.inl (a_al 0 163)) (s_aload_n (q := 0) (i := 0) rfl (by decide +kernel)) <|
  allq qX2_describe 163 (.inl (a_get 2 3 166)) (gX2 (f0 := 3) (by decide) kw_276 (by decide +kernel)) <|
  alln
set_option maxRecDepth 20000 in
theorem kX2_describe_2 : ∀ q ∈ tX2_describe_2, qX2_describe q :=
  allq qX2_describe 166 (.inl (a_get 7 1 169)) (gX7 (f0 := 1) (by decide) kw_143 (by decide +kernel)) <|
  allq qX2_describe 169 (.inl (a_go 173)) (s_goto (off := 4) (by decide +kernel) (by decide)) <|
  allq qX2_describe 172 (.inl (a_ic 0 173)) (s_iconst (n := 0) (v := 0) rfl (by decide +kernel)) <|
  allq qX2_describe 173 (.inl (a_is 5 175)) (s_istore (i := 5) (by decide +kernel) (by decide)) <|
  allq qX2_describe 175 (.inl (a_il 3 176)) (s_iload_n (q := 3) (i := 3) rfl (by decide +kernel)) <|
  allq qX2_describe 176 (.inl (a_ic 128 179)) (s_sipush (n := 128) (v := 128) rfl (by decide +kernel)) <|
  allq qX2_describe 179 (.inl (o_icmp_gt 190 182)) (s_icmp_gt (off := 11) (by decide +kernel) (by decide)) <|
  allq qX2_describe 182 (.inl (a_il 3 183)) (s_iload_n (q := 3) (i := 3) rfl (by decide +kernel)) <|
  allq qX2_describe 183 (.inl (a_ic 1 184)) (s_iconst (n := 1) (v := 1) rfl (by decide +kernel)) <|
  allq qX2_describe 184 (.inl (o_iadd 185)) (s_iadd (by decide +kernel)) <|
  allq qX2_describe 185 (.inl (a_ic 2 186)) (s_iconst (n := 2) (v := 2) rfl (by decide +kernel)) <|
  allq qX2_describe 186 (.inl (o_idiv 187)) (s_idiv (by decide +kernel)) <|
  allq qX2_describe 187 (.inl (a_go 191)) (s_goto (off := 4) (by decide +kernel) (by decide)) <|
  allq qX2_describe 190 (.inl (a_ic 0 191)) (s_iconst (n := 0) (v := 0) rfl (by decide +kernel)) <|
  allq qX2_describe 191 (.inl (a_is 6 193)) (s_istore (i := 6) (by decide +kernel) (by decide)) <|
  allq qX2_describe 193 (.inl (a_il 6 195)) (s_iload (i := 6) (by decide +kernel)) <|
  allq qX2_describe 195 (.inl (o_if_le 218 198)) (s_if_le (off := 23) (by decide +kernel) (by decide)) <|
  allq qX2_describe 198 (.inl (a_il 5 200)) (s_iload (i := 5) (by decide +kernel)) <|
  allq qX2_describe 200 (.inl (o_if_eq 210 203)) (s_if_eq (off := 10) (by decide +kernel) (by decide)) <|
  allq qX2_describe 203 (.inl (a_il 6 205)) (s_iload (i := 6) (by decide +kernel)) <|
  allq qX2_describe 205 (.inl (a_il 5 207)) (s_iload (i := 5) (by decide +kernel)) <|
  allq qX2_describe 207 (.inl (o_icmp_gt 218 210)) (s_icmp_gt (off := 11) (by decide +kernel) (by decide)) <|
  allq qX2_describe 210 (.inl (a_al 0 211)) (s_aload_n (q := 0) (i := 0) rfl (by decide +kernel)) <|
  allq qX2_describe 211 (.inl (a_al 2 212)) (s_aload_n (q := 2) (i := 2) rfl (by decide +kernel)) <|
  allq qX2_describe 212 (.inl (a_il 3 213)) (s_iload_n (q := 3) (i := 3) rfl (by decide +kernel)) <|
  allq qX2_describe 213 (.inr (.inl (26, 3, 3))) (okV (y := yX2_putDirect) kw_955 kw_110 rfl rfl (by decide +kernel) kw_954 kw_23 kw_952) <|
  allq qX2_describe 216 (.inl (a_ic 1 217)) (s_iconst (n := 1) (v := 1) rfl (by decide +kernel)) <|
  allq qX2_describe 217 (.inr (.inr 3)) (Or.inr (Or.inr (Or.inr ⟨rfl, rfl, by decide +kernel⟩))) <|
  allq qX2_describe 218 (.inl (a_il 5 220)) (s_iload (i := 5) (by decide +kernel)) <|
  allq qX2_describe 220 (.inl (o_if_le 240 223)) (s_if_le (off := 20) (by decide +kernel) (by decide)) <|
  allq qX2_describe 223 (.inl (a_al 2 224)) (s_aload_n (q := 2) (i := 2) rfl (by decide +kernel)) <|
  allq qX2_describe 224 (.inl (a_il 5 226)) (s_iload (i := 5) (by decide +kernel)) <|
  allq qX2_describe 226 (.inr (.inl (86, 2, 8))) (okV (y := yX7_put) kw_608 kw_105 rfl rfl (by decide +kernel) kw_606 kw_607 kw_956) <|
  allq qX2_describe 229 (.inl (a_al 2 230)) (s_aload_n (q := 2) (i := 2) rfl (by decide +kernel)) <|
  allq qX2_describe 230 (.inl (a_al 0 231)) (s_aload_n (q := 0) (i := 0) rfl (by decide +kernel)) <|
  allq qX2_describe 231 (.inl (a_get 2 3 234)) (gX2 (f0 := 3) (by decide) kw_276 (by decide +kernel)) <|
  allq qX2_describe 234 (.inl (a_ic 0 235)) (s_iconst (n := 0) (v := 0) rfl (by decide +kernel)) <|
  allq qX2_describe 235 (.inl (a_il 5 237)) (s_iload (i := 5) (by decide +kernel)) <|
  allq qX2_describe 237 (.inr (.inl (88, 4, 8))) (okV (y := yX7_putRow) kw_633 kw_105 rfl rfl (by decide +kernel) kw_631 kw_632 kw_957) <|
  allq qX2_describe 240 (.inl (a_il 5 242)) (s_iload (i := 5) (by decide +kernel)) <|
  alln
set_option maxRecDepth 20000 in
theorem kX2_describe_3 : ∀ q ∈ tX2_describe_3, qX2_describe q :=
  allq qX2_describe 242 (.inl (o_if_le 249 245)) (s_if_le (off := 7) (by decide +kernel) (by decide)) <|
  allq qX2_describe 245 (.inl (a_ic 1 246)) (s_iconst (n := 1) (v := 1) rfl (by decide +kernel)) <|
  allq qX2_describe 246 (.inl (a_go 250)) (s_goto (off := 4) (by decide +kernel) (by decide)) <|
  allq qX2_describe 249 (.inl (a_ic 0 250)) (s_iconst (n := 0) (v := 0) rfl (by decide +kernel)) <|
  allq qX2_describe 250 (.inr (.inr 3)) (Or.inr (Or.inr (Or.inr ⟨rfl, rfl, by decide +kernel⟩))) <|
  alln
theorem kX2_describe : ∀ q ∈ tX2_describe, qX2_describe q := alla kX2_describe_0 (alla kX2_describe_1 (alla kX2_describe_2 kX2_describe_3))
abbrev qX2_weigh : Nat × aI → Prop := OkQ RX2 "weigh" cX2_weigh 4 (some .int)
set_option maxRecDepth 20000 in
theorem kX2_weigh_0 : ∀ q ∈ tX2_weigh_0, qX2_weigh q :=
  allq qX2_weigh 0 (.inl (a_al 1 1)) (s_aload_n (q := 1) (i := 1) rfl (by decide +kernel)) <|
  allq qX2_weigh 1 (.inl (a_get 0 0 4)) (gX0 (f0 := 0) (by decide) kw_179 (by decide +kernel)) <|
  allq qX2_weigh 4 (.inl (a_len 5)) (s_len (by decide +kernel)) <|
  allq qX2_weigh 5 (.inl (a_ic 1 6)) (s_iconst (n := 1) (v := 1) rfl (by decide +kernel)) <|
  allq qX2_weigh 6 (.inl (o_isub 7)) (s_isub (by decide +kernel)) <|
  allq qX2_weigh 7 (.inl (a_is 2 8)) (s_istore_n (q := 2) (i := 2) rfl (by decide +kernel) (by decide)) <|
  allq qX2_weigh 8 (.inl (a_il 2 9)) (s_iload_n (q := 2) (i := 2) rfl (by decide +kernel)) <|
  allq qX2_weigh 9 (.inl (o_if_le 27 12)) (s_if_le (off := 18) (by decide +kernel) (by decide)) <|
  allq qX2_weigh 12 (.inl (a_al 1 13)) (s_aload_n (q := 1) (i := 1) rfl (by decide +kernel)) <|
  allq qX2_weigh 13 (.inl (a_get 0 0 16)) (gX0 (f0 := 0) (by decide) kw_179 (by decide +kernel)) <|
  allq qX2_weigh 16 (.inl (a_il 2 17)) (s_iload_n (q := 2) (i := 2) rfl (by decide +kernel)) <|
  allq qX2_weigh 17 (.inl (a_iald 18)) (s_iald (by decide +kernel)) <|
  allq qX2_weigh 18 (.inl (o_if_ne 27 21)) (s_if_ne (off := 9) (by decide +kernel) (by decide)) <|
  allq qX2_weigh 21 (.inl (a_inc 2 (-1) 24)) (s_iinc (i := 2) (n := (-1)) (n2 := (-1)) rfl (by decide +kernel) (by decide)) <|
  allq qX2_weigh 24 (.inl (a_go 8)) (s_goto (off := (-16)) (by decide +kernel) (by decide)) <|
  allq qX2_weigh 27 (.inl (a_al 0 28)) (s_aload_n (q := 0) (i := 0) rfl (by decide +kernel)) <|
  allq qX2_weigh 28 (.inl (a_get 2 1 31)) (gX2 (f0 := 1) (by decide) kw_274 (by decide +kernel)) <|
  allq qX2_weigh 31 (.inl (a_ic 0 32)) (s_iconst (n := 0) (v := 0) rfl (by decide +kernel)) <|
  allq qX2_weigh 32 (.inr (.inl (223, 2, 0))) (okS (y := yJ7_fill_53178) kw_496 kw_116 rfl (by decide +kernel) kw_495 (Or.inl kw_699)) <|
  allq qX2_weigh 35 (.inl (a_ic 0 36)) (s_iconst (n := 0) (v := 0) rfl (by decide +kernel)) <|
  allq qX2_weigh 36 (.inl (a_is 3 37)) (s_istore_n (q := 3) (i := 3) rfl (by decide +kernel) (by decide)) <|
  allq qX2_weigh 37 (.inl (a_il 3 38)) (s_iload_n (q := 3) (i := 3) rfl (by decide +kernel)) <|
  allq qX2_weigh 38 (.inl (a_il 2 39)) (s_iload_n (q := 2) (i := 2) rfl (by decide +kernel)) <|
  allq qX2_weigh 39 (.inl (o_icmp_ge 74 42)) (s_icmp_ge (off := 35) (by decide +kernel) (by decide)) <|
  allq qX2_weigh 42 (.inl (a_al 0 43)) (s_aload_n (q := 0) (i := 0) rfl (by decide +kernel)) <|
  allq qX2_weigh 43 (.inl (a_get 2 0 46)) (gX2 (f0 := 0) (by decide) kw_273 (by decide +kernel)) <|
  allq qX2_weigh 46 (.inl (a_il 3 47)) (s_iload_n (q := 3) (i := 3) rfl (by decide +kernel)) <|
  allq qX2_weigh 47 (.inl (a_al 1 48)) (s_aload_n (q := 1) (i := 1) rfl (by decide +kernel)) <|
  allq qX2_weigh 48 (.inl (a_il 3 49)) (s_iload_n (q := 3) (i := 3) rfl (by decide +kernel)) <|
  allq qX2_weigh 49 (.inr (.inl (2, 2, 1))) (okV (y := yX0_weight) kw_709 kw_108 rfl rfl (by decide +kernel) kw_707 kw_708 kw_899) <|
  allq qX2_weigh 52 (.inl (a_iast 53)) (s_iast (by decide +kernel)) <|
  allq qX2_weigh 53 (.inl (a_al 0 54)) (s_aload_n (q := 0) (i := 0) rfl (by decide +kernel)) <|
  allq qX2_weigh 54 (.inl (a_get 2 1 57)) (gX2 (f0 := 1) (by decide) kw_274 (by decide +kernel)) <|
  allq qX2_weigh 57 (.inl (a_al 0 58)) (s_aload_n (q := 0) (i := 0) rfl (by decide +kernel)) <|
  allq qX2_weigh 58 (.inl (a_get 2 0 61)) (gX2 (f0 := 0) (by decide) kw_273 (by decide +kernel)) <|
  allq qX2_weigh 61 (.inl (a_il 3 62)) (s_iload_n (q := 3) (i := 3) rfl (by decide +kernel)) <|
  allq qX2_weigh 62 (.inl (a_iald 63)) (s_iald (by decide +kernel)) <|
  allq qX2_weigh 63 (.inl (a_dup2 64)) (s_dup2 (by decide +kernel)) <|
  allq qX2_weigh 64 (.inl (a_iald 65)) (s_iald (by decide +kernel)) <|
  allq qX2_weigh 65 (.inl (a_ic 1 66)) (s_iconst (n := 1) (v := 1) rfl (by decide +kernel)) <|
  alln
set_option maxRecDepth 20000 in
theorem kX2_weigh_1 : ∀ q ∈ tX2_weigh_1, qX2_weigh q :=
  allq qX2_weigh 66 (.inl (o_iadd 67)) (s_iadd (by decide +kernel)) <|
  allq qX2_weigh 67 (.inl (a_iast 68)) (s_iast (by decide +kernel)) <|
  allq qX2_weigh 68 (.inl (a_inc 3 1 71)) (s_iinc (i := 3) (n := 1) (n2 := 1) rfl (by decide +kernel) (by decide)) <|
  allq qX2_weigh 71 (.inl (a_go 37)) (s_goto (off := (-34)) (by decide +kernel) (by decide)) <|
  allq qX2_weigh 74 (.inl (a_il 2 75)) (s_iload_n (q := 2) (i := 2) rfl (by decide +kernel)) <|
  allq qX2_weigh 75 (.inr (.inr 1)) (Or.inr (Or.inl ⟨rfl, rfl, by decide +kernel⟩)) <|
  alln
theorem kX2_weigh : ∀ q ∈ tX2_weigh, qX2_weigh q := alla kX2_weigh_0 kX2_weigh_1
abbrev qX2_putDirect : Nat × aI → Prop := OkQ RX2 "putDirect" cX2_putDirect 4 (none)
set_option maxRecDepth 20000 in
theorem kX2_putDirect_0 : ∀ q ∈ tX2_putDirect_0, qX2_putDirect q :=
  allq qX2_putDirect 0 (.inl (a_al 1 1)) (s_aload_n (q := 1) (i := 1) rfl (by decide +kernel)) <|
  allq qX2_putDirect 1 (.inl (a_ic 127 3)) (s_bipush (n := 127) (v := 127) rfl (by decide +kernel)) <|
  allq qX2_putDirect 3 (.inl (a_il 2 4)) (s_iload_n (q := 2) (i := 2) rfl (by decide +kernel)) <|
  allq qX2_putDirect 4 (.inl (o_iadd 5)) (s_iadd (by decide +kernel)) <|
  allq qX2_putDirect 5 (.inr (.inl (86, 2, 8))) (okV (y := yX7_put) kw_608 kw_105 rfl rfl (by decide +kernel) kw_606 kw_607 kw_956) <|
  allq qX2_putDirect 8 (.inl (a_ic 0 9)) (s_iconst (n := 0) (v := 0) rfl (by decide +kernel)) <|
  allq qX2_putDirect 9 (.inl (a_is 3 10)) (s_istore_n (q := 3) (i := 3) rfl (by decide +kernel) (by decide)) <|
  allq qX2_putDirect 10 (.inl (a_il 3 11)) (s_iload_n (q := 3) (i := 3) rfl (by decide +kernel)) <|
  allq qX2_putDirect 11 (.inl (a_il 2 12)) (s_iload_n (q := 2) (i := 2) rfl (by decide +kernel)) <|
  allq qX2_putDirect 12 (.inl (o_icmp_ge 54 15)) (s_icmp_ge (off := 42) (by decide +kernel) (by decide)) <|
  allq qX2_putDirect 15 (.inl (a_al 1 16)) (s_aload_n (q := 1) (i := 1) rfl (by decide +kernel)) <|
  allq qX2_putDirect 16 (.inl (a_ic 16 18)) (s_bipush (n := 16) (v := 16) rfl (by decide +kernel)) <|
  allq qX2_putDirect 18 (.inl (a_al 0 19)) (s_aload_n (q := 0) (i := 0) rfl (by decide +kernel)) <|
  allq qX2_putDirect 19 (.inl (a_get 2 0 22)) (gX2 (f0 := 0) (by decide) kw_273 (by decide +kernel)) <|
  allq qX2_putDirect 22 (.inl (a_il 3 23)) (s_iload_n (q := 3) (i := 3) rfl (by decide +kernel)) <|
  allq qX2_putDirect 23 (.inl (a_iald 24)) (s_iald (by decide +kernel)) <|
  allq qX2_putDirect 24 (.inl (o_imul 25)) (s_imul (by decide +kernel)) <|
  allq qX2_putDirect 25 (.inl (a_il 3 26)) (s_iload_n (q := 3) (i := 3) rfl (by decide +kernel)) <|
  allq qX2_putDirect 26 (.inl (a_ic 1 27)) (s_iconst (n := 1) (v := 1) rfl (by decide +kernel)) <|
  allq qX2_putDirect 27 (.inl (o_iadd 28)) (s_iadd (by decide +kernel)) <|
  allq qX2_putDirect 28 (.inl (a_il 2 29)) (s_iload_n (q := 2) (i := 2) rfl (by decide +kernel)) <|
  allq qX2_putDirect 29 (.inl (o_icmp_ge 43 32)) (s_icmp_ge (off := 14) (by decide +kernel) (by decide)) <|
  allq qX2_putDirect 32 (.inl (a_al 0 33)) (s_aload_n (q := 0) (i := 0) rfl (by decide +kernel)) <|
  allq qX2_putDirect 33 (.inl (a_get 2 0 36)) (gX2 (f0 := 0) (by decide) kw_273 (by decide +kernel)) <|
  allq qX2_putDirect 36 (.inl (a_il 3 37)) (s_iload_n (q := 3) (i := 3) rfl (by decide +kernel)) <|
  allq qX2_putDirect 37 (.inl (a_ic 1 38)) (s_iconst (n := 1) (v := 1) rfl (by decide +kernel)) <|
  allq qX2_putDirect 38 (.inl (o_iadd 39)) (s_iadd (by decide +kernel)) <|
  allq qX2_putDirect 39 (.inl (a_iald 40)) (s_iald (by decide +kernel)) <|
  allq qX2_putDirect 40 (.inl (a_go 44)) (s_goto (off := 4) (by decide +kernel) (by decide)) <|
  allq qX2_putDirect 43 (.inl (a_ic 0 44)) (s_iconst (n := 0) (v := 0) rfl (by decide +kernel)) <|
  allq qX2_putDirect 44 (.inl (o_iadd 45)) (s_iadd (by decide +kernel)) <|
  allq qX2_putDirect 45 (.inr (.inl (86, 2, 8))) (okV (y := yX7_put) kw_608 kw_105 rfl rfl (by decide +kernel) kw_606 kw_607 kw_956) <|
  allq qX2_putDirect 48 (.inl (a_inc 3 2 51)) (s_iinc (i := 3) (n := 2) (n2 := 2) rfl (by decide +kernel) (by decide)) <|
  allq qX2_putDirect 51 (.inl (a_go 10)) (s_goto (off := (-41)) (by decide +kernel) (by decide)) <|
  allq qX2_putDirect 54 (.inr (.inr 0)) (Or.inl ⟨rfl, rfl, by decide +kernel⟩) <|
  alln
theorem kX2_putDirect : ∀ q ∈ tX2_putDirect, qX2_putDirect q := kX2_putDirect_0
abbrev qX2_putTwoStates : Nat × aI → Prop := OkQ RX2 "putTwoStates" cX2_putTwoStates 8 (none)
set_option maxRecDepth 20000 in
theorem kX2_putTwoStates_0 : ∀ q ∈ tX2_putTwoStates_0, qX2_putTwoStates q :=
  allq qX2_putTwoStates 0 (.inl (a_al 0 1)) (s_aload_n (q := 0) (i := 0) rfl (by decide +kernel)) <|
  allq qX2_putTwoStates 1 (.inl (a_get 2 2 4)) (gX2 (f0 := 2) (by decide) kw_275 (by decide +kernel)) <|
  allq qX2_putTwoStates 4 (.inl (a_al 0 5)) (s_aload_n (q := 0) (i := 0) rfl (by decide +kernel)) <|
  allq qX2_putTwoStates 5 (.inl (a_get 2 0 8)) (gX2 (f0 := 0) (by decide) kw_273 (by decide +kernel)) <|
  allq qX2_putTwoStates 8 (.inl (a_il 2 9)) (s_iload_n (q := 2) (i := 2) rfl (by decide +kernel)) <|
  allq qX2_putTwoStates 9 (.inl (a_ic 2 10)) (s_iconst (n := 2) (v := 2) rfl (by decide +kernel)) <|
  allq qX2_putTwoStates 10 (.inl (o_isub 11)) (s_isub (by decide +kernel)) <|
  allq qX2_putTwoStates 11 (.inl (a_iald 12)) (s_iald (by decide +kernel)) <|
  allq qX2_putTwoStates 12 (.inr (.inl (107, 2, 9))) (okV (y := yX8_lowest) kw_938 kw_109 rfl rfl (by decide +kernel) kw_936 kw_937 kw_935) <|
  allq qX2_putTwoStates 15 (.inl (a_is 3 16)) (s_istore_n (q := 3) (i := 3) rfl (by decide +kernel) (by decide)) <|
  allq qX2_putTwoStates 16 (.inl (a_al 0 17)) (s_aload_n (q := 0) (i := 0) rfl (by decide +kernel)) <|
  allq qX2_putTwoStates 17 (.inl (a_get 2 2 20)) (gX2 (f0 := 2) (by decide) kw_275 (by decide +kernel)) <|
  allq qX2_putTwoStates 20 (.inl (a_al 0 21)) (s_aload_n (q := 0) (i := 0) rfl (by decide +kernel)) <|
  allq qX2_putTwoStates 21 (.inl (a_get 2 0 24)) (gX2 (f0 := 0) (by decide) kw_273 (by decide +kernel)) <|
  allq qX2_putTwoStates 24 (.inl (a_il 2 25)) (s_iload_n (q := 2) (i := 2) rfl (by decide +kernel)) <|
  allq qX2_putTwoStates 25 (.inl (a_ic 1 26)) (s_iconst (n := 1) (v := 1) rfl (by decide +kernel)) <|
  allq qX2_putTwoStates 26 (.inl (o_isub 27)) (s_isub (by decide +kernel)) <|
  allq qX2_putTwoStates 27 (.inl (a_iald 28)) (s_iald (by decide +kernel)) <|
  allq qX2_putTwoStates 28 (.inr (.inl (107, 2, 9))) (okV (y := yX8_lowest) kw_938 kw_109 rfl rfl (by decide +kernel) kw_936 kw_937 kw_935) <|
  allq qX2_putTwoStates 31 (.inl (a_is 4 33)) (s_istore (i := 4) (by decide +kernel) (by decide)) <|
  allq qX2_putTwoStates 33 (.inl (a_il 2 34)) (s_iload_n (q := 2) (i := 2) rfl (by decide +kernel)) <|
  allq qX2_putTwoStates 34 (.inl (a_ic 3 35)) (s_iconst (n := 3) (v := 3) rfl (by decide +kernel)) <|
  allq qX2_putTwoStates 35 (.inl (o_isub 36)) (s_isub (by decide +kernel)) <|
  allq qX2_putTwoStates 36 (.inl (a_is 5 38)) (s_istore (i := 5) (by decide +kernel) (by decide)) <|
  allq qX2_putTwoStates 38 (.inl (a_il 5 40)) (s_iload (i := 5) (by decide +kernel)) <|
  allq qX2_putTwoStates 40 (.inl (o_if_lt 101 43)) (s_if_lt (off := 61) (by decide +kernel) (by decide)) <|
  allq qX2_putTwoStates 43 (.inl (a_al 0 44)) (s_aload_n (q := 0) (i := 0) rfl (by decide +kernel)) <|
  allq qX2_putTwoStates 44 (.inl (a_get 2 2 47)) (gX2 (f0 := 2) (by decide) kw_275 (by decide +kernel)) <|
  allq qX2_putTwoStates 47 (.inl (a_al 0 48)) (s_aload_n (q := 0) (i := 0) rfl (by decide +kernel)) <|
  allq qX2_putTwoStates 48 (.inl (a_get 2 0 51)) (gX2 (f0 := 0) (by decide) kw_273 (by decide +kernel)) <|
  allq qX2_putTwoStates 51 (.inl (a_il 5 53)) (s_iload (i := 5) (by decide +kernel)) <|
  allq qX2_putTwoStates 53 (.inl (a_iald 54)) (s_iald (by decide +kernel)) <|
  allq qX2_putTwoStates 54 (.inl (a_il 4 56)) (s_iload (i := 4) (by decide +kernel)) <|
  allq qX2_putTwoStates 56 (.inr (.inl (108, 3, 9))) (okV (y := yX8_width) kw_942 kw_109 rfl rfl (by decide +kernel) kw_940 kw_941 kw_939) <|
  allq qX2_putTwoStates 59 (.inl (a_is 6 61)) (s_istore (i := 6) (by decide +kernel) (by decide)) <|
  allq qX2_putTwoStates 61 (.inl (a_al 1 62)) (s_aload_n (q := 1) (i := 1) rfl (by decide +kernel)) <|
  allq qX2_putTwoStates 62 (.inl (a_il 4 64)) (s_iload (i := 4) (by decide +kernel)) <|
  allq qX2_putTwoStates 64 (.inl (a_il 6 66)) (s_iload (i := 6) (by decide +kernel)) <|
  allq qX2_putTwoStates 66 (.inr (.inl (90, 3, 8))) (okV (y := yX7_addBits) kw_921 kw_105 rfl rfl (by decide +kernel) kw_919 kw_920 kw_943) <|
  allq qX2_putTwoStates 69 (.inl (a_al 0 70)) (s_aload_n (q := 0) (i := 0) rfl (by decide +kernel)) <|
  alln
set_option maxRecDepth 20000 in
theorem kX2_putTwoStates_1 : ∀ q ∈ tX2_putTwoStates_1, qX2_putTwoStates q :=
  allq qX2_putTwoStates 70 (.inl (a_get 2 2 73)) (gX2 (f0 := 2) (by decide) kw_275 (by decide +kernel)) <|
  allq qX2_putTwoStates 73 (.inl (a_al 0 74)) (s_aload_n (q := 0) (i := 0) rfl (by decide +kernel)) <|
  allq qX2_putTwoStates 74 (.inl (a_get 2 0 77)) (gX2 (f0 := 0) (by decide) kw_273 (by decide +kernel)) <|
  allq qX2_putTwoStates 77 (.inl (a_il 5 79)) (s_iload (i := 5) (by decide +kernel)) <|
  allq qX2_putTwoStates 79 (.inl (a_iald 80)) (s_iald (by decide +kernel)) <|
  allq qX2_putTwoStates 80 (.inl (a_il 4 82)) (s_iload (i := 4) (by decide +kernel)) <|
  allq qX2_putTwoStates 82 (.inl (a_il 6 84)) (s_iload (i := 6) (by decide +kernel)) <|
  allq qX2_putTwoStates 84 (.inr (.inl (109, 4, 9))) (okV (y := yX8_before) kw_947 kw_109 rfl rfl (by decide +kernel) kw_945 kw_946 kw_944) <|
  allq qX2_putTwoStates 87 (.inl (a_is 7 89)) (s_istore (i := 7) (by decide +kernel) (by decide)) <|
  allq qX2_putTwoStates 89 (.inl (a_il 3 90)) (s_iload_n (q := 3) (i := 3) rfl (by decide +kernel)) <|
  allq qX2_putTwoStates 90 (.inl (a_is 4 92)) (s_istore (i := 4) (by decide +kernel) (by decide)) <|
  allq qX2_putTwoStates 92 (.inl (a_il 7 94)) (s_iload (i := 7) (by decide +kernel)) <|
  allq qX2_putTwoStates 94 (.inl (a_is 3 95)) (s_istore_n (q := 3) (i := 3) rfl (by decide +kernel) (by decide)) <|
  allq qX2_putTwoStates 95 (.inl (a_inc 5 (-1) 98)) (s_iinc (i := 5) (n := (-1)) (n2 := (-1)) rfl (by decide +kernel) (by decide)) <|
  allq qX2_putTwoStates 98 (.inl (a_go 38)) (s_goto (off := (-60)) (by decide +kernel) (by decide)) <|
  allq qX2_putTwoStates 101 (.inl (a_al 1 102)) (s_aload_n (q := 1) (i := 1) rfl (by decide +kernel)) <|
  allq qX2_putTwoStates 102 (.inl (a_il 4 104)) (s_iload (i := 4) (by decide +kernel)) <|
  allq qX2_putTwoStates 104 (.inl (a_al 0 105)) (s_aload_n (q := 0) (i := 0) rfl (by decide +kernel)) <|
  allq qX2_putTwoStates 105 (.inl (a_get 2 2 108)) (gX2 (f0 := 2) (by decide) kw_275 (by decide +kernel)) <|
  allq qX2_putTwoStates 108 (.inl (a_get 8 7 111)) (gX8 (f0 := 7) (by decide) kw_213 (by decide +kernel)) <|
  allq qX2_putTwoStates 111 (.inr (.inl (90, 3, 8))) (okV (y := yX7_addBits) kw_921 kw_105 rfl rfl (by decide +kernel) kw_919 kw_920 kw_943) <|
  allq qX2_putTwoStates 114 (.inl (a_al 1 115)) (s_aload_n (q := 1) (i := 1) rfl (by decide +kernel)) <|
  allq qX2_putTwoStates 115 (.inl (a_il 3 116)) (s_iload_n (q := 3) (i := 3) rfl (by decide +kernel)) <|
  allq qX2_putTwoStates 116 (.inl (a_al 0 117)) (s_aload_n (q := 0) (i := 0) rfl (by decide +kernel)) <|
  allq qX2_putTwoStates 117 (.inl (a_get 2 2 120)) (gX2 (f0 := 2) (by decide) kw_275 (by decide +kernel)) <|
  allq qX2_putTwoStates 120 (.inl (a_get 8 7 123)) (gX8 (f0 := 7) (by decide) kw_213 (by decide +kernel)) <|
  allq qX2_putTwoStates 123 (.inr (.inl (90, 3, 8))) (okV (y := yX7_addBits) kw_921 kw_105 rfl rfl (by decide +kernel) kw_919 kw_920 kw_943) <|
  allq qX2_putTwoStates 126 (.inl (a_al 1 127)) (s_aload_n (q := 1) (i := 1) rfl (by decide +kernel)) <|
  allq qX2_putTwoStates 127 (.inr (.inl (92, 1, 8))) (okV (y := yX7_endStream) kw_951 kw_105 rfl rfl (by decide +kernel) kw_949 kw_950 kw_948) <|
  allq qX2_putTwoStates 130 (.inr (.inr 0)) (Or.inl ⟨rfl, rfl, by decide +kernel⟩) <|
  alln
theorem kX2_putTwoStates : ∀ q ∈ tX2_putTwoStates, qX2_putTwoStates q := alla kX2_putTwoStates_0 kX2_putTwoStates_1
