/-! each entry is one that the machine does (printed by a program) -/
abbrev qX11_write : Nat × aI → Prop := OkQ RX11 "write" cX11_write 5 (some .boolean)
set_option maxRecDepth 20000 in
theorem kX11_write_0 : ∀ q ∈ tX11_write_0, qX11_write q :=
  allq qX11_write 0 (.inl (a_il 3 1)) (s_iload_n (q := 3) (i := 3) rfl (by decide +kernel)) <|
  allq qX11_write 1 (.inl (a_ic 1 2)) (s_iconst (n := 1) (v := 1) rfl (by decide +kernel)) <|
  allq qX11_write 2 (.inl (o_icmp_lt 26 5)) (s_icmp_lt (off := 24) (by decide +kernel) (by decide)) <|
  allq qX11_write 5 (.inl (a_il 3 6)) (s_iload_n (q := 3) (i := 3) rfl (by decide +kernel)) <|
  allq qX11_write 6 (.inl (a_ic 8 8)) (s_bipush (n := 8) (v := 8) rfl (by decide +kernel)) <|
  allq qX11_write 8 (.inl (o_icmp_gt 26 11)) (s_icmp_gt (off := 18) (by decide +kernel) (by decide)) <|
  allq qX11_write 11 (.inl (a_al 0 12)) (s_aload_n (q := 0) (i := 0) rfl (by decide +kernel)) <|
  allq qX11_write 12 (.inl (a_get 10 0 15)) (gX11 (f0 := 0) (by decide) kw_564 (by decide +kernel)) <|
  allq qX11_write 15 (.inl (a_get 7 1 18)) (gX7 (f0 := 1) (by decide) kw_142 (by decide +kernel)) <|
  allq qX11_write 18 (.inl (a_il 3 19)) (s_iload_n (q := 3) (i := 3) rfl (by decide +kernel)) <|
  allq qX11_write 19 (.inl (o_iadd 20)) (s_iadd (by decide +kernel)) <|
  allq qX11_write 20 (.inl (a_ic 8000 23)) (s_sipush (n := 8000) (v := 8000) rfl (by decide +kernel)) <|
  allq qX11_write 23 (.inl (o_icmp_le 28 26)) (s_icmp_le (off := 5) (by decide +kernel) (by decide)) <|
  allq qX11_write 26 (.inl (a_ic 0 27)) (s_iconst (n := 0) (v := 0) rfl (by decide +kernel)) <|
  allq qX11_write 27 (.inr (.inr 3)) (Or.inr (Or.inr (Or.inr ⟨rfl, rfl, by decide +kernel⟩))) <|
  allq qX11_write 28 (.inl (a_ic 0 29)) (s_iconst (n := 0) (v := 0) rfl (by decide +kernel)) <|
  allq qX11_write 29 (.inl (a_is 4 31)) (s_istore (i := 4) (by decide +kernel) (by decide)) <|
  allq qX11_write 31 (.inl (a_il 4 33)) (s_iload (i := 4) (by decide +kernel)) <|
  allq qX11_write 33 (.inl (a_il 3 34)) (s_iload_n (q := 3) (i := 3) rfl (by decide +kernel)) <|
  allq qX11_write 34 (.inl (o_icmp_ge 61 37)) (s_icmp_ge (off := 27) (by decide +kernel) (by decide)) <|
  allq qX11_write 37 (.inl (a_al 0 38)) (s_aload_n (q := 0) (i := 0) rfl (by decide +kernel)) <|
  allq qX11_write 38 (.inl (a_get 10 0 41)) (gX11 (f0 := 0) (by decide) kw_564 (by decide +kernel)) <|
  allq qX11_write 41 (.inl (a_ll 1 42)) (s_lload_n (q := 1) (i := 1) rfl (by decide +kernel)) <|
  allq qX11_write 42 (.inl (a_ic 56 44)) (s_bipush (n := 56) (v := 56) rfl (by decide +kernel)) <|
  allq qX11_write 44 (.inl (a_ic 8 46)) (s_bipush (n := 8) (v := 8) rfl (by decide +kernel)) <|
  allq qX11_write 46 (.inl (a_il 4 48)) (s_iload (i := 4) (by decide +kernel)) <|
  allq qX11_write 48 (.inl (o_imul 49)) (s_imul (by decide +kernel)) <|
  allq qX11_write 49 (.inl (o_isub 50)) (s_isub (by decide +kernel)) <|
  allq qX11_write 50 (.inl (o_lushr 51)) (s_lushr (by decide +kernel)) <|
  allq qX11_write 51 (.inl (a_l2i 52)) (s_l2i (by decide +kernel)) <|
  allq qX11_write 52 (.inr (.inl (86, 2, 8))) (okV (y := yX7_put) kw_608 kw_105 rfl rfl (by decide +kernel) kw_606 kw_607 kw_605) <|
  allq qX11_write 55 (.inl (a_inc 4 1 58)) (s_iinc (i := 4) (n := 1) (n2 := 1) rfl (by decide +kernel) (by decide)) <|
  allq qX11_write 58 (.inl (a_go 31)) (s_goto (off := (-27)) (by decide +kernel) (by decide)) <|
  allq qX11_write 61 (.inl (a_ic 1 62)) (s_iconst (n := 1) (v := 1) rfl (by decide +kernel)) <|
  allq qX11_write 62 (.inr (.inr 3)) (Or.inr (Or.inr (Or.inr ⟨rfl, rfl, by decide +kernel⟩))) <|
  alln
theorem kX11_write : ∀ q ∈ tX11_write, qX11_write q := kX11_write_0
abbrev qX11_again : Nat × aI → Prop := OkQ RX11 "again" cX11_again 5 (some .boolean)
set_option maxRecDepth 20000 in
theorem kX11_again_0 : ∀ q ∈ tX11_again_0, qX11_again q :=
  allq qX11_again 0 (.inl (a_il 1 1)) (s_iload_n (q := 1) (i := 1) rfl (by decide +kernel)) <|
  allq qX11_again 1 (.inl (a_ic 1 2)) (s_iconst (n := 1) (v := 1) rfl (by decide +kernel)) <|
  allq qX11_again 2 (.inl (o_icmp_lt 41 5)) (s_icmp_lt (off := 39) (by decide +kernel) (by decide)) <|
  allq qX11_again 5 (.inl (a_il 1 6)) (s_iload_n (q := 1) (i := 1) rfl (by decide +kernel)) <|
  allq qX11_again 6 (.inl (a_al 0 7)) (s_aload_n (q := 0) (i := 0) rfl (by decide +kernel)) <|
  allq qX11_again 7 (.inl (a_get 10 0 10)) (gX11 (f0 := 0) (by decide) kw_564 (by decide +kernel)) <|
  allq qX11_again 10 (.inl (a_get 7 1 13)) (gX7 (f0 := 1) (by decide) kw_142 (by decide +kernel)) <|
  allq qX11_again 13 (.inl (o_icmp_gt 41 16)) (s_icmp_gt (off := 28) (by decide +kernel) (by decide)) <|
  allq qX11_again 16 (.inl (a_il 2 17)) (s_iload_n (q := 2) (i := 2) rfl (by decide +kernel)) <|
  allq qX11_again 17 (.inl (o_if_lt 41 20)) (s_if_lt (off := 24) (by decide +kernel) (by decide)) <|
  allq qX11_again 20 (.inl (a_al 0 21)) (s_aload_n (q := 0) (i := 0) rfl (by decide +kernel)) <|
  allq qX11_again 21 (.inl (a_get 10 0 24)) (gX11 (f0 := 0) (by decide) kw_564 (by decide +kernel)) <|
  allq qX11_again 24 (.inl (a_get 7 1 27)) (gX7 (f0 := 1) (by decide) kw_142 (by decide +kernel)) <|
  allq qX11_again 27 (.inl (a_i2l 28)) (s_i2l (by decide +kernel)) <|
  allq qX11_again 28 (.inl (a_il 1 29)) (s_iload_n (q := 1) (i := 1) rfl (by decide +kernel)) <|
  allq qX11_again 29 (.inl (a_i2l 30)) (s_i2l (by decide +kernel)) <|
  allq qX11_again 30 (.inl (a_il 2 31)) (s_iload_n (q := 2) (i := 2) rfl (by decide +kernel)) <|
  allq qX11_again 31 (.inl (a_i2l 32)) (s_i2l (by decide +kernel)) <|
  allq qX11_again 32 (.inl (o_lmul 33)) (s_lmul (by decide +kernel)) <|
  allq qX11_again 33 (.inl (o_ladd 34)) (s_ladd (by decide +kernel)) <|
  allq qX11_again 34 (.inl (a_lc 8000 37)) (s_ldc2 kw_613 (by decide +kernel)) <|
  allq qX11_again 37 (.inl (a_lcmp 38)) (s_lcmp (by decide +kernel)) <|
  allq qX11_again 38 (.inl (o_if_le 43 41)) (s_if_le (off := 5) (by decide +kernel) (by decide)) <|
  allq qX11_again 41 (.inl (a_ic 0 42)) (s_iconst (n := 0) (v := 0) rfl (by decide +kernel)) <|
  allq qX11_again 42 (.inr (.inr 3)) (Or.inr (Or.inr (Or.inr ⟨rfl, rfl, by decide +kernel⟩))) <|
  allq qX11_again 43 (.inl (a_il 1 44)) (s_iload_n (q := 1) (i := 1) rfl (by decide +kernel)) <|
  allq qX11_again 44 (.inl (a_il 2 45)) (s_iload_n (q := 2) (i := 2) rfl (by decide +kernel)) <|
  allq qX11_again 45 (.inl (o_imul 46)) (s_imul (by decide +kernel)) <|
  allq qX11_again 46 (.inl (a_is 3 47)) (s_istore_n (q := 3) (i := 3) rfl (by decide +kernel) (by decide)) <|
  allq qX11_again 47 (.inl (a_ic 0 48)) (s_iconst (n := 0) (v := 0) rfl (by decide +kernel)) <|
  allq qX11_again 48 (.inl (a_is 4 50)) (s_istore (i := 4) (by decide +kernel) (by decide)) <|
  allq qX11_again 50 (.inl (a_il 4 52)) (s_iload (i := 4) (by decide +kernel)) <|
  allq qX11_again 52 (.inl (a_il 3 53)) (s_iload_n (q := 3) (i := 3) rfl (by decide +kernel)) <|
  allq qX11_again 53 (.inl (o_icmp_ge 85 56)) (s_icmp_ge (off := 32) (by decide +kernel) (by decide)) <|
  allq qX11_again 56 (.inl (a_al 0 57)) (s_aload_n (q := 0) (i := 0) rfl (by decide +kernel)) <|
  allq qX11_again 57 (.inl (a_get 10 0 60)) (gX11 (f0 := 0) (by decide) kw_564 (by decide +kernel)) <|
  allq qX11_again 60 (.inl (a_al 0 61)) (s_aload_n (q := 0) (i := 0) rfl (by decide +kernel)) <|
  allq qX11_again 61 (.inl (a_get 10 0 64)) (gX11 (f0 := 0) (by decide) kw_564 (by decide +kernel)) <|
  allq qX11_again 64 (.inl (a_al 0 65)) (s_aload_n (q := 0) (i := 0) rfl (by decide +kernel)) <|
  allq qX11_again 65 (.inl (a_get 10 0 68)) (gX11 (f0 := 0) (by decide) kw_564 (by decide +kernel)) <|
  alln
set_option maxRecDepth 20000 in
theorem kX11_again_1 : ∀ q ∈ tX11_again_1, qX11_again q :=
  allq qX11_again 68 (.inl (a_get 7 1 71)) (gX7 (f0 := 1) (by decide) kw_142 (by decide +kernel)) <|
  allq qX11_again 71 (.inl (a_il 1 72)) (s_iload_n (q := 1) (i := 1) rfl (by decide +kernel)) <|
  allq qX11_again 72 (.inl (o_isub 73)) (s_isub (by decide +kernel)) <|
  allq qX11_again 73 (.inr (.inl (93, 2, 8))) (okV (y := yX7_at) kw_617 kw_105 rfl rfl (by decide +kernel) kw_615 kw_616 kw_614) <|
  allq qX11_again 76 (.inr (.inl (86, 2, 8))) (okV (y := yX7_put) kw_608 kw_105 rfl rfl (by decide +kernel) kw_606 kw_607 kw_605) <|
  allq qX11_again 79 (.inl (a_inc 4 1 82)) (s_iinc (i := 4) (n := 1) (n2 := 1) rfl (by decide +kernel) (by decide)) <|
  allq qX11_again 82 (.inl (a_go 50)) (s_goto (off := (-32)) (by decide +kernel) (by decide)) <|
  allq qX11_again 85 (.inl (a_ic 1 86)) (s_iconst (n := 1) (v := 1) rfl (by decide +kernel)) <|
  allq qX11_again 86 (.inr (.inr 3)) (Or.inr (Or.inr (Or.inr ⟨rfl, rfl, by decide +kernel⟩))) <|
  alln
theorem kX11_again : ∀ q ∈ tX11_again, qX11_again q := alla kX11_again_0 kX11_again_1
abbrev qX11_clear : Nat × aI → Prop := OkQ RX11 "clear" cX11_clear 1 (none)
set_option maxRecDepth 20000 in
theorem kX11_clear_0 : ∀ q ∈ tX11_clear_0, qX11_clear q :=
  allq qX11_clear 0 (.inl (a_al 0 1)) (s_aload_n (q := 0) (i := 0) rfl (by decide +kernel)) <|
  allq qX11_clear 1 (.inl (a_get 10 0 4)) (gX11 (f0 := 0) (by decide) kw_564 (by decide +kernel)) <|
  allq qX11_clear 4 (.inr (.inl (85, 1, 8))) (okV (y := yX7_drop) kw_625 kw_105 rfl rfl (by decide +kernel) kw_623 kw_624 kw_622) <|
  allq qX11_clear 7 (.inr (.inr 0)) (Or.inl ⟨rfl, rfl, by decide +kernel⟩) <|
  alln
theorem kX11_clear : ∀ q ∈ tX11_clear, qX11_clear q := kX11_clear_0
abbrev qX11_turn : Nat × aI → Prop := OkQ RX11 "turn" cX11_turn 1 (some .boolean)
set_option maxRecDepth 20000 in
theorem kX11_turn_0 : ∀ q ∈ tX11_turn_0, qX11_turn q :=
  allq qX11_turn 0 (.inl (a_al 0 1)) (s_aload_n (q := 0) (i := 0) rfl (by decide +kernel)) <|
  allq qX11_turn 1 (.inl (a_get 10 1 4)) (gX11 (f0 := 1) (by decide) kw_565 (by decide +kernel)) <|
  allq qX11_turn 4 (.inl (a_get 7 1 7)) (gX7 (f0 := 1) (by decide) kw_142 (by decide +kernel)) <|
  allq qX11_turn 7 (.inl (a_ic 8000 10)) (s_sipush (n := 8000) (v := 8000) rfl (by decide +kernel)) <|
  allq qX11_turn 10 (.inl (o_icmp_le 15 13)) (s_icmp_le (off := 5) (by decide +kernel) (by decide)) <|
  allq qX11_turn 13 (.inl (a_ic 0 14)) (s_iconst (n := 0) (v := 0) rfl (by decide +kernel)) <|
  allq qX11_turn 14 (.inr (.inr 3)) (Or.inr (Or.inr (Or.inr ⟨rfl, rfl, by decide +kernel⟩))) <|
  allq qX11_turn 15 (.inl (a_al 0 16)) (s_aload_n (q := 0) (i := 0) rfl (by decide +kernel)) <|
  allq qX11_turn 16 (.inl (a_get 10 0 19)) (gX11 (f0 := 0) (by decide) kw_564 (by decide +kernel)) <|
  allq qX11_turn 19 (.inr (.inl (85, 1, 8))) (okV (y := yX7_drop) kw_625 kw_105 rfl rfl (by decide +kernel) kw_623 kw_624 kw_622) <|
  allq qX11_turn 22 (.inl (a_al 0 23)) (s_aload_n (q := 0) (i := 0) rfl (by decide +kernel)) <|
  allq qX11_turn 23 (.inl (a_get 10 0 26)) (gX11 (f0 := 0) (by decide) kw_564 (by decide +kernel)) <|
  allq qX11_turn 26 (.inl (a_al 0 27)) (s_aload_n (q := 0) (i := 0) rfl (by decide +kernel)) <|
  allq qX11_turn 27 (.inl (a_get 10 1 30)) (gX11 (f0 := 1) (by decide) kw_565 (by decide +kernel)) <|
  allq qX11_turn 30 (.inl (a_ic 0 31)) (s_iconst (n := 0) (v := 0) rfl (by decide +kernel)) <|
  allq qX11_turn 31 (.inl (a_al 0 32)) (s_aload_n (q := 0) (i := 0) rfl (by decide +kernel)) <|
  allq qX11_turn 32 (.inl (a_get 10 1 35)) (gX11 (f0 := 1) (by decide) kw_565 (by decide +kernel)) <|
  allq qX11_turn 35 (.inl (a_get 7 1 38)) (gX7 (f0 := 1) (by decide) kw_142 (by decide +kernel)) <|
  allq qX11_turn 38 (.inr (.inl (88, 4, 8))) (okV (y := yX7_putRow) kw_633 kw_105 rfl rfl (by decide +kernel) kw_631 kw_632 kw_630) <|
  allq qX11_turn 41 (.inl (a_ic 1 42)) (s_iconst (n := 1) (v := 1) rfl (by decide +kernel)) <|
  allq qX11_turn 42 (.inr (.inr 3)) (Or.inr (Or.inr (Or.inr ⟨rfl, rfl, by decide +kernel⟩))) <|
  alln
theorem kX11_turn : ∀ q ∈ tX11_turn, qX11_turn q := kX11_turn_0
abbrev qX11_rule : Nat × aI → Prop := OkQ RX11 "rule" cX11_rule 3 (some .boolean)
set_option maxRecDepth 20000 in
theorem kX11_rule_0 : ∀ q ∈ tX11_rule_0, qX11_rule q :=
  allq qX11_rule 0 (.inl (a_il 1 1)) (s_iload_n (q := 1) (i := 1) rfl (by decide +kernel)) <|
  allq qX11_rule 1 (.inl (o_if_lt 20 4)) (s_if_lt (off := 19) (by decide +kernel) (by decide)) <|
  allq qX11_rule 4 (.inl (a_il 1 5)) (s_iload_n (q := 1) (i := 1) rfl (by decide +kernel)) <|
  allq qX11_rule 5 (.inl (a_ic 3 6)) (s_iconst (n := 3) (v := 3) rfl (by decide +kernel)) <|
  allq qX11_rule 6 (.inl (o_icmp_gt 20 9)) (s_icmp_gt (off := 14) (by decide +kernel) (by decide)) <|
  allq qX11_rule 9 (.inl (a_il 2 10)) (s_iload_n (q := 2) (i := 2) rfl (by decide +kernel)) <|
  allq qX11_rule 10 (.inl (a_ic 3 11)) (s_iconst (n := 3) (v := 3) rfl (by decide +kernel)) <|
  allq qX11_rule 11 (.inl (o_icmp_lt 20 14)) (s_icmp_lt (off := 9) (by decide +kernel) (by decide)) <|
  allq qX11_rule 14 (.inl (a_il 2 15)) (s_iload_n (q := 2) (i := 2) rfl (by decide +kernel)) <|
  allq qX11_rule 15 (.inl (a_ic 8 17)) (s_bipush (n := 8) (v := 8) rfl (by decide +kernel)) <|
  allq qX11_rule 17 (.inl (o_icmp_le 22 20)) (s_icmp_le (off := 5) (by decide +kernel) (by decide)) <|
  allq qX11_rule 20 (.inl (a_ic 0 21)) (s_iconst (n := 0) (v := 0) rfl (by decide +kernel)) <|
  allq qX11_rule 21 (.inr (.inr 3)) (Or.inr (Or.inr (Or.inr ⟨rfl, rfl, by decide +kernel⟩))) <|
  allq qX11_rule 22 (.inl (a_al 0 23)) (s_aload_n (q := 0) (i := 0) rfl (by decide +kernel)) <|
  allq qX11_rule 23 (.inl (a_il 1 24)) (s_iload_n (q := 1) (i := 1) rfl (by decide +kernel)) <|
  allq qX11_rule 24 (.inl (a_put 10 10 .int 27)) (pX11 (f0 := 10) (by decide) rfl rfl tOk kw_574 (by decide +kernel)) <|
  allq qX11_rule 27 (.inl (a_al 0 28)) (s_aload_n (q := 0) (i := 0) rfl (by decide +kernel)) <|
  allq qX11_rule 28 (.inl (a_il 2 29)) (s_iload_n (q := 2) (i := 2) rfl (by decide +kernel)) <|
  allq qX11_rule 29 (.inl (a_put 10 11 .int 32)) (pX11 (f0 := 11) (by decide) rfl rfl tOk kw_575 (by decide +kernel)) <|
  allq qX11_rule 32 (.inl (a_ic 1 33)) (s_iconst (n := 1) (v := 1) rfl (by decide +kernel)) <|
  allq qX11_rule 33 (.inr (.inr 3)) (Or.inr (Or.inr (Or.inr ⟨rfl, rfl, by decide +kernel⟩))) <|
  alln
theorem kX11_rule : ∀ q ∈ tX11_rule, qX11_rule q := kX11_rule_0
abbrev qX11_learn : Nat × aI → Prop := OkQ RX11 "learn" cX11_learn 4 (some .int)
set_option maxRecDepth 20000 in
theorem kX11_learn_0 : ∀ q ∈ tX11_learn_0, qX11_learn q :=
  allq qX11_learn 0 (.inl (a_al 0 1)) (s_aload_n (q := 0) (i := 0) rfl (by decide +kernel)) <|
  allq qX11_learn 1 (.inl (a_get 10 0 4)) (gX11 (f0 := 0) (by decide) kw_564 (by decide +kernel)) <|
  allq qX11_learn 4 (.inl (a_get 7 1 7)) (gX7 (f0 := 1) (by decide) kw_142 (by decide +kernel)) <|
  allq qX11_learn 7 (.inl (a_ic 4 8)) (s_iconst (n := 4) (v := 4) rfl (by decide +kernel)) <|
  allq qX11_learn 8 (.inl (o_icmp_lt 31 11)) (s_icmp_lt (off := 23) (by decide +kernel) (by decide)) <|
  allq qX11_learn 11 (.inl (a_al 0 12)) (s_aload_n (q := 0) (i := 0) rfl (by decide +kernel)) <|
  allq qX11_learn 12 (.inl (a_get 10 0 15)) (gX11 (f0 := 0) (by decide) kw_564 (by decide +kernel)) <|
  allq qX11_learn 15 (.inl (a_ic 0 16)) (s_iconst (n := 0) (v := 0) rfl (by decide +kernel)) <|
  allq qX11_learn 16 (.inl (a_ic 4 17)) (s_iconst (n := 4) (v := 4) rfl (by decide +kernel)) <|
  allq qX11_learn 17 (.inr (.inl (94, 3, 8))) (okV (y := yX7_number) kw_651 kw_105 rfl rfl (by decide +kernel) kw_649 kw_650 kw_648) <|
  allq qX11_learn 20 (.inl (a_lc 3962610743 23)) (s_ldc2 kw_653 (by decide +kernel)) <|
  allq qX11_learn 23 (.inl (a_lcmp 24)) (s_lcmp (by decide +kernel)) <|
  allq qX11_learn 24 (.inl (o_if_ne 31 27)) (s_if_ne (off := 7) (by decide +kernel) (by decide)) <|
  allq qX11_learn 27 (.inl (a_ic 1 28)) (s_iconst (n := 1) (v := 1) rfl (by decide +kernel)) <|
  allq qX11_learn 28 (.inl (a_go 32)) (s_goto (off := 4) (by decide +kernel) (by decide)) <|
  allq qX11_learn 31 (.inl (a_ic 0 32)) (s_iconst (n := 0) (v := 0) rfl (by decide +kernel)) <|
  allq qX11_learn 32 (.inl (a_is 1 33)) (s_istore_n (q := 1) (i := 1) rfl (by decide +kernel) (by decide)) <|
  allq qX11_learn 33 (.inl (a_al 0 34)) (s_aload_n (q := 0) (i := 0) rfl (by decide +kernel)) <|
  allq qX11_learn 34 (.inl (a_get 10 6 37)) (gX11 (f0 := 6) (by decide) kw_570 (by decide +kernel)) <|
  allq qX11_learn 37 (.inr (.inl (117, 1, 10))) (okV (y := yX9_empty) kw_657 kw_107 rfl rfl (by decide +kernel) kw_655 kw_656 kw_654) <|
  allq qX11_learn 40 (.inl (a_il 1 41)) (s_iload_n (q := 1) (i := 1) rfl (by decide +kernel)) <|
  allq qX11_learn 41 (.inl (o_if_eq 62 44)) (s_if_eq (off := 21) (by decide +kernel) (by decide)) <|
  allq qX11_learn 44 (.inl (a_al 0 45)) (s_aload_n (q := 0) (i := 0) rfl (by decide +kernel)) <|
  allq qX11_learn 45 (.inl (a_get 10 6 48)) (gX11 (f0 := 6) (by decide) kw_570 (by decide +kernel)) <|
  allq qX11_learn 48 (.inl (a_al 0 49)) (s_aload_n (q := 0) (i := 0) rfl (by decide +kernel)) <|
  allq qX11_learn 49 (.inl (a_get 10 0 52)) (gX11 (f0 := 0) (by decide) kw_564 (by decide +kernel)) <|
  allq qX11_learn 52 (.inl (a_al 0 53)) (s_aload_n (q := 0) (i := 0) rfl (by decide +kernel)) <|
  allq qX11_learn 53 (.inl (a_get 10 7 56)) (gX11 (f0 := 7) (by decide) kw_571 (by decide +kernel)) <|
  allq qX11_learn 56 (.inr (.inl (118, 3, 10))) (okV (y := yX9_readFrom) kw_661 kw_107 rfl rfl (by decide +kernel) kw_659 kw_660 kw_658) <|
  allq qX11_learn 59 (.inl (a_go 63)) (s_goto (off := 4) (by decide +kernel) (by decide)) <|
  allq qX11_learn 62 (.inl (a_ic 0 63)) (s_iconst (n := 0) (v := 0) rfl (by decide +kernel)) <|
  allq qX11_learn 63 (.inl (a_is 2 64)) (s_istore_n (q := 2) (i := 2) rfl (by decide +kernel) (by decide)) <|
  allq qX11_learn 64 (.inl (a_il 2 65)) (s_iload_n (q := 2) (i := 2) rfl (by decide +kernel)) <|
  allq qX11_learn 65 (.inl (o_if_ge 70 68)) (s_if_ge (off := 5) (by decide +kernel) (by decide)) <|
  allq qX11_learn 68 (.inl (a_il 2 69)) (s_iload_n (q := 2) (i := 2) rfl (by decide +kernel)) <|
  allq qX11_learn 69 (.inr (.inr 1)) (Or.inr (Or.inl ⟨rfl, rfl, by decide +kernel⟩)) <|
  allq qX11_learn 70 (.inl (a_al 0 71)) (s_aload_n (q := 0) (i := 0) rfl (by decide +kernel)) <|
  allq qX11_learn 71 (.inl (a_il 1 72)) (s_iload_n (q := 1) (i := 1) rfl (by decide +kernel)) <|
  allq qX11_learn 72 (.inl (o_if_eq 87 75)) (s_if_eq (off := 15) (by decide +kernel) (by decide)) <|
  allq qX11_learn 75 (.inl (a_al 0 76)) (s_aload_n (q := 0) (i := 0) rfl (by decide +kernel)) <|
  alln
set_option maxRecDepth 20000 in
theorem kX11_learn_1 : ∀ q ∈ tX11_learn_1, qX11_learn q :=
  allq qX11_learn 76 (.inl (a_get 10 0 79)) (gX11 (f0 := 0) (by decide) kw_564 (by decide +kernel)) <|
  allq qX11_learn 79 (.inl (a_ic 4 80)) (s_iconst (n := 4) (v := 4) rfl (by decide +kernel)) <|
  allq qX11_learn 80 (.inl (a_ic 4 81)) (s_iconst (n := 4) (v := 4) rfl (by decide +kernel)) <|
  allq qX11_learn 81 (.inr (.inl (94, 3, 8))) (okV (y := yX7_number) kw_651 kw_105 rfl rfl (by decide +kernel) kw_649 kw_650 kw_648) <|
  allq qX11_learn 84 (.inl (a_go 88)) (s_goto (off := 4) (by decide +kernel) (by decide)) <|
  allq qX11_learn 87 (.inl (a_lc 0 88)) (s_lconst (n := 0) rfl (by decide +kernel)) <|
  allq qX11_learn 88 (.inl (a_put 10 4 .long 91)) (pX11 (f0 := 4) (by decide) rfl rfl tOk kw_568 (by decide +kernel)) <|
  allq qX11_learn 91 (.inl (a_al 0 92)) (s_aload_n (q := 0) (i := 0) rfl (by decide +kernel)) <|
  allq qX11_learn 92 (.inl (a_get 10 5 95)) (gX11 (f0 := 5) (by decide) kw_569 (by decide +kernel)) <|
  allq qX11_learn 95 (.inl (a_as 3 96)) (s_astore_n (q := 3) (i := 3) rfl (by decide +kernel) (by decide)) <|
  allq qX11_learn 96 (.inl (a_al 0 97)) (s_aload_n (q := 0) (i := 0) rfl (by decide +kernel)) <|
  allq qX11_learn 97 (.inl (a_al 0 98)) (s_aload_n (q := 0) (i := 0) rfl (by decide +kernel)) <|
  allq qX11_learn 98 (.inl (a_get 10 6 101)) (gX11 (f0 := 6) (by decide) kw_570 (by decide +kernel)) <|
  allq qX11_learn 101 (.inl (a_put 10 5 (.object "StatePress$Start") 104)) (pX11 (f0 := 5) (by decide) rfl rfl tOk kw_569 (by decide +kernel)) <|
  allq qX11_learn 104 (.inl (a_al 0 105)) (s_aload_n (q := 0) (i := 0) rfl (by decide +kernel)) <|
  allq qX11_learn 105 (.inl (a_al 3 106)) (s_aload_n (q := 3) (i := 3) rfl (by decide +kernel)) <|
  allq qX11_learn 106 (.inl (a_put 10 6 (.object "StatePress$Start") 109)) (pX11 (f0 := 6) (by decide) rfl rfl tOk kw_570 (by decide +kernel)) <|
  allq qX11_learn 109 (.inl (a_al 0 110)) (s_aload_n (q := 0) (i := 0) rfl (by decide +kernel)) <|
  allq qX11_learn 110 (.inl (a_get 10 3 113)) (gX11 (f0 := 3) (by decide) kw_567 (by decide +kernel)) <|
  allq qX11_learn 113 (.inr (.inl (85, 1, 8))) (okV (y := yX7_drop) kw_625 kw_105 rfl rfl (by decide +kernel) kw_623 kw_624 kw_622) <|
  allq qX11_learn 116 (.inl (a_al 0 117)) (s_aload_n (q := 0) (i := 0) rfl (by decide +kernel)) <|
  allq qX11_learn 117 (.inl (a_get 10 3 120)) (gX11 (f0 := 3) (by decide) kw_567 (by decide +kernel)) <|
  allq qX11_learn 120 (.inl (a_al 0 121)) (s_aload_n (q := 0) (i := 0) rfl (by decide +kernel)) <|
  allq qX11_learn 121 (.inl (a_get 10 0 124)) (gX11 (f0 := 0) (by decide) kw_564 (by decide +kernel)) <|
  allq qX11_learn 124 (.inl (a_il 2 125)) (s_iload_n (q := 2) (i := 2) rfl (by decide +kernel)) <|
  allq qX11_learn 125 (.inl (a_al 0 126)) (s_aload_n (q := 0) (i := 0) rfl (by decide +kernel)) <|
  allq qX11_learn 126 (.inl (a_get 10 0 129)) (gX11 (f0 := 0) (by decide) kw_564 (by decide +kernel)) <|
  allq qX11_learn 129 (.inl (a_get 7 1 132)) (gX7 (f0 := 1) (by decide) kw_142 (by decide +kernel)) <|
  allq qX11_learn 132 (.inr (.inl (88, 4, 8))) (okV (y := yX7_putRow) kw_633 kw_105 rfl rfl (by decide +kernel) kw_631 kw_632 kw_630) <|
  allq qX11_learn 135 (.inl (a_al 0 136)) (s_aload_n (q := 0) (i := 0) rfl (by decide +kernel)) <|
  allq qX11_learn 136 (.inl (a_get 10 0 139)) (gX11 (f0 := 0) (by decide) kw_564 (by decide +kernel)) <|
  allq qX11_learn 139 (.inr (.inl (85, 1, 8))) (okV (y := yX7_drop) kw_625 kw_105 rfl rfl (by decide +kernel) kw_623 kw_624 kw_622) <|
  allq qX11_learn 142 (.inl (a_al 0 143)) (s_aload_n (q := 0) (i := 0) rfl (by decide +kernel)) <|
  allq qX11_learn 143 (.inl (a_get 10 3 146)) (gX11 (f0 := 3) (by decide) kw_567 (by decide +kernel)) <|
  allq qX11_learn 146 (.inl (a_get 7 1 149)) (gX7 (f0 := 1) (by decide) kw_142 (by decide +kernel)) <|
  allq qX11_learn 149 (.inr (.inr 1)) (Or.inr (Or.inl ⟨rfl, rfl, by decide +kernel⟩)) <|
  alln
theorem kX11_learn : ∀ q ∈ tX11_learn, qX11_learn q := alla kX11_learn_0 kX11_learn_1
abbrev qX11_forget : Nat × aI → Prop := OkQ RX11 "forget" cX11_forget 1 (none)
set_option maxRecDepth 20000 in
theorem kX11_forget_0 : ∀ q ∈ tX11_forget_0, qX11_forget q :=
  allq qX11_forget 0 (.inl (a_al 0 1)) (s_aload_n (q := 0) (i := 0) rfl (by decide +kernel)) <|
  allq qX11_forget 1 (.inl (a_get 10 3 4)) (gX11 (f0 := 3) (by decide) kw_567 (by decide +kernel)) <|
  allq qX11_forget 4 (.inr (.inl (85, 1, 8))) (okV (y := yX7_drop) kw_625 kw_105 rfl rfl (by decide +kernel) kw_623 kw_624 kw_622) <|
  allq qX11_forget 7 (.inl (a_al 0 8)) (s_aload_n (q := 0) (i := 0) rfl (by decide +kernel)) <|
  allq qX11_forget 8 (.inl (a_get 10 5 11)) (gX11 (f0 := 5) (by decide) kw_569 (by decide +kernel)) <|
  allq qX11_forget 11 (.inr (.inl (117, 1, 10))) (okV (y := yX9_empty) kw_657 kw_107 rfl rfl (by decide +kernel) kw_655 kw_656 kw_654) <|
  allq qX11_forget 14 (.inl (a_al 0 15)) (s_aload_n (q := 0) (i := 0) rfl (by decide +kernel)) <|
  allq qX11_forget 15 (.inl (a_lc 0 16)) (s_lconst (n := 0) rfl (by decide +kernel)) <|
  allq qX11_forget 16 (.inl (a_put 10 4 .long 19)) (pX11 (f0 := 4) (by decide) rfl rfl tOk kw_568 (by decide +kernel)) <|
  allq qX11_forget 19 (.inr (.inr 0)) (Or.inl ⟨rfl, rfl, by decide +kernel⟩) <|
  alln
theorem kX11_forget : ∀ q ∈ tX11_forget, qX11_forget q := kX11_forget_0
abbrev qX11_press : Nat × aI → Prop := OkQ RX11 "press" cX11_press 8 (some .int)
set_option maxRecDepth 20000 in
theorem kX11_press_0 : ∀ q ∈ tX11_press_0, qX11_press q :=
  allq qX11_press 0 (.inl (a_il 1 1)) (s_iload_n (q := 1) (i := 1) rfl (by decide +kernel)) <|
  allq qX11_press 1 (.inl (o_if_lt 32 4)) (s_if_lt (off := 31) (by decide +kernel) (by decide)) <|
  allq qX11_press 4 (.inl (a_il 1 5)) (s_iload_n (q := 1) (i := 1) rfl (by decide +kernel)) <|
  allq qX11_press 5 (.inl (a_ic 15 7)) (s_bipush (n := 15) (v := 15) rfl (by decide +kernel)) <|
  allq qX11_press 7 (.inl (o_icmp_gt 32 10)) (s_icmp_gt (off := 25) (by decide +kernel) (by decide)) <|
  allq qX11_press 10 (.inl (a_il 2 11)) (s_iload_n (q := 2) (i := 2) rfl (by decide +kernel)) <|
  allq qX11_press 11 (.inl (o_if_lt 32 14)) (s_if_lt (off := 21) (by decide +kernel) (by decide)) <|
  allq qX11_press 14 (.inl (a_il 2 15)) (s_iload_n (q := 2) (i := 2) rfl (by decide +kernel)) <|
  allq qX11_press 15 (.inl (a_ic 11 17)) (s_bipush (n := 11) (v := 11) rfl (by decide +kernel)) <|
  allq qX11_press 17 (.inl (o_icmp_gt 32 20)) (s_icmp_gt (off := 15) (by decide +kernel) (by decide)) <|
  allq qX11_press 20 (.inl (a_il 3 21)) (s_iload_n (q := 3) (i := 3) rfl (by decide +kernel)) <|
  allq qX11_press 21 (.inl (a_ic 1 22)) (s_iconst (n := 1) (v := 1) rfl (by decide +kernel)) <|
  allq qX11_press 22 (.inl (o_icmp_lt 32 25)) (s_icmp_lt (off := 10) (by decide +kernel) (by decide)) <|
  allq qX11_press 25 (.inl (a_il 3 26)) (s_iload_n (q := 3) (i := 3) rfl (by decide +kernel)) <|
  allq qX11_press 26 (.inl (a_ic 8000 29)) (s_sipush (n := 8000) (v := 8000) rfl (by decide +kernel)) <|
  allq qX11_press 29 (.inl (o_icmp_le 34 32)) (s_icmp_le (off := 5) (by decide +kernel) (by decide)) <|
  allq qX11_press 32 (.inl (a_ic (-1) 33)) (s_iconst (n := (-1)) (v := (-1)) rfl (by decide +kernel)) <|
  allq qX11_press 33 (.inr (.inr 1)) (Or.inr (Or.inl ⟨rfl, rfl, by decide +kernel⟩)) <|
  allq qX11_press 34 (.inl (a_il 1 35)) (s_iload_n (q := 1) (i := 1) rfl (by decide +kernel)) <|
  allq qX11_press 35 (.inl (a_ic 4 36)) (s_iconst (n := 4) (v := 4) rfl (by decide +kernel)) <|
  allq qX11_press 36 (.inl (o_iand 37)) (s_iand (by decide +kernel)) <|
  allq qX11_press 37 (.inl (o_if_eq 44 40)) (s_if_eq (off := 7) (by decide +kernel) (by decide)) <|
  allq qX11_press 40 (.inl (a_ic 1 41)) (s_iconst (n := 1) (v := 1) rfl (by decide +kernel)) <|
  allq qX11_press 41 (.inl (a_go 45)) (s_goto (off := 4) (by decide +kernel) (by decide)) <|
  allq qX11_press 44 (.inl (a_ic 0 45)) (s_iconst (n := 0) (v := 0) rfl (by decide +kernel)) <|
  allq qX11_press 45 (.inl (a_is 4 47)) (s_istore (i := 4) (by decide +kernel) (by decide)) <|
  allq qX11_press 47 (.inl (a_il 4 49)) (s_iload (i := 4) (by decide +kernel)) <|
  allq qX11_press 49 (.inl (o_if_ne 64 52)) (s_if_ne (off := 15) (by decide +kernel) (by decide)) <|
  allq qX11_press 52 (.inl (a_il 3 53)) (s_iload_n (q := 3) (i := 3) rfl (by decide +kernel)) <|
  allq qX11_press 53 (.inl (a_ic 1 54)) (s_iconst (n := 1) (v := 1) rfl (by decide +kernel)) <|
  allq qX11_press 54 (.inl (a_ic 10 56)) (s_bipush (n := 10) (v := 10) rfl (by decide +kernel)) <|
  allq qX11_press 56 (.inl (a_il 2 57)) (s_iload_n (q := 2) (i := 2) rfl (by decide +kernel)) <|
  allq qX11_press 57 (.inl (o_iadd 58)) (s_iadd (by decide +kernel)) <|
  allq qX11_press 58 (.inl (o_ishl 59)) (s_ishl (by decide +kernel)) <|
  allq qX11_press 59 (.inl (o_icmp_le 64 62)) (s_icmp_le (off := 5) (by decide +kernel) (by decide)) <|
  allq qX11_press 62 (.inl (a_ic (-1) 63)) (s_iconst (n := (-1)) (v := (-1)) rfl (by decide +kernel)) <|
  allq qX11_press 63 (.inr (.inr 1)) (Or.inr (Or.inl ⟨rfl, rfl, by decide +kernel⟩)) <|
  allq qX11_press 64 (.inl (a_al 0 65)) (s_aload_n (q := 0) (i := 0) rfl (by decide +kernel)) <|
  allq qX11_press 65 (.inl (a_get 10 2 68)) (gX11 (f0 := 2) (by decide) kw_566 (by decide +kernel)) <|
  allq qX11_press 68 (.inr (.inl (85, 1, 8))) (okV (y := yX7_drop) kw_625 kw_105 rfl rfl (by decide +kernel) kw_623 kw_624 kw_622) <|
  alln
set_option maxRecDepth 20000 in
theorem kX11_press_1 : ∀ q ∈ tX11_press_1, qX11_press q :=
  allq qX11_press 71 (.inl (a_al 0 72)) (s_aload_n (q := 0) (i := 0) rfl (by decide +kernel)) <|
  allq qX11_press 72 (.inl (a_il 1 73)) (s_iload_n (q := 1) (i := 1) rfl (by decide +kernel)) <|
  allq qX11_press 73 (.inl (a_il 2 74)) (s_iload_n (q := 2) (i := 2) rfl (by decide +kernel)) <|
  allq qX11_press 74 (.inr (.inl (137, 3, 11))) (okV (y := yX11_putHead) kw_723 kw_104 rfl rfl (by decide +kernel) kw_722 kw_5 kw_720) <|
  allq qX11_press 77 (.inl (a_al 0 78)) (s_aload_n (q := 0) (i := 0) rfl (by decide +kernel)) <|
  allq qX11_press 78 (.inl (a_get 10 8 81)) (gX11 (f0 := 8) (by decide) kw_572 (by decide +kernel)) <|
  allq qX11_press 81 (.inl (a_al 0 82)) (s_aload_n (q := 0) (i := 0) rfl (by decide +kernel)) <|
  allq qX11_press 82 (.inl (a_get 10 5 85)) (gX11 (f0 := 5) (by decide) kw_569 (by decide +kernel)) <|
  allq qX11_press 85 (.inr (.inl (69, 2, 7))) (okV (y := yX6_begin) kw_742 kw_111 rfl rfl (by decide +kernel) kw_740 kw_741 kw_739) <|
  allq qX11_press 88 (.inl (a_al 0 89)) (s_aload_n (q := 0) (i := 0) rfl (by decide +kernel)) <|
  allq qX11_press 89 (.inl (a_get 10 8 92)) (gX11 (f0 := 8) (by decide) kw_572 (by decide +kernel)) <|
  allq qX11_press 92 (.inl (a_get 6 0 95)) (gX6 (f0 := 0) (by decide) kw_534 (by decide +kernel)) <|
  allq qX11_press 95 (.inl (a_al 0 96)) (s_aload_n (q := 0) (i := 0) rfl (by decide +kernel)) <|
  allq qX11_press 96 (.inl (a_get 10 3 99)) (gX11 (f0 := 3) (by decide) kw_567 (by decide +kernel)) <|
  allq qX11_press 99 (.inl (a_al 0 100)) (s_aload_n (q := 0) (i := 0) rfl (by decide +kernel)) <|
  allq qX11_press 100 (.inl (a_get 10 0 103)) (gX11 (f0 := 0) (by decide) kw_564 (by decide +kernel)) <|
  allq qX11_press 103 (.inr (.inl (33, 3, 4))) (okV (y := yX3_load) kw_765 kw_112 rfl rfl (by decide +kernel) kw_763 kw_764 kw_762) <|
  allq qX11_press 106 (.inl (a_al 0 107)) (s_aload_n (q := 0) (i := 0) rfl (by decide +kernel)) <|
  allq qX11_press 107 (.inl (a_get 10 8 110)) (gX11 (f0 := 8) (by decide) kw_572 (by decide +kernel)) <|
  allq qX11_press 110 (.inl (a_get 6 0 113)) (gX6 (f0 := 0) (by decide) kw_534 (by decide +kernel)) <|
  allq qX11_press 113 (.inl (a_al 0 114)) (s_aload_n (q := 0) (i := 0) rfl (by decide +kernel)) <|
  allq qX11_press 114 (.inl (a_get 10 10 117)) (gX11 (f0 := 10) (by decide) kw_574 (by decide +kernel)) <|
  allq qX11_press 117 (.inl (a_al 0 118)) (s_aload_n (q := 0) (i := 0) rfl (by decide +kernel)) <|
  allq qX11_press 118 (.inl (a_get 10 11 121)) (gX11 (f0 := 11) (by decide) kw_575 (by decide +kernel)) <|
  allq qX11_press 121 (.inl (a_il 4 123)) (s_iload (i := 4) (by decide +kernel)) <|
  allq qX11_press 123 (.inl (o_if_eq 136 126)) (s_if_eq (off := 13) (by decide +kernel) (by decide)) <|
  allq qX11_press 126 (.inl (a_al 0 127)) (s_aload_n (q := 0) (i := 0) rfl (by decide +kernel)) <|
  allq qX11_press 127 (.inl (a_get 10 0 130)) (gX11 (f0 := 0) (by decide) kw_564 (by decide +kernel)) <|
  allq qX11_press 130 (.inl (a_get 7 1 133)) (gX7 (f0 := 1) (by decide) kw_142 (by decide +kernel)) <|
  allq qX11_press 133 (.inl (a_go 142)) (s_goto (off := 9) (by decide +kernel) (by decide)) <|
  allq qX11_press 136 (.inl (a_ic 1 137)) (s_iconst (n := 1) (v := 1) rfl (by decide +kernel)) <|
  allq qX11_press 137 (.inl (a_ic 10 139)) (s_bipush (n := 10) (v := 10) rfl (by decide +kernel)) <|
  allq qX11_press 139 (.inl (a_il 2 140)) (s_iload_n (q := 2) (i := 2) rfl (by decide +kernel)) <|
  allq qX11_press 140 (.inl (o_iadd 141)) (s_iadd (by decide +kernel)) <|
  allq qX11_press 141 (.inl (o_ishl 142)) (s_ishl (by decide +kernel)) <|
  allq qX11_press 142 (.inr (.inl (34, 4, 4))) (okV (y := yX3_obey) kw_772 kw_112 rfl rfl (by decide +kernel) kw_770 kw_771 kw_769) <|
  allq qX11_press 145 (.inl (a_al 0 146)) (s_aload_n (q := 0) (i := 0) rfl (by decide +kernel)) <|
  allq qX11_press 146 (.inl (a_get 10 3 149)) (gX11 (f0 := 3) (by decide) kw_567 (by decide +kernel)) <|
  allq qX11_press 149 (.inl (a_get 7 1 152)) (gX7 (f0 := 1) (by decide) kw_142 (by decide +kernel)) <|
  allq qX11_press 152 (.inl (a_al 0 153)) (s_aload_n (q := 0) (i := 0) rfl (by decide +kernel)) <|
  alln
set_option maxRecDepth 20000 in
theorem kX11_press_2 : ∀ q ∈ tX11_press_2, qX11_press q :=
  allq qX11_press 153 (.inl (a_get 10 0 156)) (gX11 (f0 := 0) (by decide) kw_564 (by decide +kernel)) <|
  allq qX11_press 156 (.inl (a_get 7 1 159)) (gX7 (f0 := 1) (by decide) kw_142 (by decide +kernel)) <|
  allq qX11_press 159 (.inl (o_iadd 160)) (s_iadd (by decide +kernel)) <|
  allq qX11_press 160 (.inl (a_is 5 162)) (s_istore (i := 5) (by decide +kernel) (by decide)) <|
  allq qX11_press 162 (.inl (a_al 0 163)) (s_aload_n (q := 0) (i := 0) rfl (by decide +kernel)) <|
  allq qX11_press 163 (.inl (a_get 10 3 166)) (gX11 (f0 := 3) (by decide) kw_567 (by decide +kernel)) <|
  allq qX11_press 166 (.inl (a_get 7 1 169)) (gX7 (f0 := 1) (by decide) kw_142 (by decide +kernel)) <|
  allq qX11_press 169 (.inl (a_is 6 171)) (s_istore (i := 6) (by decide +kernel) (by decide)) <|
  allq qX11_press 171 (.inl (a_il 6 173)) (s_iload (i := 6) (by decide +kernel)) <|
  allq qX11_press 173 (.inl (a_il 3 174)) (s_iload_n (q := 3) (i := 3) rfl (by decide +kernel)) <|
  allq qX11_press 174 (.inl (o_iadd 175)) (s_iadd (by decide +kernel)) <|
  allq qX11_press 175 (.inl (a_il 5 177)) (s_iload (i := 5) (by decide +kernel)) <|
  allq qX11_press 177 (.inl (o_mmin 180)) (s_mmin kw_773 kw_498 kw_106 kw_499 (by decide +kernel)) <|
  allq qX11_press 180 (.inl (a_is 7 182)) (s_istore (i := 7) (by decide +kernel) (by decide)) <|
  allq qX11_press 182 (.inl (a_al 0 183)) (s_aload_n (q := 0) (i := 0) rfl (by decide +kernel)) <|
  allq qX11_press 183 (.inl (a_get 10 8 186)) (gX11 (f0 := 8) (by decide) kw_572 (by decide +kernel)) <|
  allq qX11_press 186 (.inl (a_al 0 187)) (s_aload_n (q := 0) (i := 0) rfl (by decide +kernel)) <|
  allq qX11_press 187 (.inl (a_get 10 2 190)) (gX11 (f0 := 2) (by decide) kw_566 (by decide +kernel)) <|
  allq qX11_press 190 (.inl (a_il 6 192)) (s_iload (i := 6) (by decide +kernel)) <|
  allq qX11_press 192 (.inl (a_il 7 194)) (s_iload (i := 7) (by decide +kernel)) <|
  allq qX11_press 194 (.inl (a_il 7 196)) (s_iload (i := 7) (by decide +kernel)) <|
  allq qX11_press 196 (.inl (a_il 5 198)) (s_iload (i := 5) (by decide +kernel)) <|
  allq qX11_press 198 (.inl (o_icmp_ne 205 201)) (s_icmp_ne (off := 7) (by decide +kernel) (by decide)) <|
  allq qX11_press 201 (.inl (a_ic 1 202)) (s_iconst (n := 1) (v := 1) rfl (by decide +kernel)) <|
  allq qX11_press 202 (.inl (a_go 206)) (s_goto (off := 4) (by decide +kernel) (by decide)) <|
  allq qX11_press 205 (.inl (a_ic 0 206)) (s_iconst (n := 0) (v := 0) rfl (by decide +kernel)) <|
  allq qX11_press 206 (.inr (.inl (75, 5, 7))) (okV (y := yX6_putBlock) kw_777 kw_111 rfl rfl (by decide +kernel) kw_775 kw_776 kw_774) <|
  allq qX11_press 209 (.inl (a_il 7 211)) (s_iload (i := 7) (by decide +kernel)) <|
  allq qX11_press 211 (.inl (a_is 6 213)) (s_istore (i := 6) (by decide +kernel) (by decide)) <|
  allq qX11_press 213 (.inl (a_il 6 215)) (s_iload (i := 6) (by decide +kernel)) <|
  allq qX11_press 215 (.inl (a_il 5 217)) (s_iload (i := 5) (by decide +kernel)) <|
  allq qX11_press 217 (.inl (o_icmp_ge 230 220)) (s_icmp_ge (off := 13) (by decide +kernel) (by decide)) <|
  allq qX11_press 220 (.inl (a_al 0 221)) (s_aload_n (q := 0) (i := 0) rfl (by decide +kernel)) <|
  allq qX11_press 221 (.inl (a_get 10 2 224)) (gX11 (f0 := 2) (by decide) kw_566 (by decide +kernel)) <|
  allq qX11_press 224 (.inl (a_get 7 2 227)) (gX7 (f0 := 2) (by decide) kw_148 (by decide +kernel)) <|
  allq qX11_press 227 (.inl (o_if_eq 171 230)) (s_if_eq (off := (-56)) (by decide +kernel) (by decide)) <|
  allq qX11_press 230 (.inl (a_il 1 231)) (s_iload_n (q := 1) (i := 1) rfl (by decide +kernel)) <|
  allq qX11_press 231 (.inl (a_ic 1 232)) (s_iconst (n := 1) (v := 1) rfl (by decide +kernel)) <|
  allq qX11_press 232 (.inl (o_iand 233)) (s_iand (by decide +kernel)) <|
  allq qX11_press 233 (.inl (o_if_eq 251 236)) (s_if_eq (off := 18) (by decide +kernel) (by decide)) <|
  alln
set_option maxRecDepth 20000 in
theorem kX11_press_3 : ∀ q ∈ tX11_press_3, qX11_press q :=
  allq qX11_press 236 (.inl (a_al 0 237)) (s_aload_n (q := 0) (i := 0) rfl (by decide +kernel)) <|
  allq qX11_press 237 (.inl (a_get 10 2 240)) (gX11 (f0 := 2) (by decide) kw_566 (by decide +kernel)) <|
  allq qX11_press 240 (.inl (a_al 0 241)) (s_aload_n (q := 0) (i := 0) rfl (by decide +kernel)) <|
  allq qX11_press 241 (.inl (a_get 10 0 244)) (gX11 (f0 := 0) (by decide) kw_564 (by decide +kernel)) <|
  allq qX11_press 244 (.inr (.inl (119, 1, 0))) (okS (y := yX10_of) kw_1124 kw_119 rfl (by decide +kernel) kw_1123 (Or.inl kw_1122)) <|
  allq qX11_press 247 (.inl (a_ic 4 248)) (s_iconst (n := 4) (v := 4) rfl (by decide +kernel)) <|
  allq qX11_press 248 (.inr (.inl (87, 3, 8))) (okV (y := yX7_putNumber) kw_737 kw_105 rfl rfl (by decide +kernel) kw_735 kw_736 kw_734) <|
  allq qX11_press 251 (.inl (a_al 0 252)) (s_aload_n (q := 0) (i := 0) rfl (by decide +kernel)) <|
  allq qX11_press 252 (.inl (a_get 10 2 255)) (gX11 (f0 := 2) (by decide) kw_566 (by decide +kernel)) <|
  allq qX11_press 255 (.inl (a_get 7 2 258)) (gX7 (f0 := 2) (by decide) kw_148 (by decide +kernel)) <|
  allq qX11_press 258 (.inl (o_if_eq 263 261)) (s_if_eq (off := 5) (by decide +kernel) (by decide)) <|
  allq qX11_press 261 (.inl (a_ic (-1) 262)) (s_iconst (n := (-1)) (v := (-1)) rfl (by decide +kernel)) <|
  allq qX11_press 262 (.inr (.inr 1)) (Or.inr (Or.inl ⟨rfl, rfl, by decide +kernel⟩)) <|
  allq qX11_press 263 (.inl (a_al 0 264)) (s_aload_n (q := 0) (i := 0) rfl (by decide +kernel)) <|
  allq qX11_press 264 (.inl (a_get 10 8 267)) (gX11 (f0 := 8) (by decide) kw_572 (by decide +kernel)) <|
  allq qX11_press 267 (.inl (a_get 6 8 270)) (gX6 (f0 := 8) (by decide) kw_544 (by decide +kernel)) <|
  allq qX11_press 270 (.inl (a_ic 0 271)) (s_iconst (n := 0) (v := 0) rfl (by decide +kernel)) <|
  allq qX11_press 271 (.inl (a_al 0 272)) (s_aload_n (q := 0) (i := 0) rfl (by decide +kernel)) <|
  allq qX11_press 272 (.inl (a_get 10 9 275)) (gX11 (f0 := 9) (by decide) kw_573 (by decide +kernel)) <|
  allq qX11_press 275 (.inl (a_ic 0 276)) (s_iconst (n := 0) (v := 0) rfl (by decide +kernel)) <|
  allq qX11_press 276 (.inl (a_ic 12 278)) (s_bipush (n := 12) (v := 12) rfl (by decide +kernel)) <|
  allq qX11_press 278 (.inl (a_copy 1 281)) (cp1 kw_1143 kw_502 kw_501 kw_117 (by decide +kernel)) <|
  allq qX11_press 281 (.inl (a_al 0 282)) (s_aload_n (q := 0) (i := 0) rfl (by decide +kernel)) <|
  allq qX11_press 282 (.inr (.inl (136, 1, 11))) (okV (y := yX11_becomeOut) kw_1147 kw_104 rfl rfl (by decide +kernel) kw_1146 kw_40 kw_1144) <|
  allq qX11_press 285 (.inr (.inr 1)) (Or.inr (Or.inl ⟨rfl, rfl, by decide +kernel⟩)) <|
  alln
theorem kX11_press : ∀ q ∈ tX11_press, qX11_press q := alla kX11_press_0 (alla kX11_press_1 (alla kX11_press_2 kX11_press_3))
abbrev qX11_make : Nat × aI → Prop := OkQ RX11 "make" cX11_make 3 (some .int)
set_option maxRecDepth 20000 in
theorem kX11_make_0 : ∀ q ∈ tX11_make_0, qX11_make q :=
  allq qX11_make 0 (.inl (a_al 0 1)) (s_aload_n (q := 0) (i := 0) rfl (by decide +kernel)) <|
  allq qX11_make 1 (.inl (a_get 10 0 4)) (gX11 (f0 := 0) (by decide) kw_564 (by decide +kernel)) <|
  allq qX11_make 4 (.inl (a_get 7 1 7)) (gX7 (f0 := 1) (by decide) kw_142 (by decide +kernel)) <|
  allq qX11_make 7 (.inl (a_ic 8 9)) (s_bipush (n := 8) (v := 8) rfl (by decide +kernel)) <|
  allq qX11_make 9 (.inl (o_icmp_ge 14 12)) (s_icmp_ge (off := 5) (by decide +kernel) (by decide)) <|
  allq qX11_make 12 (.inl (a_ic (-1) 13)) (s_iconst (n := (-1)) (v := (-1)) rfl (by decide +kernel)) <|
  allq qX11_make 13 (.inr (.inr 1)) (Or.inr (Or.inl ⟨rfl, rfl, by decide +kernel⟩)) <|
  allq qX11_make 14 (.inl (a_al 0 15)) (s_aload_n (q := 0) (i := 0) rfl (by decide +kernel)) <|
  allq qX11_make 15 (.inl (a_get 10 6 18)) (gX11 (f0 := 6) (by decide) kw_570 (by decide +kernel)) <|
  allq qX11_make 18 (.inr (.inl (117, 1, 10))) (okV (y := yX9_empty) kw_657 kw_107 rfl rfl (by decide +kernel) kw_655 kw_656 kw_654) <|
  allq qX11_make 21 (.inl (a_al 0 22)) (s_aload_n (q := 0) (i := 0) rfl (by decide +kernel)) <|
  allq qX11_make 22 (.inl (a_get 10 8 25)) (gX11 (f0 := 8) (by decide) kw_572 (by decide +kernel)) <|
  allq qX11_make 25 (.inl (a_al 0 26)) (s_aload_n (q := 0) (i := 0) rfl (by decide +kernel)) <|
  allq qX11_make 26 (.inl (a_get 10 6 29)) (gX11 (f0 := 6) (by decide) kw_570 (by decide +kernel)) <|
  allq qX11_make 29 (.inr (.inl (69, 2, 7))) (okV (y := yX6_begin) kw_742 kw_111 rfl rfl (by decide +kernel) kw_740 kw_741 kw_739) <|
  allq qX11_make 32 (.inl (a_al 0 33)) (s_aload_n (q := 0) (i := 0) rfl (by decide +kernel)) <|
  allq qX11_make 33 (.inl (a_get 10 8 36)) (gX11 (f0 := 8) (by decide) kw_572 (by decide +kernel)) <|
  allq qX11_make 36 (.inl (a_get 6 0 39)) (gX6 (f0 := 0) (by decide) kw_534 (by decide +kernel)) <|
  allq qX11_make 39 (.inl (a_al 0 40)) (s_aload_n (q := 0) (i := 0) rfl (by decide +kernel)) <|
  allq qX11_make 40 (.inl (a_get 10 6 43)) (gX11 (f0 := 6) (by decide) kw_570 (by decide +kernel)) <|
  allq qX11_make 43 (.inl (a_get 9 0 46)) (gX9 (f0 := 0) (by decide) kw_238 (by decide +kernel)) <|
  allq qX11_make 46 (.inl (a_al 0 47)) (s_aload_n (q := 0) (i := 0) rfl (by decide +kernel)) <|
  allq qX11_make 47 (.inl (a_get 10 0 50)) (gX11 (f0 := 0) (by decide) kw_564 (by decide +kernel)) <|
  allq qX11_make 50 (.inr (.inl (33, 3, 4))) (okV (y := yX3_load) kw_765 kw_112 rfl rfl (by decide +kernel) kw_763 kw_764 kw_762) <|
  allq qX11_make 53 (.inl (a_al 0 54)) (s_aload_n (q := 0) (i := 0) rfl (by decide +kernel)) <|
  allq qX11_make 54 (.inl (a_get 10 8 57)) (gX11 (f0 := 8) (by decide) kw_572 (by decide +kernel)) <|
  allq qX11_make 57 (.inl (a_get 6 0 60)) (gX6 (f0 := 0) (by decide) kw_534 (by decide +kernel)) <|
  allq qX11_make 60 (.inl (a_al 0 61)) (s_aload_n (q := 0) (i := 0) rfl (by decide +kernel)) <|
  allq qX11_make 61 (.inl (a_get 10 10 64)) (gX11 (f0 := 10) (by decide) kw_574 (by decide +kernel)) <|
  allq qX11_make 64 (.inl (a_al 0 65)) (s_aload_n (q := 0) (i := 0) rfl (by decide +kernel)) <|
  allq qX11_make 65 (.inl (a_get 10 11 68)) (gX11 (f0 := 11) (by decide) kw_575 (by decide +kernel)) <|
  allq qX11_make 68 (.inl (a_ic 16000 71)) (s_sipush (n := 16000) (v := 16000) rfl (by decide +kernel)) <|
  allq qX11_make 71 (.inr (.inl (34, 4, 4))) (okV (y := yX3_obey) kw_772 kw_112 rfl rfl (by decide +kernel) kw_770 kw_771 kw_769) <|
  allq qX11_make 74 (.inl (a_al 0 75)) (s_aload_n (q := 0) (i := 0) rfl (by decide +kernel)) <|
  allq qX11_make 75 (.inl (a_get 10 8 78)) (gX11 (f0 := 8) (by decide) kw_572 (by decide +kernel)) <|
  allq qX11_make 78 (.inl (a_ic 0 79)) (s_iconst (n := 0) (v := 0) rfl (by decide +kernel)) <|
  allq qX11_make 79 (.inl (a_al 0 80)) (s_aload_n (q := 0) (i := 0) rfl (by decide +kernel)) <|
  allq qX11_make 80 (.inl (a_get 10 0 83)) (gX11 (f0 := 0) (by decide) kw_564 (by decide +kernel)) <|
  allq qX11_make 83 (.inl (a_get 7 1 86)) (gX7 (f0 := 1) (by decide) kw_142 (by decide +kernel)) <|
  allq qX11_make 86 (.inr (.inl (71, 3, 7))) (okV (y := yX6_go) kw_794 kw_111 rfl rfl (by decide +kernel) kw_792 kw_793 kw_1152) <|
  alln
set_option maxRecDepth 20000 in
theorem kX11_make_1 : ∀ q ∈ tX11_make_1, qX11_make q :=
  allq qX11_make 89 (.inl (a_al 0 90)) (s_aload_n (q := 0) (i := 0) rfl (by decide +kernel)) <|
  allq qX11_make 90 (.inl (a_get 10 8 93)) (gX11 (f0 := 8) (by decide) kw_572 (by decide +kernel)) <|
  allq qX11_make 93 (.inr (.inl (70, 1, 7))) (okV (y := yX6_sequences) kw_1156 kw_111 rfl rfl (by decide +kernel) kw_1154 kw_1155 kw_1153) <|
  allq qX11_make 96 (.inl (o_if_eq 112 99)) (s_if_eq (off := 16) (by decide +kernel) (by decide)) <|
  allq qX11_make 99 (.inl (a_al 0 100)) (s_aload_n (q := 0) (i := 0) rfl (by decide +kernel)) <|
  allq qX11_make 100 (.inl (a_get 10 8 103)) (gX11 (f0 := 8) (by decide) kw_572 (by decide +kernel)) <|
  allq qX11_make 103 (.inl (a_get 6 1 106)) (gX6 (f0 := 1) (by decide) kw_536 (by decide +kernel)) <|
  allq qX11_make 106 (.inr (.inl (56, 1, 6))) (okV (y := yX5_renew) kw_864 kw_113 rfl rfl (by decide +kernel) kw_862 kw_863 kw_1157) <|
  allq qX11_make 109 (.inl (o_if_ne 114 112)) (s_if_ne (off := 5) (by decide +kernel) (by decide)) <|
  allq qX11_make 112 (.inl (a_ic (-1) 113)) (s_iconst (n := (-1)) (v := (-1)) rfl (by decide +kernel)) <|
  allq qX11_make 113 (.inr (.inr 1)) (Or.inr (Or.inl ⟨rfl, rfl, by decide +kernel⟩)) <|
  allq qX11_make 114 (.inl (a_al 0 115)) (s_aload_n (q := 0) (i := 0) rfl (by decide +kernel)) <|
  allq qX11_make 115 (.inl (a_get 10 2 118)) (gX11 (f0 := 2) (by decide) kw_566 (by decide +kernel)) <|
  allq qX11_make 118 (.inr (.inl (85, 1, 8))) (okV (y := yX7_drop) kw_625 kw_105 rfl rfl (by decide +kernel) kw_623 kw_624 kw_622) <|
  allq qX11_make 121 (.inl (a_al 0 122)) (s_aload_n (q := 0) (i := 0) rfl (by decide +kernel)) <|
  allq qX11_make 122 (.inl (a_get 10 2 125)) (gX11 (f0 := 2) (by decide) kw_566 (by decide +kernel)) <|
  allq qX11_make 125 (.inl (a_lc 3962610743 128)) (s_ldc2 kw_653 (by decide +kernel)) <|
  allq qX11_make 128 (.inl (a_ic 4 129)) (s_iconst (n := 4) (v := 4) rfl (by decide +kernel)) <|
  allq qX11_make 129 (.inr (.inl (87, 3, 8))) (okV (y := yX7_putNumber) kw_737 kw_105 rfl rfl (by decide +kernel) kw_735 kw_736 kw_734) <|
  allq qX11_make 132 (.inl (a_al 0 133)) (s_aload_n (q := 0) (i := 0) rfl (by decide +kernel)) <|
  allq qX11_make 133 (.inl (a_get 10 2 136)) (gX11 (f0 := 2) (by decide) kw_566 (by decide +kernel)) <|
  allq qX11_make 136 (.inl (a_il 1 137)) (s_iload_n (q := 1) (i := 1) rfl (by decide +kernel)) <|
  allq qX11_make 137 (.inl (a_i2l 138)) (s_i2l (by decide +kernel)) <|
  allq qX11_make 138 (.inl (a_ic 4 139)) (s_iconst (n := 4) (v := 4) rfl (by decide +kernel)) <|
  allq qX11_make 139 (.inr (.inl (87, 3, 8))) (okV (y := yX7_putNumber) kw_737 kw_105 rfl rfl (by decide +kernel) kw_735 kw_736 kw_734) <|
  allq qX11_make 142 (.inl (a_al 0 143)) (s_aload_n (q := 0) (i := 0) rfl (by decide +kernel)) <|
  allq qX11_make 143 (.inl (a_get 10 8 146)) (gX11 (f0 := 8) (by decide) kw_572 (by decide +kernel)) <|
  allq qX11_make 146 (.inl (a_al 0 147)) (s_aload_n (q := 0) (i := 0) rfl (by decide +kernel)) <|
  allq qX11_make 147 (.inl (a_get 10 2 150)) (gX11 (f0 := 2) (by decide) kw_566 (by decide +kernel)) <|
  allq qX11_make 150 (.inr (.inl (83, 2, 7))) (okV (y := yX6_putForms) kw_1161 kw_111 rfl rfl (by decide +kernel) kw_1159 kw_1160 kw_1158) <|
  allq qX11_make 153 (.inl (a_ic 0 154)) (s_iconst (n := 0) (v := 0) rfl (by decide +kernel)) <|
  allq qX11_make 154 (.inl (a_is 2 155)) (s_istore_n (q := 2) (i := 2) rfl (by decide +kernel) (by decide)) <|
  allq qX11_make 155 (.inl (a_il 2 156)) (s_iload_n (q := 2) (i := 2) rfl (by decide +kernel)) <|
  allq qX11_make 156 (.inl (a_al 0 157)) (s_aload_n (q := 0) (i := 0) rfl (by decide +kernel)) <|
  allq qX11_make 157 (.inl (a_get 10 6 160)) (gX11 (f0 := 6) (by decide) kw_570 (by decide +kernel)) <|
  allq qX11_make 160 (.inl (a_get 9 5 163)) (gX9 (f0 := 5) (by decide) kw_249 (by decide +kernel)) <|
  allq qX11_make 163 (.inl (a_len 164)) (s_len (by decide +kernel)) <|
  allq qX11_make 164 (.inl (o_icmp_ge 191 167)) (s_icmp_ge (off := 27) (by decide +kernel) (by decide)) <|
  allq qX11_make 167 (.inl (a_al 0 168)) (s_aload_n (q := 0) (i := 0) rfl (by decide +kernel)) <|
  allq qX11_make 168 (.inl (a_get 10 2 171)) (gX11 (f0 := 2) (by decide) kw_566 (by decide +kernel)) <|
  alln
set_option maxRecDepth 20000 in
theorem kX11_make_2 : ∀ q ∈ tX11_make_2, qX11_make q :=
  allq qX11_make 171 (.inl (a_al 0 172)) (s_aload_n (q := 0) (i := 0) rfl (by decide +kernel)) <|
  allq qX11_make 172 (.inl (a_get 10 6 175)) (gX11 (f0 := 6) (by decide) kw_570 (by decide +kernel)) <|
  allq qX11_make 175 (.inl (a_get 9 5 178)) (gX9 (f0 := 5) (by decide) kw_249 (by decide +kernel)) <|
  allq qX11_make 178 (.inl (a_il 2 179)) (s_iload_n (q := 2) (i := 2) rfl (by decide +kernel)) <|
  allq qX11_make 179 (.inl (a_iald 180)) (s_iald (by decide +kernel)) <|
  allq qX11_make 180 (.inl (a_i2l 181)) (s_i2l (by decide +kernel)) <|
  allq qX11_make 181 (.inl (a_ic 4 182)) (s_iconst (n := 4) (v := 4) rfl (by decide +kernel)) <|
  allq qX11_make 182 (.inr (.inl (87, 3, 8))) (okV (y := yX7_putNumber) kw_737 kw_105 rfl rfl (by decide +kernel) kw_735 kw_736 kw_734) <|
  allq qX11_make 185 (.inl (a_inc 2 1 188)) (s_iinc (i := 2) (n := 1) (n2 := 1) rfl (by decide +kernel) (by decide)) <|
  allq qX11_make 188 (.inl (a_go 155)) (s_goto (off := (-33)) (by decide +kernel) (by decide)) <|
  allq qX11_make 191 (.inl (a_al 0 192)) (s_aload_n (q := 0) (i := 0) rfl (by decide +kernel)) <|
  allq qX11_make 192 (.inl (a_get 10 2 195)) (gX11 (f0 := 2) (by decide) kw_566 (by decide +kernel)) <|
  allq qX11_make 195 (.inl (a_al 0 196)) (s_aload_n (q := 0) (i := 0) rfl (by decide +kernel)) <|
  allq qX11_make 196 (.inl (a_get 10 0 199)) (gX11 (f0 := 0) (by decide) kw_564 (by decide +kernel)) <|
  allq qX11_make 199 (.inl (a_ic 0 200)) (s_iconst (n := 0) (v := 0) rfl (by decide +kernel)) <|
  allq qX11_make 200 (.inl (a_al 0 201)) (s_aload_n (q := 0) (i := 0) rfl (by decide +kernel)) <|
  allq qX11_make 201 (.inl (a_get 10 0 204)) (gX11 (f0 := 0) (by decide) kw_564 (by decide +kernel)) <|
  allq qX11_make 204 (.inl (a_get 7 1 207)) (gX7 (f0 := 1) (by decide) kw_142 (by decide +kernel)) <|
  allq qX11_make 207 (.inr (.inl (88, 4, 8))) (okV (y := yX7_putRow) kw_633 kw_105 rfl rfl (by decide +kernel) kw_631 kw_632 kw_630) <|
  allq qX11_make 210 (.inl (a_al 0 211)) (s_aload_n (q := 0) (i := 0) rfl (by decide +kernel)) <|
  allq qX11_make 211 (.inl (a_get 10 2 214)) (gX11 (f0 := 2) (by decide) kw_566 (by decide +kernel)) <|
  allq qX11_make 214 (.inl (a_get 7 2 217)) (gX7 (f0 := 2) (by decide) kw_148 (by decide +kernel)) <|
  allq qX11_make 217 (.inl (o_if_eq 224 220)) (s_if_eq (off := 7) (by decide +kernel) (by decide)) <|
  allq qX11_make 220 (.inl (a_ic (-1) 221)) (s_iconst (n := (-1)) (v := (-1)) rfl (by decide +kernel)) <|
  allq qX11_make 221 (.inl (a_go 228)) (s_goto (off := 7) (by decide +kernel) (by decide)) <|
  allq qX11_make 224 (.inl (a_al 0 225)) (s_aload_n (q := 0) (i := 0) rfl (by decide +kernel)) <|
  allq qX11_make 225 (.inr (.inl (136, 1, 11))) (okV (y := yX11_becomeOut) kw_1147 kw_104 rfl rfl (by decide +kernel) kw_1146 kw_40 kw_1144) <|
  allq qX11_make 228 (.inr (.inr 1)) (Or.inr (Or.inl ⟨rfl, rfl, by decide +kernel⟩)) <|
  alln
theorem kX11_make : ∀ q ∈ tX11_make, qX11_make q := alla kX11_make_0 (alla kX11_make_1 kX11_make_2)
abbrev qX11_about : Nat × aI → Prop := OkQ RX11 "about" cX11_about 2 (some .int)
set_option maxRecDepth 20000 in
theorem kX11_about_0 : ∀ q ∈ tX11_about_0, qX11_about q :=
  allq qX11_about 0 (.inl (a_il 1 1)) (s_iload_n (q := 1) (i := 1) rfl (by decide +kernel)) <|
  allq qX11_about 1 (.inl (o_if_lt 22 4)) (s_if_lt (off := 21) (by decide +kernel) (by decide)) <|
  allq qX11_about 4 (.inl (a_il 1 5)) (s_iload_n (q := 1) (i := 1) rfl (by decide +kernel)) <|
  allq qX11_about 5 (.inl (a_al 0 6)) (s_aload_n (q := 0) (i := 0) rfl (by decide +kernel)) <|
  allq qX11_about 6 (.inl (a_get 10 9 9)) (gX11 (f0 := 9) (by decide) kw_573 (by decide +kernel)) <|
  allq qX11_about 9 (.inl (a_len 10)) (s_len (by decide +kernel)) <|
  allq qX11_about 10 (.inl (o_icmp_ge 22 13)) (s_icmp_ge (off := 12) (by decide +kernel) (by decide)) <|
  allq qX11_about 13 (.inl (a_al 0 14)) (s_aload_n (q := 0) (i := 0) rfl (by decide +kernel)) <|
  allq qX11_about 14 (.inl (a_get 10 9 17)) (gX11 (f0 := 9) (by decide) kw_573 (by decide +kernel)) <|
  allq qX11_about 17 (.inl (a_il 1 18)) (s_iload_n (q := 1) (i := 1) rfl (by decide +kernel)) <|
  allq qX11_about 18 (.inl (a_iald 19)) (s_iald (by decide +kernel)) <|
  allq qX11_about 19 (.inl (a_go 23)) (s_goto (off := 4) (by decide +kernel) (by decide)) <|
  allq qX11_about 22 (.inl (a_ic (-1) 23)) (s_iconst (n := (-1)) (v := (-1)) rfl (by decide +kernel)) <|
  allq qX11_about 23 (.inr (.inr 1)) (Or.inr (Or.inl ⟨rfl, rfl, by decide +kernel⟩)) <|
  alln
theorem kX11_about : ∀ q ∈ tX11_about, qX11_about q := kX11_about_0
abbrev qX11_size : Nat × aI → Prop := OkQ RX11 "size" cX11_size 1 (some .int)
set_option maxRecDepth 20000 in
theorem kX11_size_0 : ∀ q ∈ tX11_size_0, qX11_size q :=
  allq qX11_size 0 (.inl (a_al 0 1)) (s_aload_n (q := 0) (i := 0) rfl (by decide +kernel)) <|
  allq qX11_size 1 (.inl (a_get 10 1 4)) (gX11 (f0 := 1) (by decide) kw_565 (by decide +kernel)) <|
  allq qX11_size 4 (.inl (a_get 7 1 7)) (gX7 (f0 := 1) (by decide) kw_142 (by decide +kernel)) <|
  allq qX11_size 7 (.inr (.inr 1)) (Or.inr (Or.inl ⟨rfl, rfl, by decide +kernel⟩)) <|
  alln
theorem kX11_size : ∀ q ∈ tX11_size, qX11_size q := kX11_size_0
abbrev qX11_byteAt : Nat × aI → Prop := OkQ RX11 "byteAt" cX11_byteAt 2 (some .int)
set_option maxRecDepth 20000 in
theorem kX11_byteAt_0 : ∀ q ∈ tX11_byteAt_0, qX11_byteAt q :=
  allq qX11_byteAt 0 (.inl (a_al 0 1)) (s_aload_n (q := 0) (i := 0) rfl (by decide +kernel)) <|
  allq qX11_byteAt 1 (.inl (a_get 10 1 4)) (gX11 (f0 := 1) (by decide) kw_565 (by decide +kernel)) <|
  allq qX11_byteAt 4 (.inl (a_il 1 5)) (s_iload_n (q := 1) (i := 1) rfl (by decide +kernel)) <|
  allq qX11_byteAt 5 (.inr (.inl (93, 2, 8))) (okV (y := yX7_at) kw_617 kw_105 rfl rfl (by decide +kernel) kw_615 kw_616 kw_614) <|
  allq qX11_byteAt 8 (.inr (.inr 1)) (Or.inr (Or.inl ⟨rfl, rfl, by decide +kernel⟩)) <|
  alln
theorem kX11_byteAt : ∀ q ∈ tX11_byteAt, qX11_byteAt q := kX11_byteAt_0
abbrev qX11_becomeOut : Nat × aI → Prop := OkQ RX11 "becomeOut" cX11_becomeOut 2 (some .int)
set_option maxRecDepth 20000 in
theorem kX11_becomeOut_0 : ∀ q ∈ tX11_becomeOut_0, qX11_becomeOut q :=
  allq qX11_becomeOut 0 (.inl (a_al 0 1)) (s_aload_n (q := 0) (i := 0) rfl (by decide +kernel)) <|
  allq qX11_becomeOut 1 (.inl (a_get 10 1 4)) (gX11 (f0 := 1) (by decide) kw_565 (by decide +kernel)) <|
  allq qX11_becomeOut 4 (.inl (a_as 1 5)) (s_astore_n (q := 1) (i := 1) rfl (by decide +kernel) (by decide)) <|
  allq qX11_becomeOut 5 (.inl (a_al 0 6)) (s_aload_n (q := 0) (i := 0) rfl (by decide +kernel)) <|
  allq qX11_becomeOut 6 (.inl (a_al 0 7)) (s_aload_n (q := 0) (i := 0) rfl (by decide +kernel)) <|
  allq qX11_becomeOut 7 (.inl (a_get 10 2 10)) (gX11 (f0 := 2) (by decide) kw_566 (by decide +kernel)) <|
  allq qX11_becomeOut 10 (.inl (a_put 10 1 (.object "StatePress$Row") 13)) (pX11 (f0 := 1) (by decide) rfl rfl tOk kw_565 (by decide +kernel)) <|
  allq qX11_becomeOut 13 (.inl (a_al 0 14)) (s_aload_n (q := 0) (i := 0) rfl (by decide +kernel)) <|
  allq qX11_becomeOut 14 (.inl (a_al 1 15)) (s_aload_n (q := 1) (i := 1) rfl (by decide +kernel)) <|
  allq qX11_becomeOut 15 (.inl (a_put 10 2 (.object "StatePress$Row") 18)) (pX11 (f0 := 2) (by decide) rfl rfl tOk kw_566 (by decide +kernel)) <|
  allq qX11_becomeOut 18 (.inl (a_al 0 19)) (s_aload_n (q := 0) (i := 0) rfl (by decide +kernel)) <|
  allq qX11_becomeOut 19 (.inl (a_get 10 1 22)) (gX11 (f0 := 1) (by decide) kw_565 (by decide +kernel)) <|
  allq qX11_becomeOut 22 (.inl (a_get 7 1 25)) (gX7 (f0 := 1) (by decide) kw_142 (by decide +kernel)) <|
  allq qX11_becomeOut 25 (.inr (.inr 1)) (Or.inr (Or.inl ⟨rfl, rfl, by decide +kernel⟩)) <|
  alln
theorem kX11_becomeOut : ∀ q ∈ tX11_becomeOut, qX11_becomeOut q := kX11_becomeOut_0
abbrev qX11_putHead : Nat × aI → Prop := OkQ RX11 "putHead" cX11_putHead 7 (none)
set_option maxRecDepth 20000 in
theorem kX11_putHead_0 : ∀ q ∈ tX11_putHead_0, qX11_putHead q :=
  allq qX11_putHead 0 (.inl (a_il 1 1)) (s_iload_n (q := 1) (i := 1) rfl (by decide +kernel)) <|
  allq qX11_putHead 1 (.inl (a_ic 4 2)) (s_iconst (n := 4) (v := 4) rfl (by decide +kernel)) <|
  allq qX11_putHead 2 (.inl (o_iand 3)) (s_iand (by decide +kernel)) <|
  allq qX11_putHead 3 (.inl (o_if_eq 10 6)) (s_if_eq (off := 7) (by decide +kernel) (by decide)) <|
  allq qX11_putHead 6 (.inl (a_ic 1 7)) (s_iconst (n := 1) (v := 1) rfl (by decide +kernel)) <|
  allq qX11_putHead 7 (.inl (a_go 11)) (s_goto (off := 4) (by decide +kernel) (by decide)) <|
  allq qX11_putHead 10 (.inl (a_ic 0 11)) (s_iconst (n := 0) (v := 0) rfl (by decide +kernel)) <|
  allq qX11_putHead 11 (.inl (a_is 3 12)) (s_istore_n (q := 3) (i := 3) rfl (by decide +kernel) (by decide)) <|
  allq qX11_putHead 12 (.inl (a_il 3 13)) (s_iload_n (q := 3) (i := 3) rfl (by decide +kernel)) <|
  allq qX11_putHead 13 (.inl (o_if_ne 22 16)) (s_if_ne (off := 9) (by decide +kernel) (by decide)) <|
  allq qX11_putHead 16 (.inl (a_il 1 17)) (s_iload_n (q := 1) (i := 1) rfl (by decide +kernel)) <|
  allq qX11_putHead 17 (.inl (a_ic 2 18)) (s_iconst (n := 2) (v := 2) rfl (by decide +kernel)) <|
  allq qX11_putHead 18 (.inl (o_iand 19)) (s_iand (by decide +kernel)) <|
  allq qX11_putHead 19 (.inl (o_if_eq 26 22)) (s_if_eq (off := 7) (by decide +kernel) (by decide)) <|
  allq qX11_putHead 22 (.inl (a_ic 1 23)) (s_iconst (n := 1) (v := 1) rfl (by decide +kernel)) <|
  allq qX11_putHead 23 (.inl (a_go 27)) (s_goto (off := 4) (by decide +kernel) (by decide)) <|
  allq qX11_putHead 26 (.inl (a_ic 0 27)) (s_iconst (n := 0) (v := 0) rfl (by decide +kernel)) <|
  allq qX11_putHead 27 (.inl (a_is 4 29)) (s_istore (i := 4) (by decide +kernel) (by decide)) <|
  allq qX11_putHead 29 (.inl (a_il 4 31)) (s_iload (i := 4) (by decide +kernel)) <|
  allq qX11_putHead 31 (.inl (o_if_eq 48 34)) (s_if_eq (off := 17) (by decide +kernel) (by decide)) <|
  allq qX11_putHead 34 (.inl (a_al 0 35)) (s_aload_n (q := 0) (i := 0) rfl (by decide +kernel)) <|
  allq qX11_putHead 35 (.inl (a_get 10 0 38)) (gX11 (f0 := 0) (by decide) kw_564 (by decide +kernel)) <|
  allq qX11_putHead 38 (.inl (a_get 7 1 41)) (gX7 (f0 := 1) (by decide) kw_142 (by decide +kernel)) <|
  allq qX11_putHead 41 (.inl (a_il 3 42)) (s_iload_n (q := 3) (i := 3) rfl (by decide +kernel)) <|
  allq qX11_putHead 42 (.inr (.inl (138, 2, 0))) (okS (y := yX11_sizeKind) kw_726 kw_104 rfl (by decide +kernel) kw_725 (Or.inl kw_724)) <|
  allq qX11_putHead 45 (.inl (a_go 49)) (s_goto (off := 4) (by decide +kernel) (by decide)) <|
  allq qX11_putHead 48 (.inl (a_ic 0 49)) (s_iconst (n := 0) (v := 0) rfl (by decide +kernel)) <|
  allq qX11_putHead 49 (.inl (a_is 5 51)) (s_istore (i := 5) (by decide +kernel) (by decide)) <|
  allq qX11_putHead 51 (.inl (a_il 1 52)) (s_iload_n (q := 1) (i := 1) rfl (by decide +kernel)) <|
  allq qX11_putHead 52 (.inl (a_ic 8 54)) (s_bipush (n := 8) (v := 8) rfl (by decide +kernel)) <|
  allq qX11_putHead 54 (.inl (o_iand 55)) (s_iand (by decide +kernel)) <|
  allq qX11_putHead 55 (.inl (o_if_eq 68 58)) (s_if_eq (off := 13) (by decide +kernel) (by decide)) <|
  allq qX11_putHead 58 (.inl (a_al 0 59)) (s_aload_n (q := 0) (i := 0) rfl (by decide +kernel)) <|
  allq qX11_putHead 59 (.inl (a_get 10 4 62)) (gX11 (f0 := 4) (by decide) kw_568 (by decide +kernel)) <|
  allq qX11_putHead 62 (.inr (.inl (139, 1, 0))) (okS (y := yX11_idKind) kw_730 kw_104 rfl (by decide +kernel) kw_729 (Or.inl kw_728)) <|
  allq qX11_putHead 65 (.inl (a_go 69)) (s_goto (off := 4) (by decide +kernel) (by decide)) <|
  allq qX11_putHead 68 (.inl (a_ic 0 69)) (s_iconst (n := 0) (v := 0) rfl (by decide +kernel)) <|
  allq qX11_putHead 69 (.inl (a_is 6 71)) (s_istore (i := 6) (by decide +kernel) (by decide)) <|
  allq qX11_putHead 71 (.inl (a_al 0 72)) (s_aload_n (q := 0) (i := 0) rfl (by decide +kernel)) <|
  allq qX11_putHead 72 (.inl (a_get 10 2 75)) (gX11 (f0 := 2) (by decide) kw_566 (by decide +kernel)) <|
  alln
set_option maxRecDepth 20000 in
theorem kX11_putHead_1 : ∀ q ∈ tX11_putHead_1, qX11_putHead q :=
  allq qX11_putHead 75 (.inl (a_lc 4247762216 78)) (s_ldc2 kw_733 (by decide +kernel)) <|
  allq qX11_putHead 78 (.inl (a_ic 4 79)) (s_iconst (n := 4) (v := 4) rfl (by decide +kernel)) <|
  allq qX11_putHead 79 (.inr (.inl (87, 3, 8))) (okV (y := yX7_putNumber) kw_737 kw_105 rfl rfl (by decide +kernel) kw_735 kw_736 kw_734) <|
  allq qX11_putHead 82 (.inl (a_al 0 83)) (s_aload_n (q := 0) (i := 0) rfl (by decide +kernel)) <|
  allq qX11_putHead 83 (.inl (a_get 10 2 86)) (gX11 (f0 := 2) (by decide) kw_566 (by decide +kernel)) <|
  allq qX11_putHead 86 (.inl (a_ic 64 88)) (s_bipush (n := 64) (v := 64) rfl (by decide +kernel)) <|
  allq qX11_putHead 88 (.inl (a_il 5 90)) (s_iload (i := 5) (by decide +kernel)) <|
  allq qX11_putHead 90 (.inl (o_imul 91)) (s_imul (by decide +kernel)) <|
  allq qX11_putHead 91 (.inl (a_il 3 92)) (s_iload_n (q := 3) (i := 3) rfl (by decide +kernel)) <|
  allq qX11_putHead 92 (.inl (o_if_eq 100 95)) (s_if_eq (off := 8) (by decide +kernel) (by decide)) <|
  allq qX11_putHead 95 (.inl (a_ic 32 97)) (s_bipush (n := 32) (v := 32) rfl (by decide +kernel)) <|
  allq qX11_putHead 97 (.inl (a_go 101)) (s_goto (off := 4) (by decide +kernel) (by decide)) <|
  allq qX11_putHead 100 (.inl (a_ic 0 101)) (s_iconst (n := 0) (v := 0) rfl (by decide +kernel)) <|
  allq qX11_putHead 101 (.inl (o_iadd 102)) (s_iadd (by decide +kernel)) <|
  allq qX11_putHead 102 (.inl (a_il 1 103)) (s_iload_n (q := 1) (i := 1) rfl (by decide +kernel)) <|
  allq qX11_putHead 103 (.inl (a_ic 1 104)) (s_iconst (n := 1) (v := 1) rfl (by decide +kernel)) <|
  allq qX11_putHead 104 (.inl (o_iand 105)) (s_iand (by decide +kernel)) <|
  allq qX11_putHead 105 (.inl (o_if_eq 112 108)) (s_if_eq (off := 7) (by decide +kernel) (by decide)) <|
  allq qX11_putHead 108 (.inl (a_ic 4 109)) (s_iconst (n := 4) (v := 4) rfl (by decide +kernel)) <|
  allq qX11_putHead 109 (.inl (a_go 113)) (s_goto (off := 4) (by decide +kernel) (by decide)) <|
  allq qX11_putHead 112 (.inl (a_ic 0 113)) (s_iconst (n := 0) (v := 0) rfl (by decide +kernel)) <|
  allq qX11_putHead 113 (.inl (o_iadd 114)) (s_iadd (by decide +kernel)) <|
  allq qX11_putHead 114 (.inl (a_il 6 116)) (s_iload (i := 6) (by decide +kernel)) <|
  allq qX11_putHead 116 (.inl (o_iadd 117)) (s_iadd (by decide +kernel)) <|
  allq qX11_putHead 117 (.inr (.inl (86, 2, 8))) (okV (y := yX7_put) kw_608 kw_105 rfl rfl (by decide +kernel) kw_606 kw_607 kw_605) <|
  allq qX11_putHead 120 (.inl (a_il 3 121)) (s_iload_n (q := 3) (i := 3) rfl (by decide +kernel)) <|
  allq qX11_putHead 121 (.inl (o_if_ne 135 124)) (s_if_ne (off := 14) (by decide +kernel) (by decide)) <|
  allq qX11_putHead 124 (.inl (a_al 0 125)) (s_aload_n (q := 0) (i := 0) rfl (by decide +kernel)) <|
  allq qX11_putHead 125 (.inl (a_get 10 2 128)) (gX11 (f0 := 2) (by decide) kw_566 (by decide +kernel)) <|
  allq qX11_putHead 128 (.inl (a_ic 8 130)) (s_bipush (n := 8) (v := 8) rfl (by decide +kernel)) <|
  allq qX11_putHead 130 (.inl (a_il 2 131)) (s_iload_n (q := 2) (i := 2) rfl (by decide +kernel)) <|
  allq qX11_putHead 131 (.inl (o_imul 132)) (s_imul (by decide +kernel)) <|
  allq qX11_putHead 132 (.inr (.inl (86, 2, 8))) (okV (y := yX7_put) kw_608 kw_105 rfl rfl (by decide +kernel) kw_606 kw_607 kw_605) <|
  allq qX11_putHead 135 (.inl (a_al 0 136)) (s_aload_n (q := 0) (i := 0) rfl (by decide +kernel)) <|
  allq qX11_putHead 136 (.inl (a_get 10 2 139)) (gX11 (f0 := 2) (by decide) kw_566 (by decide +kernel)) <|
  allq qX11_putHead 139 (.inl (a_al 0 140)) (s_aload_n (q := 0) (i := 0) rfl (by decide +kernel)) <|
  allq qX11_putHead 140 (.inl (a_get 10 4 143)) (gX11 (f0 := 4) (by decide) kw_568 (by decide +kernel)) <|
  allq qX11_putHead 143 (.inl (a_il 6 145)) (s_iload (i := 6) (by decide +kernel)) <|
  allq qX11_putHead 145 (.inl (a_ic 3 146)) (s_iconst (n := 3) (v := 3) rfl (by decide +kernel)) <|
  allq qX11_putHead 146 (.inl (o_icmp_ne 153 149)) (s_icmp_ne (off := 7) (by decide +kernel) (by decide)) <|
  alln
set_option maxRecDepth 20000 in
theorem kX11_putHead_2 : ∀ q ∈ tX11_putHead_2, qX11_putHead q :=
  allq qX11_putHead 149 (.inl (a_ic 4 150)) (s_iconst (n := 4) (v := 4) rfl (by decide +kernel)) <|
  allq qX11_putHead 150 (.inl (a_go 155)) (s_goto (off := 5) (by decide +kernel) (by decide)) <|
  allq qX11_putHead 153 (.inl (a_il 6 155)) (s_iload (i := 6) (by decide +kernel)) <|
  allq qX11_putHead 155 (.inr (.inl (87, 3, 8))) (okV (y := yX7_putNumber) kw_737 kw_105 rfl rfl (by decide +kernel) kw_735 kw_736 kw_734) <|
  allq qX11_putHead 158 (.inl (a_il 4 160)) (s_iload (i := 4) (by decide +kernel)) <|
  allq qX11_putHead 160 (.inl (o_if_eq 203 163)) (s_if_eq (off := 43) (by decide +kernel) (by decide)) <|
  allq qX11_putHead 163 (.inl (a_al 0 164)) (s_aload_n (q := 0) (i := 0) rfl (by decide +kernel)) <|
  allq qX11_putHead 164 (.inl (a_get 10 2 167)) (gX11 (f0 := 2) (by decide) kw_566 (by decide +kernel)) <|
  allq qX11_putHead 167 (.inl (a_il 5 169)) (s_iload (i := 5) (by decide +kernel)) <|
  allq qX11_putHead 169 (.inl (a_ic 1 170)) (s_iconst (n := 1) (v := 1) rfl (by decide +kernel)) <|
  allq qX11_putHead 170 (.inl (o_icmp_ne 188 173)) (s_icmp_ne (off := 18) (by decide +kernel) (by decide)) <|
  allq qX11_putHead 173 (.inl (a_al 0 174)) (s_aload_n (q := 0) (i := 0) rfl (by decide +kernel)) <|
  allq qX11_putHead 174 (.inl (a_get 10 0 177)) (gX11 (f0 := 0) (by decide) kw_564 (by decide +kernel)) <|
  allq qX11_putHead 177 (.inl (a_get 7 1 180)) (gX7 (f0 := 1) (by decide) kw_142 (by decide +kernel)) <|
  allq qX11_putHead 180 (.inl (a_ic 256 183)) (s_sipush (n := 256) (v := 256) rfl (by decide +kernel)) <|
  allq qX11_putHead 183 (.inl (o_isub 184)) (s_isub (by decide +kernel)) <|
  allq qX11_putHead 184 (.inl (a_i2l 185)) (s_i2l (by decide +kernel)) <|
  allq qX11_putHead 185 (.inl (a_go 196)) (s_goto (off := 11) (by decide +kernel) (by decide)) <|
  allq qX11_putHead 188 (.inl (a_al 0 189)) (s_aload_n (q := 0) (i := 0) rfl (by decide +kernel)) <|
  allq qX11_putHead 189 (.inl (a_get 10 0 192)) (gX11 (f0 := 0) (by decide) kw_564 (by decide +kernel)) <|
  allq qX11_putHead 192 (.inl (a_get 7 1 195)) (gX7 (f0 := 1) (by decide) kw_142 (by decide +kernel)) <|
  allq qX11_putHead 195 (.inl (a_i2l 196)) (s_i2l (by decide +kernel)) <|
  allq qX11_putHead 196 (.inl (a_ic 1 197)) (s_iconst (n := 1) (v := 1) rfl (by decide +kernel)) <|
  allq qX11_putHead 197 (.inl (a_il 5 199)) (s_iload (i := 5) (by decide +kernel)) <|
  allq qX11_putHead 199 (.inl (o_ishl 200)) (s_ishl (by decide +kernel)) <|
  allq qX11_putHead 200 (.inr (.inl (87, 3, 8))) (okV (y := yX7_putNumber) kw_737 kw_105 rfl rfl (by decide +kernel) kw_735 kw_736 kw_734) <|
  allq qX11_putHead 203 (.inr (.inr 0)) (Or.inl ⟨rfl, rfl, by decide +kernel⟩) <|
  alln
theorem kX11_putHead : ∀ q ∈ tX11_putHead, qX11_putHead q := alla kX11_putHead_0 (alla kX11_putHead_1 kX11_putHead_2)
abbrev qX11_sizeKind : Nat × aI → Prop := OkQ RX11 "sizeKind" cX11_sizeKind 2 (some .int)
set_option maxRecDepth 20000 in
theorem kX11_sizeKind_0 : ∀ q ∈ tX11_sizeKind_0, qX11_sizeKind q :=
  allq qX11_sizeKind 0 (.inl (a_il 0 1)) (s_iload_n (q := 0) (i := 0) rfl (by decide +kernel)) <|
  allq qX11_sizeKind 1 (.inl (a_ic 256 4)) (s_sipush (n := 256) (v := 256) rfl (by decide +kernel)) <|
  allq qX11_sizeKind 4 (.inl (o_icmp_ge 17 7)) (s_icmp_ge (off := 13) (by decide +kernel) (by decide)) <|
  allq qX11_sizeKind 7 (.inl (a_il 1 8)) (s_iload_n (q := 1) (i := 1) rfl (by decide +kernel)) <|
  allq qX11_sizeKind 8 (.inl (o_if_eq 15 11)) (s_if_eq (off := 7) (by decide +kernel) (by decide)) <|
  allq qX11_sizeKind 11 (.inl (a_ic 0 12)) (s_iconst (n := 0) (v := 0) rfl (by decide +kernel)) <|
  allq qX11_sizeKind 12 (.inl (a_go 16)) (s_goto (off := 4) (by decide +kernel) (by decide)) <|
  allq qX11_sizeKind 15 (.inl (a_ic 2 16)) (s_iconst (n := 2) (v := 2) rfl (by decide +kernel)) <|
  allq qX11_sizeKind 16 (.inr (.inr 1)) (Or.inr (Or.inl ⟨rfl, rfl, by decide +kernel⟩)) <|
  allq qX11_sizeKind 17 (.inl (a_il 0 18)) (s_iload_n (q := 0) (i := 0) rfl (by decide +kernel)) <|
  allq qX11_sizeKind 18 (.inl (a_ic 65792 20)) (s_ldc kw_727 (by decide +kernel)) <|
  allq qX11_sizeKind 20 (.inl (o_icmp_ge 27 23)) (s_icmp_ge (off := 7) (by decide +kernel) (by decide)) <|
  allq qX11_sizeKind 23 (.inl (a_ic 1 24)) (s_iconst (n := 1) (v := 1) rfl (by decide +kernel)) <|
  allq qX11_sizeKind 24 (.inl (a_go 28)) (s_goto (off := 4) (by decide +kernel) (by decide)) <|
  allq qX11_sizeKind 27 (.inl (a_ic 2 28)) (s_iconst (n := 2) (v := 2) rfl (by decide +kernel)) <|
  allq qX11_sizeKind 28 (.inr (.inr 1)) (Or.inr (Or.inl ⟨rfl, rfl, by decide +kernel⟩)) <|
  alln
theorem kX11_sizeKind : ∀ q ∈ tX11_sizeKind, qX11_sizeKind q := kX11_sizeKind_0
abbrev qX11_idKind : Nat × aI → Prop := OkQ RX11 "idKind" cX11_idKind 2 (some .int)
set_option maxRecDepth 20000 in
theorem kX11_idKind_0 : ∀ q ∈ tX11_idKind_0, qX11_idKind q :=
  allq qX11_idKind 0 (.inl (a_ll 0 1)) (s_lload_n (q := 0) (i := 0) rfl (by decide +kernel)) <|
  allq qX11_idKind 1 (.inl (a_lc 0 2)) (s_lconst (n := 0) rfl (by decide +kernel)) <|
  allq qX11_idKind 2 (.inl (a_lcmp 3)) (s_lcmp (by decide +kernel)) <|
  allq qX11_idKind 3 (.inl (o_if_ne 8 6)) (s_if_ne (off := 5) (by decide +kernel) (by decide)) <|
  allq qX11_idKind 6 (.inl (a_ic 0 7)) (s_iconst (n := 0) (v := 0) rfl (by decide +kernel)) <|
  allq qX11_idKind 7 (.inr (.inr 1)) (Or.inr (Or.inl ⟨rfl, rfl, by decide +kernel⟩)) <|
  allq qX11_idKind 8 (.inl (a_ll 0 9)) (s_lload_n (q := 0) (i := 0) rfl (by decide +kernel)) <|
  allq qX11_idKind 9 (.inl (a_lc 256 12)) (s_ldc2 kw_731 (by decide +kernel)) <|
  allq qX11_idKind 12 (.inl (a_lcmp 13)) (s_lcmp (by decide +kernel)) <|
  allq qX11_idKind 13 (.inl (o_if_ge 18 16)) (s_if_ge (off := 5) (by decide +kernel) (by decide)) <|
  allq qX11_idKind 16 (.inl (a_ic 1 17)) (s_iconst (n := 1) (v := 1) rfl (by decide +kernel)) <|
  allq qX11_idKind 17 (.inr (.inr 1)) (Or.inr (Or.inl ⟨rfl, rfl, by decide +kernel⟩)) <|
  allq qX11_idKind 18 (.inl (a_ll 0 19)) (s_lload_n (q := 0) (i := 0) rfl (by decide +kernel)) <|
  allq qX11_idKind 19 (.inl (a_lc 65536 22)) (s_ldc2 kw_732 (by decide +kernel)) <|
  allq qX11_idKind 22 (.inl (a_lcmp 23)) (s_lcmp (by decide +kernel)) <|
  allq qX11_idKind 23 (.inl (o_if_ge 30 26)) (s_if_ge (off := 7) (by decide +kernel) (by decide)) <|
  allq qX11_idKind 26 (.inl (a_ic 2 27)) (s_iconst (n := 2) (v := 2) rfl (by decide +kernel)) <|
  allq qX11_idKind 27 (.inl (a_go 31)) (s_goto (off := 4) (by decide +kernel) (by decide)) <|
  allq qX11_idKind 30 (.inl (a_ic 3 31)) (s_iconst (n := 3) (v := 3) rfl (by decide +kernel)) <|
  allq qX11_idKind 31 (.inr (.inr 1)) (Or.inr (Or.inl ⟨rfl, rfl, by decide +kernel⟩)) <|
  alln
theorem kX11_idKind : ∀ q ∈ tX11_idKind, qX11_idKind q := kX11_idKind_0
abbrev qX11_log : Nat × aI → Prop := OkQ RX11 "log" cX11_log 3 (some .int)
set_option maxRecDepth 20000 in
theorem kX11_log_0 : ∀ q ∈ tX11_log_0, qX11_log q :=
  allq qX11_log 0 (.inl (a_ic 0 1)) (s_iconst (n := 0) (v := 0) rfl (by decide +kernel)) <|
  allq qX11_log 1 (.inl (a_is 1 2)) (s_istore_n (q := 1) (i := 1) rfl (by decide +kernel) (by decide)) <|
  allq qX11_log 2 (.inl (a_il 0 3)) (s_iload_n (q := 0) (i := 0) rfl (by decide +kernel)) <|
  allq qX11_log 3 (.inl (a_is 2 4)) (s_istore_n (q := 2) (i := 2) rfl (by decide +kernel) (by decide)) <|
  allq qX11_log 4 (.inl (a_il 2 5)) (s_iload_n (q := 2) (i := 2) rfl (by decide +kernel)) <|
  allq qX11_log 5 (.inl (a_ic 1 6)) (s_iconst (n := 1) (v := 1) rfl (by decide +kernel)) <|
  allq qX11_log 6 (.inl (o_icmp_le 19 9)) (s_icmp_le (off := 13) (by decide +kernel) (by decide)) <|
  allq qX11_log 9 (.inl (a_inc 1 1 12)) (s_iinc (i := 1) (n := 1) (n2 := 1) rfl (by decide +kernel) (by decide)) <|
  allq qX11_log 12 (.inl (a_il 2 13)) (s_iload_n (q := 2) (i := 2) rfl (by decide +kernel)) <|
  allq qX11_log 13 (.inl (a_ic 1 14)) (s_iconst (n := 1) (v := 1) rfl (by decide +kernel)) <|
  allq qX11_log 14 (.inl (o_ishr 15)) (s_ishr (by decide +kernel)) <|
  allq qX11_log 15 (.inl (a_is 2 16)) (s_istore_n (q := 2) (i := 2) rfl (by decide +kernel) (by decide)) <|
  allq qX11_log 16 (.inl (a_go 4)) (s_goto (off := (-12)) (by decide +kernel) (by decide)) <|
  allq qX11_log 19 (.inl (a_il 1 20)) (s_iload_n (q := 1) (i := 1) rfl (by decide +kernel)) <|
  allq qX11_log 20 (.inr (.inr 1)) (Or.inr (Or.inl ⟨rfl, rfl, by decide +kernel⟩)) <|
  alln
theorem kX11_log : ∀ q ∈ tX11_log, qX11_log q := kX11_log_0
abbrev qX12_init : Nat × aI → Prop := OkQ RX12 "<init>" cX12_init 1 (none)
set_option maxRecDepth 20000 in
theorem kX12_init_0 : ∀ q ∈ tX12_init_0, qX12_init q :=
  allq qX12_init 0 (.inl (a_al 0 1)) (s_aload_n (q := 0) (i := 0) rfl (by decide +kernel)) <|
  allq qX12_init 1 (.inl (a_oi 4)) (s_oi kw_1184 kw_126 kw_127 (by decide +kernel)) <|
  allq qX12_init 4 (.inl (a_al 0 5)) (s_aload_n (q := 0) (i := 0) rfl (by decide +kernel)) <|
  allq qX12_init 5 (.inl (a_ic 8000 8)) (s_sipush (n := 8000) (v := 8000) rfl (by decide +kernel)) <|
  allq qX12_init 8 (.inl (a_newa 1 10)) (na_int kw_197 (by decide +kernel)) <|
  allq qX12_init 10 (.inl (a_put 11 0 (.array .int) 13)) (fX12 (f0 := 0) (by decide) rfl rfl rfl tOk kw_1185 (by decide +kernel)) <|
  allq qX12_init 13 (.inl (a_al 0 14)) (s_aload_n (q := 0) (i := 0) rfl (by decide +kernel)) <|
  allq qX12_init 14 (.inl (a_ic 12000 17)) (s_sipush (n := 12000) (v := 12000) rfl (by decide +kernel)) <|
  allq qX12_init 17 (.inl (a_newa 1 19)) (na_int kw_197 (by decide +kernel)) <|
  allq qX12_init 19 (.inl (a_put 11 2 (.array .int) 22)) (fX12 (f0 := 2) (by decide) rfl rfl rfl tOk kw_1187 (by decide +kernel)) <|
  allq qX12_init 22 (.inl (a_al 0 23)) (s_aload_n (q := 0) (i := 0) rfl (by decide +kernel)) <|
  allq qX12_init 23 (.inl (a_ic 2 24)) (s_iconst (n := 2) (v := 2) rfl (by decide +kernel)) <|
  allq qX12_init 24 (.inl (a_put 11 4 .int 27)) (pX12 (f0 := 4) (by decide) rfl rfl tOk kw_1189 (by decide +kernel)) <|
  allq qX12_init 27 (.inl (a_al 0 28)) (s_aload_n (q := 0) (i := 0) rfl (by decide +kernel)) <|
  allq qX12_init 28 (.inl (a_ic 3 29)) (s_iconst (n := 3) (v := 3) rfl (by decide +kernel)) <|
  allq qX12_init 29 (.inl (a_put 11 5 .int 32)) (pX12 (f0 := 5) (by decide) rfl rfl tOk kw_1190 (by decide +kernel)) <|
  allq qX12_init 32 (.inl (a_al 0 33)) (s_aload_n (q := 0) (i := 0) rfl (by decide +kernel)) <|
  allq qX12_init 33 (.inl (a_ic 8000 36)) (s_sipush (n := 8000) (v := 8000) rfl (by decide +kernel)) <|
  allq qX12_init 36 (.inl (a_newa 1 38)) (na_int kw_197 (by decide +kernel)) <|
  allq qX12_init 38 (.inl (a_put 11 6 (.array .int) 41)) (fX12 (f0 := 6) (by decide) rfl rfl rfl tOk kw_1191 (by decide +kernel)) <|
  allq qX12_init 41 (.inl (a_al 0 42)) (s_aload_n (q := 0) (i := 0) rfl (by decide +kernel)) <|
  allq qX12_init 42 (.inl (a_ic 256 45)) (s_sipush (n := 256) (v := 256) rfl (by decide +kernel)) <|
  allq qX12_init 45 (.inl (a_newa 1 47)) (na_int kw_197 (by decide +kernel)) <|
  allq qX12_init 47 (.inl (a_put 11 10 (.array .int) 50)) (fX12 (f0 := 10) (by decide) rfl rfl rfl tOk kw_1195 (by decide +kernel)) <|
  allq qX12_init 50 (.inl (a_al 0 51)) (s_aload_n (q := 0) (i := 0) rfl (by decide +kernel)) <|
  allq qX12_init 51 (.inl (a_ic 192 54)) (s_sipush (n := 192) (v := 192) rfl (by decide +kernel)) <|
  allq qX12_init 54 (.inl (a_newa 1 56)) (na_int kw_197 (by decide +kernel)) <|
  allq qX12_init 56 (.inl (a_put 11 11 (.array .int) 59)) (fX12 (f0 := 11) (by decide) rfl rfl rfl tOk kw_1196 (by decide +kernel)) <|
  allq qX12_init 59 (.inl (a_al 0 60)) (s_aload_n (q := 0) (i := 0) rfl (by decide +kernel)) <|
  allq qX12_init 60 (.inl (a_ic 3 61)) (s_iconst (n := 3) (v := 3) rfl (by decide +kernel)) <|
  allq qX12_init 61 (.inl (a_newa 1 63)) (na_int kw_197 (by decide +kernel)) <|
  allq qX12_init 63 (.inl (a_put 11 12 (.array .int) 66)) (fX12 (f0 := 12) (by decide) rfl rfl rfl tOk kw_1197 (by decide +kernel)) <|
  allq qX12_init 66 (.inl (a_al 0 67)) (s_aload_n (q := 0) (i := 0) rfl (by decide +kernel)) <|
  allq qX12_init 67 (.inl (a_ic 3 68)) (s_iconst (n := 3) (v := 3) rfl (by decide +kernel)) <|
  allq qX12_init 68 (.inl (a_newa 1 70)) (na_int kw_197 (by decide +kernel)) <|
  allq qX12_init 70 (.inl (a_put 11 13 (.array .int) 73)) (fX12 (f0 := 13) (by decide) rfl rfl rfl tOk kw_1198 (by decide +kernel)) <|
  allq qX12_init 73 (.inl (a_al 0 74)) (s_aload_n (q := 0) (i := 0) rfl (by decide +kernel)) <|
  allq qX12_init 74 (.inl (a_ic 256 77)) (s_sipush (n := 256) (v := 256) rfl (by decide +kernel)) <|
  allq qX12_init 77 (.inl (a_newa 1 79)) (na_int kw_197 (by decide +kernel)) <|
  allq qX12_init 79 (.inl (a_put 11 14 (.array .int) 82)) (fX12 (f0 := 14) (by decide) rfl rfl rfl tOk kw_1199 (by decide +kernel)) <|
  alln
set_option maxRecDepth 20000 in
theorem kX12_init_1 : ∀ q ∈ tX12_init_1, qX12_init q :=
  allq qX12_init 82 (.inl (a_al 0 83)) (s_aload_n (q := 0) (i := 0) rfl (by decide +kernel)) <|
  allq qX12_init 83 (.inl (a_ic 192 86)) (s_sipush (n := 192) (v := 192) rfl (by decide +kernel)) <|
  allq qX12_init 86 (.inl (a_newa 1 88)) (na_int kw_197 (by decide +kernel)) <|
  allq qX12_init 88 (.inl (a_put 11 16 (.array .int) 91)) (fX12 (f0 := 16) (by decide) rfl rfl rfl tOk kw_1201 (by decide +kernel)) <|
  allq qX12_init 91 (.inl (a_al 0 92)) (s_aload_n (q := 0) (i := 0) rfl (by decide +kernel)) <|
  allq qX12_init 92 (.inl (a_ic 3 93)) (s_iconst (n := 3) (v := 3) rfl (by decide +kernel)) <|
  allq qX12_init 93 (.inl (a_newa 1 95)) (na_int kw_197 (by decide +kernel)) <|
  allq qX12_init 95 (.inl (a_put 11 17 (.array .int) 98)) (fX12 (f0 := 17) (by decide) rfl rfl rfl tOk kw_1202 (by decide +kernel)) <|
  allq qX12_init 98 (.inl (a_al 0 99)) (s_aload_n (q := 0) (i := 0) rfl (by decide +kernel)) <|
  allq qX12_init 99 (.inl (a_ic 3 100)) (s_iconst (n := 3) (v := 3) rfl (by decide +kernel)) <|
  allq qX12_init 100 (.inl (a_newa 1 102)) (na_int kw_197 (by decide +kernel)) <|
  allq qX12_init 102 (.inl (a_put 11 18 (.array .int) 105)) (fX12 (f0 := 18) (by decide) rfl rfl rfl tOk kw_1203 (by decide +kernel)) <|
  allq qX12_init 105 (.inl (a_al 0 106)) (s_aload_n (q := 0) (i := 0) rfl (by decide +kernel)) <|
  allq qX12_init 106 (.inl (a_ic 256 109)) (s_sipush (n := 256) (v := 256) rfl (by decide +kernel)) <|
  allq qX12_init 109 (.inl (a_newa 1 111)) (na_int kw_197 (by decide +kernel)) <|
  allq qX12_init 111 (.inl (a_put 11 19 (.array .int) 114)) (fX12 (f0 := 19) (by decide) rfl rfl rfl tOk kw_1204 (by decide +kernel)) <|
  allq qX12_init 114 (.inl (a_al 0 115)) (s_aload_n (q := 0) (i := 0) rfl (by decide +kernel)) <|
  allq qX12_init 115 (.inl (a_ic 192 118)) (s_sipush (n := 192) (v := 192) rfl (by decide +kernel)) <|
  allq qX12_init 118 (.inl (a_newa 1 120)) (na_int kw_197 (by decide +kernel)) <|
  allq qX12_init 120 (.inl (a_put 11 21 (.array .int) 123)) (fX12 (f0 := 21) (by decide) rfl rfl rfl tOk kw_1206 (by decide +kernel)) <|
  allq qX12_init 123 (.inl (a_al 0 124)) (s_aload_n (q := 0) (i := 0) rfl (by decide +kernel)) <|
  allq qX12_init 124 (.inl (a_ic 3 125)) (s_iconst (n := 3) (v := 3) rfl (by decide +kernel)) <|
  allq qX12_init 125 (.inl (a_newa 1 127)) (na_int kw_197 (by decide +kernel)) <|
  allq qX12_init 127 (.inl (a_put 11 22 (.array .int) 130)) (fX12 (f0 := 22) (by decide) rfl rfl rfl tOk kw_1207 (by decide +kernel)) <|
  allq qX12_init 130 (.inl (a_al 0 131)) (s_aload_n (q := 0) (i := 0) rfl (by decide +kernel)) <|
  allq qX12_init 131 (.inl (a_ic 3 132)) (s_iconst (n := 3) (v := 3) rfl (by decide +kernel)) <|
  allq qX12_init 132 (.inl (a_newa 1 134)) (na_int kw_197 (by decide +kernel)) <|
  allq qX12_init 134 (.inl (a_put 11 23 (.array .int) 137)) (fX12 (f0 := 23) (by decide) rfl rfl rfl tOk kw_1208 (by decide +kernel)) <|
  allq qX12_init 137 (.inl (a_al 0 138)) (s_aload_n (q := 0) (i := 0) rfl (by decide +kernel)) <|
  allq qX12_init 138 (.inl (a_ic 16000 141)) (s_sipush (n := 16000) (v := 16000) rfl (by decide +kernel)) <|
  allq qX12_init 141 (.inl (a_newa 1 143)) (na_int kw_197 (by decide +kernel)) <|
  allq qX12_init 143 (.inl (a_put 11 24 (.array .int) 146)) (fX12 (f0 := 24) (by decide) rfl rfl rfl tOk kw_1209 (by decide +kernel)) <|
  allq qX12_init 146 (.inl (a_al 0 147)) (s_aload_n (q := 0) (i := 0) rfl (by decide +kernel)) <|
  allq qX12_init 147 (.inl (a_ic 8001 150)) (s_sipush (n := 8001) (v := 8001) rfl (by decide +kernel)) <|
  allq qX12_init 150 (.inl (a_newa 1 152)) (na_int kw_197 (by decide +kernel)) <|
  allq qX12_init 152 (.inl (a_put 11 28 (.array .int) 155)) (fX12 (f0 := 28) (by decide) rfl rfl rfl tOk kw_1213 (by decide +kernel)) <|
  allq qX12_init 155 (.inl (a_al 0 156)) (s_aload_n (q := 0) (i := 0) rfl (by decide +kernel)) <|
  allq qX12_init 156 (.inl (a_ic 8001 159)) (s_sipush (n := 8001) (v := 8001) rfl (by decide +kernel)) <|
  allq qX12_init 159 (.inl (a_newa 1 161)) (na_int kw_197 (by decide +kernel)) <|
  allq qX12_init 161 (.inl (a_put 11 29 (.array .int) 164)) (fX12 (f0 := 29) (by decide) rfl rfl rfl tOk kw_1214 (by decide +kernel)) <|
  alln
set_option maxRecDepth 20000 in
theorem kX12_init_2 : ∀ q ∈ tX12_init_2, qX12_init q :=
  allq qX12_init 164 (.inl (a_al 0 165)) (s_aload_n (q := 0) (i := 0) rfl (by decide +kernel)) <|
  allq qX12_init 165 (.inl (a_ic 8001 168)) (s_sipush (n := 8001) (v := 8001) rfl (by decide +kernel)) <|
  allq qX12_init 168 (.inl (a_newa 1 170)) (na_int kw_197 (by decide +kernel)) <|
  allq qX12_init 170 (.inl (a_put 11 30 (.array .int) 173)) (fX12 (f0 := 30) (by decide) rfl rfl rfl tOk kw_1215 (by decide +kernel)) <|
  allq qX12_init 173 (.inl (a_al 0 174)) (s_aload_n (q := 0) (i := 0) rfl (by decide +kernel)) <|
  allq qX12_init 174 (.inl (a_ic 8001 177)) (s_sipush (n := 8001) (v := 8001) rfl (by decide +kernel)) <|
  allq qX12_init 177 (.inl (a_newa 1 179)) (na_int kw_197 (by decide +kernel)) <|
  allq qX12_init 179 (.inl (a_put 11 32 (.array .int) 182)) (fX12 (f0 := 32) (by decide) rfl rfl rfl tOk kw_1217 (by decide +kernel)) <|
  allq qX12_init 182 (.inl (a_al 0 183)) (s_aload_n (q := 0) (i := 0) rfl (by decide +kernel)) <|
  allq qX12_init 183 (.inl (a_ic 24003 186)) (s_sipush (n := 24003) (v := 24003) rfl (by decide +kernel)) <|
  allq qX12_init 186 (.inl (a_newa 1 188)) (na_int kw_197 (by decide +kernel)) <|
  allq qX12_init 188 (.inl (a_put 11 34 (.array .int) 191)) (fX12 (f0 := 34) (by decide) rfl rfl rfl tOk kw_1219 (by decide +kernel)) <|
  allq qX12_init 191 (.inl (a_al 0 192)) (s_aload_n (q := 0) (i := 0) rfl (by decide +kernel)) <|
  allq qX12_init 192 (.inl (a_ic 24003 195)) (s_sipush (n := 24003) (v := 24003) rfl (by decide +kernel)) <|
  allq qX12_init 195 (.inl (a_newa 1 197)) (na_int kw_197 (by decide +kernel)) <|
  allq qX12_init 197 (.inl (a_put 11 35 (.array .int) 200)) (fX12 (f0 := 35) (by decide) rfl rfl rfl tOk kw_1220 (by decide +kernel)) <|
  allq qX12_init 200 (.inl (a_al 0 201)) (s_aload_n (q := 0) (i := 0) rfl (by decide +kernel)) <|
  allq qX12_init 201 (.inl (a_ic 24003 204)) (s_sipush (n := 24003) (v := 24003) rfl (by decide +kernel)) <|
  allq qX12_init 204 (.inl (a_newa 1 206)) (na_int kw_197 (by decide +kernel)) <|
  allq qX12_init 206 (.inl (a_put 11 36 (.array .int) 209)) (fX12 (f0 := 36) (by decide) rfl rfl rfl tOk kw_1221 (by decide +kernel)) <|
  allq qX12_init 209 (.inl (a_al 0 210)) (s_aload_n (q := 0) (i := 0) rfl (by decide +kernel)) <|
  allq qX12_init 210 (.inl (a_ic 24000 213)) (s_sipush (n := 24000) (v := 24000) rfl (by decide +kernel)) <|
  allq qX12_init 213 (.inl (a_newa 1 215)) (na_int kw_197 (by decide +kernel)) <|
  allq qX12_init 215 (.inl (a_put 11 37 (.array .int) 218)) (fX12 (f0 := 37) (by decide) rfl rfl rfl tOk kw_1222 (by decide +kernel)) <|
  allq qX12_init 218 (.inl (a_al 0 219)) (s_aload_n (q := 0) (i := 0) rfl (by decide +kernel)) <|
  allq qX12_init 219 (.inl (a_ic 12000 222)) (s_sipush (n := 12000) (v := 12000) rfl (by decide +kernel)) <|
  allq qX12_init 222 (.inl (a_newa 1 224)) (na_int kw_197 (by decide +kernel)) <|
  allq qX12_init 224 (.inl (a_put 11 39 (.array .int) 227)) (fX12 (f0 := 39) (by decide) rfl rfl rfl tOk kw_1224 (by decide +kernel)) <|
  allq qX12_init 227 (.inl (a_al 0 228)) (s_aload_n (q := 0) (i := 0) rfl (by decide +kernel)) <|
  allq qX12_init 228 (.inl (a_ic 2048 231)) (s_sipush (n := 2048) (v := 2048) rfl (by decide +kernel)) <|
  allq qX12_init 231 (.inl (a_newa 1 233)) (na_int kw_197 (by decide +kernel)) <|
  allq qX12_init 233 (.inl (a_put 11 41 (.array .int) 236)) (fX12 (f0 := 41) (by decide) rfl rfl rfl tOk kw_1226 (by decide +kernel)) <|
  allq qX12_init 236 (.inl (a_al 0 237)) (s_aload_n (q := 0) (i := 0) rfl (by decide +kernel)) <|
  allq qX12_init 237 (.inl (a_ic 2048 240)) (s_sipush (n := 2048) (v := 2048) rfl (by decide +kernel)) <|
  allq qX12_init 240 (.inl (a_newa 1 242)) (na_int kw_197 (by decide +kernel)) <|
  allq qX12_init 242 (.inl (a_put 11 42 (.array .int) 245)) (fX12 (f0 := 42) (by decide) rfl rfl rfl tOk kw_1227 (by decide +kernel)) <|
  allq qX12_init 245 (.inl (a_al 0 246)) (s_aload_n (q := 0) (i := 0) rfl (by decide +kernel)) <|
  allq qX12_init 246 (.inl (a_ic 2048 249)) (s_sipush (n := 2048) (v := 2048) rfl (by decide +kernel)) <|
  allq qX12_init 249 (.inl (a_newa 1 251)) (na_int kw_197 (by decide +kernel)) <|
  allq qX12_init 251 (.inl (a_put 11 43 (.array .int) 254)) (fX12 (f0 := 43) (by decide) rfl rfl rfl tOk kw_1228 (by decide +kernel)) <|
  alln
set_option maxRecDepth 20000 in
theorem kX12_init_3 : ∀ q ∈ tX12_init_3, qX12_init q :=
  allq qX12_init 254 (.inl (a_al 0 255)) (s_aload_n (q := 0) (i := 0) rfl (by decide +kernel)) <|
  allq qX12_init 255 (.inl (a_ic 64 257)) (s_bipush (n := 64) (v := 64) rfl (by decide +kernel)) <|
  allq qX12_init 257 (.inl (a_newa 1 259)) (na_int kw_197 (by decide +kernel)) <|
  allq qX12_init 259 (.inl (a_put 11 44 (.array .int) 262)) (fX12 (f0 := 44) (by decide) rfl rfl rfl tOk kw_1229 (by decide +kernel)) <|
  allq qX12_init 262 (.inl (a_al 0 263)) (s_aload_n (q := 0) (i := 0) rfl (by decide +kernel)) <|
  allq qX12_init 263 (.inl (a_ic 64 265)) (s_bipush (n := 64) (v := 64) rfl (by decide +kernel)) <|
  allq qX12_init 265 (.inl (a_newa 1 267)) (na_int kw_197 (by decide +kernel)) <|
  allq qX12_init 267 (.inl (a_put 11 45 (.array .int) 270)) (fX12 (f0 := 45) (by decide) rfl rfl rfl tOk kw_1230 (by decide +kernel)) <|
  allq qX12_init 270 (.inl (a_al 0 271)) (s_aload_n (q := 0) (i := 0) rfl (by decide +kernel)) <|
  allq qX12_init 271 (.inl (a_ic 64 273)) (s_bipush (n := 64) (v := 64) rfl (by decide +kernel)) <|
  allq qX12_init 273 (.inl (a_newa 1 275)) (na_int kw_197 (by decide +kernel)) <|
  allq qX12_init 275 (.inl (a_put 11 46 (.array .int) 278)) (fX12 (f0 := 46) (by decide) rfl rfl rfl tOk kw_1231 (by decide +kernel)) <|
  allq qX12_init 278 (.inl (a_al 0 279)) (s_aload_n (q := 0) (i := 0) rfl (by decide +kernel)) <|
  allq qX12_init 279 (.inl (a_ic 64 281)) (s_bipush (n := 64) (v := 64) rfl (by decide +kernel)) <|
  allq qX12_init 281 (.inl (a_newa 3 283)) (na_boolean kw_1378 (by decide +kernel)) <|
  allq qX12_init 283 (.inl (a_put 11 47 (.array .boolean) 286)) (fX12 (f0 := 47) (by decide) rfl rfl rfl tOk kw_1232 (by decide +kernel)) <|
  allq qX12_init 286 (.inl (a_al 0 287)) (s_aload_n (q := 0) (i := 0) rfl (by decide +kernel)) <|
  allq qX12_init 287 (.inl (a_ic 256 290)) (s_sipush (n := 256) (v := 256) rfl (by decide +kernel)) <|
  allq qX12_init 290 (.inl (a_newa 1 292)) (na_int kw_197 (by decide +kernel)) <|
  allq qX12_init 292 (.inl (a_put 11 48 (.array .int) 295)) (fX12 (f0 := 48) (by decide) rfl rfl rfl tOk kw_1233 (by decide +kernel)) <|
  allq qX12_init 295 (.inl (a_al 0 296)) (s_aload_n (q := 0) (i := 0) rfl (by decide +kernel)) <|
  allq qX12_init 296 (.inl (a_ic 256 299)) (s_sipush (n := 256) (v := 256) rfl (by decide +kernel)) <|
  allq qX12_init 299 (.inl (a_newa 1 301)) (na_int kw_197 (by decide +kernel)) <|
  allq qX12_init 301 (.inl (a_put 11 49 (.array .int) 304)) (fX12 (f0 := 49) (by decide) rfl rfl rfl tOk kw_1234 (by decide +kernel)) <|
  allq qX12_init 304 (.inl (a_al 0 305)) (s_aload_n (q := 0) (i := 0) rfl (by decide +kernel)) <|
  allq qX12_init 305 (.inl (a_ic 512 308)) (s_sipush (n := 512) (v := 512) rfl (by decide +kernel)) <|
  allq qX12_init 308 (.inl (a_newa 1 310)) (na_int kw_197 (by decide +kernel)) <|
  allq qX12_init 310 (.inl (a_put 11 50 (.array .int) 313)) (fX12 (f0 := 50) (by decide) rfl rfl rfl tOk kw_1235 (by decide +kernel)) <|
  allq qX12_init 313 (.inl (a_al 0 314)) (s_aload_n (q := 0) (i := 0) rfl (by decide +kernel)) <|
  allq qX12_init 314 (.inl (a_ic 512 317)) (s_sipush (n := 512) (v := 512) rfl (by decide +kernel)) <|
  allq qX12_init 317 (.inl (a_newa 1 319)) (na_int kw_197 (by decide +kernel)) <|
  allq qX12_init 319 (.inl (a_put 11 51 (.array .int) 322)) (fX12 (f0 := 51) (by decide) rfl rfl rfl tOk kw_1236 (by decide +kernel)) <|
  allq qX12_init 322 (.inl (a_al 0 323)) (s_aload_n (q := 0) (i := 0) rfl (by decide +kernel)) <|
  allq qX12_init 323 (.inl (a_ic 256 326)) (s_sipush (n := 256) (v := 256) rfl (by decide +kernel)) <|
  allq qX12_init 326 (.inl (a_newa 1 328)) (na_int kw_197 (by decide +kernel)) <|
  allq qX12_init 328 (.inl (a_put 11 53 (.array .int) 331)) (fX12 (f0 := 53) (by decide) rfl rfl rfl tOk kw_1238 (by decide +kernel)) <|
  allq qX12_init 331 (.inl (a_al 0 332)) (s_aload_n (q := 0) (i := 0) rfl (by decide +kernel)) <|
  allq qX12_init 332 (.inl (a_ic 2048 335)) (s_sipush (n := 2048) (v := 2048) rfl (by decide +kernel)) <|
  allq qX12_init 335 (.inl (a_newa 1 337)) (na_int kw_197 (by decide +kernel)) <|
  allq qX12_init 337 (.inl (a_put 11 54 (.array .int) 340)) (fX12 (f0 := 54) (by decide) rfl rfl rfl tOk kw_1239 (by decide +kernel)) <|
  alln
set_option maxRecDepth 20000 in
theorem kX12_init_4 : ∀ q ∈ tX12_init_4, qX12_init q :=
  allq qX12_init 340 (.inl (a_al 0 341)) (s_aload_n (q := 0) (i := 0) rfl (by decide +kernel)) <|
  allq qX12_init 341 (.inl (a_ic 257 344)) (s_sipush (n := 257) (v := 257) rfl (by decide +kernel)) <|
  allq qX12_init 344 (.inl (a_newa 1 346)) (na_int kw_197 (by decide +kernel)) <|
  allq qX12_init 346 (.inl (a_put 11 55 (.array .int) 349)) (fX12 (f0 := 55) (by decide) rfl rfl rfl tOk kw_1240 (by decide +kernel)) <|
  allq qX12_init 349 (.inl (a_al 0 350)) (s_aload_n (q := 0) (i := 0) rfl (by decide +kernel)) <|
  allq qX12_init 350 (.inl (a_ic 12 352)) (s_bipush (n := 12) (v := 12) rfl (by decide +kernel)) <|
  allq qX12_init 352 (.inl (a_newa 1 354)) (na_int kw_197 (by decide +kernel)) <|
  allq qX12_init 354 (.inl (a_put 11 58 (.array .int) 357)) (fX12 (f0 := 58) (by decide) rfl rfl rfl tOk kw_1243 (by decide +kernel)) <|
  allq qX12_init 357 (.inl (a_al 0 358)) (s_aload_n (q := 0) (i := 0) rfl (by decide +kernel)) <|
  allq qX12_init 358 (.inl (a_ic 4 359)) (s_iconst (n := 4) (v := 4) rfl (by decide +kernel)) <|
  allq qX12_init 359 (.inl (a_newa 2 361)) (na_long kw_1379 (by decide +kernel)) <|
  allq qX12_init 361 (.inl (a_put 11 59 (.array .long) 364)) (fX12 (f0 := 59) (by decide) rfl rfl rfl tOk kw_1244 (by decide +kernel)) <|
  allq qX12_init 364 (.inl (a_al 0 365)) (s_aload_n (q := 0) (i := 0) rfl (by decide +kernel)) <|
  allq qX12_init 365 (.inl (a_ic 12 367)) (s_bipush (n := 12) (v := 12) rfl (by decide +kernel)) <|
  allq qX12_init 367 (.inl (a_newa 1 369)) (na_int kw_197 (by decide +kernel)) <|
  allq qX12_init 369 (.inl (a_put 11 62 (.array .int) 372)) (fX12 (f0 := 62) (by decide) rfl rfl rfl tOk kw_1247 (by decide +kernel)) <|
  allq qX12_init 372 (.inl (a_al 0 373)) (s_aload_n (q := 0) (i := 0) rfl (by decide +kernel)) <|
  allq qX12_init 373 (.inl (a_ic 12 375)) (s_bipush (n := 12) (v := 12) rfl (by decide +kernel)) <|
  allq qX12_init 375 (.inl (a_newa 1 377)) (na_int kw_197 (by decide +kernel)) <|
  allq qX12_init 377 (.inl (a_put 11 63 (.array .int) 380)) (fX12 (f0 := 63) (by decide) rfl rfl rfl tOk kw_1248 (by decide +kernel)) <|
  allq qX12_init 380 (.inr (.inr 0)) (Or.inl ⟨rfl, rfl, by decide +kernel⟩) <|
  alln
theorem kX12_init : ∀ q ∈ tX12_init, qX12_init q := alla kX12_init_0 (alla kX12_init_1 (alla kX12_init_2 (alla kX12_init_3 kX12_init_4)))
abbrev qX12_write : Nat × aI → Prop := OkQ RX12 "write" cX12_write 5 (some .boolean)
set_option maxRecDepth 20000 in
theorem kX12_write_0 : ∀ q ∈ tX12_write_0, qX12_write q :=
  allq qX12_write 0 (.inl (a_il 3 1)) (s_iload_n (q := 3) (i := 3) rfl (by decide +kernel)) <|
  allq qX12_write 1 (.inl (a_ic 1 2)) (s_iconst (n := 1) (v := 1) rfl (by decide +kernel)) <|
  allq qX12_write 2 (.inl (o_icmp_lt 23 5)) (s_icmp_lt (off := 21) (by decide +kernel) (by decide)) <|
  allq qX12_write 5 (.inl (a_il 3 6)) (s_iload_n (q := 3) (i := 3) rfl (by decide +kernel)) <|
  allq qX12_write 6 (.inl (a_ic 8 8)) (s_bipush (n := 8) (v := 8) rfl (by decide +kernel)) <|
  allq qX12_write 8 (.inl (o_icmp_gt 23 11)) (s_icmp_gt (off := 15) (by decide +kernel) (by decide)) <|
  allq qX12_write 11 (.inl (a_al 0 12)) (s_aload_n (q := 0) (i := 0) rfl (by decide +kernel)) <|
  allq qX12_write 12 (.inl (a_get 11 1 15)) (gX12 (f0 := 1) (by decide) kw_1186 (by decide +kernel)) <|
  allq qX12_write 15 (.inl (a_il 3 16)) (s_iload_n (q := 3) (i := 3) rfl (by decide +kernel)) <|
  allq qX12_write 16 (.inl (o_iadd 17)) (s_iadd (by decide +kernel)) <|
  allq qX12_write 17 (.inl (a_ic 8000 20)) (s_sipush (n := 8000) (v := 8000) rfl (by decide +kernel)) <|
  allq qX12_write 20 (.inl (o_icmp_le 25 23)) (s_icmp_le (off := 5) (by decide +kernel) (by decide)) <|
  allq qX12_write 23 (.inl (a_ic 0 24)) (s_iconst (n := 0) (v := 0) rfl (by decide +kernel)) <|
  allq qX12_write 24 (.inr (.inr 3)) (Or.inr (Or.inr (Or.inr ⟨rfl, rfl, by decide +kernel⟩))) <|
  allq qX12_write 25 (.inl (a_ic 0 26)) (s_iconst (n := 0) (v := 0) rfl (by decide +kernel)) <|
  allq qX12_write 26 (.inl (a_is 4 28)) (s_istore (i := 4) (by decide +kernel) (by decide)) <|
  allq qX12_write 28 (.inl (a_il 4 30)) (s_iload (i := 4) (by decide +kernel)) <|
  allq qX12_write 30 (.inl (a_il 3 31)) (s_iload_n (q := 3) (i := 3) rfl (by decide +kernel)) <|
  allq qX12_write 31 (.inl (o_icmp_ge 74 34)) (s_icmp_ge (off := 43) (by decide +kernel) (by decide)) <|
  allq qX12_write 34 (.inl (a_al 0 35)) (s_aload_n (q := 0) (i := 0) rfl (by decide +kernel)) <|
  allq qX12_write 35 (.inl (a_get 11 0 38)) (gX12 (f0 := 0) (by decide) kw_1185 (by decide +kernel)) <|
  allq qX12_write 38 (.inl (a_al 0 39)) (s_aload_n (q := 0) (i := 0) rfl (by decide +kernel)) <|
  allq qX12_write 39 (.inl (a_get 11 1 42)) (gX12 (f0 := 1) (by decide) kw_1186 (by decide +kernel)) <|
  allq qX12_write 42 (.inl (a_ll 1 43)) (s_lload_n (q := 1) (i := 1) rfl (by decide +kernel)) <|
  allq qX12_write 43 (.inl (a_ic 56 45)) (s_bipush (n := 56) (v := 56) rfl (by decide +kernel)) <|
  allq qX12_write 45 (.inl (a_ic 8 47)) (s_bipush (n := 8) (v := 8) rfl (by decide +kernel)) <|
  allq qX12_write 47 (.inl (a_il 4 49)) (s_iload (i := 4) (by decide +kernel)) <|
  allq qX12_write 49 (.inl (o_imul 50)) (s_imul (by decide +kernel)) <|
  allq qX12_write 50 (.inl (o_isub 51)) (s_isub (by decide +kernel)) <|
  allq qX12_write 51 (.inl (o_lshr 52)) (s_lshr (by decide +kernel)) <|
  allq qX12_write 52 (.inl (a_lc 255 55)) (s_ldc2 kw_1384 (by decide +kernel)) <|
  allq qX12_write 55 (.inl (o_land 56)) (s_land (by decide +kernel)) <|
  allq qX12_write 56 (.inl (a_l2i 57)) (s_l2i (by decide +kernel)) <|
  allq qX12_write 57 (.inl (a_iast 58)) (s_iast (by decide +kernel)) <|
  allq qX12_write 58 (.inl (a_al 0 59)) (s_aload_n (q := 0) (i := 0) rfl (by decide +kernel)) <|
  allq qX12_write 59 (.inl (a_dup 60)) (s_dup (by decide +kernel)) <|
  allq qX12_write 60 (.inl (a_get 11 1 63)) (gX12 (f0 := 1) (by decide) kw_1186 (by decide +kernel)) <|
  allq qX12_write 63 (.inl (a_ic 1 64)) (s_iconst (n := 1) (v := 1) rfl (by decide +kernel)) <|
  allq qX12_write 64 (.inl (o_iadd 65)) (s_iadd (by decide +kernel)) <|
  allq qX12_write 65 (.inl (a_put 11 1 .int 68)) (pX12 (f0 := 1) (by decide) rfl rfl tOk kw_1186 (by decide +kernel)) <|
  alln
set_option maxRecDepth 20000 in
theorem kX12_write_1 : ∀ q ∈ tX12_write_1, qX12_write q :=
  allq qX12_write 68 (.inl (a_inc 4 1 71)) (s_iinc (i := 4) (n := 1) (n2 := 1) rfl (by decide +kernel) (by decide)) <|
  allq qX12_write 71 (.inl (a_go 28)) (s_goto (off := (-43)) (by decide +kernel) (by decide)) <|
  allq qX12_write 74 (.inl (a_ic 1 75)) (s_iconst (n := 1) (v := 1) rfl (by decide +kernel)) <|
  allq qX12_write 75 (.inr (.inr 3)) (Or.inr (Or.inr (Or.inr ⟨rfl, rfl, by decide +kernel⟩))) <|
  alln
theorem kX12_write : ∀ q ∈ tX12_write, qX12_write q := alla kX12_write_0 kX12_write_1
abbrev qX12_again : Nat × aI → Prop := OkQ RX12 "again" cX12_again 4 (some .boolean)
set_option maxRecDepth 20000 in
theorem kX12_again_0 : ∀ q ∈ tX12_again_0, qX12_again q :=
  allq qX12_again 0 (.inl (a_il 1 1)) (s_iload_n (q := 1) (i := 1) rfl (by decide +kernel)) <|
  allq qX12_again 1 (.inl (a_ic 1 2)) (s_iconst (n := 1) (v := 1) rfl (by decide +kernel)) <|
  allq qX12_again 2 (.inl (o_icmp_lt 35 5)) (s_icmp_lt (off := 33) (by decide +kernel) (by decide)) <|
  allq qX12_again 5 (.inl (a_il 1 6)) (s_iload_n (q := 1) (i := 1) rfl (by decide +kernel)) <|
  allq qX12_again 6 (.inl (a_al 0 7)) (s_aload_n (q := 0) (i := 0) rfl (by decide +kernel)) <|
  allq qX12_again 7 (.inl (a_get 11 1 10)) (gX12 (f0 := 1) (by decide) kw_1186 (by decide +kernel)) <|
  allq qX12_again 10 (.inl (o_icmp_gt 35 13)) (s_icmp_gt (off := 25) (by decide +kernel) (by decide)) <|
  allq qX12_again 13 (.inl (a_il 2 14)) (s_iload_n (q := 2) (i := 2) rfl (by decide +kernel)) <|
  allq qX12_again 14 (.inl (o_if_lt 35 17)) (s_if_lt (off := 21) (by decide +kernel) (by decide)) <|
  allq qX12_again 17 (.inl (a_il 1 18)) (s_iload_n (q := 1) (i := 1) rfl (by decide +kernel)) <|
  allq qX12_again 18 (.inl (a_i2l 19)) (s_i2l (by decide +kernel)) <|
  allq qX12_again 19 (.inl (a_il 2 20)) (s_iload_n (q := 2) (i := 2) rfl (by decide +kernel)) <|
  allq qX12_again 20 (.inl (a_i2l 21)) (s_i2l (by decide +kernel)) <|
  allq qX12_again 21 (.inl (o_lmul 22)) (s_lmul (by decide +kernel)) <|
  allq qX12_again 22 (.inl (a_ic 8000 25)) (s_sipush (n := 8000) (v := 8000) rfl (by decide +kernel)) <|
  allq qX12_again 25 (.inl (a_al 0 26)) (s_aload_n (q := 0) (i := 0) rfl (by decide +kernel)) <|
  allq qX12_again 26 (.inl (a_get 11 1 29)) (gX12 (f0 := 1) (by decide) kw_1186 (by decide +kernel)) <|
  allq qX12_again 29 (.inl (o_isub 30)) (s_isub (by decide +kernel)) <|
  allq qX12_again 30 (.inl (a_i2l 31)) (s_i2l (by decide +kernel)) <|
  allq qX12_again 31 (.inl (a_lcmp 32)) (s_lcmp (by decide +kernel)) <|
  allq qX12_again 32 (.inl (o_if_le 37 35)) (s_if_le (off := 5) (by decide +kernel) (by decide)) <|
  allq qX12_again 35 (.inl (a_ic 0 36)) (s_iconst (n := 0) (v := 0) rfl (by decide +kernel)) <|
  allq qX12_again 36 (.inr (.inr 3)) (Or.inr (Or.inr (Or.inr ⟨rfl, rfl, by decide +kernel⟩))) <|
  allq qX12_again 37 (.inl (a_ic 0 38)) (s_iconst (n := 0) (v := 0) rfl (by decide +kernel)) <|
  allq qX12_again 38 (.inl (a_is 3 39)) (s_istore_n (q := 3) (i := 3) rfl (by decide +kernel) (by decide)) <|
  allq qX12_again 39 (.inl (a_il 3 40)) (s_iload_n (q := 3) (i := 3) rfl (by decide +kernel)) <|
  allq qX12_again 40 (.inl (a_il 1 41)) (s_iload_n (q := 1) (i := 1) rfl (by decide +kernel)) <|
  allq qX12_again 41 (.inl (a_il 2 42)) (s_iload_n (q := 2) (i := 2) rfl (by decide +kernel)) <|
  allq qX12_again 42 (.inl (o_imul 43)) (s_imul (by decide +kernel)) <|
  allq qX12_again 43 (.inl (o_icmp_ge 82 46)) (s_icmp_ge (off := 39) (by decide +kernel) (by decide)) <|
  allq qX12_again 46 (.inl (a_al 0 47)) (s_aload_n (q := 0) (i := 0) rfl (by decide +kernel)) <|
  allq qX12_again 47 (.inl (a_get 11 0 50)) (gX12 (f0 := 0) (by decide) kw_1185 (by decide +kernel)) <|
  allq qX12_again 50 (.inl (a_al 0 51)) (s_aload_n (q := 0) (i := 0) rfl (by decide +kernel)) <|
  allq qX12_again 51 (.inl (a_get 11 1 54)) (gX12 (f0 := 1) (by decide) kw_1186 (by decide +kernel)) <|
  allq qX12_again 54 (.inl (a_al 0 55)) (s_aload_n (q := 0) (i := 0) rfl (by decide +kernel)) <|
  allq qX12_again 55 (.inl (a_get 11 0 58)) (gX12 (f0 := 0) (by decide) kw_1185 (by decide +kernel)) <|
  allq qX12_again 58 (.inl (a_al 0 59)) (s_aload_n (q := 0) (i := 0) rfl (by decide +kernel)) <|
  allq qX12_again 59 (.inl (a_get 11 1 62)) (gX12 (f0 := 1) (by decide) kw_1186 (by decide +kernel)) <|
  allq qX12_again 62 (.inl (a_il 1 63)) (s_iload_n (q := 1) (i := 1) rfl (by decide +kernel)) <|
  allq qX12_again 63 (.inl (o_isub 64)) (s_isub (by decide +kernel)) <|
  alln
set_option maxRecDepth 20000 in
theorem kX12_again_1 : ∀ q ∈ tX12_again_1, qX12_again q :=
  allq qX12_again 64 (.inl (a_iald 65)) (s_iald (by decide +kernel)) <|
  allq qX12_again 65 (.inl (a_iast 66)) (s_iast (by decide +kernel)) <|
  allq qX12_again 66 (.inl (a_al 0 67)) (s_aload_n (q := 0) (i := 0) rfl (by decide +kernel)) <|
  allq qX12_again 67 (.inl (a_dup 68)) (s_dup (by decide +kernel)) <|
  allq qX12_again 68 (.inl (a_get 11 1 71)) (gX12 (f0 := 1) (by decide) kw_1186 (by decide +kernel)) <|
  allq qX12_again 71 (.inl (a_ic 1 72)) (s_iconst (n := 1) (v := 1) rfl (by decide +kernel)) <|
  allq qX12_again 72 (.inl (o_iadd 73)) (s_iadd (by decide +kernel)) <|
  allq qX12_again 73 (.inl (a_put 11 1 .int 76)) (pX12 (f0 := 1) (by decide) rfl rfl tOk kw_1186 (by decide +kernel)) <|
  allq qX12_again 76 (.inl (a_inc 3 1 79)) (s_iinc (i := 3) (n := 1) (n2 := 1) rfl (by decide +kernel) (by decide)) <|
  allq qX12_again 79 (.inl (a_go 39)) (s_goto (off := (-40)) (by decide +kernel) (by decide)) <|
  allq qX12_again 82 (.inl (a_ic 1 83)) (s_iconst (n := 1) (v := 1) rfl (by decide +kernel)) <|
  allq qX12_again 83 (.inr (.inr 3)) (Or.inr (Or.inr (Or.inr ⟨rfl, rfl, by decide +kernel⟩))) <|
  alln
theorem kX12_again : ∀ q ∈ tX12_again, qX12_again q := alla kX12_again_0 kX12_again_1
abbrev qX12_clear : Nat × aI → Prop := OkQ RX12 "clear" cX12_clear 1 (none)
set_option maxRecDepth 20000 in
theorem kX12_clear_0 : ∀ q ∈ tX12_clear_0, qX12_clear q :=
  allq qX12_clear 0 (.inl (a_al 0 1)) (s_aload_n (q := 0) (i := 0) rfl (by decide +kernel)) <|
  allq qX12_clear 1 (.inl (a_ic 0 2)) (s_iconst (n := 0) (v := 0) rfl (by decide +kernel)) <|
  allq qX12_clear 2 (.inl (a_put 11 1 .int 5)) (pX12 (f0 := 1) (by decide) rfl rfl tOk kw_1186 (by decide +kernel)) <|
  allq qX12_clear 5 (.inr (.inr 0)) (Or.inl ⟨rfl, rfl, by decide +kernel⟩) <|
  alln
theorem kX12_clear : ∀ q ∈ tX12_clear, qX12_clear q := kX12_clear_0
abbrev qX12_turn : Nat × aI → Prop := OkQ RX12 "turn" cX12_turn 2 (some .boolean)
set_option maxRecDepth 20000 in
theorem kX12_turn_0 : ∀ q ∈ tX12_turn_0, qX12_turn q :=
  allq qX12_turn 0 (.inl (a_al 0 1)) (s_aload_n (q := 0) (i := 0) rfl (by decide +kernel)) <|
  allq qX12_turn 1 (.inl (a_get 11 3 4)) (gX12 (f0 := 3) (by decide) kw_1188 (by decide +kernel)) <|
  allq qX12_turn 4 (.inl (a_ic 8000 7)) (s_sipush (n := 8000) (v := 8000) rfl (by decide +kernel)) <|
  allq qX12_turn 7 (.inl (o_icmp_le 12 10)) (s_icmp_le (off := 5) (by decide +kernel) (by decide)) <|
  allq qX12_turn 10 (.inl (a_ic 0 11)) (s_iconst (n := 0) (v := 0) rfl (by decide +kernel)) <|
  allq qX12_turn 11 (.inr (.inr 3)) (Or.inr (Or.inr (Or.inr ⟨rfl, rfl, by decide +kernel⟩))) <|
  allq qX12_turn 12 (.inl (a_ic 0 13)) (s_iconst (n := 0) (v := 0) rfl (by decide +kernel)) <|
  allq qX12_turn 13 (.inl (a_is 1 14)) (s_istore_n (q := 1) (i := 1) rfl (by decide +kernel) (by decide)) <|
  allq qX12_turn 14 (.inl (a_il 1 15)) (s_iload_n (q := 1) (i := 1) rfl (by decide +kernel)) <|
  allq qX12_turn 15 (.inl (a_al 0 16)) (s_aload_n (q := 0) (i := 0) rfl (by decide +kernel)) <|
  allq qX12_turn 16 (.inl (a_get 11 3 19)) (gX12 (f0 := 3) (by decide) kw_1188 (by decide +kernel)) <|
  allq qX12_turn 19 (.inl (o_icmp_ge 40 22)) (s_icmp_ge (off := 21) (by decide +kernel) (by decide)) <|
  allq qX12_turn 22 (.inl (a_al 0 23)) (s_aload_n (q := 0) (i := 0) rfl (by decide +kernel)) <|
  allq qX12_turn 23 (.inl (a_get 11 0 26)) (gX12 (f0 := 0) (by decide) kw_1185 (by decide +kernel)) <|
  allq qX12_turn 26 (.inl (a_il 1 27)) (s_iload_n (q := 1) (i := 1) rfl (by decide +kernel)) <|
  allq qX12_turn 27 (.inl (a_al 0 28)) (s_aload_n (q := 0) (i := 0) rfl (by decide +kernel)) <|
  allq qX12_turn 28 (.inl (a_get 11 2 31)) (gX12 (f0 := 2) (by decide) kw_1187 (by decide +kernel)) <|
  allq qX12_turn 31 (.inl (a_il 1 32)) (s_iload_n (q := 1) (i := 1) rfl (by decide +kernel)) <|
  allq qX12_turn 32 (.inl (a_iald 33)) (s_iald (by decide +kernel)) <|
  allq qX12_turn 33 (.inl (a_iast 34)) (s_iast (by decide +kernel)) <|
  allq qX12_turn 34 (.inl (a_inc 1 1 37)) (s_iinc (i := 1) (n := 1) (n2 := 1) rfl (by decide +kernel) (by decide)) <|
  allq qX12_turn 37 (.inl (a_go 14)) (s_goto (off := (-23)) (by decide +kernel) (by decide)) <|
  allq qX12_turn 40 (.inl (a_al 0 41)) (s_aload_n (q := 0) (i := 0) rfl (by decide +kernel)) <|
  allq qX12_turn 41 (.inl (a_al 0 42)) (s_aload_n (q := 0) (i := 0) rfl (by decide +kernel)) <|
  allq qX12_turn 42 (.inl (a_get 11 3 45)) (gX12 (f0 := 3) (by decide) kw_1188 (by decide +kernel)) <|
  allq qX12_turn 45 (.inl (a_put 11 1 .int 48)) (pX12 (f0 := 1) (by decide) rfl rfl tOk kw_1186 (by decide +kernel)) <|
  allq qX12_turn 48 (.inl (a_ic 1 49)) (s_iconst (n := 1) (v := 1) rfl (by decide +kernel)) <|
  allq qX12_turn 49 (.inr (.inr 3)) (Or.inr (Or.inr (Or.inr ⟨rfl, rfl, by decide +kernel⟩))) <|
  alln
theorem kX12_turn : ∀ q ∈ tX12_turn, qX12_turn q := kX12_turn_0
abbrev qX12_rule : Nat × aI → Prop := OkQ RX12 "rule" cX12_rule 3 (some .boolean)
set_option maxRecDepth 20000 in
theorem kX12_rule_0 : ∀ q ∈ tX12_rule_0, qX12_rule q :=
  allq qX12_rule 0 (.inl (a_il 1 1)) (s_iload_n (q := 1) (i := 1) rfl (by decide +kernel)) <|
  allq qX12_rule 1 (.inl (o_if_lt 20 4)) (s_if_lt (off := 19) (by decide +kernel) (by decide)) <|
  allq qX12_rule 4 (.inl (a_il 1 5)) (s_iload_n (q := 1) (i := 1) rfl (by decide +kernel)) <|
  allq qX12_rule 5 (.inl (a_ic 3 6)) (s_iconst (n := 3) (v := 3) rfl (by decide +kernel)) <|
  allq qX12_rule 6 (.inl (o_icmp_gt 20 9)) (s_icmp_gt (off := 14) (by decide +kernel) (by decide)) <|
  allq qX12_rule 9 (.inl (a_il 2 10)) (s_iload_n (q := 2) (i := 2) rfl (by decide +kernel)) <|
  allq qX12_rule 10 (.inl (a_ic 3 11)) (s_iconst (n := 3) (v := 3) rfl (by decide +kernel)) <|
  allq qX12_rule 11 (.inl (o_icmp_lt 20 14)) (s_icmp_lt (off := 9) (by decide +kernel) (by decide)) <|
  allq qX12_rule 14 (.inl (a_il 2 15)) (s_iload_n (q := 2) (i := 2) rfl (by decide +kernel)) <|
  allq qX12_rule 15 (.inl (a_ic 8 17)) (s_bipush (n := 8) (v := 8) rfl (by decide +kernel)) <|
  allq qX12_rule 17 (.inl (o_icmp_le 22 20)) (s_icmp_le (off := 5) (by decide +kernel) (by decide)) <|
  allq qX12_rule 20 (.inl (a_ic 0 21)) (s_iconst (n := 0) (v := 0) rfl (by decide +kernel)) <|
  allq qX12_rule 21 (.inr (.inr 3)) (Or.inr (Or.inr (Or.inr ⟨rfl, rfl, by decide +kernel⟩))) <|
  allq qX12_rule 22 (.inl (a_al 0 23)) (s_aload_n (q := 0) (i := 0) rfl (by decide +kernel)) <|
  allq qX12_rule 23 (.inl (a_il 1 24)) (s_iload_n (q := 1) (i := 1) rfl (by decide +kernel)) <|
  allq qX12_rule 24 (.inl (a_put 11 4 .int 27)) (pX12 (f0 := 4) (by decide) rfl rfl tOk kw_1189 (by decide +kernel)) <|
  allq qX12_rule 27 (.inl (a_al 0 28)) (s_aload_n (q := 0) (i := 0) rfl (by decide +kernel)) <|
  allq qX12_rule 28 (.inl (a_il 2 29)) (s_iload_n (q := 2) (i := 2) rfl (by decide +kernel)) <|
  allq qX12_rule 29 (.inl (a_put 11 5 .int 32)) (pX12 (f0 := 5) (by decide) rfl rfl tOk kw_1190 (by decide +kernel)) <|
  allq qX12_rule 32 (.inl (a_ic 1 33)) (s_iconst (n := 1) (v := 1) rfl (by decide +kernel)) <|
  allq qX12_rule 33 (.inr (.inr 3)) (Or.inr (Or.inr (Or.inr ⟨rfl, rfl, by decide +kernel⟩))) <|
  alln
theorem kX12_rule : ∀ q ∈ tX12_rule, qX12_rule q := kX12_rule_0
abbrev qX12_put : Nat × aI → Prop := OkQ RX12 "put" cX12_put 4 (none)
set_option maxRecDepth 20000 in
theorem kX12_put_0 : ∀ q ∈ tX12_put_0, qX12_put q :=
  allq qX12_put 0 (.inl (a_ic 0 1)) (s_iconst (n := 0) (v := 0) rfl (by decide +kernel)) <|
  allq qX12_put 1 (.inl (a_is 3 2)) (s_istore_n (q := 3) (i := 3) rfl (by decide +kernel) (by decide)) <|
  allq qX12_put 2 (.inl (a_il 3 3)) (s_iload_n (q := 3) (i := 3) rfl (by decide +kernel)) <|
  allq qX12_put 3 (.inl (a_il 2 4)) (s_iload_n (q := 2) (i := 2) rfl (by decide +kernel)) <|
  allq qX12_put 4 (.inl (o_icmp_ge 70 7)) (s_icmp_ge (off := 66) (by decide +kernel) (by decide)) <|
  allq qX12_put 7 (.inl (a_al 0 8)) (s_aload_n (q := 0) (i := 0) rfl (by decide +kernel)) <|
  allq qX12_put 8 (.inl (a_get 11 38 11)) (gX12 (f0 := 38) (by decide) kw_1223 (by decide +kernel)) <|
  allq qX12_put 11 (.inl (a_ic 192000 13)) (s_ldc kw_1516 (by decide +kernel)) <|
  allq qX12_put 13 (.inl (o_icmp_ge 54 16)) (s_icmp_ge (off := 41) (by decide +kernel) (by decide)) <|
  allq qX12_put 16 (.inl (a_al 0 17)) (s_aload_n (q := 0) (i := 0) rfl (by decide +kernel)) <|
  allq qX12_put 17 (.inl (a_get 11 37 20)) (gX12 (f0 := 37) (by decide) kw_1222 (by decide +kernel)) <|
  allq qX12_put 20 (.inl (a_al 0 21)) (s_aload_n (q := 0) (i := 0) rfl (by decide +kernel)) <|
  allq qX12_put 21 (.inl (a_get 11 38 24)) (gX12 (f0 := 38) (by decide) kw_1223 (by decide +kernel)) <|
  allq qX12_put 24 (.inl (a_ic 8 26)) (s_bipush (n := 8) (v := 8) rfl (by decide +kernel)) <|
  allq qX12_put 26 (.inl (o_idiv 27)) (s_idiv (by decide +kernel)) <|
  allq qX12_put 27 (.inl (a_al 0 28)) (s_aload_n (q := 0) (i := 0) rfl (by decide +kernel)) <|
  allq qX12_put 28 (.inl (a_get 11 37 31)) (gX12 (f0 := 37) (by decide) kw_1222 (by decide +kernel)) <|
  allq qX12_put 31 (.inl (a_al 0 32)) (s_aload_n (q := 0) (i := 0) rfl (by decide +kernel)) <|
  allq qX12_put 32 (.inl (a_get 11 38 35)) (gX12 (f0 := 38) (by decide) kw_1223 (by decide +kernel)) <|
  allq qX12_put 35 (.inl (a_ic 8 37)) (s_bipush (n := 8) (v := 8) rfl (by decide +kernel)) <|
  allq qX12_put 37 (.inl (o_idiv 38)) (s_idiv (by decide +kernel)) <|
  allq qX12_put 38 (.inl (a_iald 39)) (s_iald (by decide +kernel)) <|
  allq qX12_put 39 (.inl (a_il 1 40)) (s_iload_n (q := 1) (i := 1) rfl (by decide +kernel)) <|
  allq qX12_put 40 (.inl (a_il 3 41)) (s_iload_n (q := 3) (i := 3) rfl (by decide +kernel)) <|
  allq qX12_put 41 (.inl (o_ishr 42)) (s_ishr (by decide +kernel)) <|
  allq qX12_put 42 (.inl (a_ic 1 43)) (s_iconst (n := 1) (v := 1) rfl (by decide +kernel)) <|
  allq qX12_put 43 (.inl (o_iand 44)) (s_iand (by decide +kernel)) <|
  allq qX12_put 44 (.inl (a_al 0 45)) (s_aload_n (q := 0) (i := 0) rfl (by decide +kernel)) <|
  allq qX12_put 45 (.inl (a_get 11 38 48)) (gX12 (f0 := 38) (by decide) kw_1223 (by decide +kernel)) <|
  allq qX12_put 48 (.inl (a_ic 8 50)) (s_bipush (n := 8) (v := 8) rfl (by decide +kernel)) <|
  allq qX12_put 50 (.inl (o_irem 51)) (s_irem (by decide +kernel)) <|
  allq qX12_put 51 (.inl (o_ishl 52)) (s_ishl (by decide +kernel)) <|
  allq qX12_put 52 (.inl (o_ior 53)) (s_ior (by decide +kernel)) <|
  allq qX12_put 53 (.inl (a_iast 54)) (s_iast (by decide +kernel)) <|
  allq qX12_put 54 (.inl (a_al 0 55)) (s_aload_n (q := 0) (i := 0) rfl (by decide +kernel)) <|
  allq qX12_put 55 (.inl (a_dup 56)) (s_dup (by decide +kernel)) <|
  allq qX12_put 56 (.inl (a_get 11 38 59)) (gX12 (f0 := 38) (by decide) kw_1223 (by decide +kernel)) <|
  allq qX12_put 59 (.inl (a_ic 1 60)) (s_iconst (n := 1) (v := 1) rfl (by decide +kernel)) <|
  allq qX12_put 60 (.inl (o_iadd 61)) (s_iadd (by decide +kernel)) <|
  allq qX12_put 61 (.inl (a_put 11 38 .int 64)) (pX12 (f0 := 38) (by decide) rfl rfl tOk kw_1223 (by decide +kernel)) <|
  alln
set_option maxRecDepth 20000 in
theorem kX12_put_1 : ∀ q ∈ tX12_put_1, qX12_put q :=
  allq qX12_put 64 (.inl (a_inc 3 1 67)) (s_iinc (i := 3) (n := 1) (n2 := 1) rfl (by decide +kernel) (by decide)) <|
  allq qX12_put 67 (.inl (a_go 2)) (s_goto (off := (-65)) (by decide +kernel) (by decide)) <|
  allq qX12_put 70 (.inr (.inr 0)) (Or.inl ⟨rfl, rfl, by decide +kernel⟩) <|
  alln
theorem kX12_put : ∀ q ∈ tX12_put, qX12_put q := alla kX12_put_0 kX12_put_1
