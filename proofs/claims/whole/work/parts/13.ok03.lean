/-! each entry is one that the machine does (printed by a program) -/
abbrev qX6_sequenceBytes : Nat × aI → Prop := OkQ RX6 "sequenceBytes" cX6_sequenceBytes 2 (some .int)
set_option maxRecDepth 20000 in
theorem kX6_sequenceBytes_0 : ∀ q ∈ tX6_sequenceBytes_0, qX6_sequenceBytes q :=
  allq qX6_sequenceBytes 0 (.inl (a_al 0 1)) (s_aload_n (q := 0) (i := 0) rfl (by decide +kernel)) <|
  allq qX6_sequenceBytes 1 (.inl (a_get 6 7 4)) (gX6 (f0 := 7) (by decide) kw_542 (by decide +kernel)) <|
  allq qX6_sequenceBytes 4 (.inl (o_if_ne 11 7)) (s_if_ne (off := 7) (by decide +kernel) (by decide)) <|
  allq qX6_sequenceBytes 7 (.inl (a_ic 1 8)) (s_iconst (n := 1) (v := 1) rfl (by decide +kernel)) <|
  allq qX6_sequenceBytes 8 (.inl (a_go 24)) (s_goto (off := 16) (by decide +kernel) (by decide)) <|
  allq qX6_sequenceBytes 11 (.inl (a_al 0 12)) (s_aload_n (q := 0) (i := 0) rfl (by decide +kernel)) <|
  allq qX6_sequenceBytes 12 (.inr (.inl (77, 1, 7))) (okV (y := yX6_countBytes) kw_1034 kw_111 rfl rfl (by decide +kernel) kw_1033 kw_32 kw_1031) <|
  allq qX6_sequenceBytes 15 (.inl (a_ic 1 16)) (s_iconst (n := 1) (v := 1) rfl (by decide +kernel)) <|
  allq qX6_sequenceBytes 16 (.inl (o_iadd 17)) (s_iadd (by decide +kernel)) <|
  allq qX6_sequenceBytes 17 (.inl (a_il 1 18)) (s_iload_n (q := 1) (i := 1) rfl (by decide +kernel)) <|
  allq qX6_sequenceBytes 18 (.inl (a_ic 8 20)) (s_bipush (n := 8) (v := 8) rfl (by decide +kernel)) <|
  allq qX6_sequenceBytes 20 (.inl (o_idiv 21)) (s_idiv (by decide +kernel)) <|
  allq qX6_sequenceBytes 21 (.inl (o_iadd 22)) (s_iadd (by decide +kernel)) <|
  allq qX6_sequenceBytes 22 (.inl (a_ic 1 23)) (s_iconst (n := 1) (v := 1) rfl (by decide +kernel)) <|
  allq qX6_sequenceBytes 23 (.inl (o_iadd 24)) (s_iadd (by decide +kernel)) <|
  allq qX6_sequenceBytes 24 (.inr (.inr 1)) (Or.inr (Or.inl ⟨rfl, rfl, by decide +kernel⟩)) <|
  alln
theorem kX6_sequenceBytes : ∀ q ∈ tX6_sequenceBytes, qX6_sequenceBytes q := kX6_sequenceBytes_0
abbrev qX6_countBytes : Nat × aI → Prop := OkQ RX6 "countBytes" cX6_countBytes 1 (some .int)
set_option maxRecDepth 20000 in
theorem kX6_countBytes_0 : ∀ q ∈ tX6_countBytes_0, qX6_countBytes q :=
  allq qX6_countBytes 0 (.inl (a_al 0 1)) (s_aload_n (q := 0) (i := 0) rfl (by decide +kernel)) <|
  allq qX6_countBytes 1 (.inl (a_get 6 7 4)) (gX6 (f0 := 7) (by decide) kw_542 (by decide +kernel)) <|
  allq qX6_countBytes 4 (.inl (a_ic 128 7)) (s_sipush (n := 128) (v := 128) rfl (by decide +kernel)) <|
  allq qX6_countBytes 7 (.inl (o_icmp_ge 12 10)) (s_icmp_ge (off := 5) (by decide +kernel) (by decide)) <|
  allq qX6_countBytes 10 (.inl (a_ic 1 11)) (s_iconst (n := 1) (v := 1) rfl (by decide +kernel)) <|
  allq qX6_countBytes 11 (.inr (.inr 1)) (Or.inr (Or.inl ⟨rfl, rfl, by decide +kernel⟩)) <|
  allq qX6_countBytes 12 (.inl (a_al 0 13)) (s_aload_n (q := 0) (i := 0) rfl (by decide +kernel)) <|
  allq qX6_countBytes 13 (.inl (a_get 6 7 16)) (gX6 (f0 := 7) (by decide) kw_542 (by decide +kernel)) <|
  allq qX6_countBytes 16 (.inl (a_ic 32512 19)) (s_sipush (n := 32512) (v := 32512) rfl (by decide +kernel)) <|
  allq qX6_countBytes 19 (.inl (o_icmp_ge 26 22)) (s_icmp_ge (off := 7) (by decide +kernel) (by decide)) <|
  allq qX6_countBytes 22 (.inl (a_ic 2 23)) (s_iconst (n := 2) (v := 2) rfl (by decide +kernel)) <|
  allq qX6_countBytes 23 (.inl (a_go 27)) (s_goto (off := 4) (by decide +kernel) (by decide)) <|
  allq qX6_countBytes 26 (.inl (a_ic 3 27)) (s_iconst (n := 3) (v := 3) rfl (by decide +kernel)) <|
  allq qX6_countBytes 27 (.inr (.inr 1)) (Or.inr (Or.inl ⟨rfl, rfl, by decide +kernel⟩)) <|
  alln
theorem kX6_countBytes : ∀ q ∈ tX6_countBytes, qX6_countBytes q := kX6_countBytes_0
abbrev qX6_putCount : Nat × aI → Prop := OkQ RX6 "putCount" cX6_putCount 3 (none)
set_option maxRecDepth 20000 in
theorem kX6_putCount_0 : ∀ q ∈ tX6_putCount_0, qX6_putCount q :=
  allq qX6_putCount 0 (.inl (a_al 0 1)) (s_aload_n (q := 0) (i := 0) rfl (by decide +kernel)) <|
  allq qX6_putCount 1 (.inr (.inl (77, 1, 7))) (okV (y := yX6_countBytes) kw_1034 kw_111 rfl rfl (by decide +kernel) kw_1033 kw_32 kw_1031) <|
  allq qX6_putCount 4 (.inl (a_is 2 5)) (s_istore_n (q := 2) (i := 2) rfl (by decide +kernel) (by decide)) <|
  allq qX6_putCount 5 (.inl (a_il 2 6)) (s_iload_n (q := 2) (i := 2) rfl (by decide +kernel)) <|
  allq qX6_putCount 6 (.inl (a_ic 1 7)) (s_iconst (n := 1) (v := 1) rfl (by decide +kernel)) <|
  allq qX6_putCount 7 (.inl (o_icmp_ne 21 10)) (s_icmp_ne (off := 14) (by decide +kernel) (by decide)) <|
  allq qX6_putCount 10 (.inl (a_al 1 11)) (s_aload_n (q := 1) (i := 1) rfl (by decide +kernel)) <|
  allq qX6_putCount 11 (.inl (a_al 0 12)) (s_aload_n (q := 0) (i := 0) rfl (by decide +kernel)) <|
  allq qX6_putCount 12 (.inl (a_get 6 7 15)) (gX6 (f0 := 7) (by decide) kw_542 (by decide +kernel)) <|
  allq qX6_putCount 15 (.inr (.inl (86, 2, 8))) (okV (y := yX7_put) kw_608 kw_105 rfl rfl (by decide +kernel) kw_606 kw_607 kw_790) <|
  allq qX6_putCount 18 (.inl (a_go 73)) (s_goto (off := 55) (by decide +kernel) (by decide)) <|
  allq qX6_putCount 21 (.inl (a_il 2 22)) (s_iload_n (q := 2) (i := 2) rfl (by decide +kernel)) <|
  allq qX6_putCount 22 (.inl (a_ic 2 23)) (s_iconst (n := 2) (v := 2) rfl (by decide +kernel)) <|
  allq qX6_putCount 23 (.inl (o_icmp_ne 52 26)) (s_icmp_ne (off := 29) (by decide +kernel) (by decide)) <|
  allq qX6_putCount 26 (.inl (a_al 1 27)) (s_aload_n (q := 1) (i := 1) rfl (by decide +kernel)) <|
  allq qX6_putCount 27 (.inl (a_ic 128 30)) (s_sipush (n := 128) (v := 128) rfl (by decide +kernel)) <|
  allq qX6_putCount 30 (.inl (a_al 0 31)) (s_aload_n (q := 0) (i := 0) rfl (by decide +kernel)) <|
  allq qX6_putCount 31 (.inl (a_get 6 7 34)) (gX6 (f0 := 7) (by decide) kw_542 (by decide +kernel)) <|
  allq qX6_putCount 34 (.inl (a_ic 8 36)) (s_bipush (n := 8) (v := 8) rfl (by decide +kernel)) <|
  allq qX6_putCount 36 (.inl (o_ishr 37)) (s_ishr (by decide +kernel)) <|
  allq qX6_putCount 37 (.inl (o_iadd 38)) (s_iadd (by decide +kernel)) <|
  allq qX6_putCount 38 (.inr (.inl (86, 2, 8))) (okV (y := yX7_put) kw_608 kw_105 rfl rfl (by decide +kernel) kw_606 kw_607 kw_790) <|
  allq qX6_putCount 41 (.inl (a_al 1 42)) (s_aload_n (q := 1) (i := 1) rfl (by decide +kernel)) <|
  allq qX6_putCount 42 (.inl (a_al 0 43)) (s_aload_n (q := 0) (i := 0) rfl (by decide +kernel)) <|
  allq qX6_putCount 43 (.inl (a_get 6 7 46)) (gX6 (f0 := 7) (by decide) kw_542 (by decide +kernel)) <|
  allq qX6_putCount 46 (.inr (.inl (86, 2, 8))) (okV (y := yX7_put) kw_608 kw_105 rfl rfl (by decide +kernel) kw_606 kw_607 kw_790) <|
  allq qX6_putCount 49 (.inl (a_go 73)) (s_goto (off := 24) (by decide +kernel) (by decide)) <|
  allq qX6_putCount 52 (.inl (a_al 1 53)) (s_aload_n (q := 1) (i := 1) rfl (by decide +kernel)) <|
  allq qX6_putCount 53 (.inl (a_ic 255 56)) (s_sipush (n := 255) (v := 255) rfl (by decide +kernel)) <|
  allq qX6_putCount 56 (.inr (.inl (86, 2, 8))) (okV (y := yX7_put) kw_608 kw_105 rfl rfl (by decide +kernel) kw_606 kw_607 kw_790) <|
  allq qX6_putCount 59 (.inl (a_al 1 60)) (s_aload_n (q := 1) (i := 1) rfl (by decide +kernel)) <|
  allq qX6_putCount 60 (.inl (a_al 0 61)) (s_aload_n (q := 0) (i := 0) rfl (by decide +kernel)) <|
  allq qX6_putCount 61 (.inl (a_get 6 7 64)) (gX6 (f0 := 7) (by decide) kw_542 (by decide +kernel)) <|
  allq qX6_putCount 64 (.inl (a_ic 32512 67)) (s_sipush (n := 32512) (v := 32512) rfl (by decide +kernel)) <|
  allq qX6_putCount 67 (.inl (o_isub 68)) (s_isub (by decide +kernel)) <|
  allq qX6_putCount 68 (.inl (a_i2l 69)) (s_i2l (by decide +kernel)) <|
  allq qX6_putCount 69 (.inl (a_ic 2 70)) (s_iconst (n := 2) (v := 2) rfl (by decide +kernel)) <|
  allq qX6_putCount 70 (.inr (.inl (87, 3, 8))) (okV (y := yX7_putNumber) kw_737 kw_105 rfl rfl (by decide +kernel) kw_735 kw_736 kw_788) <|
  allq qX6_putCount 73 (.inr (.inr 0)) (Or.inl ⟨rfl, rfl, by decide +kernel⟩) <|
  alln
theorem kX6_putCount : ∀ q ∈ tX6_putCount, qX6_putCount q := kX6_putCount_0
abbrev qX6_putSequences : Nat × aI → Prop := OkQ RX6 "putSequences" cX6_putSequences 3 (none)
set_option maxRecDepth 20000 in
theorem kX6_putSequences_0 : ∀ q ∈ tX6_putSequences_0, qX6_putSequences q :=
  allq qX6_putSequences 0 (.inl (a_al 0 1)) (s_aload_n (q := 0) (i := 0) rfl (by decide +kernel)) <|
  allq qX6_putSequences 1 (.inl (a_al 1 2)) (s_aload_n (q := 1) (i := 1) rfl (by decide +kernel)) <|
  allq qX6_putSequences 2 (.inr (.inl (78, 2, 7))) (okV (y := yX6_putCount) kw_1069 kw_111 rfl rfl (by decide +kernel) kw_1068 kw_36 kw_1066) <|
  allq qX6_putSequences 5 (.inl (a_al 0 6)) (s_aload_n (q := 0) (i := 0) rfl (by decide +kernel)) <|
  allq qX6_putSequences 6 (.inl (a_get 6 7 9)) (gX6 (f0 := 7) (by decide) kw_542 (by decide +kernel)) <|
  allq qX6_putSequences 9 (.inl (o_if_ne 13 12)) (s_if_ne (off := 4) (by decide +kernel) (by decide)) <|
  allq qX6_putSequences 12 (.inr (.inr 0)) (Or.inl ⟨rfl, rfl, by decide +kernel⟩) <|
  allq qX6_putSequences 13 (.inl (a_al 1 14)) (s_aload_n (q := 1) (i := 1) rfl (by decide +kernel)) <|
  allq qX6_putSequences 14 (.inl (a_ic 64 16)) (s_bipush (n := 64) (v := 64) rfl (by decide +kernel)) <|
  allq qX6_putSequences 16 (.inl (a_al 0 17)) (s_aload_n (q := 0) (i := 0) rfl (by decide +kernel)) <|
  allq qX6_putSequences 17 (.inl (a_get 6 2 20)) (gX6 (f0 := 2) (by decide) kw_537 (by decide +kernel)) <|
  allq qX6_putSequences 20 (.inl (a_get 1 14 23)) (gX1 (f0 := 14) (by decide) kw_443 (by decide +kernel)) <|
  allq qX6_putSequences 23 (.inl (o_imul 24)) (s_imul (by decide +kernel)) <|
  allq qX6_putSequences 24 (.inl (a_ic 16 26)) (s_bipush (n := 16) (v := 16) rfl (by decide +kernel)) <|
  allq qX6_putSequences 26 (.inl (a_al 0 27)) (s_aload_n (q := 0) (i := 0) rfl (by decide +kernel)) <|
  allq qX6_putSequences 27 (.inl (a_get 6 3 30)) (gX6 (f0 := 3) (by decide) kw_538 (by decide +kernel)) <|
  allq qX6_putSequences 30 (.inl (a_get 1 14 33)) (gX1 (f0 := 14) (by decide) kw_443 (by decide +kernel)) <|
  allq qX6_putSequences 33 (.inl (o_imul 34)) (s_imul (by decide +kernel)) <|
  allq qX6_putSequences 34 (.inl (o_iadd 35)) (s_iadd (by decide +kernel)) <|
  allq qX6_putSequences 35 (.inl (a_ic 4 36)) (s_iconst (n := 4) (v := 4) rfl (by decide +kernel)) <|
  allq qX6_putSequences 36 (.inl (a_al 0 37)) (s_aload_n (q := 0) (i := 0) rfl (by decide +kernel)) <|
  allq qX6_putSequences 37 (.inl (a_get 6 4 40)) (gX6 (f0 := 4) (by decide) kw_539 (by decide +kernel)) <|
  allq qX6_putSequences 40 (.inl (a_get 1 14 43)) (gX1 (f0 := 14) (by decide) kw_443 (by decide +kernel)) <|
  allq qX6_putSequences 43 (.inl (o_imul 44)) (s_imul (by decide +kernel)) <|
  allq qX6_putSequences 44 (.inl (o_iadd 45)) (s_iadd (by decide +kernel)) <|
  allq qX6_putSequences 45 (.inr (.inl (86, 2, 8))) (okV (y := yX7_put) kw_608 kw_105 rfl rfl (by decide +kernel) kw_606 kw_607 kw_790) <|
  allq qX6_putSequences 48 (.inl (a_al 0 49)) (s_aload_n (q := 0) (i := 0) rfl (by decide +kernel)) <|
  allq qX6_putSequences 49 (.inl (a_get 6 2 52)) (gX6 (f0 := 2) (by decide) kw_537 (by decide +kernel)) <|
  allq qX6_putSequences 52 (.inl (a_al 1 53)) (s_aload_n (q := 1) (i := 1) rfl (by decide +kernel)) <|
  allq qX6_putSequences 53 (.inr (.inl (16, 2, 2))) (okV (y := yX1_putTable) kw_1073 kw_115 rfl rfl (by decide +kernel) kw_1071 kw_1072 kw_1070) <|
  allq qX6_putSequences 56 (.inl (a_al 0 57)) (s_aload_n (q := 0) (i := 0) rfl (by decide +kernel)) <|
  allq qX6_putSequences 57 (.inl (a_get 6 3 60)) (gX6 (f0 := 3) (by decide) kw_538 (by decide +kernel)) <|
  allq qX6_putSequences 60 (.inl (a_al 1 61)) (s_aload_n (q := 1) (i := 1) rfl (by decide +kernel)) <|
  allq qX6_putSequences 61 (.inr (.inl (16, 2, 2))) (okV (y := yX1_putTable) kw_1073 kw_115 rfl rfl (by decide +kernel) kw_1071 kw_1072 kw_1070) <|
  allq qX6_putSequences 64 (.inl (a_al 0 65)) (s_aload_n (q := 0) (i := 0) rfl (by decide +kernel)) <|
  allq qX6_putSequences 65 (.inl (a_get 6 4 68)) (gX6 (f0 := 4) (by decide) kw_539 (by decide +kernel)) <|
  allq qX6_putSequences 68 (.inl (a_al 1 69)) (s_aload_n (q := 1) (i := 1) rfl (by decide +kernel)) <|
  allq qX6_putSequences 69 (.inr (.inl (16, 2, 2))) (okV (y := yX1_putTable) kw_1073 kw_115 rfl rfl (by decide +kernel) kw_1071 kw_1072 kw_1070) <|
  allq qX6_putSequences 72 (.inl (a_al 0 73)) (s_aload_n (q := 0) (i := 0) rfl (by decide +kernel)) <|
  allq qX6_putSequences 73 (.inl (a_get 6 2 76)) (gX6 (f0 := 2) (by decide) kw_537 (by decide +kernel)) <|
  alln
set_option maxRecDepth 20000 in
theorem kX6_putSequences_1 : ∀ q ∈ tX6_putSequences_1, qX6_putSequences q :=
  allq qX6_putSequences 76 (.inr (.inl (18, 1, 2))) (okV (y := yX1_beginStates) kw_1079 kw_115 rfl rfl (by decide +kernel) kw_1077 kw_1078 kw_1076) <|
  allq qX6_putSequences 79 (.inl (a_al 0 80)) (s_aload_n (q := 0) (i := 0) rfl (by decide +kernel)) <|
  allq qX6_putSequences 80 (.inl (a_get 6 3 83)) (gX6 (f0 := 3) (by decide) kw_538 (by decide +kernel)) <|
  allq qX6_putSequences 83 (.inr (.inl (18, 1, 2))) (okV (y := yX1_beginStates) kw_1079 kw_115 rfl rfl (by decide +kernel) kw_1077 kw_1078 kw_1076) <|
  allq qX6_putSequences 86 (.inl (a_al 0 87)) (s_aload_n (q := 0) (i := 0) rfl (by decide +kernel)) <|
  allq qX6_putSequences 87 (.inl (a_get 6 4 90)) (gX6 (f0 := 4) (by decide) kw_539 (by decide +kernel)) <|
  allq qX6_putSequences 90 (.inr (.inl (18, 1, 2))) (okV (y := yX1_beginStates) kw_1079 kw_115 rfl rfl (by decide +kernel) kw_1077 kw_1078 kw_1076) <|
  allq qX6_putSequences 93 (.inl (a_al 0 94)) (s_aload_n (q := 0) (i := 0) rfl (by decide +kernel)) <|
  allq qX6_putSequences 94 (.inl (a_al 1 95)) (s_aload_n (q := 1) (i := 1) rfl (by decide +kernel)) <|
  allq qX6_putSequences 95 (.inl (a_al 0 96)) (s_aload_n (q := 0) (i := 0) rfl (by decide +kernel)) <|
  allq qX6_putSequences 96 (.inl (a_get 6 7 99)) (gX6 (f0 := 7) (by decide) kw_542 (by decide +kernel)) <|
  allq qX6_putSequences 99 (.inl (a_ic 1 100)) (s_iconst (n := 1) (v := 1) rfl (by decide +kernel)) <|
  allq qX6_putSequences 100 (.inl (o_isub 101)) (s_isub (by decide +kernel)) <|
  allq qX6_putSequences 101 (.inr (.inl (80, 3, 7))) (okV (y := yX6_putAdditional) kw_1084 kw_111 rfl rfl (by decide +kernel) kw_1083 kw_37 kw_1081) <|
  allq qX6_putSequences 104 (.inl (a_al 0 105)) (s_aload_n (q := 0) (i := 0) rfl (by decide +kernel)) <|
  allq qX6_putSequences 105 (.inl (a_get 6 7 108)) (gX6 (f0 := 7) (by decide) kw_542 (by decide +kernel)) <|
  allq qX6_putSequences 108 (.inl (a_ic 2 109)) (s_iconst (n := 2) (v := 2) rfl (by decide +kernel)) <|
  allq qX6_putSequences 109 (.inl (o_isub 110)) (s_isub (by decide +kernel)) <|
  allq qX6_putSequences 110 (.inl (a_is 2 111)) (s_istore_n (q := 2) (i := 2) rfl (by decide +kernel) (by decide)) <|
  allq qX6_putSequences 111 (.inl (a_il 2 112)) (s_iload_n (q := 2) (i := 2) rfl (by decide +kernel)) <|
  allq qX6_putSequences 112 (.inl (o_if_lt 154 115)) (s_if_lt (off := 42) (by decide +kernel) (by decide)) <|
  allq qX6_putSequences 115 (.inl (a_al 0 116)) (s_aload_n (q := 0) (i := 0) rfl (by decide +kernel)) <|
  allq qX6_putSequences 116 (.inl (a_get 6 3 119)) (gX6 (f0 := 3) (by decide) kw_538 (by decide +kernel)) <|
  allq qX6_putSequences 119 (.inl (a_al 1 120)) (s_aload_n (q := 1) (i := 1) rfl (by decide +kernel)) <|
  allq qX6_putSequences 120 (.inl (a_il 2 121)) (s_iload_n (q := 2) (i := 2) rfl (by decide +kernel)) <|
  allq qX6_putSequences 121 (.inr (.inl (19, 3, 2))) (okV (y := yX1_putState) kw_1093 kw_115 rfl rfl (by decide +kernel) kw_1091 kw_1092 kw_1090) <|
  allq qX6_putSequences 124 (.inl (a_al 0 125)) (s_aload_n (q := 0) (i := 0) rfl (by decide +kernel)) <|
  allq qX6_putSequences 125 (.inl (a_get 6 4 128)) (gX6 (f0 := 4) (by decide) kw_539 (by decide +kernel)) <|
  allq qX6_putSequences 128 (.inl (a_al 1 129)) (s_aload_n (q := 1) (i := 1) rfl (by decide +kernel)) <|
  allq qX6_putSequences 129 (.inl (a_il 2 130)) (s_iload_n (q := 2) (i := 2) rfl (by decide +kernel)) <|
  allq qX6_putSequences 130 (.inr (.inl (19, 3, 2))) (okV (y := yX1_putState) kw_1093 kw_115 rfl rfl (by decide +kernel) kw_1091 kw_1092 kw_1090) <|
  allq qX6_putSequences 133 (.inl (a_al 0 134)) (s_aload_n (q := 0) (i := 0) rfl (by decide +kernel)) <|
  allq qX6_putSequences 134 (.inl (a_get 6 2 137)) (gX6 (f0 := 2) (by decide) kw_537 (by decide +kernel)) <|
  allq qX6_putSequences 137 (.inl (a_al 1 138)) (s_aload_n (q := 1) (i := 1) rfl (by decide +kernel)) <|
  allq qX6_putSequences 138 (.inl (a_il 2 139)) (s_iload_n (q := 2) (i := 2) rfl (by decide +kernel)) <|
  allq qX6_putSequences 139 (.inr (.inl (19, 3, 2))) (okV (y := yX1_putState) kw_1093 kw_115 rfl rfl (by decide +kernel) kw_1091 kw_1092 kw_1090) <|
  allq qX6_putSequences 142 (.inl (a_al 0 143)) (s_aload_n (q := 0) (i := 0) rfl (by decide +kernel)) <|
  allq qX6_putSequences 143 (.inl (a_al 1 144)) (s_aload_n (q := 1) (i := 1) rfl (by decide +kernel)) <|
  allq qX6_putSequences 144 (.inl (a_il 2 145)) (s_iload_n (q := 2) (i := 2) rfl (by decide +kernel)) <|
  allq qX6_putSequences 145 (.inr (.inl (80, 3, 7))) (okV (y := yX6_putAdditional) kw_1084 kw_111 rfl rfl (by decide +kernel) kw_1083 kw_37 kw_1081) <|
  alln
set_option maxRecDepth 20000 in
theorem kX6_putSequences_2 : ∀ q ∈ tX6_putSequences_2, qX6_putSequences q :=
  allq qX6_putSequences 148 (.inl (a_inc 2 (-1) 151)) (s_iinc (i := 2) (n := (-1)) (n2 := (-1)) rfl (by decide +kernel) (by decide)) <|
  allq qX6_putSequences 151 (.inl (a_go 111)) (s_goto (off := (-40)) (by decide +kernel) (by decide)) <|
  allq qX6_putSequences 154 (.inl (a_al 0 155)) (s_aload_n (q := 0) (i := 0) rfl (by decide +kernel)) <|
  allq qX6_putSequences 155 (.inl (a_get 6 4 158)) (gX6 (f0 := 4) (by decide) kw_539 (by decide +kernel)) <|
  allq qX6_putSequences 158 (.inl (a_al 1 159)) (s_aload_n (q := 1) (i := 1) rfl (by decide +kernel)) <|
  allq qX6_putSequences 159 (.inr (.inl (21, 2, 2))) (okV (y := yX1_endStates) kw_1099 kw_115 rfl rfl (by decide +kernel) kw_1097 kw_1098 kw_1096) <|
  allq qX6_putSequences 162 (.inl (a_al 0 163)) (s_aload_n (q := 0) (i := 0) rfl (by decide +kernel)) <|
  allq qX6_putSequences 163 (.inl (a_get 6 3 166)) (gX6 (f0 := 3) (by decide) kw_538 (by decide +kernel)) <|
  allq qX6_putSequences 166 (.inl (a_al 1 167)) (s_aload_n (q := 1) (i := 1) rfl (by decide +kernel)) <|
  allq qX6_putSequences 167 (.inr (.inl (21, 2, 2))) (okV (y := yX1_endStates) kw_1099 kw_115 rfl rfl (by decide +kernel) kw_1097 kw_1098 kw_1096) <|
  allq qX6_putSequences 170 (.inl (a_al 0 171)) (s_aload_n (q := 0) (i := 0) rfl (by decide +kernel)) <|
  allq qX6_putSequences 171 (.inl (a_get 6 2 174)) (gX6 (f0 := 2) (by decide) kw_537 (by decide +kernel)) <|
  allq qX6_putSequences 174 (.inl (a_al 1 175)) (s_aload_n (q := 1) (i := 1) rfl (by decide +kernel)) <|
  allq qX6_putSequences 175 (.inr (.inl (21, 2, 2))) (okV (y := yX1_endStates) kw_1099 kw_115 rfl rfl (by decide +kernel) kw_1097 kw_1098 kw_1096) <|
  allq qX6_putSequences 178 (.inl (a_al 1 179)) (s_aload_n (q := 1) (i := 1) rfl (by decide +kernel)) <|
  allq qX6_putSequences 179 (.inr (.inl (92, 1, 8))) (okV (y := yX7_endStream) kw_951 kw_105 rfl rfl (by decide +kernel) kw_949 kw_950 kw_1100) <|
  allq qX6_putSequences 182 (.inr (.inr 0)) (Or.inl ⟨rfl, rfl, by decide +kernel⟩) <|
  alln
theorem kX6_putSequences : ∀ q ∈ tX6_putSequences, qX6_putSequences q := alla kX6_putSequences_0 (alla kX6_putSequences_1 kX6_putSequences_2)
abbrev qX6_putAdditional : Nat × aI → Prop := OkQ RX6 "putAdditional" cX6_putAdditional 3 (none)
set_option maxRecDepth 20000 in
theorem kX6_putAdditional_0 : ∀ q ∈ tX6_putAdditional_0, qX6_putAdditional q :=
  allq qX6_putAdditional 0 (.inl (a_al 0 1)) (s_aload_n (q := 0) (i := 0) rfl (by decide +kernel)) <|
  allq qX6_putAdditional 1 (.inl (a_get 6 2 4)) (gX6 (f0 := 2) (by decide) kw_537 (by decide +kernel)) <|
  allq qX6_putAdditional 4 (.inl (a_al 1 5)) (s_aload_n (q := 1) (i := 1) rfl (by decide +kernel)) <|
  allq qX6_putAdditional 5 (.inl (a_il 2 6)) (s_iload_n (q := 2) (i := 2) rfl (by decide +kernel)) <|
  allq qX6_putAdditional 6 (.inr (.inl (20, 3, 2))) (okV (y := yX1_putAdditional) kw_1088 kw_115 rfl rfl (by decide +kernel) kw_1086 kw_1087 kw_1085) <|
  allq qX6_putAdditional 9 (.inl (a_al 0 10)) (s_aload_n (q := 0) (i := 0) rfl (by decide +kernel)) <|
  allq qX6_putAdditional 10 (.inl (a_get 6 4 13)) (gX6 (f0 := 4) (by decide) kw_539 (by decide +kernel)) <|
  allq qX6_putAdditional 13 (.inl (a_al 1 14)) (s_aload_n (q := 1) (i := 1) rfl (by decide +kernel)) <|
  allq qX6_putAdditional 14 (.inl (a_il 2 15)) (s_iload_n (q := 2) (i := 2) rfl (by decide +kernel)) <|
  allq qX6_putAdditional 15 (.inr (.inl (20, 3, 2))) (okV (y := yX1_putAdditional) kw_1088 kw_115 rfl rfl (by decide +kernel) kw_1086 kw_1087 kw_1085) <|
  allq qX6_putAdditional 18 (.inl (a_al 0 19)) (s_aload_n (q := 0) (i := 0) rfl (by decide +kernel)) <|
  allq qX6_putAdditional 19 (.inl (a_get 6 3 22)) (gX6 (f0 := 3) (by decide) kw_538 (by decide +kernel)) <|
  allq qX6_putAdditional 22 (.inl (a_al 1 23)) (s_aload_n (q := 1) (i := 1) rfl (by decide +kernel)) <|
  allq qX6_putAdditional 23 (.inl (a_il 2 24)) (s_iload_n (q := 2) (i := 2) rfl (by decide +kernel)) <|
  allq qX6_putAdditional 24 (.inr (.inl (20, 3, 2))) (okV (y := yX1_putAdditional) kw_1088 kw_115 rfl rfl (by decide +kernel) kw_1086 kw_1087 kw_1085) <|
  allq qX6_putAdditional 27 (.inr (.inr 0)) (Or.inl ⟨rfl, rfl, by decide +kernel⟩) <|
  alln
theorem kX6_putAdditional : ∀ q ∈ tX6_putAdditional, qX6_putAdditional q := kX6_putAdditional_0
abbrev qX6_keep : Nat × aI → Prop := OkQ RX6 "keep" cX6_keep 1 (none)
set_option maxRecDepth 20000 in
theorem kX6_keep_0 : ∀ q ∈ tX6_keep_0, qX6_keep q :=
  allq qX6_keep 0 (.inl (a_al 0 1)) (s_aload_n (q := 0) (i := 0) rfl (by decide +kernel)) <|
  allq qX6_keep 1 (.inl (a_get 6 6 4)) (gX6 (f0 := 6) (by decide) kw_541 (by decide +kernel)) <|
  allq qX6_keep 4 (.inl (a_ic 0 5)) (s_iconst (n := 0) (v := 0) rfl (by decide +kernel)) <|
  allq qX6_keep 5 (.inl (a_al 0 6)) (s_aload_n (q := 0) (i := 0) rfl (by decide +kernel)) <|
  allq qX6_keep 6 (.inl (a_get 6 5 9)) (gX6 (f0 := 5) (by decide) kw_540 (by decide +kernel)) <|
  allq qX6_keep 9 (.inl (a_ic 0 10)) (s_iconst (n := 0) (v := 0) rfl (by decide +kernel)) <|
  allq qX6_keep 10 (.inl (a_al 0 11)) (s_aload_n (q := 0) (i := 0) rfl (by decide +kernel)) <|
  allq qX6_keep 11 (.inl (a_get 6 5 14)) (gX6 (f0 := 5) (by decide) kw_540 (by decide +kernel)) <|
  allq qX6_keep 14 (.inl (a_len 15)) (s_len (by decide +kernel)) <|
  allq qX6_keep 15 (.inl (a_copy 1 18)) (cp1 kw_760 kw_502 kw_501 kw_117 (by decide +kernel)) <|
  allq qX6_keep 18 (.inl (a_al 0 19)) (s_aload_n (q := 0) (i := 0) rfl (by decide +kernel)) <|
  allq qX6_keep 19 (.inl (a_get 6 1 22)) (gX6 (f0 := 1) (by decide) kw_535 (by decide +kernel)) <|
  allq qX6_keep 22 (.inr (.inl (67, 1, 6))) (okV (y := yX5_keep) kw_1108 kw_113 rfl rfl (by decide +kernel) kw_1106 kw_1107 kw_1105) <|
  allq qX6_keep 25 (.inl (a_al 0 26)) (s_aload_n (q := 0) (i := 0) rfl (by decide +kernel)) <|
  allq qX6_keep 26 (.inl (a_get 6 8 29)) (gX6 (f0 := 8) (by decide) kw_543 (by decide +kernel)) <|
  allq qX6_keep 29 (.inl (a_ic 2 30)) (s_iconst (n := 2) (v := 2) rfl (by decide +kernel)) <|
  allq qX6_keep 30 (.inl (a_dup2 31)) (s_dup2 (by decide +kernel)) <|
  allq qX6_keep 31 (.inl (a_iald 32)) (s_iald (by decide +kernel)) <|
  allq qX6_keep 32 (.inl (a_ic 1 33)) (s_iconst (n := 1) (v := 1) rfl (by decide +kernel)) <|
  allq qX6_keep 33 (.inl (o_iadd 34)) (s_iadd (by decide +kernel)) <|
  allq qX6_keep 34 (.inl (a_iast 35)) (s_iast (by decide +kernel)) <|
  allq qX6_keep 35 (.inl (a_al 0 36)) (s_aload_n (q := 0) (i := 0) rfl (by decide +kernel)) <|
  allq qX6_keep 36 (.inl (a_get 6 8 39)) (gX6 (f0 := 8) (by decide) kw_543 (by decide +kernel)) <|
  allq qX6_keep 39 (.inl (a_ic 3 40)) (s_iconst (n := 3) (v := 3) rfl (by decide +kernel)) <|
  allq qX6_keep 40 (.inl (a_dup2 41)) (s_dup2 (by decide +kernel)) <|
  allq qX6_keep 41 (.inl (a_iald 42)) (s_iald (by decide +kernel)) <|
  allq qX6_keep 42 (.inl (a_al 0 43)) (s_aload_n (q := 0) (i := 0) rfl (by decide +kernel)) <|
  allq qX6_keep 43 (.inl (a_get 6 7 46)) (gX6 (f0 := 7) (by decide) kw_542 (by decide +kernel)) <|
  allq qX6_keep 46 (.inl (o_iadd 47)) (s_iadd (by decide +kernel)) <|
  allq qX6_keep 47 (.inl (a_iast 48)) (s_iast (by decide +kernel)) <|
  allq qX6_keep 48 (.inl (a_al 0 49)) (s_aload_n (q := 0) (i := 0) rfl (by decide +kernel)) <|
  allq qX6_keep 49 (.inl (a_get 6 8 52)) (gX6 (f0 := 8) (by decide) kw_543 (by decide +kernel)) <|
  allq qX6_keep 52 (.inl (a_ic 4 53)) (s_iconst (n := 4) (v := 4) rfl (by decide +kernel)) <|
  allq qX6_keep 53 (.inl (a_al 0 54)) (s_aload_n (q := 0) (i := 0) rfl (by decide +kernel)) <|
  allq qX6_keep 54 (.inl (a_get 6 1 57)) (gX6 (f0 := 1) (by decide) kw_535 (by decide +kernel)) <|
  allq qX6_keep 57 (.inl (a_get 5 8 60)) (gX5 (f0 := 8) (by decide) kw_384 (by decide +kernel)) <|
  allq qX6_keep 60 (.inl (o_iadd 61)) (s_iadd (by decide +kernel)) <|
  allq qX6_keep 61 (.inl (a_dup2 62)) (s_dup2 (by decide +kernel)) <|
  allq qX6_keep 62 (.inl (a_iald 63)) (s_iald (by decide +kernel)) <|
  allq qX6_keep 63 (.inl (a_ic 1 64)) (s_iconst (n := 1) (v := 1) rfl (by decide +kernel)) <|
  alln
set_option maxRecDepth 20000 in
theorem kX6_keep_1 : ∀ q ∈ tX6_keep_1, qX6_keep q :=
  allq qX6_keep 64 (.inl (o_iadd 65)) (s_iadd (by decide +kernel)) <|
  allq qX6_keep 65 (.inl (a_iast 66)) (s_iast (by decide +kernel)) <|
  allq qX6_keep 66 (.inl (a_al 0 67)) (s_aload_n (q := 0) (i := 0) rfl (by decide +kernel)) <|
  allq qX6_keep 67 (.inl (a_get 6 7 70)) (gX6 (f0 := 7) (by decide) kw_542 (by decide +kernel)) <|
  allq qX6_keep 70 (.inl (o_if_le 97 73)) (s_if_le (off := 27) (by decide +kernel) (by decide)) <|
  allq qX6_keep 73 (.inl (a_al 0 74)) (s_aload_n (q := 0) (i := 0) rfl (by decide +kernel)) <|
  allq qX6_keep 74 (.inl (a_al 0 75)) (s_aload_n (q := 0) (i := 0) rfl (by decide +kernel)) <|
  allq qX6_keep 75 (.inl (a_get 6 2 78)) (gX6 (f0 := 2) (by decide) kw_537 (by decide +kernel)) <|
  allq qX6_keep 78 (.inr (.inl (82, 2, 7))) (okV (y := yX6_keepTable) kw_1112 kw_111 rfl rfl (by decide +kernel) kw_1111 kw_39 kw_1109) <|
  allq qX6_keep 81 (.inl (a_al 0 82)) (s_aload_n (q := 0) (i := 0) rfl (by decide +kernel)) <|
  allq qX6_keep 82 (.inl (a_al 0 83)) (s_aload_n (q := 0) (i := 0) rfl (by decide +kernel)) <|
  allq qX6_keep 83 (.inl (a_get 6 3 86)) (gX6 (f0 := 3) (by decide) kw_538 (by decide +kernel)) <|
  allq qX6_keep 86 (.inr (.inl (82, 2, 7))) (okV (y := yX6_keepTable) kw_1112 kw_111 rfl rfl (by decide +kernel) kw_1111 kw_39 kw_1109) <|
  allq qX6_keep 89 (.inl (a_al 0 90)) (s_aload_n (q := 0) (i := 0) rfl (by decide +kernel)) <|
  allq qX6_keep 90 (.inl (a_al 0 91)) (s_aload_n (q := 0) (i := 0) rfl (by decide +kernel)) <|
  allq qX6_keep 91 (.inl (a_get 6 4 94)) (gX6 (f0 := 4) (by decide) kw_539 (by decide +kernel)) <|
  allq qX6_keep 94 (.inr (.inl (82, 2, 7))) (okV (y := yX6_keepTable) kw_1112 kw_111 rfl rfl (by decide +kernel) kw_1111 kw_39 kw_1109) <|
  allq qX6_keep 97 (.inr (.inr 0)) (Or.inl ⟨rfl, rfl, by decide +kernel⟩) <|
  alln
theorem kX6_keep : ∀ q ∈ tX6_keep, qX6_keep q := alla kX6_keep_0 kX6_keep_1
abbrev qX6_keepTable : Nat × aI → Prop := OkQ RX6 "keepTable" cX6_keepTable 2 (none)
set_option maxRecDepth 20000 in
theorem kX6_keepTable_0 : ∀ q ∈ tX6_keepTable_0, qX6_keepTable q :=
  allq qX6_keepTable 0 (.inl (a_al 1 1)) (s_aload_n (q := 1) (i := 1) rfl (by decide +kernel)) <|
  allq qX6_keepTable 1 (.inr (.inl (22, 1, 2))) (okV (y := yX1_keep) kw_1116 kw_115 rfl rfl (by decide +kernel) kw_1114 kw_1115 kw_1113) <|
  allq qX6_keepTable 4 (.inl (a_al 0 5)) (s_aload_n (q := 0) (i := 0) rfl (by decide +kernel)) <|
  allq qX6_keepTable 5 (.inl (a_get 6 8 8)) (gX6 (f0 := 8) (by decide) kw_543 (by decide +kernel)) <|
  allq qX6_keepTable 8 (.inl (a_ic 8 10)) (s_bipush (n := 8) (v := 8) rfl (by decide +kernel)) <|
  allq qX6_keepTable 10 (.inl (a_al 1 11)) (s_aload_n (q := 1) (i := 1) rfl (by decide +kernel)) <|
  allq qX6_keepTable 11 (.inl (a_get 1 14 14)) (gX1 (f0 := 14) (by decide) kw_443 (by decide +kernel)) <|
  allq qX6_keepTable 14 (.inl (o_iadd 15)) (s_iadd (by decide +kernel)) <|
  allq qX6_keepTable 15 (.inl (a_dup2 16)) (s_dup2 (by decide +kernel)) <|
  allq qX6_keepTable 16 (.inl (a_iald 17)) (s_iald (by decide +kernel)) <|
  allq qX6_keepTable 17 (.inl (a_ic 1 18)) (s_iconst (n := 1) (v := 1) rfl (by decide +kernel)) <|
  allq qX6_keepTable 18 (.inl (o_iadd 19)) (s_iadd (by decide +kernel)) <|
  allq qX6_keepTable 19 (.inl (a_iast 20)) (s_iast (by decide +kernel)) <|
  allq qX6_keepTable 20 (.inr (.inr 0)) (Or.inl ⟨rfl, rfl, by decide +kernel⟩) <|
  alln
theorem kX6_keepTable : ∀ q ∈ tX6_keepTable, qX6_keepTable q := kX6_keepTable_0
abbrev qX6_putForms : Nat × aI → Prop := OkQ RX6 "putForms" cX6_putForms 2 (none)
set_option maxRecDepth 20000 in
theorem kX6_putForms_0 : ∀ q ∈ tX6_putForms_0, qX6_putForms q :=
  allq qX6_putForms 0 (.inl (a_al 0 1)) (s_aload_n (q := 0) (i := 0) rfl (by decide +kernel)) <|
  allq qX6_putForms 1 (.inl (a_get 6 1 4)) (gX6 (f0 := 1) (by decide) kw_535 (by decide +kernel)) <|
  allq qX6_putForms 4 (.inl (a_al 1 5)) (s_aload_n (q := 1) (i := 1) rfl (by decide +kernel)) <|
  allq qX6_putForms 5 (.inr (.inl (65, 2, 6))) (okV (y := yX5_putDescription) kw_1050 kw_113 rfl rfl (by decide +kernel) kw_1048 kw_1049 kw_1162) <|
  allq qX6_putForms 8 (.inl (a_al 0 9)) (s_aload_n (q := 0) (i := 0) rfl (by decide +kernel)) <|
  allq qX6_putForms 9 (.inl (a_get 6 3 12)) (gX6 (f0 := 3) (by decide) kw_538 (by decide +kernel)) <|
  allq qX6_putForms 12 (.inl (a_al 1 13)) (s_aload_n (q := 1) (i := 1) rfl (by decide +kernel)) <|
  allq qX6_putForms 13 (.inr (.inl (17, 2, 2))) (okV (y := yX1_putShare) kw_1166 kw_115 rfl rfl (by decide +kernel) kw_1164 kw_1165 kw_1163) <|
  allq qX6_putForms 16 (.inl (a_al 0 17)) (s_aload_n (q := 0) (i := 0) rfl (by decide +kernel)) <|
  allq qX6_putForms 17 (.inl (a_get 6 4 20)) (gX6 (f0 := 4) (by decide) kw_539 (by decide +kernel)) <|
  allq qX6_putForms 20 (.inl (a_al 1 21)) (s_aload_n (q := 1) (i := 1) rfl (by decide +kernel)) <|
  allq qX6_putForms 21 (.inr (.inl (17, 2, 2))) (okV (y := yX1_putShare) kw_1166 kw_115 rfl rfl (by decide +kernel) kw_1164 kw_1165 kw_1163) <|
  allq qX6_putForms 24 (.inl (a_al 0 25)) (s_aload_n (q := 0) (i := 0) rfl (by decide +kernel)) <|
  allq qX6_putForms 25 (.inl (a_get 6 2 28)) (gX6 (f0 := 2) (by decide) kw_537 (by decide +kernel)) <|
  allq qX6_putForms 28 (.inl (a_al 1 29)) (s_aload_n (q := 1) (i := 1) rfl (by decide +kernel)) <|
  allq qX6_putForms 29 (.inr (.inl (17, 2, 2))) (okV (y := yX1_putShare) kw_1166 kw_115 rfl rfl (by decide +kernel) kw_1164 kw_1165 kw_1163) <|
  allq qX6_putForms 32 (.inr (.inr 0)) (Or.inl ⟨rfl, rfl, by decide +kernel⟩) <|
  alln
theorem kX6_putForms : ∀ q ∈ tX6_putForms, qX6_putForms q := kX6_putForms_0
abbrev qX7_init : Nat × aI → Prop := OkQ RX7 "<init>" cX7_init 2 (none)
set_option maxRecDepth 20000 in
theorem kX7_init_0 : ∀ q ∈ tX7_init_0, qX7_init q :=
  allq qX7_init 0 (.inl (a_al 0 1)) (s_aload_n (q := 0) (i := 0) rfl (by decide +kernel)) <|
  allq qX7_init 1 (.inl (a_oi 4)) (s_oi kw_133 kw_126 kw_127 (by decide +kernel)) <|
  allq qX7_init 4 (.inl (a_al 0 5)) (s_aload_n (q := 0) (i := 0) rfl (by decide +kernel)) <|
  allq qX7_init 5 (.inl (a_il 1 6)) (s_iload_n (q := 1) (i := 1) rfl (by decide +kernel)) <|
  allq qX7_init 6 (.inl (a_ic 0 7)) (s_iconst (n := 0) (v := 0) rfl (by decide +kernel)) <|
  allq qX7_init 7 (.inl (o_mmax 10)) (s_mmax kw_134 kw_135 kw_106 kw_136 (by decide +kernel)) <|
  allq qX7_init 10 (.inl (a_newa 0 12)) (na_byte kw_162 (by decide +kernel)) <|
  allq qX7_init 12 (.inl (a_put 7 0 (.array .byte) 15)) (fX7 (f0 := 0) (by decide) rfl rfl rfl tOk kw_137 (by decide +kernel)) <|
  allq qX7_init 15 (.inr (.inr 0)) (Or.inl ⟨rfl, rfl, by decide +kernel⟩) <|
  alln
theorem kX7_init : ∀ q ∈ tX7_init, qX7_init q := kX7_init_0
abbrev qX7_drop : Nat × aI → Prop := OkQ RX7 "drop" cX7_drop 1 (none)
set_option maxRecDepth 20000 in
theorem kX7_drop_0 : ∀ q ∈ tX7_drop_0, qX7_drop q :=
  allq qX7_drop 0 (.inl (a_al 0 1)) (s_aload_n (q := 0) (i := 0) rfl (by decide +kernel)) <|
  allq qX7_drop 1 (.inl (a_ic 0 2)) (s_iconst (n := 0) (v := 0) rfl (by decide +kernel)) <|
  allq qX7_drop 2 (.inl (a_put 7 1 .int 5)) (pX7 (f0 := 1) (by decide) rfl rfl tOk kw_140 (by decide +kernel)) <|
  allq qX7_drop 5 (.inl (a_al 0 6)) (s_aload_n (q := 0) (i := 0) rfl (by decide +kernel)) <|
  allq qX7_drop 6 (.inl (a_ic 0 7)) (s_iconst (n := 0) (v := 0) rfl (by decide +kernel)) <|
  allq qX7_drop 7 (.inl (a_put 7 2 .boolean 10)) (pX7 (f0 := 2) (by decide) rfl rfl tOk kw_147 (by decide +kernel)) <|
  allq qX7_drop 10 (.inl (a_al 0 11)) (s_aload_n (q := 0) (i := 0) rfl (by decide +kernel)) <|
  allq qX7_drop 11 (.inl (a_lc 0 12)) (s_lconst (n := 0) rfl (by decide +kernel)) <|
  allq qX7_drop 12 (.inl (a_put 7 3 .long 15)) (pX7 (f0 := 3) (by decide) rfl rfl tOk kw_149 (by decide +kernel)) <|
  allq qX7_drop 15 (.inl (a_al 0 16)) (s_aload_n (q := 0) (i := 0) rfl (by decide +kernel)) <|
  allq qX7_drop 16 (.inl (a_ic 0 17)) (s_iconst (n := 0) (v := 0) rfl (by decide +kernel)) <|
  allq qX7_drop 17 (.inl (a_put 7 4 .int 20)) (pX7 (f0 := 4) (by decide) rfl rfl tOk kw_150 (by decide +kernel)) <|
  allq qX7_drop 20 (.inr (.inr 0)) (Or.inl ⟨rfl, rfl, by decide +kernel⟩) <|
  alln
theorem kX7_drop : ∀ q ∈ tX7_drop, qX7_drop q := kX7_drop_0
abbrev qX7_put : Nat × aI → Prop := OkQ RX7 "put" cX7_put 2 (none)
set_option maxRecDepth 20000 in
theorem kX7_put_0 : ∀ q ∈ tX7_put_0, qX7_put q :=
  allq qX7_put 0 (.inl (a_al 0 1)) (s_aload_n (q := 0) (i := 0) rfl (by decide +kernel)) <|
  allq qX7_put 1 (.inl (a_get 7 1 4)) (gX7 (f0 := 1) (by decide) kw_140 (by decide +kernel)) <|
  allq qX7_put 4 (.inl (a_al 0 5)) (s_aload_n (q := 0) (i := 0) rfl (by decide +kernel)) <|
  allq qX7_put 5 (.inl (a_get 7 0 8)) (gX7 (f0 := 0) (by decide) kw_137 (by decide +kernel)) <|
  allq qX7_put 8 (.inl (a_len 9)) (s_len (by decide +kernel)) <|
  allq qX7_put 9 (.inl (o_icmp_ge 36 12)) (s_icmp_ge (off := 27) (by decide +kernel) (by decide)) <|
  allq qX7_put 12 (.inl (a_al 0 13)) (s_aload_n (q := 0) (i := 0) rfl (by decide +kernel)) <|
  allq qX7_put 13 (.inl (a_get 7 0 16)) (gX7 (f0 := 0) (by decide) kw_137 (by decide +kernel)) <|
  allq qX7_put 16 (.inl (a_al 0 17)) (s_aload_n (q := 0) (i := 0) rfl (by decide +kernel)) <|
  allq qX7_put 17 (.inl (a_get 7 1 20)) (gX7 (f0 := 1) (by decide) kw_140 (by decide +kernel)) <|
  allq qX7_put 20 (.inl (a_il 1 21)) (s_iload_n (q := 1) (i := 1) rfl (by decide +kernel)) <|
  allq qX7_put 21 (.inl (o_i2b 22)) (s_i2b (by decide +kernel)) <|
  allq qX7_put 22 (.inl (a_bast 23)) (s_bast (by decide +kernel)) <|
  allq qX7_put 23 (.inl (a_al 0 24)) (s_aload_n (q := 0) (i := 0) rfl (by decide +kernel)) <|
  allq qX7_put 24 (.inl (a_dup 25)) (s_dup (by decide +kernel)) <|
  allq qX7_put 25 (.inl (a_get 7 1 28)) (gX7 (f0 := 1) (by decide) kw_140 (by decide +kernel)) <|
  allq qX7_put 28 (.inl (a_ic 1 29)) (s_iconst (n := 1) (v := 1) rfl (by decide +kernel)) <|
  allq qX7_put 29 (.inl (o_iadd 30)) (s_iadd (by decide +kernel)) <|
  allq qX7_put 30 (.inl (a_put 7 1 .int 33)) (pX7 (f0 := 1) (by decide) rfl rfl tOk kw_140 (by decide +kernel)) <|
  allq qX7_put 33 (.inl (a_go 41)) (s_goto (off := 8) (by decide +kernel) (by decide)) <|
  allq qX7_put 36 (.inl (a_al 0 37)) (s_aload_n (q := 0) (i := 0) rfl (by decide +kernel)) <|
  allq qX7_put 37 (.inl (a_ic 1 38)) (s_iconst (n := 1) (v := 1) rfl (by decide +kernel)) <|
  allq qX7_put 38 (.inl (a_put 7 2 .boolean 41)) (pX7 (f0 := 2) (by decide) rfl rfl tOk kw_147 (by decide +kernel)) <|
  allq qX7_put 41 (.inr (.inr 0)) (Or.inl ⟨rfl, rfl, by decide +kernel⟩) <|
  alln
theorem kX7_put : ∀ q ∈ tX7_put, qX7_put q := kX7_put_0
abbrev qX7_putNumber : Nat × aI → Prop := OkQ RX7 "putNumber" cX7_putNumber 5 (none)
set_option maxRecDepth 20000 in
theorem kX7_putNumber_0 : ∀ q ∈ tX7_putNumber_0, qX7_putNumber q :=
  allq qX7_putNumber 0 (.inl (a_ic 0 1)) (s_iconst (n := 0) (v := 0) rfl (by decide +kernel)) <|
  allq qX7_putNumber 1 (.inl (a_is 4 3)) (s_istore (i := 4) (by decide +kernel) (by decide)) <|
  allq qX7_putNumber 3 (.inl (a_il 4 5)) (s_iload (i := 4) (by decide +kernel)) <|
  allq qX7_putNumber 5 (.inl (a_il 3 6)) (s_iload_n (q := 3) (i := 3) rfl (by decide +kernel)) <|
  allq qX7_putNumber 6 (.inl (o_icmp_ge 27 9)) (s_icmp_ge (off := 21) (by decide +kernel) (by decide)) <|
  allq qX7_putNumber 9 (.inl (a_al 0 10)) (s_aload_n (q := 0) (i := 0) rfl (by decide +kernel)) <|
  allq qX7_putNumber 10 (.inl (a_ll 1 11)) (s_lload_n (q := 1) (i := 1) rfl (by decide +kernel)) <|
  allq qX7_putNumber 11 (.inl (a_ic 8 13)) (s_bipush (n := 8) (v := 8) rfl (by decide +kernel)) <|
  allq qX7_putNumber 13 (.inl (a_il 4 15)) (s_iload (i := 4) (by decide +kernel)) <|
  allq qX7_putNumber 15 (.inl (o_imul 16)) (s_imul (by decide +kernel)) <|
  allq qX7_putNumber 16 (.inl (o_lushr 17)) (s_lushr (by decide +kernel)) <|
  allq qX7_putNumber 17 (.inl (a_l2i 18)) (s_l2i (by decide +kernel)) <|
  allq qX7_putNumber 18 (.inr (.inl (86, 2, 8))) (okV (y := yX7_put) kw_608 kw_105 rfl rfl (by decide +kernel) kw_606 kw_607 kw_738) <|
  allq qX7_putNumber 21 (.inl (a_inc 4 1 24)) (s_iinc (i := 4) (n := 1) (n2 := 1) rfl (by decide +kernel) (by decide)) <|
  allq qX7_putNumber 24 (.inl (a_go 3)) (s_goto (off := (-21)) (by decide +kernel) (by decide)) <|
  allq qX7_putNumber 27 (.inr (.inr 0)) (Or.inl ⟨rfl, rfl, by decide +kernel⟩) <|
  alln
theorem kX7_putNumber : ∀ q ∈ tX7_putNumber, qX7_putNumber q := kX7_putNumber_0
abbrev qX7_putRow : Nat × aI → Prop := OkQ RX7 "putRow" cX7_putRow 4 (none)
set_option maxRecDepth 20000 in
theorem kX7_putRow_0 : ∀ q ∈ tX7_putRow_0, qX7_putRow q :=
  allq qX7_putRow 0 (.inl (a_al 0 1)) (s_aload_n (q := 0) (i := 0) rfl (by decide +kernel)) <|
  allq qX7_putRow 1 (.inl (a_al 1 2)) (s_aload_n (q := 1) (i := 1) rfl (by decide +kernel)) <|
  allq qX7_putRow 2 (.inl (a_get 7 0 5)) (gX7 (f0 := 0) (by decide) kw_137 (by decide +kernel)) <|
  allq qX7_putRow 5 (.inl (a_il 2 6)) (s_iload_n (q := 2) (i := 2) rfl (by decide +kernel)) <|
  allq qX7_putRow 6 (.inl (a_il 3 7)) (s_iload_n (q := 3) (i := 3) rfl (by decide +kernel)) <|
  allq qX7_putRow 7 (.inl (a_al 1 8)) (s_aload_n (q := 1) (i := 1) rfl (by decide +kernel)) <|
  allq qX7_putRow 8 (.inl (a_get 7 1 11)) (gX7 (f0 := 1) (by decide) kw_140 (by decide +kernel)) <|
  allq qX7_putRow 11 (.inl (o_mmin 14)) (s_mmin kw_634 kw_498 kw_106 kw_499 (by decide +kernel)) <|
  allq qX7_putRow 14 (.inr (.inl (89, 4, 8))) (okV (y := yX7_putCells) kw_638 kw_105 rfl rfl (by decide +kernel) kw_636 kw_637 kw_635) <|
  allq qX7_putRow 17 (.inr (.inr 0)) (Or.inl ⟨rfl, rfl, by decide +kernel⟩) <|
  alln
theorem kX7_putRow : ∀ q ∈ tX7_putRow, qX7_putRow q := kX7_putRow_0
abbrev qX7_putCells : Nat × aI → Prop := OkQ RX7 "putCells" cX7_putCells 5 (none)
set_option maxRecDepth 20000 in
theorem kX7_putCells_0 : ∀ q ∈ tX7_putCells_0, qX7_putCells q :=
  allq qX7_putCells 0 (.inl (a_il 3 1)) (s_iload_n (q := 3) (i := 3) rfl (by decide +kernel)) <|
  allq qX7_putCells 1 (.inl (a_il 2 2)) (s_iload_n (q := 2) (i := 2) rfl (by decide +kernel)) <|
  allq qX7_putCells 2 (.inl (o_isub 3)) (s_isub (by decide +kernel)) <|
  allq qX7_putCells 3 (.inl (a_is 4 5)) (s_istore (i := 4) (by decide +kernel) (by decide)) <|
  allq qX7_putCells 5 (.inl (a_il 4 7)) (s_iload (i := 4) (by decide +kernel)) <|
  allq qX7_putCells 7 (.inl (o_if_le 20 10)) (s_if_le (off := 13) (by decide +kernel) (by decide)) <|
  allq qX7_putCells 10 (.inl (a_il 2 11)) (s_iload_n (q := 2) (i := 2) rfl (by decide +kernel)) <|
  allq qX7_putCells 11 (.inl (o_if_lt 20 14)) (s_if_lt (off := 9) (by decide +kernel) (by decide)) <|
  allq qX7_putCells 14 (.inl (a_il 3 15)) (s_iload_n (q := 3) (i := 3) rfl (by decide +kernel)) <|
  allq qX7_putCells 15 (.inl (a_al 1 16)) (s_aload_n (q := 1) (i := 1) rfl (by decide +kernel)) <|
  allq qX7_putCells 16 (.inl (a_len 17)) (s_len (by decide +kernel)) <|
  allq qX7_putCells 17 (.inl (o_icmp_le 21 20)) (s_icmp_le (off := 4) (by decide +kernel) (by decide)) <|
  allq qX7_putCells 20 (.inr (.inr 0)) (Or.inl ⟨rfl, rfl, by decide +kernel⟩) <|
  allq qX7_putCells 21 (.inl (a_il 4 23)) (s_iload (i := 4) (by decide +kernel)) <|
  allq qX7_putCells 23 (.inl (a_al 0 24)) (s_aload_n (q := 0) (i := 0) rfl (by decide +kernel)) <|
  allq qX7_putCells 24 (.inl (a_get 7 0 27)) (gX7 (f0 := 0) (by decide) kw_137 (by decide +kernel)) <|
  allq qX7_putCells 27 (.inl (a_len 28)) (s_len (by decide +kernel)) <|
  allq qX7_putCells 28 (.inl (a_al 0 29)) (s_aload_n (q := 0) (i := 0) rfl (by decide +kernel)) <|
  allq qX7_putCells 29 (.inl (a_get 7 1 32)) (gX7 (f0 := 1) (by decide) kw_140 (by decide +kernel)) <|
  allq qX7_putCells 32 (.inl (o_isub 33)) (s_isub (by decide +kernel)) <|
  allq qX7_putCells 33 (.inl (o_icmp_le 42 36)) (s_icmp_le (off := 9) (by decide +kernel) (by decide)) <|
  allq qX7_putCells 36 (.inl (a_al 0 37)) (s_aload_n (q := 0) (i := 0) rfl (by decide +kernel)) <|
  allq qX7_putCells 37 (.inl (a_ic 1 38)) (s_iconst (n := 1) (v := 1) rfl (by decide +kernel)) <|
  allq qX7_putCells 38 (.inl (a_put 7 2 .boolean 41)) (pX7 (f0 := 2) (by decide) rfl rfl tOk kw_147 (by decide +kernel)) <|
  allq qX7_putCells 41 (.inr (.inr 0)) (Or.inl ⟨rfl, rfl, by decide +kernel⟩) <|
  allq qX7_putCells 42 (.inl (a_al 1 43)) (s_aload_n (q := 1) (i := 1) rfl (by decide +kernel)) <|
  allq qX7_putCells 43 (.inl (a_il 2 44)) (s_iload_n (q := 2) (i := 2) rfl (by decide +kernel)) <|
  allq qX7_putCells 44 (.inl (a_al 0 45)) (s_aload_n (q := 0) (i := 0) rfl (by decide +kernel)) <|
  allq qX7_putCells 45 (.inl (a_get 7 0 48)) (gX7 (f0 := 0) (by decide) kw_137 (by decide +kernel)) <|
  allq qX7_putCells 48 (.inl (a_al 0 49)) (s_aload_n (q := 0) (i := 0) rfl (by decide +kernel)) <|
  allq qX7_putCells 49 (.inl (a_get 7 1 52)) (gX7 (f0 := 1) (by decide) kw_140 (by decide +kernel)) <|
  allq qX7_putCells 52 (.inl (a_il 4 54)) (s_iload (i := 4) (by decide +kernel)) <|
  allq qX7_putCells 54 (.inl (a_copy 0 57)) (cp0 kw_639 kw_502 kw_501 kw_117 (by decide +kernel)) <|
  allq qX7_putCells 57 (.inl (a_al 0 58)) (s_aload_n (q := 0) (i := 0) rfl (by decide +kernel)) <|
  allq qX7_putCells 58 (.inl (a_dup 59)) (s_dup (by decide +kernel)) <|
  allq qX7_putCells 59 (.inl (a_get 7 1 62)) (gX7 (f0 := 1) (by decide) kw_140 (by decide +kernel)) <|
  allq qX7_putCells 62 (.inl (a_il 4 64)) (s_iload (i := 4) (by decide +kernel)) <|
  allq qX7_putCells 64 (.inl (o_iadd 65)) (s_iadd (by decide +kernel)) <|
  allq qX7_putCells 65 (.inl (a_put 7 1 .int 68)) (pX7 (f0 := 1) (by decide) rfl rfl tOk kw_140 (by decide +kernel)) <|
  allq qX7_putCells 68 (.inr (.inr 0)) (Or.inl ⟨rfl, rfl, by decide +kernel⟩) <|
  alln
theorem kX7_putCells : ∀ q ∈ tX7_putCells, qX7_putCells q := kX7_putCells_0
abbrev qX7_addBits : Nat × aI → Prop := OkQ RX7 "addBits" cX7_addBits 3 (none)
set_option maxRecDepth 20000 in
theorem kX7_addBits_0 : ∀ q ∈ tX7_addBits_0, qX7_addBits q :=
  allq qX7_addBits 0 (.inl (a_al 0 1)) (s_aload_n (q := 0) (i := 0) rfl (by decide +kernel)) <|
  allq qX7_addBits 1 (.inl (a_dup 2)) (s_dup (by decide +kernel)) <|
  allq qX7_addBits 2 (.inl (a_get 7 3 5)) (gX7 (f0 := 3) (by decide) kw_149 (by decide +kernel)) <|
  allq qX7_addBits 5 (.inl (a_il 1 6)) (s_iload_n (q := 1) (i := 1) rfl (by decide +kernel)) <|
  allq qX7_addBits 6 (.inl (a_i2l 7)) (s_i2l (by decide +kernel)) <|
  allq qX7_addBits 7 (.inl (a_lc 1 8)) (s_lconst (n := 1) rfl (by decide +kernel)) <|
  allq qX7_addBits 8 (.inl (a_il 2 9)) (s_iload_n (q := 2) (i := 2) rfl (by decide +kernel)) <|
  allq qX7_addBits 9 (.inl (o_lshl 10)) (s_lshl (by decide +kernel)) <|
  allq qX7_addBits 10 (.inl (a_lc 1 11)) (s_lconst (n := 1) rfl (by decide +kernel)) <|
  allq qX7_addBits 11 (.inl (o_lsub 12)) (s_lsub (by decide +kernel)) <|
  allq qX7_addBits 12 (.inl (o_land 13)) (s_land (by decide +kernel)) <|
  allq qX7_addBits 13 (.inl (a_al 0 14)) (s_aload_n (q := 0) (i := 0) rfl (by decide +kernel)) <|
  allq qX7_addBits 14 (.inl (a_get 7 4 17)) (gX7 (f0 := 4) (by decide) kw_150 (by decide +kernel)) <|
  allq qX7_addBits 17 (.inl (o_lshl 18)) (s_lshl (by decide +kernel)) <|
  allq qX7_addBits 18 (.inl (o_lor 19)) (s_lor (by decide +kernel)) <|
  allq qX7_addBits 19 (.inl (a_put 7 3 .long 22)) (pX7 (f0 := 3) (by decide) rfl rfl tOk kw_149 (by decide +kernel)) <|
  allq qX7_addBits 22 (.inl (a_al 0 23)) (s_aload_n (q := 0) (i := 0) rfl (by decide +kernel)) <|
  allq qX7_addBits 23 (.inl (a_dup 24)) (s_dup (by decide +kernel)) <|
  allq qX7_addBits 24 (.inl (a_get 7 4 27)) (gX7 (f0 := 4) (by decide) kw_150 (by decide +kernel)) <|
  allq qX7_addBits 27 (.inl (a_il 2 28)) (s_iload_n (q := 2) (i := 2) rfl (by decide +kernel)) <|
  allq qX7_addBits 28 (.inl (o_iadd 29)) (s_iadd (by decide +kernel)) <|
  allq qX7_addBits 29 (.inl (a_put 7 4 .int 32)) (pX7 (f0 := 4) (by decide) rfl rfl tOk kw_150 (by decide +kernel)) <|
  allq qX7_addBits 32 (.inl (a_al 0 33)) (s_aload_n (q := 0) (i := 0) rfl (by decide +kernel)) <|
  allq qX7_addBits 33 (.inl (a_get 7 4 36)) (gX7 (f0 := 4) (by decide) kw_150 (by decide +kernel)) <|
  allq qX7_addBits 36 (.inl (a_ic 8 38)) (s_bipush (n := 8) (v := 8) rfl (by decide +kernel)) <|
  allq qX7_addBits 38 (.inl (o_icmp_lt 111 41)) (s_icmp_lt (off := 73) (by decide +kernel) (by decide)) <|
  allq qX7_addBits 41 (.inl (a_al 0 42)) (s_aload_n (q := 0) (i := 0) rfl (by decide +kernel)) <|
  allq qX7_addBits 42 (.inl (a_get 7 1 45)) (gX7 (f0 := 1) (by decide) kw_140 (by decide +kernel)) <|
  allq qX7_addBits 45 (.inl (a_al 0 46)) (s_aload_n (q := 0) (i := 0) rfl (by decide +kernel)) <|
  allq qX7_addBits 46 (.inl (a_get 7 0 49)) (gX7 (f0 := 0) (by decide) kw_137 (by decide +kernel)) <|
  allq qX7_addBits 49 (.inl (a_len 50)) (s_len (by decide +kernel)) <|
  allq qX7_addBits 50 (.inl (o_icmp_ge 81 53)) (s_icmp_ge (off := 31) (by decide +kernel) (by decide)) <|
  allq qX7_addBits 53 (.inl (a_al 0 54)) (s_aload_n (q := 0) (i := 0) rfl (by decide +kernel)) <|
  allq qX7_addBits 54 (.inl (a_get 7 0 57)) (gX7 (f0 := 0) (by decide) kw_137 (by decide +kernel)) <|
  allq qX7_addBits 57 (.inl (a_al 0 58)) (s_aload_n (q := 0) (i := 0) rfl (by decide +kernel)) <|
  allq qX7_addBits 58 (.inl (a_get 7 1 61)) (gX7 (f0 := 1) (by decide) kw_140 (by decide +kernel)) <|
  allq qX7_addBits 61 (.inl (a_al 0 62)) (s_aload_n (q := 0) (i := 0) rfl (by decide +kernel)) <|
  allq qX7_addBits 62 (.inl (a_get 7 3 65)) (gX7 (f0 := 3) (by decide) kw_149 (by decide +kernel)) <|
  allq qX7_addBits 65 (.inl (a_l2i 66)) (s_l2i (by decide +kernel)) <|
  allq qX7_addBits 66 (.inl (o_i2b 67)) (s_i2b (by decide +kernel)) <|
  alln
set_option maxRecDepth 20000 in
theorem kX7_addBits_1 : ∀ q ∈ tX7_addBits_1, qX7_addBits q :=
  allq qX7_addBits 67 (.inl (a_bast 68)) (s_bast (by decide +kernel)) <|
  allq qX7_addBits 68 (.inl (a_al 0 69)) (s_aload_n (q := 0) (i := 0) rfl (by decide +kernel)) <|
  allq qX7_addBits 69 (.inl (a_dup 70)) (s_dup (by decide +kernel)) <|
  allq qX7_addBits 70 (.inl (a_get 7 1 73)) (gX7 (f0 := 1) (by decide) kw_140 (by decide +kernel)) <|
  allq qX7_addBits 73 (.inl (a_ic 1 74)) (s_iconst (n := 1) (v := 1) rfl (by decide +kernel)) <|
  allq qX7_addBits 74 (.inl (o_iadd 75)) (s_iadd (by decide +kernel)) <|
  allq qX7_addBits 75 (.inl (a_put 7 1 .int 78)) (pX7 (f0 := 1) (by decide) rfl rfl tOk kw_140 (by decide +kernel)) <|
  allq qX7_addBits 78 (.inl (a_go 86)) (s_goto (off := 8) (by decide +kernel) (by decide)) <|
  allq qX7_addBits 81 (.inl (a_al 0 82)) (s_aload_n (q := 0) (i := 0) rfl (by decide +kernel)) <|
  allq qX7_addBits 82 (.inl (a_ic 1 83)) (s_iconst (n := 1) (v := 1) rfl (by decide +kernel)) <|
  allq qX7_addBits 83 (.inl (a_put 7 2 .boolean 86)) (pX7 (f0 := 2) (by decide) rfl rfl tOk kw_147 (by decide +kernel)) <|
  allq qX7_addBits 86 (.inl (a_al 0 87)) (s_aload_n (q := 0) (i := 0) rfl (by decide +kernel)) <|
  allq qX7_addBits 87 (.inl (a_dup 88)) (s_dup (by decide +kernel)) <|
  allq qX7_addBits 88 (.inl (a_get 7 3 91)) (gX7 (f0 := 3) (by decide) kw_149 (by decide +kernel)) <|
  allq qX7_addBits 91 (.inl (a_ic 8 93)) (s_bipush (n := 8) (v := 8) rfl (by decide +kernel)) <|
  allq qX7_addBits 93 (.inl (o_lushr 94)) (s_lushr (by decide +kernel)) <|
  allq qX7_addBits 94 (.inl (a_put 7 3 .long 97)) (pX7 (f0 := 3) (by decide) rfl rfl tOk kw_149 (by decide +kernel)) <|
  allq qX7_addBits 97 (.inl (a_al 0 98)) (s_aload_n (q := 0) (i := 0) rfl (by decide +kernel)) <|
  allq qX7_addBits 98 (.inl (a_dup 99)) (s_dup (by decide +kernel)) <|
  allq qX7_addBits 99 (.inl (a_get 7 4 102)) (gX7 (f0 := 4) (by decide) kw_150 (by decide +kernel)) <|
  allq qX7_addBits 102 (.inl (a_ic 8 104)) (s_bipush (n := 8) (v := 8) rfl (by decide +kernel)) <|
  allq qX7_addBits 104 (.inl (o_isub 105)) (s_isub (by decide +kernel)) <|
  allq qX7_addBits 105 (.inl (a_put 7 4 .int 108)) (pX7 (f0 := 4) (by decide) rfl rfl tOk kw_150 (by decide +kernel)) <|
  allq qX7_addBits 108 (.inl (a_go 32)) (s_goto (off := (-76)) (by decide +kernel) (by decide)) <|
  allq qX7_addBits 111 (.inr (.inr 0)) (Or.inl ⟨rfl, rfl, by decide +kernel⟩) <|
  alln
theorem kX7_addBits : ∀ q ∈ tX7_addBits, qX7_addBits q := alla kX7_addBits_0 kX7_addBits_1
abbrev qX7_closeBits : Nat × aI → Prop := OkQ RX7 "closeBits" cX7_closeBits 1 (none)
set_option maxRecDepth 20000 in
theorem kX7_closeBits_0 : ∀ q ∈ tX7_closeBits_0, qX7_closeBits q :=
  allq qX7_closeBits 0 (.inl (a_al 0 1)) (s_aload_n (q := 0) (i := 0) rfl (by decide +kernel)) <|
  allq qX7_closeBits 1 (.inl (a_get 7 4 4)) (gX7 (f0 := 4) (by decide) kw_150 (by decide +kernel)) <|
  allq qX7_closeBits 4 (.inl (o_if_le 19 7)) (s_if_le (off := 15) (by decide +kernel) (by decide)) <|
  allq qX7_closeBits 7 (.inl (a_al 0 8)) (s_aload_n (q := 0) (i := 0) rfl (by decide +kernel)) <|
  allq qX7_closeBits 8 (.inl (a_ic 0 9)) (s_iconst (n := 0) (v := 0) rfl (by decide +kernel)) <|
  allq qX7_closeBits 9 (.inl (a_ic 8 11)) (s_bipush (n := 8) (v := 8) rfl (by decide +kernel)) <|
  allq qX7_closeBits 11 (.inl (a_al 0 12)) (s_aload_n (q := 0) (i := 0) rfl (by decide +kernel)) <|
  allq qX7_closeBits 12 (.inl (a_get 7 4 15)) (gX7 (f0 := 4) (by decide) kw_150 (by decide +kernel)) <|
  allq qX7_closeBits 15 (.inl (o_isub 16)) (s_isub (by decide +kernel)) <|
  allq qX7_closeBits 16 (.inr (.inl (90, 3, 8))) (okV (y := yX7_addBits) kw_921 kw_105 rfl rfl (by decide +kernel) kw_919 kw_920 kw_930) <|
  allq qX7_closeBits 19 (.inr (.inr 0)) (Or.inl ⟨rfl, rfl, by decide +kernel⟩) <|
  alln
theorem kX7_closeBits : ∀ q ∈ tX7_closeBits, qX7_closeBits q := kX7_closeBits_0
abbrev qX7_endStream : Nat × aI → Prop := OkQ RX7 "endStream" cX7_endStream 1 (none)
set_option maxRecDepth 20000 in
theorem kX7_endStream_0 : ∀ q ∈ tX7_endStream_0, qX7_endStream q :=
  allq qX7_endStream 0 (.inl (a_al 0 1)) (s_aload_n (q := 0) (i := 0) rfl (by decide +kernel)) <|
  allq qX7_endStream 1 (.inl (a_ic 1 2)) (s_iconst (n := 1) (v := 1) rfl (by decide +kernel)) <|
  allq qX7_endStream 2 (.inl (a_ic 8 4)) (s_bipush (n := 8) (v := 8) rfl (by decide +kernel)) <|
  allq qX7_endStream 4 (.inl (a_al 0 5)) (s_aload_n (q := 0) (i := 0) rfl (by decide +kernel)) <|
  allq qX7_endStream 5 (.inl (a_get 7 4 8)) (gX7 (f0 := 4) (by decide) kw_150 (by decide +kernel)) <|
  allq qX7_endStream 8 (.inl (o_isub 9)) (s_isub (by decide +kernel)) <|
  allq qX7_endStream 9 (.inr (.inl (90, 3, 8))) (okV (y := yX7_addBits) kw_921 kw_105 rfl rfl (by decide +kernel) kw_919 kw_920 kw_930) <|
  allq qX7_endStream 12 (.inr (.inr 0)) (Or.inl ⟨rfl, rfl, by decide +kernel⟩) <|
  alln
theorem kX7_endStream : ∀ q ∈ tX7_endStream, qX7_endStream q := kX7_endStream_0
abbrev qX7_at : Nat × aI → Prop := OkQ RX7 "at" cX7_at 2 (some .int)
set_option maxRecDepth 20000 in
theorem kX7_at_0 : ∀ q ∈ tX7_at_0, qX7_at q :=
  allq qX7_at 0 (.inl (a_il 1 1)) (s_iload_n (q := 1) (i := 1) rfl (by decide +kernel)) <|
  allq qX7_at 1 (.inl (o_if_lt 25 4)) (s_if_lt (off := 24) (by decide +kernel) (by decide)) <|
  allq qX7_at 4 (.inl (a_il 1 5)) (s_iload_n (q := 1) (i := 1) rfl (by decide +kernel)) <|
  allq qX7_at 5 (.inl (a_al 0 6)) (s_aload_n (q := 0) (i := 0) rfl (by decide +kernel)) <|
  allq qX7_at 6 (.inl (a_get 7 1 9)) (gX7 (f0 := 1) (by decide) kw_140 (by decide +kernel)) <|
  allq qX7_at 9 (.inl (o_icmp_ge 25 12)) (s_icmp_ge (off := 16) (by decide +kernel) (by decide)) <|
  allq qX7_at 12 (.inl (a_al 0 13)) (s_aload_n (q := 0) (i := 0) rfl (by decide +kernel)) <|
  allq qX7_at 13 (.inl (a_get 7 0 16)) (gX7 (f0 := 0) (by decide) kw_137 (by decide +kernel)) <|
  allq qX7_at 16 (.inl (a_il 1 17)) (s_iload_n (q := 1) (i := 1) rfl (by decide +kernel)) <|
  allq qX7_at 17 (.inl (a_bald 18)) (s_bald (by decide +kernel)) <|
  allq qX7_at 18 (.inl (a_ic 255 21)) (s_sipush (n := 255) (v := 255) rfl (by decide +kernel)) <|
  allq qX7_at 21 (.inl (o_iand 22)) (s_iand (by decide +kernel)) <|
  allq qX7_at 22 (.inl (a_go 26)) (s_goto (off := 4) (by decide +kernel) (by decide)) <|
  allq qX7_at 25 (.inl (a_ic (-1) 26)) (s_iconst (n := (-1)) (v := (-1)) rfl (by decide +kernel)) <|
  allq qX7_at 26 (.inr (.inr 1)) (Or.inr (Or.inl ⟨rfl, rfl, by decide +kernel⟩)) <|
  alln
theorem kX7_at : ∀ q ∈ tX7_at, qX7_at q := kX7_at_0
abbrev qX7_number : Nat × aI → Prop := OkQ RX7 "number" cX7_number 6 (some .long)
set_option maxRecDepth 20000 in
theorem kX7_number_0 : ∀ q ∈ tX7_number_0, qX7_number q :=
  allq qX7_number 0 (.inl (a_lc 0 1)) (s_lconst (n := 0) rfl (by decide +kernel)) <|
  allq qX7_number 1 (.inl (a_lst 3 2)) (s_lstore_n (q := 3) (i := 3) rfl (by decide +kernel) (by decide)) <|
  allq qX7_number 2 (.inl (a_ic 0 3)) (s_iconst (n := 0) (v := 0) rfl (by decide +kernel)) <|
  allq qX7_number 3 (.inl (a_is 5 5)) (s_istore (i := 5) (by decide +kernel) (by decide)) <|
  allq qX7_number 5 (.inl (a_il 5 7)) (s_iload (i := 5) (by decide +kernel)) <|
  allq qX7_number 7 (.inl (a_il 2 8)) (s_iload_n (q := 2) (i := 2) rfl (by decide +kernel)) <|
  allq qX7_number 8 (.inl (o_icmp_ge 39 11)) (s_icmp_ge (off := 31) (by decide +kernel) (by decide)) <|
  allq qX7_number 11 (.inl (a_ll 3 12)) (s_lload_n (q := 3) (i := 3) rfl (by decide +kernel)) <|
  allq qX7_number 12 (.inl (a_al 0 13)) (s_aload_n (q := 0) (i := 0) rfl (by decide +kernel)) <|
  allq qX7_number 13 (.inl (a_il 1 14)) (s_iload_n (q := 1) (i := 1) rfl (by decide +kernel)) <|
  allq qX7_number 14 (.inl (a_il 5 16)) (s_iload (i := 5) (by decide +kernel)) <|
  allq qX7_number 16 (.inl (o_iadd 17)) (s_iadd (by decide +kernel)) <|
  allq qX7_number 17 (.inr (.inl (93, 2, 8))) (okV (y := yX7_at) kw_617 kw_105 rfl rfl (by decide +kernel) kw_615 kw_616 kw_652) <|
  allq qX7_number 20 (.inl (a_ic 0 21)) (s_iconst (n := 0) (v := 0) rfl (by decide +kernel)) <|
  allq qX7_number 21 (.inl (o_mmax 24)) (s_mmax kw_134 kw_135 kw_106 kw_136 (by decide +kernel)) <|
  allq qX7_number 24 (.inl (a_i2l 25)) (s_i2l (by decide +kernel)) <|
  allq qX7_number 25 (.inl (a_ic 8 27)) (s_bipush (n := 8) (v := 8) rfl (by decide +kernel)) <|
  allq qX7_number 27 (.inl (a_il 5 29)) (s_iload (i := 5) (by decide +kernel)) <|
  allq qX7_number 29 (.inl (o_imul 30)) (s_imul (by decide +kernel)) <|
  allq qX7_number 30 (.inl (o_lshl 31)) (s_lshl (by decide +kernel)) <|
  allq qX7_number 31 (.inl (o_lor 32)) (s_lor (by decide +kernel)) <|
  allq qX7_number 32 (.inl (a_lst 3 33)) (s_lstore_n (q := 3) (i := 3) rfl (by decide +kernel) (by decide)) <|
  allq qX7_number 33 (.inl (a_inc 5 1 36)) (s_iinc (i := 5) (n := 1) (n2 := 1) rfl (by decide +kernel) (by decide)) <|
  allq qX7_number 36 (.inl (a_go 5)) (s_goto (off := (-31)) (by decide +kernel) (by decide)) <|
  allq qX7_number 39 (.inl (a_ll 3 40)) (s_lload_n (q := 3) (i := 3) rfl (by decide +kernel)) <|
  allq qX7_number 40 (.inr (.inr 2)) (Or.inr (Or.inr (Or.inl ⟨rfl, rfl, by decide +kernel⟩))) <|
  alln
theorem kX7_number : ∀ q ∈ tX7_number, qX7_number q := kX7_number_0
abbrev qX7_bits : Nat × aI → Prop := OkQ RX7 "bits" cX7_bits 6 (some .int)
set_option maxRecDepth 20000 in
theorem kX7_bits_0 : ∀ q ∈ tX7_bits_0, qX7_bits q :=
  allq qX7_bits 0 (.inl (a_ic 0 1)) (s_iconst (n := 0) (v := 0) rfl (by decide +kernel)) <|
  allq qX7_bits 1 (.inl (a_is 3 2)) (s_istore_n (q := 3) (i := 3) rfl (by decide +kernel) (by decide)) <|
  allq qX7_bits 2 (.inl (a_ic 0 3)) (s_iconst (n := 0) (v := 0) rfl (by decide +kernel)) <|
  allq qX7_bits 3 (.inl (a_is 4 5)) (s_istore (i := 4) (by decide +kernel) (by decide)) <|
  allq qX7_bits 5 (.inl (a_il 4 7)) (s_iload (i := 4) (by decide +kernel)) <|
  allq qX7_bits 7 (.inl (a_il 2 8)) (s_iload_n (q := 2) (i := 2) rfl (by decide +kernel)) <|
  allq qX7_bits 8 (.inl (o_icmp_ge 51 11)) (s_icmp_ge (off := 43) (by decide +kernel) (by decide)) <|
  allq qX7_bits 11 (.inl (a_al 0 12)) (s_aload_n (q := 0) (i := 0) rfl (by decide +kernel)) <|
  allq qX7_bits 12 (.inl (a_il 1 13)) (s_iload_n (q := 1) (i := 1) rfl (by decide +kernel)) <|
  allq qX7_bits 13 (.inl (a_il 4 15)) (s_iload (i := 4) (by decide +kernel)) <|
  allq qX7_bits 15 (.inl (o_iadd 16)) (s_iadd (by decide +kernel)) <|
  allq qX7_bits 16 (.inl (a_ic 3 17)) (s_iconst (n := 3) (v := 3) rfl (by decide +kernel)) <|
  allq qX7_bits 17 (.inl (o_ishr 18)) (s_ishr (by decide +kernel)) <|
  allq qX7_bits 18 (.inr (.inl (93, 2, 8))) (okV (y := yX7_at) kw_617 kw_105 rfl rfl (by decide +kernel) kw_615 kw_616 kw_652) <|
  allq qX7_bits 21 (.inl (a_ic 0 22)) (s_iconst (n := 0) (v := 0) rfl (by decide +kernel)) <|
  allq qX7_bits 22 (.inl (o_mmax 25)) (s_mmax kw_134 kw_135 kw_106 kw_136 (by decide +kernel)) <|
  allq qX7_bits 25 (.inl (a_is 5 27)) (s_istore (i := 5) (by decide +kernel) (by decide)) <|
  allq qX7_bits 27 (.inl (a_il 3 28)) (s_iload_n (q := 3) (i := 3) rfl (by decide +kernel)) <|
  allq qX7_bits 28 (.inl (a_il 5 30)) (s_iload (i := 5) (by decide +kernel)) <|
  allq qX7_bits 30 (.inl (a_il 1 31)) (s_iload_n (q := 1) (i := 1) rfl (by decide +kernel)) <|
  allq qX7_bits 31 (.inl (a_il 4 33)) (s_iload (i := 4) (by decide +kernel)) <|
  allq qX7_bits 33 (.inl (o_iadd 34)) (s_iadd (by decide +kernel)) <|
  allq qX7_bits 34 (.inl (a_ic 7 36)) (s_bipush (n := 7) (v := 7) rfl (by decide +kernel)) <|
  allq qX7_bits 36 (.inl (o_iand 37)) (s_iand (by decide +kernel)) <|
  allq qX7_bits 37 (.inl (o_ishr 38)) (s_ishr (by decide +kernel)) <|
  allq qX7_bits 38 (.inl (a_ic 1 39)) (s_iconst (n := 1) (v := 1) rfl (by decide +kernel)) <|
  allq qX7_bits 39 (.inl (o_iand 40)) (s_iand (by decide +kernel)) <|
  allq qX7_bits 40 (.inl (a_il 4 42)) (s_iload (i := 4) (by decide +kernel)) <|
  allq qX7_bits 42 (.inl (o_ishl 43)) (s_ishl (by decide +kernel)) <|
  allq qX7_bits 43 (.inl (o_ior 44)) (s_ior (by decide +kernel)) <|
  allq qX7_bits 44 (.inl (a_is 3 45)) (s_istore_n (q := 3) (i := 3) rfl (by decide +kernel) (by decide)) <|
  allq qX7_bits 45 (.inl (a_inc 4 1 48)) (s_iinc (i := 4) (n := 1) (n2 := 1) rfl (by decide +kernel) (by decide)) <|
  allq qX7_bits 48 (.inl (a_go 5)) (s_goto (off := (-43)) (by decide +kernel) (by decide)) <|
  allq qX7_bits 51 (.inl (a_il 3 52)) (s_iload_n (q := 3) (i := 3) rfl (by decide +kernel)) <|
  allq qX7_bits 52 (.inr (.inr 1)) (Or.inr (Or.inl ⟨rfl, rfl, by decide +kernel⟩)) <|
  alln
theorem kX7_bits : ∀ q ∈ tX7_bits, qX7_bits q := kX7_bits_0
abbrev qX8_init : Nat × aI → Prop := OkQ RX8 "<init>" cX8_init 3 (none)
set_option maxRecDepth 20000 in
theorem kX8_init_0 : ∀ q ∈ tX8_init_0, qX8_init q :=
  allq qX8_init 0 (.inl (a_al 0 1)) (s_aload_n (q := 0) (i := 0) rfl (by decide +kernel)) <|
  allq qX8_init 1 (.inl (a_oi 4)) (s_oi kw_203 kw_126 kw_127 (by decide +kernel)) <|
  allq qX8_init 4 (.inl (a_al 0 5)) (s_aload_n (q := 0) (i := 0) rfl (by decide +kernel)) <|
  allq qX8_init 5 (.inl (a_il 1 6)) (s_iload_n (q := 1) (i := 1) rfl (by decide +kernel)) <|
  allq qX8_init 6 (.inl (a_ic 0 7)) (s_iconst (n := 0) (v := 0) rfl (by decide +kernel)) <|
  allq qX8_init 7 (.inl (o_mmax 10)) (s_mmax kw_204 kw_135 kw_106 kw_136 (by decide +kernel)) <|
  allq qX8_init 10 (.inl (a_put 8 0 .int 13)) (fX8 (f0 := 0) (by decide) rfl rfl rfl tOk kw_205 (by decide +kernel)) <|
  allq qX8_init 13 (.inl (a_al 0 14)) (s_aload_n (q := 0) (i := 0) rfl (by decide +kernel)) <|
  allq qX8_init 14 (.inl (a_al 0 15)) (s_aload_n (q := 0) (i := 0) rfl (by decide +kernel)) <|
  allq qX8_init 15 (.inl (a_get 8 0 18)) (gX8 (f0 := 0) (by decide) kw_205 (by decide +kernel)) <|
  allq qX8_init 18 (.inl (a_ic 1 19)) (s_iconst (n := 1) (v := 1) rfl (by decide +kernel)) <|
  allq qX8_init 19 (.inl (o_iadd 20)) (s_iadd (by decide +kernel)) <|
  allq qX8_init 20 (.inl (a_newa 1 22)) (na_int kw_197 (by decide +kernel)) <|
  allq qX8_init 22 (.inl (a_put 8 1 (.array .int) 25)) (fX8 (f0 := 1) (by decide) rfl rfl rfl tOk kw_206 (by decide +kernel)) <|
  allq qX8_init 25 (.inl (a_al 0 26)) (s_aload_n (q := 0) (i := 0) rfl (by decide +kernel)) <|
  allq qX8_init 26 (.inl (a_al 0 27)) (s_aload_n (q := 0) (i := 0) rfl (by decide +kernel)) <|
  allq qX8_init 27 (.inl (a_get 8 0 30)) (gX8 (f0 := 0) (by decide) kw_205 (by decide +kernel)) <|
  allq qX8_init 30 (.inl (a_ic 1 31)) (s_iconst (n := 1) (v := 1) rfl (by decide +kernel)) <|
  allq qX8_init 31 (.inl (o_iadd 32)) (s_iadd (by decide +kernel)) <|
  allq qX8_init 32 (.inl (a_newa 1 34)) (na_int kw_197 (by decide +kernel)) <|
  allq qX8_init 34 (.inl (a_put 8 2 (.array .int) 37)) (fX8 (f0 := 2) (by decide) rfl rfl rfl tOk kw_207 (by decide +kernel)) <|
  allq qX8_init 37 (.inl (a_al 0 38)) (s_aload_n (q := 0) (i := 0) rfl (by decide +kernel)) <|
  allq qX8_init 38 (.inl (a_al 0 39)) (s_aload_n (q := 0) (i := 0) rfl (by decide +kernel)) <|
  allq qX8_init 39 (.inl (a_get 8 0 42)) (gX8 (f0 := 0) (by decide) kw_205 (by decide +kernel)) <|
  allq qX8_init 42 (.inl (a_ic 1 43)) (s_iconst (n := 1) (v := 1) rfl (by decide +kernel)) <|
  allq qX8_init 43 (.inl (o_iadd 44)) (s_iadd (by decide +kernel)) <|
  allq qX8_init 44 (.inl (a_newa 1 46)) (na_int kw_197 (by decide +kernel)) <|
  allq qX8_init 46 (.inl (a_put 8 3 (.array .int) 49)) (fX8 (f0 := 3) (by decide) rfl rfl rfl tOk kw_208 (by decide +kernel)) <|
  allq qX8_init 49 (.inl (a_al 0 50)) (s_aload_n (q := 0) (i := 0) rfl (by decide +kernel)) <|
  allq qX8_init 50 (.inl (a_al 0 51)) (s_aload_n (q := 0) (i := 0) rfl (by decide +kernel)) <|
  allq qX8_init 51 (.inl (a_get 8 0 54)) (gX8 (f0 := 0) (by decide) kw_205 (by decide +kernel)) <|
  allq qX8_init 54 (.inl (a_ic 1 55)) (s_iconst (n := 1) (v := 1) rfl (by decide +kernel)) <|
  allq qX8_init 55 (.inl (o_iadd 56)) (s_iadd (by decide +kernel)) <|
  allq qX8_init 56 (.inl (a_newa 1 58)) (na_int kw_197 (by decide +kernel)) <|
  allq qX8_init 58 (.inl (a_put 8 4 (.array .int) 61)) (fX8 (f0 := 4) (by decide) rfl rfl rfl tOk kw_209 (by decide +kernel)) <|
  allq qX8_init 61 (.inl (a_al 0 62)) (s_aload_n (q := 0) (i := 0) rfl (by decide +kernel)) <|
  allq qX8_init 62 (.inl (a_ic 1 63)) (s_iconst (n := 1) (v := 1) rfl (by decide +kernel)) <|
  allq qX8_init 63 (.inl (a_il 2 64)) (s_iload_n (q := 2) (i := 2) rfl (by decide +kernel)) <|
  allq qX8_init 64 (.inl (o_ishl 65)) (s_ishl (by decide +kernel)) <|
  allq qX8_init 65 (.inl (a_newa 1 67)) (na_int kw_197 (by decide +kernel)) <|
  alln
set_option maxRecDepth 20000 in
theorem kX8_init_1 : ∀ q ∈ tX8_init_1, qX8_init q :=
  allq qX8_init 67 (.inl (a_put 8 5 (.array .int) 70)) (fX8 (f0 := 5) (by decide) rfl rfl rfl tOk kw_210 (by decide +kernel)) <|
  allq qX8_init 70 (.inl (a_al 0 71)) (s_aload_n (q := 0) (i := 0) rfl (by decide +kernel)) <|
  allq qX8_init 71 (.inl (a_ic 1 72)) (s_iconst (n := 1) (v := 1) rfl (by decide +kernel)) <|
  allq qX8_init 72 (.inl (a_il 2 73)) (s_iload_n (q := 2) (i := 2) rfl (by decide +kernel)) <|
  allq qX8_init 73 (.inl (o_ishl 74)) (s_ishl (by decide +kernel)) <|
  allq qX8_init 74 (.inl (a_newa 1 76)) (na_int kw_197 (by decide +kernel)) <|
  allq qX8_init 76 (.inl (a_put 8 6 (.array .int) 79)) (fX8 (f0 := 6) (by decide) rfl rfl rfl tOk kw_211 (by decide +kernel)) <|
  allq qX8_init 79 (.inr (.inr 0)) (Or.inl ⟨rfl, rfl, by decide +kernel⟩) <|
  alln
theorem kX8_init : ∀ q ∈ tX8_init, qX8_init q := alla kX8_init_0 kX8_init_1
abbrev qX8_become : Nat × aI → Prop := OkQ RX8 "become" cX8_become 4 (none)
set_option maxRecDepth 20000 in
theorem kX8_become_0 : ∀ q ∈ tX8_become_0, qX8_become q :=
  allq qX8_become 0 (.inl (a_al 0 1)) (s_aload_n (q := 0) (i := 0) rfl (by decide +kernel)) <|
  allq qX8_become 1 (.inl (a_al 1 2)) (s_aload_n (q := 1) (i := 1) rfl (by decide +kernel)) <|
  allq qX8_become 2 (.inl (a_get 8 8 5)) (gX8 (f0 := 8) (by decide) kw_215 (by decide +kernel)) <|
  allq qX8_become 5 (.inl (a_put 8 8 .boolean 8)) (pX8 (f0 := 8) (by decide) rfl rfl tOk kw_215 (by decide +kernel)) <|
  allq qX8_become 8 (.inl (a_al 0 9)) (s_aload_n (q := 0) (i := 0) rfl (by decide +kernel)) <|
  allq qX8_become 9 (.inl (a_get 8 8 12)) (gX8 (f0 := 8) (by decide) kw_215 (by decide +kernel)) <|
  allq qX8_become 12 (.inl (o_if_ne 16 15)) (s_if_ne (off := 4) (by decide +kernel) (by decide)) <|
  allq qX8_become 15 (.inr (.inr 0)) (Or.inl ⟨rfl, rfl, by decide +kernel⟩) <|
  allq qX8_become 16 (.inl (a_al 0 17)) (s_aload_n (q := 0) (i := 0) rfl (by decide +kernel)) <|
  allq qX8_become 17 (.inl (a_al 1 18)) (s_aload_n (q := 1) (i := 1) rfl (by decide +kernel)) <|
  allq qX8_become 18 (.inl (a_get 8 7 21)) (gX8 (f0 := 7) (by decide) kw_212 (by decide +kernel)) <|
  allq qX8_become 21 (.inl (a_put 8 7 .int 24)) (pX8 (f0 := 7) (by decide) rfl rfl tOk kw_212 (by decide +kernel)) <|
  allq qX8_become 24 (.inl (a_al 0 25)) (s_aload_n (q := 0) (i := 0) rfl (by decide +kernel)) <|
  allq qX8_become 25 (.inl (a_get 8 1 28)) (gX8 (f0 := 1) (by decide) kw_206 (by decide +kernel)) <|
  allq qX8_become 28 (.inl (a_len 29)) (s_len (by decide +kernel)) <|
  allq qX8_become 29 (.inl (a_al 1 30)) (s_aload_n (q := 1) (i := 1) rfl (by decide +kernel)) <|
  allq qX8_become 30 (.inl (a_get 8 1 33)) (gX8 (f0 := 1) (by decide) kw_206 (by decide +kernel)) <|
  allq qX8_become 33 (.inl (a_len 34)) (s_len (by decide +kernel)) <|
  allq qX8_become 34 (.inl (o_mmin 37)) (s_mmin kw_497 kw_498 kw_106 kw_499 (by decide +kernel)) <|
  allq qX8_become 37 (.inl (a_is 2 38)) (s_istore_n (q := 2) (i := 2) rfl (by decide +kernel) (by decide)) <|
  allq qX8_become 38 (.inl (a_ic 1 39)) (s_iconst (n := 1) (v := 1) rfl (by decide +kernel)) <|
  allq qX8_become 39 (.inl (a_al 0 40)) (s_aload_n (q := 0) (i := 0) rfl (by decide +kernel)) <|
  allq qX8_become 40 (.inl (a_get 8 7 43)) (gX8 (f0 := 7) (by decide) kw_212 (by decide +kernel)) <|
  allq qX8_become 43 (.inl (o_ishl 44)) (s_ishl (by decide +kernel)) <|
  allq qX8_become 44 (.inl (a_al 0 45)) (s_aload_n (q := 0) (i := 0) rfl (by decide +kernel)) <|
  allq qX8_become 45 (.inl (a_get 8 6 48)) (gX8 (f0 := 6) (by decide) kw_211 (by decide +kernel)) <|
  allq qX8_become 48 (.inl (a_len 49)) (s_len (by decide +kernel)) <|
  allq qX8_become 49 (.inl (a_al 1 50)) (s_aload_n (q := 1) (i := 1) rfl (by decide +kernel)) <|
  allq qX8_become 50 (.inl (a_get 8 6 53)) (gX8 (f0 := 6) (by decide) kw_211 (by decide +kernel)) <|
  allq qX8_become 53 (.inl (a_len 54)) (s_len (by decide +kernel)) <|
  allq qX8_become 54 (.inl (o_mmin 57)) (s_mmin kw_497 kw_498 kw_106 kw_499 (by decide +kernel)) <|
  allq qX8_become 57 (.inl (o_mmin 60)) (s_mmin kw_497 kw_498 kw_106 kw_499 (by decide +kernel)) <|
  allq qX8_become 60 (.inl (a_is 3 61)) (s_istore_n (q := 3) (i := 3) rfl (by decide +kernel) (by decide)) <|
  allq qX8_become 61 (.inl (a_al 1 62)) (s_aload_n (q := 1) (i := 1) rfl (by decide +kernel)) <|
  allq qX8_become 62 (.inl (a_get 8 1 65)) (gX8 (f0 := 1) (by decide) kw_206 (by decide +kernel)) <|
  allq qX8_become 65 (.inl (a_ic 0 66)) (s_iconst (n := 0) (v := 0) rfl (by decide +kernel)) <|
  allq qX8_become 66 (.inl (a_al 0 67)) (s_aload_n (q := 0) (i := 0) rfl (by decide +kernel)) <|
  allq qX8_become 67 (.inl (a_get 8 1 70)) (gX8 (f0 := 1) (by decide) kw_206 (by decide +kernel)) <|
  allq qX8_become 70 (.inl (a_ic 0 71)) (s_iconst (n := 0) (v := 0) rfl (by decide +kernel)) <|
  allq qX8_become 71 (.inl (a_il 2 72)) (s_iload_n (q := 2) (i := 2) rfl (by decide +kernel)) <|
  alln
set_option maxRecDepth 20000 in
theorem kX8_become_1 : ∀ q ∈ tX8_become_1, qX8_become q :=
  allq qX8_become 72 (.inl (a_copy 1 75)) (cp1 kw_500 kw_502 kw_501 kw_117 (by decide +kernel)) <|
  allq qX8_become 75 (.inl (a_al 1 76)) (s_aload_n (q := 1) (i := 1) rfl (by decide +kernel)) <|
  allq qX8_become 76 (.inl (a_get 8 3 79)) (gX8 (f0 := 3) (by decide) kw_208 (by decide +kernel)) <|
  allq qX8_become 79 (.inl (a_ic 0 80)) (s_iconst (n := 0) (v := 0) rfl (by decide +kernel)) <|
  allq qX8_become 80 (.inl (a_al 0 81)) (s_aload_n (q := 0) (i := 0) rfl (by decide +kernel)) <|
  allq qX8_become 81 (.inl (a_get 8 3 84)) (gX8 (f0 := 3) (by decide) kw_208 (by decide +kernel)) <|
  allq qX8_become 84 (.inl (a_ic 0 85)) (s_iconst (n := 0) (v := 0) rfl (by decide +kernel)) <|
  allq qX8_become 85 (.inl (a_il 2 86)) (s_iload_n (q := 2) (i := 2) rfl (by decide +kernel)) <|
  allq qX8_become 86 (.inl (a_copy 1 89)) (cp1 kw_500 kw_502 kw_501 kw_117 (by decide +kernel)) <|
  allq qX8_become 89 (.inl (a_al 1 90)) (s_aload_n (q := 1) (i := 1) rfl (by decide +kernel)) <|
  allq qX8_become 90 (.inl (a_get 8 4 93)) (gX8 (f0 := 4) (by decide) kw_209 (by decide +kernel)) <|
  allq qX8_become 93 (.inl (a_ic 0 94)) (s_iconst (n := 0) (v := 0) rfl (by decide +kernel)) <|
  allq qX8_become 94 (.inl (a_al 0 95)) (s_aload_n (q := 0) (i := 0) rfl (by decide +kernel)) <|
  allq qX8_become 95 (.inl (a_get 8 4 98)) (gX8 (f0 := 4) (by decide) kw_209 (by decide +kernel)) <|
  allq qX8_become 98 (.inl (a_ic 0 99)) (s_iconst (n := 0) (v := 0) rfl (by decide +kernel)) <|
  allq qX8_become 99 (.inl (a_il 2 100)) (s_iload_n (q := 2) (i := 2) rfl (by decide +kernel)) <|
  allq qX8_become 100 (.inl (a_copy 1 103)) (cp1 kw_500 kw_502 kw_501 kw_117 (by decide +kernel)) <|
  allq qX8_become 103 (.inl (a_al 1 104)) (s_aload_n (q := 1) (i := 1) rfl (by decide +kernel)) <|
  allq qX8_become 104 (.inl (a_get 8 5 107)) (gX8 (f0 := 5) (by decide) kw_210 (by decide +kernel)) <|
  allq qX8_become 107 (.inl (a_ic 0 108)) (s_iconst (n := 0) (v := 0) rfl (by decide +kernel)) <|
  allq qX8_become 108 (.inl (a_al 0 109)) (s_aload_n (q := 0) (i := 0) rfl (by decide +kernel)) <|
  allq qX8_become 109 (.inl (a_get 8 5 112)) (gX8 (f0 := 5) (by decide) kw_210 (by decide +kernel)) <|
  allq qX8_become 112 (.inl (a_ic 0 113)) (s_iconst (n := 0) (v := 0) rfl (by decide +kernel)) <|
  allq qX8_become 113 (.inl (a_il 3 114)) (s_iload_n (q := 3) (i := 3) rfl (by decide +kernel)) <|
  allq qX8_become 114 (.inl (a_copy 1 117)) (cp1 kw_500 kw_502 kw_501 kw_117 (by decide +kernel)) <|
  allq qX8_become 117 (.inl (a_al 1 118)) (s_aload_n (q := 1) (i := 1) rfl (by decide +kernel)) <|
  allq qX8_become 118 (.inl (a_get 8 6 121)) (gX8 (f0 := 6) (by decide) kw_211 (by decide +kernel)) <|
  allq qX8_become 121 (.inl (a_ic 0 122)) (s_iconst (n := 0) (v := 0) rfl (by decide +kernel)) <|
  allq qX8_become 122 (.inl (a_al 0 123)) (s_aload_n (q := 0) (i := 0) rfl (by decide +kernel)) <|
  allq qX8_become 123 (.inl (a_get 8 6 126)) (gX8 (f0 := 6) (by decide) kw_211 (by decide +kernel)) <|
  allq qX8_become 126 (.inl (a_ic 0 127)) (s_iconst (n := 0) (v := 0) rfl (by decide +kernel)) <|
  allq qX8_become 127 (.inl (a_il 3 128)) (s_iload_n (q := 3) (i := 3) rfl (by decide +kernel)) <|
  allq qX8_become 128 (.inl (a_copy 1 131)) (cp1 kw_500 kw_502 kw_501 kw_117 (by decide +kernel)) <|
  allq qX8_become 131 (.inr (.inr 0)) (Or.inl ⟨rfl, rfl, by decide +kernel⟩) <|
  alln
theorem kX8_become : ∀ q ∈ tX8_become, qX8_become q := alla kX8_become_0 kX8_become_1
abbrev qX8_beOf : Nat × aI → Prop := OkQ RX8 "beOf" cX8_beOf 3 (none)
set_option maxRecDepth 20000 in
theorem kX8_beOf_0 : ∀ q ∈ tX8_beOf_0, qX8_beOf q :=
  allq qX8_beOf 0 (.inl (a_al 0 1)) (s_aload_n (q := 0) (i := 0) rfl (by decide +kernel)) <|
  allq qX8_beOf 1 (.inl (a_get 8 1 4)) (gX8 (f0 := 1) (by decide) kw_206 (by decide +kernel)) <|
  allq qX8_beOf 4 (.inl (a_ic 0 5)) (s_iconst (n := 0) (v := 0) rfl (by decide +kernel)) <|
  allq qX8_beOf 5 (.inr (.inl (223, 2, 0))) (okS (y := yJ7_fill_53178) kw_496 kw_116 rfl (by decide +kernel) kw_495 (Or.inl kw_494)) <|
  allq qX8_beOf 8 (.inl (a_al 1 9)) (s_aload_n (q := 1) (i := 1) rfl (by decide +kernel)) <|
  allq qX8_beOf 9 (.inl (a_ic 0 10)) (s_iconst (n := 0) (v := 0) rfl (by decide +kernel)) <|
  allq qX8_beOf 10 (.inl (a_al 0 11)) (s_aload_n (q := 0) (i := 0) rfl (by decide +kernel)) <|
  allq qX8_beOf 11 (.inl (a_get 8 1 14)) (gX8 (f0 := 1) (by decide) kw_206 (by decide +kernel)) <|
  allq qX8_beOf 14 (.inl (a_ic 0 15)) (s_iconst (n := 0) (v := 0) rfl (by decide +kernel)) <|
  allq qX8_beOf 15 (.inl (a_al 1 16)) (s_aload_n (q := 1) (i := 1) rfl (by decide +kernel)) <|
  allq qX8_beOf 16 (.inl (a_len 17)) (s_len (by decide +kernel)) <|
  allq qX8_beOf 17 (.inl (a_al 0 18)) (s_aload_n (q := 0) (i := 0) rfl (by decide +kernel)) <|
  allq qX8_beOf 18 (.inl (a_get 8 1 21)) (gX8 (f0 := 1) (by decide) kw_206 (by decide +kernel)) <|
  allq qX8_beOf 21 (.inl (a_len 22)) (s_len (by decide +kernel)) <|
  allq qX8_beOf 22 (.inl (o_mmin 25)) (s_mmin kw_497 kw_498 kw_106 kw_499 (by decide +kernel)) <|
  allq qX8_beOf 25 (.inl (a_copy 1 28)) (cp1 kw_500 kw_502 kw_501 kw_117 (by decide +kernel)) <|
  allq qX8_beOf 28 (.inl (a_al 0 29)) (s_aload_n (q := 0) (i := 0) rfl (by decide +kernel)) <|
  allq qX8_beOf 29 (.inl (a_il 2 30)) (s_iload_n (q := 2) (i := 2) rfl (by decide +kernel)) <|
  allq qX8_beOf 30 (.inl (a_put 8 7 .int 33)) (pX8 (f0 := 7) (by decide) rfl rfl tOk kw_212 (by decide +kernel)) <|
  allq qX8_beOf 33 (.inl (a_al 0 34)) (s_aload_n (q := 0) (i := 0) rfl (by decide +kernel)) <|
  allq qX8_beOf 34 (.inr (.inl (103, 1, 9))) (okV (y := yX8_spread) kw_506 kw_109 rfl rfl (by decide +kernel) kw_504 kw_505 kw_503) <|
  allq qX8_beOf 37 (.inr (.inr 0)) (Or.inl ⟨rfl, rfl, by decide +kernel⟩) <|
  alln
theorem kX8_beOf : ∀ q ∈ tX8_beOf, qX8_beOf q := kX8_beOf_0
abbrev qX8_beAlone : Nat × aI → Prop := OkQ RX8 "beAlone" cX8_beAlone 2 (none)
set_option maxRecDepth 20000 in
theorem kX8_beAlone_0 : ∀ q ∈ tX8_beAlone_0, qX8_beAlone q :=
  allq qX8_beAlone 0 (.inl (a_al 0 1)) (s_aload_n (q := 0) (i := 0) rfl (by decide +kernel)) <|
  allq qX8_beAlone 1 (.inl (a_get 8 1 4)) (gX8 (f0 := 1) (by decide) kw_206 (by decide +kernel)) <|
  allq qX8_beAlone 4 (.inl (a_ic 0 5)) (s_iconst (n := 0) (v := 0) rfl (by decide +kernel)) <|
  allq qX8_beAlone 5 (.inr (.inl (223, 2, 0))) (okS (y := yJ7_fill_53178) kw_496 kw_116 rfl (by decide +kernel) kw_495 (Or.inl kw_494)) <|
  allq qX8_beAlone 8 (.inl (a_il 1 9)) (s_iload_n (q := 1) (i := 1) rfl (by decide +kernel)) <|
  allq qX8_beAlone 9 (.inl (o_if_lt 27 12)) (s_if_lt (off := 18) (by decide +kernel) (by decide)) <|
  allq qX8_beAlone 12 (.inl (a_il 1 13)) (s_iload_n (q := 1) (i := 1) rfl (by decide +kernel)) <|
  allq qX8_beAlone 13 (.inl (a_al 0 14)) (s_aload_n (q := 0) (i := 0) rfl (by decide +kernel)) <|
  allq qX8_beAlone 14 (.inl (a_get 8 0 17)) (gX8 (f0 := 0) (by decide) kw_205 (by decide +kernel)) <|
  allq qX8_beAlone 17 (.inl (o_icmp_gt 27 20)) (s_icmp_gt (off := 10) (by decide +kernel) (by decide)) <|
  allq qX8_beAlone 20 (.inl (a_al 0 21)) (s_aload_n (q := 0) (i := 0) rfl (by decide +kernel)) <|
  allq qX8_beAlone 21 (.inl (a_get 8 1 24)) (gX8 (f0 := 1) (by decide) kw_206 (by decide +kernel)) <|
  allq qX8_beAlone 24 (.inl (a_il 1 25)) (s_iload_n (q := 1) (i := 1) rfl (by decide +kernel)) <|
  allq qX8_beAlone 25 (.inl (a_ic 1 26)) (s_iconst (n := 1) (v := 1) rfl (by decide +kernel)) <|
  allq qX8_beAlone 26 (.inl (a_iast 27)) (s_iast (by decide +kernel)) <|
  allq qX8_beAlone 27 (.inl (a_al 0 28)) (s_aload_n (q := 0) (i := 0) rfl (by decide +kernel)) <|
  allq qX8_beAlone 28 (.inl (a_ic 0 29)) (s_iconst (n := 0) (v := 0) rfl (by decide +kernel)) <|
  allq qX8_beAlone 29 (.inl (a_put 8 7 .int 32)) (pX8 (f0 := 7) (by decide) rfl rfl tOk kw_212 (by decide +kernel)) <|
  allq qX8_beAlone 32 (.inl (a_al 0 33)) (s_aload_n (q := 0) (i := 0) rfl (by decide +kernel)) <|
  allq qX8_beAlone 33 (.inr (.inl (103, 1, 9))) (okV (y := yX8_spread) kw_506 kw_109 rfl rfl (by decide +kernel) kw_504 kw_505 kw_503) <|
  allq qX8_beAlone 36 (.inr (.inr 0)) (Or.inl ⟨rfl, rfl, by decide +kernel⟩) <|
  alln
theorem kX8_beAlone : ∀ q ∈ tX8_beAlone, qX8_beAlone q := kX8_beAlone_0
abbrev qX8_weigh : Nat × aI → Prop := OkQ RX8 "weigh" cX8_weigh 7 (none)
set_option maxRecDepth 20000 in
theorem kX8_weigh_0 : ∀ q ∈ tX8_weigh_0, qX8_weigh q :=
  allq qX8_weigh 0 (.inl (a_ic 0 1)) (s_iconst (n := 0) (v := 0) rfl (by decide +kernel)) <|
  allq qX8_weigh 1 (.inl (a_is 3 2)) (s_istore_n (q := 3) (i := 3) rfl (by decide +kernel) (by decide)) <|
  allq qX8_weigh 2 (.inl (a_ic 0 3)) (s_iconst (n := 0) (v := 0) rfl (by decide +kernel)) <|
  allq qX8_weigh 3 (.inl (a_is 4 5)) (s_istore (i := 4) (by decide +kernel) (by decide)) <|
  allq qX8_weigh 5 (.inl (a_il 4 7)) (s_iload (i := 4) (by decide +kernel)) <|
  allq qX8_weigh 7 (.inl (a_al 0 8)) (s_aload_n (q := 0) (i := 0) rfl (by decide +kernel)) <|
  allq qX8_weigh 8 (.inl (a_get 8 0 11)) (gX8 (f0 := 0) (by decide) kw_205 (by decide +kernel)) <|
  allq qX8_weigh 11 (.inl (o_icmp_gt 34 14)) (s_icmp_gt (off := 23) (by decide +kernel) (by decide)) <|
  allq qX8_weigh 14 (.inl (a_il 4 16)) (s_iload (i := 4) (by decide +kernel)) <|
  allq qX8_weigh 16 (.inl (a_al 1 17)) (s_aload_n (q := 1) (i := 1) rfl (by decide +kernel)) <|
  allq qX8_weigh 17 (.inl (a_len 18)) (s_len (by decide +kernel)) <|
  allq qX8_weigh 18 (.inl (o_icmp_ge 34 21)) (s_icmp_ge (off := 16) (by decide +kernel) (by decide)) <|
  allq qX8_weigh 21 (.inl (a_il 3 22)) (s_iload_n (q := 3) (i := 3) rfl (by decide +kernel)) <|
  allq qX8_weigh 22 (.inl (a_al 1 23)) (s_aload_n (q := 1) (i := 1) rfl (by decide +kernel)) <|
  allq qX8_weigh 23 (.inl (a_il 4 25)) (s_iload (i := 4) (by decide +kernel)) <|
  allq qX8_weigh 25 (.inl (a_iald 26)) (s_iald (by decide +kernel)) <|
  allq qX8_weigh 26 (.inl (o_iadd 27)) (s_iadd (by decide +kernel)) <|
  allq qX8_weigh 27 (.inl (a_is 3 28)) (s_istore_n (q := 3) (i := 3) rfl (by decide +kernel) (by decide)) <|
  allq qX8_weigh 28 (.inl (a_inc 4 1 31)) (s_iinc (i := 4) (n := 1) (n2 := 1) rfl (by decide +kernel) (by decide)) <|
  allq qX8_weigh 31 (.inl (a_go 5)) (s_goto (off := (-26)) (by decide +kernel) (by decide)) <|
  allq qX8_weigh 34 (.inl (a_al 0 35)) (s_aload_n (q := 0) (i := 0) rfl (by decide +kernel)) <|
  allq qX8_weigh 35 (.inl (a_il 2 36)) (s_iload_n (q := 2) (i := 2) rfl (by decide +kernel)) <|
  allq qX8_weigh 36 (.inl (a_put 8 7 .int 39)) (pX8 (f0 := 7) (by decide) rfl rfl tOk kw_212 (by decide +kernel)) <|
  allq qX8_weigh 39 (.inl (a_ic 1 40)) (s_iconst (n := 1) (v := 1) rfl (by decide +kernel)) <|
  allq qX8_weigh 40 (.inl (a_il 2 41)) (s_iload_n (q := 2) (i := 2) rfl (by decide +kernel)) <|
  allq qX8_weigh 41 (.inl (o_ishl 42)) (s_ishl (by decide +kernel)) <|
  allq qX8_weigh 42 (.inl (a_is 4 44)) (s_istore (i := 4) (by decide +kernel) (by decide)) <|
  allq qX8_weigh 44 (.inl (a_ic 0 45)) (s_iconst (n := 0) (v := 0) rfl (by decide +kernel)) <|
  allq qX8_weigh 45 (.inl (a_is 5 47)) (s_istore (i := 5) (by decide +kernel) (by decide)) <|
  allq qX8_weigh 47 (.inl (a_il 5 49)) (s_iload (i := 5) (by decide +kernel)) <|
  allq qX8_weigh 49 (.inl (a_al 0 50)) (s_aload_n (q := 0) (i := 0) rfl (by decide +kernel)) <|
  allq qX8_weigh 50 (.inl (a_get 8 0 53)) (gX8 (f0 := 0) (by decide) kw_205 (by decide +kernel)) <|
  allq qX8_weigh 53 (.inl (o_icmp_gt 139 56)) (s_icmp_gt (off := 86) (by decide +kernel) (by decide)) <|
  allq qX8_weigh 56 (.inl (a_il 5 58)) (s_iload (i := 5) (by decide +kernel)) <|
  allq qX8_weigh 58 (.inl (a_al 1 59)) (s_aload_n (q := 1) (i := 1) rfl (by decide +kernel)) <|
  allq qX8_weigh 59 (.inl (a_len 60)) (s_len (by decide +kernel)) <|
  allq qX8_weigh 60 (.inl (o_icmp_ge 139 63)) (s_icmp_ge (off := 79) (by decide +kernel) (by decide)) <|
  allq qX8_weigh 63 (.inl (a_il 3 64)) (s_iload_n (q := 3) (i := 3) rfl (by decide +kernel)) <|
  allq qX8_weigh 64 (.inl (o_if_le 139 67)) (s_if_le (off := 75) (by decide +kernel) (by decide)) <|
  allq qX8_weigh 67 (.inl (a_al 1 68)) (s_aload_n (q := 1) (i := 1) rfl (by decide +kernel)) <|
  alln
set_option maxRecDepth 20000 in
theorem kX8_weigh_1 : ∀ q ∈ tX8_weigh_1, qX8_weigh q :=
  allq qX8_weigh 68 (.inl (a_il 5 70)) (s_iload (i := 5) (by decide +kernel)) <|
  allq qX8_weigh 70 (.inl (a_iald 71)) (s_iald (by decide +kernel)) <|
  allq qX8_weigh 71 (.inl (a_il 2 72)) (s_iload_n (q := 2) (i := 2) rfl (by decide +kernel)) <|
  allq qX8_weigh 72 (.inl (o_ishl 73)) (s_ishl (by decide +kernel)) <|
  allq qX8_weigh 73 (.inl (a_is 6 75)) (s_istore (i := 6) (by decide +kernel) (by decide)) <|
  allq qX8_weigh 75 (.inl (a_al 0 76)) (s_aload_n (q := 0) (i := 0) rfl (by decide +kernel)) <|
  allq qX8_weigh 76 (.inl (a_get 8 1 79)) (gX8 (f0 := 1) (by decide) kw_206 (by decide +kernel)) <|
  allq qX8_weigh 79 (.inl (a_il 5 81)) (s_iload (i := 5) (by decide +kernel)) <|
  allq qX8_weigh 81 (.inl (a_al 1 82)) (s_aload_n (q := 1) (i := 1) rfl (by decide +kernel)) <|
  allq qX8_weigh 82 (.inl (a_il 5 84)) (s_iload (i := 5) (by decide +kernel)) <|
  allq qX8_weigh 84 (.inl (a_iald 85)) (s_iald (by decide +kernel)) <|
  allq qX8_weigh 85 (.inl (o_if_ne 92 88)) (s_if_ne (off := 7) (by decide +kernel) (by decide)) <|
  allq qX8_weigh 88 (.inl (a_ic 0 89)) (s_iconst (n := 0) (v := 0) rfl (by decide +kernel)) <|
  allq qX8_weigh 89 (.inl (a_go 106)) (s_goto (off := 17) (by decide +kernel) (by decide)) <|
  allq qX8_weigh 92 (.inl (a_il 6 94)) (s_iload (i := 6) (by decide +kernel)) <|
  allq qX8_weigh 94 (.inl (a_il 3 95)) (s_iload_n (q := 3) (i := 3) rfl (by decide +kernel)) <|
  allq qX8_weigh 95 (.inl (o_icmp_ge 102 98)) (s_icmp_ge (off := 7) (by decide +kernel) (by decide)) <|
  allq qX8_weigh 98 (.inl (a_ic (-1) 99)) (s_iconst (n := (-1)) (v := (-1)) rfl (by decide +kernel)) <|
  allq qX8_weigh 99 (.inl (a_go 106)) (s_goto (off := 7) (by decide +kernel) (by decide)) <|
  allq qX8_weigh 102 (.inl (a_il 6 104)) (s_iload (i := 6) (by decide +kernel)) <|
  allq qX8_weigh 104 (.inl (a_il 3 105)) (s_iload_n (q := 3) (i := 3) rfl (by decide +kernel)) <|
  allq qX8_weigh 105 (.inl (o_idiv 106)) (s_idiv (by decide +kernel)) <|
  allq qX8_weigh 106 (.inl (a_iast 107)) (s_iast (by decide +kernel)) <|
  allq qX8_weigh 107 (.inl (a_al 0 108)) (s_aload_n (q := 0) (i := 0) rfl (by decide +kernel)) <|
  allq qX8_weigh 108 (.inl (a_get 8 2 111)) (gX8 (f0 := 2) (by decide) kw_207 (by decide +kernel)) <|
  allq qX8_weigh 111 (.inl (a_il 5 113)) (s_iload (i := 5) (by decide +kernel)) <|
  allq qX8_weigh 113 (.inl (a_il 6 115)) (s_iload (i := 6) (by decide +kernel)) <|
  allq qX8_weigh 115 (.inl (a_il 3 116)) (s_iload_n (q := 3) (i := 3) rfl (by decide +kernel)) <|
  allq qX8_weigh 116 (.inl (o_irem 117)) (s_irem (by decide +kernel)) <|
  allq qX8_weigh 117 (.inl (a_iast 118)) (s_iast (by decide +kernel)) <|
  allq qX8_weigh 118 (.inl (a_il 4 120)) (s_iload (i := 4) (by decide +kernel)) <|
  allq qX8_weigh 120 (.inl (a_al 0 121)) (s_aload_n (q := 0) (i := 0) rfl (by decide +kernel)) <|
  allq qX8_weigh 121 (.inl (a_get 8 1 124)) (gX8 (f0 := 1) (by decide) kw_206 (by decide +kernel)) <|
  allq qX8_weigh 124 (.inl (a_il 5 126)) (s_iload (i := 5) (by decide +kernel)) <|
  allq qX8_weigh 126 (.inl (a_iald 127)) (s_iald (by decide +kernel)) <|
  allq qX8_weigh 127 (.inl (o_mabs 130)) (s_mabs kw_507 kw_508 kw_106 kw_509 (by decide +kernel)) <|
  allq qX8_weigh 130 (.inl (o_isub 131)) (s_isub (by decide +kernel)) <|
  allq qX8_weigh 131 (.inl (a_is 4 133)) (s_istore (i := 4) (by decide +kernel) (by decide)) <|
  allq qX8_weigh 133 (.inl (a_inc 5 1 136)) (s_iinc (i := 5) (n := 1) (n2 := 1) rfl (by decide +kernel) (by decide)) <|
  allq qX8_weigh 136 (.inl (a_go 47)) (s_goto (off := (-89)) (by decide +kernel) (by decide)) <|
  alln
set_option maxRecDepth 20000 in
theorem kX8_weigh_2 : ∀ q ∈ tX8_weigh_2, qX8_weigh q :=
  allq qX8_weigh 139 (.inl (a_il 4 141)) (s_iload (i := 4) (by decide +kernel)) <|
  allq qX8_weigh 141 (.inl (o_if_le 154 144)) (s_if_le (off := 13) (by decide +kernel) (by decide)) <|
  allq qX8_weigh 144 (.inl (a_al 0 145)) (s_aload_n (q := 0) (i := 0) rfl (by decide +kernel)) <|
  allq qX8_weigh 145 (.inl (a_il 4 147)) (s_iload (i := 4) (by decide +kernel)) <|
  allq qX8_weigh 147 (.inl (a_il 3 148)) (s_iload_n (q := 3) (i := 3) rfl (by decide +kernel)) <|
  allq qX8_weigh 148 (.inr (.inl (101, 3, 9))) (okV (y := yX8_giveMore) kw_907 kw_109 rfl rfl (by decide +kernel) kw_906 kw_19 kw_904) <|
  allq qX8_weigh 151 (.inl (a_go 161)) (s_goto (off := 10) (by decide +kernel) (by decide)) <|
  allq qX8_weigh 154 (.inl (a_al 0 155)) (s_aload_n (q := 0) (i := 0) rfl (by decide +kernel)) <|
  allq qX8_weigh 155 (.inl (a_il 4 157)) (s_iload (i := 4) (by decide +kernel)) <|
  allq qX8_weigh 157 (.inl (o_ineg 158)) (s_ineg (by decide +kernel)) <|
  allq qX8_weigh 158 (.inr (.inl (102, 2, 9))) (okV (y := yX8_takeAway) kw_911 kw_109 rfl rfl (by decide +kernel) kw_910 kw_20 kw_908) <|
  allq qX8_weigh 161 (.inr (.inr 0)) (Or.inl ⟨rfl, rfl, by decide +kernel⟩) <|
  alln
theorem kX8_weigh : ∀ q ∈ tX8_weigh, qX8_weigh q := alla kX8_weigh_0 (alla kX8_weigh_1 kX8_weigh_2)
abbrev qX8_giveMore : Nat × aI → Prop := OkQ RX8 "giveMore" cX8_giveMore 6 (none)
set_option maxRecDepth 20000 in
theorem kX8_giveMore_0 : ∀ q ∈ tX8_giveMore_0, qX8_giveMore q :=
  allq qX8_giveMore 0 (.inl (a_ic 0 1)) (s_iconst (n := 0) (v := 0) rfl (by decide +kernel)) <|
  allq qX8_giveMore 1 (.inl (a_is 3 2)) (s_istore_n (q := 3) (i := 3) rfl (by decide +kernel) (by decide)) <|
  allq qX8_giveMore 2 (.inl (a_il 3 3)) (s_iload_n (q := 3) (i := 3) rfl (by decide +kernel)) <|
  allq qX8_giveMore 3 (.inl (a_il 1 4)) (s_iload_n (q := 1) (i := 1) rfl (by decide +kernel)) <|
  allq qX8_giveMore 4 (.inl (o_icmp_ge 97 7)) (s_icmp_ge (off := 93) (by decide +kernel) (by decide)) <|
  allq qX8_giveMore 7 (.inl (a_ic (-1) 8)) (s_iconst (n := (-1)) (v := (-1)) rfl (by decide +kernel)) <|
  allq qX8_giveMore 8 (.inl (a_is 4 10)) (s_istore (i := 4) (by decide +kernel) (by decide)) <|
  allq qX8_giveMore 10 (.inl (a_ic 0 11)) (s_iconst (n := 0) (v := 0) rfl (by decide +kernel)) <|
  allq qX8_giveMore 11 (.inl (a_is 5 13)) (s_istore (i := 5) (by decide +kernel) (by decide)) <|
  allq qX8_giveMore 13 (.inl (a_il 5 15)) (s_iload (i := 5) (by decide +kernel)) <|
  allq qX8_giveMore 15 (.inl (a_al 0 16)) (s_aload_n (q := 0) (i := 0) rfl (by decide +kernel)) <|
  allq qX8_giveMore 16 (.inl (a_get 8 0 19)) (gX8 (f0 := 0) (by decide) kw_205 (by decide +kernel)) <|
  allq qX8_giveMore 19 (.inl (o_icmp_gt 64 22)) (s_icmp_gt (off := 45) (by decide +kernel) (by decide)) <|
  allq qX8_giveMore 22 (.inl (a_al 0 23)) (s_aload_n (q := 0) (i := 0) rfl (by decide +kernel)) <|
  allq qX8_giveMore 23 (.inl (a_get 8 1 26)) (gX8 (f0 := 1) (by decide) kw_206 (by decide +kernel)) <|
  allq qX8_giveMore 26 (.inl (a_il 5 28)) (s_iload (i := 5) (by decide +kernel)) <|
  allq qX8_giveMore 28 (.inl (a_iald 29)) (s_iald (by decide +kernel)) <|
  allq qX8_giveMore 29 (.inl (o_if_le 58 32)) (s_if_le (off := 29) (by decide +kernel) (by decide)) <|
  allq qX8_giveMore 32 (.inl (a_il 4 34)) (s_iload (i := 4) (by decide +kernel)) <|
  allq qX8_giveMore 34 (.inl (o_if_lt 54 37)) (s_if_lt (off := 20) (by decide +kernel) (by decide)) <|
  allq qX8_giveMore 37 (.inl (a_al 0 38)) (s_aload_n (q := 0) (i := 0) rfl (by decide +kernel)) <|
  allq qX8_giveMore 38 (.inl (a_get 8 2 41)) (gX8 (f0 := 2) (by decide) kw_207 (by decide +kernel)) <|
  allq qX8_giveMore 41 (.inl (a_il 5 43)) (s_iload (i := 5) (by decide +kernel)) <|
  allq qX8_giveMore 43 (.inl (a_iald 44)) (s_iald (by decide +kernel)) <|
  allq qX8_giveMore 44 (.inl (a_al 0 45)) (s_aload_n (q := 0) (i := 0) rfl (by decide +kernel)) <|
  allq qX8_giveMore 45 (.inl (a_get 8 2 48)) (gX8 (f0 := 2) (by decide) kw_207 (by decide +kernel)) <|
  allq qX8_giveMore 48 (.inl (a_il 4 50)) (s_iload (i := 4) (by decide +kernel)) <|
  allq qX8_giveMore 50 (.inl (a_iald 51)) (s_iald (by decide +kernel)) <|
  allq qX8_giveMore 51 (.inl (o_icmp_le 58 54)) (s_icmp_le (off := 7) (by decide +kernel) (by decide)) <|
  allq qX8_giveMore 54 (.inl (a_il 5 56)) (s_iload (i := 5) (by decide +kernel)) <|
  allq qX8_giveMore 56 (.inl (a_is 4 58)) (s_istore (i := 4) (by decide +kernel) (by decide)) <|
  allq qX8_giveMore 58 (.inl (a_inc 5 1 61)) (s_iinc (i := 5) (n := 1) (n2 := 1) rfl (by decide +kernel) (by decide)) <|
  allq qX8_giveMore 61 (.inl (a_go 13)) (s_goto (off := (-48)) (by decide +kernel) (by decide)) <|
  allq qX8_giveMore 64 (.inl (a_il 4 66)) (s_iload (i := 4) (by decide +kernel)) <|
  allq qX8_giveMore 66 (.inl (o_if_lt 91 69)) (s_if_lt (off := 25) (by decide +kernel) (by decide)) <|
  allq qX8_giveMore 69 (.inl (a_al 0 70)) (s_aload_n (q := 0) (i := 0) rfl (by decide +kernel)) <|
  allq qX8_giveMore 70 (.inl (a_get 8 1 73)) (gX8 (f0 := 1) (by decide) kw_206 (by decide +kernel)) <|
  allq qX8_giveMore 73 (.inl (a_il 4 75)) (s_iload (i := 4) (by decide +kernel)) <|
  allq qX8_giveMore 75 (.inl (a_dup2 76)) (s_dup2 (by decide +kernel)) <|
  allq qX8_giveMore 76 (.inl (a_iald 77)) (s_iald (by decide +kernel)) <|
  alln
set_option maxRecDepth 20000 in
theorem kX8_giveMore_1 : ∀ q ∈ tX8_giveMore_1, qX8_giveMore q :=
  allq qX8_giveMore 77 (.inl (a_ic 1 78)) (s_iconst (n := 1) (v := 1) rfl (by decide +kernel)) <|
  allq qX8_giveMore 78 (.inl (o_iadd 79)) (s_iadd (by decide +kernel)) <|
  allq qX8_giveMore 79 (.inl (a_iast 80)) (s_iast (by decide +kernel)) <|
  allq qX8_giveMore 80 (.inl (a_al 0 81)) (s_aload_n (q := 0) (i := 0) rfl (by decide +kernel)) <|
  allq qX8_giveMore 81 (.inl (a_get 8 2 84)) (gX8 (f0 := 2) (by decide) kw_207 (by decide +kernel)) <|
  allq qX8_giveMore 84 (.inl (a_il 4 86)) (s_iload (i := 4) (by decide +kernel)) <|
  allq qX8_giveMore 86 (.inl (a_dup2 87)) (s_dup2 (by decide +kernel)) <|
  allq qX8_giveMore 87 (.inl (a_iald 88)) (s_iald (by decide +kernel)) <|
  allq qX8_giveMore 88 (.inl (a_il 2 89)) (s_iload_n (q := 2) (i := 2) rfl (by decide +kernel)) <|
  allq qX8_giveMore 89 (.inl (o_isub 90)) (s_isub (by decide +kernel)) <|
  allq qX8_giveMore 90 (.inl (a_iast 91)) (s_iast (by decide +kernel)) <|
  allq qX8_giveMore 91 (.inl (a_inc 3 1 94)) (s_iinc (i := 3) (n := 1) (n2 := 1) rfl (by decide +kernel) (by decide)) <|
  allq qX8_giveMore 94 (.inl (a_go 2)) (s_goto (off := (-92)) (by decide +kernel) (by decide)) <|
  allq qX8_giveMore 97 (.inr (.inr 0)) (Or.inl ⟨rfl, rfl, by decide +kernel⟩) <|
  alln
theorem kX8_giveMore : ∀ q ∈ tX8_giveMore, qX8_giveMore q := alla kX8_giveMore_0 kX8_giveMore_1
abbrev qX8_takeAway : Nat × aI → Prop := OkQ RX8 "takeAway" cX8_takeAway 5 (none)
set_option maxRecDepth 20000 in
theorem kX8_takeAway_0 : ∀ q ∈ tX8_takeAway_0, qX8_takeAway q :=
  allq qX8_takeAway 0 (.inl (a_ic 0 1)) (s_iconst (n := 0) (v := 0) rfl (by decide +kernel)) <|
  allq qX8_takeAway 1 (.inl (a_is 2 2)) (s_istore_n (q := 2) (i := 2) rfl (by decide +kernel) (by decide)) <|
  allq qX8_takeAway 2 (.inl (a_il 2 3)) (s_iload_n (q := 2) (i := 2) rfl (by decide +kernel)) <|
  allq qX8_takeAway 3 (.inl (a_il 1 4)) (s_iload_n (q := 1) (i := 1) rfl (by decide +kernel)) <|
  allq qX8_takeAway 4 (.inl (o_icmp_ge 62 7)) (s_icmp_ge (off := 58) (by decide +kernel) (by decide)) <|
  allq qX8_takeAway 7 (.inl (a_ic 0 8)) (s_iconst (n := 0) (v := 0) rfl (by decide +kernel)) <|
  allq qX8_takeAway 8 (.inl (a_is 3 9)) (s_istore_n (q := 3) (i := 3) rfl (by decide +kernel) (by decide)) <|
  allq qX8_takeAway 9 (.inl (a_ic 1 10)) (s_iconst (n := 1) (v := 1) rfl (by decide +kernel)) <|
  allq qX8_takeAway 10 (.inl (a_is 4 12)) (s_istore (i := 4) (by decide +kernel) (by decide)) <|
  allq qX8_takeAway 12 (.inl (a_il 4 14)) (s_iload (i := 4) (by decide +kernel)) <|
  allq qX8_takeAway 14 (.inl (a_al 0 15)) (s_aload_n (q := 0) (i := 0) rfl (by decide +kernel)) <|
  allq qX8_takeAway 15 (.inl (a_get 8 0 18)) (gX8 (f0 := 0) (by decide) kw_205 (by decide +kernel)) <|
  allq qX8_takeAway 18 (.inl (o_icmp_gt 46 21)) (s_icmp_gt (off := 28) (by decide +kernel) (by decide)) <|
  allq qX8_takeAway 21 (.inl (a_al 0 22)) (s_aload_n (q := 0) (i := 0) rfl (by decide +kernel)) <|
  allq qX8_takeAway 22 (.inl (a_get 8 1 25)) (gX8 (f0 := 1) (by decide) kw_206 (by decide +kernel)) <|
  allq qX8_takeAway 25 (.inl (a_il 4 27)) (s_iload (i := 4) (by decide +kernel)) <|
  allq qX8_takeAway 27 (.inl (a_iald 28)) (s_iald (by decide +kernel)) <|
  allq qX8_takeAway 28 (.inl (a_al 0 29)) (s_aload_n (q := 0) (i := 0) rfl (by decide +kernel)) <|
  allq qX8_takeAway 29 (.inl (a_get 8 1 32)) (gX8 (f0 := 1) (by decide) kw_206 (by decide +kernel)) <|
  allq qX8_takeAway 32 (.inl (a_il 3 33)) (s_iload_n (q := 3) (i := 3) rfl (by decide +kernel)) <|
  allq qX8_takeAway 33 (.inl (a_iald 34)) (s_iald (by decide +kernel)) <|
  allq qX8_takeAway 34 (.inl (o_icmp_le 40 37)) (s_icmp_le (off := 6) (by decide +kernel) (by decide)) <|
  allq qX8_takeAway 37 (.inl (a_il 4 39)) (s_iload (i := 4) (by decide +kernel)) <|
  allq qX8_takeAway 39 (.inl (a_is 3 40)) (s_istore_n (q := 3) (i := 3) rfl (by decide +kernel) (by decide)) <|
  allq qX8_takeAway 40 (.inl (a_inc 4 1 43)) (s_iinc (i := 4) (n := 1) (n2 := 1) rfl (by decide +kernel) (by decide)) <|
  allq qX8_takeAway 43 (.inl (a_go 12)) (s_goto (off := (-31)) (by decide +kernel) (by decide)) <|
  allq qX8_takeAway 46 (.inl (a_al 0 47)) (s_aload_n (q := 0) (i := 0) rfl (by decide +kernel)) <|
  allq qX8_takeAway 47 (.inl (a_get 8 1 50)) (gX8 (f0 := 1) (by decide) kw_206 (by decide +kernel)) <|
  allq qX8_takeAway 50 (.inl (a_il 3 51)) (s_iload_n (q := 3) (i := 3) rfl (by decide +kernel)) <|
  allq qX8_takeAway 51 (.inl (a_dup2 52)) (s_dup2 (by decide +kernel)) <|
  allq qX8_takeAway 52 (.inl (a_iald 53)) (s_iald (by decide +kernel)) <|
  allq qX8_takeAway 53 (.inl (a_ic 1 54)) (s_iconst (n := 1) (v := 1) rfl (by decide +kernel)) <|
  allq qX8_takeAway 54 (.inl (o_isub 55)) (s_isub (by decide +kernel)) <|
  allq qX8_takeAway 55 (.inl (a_iast 56)) (s_iast (by decide +kernel)) <|
  allq qX8_takeAway 56 (.inl (a_inc 2 1 59)) (s_iinc (i := 2) (n := 1) (n2 := 1) rfl (by decide +kernel) (by decide)) <|
  allq qX8_takeAway 59 (.inl (a_go 2)) (s_goto (off := (-57)) (by decide +kernel) (by decide)) <|
  allq qX8_takeAway 62 (.inr (.inr 0)) (Or.inl ⟨rfl, rfl, by decide +kernel⟩) <|
  alln
theorem kX8_takeAway : ∀ q ∈ tX8_takeAway, qX8_takeAway q := kX8_takeAway_0
abbrev qX8_spread : Nat × aI → Prop := OkQ RX8 "spread" cX8_spread 6 (none)
set_option maxRecDepth 20000 in
theorem kX8_spread_0 : ∀ q ∈ tX8_spread_0, qX8_spread q :=
  allq qX8_spread 0 (.inl (a_ic 1 1)) (s_iconst (n := 1) (v := 1) rfl (by decide +kernel)) <|
  allq qX8_spread 1 (.inl (a_al 0 2)) (s_aload_n (q := 0) (i := 0) rfl (by decide +kernel)) <|
  allq qX8_spread 2 (.inl (a_get 8 7 5)) (gX8 (f0 := 7) (by decide) kw_212 (by decide +kernel)) <|
  allq qX8_spread 5 (.inl (o_ishl 6)) (s_ishl (by decide +kernel)) <|
  allq qX8_spread 6 (.inl (a_al 0 7)) (s_aload_n (q := 0) (i := 0) rfl (by decide +kernel)) <|
  allq qX8_spread 7 (.inl (a_get 8 5 10)) (gX8 (f0 := 5) (by decide) kw_210 (by decide +kernel)) <|
  allq qX8_spread 10 (.inl (a_len 11)) (s_len (by decide +kernel)) <|
  allq qX8_spread 11 (.inl (o_mmin 14)) (s_mmin kw_497 kw_498 kw_106 kw_499 (by decide +kernel)) <|
  allq qX8_spread 14 (.inl (a_is 1 15)) (s_istore_n (q := 1) (i := 1) rfl (by decide +kernel) (by decide)) <|
  allq qX8_spread 15 (.inl (a_il 1 16)) (s_iload_n (q := 1) (i := 1) rfl (by decide +kernel)) <|
  allq qX8_spread 16 (.inl (a_is 2 17)) (s_istore_n (q := 2) (i := 2) rfl (by decide +kernel) (by decide)) <|
  allq qX8_spread 17 (.inl (a_ic 0 18)) (s_iconst (n := 0) (v := 0) rfl (by decide +kernel)) <|
  allq qX8_spread 18 (.inl (a_is 3 19)) (s_istore_n (q := 3) (i := 3) rfl (by decide +kernel) (by decide)) <|
  allq qX8_spread 19 (.inl (a_ic 0 20)) (s_iconst (n := 0) (v := 0) rfl (by decide +kernel)) <|
  allq qX8_spread 20 (.inl (a_is 4 22)) (s_istore (i := 4) (by decide +kernel) (by decide)) <|
  allq qX8_spread 22 (.inl (a_il 4 24)) (s_iload (i := 4) (by decide +kernel)) <|
  allq qX8_spread 24 (.inl (a_al 0 25)) (s_aload_n (q := 0) (i := 0) rfl (by decide +kernel)) <|
  allq qX8_spread 25 (.inl (a_get 8 0 28)) (gX8 (f0 := 0) (by decide) kw_205 (by decide +kernel)) <|
  allq qX8_spread 28 (.inl (o_icmp_gt 113 31)) (s_icmp_gt (off := 85) (by decide +kernel) (by decide)) <|
  allq qX8_spread 31 (.inl (a_al 0 32)) (s_aload_n (q := 0) (i := 0) rfl (by decide +kernel)) <|
  allq qX8_spread 32 (.inl (a_get 8 1 35)) (gX8 (f0 := 1) (by decide) kw_206 (by decide +kernel)) <|
  allq qX8_spread 35 (.inl (a_il 4 37)) (s_iload (i := 4) (by decide +kernel)) <|
  allq qX8_spread 37 (.inl (a_iald 38)) (s_iald (by decide +kernel)) <|
  allq qX8_spread 38 (.inl (o_mabs 41)) (s_mabs kw_507 kw_508 kw_106 kw_509 (by decide +kernel)) <|
  allq qX8_spread 41 (.inl (a_is 5 43)) (s_istore (i := 5) (by decide +kernel) (by decide)) <|
  allq qX8_spread 43 (.inl (a_al 0 44)) (s_aload_n (q := 0) (i := 0) rfl (by decide +kernel)) <|
  allq qX8_spread 44 (.inl (a_get 8 3 47)) (gX8 (f0 := 3) (by decide) kw_208 (by decide +kernel)) <|
  allq qX8_spread 47 (.inl (a_il 4 49)) (s_iload (i := 4) (by decide +kernel)) <|
  allq qX8_spread 49 (.inl (a_il 3 50)) (s_iload_n (q := 3) (i := 3) rfl (by decide +kernel)) <|
  allq qX8_spread 50 (.inl (a_iast 51)) (s_iast (by decide +kernel)) <|
  allq qX8_spread 51 (.inl (a_al 0 52)) (s_aload_n (q := 0) (i := 0) rfl (by decide +kernel)) <|
  allq qX8_spread 52 (.inl (a_get 8 4 55)) (gX8 (f0 := 4) (by decide) kw_209 (by decide +kernel)) <|
  allq qX8_spread 55 (.inl (a_il 4 57)) (s_iload (i := 4) (by decide +kernel)) <|
  allq qX8_spread 57 (.inl (a_il 5 59)) (s_iload (i := 5) (by decide +kernel)) <|
  allq qX8_spread 59 (.inl (o_if_le 75 62)) (s_if_le (off := 16) (by decide +kernel) (by decide)) <|
  allq qX8_spread 62 (.inl (a_al 0 63)) (s_aload_n (q := 0) (i := 0) rfl (by decide +kernel)) <|
  allq qX8_spread 63 (.inl (a_get 8 7 66)) (gX8 (f0 := 7) (by decide) kw_212 (by decide +kernel)) <|
  allq qX8_spread 66 (.inl (a_il 5 68)) (s_iload (i := 5) (by decide +kernel)) <|
  allq qX8_spread 68 (.inr (.inl (140, 1, 0))) (okS (y := yX11_log) kw_512 kw_104 rfl (by decide +kernel) kw_511 (Or.inr ⟨"StatePress", kn_510⟩)) <|
  allq qX8_spread 71 (.inl (o_isub 72)) (s_isub (by decide +kernel)) <|
  alln
set_option maxRecDepth 20000 in
theorem kX8_spread_1 : ∀ q ∈ tX8_spread_1, qX8_spread q :=
  allq qX8_spread 72 (.inl (a_go 76)) (s_goto (off := 4) (by decide +kernel) (by decide)) <|
  allq qX8_spread 75 (.inl (a_ic 0 76)) (s_iconst (n := 0) (v := 0) rfl (by decide +kernel)) <|
  allq qX8_spread 76 (.inl (a_iast 77)) (s_iast (by decide +kernel)) <|
  allq qX8_spread 77 (.inl (a_il 3 78)) (s_iload_n (q := 3) (i := 3) rfl (by decide +kernel)) <|
  allq qX8_spread 78 (.inl (a_il 5 80)) (s_iload (i := 5) (by decide +kernel)) <|
  allq qX8_spread 80 (.inl (o_iadd 81)) (s_iadd (by decide +kernel)) <|
  allq qX8_spread 81 (.inl (a_is 3 82)) (s_istore_n (q := 3) (i := 3) rfl (by decide +kernel) (by decide)) <|
  allq qX8_spread 82 (.inl (a_al 0 83)) (s_aload_n (q := 0) (i := 0) rfl (by decide +kernel)) <|
  allq qX8_spread 83 (.inl (a_get 8 1 86)) (gX8 (f0 := 1) (by decide) kw_206 (by decide +kernel)) <|
  allq qX8_spread 86 (.inl (a_il 4 88)) (s_iload (i := 4) (by decide +kernel)) <|
  allq qX8_spread 88 (.inl (a_iald 89)) (s_iald (by decide +kernel)) <|
  allq qX8_spread 89 (.inl (o_if_ge 107 92)) (s_if_ge (off := 18) (by decide +kernel) (by decide)) <|
  allq qX8_spread 92 (.inl (a_il 2 93)) (s_iload_n (q := 2) (i := 2) rfl (by decide +kernel)) <|
  allq qX8_spread 93 (.inl (o_if_le 107 96)) (s_if_le (off := 14) (by decide +kernel) (by decide)) <|
  allq qX8_spread 96 (.inl (a_inc 2 (-1) 99)) (s_iinc (i := 2) (n := (-1)) (n2 := (-1)) rfl (by decide +kernel) (by decide)) <|
  allq qX8_spread 99 (.inl (a_al 0 100)) (s_aload_n (q := 0) (i := 0) rfl (by decide +kernel)) <|
  allq qX8_spread 100 (.inl (a_get 8 5 103)) (gX8 (f0 := 5) (by decide) kw_210 (by decide +kernel)) <|
  allq qX8_spread 103 (.inl (a_il 2 104)) (s_iload_n (q := 2) (i := 2) rfl (by decide +kernel)) <|
  allq qX8_spread 104 (.inl (a_il 4 106)) (s_iload (i := 4) (by decide +kernel)) <|
  allq qX8_spread 106 (.inl (a_iast 107)) (s_iast (by decide +kernel)) <|
  allq qX8_spread 107 (.inl (a_inc 4 1 110)) (s_iinc (i := 4) (n := 1) (n2 := 1) rfl (by decide +kernel) (by decide)) <|
  allq qX8_spread 110 (.inl (a_go 22)) (s_goto (off := (-88)) (by decide +kernel) (by decide)) <|
  allq qX8_spread 113 (.inl (a_al 0 114)) (s_aload_n (q := 0) (i := 0) rfl (by decide +kernel)) <|
  allq qX8_spread 114 (.inl (a_il 2 115)) (s_iload_n (q := 2) (i := 2) rfl (by decide +kernel)) <|
  allq qX8_spread 115 (.inl (a_il 1 116)) (s_iload_n (q := 1) (i := 1) rfl (by decide +kernel)) <|
  allq qX8_spread 116 (.inr (.inl (104, 3, 9))) (okV (y := yX8_spreadBelow) kw_516 kw_109 rfl rfl (by decide +kernel) kw_515 kw_0 kw_513) <|
  allq qX8_spread 119 (.inl (a_al 0 120)) (s_aload_n (q := 0) (i := 0) rfl (by decide +kernel)) <|
  allq qX8_spread 120 (.inl (a_il 1 121)) (s_iload_n (q := 1) (i := 1) rfl (by decide +kernel)) <|
  allq qX8_spread 121 (.inr (.inl (105, 2, 9))) (okV (y := yX8_sortPlaces) kw_520 kw_109 rfl rfl (by decide +kernel) kw_519 kw_1 kw_517) <|
  allq qX8_spread 124 (.inl (a_al 0 125)) (s_aload_n (q := 0) (i := 0) rfl (by decide +kernel)) <|
  allq qX8_spread 125 (.inl (a_ic 1 126)) (s_iconst (n := 1) (v := 1) rfl (by decide +kernel)) <|
  allq qX8_spread 126 (.inl (a_put 8 8 .boolean 129)) (pX8 (f0 := 8) (by decide) rfl rfl tOk kw_215 (by decide +kernel)) <|
  allq qX8_spread 129 (.inr (.inr 0)) (Or.inl ⟨rfl, rfl, by decide +kernel⟩) <|
  alln
theorem kX8_spread : ∀ q ∈ tX8_spread, qX8_spread q := alla kX8_spread_0 kX8_spread_1
abbrev qX8_spreadBelow : Nat × aI → Prop := OkQ RX8 "spreadBelow" cX8_spreadBelow 8 (none)
set_option maxRecDepth 20000 in
theorem kX8_spreadBelow_0 : ∀ q ∈ tX8_spreadBelow_0, qX8_spreadBelow q :=
  allq qX8_spreadBelow 0 (.inl (a_il 2 1)) (s_iload_n (q := 2) (i := 2) rfl (by decide +kernel)) <|
  allq qX8_spreadBelow 1 (.inl (a_ic 1 2)) (s_iconst (n := 1) (v := 1) rfl (by decide +kernel)) <|
  allq qX8_spreadBelow 2 (.inl (o_ishr 3)) (s_ishr (by decide +kernel)) <|
  allq qX8_spreadBelow 3 (.inl (a_il 2 4)) (s_iload_n (q := 2) (i := 2) rfl (by decide +kernel)) <|
  allq qX8_spreadBelow 4 (.inl (a_ic 3 5)) (s_iconst (n := 3) (v := 3) rfl (by decide +kernel)) <|
  allq qX8_spreadBelow 5 (.inl (o_ishr 6)) (s_ishr (by decide +kernel)) <|
  allq qX8_spreadBelow 6 (.inl (o_iadd 7)) (s_iadd (by decide +kernel)) <|
  allq qX8_spreadBelow 7 (.inl (a_ic 3 8)) (s_iconst (n := 3) (v := 3) rfl (by decide +kernel)) <|
  allq qX8_spreadBelow 8 (.inl (o_iadd 9)) (s_iadd (by decide +kernel)) <|
  allq qX8_spreadBelow 9 (.inl (a_is 3 10)) (s_istore_n (q := 3) (i := 3) rfl (by decide +kernel) (by decide)) <|
  allq qX8_spreadBelow 10 (.inl (a_ic 0 11)) (s_iconst (n := 0) (v := 0) rfl (by decide +kernel)) <|
  allq qX8_spreadBelow 11 (.inl (a_is 4 13)) (s_istore (i := 4) (by decide +kernel) (by decide)) <|
  allq qX8_spreadBelow 13 (.inl (a_ic 0 14)) (s_iconst (n := 0) (v := 0) rfl (by decide +kernel)) <|
  allq qX8_spreadBelow 14 (.inl (a_is 5 16)) (s_istore (i := 5) (by decide +kernel) (by decide)) <|
  allq qX8_spreadBelow 16 (.inl (a_ic 0 17)) (s_iconst (n := 0) (v := 0) rfl (by decide +kernel)) <|
  allq qX8_spreadBelow 17 (.inl (a_is 6 19)) (s_istore (i := 6) (by decide +kernel) (by decide)) <|
  allq qX8_spreadBelow 19 (.inl (a_ic 0 20)) (s_iconst (n := 0) (v := 0) rfl (by decide +kernel)) <|
  allq qX8_spreadBelow 20 (.inl (a_is 7 22)) (s_istore (i := 7) (by decide +kernel) (by decide)) <|
  allq qX8_spreadBelow 22 (.inl (a_il 7 24)) (s_iload (i := 7) (by decide +kernel)) <|
  allq qX8_spreadBelow 24 (.inl (a_il 2 25)) (s_iload_n (q := 2) (i := 2) rfl (by decide +kernel)) <|
  allq qX8_spreadBelow 25 (.inl (o_icmp_ge 92 28)) (s_icmp_ge (off := 67) (by decide +kernel) (by decide)) <|
  allq qX8_spreadBelow 28 (.inl (a_il 4 30)) (s_iload (i := 4) (by decide +kernel)) <|
  allq qX8_spreadBelow 30 (.inl (a_il 1 31)) (s_iload_n (q := 1) (i := 1) rfl (by decide +kernel)) <|
  allq qX8_spreadBelow 31 (.inl (o_icmp_ge 76 34)) (s_icmp_ge (off := 45) (by decide +kernel) (by decide)) <|
  allq qX8_spreadBelow 34 (.inl (a_il 5 36)) (s_iload (i := 5) (by decide +kernel)) <|
  allq qX8_spreadBelow 36 (.inl (a_al 0 37)) (s_aload_n (q := 0) (i := 0) rfl (by decide +kernel)) <|
  allq qX8_spreadBelow 37 (.inl (a_get 8 0 40)) (gX8 (f0 := 0) (by decide) kw_205 (by decide +kernel)) <|
  allq qX8_spreadBelow 40 (.inl (o_icmp_ge 64 43)) (s_icmp_ge (off := 24) (by decide +kernel) (by decide)) <|
  allq qX8_spreadBelow 43 (.inl (a_il 6 45)) (s_iload (i := 6) (by decide +kernel)) <|
  allq qX8_spreadBelow 45 (.inl (a_al 0 46)) (s_aload_n (q := 0) (i := 0) rfl (by decide +kernel)) <|
  allq qX8_spreadBelow 46 (.inl (a_get 8 1 49)) (gX8 (f0 := 1) (by decide) kw_206 (by decide +kernel)) <|
  allq qX8_spreadBelow 49 (.inl (a_il 5 51)) (s_iload (i := 5) (by decide +kernel)) <|
  allq qX8_spreadBelow 51 (.inl (a_iald 52)) (s_iald (by decide +kernel)) <|
  allq qX8_spreadBelow 52 (.inl (o_icmp_lt 64 55)) (s_icmp_lt (off := 12) (by decide +kernel) (by decide)) <|
  allq qX8_spreadBelow 55 (.inl (a_ic 0 56)) (s_iconst (n := 0) (v := 0) rfl (by decide +kernel)) <|
  allq qX8_spreadBelow 56 (.inl (a_is 6 58)) (s_istore (i := 6) (by decide +kernel) (by decide)) <|
  allq qX8_spreadBelow 58 (.inl (a_inc 5 1 61)) (s_iinc (i := 5) (n := 1) (n2 := 1) rfl (by decide +kernel) (by decide)) <|
  allq qX8_spreadBelow 61 (.inl (a_go 34)) (s_goto (off := (-27)) (by decide +kernel) (by decide)) <|
  allq qX8_spreadBelow 64 (.inl (a_al 0 65)) (s_aload_n (q := 0) (i := 0) rfl (by decide +kernel)) <|
  allq qX8_spreadBelow 65 (.inl (a_get 8 5 68)) (gX8 (f0 := 5) (by decide) kw_210 (by decide +kernel)) <|
  alln
set_option maxRecDepth 20000 in
theorem kX8_spreadBelow_1 : ∀ q ∈ tX8_spreadBelow_1, qX8_spreadBelow q :=
  allq qX8_spreadBelow 68 (.inl (a_il 4 70)) (s_iload (i := 4) (by decide +kernel)) <|
  allq qX8_spreadBelow 70 (.inl (a_il 5 72)) (s_iload (i := 5) (by decide +kernel)) <|
  allq qX8_spreadBelow 72 (.inl (a_iast 73)) (s_iast (by decide +kernel)) <|
  allq qX8_spreadBelow 73 (.inl (a_inc 6 1 76)) (s_iinc (i := 6) (n := 1) (n2 := 1) rfl (by decide +kernel) (by decide)) <|
  allq qX8_spreadBelow 76 (.inl (a_il 4 78)) (s_iload (i := 4) (by decide +kernel)) <|
  allq qX8_spreadBelow 78 (.inl (a_il 3 79)) (s_iload_n (q := 3) (i := 3) rfl (by decide +kernel)) <|
  allq qX8_spreadBelow 79 (.inl (o_iadd 80)) (s_iadd (by decide +kernel)) <|
  allq qX8_spreadBelow 80 (.inl (a_il 2 81)) (s_iload_n (q := 2) (i := 2) rfl (by decide +kernel)) <|
  allq qX8_spreadBelow 81 (.inl (a_ic 1 82)) (s_iconst (n := 1) (v := 1) rfl (by decide +kernel)) <|
  allq qX8_spreadBelow 82 (.inl (o_isub 83)) (s_isub (by decide +kernel)) <|
  allq qX8_spreadBelow 83 (.inl (o_iand 84)) (s_iand (by decide +kernel)) <|
  allq qX8_spreadBelow 84 (.inl (a_is 4 86)) (s_istore (i := 4) (by decide +kernel) (by decide)) <|
  allq qX8_spreadBelow 86 (.inl (a_inc 7 1 89)) (s_iinc (i := 7) (n := 1) (n2 := 1) rfl (by decide +kernel) (by decide)) <|
  allq qX8_spreadBelow 89 (.inl (a_go 22)) (s_goto (off := (-67)) (by decide +kernel) (by decide)) <|
  allq qX8_spreadBelow 92 (.inr (.inr 0)) (Or.inl ⟨rfl, rfl, by decide +kernel⟩) <|
  alln
theorem kX8_spreadBelow : ∀ q ∈ tX8_spreadBelow, qX8_spreadBelow q := alla kX8_spreadBelow_0 kX8_spreadBelow_1
