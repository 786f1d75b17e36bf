/-! each entry is one that the machine does (printed by a program) -/
abbrev qX12_headOf : Nat × aI → Prop := OkQ RX12 "headOf" cX12_headOf 3 (some .int)
set_option maxRecDepth 20000 in
theorem kX12_headOf_0 : ∀ q ∈ tX12_headOf_0, qX12_headOf q :=
  allq qX12_headOf 0 (.inl (a_al 0 1)) (s_aload_n (q := 0) (i := 0) rfl (by decide +kernel)) <|
  allq qX12_headOf 1 (.inl (a_get 11 33 4)) (gX12 (f0 := 33) (by decide) kw_1218 (by decide +kernel)) <|
  allq qX12_headOf 4 (.inl (a_ic 1024 7)) (s_sipush (n := 1024) (v := 1024) rfl (by decide +kernel)) <|
  allq qX12_headOf 7 (.inl (o_icmp_ge 23 10)) (s_icmp_ge (off := 16) (by decide +kernel) (by decide)) <|
  allq qX12_headOf 10 (.inl (a_il 1 11)) (s_iload_n (q := 1) (i := 1) rfl (by decide +kernel)) <|
  allq qX12_headOf 11 (.inl (a_ic 1024 14)) (s_sipush (n := 1024) (v := 1024) rfl (by decide +kernel)) <|
  allq qX12_headOf 14 (.inl (o_icmp_ge 21 17)) (s_icmp_ge (off := 7) (by decide +kernel) (by decide)) <|
  allq qX12_headOf 17 (.inl (a_ic 0 18)) (s_iconst (n := 0) (v := 0) rfl (by decide +kernel)) <|
  allq qX12_headOf 18 (.inl (a_go 22)) (s_goto (off := 4) (by decide +kernel) (by decide)) <|
  allq qX12_headOf 21 (.inl (a_ic (-1) 22)) (s_iconst (n := (-1)) (v := (-1)) rfl (by decide +kernel)) <|
  allq qX12_headOf 22 (.inr (.inr 1)) (Or.inr (Or.inl ⟨rfl, rfl, by decide +kernel⟩)) <|
  allq qX12_headOf 23 (.inl (a_ic 1 24)) (s_iconst (n := 1) (v := 1) rfl (by decide +kernel)) <|
  allq qX12_headOf 24 (.inl (a_is 2 25)) (s_istore_n (q := 2) (i := 2) rfl (by decide +kernel) (by decide)) <|
  allq qX12_headOf 25 (.inl (a_il 2 26)) (s_iload_n (q := 2) (i := 2) rfl (by decide +kernel)) <|
  allq qX12_headOf 26 (.inl (a_ic 4 27)) (s_iconst (n := 4) (v := 4) rfl (by decide +kernel)) <|
  allq qX12_headOf 27 (.inl (o_icmp_ge 61 30)) (s_icmp_ge (off := 34) (by decide +kernel) (by decide)) <|
  allq qX12_headOf 30 (.inl (a_al 0 31)) (s_aload_n (q := 0) (i := 0) rfl (by decide +kernel)) <|
  allq qX12_headOf 31 (.inl (a_get 11 33 34)) (gX12 (f0 := 33) (by decide) kw_1218 (by decide +kernel)) <|
  allq qX12_headOf 34 (.inl (a_ic 1 35)) (s_iconst (n := 1) (v := 1) rfl (by decide +kernel)) <|
  allq qX12_headOf 35 (.inl (a_il 2 36)) (s_iload_n (q := 2) (i := 2) rfl (by decide +kernel)) <|
  allq qX12_headOf 36 (.inr (.inl (185, 1, 0))) (okS (y := yX12_width) kw_1480 kw_118 rfl (by decide +kernel) kw_1479 (Or.inl kw_1478)) <|
  allq qX12_headOf 39 (.inl (o_ishl 40)) (s_ishl (by decide +kernel)) <|
  allq qX12_headOf 40 (.inl (o_icmp_ge 55 43)) (s_icmp_ge (off := 15) (by decide +kernel) (by decide)) <|
  allq qX12_headOf 43 (.inl (a_il 1 44)) (s_iload_n (q := 1) (i := 1) rfl (by decide +kernel)) <|
  allq qX12_headOf 44 (.inl (a_ic 1 45)) (s_iconst (n := 1) (v := 1) rfl (by decide +kernel)) <|
  allq qX12_headOf 45 (.inl (a_il 2 46)) (s_iload_n (q := 2) (i := 2) rfl (by decide +kernel)) <|
  allq qX12_headOf 46 (.inr (.inl (185, 1, 0))) (okS (y := yX12_width) kw_1480 kw_118 rfl (by decide +kernel) kw_1479 (Or.inl kw_1478)) <|
  allq qX12_headOf 49 (.inl (o_ishl 50)) (s_ishl (by decide +kernel)) <|
  allq qX12_headOf 50 (.inl (o_icmp_ge 55 53)) (s_icmp_ge (off := 5) (by decide +kernel) (by decide)) <|
  allq qX12_headOf 53 (.inl (a_il 2 54)) (s_iload_n (q := 2) (i := 2) rfl (by decide +kernel)) <|
  allq qX12_headOf 54 (.inr (.inr 1)) (Or.inr (Or.inl ⟨rfl, rfl, by decide +kernel⟩)) <|
  allq qX12_headOf 55 (.inl (a_inc 2 1 58)) (s_iinc (i := 2) (n := 1) (n2 := 1) rfl (by decide +kernel) (by decide)) <|
  allq qX12_headOf 58 (.inl (a_go 25)) (s_goto (off := (-33)) (by decide +kernel) (by decide)) <|
  allq qX12_headOf 61 (.inl (a_ic (-1) 62)) (s_iconst (n := (-1)) (v := (-1)) rfl (by decide +kernel)) <|
  allq qX12_headOf 62 (.inr (.inr 1)) (Or.inr (Or.inl ⟨rfl, rfl, by decide +kernel⟩)) <|
  alln
theorem kX12_headOf : ∀ q ∈ tX12_headOf, qX12_headOf q := kX12_headOf_0
abbrev qX12_layCells : Nat × aI → Prop := OkQ RX12 "layCells" cX12_layCells 7 (none)
set_option maxRecDepth 20000 in
theorem kX12_layCells_0 : ∀ q ∈ tX12_layCells_0, qX12_layCells q :=
  allq qX12_layCells 0 (.inl (a_ic 0 1)) (s_iconst (n := 0) (v := 0) rfl (by decide +kernel)) <|
  allq qX12_layCells 1 (.inl (a_is 3 2)) (s_istore_n (q := 3) (i := 3) rfl (by decide +kernel) (by decide)) <|
  allq qX12_layCells 2 (.inl (a_ic 1 3)) (s_iconst (n := 1) (v := 1) rfl (by decide +kernel)) <|
  allq qX12_layCells 3 (.inl (a_is 4 5)) (s_istore (i := 4) (by decide +kernel) (by decide)) <|
  allq qX12_layCells 5 (.inl (a_il 4 7)) (s_iload (i := 4) (by decide +kernel)) <|
  allq qX12_layCells 7 (.inl (a_il 2 8)) (s_iload_n (q := 2) (i := 2) rfl (by decide +kernel)) <|
  allq qX12_layCells 8 (.inl (o_icmp_gt 78 11)) (s_icmp_gt (off := 70) (by decide +kernel) (by decide)) <|
  allq qX12_layCells 11 (.inl (a_ic 0 12)) (s_iconst (n := 0) (v := 0) rfl (by decide +kernel)) <|
  allq qX12_layCells 12 (.inl (a_is 5 14)) (s_istore (i := 5) (by decide +kernel) (by decide)) <|
  allq qX12_layCells 14 (.inl (a_il 5 16)) (s_iload (i := 5) (by decide +kernel)) <|
  allq qX12_layCells 16 (.inl (a_ic 256 19)) (s_sipush (n := 256) (v := 256) rfl (by decide +kernel)) <|
  allq qX12_layCells 19 (.inl (o_icmp_ge 72 22)) (s_icmp_ge (off := 53) (by decide +kernel) (by decide)) <|
  allq qX12_layCells 22 (.inl (a_ic 0 23)) (s_iconst (n := 0) (v := 0) rfl (by decide +kernel)) <|
  allq qX12_layCells 23 (.inl (a_is 6 25)) (s_istore (i := 6) (by decide +kernel) (by decide)) <|
  allq qX12_layCells 25 (.inl (a_al 1 26)) (s_aload_n (q := 1) (i := 1) rfl (by decide +kernel)) <|
  allq qX12_layCells 26 (.inl (a_il 5 28)) (s_iload (i := 5) (by decide +kernel)) <|
  allq qX12_layCells 28 (.inl (a_iald 29)) (s_iald (by decide +kernel)) <|
  allq qX12_layCells 29 (.inl (a_il 2 30)) (s_iload_n (q := 2) (i := 2) rfl (by decide +kernel)) <|
  allq qX12_layCells 30 (.inl (a_ic 1 31)) (s_iconst (n := 1) (v := 1) rfl (by decide +kernel)) <|
  allq qX12_layCells 31 (.inl (o_iadd 32)) (s_iadd (by decide +kernel)) <|
  allq qX12_layCells 32 (.inl (a_il 4 34)) (s_iload (i := 4) (by decide +kernel)) <|
  allq qX12_layCells 34 (.inl (o_isub 35)) (s_isub (by decide +kernel)) <|
  allq qX12_layCells 35 (.inl (o_icmp_ne 66 38)) (s_icmp_ne (off := 31) (by decide +kernel) (by decide)) <|
  allq qX12_layCells 38 (.inl (a_il 6 40)) (s_iload (i := 6) (by decide +kernel)) <|
  allq qX12_layCells 40 (.inl (a_ic 1 41)) (s_iconst (n := 1) (v := 1) rfl (by decide +kernel)) <|
  allq qX12_layCells 41 (.inl (a_il 4 43)) (s_iload (i := 4) (by decide +kernel)) <|
  allq qX12_layCells 43 (.inl (a_ic 1 44)) (s_iconst (n := 1) (v := 1) rfl (by decide +kernel)) <|
  allq qX12_layCells 44 (.inl (o_isub 45)) (s_isub (by decide +kernel)) <|
  allq qX12_layCells 45 (.inl (o_ishl 46)) (s_ishl (by decide +kernel)) <|
  allq qX12_layCells 46 (.inl (o_icmp_ge 66 49)) (s_icmp_ge (off := 20) (by decide +kernel) (by decide)) <|
  allq qX12_layCells 49 (.inl (a_al 0 50)) (s_aload_n (q := 0) (i := 0) rfl (by decide +kernel)) <|
  allq qX12_layCells 50 (.inl (a_get 11 54 53)) (gX12 (f0 := 54) (by decide) kw_1239 (by decide +kernel)) <|
  allq qX12_layCells 53 (.inl (a_il 3 54)) (s_iload_n (q := 3) (i := 3) rfl (by decide +kernel)) <|
  allq qX12_layCells 54 (.inl (a_il 5 56)) (s_iload (i := 5) (by decide +kernel)) <|
  allq qX12_layCells 56 (.inl (a_iast 57)) (s_iast (by decide +kernel)) <|
  allq qX12_layCells 57 (.inl (a_inc 3 1 60)) (s_iinc (i := 3) (n := 1) (n2 := 1) rfl (by decide +kernel) (by decide)) <|
  allq qX12_layCells 60 (.inl (a_inc 6 1 63)) (s_iinc (i := 6) (n := 1) (n2 := 1) rfl (by decide +kernel) (by decide)) <|
  allq qX12_layCells 63 (.inl (a_go 25)) (s_goto (off := (-38)) (by decide +kernel) (by decide)) <|
  allq qX12_layCells 66 (.inl (a_inc 5 1 69)) (s_iinc (i := 5) (n := 1) (n2 := 1) rfl (by decide +kernel) (by decide)) <|
  allq qX12_layCells 69 (.inl (a_go 14)) (s_goto (off := (-55)) (by decide +kernel) (by decide)) <|
  alln
set_option maxRecDepth 20000 in
theorem kX12_layCells_1 : ∀ q ∈ tX12_layCells_1, qX12_layCells q :=
  allq qX12_layCells 72 (.inl (a_inc 4 1 75)) (s_iinc (i := 4) (n := 1) (n2 := 1) rfl (by decide +kernel) (by decide)) <|
  allq qX12_layCells 75 (.inl (a_go 5)) (s_goto (off := (-70)) (by decide +kernel) (by decide)) <|
  allq qX12_layCells 78 (.inr (.inr 0)) (Or.inl ⟨rfl, rfl, by decide +kernel⟩) <|
  alln
theorem kX12_layCells : ∀ q ∈ tX12_layCells, qX12_layCells q := alla kX12_layCells_0 kX12_layCells_1
abbrev qX12_putStream : Nat × aI → Prop := OkQ RX12 "putStream" cX12_putStream 6 (none)
set_option maxRecDepth 20000 in
theorem kX12_putStream_0 : ∀ q ∈ tX12_putStream_0, qX12_putStream q :=
  allq qX12_putStream 0 (.inl (a_il 2 1)) (s_iload_n (q := 2) (i := 2) rfl (by decide +kernel)) <|
  allq qX12_putStream 1 (.inl (a_ic 1 2)) (s_iconst (n := 1) (v := 1) rfl (by decide +kernel)) <|
  allq qX12_putStream 2 (.inl (o_isub 3)) (s_isub (by decide +kernel)) <|
  allq qX12_putStream 3 (.inl (a_is 3 4)) (s_istore_n (q := 3) (i := 3) rfl (by decide +kernel) (by decide)) <|
  allq qX12_putStream 4 (.inl (a_il 3 5)) (s_iload_n (q := 3) (i := 3) rfl (by decide +kernel)) <|
  allq qX12_putStream 5 (.inl (a_il 1 6)) (s_iload_n (q := 1) (i := 1) rfl (by decide +kernel)) <|
  allq qX12_putStream 6 (.inl (o_icmp_lt 70 9)) (s_icmp_lt (off := 64) (by decide +kernel) (by decide)) <|
  allq qX12_putStream 9 (.inl (a_al 0 10)) (s_aload_n (q := 0) (i := 0) rfl (by decide +kernel)) <|
  allq qX12_putStream 10 (.inl (a_get 11 32 13)) (gX12 (f0 := 32) (by decide) kw_1217 (by decide +kernel)) <|
  allq qX12_putStream 13 (.inl (a_il 3 14)) (s_iload_n (q := 3) (i := 3) rfl (by decide +kernel)) <|
  allq qX12_putStream 14 (.inl (a_iald 15)) (s_iald (by decide +kernel)) <|
  allq qX12_putStream 15 (.inl (a_is 4 17)) (s_istore (i := 4) (by decide +kernel) (by decide)) <|
  allq qX12_putStream 17 (.inl (a_ic 0 18)) (s_iconst (n := 0) (v := 0) rfl (by decide +kernel)) <|
  allq qX12_putStream 18 (.inl (a_is 5 20)) (s_istore (i := 5) (by decide +kernel) (by decide)) <|
  allq qX12_putStream 20 (.inl (a_al 0 21)) (s_aload_n (q := 0) (i := 0) rfl (by decide +kernel)) <|
  allq qX12_putStream 21 (.inl (a_get 11 54 24)) (gX12 (f0 := 54) (by decide) kw_1239 (by decide +kernel)) <|
  allq qX12_putStream 24 (.inl (a_il 5 26)) (s_iload (i := 5) (by decide +kernel)) <|
  allq qX12_putStream 26 (.inl (a_iald 27)) (s_iald (by decide +kernel)) <|
  allq qX12_putStream 27 (.inl (a_il 4 29)) (s_iload (i := 4) (by decide +kernel)) <|
  allq qX12_putStream 29 (.inl (o_icmp_eq 38 32)) (s_icmp_eq (off := 9) (by decide +kernel) (by decide)) <|
  allq qX12_putStream 32 (.inl (a_inc 5 1 35)) (s_iinc (i := 5) (n := 1) (n2 := 1) rfl (by decide +kernel) (by decide)) <|
  allq qX12_putStream 35 (.inl (a_go 20)) (s_goto (off := (-15)) (by decide +kernel) (by decide)) <|
  allq qX12_putStream 38 (.inl (a_al 0 39)) (s_aload_n (q := 0) (i := 0) rfl (by decide +kernel)) <|
  allq qX12_putStream 39 (.inl (a_il 5 41)) (s_iload (i := 5) (by decide +kernel)) <|
  allq qX12_putStream 41 (.inl (a_al 0 42)) (s_aload_n (q := 0) (i := 0) rfl (by decide +kernel)) <|
  allq qX12_putStream 42 (.inl (a_get 11 15 45)) (gX12 (f0 := 15) (by decide) kw_1200 (by decide +kernel)) <|
  allq qX12_putStream 45 (.inl (a_al 0 46)) (s_aload_n (q := 0) (i := 0) rfl (by decide +kernel)) <|
  allq qX12_putStream 46 (.inl (a_get 11 14 49)) (gX12 (f0 := 14) (by decide) kw_1199 (by decide +kernel)) <|
  allq qX12_putStream 49 (.inl (a_il 4 51)) (s_iload (i := 4) (by decide +kernel)) <|
  allq qX12_putStream 51 (.inl (a_iald 52)) (s_iald (by decide +kernel)) <|
  allq qX12_putStream 52 (.inl (o_isub 53)) (s_isub (by decide +kernel)) <|
  allq qX12_putStream 53 (.inl (o_ishr 54)) (s_ishr (by decide +kernel)) <|
  allq qX12_putStream 54 (.inl (a_al 0 55)) (s_aload_n (q := 0) (i := 0) rfl (by decide +kernel)) <|
  allq qX12_putStream 55 (.inl (a_get 11 14 58)) (gX12 (f0 := 14) (by decide) kw_1199 (by decide +kernel)) <|
  allq qX12_putStream 58 (.inl (a_il 4 60)) (s_iload (i := 4) (by decide +kernel)) <|
  allq qX12_putStream 60 (.inl (a_iald 61)) (s_iald (by decide +kernel)) <|
  allq qX12_putStream 61 (.inr (.inl (147, 3, 12))) (okV (y := yX12_put) kw_1515 kw_118 rfl rfl (by decide +kernel) kw_1514 kw_65 kw_1512) <|
  allq qX12_putStream 64 (.inl (a_inc 3 (-1) 67)) (s_iinc (i := 3) (n := (-1)) (n2 := (-1)) rfl (by decide +kernel) (by decide)) <|
  allq qX12_putStream 67 (.inl (a_go 4)) (s_goto (off := (-63)) (by decide +kernel) (by decide)) <|
  allq qX12_putStream 70 (.inl (a_al 0 71)) (s_aload_n (q := 0) (i := 0) rfl (by decide +kernel)) <|
  alln
set_option maxRecDepth 20000 in
theorem kX12_putStream_1 : ∀ q ∈ tX12_putStream_1, qX12_putStream q :=
  allq qX12_putStream 71 (.inl (a_ic 1 72)) (s_iconst (n := 1) (v := 1) rfl (by decide +kernel)) <|
  allq qX12_putStream 72 (.inl (a_ic 1 73)) (s_iconst (n := 1) (v := 1) rfl (by decide +kernel)) <|
  allq qX12_putStream 73 (.inr (.inl (147, 3, 12))) (okV (y := yX12_put) kw_1515 kw_118 rfl rfl (by decide +kernel) kw_1514 kw_65 kw_1512) <|
  allq qX12_putStream 76 (.inl (a_al 0 77)) (s_aload_n (q := 0) (i := 0) rfl (by decide +kernel)) <|
  allq qX12_putStream 77 (.inr (.inl (148, 1, 12))) (okV (y := yX12_fill) kw_1534 kw_118 rfl rfl (by decide +kernel) kw_1533 kw_68 kw_1531) <|
  allq qX12_putStream 80 (.inr (.inr 0)) (Or.inl ⟨rfl, rfl, by decide +kernel⟩) <|
  alln
theorem kX12_putStream : ∀ q ∈ tX12_putStream, qX12_putStream q := alla kX12_putStream_0 kX12_putStream_1
abbrev qX12_allAlike : Nat × aI → Prop := OkQ RX12 "allAlike" cX12_allAlike 2 (some .boolean)
set_option maxRecDepth 20000 in
theorem kX12_allAlike_0 : ∀ q ∈ tX12_allAlike_0, qX12_allAlike q :=
  allq qX12_allAlike 0 (.inl (a_ic 1 1)) (s_iconst (n := 1) (v := 1) rfl (by decide +kernel)) <|
  allq qX12_allAlike 1 (.inl (a_is 1 2)) (s_istore_n (q := 1) (i := 1) rfl (by decide +kernel) (by decide)) <|
  allq qX12_allAlike 2 (.inl (a_il 1 3)) (s_iload_n (q := 1) (i := 1) rfl (by decide +kernel)) <|
  allq qX12_allAlike 3 (.inl (a_al 0 4)) (s_aload_n (q := 0) (i := 0) rfl (by decide +kernel)) <|
  allq qX12_allAlike 4 (.inl (a_get 11 33 7)) (gX12 (f0 := 33) (by decide) kw_1218 (by decide +kernel)) <|
  allq qX12_allAlike 7 (.inl (o_icmp_ge 33 10)) (s_icmp_ge (off := 26) (by decide +kernel) (by decide)) <|
  allq qX12_allAlike 10 (.inl (a_al 0 11)) (s_aload_n (q := 0) (i := 0) rfl (by decide +kernel)) <|
  allq qX12_allAlike 11 (.inl (a_get 11 32 14)) (gX12 (f0 := 32) (by decide) kw_1217 (by decide +kernel)) <|
  allq qX12_allAlike 14 (.inl (a_il 1 15)) (s_iload_n (q := 1) (i := 1) rfl (by decide +kernel)) <|
  allq qX12_allAlike 15 (.inl (a_iald 16)) (s_iald (by decide +kernel)) <|
  allq qX12_allAlike 16 (.inl (a_al 0 17)) (s_aload_n (q := 0) (i := 0) rfl (by decide +kernel)) <|
  allq qX12_allAlike 17 (.inl (a_get 11 32 20)) (gX12 (f0 := 32) (by decide) kw_1217 (by decide +kernel)) <|
  allq qX12_allAlike 20 (.inl (a_ic 0 21)) (s_iconst (n := 0) (v := 0) rfl (by decide +kernel)) <|
  allq qX12_allAlike 21 (.inl (a_iald 22)) (s_iald (by decide +kernel)) <|
  allq qX12_allAlike 22 (.inl (o_icmp_eq 27 25)) (s_icmp_eq (off := 5) (by decide +kernel) (by decide)) <|
  allq qX12_allAlike 25 (.inl (a_ic 0 26)) (s_iconst (n := 0) (v := 0) rfl (by decide +kernel)) <|
  allq qX12_allAlike 26 (.inr (.inr 3)) (Or.inr (Or.inr (Or.inr ⟨rfl, rfl, by decide +kernel⟩))) <|
  allq qX12_allAlike 27 (.inl (a_inc 1 1 30)) (s_iinc (i := 1) (n := 1) (n2 := 1) rfl (by decide +kernel) (by decide)) <|
  allq qX12_allAlike 30 (.inl (a_go 2)) (s_goto (off := (-28)) (by decide +kernel) (by decide)) <|
  allq qX12_allAlike 33 (.inl (a_al 0 34)) (s_aload_n (q := 0) (i := 0) rfl (by decide +kernel)) <|
  allq qX12_allAlike 34 (.inl (a_get 11 33 37)) (gX12 (f0 := 33) (by decide) kw_1218 (by decide +kernel)) <|
  allq qX12_allAlike 37 (.inl (o_if_le 44 40)) (s_if_le (off := 7) (by decide +kernel) (by decide)) <|
  allq qX12_allAlike 40 (.inl (a_ic 1 41)) (s_iconst (n := 1) (v := 1) rfl (by decide +kernel)) <|
  allq qX12_allAlike 41 (.inl (a_go 45)) (s_goto (off := 4) (by decide +kernel) (by decide)) <|
  allq qX12_allAlike 44 (.inl (a_ic 0 45)) (s_iconst (n := 0) (v := 0) rfl (by decide +kernel)) <|
  allq qX12_allAlike 45 (.inr (.inr 3)) (Or.inr (Or.inr (Or.inr ⟨rfl, rfl, by decide +kernel⟩))) <|
  alln
theorem kX12_allAlike : ∀ q ∈ tX12_allAlike, qX12_allAlike q := kX12_allAlike_0
abbrev qX12_allCoded : Nat × aI → Prop := OkQ RX12 "allCoded" cX12_allCoded 2 (some .boolean)
set_option maxRecDepth 20000 in
theorem kX12_allCoded_0 : ∀ q ∈ tX12_allCoded_0, qX12_allCoded q :=
  allq qX12_allCoded 0 (.inl (a_ic 0 1)) (s_iconst (n := 0) (v := 0) rfl (by decide +kernel)) <|
  allq qX12_allCoded 1 (.inl (a_is 1 2)) (s_istore_n (q := 1) (i := 1) rfl (by decide +kernel) (by decide)) <|
  allq qX12_allCoded 2 (.inl (a_il 1 3)) (s_iload_n (q := 1) (i := 1) rfl (by decide +kernel)) <|
  allq qX12_allCoded 3 (.inl (a_al 0 4)) (s_aload_n (q := 0) (i := 0) rfl (by decide +kernel)) <|
  allq qX12_allCoded 4 (.inl (a_get 11 33 7)) (gX12 (f0 := 33) (by decide) kw_1218 (by decide +kernel)) <|
  allq qX12_allCoded 7 (.inl (o_icmp_ge 32 10)) (s_icmp_ge (off := 25) (by decide +kernel) (by decide)) <|
  allq qX12_allCoded 10 (.inl (a_al 0 11)) (s_aload_n (q := 0) (i := 0) rfl (by decide +kernel)) <|
  allq qX12_allCoded 11 (.inl (a_get 11 14 14)) (gX12 (f0 := 14) (by decide) kw_1199 (by decide +kernel)) <|
  allq qX12_allCoded 14 (.inl (a_al 0 15)) (s_aload_n (q := 0) (i := 0) rfl (by decide +kernel)) <|
  allq qX12_allCoded 15 (.inl (a_get 11 32 18)) (gX12 (f0 := 32) (by decide) kw_1217 (by decide +kernel)) <|
  allq qX12_allCoded 18 (.inl (a_il 1 19)) (s_iload_n (q := 1) (i := 1) rfl (by decide +kernel)) <|
  allq qX12_allCoded 19 (.inl (a_iald 20)) (s_iald (by decide +kernel)) <|
  allq qX12_allCoded 20 (.inl (a_iald 21)) (s_iald (by decide +kernel)) <|
  allq qX12_allCoded 21 (.inl (o_if_ne 26 24)) (s_if_ne (off := 5) (by decide +kernel) (by decide)) <|
  allq qX12_allCoded 24 (.inl (a_ic 0 25)) (s_iconst (n := 0) (v := 0) rfl (by decide +kernel)) <|
  allq qX12_allCoded 25 (.inr (.inr 3)) (Or.inr (Or.inr (Or.inr ⟨rfl, rfl, by decide +kernel⟩))) <|
  allq qX12_allCoded 26 (.inl (a_inc 1 1 29)) (s_iinc (i := 1) (n := 1) (n2 := 1) rfl (by decide +kernel) (by decide)) <|
  allq qX12_allCoded 29 (.inl (a_go 2)) (s_goto (off := (-27)) (by decide +kernel) (by decide)) <|
  allq qX12_allCoded 32 (.inl (a_al 0 33)) (s_aload_n (q := 0) (i := 0) rfl (by decide +kernel)) <|
  allq qX12_allCoded 33 (.inl (a_get 11 15 36)) (gX12 (f0 := 15) (by decide) kw_1200 (by decide +kernel)) <|
  allq qX12_allCoded 36 (.inl (o_if_le 43 39)) (s_if_le (off := 7) (by decide +kernel) (by decide)) <|
  allq qX12_allCoded 39 (.inl (a_ic 1 40)) (s_iconst (n := 1) (v := 1) rfl (by decide +kernel)) <|
  allq qX12_allCoded 40 (.inl (a_go 44)) (s_goto (off := 4) (by decide +kernel) (by decide)) <|
  allq qX12_allCoded 43 (.inl (a_ic 0 44)) (s_iconst (n := 0) (v := 0) rfl (by decide +kernel)) <|
  allq qX12_allCoded 44 (.inr (.inr 3)) (Or.inr (Or.inr (Or.inr ⟨rfl, rfl, by decide +kernel⟩))) <|
  alln
theorem kX12_allCoded : ∀ q ∈ tX12_allCoded, qX12_allCoded q := kX12_allCoded_0
abbrev qX12_sayLiterals : Nat × aI → Prop := OkQ RX12 "sayLiterals" cX12_sayLiterals 10 (some .int)
set_option maxRecDepth 20000 in
theorem kX12_sayLiterals_0 : ∀ q ∈ tX12_sayLiterals_0, qX12_sayLiterals q :=
  allq qX12_sayLiterals 0 (.inl (a_al 0 1)) (s_aload_n (q := 0) (i := 0) rfl (by decide +kernel)) <|
  allq qX12_sayLiterals 1 (.inl (a_get 11 33 4)) (gX12 (f0 := 33) (by decide) kw_1218 (by decide +kernel)) <|
  allq qX12_sayLiterals 4 (.inl (a_is 1 5)) (s_istore_n (q := 1) (i := 1) rfl (by decide +kernel) (by decide)) <|
  allq qX12_sayLiterals 5 (.inl (a_il 1 6)) (s_iload_n (q := 1) (i := 1) rfl (by decide +kernel)) <|
  allq qX12_sayLiterals 6 (.inl (a_ic 32 8)) (s_bipush (n := 32) (v := 32) rfl (by decide +kernel)) <|
  allq qX12_sayLiterals 8 (.inl (o_icmp_ge 15 11)) (s_icmp_ge (off := 7) (by decide +kernel) (by decide)) <|
  allq qX12_sayLiterals 11 (.inl (a_ic 1 12)) (s_iconst (n := 1) (v := 1) rfl (by decide +kernel)) <|
  allq qX12_sayLiterals 12 (.inl (a_go 27)) (s_goto (off := 15) (by decide +kernel) (by decide)) <|
  allq qX12_sayLiterals 15 (.inl (a_il 1 16)) (s_iload_n (q := 1) (i := 1) rfl (by decide +kernel)) <|
  allq qX12_sayLiterals 16 (.inl (a_ic 4096 19)) (s_sipush (n := 4096) (v := 4096) rfl (by decide +kernel)) <|
  allq qX12_sayLiterals 19 (.inl (o_icmp_ge 26 22)) (s_icmp_ge (off := 7) (by decide +kernel) (by decide)) <|
  allq qX12_sayLiterals 22 (.inl (a_ic 2 23)) (s_iconst (n := 2) (v := 2) rfl (by decide +kernel)) <|
  allq qX12_sayLiterals 23 (.inl (a_go 27)) (s_goto (off := 4) (by decide +kernel) (by decide)) <|
  allq qX12_sayLiterals 26 (.inl (a_ic 3 27)) (s_iconst (n := 3) (v := 3) rfl (by decide +kernel)) <|
  allq qX12_sayLiterals 27 (.inl (a_is 2 28)) (s_istore_n (q := 2) (i := 2) rfl (by decide +kernel) (by decide)) <|
  allq qX12_sayLiterals 28 (.inl (a_il 2 29)) (s_iload_n (q := 2) (i := 2) rfl (by decide +kernel)) <|
  allq qX12_sayLiterals 29 (.inl (a_il 1 30)) (s_iload_n (q := 1) (i := 1) rfl (by decide +kernel)) <|
  allq qX12_sayLiterals 30 (.inl (o_iadd 31)) (s_iadd (by decide +kernel)) <|
  allq qX12_sayLiterals 31 (.inl (a_is 3 32)) (s_istore_n (q := 3) (i := 3) rfl (by decide +kernel) (by decide)) <|
  allq qX12_sayLiterals 32 (.inl (a_ic 0 33)) (s_iconst (n := 0) (v := 0) rfl (by decide +kernel)) <|
  allq qX12_sayLiterals 33 (.inl (a_is 4 35)) (s_istore (i := 4) (by decide +kernel) (by decide)) <|
  allq qX12_sayLiterals 35 (.inl (a_al 0 36)) (s_aload_n (q := 0) (i := 0) rfl (by decide +kernel)) <|
  allq qX12_sayLiterals 36 (.inr (.inl (190, 1, 12))) (okV (y := yX12_allAlike) kw_1457 kw_118 rfl rfl (by decide +kernel) kw_1456 kw_52 kw_1454) <|
  allq qX12_sayLiterals 39 (.inl (o_if_eq 56 42)) (s_if_eq (off := 17) (by decide +kernel) (by decide)) <|
  allq qX12_sayLiterals 42 (.inl (a_il 2 43)) (s_iload_n (q := 2) (i := 2) rfl (by decide +kernel)) <|
  allq qX12_sayLiterals 43 (.inl (a_ic 1 44)) (s_iconst (n := 1) (v := 1) rfl (by decide +kernel)) <|
  allq qX12_sayLiterals 44 (.inl (o_iadd 45)) (s_iadd (by decide +kernel)) <|
  allq qX12_sayLiterals 45 (.inl (a_il 3 46)) (s_iload_n (q := 3) (i := 3) rfl (by decide +kernel)) <|
  allq qX12_sayLiterals 46 (.inl (o_icmp_ge 56 49)) (s_icmp_ge (off := 10) (by decide +kernel) (by decide)) <|
  allq qX12_sayLiterals 49 (.inl (a_il 2 50)) (s_iload_n (q := 2) (i := 2) rfl (by decide +kernel)) <|
  allq qX12_sayLiterals 50 (.inl (a_ic 1 51)) (s_iconst (n := 1) (v := 1) rfl (by decide +kernel)) <|
  allq qX12_sayLiterals 51 (.inl (o_iadd 52)) (s_iadd (by decide +kernel)) <|
  allq qX12_sayLiterals 52 (.inl (a_is 3 53)) (s_istore_n (q := 3) (i := 3) rfl (by decide +kernel) (by decide)) <|
  allq qX12_sayLiterals 53 (.inl (a_ic 1 54)) (s_iconst (n := 1) (v := 1) rfl (by decide +kernel)) <|
  allq qX12_sayLiterals 54 (.inl (a_is 4 56)) (s_istore (i := 4) (by decide +kernel) (by decide)) <|
  allq qX12_sayLiterals 56 (.inl (a_al 0 57)) (s_aload_n (q := 0) (i := 0) rfl (by decide +kernel)) <|
  allq qX12_sayLiterals 57 (.inr (.inl (191, 1, 12))) (okV (y := yX12_allCoded) kw_1461 kw_118 rfl rfl (by decide +kernel) kw_1460 kw_53 kw_1458) <|
  allq qX12_sayLiterals 60 (.inl (o_if_eq 111 63)) (s_if_eq (off := 51) (by decide +kernel) (by decide)) <|
  allq qX12_sayLiterals 63 (.inl (a_al 0 64)) (s_aload_n (q := 0) (i := 0) rfl (by decide +kernel)) <|
  allq qX12_sayLiterals 64 (.inl (a_al 0 65)) (s_aload_n (q := 0) (i := 0) rfl (by decide +kernel)) <|
  alln
set_option maxRecDepth 20000 in
theorem kX12_sayLiterals_1 : ∀ q ∈ tX12_sayLiterals_1, qX12_sayLiterals q :=
  allq qX12_sayLiterals 65 (.inl (a_get 11 14 68)) (gX12 (f0 := 14) (by decide) kw_1199 (by decide +kernel)) <|
  allq qX12_sayLiterals 68 (.inl (a_ic 0 69)) (s_iconst (n := 0) (v := 0) rfl (by decide +kernel)) <|
  allq qX12_sayLiterals 69 (.inr (.inl (184, 3, 12))) (okV (y := yX12_bytesTold) kw_1465 kw_118 rfl rfl (by decide +kernel) kw_1464 kw_54 kw_1462) <|
  allq qX12_sayLiterals 72 (.inl (a_is 5 74)) (s_istore (i := 5) (by decide +kernel) (by decide)) <|
  allq qX12_sayLiterals 74 (.inl (a_al 0 75)) (s_aload_n (q := 0) (i := 0) rfl (by decide +kernel)) <|
  allq qX12_sayLiterals 75 (.inl (a_il 5 77)) (s_iload (i := 5) (by decide +kernel)) <|
  allq qX12_sayLiterals 77 (.inr (.inl (187, 2, 12))) (okV (y := yX12_headOf) kw_1477 kw_118 rfl rfl (by decide +kernel) kw_1476 kw_57 kw_1474) <|
  allq qX12_sayLiterals 80 (.inl (a_is 6 82)) (s_istore (i := 6) (by decide +kernel) (by decide)) <|
  allq qX12_sayLiterals 82 (.inl (a_il 6 84)) (s_iload (i := 6) (by decide +kernel)) <|
  allq qX12_sayLiterals 84 (.inl (o_if_lt 111 87)) (s_if_lt (off := 27) (by decide +kernel) (by decide)) <|
  allq qX12_sayLiterals 87 (.inl (a_il 6 89)) (s_iload (i := 6) (by decide +kernel)) <|
  allq qX12_sayLiterals 89 (.inr (.inl (186, 1, 0))) (okS (y := yX12_headBytes) kw_1483 kw_118 rfl (by decide +kernel) kw_1482 (Or.inl kw_1481)) <|
  allq qX12_sayLiterals 92 (.inl (a_il 5 94)) (s_iload (i := 5) (by decide +kernel)) <|
  allq qX12_sayLiterals 94 (.inl (o_iadd 95)) (s_iadd (by decide +kernel)) <|
  allq qX12_sayLiterals 95 (.inl (a_il 3 96)) (s_iload_n (q := 3) (i := 3) rfl (by decide +kernel)) <|
  allq qX12_sayLiterals 96 (.inl (o_icmp_ge 111 99)) (s_icmp_ge (off := 15) (by decide +kernel) (by decide)) <|
  allq qX12_sayLiterals 99 (.inl (a_il 6 101)) (s_iload (i := 6) (by decide +kernel)) <|
  allq qX12_sayLiterals 101 (.inr (.inl (186, 1, 0))) (okS (y := yX12_headBytes) kw_1483 kw_118 rfl (by decide +kernel) kw_1482 (Or.inl kw_1481)) <|
  allq qX12_sayLiterals 104 (.inl (a_il 5 106)) (s_iload (i := 5) (by decide +kernel)) <|
  allq qX12_sayLiterals 106 (.inl (o_iadd 107)) (s_iadd (by decide +kernel)) <|
  allq qX12_sayLiterals 107 (.inl (a_is 3 108)) (s_istore_n (q := 3) (i := 3) rfl (by decide +kernel) (by decide)) <|
  allq qX12_sayLiterals 108 (.inl (a_ic 3 109)) (s_iconst (n := 3) (v := 3) rfl (by decide +kernel)) <|
  allq qX12_sayLiterals 109 (.inl (a_is 4 111)) (s_istore (i := 4) (by decide +kernel) (by decide)) <|
  allq qX12_sayLiterals 111 (.inl (a_il 1 112)) (s_iload_n (q := 1) (i := 1) rfl (by decide +kernel)) <|
  allq qX12_sayLiterals 112 (.inl (a_ic 1 113)) (s_iconst (n := 1) (v := 1) rfl (by decide +kernel)) <|
  allq qX12_sayLiterals 113 (.inl (o_icmp_le 239 116)) (s_icmp_le (off := 126) (by decide +kernel) (by decide)) <|
  allq qX12_sayLiterals 116 (.inl (a_al 0 117)) (s_aload_n (q := 0) (i := 0) rfl (by decide +kernel)) <|
  allq qX12_sayLiterals 117 (.inr (.inl (190, 1, 12))) (okV (y := yX12_allAlike) kw_1457 kw_118 rfl rfl (by decide +kernel) kw_1456 kw_52 kw_1454) <|
  allq qX12_sayLiterals 120 (.inl (o_if_ne 239 123)) (s_if_ne (off := 119) (by decide +kernel) (by decide)) <|
  allq qX12_sayLiterals 123 (.inl (a_al 0 124)) (s_aload_n (q := 0) (i := 0) rfl (by decide +kernel)) <|
  allq qX12_sayLiterals 124 (.inr (.inl (178, 1, 12))) (okV (y := yX12_lengthsByCounts) kw_1487 kw_118 rfl rfl (by decide +kernel) kw_1486 kw_58 kw_1484) <|
  allq qX12_sayLiterals 127 (.inl (a_is 5 129)) (s_istore (i := 5) (by decide +kernel) (by decide)) <|
  allq qX12_sayLiterals 129 (.inl (a_al 0 130)) (s_aload_n (q := 0) (i := 0) rfl (by decide +kernel)) <|
  allq qX12_sayLiterals 130 (.inl (a_il 5 132)) (s_iload (i := 5) (by decide +kernel)) <|
  allq qX12_sayLiterals 132 (.inr (.inl (180, 2, 12))) (okV (y := yX12_describe) kw_1499 kw_118 rfl rfl (by decide +kernel) kw_1498 kw_61 kw_1496) <|
  allq qX12_sayLiterals 135 (.inl (a_is 6 137)) (s_istore (i := 6) (by decide +kernel) (by decide)) <|
  allq qX12_sayLiterals 137 (.inl (a_al 0 138)) (s_aload_n (q := 0) (i := 0) rfl (by decide +kernel)) <|
  allq qX12_sayLiterals 138 (.inl (a_al 0 139)) (s_aload_n (q := 0) (i := 0) rfl (by decide +kernel)) <|
  allq qX12_sayLiterals 139 (.inl (a_get 11 53 142)) (gX12 (f0 := 53) (by decide) kw_1238 (by decide +kernel)) <|
  allq qX12_sayLiterals 142 (.inl (a_il 6 144)) (s_iload (i := 6) (by decide +kernel)) <|
  alln
set_option maxRecDepth 20000 in
theorem kX12_sayLiterals_2 : ∀ q ∈ tX12_sayLiterals_2, qX12_sayLiterals q :=
  allq qX12_sayLiterals 144 (.inr (.inl (184, 3, 12))) (okV (y := yX12_bytesTold) kw_1465 kw_118 rfl rfl (by decide +kernel) kw_1464 kw_54 kw_1462) <|
  allq qX12_sayLiterals 147 (.inl (a_is 7 149)) (s_istore (i := 7) (by decide +kernel) (by decide)) <|
  allq qX12_sayLiterals 149 (.inl (a_al 0 150)) (s_aload_n (q := 0) (i := 0) rfl (by decide +kernel)) <|
  allq qX12_sayLiterals 150 (.inl (a_il 7 152)) (s_iload (i := 7) (by decide +kernel)) <|
  allq qX12_sayLiterals 152 (.inr (.inl (187, 2, 12))) (okV (y := yX12_headOf) kw_1477 kw_118 rfl rfl (by decide +kernel) kw_1476 kw_57 kw_1474) <|
  allq qX12_sayLiterals 155 (.inl (a_is 8 157)) (s_istore (i := 8) (by decide +kernel) (by decide)) <|
  allq qX12_sayLiterals 157 (.inl (a_il 6 159)) (s_iload (i := 6) (by decide +kernel)) <|
  allq qX12_sayLiterals 159 (.inl (o_if_le 182 162)) (s_if_le (off := 23) (by decide +kernel) (by decide)) <|
  allq qX12_sayLiterals 162 (.inl (a_il 8 164)) (s_iload (i := 8) (by decide +kernel)) <|
  allq qX12_sayLiterals 164 (.inl (o_if_lt 182 167)) (s_if_lt (off := 18) (by decide +kernel) (by decide)) <|
  allq qX12_sayLiterals 167 (.inl (a_il 8 169)) (s_iload (i := 8) (by decide +kernel)) <|
  allq qX12_sayLiterals 169 (.inr (.inl (186, 1, 0))) (okS (y := yX12_headBytes) kw_1483 kw_118 rfl (by decide +kernel) kw_1482 (Or.inl kw_1481)) <|
  allq qX12_sayLiterals 172 (.inl (a_il 7 174)) (s_iload (i := 7) (by decide +kernel)) <|
  allq qX12_sayLiterals 174 (.inl (o_iadd 175)) (s_iadd (by decide +kernel)) <|
  allq qX12_sayLiterals 175 (.inl (a_il 3 176)) (s_iload_n (q := 3) (i := 3) rfl (by decide +kernel)) <|
  allq qX12_sayLiterals 176 (.inl (o_icmp_ge 182 179)) (s_icmp_ge (off := 6) (by decide +kernel) (by decide)) <|
  allq qX12_sayLiterals 179 (.inl (a_ic 2 180)) (s_iconst (n := 2) (v := 2) rfl (by decide +kernel)) <|
  allq qX12_sayLiterals 180 (.inl (a_is 4 182)) (s_istore (i := 4) (by decide +kernel) (by decide)) <|
  allq qX12_sayLiterals 182 (.inl (a_il 4 184)) (s_iload (i := 4) (by decide +kernel)) <|
  allq qX12_sayLiterals 184 (.inl (a_ic 2 185)) (s_iconst (n := 2) (v := 2) rfl (by decide +kernel)) <|
  allq qX12_sayLiterals 185 (.inl (o_icmp_ne 239 188)) (s_icmp_ne (off := 54) (by decide +kernel) (by decide)) <|
  allq qX12_sayLiterals 188 (.inl (a_al 0 189)) (s_aload_n (q := 0) (i := 0) rfl (by decide +kernel)) <|
  allq qX12_sayLiterals 189 (.inl (a_il 4 191)) (s_iload (i := 4) (by decide +kernel)) <|
  allq qX12_sayLiterals 191 (.inl (a_il 8 193)) (s_iload (i := 8) (by decide +kernel)) <|
  allq qX12_sayLiterals 193 (.inl (a_il 7 195)) (s_iload (i := 7) (by decide +kernel)) <|
  allq qX12_sayLiterals 195 (.inr (.inl (193, 4, 12))) (okV (y := yX12_sayHead) kw_1550 kw_118 rfl rfl (by decide +kernel) kw_1549 kw_72 kw_1547) <|
  allq qX12_sayLiterals 198 (.inl (a_al 0 199)) (s_aload_n (q := 0) (i := 0) rfl (by decide +kernel)) <|
  allq qX12_sayLiterals 199 (.inr (.inl (152, 1, 12))) (okV (y := yX12_sayMade) kw_1554 kw_118 rfl rfl (by decide +kernel) kw_1553 kw_73 kw_1551) <|
  allq qX12_sayLiterals 202 (.inl (a_ic 0 203)) (s_iconst (n := 0) (v := 0) rfl (by decide +kernel)) <|
  allq qX12_sayLiterals 203 (.inl (a_is 9 205)) (s_istore (i := 9) (by decide +kernel) (by decide)) <|
  allq qX12_sayLiterals 205 (.inl (a_il 9 207)) (s_iload (i := 9) (by decide +kernel)) <|
  allq qX12_sayLiterals 207 (.inl (a_ic 256 210)) (s_sipush (n := 256) (v := 256) rfl (by decide +kernel)) <|
  allq qX12_sayLiterals 210 (.inl (o_icmp_ge 233 213)) (s_icmp_ge (off := 23) (by decide +kernel) (by decide)) <|
  allq qX12_sayLiterals 213 (.inl (a_al 0 214)) (s_aload_n (q := 0) (i := 0) rfl (by decide +kernel)) <|
  allq qX12_sayLiterals 214 (.inl (a_get 11 14 217)) (gX12 (f0 := 14) (by decide) kw_1199 (by decide +kernel)) <|
  allq qX12_sayLiterals 217 (.inl (a_il 9 219)) (s_iload (i := 9) (by decide +kernel)) <|
  allq qX12_sayLiterals 219 (.inl (a_al 0 220)) (s_aload_n (q := 0) (i := 0) rfl (by decide +kernel)) <|
  allq qX12_sayLiterals 220 (.inl (a_get 11 53 223)) (gX12 (f0 := 53) (by decide) kw_1238 (by decide +kernel)) <|
  allq qX12_sayLiterals 223 (.inl (a_il 9 225)) (s_iload (i := 9) (by decide +kernel)) <|
  allq qX12_sayLiterals 225 (.inl (a_iald 226)) (s_iald (by decide +kernel)) <|
  alln
set_option maxRecDepth 20000 in
theorem kX12_sayLiterals_3 : ∀ q ∈ tX12_sayLiterals_3, qX12_sayLiterals q :=
  allq qX12_sayLiterals 226 (.inl (a_iast 227)) (s_iast (by decide +kernel)) <|
  allq qX12_sayLiterals 227 (.inl (a_inc 9 1 230)) (s_iinc (i := 9) (n := 1) (n2 := 1) rfl (by decide +kernel) (by decide)) <|
  allq qX12_sayLiterals 230 (.inl (a_go 205)) (s_goto (off := (-25)) (by decide +kernel) (by decide)) <|
  allq qX12_sayLiterals 233 (.inl (a_al 0 234)) (s_aload_n (q := 0) (i := 0) rfl (by decide +kernel)) <|
  allq qX12_sayLiterals 234 (.inl (a_il 5 236)) (s_iload (i := 5) (by decide +kernel)) <|
  allq qX12_sayLiterals 236 (.inl (a_put 11 15 .int 239)) (pX12 (f0 := 15) (by decide) rfl rfl tOk kw_1200 (by decide +kernel)) <|
  allq qX12_sayLiterals 239 (.inl (a_il 4 241)) (s_iload (i := 4) (by decide +kernel)) <|
  allq qX12_sayLiterals 241 (.inl (a_ic 2 242)) (s_iconst (n := 2) (v := 2) rfl (by decide +kernel)) <|
  allq qX12_sayLiterals 242 (.inl (o_icmp_ge 330 245)) (s_icmp_ge (off := 88) (by decide +kernel) (by decide)) <|
  allq qX12_sayLiterals 245 (.inl (a_al 0 246)) (s_aload_n (q := 0) (i := 0) rfl (by decide +kernel)) <|
  allq qX12_sayLiterals 246 (.inl (a_il 2 247)) (s_iload_n (q := 2) (i := 2) rfl (by decide +kernel)) <|
  allq qX12_sayLiterals 247 (.inl (a_ic 1 248)) (s_iconst (n := 1) (v := 1) rfl (by decide +kernel)) <|
  allq qX12_sayLiterals 248 (.inl (o_icmp_ne 261 251)) (s_icmp_ne (off := 13) (by decide +kernel) (by decide)) <|
  allq qX12_sayLiterals 251 (.inl (a_il 1 252)) (s_iload_n (q := 1) (i := 1) rfl (by decide +kernel)) <|
  allq qX12_sayLiterals 252 (.inl (a_ic 3 253)) (s_iconst (n := 3) (v := 3) rfl (by decide +kernel)) <|
  allq qX12_sayLiterals 253 (.inl (o_ishl 254)) (s_ishl (by decide +kernel)) <|
  allq qX12_sayLiterals 254 (.inl (a_il 4 256)) (s_iload (i := 4) (by decide +kernel)) <|
  allq qX12_sayLiterals 256 (.inl (o_ior 257)) (s_ior (by decide +kernel)) <|
  allq qX12_sayLiterals 257 (.inl (a_i2l 258)) (s_i2l (by decide +kernel)) <|
  allq qX12_sayLiterals 258 (.inl (a_go 288)) (s_goto (off := 30) (by decide +kernel) (by decide)) <|
  allq qX12_sayLiterals 261 (.inl (a_il 2 262)) (s_iload_n (q := 2) (i := 2) rfl (by decide +kernel)) <|
  allq qX12_sayLiterals 262 (.inl (a_ic 2 263)) (s_iconst (n := 2) (v := 2) rfl (by decide +kernel)) <|
  allq qX12_sayLiterals 263 (.inl (o_icmp_ne 278 266)) (s_icmp_ne (off := 15) (by decide +kernel) (by decide)) <|
  allq qX12_sayLiterals 266 (.inl (a_il 1 267)) (s_iload_n (q := 1) (i := 1) rfl (by decide +kernel)) <|
  allq qX12_sayLiterals 267 (.inl (a_ic 4 268)) (s_iconst (n := 4) (v := 4) rfl (by decide +kernel)) <|
  allq qX12_sayLiterals 268 (.inl (o_ishl 269)) (s_ishl (by decide +kernel)) <|
  allq qX12_sayLiterals 269 (.inl (a_ic 4 270)) (s_iconst (n := 4) (v := 4) rfl (by decide +kernel)) <|
  allq qX12_sayLiterals 270 (.inl (o_ior 271)) (s_ior (by decide +kernel)) <|
  allq qX12_sayLiterals 271 (.inl (a_il 4 273)) (s_iload (i := 4) (by decide +kernel)) <|
  allq qX12_sayLiterals 273 (.inl (o_ior 274)) (s_ior (by decide +kernel)) <|
  allq qX12_sayLiterals 274 (.inl (a_i2l 275)) (s_i2l (by decide +kernel)) <|
  allq qX12_sayLiterals 275 (.inl (a_go 288)) (s_goto (off := 13) (by decide +kernel) (by decide)) <|
  allq qX12_sayLiterals 278 (.inl (a_il 1 279)) (s_iload_n (q := 1) (i := 1) rfl (by decide +kernel)) <|
  allq qX12_sayLiterals 279 (.inl (a_ic 4 280)) (s_iconst (n := 4) (v := 4) rfl (by decide +kernel)) <|
  allq qX12_sayLiterals 280 (.inl (o_ishl 281)) (s_ishl (by decide +kernel)) <|
  allq qX12_sayLiterals 281 (.inl (a_ic 12 283)) (s_bipush (n := 12) (v := 12) rfl (by decide +kernel)) <|
  allq qX12_sayLiterals 283 (.inl (o_ior 284)) (s_ior (by decide +kernel)) <|
  allq qX12_sayLiterals 284 (.inl (a_il 4 286)) (s_iload (i := 4) (by decide +kernel)) <|
  allq qX12_sayLiterals 286 (.inl (o_ior 287)) (s_ior (by decide +kernel)) <|
  allq qX12_sayLiterals 287 (.inl (a_i2l 288)) (s_i2l (by decide +kernel)) <|
  alln
set_option maxRecDepth 20000 in
theorem kX12_sayLiterals_4 : ∀ q ∈ tX12_sayLiterals_4, qX12_sayLiterals q :=
  allq qX12_sayLiterals 288 (.inl (a_il 2 289)) (s_iload_n (q := 2) (i := 2) rfl (by decide +kernel)) <|
  allq qX12_sayLiterals 289 (.inr (.inl (151, 3, 12))) (okV (y := yX12_sayNumber) kw_1412 kw_118 rfl rfl (by decide +kernel) kw_1411 kw_41 kw_1409) <|
  allq qX12_sayLiterals 292 (.inl (a_ic 0 293)) (s_iconst (n := 0) (v := 0) rfl (by decide +kernel)) <|
  allq qX12_sayLiterals 293 (.inl (a_is 5 295)) (s_istore (i := 5) (by decide +kernel) (by decide)) <|
  allq qX12_sayLiterals 295 (.inl (a_il 5 297)) (s_iload (i := 5) (by decide +kernel)) <|
  allq qX12_sayLiterals 297 (.inl (a_il 4 299)) (s_iload (i := 4) (by decide +kernel)) <|
  allq qX12_sayLiterals 299 (.inl (o_if_ne 306 302)) (s_if_ne (off := 7) (by decide +kernel) (by decide)) <|
  allq qX12_sayLiterals 302 (.inl (a_il 1 303)) (s_iload_n (q := 1) (i := 1) rfl (by decide +kernel)) <|
  allq qX12_sayLiterals 303 (.inl (a_go 307)) (s_goto (off := 4) (by decide +kernel) (by decide)) <|
  allq qX12_sayLiterals 306 (.inl (a_ic 1 307)) (s_iconst (n := 1) (v := 1) rfl (by decide +kernel)) <|
  allq qX12_sayLiterals 307 (.inl (o_icmp_ge 327 310)) (s_icmp_ge (off := 20) (by decide +kernel) (by decide)) <|
  allq qX12_sayLiterals 310 (.inl (a_al 0 311)) (s_aload_n (q := 0) (i := 0) rfl (by decide +kernel)) <|
  allq qX12_sayLiterals 311 (.inl (a_al 0 312)) (s_aload_n (q := 0) (i := 0) rfl (by decide +kernel)) <|
  allq qX12_sayLiterals 312 (.inl (a_get 11 32 315)) (gX12 (f0 := 32) (by decide) kw_1217 (by decide +kernel)) <|
  allq qX12_sayLiterals 315 (.inl (a_il 5 317)) (s_iload (i := 5) (by decide +kernel)) <|
  allq qX12_sayLiterals 317 (.inl (a_iald 318)) (s_iald (by decide +kernel)) <|
  allq qX12_sayLiterals 318 (.inr (.inl (150, 2, 12))) (okV (y := yX12_say) kw_1416 kw_118 rfl rfl (by decide +kernel) kw_1415 kw_42 kw_1413) <|
  allq qX12_sayLiterals 321 (.inl (a_inc 5 1 324)) (s_iinc (i := 5) (n := 1) (n2 := 1) rfl (by decide +kernel) (by decide)) <|
  allq qX12_sayLiterals 324 (.inl (a_go 295)) (s_goto (off := (-29)) (by decide +kernel) (by decide)) <|
  allq qX12_sayLiterals 327 (.inl (a_il 4 329)) (s_iload (i := 4) (by decide +kernel)) <|
  allq qX12_sayLiterals 329 (.inr (.inr 1)) (Or.inr (Or.inl ⟨rfl, rfl, by decide +kernel⟩)) <|
  allq qX12_sayLiterals 330 (.inl (a_il 4 332)) (s_iload (i := 4) (by decide +kernel)) <|
  allq qX12_sayLiterals 332 (.inl (a_ic 3 333)) (s_iconst (n := 3) (v := 3) rfl (by decide +kernel)) <|
  allq qX12_sayLiterals 333 (.inl (o_icmp_ne 361 336)) (s_icmp_ne (off := 28) (by decide +kernel) (by decide)) <|
  allq qX12_sayLiterals 336 (.inl (a_al 0 337)) (s_aload_n (q := 0) (i := 0) rfl (by decide +kernel)) <|
  allq qX12_sayLiterals 337 (.inl (a_al 0 338)) (s_aload_n (q := 0) (i := 0) rfl (by decide +kernel)) <|
  allq qX12_sayLiterals 338 (.inl (a_get 11 14 341)) (gX12 (f0 := 14) (by decide) kw_1199 (by decide +kernel)) <|
  allq qX12_sayLiterals 341 (.inl (a_ic 0 342)) (s_iconst (n := 0) (v := 0) rfl (by decide +kernel)) <|
  allq qX12_sayLiterals 342 (.inr (.inl (184, 3, 12))) (okV (y := yX12_bytesTold) kw_1465 kw_118 rfl rfl (by decide +kernel) kw_1464 kw_54 kw_1462) <|
  allq qX12_sayLiterals 345 (.inl (a_is 5 347)) (s_istore (i := 5) (by decide +kernel) (by decide)) <|
  allq qX12_sayLiterals 347 (.inl (a_al 0 348)) (s_aload_n (q := 0) (i := 0) rfl (by decide +kernel)) <|
  allq qX12_sayLiterals 348 (.inl (a_il 4 350)) (s_iload (i := 4) (by decide +kernel)) <|
  allq qX12_sayLiterals 350 (.inl (a_al 0 351)) (s_aload_n (q := 0) (i := 0) rfl (by decide +kernel)) <|
  allq qX12_sayLiterals 351 (.inl (a_il 5 353)) (s_iload (i := 5) (by decide +kernel)) <|
  allq qX12_sayLiterals 353 (.inr (.inl (187, 2, 12))) (okV (y := yX12_headOf) kw_1477 kw_118 rfl rfl (by decide +kernel) kw_1476 kw_57 kw_1474) <|
  allq qX12_sayLiterals 356 (.inl (a_il 5 358)) (s_iload (i := 5) (by decide +kernel)) <|
  allq qX12_sayLiterals 358 (.inr (.inl (193, 4, 12))) (okV (y := yX12_sayHead) kw_1550 kw_118 rfl rfl (by decide +kernel) kw_1549 kw_72 kw_1547) <|
  allq qX12_sayLiterals 361 (.inl (a_al 0 362)) (s_aload_n (q := 0) (i := 0) rfl (by decide +kernel)) <|
  allq qX12_sayLiterals 362 (.inl (a_al 0 363)) (s_aload_n (q := 0) (i := 0) rfl (by decide +kernel)) <|
  allq qX12_sayLiterals 363 (.inl (a_get 11 14 366)) (gX12 (f0 := 14) (by decide) kw_1199 (by decide +kernel)) <|
  alln
set_option maxRecDepth 20000 in
theorem kX12_sayLiterals_5 : ∀ q ∈ tX12_sayLiterals_5, qX12_sayLiterals q :=
  allq qX12_sayLiterals 366 (.inl (a_al 0 367)) (s_aload_n (q := 0) (i := 0) rfl (by decide +kernel)) <|
  allq qX12_sayLiterals 367 (.inl (a_get 11 15 370)) (gX12 (f0 := 15) (by decide) kw_1200 (by decide +kernel)) <|
  allq qX12_sayLiterals 370 (.inr (.inl (188, 3, 12))) (okV (y := yX12_layCells) kw_1558 kw_118 rfl rfl (by decide +kernel) kw_1557 kw_74 kw_1555) <|
  allq qX12_sayLiterals 373 (.inl (a_al 0 374)) (s_aload_n (q := 0) (i := 0) rfl (by decide +kernel)) <|
  allq qX12_sayLiterals 374 (.inr (.inl (149, 1, 12))) (okV (y := yX12_begin) kw_1511 kw_118 rfl rfl (by decide +kernel) kw_1510 kw_64 kw_1508) <|
  allq qX12_sayLiterals 377 (.inl (a_il 1 378)) (s_iload_n (q := 1) (i := 1) rfl (by decide +kernel)) <|
  allq qX12_sayLiterals 378 (.inl (a_ic 1024 381)) (s_sipush (n := 1024) (v := 1024) rfl (by decide +kernel)) <|
  allq qX12_sayLiterals 381 (.inl (o_icmp_ge 393 384)) (s_icmp_ge (off := 12) (by decide +kernel) (by decide)) <|
  allq qX12_sayLiterals 384 (.inl (a_al 0 385)) (s_aload_n (q := 0) (i := 0) rfl (by decide +kernel)) <|
  allq qX12_sayLiterals 385 (.inl (a_ic 0 386)) (s_iconst (n := 0) (v := 0) rfl (by decide +kernel)) <|
  allq qX12_sayLiterals 386 (.inl (a_il 1 387)) (s_iload_n (q := 1) (i := 1) rfl (by decide +kernel)) <|
  allq qX12_sayLiterals 387 (.inr (.inl (189, 3, 12))) (okV (y := yX12_putStream) kw_1562 kw_118 rfl rfl (by decide +kernel) kw_1561 kw_75 kw_1559) <|
  allq qX12_sayLiterals 390 (.inl (a_go 397)) (s_goto (off := 7) (by decide +kernel) (by decide)) <|
  allq qX12_sayLiterals 393 (.inl (a_al 0 394)) (s_aload_n (q := 0) (i := 0) rfl (by decide +kernel)) <|
  allq qX12_sayLiterals 394 (.inr (.inl (194, 1, 12))) (okV (y := yX12_putFour) kw_1566 kw_118 rfl rfl (by decide +kernel) kw_1565 kw_76 kw_1563) <|
  allq qX12_sayLiterals 397 (.inl (a_al 0 398)) (s_aload_n (q := 0) (i := 0) rfl (by decide +kernel)) <|
  allq qX12_sayLiterals 398 (.inr (.inl (152, 1, 12))) (okV (y := yX12_sayMade) kw_1554 kw_118 rfl rfl (by decide +kernel) kw_1553 kw_73 kw_1551) <|
  allq qX12_sayLiterals 401 (.inl (a_il 4 403)) (s_iload (i := 4) (by decide +kernel)) <|
  allq qX12_sayLiterals 403 (.inr (.inr 1)) (Or.inr (Or.inl ⟨rfl, rfl, by decide +kernel⟩)) <|
  alln
theorem kX12_sayLiterals : ∀ q ∈ tX12_sayLiterals, qX12_sayLiterals q := alla kX12_sayLiterals_0 (alla kX12_sayLiterals_1 (alla kX12_sayLiterals_2 (alla kX12_sayLiterals_3 (alla kX12_sayLiterals_4 kX12_sayLiterals_5))))
abbrev qX12_sayHead : Nat × aI → Prop := OkQ RX12 "sayHead" cX12_sayHead 4 (none)
set_option maxRecDepth 20000 in
theorem kX12_sayHead_0 : ∀ q ∈ tX12_sayHead_0, qX12_sayHead q :=
  allq qX12_sayHead 0 (.inl (a_al 0 1)) (s_aload_n (q := 0) (i := 0) rfl (by decide +kernel)) <|
  allq qX12_sayHead 1 (.inl (a_il 1 2)) (s_iload_n (q := 1) (i := 1) rfl (by decide +kernel)) <|
  allq qX12_sayHead 2 (.inl (a_i2l 3)) (s_i2l (by decide +kernel)) <|
  allq qX12_sayHead 3 (.inl (a_il 2 4)) (s_iload_n (q := 2) (i := 2) rfl (by decide +kernel)) <|
  allq qX12_sayHead 4 (.inl (a_i2l 5)) (s_i2l (by decide +kernel)) <|
  allq qX12_sayHead 5 (.inl (a_ic 2 6)) (s_iconst (n := 2) (v := 2) rfl (by decide +kernel)) <|
  allq qX12_sayHead 6 (.inl (o_lshl 7)) (s_lshl (by decide +kernel)) <|
  allq qX12_sayHead 7 (.inl (o_lor 8)) (s_lor (by decide +kernel)) <|
  allq qX12_sayHead 8 (.inl (a_al 0 9)) (s_aload_n (q := 0) (i := 0) rfl (by decide +kernel)) <|
  allq qX12_sayHead 9 (.inl (a_get 11 33 12)) (gX12 (f0 := 33) (by decide) kw_1218 (by decide +kernel)) <|
  allq qX12_sayHead 12 (.inl (a_i2l 13)) (s_i2l (by decide +kernel)) <|
  allq qX12_sayHead 13 (.inl (a_ic 4 14)) (s_iconst (n := 4) (v := 4) rfl (by decide +kernel)) <|
  allq qX12_sayHead 14 (.inl (o_lshl 15)) (s_lshl (by decide +kernel)) <|
  allq qX12_sayHead 15 (.inl (o_lor 16)) (s_lor (by decide +kernel)) <|
  allq qX12_sayHead 16 (.inl (a_il 3 17)) (s_iload_n (q := 3) (i := 3) rfl (by decide +kernel)) <|
  allq qX12_sayHead 17 (.inl (a_i2l 18)) (s_i2l (by decide +kernel)) <|
  allq qX12_sayHead 18 (.inl (a_ic 4 19)) (s_iconst (n := 4) (v := 4) rfl (by decide +kernel)) <|
  allq qX12_sayHead 19 (.inl (a_il 2 20)) (s_iload_n (q := 2) (i := 2) rfl (by decide +kernel)) <|
  allq qX12_sayHead 20 (.inr (.inl (185, 1, 0))) (okS (y := yX12_width) kw_1480 kw_118 rfl (by decide +kernel) kw_1479 (Or.inl kw_1478)) <|
  allq qX12_sayHead 23 (.inl (o_iadd 24)) (s_iadd (by decide +kernel)) <|
  allq qX12_sayHead 24 (.inl (o_lshl 25)) (s_lshl (by decide +kernel)) <|
  allq qX12_sayHead 25 (.inl (o_lor 26)) (s_lor (by decide +kernel)) <|
  allq qX12_sayHead 26 (.inl (a_il 2 27)) (s_iload_n (q := 2) (i := 2) rfl (by decide +kernel)) <|
  allq qX12_sayHead 27 (.inr (.inl (186, 1, 0))) (okS (y := yX12_headBytes) kw_1483 kw_118 rfl (by decide +kernel) kw_1482 (Or.inl kw_1481)) <|
  allq qX12_sayHead 30 (.inr (.inl (151, 3, 12))) (okV (y := yX12_sayNumber) kw_1412 kw_118 rfl rfl (by decide +kernel) kw_1411 kw_41 kw_1409) <|
  allq qX12_sayHead 33 (.inr (.inr 0)) (Or.inl ⟨rfl, rfl, by decide +kernel⟩) <|
  alln
theorem kX12_sayHead : ∀ q ∈ tX12_sayHead, qX12_sayHead q := kX12_sayHead_0
abbrev qX12_putFour : Nat × aI → Prop := OkQ RX12 "putFour" cX12_putFour 3 (none)
set_option maxRecDepth 20000 in
theorem kX12_putFour_0 : ∀ q ∈ tX12_putFour_0, qX12_putFour q :=
  allq qX12_putFour 0 (.inl (a_al 0 1)) (s_aload_n (q := 0) (i := 0) rfl (by decide +kernel)) <|
  allq qX12_putFour 1 (.inl (a_get 11 33 4)) (gX12 (f0 := 33) (by decide) kw_1218 (by decide +kernel)) <|
  allq qX12_putFour 4 (.inl (a_ic 3 5)) (s_iconst (n := 3) (v := 3) rfl (by decide +kernel)) <|
  allq qX12_putFour 5 (.inl (o_iadd 6)) (s_iadd (by decide +kernel)) <|
  allq qX12_putFour 6 (.inl (a_ic 4 7)) (s_iconst (n := 4) (v := 4) rfl (by decide +kernel)) <|
  allq qX12_putFour 7 (.inl (o_idiv 8)) (s_idiv (by decide +kernel)) <|
  allq qX12_putFour 8 (.inl (a_is 1 9)) (s_istore_n (q := 1) (i := 1) rfl (by decide +kernel) (by decide)) <|
  allq qX12_putFour 9 (.inl (a_ic 0 10)) (s_iconst (n := 0) (v := 0) rfl (by decide +kernel)) <|
  allq qX12_putFour 10 (.inl (a_is 2 11)) (s_istore_n (q := 2) (i := 2) rfl (by decide +kernel) (by decide)) <|
  allq qX12_putFour 11 (.inl (a_il 2 12)) (s_iload_n (q := 2) (i := 2) rfl (by decide +kernel)) <|
  allq qX12_putFour 12 (.inl (a_ic 3 13)) (s_iconst (n := 3) (v := 3) rfl (by decide +kernel)) <|
  allq qX12_putFour 13 (.inl (o_icmp_ge 44 16)) (s_icmp_ge (off := 31) (by decide +kernel) (by decide)) <|
  allq qX12_putFour 16 (.inl (a_al 0 17)) (s_aload_n (q := 0) (i := 0) rfl (by decide +kernel)) <|
  allq qX12_putFour 17 (.inl (a_al 0 18)) (s_aload_n (q := 0) (i := 0) rfl (by decide +kernel)) <|
  allq qX12_putFour 18 (.inl (a_al 0 19)) (s_aload_n (q := 0) (i := 0) rfl (by decide +kernel)) <|
  allq qX12_putFour 19 (.inl (a_get 11 14 22)) (gX12 (f0 := 14) (by decide) kw_1199 (by decide +kernel)) <|
  allq qX12_putFour 22 (.inl (a_il 2 23)) (s_iload_n (q := 2) (i := 2) rfl (by decide +kernel)) <|
  allq qX12_putFour 23 (.inl (a_il 1 24)) (s_iload_n (q := 1) (i := 1) rfl (by decide +kernel)) <|
  allq qX12_putFour 24 (.inl (o_imul 25)) (s_imul (by decide +kernel)) <|
  allq qX12_putFour 25 (.inl (a_il 2 26)) (s_iload_n (q := 2) (i := 2) rfl (by decide +kernel)) <|
  allq qX12_putFour 26 (.inl (a_il 1 27)) (s_iload_n (q := 1) (i := 1) rfl (by decide +kernel)) <|
  allq qX12_putFour 27 (.inl (o_imul 28)) (s_imul (by decide +kernel)) <|
  allq qX12_putFour 28 (.inl (a_il 1 29)) (s_iload_n (q := 1) (i := 1) rfl (by decide +kernel)) <|
  allq qX12_putFour 29 (.inl (o_iadd 30)) (s_iadd (by decide +kernel)) <|
  allq qX12_putFour 30 (.inr (.inl (182, 4, 12))) (okV (y := yX12_streamBytes) kw_1469 kw_118 rfl rfl (by decide +kernel) kw_1468 kw_55 kw_1466) <|
  allq qX12_putFour 33 (.inl (a_ic 16 35)) (s_bipush (n := 16) (v := 16) rfl (by decide +kernel)) <|
  allq qX12_putFour 35 (.inr (.inl (147, 3, 12))) (okV (y := yX12_put) kw_1515 kw_118 rfl rfl (by decide +kernel) kw_1514 kw_65 kw_1512) <|
  allq qX12_putFour 38 (.inl (a_inc 2 1 41)) (s_iinc (i := 2) (n := 1) (n2 := 1) rfl (by decide +kernel) (by decide)) <|
  allq qX12_putFour 41 (.inl (a_go 11)) (s_goto (off := (-30)) (by decide +kernel) (by decide)) <|
  allq qX12_putFour 44 (.inl (a_ic 0 45)) (s_iconst (n := 0) (v := 0) rfl (by decide +kernel)) <|
  allq qX12_putFour 45 (.inl (a_is 2 46)) (s_istore_n (q := 2) (i := 2) rfl (by decide +kernel) (by decide)) <|
  allq qX12_putFour 46 (.inl (a_il 2 47)) (s_iload_n (q := 2) (i := 2) rfl (by decide +kernel)) <|
  allq qX12_putFour 47 (.inl (a_ic 3 48)) (s_iconst (n := 3) (v := 3) rfl (by decide +kernel)) <|
  allq qX12_putFour 48 (.inl (o_icmp_ge 69 51)) (s_icmp_ge (off := 21) (by decide +kernel) (by decide)) <|
  allq qX12_putFour 51 (.inl (a_al 0 52)) (s_aload_n (q := 0) (i := 0) rfl (by decide +kernel)) <|
  allq qX12_putFour 52 (.inl (a_il 2 53)) (s_iload_n (q := 2) (i := 2) rfl (by decide +kernel)) <|
  allq qX12_putFour 53 (.inl (a_il 1 54)) (s_iload_n (q := 1) (i := 1) rfl (by decide +kernel)) <|
  allq qX12_putFour 54 (.inl (o_imul 55)) (s_imul (by decide +kernel)) <|
  allq qX12_putFour 55 (.inl (a_il 2 56)) (s_iload_n (q := 2) (i := 2) rfl (by decide +kernel)) <|
  allq qX12_putFour 56 (.inl (a_il 1 57)) (s_iload_n (q := 1) (i := 1) rfl (by decide +kernel)) <|
  alln
set_option maxRecDepth 20000 in
theorem kX12_putFour_1 : ∀ q ∈ tX12_putFour_1, qX12_putFour q :=
  allq qX12_putFour 57 (.inl (o_imul 58)) (s_imul (by decide +kernel)) <|
  allq qX12_putFour 58 (.inl (a_il 1 59)) (s_iload_n (q := 1) (i := 1) rfl (by decide +kernel)) <|
  allq qX12_putFour 59 (.inl (o_iadd 60)) (s_iadd (by decide +kernel)) <|
  allq qX12_putFour 60 (.inr (.inl (189, 3, 12))) (okV (y := yX12_putStream) kw_1562 kw_118 rfl rfl (by decide +kernel) kw_1561 kw_75 kw_1559) <|
  allq qX12_putFour 63 (.inl (a_inc 2 1 66)) (s_iinc (i := 2) (n := 1) (n2 := 1) rfl (by decide +kernel) (by decide)) <|
  allq qX12_putFour 66 (.inl (a_go 46)) (s_goto (off := (-20)) (by decide +kernel) (by decide)) <|
  allq qX12_putFour 69 (.inl (a_al 0 70)) (s_aload_n (q := 0) (i := 0) rfl (by decide +kernel)) <|
  allq qX12_putFour 70 (.inl (a_ic 3 71)) (s_iconst (n := 3) (v := 3) rfl (by decide +kernel)) <|
  allq qX12_putFour 71 (.inl (a_il 1 72)) (s_iload_n (q := 1) (i := 1) rfl (by decide +kernel)) <|
  allq qX12_putFour 72 (.inl (o_imul 73)) (s_imul (by decide +kernel)) <|
  allq qX12_putFour 73 (.inl (a_al 0 74)) (s_aload_n (q := 0) (i := 0) rfl (by decide +kernel)) <|
  allq qX12_putFour 74 (.inl (a_get 11 33 77)) (gX12 (f0 := 33) (by decide) kw_1218 (by decide +kernel)) <|
  allq qX12_putFour 77 (.inr (.inl (189, 3, 12))) (okV (y := yX12_putStream) kw_1562 kw_118 rfl rfl (by decide +kernel) kw_1561 kw_75 kw_1559) <|
  allq qX12_putFour 80 (.inr (.inr 0)) (Or.inl ⟨rfl, rfl, by decide +kernel⟩) <|
  alln
theorem kX12_putFour : ∀ q ∈ tX12_putFour, qX12_putFour q := alla kX12_putFour_0 kX12_putFour_1
abbrev qX12_sayTable : Nat × aI → Prop := OkQ RX12 "sayTable" cX12_sayTable 11 (some .int)
set_option maxRecDepth 20000 in
theorem kX12_sayTable_0 : ∀ q ∈ tX12_sayTable_0, qX12_sayTable q :=
  allq qX12_sayTable 0 (.inl (a_ic 64 2)) (s_bipush (n := 64) (v := 64) rfl (by decide +kernel)) <|
  allq qX12_sayTable 2 (.inl (a_il 1 3)) (s_iload_n (q := 1) (i := 1) rfl (by decide +kernel)) <|
  allq qX12_sayTable 3 (.inl (o_imul 4)) (s_imul (by decide +kernel)) <|
  allq qX12_sayTable 4 (.inl (a_is 2 5)) (s_istore_n (q := 2) (i := 2) rfl (by decide +kernel) (by decide)) <|
  allq qX12_sayTable 5 (.inl (a_al 0 6)) (s_aload_n (q := 0) (i := 0) rfl (by decide +kernel)) <|
  allq qX12_sayTable 6 (.inl (a_get 11 34 9)) (gX12 (f0 := 34) (by decide) kw_1219 (by decide +kernel)) <|
  allq qX12_sayTable 9 (.inl (a_ic 8001 12)) (s_sipush (n := 8001) (v := 8001) rfl (by decide +kernel)) <|
  allq qX12_sayTable 12 (.inl (a_il 1 13)) (s_iload_n (q := 1) (i := 1) rfl (by decide +kernel)) <|
  allq qX12_sayTable 13 (.inl (o_imul 14)) (s_imul (by decide +kernel)) <|
  allq qX12_sayTable 14 (.inl (a_iald 15)) (s_iald (by decide +kernel)) <|
  allq qX12_sayTable 15 (.inl (a_is 3 16)) (s_istore_n (q := 3) (i := 3) rfl (by decide +kernel) (by decide)) <|
  allq qX12_sayTable 16 (.inl (a_al 0 17)) (s_aload_n (q := 0) (i := 0) rfl (by decide +kernel)) <|
  allq qX12_sayTable 17 (.inl (a_il 1 18)) (s_iload_n (q := 1) (i := 1) rfl (by decide +kernel)) <|
  allq qX12_sayTable 18 (.inr (.inl (172, 2, 12))) (okV (y := yX12_countSymbols) kw_1596 kw_118 rfl rfl (by decide +kernel) kw_1595 kw_82 kw_1593) <|
  allq qX12_sayTable 21 (.inl (a_is 4 23)) (s_istore (i := 4) (by decide +kernel) (by decide)) <|
  allq qX12_sayTable 23 (.inl (a_ic (-1) 24)) (s_iconst (n := (-1)) (v := (-1)) rfl (by decide +kernel)) <|
  allq qX12_sayTable 24 (.inl (a_is 5 26)) (s_istore (i := 5) (by decide +kernel) (by decide)) <|
  allq qX12_sayTable 26 (.inl (a_ic 0 27)) (s_iconst (n := 0) (v := 0) rfl (by decide +kernel)) <|
  allq qX12_sayTable 27 (.inl (a_is 6 29)) (s_istore (i := 6) (by decide +kernel) (by decide)) <|
  allq qX12_sayTable 29 (.inl (a_al 0 30)) (s_aload_n (q := 0) (i := 0) rfl (by decide +kernel)) <|
  allq qX12_sayTable 30 (.inl (a_il 1 31)) (s_iload_n (q := 1) (i := 1) rfl (by decide +kernel)) <|
  allq qX12_sayTable 31 (.inr (.inl (175, 2, 12))) (okV (y := yX12_know) kw_1600 kw_118 rfl rfl (by decide +kernel) kw_1599 kw_83 kw_1597) <|
  allq qX12_sayTable 34 (.inl (a_is 7 36)) (s_istore (i := 7) (by decide +kernel) (by decide)) <|
  allq qX12_sayTable 36 (.inl (a_al 0 37)) (s_aload_n (q := 0) (i := 0) rfl (by decide +kernel)) <|
  allq qX12_sayTable 37 (.inl (a_il 1 38)) (s_iload_n (q := 1) (i := 1) rfl (by decide +kernel)) <|
  allq qX12_sayTable 38 (.inl (a_al 0 39)) (s_aload_n (q := 0) (i := 0) rfl (by decide +kernel)) <|
  allq qX12_sayTable 39 (.inl (a_get 11 45 42)) (gX12 (f0 := 45) (by decide) kw_1230 (by decide +kernel)) <|
  allq qX12_sayTable 42 (.inl (a_ic 0 43)) (s_iconst (n := 0) (v := 0) rfl (by decide +kernel)) <|
  allq qX12_sayTable 43 (.inl (a_il 7 45)) (s_iload (i := 7) (by decide +kernel)) <|
  allq qX12_sayTable 45 (.inr (.inl (168, 5, 12))) (okV (y := yX12_rowCost) kw_1608 kw_118 rfl rfl (by decide +kernel) kw_1607 kw_85 kw_1605) <|
  allq qX12_sayTable 48 (.inl (a_is 8 50)) (s_istore (i := 8) (by decide +kernel) (by decide)) <|
  allq qX12_sayTable 50 (.inl (a_il 8 52)) (s_iload (i := 8) (by decide +kernel)) <|
  allq qX12_sayTable 52 (.inl (o_if_lt 62 55)) (s_if_lt (off := 10) (by decide +kernel) (by decide)) <|
  allq qX12_sayTable 55 (.inl (a_ic 0 56)) (s_iconst (n := 0) (v := 0) rfl (by decide +kernel)) <|
  allq qX12_sayTable 56 (.inl (a_is 5 58)) (s_istore (i := 5) (by decide +kernel) (by decide)) <|
  allq qX12_sayTable 58 (.inl (a_il 8 60)) (s_iload (i := 8) (by decide +kernel)) <|
  allq qX12_sayTable 60 (.inl (a_is 6 62)) (s_istore (i := 6) (by decide +kernel) (by decide)) <|
  allq qX12_sayTable 62 (.inl (a_il 4 64)) (s_iload (i := 4) (by decide +kernel)) <|
  allq qX12_sayTable 64 (.inl (a_ic 1 65)) (s_iconst (n := 1) (v := 1) rfl (by decide +kernel)) <|
  allq qX12_sayTable 65 (.inl (o_icmp_ne 87 68)) (s_icmp_ne (off := 22) (by decide +kernel) (by decide)) <|
  alln
set_option maxRecDepth 20000 in
theorem kX12_sayTable_1 : ∀ q ∈ tX12_sayTable_1, qX12_sayTable q :=
  allq qX12_sayTable 68 (.inl (a_il 5 70)) (s_iload (i := 5) (by decide +kernel)) <|
  allq qX12_sayTable 70 (.inl (o_if_lt 80 73)) (s_if_lt (off := 10) (by decide +kernel) (by decide)) <|
  allq qX12_sayTable 73 (.inl (a_ic 8 75)) (s_bipush (n := 8) (v := 8) rfl (by decide +kernel)) <|
  allq qX12_sayTable 75 (.inl (a_il 6 77)) (s_iload (i := 6) (by decide +kernel)) <|
  allq qX12_sayTable 77 (.inl (o_icmp_ge 87 80)) (s_icmp_ge (off := 10) (by decide +kernel) (by decide)) <|
  allq qX12_sayTable 80 (.inl (a_ic 1 81)) (s_iconst (n := 1) (v := 1) rfl (by decide +kernel)) <|
  allq qX12_sayTable 81 (.inl (a_is 5 83)) (s_istore (i := 5) (by decide +kernel) (by decide)) <|
  allq qX12_sayTable 83 (.inl (a_ic 8 85)) (s_bipush (n := 8) (v := 8) rfl (by decide +kernel)) <|
  allq qX12_sayTable 85 (.inl (a_is 6 87)) (s_istore (i := 6) (by decide +kernel) (by decide)) <|
  allq qX12_sayTable 87 (.inl (a_al 0 88)) (s_aload_n (q := 0) (i := 0) rfl (by decide +kernel)) <|
  allq qX12_sayTable 88 (.inl (a_il 1 89)) (s_iload_n (q := 1) (i := 1) rfl (by decide +kernel)) <|
  allq qX12_sayTable 89 (.inr (.inl (171, 2, 12))) (okV (y := yX12_bestOrder) kw_1612 kw_118 rfl rfl (by decide +kernel) kw_1611 kw_86 kw_1609) <|
  allq qX12_sayTable 92 (.inl (a_is 9 94)) (s_istore (i := 9) (by decide +kernel) (by decide)) <|
  allq qX12_sayTable 94 (.inl (a_al 0 95)) (s_aload_n (q := 0) (i := 0) rfl (by decide +kernel)) <|
  allq qX12_sayTable 95 (.inl (a_il 1 96)) (s_iload_n (q := 1) (i := 1) rfl (by decide +kernel)) <|
  allq qX12_sayTable 96 (.inl (a_il 9 98)) (s_iload (i := 9) (by decide +kernel)) <|
  allq qX12_sayTable 98 (.inr (.inl (173, 3, 12))) (okV (y := yX12_shareCost) kw_1616 kw_118 rfl rfl (by decide +kernel) kw_1615 kw_87 kw_1613) <|
  allq qX12_sayTable 101 (.inl (a_is 8 103)) (s_istore (i := 8) (by decide +kernel) (by decide)) <|
  allq qX12_sayTable 103 (.inl (a_il 5 105)) (s_iload (i := 5) (by decide +kernel)) <|
  allq qX12_sayTable 105 (.inl (o_if_lt 115 108)) (s_if_lt (off := 10) (by decide +kernel) (by decide)) <|
  allq qX12_sayTable 108 (.inl (a_il 8 110)) (s_iload (i := 8) (by decide +kernel)) <|
  allq qX12_sayTable 110 (.inl (a_il 6 112)) (s_iload (i := 6) (by decide +kernel)) <|
  allq qX12_sayTable 112 (.inl (o_icmp_ge 122 115)) (s_icmp_ge (off := 10) (by decide +kernel) (by decide)) <|
  allq qX12_sayTable 115 (.inl (a_ic 2 116)) (s_iconst (n := 2) (v := 2) rfl (by decide +kernel)) <|
  allq qX12_sayTable 116 (.inl (a_is 5 118)) (s_istore (i := 5) (by decide +kernel) (by decide)) <|
  allq qX12_sayTable 118 (.inl (a_il 8 120)) (s_iload (i := 8) (by decide +kernel)) <|
  allq qX12_sayTable 120 (.inl (a_is 6 122)) (s_istore (i := 6) (by decide +kernel) (by decide)) <|
  allq qX12_sayTable 122 (.inl (a_al 0 123)) (s_aload_n (q := 0) (i := 0) rfl (by decide +kernel)) <|
  allq qX12_sayTable 123 (.inl (a_il 1 124)) (s_iload_n (q := 1) (i := 1) rfl (by decide +kernel)) <|
  allq qX12_sayTable 124 (.inl (a_il 4 126)) (s_iload (i := 4) (by decide +kernel)) <|
  allq qX12_sayTable 126 (.inl (a_il 3 127)) (s_iload_n (q := 3) (i := 3) rfl (by decide +kernel)) <|
  allq qX12_sayTable 127 (.inr (.inl (196, 4, 12))) (okV (y := yX12_asItWas) kw_1620 kw_118 rfl rfl (by decide +kernel) kw_1619 kw_88 kw_1617) <|
  allq qX12_sayTable 130 (.inl (a_is 8 132)) (s_istore (i := 8) (by decide +kernel) (by decide)) <|
  allq qX12_sayTable 132 (.inl (a_il 8 134)) (s_iload (i := 8) (by decide +kernel)) <|
  allq qX12_sayTable 134 (.inl (o_if_lt 147 137)) (s_if_lt (off := 13) (by decide +kernel) (by decide)) <|
  allq qX12_sayTable 137 (.inl (a_il 8 139)) (s_iload (i := 8) (by decide +kernel)) <|
  allq qX12_sayTable 139 (.inl (a_il 6 141)) (s_iload (i := 6) (by decide +kernel)) <|
  allq qX12_sayTable 141 (.inl (o_icmp_ge 147 144)) (s_icmp_ge (off := 6) (by decide +kernel) (by decide)) <|
  allq qX12_sayTable 144 (.inl (a_ic 3 145)) (s_iconst (n := 3) (v := 3) rfl (by decide +kernel)) <|
  allq qX12_sayTable 145 (.inl (a_is 5 147)) (s_istore (i := 5) (by decide +kernel) (by decide)) <|
  alln
set_option maxRecDepth 20000 in
theorem kX12_sayTable_2 : ∀ q ∈ tX12_sayTable_2, qX12_sayTable q :=
  allq qX12_sayTable 147 (.inl (a_al 0 148)) (s_aload_n (q := 0) (i := 0) rfl (by decide +kernel)) <|
  allq qX12_sayTable 148 (.inr (.inl (149, 1, 12))) (okV (y := yX12_begin) kw_1511 kw_118 rfl rfl (by decide +kernel) kw_1510 kw_64 kw_1508) <|
  allq qX12_sayTable 151 (.inl (a_il 5 153)) (s_iload (i := 5) (by decide +kernel)) <|
  allq qX12_sayTable 153 (.inl (a_ic 1 154)) (s_iconst (n := 1) (v := 1) rfl (by decide +kernel)) <|
  allq qX12_sayTable 154 (.inl (o_icmp_ne 164 157)) (s_icmp_ne (off := 10) (by decide +kernel) (by decide)) <|
  allq qX12_sayTable 157 (.inl (a_al 0 158)) (s_aload_n (q := 0) (i := 0) rfl (by decide +kernel)) <|
  allq qX12_sayTable 158 (.inl (a_il 3 159)) (s_iload_n (q := 3) (i := 3) rfl (by decide +kernel)) <|
  allq qX12_sayTable 159 (.inl (a_ic 8 161)) (s_bipush (n := 8) (v := 8) rfl (by decide +kernel)) <|
  allq qX12_sayTable 161 (.inr (.inl (147, 3, 12))) (okV (y := yX12_put) kw_1515 kw_118 rfl rfl (by decide +kernel) kw_1514 kw_65 kw_1512) <|
  allq qX12_sayTable 164 (.inl (a_il 5 166)) (s_iload (i := 5) (by decide +kernel)) <|
  allq qX12_sayTable 166 (.inl (o_if_ne 180 169)) (s_if_ne (off := 14) (by decide +kernel) (by decide)) <|
  allq qX12_sayTable 169 (.inl (a_al 0 170)) (s_aload_n (q := 0) (i := 0) rfl (by decide +kernel)) <|
  allq qX12_sayTable 170 (.inl (a_get 11 17 173)) (gX12 (f0 := 17) (by decide) kw_1202 (by decide +kernel)) <|
  allq qX12_sayTable 173 (.inl (a_il 1 174)) (s_iload_n (q := 1) (i := 1) rfl (by decide +kernel)) <|
  allq qX12_sayTable 174 (.inl (a_al 0 175)) (s_aload_n (q := 0) (i := 0) rfl (by decide +kernel)) <|
  allq qX12_sayTable 175 (.inl (a_il 1 176)) (s_iload_n (q := 1) (i := 1) rfl (by decide +kernel)) <|
  allq qX12_sayTable 176 (.inr (.inl (175, 2, 12))) (okV (y := yX12_know) kw_1600 kw_118 rfl rfl (by decide +kernel) kw_1599 kw_83 kw_1597) <|
  allq qX12_sayTable 179 (.inl (a_iast 180)) (s_iast (by decide +kernel)) <|
  allq qX12_sayTable 180 (.inl (a_il 5 182)) (s_iload (i := 5) (by decide +kernel)) <|
  allq qX12_sayTable 182 (.inl (a_ic 1 183)) (s_iconst (n := 1) (v := 1) rfl (by decide +kernel)) <|
  allq qX12_sayTable 183 (.inl (o_icmp_ne 193 186)) (s_icmp_ne (off := 10) (by decide +kernel) (by decide)) <|
  allq qX12_sayTable 186 (.inl (a_al 0 187)) (s_aload_n (q := 0) (i := 0) rfl (by decide +kernel)) <|
  allq qX12_sayTable 187 (.inl (a_get 11 17 190)) (gX12 (f0 := 17) (by decide) kw_1202 (by decide +kernel)) <|
  allq qX12_sayTable 190 (.inl (a_il 1 191)) (s_iload_n (q := 1) (i := 1) rfl (by decide +kernel)) <|
  allq qX12_sayTable 191 (.inl (a_ic 0 192)) (s_iconst (n := 0) (v := 0) rfl (by decide +kernel)) <|
  allq qX12_sayTable 192 (.inl (a_iast 193)) (s_iast (by decide +kernel)) <|
  allq qX12_sayTable 193 (.inl (a_il 5 195)) (s_iload (i := 5) (by decide +kernel)) <|
  allq qX12_sayTable 195 (.inl (a_ic 2 196)) (s_iconst (n := 2) (v := 2) rfl (by decide +kernel)) <|
  allq qX12_sayTable 196 (.inl (o_icmp_ne 228 199)) (s_icmp_ne (off := 32) (by decide +kernel) (by decide)) <|
  allq qX12_sayTable 199 (.inl (a_al 0 200)) (s_aload_n (q := 0) (i := 0) rfl (by decide +kernel)) <|
  allq qX12_sayTable 200 (.inl (a_get 11 17 203)) (gX12 (f0 := 17) (by decide) kw_1202 (by decide +kernel)) <|
  allq qX12_sayTable 203 (.inl (a_il 1 204)) (s_iload_n (q := 1) (i := 1) rfl (by decide +kernel)) <|
  allq qX12_sayTable 204 (.inl (a_il 9 206)) (s_iload (i := 9) (by decide +kernel)) <|
  allq qX12_sayTable 206 (.inl (a_iast 207)) (s_iast (by decide +kernel)) <|
  allq qX12_sayTable 207 (.inl (a_al 0 208)) (s_aload_n (q := 0) (i := 0) rfl (by decide +kernel)) <|
  allq qX12_sayTable 208 (.inl (a_al 0 209)) (s_aload_n (q := 0) (i := 0) rfl (by decide +kernel)) <|
  allq qX12_sayTable 209 (.inl (a_get 11 31 212)) (gX12 (f0 := 31) (by decide) kw_1216 (by decide +kernel)) <|
  allq qX12_sayTable 212 (.inl (a_il 9 214)) (s_iload (i := 9) (by decide +kernel)) <|
  allq qX12_sayTable 214 (.inr (.inl (169, 3, 12))) (okV (y := yX12_divide) kw_1520 kw_118 rfl rfl (by decide +kernel) kw_1519 kw_66 kw_1517) <|
  allq qX12_sayTable 217 (.inl (a_al 0 218)) (s_aload_n (q := 0) (i := 0) rfl (by decide +kernel)) <|
  alln
set_option maxRecDepth 20000 in
theorem kX12_sayTable_3 : ∀ q ∈ tX12_sayTable_3, qX12_sayTable q :=
  allq qX12_sayTable 218 (.inl (a_al 0 219)) (s_aload_n (q := 0) (i := 0) rfl (by decide +kernel)) <|
  allq qX12_sayTable 219 (.inl (a_get 11 45 222)) (gX12 (f0 := 45) (by decide) kw_1230 (by decide +kernel)) <|
  allq qX12_sayTable 222 (.inl (a_ic 0 223)) (s_iconst (n := 0) (v := 0) rfl (by decide +kernel)) <|
  allq qX12_sayTable 223 (.inl (a_il 9 225)) (s_iload (i := 9) (by decide +kernel)) <|
  allq qX12_sayTable 225 (.inr (.inl (170, 4, 12))) (okV (y := yX12_putShare) kw_1527 kw_118 rfl rfl (by decide +kernel) kw_1526 kw_67 kw_1524) <|
  allq qX12_sayTable 228 (.inl (a_ic 0 229)) (s_iconst (n := 0) (v := 0) rfl (by decide +kernel)) <|
  allq qX12_sayTable 229 (.inl (a_is 10 231)) (s_istore (i := 10) (by decide +kernel) (by decide)) <|
  allq qX12_sayTable 231 (.inl (a_il 10 233)) (s_iload (i := 10) (by decide +kernel)) <|
  allq qX12_sayTable 233 (.inl (a_ic 64 235)) (s_bipush (n := 64) (v := 64) rfl (by decide +kernel)) <|
  allq qX12_sayTable 235 (.inl (o_icmp_ge 286 238)) (s_icmp_ge (off := 51) (by decide +kernel) (by decide)) <|
  allq qX12_sayTable 238 (.inl (a_il 5 240)) (s_iload (i := 5) (by decide +kernel)) <|
  allq qX12_sayTable 240 (.inl (a_ic 3 241)) (s_iconst (n := 3) (v := 3) rfl (by decide +kernel)) <|
  allq qX12_sayTable 241 (.inl (o_icmp_ge 286 244)) (s_icmp_ge (off := 45) (by decide +kernel) (by decide)) <|
  allq qX12_sayTable 244 (.inl (a_al 0 245)) (s_aload_n (q := 0) (i := 0) rfl (by decide +kernel)) <|
  allq qX12_sayTable 245 (.inl (a_get 11 16 248)) (gX12 (f0 := 16) (by decide) kw_1201 (by decide +kernel)) <|
  allq qX12_sayTable 248 (.inl (a_il 2 249)) (s_iload_n (q := 2) (i := 2) rfl (by decide +kernel)) <|
  allq qX12_sayTable 249 (.inl (a_il 10 251)) (s_iload (i := 10) (by decide +kernel)) <|
  allq qX12_sayTable 251 (.inl (o_iadd 252)) (s_iadd (by decide +kernel)) <|
  allq qX12_sayTable 252 (.inl (a_il 5 254)) (s_iload (i := 5) (by decide +kernel)) <|
  allq qX12_sayTable 254 (.inl (a_ic 1 255)) (s_iconst (n := 1) (v := 1) rfl (by decide +kernel)) <|
  allq qX12_sayTable 255 (.inl (o_icmp_ne 272 258)) (s_icmp_ne (off := 17) (by decide +kernel) (by decide)) <|
  allq qX12_sayTable 258 (.inl (a_il 10 260)) (s_iload (i := 10) (by decide +kernel)) <|
  allq qX12_sayTable 260 (.inl (a_il 3 261)) (s_iload_n (q := 3) (i := 3) rfl (by decide +kernel)) <|
  allq qX12_sayTable 261 (.inl (o_icmp_ne 268 264)) (s_icmp_ne (off := 7) (by decide +kernel) (by decide)) <|
  allq qX12_sayTable 264 (.inl (a_ic 1 265)) (s_iconst (n := 1) (v := 1) rfl (by decide +kernel)) <|
  allq qX12_sayTable 265 (.inl (a_go 279)) (s_goto (off := 14) (by decide +kernel) (by decide)) <|
  allq qX12_sayTable 268 (.inl (a_ic 0 269)) (s_iconst (n := 0) (v := 0) rfl (by decide +kernel)) <|
  allq qX12_sayTable 269 (.inl (a_go 279)) (s_goto (off := 10) (by decide +kernel) (by decide)) <|
  allq qX12_sayTable 272 (.inl (a_al 0 273)) (s_aload_n (q := 0) (i := 0) rfl (by decide +kernel)) <|
  allq qX12_sayTable 273 (.inl (a_get 11 45 276)) (gX12 (f0 := 45) (by decide) kw_1230 (by decide +kernel)) <|
  allq qX12_sayTable 276 (.inl (a_il 10 278)) (s_iload (i := 10) (by decide +kernel)) <|
  allq qX12_sayTable 278 (.inl (a_iald 279)) (s_iald (by decide +kernel)) <|
  allq qX12_sayTable 279 (.inl (a_iast 280)) (s_iast (by decide +kernel)) <|
  allq qX12_sayTable 280 (.inl (a_inc 10 1 283)) (s_iinc (i := 10) (n := 1) (n2 := 1) rfl (by decide +kernel) (by decide)) <|
  allq qX12_sayTable 283 (.inl (a_go 231)) (s_goto (off := (-52)) (by decide +kernel) (by decide)) <|
  allq qX12_sayTable 286 (.inl (a_il 5 288)) (s_iload (i := 5) (by decide +kernel)) <|
  allq qX12_sayTable 288 (.inr (.inr 1)) (Or.inr (Or.inl ⟨rfl, rfl, by decide +kernel⟩)) <|
  alln
theorem kX12_sayTable : ∀ q ∈ tX12_sayTable, qX12_sayTable q := alla kX12_sayTable_0 (alla kX12_sayTable_1 (alla kX12_sayTable_2 kX12_sayTable_3))
abbrev qX12_asItWas : Nat × aI → Prop := OkQ RX12 "asItWas" cX12_asItWas 4 (some .int)
set_option maxRecDepth 20000 in
theorem kX12_asItWas_0 : ∀ q ∈ tX12_asItWas_0, qX12_asItWas q :=
  allq qX12_asItWas 0 (.inl (a_al 0 1)) (s_aload_n (q := 0) (i := 0) rfl (by decide +kernel)) <|
  allq qX12_asItWas 1 (.inl (a_get 11 17 4)) (gX12 (f0 := 17) (by decide) kw_1202 (by decide +kernel)) <|
  allq qX12_asItWas 4 (.inl (a_il 1 5)) (s_iload_n (q := 1) (i := 1) rfl (by decide +kernel)) <|
  allq qX12_asItWas 5 (.inl (a_iald 6)) (s_iald (by decide +kernel)) <|
  allq qX12_asItWas 6 (.inl (o_if_ge 11 9)) (s_if_ge (off := 5) (by decide +kernel) (by decide)) <|
  allq qX12_asItWas 9 (.inl (a_ic (-1) 10)) (s_iconst (n := (-1)) (v := (-1)) rfl (by decide +kernel)) <|
  allq qX12_asItWas 10 (.inr (.inr 1)) (Or.inr (Or.inl ⟨rfl, rfl, by decide +kernel⟩)) <|
  allq qX12_asItWas 11 (.inl (a_al 0 12)) (s_aload_n (q := 0) (i := 0) rfl (by decide +kernel)) <|
  allq qX12_asItWas 12 (.inl (a_get 11 17 15)) (gX12 (f0 := 17) (by decide) kw_1202 (by decide +kernel)) <|
  allq qX12_asItWas 15 (.inl (a_il 1 16)) (s_iload_n (q := 1) (i := 1) rfl (by decide +kernel)) <|
  allq qX12_asItWas 16 (.inl (a_iald 17)) (s_iald (by decide +kernel)) <|
  allq qX12_asItWas 17 (.inl (o_if_le 40 20)) (s_if_le (off := 23) (by decide +kernel) (by decide)) <|
  allq qX12_asItWas 20 (.inl (a_al 0 21)) (s_aload_n (q := 0) (i := 0) rfl (by decide +kernel)) <|
  allq qX12_asItWas 21 (.inl (a_il 1 22)) (s_iload_n (q := 1) (i := 1) rfl (by decide +kernel)) <|
  allq qX12_asItWas 22 (.inl (a_al 0 23)) (s_aload_n (q := 0) (i := 0) rfl (by decide +kernel)) <|
  allq qX12_asItWas 23 (.inl (a_get 11 16 26)) (gX12 (f0 := 16) (by decide) kw_1201 (by decide +kernel)) <|
  allq qX12_asItWas 26 (.inl (a_ic 64 28)) (s_bipush (n := 64) (v := 64) rfl (by decide +kernel)) <|
  allq qX12_asItWas 28 (.inl (a_il 1 29)) (s_iload_n (q := 1) (i := 1) rfl (by decide +kernel)) <|
  allq qX12_asItWas 29 (.inl (o_imul 30)) (s_imul (by decide +kernel)) <|
  allq qX12_asItWas 30 (.inl (a_al 0 31)) (s_aload_n (q := 0) (i := 0) rfl (by decide +kernel)) <|
  allq qX12_asItWas 31 (.inl (a_get 11 17 34)) (gX12 (f0 := 17) (by decide) kw_1202 (by decide +kernel)) <|
  allq qX12_asItWas 34 (.inl (a_il 1 35)) (s_iload_n (q := 1) (i := 1) rfl (by decide +kernel)) <|
  allq qX12_asItWas 35 (.inl (a_iald 36)) (s_iald (by decide +kernel)) <|
  allq qX12_asItWas 36 (.inr (.inl (168, 5, 12))) (okV (y := yX12_rowCost) kw_1608 kw_118 rfl rfl (by decide +kernel) kw_1607 kw_85 kw_1605) <|
  allq qX12_asItWas 39 (.inr (.inr 1)) (Or.inr (Or.inl ⟨rfl, rfl, by decide +kernel⟩)) <|
  allq qX12_asItWas 40 (.inl (a_il 2 41)) (s_iload_n (q := 2) (i := 2) rfl (by decide +kernel)) <|
  allq qX12_asItWas 41 (.inl (a_ic 1 42)) (s_iconst (n := 1) (v := 1) rfl (by decide +kernel)) <|
  allq qX12_asItWas 42 (.inl (o_icmp_ne 64 45)) (s_icmp_ne (off := 22) (by decide +kernel) (by decide)) <|
  allq qX12_asItWas 45 (.inl (a_al 0 46)) (s_aload_n (q := 0) (i := 0) rfl (by decide +kernel)) <|
  allq qX12_asItWas 46 (.inl (a_get 11 16 49)) (gX12 (f0 := 16) (by decide) kw_1201 (by decide +kernel)) <|
  allq qX12_asItWas 49 (.inl (a_ic 64 51)) (s_bipush (n := 64) (v := 64) rfl (by decide +kernel)) <|
  allq qX12_asItWas 51 (.inl (a_il 1 52)) (s_iload_n (q := 1) (i := 1) rfl (by decide +kernel)) <|
  allq qX12_asItWas 52 (.inl (o_imul 53)) (s_imul (by decide +kernel)) <|
  allq qX12_asItWas 53 (.inl (a_il 3 54)) (s_iload_n (q := 3) (i := 3) rfl (by decide +kernel)) <|
  allq qX12_asItWas 54 (.inl (o_iadd 55)) (s_iadd (by decide +kernel)) <|
  allq qX12_asItWas 55 (.inl (a_iald 56)) (s_iald (by decide +kernel)) <|
  allq qX12_asItWas 56 (.inl (a_ic 1 57)) (s_iconst (n := 1) (v := 1) rfl (by decide +kernel)) <|
  allq qX12_asItWas 57 (.inl (o_icmp_ne 64 60)) (s_icmp_ne (off := 7) (by decide +kernel) (by decide)) <|
  allq qX12_asItWas 60 (.inl (a_ic 0 61)) (s_iconst (n := 0) (v := 0) rfl (by decide +kernel)) <|
  allq qX12_asItWas 61 (.inl (a_go 65)) (s_goto (off := 4) (by decide +kernel) (by decide)) <|
  alln
set_option maxRecDepth 20000 in
theorem kX12_asItWas_1 : ∀ q ∈ tX12_asItWas_1, qX12_asItWas q :=
  allq qX12_asItWas 64 (.inl (a_ic (-1) 65)) (s_iconst (n := (-1)) (v := (-1)) rfl (by decide +kernel)) <|
  allq qX12_asItWas 65 (.inr (.inr 1)) (Or.inr (Or.inl ⟨rfl, rfl, by decide +kernel⟩)) <|
  alln
theorem kX12_asItWas : ∀ q ∈ tX12_asItWas, qX12_asItWas q := alla kX12_asItWas_0 kX12_asItWas_1
abbrev qX12_putMore : Nat × aI → Prop := OkQ RX12 "putMore" cX12_putMore 3 (none)
set_option maxRecDepth 20000 in
theorem kX12_putMore_0 : ∀ q ∈ tX12_putMore_0, qX12_putMore q :=
  allq qX12_putMore 0 (.inl (a_al 0 1)) (s_aload_n (q := 0) (i := 0) rfl (by decide +kernel)) <|
  allq qX12_putMore 1 (.inl (a_al 0 2)) (s_aload_n (q := 0) (i := 0) rfl (by decide +kernel)) <|
  allq qX12_putMore 2 (.inl (a_get 11 36 5)) (gX12 (f0 := 36) (by decide) kw_1221 (by decide +kernel)) <|
  allq qX12_putMore 5 (.inl (a_ic 8001 8)) (s_sipush (n := 8001) (v := 8001) rfl (by decide +kernel)) <|
  allq qX12_putMore 8 (.inl (a_il 1 9)) (s_iload_n (q := 1) (i := 1) rfl (by decide +kernel)) <|
  allq qX12_putMore 9 (.inl (o_imul 10)) (s_imul (by decide +kernel)) <|
  allq qX12_putMore 10 (.inl (a_il 2 11)) (s_iload_n (q := 2) (i := 2) rfl (by decide +kernel)) <|
  allq qX12_putMore 11 (.inl (o_iadd 12)) (s_iadd (by decide +kernel)) <|
  allq qX12_putMore 12 (.inl (a_iald 13)) (s_iald (by decide +kernel)) <|
  allq qX12_putMore 13 (.inl (a_al 0 14)) (s_aload_n (q := 0) (i := 0) rfl (by decide +kernel)) <|
  allq qX12_putMore 14 (.inl (a_get 11 35 17)) (gX12 (f0 := 35) (by decide) kw_1220 (by decide +kernel)) <|
  allq qX12_putMore 17 (.inl (a_ic 8001 20)) (s_sipush (n := 8001) (v := 8001) rfl (by decide +kernel)) <|
  allq qX12_putMore 20 (.inl (a_il 1 21)) (s_iload_n (q := 1) (i := 1) rfl (by decide +kernel)) <|
  allq qX12_putMore 21 (.inl (o_imul 22)) (s_imul (by decide +kernel)) <|
  allq qX12_putMore 22 (.inl (a_il 2 23)) (s_iload_n (q := 2) (i := 2) rfl (by decide +kernel)) <|
  allq qX12_putMore 23 (.inl (o_iadd 24)) (s_iadd (by decide +kernel)) <|
  allq qX12_putMore 24 (.inl (a_iald 25)) (s_iald (by decide +kernel)) <|
  allq qX12_putMore 25 (.inr (.inl (147, 3, 12))) (okV (y := yX12_put) kw_1515 kw_118 rfl rfl (by decide +kernel) kw_1514 kw_65 kw_1512) <|
  allq qX12_putMore 28 (.inr (.inr 0)) (Or.inl ⟨rfl, rfl, by decide +kernel⟩) <|
  alln
theorem kX12_putMore : ∀ q ∈ tX12_putMore, qX12_putMore q := kX12_putMore_0
abbrev qX12_putAllMore : Nat × aI → Prop := OkQ RX12 "putAllMore" cX12_putAllMore 2 (none)
set_option maxRecDepth 20000 in
theorem kX12_putAllMore_0 : ∀ q ∈ tX12_putAllMore_0, qX12_putAllMore q :=
  allq qX12_putAllMore 0 (.inl (a_al 0 1)) (s_aload_n (q := 0) (i := 0) rfl (by decide +kernel)) <|
  allq qX12_putAllMore 1 (.inl (a_ic 0 2)) (s_iconst (n := 0) (v := 0) rfl (by decide +kernel)) <|
  allq qX12_putAllMore 2 (.inl (a_il 1 3)) (s_iload_n (q := 1) (i := 1) rfl (by decide +kernel)) <|
  allq qX12_putAllMore 3 (.inr (.inl (197, 3, 12))) (okV (y := yX12_putMore) kw_1636 kw_118 rfl rfl (by decide +kernel) kw_1635 kw_92 kw_1633) <|
  allq qX12_putAllMore 6 (.inl (a_al 0 7)) (s_aload_n (q := 0) (i := 0) rfl (by decide +kernel)) <|
  allq qX12_putAllMore 7 (.inl (a_ic 2 8)) (s_iconst (n := 2) (v := 2) rfl (by decide +kernel)) <|
  allq qX12_putAllMore 8 (.inl (a_il 1 9)) (s_iload_n (q := 1) (i := 1) rfl (by decide +kernel)) <|
  allq qX12_putAllMore 9 (.inr (.inl (197, 3, 12))) (okV (y := yX12_putMore) kw_1636 kw_118 rfl rfl (by decide +kernel) kw_1635 kw_92 kw_1633) <|
  allq qX12_putAllMore 12 (.inl (a_al 0 13)) (s_aload_n (q := 0) (i := 0) rfl (by decide +kernel)) <|
  allq qX12_putAllMore 13 (.inl (a_ic 1 14)) (s_iconst (n := 1) (v := 1) rfl (by decide +kernel)) <|
  allq qX12_putAllMore 14 (.inl (a_il 1 15)) (s_iload_n (q := 1) (i := 1) rfl (by decide +kernel)) <|
  allq qX12_putAllMore 15 (.inr (.inl (197, 3, 12))) (okV (y := yX12_putMore) kw_1636 kw_118 rfl rfl (by decide +kernel) kw_1635 kw_92 kw_1633) <|
  allq qX12_putAllMore 18 (.inr (.inr 0)) (Or.inl ⟨rfl, rfl, by decide +kernel⟩) <|
  alln
theorem kX12_putAllMore : ∀ q ∈ tX12_putAllMore, qX12_putAllMore q := kX12_putAllMore_0
abbrev qX12_putState : Nat × aI → Prop := OkQ RX12 "putState" cX12_putState 5 (some .int)
set_option maxRecDepth 20000 in
theorem kX12_putState_0 : ∀ q ∈ tX12_putState_0, qX12_putState q :=
  allq qX12_putState 0 (.inl (a_al 0 1)) (s_aload_n (q := 0) (i := 0) rfl (by decide +kernel)) <|
  allq qX12_putState 1 (.inl (a_get 11 17 4)) (gX12 (f0 := 17) (by decide) kw_1202 (by decide +kernel)) <|
  allq qX12_putState 4 (.inl (a_il 1 5)) (s_iload_n (q := 1) (i := 1) rfl (by decide +kernel)) <|
  allq qX12_putState 5 (.inl (a_iald 6)) (s_iald (by decide +kernel)) <|
  allq qX12_putState 6 (.inl (o_if_ne 11 9)) (s_if_ne (off := 5) (by decide +kernel) (by decide)) <|
  allq qX12_putState 9 (.inl (a_ic 0 10)) (s_iconst (n := 0) (v := 0) rfl (by decide +kernel)) <|
  allq qX12_putState 10 (.inr (.inr 1)) (Or.inr (Or.inl ⟨rfl, rfl, by decide +kernel⟩)) <|
  allq qX12_putState 11 (.inl (a_al 0 12)) (s_aload_n (q := 0) (i := 0) rfl (by decide +kernel)) <|
  allq qX12_putState 12 (.inl (a_ic 512 15)) (s_sipush (n := 512) (v := 512) rfl (by decide +kernel)) <|
  allq qX12_putState 15 (.inl (a_il 1 16)) (s_iload_n (q := 1) (i := 1) rfl (by decide +kernel)) <|
  allq qX12_putState 16 (.inl (o_imul 17)) (s_imul (by decide +kernel)) <|
  allq qX12_putState 17 (.inl (a_al 0 18)) (s_aload_n (q := 0) (i := 0) rfl (by decide +kernel)) <|
  allq qX12_putState 18 (.inl (a_get 11 17 21)) (gX12 (f0 := 17) (by decide) kw_1202 (by decide +kernel)) <|
  allq qX12_putState 21 (.inl (a_il 1 22)) (s_iload_n (q := 1) (i := 1) rfl (by decide +kernel)) <|
  allq qX12_putState 22 (.inl (a_iald 23)) (s_iald (by decide +kernel)) <|
  allq qX12_putState 23 (.inl (a_al 0 24)) (s_aload_n (q := 0) (i := 0) rfl (by decide +kernel)) <|
  allq qX12_putState 24 (.inl (a_get 11 34 27)) (gX12 (f0 := 34) (by decide) kw_1219 (by decide +kernel)) <|
  allq qX12_putState 27 (.inl (a_ic 8001 30)) (s_sipush (n := 8001) (v := 8001) rfl (by decide +kernel)) <|
  allq qX12_putState 30 (.inl (a_il 1 31)) (s_iload_n (q := 1) (i := 1) rfl (by decide +kernel)) <|
  allq qX12_putState 31 (.inl (o_imul 32)) (s_imul (by decide +kernel)) <|
  allq qX12_putState 32 (.inl (a_il 2 33)) (s_iload_n (q := 2) (i := 2) rfl (by decide +kernel)) <|
  allq qX12_putState 33 (.inl (o_iadd 34)) (s_iadd (by decide +kernel)) <|
  allq qX12_putState 34 (.inl (a_iald 35)) (s_iald (by decide +kernel)) <|
  allq qX12_putState 35 (.inl (a_il 3 36)) (s_iload_n (q := 3) (i := 3) rfl (by decide +kernel)) <|
  allq qX12_putState 36 (.inr (.inl (167, 5, 12))) (okV (y := yX12_leading) kw_1546 kw_118 rfl rfl (by decide +kernel) kw_1545 kw_71 kw_1543) <|
  allq qX12_putState 39 (.inl (a_is 4 41)) (s_istore (i := 4) (by decide +kernel) (by decide)) <|
  allq qX12_putState 41 (.inl (a_al 0 42)) (s_aload_n (q := 0) (i := 0) rfl (by decide +kernel)) <|
  allq qX12_putState 42 (.inl (a_il 3 43)) (s_iload_n (q := 3) (i := 3) rfl (by decide +kernel)) <|
  allq qX12_putState 43 (.inl (a_al 0 44)) (s_aload_n (q := 0) (i := 0) rfl (by decide +kernel)) <|
  allq qX12_putState 44 (.inl (a_get 11 43 47)) (gX12 (f0 := 43) (by decide) kw_1228 (by decide +kernel)) <|
  allq qX12_putState 47 (.inl (a_ic 512 50)) (s_sipush (n := 512) (v := 512) rfl (by decide +kernel)) <|
  allq qX12_putState 50 (.inl (a_il 1 51)) (s_iload_n (q := 1) (i := 1) rfl (by decide +kernel)) <|
  allq qX12_putState 51 (.inl (o_imul 52)) (s_imul (by decide +kernel)) <|
  allq qX12_putState 52 (.inl (a_il 4 54)) (s_iload (i := 4) (by decide +kernel)) <|
  allq qX12_putState 54 (.inl (o_iadd 55)) (s_iadd (by decide +kernel)) <|
  allq qX12_putState 55 (.inl (a_iald 56)) (s_iald (by decide +kernel)) <|
  allq qX12_putState 56 (.inl (o_isub 57)) (s_isub (by decide +kernel)) <|
  allq qX12_putState 57 (.inl (a_al 0 58)) (s_aload_n (q := 0) (i := 0) rfl (by decide +kernel)) <|
  allq qX12_putState 58 (.inl (a_get 11 42 61)) (gX12 (f0 := 42) (by decide) kw_1227 (by decide +kernel)) <|
  allq qX12_putState 61 (.inl (a_ic 512 64)) (s_sipush (n := 512) (v := 512) rfl (by decide +kernel)) <|
  alln
set_option maxRecDepth 20000 in
theorem kX12_putState_1 : ∀ q ∈ tX12_putState_1, qX12_putState q :=
  allq qX12_putState 64 (.inl (a_il 1 65)) (s_iload_n (q := 1) (i := 1) rfl (by decide +kernel)) <|
  allq qX12_putState 65 (.inl (o_imul 66)) (s_imul (by decide +kernel)) <|
  allq qX12_putState 66 (.inl (a_il 4 68)) (s_iload (i := 4) (by decide +kernel)) <|
  allq qX12_putState 68 (.inl (o_iadd 69)) (s_iadd (by decide +kernel)) <|
  allq qX12_putState 69 (.inl (a_iald 70)) (s_iald (by decide +kernel)) <|
  allq qX12_putState 70 (.inr (.inl (147, 3, 12))) (okV (y := yX12_put) kw_1515 kw_118 rfl rfl (by decide +kernel) kw_1514 kw_65 kw_1512) <|
  allq qX12_putState 73 (.inl (a_il 4 75)) (s_iload (i := 4) (by decide +kernel)) <|
  allq qX12_putState 75 (.inr (.inr 1)) (Or.inr (Or.inl ⟨rfl, rfl, by decide +kernel⟩)) <|
  alln
theorem kX12_putState : ∀ q ∈ tX12_putState, qX12_putState q := alla kX12_putState_0 kX12_putState_1
abbrev qX12_lastState : Nat × aI → Prop := OkQ RX12 "lastState" cX12_lastState 2 (some .int)
set_option maxRecDepth 20000 in
theorem kX12_lastState_0 : ∀ q ∈ tX12_lastState_0, qX12_lastState q :=
  allq qX12_lastState 0 (.inl (a_al 0 1)) (s_aload_n (q := 0) (i := 0) rfl (by decide +kernel)) <|
  allq qX12_lastState 1 (.inl (a_get 11 17 4)) (gX12 (f0 := 17) (by decide) kw_1202 (by decide +kernel)) <|
  allq qX12_lastState 4 (.inl (a_il 1 5)) (s_iload_n (q := 1) (i := 1) rfl (by decide +kernel)) <|
  allq qX12_lastState 5 (.inl (a_iald 6)) (s_iald (by decide +kernel)) <|
  allq qX12_lastState 6 (.inl (o_if_ne 11 9)) (s_if_ne (off := 5) (by decide +kernel) (by decide)) <|
  allq qX12_lastState 9 (.inl (a_ic 0 10)) (s_iconst (n := 0) (v := 0) rfl (by decide +kernel)) <|
  allq qX12_lastState 10 (.inr (.inr 1)) (Or.inr (Or.inl ⟨rfl, rfl, by decide +kernel⟩)) <|
  allq qX12_lastState 11 (.inl (a_al 0 12)) (s_aload_n (q := 0) (i := 0) rfl (by decide +kernel)) <|
  allq qX12_lastState 12 (.inl (a_al 0 13)) (s_aload_n (q := 0) (i := 0) rfl (by decide +kernel)) <|
  allq qX12_lastState 13 (.inl (a_get 11 16 16)) (gX12 (f0 := 16) (by decide) kw_1201 (by decide +kernel)) <|
  allq qX12_lastState 16 (.inl (a_ic 64 18)) (s_bipush (n := 64) (v := 64) rfl (by decide +kernel)) <|
  allq qX12_lastState 18 (.inl (a_il 1 19)) (s_iload_n (q := 1) (i := 1) rfl (by decide +kernel)) <|
  allq qX12_lastState 19 (.inl (o_imul 20)) (s_imul (by decide +kernel)) <|
  allq qX12_lastState 20 (.inl (a_ic 64 22)) (s_bipush (n := 64) (v := 64) rfl (by decide +kernel)) <|
  allq qX12_lastState 22 (.inl (a_al 0 23)) (s_aload_n (q := 0) (i := 0) rfl (by decide +kernel)) <|
  allq qX12_lastState 23 (.inl (a_get 11 17 26)) (gX12 (f0 := 17) (by decide) kw_1202 (by decide +kernel)) <|
  allq qX12_lastState 26 (.inl (a_il 1 27)) (s_iload_n (q := 1) (i := 1) rfl (by decide +kernel)) <|
  allq qX12_lastState 27 (.inl (a_iald 28)) (s_iald (by decide +kernel)) <|
  allq qX12_lastState 28 (.inl (a_ic 512 31)) (s_sipush (n := 512) (v := 512) rfl (by decide +kernel)) <|
  allq qX12_lastState 31 (.inl (a_il 1 32)) (s_iload_n (q := 1) (i := 1) rfl (by decide +kernel)) <|
  allq qX12_lastState 32 (.inl (o_imul 33)) (s_imul (by decide +kernel)) <|
  allq qX12_lastState 33 (.inr (.inl (165, 6, 12))) (okV (y := yX12_lay) kw_1538 kw_118 rfl rfl (by decide +kernel) kw_1537 kw_69 kw_1535) <|
  allq qX12_lastState 36 (.inl (a_al 0 37)) (s_aload_n (q := 0) (i := 0) rfl (by decide +kernel)) <|
  allq qX12_lastState 37 (.inl (a_ic 512 40)) (s_sipush (n := 512) (v := 512) rfl (by decide +kernel)) <|
  allq qX12_lastState 40 (.inl (a_il 1 41)) (s_iload_n (q := 1) (i := 1) rfl (by decide +kernel)) <|
  allq qX12_lastState 41 (.inl (o_imul 42)) (s_imul (by decide +kernel)) <|
  allq qX12_lastState 42 (.inl (a_al 0 43)) (s_aload_n (q := 0) (i := 0) rfl (by decide +kernel)) <|
  allq qX12_lastState 43 (.inl (a_get 11 17 46)) (gX12 (f0 := 17) (by decide) kw_1202 (by decide +kernel)) <|
  allq qX12_lastState 46 (.inl (a_il 1 47)) (s_iload_n (q := 1) (i := 1) rfl (by decide +kernel)) <|
  allq qX12_lastState 47 (.inl (a_iald 48)) (s_iald (by decide +kernel)) <|
  allq qX12_lastState 48 (.inl (a_al 0 49)) (s_aload_n (q := 0) (i := 0) rfl (by decide +kernel)) <|
  allq qX12_lastState 49 (.inl (a_get 11 34 52)) (gX12 (f0 := 34) (by decide) kw_1219 (by decide +kernel)) <|
  allq qX12_lastState 52 (.inl (a_ic 8001 55)) (s_sipush (n := 8001) (v := 8001) rfl (by decide +kernel)) <|
  allq qX12_lastState 55 (.inl (a_il 1 56)) (s_iload_n (q := 1) (i := 1) rfl (by decide +kernel)) <|
  allq qX12_lastState 56 (.inl (o_imul 57)) (s_imul (by decide +kernel)) <|
  allq qX12_lastState 57 (.inl (a_al 0 58)) (s_aload_n (q := 0) (i := 0) rfl (by decide +kernel)) <|
  allq qX12_lastState 58 (.inl (a_get 11 31 61)) (gX12 (f0 := 31) (by decide) kw_1216 (by decide +kernel)) <|
  allq qX12_lastState 61 (.inl (o_iadd 62)) (s_iadd (by decide +kernel)) <|
  allq qX12_lastState 62 (.inl (a_ic 1 63)) (s_iconst (n := 1) (v := 1) rfl (by decide +kernel)) <|
  allq qX12_lastState 63 (.inl (o_isub 64)) (s_isub (by decide +kernel)) <|
  alln
set_option maxRecDepth 20000 in
theorem kX12_lastState_1 : ∀ q ∈ tX12_lastState_1, qX12_lastState q :=
  allq qX12_lastState 64 (.inl (a_iald 65)) (s_iald (by decide +kernel)) <|
  allq qX12_lastState 65 (.inl (a_ic 0 66)) (s_iconst (n := 0) (v := 0) rfl (by decide +kernel)) <|
  allq qX12_lastState 66 (.inr (.inl (166, 5, 12))) (okV (y := yX12_lowest) kw_1542 kw_118 rfl rfl (by decide +kernel) kw_1541 kw_70 kw_1539) <|
  allq qX12_lastState 69 (.inr (.inr 1)) (Or.inr (Or.inl ⟨rfl, rfl, by decide +kernel⟩)) <|
  alln
theorem kX12_lastState : ∀ q ∈ tX12_lastState, qX12_lastState q := alla kX12_lastState_0 kX12_lastState_1
abbrev qX12_sayStream : Nat × aI → Prop := OkQ RX12 "sayStream" cX12_sayStream 5 (none)
set_option maxRecDepth 20000 in
theorem kX12_sayStream_0 : ∀ q ∈ tX12_sayStream_0, qX12_sayStream q :=
  allq qX12_sayStream 0 (.inl (a_al 0 1)) (s_aload_n (q := 0) (i := 0) rfl (by decide +kernel)) <|
  allq qX12_sayStream 1 (.inr (.inl (149, 1, 12))) (okV (y := yX12_begin) kw_1511 kw_118 rfl rfl (by decide +kernel) kw_1510 kw_64 kw_1508) <|
  allq qX12_sayStream 4 (.inl (a_al 0 5)) (s_aload_n (q := 0) (i := 0) rfl (by decide +kernel)) <|
  allq qX12_sayStream 5 (.inl (a_ic 0 6)) (s_iconst (n := 0) (v := 0) rfl (by decide +kernel)) <|
  allq qX12_sayStream 6 (.inr (.inl (200, 2, 12))) (okV (y := yX12_lastState) kw_1628 kw_118 rfl rfl (by decide +kernel) kw_1627 kw_90 kw_1625) <|
  allq qX12_sayStream 9 (.inl (a_is 1 10)) (s_istore_n (q := 1) (i := 1) rfl (by decide +kernel) (by decide)) <|
  allq qX12_sayStream 10 (.inl (a_al 0 11)) (s_aload_n (q := 0) (i := 0) rfl (by decide +kernel)) <|
  allq qX12_sayStream 11 (.inl (a_ic 1 12)) (s_iconst (n := 1) (v := 1) rfl (by decide +kernel)) <|
  allq qX12_sayStream 12 (.inr (.inl (200, 2, 12))) (okV (y := yX12_lastState) kw_1628 kw_118 rfl rfl (by decide +kernel) kw_1627 kw_90 kw_1625) <|
  allq qX12_sayStream 15 (.inl (a_is 2 16)) (s_istore_n (q := 2) (i := 2) rfl (by decide +kernel) (by decide)) <|
  allq qX12_sayStream 16 (.inl (a_al 0 17)) (s_aload_n (q := 0) (i := 0) rfl (by decide +kernel)) <|
  allq qX12_sayStream 17 (.inl (a_ic 2 18)) (s_iconst (n := 2) (v := 2) rfl (by decide +kernel)) <|
  allq qX12_sayStream 18 (.inr (.inl (200, 2, 12))) (okV (y := yX12_lastState) kw_1628 kw_118 rfl rfl (by decide +kernel) kw_1627 kw_90 kw_1625) <|
  allq qX12_sayStream 21 (.inl (a_is 3 22)) (s_istore_n (q := 3) (i := 3) rfl (by decide +kernel) (by decide)) <|
  allq qX12_sayStream 22 (.inl (a_al 0 23)) (s_aload_n (q := 0) (i := 0) rfl (by decide +kernel)) <|
  allq qX12_sayStream 23 (.inl (a_al 0 24)) (s_aload_n (q := 0) (i := 0) rfl (by decide +kernel)) <|
  allq qX12_sayStream 24 (.inl (a_get 11 31 27)) (gX12 (f0 := 31) (by decide) kw_1216 (by decide +kernel)) <|
  allq qX12_sayStream 27 (.inl (a_ic 1 28)) (s_iconst (n := 1) (v := 1) rfl (by decide +kernel)) <|
  allq qX12_sayStream 28 (.inl (o_isub 29)) (s_isub (by decide +kernel)) <|
  allq qX12_sayStream 29 (.inr (.inl (198, 2, 12))) (okV (y := yX12_putAllMore) kw_1632 kw_118 rfl rfl (by decide +kernel) kw_1631 kw_91 kw_1629) <|
  allq qX12_sayStream 32 (.inl (a_al 0 33)) (s_aload_n (q := 0) (i := 0) rfl (by decide +kernel)) <|
  allq qX12_sayStream 33 (.inl (a_get 11 31 36)) (gX12 (f0 := 31) (by decide) kw_1216 (by decide +kernel)) <|
  allq qX12_sayStream 36 (.inl (a_ic 2 37)) (s_iconst (n := 2) (v := 2) rfl (by decide +kernel)) <|
  allq qX12_sayStream 37 (.inl (o_isub 38)) (s_isub (by decide +kernel)) <|
  allq qX12_sayStream 38 (.inl (a_is 4 40)) (s_istore (i := 4) (by decide +kernel) (by decide)) <|
  allq qX12_sayStream 40 (.inl (a_il 4 42)) (s_iload (i := 4) (by decide +kernel)) <|
  allq qX12_sayStream 42 (.inl (o_if_lt 84 45)) (s_if_lt (off := 42) (by decide +kernel) (by decide)) <|
  allq qX12_sayStream 45 (.inl (a_al 0 46)) (s_aload_n (q := 0) (i := 0) rfl (by decide +kernel)) <|
  allq qX12_sayStream 46 (.inl (a_ic 1 47)) (s_iconst (n := 1) (v := 1) rfl (by decide +kernel)) <|
  allq qX12_sayStream 47 (.inl (a_il 4 49)) (s_iload (i := 4) (by decide +kernel)) <|
  allq qX12_sayStream 49 (.inl (a_il 2 50)) (s_iload_n (q := 2) (i := 2) rfl (by decide +kernel)) <|
  allq qX12_sayStream 50 (.inr (.inl (199, 4, 12))) (okV (y := yX12_putState) kw_1640 kw_118 rfl rfl (by decide +kernel) kw_1639 kw_93 kw_1637) <|
  allq qX12_sayStream 53 (.inl (a_is 2 54)) (s_istore_n (q := 2) (i := 2) rfl (by decide +kernel) (by decide)) <|
  allq qX12_sayStream 54 (.inl (a_al 0 55)) (s_aload_n (q := 0) (i := 0) rfl (by decide +kernel)) <|
  allq qX12_sayStream 55 (.inl (a_ic 2 56)) (s_iconst (n := 2) (v := 2) rfl (by decide +kernel)) <|
  allq qX12_sayStream 56 (.inl (a_il 4 58)) (s_iload (i := 4) (by decide +kernel)) <|
  allq qX12_sayStream 58 (.inl (a_il 3 59)) (s_iload_n (q := 3) (i := 3) rfl (by decide +kernel)) <|
  allq qX12_sayStream 59 (.inr (.inl (199, 4, 12))) (okV (y := yX12_putState) kw_1640 kw_118 rfl rfl (by decide +kernel) kw_1639 kw_93 kw_1637) <|
  allq qX12_sayStream 62 (.inl (a_is 3 63)) (s_istore_n (q := 3) (i := 3) rfl (by decide +kernel) (by decide)) <|
  allq qX12_sayStream 63 (.inl (a_al 0 64)) (s_aload_n (q := 0) (i := 0) rfl (by decide +kernel)) <|
  alln
set_option maxRecDepth 20000 in
theorem kX12_sayStream_1 : ∀ q ∈ tX12_sayStream_1, qX12_sayStream q :=
  allq qX12_sayStream 64 (.inl (a_ic 0 65)) (s_iconst (n := 0) (v := 0) rfl (by decide +kernel)) <|
  allq qX12_sayStream 65 (.inl (a_il 4 67)) (s_iload (i := 4) (by decide +kernel)) <|
  allq qX12_sayStream 67 (.inl (a_il 1 68)) (s_iload_n (q := 1) (i := 1) rfl (by decide +kernel)) <|
  allq qX12_sayStream 68 (.inr (.inl (199, 4, 12))) (okV (y := yX12_putState) kw_1640 kw_118 rfl rfl (by decide +kernel) kw_1639 kw_93 kw_1637) <|
  allq qX12_sayStream 71 (.inl (a_is 1 72)) (s_istore_n (q := 1) (i := 1) rfl (by decide +kernel) (by decide)) <|
  allq qX12_sayStream 72 (.inl (a_al 0 73)) (s_aload_n (q := 0) (i := 0) rfl (by decide +kernel)) <|
  allq qX12_sayStream 73 (.inl (a_il 4 75)) (s_iload (i := 4) (by decide +kernel)) <|
  allq qX12_sayStream 75 (.inr (.inl (198, 2, 12))) (okV (y := yX12_putAllMore) kw_1632 kw_118 rfl rfl (by decide +kernel) kw_1631 kw_91 kw_1629) <|
  allq qX12_sayStream 78 (.inl (a_inc 4 (-1) 81)) (s_iinc (i := 4) (n := (-1)) (n2 := (-1)) rfl (by decide +kernel) (by decide)) <|
  allq qX12_sayStream 81 (.inl (a_go 40)) (s_goto (off := (-41)) (by decide +kernel) (by decide)) <|
  allq qX12_sayStream 84 (.inl (a_al 0 85)) (s_aload_n (q := 0) (i := 0) rfl (by decide +kernel)) <|
  allq qX12_sayStream 85 (.inl (a_il 3 86)) (s_iload_n (q := 3) (i := 3) rfl (by decide +kernel)) <|
  allq qX12_sayStream 86 (.inl (a_al 0 87)) (s_aload_n (q := 0) (i := 0) rfl (by decide +kernel)) <|
  allq qX12_sayStream 87 (.inl (a_get 11 17 90)) (gX12 (f0 := 17) (by decide) kw_1202 (by decide +kernel)) <|
  allq qX12_sayStream 90 (.inl (a_ic 2 91)) (s_iconst (n := 2) (v := 2) rfl (by decide +kernel)) <|
  allq qX12_sayStream 91 (.inl (a_iald 92)) (s_iald (by decide +kernel)) <|
  allq qX12_sayStream 92 (.inr (.inl (147, 3, 12))) (okV (y := yX12_put) kw_1515 kw_118 rfl rfl (by decide +kernel) kw_1514 kw_65 kw_1512) <|
  allq qX12_sayStream 95 (.inl (a_al 0 96)) (s_aload_n (q := 0) (i := 0) rfl (by decide +kernel)) <|
  allq qX12_sayStream 96 (.inl (a_il 2 97)) (s_iload_n (q := 2) (i := 2) rfl (by decide +kernel)) <|
  allq qX12_sayStream 97 (.inl (a_al 0 98)) (s_aload_n (q := 0) (i := 0) rfl (by decide +kernel)) <|
  allq qX12_sayStream 98 (.inl (a_get 11 17 101)) (gX12 (f0 := 17) (by decide) kw_1202 (by decide +kernel)) <|
  allq qX12_sayStream 101 (.inl (a_ic 1 102)) (s_iconst (n := 1) (v := 1) rfl (by decide +kernel)) <|
  allq qX12_sayStream 102 (.inl (a_iald 103)) (s_iald (by decide +kernel)) <|
  allq qX12_sayStream 103 (.inr (.inl (147, 3, 12))) (okV (y := yX12_put) kw_1515 kw_118 rfl rfl (by decide +kernel) kw_1514 kw_65 kw_1512) <|
  allq qX12_sayStream 106 (.inl (a_al 0 107)) (s_aload_n (q := 0) (i := 0) rfl (by decide +kernel)) <|
  allq qX12_sayStream 107 (.inl (a_il 1 108)) (s_iload_n (q := 1) (i := 1) rfl (by decide +kernel)) <|
  allq qX12_sayStream 108 (.inl (a_al 0 109)) (s_aload_n (q := 0) (i := 0) rfl (by decide +kernel)) <|
  allq qX12_sayStream 109 (.inl (a_get 11 17 112)) (gX12 (f0 := 17) (by decide) kw_1202 (by decide +kernel)) <|
  allq qX12_sayStream 112 (.inl (a_ic 0 113)) (s_iconst (n := 0) (v := 0) rfl (by decide +kernel)) <|
  allq qX12_sayStream 113 (.inl (a_iald 114)) (s_iald (by decide +kernel)) <|
  allq qX12_sayStream 114 (.inr (.inl (147, 3, 12))) (okV (y := yX12_put) kw_1515 kw_118 rfl rfl (by decide +kernel) kw_1514 kw_65 kw_1512) <|
  allq qX12_sayStream 117 (.inl (a_al 0 118)) (s_aload_n (q := 0) (i := 0) rfl (by decide +kernel)) <|
  allq qX12_sayStream 118 (.inl (a_ic 1 119)) (s_iconst (n := 1) (v := 1) rfl (by decide +kernel)) <|
  allq qX12_sayStream 119 (.inl (a_ic 1 120)) (s_iconst (n := 1) (v := 1) rfl (by decide +kernel)) <|
  allq qX12_sayStream 120 (.inr (.inl (147, 3, 12))) (okV (y := yX12_put) kw_1515 kw_118 rfl rfl (by decide +kernel) kw_1514 kw_65 kw_1512) <|
  allq qX12_sayStream 123 (.inl (a_al 0 124)) (s_aload_n (q := 0) (i := 0) rfl (by decide +kernel)) <|
  allq qX12_sayStream 124 (.inr (.inl (148, 1, 12))) (okV (y := yX12_fill) kw_1534 kw_118 rfl rfl (by decide +kernel) kw_1533 kw_68 kw_1531) <|
  allq qX12_sayStream 127 (.inl (a_al 0 128)) (s_aload_n (q := 0) (i := 0) rfl (by decide +kernel)) <|
  allq qX12_sayStream 128 (.inr (.inl (152, 1, 12))) (okV (y := yX12_sayMade) kw_1554 kw_118 rfl rfl (by decide +kernel) kw_1553 kw_73 kw_1551) <|
  allq qX12_sayStream 131 (.inr (.inr 0)) (Or.inl ⟨rfl, rfl, by decide +kernel⟩) <|
  alln
theorem kX12_sayStream : ∀ q ∈ tX12_sayStream, qX12_sayStream q := alla kX12_sayStream_0 kX12_sayStream_1
abbrev qX12_saySequences : Nat × aI → Prop := OkQ RX12 "saySequences" cX12_saySequences 6 (none)
set_option maxRecDepth 20000 in
theorem kX12_saySequences_0 : ∀ q ∈ tX12_saySequences_0, qX12_saySequences q :=
  allq qX12_saySequences 0 (.inl (a_al 0 1)) (s_aload_n (q := 0) (i := 0) rfl (by decide +kernel)) <|
  allq qX12_saySequences 1 (.inl (a_get 11 31 4)) (gX12 (f0 := 31) (by decide) kw_1216 (by decide +kernel)) <|
  allq qX12_saySequences 4 (.inl (a_is 1 5)) (s_istore_n (q := 1) (i := 1) rfl (by decide +kernel) (by decide)) <|
  allq qX12_saySequences 5 (.inl (a_il 1 6)) (s_iload_n (q := 1) (i := 1) rfl (by decide +kernel)) <|
  allq qX12_saySequences 6 (.inl (a_ic 128 9)) (s_sipush (n := 128) (v := 128) rfl (by decide +kernel)) <|
  allq qX12_saySequences 9 (.inl (o_icmp_ge 20 12)) (s_icmp_ge (off := 11) (by decide +kernel) (by decide)) <|
  allq qX12_saySequences 12 (.inl (a_al 0 13)) (s_aload_n (q := 0) (i := 0) rfl (by decide +kernel)) <|
  allq qX12_saySequences 13 (.inl (a_il 1 14)) (s_iload_n (q := 1) (i := 1) rfl (by decide +kernel)) <|
  allq qX12_saySequences 14 (.inr (.inl (150, 2, 12))) (okV (y := yX12_say) kw_1416 kw_118 rfl rfl (by decide +kernel) kw_1415 kw_42 kw_1413) <|
  allq qX12_saySequences 17 (.inl (a_go 70)) (s_goto (off := 53) (by decide +kernel) (by decide)) <|
  allq qX12_saySequences 20 (.inl (a_il 1 21)) (s_iload_n (q := 1) (i := 1) rfl (by decide +kernel)) <|
  allq qX12_saySequences 21 (.inl (a_ic 32512 24)) (s_sipush (n := 32512) (v := 32512) rfl (by decide +kernel)) <|
  allq qX12_saySequences 24 (.inl (o_icmp_ge 52 27)) (s_icmp_ge (off := 28) (by decide +kernel) (by decide)) <|
  allq qX12_saySequences 27 (.inl (a_al 0 28)) (s_aload_n (q := 0) (i := 0) rfl (by decide +kernel)) <|
  allq qX12_saySequences 28 (.inl (a_ic 128 31)) (s_sipush (n := 128) (v := 128) rfl (by decide +kernel)) <|
  allq qX12_saySequences 31 (.inl (a_il 1 32)) (s_iload_n (q := 1) (i := 1) rfl (by decide +kernel)) <|
  allq qX12_saySequences 32 (.inl (a_ic 256 35)) (s_sipush (n := 256) (v := 256) rfl (by decide +kernel)) <|
  allq qX12_saySequences 35 (.inl (o_idiv 36)) (s_idiv (by decide +kernel)) <|
  allq qX12_saySequences 36 (.inl (o_iadd 37)) (s_iadd (by decide +kernel)) <|
  allq qX12_saySequences 37 (.inr (.inl (150, 2, 12))) (okV (y := yX12_say) kw_1416 kw_118 rfl rfl (by decide +kernel) kw_1415 kw_42 kw_1413) <|
  allq qX12_saySequences 40 (.inl (a_al 0 41)) (s_aload_n (q := 0) (i := 0) rfl (by decide +kernel)) <|
  allq qX12_saySequences 41 (.inl (a_il 1 42)) (s_iload_n (q := 1) (i := 1) rfl (by decide +kernel)) <|
  allq qX12_saySequences 42 (.inl (a_ic 256 45)) (s_sipush (n := 256) (v := 256) rfl (by decide +kernel)) <|
  allq qX12_saySequences 45 (.inl (o_irem 46)) (s_irem (by decide +kernel)) <|
  allq qX12_saySequences 46 (.inr (.inl (150, 2, 12))) (okV (y := yX12_say) kw_1416 kw_118 rfl rfl (by decide +kernel) kw_1415 kw_42 kw_1413) <|
  allq qX12_saySequences 49 (.inl (a_go 70)) (s_goto (off := 21) (by decide +kernel) (by decide)) <|
  allq qX12_saySequences 52 (.inl (a_al 0 53)) (s_aload_n (q := 0) (i := 0) rfl (by decide +kernel)) <|
  allq qX12_saySequences 53 (.inl (a_ic 255 56)) (s_sipush (n := 255) (v := 255) rfl (by decide +kernel)) <|
  allq qX12_saySequences 56 (.inr (.inl (150, 2, 12))) (okV (y := yX12_say) kw_1416 kw_118 rfl rfl (by decide +kernel) kw_1415 kw_42 kw_1413) <|
  allq qX12_saySequences 59 (.inl (a_al 0 60)) (s_aload_n (q := 0) (i := 0) rfl (by decide +kernel)) <|
  allq qX12_saySequences 60 (.inl (a_il 1 61)) (s_iload_n (q := 1) (i := 1) rfl (by decide +kernel)) <|
  allq qX12_saySequences 61 (.inl (a_ic 32512 64)) (s_sipush (n := 32512) (v := 32512) rfl (by decide +kernel)) <|
  allq qX12_saySequences 64 (.inl (o_isub 65)) (s_isub (by decide +kernel)) <|
  allq qX12_saySequences 65 (.inl (a_i2l 66)) (s_i2l (by decide +kernel)) <|
  allq qX12_saySequences 66 (.inl (a_ic 2 67)) (s_iconst (n := 2) (v := 2) rfl (by decide +kernel)) <|
  allq qX12_saySequences 67 (.inr (.inl (151, 3, 12))) (okV (y := yX12_sayNumber) kw_1412 kw_118 rfl rfl (by decide +kernel) kw_1411 kw_41 kw_1409) <|
  allq qX12_saySequences 70 (.inl (a_il 1 71)) (s_iload_n (q := 1) (i := 1) rfl (by decide +kernel)) <|
  allq qX12_saySequences 71 (.inl (o_if_ne 75 74)) (s_if_ne (off := 4) (by decide +kernel) (by decide)) <|
  allq qX12_saySequences 74 (.inr (.inr 0)) (Or.inl ⟨rfl, rfl, by decide +kernel⟩) <|
  allq qX12_saySequences 75 (.inl (a_al 0 76)) (s_aload_n (q := 0) (i := 0) rfl (by decide +kernel)) <|
  alln
set_option maxRecDepth 20000 in
theorem kX12_saySequences_1 : ∀ q ∈ tX12_saySequences_1, qX12_saySequences q :=
  allq qX12_saySequences 76 (.inl (a_get 11 40 79)) (gX12 (f0 := 40) (by decide) kw_1225 (by decide +kernel)) <|
  allq qX12_saySequences 79 (.inl (a_is 2 80)) (s_istore_n (q := 2) (i := 2) rfl (by decide +kernel) (by decide)) <|
  allq qX12_saySequences 80 (.inl (a_al 0 81)) (s_aload_n (q := 0) (i := 0) rfl (by decide +kernel)) <|
  allq qX12_saySequences 81 (.inl (a_ic 0 82)) (s_iconst (n := 0) (v := 0) rfl (by decide +kernel)) <|
  allq qX12_saySequences 82 (.inr (.inl (150, 2, 12))) (okV (y := yX12_say) kw_1416 kw_118 rfl rfl (by decide +kernel) kw_1415 kw_42 kw_1413) <|
  allq qX12_saySequences 85 (.inl (a_ic 0 86)) (s_iconst (n := 0) (v := 0) rfl (by decide +kernel)) <|
  allq qX12_saySequences 86 (.inl (a_is 3 87)) (s_istore_n (q := 3) (i := 3) rfl (by decide +kernel) (by decide)) <|
  allq qX12_saySequences 87 (.inl (a_ic 0 88)) (s_iconst (n := 0) (v := 0) rfl (by decide +kernel)) <|
  allq qX12_saySequences 88 (.inl (a_is 4 90)) (s_istore (i := 4) (by decide +kernel) (by decide)) <|
  allq qX12_saySequences 90 (.inl (a_il 4 92)) (s_iload (i := 4) (by decide +kernel)) <|
  allq qX12_saySequences 92 (.inl (a_ic 3 93)) (s_iconst (n := 3) (v := 3) rfl (by decide +kernel)) <|
  allq qX12_saySequences 93 (.inl (o_icmp_ge 141 96)) (s_icmp_ge (off := 48) (by decide +kernel) (by decide)) <|
  allq qX12_saySequences 96 (.inl (a_al 0 97)) (s_aload_n (q := 0) (i := 0) rfl (by decide +kernel)) <|
  allq qX12_saySequences 97 (.inl (a_il 4 99)) (s_iload (i := 4) (by decide +kernel)) <|
  allq qX12_saySequences 99 (.inr (.inl (195, 2, 12))) (okV (y := yX12_sayTable) kw_1592 kw_118 rfl rfl (by decide +kernel) kw_1591 kw_81 kw_1589) <|
  allq qX12_saySequences 102 (.inl (a_is 5 104)) (s_istore (i := 5) (by decide +kernel) (by decide)) <|
  allq qX12_saySequences 104 (.inl (a_al 0 105)) (s_aload_n (q := 0) (i := 0) rfl (by decide +kernel)) <|
  allq qX12_saySequences 105 (.inr (.inl (152, 1, 12))) (okV (y := yX12_sayMade) kw_1554 kw_118 rfl rfl (by decide +kernel) kw_1553 kw_73 kw_1551) <|
  allq qX12_saySequences 108 (.inl (a_il 3 109)) (s_iload_n (q := 3) (i := 3) rfl (by decide +kernel)) <|
  allq qX12_saySequences 109 (.inl (a_il 5 111)) (s_iload (i := 5) (by decide +kernel)) <|
  allq qX12_saySequences 111 (.inl (a_ic 6 113)) (s_bipush (n := 6) (v := 6) rfl (by decide +kernel)) <|
  allq qX12_saySequences 113 (.inl (a_ic 2 114)) (s_iconst (n := 2) (v := 2) rfl (by decide +kernel)) <|
  allq qX12_saySequences 114 (.inl (a_il 4 116)) (s_iload (i := 4) (by decide +kernel)) <|
  allq qX12_saySequences 116 (.inl (o_imul 117)) (s_imul (by decide +kernel)) <|
  allq qX12_saySequences 117 (.inl (o_isub 118)) (s_isub (by decide +kernel)) <|
  allq qX12_saySequences 118 (.inl (o_ishl 119)) (s_ishl (by decide +kernel)) <|
  allq qX12_saySequences 119 (.inl (o_ior 120)) (s_ior (by decide +kernel)) <|
  allq qX12_saySequences 120 (.inl (a_is 3 121)) (s_istore_n (q := 3) (i := 3) rfl (by decide +kernel) (by decide)) <|
  allq qX12_saySequences 121 (.inl (a_al 0 122)) (s_aload_n (q := 0) (i := 0) rfl (by decide +kernel)) <|
  allq qX12_saySequences 122 (.inl (a_get 11 62 125)) (gX12 (f0 := 62) (by decide) kw_1247 (by decide +kernel)) <|
  allq qX12_saySequences 125 (.inl (a_ic 8 127)) (s_bipush (n := 8) (v := 8) rfl (by decide +kernel)) <|
  allq qX12_saySequences 127 (.inl (a_il 5 129)) (s_iload (i := 5) (by decide +kernel)) <|
  allq qX12_saySequences 129 (.inl (o_iadd 130)) (s_iadd (by decide +kernel)) <|
  allq qX12_saySequences 130 (.inl (a_dup2 131)) (s_dup2 (by decide +kernel)) <|
  allq qX12_saySequences 131 (.inl (a_iald 132)) (s_iald (by decide +kernel)) <|
  allq qX12_saySequences 132 (.inl (a_ic 1 133)) (s_iconst (n := 1) (v := 1) rfl (by decide +kernel)) <|
  allq qX12_saySequences 133 (.inl (o_iadd 134)) (s_iadd (by decide +kernel)) <|
  allq qX12_saySequences 134 (.inl (a_iast 135)) (s_iast (by decide +kernel)) <|
  allq qX12_saySequences 135 (.inl (a_inc 4 1 138)) (s_iinc (i := 4) (n := 1) (n2 := 1) rfl (by decide +kernel) (by decide)) <|
  allq qX12_saySequences 138 (.inl (a_go 90)) (s_goto (off := (-48)) (by decide +kernel) (by decide)) <|
  alln
set_option maxRecDepth 20000 in
theorem kX12_saySequences_2 : ∀ q ∈ tX12_saySequences_2, qX12_saySequences q :=
  allq qX12_saySequences 141 (.inl (a_il 2 142)) (s_iload_n (q := 2) (i := 2) rfl (by decide +kernel)) <|
  allq qX12_saySequences 142 (.inl (a_ic 12000 145)) (s_sipush (n := 12000) (v := 12000) rfl (by decide +kernel)) <|
  allq qX12_saySequences 145 (.inl (o_icmp_ge 155 148)) (s_icmp_ge (off := 10) (by decide +kernel) (by decide)) <|
  allq qX12_saySequences 148 (.inl (a_al 0 149)) (s_aload_n (q := 0) (i := 0) rfl (by decide +kernel)) <|
  allq qX12_saySequences 149 (.inl (a_get 11 39 152)) (gX12 (f0 := 39) (by decide) kw_1224 (by decide +kernel)) <|
  allq qX12_saySequences 152 (.inl (a_il 2 153)) (s_iload_n (q := 2) (i := 2) rfl (by decide +kernel)) <|
  allq qX12_saySequences 153 (.inl (a_il 3 154)) (s_iload_n (q := 3) (i := 3) rfl (by decide +kernel)) <|
  allq qX12_saySequences 154 (.inl (a_iast 155)) (s_iast (by decide +kernel)) <|
  allq qX12_saySequences 155 (.inl (a_al 0 156)) (s_aload_n (q := 0) (i := 0) rfl (by decide +kernel)) <|
  allq qX12_saySequences 156 (.inr (.inl (201, 1, 12))) (okV (y := yX12_sayStream) kw_1624 kw_118 rfl rfl (by decide +kernel) kw_1623 kw_89 kw_1621) <|
  allq qX12_saySequences 159 (.inr (.inr 0)) (Or.inl ⟨rfl, rfl, by decide +kernel⟩) <|
  alln
theorem kX12_saySequences : ∀ q ∈ tX12_saySequences, qX12_saySequences q := alla kX12_saySequences_0 (alla kX12_saySequences_1 kX12_saySequences_2)
abbrev qX12_keep : Nat × aI → Prop := OkQ RX12 "keep" cX12_keep 2 (none)
set_option maxRecDepth 20000 in
theorem kX12_keep_0 : ∀ q ∈ tX12_keep_0, qX12_keep q :=
  allq qX12_keep 0 (.inl (a_ic 0 1)) (s_iconst (n := 0) (v := 0) rfl (by decide +kernel)) <|
  allq qX12_keep 1 (.inl (a_is 1 2)) (s_istore_n (q := 1) (i := 1) rfl (by decide +kernel) (by decide)) <|
  allq qX12_keep 2 (.inl (a_il 1 3)) (s_iload_n (q := 1) (i := 1) rfl (by decide +kernel)) <|
  allq qX12_keep 3 (.inl (a_ic 256 6)) (s_sipush (n := 256) (v := 256) rfl (by decide +kernel)) <|
  allq qX12_keep 6 (.inl (o_icmp_ge 27 9)) (s_icmp_ge (off := 21) (by decide +kernel) (by decide)) <|
  allq qX12_keep 9 (.inl (a_al 0 10)) (s_aload_n (q := 0) (i := 0) rfl (by decide +kernel)) <|
  allq qX12_keep 10 (.inl (a_get 11 19 13)) (gX12 (f0 := 19) (by decide) kw_1204 (by decide +kernel)) <|
  allq qX12_keep 13 (.inl (a_il 1 14)) (s_iload_n (q := 1) (i := 1) rfl (by decide +kernel)) <|
  allq qX12_keep 14 (.inl (a_al 0 15)) (s_aload_n (q := 0) (i := 0) rfl (by decide +kernel)) <|
  allq qX12_keep 15 (.inl (a_get 11 14 18)) (gX12 (f0 := 14) (by decide) kw_1199 (by decide +kernel)) <|
  allq qX12_keep 18 (.inl (a_il 1 19)) (s_iload_n (q := 1) (i := 1) rfl (by decide +kernel)) <|
  allq qX12_keep 19 (.inl (a_iald 20)) (s_iald (by decide +kernel)) <|
  allq qX12_keep 20 (.inl (a_iast 21)) (s_iast (by decide +kernel)) <|
  allq qX12_keep 21 (.inl (a_inc 1 1 24)) (s_iinc (i := 1) (n := 1) (n2 := 1) rfl (by decide +kernel) (by decide)) <|
  allq qX12_keep 24 (.inl (a_go 2)) (s_goto (off := (-22)) (by decide +kernel) (by decide)) <|
  allq qX12_keep 27 (.inl (a_al 0 28)) (s_aload_n (q := 0) (i := 0) rfl (by decide +kernel)) <|
  allq qX12_keep 28 (.inl (a_al 0 29)) (s_aload_n (q := 0) (i := 0) rfl (by decide +kernel)) <|
  allq qX12_keep 29 (.inl (a_get 11 15 32)) (gX12 (f0 := 15) (by decide) kw_1200 (by decide +kernel)) <|
  allq qX12_keep 32 (.inl (a_put 11 20 .int 35)) (pX12 (f0 := 20) (by decide) rfl rfl tOk kw_1205 (by decide +kernel)) <|
  allq qX12_keep 35 (.inl (a_ic 0 36)) (s_iconst (n := 0) (v := 0) rfl (by decide +kernel)) <|
  allq qX12_keep 36 (.inl (a_is 1 37)) (s_istore_n (q := 1) (i := 1) rfl (by decide +kernel) (by decide)) <|
  allq qX12_keep 37 (.inl (a_il 1 38)) (s_iload_n (q := 1) (i := 1) rfl (by decide +kernel)) <|
  allq qX12_keep 38 (.inl (a_ic 192 41)) (s_sipush (n := 192) (v := 192) rfl (by decide +kernel)) <|
  allq qX12_keep 41 (.inl (o_icmp_ge 62 44)) (s_icmp_ge (off := 21) (by decide +kernel) (by decide)) <|
  allq qX12_keep 44 (.inl (a_al 0 45)) (s_aload_n (q := 0) (i := 0) rfl (by decide +kernel)) <|
  allq qX12_keep 45 (.inl (a_get 11 21 48)) (gX12 (f0 := 21) (by decide) kw_1206 (by decide +kernel)) <|
  allq qX12_keep 48 (.inl (a_il 1 49)) (s_iload_n (q := 1) (i := 1) rfl (by decide +kernel)) <|
  allq qX12_keep 49 (.inl (a_al 0 50)) (s_aload_n (q := 0) (i := 0) rfl (by decide +kernel)) <|
  allq qX12_keep 50 (.inl (a_get 11 16 53)) (gX12 (f0 := 16) (by decide) kw_1201 (by decide +kernel)) <|
  allq qX12_keep 53 (.inl (a_il 1 54)) (s_iload_n (q := 1) (i := 1) rfl (by decide +kernel)) <|
  allq qX12_keep 54 (.inl (a_iald 55)) (s_iald (by decide +kernel)) <|
  allq qX12_keep 55 (.inl (a_iast 56)) (s_iast (by decide +kernel)) <|
  allq qX12_keep 56 (.inl (a_inc 1 1 59)) (s_iinc (i := 1) (n := 1) (n2 := 1) rfl (by decide +kernel) (by decide)) <|
  allq qX12_keep 59 (.inl (a_go 37)) (s_goto (off := (-22)) (by decide +kernel) (by decide)) <|
  allq qX12_keep 62 (.inl (a_ic 0 63)) (s_iconst (n := 0) (v := 0) rfl (by decide +kernel)) <|
  allq qX12_keep 63 (.inl (a_is 1 64)) (s_istore_n (q := 1) (i := 1) rfl (by decide +kernel) (by decide)) <|
  allq qX12_keep 64 (.inl (a_il 1 65)) (s_iload_n (q := 1) (i := 1) rfl (by decide +kernel)) <|
  allq qX12_keep 65 (.inl (a_ic 3 66)) (s_iconst (n := 3) (v := 3) rfl (by decide +kernel)) <|
  allq qX12_keep 66 (.inl (o_icmp_ge 99 69)) (s_icmp_ge (off := 33) (by decide +kernel) (by decide)) <|
  allq qX12_keep 69 (.inl (a_al 0 70)) (s_aload_n (q := 0) (i := 0) rfl (by decide +kernel)) <|
  alln
set_option maxRecDepth 20000 in
theorem kX12_keep_1 : ∀ q ∈ tX12_keep_1, qX12_keep q :=
  allq qX12_keep 70 (.inl (a_get 11 22 73)) (gX12 (f0 := 22) (by decide) kw_1207 (by decide +kernel)) <|
  allq qX12_keep 73 (.inl (a_il 1 74)) (s_iload_n (q := 1) (i := 1) rfl (by decide +kernel)) <|
  allq qX12_keep 74 (.inl (a_al 0 75)) (s_aload_n (q := 0) (i := 0) rfl (by decide +kernel)) <|
  allq qX12_keep 75 (.inl (a_get 11 17 78)) (gX12 (f0 := 17) (by decide) kw_1202 (by decide +kernel)) <|
  allq qX12_keep 78 (.inl (a_il 1 79)) (s_iload_n (q := 1) (i := 1) rfl (by decide +kernel)) <|
  allq qX12_keep 79 (.inl (a_iald 80)) (s_iald (by decide +kernel)) <|
  allq qX12_keep 80 (.inl (a_iast 81)) (s_iast (by decide +kernel)) <|
  allq qX12_keep 81 (.inl (a_al 0 82)) (s_aload_n (q := 0) (i := 0) rfl (by decide +kernel)) <|
  allq qX12_keep 82 (.inl (a_get 11 23 85)) (gX12 (f0 := 23) (by decide) kw_1208 (by decide +kernel)) <|
  allq qX12_keep 85 (.inl (a_il 1 86)) (s_iload_n (q := 1) (i := 1) rfl (by decide +kernel)) <|
  allq qX12_keep 86 (.inl (a_al 0 87)) (s_aload_n (q := 0) (i := 0) rfl (by decide +kernel)) <|
  allq qX12_keep 87 (.inl (a_get 11 18 90)) (gX12 (f0 := 18) (by decide) kw_1203 (by decide +kernel)) <|
  allq qX12_keep 90 (.inl (a_il 1 91)) (s_iload_n (q := 1) (i := 1) rfl (by decide +kernel)) <|
  allq qX12_keep 91 (.inl (a_iald 92)) (s_iald (by decide +kernel)) <|
  allq qX12_keep 92 (.inl (a_iast 93)) (s_iast (by decide +kernel)) <|
  allq qX12_keep 93 (.inl (a_inc 1 1 96)) (s_iinc (i := 1) (n := 1) (n2 := 1) rfl (by decide +kernel) (by decide)) <|
  allq qX12_keep 96 (.inl (a_go 64)) (s_goto (off := (-32)) (by decide +kernel) (by decide)) <|
  allq qX12_keep 99 (.inr (.inr 0)) (Or.inl ⟨rfl, rfl, by decide +kernel⟩) <|
  alln
theorem kX12_keep : ∀ q ∈ tX12_keep, qX12_keep q := alla kX12_keep_0 kX12_keep_1
