/-! each entry is one that the machine does (printed by a program) -/
abbrev qX2_readFrom : Nat × aI → Prop := OkQ RX2 "readFrom" cX2_readFrom 8 (some .int)
set_option maxRecDepth 20000 in
theorem kX2_readFrom_0 : ∀ q ∈ tX2_readFrom_0, qX2_readFrom q :=
  allq qX2_readFrom 0 (.inl (a_al 3 1)) (s_aload_n (q := 3) (i := 3) rfl (by decide +kernel)) <|
  allq qX2_readFrom 1 (.inl (a_ic 0 2)) (s_iconst (n := 0) (v := 0) rfl (by decide +kernel)) <|
  allq qX2_readFrom 2 (.inl (a_put 0 4 .boolean 5)) (pX0 (f0 := 4) (by decide) rfl rfl tOk kw_185 (by decide +kernel)) <|
  allq qX2_readFrom 5 (.inl (a_al 1 6)) (s_aload_n (q := 1) (i := 1) rfl (by decide +kernel)) <|
  allq qX2_readFrom 6 (.inl (a_il 2 7)) (s_iload_n (q := 2) (i := 2) rfl (by decide +kernel)) <|
  allq qX2_readFrom 7 (.inr (.inl (93, 2, 8))) (okV (y := yX7_at) kw_617 kw_105 rfl rfl (by decide +kernel) kw_615 kw_616 kw_666) <|
  allq qX2_readFrom 10 (.inl (a_is 4 12)) (s_istore (i := 4) (by decide +kernel) (by decide)) <|
  allq qX2_readFrom 12 (.inl (a_il 4 14)) (s_iload (i := 4) (by decide +kernel)) <|
  allq qX2_readFrom 14 (.inl (a_ic 127 16)) (s_bipush (n := 127) (v := 127) rfl (by decide +kernel)) <|
  allq qX2_readFrom 16 (.inl (o_icmp_le 29 19)) (s_icmp_le (off := 13) (by decide +kernel) (by decide)) <|
  allq qX2_readFrom 19 (.inl (a_il 4 21)) (s_iload (i := 4) (by decide +kernel)) <|
  allq qX2_readFrom 21 (.inl (a_ic 126 23)) (s_bipush (n := 126) (v := 126) rfl (by decide +kernel)) <|
  allq qX2_readFrom 23 (.inl (o_isub 24)) (s_isub (by decide +kernel)) <|
  allq qX2_readFrom 24 (.inl (a_ic 2 25)) (s_iconst (n := 2) (v := 2) rfl (by decide +kernel)) <|
  allq qX2_readFrom 25 (.inl (o_idiv 26)) (s_idiv (by decide +kernel)) <|
  allq qX2_readFrom 26 (.inl (a_go 31)) (s_goto (off := 5) (by decide +kernel) (by decide)) <|
  allq qX2_readFrom 29 (.inl (a_il 4 31)) (s_iload (i := 4) (by decide +kernel)) <|
  allq qX2_readFrom 31 (.inl (a_is 5 33)) (s_istore (i := 5) (by decide +kernel) (by decide)) <|
  allq qX2_readFrom 33 (.inl (a_il 2 34)) (s_iload_n (q := 2) (i := 2) rfl (by decide +kernel)) <|
  allq qX2_readFrom 34 (.inl (a_ic 1 35)) (s_iconst (n := 1) (v := 1) rfl (by decide +kernel)) <|
  allq qX2_readFrom 35 (.inl (o_iadd 36)) (s_iadd (by decide +kernel)) <|
  allq qX2_readFrom 36 (.inl (a_il 5 38)) (s_iload (i := 5) (by decide +kernel)) <|
  allq qX2_readFrom 38 (.inl (o_iadd 39)) (s_iadd (by decide +kernel)) <|
  allq qX2_readFrom 39 (.inl (a_is 6 41)) (s_istore (i := 6) (by decide +kernel) (by decide)) <|
  allq qX2_readFrom 41 (.inl (a_il 4 43)) (s_iload (i := 4) (by decide +kernel)) <|
  allq qX2_readFrom 43 (.inl (o_if_lt 55 46)) (s_if_lt (off := 12) (by decide +kernel) (by decide)) <|
  allq qX2_readFrom 46 (.inl (a_il 6 48)) (s_iload (i := 6) (by decide +kernel)) <|
  allq qX2_readFrom 48 (.inl (a_al 1 49)) (s_aload_n (q := 1) (i := 1) rfl (by decide +kernel)) <|
  allq qX2_readFrom 49 (.inl (a_get 7 1 52)) (gX7 (f0 := 1) (by decide) kw_143 (by decide +kernel)) <|
  allq qX2_readFrom 52 (.inl (o_icmp_le 57 55)) (s_icmp_le (off := 5) (by decide +kernel) (by decide)) <|
  allq qX2_readFrom 55 (.inl (a_ic (-1) 56)) (s_iconst (n := (-1)) (v := (-1)) rfl (by decide +kernel)) <|
  allq qX2_readFrom 56 (.inr (.inr 1)) (Or.inr (Or.inl ⟨rfl, rfl, by decide +kernel⟩)) <|
  allq qX2_readFrom 57 (.inl (a_il 4 59)) (s_iload (i := 4) (by decide +kernel)) <|
  allq qX2_readFrom 59 (.inl (a_ic 127 61)) (s_bipush (n := 127) (v := 127) rfl (by decide +kernel)) <|
  allq qX2_readFrom 61 (.inl (o_icmp_le 80 64)) (s_icmp_le (off := 19) (by decide +kernel) (by decide)) <|
  allq qX2_readFrom 64 (.inl (a_al 0 65)) (s_aload_n (q := 0) (i := 0) rfl (by decide +kernel)) <|
  allq qX2_readFrom 65 (.inl (a_al 1 66)) (s_aload_n (q := 1) (i := 1) rfl (by decide +kernel)) <|
  allq qX2_readFrom 66 (.inl (a_il 2 67)) (s_iload_n (q := 2) (i := 2) rfl (by decide +kernel)) <|
  allq qX2_readFrom 67 (.inl (a_ic 1 68)) (s_iconst (n := 1) (v := 1) rfl (by decide +kernel)) <|
  allq qX2_readFrom 68 (.inl (o_iadd 69)) (s_iadd (by decide +kernel)) <|
  alln
set_option maxRecDepth 20000 in
theorem kX2_readFrom_1 : ∀ q ∈ tX2_readFrom_1, qX2_readFrom q :=
  allq qX2_readFrom 69 (.inl (a_il 4 71)) (s_iload (i := 4) (by decide +kernel)) <|
  allq qX2_readFrom 71 (.inl (a_ic 127 73)) (s_bipush (n := 127) (v := 127) rfl (by decide +kernel)) <|
  allq qX2_readFrom 73 (.inl (o_isub 74)) (s_isub (by decide +kernel)) <|
  allq qX2_readFrom 74 (.inr (.inl (29, 4, 3))) (okV (y := yX2_readDirect) kw_670 kw_110 rfl rfl (by decide +kernel) kw_669 kw_2 kw_667) <|
  allq qX2_readFrom 77 (.inl (a_go 90)) (s_goto (off := 13) (by decide +kernel) (by decide)) <|
  allq qX2_readFrom 80 (.inl (a_al 0 81)) (s_aload_n (q := 0) (i := 0) rfl (by decide +kernel)) <|
  allq qX2_readFrom 81 (.inl (a_al 1 82)) (s_aload_n (q := 1) (i := 1) rfl (by decide +kernel)) <|
  allq qX2_readFrom 82 (.inl (a_il 2 83)) (s_iload_n (q := 2) (i := 2) rfl (by decide +kernel)) <|
  allq qX2_readFrom 83 (.inl (a_ic 1 84)) (s_iconst (n := 1) (v := 1) rfl (by decide +kernel)) <|
  allq qX2_readFrom 84 (.inl (o_iadd 85)) (s_iadd (by decide +kernel)) <|
  allq qX2_readFrom 85 (.inl (a_il 6 87)) (s_iload (i := 6) (by decide +kernel)) <|
  allq qX2_readFrom 87 (.inr (.inl (30, 4, 3))) (okV (y := yX2_readStates) kw_675 kw_110 rfl rfl (by decide +kernel) kw_674 kw_3 kw_672) <|
  allq qX2_readFrom 90 (.inl (a_is 7 92)) (s_istore (i := 7) (by decide +kernel) (by decide)) <|
  allq qX2_readFrom 92 (.inl (a_il 7 94)) (s_iload (i := 7) (by decide +kernel)) <|
  allq qX2_readFrom 94 (.inl (o_if_le 112 97)) (s_if_le (off := 18) (by decide +kernel) (by decide)) <|
  allq qX2_readFrom 97 (.inl (a_al 0 98)) (s_aload_n (q := 0) (i := 0) rfl (by decide +kernel)) <|
  allq qX2_readFrom 98 (.inl (a_il 7 100)) (s_iload (i := 7) (by decide +kernel)) <|
  allq qX2_readFrom 100 (.inl (a_al 3 101)) (s_aload_n (q := 3) (i := 3) rfl (by decide +kernel)) <|
  allq qX2_readFrom 101 (.inr (.inl (31, 3, 3))) (okV (y := yX2_settle) kw_698 kw_110 rfl rfl (by decide +kernel) kw_697 kw_4 kw_695) <|
  allq qX2_readFrom 104 (.inl (o_if_eq 112 107)) (s_if_eq (off := 8) (by decide +kernel) (by decide)) <|
  allq qX2_readFrom 107 (.inl (a_il 6 109)) (s_iload (i := 6) (by decide +kernel)) <|
  allq qX2_readFrom 109 (.inl (a_go 113)) (s_goto (off := 4) (by decide +kernel) (by decide)) <|
  allq qX2_readFrom 112 (.inl (a_ic (-1) 113)) (s_iconst (n := (-1)) (v := (-1)) rfl (by decide +kernel)) <|
  allq qX2_readFrom 113 (.inr (.inr 1)) (Or.inr (Or.inl ⟨rfl, rfl, by decide +kernel⟩)) <|
  alln
theorem kX2_readFrom : ∀ q ∈ tX2_readFrom, qX2_readFrom q := alla kX2_readFrom_0 kX2_readFrom_1
abbrev qX2_readDirect : Nat × aI → Prop := OkQ RX2 "readDirect" cX2_readDirect 6 (some .int)
set_option maxRecDepth 20000 in
theorem kX2_readDirect_0 : ∀ q ∈ tX2_readDirect_0, qX2_readDirect q :=
  allq qX2_readDirect 0 (.inl (a_ic 0 1)) (s_iconst (n := 0) (v := 0) rfl (by decide +kernel)) <|
  allq qX2_readDirect 1 (.inl (a_is 4 3)) (s_istore (i := 4) (by decide +kernel) (by decide)) <|
  allq qX2_readDirect 3 (.inl (a_il 4 5)) (s_iload (i := 4) (by decide +kernel)) <|
  allq qX2_readDirect 5 (.inl (a_il 3 6)) (s_iload_n (q := 3) (i := 3) rfl (by decide +kernel)) <|
  allq qX2_readDirect 6 (.inl (o_icmp_ge 57 9)) (s_icmp_ge (off := 51) (by decide +kernel) (by decide)) <|
  allq qX2_readDirect 9 (.inl (a_al 1 10)) (s_aload_n (q := 1) (i := 1) rfl (by decide +kernel)) <|
  allq qX2_readDirect 10 (.inl (a_il 2 11)) (s_iload_n (q := 2) (i := 2) rfl (by decide +kernel)) <|
  allq qX2_readDirect 11 (.inl (a_il 4 13)) (s_iload (i := 4) (by decide +kernel)) <|
  allq qX2_readDirect 13 (.inl (a_ic 2 14)) (s_iconst (n := 2) (v := 2) rfl (by decide +kernel)) <|
  allq qX2_readDirect 14 (.inl (o_idiv 15)) (s_idiv (by decide +kernel)) <|
  allq qX2_readDirect 15 (.inl (o_iadd 16)) (s_iadd (by decide +kernel)) <|
  allq qX2_readDirect 16 (.inr (.inl (93, 2, 8))) (okV (y := yX7_at) kw_617 kw_105 rfl rfl (by decide +kernel) kw_615 kw_616 kw_666) <|
  allq qX2_readDirect 19 (.inl (a_ic 0 20)) (s_iconst (n := 0) (v := 0) rfl (by decide +kernel)) <|
  allq qX2_readDirect 20 (.inl (o_mmax 23)) (s_mmax kw_671 kw_135 kw_106 kw_136 (by decide +kernel)) <|
  allq qX2_readDirect 23 (.inl (a_is 5 25)) (s_istore (i := 5) (by decide +kernel) (by decide)) <|
  allq qX2_readDirect 25 (.inl (a_al 0 26)) (s_aload_n (q := 0) (i := 0) rfl (by decide +kernel)) <|
  allq qX2_readDirect 26 (.inl (a_get 2 0 29)) (gX2 (f0 := 0) (by decide) kw_273 (by decide +kernel)) <|
  allq qX2_readDirect 29 (.inl (a_il 4 31)) (s_iload (i := 4) (by decide +kernel)) <|
  allq qX2_readDirect 31 (.inl (a_il 4 33)) (s_iload (i := 4) (by decide +kernel)) <|
  allq qX2_readDirect 33 (.inl (a_ic 2 34)) (s_iconst (n := 2) (v := 2) rfl (by decide +kernel)) <|
  allq qX2_readDirect 34 (.inl (o_irem 35)) (s_irem (by decide +kernel)) <|
  allq qX2_readDirect 35 (.inl (o_if_ne 45 38)) (s_if_ne (off := 10) (by decide +kernel) (by decide)) <|
  allq qX2_readDirect 38 (.inl (a_il 5 40)) (s_iload (i := 5) (by decide +kernel)) <|
  allq qX2_readDirect 40 (.inl (a_ic 4 41)) (s_iconst (n := 4) (v := 4) rfl (by decide +kernel)) <|
  allq qX2_readDirect 41 (.inl (o_ishr 42)) (s_ishr (by decide +kernel)) <|
  allq qX2_readDirect 42 (.inl (a_go 50)) (s_goto (off := 8) (by decide +kernel) (by decide)) <|
  allq qX2_readDirect 45 (.inl (a_il 5 47)) (s_iload (i := 5) (by decide +kernel)) <|
  allq qX2_readDirect 47 (.inl (a_ic 15 49)) (s_bipush (n := 15) (v := 15) rfl (by decide +kernel)) <|
  allq qX2_readDirect 49 (.inl (o_iand 50)) (s_iand (by decide +kernel)) <|
  allq qX2_readDirect 50 (.inl (a_iast 51)) (s_iast (by decide +kernel)) <|
  allq qX2_readDirect 51 (.inl (a_inc 4 1 54)) (s_iinc (i := 4) (n := 1) (n2 := 1) rfl (by decide +kernel) (by decide)) <|
  allq qX2_readDirect 54 (.inl (a_go 3)) (s_goto (off := (-51)) (by decide +kernel) (by decide)) <|
  allq qX2_readDirect 57 (.inl (a_il 3 58)) (s_iload_n (q := 3) (i := 3) rfl (by decide +kernel)) <|
  allq qX2_readDirect 58 (.inr (.inr 1)) (Or.inr (Or.inl ⟨rfl, rfl, by decide +kernel⟩)) <|
  alln
theorem kX2_readDirect : ∀ q ∈ tX2_readDirect, qX2_readDirect q := kX2_readDirect_0
abbrev qX2_readStates : Nat × aI → Prop := OkQ RX2 "readStates" cX2_readStates 14 (some .int)
set_option maxRecDepth 20000 in
theorem kX2_readStates_0 : ∀ q ∈ tX2_readStates_0, qX2_readStates q :=
  allq qX2_readStates 0 (.inl (a_al 0 1)) (s_aload_n (q := 0) (i := 0) rfl (by decide +kernel)) <|
  allq qX2_readStates 1 (.inl (a_get 2 2 4)) (gX2 (f0 := 2) (by decide) kw_275 (by decide +kernel)) <|
  allq qX2_readStates 4 (.inl (a_al 1 5)) (s_aload_n (q := 1) (i := 1) rfl (by decide +kernel)) <|
  allq qX2_readStates 5 (.inl (a_il 2 6)) (s_iload_n (q := 2) (i := 2) rfl (by decide +kernel)) <|
  allq qX2_readStates 6 (.inl (a_il 3 7)) (s_iload_n (q := 3) (i := 3) rfl (by decide +kernel)) <|
  allq qX2_readStates 7 (.inl (a_ic 6 9)) (s_bipush (n := 6) (v := 6) rfl (by decide +kernel)) <|
  allq qX2_readStates 9 (.inr (.inl (115, 5, 9))) (okV (y := yX8_readFrom) kw_679 kw_109 rfl rfl (by decide +kernel) kw_677 kw_678 kw_676) <|
  allq qX2_readStates 12 (.inl (a_is 4 14)) (s_istore (i := 4) (by decide +kernel) (by decide)) <|
  allq qX2_readStates 14 (.inl (a_al 1 15)) (s_aload_n (q := 1) (i := 1) rfl (by decide +kernel)) <|
  allq qX2_readStates 15 (.inl (a_il 3 16)) (s_iload_n (q := 3) (i := 3) rfl (by decide +kernel)) <|
  allq qX2_readStates 16 (.inl (a_ic 1 17)) (s_iconst (n := 1) (v := 1) rfl (by decide +kernel)) <|
  allq qX2_readStates 17 (.inl (o_isub 18)) (s_isub (by decide +kernel)) <|
  allq qX2_readStates 18 (.inr (.inl (93, 2, 8))) (okV (y := yX7_at) kw_617 kw_105 rfl rfl (by decide +kernel) kw_615 kw_616 kw_666) <|
  allq qX2_readStates 21 (.inl (a_is 5 23)) (s_istore (i := 5) (by decide +kernel) (by decide)) <|
  allq qX2_readStates 23 (.inl (a_il 4 25)) (s_iload (i := 4) (by decide +kernel)) <|
  allq qX2_readStates 25 (.inl (o_if_lt 40 28)) (s_if_lt (off := 15) (by decide +kernel) (by decide)) <|
  allq qX2_readStates 28 (.inl (a_il 4 30)) (s_iload (i := 4) (by decide +kernel)) <|
  allq qX2_readStates 30 (.inl (a_il 3 31)) (s_iload_n (q := 3) (i := 3) rfl (by decide +kernel)) <|
  allq qX2_readStates 31 (.inl (o_icmp_ge 40 34)) (s_icmp_ge (off := 9) (by decide +kernel) (by decide)) <|
  allq qX2_readStates 34 (.inl (a_il 5 36)) (s_iload (i := 5) (by decide +kernel)) <|
  allq qX2_readStates 36 (.inl (a_ic 1 37)) (s_iconst (n := 1) (v := 1) rfl (by decide +kernel)) <|
  allq qX2_readStates 37 (.inl (o_icmp_ge 42 40)) (s_icmp_ge (off := 5) (by decide +kernel) (by decide)) <|
  allq qX2_readStates 40 (.inl (a_ic (-1) 41)) (s_iconst (n := (-1)) (v := (-1)) rfl (by decide +kernel)) <|
  allq qX2_readStates 41 (.inr (.inr 1)) (Or.inr (Or.inl ⟨rfl, rfl, by decide +kernel⟩)) <|
  allq qX2_readStates 42 (.inl (a_ic 8 44)) (s_bipush (n := 8) (v := 8) rfl (by decide +kernel)) <|
  allq qX2_readStates 44 (.inl (a_il 4 46)) (s_iload (i := 4) (by decide +kernel)) <|
  allq qX2_readStates 46 (.inl (o_imul 47)) (s_imul (by decide +kernel)) <|
  allq qX2_readStates 47 (.inl (a_is 6 49)) (s_istore (i := 6) (by decide +kernel) (by decide)) <|
  allq qX2_readStates 49 (.inl (a_ic 8 51)) (s_bipush (n := 8) (v := 8) rfl (by decide +kernel)) <|
  allq qX2_readStates 51 (.inl (a_il 3 52)) (s_iload_n (q := 3) (i := 3) rfl (by decide +kernel)) <|
  allq qX2_readStates 52 (.inl (a_ic 1 53)) (s_iconst (n := 1) (v := 1) rfl (by decide +kernel)) <|
  allq qX2_readStates 53 (.inl (o_isub 54)) (s_isub (by decide +kernel)) <|
  allq qX2_readStates 54 (.inl (o_imul 55)) (s_imul (by decide +kernel)) <|
  allq qX2_readStates 55 (.inl (a_il 5 57)) (s_iload (i := 5) (by decide +kernel)) <|
  allq qX2_readStates 57 (.inr (.inl (140, 1, 0))) (okS (y := yX11_log) kw_512 kw_104 rfl (by decide +kernel) kw_511 (Or.inr ⟨"StatePress", kn_684⟩)) <|
  allq qX2_readStates 60 (.inl (o_iadd 61)) (s_iadd (by decide +kernel)) <|
  allq qX2_readStates 61 (.inl (a_ic 2 62)) (s_iconst (n := 2) (v := 2) rfl (by decide +kernel)) <|
  allq qX2_readStates 62 (.inl (a_al 0 63)) (s_aload_n (q := 0) (i := 0) rfl (by decide +kernel)) <|
  allq qX2_readStates 63 (.inl (a_get 2 2 66)) (gX2 (f0 := 2) (by decide) kw_275 (by decide +kernel)) <|
  allq qX2_readStates 66 (.inl (a_get 8 7 69)) (gX8 (f0 := 7) (by decide) kw_213 (by decide +kernel)) <|
  alln
set_option maxRecDepth 20000 in
theorem kX2_readStates_1 : ∀ q ∈ tX2_readStates_1, qX2_readStates q :=
  allq qX2_readStates 69 (.inl (o_imul 70)) (s_imul (by decide +kernel)) <|
  allq qX2_readStates 70 (.inl (o_isub 71)) (s_isub (by decide +kernel)) <|
  allq qX2_readStates 71 (.inl (a_is 7 73)) (s_istore (i := 7) (by decide +kernel) (by decide)) <|
  allq qX2_readStates 73 (.inl (a_il 7 75)) (s_iload (i := 7) (by decide +kernel)) <|
  allq qX2_readStates 75 (.inl (a_il 6 77)) (s_iload (i := 6) (by decide +kernel)) <|
  allq qX2_readStates 77 (.inl (o_icmp_ge 82 80)) (s_icmp_ge (off := 5) (by decide +kernel) (by decide)) <|
  allq qX2_readStates 80 (.inl (a_ic (-1) 81)) (s_iconst (n := (-1)) (v := (-1)) rfl (by decide +kernel)) <|
  allq qX2_readStates 81 (.inr (.inr 1)) (Or.inr (Or.inl ⟨rfl, rfl, by decide +kernel⟩)) <|
  allq qX2_readStates 82 (.inl (a_al 1 83)) (s_aload_n (q := 1) (i := 1) rfl (by decide +kernel)) <|
  allq qX2_readStates 83 (.inl (a_il 7 85)) (s_iload (i := 7) (by decide +kernel)) <|
  allq qX2_readStates 85 (.inl (a_al 0 86)) (s_aload_n (q := 0) (i := 0) rfl (by decide +kernel)) <|
  allq qX2_readStates 86 (.inl (a_get 2 2 89)) (gX2 (f0 := 2) (by decide) kw_275 (by decide +kernel)) <|
  allq qX2_readStates 89 (.inl (a_get 8 7 92)) (gX8 (f0 := 7) (by decide) kw_213 (by decide +kernel)) <|
  allq qX2_readStates 92 (.inl (o_iadd 93)) (s_iadd (by decide +kernel)) <|
  allq qX2_readStates 93 (.inl (a_al 0 94)) (s_aload_n (q := 0) (i := 0) rfl (by decide +kernel)) <|
  allq qX2_readStates 94 (.inl (a_get 2 2 97)) (gX2 (f0 := 2) (by decide) kw_275 (by decide +kernel)) <|
  allq qX2_readStates 97 (.inl (a_get 8 7 100)) (gX8 (f0 := 7) (by decide) kw_213 (by decide +kernel)) <|
  allq qX2_readStates 100 (.inr (.inl (95, 3, 8))) (okV (y := yX7_bits) kw_683 kw_105 rfl rfl (by decide +kernel) kw_681 kw_682 kw_685) <|
  allq qX2_readStates 103 (.inl (a_is 8 105)) (s_istore (i := 8) (by decide +kernel) (by decide)) <|
  allq qX2_readStates 105 (.inl (a_al 1 106)) (s_aload_n (q := 1) (i := 1) rfl (by decide +kernel)) <|
  allq qX2_readStates 106 (.inl (a_il 7 108)) (s_iload (i := 7) (by decide +kernel)) <|
  allq qX2_readStates 108 (.inl (a_al 0 109)) (s_aload_n (q := 0) (i := 0) rfl (by decide +kernel)) <|
  allq qX2_readStates 109 (.inl (a_get 2 2 112)) (gX2 (f0 := 2) (by decide) kw_275 (by decide +kernel)) <|
  allq qX2_readStates 112 (.inl (a_get 8 7 115)) (gX8 (f0 := 7) (by decide) kw_213 (by decide +kernel)) <|
  allq qX2_readStates 115 (.inr (.inl (95, 3, 8))) (okV (y := yX7_bits) kw_683 kw_105 rfl rfl (by decide +kernel) kw_681 kw_682 kw_685) <|
  allq qX2_readStates 118 (.inl (a_is 9 120)) (s_istore (i := 9) (by decide +kernel) (by decide)) <|
  allq qX2_readStates 120 (.inl (a_ic 0 121)) (s_iconst (n := 0) (v := 0) rfl (by decide +kernel)) <|
  allq qX2_readStates 121 (.inl (a_is 10 123)) (s_istore (i := 10) (by decide +kernel) (by decide)) <|
  allq qX2_readStates 123 (.inl (a_il 10 125)) (s_iload (i := 10) (by decide +kernel)) <|
  allq qX2_readStates 125 (.inl (a_ic 1 126)) (s_iconst (n := 1) (v := 1) rfl (by decide +kernel)) <|
  allq qX2_readStates 126 (.inl (o_iadd 127)) (s_iadd (by decide +kernel)) <|
  allq qX2_readStates 127 (.inl (a_al 0 128)) (s_aload_n (q := 0) (i := 0) rfl (by decide +kernel)) <|
  allq qX2_readStates 128 (.inl (a_get 2 0 131)) (gX2 (f0 := 0) (by decide) kw_273 (by decide +kernel)) <|
  allq qX2_readStates 131 (.inl (a_len 132)) (s_len (by decide +kernel)) <|
  allq qX2_readStates 132 (.inl (o_icmp_ge 257 135)) (s_icmp_ge (off := 125) (by decide +kernel) (by decide)) <|
  allq qX2_readStates 135 (.inl (a_al 0 136)) (s_aload_n (q := 0) (i := 0) rfl (by decide +kernel)) <|
  allq qX2_readStates 136 (.inl (a_get 2 0 139)) (gX2 (f0 := 0) (by decide) kw_273 (by decide +kernel)) <|
  allq qX2_readStates 139 (.inl (a_il 10 141)) (s_iload (i := 10) (by decide +kernel)) <|
  allq qX2_readStates 141 (.inl (a_al 0 142)) (s_aload_n (q := 0) (i := 0) rfl (by decide +kernel)) <|
  allq qX2_readStates 142 (.inl (a_get 2 2 145)) (gX2 (f0 := 2) (by decide) kw_275 (by decide +kernel)) <|
  alln
set_option maxRecDepth 20000 in
theorem kX2_readStates_2 : ∀ q ∈ tX2_readStates_2, qX2_readStates q :=
  allq qX2_readStates 145 (.inl (a_il 8 147)) (s_iload (i := 8) (by decide +kernel)) <|
  allq qX2_readStates 147 (.inr (.inl (111, 2, 9))) (okV (y := yX8_owner) kw_689 kw_109 rfl rfl (by decide +kernel) kw_687 kw_688 kw_686) <|
  allq qX2_readStates 150 (.inl (a_iast 151)) (s_iast (by decide +kernel)) <|
  allq qX2_readStates 151 (.inl (a_al 0 152)) (s_aload_n (q := 0) (i := 0) rfl (by decide +kernel)) <|
  allq qX2_readStates 152 (.inl (a_get 2 2 155)) (gX2 (f0 := 2) (by decide) kw_275 (by decide +kernel)) <|
  allq qX2_readStates 155 (.inl (a_il 8 157)) (s_iload (i := 8) (by decide +kernel)) <|
  allq qX2_readStates 157 (.inr (.inl (112, 2, 9))) (okV (y := yX8_rank) kw_693 kw_109 rfl rfl (by decide +kernel) kw_691 kw_692 kw_690) <|
  allq qX2_readStates 160 (.inl (a_is 11 162)) (s_istore (i := 11) (by decide +kernel) (by decide)) <|
  allq qX2_readStates 162 (.inl (a_al 0 163)) (s_aload_n (q := 0) (i := 0) rfl (by decide +kernel)) <|
  allq qX2_readStates 163 (.inl (a_get 2 2 166)) (gX2 (f0 := 2) (by decide) kw_275 (by decide +kernel)) <|
  allq qX2_readStates 166 (.inl (a_get 8 7 169)) (gX8 (f0 := 7) (by decide) kw_213 (by decide +kernel)) <|
  allq qX2_readStates 169 (.inl (a_il 11 171)) (s_iload (i := 11) (by decide +kernel)) <|
  allq qX2_readStates 171 (.inr (.inl (140, 1, 0))) (okS (y := yX11_log) kw_512 kw_104 rfl (by decide +kernel) kw_511 (Or.inr ⟨"StatePress", kn_684⟩)) <|
  allq qX2_readStates 174 (.inl (o_isub 175)) (s_isub (by decide +kernel)) <|
  allq qX2_readStates 175 (.inl (a_is 12 177)) (s_istore (i := 12) (by decide +kernel) (by decide)) <|
  allq qX2_readStates 177 (.inl (a_il 7 179)) (s_iload (i := 7) (by decide +kernel)) <|
  allq qX2_readStates 179 (.inl (a_il 6 181)) (s_iload (i := 6) (by decide +kernel)) <|
  allq qX2_readStates 181 (.inl (o_isub 182)) (s_isub (by decide +kernel)) <|
  allq qX2_readStates 182 (.inl (a_il 12 184)) (s_iload (i := 12) (by decide +kernel)) <|
  allq qX2_readStates 184 (.inl (o_icmp_ge 210 187)) (s_icmp_ge (off := 26) (by decide +kernel) (by decide)) <|
  allq qX2_readStates 187 (.inl (a_al 0 188)) (s_aload_n (q := 0) (i := 0) rfl (by decide +kernel)) <|
  allq qX2_readStates 188 (.inl (a_get 2 0 191)) (gX2 (f0 := 0) (by decide) kw_273 (by decide +kernel)) <|
  allq qX2_readStates 191 (.inl (a_il 10 193)) (s_iload (i := 10) (by decide +kernel)) <|
  allq qX2_readStates 193 (.inl (a_ic 1 194)) (s_iconst (n := 1) (v := 1) rfl (by decide +kernel)) <|
  allq qX2_readStates 194 (.inl (o_iadd 195)) (s_iadd (by decide +kernel)) <|
  allq qX2_readStates 195 (.inl (a_al 0 196)) (s_aload_n (q := 0) (i := 0) rfl (by decide +kernel)) <|
  allq qX2_readStates 196 (.inl (a_get 2 2 199)) (gX2 (f0 := 2) (by decide) kw_275 (by decide +kernel)) <|
  allq qX2_readStates 199 (.inl (a_il 9 201)) (s_iload (i := 9) (by decide +kernel)) <|
  allq qX2_readStates 201 (.inr (.inl (111, 2, 9))) (okV (y := yX8_owner) kw_689 kw_109 rfl rfl (by decide +kernel) kw_687 kw_688 kw_686) <|
  allq qX2_readStates 204 (.inl (a_iast 205)) (s_iast (by decide +kernel)) <|
  allq qX2_readStates 205 (.inl (a_il 10 207)) (s_iload (i := 10) (by decide +kernel)) <|
  allq qX2_readStates 207 (.inl (a_ic 2 208)) (s_iconst (n := 2) (v := 2) rfl (by decide +kernel)) <|
  allq qX2_readStates 208 (.inl (o_iadd 209)) (s_iadd (by decide +kernel)) <|
  allq qX2_readStates 209 (.inr (.inr 1)) (Or.inr (Or.inl ⟨rfl, rfl, by decide +kernel⟩)) <|
  allq qX2_readStates 210 (.inl (a_il 7 212)) (s_iload (i := 7) (by decide +kernel)) <|
  allq qX2_readStates 212 (.inl (a_il 12 214)) (s_iload (i := 12) (by decide +kernel)) <|
  allq qX2_readStates 214 (.inl (o_isub 215)) (s_isub (by decide +kernel)) <|
  allq qX2_readStates 215 (.inl (a_is 7 217)) (s_istore (i := 7) (by decide +kernel) (by decide)) <|
  allq qX2_readStates 217 (.inl (a_il 11 219)) (s_iload (i := 11) (by decide +kernel)) <|
  allq qX2_readStates 219 (.inl (a_il 12 221)) (s_iload (i := 12) (by decide +kernel)) <|
  alln
set_option maxRecDepth 20000 in
theorem kX2_readStates_3 : ∀ q ∈ tX2_readStates_3, qX2_readStates q :=
  allq qX2_readStates 221 (.inl (o_ishl 222)) (s_ishl (by decide +kernel)) <|
  allq qX2_readStates 222 (.inl (a_ic 1 223)) (s_iconst (n := 1) (v := 1) rfl (by decide +kernel)) <|
  allq qX2_readStates 223 (.inl (a_al 0 224)) (s_aload_n (q := 0) (i := 0) rfl (by decide +kernel)) <|
  allq qX2_readStates 224 (.inl (a_get 2 2 227)) (gX2 (f0 := 2) (by decide) kw_275 (by decide +kernel)) <|
  allq qX2_readStates 227 (.inl (a_get 8 7 230)) (gX8 (f0 := 7) (by decide) kw_213 (by decide +kernel)) <|
  allq qX2_readStates 230 (.inl (o_ishl 231)) (s_ishl (by decide +kernel)) <|
  allq qX2_readStates 231 (.inl (o_isub 232)) (s_isub (by decide +kernel)) <|
  allq qX2_readStates 232 (.inl (a_al 1 233)) (s_aload_n (q := 1) (i := 1) rfl (by decide +kernel)) <|
  allq qX2_readStates 233 (.inl (a_il 7 235)) (s_iload (i := 7) (by decide +kernel)) <|
  allq qX2_readStates 235 (.inl (a_il 12 237)) (s_iload (i := 12) (by decide +kernel)) <|
  allq qX2_readStates 237 (.inr (.inl (95, 3, 8))) (okV (y := yX7_bits) kw_683 kw_105 rfl rfl (by decide +kernel) kw_681 kw_682 kw_685) <|
  allq qX2_readStates 240 (.inl (o_iadd 241)) (s_iadd (by decide +kernel)) <|
  allq qX2_readStates 241 (.inl (a_is 13 243)) (s_istore (i := 13) (by decide +kernel) (by decide)) <|
  allq qX2_readStates 243 (.inl (a_il 9 245)) (s_iload (i := 9) (by decide +kernel)) <|
  allq qX2_readStates 245 (.inl (a_is 8 247)) (s_istore (i := 8) (by decide +kernel) (by decide)) <|
  allq qX2_readStates 247 (.inl (a_il 13 249)) (s_iload (i := 13) (by decide +kernel)) <|
  allq qX2_readStates 249 (.inl (a_is 9 251)) (s_istore (i := 9) (by decide +kernel) (by decide)) <|
  allq qX2_readStates 251 (.inl (a_inc 10 1 254)) (s_iinc (i := 10) (n := 1) (n2 := 1) rfl (by decide +kernel) (by decide)) <|
  allq qX2_readStates 254 (.inl (a_go 123)) (s_goto (off := (-131)) (by decide +kernel) (by decide)) <|
  allq qX2_readStates 257 (.inl (a_ic (-1) 258)) (s_iconst (n := (-1)) (v := (-1)) rfl (by decide +kernel)) <|
  allq qX2_readStates 258 (.inr (.inr 1)) (Or.inr (Or.inl ⟨rfl, rfl, by decide +kernel⟩)) <|
  alln
theorem kX2_readStates : ∀ q ∈ tX2_readStates, qX2_readStates q := alla kX2_readStates_0 (alla kX2_readStates_1 (alla kX2_readStates_2 kX2_readStates_3))
abbrev qX2_settle : Nat × aI → Prop := OkQ RX2 "settle" cX2_settle 8 (some .boolean)
set_option maxRecDepth 20000 in
theorem kX2_settle_0 : ∀ q ∈ tX2_settle_0, qX2_settle q :=
  allq qX2_settle 0 (.inl (a_il 1 1)) (s_iload_n (q := 1) (i := 1) rfl (by decide +kernel)) <|
  allq qX2_settle 1 (.inl (a_ic 1 2)) (s_iconst (n := 1) (v := 1) rfl (by decide +kernel)) <|
  allq qX2_settle 2 (.inl (o_icmp_lt 14 5)) (s_icmp_lt (off := 12) (by decide +kernel) (by decide)) <|
  allq qX2_settle 5 (.inl (a_il 1 6)) (s_iload_n (q := 1) (i := 1) rfl (by decide +kernel)) <|
  allq qX2_settle 6 (.inl (a_al 0 7)) (s_aload_n (q := 0) (i := 0) rfl (by decide +kernel)) <|
  allq qX2_settle 7 (.inl (a_get 2 0 10)) (gX2 (f0 := 0) (by decide) kw_273 (by decide +kernel)) <|
  allq qX2_settle 10 (.inl (a_len 11)) (s_len (by decide +kernel)) <|
  allq qX2_settle 11 (.inl (o_icmp_lt 16 14)) (s_icmp_lt (off := 5) (by decide +kernel) (by decide)) <|
  allq qX2_settle 14 (.inl (a_ic 0 15)) (s_iconst (n := 0) (v := 0) rfl (by decide +kernel)) <|
  allq qX2_settle 15 (.inr (.inr 3)) (Or.inr (Or.inr (Or.inr ⟨rfl, rfl, by decide +kernel⟩))) <|
  allq qX2_settle 16 (.inl (a_ic 0 17)) (s_iconst (n := 0) (v := 0) rfl (by decide +kernel)) <|
  allq qX2_settle 17 (.inl (a_is 3 18)) (s_istore_n (q := 3) (i := 3) rfl (by decide +kernel) (by decide)) <|
  allq qX2_settle 18 (.inl (a_ic 0 19)) (s_iconst (n := 0) (v := 0) rfl (by decide +kernel)) <|
  allq qX2_settle 19 (.inl (a_is 4 21)) (s_istore (i := 4) (by decide +kernel) (by decide)) <|
  allq qX2_settle 21 (.inl (a_ic 0 22)) (s_iconst (n := 0) (v := 0) rfl (by decide +kernel)) <|
  allq qX2_settle 22 (.inl (a_is 5 24)) (s_istore (i := 5) (by decide +kernel) (by decide)) <|
  allq qX2_settle 24 (.inl (a_il 5 26)) (s_iload (i := 5) (by decide +kernel)) <|
  allq qX2_settle 26 (.inl (a_il 1 27)) (s_iload_n (q := 1) (i := 1) rfl (by decide +kernel)) <|
  allq qX2_settle 27 (.inl (o_icmp_ge 85 30)) (s_icmp_ge (off := 58) (by decide +kernel) (by decide)) <|
  allq qX2_settle 30 (.inl (a_il 3 31)) (s_iload_n (q := 3) (i := 3) rfl (by decide +kernel)) <|
  allq qX2_settle 31 (.inl (a_al 0 32)) (s_aload_n (q := 0) (i := 0) rfl (by decide +kernel)) <|
  allq qX2_settle 32 (.inl (a_get 2 0 35)) (gX2 (f0 := 0) (by decide) kw_273 (by decide +kernel)) <|
  allq qX2_settle 35 (.inl (a_il 5 37)) (s_iload (i := 5) (by decide +kernel)) <|
  allq qX2_settle 37 (.inl (a_iald 38)) (s_iald (by decide +kernel)) <|
  allq qX2_settle 38 (.inl (o_if_le 55 41)) (s_if_le (off := 17) (by decide +kernel) (by decide)) <|
  allq qX2_settle 41 (.inl (a_ic 1 42)) (s_iconst (n := 1) (v := 1) rfl (by decide +kernel)) <|
  allq qX2_settle 42 (.inl (a_al 0 43)) (s_aload_n (q := 0) (i := 0) rfl (by decide +kernel)) <|
  allq qX2_settle 43 (.inl (a_get 2 0 46)) (gX2 (f0 := 0) (by decide) kw_273 (by decide +kernel)) <|
  allq qX2_settle 46 (.inl (a_il 5 48)) (s_iload (i := 5) (by decide +kernel)) <|
  allq qX2_settle 48 (.inl (a_iald 49)) (s_iald (by decide +kernel)) <|
  allq qX2_settle 49 (.inl (a_ic 1 50)) (s_iconst (n := 1) (v := 1) rfl (by decide +kernel)) <|
  allq qX2_settle 50 (.inl (o_isub 51)) (s_isub (by decide +kernel)) <|
  allq qX2_settle 51 (.inl (o_ishl 52)) (s_ishl (by decide +kernel)) <|
  allq qX2_settle 52 (.inl (a_go 56)) (s_goto (off := 4) (by decide +kernel) (by decide)) <|
  allq qX2_settle 55 (.inl (a_ic 0 56)) (s_iconst (n := 0) (v := 0) rfl (by decide +kernel)) <|
  allq qX2_settle 56 (.inl (o_iadd 57)) (s_iadd (by decide +kernel)) <|
  allq qX2_settle 57 (.inl (a_is 3 58)) (s_istore_n (q := 3) (i := 3) rfl (by decide +kernel) (by decide)) <|
  allq qX2_settle 58 (.inl (a_il 4 60)) (s_iload (i := 4) (by decide +kernel)) <|
  allq qX2_settle 60 (.inl (a_al 0 61)) (s_aload_n (q := 0) (i := 0) rfl (by decide +kernel)) <|
  allq qX2_settle 61 (.inl (a_get 2 0 64)) (gX2 (f0 := 0) (by decide) kw_273 (by decide +kernel)) <|
  alln
set_option maxRecDepth 20000 in
theorem kX2_settle_1 : ∀ q ∈ tX2_settle_1, qX2_settle q :=
  allq qX2_settle 64 (.inl (a_il 5 66)) (s_iload (i := 5) (by decide +kernel)) <|
  allq qX2_settle 66 (.inl (a_iald 67)) (s_iald (by decide +kernel)) <|
  allq qX2_settle 67 (.inl (a_ic 1 68)) (s_iconst (n := 1) (v := 1) rfl (by decide +kernel)) <|
  allq qX2_settle 68 (.inl (o_icmp_ne 75 71)) (s_icmp_ne (off := 7) (by decide +kernel) (by decide)) <|
  allq qX2_settle 71 (.inl (a_ic 1 72)) (s_iconst (n := 1) (v := 1) rfl (by decide +kernel)) <|
  allq qX2_settle 72 (.inl (a_go 76)) (s_goto (off := 4) (by decide +kernel) (by decide)) <|
  allq qX2_settle 75 (.inl (a_ic 0 76)) (s_iconst (n := 0) (v := 0) rfl (by decide +kernel)) <|
  allq qX2_settle 76 (.inl (o_iadd 77)) (s_iadd (by decide +kernel)) <|
  allq qX2_settle 77 (.inl (a_is 4 79)) (s_istore (i := 4) (by decide +kernel) (by decide)) <|
  allq qX2_settle 79 (.inl (a_inc 5 1 82)) (s_iinc (i := 5) (n := 1) (n2 := 1) rfl (by decide +kernel) (by decide)) <|
  allq qX2_settle 82 (.inl (a_go 24)) (s_goto (off := (-58)) (by decide +kernel) (by decide)) <|
  allq qX2_settle 85 (.inl (a_il 3 86)) (s_iload_n (q := 3) (i := 3) rfl (by decide +kernel)) <|
  allq qX2_settle 86 (.inl (o_if_le 98 89)) (s_if_le (off := 12) (by decide +kernel) (by decide)) <|
  allq qX2_settle 89 (.inl (a_il 3 90)) (s_iload_n (q := 3) (i := 3) rfl (by decide +kernel)) <|
  allq qX2_settle 90 (.inr (.inl (140, 1, 0))) (okS (y := yX11_log) kw_512 kw_104 rfl (by decide +kernel) kw_511 (Or.inr ⟨"StatePress", kn_684⟩)) <|
  allq qX2_settle 93 (.inl (a_ic 1 94)) (s_iconst (n := 1) (v := 1) rfl (by decide +kernel)) <|
  allq qX2_settle 94 (.inl (o_iadd 95)) (s_iadd (by decide +kernel)) <|
  allq qX2_settle 95 (.inl (a_go 99)) (s_goto (off := 4) (by decide +kernel) (by decide)) <|
  allq qX2_settle 98 (.inl (a_ic 0 99)) (s_iconst (n := 0) (v := 0) rfl (by decide +kernel)) <|
  allq qX2_settle 99 (.inl (a_is 5 101)) (s_istore (i := 5) (by decide +kernel) (by decide)) <|
  allq qX2_settle 101 (.inl (a_il 5 103)) (s_iload (i := 5) (by decide +kernel)) <|
  allq qX2_settle 103 (.inl (a_ic 1 104)) (s_iconst (n := 1) (v := 1) rfl (by decide +kernel)) <|
  allq qX2_settle 104 (.inl (o_icmp_lt 114 107)) (s_icmp_lt (off := 10) (by decide +kernel) (by decide)) <|
  allq qX2_settle 107 (.inl (a_il 5 109)) (s_iload (i := 5) (by decide +kernel)) <|
  allq qX2_settle 109 (.inl (a_ic 11 111)) (s_bipush (n := 11) (v := 11) rfl (by decide +kernel)) <|
  allq qX2_settle 111 (.inl (o_icmp_le 116 114)) (s_icmp_le (off := 5) (by decide +kernel) (by decide)) <|
  allq qX2_settle 114 (.inl (a_ic 0 115)) (s_iconst (n := 0) (v := 0) rfl (by decide +kernel)) <|
  allq qX2_settle 115 (.inr (.inr 3)) (Or.inr (Or.inr (Or.inr ⟨rfl, rfl, by decide +kernel⟩))) <|
  allq qX2_settle 116 (.inl (a_ic 1 117)) (s_iconst (n := 1) (v := 1) rfl (by decide +kernel)) <|
  allq qX2_settle 117 (.inl (a_il 5 119)) (s_iload (i := 5) (by decide +kernel)) <|
  allq qX2_settle 119 (.inl (o_ishl 120)) (s_ishl (by decide +kernel)) <|
  allq qX2_settle 120 (.inl (a_il 3 121)) (s_iload_n (q := 3) (i := 3) rfl (by decide +kernel)) <|
  allq qX2_settle 121 (.inl (o_isub 122)) (s_isub (by decide +kernel)) <|
  allq qX2_settle 122 (.inl (a_is 6 124)) (s_istore (i := 6) (by decide +kernel) (by decide)) <|
  allq qX2_settle 124 (.inl (a_il 6 126)) (s_iload (i := 6) (by decide +kernel)) <|
  allq qX2_settle 126 (.inl (a_il 6 128)) (s_iload (i := 6) (by decide +kernel)) <|
  allq qX2_settle 128 (.inl (a_ic 1 129)) (s_iconst (n := 1) (v := 1) rfl (by decide +kernel)) <|
  allq qX2_settle 129 (.inl (o_isub 130)) (s_isub (by decide +kernel)) <|
  allq qX2_settle 130 (.inl (o_iand 131)) (s_iand (by decide +kernel)) <|
  allq qX2_settle 131 (.inl (o_if_eq 136 134)) (s_if_eq (off := 5) (by decide +kernel) (by decide)) <|
  alln
set_option maxRecDepth 20000 in
theorem kX2_settle_2 : ∀ q ∈ tX2_settle_2, qX2_settle q :=
  allq qX2_settle 134 (.inl (a_ic 0 135)) (s_iconst (n := 0) (v := 0) rfl (by decide +kernel)) <|
  allq qX2_settle 135 (.inr (.inr 3)) (Or.inr (Or.inr (Or.inr ⟨rfl, rfl, by decide +kernel⟩))) <|
  allq qX2_settle 136 (.inl (a_al 0 137)) (s_aload_n (q := 0) (i := 0) rfl (by decide +kernel)) <|
  allq qX2_settle 137 (.inl (a_get 2 0 140)) (gX2 (f0 := 0) (by decide) kw_273 (by decide +kernel)) <|
  allq qX2_settle 140 (.inl (a_il 1 141)) (s_iload_n (q := 1) (i := 1) rfl (by decide +kernel)) <|
  allq qX2_settle 141 (.inl (a_il 6 143)) (s_iload (i := 6) (by decide +kernel)) <|
  allq qX2_settle 143 (.inr (.inl (140, 1, 0))) (okS (y := yX11_log) kw_512 kw_104 rfl (by decide +kernel) kw_511 (Or.inr ⟨"StatePress", kn_684⟩)) <|
  allq qX2_settle 146 (.inl (a_ic 1 147)) (s_iconst (n := 1) (v := 1) rfl (by decide +kernel)) <|
  allq qX2_settle 147 (.inl (o_iadd 148)) (s_iadd (by decide +kernel)) <|
  allq qX2_settle 148 (.inl (a_iast 149)) (s_iast (by decide +kernel)) <|
  allq qX2_settle 149 (.inl (a_il 4 151)) (s_iload (i := 4) (by decide +kernel)) <|
  allq qX2_settle 151 (.inl (a_al 0 152)) (s_aload_n (q := 0) (i := 0) rfl (by decide +kernel)) <|
  allq qX2_settle 152 (.inl (a_get 2 0 155)) (gX2 (f0 := 0) (by decide) kw_273 (by decide +kernel)) <|
  allq qX2_settle 155 (.inl (a_il 1 156)) (s_iload_n (q := 1) (i := 1) rfl (by decide +kernel)) <|
  allq qX2_settle 156 (.inl (a_iald 157)) (s_iald (by decide +kernel)) <|
  allq qX2_settle 157 (.inl (a_ic 1 158)) (s_iconst (n := 1) (v := 1) rfl (by decide +kernel)) <|
  allq qX2_settle 158 (.inl (o_icmp_ne 165 161)) (s_icmp_ne (off := 7) (by decide +kernel) (by decide)) <|
  allq qX2_settle 161 (.inl (a_ic 1 162)) (s_iconst (n := 1) (v := 1) rfl (by decide +kernel)) <|
  allq qX2_settle 162 (.inl (a_go 166)) (s_goto (off := 4) (by decide +kernel) (by decide)) <|
  allq qX2_settle 165 (.inl (a_ic 0 166)) (s_iconst (n := 0) (v := 0) rfl (by decide +kernel)) <|
  allq qX2_settle 166 (.inl (o_iadd 167)) (s_iadd (by decide +kernel)) <|
  allq qX2_settle 167 (.inl (a_ic 2 168)) (s_iconst (n := 2) (v := 2) rfl (by decide +kernel)) <|
  allq qX2_settle 168 (.inl (o_icmp_ge 173 171)) (s_icmp_ge (off := 5) (by decide +kernel) (by decide)) <|
  allq qX2_settle 171 (.inl (a_ic 0 172)) (s_iconst (n := 0) (v := 0) rfl (by decide +kernel)) <|
  allq qX2_settle 172 (.inr (.inr 3)) (Or.inr (Or.inr (Or.inr ⟨rfl, rfl, by decide +kernel⟩))) <|
  allq qX2_settle 173 (.inl (a_al 2 174)) (s_aload_n (q := 2) (i := 2) rfl (by decide +kernel)) <|
  allq qX2_settle 174 (.inl (a_get 0 0 177)) (gX0 (f0 := 0) (by decide) kw_179 (by decide +kernel)) <|
  allq qX2_settle 177 (.inl (a_ic 0 178)) (s_iconst (n := 0) (v := 0) rfl (by decide +kernel)) <|
  allq qX2_settle 178 (.inr (.inl (223, 2, 0))) (okS (y := yJ7_fill_53178) kw_496 kw_116 rfl (by decide +kernel) kw_495 (Or.inl kw_699)) <|
  allq qX2_settle 181 (.inl (a_ic 0 182)) (s_iconst (n := 0) (v := 0) rfl (by decide +kernel)) <|
  allq qX2_settle 182 (.inl (a_is 7 184)) (s_istore (i := 7) (by decide +kernel) (by decide)) <|
  allq qX2_settle 184 (.inl (a_il 7 186)) (s_iload (i := 7) (by decide +kernel)) <|
  allq qX2_settle 186 (.inl (a_il 1 187)) (s_iload_n (q := 1) (i := 1) rfl (by decide +kernel)) <|
  allq qX2_settle 187 (.inl (o_icmp_gt 229 190)) (s_icmp_gt (off := 42) (by decide +kernel) (by decide)) <|
  allq qX2_settle 190 (.inl (a_al 2 191)) (s_aload_n (q := 2) (i := 2) rfl (by decide +kernel)) <|
  allq qX2_settle 191 (.inl (a_get 0 0 194)) (gX0 (f0 := 0) (by decide) kw_179 (by decide +kernel)) <|
  allq qX2_settle 194 (.inl (a_il 7 196)) (s_iload (i := 7) (by decide +kernel)) <|
  allq qX2_settle 196 (.inl (a_al 0 197)) (s_aload_n (q := 0) (i := 0) rfl (by decide +kernel)) <|
  allq qX2_settle 197 (.inl (a_get 2 0 200)) (gX2 (f0 := 0) (by decide) kw_273 (by decide +kernel)) <|
  allq qX2_settle 200 (.inl (a_il 7 202)) (s_iload (i := 7) (by decide +kernel)) <|
  alln
set_option maxRecDepth 20000 in
theorem kX2_settle_3 : ∀ q ∈ tX2_settle_3, qX2_settle q :=
  allq qX2_settle 202 (.inl (a_iald 203)) (s_iald (by decide +kernel)) <|
  allq qX2_settle 203 (.inl (o_if_le 221 206)) (s_if_le (off := 18) (by decide +kernel) (by decide)) <|
  allq qX2_settle 206 (.inl (a_il 5 208)) (s_iload (i := 5) (by decide +kernel)) <|
  allq qX2_settle 208 (.inl (a_ic 1 209)) (s_iconst (n := 1) (v := 1) rfl (by decide +kernel)) <|
  allq qX2_settle 209 (.inl (o_iadd 210)) (s_iadd (by decide +kernel)) <|
  allq qX2_settle 210 (.inl (a_al 0 211)) (s_aload_n (q := 0) (i := 0) rfl (by decide +kernel)) <|
  allq qX2_settle 211 (.inl (a_get 2 0 214)) (gX2 (f0 := 0) (by decide) kw_273 (by decide +kernel)) <|
  allq qX2_settle 214 (.inl (a_il 7 216)) (s_iload (i := 7) (by decide +kernel)) <|
  allq qX2_settle 216 (.inl (a_iald 217)) (s_iald (by decide +kernel)) <|
  allq qX2_settle 217 (.inl (o_isub 218)) (s_isub (by decide +kernel)) <|
  allq qX2_settle 218 (.inl (a_go 222)) (s_goto (off := 4) (by decide +kernel) (by decide)) <|
  allq qX2_settle 221 (.inl (a_ic 0 222)) (s_iconst (n := 0) (v := 0) rfl (by decide +kernel)) <|
  allq qX2_settle 222 (.inl (a_iast 223)) (s_iast (by decide +kernel)) <|
  allq qX2_settle 223 (.inl (a_inc 7 1 226)) (s_iinc (i := 7) (n := 1) (n2 := 1) rfl (by decide +kernel) (by decide)) <|
  allq qX2_settle 226 (.inl (a_go 184)) (s_goto (off := (-42)) (by decide +kernel) (by decide)) <|
  allq qX2_settle 229 (.inl (a_al 2 230)) (s_aload_n (q := 2) (i := 2) rfl (by decide +kernel)) <|
  allq qX2_settle 230 (.inl (a_il 5 232)) (s_iload (i := 5) (by decide +kernel)) <|
  allq qX2_settle 232 (.inr (.inl (3, 2, 1))) (okV (y := yX0_settle) kw_703 kw_108 rfl rfl (by decide +kernel) kw_701 kw_702 kw_700) <|
  allq qX2_settle 235 (.inl (a_ic 1 236)) (s_iconst (n := 1) (v := 1) rfl (by decide +kernel)) <|
  allq qX2_settle 236 (.inr (.inr 3)) (Or.inr (Or.inr (Or.inr ⟨rfl, rfl, by decide +kernel⟩))) <|
  alln
theorem kX2_settle : ∀ q ∈ tX2_settle, qX2_settle q := alla kX2_settle_0 (alla kX2_settle_1 (alla kX2_settle_2 kX2_settle_3))
abbrev qX3_init : Nat × aI → Prop := OkQ RX3 "<init>" cX3_init 1 (none)
set_option maxRecDepth 20000 in
theorem kX3_init_0 : ∀ q ∈ tX3_init_0, qX3_init q :=
  allq qX3_init 0 (.inl (a_al 0 1)) (s_aload_n (q := 0) (i := 0) rfl (by decide +kernel)) <|
  allq qX3_init 1 (.inl (a_oi 4)) (s_oi kw_300 kw_126 kw_127 (by decide +kernel)) <|
  allq qX3_init 4 (.inl (a_al 0 5)) (s_aload_n (q := 0) (i := 0) rfl (by decide +kernel)) <|
  allq qX3_init 5 (.inl (a_ic 16000 8)) (s_sipush (n := 16000) (v := 16000) rfl (by decide +kernel)) <|
  allq qX3_init 8 (.inl (a_newa 0 10)) (na_byte kw_162 (by decide +kernel)) <|
  allq qX3_init 10 (.inl (a_put 3 0 (.array .byte) 13)) (fX3 (f0 := 0) (by decide) rfl rfl rfl tOk kw_301 (by decide +kernel)) <|
  allq qX3_init 13 (.inl (a_al 0 14)) (s_aload_n (q := 0) (i := 0) rfl (by decide +kernel)) <|
  allq qX3_init 14 (.inl (a_ic 16000 17)) (s_sipush (n := 16000) (v := 16000) rfl (by decide +kernel)) <|
  allq qX3_init 17 (.inl (a_newa 1 19)) (na_int kw_197 (by decide +kernel)) <|
  allq qX3_init 19 (.inl (a_put 3 2 (.array .int) 22)) (fX3 (f0 := 2) (by decide) rfl rfl rfl tOk kw_303 (by decide +kernel)) <|
  allq qX3_init 22 (.inl (a_al 0 23)) (s_aload_n (q := 0) (i := 0) rfl (by decide +kernel)) <|
  allq qX3_init 23 (.inl (a_ic 4096 26)) (s_sipush (n := 4096) (v := 4096) rfl (by decide +kernel)) <|
  allq qX3_init 26 (.inl (a_newa 1 28)) (na_int kw_197 (by decide +kernel)) <|
  allq qX3_init 28 (.inl (a_put 3 3 (.array .int) 31)) (fX3 (f0 := 3) (by decide) rfl rfl rfl tOk kw_304 (by decide +kernel)) <|
  allq qX3_init 31 (.inr (.inr 0)) (Or.inl ⟨rfl, rfl, by decide +kernel⟩) <|
  alln
theorem kX3_init : ∀ q ∈ tX3_init, qX3_init q := kX3_init_0
abbrev qX3_load : Nat × aI → Prop := OkQ RX3 "load" cX3_load 6 (none)
set_option maxRecDepth 20000 in
theorem kX3_load_0 : ∀ q ∈ tX3_load_0, qX3_load q :=
  allq qX3_load 0 (.inl (a_al 0 1)) (s_aload_n (q := 0) (i := 0) rfl (by decide +kernel)) <|
  allq qX3_load 1 (.inl (a_al 1 2)) (s_aload_n (q := 1) (i := 1) rfl (by decide +kernel)) <|
  allq qX3_load 2 (.inl (a_get 7 1 5)) (gX7 (f0 := 1) (by decide) kw_141 (by decide +kernel)) <|
  allq qX3_load 5 (.inl (a_al 2 6)) (s_aload_n (q := 2) (i := 2) rfl (by decide +kernel)) <|
  allq qX3_load 6 (.inl (a_get 7 1 9)) (gX7 (f0 := 1) (by decide) kw_141 (by decide +kernel)) <|
  allq qX3_load 9 (.inl (o_iadd 10)) (s_iadd (by decide +kernel)) <|
  allq qX3_load 10 (.inl (a_put 3 1 .int 13)) (pX3 (f0 := 1) (by decide) rfl rfl tOk kw_302 (by decide +kernel)) <|
  allq qX3_load 13 (.inl (a_al 0 14)) (s_aload_n (q := 0) (i := 0) rfl (by decide +kernel)) <|
  allq qX3_load 14 (.inl (a_get 3 1 17)) (gX3 (f0 := 1) (by decide) kw_302 (by decide +kernel)) <|
  allq qX3_load 17 (.inl (a_al 0 18)) (s_aload_n (q := 0) (i := 0) rfl (by decide +kernel)) <|
  allq qX3_load 18 (.inl (a_get 3 0 21)) (gX3 (f0 := 0) (by decide) kw_301 (by decide +kernel)) <|
  allq qX3_load 21 (.inl (a_len 22)) (s_len (by decide +kernel)) <|
  allq qX3_load 22 (.inl (o_icmp_le 31 25)) (s_icmp_le (off := 9) (by decide +kernel) (by decide)) <|
  allq qX3_load 25 (.inl (a_al 0 26)) (s_aload_n (q := 0) (i := 0) rfl (by decide +kernel)) <|
  allq qX3_load 26 (.inl (a_ic 0 27)) (s_iconst (n := 0) (v := 0) rfl (by decide +kernel)) <|
  allq qX3_load 27 (.inl (a_put 3 1 .int 30)) (pX3 (f0 := 1) (by decide) rfl rfl tOk kw_302 (by decide +kernel)) <|
  allq qX3_load 30 (.inr (.inr 0)) (Or.inl ⟨rfl, rfl, by decide +kernel⟩) <|
  allq qX3_load 31 (.inl (a_al 1 32)) (s_aload_n (q := 1) (i := 1) rfl (by decide +kernel)) <|
  allq qX3_load 32 (.inl (a_get 7 0 35)) (gX7 (f0 := 0) (by decide) kw_138 (by decide +kernel)) <|
  allq qX3_load 35 (.inl (a_ic 0 36)) (s_iconst (n := 0) (v := 0) rfl (by decide +kernel)) <|
  allq qX3_load 36 (.inl (a_al 0 37)) (s_aload_n (q := 0) (i := 0) rfl (by decide +kernel)) <|
  allq qX3_load 37 (.inl (a_get 3 0 40)) (gX3 (f0 := 0) (by decide) kw_301 (by decide +kernel)) <|
  allq qX3_load 40 (.inl (a_ic 0 41)) (s_iconst (n := 0) (v := 0) rfl (by decide +kernel)) <|
  allq qX3_load 41 (.inl (a_al 1 42)) (s_aload_n (q := 1) (i := 1) rfl (by decide +kernel)) <|
  allq qX3_load 42 (.inl (a_get 7 1 45)) (gX7 (f0 := 1) (by decide) kw_141 (by decide +kernel)) <|
  allq qX3_load 45 (.inl (a_copy 0 48)) (cp0 kw_766 kw_502 kw_501 kw_117 (by decide +kernel)) <|
  allq qX3_load 48 (.inl (a_al 2 49)) (s_aload_n (q := 2) (i := 2) rfl (by decide +kernel)) <|
  allq qX3_load 49 (.inl (a_get 7 0 52)) (gX7 (f0 := 0) (by decide) kw_138 (by decide +kernel)) <|
  allq qX3_load 52 (.inl (a_ic 0 53)) (s_iconst (n := 0) (v := 0) rfl (by decide +kernel)) <|
  allq qX3_load 53 (.inl (a_al 0 54)) (s_aload_n (q := 0) (i := 0) rfl (by decide +kernel)) <|
  allq qX3_load 54 (.inl (a_get 3 0 57)) (gX3 (f0 := 0) (by decide) kw_301 (by decide +kernel)) <|
  allq qX3_load 57 (.inl (a_al 1 58)) (s_aload_n (q := 1) (i := 1) rfl (by decide +kernel)) <|
  allq qX3_load 58 (.inl (a_get 7 1 61)) (gX7 (f0 := 1) (by decide) kw_141 (by decide +kernel)) <|
  allq qX3_load 61 (.inl (a_al 2 62)) (s_aload_n (q := 2) (i := 2) rfl (by decide +kernel)) <|
  allq qX3_load 62 (.inl (a_get 7 1 65)) (gX7 (f0 := 1) (by decide) kw_141 (by decide +kernel)) <|
  allq qX3_load 65 (.inl (a_copy 0 68)) (cp0 kw_766 kw_502 kw_501 kw_117 (by decide +kernel)) <|
  allq qX3_load 68 (.inl (a_al 0 69)) (s_aload_n (q := 0) (i := 0) rfl (by decide +kernel)) <|
  allq qX3_load 69 (.inl (a_get 3 3 72)) (gX3 (f0 := 3) (by decide) kw_304 (by decide +kernel)) <|
  allq qX3_load 72 (.inl (a_ic (-1) 73)) (s_iconst (n := (-1)) (v := (-1)) rfl (by decide +kernel)) <|
  allq qX3_load 73 (.inr (.inl (223, 2, 0))) (okS (y := yJ7_fill_53178) kw_496 kw_116 rfl (by decide +kernel) kw_495 (Or.inl kw_767)) <|
  alln
set_option maxRecDepth 20000 in
theorem kX3_load_1 : ∀ q ∈ tX3_load_1, qX3_load q :=
  allq qX3_load 76 (.inl (a_ic 0 77)) (s_iconst (n := 0) (v := 0) rfl (by decide +kernel)) <|
  allq qX3_load 77 (.inl (a_is 3 78)) (s_istore_n (q := 3) (i := 3) rfl (by decide +kernel) (by decide)) <|
  allq qX3_load 78 (.inl (a_il 3 79)) (s_iload_n (q := 3) (i := 3) rfl (by decide +kernel)) <|
  allq qX3_load 79 (.inl (a_al 0 80)) (s_aload_n (q := 0) (i := 0) rfl (by decide +kernel)) <|
  allq qX3_load 80 (.inl (a_get 3 1 83)) (gX3 (f0 := 1) (by decide) kw_302 (by decide +kernel)) <|
  allq qX3_load 83 (.inl (o_icmp_ge 187 86)) (s_icmp_ge (off := 104) (by decide +kernel) (by decide)) <|
  allq qX3_load 86 (.inl (a_il 3 87)) (s_iload_n (q := 3) (i := 3) rfl (by decide +kernel)) <|
  allq qX3_load 87 (.inl (a_ic 2 88)) (s_iconst (n := 2) (v := 2) rfl (by decide +kernel)) <|
  allq qX3_load 88 (.inl (o_iadd 89)) (s_iadd (by decide +kernel)) <|
  allq qX3_load 89 (.inl (a_al 0 90)) (s_aload_n (q := 0) (i := 0) rfl (by decide +kernel)) <|
  allq qX3_load 90 (.inl (a_get 3 1 93)) (gX3 (f0 := 1) (by decide) kw_302 (by decide +kernel)) <|
  allq qX3_load 93 (.inl (o_icmp_ge 174 96)) (s_icmp_ge (off := 81) (by decide +kernel) (by decide)) <|
  allq qX3_load 96 (.inl (a_al 0 97)) (s_aload_n (q := 0) (i := 0) rfl (by decide +kernel)) <|
  allq qX3_load 97 (.inl (a_get 3 0 100)) (gX3 (f0 := 0) (by decide) kw_301 (by decide +kernel)) <|
  allq qX3_load 100 (.inl (a_il 3 101)) (s_iload_n (q := 3) (i := 3) rfl (by decide +kernel)) <|
  allq qX3_load 101 (.inl (a_bald 102)) (s_bald (by decide +kernel)) <|
  allq qX3_load 102 (.inl (a_ic 255 105)) (s_sipush (n := 255) (v := 255) rfl (by decide +kernel)) <|
  allq qX3_load 105 (.inl (o_iand 106)) (s_iand (by decide +kernel)) <|
  allq qX3_load 106 (.inl (a_al 0 107)) (s_aload_n (q := 0) (i := 0) rfl (by decide +kernel)) <|
  allq qX3_load 107 (.inl (a_get 3 0 110)) (gX3 (f0 := 0) (by decide) kw_301 (by decide +kernel)) <|
  allq qX3_load 110 (.inl (a_il 3 111)) (s_iload_n (q := 3) (i := 3) rfl (by decide +kernel)) <|
  allq qX3_load 111 (.inl (a_ic 1 112)) (s_iconst (n := 1) (v := 1) rfl (by decide +kernel)) <|
  allq qX3_load 112 (.inl (o_iadd 113)) (s_iadd (by decide +kernel)) <|
  allq qX3_load 113 (.inl (a_bald 114)) (s_bald (by decide +kernel)) <|
  allq qX3_load 114 (.inl (a_ic 255 117)) (s_sipush (n := 255) (v := 255) rfl (by decide +kernel)) <|
  allq qX3_load 117 (.inl (o_iand 118)) (s_iand (by decide +kernel)) <|
  allq qX3_load 118 (.inl (a_ic 8 120)) (s_bipush (n := 8) (v := 8) rfl (by decide +kernel)) <|
  allq qX3_load 120 (.inl (o_ishl 121)) (s_ishl (by decide +kernel)) <|
  allq qX3_load 121 (.inl (o_ior 122)) (s_ior (by decide +kernel)) <|
  allq qX3_load 122 (.inl (a_al 0 123)) (s_aload_n (q := 0) (i := 0) rfl (by decide +kernel)) <|
  allq qX3_load 123 (.inl (a_get 3 0 126)) (gX3 (f0 := 0) (by decide) kw_301 (by decide +kernel)) <|
  allq qX3_load 126 (.inl (a_il 3 127)) (s_iload_n (q := 3) (i := 3) rfl (by decide +kernel)) <|
  allq qX3_load 127 (.inl (a_ic 2 128)) (s_iconst (n := 2) (v := 2) rfl (by decide +kernel)) <|
  allq qX3_load 128 (.inl (o_iadd 129)) (s_iadd (by decide +kernel)) <|
  allq qX3_load 129 (.inl (a_bald 130)) (s_bald (by decide +kernel)) <|
  allq qX3_load 130 (.inl (a_ic 255 133)) (s_sipush (n := 255) (v := 255) rfl (by decide +kernel)) <|
  allq qX3_load 133 (.inl (o_iand 134)) (s_iand (by decide +kernel)) <|
  allq qX3_load 134 (.inl (a_ic 16 136)) (s_bipush (n := 16) (v := 16) rfl (by decide +kernel)) <|
  allq qX3_load 136 (.inl (o_ishl 137)) (s_ishl (by decide +kernel)) <|
  allq qX3_load 137 (.inl (o_ior 138)) (s_ior (by decide +kernel)) <|
  alln
set_option maxRecDepth 20000 in
theorem kX3_load_2 : ∀ q ∈ tX3_load_2, qX3_load q :=
  allq qX3_load 138 (.inl (a_is 4 140)) (s_istore (i := 4) (by decide +kernel) (by decide)) <|
  allq qX3_load 140 (.inl (a_il 4 142)) (s_iload (i := 4) (by decide +kernel)) <|
  allq qX3_load 142 (.inl (a_ic (-1640531535) 144)) (s_ldc kw_768 (by decide +kernel)) <|
  allq qX3_load 144 (.inl (o_imul 145)) (s_imul (by decide +kernel)) <|
  allq qX3_load 145 (.inl (a_ic 20 147)) (s_bipush (n := 20) (v := 20) rfl (by decide +kernel)) <|
  allq qX3_load 147 (.inl (o_iushr 148)) (s_iushr (by decide +kernel)) <|
  allq qX3_load 148 (.inl (a_is 5 150)) (s_istore (i := 5) (by decide +kernel) (by decide)) <|
  allq qX3_load 150 (.inl (a_al 0 151)) (s_aload_n (q := 0) (i := 0) rfl (by decide +kernel)) <|
  allq qX3_load 151 (.inl (a_get 3 2 154)) (gX3 (f0 := 2) (by decide) kw_303 (by decide +kernel)) <|
  allq qX3_load 154 (.inl (a_il 3 155)) (s_iload_n (q := 3) (i := 3) rfl (by decide +kernel)) <|
  allq qX3_load 155 (.inl (a_al 0 156)) (s_aload_n (q := 0) (i := 0) rfl (by decide +kernel)) <|
  allq qX3_load 156 (.inl (a_get 3 3 159)) (gX3 (f0 := 3) (by decide) kw_304 (by decide +kernel)) <|
  allq qX3_load 159 (.inl (a_il 5 161)) (s_iload (i := 5) (by decide +kernel)) <|
  allq qX3_load 161 (.inl (a_iald 162)) (s_iald (by decide +kernel)) <|
  allq qX3_load 162 (.inl (a_iast 163)) (s_iast (by decide +kernel)) <|
  allq qX3_load 163 (.inl (a_al 0 164)) (s_aload_n (q := 0) (i := 0) rfl (by decide +kernel)) <|
  allq qX3_load 164 (.inl (a_get 3 3 167)) (gX3 (f0 := 3) (by decide) kw_304 (by decide +kernel)) <|
  allq qX3_load 167 (.inl (a_il 5 169)) (s_iload (i := 5) (by decide +kernel)) <|
  allq qX3_load 169 (.inl (a_il 3 170)) (s_iload_n (q := 3) (i := 3) rfl (by decide +kernel)) <|
  allq qX3_load 170 (.inl (a_iast 171)) (s_iast (by decide +kernel)) <|
  allq qX3_load 171 (.inl (a_go 181)) (s_goto (off := 10) (by decide +kernel) (by decide)) <|
  allq qX3_load 174 (.inl (a_al 0 175)) (s_aload_n (q := 0) (i := 0) rfl (by decide +kernel)) <|
  allq qX3_load 175 (.inl (a_get 3 2 178)) (gX3 (f0 := 2) (by decide) kw_303 (by decide +kernel)) <|
  allq qX3_load 178 (.inl (a_il 3 179)) (s_iload_n (q := 3) (i := 3) rfl (by decide +kernel)) <|
  allq qX3_load 179 (.inl (a_ic (-1) 180)) (s_iconst (n := (-1)) (v := (-1)) rfl (by decide +kernel)) <|
  allq qX3_load 180 (.inl (a_iast 181)) (s_iast (by decide +kernel)) <|
  allq qX3_load 181 (.inl (a_inc 3 1 184)) (s_iinc (i := 3) (n := 1) (n2 := 1) rfl (by decide +kernel) (by decide)) <|
  allq qX3_load 184 (.inl (a_go 78)) (s_goto (off := (-106)) (by decide +kernel) (by decide)) <|
  allq qX3_load 187 (.inr (.inr 0)) (Or.inl ⟨rfl, rfl, by decide +kernel⟩) <|
  alln
theorem kX3_load : ∀ q ∈ tX3_load, qX3_load q := alla kX3_load_0 (alla kX3_load_1 kX3_load_2)
abbrev qX3_obey : Nat × aI → Prop := OkQ RX3 "obey" cX3_obey 4 (none)
set_option maxRecDepth 20000 in
theorem kX3_obey_0 : ∀ q ∈ tX3_obey_0, qX3_obey q :=
  allq qX3_obey 0 (.inl (a_al 0 1)) (s_aload_n (q := 0) (i := 0) rfl (by decide +kernel)) <|
  allq qX3_obey 1 (.inl (a_il 1 2)) (s_iload_n (q := 1) (i := 1) rfl (by decide +kernel)) <|
  allq qX3_obey 2 (.inl (a_put 3 4 .int 5)) (pX3 (f0 := 4) (by decide) rfl rfl tOk kw_305 (by decide +kernel)) <|
  allq qX3_obey 5 (.inl (a_al 0 6)) (s_aload_n (q := 0) (i := 0) rfl (by decide +kernel)) <|
  allq qX3_obey 6 (.inl (a_il 2 7)) (s_iload_n (q := 2) (i := 2) rfl (by decide +kernel)) <|
  allq qX3_obey 7 (.inl (a_put 3 5 .int 10)) (pX3 (f0 := 5) (by decide) rfl rfl tOk kw_306 (by decide +kernel)) <|
  allq qX3_obey 10 (.inl (a_al 0 11)) (s_aload_n (q := 0) (i := 0) rfl (by decide +kernel)) <|
  allq qX3_obey 11 (.inl (a_il 3 12)) (s_iload_n (q := 3) (i := 3) rfl (by decide +kernel)) <|
  allq qX3_obey 12 (.inl (a_put 3 6 .int 15)) (pX3 (f0 := 6) (by decide) rfl rfl tOk kw_307 (by decide +kernel)) <|
  allq qX3_obey 15 (.inr (.inr 0)) (Or.inl ⟨rfl, rfl, by decide +kernel⟩) <|
  alln
theorem kX3_obey : ∀ q ∈ tX3_obey, qX3_obey q := kX3_obey_0
abbrev qX3_endAt : Nat × aI → Prop := OkQ RX3 "endAt" cX3_endAt 2 (none)
set_option maxRecDepth 20000 in
theorem kX3_endAt_0 : ∀ q ∈ tX3_endAt_0, qX3_endAt q :=
  allq qX3_endAt 0 (.inl (a_al 0 1)) (s_aload_n (q := 0) (i := 0) rfl (by decide +kernel)) <|
  allq qX3_endAt 1 (.inl (a_il 1 2)) (s_iload_n (q := 1) (i := 1) rfl (by decide +kernel)) <|
  allq qX3_endAt 2 (.inl (a_al 0 3)) (s_aload_n (q := 0) (i := 0) rfl (by decide +kernel)) <|
  allq qX3_endAt 3 (.inl (a_get 3 1 6)) (gX3 (f0 := 1) (by decide) kw_302 (by decide +kernel)) <|
  allq qX3_endAt 6 (.inl (o_mmin 9)) (s_mmin kw_809 kw_498 kw_106 kw_499 (by decide +kernel)) <|
  allq qX3_endAt 9 (.inl (a_put 3 7 .int 12)) (pX3 (f0 := 7) (by decide) rfl rfl tOk kw_308 (by decide +kernel)) <|
  allq qX3_endAt 12 (.inl (a_al 0 13)) (s_aload_n (q := 0) (i := 0) rfl (by decide +kernel)) <|
  allq qX3_endAt 13 (.inl (a_ic (-1) 14)) (s_iconst (n := (-1)) (v := (-1)) rfl (by decide +kernel)) <|
  allq qX3_endAt 14 (.inl (a_put 3 10 .int 17)) (pX3 (f0 := 10) (by decide) rfl rfl tOk kw_313 (by decide +kernel)) <|
  allq qX3_endAt 17 (.inr (.inr 0)) (Or.inl ⟨rfl, rfl, by decide +kernel⟩) <|
  alln
theorem kX3_endAt : ∀ q ∈ tX3_endAt, qX3_endAt q := kX3_endAt_0
abbrev qX3_at : Nat × aI → Prop := OkQ RX3 "at" cX3_at 2 (some .int)
set_option maxRecDepth 20000 in
theorem kX3_at_0 : ∀ q ∈ tX3_at_0, qX3_at q :=
  allq qX3_at 0 (.inl (a_il 1 1)) (s_iload_n (q := 1) (i := 1) rfl (by decide +kernel)) <|
  allq qX3_at 1 (.inl (o_if_lt 25 4)) (s_if_lt (off := 24) (by decide +kernel) (by decide)) <|
  allq qX3_at 4 (.inl (a_il 1 5)) (s_iload_n (q := 1) (i := 1) rfl (by decide +kernel)) <|
  allq qX3_at 5 (.inl (a_al 0 6)) (s_aload_n (q := 0) (i := 0) rfl (by decide +kernel)) <|
  allq qX3_at 6 (.inl (a_get 3 1 9)) (gX3 (f0 := 1) (by decide) kw_302 (by decide +kernel)) <|
  allq qX3_at 9 (.inl (o_icmp_ge 25 12)) (s_icmp_ge (off := 16) (by decide +kernel) (by decide)) <|
  allq qX3_at 12 (.inl (a_al 0 13)) (s_aload_n (q := 0) (i := 0) rfl (by decide +kernel)) <|
  allq qX3_at 13 (.inl (a_get 3 0 16)) (gX3 (f0 := 0) (by decide) kw_301 (by decide +kernel)) <|
  allq qX3_at 16 (.inl (a_il 1 17)) (s_iload_n (q := 1) (i := 1) rfl (by decide +kernel)) <|
  allq qX3_at 17 (.inl (a_bald 18)) (s_bald (by decide +kernel)) <|
  allq qX3_at 18 (.inl (a_ic 255 21)) (s_sipush (n := 255) (v := 255) rfl (by decide +kernel)) <|
  allq qX3_at 21 (.inl (o_iand 22)) (s_iand (by decide +kernel)) <|
  allq qX3_at 22 (.inl (a_go 26)) (s_goto (off := 4) (by decide +kernel) (by decide)) <|
  allq qX3_at 25 (.inl (a_ic 0 26)) (s_iconst (n := 0) (v := 0) rfl (by decide +kernel)) <|
  allq qX3_at 26 (.inr (.inr 1)) (Or.inr (Or.inl ⟨rfl, rfl, by decide +kernel⟩)) <|
  alln
theorem kX3_at : ∀ q ∈ tX3_at, qX3_at q := kX3_at_0
abbrev qX3_same : Nat × aI → Prop := OkQ RX3 "same" cX3_same 4 (some .boolean)
set_option maxRecDepth 20000 in
theorem kX3_same_0 : ∀ q ∈ tX3_same_0, qX3_same q :=
  allq qX3_same 0 (.inl (a_il 1 1)) (s_iload_n (q := 1) (i := 1) rfl (by decide +kernel)) <|
  allq qX3_same 1 (.inl (a_ic 1 2)) (s_iconst (n := 1) (v := 1) rfl (by decide +kernel)) <|
  allq qX3_same 2 (.inl (o_iadd 3)) (s_iadd (by decide +kernel)) <|
  allq qX3_same 3 (.inl (a_is 3 4)) (s_istore_n (q := 3) (i := 3) rfl (by decide +kernel) (by decide)) <|
  allq qX3_same 4 (.inl (a_il 3 5)) (s_iload_n (q := 3) (i := 3) rfl (by decide +kernel)) <|
  allq qX3_same 5 (.inl (a_il 2 6)) (s_iload_n (q := 2) (i := 2) rfl (by decide +kernel)) <|
  allq qX3_same 6 (.inl (o_icmp_ge 30 9)) (s_icmp_ge (off := 24) (by decide +kernel) (by decide)) <|
  allq qX3_same 9 (.inl (a_al 0 10)) (s_aload_n (q := 0) (i := 0) rfl (by decide +kernel)) <|
  allq qX3_same 10 (.inl (a_il 3 11)) (s_iload_n (q := 3) (i := 3) rfl (by decide +kernel)) <|
  allq qX3_same 11 (.inr (.inl (36, 2, 4))) (okV (y := yX3_at) kw_785 kw_112 rfl rfl (by decide +kernel) kw_783 kw_784 kw_782) <|
  allq qX3_same 14 (.inl (a_al 0 15)) (s_aload_n (q := 0) (i := 0) rfl (by decide +kernel)) <|
  allq qX3_same 15 (.inl (a_il 1 16)) (s_iload_n (q := 1) (i := 1) rfl (by decide +kernel)) <|
  allq qX3_same 16 (.inr (.inl (36, 2, 4))) (okV (y := yX3_at) kw_785 kw_112 rfl rfl (by decide +kernel) kw_783 kw_784 kw_782) <|
  allq qX3_same 19 (.inl (o_icmp_eq 24 22)) (s_icmp_eq (off := 5) (by decide +kernel) (by decide)) <|
  allq qX3_same 22 (.inl (a_ic 0 23)) (s_iconst (n := 0) (v := 0) rfl (by decide +kernel)) <|
  allq qX3_same 23 (.inr (.inr 3)) (Or.inr (Or.inr (Or.inr ⟨rfl, rfl, by decide +kernel⟩))) <|
  allq qX3_same 24 (.inl (a_inc 3 1 27)) (s_iinc (i := 3) (n := 1) (n2 := 1) rfl (by decide +kernel) (by decide)) <|
  allq qX3_same 27 (.inl (a_go 4)) (s_goto (off := (-23)) (by decide +kernel) (by decide)) <|
  allq qX3_same 30 (.inl (a_il 1 31)) (s_iload_n (q := 1) (i := 1) rfl (by decide +kernel)) <|
  allq qX3_same 31 (.inl (a_il 2 32)) (s_iload_n (q := 2) (i := 2) rfl (by decide +kernel)) <|
  allq qX3_same 32 (.inl (o_icmp_ge 39 35)) (s_icmp_ge (off := 7) (by decide +kernel) (by decide)) <|
  allq qX3_same 35 (.inl (a_ic 1 36)) (s_iconst (n := 1) (v := 1) rfl (by decide +kernel)) <|
  allq qX3_same 36 (.inl (a_go 40)) (s_goto (off := 4) (by decide +kernel) (by decide)) <|
  allq qX3_same 39 (.inl (a_ic 0 40)) (s_iconst (n := 0) (v := 0) rfl (by decide +kernel)) <|
  allq qX3_same 40 (.inr (.inr 3)) (Or.inr (Or.inr (Or.inr ⟨rfl, rfl, by decide +kernel⟩))) <|
  alln
theorem kX3_same : ∀ q ∈ tX3_same, qX3_same q := kX3_same_0
abbrev qX3_putTo : Nat × aI → Prop := OkQ RX3 "putTo" cX3_putTo 4 (none)
set_option maxRecDepth 20000 in
theorem kX3_putTo_0 : ∀ q ∈ tX3_putTo_0, qX3_putTo q :=
  allq qX3_putTo 0 (.inl (a_al 1 1)) (s_aload_n (q := 1) (i := 1) rfl (by decide +kernel)) <|
  allq qX3_putTo 1 (.inl (a_al 0 2)) (s_aload_n (q := 0) (i := 0) rfl (by decide +kernel)) <|
  allq qX3_putTo 2 (.inl (a_get 3 0 5)) (gX3 (f0 := 0) (by decide) kw_301 (by decide +kernel)) <|
  allq qX3_putTo 5 (.inl (a_il 2 6)) (s_iload_n (q := 2) (i := 2) rfl (by decide +kernel)) <|
  allq qX3_putTo 6 (.inl (a_il 3 7)) (s_iload_n (q := 3) (i := 3) rfl (by decide +kernel)) <|
  allq qX3_putTo 7 (.inl (a_al 0 8)) (s_aload_n (q := 0) (i := 0) rfl (by decide +kernel)) <|
  allq qX3_putTo 8 (.inl (a_get 3 1 11)) (gX3 (f0 := 1) (by decide) kw_302 (by decide +kernel)) <|
  allq qX3_putTo 11 (.inl (o_mmin 14)) (s_mmin kw_809 kw_498 kw_106 kw_499 (by decide +kernel)) <|
  allq qX3_putTo 14 (.inr (.inl (89, 4, 8))) (okV (y := yX7_putCells) kw_638 kw_105 rfl rfl (by decide +kernel) kw_636 kw_637 kw_1121) <|
  allq qX3_putTo 17 (.inr (.inr 0)) (Or.inl ⟨rfl, rfl, by decide +kernel⟩) <|
  alln
theorem kX3_putTo : ∀ q ∈ tX3_putTo, qX3_putTo q := kX3_putTo_0
abbrev qX3_find : Nat × aI → Prop := OkQ RX3 "find" cX3_find 2 (none)
set_option maxRecDepth 20000 in
theorem kX3_find_0 : ∀ q ∈ tX3_find_0, qX3_find q :=
  allq qX3_find 0 (.inl (a_il 1 1)) (s_iload_n (q := 1) (i := 1) rfl (by decide +kernel)) <|
  allq qX3_find 1 (.inl (a_al 0 2)) (s_aload_n (q := 0) (i := 0) rfl (by decide +kernel)) <|
  allq qX3_find 2 (.inl (a_get 3 10 5)) (gX3 (f0 := 10) (by decide) kw_313 (by decide +kernel)) <|
  allq qX3_find 5 (.inl (o_icmp_ne 27 8)) (s_icmp_ne (off := 22) (by decide +kernel) (by decide)) <|
  allq qX3_find 8 (.inl (a_al 0 9)) (s_aload_n (q := 0) (i := 0) rfl (by decide +kernel)) <|
  allq qX3_find 9 (.inl (a_al 0 10)) (s_aload_n (q := 0) (i := 0) rfl (by decide +kernel)) <|
  allq qX3_find 10 (.inl (a_get 3 11 13)) (gX3 (f0 := 11) (by decide) kw_314 (by decide +kernel)) <|
  allq qX3_find 13 (.inl (a_put 3 8 .int 16)) (pX3 (f0 := 8) (by decide) rfl rfl tOk kw_310 (by decide +kernel)) <|
  allq qX3_find 16 (.inl (a_al 0 17)) (s_aload_n (q := 0) (i := 0) rfl (by decide +kernel)) <|
  allq qX3_find 17 (.inl (a_al 0 18)) (s_aload_n (q := 0) (i := 0) rfl (by decide +kernel)) <|
  allq qX3_find 18 (.inl (a_get 3 12 21)) (gX3 (f0 := 12) (by decide) kw_315 (by decide +kernel)) <|
  allq qX3_find 21 (.inl (a_put 3 9 .int 24)) (pX3 (f0 := 9) (by decide) rfl rfl tOk kw_312 (by decide +kernel)) <|
  allq qX3_find 24 (.inl (a_go 32)) (s_goto (off := 8) (by decide +kernel) (by decide)) <|
  allq qX3_find 27 (.inl (a_al 0 28)) (s_aload_n (q := 0) (i := 0) rfl (by decide +kernel)) <|
  allq qX3_find 28 (.inl (a_il 1 29)) (s_iload_n (q := 1) (i := 1) rfl (by decide +kernel)) <|
  allq qX3_find 29 (.inr (.inl (41, 2, 4))) (okV (y := yX3_search) kw_817 kw_112 rfl rfl (by decide +kernel) kw_816 kw_6 kw_814) <|
  allq qX3_find 32 (.inl (a_al 0 33)) (s_aload_n (q := 0) (i := 0) rfl (by decide +kernel)) <|
  allq qX3_find 33 (.inl (a_get 3 4 36)) (gX3 (f0 := 4) (by decide) kw_305 (by decide +kernel)) <|
  allq qX3_find 36 (.inl (a_ic 3 37)) (s_iconst (n := 3) (v := 3) rfl (by decide +kernel)) <|
  allq qX3_find 37 (.inl (o_icmp_ne 52 40)) (s_icmp_ne (off := 15) (by decide +kernel) (by decide)) <|
  allq qX3_find 40 (.inl (a_al 0 41)) (s_aload_n (q := 0) (i := 0) rfl (by decide +kernel)) <|
  allq qX3_find 41 (.inl (a_get 3 8 44)) (gX3 (f0 := 8) (by decide) kw_310 (by decide +kernel)) <|
  allq qX3_find 44 (.inl (o_if_le 52 47)) (s_if_le (off := 8) (by decide +kernel) (by decide)) <|
  allq qX3_find 47 (.inl (a_al 0 48)) (s_aload_n (q := 0) (i := 0) rfl (by decide +kernel)) <|
  allq qX3_find 48 (.inl (a_il 1 49)) (s_iload_n (q := 1) (i := 1) rfl (by decide +kernel)) <|
  allq qX3_find 49 (.inr (.inl (40, 2, 4))) (okV (y := yX3_lookAhead) kw_834 kw_112 rfl rfl (by decide +kernel) kw_833 kw_10 kw_831) <|
  allq qX3_find 52 (.inr (.inr 0)) (Or.inl ⟨rfl, rfl, by decide +kernel⟩) <|
  alln
theorem kX3_find : ∀ q ∈ tX3_find, qX3_find q := kX3_find_0
abbrev qX3_lookAhead : Nat × aI → Prop := OkQ RX3 "lookAhead" cX3_lookAhead 4 (none)
set_option maxRecDepth 20000 in
theorem kX3_lookAhead_0 : ∀ q ∈ tX3_lookAhead_0, qX3_lookAhead q :=
  allq qX3_lookAhead 0 (.inl (a_al 0 1)) (s_aload_n (q := 0) (i := 0) rfl (by decide +kernel)) <|
  allq qX3_lookAhead 1 (.inl (a_get 3 8 4)) (gX3 (f0 := 8) (by decide) kw_310 (by decide +kernel)) <|
  allq qX3_lookAhead 4 (.inl (a_is 2 5)) (s_istore_n (q := 2) (i := 2) rfl (by decide +kernel) (by decide)) <|
  allq qX3_lookAhead 5 (.inl (a_al 0 6)) (s_aload_n (q := 0) (i := 0) rfl (by decide +kernel)) <|
  allq qX3_lookAhead 6 (.inl (a_get 3 9 9)) (gX3 (f0 := 9) (by decide) kw_312 (by decide +kernel)) <|
  allq qX3_lookAhead 9 (.inl (a_is 3 10)) (s_istore_n (q := 3) (i := 3) rfl (by decide +kernel) (by decide)) <|
  allq qX3_lookAhead 10 (.inl (a_al 0 11)) (s_aload_n (q := 0) (i := 0) rfl (by decide +kernel)) <|
  allq qX3_lookAhead 11 (.inl (a_il 1 12)) (s_iload_n (q := 1) (i := 1) rfl (by decide +kernel)) <|
  allq qX3_lookAhead 12 (.inl (a_ic 1 13)) (s_iconst (n := 1) (v := 1) rfl (by decide +kernel)) <|
  allq qX3_lookAhead 13 (.inl (o_iadd 14)) (s_iadd (by decide +kernel)) <|
  allq qX3_lookAhead 14 (.inr (.inl (41, 2, 4))) (okV (y := yX3_search) kw_817 kw_112 rfl rfl (by decide +kernel) kw_816 kw_6 kw_814) <|
  allq qX3_lookAhead 17 (.inl (a_al 0 18)) (s_aload_n (q := 0) (i := 0) rfl (by decide +kernel)) <|
  allq qX3_lookAhead 18 (.inl (a_il 1 19)) (s_iload_n (q := 1) (i := 1) rfl (by decide +kernel)) <|
  allq qX3_lookAhead 19 (.inl (a_ic 1 20)) (s_iconst (n := 1) (v := 1) rfl (by decide +kernel)) <|
  allq qX3_lookAhead 20 (.inl (o_iadd 21)) (s_iadd (by decide +kernel)) <|
  allq qX3_lookAhead 21 (.inl (a_put 3 10 .int 24)) (pX3 (f0 := 10) (by decide) rfl rfl tOk kw_313 (by decide +kernel)) <|
  allq qX3_lookAhead 24 (.inl (a_al 0 25)) (s_aload_n (q := 0) (i := 0) rfl (by decide +kernel)) <|
  allq qX3_lookAhead 25 (.inl (a_al 0 26)) (s_aload_n (q := 0) (i := 0) rfl (by decide +kernel)) <|
  allq qX3_lookAhead 26 (.inl (a_get 3 8 29)) (gX3 (f0 := 8) (by decide) kw_310 (by decide +kernel)) <|
  allq qX3_lookAhead 29 (.inl (a_put 3 11 .int 32)) (pX3 (f0 := 11) (by decide) rfl rfl tOk kw_314 (by decide +kernel)) <|
  allq qX3_lookAhead 32 (.inl (a_al 0 33)) (s_aload_n (q := 0) (i := 0) rfl (by decide +kernel)) <|
  allq qX3_lookAhead 33 (.inl (a_al 0 34)) (s_aload_n (q := 0) (i := 0) rfl (by decide +kernel)) <|
  allq qX3_lookAhead 34 (.inl (a_get 3 9 37)) (gX3 (f0 := 9) (by decide) kw_312 (by decide +kernel)) <|
  allq qX3_lookAhead 37 (.inl (a_put 3 12 .int 40)) (pX3 (f0 := 12) (by decide) rfl rfl tOk kw_315 (by decide +kernel)) <|
  allq qX3_lookAhead 40 (.inl (a_al 0 41)) (s_aload_n (q := 0) (i := 0) rfl (by decide +kernel)) <|
  allq qX3_lookAhead 41 (.inl (a_al 0 42)) (s_aload_n (q := 0) (i := 0) rfl (by decide +kernel)) <|
  allq qX3_lookAhead 42 (.inl (a_get 3 11 45)) (gX3 (f0 := 11) (by decide) kw_314 (by decide +kernel)) <|
  allq qX3_lookAhead 45 (.inl (a_il 2 46)) (s_iload_n (q := 2) (i := 2) rfl (by decide +kernel)) <|
  allq qX3_lookAhead 46 (.inl (o_icmp_le 53 49)) (s_icmp_le (off := 7) (by decide +kernel) (by decide)) <|
  allq qX3_lookAhead 49 (.inl (a_ic 0 50)) (s_iconst (n := 0) (v := 0) rfl (by decide +kernel)) <|
  allq qX3_lookAhead 50 (.inl (a_go 54)) (s_goto (off := 4) (by decide +kernel) (by decide)) <|
  allq qX3_lookAhead 53 (.inl (a_il 2 54)) (s_iload_n (q := 2) (i := 2) rfl (by decide +kernel)) <|
  allq qX3_lookAhead 54 (.inl (a_put 3 8 .int 57)) (pX3 (f0 := 8) (by decide) rfl rfl tOk kw_310 (by decide +kernel)) <|
  allq qX3_lookAhead 57 (.inl (a_al 0 58)) (s_aload_n (q := 0) (i := 0) rfl (by decide +kernel)) <|
  allq qX3_lookAhead 58 (.inl (a_il 3 59)) (s_iload_n (q := 3) (i := 3) rfl (by decide +kernel)) <|
  allq qX3_lookAhead 59 (.inl (a_put 3 9 .int 62)) (pX3 (f0 := 9) (by decide) rfl rfl tOk kw_312 (by decide +kernel)) <|
  allq qX3_lookAhead 62 (.inr (.inr 0)) (Or.inl ⟨rfl, rfl, by decide +kernel⟩) <|
  alln
theorem kX3_lookAhead : ∀ q ∈ tX3_lookAhead, qX3_lookAhead q := kX3_lookAhead_0
abbrev qX3_search : Nat × aI → Prop := OkQ RX3 "search" cX3_search 6 (none)
set_option maxRecDepth 20000 in
theorem kX3_search_0 : ∀ q ∈ tX3_search_0, qX3_search q :=
  allq qX3_search 0 (.inl (a_al 0 1)) (s_aload_n (q := 0) (i := 0) rfl (by decide +kernel)) <|
  allq qX3_search 1 (.inl (a_ic 0 2)) (s_iconst (n := 0) (v := 0) rfl (by decide +kernel)) <|
  allq qX3_search 2 (.inl (a_put 3 8 .int 5)) (pX3 (f0 := 8) (by decide) rfl rfl tOk kw_310 (by decide +kernel)) <|
  allq qX3_search 5 (.inl (a_al 0 6)) (s_aload_n (q := 0) (i := 0) rfl (by decide +kernel)) <|
  allq qX3_search 6 (.inl (a_ic 0 7)) (s_iconst (n := 0) (v := 0) rfl (by decide +kernel)) <|
  allq qX3_search 7 (.inl (a_put 3 9 .int 10)) (pX3 (f0 := 9) (by decide) rfl rfl tOk kw_312 (by decide +kernel)) <|
  allq qX3_search 10 (.inl (a_il 1 11)) (s_iload_n (q := 1) (i := 1) rfl (by decide +kernel)) <|
  allq qX3_search 11 (.inl (o_if_lt 27 14)) (s_if_lt (off := 16) (by decide +kernel) (by decide)) <|
  allq qX3_search 14 (.inl (a_il 1 15)) (s_iload_n (q := 1) (i := 1) rfl (by decide +kernel)) <|
  allq qX3_search 15 (.inl (a_al 0 16)) (s_aload_n (q := 0) (i := 0) rfl (by decide +kernel)) <|
  allq qX3_search 16 (.inl (a_get 3 5 19)) (gX3 (f0 := 5) (by decide) kw_306 (by decide +kernel)) <|
  allq qX3_search 19 (.inl (o_iadd 20)) (s_iadd (by decide +kernel)) <|
  allq qX3_search 20 (.inl (a_al 0 21)) (s_aload_n (q := 0) (i := 0) rfl (by decide +kernel)) <|
  allq qX3_search 21 (.inl (a_get 3 7 24)) (gX3 (f0 := 7) (by decide) kw_308 (by decide +kernel)) <|
  allq qX3_search 24 (.inl (o_icmp_le 28 27)) (s_icmp_le (off := 4) (by decide +kernel) (by decide)) <|
  allq qX3_search 27 (.inr (.inr 0)) (Or.inl ⟨rfl, rfl, by decide +kernel⟩) <|
  allq qX3_search 28 (.inl (a_il 1 29)) (s_iload_n (q := 1) (i := 1) rfl (by decide +kernel)) <|
  allq qX3_search 29 (.inl (a_al 0 30)) (s_aload_n (q := 0) (i := 0) rfl (by decide +kernel)) <|
  allq qX3_search 30 (.inl (a_get 3 6 33)) (gX3 (f0 := 6) (by decide) kw_307 (by decide +kernel)) <|
  allq qX3_search 33 (.inl (o_isub 34)) (s_isub (by decide +kernel)) <|
  allq qX3_search 34 (.inl (a_ic 0 35)) (s_iconst (n := 0) (v := 0) rfl (by decide +kernel)) <|
  allq qX3_search 35 (.inl (o_mmax 38)) (s_mmax kw_818 kw_135 kw_106 kw_136 (by decide +kernel)) <|
  allq qX3_search 38 (.inl (a_is 2 39)) (s_istore_n (q := 2) (i := 2) rfl (by decide +kernel) (by decide)) <|
  allq qX3_search 39 (.inl (a_al 0 40)) (s_aload_n (q := 0) (i := 0) rfl (by decide +kernel)) <|
  allq qX3_search 40 (.inl (a_get 3 2 43)) (gX3 (f0 := 2) (by decide) kw_303 (by decide +kernel)) <|
  allq qX3_search 43 (.inl (a_il 1 44)) (s_iload_n (q := 1) (i := 1) rfl (by decide +kernel)) <|
  allq qX3_search 44 (.inl (a_iald 45)) (s_iald (by decide +kernel)) <|
  allq qX3_search 45 (.inl (a_is 3 46)) (s_istore_n (q := 3) (i := 3) rfl (by decide +kernel) (by decide)) <|
  allq qX3_search 46 (.inl (a_ic 0 47)) (s_iconst (n := 0) (v := 0) rfl (by decide +kernel)) <|
  allq qX3_search 47 (.inl (a_is 4 49)) (s_istore (i := 4) (by decide +kernel) (by decide)) <|
  allq qX3_search 49 (.inl (a_il 4 51)) (s_iload (i := 4) (by decide +kernel)) <|
  allq qX3_search 51 (.inl (a_ic 16000 54)) (s_sipush (n := 16000) (v := 16000) rfl (by decide +kernel)) <|
  allq qX3_search 54 (.inl (o_icmp_ge 158 57)) (s_icmp_ge (off := 104) (by decide +kernel) (by decide)) <|
  allq qX3_search 57 (.inl (a_il 3 58)) (s_iload_n (q := 3) (i := 3) rfl (by decide +kernel)) <|
  allq qX3_search 58 (.inl (a_il 2 59)) (s_iload_n (q := 2) (i := 2) rfl (by decide +kernel)) <|
  allq qX3_search 59 (.inl (o_icmp_lt 158 62)) (s_icmp_lt (off := 99) (by decide +kernel) (by decide)) <|
  allq qX3_search 62 (.inl (a_al 0 63)) (s_aload_n (q := 0) (i := 0) rfl (by decide +kernel)) <|
  allq qX3_search 63 (.inl (a_get 3 4 66)) (gX3 (f0 := 4) (by decide) kw_305 (by decide +kernel)) <|
  allq qX3_search 66 (.inl (a_ic 2 67)) (s_iconst (n := 2) (v := 2) rfl (by decide +kernel)) <|
  allq qX3_search 67 (.inl (o_icmp_lt 95 70)) (s_icmp_lt (off := 28) (by decide +kernel) (by decide)) <|
  alln
set_option maxRecDepth 20000 in
theorem kX3_search_1 : ∀ q ∈ tX3_search_1, qX3_search q :=
  allq qX3_search 70 (.inl (a_al 0 71)) (s_aload_n (q := 0) (i := 0) rfl (by decide +kernel)) <|
  allq qX3_search 71 (.inl (a_get 3 0 74)) (gX3 (f0 := 0) (by decide) kw_301 (by decide +kernel)) <|
  allq qX3_search 74 (.inl (a_il 3 75)) (s_iload_n (q := 3) (i := 3) rfl (by decide +kernel)) <|
  allq qX3_search 75 (.inl (a_al 0 76)) (s_aload_n (q := 0) (i := 0) rfl (by decide +kernel)) <|
  allq qX3_search 76 (.inl (a_get 3 8 79)) (gX3 (f0 := 8) (by decide) kw_310 (by decide +kernel)) <|
  allq qX3_search 79 (.inl (o_iadd 80)) (s_iadd (by decide +kernel)) <|
  allq qX3_search 80 (.inl (a_bald 81)) (s_bald (by decide +kernel)) <|
  allq qX3_search 81 (.inl (a_al 0 82)) (s_aload_n (q := 0) (i := 0) rfl (by decide +kernel)) <|
  allq qX3_search 82 (.inl (a_get 3 0 85)) (gX3 (f0 := 0) (by decide) kw_301 (by decide +kernel)) <|
  allq qX3_search 85 (.inl (a_il 1 86)) (s_iload_n (q := 1) (i := 1) rfl (by decide +kernel)) <|
  allq qX3_search 86 (.inl (a_al 0 87)) (s_aload_n (q := 0) (i := 0) rfl (by decide +kernel)) <|
  allq qX3_search 87 (.inl (a_get 3 8 90)) (gX3 (f0 := 8) (by decide) kw_310 (by decide +kernel)) <|
  allq qX3_search 90 (.inl (o_iadd 91)) (s_iadd (by decide +kernel)) <|
  allq qX3_search 91 (.inl (a_bald 92)) (s_bald (by decide +kernel)) <|
  allq qX3_search 92 (.inl (o_icmp_ne 145 95)) (s_icmp_ne (off := 53) (by decide +kernel) (by decide)) <|
  allq qX3_search 95 (.inl (a_al 0 96)) (s_aload_n (q := 0) (i := 0) rfl (by decide +kernel)) <|
  allq qX3_search 96 (.inl (a_il 3 97)) (s_iload_n (q := 3) (i := 3) rfl (by decide +kernel)) <|
  allq qX3_search 97 (.inl (a_il 1 98)) (s_iload_n (q := 1) (i := 1) rfl (by decide +kernel)) <|
  allq qX3_search 98 (.inr (.inl (42, 3, 4))) (okV (y := yX3_common) kw_822 kw_112 rfl rfl (by decide +kernel) kw_821 kw_7 kw_819) <|
  allq qX3_search 101 (.inl (a_is 5 103)) (s_istore (i := 5) (by decide +kernel) (by decide)) <|
  allq qX3_search 103 (.inl (a_il 5 105)) (s_iload (i := 5) (by decide +kernel)) <|
  allq qX3_search 105 (.inl (a_al 0 106)) (s_aload_n (q := 0) (i := 0) rfl (by decide +kernel)) <|
  allq qX3_search 106 (.inl (a_get 3 5 109)) (gX3 (f0 := 5) (by decide) kw_306 (by decide +kernel)) <|
  allq qX3_search 109 (.inl (o_icmp_lt 145 112)) (s_icmp_lt (off := 36) (by decide +kernel) (by decide)) <|
  allq qX3_search 112 (.inl (a_al 0 113)) (s_aload_n (q := 0) (i := 0) rfl (by decide +kernel)) <|
  allq qX3_search 113 (.inl (a_il 5 115)) (s_iload (i := 5) (by decide +kernel)) <|
  allq qX3_search 115 (.inr (.inl (43, 2, 4))) (okV (y := yX3_better) kw_826 kw_112 rfl rfl (by decide +kernel) kw_825 kw_8 kw_823) <|
  allq qX3_search 118 (.inl (o_if_eq 145 121)) (s_if_eq (off := 27) (by decide +kernel) (by decide)) <|
  allq qX3_search 121 (.inl (a_al 0 122)) (s_aload_n (q := 0) (i := 0) rfl (by decide +kernel)) <|
  allq qX3_search 122 (.inl (a_il 5 124)) (s_iload (i := 5) (by decide +kernel)) <|
  allq qX3_search 124 (.inl (a_put 3 8 .int 127)) (pX3 (f0 := 8) (by decide) rfl rfl tOk kw_310 (by decide +kernel)) <|
  allq qX3_search 127 (.inl (a_al 0 128)) (s_aload_n (q := 0) (i := 0) rfl (by decide +kernel)) <|
  allq qX3_search 128 (.inl (a_il 1 129)) (s_iload_n (q := 1) (i := 1) rfl (by decide +kernel)) <|
  allq qX3_search 129 (.inl (a_il 3 130)) (s_iload_n (q := 3) (i := 3) rfl (by decide +kernel)) <|
  allq qX3_search 130 (.inl (o_isub 131)) (s_isub (by decide +kernel)) <|
  allq qX3_search 131 (.inl (a_put 3 9 .int 134)) (pX3 (f0 := 9) (by decide) rfl rfl tOk kw_312 (by decide +kernel)) <|
  allq qX3_search 134 (.inl (a_al 0 135)) (s_aload_n (q := 0) (i := 0) rfl (by decide +kernel)) <|
  allq qX3_search 135 (.inl (a_il 5 137)) (s_iload (i := 5) (by decide +kernel)) <|
  allq qX3_search 137 (.inl (a_il 1 138)) (s_iload_n (q := 1) (i := 1) rfl (by decide +kernel)) <|
  allq qX3_search 138 (.inr (.inl (44, 3, 4))) (okV (y := yX3_enough) kw_830 kw_112 rfl rfl (by decide +kernel) kw_829 kw_9 kw_827) <|
  alln
set_option maxRecDepth 20000 in
theorem kX3_search_2 : ∀ q ∈ tX3_search_2, qX3_search q :=
  allq qX3_search 141 (.inl (o_if_eq 145 144)) (s_if_eq (off := 4) (by decide +kernel) (by decide)) <|
  allq qX3_search 144 (.inr (.inr 0)) (Or.inl ⟨rfl, rfl, by decide +kernel⟩) <|
  allq qX3_search 145 (.inl (a_al 0 146)) (s_aload_n (q := 0) (i := 0) rfl (by decide +kernel)) <|
  allq qX3_search 146 (.inl (a_get 3 2 149)) (gX3 (f0 := 2) (by decide) kw_303 (by decide +kernel)) <|
  allq qX3_search 149 (.inl (a_il 3 150)) (s_iload_n (q := 3) (i := 3) rfl (by decide +kernel)) <|
  allq qX3_search 150 (.inl (a_iald 151)) (s_iald (by decide +kernel)) <|
  allq qX3_search 151 (.inl (a_is 3 152)) (s_istore_n (q := 3) (i := 3) rfl (by decide +kernel) (by decide)) <|
  allq qX3_search 152 (.inl (a_inc 4 1 155)) (s_iinc (i := 4) (n := 1) (n2 := 1) rfl (by decide +kernel) (by decide)) <|
  allq qX3_search 155 (.inl (a_go 49)) (s_goto (off := (-106)) (by decide +kernel) (by decide)) <|
  allq qX3_search 158 (.inr (.inr 0)) (Or.inl ⟨rfl, rfl, by decide +kernel⟩) <|
  alln
theorem kX3_search : ∀ q ∈ tX3_search, qX3_search q := alla kX3_search_0 (alla kX3_search_1 kX3_search_2)
abbrev qX3_common : Nat × aI → Prop := OkQ RX3 "common" cX3_common 4 (some .int)
set_option maxRecDepth 20000 in
theorem kX3_common_0 : ∀ q ∈ tX3_common_0, qX3_common q :=
  allq qX3_common 0 (.inl (a_ic 0 1)) (s_iconst (n := 0) (v := 0) rfl (by decide +kernel)) <|
  allq qX3_common 1 (.inl (a_is 3 2)) (s_istore_n (q := 3) (i := 3) rfl (by decide +kernel) (by decide)) <|
  allq qX3_common 2 (.inl (a_il 2 3)) (s_iload_n (q := 2) (i := 2) rfl (by decide +kernel)) <|
  allq qX3_common 3 (.inl (a_il 3 4)) (s_iload_n (q := 3) (i := 3) rfl (by decide +kernel)) <|
  allq qX3_common 4 (.inl (o_iadd 5)) (s_iadd (by decide +kernel)) <|
  allq qX3_common 5 (.inl (a_al 0 6)) (s_aload_n (q := 0) (i := 0) rfl (by decide +kernel)) <|
  allq qX3_common 6 (.inl (a_get 3 7 9)) (gX3 (f0 := 7) (by decide) kw_308 (by decide +kernel)) <|
  allq qX3_common 9 (.inl (o_icmp_ge 37 12)) (s_icmp_ge (off := 28) (by decide +kernel) (by decide)) <|
  allq qX3_common 12 (.inl (a_al 0 13)) (s_aload_n (q := 0) (i := 0) rfl (by decide +kernel)) <|
  allq qX3_common 13 (.inl (a_get 3 0 16)) (gX3 (f0 := 0) (by decide) kw_301 (by decide +kernel)) <|
  allq qX3_common 16 (.inl (a_il 1 17)) (s_iload_n (q := 1) (i := 1) rfl (by decide +kernel)) <|
  allq qX3_common 17 (.inl (a_il 3 18)) (s_iload_n (q := 3) (i := 3) rfl (by decide +kernel)) <|
  allq qX3_common 18 (.inl (o_iadd 19)) (s_iadd (by decide +kernel)) <|
  allq qX3_common 19 (.inl (a_bald 20)) (s_bald (by decide +kernel)) <|
  allq qX3_common 20 (.inl (a_al 0 21)) (s_aload_n (q := 0) (i := 0) rfl (by decide +kernel)) <|
  allq qX3_common 21 (.inl (a_get 3 0 24)) (gX3 (f0 := 0) (by decide) kw_301 (by decide +kernel)) <|
  allq qX3_common 24 (.inl (a_il 2 25)) (s_iload_n (q := 2) (i := 2) rfl (by decide +kernel)) <|
  allq qX3_common 25 (.inl (a_il 3 26)) (s_iload_n (q := 3) (i := 3) rfl (by decide +kernel)) <|
  allq qX3_common 26 (.inl (o_iadd 27)) (s_iadd (by decide +kernel)) <|
  allq qX3_common 27 (.inl (a_bald 28)) (s_bald (by decide +kernel)) <|
  allq qX3_common 28 (.inl (o_icmp_ne 37 31)) (s_icmp_ne (off := 9) (by decide +kernel) (by decide)) <|
  allq qX3_common 31 (.inl (a_inc 3 1 34)) (s_iinc (i := 3) (n := 1) (n2 := 1) rfl (by decide +kernel) (by decide)) <|
  allq qX3_common 34 (.inl (a_go 2)) (s_goto (off := (-32)) (by decide +kernel) (by decide)) <|
  allq qX3_common 37 (.inl (a_il 3 38)) (s_iload_n (q := 3) (i := 3) rfl (by decide +kernel)) <|
  allq qX3_common 38 (.inr (.inr 1)) (Or.inr (Or.inl ⟨rfl, rfl, by decide +kernel⟩)) <|
  alln
theorem kX3_common : ∀ q ∈ tX3_common, qX3_common q := kX3_common_0
abbrev qX3_better : Nat × aI → Prop := OkQ RX3 "better" cX3_better 2 (some .boolean)
set_option maxRecDepth 20000 in
theorem kX3_better_0 : ∀ q ∈ tX3_better_0, qX3_better q :=
  allq qX3_better 0 (.inl (a_al 0 1)) (s_aload_n (q := 0) (i := 0) rfl (by decide +kernel)) <|
  allq qX3_better 1 (.inl (a_get 3 4 4)) (gX3 (f0 := 4) (by decide) kw_305 (by decide +kernel)) <|
  allq qX3_better 4 (.inl (a_ic 1 5)) (s_iconst (n := 1) (v := 1) rfl (by decide +kernel)) <|
  allq qX3_better 5 (.inl (o_icmp_ne 29 8)) (s_icmp_ne (off := 24) (by decide +kernel) (by decide)) <|
  allq qX3_better 8 (.inl (a_al 0 9)) (s_aload_n (q := 0) (i := 0) rfl (by decide +kernel)) <|
  allq qX3_better 9 (.inl (a_get 3 8 12)) (gX3 (f0 := 8) (by decide) kw_310 (by decide +kernel)) <|
  allq qX3_better 12 (.inl (o_if_eq 21 15)) (s_if_eq (off := 9) (by decide +kernel) (by decide)) <|
  allq qX3_better 15 (.inl (a_il 1 16)) (s_iload_n (q := 1) (i := 1) rfl (by decide +kernel)) <|
  allq qX3_better 16 (.inl (a_ic 8 18)) (s_bipush (n := 8) (v := 8) rfl (by decide +kernel)) <|
  allq qX3_better 18 (.inl (o_icmp_lt 25 21)) (s_icmp_lt (off := 7) (by decide +kernel) (by decide)) <|
  allq qX3_better 21 (.inl (a_ic 1 22)) (s_iconst (n := 1) (v := 1) rfl (by decide +kernel)) <|
  allq qX3_better 22 (.inl (a_go 42)) (s_goto (off := 20) (by decide +kernel) (by decide)) <|
  allq qX3_better 25 (.inl (a_ic 0 26)) (s_iconst (n := 0) (v := 0) rfl (by decide +kernel)) <|
  allq qX3_better 26 (.inl (a_go 42)) (s_goto (off := 16) (by decide +kernel) (by decide)) <|
  allq qX3_better 29 (.inl (a_il 1 30)) (s_iload_n (q := 1) (i := 1) rfl (by decide +kernel)) <|
  allq qX3_better 30 (.inl (a_al 0 31)) (s_aload_n (q := 0) (i := 0) rfl (by decide +kernel)) <|
  allq qX3_better 31 (.inl (a_get 3 8 34)) (gX3 (f0 := 8) (by decide) kw_310 (by decide +kernel)) <|
  allq qX3_better 34 (.inl (o_icmp_le 41 37)) (s_icmp_le (off := 7) (by decide +kernel) (by decide)) <|
  allq qX3_better 37 (.inl (a_ic 1 38)) (s_iconst (n := 1) (v := 1) rfl (by decide +kernel)) <|
  allq qX3_better 38 (.inl (a_go 42)) (s_goto (off := 4) (by decide +kernel) (by decide)) <|
  allq qX3_better 41 (.inl (a_ic 0 42)) (s_iconst (n := 0) (v := 0) rfl (by decide +kernel)) <|
  allq qX3_better 42 (.inr (.inr 3)) (Or.inr (Or.inr (Or.inr ⟨rfl, rfl, by decide +kernel⟩))) <|
  alln
theorem kX3_better : ∀ q ∈ tX3_better, qX3_better q := kX3_better_0
abbrev qX3_enough : Nat × aI → Prop := OkQ RX3 "enough" cX3_enough 3 (some .boolean)
set_option maxRecDepth 20000 in
theorem kX3_enough_0 : ∀ q ∈ tX3_enough_0, qX3_enough q :=
  allq qX3_enough 0 (.inl (a_al 0 1)) (s_aload_n (q := 0) (i := 0) rfl (by decide +kernel)) <|
  allq qX3_enough 1 (.inl (a_get 3 4 4)) (gX3 (f0 := 4) (by decide) kw_305 (by decide +kernel)) <|
  allq qX3_enough 4 (.inl (o_if_eq 31 7)) (s_if_eq (off := 27) (by decide +kernel) (by decide)) <|
  allq qX3_enough 7 (.inl (a_al 0 8)) (s_aload_n (q := 0) (i := 0) rfl (by decide +kernel)) <|
  allq qX3_enough 8 (.inl (a_get 3 4 11)) (gX3 (f0 := 4) (by decide) kw_305 (by decide +kernel)) <|
  allq qX3_enough 11 (.inl (a_ic 1 12)) (s_iconst (n := 1) (v := 1) rfl (by decide +kernel)) <|
  allq qX3_enough 12 (.inl (o_icmp_ne 21 15)) (s_icmp_ne (off := 9) (by decide +kernel) (by decide)) <|
  allq qX3_enough 15 (.inl (a_il 1 16)) (s_iload_n (q := 1) (i := 1) rfl (by decide +kernel)) <|
  allq qX3_enough 16 (.inl (a_ic 8 18)) (s_bipush (n := 8) (v := 8) rfl (by decide +kernel)) <|
  allq qX3_enough 18 (.inl (o_icmp_ge 31 21)) (s_icmp_ge (off := 13) (by decide +kernel) (by decide)) <|
  allq qX3_enough 21 (.inl (a_il 2 22)) (s_iload_n (q := 2) (i := 2) rfl (by decide +kernel)) <|
  allq qX3_enough 22 (.inl (a_il 1 23)) (s_iload_n (q := 1) (i := 1) rfl (by decide +kernel)) <|
  allq qX3_enough 23 (.inl (o_iadd 24)) (s_iadd (by decide +kernel)) <|
  allq qX3_enough 24 (.inl (a_al 0 25)) (s_aload_n (q := 0) (i := 0) rfl (by decide +kernel)) <|
  allq qX3_enough 25 (.inl (a_get 3 7 28)) (gX3 (f0 := 7) (by decide) kw_308 (by decide +kernel)) <|
  allq qX3_enough 28 (.inl (o_icmp_lt 35 31)) (s_icmp_lt (off := 7) (by decide +kernel) (by decide)) <|
  allq qX3_enough 31 (.inl (a_ic 1 32)) (s_iconst (n := 1) (v := 1) rfl (by decide +kernel)) <|
  allq qX3_enough 32 (.inl (a_go 36)) (s_goto (off := 4) (by decide +kernel) (by decide)) <|
  allq qX3_enough 35 (.inl (a_ic 0 36)) (s_iconst (n := 0) (v := 0) rfl (by decide +kernel)) <|
  allq qX3_enough 36 (.inr (.inr 3)) (Or.inr (Or.inr (Or.inr ⟨rfl, rfl, by decide +kernel⟩))) <|
  alln
theorem kX3_enough : ∀ q ∈ tX3_enough, qX3_enough q := kX3_enough_0
abbrev qX4_init : Nat × aI → Prop := OkQ RX4 "<init>" cX4_init 1 (none)
set_option maxRecDepth 20000 in
theorem kX4_init_0 : ∀ q ∈ tX4_init_0, qX4_init q :=
  allq qX4_init 0 (.inl (a_al 0 1)) (s_aload_n (q := 0) (i := 0) rfl (by decide +kernel)) <|
  allq qX4_init 1 (.inl (a_oi 4)) (s_oi kw_356 kw_126 kw_127 (by decide +kernel)) <|
  allq qX4_init 4 (.inl (a_al 0 5)) (s_aload_n (q := 0) (i := 0) rfl (by decide +kernel)) <|
  allq qX4_init 5 (.inl (a_ic 256 8)) (s_sipush (n := 256) (v := 256) rfl (by decide +kernel)) <|
  allq qX4_init 8 (.inl (a_newa 1 10)) (na_int kw_197 (by decide +kernel)) <|
  allq qX4_init 10 (.inl (a_put 4 0 (.array .int) 13)) (fX4 (f0 := 0) (by decide) rfl rfl rfl tOk kw_357 (by decide +kernel)) <|
  allq qX4_init 13 (.inl (a_al 0 14)) (s_aload_n (q := 0) (i := 0) rfl (by decide +kernel)) <|
  allq qX4_init 14 (.inl (a_ic 256 17)) (s_sipush (n := 256) (v := 256) rfl (by decide +kernel)) <|
  allq qX4_init 17 (.inl (a_newa 1 19)) (na_int kw_197 (by decide +kernel)) <|
  allq qX4_init 19 (.inl (a_put 4 1 (.array .int) 22)) (fX4 (f0 := 1) (by decide) rfl rfl rfl tOk kw_358 (by decide +kernel)) <|
  allq qX4_init 22 (.inl (a_al 0 23)) (s_aload_n (q := 0) (i := 0) rfl (by decide +kernel)) <|
  allq qX4_init 23 (.inl (a_ic 512 26)) (s_sipush (n := 512) (v := 512) rfl (by decide +kernel)) <|
  allq qX4_init 26 (.inl (a_newa 1 28)) (na_int kw_197 (by decide +kernel)) <|
  allq qX4_init 28 (.inl (a_put 4 2 (.array .int) 31)) (fX4 (f0 := 2) (by decide) rfl rfl rfl tOk kw_359 (by decide +kernel)) <|
  allq qX4_init 31 (.inl (a_al 0 32)) (s_aload_n (q := 0) (i := 0) rfl (by decide +kernel)) <|
  allq qX4_init 32 (.inl (a_ic 512 35)) (s_sipush (n := 512) (v := 512) rfl (by decide +kernel)) <|
  allq qX4_init 35 (.inl (a_newa 1 37)) (na_int kw_197 (by decide +kernel)) <|
  allq qX4_init 37 (.inl (a_put 4 3 (.array .int) 40)) (fX4 (f0 := 3) (by decide) rfl rfl rfl tOk kw_360 (by decide +kernel)) <|
  allq qX4_init 40 (.inl (a_al 0 41)) (s_aload_n (q := 0) (i := 0) rfl (by decide +kernel)) <|
  allq qX4_init 41 (.inl (a_ic 512 44)) (s_sipush (n := 512) (v := 512) rfl (by decide +kernel)) <|
  allq qX4_init 44 (.inl (a_newa 1 46)) (na_int kw_197 (by decide +kernel)) <|
  allq qX4_init 46 (.inl (a_put 4 4 (.array .int) 49)) (fX4 (f0 := 4) (by decide) rfl rfl rfl tOk kw_361 (by decide +kernel)) <|
  allq qX4_init 49 (.inr (.inr 0)) (Or.inl ⟨rfl, rfl, by decide +kernel⟩) <|
  alln
theorem kX4_init : ∀ q ∈ tX4_init, qX4_init q := kX4_init_0
abbrev qX4_settle : Nat × aI → Prop := OkQ RX4 "settle" cX4_settle 6 (none)
set_option maxRecDepth 20000 in
theorem kX4_settle_0 : ∀ q ∈ tX4_settle_0, qX4_settle q :=
  allq qX4_settle 0 (.inl (a_al 1 1)) (s_aload_n (q := 1) (i := 1) rfl (by decide +kernel)) <|
  allq qX4_settle 1 (.inl (a_ic 0 2)) (s_iconst (n := 0) (v := 0) rfl (by decide +kernel)) <|
  allq qX4_settle 2 (.inl (a_al 0 3)) (s_aload_n (q := 0) (i := 0) rfl (by decide +kernel)) <|
  allq qX4_settle 3 (.inl (a_get 4 0 6)) (gX4 (f0 := 0) (by decide) kw_357 (by decide +kernel)) <|
  allq qX4_settle 6 (.inl (a_ic 0 7)) (s_iconst (n := 0) (v := 0) rfl (by decide +kernel)) <|
  allq qX4_settle 7 (.inl (a_al 1 8)) (s_aload_n (q := 1) (i := 1) rfl (by decide +kernel)) <|
  allq qX4_settle 8 (.inl (a_len 9)) (s_len (by decide +kernel)) <|
  allq qX4_settle 9 (.inl (a_al 0 10)) (s_aload_n (q := 0) (i := 0) rfl (by decide +kernel)) <|
  allq qX4_settle 10 (.inl (a_get 4 0 13)) (gX4 (f0 := 0) (by decide) kw_357 (by decide +kernel)) <|
  allq qX4_settle 13 (.inl (a_len 14)) (s_len (by decide +kernel)) <|
  allq qX4_settle 14 (.inl (o_mmin 17)) (s_mmin kw_870 kw_498 kw_106 kw_499 (by decide +kernel)) <|
  allq qX4_settle 17 (.inl (a_copy 1 20)) (cp1 kw_871 kw_502 kw_501 kw_117 (by decide +kernel)) <|
  allq qX4_settle 20 (.inl (a_ic 12 22)) (s_bipush (n := 12) (v := 12) rfl (by decide +kernel)) <|
  allq qX4_settle 22 (.inl (a_is 3 23)) (s_istore_n (q := 3) (i := 3) rfl (by decide +kernel) (by decide)) <|
  allq qX4_settle 23 (.inl (a_ic 0 24)) (s_iconst (n := 0) (v := 0) rfl (by decide +kernel)) <|
  allq qX4_settle 24 (.inl (a_is 4 26)) (s_istore (i := 4) (by decide +kernel) (by decide)) <|
  allq qX4_settle 26 (.inl (a_il 4 28)) (s_iload (i := 4) (by decide +kernel)) <|
  allq qX4_settle 28 (.inl (a_ic 32 30)) (s_bipush (n := 32) (v := 32) rfl (by decide +kernel)) <|
  allq qX4_settle 30 (.inl (o_icmp_ge 72 33)) (s_icmp_ge (off := 42) (by decide +kernel) (by decide)) <|
  allq qX4_settle 33 (.inl (a_il 3 34)) (s_iload_n (q := 3) (i := 3) rfl (by decide +kernel)) <|
  allq qX4_settle 34 (.inl (a_ic 11 36)) (s_bipush (n := 11) (v := 11) rfl (by decide +kernel)) <|
  allq qX4_settle 36 (.inl (o_icmp_le 72 39)) (s_icmp_le (off := 36) (by decide +kernel) (by decide)) <|
  allq qX4_settle 39 (.inl (a_al 0 40)) (s_aload_n (q := 0) (i := 0) rfl (by decide +kernel)) <|
  allq qX4_settle 40 (.inr (.inl (47, 1, 5))) (okV (y := yX4_sort) kw_875 kw_114 rfl rfl (by decide +kernel) kw_874 kw_14 kw_872) <|
  allq qX4_settle 43 (.inl (a_is 5 45)) (s_istore (i := 5) (by decide +kernel) (by decide)) <|
  allq qX4_settle 45 (.inl (a_al 0 46)) (s_aload_n (q := 0) (i := 0) rfl (by decide +kernel)) <|
  allq qX4_settle 46 (.inl (a_il 5 48)) (s_iload (i := 5) (by decide +kernel)) <|
  allq qX4_settle 48 (.inr (.inl (48, 2, 5))) (okV (y := yX4_join) kw_879 kw_114 rfl rfl (by decide +kernel) kw_878 kw_15 kw_876) <|
  allq qX4_settle 51 (.inl (a_al 0 52)) (s_aload_n (q := 0) (i := 0) rfl (by decide +kernel)) <|
  allq qX4_settle 52 (.inl (a_il 5 54)) (s_iload (i := 5) (by decide +kernel)) <|
  allq qX4_settle 54 (.inl (a_al 2 55)) (s_aload_n (q := 2) (i := 2) rfl (by decide +kernel)) <|
  allq qX4_settle 55 (.inl (a_get 0 0 58)) (gX0 (f0 := 0) (by decide) kw_178 (by decide +kernel)) <|
  allq qX4_settle 58 (.inr (.inl (49, 3, 5))) (okV (y := yX4_measure) kw_883 kw_114 rfl rfl (by decide +kernel) kw_882 kw_16 kw_880) <|
  allq qX4_settle 61 (.inl (a_is 3 62)) (s_istore_n (q := 3) (i := 3) rfl (by decide +kernel) (by decide)) <|
  allq qX4_settle 62 (.inl (a_al 0 63)) (s_aload_n (q := 0) (i := 0) rfl (by decide +kernel)) <|
  allq qX4_settle 63 (.inr (.inl (50, 1, 5))) (okV (y := yX4_halve) kw_889 kw_114 rfl rfl (by decide +kernel) kw_888 kw_17 kw_886) <|
  allq qX4_settle 66 (.inl (a_inc 4 1 69)) (s_iinc (i := 4) (n := 1) (n2 := 1) rfl (by decide +kernel) (by decide)) <|
  allq qX4_settle 69 (.inl (a_go 26)) (s_goto (off := (-43)) (by decide +kernel) (by decide)) <|
  allq qX4_settle 72 (.inl (a_al 2 73)) (s_aload_n (q := 2) (i := 2) rfl (by decide +kernel)) <|
  allq qX4_settle 73 (.inl (a_il 3 74)) (s_iload_n (q := 3) (i := 3) rfl (by decide +kernel)) <|
  alln
set_option maxRecDepth 20000 in
theorem kX4_settle_1 : ∀ q ∈ tX4_settle_1, qX4_settle q :=
  allq qX4_settle 74 (.inr (.inl (3, 2, 1))) (okV (y := yX0_settle) kw_703 kw_108 rfl rfl (by decide +kernel) kw_701 kw_702 kw_890) <|
  allq qX4_settle 77 (.inr (.inr 0)) (Or.inl ⟨rfl, rfl, by decide +kernel⟩) <|
  alln
theorem kX4_settle : ∀ q ∈ tX4_settle, qX4_settle q := alla kX4_settle_0 kX4_settle_1
abbrev qX4_sort : Nat × aI → Prop := OkQ RX4 "sort" cX4_sort 4 (some .int)
set_option maxRecDepth 20000 in
theorem kX4_sort_0 : ∀ q ∈ tX4_sort_0, qX4_sort q :=
  allq qX4_sort 0 (.inl (a_ic 0 1)) (s_iconst (n := 0) (v := 0) rfl (by decide +kernel)) <|
  allq qX4_sort 1 (.inl (a_is 1 2)) (s_istore_n (q := 1) (i := 1) rfl (by decide +kernel) (by decide)) <|
  allq qX4_sort 2 (.inl (a_ic 0 3)) (s_iconst (n := 0) (v := 0) rfl (by decide +kernel)) <|
  allq qX4_sort 3 (.inl (a_is 2 4)) (s_istore_n (q := 2) (i := 2) rfl (by decide +kernel) (by decide)) <|
  allq qX4_sort 4 (.inl (a_il 2 5)) (s_iload_n (q := 2) (i := 2) rfl (by decide +kernel)) <|
  allq qX4_sort 5 (.inl (a_al 0 6)) (s_aload_n (q := 0) (i := 0) rfl (by decide +kernel)) <|
  allq qX4_sort 6 (.inl (a_get 4 0 9)) (gX4 (f0 := 0) (by decide) kw_357 (by decide +kernel)) <|
  allq qX4_sort 9 (.inl (a_len 10)) (s_len (by decide +kernel)) <|
  allq qX4_sort 10 (.inl (o_icmp_ge 107 13)) (s_icmp_ge (off := 97) (by decide +kernel) (by decide)) <|
  allq qX4_sort 13 (.inl (a_al 0 14)) (s_aload_n (q := 0) (i := 0) rfl (by decide +kernel)) <|
  allq qX4_sort 14 (.inl (a_get 4 0 17)) (gX4 (f0 := 0) (by decide) kw_357 (by decide +kernel)) <|
  allq qX4_sort 17 (.inl (a_il 2 18)) (s_iload_n (q := 2) (i := 2) rfl (by decide +kernel)) <|
  allq qX4_sort 18 (.inl (a_iald 19)) (s_iald (by decide +kernel)) <|
  allq qX4_sort 19 (.inl (o_if_le 101 22)) (s_if_le (off := 82) (by decide +kernel) (by decide)) <|
  allq qX4_sort 22 (.inl (a_il 1 23)) (s_iload_n (q := 1) (i := 1) rfl (by decide +kernel)) <|
  allq qX4_sort 23 (.inl (a_is 3 24)) (s_istore_n (q := 3) (i := 3) rfl (by decide +kernel) (by decide)) <|
  allq qX4_sort 24 (.inl (a_il 3 25)) (s_iload_n (q := 3) (i := 3) rfl (by decide +kernel)) <|
  allq qX4_sort 25 (.inl (o_if_le 79 28)) (s_if_le (off := 54) (by decide +kernel) (by decide)) <|
  allq qX4_sort 28 (.inl (a_al 0 29)) (s_aload_n (q := 0) (i := 0) rfl (by decide +kernel)) <|
  allq qX4_sort 29 (.inl (a_get 4 2 32)) (gX4 (f0 := 2) (by decide) kw_359 (by decide +kernel)) <|
  allq qX4_sort 32 (.inl (a_il 3 33)) (s_iload_n (q := 3) (i := 3) rfl (by decide +kernel)) <|
  allq qX4_sort 33 (.inl (a_ic 1 34)) (s_iconst (n := 1) (v := 1) rfl (by decide +kernel)) <|
  allq qX4_sort 34 (.inl (o_isub 35)) (s_isub (by decide +kernel)) <|
  allq qX4_sort 35 (.inl (a_iald 36)) (s_iald (by decide +kernel)) <|
  allq qX4_sort 36 (.inl (a_al 0 37)) (s_aload_n (q := 0) (i := 0) rfl (by decide +kernel)) <|
  allq qX4_sort 37 (.inl (a_get 4 0 40)) (gX4 (f0 := 0) (by decide) kw_357 (by decide +kernel)) <|
  allq qX4_sort 40 (.inl (a_il 2 41)) (s_iload_n (q := 2) (i := 2) rfl (by decide +kernel)) <|
  allq qX4_sort 41 (.inl (a_iald 42)) (s_iald (by decide +kernel)) <|
  allq qX4_sort 42 (.inl (o_icmp_le 79 45)) (s_icmp_le (off := 37) (by decide +kernel) (by decide)) <|
  allq qX4_sort 45 (.inl (a_al 0 46)) (s_aload_n (q := 0) (i := 0) rfl (by decide +kernel)) <|
  allq qX4_sort 46 (.inl (a_get 4 2 49)) (gX4 (f0 := 2) (by decide) kw_359 (by decide +kernel)) <|
  allq qX4_sort 49 (.inl (a_il 3 50)) (s_iload_n (q := 3) (i := 3) rfl (by decide +kernel)) <|
  allq qX4_sort 50 (.inl (a_al 0 51)) (s_aload_n (q := 0) (i := 0) rfl (by decide +kernel)) <|
  allq qX4_sort 51 (.inl (a_get 4 2 54)) (gX4 (f0 := 2) (by decide) kw_359 (by decide +kernel)) <|
  allq qX4_sort 54 (.inl (a_il 3 55)) (s_iload_n (q := 3) (i := 3) rfl (by decide +kernel)) <|
  allq qX4_sort 55 (.inl (a_ic 1 56)) (s_iconst (n := 1) (v := 1) rfl (by decide +kernel)) <|
  allq qX4_sort 56 (.inl (o_isub 57)) (s_isub (by decide +kernel)) <|
  allq qX4_sort 57 (.inl (a_iald 58)) (s_iald (by decide +kernel)) <|
  allq qX4_sort 58 (.inl (a_iast 59)) (s_iast (by decide +kernel)) <|
  allq qX4_sort 59 (.inl (a_al 0 60)) (s_aload_n (q := 0) (i := 0) rfl (by decide +kernel)) <|
  alln
set_option maxRecDepth 20000 in
theorem kX4_sort_1 : ∀ q ∈ tX4_sort_1, qX4_sort q :=
  allq qX4_sort 60 (.inl (a_get 4 1 63)) (gX4 (f0 := 1) (by decide) kw_358 (by decide +kernel)) <|
  allq qX4_sort 63 (.inl (a_il 3 64)) (s_iload_n (q := 3) (i := 3) rfl (by decide +kernel)) <|
  allq qX4_sort 64 (.inl (a_al 0 65)) (s_aload_n (q := 0) (i := 0) rfl (by decide +kernel)) <|
  allq qX4_sort 65 (.inl (a_get 4 1 68)) (gX4 (f0 := 1) (by decide) kw_358 (by decide +kernel)) <|
  allq qX4_sort 68 (.inl (a_il 3 69)) (s_iload_n (q := 3) (i := 3) rfl (by decide +kernel)) <|
  allq qX4_sort 69 (.inl (a_ic 1 70)) (s_iconst (n := 1) (v := 1) rfl (by decide +kernel)) <|
  allq qX4_sort 70 (.inl (o_isub 71)) (s_isub (by decide +kernel)) <|
  allq qX4_sort 71 (.inl (a_iald 72)) (s_iald (by decide +kernel)) <|
  allq qX4_sort 72 (.inl (a_iast 73)) (s_iast (by decide +kernel)) <|
  allq qX4_sort 73 (.inl (a_inc 3 (-1) 76)) (s_iinc (i := 3) (n := (-1)) (n2 := (-1)) rfl (by decide +kernel) (by decide)) <|
  allq qX4_sort 76 (.inl (a_go 24)) (s_goto (off := (-52)) (by decide +kernel) (by decide)) <|
  allq qX4_sort 79 (.inl (a_al 0 80)) (s_aload_n (q := 0) (i := 0) rfl (by decide +kernel)) <|
  allq qX4_sort 80 (.inl (a_get 4 2 83)) (gX4 (f0 := 2) (by decide) kw_359 (by decide +kernel)) <|
  allq qX4_sort 83 (.inl (a_il 3 84)) (s_iload_n (q := 3) (i := 3) rfl (by decide +kernel)) <|
  allq qX4_sort 84 (.inl (a_al 0 85)) (s_aload_n (q := 0) (i := 0) rfl (by decide +kernel)) <|
  allq qX4_sort 85 (.inl (a_get 4 0 88)) (gX4 (f0 := 0) (by decide) kw_357 (by decide +kernel)) <|
  allq qX4_sort 88 (.inl (a_il 2 89)) (s_iload_n (q := 2) (i := 2) rfl (by decide +kernel)) <|
  allq qX4_sort 89 (.inl (a_iald 90)) (s_iald (by decide +kernel)) <|
  allq qX4_sort 90 (.inl (a_iast 91)) (s_iast (by decide +kernel)) <|
  allq qX4_sort 91 (.inl (a_al 0 92)) (s_aload_n (q := 0) (i := 0) rfl (by decide +kernel)) <|
  allq qX4_sort 92 (.inl (a_get 4 1 95)) (gX4 (f0 := 1) (by decide) kw_358 (by decide +kernel)) <|
  allq qX4_sort 95 (.inl (a_il 3 96)) (s_iload_n (q := 3) (i := 3) rfl (by decide +kernel)) <|
  allq qX4_sort 96 (.inl (a_il 2 97)) (s_iload_n (q := 2) (i := 2) rfl (by decide +kernel)) <|
  allq qX4_sort 97 (.inl (a_iast 98)) (s_iast (by decide +kernel)) <|
  allq qX4_sort 98 (.inl (a_inc 1 1 101)) (s_iinc (i := 1) (n := 1) (n2 := 1) rfl (by decide +kernel) (by decide)) <|
  allq qX4_sort 101 (.inl (a_inc 2 1 104)) (s_iinc (i := 2) (n := 1) (n2 := 1) rfl (by decide +kernel) (by decide)) <|
  allq qX4_sort 104 (.inl (a_go 4)) (s_goto (off := (-100)) (by decide +kernel) (by decide)) <|
  allq qX4_sort 107 (.inl (a_il 1 108)) (s_iload_n (q := 1) (i := 1) rfl (by decide +kernel)) <|
  allq qX4_sort 108 (.inr (.inr 1)) (Or.inr (Or.inl ⟨rfl, rfl, by decide +kernel⟩)) <|
  alln
theorem kX4_sort : ∀ q ∈ tX4_sort, qX4_sort q := alla kX4_sort_0 kX4_sort_1
abbrev qX4_join : Nat × aI → Prop := OkQ RX4 "join" cX4_join 8 (none)
set_option maxRecDepth 20000 in
theorem kX4_join_0 : ∀ q ∈ tX4_join_0, qX4_join q :=
  allq qX4_join 0 (.inl (a_ic 0 1)) (s_iconst (n := 0) (v := 0) rfl (by decide +kernel)) <|
  allq qX4_join 1 (.inl (a_is 2 2)) (s_istore_n (q := 2) (i := 2) rfl (by decide +kernel) (by decide)) <|
  allq qX4_join 2 (.inl (a_il 1 3)) (s_iload_n (q := 1) (i := 1) rfl (by decide +kernel)) <|
  allq qX4_join 3 (.inl (a_is 3 4)) (s_istore_n (q := 3) (i := 3) rfl (by decide +kernel) (by decide)) <|
  allq qX4_join 4 (.inl (a_il 1 5)) (s_iload_n (q := 1) (i := 1) rfl (by decide +kernel)) <|
  allq qX4_join 5 (.inl (a_is 4 7)) (s_istore (i := 4) (by decide +kernel) (by decide)) <|
  allq qX4_join 7 (.inl (a_il 4 9)) (s_iload (i := 4) (by decide +kernel)) <|
  allq qX4_join 9 (.inl (a_ic 2 10)) (s_iconst (n := 2) (v := 2) rfl (by decide +kernel)) <|
  allq qX4_join 10 (.inl (a_il 1 11)) (s_iload_n (q := 1) (i := 1) rfl (by decide +kernel)) <|
  allq qX4_join 11 (.inl (o_imul 12)) (s_imul (by decide +kernel)) <|
  allq qX4_join 12 (.inl (a_ic 1 13)) (s_iconst (n := 1) (v := 1) rfl (by decide +kernel)) <|
  allq qX4_join 13 (.inl (o_isub 14)) (s_isub (by decide +kernel)) <|
  allq qX4_join 14 (.inl (o_icmp_ge 143 17)) (s_icmp_ge (off := 129) (by decide +kernel) (by decide)) <|
  allq qX4_join 17 (.inl (a_al 0 18)) (s_aload_n (q := 0) (i := 0) rfl (by decide +kernel)) <|
  allq qX4_join 18 (.inl (a_get 4 2 21)) (gX4 (f0 := 2) (by decide) kw_359 (by decide +kernel)) <|
  allq qX4_join 21 (.inl (a_il 4 23)) (s_iload (i := 4) (by decide +kernel)) <|
  allq qX4_join 23 (.inl (a_ic 0 24)) (s_iconst (n := 0) (v := 0) rfl (by decide +kernel)) <|
  allq qX4_join 24 (.inl (a_iast 25)) (s_iast (by decide +kernel)) <|
  allq qX4_join 25 (.inl (a_ic 0 26)) (s_iconst (n := 0) (v := 0) rfl (by decide +kernel)) <|
  allq qX4_join 26 (.inl (a_is 5 28)) (s_istore (i := 5) (by decide +kernel) (by decide)) <|
  allq qX4_join 28 (.inl (a_il 5 30)) (s_iload (i := 5) (by decide +kernel)) <|
  allq qX4_join 30 (.inl (a_ic 2 31)) (s_iconst (n := 2) (v := 2) rfl (by decide +kernel)) <|
  allq qX4_join 31 (.inl (o_icmp_ge 137 34)) (s_icmp_ge (off := 106) (by decide +kernel) (by decide)) <|
  allq qX4_join 34 (.inl (a_il 2 35)) (s_iload_n (q := 2) (i := 2) rfl (by decide +kernel)) <|
  allq qX4_join 35 (.inl (a_il 1 36)) (s_iload_n (q := 1) (i := 1) rfl (by decide +kernel)) <|
  allq qX4_join 36 (.inl (o_icmp_ge 64 39)) (s_icmp_ge (off := 28) (by decide +kernel) (by decide)) <|
  allq qX4_join 39 (.inl (a_il 3 40)) (s_iload_n (q := 3) (i := 3) rfl (by decide +kernel)) <|
  allq qX4_join 40 (.inl (a_il 4 42)) (s_iload (i := 4) (by decide +kernel)) <|
  allq qX4_join 42 (.inl (o_icmp_ge 60 45)) (s_icmp_ge (off := 18) (by decide +kernel) (by decide)) <|
  allq qX4_join 45 (.inl (a_al 0 46)) (s_aload_n (q := 0) (i := 0) rfl (by decide +kernel)) <|
  allq qX4_join 46 (.inl (a_get 4 2 49)) (gX4 (f0 := 2) (by decide) kw_359 (by decide +kernel)) <|
  allq qX4_join 49 (.inl (a_il 2 50)) (s_iload_n (q := 2) (i := 2) rfl (by decide +kernel)) <|
  allq qX4_join 50 (.inl (a_iald 51)) (s_iald (by decide +kernel)) <|
  allq qX4_join 51 (.inl (a_al 0 52)) (s_aload_n (q := 0) (i := 0) rfl (by decide +kernel)) <|
  allq qX4_join 52 (.inl (a_get 4 2 55)) (gX4 (f0 := 2) (by decide) kw_359 (by decide +kernel)) <|
  allq qX4_join 55 (.inl (a_il 3 56)) (s_iload_n (q := 3) (i := 3) rfl (by decide +kernel)) <|
  allq qX4_join 56 (.inl (a_iald 57)) (s_iald (by decide +kernel)) <|
  allq qX4_join 57 (.inl (o_icmp_gt 64 60)) (s_icmp_gt (off := 7) (by decide +kernel) (by decide)) <|
  allq qX4_join 60 (.inl (a_ic 1 61)) (s_iconst (n := 1) (v := 1) rfl (by decide +kernel)) <|
  allq qX4_join 61 (.inl (a_go 65)) (s_goto (off := 4) (by decide +kernel) (by decide)) <|
  alln
set_option maxRecDepth 20000 in
theorem kX4_join_1 : ∀ q ∈ tX4_join_1, qX4_join q :=
  allq qX4_join 64 (.inl (a_ic 0 65)) (s_iconst (n := 0) (v := 0) rfl (by decide +kernel)) <|
  allq qX4_join 65 (.inl (a_is 6 67)) (s_istore (i := 6) (by decide +kernel) (by decide)) <|
  allq qX4_join 67 (.inl (a_il 6 69)) (s_iload (i := 6) (by decide +kernel)) <|
  allq qX4_join 69 (.inl (o_if_eq 76 72)) (s_if_eq (off := 7) (by decide +kernel) (by decide)) <|
  allq qX4_join 72 (.inl (a_il 2 73)) (s_iload_n (q := 2) (i := 2) rfl (by decide +kernel)) <|
  allq qX4_join 73 (.inl (a_go 77)) (s_goto (off := 4) (by decide +kernel) (by decide)) <|
  allq qX4_join 76 (.inl (a_il 3 77)) (s_iload_n (q := 3) (i := 3) rfl (by decide +kernel)) <|
  allq qX4_join 77 (.inl (a_is 7 79)) (s_istore (i := 7) (by decide +kernel) (by decide)) <|
  allq qX4_join 79 (.inl (a_il 2 80)) (s_iload_n (q := 2) (i := 2) rfl (by decide +kernel)) <|
  allq qX4_join 80 (.inl (a_il 6 82)) (s_iload (i := 6) (by decide +kernel)) <|
  allq qX4_join 82 (.inl (o_if_eq 89 85)) (s_if_eq (off := 7) (by decide +kernel) (by decide)) <|
  allq qX4_join 85 (.inl (a_ic 1 86)) (s_iconst (n := 1) (v := 1) rfl (by decide +kernel)) <|
  allq qX4_join 86 (.inl (a_go 90)) (s_goto (off := 4) (by decide +kernel) (by decide)) <|
  allq qX4_join 89 (.inl (a_ic 0 90)) (s_iconst (n := 0) (v := 0) rfl (by decide +kernel)) <|
  allq qX4_join 90 (.inl (o_iadd 91)) (s_iadd (by decide +kernel)) <|
  allq qX4_join 91 (.inl (a_is 2 92)) (s_istore_n (q := 2) (i := 2) rfl (by decide +kernel) (by decide)) <|
  allq qX4_join 92 (.inl (a_il 3 93)) (s_iload_n (q := 3) (i := 3) rfl (by decide +kernel)) <|
  allq qX4_join 93 (.inl (a_il 6 95)) (s_iload (i := 6) (by decide +kernel)) <|
  allq qX4_join 95 (.inl (o_if_eq 102 98)) (s_if_eq (off := 7) (by decide +kernel) (by decide)) <|
  allq qX4_join 98 (.inl (a_ic 0 99)) (s_iconst (n := 0) (v := 0) rfl (by decide +kernel)) <|
  allq qX4_join 99 (.inl (a_go 103)) (s_goto (off := 4) (by decide +kernel) (by decide)) <|
  allq qX4_join 102 (.inl (a_ic 1 103)) (s_iconst (n := 1) (v := 1) rfl (by decide +kernel)) <|
  allq qX4_join 103 (.inl (o_iadd 104)) (s_iadd (by decide +kernel)) <|
  allq qX4_join 104 (.inl (a_is 3 105)) (s_istore_n (q := 3) (i := 3) rfl (by decide +kernel) (by decide)) <|
  allq qX4_join 105 (.inl (a_al 0 106)) (s_aload_n (q := 0) (i := 0) rfl (by decide +kernel)) <|
  allq qX4_join 106 (.inl (a_get 4 2 109)) (gX4 (f0 := 2) (by decide) kw_359 (by decide +kernel)) <|
  allq qX4_join 109 (.inl (a_il 4 111)) (s_iload (i := 4) (by decide +kernel)) <|
  allq qX4_join 111 (.inl (a_dup2 112)) (s_dup2 (by decide +kernel)) <|
  allq qX4_join 112 (.inl (a_iald 113)) (s_iald (by decide +kernel)) <|
  allq qX4_join 113 (.inl (a_al 0 114)) (s_aload_n (q := 0) (i := 0) rfl (by decide +kernel)) <|
  allq qX4_join 114 (.inl (a_get 4 2 117)) (gX4 (f0 := 2) (by decide) kw_359 (by decide +kernel)) <|
  allq qX4_join 117 (.inl (a_il 7 119)) (s_iload (i := 7) (by decide +kernel)) <|
  allq qX4_join 119 (.inl (a_iald 120)) (s_iald (by decide +kernel)) <|
  allq qX4_join 120 (.inl (o_iadd 121)) (s_iadd (by decide +kernel)) <|
  allq qX4_join 121 (.inl (a_iast 122)) (s_iast (by decide +kernel)) <|
  allq qX4_join 122 (.inl (a_al 0 123)) (s_aload_n (q := 0) (i := 0) rfl (by decide +kernel)) <|
  allq qX4_join 123 (.inl (a_get 4 3 126)) (gX4 (f0 := 3) (by decide) kw_360 (by decide +kernel)) <|
  allq qX4_join 126 (.inl (a_il 7 128)) (s_iload (i := 7) (by decide +kernel)) <|
  allq qX4_join 128 (.inl (a_il 4 130)) (s_iload (i := 4) (by decide +kernel)) <|
  allq qX4_join 130 (.inl (a_iast 131)) (s_iast (by decide +kernel)) <|
  alln
set_option maxRecDepth 20000 in
theorem kX4_join_2 : ∀ q ∈ tX4_join_2, qX4_join q :=
  allq qX4_join 131 (.inl (a_inc 5 1 134)) (s_iinc (i := 5) (n := 1) (n2 := 1) rfl (by decide +kernel) (by decide)) <|
  allq qX4_join 134 (.inl (a_go 28)) (s_goto (off := (-106)) (by decide +kernel) (by decide)) <|
  allq qX4_join 137 (.inl (a_inc 4 1 140)) (s_iinc (i := 4) (n := 1) (n2 := 1) rfl (by decide +kernel) (by decide)) <|
  allq qX4_join 140 (.inl (a_go 7)) (s_goto (off := (-133)) (by decide +kernel) (by decide)) <|
  allq qX4_join 143 (.inr (.inr 0)) (Or.inl ⟨rfl, rfl, by decide +kernel⟩) <|
  alln
theorem kX4_join : ∀ q ∈ tX4_join, qX4_join q := alla kX4_join_0 (alla kX4_join_1 kX4_join_2)
