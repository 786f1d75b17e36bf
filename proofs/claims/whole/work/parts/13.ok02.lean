/-! each entry is one that the machine does (printed by a program) -/
abbrev qX4_measure : Nat × aI → Prop := OkQ RX4 "measure" cX4_measure 6 (some .int)
set_option maxRecDepth 20000 in
theorem kX4_measure_0 : ∀ q ∈ tX4_measure_0, qX4_measure q :=
  allq qX4_measure 0 (.inl (a_al 2 1)) (s_aload_n (q := 2) (i := 2) rfl (by decide +kernel)) <|
  allq qX4_measure 1 (.inl (a_ic 0 2)) (s_iconst (n := 0) (v := 0) rfl (by decide +kernel)) <|
  allq qX4_measure 2 (.inr (.inl (223, 2, 0))) (okS (y := yJ7_fill_53178) kw_496 kw_116 rfl (by decide +kernel) kw_495 (Or.inl kw_884)) <|
  allq qX4_measure 5 (.inl (a_ic 0 6)) (s_iconst (n := 0) (v := 0) rfl (by decide +kernel)) <|
  allq qX4_measure 6 (.inl (a_is 3 7)) (s_istore_n (q := 3) (i := 3) rfl (by decide +kernel) (by decide)) <|
  allq qX4_measure 7 (.inl (a_ic 2 8)) (s_iconst (n := 2) (v := 2) rfl (by decide +kernel)) <|
  allq qX4_measure 8 (.inl (a_il 1 9)) (s_iload_n (q := 1) (i := 1) rfl (by decide +kernel)) <|
  allq qX4_measure 9 (.inl (o_imul 10)) (s_imul (by decide +kernel)) <|
  allq qX4_measure 10 (.inl (a_ic 2 11)) (s_iconst (n := 2) (v := 2) rfl (by decide +kernel)) <|
  allq qX4_measure 11 (.inl (o_isub 12)) (s_isub (by decide +kernel)) <|
  allq qX4_measure 12 (.inl (a_ic 0 13)) (s_iconst (n := 0) (v := 0) rfl (by decide +kernel)) <|
  allq qX4_measure 13 (.inl (o_mmax 16)) (s_mmax kw_885 kw_135 kw_106 kw_136 (by decide +kernel)) <|
  allq qX4_measure 16 (.inl (a_is 4 18)) (s_istore (i := 4) (by decide +kernel) (by decide)) <|
  allq qX4_measure 18 (.inl (a_al 0 19)) (s_aload_n (q := 0) (i := 0) rfl (by decide +kernel)) <|
  allq qX4_measure 19 (.inl (a_get 4 4 22)) (gX4 (f0 := 4) (by decide) kw_361 (by decide +kernel)) <|
  allq qX4_measure 22 (.inl (a_il 4 24)) (s_iload (i := 4) (by decide +kernel)) <|
  allq qX4_measure 24 (.inl (a_ic 0 25)) (s_iconst (n := 0) (v := 0) rfl (by decide +kernel)) <|
  allq qX4_measure 25 (.inl (a_iast 26)) (s_iast (by decide +kernel)) <|
  allq qX4_measure 26 (.inl (a_il 4 28)) (s_iload (i := 4) (by decide +kernel)) <|
  allq qX4_measure 28 (.inl (a_ic 1 29)) (s_iconst (n := 1) (v := 1) rfl (by decide +kernel)) <|
  allq qX4_measure 29 (.inl (o_isub 30)) (s_isub (by decide +kernel)) <|
  allq qX4_measure 30 (.inl (a_is 5 32)) (s_istore (i := 5) (by decide +kernel) (by decide)) <|
  allq qX4_measure 32 (.inl (a_il 5 34)) (s_iload (i := 5) (by decide +kernel)) <|
  allq qX4_measure 34 (.inl (o_if_lt 98 37)) (s_if_lt (off := 64) (by decide +kernel) (by decide)) <|
  allq qX4_measure 37 (.inl (a_al 0 38)) (s_aload_n (q := 0) (i := 0) rfl (by decide +kernel)) <|
  allq qX4_measure 38 (.inl (a_get 4 4 41)) (gX4 (f0 := 4) (by decide) kw_361 (by decide +kernel)) <|
  allq qX4_measure 41 (.inl (a_il 5 43)) (s_iload (i := 5) (by decide +kernel)) <|
  allq qX4_measure 43 (.inl (a_al 0 44)) (s_aload_n (q := 0) (i := 0) rfl (by decide +kernel)) <|
  allq qX4_measure 44 (.inl (a_get 4 4 47)) (gX4 (f0 := 4) (by decide) kw_361 (by decide +kernel)) <|
  allq qX4_measure 47 (.inl (a_al 0 48)) (s_aload_n (q := 0) (i := 0) rfl (by decide +kernel)) <|
  allq qX4_measure 48 (.inl (a_get 4 3 51)) (gX4 (f0 := 3) (by decide) kw_360 (by decide +kernel)) <|
  allq qX4_measure 51 (.inl (a_il 5 53)) (s_iload (i := 5) (by decide +kernel)) <|
  allq qX4_measure 53 (.inl (a_iald 54)) (s_iald (by decide +kernel)) <|
  allq qX4_measure 54 (.inl (a_iald 55)) (s_iald (by decide +kernel)) <|
  allq qX4_measure 55 (.inl (a_ic 1 56)) (s_iconst (n := 1) (v := 1) rfl (by decide +kernel)) <|
  allq qX4_measure 56 (.inl (o_iadd 57)) (s_iadd (by decide +kernel)) <|
  allq qX4_measure 57 (.inl (a_iast 58)) (s_iast (by decide +kernel)) <|
  allq qX4_measure 58 (.inl (a_il 5 60)) (s_iload (i := 5) (by decide +kernel)) <|
  allq qX4_measure 60 (.inl (a_il 1 61)) (s_iload_n (q := 1) (i := 1) rfl (by decide +kernel)) <|
  allq qX4_measure 61 (.inl (o_icmp_ge 92 64)) (s_icmp_ge (off := 31) (by decide +kernel) (by decide)) <|
  alln
set_option maxRecDepth 20000 in
theorem kX4_measure_1 : ∀ q ∈ tX4_measure_1, qX4_measure q :=
  allq qX4_measure 64 (.inl (a_al 2 65)) (s_aload_n (q := 2) (i := 2) rfl (by decide +kernel)) <|
  allq qX4_measure 65 (.inl (a_al 0 66)) (s_aload_n (q := 0) (i := 0) rfl (by decide +kernel)) <|
  allq qX4_measure 66 (.inl (a_get 4 1 69)) (gX4 (f0 := 1) (by decide) kw_358 (by decide +kernel)) <|
  allq qX4_measure 69 (.inl (a_il 5 71)) (s_iload (i := 5) (by decide +kernel)) <|
  allq qX4_measure 71 (.inl (a_iald 72)) (s_iald (by decide +kernel)) <|
  allq qX4_measure 72 (.inl (a_al 0 73)) (s_aload_n (q := 0) (i := 0) rfl (by decide +kernel)) <|
  allq qX4_measure 73 (.inl (a_get 4 4 76)) (gX4 (f0 := 4) (by decide) kw_361 (by decide +kernel)) <|
  allq qX4_measure 76 (.inl (a_il 5 78)) (s_iload (i := 5) (by decide +kernel)) <|
  allq qX4_measure 78 (.inl (a_iald 79)) (s_iald (by decide +kernel)) <|
  allq qX4_measure 79 (.inl (a_iast 80)) (s_iast (by decide +kernel)) <|
  allq qX4_measure 80 (.inl (a_il 3 81)) (s_iload_n (q := 3) (i := 3) rfl (by decide +kernel)) <|
  allq qX4_measure 81 (.inl (a_al 0 82)) (s_aload_n (q := 0) (i := 0) rfl (by decide +kernel)) <|
  allq qX4_measure 82 (.inl (a_get 4 4 85)) (gX4 (f0 := 4) (by decide) kw_361 (by decide +kernel)) <|
  allq qX4_measure 85 (.inl (a_il 5 87)) (s_iload (i := 5) (by decide +kernel)) <|
  allq qX4_measure 87 (.inl (a_iald 88)) (s_iald (by decide +kernel)) <|
  allq qX4_measure 88 (.inl (o_mmax 91)) (s_mmax kw_885 kw_135 kw_106 kw_136 (by decide +kernel)) <|
  allq qX4_measure 91 (.inl (a_is 3 92)) (s_istore_n (q := 3) (i := 3) rfl (by decide +kernel) (by decide)) <|
  allq qX4_measure 92 (.inl (a_inc 5 (-1) 95)) (s_iinc (i := 5) (n := (-1)) (n2 := (-1)) rfl (by decide +kernel) (by decide)) <|
  allq qX4_measure 95 (.inl (a_go 32)) (s_goto (off := (-63)) (by decide +kernel) (by decide)) <|
  allq qX4_measure 98 (.inl (a_il 3 99)) (s_iload_n (q := 3) (i := 3) rfl (by decide +kernel)) <|
  allq qX4_measure 99 (.inr (.inr 1)) (Or.inr (Or.inl ⟨rfl, rfl, by decide +kernel⟩)) <|
  alln
theorem kX4_measure : ∀ q ∈ tX4_measure, qX4_measure q := alla kX4_measure_0 kX4_measure_1
abbrev qX4_halve : Nat × aI → Prop := OkQ RX4 "halve" cX4_halve 2 (none)
set_option maxRecDepth 20000 in
theorem kX4_halve_0 : ∀ q ∈ tX4_halve_0, qX4_halve q :=
  allq qX4_halve 0 (.inl (a_ic 0 1)) (s_iconst (n := 0) (v := 0) rfl (by decide +kernel)) <|
  allq qX4_halve 1 (.inl (a_is 1 2)) (s_istore_n (q := 1) (i := 1) rfl (by decide +kernel) (by decide)) <|
  allq qX4_halve 2 (.inl (a_il 1 3)) (s_iload_n (q := 1) (i := 1) rfl (by decide +kernel)) <|
  allq qX4_halve 3 (.inl (a_al 0 4)) (s_aload_n (q := 0) (i := 0) rfl (by decide +kernel)) <|
  allq qX4_halve 4 (.inl (a_get 4 0 7)) (gX4 (f0 := 0) (by decide) kw_357 (by decide +kernel)) <|
  allq qX4_halve 7 (.inl (a_len 8)) (s_len (by decide +kernel)) <|
  allq qX4_halve 8 (.inl (o_icmp_ge 33 11)) (s_icmp_ge (off := 25) (by decide +kernel) (by decide)) <|
  allq qX4_halve 11 (.inl (a_al 0 12)) (s_aload_n (q := 0) (i := 0) rfl (by decide +kernel)) <|
  allq qX4_halve 12 (.inl (a_get 4 0 15)) (gX4 (f0 := 0) (by decide) kw_357 (by decide +kernel)) <|
  allq qX4_halve 15 (.inl (a_il 1 16)) (s_iload_n (q := 1) (i := 1) rfl (by decide +kernel)) <|
  allq qX4_halve 16 (.inl (a_al 0 17)) (s_aload_n (q := 0) (i := 0) rfl (by decide +kernel)) <|
  allq qX4_halve 17 (.inl (a_get 4 0 20)) (gX4 (f0 := 0) (by decide) kw_357 (by decide +kernel)) <|
  allq qX4_halve 20 (.inl (a_il 1 21)) (s_iload_n (q := 1) (i := 1) rfl (by decide +kernel)) <|
  allq qX4_halve 21 (.inl (a_iald 22)) (s_iald (by decide +kernel)) <|
  allq qX4_halve 22 (.inl (a_ic 1 23)) (s_iconst (n := 1) (v := 1) rfl (by decide +kernel)) <|
  allq qX4_halve 23 (.inl (o_iadd 24)) (s_iadd (by decide +kernel)) <|
  allq qX4_halve 24 (.inl (a_ic 2 25)) (s_iconst (n := 2) (v := 2) rfl (by decide +kernel)) <|
  allq qX4_halve 25 (.inl (o_idiv 26)) (s_idiv (by decide +kernel)) <|
  allq qX4_halve 26 (.inl (a_iast 27)) (s_iast (by decide +kernel)) <|
  allq qX4_halve 27 (.inl (a_inc 1 1 30)) (s_iinc (i := 1) (n := 1) (n2 := 1) rfl (by decide +kernel) (by decide)) <|
  allq qX4_halve 30 (.inl (a_go 2)) (s_goto (off := (-28)) (by decide +kernel) (by decide)) <|
  allq qX4_halve 33 (.inr (.inr 0)) (Or.inl ⟨rfl, rfl, by decide +kernel⟩) <|
  alln
theorem kX4_halve : ∀ q ∈ tX4_halve, qX4_halve q := kX4_halve_0
abbrev qX5_init : Nat × aI → Prop := OkQ RX5 "<init>" cX5_init 2 (none)
set_option maxRecDepth 20000 in
theorem kX5_init_0 : ∀ q ∈ tX5_init_0, qX5_init q :=
  allq qX5_init 0 (.inl (a_al 0 1)) (s_aload_n (q := 0) (i := 0) rfl (by decide +kernel)) <|
  allq qX5_init 1 (.inl (a_oi 4)) (s_oi kw_348 kw_126 kw_127 (by decide +kernel)) <|
  allq qX5_init 4 (.inl (a_al 0 5)) (s_aload_n (q := 0) (i := 0) rfl (by decide +kernel)) <|
  allq qX5_init 5 (.inl (a_ic 8000 8)) (s_sipush (n := 8000) (v := 8000) rfl (by decide +kernel)) <|
  allq qX5_init 8 (.inl (a_newa 0 10)) (na_byte kw_162 (by decide +kernel)) <|
  allq qX5_init 10 (.inl (a_put 5 0 (.array .byte) 13)) (fX5 (f0 := 0) (by decide) rfl rfl rfl tOk kw_375 (by decide +kernel)) <|
  allq qX5_init 13 (.inl (a_al 0 14)) (s_aload_n (q := 0) (i := 0) rfl (by decide +kernel)) <|
  allq qX5_init 14 (.inl (a_ic 256 17)) (s_sipush (n := 256) (v := 256) rfl (by decide +kernel)) <|
  allq qX5_init 17 (.inl (a_newa 1 19)) (na_int kw_197 (by decide +kernel)) <|
  allq qX5_init 19 (.inl (a_put 5 1 (.array .int) 22)) (fX5 (f0 := 1) (by decide) rfl rfl rfl tOk kw_376 (by decide +kernel)) <|
  allq qX5_init 22 (.inl (a_al 0 23)) (s_aload_n (q := 0) (i := 0) rfl (by decide +kernel)) <|
  allq qX5_init 23 (.inl (a_new 0 5 zX0 26)) (nX0 kw_349 (by decide +kernel)) <|
  allq qX5_init 26 (.inl (a_dup 27)) (s_dup (by decide +kernel)) <|
  allq qX5_init 27 (.inr (.inl (0, 1, 1))) (okN (y := yX0_init) kw_175 kw_108 rfl (by decide +kernel) kw_174 (Or.inr ⟨"StatePress", kn_350⟩)) <|
  allq qX5_init 30 (.inl (a_put 5 3 (.object "StatePress$Codes") 33)) (fX5 (f0 := 3) (by decide) rfl rfl rfl tOk kw_378 (by decide +kernel)) <|
  allq qX5_init 33 (.inl (a_al 0 34)) (s_aload_n (q := 0) (i := 0) rfl (by decide +kernel)) <|
  allq qX5_init 34 (.inl (a_new 0 5 zX0 37)) (nX0 kw_349 (by decide +kernel)) <|
  allq qX5_init 37 (.inl (a_dup 38)) (s_dup (by decide +kernel)) <|
  allq qX5_init 38 (.inr (.inl (0, 1, 1))) (okN (y := yX0_init) kw_175 kw_108 rfl (by decide +kernel) kw_174 (Or.inr ⟨"StatePress", kn_350⟩)) <|
  allq qX5_init 41 (.inl (a_put 5 4 (.object "StatePress$Codes") 44)) (fX5 (f0 := 4) (by decide) rfl rfl rfl tOk kw_379 (by decide +kernel)) <|
  allq qX5_init 44 (.inl (a_al 0 45)) (s_aload_n (q := 0) (i := 0) rfl (by decide +kernel)) <|
  allq qX5_init 45 (.inl (a_new 4 5 zX4 48)) (nX4 kw_351 (by decide +kernel)) <|
  allq qX5_init 48 (.inl (a_dup 49)) (s_dup (by decide +kernel)) <|
  allq qX5_init 49 (.inr (.inl (45, 1, 5))) (okN (y := yX4_init) kw_355 kw_114 rfl (by decide +kernel) kw_354 (Or.inr ⟨"StatePress", kn_353⟩)) <|
  allq qX5_init 52 (.inl (a_put 5 5 (.object "StatePress$Knots") 55)) (fX5 (f0 := 5) (by decide) rfl rfl rfl tOk kw_380 (by decide +kernel)) <|
  allq qX5_init 55 (.inl (a_al 0 56)) (s_aload_n (q := 0) (i := 0) rfl (by decide +kernel)) <|
  allq qX5_init 56 (.inl (a_new 7 5 zX7 59)) (nX7 kw_373 (by decide +kernel)) <|
  allq qX5_init 59 (.inl (a_dup 60)) (s_dup (by decide +kernel)) <|
  allq qX5_init 60 (.inl (a_ic 256 63)) (s_sipush (n := 256) (v := 256) rfl (by decide +kernel)) <|
  allq qX5_init 63 (.inr (.inl (84, 2, 8))) (okN (y := yX7_init) kw_132 kw_105 rfl (by decide +kernel) kw_131 (Or.inl kw_374)) <|
  allq qX5_init 66 (.inl (a_put 5 7 (.object "StatePress$Row") 69)) (fX5 (f0 := 7) (by decide) rfl rfl rfl tOk kw_382 (by decide +kernel)) <|
  allq qX5_init 69 (.inl (a_al 0 70)) (s_aload_n (q := 0) (i := 0) rfl (by decide +kernel)) <|
  allq qX5_init 70 (.inl (a_al 1 71)) (s_aload_n (q := 1) (i := 1) rfl (by decide +kernel)) <|
  allq qX5_init 71 (.inl (a_put 5 6 (.object "StatePress$Description") 74)) (fX5 (f0 := 6) (by decide) rfl rfl rfl tOk kw_381 (by decide +kernel)) <|
  allq qX5_init 74 (.inr (.inr 0)) (Or.inl ⟨rfl, rfl, by decide +kernel⟩) <|
  alln
theorem kX5_init : ∀ q ∈ tX5_init, qX5_init q := kX5_init_0
abbrev qX5_begin : Nat × aI → Prop := OkQ RX5 "begin" cX5_begin 2 (none)
set_option maxRecDepth 20000 in
theorem kX5_begin_0 : ∀ q ∈ tX5_begin_0, qX5_begin q :=
  allq qX5_begin 0 (.inl (a_al 0 1)) (s_aload_n (q := 0) (i := 0) rfl (by decide +kernel)) <|
  allq qX5_begin 1 (.inl (a_get 5 3 4)) (gX5 (f0 := 3) (by decide) kw_378 (by decide +kernel)) <|
  allq qX5_begin 4 (.inl (a_al 1 5)) (s_aload_n (q := 1) (i := 1) rfl (by decide +kernel)) <|
  allq qX5_begin 5 (.inr (.inl (1, 2, 1))) (okV (y := yX0_become) kw_750 kw_108 rfl rfl (by decide +kernel) kw_748 kw_749 kw_747) <|
  allq qX5_begin 8 (.inr (.inr 0)) (Or.inl ⟨rfl, rfl, by decide +kernel⟩) <|
  alln
theorem kX5_begin : ∀ q ∈ tX5_begin, qX5_begin q := kX5_begin_0
abbrev qX5_drop : Nat × aI → Prop := OkQ RX5 "drop" cX5_drop 1 (none)
set_option maxRecDepth 20000 in
theorem kX5_drop_0 : ∀ q ∈ tX5_drop_0, qX5_drop q :=
  allq qX5_drop 0 (.inl (a_al 0 1)) (s_aload_n (q := 0) (i := 0) rfl (by decide +kernel)) <|
  allq qX5_drop 1 (.inl (a_ic 0 2)) (s_iconst (n := 0) (v := 0) rfl (by decide +kernel)) <|
  allq qX5_drop 2 (.inl (a_put 5 2 .int 5)) (pX5 (f0 := 2) (by decide) rfl rfl tOk kw_377 (by decide +kernel)) <|
  allq qX5_drop 5 (.inl (a_al 0 6)) (s_aload_n (q := 0) (i := 0) rfl (by decide +kernel)) <|
  allq qX5_drop 6 (.inl (a_get 5 1 9)) (gX5 (f0 := 1) (by decide) kw_376 (by decide +kernel)) <|
  allq qX5_drop 9 (.inl (a_ic 0 10)) (s_iconst (n := 0) (v := 0) rfl (by decide +kernel)) <|
  allq qX5_drop 10 (.inr (.inl (223, 2, 0))) (okS (y := yJ7_fill_53178) kw_496 kw_116 rfl (by decide +kernel) kw_495 (Or.inl kw_799)) <|
  allq qX5_drop 13 (.inr (.inr 0)) (Or.inl ⟨rfl, rfl, by decide +kernel⟩) <|
  alln
theorem kX5_drop : ∀ q ∈ tX5_drop, qX5_drop q := kX5_drop_0
abbrev qX5_add : Nat × aI → Prop := OkQ RX5 "add" cX5_add 2 (none)
set_option maxRecDepth 20000 in
theorem kX5_add_0 : ∀ q ∈ tX5_add_0, qX5_add q :=
  allq qX5_add 0 (.inl (a_al 0 1)) (s_aload_n (q := 0) (i := 0) rfl (by decide +kernel)) <|
  allq qX5_add 1 (.inl (a_get 5 2 4)) (gX5 (f0 := 2) (by decide) kw_377 (by decide +kernel)) <|
  allq qX5_add 4 (.inl (a_al 0 5)) (s_aload_n (q := 0) (i := 0) rfl (by decide +kernel)) <|
  allq qX5_add 5 (.inl (a_get 5 0 8)) (gX5 (f0 := 0) (by decide) kw_375 (by decide +kernel)) <|
  allq qX5_add 8 (.inl (a_len 9)) (s_len (by decide +kernel)) <|
  allq qX5_add 9 (.inl (o_icmp_ge 47 12)) (s_icmp_ge (off := 38) (by decide +kernel) (by decide)) <|
  allq qX5_add 12 (.inl (a_al 0 13)) (s_aload_n (q := 0) (i := 0) rfl (by decide +kernel)) <|
  allq qX5_add 13 (.inl (a_get 5 0 16)) (gX5 (f0 := 0) (by decide) kw_375 (by decide +kernel)) <|
  allq qX5_add 16 (.inl (a_al 0 17)) (s_aload_n (q := 0) (i := 0) rfl (by decide +kernel)) <|
  allq qX5_add 17 (.inl (a_get 5 2 20)) (gX5 (f0 := 2) (by decide) kw_377 (by decide +kernel)) <|
  allq qX5_add 20 (.inl (a_il 1 21)) (s_iload_n (q := 1) (i := 1) rfl (by decide +kernel)) <|
  allq qX5_add 21 (.inl (o_i2b 22)) (s_i2b (by decide +kernel)) <|
  allq qX5_add 22 (.inl (a_bast 23)) (s_bast (by decide +kernel)) <|
  allq qX5_add 23 (.inl (a_al 0 24)) (s_aload_n (q := 0) (i := 0) rfl (by decide +kernel)) <|
  allq qX5_add 24 (.inl (a_get 5 1 27)) (gX5 (f0 := 1) (by decide) kw_376 (by decide +kernel)) <|
  allq qX5_add 27 (.inl (a_il 1 28)) (s_iload_n (q := 1) (i := 1) rfl (by decide +kernel)) <|
  allq qX5_add 28 (.inl (a_ic 255 31)) (s_sipush (n := 255) (v := 255) rfl (by decide +kernel)) <|
  allq qX5_add 31 (.inl (o_iand 32)) (s_iand (by decide +kernel)) <|
  allq qX5_add 32 (.inl (a_dup2 33)) (s_dup2 (by decide +kernel)) <|
  allq qX5_add 33 (.inl (a_iald 34)) (s_iald (by decide +kernel)) <|
  allq qX5_add 34 (.inl (a_ic 1 35)) (s_iconst (n := 1) (v := 1) rfl (by decide +kernel)) <|
  allq qX5_add 35 (.inl (o_iadd 36)) (s_iadd (by decide +kernel)) <|
  allq qX5_add 36 (.inl (a_iast 37)) (s_iast (by decide +kernel)) <|
  allq qX5_add 37 (.inl (a_al 0 38)) (s_aload_n (q := 0) (i := 0) rfl (by decide +kernel)) <|
  allq qX5_add 38 (.inl (a_dup 39)) (s_dup (by decide +kernel)) <|
  allq qX5_add 39 (.inl (a_get 5 2 42)) (gX5 (f0 := 2) (by decide) kw_377 (by decide +kernel)) <|
  allq qX5_add 42 (.inl (a_ic 1 43)) (s_iconst (n := 1) (v := 1) rfl (by decide +kernel)) <|
  allq qX5_add 43 (.inl (o_iadd 44)) (s_iadd (by decide +kernel)) <|
  allq qX5_add 44 (.inl (a_put 5 2 .int 47)) (pX5 (f0 := 2) (by decide) rfl rfl tOk kw_377 (by decide +kernel)) <|
  allq qX5_add 47 (.inr (.inr 0)) (Or.inl ⟨rfl, rfl, by decide +kernel⟩) <|
  alln
theorem kX5_add : ∀ q ∈ tX5_add, qX5_add q := kX5_add_0
abbrev qX5_areFew : Nat × aI → Prop := OkQ RX5 "areFew" cX5_areFew 1 (some .boolean)
set_option maxRecDepth 20000 in
theorem kX5_areFew_0 : ∀ q ∈ tX5_areFew_0, qX5_areFew q :=
  allq qX5_areFew 0 (.inl (a_al 0 1)) (s_aload_n (q := 0) (i := 0) rfl (by decide +kernel)) <|
  allq qX5_areFew 1 (.inl (a_get 5 2 4)) (gX5 (f0 := 2) (by decide) kw_377 (by decide +kernel)) <|
  allq qX5_areFew 4 (.inl (a_ic 1 5)) (s_iconst (n := 1) (v := 1) rfl (by decide +kernel)) <|
  allq qX5_areFew 5 (.inl (o_iadd 6)) (s_iadd (by decide +kernel)) <|
  allq qX5_areFew 6 (.inl (a_ic 6 8)) (s_bipush (n := 6) (v := 6) rfl (by decide +kernel)) <|
  allq qX5_areFew 8 (.inl (o_icmp_gt 15 11)) (s_icmp_gt (off := 7) (by decide +kernel) (by decide)) <|
  allq qX5_areFew 11 (.inl (a_ic 1 12)) (s_iconst (n := 1) (v := 1) rfl (by decide +kernel)) <|
  allq qX5_areFew 12 (.inl (a_go 16)) (s_goto (off := 4) (by decide +kernel) (by decide)) <|
  allq qX5_areFew 15 (.inl (a_ic 0 16)) (s_iconst (n := 0) (v := 0) rfl (by decide +kernel)) <|
  allq qX5_areFew 16 (.inr (.inr 3)) (Or.inr (Or.inr (Or.inr ⟨rfl, rfl, by decide +kernel⟩))) <|
  alln
theorem kX5_areFew : ∀ q ∈ tX5_areFew, qX5_areFew q := kX5_areFew_0
abbrev qX5_renew : Nat × aI → Prop := OkQ RX5 "renew" cX5_renew 1 (some .boolean)
set_option maxRecDepth 20000 in
theorem kX5_renew_0 : ∀ q ∈ tX5_renew_0, qX5_renew q :=
  allq qX5_renew 0 (.inl (a_al 0 1)) (s_aload_n (q := 0) (i := 0) rfl (by decide +kernel)) <|
  allq qX5_renew 1 (.inl (a_get 5 7 4)) (gX5 (f0 := 7) (by decide) kw_382 (by decide +kernel)) <|
  allq qX5_renew 4 (.inr (.inl (85, 1, 8))) (okV (y := yX7_drop) kw_625 kw_105 rfl rfl (by decide +kernel) kw_623 kw_624 kw_865) <|
  allq qX5_renew 7 (.inl (a_al 0 8)) (s_aload_n (q := 0) (i := 0) rfl (by decide +kernel)) <|
  allq qX5_renew 8 (.inl (a_get 5 2 11)) (gX5 (f0 := 2) (by decide) kw_377 (by decide +kernel)) <|
  allq qX5_renew 11 (.inl (o_if_eq 36 14)) (s_if_eq (off := 25) (by decide +kernel) (by decide)) <|
  allq qX5_renew 14 (.inl (a_al 0 15)) (s_aload_n (q := 0) (i := 0) rfl (by decide +kernel)) <|
  allq qX5_renew 15 (.inl (a_get 5 1 18)) (gX5 (f0 := 1) (by decide) kw_376 (by decide +kernel)) <|
  allq qX5_renew 18 (.inl (a_al 0 19)) (s_aload_n (q := 0) (i := 0) rfl (by decide +kernel)) <|
  allq qX5_renew 19 (.inl (a_get 5 0 22)) (gX5 (f0 := 0) (by decide) kw_375 (by decide +kernel)) <|
  allq qX5_renew 22 (.inl (a_ic 0 23)) (s_iconst (n := 0) (v := 0) rfl (by decide +kernel)) <|
  allq qX5_renew 23 (.inl (a_bald 24)) (s_bald (by decide +kernel)) <|
  allq qX5_renew 24 (.inl (a_ic 255 27)) (s_sipush (n := 255) (v := 255) rfl (by decide +kernel)) <|
  allq qX5_renew 27 (.inl (o_iand 28)) (s_iand (by decide +kernel)) <|
  allq qX5_renew 28 (.inl (a_iald 29)) (s_iald (by decide +kernel)) <|
  allq qX5_renew 29 (.inl (a_al 0 30)) (s_aload_n (q := 0) (i := 0) rfl (by decide +kernel)) <|
  allq qX5_renew 30 (.inl (a_get 5 2 33)) (gX5 (f0 := 2) (by decide) kw_377 (by decide +kernel)) <|
  allq qX5_renew 33 (.inl (o_icmp_ne 38 36)) (s_icmp_ne (off := 5) (by decide +kernel) (by decide)) <|
  allq qX5_renew 36 (.inl (a_ic 0 37)) (s_iconst (n := 0) (v := 0) rfl (by decide +kernel)) <|
  allq qX5_renew 37 (.inr (.inr 3)) (Or.inr (Or.inr (Or.inr ⟨rfl, rfl, by decide +kernel⟩))) <|
  allq qX5_renew 38 (.inl (a_al 0 39)) (s_aload_n (q := 0) (i := 0) rfl (by decide +kernel)) <|
  allq qX5_renew 39 (.inl (a_get 5 5 42)) (gX5 (f0 := 5) (by decide) kw_380 (by decide +kernel)) <|
  allq qX5_renew 42 (.inl (a_al 0 43)) (s_aload_n (q := 0) (i := 0) rfl (by decide +kernel)) <|
  allq qX5_renew 43 (.inl (a_get 5 1 46)) (gX5 (f0 := 1) (by decide) kw_376 (by decide +kernel)) <|
  allq qX5_renew 46 (.inl (a_al 0 47)) (s_aload_n (q := 0) (i := 0) rfl (by decide +kernel)) <|
  allq qX5_renew 47 (.inl (a_get 5 4 50)) (gX5 (f0 := 4) (by decide) kw_379 (by decide +kernel)) <|
  allq qX5_renew 50 (.inr (.inl (46, 3, 5))) (okV (y := yX4_settle) kw_869 kw_114 rfl rfl (by decide +kernel) kw_867 kw_868 kw_866) <|
  allq qX5_renew 53 (.inl (a_al 0 54)) (s_aload_n (q := 0) (i := 0) rfl (by decide +kernel)) <|
  allq qX5_renew 54 (.inl (a_get 5 6 57)) (gX5 (f0 := 6) (by decide) kw_381 (by decide +kernel)) <|
  allq qX5_renew 57 (.inl (a_al 0 58)) (s_aload_n (q := 0) (i := 0) rfl (by decide +kernel)) <|
  allq qX5_renew 58 (.inl (a_get 5 4 61)) (gX5 (f0 := 4) (by decide) kw_379 (by decide +kernel)) <|
  allq qX5_renew 61 (.inl (a_al 0 62)) (s_aload_n (q := 0) (i := 0) rfl (by decide +kernel)) <|
  allq qX5_renew 62 (.inl (a_get 5 7 65)) (gX5 (f0 := 7) (by decide) kw_382 (by decide +kernel)) <|
  allq qX5_renew 65 (.inr (.inl (24, 3, 3))) (okV (y := yX2_describe) kw_894 kw_110 rfl rfl (by decide +kernel) kw_892 kw_893 kw_891) <|
  allq qX5_renew 68 (.inr (.inr 3)) (Or.inr (Or.inr (Or.inr ⟨rfl, rfl, by decide +kernel⟩))) <|
  alln
theorem kX5_renew : ∀ q ∈ tX5_renew, qX5_renew q := kX5_renew_0
abbrev qX5_choose : Nat × aI → Prop := OkQ RX5 "choose" cX5_choose 2 (some .int)
set_option maxRecDepth 20000 in
theorem kX5_choose_0 : ∀ q ∈ tX5_choose_0, qX5_choose q :=
  allq qX5_choose 0 (.inl (a_al 0 1)) (s_aload_n (q := 0) (i := 0) rfl (by decide +kernel)) <|
  allq qX5_choose 1 (.inl (a_ic 0 2)) (s_iconst (n := 0) (v := 0) rfl (by decide +kernel)) <|
  allq qX5_choose 2 (.inl (a_put 5 8 .int 5)) (pX5 (f0 := 8) (by decide) rfl rfl tOk kw_383 (by decide +kernel)) <|
  allq qX5_choose 5 (.inl (a_al 0 6)) (s_aload_n (q := 0) (i := 0) rfl (by decide +kernel)) <|
  allq qX5_choose 6 (.inl (a_al 0 7)) (s_aload_n (q := 0) (i := 0) rfl (by decide +kernel)) <|
  allq qX5_choose 7 (.inr (.inl (58, 1, 6))) (okV (y := yX5_plainHead) kw_1002 kw_113 rfl rfl (by decide +kernel) kw_1001 kw_27 kw_999) <|
  allq qX5_choose 10 (.inl (a_al 0 11)) (s_aload_n (q := 0) (i := 0) rfl (by decide +kernel)) <|
  allq qX5_choose 11 (.inl (a_get 5 2 14)) (gX5 (f0 := 2) (by decide) kw_377 (by decide +kernel)) <|
  allq qX5_choose 14 (.inl (o_iadd 15)) (s_iadd (by decide +kernel)) <|
  allq qX5_choose 15 (.inl (a_put 5 9 .int 18)) (pX5 (f0 := 9) (by decide) rfl rfl tOk kw_385 (by decide +kernel)) <|
  allq qX5_choose 18 (.inl (a_al 0 19)) (s_aload_n (q := 0) (i := 0) rfl (by decide +kernel)) <|
  allq qX5_choose 19 (.inl (a_get 5 2 22)) (gX5 (f0 := 2) (by decide) kw_377 (by decide +kernel)) <|
  allq qX5_choose 22 (.inl (o_if_le 75 25)) (s_if_le (off := 53) (by decide +kernel) (by decide)) <|
  allq qX5_choose 25 (.inl (a_al 0 26)) (s_aload_n (q := 0) (i := 0) rfl (by decide +kernel)) <|
  allq qX5_choose 26 (.inl (a_get 5 1 29)) (gX5 (f0 := 1) (by decide) kw_376 (by decide +kernel)) <|
  allq qX5_choose 29 (.inl (a_al 0 30)) (s_aload_n (q := 0) (i := 0) rfl (by decide +kernel)) <|
  allq qX5_choose 30 (.inl (a_get 5 0 33)) (gX5 (f0 := 0) (by decide) kw_375 (by decide +kernel)) <|
  allq qX5_choose 33 (.inl (a_ic 0 34)) (s_iconst (n := 0) (v := 0) rfl (by decide +kernel)) <|
  allq qX5_choose 34 (.inl (a_bald 35)) (s_bald (by decide +kernel)) <|
  allq qX5_choose 35 (.inl (a_ic 255 38)) (s_sipush (n := 255) (v := 255) rfl (by decide +kernel)) <|
  allq qX5_choose 38 (.inl (o_iand 39)) (s_iand (by decide +kernel)) <|
  allq qX5_choose 39 (.inl (a_iald 40)) (s_iald (by decide +kernel)) <|
  allq qX5_choose 40 (.inl (a_al 0 41)) (s_aload_n (q := 0) (i := 0) rfl (by decide +kernel)) <|
  allq qX5_choose 41 (.inl (a_get 5 2 44)) (gX5 (f0 := 2) (by decide) kw_377 (by decide +kernel)) <|
  allq qX5_choose 44 (.inl (o_icmp_ne 75 47)) (s_icmp_ne (off := 31) (by decide +kernel) (by decide)) <|
  allq qX5_choose 47 (.inl (a_al 0 48)) (s_aload_n (q := 0) (i := 0) rfl (by decide +kernel)) <|
  allq qX5_choose 48 (.inr (.inl (58, 1, 6))) (okV (y := yX5_plainHead) kw_1002 kw_113 rfl rfl (by decide +kernel) kw_1001 kw_27 kw_999) <|
  allq qX5_choose 51 (.inl (a_ic 1 52)) (s_iconst (n := 1) (v := 1) rfl (by decide +kernel)) <|
  allq qX5_choose 52 (.inl (o_iadd 53)) (s_iadd (by decide +kernel)) <|
  allq qX5_choose 53 (.inl (a_al 0 54)) (s_aload_n (q := 0) (i := 0) rfl (by decide +kernel)) <|
  allq qX5_choose 54 (.inl (a_get 5 9 57)) (gX5 (f0 := 9) (by decide) kw_385 (by decide +kernel)) <|
  allq qX5_choose 57 (.inl (o_icmp_ge 75 60)) (s_icmp_ge (off := 18) (by decide +kernel) (by decide)) <|
  allq qX5_choose 60 (.inl (a_al 0 61)) (s_aload_n (q := 0) (i := 0) rfl (by decide +kernel)) <|
  allq qX5_choose 61 (.inl (a_ic 1 62)) (s_iconst (n := 1) (v := 1) rfl (by decide +kernel)) <|
  allq qX5_choose 62 (.inl (a_put 5 8 .int 65)) (pX5 (f0 := 8) (by decide) rfl rfl tOk kw_383 (by decide +kernel)) <|
  allq qX5_choose 65 (.inl (a_al 0 66)) (s_aload_n (q := 0) (i := 0) rfl (by decide +kernel)) <|
  allq qX5_choose 66 (.inl (a_al 0 67)) (s_aload_n (q := 0) (i := 0) rfl (by decide +kernel)) <|
  allq qX5_choose 67 (.inr (.inl (58, 1, 6))) (okV (y := yX5_plainHead) kw_1002 kw_113 rfl rfl (by decide +kernel) kw_1001 kw_27 kw_999) <|
  allq qX5_choose 70 (.inl (a_ic 1 71)) (s_iconst (n := 1) (v := 1) rfl (by decide +kernel)) <|
  allq qX5_choose 71 (.inl (o_iadd 72)) (s_iadd (by decide +kernel)) <|
  alln
set_option maxRecDepth 20000 in
theorem kX5_choose_1 : ∀ q ∈ tX5_choose_1, qX5_choose q :=
  allq qX5_choose 72 (.inl (a_put 5 9 .int 75)) (pX5 (f0 := 9) (by decide) rfl rfl tOk kw_385 (by decide +kernel)) <|
  allq qX5_choose 75 (.inl (a_al 0 76)) (s_aload_n (q := 0) (i := 0) rfl (by decide +kernel)) <|
  allq qX5_choose 76 (.inl (a_get 5 3 79)) (gX5 (f0 := 3) (by decide) kw_378 (by decide +kernel)) <|
  allq qX5_choose 79 (.inl (a_al 0 80)) (s_aload_n (q := 0) (i := 0) rfl (by decide +kernel)) <|
  allq qX5_choose 80 (.inl (a_get 5 1 83)) (gX5 (f0 := 1) (by decide) kw_376 (by decide +kernel)) <|
  allq qX5_choose 83 (.inr (.inl (4, 2, 1))) (okV (y := yX0_canTell) kw_1006 kw_108 rfl rfl (by decide +kernel) kw_1004 kw_1005 kw_1003) <|
  allq qX5_choose 86 (.inl (o_if_eq 99 89)) (s_if_eq (off := 13) (by decide +kernel) (by decide)) <|
  allq qX5_choose 89 (.inl (a_al 0 90)) (s_aload_n (q := 0) (i := 0) rfl (by decide +kernel)) <|
  allq qX5_choose 90 (.inl (a_ic 3 91)) (s_iconst (n := 3) (v := 3) rfl (by decide +kernel)) <|
  allq qX5_choose 91 (.inl (a_al 0 92)) (s_aload_n (q := 0) (i := 0) rfl (by decide +kernel)) <|
  allq qX5_choose 92 (.inl (a_get 5 3 95)) (gX5 (f0 := 3) (by decide) kw_378 (by decide +kernel)) <|
  allq qX5_choose 95 (.inl (a_ic 0 96)) (s_iconst (n := 0) (v := 0) rfl (by decide +kernel)) <|
  allq qX5_choose 96 (.inr (.inl (59, 4, 6))) (okV (y := yX5_consider) kw_1010 kw_113 rfl rfl (by decide +kernel) kw_1009 kw_28 kw_1007) <|
  allq qX5_choose 99 (.inl (a_il 1 100)) (s_iload_n (q := 1) (i := 1) rfl (by decide +kernel)) <|
  allq qX5_choose 100 (.inl (o_if_eq 119 103)) (s_if_eq (off := 19) (by decide +kernel) (by decide)) <|
  allq qX5_choose 103 (.inl (a_al 0 104)) (s_aload_n (q := 0) (i := 0) rfl (by decide +kernel)) <|
  allq qX5_choose 104 (.inl (a_ic 2 105)) (s_iconst (n := 2) (v := 2) rfl (by decide +kernel)) <|
  allq qX5_choose 105 (.inl (a_al 0 106)) (s_aload_n (q := 0) (i := 0) rfl (by decide +kernel)) <|
  allq qX5_choose 106 (.inl (a_get 5 4 109)) (gX5 (f0 := 4) (by decide) kw_379 (by decide +kernel)) <|
  allq qX5_choose 109 (.inl (a_al 0 110)) (s_aload_n (q := 0) (i := 0) rfl (by decide +kernel)) <|
  allq qX5_choose 110 (.inl (a_get 5 7 113)) (gX5 (f0 := 7) (by decide) kw_382 (by decide +kernel)) <|
  allq qX5_choose 113 (.inl (a_get 7 1 116)) (gX7 (f0 := 1) (by decide) kw_145 (by decide +kernel)) <|
  allq qX5_choose 116 (.inr (.inl (59, 4, 6))) (okV (y := yX5_consider) kw_1010 kw_113 rfl rfl (by decide +kernel) kw_1009 kw_28 kw_1007) <|
  allq qX5_choose 119 (.inl (a_al 0 120)) (s_aload_n (q := 0) (i := 0) rfl (by decide +kernel)) <|
  allq qX5_choose 120 (.inl (a_get 5 9 123)) (gX5 (f0 := 9) (by decide) kw_385 (by decide +kernel)) <|
  allq qX5_choose 123 (.inr (.inr 1)) (Or.inr (Or.inl ⟨rfl, rfl, by decide +kernel⟩)) <|
  alln
theorem kX5_choose : ∀ q ∈ tX5_choose, qX5_choose q := alla kX5_choose_0 kX5_choose_1
abbrev qX5_plainHead : Nat × aI → Prop := OkQ RX5 "plainHead" cX5_plainHead 1 (some .int)
set_option maxRecDepth 20000 in
theorem kX5_plainHead_0 : ∀ q ∈ tX5_plainHead_0, qX5_plainHead q :=
  allq qX5_plainHead 0 (.inl (a_al 0 1)) (s_aload_n (q := 0) (i := 0) rfl (by decide +kernel)) <|
  allq qX5_plainHead 1 (.inl (a_get 5 2 4)) (gX5 (f0 := 2) (by decide) kw_377 (by decide +kernel)) <|
  allq qX5_plainHead 4 (.inl (a_ic 32 6)) (s_bipush (n := 32) (v := 32) rfl (by decide +kernel)) <|
  allq qX5_plainHead 6 (.inl (o_icmp_ge 11 9)) (s_icmp_ge (off := 5) (by decide +kernel) (by decide)) <|
  allq qX5_plainHead 9 (.inl (a_ic 1 10)) (s_iconst (n := 1) (v := 1) rfl (by decide +kernel)) <|
  allq qX5_plainHead 10 (.inr (.inr 1)) (Or.inr (Or.inl ⟨rfl, rfl, by decide +kernel⟩)) <|
  allq qX5_plainHead 11 (.inl (a_al 0 12)) (s_aload_n (q := 0) (i := 0) rfl (by decide +kernel)) <|
  allq qX5_plainHead 12 (.inl (a_get 5 2 15)) (gX5 (f0 := 2) (by decide) kw_377 (by decide +kernel)) <|
  allq qX5_plainHead 15 (.inl (a_ic 4096 18)) (s_sipush (n := 4096) (v := 4096) rfl (by decide +kernel)) <|
  allq qX5_plainHead 18 (.inl (o_icmp_ge 25 21)) (s_icmp_ge (off := 7) (by decide +kernel) (by decide)) <|
  allq qX5_plainHead 21 (.inl (a_ic 2 22)) (s_iconst (n := 2) (v := 2) rfl (by decide +kernel)) <|
  allq qX5_plainHead 22 (.inl (a_go 26)) (s_goto (off := 4) (by decide +kernel) (by decide)) <|
  allq qX5_plainHead 25 (.inl (a_ic 3 26)) (s_iconst (n := 3) (v := 3) rfl (by decide +kernel)) <|
  allq qX5_plainHead 26 (.inr (.inr 1)) (Or.inr (Or.inl ⟨rfl, rfl, by decide +kernel⟩)) <|
  alln
theorem kX5_plainHead : ∀ q ∈ tX5_plainHead, qX5_plainHead q := kX5_plainHead_0
abbrev qX5_consider : Nat × aI → Prop := OkQ RX5 "consider" cX5_consider 6 (none)
set_option maxRecDepth 20000 in
theorem kX5_consider_0 : ∀ q ∈ tX5_consider_0, qX5_consider q :=
  allq qX5_consider 0 (.inl (a_il 3 1)) (s_iload_n (q := 3) (i := 3) rfl (by decide +kernel)) <|
  allq qX5_consider 1 (.inl (a_al 0 2)) (s_aload_n (q := 0) (i := 0) rfl (by decide +kernel)) <|
  allq qX5_consider 2 (.inl (a_al 2 3)) (s_aload_n (q := 2) (i := 2) rfl (by decide +kernel)) <|
  allq qX5_consider 3 (.inr (.inl (60, 2, 6))) (okV (y := yX5_streamBytes) kw_1014 kw_113 rfl rfl (by decide +kernel) kw_1013 kw_29 kw_1011) <|
  allq qX5_consider 6 (.inl (o_iadd 7)) (s_iadd (by decide +kernel)) <|
  allq qX5_consider 7 (.inl (a_is 4 9)) (s_istore (i := 4) (by decide +kernel) (by decide)) <|
  allq qX5_consider 9 (.inl (a_al 0 10)) (s_aload_n (q := 0) (i := 0) rfl (by decide +kernel)) <|
  allq qX5_consider 10 (.inl (a_il 4 12)) (s_iload (i := 4) (by decide +kernel)) <|
  allq qX5_consider 12 (.inr (.inl (61, 2, 6))) (okV (y := yX5_shape) kw_1023 kw_113 rfl rfl (by decide +kernel) kw_1022 kw_30 kw_1020) <|
  allq qX5_consider 15 (.inl (a_is 5 17)) (s_istore (i := 5) (by decide +kernel) (by decide)) <|
  allq qX5_consider 17 (.inl (a_il 5 19)) (s_iload (i := 5) (by decide +kernel)) <|
  allq qX5_consider 19 (.inl (o_if_lt 66 22)) (s_if_lt (off := 47) (by decide +kernel) (by decide)) <|
  allq qX5_consider 22 (.inl (a_il 5 24)) (s_iload (i := 5) (by decide +kernel)) <|
  allq qX5_consider 24 (.inr (.inl (62, 1, 0))) (okS (y := yX5_codedHead) kw_1026 kw_113 rfl (by decide +kernel) kw_1025 (Or.inl kw_1024)) <|
  allq qX5_consider 27 (.inl (a_il 4 29)) (s_iload (i := 4) (by decide +kernel)) <|
  allq qX5_consider 29 (.inl (o_iadd 30)) (s_iadd (by decide +kernel)) <|
  allq qX5_consider 30 (.inl (a_al 0 31)) (s_aload_n (q := 0) (i := 0) rfl (by decide +kernel)) <|
  allq qX5_consider 31 (.inl (a_get 5 9 34)) (gX5 (f0 := 9) (by decide) kw_385 (by decide +kernel)) <|
  allq qX5_consider 34 (.inl (o_icmp_ge 66 37)) (s_icmp_ge (off := 32) (by decide +kernel) (by decide)) <|
  allq qX5_consider 37 (.inl (a_al 0 38)) (s_aload_n (q := 0) (i := 0) rfl (by decide +kernel)) <|
  allq qX5_consider 38 (.inl (a_il 1 39)) (s_iload_n (q := 1) (i := 1) rfl (by decide +kernel)) <|
  allq qX5_consider 39 (.inl (a_put 5 8 .int 42)) (pX5 (f0 := 8) (by decide) rfl rfl tOk kw_383 (by decide +kernel)) <|
  allq qX5_consider 42 (.inl (a_al 0 43)) (s_aload_n (q := 0) (i := 0) rfl (by decide +kernel)) <|
  allq qX5_consider 43 (.inl (a_il 5 45)) (s_iload (i := 5) (by decide +kernel)) <|
  allq qX5_consider 45 (.inr (.inl (62, 1, 0))) (okS (y := yX5_codedHead) kw_1026 kw_113 rfl (by decide +kernel) kw_1025 (Or.inl kw_1024)) <|
  allq qX5_consider 48 (.inl (a_il 4 50)) (s_iload (i := 4) (by decide +kernel)) <|
  allq qX5_consider 50 (.inl (o_iadd 51)) (s_iadd (by decide +kernel)) <|
  allq qX5_consider 51 (.inl (a_put 5 9 .int 54)) (pX5 (f0 := 9) (by decide) rfl rfl tOk kw_385 (by decide +kernel)) <|
  allq qX5_consider 54 (.inl (a_al 0 55)) (s_aload_n (q := 0) (i := 0) rfl (by decide +kernel)) <|
  allq qX5_consider 55 (.inl (a_il 5 57)) (s_iload (i := 5) (by decide +kernel)) <|
  allq qX5_consider 57 (.inl (a_put 5 10 .int 60)) (pX5 (f0 := 10) (by decide) rfl rfl tOk kw_386 (by decide +kernel)) <|
  allq qX5_consider 60 (.inl (a_al 0 61)) (s_aload_n (q := 0) (i := 0) rfl (by decide +kernel)) <|
  allq qX5_consider 61 (.inl (a_il 4 63)) (s_iload (i := 4) (by decide +kernel)) <|
  allq qX5_consider 63 (.inl (a_put 5 11 .int 66)) (pX5 (f0 := 11) (by decide) rfl rfl tOk kw_387 (by decide +kernel)) <|
  allq qX5_consider 66 (.inr (.inr 0)) (Or.inl ⟨rfl, rfl, by decide +kernel⟩) <|
  alln
theorem kX5_consider : ∀ q ∈ tX5_consider, qX5_consider q := kX5_consider_0
abbrev qX5_streamBytes : Nat × aI → Prop := OkQ RX5 "streamBytes" cX5_streamBytes 5 (some .int)
set_option maxRecDepth 20000 in
theorem kX5_streamBytes_0 : ∀ q ∈ tX5_streamBytes_0, qX5_streamBytes q :=
  allq qX5_streamBytes 0 (.inl (a_al 0 1)) (s_aload_n (q := 0) (i := 0) rfl (by decide +kernel)) <|
  allq qX5_streamBytes 1 (.inl (a_get 5 2 4)) (gX5 (f0 := 2) (by decide) kw_377 (by decide +kernel)) <|
  allq qX5_streamBytes 4 (.inl (a_ic 1024 7)) (s_sipush (n := 1024) (v := 1024) rfl (by decide +kernel)) <|
  allq qX5_streamBytes 7 (.inl (o_icmp_ge 24 10)) (s_icmp_ge (off := 17) (by decide +kernel) (by decide)) <|
  allq qX5_streamBytes 10 (.inl (a_al 1 11)) (s_aload_n (q := 1) (i := 1) rfl (by decide +kernel)) <|
  allq qX5_streamBytes 11 (.inl (a_al 0 12)) (s_aload_n (q := 0) (i := 0) rfl (by decide +kernel)) <|
  allq qX5_streamBytes 12 (.inl (a_get 5 0 15)) (gX5 (f0 := 0) (by decide) kw_375 (by decide +kernel)) <|
  allq qX5_streamBytes 15 (.inl (a_ic 0 16)) (s_iconst (n := 0) (v := 0) rfl (by decide +kernel)) <|
  allq qX5_streamBytes 16 (.inl (a_al 0 17)) (s_aload_n (q := 0) (i := 0) rfl (by decide +kernel)) <|
  allq qX5_streamBytes 17 (.inl (a_get 5 2 20)) (gX5 (f0 := 2) (by decide) kw_377 (by decide +kernel)) <|
  allq qX5_streamBytes 20 (.inr (.inl (5, 4, 1))) (okV (y := yX0_streamBytes) kw_1018 kw_108 rfl rfl (by decide +kernel) kw_1016 kw_1017 kw_1015) <|
  allq qX5_streamBytes 23 (.inr (.inr 1)) (Or.inr (Or.inl ⟨rfl, rfl, by decide +kernel⟩)) <|
  allq qX5_streamBytes 24 (.inl (a_al 0 25)) (s_aload_n (q := 0) (i := 0) rfl (by decide +kernel)) <|
  allq qX5_streamBytes 25 (.inl (a_get 5 2 28)) (gX5 (f0 := 2) (by decide) kw_377 (by decide +kernel)) <|
  allq qX5_streamBytes 28 (.inl (a_ic 3 29)) (s_iconst (n := 3) (v := 3) rfl (by decide +kernel)) <|
  allq qX5_streamBytes 29 (.inl (o_iadd 30)) (s_iadd (by decide +kernel)) <|
  allq qX5_streamBytes 30 (.inl (a_ic 4 31)) (s_iconst (n := 4) (v := 4) rfl (by decide +kernel)) <|
  allq qX5_streamBytes 31 (.inl (o_idiv 32)) (s_idiv (by decide +kernel)) <|
  allq qX5_streamBytes 32 (.inl (a_is 2 33)) (s_istore_n (q := 2) (i := 2) rfl (by decide +kernel) (by decide)) <|
  allq qX5_streamBytes 33 (.inl (a_ic 6 35)) (s_bipush (n := 6) (v := 6) rfl (by decide +kernel)) <|
  allq qX5_streamBytes 35 (.inl (a_is 3 36)) (s_istore_n (q := 3) (i := 3) rfl (by decide +kernel) (by decide)) <|
  allq qX5_streamBytes 36 (.inl (a_ic 0 37)) (s_iconst (n := 0) (v := 0) rfl (by decide +kernel)) <|
  allq qX5_streamBytes 37 (.inl (a_is 4 39)) (s_istore (i := 4) (by decide +kernel) (by decide)) <|
  allq qX5_streamBytes 39 (.inl (a_il 4 41)) (s_iload (i := 4) (by decide +kernel)) <|
  allq qX5_streamBytes 41 (.inl (a_ic 4 42)) (s_iconst (n := 4) (v := 4) rfl (by decide +kernel)) <|
  allq qX5_streamBytes 42 (.inl (o_icmp_ge 79 45)) (s_icmp_ge (off := 37) (by decide +kernel) (by decide)) <|
  allq qX5_streamBytes 45 (.inl (a_il 3 46)) (s_iload_n (q := 3) (i := 3) rfl (by decide +kernel)) <|
  allq qX5_streamBytes 46 (.inl (a_al 1 47)) (s_aload_n (q := 1) (i := 1) rfl (by decide +kernel)) <|
  allq qX5_streamBytes 47 (.inl (a_al 0 48)) (s_aload_n (q := 0) (i := 0) rfl (by decide +kernel)) <|
  allq qX5_streamBytes 48 (.inl (a_get 5 0 51)) (gX5 (f0 := 0) (by decide) kw_375 (by decide +kernel)) <|
  allq qX5_streamBytes 51 (.inl (a_il 4 53)) (s_iload (i := 4) (by decide +kernel)) <|
  allq qX5_streamBytes 53 (.inl (a_il 2 54)) (s_iload_n (q := 2) (i := 2) rfl (by decide +kernel)) <|
  allq qX5_streamBytes 54 (.inl (o_imul 55)) (s_imul (by decide +kernel)) <|
  allq qX5_streamBytes 55 (.inl (a_il 4 57)) (s_iload (i := 4) (by decide +kernel)) <|
  allq qX5_streamBytes 57 (.inl (a_ic 1 58)) (s_iconst (n := 1) (v := 1) rfl (by decide +kernel)) <|
  allq qX5_streamBytes 58 (.inl (o_iadd 59)) (s_iadd (by decide +kernel)) <|
  allq qX5_streamBytes 59 (.inl (a_il 2 60)) (s_iload_n (q := 2) (i := 2) rfl (by decide +kernel)) <|
  allq qX5_streamBytes 60 (.inl (o_imul 61)) (s_imul (by decide +kernel)) <|
  allq qX5_streamBytes 61 (.inl (a_al 0 62)) (s_aload_n (q := 0) (i := 0) rfl (by decide +kernel)) <|
  allq qX5_streamBytes 62 (.inl (a_get 5 2 65)) (gX5 (f0 := 2) (by decide) kw_377 (by decide +kernel)) <|
  alln
set_option maxRecDepth 20000 in
theorem kX5_streamBytes_1 : ∀ q ∈ tX5_streamBytes_1, qX5_streamBytes q :=
  allq qX5_streamBytes 65 (.inl (o_mmin 68)) (s_mmin kw_1019 kw_498 kw_106 kw_499 (by decide +kernel)) <|
  allq qX5_streamBytes 68 (.inr (.inl (5, 4, 1))) (okV (y := yX0_streamBytes) kw_1018 kw_108 rfl rfl (by decide +kernel) kw_1016 kw_1017 kw_1015) <|
  allq qX5_streamBytes 71 (.inl (o_iadd 72)) (s_iadd (by decide +kernel)) <|
  allq qX5_streamBytes 72 (.inl (a_is 3 73)) (s_istore_n (q := 3) (i := 3) rfl (by decide +kernel) (by decide)) <|
  allq qX5_streamBytes 73 (.inl (a_inc 4 1 76)) (s_iinc (i := 4) (n := 1) (n2 := 1) rfl (by decide +kernel) (by decide)) <|
  allq qX5_streamBytes 76 (.inl (a_go 39)) (s_goto (off := (-37)) (by decide +kernel) (by decide)) <|
  allq qX5_streamBytes 79 (.inl (a_il 3 80)) (s_iload_n (q := 3) (i := 3) rfl (by decide +kernel)) <|
  allq qX5_streamBytes 80 (.inr (.inr 1)) (Or.inr (Or.inl ⟨rfl, rfl, by decide +kernel⟩)) <|
  alln
theorem kX5_streamBytes : ∀ q ∈ tX5_streamBytes, qX5_streamBytes q := alla kX5_streamBytes_0 kX5_streamBytes_1
abbrev qX5_shape : Nat × aI → Prop := OkQ RX5 "shape" cX5_shape 2 (some .int)
set_option maxRecDepth 20000 in
theorem kX5_shape_0 : ∀ q ∈ tX5_shape_0, qX5_shape q :=
  allq qX5_shape 0 (.inl (a_al 0 1)) (s_aload_n (q := 0) (i := 0) rfl (by decide +kernel)) <|
  allq qX5_shape 1 (.inl (a_get 5 2 4)) (gX5 (f0 := 2) (by decide) kw_377 (by decide +kernel)) <|
  allq qX5_shape 4 (.inl (a_ic 1024 7)) (s_sipush (n := 1024) (v := 1024) rfl (by decide +kernel)) <|
  allq qX5_shape 7 (.inl (o_icmp_ge 23 10)) (s_icmp_ge (off := 16) (by decide +kernel) (by decide)) <|
  allq qX5_shape 10 (.inl (a_il 1 11)) (s_iload_n (q := 1) (i := 1) rfl (by decide +kernel)) <|
  allq qX5_shape 11 (.inl (a_ic 1024 14)) (s_sipush (n := 1024) (v := 1024) rfl (by decide +kernel)) <|
  allq qX5_shape 14 (.inl (o_icmp_ge 21 17)) (s_icmp_ge (off := 7) (by decide +kernel) (by decide)) <|
  allq qX5_shape 17 (.inl (a_ic 0 18)) (s_iconst (n := 0) (v := 0) rfl (by decide +kernel)) <|
  allq qX5_shape 18 (.inl (a_go 22)) (s_goto (off := 4) (by decide +kernel) (by decide)) <|
  allq qX5_shape 21 (.inl (a_ic (-1) 22)) (s_iconst (n := (-1)) (v := (-1)) rfl (by decide +kernel)) <|
  allq qX5_shape 22 (.inr (.inr 1)) (Or.inr (Or.inl ⟨rfl, rfl, by decide +kernel⟩)) <|
  allq qX5_shape 23 (.inl (a_al 0 24)) (s_aload_n (q := 0) (i := 0) rfl (by decide +kernel)) <|
  allq qX5_shape 24 (.inl (a_get 5 2 27)) (gX5 (f0 := 2) (by decide) kw_377 (by decide +kernel)) <|
  allq qX5_shape 27 (.inl (a_ic 16384 30)) (s_sipush (n := 16384) (v := 16384) rfl (by decide +kernel)) <|
  allq qX5_shape 30 (.inl (o_icmp_ge 44 33)) (s_icmp_ge (off := 14) (by decide +kernel) (by decide)) <|
  allq qX5_shape 33 (.inl (a_il 1 34)) (s_iload_n (q := 1) (i := 1) rfl (by decide +kernel)) <|
  allq qX5_shape 34 (.inl (a_ic 16384 37)) (s_sipush (n := 16384) (v := 16384) rfl (by decide +kernel)) <|
  allq qX5_shape 37 (.inl (o_icmp_ge 44 40)) (s_icmp_ge (off := 7) (by decide +kernel) (by decide)) <|
  allq qX5_shape 40 (.inl (a_ic 2 41)) (s_iconst (n := 2) (v := 2) rfl (by decide +kernel)) <|
  allq qX5_shape 41 (.inl (a_go 45)) (s_goto (off := 4) (by decide +kernel) (by decide)) <|
  allq qX5_shape 44 (.inl (a_ic 3 45)) (s_iconst (n := 3) (v := 3) rfl (by decide +kernel)) <|
  allq qX5_shape 45 (.inr (.inr 1)) (Or.inr (Or.inl ⟨rfl, rfl, by decide +kernel⟩)) <|
  alln
theorem kX5_shape : ∀ q ∈ tX5_shape, qX5_shape q := kX5_shape_0
abbrev qX5_codedHead : Nat × aI → Prop := OkQ RX5 "codedHead" cX5_codedHead 1 (some .int)
set_option maxRecDepth 20000 in
theorem kX5_codedHead_0 : ∀ q ∈ tX5_codedHead_0, qX5_codedHead q :=
  allq qX5_codedHead 0 (.inl (a_il 0 1)) (s_iload_n (q := 0) (i := 0) rfl (by decide +kernel)) <|
  allq qX5_codedHead 1 (.inl (a_ic 2 2)) (s_iconst (n := 2) (v := 2) rfl (by decide +kernel)) <|
  allq qX5_codedHead 2 (.inl (o_icmp_ge 9 5)) (s_icmp_ge (off := 7) (by decide +kernel) (by decide)) <|
  allq qX5_codedHead 5 (.inl (a_ic 3 6)) (s_iconst (n := 3) (v := 3) rfl (by decide +kernel)) <|
  allq qX5_codedHead 6 (.inl (a_go 12)) (s_goto (off := 6) (by decide +kernel) (by decide)) <|
  allq qX5_codedHead 9 (.inl (a_il 0 10)) (s_iload_n (q := 0) (i := 0) rfl (by decide +kernel)) <|
  allq qX5_codedHead 10 (.inl (a_ic 2 11)) (s_iconst (n := 2) (v := 2) rfl (by decide +kernel)) <|
  allq qX5_codedHead 11 (.inl (o_iadd 12)) (s_iadd (by decide +kernel)) <|
  allq qX5_codedHead 12 (.inr (.inr 1)) (Or.inr (Or.inl ⟨rfl, rfl, by decide +kernel⟩)) <|
  alln
theorem kX5_codedHead : ∀ q ∈ tX5_codedHead, qX5_codedHead q := kX5_codedHead_0
abbrev qX5_put : Nat × aI → Prop := OkQ RX5 "put" cX5_put 5 (none)
set_option maxRecDepth 20000 in
theorem kX5_put_0 : ∀ q ∈ tX5_put_0, qX5_put q :=
  allq qX5_put 0 (.inl (a_al 0 1)) (s_aload_n (q := 0) (i := 0) rfl (by decide +kernel)) <|
  allq qX5_put 1 (.inl (a_get 5 8 4)) (gX5 (f0 := 8) (by decide) kw_383 (by decide +kernel)) <|
  allq qX5_put 4 (.inl (a_ic 2 5)) (s_iconst (n := 2) (v := 2) rfl (by decide +kernel)) <|
  allq qX5_put 5 (.inl (o_icmp_ge 14 8)) (s_icmp_ge (off := 9) (by decide +kernel) (by decide)) <|
  allq qX5_put 8 (.inl (a_al 0 9)) (s_aload_n (q := 0) (i := 0) rfl (by decide +kernel)) <|
  allq qX5_put 9 (.inl (a_al 1 10)) (s_aload_n (q := 1) (i := 1) rfl (by decide +kernel)) <|
  allq qX5_put 10 (.inr (.inl (64, 2, 6))) (okV (y := yX5_putPlain) kw_1043 kw_113 rfl rfl (by decide +kernel) kw_1042 kw_33 kw_1040) <|
  allq qX5_put 13 (.inr (.inr 0)) (Or.inl ⟨rfl, rfl, by decide +kernel⟩) <|
  allq qX5_put 14 (.inl (a_al 0 15)) (s_aload_n (q := 0) (i := 0) rfl (by decide +kernel)) <|
  allq qX5_put 15 (.inl (a_get 5 10 18)) (gX5 (f0 := 10) (by decide) kw_386 (by decide +kernel)) <|
  allq qX5_put 18 (.inl (a_ic 2 19)) (s_iconst (n := 2) (v := 2) rfl (by decide +kernel)) <|
  allq qX5_put 19 (.inl (o_icmp_ge 27 22)) (s_icmp_ge (off := 8) (by decide +kernel) (by decide)) <|
  allq qX5_put 22 (.inl (a_ic 10 24)) (s_bipush (n := 10) (v := 10) rfl (by decide +kernel)) <|
  allq qX5_put 24 (.inl (a_go 36)) (s_goto (off := 12) (by decide +kernel) (by decide)) <|
  allq qX5_put 27 (.inl (a_ic 4 28)) (s_iconst (n := 4) (v := 4) rfl (by decide +kernel)) <|
  allq qX5_put 28 (.inl (a_al 0 29)) (s_aload_n (q := 0) (i := 0) rfl (by decide +kernel)) <|
  allq qX5_put 29 (.inl (a_get 5 10 32)) (gX5 (f0 := 10) (by decide) kw_386 (by decide +kernel)) <|
  allq qX5_put 32 (.inl (o_imul 33)) (s_imul (by decide +kernel)) <|
  allq qX5_put 33 (.inl (a_ic 6 35)) (s_bipush (n := 6) (v := 6) rfl (by decide +kernel)) <|
  allq qX5_put 35 (.inl (o_iadd 36)) (s_iadd (by decide +kernel)) <|
  allq qX5_put 36 (.inl (a_is 2 37)) (s_istore_n (q := 2) (i := 2) rfl (by decide +kernel) (by decide)) <|
  allq qX5_put 37 (.inl (a_al 0 38)) (s_aload_n (q := 0) (i := 0) rfl (by decide +kernel)) <|
  allq qX5_put 38 (.inl (a_get 5 8 41)) (gX5 (f0 := 8) (by decide) kw_383 (by decide +kernel)) <|
  allq qX5_put 41 (.inl (a_ic 4 42)) (s_iconst (n := 4) (v := 4) rfl (by decide +kernel)) <|
  allq qX5_put 42 (.inl (a_al 0 43)) (s_aload_n (q := 0) (i := 0) rfl (by decide +kernel)) <|
  allq qX5_put 43 (.inl (a_get 5 10 46)) (gX5 (f0 := 10) (by decide) kw_386 (by decide +kernel)) <|
  allq qX5_put 46 (.inl (o_imul 47)) (s_imul (by decide +kernel)) <|
  allq qX5_put 47 (.inl (o_iadd 48)) (s_iadd (by decide +kernel)) <|
  allq qX5_put 48 (.inl (a_i2l 49)) (s_i2l (by decide +kernel)) <|
  allq qX5_put 49 (.inl (a_lc 16 52)) (s_ldc2 kw_1046 (by decide +kernel)) <|
  allq qX5_put 52 (.inl (a_al 0 53)) (s_aload_n (q := 0) (i := 0) rfl (by decide +kernel)) <|
  allq qX5_put 53 (.inl (a_get 5 2 56)) (gX5 (f0 := 2) (by decide) kw_377 (by decide +kernel)) <|
  allq qX5_put 56 (.inl (a_i2l 57)) (s_i2l (by decide +kernel)) <|
  allq qX5_put 57 (.inl (o_lmul 58)) (s_lmul (by decide +kernel)) <|
  allq qX5_put 58 (.inl (o_ladd 59)) (s_ladd (by decide +kernel)) <|
  allq qX5_put 59 (.inl (a_al 0 60)) (s_aload_n (q := 0) (i := 0) rfl (by decide +kernel)) <|
  allq qX5_put 60 (.inl (a_get 5 11 63)) (gX5 (f0 := 11) (by decide) kw_387 (by decide +kernel)) <|
  allq qX5_put 63 (.inl (a_i2l 64)) (s_i2l (by decide +kernel)) <|
  allq qX5_put 64 (.inl (a_ic 4 65)) (s_iconst (n := 4) (v := 4) rfl (by decide +kernel)) <|
  allq qX5_put 65 (.inl (a_il 2 66)) (s_iload_n (q := 2) (i := 2) rfl (by decide +kernel)) <|
  alln
set_option maxRecDepth 20000 in
theorem kX5_put_1 : ∀ q ∈ tX5_put_1, qX5_put q :=
  allq qX5_put 66 (.inl (o_iadd 67)) (s_iadd (by decide +kernel)) <|
  allq qX5_put 67 (.inl (o_lshl 68)) (s_lshl (by decide +kernel)) <|
  allq qX5_put 68 (.inl (o_ladd 69)) (s_ladd (by decide +kernel)) <|
  allq qX5_put 69 (.inl (a_lst 3 70)) (s_lstore_n (q := 3) (i := 3) rfl (by decide +kernel) (by decide)) <|
  allq qX5_put 70 (.inl (a_al 1 71)) (s_aload_n (q := 1) (i := 1) rfl (by decide +kernel)) <|
  allq qX5_put 71 (.inl (a_ll 3 72)) (s_lload_n (q := 3) (i := 3) rfl (by decide +kernel)) <|
  allq qX5_put 72 (.inl (a_al 0 73)) (s_aload_n (q := 0) (i := 0) rfl (by decide +kernel)) <|
  allq qX5_put 73 (.inl (a_get 5 10 76)) (gX5 (f0 := 10) (by decide) kw_386 (by decide +kernel)) <|
  allq qX5_put 76 (.inr (.inl (62, 1, 0))) (okS (y := yX5_codedHead) kw_1026 kw_113 rfl (by decide +kernel) kw_1025 (Or.inl kw_1024)) <|
  allq qX5_put 79 (.inr (.inl (87, 3, 8))) (okV (y := yX7_putNumber) kw_737 kw_105 rfl rfl (by decide +kernel) kw_735 kw_736 kw_1044) <|
  allq qX5_put 82 (.inl (a_al 0 83)) (s_aload_n (q := 0) (i := 0) rfl (by decide +kernel)) <|
  allq qX5_put 83 (.inl (a_get 5 8 86)) (gX5 (f0 := 8) (by decide) kw_383 (by decide +kernel)) <|
  allq qX5_put 86 (.inl (a_ic 2 87)) (s_iconst (n := 2) (v := 2) rfl (by decide +kernel)) <|
  allq qX5_put 87 (.inl (o_icmp_ne 95 90)) (s_icmp_ne (off := 8) (by decide +kernel) (by decide)) <|
  allq qX5_put 90 (.inl (a_al 0 91)) (s_aload_n (q := 0) (i := 0) rfl (by decide +kernel)) <|
  allq qX5_put 91 (.inl (a_al 1 92)) (s_aload_n (q := 1) (i := 1) rfl (by decide +kernel)) <|
  allq qX5_put 92 (.inr (.inl (65, 2, 6))) (okV (y := yX5_putDescription) kw_1050 kw_113 rfl rfl (by decide +kernel) kw_1048 kw_1049 kw_1047) <|
  allq qX5_put 95 (.inl (a_al 0 96)) (s_aload_n (q := 0) (i := 0) rfl (by decide +kernel)) <|
  allq qX5_put 96 (.inl (a_al 1 97)) (s_aload_n (q := 1) (i := 1) rfl (by decide +kernel)) <|
  allq qX5_put 97 (.inl (a_al 0 98)) (s_aload_n (q := 0) (i := 0) rfl (by decide +kernel)) <|
  allq qX5_put 98 (.inl (a_get 5 8 101)) (gX5 (f0 := 8) (by decide) kw_383 (by decide +kernel)) <|
  allq qX5_put 101 (.inl (a_ic 2 102)) (s_iconst (n := 2) (v := 2) rfl (by decide +kernel)) <|
  allq qX5_put 102 (.inl (o_icmp_ne 112 105)) (s_icmp_ne (off := 10) (by decide +kernel) (by decide)) <|
  allq qX5_put 105 (.inl (a_al 0 106)) (s_aload_n (q := 0) (i := 0) rfl (by decide +kernel)) <|
  allq qX5_put 106 (.inl (a_get 5 4 109)) (gX5 (f0 := 4) (by decide) kw_379 (by decide +kernel)) <|
  allq qX5_put 109 (.inl (a_go 116)) (s_goto (off := 7) (by decide +kernel) (by decide)) <|
  allq qX5_put 112 (.inl (a_al 0 113)) (s_aload_n (q := 0) (i := 0) rfl (by decide +kernel)) <|
  allq qX5_put 113 (.inl (a_get 5 3 116)) (gX5 (f0 := 3) (by decide) kw_378 (by decide +kernel)) <|
  allq qX5_put 116 (.inr (.inl (66, 3, 6))) (okV (y := yX5_putStreams) kw_1055 kw_113 rfl rfl (by decide +kernel) kw_1054 kw_34 kw_1052) <|
  allq qX5_put 119 (.inr (.inr 0)) (Or.inl ⟨rfl, rfl, by decide +kernel⟩) <|
  alln
theorem kX5_put : ∀ q ∈ tX5_put, qX5_put q := alla kX5_put_0 kX5_put_1
abbrev qX5_putPlain : Nat × aI → Prop := OkQ RX5 "putPlain" cX5_putPlain 3 (none)
set_option maxRecDepth 20000 in
theorem kX5_putPlain_0 : ∀ q ∈ tX5_putPlain_0, qX5_putPlain q :=
  allq qX5_putPlain 0 (.inl (a_al 0 1)) (s_aload_n (q := 0) (i := 0) rfl (by decide +kernel)) <|
  allq qX5_putPlain 1 (.inr (.inl (58, 1, 6))) (okV (y := yX5_plainHead) kw_1002 kw_113 rfl rfl (by decide +kernel) kw_1001 kw_27 kw_999) <|
  allq qX5_putPlain 4 (.inl (a_is 2 5)) (s_istore_n (q := 2) (i := 2) rfl (by decide +kernel) (by decide)) <|
  allq qX5_putPlain 5 (.inl (a_al 1 6)) (s_aload_n (q := 1) (i := 1) rfl (by decide +kernel)) <|
  allq qX5_putPlain 6 (.inl (a_il 2 7)) (s_iload_n (q := 2) (i := 2) rfl (by decide +kernel)) <|
  allq qX5_putPlain 7 (.inl (a_ic 1 8)) (s_iconst (n := 1) (v := 1) rfl (by decide +kernel)) <|
  allq qX5_putPlain 8 (.inl (o_icmp_ne 27 11)) (s_icmp_ne (off := 19) (by decide +kernel) (by decide)) <|
  allq qX5_putPlain 11 (.inl (a_al 0 12)) (s_aload_n (q := 0) (i := 0) rfl (by decide +kernel)) <|
  allq qX5_putPlain 12 (.inl (a_get 5 8 15)) (gX5 (f0 := 8) (by decide) kw_383 (by decide +kernel)) <|
  allq qX5_putPlain 15 (.inl (a_ic 8 17)) (s_bipush (n := 8) (v := 8) rfl (by decide +kernel)) <|
  allq qX5_putPlain 17 (.inl (a_al 0 18)) (s_aload_n (q := 0) (i := 0) rfl (by decide +kernel)) <|
  allq qX5_putPlain 18 (.inl (a_get 5 2 21)) (gX5 (f0 := 2) (by decide) kw_377 (by decide +kernel)) <|
  allq qX5_putPlain 21 (.inl (o_imul 22)) (s_imul (by decide +kernel)) <|
  allq qX5_putPlain 22 (.inl (o_iadd 23)) (s_iadd (by decide +kernel)) <|
  allq qX5_putPlain 23 (.inl (a_i2l 24)) (s_i2l (by decide +kernel)) <|
  allq qX5_putPlain 24 (.inl (a_go 48)) (s_goto (off := 24) (by decide +kernel) (by decide)) <|
  allq qX5_putPlain 27 (.inl (a_al 0 28)) (s_aload_n (q := 0) (i := 0) rfl (by decide +kernel)) <|
  allq qX5_putPlain 28 (.inl (a_get 5 8 31)) (gX5 (f0 := 8) (by decide) kw_383 (by decide +kernel)) <|
  allq qX5_putPlain 31 (.inl (a_ic 4 32)) (s_iconst (n := 4) (v := 4) rfl (by decide +kernel)) <|
  allq qX5_putPlain 32 (.inl (a_ic 2 33)) (s_iconst (n := 2) (v := 2) rfl (by decide +kernel)) <|
  allq qX5_putPlain 33 (.inl (a_il 2 34)) (s_iload_n (q := 2) (i := 2) rfl (by decide +kernel)) <|
  allq qX5_putPlain 34 (.inl (o_imul 35)) (s_imul (by decide +kernel)) <|
  allq qX5_putPlain 35 (.inl (a_ic 3 36)) (s_iconst (n := 3) (v := 3) rfl (by decide +kernel)) <|
  allq qX5_putPlain 36 (.inl (o_isub 37)) (s_isub (by decide +kernel)) <|
  allq qX5_putPlain 37 (.inl (o_imul 38)) (s_imul (by decide +kernel)) <|
  allq qX5_putPlain 38 (.inl (o_iadd 39)) (s_iadd (by decide +kernel)) <|
  allq qX5_putPlain 39 (.inl (a_ic 16 41)) (s_bipush (n := 16) (v := 16) rfl (by decide +kernel)) <|
  allq qX5_putPlain 41 (.inl (a_al 0 42)) (s_aload_n (q := 0) (i := 0) rfl (by decide +kernel)) <|
  allq qX5_putPlain 42 (.inl (a_get 5 2 45)) (gX5 (f0 := 2) (by decide) kw_377 (by decide +kernel)) <|
  allq qX5_putPlain 45 (.inl (o_imul 46)) (s_imul (by decide +kernel)) <|
  allq qX5_putPlain 46 (.inl (o_iadd 47)) (s_iadd (by decide +kernel)) <|
  allq qX5_putPlain 47 (.inl (a_i2l 48)) (s_i2l (by decide +kernel)) <|
  allq qX5_putPlain 48 (.inl (a_il 2 49)) (s_iload_n (q := 2) (i := 2) rfl (by decide +kernel)) <|
  allq qX5_putPlain 49 (.inr (.inl (87, 3, 8))) (okV (y := yX7_putNumber) kw_737 kw_105 rfl rfl (by decide +kernel) kw_735 kw_736 kw_1044) <|
  allq qX5_putPlain 52 (.inl (a_al 1 53)) (s_aload_n (q := 1) (i := 1) rfl (by decide +kernel)) <|
  allq qX5_putPlain 53 (.inl (a_al 0 54)) (s_aload_n (q := 0) (i := 0) rfl (by decide +kernel)) <|
  allq qX5_putPlain 54 (.inl (a_get 5 0 57)) (gX5 (f0 := 0) (by decide) kw_375 (by decide +kernel)) <|
  allq qX5_putPlain 57 (.inl (a_ic 0 58)) (s_iconst (n := 0) (v := 0) rfl (by decide +kernel)) <|
  allq qX5_putPlain 58 (.inl (a_al 0 59)) (s_aload_n (q := 0) (i := 0) rfl (by decide +kernel)) <|
  allq qX5_putPlain 59 (.inl (a_get 5 8 62)) (gX5 (f0 := 8) (by decide) kw_383 (by decide +kernel)) <|
  alln
set_option maxRecDepth 20000 in
theorem kX5_putPlain_1 : ∀ q ∈ tX5_putPlain_1, qX5_putPlain q :=
  allq qX5_putPlain 62 (.inl (o_if_ne 72 65)) (s_if_ne (off := 10) (by decide +kernel) (by decide)) <|
  allq qX5_putPlain 65 (.inl (a_al 0 66)) (s_aload_n (q := 0) (i := 0) rfl (by decide +kernel)) <|
  allq qX5_putPlain 66 (.inl (a_get 5 2 69)) (gX5 (f0 := 2) (by decide) kw_377 (by decide +kernel)) <|
  allq qX5_putPlain 69 (.inl (a_go 73)) (s_goto (off := 4) (by decide +kernel) (by decide)) <|
  allq qX5_putPlain 72 (.inl (a_ic 1 73)) (s_iconst (n := 1) (v := 1) rfl (by decide +kernel)) <|
  allq qX5_putPlain 73 (.inr (.inl (89, 4, 8))) (okV (y := yX7_putCells) kw_638 kw_105 rfl rfl (by decide +kernel) kw_636 kw_637 kw_1045) <|
  allq qX5_putPlain 76 (.inr (.inr 0)) (Or.inl ⟨rfl, rfl, by decide +kernel⟩) <|
  alln
theorem kX5_putPlain : ∀ q ∈ tX5_putPlain, qX5_putPlain q := alla kX5_putPlain_0 kX5_putPlain_1
abbrev qX5_putDescription : Nat × aI → Prop := OkQ RX5 "putDescription" cX5_putDescription 2 (none)
set_option maxRecDepth 20000 in
theorem kX5_putDescription_0 : ∀ q ∈ tX5_putDescription_0, qX5_putDescription q :=
  allq qX5_putDescription 0 (.inl (a_al 1 1)) (s_aload_n (q := 1) (i := 1) rfl (by decide +kernel)) <|
  allq qX5_putDescription 1 (.inl (a_al 0 2)) (s_aload_n (q := 0) (i := 0) rfl (by decide +kernel)) <|
  allq qX5_putDescription 2 (.inl (a_get 5 7 5)) (gX5 (f0 := 7) (by decide) kw_382 (by decide +kernel)) <|
  allq qX5_putDescription 5 (.inl (a_ic 0 6)) (s_iconst (n := 0) (v := 0) rfl (by decide +kernel)) <|
  allq qX5_putDescription 6 (.inl (a_al 0 7)) (s_aload_n (q := 0) (i := 0) rfl (by decide +kernel)) <|
  allq qX5_putDescription 7 (.inl (a_get 5 7 10)) (gX5 (f0 := 7) (by decide) kw_382 (by decide +kernel)) <|
  allq qX5_putDescription 10 (.inl (a_get 7 1 13)) (gX7 (f0 := 1) (by decide) kw_145 (by decide +kernel)) <|
  allq qX5_putDescription 13 (.inr (.inl (88, 4, 8))) (okV (y := yX7_putRow) kw_633 kw_105 rfl rfl (by decide +kernel) kw_631 kw_632 kw_1051) <|
  allq qX5_putDescription 16 (.inr (.inr 0)) (Or.inl ⟨rfl, rfl, by decide +kernel⟩) <|
  alln
theorem kX5_putDescription : ∀ q ∈ tX5_putDescription, qX5_putDescription q := kX5_putDescription_0
abbrev qX5_putStreams : Nat × aI → Prop := OkQ RX5 "putStreams" cX5_putStreams 5 (none)
set_option maxRecDepth 20000 in
theorem kX5_putStreams_0 : ∀ q ∈ tX5_putStreams_0, qX5_putStreams q :=
  allq qX5_putStreams 0 (.inl (a_al 0 1)) (s_aload_n (q := 0) (i := 0) rfl (by decide +kernel)) <|
  allq qX5_putStreams 1 (.inl (a_get 5 2 4)) (gX5 (f0 := 2) (by decide) kw_377 (by decide +kernel)) <|
  allq qX5_putStreams 4 (.inl (a_ic 1024 7)) (s_sipush (n := 1024) (v := 1024) rfl (by decide +kernel)) <|
  allq qX5_putStreams 7 (.inl (o_icmp_ge 25 10)) (s_icmp_ge (off := 18) (by decide +kernel) (by decide)) <|
  allq qX5_putStreams 10 (.inl (a_al 2 11)) (s_aload_n (q := 2) (i := 2) rfl (by decide +kernel)) <|
  allq qX5_putStreams 11 (.inl (a_al 1 12)) (s_aload_n (q := 1) (i := 1) rfl (by decide +kernel)) <|
  allq qX5_putStreams 12 (.inl (a_al 0 13)) (s_aload_n (q := 0) (i := 0) rfl (by decide +kernel)) <|
  allq qX5_putStreams 13 (.inl (a_get 5 0 16)) (gX5 (f0 := 0) (by decide) kw_375 (by decide +kernel)) <|
  allq qX5_putStreams 16 (.inl (a_ic 0 17)) (s_iconst (n := 0) (v := 0) rfl (by decide +kernel)) <|
  allq qX5_putStreams 17 (.inl (a_al 0 18)) (s_aload_n (q := 0) (i := 0) rfl (by decide +kernel)) <|
  allq qX5_putStreams 18 (.inl (a_get 5 2 21)) (gX5 (f0 := 2) (by decide) kw_377 (by decide +kernel)) <|
  allq qX5_putStreams 21 (.inr (.inl (6, 5, 1))) (okV (y := yX0_putStream) kw_1059 kw_108 rfl rfl (by decide +kernel) kw_1057 kw_1058 kw_1056) <|
  allq qX5_putStreams 24 (.inr (.inr 0)) (Or.inl ⟨rfl, rfl, by decide +kernel⟩) <|
  allq qX5_putStreams 25 (.inl (a_al 0 26)) (s_aload_n (q := 0) (i := 0) rfl (by decide +kernel)) <|
  allq qX5_putStreams 26 (.inl (a_get 5 2 29)) (gX5 (f0 := 2) (by decide) kw_377 (by decide +kernel)) <|
  allq qX5_putStreams 29 (.inl (a_ic 3 30)) (s_iconst (n := 3) (v := 3) rfl (by decide +kernel)) <|
  allq qX5_putStreams 30 (.inl (o_iadd 31)) (s_iadd (by decide +kernel)) <|
  allq qX5_putStreams 31 (.inl (a_ic 4 32)) (s_iconst (n := 4) (v := 4) rfl (by decide +kernel)) <|
  allq qX5_putStreams 32 (.inl (o_idiv 33)) (s_idiv (by decide +kernel)) <|
  allq qX5_putStreams 33 (.inl (a_is 3 34)) (s_istore_n (q := 3) (i := 3) rfl (by decide +kernel) (by decide)) <|
  allq qX5_putStreams 34 (.inl (a_ic 0 35)) (s_iconst (n := 0) (v := 0) rfl (by decide +kernel)) <|
  allq qX5_putStreams 35 (.inl (a_is 4 37)) (s_istore (i := 4) (by decide +kernel) (by decide)) <|
  allq qX5_putStreams 37 (.inl (a_il 4 39)) (s_iload (i := 4) (by decide +kernel)) <|
  allq qX5_putStreams 39 (.inl (a_ic 3 40)) (s_iconst (n := 3) (v := 3) rfl (by decide +kernel)) <|
  allq qX5_putStreams 40 (.inl (o_icmp_ge 73 43)) (s_icmp_ge (off := 33) (by decide +kernel) (by decide)) <|
  allq qX5_putStreams 43 (.inl (a_al 1 44)) (s_aload_n (q := 1) (i := 1) rfl (by decide +kernel)) <|
  allq qX5_putStreams 44 (.inl (a_al 2 45)) (s_aload_n (q := 2) (i := 2) rfl (by decide +kernel)) <|
  allq qX5_putStreams 45 (.inl (a_al 0 46)) (s_aload_n (q := 0) (i := 0) rfl (by decide +kernel)) <|
  allq qX5_putStreams 46 (.inl (a_get 5 0 49)) (gX5 (f0 := 0) (by decide) kw_375 (by decide +kernel)) <|
  allq qX5_putStreams 49 (.inl (a_il 4 51)) (s_iload (i := 4) (by decide +kernel)) <|
  allq qX5_putStreams 51 (.inl (a_il 3 52)) (s_iload_n (q := 3) (i := 3) rfl (by decide +kernel)) <|
  allq qX5_putStreams 52 (.inl (o_imul 53)) (s_imul (by decide +kernel)) <|
  allq qX5_putStreams 53 (.inl (a_il 4 55)) (s_iload (i := 4) (by decide +kernel)) <|
  allq qX5_putStreams 55 (.inl (a_ic 1 56)) (s_iconst (n := 1) (v := 1) rfl (by decide +kernel)) <|
  allq qX5_putStreams 56 (.inl (o_iadd 57)) (s_iadd (by decide +kernel)) <|
  allq qX5_putStreams 57 (.inl (a_il 3 58)) (s_iload_n (q := 3) (i := 3) rfl (by decide +kernel)) <|
  allq qX5_putStreams 58 (.inl (o_imul 59)) (s_imul (by decide +kernel)) <|
  allq qX5_putStreams 59 (.inr (.inl (5, 4, 1))) (okV (y := yX0_streamBytes) kw_1018 kw_108 rfl rfl (by decide +kernel) kw_1016 kw_1017 kw_1015) <|
  allq qX5_putStreams 62 (.inl (a_i2l 63)) (s_i2l (by decide +kernel)) <|
  allq qX5_putStreams 63 (.inl (a_ic 2 64)) (s_iconst (n := 2) (v := 2) rfl (by decide +kernel)) <|
  alln
set_option maxRecDepth 20000 in
theorem kX5_putStreams_1 : ∀ q ∈ tX5_putStreams_1, qX5_putStreams q :=
  allq qX5_putStreams 64 (.inr (.inl (87, 3, 8))) (okV (y := yX7_putNumber) kw_737 kw_105 rfl rfl (by decide +kernel) kw_735 kw_736 kw_1044) <|
  allq qX5_putStreams 67 (.inl (a_inc 4 1 70)) (s_iinc (i := 4) (n := 1) (n2 := 1) rfl (by decide +kernel) (by decide)) <|
  allq qX5_putStreams 70 (.inl (a_go 37)) (s_goto (off := (-33)) (by decide +kernel) (by decide)) <|
  allq qX5_putStreams 73 (.inl (a_ic 0 74)) (s_iconst (n := 0) (v := 0) rfl (by decide +kernel)) <|
  allq qX5_putStreams 74 (.inl (a_is 4 76)) (s_istore (i := 4) (by decide +kernel) (by decide)) <|
  allq qX5_putStreams 76 (.inl (a_il 4 78)) (s_iload (i := 4) (by decide +kernel)) <|
  allq qX5_putStreams 78 (.inl (a_ic 4 79)) (s_iconst (n := 4) (v := 4) rfl (by decide +kernel)) <|
  allq qX5_putStreams 79 (.inl (o_icmp_ge 114 82)) (s_icmp_ge (off := 35) (by decide +kernel) (by decide)) <|
  allq qX5_putStreams 82 (.inl (a_al 2 83)) (s_aload_n (q := 2) (i := 2) rfl (by decide +kernel)) <|
  allq qX5_putStreams 83 (.inl (a_al 1 84)) (s_aload_n (q := 1) (i := 1) rfl (by decide +kernel)) <|
  allq qX5_putStreams 84 (.inl (a_al 0 85)) (s_aload_n (q := 0) (i := 0) rfl (by decide +kernel)) <|
  allq qX5_putStreams 85 (.inl (a_get 5 0 88)) (gX5 (f0 := 0) (by decide) kw_375 (by decide +kernel)) <|
  allq qX5_putStreams 88 (.inl (a_il 4 90)) (s_iload (i := 4) (by decide +kernel)) <|
  allq qX5_putStreams 90 (.inl (a_il 3 91)) (s_iload_n (q := 3) (i := 3) rfl (by decide +kernel)) <|
  allq qX5_putStreams 91 (.inl (o_imul 92)) (s_imul (by decide +kernel)) <|
  allq qX5_putStreams 92 (.inl (a_il 4 94)) (s_iload (i := 4) (by decide +kernel)) <|
  allq qX5_putStreams 94 (.inl (a_ic 1 95)) (s_iconst (n := 1) (v := 1) rfl (by decide +kernel)) <|
  allq qX5_putStreams 95 (.inl (o_iadd 96)) (s_iadd (by decide +kernel)) <|
  allq qX5_putStreams 96 (.inl (a_il 3 97)) (s_iload_n (q := 3) (i := 3) rfl (by decide +kernel)) <|
  allq qX5_putStreams 97 (.inl (o_imul 98)) (s_imul (by decide +kernel)) <|
  allq qX5_putStreams 98 (.inl (a_al 0 99)) (s_aload_n (q := 0) (i := 0) rfl (by decide +kernel)) <|
  allq qX5_putStreams 99 (.inl (a_get 5 2 102)) (gX5 (f0 := 2) (by decide) kw_377 (by decide +kernel)) <|
  allq qX5_putStreams 102 (.inl (o_mmin 105)) (s_mmin kw_1019 kw_498 kw_106 kw_499 (by decide +kernel)) <|
  allq qX5_putStreams 105 (.inr (.inl (6, 5, 1))) (okV (y := yX0_putStream) kw_1059 kw_108 rfl rfl (by decide +kernel) kw_1057 kw_1058 kw_1056) <|
  allq qX5_putStreams 108 (.inl (a_inc 4 1 111)) (s_iinc (i := 4) (n := 1) (n2 := 1) rfl (by decide +kernel) (by decide)) <|
  allq qX5_putStreams 111 (.inl (a_go 76)) (s_goto (off := (-35)) (by decide +kernel) (by decide)) <|
  allq qX5_putStreams 114 (.inr (.inr 0)) (Or.inl ⟨rfl, rfl, by decide +kernel⟩) <|
  alln
theorem kX5_putStreams : ∀ q ∈ tX5_putStreams, qX5_putStreams q := alla kX5_putStreams_0 kX5_putStreams_1
abbrev qX5_keep : Nat × aI → Prop := OkQ RX5 "keep" cX5_keep 1 (none)
set_option maxRecDepth 20000 in
theorem kX5_keep_0 : ∀ q ∈ tX5_keep_0, qX5_keep q :=
  allq qX5_keep 0 (.inl (a_al 0 1)) (s_aload_n (q := 0) (i := 0) rfl (by decide +kernel)) <|
  allq qX5_keep 1 (.inl (a_get 5 8 4)) (gX5 (f0 := 8) (by decide) kw_383 (by decide +kernel)) <|
  allq qX5_keep 4 (.inl (a_ic 2 5)) (s_iconst (n := 2) (v := 2) rfl (by decide +kernel)) <|
  allq qX5_keep 5 (.inl (o_icmp_ne 19 8)) (s_icmp_ne (off := 14) (by decide +kernel) (by decide)) <|
  allq qX5_keep 8 (.inl (a_al 0 9)) (s_aload_n (q := 0) (i := 0) rfl (by decide +kernel)) <|
  allq qX5_keep 9 (.inl (a_get 5 3 12)) (gX5 (f0 := 3) (by decide) kw_378 (by decide +kernel)) <|
  allq qX5_keep 12 (.inl (a_al 0 13)) (s_aload_n (q := 0) (i := 0) rfl (by decide +kernel)) <|
  allq qX5_keep 13 (.inl (a_get 5 4 16)) (gX5 (f0 := 4) (by decide) kw_379 (by decide +kernel)) <|
  allq qX5_keep 16 (.inr (.inl (1, 2, 1))) (okV (y := yX0_become) kw_750 kw_108 rfl rfl (by decide +kernel) kw_748 kw_749 kw_747) <|
  allq qX5_keep 19 (.inr (.inr 0)) (Or.inl ⟨rfl, rfl, by decide +kernel⟩) <|
  alln
theorem kX5_keep : ∀ q ∈ tX5_keep, qX5_keep q := kX5_keep_0
abbrev qX6_init : Nat × aI → Prop := OkQ RX6 "<init>" cX6_init 2 (none)
set_option maxRecDepth 20000 in
theorem kX6_init_0 : ∀ q ∈ tX6_init_0, qX6_init q :=
  allq qX6_init 0 (.inl (a_al 0 1)) (s_aload_n (q := 0) (i := 0) rfl (by decide +kernel)) <|
  allq qX6_init 1 (.inl (a_oi 4)) (s_oi kw_294 kw_126 kw_127 (by decide +kernel)) <|
  allq qX6_init 4 (.inl (a_al 0 5)) (s_aload_n (q := 0) (i := 0) rfl (by decide +kernel)) <|
  allq qX6_init 5 (.inl (a_new 3 13 zX3 8)) (nX3 kw_295 (by decide +kernel)) <|
  allq qX6_init 8 (.inl (a_dup 9)) (s_dup (by decide +kernel)) <|
  allq qX6_init 9 (.inr (.inl (32, 1, 4))) (okN (y := yX3_init) kw_299 kw_112 rfl (by decide +kernel) kw_298 (Or.inr ⟨"StatePress", kn_297⟩)) <|
  allq qX6_init 12 (.inl (a_put 6 0 (.object "StatePress$Finder") 15)) (fX6 (f0 := 0) (by decide) rfl rfl rfl tOk kw_533 (by decide +kernel)) <|
  allq qX6_init 15 (.inl (a_al 0 16)) (s_aload_n (q := 0) (i := 0) rfl (by decide +kernel)) <|
  allq qX6_init 16 (.inl (a_ic 3 17)) (s_iconst (n := 3) (v := 3) rfl (by decide +kernel)) <|
  allq qX6_init 17 (.inl (a_newa 1 19)) (na_int kw_197 (by decide +kernel)) <|
  allq qX6_init 19 (.inl (a_put 6 5 (.array .int) 22)) (fX6 (f0 := 5) (by decide) rfl rfl rfl tOk kw_540 (by decide +kernel)) <|
  allq qX6_init 22 (.inl (a_al 0 23)) (s_aload_n (q := 0) (i := 0) rfl (by decide +kernel)) <|
  allq qX6_init 23 (.inl (a_ic 3 24)) (s_iconst (n := 3) (v := 3) rfl (by decide +kernel)) <|
  allq qX6_init 24 (.inl (a_newa 1 26)) (na_int kw_197 (by decide +kernel)) <|
  allq qX6_init 26 (.inl (a_put 6 6 (.array .int) 29)) (fX6 (f0 := 6) (by decide) rfl rfl rfl tOk kw_541 (by decide +kernel)) <|
  allq qX6_init 29 (.inl (a_al 0 30)) (s_aload_n (q := 0) (i := 0) rfl (by decide +kernel)) <|
  allq qX6_init 30 (.inl (a_ic 12 32)) (s_bipush (n := 12) (v := 12) rfl (by decide +kernel)) <|
  allq qX6_init 32 (.inl (a_newa 1 34)) (na_int kw_197 (by decide +kernel)) <|
  allq qX6_init 34 (.inl (a_put 6 8 (.array .int) 37)) (fX6 (f0 := 8) (by decide) rfl rfl rfl tOk kw_543 (by decide +kernel)) <|
  allq qX6_init 37 (.inl (a_al 0 38)) (s_aload_n (q := 0) (i := 0) rfl (by decide +kernel)) <|
  allq qX6_init 38 (.inl (a_new 5 12 zX5 41)) (nX5 kw_343 (by decide +kernel)) <|
  allq qX6_init 41 (.inl (a_dup 42)) (s_dup (by decide +kernel)) <|
  allq qX6_init 42 (.inl (a_al 1 43)) (s_aload_n (q := 1) (i := 1) rfl (by decide +kernel)) <|
  allq qX6_init 43 (.inr (.inl (51, 2, 6))) (okN (y := yX5_init) kw_347 kw_113 rfl (by decide +kernel) kw_346 (Or.inl kw_345)) <|
  allq qX6_init 46 (.inl (a_put 6 1 (.object "StatePress$Literals") 49)) (fX6 (f0 := 1) (by decide) rfl rfl rfl tOk kw_535 (by decide +kernel)) <|
  allq qX6_init 49 (.inl (a_al 0 50)) (s_aload_n (q := 0) (i := 0) rfl (by decide +kernel)) <|
  allq qX6_init 50 (.inl (a_new 1 18 zX1 53)) (nX1 kw_413 (by decide +kernel)) <|
  allq qX6_init 53 (.inl (a_dup 54)) (s_dup (by decide +kernel)) <|
  allq qX6_init 54 (.inl (a_gets 3 57)) (s_gets (by decide) kn_415 (by decide +kernel)) <|
  allq qX6_init 57 (.inl (a_gets 4 60)) (s_gets (by decide) kn_417 (by decide +kernel)) <|
  allq qX6_init 60 (.inl (a_ic 35 62)) (s_bipush (n := 35) (v := 35) rfl (by decide +kernel)) <|
  allq qX6_init 62 (.inl (a_ic 9 64)) (s_bipush (n := 9) (v := 9) rfl (by decide +kernel)) <|
  allq qX6_init 64 (.inr (.inl (7, 5, 2))) (okN (y := yX1_init) kw_421 kw_115 rfl (by decide +kernel) kw_420 (Or.inl kw_419)) <|
  allq qX6_init 67 (.inl (a_put 6 2 (.object "StatePress$Column") 70)) (fX6 (f0 := 2) (by decide) rfl rfl rfl tOk kw_537 (by decide +kernel)) <|
  allq qX6_init 70 (.inl (a_al 0 71)) (s_aload_n (q := 0) (i := 0) rfl (by decide +kernel)) <|
  allq qX6_init 71 (.inl (a_get 6 2 74)) (gX6 (f0 := 2) (by decide) kw_537 (by decide +kernel)) <|
  allq qX6_init 74 (.inl (a_gets 0 77)) (s_gets (by decide) kn_484 (by decide +kernel)) <|
  allq qX6_init 77 (.inl (a_ic 6 79)) (s_bipush (n := 6) (v := 6) rfl (by decide +kernel)) <|
  allq qX6_init 79 (.inr (.inl (8, 3, 2))) (okV (y := yX1_know) kw_489 kw_115 rfl rfl (by decide +kernel) kw_487 kw_488 kw_486) <|
  allq qX6_init 82 (.inl (a_al 0 83)) (s_aload_n (q := 0) (i := 0) rfl (by decide +kernel)) <|
  alln
set_option maxRecDepth 20000 in
theorem kX6_init_1 : ∀ q ∈ tX6_init_1, qX6_init q :=
  allq qX6_init 83 (.inl (a_new 1 18 zX1 86)) (nX1 kw_413 (by decide +kernel)) <|
  allq qX6_init 86 (.inl (a_dup 87)) (s_dup (by decide +kernel)) <|
  allq qX6_init 87 (.inl (a_gets 5 90)) (s_gets (by decide) kn_521 (by decide +kernel)) <|
  allq qX6_init 90 (.inl (a_gets 6 93)) (s_gets (by decide) kn_523 (by decide +kernel)) <|
  allq qX6_init 93 (.inl (a_ic 31 95)) (s_bipush (n := 31) (v := 31) rfl (by decide +kernel)) <|
  allq qX6_init 95 (.inl (a_ic 8 97)) (s_bipush (n := 8) (v := 8) rfl (by decide +kernel)) <|
  allq qX6_init 97 (.inr (.inl (7, 5, 2))) (okN (y := yX1_init) kw_421 kw_115 rfl (by decide +kernel) kw_420 (Or.inl kw_419)) <|
  allq qX6_init 100 (.inl (a_put 6 3 (.object "StatePress$Column") 103)) (fX6 (f0 := 3) (by decide) rfl rfl rfl tOk kw_538 (by decide +kernel)) <|
  allq qX6_init 103 (.inl (a_al 0 104)) (s_aload_n (q := 0) (i := 0) rfl (by decide +kernel)) <|
  allq qX6_init 104 (.inl (a_get 6 3 107)) (gX6 (f0 := 3) (by decide) kw_538 (by decide +kernel)) <|
  allq qX6_init 107 (.inl (a_gets 1 110)) (s_gets (by decide) kn_525 (by decide +kernel)) <|
  allq qX6_init 110 (.inl (a_ic 5 111)) (s_iconst (n := 5) (v := 5) rfl (by decide +kernel)) <|
  allq qX6_init 111 (.inr (.inl (8, 3, 2))) (okV (y := yX1_know) kw_489 kw_115 rfl rfl (by decide +kernel) kw_487 kw_488 kw_486) <|
  allq qX6_init 114 (.inl (a_al 0 115)) (s_aload_n (q := 0) (i := 0) rfl (by decide +kernel)) <|
  allq qX6_init 115 (.inl (a_new 1 18 zX1 118)) (nX1 kw_413 (by decide +kernel)) <|
  allq qX6_init 118 (.inl (a_dup 119)) (s_dup (by decide +kernel)) <|
  allq qX6_init 119 (.inl (a_gets 7 122)) (s_gets (by decide) kn_527 (by decide +kernel)) <|
  allq qX6_init 122 (.inl (a_gets 8 125)) (s_gets (by decide) kn_529 (by decide +kernel)) <|
  allq qX6_init 125 (.inl (a_ic 52 127)) (s_bipush (n := 52) (v := 52) rfl (by decide +kernel)) <|
  allq qX6_init 127 (.inl (a_ic 9 129)) (s_bipush (n := 9) (v := 9) rfl (by decide +kernel)) <|
  allq qX6_init 129 (.inr (.inl (7, 5, 2))) (okN (y := yX1_init) kw_421 kw_115 rfl (by decide +kernel) kw_420 (Or.inl kw_419)) <|
  allq qX6_init 132 (.inl (a_put 6 4 (.object "StatePress$Column") 135)) (fX6 (f0 := 4) (by decide) rfl rfl rfl tOk kw_539 (by decide +kernel)) <|
  allq qX6_init 135 (.inl (a_al 0 136)) (s_aload_n (q := 0) (i := 0) rfl (by decide +kernel)) <|
  allq qX6_init 136 (.inl (a_get 6 4 139)) (gX6 (f0 := 4) (by decide) kw_539 (by decide +kernel)) <|
  allq qX6_init 139 (.inl (a_gets 2 142)) (s_gets (by decide) kn_531 (by decide +kernel)) <|
  allq qX6_init 142 (.inl (a_ic 6 144)) (s_bipush (n := 6) (v := 6) rfl (by decide +kernel)) <|
  allq qX6_init 144 (.inr (.inl (8, 3, 2))) (okV (y := yX1_know) kw_489 kw_115 rfl rfl (by decide +kernel) kw_487 kw_488 kw_486) <|
  allq qX6_init 147 (.inr (.inr 0)) (Or.inl ⟨rfl, rfl, by decide +kernel⟩) <|
  alln
theorem kX6_init : ∀ q ∈ tX6_init, qX6_init q := alla kX6_init_0 kX6_init_1
abbrev qX6_begin : Nat × aI → Prop := OkQ RX6 "begin" cX6_begin 2 (none)
set_option maxRecDepth 20000 in
theorem kX6_begin_0 : ∀ q ∈ tX6_begin_0, qX6_begin q :=
  allq qX6_begin 0 (.inl (a_al 0 1)) (s_aload_n (q := 0) (i := 0) rfl (by decide +kernel)) <|
  allq qX6_begin 1 (.inl (a_get 6 1 4)) (gX6 (f0 := 1) (by decide) kw_535 (by decide +kernel)) <|
  allq qX6_begin 4 (.inl (a_al 1 5)) (s_aload_n (q := 1) (i := 1) rfl (by decide +kernel)) <|
  allq qX6_begin 5 (.inl (a_get 9 1 8)) (gX9 (f0 := 1) (by decide) kw_240 (by decide +kernel)) <|
  allq qX6_begin 8 (.inr (.inl (52, 2, 6))) (okV (y := yX5_begin) kw_746 kw_113 rfl rfl (by decide +kernel) kw_744 kw_745 kw_743) <|
  allq qX6_begin 11 (.inl (a_al 0 12)) (s_aload_n (q := 0) (i := 0) rfl (by decide +kernel)) <|
  allq qX6_begin 12 (.inl (a_get 6 2 15)) (gX6 (f0 := 2) (by decide) kw_537 (by decide +kernel)) <|
  allq qX6_begin 15 (.inl (a_al 1 16)) (s_aload_n (q := 1) (i := 1) rfl (by decide +kernel)) <|
  allq qX6_begin 16 (.inl (a_get 9 2 19)) (gX9 (f0 := 2) (by decide) kw_242 (by decide +kernel)) <|
  allq qX6_begin 19 (.inr (.inl (9, 2, 2))) (okV (y := yX1_begin) kw_755 kw_115 rfl rfl (by decide +kernel) kw_753 kw_754 kw_752) <|
  allq qX6_begin 22 (.inl (a_al 0 23)) (s_aload_n (q := 0) (i := 0) rfl (by decide +kernel)) <|
  allq qX6_begin 23 (.inl (a_get 6 3 26)) (gX6 (f0 := 3) (by decide) kw_538 (by decide +kernel)) <|
  allq qX6_begin 26 (.inl (a_al 1 27)) (s_aload_n (q := 1) (i := 1) rfl (by decide +kernel)) <|
  allq qX6_begin 27 (.inl (a_get 9 3 30)) (gX9 (f0 := 3) (by decide) kw_244 (by decide +kernel)) <|
  allq qX6_begin 30 (.inr (.inl (9, 2, 2))) (okV (y := yX1_begin) kw_755 kw_115 rfl rfl (by decide +kernel) kw_753 kw_754 kw_752) <|
  allq qX6_begin 33 (.inl (a_al 0 34)) (s_aload_n (q := 0) (i := 0) rfl (by decide +kernel)) <|
  allq qX6_begin 34 (.inl (a_get 6 4 37)) (gX6 (f0 := 4) (by decide) kw_539 (by decide +kernel)) <|
  allq qX6_begin 37 (.inl (a_al 1 38)) (s_aload_n (q := 1) (i := 1) rfl (by decide +kernel)) <|
  allq qX6_begin 38 (.inl (a_get 9 4 41)) (gX9 (f0 := 4) (by decide) kw_246 (by decide +kernel)) <|
  allq qX6_begin 41 (.inr (.inl (9, 2, 2))) (okV (y := yX1_begin) kw_755 kw_115 rfl rfl (by decide +kernel) kw_753 kw_754 kw_752) <|
  allq qX6_begin 44 (.inl (a_al 1 45)) (s_aload_n (q := 1) (i := 1) rfl (by decide +kernel)) <|
  allq qX6_begin 45 (.inl (a_get 9 5 48)) (gX9 (f0 := 5) (by decide) kw_248 (by decide +kernel)) <|
  allq qX6_begin 48 (.inl (a_ic 0 49)) (s_iconst (n := 0) (v := 0) rfl (by decide +kernel)) <|
  allq qX6_begin 49 (.inl (a_al 0 50)) (s_aload_n (q := 0) (i := 0) rfl (by decide +kernel)) <|
  allq qX6_begin 50 (.inl (a_get 6 5 53)) (gX6 (f0 := 5) (by decide) kw_540 (by decide +kernel)) <|
  allq qX6_begin 53 (.inl (a_ic 0 54)) (s_iconst (n := 0) (v := 0) rfl (by decide +kernel)) <|
  allq qX6_begin 54 (.inl (a_al 0 55)) (s_aload_n (q := 0) (i := 0) rfl (by decide +kernel)) <|
  allq qX6_begin 55 (.inl (a_get 6 5 58)) (gX6 (f0 := 5) (by decide) kw_540 (by decide +kernel)) <|
  allq qX6_begin 58 (.inl (a_len 59)) (s_len (by decide +kernel)) <|
  allq qX6_begin 59 (.inl (a_copy 1 62)) (cp1 kw_760 kw_502 kw_501 kw_117 (by decide +kernel)) <|
  allq qX6_begin 62 (.inl (a_al 0 63)) (s_aload_n (q := 0) (i := 0) rfl (by decide +kernel)) <|
  allq qX6_begin 63 (.inl (a_get 6 8 66)) (gX6 (f0 := 8) (by decide) kw_543 (by decide +kernel)) <|
  allq qX6_begin 66 (.inl (a_ic 0 67)) (s_iconst (n := 0) (v := 0) rfl (by decide +kernel)) <|
  allq qX6_begin 67 (.inr (.inl (223, 2, 0))) (okS (y := yJ7_fill_53178) kw_496 kw_116 rfl (by decide +kernel) kw_495 (Or.inl kw_761)) <|
  allq qX6_begin 70 (.inr (.inr 0)) (Or.inl ⟨rfl, rfl, by decide +kernel⟩) <|
  alln
theorem kX6_begin : ∀ q ∈ tX6_begin, qX6_begin q := kX6_begin_0
abbrev qX6_sequences : Nat × aI → Prop := OkQ RX6 "sequences" cX6_sequences 1 (some .int)
set_option maxRecDepth 20000 in
theorem kX6_sequences_0 : ∀ q ∈ tX6_sequences_0, qX6_sequences q :=
  allq qX6_sequences 0 (.inl (a_al 0 1)) (s_aload_n (q := 0) (i := 0) rfl (by decide +kernel)) <|
  allq qX6_sequences 1 (.inl (a_get 6 7 4)) (gX6 (f0 := 7) (by decide) kw_542 (by decide +kernel)) <|
  allq qX6_sequences 4 (.inr (.inr 1)) (Or.inr (Or.inl ⟨rfl, rfl, by decide +kernel⟩)) <|
  alln
theorem kX6_sequences : ∀ q ∈ tX6_sequences, qX6_sequences q := kX6_sequences_0
abbrev qX6_go : Nat × aI → Prop := OkQ RX6 "go" cX6_go 5 (none)
set_option maxRecDepth 20000 in
theorem kX6_go_0 : ∀ q ∈ tX6_go_0, qX6_go q :=
  allq qX6_go 0 (.inl (a_al 0 1)) (s_aload_n (q := 0) (i := 0) rfl (by decide +kernel)) <|
  allq qX6_go 1 (.inl (a_get 6 1 4)) (gX6 (f0 := 1) (by decide) kw_535 (by decide +kernel)) <|
  allq qX6_go 4 (.inr (.inl (53, 1, 6))) (okV (y := yX5_drop) kw_798 kw_113 rfl rfl (by decide +kernel) kw_796 kw_797 kw_795) <|
  allq qX6_go 7 (.inl (a_al 0 8)) (s_aload_n (q := 0) (i := 0) rfl (by decide +kernel)) <|
  allq qX6_go 8 (.inl (a_get 6 2 11)) (gX6 (f0 := 2) (by decide) kw_537 (by decide +kernel)) <|
  allq qX6_go 11 (.inr (.inl (10, 1, 2))) (okV (y := yX1_drop) kw_803 kw_115 rfl rfl (by decide +kernel) kw_801 kw_802 kw_800) <|
  allq qX6_go 14 (.inl (a_al 0 15)) (s_aload_n (q := 0) (i := 0) rfl (by decide +kernel)) <|
  allq qX6_go 15 (.inl (a_get 6 3 18)) (gX6 (f0 := 3) (by decide) kw_538 (by decide +kernel)) <|
  allq qX6_go 18 (.inr (.inl (10, 1, 2))) (okV (y := yX1_drop) kw_803 kw_115 rfl rfl (by decide +kernel) kw_801 kw_802 kw_800) <|
  allq qX6_go 21 (.inl (a_al 0 22)) (s_aload_n (q := 0) (i := 0) rfl (by decide +kernel)) <|
  allq qX6_go 22 (.inl (a_get 6 4 25)) (gX6 (f0 := 4) (by decide) kw_539 (by decide +kernel)) <|
  allq qX6_go 25 (.inr (.inl (10, 1, 2))) (okV (y := yX1_drop) kw_803 kw_115 rfl rfl (by decide +kernel) kw_801 kw_802 kw_800) <|
  allq qX6_go 28 (.inl (a_al 0 29)) (s_aload_n (q := 0) (i := 0) rfl (by decide +kernel)) <|
  allq qX6_go 29 (.inl (a_ic 0 30)) (s_iconst (n := 0) (v := 0) rfl (by decide +kernel)) <|
  allq qX6_go 30 (.inl (a_put 6 7 .int 33)) (pX6 (f0 := 7) (by decide) rfl rfl tOk kw_542 (by decide +kernel)) <|
  allq qX6_go 33 (.inl (a_al 0 34)) (s_aload_n (q := 0) (i := 0) rfl (by decide +kernel)) <|
  allq qX6_go 34 (.inl (a_get 6 5 37)) (gX6 (f0 := 5) (by decide) kw_540 (by decide +kernel)) <|
  allq qX6_go 37 (.inl (a_ic 0 38)) (s_iconst (n := 0) (v := 0) rfl (by decide +kernel)) <|
  allq qX6_go 38 (.inl (a_al 0 39)) (s_aload_n (q := 0) (i := 0) rfl (by decide +kernel)) <|
  allq qX6_go 39 (.inl (a_get 6 6 42)) (gX6 (f0 := 6) (by decide) kw_541 (by decide +kernel)) <|
  allq qX6_go 42 (.inl (a_ic 0 43)) (s_iconst (n := 0) (v := 0) rfl (by decide +kernel)) <|
  allq qX6_go 43 (.inl (a_al 0 44)) (s_aload_n (q := 0) (i := 0) rfl (by decide +kernel)) <|
  allq qX6_go 44 (.inl (a_get 6 6 47)) (gX6 (f0 := 6) (by decide) kw_541 (by decide +kernel)) <|
  allq qX6_go 47 (.inl (a_len 48)) (s_len (by decide +kernel)) <|
  allq qX6_go 48 (.inl (a_copy 1 51)) (cp1 kw_760 kw_502 kw_501 kw_117 (by decide +kernel)) <|
  allq qX6_go 51 (.inl (a_al 0 52)) (s_aload_n (q := 0) (i := 0) rfl (by decide +kernel)) <|
  allq qX6_go 52 (.inl (a_get 6 0 55)) (gX6 (f0 := 0) (by decide) kw_533 (by decide +kernel)) <|
  allq qX6_go 55 (.inl (a_il 2 56)) (s_iload_n (q := 2) (i := 2) rfl (by decide +kernel)) <|
  allq qX6_go 56 (.inr (.inl (35, 2, 4))) (okV (y := yX3_endAt) kw_808 kw_112 rfl rfl (by decide +kernel) kw_806 kw_807 kw_805) <|
  allq qX6_go 59 (.inl (a_il 1 60)) (s_iload_n (q := 1) (i := 1) rfl (by decide +kernel)) <|
  allq qX6_go 60 (.inl (a_is 3 61)) (s_istore_n (q := 3) (i := 3) rfl (by decide +kernel) (by decide)) <|
  allq qX6_go 61 (.inl (a_il 1 62)) (s_iload_n (q := 1) (i := 1) rfl (by decide +kernel)) <|
  allq qX6_go 62 (.inl (a_is 4 64)) (s_istore (i := 4) (by decide +kernel) (by decide)) <|
  allq qX6_go 64 (.inl (a_il 4 66)) (s_iload (i := 4) (by decide +kernel)) <|
  allq qX6_go 66 (.inl (a_il 2 67)) (s_iload_n (q := 2) (i := 2) rfl (by decide +kernel)) <|
  allq qX6_go 67 (.inl (o_icmp_ge 146 70)) (s_icmp_ge (off := 79) (by decide +kernel) (by decide)) <|
  allq qX6_go 70 (.inl (a_al 0 71)) (s_aload_n (q := 0) (i := 0) rfl (by decide +kernel)) <|
  allq qX6_go 71 (.inl (a_get 6 0 74)) (gX6 (f0 := 0) (by decide) kw_533 (by decide +kernel)) <|
  allq qX6_go 74 (.inl (a_il 4 76)) (s_iload (i := 4) (by decide +kernel)) <|
  allq qX6_go 76 (.inr (.inl (39, 2, 4))) (okV (y := yX3_find) kw_813 kw_112 rfl rfl (by decide +kernel) kw_811 kw_812 kw_810) <|
  alln
set_option maxRecDepth 20000 in
theorem kX6_go_1 : ∀ q ∈ tX6_go_1, qX6_go q :=
  allq qX6_go 79 (.inl (a_al 0 80)) (s_aload_n (q := 0) (i := 0) rfl (by decide +kernel)) <|
  allq qX6_go 80 (.inl (a_get 6 0 83)) (gX6 (f0 := 0) (by decide) kw_533 (by decide +kernel)) <|
  allq qX6_go 83 (.inl (a_get 3 8 86)) (gX3 (f0 := 8) (by decide) kw_309 (by decide +kernel)) <|
  allq qX6_go 86 (.inl (o_if_ne 108 89)) (s_if_ne (off := 22) (by decide +kernel) (by decide)) <|
  allq qX6_go 89 (.inl (a_al 0 90)) (s_aload_n (q := 0) (i := 0) rfl (by decide +kernel)) <|
  allq qX6_go 90 (.inl (a_get 6 1 93)) (gX6 (f0 := 1) (by decide) kw_535 (by decide +kernel)) <|
  allq qX6_go 93 (.inl (a_al 0 94)) (s_aload_n (q := 0) (i := 0) rfl (by decide +kernel)) <|
  allq qX6_go 94 (.inl (a_get 6 0 97)) (gX6 (f0 := 0) (by decide) kw_533 (by decide +kernel)) <|
  allq qX6_go 97 (.inl (a_il 4 99)) (s_iload (i := 4) (by decide +kernel)) <|
  allq qX6_go 99 (.inr (.inl (36, 2, 4))) (okV (y := yX3_at) kw_785 kw_112 rfl rfl (by decide +kernel) kw_783 kw_784 kw_789) <|
  allq qX6_go 102 (.inr (.inl (54, 2, 6))) (okV (y := yX5_add) kw_838 kw_113 rfl rfl (by decide +kernel) kw_836 kw_837 kw_835) <|
  allq qX6_go 105 (.inl (a_go 127)) (s_goto (off := 22) (by decide +kernel) (by decide)) <|
  allq qX6_go 108 (.inl (a_al 0 109)) (s_aload_n (q := 0) (i := 0) rfl (by decide +kernel)) <|
  allq qX6_go 109 (.inl (a_il 4 111)) (s_iload (i := 4) (by decide +kernel)) <|
  allq qX6_go 111 (.inl (a_il 3 112)) (s_iload_n (q := 3) (i := 3) rfl (by decide +kernel)) <|
  allq qX6_go 112 (.inl (o_isub 113)) (s_isub (by decide +kernel)) <|
  allq qX6_go 113 (.inr (.inl (72, 2, 7))) (okV (y := yX6_addSequence) kw_842 kw_111 rfl rfl (by decide +kernel) kw_841 kw_11 kw_839) <|
  allq qX6_go 116 (.inl (a_il 4 118)) (s_iload (i := 4) (by decide +kernel)) <|
  allq qX6_go 118 (.inl (a_al 0 119)) (s_aload_n (q := 0) (i := 0) rfl (by decide +kernel)) <|
  allq qX6_go 119 (.inl (a_get 6 0 122)) (gX6 (f0 := 0) (by decide) kw_533 (by decide +kernel)) <|
  allq qX6_go 122 (.inl (a_get 3 8 125)) (gX3 (f0 := 8) (by decide) kw_309 (by decide +kernel)) <|
  allq qX6_go 125 (.inl (o_iadd 126)) (s_iadd (by decide +kernel)) <|
  allq qX6_go 126 (.inl (a_is 3 127)) (s_istore_n (q := 3) (i := 3) rfl (by decide +kernel) (by decide)) <|
  allq qX6_go 127 (.inl (a_il 4 129)) (s_iload (i := 4) (by decide +kernel)) <|
  allq qX6_go 129 (.inl (a_al 0 130)) (s_aload_n (q := 0) (i := 0) rfl (by decide +kernel)) <|
  allq qX6_go 130 (.inl (a_get 6 0 133)) (gX6 (f0 := 0) (by decide) kw_533 (by decide +kernel)) <|
  allq qX6_go 133 (.inl (a_get 3 8 136)) (gX3 (f0 := 8) (by decide) kw_309 (by decide +kernel)) <|
  allq qX6_go 136 (.inl (a_ic 1 137)) (s_iconst (n := 1) (v := 1) rfl (by decide +kernel)) <|
  allq qX6_go 137 (.inl (o_mmax 140)) (s_mmax kw_856 kw_135 kw_106 kw_136 (by decide +kernel)) <|
  allq qX6_go 140 (.inl (o_iadd 141)) (s_iadd (by decide +kernel)) <|
  allq qX6_go 141 (.inl (a_is 4 143)) (s_istore (i := 4) (by decide +kernel) (by decide)) <|
  allq qX6_go 143 (.inl (a_go 64)) (s_goto (off := (-79)) (by decide +kernel) (by decide)) <|
  allq qX6_go 146 (.inr (.inr 0)) (Or.inl ⟨rfl, rfl, by decide +kernel⟩) <|
  alln
theorem kX6_go : ∀ q ∈ tX6_go, qX6_go q := alla kX6_go_0 kX6_go_1
abbrev qX6_addSequence : Nat × aI → Prop := OkQ RX6 "addSequence" cX6_addSequence 2 (none)
set_option maxRecDepth 20000 in
theorem kX6_addSequence_0 : ∀ q ∈ tX6_addSequence_0, qX6_addSequence q :=
  allq qX6_addSequence 0 (.inl (a_al 0 1)) (s_aload_n (q := 0) (i := 0) rfl (by decide +kernel)) <|
  allq qX6_addSequence 1 (.inl (a_get 6 2 4)) (gX6 (f0 := 2) (by decide) kw_537 (by decide +kernel)) <|
  allq qX6_addSequence 4 (.inl (a_il 1 5)) (s_iload_n (q := 1) (i := 1) rfl (by decide +kernel)) <|
  allq qX6_addSequence 5 (.inr (.inl (11, 2, 2))) (okV (y := yX1_add) kw_846 kw_115 rfl rfl (by decide +kernel) kw_844 kw_845 kw_843) <|
  allq qX6_addSequence 8 (.inl (a_al 0 9)) (s_aload_n (q := 0) (i := 0) rfl (by decide +kernel)) <|
  allq qX6_addSequence 9 (.inl (a_get 6 3 12)) (gX6 (f0 := 3) (by decide) kw_538 (by decide +kernel)) <|
  allq qX6_addSequence 12 (.inl (a_al 0 13)) (s_aload_n (q := 0) (i := 0) rfl (by decide +kernel)) <|
  allq qX6_addSequence 13 (.inl (a_al 0 14)) (s_aload_n (q := 0) (i := 0) rfl (by decide +kernel)) <|
  allq qX6_addSequence 14 (.inl (a_get 6 0 17)) (gX6 (f0 := 0) (by decide) kw_533 (by decide +kernel)) <|
  allq qX6_addSequence 17 (.inl (a_get 3 9 20)) (gX3 (f0 := 9) (by decide) kw_311 (by decide +kernel)) <|
  allq qX6_addSequence 20 (.inl (a_il 1 21)) (s_iload_n (q := 1) (i := 1) rfl (by decide +kernel)) <|
  allq qX6_addSequence 21 (.inl (o_if_ne 28 24)) (s_if_ne (off := 7) (by decide +kernel) (by decide)) <|
  allq qX6_addSequence 24 (.inl (a_ic 1 25)) (s_iconst (n := 1) (v := 1) rfl (by decide +kernel)) <|
  allq qX6_addSequence 25 (.inl (a_go 29)) (s_goto (off := 4) (by decide +kernel) (by decide)) <|
  allq qX6_addSequence 28 (.inl (a_ic 0 29)) (s_iconst (n := 0) (v := 0) rfl (by decide +kernel)) <|
  allq qX6_addSequence 29 (.inr (.inl (73, 3, 7))) (okV (y := yX6_tellDistance) kw_850 kw_111 rfl rfl (by decide +kernel) kw_849 kw_12 kw_847) <|
  allq qX6_addSequence 32 (.inr (.inl (11, 2, 2))) (okV (y := yX1_add) kw_846 kw_115 rfl rfl (by decide +kernel) kw_844 kw_845 kw_843) <|
  allq qX6_addSequence 35 (.inl (a_al 0 36)) (s_aload_n (q := 0) (i := 0) rfl (by decide +kernel)) <|
  allq qX6_addSequence 36 (.inl (a_get 6 4 39)) (gX6 (f0 := 4) (by decide) kw_539 (by decide +kernel)) <|
  allq qX6_addSequence 39 (.inl (a_al 0 40)) (s_aload_n (q := 0) (i := 0) rfl (by decide +kernel)) <|
  allq qX6_addSequence 40 (.inl (a_get 6 0 43)) (gX6 (f0 := 0) (by decide) kw_533 (by decide +kernel)) <|
  allq qX6_addSequence 43 (.inl (a_get 3 8 46)) (gX3 (f0 := 8) (by decide) kw_309 (by decide +kernel)) <|
  allq qX6_addSequence 46 (.inr (.inl (11, 2, 2))) (okV (y := yX1_add) kw_846 kw_115 rfl rfl (by decide +kernel) kw_844 kw_845 kw_843) <|
  allq qX6_addSequence 49 (.inl (a_al 0 50)) (s_aload_n (q := 0) (i := 0) rfl (by decide +kernel)) <|
  allq qX6_addSequence 50 (.inl (a_dup 51)) (s_dup (by decide +kernel)) <|
  allq qX6_addSequence 51 (.inl (a_get 6 7 54)) (gX6 (f0 := 7) (by decide) kw_542 (by decide +kernel)) <|
  allq qX6_addSequence 54 (.inl (a_ic 1 55)) (s_iconst (n := 1) (v := 1) rfl (by decide +kernel)) <|
  allq qX6_addSequence 55 (.inl (o_iadd 56)) (s_iadd (by decide +kernel)) <|
  allq qX6_addSequence 56 (.inl (a_put 6 7 .int 59)) (pX6 (f0 := 7) (by decide) rfl rfl tOk kw_542 (by decide +kernel)) <|
  allq qX6_addSequence 59 (.inr (.inr 0)) (Or.inl ⟨rfl, rfl, by decide +kernel⟩) <|
  alln
theorem kX6_addSequence : ∀ q ∈ tX6_addSequence, qX6_addSequence q := kX6_addSequence_0
abbrev qX6_tellDistance : Nat × aI → Prop := OkQ RX6 "tellDistance" cX6_tellDistance 5 (some .int)
set_option maxRecDepth 20000 in
theorem kX6_tellDistance_0 : ∀ q ∈ tX6_tellDistance_0, qX6_tellDistance q :=
  allq qX6_tellDistance 0 (.inl (a_ic 1 1)) (s_iconst (n := 1) (v := 1) rfl (by decide +kernel)) <|
  allq qX6_tellDistance 1 (.inl (a_is 3 2)) (s_istore_n (q := 3) (i := 3) rfl (by decide +kernel) (by decide)) <|
  allq qX6_tellDistance 2 (.inl (a_il 3 3)) (s_iload_n (q := 3) (i := 3) rfl (by decide +kernel)) <|
  allq qX6_tellDistance 3 (.inl (a_ic 3 4)) (s_iconst (n := 3) (v := 3) rfl (by decide +kernel)) <|
  allq qX6_tellDistance 4 (.inl (o_icmp_gt 61 7)) (s_icmp_gt (off := 57) (by decide +kernel) (by decide)) <|
  allq qX6_tellDistance 7 (.inl (a_il 3 8)) (s_iload_n (q := 3) (i := 3) rfl (by decide +kernel)) <|
  allq qX6_tellDistance 8 (.inl (a_il 2 9)) (s_iload_n (q := 2) (i := 2) rfl (by decide +kernel)) <|
  allq qX6_tellDistance 9 (.inl (o_iadd 10)) (s_iadd (by decide +kernel)) <|
  allq qX6_tellDistance 10 (.inl (a_is 4 12)) (s_istore (i := 4) (by decide +kernel) (by decide)) <|
  allq qX6_tellDistance 12 (.inl (a_il 1 13)) (s_iload_n (q := 1) (i := 1) rfl (by decide +kernel)) <|
  allq qX6_tellDistance 13 (.inl (a_il 4 15)) (s_iload (i := 4) (by decide +kernel)) <|
  allq qX6_tellDistance 15 (.inl (a_ic 4 16)) (s_iconst (n := 4) (v := 4) rfl (by decide +kernel)) <|
  allq qX6_tellDistance 16 (.inl (o_icmp_ne 30 19)) (s_icmp_ne (off := 14) (by decide +kernel) (by decide)) <|
  allq qX6_tellDistance 19 (.inl (a_al 0 20)) (s_aload_n (q := 0) (i := 0) rfl (by decide +kernel)) <|
  allq qX6_tellDistance 20 (.inl (a_get 6 6 23)) (gX6 (f0 := 6) (by decide) kw_541 (by decide +kernel)) <|
  allq qX6_tellDistance 23 (.inl (a_ic 0 24)) (s_iconst (n := 0) (v := 0) rfl (by decide +kernel)) <|
  allq qX6_tellDistance 24 (.inl (a_iald 25)) (s_iald (by decide +kernel)) <|
  allq qX6_tellDistance 25 (.inl (a_ic 1 26)) (s_iconst (n := 1) (v := 1) rfl (by decide +kernel)) <|
  allq qX6_tellDistance 26 (.inl (o_isub 27)) (s_isub (by decide +kernel)) <|
  allq qX6_tellDistance 27 (.inl (a_go 39)) (s_goto (off := 12) (by decide +kernel) (by decide)) <|
  allq qX6_tellDistance 30 (.inl (a_al 0 31)) (s_aload_n (q := 0) (i := 0) rfl (by decide +kernel)) <|
  allq qX6_tellDistance 31 (.inl (a_get 6 6 34)) (gX6 (f0 := 6) (by decide) kw_541 (by decide +kernel)) <|
  allq qX6_tellDistance 34 (.inl (a_il 4 36)) (s_iload (i := 4) (by decide +kernel)) <|
  allq qX6_tellDistance 36 (.inl (a_ic 1 37)) (s_iconst (n := 1) (v := 1) rfl (by decide +kernel)) <|
  allq qX6_tellDistance 37 (.inl (o_isub 38)) (s_isub (by decide +kernel)) <|
  allq qX6_tellDistance 38 (.inl (a_iald 39)) (s_iald (by decide +kernel)) <|
  allq qX6_tellDistance 39 (.inl (o_icmp_ne 55 42)) (s_icmp_ne (off := 16) (by decide +kernel) (by decide)) <|
  allq qX6_tellDistance 42 (.inl (a_al 0 43)) (s_aload_n (q := 0) (i := 0) rfl (by decide +kernel)) <|
  allq qX6_tellDistance 43 (.inl (a_il 1 44)) (s_iload_n (q := 1) (i := 1) rfl (by decide +kernel)) <|
  allq qX6_tellDistance 44 (.inl (a_il 4 46)) (s_iload (i := 4) (by decide +kernel)) <|
  allq qX6_tellDistance 46 (.inl (a_ic 3 47)) (s_iconst (n := 3) (v := 3) rfl (by decide +kernel)) <|
  allq qX6_tellDistance 47 (.inl (o_mmin 50)) (s_mmin kw_851 kw_498 kw_106 kw_499 (by decide +kernel)) <|
  allq qX6_tellDistance 50 (.inr (.inl (74, 3, 7))) (okV (y := yX6_comeFirst) kw_855 kw_111 rfl rfl (by decide +kernel) kw_854 kw_13 kw_852) <|
  allq qX6_tellDistance 53 (.inl (a_il 3 54)) (s_iload_n (q := 3) (i := 3) rfl (by decide +kernel)) <|
  allq qX6_tellDistance 54 (.inr (.inr 1)) (Or.inr (Or.inl ⟨rfl, rfl, by decide +kernel⟩)) <|
  allq qX6_tellDistance 55 (.inl (a_inc 3 1 58)) (s_iinc (i := 3) (n := 1) (n2 := 1) rfl (by decide +kernel) (by decide)) <|
  allq qX6_tellDistance 58 (.inl (a_go 2)) (s_goto (off := (-56)) (by decide +kernel) (by decide)) <|
  allq qX6_tellDistance 61 (.inl (a_al 0 62)) (s_aload_n (q := 0) (i := 0) rfl (by decide +kernel)) <|
  allq qX6_tellDistance 62 (.inl (a_il 1 63)) (s_iload_n (q := 1) (i := 1) rfl (by decide +kernel)) <|
  allq qX6_tellDistance 63 (.inl (a_ic 3 64)) (s_iconst (n := 3) (v := 3) rfl (by decide +kernel)) <|
  alln
set_option maxRecDepth 20000 in
theorem kX6_tellDistance_1 : ∀ q ∈ tX6_tellDistance_1, qX6_tellDistance q :=
  allq qX6_tellDistance 64 (.inr (.inl (74, 3, 7))) (okV (y := yX6_comeFirst) kw_855 kw_111 rfl rfl (by decide +kernel) kw_854 kw_13 kw_852) <|
  allq qX6_tellDistance 67 (.inl (a_il 1 68)) (s_iload_n (q := 1) (i := 1) rfl (by decide +kernel)) <|
  allq qX6_tellDistance 68 (.inl (a_ic 3 69)) (s_iconst (n := 3) (v := 3) rfl (by decide +kernel)) <|
  allq qX6_tellDistance 69 (.inl (o_iadd 70)) (s_iadd (by decide +kernel)) <|
  allq qX6_tellDistance 70 (.inr (.inr 1)) (Or.inr (Or.inl ⟨rfl, rfl, by decide +kernel⟩)) <|
  alln
theorem kX6_tellDistance : ∀ q ∈ tX6_tellDistance, qX6_tellDistance q := alla kX6_tellDistance_0 kX6_tellDistance_1
abbrev qX6_comeFirst : Nat × aI → Prop := OkQ RX6 "comeFirst" cX6_comeFirst 4 (none)
set_option maxRecDepth 20000 in
theorem kX6_comeFirst_0 : ∀ q ∈ tX6_comeFirst_0, qX6_comeFirst q :=
  allq qX6_comeFirst 0 (.inl (a_il 2 1)) (s_iload_n (q := 2) (i := 2) rfl (by decide +kernel)) <|
  allq qX6_comeFirst 1 (.inl (a_ic 1 2)) (s_iconst (n := 1) (v := 1) rfl (by decide +kernel)) <|
  allq qX6_comeFirst 2 (.inl (o_isub 3)) (s_isub (by decide +kernel)) <|
  allq qX6_comeFirst 3 (.inl (a_is 3 4)) (s_istore_n (q := 3) (i := 3) rfl (by decide +kernel) (by decide)) <|
  allq qX6_comeFirst 4 (.inl (a_il 3 5)) (s_iload_n (q := 3) (i := 3) rfl (by decide +kernel)) <|
  allq qX6_comeFirst 5 (.inl (o_if_le 28 8)) (s_if_le (off := 23) (by decide +kernel) (by decide)) <|
  allq qX6_comeFirst 8 (.inl (a_al 0 9)) (s_aload_n (q := 0) (i := 0) rfl (by decide +kernel)) <|
  allq qX6_comeFirst 9 (.inl (a_get 6 6 12)) (gX6 (f0 := 6) (by decide) kw_541 (by decide +kernel)) <|
  allq qX6_comeFirst 12 (.inl (a_il 3 13)) (s_iload_n (q := 3) (i := 3) rfl (by decide +kernel)) <|
  allq qX6_comeFirst 13 (.inl (a_al 0 14)) (s_aload_n (q := 0) (i := 0) rfl (by decide +kernel)) <|
  allq qX6_comeFirst 14 (.inl (a_get 6 6 17)) (gX6 (f0 := 6) (by decide) kw_541 (by decide +kernel)) <|
  allq qX6_comeFirst 17 (.inl (a_il 3 18)) (s_iload_n (q := 3) (i := 3) rfl (by decide +kernel)) <|
  allq qX6_comeFirst 18 (.inl (a_ic 1 19)) (s_iconst (n := 1) (v := 1) rfl (by decide +kernel)) <|
  allq qX6_comeFirst 19 (.inl (o_isub 20)) (s_isub (by decide +kernel)) <|
  allq qX6_comeFirst 20 (.inl (a_iald 21)) (s_iald (by decide +kernel)) <|
  allq qX6_comeFirst 21 (.inl (a_iast 22)) (s_iast (by decide +kernel)) <|
  allq qX6_comeFirst 22 (.inl (a_inc 3 (-1) 25)) (s_iinc (i := 3) (n := (-1)) (n2 := (-1)) rfl (by decide +kernel) (by decide)) <|
  allq qX6_comeFirst 25 (.inl (a_go 4)) (s_goto (off := (-21)) (by decide +kernel) (by decide)) <|
  allq qX6_comeFirst 28 (.inl (a_al 0 29)) (s_aload_n (q := 0) (i := 0) rfl (by decide +kernel)) <|
  allq qX6_comeFirst 29 (.inl (a_get 6 6 32)) (gX6 (f0 := 6) (by decide) kw_541 (by decide +kernel)) <|
  allq qX6_comeFirst 32 (.inl (a_ic 0 33)) (s_iconst (n := 0) (v := 0) rfl (by decide +kernel)) <|
  allq qX6_comeFirst 33 (.inl (a_il 1 34)) (s_iload_n (q := 1) (i := 1) rfl (by decide +kernel)) <|
  allq qX6_comeFirst 34 (.inl (a_iast 35)) (s_iast (by decide +kernel)) <|
  allq qX6_comeFirst 35 (.inr (.inr 0)) (Or.inl ⟨rfl, rfl, by decide +kernel⟩) <|
  alln
theorem kX6_comeFirst : ∀ q ∈ tX6_comeFirst, qX6_comeFirst q := kX6_comeFirst_0
abbrev qX6_putBlock : Nat × aI → Prop := OkQ RX6 "putBlock" cX6_putBlock 10 (none)
set_option maxRecDepth 20000 in
theorem kX6_putBlock_0 : ∀ q ∈ tX6_putBlock_0, qX6_putBlock q :=
  allq qX6_putBlock 0 (.inl (a_il 3 1)) (s_iload_n (q := 3) (i := 3) rfl (by decide +kernel)) <|
  allq qX6_putBlock 1 (.inl (a_il 2 2)) (s_iload_n (q := 2) (i := 2) rfl (by decide +kernel)) <|
  allq qX6_putBlock 2 (.inl (o_isub 3)) (s_isub (by decide +kernel)) <|
  allq qX6_putBlock 3 (.inl (a_is 5 5)) (s_istore (i := 5) (by decide +kernel) (by decide)) <|
  allq qX6_putBlock 5 (.inl (a_il 4 7)) (s_iload (i := 4) (by decide +kernel)) <|
  allq qX6_putBlock 7 (.inl (o_if_eq 14 10)) (s_if_eq (off := 7) (by decide +kernel) (by decide)) <|
  allq qX6_putBlock 10 (.inl (a_ic 1 11)) (s_iconst (n := 1) (v := 1) rfl (by decide +kernel)) <|
  allq qX6_putBlock 11 (.inl (a_go 15)) (s_goto (off := 4) (by decide +kernel) (by decide)) <|
  allq qX6_putBlock 14 (.inl (a_ic 0 15)) (s_iconst (n := 0) (v := 0) rfl (by decide +kernel)) <|
  allq qX6_putBlock 15 (.inl (a_is 6 17)) (s_istore (i := 6) (by decide +kernel) (by decide)) <|
  allq qX6_putBlock 17 (.inl (a_al 0 18)) (s_aload_n (q := 0) (i := 0) rfl (by decide +kernel)) <|
  allq qX6_putBlock 18 (.inl (a_get 6 0 21)) (gX6 (f0 := 0) (by decide) kw_533 (by decide +kernel)) <|
  allq qX6_putBlock 21 (.inl (a_il 2 22)) (s_iload_n (q := 2) (i := 2) rfl (by decide +kernel)) <|
  allq qX6_putBlock 22 (.inl (a_il 3 23)) (s_iload_n (q := 3) (i := 3) rfl (by decide +kernel)) <|
  allq qX6_putBlock 23 (.inr (.inl (37, 3, 4))) (okV (y := yX3_same) kw_781 kw_112 rfl rfl (by decide +kernel) kw_779 kw_780 kw_778) <|
  allq qX6_putBlock 26 (.inl (o_if_eq 72 29)) (s_if_eq (off := 46) (by decide +kernel) (by decide)) <|
  allq qX6_putBlock 29 (.inl (a_al 1 30)) (s_aload_n (q := 1) (i := 1) rfl (by decide +kernel)) <|
  allq qX6_putBlock 30 (.inl (a_lc 8 33)) (s_ldc2 kw_786 (by decide +kernel)) <|
  allq qX6_putBlock 33 (.inl (a_il 5 35)) (s_iload (i := 5) (by decide +kernel)) <|
  allq qX6_putBlock 35 (.inl (a_i2l 36)) (s_i2l (by decide +kernel)) <|
  allq qX6_putBlock 36 (.inl (o_lmul 37)) (s_lmul (by decide +kernel)) <|
  allq qX6_putBlock 37 (.inl (a_lc 2 40)) (s_ldc2 kw_787 (by decide +kernel)) <|
  allq qX6_putBlock 40 (.inl (o_ladd 41)) (s_ladd (by decide +kernel)) <|
  allq qX6_putBlock 41 (.inl (a_il 6 43)) (s_iload (i := 6) (by decide +kernel)) <|
  allq qX6_putBlock 43 (.inl (a_i2l 44)) (s_i2l (by decide +kernel)) <|
  allq qX6_putBlock 44 (.inl (o_ladd 45)) (s_ladd (by decide +kernel)) <|
  allq qX6_putBlock 45 (.inl (a_ic 3 46)) (s_iconst (n := 3) (v := 3) rfl (by decide +kernel)) <|
  allq qX6_putBlock 46 (.inr (.inl (87, 3, 8))) (okV (y := yX7_putNumber) kw_737 kw_105 rfl rfl (by decide +kernel) kw_735 kw_736 kw_788) <|
  allq qX6_putBlock 49 (.inl (a_al 1 50)) (s_aload_n (q := 1) (i := 1) rfl (by decide +kernel)) <|
  allq qX6_putBlock 50 (.inl (a_al 0 51)) (s_aload_n (q := 0) (i := 0) rfl (by decide +kernel)) <|
  allq qX6_putBlock 51 (.inl (a_get 6 0 54)) (gX6 (f0 := 0) (by decide) kw_533 (by decide +kernel)) <|
  allq qX6_putBlock 54 (.inl (a_il 2 55)) (s_iload_n (q := 2) (i := 2) rfl (by decide +kernel)) <|
  allq qX6_putBlock 55 (.inr (.inl (36, 2, 4))) (okV (y := yX3_at) kw_785 kw_112 rfl rfl (by decide +kernel) kw_783 kw_784 kw_789) <|
  allq qX6_putBlock 58 (.inr (.inl (86, 2, 8))) (okV (y := yX7_put) kw_608 kw_105 rfl rfl (by decide +kernel) kw_606 kw_607 kw_790) <|
  allq qX6_putBlock 61 (.inl (a_al 0 62)) (s_aload_n (q := 0) (i := 0) rfl (by decide +kernel)) <|
  allq qX6_putBlock 62 (.inl (a_get 6 8 65)) (gX6 (f0 := 8) (by decide) kw_543 (by decide +kernel)) <|
  allq qX6_putBlock 65 (.inl (a_ic 1 66)) (s_iconst (n := 1) (v := 1) rfl (by decide +kernel)) <|
  allq qX6_putBlock 66 (.inl (a_dup2 67)) (s_dup2 (by decide +kernel)) <|
  allq qX6_putBlock 67 (.inl (a_iald 68)) (s_iald (by decide +kernel)) <|
  allq qX6_putBlock 68 (.inl (a_ic 1 69)) (s_iconst (n := 1) (v := 1) rfl (by decide +kernel)) <|
  alln
set_option maxRecDepth 20000 in
theorem kX6_putBlock_1 : ∀ q ∈ tX6_putBlock_1, qX6_putBlock q :=
  allq qX6_putBlock 69 (.inl (o_iadd 70)) (s_iadd (by decide +kernel)) <|
  allq qX6_putBlock 70 (.inl (a_iast 71)) (s_iast (by decide +kernel)) <|
  allq qX6_putBlock 71 (.inr (.inr 0)) (Or.inl ⟨rfl, rfl, by decide +kernel⟩) <|
  allq qX6_putBlock 72 (.inl (a_al 0 73)) (s_aload_n (q := 0) (i := 0) rfl (by decide +kernel)) <|
  allq qX6_putBlock 73 (.inl (a_il 2 74)) (s_iload_n (q := 2) (i := 2) rfl (by decide +kernel)) <|
  allq qX6_putBlock 74 (.inl (a_il 3 75)) (s_iload_n (q := 3) (i := 3) rfl (by decide +kernel)) <|
  allq qX6_putBlock 75 (.inr (.inl (71, 3, 7))) (okV (y := yX6_go) kw_794 kw_111 rfl rfl (by decide +kernel) kw_792 kw_793 kw_791) <|
  allq qX6_putBlock 78 (.inl (a_al 0 79)) (s_aload_n (q := 0) (i := 0) rfl (by decide +kernel)) <|
  allq qX6_putBlock 79 (.inl (a_get 6 1 82)) (gX6 (f0 := 1) (by decide) kw_535 (by decide +kernel)) <|
  allq qX6_putBlock 82 (.inr (.inl (55, 1, 6))) (okV (y := yX5_areFew) kw_860 kw_113 rfl rfl (by decide +kernel) kw_858 kw_859 kw_857) <|
  allq qX6_putBlock 85 (.inl (o_if_ne 102 88)) (s_if_ne (off := 17) (by decide +kernel) (by decide)) <|
  allq qX6_putBlock 88 (.inl (a_al 0 89)) (s_aload_n (q := 0) (i := 0) rfl (by decide +kernel)) <|
  allq qX6_putBlock 89 (.inl (a_get 6 1 92)) (gX6 (f0 := 1) (by decide) kw_535 (by decide +kernel)) <|
  allq qX6_putBlock 92 (.inr (.inl (56, 1, 6))) (okV (y := yX5_renew) kw_864 kw_113 rfl rfl (by decide +kernel) kw_862 kw_863 kw_861) <|
  allq qX6_putBlock 95 (.inl (o_if_eq 102 98)) (s_if_eq (off := 7) (by decide +kernel) (by decide)) <|
  allq qX6_putBlock 98 (.inl (a_ic 1 99)) (s_iconst (n := 1) (v := 1) rfl (by decide +kernel)) <|
  allq qX6_putBlock 99 (.inl (a_go 103)) (s_goto (off := 4) (by decide +kernel) (by decide)) <|
  allq qX6_putBlock 102 (.inl (a_ic 0 103)) (s_iconst (n := 0) (v := 0) rfl (by decide +kernel)) <|
  allq qX6_putBlock 103 (.inl (a_is 7 105)) (s_istore (i := 7) (by decide +kernel) (by decide)) <|
  allq qX6_putBlock 105 (.inl (a_al 0 106)) (s_aload_n (q := 0) (i := 0) rfl (by decide +kernel)) <|
  allq qX6_putBlock 106 (.inl (a_get 6 2 109)) (gX6 (f0 := 2) (by decide) kw_537 (by decide +kernel)) <|
  allq qX6_putBlock 109 (.inr (.inl (12, 1, 2))) (okV (y := yX1_choose) kw_961 kw_115 rfl rfl (by decide +kernel) kw_959 kw_960 kw_958) <|
  allq qX6_putBlock 112 (.inl (a_al 0 113)) (s_aload_n (q := 0) (i := 0) rfl (by decide +kernel)) <|
  allq qX6_putBlock 113 (.inl (a_get 6 3 116)) (gX6 (f0 := 3) (by decide) kw_538 (by decide +kernel)) <|
  allq qX6_putBlock 116 (.inr (.inl (12, 1, 2))) (okV (y := yX1_choose) kw_961 kw_115 rfl rfl (by decide +kernel) kw_959 kw_960 kw_958) <|
  allq qX6_putBlock 119 (.inl (o_iadd 120)) (s_iadd (by decide +kernel)) <|
  allq qX6_putBlock 120 (.inl (a_al 0 121)) (s_aload_n (q := 0) (i := 0) rfl (by decide +kernel)) <|
  allq qX6_putBlock 121 (.inl (a_get 6 4 124)) (gX6 (f0 := 4) (by decide) kw_539 (by decide +kernel)) <|
  allq qX6_putBlock 124 (.inr (.inl (12, 1, 2))) (okV (y := yX1_choose) kw_961 kw_115 rfl rfl (by decide +kernel) kw_959 kw_960 kw_958) <|
  allq qX6_putBlock 127 (.inl (o_iadd 128)) (s_iadd (by decide +kernel)) <|
  allq qX6_putBlock 128 (.inl (a_is 8 130)) (s_istore (i := 8) (by decide +kernel) (by decide)) <|
  allq qX6_putBlock 130 (.inl (a_al 0 131)) (s_aload_n (q := 0) (i := 0) rfl (by decide +kernel)) <|
  allq qX6_putBlock 131 (.inl (a_get 6 1 134)) (gX6 (f0 := 1) (by decide) kw_535 (by decide +kernel)) <|
  allq qX6_putBlock 134 (.inl (a_il 7 136)) (s_iload (i := 7) (by decide +kernel)) <|
  allq qX6_putBlock 136 (.inr (.inl (57, 2, 6))) (okV (y := yX5_choose) kw_998 kw_113 rfl rfl (by decide +kernel) kw_996 kw_997 kw_995) <|
  allq qX6_putBlock 139 (.inl (a_al 0 140)) (s_aload_n (q := 0) (i := 0) rfl (by decide +kernel)) <|
  allq qX6_putBlock 140 (.inl (a_il 8 142)) (s_iload (i := 8) (by decide +kernel)) <|
  allq qX6_putBlock 142 (.inr (.inl (76, 2, 7))) (okV (y := yX6_sequenceBytes) kw_1030 kw_111 rfl rfl (by decide +kernel) kw_1029 kw_31 kw_1027) <|
  allq qX6_putBlock 145 (.inl (o_iadd 146)) (s_iadd (by decide +kernel)) <|
  allq qX6_putBlock 146 (.inl (a_is 9 148)) (s_istore (i := 9) (by decide +kernel) (by decide)) <|
  alln
set_option maxRecDepth 20000 in
theorem kX6_putBlock_2 : ∀ q ∈ tX6_putBlock_2, qX6_putBlock q :=
  allq qX6_putBlock 148 (.inl (a_il 9 150)) (s_iload (i := 9) (by decide +kernel)) <|
  allq qX6_putBlock 150 (.inl (a_il 5 152)) (s_iload (i := 5) (by decide +kernel)) <|
  allq qX6_putBlock 152 (.inl (o_icmp_ge 195 155)) (s_icmp_ge (off := 43) (by decide +kernel) (by decide)) <|
  allq qX6_putBlock 155 (.inl (a_al 1 156)) (s_aload_n (q := 1) (i := 1) rfl (by decide +kernel)) <|
  allq qX6_putBlock 156 (.inl (a_lc 8 159)) (s_ldc2 kw_786 (by decide +kernel)) <|
  allq qX6_putBlock 159 (.inl (a_il 9 161)) (s_iload (i := 9) (by decide +kernel)) <|
  allq qX6_putBlock 161 (.inl (a_i2l 162)) (s_i2l (by decide +kernel)) <|
  allq qX6_putBlock 162 (.inl (o_lmul 163)) (s_lmul (by decide +kernel)) <|
  allq qX6_putBlock 163 (.inl (a_lc 4 166)) (s_ldc2 kw_1035 (by decide +kernel)) <|
  allq qX6_putBlock 166 (.inl (o_ladd 167)) (s_ladd (by decide +kernel)) <|
  allq qX6_putBlock 167 (.inl (a_il 6 169)) (s_iload (i := 6) (by decide +kernel)) <|
  allq qX6_putBlock 169 (.inl (a_i2l 170)) (s_i2l (by decide +kernel)) <|
  allq qX6_putBlock 170 (.inl (o_ladd 171)) (s_ladd (by decide +kernel)) <|
  allq qX6_putBlock 171 (.inl (a_ic 3 172)) (s_iconst (n := 3) (v := 3) rfl (by decide +kernel)) <|
  allq qX6_putBlock 172 (.inr (.inl (87, 3, 8))) (okV (y := yX7_putNumber) kw_737 kw_105 rfl rfl (by decide +kernel) kw_735 kw_736 kw_788) <|
  allq qX6_putBlock 175 (.inl (a_al 0 176)) (s_aload_n (q := 0) (i := 0) rfl (by decide +kernel)) <|
  allq qX6_putBlock 176 (.inl (a_get 6 1 179)) (gX6 (f0 := 1) (by decide) kw_535 (by decide +kernel)) <|
  allq qX6_putBlock 179 (.inl (a_al 1 180)) (s_aload_n (q := 1) (i := 1) rfl (by decide +kernel)) <|
  allq qX6_putBlock 180 (.inr (.inl (63, 2, 6))) (okV (y := yX5_put) kw_1039 kw_113 rfl rfl (by decide +kernel) kw_1037 kw_1038 kw_1036) <|
  allq qX6_putBlock 183 (.inl (a_al 0 184)) (s_aload_n (q := 0) (i := 0) rfl (by decide +kernel)) <|
  allq qX6_putBlock 184 (.inl (a_al 1 185)) (s_aload_n (q := 1) (i := 1) rfl (by decide +kernel)) <|
  allq qX6_putBlock 185 (.inr (.inl (79, 2, 7))) (okV (y := yX6_putSequences) kw_1065 kw_111 rfl rfl (by decide +kernel) kw_1064 kw_35 kw_1062) <|
  allq qX6_putBlock 188 (.inl (a_al 0 189)) (s_aload_n (q := 0) (i := 0) rfl (by decide +kernel)) <|
  allq qX6_putBlock 189 (.inr (.inl (81, 1, 7))) (okV (y := yX6_keep) kw_1104 kw_111 rfl rfl (by decide +kernel) kw_1103 kw_38 kw_1101) <|
  allq qX6_putBlock 192 (.inl (a_go 231)) (s_goto (off := 39) (by decide +kernel) (by decide)) <|
  allq qX6_putBlock 195 (.inl (a_al 1 196)) (s_aload_n (q := 1) (i := 1) rfl (by decide +kernel)) <|
  allq qX6_putBlock 196 (.inl (a_lc 8 199)) (s_ldc2 kw_786 (by decide +kernel)) <|
  allq qX6_putBlock 199 (.inl (a_il 5 201)) (s_iload (i := 5) (by decide +kernel)) <|
  allq qX6_putBlock 201 (.inl (a_i2l 202)) (s_i2l (by decide +kernel)) <|
  allq qX6_putBlock 202 (.inl (o_lmul 203)) (s_lmul (by decide +kernel)) <|
  allq qX6_putBlock 203 (.inl (a_il 6 205)) (s_iload (i := 6) (by decide +kernel)) <|
  allq qX6_putBlock 205 (.inl (a_i2l 206)) (s_i2l (by decide +kernel)) <|
  allq qX6_putBlock 206 (.inl (o_ladd 207)) (s_ladd (by decide +kernel)) <|
  allq qX6_putBlock 207 (.inl (a_ic 3 208)) (s_iconst (n := 3) (v := 3) rfl (by decide +kernel)) <|
  allq qX6_putBlock 208 (.inr (.inl (87, 3, 8))) (okV (y := yX7_putNumber) kw_737 kw_105 rfl rfl (by decide +kernel) kw_735 kw_736 kw_788) <|
  allq qX6_putBlock 211 (.inl (a_al 0 212)) (s_aload_n (q := 0) (i := 0) rfl (by decide +kernel)) <|
  allq qX6_putBlock 212 (.inl (a_get 6 0 215)) (gX6 (f0 := 0) (by decide) kw_533 (by decide +kernel)) <|
  allq qX6_putBlock 215 (.inl (a_al 1 216)) (s_aload_n (q := 1) (i := 1) rfl (by decide +kernel)) <|
  allq qX6_putBlock 216 (.inl (a_il 2 217)) (s_iload_n (q := 2) (i := 2) rfl (by decide +kernel)) <|
  allq qX6_putBlock 217 (.inl (a_il 3 218)) (s_iload_n (q := 3) (i := 3) rfl (by decide +kernel)) <|
  alln
set_option maxRecDepth 20000 in
theorem kX6_putBlock_3 : ∀ q ∈ tX6_putBlock_3, qX6_putBlock q :=
  allq qX6_putBlock 218 (.inr (.inl (38, 4, 4))) (okV (y := yX3_putTo) kw_1120 kw_112 rfl rfl (by decide +kernel) kw_1118 kw_1119 kw_1117) <|
  allq qX6_putBlock 221 (.inl (a_al 0 222)) (s_aload_n (q := 0) (i := 0) rfl (by decide +kernel)) <|
  allq qX6_putBlock 222 (.inl (a_get 6 8 225)) (gX6 (f0 := 8) (by decide) kw_543 (by decide +kernel)) <|
  allq qX6_putBlock 225 (.inl (a_ic 0 226)) (s_iconst (n := 0) (v := 0) rfl (by decide +kernel)) <|
  allq qX6_putBlock 226 (.inl (a_dup2 227)) (s_dup2 (by decide +kernel)) <|
  allq qX6_putBlock 227 (.inl (a_iald 228)) (s_iald (by decide +kernel)) <|
  allq qX6_putBlock 228 (.inl (a_ic 1 229)) (s_iconst (n := 1) (v := 1) rfl (by decide +kernel)) <|
  allq qX6_putBlock 229 (.inl (o_iadd 230)) (s_iadd (by decide +kernel)) <|
  allq qX6_putBlock 230 (.inl (a_iast 231)) (s_iast (by decide +kernel)) <|
  allq qX6_putBlock 231 (.inr (.inr 0)) (Or.inl ⟨rfl, rfl, by decide +kernel⟩) <|
  alln
theorem kX6_putBlock : ∀ q ∈ tX6_putBlock, qX6_putBlock q := alla kX6_putBlock_0 (alla kX6_putBlock_1 (alla kX6_putBlock_2 kX6_putBlock_3))
