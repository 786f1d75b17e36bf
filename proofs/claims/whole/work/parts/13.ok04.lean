/-! each entry is one that the machine does (printed by a program) -/
abbrev qX8_sortPlaces : Nat × aI → Prop := OkQ RX8 "sortPlaces" cX8_sortPlaces 4 (none)
set_option maxRecDepth 20000 in
theorem kX8_sortPlaces_0 : ∀ q ∈ tX8_sortPlaces_0, qX8_sortPlaces q :=
  allq qX8_sortPlaces 0 (.inl (a_ic 0 1)) (s_iconst (n := 0) (v := 0) rfl (by decide +kernel)) <|
  allq qX8_sortPlaces 1 (.inl (a_is 2 2)) (s_istore_n (q := 2) (i := 2) rfl (by decide +kernel) (by decide)) <|
  allq qX8_sortPlaces 2 (.inl (a_il 2 3)) (s_iload_n (q := 2) (i := 2) rfl (by decide +kernel)) <|
  allq qX8_sortPlaces 3 (.inl (a_il 1 4)) (s_iload_n (q := 1) (i := 1) rfl (by decide +kernel)) <|
  allq qX8_sortPlaces 4 (.inl (o_icmp_ge 52 7)) (s_icmp_ge (off := 48) (by decide +kernel) (by decide)) <|
  allq qX8_sortPlaces 7 (.inl (a_al 0 8)) (s_aload_n (q := 0) (i := 0) rfl (by decide +kernel)) <|
  allq qX8_sortPlaces 8 (.inl (a_get 8 5 11)) (gX8 (f0 := 5) (by decide) kw_210 (by decide +kernel)) <|
  allq qX8_sortPlaces 11 (.inl (a_il 2 12)) (s_iload_n (q := 2) (i := 2) rfl (by decide +kernel)) <|
  allq qX8_sortPlaces 12 (.inl (a_iald 13)) (s_iald (by decide +kernel)) <|
  allq qX8_sortPlaces 13 (.inl (a_is 3 14)) (s_istore_n (q := 3) (i := 3) rfl (by decide +kernel) (by decide)) <|
  allq qX8_sortPlaces 14 (.inl (a_al 0 15)) (s_aload_n (q := 0) (i := 0) rfl (by decide +kernel)) <|
  allq qX8_sortPlaces 15 (.inl (a_get 8 3 18)) (gX8 (f0 := 3) (by decide) kw_208 (by decide +kernel)) <|
  allq qX8_sortPlaces 18 (.inl (a_il 3 19)) (s_iload_n (q := 3) (i := 3) rfl (by decide +kernel)) <|
  allq qX8_sortPlaces 19 (.inl (a_iald 20)) (s_iald (by decide +kernel)) <|
  allq qX8_sortPlaces 20 (.inl (a_il 1 21)) (s_iload_n (q := 1) (i := 1) rfl (by decide +kernel)) <|
  allq qX8_sortPlaces 21 (.inl (o_icmp_ge 46 24)) (s_icmp_ge (off := 25) (by decide +kernel) (by decide)) <|
  allq qX8_sortPlaces 24 (.inl (a_al 0 25)) (s_aload_n (q := 0) (i := 0) rfl (by decide +kernel)) <|
  allq qX8_sortPlaces 25 (.inl (a_get 8 6 28)) (gX8 (f0 := 6) (by decide) kw_211 (by decide +kernel)) <|
  allq qX8_sortPlaces 28 (.inl (a_al 0 29)) (s_aload_n (q := 0) (i := 0) rfl (by decide +kernel)) <|
  allq qX8_sortPlaces 29 (.inl (a_get 8 3 32)) (gX8 (f0 := 3) (by decide) kw_208 (by decide +kernel)) <|
  allq qX8_sortPlaces 32 (.inl (a_il 3 33)) (s_iload_n (q := 3) (i := 3) rfl (by decide +kernel)) <|
  allq qX8_sortPlaces 33 (.inl (a_iald 34)) (s_iald (by decide +kernel)) <|
  allq qX8_sortPlaces 34 (.inl (a_il 2 35)) (s_iload_n (q := 2) (i := 2) rfl (by decide +kernel)) <|
  allq qX8_sortPlaces 35 (.inl (a_iast 36)) (s_iast (by decide +kernel)) <|
  allq qX8_sortPlaces 36 (.inl (a_al 0 37)) (s_aload_n (q := 0) (i := 0) rfl (by decide +kernel)) <|
  allq qX8_sortPlaces 37 (.inl (a_get 8 3 40)) (gX8 (f0 := 3) (by decide) kw_208 (by decide +kernel)) <|
  allq qX8_sortPlaces 40 (.inl (a_il 3 41)) (s_iload_n (q := 3) (i := 3) rfl (by decide +kernel)) <|
  allq qX8_sortPlaces 41 (.inl (a_dup2 42)) (s_dup2 (by decide +kernel)) <|
  allq qX8_sortPlaces 42 (.inl (a_iald 43)) (s_iald (by decide +kernel)) <|
  allq qX8_sortPlaces 43 (.inl (a_ic 1 44)) (s_iconst (n := 1) (v := 1) rfl (by decide +kernel)) <|
  allq qX8_sortPlaces 44 (.inl (o_iadd 45)) (s_iadd (by decide +kernel)) <|
  allq qX8_sortPlaces 45 (.inl (a_iast 46)) (s_iast (by decide +kernel)) <|
  allq qX8_sortPlaces 46 (.inl (a_inc 2 1 49)) (s_iinc (i := 2) (n := 1) (n2 := 1) rfl (by decide +kernel) (by decide)) <|
  allq qX8_sortPlaces 49 (.inl (a_go 2)) (s_goto (off := (-47)) (by decide +kernel) (by decide)) <|
  allq qX8_sortPlaces 52 (.inl (a_ic 0 53)) (s_iconst (n := 0) (v := 0) rfl (by decide +kernel)) <|
  allq qX8_sortPlaces 53 (.inl (a_is 2 54)) (s_istore_n (q := 2) (i := 2) rfl (by decide +kernel) (by decide)) <|
  allq qX8_sortPlaces 54 (.inl (a_il 2 55)) (s_iload_n (q := 2) (i := 2) rfl (by decide +kernel)) <|
  allq qX8_sortPlaces 55 (.inl (a_al 0 56)) (s_aload_n (q := 0) (i := 0) rfl (by decide +kernel)) <|
  allq qX8_sortPlaces 56 (.inl (a_get 8 0 59)) (gX8 (f0 := 0) (by decide) kw_205 (by decide +kernel)) <|
  allq qX8_sortPlaces 59 (.inl (o_icmp_gt 86 62)) (s_icmp_gt (off := 27) (by decide +kernel) (by decide)) <|
  alln
set_option maxRecDepth 20000 in
theorem kX8_sortPlaces_1 : ∀ q ∈ tX8_sortPlaces_1, qX8_sortPlaces q :=
  allq qX8_sortPlaces 62 (.inl (a_al 0 63)) (s_aload_n (q := 0) (i := 0) rfl (by decide +kernel)) <|
  allq qX8_sortPlaces 63 (.inl (a_get 8 3 66)) (gX8 (f0 := 3) (by decide) kw_208 (by decide +kernel)) <|
  allq qX8_sortPlaces 66 (.inl (a_il 2 67)) (s_iload_n (q := 2) (i := 2) rfl (by decide +kernel)) <|
  allq qX8_sortPlaces 67 (.inl (a_dup2 68)) (s_dup2 (by decide +kernel)) <|
  allq qX8_sortPlaces 68 (.inl (a_iald 69)) (s_iald (by decide +kernel)) <|
  allq qX8_sortPlaces 69 (.inl (a_al 0 70)) (s_aload_n (q := 0) (i := 0) rfl (by decide +kernel)) <|
  allq qX8_sortPlaces 70 (.inl (a_get 8 1 73)) (gX8 (f0 := 1) (by decide) kw_206 (by decide +kernel)) <|
  allq qX8_sortPlaces 73 (.inl (a_il 2 74)) (s_iload_n (q := 2) (i := 2) rfl (by decide +kernel)) <|
  allq qX8_sortPlaces 74 (.inl (a_iald 75)) (s_iald (by decide +kernel)) <|
  allq qX8_sortPlaces 75 (.inl (o_mabs 78)) (s_mabs kw_507 kw_508 kw_106 kw_509 (by decide +kernel)) <|
  allq qX8_sortPlaces 78 (.inl (o_isub 79)) (s_isub (by decide +kernel)) <|
  allq qX8_sortPlaces 79 (.inl (a_iast 80)) (s_iast (by decide +kernel)) <|
  allq qX8_sortPlaces 80 (.inl (a_inc 2 1 83)) (s_iinc (i := 2) (n := 1) (n2 := 1) rfl (by decide +kernel) (by decide)) <|
  allq qX8_sortPlaces 83 (.inl (a_go 54)) (s_goto (off := (-29)) (by decide +kernel) (by decide)) <|
  allq qX8_sortPlaces 86 (.inr (.inr 0)) (Or.inl ⟨rfl, rfl, by decide +kernel⟩) <|
  alln
theorem kX8_sortPlaces : ∀ q ∈ tX8_sortPlaces, qX8_sortPlaces q := alla kX8_sortPlaces_0 kX8_sortPlaces_1
abbrev qX8_canTell : Nat × aI → Prop := OkQ RX8 "canTell" cX8_canTell 3 (some .boolean)
set_option maxRecDepth 20000 in
theorem kX8_canTell_0 : ∀ q ∈ tX8_canTell_0, qX8_canTell q :=
  allq qX8_canTell 0 (.inl (a_ic 0 1)) (s_iconst (n := 0) (v := 0) rfl (by decide +kernel)) <|
  allq qX8_canTell 1 (.inl (a_is 2 2)) (s_istore_n (q := 2) (i := 2) rfl (by decide +kernel) (by decide)) <|
  allq qX8_canTell 2 (.inl (a_il 2 3)) (s_iload_n (q := 2) (i := 2) rfl (by decide +kernel)) <|
  allq qX8_canTell 3 (.inl (a_al 1 4)) (s_aload_n (q := 1) (i := 1) rfl (by decide +kernel)) <|
  allq qX8_canTell 4 (.inl (a_len 5)) (s_len (by decide +kernel)) <|
  allq qX8_canTell 5 (.inl (o_icmp_ge 39 8)) (s_icmp_ge (off := 34) (by decide +kernel) (by decide)) <|
  allq qX8_canTell 8 (.inl (a_al 1 9)) (s_aload_n (q := 1) (i := 1) rfl (by decide +kernel)) <|
  allq qX8_canTell 9 (.inl (a_il 2 10)) (s_iload_n (q := 2) (i := 2) rfl (by decide +kernel)) <|
  allq qX8_canTell 10 (.inl (a_iald 11)) (s_iald (by decide +kernel)) <|
  allq qX8_canTell 11 (.inl (o_if_le 33 14)) (s_if_le (off := 22) (by decide +kernel) (by decide)) <|
  allq qX8_canTell 14 (.inl (a_il 2 15)) (s_iload_n (q := 2) (i := 2) rfl (by decide +kernel)) <|
  allq qX8_canTell 15 (.inl (a_al 0 16)) (s_aload_n (q := 0) (i := 0) rfl (by decide +kernel)) <|
  allq qX8_canTell 16 (.inl (a_get 8 0 19)) (gX8 (f0 := 0) (by decide) kw_205 (by decide +kernel)) <|
  allq qX8_canTell 19 (.inl (o_icmp_gt 31 22)) (s_icmp_gt (off := 12) (by decide +kernel) (by decide)) <|
  allq qX8_canTell 22 (.inl (a_al 0 23)) (s_aload_n (q := 0) (i := 0) rfl (by decide +kernel)) <|
  allq qX8_canTell 23 (.inl (a_get 8 1 26)) (gX8 (f0 := 1) (by decide) kw_206 (by decide +kernel)) <|
  allq qX8_canTell 26 (.inl (a_il 2 27)) (s_iload_n (q := 2) (i := 2) rfl (by decide +kernel)) <|
  allq qX8_canTell 27 (.inl (a_iald 28)) (s_iald (by decide +kernel)) <|
  allq qX8_canTell 28 (.inl (o_if_ne 33 31)) (s_if_ne (off := 5) (by decide +kernel) (by decide)) <|
  allq qX8_canTell 31 (.inl (a_ic 0 32)) (s_iconst (n := 0) (v := 0) rfl (by decide +kernel)) <|
  allq qX8_canTell 32 (.inr (.inr 3)) (Or.inr (Or.inr (Or.inr ⟨rfl, rfl, by decide +kernel⟩))) <|
  allq qX8_canTell 33 (.inl (a_inc 2 1 36)) (s_iinc (i := 2) (n := 1) (n2 := 1) rfl (by decide +kernel) (by decide)) <|
  allq qX8_canTell 36 (.inl (a_go 2)) (s_goto (off := (-34)) (by decide +kernel) (by decide)) <|
  allq qX8_canTell 39 (.inl (a_ic 1 40)) (s_iconst (n := 1) (v := 1) rfl (by decide +kernel)) <|
  allq qX8_canTell 40 (.inr (.inr 3)) (Or.inr (Or.inr (Or.inr ⟨rfl, rfl, by decide +kernel⟩))) <|
  alln
theorem kX8_canTell : ∀ q ∈ tX8_canTell, qX8_canTell q := kX8_canTell_0
abbrev qX8_lowest : Nat × aI → Prop := OkQ RX8 "lowest" cX8_lowest 3 (some .int)
set_option maxRecDepth 20000 in
theorem kX8_lowest_0 : ∀ q ∈ tX8_lowest_0, qX8_lowest q :=
  allq qX8_lowest 0 (.inl (a_al 0 1)) (s_aload_n (q := 0) (i := 0) rfl (by decide +kernel)) <|
  allq qX8_lowest 1 (.inl (a_get 8 3 4)) (gX8 (f0 := 3) (by decide) kw_208 (by decide +kernel)) <|
  allq qX8_lowest 4 (.inl (a_il 1 5)) (s_iload_n (q := 1) (i := 1) rfl (by decide +kernel)) <|
  allq qX8_lowest 5 (.inl (a_iald 6)) (s_iald (by decide +kernel)) <|
  allq qX8_lowest 6 (.inl (a_is 2 7)) (s_istore_n (q := 2) (i := 2) rfl (by decide +kernel) (by decide)) <|
  allq qX8_lowest 7 (.inl (a_il 2 8)) (s_iload_n (q := 2) (i := 2) rfl (by decide +kernel)) <|
  allq qX8_lowest 8 (.inl (o_if_lt 29 11)) (s_if_lt (off := 21) (by decide +kernel) (by decide)) <|
  allq qX8_lowest 11 (.inl (a_il 2 12)) (s_iload_n (q := 2) (i := 2) rfl (by decide +kernel)) <|
  allq qX8_lowest 12 (.inl (a_al 0 13)) (s_aload_n (q := 0) (i := 0) rfl (by decide +kernel)) <|
  allq qX8_lowest 13 (.inl (a_get 8 6 16)) (gX8 (f0 := 6) (by decide) kw_211 (by decide +kernel)) <|
  allq qX8_lowest 16 (.inl (a_len 17)) (s_len (by decide +kernel)) <|
  allq qX8_lowest 17 (.inl (o_icmp_ge 29 20)) (s_icmp_ge (off := 12) (by decide +kernel) (by decide)) <|
  allq qX8_lowest 20 (.inl (a_al 0 21)) (s_aload_n (q := 0) (i := 0) rfl (by decide +kernel)) <|
  allq qX8_lowest 21 (.inl (a_get 8 6 24)) (gX8 (f0 := 6) (by decide) kw_211 (by decide +kernel)) <|
  allq qX8_lowest 24 (.inl (a_il 2 25)) (s_iload_n (q := 2) (i := 2) rfl (by decide +kernel)) <|
  allq qX8_lowest 25 (.inl (a_iald 26)) (s_iald (by decide +kernel)) <|
  allq qX8_lowest 26 (.inl (a_go 30)) (s_goto (off := 4) (by decide +kernel) (by decide)) <|
  allq qX8_lowest 29 (.inl (a_ic 0 30)) (s_iconst (n := 0) (v := 0) rfl (by decide +kernel)) <|
  allq qX8_lowest 30 (.inr (.inr 1)) (Or.inr (Or.inl ⟨rfl, rfl, by decide +kernel⟩)) <|
  alln
theorem kX8_lowest : ∀ q ∈ tX8_lowest, qX8_lowest q := kX8_lowest_0
abbrev qX8_width : Nat × aI → Prop := OkQ RX8 "width" cX8_width 4 (some .int)
set_option maxRecDepth 20000 in
theorem kX8_width_0 : ∀ q ∈ tX8_width_0, qX8_width q :=
  allq qX8_width 0 (.inl (a_al 0 1)) (s_aload_n (q := 0) (i := 0) rfl (by decide +kernel)) <|
  allq qX8_width 1 (.inl (a_get 8 4 4)) (gX8 (f0 := 4) (by decide) kw_209 (by decide +kernel)) <|
  allq qX8_width 4 (.inl (a_il 1 5)) (s_iload_n (q := 1) (i := 1) rfl (by decide +kernel)) <|
  allq qX8_width 5 (.inl (a_iald 6)) (s_iald (by decide +kernel)) <|
  allq qX8_width 6 (.inl (a_is 3 7)) (s_istore_n (q := 3) (i := 3) rfl (by decide +kernel) (by decide)) <|
  allq qX8_width 7 (.inl (a_il 2 8)) (s_iload_n (q := 2) (i := 2) rfl (by decide +kernel)) <|
  allq qX8_width 8 (.inl (a_ic 1 9)) (s_iconst (n := 1) (v := 1) rfl (by decide +kernel)) <|
  allq qX8_width 9 (.inl (a_al 0 10)) (s_aload_n (q := 0) (i := 0) rfl (by decide +kernel)) <|
  allq qX8_width 10 (.inl (a_get 8 7 13)) (gX8 (f0 := 7) (by decide) kw_212 (by decide +kernel)) <|
  allq qX8_width 13 (.inl (o_ishl 14)) (s_ishl (by decide +kernel)) <|
  allq qX8_width 14 (.inl (o_iadd 15)) (s_iadd (by decide +kernel)) <|
  allq qX8_width 15 (.inl (a_il 3 16)) (s_iload_n (q := 3) (i := 3) rfl (by decide +kernel)) <|
  allq qX8_width 16 (.inl (o_ishr 17)) (s_ishr (by decide +kernel)) <|
  allq qX8_width 17 (.inl (a_al 0 18)) (s_aload_n (q := 0) (i := 0) rfl (by decide +kernel)) <|
  allq qX8_width 18 (.inl (a_get 8 1 21)) (gX8 (f0 := 1) (by decide) kw_206 (by decide +kernel)) <|
  allq qX8_width 21 (.inl (a_il 1 22)) (s_iload_n (q := 1) (i := 1) rfl (by decide +kernel)) <|
  allq qX8_width 22 (.inl (a_iald 23)) (s_iald (by decide +kernel)) <|
  allq qX8_width 23 (.inl (o_mabs 26)) (s_mabs kw_507 kw_508 kw_106 kw_509 (by decide +kernel)) <|
  allq qX8_width 26 (.inl (o_icmp_lt 33 29)) (s_icmp_lt (off := 7) (by decide +kernel) (by decide)) <|
  allq qX8_width 29 (.inl (a_il 3 30)) (s_iload_n (q := 3) (i := 3) rfl (by decide +kernel)) <|
  allq qX8_width 30 (.inl (a_go 36)) (s_goto (off := 6) (by decide +kernel) (by decide)) <|
  allq qX8_width 33 (.inl (a_il 3 34)) (s_iload_n (q := 3) (i := 3) rfl (by decide +kernel)) <|
  allq qX8_width 34 (.inl (a_ic 1 35)) (s_iconst (n := 1) (v := 1) rfl (by decide +kernel)) <|
  allq qX8_width 35 (.inl (o_isub 36)) (s_isub (by decide +kernel)) <|
  allq qX8_width 36 (.inr (.inr 1)) (Or.inr (Or.inl ⟨rfl, rfl, by decide +kernel⟩)) <|
  alln
theorem kX8_width : ∀ q ∈ tX8_width, qX8_width q := kX8_width_0
abbrev qX8_before : Nat × aI → Prop := OkQ RX8 "before" cX8_before 5 (some .int)
set_option maxRecDepth 20000 in
theorem kX8_before_0 : ∀ q ∈ tX8_before_0, qX8_before q :=
  allq qX8_before 0 (.inl (a_al 0 1)) (s_aload_n (q := 0) (i := 0) rfl (by decide +kernel)) <|
  allq qX8_before 1 (.inl (a_get 8 3 4)) (gX8 (f0 := 3) (by decide) kw_208 (by decide +kernel)) <|
  allq qX8_before 4 (.inl (a_il 1 5)) (s_iload_n (q := 1) (i := 1) rfl (by decide +kernel)) <|
  allq qX8_before 5 (.inl (a_iald 6)) (s_iald (by decide +kernel)) <|
  allq qX8_before 6 (.inl (a_il 2 7)) (s_iload_n (q := 2) (i := 2) rfl (by decide +kernel)) <|
  allq qX8_before 7 (.inl (a_ic 1 8)) (s_iconst (n := 1) (v := 1) rfl (by decide +kernel)) <|
  allq qX8_before 8 (.inl (a_al 0 9)) (s_aload_n (q := 0) (i := 0) rfl (by decide +kernel)) <|
  allq qX8_before 9 (.inl (a_get 8 7 12)) (gX8 (f0 := 7) (by decide) kw_212 (by decide +kernel)) <|
  allq qX8_before 12 (.inl (o_ishl 13)) (s_ishl (by decide +kernel)) <|
  allq qX8_before 13 (.inl (o_iadd 14)) (s_iadd (by decide +kernel)) <|
  allq qX8_before 14 (.inl (a_il 3 15)) (s_iload_n (q := 3) (i := 3) rfl (by decide +kernel)) <|
  allq qX8_before 15 (.inl (o_ishr 16)) (s_ishr (by decide +kernel)) <|
  allq qX8_before 16 (.inl (o_iadd 17)) (s_iadd (by decide +kernel)) <|
  allq qX8_before 17 (.inl (a_al 0 18)) (s_aload_n (q := 0) (i := 0) rfl (by decide +kernel)) <|
  allq qX8_before 18 (.inl (a_get 8 1 21)) (gX8 (f0 := 1) (by decide) kw_206 (by decide +kernel)) <|
  allq qX8_before 21 (.inl (a_il 1 22)) (s_iload_n (q := 1) (i := 1) rfl (by decide +kernel)) <|
  allq qX8_before 22 (.inl (a_iald 23)) (s_iald (by decide +kernel)) <|
  allq qX8_before 23 (.inl (o_mabs 26)) (s_mabs kw_507 kw_508 kw_106 kw_509 (by decide +kernel)) <|
  allq qX8_before 26 (.inl (o_isub 27)) (s_isub (by decide +kernel)) <|
  allq qX8_before 27 (.inl (a_is 4 29)) (s_istore (i := 4) (by decide +kernel) (by decide)) <|
  allq qX8_before 29 (.inl (a_il 4 31)) (s_iload (i := 4) (by decide +kernel)) <|
  allq qX8_before 31 (.inl (o_if_lt 54 34)) (s_if_lt (off := 23) (by decide +kernel) (by decide)) <|
  allq qX8_before 34 (.inl (a_il 4 36)) (s_iload (i := 4) (by decide +kernel)) <|
  allq qX8_before 36 (.inl (a_al 0 37)) (s_aload_n (q := 0) (i := 0) rfl (by decide +kernel)) <|
  allq qX8_before 37 (.inl (a_get 8 6 40)) (gX8 (f0 := 6) (by decide) kw_211 (by decide +kernel)) <|
  allq qX8_before 40 (.inl (a_len 41)) (s_len (by decide +kernel)) <|
  allq qX8_before 41 (.inl (o_icmp_ge 54 44)) (s_icmp_ge (off := 13) (by decide +kernel) (by decide)) <|
  allq qX8_before 44 (.inl (a_al 0 45)) (s_aload_n (q := 0) (i := 0) rfl (by decide +kernel)) <|
  allq qX8_before 45 (.inl (a_get 8 6 48)) (gX8 (f0 := 6) (by decide) kw_211 (by decide +kernel)) <|
  allq qX8_before 48 (.inl (a_il 4 50)) (s_iload (i := 4) (by decide +kernel)) <|
  allq qX8_before 50 (.inl (a_iald 51)) (s_iald (by decide +kernel)) <|
  allq qX8_before 51 (.inl (a_go 55)) (s_goto (off := 4) (by decide +kernel) (by decide)) <|
  allq qX8_before 54 (.inl (a_ic 0 55)) (s_iconst (n := 0) (v := 0) rfl (by decide +kernel)) <|
  allq qX8_before 55 (.inr (.inr 1)) (Or.inr (Or.inl ⟨rfl, rfl, by decide +kernel⟩)) <|
  alln
theorem kX8_before : ∀ q ∈ tX8_before, qX8_before q := kX8_before_0
abbrev qX8_rowBits : Nat × aI → Prop := OkQ RX8 "rowBits" cX8_rowBits 7 (some .int)
set_option maxRecDepth 20000 in
theorem kX8_rowBits_0 : ∀ q ∈ tX8_rowBits_0, qX8_rowBits q :=
  allq qX8_rowBits 0 (.inl (a_il 2 1)) (s_iload_n (q := 2) (i := 2) rfl (by decide +kernel)) <|
  allq qX8_rowBits 1 (.inl (a_ic 1 2)) (s_iconst (n := 1) (v := 1) rfl (by decide +kernel)) <|
  allq qX8_rowBits 2 (.inl (o_icmp_lt 11 5)) (s_icmp_lt (off := 9) (by decide +kernel) (by decide)) <|
  allq qX8_rowBits 5 (.inl (a_il 2 6)) (s_iload_n (q := 2) (i := 2) rfl (by decide +kernel)) <|
  allq qX8_rowBits 6 (.inl (a_al 1 7)) (s_aload_n (q := 1) (i := 1) rfl (by decide +kernel)) <|
  allq qX8_rowBits 7 (.inl (a_len 8)) (s_len (by decide +kernel)) <|
  allq qX8_rowBits 8 (.inl (o_icmp_le 13 11)) (s_icmp_le (off := 5) (by decide +kernel) (by decide)) <|
  allq qX8_rowBits 11 (.inl (a_ic 0 12)) (s_iconst (n := 0) (v := 0) rfl (by decide +kernel)) <|
  allq qX8_rowBits 12 (.inr (.inr 1)) (Or.inr (Or.inl ⟨rfl, rfl, by decide +kernel⟩)) <|
  allq qX8_rowBits 13 (.inl (a_al 0 14)) (s_aload_n (q := 0) (i := 0) rfl (by decide +kernel)) <|
  allq qX8_rowBits 14 (.inl (a_get 8 7 17)) (gX8 (f0 := 7) (by decide) kw_212 (by decide +kernel)) <|
  allq qX8_rowBits 17 (.inl (a_is 3 18)) (s_istore_n (q := 3) (i := 3) rfl (by decide +kernel) (by decide)) <|
  allq qX8_rowBits 18 (.inl (a_al 0 19)) (s_aload_n (q := 0) (i := 0) rfl (by decide +kernel)) <|
  allq qX8_rowBits 19 (.inl (a_al 1 20)) (s_aload_n (q := 1) (i := 1) rfl (by decide +kernel)) <|
  allq qX8_rowBits 20 (.inl (a_il 2 21)) (s_iload_n (q := 2) (i := 2) rfl (by decide +kernel)) <|
  allq qX8_rowBits 21 (.inl (a_ic 1 22)) (s_iconst (n := 1) (v := 1) rfl (by decide +kernel)) <|
  allq qX8_rowBits 22 (.inl (o_isub 23)) (s_isub (by decide +kernel)) <|
  allq qX8_rowBits 23 (.inl (a_iald 24)) (s_iald (by decide +kernel)) <|
  allq qX8_rowBits 24 (.inr (.inl (107, 2, 9))) (okV (y := yX8_lowest) kw_938 kw_109 rfl rfl (by decide +kernel) kw_936 kw_937 kw_971) <|
  allq qX8_rowBits 27 (.inl (a_is 4 29)) (s_istore (i := 4) (by decide +kernel) (by decide)) <|
  allq qX8_rowBits 29 (.inl (a_il 2 30)) (s_iload_n (q := 2) (i := 2) rfl (by decide +kernel)) <|
  allq qX8_rowBits 30 (.inl (a_ic 2 31)) (s_iconst (n := 2) (v := 2) rfl (by decide +kernel)) <|
  allq qX8_rowBits 31 (.inl (o_isub 32)) (s_isub (by decide +kernel)) <|
  allq qX8_rowBits 32 (.inl (a_is 5 34)) (s_istore (i := 5) (by decide +kernel) (by decide)) <|
  allq qX8_rowBits 34 (.inl (a_il 5 36)) (s_iload (i := 5) (by decide +kernel)) <|
  allq qX8_rowBits 36 (.inl (o_if_lt 76 39)) (s_if_lt (off := 40) (by decide +kernel) (by decide)) <|
  allq qX8_rowBits 39 (.inl (a_al 0 40)) (s_aload_n (q := 0) (i := 0) rfl (by decide +kernel)) <|
  allq qX8_rowBits 40 (.inl (a_al 1 41)) (s_aload_n (q := 1) (i := 1) rfl (by decide +kernel)) <|
  allq qX8_rowBits 41 (.inl (a_il 5 43)) (s_iload (i := 5) (by decide +kernel)) <|
  allq qX8_rowBits 43 (.inl (a_iald 44)) (s_iald (by decide +kernel)) <|
  allq qX8_rowBits 44 (.inl (a_il 4 46)) (s_iload (i := 4) (by decide +kernel)) <|
  allq qX8_rowBits 46 (.inr (.inl (108, 3, 9))) (okV (y := yX8_width) kw_942 kw_109 rfl rfl (by decide +kernel) kw_940 kw_941 kw_972) <|
  allq qX8_rowBits 49 (.inl (a_is 6 51)) (s_istore (i := 6) (by decide +kernel) (by decide)) <|
  allq qX8_rowBits 51 (.inl (a_il 3 52)) (s_iload_n (q := 3) (i := 3) rfl (by decide +kernel)) <|
  allq qX8_rowBits 52 (.inl (a_il 6 54)) (s_iload (i := 6) (by decide +kernel)) <|
  allq qX8_rowBits 54 (.inl (o_iadd 55)) (s_iadd (by decide +kernel)) <|
  allq qX8_rowBits 55 (.inl (a_is 3 56)) (s_istore_n (q := 3) (i := 3) rfl (by decide +kernel) (by decide)) <|
  allq qX8_rowBits 56 (.inl (a_al 0 57)) (s_aload_n (q := 0) (i := 0) rfl (by decide +kernel)) <|
  allq qX8_rowBits 57 (.inl (a_al 1 58)) (s_aload_n (q := 1) (i := 1) rfl (by decide +kernel)) <|
  allq qX8_rowBits 58 (.inl (a_il 5 60)) (s_iload (i := 5) (by decide +kernel)) <|
  alln
set_option maxRecDepth 20000 in
theorem kX8_rowBits_1 : ∀ q ∈ tX8_rowBits_1, qX8_rowBits q :=
  allq qX8_rowBits 60 (.inl (a_iald 61)) (s_iald (by decide +kernel)) <|
  allq qX8_rowBits 61 (.inl (a_il 4 63)) (s_iload (i := 4) (by decide +kernel)) <|
  allq qX8_rowBits 63 (.inl (a_il 6 65)) (s_iload (i := 6) (by decide +kernel)) <|
  allq qX8_rowBits 65 (.inr (.inl (109, 4, 9))) (okV (y := yX8_before) kw_947 kw_109 rfl rfl (by decide +kernel) kw_945 kw_946 kw_973) <|
  allq qX8_rowBits 68 (.inl (a_is 4 70)) (s_istore (i := 4) (by decide +kernel) (by decide)) <|
  allq qX8_rowBits 70 (.inl (a_inc 5 (-1) 73)) (s_iinc (i := 5) (n := (-1)) (n2 := (-1)) rfl (by decide +kernel) (by decide)) <|
  allq qX8_rowBits 73 (.inl (a_go 34)) (s_goto (off := (-39)) (by decide +kernel) (by decide)) <|
  allq qX8_rowBits 76 (.inl (a_il 3 77)) (s_iload_n (q := 3) (i := 3) rfl (by decide +kernel)) <|
  allq qX8_rowBits 77 (.inr (.inr 1)) (Or.inr (Or.inl ⟨rfl, rfl, by decide +kernel⟩)) <|
  alln
theorem kX8_rowBits : ∀ q ∈ tX8_rowBits, qX8_rowBits q := alla kX8_rowBits_0 kX8_rowBits_1
abbrev qX8_owner : Nat × aI → Prop := OkQ RX8 "owner" cX8_owner 2 (some .int)
set_option maxRecDepth 20000 in
theorem kX8_owner_0 : ∀ q ∈ tX8_owner_0, qX8_owner q :=
  allq qX8_owner 0 (.inl (a_il 1 1)) (s_iload_n (q := 1) (i := 1) rfl (by decide +kernel)) <|
  allq qX8_owner 1 (.inl (o_if_lt 22 4)) (s_if_lt (off := 21) (by decide +kernel) (by decide)) <|
  allq qX8_owner 4 (.inl (a_il 1 5)) (s_iload_n (q := 1) (i := 1) rfl (by decide +kernel)) <|
  allq qX8_owner 5 (.inl (a_al 0 6)) (s_aload_n (q := 0) (i := 0) rfl (by decide +kernel)) <|
  allq qX8_owner 6 (.inl (a_get 8 5 9)) (gX8 (f0 := 5) (by decide) kw_210 (by decide +kernel)) <|
  allq qX8_owner 9 (.inl (a_len 10)) (s_len (by decide +kernel)) <|
  allq qX8_owner 10 (.inl (o_icmp_ge 22 13)) (s_icmp_ge (off := 12) (by decide +kernel) (by decide)) <|
  allq qX8_owner 13 (.inl (a_al 0 14)) (s_aload_n (q := 0) (i := 0) rfl (by decide +kernel)) <|
  allq qX8_owner 14 (.inl (a_get 8 5 17)) (gX8 (f0 := 5) (by decide) kw_210 (by decide +kernel)) <|
  allq qX8_owner 17 (.inl (a_il 1 18)) (s_iload_n (q := 1) (i := 1) rfl (by decide +kernel)) <|
  allq qX8_owner 18 (.inl (a_iald 19)) (s_iald (by decide +kernel)) <|
  allq qX8_owner 19 (.inl (a_go 23)) (s_goto (off := 4) (by decide +kernel) (by decide)) <|
  allq qX8_owner 22 (.inl (a_ic 0 23)) (s_iconst (n := 0) (v := 0) rfl (by decide +kernel)) <|
  allq qX8_owner 23 (.inr (.inr 1)) (Or.inr (Or.inl ⟨rfl, rfl, by decide +kernel⟩)) <|
  alln
theorem kX8_owner : ∀ q ∈ tX8_owner, qX8_owner q := kX8_owner_0
abbrev qX8_rank : Nat × aI → Prop := OkQ RX8 "rank" cX8_rank 6 (some .int)
set_option maxRecDepth 20000 in
theorem kX8_rank_0 : ∀ q ∈ tX8_rank_0, qX8_rank q :=
  allq qX8_rank 0 (.inl (a_al 0 1)) (s_aload_n (q := 0) (i := 0) rfl (by decide +kernel)) <|
  allq qX8_rank 1 (.inl (a_il 1 2)) (s_iload_n (q := 1) (i := 1) rfl (by decide +kernel)) <|
  allq qX8_rank 2 (.inr (.inl (111, 2, 9))) (okV (y := yX8_owner) kw_689 kw_109 rfl rfl (by decide +kernel) kw_687 kw_688 kw_694) <|
  allq qX8_rank 5 (.inl (a_is 2 6)) (s_istore_n (q := 2) (i := 2) rfl (by decide +kernel) (by decide)) <|
  allq qX8_rank 6 (.inl (a_al 0 7)) (s_aload_n (q := 0) (i := 0) rfl (by decide +kernel)) <|
  allq qX8_rank 7 (.inl (a_get 8 1 10)) (gX8 (f0 := 1) (by decide) kw_206 (by decide +kernel)) <|
  allq qX8_rank 10 (.inl (a_il 2 11)) (s_iload_n (q := 2) (i := 2) rfl (by decide +kernel)) <|
  allq qX8_rank 11 (.inl (a_iald 12)) (s_iald (by decide +kernel)) <|
  allq qX8_rank 12 (.inl (o_mabs 15)) (s_mabs kw_507 kw_508 kw_106 kw_509 (by decide +kernel)) <|
  allq qX8_rank 15 (.inl (a_is 3 16)) (s_istore_n (q := 3) (i := 3) rfl (by decide +kernel) (by decide)) <|
  allq qX8_rank 16 (.inl (a_ic 0 17)) (s_iconst (n := 0) (v := 0) rfl (by decide +kernel)) <|
  allq qX8_rank 17 (.inl (a_is 4 19)) (s_istore (i := 4) (by decide +kernel) (by decide)) <|
  allq qX8_rank 19 (.inl (a_il 4 21)) (s_iload (i := 4) (by decide +kernel)) <|
  allq qX8_rank 21 (.inl (a_il 3 22)) (s_iload_n (q := 3) (i := 3) rfl (by decide +kernel)) <|
  allq qX8_rank 22 (.inl (o_icmp_ge 68 25)) (s_icmp_ge (off := 46) (by decide +kernel) (by decide)) <|
  allq qX8_rank 25 (.inl (a_al 0 26)) (s_aload_n (q := 0) (i := 0) rfl (by decide +kernel)) <|
  allq qX8_rank 26 (.inl (a_get 8 3 29)) (gX8 (f0 := 3) (by decide) kw_208 (by decide +kernel)) <|
  allq qX8_rank 29 (.inl (a_il 2 30)) (s_iload_n (q := 2) (i := 2) rfl (by decide +kernel)) <|
  allq qX8_rank 30 (.inl (a_iald 31)) (s_iald (by decide +kernel)) <|
  allq qX8_rank 31 (.inl (a_il 4 33)) (s_iload (i := 4) (by decide +kernel)) <|
  allq qX8_rank 33 (.inl (o_iadd 34)) (s_iadd (by decide +kernel)) <|
  allq qX8_rank 34 (.inl (a_is 5 36)) (s_istore (i := 5) (by decide +kernel) (by decide)) <|
  allq qX8_rank 36 (.inl (a_il 5 38)) (s_iload (i := 5) (by decide +kernel)) <|
  allq qX8_rank 38 (.inl (a_al 0 39)) (s_aload_n (q := 0) (i := 0) rfl (by decide +kernel)) <|
  allq qX8_rank 39 (.inl (a_get 8 6 42)) (gX8 (f0 := 6) (by decide) kw_211 (by decide +kernel)) <|
  allq qX8_rank 42 (.inl (a_len 43)) (s_len (by decide +kernel)) <|
  allq qX8_rank 43 (.inl (o_icmp_ge 62 46)) (s_icmp_ge (off := 19) (by decide +kernel) (by decide)) <|
  allq qX8_rank 46 (.inl (a_al 0 47)) (s_aload_n (q := 0) (i := 0) rfl (by decide +kernel)) <|
  allq qX8_rank 47 (.inl (a_get 8 6 50)) (gX8 (f0 := 6) (by decide) kw_211 (by decide +kernel)) <|
  allq qX8_rank 50 (.inl (a_il 5 52)) (s_iload (i := 5) (by decide +kernel)) <|
  allq qX8_rank 52 (.inl (a_iald 53)) (s_iald (by decide +kernel)) <|
  allq qX8_rank 53 (.inl (a_il 1 54)) (s_iload_n (q := 1) (i := 1) rfl (by decide +kernel)) <|
  allq qX8_rank 54 (.inl (o_icmp_ne 62 57)) (s_icmp_ne (off := 8) (by decide +kernel) (by decide)) <|
  allq qX8_rank 57 (.inl (a_il 3 58)) (s_iload_n (q := 3) (i := 3) rfl (by decide +kernel)) <|
  allq qX8_rank 58 (.inl (a_il 4 60)) (s_iload (i := 4) (by decide +kernel)) <|
  allq qX8_rank 60 (.inl (o_iadd 61)) (s_iadd (by decide +kernel)) <|
  allq qX8_rank 61 (.inr (.inr 1)) (Or.inr (Or.inl ⟨rfl, rfl, by decide +kernel⟩)) <|
  allq qX8_rank 62 (.inl (a_inc 4 1 65)) (s_iinc (i := 4) (n := 1) (n2 := 1) rfl (by decide +kernel) (by decide)) <|
  allq qX8_rank 65 (.inl (a_go 19)) (s_goto (off := (-46)) (by decide +kernel) (by decide)) <|
  allq qX8_rank 68 (.inl (a_il 3 69)) (s_iload_n (q := 3) (i := 3) rfl (by decide +kernel)) <|
  alln
set_option maxRecDepth 20000 in
theorem kX8_rank_1 : ∀ q ∈ tX8_rank_1, qX8_rank q :=
  allq qX8_rank 69 (.inr (.inr 1)) (Or.inr (Or.inl ⟨rfl, rfl, by decide +kernel⟩)) <|
  alln
theorem kX8_rank : ∀ q ∈ tX8_rank, qX8_rank q := alla kX8_rank_0 kX8_rank_1
abbrev qX8_tell : Nat × aI → Prop := OkQ RX8 "tell" cX8_tell 9 (none)
set_option maxRecDepth 20000 in
theorem kX8_tell_0 : ∀ q ∈ tX8_tell_0, qX8_tell q :=
  allq qX8_tell 0 (.inl (a_al 1 1)) (s_aload_n (q := 1) (i := 1) rfl (by decide +kernel)) <|
  allq qX8_tell 1 (.inl (a_al 0 2)) (s_aload_n (q := 0) (i := 0) rfl (by decide +kernel)) <|
  allq qX8_tell 2 (.inl (a_get 8 7 5)) (gX8 (f0 := 7) (by decide) kw_212 (by decide +kernel)) <|
  allq qX8_tell 5 (.inl (a_ic 5 6)) (s_iconst (n := 5) (v := 5) rfl (by decide +kernel)) <|
  allq qX8_tell 6 (.inl (o_isub 7)) (s_isub (by decide +kernel)) <|
  allq qX8_tell 7 (.inl (a_ic 4 8)) (s_iconst (n := 4) (v := 4) rfl (by decide +kernel)) <|
  allq qX8_tell 8 (.inr (.inl (90, 3, 8))) (okV (y := yX7_addBits) kw_921 kw_105 rfl rfl (by decide +kernel) kw_919 kw_920 kw_918) <|
  allq qX8_tell 11 (.inl (a_ic 1 12)) (s_iconst (n := 1) (v := 1) rfl (by decide +kernel)) <|
  allq qX8_tell 12 (.inl (a_al 0 13)) (s_aload_n (q := 0) (i := 0) rfl (by decide +kernel)) <|
  allq qX8_tell 13 (.inl (a_get 8 7 16)) (gX8 (f0 := 7) (by decide) kw_212 (by decide +kernel)) <|
  allq qX8_tell 16 (.inl (o_ishl 17)) (s_ishl (by decide +kernel)) <|
  allq qX8_tell 17 (.inl (a_is 2 18)) (s_istore_n (q := 2) (i := 2) rfl (by decide +kernel) (by decide)) <|
  allq qX8_tell 18 (.inl (a_ic 0 19)) (s_iconst (n := 0) (v := 0) rfl (by decide +kernel)) <|
  allq qX8_tell 19 (.inl (a_is 3 20)) (s_istore_n (q := 3) (i := 3) rfl (by decide +kernel) (by decide)) <|
  allq qX8_tell 20 (.inl (a_ic 0 21)) (s_iconst (n := 0) (v := 0) rfl (by decide +kernel)) <|
  allq qX8_tell 21 (.inl (a_is 4 23)) (s_istore (i := 4) (by decide +kernel) (by decide)) <|
  allq qX8_tell 23 (.inl (a_il 4 25)) (s_iload (i := 4) (by decide +kernel)) <|
  allq qX8_tell 25 (.inl (a_al 0 26)) (s_aload_n (q := 0) (i := 0) rfl (by decide +kernel)) <|
  allq qX8_tell 26 (.inl (a_get 8 0 29)) (gX8 (f0 := 0) (by decide) kw_205 (by decide +kernel)) <|
  allq qX8_tell 29 (.inl (o_icmp_gt 190 32)) (s_icmp_gt (off := 161) (by decide +kernel) (by decide)) <|
  allq qX8_tell 32 (.inl (a_il 2 33)) (s_iload_n (q := 2) (i := 2) rfl (by decide +kernel)) <|
  allq qX8_tell 33 (.inl (o_if_le 190 36)) (s_if_le (off := 157) (by decide +kernel) (by decide)) <|
  allq qX8_tell 36 (.inl (a_al 0 37)) (s_aload_n (q := 0) (i := 0) rfl (by decide +kernel)) <|
  allq qX8_tell 37 (.inl (a_get 8 1 40)) (gX8 (f0 := 1) (by decide) kw_206 (by decide +kernel)) <|
  allq qX8_tell 40 (.inl (a_il 4 42)) (s_iload (i := 4) (by decide +kernel)) <|
  allq qX8_tell 42 (.inl (a_iald 43)) (s_iald (by decide +kernel)) <|
  allq qX8_tell 43 (.inl (a_ic 1 44)) (s_iconst (n := 1) (v := 1) rfl (by decide +kernel)) <|
  allq qX8_tell 44 (.inl (o_iadd 45)) (s_iadd (by decide +kernel)) <|
  allq qX8_tell 45 (.inl (a_is 5 47)) (s_istore (i := 5) (by decide +kernel) (by decide)) <|
  allq qX8_tell 47 (.inl (a_il 2 48)) (s_iload_n (q := 2) (i := 2) rfl (by decide +kernel)) <|
  allq qX8_tell 48 (.inl (a_ic 1 49)) (s_iconst (n := 1) (v := 1) rfl (by decide +kernel)) <|
  allq qX8_tell 49 (.inl (o_iadd 50)) (s_iadd (by decide +kernel)) <|
  allq qX8_tell 50 (.inr (.inl (140, 1, 0))) (okS (y := yX11_log) kw_512 kw_104 rfl (by decide +kernel) kw_511 (Or.inr ⟨"StatePress", kn_510⟩)) <|
  allq qX8_tell 53 (.inl (a_is 6 55)) (s_istore (i := 6) (by decide +kernel) (by decide)) <|
  allq qX8_tell 55 (.inl (a_ic 2 56)) (s_iconst (n := 2) (v := 2) rfl (by decide +kernel)) <|
  allq qX8_tell 56 (.inl (a_il 6 58)) (s_iload (i := 6) (by decide +kernel)) <|
  allq qX8_tell 58 (.inl (o_ishl 59)) (s_ishl (by decide +kernel)) <|
  allq qX8_tell 59 (.inl (a_ic 2 60)) (s_iconst (n := 2) (v := 2) rfl (by decide +kernel)) <|
  allq qX8_tell 60 (.inl (o_isub 61)) (s_isub (by decide +kernel)) <|
  allq qX8_tell 61 (.inl (a_il 2 62)) (s_iload_n (q := 2) (i := 2) rfl (by decide +kernel)) <|
  alln
set_option maxRecDepth 20000 in
theorem kX8_tell_1 : ∀ q ∈ tX8_tell_1, qX8_tell q :=
  allq qX8_tell 62 (.inl (o_isub 63)) (s_isub (by decide +kernel)) <|
  allq qX8_tell 63 (.inl (a_is 7 65)) (s_istore (i := 7) (by decide +kernel) (by decide)) <|
  allq qX8_tell 65 (.inl (a_il 5 67)) (s_iload (i := 5) (by decide +kernel)) <|
  allq qX8_tell 67 (.inl (a_il 7 69)) (s_iload (i := 7) (by decide +kernel)) <|
  allq qX8_tell 69 (.inl (o_icmp_ge 83 72)) (s_icmp_ge (off := 14) (by decide +kernel) (by decide)) <|
  allq qX8_tell 72 (.inl (a_al 1 73)) (s_aload_n (q := 1) (i := 1) rfl (by decide +kernel)) <|
  allq qX8_tell 73 (.inl (a_il 5 75)) (s_iload (i := 5) (by decide +kernel)) <|
  allq qX8_tell 75 (.inl (a_il 6 77)) (s_iload (i := 6) (by decide +kernel)) <|
  allq qX8_tell 77 (.inr (.inl (90, 3, 8))) (okV (y := yX7_addBits) kw_921 kw_105 rfl rfl (by decide +kernel) kw_919 kw_920 kw_918) <|
  allq qX8_tell 80 (.inl (a_go 110)) (s_goto (off := 30) (by decide +kernel) (by decide)) <|
  allq qX8_tell 83 (.inl (a_al 1 84)) (s_aload_n (q := 1) (i := 1) rfl (by decide +kernel)) <|
  allq qX8_tell 84 (.inl (a_il 5 86)) (s_iload (i := 5) (by decide +kernel)) <|
  allq qX8_tell 86 (.inl (a_ic 1 87)) (s_iconst (n := 1) (v := 1) rfl (by decide +kernel)) <|
  allq qX8_tell 87 (.inl (a_il 6 89)) (s_iload (i := 6) (by decide +kernel)) <|
  allq qX8_tell 89 (.inl (o_ishl 90)) (s_ishl (by decide +kernel)) <|
  allq qX8_tell 90 (.inl (o_icmp_ge 98 93)) (s_icmp_ge (off := 8) (by decide +kernel) (by decide)) <|
  allq qX8_tell 93 (.inl (a_il 5 95)) (s_iload (i := 5) (by decide +kernel)) <|
  allq qX8_tell 95 (.inl (a_go 103)) (s_goto (off := 8) (by decide +kernel) (by decide)) <|
  allq qX8_tell 98 (.inl (a_il 5 100)) (s_iload (i := 5) (by decide +kernel)) <|
  allq qX8_tell 100 (.inl (a_il 7 102)) (s_iload (i := 7) (by decide +kernel)) <|
  allq qX8_tell 102 (.inl (o_iadd 103)) (s_iadd (by decide +kernel)) <|
  allq qX8_tell 103 (.inl (a_il 6 105)) (s_iload (i := 6) (by decide +kernel)) <|
  allq qX8_tell 105 (.inl (a_ic 1 106)) (s_iconst (n := 1) (v := 1) rfl (by decide +kernel)) <|
  allq qX8_tell 106 (.inl (o_iadd 107)) (s_iadd (by decide +kernel)) <|
  allq qX8_tell 107 (.inr (.inl (90, 3, 8))) (okV (y := yX7_addBits) kw_921 kw_105 rfl rfl (by decide +kernel) kw_919 kw_920 kw_918) <|
  allq qX8_tell 110 (.inl (a_il 2 111)) (s_iload_n (q := 2) (i := 2) rfl (by decide +kernel)) <|
  allq qX8_tell 111 (.inl (a_al 0 112)) (s_aload_n (q := 0) (i := 0) rfl (by decide +kernel)) <|
  allq qX8_tell 112 (.inl (a_get 8 1 115)) (gX8 (f0 := 1) (by decide) kw_206 (by decide +kernel)) <|
  allq qX8_tell 115 (.inl (a_il 4 117)) (s_iload (i := 4) (by decide +kernel)) <|
  allq qX8_tell 117 (.inl (a_iald 118)) (s_iald (by decide +kernel)) <|
  allq qX8_tell 118 (.inl (o_mabs 121)) (s_mabs kw_507 kw_508 kw_106 kw_509 (by decide +kernel)) <|
  allq qX8_tell 121 (.inl (o_isub 122)) (s_isub (by decide +kernel)) <|
  allq qX8_tell 122 (.inl (a_is 2 123)) (s_istore_n (q := 2) (i := 2) rfl (by decide +kernel) (by decide)) <|
  allq qX8_tell 123 (.inl (a_il 5 125)) (s_iload (i := 5) (by decide +kernel)) <|
  allq qX8_tell 125 (.inl (a_ic 1 126)) (s_iconst (n := 1) (v := 1) rfl (by decide +kernel)) <|
  allq qX8_tell 126 (.inl (o_icmp_ne 140 129)) (s_icmp_ne (off := 14) (by decide +kernel) (by decide)) <|
  allq qX8_tell 129 (.inl (a_al 0 130)) (s_aload_n (q := 0) (i := 0) rfl (by decide +kernel)) <|
  allq qX8_tell 130 (.inl (a_il 4 132)) (s_iload (i := 4) (by decide +kernel)) <|
  allq qX8_tell 132 (.inl (a_ic 1 133)) (s_iconst (n := 1) (v := 1) rfl (by decide +kernel)) <|
  allq qX8_tell 133 (.inl (o_iadd 134)) (s_iadd (by decide +kernel)) <|
  alln
set_option maxRecDepth 20000 in
theorem kX8_tell_2 : ∀ q ∈ tX8_tell_2, qX8_tell q :=
  allq qX8_tell 134 (.inr (.inl (114, 2, 9))) (okV (y := yX8_zerosFrom) kw_925 kw_109 rfl rfl (by decide +kernel) kw_924 kw_21 kw_922) <|
  allq qX8_tell 137 (.inl (a_go 141)) (s_goto (off := 4) (by decide +kernel) (by decide)) <|
  allq qX8_tell 140 (.inl (a_ic 0 141)) (s_iconst (n := 0) (v := 0) rfl (by decide +kernel)) <|
  allq qX8_tell 141 (.inl (a_is 3 142)) (s_istore_n (q := 3) (i := 3) rfl (by decide +kernel) (by decide)) <|
  allq qX8_tell 142 (.inl (a_il 5 144)) (s_iload (i := 5) (by decide +kernel)) <|
  allq qX8_tell 144 (.inl (a_ic 1 145)) (s_iconst (n := 1) (v := 1) rfl (by decide +kernel)) <|
  allq qX8_tell 145 (.inl (o_icmp_ne 179 148)) (s_icmp_ne (off := 34) (by decide +kernel) (by decide)) <|
  allq qX8_tell 148 (.inl (a_ic 0 149)) (s_iconst (n := 0) (v := 0) rfl (by decide +kernel)) <|
  allq qX8_tell 149 (.inl (a_is 8 151)) (s_istore (i := 8) (by decide +kernel) (by decide)) <|
  allq qX8_tell 151 (.inl (a_il 8 153)) (s_iload (i := 8) (by decide +kernel)) <|
  allq qX8_tell 153 (.inl (a_il 3 154)) (s_iload_n (q := 3) (i := 3) rfl (by decide +kernel)) <|
  allq qX8_tell 154 (.inl (a_ic 3 155)) (s_iconst (n := 3) (v := 3) rfl (by decide +kernel)) <|
  allq qX8_tell 155 (.inl (o_idiv 156)) (s_idiv (by decide +kernel)) <|
  allq qX8_tell 156 (.inl (o_icmp_ge 171 159)) (s_icmp_ge (off := 15) (by decide +kernel) (by decide)) <|
  allq qX8_tell 159 (.inl (a_al 1 160)) (s_aload_n (q := 1) (i := 1) rfl (by decide +kernel)) <|
  allq qX8_tell 160 (.inl (a_ic 3 161)) (s_iconst (n := 3) (v := 3) rfl (by decide +kernel)) <|
  allq qX8_tell 161 (.inl (a_ic 2 162)) (s_iconst (n := 2) (v := 2) rfl (by decide +kernel)) <|
  allq qX8_tell 162 (.inr (.inl (90, 3, 8))) (okV (y := yX7_addBits) kw_921 kw_105 rfl rfl (by decide +kernel) kw_919 kw_920 kw_918) <|
  allq qX8_tell 165 (.inl (a_inc 8 1 168)) (s_iinc (i := 8) (n := 1) (n2 := 1) rfl (by decide +kernel) (by decide)) <|
  allq qX8_tell 168 (.inl (a_go 151)) (s_goto (off := (-17)) (by decide +kernel) (by decide)) <|
  allq qX8_tell 171 (.inl (a_al 1 172)) (s_aload_n (q := 1) (i := 1) rfl (by decide +kernel)) <|
  allq qX8_tell 172 (.inl (a_il 3 173)) (s_iload_n (q := 3) (i := 3) rfl (by decide +kernel)) <|
  allq qX8_tell 173 (.inl (a_ic 3 174)) (s_iconst (n := 3) (v := 3) rfl (by decide +kernel)) <|
  allq qX8_tell 174 (.inl (o_irem 175)) (s_irem (by decide +kernel)) <|
  allq qX8_tell 175 (.inl (a_ic 2 176)) (s_iconst (n := 2) (v := 2) rfl (by decide +kernel)) <|
  allq qX8_tell 176 (.inr (.inl (90, 3, 8))) (okV (y := yX7_addBits) kw_921 kw_105 rfl rfl (by decide +kernel) kw_919 kw_920 kw_918) <|
  allq qX8_tell 179 (.inl (a_il 4 181)) (s_iload (i := 4) (by decide +kernel)) <|
  allq qX8_tell 181 (.inl (a_ic 1 182)) (s_iconst (n := 1) (v := 1) rfl (by decide +kernel)) <|
  allq qX8_tell 182 (.inl (a_il 3 183)) (s_iload_n (q := 3) (i := 3) rfl (by decide +kernel)) <|
  allq qX8_tell 183 (.inl (o_iadd 184)) (s_iadd (by decide +kernel)) <|
  allq qX8_tell 184 (.inl (o_iadd 185)) (s_iadd (by decide +kernel)) <|
  allq qX8_tell 185 (.inl (a_is 4 187)) (s_istore (i := 4) (by decide +kernel) (by decide)) <|
  allq qX8_tell 187 (.inl (a_go 23)) (s_goto (off := (-164)) (by decide +kernel) (by decide)) <|
  allq qX8_tell 190 (.inl (a_al 1 191)) (s_aload_n (q := 1) (i := 1) rfl (by decide +kernel)) <|
  allq qX8_tell 191 (.inr (.inl (91, 1, 8))) (okV (y := yX7_closeBits) kw_929 kw_105 rfl rfl (by decide +kernel) kw_927 kw_928 kw_926) <|
  allq qX8_tell 194 (.inr (.inr 0)) (Or.inl ⟨rfl, rfl, by decide +kernel⟩) <|
  alln
theorem kX8_tell : ∀ q ∈ tX8_tell, qX8_tell q := alla kX8_tell_0 (alla kX8_tell_1 kX8_tell_2)
abbrev qX8_zerosFrom : Nat × aI → Prop := OkQ RX8 "zerosFrom" cX8_zerosFrom 4 (some .int)
set_option maxRecDepth 20000 in
theorem kX8_zerosFrom_0 : ∀ q ∈ tX8_zerosFrom_0, qX8_zerosFrom q :=
  allq qX8_zerosFrom 0 (.inl (a_ic 0 1)) (s_iconst (n := 0) (v := 0) rfl (by decide +kernel)) <|
  allq qX8_zerosFrom 1 (.inl (a_is 2 2)) (s_istore_n (q := 2) (i := 2) rfl (by decide +kernel) (by decide)) <|
  allq qX8_zerosFrom 2 (.inl (a_il 1 3)) (s_iload_n (q := 1) (i := 1) rfl (by decide +kernel)) <|
  allq qX8_zerosFrom 3 (.inl (a_is 3 4)) (s_istore_n (q := 3) (i := 3) rfl (by decide +kernel) (by decide)) <|
  allq qX8_zerosFrom 4 (.inl (a_il 3 5)) (s_iload_n (q := 3) (i := 3) rfl (by decide +kernel)) <|
  allq qX8_zerosFrom 5 (.inl (a_al 0 6)) (s_aload_n (q := 0) (i := 0) rfl (by decide +kernel)) <|
  allq qX8_zerosFrom 6 (.inl (a_get 8 0 9)) (gX8 (f0 := 0) (by decide) kw_205 (by decide +kernel)) <|
  allq qX8_zerosFrom 9 (.inl (o_icmp_gt 30 12)) (s_icmp_gt (off := 21) (by decide +kernel) (by decide)) <|
  allq qX8_zerosFrom 12 (.inl (a_al 0 13)) (s_aload_n (q := 0) (i := 0) rfl (by decide +kernel)) <|
  allq qX8_zerosFrom 13 (.inl (a_get 8 1 16)) (gX8 (f0 := 1) (by decide) kw_206 (by decide +kernel)) <|
  allq qX8_zerosFrom 16 (.inl (a_il 3 17)) (s_iload_n (q := 3) (i := 3) rfl (by decide +kernel)) <|
  allq qX8_zerosFrom 17 (.inl (a_iald 18)) (s_iald (by decide +kernel)) <|
  allq qX8_zerosFrom 18 (.inl (o_if_ne 30 21)) (s_if_ne (off := 12) (by decide +kernel) (by decide)) <|
  allq qX8_zerosFrom 21 (.inl (a_inc 2 1 24)) (s_iinc (i := 2) (n := 1) (n2 := 1) rfl (by decide +kernel) (by decide)) <|
  allq qX8_zerosFrom 24 (.inl (a_inc 3 1 27)) (s_iinc (i := 3) (n := 1) (n2 := 1) rfl (by decide +kernel) (by decide)) <|
  allq qX8_zerosFrom 27 (.inl (a_go 4)) (s_goto (off := (-23)) (by decide +kernel) (by decide)) <|
  allq qX8_zerosFrom 30 (.inl (a_il 2 31)) (s_iload_n (q := 2) (i := 2) rfl (by decide +kernel)) <|
  allq qX8_zerosFrom 31 (.inr (.inr 1)) (Or.inr (Or.inl ⟨rfl, rfl, by decide +kernel⟩)) <|
  alln
theorem kX8_zerosFrom : ∀ q ∈ tX8_zerosFrom, qX8_zerosFrom q := kX8_zerosFrom_0
abbrev qX8_readFrom : Nat × aI → Prop := OkQ RX8 "readFrom" cX8_readFrom 13 (some .int)
set_option maxRecDepth 20000 in
theorem kX8_readFrom_0 : ∀ q ∈ tX8_readFrom_0, qX8_readFrom q :=
  allq qX8_readFrom 0 (.inl (a_al 0 1)) (s_aload_n (q := 0) (i := 0) rfl (by decide +kernel)) <|
  allq qX8_readFrom 1 (.inl (a_ic 0 2)) (s_iconst (n := 0) (v := 0) rfl (by decide +kernel)) <|
  allq qX8_readFrom 2 (.inl (a_put 8 8 .boolean 5)) (pX8 (f0 := 8) (by decide) rfl rfl tOk kw_215 (by decide +kernel)) <|
  allq qX8_readFrom 5 (.inl (a_al 0 6)) (s_aload_n (q := 0) (i := 0) rfl (by decide +kernel)) <|
  allq qX8_readFrom 6 (.inl (a_get 8 1 9)) (gX8 (f0 := 1) (by decide) kw_206 (by decide +kernel)) <|
  allq qX8_readFrom 9 (.inl (a_ic 0 10)) (s_iconst (n := 0) (v := 0) rfl (by decide +kernel)) <|
  allq qX8_readFrom 10 (.inr (.inl (223, 2, 0))) (okS (y := yJ7_fill_53178) kw_496 kw_116 rfl (by decide +kernel) kw_495 (Or.inl kw_494)) <|
  allq qX8_readFrom 13 (.inl (a_ic 8 15)) (s_bipush (n := 8) (v := 8) rfl (by decide +kernel)) <|
  allq qX8_readFrom 15 (.inl (a_il 3 16)) (s_iload_n (q := 3) (i := 3) rfl (by decide +kernel)) <|
  allq qX8_readFrom 16 (.inl (o_imul 17)) (s_imul (by decide +kernel)) <|
  allq qX8_readFrom 17 (.inl (a_is 5 19)) (s_istore (i := 5) (by decide +kernel) (by decide)) <|
  allq qX8_readFrom 19 (.inl (a_ic 8 21)) (s_bipush (n := 8) (v := 8) rfl (by decide +kernel)) <|
  allq qX8_readFrom 21 (.inl (a_il 2 22)) (s_iload_n (q := 2) (i := 2) rfl (by decide +kernel)) <|
  allq qX8_readFrom 22 (.inl (o_imul 23)) (s_imul (by decide +kernel)) <|
  allq qX8_readFrom 23 (.inl (a_ic 4 24)) (s_iconst (n := 4) (v := 4) rfl (by decide +kernel)) <|
  allq qX8_readFrom 24 (.inl (o_iadd 25)) (s_iadd (by decide +kernel)) <|
  allq qX8_readFrom 25 (.inl (a_is 6 27)) (s_istore (i := 6) (by decide +kernel) (by decide)) <|
  allq qX8_readFrom 27 (.inl (a_al 0 28)) (s_aload_n (q := 0) (i := 0) rfl (by decide +kernel)) <|
  allq qX8_readFrom 28 (.inl (a_ic 5 29)) (s_iconst (n := 5) (v := 5) rfl (by decide +kernel)) <|
  allq qX8_readFrom 29 (.inl (a_al 1 30)) (s_aload_n (q := 1) (i := 1) rfl (by decide +kernel)) <|
  allq qX8_readFrom 30 (.inl (a_ic 8 32)) (s_bipush (n := 8) (v := 8) rfl (by decide +kernel)) <|
  allq qX8_readFrom 32 (.inl (a_il 2 33)) (s_iload_n (q := 2) (i := 2) rfl (by decide +kernel)) <|
  allq qX8_readFrom 33 (.inl (o_imul 34)) (s_imul (by decide +kernel)) <|
  allq qX8_readFrom 34 (.inl (a_ic 4 35)) (s_iconst (n := 4) (v := 4) rfl (by decide +kernel)) <|
  allq qX8_readFrom 35 (.inr (.inl (95, 3, 8))) (okV (y := yX7_bits) kw_683 kw_105 rfl rfl (by decide +kernel) kw_681 kw_682 kw_680) <|
  allq qX8_readFrom 38 (.inl (o_iadd 39)) (s_iadd (by decide +kernel)) <|
  allq qX8_readFrom 39 (.inl (a_put 8 7 .int 42)) (pX8 (f0 := 7) (by decide) rfl rfl tOk kw_212 (by decide +kernel)) <|
  allq qX8_readFrom 42 (.inl (a_il 6 44)) (s_iload (i := 6) (by decide +kernel)) <|
  allq qX8_readFrom 44 (.inl (a_il 5 46)) (s_iload (i := 5) (by decide +kernel)) <|
  allq qX8_readFrom 46 (.inl (o_icmp_gt 72 49)) (s_icmp_gt (off := 26) (by decide +kernel) (by decide)) <|
  allq qX8_readFrom 49 (.inl (a_al 0 50)) (s_aload_n (q := 0) (i := 0) rfl (by decide +kernel)) <|
  allq qX8_readFrom 50 (.inl (a_get 8 7 53)) (gX8 (f0 := 7) (by decide) kw_212 (by decide +kernel)) <|
  allq qX8_readFrom 53 (.inl (a_il 4 55)) (s_iload (i := 4) (by decide +kernel)) <|
  allq qX8_readFrom 55 (.inl (o_icmp_gt 72 58)) (s_icmp_gt (off := 17) (by decide +kernel) (by decide)) <|
  allq qX8_readFrom 58 (.inl (a_ic 1 59)) (s_iconst (n := 1) (v := 1) rfl (by decide +kernel)) <|
  allq qX8_readFrom 59 (.inl (a_al 0 60)) (s_aload_n (q := 0) (i := 0) rfl (by decide +kernel)) <|
  allq qX8_readFrom 60 (.inl (a_get 8 7 63)) (gX8 (f0 := 7) (by decide) kw_212 (by decide +kernel)) <|
  allq qX8_readFrom 63 (.inl (o_ishl 64)) (s_ishl (by decide +kernel)) <|
  allq qX8_readFrom 64 (.inl (a_al 0 65)) (s_aload_n (q := 0) (i := 0) rfl (by decide +kernel)) <|
  allq qX8_readFrom 65 (.inl (a_get 8 5 68)) (gX8 (f0 := 5) (by decide) kw_210 (by decide +kernel)) <|
  alln
set_option maxRecDepth 20000 in
theorem kX8_readFrom_1 : ∀ q ∈ tX8_readFrom_1, qX8_readFrom q :=
  allq qX8_readFrom 68 (.inl (a_len 69)) (s_len (by decide +kernel)) <|
  allq qX8_readFrom 69 (.inl (o_icmp_le 74 72)) (s_icmp_le (off := 5) (by decide +kernel) (by decide)) <|
  allq qX8_readFrom 72 (.inl (a_ic (-1) 73)) (s_iconst (n := (-1)) (v := (-1)) rfl (by decide +kernel)) <|
  allq qX8_readFrom 73 (.inr (.inr 1)) (Or.inr (Or.inl ⟨rfl, rfl, by decide +kernel⟩)) <|
  allq qX8_readFrom 74 (.inl (a_ic 1 75)) (s_iconst (n := 1) (v := 1) rfl (by decide +kernel)) <|
  allq qX8_readFrom 75 (.inl (a_al 0 76)) (s_aload_n (q := 0) (i := 0) rfl (by decide +kernel)) <|
  allq qX8_readFrom 76 (.inl (a_get 8 7 79)) (gX8 (f0 := 7) (by decide) kw_212 (by decide +kernel)) <|
  allq qX8_readFrom 79 (.inl (o_ishl 80)) (s_ishl (by decide +kernel)) <|
  allq qX8_readFrom 80 (.inl (a_is 7 82)) (s_istore (i := 7) (by decide +kernel) (by decide)) <|
  allq qX8_readFrom 82 (.inl (a_ic 0 83)) (s_iconst (n := 0) (v := 0) rfl (by decide +kernel)) <|
  allq qX8_readFrom 83 (.inl (a_is 8 85)) (s_istore (i := 8) (by decide +kernel) (by decide)) <|
  allq qX8_readFrom 85 (.inl (a_il 8 87)) (s_iload (i := 8) (by decide +kernel)) <|
  allq qX8_readFrom 87 (.inl (a_al 0 88)) (s_aload_n (q := 0) (i := 0) rfl (by decide +kernel)) <|
  allq qX8_readFrom 88 (.inl (a_get 8 0 91)) (gX8 (f0 := 0) (by decide) kw_205 (by decide +kernel)) <|
  allq qX8_readFrom 91 (.inl (o_icmp_gt 286 94)) (s_icmp_gt (off := 195) (by decide +kernel) (by decide)) <|
  allq qX8_readFrom 94 (.inl (a_il 7 96)) (s_iload (i := 7) (by decide +kernel)) <|
  allq qX8_readFrom 96 (.inl (o_if_le 286 99)) (s_if_le (off := 190) (by decide +kernel) (by decide)) <|
  allq qX8_readFrom 99 (.inl (a_il 7 101)) (s_iload (i := 7) (by decide +kernel)) <|
  allq qX8_readFrom 101 (.inl (a_ic 1 102)) (s_iconst (n := 1) (v := 1) rfl (by decide +kernel)) <|
  allq qX8_readFrom 102 (.inl (o_iadd 103)) (s_iadd (by decide +kernel)) <|
  allq qX8_readFrom 103 (.inr (.inl (140, 1, 0))) (okS (y := yX11_log) kw_512 kw_104 rfl (by decide +kernel) kw_511 (Or.inr ⟨"StatePress", kn_510⟩)) <|
  allq qX8_readFrom 106 (.inl (a_is 9 108)) (s_istore (i := 9) (by decide +kernel) (by decide)) <|
  allq qX8_readFrom 108 (.inl (a_ic 2 109)) (s_iconst (n := 2) (v := 2) rfl (by decide +kernel)) <|
  allq qX8_readFrom 109 (.inl (a_il 9 111)) (s_iload (i := 9) (by decide +kernel)) <|
  allq qX8_readFrom 111 (.inl (o_ishl 112)) (s_ishl (by decide +kernel)) <|
  allq qX8_readFrom 112 (.inl (a_ic 2 113)) (s_iconst (n := 2) (v := 2) rfl (by decide +kernel)) <|
  allq qX8_readFrom 113 (.inl (o_isub 114)) (s_isub (by decide +kernel)) <|
  allq qX8_readFrom 114 (.inl (a_il 7 116)) (s_iload (i := 7) (by decide +kernel)) <|
  allq qX8_readFrom 116 (.inl (o_isub 117)) (s_isub (by decide +kernel)) <|
  allq qX8_readFrom 117 (.inl (a_is 10 119)) (s_istore (i := 10) (by decide +kernel) (by decide)) <|
  allq qX8_readFrom 119 (.inl (a_al 1 120)) (s_aload_n (q := 1) (i := 1) rfl (by decide +kernel)) <|
  allq qX8_readFrom 120 (.inl (a_il 6 122)) (s_iload (i := 6) (by decide +kernel)) <|
  allq qX8_readFrom 122 (.inl (a_il 9 124)) (s_iload (i := 9) (by decide +kernel)) <|
  allq qX8_readFrom 124 (.inr (.inl (95, 3, 8))) (okV (y := yX7_bits) kw_683 kw_105 rfl rfl (by decide +kernel) kw_681 kw_682 kw_680) <|
  allq qX8_readFrom 127 (.inl (a_is 11 129)) (s_istore (i := 11) (by decide +kernel) (by decide)) <|
  allq qX8_readFrom 129 (.inl (a_il 11 131)) (s_iload (i := 11) (by decide +kernel)) <|
  allq qX8_readFrom 131 (.inl (a_il 10 133)) (s_iload (i := 10) (by decide +kernel)) <|
  allq qX8_readFrom 133 (.inl (o_icmp_lt 172 136)) (s_icmp_lt (off := 39) (by decide +kernel) (by decide)) <|
  allq qX8_readFrom 136 (.inl (a_al 1 137)) (s_aload_n (q := 1) (i := 1) rfl (by decide +kernel)) <|
  allq qX8_readFrom 137 (.inl (a_il 6 139)) (s_iload (i := 6) (by decide +kernel)) <|
  alln
set_option maxRecDepth 20000 in
theorem kX8_readFrom_2 : ∀ q ∈ tX8_readFrom_2, qX8_readFrom q :=
  allq qX8_readFrom 139 (.inl (a_il 9 141)) (s_iload (i := 9) (by decide +kernel)) <|
  allq qX8_readFrom 141 (.inl (a_ic 1 142)) (s_iconst (n := 1) (v := 1) rfl (by decide +kernel)) <|
  allq qX8_readFrom 142 (.inl (o_iadd 143)) (s_iadd (by decide +kernel)) <|
  allq qX8_readFrom 143 (.inr (.inl (95, 3, 8))) (okV (y := yX7_bits) kw_683 kw_105 rfl rfl (by decide +kernel) kw_681 kw_682 kw_680) <|
  allq qX8_readFrom 146 (.inl (a_is 11 148)) (s_istore (i := 11) (by decide +kernel) (by decide)) <|
  allq qX8_readFrom 148 (.inl (a_il 11 150)) (s_iload (i := 11) (by decide +kernel)) <|
  allq qX8_readFrom 150 (.inl (a_ic 1 151)) (s_iconst (n := 1) (v := 1) rfl (by decide +kernel)) <|
  allq qX8_readFrom 151 (.inl (a_il 9 153)) (s_iload (i := 9) (by decide +kernel)) <|
  allq qX8_readFrom 153 (.inl (o_ishl 154)) (s_ishl (by decide +kernel)) <|
  allq qX8_readFrom 154 (.inl (o_icmp_lt 165 157)) (s_icmp_lt (off := 11) (by decide +kernel) (by decide)) <|
  allq qX8_readFrom 157 (.inl (a_il 11 159)) (s_iload (i := 11) (by decide +kernel)) <|
  allq qX8_readFrom 159 (.inl (a_il 10 161)) (s_iload (i := 10) (by decide +kernel)) <|
  allq qX8_readFrom 161 (.inl (o_isub 162)) (s_isub (by decide +kernel)) <|
  allq qX8_readFrom 162 (.inl (a_go 167)) (s_goto (off := 5) (by decide +kernel) (by decide)) <|
  allq qX8_readFrom 165 (.inl (a_il 11 167)) (s_iload (i := 11) (by decide +kernel)) <|
  allq qX8_readFrom 167 (.inl (a_is 11 169)) (s_istore (i := 11) (by decide +kernel) (by decide)) <|
  allq qX8_readFrom 169 (.inl (a_inc 6 1 172)) (s_iinc (i := 6) (n := 1) (n2 := 1) rfl (by decide +kernel) (by decide)) <|
  allq qX8_readFrom 172 (.inl (a_il 6 174)) (s_iload (i := 6) (by decide +kernel)) <|
  allq qX8_readFrom 174 (.inl (a_il 9 176)) (s_iload (i := 9) (by decide +kernel)) <|
  allq qX8_readFrom 176 (.inl (o_iadd 177)) (s_iadd (by decide +kernel)) <|
  allq qX8_readFrom 177 (.inl (a_is 6 179)) (s_istore (i := 6) (by decide +kernel) (by decide)) <|
  allq qX8_readFrom 179 (.inl (a_al 0 180)) (s_aload_n (q := 0) (i := 0) rfl (by decide +kernel)) <|
  allq qX8_readFrom 180 (.inl (a_get 8 1 183)) (gX8 (f0 := 1) (by decide) kw_206 (by decide +kernel)) <|
  allq qX8_readFrom 183 (.inl (a_il 8 185)) (s_iload (i := 8) (by decide +kernel)) <|
  allq qX8_readFrom 185 (.inl (a_il 11 187)) (s_iload (i := 11) (by decide +kernel)) <|
  allq qX8_readFrom 187 (.inl (a_ic 1 188)) (s_iconst (n := 1) (v := 1) rfl (by decide +kernel)) <|
  allq qX8_readFrom 188 (.inl (o_isub 189)) (s_isub (by decide +kernel)) <|
  allq qX8_readFrom 189 (.inl (a_iast 190)) (s_iast (by decide +kernel)) <|
  allq qX8_readFrom 190 (.inl (a_il 7 192)) (s_iload (i := 7) (by decide +kernel)) <|
  allq qX8_readFrom 192 (.inl (a_al 0 193)) (s_aload_n (q := 0) (i := 0) rfl (by decide +kernel)) <|
  allq qX8_readFrom 193 (.inl (a_get 8 1 196)) (gX8 (f0 := 1) (by decide) kw_206 (by decide +kernel)) <|
  allq qX8_readFrom 196 (.inl (a_il 8 198)) (s_iload (i := 8) (by decide +kernel)) <|
  allq qX8_readFrom 198 (.inl (a_iald 199)) (s_iald (by decide +kernel)) <|
  allq qX8_readFrom 199 (.inl (o_mabs 202)) (s_mabs kw_507 kw_508 kw_106 kw_509 (by decide +kernel)) <|
  allq qX8_readFrom 202 (.inl (o_isub 203)) (s_isub (by decide +kernel)) <|
  allq qX8_readFrom 203 (.inl (a_is 7 205)) (s_istore (i := 7) (by decide +kernel) (by decide)) <|
  allq qX8_readFrom 205 (.inl (a_il 11 207)) (s_iload (i := 11) (by decide +kernel)) <|
  allq qX8_readFrom 207 (.inl (a_ic 1 208)) (s_iconst (n := 1) (v := 1) rfl (by decide +kernel)) <|
  allq qX8_readFrom 208 (.inl (o_icmp_ne 215 211)) (s_icmp_ne (off := 7) (by decide +kernel) (by decide)) <|
  allq qX8_readFrom 211 (.inl (a_ic 3 212)) (s_iconst (n := 3) (v := 3) rfl (by decide +kernel)) <|
  alln
set_option maxRecDepth 20000 in
theorem kX8_readFrom_3 : ∀ q ∈ tX8_readFrom_3, qX8_readFrom q :=
  allq qX8_readFrom 212 (.inl (a_go 216)) (s_goto (off := 4) (by decide +kernel) (by decide)) <|
  allq qX8_readFrom 215 (.inl (a_ic 0 216)) (s_iconst (n := 0) (v := 0) rfl (by decide +kernel)) <|
  allq qX8_readFrom 216 (.inl (a_is 12 218)) (s_istore (i := 12) (by decide +kernel) (by decide)) <|
  allq qX8_readFrom 218 (.inl (a_il 12 220)) (s_iload (i := 12) (by decide +kernel)) <|
  allq qX8_readFrom 220 (.inl (a_ic 3 221)) (s_iconst (n := 3) (v := 3) rfl (by decide +kernel)) <|
  allq qX8_readFrom 221 (.inl (o_icmp_ne 262 224)) (s_icmp_ne (off := 41) (by decide +kernel) (by decide)) <|
  allq qX8_readFrom 224 (.inl (a_il 6 226)) (s_iload (i := 6) (by decide +kernel)) <|
  allq qX8_readFrom 226 (.inl (a_il 5 228)) (s_iload (i := 5) (by decide +kernel)) <|
  allq qX8_readFrom 228 (.inl (o_icmp_gt 262 231)) (s_icmp_gt (off := 34) (by decide +kernel) (by decide)) <|
  allq qX8_readFrom 231 (.inl (a_il 8 233)) (s_iload (i := 8) (by decide +kernel)) <|
  allq qX8_readFrom 233 (.inl (a_al 0 234)) (s_aload_n (q := 0) (i := 0) rfl (by decide +kernel)) <|
  allq qX8_readFrom 234 (.inl (a_get 8 0 237)) (gX8 (f0 := 0) (by decide) kw_205 (by decide +kernel)) <|
  allq qX8_readFrom 237 (.inl (o_icmp_gt 262 240)) (s_icmp_gt (off := 25) (by decide +kernel) (by decide)) <|
  allq qX8_readFrom 240 (.inl (a_al 1 241)) (s_aload_n (q := 1) (i := 1) rfl (by decide +kernel)) <|
  allq qX8_readFrom 241 (.inl (a_il 6 243)) (s_iload (i := 6) (by decide +kernel)) <|
  allq qX8_readFrom 243 (.inl (a_ic 2 244)) (s_iconst (n := 2) (v := 2) rfl (by decide +kernel)) <|
  allq qX8_readFrom 244 (.inr (.inl (95, 3, 8))) (okV (y := yX7_bits) kw_683 kw_105 rfl rfl (by decide +kernel) kw_681 kw_682 kw_680) <|
  allq qX8_readFrom 247 (.inl (a_is 12 249)) (s_istore (i := 12) (by decide +kernel) (by decide)) <|
  allq qX8_readFrom 249 (.inl (a_il 8 251)) (s_iload (i := 8) (by decide +kernel)) <|
  allq qX8_readFrom 251 (.inl (a_il 12 253)) (s_iload (i := 12) (by decide +kernel)) <|
  allq qX8_readFrom 253 (.inl (o_iadd 254)) (s_iadd (by decide +kernel)) <|
  allq qX8_readFrom 254 (.inl (a_is 8 256)) (s_istore (i := 8) (by decide +kernel) (by decide)) <|
  allq qX8_readFrom 256 (.inl (a_inc 6 2 259)) (s_iinc (i := 6) (n := 2) (n2 := 2) rfl (by decide +kernel) (by decide)) <|
  allq qX8_readFrom 259 (.inl (a_go 218)) (s_goto (off := (-41)) (by decide +kernel) (by decide)) <|
  allq qX8_readFrom 262 (.inl (a_il 6 264)) (s_iload (i := 6) (by decide +kernel)) <|
  allq qX8_readFrom 264 (.inl (a_il 5 266)) (s_iload (i := 5) (by decide +kernel)) <|
  allq qX8_readFrom 266 (.inl (o_icmp_gt 278 269)) (s_icmp_gt (off := 12) (by decide +kernel) (by decide)) <|
  allq qX8_readFrom 269 (.inl (a_il 8 271)) (s_iload (i := 8) (by decide +kernel)) <|
  allq qX8_readFrom 271 (.inl (a_al 0 272)) (s_aload_n (q := 0) (i := 0) rfl (by decide +kernel)) <|
  allq qX8_readFrom 272 (.inl (a_get 8 0 275)) (gX8 (f0 := 0) (by decide) kw_205 (by decide +kernel)) <|
  allq qX8_readFrom 275 (.inl (o_icmp_le 280 278)) (s_icmp_le (off := 5) (by decide +kernel) (by decide)) <|
  allq qX8_readFrom 278 (.inl (a_ic (-1) 279)) (s_iconst (n := (-1)) (v := (-1)) rfl (by decide +kernel)) <|
  allq qX8_readFrom 279 (.inr (.inr 1)) (Or.inr (Or.inl ⟨rfl, rfl, by decide +kernel⟩)) <|
  allq qX8_readFrom 280 (.inl (a_inc 8 1 283)) (s_iinc (i := 8) (n := 1) (n2 := 1) rfl (by decide +kernel) (by decide)) <|
  allq qX8_readFrom 283 (.inl (a_go 85)) (s_goto (off := (-198)) (by decide +kernel) (by decide)) <|
  allq qX8_readFrom 286 (.inl (a_il 7 288)) (s_iload (i := 7) (by decide +kernel)) <|
  allq qX8_readFrom 288 (.inl (o_if_eq 293 291)) (s_if_eq (off := 5) (by decide +kernel) (by decide)) <|
  allq qX8_readFrom 291 (.inl (a_ic (-1) 292)) (s_iconst (n := (-1)) (v := (-1)) rfl (by decide +kernel)) <|
  allq qX8_readFrom 292 (.inr (.inr 1)) (Or.inr (Or.inl ⟨rfl, rfl, by decide +kernel⟩)) <|
  allq qX8_readFrom 293 (.inl (a_al 0 294)) (s_aload_n (q := 0) (i := 0) rfl (by decide +kernel)) <|
  alln
set_option maxRecDepth 20000 in
theorem kX8_readFrom_4 : ∀ q ∈ tX8_readFrom_4, qX8_readFrom q :=
  allq qX8_readFrom 294 (.inr (.inl (103, 1, 9))) (okV (y := yX8_spread) kw_506 kw_109 rfl rfl (by decide +kernel) kw_504 kw_505 kw_503) <|
  allq qX8_readFrom 297 (.inl (a_il 6 299)) (s_iload (i := 6) (by decide +kernel)) <|
  allq qX8_readFrom 299 (.inl (a_ic 7 301)) (s_bipush (n := 7) (v := 7) rfl (by decide +kernel)) <|
  allq qX8_readFrom 301 (.inl (o_iadd 302)) (s_iadd (by decide +kernel)) <|
  allq qX8_readFrom 302 (.inl (a_ic 3 303)) (s_iconst (n := 3) (v := 3) rfl (by decide +kernel)) <|
  allq qX8_readFrom 303 (.inl (o_ishr 304)) (s_ishr (by decide +kernel)) <|
  allq qX8_readFrom 304 (.inr (.inr 1)) (Or.inr (Or.inl ⟨rfl, rfl, by decide +kernel⟩)) <|
  alln
theorem kX8_readFrom : ∀ q ∈ tX8_readFrom, qX8_readFrom q := alla kX8_readFrom_0 (alla kX8_readFrom_1 (alla kX8_readFrom_2 (alla kX8_readFrom_3 kX8_readFrom_4)))
abbrev qX9_init : Nat × aI → Prop := OkQ RX9 "<init>" cX9_init 1 (none)
set_option maxRecDepth 20000 in
theorem kX9_init_0 : ∀ q ∈ tX9_init_0, qX9_init q :=
  allq qX9_init 0 (.inl (a_al 0 1)) (s_aload_n (q := 0) (i := 0) rfl (by decide +kernel)) <|
  allq qX9_init 1 (.inl (a_oi 4)) (s_oi kw_168 kw_126 kw_127 (by decide +kernel)) <|
  allq qX9_init 4 (.inl (a_al 0 5)) (s_aload_n (q := 0) (i := 0) rfl (by decide +kernel)) <|
  allq qX9_init 5 (.inl (a_new 7 5 zX7 8)) (nX7 kw_169 (by decide +kernel)) <|
  allq qX9_init 8 (.inl (a_dup 9)) (s_dup (by decide +kernel)) <|
  allq qX9_init 9 (.inl (a_ic 0 10)) (s_iconst (n := 0) (v := 0) rfl (by decide +kernel)) <|
  allq qX9_init 10 (.inr (.inl (84, 2, 8))) (okN (y := yX7_init) kw_132 kw_105 rfl (by decide +kernel) kw_131 (Or.inl kw_170)) <|
  allq qX9_init 13 (.inl (a_put 9 0 (.object "StatePress$Row") 16)) (fX9 (f0 := 0) (by decide) rfl rfl rfl tOk kw_237 (by decide +kernel)) <|
  allq qX9_init 16 (.inl (a_al 0 17)) (s_aload_n (q := 0) (i := 0) rfl (by decide +kernel)) <|
  allq qX9_init 17 (.inl (a_new 0 5 zX0 20)) (nX0 kw_171 (by decide +kernel)) <|
  allq qX9_init 20 (.inl (a_dup 21)) (s_dup (by decide +kernel)) <|
  allq qX9_init 21 (.inr (.inl (0, 1, 1))) (okN (y := yX0_init) kw_175 kw_108 rfl (by decide +kernel) kw_174 (Or.inr ⟨"StatePress", kn_173⟩)) <|
  allq qX9_init 24 (.inl (a_put 9 1 (.object "StatePress$Codes") 27)) (fX9 (f0 := 1) (by decide) rfl rfl rfl tOk kw_239 (by decide +kernel)) <|
  allq qX9_init 27 (.inl (a_al 0 28)) (s_aload_n (q := 0) (i := 0) rfl (by decide +kernel)) <|
  allq qX9_init 28 (.inl (a_new 8 9 zX8 31)) (nX8 kw_198 (by decide +kernel)) <|
  allq qX9_init 31 (.inl (a_dup 32)) (s_dup (by decide +kernel)) <|
  allq qX9_init 32 (.inl (a_ic 35 34)) (s_bipush (n := 35) (v := 35) rfl (by decide +kernel)) <|
  allq qX9_init 34 (.inl (a_ic 9 36)) (s_bipush (n := 9) (v := 9) rfl (by decide +kernel)) <|
  allq qX9_init 36 (.inr (.inl (96, 3, 9))) (okN (y := yX8_init) kw_202 kw_109 rfl (by decide +kernel) kw_201 (Or.inl kw_200)) <|
  allq qX9_init 39 (.inl (a_put 9 2 (.object "StatePress$Share") 42)) (fX9 (f0 := 2) (by decide) rfl rfl rfl tOk kw_241 (by decide +kernel)) <|
  allq qX9_init 42 (.inl (a_al 0 43)) (s_aload_n (q := 0) (i := 0) rfl (by decide +kernel)) <|
  allq qX9_init 43 (.inl (a_new 8 9 zX8 46)) (nX8 kw_198 (by decide +kernel)) <|
  allq qX9_init 46 (.inl (a_dup 47)) (s_dup (by decide +kernel)) <|
  allq qX9_init 47 (.inl (a_ic 31 49)) (s_bipush (n := 31) (v := 31) rfl (by decide +kernel)) <|
  allq qX9_init 49 (.inl (a_ic 8 51)) (s_bipush (n := 8) (v := 8) rfl (by decide +kernel)) <|
  allq qX9_init 51 (.inr (.inl (96, 3, 9))) (okN (y := yX8_init) kw_202 kw_109 rfl (by decide +kernel) kw_201 (Or.inl kw_200)) <|
  allq qX9_init 54 (.inl (a_put 9 3 (.object "StatePress$Share") 57)) (fX9 (f0 := 3) (by decide) rfl rfl rfl tOk kw_243 (by decide +kernel)) <|
  allq qX9_init 57 (.inl (a_al 0 58)) (s_aload_n (q := 0) (i := 0) rfl (by decide +kernel)) <|
  allq qX9_init 58 (.inl (a_new 8 9 zX8 61)) (nX8 kw_198 (by decide +kernel)) <|
  allq qX9_init 61 (.inl (a_dup 62)) (s_dup (by decide +kernel)) <|
  allq qX9_init 62 (.inl (a_ic 52 64)) (s_bipush (n := 52) (v := 52) rfl (by decide +kernel)) <|
  allq qX9_init 64 (.inl (a_ic 9 66)) (s_bipush (n := 9) (v := 9) rfl (by decide +kernel)) <|
  allq qX9_init 66 (.inr (.inl (96, 3, 9))) (okN (y := yX8_init) kw_202 kw_109 rfl (by decide +kernel) kw_201 (Or.inl kw_200)) <|
  allq qX9_init 69 (.inl (a_put 9 4 (.object "StatePress$Share") 72)) (fX9 (f0 := 4) (by decide) rfl rfl rfl tOk kw_245 (by decide +kernel)) <|
  allq qX9_init 72 (.inl (a_al 0 73)) (s_aload_n (q := 0) (i := 0) rfl (by decide +kernel)) <|
  allq qX9_init 73 (.inl (a_ic 3 74)) (s_iconst (n := 3) (v := 3) rfl (by decide +kernel)) <|
  allq qX9_init 74 (.inl (a_newa 1 76)) (na_int kw_197 (by decide +kernel)) <|
  allq qX9_init 76 (.inl (a_dup 77)) (s_dup (by decide +kernel)) <|
  allq qX9_init 77 (.inl (a_ic 0 78)) (s_iconst (n := 0) (v := 0) rfl (by decide +kernel)) <|
  allq qX9_init 78 (.inl (a_ic 1 79)) (s_iconst (n := 1) (v := 1) rfl (by decide +kernel)) <|
  alln
set_option maxRecDepth 20000 in
theorem kX9_init_1 : ∀ q ∈ tX9_init_1, qX9_init q :=
  allq qX9_init 79 (.inl (a_iast 80)) (s_iast (by decide +kernel)) <|
  allq qX9_init 80 (.inl (a_dup 81)) (s_dup (by decide +kernel)) <|
  allq qX9_init 81 (.inl (a_ic 1 82)) (s_iconst (n := 1) (v := 1) rfl (by decide +kernel)) <|
  allq qX9_init 82 (.inl (a_ic 4 83)) (s_iconst (n := 4) (v := 4) rfl (by decide +kernel)) <|
  allq qX9_init 83 (.inl (a_iast 84)) (s_iast (by decide +kernel)) <|
  allq qX9_init 84 (.inl (a_dup 85)) (s_dup (by decide +kernel)) <|
  allq qX9_init 85 (.inl (a_ic 2 86)) (s_iconst (n := 2) (v := 2) rfl (by decide +kernel)) <|
  allq qX9_init 86 (.inl (a_ic 8 88)) (s_bipush (n := 8) (v := 8) rfl (by decide +kernel)) <|
  allq qX9_init 88 (.inl (a_iast 89)) (s_iast (by decide +kernel)) <|
  allq qX9_init 89 (.inl (a_put 9 5 (.array .int) 92)) (fX9 (f0 := 5) (by decide) rfl rfl rfl tOk kw_247 (by decide +kernel)) <|
  allq qX9_init 92 (.inr (.inr 0)) (Or.inl ⟨rfl, rfl, by decide +kernel⟩) <|
  alln
theorem kX9_init : ∀ q ∈ tX9_init, qX9_init q := alla kX9_init_0 kX9_init_1
abbrev qX9_empty : Nat × aI → Prop := OkQ RX9 "empty" cX9_empty 1 (none)
set_option maxRecDepth 20000 in
theorem kX9_empty_0 : ∀ q ∈ tX9_empty_0, qX9_empty q :=
  allq qX9_empty 0 (.inl (a_al 0 1)) (s_aload_n (q := 0) (i := 0) rfl (by decide +kernel)) <|
  allq qX9_empty 1 (.inl (a_get 9 1 4)) (gX9 (f0 := 1) (by decide) kw_239 (by decide +kernel)) <|
  allq qX9_empty 4 (.inl (a_ic 0 5)) (s_iconst (n := 0) (v := 0) rfl (by decide +kernel)) <|
  allq qX9_empty 5 (.inl (a_put 0 4 .boolean 8)) (pX0 (f0 := 4) (by decide) rfl rfl tOk kw_184 (by decide +kernel)) <|
  allq qX9_empty 8 (.inl (a_al 0 9)) (s_aload_n (q := 0) (i := 0) rfl (by decide +kernel)) <|
  allq qX9_empty 9 (.inl (a_get 9 2 12)) (gX9 (f0 := 2) (by decide) kw_241 (by decide +kernel)) <|
  allq qX9_empty 12 (.inl (a_ic 0 13)) (s_iconst (n := 0) (v := 0) rfl (by decide +kernel)) <|
  allq qX9_empty 13 (.inl (a_put 8 8 .boolean 16)) (pX8 (f0 := 8) (by decide) rfl rfl tOk kw_216 (by decide +kernel)) <|
  allq qX9_empty 16 (.inl (a_al 0 17)) (s_aload_n (q := 0) (i := 0) rfl (by decide +kernel)) <|
  allq qX9_empty 17 (.inl (a_get 9 3 20)) (gX9 (f0 := 3) (by decide) kw_243 (by decide +kernel)) <|
  allq qX9_empty 20 (.inl (a_ic 0 21)) (s_iconst (n := 0) (v := 0) rfl (by decide +kernel)) <|
  allq qX9_empty 21 (.inl (a_put 8 8 .boolean 24)) (pX8 (f0 := 8) (by decide) rfl rfl tOk kw_216 (by decide +kernel)) <|
  allq qX9_empty 24 (.inl (a_al 0 25)) (s_aload_n (q := 0) (i := 0) rfl (by decide +kernel)) <|
  allq qX9_empty 25 (.inl (a_get 9 4 28)) (gX9 (f0 := 4) (by decide) kw_245 (by decide +kernel)) <|
  allq qX9_empty 28 (.inl (a_ic 0 29)) (s_iconst (n := 0) (v := 0) rfl (by decide +kernel)) <|
  allq qX9_empty 29 (.inl (a_put 8 8 .boolean 32)) (pX8 (f0 := 8) (by decide) rfl rfl tOk kw_216 (by decide +kernel)) <|
  allq qX9_empty 32 (.inl (a_al 0 33)) (s_aload_n (q := 0) (i := 0) rfl (by decide +kernel)) <|
  allq qX9_empty 33 (.inl (a_get 9 5 36)) (gX9 (f0 := 5) (by decide) kw_247 (by decide +kernel)) <|
  allq qX9_empty 36 (.inl (a_ic 0 37)) (s_iconst (n := 0) (v := 0) rfl (by decide +kernel)) <|
  allq qX9_empty 37 (.inl (a_ic 1 38)) (s_iconst (n := 1) (v := 1) rfl (by decide +kernel)) <|
  allq qX9_empty 38 (.inl (a_iast 39)) (s_iast (by decide +kernel)) <|
  allq qX9_empty 39 (.inl (a_al 0 40)) (s_aload_n (q := 0) (i := 0) rfl (by decide +kernel)) <|
  allq qX9_empty 40 (.inl (a_get 9 5 43)) (gX9 (f0 := 5) (by decide) kw_247 (by decide +kernel)) <|
  allq qX9_empty 43 (.inl (a_ic 1 44)) (s_iconst (n := 1) (v := 1) rfl (by decide +kernel)) <|
  allq qX9_empty 44 (.inl (a_ic 4 45)) (s_iconst (n := 4) (v := 4) rfl (by decide +kernel)) <|
  allq qX9_empty 45 (.inl (a_iast 46)) (s_iast (by decide +kernel)) <|
  allq qX9_empty 46 (.inl (a_al 0 47)) (s_aload_n (q := 0) (i := 0) rfl (by decide +kernel)) <|
  allq qX9_empty 47 (.inl (a_get 9 5 50)) (gX9 (f0 := 5) (by decide) kw_247 (by decide +kernel)) <|
  allq qX9_empty 50 (.inl (a_ic 2 51)) (s_iconst (n := 2) (v := 2) rfl (by decide +kernel)) <|
  allq qX9_empty 51 (.inl (a_ic 8 53)) (s_bipush (n := 8) (v := 8) rfl (by decide +kernel)) <|
  allq qX9_empty 53 (.inl (a_iast 54)) (s_iast (by decide +kernel)) <|
  allq qX9_empty 54 (.inr (.inr 0)) (Or.inl ⟨rfl, rfl, by decide +kernel⟩) <|
  alln
theorem kX9_empty : ∀ q ∈ tX9_empty, qX9_empty q := kX9_empty_0
abbrev qX9_readFrom : Nat × aI → Prop := OkQ RX9 "readFrom" cX9_readFrom 8 (some .int)
set_option maxRecDepth 20000 in
theorem kX9_readFrom_0 : ∀ q ∈ tX9_readFrom_0, qX9_readFrom q :=
  allq qX9_readFrom 0 (.inl (a_al 1 1)) (s_aload_n (q := 1) (i := 1) rfl (by decide +kernel)) <|
  allq qX9_readFrom 1 (.inl (a_get 7 1 4)) (gX7 (f0 := 1) (by decide) kw_144 (by decide +kernel)) <|
  allq qX9_readFrom 4 (.inl (a_ic 8 6)) (s_bipush (n := 8) (v := 8) rfl (by decide +kernel)) <|
  allq qX9_readFrom 6 (.inl (o_icmp_ge 11 9)) (s_icmp_ge (off := 5) (by decide +kernel) (by decide)) <|
  allq qX9_readFrom 9 (.inl (a_ic (-1) 10)) (s_iconst (n := (-1)) (v := (-1)) rfl (by decide +kernel)) <|
  allq qX9_readFrom 10 (.inr (.inr 1)) (Or.inr (Or.inl ⟨rfl, rfl, by decide +kernel⟩)) <|
  allq qX9_readFrom 11 (.inl (a_al 2 12)) (s_aload_n (q := 2) (i := 2) rfl (by decide +kernel)) <|
  allq qX9_readFrom 12 (.inl (a_al 1 13)) (s_aload_n (q := 1) (i := 1) rfl (by decide +kernel)) <|
  allq qX9_readFrom 13 (.inl (a_ic 8 15)) (s_bipush (n := 8) (v := 8) rfl (by decide +kernel)) <|
  allq qX9_readFrom 15 (.inl (a_al 0 16)) (s_aload_n (q := 0) (i := 0) rfl (by decide +kernel)) <|
  allq qX9_readFrom 16 (.inl (a_get 9 1 19)) (gX9 (f0 := 1) (by decide) kw_239 (by decide +kernel)) <|
  allq qX9_readFrom 19 (.inr (.inl (28, 4, 3))) (okV (y := yX2_readFrom) kw_665 kw_110 rfl rfl (by decide +kernel) kw_663 kw_664 kw_662) <|
  allq qX9_readFrom 22 (.inl (a_is 3 23)) (s_istore_n (q := 3) (i := 3) rfl (by decide +kernel) (by decide)) <|
  allq qX9_readFrom 23 (.inl (a_il 3 24)) (s_iload_n (q := 3) (i := 3) rfl (by decide +kernel)) <|
  allq qX9_readFrom 24 (.inl (o_if_ge 30 27)) (s_if_ge (off := 6) (by decide +kernel) (by decide)) <|
  allq qX9_readFrom 27 (.inl (a_ic (-2) 29)) (s_bipush (n := (-2)) (v := (-2)) rfl (by decide +kernel)) <|
  allq qX9_readFrom 29 (.inr (.inr 1)) (Or.inr (Or.inl ⟨rfl, rfl, by decide +kernel⟩)) <|
  allq qX9_readFrom 30 (.inl (a_al 0 31)) (s_aload_n (q := 0) (i := 0) rfl (by decide +kernel)) <|
  allq qX9_readFrom 31 (.inl (a_get 9 3 34)) (gX9 (f0 := 3) (by decide) kw_243 (by decide +kernel)) <|
  allq qX9_readFrom 34 (.inl (a_al 1 35)) (s_aload_n (q := 1) (i := 1) rfl (by decide +kernel)) <|
  allq qX9_readFrom 35 (.inl (a_il 3 36)) (s_iload_n (q := 3) (i := 3) rfl (by decide +kernel)) <|
  allq qX9_readFrom 36 (.inl (a_al 1 37)) (s_aload_n (q := 1) (i := 1) rfl (by decide +kernel)) <|
  allq qX9_readFrom 37 (.inl (a_get 7 1 40)) (gX7 (f0 := 1) (by decide) kw_144 (by decide +kernel)) <|
  allq qX9_readFrom 40 (.inl (a_ic 8 42)) (s_bipush (n := 8) (v := 8) rfl (by decide +kernel)) <|
  allq qX9_readFrom 42 (.inr (.inl (115, 5, 9))) (okV (y := yX8_readFrom) kw_679 kw_109 rfl rfl (by decide +kernel) kw_677 kw_678 kw_710) <|
  allq qX9_readFrom 45 (.inl (a_is 3 46)) (s_istore_n (q := 3) (i := 3) rfl (by decide +kernel) (by decide)) <|
  allq qX9_readFrom 46 (.inl (a_il 3 47)) (s_iload_n (q := 3) (i := 3) rfl (by decide +kernel)) <|
  allq qX9_readFrom 47 (.inl (o_if_ge 54 50)) (s_if_ge (off := 7) (by decide +kernel) (by decide)) <|
  allq qX9_readFrom 50 (.inl (a_il 3 51)) (s_iload_n (q := 3) (i := 3) rfl (by decide +kernel)) <|
  allq qX9_readFrom 51 (.inl (a_go 69)) (s_goto (off := 18) (by decide +kernel) (by decide)) <|
  allq qX9_readFrom 54 (.inl (a_al 0 55)) (s_aload_n (q := 0) (i := 0) rfl (by decide +kernel)) <|
  allq qX9_readFrom 55 (.inl (a_get 9 4 58)) (gX9 (f0 := 4) (by decide) kw_245 (by decide +kernel)) <|
  allq qX9_readFrom 58 (.inl (a_al 1 59)) (s_aload_n (q := 1) (i := 1) rfl (by decide +kernel)) <|
  allq qX9_readFrom 59 (.inl (a_il 3 60)) (s_iload_n (q := 3) (i := 3) rfl (by decide +kernel)) <|
  allq qX9_readFrom 60 (.inl (a_al 1 61)) (s_aload_n (q := 1) (i := 1) rfl (by decide +kernel)) <|
  allq qX9_readFrom 61 (.inl (a_get 7 1 64)) (gX7 (f0 := 1) (by decide) kw_144 (by decide +kernel)) <|
  allq qX9_readFrom 64 (.inl (a_ic 9 66)) (s_bipush (n := 9) (v := 9) rfl (by decide +kernel)) <|
  allq qX9_readFrom 66 (.inr (.inl (115, 5, 9))) (okV (y := yX8_readFrom) kw_679 kw_109 rfl rfl (by decide +kernel) kw_677 kw_678 kw_710) <|
  allq qX9_readFrom 69 (.inl (a_is 3 70)) (s_istore_n (q := 3) (i := 3) rfl (by decide +kernel) (by decide)) <|
  allq qX9_readFrom 70 (.inl (a_il 3 71)) (s_iload_n (q := 3) (i := 3) rfl (by decide +kernel)) <|
  alln
set_option maxRecDepth 20000 in
theorem kX9_readFrom_1 : ∀ q ∈ tX9_readFrom_1, qX9_readFrom q :=
  allq qX9_readFrom 71 (.inl (o_if_ge 78 74)) (s_if_ge (off := 7) (by decide +kernel) (by decide)) <|
  allq qX9_readFrom 74 (.inl (a_il 3 75)) (s_iload_n (q := 3) (i := 3) rfl (by decide +kernel)) <|
  allq qX9_readFrom 75 (.inl (a_go 93)) (s_goto (off := 18) (by decide +kernel) (by decide)) <|
  allq qX9_readFrom 78 (.inl (a_al 0 79)) (s_aload_n (q := 0) (i := 0) rfl (by decide +kernel)) <|
  allq qX9_readFrom 79 (.inl (a_get 9 2 82)) (gX9 (f0 := 2) (by decide) kw_241 (by decide +kernel)) <|
  allq qX9_readFrom 82 (.inl (a_al 1 83)) (s_aload_n (q := 1) (i := 1) rfl (by decide +kernel)) <|
  allq qX9_readFrom 83 (.inl (a_il 3 84)) (s_iload_n (q := 3) (i := 3) rfl (by decide +kernel)) <|
  allq qX9_readFrom 84 (.inl (a_al 1 85)) (s_aload_n (q := 1) (i := 1) rfl (by decide +kernel)) <|
  allq qX9_readFrom 85 (.inl (a_get 7 1 88)) (gX7 (f0 := 1) (by decide) kw_144 (by decide +kernel)) <|
  allq qX9_readFrom 88 (.inl (a_ic 9 90)) (s_bipush (n := 9) (v := 9) rfl (by decide +kernel)) <|
  allq qX9_readFrom 90 (.inr (.inl (115, 5, 9))) (okV (y := yX8_readFrom) kw_679 kw_109 rfl rfl (by decide +kernel) kw_677 kw_678 kw_710) <|
  allq qX9_readFrom 93 (.inl (a_is 3 94)) (s_istore_n (q := 3) (i := 3) rfl (by decide +kernel) (by decide)) <|
  allq qX9_readFrom 94 (.inl (a_il 3 95)) (s_iload_n (q := 3) (i := 3) rfl (by decide +kernel)) <|
  allq qX9_readFrom 95 (.inl (o_if_ge 101 98)) (s_if_ge (off := 6) (by decide +kernel) (by decide)) <|
  allq qX9_readFrom 98 (.inl (a_ic (-3) 100)) (s_bipush (n := (-3)) (v := (-3)) rfl (by decide +kernel)) <|
  allq qX9_readFrom 100 (.inr (.inr 1)) (Or.inr (Or.inl ⟨rfl, rfl, by decide +kernel⟩)) <|
  allq qX9_readFrom 101 (.inl (a_al 1 102)) (s_aload_n (q := 1) (i := 1) rfl (by decide +kernel)) <|
  allq qX9_readFrom 102 (.inl (a_get 7 1 105)) (gX7 (f0 := 1) (by decide) kw_144 (by decide +kernel)) <|
  allq qX9_readFrom 105 (.inl (a_il 3 106)) (s_iload_n (q := 3) (i := 3) rfl (by decide +kernel)) <|
  allq qX9_readFrom 106 (.inl (o_isub 107)) (s_isub (by decide +kernel)) <|
  allq qX9_readFrom 107 (.inl (a_ic 12 109)) (s_bipush (n := 12) (v := 12) rfl (by decide +kernel)) <|
  allq qX9_readFrom 109 (.inl (o_isub 110)) (s_isub (by decide +kernel)) <|
  allq qX9_readFrom 110 (.inl (a_is 4 112)) (s_istore (i := 4) (by decide +kernel) (by decide)) <|
  allq qX9_readFrom 112 (.inl (a_il 4 114)) (s_iload (i := 4) (by decide +kernel)) <|
  allq qX9_readFrom 114 (.inl (o_if_ge 119 117)) (s_if_ge (off := 5) (by decide +kernel) (by decide)) <|
  allq qX9_readFrom 117 (.inl (a_ic (-1) 118)) (s_iconst (n := (-1)) (v := (-1)) rfl (by decide +kernel)) <|
  allq qX9_readFrom 118 (.inr (.inr 1)) (Or.inr (Or.inl ⟨rfl, rfl, by decide +kernel⟩)) <|
  allq qX9_readFrom 119 (.inl (a_ic 0 120)) (s_iconst (n := 0) (v := 0) rfl (by decide +kernel)) <|
  allq qX9_readFrom 120 (.inl (a_is 5 122)) (s_istore (i := 5) (by decide +kernel) (by decide)) <|
  allq qX9_readFrom 122 (.inl (a_il 5 124)) (s_iload (i := 5) (by decide +kernel)) <|
  allq qX9_readFrom 124 (.inl (a_al 0 125)) (s_aload_n (q := 0) (i := 0) rfl (by decide +kernel)) <|
  allq qX9_readFrom 125 (.inl (a_get 9 5 128)) (gX9 (f0 := 5) (by decide) kw_247 (by decide +kernel)) <|
  allq qX9_readFrom 128 (.inl (a_len 129)) (s_len (by decide +kernel)) <|
  allq qX9_readFrom 129 (.inl (o_icmp_ge 180 132)) (s_icmp_ge (off := 51) (by decide +kernel) (by decide)) <|
  allq qX9_readFrom 132 (.inl (a_al 1 133)) (s_aload_n (q := 1) (i := 1) rfl (by decide +kernel)) <|
  allq qX9_readFrom 133 (.inl (a_il 3 134)) (s_iload_n (q := 3) (i := 3) rfl (by decide +kernel)) <|
  allq qX9_readFrom 134 (.inl (a_ic 4 135)) (s_iconst (n := 4) (v := 4) rfl (by decide +kernel)) <|
  allq qX9_readFrom 135 (.inl (a_il 5 137)) (s_iload (i := 5) (by decide +kernel)) <|
  allq qX9_readFrom 137 (.inl (o_imul 138)) (s_imul (by decide +kernel)) <|
  allq qX9_readFrom 138 (.inl (o_iadd 139)) (s_iadd (by decide +kernel)) <|
  alln
set_option maxRecDepth 20000 in
theorem kX9_readFrom_2 : ∀ q ∈ tX9_readFrom_2, qX9_readFrom q :=
  allq qX9_readFrom 139 (.inl (a_ic 4 140)) (s_iconst (n := 4) (v := 4) rfl (by decide +kernel)) <|
  allq qX9_readFrom 140 (.inr (.inl (94, 3, 8))) (okV (y := yX7_number) kw_651 kw_105 rfl rfl (by decide +kernel) kw_649 kw_650 kw_711) <|
  allq qX9_readFrom 143 (.inl (a_lst 6 145)) (s_lstore (i := 6) (by decide +kernel) (by decide)) <|
  allq qX9_readFrom 145 (.inl (a_ll 6 147)) (s_lload (i := 6) (by decide +kernel)) <|
  allq qX9_readFrom 147 (.inl (a_lc 0 148)) (s_lconst (n := 0) rfl (by decide +kernel)) <|
  allq qX9_readFrom 148 (.inl (a_lcmp 149)) (s_lcmp (by decide +kernel)) <|
  allq qX9_readFrom 149 (.inl (o_if_eq 161 152)) (s_if_eq (off := 12) (by decide +kernel) (by decide)) <|
  allq qX9_readFrom 152 (.inl (a_ll 6 154)) (s_lload (i := 6) (by decide +kernel)) <|
  allq qX9_readFrom 154 (.inl (a_il 4 156)) (s_iload (i := 4) (by decide +kernel)) <|
  allq qX9_readFrom 156 (.inl (a_i2l 157)) (s_i2l (by decide +kernel)) <|
  allq qX9_readFrom 157 (.inl (a_lcmp 158)) (s_lcmp (by decide +kernel)) <|
  allq qX9_readFrom 158 (.inl (o_if_le 164 161)) (s_if_le (off := 6) (by decide +kernel) (by decide)) <|
  allq qX9_readFrom 161 (.inl (a_ic (-4) 163)) (s_bipush (n := (-4)) (v := (-4)) rfl (by decide +kernel)) <|
  allq qX9_readFrom 163 (.inr (.inr 1)) (Or.inr (Or.inl ⟨rfl, rfl, by decide +kernel⟩)) <|
  allq qX9_readFrom 164 (.inl (a_al 0 165)) (s_aload_n (q := 0) (i := 0) rfl (by decide +kernel)) <|
  allq qX9_readFrom 165 (.inl (a_get 9 5 168)) (gX9 (f0 := 5) (by decide) kw_247 (by decide +kernel)) <|
  allq qX9_readFrom 168 (.inl (a_il 5 170)) (s_iload (i := 5) (by decide +kernel)) <|
  allq qX9_readFrom 170 (.inl (a_ll 6 172)) (s_lload (i := 6) (by decide +kernel)) <|
  allq qX9_readFrom 172 (.inl (a_l2i 173)) (s_l2i (by decide +kernel)) <|
  allq qX9_readFrom 173 (.inl (a_iast 174)) (s_iast (by decide +kernel)) <|
  allq qX9_readFrom 174 (.inl (a_inc 5 1 177)) (s_iinc (i := 5) (n := 1) (n2 := 1) rfl (by decide +kernel) (by decide)) <|
  allq qX9_readFrom 177 (.inl (a_go 122)) (s_goto (off := (-55)) (by decide +kernel) (by decide)) <|
  allq qX9_readFrom 180 (.inl (a_il 3 181)) (s_iload_n (q := 3) (i := 3) rfl (by decide +kernel)) <|
  allq qX9_readFrom 181 (.inl (a_ic 12 183)) (s_bipush (n := 12) (v := 12) rfl (by decide +kernel)) <|
  allq qX9_readFrom 183 (.inl (o_iadd 184)) (s_iadd (by decide +kernel)) <|
  allq qX9_readFrom 184 (.inr (.inr 1)) (Or.inr (Or.inl ⟨rfl, rfl, by decide +kernel⟩)) <|
  alln
theorem kX9_readFrom : ∀ q ∈ tX9_readFrom, qX9_readFrom q := alla kX9_readFrom_0 (alla kX9_readFrom_1 kX9_readFrom_2)
abbrev qX10_of : Nat × aI → Prop := OkQ RX10 "of" cX10_of 5 (some .long)
set_option maxRecDepth 20000 in
theorem kX10_of_0 : ∀ q ∈ tX10_of_0, qX10_of q :=
  allq qX10_of 0 (.inl (a_al 0 1)) (s_aload_n (q := 0) (i := 0) rfl (by decide +kernel)) <|
  allq qX10_of 1 (.inl (a_get 7 1 4)) (gX7 (f0 := 1) (by decide) kw_139 (by decide +kernel)) <|
  allq qX10_of 4 (.inl (a_ic 32 6)) (s_bipush (n := 32) (v := 32) rfl (by decide +kernel)) <|
  allq qX10_of 6 (.inl (o_idiv 7)) (s_idiv (by decide +kernel)) <|
  allq qX10_of 7 (.inl (a_ic 32 9)) (s_bipush (n := 32) (v := 32) rfl (by decide +kernel)) <|
  allq qX10_of 9 (.inl (o_imul 10)) (s_imul (by decide +kernel)) <|
  allq qX10_of 10 (.inl (a_is 1 11)) (s_istore_n (q := 1) (i := 1) rfl (by decide +kernel) (by decide)) <|
  allq qX10_of 11 (.inl (a_il 1 12)) (s_iload_n (q := 1) (i := 1) rfl (by decide +kernel)) <|
  allq qX10_of 12 (.inl (o_if_ne 21 15)) (s_if_ne (off := 9) (by decide +kernel) (by decide)) <|
  allq qX10_of 15 (.inl (a_lc 2870177450012600261 18)) (s_ldc2 kw_1125 (by decide +kernel)) <|
  allq qX10_of 18 (.inl (a_go 26)) (s_goto (off := 8) (by decide +kernel) (by decide)) <|
  allq qX10_of 21 (.inl (a_al 0 22)) (s_aload_n (q := 0) (i := 0) rfl (by decide +kernel)) <|
  allq qX10_of 22 (.inl (a_il 1 23)) (s_iload_n (q := 1) (i := 1) rfl (by decide +kernel)) <|
  allq qX10_of 23 (.inr (.inl (120, 2, 0))) (okS (y := yX10_lanes) kw_1128 kw_119 rfl (by decide +kernel) kw_1127 (Or.inl kw_1126)) <|
  allq qX10_of 26 (.inl (a_lst 2 27)) (s_lstore_n (q := 2) (i := 2) rfl (by decide +kernel) (by decide)) <|
  allq qX10_of 27 (.inl (a_ll 2 28)) (s_lload_n (q := 2) (i := 2) rfl (by decide +kernel)) <|
  allq qX10_of 28 (.inl (a_al 0 29)) (s_aload_n (q := 0) (i := 0) rfl (by decide +kernel)) <|
  allq qX10_of 29 (.inl (a_get 7 1 32)) (gX7 (f0 := 1) (by decide) kw_139 (by decide +kernel)) <|
  allq qX10_of 32 (.inl (a_i2l 33)) (s_i2l (by decide +kernel)) <|
  allq qX10_of 33 (.inl (o_ladd 34)) (s_ladd (by decide +kernel)) <|
  allq qX10_of 34 (.inl (a_lst 2 35)) (s_lstore_n (q := 2) (i := 2) rfl (by decide +kernel) (by decide)) <|
  allq qX10_of 35 (.inl (a_il 1 36)) (s_iload_n (q := 1) (i := 1) rfl (by decide +kernel)) <|
  allq qX10_of 36 (.inl (a_is 4 38)) (s_istore (i := 4) (by decide +kernel) (by decide)) <|
  allq qX10_of 38 (.inl (a_il 4 40)) (s_iload (i := 4) (by decide +kernel)) <|
  allq qX10_of 40 (.inl (a_ic 8 42)) (s_bipush (n := 8) (v := 8) rfl (by decide +kernel)) <|
  allq qX10_of 42 (.inl (o_iadd 43)) (s_iadd (by decide +kernel)) <|
  allq qX10_of 43 (.inl (a_al 0 44)) (s_aload_n (q := 0) (i := 0) rfl (by decide +kernel)) <|
  allq qX10_of 44 (.inl (a_get 7 1 47)) (gX7 (f0 := 1) (by decide) kw_139 (by decide +kernel)) <|
  allq qX10_of 47 (.inl (o_icmp_gt 93 50)) (s_icmp_gt (off := 46) (by decide +kernel) (by decide)) <|
  allq qX10_of 50 (.inl (a_ll 2 51)) (s_lload_n (q := 2) (i := 2) rfl (by decide +kernel)) <|
  allq qX10_of 51 (.inl (a_al 0 52)) (s_aload_n (q := 0) (i := 0) rfl (by decide +kernel)) <|
  allq qX10_of 52 (.inl (a_il 4 54)) (s_iload (i := 4) (by decide +kernel)) <|
  allq qX10_of 54 (.inl (a_ic 8 56)) (s_bipush (n := 8) (v := 8) rfl (by decide +kernel)) <|
  allq qX10_of 56 (.inr (.inl (94, 3, 8))) (okV (y := yX7_number) kw_651 kw_105 rfl rfl (by decide +kernel) kw_649 kw_650 kw_1132) <|
  allq qX10_of 59 (.inl (a_lc (-4417276706812531889) 62)) (s_ldc2 kw_1130 (by decide +kernel)) <|
  allq qX10_of 62 (.inl (o_lmul 63)) (s_lmul (by decide +kernel)) <|
  allq qX10_of 63 (.inl (a_ic 31 65)) (s_bipush (n := 31) (v := 31) rfl (by decide +kernel)) <|
  allq qX10_of 65 (.inr (.inl (122, 2, 0))) (okS (y := yX10_rotated) kw_1135 kw_119 rfl (by decide +kernel) kw_1134 (Or.inl kw_1133)) <|
  allq qX10_of 68 (.inl (a_lc (-7046029288634856825) 71)) (s_ldc2 kw_1136 (by decide +kernel)) <|
  allq qX10_of 71 (.inl (o_lmul 72)) (s_lmul (by decide +kernel)) <|
  alln
set_option maxRecDepth 20000 in
theorem kX10_of_1 : ∀ q ∈ tX10_of_1, qX10_of q :=
  allq qX10_of 72 (.inl (o_lxor 73)) (s_lxor (by decide +kernel)) <|
  allq qX10_of 73 (.inl (a_ic 27 75)) (s_bipush (n := 27) (v := 27) rfl (by decide +kernel)) <|
  allq qX10_of 75 (.inr (.inl (122, 2, 0))) (okS (y := yX10_rotated) kw_1135 kw_119 rfl (by decide +kernel) kw_1134 (Or.inl kw_1133)) <|
  allq qX10_of 78 (.inl (a_lc (-7046029288634856825) 81)) (s_ldc2 kw_1136 (by decide +kernel)) <|
  allq qX10_of 81 (.inl (o_lmul 82)) (s_lmul (by decide +kernel)) <|
  allq qX10_of 82 (.inl (a_lc (-8796714831421723037) 85)) (s_ldc2 kw_1140 (by decide +kernel)) <|
  allq qX10_of 85 (.inl (o_ladd 86)) (s_ladd (by decide +kernel)) <|
  allq qX10_of 86 (.inl (a_lst 2 87)) (s_lstore_n (q := 2) (i := 2) rfl (by decide +kernel) (by decide)) <|
  allq qX10_of 87 (.inl (a_inc 4 8 90)) (s_iinc (i := 4) (n := 8) (n2 := 8) rfl (by decide +kernel) (by decide)) <|
  allq qX10_of 90 (.inl (a_go 38)) (s_goto (off := (-52)) (by decide +kernel) (by decide)) <|
  allq qX10_of 93 (.inl (a_il 4 95)) (s_iload (i := 4) (by decide +kernel)) <|
  allq qX10_of 95 (.inl (a_ic 4 96)) (s_iconst (n := 4) (v := 4) rfl (by decide +kernel)) <|
  allq qX10_of 96 (.inl (o_iadd 97)) (s_iadd (by decide +kernel)) <|
  allq qX10_of 97 (.inl (a_al 0 98)) (s_aload_n (q := 0) (i := 0) rfl (by decide +kernel)) <|
  allq qX10_of 98 (.inl (a_get 7 1 101)) (gX7 (f0 := 1) (by decide) kw_139 (by decide +kernel)) <|
  allq qX10_of 101 (.inl (o_icmp_gt 137 104)) (s_icmp_gt (off := 36) (by decide +kernel) (by decide)) <|
  allq qX10_of 104 (.inl (a_ll 2 105)) (s_lload_n (q := 2) (i := 2) rfl (by decide +kernel)) <|
  allq qX10_of 105 (.inl (a_al 0 106)) (s_aload_n (q := 0) (i := 0) rfl (by decide +kernel)) <|
  allq qX10_of 106 (.inl (a_il 4 108)) (s_iload (i := 4) (by decide +kernel)) <|
  allq qX10_of 108 (.inl (a_ic 4 109)) (s_iconst (n := 4) (v := 4) rfl (by decide +kernel)) <|
  allq qX10_of 109 (.inr (.inl (94, 3, 8))) (okV (y := yX7_number) kw_651 kw_105 rfl rfl (by decide +kernel) kw_649 kw_650 kw_1132) <|
  allq qX10_of 112 (.inl (a_lc (-7046029288634856825) 115)) (s_ldc2 kw_1136 (by decide +kernel)) <|
  allq qX10_of 115 (.inl (o_lmul 116)) (s_lmul (by decide +kernel)) <|
  allq qX10_of 116 (.inl (o_lxor 117)) (s_lxor (by decide +kernel)) <|
  allq qX10_of 117 (.inl (a_ic 23 119)) (s_bipush (n := 23) (v := 23) rfl (by decide +kernel)) <|
  allq qX10_of 119 (.inr (.inl (122, 2, 0))) (okS (y := yX10_rotated) kw_1135 kw_119 rfl (by decide +kernel) kw_1134 (Or.inl kw_1133)) <|
  allq qX10_of 122 (.inl (a_lc (-4417276706812531889) 125)) (s_ldc2 kw_1130 (by decide +kernel)) <|
  allq qX10_of 125 (.inl (o_lmul 126)) (s_lmul (by decide +kernel)) <|
  allq qX10_of 126 (.inl (a_lc 1609587929392839161 129)) (s_ldc2 kw_1141 (by decide +kernel)) <|
  allq qX10_of 129 (.inl (o_ladd 130)) (s_ladd (by decide +kernel)) <|
  allq qX10_of 130 (.inl (a_lst 2 131)) (s_lstore_n (q := 2) (i := 2) rfl (by decide +kernel) (by decide)) <|
  allq qX10_of 131 (.inl (a_inc 4 4 134)) (s_iinc (i := 4) (n := 4) (n2 := 4) rfl (by decide +kernel) (by decide)) <|
  allq qX10_of 134 (.inl (a_go 93)) (s_goto (off := (-41)) (by decide +kernel) (by decide)) <|
  allq qX10_of 137 (.inl (a_il 4 139)) (s_iload (i := 4) (by decide +kernel)) <|
  allq qX10_of 139 (.inl (a_al 0 140)) (s_aload_n (q := 0) (i := 0) rfl (by decide +kernel)) <|
  allq qX10_of 140 (.inl (a_get 7 1 143)) (gX7 (f0 := 1) (by decide) kw_139 (by decide +kernel)) <|
  allq qX10_of 143 (.inl (o_icmp_ge 175 146)) (s_icmp_ge (off := 32) (by decide +kernel) (by decide)) <|
  allq qX10_of 146 (.inl (a_ll 2 147)) (s_lload_n (q := 2) (i := 2) rfl (by decide +kernel)) <|
  allq qX10_of 147 (.inl (a_al 0 148)) (s_aload_n (q := 0) (i := 0) rfl (by decide +kernel)) <|
  allq qX10_of 148 (.inl (a_il 4 150)) (s_iload (i := 4) (by decide +kernel)) <|
  alln
set_option maxRecDepth 20000 in
theorem kX10_of_2 : ∀ q ∈ tX10_of_2, qX10_of q :=
  allq qX10_of 150 (.inr (.inl (93, 2, 8))) (okV (y := yX7_at) kw_617 kw_105 rfl rfl (by decide +kernel) kw_615 kw_616 kw_1142) <|
  allq qX10_of 153 (.inl (a_i2l 154)) (s_i2l (by decide +kernel)) <|
  allq qX10_of 154 (.inl (a_lc 2870177450012600261 157)) (s_ldc2 kw_1125 (by decide +kernel)) <|
  allq qX10_of 157 (.inl (o_lmul 158)) (s_lmul (by decide +kernel)) <|
  allq qX10_of 158 (.inl (o_lxor 159)) (s_lxor (by decide +kernel)) <|
  allq qX10_of 159 (.inl (a_ic 11 161)) (s_bipush (n := 11) (v := 11) rfl (by decide +kernel)) <|
  allq qX10_of 161 (.inr (.inl (122, 2, 0))) (okS (y := yX10_rotated) kw_1135 kw_119 rfl (by decide +kernel) kw_1134 (Or.inl kw_1133)) <|
  allq qX10_of 164 (.inl (a_lc (-7046029288634856825) 167)) (s_ldc2 kw_1136 (by decide +kernel)) <|
  allq qX10_of 167 (.inl (o_lmul 168)) (s_lmul (by decide +kernel)) <|
  allq qX10_of 168 (.inl (a_lst 2 169)) (s_lstore_n (q := 2) (i := 2) rfl (by decide +kernel) (by decide)) <|
  allq qX10_of 169 (.inl (a_inc 4 1 172)) (s_iinc (i := 4) (n := 1) (n2 := 1) rfl (by decide +kernel) (by decide)) <|
  allq qX10_of 172 (.inl (a_go 137)) (s_goto (off := (-35)) (by decide +kernel) (by decide)) <|
  allq qX10_of 175 (.inl (a_ll 2 176)) (s_lload_n (q := 2) (i := 2) rfl (by decide +kernel)) <|
  allq qX10_of 176 (.inl (a_ll 2 177)) (s_lload_n (q := 2) (i := 2) rfl (by decide +kernel)) <|
  allq qX10_of 177 (.inl (a_ic 33 179)) (s_bipush (n := 33) (v := 33) rfl (by decide +kernel)) <|
  allq qX10_of 179 (.inl (o_lushr 180)) (s_lushr (by decide +kernel)) <|
  allq qX10_of 180 (.inl (o_lxor 181)) (s_lxor (by decide +kernel)) <|
  allq qX10_of 181 (.inl (a_lc (-4417276706812531889) 184)) (s_ldc2 kw_1130 (by decide +kernel)) <|
  allq qX10_of 184 (.inl (o_lmul 185)) (s_lmul (by decide +kernel)) <|
  allq qX10_of 185 (.inl (a_lst 2 186)) (s_lstore_n (q := 2) (i := 2) rfl (by decide +kernel) (by decide)) <|
  allq qX10_of 186 (.inl (a_ll 2 187)) (s_lload_n (q := 2) (i := 2) rfl (by decide +kernel)) <|
  allq qX10_of 187 (.inl (a_ll 2 188)) (s_lload_n (q := 2) (i := 2) rfl (by decide +kernel)) <|
  allq qX10_of 188 (.inl (a_ic 29 190)) (s_bipush (n := 29) (v := 29) rfl (by decide +kernel)) <|
  allq qX10_of 190 (.inl (o_lushr 191)) (s_lushr (by decide +kernel)) <|
  allq qX10_of 191 (.inl (o_lxor 192)) (s_lxor (by decide +kernel)) <|
  allq qX10_of 192 (.inl (a_lc 1609587929392839161 195)) (s_ldc2 kw_1141 (by decide +kernel)) <|
  allq qX10_of 195 (.inl (o_lmul 196)) (s_lmul (by decide +kernel)) <|
  allq qX10_of 196 (.inl (a_lst 2 197)) (s_lstore_n (q := 2) (i := 2) rfl (by decide +kernel) (by decide)) <|
  allq qX10_of 197 (.inl (a_ll 2 198)) (s_lload_n (q := 2) (i := 2) rfl (by decide +kernel)) <|
  allq qX10_of 198 (.inl (a_ll 2 199)) (s_lload_n (q := 2) (i := 2) rfl (by decide +kernel)) <|
  allq qX10_of 199 (.inl (a_ic 32 201)) (s_bipush (n := 32) (v := 32) rfl (by decide +kernel)) <|
  allq qX10_of 201 (.inl (o_lushr 202)) (s_lushr (by decide +kernel)) <|
  allq qX10_of 202 (.inl (o_lxor 203)) (s_lxor (by decide +kernel)) <|
  allq qX10_of 203 (.inr (.inr 2)) (Or.inr (Or.inr (Or.inl ⟨rfl, rfl, by decide +kernel⟩))) <|
  alln
theorem kX10_of : ∀ q ∈ tX10_of, qX10_of q := alla kX10_of_0 (alla kX10_of_1 kX10_of_2)
abbrev qX10_lanes : Nat × aI → Prop := OkQ RX10 "lanes" cX10_lanes 12 (some .long)
set_option maxRecDepth 20000 in
theorem kX10_lanes_0 : ∀ q ∈ tX10_lanes_0, qX10_lanes q :=
  allq qX10_lanes 0 (.inl (a_lc 6983438078262162902 3)) (s_ldc2 kw_1129 (by decide +kernel)) <|
  allq qX10_lanes 3 (.inl (a_lst 2 4)) (s_lstore_n (q := 2) (i := 2) rfl (by decide +kernel) (by decide)) <|
  allq qX10_lanes 4 (.inl (a_lc (-4417276706812531889) 7)) (s_ldc2 kw_1130 (by decide +kernel)) <|
  allq qX10_lanes 7 (.inl (a_lst 4 9)) (s_lstore (i := 4) (by decide +kernel) (by decide)) <|
  allq qX10_lanes 9 (.inl (a_lc 0 10)) (s_lconst (n := 0) rfl (by decide +kernel)) <|
  allq qX10_lanes 10 (.inl (a_lst 6 12)) (s_lstore (i := 6) (by decide +kernel) (by decide)) <|
  allq qX10_lanes 12 (.inl (a_lc 7046029288634856825 15)) (s_ldc2 kw_1131 (by decide +kernel)) <|
  allq qX10_lanes 15 (.inl (a_lst 8 17)) (s_lstore (i := 8) (by decide +kernel) (by decide)) <|
  allq qX10_lanes 17 (.inl (a_ic 0 18)) (s_iconst (n := 0) (v := 0) rfl (by decide +kernel)) <|
  allq qX10_lanes 18 (.inl (a_is 10 20)) (s_istore (i := 10) (by decide +kernel) (by decide)) <|
  allq qX10_lanes 20 (.inl (a_il 10 22)) (s_iload (i := 10) (by decide +kernel)) <|
  allq qX10_lanes 22 (.inl (a_il 1 23)) (s_iload_n (q := 1) (i := 1) rfl (by decide +kernel)) <|
  allq qX10_lanes 23 (.inl (o_icmp_ge 143 26)) (s_icmp_ge (off := 120) (by decide +kernel) (by decide)) <|
  allq qX10_lanes 26 (.inl (a_ll 2 27)) (s_lload_n (q := 2) (i := 2) rfl (by decide +kernel)) <|
  allq qX10_lanes 27 (.inl (a_al 0 28)) (s_aload_n (q := 0) (i := 0) rfl (by decide +kernel)) <|
  allq qX10_lanes 28 (.inl (a_il 10 30)) (s_iload (i := 10) (by decide +kernel)) <|
  allq qX10_lanes 30 (.inl (a_ic 8 32)) (s_bipush (n := 8) (v := 8) rfl (by decide +kernel)) <|
  allq qX10_lanes 32 (.inr (.inl (94, 3, 8))) (okV (y := yX7_number) kw_651 kw_105 rfl rfl (by decide +kernel) kw_649 kw_650 kw_1132) <|
  allq qX10_lanes 35 (.inl (a_lc (-4417276706812531889) 38)) (s_ldc2 kw_1130 (by decide +kernel)) <|
  allq qX10_lanes 38 (.inl (o_lmul 39)) (s_lmul (by decide +kernel)) <|
  allq qX10_lanes 39 (.inl (o_ladd 40)) (s_ladd (by decide +kernel)) <|
  allq qX10_lanes 40 (.inl (a_ic 31 42)) (s_bipush (n := 31) (v := 31) rfl (by decide +kernel)) <|
  allq qX10_lanes 42 (.inr (.inl (122, 2, 0))) (okS (y := yX10_rotated) kw_1135 kw_119 rfl (by decide +kernel) kw_1134 (Or.inl kw_1133)) <|
  allq qX10_lanes 45 (.inl (a_lc (-7046029288634856825) 48)) (s_ldc2 kw_1136 (by decide +kernel)) <|
  allq qX10_lanes 48 (.inl (o_lmul 49)) (s_lmul (by decide +kernel)) <|
  allq qX10_lanes 49 (.inl (a_lst 2 50)) (s_lstore_n (q := 2) (i := 2) rfl (by decide +kernel) (by decide)) <|
  allq qX10_lanes 50 (.inl (a_ll 4 52)) (s_lload (i := 4) (by decide +kernel)) <|
  allq qX10_lanes 52 (.inl (a_al 0 53)) (s_aload_n (q := 0) (i := 0) rfl (by decide +kernel)) <|
  allq qX10_lanes 53 (.inl (a_il 10 55)) (s_iload (i := 10) (by decide +kernel)) <|
  allq qX10_lanes 55 (.inl (a_ic 8 57)) (s_bipush (n := 8) (v := 8) rfl (by decide +kernel)) <|
  allq qX10_lanes 57 (.inl (o_iadd 58)) (s_iadd (by decide +kernel)) <|
  allq qX10_lanes 58 (.inl (a_ic 8 60)) (s_bipush (n := 8) (v := 8) rfl (by decide +kernel)) <|
  allq qX10_lanes 60 (.inr (.inl (94, 3, 8))) (okV (y := yX7_number) kw_651 kw_105 rfl rfl (by decide +kernel) kw_649 kw_650 kw_1132) <|
  allq qX10_lanes 63 (.inl (a_lc (-4417276706812531889) 66)) (s_ldc2 kw_1130 (by decide +kernel)) <|
  allq qX10_lanes 66 (.inl (o_lmul 67)) (s_lmul (by decide +kernel)) <|
  allq qX10_lanes 67 (.inl (o_ladd 68)) (s_ladd (by decide +kernel)) <|
  allq qX10_lanes 68 (.inl (a_ic 31 70)) (s_bipush (n := 31) (v := 31) rfl (by decide +kernel)) <|
  allq qX10_lanes 70 (.inr (.inl (122, 2, 0))) (okS (y := yX10_rotated) kw_1135 kw_119 rfl (by decide +kernel) kw_1134 (Or.inl kw_1133)) <|
  allq qX10_lanes 73 (.inl (a_lc (-7046029288634856825) 76)) (s_ldc2 kw_1136 (by decide +kernel)) <|
  allq qX10_lanes 76 (.inl (o_lmul 77)) (s_lmul (by decide +kernel)) <|
  alln
set_option maxRecDepth 20000 in
theorem kX10_lanes_1 : ∀ q ∈ tX10_lanes_1, qX10_lanes q :=
  allq qX10_lanes 77 (.inl (a_lst 4 79)) (s_lstore (i := 4) (by decide +kernel) (by decide)) <|
  allq qX10_lanes 79 (.inl (a_ll 6 81)) (s_lload (i := 6) (by decide +kernel)) <|
  allq qX10_lanes 81 (.inl (a_al 0 82)) (s_aload_n (q := 0) (i := 0) rfl (by decide +kernel)) <|
  allq qX10_lanes 82 (.inl (a_il 10 84)) (s_iload (i := 10) (by decide +kernel)) <|
  allq qX10_lanes 84 (.inl (a_ic 16 86)) (s_bipush (n := 16) (v := 16) rfl (by decide +kernel)) <|
  allq qX10_lanes 86 (.inl (o_iadd 87)) (s_iadd (by decide +kernel)) <|
  allq qX10_lanes 87 (.inl (a_ic 8 89)) (s_bipush (n := 8) (v := 8) rfl (by decide +kernel)) <|
  allq qX10_lanes 89 (.inr (.inl (94, 3, 8))) (okV (y := yX7_number) kw_651 kw_105 rfl rfl (by decide +kernel) kw_649 kw_650 kw_1132) <|
  allq qX10_lanes 92 (.inl (a_lc (-4417276706812531889) 95)) (s_ldc2 kw_1130 (by decide +kernel)) <|
  allq qX10_lanes 95 (.inl (o_lmul 96)) (s_lmul (by decide +kernel)) <|
  allq qX10_lanes 96 (.inl (o_ladd 97)) (s_ladd (by decide +kernel)) <|
  allq qX10_lanes 97 (.inl (a_ic 31 99)) (s_bipush (n := 31) (v := 31) rfl (by decide +kernel)) <|
  allq qX10_lanes 99 (.inr (.inl (122, 2, 0))) (okS (y := yX10_rotated) kw_1135 kw_119 rfl (by decide +kernel) kw_1134 (Or.inl kw_1133)) <|
  allq qX10_lanes 102 (.inl (a_lc (-7046029288634856825) 105)) (s_ldc2 kw_1136 (by decide +kernel)) <|
  allq qX10_lanes 105 (.inl (o_lmul 106)) (s_lmul (by decide +kernel)) <|
  allq qX10_lanes 106 (.inl (a_lst 6 108)) (s_lstore (i := 6) (by decide +kernel) (by decide)) <|
  allq qX10_lanes 108 (.inl (a_ll 8 110)) (s_lload (i := 8) (by decide +kernel)) <|
  allq qX10_lanes 110 (.inl (a_al 0 111)) (s_aload_n (q := 0) (i := 0) rfl (by decide +kernel)) <|
  allq qX10_lanes 111 (.inl (a_il 10 113)) (s_iload (i := 10) (by decide +kernel)) <|
  allq qX10_lanes 113 (.inl (a_ic 24 115)) (s_bipush (n := 24) (v := 24) rfl (by decide +kernel)) <|
  allq qX10_lanes 115 (.inl (o_iadd 116)) (s_iadd (by decide +kernel)) <|
  allq qX10_lanes 116 (.inl (a_ic 8 118)) (s_bipush (n := 8) (v := 8) rfl (by decide +kernel)) <|
  allq qX10_lanes 118 (.inr (.inl (94, 3, 8))) (okV (y := yX7_number) kw_651 kw_105 rfl rfl (by decide +kernel) kw_649 kw_650 kw_1132) <|
  allq qX10_lanes 121 (.inl (a_lc (-4417276706812531889) 124)) (s_ldc2 kw_1130 (by decide +kernel)) <|
  allq qX10_lanes 124 (.inl (o_lmul 125)) (s_lmul (by decide +kernel)) <|
  allq qX10_lanes 125 (.inl (o_ladd 126)) (s_ladd (by decide +kernel)) <|
  allq qX10_lanes 126 (.inl (a_ic 31 128)) (s_bipush (n := 31) (v := 31) rfl (by decide +kernel)) <|
  allq qX10_lanes 128 (.inr (.inl (122, 2, 0))) (okS (y := yX10_rotated) kw_1135 kw_119 rfl (by decide +kernel) kw_1134 (Or.inl kw_1133)) <|
  allq qX10_lanes 131 (.inl (a_lc (-7046029288634856825) 134)) (s_ldc2 kw_1136 (by decide +kernel)) <|
  allq qX10_lanes 134 (.inl (o_lmul 135)) (s_lmul (by decide +kernel)) <|
  allq qX10_lanes 135 (.inl (a_lst 8 137)) (s_lstore (i := 8) (by decide +kernel) (by decide)) <|
  allq qX10_lanes 137 (.inl (a_inc 10 32 140)) (s_iinc (i := 10) (n := 32) (n2 := 32) rfl (by decide +kernel) (by decide)) <|
  allq qX10_lanes 140 (.inl (a_go 20)) (s_goto (off := (-120)) (by decide +kernel) (by decide)) <|
  allq qX10_lanes 143 (.inl (a_ll 2 144)) (s_lload_n (q := 2) (i := 2) rfl (by decide +kernel)) <|
  allq qX10_lanes 144 (.inl (a_ic 1 145)) (s_iconst (n := 1) (v := 1) rfl (by decide +kernel)) <|
  allq qX10_lanes 145 (.inr (.inl (122, 2, 0))) (okS (y := yX10_rotated) kw_1135 kw_119 rfl (by decide +kernel) kw_1134 (Or.inl kw_1133)) <|
  allq qX10_lanes 148 (.inl (a_ll 4 150)) (s_lload (i := 4) (by decide +kernel)) <|
  allq qX10_lanes 150 (.inl (a_ic 7 152)) (s_bipush (n := 7) (v := 7) rfl (by decide +kernel)) <|
  allq qX10_lanes 152 (.inr (.inl (122, 2, 0))) (okS (y := yX10_rotated) kw_1135 kw_119 rfl (by decide +kernel) kw_1134 (Or.inl kw_1133)) <|
  allq qX10_lanes 155 (.inl (o_ladd 156)) (s_ladd (by decide +kernel)) <|
  alln
set_option maxRecDepth 20000 in
theorem kX10_lanes_2 : ∀ q ∈ tX10_lanes_2, qX10_lanes q :=
  allq qX10_lanes 156 (.inl (a_ll 6 158)) (s_lload (i := 6) (by decide +kernel)) <|
  allq qX10_lanes 158 (.inl (a_ic 12 160)) (s_bipush (n := 12) (v := 12) rfl (by decide +kernel)) <|
  allq qX10_lanes 160 (.inr (.inl (122, 2, 0))) (okS (y := yX10_rotated) kw_1135 kw_119 rfl (by decide +kernel) kw_1134 (Or.inl kw_1133)) <|
  allq qX10_lanes 163 (.inl (o_ladd 164)) (s_ladd (by decide +kernel)) <|
  allq qX10_lanes 164 (.inl (a_ll 8 166)) (s_lload (i := 8) (by decide +kernel)) <|
  allq qX10_lanes 166 (.inl (a_ic 18 168)) (s_bipush (n := 18) (v := 18) rfl (by decide +kernel)) <|
  allq qX10_lanes 168 (.inr (.inl (122, 2, 0))) (okS (y := yX10_rotated) kw_1135 kw_119 rfl (by decide +kernel) kw_1134 (Or.inl kw_1133)) <|
  allq qX10_lanes 171 (.inl (o_ladd 172)) (s_ladd (by decide +kernel)) <|
  allq qX10_lanes 172 (.inl (a_lst 10 174)) (s_lstore (i := 10) (by decide +kernel) (by decide)) <|
  allq qX10_lanes 174 (.inl (a_ll 10 176)) (s_lload (i := 10) (by decide +kernel)) <|
  allq qX10_lanes 176 (.inl (a_ll 2 177)) (s_lload_n (q := 2) (i := 2) rfl (by decide +kernel)) <|
  allq qX10_lanes 177 (.inr (.inl (121, 2, 0))) (okS (y := yX10_joined) kw_1139 kw_119 rfl (by decide +kernel) kw_1138 (Or.inl kw_1137)) <|
  allq qX10_lanes 180 (.inl (a_ll 4 182)) (s_lload (i := 4) (by decide +kernel)) <|
  allq qX10_lanes 182 (.inr (.inl (121, 2, 0))) (okS (y := yX10_joined) kw_1139 kw_119 rfl (by decide +kernel) kw_1138 (Or.inl kw_1137)) <|
  allq qX10_lanes 185 (.inl (a_ll 6 187)) (s_lload (i := 6) (by decide +kernel)) <|
  allq qX10_lanes 187 (.inr (.inl (121, 2, 0))) (okS (y := yX10_joined) kw_1139 kw_119 rfl (by decide +kernel) kw_1138 (Or.inl kw_1137)) <|
  allq qX10_lanes 190 (.inl (a_ll 8 192)) (s_lload (i := 8) (by decide +kernel)) <|
  allq qX10_lanes 192 (.inr (.inl (121, 2, 0))) (okS (y := yX10_joined) kw_1139 kw_119 rfl (by decide +kernel) kw_1138 (Or.inl kw_1137)) <|
  allq qX10_lanes 195 (.inr (.inr 2)) (Or.inr (Or.inr (Or.inl ⟨rfl, rfl, by decide +kernel⟩))) <|
  alln
theorem kX10_lanes : ∀ q ∈ tX10_lanes, qX10_lanes q := alla kX10_lanes_0 (alla kX10_lanes_1 kX10_lanes_2)
abbrev qX10_joined : Nat × aI → Prop := OkQ RX10 "joined" cX10_joined 4 (some .long)
set_option maxRecDepth 20000 in
theorem kX10_joined_0 : ∀ q ∈ tX10_joined_0, qX10_joined q :=
  allq qX10_joined 0 (.inl (a_ll 0 1)) (s_lload_n (q := 0) (i := 0) rfl (by decide +kernel)) <|
  allq qX10_joined 1 (.inl (a_ll 2 2)) (s_lload_n (q := 2) (i := 2) rfl (by decide +kernel)) <|
  allq qX10_joined 2 (.inl (a_lc (-4417276706812531889) 5)) (s_ldc2 kw_1130 (by decide +kernel)) <|
  allq qX10_joined 5 (.inl (o_lmul 6)) (s_lmul (by decide +kernel)) <|
  allq qX10_joined 6 (.inl (a_ic 31 8)) (s_bipush (n := 31) (v := 31) rfl (by decide +kernel)) <|
  allq qX10_joined 8 (.inr (.inl (122, 2, 0))) (okS (y := yX10_rotated) kw_1135 kw_119 rfl (by decide +kernel) kw_1134 (Or.inl kw_1133)) <|
  allq qX10_joined 11 (.inl (a_lc (-7046029288634856825) 14)) (s_ldc2 kw_1136 (by decide +kernel)) <|
  allq qX10_joined 14 (.inl (o_lmul 15)) (s_lmul (by decide +kernel)) <|
  allq qX10_joined 15 (.inl (o_lxor 16)) (s_lxor (by decide +kernel)) <|
  allq qX10_joined 16 (.inl (a_lc (-7046029288634856825) 19)) (s_ldc2 kw_1136 (by decide +kernel)) <|
  allq qX10_joined 19 (.inl (o_lmul 20)) (s_lmul (by decide +kernel)) <|
  allq qX10_joined 20 (.inl (a_lc (-8796714831421723037) 23)) (s_ldc2 kw_1140 (by decide +kernel)) <|
  allq qX10_joined 23 (.inl (o_ladd 24)) (s_ladd (by decide +kernel)) <|
  allq qX10_joined 24 (.inr (.inr 2)) (Or.inr (Or.inr (Or.inl ⟨rfl, rfl, by decide +kernel⟩))) <|
  alln
theorem kX10_joined : ∀ q ∈ tX10_joined, qX10_joined q := kX10_joined_0
abbrev qX10_rotated : Nat × aI → Prop := OkQ RX10 "rotated" cX10_rotated 3 (some .long)
set_option maxRecDepth 20000 in
theorem kX10_rotated_0 : ∀ q ∈ tX10_rotated_0, qX10_rotated q :=
  allq qX10_rotated 0 (.inl (a_ll 0 1)) (s_lload_n (q := 0) (i := 0) rfl (by decide +kernel)) <|
  allq qX10_rotated 1 (.inl (a_il 2 2)) (s_iload_n (q := 2) (i := 2) rfl (by decide +kernel)) <|
  allq qX10_rotated 2 (.inl (o_lshl 3)) (s_lshl (by decide +kernel)) <|
  allq qX10_rotated 3 (.inl (a_ll 0 4)) (s_lload_n (q := 0) (i := 0) rfl (by decide +kernel)) <|
  allq qX10_rotated 4 (.inl (a_ic 64 6)) (s_bipush (n := 64) (v := 64) rfl (by decide +kernel)) <|
  allq qX10_rotated 6 (.inl (a_il 2 7)) (s_iload_n (q := 2) (i := 2) rfl (by decide +kernel)) <|
  allq qX10_rotated 7 (.inl (o_isub 8)) (s_isub (by decide +kernel)) <|
  allq qX10_rotated 8 (.inl (o_lushr 9)) (s_lushr (by decide +kernel)) <|
  allq qX10_rotated 9 (.inl (o_lor 10)) (s_lor (by decide +kernel)) <|
  allq qX10_rotated 10 (.inr (.inr 2)) (Or.inr (Or.inr (Or.inl ⟨rfl, rfl, by decide +kernel⟩))) <|
  alln
theorem kX10_rotated : ∀ q ∈ tX10_rotated, qX10_rotated q := kX10_rotated_0
abbrev qX11_init : Nat × aI → Prop := OkQ RX11 "<init>" cX11_init 1 (none)
set_option maxRecDepth 20000 in
theorem kX11_init_0 : ∀ q ∈ tX11_init_0, qX11_init q :=
  allq qX11_init 0 (.inl (a_al 0 1)) (s_aload_n (q := 0) (i := 0) rfl (by decide +kernel)) <|
  allq qX11_init 1 (.inl (a_oi 4)) (s_oi kw_125 kw_126 kw_127 (by decide +kernel)) <|
  allq qX11_init 4 (.inl (a_al 0 5)) (s_aload_n (q := 0) (i := 0) rfl (by decide +kernel)) <|
  allq qX11_init 5 (.inl (a_new 7 5 zX7 8)) (nX7 kw_128 (by decide +kernel)) <|
  allq qX11_init 8 (.inl (a_dup 9)) (s_dup (by decide +kernel)) <|
  allq qX11_init 9 (.inl (a_ic 8000 12)) (s_sipush (n := 8000) (v := 8000) rfl (by decide +kernel)) <|
  allq qX11_init 12 (.inr (.inl (84, 2, 8))) (okN (y := yX7_init) kw_132 kw_105 rfl (by decide +kernel) kw_131 (Or.inl kw_130)) <|
  allq qX11_init 15 (.inl (a_put 10 0 (.object "StatePress$Row") 18)) (fX11 (f0 := 0) (by decide) rfl rfl rfl tOk kw_564 (by decide +kernel)) <|
  allq qX11_init 18 (.inl (a_al 0 19)) (s_aload_n (q := 0) (i := 0) rfl (by decide +kernel)) <|
  allq qX11_init 19 (.inl (a_new 7 5 zX7 22)) (nX7 kw_128 (by decide +kernel)) <|
  allq qX11_init 22 (.inl (a_dup 23)) (s_dup (by decide +kernel)) <|
  allq qX11_init 23 (.inl (a_ic 12000 26)) (s_sipush (n := 12000) (v := 12000) rfl (by decide +kernel)) <|
  allq qX11_init 26 (.inr (.inl (84, 2, 8))) (okN (y := yX7_init) kw_132 kw_105 rfl (by decide +kernel) kw_131 (Or.inl kw_130)) <|
  allq qX11_init 29 (.inl (a_put 10 1 (.object "StatePress$Row") 32)) (pX11 (f0 := 1) (by decide) rfl rfl tOk kw_565 (by decide +kernel)) <|
  allq qX11_init 32 (.inl (a_al 0 33)) (s_aload_n (q := 0) (i := 0) rfl (by decide +kernel)) <|
  allq qX11_init 33 (.inl (a_new 7 5 zX7 36)) (nX7 kw_128 (by decide +kernel)) <|
  allq qX11_init 36 (.inl (a_dup 37)) (s_dup (by decide +kernel)) <|
  allq qX11_init 37 (.inl (a_ic 12000 40)) (s_sipush (n := 12000) (v := 12000) rfl (by decide +kernel)) <|
  allq qX11_init 40 (.inr (.inl (84, 2, 8))) (okN (y := yX7_init) kw_132 kw_105 rfl (by decide +kernel) kw_131 (Or.inl kw_130)) <|
  allq qX11_init 43 (.inl (a_put 10 2 (.object "StatePress$Row") 46)) (pX11 (f0 := 2) (by decide) rfl rfl tOk kw_566 (by decide +kernel)) <|
  allq qX11_init 46 (.inl (a_al 0 47)) (s_aload_n (q := 0) (i := 0) rfl (by decide +kernel)) <|
  allq qX11_init 47 (.inl (a_new 7 5 zX7 50)) (nX7 kw_128 (by decide +kernel)) <|
  allq qX11_init 50 (.inl (a_dup 51)) (s_dup (by decide +kernel)) <|
  allq qX11_init 51 (.inl (a_ic 8000 54)) (s_sipush (n := 8000) (v := 8000) rfl (by decide +kernel)) <|
  allq qX11_init 54 (.inr (.inl (84, 2, 8))) (okN (y := yX7_init) kw_132 kw_105 rfl (by decide +kernel) kw_131 (Or.inl kw_130)) <|
  allq qX11_init 57 (.inl (a_put 10 3 (.object "StatePress$Row") 60)) (fX11 (f0 := 3) (by decide) rfl rfl rfl tOk kw_567 (by decide +kernel)) <|
  allq qX11_init 60 (.inl (a_al 0 61)) (s_aload_n (q := 0) (i := 0) rfl (by decide +kernel)) <|
  allq qX11_init 61 (.inl (a_new 9 6 zX9 64)) (nX9 kw_163 (by decide +kernel)) <|
  allq qX11_init 64 (.inl (a_dup 65)) (s_dup (by decide +kernel)) <|
  allq qX11_init 65 (.inr (.inl (116, 1, 10))) (okN (y := yX9_init) kw_167 kw_107 rfl (by decide +kernel) kw_166 (Or.inr ⟨"StatePress", kn_165⟩)) <|
  allq qX11_init 68 (.inl (a_put 10 5 (.object "StatePress$Start") 71)) (pX11 (f0 := 5) (by decide) rfl rfl tOk kw_569 (by decide +kernel)) <|
  allq qX11_init 71 (.inl (a_al 0 72)) (s_aload_n (q := 0) (i := 0) rfl (by decide +kernel)) <|
  allq qX11_init 72 (.inl (a_new 9 6 zX9 75)) (nX9 kw_163 (by decide +kernel)) <|
  allq qX11_init 75 (.inl (a_dup 76)) (s_dup (by decide +kernel)) <|
  allq qX11_init 76 (.inr (.inl (116, 1, 10))) (okN (y := yX9_init) kw_167 kw_107 rfl (by decide +kernel) kw_166 (Or.inr ⟨"StatePress", kn_165⟩)) <|
  allq qX11_init 79 (.inl (a_put 10 6 (.object "StatePress$Start") 82)) (pX11 (f0 := 6) (by decide) rfl rfl tOk kw_570 (by decide +kernel)) <|
  allq qX11_init 82 (.inl (a_al 0 83)) (s_aload_n (q := 0) (i := 0) rfl (by decide +kernel)) <|
  allq qX11_init 83 (.inl (a_new 2 5 zX2 86)) (nX2 kw_263 (by decide +kernel)) <|
  allq qX11_init 86 (.inl (a_dup 87)) (s_dup (by decide +kernel)) <|
  allq qX11_init 87 (.inr (.inl (23, 1, 3))) (okN (y := yX2_init) kw_267 kw_110 rfl (by decide +kernel) kw_266 (Or.inr ⟨"StatePress", kn_265⟩)) <|
  alln
set_option maxRecDepth 20000 in
theorem kX11_init_1 : ∀ q ∈ tX11_init_1, qX11_init q :=
  allq qX11_init 90 (.inl (a_put 10 7 (.object "StatePress$Description") 93)) (fX11 (f0 := 7) (by decide) rfl rfl rfl tOk kw_571 (by decide +kernel)) <|
  allq qX11_init 93 (.inl (a_al 0 94)) (s_aload_n (q := 0) (i := 0) rfl (by decide +kernel)) <|
  allq qX11_init 94 (.inl (a_new 6 9 zX6 97)) (nX6 kw_289 (by decide +kernel)) <|
  allq qX11_init 97 (.inl (a_dup 98)) (s_dup (by decide +kernel)) <|
  allq qX11_init 98 (.inl (a_al 0 99)) (s_aload_n (q := 0) (i := 0) rfl (by decide +kernel)) <|
  allq qX11_init 99 (.inl (a_get 10 7 102)) (gX11 (f0 := 7) (by decide) kw_571 (by decide +kernel)) <|
  allq qX11_init 102 (.inr (.inl (68, 2, 7))) (okN (y := yX6_init) kw_293 kw_111 rfl (by decide +kernel) kw_292 (Or.inl kw_291)) <|
  allq qX11_init 105 (.inl (a_put 10 8 (.object "StatePress$Packer") 108)) (fX11 (f0 := 8) (by decide) rfl rfl rfl tOk kw_572 (by decide +kernel)) <|
  allq qX11_init 108 (.inl (a_al 0 109)) (s_aload_n (q := 0) (i := 0) rfl (by decide +kernel)) <|
  allq qX11_init 109 (.inl (a_ic 12 111)) (s_bipush (n := 12) (v := 12) rfl (by decide +kernel)) <|
  allq qX11_init 111 (.inl (a_newa 1 113)) (na_int kw_197 (by decide +kernel)) <|
  allq qX11_init 113 (.inl (a_put 10 9 (.array .int) 116)) (fX11 (f0 := 9) (by decide) rfl rfl rfl tOk kw_573 (by decide +kernel)) <|
  allq qX11_init 116 (.inl (a_al 0 117)) (s_aload_n (q := 0) (i := 0) rfl (by decide +kernel)) <|
  allq qX11_init 117 (.inl (a_ic 2 118)) (s_iconst (n := 2) (v := 2) rfl (by decide +kernel)) <|
  allq qX11_init 118 (.inl (a_put 10 10 .int 121)) (pX11 (f0 := 10) (by decide) rfl rfl tOk kw_574 (by decide +kernel)) <|
  allq qX11_init 121 (.inl (a_al 0 122)) (s_aload_n (q := 0) (i := 0) rfl (by decide +kernel)) <|
  allq qX11_init 122 (.inl (a_ic 3 123)) (s_iconst (n := 3) (v := 3) rfl (by decide +kernel)) <|
  allq qX11_init 123 (.inl (a_put 10 11 .int 126)) (pX11 (f0 := 11) (by decide) rfl rfl tOk kw_575 (by decide +kernel)) <|
  allq qX11_init 126 (.inr (.inr 0)) (Or.inl ⟨rfl, rfl, by decide +kernel⟩) <|
  alln
theorem kX11_init : ∀ q ∈ tX11_init, qX11_init q := alla kX11_init_0 kX11_init_1
