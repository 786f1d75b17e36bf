/-! each entry is one that the machine does (printed by a program) -/
abbrev qX12_fill : Nat × aI → Prop := OkQ RX12 "fill" cX12_fill 1 (none)
set_option maxRecDepth 20000 in
theorem kX12_fill_0 : ∀ q ∈ tX12_fill_0, qX12_fill q :=
  allq qX12_fill 0 (.inl (a_al 0 1)) (s_aload_n (q := 0) (i := 0) rfl (by decide +kernel)) <|
  allq qX12_fill 1 (.inl (a_get 11 38 4)) (gX12 (f0 := 38) (by decide) kw_1223 (by decide +kernel)) <|
  allq qX12_fill 4 (.inl (a_ic 8 6)) (s_bipush (n := 8) (v := 8) rfl (by decide +kernel)) <|
  allq qX12_fill 6 (.inl (o_irem 7)) (s_irem (by decide +kernel)) <|
  allq qX12_fill 7 (.inl (o_if_eq 23 10)) (s_if_eq (off := 16) (by decide +kernel) (by decide)) <|
  allq qX12_fill 10 (.inl (a_al 0 11)) (s_aload_n (q := 0) (i := 0) rfl (by decide +kernel)) <|
  allq qX12_fill 11 (.inl (a_dup 12)) (s_dup (by decide +kernel)) <|
  allq qX12_fill 12 (.inl (a_get 11 38 15)) (gX12 (f0 := 38) (by decide) kw_1223 (by decide +kernel)) <|
  allq qX12_fill 15 (.inl (a_ic 1 16)) (s_iconst (n := 1) (v := 1) rfl (by decide +kernel)) <|
  allq qX12_fill 16 (.inl (o_iadd 17)) (s_iadd (by decide +kernel)) <|
  allq qX12_fill 17 (.inl (a_put 11 38 .int 20)) (pX12 (f0 := 38) (by decide) rfl rfl tOk kw_1223 (by decide +kernel)) <|
  allq qX12_fill 20 (.inl (a_go 0)) (s_goto (off := (-20)) (by decide +kernel) (by decide)) <|
  allq qX12_fill 23 (.inr (.inr 0)) (Or.inl ⟨rfl, rfl, by decide +kernel⟩) <|
  alln
theorem kX12_fill : ∀ q ∈ tX12_fill, qX12_fill q := kX12_fill_0
abbrev qX12_begin : Nat × aI → Prop := OkQ RX12 "begin" cX12_begin 2 (none)
set_option maxRecDepth 20000 in
theorem kX12_begin_0 : ∀ q ∈ tX12_begin_0, qX12_begin q :=
  allq qX12_begin 0 (.inl (a_ic 0 1)) (s_iconst (n := 0) (v := 0) rfl (by decide +kernel)) <|
  allq qX12_begin 1 (.inl (a_is 1 2)) (s_istore_n (q := 1) (i := 1) rfl (by decide +kernel) (by decide)) <|
  allq qX12_begin 2 (.inl (a_il 1 3)) (s_iload_n (q := 1) (i := 1) rfl (by decide +kernel)) <|
  allq qX12_begin 3 (.inl (a_ic 24000 6)) (s_sipush (n := 24000) (v := 24000) rfl (by decide +kernel)) <|
  allq qX12_begin 6 (.inl (o_icmp_ge 33 9)) (s_icmp_ge (off := 27) (by decide +kernel) (by decide)) <|
  allq qX12_begin 9 (.inl (a_ic 8 11)) (s_bipush (n := 8) (v := 8) rfl (by decide +kernel)) <|
  allq qX12_begin 11 (.inl (a_il 1 12)) (s_iload_n (q := 1) (i := 1) rfl (by decide +kernel)) <|
  allq qX12_begin 12 (.inl (o_imul 13)) (s_imul (by decide +kernel)) <|
  allq qX12_begin 13 (.inl (a_al 0 14)) (s_aload_n (q := 0) (i := 0) rfl (by decide +kernel)) <|
  allq qX12_begin 14 (.inl (a_get 11 38 17)) (gX12 (f0 := 38) (by decide) kw_1223 (by decide +kernel)) <|
  allq qX12_begin 17 (.inl (o_icmp_ge 33 20)) (s_icmp_ge (off := 16) (by decide +kernel) (by decide)) <|
  allq qX12_begin 20 (.inl (a_al 0 21)) (s_aload_n (q := 0) (i := 0) rfl (by decide +kernel)) <|
  allq qX12_begin 21 (.inl (a_get 11 37 24)) (gX12 (f0 := 37) (by decide) kw_1222 (by decide +kernel)) <|
  allq qX12_begin 24 (.inl (a_il 1 25)) (s_iload_n (q := 1) (i := 1) rfl (by decide +kernel)) <|
  allq qX12_begin 25 (.inl (a_ic 0 26)) (s_iconst (n := 0) (v := 0) rfl (by decide +kernel)) <|
  allq qX12_begin 26 (.inl (a_iast 27)) (s_iast (by decide +kernel)) <|
  allq qX12_begin 27 (.inl (a_inc 1 1 30)) (s_iinc (i := 1) (n := 1) (n2 := 1) rfl (by decide +kernel) (by decide)) <|
  allq qX12_begin 30 (.inl (a_go 2)) (s_goto (off := (-28)) (by decide +kernel) (by decide)) <|
  allq qX12_begin 33 (.inl (a_al 0 34)) (s_aload_n (q := 0) (i := 0) rfl (by decide +kernel)) <|
  allq qX12_begin 34 (.inl (a_ic 0 35)) (s_iconst (n := 0) (v := 0) rfl (by decide +kernel)) <|
  allq qX12_begin 35 (.inl (a_put 11 38 .int 38)) (pX12 (f0 := 38) (by decide) rfl rfl tOk kw_1223 (by decide +kernel)) <|
  allq qX12_begin 38 (.inr (.inr 0)) (Or.inl ⟨rfl, rfl, by decide +kernel⟩) <|
  alln
theorem kX12_begin : ∀ q ∈ tX12_begin, qX12_begin q := kX12_begin_0
abbrev qX12_say : Nat × aI → Prop := OkQ RX12 "say" cX12_say 2 (none)
set_option maxRecDepth 20000 in
theorem kX12_say_0 : ∀ q ∈ tX12_say_0, qX12_say q :=
  allq qX12_say 0 (.inl (a_al 0 1)) (s_aload_n (q := 0) (i := 0) rfl (by decide +kernel)) <|
  allq qX12_say 1 (.inl (a_get 11 40 4)) (gX12 (f0 := 40) (by decide) kw_1225 (by decide +kernel)) <|
  allq qX12_say 4 (.inl (a_ic 12000 7)) (s_sipush (n := 12000) (v := 12000) rfl (by decide +kernel)) <|
  allq qX12_say 7 (.inl (o_icmp_ge 24 10)) (s_icmp_ge (off := 17) (by decide +kernel) (by decide)) <|
  allq qX12_say 10 (.inl (a_al 0 11)) (s_aload_n (q := 0) (i := 0) rfl (by decide +kernel)) <|
  allq qX12_say 11 (.inl (a_get 11 39 14)) (gX12 (f0 := 39) (by decide) kw_1224 (by decide +kernel)) <|
  allq qX12_say 14 (.inl (a_al 0 15)) (s_aload_n (q := 0) (i := 0) rfl (by decide +kernel)) <|
  allq qX12_say 15 (.inl (a_get 11 40 18)) (gX12 (f0 := 40) (by decide) kw_1225 (by decide +kernel)) <|
  allq qX12_say 18 (.inl (a_il 1 19)) (s_iload_n (q := 1) (i := 1) rfl (by decide +kernel)) <|
  allq qX12_say 19 (.inl (a_ic 255 22)) (s_sipush (n := 255) (v := 255) rfl (by decide +kernel)) <|
  allq qX12_say 22 (.inl (o_iand 23)) (s_iand (by decide +kernel)) <|
  allq qX12_say 23 (.inl (a_iast 24)) (s_iast (by decide +kernel)) <|
  allq qX12_say 24 (.inl (a_al 0 25)) (s_aload_n (q := 0) (i := 0) rfl (by decide +kernel)) <|
  allq qX12_say 25 (.inl (a_dup 26)) (s_dup (by decide +kernel)) <|
  allq qX12_say 26 (.inl (a_get 11 40 29)) (gX12 (f0 := 40) (by decide) kw_1225 (by decide +kernel)) <|
  allq qX12_say 29 (.inl (a_ic 1 30)) (s_iconst (n := 1) (v := 1) rfl (by decide +kernel)) <|
  allq qX12_say 30 (.inl (o_iadd 31)) (s_iadd (by decide +kernel)) <|
  allq qX12_say 31 (.inl (a_put 11 40 .int 34)) (pX12 (f0 := 40) (by decide) rfl rfl tOk kw_1225 (by decide +kernel)) <|
  allq qX12_say 34 (.inr (.inr 0)) (Or.inl ⟨rfl, rfl, by decide +kernel⟩) <|
  alln
theorem kX12_say : ∀ q ∈ tX12_say, qX12_say q := kX12_say_0
abbrev qX12_sayNumber : Nat × aI → Prop := OkQ RX12 "sayNumber" cX12_sayNumber 5 (none)
set_option maxRecDepth 20000 in
theorem kX12_sayNumber_0 : ∀ q ∈ tX12_sayNumber_0, qX12_sayNumber q :=
  allq qX12_sayNumber 0 (.inl (a_ic 0 1)) (s_iconst (n := 0) (v := 0) rfl (by decide +kernel)) <|
  allq qX12_sayNumber 1 (.inl (a_is 4 3)) (s_istore (i := 4) (by decide +kernel) (by decide)) <|
  allq qX12_sayNumber 3 (.inl (a_il 4 5)) (s_iload (i := 4) (by decide +kernel)) <|
  allq qX12_sayNumber 5 (.inl (a_il 3 6)) (s_iload_n (q := 3) (i := 3) rfl (by decide +kernel)) <|
  allq qX12_sayNumber 6 (.inl (o_icmp_ge 31 9)) (s_icmp_ge (off := 25) (by decide +kernel) (by decide)) <|
  allq qX12_sayNumber 9 (.inl (a_al 0 10)) (s_aload_n (q := 0) (i := 0) rfl (by decide +kernel)) <|
  allq qX12_sayNumber 10 (.inl (a_ll 1 11)) (s_lload_n (q := 1) (i := 1) rfl (by decide +kernel)) <|
  allq qX12_sayNumber 11 (.inl (a_ic 8 13)) (s_bipush (n := 8) (v := 8) rfl (by decide +kernel)) <|
  allq qX12_sayNumber 13 (.inl (a_il 4 15)) (s_iload (i := 4) (by decide +kernel)) <|
  allq qX12_sayNumber 15 (.inl (o_imul 16)) (s_imul (by decide +kernel)) <|
  allq qX12_sayNumber 16 (.inl (o_lshr 17)) (s_lshr (by decide +kernel)) <|
  allq qX12_sayNumber 17 (.inl (a_lc 255 20)) (s_ldc2 kw_1384 (by decide +kernel)) <|
  allq qX12_sayNumber 20 (.inl (o_land 21)) (s_land (by decide +kernel)) <|
  allq qX12_sayNumber 21 (.inl (a_l2i 22)) (s_l2i (by decide +kernel)) <|
  allq qX12_sayNumber 22 (.inr (.inl (150, 2, 12))) (okV (y := yX12_say) kw_1416 kw_118 rfl rfl (by decide +kernel) kw_1415 kw_42 kw_1413) <|
  allq qX12_sayNumber 25 (.inl (a_inc 4 1 28)) (s_iinc (i := 4) (n := 1) (n2 := 1) rfl (by decide +kernel) (by decide)) <|
  allq qX12_sayNumber 28 (.inl (a_go 3)) (s_goto (off := (-25)) (by decide +kernel) (by decide)) <|
  allq qX12_sayNumber 31 (.inr (.inr 0)) (Or.inl ⟨rfl, rfl, by decide +kernel⟩) <|
  alln
theorem kX12_sayNumber : ∀ q ∈ tX12_sayNumber, qX12_sayNumber q := kX12_sayNumber_0
abbrev qX12_sayMade : Nat × aI → Prop := OkQ RX12 "sayMade" cX12_sayMade 2 (none)
set_option maxRecDepth 20000 in
theorem kX12_sayMade_0 : ∀ q ∈ tX12_sayMade_0, qX12_sayMade q :=
  allq qX12_sayMade 0 (.inl (a_ic 0 1)) (s_iconst (n := 0) (v := 0) rfl (by decide +kernel)) <|
  allq qX12_sayMade 1 (.inl (a_is 1 2)) (s_istore_n (q := 1) (i := 1) rfl (by decide +kernel) (by decide)) <|
  allq qX12_sayMade 2 (.inl (a_il 1 3)) (s_iload_n (q := 1) (i := 1) rfl (by decide +kernel)) <|
  allq qX12_sayMade 3 (.inl (a_al 0 4)) (s_aload_n (q := 0) (i := 0) rfl (by decide +kernel)) <|
  allq qX12_sayMade 4 (.inl (a_get 11 38 7)) (gX12 (f0 := 38) (by decide) kw_1223 (by decide +kernel)) <|
  allq qX12_sayMade 7 (.inl (a_ic 8 9)) (s_bipush (n := 8) (v := 8) rfl (by decide +kernel)) <|
  allq qX12_sayMade 9 (.inl (o_idiv 10)) (s_idiv (by decide +kernel)) <|
  allq qX12_sayMade 10 (.inl (o_icmp_ge 29 13)) (s_icmp_ge (off := 19) (by decide +kernel) (by decide)) <|
  allq qX12_sayMade 13 (.inl (a_al 0 14)) (s_aload_n (q := 0) (i := 0) rfl (by decide +kernel)) <|
  allq qX12_sayMade 14 (.inl (a_al 0 15)) (s_aload_n (q := 0) (i := 0) rfl (by decide +kernel)) <|
  allq qX12_sayMade 15 (.inl (a_get 11 37 18)) (gX12 (f0 := 37) (by decide) kw_1222 (by decide +kernel)) <|
  allq qX12_sayMade 18 (.inl (a_il 1 19)) (s_iload_n (q := 1) (i := 1) rfl (by decide +kernel)) <|
  allq qX12_sayMade 19 (.inl (a_iald 20)) (s_iald (by decide +kernel)) <|
  allq qX12_sayMade 20 (.inr (.inl (150, 2, 12))) (okV (y := yX12_say) kw_1416 kw_118 rfl rfl (by decide +kernel) kw_1415 kw_42 kw_1413) <|
  allq qX12_sayMade 23 (.inl (a_inc 1 1 26)) (s_iinc (i := 1) (n := 1) (n2 := 1) rfl (by decide +kernel) (by decide)) <|
  allq qX12_sayMade 26 (.inl (a_go 2)) (s_goto (off := (-24)) (by decide +kernel) (by decide)) <|
  allq qX12_sayMade 29 (.inr (.inr 0)) (Or.inl ⟨rfl, rfl, by decide +kernel⟩) <|
  alln
theorem kX12_sayMade : ∀ q ∈ tX12_sayMade, qX12_sayMade q := kX12_sayMade_0
abbrev qX12_show : Nat × aI → Prop := OkQ RX12 "show" cX12_show 2 (some .int)
set_option maxRecDepth 20000 in
theorem kX12_show_0 : ∀ q ∈ tX12_show_0, qX12_show q :=
  allq qX12_show 0 (.inl (a_al 0 1)) (s_aload_n (q := 0) (i := 0) rfl (by decide +kernel)) <|
  allq qX12_show 1 (.inl (a_get 11 40 4)) (gX12 (f0 := 40) (by decide) kw_1225 (by decide +kernel)) <|
  allq qX12_show 4 (.inl (a_ic 12000 7)) (s_sipush (n := 12000) (v := 12000) rfl (by decide +kernel)) <|
  allq qX12_show 7 (.inl (o_icmp_le 12 10)) (s_icmp_le (off := 5) (by decide +kernel) (by decide)) <|
  allq qX12_show 10 (.inl (a_ic (-1) 11)) (s_iconst (n := (-1)) (v := (-1)) rfl (by decide +kernel)) <|
  allq qX12_show 11 (.inr (.inr 1)) (Or.inr (Or.inl ⟨rfl, rfl, by decide +kernel⟩)) <|
  allq qX12_show 12 (.inl (a_ic 0 13)) (s_iconst (n := 0) (v := 0) rfl (by decide +kernel)) <|
  allq qX12_show 13 (.inl (a_is 1 14)) (s_istore_n (q := 1) (i := 1) rfl (by decide +kernel) (by decide)) <|
  allq qX12_show 14 (.inl (a_il 1 15)) (s_iload_n (q := 1) (i := 1) rfl (by decide +kernel)) <|
  allq qX12_show 15 (.inl (a_al 0 16)) (s_aload_n (q := 0) (i := 0) rfl (by decide +kernel)) <|
  allq qX12_show 16 (.inl (a_get 11 40 19)) (gX12 (f0 := 40) (by decide) kw_1225 (by decide +kernel)) <|
  allq qX12_show 19 (.inl (o_icmp_ge 40 22)) (s_icmp_ge (off := 21) (by decide +kernel) (by decide)) <|
  allq qX12_show 22 (.inl (a_al 0 23)) (s_aload_n (q := 0) (i := 0) rfl (by decide +kernel)) <|
  allq qX12_show 23 (.inl (a_get 11 2 26)) (gX12 (f0 := 2) (by decide) kw_1187 (by decide +kernel)) <|
  allq qX12_show 26 (.inl (a_il 1 27)) (s_iload_n (q := 1) (i := 1) rfl (by decide +kernel)) <|
  allq qX12_show 27 (.inl (a_al 0 28)) (s_aload_n (q := 0) (i := 0) rfl (by decide +kernel)) <|
  allq qX12_show 28 (.inl (a_get 11 39 31)) (gX12 (f0 := 39) (by decide) kw_1224 (by decide +kernel)) <|
  allq qX12_show 31 (.inl (a_il 1 32)) (s_iload_n (q := 1) (i := 1) rfl (by decide +kernel)) <|
  allq qX12_show 32 (.inl (a_iald 33)) (s_iald (by decide +kernel)) <|
  allq qX12_show 33 (.inl (a_iast 34)) (s_iast (by decide +kernel)) <|
  allq qX12_show 34 (.inl (a_inc 1 1 37)) (s_iinc (i := 1) (n := 1) (n2 := 1) rfl (by decide +kernel) (by decide)) <|
  allq qX12_show 37 (.inl (a_go 14)) (s_goto (off := (-23)) (by decide +kernel) (by decide)) <|
  allq qX12_show 40 (.inl (a_al 0 41)) (s_aload_n (q := 0) (i := 0) rfl (by decide +kernel)) <|
  allq qX12_show 41 (.inl (a_al 0 42)) (s_aload_n (q := 0) (i := 0) rfl (by decide +kernel)) <|
  allq qX12_show 42 (.inl (a_get 11 40 45)) (gX12 (f0 := 40) (by decide) kw_1225 (by decide +kernel)) <|
  allq qX12_show 45 (.inl (a_put 11 3 .int 48)) (pX12 (f0 := 3) (by decide) rfl rfl tOk kw_1188 (by decide +kernel)) <|
  allq qX12_show 48 (.inl (a_al 0 49)) (s_aload_n (q := 0) (i := 0) rfl (by decide +kernel)) <|
  allq qX12_show 49 (.inl (a_get 11 3 52)) (gX12 (f0 := 3) (by decide) kw_1188 (by decide +kernel)) <|
  allq qX12_show 52 (.inr (.inr 1)) (Or.inr (Or.inl ⟨rfl, rfl, by decide +kernel⟩)) <|
  alln
theorem kX12_show : ∀ q ∈ tX12_show, qX12_show q := kX12_show_0
abbrev qX12_alike : Nat × aI → Prop := OkQ RX12 "alike" cX12_alike 5 (some .int)
set_option maxRecDepth 20000 in
theorem kX12_alike_0 : ∀ q ∈ tX12_alike_0, qX12_alike q :=
  allq qX12_alike 0 (.inl (a_ic 0 1)) (s_iconst (n := 0) (v := 0) rfl (by decide +kernel)) <|
  allq qX12_alike 1 (.inl (a_is 4 3)) (s_istore (i := 4) (by decide +kernel) (by decide)) <|
  allq qX12_alike 3 (.inl (a_il 4 5)) (s_iload (i := 4) (by decide +kernel)) <|
  allq qX12_alike 5 (.inl (a_il 3 6)) (s_iload_n (q := 3) (i := 3) rfl (by decide +kernel)) <|
  allq qX12_alike 6 (.inl (o_icmp_ge 36 9)) (s_icmp_ge (off := 30) (by decide +kernel) (by decide)) <|
  allq qX12_alike 9 (.inl (a_al 0 10)) (s_aload_n (q := 0) (i := 0) rfl (by decide +kernel)) <|
  allq qX12_alike 10 (.inl (a_get 11 24 13)) (gX12 (f0 := 24) (by decide) kw_1209 (by decide +kernel)) <|
  allq qX12_alike 13 (.inl (a_il 1 14)) (s_iload_n (q := 1) (i := 1) rfl (by decide +kernel)) <|
  allq qX12_alike 14 (.inl (a_il 4 16)) (s_iload (i := 4) (by decide +kernel)) <|
  allq qX12_alike 16 (.inl (o_iadd 17)) (s_iadd (by decide +kernel)) <|
  allq qX12_alike 17 (.inl (a_iald 18)) (s_iald (by decide +kernel)) <|
  allq qX12_alike 18 (.inl (a_al 0 19)) (s_aload_n (q := 0) (i := 0) rfl (by decide +kernel)) <|
  allq qX12_alike 19 (.inl (a_get 11 24 22)) (gX12 (f0 := 24) (by decide) kw_1209 (by decide +kernel)) <|
  allq qX12_alike 22 (.inl (a_il 2 23)) (s_iload_n (q := 2) (i := 2) rfl (by decide +kernel)) <|
  allq qX12_alike 23 (.inl (a_il 4 25)) (s_iload (i := 4) (by decide +kernel)) <|
  allq qX12_alike 25 (.inl (o_iadd 26)) (s_iadd (by decide +kernel)) <|
  allq qX12_alike 26 (.inl (a_iald 27)) (s_iald (by decide +kernel)) <|
  allq qX12_alike 27 (.inl (o_icmp_ne 36 30)) (s_icmp_ne (off := 9) (by decide +kernel) (by decide)) <|
  allq qX12_alike 30 (.inl (a_inc 4 1 33)) (s_iinc (i := 4) (n := 1) (n2 := 1) rfl (by decide +kernel) (by decide)) <|
  allq qX12_alike 33 (.inl (a_go 3)) (s_goto (off := (-30)) (by decide +kernel) (by decide)) <|
  allq qX12_alike 36 (.inl (a_il 4 38)) (s_iload (i := 4) (by decide +kernel)) <|
  allq qX12_alike 38 (.inr (.inr 1)) (Or.inr (Or.inl ⟨rfl, rfl, by decide +kernel⟩)) <|
  alln
theorem kX12_alike : ∀ q ∈ tX12_alike, qX12_alike q := kX12_alike_0
abbrev qX12_match : Nat × aI → Prop := OkQ RX12 "match" cX12_match 8 (some .int)
set_option maxRecDepth 20000 in
theorem kX12_match_0 : ∀ q ∈ tX12_match_0, qX12_match q :=
  allq qX12_match 0 (.inl (a_al 0 1)) (s_aload_n (q := 0) (i := 0) rfl (by decide +kernel)) <|
  allq qX12_match 1 (.inl (a_get 11 25 4)) (gX12 (f0 := 25) (by decide) kw_1210 (by decide +kernel)) <|
  allq qX12_match 4 (.inl (a_il 1 5)) (s_iload_n (q := 1) (i := 1) rfl (by decide +kernel)) <|
  allq qX12_match 5 (.inl (o_isub 6)) (s_isub (by decide +kernel)) <|
  allq qX12_match 6 (.inl (a_ic 131074 8)) (s_ldc kw_1445 (by decide +kernel)) <|
  allq qX12_match 8 (.inl (o_icmp_ge 20 11)) (s_icmp_ge (off := 12) (by decide +kernel) (by decide)) <|
  allq qX12_match 11 (.inl (a_al 0 12)) (s_aload_n (q := 0) (i := 0) rfl (by decide +kernel)) <|
  allq qX12_match 12 (.inl (a_get 11 25 15)) (gX12 (f0 := 25) (by decide) kw_1210 (by decide +kernel)) <|
  allq qX12_match 15 (.inl (a_il 1 16)) (s_iload_n (q := 1) (i := 1) rfl (by decide +kernel)) <|
  allq qX12_match 16 (.inl (o_isub 17)) (s_isub (by decide +kernel)) <|
  allq qX12_match 17 (.inl (a_go 22)) (s_goto (off := 5) (by decide +kernel) (by decide)) <|
  allq qX12_match 20 (.inl (a_ic 131074 22)) (s_ldc kw_1445 (by decide +kernel)) <|
  allq qX12_match 22 (.inl (a_is 3 23)) (s_istore_n (q := 3) (i := 3) rfl (by decide +kernel) (by decide)) <|
  allq qX12_match 23 (.inl (a_ic 0 24)) (s_iconst (n := 0) (v := 0) rfl (by decide +kernel)) <|
  allq qX12_match 24 (.inl (a_is 4 26)) (s_istore (i := 4) (by decide +kernel) (by decide)) <|
  allq qX12_match 26 (.inl (a_il 1 27)) (s_iload_n (q := 1) (i := 1) rfl (by decide +kernel)) <|
  allq qX12_match 27 (.inl (a_ic 1 28)) (s_iconst (n := 1) (v := 1) rfl (by decide +kernel)) <|
  allq qX12_match 28 (.inl (o_isub 29)) (s_isub (by decide +kernel)) <|
  allq qX12_match 29 (.inl (a_is 5 31)) (s_istore (i := 5) (by decide +kernel) (by decide)) <|
  allq qX12_match 31 (.inl (a_il 5 33)) (s_iload (i := 5) (by decide +kernel)) <|
  allq qX12_match 33 (.inl (o_if_lt 154 36)) (s_if_lt (off := 121) (by decide +kernel) (by decide)) <|
  allq qX12_match 36 (.inl (a_il 1 37)) (s_iload_n (q := 1) (i := 1) rfl (by decide +kernel)) <|
  allq qX12_match 37 (.inl (a_il 5 39)) (s_iload (i := 5) (by decide +kernel)) <|
  allq qX12_match 39 (.inl (o_isub 40)) (s_isub (by decide +kernel)) <|
  allq qX12_match 40 (.inl (a_al 0 41)) (s_aload_n (q := 0) (i := 0) rfl (by decide +kernel)) <|
  allq qX12_match 41 (.inl (a_get 11 27 44)) (gX12 (f0 := 27) (by decide) kw_1212 (by decide +kernel)) <|
  allq qX12_match 44 (.inl (o_icmp_gt 154 47)) (s_icmp_gt (off := 110) (by decide +kernel) (by decide)) <|
  allq qX12_match 47 (.inl (a_il 4 49)) (s_iload (i := 4) (by decide +kernel)) <|
  allq qX12_match 49 (.inl (a_il 3 50)) (s_iload_n (q := 3) (i := 3) rfl (by decide +kernel)) <|
  allq qX12_match 50 (.inl (o_icmp_ge 154 53)) (s_icmp_ge (off := 104) (by decide +kernel) (by decide)) <|
  allq qX12_match 53 (.inl (a_al 0 54)) (s_aload_n (q := 0) (i := 0) rfl (by decide +kernel)) <|
  allq qX12_match 54 (.inl (a_il 5 56)) (s_iload (i := 5) (by decide +kernel)) <|
  allq qX12_match 56 (.inl (a_il 1 57)) (s_iload_n (q := 1) (i := 1) rfl (by decide +kernel)) <|
  allq qX12_match 57 (.inl (a_il 3 58)) (s_iload_n (q := 3) (i := 3) rfl (by decide +kernel)) <|
  allq qX12_match 58 (.inr (.inl (154, 4, 12))) (okV (y := yX12_alike) kw_1449 kw_118 rfl rfl (by decide +kernel) kw_1448 kw_50 kw_1446) <|
  allq qX12_match 61 (.inl (a_is 6 63)) (s_istore (i := 6) (by decide +kernel) (by decide)) <|
  allq qX12_match 63 (.inl (a_il 2 64)) (s_iload_n (q := 2) (i := 2) rfl (by decide +kernel)) <|
  allq qX12_match 64 (.inl (a_ic 2 65)) (s_iconst (n := 2) (v := 2) rfl (by decide +kernel)) <|
  allq qX12_match 65 (.inl (o_icmp_ne 83 68)) (s_icmp_ne (off := 18) (by decide +kernel) (by decide)) <|
  allq qX12_match 68 (.inl (a_il 6 70)) (s_iload (i := 6) (by decide +kernel)) <|
  alln
set_option maxRecDepth 20000 in
theorem kX12_match_1 : ∀ q ∈ tX12_match_1, qX12_match q :=
  allq qX12_match 70 (.inl (a_il 4 72)) (s_iload (i := 4) (by decide +kernel)) <|
  allq qX12_match 72 (.inl (o_icmp_le 79 75)) (s_icmp_le (off := 7) (by decide +kernel) (by decide)) <|
  allq qX12_match 75 (.inl (a_ic 1 76)) (s_iconst (n := 1) (v := 1) rfl (by decide +kernel)) <|
  allq qX12_match 76 (.inl (a_go 112)) (s_goto (off := 36) (by decide +kernel) (by decide)) <|
  allq qX12_match 79 (.inl (a_ic 0 80)) (s_iconst (n := 0) (v := 0) rfl (by decide +kernel)) <|
  allq qX12_match 80 (.inl (a_go 112)) (s_goto (off := 32) (by decide +kernel) (by decide)) <|
  allq qX12_match 83 (.inl (a_il 4 85)) (s_iload (i := 4) (by decide +kernel)) <|
  allq qX12_match 85 (.inl (o_if_eq 107 88)) (s_if_eq (off := 22) (by decide +kernel) (by decide)) <|
  allq qX12_match 88 (.inl (a_il 2 89)) (s_iload_n (q := 2) (i := 2) rfl (by decide +kernel)) <|
  allq qX12_match 89 (.inl (a_ic 1 90)) (s_iconst (n := 1) (v := 1) rfl (by decide +kernel)) <|
  allq qX12_match 90 (.inl (o_icmp_ne 111 93)) (s_icmp_ne (off := 21) (by decide +kernel) (by decide)) <|
  allq qX12_match 93 (.inl (a_il 4 95)) (s_iload (i := 4) (by decide +kernel)) <|
  allq qX12_match 95 (.inl (a_ic 8 97)) (s_bipush (n := 8) (v := 8) rfl (by decide +kernel)) <|
  allq qX12_match 97 (.inl (o_icmp_ge 111 100)) (s_icmp_ge (off := 14) (by decide +kernel) (by decide)) <|
  allq qX12_match 100 (.inl (a_il 6 102)) (s_iload (i := 6) (by decide +kernel)) <|
  allq qX12_match 102 (.inl (a_ic 7 104)) (s_bipush (n := 7) (v := 7) rfl (by decide +kernel)) <|
  allq qX12_match 104 (.inl (o_icmp_le 111 107)) (s_icmp_le (off := 7) (by decide +kernel) (by decide)) <|
  allq qX12_match 107 (.inl (a_ic 1 108)) (s_iconst (n := 1) (v := 1) rfl (by decide +kernel)) <|
  allq qX12_match 108 (.inl (a_go 112)) (s_goto (off := 4) (by decide +kernel) (by decide)) <|
  allq qX12_match 111 (.inl (a_ic 0 112)) (s_iconst (n := 0) (v := 0) rfl (by decide +kernel)) <|
  allq qX12_match 112 (.inl (a_is 7 114)) (s_istore (i := 7) (by decide +kernel) (by decide)) <|
  allq qX12_match 114 (.inl (a_il 6 116)) (s_iload (i := 6) (by decide +kernel)) <|
  allq qX12_match 116 (.inl (a_al 0 117)) (s_aload_n (q := 0) (i := 0) rfl (by decide +kernel)) <|
  allq qX12_match 117 (.inl (a_get 11 5 120)) (gX12 (f0 := 5) (by decide) kw_1190 (by decide +kernel)) <|
  allq qX12_match 120 (.inl (o_icmp_lt 148 123)) (s_icmp_lt (off := 28) (by decide +kernel) (by decide)) <|
  allq qX12_match 123 (.inl (a_il 7 125)) (s_iload (i := 7) (by decide +kernel)) <|
  allq qX12_match 125 (.inl (o_if_ne 131 128)) (s_if_ne (off := 6) (by decide +kernel) (by decide)) <|
  allq qX12_match 128 (.inl (a_go 148)) (s_goto (off := 20) (by decide +kernel) (by decide)) <|
  allq qX12_match 131 (.inl (a_il 6 133)) (s_iload (i := 6) (by decide +kernel)) <|
  allq qX12_match 133 (.inl (a_is 4 135)) (s_istore (i := 4) (by decide +kernel) (by decide)) <|
  allq qX12_match 135 (.inl (a_al 0 136)) (s_aload_n (q := 0) (i := 0) rfl (by decide +kernel)) <|
  allq qX12_match 136 (.inl (a_il 5 138)) (s_iload (i := 5) (by decide +kernel)) <|
  allq qX12_match 138 (.inl (a_put 11 26 .int 141)) (pX12 (f0 := 26) (by decide) rfl rfl tOk kw_1211 (by decide +kernel)) <|
  allq qX12_match 141 (.inl (a_il 2 142)) (s_iload_n (q := 2) (i := 2) rfl (by decide +kernel)) <|
  allq qX12_match 142 (.inl (o_if_ne 148 145)) (s_if_ne (off := 6) (by decide +kernel) (by decide)) <|
  allq qX12_match 145 (.inl (a_il 4 147)) (s_iload (i := 4) (by decide +kernel)) <|
  allq qX12_match 147 (.inr (.inr 1)) (Or.inr (Or.inl ⟨rfl, rfl, by decide +kernel⟩)) <|
  allq qX12_match 148 (.inl (a_inc 5 (-1) 151)) (s_iinc (i := 5) (n := (-1)) (n2 := (-1)) rfl (by decide +kernel) (by decide)) <|
  allq qX12_match 151 (.inl (a_go 31)) (s_goto (off := (-120)) (by decide +kernel) (by decide)) <|
  allq qX12_match 154 (.inl (a_il 4 156)) (s_iload (i := 4) (by decide +kernel)) <|
  alln
set_option maxRecDepth 20000 in
theorem kX12_match_2 : ∀ q ∈ tX12_match_2, qX12_match q :=
  allq qX12_match 156 (.inr (.inr 1)) (Or.inr (Or.inl ⟨rfl, rfl, by decide +kernel⟩)) <|
  alln
theorem kX12_match : ∀ q ∈ tX12_match, qX12_match q := alla kX12_match_0 (alla kX12_match_1 kX12_match_2)
abbrev qX12_taken : Nat × aI → Prop := OkQ RX12 "taken" cX12_taken 4 (some .int)
set_option maxRecDepth 20000 in
theorem kX12_taken_0 : ∀ q ∈ tX12_taken_0, qX12_taken q :=
  allq qX12_taken 0 (.inl (a_al 0 1)) (s_aload_n (q := 0) (i := 0) rfl (by decide +kernel)) <|
  allq qX12_taken 1 (.inl (a_get 11 4 4)) (gX12 (f0 := 4) (by decide) kw_1189 (by decide +kernel)) <|
  allq qX12_taken 4 (.inl (a_ic 3 5)) (s_iconst (n := 3) (v := 3) rfl (by decide +kernel)) <|
  allq qX12_taken 5 (.inl (o_icmp_ge 18 8)) (s_icmp_ge (off := 13) (by decide +kernel) (by decide)) <|
  allq qX12_taken 8 (.inl (a_al 0 9)) (s_aload_n (q := 0) (i := 0) rfl (by decide +kernel)) <|
  allq qX12_taken 9 (.inl (a_il 1 10)) (s_iload_n (q := 1) (i := 1) rfl (by decide +kernel)) <|
  allq qX12_taken 10 (.inl (a_al 0 11)) (s_aload_n (q := 0) (i := 0) rfl (by decide +kernel)) <|
  allq qX12_taken 11 (.inl (a_get 11 4 14)) (gX12 (f0 := 4) (by decide) kw_1189 (by decide +kernel)) <|
  allq qX12_taken 14 (.inr (.inl (155, 3, 12))) (okV (y := yX12_match) kw_1444 kw_118 rfl rfl (by decide +kernel) kw_1443 kw_49 kw_1441) <|
  allq qX12_taken 17 (.inr (.inr 1)) (Or.inr (Or.inl ⟨rfl, rfl, by decide +kernel⟩)) <|
  allq qX12_taken 18 (.inl (a_il 1 19)) (s_iload_n (q := 1) (i := 1) rfl (by decide +kernel)) <|
  allq qX12_taken 19 (.inl (a_ic 1 20)) (s_iconst (n := 1) (v := 1) rfl (by decide +kernel)) <|
  allq qX12_taken 20 (.inl (o_iadd 21)) (s_iadd (by decide +kernel)) <|
  allq qX12_taken 21 (.inl (a_al 0 22)) (s_aload_n (q := 0) (i := 0) rfl (by decide +kernel)) <|
  allq qX12_taken 22 (.inl (a_get 11 25 25)) (gX12 (f0 := 25) (by decide) kw_1210 (by decide +kernel)) <|
  allq qX12_taken 25 (.inl (o_icmp_ge 39 28)) (s_icmp_ge (off := 14) (by decide +kernel) (by decide)) <|
  allq qX12_taken 28 (.inl (a_al 0 29)) (s_aload_n (q := 0) (i := 0) rfl (by decide +kernel)) <|
  allq qX12_taken 29 (.inl (a_il 1 30)) (s_iload_n (q := 1) (i := 1) rfl (by decide +kernel)) <|
  allq qX12_taken 30 (.inl (a_ic 1 31)) (s_iconst (n := 1) (v := 1) rfl (by decide +kernel)) <|
  allq qX12_taken 31 (.inl (o_iadd 32)) (s_iadd (by decide +kernel)) <|
  allq qX12_taken 32 (.inl (a_ic 2 33)) (s_iconst (n := 2) (v := 2) rfl (by decide +kernel)) <|
  allq qX12_taken 33 (.inr (.inl (155, 3, 12))) (okV (y := yX12_match) kw_1444 kw_118 rfl rfl (by decide +kernel) kw_1443 kw_49 kw_1441) <|
  allq qX12_taken 36 (.inl (a_go 40)) (s_goto (off := 4) (by decide +kernel) (by decide)) <|
  allq qX12_taken 39 (.inl (a_ic 0 40)) (s_iconst (n := 0) (v := 0) rfl (by decide +kernel)) <|
  allq qX12_taken 40 (.inl (a_is 2 41)) (s_istore_n (q := 2) (i := 2) rfl (by decide +kernel) (by decide)) <|
  allq qX12_taken 41 (.inl (a_al 0 42)) (s_aload_n (q := 0) (i := 0) rfl (by decide +kernel)) <|
  allq qX12_taken 42 (.inl (a_il 1 43)) (s_iload_n (q := 1) (i := 1) rfl (by decide +kernel)) <|
  allq qX12_taken 43 (.inl (a_ic 2 44)) (s_iconst (n := 2) (v := 2) rfl (by decide +kernel)) <|
  allq qX12_taken 44 (.inr (.inl (155, 3, 12))) (okV (y := yX12_match) kw_1444 kw_118 rfl rfl (by decide +kernel) kw_1443 kw_49 kw_1441) <|
  allq qX12_taken 47 (.inl (a_is 3 48)) (s_istore_n (q := 3) (i := 3) rfl (by decide +kernel) (by decide)) <|
  allq qX12_taken 48 (.inl (a_il 2 49)) (s_iload_n (q := 2) (i := 2) rfl (by decide +kernel)) <|
  allq qX12_taken 49 (.inl (a_il 3 50)) (s_iload_n (q := 3) (i := 3) rfl (by decide +kernel)) <|
  allq qX12_taken 50 (.inl (o_icmp_le 57 53)) (s_icmp_le (off := 7) (by decide +kernel) (by decide)) <|
  allq qX12_taken 53 (.inl (a_ic 0 54)) (s_iconst (n := 0) (v := 0) rfl (by decide +kernel)) <|
  allq qX12_taken 54 (.inl (a_go 58)) (s_goto (off := 4) (by decide +kernel) (by decide)) <|
  allq qX12_taken 57 (.inl (a_il 3 58)) (s_iload_n (q := 3) (i := 3) rfl (by decide +kernel)) <|
  allq qX12_taken 58 (.inr (.inr 1)) (Or.inr (Or.inl ⟨rfl, rfl, by decide +kernel⟩)) <|
  alln
theorem kX12_taken : ∀ q ∈ tX12_taken, qX12_taken q := kX12_taken_0
abbrev qX12_go : Nat × aI → Prop := OkQ RX12 "go" cX12_go 5 (none)
set_option maxRecDepth 20000 in
theorem kX12_go_0 : ∀ q ∈ tX12_go_0, qX12_go q :=
  allq qX12_go 0 (.inl (a_al 0 1)) (s_aload_n (q := 0) (i := 0) rfl (by decide +kernel)) <|
  allq qX12_go 1 (.inl (a_ic 0 2)) (s_iconst (n := 0) (v := 0) rfl (by decide +kernel)) <|
  allq qX12_go 2 (.inl (a_put 11 31 .int 5)) (pX12 (f0 := 31) (by decide) rfl rfl tOk kw_1216 (by decide +kernel)) <|
  allq qX12_go 5 (.inl (a_al 0 6)) (s_aload_n (q := 0) (i := 0) rfl (by decide +kernel)) <|
  allq qX12_go 6 (.inl (a_ic 0 7)) (s_iconst (n := 0) (v := 0) rfl (by decide +kernel)) <|
  allq qX12_go 7 (.inl (a_put 11 33 .int 10)) (pX12 (f0 := 33) (by decide) rfl rfl tOk kw_1218 (by decide +kernel)) <|
  allq qX12_go 10 (.inl (a_ic 0 11)) (s_iconst (n := 0) (v := 0) rfl (by decide +kernel)) <|
  allq qX12_go 11 (.inl (a_is 2 12)) (s_istore_n (q := 2) (i := 2) rfl (by decide +kernel) (by decide)) <|
  allq qX12_go 12 (.inl (a_il 1 13)) (s_iload_n (q := 1) (i := 1) rfl (by decide +kernel)) <|
  allq qX12_go 13 (.inl (a_is 3 14)) (s_istore_n (q := 3) (i := 3) rfl (by decide +kernel) (by decide)) <|
  allq qX12_go 14 (.inl (a_il 3 15)) (s_iload_n (q := 3) (i := 3) rfl (by decide +kernel)) <|
  allq qX12_go 15 (.inl (a_al 0 16)) (s_aload_n (q := 0) (i := 0) rfl (by decide +kernel)) <|
  allq qX12_go 16 (.inl (a_get 11 25 19)) (gX12 (f0 := 25) (by decide) kw_1210 (by decide +kernel)) <|
  allq qX12_go 19 (.inl (o_icmp_ge 124 22)) (s_icmp_ge (off := 105) (by decide +kernel) (by decide)) <|
  allq qX12_go 22 (.inl (a_al 0 23)) (s_aload_n (q := 0) (i := 0) rfl (by decide +kernel)) <|
  allq qX12_go 23 (.inl (a_il 3 24)) (s_iload_n (q := 3) (i := 3) rfl (by decide +kernel)) <|
  allq qX12_go 24 (.inr (.inl (156, 2, 12))) (okV (y := yX12_taken) kw_1440 kw_118 rfl rfl (by decide +kernel) kw_1439 kw_48 kw_1437) <|
  allq qX12_go 27 (.inl (a_is 4 29)) (s_istore (i := 4) (by decide +kernel) (by decide)) <|
  allq qX12_go 29 (.inl (a_il 4 31)) (s_iload (i := 4) (by decide +kernel)) <|
  allq qX12_go 31 (.inl (o_if_ne 68 34)) (s_if_ne (off := 37) (by decide +kernel) (by decide)) <|
  allq qX12_go 34 (.inl (a_al 0 35)) (s_aload_n (q := 0) (i := 0) rfl (by decide +kernel)) <|
  allq qX12_go 35 (.inl (a_get 11 32 38)) (gX12 (f0 := 32) (by decide) kw_1217 (by decide +kernel)) <|
  allq qX12_go 38 (.inl (a_al 0 39)) (s_aload_n (q := 0) (i := 0) rfl (by decide +kernel)) <|
  allq qX12_go 39 (.inl (a_get 11 33 42)) (gX12 (f0 := 33) (by decide) kw_1218 (by decide +kernel)) <|
  allq qX12_go 42 (.inl (a_al 0 43)) (s_aload_n (q := 0) (i := 0) rfl (by decide +kernel)) <|
  allq qX12_go 43 (.inl (a_get 11 24 46)) (gX12 (f0 := 24) (by decide) kw_1209 (by decide +kernel)) <|
  allq qX12_go 46 (.inl (a_il 3 47)) (s_iload_n (q := 3) (i := 3) rfl (by decide +kernel)) <|
  allq qX12_go 47 (.inl (a_iald 48)) (s_iald (by decide +kernel)) <|
  allq qX12_go 48 (.inl (a_iast 49)) (s_iast (by decide +kernel)) <|
  allq qX12_go 49 (.inl (a_al 0 50)) (s_aload_n (q := 0) (i := 0) rfl (by decide +kernel)) <|
  allq qX12_go 50 (.inl (a_dup 51)) (s_dup (by decide +kernel)) <|
  allq qX12_go 51 (.inl (a_get 11 33 54)) (gX12 (f0 := 33) (by decide) kw_1218 (by decide +kernel)) <|
  allq qX12_go 54 (.inl (a_ic 1 55)) (s_iconst (n := 1) (v := 1) rfl (by decide +kernel)) <|
  allq qX12_go 55 (.inl (o_iadd 56)) (s_iadd (by decide +kernel)) <|
  allq qX12_go 56 (.inl (a_put 11 33 .int 59)) (pX12 (f0 := 33) (by decide) rfl rfl tOk kw_1218 (by decide +kernel)) <|
  allq qX12_go 59 (.inl (a_inc 2 1 62)) (s_iinc (i := 2) (n := 1) (n2 := 1) rfl (by decide +kernel) (by decide)) <|
  allq qX12_go 62 (.inl (a_inc 3 1 65)) (s_iinc (i := 3) (n := 1) (n2 := 1) rfl (by decide +kernel) (by decide)) <|
  allq qX12_go 65 (.inl (a_go 14)) (s_goto (off := (-51)) (by decide +kernel) (by decide)) <|
  allq qX12_go 68 (.inl (a_al 0 69)) (s_aload_n (q := 0) (i := 0) rfl (by decide +kernel)) <|
  allq qX12_go 69 (.inl (a_get 11 28 72)) (gX12 (f0 := 28) (by decide) kw_1213 (by decide +kernel)) <|
  alln
set_option maxRecDepth 20000 in
theorem kX12_go_1 : ∀ q ∈ tX12_go_1, qX12_go q :=
  allq qX12_go 72 (.inl (a_al 0 73)) (s_aload_n (q := 0) (i := 0) rfl (by decide +kernel)) <|
  allq qX12_go 73 (.inl (a_get 11 31 76)) (gX12 (f0 := 31) (by decide) kw_1216 (by decide +kernel)) <|
  allq qX12_go 76 (.inl (a_il 2 77)) (s_iload_n (q := 2) (i := 2) rfl (by decide +kernel)) <|
  allq qX12_go 77 (.inl (a_iast 78)) (s_iast (by decide +kernel)) <|
  allq qX12_go 78 (.inl (a_al 0 79)) (s_aload_n (q := 0) (i := 0) rfl (by decide +kernel)) <|
  allq qX12_go 79 (.inl (a_get 11 29 82)) (gX12 (f0 := 29) (by decide) kw_1214 (by decide +kernel)) <|
  allq qX12_go 82 (.inl (a_al 0 83)) (s_aload_n (q := 0) (i := 0) rfl (by decide +kernel)) <|
  allq qX12_go 83 (.inl (a_get 11 31 86)) (gX12 (f0 := 31) (by decide) kw_1216 (by decide +kernel)) <|
  allq qX12_go 86 (.inl (a_il 4 88)) (s_iload (i := 4) (by decide +kernel)) <|
  allq qX12_go 88 (.inl (a_iast 89)) (s_iast (by decide +kernel)) <|
  allq qX12_go 89 (.inl (a_al 0 90)) (s_aload_n (q := 0) (i := 0) rfl (by decide +kernel)) <|
  allq qX12_go 90 (.inl (a_get 11 30 93)) (gX12 (f0 := 30) (by decide) kw_1215 (by decide +kernel)) <|
  allq qX12_go 93 (.inl (a_al 0 94)) (s_aload_n (q := 0) (i := 0) rfl (by decide +kernel)) <|
  allq qX12_go 94 (.inl (a_get 11 31 97)) (gX12 (f0 := 31) (by decide) kw_1216 (by decide +kernel)) <|
  allq qX12_go 97 (.inl (a_il 3 98)) (s_iload_n (q := 3) (i := 3) rfl (by decide +kernel)) <|
  allq qX12_go 98 (.inl (a_al 0 99)) (s_aload_n (q := 0) (i := 0) rfl (by decide +kernel)) <|
  allq qX12_go 99 (.inl (a_get 11 26 102)) (gX12 (f0 := 26) (by decide) kw_1211 (by decide +kernel)) <|
  allq qX12_go 102 (.inl (o_isub 103)) (s_isub (by decide +kernel)) <|
  allq qX12_go 103 (.inl (a_iast 104)) (s_iast (by decide +kernel)) <|
  allq qX12_go 104 (.inl (a_al 0 105)) (s_aload_n (q := 0) (i := 0) rfl (by decide +kernel)) <|
  allq qX12_go 105 (.inl (a_dup 106)) (s_dup (by decide +kernel)) <|
  allq qX12_go 106 (.inl (a_get 11 31 109)) (gX12 (f0 := 31) (by decide) kw_1216 (by decide +kernel)) <|
  allq qX12_go 109 (.inl (a_ic 1 110)) (s_iconst (n := 1) (v := 1) rfl (by decide +kernel)) <|
  allq qX12_go 110 (.inl (o_iadd 111)) (s_iadd (by decide +kernel)) <|
  allq qX12_go 111 (.inl (a_put 11 31 .int 114)) (pX12 (f0 := 31) (by decide) rfl rfl tOk kw_1216 (by decide +kernel)) <|
  allq qX12_go 114 (.inl (a_ic 0 115)) (s_iconst (n := 0) (v := 0) rfl (by decide +kernel)) <|
  allq qX12_go 115 (.inl (a_is 2 116)) (s_istore_n (q := 2) (i := 2) rfl (by decide +kernel) (by decide)) <|
  allq qX12_go 116 (.inl (a_il 3 117)) (s_iload_n (q := 3) (i := 3) rfl (by decide +kernel)) <|
  allq qX12_go 117 (.inl (a_il 4 119)) (s_iload (i := 4) (by decide +kernel)) <|
  allq qX12_go 119 (.inl (o_iadd 120)) (s_iadd (by decide +kernel)) <|
  allq qX12_go 120 (.inl (a_is 3 121)) (s_istore_n (q := 3) (i := 3) rfl (by decide +kernel) (by decide)) <|
  allq qX12_go 121 (.inl (a_go 14)) (s_goto (off := (-107)) (by decide +kernel) (by decide)) <|
  allq qX12_go 124 (.inr (.inr 0)) (Or.inl ⟨rfl, rfl, by decide +kernel⟩) <|
  alln
theorem kX12_go : ∀ q ∈ tX12_go, qX12_go q := alla kX12_go_0 kX12_go_1
abbrev qX12_log : Nat × aI → Prop := OkQ RX12 "log" cX12_log 2 (some .int)
set_option maxRecDepth 20000 in
theorem kX12_log_0 : ∀ q ∈ tX12_log_0, qX12_log q :=
  allq qX12_log 0 (.inl (a_ic 0 1)) (s_iconst (n := 0) (v := 0) rfl (by decide +kernel)) <|
  allq qX12_log 1 (.inl (a_is 1 2)) (s_istore_n (q := 1) (i := 1) rfl (by decide +kernel) (by decide)) <|
  allq qX12_log 2 (.inl (a_il 0 3)) (s_iload_n (q := 0) (i := 0) rfl (by decide +kernel)) <|
  allq qX12_log 3 (.inl (a_il 1 4)) (s_iload_n (q := 1) (i := 1) rfl (by decide +kernel)) <|
  allq qX12_log 4 (.inl (o_ishr 5)) (s_ishr (by decide +kernel)) <|
  allq qX12_log 5 (.inl (a_ic 1 6)) (s_iconst (n := 1) (v := 1) rfl (by decide +kernel)) <|
  allq qX12_log 6 (.inl (o_icmp_le 15 9)) (s_icmp_le (off := 9) (by decide +kernel) (by decide)) <|
  allq qX12_log 9 (.inl (a_inc 1 1 12)) (s_iinc (i := 1) (n := 1) (n2 := 1) rfl (by decide +kernel) (by decide)) <|
  allq qX12_log 12 (.inl (a_go 2)) (s_goto (off := (-10)) (by decide +kernel) (by decide)) <|
  allq qX12_log 15 (.inl (a_il 1 16)) (s_iload_n (q := 1) (i := 1) rfl (by decide +kernel)) <|
  allq qX12_log 16 (.inr (.inr 1)) (Or.inr (Or.inl ⟨rfl, rfl, by decide +kernel⟩)) <|
  alln
theorem kX12_log : ∀ q ∈ tX12_log, qX12_log q := kX12_log_0
abbrev qX12_literalBits : Nat × aI → Prop := OkQ RX12 "literalBits" cX12_literalBits 1 (some .int)
set_option maxRecDepth 20000 in
theorem kX12_literalBits_0 : ∀ q ∈ tX12_literalBits_0, qX12_literalBits q :=
  allq qX12_literalBits 0 (.inl (a_il 0 1)) (s_iload_n (q := 0) (i := 0) rfl (by decide +kernel)) <|
  allq qX12_literalBits 1 (.inl (a_ic 16 3)) (s_bipush (n := 16) (v := 16) rfl (by decide +kernel)) <|
  allq qX12_literalBits 3 (.inl (o_icmp_ge 10 6)) (s_icmp_ge (off := 7) (by decide +kernel) (by decide)) <|
  allq qX12_literalBits 6 (.inl (a_ic 0 7)) (s_iconst (n := 0) (v := 0) rfl (by decide +kernel)) <|
  allq qX12_literalBits 7 (.inl (a_go 54)) (s_goto (off := 47) (by decide +kernel) (by decide)) <|
  allq qX12_literalBits 10 (.inl (a_il 0 11)) (s_iload_n (q := 0) (i := 0) rfl (by decide +kernel)) <|
  allq qX12_literalBits 11 (.inl (a_ic 20 13)) (s_bipush (n := 20) (v := 20) rfl (by decide +kernel)) <|
  allq qX12_literalBits 13 (.inl (o_icmp_ge 20 16)) (s_icmp_ge (off := 7) (by decide +kernel) (by decide)) <|
  allq qX12_literalBits 16 (.inl (a_ic 1 17)) (s_iconst (n := 1) (v := 1) rfl (by decide +kernel)) <|
  allq qX12_literalBits 17 (.inl (a_go 54)) (s_goto (off := 37) (by decide +kernel) (by decide)) <|
  allq qX12_literalBits 20 (.inl (a_il 0 21)) (s_iload_n (q := 0) (i := 0) rfl (by decide +kernel)) <|
  allq qX12_literalBits 21 (.inl (a_ic 22 23)) (s_bipush (n := 22) (v := 22) rfl (by decide +kernel)) <|
  allq qX12_literalBits 23 (.inl (o_icmp_ge 30 26)) (s_icmp_ge (off := 7) (by decide +kernel) (by decide)) <|
  allq qX12_literalBits 26 (.inl (a_ic 2 27)) (s_iconst (n := 2) (v := 2) rfl (by decide +kernel)) <|
  allq qX12_literalBits 27 (.inl (a_go 54)) (s_goto (off := 27) (by decide +kernel) (by decide)) <|
  allq qX12_literalBits 30 (.inl (a_il 0 31)) (s_iload_n (q := 0) (i := 0) rfl (by decide +kernel)) <|
  allq qX12_literalBits 31 (.inl (a_ic 24 33)) (s_bipush (n := 24) (v := 24) rfl (by decide +kernel)) <|
  allq qX12_literalBits 33 (.inl (o_icmp_ge 40 36)) (s_icmp_ge (off := 7) (by decide +kernel) (by decide)) <|
  allq qX12_literalBits 36 (.inl (a_ic 3 37)) (s_iconst (n := 3) (v := 3) rfl (by decide +kernel)) <|
  allq qX12_literalBits 37 (.inl (a_go 54)) (s_goto (off := 17) (by decide +kernel) (by decide)) <|
  allq qX12_literalBits 40 (.inl (a_il 0 41)) (s_iload_n (q := 0) (i := 0) rfl (by decide +kernel)) <|
  allq qX12_literalBits 41 (.inl (a_ic 24 43)) (s_bipush (n := 24) (v := 24) rfl (by decide +kernel)) <|
  allq qX12_literalBits 43 (.inl (o_icmp_ne 50 46)) (s_icmp_ne (off := 7) (by decide +kernel) (by decide)) <|
  allq qX12_literalBits 46 (.inl (a_ic 4 47)) (s_iconst (n := 4) (v := 4) rfl (by decide +kernel)) <|
  allq qX12_literalBits 47 (.inl (a_go 54)) (s_goto (off := 7) (by decide +kernel) (by decide)) <|
  allq qX12_literalBits 50 (.inl (a_il 0 51)) (s_iload_n (q := 0) (i := 0) rfl (by decide +kernel)) <|
  allq qX12_literalBits 51 (.inl (a_ic 19 53)) (s_bipush (n := 19) (v := 19) rfl (by decide +kernel)) <|
  allq qX12_literalBits 53 (.inl (o_isub 54)) (s_isub (by decide +kernel)) <|
  allq qX12_literalBits 54 (.inr (.inr 1)) (Or.inr (Or.inl ⟨rfl, rfl, by decide +kernel⟩)) <|
  alln
theorem kX12_literalBits : ∀ q ∈ tX12_literalBits, qX12_literalBits q := kX12_literalBits_0
abbrev qX12_matchBits : Nat × aI → Prop := OkQ RX12 "matchBits" cX12_matchBits 1 (some .int)
set_option maxRecDepth 20000 in
theorem kX12_matchBits_0 : ∀ q ∈ tX12_matchBits_0, qX12_matchBits q :=
  allq qX12_matchBits 0 (.inl (a_il 0 1)) (s_iload_n (q := 0) (i := 0) rfl (by decide +kernel)) <|
  allq qX12_matchBits 1 (.inl (a_ic 32 3)) (s_bipush (n := 32) (v := 32) rfl (by decide +kernel)) <|
  allq qX12_matchBits 3 (.inl (o_icmp_ge 10 6)) (s_icmp_ge (off := 7) (by decide +kernel) (by decide)) <|
  allq qX12_matchBits 6 (.inl (a_ic 0 7)) (s_iconst (n := 0) (v := 0) rfl (by decide +kernel)) <|
  allq qX12_matchBits 7 (.inl (a_go 64)) (s_goto (off := 57) (by decide +kernel) (by decide)) <|
  allq qX12_matchBits 10 (.inl (a_il 0 11)) (s_iload_n (q := 0) (i := 0) rfl (by decide +kernel)) <|
  allq qX12_matchBits 11 (.inl (a_ic 36 13)) (s_bipush (n := 36) (v := 36) rfl (by decide +kernel)) <|
  allq qX12_matchBits 13 (.inl (o_icmp_ge 20 16)) (s_icmp_ge (off := 7) (by decide +kernel) (by decide)) <|
  allq qX12_matchBits 16 (.inl (a_ic 1 17)) (s_iconst (n := 1) (v := 1) rfl (by decide +kernel)) <|
  allq qX12_matchBits 17 (.inl (a_go 64)) (s_goto (off := 47) (by decide +kernel) (by decide)) <|
  allq qX12_matchBits 20 (.inl (a_il 0 21)) (s_iload_n (q := 0) (i := 0) rfl (by decide +kernel)) <|
  allq qX12_matchBits 21 (.inl (a_ic 38 23)) (s_bipush (n := 38) (v := 38) rfl (by decide +kernel)) <|
  allq qX12_matchBits 23 (.inl (o_icmp_ge 30 26)) (s_icmp_ge (off := 7) (by decide +kernel) (by decide)) <|
  allq qX12_matchBits 26 (.inl (a_ic 2 27)) (s_iconst (n := 2) (v := 2) rfl (by decide +kernel)) <|
  allq qX12_matchBits 27 (.inl (a_go 64)) (s_goto (off := 37) (by decide +kernel) (by decide)) <|
  allq qX12_matchBits 30 (.inl (a_il 0 31)) (s_iload_n (q := 0) (i := 0) rfl (by decide +kernel)) <|
  allq qX12_matchBits 31 (.inl (a_ic 40 33)) (s_bipush (n := 40) (v := 40) rfl (by decide +kernel)) <|
  allq qX12_matchBits 33 (.inl (o_icmp_ge 40 36)) (s_icmp_ge (off := 7) (by decide +kernel) (by decide)) <|
  allq qX12_matchBits 36 (.inl (a_ic 3 37)) (s_iconst (n := 3) (v := 3) rfl (by decide +kernel)) <|
  allq qX12_matchBits 37 (.inl (a_go 64)) (s_goto (off := 27) (by decide +kernel) (by decide)) <|
  allq qX12_matchBits 40 (.inl (a_il 0 41)) (s_iload_n (q := 0) (i := 0) rfl (by decide +kernel)) <|
  allq qX12_matchBits 41 (.inl (a_ic 42 43)) (s_bipush (n := 42) (v := 42) rfl (by decide +kernel)) <|
  allq qX12_matchBits 43 (.inl (o_icmp_ge 50 46)) (s_icmp_ge (off := 7) (by decide +kernel) (by decide)) <|
  allq qX12_matchBits 46 (.inl (a_ic 4 47)) (s_iconst (n := 4) (v := 4) rfl (by decide +kernel)) <|
  allq qX12_matchBits 47 (.inl (a_go 64)) (s_goto (off := 17) (by decide +kernel) (by decide)) <|
  allq qX12_matchBits 50 (.inl (a_il 0 51)) (s_iload_n (q := 0) (i := 0) rfl (by decide +kernel)) <|
  allq qX12_matchBits 51 (.inl (a_ic 42 53)) (s_bipush (n := 42) (v := 42) rfl (by decide +kernel)) <|
  allq qX12_matchBits 53 (.inl (o_icmp_ne 60 56)) (s_icmp_ne (off := 7) (by decide +kernel) (by decide)) <|
  allq qX12_matchBits 56 (.inl (a_ic 5 57)) (s_iconst (n := 5) (v := 5) rfl (by decide +kernel)) <|
  allq qX12_matchBits 57 (.inl (a_go 64)) (s_goto (off := 7) (by decide +kernel) (by decide)) <|
  allq qX12_matchBits 60 (.inl (a_il 0 61)) (s_iload_n (q := 0) (i := 0) rfl (by decide +kernel)) <|
  allq qX12_matchBits 61 (.inl (a_ic 36 63)) (s_bipush (n := 36) (v := 36) rfl (by decide +kernel)) <|
  allq qX12_matchBits 63 (.inl (o_isub 64)) (s_isub (by decide +kernel)) <|
  allq qX12_matchBits 64 (.inr (.inr 1)) (Or.inr (Or.inl ⟨rfl, rfl, by decide +kernel⟩)) <|
  alln
theorem kX12_matchBits : ∀ q ∈ tX12_matchBits, qX12_matchBits q := kX12_matchBits_0
abbrev qX12_tell : Nat × aI → Prop := OkQ RX12 "tell" cX12_tell 6 (none)
set_option maxRecDepth 20000 in
theorem kX12_tell_0 : ∀ q ∈ tX12_tell_0, qX12_tell q :=
  allq qX12_tell 0 (.inl (a_al 0 1)) (s_aload_n (q := 0) (i := 0) rfl (by decide +kernel)) <|
  allq qX12_tell 1 (.inl (a_get 11 34 4)) (gX12 (f0 := 34) (by decide) kw_1219 (by decide +kernel)) <|
  allq qX12_tell 4 (.inl (a_ic 8001 7)) (s_sipush (n := 8001) (v := 8001) rfl (by decide +kernel)) <|
  allq qX12_tell 7 (.inl (a_il 1 8)) (s_iload_n (q := 1) (i := 1) rfl (by decide +kernel)) <|
  allq qX12_tell 8 (.inl (o_imul 9)) (s_imul (by decide +kernel)) <|
  allq qX12_tell 9 (.inl (a_il 2 10)) (s_iload_n (q := 2) (i := 2) rfl (by decide +kernel)) <|
  allq qX12_tell 10 (.inl (o_iadd 11)) (s_iadd (by decide +kernel)) <|
  allq qX12_tell 11 (.inl (a_il 3 12)) (s_iload_n (q := 3) (i := 3) rfl (by decide +kernel)) <|
  allq qX12_tell 12 (.inl (a_iast 13)) (s_iast (by decide +kernel)) <|
  allq qX12_tell 13 (.inl (a_al 0 14)) (s_aload_n (q := 0) (i := 0) rfl (by decide +kernel)) <|
  allq qX12_tell 14 (.inl (a_get 11 35 17)) (gX12 (f0 := 35) (by decide) kw_1220 (by decide +kernel)) <|
  allq qX12_tell 17 (.inl (a_ic 8001 20)) (s_sipush (n := 8001) (v := 8001) rfl (by decide +kernel)) <|
  allq qX12_tell 20 (.inl (a_il 1 21)) (s_iload_n (q := 1) (i := 1) rfl (by decide +kernel)) <|
  allq qX12_tell 21 (.inl (o_imul 22)) (s_imul (by decide +kernel)) <|
  allq qX12_tell 22 (.inl (a_il 2 23)) (s_iload_n (q := 2) (i := 2) rfl (by decide +kernel)) <|
  allq qX12_tell 23 (.inl (o_iadd 24)) (s_iadd (by decide +kernel)) <|
  allq qX12_tell 24 (.inl (a_il 4 26)) (s_iload (i := 4) (by decide +kernel)) <|
  allq qX12_tell 26 (.inl (a_iast 27)) (s_iast (by decide +kernel)) <|
  allq qX12_tell 27 (.inl (a_al 0 28)) (s_aload_n (q := 0) (i := 0) rfl (by decide +kernel)) <|
  allq qX12_tell 28 (.inl (a_get 11 36 31)) (gX12 (f0 := 36) (by decide) kw_1221 (by decide +kernel)) <|
  allq qX12_tell 31 (.inl (a_ic 8001 34)) (s_sipush (n := 8001) (v := 8001) rfl (by decide +kernel)) <|
  allq qX12_tell 34 (.inl (a_il 1 35)) (s_iload_n (q := 1) (i := 1) rfl (by decide +kernel)) <|
  allq qX12_tell 35 (.inl (o_imul 36)) (s_imul (by decide +kernel)) <|
  allq qX12_tell 36 (.inl (a_il 2 37)) (s_iload_n (q := 2) (i := 2) rfl (by decide +kernel)) <|
  allq qX12_tell 37 (.inl (o_iadd 38)) (s_iadd (by decide +kernel)) <|
  allq qX12_tell 38 (.inl (a_il 5 40)) (s_iload (i := 5) (by decide +kernel)) <|
  allq qX12_tell 40 (.inl (a_iast 41)) (s_iast (by decide +kernel)) <|
  allq qX12_tell 41 (.inr (.inr 0)) (Or.inl ⟨rfl, rfl, by decide +kernel⟩) <|
  alln
theorem kX12_tell : ∀ q ∈ tX12_tell, qX12_tell q := kX12_tell_0
abbrev qX12_tellAll : Nat × aI → Prop := OkQ RX12 "tellAll" cX12_tellAll 5 (none)
set_option maxRecDepth 20000 in
theorem kX12_tellAll_0 : ∀ q ∈ tX12_tellAll_0, qX12_tellAll q :=
  allq qX12_tellAll 0 (.inl (a_ic 0 1)) (s_iconst (n := 0) (v := 0) rfl (by decide +kernel)) <|
  allq qX12_tellAll 1 (.inl (a_is 1 2)) (s_istore_n (q := 1) (i := 1) rfl (by decide +kernel) (by decide)) <|
  allq qX12_tellAll 2 (.inl (a_il 1 3)) (s_iload_n (q := 1) (i := 1) rfl (by decide +kernel)) <|
  allq qX12_tellAll 3 (.inl (a_al 0 4)) (s_aload_n (q := 0) (i := 0) rfl (by decide +kernel)) <|
  allq qX12_tellAll 4 (.inl (a_get 11 31 7)) (gX12 (f0 := 31) (by decide) kw_1216 (by decide +kernel)) <|
  allq qX12_tellAll 7 (.inl (o_icmp_ge 172 10)) (s_icmp_ge (off := 165) (by decide +kernel) (by decide)) <|
  allq qX12_tellAll 10 (.inl (a_ic 0 11)) (s_iconst (n := 0) (v := 0) rfl (by decide +kernel)) <|
  allq qX12_tellAll 11 (.inl (a_is 2 12)) (s_istore_n (q := 2) (i := 2) rfl (by decide +kernel) (by decide)) <|
  allq qX12_tellAll 12 (.inl (a_ic 0 13)) (s_iconst (n := 0) (v := 0) rfl (by decide +kernel)) <|
  allq qX12_tellAll 13 (.inl (a_is 3 14)) (s_istore_n (q := 3) (i := 3) rfl (by decide +kernel) (by decide)) <|
  allq qX12_tellAll 14 (.inl (a_il 3 15)) (s_iload_n (q := 3) (i := 3) rfl (by decide +kernel)) <|
  allq qX12_tellAll 15 (.inl (a_ic 1 16)) (s_iconst (n := 1) (v := 1) rfl (by decide +kernel)) <|
  allq qX12_tellAll 16 (.inl (a_il 2 17)) (s_iload_n (q := 2) (i := 2) rfl (by decide +kernel)) <|
  allq qX12_tellAll 17 (.inr (.inl (159, 1, 0))) (okS (y := yX12_literalBits) kw_1573 kw_118 rfl (by decide +kernel) kw_1572 (Or.inl kw_1571)) <|
  allq qX12_tellAll 20 (.inl (o_ishl 21)) (s_ishl (by decide +kernel)) <|
  allq qX12_tellAll 21 (.inl (o_iadd 22)) (s_iadd (by decide +kernel)) <|
  allq qX12_tellAll 22 (.inl (a_al 0 23)) (s_aload_n (q := 0) (i := 0) rfl (by decide +kernel)) <|
  allq qX12_tellAll 23 (.inl (a_get 11 28 26)) (gX12 (f0 := 28) (by decide) kw_1213 (by decide +kernel)) <|
  allq qX12_tellAll 26 (.inl (a_il 1 27)) (s_iload_n (q := 1) (i := 1) rfl (by decide +kernel)) <|
  allq qX12_tellAll 27 (.inl (a_iald 28)) (s_iald (by decide +kernel)) <|
  allq qX12_tellAll 28 (.inl (o_icmp_gt 46 31)) (s_icmp_gt (off := 18) (by decide +kernel) (by decide)) <|
  allq qX12_tellAll 31 (.inl (a_il 3 32)) (s_iload_n (q := 3) (i := 3) rfl (by decide +kernel)) <|
  allq qX12_tellAll 32 (.inl (a_ic 1 33)) (s_iconst (n := 1) (v := 1) rfl (by decide +kernel)) <|
  allq qX12_tellAll 33 (.inl (a_il 2 34)) (s_iload_n (q := 2) (i := 2) rfl (by decide +kernel)) <|
  allq qX12_tellAll 34 (.inr (.inl (159, 1, 0))) (okS (y := yX12_literalBits) kw_1573 kw_118 rfl (by decide +kernel) kw_1572 (Or.inl kw_1571)) <|
  allq qX12_tellAll 37 (.inl (o_ishl 38)) (s_ishl (by decide +kernel)) <|
  allq qX12_tellAll 38 (.inl (o_iadd 39)) (s_iadd (by decide +kernel)) <|
  allq qX12_tellAll 39 (.inl (a_is 3 40)) (s_istore_n (q := 3) (i := 3) rfl (by decide +kernel) (by decide)) <|
  allq qX12_tellAll 40 (.inl (a_inc 2 1 43)) (s_iinc (i := 2) (n := 1) (n2 := 1) rfl (by decide +kernel) (by decide)) <|
  allq qX12_tellAll 43 (.inl (a_go 14)) (s_goto (off := (-29)) (by decide +kernel) (by decide)) <|
  allq qX12_tellAll 46 (.inl (a_al 0 47)) (s_aload_n (q := 0) (i := 0) rfl (by decide +kernel)) <|
  allq qX12_tellAll 47 (.inl (a_ic 0 48)) (s_iconst (n := 0) (v := 0) rfl (by decide +kernel)) <|
  allq qX12_tellAll 48 (.inl (a_il 1 49)) (s_iload_n (q := 1) (i := 1) rfl (by decide +kernel)) <|
  allq qX12_tellAll 49 (.inl (a_il 2 50)) (s_iload_n (q := 2) (i := 2) rfl (by decide +kernel)) <|
  allq qX12_tellAll 50 (.inl (a_il 2 51)) (s_iload_n (q := 2) (i := 2) rfl (by decide +kernel)) <|
  allq qX12_tellAll 51 (.inr (.inl (159, 1, 0))) (okS (y := yX12_literalBits) kw_1573 kw_118 rfl (by decide +kernel) kw_1572 (Or.inl kw_1571)) <|
  allq qX12_tellAll 54 (.inl (a_al 0 55)) (s_aload_n (q := 0) (i := 0) rfl (by decide +kernel)) <|
  allq qX12_tellAll 55 (.inl (a_get 11 28 58)) (gX12 (f0 := 28) (by decide) kw_1213 (by decide +kernel)) <|
  allq qX12_tellAll 58 (.inl (a_il 1 59)) (s_iload_n (q := 1) (i := 1) rfl (by decide +kernel)) <|
  allq qX12_tellAll 59 (.inl (a_iald 60)) (s_iald (by decide +kernel)) <|
  alln
set_option maxRecDepth 20000 in
theorem kX12_tellAll_1 : ∀ q ∈ tX12_tellAll_1, qX12_tellAll q :=
  allq qX12_tellAll 60 (.inl (a_il 3 61)) (s_iload_n (q := 3) (i := 3) rfl (by decide +kernel)) <|
  allq qX12_tellAll 61 (.inl (o_isub 62)) (s_isub (by decide +kernel)) <|
  allq qX12_tellAll 62 (.inr (.inl (161, 6, 12))) (okV (y := yX12_tell) kw_1577 kw_118 rfl rfl (by decide +kernel) kw_1576 kw_78 kw_1574) <|
  allq qX12_tellAll 65 (.inl (a_ic 0 66)) (s_iconst (n := 0) (v := 0) rfl (by decide +kernel)) <|
  allq qX12_tellAll 66 (.inl (a_is 2 67)) (s_istore_n (q := 2) (i := 2) rfl (by decide +kernel) (by decide)) <|
  allq qX12_tellAll 67 (.inl (a_ic 3 68)) (s_iconst (n := 3) (v := 3) rfl (by decide +kernel)) <|
  allq qX12_tellAll 68 (.inl (a_is 3 69)) (s_istore_n (q := 3) (i := 3) rfl (by decide +kernel) (by decide)) <|
  allq qX12_tellAll 69 (.inl (a_il 3 70)) (s_iload_n (q := 3) (i := 3) rfl (by decide +kernel)) <|
  allq qX12_tellAll 70 (.inl (a_ic 1 71)) (s_iconst (n := 1) (v := 1) rfl (by decide +kernel)) <|
  allq qX12_tellAll 71 (.inl (a_il 2 72)) (s_iload_n (q := 2) (i := 2) rfl (by decide +kernel)) <|
  allq qX12_tellAll 72 (.inr (.inl (160, 1, 0))) (okS (y := yX12_matchBits) kw_1580 kw_118 rfl (by decide +kernel) kw_1579 (Or.inl kw_1578)) <|
  allq qX12_tellAll 75 (.inl (o_ishl 76)) (s_ishl (by decide +kernel)) <|
  allq qX12_tellAll 76 (.inl (o_iadd 77)) (s_iadd (by decide +kernel)) <|
  allq qX12_tellAll 77 (.inl (a_al 0 78)) (s_aload_n (q := 0) (i := 0) rfl (by decide +kernel)) <|
  allq qX12_tellAll 78 (.inl (a_get 11 29 81)) (gX12 (f0 := 29) (by decide) kw_1214 (by decide +kernel)) <|
  allq qX12_tellAll 81 (.inl (a_il 1 82)) (s_iload_n (q := 1) (i := 1) rfl (by decide +kernel)) <|
  allq qX12_tellAll 82 (.inl (a_iald 83)) (s_iald (by decide +kernel)) <|
  allq qX12_tellAll 83 (.inl (o_icmp_gt 101 86)) (s_icmp_gt (off := 18) (by decide +kernel) (by decide)) <|
  allq qX12_tellAll 86 (.inl (a_il 3 87)) (s_iload_n (q := 3) (i := 3) rfl (by decide +kernel)) <|
  allq qX12_tellAll 87 (.inl (a_ic 1 88)) (s_iconst (n := 1) (v := 1) rfl (by decide +kernel)) <|
  allq qX12_tellAll 88 (.inl (a_il 2 89)) (s_iload_n (q := 2) (i := 2) rfl (by decide +kernel)) <|
  allq qX12_tellAll 89 (.inr (.inl (160, 1, 0))) (okS (y := yX12_matchBits) kw_1580 kw_118 rfl (by decide +kernel) kw_1579 (Or.inl kw_1578)) <|
  allq qX12_tellAll 92 (.inl (o_ishl 93)) (s_ishl (by decide +kernel)) <|
  allq qX12_tellAll 93 (.inl (o_iadd 94)) (s_iadd (by decide +kernel)) <|
  allq qX12_tellAll 94 (.inl (a_is 3 95)) (s_istore_n (q := 3) (i := 3) rfl (by decide +kernel) (by decide)) <|
  allq qX12_tellAll 95 (.inl (a_inc 2 1 98)) (s_iinc (i := 2) (n := 1) (n2 := 1) rfl (by decide +kernel) (by decide)) <|
  allq qX12_tellAll 98 (.inl (a_go 69)) (s_goto (off := (-29)) (by decide +kernel) (by decide)) <|
  allq qX12_tellAll 101 (.inl (a_al 0 102)) (s_aload_n (q := 0) (i := 0) rfl (by decide +kernel)) <|
  allq qX12_tellAll 102 (.inl (a_ic 2 103)) (s_iconst (n := 2) (v := 2) rfl (by decide +kernel)) <|
  allq qX12_tellAll 103 (.inl (a_il 1 104)) (s_iload_n (q := 1) (i := 1) rfl (by decide +kernel)) <|
  allq qX12_tellAll 104 (.inl (a_il 2 105)) (s_iload_n (q := 2) (i := 2) rfl (by decide +kernel)) <|
  allq qX12_tellAll 105 (.inl (a_il 2 106)) (s_iload_n (q := 2) (i := 2) rfl (by decide +kernel)) <|
  allq qX12_tellAll 106 (.inr (.inl (160, 1, 0))) (okS (y := yX12_matchBits) kw_1580 kw_118 rfl (by decide +kernel) kw_1579 (Or.inl kw_1578)) <|
  allq qX12_tellAll 109 (.inl (a_al 0 110)) (s_aload_n (q := 0) (i := 0) rfl (by decide +kernel)) <|
  allq qX12_tellAll 110 (.inl (a_get 11 29 113)) (gX12 (f0 := 29) (by decide) kw_1214 (by decide +kernel)) <|
  allq qX12_tellAll 113 (.inl (a_il 1 114)) (s_iload_n (q := 1) (i := 1) rfl (by decide +kernel)) <|
  allq qX12_tellAll 114 (.inl (a_iald 115)) (s_iald (by decide +kernel)) <|
  allq qX12_tellAll 115 (.inl (a_il 3 116)) (s_iload_n (q := 3) (i := 3) rfl (by decide +kernel)) <|
  allq qX12_tellAll 116 (.inl (o_isub 117)) (s_isub (by decide +kernel)) <|
  allq qX12_tellAll 117 (.inr (.inl (161, 6, 12))) (okV (y := yX12_tell) kw_1577 kw_118 rfl rfl (by decide +kernel) kw_1576 kw_78 kw_1574) <|
  alln
set_option maxRecDepth 20000 in
theorem kX12_tellAll_2 : ∀ q ∈ tX12_tellAll_2, qX12_tellAll q :=
  allq qX12_tellAll 120 (.inl (a_al 0 121)) (s_aload_n (q := 0) (i := 0) rfl (by decide +kernel)) <|
  allq qX12_tellAll 121 (.inl (a_al 0 122)) (s_aload_n (q := 0) (i := 0) rfl (by decide +kernel)) <|
  allq qX12_tellAll 122 (.inl (a_get 11 30 125)) (gX12 (f0 := 30) (by decide) kw_1215 (by decide +kernel)) <|
  allq qX12_tellAll 125 (.inl (a_il 1 126)) (s_iload_n (q := 1) (i := 1) rfl (by decide +kernel)) <|
  allq qX12_tellAll 126 (.inl (a_iald 127)) (s_iald (by decide +kernel)) <|
  allq qX12_tellAll 127 (.inl (a_al 0 128)) (s_aload_n (q := 0) (i := 0) rfl (by decide +kernel)) <|
  allq qX12_tellAll 128 (.inl (a_get 11 28 131)) (gX12 (f0 := 28) (by decide) kw_1213 (by decide +kernel)) <|
  allq qX12_tellAll 131 (.inl (a_il 1 132)) (s_iload_n (q := 1) (i := 1) rfl (by decide +kernel)) <|
  allq qX12_tellAll 132 (.inl (a_iald 133)) (s_iald (by decide +kernel)) <|
  allq qX12_tellAll 133 (.inl (o_if_ne 140 136)) (s_if_ne (off := 7) (by decide +kernel) (by decide)) <|
  allq qX12_tellAll 136 (.inl (a_ic 1 137)) (s_iconst (n := 1) (v := 1) rfl (by decide +kernel)) <|
  allq qX12_tellAll 137 (.inl (a_go 141)) (s_goto (off := 4) (by decide +kernel) (by decide)) <|
  allq qX12_tellAll 140 (.inl (a_ic 0 141)) (s_iconst (n := 0) (v := 0) rfl (by decide +kernel)) <|
  allq qX12_tellAll 141 (.inr (.inl (163, 3, 12))) (okV (y := yX12_number) kw_1584 kw_118 rfl rfl (by decide +kernel) kw_1583 kw_79 kw_1581) <|
  allq qX12_tellAll 144 (.inl (a_is 4 146)) (s_istore (i := 4) (by decide +kernel) (by decide)) <|
  allq qX12_tellAll 146 (.inl (a_il 4 148)) (s_iload (i := 4) (by decide +kernel)) <|
  allq qX12_tellAll 148 (.inr (.inl (158, 1, 0))) (okS (y := yX12_log) kw_1530 kw_118 rfl (by decide +kernel) kw_1529 (Or.inl kw_1528)) <|
  allq qX12_tellAll 151 (.inl (a_is 2 152)) (s_istore_n (q := 2) (i := 2) rfl (by decide +kernel) (by decide)) <|
  allq qX12_tellAll 152 (.inl (a_al 0 153)) (s_aload_n (q := 0) (i := 0) rfl (by decide +kernel)) <|
  allq qX12_tellAll 153 (.inl (a_ic 1 154)) (s_iconst (n := 1) (v := 1) rfl (by decide +kernel)) <|
  allq qX12_tellAll 154 (.inl (a_il 1 155)) (s_iload_n (q := 1) (i := 1) rfl (by decide +kernel)) <|
  allq qX12_tellAll 155 (.inl (a_il 2 156)) (s_iload_n (q := 2) (i := 2) rfl (by decide +kernel)) <|
  allq qX12_tellAll 156 (.inl (a_il 2 157)) (s_iload_n (q := 2) (i := 2) rfl (by decide +kernel)) <|
  allq qX12_tellAll 157 (.inl (a_il 4 159)) (s_iload (i := 4) (by decide +kernel)) <|
  allq qX12_tellAll 159 (.inl (a_ic 1 160)) (s_iconst (n := 1) (v := 1) rfl (by decide +kernel)) <|
  allq qX12_tellAll 160 (.inl (a_il 2 161)) (s_iload_n (q := 2) (i := 2) rfl (by decide +kernel)) <|
  allq qX12_tellAll 161 (.inl (o_ishl 162)) (s_ishl (by decide +kernel)) <|
  allq qX12_tellAll 162 (.inl (o_isub 163)) (s_isub (by decide +kernel)) <|
  allq qX12_tellAll 163 (.inr (.inl (161, 6, 12))) (okV (y := yX12_tell) kw_1577 kw_118 rfl rfl (by decide +kernel) kw_1576 kw_78 kw_1574) <|
  allq qX12_tellAll 166 (.inl (a_inc 1 1 169)) (s_iinc (i := 1) (n := 1) (n2 := 1) rfl (by decide +kernel) (by decide)) <|
  allq qX12_tellAll 169 (.inl (a_go 2)) (s_goto (off := (-167)) (by decide +kernel) (by decide)) <|
  allq qX12_tellAll 172 (.inr (.inr 0)) (Or.inl ⟨rfl, rfl, by decide +kernel⟩) <|
  alln
theorem kX12_tellAll : ∀ q ∈ tX12_tellAll, qX12_tellAll q := alla kX12_tellAll_0 (alla kX12_tellAll_1 kX12_tellAll_2)
abbrev qX12_number : Nat × aI → Prop := OkQ RX12 "number" cX12_number 6 (some .int)
set_option maxRecDepth 20000 in
theorem kX12_number_0 : ∀ q ∈ tX12_number_0, qX12_number q :=
  allq qX12_number 0 (.inl (a_il 1 1)) (s_iload_n (q := 1) (i := 1) rfl (by decide +kernel)) <|
  allq qX12_number 1 (.inl (a_ic 3 2)) (s_iconst (n := 3) (v := 3) rfl (by decide +kernel)) <|
  allq qX12_number 2 (.inl (o_iadd 3)) (s_iadd (by decide +kernel)) <|
  allq qX12_number 3 (.inl (a_is 3 4)) (s_istore_n (q := 3) (i := 3) rfl (by decide +kernel) (by decide)) <|
  allq qX12_number 4 (.inl (a_ic 3 5)) (s_iconst (n := 3) (v := 3) rfl (by decide +kernel)) <|
  allq qX12_number 5 (.inl (a_is 4 7)) (s_istore (i := 4) (by decide +kernel) (by decide)) <|
  allq qX12_number 7 (.inl (a_il 4 9)) (s_iload (i := 4) (by decide +kernel)) <|
  allq qX12_number 9 (.inl (o_if_le 61 12)) (s_if_le (off := 52) (by decide +kernel) (by decide)) <|
  allq qX12_number 12 (.inl (a_il 4 14)) (s_iload (i := 4) (by decide +kernel)) <|
  allq qX12_number 14 (.inl (a_il 2 15)) (s_iload_n (q := 2) (i := 2) rfl (by decide +kernel)) <|
  allq qX12_number 15 (.inl (o_iadd 16)) (s_iadd (by decide +kernel)) <|
  allq qX12_number 16 (.inl (a_is 5 18)) (s_istore (i := 5) (by decide +kernel) (by decide)) <|
  allq qX12_number 18 (.inl (a_il 5 20)) (s_iload (i := 5) (by decide +kernel)) <|
  allq qX12_number 20 (.inl (a_ic 4 21)) (s_iconst (n := 4) (v := 4) rfl (by decide +kernel)) <|
  allq qX12_number 21 (.inl (o_icmp_ne 35 24)) (s_icmp_ne (off := 14) (by decide +kernel) (by decide)) <|
  allq qX12_number 24 (.inl (a_al 0 25)) (s_aload_n (q := 0) (i := 0) rfl (by decide +kernel)) <|
  allq qX12_number 25 (.inl (a_get 11 18 28)) (gX12 (f0 := 18) (by decide) kw_1203 (by decide +kernel)) <|
  allq qX12_number 28 (.inl (a_ic 0 29)) (s_iconst (n := 0) (v := 0) rfl (by decide +kernel)) <|
  allq qX12_number 29 (.inl (a_iald 30)) (s_iald (by decide +kernel)) <|
  allq qX12_number 30 (.inl (a_ic 1 31)) (s_iconst (n := 1) (v := 1) rfl (by decide +kernel)) <|
  allq qX12_number 31 (.inl (o_isub 32)) (s_isub (by decide +kernel)) <|
  allq qX12_number 32 (.inl (a_go 44)) (s_goto (off := 12) (by decide +kernel) (by decide)) <|
  allq qX12_number 35 (.inl (a_al 0 36)) (s_aload_n (q := 0) (i := 0) rfl (by decide +kernel)) <|
  allq qX12_number 36 (.inl (a_get 11 18 39)) (gX12 (f0 := 18) (by decide) kw_1203 (by decide +kernel)) <|
  allq qX12_number 39 (.inl (a_il 5 41)) (s_iload (i := 5) (by decide +kernel)) <|
  allq qX12_number 41 (.inl (a_ic 1 42)) (s_iconst (n := 1) (v := 1) rfl (by decide +kernel)) <|
  allq qX12_number 42 (.inl (o_isub 43)) (s_isub (by decide +kernel)) <|
  allq qX12_number 43 (.inl (a_iald 44)) (s_iald (by decide +kernel)) <|
  allq qX12_number 44 (.inl (a_il 1 45)) (s_iload_n (q := 1) (i := 1) rfl (by decide +kernel)) <|
  allq qX12_number 45 (.inl (o_icmp_ne 53 48)) (s_icmp_ne (off := 8) (by decide +kernel) (by decide)) <|
  allq qX12_number 48 (.inl (a_il 4 50)) (s_iload (i := 4) (by decide +kernel)) <|
  allq qX12_number 50 (.inl (a_go 54)) (s_goto (off := 4) (by decide +kernel) (by decide)) <|
  allq qX12_number 53 (.inl (a_il 3 54)) (s_iload_n (q := 3) (i := 3) rfl (by decide +kernel)) <|
  allq qX12_number 54 (.inl (a_is 3 55)) (s_istore_n (q := 3) (i := 3) rfl (by decide +kernel) (by decide)) <|
  allq qX12_number 55 (.inl (a_inc 4 (-1) 58)) (s_iinc (i := 4) (n := (-1)) (n2 := (-1)) rfl (by decide +kernel) (by decide)) <|
  allq qX12_number 58 (.inl (a_go 7)) (s_goto (off := (-51)) (by decide +kernel) (by decide)) <|
  allq qX12_number 61 (.inl (a_il 3 62)) (s_iload_n (q := 3) (i := 3) rfl (by decide +kernel)) <|
  allq qX12_number 62 (.inl (a_ic 3 63)) (s_iconst (n := 3) (v := 3) rfl (by decide +kernel)) <|
  allq qX12_number 63 (.inl (o_icmp_le 70 66)) (s_icmp_le (off := 7) (by decide +kernel) (by decide)) <|
  allq qX12_number 66 (.inl (a_ic 5 67)) (s_iconst (n := 5) (v := 5) rfl (by decide +kernel)) <|
  alln
set_option maxRecDepth 20000 in
theorem kX12_number_1 : ∀ q ∈ tX12_number_1, qX12_number q :=
  allq qX12_number 67 (.inl (a_go 73)) (s_goto (off := 6) (by decide +kernel) (by decide)) <|
  allq qX12_number 70 (.inl (a_il 3 71)) (s_iload_n (q := 3) (i := 3) rfl (by decide +kernel)) <|
  allq qX12_number 71 (.inl (a_il 2 72)) (s_iload_n (q := 2) (i := 2) rfl (by decide +kernel)) <|
  allq qX12_number 72 (.inl (o_iadd 73)) (s_iadd (by decide +kernel)) <|
  allq qX12_number 73 (.inl (a_is 4 75)) (s_istore (i := 4) (by decide +kernel) (by decide)) <|
  allq qX12_number 75 (.inl (a_il 4 77)) (s_iload (i := 4) (by decide +kernel)) <|
  allq qX12_number 77 (.inl (a_ic 2 78)) (s_iconst (n := 2) (v := 2) rfl (by decide +kernel)) <|
  allq qX12_number 78 (.inl (o_icmp_le 93 81)) (s_icmp_le (off := 15) (by decide +kernel) (by decide)) <|
  allq qX12_number 81 (.inl (a_al 0 82)) (s_aload_n (q := 0) (i := 0) rfl (by decide +kernel)) <|
  allq qX12_number 82 (.inl (a_get 11 18 85)) (gX12 (f0 := 18) (by decide) kw_1203 (by decide +kernel)) <|
  allq qX12_number 85 (.inl (a_ic 2 86)) (s_iconst (n := 2) (v := 2) rfl (by decide +kernel)) <|
  allq qX12_number 86 (.inl (a_al 0 87)) (s_aload_n (q := 0) (i := 0) rfl (by decide +kernel)) <|
  allq qX12_number 87 (.inl (a_get 11 18 90)) (gX12 (f0 := 18) (by decide) kw_1203 (by decide +kernel)) <|
  allq qX12_number 90 (.inl (a_ic 1 91)) (s_iconst (n := 1) (v := 1) rfl (by decide +kernel)) <|
  allq qX12_number 91 (.inl (a_iald 92)) (s_iald (by decide +kernel)) <|
  allq qX12_number 92 (.inl (a_iast 93)) (s_iast (by decide +kernel)) <|
  allq qX12_number 93 (.inl (a_il 4 95)) (s_iload (i := 4) (by decide +kernel)) <|
  allq qX12_number 95 (.inl (a_ic 1 96)) (s_iconst (n := 1) (v := 1) rfl (by decide +kernel)) <|
  allq qX12_number 96 (.inl (o_icmp_le 111 99)) (s_icmp_le (off := 15) (by decide +kernel) (by decide)) <|
  allq qX12_number 99 (.inl (a_al 0 100)) (s_aload_n (q := 0) (i := 0) rfl (by decide +kernel)) <|
  allq qX12_number 100 (.inl (a_get 11 18 103)) (gX12 (f0 := 18) (by decide) kw_1203 (by decide +kernel)) <|
  allq qX12_number 103 (.inl (a_ic 1 104)) (s_iconst (n := 1) (v := 1) rfl (by decide +kernel)) <|
  allq qX12_number 104 (.inl (a_al 0 105)) (s_aload_n (q := 0) (i := 0) rfl (by decide +kernel)) <|
  allq qX12_number 105 (.inl (a_get 11 18 108)) (gX12 (f0 := 18) (by decide) kw_1203 (by decide +kernel)) <|
  allq qX12_number 108 (.inl (a_ic 0 109)) (s_iconst (n := 0) (v := 0) rfl (by decide +kernel)) <|
  allq qX12_number 109 (.inl (a_iald 110)) (s_iald (by decide +kernel)) <|
  allq qX12_number 110 (.inl (a_iast 111)) (s_iast (by decide +kernel)) <|
  allq qX12_number 111 (.inl (a_al 0 112)) (s_aload_n (q := 0) (i := 0) rfl (by decide +kernel)) <|
  allq qX12_number 112 (.inl (a_get 11 18 115)) (gX12 (f0 := 18) (by decide) kw_1203 (by decide +kernel)) <|
  allq qX12_number 115 (.inl (a_ic 0 116)) (s_iconst (n := 0) (v := 0) rfl (by decide +kernel)) <|
  allq qX12_number 116 (.inl (a_il 1 117)) (s_iload_n (q := 1) (i := 1) rfl (by decide +kernel)) <|
  allq qX12_number 117 (.inl (a_iast 118)) (s_iast (by decide +kernel)) <|
  allq qX12_number 118 (.inl (a_il 3 119)) (s_iload_n (q := 3) (i := 3) rfl (by decide +kernel)) <|
  allq qX12_number 119 (.inr (.inr 1)) (Or.inr (Or.inl ⟨rfl, rfl, by decide +kernel⟩)) <|
  alln
theorem kX12_number : ∀ q ∈ tX12_number, qX12_number q := alla kX12_number_0 kX12_number_1
abbrev qX12_mass : Nat × aI → Prop := OkQ RX12 "mass" cX12_mass 1 (some .int)
set_option maxRecDepth 20000 in
theorem kX12_mass_0 : ∀ q ∈ tX12_mass_0, qX12_mass q :=
  allq qX12_mass 0 (.inl (a_il 0 1)) (s_iload_n (q := 0) (i := 0) rfl (by decide +kernel)) <|
  allq qX12_mass 1 (.inl (o_if_ge 8 4)) (s_if_ge (off := 7) (by decide +kernel) (by decide)) <|
  allq qX12_mass 4 (.inl (a_ic 1 5)) (s_iconst (n := 1) (v := 1) rfl (by decide +kernel)) <|
  allq qX12_mass 5 (.inl (a_go 9)) (s_goto (off := 4) (by decide +kernel) (by decide)) <|
  allq qX12_mass 8 (.inl (a_il 0 9)) (s_iload_n (q := 0) (i := 0) rfl (by decide +kernel)) <|
  allq qX12_mass 9 (.inr (.inr 1)) (Or.inr (Or.inl ⟨rfl, rfl, by decide +kernel⟩)) <|
  alln
theorem kX12_mass : ∀ q ∈ tX12_mass, qX12_mass q := kX12_mass_0
abbrev qX12_lay : Nat × aI → Prop := OkQ RX12 "lay" cX12_lay 11 (none)
set_option maxRecDepth 20000 in
theorem kX12_lay_0 : ∀ q ∈ tX12_lay_0, qX12_lay q :=
  allq qX12_lay 0 (.inl (a_ic 1 1)) (s_iconst (n := 1) (v := 1) rfl (by decide +kernel)) <|
  allq qX12_lay 1 (.inl (a_il 4 3)) (s_iload (i := 4) (by decide +kernel)) <|
  allq qX12_lay 3 (.inl (o_ishl 4)) (s_ishl (by decide +kernel)) <|
  allq qX12_lay 4 (.inl (a_is 6 6)) (s_istore (i := 6) (by decide +kernel) (by decide)) <|
  allq qX12_lay 6 (.inl (a_ic 0 7)) (s_iconst (n := 0) (v := 0) rfl (by decide +kernel)) <|
  allq qX12_lay 7 (.inl (a_is 7 9)) (s_istore (i := 7) (by decide +kernel) (by decide)) <|
  allq qX12_lay 9 (.inl (a_il 7 11)) (s_iload (i := 7) (by decide +kernel)) <|
  allq qX12_lay 11 (.inl (a_il 6 13)) (s_iload (i := 6) (by decide +kernel)) <|
  allq qX12_lay 13 (.inl (o_icmp_ge 33 16)) (s_icmp_ge (off := 20) (by decide +kernel) (by decide)) <|
  allq qX12_lay 16 (.inl (a_al 0 17)) (s_aload_n (q := 0) (i := 0) rfl (by decide +kernel)) <|
  allq qX12_lay 17 (.inl (a_get 11 41 20)) (gX12 (f0 := 41) (by decide) kw_1226 (by decide +kernel)) <|
  allq qX12_lay 20 (.inl (a_il 5 22)) (s_iload (i := 5) (by decide +kernel)) <|
  allq qX12_lay 22 (.inl (a_il 7 24)) (s_iload (i := 7) (by decide +kernel)) <|
  allq qX12_lay 24 (.inl (o_iadd 25)) (s_iadd (by decide +kernel)) <|
  allq qX12_lay 25 (.inl (a_ic (-1) 26)) (s_iconst (n := (-1)) (v := (-1)) rfl (by decide +kernel)) <|
  allq qX12_lay 26 (.inl (a_iast 27)) (s_iast (by decide +kernel)) <|
  allq qX12_lay 27 (.inl (a_inc 7 1 30)) (s_iinc (i := 7) (n := 1) (n2 := 1) rfl (by decide +kernel) (by decide)) <|
  allq qX12_lay 30 (.inl (a_go 9)) (s_goto (off := (-21)) (by decide +kernel) (by decide)) <|
  allq qX12_lay 33 (.inl (a_il 6 35)) (s_iload (i := 6) (by decide +kernel)) <|
  allq qX12_lay 35 (.inl (a_is 7 37)) (s_istore (i := 7) (by decide +kernel) (by decide)) <|
  allq qX12_lay 37 (.inl (a_ic 0 38)) (s_iconst (n := 0) (v := 0) rfl (by decide +kernel)) <|
  allq qX12_lay 38 (.inl (a_is 8 40)) (s_istore (i := 8) (by decide +kernel) (by decide)) <|
  allq qX12_lay 40 (.inl (a_il 8 42)) (s_iload (i := 8) (by decide +kernel)) <|
  allq qX12_lay 42 (.inl (a_il 3 43)) (s_iload_n (q := 3) (i := 3) rfl (by decide +kernel)) <|
  allq qX12_lay 43 (.inl (o_icmp_ge 77 46)) (s_icmp_ge (off := 34) (by decide +kernel) (by decide)) <|
  allq qX12_lay 46 (.inl (a_al 1 47)) (s_aload_n (q := 1) (i := 1) rfl (by decide +kernel)) <|
  allq qX12_lay 47 (.inl (a_il 2 48)) (s_iload_n (q := 2) (i := 2) rfl (by decide +kernel)) <|
  allq qX12_lay 48 (.inl (a_il 8 50)) (s_iload (i := 8) (by decide +kernel)) <|
  allq qX12_lay 50 (.inl (o_iadd 51)) (s_iadd (by decide +kernel)) <|
  allq qX12_lay 51 (.inl (a_iald 52)) (s_iald (by decide +kernel)) <|
  allq qX12_lay 52 (.inl (a_ic (-1) 53)) (s_iconst (n := (-1)) (v := (-1)) rfl (by decide +kernel)) <|
  allq qX12_lay 53 (.inl (o_icmp_ne 71 56)) (s_icmp_ne (off := 18) (by decide +kernel) (by decide)) <|
  allq qX12_lay 56 (.inl (a_inc 7 (-1) 59)) (s_iinc (i := 7) (n := (-1)) (n2 := (-1)) rfl (by decide +kernel) (by decide)) <|
  allq qX12_lay 59 (.inl (a_al 0 60)) (s_aload_n (q := 0) (i := 0) rfl (by decide +kernel)) <|
  allq qX12_lay 60 (.inl (a_get 11 41 63)) (gX12 (f0 := 41) (by decide) kw_1226 (by decide +kernel)) <|
  allq qX12_lay 63 (.inl (a_il 5 65)) (s_iload (i := 5) (by decide +kernel)) <|
  allq qX12_lay 65 (.inl (a_il 7 67)) (s_iload (i := 7) (by decide +kernel)) <|
  allq qX12_lay 67 (.inl (o_iadd 68)) (s_iadd (by decide +kernel)) <|
  allq qX12_lay 68 (.inl (a_il 8 70)) (s_iload (i := 8) (by decide +kernel)) <|
  allq qX12_lay 70 (.inl (a_iast 71)) (s_iast (by decide +kernel)) <|
  alln
set_option maxRecDepth 20000 in
theorem kX12_lay_1 : ∀ q ∈ tX12_lay_1, qX12_lay q :=
  allq qX12_lay 71 (.inl (a_inc 8 1 74)) (s_iinc (i := 8) (n := 1) (n2 := 1) rfl (by decide +kernel) (by decide)) <|
  allq qX12_lay 74 (.inl (a_go 40)) (s_goto (off := (-34)) (by decide +kernel) (by decide)) <|
  allq qX12_lay 77 (.inl (a_ic 0 78)) (s_iconst (n := 0) (v := 0) rfl (by decide +kernel)) <|
  allq qX12_lay 78 (.inl (a_is 8 80)) (s_istore (i := 8) (by decide +kernel) (by decide)) <|
  allq qX12_lay 80 (.inl (a_ic 0 81)) (s_iconst (n := 0) (v := 0) rfl (by decide +kernel)) <|
  allq qX12_lay 81 (.inl (a_is 9 83)) (s_istore (i := 9) (by decide +kernel) (by decide)) <|
  allq qX12_lay 83 (.inl (a_il 9 85)) (s_iload (i := 9) (by decide +kernel)) <|
  allq qX12_lay 85 (.inl (a_il 3 86)) (s_iload_n (q := 3) (i := 3) rfl (by decide +kernel)) <|
  allq qX12_lay 86 (.inl (o_icmp_ge 179 89)) (s_icmp_ge (off := 93) (by decide +kernel) (by decide)) <|
  allq qX12_lay 89 (.inl (a_ic 0 90)) (s_iconst (n := 0) (v := 0) rfl (by decide +kernel)) <|
  allq qX12_lay 90 (.inl (a_is 10 92)) (s_istore (i := 10) (by decide +kernel) (by decide)) <|
  allq qX12_lay 92 (.inl (a_il 10 94)) (s_iload (i := 10) (by decide +kernel)) <|
  allq qX12_lay 94 (.inl (a_al 1 95)) (s_aload_n (q := 1) (i := 1) rfl (by decide +kernel)) <|
  allq qX12_lay 95 (.inl (a_il 2 96)) (s_iload_n (q := 2) (i := 2) rfl (by decide +kernel)) <|
  allq qX12_lay 96 (.inl (a_il 9 98)) (s_iload (i := 9) (by decide +kernel)) <|
  allq qX12_lay 98 (.inl (o_iadd 99)) (s_iadd (by decide +kernel)) <|
  allq qX12_lay 99 (.inl (a_iald 100)) (s_iald (by decide +kernel)) <|
  allq qX12_lay 100 (.inl (o_icmp_ge 157 103)) (s_icmp_ge (off := 57) (by decide +kernel) (by decide)) <|
  allq qX12_lay 103 (.inl (a_al 0 104)) (s_aload_n (q := 0) (i := 0) rfl (by decide +kernel)) <|
  allq qX12_lay 104 (.inl (a_get 11 41 107)) (gX12 (f0 := 41) (by decide) kw_1226 (by decide +kernel)) <|
  allq qX12_lay 107 (.inl (a_il 5 109)) (s_iload (i := 5) (by decide +kernel)) <|
  allq qX12_lay 109 (.inl (a_il 8 111)) (s_iload (i := 8) (by decide +kernel)) <|
  allq qX12_lay 111 (.inl (o_iadd 112)) (s_iadd (by decide +kernel)) <|
  allq qX12_lay 112 (.inl (a_iald 113)) (s_iald (by decide +kernel)) <|
  allq qX12_lay 113 (.inl (o_if_lt 139 116)) (s_if_lt (off := 26) (by decide +kernel) (by decide)) <|
  allq qX12_lay 116 (.inl (a_il 8 118)) (s_iload (i := 8) (by decide +kernel)) <|
  allq qX12_lay 118 (.inl (a_il 6 120)) (s_iload (i := 6) (by decide +kernel)) <|
  allq qX12_lay 120 (.inl (a_ic 2 121)) (s_iconst (n := 2) (v := 2) rfl (by decide +kernel)) <|
  allq qX12_lay 121 (.inl (o_idiv 122)) (s_idiv (by decide +kernel)) <|
  allq qX12_lay 122 (.inl (o_iadd 123)) (s_iadd (by decide +kernel)) <|
  allq qX12_lay 123 (.inl (a_il 6 125)) (s_iload (i := 6) (by decide +kernel)) <|
  allq qX12_lay 125 (.inl (a_ic 8 127)) (s_bipush (n := 8) (v := 8) rfl (by decide +kernel)) <|
  allq qX12_lay 127 (.inl (o_idiv 128)) (s_idiv (by decide +kernel)) <|
  allq qX12_lay 128 (.inl (o_iadd 129)) (s_iadd (by decide +kernel)) <|
  allq qX12_lay 129 (.inl (a_ic 3 130)) (s_iconst (n := 3) (v := 3) rfl (by decide +kernel)) <|
  allq qX12_lay 130 (.inl (o_iadd 131)) (s_iadd (by decide +kernel)) <|
  allq qX12_lay 131 (.inl (a_il 6 133)) (s_iload (i := 6) (by decide +kernel)) <|
  allq qX12_lay 133 (.inl (o_irem 134)) (s_irem (by decide +kernel)) <|
  allq qX12_lay 134 (.inl (a_is 8 136)) (s_istore (i := 8) (by decide +kernel) (by decide)) <|
  allq qX12_lay 136 (.inl (a_go 103)) (s_goto (off := (-33)) (by decide +kernel) (by decide)) <|
  alln
set_option maxRecDepth 20000 in
theorem kX12_lay_2 : ∀ q ∈ tX12_lay_2, qX12_lay q :=
  allq qX12_lay 139 (.inl (a_al 0 140)) (s_aload_n (q := 0) (i := 0) rfl (by decide +kernel)) <|
  allq qX12_lay 140 (.inl (a_get 11 41 143)) (gX12 (f0 := 41) (by decide) kw_1226 (by decide +kernel)) <|
  allq qX12_lay 143 (.inl (a_il 5 145)) (s_iload (i := 5) (by decide +kernel)) <|
  allq qX12_lay 145 (.inl (a_il 8 147)) (s_iload (i := 8) (by decide +kernel)) <|
  allq qX12_lay 147 (.inl (o_iadd 148)) (s_iadd (by decide +kernel)) <|
  allq qX12_lay 148 (.inl (a_il 9 150)) (s_iload (i := 9) (by decide +kernel)) <|
  allq qX12_lay 150 (.inl (a_iast 151)) (s_iast (by decide +kernel)) <|
  allq qX12_lay 151 (.inl (a_inc 10 1 154)) (s_iinc (i := 10) (n := 1) (n2 := 1) rfl (by decide +kernel) (by decide)) <|
  allq qX12_lay 154 (.inl (a_go 92)) (s_goto (off := (-62)) (by decide +kernel) (by decide)) <|
  allq qX12_lay 157 (.inl (a_al 0 158)) (s_aload_n (q := 0) (i := 0) rfl (by decide +kernel)) <|
  allq qX12_lay 158 (.inl (a_get 11 44 161)) (gX12 (f0 := 44) (by decide) kw_1229 (by decide +kernel)) <|
  allq qX12_lay 161 (.inl (a_il 9 163)) (s_iload (i := 9) (by decide +kernel)) <|
  allq qX12_lay 163 (.inl (a_al 1 164)) (s_aload_n (q := 1) (i := 1) rfl (by decide +kernel)) <|
  allq qX12_lay 164 (.inl (a_il 2 165)) (s_iload_n (q := 2) (i := 2) rfl (by decide +kernel)) <|
  allq qX12_lay 165 (.inl (a_il 9 167)) (s_iload (i := 9) (by decide +kernel)) <|
  allq qX12_lay 167 (.inl (o_iadd 168)) (s_iadd (by decide +kernel)) <|
  allq qX12_lay 168 (.inl (a_iald 169)) (s_iald (by decide +kernel)) <|
  allq qX12_lay 169 (.inr (.inl (164, 1, 0))) (okS (y := yX12_mass) kw_1523 kw_118 rfl (by decide +kernel) kw_1522 (Or.inl kw_1521)) <|
  allq qX12_lay 172 (.inl (a_iast 173)) (s_iast (by decide +kernel)) <|
  allq qX12_lay 173 (.inl (a_inc 9 1 176)) (s_iinc (i := 9) (n := 1) (n2 := 1) rfl (by decide +kernel) (by decide)) <|
  allq qX12_lay 176 (.inl (a_go 83)) (s_goto (off := (-93)) (by decide +kernel) (by decide)) <|
  allq qX12_lay 179 (.inl (a_ic 0 180)) (s_iconst (n := 0) (v := 0) rfl (by decide +kernel)) <|
  allq qX12_lay 180 (.inl (a_is 9 182)) (s_istore (i := 9) (by decide +kernel) (by decide)) <|
  allq qX12_lay 182 (.inl (a_il 9 184)) (s_iload (i := 9) (by decide +kernel)) <|
  allq qX12_lay 184 (.inl (a_il 6 186)) (s_iload (i := 6) (by decide +kernel)) <|
  allq qX12_lay 186 (.inl (o_icmp_ge 273 189)) (s_icmp_ge (off := 87) (by decide +kernel) (by decide)) <|
  allq qX12_lay 189 (.inl (a_al 0 190)) (s_aload_n (q := 0) (i := 0) rfl (by decide +kernel)) <|
  allq qX12_lay 190 (.inl (a_get 11 44 193)) (gX12 (f0 := 44) (by decide) kw_1229 (by decide +kernel)) <|
  allq qX12_lay 193 (.inl (a_al 0 194)) (s_aload_n (q := 0) (i := 0) rfl (by decide +kernel)) <|
  allq qX12_lay 194 (.inl (a_get 11 41 197)) (gX12 (f0 := 41) (by decide) kw_1226 (by decide +kernel)) <|
  allq qX12_lay 197 (.inl (a_il 5 199)) (s_iload (i := 5) (by decide +kernel)) <|
  allq qX12_lay 199 (.inl (a_il 9 201)) (s_iload (i := 9) (by decide +kernel)) <|
  allq qX12_lay 201 (.inl (o_iadd 202)) (s_iadd (by decide +kernel)) <|
  allq qX12_lay 202 (.inl (a_iald 203)) (s_iald (by decide +kernel)) <|
  allq qX12_lay 203 (.inl (a_iald 204)) (s_iald (by decide +kernel)) <|
  allq qX12_lay 204 (.inl (a_is 10 206)) (s_istore (i := 10) (by decide +kernel) (by decide)) <|
  allq qX12_lay 206 (.inl (a_al 0 207)) (s_aload_n (q := 0) (i := 0) rfl (by decide +kernel)) <|
  allq qX12_lay 207 (.inl (a_get 11 44 210)) (gX12 (f0 := 44) (by decide) kw_1229 (by decide +kernel)) <|
  allq qX12_lay 210 (.inl (a_al 0 211)) (s_aload_n (q := 0) (i := 0) rfl (by decide +kernel)) <|
  allq qX12_lay 211 (.inl (a_get 11 41 214)) (gX12 (f0 := 41) (by decide) kw_1226 (by decide +kernel)) <|
  alln
set_option maxRecDepth 20000 in
theorem kX12_lay_3 : ∀ q ∈ tX12_lay_3, qX12_lay q :=
  allq qX12_lay 214 (.inl (a_il 5 216)) (s_iload (i := 5) (by decide +kernel)) <|
  allq qX12_lay 216 (.inl (a_il 9 218)) (s_iload (i := 9) (by decide +kernel)) <|
  allq qX12_lay 218 (.inl (o_iadd 219)) (s_iadd (by decide +kernel)) <|
  allq qX12_lay 219 (.inl (a_iald 220)) (s_iald (by decide +kernel)) <|
  allq qX12_lay 220 (.inl (a_il 10 222)) (s_iload (i := 10) (by decide +kernel)) <|
  allq qX12_lay 222 (.inl (a_ic 1 223)) (s_iconst (n := 1) (v := 1) rfl (by decide +kernel)) <|
  allq qX12_lay 223 (.inl (o_iadd 224)) (s_iadd (by decide +kernel)) <|
  allq qX12_lay 224 (.inl (a_iast 225)) (s_iast (by decide +kernel)) <|
  allq qX12_lay 225 (.inl (a_al 0 226)) (s_aload_n (q := 0) (i := 0) rfl (by decide +kernel)) <|
  allq qX12_lay 226 (.inl (a_get 11 42 229)) (gX12 (f0 := 42) (by decide) kw_1227 (by decide +kernel)) <|
  allq qX12_lay 229 (.inl (a_il 5 231)) (s_iload (i := 5) (by decide +kernel)) <|
  allq qX12_lay 231 (.inl (a_il 9 233)) (s_iload (i := 9) (by decide +kernel)) <|
  allq qX12_lay 233 (.inl (o_iadd 234)) (s_iadd (by decide +kernel)) <|
  allq qX12_lay 234 (.inl (a_il 4 236)) (s_iload (i := 4) (by decide +kernel)) <|
  allq qX12_lay 236 (.inl (a_il 10 238)) (s_iload (i := 10) (by decide +kernel)) <|
  allq qX12_lay 238 (.inr (.inl (158, 1, 0))) (okS (y := yX12_log) kw_1530 kw_118 rfl (by decide +kernel) kw_1529 (Or.inl kw_1528)) <|
  allq qX12_lay 241 (.inl (o_isub 242)) (s_isub (by decide +kernel)) <|
  allq qX12_lay 242 (.inl (a_iast 243)) (s_iast (by decide +kernel)) <|
  allq qX12_lay 243 (.inl (a_al 0 244)) (s_aload_n (q := 0) (i := 0) rfl (by decide +kernel)) <|
  allq qX12_lay 244 (.inl (a_get 11 43 247)) (gX12 (f0 := 43) (by decide) kw_1228 (by decide +kernel)) <|
  allq qX12_lay 247 (.inl (a_il 5 249)) (s_iload (i := 5) (by decide +kernel)) <|
  allq qX12_lay 249 (.inl (a_il 9 251)) (s_iload (i := 9) (by decide +kernel)) <|
  allq qX12_lay 251 (.inl (o_iadd 252)) (s_iadd (by decide +kernel)) <|
  allq qX12_lay 252 (.inl (a_il 10 254)) (s_iload (i := 10) (by decide +kernel)) <|
  allq qX12_lay 254 (.inl (a_il 4 256)) (s_iload (i := 4) (by decide +kernel)) <|
  allq qX12_lay 256 (.inl (a_il 10 258)) (s_iload (i := 10) (by decide +kernel)) <|
  allq qX12_lay 258 (.inr (.inl (158, 1, 0))) (okS (y := yX12_log) kw_1530 kw_118 rfl (by decide +kernel) kw_1529 (Or.inl kw_1528)) <|
  allq qX12_lay 261 (.inl (o_isub 262)) (s_isub (by decide +kernel)) <|
  allq qX12_lay 262 (.inl (o_ishl 263)) (s_ishl (by decide +kernel)) <|
  allq qX12_lay 263 (.inl (a_il 6 265)) (s_iload (i := 6) (by decide +kernel)) <|
  allq qX12_lay 265 (.inl (o_isub 266)) (s_isub (by decide +kernel)) <|
  allq qX12_lay 266 (.inl (a_iast 267)) (s_iast (by decide +kernel)) <|
  allq qX12_lay 267 (.inl (a_inc 9 1 270)) (s_iinc (i := 9) (n := 1) (n2 := 1) rfl (by decide +kernel) (by decide)) <|
  allq qX12_lay 270 (.inl (a_go 182)) (s_goto (off := (-88)) (by decide +kernel) (by decide)) <|
  allq qX12_lay 273 (.inr (.inr 0)) (Or.inl ⟨rfl, rfl, by decide +kernel⟩) <|
  alln
theorem kX12_lay : ∀ q ∈ tX12_lay, qX12_lay q := alla kX12_lay_0 (alla kX12_lay_1 (alla kX12_lay_2 kX12_lay_3))
abbrev qX12_lowest : Nat × aI → Prop := OkQ RX12 "lowest" cX12_lowest 6 (some .int)
set_option maxRecDepth 20000 in
theorem kX12_lowest_0 : ∀ q ∈ tX12_lowest_0, qX12_lowest q :=
  allq qX12_lowest 0 (.inl (a_ic 0 1)) (s_iconst (n := 0) (v := 0) rfl (by decide +kernel)) <|
  allq qX12_lowest 1 (.inl (a_is 5 3)) (s_istore (i := 5) (by decide +kernel) (by decide)) <|
  allq qX12_lowest 3 (.inl (a_al 0 4)) (s_aload_n (q := 0) (i := 0) rfl (by decide +kernel)) <|
  allq qX12_lowest 4 (.inl (a_get 11 41 7)) (gX12 (f0 := 41) (by decide) kw_1226 (by decide +kernel)) <|
  allq qX12_lowest 7 (.inl (a_il 1 8)) (s_iload_n (q := 1) (i := 1) rfl (by decide +kernel)) <|
  allq qX12_lowest 8 (.inl (a_il 5 10)) (s_iload (i := 5) (by decide +kernel)) <|
  allq qX12_lowest 10 (.inl (o_iadd 11)) (s_iadd (by decide +kernel)) <|
  allq qX12_lowest 11 (.inl (a_iald 12)) (s_iald (by decide +kernel)) <|
  allq qX12_lowest 12 (.inl (a_il 3 13)) (s_iload_n (q := 3) (i := 3) rfl (by decide +kernel)) <|
  allq qX12_lowest 13 (.inl (o_icmp_ne 33 16)) (s_icmp_ne (off := 20) (by decide +kernel) (by decide)) <|
  allq qX12_lowest 16 (.inl (a_il 4 18)) (s_iload (i := 4) (by decide +kernel)) <|
  allq qX12_lowest 18 (.inl (o_if_eq 39 21)) (s_if_eq (off := 21) (by decide +kernel) (by decide)) <|
  allq qX12_lowest 21 (.inl (a_al 0 22)) (s_aload_n (q := 0) (i := 0) rfl (by decide +kernel)) <|
  allq qX12_lowest 22 (.inl (a_get 11 42 25)) (gX12 (f0 := 42) (by decide) kw_1227 (by decide +kernel)) <|
  allq qX12_lowest 25 (.inl (a_il 1 26)) (s_iload_n (q := 1) (i := 1) rfl (by decide +kernel)) <|
  allq qX12_lowest 26 (.inl (a_il 5 28)) (s_iload (i := 5) (by decide +kernel)) <|
  allq qX12_lowest 28 (.inl (o_iadd 29)) (s_iadd (by decide +kernel)) <|
  allq qX12_lowest 29 (.inl (a_iald 30)) (s_iald (by decide +kernel)) <|
  allq qX12_lowest 30 (.inl (o_if_ne 39 33)) (s_if_ne (off := 9) (by decide +kernel) (by decide)) <|
  allq qX12_lowest 33 (.inl (a_inc 5 1 36)) (s_iinc (i := 5) (n := 1) (n2 := 1) rfl (by decide +kernel) (by decide)) <|
  allq qX12_lowest 36 (.inl (a_go 3)) (s_goto (off := (-33)) (by decide +kernel) (by decide)) <|
  allq qX12_lowest 39 (.inl (a_il 5 41)) (s_iload (i := 5) (by decide +kernel)) <|
  allq qX12_lowest 41 (.inr (.inr 1)) (Or.inr (Or.inl ⟨rfl, rfl, by decide +kernel⟩)) <|
  alln
theorem kX12_lowest : ∀ q ∈ tX12_lowest, qX12_lowest q := kX12_lowest_0
abbrev qX12_leading : Nat × aI → Prop := OkQ RX12 "leading" cX12_leading 7 (some .int)
set_option maxRecDepth 20000 in
theorem kX12_leading_0 : ∀ q ∈ tX12_leading_0, qX12_leading q :=
  allq qX12_leading 0 (.inl (a_ic 0 1)) (s_iconst (n := 0) (v := 0) rfl (by decide +kernel)) <|
  allq qX12_leading 1 (.inl (a_is 5 3)) (s_istore (i := 5) (by decide +kernel) (by decide)) <|
  allq qX12_leading 3 (.inl (a_il 5 5)) (s_iload (i := 5) (by decide +kernel)) <|
  allq qX12_leading 5 (.inl (a_ic 1 6)) (s_iconst (n := 1) (v := 1) rfl (by decide +kernel)) <|
  allq qX12_leading 6 (.inl (a_il 2 7)) (s_iload_n (q := 2) (i := 2) rfl (by decide +kernel)) <|
  allq qX12_leading 7 (.inl (o_ishl 8)) (s_ishl (by decide +kernel)) <|
  allq qX12_leading 8 (.inl (o_icmp_ge 70 11)) (s_icmp_ge (off := 62) (by decide +kernel) (by decide)) <|
  allq qX12_leading 11 (.inl (a_al 0 12)) (s_aload_n (q := 0) (i := 0) rfl (by decide +kernel)) <|
  allq qX12_leading 12 (.inl (a_get 11 43 15)) (gX12 (f0 := 43) (by decide) kw_1228 (by decide +kernel)) <|
  allq qX12_leading 15 (.inl (a_il 1 16)) (s_iload_n (q := 1) (i := 1) rfl (by decide +kernel)) <|
  allq qX12_leading 16 (.inl (a_il 5 18)) (s_iload (i := 5) (by decide +kernel)) <|
  allq qX12_leading 18 (.inl (o_iadd 19)) (s_iadd (by decide +kernel)) <|
  allq qX12_leading 19 (.inl (a_iald 20)) (s_iald (by decide +kernel)) <|
  allq qX12_leading 20 (.inl (a_is 6 22)) (s_istore (i := 6) (by decide +kernel) (by decide)) <|
  allq qX12_leading 22 (.inl (a_al 0 23)) (s_aload_n (q := 0) (i := 0) rfl (by decide +kernel)) <|
  allq qX12_leading 23 (.inl (a_get 11 41 26)) (gX12 (f0 := 41) (by decide) kw_1226 (by decide +kernel)) <|
  allq qX12_leading 26 (.inl (a_il 1 27)) (s_iload_n (q := 1) (i := 1) rfl (by decide +kernel)) <|
  allq qX12_leading 27 (.inl (a_il 5 29)) (s_iload (i := 5) (by decide +kernel)) <|
  allq qX12_leading 29 (.inl (o_iadd 30)) (s_iadd (by decide +kernel)) <|
  allq qX12_leading 30 (.inl (a_iald 31)) (s_iald (by decide +kernel)) <|
  allq qX12_leading 31 (.inl (a_il 3 32)) (s_iload_n (q := 3) (i := 3) rfl (by decide +kernel)) <|
  allq qX12_leading 32 (.inl (o_icmp_ne 64 35)) (s_icmp_ne (off := 32) (by decide +kernel) (by decide)) <|
  allq qX12_leading 35 (.inl (a_il 4 37)) (s_iload (i := 4) (by decide +kernel)) <|
  allq qX12_leading 37 (.inl (a_il 6 39)) (s_iload (i := 6) (by decide +kernel)) <|
  allq qX12_leading 39 (.inl (o_icmp_lt 64 42)) (s_icmp_lt (off := 25) (by decide +kernel) (by decide)) <|
  allq qX12_leading 42 (.inl (a_il 4 44)) (s_iload (i := 4) (by decide +kernel)) <|
  allq qX12_leading 44 (.inl (a_il 6 46)) (s_iload (i := 6) (by decide +kernel)) <|
  allq qX12_leading 46 (.inl (a_ic 1 47)) (s_iconst (n := 1) (v := 1) rfl (by decide +kernel)) <|
  allq qX12_leading 47 (.inl (a_al 0 48)) (s_aload_n (q := 0) (i := 0) rfl (by decide +kernel)) <|
  allq qX12_leading 48 (.inl (a_get 11 42 51)) (gX12 (f0 := 42) (by decide) kw_1227 (by decide +kernel)) <|
  allq qX12_leading 51 (.inl (a_il 1 52)) (s_iload_n (q := 1) (i := 1) rfl (by decide +kernel)) <|
  allq qX12_leading 52 (.inl (a_il 5 54)) (s_iload (i := 5) (by decide +kernel)) <|
  allq qX12_leading 54 (.inl (o_iadd 55)) (s_iadd (by decide +kernel)) <|
  allq qX12_leading 55 (.inl (a_iald 56)) (s_iald (by decide +kernel)) <|
  allq qX12_leading 56 (.inl (o_ishl 57)) (s_ishl (by decide +kernel)) <|
  allq qX12_leading 57 (.inl (o_iadd 58)) (s_iadd (by decide +kernel)) <|
  allq qX12_leading 58 (.inl (o_icmp_ge 64 61)) (s_icmp_ge (off := 6) (by decide +kernel) (by decide)) <|
  allq qX12_leading 61 (.inl (a_il 5 63)) (s_iload (i := 5) (by decide +kernel)) <|
  allq qX12_leading 63 (.inr (.inr 1)) (Or.inr (Or.inl ⟨rfl, rfl, by decide +kernel⟩)) <|
  allq qX12_leading 64 (.inl (a_inc 5 1 67)) (s_iinc (i := 5) (n := 1) (n2 := 1) rfl (by decide +kernel) (by decide)) <|
  alln
set_option maxRecDepth 20000 in
theorem kX12_leading_1 : ∀ q ∈ tX12_leading_1, qX12_leading q :=
  allq qX12_leading 67 (.inl (a_go 3)) (s_goto (off := (-64)) (by decide +kernel) (by decide)) <|
  allq qX12_leading 70 (.inl (a_ic (-1) 71)) (s_iconst (n := (-1)) (v := (-1)) rfl (by decide +kernel)) <|
  allq qX12_leading 71 (.inr (.inr 1)) (Or.inr (Or.inl ⟨rfl, rfl, by decide +kernel⟩)) <|
  alln
theorem kX12_leading : ∀ q ∈ tX12_leading, qX12_leading q := alla kX12_leading_0 kX12_leading_1
abbrev qX12_rowCost : Nat × aI → Prop := OkQ RX12 "rowCost" cX12_rowCost 8 (some .int)
set_option maxRecDepth 20000 in
theorem kX12_rowCost_0 : ∀ q ∈ tX12_rowCost_0, qX12_rowCost q :=
  allq qX12_rowCost 0 (.inl (a_ic 0 1)) (s_iconst (n := 0) (v := 0) rfl (by decide +kernel)) <|
  allq qX12_rowCost 1 (.inl (a_is 5 3)) (s_istore (i := 5) (by decide +kernel) (by decide)) <|
  allq qX12_rowCost 3 (.inl (a_il 5 5)) (s_iload (i := 5) (by decide +kernel)) <|
  allq qX12_rowCost 5 (.inl (a_al 0 6)) (s_aload_n (q := 0) (i := 0) rfl (by decide +kernel)) <|
  allq qX12_rowCost 6 (.inl (a_get 11 31 9)) (gX12 (f0 := 31) (by decide) kw_1216 (by decide +kernel)) <|
  allq qX12_rowCost 9 (.inl (o_icmp_ge 40 12)) (s_icmp_ge (off := 31) (by decide +kernel) (by decide)) <|
  allq qX12_rowCost 12 (.inl (a_al 2 13)) (s_aload_n (q := 2) (i := 2) rfl (by decide +kernel)) <|
  allq qX12_rowCost 13 (.inl (a_il 3 14)) (s_iload_n (q := 3) (i := 3) rfl (by decide +kernel)) <|
  allq qX12_rowCost 14 (.inl (a_al 0 15)) (s_aload_n (q := 0) (i := 0) rfl (by decide +kernel)) <|
  allq qX12_rowCost 15 (.inl (a_get 11 34 18)) (gX12 (f0 := 34) (by decide) kw_1219 (by decide +kernel)) <|
  allq qX12_rowCost 18 (.inl (a_ic 8001 21)) (s_sipush (n := 8001) (v := 8001) rfl (by decide +kernel)) <|
  allq qX12_rowCost 21 (.inl (a_il 1 22)) (s_iload_n (q := 1) (i := 1) rfl (by decide +kernel)) <|
  allq qX12_rowCost 22 (.inl (o_imul 23)) (s_imul (by decide +kernel)) <|
  allq qX12_rowCost 23 (.inl (a_il 5 25)) (s_iload (i := 5) (by decide +kernel)) <|
  allq qX12_rowCost 25 (.inl (o_iadd 26)) (s_iadd (by decide +kernel)) <|
  allq qX12_rowCost 26 (.inl (a_iald 27)) (s_iald (by decide +kernel)) <|
  allq qX12_rowCost 27 (.inl (o_iadd 28)) (s_iadd (by decide +kernel)) <|
  allq qX12_rowCost 28 (.inl (a_iald 29)) (s_iald (by decide +kernel)) <|
  allq qX12_rowCost 29 (.inl (o_if_ne 34 32)) (s_if_ne (off := 5) (by decide +kernel) (by decide)) <|
  allq qX12_rowCost 32 (.inl (a_ic (-1) 33)) (s_iconst (n := (-1)) (v := (-1)) rfl (by decide +kernel)) <|
  allq qX12_rowCost 33 (.inr (.inr 1)) (Or.inr (Or.inl ⟨rfl, rfl, by decide +kernel⟩)) <|
  allq qX12_rowCost 34 (.inl (a_inc 5 1 37)) (s_iinc (i := 5) (n := 1) (n2 := 1) rfl (by decide +kernel) (by decide)) <|
  allq qX12_rowCost 37 (.inl (a_go 3)) (s_goto (off := (-34)) (by decide +kernel) (by decide)) <|
  allq qX12_rowCost 40 (.inl (a_al 0 41)) (s_aload_n (q := 0) (i := 0) rfl (by decide +kernel)) <|
  allq qX12_rowCost 41 (.inl (a_al 2 42)) (s_aload_n (q := 2) (i := 2) rfl (by decide +kernel)) <|
  allq qX12_rowCost 42 (.inl (a_il 3 43)) (s_iload_n (q := 3) (i := 3) rfl (by decide +kernel)) <|
  allq qX12_rowCost 43 (.inl (a_ic 64 45)) (s_bipush (n := 64) (v := 64) rfl (by decide +kernel)) <|
  allq qX12_rowCost 45 (.inl (a_il 4 47)) (s_iload (i := 4) (by decide +kernel)) <|
  allq qX12_rowCost 47 (.inl (a_ic 512 50)) (s_sipush (n := 512) (v := 512) rfl (by decide +kernel)) <|
  allq qX12_rowCost 50 (.inl (a_il 1 51)) (s_iload_n (q := 1) (i := 1) rfl (by decide +kernel)) <|
  allq qX12_rowCost 51 (.inl (o_imul 52)) (s_imul (by decide +kernel)) <|
  allq qX12_rowCost 52 (.inr (.inl (165, 6, 12))) (okV (y := yX12_lay) kw_1538 kw_118 rfl rfl (by decide +kernel) kw_1537 kw_69 kw_1535) <|
  allq qX12_rowCost 55 (.inl (a_al 0 56)) (s_aload_n (q := 0) (i := 0) rfl (by decide +kernel)) <|
  allq qX12_rowCost 56 (.inl (a_ic 512 59)) (s_sipush (n := 512) (v := 512) rfl (by decide +kernel)) <|
  allq qX12_rowCost 59 (.inl (a_il 1 60)) (s_iload_n (q := 1) (i := 1) rfl (by decide +kernel)) <|
  allq qX12_rowCost 60 (.inl (o_imul 61)) (s_imul (by decide +kernel)) <|
  allq qX12_rowCost 61 (.inl (a_il 4 63)) (s_iload (i := 4) (by decide +kernel)) <|
  allq qX12_rowCost 63 (.inl (a_al 0 64)) (s_aload_n (q := 0) (i := 0) rfl (by decide +kernel)) <|
  allq qX12_rowCost 64 (.inl (a_get 11 34 67)) (gX12 (f0 := 34) (by decide) kw_1219 (by decide +kernel)) <|
  allq qX12_rowCost 67 (.inl (a_ic 8001 70)) (s_sipush (n := 8001) (v := 8001) rfl (by decide +kernel)) <|
  alln
set_option maxRecDepth 20000 in
theorem kX12_rowCost_1 : ∀ q ∈ tX12_rowCost_1, qX12_rowCost q :=
  allq qX12_rowCost 70 (.inl (a_il 1 71)) (s_iload_n (q := 1) (i := 1) rfl (by decide +kernel)) <|
  allq qX12_rowCost 71 (.inl (o_imul 72)) (s_imul (by decide +kernel)) <|
  allq qX12_rowCost 72 (.inl (a_al 0 73)) (s_aload_n (q := 0) (i := 0) rfl (by decide +kernel)) <|
  allq qX12_rowCost 73 (.inl (a_get 11 31 76)) (gX12 (f0 := 31) (by decide) kw_1216 (by decide +kernel)) <|
  allq qX12_rowCost 76 (.inl (o_iadd 77)) (s_iadd (by decide +kernel)) <|
  allq qX12_rowCost 77 (.inl (a_ic 1 78)) (s_iconst (n := 1) (v := 1) rfl (by decide +kernel)) <|
  allq qX12_rowCost 78 (.inl (o_isub 79)) (s_isub (by decide +kernel)) <|
  allq qX12_rowCost 79 (.inl (a_iald 80)) (s_iald (by decide +kernel)) <|
  allq qX12_rowCost 80 (.inl (a_ic 0 81)) (s_iconst (n := 0) (v := 0) rfl (by decide +kernel)) <|
  allq qX12_rowCost 81 (.inr (.inl (166, 5, 12))) (okV (y := yX12_lowest) kw_1542 kw_118 rfl rfl (by decide +kernel) kw_1541 kw_70 kw_1539) <|
  allq qX12_rowCost 84 (.inl (a_is 5 86)) (s_istore (i := 5) (by decide +kernel) (by decide)) <|
  allq qX12_rowCost 86 (.inl (a_il 4 88)) (s_iload (i := 4) (by decide +kernel)) <|
  allq qX12_rowCost 88 (.inl (a_is 6 90)) (s_istore (i := 6) (by decide +kernel) (by decide)) <|
  allq qX12_rowCost 90 (.inl (a_al 0 91)) (s_aload_n (q := 0) (i := 0) rfl (by decide +kernel)) <|
  allq qX12_rowCost 91 (.inl (a_get 11 31 94)) (gX12 (f0 := 31) (by decide) kw_1216 (by decide +kernel)) <|
  allq qX12_rowCost 94 (.inl (a_ic 2 95)) (s_iconst (n := 2) (v := 2) rfl (by decide +kernel)) <|
  allq qX12_rowCost 95 (.inl (o_isub 96)) (s_isub (by decide +kernel)) <|
  allq qX12_rowCost 96 (.inl (a_is 7 98)) (s_istore (i := 7) (by decide +kernel) (by decide)) <|
  allq qX12_rowCost 98 (.inl (a_il 7 100)) (s_iload (i := 7) (by decide +kernel)) <|
  allq qX12_rowCost 100 (.inl (o_if_lt 155 103)) (s_if_lt (off := 55) (by decide +kernel) (by decide)) <|
  allq qX12_rowCost 103 (.inl (a_al 0 104)) (s_aload_n (q := 0) (i := 0) rfl (by decide +kernel)) <|
  allq qX12_rowCost 104 (.inl (a_ic 512 107)) (s_sipush (n := 512) (v := 512) rfl (by decide +kernel)) <|
  allq qX12_rowCost 107 (.inl (a_il 1 108)) (s_iload_n (q := 1) (i := 1) rfl (by decide +kernel)) <|
  allq qX12_rowCost 108 (.inl (o_imul 109)) (s_imul (by decide +kernel)) <|
  allq qX12_rowCost 109 (.inl (a_il 4 111)) (s_iload (i := 4) (by decide +kernel)) <|
  allq qX12_rowCost 111 (.inl (a_al 0 112)) (s_aload_n (q := 0) (i := 0) rfl (by decide +kernel)) <|
  allq qX12_rowCost 112 (.inl (a_get 11 34 115)) (gX12 (f0 := 34) (by decide) kw_1219 (by decide +kernel)) <|
  allq qX12_rowCost 115 (.inl (a_ic 8001 118)) (s_sipush (n := 8001) (v := 8001) rfl (by decide +kernel)) <|
  allq qX12_rowCost 118 (.inl (a_il 1 119)) (s_iload_n (q := 1) (i := 1) rfl (by decide +kernel)) <|
  allq qX12_rowCost 119 (.inl (o_imul 120)) (s_imul (by decide +kernel)) <|
  allq qX12_rowCost 120 (.inl (a_il 7 122)) (s_iload (i := 7) (by decide +kernel)) <|
  allq qX12_rowCost 122 (.inl (o_iadd 123)) (s_iadd (by decide +kernel)) <|
  allq qX12_rowCost 123 (.inl (a_iald 124)) (s_iald (by decide +kernel)) <|
  allq qX12_rowCost 124 (.inl (a_il 5 126)) (s_iload (i := 5) (by decide +kernel)) <|
  allq qX12_rowCost 126 (.inr (.inl (167, 5, 12))) (okV (y := yX12_leading) kw_1546 kw_118 rfl rfl (by decide +kernel) kw_1545 kw_71 kw_1543) <|
  allq qX12_rowCost 129 (.inl (a_is 5 131)) (s_istore (i := 5) (by decide +kernel) (by decide)) <|
  allq qX12_rowCost 131 (.inl (a_il 6 133)) (s_iload (i := 6) (by decide +kernel)) <|
  allq qX12_rowCost 133 (.inl (a_al 0 134)) (s_aload_n (q := 0) (i := 0) rfl (by decide +kernel)) <|
  allq qX12_rowCost 134 (.inl (a_get 11 42 137)) (gX12 (f0 := 42) (by decide) kw_1227 (by decide +kernel)) <|
  allq qX12_rowCost 137 (.inl (a_ic 512 140)) (s_sipush (n := 512) (v := 512) rfl (by decide +kernel)) <|
  alln
set_option maxRecDepth 20000 in
theorem kX12_rowCost_2 : ∀ q ∈ tX12_rowCost_2, qX12_rowCost q :=
  allq qX12_rowCost 140 (.inl (a_il 1 141)) (s_iload_n (q := 1) (i := 1) rfl (by decide +kernel)) <|
  allq qX12_rowCost 141 (.inl (o_imul 142)) (s_imul (by decide +kernel)) <|
  allq qX12_rowCost 142 (.inl (a_il 5 144)) (s_iload (i := 5) (by decide +kernel)) <|
  allq qX12_rowCost 144 (.inl (o_iadd 145)) (s_iadd (by decide +kernel)) <|
  allq qX12_rowCost 145 (.inl (a_iald 146)) (s_iald (by decide +kernel)) <|
  allq qX12_rowCost 146 (.inl (o_iadd 147)) (s_iadd (by decide +kernel)) <|
  allq qX12_rowCost 147 (.inl (a_is 6 149)) (s_istore (i := 6) (by decide +kernel) (by decide)) <|
  allq qX12_rowCost 149 (.inl (a_inc 7 (-1) 152)) (s_iinc (i := 7) (n := (-1)) (n2 := (-1)) rfl (by decide +kernel) (by decide)) <|
  allq qX12_rowCost 152 (.inl (a_go 98)) (s_goto (off := (-54)) (by decide +kernel) (by decide)) <|
  allq qX12_rowCost 155 (.inl (a_il 6 157)) (s_iload (i := 6) (by decide +kernel)) <|
  allq qX12_rowCost 157 (.inr (.inr 1)) (Or.inr (Or.inl ⟨rfl, rfl, by decide +kernel⟩)) <|
  alln
theorem kX12_rowCost : ∀ q ∈ tX12_rowCost, qX12_rowCost q := alla kX12_rowCost_0 (alla kX12_rowCost_1 kX12_rowCost_2)
abbrev qX12_divide : Nat × aI → Prop := OkQ RX12 "divide" cX12_divide 6 (none)
set_option maxRecDepth 20000 in
theorem kX12_divide_0 : ∀ q ∈ tX12_divide_0, qX12_divide q :=
  allq qX12_divide 0 (.inl (a_ic 1 1)) (s_iconst (n := 1) (v := 1) rfl (by decide +kernel)) <|
  allq qX12_divide 1 (.inl (a_il 2 2)) (s_iload_n (q := 2) (i := 2) rfl (by decide +kernel)) <|
  allq qX12_divide 2 (.inl (o_ishl 3)) (s_ishl (by decide +kernel)) <|
  allq qX12_divide 3 (.inl (a_is 3 4)) (s_istore_n (q := 3) (i := 3) rfl (by decide +kernel) (by decide)) <|
  allq qX12_divide 4 (.inl (a_ic 0 5)) (s_iconst (n := 0) (v := 0) rfl (by decide +kernel)) <|
  allq qX12_divide 5 (.inl (a_is 4 7)) (s_istore (i := 4) (by decide +kernel) (by decide)) <|
  allq qX12_divide 7 (.inl (a_il 4 9)) (s_iload (i := 4) (by decide +kernel)) <|
  allq qX12_divide 9 (.inl (a_ic 64 11)) (s_bipush (n := 64) (v := 64) rfl (by decide +kernel)) <|
  allq qX12_divide 11 (.inl (o_icmp_ge 93 14)) (s_icmp_ge (off := 82) (by decide +kernel) (by decide)) <|
  allq qX12_divide 14 (.inl (a_al 0 15)) (s_aload_n (q := 0) (i := 0) rfl (by decide +kernel)) <|
  allq qX12_divide 15 (.inl (a_get 11 48 18)) (gX12 (f0 := 48) (by decide) kw_1233 (by decide +kernel)) <|
  allq qX12_divide 18 (.inl (a_il 4 20)) (s_iload (i := 4) (by decide +kernel)) <|
  allq qX12_divide 20 (.inl (a_iald 21)) (s_iald (by decide +kernel)) <|
  allq qX12_divide 21 (.inl (a_il 2 22)) (s_iload_n (q := 2) (i := 2) rfl (by decide +kernel)) <|
  allq qX12_divide 22 (.inl (o_ishl 23)) (s_ishl (by decide +kernel)) <|
  allq qX12_divide 23 (.inl (a_is 5 25)) (s_istore (i := 5) (by decide +kernel) (by decide)) <|
  allq qX12_divide 25 (.inl (a_al 0 26)) (s_aload_n (q := 0) (i := 0) rfl (by decide +kernel)) <|
  allq qX12_divide 26 (.inl (a_get 11 45 29)) (gX12 (f0 := 45) (by decide) kw_1230 (by decide +kernel)) <|
  allq qX12_divide 29 (.inl (a_il 4 31)) (s_iload (i := 4) (by decide +kernel)) <|
  allq qX12_divide 31 (.inl (a_il 5 33)) (s_iload (i := 5) (by decide +kernel)) <|
  allq qX12_divide 33 (.inl (o_if_ne 40 36)) (s_if_ne (off := 7) (by decide +kernel) (by decide)) <|
  allq qX12_divide 36 (.inl (a_ic 0 37)) (s_iconst (n := 0) (v := 0) rfl (by decide +kernel)) <|
  allq qX12_divide 37 (.inl (a_go 54)) (s_goto (off := 17) (by decide +kernel) (by decide)) <|
  allq qX12_divide 40 (.inl (a_il 5 42)) (s_iload (i := 5) (by decide +kernel)) <|
  allq qX12_divide 42 (.inl (a_il 1 43)) (s_iload_n (q := 1) (i := 1) rfl (by decide +kernel)) <|
  allq qX12_divide 43 (.inl (o_icmp_ge 50 46)) (s_icmp_ge (off := 7) (by decide +kernel) (by decide)) <|
  allq qX12_divide 46 (.inl (a_ic (-1) 47)) (s_iconst (n := (-1)) (v := (-1)) rfl (by decide +kernel)) <|
  allq qX12_divide 47 (.inl (a_go 54)) (s_goto (off := 7) (by decide +kernel) (by decide)) <|
  allq qX12_divide 50 (.inl (a_il 5 52)) (s_iload (i := 5) (by decide +kernel)) <|
  allq qX12_divide 52 (.inl (a_il 1 53)) (s_iload_n (q := 1) (i := 1) rfl (by decide +kernel)) <|
  allq qX12_divide 53 (.inl (o_idiv 54)) (s_idiv (by decide +kernel)) <|
  allq qX12_divide 54 (.inl (a_iast 55)) (s_iast (by decide +kernel)) <|
  allq qX12_divide 55 (.inl (a_al 0 56)) (s_aload_n (q := 0) (i := 0) rfl (by decide +kernel)) <|
  allq qX12_divide 56 (.inl (a_get 11 46 59)) (gX12 (f0 := 46) (by decide) kw_1231 (by decide +kernel)) <|
  allq qX12_divide 59 (.inl (a_il 4 61)) (s_iload (i := 4) (by decide +kernel)) <|
  allq qX12_divide 61 (.inl (a_il 5 63)) (s_iload (i := 5) (by decide +kernel)) <|
  allq qX12_divide 63 (.inl (a_il 1 64)) (s_iload_n (q := 1) (i := 1) rfl (by decide +kernel)) <|
  allq qX12_divide 64 (.inl (o_irem 65)) (s_irem (by decide +kernel)) <|
  allq qX12_divide 65 (.inl (a_iast 66)) (s_iast (by decide +kernel)) <|
  allq qX12_divide 66 (.inl (a_al 0 67)) (s_aload_n (q := 0) (i := 0) rfl (by decide +kernel)) <|
  alln
set_option maxRecDepth 20000 in
theorem kX12_divide_1 : ∀ q ∈ tX12_divide_1, qX12_divide q :=
  allq qX12_divide 67 (.inl (a_get 11 47 70)) (gX12 (f0 := 47) (by decide) kw_1232 (by decide +kernel)) <|
  allq qX12_divide 70 (.inl (a_il 4 72)) (s_iload (i := 4) (by decide +kernel)) <|
  allq qX12_divide 72 (.inl (a_ic 0 73)) (s_iconst (n := 0) (v := 0) rfl (by decide +kernel)) <|
  allq qX12_divide 73 (.inl (a_zast 74)) (s_zast (by decide +kernel)) <|
  allq qX12_divide 74 (.inl (a_il 3 75)) (s_iload_n (q := 3) (i := 3) rfl (by decide +kernel)) <|
  allq qX12_divide 75 (.inl (a_al 0 76)) (s_aload_n (q := 0) (i := 0) rfl (by decide +kernel)) <|
  allq qX12_divide 76 (.inl (a_get 11 45 79)) (gX12 (f0 := 45) (by decide) kw_1230 (by decide +kernel)) <|
  allq qX12_divide 79 (.inl (a_il 4 81)) (s_iload (i := 4) (by decide +kernel)) <|
  allq qX12_divide 81 (.inl (a_iald 82)) (s_iald (by decide +kernel)) <|
  allq qX12_divide 82 (.inr (.inl (164, 1, 0))) (okS (y := yX12_mass) kw_1523 kw_118 rfl (by decide +kernel) kw_1522 (Or.inl kw_1521)) <|
  allq qX12_divide 85 (.inl (o_isub 86)) (s_isub (by decide +kernel)) <|
  allq qX12_divide 86 (.inl (a_is 3 87)) (s_istore_n (q := 3) (i := 3) rfl (by decide +kernel) (by decide)) <|
  allq qX12_divide 87 (.inl (a_inc 4 1 90)) (s_iinc (i := 4) (n := 1) (n2 := 1) rfl (by decide +kernel) (by decide)) <|
  allq qX12_divide 90 (.inl (a_go 7)) (s_goto (off := (-83)) (by decide +kernel) (by decide)) <|
  allq qX12_divide 93 (.inl (a_il 3 94)) (s_iload_n (q := 3) (i := 3) rfl (by decide +kernel)) <|
  allq qX12_divide 94 (.inl (o_if_le 219 97)) (s_if_le (off := 125) (by decide +kernel) (by decide)) <|
  allq qX12_divide 97 (.inl (a_ic (-1) 98)) (s_iconst (n := (-1)) (v := (-1)) rfl (by decide +kernel)) <|
  allq qX12_divide 98 (.inl (a_is 4 100)) (s_istore (i := 4) (by decide +kernel) (by decide)) <|
  allq qX12_divide 100 (.inl (a_ic 0 101)) (s_iconst (n := 0) (v := 0) rfl (by decide +kernel)) <|
  allq qX12_divide 101 (.inl (a_is 5 103)) (s_istore (i := 5) (by decide +kernel) (by decide)) <|
  allq qX12_divide 103 (.inl (a_il 5 105)) (s_iload (i := 5) (by decide +kernel)) <|
  allq qX12_divide 105 (.inl (a_ic 64 107)) (s_bipush (n := 64) (v := 64) rfl (by decide +kernel)) <|
  allq qX12_divide 107 (.inl (o_icmp_ge 162 110)) (s_icmp_ge (off := 55) (by decide +kernel) (by decide)) <|
  allq qX12_divide 110 (.inl (a_al 0 111)) (s_aload_n (q := 0) (i := 0) rfl (by decide +kernel)) <|
  allq qX12_divide 111 (.inl (a_get 11 45 114)) (gX12 (f0 := 45) (by decide) kw_1230 (by decide +kernel)) <|
  allq qX12_divide 114 (.inl (a_il 5 116)) (s_iload (i := 5) (by decide +kernel)) <|
  allq qX12_divide 116 (.inl (a_iald 117)) (s_iald (by decide +kernel)) <|
  allq qX12_divide 117 (.inl (o_if_le 156 120)) (s_if_le (off := 39) (by decide +kernel) (by decide)) <|
  allq qX12_divide 120 (.inl (a_al 0 121)) (s_aload_n (q := 0) (i := 0) rfl (by decide +kernel)) <|
  allq qX12_divide 121 (.inl (a_get 11 47 124)) (gX12 (f0 := 47) (by decide) kw_1232 (by decide +kernel)) <|
  allq qX12_divide 124 (.inl (a_il 5 126)) (s_iload (i := 5) (by decide +kernel)) <|
  allq qX12_divide 126 (.inl (a_zald 127)) (s_zald (by decide +kernel)) <|
  allq qX12_divide 127 (.inl (o_if_ne 156 130)) (s_if_ne (off := 29) (by decide +kernel) (by decide)) <|
  allq qX12_divide 130 (.inl (a_il 4 132)) (s_iload (i := 4) (by decide +kernel)) <|
  allq qX12_divide 132 (.inl (o_if_lt 152 135)) (s_if_lt (off := 20) (by decide +kernel) (by decide)) <|
  allq qX12_divide 135 (.inl (a_al 0 136)) (s_aload_n (q := 0) (i := 0) rfl (by decide +kernel)) <|
  allq qX12_divide 136 (.inl (a_get 11 46 139)) (gX12 (f0 := 46) (by decide) kw_1231 (by decide +kernel)) <|
  allq qX12_divide 139 (.inl (a_il 5 141)) (s_iload (i := 5) (by decide +kernel)) <|
  allq qX12_divide 141 (.inl (a_iald 142)) (s_iald (by decide +kernel)) <|
  allq qX12_divide 142 (.inl (a_al 0 143)) (s_aload_n (q := 0) (i := 0) rfl (by decide +kernel)) <|
  alln
set_option maxRecDepth 20000 in
theorem kX12_divide_2 : ∀ q ∈ tX12_divide_2, qX12_divide q :=
  allq qX12_divide 143 (.inl (a_get 11 46 146)) (gX12 (f0 := 46) (by decide) kw_1231 (by decide +kernel)) <|
  allq qX12_divide 146 (.inl (a_il 4 148)) (s_iload (i := 4) (by decide +kernel)) <|
  allq qX12_divide 148 (.inl (a_iald 149)) (s_iald (by decide +kernel)) <|
  allq qX12_divide 149 (.inl (o_icmp_le 156 152)) (s_icmp_le (off := 7) (by decide +kernel) (by decide)) <|
  allq qX12_divide 152 (.inl (a_il 5 154)) (s_iload (i := 5) (by decide +kernel)) <|
  allq qX12_divide 154 (.inl (a_is 4 156)) (s_istore (i := 4) (by decide +kernel) (by decide)) <|
  allq qX12_divide 156 (.inl (a_inc 5 1 159)) (s_iinc (i := 5) (n := 1) (n2 := 1) rfl (by decide +kernel) (by decide)) <|
  allq qX12_divide 159 (.inl (a_go 103)) (s_goto (off := (-56)) (by decide +kernel) (by decide)) <|
  allq qX12_divide 162 (.inl (a_il 4 164)) (s_iload (i := 4) (by decide +kernel)) <|
  allq qX12_divide 164 (.inl (o_if_ge 194 167)) (s_if_ge (off := 30) (by decide +kernel) (by decide)) <|
  allq qX12_divide 167 (.inl (a_ic 0 168)) (s_iconst (n := 0) (v := 0) rfl (by decide +kernel)) <|
  allq qX12_divide 168 (.inl (a_is 5 170)) (s_istore (i := 5) (by decide +kernel) (by decide)) <|
  allq qX12_divide 170 (.inl (a_il 5 172)) (s_iload (i := 5) (by decide +kernel)) <|
  allq qX12_divide 172 (.inl (a_ic 64 174)) (s_bipush (n := 64) (v := 64) rfl (by decide +kernel)) <|
  allq qX12_divide 174 (.inl (o_icmp_ge 191 177)) (s_icmp_ge (off := 17) (by decide +kernel) (by decide)) <|
  allq qX12_divide 177 (.inl (a_al 0 178)) (s_aload_n (q := 0) (i := 0) rfl (by decide +kernel)) <|
  allq qX12_divide 178 (.inl (a_get 11 47 181)) (gX12 (f0 := 47) (by decide) kw_1232 (by decide +kernel)) <|
  allq qX12_divide 181 (.inl (a_il 5 183)) (s_iload (i := 5) (by decide +kernel)) <|
  allq qX12_divide 183 (.inl (a_ic 0 184)) (s_iconst (n := 0) (v := 0) rfl (by decide +kernel)) <|
  allq qX12_divide 184 (.inl (a_zast 185)) (s_zast (by decide +kernel)) <|
  allq qX12_divide 185 (.inl (a_inc 5 1 188)) (s_iinc (i := 5) (n := 1) (n2 := 1) rfl (by decide +kernel) (by decide)) <|
  allq qX12_divide 188 (.inl (a_go 170)) (s_goto (off := (-18)) (by decide +kernel) (by decide)) <|
  allq qX12_divide 191 (.inl (a_go 93)) (s_goto (off := (-98)) (by decide +kernel) (by decide)) <|
  allq qX12_divide 194 (.inl (a_al 0 195)) (s_aload_n (q := 0) (i := 0) rfl (by decide +kernel)) <|
  allq qX12_divide 195 (.inl (a_get 11 45 198)) (gX12 (f0 := 45) (by decide) kw_1230 (by decide +kernel)) <|
  allq qX12_divide 198 (.inl (a_il 4 200)) (s_iload (i := 4) (by decide +kernel)) <|
  allq qX12_divide 200 (.inl (a_dup2 201)) (s_dup2 (by decide +kernel)) <|
  allq qX12_divide 201 (.inl (a_iald 202)) (s_iald (by decide +kernel)) <|
  allq qX12_divide 202 (.inl (a_ic 1 203)) (s_iconst (n := 1) (v := 1) rfl (by decide +kernel)) <|
  allq qX12_divide 203 (.inl (o_iadd 204)) (s_iadd (by decide +kernel)) <|
  allq qX12_divide 204 (.inl (a_iast 205)) (s_iast (by decide +kernel)) <|
  allq qX12_divide 205 (.inl (a_al 0 206)) (s_aload_n (q := 0) (i := 0) rfl (by decide +kernel)) <|
  allq qX12_divide 206 (.inl (a_get 11 47 209)) (gX12 (f0 := 47) (by decide) kw_1232 (by decide +kernel)) <|
  allq qX12_divide 209 (.inl (a_il 4 211)) (s_iload (i := 4) (by decide +kernel)) <|
  allq qX12_divide 211 (.inl (a_ic 1 212)) (s_iconst (n := 1) (v := 1) rfl (by decide +kernel)) <|
  allq qX12_divide 212 (.inl (a_zast 213)) (s_zast (by decide +kernel)) <|
  allq qX12_divide 213 (.inl (a_inc 3 (-1) 216)) (s_iinc (i := 3) (n := (-1)) (n2 := (-1)) rfl (by decide +kernel) (by decide)) <|
  allq qX12_divide 216 (.inl (a_go 93)) (s_goto (off := (-123)) (by decide +kernel) (by decide)) <|
  allq qX12_divide 219 (.inl (a_il 3 220)) (s_iload_n (q := 3) (i := 3) rfl (by decide +kernel)) <|
  allq qX12_divide 220 (.inl (o_if_ge 285 223)) (s_if_ge (off := 65) (by decide +kernel) (by decide)) <|
  alln
set_option maxRecDepth 20000 in
theorem kX12_divide_3 : ∀ q ∈ tX12_divide_3, qX12_divide q :=
  allq qX12_divide 223 (.inl (a_ic 0 224)) (s_iconst (n := 0) (v := 0) rfl (by decide +kernel)) <|
  allq qX12_divide 224 (.inl (a_is 4 226)) (s_istore (i := 4) (by decide +kernel) (by decide)) <|
  allq qX12_divide 226 (.inl (a_ic 1 227)) (s_iconst (n := 1) (v := 1) rfl (by decide +kernel)) <|
  allq qX12_divide 227 (.inl (a_is 5 229)) (s_istore (i := 5) (by decide +kernel) (by decide)) <|
  allq qX12_divide 229 (.inl (a_il 5 231)) (s_iload (i := 5) (by decide +kernel)) <|
  allq qX12_divide 231 (.inl (a_ic 64 233)) (s_bipush (n := 64) (v := 64) rfl (by decide +kernel)) <|
  allq qX12_divide 233 (.inl (o_icmp_ge 268 236)) (s_icmp_ge (off := 35) (by decide +kernel) (by decide)) <|
  allq qX12_divide 236 (.inl (a_al 0 237)) (s_aload_n (q := 0) (i := 0) rfl (by decide +kernel)) <|
  allq qX12_divide 237 (.inl (a_get 11 45 240)) (gX12 (f0 := 45) (by decide) kw_1230 (by decide +kernel)) <|
  allq qX12_divide 240 (.inl (a_il 5 242)) (s_iload (i := 5) (by decide +kernel)) <|
  allq qX12_divide 242 (.inl (a_iald 243)) (s_iald (by decide +kernel)) <|
  allq qX12_divide 243 (.inl (a_al 0 244)) (s_aload_n (q := 0) (i := 0) rfl (by decide +kernel)) <|
  allq qX12_divide 244 (.inl (a_get 11 45 247)) (gX12 (f0 := 45) (by decide) kw_1230 (by decide +kernel)) <|
  allq qX12_divide 247 (.inl (a_il 4 249)) (s_iload (i := 4) (by decide +kernel)) <|
  allq qX12_divide 249 (.inl (a_iald 250)) (s_iald (by decide +kernel)) <|
  allq qX12_divide 250 (.inl (o_icmp_le 258 253)) (s_icmp_le (off := 8) (by decide +kernel) (by decide)) <|
  allq qX12_divide 253 (.inl (a_il 5 255)) (s_iload (i := 5) (by decide +kernel)) <|
  allq qX12_divide 255 (.inl (a_go 260)) (s_goto (off := 5) (by decide +kernel) (by decide)) <|
  allq qX12_divide 258 (.inl (a_il 4 260)) (s_iload (i := 4) (by decide +kernel)) <|
  allq qX12_divide 260 (.inl (a_is 4 262)) (s_istore (i := 4) (by decide +kernel) (by decide)) <|
  allq qX12_divide 262 (.inl (a_inc 5 1 265)) (s_iinc (i := 5) (n := 1) (n2 := 1) rfl (by decide +kernel) (by decide)) <|
  allq qX12_divide 265 (.inl (a_go 229)) (s_goto (off := (-36)) (by decide +kernel) (by decide)) <|
  allq qX12_divide 268 (.inl (a_al 0 269)) (s_aload_n (q := 0) (i := 0) rfl (by decide +kernel)) <|
  allq qX12_divide 269 (.inl (a_get 11 45 272)) (gX12 (f0 := 45) (by decide) kw_1230 (by decide +kernel)) <|
  allq qX12_divide 272 (.inl (a_il 4 274)) (s_iload (i := 4) (by decide +kernel)) <|
  allq qX12_divide 274 (.inl (a_dup2 275)) (s_dup2 (by decide +kernel)) <|
  allq qX12_divide 275 (.inl (a_iald 276)) (s_iald (by decide +kernel)) <|
  allq qX12_divide 276 (.inl (a_ic 1 277)) (s_iconst (n := 1) (v := 1) rfl (by decide +kernel)) <|
  allq qX12_divide 277 (.inl (o_isub 278)) (s_isub (by decide +kernel)) <|
  allq qX12_divide 278 (.inl (a_iast 279)) (s_iast (by decide +kernel)) <|
  allq qX12_divide 279 (.inl (a_inc 3 1 282)) (s_iinc (i := 3) (n := 1) (n2 := 1) rfl (by decide +kernel) (by decide)) <|
  allq qX12_divide 282 (.inl (a_go 219)) (s_goto (off := (-63)) (by decide +kernel) (by decide)) <|
  allq qX12_divide 285 (.inr (.inr 0)) (Or.inl ⟨rfl, rfl, by decide +kernel⟩) <|
  alln
theorem kX12_divide : ∀ q ∈ tX12_divide, qX12_divide q := alla kX12_divide_0 (alla kX12_divide_1 (alla kX12_divide_2 kX12_divide_3))
