/-! each entry is one that the machine does (printed by a program) -/
set_option maxRecDepth 20000 in
theorem kX0_init_0 : ∀ q ∈ tX0_init_0, OkQ RX0 "<init>" cX0_init 1 (none) q :=
  allc (a := (0, .inl (a_al 0 1))) (s_aload_n rfl (by decide +kernel)) <|
  allc (a := (1, .inl (a_oi 4))) (s_oi kw_176 kw_126 kw_127 (by decide +kernel)) <|
  allc (a := (4, .inl (a_al 0 5))) (s_aload_n rfl (by decide +kernel)) <|
  allc (a := (5, .inl (a_ic 256 8))) (s_sipush (n := 256) rfl (by decide +kernel)) <|
  allc (a := (8, .inl (a_newa 1 10))) (na_int kw_197 (by decide +kernel)) <|
  allc (a := (10, .inl (a_put 0 0 (.array .int) 13))) (fX0 (f0 := 0) (by decide) rfl rfl rfl tOk kw_177 (by decide +kernel)) <|
  allc (a := (13, .inl (a_al 0 14))) (s_aload_n rfl (by decide +kernel)) <|
  allc (a := (14, .inl (a_ic 256 17))) (s_sipush (n := 256) rfl (by decide +kernel)) <|
  allc (a := (17, .inl (a_newa 1 19))) (na_int kw_197 (by decide +kernel)) <|
  allc (a := (19, .inl (a_put 0 1 (.array .int) 22))) (fX0 (f0 := 1) (by decide) rfl rfl rfl tOk kw_180 (by decide +kernel)) <|
  allc (a := (22, .inl (a_al 0 23))) (s_aload_n rfl (by decide +kernel)) <|
  allc (a := (23, .inl (a_ic 13 25))) (s_bipush (n := 13) rfl (by decide +kernel)) <|
  allc (a := (25, .inl (a_newa 1 27))) (na_int kw_197 (by decide +kernel)) <|
  allc (a := (27, .inl (a_put 0 2 (.array .int) 30))) (fX0 (f0 := 2) (by decide) rfl rfl rfl tOk kw_181 (by decide +kernel)) <|
  allc (a := (30, .inr (.inr 0))) (Or.inl ⟨rfl, rfl, by decide +kernel⟩) <|
  alln
theorem kX0_init : ∀ q ∈ tX0_init, OkQ RX0 "<init>" cX0_init 1 (none) q := kX0_init_0
set_option maxRecDepth 20000 in
theorem kX0_become_0 : ∀ q ∈ tX0_become_0, OkQ RX0 "become" cX0_become 2 (none) q :=
  allc (a := (0, .inl (a_al 0 1))) (s_aload_n rfl (by decide +kernel)) <|
  allc (a := (1, .inl (a_al 1 2))) (s_aload_n rfl (by decide +kernel)) <|
  allc (a := (2, .inl (a_get 0 4 5))) (gX0 (f0 := 4) (by decide) kw_183 (by decide +kernel)) <|
  allc (a := (5, .inl (a_put 0 4 .boolean 8))) (pX0 (f0 := 4) (by decide) rfl rfl tOk kw_183 (by decide +kernel)) <|
  allc (a := (8, .inl (a_al 0 9))) (s_aload_n rfl (by decide +kernel)) <|
  allc (a := (9, .inl (a_get 0 4 12))) (gX0 (f0 := 4) (by decide) kw_183 (by decide +kernel)) <|
  allc (a := (12, .inl (o_if_eq 59 15))) (s_if_eq (by decide +kernel) (by decide)) <|
  allc (a := (15, .inl (a_al 0 16))) (s_aload_n rfl (by decide +kernel)) <|
  allc (a := (16, .inl (a_al 1 17))) (s_aload_n rfl (by decide +kernel)) <|
  allc (a := (17, .inl (a_get 0 3 20))) (gX0 (f0 := 3) (by decide) kw_182 (by decide +kernel)) <|
  allc (a := (20, .inl (a_put 0 3 .int 23))) (pX0 (f0 := 3) (by decide) rfl rfl tOk kw_182 (by decide +kernel)) <|
  allc (a := (23, .inl (a_al 1 24))) (s_aload_n rfl (by decide +kernel)) <|
  allc (a := (24, .inl (a_get 0 0 27))) (gX0 (f0 := 0) (by decide) kw_177 (by decide +kernel)) <|
  allc (a := (27, .inl (a_ic 0 28))) (s_iconst (n := 0) rfl (by decide +kernel)) <|
  allc (a := (28, .inl (a_al 0 29))) (s_aload_n rfl (by decide +kernel)) <|
  allc (a := (29, .inl (a_get 0 0 32))) (gX0 (f0 := 0) (by decide) kw_177 (by decide +kernel)) <|
  allc (a := (32, .inl (a_ic 0 33))) (s_iconst (n := 0) rfl (by decide +kernel)) <|
  allc (a := (33, .inl (a_al 0 34))) (s_aload_n rfl (by decide +kernel)) <|
  allc (a := (34, .inl (a_get 0 0 37))) (gX0 (f0 := 0) (by decide) kw_177 (by decide +kernel)) <|
  allc (a := (37, .inl (a_len 38))) (s_len (by decide +kernel)) <|
  allc (a := (38, .inl (a_copy 1 41))) (cp1 kw_751 kw_502 kw_501 kw_117 (by decide +kernel)) <|
  allc (a := (41, .inl (a_al 1 42))) (s_aload_n rfl (by decide +kernel)) <|
  allc (a := (42, .inl (a_get 0 1 45))) (gX0 (f0 := 1) (by decide) kw_180 (by decide +kernel)) <|
  allc (a := (45, .inl (a_ic 0 46))) (s_iconst (n := 0) rfl (by decide +kernel)) <|
  allc (a := (46, .inl (a_al 0 47))) (s_aload_n rfl (by decide +kernel)) <|
  allc (a := (47, .inl (a_get 0 1 50))) (gX0 (f0 := 1) (by decide) kw_180 (by decide +kernel)) <|
  allc (a := (50, .inl (a_ic 0 51))) (s_iconst (n := 0) rfl (by decide +kernel)) <|
  allc (a := (51, .inl (a_al 0 52))) (s_aload_n rfl (by decide +kernel)) <|
  allc (a := (52, .inl (a_get 0 1 55))) (gX0 (f0 := 1) (by decide) kw_180 (by decide +kernel)) <|
  allc (a := (55, .inl (a_len 56))) (s_len (by decide +kernel)) <|
  allc (a := (56, .inl (a_copy 1 59))) (cp1 kw_751 kw_502 kw_501 kw_117 (by decide +kernel)) <|
  allc (a := (59, .inr (.inr 0))) (Or.inl ⟨rfl, rfl, by decide +kernel⟩) <|
  alln
theorem kX0_become : ∀ q ∈ tX0_become, OkQ RX0 "become" cX0_become 2 (none) q := kX0_become_0
set_option maxRecDepth 20000 in
theorem kX0_weight_0 : ∀ q ∈ tX0_weight_0, OkQ RX0 "weight" cX0_weight 2 (some .int) q :=
  allc (a := (0, .inl (a_al 0 1))) (s_aload_n rfl (by decide +kernel)) <|
  allc (a := (1, .inl (a_get 0 0 4))) (gX0 (f0 := 0) (by decide) kw_177 (by decide +kernel)) <|
  allc (a := (4, .inl (a_il 1 5))) (s_iload_n rfl (by decide +kernel)) <|
  allc (a := (5, .inl (a_iald 6))) (s_iald (by decide +kernel)) <|
  allc (a := (6, .inl (o_if_ne 13 9))) (s_if_ne (by decide +kernel) (by decide)) <|
  allc (a := (9, .inl (a_ic 0 10))) (s_iconst (n := 0) rfl (by decide +kernel)) <|
  allc (a := (10, .inl (a_go 26))) (s_goto (by decide +kernel) (by decide)) <|
  allc (a := (13, .inl (a_al 0 14))) (s_aload_n rfl (by decide +kernel)) <|
  allc (a := (14, .inl (a_get 0 3 17))) (gX0 (f0 := 3) (by decide) kw_182 (by decide +kernel)) <|
  allc (a := (17, .inl (a_ic 1 18))) (s_iconst (n := 1) rfl (by decide +kernel)) <|
  allc (a := (18, .inl (o_iadd 19))) (s_iadd (by decide +kernel)) <|
  allc (a := (19, .inl (a_al 0 20))) (s_aload_n rfl (by decide +kernel)) <|
  allc (a := (20, .inl (a_get 0 0 23))) (gX0 (f0 := 0) (by decide) kw_177 (by decide +kernel)) <|
  allc (a := (23, .inl (a_il 1 24))) (s_iload_n rfl (by decide +kernel)) <|
  allc (a := (24, .inl (a_iald 25))) (s_iald (by decide +kernel)) <|
  allc (a := (25, .inl (o_isub 26))) (s_isub (by decide +kernel)) <|
  allc (a := (26, .inr (.inr 1))) (Or.inr (Or.inl ⟨rfl, rfl, by decide +kernel⟩)) <|
  alln
theorem kX0_weight : ∀ q ∈ tX0_weight, OkQ RX0 "weight" cX0_weight 2 (some .int) q := kX0_weight_0
set_option maxRecDepth 20000 in
theorem kX0_settle_0 : ∀ q ∈ tX0_settle_0, OkQ RX0 "settle" cX0_settle 4 (none) q :=
  allc (a := (0, .inl (a_al 0 1))) (s_aload_n rfl (by decide +kernel)) <|
  allc (a := (1, .inl (a_il 1 2))) (s_iload_n rfl (by decide +kernel)) <|
  allc (a := (2, .inl (a_ic 11 4))) (s_bipush (n := 11) rfl (by decide +kernel)) <|
  allc (a := (4, .inl (o_mmin 7))) (s_mmin kw_704 kw_498 kw_106 kw_499 (by decide +kernel)) <|
  allc (a := (7, .inl (a_put 0 3 .int 10))) (pX0 (f0 := 3) (by decide) rfl rfl tOk kw_182 (by decide +kernel)) <|
  allc (a := (10, .inl (a_al 0 11))) (s_aload_n rfl (by decide +kernel)) <|
  allc (a := (11, .inl (a_get 0 2 14))) (gX0 (f0 := 2) (by decide) kw_181 (by decide +kernel)) <|
  allc (a := (14, .inl (a_ic 0 15))) (s_iconst (n := 0) rfl (by decide +kernel)) <|
  allc (a := (15, .inr (.inl (224, 2, 0)))) (okS (y := yJ7_fill_53178) kw_496 kw_116 rfl (by decide +kernel) kw_495 (Or.inl kw_705)) <|
  allc (a := (18, .inl (a_ic 0 19))) (s_iconst (n := 0) rfl (by decide +kernel)) <|
  allc (a := (19, .inl (a_is 2 20))) (s_istore_n rfl (by decide +kernel) (by decide)) <|
  allc (a := (20, .inl (a_il 2 21))) (s_iload_n rfl (by decide +kernel)) <|
  allc (a := (21, .inl (a_al 0 22))) (s_aload_n rfl (by decide +kernel)) <|
  allc (a := (22, .inl (a_get 0 0 25))) (gX0 (f0 := 0) (by decide) kw_177 (by decide +kernel)) <|
  allc (a := (25, .inl (a_len 26))) (s_len (by decide +kernel)) <|
  allc (a := (26, .inl (o_icmp_ge 61 29))) (s_icmp_ge (by decide +kernel) (by decide)) <|
  allc (a := (29, .inl (a_al 0 30))) (s_aload_n rfl (by decide +kernel)) <|
  allc (a := (30, .inl (a_il 2 31))) (s_iload_n rfl (by decide +kernel)) <|
  allc (a := (31, .inr (.inl (2, 2, 1)))) (okV (y := yX0_weight) kw_709 kw_108 rfl rfl (by decide +kernel) kw_707 kw_708 kw_706) <|
  allc (a := (34, .inl (a_is 3 35))) (s_istore_n rfl (by decide +kernel) (by decide)) <|
  allc (a := (35, .inl (a_il 3 36))) (s_iload_n rfl (by decide +kernel)) <|
  allc (a := (36, .inl (o_if_le 55 39))) (s_if_le (by decide +kernel) (by decide)) <|
  allc (a := (39, .inl (a_al 0 40))) (s_aload_n rfl (by decide +kernel)) <|
  allc (a := (40, .inl (a_get 0 2 43))) (gX0 (f0 := 2) (by decide) kw_181 (by decide +kernel)) <|
  allc (a := (43, .inl (a_il 3 44))) (s_iload_n rfl (by decide +kernel)) <|
  allc (a := (44, .inl (a_ic 1 45))) (s_iconst (n := 1) rfl (by decide +kernel)) <|
  allc (a := (45, .inl (o_iadd 46))) (s_iadd (by decide +kernel)) <|
  allc (a := (46, .inl (a_dup2 47))) (s_dup2 (by decide +kernel)) <|
  allc (a := (47, .inl (a_iald 48))) (s_iald (by decide +kernel)) <|
  allc (a := (48, .inl (a_ic 1 49))) (s_iconst (n := 1) rfl (by decide +kernel)) <|
  allc (a := (49, .inl (a_il 3 50))) (s_iload_n rfl (by decide +kernel)) <|
  allc (a := (50, .inl (a_ic 1 51))) (s_iconst (n := 1) rfl (by decide +kernel)) <|
  allc (a := (51, .inl (o_isub 52))) (s_isub (by decide +kernel)) <|
  allc (a := (52, .inl (o_ishl 53))) (s_ishl (by decide +kernel)) <|
  allc (a := (53, .inl (o_iadd 54))) (s_iadd (by decide +kernel)) <|
  allc (a := (54, .inl (a_iast 55))) (s_iast (by decide +kernel)) <|
  allc (a := (55, .inl (a_inc 2 1 58))) (s_iinc rfl (by decide +kernel) (by decide)) <|
  allc (a := (58, .inl (a_go 20))) (s_goto (by decide +kernel) (by decide)) <|
  allc (a := (61, .inl (a_ic 1 62))) (s_iconst (n := 1) rfl (by decide +kernel)) <|
  allc (a := (62, .inl (a_is 2 63))) (s_istore_n rfl (by decide +kernel) (by decide)) <|
  alln
set_option maxRecDepth 20000 in
theorem kX0_settle_1 : ∀ q ∈ tX0_settle_1, OkQ RX0 "settle" cX0_settle 4 (none) q :=
  allc (a := (63, .inl (a_il 2 64))) (s_iload_n rfl (by decide +kernel)) <|
  allc (a := (64, .inl (a_al 0 65))) (s_aload_n rfl (by decide +kernel)) <|
  allc (a := (65, .inl (a_get 0 2 68))) (gX0 (f0 := 2) (by decide) kw_181 (by decide +kernel)) <|
  allc (a := (68, .inl (a_len 69))) (s_len (by decide +kernel)) <|
  allc (a := (69, .inl (o_icmp_ge 95 72))) (s_icmp_ge (by decide +kernel) (by decide)) <|
  allc (a := (72, .inl (a_al 0 73))) (s_aload_n rfl (by decide +kernel)) <|
  allc (a := (73, .inl (a_get 0 2 76))) (gX0 (f0 := 2) (by decide) kw_181 (by decide +kernel)) <|
  allc (a := (76, .inl (a_il 2 77))) (s_iload_n rfl (by decide +kernel)) <|
  allc (a := (77, .inl (a_dup2 78))) (s_dup2 (by decide +kernel)) <|
  allc (a := (78, .inl (a_iald 79))) (s_iald (by decide +kernel)) <|
  allc (a := (79, .inl (a_al 0 80))) (s_aload_n rfl (by decide +kernel)) <|
  allc (a := (80, .inl (a_get 0 2 83))) (gX0 (f0 := 2) (by decide) kw_181 (by decide +kernel)) <|
  allc (a := (83, .inl (a_il 2 84))) (s_iload_n rfl (by decide +kernel)) <|
  allc (a := (84, .inl (a_ic 1 85))) (s_iconst (n := 1) rfl (by decide +kernel)) <|
  allc (a := (85, .inl (o_isub 86))) (s_isub (by decide +kernel)) <|
  allc (a := (86, .inl (a_iald 87))) (s_iald (by decide +kernel)) <|
  allc (a := (87, .inl (o_iadd 88))) (s_iadd (by decide +kernel)) <|
  allc (a := (88, .inl (a_iast 89))) (s_iast (by decide +kernel)) <|
  allc (a := (89, .inl (a_inc 2 1 92))) (s_iinc rfl (by decide +kernel) (by decide)) <|
  allc (a := (92, .inl (a_go 63))) (s_goto (by decide +kernel) (by decide)) <|
  allc (a := (95, .inl (a_ic 0 96))) (s_iconst (n := 0) rfl (by decide +kernel)) <|
  allc (a := (96, .inl (a_is 2 97))) (s_istore_n rfl (by decide +kernel) (by decide)) <|
  allc (a := (97, .inl (a_il 2 98))) (s_iload_n rfl (by decide +kernel)) <|
  allc (a := (98, .inl (a_al 0 99))) (s_aload_n rfl (by decide +kernel)) <|
  allc (a := (99, .inl (a_get 0 0 102))) (gX0 (f0 := 0) (by decide) kw_177 (by decide +kernel)) <|
  allc (a := (102, .inl (a_len 103))) (s_len (by decide +kernel)) <|
  allc (a := (103, .inl (o_icmp_ge 152 106))) (s_icmp_ge (by decide +kernel) (by decide)) <|
  allc (a := (106, .inl (a_al 0 107))) (s_aload_n rfl (by decide +kernel)) <|
  allc (a := (107, .inl (a_il 2 108))) (s_iload_n rfl (by decide +kernel)) <|
  allc (a := (108, .inr (.inl (2, 2, 1)))) (okV (y := yX0_weight) kw_709 kw_108 rfl rfl (by decide +kernel) kw_707 kw_708 kw_706) <|
  allc (a := (111, .inl (a_is 3 112))) (s_istore_n rfl (by decide +kernel) (by decide)) <|
  allc (a := (112, .inl (a_il 3 113))) (s_iload_n rfl (by decide +kernel)) <|
  allc (a := (113, .inl (o_if_le 146 116))) (s_if_le (by decide +kernel) (by decide)) <|
  allc (a := (116, .inl (a_al 0 117))) (s_aload_n rfl (by decide +kernel)) <|
  allc (a := (117, .inl (a_get 0 1 120))) (gX0 (f0 := 1) (by decide) kw_180 (by decide +kernel)) <|
  allc (a := (120, .inl (a_il 2 121))) (s_iload_n rfl (by decide +kernel)) <|
  allc (a := (121, .inl (a_al 0 122))) (s_aload_n rfl (by decide +kernel)) <|
  allc (a := (122, .inl (a_get 0 2 125))) (gX0 (f0 := 2) (by decide) kw_181 (by decide +kernel)) <|
  allc (a := (125, .inl (a_il 3 126))) (s_iload_n rfl (by decide +kernel)) <|
  allc (a := (126, .inl (a_iald 127))) (s_iald (by decide +kernel)) <|
  alln
set_option maxRecDepth 20000 in
theorem kX0_settle_2 : ∀ q ∈ tX0_settle_2, OkQ RX0 "settle" cX0_settle 4 (none) q :=
  allc (a := (127, .inl (a_il 3 128))) (s_iload_n rfl (by decide +kernel)) <|
  allc (a := (128, .inl (a_ic 1 129))) (s_iconst (n := 1) rfl (by decide +kernel)) <|
  allc (a := (129, .inl (o_isub 130))) (s_isub (by decide +kernel)) <|
  allc (a := (130, .inl (o_ishr 131))) (s_ishr (by decide +kernel)) <|
  allc (a := (131, .inl (a_iast 132))) (s_iast (by decide +kernel)) <|
  allc (a := (132, .inl (a_al 0 133))) (s_aload_n rfl (by decide +kernel)) <|
  allc (a := (133, .inl (a_get 0 2 136))) (gX0 (f0 := 2) (by decide) kw_181 (by decide +kernel)) <|
  allc (a := (136, .inl (a_il 3 137))) (s_iload_n rfl (by decide +kernel)) <|
  allc (a := (137, .inl (a_dup2 138))) (s_dup2 (by decide +kernel)) <|
  allc (a := (138, .inl (a_iald 139))) (s_iald (by decide +kernel)) <|
  allc (a := (139, .inl (a_ic 1 140))) (s_iconst (n := 1) rfl (by decide +kernel)) <|
  allc (a := (140, .inl (a_il 3 141))) (s_iload_n rfl (by decide +kernel)) <|
  allc (a := (141, .inl (a_ic 1 142))) (s_iconst (n := 1) rfl (by decide +kernel)) <|
  allc (a := (142, .inl (o_isub 143))) (s_isub (by decide +kernel)) <|
  allc (a := (143, .inl (o_ishl 144))) (s_ishl (by decide +kernel)) <|
  allc (a := (144, .inl (o_iadd 145))) (s_iadd (by decide +kernel)) <|
  allc (a := (145, .inl (a_iast 146))) (s_iast (by decide +kernel)) <|
  allc (a := (146, .inl (a_inc 2 1 149))) (s_iinc rfl (by decide +kernel) (by decide)) <|
  allc (a := (149, .inl (a_go 97))) (s_goto (by decide +kernel) (by decide)) <|
  allc (a := (152, .inl (a_al 0 153))) (s_aload_n rfl (by decide +kernel)) <|
  allc (a := (153, .inl (a_ic 1 154))) (s_iconst (n := 1) rfl (by decide +kernel)) <|
  allc (a := (154, .inl (a_put 0 4 .boolean 157))) (pX0 (f0 := 4) (by decide) rfl rfl tOk kw_183 (by decide +kernel)) <|
  allc (a := (157, .inr (.inr 0))) (Or.inl ⟨rfl, rfl, by decide +kernel⟩) <|
  alln
theorem kX0_settle : ∀ q ∈ tX0_settle, OkQ RX0 "settle" cX0_settle 4 (none) q := alla kX0_settle_0 (alla kX0_settle_1 kX0_settle_2)
set_option maxRecDepth 20000 in
theorem kX0_canTell_0 : ∀ q ∈ tX0_canTell_0, OkQ RX0 "canTell" cX0_canTell 3 (some .boolean) q :=
  allc (a := (0, .inl (a_al 0 1))) (s_aload_n rfl (by decide +kernel)) <|
  allc (a := (1, .inl (a_get 0 4 4))) (gX0 (f0 := 4) (by decide) kw_183 (by decide +kernel)) <|
  allc (a := (4, .inl (o_if_ne 9 7))) (s_if_ne (by decide +kernel) (by decide)) <|
  allc (a := (7, .inl (a_ic 0 8))) (s_iconst (n := 0) rfl (by decide +kernel)) <|
  allc (a := (8, .inr (.inr 3))) (Or.inr (Or.inr (Or.inr ⟨rfl, rfl, by decide +kernel⟩))) <|
  allc (a := (9, .inl (a_ic 0 10))) (s_iconst (n := 0) rfl (by decide +kernel)) <|
  allc (a := (10, .inl (a_is 2 11))) (s_istore_n rfl (by decide +kernel) (by decide)) <|
  allc (a := (11, .inl (a_il 2 12))) (s_iload_n rfl (by decide +kernel)) <|
  allc (a := (12, .inl (a_al 1 13))) (s_aload_n rfl (by decide +kernel)) <|
  allc (a := (13, .inl (a_len 14))) (s_len (by decide +kernel)) <|
  allc (a := (14, .inl (o_icmp_ge 49 17))) (s_icmp_ge (by decide +kernel) (by decide)) <|
  allc (a := (17, .inl (a_il 2 18))) (s_iload_n rfl (by decide +kernel)) <|
  allc (a := (18, .inl (a_al 0 19))) (s_aload_n rfl (by decide +kernel)) <|
  allc (a := (19, .inl (a_get 0 0 22))) (gX0 (f0 := 0) (by decide) kw_177 (by decide +kernel)) <|
  allc (a := (22, .inl (a_len 23))) (s_len (by decide +kernel)) <|
  allc (a := (23, .inl (o_icmp_ge 49 26))) (s_icmp_ge (by decide +kernel) (by decide)) <|
  allc (a := (26, .inl (a_al 1 27))) (s_aload_n rfl (by decide +kernel)) <|
  allc (a := (27, .inl (a_il 2 28))) (s_iload_n rfl (by decide +kernel)) <|
  allc (a := (28, .inl (a_iald 29))) (s_iald (by decide +kernel)) <|
  allc (a := (29, .inl (o_if_le 43 32))) (s_if_le (by decide +kernel) (by decide)) <|
  allc (a := (32, .inl (a_al 0 33))) (s_aload_n rfl (by decide +kernel)) <|
  allc (a := (33, .inl (a_get 0 0 36))) (gX0 (f0 := 0) (by decide) kw_177 (by decide +kernel)) <|
  allc (a := (36, .inl (a_il 2 37))) (s_iload_n rfl (by decide +kernel)) <|
  allc (a := (37, .inl (a_iald 38))) (s_iald (by decide +kernel)) <|
  allc (a := (38, .inl (o_if_ne 43 41))) (s_if_ne (by decide +kernel) (by decide)) <|
  allc (a := (41, .inl (a_ic 0 42))) (s_iconst (n := 0) rfl (by decide +kernel)) <|
  allc (a := (42, .inr (.inr 3))) (Or.inr (Or.inr (Or.inr ⟨rfl, rfl, by decide +kernel⟩))) <|
  allc (a := (43, .inl (a_inc 2 1 46))) (s_iinc rfl (by decide +kernel) (by decide)) <|
  allc (a := (46, .inl (a_go 11))) (s_goto (by decide +kernel) (by decide)) <|
  allc (a := (49, .inl (a_ic 1 50))) (s_iconst (n := 1) rfl (by decide +kernel)) <|
  allc (a := (50, .inr (.inr 3))) (Or.inr (Or.inr (Or.inr ⟨rfl, rfl, by decide +kernel⟩))) <|
  alln
theorem kX0_canTell : ∀ q ∈ tX0_canTell, OkQ RX0 "canTell" cX0_canTell 3 (some .boolean) q := kX0_canTell_0
set_option maxRecDepth 20000 in
theorem kX0_streamBytes_0 : ∀ q ∈ tX0_streamBytes_0, OkQ RX0 "streamBytes" cX0_streamBytes 6 (some .int) q :=
  allc (a := (0, .inl (a_ic 0 1))) (s_iconst (n := 0) rfl (by decide +kernel)) <|
  allc (a := (1, .inl (a_is 4 3))) (s_istore (by decide +kernel) (by decide)) <|
  allc (a := (3, .inl (a_il 2 4))) (s_iload_n rfl (by decide +kernel)) <|
  allc (a := (4, .inl (a_is 5 6))) (s_istore (by decide +kernel) (by decide)) <|
  allc (a := (6, .inl (a_il 5 8))) (s_iload (by decide +kernel)) <|
  allc (a := (8, .inl (a_il 3 9))) (s_iload_n rfl (by decide +kernel)) <|
  allc (a := (9, .inl (o_icmp_ge 36 12))) (s_icmp_ge (by decide +kernel) (by decide)) <|
  allc (a := (12, .inl (a_il 4 14))) (s_iload (by decide +kernel)) <|
  allc (a := (14, .inl (a_al 0 15))) (s_aload_n rfl (by decide +kernel)) <|
  allc (a := (15, .inl (a_get 0 0 18))) (gX0 (f0 := 0) (by decide) kw_177 (by decide +kernel)) <|
  allc (a := (18, .inl (a_al 1 19))) (s_aload_n rfl (by decide +kernel)) <|
  allc (a := (19, .inl (a_il 5 21))) (s_iload (by decide +kernel)) <|
  allc (a := (21, .inl (a_bald 22))) (s_bald (by decide +kernel)) <|
  allc (a := (22, .inl (a_ic 255 25))) (s_sipush (n := 255) rfl (by decide +kernel)) <|
  allc (a := (25, .inl (o_iand 26))) (s_iand (by decide +kernel)) <|
  allc (a := (26, .inl (a_iald 27))) (s_iald (by decide +kernel)) <|
  allc (a := (27, .inl (o_iadd 28))) (s_iadd (by decide +kernel)) <|
  allc (a := (28, .inl (a_is 4 30))) (s_istore (by decide +kernel) (by decide)) <|
  allc (a := (30, .inl (a_inc 5 1 33))) (s_iinc rfl (by decide +kernel) (by decide)) <|
  allc (a := (33, .inl (a_go 6))) (s_goto (by decide +kernel) (by decide)) <|
  allc (a := (36, .inl (a_il 4 38))) (s_iload (by decide +kernel)) <|
  allc (a := (38, .inl (a_ic 8 40))) (s_bipush (n := 8) rfl (by decide +kernel)) <|
  allc (a := (40, .inl (o_idiv 41))) (s_idiv (by decide +kernel)) <|
  allc (a := (41, .inl (a_ic 1 42))) (s_iconst (n := 1) rfl (by decide +kernel)) <|
  allc (a := (42, .inl (o_iadd 43))) (s_iadd (by decide +kernel)) <|
  allc (a := (43, .inr (.inr 1))) (Or.inr (Or.inl ⟨rfl, rfl, by decide +kernel⟩)) <|
  alln
theorem kX0_streamBytes : ∀ q ∈ tX0_streamBytes, OkQ RX0 "streamBytes" cX0_streamBytes 6 (some .int) q := kX0_streamBytes_0
set_option maxRecDepth 20000 in
theorem kX0_putStream_0 : ∀ q ∈ tX0_putStream_0, OkQ RX0 "putStream" cX0_putStream 7 (none) q :=
  allc (a := (0, .inl (a_il 4 2))) (s_iload (by decide +kernel)) <|
  allc (a := (2, .inl (a_ic 1 3))) (s_iconst (n := 1) rfl (by decide +kernel)) <|
  allc (a := (3, .inl (o_isub 4))) (s_isub (by decide +kernel)) <|
  allc (a := (4, .inl (a_is 5 6))) (s_istore (by decide +kernel) (by decide)) <|
  allc (a := (6, .inl (a_il 5 8))) (s_iload (by decide +kernel)) <|
  allc (a := (8, .inl (a_il 3 9))) (s_iload_n rfl (by decide +kernel)) <|
  allc (a := (9, .inl (o_icmp_lt 46 12))) (s_icmp_lt (by decide +kernel) (by decide)) <|
  allc (a := (12, .inl (a_al 2 13))) (s_aload_n rfl (by decide +kernel)) <|
  allc (a := (13, .inl (a_il 5 15))) (s_iload (by decide +kernel)) <|
  allc (a := (15, .inl (a_bald 16))) (s_bald (by decide +kernel)) <|
  allc (a := (16, .inl (a_ic 255 19))) (s_sipush (n := 255) rfl (by decide +kernel)) <|
  allc (a := (19, .inl (o_iand 20))) (s_iand (by decide +kernel)) <|
  allc (a := (20, .inl (a_is 6 22))) (s_istore (by decide +kernel) (by decide)) <|
  allc (a := (22, .inl (a_al 1 23))) (s_aload_n rfl (by decide +kernel)) <|
  allc (a := (23, .inl (a_al 0 24))) (s_aload_n rfl (by decide +kernel)) <|
  allc (a := (24, .inl (a_get 0 1 27))) (gX0 (f0 := 1) (by decide) kw_180 (by decide +kernel)) <|
  allc (a := (27, .inl (a_il 6 29))) (s_iload (by decide +kernel)) <|
  allc (a := (29, .inl (a_iald 30))) (s_iald (by decide +kernel)) <|
  allc (a := (30, .inl (a_al 0 31))) (s_aload_n rfl (by decide +kernel)) <|
  allc (a := (31, .inl (a_get 0 0 34))) (gX0 (f0 := 0) (by decide) kw_177 (by decide +kernel)) <|
  allc (a := (34, .inl (a_il 6 36))) (s_iload (by decide +kernel)) <|
  allc (a := (36, .inl (a_iald 37))) (s_iald (by decide +kernel)) <|
  allc (a := (37, .inr (.inl (91, 3, 8)))) (okV (y := yX7_addBits) kw_921 kw_105 rfl rfl (by decide +kernel) kw_919 kw_920 kw_1064) <|
  allc (a := (40, .inl (a_inc 5 (-1) 43))) (s_iinc rfl (by decide +kernel) (by decide)) <|
  allc (a := (43, .inl (a_go 6))) (s_goto (by decide +kernel) (by decide)) <|
  allc (a := (46, .inl (a_al 1 47))) (s_aload_n rfl (by decide +kernel)) <|
  allc (a := (47, .inr (.inl (93, 1, 8)))) (okV (y := yX7_endStream) kw_951 kw_105 rfl rfl (by decide +kernel) kw_949 kw_950 kw_1065) <|
  allc (a := (50, .inr (.inr 0))) (Or.inl ⟨rfl, rfl, by decide +kernel⟩) <|
  alln
theorem kX0_putStream : ∀ q ∈ tX0_putStream, OkQ RX0 "putStream" cX0_putStream 7 (none) q := kX0_putStream_0
set_option maxRecDepth 20000 in
theorem kX1_init_0 : ∀ q ∈ tX1_init_0, OkQ RX1 "<init>" cX1_init 5 (none) q :=
  allc (a := (0, .inl (a_al 0 1))) (s_aload_n rfl (by decide +kernel)) <|
  allc (a := (1, .inl (a_oi 4))) (s_oi kw_422 kw_126 kw_127 (by decide +kernel)) <|
  allc (a := (4, .inl (a_al 0 5))) (s_aload_n rfl (by decide +kernel)) <|
  allc (a := (5, .inl (a_ic 2667 8))) (s_sipush (n := 2667) rfl (by decide +kernel)) <|
  allc (a := (8, .inl (a_newa 1 10))) (na_int kw_197 (by decide +kernel)) <|
  allc (a := (10, .inl (a_put 1 3 (.array .int) 13))) (fX1 (f0 := 3) (by decide) rfl rfl rfl tOk kw_431 (by decide +kernel)) <|
  allc (a := (13, .inl (a_al 0 14))) (s_aload_n rfl (by decide +kernel)) <|
  allc (a := (14, .inl (a_ic 2667 17))) (s_sipush (n := 2667) rfl (by decide +kernel)) <|
  allc (a := (17, .inl (a_newa 1 19))) (na_int kw_197 (by decide +kernel)) <|
  allc (a := (19, .inl (a_put 1 4 (.array .int) 22))) (fX1 (f0 := 4) (by decide) rfl rfl rfl tOk kw_432 (by decide +kernel)) <|
  allc (a := (22, .inl (a_al 0 23))) (s_aload_n rfl (by decide +kernel)) <|
  allc (a := (23, .inl (a_new 7 5 zX7 26))) (nX7 kw_423 (by decide +kernel)) <|
  allc (a := (26, .inl (a_dup 27))) (s_dup (by decide +kernel)) <|
  allc (a := (27, .inl (a_ic 128 30))) (s_sipush (n := 128) rfl (by decide +kernel)) <|
  allc (a := (30, .inr (.inl (85, 2, 8)))) (okN (y := yX7_init) kw_132 kw_105 rfl (by decide +kernel) kw_131 (Or.inl kw_424)) <|
  allc (a := (33, .inl (a_put 1 13 (.object "StatePress$Row") 36))) (fX1 (f0 := 13) (by decide) rfl rfl rfl tOk kw_441 (by decide +kernel)) <|
  allc (a := (36, .inl (a_al 0 37))) (s_aload_n rfl (by decide +kernel)) <|
  allc (a := (37, .inl (a_al 1 38))) (s_aload_n rfl (by decide +kernel)) <|
  allc (a := (38, .inl (a_put 1 0 (.array .int) 41))) (fX1 (f0 := 0) (by decide) rfl rfl rfl tOk kw_428 (by decide +kernel)) <|
  allc (a := (41, .inl (a_al 0 42))) (s_aload_n rfl (by decide +kernel)) <|
  allc (a := (42, .inl (a_al 2 43))) (s_aload_n rfl (by decide +kernel)) <|
  allc (a := (43, .inl (a_put 1 1 (.array .int) 46))) (fX1 (f0 := 1) (by decide) rfl rfl rfl tOk kw_429 (by decide +kernel)) <|
  allc (a := (46, .inl (a_al 0 47))) (s_aload_n rfl (by decide +kernel)) <|
  allc (a := (47, .inl (a_il 4 49))) (s_iload (by decide +kernel)) <|
  allc (a := (49, .inl (a_put 1 2 .int 52))) (fX1 (f0 := 2) (by decide) rfl rfl rfl tOk kw_430 (by decide +kernel)) <|
  allc (a := (52, .inl (a_al 0 53))) (s_aload_n rfl (by decide +kernel)) <|
  allc (a := (53, .inl (a_il 3 54))) (s_iload_n rfl (by decide +kernel)) <|
  allc (a := (54, .inl (a_ic 0 55))) (s_iconst (n := 0) rfl (by decide +kernel)) <|
  allc (a := (55, .inl (o_mmax 58))) (s_mmax kw_425 kw_135 kw_106 kw_136 (by decide +kernel)) <|
  allc (a := (58, .inl (a_ic 1 59))) (s_iconst (n := 1) rfl (by decide +kernel)) <|
  allc (a := (59, .inl (o_iadd 60))) (s_iadd (by decide +kernel)) <|
  allc (a := (60, .inl (a_newa 1 62))) (na_int kw_197 (by decide +kernel)) <|
  allc (a := (62, .inl (a_put 1 5 (.array .int) 65))) (fX1 (f0 := 5) (by decide) rfl rfl rfl tOk kw_433 (by decide +kernel)) <|
  allc (a := (65, .inl (a_al 0 66))) (s_aload_n rfl (by decide +kernel)) <|
  allc (a := (66, .inl (a_new 8 9 zX8 69))) (nX8 kw_426 (by decide +kernel)) <|
  allc (a := (69, .inl (a_dup 70))) (s_dup (by decide +kernel)) <|
  allc (a := (70, .inl (a_il 3 71))) (s_iload_n rfl (by decide +kernel)) <|
  allc (a := (71, .inl (a_il 4 73))) (s_iload (by decide +kernel)) <|
  allc (a := (73, .inr (.inl (97, 3, 9)))) (okN (y := yX8_init) kw_202 kw_109 rfl (by decide +kernel) kw_201 (Or.inl kw_427)) <|
  allc (a := (76, .inl (a_put 1 9 (.object "StatePress$Share") 79))) (fX1 (f0 := 9) (by decide) rfl rfl rfl tOk kw_437 (by decide +kernel)) <|
  alln
set_option maxRecDepth 20000 in
theorem kX1_init_1 : ∀ q ∈ tX1_init_1, OkQ RX1 "<init>" cX1_init 5 (none) q :=
  allc (a := (79, .inl (a_al 0 80))) (s_aload_n rfl (by decide +kernel)) <|
  allc (a := (80, .inl (a_new 8 9 zX8 83))) (nX8 kw_426 (by decide +kernel)) <|
  allc (a := (83, .inl (a_dup 84))) (s_dup (by decide +kernel)) <|
  allc (a := (84, .inl (a_il 3 85))) (s_iload_n rfl (by decide +kernel)) <|
  allc (a := (85, .inl (a_il 4 87))) (s_iload (by decide +kernel)) <|
  allc (a := (87, .inr (.inl (97, 3, 9)))) (okN (y := yX8_init) kw_202 kw_109 rfl (by decide +kernel) kw_201 (Or.inl kw_427)) <|
  allc (a := (90, .inl (a_put 1 10 (.object "StatePress$Share") 93))) (fX1 (f0 := 10) (by decide) rfl rfl rfl tOk kw_438 (by decide +kernel)) <|
  allc (a := (93, .inl (a_al 0 94))) (s_aload_n rfl (by decide +kernel)) <|
  allc (a := (94, .inl (a_new 8 9 zX8 97))) (nX8 kw_426 (by decide +kernel)) <|
  allc (a := (97, .inl (a_dup 98))) (s_dup (by decide +kernel)) <|
  allc (a := (98, .inl (a_il 3 99))) (s_iload_n rfl (by decide +kernel)) <|
  allc (a := (99, .inl (a_il 4 101))) (s_iload (by decide +kernel)) <|
  allc (a := (101, .inr (.inl (97, 3, 9)))) (okN (y := yX8_init) kw_202 kw_109 rfl (by decide +kernel) kw_201 (Or.inl kw_427)) <|
  allc (a := (104, .inl (a_put 1 11 (.object "StatePress$Share") 107))) (fX1 (f0 := 11) (by decide) rfl rfl rfl tOk kw_439 (by decide +kernel)) <|
  allc (a := (107, .inl (a_al 0 108))) (s_aload_n rfl (by decide +kernel)) <|
  allc (a := (108, .inl (a_al 0 109))) (s_aload_n rfl (by decide +kernel)) <|
  allc (a := (109, .inl (a_get 1 9 112))) (gX1 (f0 := 9) (by decide) kw_437 (by decide +kernel)) <|
  allc (a := (112, .inl (a_put 1 12 (.object "StatePress$Share") 115))) (pX1 (f0 := 12) (by decide) rfl rfl tOk kw_440 (by decide +kernel)) <|
  allc (a := (115, .inr (.inr 0))) (Or.inl ⟨rfl, rfl, by decide +kernel⟩) <|
  alln
theorem kX1_init : ∀ q ∈ tX1_init, OkQ RX1 "<init>" cX1_init 5 (none) q := alla kX1_init_0 kX1_init_1
set_option maxRecDepth 20000 in
theorem kX1_know_0 : ∀ q ∈ tX1_know_0, OkQ RX1 "know" cX1_know 3 (none) q :=
  allc (a := (0, .inl (a_al 0 1))) (s_aload_n rfl (by decide +kernel)) <|
  allc (a := (1, .inl (a_get 1 9 4))) (gX1 (f0 := 9) (by decide) kw_437 (by decide +kernel)) <|
  allc (a := (4, .inl (a_al 1 5))) (s_aload_n rfl (by decide +kernel)) <|
  allc (a := (5, .inl (a_il 2 6))) (s_iload_n rfl (by decide +kernel)) <|
  allc (a := (6, .inr (.inl (99, 3, 9)))) (okV (y := yX8_beOf) kw_493 kw_109 rfl rfl (by decide +kernel) kw_491 kw_492 kw_490) <|
  allc (a := (9, .inr (.inr 0))) (Or.inl ⟨rfl, rfl, by decide +kernel⟩) <|
  alln
theorem kX1_know : ∀ q ∈ tX1_know, OkQ RX1 "know" cX1_know 3 (none) q := kX1_know_0
set_option maxRecDepth 20000 in
theorem kX1_begin_0 : ∀ q ∈ tX1_begin_0, OkQ RX1 "begin" cX1_begin 2 (none) q :=
  allc (a := (0, .inl (a_al 0 1))) (s_aload_n rfl (by decide +kernel)) <|
  allc (a := (1, .inl (a_get 1 10 4))) (gX1 (f0 := 10) (by decide) kw_438 (by decide +kernel)) <|
  allc (a := (4, .inl (a_al 1 5))) (s_aload_n rfl (by decide +kernel)) <|
  allc (a := (5, .inr (.inl (98, 2, 9)))) (okV (y := yX8_become) kw_759 kw_109 rfl rfl (by decide +kernel) kw_757 kw_758 kw_756) <|
  allc (a := (8, .inr (.inr 0))) (Or.inl ⟨rfl, rfl, by decide +kernel⟩) <|
  alln
theorem kX1_begin : ∀ q ∈ tX1_begin, OkQ RX1 "begin" cX1_begin 2 (none) q := kX1_begin_0
set_option maxRecDepth 20000 in
theorem kX1_drop_0 : ∀ q ∈ tX1_drop_0, OkQ RX1 "drop" cX1_drop 1 (none) q :=
  allc (a := (0, .inl (a_al 0 1))) (s_aload_n rfl (by decide +kernel)) <|
  allc (a := (1, .inl (a_ic 0 2))) (s_iconst (n := 0) rfl (by decide +kernel)) <|
  allc (a := (2, .inl (a_put 1 6 .int 5))) (pX1 (f0 := 6) (by decide) rfl rfl tOk kw_434 (by decide +kernel)) <|
  allc (a := (5, .inl (a_al 0 6))) (s_aload_n rfl (by decide +kernel)) <|
  allc (a := (6, .inl (a_ic 0 7))) (s_iconst (n := 0) rfl (by decide +kernel)) <|
  allc (a := (7, .inl (a_put 1 7 .int 10))) (pX1 (f0 := 7) (by decide) rfl rfl tOk kw_435 (by decide +kernel)) <|
  allc (a := (10, .inl (a_al 0 11))) (s_aload_n rfl (by decide +kernel)) <|
  allc (a := (11, .inl (a_ic 0 12))) (s_iconst (n := 0) rfl (by decide +kernel)) <|
  allc (a := (12, .inl (a_put 1 8 .int 15))) (pX1 (f0 := 8) (by decide) rfl rfl tOk kw_436 (by decide +kernel)) <|
  allc (a := (15, .inl (a_al 0 16))) (s_aload_n rfl (by decide +kernel)) <|
  allc (a := (16, .inl (a_get 1 5 19))) (gX1 (f0 := 5) (by decide) kw_433 (by decide +kernel)) <|
  allc (a := (19, .inl (a_ic 0 20))) (s_iconst (n := 0) rfl (by decide +kernel)) <|
  allc (a := (20, .inr (.inl (224, 2, 0)))) (okS (y := yJ7_fill_53178) kw_496 kw_116 rfl (by decide +kernel) kw_495 (Or.inl kw_804)) <|
  allc (a := (23, .inr (.inr 0))) (Or.inl ⟨rfl, rfl, by decide +kernel⟩) <|
  alln
theorem kX1_drop : ∀ q ∈ tX1_drop, OkQ RX1 "drop" cX1_drop 1 (none) q := kX1_drop_0
set_option maxRecDepth 20000 in
theorem kX1_add_0 : ∀ q ∈ tX1_add_0, OkQ RX1 "add" cX1_add 3 (none) q :=
  allc (a := (0, .inl (a_ic 0 1))) (s_iconst (n := 0) rfl (by decide +kernel)) <|
  allc (a := (1, .inl (a_is 2 2))) (s_istore_n rfl (by decide +kernel) (by decide)) <|
  allc (a := (2, .inl (a_il 2 3))) (s_iload_n rfl (by decide +kernel)) <|
  allc (a := (3, .inl (a_ic 1 4))) (s_iconst (n := 1) rfl (by decide +kernel)) <|
  allc (a := (4, .inl (o_iadd 5))) (s_iadd (by decide +kernel)) <|
  allc (a := (5, .inl (a_al 0 6))) (s_aload_n rfl (by decide +kernel)) <|
  allc (a := (6, .inl (a_get 1 0 9))) (gX1 (f0 := 0) (by decide) kw_428 (by decide +kernel)) <|
  allc (a := (9, .inl (a_len 10))) (s_len (by decide +kernel)) <|
  allc (a := (10, .inl (o_icmp_ge 31 13))) (s_icmp_ge (by decide +kernel) (by decide)) <|
  allc (a := (13, .inl (a_al 0 14))) (s_aload_n rfl (by decide +kernel)) <|
  allc (a := (14, .inl (a_get 1 0 17))) (gX1 (f0 := 0) (by decide) kw_428 (by decide +kernel)) <|
  allc (a := (17, .inl (a_il 2 18))) (s_iload_n rfl (by decide +kernel)) <|
  allc (a := (18, .inl (a_ic 1 19))) (s_iconst (n := 1) rfl (by decide +kernel)) <|
  allc (a := (19, .inl (o_iadd 20))) (s_iadd (by decide +kernel)) <|
  allc (a := (20, .inl (a_iald 21))) (s_iald (by decide +kernel)) <|
  allc (a := (21, .inl (a_il 1 22))) (s_iload_n rfl (by decide +kernel)) <|
  allc (a := (22, .inl (o_icmp_gt 31 25))) (s_icmp_gt (by decide +kernel) (by decide)) <|
  allc (a := (25, .inl (a_inc 2 1 28))) (s_iinc rfl (by decide +kernel) (by decide)) <|
  allc (a := (28, .inl (a_go 2))) (s_goto (by decide +kernel) (by decide)) <|
  allc (a := (31, .inl (a_al 0 32))) (s_aload_n rfl (by decide +kernel)) <|
  allc (a := (32, .inl (a_get 1 6 35))) (gX1 (f0 := 6) (by decide) kw_434 (by decide +kernel)) <|
  allc (a := (35, .inl (a_al 0 36))) (s_aload_n rfl (by decide +kernel)) <|
  allc (a := (36, .inl (a_get 1 3 39))) (gX1 (f0 := 3) (by decide) kw_431 (by decide +kernel)) <|
  allc (a := (39, .inl (a_len 40))) (s_len (by decide +kernel)) <|
  allc (a := (40, .inl (o_icmp_ge 130 43))) (s_icmp_ge (by decide +kernel) (by decide)) <|
  allc (a := (43, .inl (a_il 2 44))) (s_iload_n rfl (by decide +kernel)) <|
  allc (a := (44, .inl (a_al 0 45))) (s_aload_n rfl (by decide +kernel)) <|
  allc (a := (45, .inl (a_get 1 5 48))) (gX1 (f0 := 5) (by decide) kw_433 (by decide +kernel)) <|
  allc (a := (48, .inl (a_len 49))) (s_len (by decide +kernel)) <|
  allc (a := (49, .inl (o_icmp_ge 130 52))) (s_icmp_ge (by decide +kernel) (by decide)) <|
  allc (a := (52, .inl (a_al 0 53))) (s_aload_n rfl (by decide +kernel)) <|
  allc (a := (53, .inl (a_get 1 3 56))) (gX1 (f0 := 3) (by decide) kw_431 (by decide +kernel)) <|
  allc (a := (56, .inl (a_al 0 57))) (s_aload_n rfl (by decide +kernel)) <|
  allc (a := (57, .inl (a_get 1 6 60))) (gX1 (f0 := 6) (by decide) kw_434 (by decide +kernel)) <|
  allc (a := (60, .inl (a_il 2 61))) (s_iload_n rfl (by decide +kernel)) <|
  allc (a := (61, .inl (a_iast 62))) (s_iast (by decide +kernel)) <|
  allc (a := (62, .inl (a_al 0 63))) (s_aload_n rfl (by decide +kernel)) <|
  allc (a := (63, .inl (a_get 1 4 66))) (gX1 (f0 := 4) (by decide) kw_432 (by decide +kernel)) <|
  allc (a := (66, .inl (a_al 0 67))) (s_aload_n rfl (by decide +kernel)) <|
  allc (a := (67, .inl (a_get 1 6 70))) (gX1 (f0 := 6) (by decide) kw_434 (by decide +kernel)) <|
  alln
set_option maxRecDepth 20000 in
theorem kX1_add_1 : ∀ q ∈ tX1_add_1, OkQ RX1 "add" cX1_add 3 (none) q :=
  allc (a := (70, .inl (a_il 1 71))) (s_iload_n rfl (by decide +kernel)) <|
  allc (a := (71, .inl (a_iast 72))) (s_iast (by decide +kernel)) <|
  allc (a := (72, .inl (a_al 0 73))) (s_aload_n rfl (by decide +kernel)) <|
  allc (a := (73, .inl (a_dup 74))) (s_dup (by decide +kernel)) <|
  allc (a := (74, .inl (a_get 1 6 77))) (gX1 (f0 := 6) (by decide) kw_434 (by decide +kernel)) <|
  allc (a := (77, .inl (a_ic 1 78))) (s_iconst (n := 1) rfl (by decide +kernel)) <|
  allc (a := (78, .inl (o_iadd 79))) (s_iadd (by decide +kernel)) <|
  allc (a := (79, .inl (a_put 1 6 .int 82))) (pX1 (f0 := 6) (by decide) rfl rfl tOk kw_434 (by decide +kernel)) <|
  allc (a := (82, .inl (a_al 0 83))) (s_aload_n rfl (by decide +kernel)) <|
  allc (a := (83, .inl (a_dup 84))) (s_dup (by decide +kernel)) <|
  allc (a := (84, .inl (a_get 1 7 87))) (gX1 (f0 := 7) (by decide) kw_435 (by decide +kernel)) <|
  allc (a := (87, .inl (a_al 0 88))) (s_aload_n rfl (by decide +kernel)) <|
  allc (a := (88, .inl (a_get 1 5 91))) (gX1 (f0 := 5) (by decide) kw_433 (by decide +kernel)) <|
  allc (a := (91, .inl (a_il 2 92))) (s_iload_n rfl (by decide +kernel)) <|
  allc (a := (92, .inl (a_iald 93))) (s_iald (by decide +kernel)) <|
  allc (a := (93, .inl (o_if_ne 100 96))) (s_if_ne (by decide +kernel) (by decide)) <|
  allc (a := (96, .inl (a_ic 1 97))) (s_iconst (n := 1) rfl (by decide +kernel)) <|
  allc (a := (97, .inl (a_go 101))) (s_goto (by decide +kernel) (by decide)) <|
  allc (a := (100, .inl (a_ic 0 101))) (s_iconst (n := 0) rfl (by decide +kernel)) <|
  allc (a := (101, .inl (o_iadd 102))) (s_iadd (by decide +kernel)) <|
  allc (a := (102, .inl (a_put 1 7 .int 105))) (pX1 (f0 := 7) (by decide) rfl rfl tOk kw_435 (by decide +kernel)) <|
  allc (a := (105, .inl (a_al 0 106))) (s_aload_n rfl (by decide +kernel)) <|
  allc (a := (106, .inl (a_get 1 5 109))) (gX1 (f0 := 5) (by decide) kw_433 (by decide +kernel)) <|
  allc (a := (109, .inl (a_il 2 110))) (s_iload_n rfl (by decide +kernel)) <|
  allc (a := (110, .inl (a_dup2 111))) (s_dup2 (by decide +kernel)) <|
  allc (a := (111, .inl (a_iald 112))) (s_iald (by decide +kernel)) <|
  allc (a := (112, .inl (a_ic 1 113))) (s_iconst (n := 1) rfl (by decide +kernel)) <|
  allc (a := (113, .inl (o_iadd 114))) (s_iadd (by decide +kernel)) <|
  allc (a := (114, .inl (a_iast 115))) (s_iast (by decide +kernel)) <|
  allc (a := (115, .inl (a_al 0 116))) (s_aload_n rfl (by decide +kernel)) <|
  allc (a := (116, .inl (a_dup 117))) (s_dup (by decide +kernel)) <|
  allc (a := (117, .inl (a_get 1 8 120))) (gX1 (f0 := 8) (by decide) kw_436 (by decide +kernel)) <|
  allc (a := (120, .inl (a_al 0 121))) (s_aload_n rfl (by decide +kernel)) <|
  allc (a := (121, .inl (a_get 1 1 124))) (gX1 (f0 := 1) (by decide) kw_429 (by decide +kernel)) <|
  allc (a := (124, .inl (a_il 2 125))) (s_iload_n rfl (by decide +kernel)) <|
  allc (a := (125, .inl (a_iald 126))) (s_iald (by decide +kernel)) <|
  allc (a := (126, .inl (o_iadd 127))) (s_iadd (by decide +kernel)) <|
  allc (a := (127, .inl (a_put 1 8 .int 130))) (pX1 (f0 := 8) (by decide) rfl rfl tOk kw_436 (by decide +kernel)) <|
  allc (a := (130, .inr (.inr 0))) (Or.inl ⟨rfl, rfl, by decide +kernel⟩) <|
  alln
theorem kX1_add : ∀ q ∈ tX1_add, OkQ RX1 "add" cX1_add 3 (none) q := alla kX1_add_0 kX1_add_1
set_option maxRecDepth 20000 in
theorem kX1_choose_0 : ∀ q ∈ tX1_choose_0, OkQ RX1 "choose" cX1_choose 2 (some .int) q :=
  allc (a := (0, .inl (a_al 0 1))) (s_aload_n rfl (by decide +kernel)) <|
  allc (a := (1, .inl (a_get 1 6 4))) (gX1 (f0 := 6) (by decide) kw_434 (by decide +kernel)) <|
  allc (a := (4, .inl (o_if_ne 9 7))) (s_if_ne (by decide +kernel) (by decide)) <|
  allc (a := (7, .inl (a_ic 0 8))) (s_iconst (n := 0) rfl (by decide +kernel)) <|
  allc (a := (8, .inr (.inr 1))) (Or.inr (Or.inl ⟨rfl, rfl, by decide +kernel⟩)) <|
  allc (a := (9, .inl (a_al 0 10))) (s_aload_n rfl (by decide +kernel)) <|
  allc (a := (10, .inl (a_ic 1073741824 12))) (s_ldc kw_962 (by decide +kernel)) <|
  allc (a := (12, .inl (a_put 1 15 .int 15))) (pX1 (f0 := 15) (by decide) rfl rfl tOk kw_444 (by decide +kernel)) <|
  allc (a := (15, .inl (a_al 0 16))) (s_aload_n rfl (by decide +kernel)) <|
  allc (a := (16, .inl (a_get 1 9 19))) (gX1 (f0 := 9) (by decide) kw_437 (by decide +kernel)) <|
  allc (a := (19, .inl (a_al 0 20))) (s_aload_n rfl (by decide +kernel)) <|
  allc (a := (20, .inl (a_get 1 5 23))) (gX1 (f0 := 5) (by decide) kw_433 (by decide +kernel)) <|
  allc (a := (23, .inr (.inl (107, 2, 9)))) (okV (y := yX8_canTell) kw_966 kw_109 rfl rfl (by decide +kernel) kw_964 kw_965 kw_963) <|
  allc (a := (26, .inl (o_if_eq 53 29))) (s_if_eq (by decide +kernel) (by decide)) <|
  allc (a := (29, .inl (a_al 0 30))) (s_aload_n rfl (by decide +kernel)) <|
  allc (a := (30, .inl (a_ic 0 31))) (s_iconst (n := 0) rfl (by decide +kernel)) <|
  allc (a := (31, .inl (a_al 0 32))) (s_aload_n rfl (by decide +kernel)) <|
  allc (a := (32, .inl (a_get 1 9 35))) (gX1 (f0 := 9) (by decide) kw_437 (by decide +kernel)) <|
  allc (a := (35, .inl (a_al 0 36))) (s_aload_n rfl (by decide +kernel)) <|
  allc (a := (36, .inl (a_get 1 9 39))) (gX1 (f0 := 9) (by decide) kw_437 (by decide +kernel)) <|
  allc (a := (39, .inl (a_al 0 40))) (s_aload_n rfl (by decide +kernel)) <|
  allc (a := (40, .inl (a_get 1 3 43))) (gX1 (f0 := 3) (by decide) kw_431 (by decide +kernel)) <|
  allc (a := (43, .inl (a_al 0 44))) (s_aload_n rfl (by decide +kernel)) <|
  allc (a := (44, .inl (a_get 1 6 47))) (gX1 (f0 := 6) (by decide) kw_434 (by decide +kernel)) <|
  allc (a := (47, .inr (.inl (111, 3, 9)))) (okV (y := yX8_rowBits) kw_970 kw_109 rfl rfl (by decide +kernel) kw_968 kw_969 kw_967) <|
  allc (a := (50, .inr (.inl (13, 4, 2)))) (okV (y := yX1_consider) kw_977 kw_115 rfl rfl (by decide +kernel) kw_976 kw_24 kw_974) <|
  allc (a := (53, .inl (a_al 0 54))) (s_aload_n rfl (by decide +kernel)) <|
  allc (a := (54, .inl (a_get 1 7 57))) (gX1 (f0 := 7) (by decide) kw_435 (by decide +kernel)) <|
  allc (a := (57, .inl (a_ic 1 58))) (s_iconst (n := 1) rfl (by decide +kernel)) <|
  allc (a := (58, .inl (o_icmp_ne 72 61))) (s_icmp_ne (by decide +kernel) (by decide)) <|
  allc (a := (61, .inl (a_al 0 62))) (s_aload_n rfl (by decide +kernel)) <|
  allc (a := (62, .inl (a_ic 1 63))) (s_iconst (n := 1) rfl (by decide +kernel)) <|
  allc (a := (63, .inl (a_al 0 64))) (s_aload_n rfl (by decide +kernel)) <|
  allc (a := (64, .inl (a_get 1 11 67))) (gX1 (f0 := 11) (by decide) kw_439 (by decide +kernel)) <|
  allc (a := (67, .inl (a_ic 8 69))) (s_bipush (n := 8) rfl (by decide +kernel)) <|
  allc (a := (69, .inr (.inl (13, 4, 2)))) (okV (y := yX1_consider) kw_977 kw_115 rfl rfl (by decide +kernel) kw_976 kw_24 kw_974) <|
  allc (a := (72, .inl (a_al 0 73))) (s_aload_n rfl (by decide +kernel)) <|
  allc (a := (73, .inl (a_al 0 74))) (s_aload_n rfl (by decide +kernel)) <|
  allc (a := (74, .inl (a_get 1 15 77))) (gX1 (f0 := 15) (by decide) kw_444 (by decide +kernel)) <|
  allc (a := (77, .inr (.inl (14, 2, 2)))) (okV (y := yX1_orderBelow) kw_981 kw_115 rfl rfl (by decide +kernel) kw_980 kw_25 kw_978) <|
  alln
set_option maxRecDepth 20000 in
theorem kX1_choose_1 : ∀ q ∈ tX1_choose_1, OkQ RX1 "choose" cX1_choose 2 (some .int) q :=
  allc (a := (80, .inl (a_is 1 81))) (s_istore_n rfl (by decide +kernel) (by decide)) <|
  allc (a := (81, .inl (a_il 1 82))) (s_iload_n rfl (by decide +kernel)) <|
  allc (a := (82, .inl (o_if_le 98 85))) (s_if_le (by decide +kernel) (by decide)) <|
  allc (a := (85, .inl (a_al 0 86))) (s_aload_n rfl (by decide +kernel)) <|
  allc (a := (86, .inl (a_ic 2 87))) (s_iconst (n := 2) rfl (by decide +kernel)) <|
  allc (a := (87, .inl (a_al 0 88))) (s_aload_n rfl (by decide +kernel)) <|
  allc (a := (88, .inl (a_get 1 11 91))) (gX1 (f0 := 11) (by decide) kw_439 (by decide +kernel)) <|
  allc (a := (91, .inl (a_al 0 92))) (s_aload_n rfl (by decide +kernel)) <|
  allc (a := (92, .inl (a_get 1 16 95))) (gX1 (f0 := 16) (by decide) kw_445 (by decide +kernel)) <|
  allc (a := (95, .inr (.inl (13, 4, 2)))) (okV (y := yX1_consider) kw_977 kw_115 rfl rfl (by decide +kernel) kw_976 kw_24 kw_974) <|
  allc (a := (98, .inl (a_al 0 99))) (s_aload_n rfl (by decide +kernel)) <|
  allc (a := (99, .inl (a_get 1 10 102))) (gX1 (f0 := 10) (by decide) kw_438 (by decide +kernel)) <|
  allc (a := (102, .inl (a_get 8 8 105))) (gX8 (f0 := 8) (by decide) kw_217 (by decide +kernel)) <|
  allc (a := (105, .inl (o_if_eq 146 108))) (s_if_eq (by decide +kernel) (by decide)) <|
  allc (a := (108, .inl (a_al 0 109))) (s_aload_n rfl (by decide +kernel)) <|
  allc (a := (109, .inl (a_get 1 10 112))) (gX1 (f0 := 10) (by decide) kw_438 (by decide +kernel)) <|
  allc (a := (112, .inl (a_al 0 113))) (s_aload_n rfl (by decide +kernel)) <|
  allc (a := (113, .inl (a_get 1 5 116))) (gX1 (f0 := 5) (by decide) kw_433 (by decide +kernel)) <|
  allc (a := (116, .inr (.inl (107, 2, 9)))) (okV (y := yX8_canTell) kw_966 kw_109 rfl rfl (by decide +kernel) kw_964 kw_965 kw_963) <|
  allc (a := (119, .inl (o_if_eq 146 122))) (s_if_eq (by decide +kernel) (by decide)) <|
  allc (a := (122, .inl (a_al 0 123))) (s_aload_n rfl (by decide +kernel)) <|
  allc (a := (123, .inl (a_ic 3 124))) (s_iconst (n := 3) rfl (by decide +kernel)) <|
  allc (a := (124, .inl (a_al 0 125))) (s_aload_n rfl (by decide +kernel)) <|
  allc (a := (125, .inl (a_get 1 10 128))) (gX1 (f0 := 10) (by decide) kw_438 (by decide +kernel)) <|
  allc (a := (128, .inl (a_al 0 129))) (s_aload_n rfl (by decide +kernel)) <|
  allc (a := (129, .inl (a_get 1 10 132))) (gX1 (f0 := 10) (by decide) kw_438 (by decide +kernel)) <|
  allc (a := (132, .inl (a_al 0 133))) (s_aload_n rfl (by decide +kernel)) <|
  allc (a := (133, .inl (a_get 1 3 136))) (gX1 (f0 := 3) (by decide) kw_431 (by decide +kernel)) <|
  allc (a := (136, .inl (a_al 0 137))) (s_aload_n rfl (by decide +kernel)) <|
  allc (a := (137, .inl (a_get 1 6 140))) (gX1 (f0 := 6) (by decide) kw_434 (by decide +kernel)) <|
  allc (a := (140, .inr (.inl (111, 3, 9)))) (okV (y := yX8_rowBits) kw_970 kw_109 rfl rfl (by decide +kernel) kw_968 kw_969 kw_967) <|
  allc (a := (143, .inr (.inl (13, 4, 2)))) (okV (y := yX1_consider) kw_977 kw_115 rfl rfl (by decide +kernel) kw_976 kw_24 kw_974) <|
  allc (a := (146, .inl (a_al 0 147))) (s_aload_n rfl (by decide +kernel)) <|
  allc (a := (147, .inl (a_get 1 14 150))) (gX1 (f0 := 14) (by decide) kw_442 (by decide +kernel)) <|
  allc (a := (150, .inl (a_ic 1 151))) (s_iconst (n := 1) rfl (by decide +kernel)) <|
  allc (a := (151, .inl (o_icmp_ne 170 154))) (s_icmp_ne (by decide +kernel) (by decide)) <|
  allc (a := (154, .inl (a_al 0 155))) (s_aload_n rfl (by decide +kernel)) <|
  allc (a := (155, .inl (a_get 1 11 158))) (gX1 (f0 := 11) (by decide) kw_439 (by decide +kernel)) <|
  allc (a := (158, .inl (a_al 0 159))) (s_aload_n rfl (by decide +kernel)) <|
  allc (a := (159, .inl (a_get 1 3 162))) (gX1 (f0 := 3) (by decide) kw_431 (by decide +kernel)) <|
  alln
set_option maxRecDepth 20000 in
theorem kX1_choose_2 : ∀ q ∈ tX1_choose_2, OkQ RX1 "choose" cX1_choose 2 (some .int) q :=
  allc (a := (162, .inl (a_ic 0 163))) (s_iconst (n := 0) rfl (by decide +kernel)) <|
  allc (a := (163, .inl (a_iald 164))) (s_iald (by decide +kernel)) <|
  allc (a := (164, .inr (.inl (100, 2, 9)))) (okV (y := yX8_beAlone) kw_990 kw_109 rfl rfl (by decide +kernel) kw_988 kw_989 kw_987) <|
  allc (a := (167, .inl (a_go 183))) (s_goto (by decide +kernel) (by decide)) <|
  allc (a := (170, .inl (a_al 0 171))) (s_aload_n rfl (by decide +kernel)) <|
  allc (a := (171, .inl (a_get 1 14 174))) (gX1 (f0 := 14) (by decide) kw_442 (by decide +kernel)) <|
  allc (a := (174, .inl (a_ic 2 175))) (s_iconst (n := 2) rfl (by decide +kernel)) <|
  allc (a := (175, .inl (o_icmp_ne 183 178))) (s_icmp_ne (by decide +kernel) (by decide)) <|
  allc (a := (178, .inl (a_al 0 179))) (s_aload_n rfl (by decide +kernel)) <|
  allc (a := (179, .inl (a_il 1 180))) (s_iload_n rfl (by decide +kernel)) <|
  allc (a := (180, .inr (.inl (15, 2, 2)))) (okV (y := yX1_form) kw_994 kw_115 rfl rfl (by decide +kernel) kw_993 kw_26 kw_991) <|
  allc (a := (183, .inl (a_al 0 184))) (s_aload_n rfl (by decide +kernel)) <|
  allc (a := (184, .inl (a_get 1 15 187))) (gX1 (f0 := 15) (by decide) kw_444 (by decide +kernel)) <|
  allc (a := (187, .inl (a_al 0 188))) (s_aload_n rfl (by decide +kernel)) <|
  allc (a := (188, .inl (a_get 1 8 191))) (gX1 (f0 := 8) (by decide) kw_436 (by decide +kernel)) <|
  allc (a := (191, .inl (o_iadd 192))) (s_iadd (by decide +kernel)) <|
  allc (a := (192, .inr (.inr 1))) (Or.inr (Or.inl ⟨rfl, rfl, by decide +kernel⟩)) <|
  alln
theorem kX1_choose : ∀ q ∈ tX1_choose, OkQ RX1 "choose" cX1_choose 2 (some .int) q := alla kX1_choose_0 (alla kX1_choose_1 kX1_choose_2)
set_option maxRecDepth 20000 in
theorem kX1_consider_0 : ∀ q ∈ tX1_consider_0, OkQ RX1 "consider" cX1_consider 4 (none) q :=
  allc (a := (0, .inl (a_il 3 1))) (s_iload_n rfl (by decide +kernel)) <|
  allc (a := (1, .inl (a_al 0 2))) (s_aload_n rfl (by decide +kernel)) <|
  allc (a := (2, .inl (a_get 1 15 5))) (gX1 (f0 := 15) (by decide) kw_444 (by decide +kernel)) <|
  allc (a := (5, .inl (o_icmp_ge 23 8))) (s_icmp_ge (by decide +kernel) (by decide)) <|
  allc (a := (8, .inl (a_al 0 9))) (s_aload_n rfl (by decide +kernel)) <|
  allc (a := (9, .inl (a_il 1 10))) (s_iload_n rfl (by decide +kernel)) <|
  allc (a := (10, .inl (a_put 1 14 .int 13))) (pX1 (f0 := 14) (by decide) rfl rfl tOk kw_442 (by decide +kernel)) <|
  allc (a := (13, .inl (a_al 0 14))) (s_aload_n rfl (by decide +kernel)) <|
  allc (a := (14, .inl (a_al 2 15))) (s_aload_n rfl (by decide +kernel)) <|
  allc (a := (15, .inl (a_put 1 12 (.object "StatePress$Share") 18))) (pX1 (f0 := 12) (by decide) rfl rfl tOk kw_440 (by decide +kernel)) <|
  allc (a := (18, .inl (a_al 0 19))) (s_aload_n rfl (by decide +kernel)) <|
  allc (a := (19, .inl (a_il 3 20))) (s_iload_n rfl (by decide +kernel)) <|
  allc (a := (20, .inl (a_put 1 15 .int 23))) (pX1 (f0 := 15) (by decide) rfl rfl tOk kw_444 (by decide +kernel)) <|
  allc (a := (23, .inr (.inr 0))) (Or.inl ⟨rfl, rfl, by decide +kernel⟩) <|
  alln
theorem kX1_consider : ∀ q ∈ tX1_consider, OkQ RX1 "consider" cX1_consider 4 (none) q := kX1_consider_0
set_option maxRecDepth 20000 in
theorem kX1_orderBelow_0 : ∀ q ∈ tX1_orderBelow_0, OkQ RX1 "orderBelow" cX1_orderBelow 5 (some .int) q :=
  allc (a := (0, .inl (a_ic 0 1))) (s_iconst (n := 0) rfl (by decide +kernel)) <|
  allc (a := (1, .inl (a_is 2 2))) (s_istore_n rfl (by decide +kernel) (by decide)) <|
  allc (a := (2, .inl (a_al 0 3))) (s_aload_n rfl (by decide +kernel)) <|
  allc (a := (3, .inl (a_il 1 4))) (s_iload_n rfl (by decide +kernel)) <|
  allc (a := (4, .inl (a_put 1 16 .int 7))) (pX1 (f0 := 16) (by decide) rfl rfl tOk kw_445 (by decide +kernel)) <|
  allc (a := (7, .inl (a_ic 5 8))) (s_iconst (n := 5) rfl (by decide +kernel)) <|
  allc (a := (8, .inl (a_is 3 9))) (s_istore_n rfl (by decide +kernel) (by decide)) <|
  allc (a := (9, .inl (a_il 3 10))) (s_iload_n rfl (by decide +kernel)) <|
  allc (a := (10, .inl (a_al 0 11))) (s_aload_n rfl (by decide +kernel)) <|
  allc (a := (11, .inl (a_get 1 2 14))) (gX1 (f0 := 2) (by decide) kw_430 (by decide +kernel)) <|
  allc (a := (14, .inl (o_icmp_gt 159 17))) (s_icmp_gt (by decide +kernel) (by decide)) <|
  allc (a := (17, .inl (a_ic 1 18))) (s_iconst (n := 1) rfl (by decide +kernel)) <|
  allc (a := (18, .inl (a_il 3 19))) (s_iload_n rfl (by decide +kernel)) <|
  allc (a := (19, .inl (o_ishl 20))) (s_ishl (by decide +kernel)) <|
  allc (a := (20, .inl (a_al 0 21))) (s_aload_n rfl (by decide +kernel)) <|
  allc (a := (21, .inl (a_get 1 7 24))) (gX1 (f0 := 7) (by decide) kw_435 (by decide +kernel)) <|
  allc (a := (24, .inl (o_icmp_lt 153 27))) (s_icmp_lt (by decide +kernel) (by decide)) <|
  allc (a := (27, .inl (a_ic 16 29))) (s_bipush (n := 16) rfl (by decide +kernel)) <|
  allc (a := (29, .inl (a_il 3 30))) (s_iload_n rfl (by decide +kernel)) <|
  allc (a := (30, .inl (o_iadd 31))) (s_iadd (by decide +kernel)) <|
  allc (a := (31, .inl (a_al 0 32))) (s_aload_n rfl (by decide +kernel)) <|
  allc (a := (32, .inl (a_get 1 16 35))) (gX1 (f0 := 16) (by decide) kw_445 (by decide +kernel)) <|
  allc (a := (35, .inl (o_icmp_lt 41 38))) (s_icmp_lt (by decide +kernel) (by decide)) <|
  allc (a := (38, .inl (a_go 153))) (s_goto (by decide +kernel) (by decide)) <|
  allc (a := (41, .inl (a_al 0 42))) (s_aload_n rfl (by decide +kernel)) <|
  allc (a := (42, .inl (a_get 1 11 45))) (gX1 (f0 := 11) (by decide) kw_439 (by decide +kernel)) <|
  allc (a := (45, .inl (a_al 0 46))) (s_aload_n rfl (by decide +kernel)) <|
  allc (a := (46, .inl (a_get 1 5 49))) (gX1 (f0 := 5) (by decide) kw_433 (by decide +kernel)) <|
  allc (a := (49, .inl (a_il 3 50))) (s_iload_n rfl (by decide +kernel)) <|
  allc (a := (50, .inr (.inl (101, 3, 9)))) (okV (y := yX8_weigh) kw_903 kw_109 rfl rfl (by decide +kernel) kw_901 kw_902 kw_982) <|
  allc (a := (53, .inl (a_al 0 54))) (s_aload_n rfl (by decide +kernel)) <|
  allc (a := (54, .inl (a_get 1 13 57))) (gX1 (f0 := 13) (by decide) kw_441 (by decide +kernel)) <|
  allc (a := (57, .inr (.inl (86, 1, 8)))) (okV (y := yX7_drop) kw_625 kw_105 rfl rfl (by decide +kernel) kw_623 kw_624 kw_983) <|
  allc (a := (60, .inl (a_al 0 61))) (s_aload_n rfl (by decide +kernel)) <|
  allc (a := (61, .inl (a_get 1 11 64))) (gX1 (f0 := 11) (by decide) kw_439 (by decide +kernel)) <|
  allc (a := (64, .inl (a_al 0 65))) (s_aload_n rfl (by decide +kernel)) <|
  allc (a := (65, .inl (a_get 1 13 68))) (gX1 (f0 := 13) (by decide) kw_441 (by decide +kernel)) <|
  allc (a := (68, .inr (.inl (114, 2, 9)))) (okV (y := yX8_tell) kw_917 kw_109 rfl rfl (by decide +kernel) kw_915 kw_916 kw_984) <|
  allc (a := (71, .inl (a_ic 8 73))) (s_bipush (n := 8) rfl (by decide +kernel)) <|
  allc (a := (73, .inl (a_al 0 74))) (s_aload_n rfl (by decide +kernel)) <|
  alln
set_option maxRecDepth 20000 in
theorem kX1_orderBelow_1 : ∀ q ∈ tX1_orderBelow_1, OkQ RX1 "orderBelow" cX1_orderBelow 5 (some .int) q :=
  allc (a := (74, .inl (a_get 1 13 77))) (gX1 (f0 := 13) (by decide) kw_441 (by decide +kernel)) <|
  allc (a := (77, .inl (a_get 7 1 80))) (gX7 (f0 := 1) (by decide) kw_146 (by decide +kernel)) <|
  allc (a := (80, .inl (o_imul 81))) (s_imul (by decide +kernel)) <|
  allc (a := (81, .inl (a_il 3 82))) (s_iload_n rfl (by decide +kernel)) <|
  allc (a := (82, .inl (o_iadd 83))) (s_iadd (by decide +kernel)) <|
  allc (a := (83, .inl (a_al 0 84))) (s_aload_n rfl (by decide +kernel)) <|
  allc (a := (84, .inl (a_get 1 16 87))) (gX1 (f0 := 16) (by decide) kw_445 (by decide +kernel)) <|
  allc (a := (87, .inl (o_icmp_ge 153 90))) (s_icmp_ge (by decide +kernel) (by decide)) <|
  allc (a := (90, .inl (a_al 0 91))) (s_aload_n rfl (by decide +kernel)) <|
  allc (a := (91, .inl (a_get 1 11 94))) (gX1 (f0 := 11) (by decide) kw_439 (by decide +kernel)) <|
  allc (a := (94, .inr (.inl (104, 1, 9)))) (okV (y := yX8_spread) kw_506 kw_109 rfl rfl (by decide +kernel) kw_504 kw_505 kw_985) <|
  allc (a := (97, .inl (a_ic 8 99))) (s_bipush (n := 8) rfl (by decide +kernel)) <|
  allc (a := (99, .inl (a_al 0 100))) (s_aload_n rfl (by decide +kernel)) <|
  allc (a := (100, .inl (a_get 1 13 103))) (gX1 (f0 := 13) (by decide) kw_441 (by decide +kernel)) <|
  allc (a := (103, .inl (a_get 7 1 106))) (gX7 (f0 := 1) (by decide) kw_146 (by decide +kernel)) <|
  allc (a := (106, .inl (o_imul 107))) (s_imul (by decide +kernel)) <|
  allc (a := (107, .inl (a_al 0 108))) (s_aload_n rfl (by decide +kernel)) <|
  allc (a := (108, .inl (a_get 1 11 111))) (gX1 (f0 := 11) (by decide) kw_439 (by decide +kernel)) <|
  allc (a := (111, .inl (a_al 0 112))) (s_aload_n rfl (by decide +kernel)) <|
  allc (a := (112, .inl (a_get 1 3 115))) (gX1 (f0 := 3) (by decide) kw_431 (by decide +kernel)) <|
  allc (a := (115, .inl (a_al 0 116))) (s_aload_n rfl (by decide +kernel)) <|
  allc (a := (116, .inl (a_get 1 6 119))) (gX1 (f0 := 6) (by decide) kw_434 (by decide +kernel)) <|
  allc (a := (119, .inr (.inl (111, 3, 9)))) (okV (y := yX8_rowBits) kw_970 kw_109 rfl rfl (by decide +kernel) kw_968 kw_969 kw_967) <|
  allc (a := (122, .inl (o_iadd 123))) (s_iadd (by decide +kernel)) <|
  allc (a := (123, .inl (a_is 4 125))) (s_istore (by decide +kernel) (by decide)) <|
  allc (a := (125, .inl (a_il 4 127))) (s_iload (by decide +kernel)) <|
  allc (a := (127, .inl (a_al 0 128))) (s_aload_n rfl (by decide +kernel)) <|
  allc (a := (128, .inl (a_get 1 16 131))) (gX1 (f0 := 16) (by decide) kw_445 (by decide +kernel)) <|
  allc (a := (131, .inl (o_icmp_ge 138 134))) (s_icmp_ge (by decide +kernel) (by decide)) <|
  allc (a := (134, .inl (a_il 3 135))) (s_iload_n rfl (by decide +kernel)) <|
  allc (a := (135, .inl (a_go 139))) (s_goto (by decide +kernel) (by decide)) <|
  allc (a := (138, .inl (a_il 2 139))) (s_iload_n rfl (by decide +kernel)) <|
  allc (a := (139, .inl (a_is 2 140))) (s_istore_n rfl (by decide +kernel) (by decide)) <|
  allc (a := (140, .inl (a_al 0 141))) (s_aload_n rfl (by decide +kernel)) <|
  allc (a := (141, .inl (a_il 4 143))) (s_iload (by decide +kernel)) <|
  allc (a := (143, .inl (a_al 0 144))) (s_aload_n rfl (by decide +kernel)) <|
  allc (a := (144, .inl (a_get 1 16 147))) (gX1 (f0 := 16) (by decide) kw_445 (by decide +kernel)) <|
  allc (a := (147, .inl (o_mmin 150))) (s_mmin kw_986 kw_498 kw_106 kw_499 (by decide +kernel)) <|
  allc (a := (150, .inl (a_put 1 16 .int 153))) (pX1 (f0 := 16) (by decide) rfl rfl tOk kw_445 (by decide +kernel)) <|
  allc (a := (153, .inl (a_inc 3 1 156))) (s_iinc rfl (by decide +kernel) (by decide)) <|
  alln
set_option maxRecDepth 20000 in
theorem kX1_orderBelow_2 : ∀ q ∈ tX1_orderBelow_2, OkQ RX1 "orderBelow" cX1_orderBelow 5 (some .int) q :=
  allc (a := (156, .inl (a_go 9))) (s_goto (by decide +kernel) (by decide)) <|
  allc (a := (159, .inl (a_il 2 160))) (s_iload_n rfl (by decide +kernel)) <|
  allc (a := (160, .inr (.inr 1))) (Or.inr (Or.inl ⟨rfl, rfl, by decide +kernel⟩)) <|
  alln
theorem kX1_orderBelow : ∀ q ∈ tX1_orderBelow, OkQ RX1 "orderBelow" cX1_orderBelow 5 (some .int) q := alla kX1_orderBelow_0 (alla kX1_orderBelow_1 kX1_orderBelow_2)
set_option maxRecDepth 20000 in
theorem kX1_form_0 : ∀ q ∈ tX1_form_0, OkQ RX1 "form" cX1_form 2 (none) q :=
  allc (a := (0, .inl (a_al 0 1))) (s_aload_n rfl (by decide +kernel)) <|
  allc (a := (1, .inl (a_get 1 11 4))) (gX1 (f0 := 11) (by decide) kw_439 (by decide +kernel)) <|
  allc (a := (4, .inl (a_al 0 5))) (s_aload_n rfl (by decide +kernel)) <|
  allc (a := (5, .inl (a_get 1 5 8))) (gX1 (f0 := 5) (by decide) kw_433 (by decide +kernel)) <|
  allc (a := (8, .inl (a_il 1 9))) (s_iload_n rfl (by decide +kernel)) <|
  allc (a := (9, .inr (.inl (101, 3, 9)))) (okV (y := yX8_weigh) kw_903 kw_109 rfl rfl (by decide +kernel) kw_901 kw_902 kw_982) <|
  allc (a := (12, .inl (a_al 0 13))) (s_aload_n rfl (by decide +kernel)) <|
  allc (a := (13, .inl (a_get 1 11 16))) (gX1 (f0 := 11) (by decide) kw_439 (by decide +kernel)) <|
  allc (a := (16, .inr (.inl (104, 1, 9)))) (okV (y := yX8_spread) kw_506 kw_109 rfl rfl (by decide +kernel) kw_504 kw_505 kw_985) <|
  allc (a := (19, .inl (a_al 0 20))) (s_aload_n rfl (by decide +kernel)) <|
  allc (a := (20, .inl (a_get 1 13 23))) (gX1 (f0 := 13) (by decide) kw_441 (by decide +kernel)) <|
  allc (a := (23, .inr (.inl (86, 1, 8)))) (okV (y := yX7_drop) kw_625 kw_105 rfl rfl (by decide +kernel) kw_623 kw_624 kw_983) <|
  allc (a := (26, .inl (a_al 0 27))) (s_aload_n rfl (by decide +kernel)) <|
  allc (a := (27, .inl (a_get 1 11 30))) (gX1 (f0 := 11) (by decide) kw_439 (by decide +kernel)) <|
  allc (a := (30, .inl (a_al 0 31))) (s_aload_n rfl (by decide +kernel)) <|
  allc (a := (31, .inl (a_get 1 13 34))) (gX1 (f0 := 13) (by decide) kw_441 (by decide +kernel)) <|
  allc (a := (34, .inr (.inl (114, 2, 9)))) (okV (y := yX8_tell) kw_917 kw_109 rfl rfl (by decide +kernel) kw_915 kw_916 kw_984) <|
  allc (a := (37, .inr (.inr 0))) (Or.inl ⟨rfl, rfl, by decide +kernel⟩) <|
  alln
theorem kX1_form : ∀ q ∈ tX1_form, OkQ RX1 "form" cX1_form 2 (none) q := kX1_form_0
set_option maxRecDepth 20000 in
theorem kX1_tableBytes_0 : ∀ q ∈ tX1_tableBytes_0, OkQ RX1 "tableBytes" cX1_tableBytes 1 (some .int) q :=
  allc (a := (0, .inl (a_al 0 1))) (s_aload_n rfl (by decide +kernel)) <|
  allc (a := (1, .inl (a_get 1 14 4))) (gX1 (f0 := 14) (by decide) kw_442 (by decide +kernel)) <|
  allc (a := (4, .inl (a_ic 1 5))) (s_iconst (n := 1) rfl (by decide +kernel)) <|
  allc (a := (5, .inl (o_icmp_ne 12 8))) (s_icmp_ne (by decide +kernel) (by decide)) <|
  allc (a := (8, .inl (a_ic 1 9))) (s_iconst (n := 1) rfl (by decide +kernel)) <|
  allc (a := (9, .inl (a_go 31))) (s_goto (by decide +kernel) (by decide)) <|
  allc (a := (12, .inl (a_al 0 13))) (s_aload_n rfl (by decide +kernel)) <|
  allc (a := (13, .inl (a_get 1 14 16))) (gX1 (f0 := 14) (by decide) kw_442 (by decide +kernel)) <|
  allc (a := (16, .inl (a_ic 2 17))) (s_iconst (n := 2) rfl (by decide +kernel)) <|
  allc (a := (17, .inl (o_icmp_ne 30 20))) (s_icmp_ne (by decide +kernel) (by decide)) <|
  allc (a := (20, .inl (a_al 0 21))) (s_aload_n rfl (by decide +kernel)) <|
  allc (a := (21, .inl (a_get 1 13 24))) (gX1 (f0 := 13) (by decide) kw_441 (by decide +kernel)) <|
  allc (a := (24, .inl (a_get 7 1 27))) (gX7 (f0 := 1) (by decide) kw_146 (by decide +kernel)) <|
  allc (a := (27, .inl (a_go 31))) (s_goto (by decide +kernel) (by decide)) <|
  allc (a := (30, .inl (a_ic 0 31))) (s_iconst (n := 0) rfl (by decide +kernel)) <|
  allc (a := (31, .inr (.inr 1))) (Or.inr (Or.inl ⟨rfl, rfl, by decide +kernel⟩)) <|
  alln
theorem kX1_tableBytes : ∀ q ∈ tX1_tableBytes, OkQ RX1 "tableBytes" cX1_tableBytes 1 (some .int) q := kX1_tableBytes_0
set_option maxRecDepth 20000 in
theorem kX1_putTable_0 : ∀ q ∈ tX1_putTable_0, OkQ RX1 "putTable" cX1_putTable 2 (none) q :=
  allc (a := (0, .inl (a_al 0 1))) (s_aload_n rfl (by decide +kernel)) <|
  allc (a := (1, .inl (a_get 1 14 4))) (gX1 (f0 := 14) (by decide) kw_442 (by decide +kernel)) <|
  allc (a := (4, .inl (a_ic 1 5))) (s_iconst (n := 1) rfl (by decide +kernel)) <|
  allc (a := (5, .inl (o_icmp_ne 21 8))) (s_icmp_ne (by decide +kernel) (by decide)) <|
  allc (a := (8, .inl (a_al 1 9))) (s_aload_n rfl (by decide +kernel)) <|
  allc (a := (9, .inl (a_al 0 10))) (s_aload_n rfl (by decide +kernel)) <|
  allc (a := (10, .inl (a_get 1 3 13))) (gX1 (f0 := 3) (by decide) kw_431 (by decide +kernel)) <|
  allc (a := (13, .inl (a_ic 0 14))) (s_iconst (n := 0) rfl (by decide +kernel)) <|
  allc (a := (14, .inl (a_iald 15))) (s_iald (by decide +kernel)) <|
  allc (a := (15, .inr (.inl (87, 2, 8)))) (okV (y := yX7_put) kw_608 kw_105 rfl rfl (by decide +kernel) kw_606 kw_607 kw_1078) <|
  allc (a := (18, .inl (a_go 45))) (s_goto (by decide +kernel) (by decide)) <|
  allc (a := (21, .inl (a_al 0 22))) (s_aload_n rfl (by decide +kernel)) <|
  allc (a := (22, .inl (a_get 1 14 25))) (gX1 (f0 := 14) (by decide) kw_442 (by decide +kernel)) <|
  allc (a := (25, .inl (a_ic 2 26))) (s_iconst (n := 2) rfl (by decide +kernel)) <|
  allc (a := (26, .inl (o_icmp_ne 45 29))) (s_icmp_ne (by decide +kernel) (by decide)) <|
  allc (a := (29, .inl (a_al 1 30))) (s_aload_n rfl (by decide +kernel)) <|
  allc (a := (30, .inl (a_al 0 31))) (s_aload_n rfl (by decide +kernel)) <|
  allc (a := (31, .inl (a_get 1 13 34))) (gX1 (f0 := 13) (by decide) kw_441 (by decide +kernel)) <|
  allc (a := (34, .inl (a_ic 0 35))) (s_iconst (n := 0) rfl (by decide +kernel)) <|
  allc (a := (35, .inl (a_al 0 36))) (s_aload_n rfl (by decide +kernel)) <|
  allc (a := (36, .inl (a_get 1 13 39))) (gX1 (f0 := 13) (by decide) kw_441 (by decide +kernel)) <|
  allc (a := (39, .inl (a_get 7 1 42))) (gX7 (f0 := 1) (by decide) kw_146 (by decide +kernel)) <|
  allc (a := (42, .inr (.inl (89, 4, 8)))) (okV (y := yX7_putRow) kw_633 kw_105 rfl rfl (by decide +kernel) kw_631 kw_632 kw_1079) <|
  allc (a := (45, .inr (.inr 0))) (Or.inl ⟨rfl, rfl, by decide +kernel⟩) <|
  alln
theorem kX1_putTable : ∀ q ∈ tX1_putTable, OkQ RX1 "putTable" cX1_putTable 2 (none) q := kX1_putTable_0
set_option maxRecDepth 20000 in
theorem kX1_putShare_0 : ∀ q ∈ tX1_putShare_0, OkQ RX1 "putShare" cX1_putShare 2 (none) q :=
  allc (a := (0, .inl (a_al 0 1))) (s_aload_n rfl (by decide +kernel)) <|
  allc (a := (1, .inl (a_al 0 2))) (s_aload_n rfl (by decide +kernel)) <|
  allc (a := (2, .inl (a_ic 1073741824 4))) (s_ldc kw_962 (by decide +kernel)) <|
  allc (a := (4, .inr (.inl (14, 2, 2)))) (okV (y := yX1_orderBelow) kw_981 kw_115 rfl rfl (by decide +kernel) kw_980 kw_25 kw_978) <|
  allc (a := (7, .inr (.inl (15, 2, 2)))) (okV (y := yX1_form) kw_994 kw_115 rfl rfl (by decide +kernel) kw_993 kw_26 kw_991) <|
  allc (a := (10, .inl (a_al 1 11))) (s_aload_n rfl (by decide +kernel)) <|
  allc (a := (11, .inl (a_al 0 12))) (s_aload_n rfl (by decide +kernel)) <|
  allc (a := (12, .inl (a_get 1 13 15))) (gX1 (f0 := 13) (by decide) kw_441 (by decide +kernel)) <|
  allc (a := (15, .inl (a_ic 0 16))) (s_iconst (n := 0) rfl (by decide +kernel)) <|
  allc (a := (16, .inl (a_al 0 17))) (s_aload_n rfl (by decide +kernel)) <|
  allc (a := (17, .inl (a_get 1 13 20))) (gX1 (f0 := 13) (by decide) kw_441 (by decide +kernel)) <|
  allc (a := (20, .inl (a_get 7 1 23))) (gX7 (f0 := 1) (by decide) kw_146 (by decide +kernel)) <|
  allc (a := (23, .inr (.inl (89, 4, 8)))) (okV (y := yX7_putRow) kw_633 kw_105 rfl rfl (by decide +kernel) kw_631 kw_632 kw_1079) <|
  allc (a := (26, .inr (.inr 0))) (Or.inl ⟨rfl, rfl, by decide +kernel⟩) <|
  alln
theorem kX1_putShare : ∀ q ∈ tX1_putShare, OkQ RX1 "putShare" cX1_putShare 2 (none) q := kX1_putShare_0
set_option maxRecDepth 20000 in
theorem kX1_beginStates_0 : ∀ q ∈ tX1_beginStates_0, OkQ RX1 "beginStates" cX1_beginStates 1 (none) q :=
  allc (a := (0, .inl (a_al 0 1))) (s_aload_n rfl (by decide +kernel)) <|
  allc (a := (1, .inl (a_al 0 2))) (s_aload_n rfl (by decide +kernel)) <|
  allc (a := (2, .inl (a_get 1 6 5))) (gX1 (f0 := 6) (by decide) kw_434 (by decide +kernel)) <|
  allc (a := (5, .inl (o_if_le 29 8))) (s_if_le (by decide +kernel) (by decide)) <|
  allc (a := (8, .inl (a_al 0 9))) (s_aload_n rfl (by decide +kernel)) <|
  allc (a := (9, .inl (a_get 1 12 12))) (gX1 (f0 := 12) (by decide) kw_440 (by decide +kernel)) <|
  allc (a := (12, .inl (a_al 0 13))) (s_aload_n rfl (by decide +kernel)) <|
  allc (a := (13, .inl (a_get 1 3 16))) (gX1 (f0 := 3) (by decide) kw_431 (by decide +kernel)) <|
  allc (a := (16, .inl (a_al 0 17))) (s_aload_n rfl (by decide +kernel)) <|
  allc (a := (17, .inl (a_get 1 6 20))) (gX1 (f0 := 6) (by decide) kw_434 (by decide +kernel)) <|
  allc (a := (20, .inl (a_ic 1 21))) (s_iconst (n := 1) rfl (by decide +kernel)) <|
  allc (a := (21, .inl (o_isub 22))) (s_isub (by decide +kernel)) <|
  allc (a := (22, .inl (a_iald 23))) (s_iald (by decide +kernel)) <|
  allc (a := (23, .inr (.inl (108, 2, 9)))) (okV (y := yX8_lowest) kw_938 kw_109 rfl rfl (by decide +kernel) kw_936 kw_937 kw_1084) <|
  allc (a := (26, .inl (a_go 30))) (s_goto (by decide +kernel) (by decide)) <|
  allc (a := (29, .inl (a_ic 0 30))) (s_iconst (n := 0) rfl (by decide +kernel)) <|
  allc (a := (30, .inl (a_put 1 17 .int 33))) (pX1 (f0 := 17) (by decide) rfl rfl tOk kw_446 (by decide +kernel)) <|
  allc (a := (33, .inr (.inr 0))) (Or.inl ⟨rfl, rfl, by decide +kernel⟩) <|
  alln
theorem kX1_beginStates : ∀ q ∈ tX1_beginStates, OkQ RX1 "beginStates" cX1_beginStates 1 (none) q := kX1_beginStates_0
set_option maxRecDepth 20000 in
theorem kX1_putState_0 : ∀ q ∈ tX1_putState_0, OkQ RX1 "putState" cX1_putState 5 (none) q :=
  allc (a := (0, .inl (a_al 0 1))) (s_aload_n rfl (by decide +kernel)) <|
  allc (a := (1, .inl (a_get 1 3 4))) (gX1 (f0 := 3) (by decide) kw_431 (by decide +kernel)) <|
  allc (a := (4, .inl (a_il 2 5))) (s_iload_n rfl (by decide +kernel)) <|
  allc (a := (5, .inl (a_iald 6))) (s_iald (by decide +kernel)) <|
  allc (a := (6, .inl (a_is 3 7))) (s_istore_n rfl (by decide +kernel) (by decide)) <|
  allc (a := (7, .inl (a_al 0 8))) (s_aload_n rfl (by decide +kernel)) <|
  allc (a := (8, .inl (a_get 1 12 11))) (gX1 (f0 := 12) (by decide) kw_440 (by decide +kernel)) <|
  allc (a := (11, .inl (a_il 3 12))) (s_iload_n rfl (by decide +kernel)) <|
  allc (a := (12, .inl (a_al 0 13))) (s_aload_n rfl (by decide +kernel)) <|
  allc (a := (13, .inl (a_get 1 17 16))) (gX1 (f0 := 17) (by decide) kw_446 (by decide +kernel)) <|
  allc (a := (16, .inr (.inl (109, 3, 9)))) (okV (y := yX8_width) kw_942 kw_109 rfl rfl (by decide +kernel) kw_940 kw_941 kw_1098) <|
  allc (a := (19, .inl (a_is 4 21))) (s_istore (by decide +kernel) (by decide)) <|
  allc (a := (21, .inl (a_al 1 22))) (s_aload_n rfl (by decide +kernel)) <|
  allc (a := (22, .inl (a_al 0 23))) (s_aload_n rfl (by decide +kernel)) <|
  allc (a := (23, .inl (a_get 1 17 26))) (gX1 (f0 := 17) (by decide) kw_446 (by decide +kernel)) <|
  allc (a := (26, .inl (a_il 4 28))) (s_iload (by decide +kernel)) <|
  allc (a := (28, .inr (.inl (91, 3, 8)))) (okV (y := yX7_addBits) kw_921 kw_105 rfl rfl (by decide +kernel) kw_919 kw_920 kw_1093) <|
  allc (a := (31, .inl (a_al 0 32))) (s_aload_n rfl (by decide +kernel)) <|
  allc (a := (32, .inl (a_al 0 33))) (s_aload_n rfl (by decide +kernel)) <|
  allc (a := (33, .inl (a_get 1 12 36))) (gX1 (f0 := 12) (by decide) kw_440 (by decide +kernel)) <|
  allc (a := (36, .inl (a_il 3 37))) (s_iload_n rfl (by decide +kernel)) <|
  allc (a := (37, .inl (a_al 0 38))) (s_aload_n rfl (by decide +kernel)) <|
  allc (a := (38, .inl (a_get 1 17 41))) (gX1 (f0 := 17) (by decide) kw_446 (by decide +kernel)) <|
  allc (a := (41, .inl (a_il 4 43))) (s_iload (by decide +kernel)) <|
  allc (a := (43, .inr (.inl (110, 4, 9)))) (okV (y := yX8_before) kw_947 kw_109 rfl rfl (by decide +kernel) kw_945 kw_946 kw_1099) <|
  allc (a := (46, .inl (a_put 1 17 .int 49))) (pX1 (f0 := 17) (by decide) rfl rfl tOk kw_446 (by decide +kernel)) <|
  allc (a := (49, .inr (.inr 0))) (Or.inl ⟨rfl, rfl, by decide +kernel⟩) <|
  alln
theorem kX1_putState : ∀ q ∈ tX1_putState, OkQ RX1 "putState" cX1_putState 5 (none) q := kX1_putState_0
set_option maxRecDepth 20000 in
theorem kX1_putAdditional_0 : ∀ q ∈ tX1_putAdditional_0, OkQ RX1 "putAdditional" cX1_putAdditional 4 (none) q :=
  allc (a := (0, .inl (a_al 0 1))) (s_aload_n rfl (by decide +kernel)) <|
  allc (a := (1, .inl (a_get 1 3 4))) (gX1 (f0 := 3) (by decide) kw_431 (by decide +kernel)) <|
  allc (a := (4, .inl (a_il 2 5))) (s_iload_n rfl (by decide +kernel)) <|
  allc (a := (5, .inl (a_iald 6))) (s_iald (by decide +kernel)) <|
  allc (a := (6, .inl (a_is 3 7))) (s_istore_n rfl (by decide +kernel) (by decide)) <|
  allc (a := (7, .inl (a_al 1 8))) (s_aload_n rfl (by decide +kernel)) <|
  allc (a := (8, .inl (a_al 0 9))) (s_aload_n rfl (by decide +kernel)) <|
  allc (a := (9, .inl (a_get 1 4 12))) (gX1 (f0 := 4) (by decide) kw_432 (by decide +kernel)) <|
  allc (a := (12, .inl (a_il 2 13))) (s_iload_n rfl (by decide +kernel)) <|
  allc (a := (13, .inl (a_iald 14))) (s_iald (by decide +kernel)) <|
  allc (a := (14, .inl (a_al 0 15))) (s_aload_n rfl (by decide +kernel)) <|
  allc (a := (15, .inl (a_get 1 0 18))) (gX1 (f0 := 0) (by decide) kw_428 (by decide +kernel)) <|
  allc (a := (18, .inl (a_il 3 19))) (s_iload_n rfl (by decide +kernel)) <|
  allc (a := (19, .inl (a_iald 20))) (s_iald (by decide +kernel)) <|
  allc (a := (20, .inl (o_isub 21))) (s_isub (by decide +kernel)) <|
  allc (a := (21, .inl (a_al 0 22))) (s_aload_n rfl (by decide +kernel)) <|
  allc (a := (22, .inl (a_get 1 1 25))) (gX1 (f0 := 1) (by decide) kw_429 (by decide +kernel)) <|
  allc (a := (25, .inl (a_il 3 26))) (s_iload_n rfl (by decide +kernel)) <|
  allc (a := (26, .inl (a_iald 27))) (s_iald (by decide +kernel)) <|
  allc (a := (27, .inr (.inl (91, 3, 8)))) (okV (y := yX7_addBits) kw_921 kw_105 rfl rfl (by decide +kernel) kw_919 kw_920 kw_1093) <|
  allc (a := (30, .inr (.inr 0))) (Or.inl ⟨rfl, rfl, by decide +kernel⟩) <|
  alln
theorem kX1_putAdditional : ∀ q ∈ tX1_putAdditional, OkQ RX1 "putAdditional" cX1_putAdditional 4 (none) q := kX1_putAdditional_0
set_option maxRecDepth 20000 in
theorem kX1_endStates_0 : ∀ q ∈ tX1_endStates_0, OkQ RX1 "endStates" cX1_endStates 2 (none) q :=
  allc (a := (0, .inl (a_al 1 1))) (s_aload_n rfl (by decide +kernel)) <|
  allc (a := (1, .inl (a_al 0 2))) (s_aload_n rfl (by decide +kernel)) <|
  allc (a := (2, .inl (a_get 1 17 5))) (gX1 (f0 := 17) (by decide) kw_446 (by decide +kernel)) <|
  allc (a := (5, .inl (a_al 0 6))) (s_aload_n rfl (by decide +kernel)) <|
  allc (a := (6, .inl (a_get 1 12 9))) (gX1 (f0 := 12) (by decide) kw_440 (by decide +kernel)) <|
  allc (a := (9, .inl (a_get 8 7 12))) (gX8 (f0 := 7) (by decide) kw_214 (by decide +kernel)) <|
  allc (a := (12, .inr (.inl (91, 3, 8)))) (okV (y := yX7_addBits) kw_921 kw_105 rfl rfl (by decide +kernel) kw_919 kw_920 kw_1093) <|
  allc (a := (15, .inr (.inr 0))) (Or.inl ⟨rfl, rfl, by decide +kernel⟩) <|
  alln
theorem kX1_endStates : ∀ q ∈ tX1_endStates, OkQ RX1 "endStates" cX1_endStates 2 (none) q := kX1_endStates_0
set_option maxRecDepth 20000 in
theorem kX1_keep_0 : ∀ q ∈ tX1_keep_0, OkQ RX1 "keep" cX1_keep 1 (none) q :=
  allc (a := (0, .inl (a_al 0 1))) (s_aload_n rfl (by decide +kernel)) <|
  allc (a := (1, .inl (a_get 1 14 4))) (gX1 (f0 := 14) (by decide) kw_442 (by decide +kernel)) <|
  allc (a := (4, .inl (a_ic 3 5))) (s_iconst (n := 3) rfl (by decide +kernel)) <|
  allc (a := (5, .inl (o_icmp_eq 19 8))) (s_icmp_eq (by decide +kernel) (by decide)) <|
  allc (a := (8, .inl (a_al 0 9))) (s_aload_n rfl (by decide +kernel)) <|
  allc (a := (9, .inl (a_get 1 10 12))) (gX1 (f0 := 10) (by decide) kw_438 (by decide +kernel)) <|
  allc (a := (12, .inl (a_al 0 13))) (s_aload_n rfl (by decide +kernel)) <|
  allc (a := (13, .inl (a_get 1 12 16))) (gX1 (f0 := 12) (by decide) kw_440 (by decide +kernel)) <|
  allc (a := (16, .inr (.inl (98, 2, 9)))) (okV (y := yX8_become) kw_759 kw_109 rfl rfl (by decide +kernel) kw_757 kw_758 kw_756) <|
  allc (a := (19, .inr (.inr 0))) (Or.inl ⟨rfl, rfl, by decide +kernel⟩) <|
  alln
theorem kX1_keep : ∀ q ∈ tX1_keep, OkQ RX1 "keep" cX1_keep 1 (none) q := kX1_keep_0
set_option maxRecDepth 20000 in
theorem kX2_init_0 : ∀ q ∈ tX2_init_0, OkQ RX2 "<init>" cX2_init 1 (none) q :=
  allc (a := (0, .inl (a_al 0 1))) (s_aload_n rfl (by decide +kernel)) <|
  allc (a := (1, .inl (a_oi 4))) (s_oi kw_268 kw_126 kw_127 (by decide +kernel)) <|
  allc (a := (4, .inl (a_al 0 5))) (s_aload_n rfl (by decide +kernel)) <|
  allc (a := (5, .inl (a_ic 256 8))) (s_sipush (n := 256) rfl (by decide +kernel)) <|
  allc (a := (8, .inl (a_newa 1 10))) (na_int kw_197 (by decide +kernel)) <|
  allc (a := (10, .inl (a_put 2 0 (.array .int) 13))) (fX2 (f0 := 0) (by decide) rfl rfl rfl tOk kw_273 (by decide +kernel)) <|
  allc (a := (13, .inl (a_al 0 14))) (s_aload_n rfl (by decide +kernel)) <|
  allc (a := (14, .inl (a_ic 12 16))) (s_bipush (n := 12) rfl (by decide +kernel)) <|
  allc (a := (16, .inl (a_newa 1 18))) (na_int kw_197 (by decide +kernel)) <|
  allc (a := (18, .inl (a_put 2 1 (.array .int) 21))) (fX2 (f0 := 1) (by decide) rfl rfl rfl tOk kw_274 (by decide +kernel)) <|
  allc (a := (21, .inl (a_al 0 22))) (s_aload_n rfl (by decide +kernel)) <|
  allc (a := (22, .inl (a_new 8 9 zX8 25))) (nX8 kw_269 (by decide +kernel)) <|
  allc (a := (25, .inl (a_dup 26))) (s_dup (by decide +kernel)) <|
  allc (a := (26, .inl (a_ic 11 28))) (s_bipush (n := 11) rfl (by decide +kernel)) <|
  allc (a := (28, .inl (a_ic 6 30))) (s_bipush (n := 6) rfl (by decide +kernel)) <|
  allc (a := (30, .inr (.inl (97, 3, 9)))) (okN (y := yX8_init) kw_202 kw_109 rfl (by decide +kernel) kw_201 (Or.inl kw_270)) <|
  allc (a := (33, .inl (a_put 2 2 (.object "StatePress$Share") 36))) (fX2 (f0 := 2) (by decide) rfl rfl rfl tOk kw_275 (by decide +kernel)) <|
  allc (a := (36, .inl (a_al 0 37))) (s_aload_n rfl (by decide +kernel)) <|
  allc (a := (37, .inl (a_new 7 5 zX7 40))) (nX7 kw_271 (by decide +kernel)) <|
  allc (a := (40, .inl (a_dup 41))) (s_dup (by decide +kernel)) <|
  allc (a := (41, .inl (a_ic 512 44))) (s_sipush (n := 512) rfl (by decide +kernel)) <|
  allc (a := (44, .inr (.inl (85, 2, 8)))) (okN (y := yX7_init) kw_132 kw_105 rfl (by decide +kernel) kw_131 (Or.inl kw_272)) <|
  allc (a := (47, .inl (a_put 2 3 (.object "StatePress$Row") 50))) (pX2 (f0 := 3) (by decide) rfl rfl tOk kw_276 (by decide +kernel)) <|
  allc (a := (50, .inl (a_al 0 51))) (s_aload_n rfl (by decide +kernel)) <|
  allc (a := (51, .inl (a_new 7 5 zX7 54))) (nX7 kw_271 (by decide +kernel)) <|
  allc (a := (54, .inl (a_dup 55))) (s_dup (by decide +kernel)) <|
  allc (a := (55, .inl (a_ic 512 58))) (s_sipush (n := 512) rfl (by decide +kernel)) <|
  allc (a := (58, .inr (.inl (85, 2, 8)))) (okN (y := yX7_init) kw_132 kw_105 rfl (by decide +kernel) kw_131 (Or.inl kw_272)) <|
  allc (a := (61, .inl (a_put 2 4 (.object "StatePress$Row") 64))) (pX2 (f0 := 4) (by decide) rfl rfl tOk kw_277 (by decide +kernel)) <|
  allc (a := (64, .inr (.inr 0))) (Or.inl ⟨rfl, rfl, by decide +kernel⟩) <|
  alln
theorem kX2_init : ∀ q ∈ tX2_init, OkQ RX2 "<init>" cX2_init 1 (none) q := kX2_init_0
set_option maxRecDepth 20000 in
theorem kX2_describe_0 : ∀ q ∈ tX2_describe_0, OkQ RX2 "describe" cX2_describe 7 (some .boolean) q :=
  allc (a := (0, .inl (a_al 0 1))) (s_aload_n rfl (by decide +kernel)) <|
  allc (a := (1, .inl (a_al 1 2))) (s_aload_n rfl (by decide +kernel)) <|
  allc (a := (2, .inr (.inl (26, 2, 3)))) (okV (y := yX2_weigh) kw_898 kw_110 rfl rfl (by decide +kernel) kw_897 kw_18 kw_895) <|
  allc (a := (5, .inl (a_is 3 6))) (s_istore_n rfl (by decide +kernel) (by decide)) <|
  allc (a := (6, .inl (a_il 3 7))) (s_iload_n rfl (by decide +kernel)) <|
  allc (a := (7, .inl (a_ic 2 8))) (s_iconst (n := 2) rfl (by decide +kernel)) <|
  allc (a := (8, .inl (o_icmp_lt 30 11))) (s_icmp_lt (by decide +kernel) (by decide)) <|
  allc (a := (11, .inl (a_al 0 12))) (s_aload_n rfl (by decide +kernel)) <|
  allc (a := (12, .inl (a_get 2 1 15))) (gX2 (f0 := 1) (by decide) kw_274 (by decide +kernel)) <|
  allc (a := (15, .inl (a_al 0 16))) (s_aload_n rfl (by decide +kernel)) <|
  allc (a := (16, .inl (a_get 2 0 19))) (gX2 (f0 := 0) (by decide) kw_273 (by decide +kernel)) <|
  allc (a := (19, .inl (a_ic 0 20))) (s_iconst (n := 0) rfl (by decide +kernel)) <|
  allc (a := (20, .inl (a_iald 21))) (s_iald (by decide +kernel)) <|
  allc (a := (21, .inl (a_iald 22))) (s_iald (by decide +kernel)) <|
  allc (a := (22, .inl (a_il 3 23))) (s_iload_n rfl (by decide +kernel)) <|
  allc (a := (23, .inl (o_icmp_ge 30 26))) (s_icmp_ge (by decide +kernel) (by decide)) <|
  allc (a := (26, .inl (a_ic 1 27))) (s_iconst (n := 1) rfl (by decide +kernel)) <|
  allc (a := (27, .inl (a_go 31))) (s_goto (by decide +kernel) (by decide)) <|
  allc (a := (30, .inl (a_ic 0 31))) (s_iconst (n := 0) rfl (by decide +kernel)) <|
  allc (a := (31, .inl (a_is 4 33))) (s_istore (by decide +kernel) (by decide)) <|
  allc (a := (33, .inl (a_ic 5 34))) (s_iconst (n := 5) rfl (by decide +kernel)) <|
  allc (a := (34, .inl (a_is 5 36))) (s_istore (by decide +kernel) (by decide)) <|
  allc (a := (36, .inl (a_il 4 38))) (s_iload (by decide +kernel)) <|
  allc (a := (38, .inl (o_if_eq 144 41))) (s_if_eq (by decide +kernel) (by decide)) <|
  allc (a := (41, .inl (a_il 5 43))) (s_iload (by decide +kernel)) <|
  allc (a := (43, .inl (a_ic 6 45))) (s_bipush (n := 6) rfl (by decide +kernel)) <|
  allc (a := (45, .inl (o_icmp_gt 144 48))) (s_icmp_gt (by decide +kernel) (by decide)) <|
  allc (a := (48, .inl (a_al 0 49))) (s_aload_n rfl (by decide +kernel)) <|
  allc (a := (49, .inl (a_get 2 2 52))) (gX2 (f0 := 2) (by decide) kw_275 (by decide +kernel)) <|
  allc (a := (52, .inl (a_al 0 53))) (s_aload_n rfl (by decide +kernel)) <|
  allc (a := (53, .inl (a_get 2 1 56))) (gX2 (f0 := 1) (by decide) kw_274 (by decide +kernel)) <|
  allc (a := (56, .inl (a_il 5 58))) (s_iload (by decide +kernel)) <|
  allc (a := (58, .inr (.inl (101, 3, 9)))) (okV (y := yX8_weigh) kw_903 kw_109 rfl rfl (by decide +kernel) kw_901 kw_902 kw_900) <|
  allc (a := (61, .inl (a_al 0 62))) (s_aload_n rfl (by decide +kernel)) <|
  allc (a := (62, .inl (a_get 2 2 65))) (gX2 (f0 := 2) (by decide) kw_275 (by decide +kernel)) <|
  allc (a := (65, .inr (.inl (104, 1, 9)))) (okV (y := yX8_spread) kw_506 kw_109 rfl rfl (by decide +kernel) kw_504 kw_505 kw_912) <|
  allc (a := (68, .inl (a_al 0 69))) (s_aload_n rfl (by decide +kernel)) <|
  allc (a := (69, .inl (a_get 2 4 72))) (gX2 (f0 := 4) (by decide) kw_277 (by decide +kernel)) <|
  allc (a := (72, .inr (.inl (86, 1, 8)))) (okV (y := yX7_drop) kw_625 kw_105 rfl rfl (by decide +kernel) kw_623 kw_624 kw_913) <|
  allc (a := (75, .inl (a_al 0 76))) (s_aload_n rfl (by decide +kernel)) <|
  alln
set_option maxRecDepth 20000 in
theorem kX2_describe_1 : ∀ q ∈ tX2_describe_1, OkQ RX2 "describe" cX2_describe 7 (some .boolean) q :=
  allc (a := (76, .inl (a_get 2 2 79))) (gX2 (f0 := 2) (by decide) kw_275 (by decide +kernel)) <|
  allc (a := (79, .inl (a_al 0 80))) (s_aload_n rfl (by decide +kernel)) <|
  allc (a := (80, .inl (a_get 2 4 83))) (gX2 (f0 := 4) (by decide) kw_277 (by decide +kernel)) <|
  allc (a := (83, .inr (.inl (114, 2, 9)))) (okV (y := yX8_tell) kw_917 kw_109 rfl rfl (by decide +kernel) kw_915 kw_916 kw_914) <|
  allc (a := (86, .inl (a_al 0 87))) (s_aload_n rfl (by decide +kernel)) <|
  allc (a := (87, .inl (a_al 0 88))) (s_aload_n rfl (by decide +kernel)) <|
  allc (a := (88, .inl (a_get 2 4 91))) (gX2 (f0 := 4) (by decide) kw_277 (by decide +kernel)) <|
  allc (a := (91, .inl (a_il 3 92))) (s_iload_n rfl (by decide +kernel)) <|
  allc (a := (92, .inr (.inl (28, 3, 3)))) (okV (y := yX2_putTwoStates) kw_934 kw_110 rfl rfl (by decide +kernel) kw_933 kw_22 kw_931) <|
  allc (a := (95, .inl (a_il 5 97))) (s_iload (by decide +kernel)) <|
  allc (a := (97, .inl (a_ic 5 98))) (s_iconst (n := 5) rfl (by decide +kernel)) <|
  allc (a := (98, .inl (o_icmp_eq 118 101))) (s_icmp_eq (by decide +kernel) (by decide)) <|
  allc (a := (101, .inl (a_al 0 102))) (s_aload_n rfl (by decide +kernel)) <|
  allc (a := (102, .inl (a_get 2 4 105))) (gX2 (f0 := 4) (by decide) kw_277 (by decide +kernel)) <|
  allc (a := (105, .inl (a_get 7 1 108))) (gX7 (f0 := 1) (by decide) kw_143 (by decide +kernel)) <|
  allc (a := (108, .inl (a_al 0 109))) (s_aload_n rfl (by decide +kernel)) <|
  allc (a := (109, .inl (a_get 2 3 112))) (gX2 (f0 := 3) (by decide) kw_276 (by decide +kernel)) <|
  allc (a := (112, .inl (a_get 7 1 115))) (gX7 (f0 := 1) (by decide) kw_143 (by decide +kernel)) <|
  allc (a := (115, .inl (o_icmp_ge 138 118))) (s_icmp_ge (by decide +kernel) (by decide)) <|
  allc (a := (118, .inl (a_al 0 119))) (s_aload_n rfl (by decide +kernel)) <|
  allc (a := (119, .inl (a_get 2 3 122))) (gX2 (f0 := 3) (by decide) kw_276 (by decide +kernel)) <|
  allc (a := (122, .inl (a_as 6 124))) (s_astore (by decide +kernel) (by decide)) <|
  allc (a := (124, .inl (a_al 0 125))) (s_aload_n rfl (by decide +kernel)) <|
  allc (a := (125, .inl (a_al 0 126))) (s_aload_n rfl (by decide +kernel)) <|
  allc (a := (126, .inl (a_get 2 4 129))) (gX2 (f0 := 4) (by decide) kw_277 (by decide +kernel)) <|
  allc (a := (129, .inl (a_put 2 3 (.object "StatePress$Row") 132))) (pX2 (f0 := 3) (by decide) rfl rfl tOk kw_276 (by decide +kernel)) <|
  allc (a := (132, .inl (a_al 0 133))) (s_aload_n rfl (by decide +kernel)) <|
  allc (a := (133, .inl (a_al 6 135))) (s_aload (by decide +kernel)) <|
  allc (a := (135, .inl (a_put 2 4 (.object "StatePress$Row") 138))) (pX2 (f0 := 4) (by decide) rfl rfl tOk kw_277 (by decide +kernel)) <|
  allc (a := (138, .inl (a_inc 5 1 141))) (s_iinc rfl (by decide +kernel) (by decide)) <|
  allc (a := (141, .inl (a_go 36))) (s_goto (by decide +kernel) (by decide)) <|
  allc (a := (144, .inl (a_il 4 146))) (s_iload (by decide +kernel)) <|
  allc (a := (146, .inl (o_if_eq 172 149))) (s_if_eq (by decide +kernel) (by decide)) <|
  allc (a := (149, .inl (a_al 0 150))) (s_aload_n rfl (by decide +kernel)) <|
  allc (a := (150, .inl (a_get 2 3 153))) (gX2 (f0 := 3) (by decide) kw_276 (by decide +kernel)) <|
  allc (a := (153, .inl (a_get 7 1 156))) (gX7 (f0 := 1) (by decide) kw_143 (by decide +kernel)) <|
  allc (a := (156, .inl (a_ic 128 159))) (s_sipush (n := 128) rfl (by decide +kernel)) <|
  allc (a := (159, .inl (o_icmp_ge 172 162))) (s_icmp_ge (by decide +kernel) (by decide)) <|
  allc (a := (162, .inl (a_al 0 163))) (s_aload_n rfl (by decide +kernel)) <|
  allc (a := (163, .inl (a_get 2 3 166))) (gX2 (f0 := 3) (by decide) kw_276 (by decide +kernel)) <|
  alln
set_option maxRecDepth 20000 in
theorem kX2_describe_2 : ∀ q ∈ tX2_describe_2, OkQ RX2 "describe" cX2_describe 7 (some .boolean) q :=
  allc (a := (166, .inl (a_get 7 1 169))) (gX7 (f0 := 1) (by decide) kw_143 (by decide +kernel)) <|
  allc (a := (169, .inl (a_go 173))) (s_goto (by decide +kernel) (by decide)) <|
  allc (a := (172, .inl (a_ic 0 173))) (s_iconst (n := 0) rfl (by decide +kernel)) <|
  allc (a := (173, .inl (a_is 5 175))) (s_istore (by decide +kernel) (by decide)) <|
  allc (a := (175, .inl (a_il 3 176))) (s_iload_n rfl (by decide +kernel)) <|
  allc (a := (176, .inl (a_ic 128 179))) (s_sipush (n := 128) rfl (by decide +kernel)) <|
  allc (a := (179, .inl (o_icmp_gt 190 182))) (s_icmp_gt (by decide +kernel) (by decide)) <|
  allc (a := (182, .inl (a_il 3 183))) (s_iload_n rfl (by decide +kernel)) <|
  allc (a := (183, .inl (a_ic 1 184))) (s_iconst (n := 1) rfl (by decide +kernel)) <|
  allc (a := (184, .inl (o_iadd 185))) (s_iadd (by decide +kernel)) <|
  allc (a := (185, .inl (a_ic 2 186))) (s_iconst (n := 2) rfl (by decide +kernel)) <|
  allc (a := (186, .inl (o_idiv 187))) (s_idiv (by decide +kernel)) <|
  allc (a := (187, .inl (a_go 191))) (s_goto (by decide +kernel) (by decide)) <|
  allc (a := (190, .inl (a_ic 0 191))) (s_iconst (n := 0) rfl (by decide +kernel)) <|
  allc (a := (191, .inl (a_is 6 193))) (s_istore (by decide +kernel) (by decide)) <|
  allc (a := (193, .inl (a_il 6 195))) (s_iload (by decide +kernel)) <|
  allc (a := (195, .inl (o_if_le 218 198))) (s_if_le (by decide +kernel) (by decide)) <|
  allc (a := (198, .inl (a_il 5 200))) (s_iload (by decide +kernel)) <|
  allc (a := (200, .inl (o_if_eq 210 203))) (s_if_eq (by decide +kernel) (by decide)) <|
  allc (a := (203, .inl (a_il 6 205))) (s_iload (by decide +kernel)) <|
  allc (a := (205, .inl (a_il 5 207))) (s_iload (by decide +kernel)) <|
  allc (a := (207, .inl (o_icmp_gt 218 210))) (s_icmp_gt (by decide +kernel) (by decide)) <|
  allc (a := (210, .inl (a_al 0 211))) (s_aload_n rfl (by decide +kernel)) <|
  allc (a := (211, .inl (a_al 2 212))) (s_aload_n rfl (by decide +kernel)) <|
  allc (a := (212, .inl (a_il 3 213))) (s_iload_n rfl (by decide +kernel)) <|
  allc (a := (213, .inr (.inl (27, 3, 3)))) (okV (y := yX2_putDirect) kw_955 kw_110 rfl rfl (by decide +kernel) kw_954 kw_23 kw_952) <|
  allc (a := (216, .inl (a_ic 1 217))) (s_iconst (n := 1) rfl (by decide +kernel)) <|
  allc (a := (217, .inr (.inr 3))) (Or.inr (Or.inr (Or.inr ⟨rfl, rfl, by decide +kernel⟩))) <|
  allc (a := (218, .inl (a_il 5 220))) (s_iload (by decide +kernel)) <|
  allc (a := (220, .inl (o_if_le 240 223))) (s_if_le (by decide +kernel) (by decide)) <|
  allc (a := (223, .inl (a_al 2 224))) (s_aload_n rfl (by decide +kernel)) <|
  allc (a := (224, .inl (a_il 5 226))) (s_iload (by decide +kernel)) <|
  allc (a := (226, .inr (.inl (87, 2, 8)))) (okV (y := yX7_put) kw_608 kw_105 rfl rfl (by decide +kernel) kw_606 kw_607 kw_956) <|
  allc (a := (229, .inl (a_al 2 230))) (s_aload_n rfl (by decide +kernel)) <|
  allc (a := (230, .inl (a_al 0 231))) (s_aload_n rfl (by decide +kernel)) <|
  allc (a := (231, .inl (a_get 2 3 234))) (gX2 (f0 := 3) (by decide) kw_276 (by decide +kernel)) <|
  allc (a := (234, .inl (a_ic 0 235))) (s_iconst (n := 0) rfl (by decide +kernel)) <|
  allc (a := (235, .inl (a_il 5 237))) (s_iload (by decide +kernel)) <|
  allc (a := (237, .inr (.inl (89, 4, 8)))) (okV (y := yX7_putRow) kw_633 kw_105 rfl rfl (by decide +kernel) kw_631 kw_632 kw_957) <|
  allc (a := (240, .inl (a_il 5 242))) (s_iload (by decide +kernel)) <|
  alln
set_option maxRecDepth 20000 in
theorem kX2_describe_3 : ∀ q ∈ tX2_describe_3, OkQ RX2 "describe" cX2_describe 7 (some .boolean) q :=
  allc (a := (242, .inl (o_if_le 249 245))) (s_if_le (by decide +kernel) (by decide)) <|
  allc (a := (245, .inl (a_ic 1 246))) (s_iconst (n := 1) rfl (by decide +kernel)) <|
  allc (a := (246, .inl (a_go 250))) (s_goto (by decide +kernel) (by decide)) <|
  allc (a := (249, .inl (a_ic 0 250))) (s_iconst (n := 0) rfl (by decide +kernel)) <|
  allc (a := (250, .inr (.inr 3))) (Or.inr (Or.inr (Or.inr ⟨rfl, rfl, by decide +kernel⟩))) <|
  alln
theorem kX2_describe : ∀ q ∈ tX2_describe, OkQ RX2 "describe" cX2_describe 7 (some .boolean) q := alla kX2_describe_0 (alla kX2_describe_1 (alla kX2_describe_2 kX2_describe_3))
set_option maxRecDepth 20000 in
theorem kX2_weigh_0 : ∀ q ∈ tX2_weigh_0, OkQ RX2 "weigh" cX2_weigh 4 (some .int) q :=
  allc (a := (0, .inl (a_al 1 1))) (s_aload_n rfl (by decide +kernel)) <|
  allc (a := (1, .inl (a_get 0 0 4))) (gX0 (f0 := 0) (by decide) kw_179 (by decide +kernel)) <|
  allc (a := (4, .inl (a_len 5))) (s_len (by decide +kernel)) <|
  allc (a := (5, .inl (a_ic 1 6))) (s_iconst (n := 1) rfl (by decide +kernel)) <|
  allc (a := (6, .inl (o_isub 7))) (s_isub (by decide +kernel)) <|
  allc (a := (7, .inl (a_is 2 8))) (s_istore_n rfl (by decide +kernel) (by decide)) <|
  allc (a := (8, .inl (a_il 2 9))) (s_iload_n rfl (by decide +kernel)) <|
  allc (a := (9, .inl (o_if_le 27 12))) (s_if_le (by decide +kernel) (by decide)) <|
  allc (a := (12, .inl (a_al 1 13))) (s_aload_n rfl (by decide +kernel)) <|
  allc (a := (13, .inl (a_get 0 0 16))) (gX0 (f0 := 0) (by decide) kw_179 (by decide +kernel)) <|
  allc (a := (16, .inl (a_il 2 17))) (s_iload_n rfl (by decide +kernel)) <|
  allc (a := (17, .inl (a_iald 18))) (s_iald (by decide +kernel)) <|
  allc (a := (18, .inl (o_if_ne 27 21))) (s_if_ne (by decide +kernel) (by decide)) <|
  allc (a := (21, .inl (a_inc 2 (-1) 24))) (s_iinc rfl (by decide +kernel) (by decide)) <|
  allc (a := (24, .inl (a_go 8))) (s_goto (by decide +kernel) (by decide)) <|
  allc (a := (27, .inl (a_al 0 28))) (s_aload_n rfl (by decide +kernel)) <|
  allc (a := (28, .inl (a_get 2 1 31))) (gX2 (f0 := 1) (by decide) kw_274 (by decide +kernel)) <|
  allc (a := (31, .inl (a_ic 0 32))) (s_iconst (n := 0) rfl (by decide +kernel)) <|
  allc (a := (32, .inr (.inl (224, 2, 0)))) (okS (y := yJ7_fill_53178) kw_496 kw_116 rfl (by decide +kernel) kw_495 (Or.inl kw_699)) <|
  allc (a := (35, .inl (a_ic 0 36))) (s_iconst (n := 0) rfl (by decide +kernel)) <|
  allc (a := (36, .inl (a_is 3 37))) (s_istore_n rfl (by decide +kernel) (by decide)) <|
  allc (a := (37, .inl (a_il 3 38))) (s_iload_n rfl (by decide +kernel)) <|
  allc (a := (38, .inl (a_il 2 39))) (s_iload_n rfl (by decide +kernel)) <|
  allc (a := (39, .inl (o_icmp_ge 74 42))) (s_icmp_ge (by decide +kernel) (by decide)) <|
  allc (a := (42, .inl (a_al 0 43))) (s_aload_n rfl (by decide +kernel)) <|
  allc (a := (43, .inl (a_get 2 0 46))) (gX2 (f0 := 0) (by decide) kw_273 (by decide +kernel)) <|
  allc (a := (46, .inl (a_il 3 47))) (s_iload_n rfl (by decide +kernel)) <|
  allc (a := (47, .inl (a_al 1 48))) (s_aload_n rfl (by decide +kernel)) <|
  allc (a := (48, .inl (a_il 3 49))) (s_iload_n rfl (by decide +kernel)) <|
  allc (a := (49, .inr (.inl (2, 2, 1)))) (okV (y := yX0_weight) kw_709 kw_108 rfl rfl (by decide +kernel) kw_707 kw_708 kw_899) <|
  allc (a := (52, .inl (a_iast 53))) (s_iast (by decide +kernel)) <|
  allc (a := (53, .inl (a_al 0 54))) (s_aload_n rfl (by decide +kernel)) <|
  allc (a := (54, .inl (a_get 2 1 57))) (gX2 (f0 := 1) (by decide) kw_274 (by decide +kernel)) <|
  allc (a := (57, .inl (a_al 0 58))) (s_aload_n rfl (by decide +kernel)) <|
  allc (a := (58, .inl (a_get 2 0 61))) (gX2 (f0 := 0) (by decide) kw_273 (by decide +kernel)) <|
  allc (a := (61, .inl (a_il 3 62))) (s_iload_n rfl (by decide +kernel)) <|
  allc (a := (62, .inl (a_iald 63))) (s_iald (by decide +kernel)) <|
  allc (a := (63, .inl (a_dup2 64))) (s_dup2 (by decide +kernel)) <|
  allc (a := (64, .inl (a_iald 65))) (s_iald (by decide +kernel)) <|
  allc (a := (65, .inl (a_ic 1 66))) (s_iconst (n := 1) rfl (by decide +kernel)) <|
  alln
set_option maxRecDepth 20000 in
theorem kX2_weigh_1 : ∀ q ∈ tX2_weigh_1, OkQ RX2 "weigh" cX2_weigh 4 (some .int) q :=
  allc (a := (66, .inl (o_iadd 67))) (s_iadd (by decide +kernel)) <|
  allc (a := (67, .inl (a_iast 68))) (s_iast (by decide +kernel)) <|
  allc (a := (68, .inl (a_inc 3 1 71))) (s_iinc rfl (by decide +kernel) (by decide)) <|
  allc (a := (71, .inl (a_go 37))) (s_goto (by decide +kernel) (by decide)) <|
  allc (a := (74, .inl (a_il 2 75))) (s_iload_n rfl (by decide +kernel)) <|
  allc (a := (75, .inr (.inr 1))) (Or.inr (Or.inl ⟨rfl, rfl, by decide +kernel⟩)) <|
  alln
theorem kX2_weigh : ∀ q ∈ tX2_weigh, OkQ RX2 "weigh" cX2_weigh 4 (some .int) q := alla kX2_weigh_0 kX2_weigh_1
set_option maxRecDepth 20000 in
theorem kX2_putDirect_0 : ∀ q ∈ tX2_putDirect_0, OkQ RX2 "putDirect" cX2_putDirect 4 (none) q :=
  allc (a := (0, .inl (a_al 1 1))) (s_aload_n rfl (by decide +kernel)) <|
  allc (a := (1, .inl (a_ic 127 3))) (s_bipush (n := 127) rfl (by decide +kernel)) <|
  allc (a := (3, .inl (a_il 2 4))) (s_iload_n rfl (by decide +kernel)) <|
  allc (a := (4, .inl (o_iadd 5))) (s_iadd (by decide +kernel)) <|
  allc (a := (5, .inr (.inl (87, 2, 8)))) (okV (y := yX7_put) kw_608 kw_105 rfl rfl (by decide +kernel) kw_606 kw_607 kw_956) <|
  allc (a := (8, .inl (a_ic 0 9))) (s_iconst (n := 0) rfl (by decide +kernel)) <|
  allc (a := (9, .inl (a_is 3 10))) (s_istore_n rfl (by decide +kernel) (by decide)) <|
  allc (a := (10, .inl (a_il 3 11))) (s_iload_n rfl (by decide +kernel)) <|
  allc (a := (11, .inl (a_il 2 12))) (s_iload_n rfl (by decide +kernel)) <|
  allc (a := (12, .inl (o_icmp_ge 54 15))) (s_icmp_ge (by decide +kernel) (by decide)) <|
  allc (a := (15, .inl (a_al 1 16))) (s_aload_n rfl (by decide +kernel)) <|
  allc (a := (16, .inl (a_ic 16 18))) (s_bipush (n := 16) rfl (by decide +kernel)) <|
  allc (a := (18, .inl (a_al 0 19))) (s_aload_n rfl (by decide +kernel)) <|
  allc (a := (19, .inl (a_get 2 0 22))) (gX2 (f0 := 0) (by decide) kw_273 (by decide +kernel)) <|
  allc (a := (22, .inl (a_il 3 23))) (s_iload_n rfl (by decide +kernel)) <|
  allc (a := (23, .inl (a_iald 24))) (s_iald (by decide +kernel)) <|
  allc (a := (24, .inl (o_imul 25))) (s_imul (by decide +kernel)) <|
  allc (a := (25, .inl (a_il 3 26))) (s_iload_n rfl (by decide +kernel)) <|
  allc (a := (26, .inl (a_ic 1 27))) (s_iconst (n := 1) rfl (by decide +kernel)) <|
  allc (a := (27, .inl (o_iadd 28))) (s_iadd (by decide +kernel)) <|
  allc (a := (28, .inl (a_il 2 29))) (s_iload_n rfl (by decide +kernel)) <|
  allc (a := (29, .inl (o_icmp_ge 43 32))) (s_icmp_ge (by decide +kernel) (by decide)) <|
  allc (a := (32, .inl (a_al 0 33))) (s_aload_n rfl (by decide +kernel)) <|
  allc (a := (33, .inl (a_get 2 0 36))) (gX2 (f0 := 0) (by decide) kw_273 (by decide +kernel)) <|
  allc (a := (36, .inl (a_il 3 37))) (s_iload_n rfl (by decide +kernel)) <|
  allc (a := (37, .inl (a_ic 1 38))) (s_iconst (n := 1) rfl (by decide +kernel)) <|
  allc (a := (38, .inl (o_iadd 39))) (s_iadd (by decide +kernel)) <|
  allc (a := (39, .inl (a_iald 40))) (s_iald (by decide +kernel)) <|
  allc (a := (40, .inl (a_go 44))) (s_goto (by decide +kernel) (by decide)) <|
  allc (a := (43, .inl (a_ic 0 44))) (s_iconst (n := 0) rfl (by decide +kernel)) <|
  allc (a := (44, .inl (o_iadd 45))) (s_iadd (by decide +kernel)) <|
  allc (a := (45, .inr (.inl (87, 2, 8)))) (okV (y := yX7_put) kw_608 kw_105 rfl rfl (by decide +kernel) kw_606 kw_607 kw_956) <|
  allc (a := (48, .inl (a_inc 3 2 51))) (s_iinc rfl (by decide +kernel) (by decide)) <|
  allc (a := (51, .inl (a_go 10))) (s_goto (by decide +kernel) (by decide)) <|
  allc (a := (54, .inr (.inr 0))) (Or.inl ⟨rfl, rfl, by decide +kernel⟩) <|
  alln
theorem kX2_putDirect : ∀ q ∈ tX2_putDirect, OkQ RX2 "putDirect" cX2_putDirect 4 (none) q := kX2_putDirect_0
