/-! the words that the law's entries rest on -/
set_option maxRecDepth 20000 in
theorem kw_120 : Cond.classLink "StatePressLaw" 7 "StatePress" ∈ TBg := TB1 17 rfl rfl
set_option maxRecDepth 20000 in
theorem kw_122 : Cond.methodLink "StatePressLaw" 9 yX11_init ∈ TBg := TB1 19 rfl rfl
set_option maxRecDepth 20000 in
theorem kw_123 : Cond.instanceMethod yX11_init ∈ TBg := TB1 20 rfl rfl
set_option maxRecDepth 20000 in
theorem kw_124 : Cond.code yX11_init cX11_init 1 none ∈ TBg := TB1 21 rfl rfl
set_option maxRecDepth 20000 in
theorem kw_601 : Cond.methodLink "StatePressLaw" 15 yX11_write ∈ TBg := TB3 18 rfl rfl
set_option maxRecDepth 20000 in
theorem kw_602 : Cond.instanceMethod yX11_write ∈ TBg := TB3 19 rfl rfl
set_option maxRecDepth 20000 in
theorem kw_603 : Cond.selects "StatePress" yX11_write yX11_write ∈ TBg := TB3 20 rfl rfl
set_option maxRecDepth 20000 in
theorem kw_604 : Cond.code yX11_write cX11_write 5 (some .boolean) ∈ TBg := TB3 21 rfl rfl
set_option maxRecDepth 20000 in
theorem kw_609 : Cond.methodLink "StatePressLaw" 20 yX11_again ∈ TBg := TB3 26 rfl rfl
set_option maxRecDepth 20000 in
theorem kw_610 : Cond.instanceMethod yX11_again ∈ TBg := TB3 27 rfl rfl
set_option maxRecDepth 20000 in
theorem kw_611 : Cond.selects "StatePress" yX11_again yX11_again ∈ TBg := TB3 28 rfl rfl
set_option maxRecDepth 20000 in
theorem kw_612 : Cond.code yX11_again cX11_again 5 (some .boolean) ∈ TBg := TB3 29 rfl rfl
set_option maxRecDepth 20000 in
theorem kw_618 : Cond.methodLink "StatePressLaw" 25 yX11_clear ∈ TBg := TB3 35 rfl rfl
set_option maxRecDepth 20000 in
theorem kw_619 : Cond.instanceMethod yX11_clear ∈ TBg := TB3 36 rfl rfl
set_option maxRecDepth 20000 in
theorem kw_620 : Cond.selects "StatePress" yX11_clear yX11_clear ∈ TBg := TB3 37 rfl rfl
set_option maxRecDepth 20000 in
theorem kw_621 : Cond.code yX11_clear cX11_clear 1 none ∈ TBg := TB3 38 rfl rfl
set_option maxRecDepth 20000 in
theorem kw_626 : Cond.methodLink "StatePressLaw" 29 yX11_turn ∈ TBg := TB3 43 rfl rfl
set_option maxRecDepth 20000 in
theorem kw_627 : Cond.instanceMethod yX11_turn ∈ TBg := TB3 44 rfl rfl
set_option maxRecDepth 20000 in
theorem kw_628 : Cond.selects "StatePress" yX11_turn yX11_turn ∈ TBg := TB3 45 rfl rfl
set_option maxRecDepth 20000 in
theorem kw_629 : Cond.code yX11_turn cX11_turn 1 (some .boolean) ∈ TBg := TB3 46 rfl rfl
set_option maxRecDepth 20000 in
theorem kw_640 : Cond.methodLink "StatePressLaw" 34 yX11_rule ∈ TBg := TB3 57 rfl rfl
set_option maxRecDepth 20000 in
theorem kw_641 : Cond.instanceMethod yX11_rule ∈ TBg := TB3 58 rfl rfl
set_option maxRecDepth 20000 in
theorem kw_642 : Cond.selects "StatePress" yX11_rule yX11_rule ∈ TBg := TB3 59 rfl rfl
set_option maxRecDepth 20000 in
theorem kw_643 : Cond.code yX11_rule cX11_rule 3 (some .boolean) ∈ TBg := TB3 60 rfl rfl
set_option maxRecDepth 20000 in
theorem kw_644 : Cond.methodLink "StatePressLaw" 38 yX11_learn ∈ TBg := TB3 61 rfl rfl
set_option maxRecDepth 20000 in
theorem kw_645 : Cond.instanceMethod yX11_learn ∈ TBg := TB3 62 rfl rfl
set_option maxRecDepth 20000 in
theorem kw_646 : Cond.selects "StatePress" yX11_learn yX11_learn ∈ TBg := TB3 63 rfl rfl
set_option maxRecDepth 20000 in
theorem kw_647 : Cond.code yX11_learn cX11_learn 4 (some .int) ∈ TBg := TB3 64 rfl rfl
set_option maxRecDepth 20000 in
theorem kw_712 : Cond.methodLink "StatePressLaw" 43 yX11_forget ∈ TBg := TB3 129 rfl rfl
set_option maxRecDepth 20000 in
theorem kw_713 : Cond.instanceMethod yX11_forget ∈ TBg := TB3 130 rfl rfl
set_option maxRecDepth 20000 in
theorem kw_714 : Cond.selects "StatePress" yX11_forget yX11_forget ∈ TBg := TB3 131 rfl rfl
set_option maxRecDepth 20000 in
theorem kw_715 : Cond.code yX11_forget cX11_forget 1 none ∈ TBg := TB3 132 rfl rfl
set_option maxRecDepth 20000 in
theorem kw_716 : Cond.methodLink "StatePressLaw" 47 yX11_press ∈ TBg := TB3 133 rfl rfl
set_option maxRecDepth 20000 in
theorem kw_717 : Cond.instanceMethod yX11_press ∈ TBg := TB3 134 rfl rfl
set_option maxRecDepth 20000 in
theorem kw_718 : Cond.selects "StatePress" yX11_press yX11_press ∈ TBg := TB3 135 rfl rfl
set_option maxRecDepth 20000 in
theorem kw_719 : Cond.code yX11_press cX11_press 8 (some .int) ∈ TBg := TB3 136 rfl rfl
set_option maxRecDepth 20000 in
theorem kw_1148 : Cond.methodLink "StatePressLaw" 52 yX11_make ∈ TBg := TB5 85 rfl rfl
set_option maxRecDepth 20000 in
theorem kw_1149 : Cond.instanceMethod yX11_make ∈ TBg := TB5 86 rfl rfl
set_option maxRecDepth 20000 in
theorem kw_1150 : Cond.selects "StatePress" yX11_make yX11_make ∈ TBg := TB5 87 rfl rfl
set_option maxRecDepth 20000 in
theorem kw_1151 : Cond.code yX11_make cX11_make 3 (some .int) ∈ TBg := TB5 88 rfl rfl
set_option maxRecDepth 20000 in
theorem kw_1167 : Cond.methodLink "StatePressLaw" 57 yX11_about ∈ TBg := TB5 104 rfl rfl
set_option maxRecDepth 20000 in
theorem kw_1168 : Cond.instanceMethod yX11_about ∈ TBg := TB5 105 rfl rfl
set_option maxRecDepth 20000 in
theorem kw_1169 : Cond.selects "StatePress" yX11_about yX11_about ∈ TBg := TB5 106 rfl rfl
set_option maxRecDepth 20000 in
theorem kw_1170 : Cond.code yX11_about cX11_about 2 (some .int) ∈ TBg := TB5 107 rfl rfl
set_option maxRecDepth 20000 in
theorem kw_1171 : Cond.methodLink "StatePressLaw" 61 yX11_size ∈ TBg := TB5 108 rfl rfl
set_option maxRecDepth 20000 in
theorem kw_1172 : Cond.instanceMethod yX11_size ∈ TBg := TB5 109 rfl rfl
set_option maxRecDepth 20000 in
theorem kw_1173 : Cond.selects "StatePress" yX11_size yX11_size ∈ TBg := TB5 110 rfl rfl
set_option maxRecDepth 20000 in
theorem kw_1174 : Cond.code yX11_size cX11_size 1 (some .int) ∈ TBg := TB5 111 rfl rfl
set_option maxRecDepth 20000 in
theorem kw_1175 : Cond.methodLink "StatePressLaw" 65 yX11_byteAt ∈ TBg := TB5 112 rfl rfl
set_option maxRecDepth 20000 in
theorem kw_1176 : Cond.instanceMethod yX11_byteAt ∈ TBg := TB5 113 rfl rfl
set_option maxRecDepth 20000 in
theorem kw_1177 : Cond.selects "StatePress" yX11_byteAt yX11_byteAt ∈ TBg := TB5 114 rfl rfl
set_option maxRecDepth 20000 in
theorem kw_1178 : Cond.code yX11_byteAt cX11_byteAt 2 (some .int) ∈ TBg := TB5 115 rfl rfl
set_option maxRecDepth 20000 in
theorem kw_1179 : Cond.classLink "StatePressLaw" 10 "StatePressModel" ∈ TBg := TB5 116 rfl rfl
set_option maxRecDepth 20000 in
theorem kw_1181 : Cond.methodLink "StatePressLaw" 12 yX12_init ∈ TBg := TB5 118 rfl rfl
set_option maxRecDepth 20000 in
theorem kw_1182 : Cond.instanceMethod yX12_init ∈ TBg := TB5 119 rfl rfl
set_option maxRecDepth 20000 in
theorem kw_1183 : Cond.code yX12_init cX12_init 1 none ∈ TBg := TB5 120 rfl rfl
set_option maxRecDepth 20000 in
theorem kw_1380 : Cond.methodLink "StatePressLaw" 19 yX12_write ∈ TBg := TB6 77 rfl rfl
set_option maxRecDepth 20000 in
theorem kw_1381 : Cond.instanceMethod yX12_write ∈ TBg := TB6 78 rfl rfl
set_option maxRecDepth 20000 in
theorem kw_1382 : Cond.selects "StatePressModel" yX12_write yX12_write ∈ TBg := TB6 79 rfl rfl
set_option maxRecDepth 20000 in
theorem kw_1383 : Cond.code yX12_write cX12_write 5 (some .boolean) ∈ TBg := TB6 80 rfl rfl
set_option maxRecDepth 20000 in
theorem kw_1385 : Cond.methodLink "StatePressLaw" 24 yX12_again ∈ TBg := TB6 82 rfl rfl
set_option maxRecDepth 20000 in
theorem kw_1386 : Cond.instanceMethod yX12_again ∈ TBg := TB6 83 rfl rfl
set_option maxRecDepth 20000 in
theorem kw_1387 : Cond.selects "StatePressModel" yX12_again yX12_again ∈ TBg := TB6 84 rfl rfl
set_option maxRecDepth 20000 in
theorem kw_1388 : Cond.code yX12_again cX12_again 4 (some .boolean) ∈ TBg := TB6 85 rfl rfl
set_option maxRecDepth 20000 in
theorem kw_1389 : Cond.methodLink "StatePressLaw" 28 yX12_clear ∈ TBg := TB6 86 rfl rfl
set_option maxRecDepth 20000 in
theorem kw_1390 : Cond.instanceMethod yX12_clear ∈ TBg := TB6 87 rfl rfl
set_option maxRecDepth 20000 in
theorem kw_1391 : Cond.selects "StatePressModel" yX12_clear yX12_clear ∈ TBg := TB6 88 rfl rfl
set_option maxRecDepth 20000 in
theorem kw_1392 : Cond.code yX12_clear cX12_clear 1 none ∈ TBg := TB6 89 rfl rfl
set_option maxRecDepth 20000 in
theorem kw_1393 : Cond.methodLink "StatePressLaw" 33 yX12_turn ∈ TBg := TB6 90 rfl rfl
set_option maxRecDepth 20000 in
theorem kw_1394 : Cond.instanceMethod yX12_turn ∈ TBg := TB6 91 rfl rfl
set_option maxRecDepth 20000 in
theorem kw_1395 : Cond.selects "StatePressModel" yX12_turn yX12_turn ∈ TBg := TB6 92 rfl rfl
set_option maxRecDepth 20000 in
theorem kw_1396 : Cond.code yX12_turn cX12_turn 2 (some .boolean) ∈ TBg := TB6 93 rfl rfl
set_option maxRecDepth 20000 in
theorem kw_1397 : Cond.methodLink "StatePressLaw" 37 yX12_rule ∈ TBg := TB6 94 rfl rfl
set_option maxRecDepth 20000 in
theorem kw_1398 : Cond.instanceMethod yX12_rule ∈ TBg := TB6 95 rfl rfl
set_option maxRecDepth 20000 in
theorem kw_1399 : Cond.selects "StatePressModel" yX12_rule yX12_rule ∈ TBg := TB6 96 rfl rfl
set_option maxRecDepth 20000 in
theorem kw_1400 : Cond.code yX12_rule cX12_rule 3 (some .boolean) ∈ TBg := TB6 97 rfl rfl
set_option maxRecDepth 20000 in
theorem kw_1401 : Cond.methodLink "StatePressLaw" 51 yX12_press ∈ TBg := TB6 98 rfl rfl
set_option maxRecDepth 20000 in
theorem kw_1402 : Cond.instanceMethod yX12_press ∈ TBg := TB6 99 rfl rfl
set_option maxRecDepth 20000 in
theorem kw_1403 : Cond.selects "StatePressModel" yX12_press yX12_press ∈ TBg := TB6 100 rfl rfl
set_option maxRecDepth 20000 in
theorem kw_1404 : Cond.code yX12_press cX12_press 14 (some .int) ∈ TBg := TB6 101 rfl rfl
set_option maxRecDepth 20000 in
theorem kw_1665 : Cond.methodLink "StatePressLaw" 60 yX12_about ∈ TBg := TB7 122 rfl rfl
set_option maxRecDepth 20000 in
theorem kw_1666 : Cond.instanceMethod yX12_about ∈ TBg := TB7 123 rfl rfl
set_option maxRecDepth 20000 in
theorem kw_1667 : Cond.selects "StatePressModel" yX12_about yX12_about ∈ TBg := TB7 124 rfl rfl
set_option maxRecDepth 20000 in
theorem kw_1668 : Cond.code yX12_about cX12_about 2 (some .int) ∈ TBg := TB7 125 rfl rfl
set_option maxRecDepth 20000 in
theorem kw_1669 : Cond.methodLink "StatePressLaw" 56 yX12_make ∈ TBg := TB7 126 rfl rfl
set_option maxRecDepth 20000 in
theorem kw_1670 : Cond.instanceMethod yX12_make ∈ TBg := TB7 127 rfl rfl
set_option maxRecDepth 20000 in
theorem kw_1671 : Cond.selects "StatePressModel" yX12_make yX12_make ∈ TBg := TB7 128 rfl rfl
set_option maxRecDepth 20000 in
theorem kw_1672 : Cond.code yX12_make cX12_make 6 (some .int) ∈ TBg := TB7 129 rfl rfl
set_option maxRecDepth 20000 in
theorem kw_1677 : Cond.methodLink "StatePressLaw" 46 yX12_forget ∈ TBg := TB7 134 rfl rfl
set_option maxRecDepth 20000 in
theorem kw_1678 : Cond.instanceMethod yX12_forget ∈ TBg := TB7 135 rfl rfl
set_option maxRecDepth 20000 in
theorem kw_1679 : Cond.selects "StatePressModel" yX12_forget yX12_forget ∈ TBg := TB7 136 rfl rfl
set_option maxRecDepth 20000 in
theorem kw_1680 : Cond.code yX12_forget cX12_forget 1 none ∈ TBg := TB7 137 rfl rfl
set_option maxRecDepth 20000 in
theorem kw_1681 : Cond.methodLink "StatePressLaw" 42 yX12_learn ∈ TBg := TB7 138 rfl rfl
set_option maxRecDepth 20000 in
theorem kw_1682 : Cond.instanceMethod yX12_learn ∈ TBg := TB7 139 rfl rfl
set_option maxRecDepth 20000 in
theorem kw_1683 : Cond.selects "StatePressModel" yX12_learn yX12_learn ∈ TBg := TB7 140 rfl rfl
set_option maxRecDepth 20000 in
theorem kw_1684 : Cond.code yX12_learn cX12_learn 8 (some .int) ∈ TBg := TB7 141 rfl rfl
set_option maxRecDepth 20000 in
theorem kw_1705 : Cond.methodLink "StatePressLaw" 64 yX12_size ∈ TBg := TB7 162 rfl rfl
set_option maxRecDepth 20000 in
theorem kw_1706 : Cond.instanceMethod yX12_size ∈ TBg := TB7 163 rfl rfl
set_option maxRecDepth 20000 in
theorem kw_1707 : Cond.selects "StatePressModel" yX12_size yX12_size ∈ TBg := TB7 164 rfl rfl
set_option maxRecDepth 20000 in
theorem kw_1708 : Cond.code yX12_size cX12_size 1 (some .int) ∈ TBg := TB7 165 rfl rfl
set_option maxRecDepth 20000 in
theorem kw_1709 : Cond.methodLink "StatePressLaw" 68 yX12_byteAt ∈ TBg := TB7 166 rfl rfl
set_option maxRecDepth 20000 in
theorem kw_1710 : Cond.instanceMethod yX12_byteAt ∈ TBg := TB7 167 rfl rfl
set_option maxRecDepth 20000 in
theorem kw_1711 : Cond.selects "StatePressModel" yX12_byteAt yX12_byteAt ∈ TBg := TB7 168 rfl rfl
set_option maxRecDepth 20000 in
theorem kw_1712 : Cond.code yX12_byteAt cX12_byteAt 2 (some .int) ∈ TBg := TB7 169 rfl rfl
set_option maxRecDepth 20000 in
theorem kw_1713 : Cond.constantLong "StatePressLaw" 13 4294967295 ∈ TBg := TB7 170 rfl rfl
/-! THE LAW: its table, its start, and the claim out of its run on the abstract machine -/
def a_tsw (lo hi : Int) (tg : List Nat) (df : Nat) : aF := fun L S H => match S with
  | .int x :: S => some (if x.toInt < lo ∨ hi < x.toInt then df else tg.getD (x.toInt - lo).toNat 0, L, S, H)
  | _ => none
theorem s_tsw {dflt lo hi : Int} {offs : Array Int} {len df : Nat} {tg : List Nat} {cc : ByteArray} {nL : Nat} {own nm : String} {pc : Nat} (d : decode cc pc = .ok (.tableswitch dflt lo hi offs, len)) (hdf : (pc : Int) + dflt = (df : Int)) (htg : (List.range (hi - lo + 1).toNat).all (fun j => match offs[j]? with | some o => decide ((pc : Int) + o = ((tg.getD j 0 : Nat) : Int)) | none => false) = true) : Okf cc nL own nm pc (a_tsw lo hi tg df) := by
  refine ⟨lm_in (by intro L L2 S H; unfold a_tsw; (repeat' split) <;> first | rfl | simp_all) (by intro L S H x hx; unfold a_tsw at hx; (repeat' split at hx) <;> first | (cases hx; rfl) | cases hx), fun L S H x hx => ?_, ?_⟩
  · unfold a_tsw at hx
    split at hx
    · cases hx; exact ⟨Nat.le_refl _, Nat.le_refl _⟩
    · cases hx
  · intro D cy z st sl sx n0 s0 p l e R s m args below meth c Q C L S H x hx h1 h2 h3 h4 k
    unfold a_tsw at hx
    split at hx
    · rename_i v S1
      cases hx
      intro Hp locs ls hs hS hl
      have k1 := k Hp locs ls hs hS hl
      dsimp only at k1
      by_cases hc : v.toInt < lo ∨ hi < v.toInt
      · rw [if_pos hc] at k1
        exact lv_tableOut C.1 C.2.1 d hc hdf k1
      · rw [if_neg hc] at k1
        have hj := List.all_eq_true.mp htg (v.toInt - lo).toNat (List.mem_range.mpr (by omega))
        split at hj
        · rename_i o ho
          exact lv_tableIn C.1 C.2.1 d (fun h => hc (Or.inl h)) (fun h => hc (Or.inr h)) ho (of_decide_eq_true hj) k1
        · cases hj
    · cases hx
def tLaw_0 : List (Nat × aI) := [(0, .inl (a_new 10 12 zX11 3)), (3, .inl (a_dup 4)), (4, .inr (.inl (123, 1, 11))), (7, .inl (a_as 1 8)), (8, .inl (a_new 11 64 zX12 11)), (11, .inl (a_dup 12)), (12, .inr (.inl (141, 1, 12))), (15, .inl (a_as 2 16)), (16, .inl (a_ic 0 17)), (17, .inl (a_is 3 18)), (18, .inl (a_il 3 19)), (19, .inl (a_al 0 20)), (20, .inl (a_len 21)), (21, .inl (a_ic 4 22)), (22, .inl (o_isub 23)), (23, .inl (o_icmp_gt 404 26)), (26, .inl (a_al 0 27)), (27, .inl (a_il 3 28)), (28, .inl (a_iald 29)), (29, .inl (a_ic 15 31)), (31, .inl (o_iand 32)), (32, .inl (a_tsw 0 11 [96, 159, 192, 203, 216, 249, 262, 273, 316, 339, 362, 375] 398)), (96, .inl (a_al 1 97)), (97, .inl (a_al 0 98)), (98, .inl (a_il 3 99)), (99, .inl (a_ic 1 100)), (100, .inl (o_iadd 101)), (101, .inl (a_iald 102)), (102, .inl (a_i2l 103)), (103, .inl (a_ic 32 105)), (105, .inl (o_lshl 106)), (106, .inl (a_al 0 107)), (107, .inl (a_il 3 108)), (108, .inl (a_ic 2 109)), (109, .inl (o_iadd 110)), (110, .inl (a_iald 111)), (111, .inl (a_i2l 112)), (112, .inl (a_lc 4294967295 115)), (115, .inl (o_land 116)), (116, .inl (o_lor 117))]
def tLaw_1 : List (Nat × aI) := [(117, .inl (a_al 0 118)), (118, .inl (a_il 3 119)), (119, .inl (a_ic 3 120)), (120, .inl (o_iadd 121)), (121, .inl (a_iald 122)), (122, .inr (.inl (124, 3, 11))), (125, .inl (a_al 2 126)), (126, .inl (a_al 0 127)), (127, .inl (a_il 3 128)), (128, .inl (a_ic 1 129)), (129, .inl (o_iadd 130)), (130, .inl (a_iald 131)), (131, .inl (a_i2l 132)), (132, .inl (a_ic 32 134)), (134, .inl (o_lshl 135)), (135, .inl (a_al 0 136)), (136, .inl (a_il 3 137)), (137, .inl (a_ic 2 138)), (138, .inl (o_iadd 139)), (139, .inl (a_iald 140)), (140, .inl (a_i2l 141)), (141, .inl (a_lc 4294967295 144)), (144, .inl (o_land 145)), (145, .inl (o_lor 146)), (146, .inl (a_al 0 147)), (147, .inl (a_il 3 148)), (148, .inl (a_ic 3 149)), (149, .inl (o_iadd 150)), (150, .inl (a_iald 151)), (151, .inr (.inl (142, 3, 12))), (154, .inl (o_icmp_eq 398 157)), (157, .inl (a_ic 0 158)), (158, .inr (.inr 3)), (159, .inl (a_al 1 160)), (160, .inl (a_al 0 161)), (161, .inl (a_il 3 162)), (162, .inl (a_ic 1 163)), (163, .inl (o_iadd 164)), (164, .inl (a_iald 165)), (165, .inl (a_al 0 166))]
def tLaw_2 : List (Nat × aI) := [(166, .inl (a_il 3 167)), (167, .inl (a_ic 2 168)), (168, .inl (o_iadd 169)), (169, .inl (a_iald 170)), (170, .inr (.inl (125, 3, 11))), (173, .inl (a_al 2 174)), (174, .inl (a_al 0 175)), (175, .inl (a_il 3 176)), (176, .inl (a_ic 1 177)), (177, .inl (o_iadd 178)), (178, .inl (a_iald 179)), (179, .inl (a_al 0 180)), (180, .inl (a_il 3 181)), (181, .inl (a_ic 2 182)), (182, .inl (o_iadd 183)), (183, .inl (a_iald 184)), (184, .inr (.inl (143, 3, 12))), (187, .inl (o_icmp_eq 398 190)), (190, .inl (a_ic 0 191)), (191, .inr (.inr 3)), (192, .inl (a_al 1 193)), (193, .inr (.inl (126, 1, 11))), (196, .inl (a_al 2 197)), (197, .inr (.inl (144, 1, 12))), (200, .inl (a_go 398)), (203, .inl (a_al 1 204)), (204, .inr (.inl (127, 1, 11))), (207, .inl (a_al 2 208)), (208, .inr (.inl (145, 1, 12))), (211, .inl (o_icmp_eq 398 214)), (214, .inl (a_ic 0 215)), (215, .inr (.inr 3)), (216, .inl (a_al 1 217)), (217, .inl (a_al 0 218)), (218, .inl (a_il 3 219)), (219, .inl (a_ic 1 220)), (220, .inl (o_iadd 221)), (221, .inl (a_iald 222)), (222, .inl (a_al 0 223)), (223, .inl (a_il 3 224))]
def tLaw_3 : List (Nat × aI) := [(224, .inl (a_ic 2 225)), (225, .inl (o_iadd 226)), (226, .inl (a_iald 227)), (227, .inr (.inl (128, 3, 11))), (230, .inl (a_al 2 231)), (231, .inl (a_al 0 232)), (232, .inl (a_il 3 233)), (233, .inl (a_ic 1 234)), (234, .inl (o_iadd 235)), (235, .inl (a_iald 236)), (236, .inl (a_al 0 237)), (237, .inl (a_il 3 238)), (238, .inl (a_ic 2 239)), (239, .inl (o_iadd 240)), (240, .inl (a_iald 241)), (241, .inr (.inl (146, 3, 12))), (244, .inl (o_icmp_eq 398 247)), (247, .inl (a_ic 0 248)), (248, .inr (.inr 3)), (249, .inl (a_al 1 250)), (250, .inr (.inl (129, 1, 11))), (253, .inl (a_al 2 254)), (254, .inr (.inl (220, 1, 12))), (257, .inl (o_icmp_eq 398 260)), (260, .inl (a_ic 0 261)), (261, .inr (.inr 3)), (262, .inl (a_al 1 263)), (263, .inr (.inl (130, 1, 11))), (266, .inl (a_al 2 267)), (267, .inr (.inl (214, 1, 12))), (270, .inl (a_go 398)), (273, .inl (a_al 1 274)), (274, .inl (a_al 0 275)), (275, .inl (a_il 3 276)), (276, .inl (a_ic 1 277)), (277, .inl (o_iadd 278)), (278, .inl (a_iald 279)), (279, .inl (a_al 0 280)), (280, .inl (a_il 3 281)), (281, .inl (a_ic 2 282))]
def tLaw_4 : List (Nat × aI) := [(282, .inl (o_iadd 283)), (283, .inl (a_iald 284)), (284, .inl (a_al 0 285)), (285, .inl (a_il 3 286)), (286, .inl (a_ic 3 287)), (287, .inl (o_iadd 288)), (288, .inl (a_iald 289)), (289, .inr (.inl (131, 4, 11))), (292, .inl (a_al 2 293)), (293, .inl (a_al 0 294)), (294, .inl (a_il 3 295)), (295, .inl (a_ic 1 296)), (296, .inl (o_iadd 297)), (297, .inl (a_iald 298)), (298, .inl (a_al 0 299)), (299, .inl (a_il 3 300)), (300, .inl (a_ic 2 301)), (301, .inl (o_iadd 302)), (302, .inl (a_iald 303)), (303, .inl (a_al 0 304)), (304, .inl (a_il 3 305)), (305, .inl (a_ic 3 306)), (306, .inl (o_iadd 307)), (307, .inl (a_iald 308)), (308, .inr (.inl (208, 4, 12))), (311, .inl (o_icmp_eq 398 314)), (314, .inl (a_ic 0 315)), (315, .inr (.inr 3)), (316, .inl (a_al 1 317)), (317, .inl (a_al 0 318)), (318, .inl (a_il 3 319)), (319, .inl (a_ic 1 320)), (320, .inl (o_iadd 321)), (321, .inl (a_iald 322)), (322, .inr (.inl (132, 2, 11))), (325, .inl (a_al 2 326)), (326, .inl (a_al 0 327)), (327, .inl (a_il 3 328)), (328, .inl (a_ic 1 329)), (329, .inl (o_iadd 330))]
def tLaw_5 : List (Nat × aI) := [(330, .inl (a_iald 331)), (331, .inr (.inl (213, 2, 12))), (334, .inl (o_icmp_eq 398 337)), (337, .inl (a_ic 0 338)), (338, .inr (.inr 3)), (339, .inl (a_al 1 340)), (340, .inl (a_al 0 341)), (341, .inl (a_il 3 342)), (342, .inl (a_ic 1 343)), (343, .inl (o_iadd 344)), (344, .inl (a_iald 345)), (345, .inr (.inl (133, 2, 11))), (348, .inl (a_al 2 349)), (349, .inl (a_al 0 350)), (350, .inl (a_il 3 351)), (351, .inl (a_ic 1 352)), (352, .inl (o_iadd 353)), (353, .inl (a_iald 354)), (354, .inr (.inl (209, 2, 12))), (357, .inl (o_icmp_eq 398 360)), (360, .inl (a_ic 0 361)), (361, .inr (.inr 3)), (362, .inl (a_al 1 363)), (363, .inr (.inl (134, 1, 11))), (366, .inl (a_al 2 367)), (367, .inr (.inl (221, 1, 12))), (370, .inl (o_icmp_eq 398 373)), (373, .inl (a_ic 0 374)), (374, .inr (.inr 3)), (375, .inl (a_al 1 376)), (376, .inl (a_al 0 377)), (377, .inl (a_il 3 378)), (378, .inl (a_ic 1 379)), (379, .inl (o_iadd 380)), (380, .inl (a_iald 381)), (381, .inr (.inl (135, 2, 11))), (384, .inl (a_al 2 385)), (385, .inl (a_al 0 386)), (386, .inl (a_il 3 387)), (387, .inl (a_ic 1 388))]
def tLaw_6 : List (Nat × aI) := [(388, .inl (o_iadd 389)), (389, .inl (a_iald 390)), (390, .inr (.inl (222, 2, 12))), (393, .inl (o_icmp_eq 398 396)), (396, .inl (a_ic 0 397)), (397, .inr (.inr 3)), (398, .inl (a_inc 3 4 401)), (401, .inl (a_go 18)), (404, .inl (a_ic 1 405)), (405, .inr (.inr 3))]
def tLaw : List (Nat × aI) := tLaw_0 ++ (tLaw_1 ++ (tLaw_2 ++ (tLaw_3 ++ (tLaw_4 ++ (tLaw_5 ++ (tLaw_6))))))
set_option maxRecDepth 20000 in
theorem kLaw_0 (nm : String) : ∀ q ∈ tLaw_0, OkQ RL nm cL_law 4 (some .boolean) q :=
  allq (OkQ RL nm cL_law 4 (some .boolean)) 0 (.inl (a_new 10 12 zX11 3)) (nX11 kw_120 (by decide +kernel)) <|
  allq (OkQ RL nm cL_law 4 (some .boolean)) 3 (.inl (a_dup 4)) (s_dup (by decide +kernel)) <|
  allq (OkQ RL nm cL_law 4 (some .boolean)) 4 (.inr (.inl (123, 1, 11))) (okN (y := yX11_init) kw_124 kw_104 rfl (by decide +kernel) kw_123 (Or.inl kw_122)) <|
  allq (OkQ RL nm cL_law 4 (some .boolean)) 7 (.inl (a_as 1 8)) (s_astore_n (q := 1) (i := 1) rfl (by decide +kernel) (by decide)) <|
  allq (OkQ RL nm cL_law 4 (some .boolean)) 8 (.inl (a_new 11 64 zX12 11)) (nX12 kw_1179 (by decide +kernel)) <|
  allq (OkQ RL nm cL_law 4 (some .boolean)) 11 (.inl (a_dup 12)) (s_dup (by decide +kernel)) <|
  allq (OkQ RL nm cL_law 4 (some .boolean)) 12 (.inr (.inl (141, 1, 12))) (okN (y := yX12_init) kw_1183 kw_118 rfl (by decide +kernel) kw_1182 (Or.inl kw_1181)) <|
  allq (OkQ RL nm cL_law 4 (some .boolean)) 15 (.inl (a_as 2 16)) (s_astore_n (q := 2) (i := 2) rfl (by decide +kernel) (by decide)) <|
  allq (OkQ RL nm cL_law 4 (some .boolean)) 16 (.inl (a_ic 0 17)) (s_iconst (n := 0) (v := 0) rfl (by decide +kernel)) <|
  allq (OkQ RL nm cL_law 4 (some .boolean)) 17 (.inl (a_is 3 18)) (s_istore_n (q := 3) (i := 3) rfl (by decide +kernel) (by decide)) <|
  allq (OkQ RL nm cL_law 4 (some .boolean)) 18 (.inl (a_il 3 19)) (s_iload_n (q := 3) (i := 3) rfl (by decide +kernel)) <|
  allq (OkQ RL nm cL_law 4 (some .boolean)) 19 (.inl (a_al 0 20)) (s_aload_n (q := 0) (i := 0) rfl (by decide +kernel)) <|
  allq (OkQ RL nm cL_law 4 (some .boolean)) 20 (.inl (a_len 21)) (s_len (by decide +kernel)) <|
  allq (OkQ RL nm cL_law 4 (some .boolean)) 21 (.inl (a_ic 4 22)) (s_iconst (n := 4) (v := 4) rfl (by decide +kernel)) <|
  allq (OkQ RL nm cL_law 4 (some .boolean)) 22 (.inl (o_isub 23)) (s_isub (by decide +kernel)) <|
  allq (OkQ RL nm cL_law 4 (some .boolean)) 23 (.inl (o_icmp_gt 404 26)) (s_icmp_gt (off := 381) (by decide +kernel) (by decide)) <|
  allq (OkQ RL nm cL_law 4 (some .boolean)) 26 (.inl (a_al 0 27)) (s_aload_n (q := 0) (i := 0) rfl (by decide +kernel)) <|
  allq (OkQ RL nm cL_law 4 (some .boolean)) 27 (.inl (a_il 3 28)) (s_iload_n (q := 3) (i := 3) rfl (by decide +kernel)) <|
  allq (OkQ RL nm cL_law 4 (some .boolean)) 28 (.inl (a_iald 29)) (s_iald (by decide +kernel)) <|
  allq (OkQ RL nm cL_law 4 (some .boolean)) 29 (.inl (a_ic 15 31)) (s_bipush (n := 15) (v := 15) rfl (by decide +kernel)) <|
  allq (OkQ RL nm cL_law 4 (some .boolean)) 31 (.inl (o_iand 32)) (s_iand (by decide +kernel)) <|
  allq (OkQ RL nm cL_law 4 (some .boolean)) 32 (.inl (a_tsw 0 11 [96, 159, 192, 203, 216, 249, 262, 273, 316, 339, 362, 375] 398)) (s_tsw (dflt := 366) (offs := #[64, 127, 160, 171, 184, 217, 230, 241, 284, 307, 330, 343]) (len := 64) (by decide +kernel) (by decide) (by decide +kernel)) <|
  allq (OkQ RL nm cL_law 4 (some .boolean)) 96 (.inl (a_al 1 97)) (s_aload_n (q := 1) (i := 1) rfl (by decide +kernel)) <|
  allq (OkQ RL nm cL_law 4 (some .boolean)) 97 (.inl (a_al 0 98)) (s_aload_n (q := 0) (i := 0) rfl (by decide +kernel)) <|
  allq (OkQ RL nm cL_law 4 (some .boolean)) 98 (.inl (a_il 3 99)) (s_iload_n (q := 3) (i := 3) rfl (by decide +kernel)) <|
  allq (OkQ RL nm cL_law 4 (some .boolean)) 99 (.inl (a_ic 1 100)) (s_iconst (n := 1) (v := 1) rfl (by decide +kernel)) <|
  allq (OkQ RL nm cL_law 4 (some .boolean)) 100 (.inl (o_iadd 101)) (s_iadd (by decide +kernel)) <|
  allq (OkQ RL nm cL_law 4 (some .boolean)) 101 (.inl (a_iald 102)) (s_iald (by decide +kernel)) <|
  allq (OkQ RL nm cL_law 4 (some .boolean)) 102 (.inl (a_i2l 103)) (s_i2l (by decide +kernel)) <|
  allq (OkQ RL nm cL_law 4 (some .boolean)) 103 (.inl (a_ic 32 105)) (s_bipush (n := 32) (v := 32) rfl (by decide +kernel)) <|
  allq (OkQ RL nm cL_law 4 (some .boolean)) 105 (.inl (o_lshl 106)) (s_lshl (by decide +kernel)) <|
  allq (OkQ RL nm cL_law 4 (some .boolean)) 106 (.inl (a_al 0 107)) (s_aload_n (q := 0) (i := 0) rfl (by decide +kernel)) <|
  allq (OkQ RL nm cL_law 4 (some .boolean)) 107 (.inl (a_il 3 108)) (s_iload_n (q := 3) (i := 3) rfl (by decide +kernel)) <|
  allq (OkQ RL nm cL_law 4 (some .boolean)) 108 (.inl (a_ic 2 109)) (s_iconst (n := 2) (v := 2) rfl (by decide +kernel)) <|
  allq (OkQ RL nm cL_law 4 (some .boolean)) 109 (.inl (o_iadd 110)) (s_iadd (by decide +kernel)) <|
  allq (OkQ RL nm cL_law 4 (some .boolean)) 110 (.inl (a_iald 111)) (s_iald (by decide +kernel)) <|
  allq (OkQ RL nm cL_law 4 (some .boolean)) 111 (.inl (a_i2l 112)) (s_i2l (by decide +kernel)) <|
  allq (OkQ RL nm cL_law 4 (some .boolean)) 112 (.inl (a_lc 4294967295 115)) (s_ldc2 kw_1713 (by decide +kernel)) <|
  allq (OkQ RL nm cL_law 4 (some .boolean)) 115 (.inl (o_land 116)) (s_land (by decide +kernel)) <|
  allq (OkQ RL nm cL_law 4 (some .boolean)) 116 (.inl (o_lor 117)) (s_lor (by decide +kernel)) <|
  alln
set_option maxRecDepth 20000 in
theorem kLaw_1 (nm : String) : ∀ q ∈ tLaw_1, OkQ RL nm cL_law 4 (some .boolean) q :=
  allq (OkQ RL nm cL_law 4 (some .boolean)) 117 (.inl (a_al 0 118)) (s_aload_n (q := 0) (i := 0) rfl (by decide +kernel)) <|
  allq (OkQ RL nm cL_law 4 (some .boolean)) 118 (.inl (a_il 3 119)) (s_iload_n (q := 3) (i := 3) rfl (by decide +kernel)) <|
  allq (OkQ RL nm cL_law 4 (some .boolean)) 119 (.inl (a_ic 3 120)) (s_iconst (n := 3) (v := 3) rfl (by decide +kernel)) <|
  allq (OkQ RL nm cL_law 4 (some .boolean)) 120 (.inl (o_iadd 121)) (s_iadd (by decide +kernel)) <|
  allq (OkQ RL nm cL_law 4 (some .boolean)) 121 (.inl (a_iald 122)) (s_iald (by decide +kernel)) <|
  allq (OkQ RL nm cL_law 4 (some .boolean)) 122 (.inr (.inl (124, 3, 11))) (okV (y := yX11_write) kw_604 kw_104 rfl rfl (by decide +kernel) kw_602 kw_603 kw_601) <|
  allq (OkQ RL nm cL_law 4 (some .boolean)) 125 (.inl (a_al 2 126)) (s_aload_n (q := 2) (i := 2) rfl (by decide +kernel)) <|
  allq (OkQ RL nm cL_law 4 (some .boolean)) 126 (.inl (a_al 0 127)) (s_aload_n (q := 0) (i := 0) rfl (by decide +kernel)) <|
  allq (OkQ RL nm cL_law 4 (some .boolean)) 127 (.inl (a_il 3 128)) (s_iload_n (q := 3) (i := 3) rfl (by decide +kernel)) <|
  allq (OkQ RL nm cL_law 4 (some .boolean)) 128 (.inl (a_ic 1 129)) (s_iconst (n := 1) (v := 1) rfl (by decide +kernel)) <|
  allq (OkQ RL nm cL_law 4 (some .boolean)) 129 (.inl (o_iadd 130)) (s_iadd (by decide +kernel)) <|
  allq (OkQ RL nm cL_law 4 (some .boolean)) 130 (.inl (a_iald 131)) (s_iald (by decide +kernel)) <|
  allq (OkQ RL nm cL_law 4 (some .boolean)) 131 (.inl (a_i2l 132)) (s_i2l (by decide +kernel)) <|
  allq (OkQ RL nm cL_law 4 (some .boolean)) 132 (.inl (a_ic 32 134)) (s_bipush (n := 32) (v := 32) rfl (by decide +kernel)) <|
  allq (OkQ RL nm cL_law 4 (some .boolean)) 134 (.inl (o_lshl 135)) (s_lshl (by decide +kernel)) <|
  allq (OkQ RL nm cL_law 4 (some .boolean)) 135 (.inl (a_al 0 136)) (s_aload_n (q := 0) (i := 0) rfl (by decide +kernel)) <|
  allq (OkQ RL nm cL_law 4 (some .boolean)) 136 (.inl (a_il 3 137)) (s_iload_n (q := 3) (i := 3) rfl (by decide +kernel)) <|
  allq (OkQ RL nm cL_law 4 (some .boolean)) 137 (.inl (a_ic 2 138)) (s_iconst (n := 2) (v := 2) rfl (by decide +kernel)) <|
  allq (OkQ RL nm cL_law 4 (some .boolean)) 138 (.inl (o_iadd 139)) (s_iadd (by decide +kernel)) <|
  allq (OkQ RL nm cL_law 4 (some .boolean)) 139 (.inl (a_iald 140)) (s_iald (by decide +kernel)) <|
  allq (OkQ RL nm cL_law 4 (some .boolean)) 140 (.inl (a_i2l 141)) (s_i2l (by decide +kernel)) <|
  allq (OkQ RL nm cL_law 4 (some .boolean)) 141 (.inl (a_lc 4294967295 144)) (s_ldc2 kw_1713 (by decide +kernel)) <|
  allq (OkQ RL nm cL_law 4 (some .boolean)) 144 (.inl (o_land 145)) (s_land (by decide +kernel)) <|
  allq (OkQ RL nm cL_law 4 (some .boolean)) 145 (.inl (o_lor 146)) (s_lor (by decide +kernel)) <|
  allq (OkQ RL nm cL_law 4 (some .boolean)) 146 (.inl (a_al 0 147)) (s_aload_n (q := 0) (i := 0) rfl (by decide +kernel)) <|
  allq (OkQ RL nm cL_law 4 (some .boolean)) 147 (.inl (a_il 3 148)) (s_iload_n (q := 3) (i := 3) rfl (by decide +kernel)) <|
  allq (OkQ RL nm cL_law 4 (some .boolean)) 148 (.inl (a_ic 3 149)) (s_iconst (n := 3) (v := 3) rfl (by decide +kernel)) <|
  allq (OkQ RL nm cL_law 4 (some .boolean)) 149 (.inl (o_iadd 150)) (s_iadd (by decide +kernel)) <|
  allq (OkQ RL nm cL_law 4 (some .boolean)) 150 (.inl (a_iald 151)) (s_iald (by decide +kernel)) <|
  allq (OkQ RL nm cL_law 4 (some .boolean)) 151 (.inr (.inl (142, 3, 12))) (okV (y := yX12_write) kw_1383 kw_118 rfl rfl (by decide +kernel) kw_1381 kw_1382 kw_1380) <|
  allq (OkQ RL nm cL_law 4 (some .boolean)) 154 (.inl (o_icmp_eq 398 157)) (s_icmp_eq (off := 244) (by decide +kernel) (by decide)) <|
  allq (OkQ RL nm cL_law 4 (some .boolean)) 157 (.inl (a_ic 0 158)) (s_iconst (n := 0) (v := 0) rfl (by decide +kernel)) <|
  allq (OkQ RL nm cL_law 4 (some .boolean)) 158 (.inr (.inr 3)) (Or.inr (Or.inr (Or.inr ⟨rfl, rfl, by decide +kernel⟩))) <|
  allq (OkQ RL nm cL_law 4 (some .boolean)) 159 (.inl (a_al 1 160)) (s_aload_n (q := 1) (i := 1) rfl (by decide +kernel)) <|
  allq (OkQ RL nm cL_law 4 (some .boolean)) 160 (.inl (a_al 0 161)) (s_aload_n (q := 0) (i := 0) rfl (by decide +kernel)) <|
  allq (OkQ RL nm cL_law 4 (some .boolean)) 161 (.inl (a_il 3 162)) (s_iload_n (q := 3) (i := 3) rfl (by decide +kernel)) <|
  allq (OkQ RL nm cL_law 4 (some .boolean)) 162 (.inl (a_ic 1 163)) (s_iconst (n := 1) (v := 1) rfl (by decide +kernel)) <|
  allq (OkQ RL nm cL_law 4 (some .boolean)) 163 (.inl (o_iadd 164)) (s_iadd (by decide +kernel)) <|
  allq (OkQ RL nm cL_law 4 (some .boolean)) 164 (.inl (a_iald 165)) (s_iald (by decide +kernel)) <|
  allq (OkQ RL nm cL_law 4 (some .boolean)) 165 (.inl (a_al 0 166)) (s_aload_n (q := 0) (i := 0) rfl (by decide +kernel)) <|
  alln
set_option maxRecDepth 20000 in
theorem kLaw_2 (nm : String) : ∀ q ∈ tLaw_2, OkQ RL nm cL_law 4 (some .boolean) q :=
  allq (OkQ RL nm cL_law 4 (some .boolean)) 166 (.inl (a_il 3 167)) (s_iload_n (q := 3) (i := 3) rfl (by decide +kernel)) <|
  allq (OkQ RL nm cL_law 4 (some .boolean)) 167 (.inl (a_ic 2 168)) (s_iconst (n := 2) (v := 2) rfl (by decide +kernel)) <|
  allq (OkQ RL nm cL_law 4 (some .boolean)) 168 (.inl (o_iadd 169)) (s_iadd (by decide +kernel)) <|
  allq (OkQ RL nm cL_law 4 (some .boolean)) 169 (.inl (a_iald 170)) (s_iald (by decide +kernel)) <|
  allq (OkQ RL nm cL_law 4 (some .boolean)) 170 (.inr (.inl (125, 3, 11))) (okV (y := yX11_again) kw_612 kw_104 rfl rfl (by decide +kernel) kw_610 kw_611 kw_609) <|
  allq (OkQ RL nm cL_law 4 (some .boolean)) 173 (.inl (a_al 2 174)) (s_aload_n (q := 2) (i := 2) rfl (by decide +kernel)) <|
  allq (OkQ RL nm cL_law 4 (some .boolean)) 174 (.inl (a_al 0 175)) (s_aload_n (q := 0) (i := 0) rfl (by decide +kernel)) <|
  allq (OkQ RL nm cL_law 4 (some .boolean)) 175 (.inl (a_il 3 176)) (s_iload_n (q := 3) (i := 3) rfl (by decide +kernel)) <|
  allq (OkQ RL nm cL_law 4 (some .boolean)) 176 (.inl (a_ic 1 177)) (s_iconst (n := 1) (v := 1) rfl (by decide +kernel)) <|
  allq (OkQ RL nm cL_law 4 (some .boolean)) 177 (.inl (o_iadd 178)) (s_iadd (by decide +kernel)) <|
  allq (OkQ RL nm cL_law 4 (some .boolean)) 178 (.inl (a_iald 179)) (s_iald (by decide +kernel)) <|
  allq (OkQ RL nm cL_law 4 (some .boolean)) 179 (.inl (a_al 0 180)) (s_aload_n (q := 0) (i := 0) rfl (by decide +kernel)) <|
  allq (OkQ RL nm cL_law 4 (some .boolean)) 180 (.inl (a_il 3 181)) (s_iload_n (q := 3) (i := 3) rfl (by decide +kernel)) <|
  allq (OkQ RL nm cL_law 4 (some .boolean)) 181 (.inl (a_ic 2 182)) (s_iconst (n := 2) (v := 2) rfl (by decide +kernel)) <|
  allq (OkQ RL nm cL_law 4 (some .boolean)) 182 (.inl (o_iadd 183)) (s_iadd (by decide +kernel)) <|
  allq (OkQ RL nm cL_law 4 (some .boolean)) 183 (.inl (a_iald 184)) (s_iald (by decide +kernel)) <|
  allq (OkQ RL nm cL_law 4 (some .boolean)) 184 (.inr (.inl (143, 3, 12))) (okV (y := yX12_again) kw_1388 kw_118 rfl rfl (by decide +kernel) kw_1386 kw_1387 kw_1385) <|
  allq (OkQ RL nm cL_law 4 (some .boolean)) 187 (.inl (o_icmp_eq 398 190)) (s_icmp_eq (off := 211) (by decide +kernel) (by decide)) <|
  allq (OkQ RL nm cL_law 4 (some .boolean)) 190 (.inl (a_ic 0 191)) (s_iconst (n := 0) (v := 0) rfl (by decide +kernel)) <|
  allq (OkQ RL nm cL_law 4 (some .boolean)) 191 (.inr (.inr 3)) (Or.inr (Or.inr (Or.inr ⟨rfl, rfl, by decide +kernel⟩))) <|
  allq (OkQ RL nm cL_law 4 (some .boolean)) 192 (.inl (a_al 1 193)) (s_aload_n (q := 1) (i := 1) rfl (by decide +kernel)) <|
  allq (OkQ RL nm cL_law 4 (some .boolean)) 193 (.inr (.inl (126, 1, 11))) (okV (y := yX11_clear) kw_621 kw_104 rfl rfl (by decide +kernel) kw_619 kw_620 kw_618) <|
  allq (OkQ RL nm cL_law 4 (some .boolean)) 196 (.inl (a_al 2 197)) (s_aload_n (q := 2) (i := 2) rfl (by decide +kernel)) <|
  allq (OkQ RL nm cL_law 4 (some .boolean)) 197 (.inr (.inl (144, 1, 12))) (okV (y := yX12_clear) kw_1392 kw_118 rfl rfl (by decide +kernel) kw_1390 kw_1391 kw_1389) <|
  allq (OkQ RL nm cL_law 4 (some .boolean)) 200 (.inl (a_go 398)) (s_goto (off := 198) (by decide +kernel) (by decide)) <|
  allq (OkQ RL nm cL_law 4 (some .boolean)) 203 (.inl (a_al 1 204)) (s_aload_n (q := 1) (i := 1) rfl (by decide +kernel)) <|
  allq (OkQ RL nm cL_law 4 (some .boolean)) 204 (.inr (.inl (127, 1, 11))) (okV (y := yX11_turn) kw_629 kw_104 rfl rfl (by decide +kernel) kw_627 kw_628 kw_626) <|
  allq (OkQ RL nm cL_law 4 (some .boolean)) 207 (.inl (a_al 2 208)) (s_aload_n (q := 2) (i := 2) rfl (by decide +kernel)) <|
  allq (OkQ RL nm cL_law 4 (some .boolean)) 208 (.inr (.inl (145, 1, 12))) (okV (y := yX12_turn) kw_1396 kw_118 rfl rfl (by decide +kernel) kw_1394 kw_1395 kw_1393) <|
  allq (OkQ RL nm cL_law 4 (some .boolean)) 211 (.inl (o_icmp_eq 398 214)) (s_icmp_eq (off := 187) (by decide +kernel) (by decide)) <|
  allq (OkQ RL nm cL_law 4 (some .boolean)) 214 (.inl (a_ic 0 215)) (s_iconst (n := 0) (v := 0) rfl (by decide +kernel)) <|
  allq (OkQ RL nm cL_law 4 (some .boolean)) 215 (.inr (.inr 3)) (Or.inr (Or.inr (Or.inr ⟨rfl, rfl, by decide +kernel⟩))) <|
  allq (OkQ RL nm cL_law 4 (some .boolean)) 216 (.inl (a_al 1 217)) (s_aload_n (q := 1) (i := 1) rfl (by decide +kernel)) <|
  allq (OkQ RL nm cL_law 4 (some .boolean)) 217 (.inl (a_al 0 218)) (s_aload_n (q := 0) (i := 0) rfl (by decide +kernel)) <|
  allq (OkQ RL nm cL_law 4 (some .boolean)) 218 (.inl (a_il 3 219)) (s_iload_n (q := 3) (i := 3) rfl (by decide +kernel)) <|
  allq (OkQ RL nm cL_law 4 (some .boolean)) 219 (.inl (a_ic 1 220)) (s_iconst (n := 1) (v := 1) rfl (by decide +kernel)) <|
  allq (OkQ RL nm cL_law 4 (some .boolean)) 220 (.inl (o_iadd 221)) (s_iadd (by decide +kernel)) <|
  allq (OkQ RL nm cL_law 4 (some .boolean)) 221 (.inl (a_iald 222)) (s_iald (by decide +kernel)) <|
  allq (OkQ RL nm cL_law 4 (some .boolean)) 222 (.inl (a_al 0 223)) (s_aload_n (q := 0) (i := 0) rfl (by decide +kernel)) <|
  allq (OkQ RL nm cL_law 4 (some .boolean)) 223 (.inl (a_il 3 224)) (s_iload_n (q := 3) (i := 3) rfl (by decide +kernel)) <|
  alln
set_option maxRecDepth 20000 in
theorem kLaw_3 (nm : String) : ∀ q ∈ tLaw_3, OkQ RL nm cL_law 4 (some .boolean) q :=
  allq (OkQ RL nm cL_law 4 (some .boolean)) 224 (.inl (a_ic 2 225)) (s_iconst (n := 2) (v := 2) rfl (by decide +kernel)) <|
  allq (OkQ RL nm cL_law 4 (some .boolean)) 225 (.inl (o_iadd 226)) (s_iadd (by decide +kernel)) <|
  allq (OkQ RL nm cL_law 4 (some .boolean)) 226 (.inl (a_iald 227)) (s_iald (by decide +kernel)) <|
  allq (OkQ RL nm cL_law 4 (some .boolean)) 227 (.inr (.inl (128, 3, 11))) (okV (y := yX11_rule) kw_643 kw_104 rfl rfl (by decide +kernel) kw_641 kw_642 kw_640) <|
  allq (OkQ RL nm cL_law 4 (some .boolean)) 230 (.inl (a_al 2 231)) (s_aload_n (q := 2) (i := 2) rfl (by decide +kernel)) <|
  allq (OkQ RL nm cL_law 4 (some .boolean)) 231 (.inl (a_al 0 232)) (s_aload_n (q := 0) (i := 0) rfl (by decide +kernel)) <|
  allq (OkQ RL nm cL_law 4 (some .boolean)) 232 (.inl (a_il 3 233)) (s_iload_n (q := 3) (i := 3) rfl (by decide +kernel)) <|
  allq (OkQ RL nm cL_law 4 (some .boolean)) 233 (.inl (a_ic 1 234)) (s_iconst (n := 1) (v := 1) rfl (by decide +kernel)) <|
  allq (OkQ RL nm cL_law 4 (some .boolean)) 234 (.inl (o_iadd 235)) (s_iadd (by decide +kernel)) <|
  allq (OkQ RL nm cL_law 4 (some .boolean)) 235 (.inl (a_iald 236)) (s_iald (by decide +kernel)) <|
  allq (OkQ RL nm cL_law 4 (some .boolean)) 236 (.inl (a_al 0 237)) (s_aload_n (q := 0) (i := 0) rfl (by decide +kernel)) <|
  allq (OkQ RL nm cL_law 4 (some .boolean)) 237 (.inl (a_il 3 238)) (s_iload_n (q := 3) (i := 3) rfl (by decide +kernel)) <|
  allq (OkQ RL nm cL_law 4 (some .boolean)) 238 (.inl (a_ic 2 239)) (s_iconst (n := 2) (v := 2) rfl (by decide +kernel)) <|
  allq (OkQ RL nm cL_law 4 (some .boolean)) 239 (.inl (o_iadd 240)) (s_iadd (by decide +kernel)) <|
  allq (OkQ RL nm cL_law 4 (some .boolean)) 240 (.inl (a_iald 241)) (s_iald (by decide +kernel)) <|
  allq (OkQ RL nm cL_law 4 (some .boolean)) 241 (.inr (.inl (146, 3, 12))) (okV (y := yX12_rule) kw_1400 kw_118 rfl rfl (by decide +kernel) kw_1398 kw_1399 kw_1397) <|
  allq (OkQ RL nm cL_law 4 (some .boolean)) 244 (.inl (o_icmp_eq 398 247)) (s_icmp_eq (off := 154) (by decide +kernel) (by decide)) <|
  allq (OkQ RL nm cL_law 4 (some .boolean)) 247 (.inl (a_ic 0 248)) (s_iconst (n := 0) (v := 0) rfl (by decide +kernel)) <|
  allq (OkQ RL nm cL_law 4 (some .boolean)) 248 (.inr (.inr 3)) (Or.inr (Or.inr (Or.inr ⟨rfl, rfl, by decide +kernel⟩))) <|
  allq (OkQ RL nm cL_law 4 (some .boolean)) 249 (.inl (a_al 1 250)) (s_aload_n (q := 1) (i := 1) rfl (by decide +kernel)) <|
  allq (OkQ RL nm cL_law 4 (some .boolean)) 250 (.inr (.inl (129, 1, 11))) (okV (y := yX11_learn) kw_647 kw_104 rfl rfl (by decide +kernel) kw_645 kw_646 kw_644) <|
  allq (OkQ RL nm cL_law 4 (some .boolean)) 253 (.inl (a_al 2 254)) (s_aload_n (q := 2) (i := 2) rfl (by decide +kernel)) <|
  allq (OkQ RL nm cL_law 4 (some .boolean)) 254 (.inr (.inl (220, 1, 12))) (okV (y := yX12_learn) kw_1684 kw_118 rfl rfl (by decide +kernel) kw_1682 kw_1683 kw_1681) <|
  allq (OkQ RL nm cL_law 4 (some .boolean)) 257 (.inl (o_icmp_eq 398 260)) (s_icmp_eq (off := 141) (by decide +kernel) (by decide)) <|
  allq (OkQ RL nm cL_law 4 (some .boolean)) 260 (.inl (a_ic 0 261)) (s_iconst (n := 0) (v := 0) rfl (by decide +kernel)) <|
  allq (OkQ RL nm cL_law 4 (some .boolean)) 261 (.inr (.inr 3)) (Or.inr (Or.inr (Or.inr ⟨rfl, rfl, by decide +kernel⟩))) <|
  allq (OkQ RL nm cL_law 4 (some .boolean)) 262 (.inl (a_al 1 263)) (s_aload_n (q := 1) (i := 1) rfl (by decide +kernel)) <|
  allq (OkQ RL nm cL_law 4 (some .boolean)) 263 (.inr (.inl (130, 1, 11))) (okV (y := yX11_forget) kw_715 kw_104 rfl rfl (by decide +kernel) kw_713 kw_714 kw_712) <|
  allq (OkQ RL nm cL_law 4 (some .boolean)) 266 (.inl (a_al 2 267)) (s_aload_n (q := 2) (i := 2) rfl (by decide +kernel)) <|
  allq (OkQ RL nm cL_law 4 (some .boolean)) 267 (.inr (.inl (214, 1, 12))) (okV (y := yX12_forget) kw_1680 kw_118 rfl rfl (by decide +kernel) kw_1678 kw_1679 kw_1677) <|
  allq (OkQ RL nm cL_law 4 (some .boolean)) 270 (.inl (a_go 398)) (s_goto (off := 128) (by decide +kernel) (by decide)) <|
  allq (OkQ RL nm cL_law 4 (some .boolean)) 273 (.inl (a_al 1 274)) (s_aload_n (q := 1) (i := 1) rfl (by decide +kernel)) <|
  allq (OkQ RL nm cL_law 4 (some .boolean)) 274 (.inl (a_al 0 275)) (s_aload_n (q := 0) (i := 0) rfl (by decide +kernel)) <|
  allq (OkQ RL nm cL_law 4 (some .boolean)) 275 (.inl (a_il 3 276)) (s_iload_n (q := 3) (i := 3) rfl (by decide +kernel)) <|
  allq (OkQ RL nm cL_law 4 (some .boolean)) 276 (.inl (a_ic 1 277)) (s_iconst (n := 1) (v := 1) rfl (by decide +kernel)) <|
  allq (OkQ RL nm cL_law 4 (some .boolean)) 277 (.inl (o_iadd 278)) (s_iadd (by decide +kernel)) <|
  allq (OkQ RL nm cL_law 4 (some .boolean)) 278 (.inl (a_iald 279)) (s_iald (by decide +kernel)) <|
  allq (OkQ RL nm cL_law 4 (some .boolean)) 279 (.inl (a_al 0 280)) (s_aload_n (q := 0) (i := 0) rfl (by decide +kernel)) <|
  allq (OkQ RL nm cL_law 4 (some .boolean)) 280 (.inl (a_il 3 281)) (s_iload_n (q := 3) (i := 3) rfl (by decide +kernel)) <|
  allq (OkQ RL nm cL_law 4 (some .boolean)) 281 (.inl (a_ic 2 282)) (s_iconst (n := 2) (v := 2) rfl (by decide +kernel)) <|
  alln
set_option maxRecDepth 20000 in
theorem kLaw_4 (nm : String) : ∀ q ∈ tLaw_4, OkQ RL nm cL_law 4 (some .boolean) q :=
  allq (OkQ RL nm cL_law 4 (some .boolean)) 282 (.inl (o_iadd 283)) (s_iadd (by decide +kernel)) <|
  allq (OkQ RL nm cL_law 4 (some .boolean)) 283 (.inl (a_iald 284)) (s_iald (by decide +kernel)) <|
  allq (OkQ RL nm cL_law 4 (some .boolean)) 284 (.inl (a_al 0 285)) (s_aload_n (q := 0) (i := 0) rfl (by decide +kernel)) <|
  allq (OkQ RL nm cL_law 4 (some .boolean)) 285 (.inl (a_il 3 286)) (s_iload_n (q := 3) (i := 3) rfl (by decide +kernel)) <|
  allq (OkQ RL nm cL_law 4 (some .boolean)) 286 (.inl (a_ic 3 287)) (s_iconst (n := 3) (v := 3) rfl (by decide +kernel)) <|
  allq (OkQ RL nm cL_law 4 (some .boolean)) 287 (.inl (o_iadd 288)) (s_iadd (by decide +kernel)) <|
  allq (OkQ RL nm cL_law 4 (some .boolean)) 288 (.inl (a_iald 289)) (s_iald (by decide +kernel)) <|
  allq (OkQ RL nm cL_law 4 (some .boolean)) 289 (.inr (.inl (131, 4, 11))) (okV (y := yX11_press) kw_719 kw_104 rfl rfl (by decide +kernel) kw_717 kw_718 kw_716) <|
  allq (OkQ RL nm cL_law 4 (some .boolean)) 292 (.inl (a_al 2 293)) (s_aload_n (q := 2) (i := 2) rfl (by decide +kernel)) <|
  allq (OkQ RL nm cL_law 4 (some .boolean)) 293 (.inl (a_al 0 294)) (s_aload_n (q := 0) (i := 0) rfl (by decide +kernel)) <|
  allq (OkQ RL nm cL_law 4 (some .boolean)) 294 (.inl (a_il 3 295)) (s_iload_n (q := 3) (i := 3) rfl (by decide +kernel)) <|
  allq (OkQ RL nm cL_law 4 (some .boolean)) 295 (.inl (a_ic 1 296)) (s_iconst (n := 1) (v := 1) rfl (by decide +kernel)) <|
  allq (OkQ RL nm cL_law 4 (some .boolean)) 296 (.inl (o_iadd 297)) (s_iadd (by decide +kernel)) <|
  allq (OkQ RL nm cL_law 4 (some .boolean)) 297 (.inl (a_iald 298)) (s_iald (by decide +kernel)) <|
  allq (OkQ RL nm cL_law 4 (some .boolean)) 298 (.inl (a_al 0 299)) (s_aload_n (q := 0) (i := 0) rfl (by decide +kernel)) <|
  allq (OkQ RL nm cL_law 4 (some .boolean)) 299 (.inl (a_il 3 300)) (s_iload_n (q := 3) (i := 3) rfl (by decide +kernel)) <|
  allq (OkQ RL nm cL_law 4 (some .boolean)) 300 (.inl (a_ic 2 301)) (s_iconst (n := 2) (v := 2) rfl (by decide +kernel)) <|
  allq (OkQ RL nm cL_law 4 (some .boolean)) 301 (.inl (o_iadd 302)) (s_iadd (by decide +kernel)) <|
  allq (OkQ RL nm cL_law 4 (some .boolean)) 302 (.inl (a_iald 303)) (s_iald (by decide +kernel)) <|
  allq (OkQ RL nm cL_law 4 (some .boolean)) 303 (.inl (a_al 0 304)) (s_aload_n (q := 0) (i := 0) rfl (by decide +kernel)) <|
  allq (OkQ RL nm cL_law 4 (some .boolean)) 304 (.inl (a_il 3 305)) (s_iload_n (q := 3) (i := 3) rfl (by decide +kernel)) <|
  allq (OkQ RL nm cL_law 4 (some .boolean)) 305 (.inl (a_ic 3 306)) (s_iconst (n := 3) (v := 3) rfl (by decide +kernel)) <|
  allq (OkQ RL nm cL_law 4 (some .boolean)) 306 (.inl (o_iadd 307)) (s_iadd (by decide +kernel)) <|
  allq (OkQ RL nm cL_law 4 (some .boolean)) 307 (.inl (a_iald 308)) (s_iald (by decide +kernel)) <|
  allq (OkQ RL nm cL_law 4 (some .boolean)) 308 (.inr (.inl (208, 4, 12))) (okV (y := yX12_press) kw_1404 kw_118 rfl rfl (by decide +kernel) kw_1402 kw_1403 kw_1401) <|
  allq (OkQ RL nm cL_law 4 (some .boolean)) 311 (.inl (o_icmp_eq 398 314)) (s_icmp_eq (off := 87) (by decide +kernel) (by decide)) <|
  allq (OkQ RL nm cL_law 4 (some .boolean)) 314 (.inl (a_ic 0 315)) (s_iconst (n := 0) (v := 0) rfl (by decide +kernel)) <|
  allq (OkQ RL nm cL_law 4 (some .boolean)) 315 (.inr (.inr 3)) (Or.inr (Or.inr (Or.inr ⟨rfl, rfl, by decide +kernel⟩))) <|
  allq (OkQ RL nm cL_law 4 (some .boolean)) 316 (.inl (a_al 1 317)) (s_aload_n (q := 1) (i := 1) rfl (by decide +kernel)) <|
  allq (OkQ RL nm cL_law 4 (some .boolean)) 317 (.inl (a_al 0 318)) (s_aload_n (q := 0) (i := 0) rfl (by decide +kernel)) <|
  allq (OkQ RL nm cL_law 4 (some .boolean)) 318 (.inl (a_il 3 319)) (s_iload_n (q := 3) (i := 3) rfl (by decide +kernel)) <|
  allq (OkQ RL nm cL_law 4 (some .boolean)) 319 (.inl (a_ic 1 320)) (s_iconst (n := 1) (v := 1) rfl (by decide +kernel)) <|
  allq (OkQ RL nm cL_law 4 (some .boolean)) 320 (.inl (o_iadd 321)) (s_iadd (by decide +kernel)) <|
  allq (OkQ RL nm cL_law 4 (some .boolean)) 321 (.inl (a_iald 322)) (s_iald (by decide +kernel)) <|
  allq (OkQ RL nm cL_law 4 (some .boolean)) 322 (.inr (.inl (132, 2, 11))) (okV (y := yX11_make) kw_1151 kw_104 rfl rfl (by decide +kernel) kw_1149 kw_1150 kw_1148) <|
  allq (OkQ RL nm cL_law 4 (some .boolean)) 325 (.inl (a_al 2 326)) (s_aload_n (q := 2) (i := 2) rfl (by decide +kernel)) <|
  allq (OkQ RL nm cL_law 4 (some .boolean)) 326 (.inl (a_al 0 327)) (s_aload_n (q := 0) (i := 0) rfl (by decide +kernel)) <|
  allq (OkQ RL nm cL_law 4 (some .boolean)) 327 (.inl (a_il 3 328)) (s_iload_n (q := 3) (i := 3) rfl (by decide +kernel)) <|
  allq (OkQ RL nm cL_law 4 (some .boolean)) 328 (.inl (a_ic 1 329)) (s_iconst (n := 1) (v := 1) rfl (by decide +kernel)) <|
  allq (OkQ RL nm cL_law 4 (some .boolean)) 329 (.inl (o_iadd 330)) (s_iadd (by decide +kernel)) <|
  alln
set_option maxRecDepth 20000 in
theorem kLaw_5 (nm : String) : ∀ q ∈ tLaw_5, OkQ RL nm cL_law 4 (some .boolean) q :=
  allq (OkQ RL nm cL_law 4 (some .boolean)) 330 (.inl (a_iald 331)) (s_iald (by decide +kernel)) <|
  allq (OkQ RL nm cL_law 4 (some .boolean)) 331 (.inr (.inl (213, 2, 12))) (okV (y := yX12_make) kw_1672 kw_118 rfl rfl (by decide +kernel) kw_1670 kw_1671 kw_1669) <|
  allq (OkQ RL nm cL_law 4 (some .boolean)) 334 (.inl (o_icmp_eq 398 337)) (s_icmp_eq (off := 64) (by decide +kernel) (by decide)) <|
  allq (OkQ RL nm cL_law 4 (some .boolean)) 337 (.inl (a_ic 0 338)) (s_iconst (n := 0) (v := 0) rfl (by decide +kernel)) <|
  allq (OkQ RL nm cL_law 4 (some .boolean)) 338 (.inr (.inr 3)) (Or.inr (Or.inr (Or.inr ⟨rfl, rfl, by decide +kernel⟩))) <|
  allq (OkQ RL nm cL_law 4 (some .boolean)) 339 (.inl (a_al 1 340)) (s_aload_n (q := 1) (i := 1) rfl (by decide +kernel)) <|
  allq (OkQ RL nm cL_law 4 (some .boolean)) 340 (.inl (a_al 0 341)) (s_aload_n (q := 0) (i := 0) rfl (by decide +kernel)) <|
  allq (OkQ RL nm cL_law 4 (some .boolean)) 341 (.inl (a_il 3 342)) (s_iload_n (q := 3) (i := 3) rfl (by decide +kernel)) <|
  allq (OkQ RL nm cL_law 4 (some .boolean)) 342 (.inl (a_ic 1 343)) (s_iconst (n := 1) (v := 1) rfl (by decide +kernel)) <|
  allq (OkQ RL nm cL_law 4 (some .boolean)) 343 (.inl (o_iadd 344)) (s_iadd (by decide +kernel)) <|
  allq (OkQ RL nm cL_law 4 (some .boolean)) 344 (.inl (a_iald 345)) (s_iald (by decide +kernel)) <|
  allq (OkQ RL nm cL_law 4 (some .boolean)) 345 (.inr (.inl (133, 2, 11))) (okV (y := yX11_about) kw_1170 kw_104 rfl rfl (by decide +kernel) kw_1168 kw_1169 kw_1167) <|
  allq (OkQ RL nm cL_law 4 (some .boolean)) 348 (.inl (a_al 2 349)) (s_aload_n (q := 2) (i := 2) rfl (by decide +kernel)) <|
  allq (OkQ RL nm cL_law 4 (some .boolean)) 349 (.inl (a_al 0 350)) (s_aload_n (q := 0) (i := 0) rfl (by decide +kernel)) <|
  allq (OkQ RL nm cL_law 4 (some .boolean)) 350 (.inl (a_il 3 351)) (s_iload_n (q := 3) (i := 3) rfl (by decide +kernel)) <|
  allq (OkQ RL nm cL_law 4 (some .boolean)) 351 (.inl (a_ic 1 352)) (s_iconst (n := 1) (v := 1) rfl (by decide +kernel)) <|
  allq (OkQ RL nm cL_law 4 (some .boolean)) 352 (.inl (o_iadd 353)) (s_iadd (by decide +kernel)) <|
  allq (OkQ RL nm cL_law 4 (some .boolean)) 353 (.inl (a_iald 354)) (s_iald (by decide +kernel)) <|
  allq (OkQ RL nm cL_law 4 (some .boolean)) 354 (.inr (.inl (209, 2, 12))) (okV (y := yX12_about) kw_1668 kw_118 rfl rfl (by decide +kernel) kw_1666 kw_1667 kw_1665) <|
  allq (OkQ RL nm cL_law 4 (some .boolean)) 357 (.inl (o_icmp_eq 398 360)) (s_icmp_eq (off := 41) (by decide +kernel) (by decide)) <|
  allq (OkQ RL nm cL_law 4 (some .boolean)) 360 (.inl (a_ic 0 361)) (s_iconst (n := 0) (v := 0) rfl (by decide +kernel)) <|
  allq (OkQ RL nm cL_law 4 (some .boolean)) 361 (.inr (.inr 3)) (Or.inr (Or.inr (Or.inr ⟨rfl, rfl, by decide +kernel⟩))) <|
  allq (OkQ RL nm cL_law 4 (some .boolean)) 362 (.inl (a_al 1 363)) (s_aload_n (q := 1) (i := 1) rfl (by decide +kernel)) <|
  allq (OkQ RL nm cL_law 4 (some .boolean)) 363 (.inr (.inl (134, 1, 11))) (okV (y := yX11_size) kw_1174 kw_104 rfl rfl (by decide +kernel) kw_1172 kw_1173 kw_1171) <|
  allq (OkQ RL nm cL_law 4 (some .boolean)) 366 (.inl (a_al 2 367)) (s_aload_n (q := 2) (i := 2) rfl (by decide +kernel)) <|
  allq (OkQ RL nm cL_law 4 (some .boolean)) 367 (.inr (.inl (221, 1, 12))) (okV (y := yX12_size) kw_1708 kw_118 rfl rfl (by decide +kernel) kw_1706 kw_1707 kw_1705) <|
  allq (OkQ RL nm cL_law 4 (some .boolean)) 370 (.inl (o_icmp_eq 398 373)) (s_icmp_eq (off := 28) (by decide +kernel) (by decide)) <|
  allq (OkQ RL nm cL_law 4 (some .boolean)) 373 (.inl (a_ic 0 374)) (s_iconst (n := 0) (v := 0) rfl (by decide +kernel)) <|
  allq (OkQ RL nm cL_law 4 (some .boolean)) 374 (.inr (.inr 3)) (Or.inr (Or.inr (Or.inr ⟨rfl, rfl, by decide +kernel⟩))) <|
  allq (OkQ RL nm cL_law 4 (some .boolean)) 375 (.inl (a_al 1 376)) (s_aload_n (q := 1) (i := 1) rfl (by decide +kernel)) <|
  allq (OkQ RL nm cL_law 4 (some .boolean)) 376 (.inl (a_al 0 377)) (s_aload_n (q := 0) (i := 0) rfl (by decide +kernel)) <|
  allq (OkQ RL nm cL_law 4 (some .boolean)) 377 (.inl (a_il 3 378)) (s_iload_n (q := 3) (i := 3) rfl (by decide +kernel)) <|
  allq (OkQ RL nm cL_law 4 (some .boolean)) 378 (.inl (a_ic 1 379)) (s_iconst (n := 1) (v := 1) rfl (by decide +kernel)) <|
  allq (OkQ RL nm cL_law 4 (some .boolean)) 379 (.inl (o_iadd 380)) (s_iadd (by decide +kernel)) <|
  allq (OkQ RL nm cL_law 4 (some .boolean)) 380 (.inl (a_iald 381)) (s_iald (by decide +kernel)) <|
  allq (OkQ RL nm cL_law 4 (some .boolean)) 381 (.inr (.inl (135, 2, 11))) (okV (y := yX11_byteAt) kw_1178 kw_104 rfl rfl (by decide +kernel) kw_1176 kw_1177 kw_1175) <|
  allq (OkQ RL nm cL_law 4 (some .boolean)) 384 (.inl (a_al 2 385)) (s_aload_n (q := 2) (i := 2) rfl (by decide +kernel)) <|
  allq (OkQ RL nm cL_law 4 (some .boolean)) 385 (.inl (a_al 0 386)) (s_aload_n (q := 0) (i := 0) rfl (by decide +kernel)) <|
  allq (OkQ RL nm cL_law 4 (some .boolean)) 386 (.inl (a_il 3 387)) (s_iload_n (q := 3) (i := 3) rfl (by decide +kernel)) <|
  allq (OkQ RL nm cL_law 4 (some .boolean)) 387 (.inl (a_ic 1 388)) (s_iconst (n := 1) (v := 1) rfl (by decide +kernel)) <|
  alln
set_option maxRecDepth 20000 in
theorem kLaw_6 (nm : String) : ∀ q ∈ tLaw_6, OkQ RL nm cL_law 4 (some .boolean) q :=
  allq (OkQ RL nm cL_law 4 (some .boolean)) 388 (.inl (o_iadd 389)) (s_iadd (by decide +kernel)) <|
  allq (OkQ RL nm cL_law 4 (some .boolean)) 389 (.inl (a_iald 390)) (s_iald (by decide +kernel)) <|
  allq (OkQ RL nm cL_law 4 (some .boolean)) 390 (.inr (.inl (222, 2, 12))) (okV (y := yX12_byteAt) kw_1712 kw_118 rfl rfl (by decide +kernel) kw_1710 kw_1711 kw_1709) <|
  allq (OkQ RL nm cL_law 4 (some .boolean)) 393 (.inl (o_icmp_eq 398 396)) (s_icmp_eq (off := 5) (by decide +kernel) (by decide)) <|
  allq (OkQ RL nm cL_law 4 (some .boolean)) 396 (.inl (a_ic 0 397)) (s_iconst (n := 0) (v := 0) rfl (by decide +kernel)) <|
  allq (OkQ RL nm cL_law 4 (some .boolean)) 397 (.inr (.inr 3)) (Or.inr (Or.inr (Or.inr ⟨rfl, rfl, by decide +kernel⟩))) <|
  allq (OkQ RL nm cL_law 4 (some .boolean)) 398 (.inl (a_inc 3 4 401)) (s_iinc (i := 3) (n := 4) (n2 := 4) rfl (by decide +kernel) (by decide)) <|
  allq (OkQ RL nm cL_law 4 (some .boolean)) 401 (.inl (a_go 18)) (s_goto (off := (-383)) (by decide +kernel) (by decide)) <|
  allq (OkQ RL nm cL_law 4 (some .boolean)) 404 (.inl (a_ic 1 405)) (s_iconst (n := 1) (v := 1) rfl (by decide +kernel)) <|
  allq (OkQ RL nm cL_law 4 (some .boolean)) 405 (.inr (.inr 3)) (Or.inr (Or.inr (Or.inr ⟨rfl, rfl, by decide +kernel⟩))) <|
  alln
theorem kLaw (nm : String) : ∀ q ∈ tLaw, OkQ RL nm cL_law 4 (some .boolean) q := alla (kLaw_0 nm) (alla (kLaw_1 nm) (alla (kLaw_2 nm) (alla (kLaw_3 nm) (alla (kLaw_4 nm) (alla (kLaw_5 nm) (kLaw_6 nm))))))
def sTab : List (List Int32) := [[4, 3, 2, 2, 2, 2, 2, 2, 2, 2, 2, 2, 2, 1, 1, 1, 2, 2, 2, 2, 2, 2, 2, 2, 2, 3, 2, 1, 1, 1, 1, 1, (-1), (-1), (-1), (-1)],
  [1, 1, 1, 1, 1, 1, 2, 2, 2, 1, 1, 1, 1, 1, 1, 1, 1, 1, 1, 1, 1, 1, 1, 1, (-1), (-1), (-1), (-1), (-1)],
  [1, 4, 3, 2, 2, 2, 2, 2, 2, 1, 1, 1, 1, 1, 1, 1, 1, 1, 1, 1, 1, 1, 1, 1, 1, 1, 1, 1, 1, 1, 1, 1, 1, 1, 1, 1, 1, 1, 1, 1, 1, 1, 1, 1, 1, 1, (-1), (-1), (-1), (-1), (-1), (-1), (-1)],
  [0, 1, 2, 3, 4, 5, 6, 7, 8, 9, 10, 11, 12, 13, 14, 15, 16, 18, 20, 22, 24, 28, 32, 40, 48, 64, 128, 256, 512, 1024, 2048, 4096, 8192, 16384, 32768, 65536],
  [0, 0, 0, 0, 0, 0, 0, 0, 0, 0, 0, 0, 0, 0, 0, 0, 1, 1, 1, 1, 2, 2, 3, 3, 4, 6, 7, 8, 9, 10, 11, 12, 13, 14, 15, 16],
  [1, 2, 4, 8, 16, 32, 64, 128, 256, 512, 1024, 2048, 4096, 8192, 16384, 32768, 65536],
  [0, 1, 2, 3, 4, 5, 6, 7, 8, 9, 10, 11, 12, 13, 14, 15, 16],
  [3, 4, 5, 6, 7, 8, 9, 10, 11, 12, 13, 14, 15, 16, 17, 18, 19, 20, 21, 22, 23, 24, 25, 26, 27, 28, 29, 30, 31, 32, 33, 34, 35, 37, 39, 41, 43, 47, 51, 59, 67, 83, 99, 131, 259, 515, 1027, 2051, 4099, 8195, 16387, 32771, 65539],
  [0, 0, 0, 0, 0, 0, 0, 0, 0, 0, 0, 0, 0, 0, 0, 0, 0, 0, 0, 0, 0, 0, 0, 0, 0, 0, 0, 0, 0, 0, 0, 0, 1, 1, 1, 1, 2, 2, 3, 3, 4, 4, 5, 7, 8, 9, 10, 11, 12, 13, 14, 15, 16]]
def sLen (L : Nat) (j : Nat) : Nat := if j = 9 then L else (sTab.getD j []).length
def sVal (xs : Nat → Int32) (j i : Nat) : Int32 := if j = 9 then xs i else (sTab.getD j []).getD i 0
/-- the heap at the law's entry: nothing made yet, the static rows and the script are there -/
def H0 (L : Nat) (xs : Nat → Int32) : aH := (0, 0, fun k => .inl (1, sLen L (k - aBig), .inl (sVal xs (k - aBig))))
