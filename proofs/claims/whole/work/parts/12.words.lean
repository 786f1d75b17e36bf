/-! the words that the entries rest on, by their places among the tables' words -/
theorem TBp {w : Cond} (i : Nat) (h : (k2_sels lw_privs)[i]? = some w) (g : goodWord w = true) : w ∈ TBg := List.mem_filter.mpr ⟨List.mem_append_left _ (List.mem_of_getElem? h), g⟩
theorem TB1 {w : Cond} (i : Nat) (h : tables_1_1[i]? = some w) (g : goodWord w = true) : w ∈ TBg := List.mem_filter.mpr ⟨List.mem_append_right _ (have h := List.mem_of_getElem? h; List.mem_append_left _ h), g⟩
theorem NW1 {w : Cond} (i : Nat) (h : tables_1_1[i]? = some w) (g : isNest w = true) : w ∈ NW := List.mem_filter.mpr ⟨List.mem_append_right _ (have h := List.mem_of_getElem? h; List.mem_append_left _ h), g⟩
theorem TB2 {w : Cond} (i : Nat) (h : tables_1_2[i]? = some w) (g : goodWord w = true) : w ∈ TBg := List.mem_filter.mpr ⟨List.mem_append_right _ (have h := List.mem_of_getElem? h; List.mem_append_right _ (List.mem_append_left _ h)), g⟩
theorem NW2 {w : Cond} (i : Nat) (h : tables_1_2[i]? = some w) (g : isNest w = true) : w ∈ NW := List.mem_filter.mpr ⟨List.mem_append_right _ (have h := List.mem_of_getElem? h; List.mem_append_right _ (List.mem_append_left _ h)), g⟩
theorem TB3 {w : Cond} (i : Nat) (h : tables_1_3[i]? = some w) (g : goodWord w = true) : w ∈ TBg := List.mem_filter.mpr ⟨List.mem_append_right _ (have h := List.mem_of_getElem? h; List.mem_append_right _ (List.mem_append_right _ (List.mem_append_left _ h))), g⟩
theorem NW3 {w : Cond} (i : Nat) (h : tables_1_3[i]? = some w) (g : isNest w = true) : w ∈ NW := List.mem_filter.mpr ⟨List.mem_append_right _ (have h := List.mem_of_getElem? h; List.mem_append_right _ (List.mem_append_right _ (List.mem_append_left _ h))), g⟩
theorem TB4 {w : Cond} (i : Nat) (h : tables_1_4[i]? = some w) (g : goodWord w = true) : w ∈ TBg := List.mem_filter.mpr ⟨List.mem_append_right _ (have h := List.mem_of_getElem? h; List.mem_append_right _ (List.mem_append_right _ (List.mem_append_right _ (List.mem_append_left _ h)))), g⟩
theorem NW4 {w : Cond} (i : Nat) (h : tables_1_4[i]? = some w) (g : isNest w = true) : w ∈ NW := List.mem_filter.mpr ⟨List.mem_append_right _ (have h := List.mem_of_getElem? h; List.mem_append_right _ (List.mem_append_right _ (List.mem_append_right _ (List.mem_append_left _ h)))), g⟩
theorem TB5 {w : Cond} (i : Nat) (h : tables_1_5[i]? = some w) (g : goodWord w = true) : w ∈ TBg := List.mem_filter.mpr ⟨List.mem_append_right _ (have h := List.mem_of_getElem? h; List.mem_append_right _ (List.mem_append_right _ (List.mem_append_right _ (List.mem_append_right _ (List.mem_append_left _ h))))), g⟩
theorem NW5 {w : Cond} (i : Nat) (h : tables_1_5[i]? = some w) (g : isNest w = true) : w ∈ NW := List.mem_filter.mpr ⟨List.mem_append_right _ (have h := List.mem_of_getElem? h; List.mem_append_right _ (List.mem_append_right _ (List.mem_append_right _ (List.mem_append_right _ (List.mem_append_left _ h))))), g⟩
theorem TB6 {w : Cond} (i : Nat) (h : tables_1_6[i]? = some w) (g : goodWord w = true) : w ∈ TBg := List.mem_filter.mpr ⟨List.mem_append_right _ (have h := List.mem_of_getElem? h; List.mem_append_right _ (List.mem_append_right _ (List.mem_append_right _ (List.mem_append_right _ (List.mem_append_right _ (List.mem_append_left _ h)))))), g⟩
theorem NW6 {w : Cond} (i : Nat) (h : tables_1_6[i]? = some w) (g : isNest w = true) : w ∈ NW := List.mem_filter.mpr ⟨List.mem_append_right _ (have h := List.mem_of_getElem? h; List.mem_append_right _ (List.mem_append_right _ (List.mem_append_right _ (List.mem_append_right _ (List.mem_append_right _ (List.mem_append_left _ h)))))), g⟩
theorem TB7 {w : Cond} (i : Nat) (h : tables_1_7[i]? = some w) (g : goodWord w = true) : w ∈ TBg := List.mem_filter.mpr ⟨List.mem_append_right _ (have h := List.mem_of_getElem? h; List.mem_append_right _ (List.mem_append_right _ (List.mem_append_right _ (List.mem_append_right _ (List.mem_append_right _ (List.mem_append_right _ (h))))))), g⟩
theorem NW7 {w : Cond} (i : Nat) (h : tables_1_7[i]? = some w) (g : isNest w = true) : w ∈ NW := List.mem_filter.mpr ⟨List.mem_append_right _ (have h := List.mem_of_getElem? h; List.mem_append_right _ (List.mem_append_right _ (List.mem_append_right _ (List.mem_append_right _ (List.mem_append_right _ (List.mem_append_right _ (h))))))), g⟩
set_option maxRecDepth 20000 in
theorem kw_0 : Cond.selects "StatePress$Share" yX8_spreadBelow yX8_spreadBelow ∈ TBg := TBp 0 rfl rfl
set_option maxRecDepth 20000 in
theorem kw_1 : Cond.selects "StatePress$Share" yX8_sortPlaces yX8_sortPlaces ∈ TBg := TBp 1 rfl rfl
set_option maxRecDepth 20000 in
theorem kw_2 : Cond.selects "StatePress$Description" yX2_readDirect yX2_readDirect ∈ TBg := TBp 2 rfl rfl
set_option maxRecDepth 20000 in
theorem kw_3 : Cond.selects "StatePress$Description" yX2_readStates yX2_readStates ∈ TBg := TBp 3 rfl rfl
set_option maxRecDepth 20000 in
theorem kw_4 : Cond.selects "StatePress$Description" yX2_settle yX2_settle ∈ TBg := TBp 4 rfl rfl
set_option maxRecDepth 20000 in
theorem kw_5 : Cond.selects "StatePress" yX11_putHead yX11_putHead ∈ TBg := TBp 5 rfl rfl
set_option maxRecDepth 20000 in
theorem kw_6 : Cond.selects "StatePress$Finder" yX3_search yX3_search ∈ TBg := TBp 6 rfl rfl
set_option maxRecDepth 20000 in
theorem kw_7 : Cond.selects "StatePress$Finder" yX3_common yX3_common ∈ TBg := TBp 7 rfl rfl
set_option maxRecDepth 20000 in
theorem kw_8 : Cond.selects "StatePress$Finder" yX3_better yX3_better ∈ TBg := TBp 8 rfl rfl
set_option maxRecDepth 20000 in
theorem kw_9 : Cond.selects "StatePress$Finder" yX3_enough yX3_enough ∈ TBg := TBp 9 rfl rfl
set_option maxRecDepth 20000 in
theorem kw_10 : Cond.selects "StatePress$Finder" yX3_lookAhead yX3_lookAhead ∈ TBg := TBp 10 rfl rfl
set_option maxRecDepth 20000 in
theorem kw_11 : Cond.selects "StatePress$Packer" yX6_addSequence yX6_addSequence ∈ TBg := TBp 11 rfl rfl
set_option maxRecDepth 20000 in
theorem kw_12 : Cond.selects "StatePress$Packer" yX6_tellDistance yX6_tellDistance ∈ TBg := TBp 12 rfl rfl
set_option maxRecDepth 20000 in
theorem kw_13 : Cond.selects "StatePress$Packer" yX6_comeFirst yX6_comeFirst ∈ TBg := TBp 13 rfl rfl
set_option maxRecDepth 20000 in
theorem kw_14 : Cond.selects "StatePress$Knots" yX4_sort yX4_sort ∈ TBg := TBp 14 rfl rfl
set_option maxRecDepth 20000 in
theorem kw_15 : Cond.selects "StatePress$Knots" yX4_join yX4_join ∈ TBg := TBp 15 rfl rfl
set_option maxRecDepth 20000 in
theorem kw_16 : Cond.selects "StatePress$Knots" yX4_measure yX4_measure ∈ TBg := TBp 16 rfl rfl
set_option maxRecDepth 20000 in
theorem kw_17 : Cond.selects "StatePress$Knots" yX4_halve yX4_halve ∈ TBg := TBp 17 rfl rfl
set_option maxRecDepth 20000 in
theorem kw_18 : Cond.selects "StatePress$Description" yX2_weigh yX2_weigh ∈ TBg := TBp 18 rfl rfl
set_option maxRecDepth 20000 in
theorem kw_19 : Cond.selects "StatePress$Share" yX8_giveMore yX8_giveMore ∈ TBg := TBp 19 rfl rfl
set_option maxRecDepth 20000 in
theorem kw_20 : Cond.selects "StatePress$Share" yX8_takeAway yX8_takeAway ∈ TBg := TBp 20 rfl rfl
set_option maxRecDepth 20000 in
theorem kw_21 : Cond.selects "StatePress$Share" yX8_zerosFrom yX8_zerosFrom ∈ TBg := TBp 21 rfl rfl
set_option maxRecDepth 20000 in
theorem kw_22 : Cond.selects "StatePress$Description" yX2_putTwoStates yX2_putTwoStates ∈ TBg := TBp 22 rfl rfl
set_option maxRecDepth 20000 in
theorem kw_23 : Cond.selects "StatePress$Description" yX2_putDirect yX2_putDirect ∈ TBg := TBp 23 rfl rfl
set_option maxRecDepth 20000 in
theorem kw_24 : Cond.selects "StatePress$Column" yX1_consider yX1_consider ∈ TBg := TBp 24 rfl rfl
set_option maxRecDepth 20000 in
theorem kw_25 : Cond.selects "StatePress$Column" yX1_orderBelow yX1_orderBelow ∈ TBg := TBp 25 rfl rfl
set_option maxRecDepth 20000 in
theorem kw_26 : Cond.selects "StatePress$Column" yX1_form yX1_form ∈ TBg := TBp 26 rfl rfl
set_option maxRecDepth 20000 in
theorem kw_27 : Cond.selects "StatePress$Literals" yX5_plainHead yX5_plainHead ∈ TBg := TBp 27 rfl rfl
set_option maxRecDepth 20000 in
theorem kw_28 : Cond.selects "StatePress$Literals" yX5_consider yX5_consider ∈ TBg := TBp 28 rfl rfl
set_option maxRecDepth 20000 in
theorem kw_29 : Cond.selects "StatePress$Literals" yX5_streamBytes yX5_streamBytes ∈ TBg := TBp 29 rfl rfl
set_option maxRecDepth 20000 in
theorem kw_30 : Cond.selects "StatePress$Literals" yX5_shape yX5_shape ∈ TBg := TBp 30 rfl rfl
set_option maxRecDepth 20000 in
theorem kw_31 : Cond.selects "StatePress$Packer" yX6_sequenceBytes yX6_sequenceBytes ∈ TBg := TBp 31 rfl rfl
set_option maxRecDepth 20000 in
theorem kw_32 : Cond.selects "StatePress$Packer" yX6_countBytes yX6_countBytes ∈ TBg := TBp 32 rfl rfl
set_option maxRecDepth 20000 in
theorem kw_33 : Cond.selects "StatePress$Literals" yX5_putPlain yX5_putPlain ∈ TBg := TBp 33 rfl rfl
set_option maxRecDepth 20000 in
theorem kw_34 : Cond.selects "StatePress$Literals" yX5_putStreams yX5_putStreams ∈ TBg := TBp 34 rfl rfl
set_option maxRecDepth 20000 in
theorem kw_35 : Cond.selects "StatePress$Packer" yX6_putSequences yX6_putSequences ∈ TBg := TBp 35 rfl rfl
set_option maxRecDepth 20000 in
theorem kw_36 : Cond.selects "StatePress$Packer" yX6_putCount yX6_putCount ∈ TBg := TBp 36 rfl rfl
set_option maxRecDepth 20000 in
theorem kw_37 : Cond.selects "StatePress$Packer" yX6_putAdditional yX6_putAdditional ∈ TBg := TBp 37 rfl rfl
set_option maxRecDepth 20000 in
theorem kw_38 : Cond.selects "StatePress$Packer" yX6_keep yX6_keep ∈ TBg := TBp 38 rfl rfl
set_option maxRecDepth 20000 in
theorem kw_39 : Cond.selects "StatePress$Packer" yX6_keepTable yX6_keepTable ∈ TBg := TBp 39 rfl rfl
set_option maxRecDepth 20000 in
theorem kw_40 : Cond.selects "StatePress" yX11_becomeOut yX11_becomeOut ∈ TBg := TBp 40 rfl rfl
set_option maxRecDepth 20000 in
theorem kw_41 : Cond.selects "StatePressModel" yX12_sayNumber yX12_sayNumber ∈ TBg := TBp 41 rfl rfl
set_option maxRecDepth 20000 in
theorem kw_42 : Cond.selects "StatePressModel" yX12_say yX12_say ∈ TBg := TBp 42 rfl rfl
set_option maxRecDepth 20000 in
theorem kw_43 : Cond.selects "StatePressModel" yX12_beginFrame yX12_beginFrame ∈ TBg := TBp 43 rfl rfl
set_option maxRecDepth 20000 in
theorem kw_44 : Cond.selects "StatePressModel" yX12_sayBlock yX12_sayBlock ∈ TBg := TBp 44 rfl rfl
set_option maxRecDepth 20000 in
theorem kw_45 : Cond.selects "StatePressModel" yX12_sayBlockHead yX12_sayBlockHead ∈ TBg := TBp 45 rfl rfl
set_option maxRecDepth 20000 in
theorem kw_46 : Cond.selects "StatePressModel" yX12_keep yX12_keep ∈ TBg := TBp 46 rfl rfl
set_option maxRecDepth 20000 in
theorem kw_47 : Cond.selects "StatePressModel" yX12_go yX12_go ∈ TBg := TBp 47 rfl rfl
set_option maxRecDepth 20000 in
theorem kw_48 : Cond.selects "StatePressModel" yX12_taken yX12_taken ∈ TBg := TBp 48 rfl rfl
set_option maxRecDepth 20000 in
theorem kw_49 : Cond.selects "StatePressModel" yX12_match yX12_match ∈ TBg := TBp 49 rfl rfl
set_option maxRecDepth 20000 in
theorem kw_50 : Cond.selects "StatePressModel" yX12_alike yX12_alike ∈ TBg := TBp 50 rfl rfl
set_option maxRecDepth 20000 in
theorem kw_51 : Cond.selects "StatePressModel" yX12_sayLiterals yX12_sayLiterals ∈ TBg := TBp 51 rfl rfl
set_option maxRecDepth 20000 in
theorem kw_52 : Cond.selects "StatePressModel" yX12_allAlike yX12_allAlike ∈ TBg := TBp 52 rfl rfl
set_option maxRecDepth 20000 in
theorem kw_53 : Cond.selects "StatePressModel" yX12_allCoded yX12_allCoded ∈ TBg := TBp 53 rfl rfl
set_option maxRecDepth 20000 in
theorem kw_54 : Cond.selects "StatePressModel" yX12_bytesTold yX12_bytesTold ∈ TBg := TBp 54 rfl rfl
set_option maxRecDepth 20000 in
theorem kw_55 : Cond.selects "StatePressModel" yX12_streamBytes yX12_streamBytes ∈ TBg := TBp 55 rfl rfl
set_option maxRecDepth 20000 in
theorem kw_56 : Cond.selects "StatePressModel" yX12_fourBytes yX12_fourBytes ∈ TBg := TBp 56 rfl rfl
set_option maxRecDepth 20000 in
theorem kw_57 : Cond.selects "StatePressModel" yX12_headOf yX12_headOf ∈ TBg := TBp 57 rfl rfl
set_option maxRecDepth 20000 in
theorem kw_58 : Cond.selects "StatePressModel" yX12_lengthsByCounts yX12_lengthsByCounts ∈ TBg := TBp 58 rfl rfl
set_option maxRecDepth 20000 in
theorem kw_59 : Cond.selects "StatePressModel" yX12_tree yX12_tree ∈ TBg := TBp 59 rfl rfl
set_option maxRecDepth 20000 in
theorem kw_60 : Cond.selects "StatePressModel" yX12_leastKnot yX12_leastKnot ∈ TBg := TBp 60 rfl rfl
set_option maxRecDepth 20000 in
theorem kw_61 : Cond.selects "StatePressModel" yX12_describe yX12_describe ∈ TBg := TBp 61 rfl rfl
set_option maxRecDepth 20000 in
theorem kw_62 : Cond.selects "StatePressModel" yX12_weighing yX12_weighing ∈ TBg := TBp 62 rfl rfl
set_option maxRecDepth 20000 in
theorem kw_63 : Cond.selects "StatePressModel" yX12_byStates yX12_byStates ∈ TBg := TBp 63 rfl rfl
set_option maxRecDepth 20000 in
theorem kw_64 : Cond.selects "StatePressModel" yX12_begin yX12_begin ∈ TBg := TBp 64 rfl rfl
set_option maxRecDepth 20000 in
theorem kw_65 : Cond.selects "StatePressModel" yX12_put yX12_put ∈ TBg := TBp 65 rfl rfl
set_option maxRecDepth 20000 in
theorem kw_66 : Cond.selects "StatePressModel" yX12_divide yX12_divide ∈ TBg := TBp 66 rfl rfl
set_option maxRecDepth 20000 in
theorem kw_67 : Cond.selects "StatePressModel" yX12_putShare yX12_putShare ∈ TBg := TBp 67 rfl rfl
set_option maxRecDepth 20000 in
theorem kw_68 : Cond.selects "StatePressModel" yX12_fill yX12_fill ∈ TBg := TBp 68 rfl rfl
set_option maxRecDepth 20000 in
theorem kw_69 : Cond.selects "StatePressModel" yX12_lay yX12_lay ∈ TBg := TBp 69 rfl rfl
set_option maxRecDepth 20000 in
theorem kw_70 : Cond.selects "StatePressModel" yX12_lowest yX12_lowest ∈ TBg := TBp 70 rfl rfl
set_option maxRecDepth 20000 in
theorem kw_71 : Cond.selects "StatePressModel" yX12_leading yX12_leading ∈ TBg := TBp 71 rfl rfl
set_option maxRecDepth 20000 in
theorem kw_72 : Cond.selects "StatePressModel" yX12_sayHead yX12_sayHead ∈ TBg := TBp 72 rfl rfl
set_option maxRecDepth 20000 in
theorem kw_73 : Cond.selects "StatePressModel" yX12_sayMade yX12_sayMade ∈ TBg := TBp 73 rfl rfl
set_option maxRecDepth 20000 in
theorem kw_74 : Cond.selects "StatePressModel" yX12_layCells yX12_layCells ∈ TBg := TBp 74 rfl rfl
set_option maxRecDepth 20000 in
theorem kw_75 : Cond.selects "StatePressModel" yX12_putStream yX12_putStream ∈ TBg := TBp 75 rfl rfl
set_option maxRecDepth 20000 in
theorem kw_76 : Cond.selects "StatePressModel" yX12_putFour yX12_putFour ∈ TBg := TBp 76 rfl rfl
set_option maxRecDepth 20000 in
theorem kw_77 : Cond.selects "StatePressModel" yX12_tellAll yX12_tellAll ∈ TBg := TBp 77 rfl rfl
set_option maxRecDepth 20000 in
theorem kw_78 : Cond.selects "StatePressModel" yX12_tell yX12_tell ∈ TBg := TBp 78 rfl rfl
set_option maxRecDepth 20000 in
theorem kw_79 : Cond.selects "StatePressModel" yX12_number yX12_number ∈ TBg := TBp 79 rfl rfl
set_option maxRecDepth 20000 in
theorem kw_80 : Cond.selects "StatePressModel" yX12_saySequences yX12_saySequences ∈ TBg := TBp 80 rfl rfl
set_option maxRecDepth 20000 in
theorem kw_81 : Cond.selects "StatePressModel" yX12_sayTable yX12_sayTable ∈ TBg := TBp 81 rfl rfl
set_option maxRecDepth 20000 in
theorem kw_82 : Cond.selects "StatePressModel" yX12_countSymbols yX12_countSymbols ∈ TBg := TBp 82 rfl rfl
set_option maxRecDepth 20000 in
theorem kw_83 : Cond.selects "StatePressModel" yX12_know yX12_know ∈ TBg := TBp 83 rfl rfl
set_option maxRecDepth 20000 in
theorem kw_84 : Cond.selects "StatePressModel" yX12_run yX12_run ∈ TBg := TBp 84 rfl rfl
set_option maxRecDepth 20000 in
theorem kw_85 : Cond.selects "StatePressModel" yX12_rowCost yX12_rowCost ∈ TBg := TBp 85 rfl rfl
set_option maxRecDepth 20000 in
theorem kw_86 : Cond.selects "StatePressModel" yX12_bestOrder yX12_bestOrder ∈ TBg := TBp 86 rfl rfl
set_option maxRecDepth 20000 in
theorem kw_87 : Cond.selects "StatePressModel" yX12_shareCost yX12_shareCost ∈ TBg := TBp 87 rfl rfl
set_option maxRecDepth 20000 in
theorem kw_88 : Cond.selects "StatePressModel" yX12_asItWas yX12_asItWas ∈ TBg := TBp 88 rfl rfl
set_option maxRecDepth 20000 in
theorem kw_89 : Cond.selects "StatePressModel" yX12_sayStream yX12_sayStream ∈ TBg := TBp 89 rfl rfl
set_option maxRecDepth 20000 in
theorem kw_90 : Cond.selects "StatePressModel" yX12_lastState yX12_lastState ∈ TBg := TBp 90 rfl rfl
set_option maxRecDepth 20000 in
theorem kw_91 : Cond.selects "StatePressModel" yX12_putAllMore yX12_putAllMore ∈ TBg := TBp 91 rfl rfl
set_option maxRecDepth 20000 in
theorem kw_92 : Cond.selects "StatePressModel" yX12_putMore yX12_putMore ∈ TBg := TBp 92 rfl rfl
set_option maxRecDepth 20000 in
theorem kw_93 : Cond.selects "StatePressModel" yX12_putState yX12_putState ∈ TBg := TBp 93 rfl rfl
set_option maxRecDepth 20000 in
theorem kw_94 : Cond.selects "StatePressModel" yX12_restore yX12_restore ∈ TBg := TBp 94 rfl rfl
set_option maxRecDepth 20000 in
theorem kw_95 : Cond.selects "StatePressModel" yX12_sum yX12_sum ∈ TBg := TBp 95 rfl rfl
set_option maxRecDepth 20000 in
theorem kw_96 : Cond.selects "StatePressModel" yX12_wordAt yX12_wordAt ∈ TBg := TBp 96 rfl rfl
set_option maxRecDepth 20000 in
theorem kw_97 : Cond.selects "StatePressModel" yX12_show yX12_show ∈ TBg := TBp 97 rfl rfl
set_option maxRecDepth 20000 in
theorem kw_98 : Cond.selects "StatePressModel" yX12_readDescription yX12_readDescription ∈ TBg := TBp 98 rfl rfl
set_option maxRecDepth 20000 in
theorem kw_99 : Cond.selects "StatePressModel" yX12_readWeights yX12_readWeights ∈ TBg := TBp 99 rfl rfl
set_option maxRecDepth 20000 in
theorem kw_100 : Cond.selects "StatePressModel" yX12_readShare yX12_readShare ∈ TBg := TBp 100 rfl rfl
set_option maxRecDepth 20000 in
theorem kw_101 : Cond.selects "StatePressModel" yX12_take yX12_take ∈ TBg := TBp 101 rfl rfl
set_option maxRecDepth 20000 in
theorem kw_102 : Cond.selects "StatePressModel" yX12_takeDown yX12_takeDown ∈ TBg := TBp 102 rfl rfl
set_option maxRecDepth 20000 in
theorem kw_104 : Cond.initialized "StatePress" ∈ TBg := TB1 1 rfl rfl
set_option maxRecDepth 20000 in
theorem kw_105 : Cond.initialized "StatePress$Row" ∈ TBg := TB1 2 rfl rfl
set_option maxRecDepth 20000 in
theorem kw_106 : Cond.initialized "java/lang/Math" ∈ TBg := TB1 3 rfl rfl
set_option maxRecDepth 20000 in
theorem kw_107 : Cond.initialized "StatePress$Start" ∈ TBg := TB1 4 rfl rfl
set_option maxRecDepth 20000 in
theorem kw_108 : Cond.initialized "StatePress$Codes" ∈ TBg := TB1 5 rfl rfl
set_option maxRecDepth 20000 in
theorem kw_109 : Cond.initialized "StatePress$Share" ∈ TBg := TB1 6 rfl rfl
set_option maxRecDepth 20000 in
theorem kw_110 : Cond.initialized "StatePress$Description" ∈ TBg := TB1 7 rfl rfl
set_option maxRecDepth 20000 in
theorem kw_111 : Cond.initialized "StatePress$Packer" ∈ TBg := TB1 8 rfl rfl
set_option maxRecDepth 20000 in
theorem kw_112 : Cond.initialized "StatePress$Finder" ∈ TBg := TB1 9 rfl rfl
set_option maxRecDepth 20000 in
theorem kw_113 : Cond.initialized "StatePress$Literals" ∈ TBg := TB1 10 rfl rfl
set_option maxRecDepth 20000 in
theorem kw_114 : Cond.initialized "StatePress$Knots" ∈ TBg := TB1 11 rfl rfl
set_option maxRecDepth 20000 in
theorem kw_115 : Cond.initialized "StatePress$Column" ∈ TBg := TB1 12 rfl rfl
set_option maxRecDepth 20000 in
theorem kw_116 : Cond.initialized "java/util/Arrays" ∈ TBg := TB1 13 rfl rfl
set_option maxRecDepth 20000 in
theorem kw_117 : Cond.initialized "java/lang/System" ∈ TBg := TB1 14 rfl rfl
set_option maxRecDepth 20000 in
theorem kw_118 : Cond.initialized "StatePressModel" ∈ TBg := TB1 15 rfl rfl
set_option maxRecDepth 20000 in
theorem kw_119 : Cond.initialized "StatePress$WideSum" ∈ TBg := TB1 16 rfl rfl
set_option maxRecDepth 20000 in
theorem kw_121 : Cond.instantiable "StatePress" 12 ∈ TBg := TB1 18 rfl rfl
set_option maxRecDepth 20000 in
theorem kw_125 : Cond.methodLink "StatePress" 1 Lib.objectInit ∈ TBg := TB1 22 rfl rfl
set_option maxRecDepth 20000 in
theorem kw_126 : Cond.instanceMethod Lib.objectInit ∈ TBg := TB1 23 rfl rfl
set_option maxRecDepth 20000 in
theorem kw_127 : Cond.code Lib.objectInit ⟨#[0xb1]⟩ 1 none ∈ TBg := TB1 24 rfl rfl
set_option maxRecDepth 20000 in
theorem kw_128 : Cond.classLink "StatePress" 7 "StatePress$Row" ∈ TBg := TB1 25 rfl rfl
set_option maxRecDepth 20000 in
theorem kw_129 : Cond.instantiable "StatePress$Row" 5 ∈ TBg := TB1 26 rfl rfl
set_option maxRecDepth 20000 in
theorem kw_130 : Cond.methodLink "StatePress" 11 yX7_init ∈ TBg := TB1 27 rfl rfl
set_option maxRecDepth 20000 in
theorem kw_131 : Cond.instanceMethod yX7_init ∈ TBg := TB1 28 rfl rfl
set_option maxRecDepth 20000 in
theorem kw_132 : Cond.code yX7_init cX7_init 2 none ∈ TBg := TB1 29 rfl rfl
set_option maxRecDepth 20000 in
theorem kw_133 : Cond.methodLink "StatePress$Row" 1 Lib.objectInit ∈ TBg := TB1 30 rfl rfl
set_option maxRecDepth 20000 in
theorem kw_134 : Cond.methodLink "StatePress$Row" 7 Lib.Math.max.name ∈ TBg := TB1 31 rfl rfl
set_option maxRecDepth 20000 in
theorem kw_135 : Cond.static Lib.Math.max.name ∈ TBg := TB1 32 rfl rfl
set_option maxRecDepth 20000 in
theorem kw_136 : Cond.code Lib.Math.max.name Lib.Math.max.code 2 (some .int) ∈ TBg := TB1 33 rfl rfl
set_option maxRecDepth 20000 in
theorem kw_137 : Cond.fieldLink "StatePress$Row" 13 "StatePress$Row" "cells" "[B" ∈ TBg := TB1 34 rfl rfl
set_option maxRecDepth 20000 in
theorem kw_138 : Cond.fieldLink "StatePress$Finder" 29 "StatePress$Row" "cells" "[B" ∈ TBg := TB1 35 rfl rfl
set_option maxRecDepth 20000 in
theorem kw_139 : Cond.fieldLink "StatePress$WideSum" 7 "StatePress$Row" "used" "I" ∈ TBg := TB1 36 rfl rfl
set_option maxRecDepth 20000 in
theorem kw_140 : Cond.fieldLink "StatePress$Row" 19 "StatePress$Row" "used" "I" ∈ TBg := TB1 37 rfl rfl
set_option maxRecDepth 20000 in
theorem kw_141 : Cond.fieldLink "StatePress$Finder" 22 "StatePress$Row" "used" "I" ∈ TBg := TB1 38 rfl rfl
set_option maxRecDepth 20000 in
theorem kw_142 : Cond.fieldLink "StatePress" 64 "StatePress$Row" "used" "I" ∈ TBg := TB1 39 rfl rfl
set_option maxRecDepth 20000 in
theorem kw_143 : Cond.fieldLink "StatePress$Description" 60 "StatePress$Row" "used" "I" ∈ TBg := TB1 40 rfl rfl
set_option maxRecDepth 20000 in
theorem kw_144 : Cond.fieldLink "StatePress$Start" 51 "StatePress$Row" "used" "I" ∈ TBg := TB1 41 rfl rfl
set_option maxRecDepth 20000 in
theorem kw_145 : Cond.fieldLink "StatePress$Literals" 94 "StatePress$Row" "used" "I" ∈ TBg := TB1 42 rfl rfl
set_option maxRecDepth 20000 in
theorem kw_146 : Cond.fieldLink "StatePress$Column" 132 "StatePress$Row" "used" "I" ∈ TBg := TB1 43 rfl rfl
set_option maxRecDepth 20000 in
theorem kw_147 : Cond.fieldLink "StatePress$Row" 23 "StatePress$Row" "spilled" "Z" ∈ TBg := TB1 44 rfl rfl
set_option maxRecDepth 20000 in
theorem kw_148 : Cond.fieldLink "StatePress" 132 "StatePress$Row" "spilled" "Z" ∈ TBg := TB1 45 rfl rfl
set_option maxRecDepth 20000 in
theorem kw_149 : Cond.fieldLink "StatePress$Row" 27 "StatePress$Row" "hold" "J" ∈ TBg := TB1 46 rfl rfl
set_option maxRecDepth 20000 in
theorem kw_150 : Cond.fieldLink "StatePress$Row" 31 "StatePress$Row" "held" "I" ∈ TBg := TB1 47 rfl rfl
set_option maxRecDepth 20000 in
theorem kw_162 : Cond.arrayClass .byte ∈ TBg := TB1 59 rfl rfl
set_option maxRecDepth 20000 in
theorem kw_163 : Cond.classLink "StatePress" 27 "StatePress$Start" ∈ TBg := TB1 60 rfl rfl
set_option maxRecDepth 20000 in
theorem kw_164 : Cond.instantiable "StatePress$Start" 6 ∈ TBg := TB1 61 rfl rfl
set_option maxRecDepth 20000 in
theorem kn_165 : Cond.methodLinkNest "StatePress" 29 yX9_init "StatePress" ∈ NW := NW1 62 rfl rfl
set_option maxRecDepth 20000 in
theorem kw_166 : Cond.instanceMethod yX9_init ∈ TBg := TB1 63 rfl rfl
set_option maxRecDepth 20000 in
theorem kw_167 : Cond.code yX9_init cX9_init 1 none ∈ TBg := TB1 64 rfl rfl
set_option maxRecDepth 20000 in
theorem kw_168 : Cond.methodLink "StatePress$Start" 3 Lib.objectInit ∈ TBg := TB1 65 rfl rfl
set_option maxRecDepth 20000 in
theorem kw_169 : Cond.classLink "StatePress$Start" 9 "StatePress$Row" ∈ TBg := TB1 66 rfl rfl
set_option maxRecDepth 20000 in
theorem kw_170 : Cond.methodLink "StatePress$Start" 11 yX7_init ∈ TBg := TB1 67 rfl rfl
set_option maxRecDepth 20000 in
theorem kw_171 : Cond.classLink "StatePress$Start" 20 "StatePress$Codes" ∈ TBg := TB1 68 rfl rfl
set_option maxRecDepth 20000 in
theorem kw_172 : Cond.instantiable "StatePress$Codes" 5 ∈ TBg := TB1 69 rfl rfl
set_option maxRecDepth 20000 in
theorem kn_173 : Cond.methodLinkNest "StatePress$Start" 22 yX0_init "StatePress" ∈ NW := NW1 70 rfl rfl
set_option maxRecDepth 20000 in
theorem kw_174 : Cond.instanceMethod yX0_init ∈ TBg := TB1 71 rfl rfl
set_option maxRecDepth 20000 in
theorem kw_175 : Cond.code yX0_init cX0_init 1 none ∈ TBg := TB1 72 rfl rfl
set_option maxRecDepth 20000 in
theorem kw_176 : Cond.methodLink "StatePress$Codes" 3 Lib.objectInit ∈ TBg := TB1 73 rfl rfl
set_option maxRecDepth 20000 in
theorem kw_177 : Cond.fieldLink "StatePress$Codes" 9 "StatePress$Codes" "lengths" "[I" ∈ TBg := TB1 74 rfl rfl
set_option maxRecDepth 20000 in
theorem kw_178 : Cond.fieldLink "StatePress$Knots" 47 "StatePress$Codes" "lengths" "[I" ∈ TBg := TB1 75 rfl rfl
set_option maxRecDepth 20000 in
theorem kw_179 : Cond.fieldLink "StatePress$Description" 74 "StatePress$Codes" "lengths" "[I" ∈ TBg := TB1 76 rfl rfl
set_option maxRecDepth 20000 in
theorem kw_180 : Cond.fieldLink "StatePress$Codes" 15 "StatePress$Codes" "codes" "[I" ∈ TBg := TB1 77 rfl rfl
set_option maxRecDepth 20000 in
theorem kw_181 : Cond.fieldLink "StatePress$Codes" 18 "StatePress$Codes" "cells" "[I" ∈ TBg := TB1 78 rfl rfl
set_option maxRecDepth 20000 in
theorem kw_182 : Cond.fieldLink "StatePress$Codes" 25 "StatePress$Codes" "top" "I" ∈ TBg := TB1 79 rfl rfl
set_option maxRecDepth 20000 in
theorem kw_183 : Cond.fieldLink "StatePress$Codes" 21 "StatePress$Codes" "there" "Z" ∈ TBg := TB1 80 rfl rfl
set_option maxRecDepth 20000 in
theorem kw_184 : Cond.fieldLink "StatePress$Start" 46 "StatePress$Codes" "there" "Z" ∈ TBg := TB1 81 rfl rfl
set_option maxRecDepth 20000 in
theorem kw_185 : Cond.fieldLink "StatePress$Description" 108 "StatePress$Codes" "there" "Z" ∈ TBg := TB1 82 rfl rfl
set_option maxRecDepth 20000 in
theorem kw_197 : Cond.arrayClass .int ∈ TBg := TB1 94 rfl rfl
set_option maxRecDepth 20000 in
theorem kw_198 : Cond.classLink "StatePress$Start" 27 "StatePress$Share" ∈ TBg := TB1 95 rfl rfl
set_option maxRecDepth 20000 in
theorem kw_199 : Cond.instantiable "StatePress$Share" 9 ∈ TBg := TB1 96 rfl rfl
set_option maxRecDepth 20000 in
theorem kw_200 : Cond.methodLink "StatePress$Start" 29 yX8_init ∈ TBg := TB1 97 rfl rfl
set_option maxRecDepth 20000 in
theorem kw_201 : Cond.instanceMethod yX8_init ∈ TBg := TB1 98 rfl rfl
set_option maxRecDepth 20000 in
theorem kw_202 : Cond.code yX8_init cX8_init 3 none ∈ TBg := TB1 99 rfl rfl
set_option maxRecDepth 20000 in
theorem kw_203 : Cond.methodLink "StatePress$Share" 3 Lib.objectInit ∈ TBg := TB1 100 rfl rfl
set_option maxRecDepth 20000 in
theorem kw_204 : Cond.methodLink "StatePress$Share" 9 Lib.Math.max.name ∈ TBg := TB1 101 rfl rfl
set_option maxRecDepth 20000 in
theorem kw_205 : Cond.fieldLink "StatePress$Share" 15 "StatePress$Share" "last" "I" ∈ TBg := TB1 102 rfl rfl
set_option maxRecDepth 20000 in
theorem kw_206 : Cond.fieldLink "StatePress$Share" 21 "StatePress$Share" "points" "[I" ∈ TBg := TB1 103 rfl rfl
set_option maxRecDepth 20000 in
theorem kw_207 : Cond.fieldLink "StatePress$Share" 25 "StatePress$Share" "rests" "[I" ∈ TBg := TB1 104 rfl rfl
set_option maxRecDepth 20000 in
theorem kw_208 : Cond.fieldLink "StatePress$Share" 28 "StatePress$Share" "firsts" "[I" ∈ TBg := TB1 105 rfl rfl
set_option maxRecDepth 20000 in
theorem kw_209 : Cond.fieldLink "StatePress$Share" 31 "StatePress$Share" "widths" "[I" ∈ TBg := TB1 106 rfl rfl
set_option maxRecDepth 20000 in
theorem kw_210 : Cond.fieldLink "StatePress$Share" 34 "StatePress$Share" "owners" "[I" ∈ TBg := TB1 107 rfl rfl
set_option maxRecDepth 20000 in
theorem kw_211 : Cond.fieldLink "StatePress$Share" 37 "StatePress$Share" "sorted" "[I" ∈ TBg := TB1 108 rfl rfl
set_option maxRecDepth 20000 in
theorem kw_212 : Cond.fieldLink "StatePress$Share" 44 "StatePress$Share" "order" "I" ∈ TBg := TB1 109 rfl rfl
set_option maxRecDepth 20000 in
theorem kw_213 : Cond.fieldLink "StatePress$Description" 102 "StatePress$Share" "order" "I" ∈ TBg := TB1 110 rfl rfl
set_option maxRecDepth 20000 in
theorem kw_214 : Cond.fieldLink "StatePress$Column" 162 "StatePress$Share" "order" "I" ∈ TBg := TB1 111 rfl rfl
set_option maxRecDepth 20000 in
theorem kw_215 : Cond.fieldLink "StatePress$Share" 40 "StatePress$Share" "there" "Z" ∈ TBg := TB1 112 rfl rfl
set_option maxRecDepth 20000 in
theorem kw_216 : Cond.fieldLink "StatePress$Start" 50 "StatePress$Share" "there" "Z" ∈ TBg := TB1 113 rfl rfl
set_option maxRecDepth 20000 in
theorem kw_217 : Cond.fieldLink "StatePress$Column" 109 "StatePress$Share" "there" "Z" ∈ TBg := TB1 114 rfl rfl
set_option maxRecDepth 20000 in
theorem kw_237 : Cond.fieldLink "StatePress$Start" 14 "StatePress$Start" "nothing" "LStatePress$Row;" ∈ TBg := TB1 134 rfl rfl
set_option maxRecDepth 20000 in
theorem kw_238 : Cond.fieldLink "StatePress" 159 "StatePress$Start" "nothing" "LStatePress$Row;" ∈ TBg := TB1 135 rfl rfl
set_option maxRecDepth 20000 in
theorem kw_239 : Cond.fieldLink "StatePress$Start" 23 "StatePress$Start" "codes" "LStatePress$Codes;" ∈ TBg := TB1 136 rfl rfl
set_option maxRecDepth 20000 in
theorem kw_240 : Cond.fieldLink "StatePress$Packer" 83 "StatePress$Start" "codes" "LStatePress$Codes;" ∈ TBg := TB1 137 rfl rfl
set_option maxRecDepth 20000 in
theorem kw_241 : Cond.fieldLink "StatePress$Start" 32 "StatePress$Start" "literalLengths" "LStatePress$Share;" ∈ TBg := TB1 138 rfl rfl
set_option maxRecDepth 20000 in
theorem kw_242 : Cond.fieldLink "StatePress$Packer" 93 "StatePress$Start" "literalLengths" "LStatePress$Share;" ∈ TBg := TB1 139 rfl rfl
set_option maxRecDepth 20000 in
theorem kw_243 : Cond.fieldLink "StatePress$Start" 36 "StatePress$Start" "distances" "LStatePress$Share;" ∈ TBg := TB1 140 rfl rfl
set_option maxRecDepth 20000 in
theorem kw_244 : Cond.fieldLink "StatePress$Packer" 99 "StatePress$Start" "distances" "LStatePress$Share;" ∈ TBg := TB1 141 rfl rfl
set_option maxRecDepth 20000 in
theorem kw_245 : Cond.fieldLink "StatePress$Start" 39 "StatePress$Start" "matchLengths" "LStatePress$Share;" ∈ TBg := TB1 142 rfl rfl
set_option maxRecDepth 20000 in
theorem kw_246 : Cond.fieldLink "StatePress$Packer" 101 "StatePress$Start" "matchLengths" "LStatePress$Share;" ∈ TBg := TB1 143 rfl rfl
set_option maxRecDepth 20000 in
theorem kw_247 : Cond.fieldLink "StatePress$Start" 42 "StatePress$Start" "latest" "[I" ∈ TBg := TB1 144 rfl rfl
set_option maxRecDepth 20000 in
theorem kw_248 : Cond.fieldLink "StatePress$Packer" 103 "StatePress$Start" "latest" "[I" ∈ TBg := TB1 145 rfl rfl
set_option maxRecDepth 20000 in
theorem kw_249 : Cond.fieldLink "StatePress" 182 "StatePress$Start" "latest" "[I" ∈ TBg := TB1 146 rfl rfl
set_option maxRecDepth 20000 in
theorem kw_263 : Cond.classLink "StatePress" 37 "StatePress$Description" ∈ TBg := TB1 160 rfl rfl
set_option maxRecDepth 20000 in
theorem kw_264 : Cond.instantiable "StatePress$Description" 5 ∈ TBg := TB1 161 rfl rfl
set_option maxRecDepth 20000 in
theorem kn_265 : Cond.methodLinkNest "StatePress" 39 yX2_init "StatePress" ∈ NW := NW1 162 rfl rfl
set_option maxRecDepth 20000 in
theorem kw_266 : Cond.instanceMethod yX2_init ∈ TBg := TB1 163 rfl rfl
set_option maxRecDepth 20000 in
theorem kw_267 : Cond.code yX2_init cX2_init 1 none ∈ TBg := TB1 164 rfl rfl
set_option maxRecDepth 20000 in
theorem kw_268 : Cond.methodLink "StatePress$Description" 3 Lib.objectInit ∈ TBg := TB1 165 rfl rfl
set_option maxRecDepth 20000 in
theorem kw_269 : Cond.classLink "StatePress$Description" 18 "StatePress$Share" ∈ TBg := TB1 166 rfl rfl
set_option maxRecDepth 20000 in
theorem kw_270 : Cond.methodLink "StatePress$Description" 20 yX8_init ∈ TBg := TB1 167 rfl rfl
set_option maxRecDepth 20000 in
theorem kw_271 : Cond.classLink "StatePress$Description" 27 "StatePress$Row" ∈ TBg := TB1 168 rfl rfl
set_option maxRecDepth 20000 in
theorem kw_272 : Cond.methodLink "StatePress$Description" 29 yX7_init ∈ TBg := TB1 169 rfl rfl
set_option maxRecDepth 20000 in
theorem kw_273 : Cond.fieldLink "StatePress$Description" 9 "StatePress$Description" "weights" "[I" ∈ TBg := TB1 170 rfl rfl
set_option maxRecDepth 20000 in
theorem kw_274 : Cond.fieldLink "StatePress$Description" 15 "StatePress$Description" "counts" "[I" ∈ TBg := TB1 171 rfl rfl
set_option maxRecDepth 20000 in
theorem kw_275 : Cond.fieldLink "StatePress$Description" 23 "StatePress$Description" "share" "LStatePress$Share;" ∈ TBg := TB1 172 rfl rfl
set_option maxRecDepth 20000 in
theorem kw_276 : Cond.fieldLink "StatePress$Description" 32 "StatePress$Description" "best" "LStatePress$Row;" ∈ TBg := TB1 173 rfl rfl
set_option maxRecDepth 20000 in
theorem kw_277 : Cond.fieldLink "StatePress$Description" 36 "StatePress$Description" "other" "LStatePress$Row;" ∈ TBg := TB1 174 rfl rfl
set_option maxRecDepth 20000 in
theorem kw_289 : Cond.classLink "StatePress" 44 "StatePress$Packer" ∈ TBg := TB1 186 rfl rfl
set_option maxRecDepth 20000 in
theorem kw_290 : Cond.instantiable "StatePress$Packer" 9 ∈ TBg := TB1 187 rfl rfl
set_option maxRecDepth 20000 in
theorem kw_291 : Cond.methodLink "StatePress" 46 yX6_init ∈ TBg := TB1 188 rfl rfl
set_option maxRecDepth 20000 in
theorem kw_292 : Cond.instanceMethod yX6_init ∈ TBg := TB1 189 rfl rfl
set_option maxRecDepth 20000 in
theorem kw_293 : Cond.code yX6_init cX6_init 2 none ∈ TBg := TB1 190 rfl rfl
set_option maxRecDepth 20000 in
theorem kw_294 : Cond.methodLink "StatePress$Packer" 3 Lib.objectInit ∈ TBg := TB1 191 rfl rfl
set_option maxRecDepth 20000 in
theorem kw_295 : Cond.classLink "StatePress$Packer" 9 "StatePress$Finder" ∈ TBg := TB1 192 rfl rfl
set_option maxRecDepth 20000 in
theorem kw_296 : Cond.instantiable "StatePress$Finder" 13 ∈ TBg := TB1 193 rfl rfl
set_option maxRecDepth 20000 in
theorem kn_297 : Cond.methodLinkNest "StatePress$Packer" 11 yX3_init "StatePress" ∈ NW := NW1 194 rfl rfl
set_option maxRecDepth 20000 in
theorem kw_298 : Cond.instanceMethod yX3_init ∈ TBg := TB1 195 rfl rfl
set_option maxRecDepth 20000 in
theorem kw_299 : Cond.code yX3_init cX3_init 1 none ∈ TBg := TB1 196 rfl rfl
set_option maxRecDepth 20000 in
theorem kw_300 : Cond.methodLink "StatePress$Finder" 3 Lib.objectInit ∈ TBg := TB1 197 rfl rfl
set_option maxRecDepth 20000 in
theorem kw_301 : Cond.fieldLink "StatePress$Finder" 9 "StatePress$Finder" "data" "[B" ∈ TBg := TB1 198 rfl rfl
set_option maxRecDepth 20000 in
theorem kw_302 : Cond.fieldLink "StatePress$Finder" 28 "StatePress$Finder" "used" "I" ∈ TBg := TB1 199 rfl rfl
set_option maxRecDepth 20000 in
theorem kw_303 : Cond.fieldLink "StatePress$Finder" 15 "StatePress$Finder" "earlier" "[I" ∈ TBg := TB1 200 rfl rfl
set_option maxRecDepth 20000 in
theorem kw_304 : Cond.fieldLink "StatePress$Finder" 19 "StatePress$Finder" "heads" "[I" ∈ TBg := TB1 201 rfl rfl
set_option maxRecDepth 20000 in
theorem kw_305 : Cond.fieldLink "StatePress$Finder" 45 "StatePress$Finder" "way" "I" ∈ TBg := TB1 202 rfl rfl
set_option maxRecDepth 20000 in
theorem kw_306 : Cond.fieldLink "StatePress$Finder" 48 "StatePress$Finder" "least" "I" ∈ TBg := TB1 203 rfl rfl
set_option maxRecDepth 20000 in
theorem kw_307 : Cond.fieldLink "StatePress$Finder" 51 "StatePress$Finder" "window" "I" ∈ TBg := TB1 204 rfl rfl
set_option maxRecDepth 20000 in
theorem kw_308 : Cond.fieldLink "StatePress$Finder" 60 "StatePress$Finder" "end" "I" ∈ TBg := TB1 205 rfl rfl
set_option maxRecDepth 20000 in
theorem kw_309 : Cond.fieldLink "StatePress$Packer" 130 "StatePress$Finder" "length" "I" ∈ TBg := TB1 206 rfl rfl
set_option maxRecDepth 20000 in
theorem kw_310 : Cond.fieldLink "StatePress$Finder" 77 "StatePress$Finder" "length" "I" ∈ TBg := TB1 207 rfl rfl
set_option maxRecDepth 20000 in
theorem kw_311 : Cond.fieldLink "StatePress$Packer" 150 "StatePress$Finder" "distance" "I" ∈ TBg := TB1 208 rfl rfl
set_option maxRecDepth 20000 in
theorem kw_312 : Cond.fieldLink "StatePress$Finder" 83 "StatePress$Finder" "distance" "I" ∈ TBg := TB1 209 rfl rfl
set_option maxRecDepth 20000 in
theorem kw_313 : Cond.fieldLink "StatePress$Finder" 63 "StatePress$Finder" "aheadPlace" "I" ∈ TBg := TB1 210 rfl rfl
set_option maxRecDepth 20000 in
theorem kw_314 : Cond.fieldLink "StatePress$Finder" 74 "StatePress$Finder" "aheadLength" "I" ∈ TBg := TB1 211 rfl rfl
set_option maxRecDepth 20000 in
theorem kw_315 : Cond.fieldLink "StatePress$Finder" 80 "StatePress$Finder" "aheadDistance" "I" ∈ TBg := TB1 212 rfl rfl
set_option maxRecDepth 20000 in
theorem kw_343 : Cond.classLink "StatePress$Packer" 28 "StatePress$Literals" ∈ TBg := TB2 0 rfl rfl
set_option maxRecDepth 20000 in
theorem kw_344 : Cond.instantiable "StatePress$Literals" 12 ∈ TBg := TB2 1 rfl rfl
set_option maxRecDepth 20000 in
theorem kw_345 : Cond.methodLink "StatePress$Packer" 30 yX5_init ∈ TBg := TB2 2 rfl rfl
set_option maxRecDepth 20000 in
theorem kw_346 : Cond.instanceMethod yX5_init ∈ TBg := TB2 3 rfl rfl
set_option maxRecDepth 20000 in
theorem kw_347 : Cond.code yX5_init cX5_init 2 none ∈ TBg := TB2 4 rfl rfl
set_option maxRecDepth 20000 in
theorem kw_348 : Cond.methodLink "StatePress$Literals" 3 Lib.objectInit ∈ TBg := TB2 5 rfl rfl
set_option maxRecDepth 20000 in
theorem kw_349 : Cond.classLink "StatePress$Literals" 19 "StatePress$Codes" ∈ TBg := TB2 6 rfl rfl
set_option maxRecDepth 20000 in
theorem kn_350 : Cond.methodLinkNest "StatePress$Literals" 21 yX0_init "StatePress" ∈ NW := NW2 7 rfl rfl
set_option maxRecDepth 20000 in
theorem kw_351 : Cond.classLink "StatePress$Literals" 29 "StatePress$Knots" ∈ TBg := TB2 8 rfl rfl
set_option maxRecDepth 20000 in
theorem kw_352 : Cond.instantiable "StatePress$Knots" 5 ∈ TBg := TB2 9 rfl rfl
set_option maxRecDepth 20000 in
theorem kn_353 : Cond.methodLinkNest "StatePress$Literals" 31 yX4_init "StatePress" ∈ NW := NW2 10 rfl rfl
set_option maxRecDepth 20000 in
theorem kw_354 : Cond.instanceMethod yX4_init ∈ TBg := TB2 11 rfl rfl
set_option maxRecDepth 20000 in
theorem kw_355 : Cond.code yX4_init cX4_init 1 none ∈ TBg := TB2 12 rfl rfl
set_option maxRecDepth 20000 in
theorem kw_356 : Cond.methodLink "StatePress$Knots" 3 Lib.objectInit ∈ TBg := TB2 13 rfl rfl
set_option maxRecDepth 20000 in
theorem kw_357 : Cond.fieldLink "StatePress$Knots" 9 "StatePress$Knots" "counts" "[I" ∈ TBg := TB2 14 rfl rfl
set_option maxRecDepth 20000 in
theorem kw_358 : Cond.fieldLink "StatePress$Knots" 15 "StatePress$Knots" "symbols" "[I" ∈ TBg := TB2 15 rfl rfl
set_option maxRecDepth 20000 in
theorem kw_359 : Cond.fieldLink "StatePress$Knots" 18 "StatePress$Knots" "sums" "[I" ∈ TBg := TB2 16 rfl rfl
set_option maxRecDepth 20000 in
theorem kw_360 : Cond.fieldLink "StatePress$Knots" 21 "StatePress$Knots" "owners" "[I" ∈ TBg := TB2 17 rfl rfl
set_option maxRecDepth 20000 in
theorem kw_361 : Cond.fieldLink "StatePress$Knots" 24 "StatePress$Knots" "depths" "[I" ∈ TBg := TB2 18 rfl rfl
set_option maxRecDepth 20000 in
theorem kw_373 : Cond.classLink "StatePress$Literals" 36 "StatePress$Row" ∈ TBg := TB2 30 rfl rfl
set_option maxRecDepth 20000 in
theorem kw_374 : Cond.methodLink "StatePress$Literals" 38 yX7_init ∈ TBg := TB2 31 rfl rfl
set_option maxRecDepth 20000 in
theorem kw_375 : Cond.fieldLink "StatePress$Literals" 9 "StatePress$Literals" "cells" "[B" ∈ TBg := TB2 32 rfl rfl
set_option maxRecDepth 20000 in
theorem kw_376 : Cond.fieldLink "StatePress$Literals" 15 "StatePress$Literals" "counts" "[I" ∈ TBg := TB2 33 rfl rfl
set_option maxRecDepth 20000 in
theorem kw_377 : Cond.fieldLink "StatePress$Literals" 53 "StatePress$Literals" "used" "I" ∈ TBg := TB2 34 rfl rfl
set_option maxRecDepth 20000 in
theorem kw_378 : Cond.fieldLink "StatePress$Literals" 22 "StatePress$Literals" "held" "LStatePress$Codes;" ∈ TBg := TB2 35 rfl rfl
set_option maxRecDepth 20000 in
theorem kw_379 : Cond.fieldLink "StatePress$Literals" 26 "StatePress$Literals" "fresh" "LStatePress$Codes;" ∈ TBg := TB2 36 rfl rfl
set_option maxRecDepth 20000 in
theorem kw_380 : Cond.fieldLink "StatePress$Literals" 32 "StatePress$Literals" "knots" "LStatePress$Knots;" ∈ TBg := TB2 37 rfl rfl
set_option maxRecDepth 20000 in
theorem kw_381 : Cond.fieldLink "StatePress$Literals" 45 "StatePress$Literals" "description" "LStatePress$Description;" ∈ TBg := TB2 38 rfl rfl
set_option maxRecDepth 20000 in
theorem kw_382 : Cond.fieldLink "StatePress$Literals" 41 "StatePress$Literals" "told" "LStatePress$Row;" ∈ TBg := TB2 39 rfl rfl
set_option maxRecDepth 20000 in
theorem kw_383 : Cond.fieldLink "StatePress$Literals" 76 "StatePress$Literals" "kind" "I" ∈ TBg := TB2 40 rfl rfl
set_option maxRecDepth 20000 in
theorem kw_384 : Cond.fieldLink "StatePress$Packer" 245 "StatePress$Literals" "kind" "I" ∈ TBg := TB2 41 rfl rfl
set_option maxRecDepth 20000 in
theorem kw_385 : Cond.fieldLink "StatePress$Literals" 83 "StatePress$Literals" "bytes" "I" ∈ TBg := TB2 42 rfl rfl
set_option maxRecDepth 20000 in
theorem kw_386 : Cond.fieldLink "StatePress$Literals" 106 "StatePress$Literals" "shape" "I" ∈ TBg := TB2 43 rfl rfl
set_option maxRecDepth 20000 in
theorem kw_387 : Cond.fieldLink "StatePress$Literals" 108 "StatePress$Literals" "behind" "I" ∈ TBg := TB2 44 rfl rfl
set_option maxRecDepth 20000 in
theorem kw_413 : Cond.classLink "StatePress$Packer" 37 "StatePress$Column" ∈ TBg := TB2 70 rfl rfl
set_option maxRecDepth 20000 in
theorem kw_414 : Cond.instantiable "StatePress$Column" 18 ∈ TBg := TB2 71 rfl rfl
set_option maxRecDepth 20000 in
theorem kn_415 : Cond.fieldLinkNest "StatePress$Packer" 39 "StatePress" "LITERAL_BASES" "[I" "StatePress" ∈ NW := NW2 72 rfl rfl
set_option maxRecDepth 20000 in
theorem kn_417 : Cond.fieldLinkNest "StatePress$Packer" 42 "StatePress" "LITERAL_WIDTHS" "[I" "StatePress" ∈ NW := NW2 74 rfl rfl
set_option maxRecDepth 20000 in
theorem kw_419 : Cond.methodLink "StatePress$Packer" 45 yX1_init ∈ TBg := TB2 76 rfl rfl
set_option maxRecDepth 20000 in
theorem kw_420 : Cond.instanceMethod yX1_init ∈ TBg := TB2 77 rfl rfl
set_option maxRecDepth 20000 in
theorem kw_421 : Cond.code yX1_init cX1_init 5 none ∈ TBg := TB2 78 rfl rfl
set_option maxRecDepth 20000 in
theorem kw_422 : Cond.methodLink "StatePress$Column" 3 Lib.objectInit ∈ TBg := TB2 79 rfl rfl
set_option maxRecDepth 20000 in
theorem kw_423 : Cond.classLink "StatePress$Column" 18 "StatePress$Row" ∈ TBg := TB2 80 rfl rfl
set_option maxRecDepth 20000 in
theorem kw_424 : Cond.methodLink "StatePress$Column" 20 yX7_init ∈ TBg := TB2 81 rfl rfl
set_option maxRecDepth 20000 in
theorem kw_425 : Cond.methodLink "StatePress$Column" 37 Lib.Math.max.name ∈ TBg := TB2 82 rfl rfl
set_option maxRecDepth 20000 in
theorem kw_426 : Cond.classLink "StatePress$Column" 46 "StatePress$Share" ∈ TBg := TB2 83 rfl rfl
set_option maxRecDepth 20000 in
theorem kw_427 : Cond.methodLink "StatePress$Column" 48 yX8_init ∈ TBg := TB2 84 rfl rfl
set_option maxRecDepth 20000 in
theorem kw_428 : Cond.fieldLink "StatePress$Column" 27 "StatePress$Column" "bases" "[I" ∈ TBg := TB2 85 rfl rfl
set_option maxRecDepth 20000 in
theorem kw_429 : Cond.fieldLink "StatePress$Column" 30 "StatePress$Column" "widths" "[I" ∈ TBg := TB2 86 rfl rfl
set_option maxRecDepth 20000 in
theorem kw_430 : Cond.fieldLink "StatePress$Column" 33 "StatePress$Column" "greatest" "I" ∈ TBg := TB2 87 rfl rfl
set_option maxRecDepth 20000 in
theorem kw_431 : Cond.fieldLink "StatePress$Column" 9 "StatePress$Column" "symbols" "[I" ∈ TBg := TB2 88 rfl rfl
set_option maxRecDepth 20000 in
theorem kw_432 : Cond.fieldLink "StatePress$Column" 15 "StatePress$Column" "values" "[I" ∈ TBg := TB2 89 rfl rfl
set_option maxRecDepth 20000 in
theorem kw_433 : Cond.fieldLink "StatePress$Column" 43 "StatePress$Column" "counts" "[I" ∈ TBg := TB2 90 rfl rfl
set_option maxRecDepth 20000 in
theorem kw_434 : Cond.fieldLink "StatePress$Column" 72 "StatePress$Column" "used" "I" ∈ TBg := TB2 91 rfl rfl
set_option maxRecDepth 20000 in
theorem kw_435 : Cond.fieldLink "StatePress$Column" 75 "StatePress$Column" "different" "I" ∈ TBg := TB2 92 rfl rfl
set_option maxRecDepth 20000 in
theorem kw_436 : Cond.fieldLink "StatePress$Column" 78 "StatePress$Column" "additional" "I" ∈ TBg := TB2 93 rfl rfl
set_option maxRecDepth 20000 in
theorem kw_437 : Cond.fieldLink "StatePress$Column" 51 "StatePress$Column" "known" "LStatePress$Share;" ∈ TBg := TB2 94 rfl rfl
set_option maxRecDepth 20000 in
theorem kw_438 : Cond.fieldLink "StatePress$Column" 55 "StatePress$Column" "held" "LStatePress$Share;" ∈ TBg := TB2 95 rfl rfl
set_option maxRecDepth 20000 in
theorem kw_439 : Cond.fieldLink "StatePress$Column" 58 "StatePress$Column" "fresh" "LStatePress$Share;" ∈ TBg := TB2 96 rfl rfl
set_option maxRecDepth 20000 in
theorem kw_440 : Cond.fieldLink "StatePress$Column" 61 "StatePress$Column" "chosen" "LStatePress$Share;" ∈ TBg := TB2 97 rfl rfl
set_option maxRecDepth 20000 in
theorem kw_441 : Cond.fieldLink "StatePress$Column" 23 "StatePress$Column" "told" "LStatePress$Row;" ∈ TBg := TB2 98 rfl rfl
set_option maxRecDepth 20000 in
theorem kw_442 : Cond.fieldLink "StatePress$Column" 113 "StatePress$Column" "mode" "I" ∈ TBg := TB2 99 rfl rfl
set_option maxRecDepth 20000 in
theorem kw_443 : Cond.fieldLink "StatePress$Packer" 221 "StatePress$Column" "mode" "I" ∈ TBg := TB2 100 rfl rfl
set_option maxRecDepth 20000 in
theorem kw_444 : Cond.fieldLink "StatePress$Column" 87 "StatePress$Column" "bits" "I" ∈ TBg := TB2 101 rfl rfl
set_option maxRecDepth 20000 in
theorem kw_445 : Cond.fieldLink "StatePress$Column" 106 "StatePress$Column" "orderBits" "I" ∈ TBg := TB2 102 rfl rfl
set_option maxRecDepth 20000 in
theorem kw_446 : Cond.fieldLink "StatePress$Column" 149 "StatePress$Column" "state" "I" ∈ TBg := TB2 103 rfl rfl
set_option maxRecDepth 20000 in
theorem kn_484 : Cond.fieldLinkNest "StatePress$Packer" 52 "StatePress" "LITERAL_KNOWN" "[I" "StatePress" ∈ NW := NW2 141 rfl rfl
set_option maxRecDepth 20000 in
theorem kw_486 : Cond.methodLink "StatePress$Packer" 55 yX1_know ∈ TBg := TB2 143 rfl rfl
set_option maxRecDepth 20000 in
theorem kw_487 : Cond.instanceMethod yX1_know ∈ TBg := TB2 144 rfl rfl
set_option maxRecDepth 20000 in
theorem kw_488 : Cond.selects "StatePress$Column" yX1_know yX1_know ∈ TBg := TB2 145 rfl rfl
set_option maxRecDepth 20000 in
theorem kw_489 : Cond.code yX1_know cX1_know 3 none ∈ TBg := TB2 146 rfl rfl
set_option maxRecDepth 20000 in
theorem kw_490 : Cond.methodLink "StatePress$Column" 64 yX8_beOf ∈ TBg := TB2 147 rfl rfl
set_option maxRecDepth 20000 in
theorem kw_491 : Cond.instanceMethod yX8_beOf ∈ TBg := TB2 148 rfl rfl
set_option maxRecDepth 20000 in
theorem kw_492 : Cond.selects "StatePress$Share" yX8_beOf yX8_beOf ∈ TBg := TB2 149 rfl rfl
set_option maxRecDepth 20000 in
theorem kw_493 : Cond.code yX8_beOf cX8_beOf 3 none ∈ TBg := TB2 150 rfl rfl
set_option maxRecDepth 20000 in
theorem kw_494 : Cond.methodLink "StatePress$Share" 56 yJ7_fill_53178 ∈ TBg := TB2 151 rfl rfl
set_option maxRecDepth 20000 in
theorem kw_495 : Cond.static yJ7_fill_53178 ∈ TBg := TB2 152 rfl rfl
set_option maxRecDepth 20000 in
theorem kw_496 : Cond.code yJ7_fill_53178 cJ7_fill_53178 4 none ∈ TBg := TB2 153 rfl rfl
set_option maxRecDepth 20000 in
theorem kw_497 : Cond.methodLink "StatePress$Share" 47 Lib.Math.min.name ∈ TBg := TB2 154 rfl rfl
set_option maxRecDepth 20000 in
theorem kw_498 : Cond.static Lib.Math.min.name ∈ TBg := TB2 155 rfl rfl
set_option maxRecDepth 20000 in
theorem kw_499 : Cond.code Lib.Math.min.name Lib.Math.min.code 2 (some .int) ∈ TBg := TB2 156 rfl rfl
set_option maxRecDepth 20000 in
theorem kw_500 : Cond.methodLink "StatePress$Share" 50 arraycopyName ∈ TBg := TB2 157 rfl rfl
set_option maxRecDepth 20000 in
theorem kw_501 : Cond.static arraycopyName ∈ TBg := TB2 158 rfl rfl
set_option maxRecDepth 20000 in
theorem kw_502 : Cond.native arraycopyName ∈ TBg := TB2 159 rfl rfl
set_option maxRecDepth 20000 in
theorem kw_503 : Cond.methodLink "StatePress$Share" 62 yX8_spread ∈ TBg := TB2 160 rfl rfl
set_option maxRecDepth 20000 in
theorem kw_504 : Cond.instanceMethod yX8_spread ∈ TBg := TB2 161 rfl rfl
set_option maxRecDepth 20000 in
theorem kw_505 : Cond.selects "StatePress$Share" yX8_spread yX8_spread ∈ TBg := TB2 162 rfl rfl
set_option maxRecDepth 20000 in
theorem kw_506 : Cond.code yX8_spread cX8_spread 6 none ∈ TBg := TB2 163 rfl rfl
set_option maxRecDepth 20000 in
theorem kw_507 : Cond.methodLink "StatePress$Share" 65 Lib.Math.abs.name ∈ TBg := TB2 164 rfl rfl
set_option maxRecDepth 20000 in
theorem kw_508 : Cond.static Lib.Math.abs.name ∈ TBg := TB2 165 rfl rfl
set_option maxRecDepth 20000 in
theorem kw_509 : Cond.code Lib.Math.abs.name Lib.Math.abs.code 1 (some .int) ∈ TBg := TB2 166 rfl rfl
set_option maxRecDepth 20000 in
theorem kn_510 : Cond.methodLinkNest "StatePress$Share" 77 yX11_log "StatePress" ∈ NW := NW2 167 rfl rfl
set_option maxRecDepth 20000 in
theorem kw_511 : Cond.static yX11_log ∈ TBg := TB2 168 rfl rfl
set_option maxRecDepth 20000 in
theorem kw_512 : Cond.code yX11_log cX11_log 3 (some .int) ∈ TBg := TB2 169 rfl rfl
set_option maxRecDepth 20000 in
theorem kw_513 : Cond.methodLink "StatePress$Share" 80 yX8_spreadBelow ∈ TBg := TB2 170 rfl rfl
set_option maxRecDepth 20000 in
theorem kw_515 : Cond.instanceMethod yX8_spreadBelow ∈ TBg := TB2 172 rfl rfl
set_option maxRecDepth 20000 in
theorem kw_516 : Cond.code yX8_spreadBelow cX8_spreadBelow 8 none ∈ TBg := TB2 173 rfl rfl
set_option maxRecDepth 20000 in
theorem kw_517 : Cond.methodLink "StatePress$Share" 83 yX8_sortPlaces ∈ TBg := TB2 174 rfl rfl
set_option maxRecDepth 20000 in
theorem kw_519 : Cond.instanceMethod yX8_sortPlaces ∈ TBg := TB2 176 rfl rfl
set_option maxRecDepth 20000 in
theorem kw_520 : Cond.code yX8_sortPlaces cX8_sortPlaces 4 none ∈ TBg := TB2 177 rfl rfl
set_option maxRecDepth 20000 in
theorem kn_521 : Cond.fieldLinkNest "StatePress$Packer" 59 "StatePress" "DISTANCE_BASES" "[I" "StatePress" ∈ NW := NW2 178 rfl rfl
set_option maxRecDepth 20000 in
theorem kn_523 : Cond.fieldLinkNest "StatePress$Packer" 62 "StatePress" "DISTANCE_WIDTHS" "[I" "StatePress" ∈ NW := NW2 180 rfl rfl
set_option maxRecDepth 20000 in
theorem kn_525 : Cond.fieldLinkNest "StatePress$Packer" 68 "StatePress" "DISTANCE_KNOWN" "[I" "StatePress" ∈ NW := NW2 182 rfl rfl
set_option maxRecDepth 20000 in
theorem kn_527 : Cond.fieldLinkNest "StatePress$Packer" 71 "StatePress" "MATCH_BASES" "[I" "StatePress" ∈ NW := NW2 184 rfl rfl
set_option maxRecDepth 20000 in
theorem kn_529 : Cond.fieldLinkNest "StatePress$Packer" 74 "StatePress" "MATCH_WIDTHS" "[I" "StatePress" ∈ NW := NW2 186 rfl rfl
set_option maxRecDepth 20000 in
theorem kn_531 : Cond.fieldLinkNest "StatePress$Packer" 80 "StatePress" "MATCH_KNOWN" "[I" "StatePress" ∈ NW := NW2 188 rfl rfl
set_option maxRecDepth 20000 in
theorem kw_533 : Cond.fieldLink "StatePress$Packer" 12 "StatePress$Packer" "finder" "LStatePress$Finder;" ∈ TBg := TB2 190 rfl rfl
set_option maxRecDepth 20000 in
theorem kw_534 : Cond.fieldLink "StatePress" 108 "StatePress$Packer" "finder" "LStatePress$Finder;" ∈ TBg := TB2 191 rfl rfl
set_option maxRecDepth 20000 in
theorem kw_535 : Cond.fieldLink "StatePress$Packer" 33 "StatePress$Packer" "literals" "LStatePress$Literals;" ∈ TBg := TB2 192 rfl rfl
set_option maxRecDepth 20000 in
theorem kw_536 : Cond.fieldLink "StatePress" 168 "StatePress$Packer" "literals" "LStatePress$Literals;" ∈ TBg := TB2 193 rfl rfl
set_option maxRecDepth 20000 in
theorem kw_537 : Cond.fieldLink "StatePress$Packer" 48 "StatePress$Packer" "literalLengths" "LStatePress$Column;" ∈ TBg := TB2 194 rfl rfl
set_option maxRecDepth 20000 in
theorem kw_538 : Cond.fieldLink "StatePress$Packer" 65 "StatePress$Packer" "distances" "LStatePress$Column;" ∈ TBg := TB2 195 rfl rfl
set_option maxRecDepth 20000 in
theorem kw_539 : Cond.fieldLink "StatePress$Packer" 77 "StatePress$Packer" "matchLengths" "LStatePress$Column;" ∈ TBg := TB2 196 rfl rfl
set_option maxRecDepth 20000 in
theorem kw_540 : Cond.fieldLink "StatePress$Packer" 18 "StatePress$Packer" "latest" "[I" ∈ TBg := TB2 197 rfl rfl
set_option maxRecDepth 20000 in
theorem kw_541 : Cond.fieldLink "StatePress$Packer" 22 "StatePress$Packer" "now" "[I" ∈ TBg := TB2 198 rfl rfl
set_option maxRecDepth 20000 in
theorem kw_542 : Cond.fieldLink "StatePress$Packer" 115 "StatePress$Packer" "count" "I" ∈ TBg := TB2 199 rfl rfl
set_option maxRecDepth 20000 in
theorem kw_543 : Cond.fieldLink "StatePress$Packer" 25 "StatePress$Packer" "tally" "[I" ∈ TBg := TB2 200 rfl rfl
set_option maxRecDepth 20000 in
theorem kw_544 : Cond.fieldLink "StatePress" 146 "StatePress$Packer" "tally" "[I" ∈ TBg := TB2 201 rfl rfl
set_option maxRecDepth 20000 in
theorem kw_564 : Cond.fieldLink "StatePress" 14 "StatePress" "in" "LStatePress$Row;" ∈ TBg := TB2 221 rfl rfl
set_option maxRecDepth 20000 in
theorem kw_565 : Cond.fieldLink "StatePress" 18 "StatePress" "out" "LStatePress$Row;" ∈ TBg := TB2 222 rfl rfl
set_option maxRecDepth 20000 in
theorem kw_566 : Cond.fieldLink "StatePress" 21 "StatePress" "next" "LStatePress$Row;" ∈ TBg := TB2 223 rfl rfl
set_option maxRecDepth 20000 in
theorem kw_567 : Cond.fieldLink "StatePress" 24 "StatePress" "content" "LStatePress$Row;" ∈ TBg := TB2 224 rfl rfl
set_option maxRecDepth 20000 in
theorem kw_568 : Cond.fieldLink "StatePress" 96 "StatePress" "id" "J" ∈ TBg := TB2 225 rfl rfl
set_option maxRecDepth 20000 in
theorem kw_569 : Cond.fieldLink "StatePress" 30 "StatePress" "start" "LStatePress$Start;" ∈ TBg := TB2 226 rfl rfl
set_option maxRecDepth 20000 in
theorem kw_570 : Cond.fieldLink "StatePress" 34 "StatePress" "draft" "LStatePress$Start;" ∈ TBg := TB2 227 rfl rfl
set_option maxRecDepth 20000 in
theorem kw_571 : Cond.fieldLink "StatePress" 40 "StatePress" "description" "LStatePress$Description;" ∈ TBg := TB2 228 rfl rfl
set_option maxRecDepth 20000 in
theorem kw_572 : Cond.fieldLink "StatePress" 49 "StatePress" "packer" "LStatePress$Packer;" ∈ TBg := TB2 229 rfl rfl
set_option maxRecDepth 20000 in
theorem kw_573 : Cond.fieldLink "StatePress" 53 "StatePress" "abouts" "[I" ∈ TBg := TB2 230 rfl rfl
set_option maxRecDepth 20000 in
theorem kw_574 : Cond.fieldLink "StatePress" 57 "StatePress" "way" "I" ∈ TBg := TB2 231 rfl rfl
set_option maxRecDepth 20000 in
theorem kw_575 : Cond.fieldLink "StatePress" 61 "StatePress" "least" "I" ∈ TBg := TB2 232 rfl rfl
set_option maxRecDepth 20000 in
theorem kw_605 : Cond.methodLink "StatePress" 67 yX7_put ∈ TBg := TB3 22 rfl rfl
set_option maxRecDepth 20000 in
theorem kw_606 : Cond.instanceMethod yX7_put ∈ TBg := TB3 23 rfl rfl
set_option maxRecDepth 20000 in
theorem kw_607 : Cond.selects "StatePress$Row" yX7_put yX7_put ∈ TBg := TB3 24 rfl rfl
set_option maxRecDepth 20000 in
theorem kw_608 : Cond.code yX7_put cX7_put 2 none ∈ TBg := TB3 25 rfl rfl
set_option maxRecDepth 20000 in
theorem kw_613 : Cond.constantLong "StatePress" 70 8000 ∈ TBg := TB3 30 rfl rfl
set_option maxRecDepth 20000 in
theorem kw_614 : Cond.methodLink "StatePress" 72 yX7_at ∈ TBg := TB3 31 rfl rfl
set_option maxRecDepth 20000 in
theorem kw_615 : Cond.instanceMethod yX7_at ∈ TBg := TB3 32 rfl rfl
set_option maxRecDepth 20000 in
theorem kw_616 : Cond.selects "StatePress$Row" yX7_at yX7_at ∈ TBg := TB3 33 rfl rfl
set_option maxRecDepth 20000 in
theorem kw_617 : Cond.code yX7_at cX7_at 2 (some .int) ∈ TBg := TB3 34 rfl rfl
set_option maxRecDepth 20000 in
theorem kw_622 : Cond.methodLink "StatePress" 76 yX7_drop ∈ TBg := TB3 39 rfl rfl
set_option maxRecDepth 20000 in
theorem kw_623 : Cond.instanceMethod yX7_drop ∈ TBg := TB3 40 rfl rfl
set_option maxRecDepth 20000 in
theorem kw_624 : Cond.selects "StatePress$Row" yX7_drop yX7_drop ∈ TBg := TB3 41 rfl rfl
set_option maxRecDepth 20000 in
theorem kw_625 : Cond.code yX7_drop cX7_drop 1 none ∈ TBg := TB3 42 rfl rfl
set_option maxRecDepth 20000 in
theorem kw_630 : Cond.methodLink "StatePress" 79 yX7_putRow ∈ TBg := TB3 47 rfl rfl
set_option maxRecDepth 20000 in
theorem kw_631 : Cond.instanceMethod yX7_putRow ∈ TBg := TB3 48 rfl rfl
set_option maxRecDepth 20000 in
theorem kw_632 : Cond.selects "StatePress$Row" yX7_putRow yX7_putRow ∈ TBg := TB3 49 rfl rfl
set_option maxRecDepth 20000 in
theorem kw_633 : Cond.code yX7_putRow cX7_putRow 4 none ∈ TBg := TB3 50 rfl rfl
set_option maxRecDepth 20000 in
theorem kw_634 : Cond.methodLink "StatePress$Row" 38 Lib.Math.min.name ∈ TBg := TB3 51 rfl rfl
set_option maxRecDepth 20000 in
theorem kw_635 : Cond.methodLink "StatePress$Row" 41 yX7_putCells ∈ TBg := TB3 52 rfl rfl
set_option maxRecDepth 20000 in
theorem kw_636 : Cond.instanceMethod yX7_putCells ∈ TBg := TB3 53 rfl rfl
set_option maxRecDepth 20000 in
theorem kw_637 : Cond.selects "StatePress$Row" yX7_putCells yX7_putCells ∈ TBg := TB3 54 rfl rfl
set_option maxRecDepth 20000 in
theorem kw_638 : Cond.code yX7_putCells cX7_putCells 5 none ∈ TBg := TB3 55 rfl rfl
set_option maxRecDepth 20000 in
theorem kw_639 : Cond.methodLink "StatePress$Row" 45 arraycopyName ∈ TBg := TB3 56 rfl rfl
set_option maxRecDepth 20000 in
theorem kw_648 : Cond.methodLink "StatePress" 83 yX7_number ∈ TBg := TB3 65 rfl rfl
set_option maxRecDepth 20000 in
theorem kw_649 : Cond.instanceMethod yX7_number ∈ TBg := TB3 66 rfl rfl
set_option maxRecDepth 20000 in
theorem kw_650 : Cond.selects "StatePress$Row" yX7_number yX7_number ∈ TBg := TB3 67 rfl rfl
set_option maxRecDepth 20000 in
theorem kw_651 : Cond.code yX7_number cX7_number 6 (some .long) ∈ TBg := TB3 68 rfl rfl
set_option maxRecDepth 20000 in
theorem kw_652 : Cond.methodLink "StatePress$Row" 55 yX7_at ∈ TBg := TB3 69 rfl rfl
set_option maxRecDepth 20000 in
theorem kw_653 : Cond.constantLong "StatePress" 87 3962610743 ∈ TBg := TB3 70 rfl rfl
set_option maxRecDepth 20000 in
theorem kw_654 : Cond.methodLink "StatePress" 89 yX9_empty ∈ TBg := TB3 71 rfl rfl
set_option maxRecDepth 20000 in
theorem kw_655 : Cond.instanceMethod yX9_empty ∈ TBg := TB3 72 rfl rfl
set_option maxRecDepth 20000 in
theorem kw_656 : Cond.selects "StatePress$Start" yX9_empty yX9_empty ∈ TBg := TB3 73 rfl rfl
set_option maxRecDepth 20000 in
theorem kw_657 : Cond.code yX9_empty cX9_empty 1 none ∈ TBg := TB3 74 rfl rfl
set_option maxRecDepth 20000 in
theorem kw_658 : Cond.methodLink "StatePress" 92 yX9_readFrom ∈ TBg := TB3 75 rfl rfl
set_option maxRecDepth 20000 in
theorem kw_659 : Cond.instanceMethod yX9_readFrom ∈ TBg := TB3 76 rfl rfl
set_option maxRecDepth 20000 in
theorem kw_660 : Cond.selects "StatePress$Start" yX9_readFrom yX9_readFrom ∈ TBg := TB3 77 rfl rfl
set_option maxRecDepth 20000 in
theorem kw_661 : Cond.code yX9_readFrom cX9_readFrom 8 (some .int) ∈ TBg := TB3 78 rfl rfl
set_option maxRecDepth 20000 in
theorem kw_662 : Cond.methodLink "StatePress$Start" 55 yX2_readFrom ∈ TBg := TB3 79 rfl rfl
set_option maxRecDepth 20000 in
theorem kw_663 : Cond.instanceMethod yX2_readFrom ∈ TBg := TB3 80 rfl rfl
set_option maxRecDepth 20000 in
theorem kw_664 : Cond.selects "StatePress$Description" yX2_readFrom yX2_readFrom ∈ TBg := TB3 81 rfl rfl
set_option maxRecDepth 20000 in
theorem kw_665 : Cond.code yX2_readFrom cX2_readFrom 8 (some .int) ∈ TBg := TB3 82 rfl rfl
set_option maxRecDepth 20000 in
theorem kw_666 : Cond.methodLink "StatePress$Description" 112 yX7_at ∈ TBg := TB3 83 rfl rfl
set_option maxRecDepth 20000 in
theorem kw_667 : Cond.methodLink "StatePress$Description" 115 yX2_readDirect ∈ TBg := TB3 84 rfl rfl
set_option maxRecDepth 20000 in
theorem kw_669 : Cond.instanceMethod yX2_readDirect ∈ TBg := TB3 86 rfl rfl
set_option maxRecDepth 20000 in
theorem kw_670 : Cond.code yX2_readDirect cX2_readDirect 6 (some .int) ∈ TBg := TB3 87 rfl rfl
set_option maxRecDepth 20000 in
theorem kw_671 : Cond.methodLink "StatePress$Description" 126 Lib.Math.max.name ∈ TBg := TB3 88 rfl rfl
set_option maxRecDepth 20000 in
theorem kw_672 : Cond.methodLink "StatePress$Description" 119 yX2_readStates ∈ TBg := TB3 89 rfl rfl
set_option maxRecDepth 20000 in
theorem kw_674 : Cond.instanceMethod yX2_readStates ∈ TBg := TB3 91 rfl rfl
set_option maxRecDepth 20000 in
theorem kw_675 : Cond.code yX2_readStates cX2_readStates 14 (some .int) ∈ TBg := TB3 92 rfl rfl
set_option maxRecDepth 20000 in
theorem kw_676 : Cond.methodLink "StatePress$Description" 131 yX8_readFrom ∈ TBg := TB3 93 rfl rfl
set_option maxRecDepth 20000 in
theorem kw_677 : Cond.instanceMethod yX8_readFrom ∈ TBg := TB3 94 rfl rfl
set_option maxRecDepth 20000 in
theorem kw_678 : Cond.selects "StatePress$Share" yX8_readFrom yX8_readFrom ∈ TBg := TB3 95 rfl rfl
set_option maxRecDepth 20000 in
theorem kw_679 : Cond.code yX8_readFrom cX8_readFrom 13 (some .int) ∈ TBg := TB3 96 rfl rfl
set_option maxRecDepth 20000 in
theorem kw_680 : Cond.methodLink "StatePress$Share" 110 yX7_bits ∈ TBg := TB3 97 rfl rfl
set_option maxRecDepth 20000 in
theorem kw_681 : Cond.instanceMethod yX7_bits ∈ TBg := TB3 98 rfl rfl
set_option maxRecDepth 20000 in
theorem kw_682 : Cond.selects "StatePress$Row" yX7_bits yX7_bits ∈ TBg := TB3 99 rfl rfl
set_option maxRecDepth 20000 in
theorem kw_683 : Cond.code yX7_bits cX7_bits 6 (some .int) ∈ TBg := TB3 100 rfl rfl
set_option maxRecDepth 20000 in
theorem kn_684 : Cond.methodLinkNest "StatePress$Description" 135 yX11_log "StatePress" ∈ NW := NW3 101 rfl rfl
set_option maxRecDepth 20000 in
theorem kw_685 : Cond.methodLink "StatePress$Description" 138 yX7_bits ∈ TBg := TB3 102 rfl rfl
set_option maxRecDepth 20000 in
theorem kw_686 : Cond.methodLink "StatePress$Description" 141 yX8_owner ∈ TBg := TB3 103 rfl rfl
set_option maxRecDepth 20000 in
theorem kw_687 : Cond.instanceMethod yX8_owner ∈ TBg := TB3 104 rfl rfl
set_option maxRecDepth 20000 in
theorem kw_688 : Cond.selects "StatePress$Share" yX8_owner yX8_owner ∈ TBg := TB3 105 rfl rfl
set_option maxRecDepth 20000 in
theorem kw_689 : Cond.code yX8_owner cX8_owner 2 (some .int) ∈ TBg := TB3 106 rfl rfl
set_option maxRecDepth 20000 in
theorem kw_690 : Cond.methodLink "StatePress$Description" 144 yX8_rank ∈ TBg := TB3 107 rfl rfl
set_option maxRecDepth 20000 in
theorem kw_691 : Cond.instanceMethod yX8_rank ∈ TBg := TB3 108 rfl rfl
set_option maxRecDepth 20000 in
theorem kw_692 : Cond.selects "StatePress$Share" yX8_rank yX8_rank ∈ TBg := TB3 109 rfl rfl
set_option maxRecDepth 20000 in
theorem kw_693 : Cond.code yX8_rank cX8_rank 6 (some .int) ∈ TBg := TB3 110 rfl rfl
set_option maxRecDepth 20000 in
theorem kw_694 : Cond.methodLink "StatePress$Share" 96 yX8_owner ∈ TBg := TB3 111 rfl rfl
set_option maxRecDepth 20000 in
theorem kw_695 : Cond.methodLink "StatePress$Description" 122 yX2_settle ∈ TBg := TB3 112 rfl rfl
set_option maxRecDepth 20000 in
theorem kw_697 : Cond.instanceMethod yX2_settle ∈ TBg := TB3 114 rfl rfl
set_option maxRecDepth 20000 in
theorem kw_698 : Cond.code yX2_settle cX2_settle 8 (some .boolean) ∈ TBg := TB3 115 rfl rfl
set_option maxRecDepth 20000 in
theorem kw_699 : Cond.methodLink "StatePress$Description" 79 yJ7_fill_53178 ∈ TBg := TB3 116 rfl rfl
set_option maxRecDepth 20000 in
theorem kw_700 : Cond.methodLink "StatePress$Description" 147 yX0_settle ∈ TBg := TB3 117 rfl rfl
set_option maxRecDepth 20000 in
theorem kw_701 : Cond.instanceMethod yX0_settle ∈ TBg := TB3 118 rfl rfl
set_option maxRecDepth 20000 in
theorem kw_702 : Cond.selects "StatePress$Codes" yX0_settle yX0_settle ∈ TBg := TB3 119 rfl rfl
set_option maxRecDepth 20000 in
theorem kw_703 : Cond.code yX0_settle cX0_settle 4 none ∈ TBg := TB3 120 rfl rfl
set_option maxRecDepth 20000 in
theorem kw_704 : Cond.methodLink "StatePress$Codes" 35 Lib.Math.min.name ∈ TBg := TB3 121 rfl rfl
set_option maxRecDepth 20000 in
theorem kw_705 : Cond.methodLink "StatePress$Codes" 41 yJ7_fill_53178 ∈ TBg := TB3 122 rfl rfl
set_option maxRecDepth 20000 in
theorem kw_706 : Cond.methodLink "StatePress$Codes" 47 yX0_weight ∈ TBg := TB3 123 rfl rfl
set_option maxRecDepth 20000 in
theorem kw_707 : Cond.instanceMethod yX0_weight ∈ TBg := TB3 124 rfl rfl
set_option maxRecDepth 20000 in
theorem kw_708 : Cond.selects "StatePress$Codes" yX0_weight yX0_weight ∈ TBg := TB3 125 rfl rfl
set_option maxRecDepth 20000 in
theorem kw_709 : Cond.code yX0_weight cX0_weight 2 (some .int) ∈ TBg := TB3 126 rfl rfl
set_option maxRecDepth 20000 in
theorem kw_710 : Cond.methodLink "StatePress$Start" 61 yX8_readFrom ∈ TBg := TB3 127 rfl rfl
set_option maxRecDepth 20000 in
theorem kw_711 : Cond.methodLink "StatePress$Start" 64 yX7_number ∈ TBg := TB3 128 rfl rfl
set_option maxRecDepth 20000 in
theorem kw_720 : Cond.methodLink "StatePress" 100 yX11_putHead ∈ TBg := TB3 137 rfl rfl
set_option maxRecDepth 20000 in
theorem kw_722 : Cond.instanceMethod yX11_putHead ∈ TBg := TB3 139 rfl rfl
set_option maxRecDepth 20000 in
theorem kw_723 : Cond.code yX11_putHead cX11_putHead 7 none ∈ TBg := TB3 140 rfl rfl
set_option maxRecDepth 20000 in
theorem kw_724 : Cond.methodLink "StatePress" 185 yX11_sizeKind ∈ TBg := TB3 141 rfl rfl
set_option maxRecDepth 20000 in
theorem kw_725 : Cond.static yX11_sizeKind ∈ TBg := TB3 142 rfl rfl
set_option maxRecDepth 20000 in
theorem kw_726 : Cond.code yX11_sizeKind cX11_sizeKind 2 (some .int) ∈ TBg := TB3 143 rfl rfl
set_option maxRecDepth 20000 in
theorem kw_727 : Cond.constant "StatePress" 195 65792 ∈ TBg := TB3 144 rfl rfl
set_option maxRecDepth 20000 in
theorem kw_728 : Cond.methodLink "StatePress" 189 yX11_idKind ∈ TBg := TB3 145 rfl rfl
set_option maxRecDepth 20000 in
theorem kw_729 : Cond.static yX11_idKind ∈ TBg := TB3 146 rfl rfl
set_option maxRecDepth 20000 in
theorem kw_730 : Cond.code yX11_idKind cX11_idKind 2 (some .int) ∈ TBg := TB3 147 rfl rfl
set_option maxRecDepth 20000 in
theorem kw_731 : Cond.constantLong "StatePress" 196 256 ∈ TBg := TB3 148 rfl rfl
set_option maxRecDepth 20000 in
theorem kw_732 : Cond.constantLong "StatePress" 198 65536 ∈ TBg := TB3 149 rfl rfl
set_option maxRecDepth 20000 in
theorem kw_733 : Cond.constantLong "StatePress" 193 4247762216 ∈ TBg := TB3 150 rfl rfl
set_option maxRecDepth 20000 in
theorem kw_734 : Cond.methodLink "StatePress" 142 yX7_putNumber ∈ TBg := TB3 151 rfl rfl
set_option maxRecDepth 20000 in
theorem kw_735 : Cond.instanceMethod yX7_putNumber ∈ TBg := TB3 152 rfl rfl
set_option maxRecDepth 20000 in
theorem kw_736 : Cond.selects "StatePress$Row" yX7_putNumber yX7_putNumber ∈ TBg := TB3 153 rfl rfl
set_option maxRecDepth 20000 in
theorem kw_737 : Cond.code yX7_putNumber cX7_putNumber 5 none ∈ TBg := TB3 154 rfl rfl
set_option maxRecDepth 20000 in
theorem kw_738 : Cond.methodLink "StatePress$Row" 34 yX7_put ∈ TBg := TB3 155 rfl rfl
set_option maxRecDepth 20000 in
theorem kw_739 : Cond.methodLink "StatePress" 104 yX6_begin ∈ TBg := TB3 156 rfl rfl
set_option maxRecDepth 20000 in
theorem kw_740 : Cond.instanceMethod yX6_begin ∈ TBg := TB3 157 rfl rfl
set_option maxRecDepth 20000 in
theorem kw_741 : Cond.selects "StatePress$Packer" yX6_begin yX6_begin ∈ TBg := TB3 158 rfl rfl
set_option maxRecDepth 20000 in
theorem kw_742 : Cond.code yX6_begin cX6_begin 2 none ∈ TBg := TB3 159 rfl rfl
set_option maxRecDepth 20000 in
theorem kw_743 : Cond.methodLink "StatePress$Packer" 89 yX5_begin ∈ TBg := TB3 160 rfl rfl
set_option maxRecDepth 20000 in
theorem kw_744 : Cond.instanceMethod yX5_begin ∈ TBg := TB3 161 rfl rfl
set_option maxRecDepth 20000 in
theorem kw_745 : Cond.selects "StatePress$Literals" yX5_begin yX5_begin ∈ TBg := TB3 162 rfl rfl
set_option maxRecDepth 20000 in
theorem kw_746 : Cond.code yX5_begin cX5_begin 2 none ∈ TBg := TB3 163 rfl rfl
set_option maxRecDepth 20000 in
theorem kw_747 : Cond.methodLink "StatePress$Literals" 49 yX0_become ∈ TBg := TB3 164 rfl rfl
set_option maxRecDepth 20000 in
theorem kw_748 : Cond.instanceMethod yX0_become ∈ TBg := TB3 165 rfl rfl
set_option maxRecDepth 20000 in
theorem kw_749 : Cond.selects "StatePress$Codes" yX0_become yX0_become ∈ TBg := TB3 166 rfl rfl
set_option maxRecDepth 20000 in
theorem kw_750 : Cond.code yX0_become cX0_become 2 none ∈ TBg := TB3 167 rfl rfl
set_option maxRecDepth 20000 in
theorem kw_751 : Cond.methodLink "StatePress$Codes" 29 arraycopyName ∈ TBg := TB3 168 rfl rfl
set_option maxRecDepth 20000 in
theorem kw_752 : Cond.methodLink "StatePress$Packer" 96 yX1_begin ∈ TBg := TB3 169 rfl rfl
set_option maxRecDepth 20000 in
theorem kw_753 : Cond.instanceMethod yX1_begin ∈ TBg := TB3 170 rfl rfl
set_option maxRecDepth 20000 in
theorem kw_754 : Cond.selects "StatePress$Column" yX1_begin yX1_begin ∈ TBg := TB3 171 rfl rfl
set_option maxRecDepth 20000 in
theorem kw_755 : Cond.code yX1_begin cX1_begin 2 none ∈ TBg := TB3 172 rfl rfl
set_option maxRecDepth 20000 in
theorem kw_756 : Cond.methodLink "StatePress$Column" 68 yX8_become ∈ TBg := TB3 173 rfl rfl
set_option maxRecDepth 20000 in
theorem kw_757 : Cond.instanceMethod yX8_become ∈ TBg := TB3 174 rfl rfl
set_option maxRecDepth 20000 in
theorem kw_758 : Cond.selects "StatePress$Share" yX8_become yX8_become ∈ TBg := TB3 175 rfl rfl
set_option maxRecDepth 20000 in
theorem kw_759 : Cond.code yX8_become cX8_become 4 none ∈ TBg := TB3 176 rfl rfl
set_option maxRecDepth 20000 in
theorem kw_760 : Cond.methodLink "StatePress$Packer" 104 arraycopyName ∈ TBg := TB3 177 rfl rfl
set_option maxRecDepth 20000 in
theorem kw_761 : Cond.methodLink "StatePress$Packer" 110 yJ7_fill_53178 ∈ TBg := TB3 178 rfl rfl
set_option maxRecDepth 20000 in
theorem kw_762 : Cond.methodLink "StatePress" 112 yX3_load ∈ TBg := TB3 179 rfl rfl
set_option maxRecDepth 20000 in
theorem kw_763 : Cond.instanceMethod yX3_load ∈ TBg := TB3 180 rfl rfl
set_option maxRecDepth 20000 in
theorem kw_764 : Cond.selects "StatePress$Finder" yX3_load yX3_load ∈ TBg := TB3 181 rfl rfl
set_option maxRecDepth 20000 in
theorem kw_765 : Cond.code yX3_load cX3_load 6 none ∈ TBg := TB3 182 rfl rfl
set_option maxRecDepth 20000 in
theorem kw_766 : Cond.methodLink "StatePress$Finder" 32 arraycopyName ∈ TBg := TB3 183 rfl rfl
set_option maxRecDepth 20000 in
theorem kw_767 : Cond.methodLink "StatePress$Finder" 38 yJ7_fill_53178 ∈ TBg := TB3 184 rfl rfl
set_option maxRecDepth 20000 in
theorem kw_768 : Cond.constant "StatePress$Finder" 44 (-1640531535) ∈ TBg := TB3 185 rfl rfl
set_option maxRecDepth 20000 in
theorem kw_769 : Cond.methodLink "StatePress" 118 yX3_obey ∈ TBg := TB3 186 rfl rfl
set_option maxRecDepth 20000 in
theorem kw_770 : Cond.instanceMethod yX3_obey ∈ TBg := TB3 187 rfl rfl
set_option maxRecDepth 20000 in
theorem kw_771 : Cond.selects "StatePress$Finder" yX3_obey yX3_obey ∈ TBg := TB3 188 rfl rfl
set_option maxRecDepth 20000 in
theorem kw_772 : Cond.code yX3_obey cX3_obey 4 none ∈ TBg := TB3 189 rfl rfl
set_option maxRecDepth 20000 in
theorem kw_773 : Cond.methodLink "StatePress" 122 Lib.Math.min.name ∈ TBg := TB3 190 rfl rfl
set_option maxRecDepth 20000 in
theorem kw_774 : Cond.methodLink "StatePress" 128 yX6_putBlock ∈ TBg := TB3 191 rfl rfl
set_option maxRecDepth 20000 in
theorem kw_775 : Cond.instanceMethod yX6_putBlock ∈ TBg := TB3 192 rfl rfl
set_option maxRecDepth 20000 in
theorem kw_776 : Cond.selects "StatePress$Packer" yX6_putBlock yX6_putBlock ∈ TBg := TB3 193 rfl rfl
set_option maxRecDepth 20000 in
theorem kw_777 : Cond.code yX6_putBlock cX6_putBlock 10 none ∈ TBg := TB3 194 rfl rfl
set_option maxRecDepth 20000 in
theorem kw_778 : Cond.methodLink "StatePress$Packer" 163 yX3_same ∈ TBg := TB3 195 rfl rfl
set_option maxRecDepth 20000 in
theorem kw_779 : Cond.instanceMethod yX3_same ∈ TBg := TB3 196 rfl rfl
set_option maxRecDepth 20000 in
theorem kw_780 : Cond.selects "StatePress$Finder" yX3_same yX3_same ∈ TBg := TB3 197 rfl rfl
set_option maxRecDepth 20000 in
theorem kw_781 : Cond.code yX3_same cX3_same 4 (some .boolean) ∈ TBg := TB3 198 rfl rfl
set_option maxRecDepth 20000 in
theorem kw_782 : Cond.methodLink "StatePress$Finder" 66 yX3_at ∈ TBg := TB3 199 rfl rfl
set_option maxRecDepth 20000 in
theorem kw_783 : Cond.instanceMethod yX3_at ∈ TBg := TB3 200 rfl rfl
set_option maxRecDepth 20000 in
theorem kw_784 : Cond.selects "StatePress$Finder" yX3_at yX3_at ∈ TBg := TB3 201 rfl rfl
set_option maxRecDepth 20000 in
theorem kw_785 : Cond.code yX3_at cX3_at 2 (some .int) ∈ TBg := TB3 202 rfl rfl
set_option maxRecDepth 20000 in
theorem kw_786 : Cond.constantLong "StatePress$Packer" 167 8 ∈ TBg := TB3 203 rfl rfl
set_option maxRecDepth 20000 in
theorem kw_787 : Cond.constantLong "StatePress$Packer" 169 2 ∈ TBg := TB3 204 rfl rfl
set_option maxRecDepth 20000 in
theorem kw_788 : Cond.methodLink "StatePress$Packer" 171 yX7_putNumber ∈ TBg := TB3 205 rfl rfl
set_option maxRecDepth 20000 in
theorem kw_789 : Cond.methodLink "StatePress$Packer" 133 yX3_at ∈ TBg := TB3 206 rfl rfl
set_option maxRecDepth 20000 in
theorem kw_790 : Cond.methodLink "StatePress$Packer" 177 yX7_put ∈ TBg := TB3 207 rfl rfl
set_option maxRecDepth 20000 in
theorem kw_791 : Cond.methodLink "StatePress$Packer" 180 yX6_go ∈ TBg := TB3 208 rfl rfl
set_option maxRecDepth 20000 in
theorem kw_792 : Cond.instanceMethod yX6_go ∈ TBg := TB3 209 rfl rfl
set_option maxRecDepth 20000 in
theorem kw_793 : Cond.selects "StatePress$Packer" yX6_go yX6_go ∈ TBg := TB3 210 rfl rfl
set_option maxRecDepth 20000 in
theorem kw_794 : Cond.code yX6_go cX6_go 5 none ∈ TBg := TB3 211 rfl rfl
set_option maxRecDepth 20000 in
theorem kw_795 : Cond.methodLink "StatePress$Packer" 119 yX5_drop ∈ TBg := TB3 212 rfl rfl
set_option maxRecDepth 20000 in
theorem kw_796 : Cond.instanceMethod yX5_drop ∈ TBg := TB3 213 rfl rfl
set_option maxRecDepth 20000 in
theorem kw_797 : Cond.selects "StatePress$Literals" yX5_drop yX5_drop ∈ TBg := TB3 214 rfl rfl
set_option maxRecDepth 20000 in
theorem kw_798 : Cond.code yX5_drop cX5_drop 1 none ∈ TBg := TB3 215 rfl rfl
set_option maxRecDepth 20000 in
theorem kw_799 : Cond.methodLink "StatePress$Literals" 57 yJ7_fill_53178 ∈ TBg := TB3 216 rfl rfl
set_option maxRecDepth 20000 in
theorem kw_800 : Cond.methodLink "StatePress$Packer" 122 yX1_drop ∈ TBg := TB3 217 rfl rfl
set_option maxRecDepth 20000 in
theorem kw_801 : Cond.instanceMethod yX1_drop ∈ TBg := TB3 218 rfl rfl
set_option maxRecDepth 20000 in
theorem kw_802 : Cond.selects "StatePress$Column" yX1_drop yX1_drop ∈ TBg := TB3 219 rfl rfl
set_option maxRecDepth 20000 in
theorem kw_803 : Cond.code yX1_drop cX1_drop 1 none ∈ TBg := TB3 220 rfl rfl
set_option maxRecDepth 20000 in
theorem kw_804 : Cond.methodLink "StatePress$Column" 81 yJ7_fill_53178 ∈ TBg := TB3 221 rfl rfl
set_option maxRecDepth 20000 in
theorem kw_805 : Cond.methodLink "StatePress$Packer" 123 yX3_endAt ∈ TBg := TB3 222 rfl rfl
set_option maxRecDepth 20000 in
theorem kw_806 : Cond.instanceMethod yX3_endAt ∈ TBg := TB3 223 rfl rfl
set_option maxRecDepth 20000 in
theorem kw_807 : Cond.selects "StatePress$Finder" yX3_endAt yX3_endAt ∈ TBg := TB3 224 rfl rfl
set_option maxRecDepth 20000 in
theorem kw_808 : Cond.code yX3_endAt cX3_endAt 2 none ∈ TBg := TB3 225 rfl rfl
set_option maxRecDepth 20000 in
theorem kw_809 : Cond.methodLink "StatePress$Finder" 54 Lib.Math.min.name ∈ TBg := TB3 226 rfl rfl
set_option maxRecDepth 20000 in
theorem kw_810 : Cond.methodLink "StatePress$Packer" 127 yX3_find ∈ TBg := TB3 227 rfl rfl
set_option maxRecDepth 20000 in
theorem kw_811 : Cond.instanceMethod yX3_find ∈ TBg := TB3 228 rfl rfl
set_option maxRecDepth 20000 in
theorem kw_812 : Cond.selects "StatePress$Finder" yX3_find yX3_find ∈ TBg := TB3 229 rfl rfl
set_option maxRecDepth 20000 in
theorem kw_813 : Cond.code yX3_find cX3_find 2 none ∈ TBg := TB3 230 rfl rfl
set_option maxRecDepth 20000 in
theorem kw_814 : Cond.methodLink "StatePress$Finder" 86 yX3_search ∈ TBg := TB3 231 rfl rfl
set_option maxRecDepth 20000 in
theorem kw_816 : Cond.instanceMethod yX3_search ∈ TBg := TB3 233 rfl rfl
set_option maxRecDepth 20000 in
theorem kw_817 : Cond.code yX3_search cX3_search 6 none ∈ TBg := TB3 234 rfl rfl
set_option maxRecDepth 20000 in
theorem kw_818 : Cond.methodLink "StatePress$Finder" 93 Lib.Math.max.name ∈ TBg := TB3 235 rfl rfl
set_option maxRecDepth 20000 in
theorem kw_819 : Cond.methodLink "StatePress$Finder" 96 yX3_common ∈ TBg := TB3 236 rfl rfl
set_option maxRecDepth 20000 in
theorem kw_821 : Cond.instanceMethod yX3_common ∈ TBg := TB3 238 rfl rfl
set_option maxRecDepth 20000 in
theorem kw_822 : Cond.code yX3_common cX3_common 4 (some .int) ∈ TBg := TB3 239 rfl rfl
set_option maxRecDepth 20000 in
theorem kw_823 : Cond.methodLink "StatePress$Finder" 99 yX3_better ∈ TBg := TB4 0 rfl rfl
set_option maxRecDepth 20000 in
theorem kw_825 : Cond.instanceMethod yX3_better ∈ TBg := TB4 2 rfl rfl
set_option maxRecDepth 20000 in
theorem kw_826 : Cond.code yX3_better cX3_better 2 (some .boolean) ∈ TBg := TB4 3 rfl rfl
set_option maxRecDepth 20000 in
theorem kw_827 : Cond.methodLink "StatePress$Finder" 103 yX3_enough ∈ TBg := TB4 4 rfl rfl
set_option maxRecDepth 20000 in
theorem kw_829 : Cond.instanceMethod yX3_enough ∈ TBg := TB4 6 rfl rfl
set_option maxRecDepth 20000 in
theorem kw_830 : Cond.code yX3_enough cX3_enough 3 (some .boolean) ∈ TBg := TB4 7 rfl rfl
set_option maxRecDepth 20000 in
theorem kw_831 : Cond.methodLink "StatePress$Finder" 90 yX3_lookAhead ∈ TBg := TB4 8 rfl rfl
set_option maxRecDepth 20000 in
theorem kw_833 : Cond.instanceMethod yX3_lookAhead ∈ TBg := TB4 10 rfl rfl
set_option maxRecDepth 20000 in
theorem kw_834 : Cond.code yX3_lookAhead cX3_lookAhead 4 none ∈ TBg := TB4 11 rfl rfl
set_option maxRecDepth 20000 in
theorem kw_835 : Cond.methodLink "StatePress$Packer" 137 yX5_add ∈ TBg := TB4 12 rfl rfl
set_option maxRecDepth 20000 in
theorem kw_836 : Cond.instanceMethod yX5_add ∈ TBg := TB4 13 rfl rfl
set_option maxRecDepth 20000 in
theorem kw_837 : Cond.selects "StatePress$Literals" yX5_add yX5_add ∈ TBg := TB4 14 rfl rfl
set_option maxRecDepth 20000 in
theorem kw_838 : Cond.code yX5_add cX5_add 2 none ∈ TBg := TB4 15 rfl rfl
set_option maxRecDepth 20000 in
theorem kw_839 : Cond.methodLink "StatePress$Packer" 140 yX6_addSequence ∈ TBg := TB4 16 rfl rfl
set_option maxRecDepth 20000 in
theorem kw_841 : Cond.instanceMethod yX6_addSequence ∈ TBg := TB4 18 rfl rfl
set_option maxRecDepth 20000 in
theorem kw_842 : Cond.code yX6_addSequence cX6_addSequence 2 none ∈ TBg := TB4 19 rfl rfl
set_option maxRecDepth 20000 in
theorem kw_843 : Cond.methodLink "StatePress$Packer" 149 yX1_add ∈ TBg := TB4 20 rfl rfl
set_option maxRecDepth 20000 in
theorem kw_844 : Cond.instanceMethod yX1_add ∈ TBg := TB4 21 rfl rfl
set_option maxRecDepth 20000 in
theorem kw_845 : Cond.selects "StatePress$Column" yX1_add yX1_add ∈ TBg := TB4 22 rfl rfl
set_option maxRecDepth 20000 in
theorem kw_846 : Cond.code yX1_add cX1_add 3 none ∈ TBg := TB4 23 rfl rfl
set_option maxRecDepth 20000 in
theorem kw_847 : Cond.methodLink "StatePress$Packer" 153 yX6_tellDistance ∈ TBg := TB4 24 rfl rfl
set_option maxRecDepth 20000 in
theorem kw_849 : Cond.instanceMethod yX6_tellDistance ∈ TBg := TB4 26 rfl rfl
set_option maxRecDepth 20000 in
theorem kw_850 : Cond.code yX6_tellDistance cX6_tellDistance 5 (some .int) ∈ TBg := TB4 27 rfl rfl
set_option maxRecDepth 20000 in
theorem kw_851 : Cond.methodLink "StatePress$Packer" 156 Lib.Math.min.name ∈ TBg := TB4 28 rfl rfl
set_option maxRecDepth 20000 in
theorem kw_852 : Cond.methodLink "StatePress$Packer" 159 yX6_comeFirst ∈ TBg := TB4 29 rfl rfl
set_option maxRecDepth 20000 in
theorem kw_854 : Cond.instanceMethod yX6_comeFirst ∈ TBg := TB4 31 rfl rfl
set_option maxRecDepth 20000 in
theorem kw_855 : Cond.code yX6_comeFirst cX6_comeFirst 4 none ∈ TBg := TB4 32 rfl rfl
set_option maxRecDepth 20000 in
theorem kw_856 : Cond.methodLink "StatePress$Packer" 143 Lib.Math.max.name ∈ TBg := TB4 33 rfl rfl
set_option maxRecDepth 20000 in
theorem kw_857 : Cond.methodLink "StatePress$Packer" 183 yX5_areFew ∈ TBg := TB4 34 rfl rfl
set_option maxRecDepth 20000 in
theorem kw_858 : Cond.instanceMethod yX5_areFew ∈ TBg := TB4 35 rfl rfl
set_option maxRecDepth 20000 in
theorem kw_859 : Cond.selects "StatePress$Literals" yX5_areFew yX5_areFew ∈ TBg := TB4 36 rfl rfl
set_option maxRecDepth 20000 in
theorem kw_860 : Cond.code yX5_areFew cX5_areFew 1 (some .boolean) ∈ TBg := TB4 37 rfl rfl
set_option maxRecDepth 20000 in
theorem kw_861 : Cond.methodLink "StatePress$Packer" 187 yX5_renew ∈ TBg := TB4 38 rfl rfl
set_option maxRecDepth 20000 in
theorem kw_862 : Cond.instanceMethod yX5_renew ∈ TBg := TB4 39 rfl rfl
set_option maxRecDepth 20000 in
theorem kw_863 : Cond.selects "StatePress$Literals" yX5_renew yX5_renew ∈ TBg := TB4 40 rfl rfl
set_option maxRecDepth 20000 in
theorem kw_864 : Cond.code yX5_renew cX5_renew 1 (some .boolean) ∈ TBg := TB4 41 rfl rfl
set_option maxRecDepth 20000 in
theorem kw_865 : Cond.methodLink "StatePress$Literals" 63 yX7_drop ∈ TBg := TB4 42 rfl rfl
set_option maxRecDepth 20000 in
theorem kw_866 : Cond.methodLink "StatePress$Literals" 66 yX4_settle ∈ TBg := TB4 43 rfl rfl
set_option maxRecDepth 20000 in
theorem kw_867 : Cond.instanceMethod yX4_settle ∈ TBg := TB4 44 rfl rfl
set_option maxRecDepth 20000 in
theorem kw_868 : Cond.selects "StatePress$Knots" yX4_settle yX4_settle ∈ TBg := TB4 45 rfl rfl
set_option maxRecDepth 20000 in
theorem kw_869 : Cond.code yX4_settle cX4_settle 6 none ∈ TBg := TB4 46 rfl rfl
set_option maxRecDepth 20000 in
theorem kw_870 : Cond.methodLink "StatePress$Knots" 27 Lib.Math.min.name ∈ TBg := TB4 47 rfl rfl
set_option maxRecDepth 20000 in
theorem kw_871 : Cond.methodLink "StatePress$Knots" 33 arraycopyName ∈ TBg := TB4 48 rfl rfl
set_option maxRecDepth 20000 in
theorem kw_872 : Cond.methodLink "StatePress$Knots" 39 yX4_sort ∈ TBg := TB4 49 rfl rfl
set_option maxRecDepth 20000 in
theorem kw_874 : Cond.instanceMethod yX4_sort ∈ TBg := TB4 51 rfl rfl
set_option maxRecDepth 20000 in
theorem kw_875 : Cond.code yX4_sort cX4_sort 4 (some .int) ∈ TBg := TB4 52 rfl rfl
set_option maxRecDepth 20000 in
theorem kw_876 : Cond.methodLink "StatePress$Knots" 43 yX4_join ∈ TBg := TB4 53 rfl rfl
set_option maxRecDepth 20000 in
theorem kw_878 : Cond.instanceMethod yX4_join ∈ TBg := TB4 55 rfl rfl
set_option maxRecDepth 20000 in
theorem kw_879 : Cond.code yX4_join cX4_join 8 none ∈ TBg := TB4 56 rfl rfl
set_option maxRecDepth 20000 in
theorem kw_880 : Cond.methodLink "StatePress$Knots" 52 yX4_measure ∈ TBg := TB4 57 rfl rfl
set_option maxRecDepth 20000 in
theorem kw_882 : Cond.instanceMethod yX4_measure ∈ TBg := TB4 59 rfl rfl
set_option maxRecDepth 20000 in
theorem kw_883 : Cond.code yX4_measure cX4_measure 6 (some .int) ∈ TBg := TB4 60 rfl rfl
set_option maxRecDepth 20000 in
theorem kw_884 : Cond.methodLink "StatePress$Knots" 62 yJ7_fill_53178 ∈ TBg := TB4 61 rfl rfl
set_option maxRecDepth 20000 in
theorem kw_885 : Cond.methodLink "StatePress$Knots" 68 Lib.Math.max.name ∈ TBg := TB4 62 rfl rfl
set_option maxRecDepth 20000 in
theorem kw_886 : Cond.methodLink "StatePress$Knots" 56 yX4_halve ∈ TBg := TB4 63 rfl rfl
set_option maxRecDepth 20000 in
theorem kw_888 : Cond.instanceMethod yX4_halve ∈ TBg := TB4 65 rfl rfl
set_option maxRecDepth 20000 in
theorem kw_889 : Cond.code yX4_halve cX4_halve 2 none ∈ TBg := TB4 66 rfl rfl
set_option maxRecDepth 20000 in
theorem kw_890 : Cond.methodLink "StatePress$Knots" 59 yX0_settle ∈ TBg := TB4 67 rfl rfl
set_option maxRecDepth 20000 in
theorem kw_891 : Cond.methodLink "StatePress$Literals" 70 yX2_describe ∈ TBg := TB4 68 rfl rfl
set_option maxRecDepth 20000 in
theorem kw_892 : Cond.instanceMethod yX2_describe ∈ TBg := TB4 69 rfl rfl
set_option maxRecDepth 20000 in
theorem kw_893 : Cond.selects "StatePress$Description" yX2_describe yX2_describe ∈ TBg := TB4 70 rfl rfl
set_option maxRecDepth 20000 in
theorem kw_894 : Cond.code yX2_describe cX2_describe 7 (some .boolean) ∈ TBg := TB4 71 rfl rfl
set_option maxRecDepth 20000 in
theorem kw_895 : Cond.methodLink "StatePress$Description" 39 yX2_weigh ∈ TBg := TB4 72 rfl rfl
set_option maxRecDepth 20000 in
theorem kw_897 : Cond.instanceMethod yX2_weigh ∈ TBg := TB4 74 rfl rfl
set_option maxRecDepth 20000 in
theorem kw_898 : Cond.code yX2_weigh cX2_weigh 4 (some .int) ∈ TBg := TB4 75 rfl rfl
set_option maxRecDepth 20000 in
theorem kw_899 : Cond.methodLink "StatePress$Description" 84 yX0_weight ∈ TBg := TB4 76 rfl rfl
set_option maxRecDepth 20000 in
theorem kw_900 : Cond.methodLink "StatePress$Description" 43 yX8_weigh ∈ TBg := TB4 77 rfl rfl
set_option maxRecDepth 20000 in
theorem kw_901 : Cond.instanceMethod yX8_weigh ∈ TBg := TB4 78 rfl rfl
set_option maxRecDepth 20000 in
theorem kw_902 : Cond.selects "StatePress$Share" yX8_weigh yX8_weigh ∈ TBg := TB4 79 rfl rfl
set_option maxRecDepth 20000 in
theorem kw_903 : Cond.code yX8_weigh cX8_weigh 7 none ∈ TBg := TB4 80 rfl rfl
set_option maxRecDepth 20000 in
theorem kw_904 : Cond.methodLink "StatePress$Share" 69 yX8_giveMore ∈ TBg := TB4 81 rfl rfl
set_option maxRecDepth 20000 in
theorem kw_906 : Cond.instanceMethod yX8_giveMore ∈ TBg := TB4 83 rfl rfl
set_option maxRecDepth 20000 in
theorem kw_907 : Cond.code yX8_giveMore cX8_giveMore 6 none ∈ TBg := TB4 84 rfl rfl
set_option maxRecDepth 20000 in
theorem kw_908 : Cond.methodLink "StatePress$Share" 73 yX8_takeAway ∈ TBg := TB4 85 rfl rfl
set_option maxRecDepth 20000 in
theorem kw_910 : Cond.instanceMethod yX8_takeAway ∈ TBg := TB4 87 rfl rfl
set_option maxRecDepth 20000 in
theorem kw_911 : Cond.code yX8_takeAway cX8_takeAway 5 none ∈ TBg := TB4 88 rfl rfl
set_option maxRecDepth 20000 in
theorem kw_912 : Cond.methodLink "StatePress$Description" 46 yX8_spread ∈ TBg := TB4 89 rfl rfl
set_option maxRecDepth 20000 in
theorem kw_913 : Cond.methodLink "StatePress$Description" 49 yX7_drop ∈ TBg := TB4 90 rfl rfl
set_option maxRecDepth 20000 in
theorem kw_914 : Cond.methodLink "StatePress$Description" 52 yX8_tell ∈ TBg := TB4 91 rfl rfl
set_option maxRecDepth 20000 in
theorem kw_915 : Cond.instanceMethod yX8_tell ∈ TBg := TB4 92 rfl rfl
set_option maxRecDepth 20000 in
theorem kw_916 : Cond.selects "StatePress$Share" yX8_tell yX8_tell ∈ TBg := TB4 93 rfl rfl
set_option maxRecDepth 20000 in
theorem kw_917 : Cond.code yX8_tell cX8_tell 9 none ∈ TBg := TB4 94 rfl rfl
set_option maxRecDepth 20000 in
theorem kw_918 : Cond.methodLink "StatePress$Share" 99 yX7_addBits ∈ TBg := TB4 95 rfl rfl
set_option maxRecDepth 20000 in
theorem kw_919 : Cond.instanceMethod yX7_addBits ∈ TBg := TB4 96 rfl rfl
set_option maxRecDepth 20000 in
theorem kw_920 : Cond.selects "StatePress$Row" yX7_addBits yX7_addBits ∈ TBg := TB4 97 rfl rfl
set_option maxRecDepth 20000 in
theorem kw_921 : Cond.code yX7_addBits cX7_addBits 3 none ∈ TBg := TB4 98 rfl rfl
set_option maxRecDepth 20000 in
theorem kw_922 : Cond.methodLink "StatePress$Share" 104 yX8_zerosFrom ∈ TBg := TB4 99 rfl rfl
set_option maxRecDepth 20000 in
theorem kw_924 : Cond.instanceMethod yX8_zerosFrom ∈ TBg := TB4 101 rfl rfl
set_option maxRecDepth 20000 in
theorem kw_925 : Cond.code yX8_zerosFrom cX8_zerosFrom 4 (some .int) ∈ TBg := TB4 102 rfl rfl
set_option maxRecDepth 20000 in
theorem kw_926 : Cond.methodLink "StatePress$Share" 107 yX7_closeBits ∈ TBg := TB4 103 rfl rfl
set_option maxRecDepth 20000 in
theorem kw_927 : Cond.instanceMethod yX7_closeBits ∈ TBg := TB4 104 rfl rfl
set_option maxRecDepth 20000 in
theorem kw_928 : Cond.selects "StatePress$Row" yX7_closeBits yX7_closeBits ∈ TBg := TB4 105 rfl rfl
set_option maxRecDepth 20000 in
theorem kw_929 : Cond.code yX7_closeBits cX7_closeBits 1 none ∈ TBg := TB4 106 rfl rfl
set_option maxRecDepth 20000 in
theorem kw_930 : Cond.methodLink "StatePress$Row" 51 yX7_addBits ∈ TBg := TB4 107 rfl rfl
set_option maxRecDepth 20000 in
theorem kw_931 : Cond.methodLink "StatePress$Description" 56 yX2_putTwoStates ∈ TBg := TB4 108 rfl rfl
set_option maxRecDepth 20000 in
theorem kw_933 : Cond.instanceMethod yX2_putTwoStates ∈ TBg := TB4 110 rfl rfl
set_option maxRecDepth 20000 in
theorem kw_934 : Cond.code yX2_putTwoStates cX2_putTwoStates 8 none ∈ TBg := TB4 111 rfl rfl
set_option maxRecDepth 20000 in
theorem kw_935 : Cond.methodLink "StatePress$Description" 88 yX8_lowest ∈ TBg := TB4 112 rfl rfl
set_option maxRecDepth 20000 in
theorem kw_936 : Cond.instanceMethod yX8_lowest ∈ TBg := TB4 113 rfl rfl
set_option maxRecDepth 20000 in
theorem kw_937 : Cond.selects "StatePress$Share" yX8_lowest yX8_lowest ∈ TBg := TB4 114 rfl rfl
set_option maxRecDepth 20000 in
theorem kw_938 : Cond.code yX8_lowest cX8_lowest 3 (some .int) ∈ TBg := TB4 115 rfl rfl
set_option maxRecDepth 20000 in
theorem kw_939 : Cond.methodLink "StatePress$Description" 91 yX8_width ∈ TBg := TB4 116 rfl rfl
set_option maxRecDepth 20000 in
theorem kw_940 : Cond.instanceMethod yX8_width ∈ TBg := TB4 117 rfl rfl
set_option maxRecDepth 20000 in
theorem kw_941 : Cond.selects "StatePress$Share" yX8_width yX8_width ∈ TBg := TB4 118 rfl rfl
set_option maxRecDepth 20000 in
theorem kw_942 : Cond.code yX8_width cX8_width 4 (some .int) ∈ TBg := TB4 119 rfl rfl
set_option maxRecDepth 20000 in
theorem kw_943 : Cond.methodLink "StatePress$Description" 95 yX7_addBits ∈ TBg := TB4 120 rfl rfl
set_option maxRecDepth 20000 in
theorem kw_944 : Cond.methodLink "StatePress$Description" 98 yX8_before ∈ TBg := TB4 121 rfl rfl
set_option maxRecDepth 20000 in
theorem kw_945 : Cond.instanceMethod yX8_before ∈ TBg := TB4 122 rfl rfl
set_option maxRecDepth 20000 in
theorem kw_946 : Cond.selects "StatePress$Share" yX8_before yX8_before ∈ TBg := TB4 123 rfl rfl
set_option maxRecDepth 20000 in
theorem kw_947 : Cond.code yX8_before cX8_before 5 (some .int) ∈ TBg := TB4 124 rfl rfl
set_option maxRecDepth 20000 in
theorem kw_948 : Cond.methodLink "StatePress$Description" 105 yX7_endStream ∈ TBg := TB4 125 rfl rfl
set_option maxRecDepth 20000 in
theorem kw_949 : Cond.instanceMethod yX7_endStream ∈ TBg := TB4 126 rfl rfl
set_option maxRecDepth 20000 in
theorem kw_950 : Cond.selects "StatePress$Row" yX7_endStream yX7_endStream ∈ TBg := TB4 127 rfl rfl
set_option maxRecDepth 20000 in
theorem kw_951 : Cond.code yX7_endStream cX7_endStream 1 none ∈ TBg := TB4 128 rfl rfl
set_option maxRecDepth 20000 in
theorem kw_952 : Cond.methodLink "StatePress$Description" 64 yX2_putDirect ∈ TBg := TB4 129 rfl rfl
set_option maxRecDepth 20000 in
theorem kw_954 : Cond.instanceMethod yX2_putDirect ∈ TBg := TB4 131 rfl rfl
set_option maxRecDepth 20000 in
theorem kw_955 : Cond.code yX2_putDirect cX2_putDirect 4 none ∈ TBg := TB4 132 rfl rfl
set_option maxRecDepth 20000 in
theorem kw_956 : Cond.methodLink "StatePress$Description" 67 yX7_put ∈ TBg := TB4 133 rfl rfl
set_option maxRecDepth 20000 in
theorem kw_957 : Cond.methodLink "StatePress$Description" 70 yX7_putRow ∈ TBg := TB4 134 rfl rfl
set_option maxRecDepth 20000 in
theorem kw_958 : Cond.methodLink "StatePress$Packer" 190 yX1_choose ∈ TBg := TB4 135 rfl rfl
set_option maxRecDepth 20000 in
theorem kw_959 : Cond.instanceMethod yX1_choose ∈ TBg := TB4 136 rfl rfl
set_option maxRecDepth 20000 in
theorem kw_960 : Cond.selects "StatePress$Column" yX1_choose yX1_choose ∈ TBg := TB4 137 rfl rfl
set_option maxRecDepth 20000 in
theorem kw_961 : Cond.code yX1_choose cX1_choose 2 (some .int) ∈ TBg := TB4 138 rfl rfl
set_option maxRecDepth 20000 in
theorem kw_962 : Cond.constant "StatePress$Column" 86 1073741824 ∈ TBg := TB4 139 rfl rfl
set_option maxRecDepth 20000 in
theorem kw_963 : Cond.methodLink "StatePress$Column" 90 yX8_canTell ∈ TBg := TB4 140 rfl rfl
set_option maxRecDepth 20000 in
theorem kw_964 : Cond.instanceMethod yX8_canTell ∈ TBg := TB4 141 rfl rfl
set_option maxRecDepth 20000 in
theorem kw_965 : Cond.selects "StatePress$Share" yX8_canTell yX8_canTell ∈ TBg := TB4 142 rfl rfl
set_option maxRecDepth 20000 in
theorem kw_966 : Cond.code yX8_canTell cX8_canTell 3 (some .boolean) ∈ TBg := TB4 143 rfl rfl
set_option maxRecDepth 20000 in
theorem kw_967 : Cond.methodLink "StatePress$Column" 94 yX8_rowBits ∈ TBg := TB4 144 rfl rfl
set_option maxRecDepth 20000 in
theorem kw_968 : Cond.instanceMethod yX8_rowBits ∈ TBg := TB4 145 rfl rfl
set_option maxRecDepth 20000 in
theorem kw_969 : Cond.selects "StatePress$Share" yX8_rowBits yX8_rowBits ∈ TBg := TB4 146 rfl rfl
set_option maxRecDepth 20000 in
theorem kw_970 : Cond.code yX8_rowBits cX8_rowBits 7 (some .int) ∈ TBg := TB4 147 rfl rfl
set_option maxRecDepth 20000 in
theorem kw_971 : Cond.methodLink "StatePress$Share" 86 yX8_lowest ∈ TBg := TB4 148 rfl rfl
set_option maxRecDepth 20000 in
theorem kw_972 : Cond.methodLink "StatePress$Share" 89 yX8_width ∈ TBg := TB4 149 rfl rfl
set_option maxRecDepth 20000 in
theorem kw_973 : Cond.methodLink "StatePress$Share" 92 yX8_before ∈ TBg := TB4 150 rfl rfl
set_option maxRecDepth 20000 in
theorem kw_974 : Cond.methodLink "StatePress$Column" 98 yX1_consider ∈ TBg := TB4 151 rfl rfl
set_option maxRecDepth 20000 in
theorem kw_976 : Cond.instanceMethod yX1_consider ∈ TBg := TB4 153 rfl rfl
set_option maxRecDepth 20000 in
theorem kw_977 : Cond.code yX1_consider cX1_consider 4 none ∈ TBg := TB4 154 rfl rfl
set_option maxRecDepth 20000 in
theorem kw_978 : Cond.methodLink "StatePress$Column" 102 yX1_orderBelow ∈ TBg := TB4 155 rfl rfl
set_option maxRecDepth 20000 in
theorem kw_980 : Cond.instanceMethod yX1_orderBelow ∈ TBg := TB4 157 rfl rfl
set_option maxRecDepth 20000 in
theorem kw_981 : Cond.code yX1_orderBelow cX1_orderBelow 5 (some .int) ∈ TBg := TB4 158 rfl rfl
set_option maxRecDepth 20000 in
theorem kw_982 : Cond.methodLink "StatePress$Column" 122 yX8_weigh ∈ TBg := TB4 159 rfl rfl
set_option maxRecDepth 20000 in
theorem kw_983 : Cond.methodLink "StatePress$Column" 125 yX7_drop ∈ TBg := TB4 160 rfl rfl
set_option maxRecDepth 20000 in
theorem kw_984 : Cond.methodLink "StatePress$Column" 128 yX8_tell ∈ TBg := TB4 161 rfl rfl
set_option maxRecDepth 20000 in
theorem kw_985 : Cond.methodLink "StatePress$Column" 133 yX8_spread ∈ TBg := TB4 162 rfl rfl
set_option maxRecDepth 20000 in
theorem kw_986 : Cond.methodLink "StatePress$Column" 136 Lib.Math.min.name ∈ TBg := TB4 163 rfl rfl
set_option maxRecDepth 20000 in
theorem kw_987 : Cond.methodLink "StatePress$Column" 116 yX8_beAlone ∈ TBg := TB4 164 rfl rfl
set_option maxRecDepth 20000 in
theorem kw_988 : Cond.instanceMethod yX8_beAlone ∈ TBg := TB4 165 rfl rfl
set_option maxRecDepth 20000 in
theorem kw_989 : Cond.selects "StatePress$Share" yX8_beAlone yX8_beAlone ∈ TBg := TB4 166 rfl rfl
set_option maxRecDepth 20000 in
theorem kw_990 : Cond.code yX8_beAlone cX8_beAlone 2 none ∈ TBg := TB4 167 rfl rfl
set_option maxRecDepth 20000 in
theorem kw_991 : Cond.methodLink "StatePress$Column" 119 yX1_form ∈ TBg := TB4 168 rfl rfl
set_option maxRecDepth 20000 in
theorem kw_993 : Cond.instanceMethod yX1_form ∈ TBg := TB4 170 rfl rfl
set_option maxRecDepth 20000 in
theorem kw_994 : Cond.code yX1_form cX1_form 2 none ∈ TBg := TB4 171 rfl rfl
set_option maxRecDepth 20000 in
theorem kw_995 : Cond.methodLink "StatePress$Packer" 194 yX5_choose ∈ TBg := TB4 172 rfl rfl
set_option maxRecDepth 20000 in
theorem kw_996 : Cond.instanceMethod yX5_choose ∈ TBg := TB4 173 rfl rfl
set_option maxRecDepth 20000 in
theorem kw_997 : Cond.selects "StatePress$Literals" yX5_choose yX5_choose ∈ TBg := TB4 174 rfl rfl
set_option maxRecDepth 20000 in
theorem kw_998 : Cond.code yX5_choose cX5_choose 2 (some .int) ∈ TBg := TB4 175 rfl rfl
set_option maxRecDepth 20000 in
theorem kw_999 : Cond.methodLink "StatePress$Literals" 79 yX5_plainHead ∈ TBg := TB4 176 rfl rfl
set_option maxRecDepth 20000 in
theorem kw_1001 : Cond.instanceMethod yX5_plainHead ∈ TBg := TB4 178 rfl rfl
set_option maxRecDepth 20000 in
theorem kw_1002 : Cond.code yX5_plainHead cX5_plainHead 1 (some .int) ∈ TBg := TB4 179 rfl rfl
set_option maxRecDepth 20000 in
theorem kw_1003 : Cond.methodLink "StatePress$Literals" 86 yX0_canTell ∈ TBg := TB4 180 rfl rfl
set_option maxRecDepth 20000 in
theorem kw_1004 : Cond.instanceMethod yX0_canTell ∈ TBg := TB4 181 rfl rfl
set_option maxRecDepth 20000 in
theorem kw_1005 : Cond.selects "StatePress$Codes" yX0_canTell yX0_canTell ∈ TBg := TB4 182 rfl rfl
set_option maxRecDepth 20000 in
theorem kw_1006 : Cond.code yX0_canTell cX0_canTell 3 (some .boolean) ∈ TBg := TB4 183 rfl rfl
set_option maxRecDepth 20000 in
theorem kw_1007 : Cond.methodLink "StatePress$Literals" 90 yX5_consider ∈ TBg := TB4 184 rfl rfl
set_option maxRecDepth 20000 in
theorem kw_1009 : Cond.instanceMethod yX5_consider ∈ TBg := TB4 186 rfl rfl
set_option maxRecDepth 20000 in
theorem kw_1010 : Cond.code yX5_consider cX5_consider 6 none ∈ TBg := TB4 187 rfl rfl
set_option maxRecDepth 20000 in
theorem kw_1011 : Cond.methodLink "StatePress$Literals" 95 yX5_streamBytes ∈ TBg := TB4 188 rfl rfl
set_option maxRecDepth 20000 in
theorem kw_1013 : Cond.instanceMethod yX5_streamBytes ∈ TBg := TB4 190 rfl rfl
set_option maxRecDepth 20000 in
theorem kw_1014 : Cond.code yX5_streamBytes cX5_streamBytes 5 (some .int) ∈ TBg := TB4 191 rfl rfl
set_option maxRecDepth 20000 in
theorem kw_1015 : Cond.methodLink "StatePress$Literals" 111 yX0_streamBytes ∈ TBg := TB4 192 rfl rfl
set_option maxRecDepth 20000 in
theorem kw_1016 : Cond.instanceMethod yX0_streamBytes ∈ TBg := TB4 193 rfl rfl
set_option maxRecDepth 20000 in
theorem kw_1017 : Cond.selects "StatePress$Codes" yX0_streamBytes yX0_streamBytes ∈ TBg := TB4 194 rfl rfl
set_option maxRecDepth 20000 in
theorem kw_1018 : Cond.code yX0_streamBytes cX0_streamBytes 6 (some .int) ∈ TBg := TB4 195 rfl rfl
set_option maxRecDepth 20000 in
theorem kw_1019 : Cond.methodLink "StatePress$Literals" 114 Lib.Math.min.name ∈ TBg := TB4 196 rfl rfl
set_option maxRecDepth 20000 in
theorem kw_1020 : Cond.methodLink "StatePress$Literals" 99 yX5_shape ∈ TBg := TB4 197 rfl rfl
set_option maxRecDepth 20000 in
theorem kw_1022 : Cond.instanceMethod yX5_shape ∈ TBg := TB4 199 rfl rfl
set_option maxRecDepth 20000 in
theorem kw_1023 : Cond.code yX5_shape cX5_shape 2 (some .int) ∈ TBg := TB4 200 rfl rfl
set_option maxRecDepth 20000 in
theorem kw_1024 : Cond.methodLink "StatePress$Literals" 103 yX5_codedHead ∈ TBg := TB4 201 rfl rfl
set_option maxRecDepth 20000 in
theorem kw_1025 : Cond.static yX5_codedHead ∈ TBg := TB4 202 rfl rfl
set_option maxRecDepth 20000 in
theorem kw_1026 : Cond.code yX5_codedHead cX5_codedHead 1 (some .int) ∈ TBg := TB4 203 rfl rfl
set_option maxRecDepth 20000 in
theorem kw_1027 : Cond.methodLink "StatePress$Packer" 197 yX6_sequenceBytes ∈ TBg := TB4 204 rfl rfl
set_option maxRecDepth 20000 in
theorem kw_1029 : Cond.instanceMethod yX6_sequenceBytes ∈ TBg := TB4 206 rfl rfl
set_option maxRecDepth 20000 in
theorem kw_1030 : Cond.code yX6_sequenceBytes cX6_sequenceBytes 2 (some .int) ∈ TBg := TB4 207 rfl rfl
set_option maxRecDepth 20000 in
theorem kw_1031 : Cond.methodLink "StatePress$Packer" 215 yX6_countBytes ∈ TBg := TB4 208 rfl rfl
set_option maxRecDepth 20000 in
theorem kw_1033 : Cond.instanceMethod yX6_countBytes ∈ TBg := TB4 210 rfl rfl
set_option maxRecDepth 20000 in
theorem kw_1034 : Cond.code yX6_countBytes cX6_countBytes 1 (some .int) ∈ TBg := TB4 211 rfl rfl
set_option maxRecDepth 20000 in
theorem kw_1035 : Cond.constantLong "StatePress$Packer" 200 4 ∈ TBg := TB4 212 rfl rfl
set_option maxRecDepth 20000 in
theorem kw_1036 : Cond.methodLink "StatePress$Packer" 202 yX5_put ∈ TBg := TB4 213 rfl rfl
set_option maxRecDepth 20000 in
theorem kw_1037 : Cond.instanceMethod yX5_put ∈ TBg := TB4 214 rfl rfl
set_option maxRecDepth 20000 in
theorem kw_1038 : Cond.selects "StatePress$Literals" yX5_put yX5_put ∈ TBg := TB4 215 rfl rfl
set_option maxRecDepth 20000 in
theorem kw_1039 : Cond.code yX5_put cX5_put 5 none ∈ TBg := TB4 216 rfl rfl
set_option maxRecDepth 20000 in
theorem kw_1040 : Cond.methodLink "StatePress$Literals" 120 yX5_putPlain ∈ TBg := TB4 217 rfl rfl
set_option maxRecDepth 20000 in
theorem kw_1042 : Cond.instanceMethod yX5_putPlain ∈ TBg := TB4 219 rfl rfl
set_option maxRecDepth 20000 in
theorem kw_1043 : Cond.code yX5_putPlain cX5_putPlain 3 none ∈ TBg := TB4 220 rfl rfl
set_option maxRecDepth 20000 in
theorem kw_1044 : Cond.methodLink "StatePress$Literals" 126 yX7_putNumber ∈ TBg := TB4 221 rfl rfl
set_option maxRecDepth 20000 in
theorem kw_1045 : Cond.methodLink "StatePress$Literals" 137 yX7_putCells ∈ TBg := TB4 222 rfl rfl
set_option maxRecDepth 20000 in
theorem kw_1046 : Cond.constantLong "StatePress$Literals" 124 16 ∈ TBg := TB4 223 rfl rfl
set_option maxRecDepth 20000 in
theorem kw_1047 : Cond.methodLink "StatePress$Literals" 130 yX5_putDescription ∈ TBg := TB4 224 rfl rfl
set_option maxRecDepth 20000 in
theorem kw_1048 : Cond.instanceMethod yX5_putDescription ∈ TBg := TB4 225 rfl rfl
set_option maxRecDepth 20000 in
theorem kw_1049 : Cond.selects "StatePress$Literals" yX5_putDescription yX5_putDescription ∈ TBg := TB4 226 rfl rfl
set_option maxRecDepth 20000 in
theorem kw_1050 : Cond.code yX5_putDescription cX5_putDescription 2 none ∈ TBg := TB4 227 rfl rfl
set_option maxRecDepth 20000 in
theorem kw_1051 : Cond.methodLink "StatePress$Literals" 141 yX7_putRow ∈ TBg := TB4 228 rfl rfl
set_option maxRecDepth 20000 in
theorem kw_1052 : Cond.methodLink "StatePress$Literals" 133 yX5_putStreams ∈ TBg := TB4 229 rfl rfl
set_option maxRecDepth 20000 in
theorem kw_1054 : Cond.instanceMethod yX5_putStreams ∈ TBg := TB4 231 rfl rfl
set_option maxRecDepth 20000 in
theorem kw_1055 : Cond.code yX5_putStreams cX5_putStreams 5 none ∈ TBg := TB4 232 rfl rfl
set_option maxRecDepth 20000 in
theorem kw_1056 : Cond.methodLink "StatePress$Literals" 145 yX0_putStream ∈ TBg := TB4 233 rfl rfl
set_option maxRecDepth 20000 in
theorem kw_1057 : Cond.instanceMethod yX0_putStream ∈ TBg := TB4 234 rfl rfl
set_option maxRecDepth 20000 in
theorem kw_1058 : Cond.selects "StatePress$Codes" yX0_putStream yX0_putStream ∈ TBg := TB4 235 rfl rfl
set_option maxRecDepth 20000 in
theorem kw_1059 : Cond.code yX0_putStream cX0_putStream 7 none ∈ TBg := TB4 236 rfl rfl
set_option maxRecDepth 20000 in
theorem kw_1060 : Cond.methodLink "StatePress$Codes" 51 yX7_addBits ∈ TBg := TB4 237 rfl rfl
set_option maxRecDepth 20000 in
theorem kw_1061 : Cond.methodLink "StatePress$Codes" 57 yX7_endStream ∈ TBg := TB4 238 rfl rfl
set_option maxRecDepth 20000 in
theorem kw_1062 : Cond.methodLink "StatePress$Packer" 205 yX6_putSequences ∈ TBg := TB4 239 rfl rfl
set_option maxRecDepth 20000 in
theorem kw_1064 : Cond.instanceMethod yX6_putSequences ∈ TBg := TB5 1 rfl rfl
set_option maxRecDepth 20000 in
theorem kw_1065 : Cond.code yX6_putSequences cX6_putSequences 3 none ∈ TBg := TB5 2 rfl rfl
set_option maxRecDepth 20000 in
theorem kw_1066 : Cond.methodLink "StatePress$Packer" 218 yX6_putCount ∈ TBg := TB5 3 rfl rfl
set_option maxRecDepth 20000 in
theorem kw_1068 : Cond.instanceMethod yX6_putCount ∈ TBg := TB5 5 rfl rfl
set_option maxRecDepth 20000 in
theorem kw_1069 : Cond.code yX6_putCount cX6_putCount 3 none ∈ TBg := TB5 6 rfl rfl
set_option maxRecDepth 20000 in
theorem kw_1070 : Cond.methodLink "StatePress$Packer" 224 yX1_putTable ∈ TBg := TB5 7 rfl rfl
set_option maxRecDepth 20000 in
theorem kw_1071 : Cond.instanceMethod yX1_putTable ∈ TBg := TB5 8 rfl rfl
set_option maxRecDepth 20000 in
theorem kw_1072 : Cond.selects "StatePress$Column" yX1_putTable yX1_putTable ∈ TBg := TB5 9 rfl rfl
set_option maxRecDepth 20000 in
theorem kw_1073 : Cond.code yX1_putTable cX1_putTable 2 none ∈ TBg := TB5 10 rfl rfl
set_option maxRecDepth 20000 in
theorem kw_1074 : Cond.methodLink "StatePress$Column" 139 yX7_put ∈ TBg := TB5 11 rfl rfl
set_option maxRecDepth 20000 in
theorem kw_1075 : Cond.methodLink "StatePress$Column" 142 yX7_putRow ∈ TBg := TB5 12 rfl rfl
set_option maxRecDepth 20000 in
theorem kw_1076 : Cond.methodLink "StatePress$Packer" 227 yX1_beginStates ∈ TBg := TB5 13 rfl rfl
set_option maxRecDepth 20000 in
theorem kw_1077 : Cond.instanceMethod yX1_beginStates ∈ TBg := TB5 14 rfl rfl
set_option maxRecDepth 20000 in
theorem kw_1078 : Cond.selects "StatePress$Column" yX1_beginStates yX1_beginStates ∈ TBg := TB5 15 rfl rfl
set_option maxRecDepth 20000 in
theorem kw_1079 : Cond.code yX1_beginStates cX1_beginStates 1 none ∈ TBg := TB5 16 rfl rfl
set_option maxRecDepth 20000 in
theorem kw_1080 : Cond.methodLink "StatePress$Column" 146 yX8_lowest ∈ TBg := TB5 17 rfl rfl
set_option maxRecDepth 20000 in
theorem kw_1081 : Cond.methodLink "StatePress$Packer" 230 yX6_putAdditional ∈ TBg := TB5 18 rfl rfl
set_option maxRecDepth 20000 in
theorem kw_1083 : Cond.instanceMethod yX6_putAdditional ∈ TBg := TB5 20 rfl rfl
set_option maxRecDepth 20000 in
theorem kw_1084 : Cond.code yX6_putAdditional cX6_putAdditional 3 none ∈ TBg := TB5 21 rfl rfl
set_option maxRecDepth 20000 in
theorem kw_1085 : Cond.methodLink "StatePress$Packer" 243 yX1_putAdditional ∈ TBg := TB5 22 rfl rfl
set_option maxRecDepth 20000 in
theorem kw_1086 : Cond.instanceMethod yX1_putAdditional ∈ TBg := TB5 23 rfl rfl
set_option maxRecDepth 20000 in
theorem kw_1087 : Cond.selects "StatePress$Column" yX1_putAdditional yX1_putAdditional ∈ TBg := TB5 24 rfl rfl
set_option maxRecDepth 20000 in
theorem kw_1088 : Cond.code yX1_putAdditional cX1_putAdditional 4 none ∈ TBg := TB5 25 rfl rfl
set_option maxRecDepth 20000 in
theorem kw_1089 : Cond.methodLink "StatePress$Column" 155 yX7_addBits ∈ TBg := TB5 26 rfl rfl
set_option maxRecDepth 20000 in
theorem kw_1090 : Cond.methodLink "StatePress$Packer" 234 yX1_putState ∈ TBg := TB5 27 rfl rfl
set_option maxRecDepth 20000 in
theorem kw_1091 : Cond.instanceMethod yX1_putState ∈ TBg := TB5 28 rfl rfl
set_option maxRecDepth 20000 in
theorem kw_1092 : Cond.selects "StatePress$Column" yX1_putState yX1_putState ∈ TBg := TB5 29 rfl rfl
set_option maxRecDepth 20000 in
theorem kw_1093 : Cond.code yX1_putState cX1_putState 5 none ∈ TBg := TB5 30 rfl rfl
set_option maxRecDepth 20000 in
theorem kw_1094 : Cond.methodLink "StatePress$Column" 152 yX8_width ∈ TBg := TB5 31 rfl rfl
set_option maxRecDepth 20000 in
theorem kw_1095 : Cond.methodLink "StatePress$Column" 158 yX8_before ∈ TBg := TB5 32 rfl rfl
set_option maxRecDepth 20000 in
theorem kw_1096 : Cond.methodLink "StatePress$Packer" 237 yX1_endStates ∈ TBg := TB5 33 rfl rfl
set_option maxRecDepth 20000 in
theorem kw_1097 : Cond.instanceMethod yX1_endStates ∈ TBg := TB5 34 rfl rfl
set_option maxRecDepth 20000 in
theorem kw_1098 : Cond.selects "StatePress$Column" yX1_endStates yX1_endStates ∈ TBg := TB5 35 rfl rfl
set_option maxRecDepth 20000 in
theorem kw_1099 : Cond.code yX1_endStates cX1_endStates 2 none ∈ TBg := TB5 36 rfl rfl
set_option maxRecDepth 20000 in
theorem kw_1100 : Cond.methodLink "StatePress$Packer" 240 yX7_endStream ∈ TBg := TB5 37 rfl rfl
set_option maxRecDepth 20000 in
theorem kw_1101 : Cond.methodLink "StatePress$Packer" 208 yX6_keep ∈ TBg := TB5 38 rfl rfl
set_option maxRecDepth 20000 in
theorem kw_1103 : Cond.instanceMethod yX6_keep ∈ TBg := TB5 40 rfl rfl
set_option maxRecDepth 20000 in
theorem kw_1104 : Cond.code yX6_keep cX6_keep 1 none ∈ TBg := TB5 41 rfl rfl
set_option maxRecDepth 20000 in
theorem kw_1105 : Cond.methodLink "StatePress$Packer" 244 yX5_keep ∈ TBg := TB5 42 rfl rfl
set_option maxRecDepth 20000 in
theorem kw_1106 : Cond.instanceMethod yX5_keep ∈ TBg := TB5 43 rfl rfl
set_option maxRecDepth 20000 in
theorem kw_1107 : Cond.selects "StatePress$Literals" yX5_keep yX5_keep ∈ TBg := TB5 44 rfl rfl
set_option maxRecDepth 20000 in
theorem kw_1108 : Cond.code yX5_keep cX5_keep 1 none ∈ TBg := TB5 45 rfl rfl
set_option maxRecDepth 20000 in
theorem kw_1109 : Cond.methodLink "StatePress$Packer" 248 yX6_keepTable ∈ TBg := TB5 46 rfl rfl
set_option maxRecDepth 20000 in
theorem kw_1111 : Cond.instanceMethod yX6_keepTable ∈ TBg := TB5 48 rfl rfl
set_option maxRecDepth 20000 in
theorem kw_1112 : Cond.code yX6_keepTable cX6_keepTable 2 none ∈ TBg := TB5 49 rfl rfl
set_option maxRecDepth 20000 in
theorem kw_1113 : Cond.methodLink "StatePress$Packer" 252 yX1_keep ∈ TBg := TB5 50 rfl rfl
set_option maxRecDepth 20000 in
theorem kw_1114 : Cond.instanceMethod yX1_keep ∈ TBg := TB5 51 rfl rfl
set_option maxRecDepth 20000 in
theorem kw_1115 : Cond.selects "StatePress$Column" yX1_keep yX1_keep ∈ TBg := TB5 52 rfl rfl
set_option maxRecDepth 20000 in
theorem kw_1116 : Cond.code yX1_keep cX1_keep 1 none ∈ TBg := TB5 53 rfl rfl
set_option maxRecDepth 20000 in
theorem kw_1117 : Cond.methodLink "StatePress$Packer" 211 yX3_putTo ∈ TBg := TB5 54 rfl rfl
set_option maxRecDepth 20000 in
theorem kw_1118 : Cond.instanceMethod yX3_putTo ∈ TBg := TB5 55 rfl rfl
set_option maxRecDepth 20000 in
theorem kw_1119 : Cond.selects "StatePress$Finder" yX3_putTo yX3_putTo ∈ TBg := TB5 56 rfl rfl
set_option maxRecDepth 20000 in
theorem kw_1120 : Cond.code yX3_putTo cX3_putTo 4 none ∈ TBg := TB5 57 rfl rfl
set_option maxRecDepth 20000 in
theorem kw_1121 : Cond.methodLink "StatePress$Finder" 70 yX7_putCells ∈ TBg := TB5 58 rfl rfl
set_option maxRecDepth 20000 in
theorem kw_1122 : Cond.methodLink "StatePress" 136 yX10_of ∈ TBg := TB5 59 rfl rfl
set_option maxRecDepth 20000 in
theorem kw_1123 : Cond.static yX10_of ∈ TBg := TB5 60 rfl rfl
set_option maxRecDepth 20000 in
theorem kw_1124 : Cond.code yX10_of cX10_of 5 (some .long) ∈ TBg := TB5 61 rfl rfl
set_option maxRecDepth 20000 in
theorem kw_1125 : Cond.constantLong "StatePress$WideSum" 15 2870177450012600261 ∈ TBg := TB5 62 rfl rfl
set_option maxRecDepth 20000 in
theorem kw_1126 : Cond.methodLink "StatePress$WideSum" 17 yX10_lanes ∈ TBg := TB5 63 rfl rfl
set_option maxRecDepth 20000 in
theorem kw_1127 : Cond.static yX10_lanes ∈ TBg := TB5 64 rfl rfl
set_option maxRecDepth 20000 in
theorem kw_1128 : Cond.code yX10_lanes cX10_lanes 12 (some .long) ∈ TBg := TB5 65 rfl rfl
set_option maxRecDepth 20000 in
theorem kw_1129 : Cond.constantLong "StatePress$WideSum" 41 6983438078262162902 ∈ TBg := TB5 66 rfl rfl
set_option maxRecDepth 20000 in
theorem kw_1130 : Cond.constantLong "StatePress$WideSum" 25 (-4417276706812531889) ∈ TBg := TB5 67 rfl rfl
set_option maxRecDepth 20000 in
theorem kw_1131 : Cond.constantLong "StatePress$WideSum" 43 7046029288634856825 ∈ TBg := TB5 68 rfl rfl
set_option maxRecDepth 20000 in
theorem kw_1132 : Cond.methodLink "StatePress$WideSum" 21 yX7_number ∈ TBg := TB5 69 rfl rfl
set_option maxRecDepth 20000 in
theorem kw_1133 : Cond.methodLink "StatePress$WideSum" 27 yX10_rotated ∈ TBg := TB5 70 rfl rfl
set_option maxRecDepth 20000 in
theorem kw_1134 : Cond.static yX10_rotated ∈ TBg := TB5 71 rfl rfl
set_option maxRecDepth 20000 in
theorem kw_1135 : Cond.code yX10_rotated cX10_rotated 3 (some .long) ∈ TBg := TB5 72 rfl rfl
set_option maxRecDepth 20000 in
theorem kw_1136 : Cond.constantLong "StatePress$WideSum" 31 (-7046029288634856825) ∈ TBg := TB5 73 rfl rfl
set_option maxRecDepth 20000 in
theorem kw_1137 : Cond.methodLink "StatePress$WideSum" 45 yX10_joined ∈ TBg := TB5 74 rfl rfl
set_option maxRecDepth 20000 in
theorem kw_1138 : Cond.static yX10_joined ∈ TBg := TB5 75 rfl rfl
set_option maxRecDepth 20000 in
theorem kw_1139 : Cond.code yX10_joined cX10_joined 4 (some .long) ∈ TBg := TB5 76 rfl rfl
set_option maxRecDepth 20000 in
theorem kw_1140 : Cond.constantLong "StatePress$WideSum" 33 (-8796714831421723037) ∈ TBg := TB5 77 rfl rfl
set_option maxRecDepth 20000 in
theorem kw_1141 : Cond.constantLong "StatePress$WideSum" 35 1609587929392839161 ∈ TBg := TB5 78 rfl rfl
set_option maxRecDepth 20000 in
theorem kw_1142 : Cond.methodLink "StatePress$WideSum" 37 yX7_at ∈ TBg := TB5 79 rfl rfl
set_option maxRecDepth 20000 in
theorem kw_1143 : Cond.methodLink "StatePress" 149 arraycopyName ∈ TBg := TB5 80 rfl rfl
set_option maxRecDepth 20000 in
theorem kw_1144 : Cond.methodLink "StatePress" 155 yX11_becomeOut ∈ TBg := TB5 81 rfl rfl
set_option maxRecDepth 20000 in
theorem kw_1146 : Cond.instanceMethod yX11_becomeOut ∈ TBg := TB5 83 rfl rfl
set_option maxRecDepth 20000 in
theorem kw_1147 : Cond.code yX11_becomeOut cX11_becomeOut 2 (some .int) ∈ TBg := TB5 84 rfl rfl
set_option maxRecDepth 20000 in
theorem kw_1152 : Cond.methodLink "StatePress" 162 yX6_go ∈ TBg := TB5 89 rfl rfl
set_option maxRecDepth 20000 in
theorem kw_1153 : Cond.methodLink "StatePress" 165 yX6_sequences ∈ TBg := TB5 90 rfl rfl
set_option maxRecDepth 20000 in
theorem kw_1154 : Cond.instanceMethod yX6_sequences ∈ TBg := TB5 91 rfl rfl
set_option maxRecDepth 20000 in
theorem kw_1155 : Cond.selects "StatePress$Packer" yX6_sequences yX6_sequences ∈ TBg := TB5 92 rfl rfl
set_option maxRecDepth 20000 in
theorem kw_1156 : Cond.code yX6_sequences cX6_sequences 1 (some .int) ∈ TBg := TB5 93 rfl rfl
set_option maxRecDepth 20000 in
theorem kw_1157 : Cond.methodLink "StatePress" 172 yX5_renew ∈ TBg := TB5 94 rfl rfl
set_option maxRecDepth 20000 in
theorem kw_1158 : Cond.methodLink "StatePress" 178 yX6_putForms ∈ TBg := TB5 95 rfl rfl
set_option maxRecDepth 20000 in
theorem kw_1159 : Cond.instanceMethod yX6_putForms ∈ TBg := TB5 96 rfl rfl
set_option maxRecDepth 20000 in
theorem kw_1160 : Cond.selects "StatePress$Packer" yX6_putForms yX6_putForms ∈ TBg := TB5 97 rfl rfl
set_option maxRecDepth 20000 in
theorem kw_1161 : Cond.code yX6_putForms cX6_putForms 2 none ∈ TBg := TB5 98 rfl rfl
set_option maxRecDepth 20000 in
theorem kw_1162 : Cond.methodLink "StatePress$Packer" 253 yX5_putDescription ∈ TBg := TB5 99 rfl rfl
set_option maxRecDepth 20000 in
theorem kw_1163 : Cond.methodLink "StatePress$Packer" 256 yX1_putShare ∈ TBg := TB5 100 rfl rfl
set_option maxRecDepth 20000 in
theorem kw_1164 : Cond.instanceMethod yX1_putShare ∈ TBg := TB5 101 rfl rfl
set_option maxRecDepth 20000 in
theorem kw_1165 : Cond.selects "StatePress$Column" yX1_putShare yX1_putShare ∈ TBg := TB5 102 rfl rfl
set_option maxRecDepth 20000 in
theorem kw_1166 : Cond.code yX1_putShare cX1_putShare 2 none ∈ TBg := TB5 103 rfl rfl
set_option maxRecDepth 20000 in
theorem kw_1180 : Cond.instantiable "StatePressModel" 64 ∈ TBg := TB5 117 rfl rfl
set_option maxRecDepth 20000 in
theorem kw_1184 : Cond.methodLink "StatePressModel" 1 Lib.objectInit ∈ TBg := TB5 121 rfl rfl
set_option maxRecDepth 20000 in
theorem kw_1185 : Cond.fieldLink "StatePressModel" 7 "StatePressModel" "in" "[I" ∈ TBg := TB5 122 rfl rfl
set_option maxRecDepth 20000 in
theorem kw_1186 : Cond.fieldLink "StatePressModel" 148 "StatePressModel" "inSize" "I" ∈ TBg := TB5 123 rfl rfl
set_option maxRecDepth 20000 in
theorem kw_1187 : Cond.fieldLink "StatePressModel" 13 "StatePressModel" "out" "[I" ∈ TBg := TB5 124 rfl rfl
set_option maxRecDepth 20000 in
theorem kw_1188 : Cond.fieldLink "StatePressModel" 153 "StatePressModel" "outSize" "I" ∈ TBg := TB5 125 rfl rfl
set_option maxRecDepth 20000 in
theorem kw_1189 : Cond.fieldLink "StatePressModel" 16 "StatePressModel" "way" "I" ∈ TBg := TB5 126 rfl rfl
set_option maxRecDepth 20000 in
theorem kw_1190 : Cond.fieldLink "StatePressModel" 20 "StatePressModel" "least" "I" ∈ TBg := TB5 127 rfl rfl
set_option maxRecDepth 20000 in
theorem kw_1191 : Cond.fieldLink "StatePressModel" 23 "StatePressModel" "dictionary" "[I" ∈ TBg := TB5 128 rfl rfl
set_option maxRecDepth 20000 in
theorem kw_1192 : Cond.fieldLink "StatePressModel" 373 "StatePressModel" "dictionarySize" "I" ∈ TBg := TB5 129 rfl rfl
set_option maxRecDepth 20000 in
theorem kw_1193 : Cond.fieldLink "StatePressModel" 391 "StatePressModel" "dictionaryId" "I" ∈ TBg := TB5 130 rfl rfl
set_option maxRecDepth 20000 in
theorem kw_1194 : Cond.fieldLink "StatePressModel" 362 "StatePressModel" "formed" "Z" ∈ TBg := TB5 131 rfl rfl
set_option maxRecDepth 20000 in
theorem kw_1195 : Cond.fieldLink "StatePressModel" 26 "StatePressModel" "dictionaryLengths" "[I" ∈ TBg := TB5 132 rfl rfl
set_option maxRecDepth 20000 in
theorem kw_1196 : Cond.fieldLink "StatePressModel" 29 "StatePressModel" "dictionaryPoints" "[I" ∈ TBg := TB5 133 rfl rfl
set_option maxRecDepth 20000 in
theorem kw_1197 : Cond.fieldLink "StatePressModel" 32 "StatePressModel" "dictionaryOrders" "[I" ∈ TBg := TB5 134 rfl rfl
set_option maxRecDepth 20000 in
theorem kw_1198 : Cond.fieldLink "StatePressModel" 35 "StatePressModel" "dictionaryLatest" "[I" ∈ TBg := TB5 135 rfl rfl
set_option maxRecDepth 20000 in
theorem kw_1199 : Cond.fieldLink "StatePressModel" 38 "StatePressModel" "lengths" "[I" ∈ TBg := TB5 136 rfl rfl
set_option maxRecDepth 20000 in
theorem kw_1200 : Cond.fieldLink "StatePressModel" 285 "StatePressModel" "top" "I" ∈ TBg := TB5 137 rfl rfl
set_option maxRecDepth 20000 in
theorem kw_1201 : Cond.fieldLink "StatePressModel" 41 "StatePressModel" "points" "[I" ∈ TBg := TB5 138 rfl rfl
set_option maxRecDepth 20000 in
theorem kw_1202 : Cond.fieldLink "StatePressModel" 44 "StatePressModel" "orders" "[I" ∈ TBg := TB5 139 rfl rfl
set_option maxRecDepth 20000 in
theorem kw_1203 : Cond.fieldLink "StatePressModel" 47 "StatePressModel" "latest" "[I" ∈ TBg := TB5 140 rfl rfl
set_option maxRecDepth 20000 in
theorem kw_1204 : Cond.fieldLink "StatePressModel" 50 "StatePressModel" "wasLengths" "[I" ∈ TBg := TB5 141 rfl rfl
set_option maxRecDepth 20000 in
theorem kw_1205 : Cond.fieldLink "StatePressModel" 359 "StatePressModel" "wasTop" "I" ∈ TBg := TB5 142 rfl rfl
set_option maxRecDepth 20000 in
theorem kw_1206 : Cond.fieldLink "StatePressModel" 53 "StatePressModel" "wasPoints" "[I" ∈ TBg := TB5 143 rfl rfl
set_option maxRecDepth 20000 in
theorem kw_1207 : Cond.fieldLink "StatePressModel" 56 "StatePressModel" "wasOrders" "[I" ∈ TBg := TB5 144 rfl rfl
set_option maxRecDepth 20000 in
theorem kw_1208 : Cond.fieldLink "StatePressModel" 59 "StatePressModel" "wasLatest" "[I" ∈ TBg := TB5 145 rfl rfl
set_option maxRecDepth 20000 in
theorem kw_1209 : Cond.fieldLink "StatePressModel" 62 "StatePressModel" "data" "[I" ∈ TBg := TB5 146 rfl rfl
set_option maxRecDepth 20000 in
theorem kw_1210 : Cond.fieldLink "StatePressModel" 167 "StatePressModel" "dataSize" "I" ∈ TBg := TB5 147 rfl rfl
set_option maxRecDepth 20000 in
theorem kw_1211 : Cond.fieldLink "StatePressModel" 178 "StatePressModel" "foundAt" "I" ∈ TBg := TB5 148 rfl rfl
set_option maxRecDepth 20000 in
theorem kw_1212 : Cond.fieldLink "StatePressModel" 171 "StatePressModel" "window" "I" ∈ TBg := TB5 149 rfl rfl
set_option maxRecDepth 20000 in
theorem kw_1213 : Cond.fieldLink "StatePressModel" 65 "StatePressModel" "literalLengths" "[I" ∈ TBg := TB5 150 rfl rfl
set_option maxRecDepth 20000 in
theorem kw_1214 : Cond.fieldLink "StatePressModel" 68 "StatePressModel" "matchLengths" "[I" ∈ TBg := TB5 151 rfl rfl
set_option maxRecDepth 20000 in
theorem kw_1215 : Cond.fieldLink "StatePressModel" 71 "StatePressModel" "distances" "[I" ∈ TBg := TB5 152 rfl rfl
set_option maxRecDepth 20000 in
theorem kw_1216 : Cond.fieldLink "StatePressModel" 185 "StatePressModel" "sequences" "I" ∈ TBg := TB5 153 rfl rfl
set_option maxRecDepth 20000 in
theorem kw_1217 : Cond.fieldLink "StatePressModel" 74 "StatePressModel" "literals" "[I" ∈ TBg := TB5 154 rfl rfl
set_option maxRecDepth 20000 in
theorem kw_1218 : Cond.fieldLink "StatePressModel" 188 "StatePressModel" "literalCount" "I" ∈ TBg := TB5 155 rfl rfl
set_option maxRecDepth 20000 in
theorem kw_1219 : Cond.fieldLink "StatePressModel" 77 "StatePressModel" "symbols" "[I" ∈ TBg := TB5 156 rfl rfl
set_option maxRecDepth 20000 in
theorem kw_1220 : Cond.fieldLink "StatePressModel" 80 "StatePressModel" "moreBits" "[I" ∈ TBg := TB5 157 rfl rfl
set_option maxRecDepth 20000 in
theorem kw_1221 : Cond.fieldLink "StatePressModel" 83 "StatePressModel" "more" "[I" ∈ TBg := TB5 158 rfl rfl
set_option maxRecDepth 20000 in
theorem kw_1222 : Cond.fieldLink "StatePressModel" 86 "StatePressModel" "made" "[I" ∈ TBg := TB5 159 rfl rfl
set_option maxRecDepth 20000 in
theorem kw_1223 : Cond.fieldLink "StatePressModel" 156 "StatePressModel" "bits" "I" ∈ TBg := TB5 160 rfl rfl
set_option maxRecDepth 20000 in
theorem kw_1224 : Cond.fieldLink "StatePressModel" 89 "StatePressModel" "frame" "[I" ∈ TBg := TB5 161 rfl rfl
set_option maxRecDepth 20000 in
theorem kw_1225 : Cond.fieldLink "StatePressModel" 160 "StatePressModel" "frameSize" "I" ∈ TBg := TB5 162 rfl rfl
set_option maxRecDepth 20000 in
theorem kw_1226 : Cond.fieldLink "StatePressModel" 92 "StatePressModel" "placeSymbol" "[I" ∈ TBg := TB5 163 rfl rfl
set_option maxRecDepth 20000 in
theorem kw_1227 : Cond.fieldLink "StatePressModel" 95 "StatePressModel" "placeBits" "[I" ∈ TBg := TB5 164 rfl rfl
set_option maxRecDepth 20000 in
theorem kw_1228 : Cond.fieldLink "StatePressModel" 98 "StatePressModel" "placeBase" "[I" ∈ TBg := TB5 165 rfl rfl
set_option maxRecDepth 20000 in
theorem kw_1229 : Cond.fieldLink "StatePressModel" 101 "StatePressModel" "number" "[I" ∈ TBg := TB5 166 rfl rfl
set_option maxRecDepth 20000 in
theorem kw_1230 : Cond.fieldLink "StatePressModel" 104 "StatePressModel" "tried" "[I" ∈ TBg := TB5 167 rfl rfl
set_option maxRecDepth 20000 in
theorem kw_1231 : Cond.fieldLink "StatePressModel" 107 "StatePressModel" "cutOff" "[I" ∈ TBg := TB5 168 rfl rfl
set_option maxRecDepth 20000 in
theorem kw_1232 : Cond.fieldLink "StatePressModel" 110 "StatePressModel" "had" "[Z" ∈ TBg := TB5 169 rfl rfl
set_option maxRecDepth 20000 in
theorem kw_1233 : Cond.fieldLink "StatePressModel" 114 "StatePressModel" "counts" "[I" ∈ TBg := TB5 170 rfl rfl
set_option maxRecDepth 20000 in
theorem kw_1234 : Cond.fieldLink "StatePressModel" 117 "StatePressModel" "halved" "[I" ∈ TBg := TB5 171 rfl rfl
set_option maxRecDepth 20000 in
theorem kw_1235 : Cond.fieldLink "StatePressModel" 120 "StatePressModel" "knot" "[I" ∈ TBg := TB5 172 rfl rfl
set_option maxRecDepth 20000 in
theorem kw_1236 : Cond.fieldLink "StatePressModel" 123 "StatePressModel" "inSum" "[I" ∈ TBg := TB5 173 rfl rfl
set_option maxRecDepth 20000 in
theorem kw_1237 : Cond.fieldLink "StatePressModel" 255 "StatePressModel" "knots" "I" ∈ TBg := TB5 174 rfl rfl
set_option maxRecDepth 20000 in
theorem kw_1238 : Cond.fieldLink "StatePressModel" 126 "StatePressModel" "draft" "[I" ∈ TBg := TB5 175 rfl rfl
set_option maxRecDepth 20000 in
theorem kw_1239 : Cond.fieldLink "StatePressModel" 129 "StatePressModel" "cells" "[I" ∈ TBg := TB5 176 rfl rfl
set_option maxRecDepth 20000 in
theorem kw_1240 : Cond.fieldLink "StatePressModel" 132 "StatePressModel" "weights" "[I" ∈ TBg := TB5 177 rfl rfl
set_option maxRecDepth 20000 in
theorem kw_1241 : Cond.fieldLink "StatePressModel" 265 "StatePressModel" "weightCount" "I" ∈ TBg := TB5 178 rfl rfl
set_option maxRecDepth 20000 in
theorem kw_1242 : Cond.fieldLink "StatePressModel" 453 "StatePressModel" "weightOrder" "I" ∈ TBg := TB5 179 rfl rfl
set_option maxRecDepth 20000 in
theorem kw_1243 : Cond.fieldLink "StatePressModel" 135 "StatePressModel" "told" "[I" ∈ TBg := TB5 180 rfl rfl
set_option maxRecDepth 20000 in
theorem kw_1244 : Cond.fieldLink "StatePressModel" 138 "StatePressModel" "lane" "[J" ∈ TBg := TB5 181 rfl rfl
set_option maxRecDepth 20000 in
theorem kw_1245 : Cond.fieldLink "StatePressModel" 441 "StatePressModel" "bit" "I" ∈ TBg := TB5 182 rfl rfl
set_option maxRecDepth 20000 in
theorem kw_1246 : Cond.fieldLink "StatePressModel" 444 "StatePressModel" "bitEnd" "I" ∈ TBg := TB5 183 rfl rfl
set_option maxRecDepth 20000 in
theorem kw_1247 : Cond.fieldLink "StatePressModel" 142 "StatePressModel" "newTold" "[I" ∈ TBg := TB5 184 rfl rfl
set_option maxRecDepth 20000 in
theorem kw_1248 : Cond.fieldLink "StatePressModel" 145 "StatePressModel" "shown" "[I" ∈ TBg := TB5 185 rfl rfl
set_option maxRecDepth 20000 in
theorem kw_1378 : Cond.arrayClass .boolean ∈ TBg := TB6 75 rfl rfl
set_option maxRecDepth 20000 in
theorem kw_1379 : Cond.arrayClass .long ∈ TBg := TB6 76 rfl rfl
set_option maxRecDepth 20000 in
theorem kw_1384 : Cond.constantLong "StatePressModel" 151 255 ∈ TBg := TB6 81 rfl rfl
set_option maxRecDepth 20000 in
theorem kw_1405 : Cond.constantLong "StatePressModel" 394 4294967295 ∈ TBg := TB6 102 rfl rfl
set_option maxRecDepth 20000 in
theorem kw_1406 : Cond.constantLong "StatePressModel" 396 256 ∈ TBg := TB6 103 rfl rfl
set_option maxRecDepth 20000 in
theorem kw_1407 : Cond.constantLong "StatePressModel" 398 65536 ∈ TBg := TB6 104 rfl rfl
set_option maxRecDepth 20000 in
theorem kw_1408 : Cond.constantLong "StatePressModel" 400 4247762216 ∈ TBg := TB6 105 rfl rfl
set_option maxRecDepth 20000 in
theorem kw_1409 : Cond.methodLink "StatePressModel" 318 yX12_sayNumber ∈ TBg := TB6 106 rfl rfl
set_option maxRecDepth 20000 in
theorem kw_1411 : Cond.instanceMethod yX12_sayNumber ∈ TBg := TB6 108 rfl rfl
set_option maxRecDepth 20000 in
theorem kw_1412 : Cond.code yX12_sayNumber cX12_sayNumber 5 none ∈ TBg := TB6 109 rfl rfl
set_option maxRecDepth 20000 in
theorem kw_1413 : Cond.methodLink "StatePressModel" 163 yX12_say ∈ TBg := TB6 110 rfl rfl
set_option maxRecDepth 20000 in
theorem kw_1415 : Cond.instanceMethod yX12_say ∈ TBg := TB6 112 rfl rfl
set_option maxRecDepth 20000 in
theorem kw_1416 : Cond.code yX12_say cX12_say 2 none ∈ TBg := TB6 113 rfl rfl
set_option maxRecDepth 20000 in
theorem kw_1417 : Cond.methodLink "StatePressModel" 402 yX12_beginFrame ∈ TBg := TB6 114 rfl rfl
set_option maxRecDepth 20000 in
theorem kw_1419 : Cond.instanceMethod yX12_beginFrame ∈ TBg := TB6 116 rfl rfl
set_option maxRecDepth 20000 in
theorem kw_1420 : Cond.code yX12_beginFrame cX12_beginFrame 2 none ∈ TBg := TB6 117 rfl rfl
set_option maxRecDepth 20000 in
theorem kw_1421 : Cond.methodLink "StatePressModel" 405 yX12_sayBlock ∈ TBg := TB6 118 rfl rfl
set_option maxRecDepth 20000 in
theorem kw_1423 : Cond.instanceMethod yX12_sayBlock ∈ TBg := TB6 120 rfl rfl
set_option maxRecDepth 20000 in
theorem kw_1424 : Cond.code yX12_sayBlock cX12_sayBlock 10 none ∈ TBg := TB6 121 rfl rfl
set_option maxRecDepth 20000 in
theorem kw_1425 : Cond.methodLink "StatePressModel" 366 yX12_sayBlockHead ∈ TBg := TB6 122 rfl rfl
set_option maxRecDepth 20000 in
theorem kw_1427 : Cond.instanceMethod yX12_sayBlockHead ∈ TBg := TB6 124 rfl rfl
set_option maxRecDepth 20000 in
theorem kw_1428 : Cond.code yX12_sayBlockHead cX12_sayBlockHead 6 none ∈ TBg := TB6 125 rfl rfl
set_option maxRecDepth 20000 in
theorem kw_1429 : Cond.methodLink "StatePressModel" 370 yX12_keep ∈ TBg := TB6 126 rfl rfl
set_option maxRecDepth 20000 in
theorem kw_1431 : Cond.instanceMethod yX12_keep ∈ TBg := TB6 128 rfl rfl
set_option maxRecDepth 20000 in
theorem kw_1432 : Cond.code yX12_keep cX12_keep 2 none ∈ TBg := TB6 129 rfl rfl
set_option maxRecDepth 20000 in
theorem kw_1433 : Cond.methodLink "StatePressModel" 376 yX12_go ∈ TBg := TB6 130 rfl rfl
set_option maxRecDepth 20000 in
theorem kw_1435 : Cond.instanceMethod yX12_go ∈ TBg := TB6 132 rfl rfl
set_option maxRecDepth 20000 in
theorem kw_1436 : Cond.code yX12_go cX12_go 5 none ∈ TBg := TB6 133 rfl rfl
set_option maxRecDepth 20000 in
theorem kw_1437 : Cond.methodLink "StatePressModel" 191 yX12_taken ∈ TBg := TB6 134 rfl rfl
set_option maxRecDepth 20000 in
theorem kw_1439 : Cond.instanceMethod yX12_taken ∈ TBg := TB6 136 rfl rfl
set_option maxRecDepth 20000 in
theorem kw_1440 : Cond.code yX12_taken cX12_taken 4 (some .int) ∈ TBg := TB6 137 rfl rfl
set_option maxRecDepth 20000 in
theorem kw_1441 : Cond.methodLink "StatePressModel" 181 yX12_match ∈ TBg := TB6 138 rfl rfl
set_option maxRecDepth 20000 in
theorem kw_1443 : Cond.instanceMethod yX12_match ∈ TBg := TB6 140 rfl rfl
set_option maxRecDepth 20000 in
theorem kw_1444 : Cond.code yX12_match cX12_match 8 (some .int) ∈ TBg := TB6 141 rfl rfl
set_option maxRecDepth 20000 in
theorem kw_1445 : Cond.constant "StatePressModel" 170 131074 ∈ TBg := TB6 142 rfl rfl
set_option maxRecDepth 20000 in
theorem kw_1446 : Cond.methodLink "StatePressModel" 174 yX12_alike ∈ TBg := TB6 143 rfl rfl
set_option maxRecDepth 20000 in
theorem kw_1448 : Cond.instanceMethod yX12_alike ∈ TBg := TB6 145 rfl rfl
set_option maxRecDepth 20000 in
theorem kw_1449 : Cond.code yX12_alike cX12_alike 5 (some .int) ∈ TBg := TB6 146 rfl rfl
set_option maxRecDepth 20000 in
theorem kw_1450 : Cond.methodLink "StatePressModel" 379 yX12_sayLiterals ∈ TBg := TB6 147 rfl rfl
set_option maxRecDepth 20000 in
theorem kw_1452 : Cond.instanceMethod yX12_sayLiterals ∈ TBg := TB6 149 rfl rfl
set_option maxRecDepth 20000 in
theorem kw_1453 : Cond.code yX12_sayLiterals cX12_sayLiterals 10 (some .int) ∈ TBg := TB6 150 rfl rfl
set_option maxRecDepth 20000 in
theorem kw_1454 : Cond.methodLink "StatePressModel" 288 yX12_allAlike ∈ TBg := TB6 151 rfl rfl
set_option maxRecDepth 20000 in
theorem kw_1456 : Cond.instanceMethod yX12_allAlike ∈ TBg := TB6 153 rfl rfl
set_option maxRecDepth 20000 in
theorem kw_1457 : Cond.code yX12_allAlike cX12_allAlike 2 (some .boolean) ∈ TBg := TB6 154 rfl rfl
set_option maxRecDepth 20000 in
theorem kw_1458 : Cond.methodLink "StatePressModel" 292 yX12_allCoded ∈ TBg := TB6 155 rfl rfl
set_option maxRecDepth 20000 in
theorem kw_1460 : Cond.instanceMethod yX12_allCoded ∈ TBg := TB6 157 rfl rfl
set_option maxRecDepth 20000 in
theorem kw_1461 : Cond.code yX12_allCoded cX12_allCoded 2 (some .boolean) ∈ TBg := TB6 158 rfl rfl
set_option maxRecDepth 20000 in
theorem kw_1462 : Cond.methodLink "StatePressModel" 295 yX12_bytesTold ∈ TBg := TB6 159 rfl rfl
set_option maxRecDepth 20000 in
theorem kw_1464 : Cond.instanceMethod yX12_bytesTold ∈ TBg := TB6 161 rfl rfl
set_option maxRecDepth 20000 in
theorem kw_1465 : Cond.code yX12_bytesTold cX12_bytesTold 3 (some .int) ∈ TBg := TB6 162 rfl rfl
set_option maxRecDepth 20000 in
theorem kw_1466 : Cond.methodLink "StatePressModel" 274 yX12_streamBytes ∈ TBg := TB6 163 rfl rfl
set_option maxRecDepth 20000 in
theorem kw_1468 : Cond.instanceMethod yX12_streamBytes ∈ TBg := TB6 165 rfl rfl
set_option maxRecDepth 20000 in
theorem kw_1469 : Cond.code yX12_streamBytes cX12_streamBytes 6 (some .int) ∈ TBg := TB6 166 rfl rfl
set_option maxRecDepth 20000 in
theorem kw_1470 : Cond.methodLink "StatePressModel" 278 yX12_fourBytes ∈ TBg := TB6 167 rfl rfl
set_option maxRecDepth 20000 in
theorem kw_1472 : Cond.instanceMethod yX12_fourBytes ∈ TBg := TB6 169 rfl rfl
set_option maxRecDepth 20000 in
theorem kw_1473 : Cond.code yX12_fourBytes cX12_fourBytes 3 (some .int) ∈ TBg := TB6 170 rfl rfl
set_option maxRecDepth 20000 in
theorem kw_1474 : Cond.methodLink "StatePressModel" 299 yX12_headOf ∈ TBg := TB6 171 rfl rfl
set_option maxRecDepth 20000 in
theorem kw_1476 : Cond.instanceMethod yX12_headOf ∈ TBg := TB6 173 rfl rfl
set_option maxRecDepth 20000 in
theorem kw_1477 : Cond.code yX12_headOf cX12_headOf 3 (some .int) ∈ TBg := TB6 174 rfl rfl
set_option maxRecDepth 20000 in
theorem kw_1478 : Cond.methodLink "StatePressModel" 282 yX12_width ∈ TBg := TB6 175 rfl rfl
set_option maxRecDepth 20000 in
theorem kw_1479 : Cond.static yX12_width ∈ TBg := TB6 176 rfl rfl
set_option maxRecDepth 20000 in
theorem kw_1480 : Cond.code yX12_width cX12_width 1 (some .int) ∈ TBg := TB6 177 rfl rfl
set_option maxRecDepth 20000 in
theorem kw_1481 : Cond.methodLink "StatePressModel" 302 yX12_headBytes ∈ TBg := TB6 178 rfl rfl
set_option maxRecDepth 20000 in
theorem kw_1482 : Cond.static yX12_headBytes ∈ TBg := TB6 179 rfl rfl
set_option maxRecDepth 20000 in
theorem kw_1483 : Cond.code yX12_headBytes cX12_headBytes 1 (some .int) ∈ TBg := TB6 180 rfl rfl
set_option maxRecDepth 20000 in
theorem kw_1484 : Cond.methodLink "StatePressModel" 305 yX12_lengthsByCounts ∈ TBg := TB6 181 rfl rfl
set_option maxRecDepth 20000 in
theorem kw_1486 : Cond.instanceMethod yX12_lengthsByCounts ∈ TBg := TB6 183 rfl rfl
set_option maxRecDepth 20000 in
theorem kw_1487 : Cond.code yX12_lengthsByCounts cX12_lengthsByCounts 3 (some .int) ∈ TBg := TB6 184 rfl rfl
set_option maxRecDepth 20000 in
theorem kw_1488 : Cond.methodLink "StatePressModel" 261 yX12_tree ∈ TBg := TB6 185 rfl rfl
set_option maxRecDepth 20000 in
theorem kw_1490 : Cond.instanceMethod yX12_tree ∈ TBg := TB6 187 rfl rfl
set_option maxRecDepth 20000 in
theorem kw_1491 : Cond.code yX12_tree cX12_tree 6 (some .int) ∈ TBg := TB6 188 rfl rfl
set_option maxRecDepth 20000 in
theorem kw_1492 : Cond.methodLink "StatePressModel" 258 yX12_leastKnot ∈ TBg := TB6 189 rfl rfl
set_option maxRecDepth 20000 in
theorem kw_1494 : Cond.instanceMethod yX12_leastKnot ∈ TBg := TB6 191 rfl rfl
set_option maxRecDepth 20000 in
theorem kw_1495 : Cond.code yX12_leastKnot cX12_leastKnot 4 (some .int) ∈ TBg := TB6 192 rfl rfl
set_option maxRecDepth 20000 in
theorem kw_1496 : Cond.methodLink "StatePressModel" 308 yX12_describe ∈ TBg := TB6 193 rfl rfl
set_option maxRecDepth 20000 in
theorem kw_1498 : Cond.instanceMethod yX12_describe ∈ TBg := TB6 195 rfl rfl
set_option maxRecDepth 20000 in
theorem kw_1499 : Cond.code yX12_describe cX12_describe 8 (some .int) ∈ TBg := TB6 196 rfl rfl
set_option maxRecDepth 20000 in
theorem kw_1500 : Cond.methodLink "StatePressModel" 268 yX12_weighing ∈ TBg := TB6 197 rfl rfl
set_option maxRecDepth 20000 in
theorem kw_1502 : Cond.instanceMethod yX12_weighing ∈ TBg := TB6 199 rfl rfl
set_option maxRecDepth 20000 in
theorem kw_1503 : Cond.code yX12_weighing cX12_weighing 3 (some .int) ∈ TBg := TB6 200 rfl rfl
set_option maxRecDepth 20000 in
theorem kw_1504 : Cond.methodLink "StatePressModel" 271 yX12_byStates ∈ TBg := TB6 201 rfl rfl
set_option maxRecDepth 20000 in
theorem kw_1506 : Cond.instanceMethod yX12_byStates ∈ TBg := TB6 203 rfl rfl
set_option maxRecDepth 20000 in
theorem kw_1507 : Cond.code yX12_byStates cX12_byStates 6 (some .int) ∈ TBg := TB6 204 rfl rfl
set_option maxRecDepth 20000 in
theorem kw_1508 : Cond.methodLink "StatePressModel" 241 yX12_begin ∈ TBg := TB6 205 rfl rfl
set_option maxRecDepth 20000 in
theorem kw_1510 : Cond.instanceMethod yX12_begin ∈ TBg := TB6 207 rfl rfl
set_option maxRecDepth 20000 in
theorem kw_1511 : Cond.code yX12_begin cX12_begin 2 none ∈ TBg := TB6 208 rfl rfl
set_option maxRecDepth 20000 in
theorem kw_1512 : Cond.methodLink "StatePressModel" 225 yX12_put ∈ TBg := TB6 209 rfl rfl
set_option maxRecDepth 20000 in
theorem kw_1514 : Cond.instanceMethod yX12_put ∈ TBg := TB6 211 rfl rfl
set_option maxRecDepth 20000 in
theorem kw_1515 : Cond.code yX12_put cX12_put 4 none ∈ TBg := TB6 212 rfl rfl
set_option maxRecDepth 20000 in
theorem kw_1516 : Cond.constant "StatePressModel" 159 192000 ∈ TBg := TB6 213 rfl rfl
set_option maxRecDepth 20000 in
theorem kw_1517 : Cond.methodLink "StatePressModel" 238 yX12_divide ∈ TBg := TB6 214 rfl rfl
set_option maxRecDepth 20000 in
theorem kw_1519 : Cond.instanceMethod yX12_divide ∈ TBg := TB6 216 rfl rfl
set_option maxRecDepth 20000 in
theorem kw_1520 : Cond.code yX12_divide cX12_divide 6 none ∈ TBg := TB6 217 rfl rfl
set_option maxRecDepth 20000 in
theorem kw_1521 : Cond.methodLink "StatePressModel" 210 yX12_mass ∈ TBg := TB6 218 rfl rfl
set_option maxRecDepth 20000 in
theorem kw_1522 : Cond.static yX12_mass ∈ TBg := TB6 219 rfl rfl
set_option maxRecDepth 20000 in
theorem kw_1523 : Cond.code yX12_mass cX12_mass 1 (some .int) ∈ TBg := TB6 220 rfl rfl
set_option maxRecDepth 20000 in
theorem kw_1524 : Cond.methodLink "StatePressModel" 244 yX12_putShare ∈ TBg := TB6 221 rfl rfl
set_option maxRecDepth 20000 in
theorem kw_1526 : Cond.instanceMethod yX12_putShare ∈ TBg := TB6 223 rfl rfl
set_option maxRecDepth 20000 in
theorem kw_1527 : Cond.code yX12_putShare cX12_putShare 11 none ∈ TBg := TB6 224 rfl rfl
set_option maxRecDepth 20000 in
theorem kw_1528 : Cond.methodLink "StatePressModel" 207 yX12_log ∈ TBg := TB6 225 rfl rfl
set_option maxRecDepth 20000 in
theorem kw_1529 : Cond.static yX12_log ∈ TBg := TB6 226 rfl rfl
set_option maxRecDepth 20000 in
theorem kw_1530 : Cond.code yX12_log cX12_log 2 (some .int) ∈ TBg := TB6 227 rfl rfl
set_option maxRecDepth 20000 in
theorem kw_1531 : Cond.methodLink "StatePressModel" 229 yX12_fill ∈ TBg := TB6 228 rfl rfl
set_option maxRecDepth 20000 in
theorem kw_1533 : Cond.instanceMethod yX12_fill ∈ TBg := TB6 230 rfl rfl
set_option maxRecDepth 20000 in
theorem kw_1534 : Cond.code yX12_fill cX12_fill 1 none ∈ TBg := TB6 231 rfl rfl
set_option maxRecDepth 20000 in
theorem kw_1535 : Cond.methodLink "StatePressModel" 213 yX12_lay ∈ TBg := TB6 232 rfl rfl
set_option maxRecDepth 20000 in
theorem kw_1537 : Cond.instanceMethod yX12_lay ∈ TBg := TB6 234 rfl rfl
set_option maxRecDepth 20000 in
theorem kw_1538 : Cond.code yX12_lay cX12_lay 11 none ∈ TBg := TB6 235 rfl rfl
set_option maxRecDepth 20000 in
theorem kw_1539 : Cond.methodLink "StatePressModel" 217 yX12_lowest ∈ TBg := TB6 236 rfl rfl
set_option maxRecDepth 20000 in
theorem kw_1541 : Cond.instanceMethod yX12_lowest ∈ TBg := TB6 238 rfl rfl
set_option maxRecDepth 20000 in
theorem kw_1542 : Cond.code yX12_lowest cX12_lowest 6 (some .int) ∈ TBg := TB6 239 rfl rfl
set_option maxRecDepth 20000 in
theorem kw_1543 : Cond.methodLink "StatePressModel" 221 yX12_leading ∈ TBg := TB7 0 rfl rfl
set_option maxRecDepth 20000 in
theorem kw_1545 : Cond.instanceMethod yX12_leading ∈ TBg := TB7 2 rfl rfl
set_option maxRecDepth 20000 in
theorem kw_1546 : Cond.code yX12_leading cX12_leading 7 (some .int) ∈ TBg := TB7 3 rfl rfl
set_option maxRecDepth 20000 in
theorem kw_1547 : Cond.methodLink "StatePressModel" 311 yX12_sayHead ∈ TBg := TB7 4 rfl rfl
set_option maxRecDepth 20000 in
theorem kw_1549 : Cond.instanceMethod yX12_sayHead ∈ TBg := TB7 6 rfl rfl
set_option maxRecDepth 20000 in
theorem kw_1550 : Cond.code yX12_sayHead cX12_sayHead 4 none ∈ TBg := TB7 7 rfl rfl
set_option maxRecDepth 20000 in
theorem kw_1551 : Cond.methodLink "StatePressModel" 315 yX12_sayMade ∈ TBg := TB7 8 rfl rfl
set_option maxRecDepth 20000 in
theorem kw_1553 : Cond.instanceMethod yX12_sayMade ∈ TBg := TB7 10 rfl rfl
set_option maxRecDepth 20000 in
theorem kw_1554 : Cond.code yX12_sayMade cX12_sayMade 2 none ∈ TBg := TB7 11 rfl rfl
set_option maxRecDepth 20000 in
theorem kw_1555 : Cond.methodLink "StatePressModel" 322 yX12_layCells ∈ TBg := TB7 12 rfl rfl
set_option maxRecDepth 20000 in
theorem kw_1557 : Cond.instanceMethod yX12_layCells ∈ TBg := TB7 14 rfl rfl
set_option maxRecDepth 20000 in
theorem kw_1558 : Cond.code yX12_layCells cX12_layCells 7 none ∈ TBg := TB7 15 rfl rfl
set_option maxRecDepth 20000 in
theorem kw_1559 : Cond.methodLink "StatePressModel" 326 yX12_putStream ∈ TBg := TB7 16 rfl rfl
set_option maxRecDepth 20000 in
theorem kw_1561 : Cond.instanceMethod yX12_putStream ∈ TBg := TB7 18 rfl rfl
set_option maxRecDepth 20000 in
theorem kw_1562 : Cond.code yX12_putStream cX12_putStream 6 none ∈ TBg := TB7 19 rfl rfl
set_option maxRecDepth 20000 in
theorem kw_1563 : Cond.methodLink "StatePressModel" 329 yX12_putFour ∈ TBg := TB7 20 rfl rfl
set_option maxRecDepth 20000 in
theorem kw_1565 : Cond.instanceMethod yX12_putFour ∈ TBg := TB7 22 rfl rfl
set_option maxRecDepth 20000 in
theorem kw_1566 : Cond.code yX12_putFour cX12_putFour 3 none ∈ TBg := TB7 23 rfl rfl
set_option maxRecDepth 20000 in
theorem kw_1567 : Cond.methodLink "StatePressModel" 382 yX12_tellAll ∈ TBg := TB7 24 rfl rfl
set_option maxRecDepth 20000 in
theorem kw_1569 : Cond.instanceMethod yX12_tellAll ∈ TBg := TB7 26 rfl rfl
set_option maxRecDepth 20000 in
theorem kw_1570 : Cond.code yX12_tellAll cX12_tellAll 5 none ∈ TBg := TB7 27 rfl rfl
set_option maxRecDepth 20000 in
theorem kw_1571 : Cond.methodLink "StatePressModel" 195 yX12_literalBits ∈ TBg := TB7 28 rfl rfl
set_option maxRecDepth 20000 in
theorem kw_1572 : Cond.static yX12_literalBits ∈ TBg := TB7 29 rfl rfl
set_option maxRecDepth 20000 in
theorem kw_1573 : Cond.code yX12_literalBits cX12_literalBits 1 (some .int) ∈ TBg := TB7 30 rfl rfl
set_option maxRecDepth 20000 in
theorem kw_1574 : Cond.methodLink "StatePressModel" 198 yX12_tell ∈ TBg := TB7 31 rfl rfl
set_option maxRecDepth 20000 in
theorem kw_1576 : Cond.instanceMethod yX12_tell ∈ TBg := TB7 33 rfl rfl
set_option maxRecDepth 20000 in
theorem kw_1577 : Cond.code yX12_tell cX12_tell 6 none ∈ TBg := TB7 34 rfl rfl
set_option maxRecDepth 20000 in
theorem kw_1578 : Cond.methodLink "StatePressModel" 202 yX12_matchBits ∈ TBg := TB7 35 rfl rfl
set_option maxRecDepth 20000 in
theorem kw_1579 : Cond.static yX12_matchBits ∈ TBg := TB7 36 rfl rfl
set_option maxRecDepth 20000 in
theorem kw_1580 : Cond.code yX12_matchBits cX12_matchBits 1 (some .int) ∈ TBg := TB7 37 rfl rfl
set_option maxRecDepth 20000 in
theorem kw_1581 : Cond.methodLink "StatePressModel" 205 yX12_number ∈ TBg := TB7 38 rfl rfl
set_option maxRecDepth 20000 in
theorem kw_1583 : Cond.instanceMethod yX12_number ∈ TBg := TB7 40 rfl rfl
set_option maxRecDepth 20000 in
theorem kw_1584 : Cond.code yX12_number cX12_number 6 (some .int) ∈ TBg := TB7 41 rfl rfl
set_option maxRecDepth 20000 in
theorem kw_1585 : Cond.methodLink "StatePressModel" 385 yX12_saySequences ∈ TBg := TB7 42 rfl rfl
set_option maxRecDepth 20000 in
theorem kw_1587 : Cond.instanceMethod yX12_saySequences ∈ TBg := TB7 44 rfl rfl
set_option maxRecDepth 20000 in
theorem kw_1588 : Cond.code yX12_saySequences cX12_saySequences 6 none ∈ TBg := TB7 45 rfl rfl
set_option maxRecDepth 20000 in
theorem kw_1589 : Cond.methodLink "StatePressModel" 353 yX12_sayTable ∈ TBg := TB7 46 rfl rfl
set_option maxRecDepth 20000 in
theorem kw_1591 : Cond.instanceMethod yX12_sayTable ∈ TBg := TB7 48 rfl rfl
set_option maxRecDepth 20000 in
theorem kw_1592 : Cond.code yX12_sayTable cX12_sayTable 11 (some .int) ∈ TBg := TB7 49 rfl rfl
set_option maxRecDepth 20000 in
theorem kw_1593 : Cond.methodLink "StatePressModel" 232 yX12_countSymbols ∈ TBg := TB7 50 rfl rfl
set_option maxRecDepth 20000 in
theorem kw_1595 : Cond.instanceMethod yX12_countSymbols ∈ TBg := TB7 52 rfl rfl
set_option maxRecDepth 20000 in
theorem kw_1596 : Cond.code yX12_countSymbols cX12_countSymbols 5 (some .int) ∈ TBg := TB7 53 rfl rfl
set_option maxRecDepth 20000 in
theorem kw_1597 : Cond.methodLink "StatePressModel" 332 yX12_know ∈ TBg := TB7 54 rfl rfl
set_option maxRecDepth 20000 in
theorem kw_1599 : Cond.instanceMethod yX12_know ∈ TBg := TB7 56 rfl rfl
set_option maxRecDepth 20000 in
theorem kw_1600 : Cond.code yX12_know cX12_know 3 (some .int) ∈ TBg := TB7 57 rfl rfl
set_option maxRecDepth 20000 in
theorem kw_1601 : Cond.methodLink "StatePressModel" 252 yX12_run ∈ TBg := TB7 58 rfl rfl
set_option maxRecDepth 20000 in
theorem kw_1603 : Cond.instanceMethod yX12_run ∈ TBg := TB7 60 rfl rfl
set_option maxRecDepth 20000 in
theorem kw_1604 : Cond.code yX12_run cX12_run 5 (some .int) ∈ TBg := TB7 61 rfl rfl
set_option maxRecDepth 20000 in
theorem kw_1605 : Cond.methodLink "StatePressModel" 248 yX12_rowCost ∈ TBg := TB7 62 rfl rfl
set_option maxRecDepth 20000 in
theorem kw_1607 : Cond.instanceMethod yX12_rowCost ∈ TBg := TB7 64 rfl rfl
set_option maxRecDepth 20000 in
theorem kw_1608 : Cond.code yX12_rowCost cX12_rowCost 8 (some .int) ∈ TBg := TB7 65 rfl rfl
set_option maxRecDepth 20000 in
theorem kw_1609 : Cond.methodLink "StatePressModel" 335 yX12_bestOrder ∈ TBg := TB7 66 rfl rfl
set_option maxRecDepth 20000 in
theorem kw_1611 : Cond.instanceMethod yX12_bestOrder ∈ TBg := TB7 68 rfl rfl
set_option maxRecDepth 20000 in
theorem kw_1612 : Cond.code yX12_bestOrder cX12_bestOrder 7 (some .int) ∈ TBg := TB7 69 rfl rfl
set_option maxRecDepth 20000 in
theorem kw_1613 : Cond.methodLink "StatePressModel" 235 yX12_shareCost ∈ TBg := TB7 70 rfl rfl
set_option maxRecDepth 20000 in
theorem kw_1615 : Cond.instanceMethod yX12_shareCost ∈ TBg := TB7 72 rfl rfl
set_option maxRecDepth 20000 in
theorem kw_1616 : Cond.code yX12_shareCost cX12_shareCost 3 (some .int) ∈ TBg := TB7 73 rfl rfl
set_option maxRecDepth 20000 in
theorem kw_1617 : Cond.methodLink "StatePressModel" 338 yX12_asItWas ∈ TBg := TB7 74 rfl rfl
set_option maxRecDepth 20000 in
theorem kw_1619 : Cond.instanceMethod yX12_asItWas ∈ TBg := TB7 76 rfl rfl
set_option maxRecDepth 20000 in
theorem kw_1620 : Cond.code yX12_asItWas cX12_asItWas 4 (some .int) ∈ TBg := TB7 77 rfl rfl
set_option maxRecDepth 20000 in
theorem kw_1621 : Cond.methodLink "StatePressModel" 356 yX12_sayStream ∈ TBg := TB7 78 rfl rfl
set_option maxRecDepth 20000 in
theorem kw_1623 : Cond.instanceMethod yX12_sayStream ∈ TBg := TB7 80 rfl rfl
set_option maxRecDepth 20000 in
theorem kw_1624 : Cond.code yX12_sayStream cX12_sayStream 5 none ∈ TBg := TB7 81 rfl rfl
set_option maxRecDepth 20000 in
theorem kw_1625 : Cond.methodLink "StatePressModel" 344 yX12_lastState ∈ TBg := TB7 82 rfl rfl
set_option maxRecDepth 20000 in
theorem kw_1627 : Cond.instanceMethod yX12_lastState ∈ TBg := TB7 84 rfl rfl
set_option maxRecDepth 20000 in
theorem kw_1628 : Cond.code yX12_lastState cX12_lastState 2 (some .int) ∈ TBg := TB7 85 rfl rfl
set_option maxRecDepth 20000 in
theorem kw_1629 : Cond.methodLink "StatePressModel" 347 yX12_putAllMore ∈ TBg := TB7 86 rfl rfl
set_option maxRecDepth 20000 in
theorem kw_1631 : Cond.instanceMethod yX12_putAllMore ∈ TBg := TB7 88 rfl rfl
set_option maxRecDepth 20000 in
theorem kw_1632 : Cond.code yX12_putAllMore cX12_putAllMore 2 none ∈ TBg := TB7 89 rfl rfl
set_option maxRecDepth 20000 in
theorem kw_1633 : Cond.methodLink "StatePressModel" 341 yX12_putMore ∈ TBg := TB7 90 rfl rfl
set_option maxRecDepth 20000 in
theorem kw_1635 : Cond.instanceMethod yX12_putMore ∈ TBg := TB7 92 rfl rfl
set_option maxRecDepth 20000 in
theorem kw_1636 : Cond.code yX12_putMore cX12_putMore 3 none ∈ TBg := TB7 93 rfl rfl
set_option maxRecDepth 20000 in
theorem kw_1637 : Cond.methodLink "StatePressModel" 350 yX12_putState ∈ TBg := TB7 94 rfl rfl
set_option maxRecDepth 20000 in
theorem kw_1639 : Cond.instanceMethod yX12_putState ∈ TBg := TB7 96 rfl rfl
set_option maxRecDepth 20000 in
theorem kw_1640 : Cond.code yX12_putState cX12_putState 5 (some .int) ∈ TBg := TB7 97 rfl rfl
set_option maxRecDepth 20000 in
theorem kw_1641 : Cond.methodLink "StatePressModel" 388 yX12_restore ∈ TBg := TB7 98 rfl rfl
set_option maxRecDepth 20000 in
theorem kw_1643 : Cond.instanceMethod yX12_restore ∈ TBg := TB7 100 rfl rfl
set_option maxRecDepth 20000 in
theorem kw_1644 : Cond.code yX12_restore cX12_restore 2 none ∈ TBg := TB7 101 rfl rfl
set_option maxRecDepth 20000 in
theorem kw_1645 : Cond.methodLink "StatePressModel" 409 yX12_sum ∈ TBg := TB7 102 rfl rfl
set_option maxRecDepth 20000 in
theorem kw_1647 : Cond.instanceMethod yX12_sum ∈ TBg := TB7 104 rfl rfl
set_option maxRecDepth 20000 in
theorem kw_1648 : Cond.code yX12_sum cX12_sum 15 (some .long) ∈ TBg := TB7 105 rfl rfl
set_option maxRecDepth 20000 in
theorem kw_1649 : Cond.constantLong "StatePressModel" 416 (-7046029288634856825) ∈ TBg := TB7 106 rfl rfl
set_option maxRecDepth 20000 in
theorem kw_1650 : Cond.constantLong "StatePressModel" 418 (-4417276706812531889) ∈ TBg := TB7 107 rfl rfl
set_option maxRecDepth 20000 in
theorem kw_1651 : Cond.constantLong "StatePressModel" 420 1609587929392839161 ∈ TBg := TB7 108 rfl rfl
set_option maxRecDepth 20000 in
theorem kw_1652 : Cond.constantLong "StatePressModel" 422 (-8796714831421723037) ∈ TBg := TB7 109 rfl rfl
set_option maxRecDepth 20000 in
theorem kw_1653 : Cond.constantLong "StatePressModel" 424 2870177450012600261 ∈ TBg := TB7 110 rfl rfl
set_option maxRecDepth 20000 in
theorem kw_1654 : Cond.methodLink "StatePressModel" 426 yX12_wordAt ∈ TBg := TB7 111 rfl rfl
set_option maxRecDepth 20000 in
theorem kw_1656 : Cond.instanceMethod yX12_wordAt ∈ TBg := TB7 113 rfl rfl
set_option maxRecDepth 20000 in
theorem kw_1657 : Cond.code yX12_wordAt cX12_wordAt 6 (some .long) ∈ TBg := TB7 114 rfl rfl
set_option maxRecDepth 20000 in
theorem kw_1658 : Cond.methodLink "StatePressModel" 430 yX12_rotated ∈ TBg := TB7 115 rfl rfl
set_option maxRecDepth 20000 in
theorem kw_1659 : Cond.static yX12_rotated ∈ TBg := TB7 116 rfl rfl
set_option maxRecDepth 20000 in
theorem kw_1660 : Cond.code yX12_rotated cX12_rotated 3 (some .long) ∈ TBg := TB7 117 rfl rfl
set_option maxRecDepth 20000 in
theorem kw_1661 : Cond.methodLink "StatePressModel" 413 yX12_show ∈ TBg := TB7 118 rfl rfl
set_option maxRecDepth 20000 in
theorem kw_1663 : Cond.instanceMethod yX12_show ∈ TBg := TB7 120 rfl rfl
set_option maxRecDepth 20000 in
theorem kw_1664 : Cond.code yX12_show cX12_show 2 (some .int) ∈ TBg := TB7 121 rfl rfl
set_option maxRecDepth 20000 in
theorem kw_1673 : Cond.constant "StatePressModel" 434 65536 ∈ TBg := TB7 130 rfl rfl
set_option maxRecDepth 20000 in
theorem kw_1674 : Cond.constantLong "StatePressModel" 435 3962610743 ∈ TBg := TB7 131 rfl rfl
set_option maxRecDepth 20000 in
theorem kw_1675 : Cond.constantLong "StatePressModel" 437 4 ∈ TBg := TB7 132 rfl rfl
set_option maxRecDepth 20000 in
theorem kw_1676 : Cond.constantLong "StatePressModel" 439 8 ∈ TBg := TB7 133 rfl rfl
set_option maxRecDepth 20000 in
theorem kw_1685 : Cond.methodLink "StatePressModel" 463 yX12_readDescription ∈ TBg := TB7 142 rfl rfl
set_option maxRecDepth 20000 in
theorem kw_1687 : Cond.instanceMethod yX12_readDescription ∈ TBg := TB7 144 rfl rfl
set_option maxRecDepth 20000 in
theorem kw_1688 : Cond.code yX12_readDescription cX12_readDescription 9 (some .int) ∈ TBg := TB7 145 rfl rfl
set_option maxRecDepth 20000 in
theorem kw_1689 : Cond.methodLink "StatePressModel" 459 yX12_readWeights ∈ TBg := TB7 146 rfl rfl
set_option maxRecDepth 20000 in
theorem kw_1691 : Cond.instanceMethod yX12_readWeights ∈ TBg := TB7 148 rfl rfl
set_option maxRecDepth 20000 in
theorem kw_1692 : Cond.code yX12_readWeights cX12_readWeights 7 (some .boolean) ∈ TBg := TB7 149 rfl rfl
set_option maxRecDepth 20000 in
theorem kw_1693 : Cond.methodLink "StatePressModel" 450 yX12_readShare ∈ TBg := TB7 150 rfl rfl
set_option maxRecDepth 20000 in
theorem kw_1695 : Cond.instanceMethod yX12_readShare ∈ TBg := TB7 152 rfl rfl
set_option maxRecDepth 20000 in
theorem kw_1696 : Cond.code yX12_readShare cX12_readShare 11 (some .int) ∈ TBg := TB7 153 rfl rfl
set_option maxRecDepth 20000 in
theorem kw_1697 : Cond.methodLink "StatePressModel" 447 yX12_take ∈ TBg := TB7 154 rfl rfl
set_option maxRecDepth 20000 in
theorem kw_1699 : Cond.instanceMethod yX12_take ∈ TBg := TB7 156 rfl rfl
set_option maxRecDepth 20000 in
theorem kw_1700 : Cond.code yX12_take cX12_take 4 (some .int) ∈ TBg := TB7 157 rfl rfl
set_option maxRecDepth 20000 in
theorem kw_1701 : Cond.methodLink "StatePressModel" 456 yX12_takeDown ∈ TBg := TB7 158 rfl rfl
set_option maxRecDepth 20000 in
theorem kw_1703 : Cond.instanceMethod yX12_takeDown ∈ TBg := TB7 160 rfl rfl
set_option maxRecDepth 20000 in
theorem kw_1704 : Cond.code yX12_takeDown cX12_takeDown 4 (some .int) ∈ TBg := TB7 161 rfl rfl
set_option maxRecDepth 20000 in
theorem lX0 : ∀ w ∈ u_ws RX0 TX0 5, w ∈ TBg := by
  intro w hw
  obtain ⟨k, hk, rfl⟩ := List.mem_map.mp hw
  have hk := List.mem_range.mp hk
  match k, hk with
  | 0, _ => exact TB1 83 rfl rfl
  | 1, _ => exact TB1 85 rfl rfl
  | 2, _ => exact TB1 87 rfl rfl
  | 3, _ => exact TB1 89 rfl rfl
  | 4, _ => exact TB1 91 rfl rfl
  | k + 5, h => exact absurd h (by omega)
set_option maxRecDepth 20000 in
theorem lX1 : ∀ w ∈ u_ws RX1 TX1 18, w ∈ TBg := by
  intro w hw
  obtain ⟨k, hk, rfl⟩ := List.mem_map.mp hw
  have hk := List.mem_range.mp hk
  match k, hk with
  | 0, _ => exact TB2 104 rfl rfl
  | 1, _ => exact TB2 106 rfl rfl
  | 2, _ => exact TB2 108 rfl rfl
  | 3, _ => exact TB2 110 rfl rfl
  | 4, _ => exact TB2 112 rfl rfl
  | 5, _ => exact TB2 114 rfl rfl
  | 6, _ => exact TB2 116 rfl rfl
  | 7, _ => exact TB2 118 rfl rfl
  | 8, _ => exact TB2 120 rfl rfl
  | 9, _ => exact TB2 122 rfl rfl
  | 10, _ => exact TB2 124 rfl rfl
  | 11, _ => exact TB2 126 rfl rfl
  | 12, _ => exact TB2 128 rfl rfl
  | 13, _ => exact TB2 130 rfl rfl
  | 14, _ => exact TB2 132 rfl rfl
  | 15, _ => exact TB2 134 rfl rfl
  | 16, _ => exact TB2 136 rfl rfl
  | 17, _ => exact TB2 138 rfl rfl
  | k + 18, h => exact absurd h (by omega)
set_option maxRecDepth 20000 in
theorem lX2 : ∀ w ∈ u_ws RX2 TX2 5, w ∈ TBg := by
  intro w hw
  obtain ⟨k, hk, rfl⟩ := List.mem_map.mp hw
  have hk := List.mem_range.mp hk
  match k, hk with
  | 0, _ => exact TB1 175 rfl rfl
  | 1, _ => exact TB1 177 rfl rfl
  | 2, _ => exact TB1 179 rfl rfl
  | 3, _ => exact TB1 181 rfl rfl
  | 4, _ => exact TB1 183 rfl rfl
  | k + 5, h => exact absurd h (by omega)
set_option maxRecDepth 20000 in
theorem lX3 : ∀ w ∈ u_ws RX3 TX3 13, w ∈ TBg := by
  intro w hw
  obtain ⟨k, hk, rfl⟩ := List.mem_map.mp hw
  have hk := List.mem_range.mp hk
  match k, hk with
  | 0, _ => exact TB1 213 rfl rfl
  | 1, _ => exact TB1 215 rfl rfl
  | 2, _ => exact TB1 217 rfl rfl
  | 3, _ => exact TB1 219 rfl rfl
  | 4, _ => exact TB1 221 rfl rfl
  | 5, _ => exact TB1 223 rfl rfl
  | 6, _ => exact TB1 225 rfl rfl
  | 7, _ => exact TB1 227 rfl rfl
  | 8, _ => exact TB1 229 rfl rfl
  | 9, _ => exact TB1 231 rfl rfl
  | 10, _ => exact TB1 233 rfl rfl
  | 11, _ => exact TB1 235 rfl rfl
  | 12, _ => exact TB1 237 rfl rfl
  | k + 13, h => exact absurd h (by omega)
set_option maxRecDepth 20000 in
theorem lX4 : ∀ w ∈ u_ws RX4 TX4 5, w ∈ TBg := by
  intro w hw
  obtain ⟨k, hk, rfl⟩ := List.mem_map.mp hw
  have hk := List.mem_range.mp hk
  match k, hk with
  | 0, _ => exact TB2 19 rfl rfl
  | 1, _ => exact TB2 21 rfl rfl
  | 2, _ => exact TB2 23 rfl rfl
  | 3, _ => exact TB2 25 rfl rfl
  | 4, _ => exact TB2 27 rfl rfl
  | k + 5, h => exact absurd h (by omega)
set_option maxRecDepth 20000 in
theorem lX5 : ∀ w ∈ u_ws RX5 TX5 12, w ∈ TBg := by
  intro w hw
  obtain ⟨k, hk, rfl⟩ := List.mem_map.mp hw
  have hk := List.mem_range.mp hk
  match k, hk with
  | 0, _ => exact TB2 45 rfl rfl
  | 1, _ => exact TB2 47 rfl rfl
  | 2, _ => exact TB2 49 rfl rfl
  | 3, _ => exact TB2 51 rfl rfl
  | 4, _ => exact TB2 53 rfl rfl
  | 5, _ => exact TB2 55 rfl rfl
  | 6, _ => exact TB2 57 rfl rfl
  | 7, _ => exact TB2 59 rfl rfl
  | 8, _ => exact TB2 61 rfl rfl
  | 9, _ => exact TB2 63 rfl rfl
  | 10, _ => exact TB2 65 rfl rfl
  | 11, _ => exact TB2 67 rfl rfl
  | k + 12, h => exact absurd h (by omega)
set_option maxRecDepth 20000 in
theorem lX6 : ∀ w ∈ u_ws RX6 TX6 9, w ∈ TBg := by
  intro w hw
  obtain ⟨k, hk, rfl⟩ := List.mem_map.mp hw
  have hk := List.mem_range.mp hk
  match k, hk with
  | 0, _ => exact TB2 202 rfl rfl
  | 1, _ => exact TB2 204 rfl rfl
  | 2, _ => exact TB2 206 rfl rfl
  | 3, _ => exact TB2 208 rfl rfl
  | 4, _ => exact TB2 210 rfl rfl
  | 5, _ => exact TB2 212 rfl rfl
  | 6, _ => exact TB2 214 rfl rfl
  | 7, _ => exact TB2 216 rfl rfl
  | 8, _ => exact TB2 218 rfl rfl
  | k + 9, h => exact absurd h (by omega)
set_option maxRecDepth 20000 in
theorem lX7 : ∀ w ∈ u_ws RX7 TX7 5, w ∈ TBg := by
  intro w hw
  obtain ⟨k, hk, rfl⟩ := List.mem_map.mp hw
  have hk := List.mem_range.mp hk
  match k, hk with
  | 0, _ => exact TB1 48 rfl rfl
  | 1, _ => exact TB1 50 rfl rfl
  | 2, _ => exact TB1 52 rfl rfl
  | 3, _ => exact TB1 54 rfl rfl
  | 4, _ => exact TB1 56 rfl rfl
  | k + 5, h => exact absurd h (by omega)
set_option maxRecDepth 20000 in
theorem lX8 : ∀ w ∈ u_ws RX8 TX8 9, w ∈ TBg := by
  intro w hw
  obtain ⟨k, hk, rfl⟩ := List.mem_map.mp hw
  have hk := List.mem_range.mp hk
  match k, hk with
  | 0, _ => exact TB1 115 rfl rfl
  | 1, _ => exact TB1 117 rfl rfl
  | 2, _ => exact TB1 119 rfl rfl
  | 3, _ => exact TB1 121 rfl rfl
  | 4, _ => exact TB1 123 rfl rfl
  | 5, _ => exact TB1 125 rfl rfl
  | 6, _ => exact TB1 127 rfl rfl
  | 7, _ => exact TB1 129 rfl rfl
  | 8, _ => exact TB1 131 rfl rfl
  | k + 9, h => exact absurd h (by omega)
set_option maxRecDepth 20000 in
theorem lX9 : ∀ w ∈ u_ws RX9 TX9 6, w ∈ TBg := by
  intro w hw
  obtain ⟨k, hk, rfl⟩ := List.mem_map.mp hw
  have hk := List.mem_range.mp hk
  match k, hk with
  | 0, _ => exact TB1 147 rfl rfl
  | 1, _ => exact TB1 149 rfl rfl
  | 2, _ => exact TB1 151 rfl rfl
  | 3, _ => exact TB1 153 rfl rfl
  | 4, _ => exact TB1 155 rfl rfl
  | 5, _ => exact TB1 157 rfl rfl
  | k + 6, h => exact absurd h (by omega)
set_option maxRecDepth 20000 in
theorem lX11 : ∀ w ∈ u_ws RX11 TX11 12, w ∈ TBg := by
  intro w hw
  obtain ⟨k, hk, rfl⟩ := List.mem_map.mp hw
  have hk := List.mem_range.mp hk
  match k, hk with
  | 0, _ => exact TB2 233 rfl rfl
  | 1, _ => exact TB2 235 rfl rfl
  | 2, _ => exact TB2 237 rfl rfl
  | 3, _ => exact TB2 239 rfl rfl
  | 4, _ => exact TB3 1 rfl rfl
  | 5, _ => exact TB3 3 rfl rfl
  | 6, _ => exact TB3 5 rfl rfl
  | 7, _ => exact TB3 7 rfl rfl
  | 8, _ => exact TB3 9 rfl rfl
  | 9, _ => exact TB3 11 rfl rfl
  | 10, _ => exact TB3 13 rfl rfl
  | 11, _ => exact TB3 15 rfl rfl
  | k + 12, h => exact absurd h (by omega)
set_option maxRecDepth 20000 in
theorem lX12 : ∀ w ∈ u_ws RX12 TX12 64, w ∈ TBg := by
  intro w hw
  obtain ⟨k, hk, rfl⟩ := List.mem_map.mp hw
  have hk := List.mem_range.mp hk
  match k, hk with
  | 0, _ => exact TB5 186 rfl rfl
  | 1, _ => exact TB5 188 rfl rfl
  | 2, _ => exact TB5 190 rfl rfl
  | 3, _ => exact TB5 192 rfl rfl
  | 4, _ => exact TB5 194 rfl rfl
  | 5, _ => exact TB5 196 rfl rfl
  | 6, _ => exact TB5 198 rfl rfl
  | 7, _ => exact TB5 200 rfl rfl
  | 8, _ => exact TB5 202 rfl rfl
  | 9, _ => exact TB5 204 rfl rfl
  | 10, _ => exact TB5 206 rfl rfl
  | 11, _ => exact TB5 208 rfl rfl
  | 12, _ => exact TB5 210 rfl rfl
  | 13, _ => exact TB5 212 rfl rfl
  | 14, _ => exact TB5 214 rfl rfl
  | 15, _ => exact TB5 216 rfl rfl
  | 16, _ => exact TB5 218 rfl rfl
  | 17, _ => exact TB5 220 rfl rfl
  | 18, _ => exact TB5 222 rfl rfl
  | 19, _ => exact TB5 224 rfl rfl
  | 20, _ => exact TB5 226 rfl rfl
  | 21, _ => exact TB5 228 rfl rfl
  | 22, _ => exact TB5 230 rfl rfl
  | 23, _ => exact TB5 232 rfl rfl
  | 24, _ => exact TB5 234 rfl rfl
  | 25, _ => exact TB5 236 rfl rfl
  | 26, _ => exact TB5 238 rfl rfl
  | 27, _ => exact TB6 0 rfl rfl
  | 28, _ => exact TB6 2 rfl rfl
  | 29, _ => exact TB6 4 rfl rfl
  | 30, _ => exact TB6 6 rfl rfl
  | 31, _ => exact TB6 8 rfl rfl
  | 32, _ => exact TB6 10 rfl rfl
  | 33, _ => exact TB6 12 rfl rfl
  | 34, _ => exact TB6 14 rfl rfl
  | 35, _ => exact TB6 16 rfl rfl
  | 36, _ => exact TB6 18 rfl rfl
  | 37, _ => exact TB6 20 rfl rfl
  | 38, _ => exact TB6 22 rfl rfl
  | 39, _ => exact TB6 24 rfl rfl
  | 40, _ => exact TB6 26 rfl rfl
  | 41, _ => exact TB6 28 rfl rfl
  | 42, _ => exact TB6 30 rfl rfl
  | 43, _ => exact TB6 32 rfl rfl
  | 44, _ => exact TB6 34 rfl rfl
  | 45, _ => exact TB6 36 rfl rfl
  | 46, _ => exact TB6 38 rfl rfl
  | 47, _ => exact TB6 40 rfl rfl
  | 48, _ => exact TB6 42 rfl rfl
  | 49, _ => exact TB6 44 rfl rfl
  | 50, _ => exact TB6 46 rfl rfl
  | 51, _ => exact TB6 48 rfl rfl
  | 52, _ => exact TB6 50 rfl rfl
  | 53, _ => exact TB6 52 rfl rfl
  | 54, _ => exact TB6 54 rfl rfl
  | 55, _ => exact TB6 56 rfl rfl
  | 56, _ => exact TB6 58 rfl rfl
  | 57, _ => exact TB6 60 rfl rfl
  | 58, _ => exact TB6 62 rfl rfl
  | 59, _ => exact TB6 64 rfl rfl
  | 60, _ => exact TB6 66 rfl rfl
  | 61, _ => exact TB6 68 rfl rfl
  | 62, _ => exact TB6 70 rfl rfl
  | 63, _ => exact TB6 72 rfl rfl
  | k + 64, h => exact absurd h (by omega)
def tyOk : FieldType → Bool
  | .byte => false
  | .char => false
  | .short => false
  | _ => true
theorem tOk {ty : FieldType} (h : tyOk ty = true := by rfl) : ty ≠ .byte ∧ ty ≠ .char ∧ ty ≠ .short := ⟨(fun e => by rw [e] at h; cases h), (fun e => by rw [e] at h; cases h), (fun e => by rw [e] at h; cases h)⟩
theorem gX0 {own : String} {i f0 : Nat} (hk : f0 < 5) (hm : Cond.fieldLink own i (TX0 f0).1 (TX0 f0).2.1 (TX0 f0).2.2.1 ∈ TBg) {cc : ByteArray} {nL : Nat} {nm : String} {pc : Nat} (d : decode cc pc = .ok (.getfield i, 3)) : Okf cc nL own nm pc (a_get 0 f0 (pc + 3)) := s_get (C := RX0) (T := TX0) (N := 5) rfl hk lX0 hm d
theorem pX0 {own : String} {i f0 : Nat} {ty : FieldType} (hk : f0 < 5) (hfin : (TX0 f0).2.2.2 = false) (ht : tyX0 f0 = ty) (htb : ty ≠ .byte ∧ ty ≠ .char ∧ ty ≠ .short) (hm : Cond.fieldLink own i (TX0 f0).1 (TX0 f0).2.1 (TX0 f0).2.2.1 ∈ TBg) {cc : ByteArray} {nL : Nat} {nm : String} {pc : Nat} (d : decode cc pc = .ok (.putfield i, 3)) : Okf cc nL own nm pc (a_put 0 f0 ty (pc + 3)) := s_put (C := RX0) (T := TX0) (N := 5) tyX0 tyX0_ok nmX0 rfl hk lX0 hfin ht htb hm d
theorem fX0 {own : String} {i f0 : Nat} {ty : FieldType} (hk : f0 < 5) (hfin : (TX0 f0).2.2.2 = true) (hdecl : (TX0 f0).1 = own) (ht : tyX0 f0 = ty) (htb : ty ≠ .byte ∧ ty ≠ .char ∧ ty ≠ .short) (hm : Cond.fieldLink own i (TX0 f0).1 (TX0 f0).2.1 (TX0 f0).2.2.1 ∈ TBg) {cc : ByteArray} {nL : Nat} {pc : Nat} (d : decode cc pc = .ok (.putfield i, 3)) : Okf cc nL own "<init>" pc (a_put 0 f0 ty (pc + 3)) := s_putF (C := RX0) (T := TX0) (N := 5) tyX0 tyX0_ok nmX0 rfl hk lX0 hfin hdecl ht htb hm d
theorem nX0 {own : String} {i : Nat} (hm : Cond.classLink own i RX0 ∈ TBg) {cc : ByteArray} {nL : Nat} {nm : String} {pc : Nat} (d : decode cc pc = .ok (.new i, 3)) : Okf cc nL own nm pc (a_new 0 5 zX0 (pc + 3)) := s_new (C := RX0) (T := TX0) (N := 5) tyX0 tyX0_ok rfl lX0 (by decide +kernel) (fun _ _ => rfl) hm kw_172 kw_108 d
theorem gX1 {own : String} {i f0 : Nat} (hk : f0 < 18) (hm : Cond.fieldLink own i (TX1 f0).1 (TX1 f0).2.1 (TX1 f0).2.2.1 ∈ TBg) {cc : ByteArray} {nL : Nat} {nm : String} {pc : Nat} (d : decode cc pc = .ok (.getfield i, 3)) : Okf cc nL own nm pc (a_get 1 f0 (pc + 3)) := s_get (C := RX1) (T := TX1) (N := 18) rfl hk lX1 hm d
theorem pX1 {own : String} {i f0 : Nat} {ty : FieldType} (hk : f0 < 18) (hfin : (TX1 f0).2.2.2 = false) (ht : tyX1 f0 = ty) (htb : ty ≠ .byte ∧ ty ≠ .char ∧ ty ≠ .short) (hm : Cond.fieldLink own i (TX1 f0).1 (TX1 f0).2.1 (TX1 f0).2.2.1 ∈ TBg) {cc : ByteArray} {nL : Nat} {nm : String} {pc : Nat} (d : decode cc pc = .ok (.putfield i, 3)) : Okf cc nL own nm pc (a_put 1 f0 ty (pc + 3)) := s_put (C := RX1) (T := TX1) (N := 18) tyX1 tyX1_ok nmX1 rfl hk lX1 hfin ht htb hm d
theorem fX1 {own : String} {i f0 : Nat} {ty : FieldType} (hk : f0 < 18) (hfin : (TX1 f0).2.2.2 = true) (hdecl : (TX1 f0).1 = own) (ht : tyX1 f0 = ty) (htb : ty ≠ .byte ∧ ty ≠ .char ∧ ty ≠ .short) (hm : Cond.fieldLink own i (TX1 f0).1 (TX1 f0).2.1 (TX1 f0).2.2.1 ∈ TBg) {cc : ByteArray} {nL : Nat} {pc : Nat} (d : decode cc pc = .ok (.putfield i, 3)) : Okf cc nL own "<init>" pc (a_put 1 f0 ty (pc + 3)) := s_putF (C := RX1) (T := TX1) (N := 18) tyX1 tyX1_ok nmX1 rfl hk lX1 hfin hdecl ht htb hm d
theorem nX1 {own : String} {i : Nat} (hm : Cond.classLink own i RX1 ∈ TBg) {cc : ByteArray} {nL : Nat} {nm : String} {pc : Nat} (d : decode cc pc = .ok (.new i, 3)) : Okf cc nL own nm pc (a_new 1 18 zX1 (pc + 3)) := s_new (C := RX1) (T := TX1) (N := 18) tyX1 tyX1_ok rfl lX1 (by decide +kernel) (fun _ _ => rfl) hm kw_414 kw_115 d
theorem gX2 {own : String} {i f0 : Nat} (hk : f0 < 5) (hm : Cond.fieldLink own i (TX2 f0).1 (TX2 f0).2.1 (TX2 f0).2.2.1 ∈ TBg) {cc : ByteArray} {nL : Nat} {nm : String} {pc : Nat} (d : decode cc pc = .ok (.getfield i, 3)) : Okf cc nL own nm pc (a_get 2 f0 (pc + 3)) := s_get (C := RX2) (T := TX2) (N := 5) rfl hk lX2 hm d
theorem pX2 {own : String} {i f0 : Nat} {ty : FieldType} (hk : f0 < 5) (hfin : (TX2 f0).2.2.2 = false) (ht : tyX2 f0 = ty) (htb : ty ≠ .byte ∧ ty ≠ .char ∧ ty ≠ .short) (hm : Cond.fieldLink own i (TX2 f0).1 (TX2 f0).2.1 (TX2 f0).2.2.1 ∈ TBg) {cc : ByteArray} {nL : Nat} {nm : String} {pc : Nat} (d : decode cc pc = .ok (.putfield i, 3)) : Okf cc nL own nm pc (a_put 2 f0 ty (pc + 3)) := s_put (C := RX2) (T := TX2) (N := 5) tyX2 tyX2_ok nmX2 rfl hk lX2 hfin ht htb hm d
theorem fX2 {own : String} {i f0 : Nat} {ty : FieldType} (hk : f0 < 5) (hfin : (TX2 f0).2.2.2 = true) (hdecl : (TX2 f0).1 = own) (ht : tyX2 f0 = ty) (htb : ty ≠ .byte ∧ ty ≠ .char ∧ ty ≠ .short) (hm : Cond.fieldLink own i (TX2 f0).1 (TX2 f0).2.1 (TX2 f0).2.2.1 ∈ TBg) {cc : ByteArray} {nL : Nat} {pc : Nat} (d : decode cc pc = .ok (.putfield i, 3)) : Okf cc nL own "<init>" pc (a_put 2 f0 ty (pc + 3)) := s_putF (C := RX2) (T := TX2) (N := 5) tyX2 tyX2_ok nmX2 rfl hk lX2 hfin hdecl ht htb hm d
theorem nX2 {own : String} {i : Nat} (hm : Cond.classLink own i RX2 ∈ TBg) {cc : ByteArray} {nL : Nat} {nm : String} {pc : Nat} (d : decode cc pc = .ok (.new i, 3)) : Okf cc nL own nm pc (a_new 2 5 zX2 (pc + 3)) := s_new (C := RX2) (T := TX2) (N := 5) tyX2 tyX2_ok rfl lX2 (by decide +kernel) (fun _ _ => rfl) hm kw_264 kw_110 d
theorem gX3 {own : String} {i f0 : Nat} (hk : f0 < 13) (hm : Cond.fieldLink own i (TX3 f0).1 (TX3 f0).2.1 (TX3 f0).2.2.1 ∈ TBg) {cc : ByteArray} {nL : Nat} {nm : String} {pc : Nat} (d : decode cc pc = .ok (.getfield i, 3)) : Okf cc nL own nm pc (a_get 3 f0 (pc + 3)) := s_get (C := RX3) (T := TX3) (N := 13) rfl hk lX3 hm d
theorem pX3 {own : String} {i f0 : Nat} {ty : FieldType} (hk : f0 < 13) (hfin : (TX3 f0).2.2.2 = false) (ht : tyX3 f0 = ty) (htb : ty ≠ .byte ∧ ty ≠ .char ∧ ty ≠ .short) (hm : Cond.fieldLink own i (TX3 f0).1 (TX3 f0).2.1 (TX3 f0).2.2.1 ∈ TBg) {cc : ByteArray} {nL : Nat} {nm : String} {pc : Nat} (d : decode cc pc = .ok (.putfield i, 3)) : Okf cc nL own nm pc (a_put 3 f0 ty (pc + 3)) := s_put (C := RX3) (T := TX3) (N := 13) tyX3 tyX3_ok nmX3 rfl hk lX3 hfin ht htb hm d
theorem fX3 {own : String} {i f0 : Nat} {ty : FieldType} (hk : f0 < 13) (hfin : (TX3 f0).2.2.2 = true) (hdecl : (TX3 f0).1 = own) (ht : tyX3 f0 = ty) (htb : ty ≠ .byte ∧ ty ≠ .char ∧ ty ≠ .short) (hm : Cond.fieldLink own i (TX3 f0).1 (TX3 f0).2.1 (TX3 f0).2.2.1 ∈ TBg) {cc : ByteArray} {nL : Nat} {pc : Nat} (d : decode cc pc = .ok (.putfield i, 3)) : Okf cc nL own "<init>" pc (a_put 3 f0 ty (pc + 3)) := s_putF (C := RX3) (T := TX3) (N := 13) tyX3 tyX3_ok nmX3 rfl hk lX3 hfin hdecl ht htb hm d
theorem nX3 {own : String} {i : Nat} (hm : Cond.classLink own i RX3 ∈ TBg) {cc : ByteArray} {nL : Nat} {nm : String} {pc : Nat} (d : decode cc pc = .ok (.new i, 3)) : Okf cc nL own nm pc (a_new 3 13 zX3 (pc + 3)) := s_new (C := RX3) (T := TX3) (N := 13) tyX3 tyX3_ok rfl lX3 (by decide +kernel) (fun _ _ => rfl) hm kw_296 kw_112 d
theorem gX4 {own : String} {i f0 : Nat} (hk : f0 < 5) (hm : Cond.fieldLink own i (TX4 f0).1 (TX4 f0).2.1 (TX4 f0).2.2.1 ∈ TBg) {cc : ByteArray} {nL : Nat} {nm : String} {pc : Nat} (d : decode cc pc = .ok (.getfield i, 3)) : Okf cc nL own nm pc (a_get 4 f0 (pc + 3)) := s_get (C := RX4) (T := TX4) (N := 5) rfl hk lX4 hm d
theorem pX4 {own : String} {i f0 : Nat} {ty : FieldType} (hk : f0 < 5) (hfin : (TX4 f0).2.2.2 = false) (ht : tyX4 f0 = ty) (htb : ty ≠ .byte ∧ ty ≠ .char ∧ ty ≠ .short) (hm : Cond.fieldLink own i (TX4 f0).1 (TX4 f0).2.1 (TX4 f0).2.2.1 ∈ TBg) {cc : ByteArray} {nL : Nat} {nm : String} {pc : Nat} (d : decode cc pc = .ok (.putfield i, 3)) : Okf cc nL own nm pc (a_put 4 f0 ty (pc + 3)) := s_put (C := RX4) (T := TX4) (N := 5) tyX4 tyX4_ok nmX4 rfl hk lX4 hfin ht htb hm d
theorem fX4 {own : String} {i f0 : Nat} {ty : FieldType} (hk : f0 < 5) (hfin : (TX4 f0).2.2.2 = true) (hdecl : (TX4 f0).1 = own) (ht : tyX4 f0 = ty) (htb : ty ≠ .byte ∧ ty ≠ .char ∧ ty ≠ .short) (hm : Cond.fieldLink own i (TX4 f0).1 (TX4 f0).2.1 (TX4 f0).2.2.1 ∈ TBg) {cc : ByteArray} {nL : Nat} {pc : Nat} (d : decode cc pc = .ok (.putfield i, 3)) : Okf cc nL own "<init>" pc (a_put 4 f0 ty (pc + 3)) := s_putF (C := RX4) (T := TX4) (N := 5) tyX4 tyX4_ok nmX4 rfl hk lX4 hfin hdecl ht htb hm d
theorem nX4 {own : String} {i : Nat} (hm : Cond.classLink own i RX4 ∈ TBg) {cc : ByteArray} {nL : Nat} {nm : String} {pc : Nat} (d : decode cc pc = .ok (.new i, 3)) : Okf cc nL own nm pc (a_new 4 5 zX4 (pc + 3)) := s_new (C := RX4) (T := TX4) (N := 5) tyX4 tyX4_ok rfl lX4 (by decide +kernel) (fun _ _ => rfl) hm kw_352 kw_114 d
theorem gX5 {own : String} {i f0 : Nat} (hk : f0 < 12) (hm : Cond.fieldLink own i (TX5 f0).1 (TX5 f0).2.1 (TX5 f0).2.2.1 ∈ TBg) {cc : ByteArray} {nL : Nat} {nm : String} {pc : Nat} (d : decode cc pc = .ok (.getfield i, 3)) : Okf cc nL own nm pc (a_get 5 f0 (pc + 3)) := s_get (C := RX5) (T := TX5) (N := 12) rfl hk lX5 hm d
theorem pX5 {own : String} {i f0 : Nat} {ty : FieldType} (hk : f0 < 12) (hfin : (TX5 f0).2.2.2 = false) (ht : tyX5 f0 = ty) (htb : ty ≠ .byte ∧ ty ≠ .char ∧ ty ≠ .short) (hm : Cond.fieldLink own i (TX5 f0).1 (TX5 f0).2.1 (TX5 f0).2.2.1 ∈ TBg) {cc : ByteArray} {nL : Nat} {nm : String} {pc : Nat} (d : decode cc pc = .ok (.putfield i, 3)) : Okf cc nL own nm pc (a_put 5 f0 ty (pc + 3)) := s_put (C := RX5) (T := TX5) (N := 12) tyX5 tyX5_ok nmX5 rfl hk lX5 hfin ht htb hm d
theorem fX5 {own : String} {i f0 : Nat} {ty : FieldType} (hk : f0 < 12) (hfin : (TX5 f0).2.2.2 = true) (hdecl : (TX5 f0).1 = own) (ht : tyX5 f0 = ty) (htb : ty ≠ .byte ∧ ty ≠ .char ∧ ty ≠ .short) (hm : Cond.fieldLink own i (TX5 f0).1 (TX5 f0).2.1 (TX5 f0).2.2.1 ∈ TBg) {cc : ByteArray} {nL : Nat} {pc : Nat} (d : decode cc pc = .ok (.putfield i, 3)) : Okf cc nL own "<init>" pc (a_put 5 f0 ty (pc + 3)) := s_putF (C := RX5) (T := TX5) (N := 12) tyX5 tyX5_ok nmX5 rfl hk lX5 hfin hdecl ht htb hm d
theorem nX5 {own : String} {i : Nat} (hm : Cond.classLink own i RX5 ∈ TBg) {cc : ByteArray} {nL : Nat} {nm : String} {pc : Nat} (d : decode cc pc = .ok (.new i, 3)) : Okf cc nL own nm pc (a_new 5 12 zX5 (pc + 3)) := s_new (C := RX5) (T := TX5) (N := 12) tyX5 tyX5_ok rfl lX5 (by decide +kernel) (fun _ _ => rfl) hm kw_344 kw_113 d
theorem gX6 {own : String} {i f0 : Nat} (hk : f0 < 9) (hm : Cond.fieldLink own i (TX6 f0).1 (TX6 f0).2.1 (TX6 f0).2.2.1 ∈ TBg) {cc : ByteArray} {nL : Nat} {nm : String} {pc : Nat} (d : decode cc pc = .ok (.getfield i, 3)) : Okf cc nL own nm pc (a_get 6 f0 (pc + 3)) := s_get (C := RX6) (T := TX6) (N := 9) rfl hk lX6 hm d
theorem pX6 {own : String} {i f0 : Nat} {ty : FieldType} (hk : f0 < 9) (hfin : (TX6 f0).2.2.2 = false) (ht : tyX6 f0 = ty) (htb : ty ≠ .byte ∧ ty ≠ .char ∧ ty ≠ .short) (hm : Cond.fieldLink own i (TX6 f0).1 (TX6 f0).2.1 (TX6 f0).2.2.1 ∈ TBg) {cc : ByteArray} {nL : Nat} {nm : String} {pc : Nat} (d : decode cc pc = .ok (.putfield i, 3)) : Okf cc nL own nm pc (a_put 6 f0 ty (pc + 3)) := s_put (C := RX6) (T := TX6) (N := 9) tyX6 tyX6_ok nmX6 rfl hk lX6 hfin ht htb hm d
theorem fX6 {own : String} {i f0 : Nat} {ty : FieldType} (hk : f0 < 9) (hfin : (TX6 f0).2.2.2 = true) (hdecl : (TX6 f0).1 = own) (ht : tyX6 f0 = ty) (htb : ty ≠ .byte ∧ ty ≠ .char ∧ ty ≠ .short) (hm : Cond.fieldLink own i (TX6 f0).1 (TX6 f0).2.1 (TX6 f0).2.2.1 ∈ TBg) {cc : ByteArray} {nL : Nat} {pc : Nat} (d : decode cc pc = .ok (.putfield i, 3)) : Okf cc nL own "<init>" pc (a_put 6 f0 ty (pc + 3)) := s_putF (C := RX6) (T := TX6) (N := 9) tyX6 tyX6_ok nmX6 rfl hk lX6 hfin hdecl ht htb hm d
theorem nX6 {own : String} {i : Nat} (hm : Cond.classLink own i RX6 ∈ TBg) {cc : ByteArray} {nL : Nat} {nm : String} {pc : Nat} (d : decode cc pc = .ok (.new i, 3)) : Okf cc nL own nm pc (a_new 6 9 zX6 (pc + 3)) := s_new (C := RX6) (T := TX6) (N := 9) tyX6 tyX6_ok rfl lX6 (by decide +kernel) (fun _ _ => rfl) hm kw_290 kw_111 d
theorem gX7 {own : String} {i f0 : Nat} (hk : f0 < 5) (hm : Cond.fieldLink own i (TX7 f0).1 (TX7 f0).2.1 (TX7 f0).2.2.1 ∈ TBg) {cc : ByteArray} {nL : Nat} {nm : String} {pc : Nat} (d : decode cc pc = .ok (.getfield i, 3)) : Okf cc nL own nm pc (a_get 7 f0 (pc + 3)) := s_get (C := RX7) (T := TX7) (N := 5) rfl hk lX7 hm d
theorem pX7 {own : String} {i f0 : Nat} {ty : FieldType} (hk : f0 < 5) (hfin : (TX7 f0).2.2.2 = false) (ht : tyX7 f0 = ty) (htb : ty ≠ .byte ∧ ty ≠ .char ∧ ty ≠ .short) (hm : Cond.fieldLink own i (TX7 f0).1 (TX7 f0).2.1 (TX7 f0).2.2.1 ∈ TBg) {cc : ByteArray} {nL : Nat} {nm : String} {pc : Nat} (d : decode cc pc = .ok (.putfield i, 3)) : Okf cc nL own nm pc (a_put 7 f0 ty (pc + 3)) := s_put (C := RX7) (T := TX7) (N := 5) tyX7 tyX7_ok nmX7 rfl hk lX7 hfin ht htb hm d
theorem fX7 {own : String} {i f0 : Nat} {ty : FieldType} (hk : f0 < 5) (hfin : (TX7 f0).2.2.2 = true) (hdecl : (TX7 f0).1 = own) (ht : tyX7 f0 = ty) (htb : ty ≠ .byte ∧ ty ≠ .char ∧ ty ≠ .short) (hm : Cond.fieldLink own i (TX7 f0).1 (TX7 f0).2.1 (TX7 f0).2.2.1 ∈ TBg) {cc : ByteArray} {nL : Nat} {pc : Nat} (d : decode cc pc = .ok (.putfield i, 3)) : Okf cc nL own "<init>" pc (a_put 7 f0 ty (pc + 3)) := s_putF (C := RX7) (T := TX7) (N := 5) tyX7 tyX7_ok nmX7 rfl hk lX7 hfin hdecl ht htb hm d
theorem nX7 {own : String} {i : Nat} (hm : Cond.classLink own i RX7 ∈ TBg) {cc : ByteArray} {nL : Nat} {nm : String} {pc : Nat} (d : decode cc pc = .ok (.new i, 3)) : Okf cc nL own nm pc (a_new 7 5 zX7 (pc + 3)) := s_new (C := RX7) (T := TX7) (N := 5) tyX7 tyX7_ok rfl lX7 (by decide +kernel) (fun _ _ => rfl) hm kw_129 kw_105 d
theorem gX8 {own : String} {i f0 : Nat} (hk : f0 < 9) (hm : Cond.fieldLink own i (TX8 f0).1 (TX8 f0).2.1 (TX8 f0).2.2.1 ∈ TBg) {cc : ByteArray} {nL : Nat} {nm : String} {pc : Nat} (d : decode cc pc = .ok (.getfield i, 3)) : Okf cc nL own nm pc (a_get 8 f0 (pc + 3)) := s_get (C := RX8) (T := TX8) (N := 9) rfl hk lX8 hm d
theorem pX8 {own : String} {i f0 : Nat} {ty : FieldType} (hk : f0 < 9) (hfin : (TX8 f0).2.2.2 = false) (ht : tyX8 f0 = ty) (htb : ty ≠ .byte ∧ ty ≠ .char ∧ ty ≠ .short) (hm : Cond.fieldLink own i (TX8 f0).1 (TX8 f0).2.1 (TX8 f0).2.2.1 ∈ TBg) {cc : ByteArray} {nL : Nat} {nm : String} {pc : Nat} (d : decode cc pc = .ok (.putfield i, 3)) : Okf cc nL own nm pc (a_put 8 f0 ty (pc + 3)) := s_put (C := RX8) (T := TX8) (N := 9) tyX8 tyX8_ok nmX8 rfl hk lX8 hfin ht htb hm d
theorem fX8 {own : String} {i f0 : Nat} {ty : FieldType} (hk : f0 < 9) (hfin : (TX8 f0).2.2.2 = true) (hdecl : (TX8 f0).1 = own) (ht : tyX8 f0 = ty) (htb : ty ≠ .byte ∧ ty ≠ .char ∧ ty ≠ .short) (hm : Cond.fieldLink own i (TX8 f0).1 (TX8 f0).2.1 (TX8 f0).2.2.1 ∈ TBg) {cc : ByteArray} {nL : Nat} {pc : Nat} (d : decode cc pc = .ok (.putfield i, 3)) : Okf cc nL own "<init>" pc (a_put 8 f0 ty (pc + 3)) := s_putF (C := RX8) (T := TX8) (N := 9) tyX8 tyX8_ok nmX8 rfl hk lX8 hfin hdecl ht htb hm d
theorem nX8 {own : String} {i : Nat} (hm : Cond.classLink own i RX8 ∈ TBg) {cc : ByteArray} {nL : Nat} {nm : String} {pc : Nat} (d : decode cc pc = .ok (.new i, 3)) : Okf cc nL own nm pc (a_new 8 9 zX8 (pc + 3)) := s_new (C := RX8) (T := TX8) (N := 9) tyX8 tyX8_ok rfl lX8 (by decide +kernel) (fun _ _ => rfl) hm kw_199 kw_109 d
theorem gX9 {own : String} {i f0 : Nat} (hk : f0 < 6) (hm : Cond.fieldLink own i (TX9 f0).1 (TX9 f0).2.1 (TX9 f0).2.2.1 ∈ TBg) {cc : ByteArray} {nL : Nat} {nm : String} {pc : Nat} (d : decode cc pc = .ok (.getfield i, 3)) : Okf cc nL own nm pc (a_get 9 f0 (pc + 3)) := s_get (C := RX9) (T := TX9) (N := 6) rfl hk lX9 hm d
theorem pX9 {own : String} {i f0 : Nat} {ty : FieldType} (hk : f0 < 6) (hfin : (TX9 f0).2.2.2 = false) (ht : tyX9 f0 = ty) (htb : ty ≠ .byte ∧ ty ≠ .char ∧ ty ≠ .short) (hm : Cond.fieldLink own i (TX9 f0).1 (TX9 f0).2.1 (TX9 f0).2.2.1 ∈ TBg) {cc : ByteArray} {nL : Nat} {nm : String} {pc : Nat} (d : decode cc pc = .ok (.putfield i, 3)) : Okf cc nL own nm pc (a_put 9 f0 ty (pc + 3)) := s_put (C := RX9) (T := TX9) (N := 6) tyX9 tyX9_ok nmX9 rfl hk lX9 hfin ht htb hm d
theorem fX9 {own : String} {i f0 : Nat} {ty : FieldType} (hk : f0 < 6) (hfin : (TX9 f0).2.2.2 = true) (hdecl : (TX9 f0).1 = own) (ht : tyX9 f0 = ty) (htb : ty ≠ .byte ∧ ty ≠ .char ∧ ty ≠ .short) (hm : Cond.fieldLink own i (TX9 f0).1 (TX9 f0).2.1 (TX9 f0).2.2.1 ∈ TBg) {cc : ByteArray} {nL : Nat} {pc : Nat} (d : decode cc pc = .ok (.putfield i, 3)) : Okf cc nL own "<init>" pc (a_put 9 f0 ty (pc + 3)) := s_putF (C := RX9) (T := TX9) (N := 6) tyX9 tyX9_ok nmX9 rfl hk lX9 hfin hdecl ht htb hm d
theorem nX9 {own : String} {i : Nat} (hm : Cond.classLink own i RX9 ∈ TBg) {cc : ByteArray} {nL : Nat} {nm : String} {pc : Nat} (d : decode cc pc = .ok (.new i, 3)) : Okf cc nL own nm pc (a_new 9 6 zX9 (pc + 3)) := s_new (C := RX9) (T := TX9) (N := 6) tyX9 tyX9_ok rfl lX9 (by decide +kernel) (fun _ _ => rfl) hm kw_164 kw_107 d
theorem gX11 {own : String} {i f0 : Nat} (hk : f0 < 12) (hm : Cond.fieldLink own i (TX11 f0).1 (TX11 f0).2.1 (TX11 f0).2.2.1 ∈ TBg) {cc : ByteArray} {nL : Nat} {nm : String} {pc : Nat} (d : decode cc pc = .ok (.getfield i, 3)) : Okf cc nL own nm pc (a_get 10 f0 (pc + 3)) := s_get (C := RX11) (T := TX11) (N := 12) rfl hk lX11 hm d
theorem pX11 {own : String} {i f0 : Nat} {ty : FieldType} (hk : f0 < 12) (hfin : (TX11 f0).2.2.2 = false) (ht : tyX11 f0 = ty) (htb : ty ≠ .byte ∧ ty ≠ .char ∧ ty ≠ .short) (hm : Cond.fieldLink own i (TX11 f0).1 (TX11 f0).2.1 (TX11 f0).2.2.1 ∈ TBg) {cc : ByteArray} {nL : Nat} {nm : String} {pc : Nat} (d : decode cc pc = .ok (.putfield i, 3)) : Okf cc nL own nm pc (a_put 10 f0 ty (pc + 3)) := s_put (C := RX11) (T := TX11) (N := 12) tyX11 tyX11_ok nmX11 rfl hk lX11 hfin ht htb hm d
theorem fX11 {own : String} {i f0 : Nat} {ty : FieldType} (hk : f0 < 12) (hfin : (TX11 f0).2.2.2 = true) (hdecl : (TX11 f0).1 = own) (ht : tyX11 f0 = ty) (htb : ty ≠ .byte ∧ ty ≠ .char ∧ ty ≠ .short) (hm : Cond.fieldLink own i (TX11 f0).1 (TX11 f0).2.1 (TX11 f0).2.2.1 ∈ TBg) {cc : ByteArray} {nL : Nat} {pc : Nat} (d : decode cc pc = .ok (.putfield i, 3)) : Okf cc nL own "<init>" pc (a_put 10 f0 ty (pc + 3)) := s_putF (C := RX11) (T := TX11) (N := 12) tyX11 tyX11_ok nmX11 rfl hk lX11 hfin hdecl ht htb hm d
theorem nX11 {own : String} {i : Nat} (hm : Cond.classLink own i RX11 ∈ TBg) {cc : ByteArray} {nL : Nat} {nm : String} {pc : Nat} (d : decode cc pc = .ok (.new i, 3)) : Okf cc nL own nm pc (a_new 10 12 zX11 (pc + 3)) := s_new (C := RX11) (T := TX11) (N := 12) tyX11 tyX11_ok rfl lX11 (by decide +kernel) (fun _ _ => rfl) hm kw_121 kw_104 d
theorem gX12 {own : String} {i f0 : Nat} (hk : f0 < 64) (hm : Cond.fieldLink own i (TX12 f0).1 (TX12 f0).2.1 (TX12 f0).2.2.1 ∈ TBg) {cc : ByteArray} {nL : Nat} {nm : String} {pc : Nat} (d : decode cc pc = .ok (.getfield i, 3)) : Okf cc nL own nm pc (a_get 11 f0 (pc + 3)) := s_get (C := RX12) (T := TX12) (N := 64) rfl hk lX12 hm d
theorem pX12 {own : String} {i f0 : Nat} {ty : FieldType} (hk : f0 < 64) (hfin : (TX12 f0).2.2.2 = false) (ht : tyX12 f0 = ty) (htb : ty ≠ .byte ∧ ty ≠ .char ∧ ty ≠ .short) (hm : Cond.fieldLink own i (TX12 f0).1 (TX12 f0).2.1 (TX12 f0).2.2.1 ∈ TBg) {cc : ByteArray} {nL : Nat} {nm : String} {pc : Nat} (d : decode cc pc = .ok (.putfield i, 3)) : Okf cc nL own nm pc (a_put 11 f0 ty (pc + 3)) := s_put (C := RX12) (T := TX12) (N := 64) tyX12 tyX12_ok nmX12 rfl hk lX12 hfin ht htb hm d
theorem fX12 {own : String} {i f0 : Nat} {ty : FieldType} (hk : f0 < 64) (hfin : (TX12 f0).2.2.2 = true) (hdecl : (TX12 f0).1 = own) (ht : tyX12 f0 = ty) (htb : ty ≠ .byte ∧ ty ≠ .char ∧ ty ≠ .short) (hm : Cond.fieldLink own i (TX12 f0).1 (TX12 f0).2.1 (TX12 f0).2.2.1 ∈ TBg) {cc : ByteArray} {nL : Nat} {pc : Nat} (d : decode cc pc = .ok (.putfield i, 3)) : Okf cc nL own "<init>" pc (a_put 11 f0 ty (pc + 3)) := s_putF (C := RX12) (T := TX12) (N := 64) tyX12 tyX12_ok nmX12 rfl hk lX12 hfin hdecl ht htb hm d
theorem nX12 {own : String} {i : Nat} (hm : Cond.classLink own i RX12 ∈ TBg) {cc : ByteArray} {nL : Nat} {nm : String} {pc : Nat} (d : decode cc pc = .ok (.new i, 3)) : Okf cc nL own nm pc (a_new 11 64 zX12 (pc + 3)) := s_new (C := RX12) (T := TX12) (N := 64) tyX12 tyX12_ok rfl lX12 (by decide +kernel) (fun _ _ => rfl) hm kw_1180 kw_118 d
theorem na_byte (hm : Cond.arrayClass .byte ∈ TBg) {own : String} {cc : ByteArray} {nL : Nat} {nm : String} {pc : Nat} (d : decode cc pc = .ok (.newarray .byte, 2)) : Okf cc nL own nm pc (a_newa 0 (pc + 2)) := s_newa (ty := .byte) rfl (fun _ => rfl) (fun _ _ h => h) (by decide) (fun _ _ => rfl) hm d
theorem na_int (hm : Cond.arrayClass .int ∈ TBg) {own : String} {cc : ByteArray} {nL : Nat} {nm : String} {pc : Nat} (d : decode cc pc = .ok (.newarray .int, 2)) : Okf cc nL own nm pc (a_newa 1 (pc + 2)) := s_newa (ty := .int) rfl (fun _ => rfl) (fun _ _ h => h) (by decide) (fun _ _ => rfl) hm d
theorem na_long (hm : Cond.arrayClass .long ∈ TBg) {own : String} {cc : ByteArray} {nL : Nat} {nm : String} {pc : Nat} (d : decode cc pc = .ok (.newarray .long, 2)) : Okf cc nL own nm pc (a_newa 2 (pc + 2)) := s_newa (ty := .long) rfl (fun _ => rfl) (fun _ _ h => h) (by decide) (fun _ _ => rfl) hm d
theorem na_boolean (hm : Cond.arrayClass .boolean ∈ TBg) {own : String} {cc : ByteArray} {nL : Nat} {nm : String} {pc : Nat} (d : decode cc pc = .ok (.newarray .boolean, 2)) : Okf cc nL own nm pc (a_newa 3 (pc + 2)) := s_newa (ty := .boolean) rfl (fun _ => rfl) (fun _ _ h => h) (by decide) (fun _ _ => rfl) hm d
theorem cp0 {own : String} {i : Nat} (hm1 : Cond.methodLink own i arraycopyName ∈ TBg) (hm2 : Cond.native arraycopyName ∈ TBg) (hm3 : Cond.static arraycopyName ∈ TBg) (hm4 : Cond.initialized "java/lang/System" ∈ TBg) {cc : ByteArray} {nL : Nat} {nm : String} {pc : Nat} (d : decode cc pc = .ok (.invokestatic i, 3)) : Okf cc nL own nm pc (a_copy 0 (pc + 3)) := s_copy (ty := .byte) (fun _ => rfl) rfl (Or.inl ⟨rfl, rfl⟩) hm1 hm2 hm3 hm4 d
theorem cp1 {own : String} {i : Nat} (hm1 : Cond.methodLink own i arraycopyName ∈ TBg) (hm2 : Cond.native arraycopyName ∈ TBg) (hm3 : Cond.static arraycopyName ∈ TBg) (hm4 : Cond.initialized "java/lang/System" ∈ TBg) {cc : ByteArray} {nL : Nat} {nm : String} {pc : Nat} (d : decode cc pc = .ok (.invokestatic i, 3)) : Okf cc nL own nm pc (a_copy 1 (pc + 3)) := s_copy (ty := .int) (fun _ => rfl) rfl (Or.inr ⟨rfl, rfl⟩) hm1 hm2 hm3 hm4 d
def OkJ (own nm : String) (cc : ByteArray) (nL : Nat) (ret : Option FieldType) (pc : Nat) : aI → Prop
  | .inl f => Okf cc nL own nm pc f
  | .inr (.inl q) => OkC own cc pc (mN q.1) (mC q.1) (mL q.1) (mR q.1) q.2.1 q.2.2
  | .inr (.inr k) => (k = 0 ∧ ret = none ∧ decode cc pc = .ok (.return_, 1)) ∨ (k = 1 ∧ ret = some .int ∧ decode cc pc = .ok (.ireturn, 1)) ∨ (k = 2 ∧ ret = some .long ∧ decode cc pc = .ok (.lreturn, 1)) ∨ (k = 3 ∧ ret = some .boolean ∧ decode cc pc = .ok (.ireturn, 1))
theorem okS {own : String} {cc : ByteArray} {pc i n : Nat} {y : MethodName} {bytes : ByteArray} {maxL : Nat} {ret : Option FieldType} (hcode : Cond.code y bytes maxL ret ∈ TBg) (hini : Cond.initialized y.cls ∈ TBg) (hd : (parseMethodDescriptor y.desc).map (fun d => d.parameters.length) = some n) (d : decode cc pc = .ok (.invokestatic i, 3)) (hst : Cond.static y ∈ TBg) (hl : Cond.methodLink own i y ∈ TBg ∨ ∃ host, Cond.methodLinkNest own i y host ∈ NW) (hmh : y.cls ≠ "java/lang/invoke/MethodHandle" ∧ y.cls ≠ "java/lang/invoke/VarHandle" := by decide +kernel) (h15 : maxL ≤ 15 := by decide) : OkC own cc pc y bytes maxL ret n 0 := ⟨hcode, hini, hmh, h15, Or.inl ⟨i, n, rfl, rfl, hd, d, hst, hl⟩⟩
theorem okV {own : String} {cc : ByteArray} {pc i n ci : Nat} {y : MethodName} {bytes : ByteArray} {maxL : Nat} {ret : Option FieldType} {T : u_T} {N : Nat} (hcode : Cond.code y bytes maxL ret ∈ TBg) (hini : Cond.initialized y.cls ∈ TBg) (hci : cls[ci]? = some (y.cls, T, N)) (hd : (parseMethodDescriptor y.desc).map (fun d => d.parameters.length) = some n) (d : decode cc pc = .ok (.invokevirtual i, 3)) (hin : Cond.instanceMethod y ∈ TBg) (hse : Cond.selects y.cls y y ∈ TBg) (hl : Cond.methodLink own i y ∈ TBg) (hmh : y.cls ≠ "java/lang/invoke/MethodHandle" ∧ y.cls ≠ "java/lang/invoke/VarHandle" := by decide +kernel) (h15 : maxL ≤ 15 := by decide) : OkC own cc pc y bytes maxL ret (n + 1) (ci + 1) := ⟨hcode, hini, hmh, h15, Or.inr (Or.inl ⟨i, n, ci, T, N, rfl, rfl, hci, hd, d, hin, hse, hl⟩)⟩
theorem okN {own : String} {cc : ByteArray} {pc i n ci : Nat} {y : MethodName} {bytes : ByteArray} {maxL : Nat} (hcode : Cond.code y bytes maxL none ∈ TBg) (hini : Cond.initialized y.cls ∈ TBg) (hd : (parseMethodDescriptor y.desc).map (fun d => d.parameters.length) = some n) (d : decode cc pc = .ok (.invokespecial i, 3)) (hin : Cond.instanceMethod y ∈ TBg) (hl : Cond.methodLink own i y ∈ TBg ∨ ∃ host, Cond.methodLinkNest own i y host ∈ NW) (hnm : y.name = "<init>" := by rfl) (hmh : y.cls ≠ "java/lang/invoke/MethodHandle" ∧ y.cls ≠ "java/lang/invoke/VarHandle" := by decide +kernel) (h15 : maxL ≤ 15 := by decide) : OkC own cc pc y bytes maxL none (n + 1) (ci + 1) := ⟨hcode, hini, hmh, h15, Or.inr (Or.inr ⟨i, n, ci, rfl, rfl, rfl, hnm, hd, d, hin, hl⟩)⟩
theorem allc {α : Type} {P : α → Prop} {a : α} {l : List α} (h : P a) (t : ∀ q ∈ l, P q) : ∀ q ∈ a :: l, P q := fun q hq => (List.mem_cons.mp hq).elim (fun e => e ▸ h) (t q)
theorem alln {α : Type} {P : α → Prop} : ∀ q ∈ ([] : List α), P q := fun _ h => by cases h
theorem alla {α : Type} {P : α → Prop} {a b : List α} (h : ∀ q ∈ a, P q) (t : ∀ q ∈ b, P q) : ∀ q ∈ a ++ b, P q := fun q hq => (List.mem_append.mp hq).elim (h q) (t q)
theorem allq (P : Nat × aI → Prop) (pc : Nat) (i : aI) {l : List (Nat × aI)} (h : P (pc, i)) (t : ∀ q ∈ l, P q) : ∀ q ∈ (pc, i) :: l, P q := allc h t
abbrev OkQ (own nm : String) (cc : ByteArray) (nL : Nat) (ret : Option FieldType) (q : Nat × aI) : Prop := OkJ own nm cc nL ret q.1 q.2
