/-! StatePress on an empty IN: blocks, press, and the other calls of a new object (rows laid by a program) -/
set_option maxRecDepth 20000 in
theorem x_pcells0 {d n s : Nat} {h : Nat → aE} {k q : Nat} {a b : Int32}  (hab : b - a ≤ 0)   {Ψ : Option Value → aH → Prop} (kk : Ψ none (n, s, h)) : WO (mM (d + 1)) 89 [.ref k, .ref q, .int a, .int b] (n, s, h) Ψ := by
  refine WO.of (Nat.le_of_ble_eq_true rfl) ?_
  show WX (lk tX7_putCells) (mM d) Ψ 0 [(0, .ref k), (1, .ref q), (2, .int a), (3, .int b)] [] (n, s, h)
  refine WX.s1 rfl rfl ?_
  refine WX.s1 rfl rfl ?_
  refine WX.s1 rfl rfl ?_
  refine WX.s1 (L' := [(0, .ref k), (1, .ref q), (2, .int a), (3, .int b), (4, .int (b - a))]) rfl rfl ?_
  refine WX.s1 rfl rfl ?_
  refine WX.if_ rfl (fun c_7 => ?_) (fun c_7 => absurd (hab) c_7)
  exact WX.ret0 rfl kk
set_option maxRecDepth 20000 in
theorem x_putTo0 {d n s : Nat} {h : Nat → aE} {fw fl fwi fe fle fdi fap fal fad : Int32} {c : Nat} (hn : 190 ≤ n)  (F_h_82 : h 82 = .inr (3, [.ref 83, .int 0, .ref 84, .ref 85, .int fw, .int fl, .int fwi, .int fe, .int fle, .int fdi, .int fap, .int fal, .int fad])) (P_h_nx : RowN h 5 12000 c) {Ψ : Option Value → aH → Prop} (kk : Ψ none (n, s, h)) : WO (mM (d + 2)) 38 [.ref 82, .ref 5, .int 0, .int 0] (n, s, h) Ψ := by
  refine WO.of (Nat.le_of_ble_eq_true rfl) ?_
  show WX (lk tX3_putTo) (mM (d + 1)) Ψ 0 [(0, .ref 82), (1, .ref 5), (2, .int 0), (3, .int 0)] [] (n, s, h)
  refine WX.s1 rfl rfl ?_
  refine WX.s1 rfl rfl ?_
  refine WX.get1 (fs := [.ref 83, .int 0, .ref 84, .ref 85, .int fw, .int fl, .int fwi, .int fe, .int fle, .int fdi, .int fap, .int fal, .int fad]) rfl (ltN hn (by decide)) (F_h_82) rfl ?_
  refine WX.s1 rfl rfl ?_
  refine WX.s1 rfl rfl ?_
  refine WX.s1 rfl rfl ?_
  refine WX.get1 (fs := [.ref 83, .int 0, .ref 84, .ref 85, .int fw, .int fl, .int fwi, .int fe, .int fle, .int fdi, .int fap, .int fal, .int fad]) rfl (ltN hn (by decide)) (F_h_82) rfl ?_
  refine WX.s1 rfl rfl ?_
  refine WX.callC (vs := [.ref 5, .ref 83, .int 0, .int _]) rfl rfl rfl (Nat.le_of_ble_eq_true rfl) (P_h_nx.rcv (ltN hn (by decide))) ?_
  refine x_pcells0 (by decide) ?_
  show WX _ _ _ 17 [(0, .ref 82), (1, .ref 5), (2, .int 0), (3, .int 0)] [] (n, s, h)
  exact WX.ret0 rfl kk
set_option maxRecDepth 20000 in
theorem x_sum0 {d n s : Nat} {h : Nat → aE} {s1 hd1 : Int32} {ho1 : Int64} (hn : 190 ≤ n)  (F_h_1 : h 1 = .inr (7, [.ref 2, .int 0, .int s1, .long ho1, .int hd1]))  {Ψ : Option Value → aH → Prop} (kk : ∀ x, Ψ (some (.long x)) (n, s, h)) : WO (mM (d + 1)) 119 [.ref 1] (n, s, h) Ψ := by
  refine WO.of (Nat.le_of_ble_eq_true rfl) ?_
  show WX (lk tX10_of) (mM d) Ψ 0 [(0, .ref 1)] [] (n, s, h)
  refine WX.s1 rfl rfl ?_
  refine WX.get1 (fs := [.ref 2, .int 0, .int s1, .long ho1, .int hd1]) rfl (ltN hn (by decide)) (F_h_1) rfl ?_
  refine WX.s1 rfl rfl ?_
  refine WX.div rfl (by decide) ?_
  refine WX.s1 rfl rfl ?_
  refine WX.s1 rfl rfl ?_
  refine WX.isN (L' := fun x10 => [(0, .ref 1), (1, .int x10)]) rfl (fun _ => rfl) (fun x10 e_x10 => ?_)
  try dsimp only at e_x10
  obtain rfl : x10 = 0 := e_x10.trans (by decide)
  clear e_x10
  refine WX.s1 rfl rfl ?_
  refine WX.if_ rfl (fun c_12 => absurd c_12 (by decide)) (fun c_12 => ?_)
  clear c_12
  refine WX.s1 rfl rfl ?_
  refine WX.s1 rfl rfl ?_
  refine WX.s1 (L' := [(0, .ref 1), (1, .int 0), (2, .long 2870177450012600261)]) rfl rfl ?_
  refine WX.s1 rfl rfl ?_
  refine WX.s1 rfl rfl ?_
  refine WX.get1 (fs := [.ref 2, .int 0, .int s1, .long ho1, .int hd1]) rfl (ltN hn (by decide)) (F_h_1) rfl ?_
  refine WX.s1 rfl rfl ?_
  refine WX.s1 rfl rfl ?_
  refine WX.lsN (L' := fun x34 => [(0, .ref 1), (1, .int 0), (2, .long x34)]) rfl (fun _ => rfl) (fun x34 e_x34 => ?_)
  try dsimp only at e_x34
  refine WX.s1 rfl rfl ?_
  refine WX.s1 (L' := [(0, .ref 1), (1, .int 0), (2, .long x34), (4, .int 0)]) rfl rfl ?_
  refine WX.s1 rfl rfl ?_
  refine WX.s1 rfl rfl ?_
  refine WX.s1 rfl rfl ?_
  refine WX.s1 rfl rfl ?_
  refine WX.get1 (fs := [.ref 2, .int 0, .int s1, .long ho1, .int hd1]) rfl (ltN hn (by decide)) (F_h_1) rfl ?_
  refine WX.icmp rfl (fun c_47 => ?_) (fun c_47 => absurd (by decide) c_47)
  clear c_47
  refine WX.s1 rfl rfl ?_
  refine WX.s1 rfl rfl ?_
  refine WX.s1 rfl rfl ?_
  refine WX.s1 rfl rfl ?_
  refine WX.get1 (fs := [.ref 2, .int 0, .int s1, .long ho1, .int hd1]) rfl (ltN hn (by decide)) (F_h_1) rfl ?_
  refine WX.icmp rfl (fun c_101 => ?_) (fun c_101 => absurd (by decide) c_101)
  clear c_101
  refine WX.s1 rfl rfl ?_
  refine WX.s1 rfl rfl ?_
  refine WX.get1 (fs := [.ref 2, .int 0, .int s1, .long ho1, .int hd1]) rfl (ltN hn (by decide)) (F_h_1) rfl ?_
  refine WX.icmp rfl (fun c_143 => ?_) (fun c_143 => absurd (by decide) c_143)
  clear c_143
  refine WX.s1 rfl rfl ?_
  refine WX.s1 rfl rfl ?_
  refine WX.s1 rfl rfl ?_
  refine WX.s1 rfl rfl ?_
  refine WX.s1 rfl rfl ?_
  refine WX.s1 rfl rfl ?_
  refine WX.s1 rfl rfl ?_
  refine WX.lsN (L' := fun x185 => [(0, .ref 1), (1, .int 0), (2, .long x185), (4, .int 0)]) rfl (fun _ => rfl) (fun x185 e_x185 => ?_)
  try dsimp only at e_x185
  refine WX.s1 rfl rfl ?_
  refine WX.s1 rfl rfl ?_
  refine WX.s1 rfl rfl ?_
  refine WX.s1 rfl rfl ?_
  refine WX.s1 rfl rfl ?_
  refine WX.s1 rfl rfl ?_
  refine WX.s1 rfl rfl ?_
  refine WX.lsN (L' := fun x196 => [(0, .ref 1), (1, .int 0), (2, .long x196), (4, .int 0)]) rfl (fun _ => rfl) (fun x196 e_x196 => ?_)
  try dsimp only at e_x196
  refine WX.s1 rfl rfl ?_
  refine WX.s1 rfl rfl ?_
  refine WX.s1 rfl rfl ?_
  refine WX.s1 rfl rfl ?_
  refine WX.s1 rfl rfl ?_
  exact WX.ret2 rfl (kk _)
set_option maxRecDepth 20000 in
theorem x_block0 {d n s : Nat} {h : Nat → aE} {fw fl fwi fe fle fdi fap fal fad : Int32}{lu lki lb lsh lbe : Int32} {c : Nat} {cnt ta : Int32} {la lb9 ta9 a91 k0 k1 k2 : Nat → Int32} (hn : 190 ≤ n) (hc : c + 3 ≤ 12000) (F_h_81 : h 81 = .inr (6, [.ref 82, .ref 89, .ref 108, .ref 135, .ref 162, .ref 86, .ref 87, .int cnt, .ref 88])) (F_h_82 : h 82 = .inr (3, [.ref 83, .int 0, .ref 84, .ref 85, .int fw, .int fl, .int fwi, .int fe, .int fle, .int fdi, .int fap, .int fal, .int fad])) (F_h_86 : h 86 = .inl (1, 3, .inl la)) (F_h_87 : h 87 = .inl (1, 3, .inl lb9)) (F_h_88 : h 88 = .inl (1, 12, .inl ta9)) (F_h_89 : h 89 = .inr (5, [.ref 90, .ref 91, .int lu, .ref 92, .ref 96, .ref 100, .ref 67, .ref 106, .int lki, .int lb, .int lsh, .int lbe])) (F_h_91 : h 91 = .inl (1, 256, .inl a91)) (F_h_92 : h 92 = .inr (0, [.ref 93, .ref 94, .ref 95, .int ta, .int 0])) (F_h_108 : h 108 = .inr (1, [.ref (aBig + 3), .ref (aBig + 4), .int 9, .ref 109, .ref 110, .ref 113, .int 0, .int 0, .int 0, .ref 114, .ref 121, .ref 128, .ref 114, .ref 111, .int 0, .int 0, .int 0, .int 0])) (F_h_113 : h 113 = .inl (1, 36, .inl k0)) (F_h_135 : h 135 = .inr (1, [.ref (aBig + 5), .ref (aBig + 6), .int 8, .ref 136, .ref 137, .ref 140, .int 0, .int 0, .int 0, .ref 141, .ref 148, .ref 155, .ref 141, .ref 138, .int 0, .int 0, .int 0, .int 0])) (F_h_140 : h 140 = .inl (1, 32, .inl k1)) (F_h_162 : h 162 = .inr (1, [.ref (aBig + 7), .ref (aBig + 8), .int 9, .ref 163, .ref 164, .ref 167, .int 0, .int 0, .int 0, .ref 168, .ref 175, .ref 182, .ref 168, .ref 165, .int 0, .int 0, .int 0, .int 0])) (F_h_167 : h 167 = .inl (1, 53, .inl k2)) (P_h_nx : RowN h 5 12000 c) {Ψ : Option Value → aH → Prop} (kk : ∀ h', Fr h h' (fun j => j = 5 ∨ j = 6 ∨ (81 ≤ j ∧ j ≤ 188)) → RowN h' 5 12000 (c + 3) → h' 81 = .inr (6, [.ref 82, .ref 89, .ref 108, .ref 135, .ref 162, .ref 86, .ref 87, .int 0, .ref 88]) → (∃ g, h' 88 = .inl (1, 12, .inl g)) → Ψ none (n, s, h')) : WO (mM (d + 4)) 75 [.ref 81, .ref 5, .int 0, .int 0, .int 1] (n, s, h) Ψ := by
  refine WO.of (Nat.le_of_ble_eq_true rfl) ?_
  have FR_h : Fr h h (fun j => j = 5 ∨ j = 6 ∨ (81 ≤ j ∧ j ≤ 188)) := Fr.rf
  show WX (lk tX6_putBlock) (mM (d + 3)) Ψ 0 [(0, .ref 81), (1, .ref 5), (2, .int 0), (3, .int 0), (4, .int 1)] [] (n, s, h)
  refine WX.s1 rfl rfl ?_
  refine WX.s1 rfl rfl ?_
  refine WX.s1 rfl rfl ?_
  refine WX.s1 (L' := [(0, .ref 81), (1, .ref 5), (2, .int 0), (3, .int 0), (4, .int 1), (5, .int (0 - 0))]) rfl rfl ?_
  refine WX.s1 rfl rfl ?_
  refine WX.if_ rfl (fun c_7 => absurd c_7 (by decide)) (fun c_7 => ?_)
  clear c_7
  refine WX.s1 rfl rfl ?_
  refine WX.s1 rfl rfl ?_
  refine WX.s1 (L' := [(0, .ref 81), (1, .ref 5), (2, .int 0), (3, .int 0), (4, .int 1), (5, .int (0 - 0)), (6, .int 1)]) rfl rfl ?_
  refine WX.s1 rfl rfl ?_
  refine WX.get1 (fs := [.ref 82, .ref 89, .ref 108, .ref 135, .ref 162, .ref 86, .ref 87, .int cnt, .ref 88]) rfl (ltN hn (by decide)) (F_h_81) rfl ?_
  refine WX.s1 rfl rfl ?_
  refine WX.s1 rfl rfl ?_
  refine WX.callC (vs := [.ref 82, .int 0, .int 0]) rfl rfl rfl (Nat.le_of_ble_eq_true rfl) (rcv_ok (ltN hn (by decide)) F_h_82) ?_
  refine x_same0 hn ?_
  show WX _ _ _ 26 [(0, .ref 81), (1, .ref 5), (2, .int 0), (3, .int 0), (4, .int 1), (5, .int (0 - 0)), (6, .int 1)] [.int 0] (n, s, h)
  refine WX.if_ rfl (fun c_26 => ?_) (fun c_26 => absurd (by decide) c_26)
  clear c_26
  refine WX.s1 rfl rfl ?_
  refine WX.s1 rfl rfl ?_
  refine WX.s1 rfl rfl ?_
  refine WX.callC (vs := [.ref 81, .int 0, .int 0]) rfl rfl rfl (Nat.le_of_ble_eq_true rfl) (rcv_ok (ltN hn (by decide)) F_h_81) ?_
  refine x_go0 hn F_h_81 F_h_82 F_h_86 F_h_87 F_h_89 F_h_91 F_h_108 F_h_113 F_h_135 F_h_140 F_h_162 F_h_167 (fun h75 fr F_h75_81 F_h75_82 F_h75_89 ⟨g75, F_h75_91⟩ F_h75_108 F_h75_135 F_h75_162 => ?_)
  have F_h75_88 : h75 88 = .inl (1, 12, .inl ta9) := (fr _ (by first | decide | omega)).trans F_h_88
  have F_h75_92 : h75 92 = .inr (0, [.ref 93, .ref 94, .ref 95, .int ta, .int 0]) := (fr _ (by first | decide | omega)).trans F_h_92
  have P_h75_nx : RowN h75 5 12000 c := P_h_nx.zfr fr (by first | decide | omega) (by first | decide | omega)
  have FR_h75 : Fr h h75 (fun j => j = 5 ∨ j = 6 ∨ (81 ≤ j ∧ j ≤ 188)) := FR_h.zsub fr (fun j hj => by omega)
  show WX _ _ _ 78 [(0, .ref 81), (1, .ref 5), (2, .int 0), (3, .int 0), (4, .int 1), (5, .int (0 - 0)), (6, .int 1)] [] (n, s, h75)
  refine WX.s1 rfl rfl ?_
  refine WX.get1 (fs := [.ref 82, .ref 89, .ref 108, .ref 135, .ref 162, .ref 86, .ref 87, .int 0, .ref 88]) rfl (ltN hn (by decide)) (F_h75_81) rfl ?_
  refine WX.callC (vs := [.ref 89]) rfl rfl rfl (Nat.le_of_ble_eq_true rfl) (rcv_ok (ltN hn (by decide)) F_h75_89) ?_
  refine x_few0 hn F_h75_89 ?_
  show WX _ _ _ 85 [(0, .ref 81), (1, .ref 5), (2, .int 0), (3, .int 0), (4, .int 1), (5, .int (0 - 0)), (6, .int 1)] [.int 1] (n, s, h75)
  refine WX.if_ rfl (fun c_85 => ?_) (fun c_85 => absurd (by decide) c_85)
  clear c_85
  refine WX.s1 rfl rfl ?_
  refine WX.s1 (L' := [(0, .ref 81), (1, .ref 5), (2, .int 0), (3, .int 0), (4, .int 1), (5, .int (0 - 0)), (6, .int 1), (7, .int 0)]) rfl rfl ?_
  refine WX.s1 rfl rfl ?_
  refine WX.get1 (fs := [.ref 82, .ref 89, .ref 108, .ref 135, .ref 162, .ref 86, .ref 87, .int 0, .ref 88]) rfl (ltN hn (by decide)) (F_h75_81) rfl ?_
  refine WX.callC (vs := [.ref 108]) rfl rfl rfl (Nat.le_of_ble_eq_true rfl) (rcv_ok (ltN hn (by decide)) F_h75_108) ?_
  refine x_kcho0 (ltN hn (by decide)) F_h75_108 ?_
  show WX _ _ _ 112 [(0, .ref 81), (1, .ref 5), (2, .int 0), (3, .int 0), (4, .int 1), (5, .int (0 - 0)), (6, .int 1), (7, .int 0)] [.int 0] (n, s, h75)
  refine WX.s1 rfl rfl ?_
  refine WX.get1 (fs := [.ref 82, .ref 89, .ref 108, .ref 135, .ref 162, .ref 86, .ref 87, .int 0, .ref 88]) rfl (ltN hn (by decide)) (F_h75_81) rfl ?_
  refine WX.callC (vs := [.ref 135]) rfl rfl rfl (Nat.le_of_ble_eq_true rfl) (rcv_ok (ltN hn (by decide)) F_h75_135) ?_
  refine x_kcho0 (ltN hn (by decide)) F_h75_135 ?_
  show WX _ _ _ 119 [(0, .ref 81), (1, .ref 5), (2, .int 0), (3, .int 0), (4, .int 1), (5, .int (0 - 0)), (6, .int 1), (7, .int 0)] [.int 0, .int 0] (n, s, h75)
  refine WX.s1 rfl rfl ?_
  refine WX.s1 rfl rfl ?_
  refine WX.get1 (fs := [.ref 82, .ref 89, .ref 108, .ref 135, .ref 162, .ref 86, .ref 87, .int 0, .ref 88]) rfl (ltN hn (by decide)) (F_h75_81) rfl ?_
  refine WX.callC (vs := [.ref 162]) rfl rfl rfl (Nat.le_of_ble_eq_true rfl) (rcv_ok (ltN hn (by decide)) F_h75_162) ?_
  refine x_kcho0 (ltN hn (by decide)) F_h75_162 ?_
  show WX _ _ _ 127 [(0, .ref 81), (1, .ref 5), (2, .int 0), (3, .int 0), (4, .int 1), (5, .int (0 - 0)), (6, .int 1), (7, .int 0)] [.int 0, .int (0 + 0)] (n, s, h75)
  refine WX.s1 rfl rfl ?_
  refine WX.s1 (L' := [(0, .ref 81), (1, .ref 5), (2, .int 0), (3, .int 0), (4, .int 1), (5, .int (0 - 0)), (6, .int 1), (7, .int 0), (8, .int ((0 + 0) + 0))]) rfl rfl ?_
  refine WX.s1 rfl rfl ?_
  refine WX.get1 (fs := [.ref 82, .ref 89, .ref 108, .ref 135, .ref 162, .ref 86, .ref 87, .int 0, .ref 88]) rfl (ltN hn (by decide)) (F_h75_81) rfl ?_
  refine WX.s1 rfl rfl ?_
  refine WX.callC (vs := [.ref 89, .int 0]) rfl rfl rfl (Nat.le_of_ble_eq_true rfl) (rcv_ok (ltN hn (by decide)) F_h75_89) ?_
  refine x_lcho0 hn F_h75_89 F_h75_92 (fun h136 fr F_h136_89 => ?_)
  have F_h136_81 : h136 81 = .inr (6, [.ref 82, .ref 89, .ref 108, .ref 135, .ref 162, .ref 86, .ref 87, .int 0, .ref 88]) := (fr _ (by first | decide | omega)).trans F_h75_81
  have F_h136_82 : h136 82 = .inr (3, [.ref 83, .int 0, .ref 84, .ref 85, .int fw, .int fl, .int fwi, .int 0, .int fle, .int fdi, .int (-1), .int fal, .int fad]) := (fr _ (by first | decide | omega)).trans F_h75_82
  have F_h136_88 : h136 88 = .inl (1, 12, .inl ta9) := (fr _ (by first | decide | omega)).trans F_h75_88
  have F_h136_91 : h136 91 = .inl (1, 256, .inl g75) := (fr _ (by first | decide | omega)).trans F_h75_91
  have F_h136_92 : h136 92 = .inr (0, [.ref 93, .ref 94, .ref 95, .int ta, .int 0]) := (fr _ (by first | decide | omega)).trans F_h75_92
  have F_h136_108 : h136 108 = .inr (1, [.ref (aBig + 3), .ref (aBig + 4), .int 9, .ref 109, .ref 110, .ref 113, .int 0, .int 0, .int 0, .ref 114, .ref 121, .ref 128, .ref 114, .ref 111, .int 0, .int 0, .int 0, .int 0]) := (fr _ (by first | decide | omega)).trans F_h75_108
  have F_h136_135 : h136 135 = .inr (1, [.ref (aBig + 5), .ref (aBig + 6), .int 8, .ref 136, .ref 137, .ref 140, .int 0, .int 0, .int 0, .ref 141, .ref 148, .ref 155, .ref 141, .ref 138, .int 0, .int 0, .int 0, .int 0]) := (fr _ (by first | decide | omega)).trans F_h75_135
  have F_h136_162 : h136 162 = .inr (1, [.ref (aBig + 7), .ref (aBig + 8), .int 9, .ref 163, .ref 164, .ref 167, .int 0, .int 0, .int 0, .ref 168, .ref 175, .ref 182, .ref 168, .ref 165, .int 0, .int 0, .int 0, .int 0]) := (fr _ (by first | decide | omega)).trans F_h75_162
  have P_h136_nx : RowN h136 5 12000 c := P_h75_nx.zfr fr (by first | decide | omega) (by first | decide | omega)
  have FR_h136 : Fr h h136 (fun j => j = 5 ∨ j = 6 ∨ (81 ≤ j ∧ j ≤ 188)) := FR_h75.zsub fr (fun j hj => by omega)
  show WX _ _ _ 139 [(0, .ref 81), (1, .ref 5), (2, .int 0), (3, .int 0), (4, .int 1), (5, .int (0 - 0)), (6, .int 1), (7, .int 0), (8, .int ((0 + 0) + 0))] [.int (1 + 0)] (n, s, h136)
  refine WX.s1 rfl rfl ?_
  refine WX.s1 rfl rfl ?_
  refine WX.callC (vs := [.ref 81, .int ((0 + 0) + 0)]) rfl rfl rfl (Nat.le_of_ble_eq_true rfl) (rcv_ok (ltN hn (by decide)) F_h136_81) ?_
  refine x_seqb0 hn F_h136_81 ?_
  show WX _ _ _ 145 [(0, .ref 81), (1, .ref 5), (2, .int 0), (3, .int 0), (4, .int 1), (5, .int (0 - 0)), (6, .int 1), (7, .int 0), (8, .int ((0 + 0) + 0))] [.int 1, .int (1 + 0)] (n, s, h136)
  refine WX.s1 rfl rfl ?_
  refine WX.s1 (L' := [(0, .ref 81), (1, .ref 5), (2, .int 0), (3, .int 0), (4, .int 1), (5, .int (0 - 0)), (6, .int 1), (7, .int 0), (8, .int ((0 + 0) + 0)), (9, .int ((1 + 0) + 1))]) rfl rfl ?_
  refine WX.s1 rfl rfl ?_
  refine WX.s1 rfl rfl ?_
  refine WX.icmp rfl (fun c_152 => ?_) (fun c_152 => absurd (by decide) c_152)
  clear c_152
  refine WX.s1 rfl rfl ?_
  refine WX.s1 rfl rfl ?_
  refine WX.s1 rfl rfl ?_
  refine WX.s1 rfl rfl ?_
  refine WX.s1 rfl rfl ?_
  refine WX.s1 rfl rfl ?_
  refine WX.s1 rfl rfl ?_
  refine WX.s1 rfl rfl ?_
  refine WX.s1 rfl rfl ?_
  refine WX.callC (vs := [.ref 5, .long _, .int 3]) rfl rfl rfl (Nat.le_of_ble_eq_true rfl) (P_h136_nx.rcv (ltN hn (by decide))) ?_
  refine w_putNumN (m := 3) (ltN hn (by decide)) P_h136_nx hc (by decide) (by decide) (fun h208 fr P_h208_nx => ?_)
  have F_h208_81 : h208 81 = .inr (6, [.ref 82, .ref 89, .ref 108, .ref 135, .ref 162, .ref 86, .ref 87, .int 0, .ref 88]) := (fr _ (by first | decide | omega)).trans F_h136_81
  have F_h208_82 : h208 82 = .inr (3, [.ref 83, .int 0, .ref 84, .ref 85, .int fw, .int fl, .int fwi, .int 0, .int fle, .int fdi, .int (-1), .int fal, .int fad]) := (fr _ (by first | decide | omega)).trans F_h136_82
  have F_h208_88 : h208 88 = .inl (1, 12, .inl ta9) := (fr _ (by first | decide | omega)).trans F_h136_88
  have F_h208_89 : h208 89 = .inr (5, [.ref 90, .ref 91, .int 0, .ref 92, .ref 96, .ref 100, .ref 67, .ref 106, .int 0, .int (1 + 0), .int lsh, .int lbe]) := (fr _ (by first | decide | omega)).trans F_h136_89
  have F_h208_91 : h208 91 = .inl (1, 256, .inl g75) := (fr _ (by first | decide | omega)).trans F_h136_91
  have F_h208_92 : h208 92 = .inr (0, [.ref 93, .ref 94, .ref 95, .int ta, .int 0]) := (fr _ (by first | decide | omega)).trans F_h136_92
  have F_h208_108 : h208 108 = .inr (1, [.ref (aBig + 3), .ref (aBig + 4), .int 9, .ref 109, .ref 110, .ref 113, .int 0, .int 0, .int 0, .ref 114, .ref 121, .ref 128, .ref 114, .ref 111, .int 0, .int 0, .int 0, .int 0]) := (fr _ (by first | decide | omega)).trans F_h136_108
  have F_h208_135 : h208 135 = .inr (1, [.ref (aBig + 5), .ref (aBig + 6), .int 8, .ref 136, .ref 137, .ref 140, .int 0, .int 0, .int 0, .ref 141, .ref 148, .ref 155, .ref 141, .ref 138, .int 0, .int 0, .int 0, .int 0]) := (fr _ (by first | decide | omega)).trans F_h136_135
  have F_h208_162 : h208 162 = .inr (1, [.ref (aBig + 7), .ref (aBig + 8), .int 9, .ref 163, .ref 164, .ref 167, .int 0, .int 0, .int 0, .ref 168, .ref 175, .ref 182, .ref 168, .ref 165, .int 0, .int 0, .int 0, .int 0]) := (fr _ (by first | decide | omega)).trans F_h136_162
  have FR_h208 : Fr h h208 (fun j => j = 5 ∨ j = 6 ∨ (81 ≤ j ∧ j ≤ 188)) := FR_h136.zsub fr (fun j hj => by omega)
  show WX _ _ _ 211 [(0, .ref 81), (1, .ref 5), (2, .int 0), (3, .int 0), (4, .int 1), (5, .int (0 - 0)), (6, .int 1), (7, .int 0), (8, .int ((0 + 0) + 0)), (9, .int ((1 + 0) + 1))] [] (n, s, h208)
  refine WX.s1 rfl rfl ?_
  refine WX.get1 (fs := [.ref 82, .ref 89, .ref 108, .ref 135, .ref 162, .ref 86, .ref 87, .int 0, .ref 88]) rfl (ltN hn (by decide)) (F_h208_81) rfl ?_
  refine WX.s1 rfl rfl ?_
  refine WX.s1 rfl rfl ?_
  refine WX.s1 rfl rfl ?_
  refine WX.callC (vs := [.ref 82, .ref 5, .int 0, .int 0]) rfl rfl rfl (Nat.le_of_ble_eq_true rfl) (rcv_ok (ltN hn (by decide)) F_h208_82) ?_
  refine x_putTo0 hn F_h208_82 P_h208_nx ?_
  show WX _ _ _ 221 [(0, .ref 81), (1, .ref 5), (2, .int 0), (3, .int 0), (4, .int 1), (5, .int (0 - 0)), (6, .int 1), (7, .int 0), (8, .int ((0 + 0) + 0)), (9, .int ((1 + 0) + 1))] [] (n, s, h208)
  refine WX.s1 rfl rfl ?_
  refine WX.get1 (fs := [.ref 82, .ref 89, .ref 108, .ref 135, .ref 162, .ref 86, .ref 87, .int 0, .ref 88]) rfl (ltN hn (by decide)) (F_h208_81) rfl ?_
  refine WX.s1 rfl rfl ?_
  refine WX.s1 rfl rfl ?_
  refine WX.iald1 rfl (Or.inl (ltN hn (by decide))) (F_h208_88) (by unfold vp_in; decide) ?_
  refine WX.s1 rfl rfl ?_
  refine WX.s1 rfl rfl ?_
  refine WX.iastN rfl (ltN hn (by decide)) (F_h208_88) (by unfold vp_in; decide) (fun g230 h230 e_g230 e_h230 => ?_)
  try dsimp only at e_g230
  have F_h230_81 : h230 81 = .inr (6, [.ref 82, .ref 89, .ref 108, .ref 135, .ref 162, .ref 86, .ref 87, .int 0, .ref 88]) := by rw [e_h230, va_up_neq (by decide)]; exact F_h208_81
  have F_h230_82 : h230 82 = .inr (3, [.ref 83, .int 0, .ref 84, .ref 85, .int fw, .int fl, .int fwi, .int 0, .int fle, .int fdi, .int (-1), .int fal, .int fad]) := by rw [e_h230, va_up_neq (by decide)]; exact F_h208_82
  have F_h230_88 : h230 88 = .inl (1, 12, .inl g230) := by rw [e_h230]; exact va_up_eq
  have F_h230_89 : h230 89 = .inr (5, [.ref 90, .ref 91, .int 0, .ref 92, .ref 96, .ref 100, .ref 67, .ref 106, .int 0, .int (1 + 0), .int lsh, .int lbe]) := by rw [e_h230, va_up_neq (by decide)]; exact F_h208_89
  have F_h230_91 : h230 91 = .inl (1, 256, .inl g75) := by rw [e_h230, va_up_neq (by decide)]; exact F_h208_91
  have F_h230_92 : h230 92 = .inr (0, [.ref 93, .ref 94, .ref 95, .int ta, .int 0]) := by rw [e_h230, va_up_neq (by decide)]; exact F_h208_92
  have F_h230_108 : h230 108 = .inr (1, [.ref (aBig + 3), .ref (aBig + 4), .int 9, .ref 109, .ref 110, .ref 113, .int 0, .int 0, .int 0, .ref 114, .ref 121, .ref 128, .ref 114, .ref 111, .int 0, .int 0, .int 0, .int 0]) := by rw [e_h230, va_up_neq (by decide)]; exact F_h208_108
  have F_h230_135 : h230 135 = .inr (1, [.ref (aBig + 5), .ref (aBig + 6), .int 8, .ref 136, .ref 137, .ref 140, .int 0, .int 0, .int 0, .ref 141, .ref 148, .ref 155, .ref 141, .ref 138, .int 0, .int 0, .int 0, .int 0]) := by rw [e_h230, va_up_neq (by decide)]; exact F_h208_135
  have F_h230_162 : h230 162 = .inr (1, [.ref (aBig + 7), .ref (aBig + 8), .int 9, .ref 163, .ref 164, .ref 167, .int 0, .int 0, .int 0, .ref 168, .ref 175, .ref 182, .ref 168, .ref 165, .int 0, .int 0, .int 0, .int 0]) := by rw [e_h230, va_up_neq (by decide)]; exact F_h208_162
  have P_h230_nx : RowN h230 5 12000 (c + 3) := P_h208_nx.zfr (Fr.of e_h230) (by decide) (by decide)
  have FR_h230 : Fr h h230 (fun j => j = 5 ∨ j = 6 ∨ (81 ≤ j ∧ j ≤ 188)) := FR_h208.zup e_h230 (by first | exact rfl | exact Or.inl rfl | exact Or.inr rfl | exact ⟨by decide, by decide⟩ | decide | omega)
  clear F_h208_81 F_h208_82 F_h208_88 F_h208_89 F_h208_91 F_h208_92 F_h208_108 F_h208_135 F_h208_162 P_h208_nx FR_h208 e_h230
  exact WX.ret0 rfl (kk h230 FR_h230 P_h230_nx F_h230_81 ⟨_, F_h230_88⟩)
set_option maxRecDepth 20000 in
theorem x_sk0 {d n s : Nat} {h : Nat → aE}      {Ψ : Option Value → aH → Prop} (kk : Ψ (some (.int 0)) (n, s, h)) : WO (mM (d + 1)) 138 [.int 0, .int 1] (n, s, h) Ψ := by
  refine WO.of (Nat.le_of_ble_eq_true rfl) ?_
  show WX (lk tX11_sizeKind) (mM d) Ψ 0 [(0, .int 0), (1, .int 1)] [] (n, s, h)
  refine WX.s1 rfl rfl ?_
  refine WX.s1 rfl rfl ?_
  refine WX.icmp rfl (fun c_4 => absurd c_4 (by decide)) (fun c_4 => ?_)
  clear c_4
  refine WX.s1 rfl rfl ?_
  refine WX.if_ rfl (fun c_8 => absurd c_8 (by decide)) (fun c_8 => ?_)
  clear c_8
  refine WX.s1 rfl rfl ?_
  refine WX.s1 rfl rfl ?_
  exact WX.ret1 rfl kk
set_option maxRecDepth 20000 in
theorem x_sk2 {d n s : Nat} {h : Nat → aE}      {Ψ : Option Value → aH → Prop} (kk : Ψ (some (.int 2)) (n, s, h)) : WO (mM (d + 1)) 138 [.int 0, .int 0] (n, s, h) Ψ := by
  refine WO.of (Nat.le_of_ble_eq_true rfl) ?_
  show WX (lk tX11_sizeKind) (mM d) Ψ 0 [(0, .int 0), (1, .int 0)] [] (n, s, h)
  refine WX.s1 rfl rfl ?_
  refine WX.s1 rfl rfl ?_
  refine WX.icmp rfl (fun c_4 => absurd c_4 (by decide)) (fun c_4 => ?_)
  clear c_4
  refine WX.s1 rfl rfl ?_
  refine WX.if_ rfl (fun c_8 => ?_) (fun c_8 => absurd (by decide) c_8)
  clear c_8
  refine WX.s1 rfl rfl ?_
  exact WX.ret1 rfl kk
set_option maxRecDepth 20000 in
theorem x_ik0 {d n s : Nat} {h : Nat → aE}      {Ψ : Option Value → aH → Prop} (kk : Ψ (some (.int 0)) (n, s, h)) : WO (mM (d + 1)) 139 [.long 0] (n, s, h) Ψ := by
  refine WO.of (Nat.le_of_ble_eq_true rfl) ?_
  show WX (lk tX11_idKind) (mM d) Ψ 0 [(0, .long 0)] [] (n, s, h)
  refine WX.s1 rfl rfl ?_
  refine WX.s1 rfl rfl ?_
  refine WX.s1 rfl rfl ?_
  refine WX.if_ rfl (fun c_3 => absurd c_3 (by decide)) (fun c_3 => ?_)
  refine WX.s1 rfl rfl ?_
  exact WX.ret1 rfl kk
def hCnt (f : Int32) : Nat := 5 + (if f &&& 4 = 0 then (if f &&& 2 = 0 then 1 else 5) else 1)
theorem hCnt_le (f : Int32) : hCnt f ≤ 10 := by
  unfold hCnt
  by_cases a : f &&& 4 = 0
  · rw [if_pos a]
    by_cases b : f &&& 2 = 0
    · rw [if_pos b]; decide
    · rw [if_neg b]; decide
  · rw [if_neg a]; decide
def pCnt (f : Int32) : Nat := hCnt f + 3 + (if f &&& 1 = 0 then 0 else 4)
def pBad (f e c : Int32) : Prop := f < 0 ∨ 15 < f ∨ e < 0 ∨ 11 < e ∨ c < 1 ∨ 8000 < c ∨ (f &&& 4 = 0 ∧ (1 : Int32) <<< ((10 + e) &&& 31) < c)
set_option maxRecDepth 20000 in
theorem x_head0 {d n s : Nat} {h : Nat → aE} {fl e s1 hd1 : Int32} {ho1 : Int64} (hn : 190 ≤ n)  (F_h_0 : h 0 = .inr (10, [.ref 1, .ref 3, .ref 5, .ref 7, .long 0, .ref 9, .ref 38, .ref 67, .ref 81, .ref 189, .int 2, .int 3])) (F_h_1 : h 1 = .inr (7, [.ref 2, .int 0, .int s1, .long ho1, .int hd1])) (P_h_nx : RowN h 5 12000 0) {Ψ : Option Value → aH → Prop} (kk : ∀ h', Fr h h' (fun j => j = 5 ∨ j = 6) → RowN h' 5 12000 (hCnt fl) → Ψ none (n, s, h')) : WO (mM (d + 3)) 137 [.ref 0, .int fl, .int e] (n, s, h) Ψ := by
  refine WO.of (Nat.le_of_ble_eq_true rfl) ?_
  have FR_h : Fr h h (fun j => j = 5 ∨ j = 6) := Fr.rf
  show WX (lk tX11_putHead) (mM (d + 2)) Ψ 0 [(0, .ref 0), (1, .int fl), (2, .int e)] [] (n, s, h)
  refine WX.s1 rfl rfl ?_
  refine WX.s1 rfl rfl ?_
  refine WX.s1 rfl rfl ?_
  refine WX.if_ rfl (fun c_3 => ?_) (fun c_3 => ?_)
  · skip
    refine WX.s1 rfl rfl ?_
    refine WX.s1 (L' := [(0, .ref 0), (1, .int fl), (2, .int e), (3, .int 0)]) rfl rfl ?_
    refine WX.s1 rfl rfl ?_
    refine WX.if_ rfl (fun c_13 => absurd c_13 (by decide)) (fun c_13 => ?_)
    clear c_13
    refine WX.s1 rfl rfl ?_
    refine WX.s1 rfl rfl ?_
    refine WX.s1 rfl rfl ?_
    refine WX.if_ rfl (fun c_19 => ?_) (fun c_19 => ?_)
    · skip
      refine WX.s1 rfl rfl ?_
      refine WX.s1 (L' := [(0, .ref 0), (1, .int fl), (2, .int e), (3, .int 0), (4, .int 0)]) rfl rfl ?_
      refine WX.s1 rfl rfl ?_
      refine WX.if_ rfl (fun c_31 => ?_) (fun c_31 => absurd (by decide) c_31)
      clear c_31
      refine WX.s1 rfl rfl ?_
      refine WX.s1 (L' := [(0, .ref 0), (1, .int fl), (2, .int e), (3, .int 0), (4, .int 0), (5, .int 0)]) rfl rfl ?_
      have t69 : WX (lk tX11_putHead) (mM (d + 2)) Ψ 69 [(0, .ref 0), (1, .int fl), (2, .int e), (3, .int 0), (4, .int 0), (5, .int 0)] [.int 0] (n, s, h) := by
        refine WX.s1 (L' := [(0, .ref 0), (1, .int fl), (2, .int e), (3, .int 0), (4, .int 0), (5, .int 0), (6, .int 0)]) rfl rfl ?_
        refine WX.s1 rfl rfl ?_
        refine WX.get1 (fs := [.ref 1, .ref 3, .ref 5, .ref 7, .long 0, .ref 9, .ref 38, .ref 67, .ref 81, .ref 189, .int 2, .int 3]) rfl (ltN hn (by decide)) (F_h_0) rfl ?_
        refine WX.s1 rfl rfl ?_
        refine WX.s1 rfl rfl ?_
        refine WX.callC (vs := [.ref 5, .long 4247762216, .int 4]) rfl rfl rfl (Nat.le_of_ble_eq_true rfl) (P_h_nx.rcv (ltN hn (by decide))) ?_
        refine w_putNumN (m := 4) (ltN hn (by decide)) P_h_nx (by decide) (by decide) (by decide) (fun h79 fr P_h79_nx => ?_)
        have F_h79_0 : h79 0 = .inr (10, [.ref 1, .ref 3, .ref 5, .ref 7, .long 0, .ref 9, .ref 38, .ref 67, .ref 81, .ref 189, .int 2, .int 3]) := (fr _ (by first | decide | omega)).trans F_h_0
        have F_h79_1 : h79 1 = .inr (7, [.ref 2, .int 0, .int s1, .long ho1, .int hd1]) := (fr _ (by first | decide | omega)).trans F_h_1
        have FR_h79 : Fr h h79 (fun j => j = 5 ∨ j = 6) := FR_h.zsub fr (fun j hj => by omega)
        show WX _ _ _ 82 [(0, .ref 0), (1, .int fl), (2, .int e), (3, .int 0), (4, .int 0), (5, .int 0), (6, .int 0)] [] (n, s, h79)
        refine WX.s1 rfl rfl ?_
        refine WX.get1 (fs := [.ref 1, .ref 3, .ref 5, .ref 7, .long 0, .ref 9, .ref 38, .ref 67, .ref 81, .ref 189, .int 2, .int 3]) rfl (ltN hn (by decide)) (F_h79_0) rfl ?_
        refine WX.s1 rfl rfl ?_
        refine WX.s1 rfl rfl ?_
        refine WX.s1 rfl rfl ?_
        refine WX.s1 rfl rfl ?_
        refine WX.if_ rfl (fun c_92 => ?_) (fun c_92 => absurd (by decide) c_92)
        clear c_92
        refine WX.s1 rfl rfl ?_
        refine WX.s1 rfl rfl ?_
        have t113 : ∀ v, WX (lk tX11_putHead) (mM (d + 2)) Ψ 113 [(0, .ref 0), (1, .int fl), (2, .int e), (3, .int 0), (4, .int 0), (5, .int 0), (6, .int 0)] [.int v, .int ((64 * 0) + 0), .ref 5] (n, s, h79) := by
          intro v
          refine WX.s1 rfl rfl ?_
          refine WX.s1 rfl rfl ?_
          refine WX.s1 rfl rfl ?_
          refine WX.callC (vs := [.ref 5, .int ((((64 * 0) + 0) + v) + 0)]) rfl rfl rfl (Nat.le_of_ble_eq_true rfl) (P_h79_nx.rcv (ltN hn (by decide))) ?_
          refine w_putN (ltN hn (by decide)) P_h79_nx (by decide) (by decide) (fun h117 fr P_h117_nx => ?_)
          have F_h117_0 : h117 0 = .inr (10, [.ref 1, .ref 3, .ref 5, .ref 7, .long 0, .ref 9, .ref 38, .ref 67, .ref 81, .ref 189, .int 2, .int 3]) := (fr _ (by first | decide | omega)).trans F_h79_0
          have F_h117_1 : h117 1 = .inr (7, [.ref 2, .int 0, .int s1, .long ho1, .int hd1]) := (fr _ (by first | decide | omega)).trans F_h79_1
          have FR_h117 : Fr h h117 (fun j => j = 5 ∨ j = 6) := FR_h79.zsub fr (fun j hj => by omega)
          show WX _ _ _ 120 [(0, .ref 0), (1, .int fl), (2, .int e), (3, .int 0), (4, .int 0), (5, .int 0), (6, .int 0)] [] (n, s, h117)
          refine WX.s1 rfl rfl ?_
          refine WX.if_ rfl (fun c_121 => absurd c_121 (by decide)) (fun c_121 => ?_)
          clear c_121
          refine WX.s1 rfl rfl ?_
          refine WX.get1 (fs := [.ref 1, .ref 3, .ref 5, .ref 7, .long 0, .ref 9, .ref 38, .ref 67, .ref 81, .ref 189, .int 2, .int 3]) rfl (ltN hn (by decide)) (F_h117_0) rfl ?_
          refine WX.s1 rfl rfl ?_
          refine WX.s1 rfl rfl ?_
          refine WX.s1 rfl rfl ?_
          refine WX.callC (vs := [.ref 5, .int (8 * e)]) rfl rfl rfl (Nat.le_of_ble_eq_true rfl) (P_h117_nx.rcv (ltN hn (by decide))) ?_
          refine w_putN (ltN hn (by decide)) P_h117_nx (by decide) (by decide) (fun h132 fr P_h132_nx => ?_)
          have F_h132_0 : h132 0 = .inr (10, [.ref 1, .ref 3, .ref 5, .ref 7, .long 0, .ref 9, .ref 38, .ref 67, .ref 81, .ref 189, .int 2, .int 3]) := (fr _ (by first | decide | omega)).trans F_h117_0
          have F_h132_1 : h132 1 = .inr (7, [.ref 2, .int 0, .int s1, .long ho1, .int hd1]) := (fr _ (by first | decide | omega)).trans F_h117_1
          have FR_h132 : Fr h h132 (fun j => j = 5 ∨ j = 6) := FR_h117.zsub fr (fun j hj => by omega)
          show WX _ _ _ 135 [(0, .ref 0), (1, .int fl), (2, .int e), (3, .int 0), (4, .int 0), (5, .int 0), (6, .int 0)] [] (n, s, h132)
          refine WX.s1 rfl rfl ?_
          refine WX.get1 (fs := [.ref 1, .ref 3, .ref 5, .ref 7, .long 0, .ref 9, .ref 38, .ref 67, .ref 81, .ref 189, .int 2, .int 3]) rfl (ltN hn (by decide)) (F_h132_0) rfl ?_
          refine WX.s1 rfl rfl ?_
          refine WX.get1 (fs := [.ref 1, .ref 3, .ref 5, .ref 7, .long 0, .ref 9, .ref 38, .ref 67, .ref 81, .ref 189, .int 2, .int 3]) rfl (ltN hn (by decide)) (F_h132_0) rfl ?_
          refine WX.s1 rfl rfl ?_
          refine WX.s1 rfl rfl ?_
          refine WX.icmp rfl (fun c_146 => ?_) (fun c_146 => absurd (by decide) c_146)
          clear c_146
          refine WX.s1 rfl rfl ?_
          refine WX.callC (vs := [.ref 5, .long 0, .int 0]) rfl rfl rfl (Nat.le_of_ble_eq_true rfl) (P_h132_nx.rcv (ltN hn (by decide))) ?_
          refine w_putNumN (m := 0) (ltN hn (by decide)) P_h132_nx (by decide) (by decide) (by decide) (fun h155 fr P_h155_nx => ?_)
          have F_h155_0 : h155 0 = .inr (10, [.ref 1, .ref 3, .ref 5, .ref 7, .long 0, .ref 9, .ref 38, .ref 67, .ref 81, .ref 189, .int 2, .int 3]) := (fr _ (by first | decide | omega)).trans F_h132_0
          have F_h155_1 : h155 1 = .inr (7, [.ref 2, .int 0, .int s1, .long ho1, .int hd1]) := (fr _ (by first | decide | omega)).trans F_h132_1
          have FR_h155 : Fr h h155 (fun j => j = 5 ∨ j = 6) := FR_h132.zsub fr (fun j hj => by omega)
          show WX _ _ _ 158 [(0, .ref 0), (1, .int fl), (2, .int e), (3, .int 0), (4, .int 0), (5, .int 0), (6, .int 0)] [] (n, s, h155)
          refine WX.s1 rfl rfl ?_
          refine WX.if_ rfl (fun c_160 => ?_) (fun c_160 => absurd (by decide) c_160)
          clear c_160
          refine WX.ret0 rfl (kk h155 FR_h155 ?_)
          have ec : hCnt fl = 6 := by first | (unfold hCnt; rw [if_pos c_3, if_pos c_19]) | (unfold hCnt; rw [if_pos c_3, if_neg c_19]) | (unfold hCnt; rw [if_neg c_3])
          rw [ec]
          exact P_h155_nx
        refine WX.s1 rfl rfl ?_
        refine WX.s1 rfl rfl ?_
        refine WX.s1 rfl rfl ?_
        refine WX.if_ rfl (fun c_105 => ?_) (fun c_105 => ?_)
        · skip
          refine WX.s1 rfl rfl ?_
          exact t113 _
        · skip
          refine WX.s1 rfl rfl ?_
          refine WX.s1 rfl rfl ?_
          exact t113 _
      refine WX.s1 rfl rfl ?_
      refine WX.s1 rfl rfl ?_
      refine WX.s1 rfl rfl ?_
      refine WX.if_ rfl (fun c_55 => ?_) (fun c_55 => ?_)
      · skip
        refine WX.s1 rfl rfl ?_
        exact t69
      · skip
        refine WX.s1 rfl rfl ?_
        refine WX.get1 (fs := [.ref 1, .ref 3, .ref 5, .ref 7, .long 0, .ref 9, .ref 38, .ref 67, .ref 81, .ref 189, .int 2, .int 3]) rfl (ltN hn (by decide)) (F_h_0) rfl ?_
        refine WX.callC (vs := [.long 0]) rfl rfl rfl (Nat.le_of_ble_eq_true rfl) rfl ?_
        refine x_ik0  ?_
        show WX _ _ _ 65 [(0, .ref 0), (1, .int fl), (2, .int e), (3, .int 0), (4, .int 0), (5, .int 0)] [.int 0] (n, s, h)
        refine WX.s1 rfl rfl ?_
        exact t69
    · skip
      refine WX.s1 rfl rfl ?_
      refine WX.s1 rfl rfl ?_
      refine WX.s1 (L' := [(0, .ref 0), (1, .int fl), (2, .int e), (3, .int 0), (4, .int 1)]) rfl rfl ?_
      refine WX.s1 rfl rfl ?_
      refine WX.if_ rfl (fun c_31 => absurd c_31 (by decide)) (fun c_31 => ?_)
      clear c_31
      refine WX.s1 rfl rfl ?_
      refine WX.get1 (fs := [.ref 1, .ref 3, .ref 5, .ref 7, .long 0, .ref 9, .ref 38, .ref 67, .ref 81, .ref 189, .int 2, .int 3]) rfl (ltN hn (by decide)) (F_h_0) rfl ?_
      refine WX.get1 (fs := [.ref 2, .int 0, .int s1, .long ho1, .int hd1]) rfl (ltN hn (by decide)) (F_h_1) rfl ?_
      refine WX.s1 rfl rfl ?_
      refine WX.callC (vs := [.int 0, .int 0]) rfl rfl rfl (Nat.le_of_ble_eq_true rfl) rfl ?_
      refine x_sk2  ?_
      show WX _ _ _ 45 [(0, .ref 0), (1, .int fl), (2, .int e), (3, .int 0), (4, .int 1)] [.int 2] (n, s, h)
      refine WX.s1 rfl rfl ?_
      refine WX.s1 (L' := [(0, .ref 0), (1, .int fl), (2, .int e), (3, .int 0), (4, .int 1), (5, .int 2)]) rfl rfl ?_
      have t69 : WX (lk tX11_putHead) (mM (d + 2)) Ψ 69 [(0, .ref 0), (1, .int fl), (2, .int e), (3, .int 0), (4, .int 1), (5, .int 2)] [.int 0] (n, s, h) := by
        refine WX.s1 (L' := [(0, .ref 0), (1, .int fl), (2, .int e), (3, .int 0), (4, .int 1), (5, .int 2), (6, .int 0)]) rfl rfl ?_
        refine WX.s1 rfl rfl ?_
        refine WX.get1 (fs := [.ref 1, .ref 3, .ref 5, .ref 7, .long 0, .ref 9, .ref 38, .ref 67, .ref 81, .ref 189, .int 2, .int 3]) rfl (ltN hn (by decide)) (F_h_0) rfl ?_
        refine WX.s1 rfl rfl ?_
        refine WX.s1 rfl rfl ?_
        refine WX.callC (vs := [.ref 5, .long 4247762216, .int 4]) rfl rfl rfl (Nat.le_of_ble_eq_true rfl) (P_h_nx.rcv (ltN hn (by decide))) ?_
        refine w_putNumN (m := 4) (ltN hn (by decide)) P_h_nx (by decide) (by decide) (by decide) (fun h79 fr P_h79_nx => ?_)
        have F_h79_0 : h79 0 = .inr (10, [.ref 1, .ref 3, .ref 5, .ref 7, .long 0, .ref 9, .ref 38, .ref 67, .ref 81, .ref 189, .int 2, .int 3]) := (fr _ (by first | decide | omega)).trans F_h_0
        have F_h79_1 : h79 1 = .inr (7, [.ref 2, .int 0, .int s1, .long ho1, .int hd1]) := (fr _ (by first | decide | omega)).trans F_h_1
        have FR_h79 : Fr h h79 (fun j => j = 5 ∨ j = 6) := FR_h.zsub fr (fun j hj => by omega)
        show WX _ _ _ 82 [(0, .ref 0), (1, .int fl), (2, .int e), (3, .int 0), (4, .int 1), (5, .int 2), (6, .int 0)] [] (n, s, h79)
        refine WX.s1 rfl rfl ?_
        refine WX.get1 (fs := [.ref 1, .ref 3, .ref 5, .ref 7, .long 0, .ref 9, .ref 38, .ref 67, .ref 81, .ref 189, .int 2, .int 3]) rfl (ltN hn (by decide)) (F_h79_0) rfl ?_
        refine WX.s1 rfl rfl ?_
        refine WX.s1 rfl rfl ?_
        refine WX.s1 rfl rfl ?_
        refine WX.s1 rfl rfl ?_
        refine WX.if_ rfl (fun c_92 => ?_) (fun c_92 => absurd (by decide) c_92)
        clear c_92
        refine WX.s1 rfl rfl ?_
        refine WX.s1 rfl rfl ?_
        have t113 : ∀ v, WX (lk tX11_putHead) (mM (d + 2)) Ψ 113 [(0, .ref 0), (1, .int fl), (2, .int e), (3, .int 0), (4, .int 1), (5, .int 2), (6, .int 0)] [.int v, .int ((64 * 2) + 0), .ref 5] (n, s, h79) := by
          intro v
          refine WX.s1 rfl rfl ?_
          refine WX.s1 rfl rfl ?_
          refine WX.s1 rfl rfl ?_
          refine WX.callC (vs := [.ref 5, .int ((((64 * 2) + 0) + v) + 0)]) rfl rfl rfl (Nat.le_of_ble_eq_true rfl) (P_h79_nx.rcv (ltN hn (by decide))) ?_
          refine w_putN (ltN hn (by decide)) P_h79_nx (by decide) (by decide) (fun h117 fr P_h117_nx => ?_)
          have F_h117_0 : h117 0 = .inr (10, [.ref 1, .ref 3, .ref 5, .ref 7, .long 0, .ref 9, .ref 38, .ref 67, .ref 81, .ref 189, .int 2, .int 3]) := (fr _ (by first | decide | omega)).trans F_h79_0
          have F_h117_1 : h117 1 = .inr (7, [.ref 2, .int 0, .int s1, .long ho1, .int hd1]) := (fr _ (by first | decide | omega)).trans F_h79_1
          have FR_h117 : Fr h h117 (fun j => j = 5 ∨ j = 6) := FR_h79.zsub fr (fun j hj => by omega)
          show WX _ _ _ 120 [(0, .ref 0), (1, .int fl), (2, .int e), (3, .int 0), (4, .int 1), (5, .int 2), (6, .int 0)] [] (n, s, h117)
          refine WX.s1 rfl rfl ?_
          refine WX.if_ rfl (fun c_121 => absurd c_121 (by decide)) (fun c_121 => ?_)
          clear c_121
          refine WX.s1 rfl rfl ?_
          refine WX.get1 (fs := [.ref 1, .ref 3, .ref 5, .ref 7, .long 0, .ref 9, .ref 38, .ref 67, .ref 81, .ref 189, .int 2, .int 3]) rfl (ltN hn (by decide)) (F_h117_0) rfl ?_
          refine WX.s1 rfl rfl ?_
          refine WX.s1 rfl rfl ?_
          refine WX.s1 rfl rfl ?_
          refine WX.callC (vs := [.ref 5, .int (8 * e)]) rfl rfl rfl (Nat.le_of_ble_eq_true rfl) (P_h117_nx.rcv (ltN hn (by decide))) ?_
          refine w_putN (ltN hn (by decide)) P_h117_nx (by decide) (by decide) (fun h132 fr P_h132_nx => ?_)
          have F_h132_0 : h132 0 = .inr (10, [.ref 1, .ref 3, .ref 5, .ref 7, .long 0, .ref 9, .ref 38, .ref 67, .ref 81, .ref 189, .int 2, .int 3]) := (fr _ (by first | decide | omega)).trans F_h117_0
          have F_h132_1 : h132 1 = .inr (7, [.ref 2, .int 0, .int s1, .long ho1, .int hd1]) := (fr _ (by first | decide | omega)).trans F_h117_1
          have FR_h132 : Fr h h132 (fun j => j = 5 ∨ j = 6) := FR_h117.zsub fr (fun j hj => by omega)
          show WX _ _ _ 135 [(0, .ref 0), (1, .int fl), (2, .int e), (3, .int 0), (4, .int 1), (5, .int 2), (6, .int 0)] [] (n, s, h132)
          refine WX.s1 rfl rfl ?_
          refine WX.get1 (fs := [.ref 1, .ref 3, .ref 5, .ref 7, .long 0, .ref 9, .ref 38, .ref 67, .ref 81, .ref 189, .int 2, .int 3]) rfl (ltN hn (by decide)) (F_h132_0) rfl ?_
          refine WX.s1 rfl rfl ?_
          refine WX.get1 (fs := [.ref 1, .ref 3, .ref 5, .ref 7, .long 0, .ref 9, .ref 38, .ref 67, .ref 81, .ref 189, .int 2, .int 3]) rfl (ltN hn (by decide)) (F_h132_0) rfl ?_
          refine WX.s1 rfl rfl ?_
          refine WX.s1 rfl rfl ?_
          refine WX.icmp rfl (fun c_146 => ?_) (fun c_146 => absurd (by decide) c_146)
          clear c_146
          refine WX.s1 rfl rfl ?_
          refine WX.callC (vs := [.ref 5, .long 0, .int 0]) rfl rfl rfl (Nat.le_of_ble_eq_true rfl) (P_h132_nx.rcv (ltN hn (by decide))) ?_
          refine w_putNumN (m := 0) (ltN hn (by decide)) P_h132_nx (by decide) (by decide) (by decide) (fun h155 fr P_h155_nx => ?_)
          have F_h155_0 : h155 0 = .inr (10, [.ref 1, .ref 3, .ref 5, .ref 7, .long 0, .ref 9, .ref 38, .ref 67, .ref 81, .ref 189, .int 2, .int 3]) := (fr _ (by first | decide | omega)).trans F_h132_0
          have F_h155_1 : h155 1 = .inr (7, [.ref 2, .int 0, .int s1, .long ho1, .int hd1]) := (fr _ (by first | decide | omega)).trans F_h132_1
          have FR_h155 : Fr h h155 (fun j => j = 5 ∨ j = 6) := FR_h132.zsub fr (fun j hj => by omega)
          show WX _ _ _ 158 [(0, .ref 0), (1, .int fl), (2, .int e), (3, .int 0), (4, .int 1), (5, .int 2), (6, .int 0)] [] (n, s, h155)
          refine WX.s1 rfl rfl ?_
          refine WX.if_ rfl (fun c_160 => absurd c_160 (by decide)) (fun c_160 => ?_)
          clear c_160
          refine WX.s1 rfl rfl ?_
          refine WX.get1 (fs := [.ref 1, .ref 3, .ref 5, .ref 7, .long 0, .ref 9, .ref 38, .ref 67, .ref 81, .ref 189, .int 2, .int 3]) rfl (ltN hn (by decide)) (F_h155_0) rfl ?_
          refine WX.s1 rfl rfl ?_
          refine WX.s1 rfl rfl ?_
          refine WX.icmp rfl (fun c_170 => ?_) (fun c_170 => absurd (by decide) c_170)
          clear c_170
          refine WX.s1 rfl rfl ?_
          refine WX.get1 (fs := [.ref 1, .ref 3, .ref 5, .ref 7, .long 0, .ref 9, .ref 38, .ref 67, .ref 81, .ref 189, .int 2, .int 3]) rfl (ltN hn (by decide)) (F_h155_0) rfl ?_
          refine WX.get1 (fs := [.ref 2, .int 0, .int s1, .long ho1, .int hd1]) rfl (ltN hn (by decide)) (F_h155_1) rfl ?_
          refine WX.s1 rfl rfl ?_
          refine WX.s1 rfl rfl ?_
          refine WX.s1 rfl rfl ?_
          refine WX.s1 rfl rfl ?_
          refine WX.callC (vs := [.ref 5, .long _, .int _]) rfl rfl rfl (Nat.le_of_ble_eq_true rfl) (P_h155_nx.rcv (ltN hn (by decide))) ?_
          refine w_putNumN (m := 4) (ltN hn (by decide)) P_h155_nx (by decide) (by decide) (by decide) (fun h200 fr P_h200_nx => ?_)
          have F_h200_0 : h200 0 = .inr (10, [.ref 1, .ref 3, .ref 5, .ref 7, .long 0, .ref 9, .ref 38, .ref 67, .ref 81, .ref 189, .int 2, .int 3]) := (fr _ (by first | decide | omega)).trans F_h155_0
          have F_h200_1 : h200 1 = .inr (7, [.ref 2, .int 0, .int s1, .long ho1, .int hd1]) := (fr _ (by first | decide | omega)).trans F_h155_1
          have FR_h200 : Fr h h200 (fun j => j = 5 ∨ j = 6) := FR_h155.zsub fr (fun j hj => by omega)
          show WX _ _ _ 203 [(0, .ref 0), (1, .int fl), (2, .int e), (3, .int 0), (4, .int 1), (5, .int 2), (6, .int 0)] [] (n, s, h200)
          refine WX.ret0 rfl (kk h200 FR_h200 ?_)
          have ec : hCnt fl = 10 := by first | (unfold hCnt; rw [if_pos c_3, if_pos c_19]) | (unfold hCnt; rw [if_pos c_3, if_neg c_19]) | (unfold hCnt; rw [if_neg c_3])
          rw [ec]
          exact P_h200_nx
        refine WX.s1 rfl rfl ?_
        refine WX.s1 rfl rfl ?_
        refine WX.s1 rfl rfl ?_
        refine WX.if_ rfl (fun c_105 => ?_) (fun c_105 => ?_)
        · skip
          refine WX.s1 rfl rfl ?_
          exact t113 _
        · skip
          refine WX.s1 rfl rfl ?_
          refine WX.s1 rfl rfl ?_
          exact t113 _
      refine WX.s1 rfl rfl ?_
      refine WX.s1 rfl rfl ?_
      refine WX.s1 rfl rfl ?_
      refine WX.if_ rfl (fun c_55 => ?_) (fun c_55 => ?_)
      · skip
        refine WX.s1 rfl rfl ?_
        exact t69
      · skip
        refine WX.s1 rfl rfl ?_
        refine WX.get1 (fs := [.ref 1, .ref 3, .ref 5, .ref 7, .long 0, .ref 9, .ref 38, .ref 67, .ref 81, .ref 189, .int 2, .int 3]) rfl (ltN hn (by decide)) (F_h_0) rfl ?_
        refine WX.callC (vs := [.long 0]) rfl rfl rfl (Nat.le_of_ble_eq_true rfl) rfl ?_
        refine x_ik0  ?_
        show WX _ _ _ 65 [(0, .ref 0), (1, .int fl), (2, .int e), (3, .int 0), (4, .int 1), (5, .int 2)] [.int 0] (n, s, h)
        refine WX.s1 rfl rfl ?_
        exact t69
  · skip
    refine WX.s1 rfl rfl ?_
    refine WX.s1 rfl rfl ?_
    refine WX.s1 (L' := [(0, .ref 0), (1, .int fl), (2, .int e), (3, .int 1)]) rfl rfl ?_
    refine WX.s1 rfl rfl ?_
    refine WX.if_ rfl (fun c_13 => ?_) (fun c_13 => absurd (by decide) c_13)
    clear c_13
    refine WX.s1 rfl rfl ?_
    refine WX.s1 rfl rfl ?_
    refine WX.s1 (L' := [(0, .ref 0), (1, .int fl), (2, .int e), (3, .int 1), (4, .int 1)]) rfl rfl ?_
    refine WX.s1 rfl rfl ?_
    refine WX.if_ rfl (fun c_31 => absurd c_31 (by decide)) (fun c_31 => ?_)
    clear c_31
    refine WX.s1 rfl rfl ?_
    refine WX.get1 (fs := [.ref 1, .ref 3, .ref 5, .ref 7, .long 0, .ref 9, .ref 38, .ref 67, .ref 81, .ref 189, .int 2, .int 3]) rfl (ltN hn (by decide)) (F_h_0) rfl ?_
    refine WX.get1 (fs := [.ref 2, .int 0, .int s1, .long ho1, .int hd1]) rfl (ltN hn (by decide)) (F_h_1) rfl ?_
    refine WX.s1 rfl rfl ?_
    refine WX.callC (vs := [.int 0, .int 1]) rfl rfl rfl (Nat.le_of_ble_eq_true rfl) rfl ?_
    refine x_sk0  ?_
    show WX _ _ _ 45 [(0, .ref 0), (1, .int fl), (2, .int e), (3, .int 1), (4, .int 1)] [.int 0] (n, s, h)
    refine WX.s1 rfl rfl ?_
    refine WX.s1 (L' := [(0, .ref 0), (1, .int fl), (2, .int e), (3, .int 1), (4, .int 1), (5, .int 0)]) rfl rfl ?_
    have t69 : WX (lk tX11_putHead) (mM (d + 2)) Ψ 69 [(0, .ref 0), (1, .int fl), (2, .int e), (3, .int 1), (4, .int 1), (5, .int 0)] [.int 0] (n, s, h) := by
      refine WX.s1 (L' := [(0, .ref 0), (1, .int fl), (2, .int e), (3, .int 1), (4, .int 1), (5, .int 0), (6, .int 0)]) rfl rfl ?_
      refine WX.s1 rfl rfl ?_
      refine WX.get1 (fs := [.ref 1, .ref 3, .ref 5, .ref 7, .long 0, .ref 9, .ref 38, .ref 67, .ref 81, .ref 189, .int 2, .int 3]) rfl (ltN hn (by decide)) (F_h_0) rfl ?_
      refine WX.s1 rfl rfl ?_
      refine WX.s1 rfl rfl ?_
      refine WX.callC (vs := [.ref 5, .long 4247762216, .int 4]) rfl rfl rfl (Nat.le_of_ble_eq_true rfl) (P_h_nx.rcv (ltN hn (by decide))) ?_
      refine w_putNumN (m := 4) (ltN hn (by decide)) P_h_nx (by decide) (by decide) (by decide) (fun h79 fr P_h79_nx => ?_)
      have F_h79_0 : h79 0 = .inr (10, [.ref 1, .ref 3, .ref 5, .ref 7, .long 0, .ref 9, .ref 38, .ref 67, .ref 81, .ref 189, .int 2, .int 3]) := (fr _ (by first | decide | omega)).trans F_h_0
      have F_h79_1 : h79 1 = .inr (7, [.ref 2, .int 0, .int s1, .long ho1, .int hd1]) := (fr _ (by first | decide | omega)).trans F_h_1
      have FR_h79 : Fr h h79 (fun j => j = 5 ∨ j = 6) := FR_h.zsub fr (fun j hj => by omega)
      show WX _ _ _ 82 [(0, .ref 0), (1, .int fl), (2, .int e), (3, .int 1), (4, .int 1), (5, .int 0), (6, .int 0)] [] (n, s, h79)
      refine WX.s1 rfl rfl ?_
      refine WX.get1 (fs := [.ref 1, .ref 3, .ref 5, .ref 7, .long 0, .ref 9, .ref 38, .ref 67, .ref 81, .ref 189, .int 2, .int 3]) rfl (ltN hn (by decide)) (F_h79_0) rfl ?_
      refine WX.s1 rfl rfl ?_
      refine WX.s1 rfl rfl ?_
      refine WX.s1 rfl rfl ?_
      refine WX.s1 rfl rfl ?_
      refine WX.if_ rfl (fun c_92 => absurd c_92 (by decide)) (fun c_92 => ?_)
      clear c_92
      refine WX.s1 rfl rfl ?_
      refine WX.s1 rfl rfl ?_
      refine WX.s1 rfl rfl ?_
      have t113 : ∀ v, WX (lk tX11_putHead) (mM (d + 2)) Ψ 113 [(0, .ref 0), (1, .int fl), (2, .int e), (3, .int 1), (4, .int 1), (5, .int 0), (6, .int 0)] [.int v, .int ((64 * 0) + 32), .ref 5] (n, s, h79) := by
        intro v
        refine WX.s1 rfl rfl ?_
        refine WX.s1 rfl rfl ?_
        refine WX.s1 rfl rfl ?_
        refine WX.callC (vs := [.ref 5, .int ((((64 * 0) + 32) + v) + 0)]) rfl rfl rfl (Nat.le_of_ble_eq_true rfl) (P_h79_nx.rcv (ltN hn (by decide))) ?_
        refine w_putN (ltN hn (by decide)) P_h79_nx (by decide) (by decide) (fun h117 fr P_h117_nx => ?_)
        have F_h117_0 : h117 0 = .inr (10, [.ref 1, .ref 3, .ref 5, .ref 7, .long 0, .ref 9, .ref 38, .ref 67, .ref 81, .ref 189, .int 2, .int 3]) := (fr _ (by first | decide | omega)).trans F_h79_0
        have F_h117_1 : h117 1 = .inr (7, [.ref 2, .int 0, .int s1, .long ho1, .int hd1]) := (fr _ (by first | decide | omega)).trans F_h79_1
        have FR_h117 : Fr h h117 (fun j => j = 5 ∨ j = 6) := FR_h79.zsub fr (fun j hj => by omega)
        show WX _ _ _ 120 [(0, .ref 0), (1, .int fl), (2, .int e), (3, .int 1), (4, .int 1), (5, .int 0), (6, .int 0)] [] (n, s, h117)
        refine WX.s1 rfl rfl ?_
        refine WX.if_ rfl (fun c_121 => ?_) (fun c_121 => absurd (by decide) c_121)
        clear c_121
        refine WX.s1 rfl rfl ?_
        refine WX.get1 (fs := [.ref 1, .ref 3, .ref 5, .ref 7, .long 0, .ref 9, .ref 38, .ref 67, .ref 81, .ref 189, .int 2, .int 3]) rfl (ltN hn (by decide)) (F_h117_0) rfl ?_
        refine WX.s1 rfl rfl ?_
        refine WX.get1 (fs := [.ref 1, .ref 3, .ref 5, .ref 7, .long 0, .ref 9, .ref 38, .ref 67, .ref 81, .ref 189, .int 2, .int 3]) rfl (ltN hn (by decide)) (F_h117_0) rfl ?_
        refine WX.s1 rfl rfl ?_
        refine WX.s1 rfl rfl ?_
        refine WX.icmp rfl (fun c_146 => ?_) (fun c_146 => absurd (by decide) c_146)
        clear c_146
        refine WX.s1 rfl rfl ?_
        refine WX.callC (vs := [.ref 5, .long 0, .int 0]) rfl rfl rfl (Nat.le_of_ble_eq_true rfl) (P_h117_nx.rcv (ltN hn (by decide))) ?_
        refine w_putNumN (m := 0) (ltN hn (by decide)) P_h117_nx (by decide) (by decide) (by decide) (fun h155 fr P_h155_nx => ?_)
        have F_h155_0 : h155 0 = .inr (10, [.ref 1, .ref 3, .ref 5, .ref 7, .long 0, .ref 9, .ref 38, .ref 67, .ref 81, .ref 189, .int 2, .int 3]) := (fr _ (by first | decide | omega)).trans F_h117_0
        have F_h155_1 : h155 1 = .inr (7, [.ref 2, .int 0, .int s1, .long ho1, .int hd1]) := (fr _ (by first | decide | omega)).trans F_h117_1
        have FR_h155 : Fr h h155 (fun j => j = 5 ∨ j = 6) := FR_h117.zsub fr (fun j hj => by omega)
        show WX _ _ _ 158 [(0, .ref 0), (1, .int fl), (2, .int e), (3, .int 1), (4, .int 1), (5, .int 0), (6, .int 0)] [] (n, s, h155)
        refine WX.s1 rfl rfl ?_
        refine WX.if_ rfl (fun c_160 => absurd c_160 (by decide)) (fun c_160 => ?_)
        clear c_160
        refine WX.s1 rfl rfl ?_
        refine WX.get1 (fs := [.ref 1, .ref 3, .ref 5, .ref 7, .long 0, .ref 9, .ref 38, .ref 67, .ref 81, .ref 189, .int 2, .int 3]) rfl (ltN hn (by decide)) (F_h155_0) rfl ?_
        refine WX.s1 rfl rfl ?_
        refine WX.s1 rfl rfl ?_
        refine WX.icmp rfl (fun c_170 => ?_) (fun c_170 => absurd (by decide) c_170)
        clear c_170
        refine WX.s1 rfl rfl ?_
        refine WX.get1 (fs := [.ref 1, .ref 3, .ref 5, .ref 7, .long 0, .ref 9, .ref 38, .ref 67, .ref 81, .ref 189, .int 2, .int 3]) rfl (ltN hn (by decide)) (F_h155_0) rfl ?_
        refine WX.get1 (fs := [.ref 2, .int 0, .int s1, .long ho1, .int hd1]) rfl (ltN hn (by decide)) (F_h155_1) rfl ?_
        refine WX.s1 rfl rfl ?_
        refine WX.s1 rfl rfl ?_
        refine WX.s1 rfl rfl ?_
        refine WX.s1 rfl rfl ?_
        refine WX.callC (vs := [.ref 5, .long _, .int _]) rfl rfl rfl (Nat.le_of_ble_eq_true rfl) (P_h155_nx.rcv (ltN hn (by decide))) ?_
        refine w_putNumN (m := 1) (ltN hn (by decide)) P_h155_nx (by decide) (by decide) (by decide) (fun h200 fr P_h200_nx => ?_)
        have F_h200_0 : h200 0 = .inr (10, [.ref 1, .ref 3, .ref 5, .ref 7, .long 0, .ref 9, .ref 38, .ref 67, .ref 81, .ref 189, .int 2, .int 3]) := (fr _ (by first | decide | omega)).trans F_h155_0
        have F_h200_1 : h200 1 = .inr (7, [.ref 2, .int 0, .int s1, .long ho1, .int hd1]) := (fr _ (by first | decide | omega)).trans F_h155_1
        have FR_h200 : Fr h h200 (fun j => j = 5 ∨ j = 6) := FR_h155.zsub fr (fun j hj => by omega)
        show WX _ _ _ 203 [(0, .ref 0), (1, .int fl), (2, .int e), (3, .int 1), (4, .int 1), (5, .int 0), (6, .int 0)] [] (n, s, h200)
        refine WX.ret0 rfl (kk h200 FR_h200 ?_)
        have ec : hCnt fl = 6 := by first | (unfold hCnt; rw [if_pos c_3, if_pos c_19]) | (unfold hCnt; rw [if_pos c_3, if_neg c_19]) | (unfold hCnt; rw [if_neg c_3])
        rw [ec]
        exact P_h200_nx
      refine WX.s1 rfl rfl ?_
      refine WX.s1 rfl rfl ?_
      refine WX.s1 rfl rfl ?_
      refine WX.if_ rfl (fun c_105 => ?_) (fun c_105 => ?_)
      · skip
        refine WX.s1 rfl rfl ?_
        exact t113 _
      · skip
        refine WX.s1 rfl rfl ?_
        refine WX.s1 rfl rfl ?_
        exact t113 _
    refine WX.s1 rfl rfl ?_
    refine WX.s1 rfl rfl ?_
    refine WX.s1 rfl rfl ?_
    refine WX.if_ rfl (fun c_55 => ?_) (fun c_55 => ?_)
    · skip
      refine WX.s1 rfl rfl ?_
      exact t69
    · skip
      refine WX.s1 rfl rfl ?_
      refine WX.get1 (fs := [.ref 1, .ref 3, .ref 5, .ref 7, .long 0, .ref 9, .ref 38, .ref 67, .ref 81, .ref 189, .int 2, .int 3]) rfl (ltN hn (by decide)) (F_h_0) rfl ?_
      refine WX.callC (vs := [.long 0]) rfl rfl rfl (Nat.le_of_ble_eq_true rfl) rfl ?_
      refine x_ik0  ?_
      show WX _ _ _ 65 [(0, .ref 0), (1, .int fl), (2, .int e), (3, .int 1), (4, .int 1), (5, .int 0)] [.int 0] (n, s, h)
      refine WX.s1 rfl rfl ?_
      exact t69
set_option maxRecDepth 20000 in
theorem x_out {d n s : Nat} {h : Nat → aE} {c : Nat} {ho5 : Int64} {hd5 : Int32} (hn : 190 ≤ n)  (F_h_0 : h 0 = .inr (10, [.ref 1, .ref 3, .ref 5, .ref 7, .long 0, .ref 9, .ref 38, .ref 67, .ref 81, .ref 189, .int 2, .int 3])) (F_h_5 : h 5 = .inr (7, [.ref 6, .int (nI c), .int 0, .long ho5, .int hd5]))  {Ψ : Option Value → aH → Prop} (kk : ∀ h', Fr h h' (fun j => j = 0) → Ψ (some (.int (nI c))) (n, s, h')) : WO (mM (d + 1)) 136 [.ref 0] (n, s, h) Ψ := by
  refine WO.of (Nat.le_of_ble_eq_true rfl) ?_
  have FR_h : Fr h h (fun j => j = 0) := Fr.rf
  show WX (lk tX11_becomeOut) (mM d) Ψ 0 [(0, .ref 0)] [] (n, s, h)
  refine WX.s1 rfl rfl ?_
  refine WX.get1 (fs := [.ref 1, .ref 3, .ref 5, .ref 7, .long 0, .ref 9, .ref 38, .ref 67, .ref 81, .ref 189, .int 2, .int 3]) rfl (ltN hn (by decide)) (F_h_0) rfl ?_
  refine WX.asN (L' := [(0, .ref 0), (1, .ref 3)]) rfl rfl ?_
  refine WX.s1 rfl rfl ?_
  refine WX.s1 rfl rfl ?_
  refine WX.get1 (fs := [.ref 1, .ref 3, .ref 5, .ref 7, .long 0, .ref 9, .ref 38, .ref 67, .ref 81, .ref 189, .int 2, .int 3]) rfl (ltN hn (by decide)) (F_h_0) rfl ?_
  refine WX.put1 (fs := [.ref 1, .ref 3, .ref 5, .ref 7, .long 0, .ref 9, .ref 38, .ref 67, .ref 81, .ref 189, .int 2, .int 3]) (fs' := [.ref 1, .ref 5, .ref 5, .ref 7, .long 0, .ref 9, .ref 38, .ref 67, .ref 81, .ref 189, .int 2, .int 3]) rfl (ltN hn (by decide)) (F_h_0) (Nat.le_of_ble_eq_true rfl) (rfl) rfl (fun h10 e_h10 => ?_)
  have F_h10_0 : h10 0 = .inr (10, [.ref 1, .ref 5, .ref 5, .ref 7, .long 0, .ref 9, .ref 38, .ref 67, .ref 81, .ref 189, .int 2, .int 3]) := by rw [e_h10]; exact va_up_eq
  have F_h10_5 : h10 5 = .inr (7, [.ref 6, .int (nI c), .int 0, .long ho5, .int hd5]) := by rw [e_h10, va_up_neq (by decide)]; exact F_h_5
  have FR_h10 : Fr h h10 (fun j => j = 0) := FR_h.zup e_h10 (by first | exact rfl | exact Or.inl rfl | exact Or.inr rfl | exact ⟨by decide, by decide⟩ | decide | omega)
  clear F_h_0 F_h_5 FR_h e_h10
  refine WX.s1 rfl rfl ?_
  refine WX.s1 rfl rfl ?_
  refine WX.put1 (fs := [.ref 1, .ref 5, .ref 5, .ref 7, .long 0, .ref 9, .ref 38, .ref 67, .ref 81, .ref 189, .int 2, .int 3]) (fs' := [.ref 1, .ref 5, .ref 3, .ref 7, .long 0, .ref 9, .ref 38, .ref 67, .ref 81, .ref 189, .int 2, .int 3]) rfl (ltN hn (by decide)) (F_h10_0) (Nat.le_of_ble_eq_true rfl) (rfl) rfl (fun h15 e_h15 => ?_)
  have F_h15_0 : h15 0 = .inr (10, [.ref 1, .ref 5, .ref 3, .ref 7, .long 0, .ref 9, .ref 38, .ref 67, .ref 81, .ref 189, .int 2, .int 3]) := by rw [e_h15]; exact va_up_eq
  have F_h15_5 : h15 5 = .inr (7, [.ref 6, .int (nI c), .int 0, .long ho5, .int hd5]) := by rw [e_h15, va_up_neq (by decide)]; exact F_h10_5
  have FR_h15 : Fr h h15 (fun j => j = 0) := FR_h10.zup e_h15 (by first | exact rfl | exact Or.inl rfl | exact Or.inr rfl | exact ⟨by decide, by decide⟩ | decide | omega)
  clear F_h10_0 F_h10_5 FR_h10 e_h15
  refine WX.s1 rfl rfl ?_
  refine WX.get1 (fs := [.ref 1, .ref 5, .ref 3, .ref 7, .long 0, .ref 9, .ref 38, .ref 67, .ref 81, .ref 189, .int 2, .int 3]) rfl (ltN hn (by decide)) (F_h15_0) rfl ?_
  refine WX.get1 (fs := [.ref 6, .int (nI c), .int 0, .long ho5, .int hd5]) rfl (ltN hn (by decide)) (F_h15_5) rfl ?_
  exact WX.ret1 rfl (kk h15 FR_h15)
