/-! Literals.add; the latest distances: tellDistance against number -/
def LitA (h : Nat → aE) (ls : List Nat) : Prop := ∃ lA cA : Nat → Int32, h 90 = .inl (0, 8000, .inl lA) ∧ h 91 = .inl (1, 256, .inl cA) ∧ (∀ i, i < ls.length → ls.getD i 0 < 256 ∧ lA i = sb_b (ls.getD i 0)) ∧ ∀ s, s < 256 → cA s = nI (ls.count s)
set_option maxRecDepth 20000 in
theorem x_ladd {d n s : Nat} {h : Nat → aE} {lki lb lsh lbe : Int32} {ls : List Nat} {x : Nat} (hn : 190 ≤ n) (hx : x < 256) (hlen : ls.length < 8000) (hA : LitA h ls) (F_h_89 : h 89 = .inr (5, [.ref 90, .ref 91, .int (nI ls.length), .ref 92, .ref 96, .ref 100, .ref 67, .ref 106, .int lki, .int lb, .int lsh, .int lbe]))  {Ψ : Option Value → aH → Prop} (kk : ∀ h', Fr h h' (fun j => j = 89 ∨ j = 90 ∨ j = 91) → h' 89 = .inr (5, [.ref 90, .ref 91, .int (nI (ls ++ [x]).length), .ref 92, .ref 96, .ref 100, .ref 67, .ref 106, .int lki, .int lb, .int lsh, .int lbe]) → LitA h' (ls ++ [x]) → Ψ none (n, s, h')) : WO (mM (d + 1)) 54 [.ref 89, .int (nI x)] (n, s, h) Ψ := by
  refine WO.of (Nat.le_of_ble_eq_true rfl) ?_
  have FR_h : Fr h h (fun j => j = 89 ∨ j = 90 ∨ j = 91) := Fr.rf
  obtain ⟨lA, cA, F_h_90, F_h_91, hls, hcA⟩ := hA
  have hcl : ls.count x ≤ ls.length := List.count_le_length
  show WX (lk tX5_add) (mM d) Ψ 0 [(0, .ref 89), (1, .int (nI x))] [] (n, s, h)
  refine WX.s1 rfl rfl ?_
  refine WX.get1 (fs := [.ref 90, .ref 91, .int (nI ls.length), .ref 92, .ref 96, .ref 100, .ref 67, .ref 106, .int lki, .int lb, .int lsh, .int lbe]) rfl (ltN hn (by decide)) (F_h_89) rfl ?_
  refine WX.s1 rfl rfl ?_
  refine WX.get1 (fs := [.ref 90, .ref 91, .int (nI ls.length), .ref 92, .ref 96, .ref 100, .ref 67, .ref 106, .int lki, .int lb, .int lsh, .int lbe]) rfl (ltN hn (by decide)) (F_h_89) rfl ?_
  refine WX.len1 rfl (Or.inl ⟨ltN hn (by decide), by decide⟩) (F_h_90) ?_
  refine WX.icmp rfl (fun c_9 => absurd c_9 (fun zz_ => absurd ((nI_leI (a := 8000) (b := ls.length) (by omega) (by omega)).mp zz_) (Nat.not_le.mpr (by omega)))) (fun c_9 => ?_)
  clear c_9
  refine WX.s1 rfl rfl ?_
  refine WX.get1 (fs := [.ref 90, .ref 91, .int (nI ls.length), .ref 92, .ref 96, .ref 100, .ref 67, .ref 106, .int lki, .int lb, .int lsh, .int lbe]) rfl (ltN hn (by decide)) (F_h_89) rfl ?_
  refine WX.s1 rfl rfl ?_
  refine WX.get1 (fs := [.ref 90, .ref 91, .int (nI ls.length), .ref 92, .ref 96, .ref 100, .ref 67, .ref 106, .int lki, .int lb, .int lsh, .int lbe]) rfl (ltN hn (by decide)) (F_h_89) rfl ?_
  refine WX.s1 rfl rfl ?_
  refine WX.s1 (S' := [.int ((nI x).toInt8.toInt32), .int (nI ls.length), .ref 90]) rfl rfl ?_
  refine WX.bastN rfl (ltN hn (by decide)) (F_h_90) (vp_in_nI hlen (by decide)) (fun g22 h22 e_g22 e_h22 => ?_)
  try dsimp only at e_g22
  have F_h22_89 : h22 89 = .inr (5, [.ref 90, .ref 91, .int (nI ls.length), .ref 92, .ref 96, .ref 100, .ref 67, .ref 106, .int lki, .int lb, .int lsh, .int lbe]) := by rw [e_h22, va_up_neq (by decide)]; exact F_h_89
  have F_h22_90 : h22 90 = .inl (0, 8000, .inl g22) := by rw [e_h22]; exact va_up_eq
  have F_h22_91 : h22 91 = .inl (1, 256, .inl cA) := by rw [e_h22, va_up_neq (by decide)]; exact F_h_91
  have FR_h22 : Fr h h22 (fun j => j = 89 ∨ j = 90 ∨ j = 91) := FR_h.zup e_h22 (by first | exact rfl | exact Or.inl rfl | exact Or.inr rfl | exact ⟨by decide, by decide⟩ | decide | omega)
  refine WX.s1 rfl rfl ?_
  refine WX.get1 (fs := [.ref 90, .ref 91, .int (nI ls.length), .ref 92, .ref 96, .ref 100, .ref 67, .ref 106, .int lki, .int lb, .int lsh, .int lbe]) rfl (ltN hn (by decide)) (F_h22_89) rfl ?_
  refine WX.s1 rfl rfl ?_
  refine WX.s1 rfl rfl ?_
  refine WX.s1 (S' := [.int ((nI x) &&& 255), .ref 91]) rfl rfl ?_
  rw [pk_andN (by omega) 8 (by decide), Nat.mod_eq_of_lt hx]
  refine WX.s1 rfl rfl ?_
  refine WX.iald1 rfl (Or.inl (ltN hn (by decide))) (F_h22_91) (vp_in_nI hx (by decide)) ?_
  rw [nI_clamp (by omega), hcA x hx]
  refine WX.s1 rfl rfl ?_
  refine WX.s1 (S' := [.int ((nI (ls.count x)) + 1), .int (nI x), .ref 91]) rfl rfl ?_
  rw [show ((nI (ls.count x)) + 1) = nI (ls.count x + 1) from nI_add (ls.count x) 1]
  refine WX.iastN rfl (ltN hn (by decide)) (F_h22_91) (vp_in_nI hx (by decide)) (fun g36 h36 e_g36 e_h36 => ?_)
  try dsimp only at e_g36
  have F_h36_89 : h36 89 = .inr (5, [.ref 90, .ref 91, .int (nI ls.length), .ref 92, .ref 96, .ref 100, .ref 67, .ref 106, .int lki, .int lb, .int lsh, .int lbe]) := by rw [e_h36, va_up_neq (by decide)]; exact F_h22_89
  have F_h36_90 : h36 90 = .inl (0, 8000, .inl g22) := by rw [e_h36, va_up_neq (by decide)]; exact F_h22_90
  have F_h36_91 : h36 91 = .inl (1, 256, .inl g36) := by rw [e_h36]; exact va_up_eq
  have FR_h36 : Fr h h36 (fun j => j = 89 ∨ j = 90 ∨ j = 91) := FR_h22.zup e_h36 (by first | exact rfl | exact Or.inl rfl | exact Or.inr rfl | exact ⟨by decide, by decide⟩ | decide | omega)
  refine WX.s1 rfl rfl ?_
  refine WX.s1 rfl rfl ?_
  refine WX.get1 (fs := [.ref 90, .ref 91, .int (nI ls.length), .ref 92, .ref 96, .ref 100, .ref 67, .ref 106, .int lki, .int lb, .int lsh, .int lbe]) rfl (ltN hn (by decide)) (F_h36_89) rfl ?_
  refine WX.s1 rfl rfl ?_
  refine WX.s1 (S' := [.int ((nI ls.length) + 1), .ref 89]) rfl rfl ?_
  rw [show ((nI ls.length) + 1) = nI (ls.length + 1) from nI_add ls.length 1]
  refine WX.put1 (fs := [.ref 90, .ref 91, .int (nI ls.length), .ref 92, .ref 96, .ref 100, .ref 67, .ref 106, .int lki, .int lb, .int lsh, .int lbe]) (fs' := [.ref 90, .ref 91, .int (nI (ls.length + 1)), .ref 92, .ref 96, .ref 100, .ref 67, .ref 106, .int lki, .int lb, .int lsh, .int lbe]) rfl (ltN hn (by decide)) (F_h36_89) (Nat.le_of_ble_eq_true rfl) (rfl) rfl (fun h44 e_h44 => ?_)
  have F_h44_89 : h44 89 = .inr (5, [.ref 90, .ref 91, .int (nI (ls.length + 1)), .ref 92, .ref 96, .ref 100, .ref 67, .ref 106, .int lki, .int lb, .int lsh, .int lbe]) := by rw [e_h44]; exact va_up_eq
  have F_h44_90 : h44 90 = .inl (0, 8000, .inl g22) := by rw [e_h44, va_up_neq (by decide)]; exact F_h36_90
  have F_h44_91 : h44 91 = .inl (1, 256, .inl g36) := by rw [e_h44, va_up_neq (by decide)]; exact F_h36_91
  have FR_h44 : Fr h h44 (fun j => j = 89 ∨ j = 90 ∨ j = 91) := FR_h36.zup e_h44 (by first | exact rfl | exact Or.inl rfl | exact Or.inr rfl | exact ⟨by decide, by decide⟩ | decide | omega)
  refine WX.ret0 rfl (kk h44 FR_h44 ?_ ⟨g22, g36, F_h44_90, F_h44_91, fun i hi => ?_, fun s hs => ?_⟩)
  · rw [F_h44_89, List.length_append]
    rfl
  · rw [List.length_append, List.length_singleton] at hi
    rw [e_g22, nI_clamp (by omega), getD_app, Int8.toInt8_toInt32]
    by_cases q : i = ls.length
    · rw [if_pos q, q, pk_us]; exact ⟨hx, rfl⟩
    · rw [if_neg q, pk_un q]; exact hls i (by omega)
  · rw [e_g36, nI_clamp (by omega), List.count_append]
    by_cases q : s = x
    · rw [q, pk_us, List.count_singleton_self]
    · rw [pk_un q, List.count_singleton, if_neg (by simpa using fun z => q z.symm), Nat.add_zero]; exact hcA s hs
def lval (l : Nat × Nat × Nat) (w : Nat) : Nat := if w = 1 then l.1 else if w = 2 then l.2.1 else if w = 3 then l.2.2 else l.1 - 1
def lcome (l : Nat × Nat × Nat) (d w : Nat) : Nat × Nat × Nat := if w = 1 then (d, l.2.1, l.2.2) else if w = 2 then (d, l.1, l.2.2) else (d, l.1, l.2.1)
def tnum (l : Nat × Nat × Nat) (d o : Nat) : Nat × (Nat × Nat × Nat) := if lval l (1 + o) = d then (1, lcome l d (1 + o)) else if lval l (2 + o) = d then (2, lcome l d (2 + o)) else if lval l (3 + o) = d then (3, lcome l d (3 + o)) else (d + 3, lcome l d 3)
def LatA (h : Nat → aE) (a : Nat) (l : Nat × Nat × Nat) : Prop := ∃ g : Nat → Int32, h a = .inl (1, 3, .inl g) ∧ g 0 = nI l.1 ∧ g 1 = nI l.2.1 ∧ g 2 = nI l.2.2
def LatOk (l : Nat × Nat × Nat) : Prop := 1 ≤ l.1 ∧ l.1 ≤ 16000 ∧ 1 ≤ l.2.1 ∧ l.2.1 ≤ 16000 ∧ 1 ≤ l.2.2 ∧ l.2.2 ≤ 16000
theorem lcome_ok {l : Nat × Nat × Nat} {d w : Nat} (hl : LatOk l) (h1 : 1 ≤ d) (h2 : d ≤ 16000) : LatOk (lcome l d w) := by
  obtain ⟨a1, a2, a3, a4, a5, a6⟩ := hl
  unfold lcome
  by_cases q1 : w = 1
  · rw [if_pos q1]; exact ⟨h1, h2, a3, a4, a5, a6⟩
  · rw [if_neg q1]
    by_cases q2 : w = 2
    · rw [if_pos q2]; exact ⟨h1, h2, a1, a2, a5, a6⟩
    · rw [if_neg q2]; exact ⟨h1, h2, a1, a2, a3, a4⟩
theorem tnum_ok {l : Nat × Nat × Nat} {d o : Nat} (hl : LatOk l) (h1 : 1 ≤ d) (h2 : d ≤ 16000) : LatOk (tnum l d o).2 ∧ 1 ≤ (tnum l d o).1 ∧ (tnum l d o).1 ≤ 16003 := by
  unfold tnum
  by_cases q1 : lval l (1 + o) = d
  · rw [if_pos q1]; exact ⟨lcome_ok hl h1 h2, Nat.le_of_ble_eq_true rfl, Nat.le_of_ble_eq_true rfl⟩
  · rw [if_neg q1]
    by_cases q2 : lval l (2 + o) = d
    · rw [if_pos q2]; exact ⟨lcome_ok hl h1 h2, Nat.le_of_ble_eq_true rfl, Nat.le_of_ble_eq_true rfl⟩
    · rw [if_neg q2]
      by_cases q3 : lval l (3 + o) = d
      · rw [if_pos q3]; exact ⟨lcome_ok hl h1 h2, Nat.le_of_ble_eq_true rfl, Nat.le_of_ble_eq_true rfl⟩
      · rw [if_neg q3]; exact ⟨lcome_ok hl h1 h2, by show 1 ≤ d + 3; omega, by show d + 3 ≤ 16003; omega⟩
set_option maxRecDepth 20000 in
theorem x_come1 {d n s : Nat} {h : Nat → aE} {l : Nat × Nat × Nat} {cnt : Int32} {dd : Nat} (hn : 190 ≤ n) (hA : LatA h 87 l) (F_h_81 : h 81 = .inr (6, [.ref 82, .ref 89, .ref 108, .ref 135, .ref 162, .ref 86, .ref 87, .int cnt, .ref 88]))  {Ψ : Option Value → aH → Prop} (kk : ∀ h', Fr h h' (fun j => j = 87) → LatA h' 87 (lcome l dd 1) → Ψ none (n, s, h')) : WO (mM (d + 1)) 74 [.ref 81, .int (nI dd), .int 1] (n, s, h) Ψ := by
  refine WO.of (Nat.le_of_ble_eq_true rfl) ?_
  have FR_h : Fr h h (fun j => j = 87) := Fr.rf
  obtain ⟨g, F_h_87, g0, g1, g2⟩ := hA
  show WX (lk tX6_comeFirst) (mM d) Ψ 0 [(0, .ref 81), (1, .int (nI dd)), (2, .int 1)] [] (n, s, h)
  refine WX.s1 rfl rfl ?_
  refine WX.s1 rfl rfl ?_
  refine WX.s1 (S' := [.int (1 - 1)]) rfl rfl ?_
  refine WX.s1 (L' := [(0, .ref 81), (1, .int (nI dd)), (2, .int 1), (3, .int (1 - 1))]) rfl rfl ?_
  refine WX.s1 rfl rfl ?_
  refine WX.if_ rfl (fun c_5 => ?_) (fun c_5 => absurd (by decide) c_5)
  clear c_5
  refine WX.s1 rfl rfl ?_
  refine WX.get1 (fs := [.ref 82, .ref 89, .ref 108, .ref 135, .ref 162, .ref 86, .ref 87, .int cnt, .ref 88]) rfl (ltN hn (by decide)) (F_h_81) rfl ?_
  refine WX.s1 rfl rfl ?_
  refine WX.s1 rfl rfl ?_
  refine WX.iastN rfl (ltN hn (by decide)) (F_h_87) (by unfold vp_in; decide) (fun g34 h34 e_g34 e_h34 => ?_)
  try dsimp only at e_g34
  have F_h34_81 : h34 81 = .inr (6, [.ref 82, .ref 89, .ref 108, .ref 135, .ref 162, .ref 86, .ref 87, .int cnt, .ref 88]) := by rw [e_h34, va_up_neq (by decide)]; exact F_h_81
  have F_h34_87 : h34 87 = .inl (1, 3, .inl g34) := by rw [e_h34]; exact va_up_eq
  have FR_h34 : Fr h h34 (fun j => j = 87) := FR_h.zup e_h34 (by first | exact rfl | exact Or.inl rfl | exact Or.inr rfl | exact ⟨by decide, by decide⟩ | decide | omega)
  refine WX.ret0 rfl (kk h34 FR_h34 ⟨g34, F_h34_87, ?_, ?_, ?_⟩)
  · simp only [e_g34, upd, lcome, show ((0 : Int32)).toNatClampNeg = 0 from rfl]
    simp [g0, g1, g2]
  · simp only [e_g34, upd, lcome, show ((0 : Int32)).toNatClampNeg = 0 from rfl]
    simp [g0, g1, g2]
  · simp only [e_g34, upd, lcome, show ((0 : Int32)).toNatClampNeg = 0 from rfl]
    simp [g0, g1, g2]
set_option maxRecDepth 20000 in
theorem x_come2 {d n s : Nat} {h : Nat → aE} {l : Nat × Nat × Nat} {cnt : Int32} {dd : Nat} (hn : 190 ≤ n) (hA : LatA h 87 l) (F_h_81 : h 81 = .inr (6, [.ref 82, .ref 89, .ref 108, .ref 135, .ref 162, .ref 86, .ref 87, .int cnt, .ref 88]))  {Ψ : Option Value → aH → Prop} (kk : ∀ h', Fr h h' (fun j => j = 87) → LatA h' 87 (lcome l dd 2) → Ψ none (n, s, h')) : WO (mM (d + 1)) 74 [.ref 81, .int (nI dd), .int 2] (n, s, h) Ψ := by
  refine WO.of (Nat.le_of_ble_eq_true rfl) ?_
  have FR_h : Fr h h (fun j => j = 87) := Fr.rf
  obtain ⟨g, F_h_87, g0, g1, g2⟩ := hA
  show WX (lk tX6_comeFirst) (mM d) Ψ 0 [(0, .ref 81), (1, .int (nI dd)), (2, .int 2)] [] (n, s, h)
  refine WX.s1 rfl rfl ?_
  refine WX.s1 rfl rfl ?_
  refine WX.s1 (S' := [.int (2 - 1)]) rfl rfl ?_
  refine WX.s1 (L' := [(0, .ref 81), (1, .int (nI dd)), (2, .int 2), (3, .int (2 - 1))]) rfl rfl ?_
  refine WX.s1 rfl rfl ?_
  refine WX.if_ rfl (fun c_5 => absurd c_5 (by decide)) (fun c_5 => ?_)
  clear c_5
  refine WX.s1 rfl rfl ?_
  refine WX.get1 (fs := [.ref 82, .ref 89, .ref 108, .ref 135, .ref 162, .ref 86, .ref 87, .int cnt, .ref 88]) rfl (ltN hn (by decide)) (F_h_81) rfl ?_
  refine WX.s1 rfl rfl ?_
  refine WX.s1 rfl rfl ?_
  refine WX.get1 (fs := [.ref 82, .ref 89, .ref 108, .ref 135, .ref 162, .ref 86, .ref 87, .int cnt, .ref 88]) rfl (ltN hn (by decide)) (F_h_81) rfl ?_
  refine WX.s1 rfl rfl ?_
  refine WX.s1 rfl rfl ?_
  refine WX.s1 (S' := [.int ((2 - 1) - 1), .ref 87, .int (2 - 1), .ref 87]) rfl rfl ?_
  refine WX.iald1 rfl (Or.inl (ltN hn (by decide))) (F_h_87) (by unfold vp_in; decide) ?_
  refine WX.iastN rfl (ltN hn (by decide)) (F_h_87) (by unfold vp_in; decide) (fun g21 h21 e_g21 e_h21 => ?_)
  try dsimp only at e_g21
  have F_h21_81 : h21 81 = .inr (6, [.ref 82, .ref 89, .ref 108, .ref 135, .ref 162, .ref 86, .ref 87, .int cnt, .ref 88]) := by rw [e_h21, va_up_neq (by decide)]; exact F_h_81
  have F_h21_87 : h21 87 = .inl (1, 3, .inl g21) := by rw [e_h21]; exact va_up_eq
  have FR_h21 : Fr h h21 (fun j => j = 87) := FR_h.zup e_h21 (by first | exact rfl | exact Or.inl rfl | exact Or.inr rfl | exact ⟨by decide, by decide⟩ | decide | omega)
  refine WX.s1 (L' := [(0, .ref 81), (1, .int (nI dd)), (2, .int 2), (3, .int ((2 - 1) + (-1)))]) rfl rfl ?_
  refine WX.s1 rfl rfl ?_
  refine WX.s1 rfl rfl ?_
  refine WX.if_ rfl (fun c_5 => ?_) (fun c_5 => absurd (by decide) c_5)
  clear c_5
  refine WX.s1 rfl rfl ?_
  refine WX.get1 (fs := [.ref 82, .ref 89, .ref 108, .ref 135, .ref 162, .ref 86, .ref 87, .int cnt, .ref 88]) rfl (ltN hn (by decide)) (F_h21_81) rfl ?_
  refine WX.s1 rfl rfl ?_
  refine WX.s1 rfl rfl ?_
  refine WX.iastN rfl (ltN hn (by decide)) (F_h21_87) (by unfold vp_in; decide) (fun g34 h34 e_g34 e_h34 => ?_)
  try dsimp only at e_g34
  have F_h34_81 : h34 81 = .inr (6, [.ref 82, .ref 89, .ref 108, .ref 135, .ref 162, .ref 86, .ref 87, .int cnt, .ref 88]) := by rw [e_h34, va_up_neq (by decide)]; exact F_h21_81
  have F_h34_87 : h34 87 = .inl (1, 3, .inl g34) := by rw [e_h34]; exact va_up_eq
  have FR_h34 : Fr h h34 (fun j => j = 87) := FR_h21.zup e_h34 (by first | exact rfl | exact Or.inl rfl | exact Or.inr rfl | exact ⟨by decide, by decide⟩ | decide | omega)
  refine WX.ret0 rfl (kk h34 FR_h34 ⟨g34, F_h34_87, ?_, ?_, ?_⟩)
  · simp only [e_g34, e_g21, upd, lcome, show ((0 : Int32)).toNatClampNeg = 0 from rfl, show (((2 : Int32) - 1)).toNatClampNeg = 1 from by decide, show (((2 : Int32) - 1) - 1).toNatClampNeg = 0 from by decide]
    simp [g0, g1, g2]
  · simp only [e_g34, e_g21, upd, lcome, show ((0 : Int32)).toNatClampNeg = 0 from rfl, show (((2 : Int32) - 1)).toNatClampNeg = 1 from by decide, show (((2 : Int32) - 1) - 1).toNatClampNeg = 0 from by decide]
    simp [g0, g1, g2]
  · simp only [e_g34, e_g21, upd, lcome, show ((0 : Int32)).toNatClampNeg = 0 from rfl, show (((2 : Int32) - 1)).toNatClampNeg = 1 from by decide, show (((2 : Int32) - 1) - 1).toNatClampNeg = 0 from by decide]
    simp [g0, g1, g2]
set_option maxRecDepth 20000 in
theorem x_come3 {d n s : Nat} {h : Nat → aE} {l : Nat × Nat × Nat} {cnt : Int32} {dd : Nat} (hn : 190 ≤ n) (hA : LatA h 87 l) (F_h_81 : h 81 = .inr (6, [.ref 82, .ref 89, .ref 108, .ref 135, .ref 162, .ref 86, .ref 87, .int cnt, .ref 88]))  {Ψ : Option Value → aH → Prop} (kk : ∀ h', Fr h h' (fun j => j = 87) → LatA h' 87 (lcome l dd 3) → Ψ none (n, s, h')) : WO (mM (d + 1)) 74 [.ref 81, .int (nI dd), .int 3] (n, s, h) Ψ := by
  refine WO.of (Nat.le_of_ble_eq_true rfl) ?_
  have FR_h : Fr h h (fun j => j = 87) := Fr.rf
  obtain ⟨g, F_h_87, g0, g1, g2⟩ := hA
  show WX (lk tX6_comeFirst) (mM d) Ψ 0 [(0, .ref 81), (1, .int (nI dd)), (2, .int 3)] [] (n, s, h)
  refine WX.s1 rfl rfl ?_
  refine WX.s1 rfl rfl ?_
  refine WX.s1 (S' := [.int (3 - 1)]) rfl rfl ?_
  refine WX.s1 (L' := [(0, .ref 81), (1, .int (nI dd)), (2, .int 3), (3, .int (3 - 1))]) rfl rfl ?_
  refine WX.s1 rfl rfl ?_
  refine WX.if_ rfl (fun c_5 => absurd c_5 (by decide)) (fun c_5 => ?_)
  clear c_5
  refine WX.s1 rfl rfl ?_
  refine WX.get1 (fs := [.ref 82, .ref 89, .ref 108, .ref 135, .ref 162, .ref 86, .ref 87, .int cnt, .ref 88]) rfl (ltN hn (by decide)) (F_h_81) rfl ?_
  refine WX.s1 rfl rfl ?_
  refine WX.s1 rfl rfl ?_
  refine WX.get1 (fs := [.ref 82, .ref 89, .ref 108, .ref 135, .ref 162, .ref 86, .ref 87, .int cnt, .ref 88]) rfl (ltN hn (by decide)) (F_h_81) rfl ?_
  refine WX.s1 rfl rfl ?_
  refine WX.s1 rfl rfl ?_
  refine WX.s1 (S' := [.int ((3 - 1) - 1), .ref 87, .int (3 - 1), .ref 87]) rfl rfl ?_
  refine WX.iald1 rfl (Or.inl (ltN hn (by decide))) (F_h_87) (by unfold vp_in; decide) ?_
  refine WX.iastN rfl (ltN hn (by decide)) (F_h_87) (by unfold vp_in; decide) (fun g21 h21 e_g21 e_h21 => ?_)
  try dsimp only at e_g21
  have F_h21_81 : h21 81 = .inr (6, [.ref 82, .ref 89, .ref 108, .ref 135, .ref 162, .ref 86, .ref 87, .int cnt, .ref 88]) := by rw [e_h21, va_up_neq (by decide)]; exact F_h_81
  have F_h21_87 : h21 87 = .inl (1, 3, .inl g21) := by rw [e_h21]; exact va_up_eq
  have FR_h21 : Fr h h21 (fun j => j = 87) := FR_h.zup e_h21 (by first | exact rfl | exact Or.inl rfl | exact Or.inr rfl | exact ⟨by decide, by decide⟩ | decide | omega)
  refine WX.s1 (L' := [(0, .ref 81), (1, .int (nI dd)), (2, .int 3), (3, .int ((3 - 1) + (-1)))]) rfl rfl ?_
  refine WX.s1 rfl rfl ?_
  refine WX.s1 rfl rfl ?_
  refine WX.if_ rfl (fun c_5 => absurd c_5 (by decide)) (fun c_5 => ?_)
  clear c_5
  refine WX.s1 rfl rfl ?_
  refine WX.get1 (fs := [.ref 82, .ref 89, .ref 108, .ref 135, .ref 162, .ref 86, .ref 87, .int cnt, .ref 88]) rfl (ltN hn (by decide)) (F_h21_81) rfl ?_
  refine WX.s1 rfl rfl ?_
  refine WX.s1 rfl rfl ?_
  refine WX.get1 (fs := [.ref 82, .ref 89, .ref 108, .ref 135, .ref 162, .ref 86, .ref 87, .int cnt, .ref 88]) rfl (ltN hn (by decide)) (F_h21_81) rfl ?_
  refine WX.s1 rfl rfl ?_
  refine WX.s1 rfl rfl ?_
  refine WX.s1 (S' := [.int (((3 - 1) + (-1)) - 1), .ref 87, .int ((3 - 1) + (-1)), .ref 87]) rfl rfl ?_
  refine WX.iald1 rfl (Or.inl (ltN hn (by decide))) (F_h21_87) (by unfold vp_in; decide) ?_
  refine WX.iastN rfl (ltN hn (by decide)) (F_h21_87) (by unfold vp_in; decide) (fun g21x2 h21x2 e_g21x2 e_h21x2 => ?_)
  try dsimp only at e_g21x2
  have F_h21x2_81 : h21x2 81 = .inr (6, [.ref 82, .ref 89, .ref 108, .ref 135, .ref 162, .ref 86, .ref 87, .int cnt, .ref 88]) := by rw [e_h21x2, va_up_neq (by decide)]; exact F_h21_81
  have F_h21x2_87 : h21x2 87 = .inl (1, 3, .inl g21x2) := by rw [e_h21x2]; exact va_up_eq
  have FR_h21x2 : Fr h h21x2 (fun j => j = 87) := FR_h21.zup e_h21x2 (by first | exact rfl | exact Or.inl rfl | exact Or.inr rfl | exact ⟨by decide, by decide⟩ | decide | omega)
  refine WX.s1 (L' := [(0, .ref 81), (1, .int (nI dd)), (2, .int 3), (3, .int (((3 - 1) + (-1)) + (-1)))]) rfl rfl ?_
  refine WX.s1 rfl rfl ?_
  refine WX.s1 rfl rfl ?_
  refine WX.if_ rfl (fun c_5 => ?_) (fun c_5 => absurd (by decide) c_5)
  clear c_5
  refine WX.s1 rfl rfl ?_
  refine WX.get1 (fs := [.ref 82, .ref 89, .ref 108, .ref 135, .ref 162, .ref 86, .ref 87, .int cnt, .ref 88]) rfl (ltN hn (by decide)) (F_h21x2_81) rfl ?_
  refine WX.s1 rfl rfl ?_
  refine WX.s1 rfl rfl ?_
  refine WX.iastN rfl (ltN hn (by decide)) (F_h21x2_87) (by unfold vp_in; decide) (fun g34 h34 e_g34 e_h34 => ?_)
  try dsimp only at e_g34
  have F_h34_81 : h34 81 = .inr (6, [.ref 82, .ref 89, .ref 108, .ref 135, .ref 162, .ref 86, .ref 87, .int cnt, .ref 88]) := by rw [e_h34, va_up_neq (by decide)]; exact F_h21x2_81
  have F_h34_87 : h34 87 = .inl (1, 3, .inl g34) := by rw [e_h34]; exact va_up_eq
  have FR_h34 : Fr h h34 (fun j => j = 87) := FR_h21x2.zup e_h34 (by first | exact rfl | exact Or.inl rfl | exact Or.inr rfl | exact ⟨by decide, by decide⟩ | decide | omega)
  refine WX.ret0 rfl (kk h34 FR_h34 ⟨g34, F_h34_87, ?_, ?_, ?_⟩)
  · simp only [e_g34, e_g21x2, e_g21, upd, lcome, show ((0 : Int32)).toNatClampNeg = 0 from rfl, show (((3 : Int32) - 1)).toNatClampNeg = 2 from by decide, show (((3 : Int32) - 1) - 1).toNatClampNeg = 1 from by decide, show (((3 : Int32) - 1) + (-1)).toNatClampNeg = 1 from by decide, show ((((3 : Int32) - 1) + (-1)) - 1).toNatClampNeg = 0 from by decide]
    simp [g0, g1, g2]
  · simp only [e_g34, e_g21x2, e_g21, upd, lcome, show ((0 : Int32)).toNatClampNeg = 0 from rfl, show (((3 : Int32) - 1)).toNatClampNeg = 2 from by decide, show (((3 : Int32) - 1) - 1).toNatClampNeg = 1 from by decide, show (((3 : Int32) - 1) + (-1)).toNatClampNeg = 1 from by decide, show ((((3 : Int32) - 1) + (-1)) - 1).toNatClampNeg = 0 from by decide]
    simp [g0, g1, g2]
  · simp only [e_g34, e_g21x2, e_g21, upd, lcome, show ((0 : Int32)).toNatClampNeg = 0 from rfl, show (((3 : Int32) - 1)).toNatClampNeg = 2 from by decide, show (((3 : Int32) - 1) - 1).toNatClampNeg = 1 from by decide, show (((3 : Int32) - 1) + (-1)).toNatClampNeg = 1 from by decide, show ((((3 : Int32) - 1) + (-1)) - 1).toNatClampNeg = 0 from by decide]
    simp [g0, g1, g2]
theorem nI_pm1 {a : Nat} (h : 1 ≤ a) : nI a - 1 = nI (a - 1) := by
  obtain ⟨b, rfl⟩ : ∃ b, a = b + 1 := ⟨a - 1, by omega⟩
  exact nI_pred b
set_option maxRecDepth 20000 in
theorem x_tdis0 {d n s : Nat} {h : Nat → aE} {l : Nat × Nat × Nat} {cnt : Int32} {dd : Nat} (hn : 190 ≤ n) (hl : LatOk l) (h1 : 1 ≤ dd) (h2 : dd ≤ 16000) (hA : LatA h 87 l) (F_h_81 : h 81 = .inr (6, [.ref 82, .ref 89, .ref 108, .ref 135, .ref 162, .ref 86, .ref 87, .int cnt, .ref 88]))  {Ψ : Option Value → aH → Prop} (kk : ∀ h', Fr h h' (fun j => j = 87) → LatA h' 87 (tnum l dd 0).2 → Ψ (some (.int (nI (tnum l dd 0).1))) (n, s, h')) : WO (mM (d + 2)) 73 [.ref 81, .int (nI dd), .int 0] (n, s, h) Ψ := by
  refine WO.of (Nat.le_of_ble_eq_true rfl) ?_
  have FR_h : Fr h h (fun j => j = 87) := Fr.rf
  have hA0 := hA
  obtain ⟨g, F_h_87, g0, g1, g2⟩ := hA
  obtain ⟨b1, b2, b3, b4, b5, b6⟩ := hl
  show WX (lk tX6_tellDistance) (mM (d + 1)) Ψ 0 [(0, .ref 81), (1, .int (nI dd)), (2, .int 0)] [] (n, s, h)
  refine WX.s1 rfl rfl ?_
  refine WX.s1 (L' := [(0, .ref 81), (1, .int (nI dd)), (2, .int 0), (3, .int 1)]) rfl rfl ?_
  refine WX.s1 rfl rfl ?_
  refine WX.s1 rfl rfl ?_
  refine WX.icmp rfl (fun c_4 => absurd c_4 (by decide)) (fun c_4 => ?_)
  clear c_4
  refine WX.s1 rfl rfl ?_
  refine WX.s1 rfl rfl ?_
  refine WX.s1 (S' := [.int (1 + 0)]) rfl rfl ?_
  refine WX.s1 (L' := [(0, .ref 81), (1, .int (nI dd)), (2, .int 0), (3, .int 1), (4, .int (1 + 0))]) rfl rfl ?_
  refine WX.s1 rfl rfl ?_
  refine WX.s1 rfl rfl ?_
  refine WX.s1 rfl rfl ?_
  refine WX.icmp rfl (fun c_16 => ?_) (fun c_16 => absurd (by decide) c_16)
  clear c_16
  refine WX.s1 rfl rfl ?_
  refine WX.get1 (fs := [.ref 82, .ref 89, .ref 108, .ref 135, .ref 162, .ref 86, .ref 87, .int cnt, .ref 88]) rfl (ltN hn (by decide)) (F_h_81) rfl ?_
  refine WX.s1 rfl rfl ?_
  refine WX.s1 rfl rfl ?_
  refine WX.s1 (S' := [.int ((1 + 0) - 1), .ref 87, .int (nI dd)]) rfl rfl ?_
  refine WX.iald1 rfl (Or.inl (ltN hn (by decide))) (F_h_87) (by unfold vp_in; decide) ?_
  rw [show ((1 + 0) - 1 : Int32).toNatClampNeg = 0 from by decide, g0]
  refine WX.icmp rfl (fun c_39 => ?_) (fun c_39 => ?_)
  · skip
    have n_39 : ¬ dd = l.1 := fun zz_ => c_39 ((nI_eq (a := dd) (b := l.1) (by omega) (by omega)).mpr zz_)
    have m_1 : ¬ lval l (1 + 0) = dd := fun q => n_39 q.symm
    clear n_39 c_39
    refine WX.s1 (L' := [(0, .ref 81), (1, .int (nI dd)), (2, .int 0), (3, .int (1 + 1)), (4, .int (1 + 0))]) rfl rfl ?_
    refine WX.s1 rfl rfl ?_
    refine WX.s1 rfl rfl ?_
    refine WX.s1 rfl rfl ?_
    refine WX.icmp rfl (fun c_4 => absurd c_4 (by decide)) (fun c_4 => ?_)
    clear c_4
    refine WX.s1 rfl rfl ?_
    refine WX.s1 rfl rfl ?_
    refine WX.s1 (S' := [.int ((1 + 1) + 0)]) rfl rfl ?_
    refine WX.s1 (L' := [(0, .ref 81), (1, .int (nI dd)), (2, .int 0), (3, .int (1 + 1)), (4, .int ((1 + 1) + 0))]) rfl rfl ?_
    refine WX.s1 rfl rfl ?_
    refine WX.s1 rfl rfl ?_
    refine WX.s1 rfl rfl ?_
    refine WX.icmp rfl (fun c_16 => ?_) (fun c_16 => absurd (by decide) c_16)
    clear c_16
    refine WX.s1 rfl rfl ?_
    refine WX.get1 (fs := [.ref 82, .ref 89, .ref 108, .ref 135, .ref 162, .ref 86, .ref 87, .int cnt, .ref 88]) rfl (ltN hn (by decide)) (F_h_81) rfl ?_
    refine WX.s1 rfl rfl ?_
    refine WX.s1 rfl rfl ?_
    refine WX.s1 (S' := [.int (((1 + 1) + 0) - 1), .ref 87, .int (nI dd)]) rfl rfl ?_
    refine WX.iald1 rfl (Or.inl (ltN hn (by decide))) (F_h_87) (by unfold vp_in; decide) ?_
    rw [show (((1 + 1) + 0) - 1 : Int32).toNatClampNeg = 1 from by decide, g1]
    refine WX.icmp rfl (fun c_39 => ?_) (fun c_39 => ?_)
    · skip
      have n_39 : ¬ dd = l.2.1 := fun zz_ => c_39 ((nI_eq (a := dd) (b := l.2.1) (by omega) (by omega)).mpr zz_)
      have m_2 : ¬ lval l (2 + 0) = dd := fun q => n_39 q.symm
      clear n_39 c_39
      refine WX.s1 (L' := [(0, .ref 81), (1, .int (nI dd)), (2, .int 0), (3, .int ((1 + 1) + 1)), (4, .int ((1 + 1) + 0))]) rfl rfl ?_
      refine WX.s1 rfl rfl ?_
      refine WX.s1 rfl rfl ?_
      refine WX.s1 rfl rfl ?_
      refine WX.icmp rfl (fun c_4 => absurd c_4 (by decide)) (fun c_4 => ?_)
      clear c_4
      refine WX.s1 rfl rfl ?_
      refine WX.s1 rfl rfl ?_
      refine WX.s1 (S' := [.int (((1 + 1) + 1) + 0)]) rfl rfl ?_
      refine WX.s1 (L' := [(0, .ref 81), (1, .int (nI dd)), (2, .int 0), (3, .int ((1 + 1) + 1)), (4, .int (((1 + 1) + 1) + 0))]) rfl rfl ?_
      refine WX.s1 rfl rfl ?_
      refine WX.s1 rfl rfl ?_
      refine WX.s1 rfl rfl ?_
      refine WX.icmp rfl (fun c_16 => ?_) (fun c_16 => absurd (by decide) c_16)
      clear c_16
      refine WX.s1 rfl rfl ?_
      refine WX.get1 (fs := [.ref 82, .ref 89, .ref 108, .ref 135, .ref 162, .ref 86, .ref 87, .int cnt, .ref 88]) rfl (ltN hn (by decide)) (F_h_81) rfl ?_
      refine WX.s1 rfl rfl ?_
      refine WX.s1 rfl rfl ?_
      refine WX.s1 (S' := [.int ((((1 + 1) + 1) + 0) - 1), .ref 87, .int (nI dd)]) rfl rfl ?_
      refine WX.iald1 rfl (Or.inl (ltN hn (by decide))) (F_h_87) (by unfold vp_in; decide) ?_
      rw [show ((((1 + 1) + 1) + 0) - 1 : Int32).toNatClampNeg = 2 from by decide, g2]
      refine WX.icmp rfl (fun c_39 => ?_) (fun c_39 => ?_)
      · skip
        have n_39 : ¬ dd = l.2.2 := fun zz_ => c_39 ((nI_eq (a := dd) (b := l.2.2) (by omega) (by omega)).mpr zz_)
        have m_3 : ¬ lval l (3 + 0) = dd := fun q => n_39 q.symm
        clear n_39 c_39
        refine WX.s1 (L' := [(0, .ref 81), (1, .int (nI dd)), (2, .int 0), (3, .int (((1 + 1) + 1) + 1)), (4, .int (((1 + 1) + 1) + 0))]) rfl rfl ?_
        refine WX.s1 rfl rfl ?_
        refine WX.s1 rfl rfl ?_
        refine WX.s1 rfl rfl ?_
        refine WX.icmp rfl (fun c_4 => ?_) (fun c_4 => absurd (by decide) c_4)
        clear c_4
        refine WX.s1 rfl rfl ?_
        refine WX.s1 rfl rfl ?_
        refine WX.s1 rfl rfl ?_
        refine WX.callC (vs := [.ref 81, .int (nI dd), .int 3]) rfl rfl rfl (Nat.le_of_ble_eq_true rfl) (rcv_ok (ltN hn (by decide)) F_h_81) ?_
        refine x_come3 hn hA0 F_h_81 (fun h9 fr9 A9 => ?_)
        show WX _ _ _ 67 [(0, .ref 81), (1, .int (nI dd)), (2, .int 0), (3, .int (((1 + 1) + 1) + 1)), (4, .int (((1 + 1) + 1) + 0))] [] (n, s, h9)
        have et : tnum l dd 0 = (dd + 3, lcome l dd 3) := by
          unfold tnum
          rw [if_neg (show ¬ lval l (1 + 0) = dd from m_1), if_neg (show ¬ lval l (2 + 0) = dd from m_2), if_neg (show ¬ lval l (3 + 0) = dd from m_3)]
        have A10 : LatA h9 87 (tnum l dd 0).2 := by rw [et]; exact A9
        refine WX.s1 rfl rfl ?_
        refine WX.s1 rfl rfl ?_
        refine WX.s1 (S' := [.int (nI dd + 3)]) rfl rfl ?_
        rw [show nI dd + 3 = nI (dd + 3) from nI_add dd 3]
        have kq := kk h9 fr9 A10
        rw [et] at kq
        exact WX.ret1 rfl kq
      · skip
        have n_39 : dd = l.2.2 := (nI_eq (a := dd) (b := l.2.2) (by omega) (by omega)).mp (Classical.not_not.mp c_39)
        have m_3 : lval l (3 + 0) = dd := n_39.symm
        refine WX.s1 rfl rfl ?_
        refine WX.s1 rfl rfl ?_
        refine WX.s1 rfl rfl ?_
        refine WX.s1 rfl rfl ?_
        refine WX.s1 (S' := [.int (if 3 < (((1 + 1) + 1) + 0) then 3 else (((1 + 1) + 1) + 0)), .int (nI dd), .ref 81]) rfl rfl ?_
        rw [show (if (3 : Int32) < (((1 + 1) + 1) + 0) then 3 else (((1 + 1) + 1) + 0)) = (3 : Int32) from by decide]
        refine WX.callC (vs := [.ref 81, .int (nI dd), .int 3]) rfl rfl rfl (Nat.le_of_ble_eq_true rfl) (rcv_ok (ltN hn (by decide)) F_h_81) ?_
        refine x_come3 hn hA0 F_h_81 (fun h9 fr9 A9 => ?_)
        show WX _ _ _ 53 [(0, .ref 81), (1, .int (nI dd)), (2, .int 0), (3, .int ((1 + 1) + 1)), (4, .int (((1 + 1) + 1) + 0))] [] (n, s, h9)
        have et : tnum l dd 0 = (3, lcome l dd 3) := by
          unfold tnum
          rw [if_neg (show ¬ lval l (1 + 0) = dd from m_1), if_neg (show ¬ lval l (2 + 0) = dd from m_2), if_pos (show lval l (3 + 0) = dd from (m_3))]
        have A10 : LatA h9 87 (tnum l dd 0).2 := by rw [et]; exact A9
        refine WX.s1 rfl rfl ?_
        have kq := kk h9 fr9 A10
        rw [et] at kq
        exact WX.ret1 rfl kq
    · skip
      have n_39 : dd = l.2.1 := (nI_eq (a := dd) (b := l.2.1) (by omega) (by omega)).mp (Classical.not_not.mp c_39)
      have m_2 : lval l (2 + 0) = dd := n_39.symm
      refine WX.s1 rfl rfl ?_
      refine WX.s1 rfl rfl ?_
      refine WX.s1 rfl rfl ?_
      refine WX.s1 rfl rfl ?_
      refine WX.s1 (S' := [.int (if 3 < ((1 + 1) + 0) then 3 else ((1 + 1) + 0)), .int (nI dd), .ref 81]) rfl rfl ?_
      rw [show (if (3 : Int32) < ((1 + 1) + 0) then 3 else ((1 + 1) + 0)) = (2 : Int32) from by decide]
      refine WX.callC (vs := [.ref 81, .int (nI dd), .int 2]) rfl rfl rfl (Nat.le_of_ble_eq_true rfl) (rcv_ok (ltN hn (by decide)) F_h_81) ?_
      refine x_come2 hn hA0 F_h_81 (fun h9 fr9 A9 => ?_)
      show WX _ _ _ 53 [(0, .ref 81), (1, .int (nI dd)), (2, .int 0), (3, .int (1 + 1)), (4, .int ((1 + 1) + 0))] [] (n, s, h9)
      have et : tnum l dd 0 = (2, lcome l dd 2) := by
        unfold tnum
        rw [if_neg (show ¬ lval l (1 + 0) = dd from m_1), if_pos (show lval l (2 + 0) = dd from (m_2))]
      have A10 : LatA h9 87 (tnum l dd 0).2 := by rw [et]; exact A9
      refine WX.s1 rfl rfl ?_
      have kq := kk h9 fr9 A10
      rw [et] at kq
      exact WX.ret1 rfl kq
  · skip
    have n_39 : dd = l.1 := (nI_eq (a := dd) (b := l.1) (by omega) (by omega)).mp (Classical.not_not.mp c_39)
    have m_1 : lval l (1 + 0) = dd := n_39.symm
    refine WX.s1 rfl rfl ?_
    refine WX.s1 rfl rfl ?_
    refine WX.s1 rfl rfl ?_
    refine WX.s1 rfl rfl ?_
    refine WX.s1 (S' := [.int (if 3 < (1 + 0) then 3 else (1 + 0)), .int (nI dd), .ref 81]) rfl rfl ?_
    rw [show (if (3 : Int32) < (1 + 0) then 3 else (1 + 0)) = (1 : Int32) from by decide]
    refine WX.callC (vs := [.ref 81, .int (nI dd), .int 1]) rfl rfl rfl (Nat.le_of_ble_eq_true rfl) (rcv_ok (ltN hn (by decide)) F_h_81) ?_
    refine x_come1 hn hA0 F_h_81 (fun h9 fr9 A9 => ?_)
    show WX _ _ _ 53 [(0, .ref 81), (1, .int (nI dd)), (2, .int 0), (3, .int 1), (4, .int (1 + 0))] [] (n, s, h9)
    have et : tnum l dd 0 = (1, lcome l dd 1) := by
      unfold tnum
      rw [if_pos (show lval l (1 + 0) = dd from (m_1))]
    have A10 : LatA h9 87 (tnum l dd 0).2 := by rw [et]; exact A9
    refine WX.s1 rfl rfl ?_
    have kq := kk h9 fr9 A10
    rw [et] at kq
    exact WX.ret1 rfl kq
set_option maxRecDepth 20000 in
theorem x_tdis1 {d n s : Nat} {h : Nat → aE} {l : Nat × Nat × Nat} {cnt : Int32} {dd : Nat} (hn : 190 ≤ n) (hl : LatOk l) (h1 : 1 ≤ dd) (h2 : dd ≤ 16000) (hA : LatA h 87 l) (F_h_81 : h 81 = .inr (6, [.ref 82, .ref 89, .ref 108, .ref 135, .ref 162, .ref 86, .ref 87, .int cnt, .ref 88]))  {Ψ : Option Value → aH → Prop} (kk : ∀ h', Fr h h' (fun j => j = 87) → LatA h' 87 (tnum l dd 1).2 → Ψ (some (.int (nI (tnum l dd 1).1))) (n, s, h')) : WO (mM (d + 2)) 73 [.ref 81, .int (nI dd), .int 1] (n, s, h) Ψ := by
  refine WO.of (Nat.le_of_ble_eq_true rfl) ?_
  have FR_h : Fr h h (fun j => j = 87) := Fr.rf
  have hA0 := hA
  obtain ⟨g, F_h_87, g0, g1, g2⟩ := hA
  obtain ⟨b1, b2, b3, b4, b5, b6⟩ := hl
  show WX (lk tX6_tellDistance) (mM (d + 1)) Ψ 0 [(0, .ref 81), (1, .int (nI dd)), (2, .int 1)] [] (n, s, h)
  refine WX.s1 rfl rfl ?_
  refine WX.s1 (L' := [(0, .ref 81), (1, .int (nI dd)), (2, .int 1), (3, .int 1)]) rfl rfl ?_
  refine WX.s1 rfl rfl ?_
  refine WX.s1 rfl rfl ?_
  refine WX.icmp rfl (fun c_4 => absurd c_4 (by decide)) (fun c_4 => ?_)
  clear c_4
  refine WX.s1 rfl rfl ?_
  refine WX.s1 rfl rfl ?_
  refine WX.s1 (S' := [.int (1 + 1)]) rfl rfl ?_
  refine WX.s1 (L' := [(0, .ref 81), (1, .int (nI dd)), (2, .int 1), (3, .int 1), (4, .int (1 + 1))]) rfl rfl ?_
  refine WX.s1 rfl rfl ?_
  refine WX.s1 rfl rfl ?_
  refine WX.s1 rfl rfl ?_
  refine WX.icmp rfl (fun c_16 => ?_) (fun c_16 => absurd (by decide) c_16)
  clear c_16
  refine WX.s1 rfl rfl ?_
  refine WX.get1 (fs := [.ref 82, .ref 89, .ref 108, .ref 135, .ref 162, .ref 86, .ref 87, .int cnt, .ref 88]) rfl (ltN hn (by decide)) (F_h_81) rfl ?_
  refine WX.s1 rfl rfl ?_
  refine WX.s1 rfl rfl ?_
  refine WX.s1 (S' := [.int ((1 + 1) - 1), .ref 87, .int (nI dd)]) rfl rfl ?_
  refine WX.iald1 rfl (Or.inl (ltN hn (by decide))) (F_h_87) (by unfold vp_in; decide) ?_
  rw [show ((1 + 1) - 1 : Int32).toNatClampNeg = 1 from by decide, g1]
  refine WX.icmp rfl (fun c_39 => ?_) (fun c_39 => ?_)
  · skip
    have n_39 : ¬ dd = l.2.1 := fun zz_ => c_39 ((nI_eq (a := dd) (b := l.2.1) (by omega) (by omega)).mpr zz_)
    have m_1 : ¬ lval l (1 + 1) = dd := fun q => n_39 q.symm
    clear n_39 c_39
    refine WX.s1 (L' := [(0, .ref 81), (1, .int (nI dd)), (2, .int 1), (3, .int (1 + 1)), (4, .int (1 + 1))]) rfl rfl ?_
    refine WX.s1 rfl rfl ?_
    refine WX.s1 rfl rfl ?_
    refine WX.s1 rfl rfl ?_
    refine WX.icmp rfl (fun c_4 => absurd c_4 (by decide)) (fun c_4 => ?_)
    clear c_4
    refine WX.s1 rfl rfl ?_
    refine WX.s1 rfl rfl ?_
    refine WX.s1 (S' := [.int ((1 + 1) + 1)]) rfl rfl ?_
    refine WX.s1 (L' := [(0, .ref 81), (1, .int (nI dd)), (2, .int 1), (3, .int (1 + 1)), (4, .int ((1 + 1) + 1))]) rfl rfl ?_
    refine WX.s1 rfl rfl ?_
    refine WX.s1 rfl rfl ?_
    refine WX.s1 rfl rfl ?_
    refine WX.icmp rfl (fun c_16 => ?_) (fun c_16 => absurd (by decide) c_16)
    clear c_16
    refine WX.s1 rfl rfl ?_
    refine WX.get1 (fs := [.ref 82, .ref 89, .ref 108, .ref 135, .ref 162, .ref 86, .ref 87, .int cnt, .ref 88]) rfl (ltN hn (by decide)) (F_h_81) rfl ?_
    refine WX.s1 rfl rfl ?_
    refine WX.s1 rfl rfl ?_
    refine WX.s1 (S' := [.int (((1 + 1) + 1) - 1), .ref 87, .int (nI dd)]) rfl rfl ?_
    refine WX.iald1 rfl (Or.inl (ltN hn (by decide))) (F_h_87) (by unfold vp_in; decide) ?_
    rw [show (((1 + 1) + 1) - 1 : Int32).toNatClampNeg = 2 from by decide, g2]
    refine WX.icmp rfl (fun c_39 => ?_) (fun c_39 => ?_)
    · skip
      have n_39 : ¬ dd = l.2.2 := fun zz_ => c_39 ((nI_eq (a := dd) (b := l.2.2) (by omega) (by omega)).mpr zz_)
      have m_2 : ¬ lval l (2 + 1) = dd := fun q => n_39 q.symm
      clear n_39 c_39
      refine WX.s1 (L' := [(0, .ref 81), (1, .int (nI dd)), (2, .int 1), (3, .int ((1 + 1) + 1)), (4, .int ((1 + 1) + 1))]) rfl rfl ?_
      refine WX.s1 rfl rfl ?_
      refine WX.s1 rfl rfl ?_
      refine WX.s1 rfl rfl ?_
      refine WX.icmp rfl (fun c_4 => absurd c_4 (by decide)) (fun c_4 => ?_)
      clear c_4
      refine WX.s1 rfl rfl ?_
      refine WX.s1 rfl rfl ?_
      refine WX.s1 (S' := [.int (((1 + 1) + 1) + 1)]) rfl rfl ?_
      refine WX.s1 (L' := [(0, .ref 81), (1, .int (nI dd)), (2, .int 1), (3, .int ((1 + 1) + 1)), (4, .int (((1 + 1) + 1) + 1))]) rfl rfl ?_
      refine WX.s1 rfl rfl ?_
      refine WX.s1 rfl rfl ?_
      refine WX.s1 rfl rfl ?_
      refine WX.icmp rfl (fun c_16 => absurd c_16 (by decide)) (fun c_16 => ?_)
      clear c_16
      refine WX.s1 rfl rfl ?_
      refine WX.get1 (fs := [.ref 82, .ref 89, .ref 108, .ref 135, .ref 162, .ref 86, .ref 87, .int cnt, .ref 88]) rfl (ltN hn (by decide)) (F_h_81) rfl ?_
      refine WX.s1 rfl rfl ?_
      refine WX.iald1 rfl (Or.inl (ltN hn (by decide))) (F_h_87) (by unfold vp_in; decide) ?_
      rw [show (0 : Int32).toNatClampNeg = 0 from rfl, g0]
      refine WX.s1 rfl rfl ?_
      refine WX.s1 (S' := [.int ((nI l.1) - 1), .int (nI dd)]) rfl rfl ?_
      rw [nI_pm1 b1]
      refine WX.s1 rfl rfl ?_
      refine WX.icmp rfl (fun c_39 => ?_) (fun c_39 => ?_)
      · skip
        have n_39 : ¬ dd = (l.1 - 1) := fun zz_ => c_39 ((nI_eq (a := dd) (b := l.1 - 1) (by omega) (by omega)).mpr zz_)
        have m_3 : ¬ lval l (3 + 1) = dd := fun q => n_39 q.symm
        clear n_39 c_39
        refine WX.s1 (L' := [(0, .ref 81), (1, .int (nI dd)), (2, .int 1), (3, .int (((1 + 1) + 1) + 1)), (4, .int (((1 + 1) + 1) + 1))]) rfl rfl ?_
        refine WX.s1 rfl rfl ?_
        refine WX.s1 rfl rfl ?_
        refine WX.s1 rfl rfl ?_
        refine WX.icmp rfl (fun c_4 => ?_) (fun c_4 => absurd (by decide) c_4)
        clear c_4
        refine WX.s1 rfl rfl ?_
        refine WX.s1 rfl rfl ?_
        refine WX.s1 rfl rfl ?_
        refine WX.callC (vs := [.ref 81, .int (nI dd), .int 3]) rfl rfl rfl (Nat.le_of_ble_eq_true rfl) (rcv_ok (ltN hn (by decide)) F_h_81) ?_
        refine x_come3 hn hA0 F_h_81 (fun h9 fr9 A9 => ?_)
        show WX _ _ _ 67 [(0, .ref 81), (1, .int (nI dd)), (2, .int 1), (3, .int (((1 + 1) + 1) + 1)), (4, .int (((1 + 1) + 1) + 1))] [] (n, s, h9)
        have et : tnum l dd 1 = (dd + 3, lcome l dd 3) := by
          unfold tnum
          rw [if_neg (show ¬ lval l (1 + 1) = dd from m_1), if_neg (show ¬ lval l (2 + 1) = dd from m_2), if_neg (show ¬ lval l (3 + 1) = dd from m_3)]
        have A10 : LatA h9 87 (tnum l dd 1).2 := by rw [et]; exact A9
        refine WX.s1 rfl rfl ?_
        refine WX.s1 rfl rfl ?_
        refine WX.s1 (S' := [.int (nI dd + 3)]) rfl rfl ?_
        rw [show nI dd + 3 = nI (dd + 3) from nI_add dd 3]
        have kq := kk h9 fr9 A10
        rw [et] at kq
        exact WX.ret1 rfl kq
      · skip
        have n_39 : dd = (l.1 - 1) := (nI_eq (a := dd) (b := l.1 - 1) (by omega) (by omega)).mp (Classical.not_not.mp c_39)
        have m_3 : lval l (3 + 1) = dd := n_39.symm
        refine WX.s1 rfl rfl ?_
        refine WX.s1 rfl rfl ?_
        refine WX.s1 rfl rfl ?_
        refine WX.s1 rfl rfl ?_
        refine WX.s1 (S' := [.int (if 3 < (((1 + 1) + 1) + 1) then 3 else (((1 + 1) + 1) + 1)), .int (nI dd), .ref 81]) rfl rfl ?_
        rw [show (if (3 : Int32) < (((1 + 1) + 1) + 1) then 3 else (((1 + 1) + 1) + 1)) = (3 : Int32) from by decide]
        refine WX.callC (vs := [.ref 81, .int (nI dd), .int 3]) rfl rfl rfl (Nat.le_of_ble_eq_true rfl) (rcv_ok (ltN hn (by decide)) F_h_81) ?_
        refine x_come3 hn hA0 F_h_81 (fun h9 fr9 A9 => ?_)
        show WX _ _ _ 53 [(0, .ref 81), (1, .int (nI dd)), (2, .int 1), (3, .int ((1 + 1) + 1)), (4, .int (((1 + 1) + 1) + 1))] [] (n, s, h9)
        have et : tnum l dd 1 = (3, lcome l dd 4) := by
          unfold tnum
          rw [if_neg (show ¬ lval l (1 + 1) = dd from m_1), if_neg (show ¬ lval l (2 + 1) = dd from m_2), if_pos (show lval l (3 + 1) = dd from (m_3))]
        have A10 : LatA h9 87 (tnum l dd 1).2 := by rw [et]; exact A9
        refine WX.s1 rfl rfl ?_
        have kq := kk h9 fr9 A10
        rw [et] at kq
        exact WX.ret1 rfl kq
    · skip
      have n_39 : dd = l.2.2 := (nI_eq (a := dd) (b := l.2.2) (by omega) (by omega)).mp (Classical.not_not.mp c_39)
      have m_2 : lval l (2 + 1) = dd := n_39.symm
      refine WX.s1 rfl rfl ?_
      refine WX.s1 rfl rfl ?_
      refine WX.s1 rfl rfl ?_
      refine WX.s1 rfl rfl ?_
      refine WX.s1 (S' := [.int (if 3 < ((1 + 1) + 1) then 3 else ((1 + 1) + 1)), .int (nI dd), .ref 81]) rfl rfl ?_
      rw [show (if (3 : Int32) < ((1 + 1) + 1) then 3 else ((1 + 1) + 1)) = (3 : Int32) from by decide]
      refine WX.callC (vs := [.ref 81, .int (nI dd), .int 3]) rfl rfl rfl (Nat.le_of_ble_eq_true rfl) (rcv_ok (ltN hn (by decide)) F_h_81) ?_
      refine x_come3 hn hA0 F_h_81 (fun h9 fr9 A9 => ?_)
      show WX _ _ _ 53 [(0, .ref 81), (1, .int (nI dd)), (2, .int 1), (3, .int (1 + 1)), (4, .int ((1 + 1) + 1))] [] (n, s, h9)
      have et : tnum l dd 1 = (2, lcome l dd 3) := by
        unfold tnum
        rw [if_neg (show ¬ lval l (1 + 1) = dd from m_1), if_pos (show lval l (2 + 1) = dd from (m_2))]
      have A10 : LatA h9 87 (tnum l dd 1).2 := by rw [et]; exact A9
      refine WX.s1 rfl rfl ?_
      have kq := kk h9 fr9 A10
      rw [et] at kq
      exact WX.ret1 rfl kq
  · skip
    have n_39 : dd = l.2.1 := (nI_eq (a := dd) (b := l.2.1) (by omega) (by omega)).mp (Classical.not_not.mp c_39)
    have m_1 : lval l (1 + 1) = dd := n_39.symm
    refine WX.s1 rfl rfl ?_
    refine WX.s1 rfl rfl ?_
    refine WX.s1 rfl rfl ?_
    refine WX.s1 rfl rfl ?_
    refine WX.s1 (S' := [.int (if 3 < (1 + 1) then 3 else (1 + 1)), .int (nI dd), .ref 81]) rfl rfl ?_
    rw [show (if (3 : Int32) < (1 + 1) then 3 else (1 + 1)) = (2 : Int32) from by decide]
    refine WX.callC (vs := [.ref 81, .int (nI dd), .int 2]) rfl rfl rfl (Nat.le_of_ble_eq_true rfl) (rcv_ok (ltN hn (by decide)) F_h_81) ?_
    refine x_come2 hn hA0 F_h_81 (fun h9 fr9 A9 => ?_)
    show WX _ _ _ 53 [(0, .ref 81), (1, .int (nI dd)), (2, .int 1), (3, .int 1), (4, .int (1 + 1))] [] (n, s, h9)
    have et : tnum l dd 1 = (1, lcome l dd 2) := by
      unfold tnum
      rw [if_pos (show lval l (1 + 1) = dd from (m_1))]
    have A10 : LatA h9 87 (tnum l dd 1).2 := by rw [et]; exact A9
    refine WX.s1 rfl rfl ?_
    have kq := kk h9 fr9 A10
    rw [et] at kq
    exact WX.ret1 rfl kq
def LatM (A : Nat → Nat → Int32) (l : Nat × Nat × Nat) : Prop := A 11 0 = nI l.1 ∧ A 11 1 = nI l.2.1 ∧ A 11 2 = nI l.2.2
theorem cl0 : (0 : Int32).toNatClampNeg = 0 := rfl
theorem cl1 : (1 : Int32).toNatClampNeg = 1 := by decide
theorem cl2 : (2 : Int32).toNatClampNeg = 2 := by decide
set_option maxRecDepth 20000 in
theorem m_num0 {d n s : Nat} {h : Nat → aE} {m : Nat} {I : Nat → Int32} {AR : Nat → Nat → Int32} {LN : Nat → Int64} {l : Nat × Nat × Nat} {dd : Nat} (hm : m + 43 < n) (M_h : MAt h m I AR LN) (hl : LatOk l) (h1 : 1 ≤ dd) (h2 : dd ≤ 16000) (hA : LatM AR l)  {Ψ : Option Value → aH → Prop} (kk : ∀ h' A', Fr h h' (inM m) → MAt h' m I A' LN → Fa AR A' 11 → LatM A' (tnum l dd 0).2 → Ψ (some (.int (nI (tnum l dd 0).1))) (n, s, h')) : WO (mM (d + 1)) 163 [.ref m, .int (nI dd), .int 0] (n, s, h) Ψ := by
  refine WO.of (Nat.le_of_ble_eq_true rfl) ?_
  have FR_h : Fr h h (inM m) := Fr.rf
  have FI_I : Fi I I (fun f => f = 40) := Fi.rf
  obtain ⟨g0, g1, g2⟩ := hA
  obtain ⟨b1, b2, b3, b4, b5, b6⟩ := hl
  show WX (lk tX12_number) (mM d) Ψ 0 [(0, .ref m), (1, .int (nI dd)), (2, .int 0)] [] (n, s, h)
  refine WX.s1 rfl rfl ?_
  refine WX.s1 rfl rfl ?_
  refine WX.s1 (S' := [.int ((nI dd) + 3)]) rfl rfl ?_
  rw [show ((nI dd) + 3) = nI (dd + 3) from nI_add dd 3]
  refine WX.s1 (L' := [(0, .ref m), (1, .int (nI dd)), (2, .int 0), (3, .int (nI (dd + 3)))]) rfl rfl ?_
  refine WX.s1 rfl rfl ?_
  refine WX.s1 (L' := [(0, .ref m), (1, .int (nI dd)), (2, .int 0), (3, .int (nI (dd + 3))), (4, .int 3)]) rfl rfl ?_
  refine WX.s1 rfl rfl ?_
  refine WX.if_ rfl (fun c_9 => absurd c_9 (by decide)) (fun c_9 => ?_)
  clear c_9
  refine WX.s1 rfl rfl ?_
  refine WX.s1 rfl rfl ?_
  refine WX.s1 (S' := [.int (3 + 0)]) rfl rfl ?_
  refine WX.s1 (L' := [(0, .ref m), (1, .int (nI dd)), (2, .int 0), (3, .int (nI (dd + 3))), (4, .int 3), (5, .int (3 + 0))]) rfl rfl ?_
  refine WX.s1 rfl rfl ?_
  refine WX.s1 rfl rfl ?_
  refine WX.icmp rfl (fun c_21 => ?_) (fun c_21 => absurd (by decide) c_21)
  clear c_21
  refine WX.s1 rfl rfl ?_
  refine WX.mget rfl hm M_h rfl ?_
  refine WX.s1 rfl rfl ?_
  refine WX.s1 rfl rfl ?_
  refine WX.s1 (S' := [.int ((3 + 0) - 1), .ref (m + 11)]) rfl rfl ?_
  refine WX.mald (c := 11) rfl hm M_h (by decide) (by decide) (by decide) (by decide) (by unfold vp_in; decide) ?_
  rw [show ((3 + 0) - 1 : Int32).toNatClampNeg = 2 from by decide, g2]
  refine WX.s1 rfl rfl ?_
  refine WX.icmp rfl (fun c_45 => ?_) (fun c_45 => ?_)
  · skip
    have n_45 : ¬ l.2.2 = dd := fun zz_ => c_45 ((nI_eq (a := l.2.2) (b := dd) (by omega) (by omega)).mpr zz_)
    have m_3 : ¬ lval l (3 + 0) = dd := n_45
    clear n_45 c_45
    refine WX.s1 rfl rfl ?_
    refine WX.s1 (L' := [(0, .ref m), (1, .int (nI dd)), (2, .int 0), (3, .int (nI (dd + 3))), (4, .int 3), (5, .int (3 + 0))]) rfl rfl ?_
    refine WX.s1 (L' := [(0, .ref m), (1, .int (nI dd)), (2, .int 0), (3, .int (nI (dd + 3))), (4, .int (3 + (-1))), (5, .int (3 + 0))]) rfl rfl ?_
    refine WX.s1 rfl rfl ?_
    refine WX.s1 rfl rfl ?_
    refine WX.if_ rfl (fun c_9 => absurd c_9 (by decide)) (fun c_9 => ?_)
    clear c_9
    refine WX.s1 rfl rfl ?_
    refine WX.s1 rfl rfl ?_
    refine WX.s1 (S' := [.int ((3 + (-1)) + 0)]) rfl rfl ?_
    refine WX.s1 (L' := [(0, .ref m), (1, .int (nI dd)), (2, .int 0), (3, .int (nI (dd + 3))), (4, .int (3 + (-1))), (5, .int ((3 + (-1)) + 0))]) rfl rfl ?_
    refine WX.s1 rfl rfl ?_
    refine WX.s1 rfl rfl ?_
    refine WX.icmp rfl (fun c_21 => ?_) (fun c_21 => absurd (by decide) c_21)
    clear c_21
    refine WX.s1 rfl rfl ?_
    refine WX.mget rfl hm M_h rfl ?_
    refine WX.s1 rfl rfl ?_
    refine WX.s1 rfl rfl ?_
    refine WX.s1 (S' := [.int (((3 + (-1)) + 0) - 1), .ref (m + 11)]) rfl rfl ?_
    refine WX.mald (c := 11) rfl hm M_h (by decide) (by decide) (by decide) (by decide) (by unfold vp_in; decide) ?_
    rw [show (((3 + (-1)) + 0) - 1 : Int32).toNatClampNeg = 1 from by decide, g1]
    refine WX.s1 rfl rfl ?_
    refine WX.icmp rfl (fun c_45 => ?_) (fun c_45 => ?_)
    · skip
      have n_45 : ¬ l.2.1 = dd := fun zz_ => c_45 ((nI_eq (a := l.2.1) (b := dd) (by omega) (by omega)).mpr zz_)
      have m_2 : ¬ lval l (2 + 0) = dd := n_45
      clear n_45 c_45
      refine WX.s1 rfl rfl ?_
      refine WX.s1 (L' := [(0, .ref m), (1, .int (nI dd)), (2, .int 0), (3, .int (nI (dd + 3))), (4, .int (3 + (-1))), (5, .int ((3 + (-1)) + 0))]) rfl rfl ?_
      refine WX.s1 (L' := [(0, .ref m), (1, .int (nI dd)), (2, .int 0), (3, .int (nI (dd + 3))), (4, .int ((3 + (-1)) + (-1))), (5, .int ((3 + (-1)) + 0))]) rfl rfl ?_
      refine WX.s1 rfl rfl ?_
      refine WX.s1 rfl rfl ?_
      refine WX.if_ rfl (fun c_9 => absurd c_9 (by decide)) (fun c_9 => ?_)
      clear c_9
      refine WX.s1 rfl rfl ?_
      refine WX.s1 rfl rfl ?_
      refine WX.s1 (S' := [.int (((3 + (-1)) + (-1)) + 0)]) rfl rfl ?_
      refine WX.s1 (L' := [(0, .ref m), (1, .int (nI dd)), (2, .int 0), (3, .int (nI (dd + 3))), (4, .int ((3 + (-1)) + (-1))), (5, .int (((3 + (-1)) + (-1)) + 0))]) rfl rfl ?_
      refine WX.s1 rfl rfl ?_
      refine WX.s1 rfl rfl ?_
      refine WX.icmp rfl (fun c_21 => ?_) (fun c_21 => absurd (by decide) c_21)
      clear c_21
      refine WX.s1 rfl rfl ?_
      refine WX.mget rfl hm M_h rfl ?_
      refine WX.s1 rfl rfl ?_
      refine WX.s1 rfl rfl ?_
      refine WX.s1 (S' := [.int ((((3 + (-1)) + (-1)) + 0) - 1), .ref (m + 11)]) rfl rfl ?_
      refine WX.mald (c := 11) rfl hm M_h (by decide) (by decide) (by decide) (by decide) (by unfold vp_in; decide) ?_
      rw [show ((((3 + (-1)) + (-1)) + 0) - 1 : Int32).toNatClampNeg = 0 from by decide, g0]
      refine WX.s1 rfl rfl ?_
      refine WX.icmp rfl (fun c_45 => ?_) (fun c_45 => ?_)
      · skip
        have n_45 : ¬ l.1 = dd := fun zz_ => c_45 ((nI_eq (a := l.1) (b := dd) (by omega) (by omega)).mpr zz_)
        have m_1 : ¬ lval l (1 + 0) = dd := n_45
        clear n_45 c_45
        refine WX.s1 rfl rfl ?_
        refine WX.s1 (L' := [(0, .ref m), (1, .int (nI dd)), (2, .int 0), (3, .int (nI (dd + 3))), (4, .int ((3 + (-1)) + (-1))), (5, .int (((3 + (-1)) + (-1)) + 0))]) rfl rfl ?_
        refine WX.s1 (L' := [(0, .ref m), (1, .int (nI dd)), (2, .int 0), (3, .int (nI (dd + 3))), (4, .int (((3 + (-1)) + (-1)) + (-1))), (5, .int (((3 + (-1)) + (-1)) + 0))]) rfl rfl ?_
        refine WX.s1 rfl rfl ?_
        refine WX.s1 rfl rfl ?_
        refine WX.if_ rfl (fun c_9 => ?_) (fun c_9 => absurd (by decide) c_9)
        clear c_9
        refine WX.s1 rfl rfl ?_
        refine WX.s1 rfl rfl ?_
        refine WX.icmp rfl (fun c_63 => absurd c_63 (fun zz_ => absurd ((nI_leI (a := dd + 3) (b := 3) (by omega) (by omega)).mp zz_) (Nat.not_le.mpr (by omega)))) (fun c_63 => ?_)
        clear c_63
        refine WX.s1 rfl rfl ?_
        refine WX.s1 rfl rfl ?_
        refine WX.s1 (L' := [(0, .ref m), (1, .int (nI dd)), (2, .int 0), (3, .int (nI (dd + 3))), (4, .int 5), (5, .int (((3 + (-1)) + (-1)) + 0))]) rfl rfl ?_
        refine WX.s1 rfl rfl ?_
        refine WX.s1 rfl rfl ?_
        refine WX.icmp rfl (fun c_78 => absurd c_78 (by decide)) (fun c_78 => ?_)
        clear c_78
        refine WX.s1 rfl rfl ?_
        refine WX.mget rfl hm M_h rfl ?_
        refine WX.s1 rfl rfl ?_
        refine WX.s1 rfl rfl ?_
        refine WX.mget rfl hm M_h rfl ?_
        refine WX.s1 rfl rfl ?_
        refine WX.mald (c := 11) rfl hm M_h (by decide) (by decide) (by decide) (by decide) (by unfold vp_in; decide) ?_
        refine WX.mast (c := 11) rfl hm M_h (by decide) (by decide) (by decide) (by decide) (by unfold vp_in; decide) (fun h92n1 A92n1 e_A92n1 M_h92n1 frh92n1 => ?_)
        try dsimp only at e_A92n1
        have FR_h92n1 := FR_h.ztr frh92n1
        clear M_h FR_h frh92n1
        refine WX.s1 rfl rfl ?_
        refine WX.s1 rfl rfl ?_
        refine WX.icmp rfl (fun c_96 => absurd c_96 (by decide)) (fun c_96 => ?_)
        clear c_96
        refine WX.s1 rfl rfl ?_
        refine WX.mget rfl hm M_h92n1 rfl ?_
        refine WX.s1 rfl rfl ?_
        refine WX.s1 rfl rfl ?_
        refine WX.mget rfl hm M_h92n1 rfl ?_
        refine WX.s1 rfl rfl ?_
        refine WX.mald (c := 11) rfl hm M_h92n1 (by decide) (by decide) (by decide) (by decide) (by unfold vp_in; decide) ?_
        refine WX.mast (c := 11) rfl hm M_h92n1 (by decide) (by decide) (by decide) (by decide) (by unfold vp_in; decide) (fun h110n2 A110n2 e_A110n2 M_h110n2 frh110n2 => ?_)
        try dsimp only at e_A110n2
        have FR_h110n2 := FR_h92n1.ztr frh110n2
        clear M_h92n1 FR_h92n1 frh110n2
        refine WX.s1 rfl rfl ?_
        refine WX.mget rfl hm M_h110n2 rfl ?_
        refine WX.s1 rfl rfl ?_
        refine WX.s1 rfl rfl ?_
        refine WX.mast (c := 11) rfl hm M_h110n2 (by decide) (by decide) (by decide) (by decide) (by unfold vp_in; decide) (fun h117n3 A117n3 e_A117n3 M_h117n3 frh117n3 => ?_)
        try dsimp only at e_A117n3
        have FR_h117n3 := FR_h110n2.ztr frh117n3
        clear M_h110n2 FR_h110n2 frh117n3
        refine WX.s1 rfl rfl ?_
        have et : tnum l dd 0 = (dd + 3, lcome l dd 3) := by
          unfold tnum
          rw [if_neg m_1, if_neg m_2, if_neg m_3]
        have kq := kk h117n3 A117n3 FR_h117n3 M_h117n3 ?_ ?_
        · rw [et] at kq; exact WX.ret1 rfl kq
        · exact (((Fa.rf.ast e_A92n1).ast e_A110n2).ast e_A117n3)
        · rw [et]
          unfold LatM lcome
          simp only [e_A117n3, e_A110n2, e_A92n1, upA, upd, cl0, cl1, cl2]
          simp [upd, g0, g1, g2]
      · skip
        have n_45 : l.1 = dd := (nI_eq (a := l.1) (b := dd) (by omega) (by omega)).mp (Classical.not_not.mp c_45)
        have m_1 : lval l (1 + 0) = dd := n_45
        clear n_45 c_45
        refine WX.s1 rfl rfl ?_
        refine WX.s1 rfl rfl ?_
        refine WX.s1 (L' := [(0, .ref m), (1, .int (nI dd)), (2, .int 0), (3, .int ((3 + (-1)) + (-1))), (4, .int ((3 + (-1)) + (-1))), (5, .int (((3 + (-1)) + (-1)) + 0))]) rfl rfl ?_
        refine WX.s1 (L' := [(0, .ref m), (1, .int (nI dd)), (2, .int 0), (3, .int ((3 + (-1)) + (-1))), (4, .int (((3 + (-1)) + (-1)) + (-1))), (5, .int (((3 + (-1)) + (-1)) + 0))]) rfl rfl ?_
        refine WX.s1 rfl rfl ?_
        refine WX.s1 rfl rfl ?_
        refine WX.if_ rfl (fun c_9 => ?_) (fun c_9 => absurd (by decide) c_9)
        clear c_9
        refine WX.s1 rfl rfl ?_
        refine WX.s1 rfl rfl ?_
        refine WX.icmp rfl (fun c_63 => ?_) (fun c_63 => absurd (by decide) c_63)
        clear c_63
        refine WX.s1 rfl rfl ?_
        refine WX.s1 rfl rfl ?_
        refine WX.s1 (S' := [.int (((3 + (-1)) + (-1)) + 0)]) rfl rfl ?_
        refine WX.s1 (L' := [(0, .ref m), (1, .int (nI dd)), (2, .int 0), (3, .int ((3 + (-1)) + (-1))), (4, .int (((3 + (-1)) + (-1)) + 0)), (5, .int (((3 + (-1)) + (-1)) + 0))]) rfl rfl ?_
        refine WX.s1 rfl rfl ?_
        refine WX.s1 rfl rfl ?_
        refine WX.icmp rfl (fun c_78 => ?_) (fun c_78 => absurd (by decide) c_78)
        clear c_78
        refine WX.s1 rfl rfl ?_
        refine WX.s1 rfl rfl ?_
        refine WX.icmp rfl (fun c_96 => ?_) (fun c_96 => absurd (by decide) c_96)
        clear c_96
        refine WX.s1 rfl rfl ?_
        refine WX.mget rfl hm M_h rfl ?_
        refine WX.s1 rfl rfl ?_
        refine WX.s1 rfl rfl ?_
        refine WX.mast (c := 11) rfl hm M_h (by decide) (by decide) (by decide) (by decide) (by unfold vp_in; decide) (fun h117n4 A117n4 e_A117n4 M_h117n4 frh117n4 => ?_)
        try dsimp only at e_A117n4
        have FR_h117n4 := FR_h.ztr frh117n4
        clear M_h FR_h frh117n4
        refine WX.s1 rfl rfl ?_
        have et : tnum l dd 0 = (1, lcome l dd 1) := by
          unfold tnum
          rw [if_pos m_1]
        rw [show (((3 + (-1)) + (-1)) : Int32) = nI 1 from by decide]
        have kq := kk h117n4 A117n4 FR_h117n4 M_h117n4 ?_ ?_
        · rw [et] at kq; exact WX.ret1 rfl kq
        · exact (Fa.rf.ast e_A117n4)
        · rw [et]
          unfold LatM lcome
          simp only [e_A117n4, upA, upd, cl0, cl1, cl2]
          simp [upd, g0, g1, g2]
    · skip
      have n_45 : l.2.1 = dd := (nI_eq (a := l.2.1) (b := dd) (by omega) (by omega)).mp (Classical.not_not.mp c_45)
      have m_2 : lval l (2 + 0) = dd := n_45
      clear n_45 c_45
      refine WX.s1 rfl rfl ?_
      refine WX.s1 rfl rfl ?_
      refine WX.s1 (L' := [(0, .ref m), (1, .int (nI dd)), (2, .int 0), (3, .int (3 + (-1))), (4, .int (3 + (-1))), (5, .int ((3 + (-1)) + 0))]) rfl rfl ?_
      refine WX.s1 (L' := [(0, .ref m), (1, .int (nI dd)), (2, .int 0), (3, .int (3 + (-1))), (4, .int ((3 + (-1)) + (-1))), (5, .int ((3 + (-1)) + 0))]) rfl rfl ?_
      refine WX.s1 rfl rfl ?_
      refine WX.s1 rfl rfl ?_
      refine WX.if_ rfl (fun c_9 => absurd c_9 (by decide)) (fun c_9 => ?_)
      clear c_9
      refine WX.s1 rfl rfl ?_
      refine WX.s1 rfl rfl ?_
      refine WX.s1 (S' := [.int (((3 + (-1)) + (-1)) + 0)]) rfl rfl ?_
      refine WX.s1 (L' := [(0, .ref m), (1, .int (nI dd)), (2, .int 0), (3, .int (3 + (-1))), (4, .int ((3 + (-1)) + (-1))), (5, .int (((3 + (-1)) + (-1)) + 0))]) rfl rfl ?_
      refine WX.s1 rfl rfl ?_
      refine WX.s1 rfl rfl ?_
      refine WX.icmp rfl (fun c_21 => ?_) (fun c_21 => absurd (by decide) c_21)
      clear c_21
      refine WX.s1 rfl rfl ?_
      refine WX.mget rfl hm M_h rfl ?_
      refine WX.s1 rfl rfl ?_
      refine WX.s1 rfl rfl ?_
      refine WX.s1 (S' := [.int ((((3 + (-1)) + (-1)) + 0) - 1), .ref (m + 11)]) rfl rfl ?_
      refine WX.mald (c := 11) rfl hm M_h (by decide) (by decide) (by decide) (by decide) (by unfold vp_in; decide) ?_
      rw [show ((((3 + (-1)) + (-1)) + 0) - 1 : Int32).toNatClampNeg = 0 from by decide, g0]
      refine WX.s1 rfl rfl ?_
      refine WX.icmp rfl (fun c_45 => ?_) (fun c_45 => ?_)
      · skip
        have n_45 : ¬ l.1 = dd := fun zz_ => c_45 ((nI_eq (a := l.1) (b := dd) (by omega) (by omega)).mpr zz_)
        have m_1 : ¬ lval l (1 + 0) = dd := n_45
        clear n_45 c_45
        refine WX.s1 rfl rfl ?_
        refine WX.s1 (L' := [(0, .ref m), (1, .int (nI dd)), (2, .int 0), (3, .int (3 + (-1))), (4, .int ((3 + (-1)) + (-1))), (5, .int (((3 + (-1)) + (-1)) + 0))]) rfl rfl ?_
        refine WX.s1 (L' := [(0, .ref m), (1, .int (nI dd)), (2, .int 0), (3, .int (3 + (-1))), (4, .int (((3 + (-1)) + (-1)) + (-1))), (5, .int (((3 + (-1)) + (-1)) + 0))]) rfl rfl ?_
        refine WX.s1 rfl rfl ?_
        refine WX.s1 rfl rfl ?_
        refine WX.if_ rfl (fun c_9 => ?_) (fun c_9 => absurd (by decide) c_9)
        clear c_9
        refine WX.s1 rfl rfl ?_
        refine WX.s1 rfl rfl ?_
        refine WX.icmp rfl (fun c_63 => ?_) (fun c_63 => absurd (by decide) c_63)
        clear c_63
        refine WX.s1 rfl rfl ?_
        refine WX.s1 rfl rfl ?_
        refine WX.s1 (S' := [.int ((3 + (-1)) + 0)]) rfl rfl ?_
        refine WX.s1 (L' := [(0, .ref m), (1, .int (nI dd)), (2, .int 0), (3, .int (3 + (-1))), (4, .int ((3 + (-1)) + 0)), (5, .int (((3 + (-1)) + (-1)) + 0))]) rfl rfl ?_
        refine WX.s1 rfl rfl ?_
        refine WX.s1 rfl rfl ?_
        refine WX.icmp rfl (fun c_78 => ?_) (fun c_78 => absurd (by decide) c_78)
        clear c_78
        refine WX.s1 rfl rfl ?_
        refine WX.s1 rfl rfl ?_
        refine WX.icmp rfl (fun c_96 => absurd c_96 (by decide)) (fun c_96 => ?_)
        clear c_96
        refine WX.s1 rfl rfl ?_
        refine WX.mget rfl hm M_h rfl ?_
        refine WX.s1 rfl rfl ?_
        refine WX.s1 rfl rfl ?_
        refine WX.mget rfl hm M_h rfl ?_
        refine WX.s1 rfl rfl ?_
        refine WX.mald (c := 11) rfl hm M_h (by decide) (by decide) (by decide) (by decide) (by unfold vp_in; decide) ?_
        refine WX.mast (c := 11) rfl hm M_h (by decide) (by decide) (by decide) (by decide) (by unfold vp_in; decide) (fun h110n5 A110n5 e_A110n5 M_h110n5 frh110n5 => ?_)
        try dsimp only at e_A110n5
        have FR_h110n5 := FR_h.ztr frh110n5
        clear M_h FR_h frh110n5
        refine WX.s1 rfl rfl ?_
        refine WX.mget rfl hm M_h110n5 rfl ?_
        refine WX.s1 rfl rfl ?_
        refine WX.s1 rfl rfl ?_
        refine WX.mast (c := 11) rfl hm M_h110n5 (by decide) (by decide) (by decide) (by decide) (by unfold vp_in; decide) (fun h117n6 A117n6 e_A117n6 M_h117n6 frh117n6 => ?_)
        try dsimp only at e_A117n6
        have FR_h117n6 := FR_h110n5.ztr frh117n6
        clear M_h110n5 FR_h110n5 frh117n6
        refine WX.s1 rfl rfl ?_
        have et : tnum l dd 0 = (2, lcome l dd 2) := by
          unfold tnum
          rw [if_neg m_1, if_pos m_2]
        rw [show ((3 + (-1)) : Int32) = nI 2 from by decide]
        have kq := kk h117n6 A117n6 FR_h117n6 M_h117n6 ?_ ?_
        · rw [et] at kq; exact WX.ret1 rfl kq
        · exact ((Fa.rf.ast e_A110n5).ast e_A117n6)
        · rw [et]
          unfold LatM lcome
          simp only [e_A117n6, e_A110n5, upA, upd, cl0, cl1, cl2]
          simp [upd, g0, g1, g2]
      · skip
        have n_45 : l.1 = dd := (nI_eq (a := l.1) (b := dd) (by omega) (by omega)).mp (Classical.not_not.mp c_45)
        have m_1 : lval l (1 + 0) = dd := n_45
        clear n_45 c_45
        refine WX.s1 rfl rfl ?_
        refine WX.s1 rfl rfl ?_
        refine WX.s1 (L' := [(0, .ref m), (1, .int (nI dd)), (2, .int 0), (3, .int ((3 + (-1)) + (-1))), (4, .int ((3 + (-1)) + (-1))), (5, .int (((3 + (-1)) + (-1)) + 0))]) rfl rfl ?_
        refine WX.s1 (L' := [(0, .ref m), (1, .int (nI dd)), (2, .int 0), (3, .int ((3 + (-1)) + (-1))), (4, .int (((3 + (-1)) + (-1)) + (-1))), (5, .int (((3 + (-1)) + (-1)) + 0))]) rfl rfl ?_
        refine WX.s1 rfl rfl ?_
        refine WX.s1 rfl rfl ?_
        refine WX.if_ rfl (fun c_9 => ?_) (fun c_9 => absurd (by decide) c_9)
        clear c_9
        refine WX.s1 rfl rfl ?_
        refine WX.s1 rfl rfl ?_
        refine WX.icmp rfl (fun c_63 => ?_) (fun c_63 => absurd (by decide) c_63)
        clear c_63
        refine WX.s1 rfl rfl ?_
        refine WX.s1 rfl rfl ?_
        refine WX.s1 (S' := [.int (((3 + (-1)) + (-1)) + 0)]) rfl rfl ?_
        refine WX.s1 (L' := [(0, .ref m), (1, .int (nI dd)), (2, .int 0), (3, .int ((3 + (-1)) + (-1))), (4, .int (((3 + (-1)) + (-1)) + 0)), (5, .int (((3 + (-1)) + (-1)) + 0))]) rfl rfl ?_
        refine WX.s1 rfl rfl ?_
        refine WX.s1 rfl rfl ?_
        refine WX.icmp rfl (fun c_78 => ?_) (fun c_78 => absurd (by decide) c_78)
        clear c_78
        refine WX.s1 rfl rfl ?_
        refine WX.s1 rfl rfl ?_
        refine WX.icmp rfl (fun c_96 => ?_) (fun c_96 => absurd (by decide) c_96)
        clear c_96
        refine WX.s1 rfl rfl ?_
        refine WX.mget rfl hm M_h rfl ?_
        refine WX.s1 rfl rfl ?_
        refine WX.s1 rfl rfl ?_
        refine WX.mast (c := 11) rfl hm M_h (by decide) (by decide) (by decide) (by decide) (by unfold vp_in; decide) (fun h117n7 A117n7 e_A117n7 M_h117n7 frh117n7 => ?_)
        try dsimp only at e_A117n7
        have FR_h117n7 := FR_h.ztr frh117n7
        clear M_h FR_h frh117n7
        refine WX.s1 rfl rfl ?_
        have et : tnum l dd 0 = (1, lcome l dd 1) := by
          unfold tnum
          rw [if_pos m_1]
        rw [show (((3 + (-1)) + (-1)) : Int32) = nI 1 from by decide]
        have kq := kk h117n7 A117n7 FR_h117n7 M_h117n7 ?_ ?_
        · rw [et] at kq; exact WX.ret1 rfl kq
        · exact (Fa.rf.ast e_A117n7)
        · rw [et]
          unfold LatM lcome
          simp only [e_A117n7, upA, upd, cl0, cl1, cl2]
          simp [upd, g0, g1, g2]
  · skip
    have n_45 : l.2.2 = dd := (nI_eq (a := l.2.2) (b := dd) (by omega) (by omega)).mp (Classical.not_not.mp c_45)
    have m_3 : lval l (3 + 0) = dd := n_45
    clear n_45 c_45
    refine WX.s1 rfl rfl ?_
    refine WX.s1 rfl rfl ?_
    refine WX.s1 (L' := [(0, .ref m), (1, .int (nI dd)), (2, .int 0), (3, .int 3), (4, .int 3), (5, .int (3 + 0))]) rfl rfl ?_
    refine WX.s1 (L' := [(0, .ref m), (1, .int (nI dd)), (2, .int 0), (3, .int 3), (4, .int (3 + (-1))), (5, .int (3 + 0))]) rfl rfl ?_
    refine WX.s1 rfl rfl ?_
    refine WX.s1 rfl rfl ?_
    refine WX.if_ rfl (fun c_9 => absurd c_9 (by decide)) (fun c_9 => ?_)
    clear c_9
    refine WX.s1 rfl rfl ?_
    refine WX.s1 rfl rfl ?_
    refine WX.s1 (S' := [.int ((3 + (-1)) + 0)]) rfl rfl ?_
    refine WX.s1 (L' := [(0, .ref m), (1, .int (nI dd)), (2, .int 0), (3, .int 3), (4, .int (3 + (-1))), (5, .int ((3 + (-1)) + 0))]) rfl rfl ?_
    refine WX.s1 rfl rfl ?_
    refine WX.s1 rfl rfl ?_
    refine WX.icmp rfl (fun c_21 => ?_) (fun c_21 => absurd (by decide) c_21)
    clear c_21
    refine WX.s1 rfl rfl ?_
    refine WX.mget rfl hm M_h rfl ?_
    refine WX.s1 rfl rfl ?_
    refine WX.s1 rfl rfl ?_
    refine WX.s1 (S' := [.int (((3 + (-1)) + 0) - 1), .ref (m + 11)]) rfl rfl ?_
    refine WX.mald (c := 11) rfl hm M_h (by decide) (by decide) (by decide) (by decide) (by unfold vp_in; decide) ?_
    rw [show (((3 + (-1)) + 0) - 1 : Int32).toNatClampNeg = 1 from by decide, g1]
    refine WX.s1 rfl rfl ?_
    refine WX.icmp rfl (fun c_45 => ?_) (fun c_45 => ?_)
    · skip
      have n_45 : ¬ l.2.1 = dd := fun zz_ => c_45 ((nI_eq (a := l.2.1) (b := dd) (by omega) (by omega)).mpr zz_)
      have m_2 : ¬ lval l (2 + 0) = dd := n_45
      clear n_45 c_45
      refine WX.s1 rfl rfl ?_
      refine WX.s1 (L' := [(0, .ref m), (1, .int (nI dd)), (2, .int 0), (3, .int 3), (4, .int (3 + (-1))), (5, .int ((3 + (-1)) + 0))]) rfl rfl ?_
      refine WX.s1 (L' := [(0, .ref m), (1, .int (nI dd)), (2, .int 0), (3, .int 3), (4, .int ((3 + (-1)) + (-1))), (5, .int ((3 + (-1)) + 0))]) rfl rfl ?_
      refine WX.s1 rfl rfl ?_
      refine WX.s1 rfl rfl ?_
      refine WX.if_ rfl (fun c_9 => absurd c_9 (by decide)) (fun c_9 => ?_)
      clear c_9
      refine WX.s1 rfl rfl ?_
      refine WX.s1 rfl rfl ?_
      refine WX.s1 (S' := [.int (((3 + (-1)) + (-1)) + 0)]) rfl rfl ?_
      refine WX.s1 (L' := [(0, .ref m), (1, .int (nI dd)), (2, .int 0), (3, .int 3), (4, .int ((3 + (-1)) + (-1))), (5, .int (((3 + (-1)) + (-1)) + 0))]) rfl rfl ?_
      refine WX.s1 rfl rfl ?_
      refine WX.s1 rfl rfl ?_
      refine WX.icmp rfl (fun c_21 => ?_) (fun c_21 => absurd (by decide) c_21)
      clear c_21
      refine WX.s1 rfl rfl ?_
      refine WX.mget rfl hm M_h rfl ?_
      refine WX.s1 rfl rfl ?_
      refine WX.s1 rfl rfl ?_
      refine WX.s1 (S' := [.int ((((3 + (-1)) + (-1)) + 0) - 1), .ref (m + 11)]) rfl rfl ?_
      refine WX.mald (c := 11) rfl hm M_h (by decide) (by decide) (by decide) (by decide) (by unfold vp_in; decide) ?_
      rw [show ((((3 + (-1)) + (-1)) + 0) - 1 : Int32).toNatClampNeg = 0 from by decide, g0]
      refine WX.s1 rfl rfl ?_
      refine WX.icmp rfl (fun c_45 => ?_) (fun c_45 => ?_)
      · skip
        have n_45 : ¬ l.1 = dd := fun zz_ => c_45 ((nI_eq (a := l.1) (b := dd) (by omega) (by omega)).mpr zz_)
        have m_1 : ¬ lval l (1 + 0) = dd := n_45
        clear n_45 c_45
        refine WX.s1 rfl rfl ?_
        refine WX.s1 (L' := [(0, .ref m), (1, .int (nI dd)), (2, .int 0), (3, .int 3), (4, .int ((3 + (-1)) + (-1))), (5, .int (((3 + (-1)) + (-1)) + 0))]) rfl rfl ?_
        refine WX.s1 (L' := [(0, .ref m), (1, .int (nI dd)), (2, .int 0), (3, .int 3), (4, .int (((3 + (-1)) + (-1)) + (-1))), (5, .int (((3 + (-1)) + (-1)) + 0))]) rfl rfl ?_
        refine WX.s1 rfl rfl ?_
        refine WX.s1 rfl rfl ?_
        refine WX.if_ rfl (fun c_9 => ?_) (fun c_9 => absurd (by decide) c_9)
        clear c_9
        refine WX.s1 rfl rfl ?_
        refine WX.s1 rfl rfl ?_
        refine WX.icmp rfl (fun c_63 => ?_) (fun c_63 => absurd (by decide) c_63)
        clear c_63
        refine WX.s1 rfl rfl ?_
        refine WX.s1 rfl rfl ?_
        refine WX.s1 (S' := [.int (3 + 0)]) rfl rfl ?_
        refine WX.s1 (L' := [(0, .ref m), (1, .int (nI dd)), (2, .int 0), (3, .int 3), (4, .int (3 + 0)), (5, .int (((3 + (-1)) + (-1)) + 0))]) rfl rfl ?_
        refine WX.s1 rfl rfl ?_
        refine WX.s1 rfl rfl ?_
        refine WX.icmp rfl (fun c_78 => absurd c_78 (by decide)) (fun c_78 => ?_)
        clear c_78
        refine WX.s1 rfl rfl ?_
        refine WX.mget rfl hm M_h rfl ?_
        refine WX.s1 rfl rfl ?_
        refine WX.s1 rfl rfl ?_
        refine WX.mget rfl hm M_h rfl ?_
        refine WX.s1 rfl rfl ?_
        refine WX.mald (c := 11) rfl hm M_h (by decide) (by decide) (by decide) (by decide) (by unfold vp_in; decide) ?_
        refine WX.mast (c := 11) rfl hm M_h (by decide) (by decide) (by decide) (by decide) (by unfold vp_in; decide) (fun h92n8 A92n8 e_A92n8 M_h92n8 frh92n8 => ?_)
        try dsimp only at e_A92n8
        have FR_h92n8 := FR_h.ztr frh92n8
        clear M_h FR_h frh92n8
        refine WX.s1 rfl rfl ?_
        refine WX.s1 rfl rfl ?_
        refine WX.icmp rfl (fun c_96 => absurd c_96 (by decide)) (fun c_96 => ?_)
        clear c_96
        refine WX.s1 rfl rfl ?_
        refine WX.mget rfl hm M_h92n8 rfl ?_
        refine WX.s1 rfl rfl ?_
        refine WX.s1 rfl rfl ?_
        refine WX.mget rfl hm M_h92n8 rfl ?_
        refine WX.s1 rfl rfl ?_
        refine WX.mald (c := 11) rfl hm M_h92n8 (by decide) (by decide) (by decide) (by decide) (by unfold vp_in; decide) ?_
        refine WX.mast (c := 11) rfl hm M_h92n8 (by decide) (by decide) (by decide) (by decide) (by unfold vp_in; decide) (fun h110n9 A110n9 e_A110n9 M_h110n9 frh110n9 => ?_)
        try dsimp only at e_A110n9
        have FR_h110n9 := FR_h92n8.ztr frh110n9
        clear M_h92n8 FR_h92n8 frh110n9
        refine WX.s1 rfl rfl ?_
        refine WX.mget rfl hm M_h110n9 rfl ?_
        refine WX.s1 rfl rfl ?_
        refine WX.s1 rfl rfl ?_
        refine WX.mast (c := 11) rfl hm M_h110n9 (by decide) (by decide) (by decide) (by decide) (by unfold vp_in; decide) (fun h117n10 A117n10 e_A117n10 M_h117n10 frh117n10 => ?_)
        try dsimp only at e_A117n10
        have FR_h117n10 := FR_h110n9.ztr frh117n10
        clear M_h110n9 FR_h110n9 frh117n10
        refine WX.s1 rfl rfl ?_
        have et : tnum l dd 0 = (3, lcome l dd 3) := by
          unfold tnum
          rw [if_neg m_1, if_neg m_2, if_pos m_3]
        rw [show (3 : Int32) = nI 3 from by decide]
        have kq := kk h117n10 A117n10 FR_h117n10 M_h117n10 ?_ ?_
        · rw [et] at kq; exact WX.ret1 rfl kq
        · exact (((Fa.rf.ast e_A92n8).ast e_A110n9).ast e_A117n10)
        · rw [et]
          unfold LatM lcome
          simp only [e_A117n10, e_A110n9, e_A92n8, upA, upd, cl0, cl1, cl2]
          simp [upd, g0, g1, g2]
      · skip
        have n_45 : l.1 = dd := (nI_eq (a := l.1) (b := dd) (by omega) (by omega)).mp (Classical.not_not.mp c_45)
        have m_1 : lval l (1 + 0) = dd := n_45
        clear n_45 c_45
        refine WX.s1 rfl rfl ?_
        refine WX.s1 rfl rfl ?_
        refine WX.s1 (L' := [(0, .ref m), (1, .int (nI dd)), (2, .int 0), (3, .int ((3 + (-1)) + (-1))), (4, .int ((3 + (-1)) + (-1))), (5, .int (((3 + (-1)) + (-1)) + 0))]) rfl rfl ?_
        refine WX.s1 (L' := [(0, .ref m), (1, .int (nI dd)), (2, .int 0), (3, .int ((3 + (-1)) + (-1))), (4, .int (((3 + (-1)) + (-1)) + (-1))), (5, .int (((3 + (-1)) + (-1)) + 0))]) rfl rfl ?_
        refine WX.s1 rfl rfl ?_
        refine WX.s1 rfl rfl ?_
        refine WX.if_ rfl (fun c_9 => ?_) (fun c_9 => absurd (by decide) c_9)
        clear c_9
        refine WX.s1 rfl rfl ?_
        refine WX.s1 rfl rfl ?_
        refine WX.icmp rfl (fun c_63 => ?_) (fun c_63 => absurd (by decide) c_63)
        clear c_63
        refine WX.s1 rfl rfl ?_
        refine WX.s1 rfl rfl ?_
        refine WX.s1 (S' := [.int (((3 + (-1)) + (-1)) + 0)]) rfl rfl ?_
        refine WX.s1 (L' := [(0, .ref m), (1, .int (nI dd)), (2, .int 0), (3, .int ((3 + (-1)) + (-1))), (4, .int (((3 + (-1)) + (-1)) + 0)), (5, .int (((3 + (-1)) + (-1)) + 0))]) rfl rfl ?_
        refine WX.s1 rfl rfl ?_
        refine WX.s1 rfl rfl ?_
        refine WX.icmp rfl (fun c_78 => ?_) (fun c_78 => absurd (by decide) c_78)
        clear c_78
        refine WX.s1 rfl rfl ?_
        refine WX.s1 rfl rfl ?_
        refine WX.icmp rfl (fun c_96 => ?_) (fun c_96 => absurd (by decide) c_96)
        clear c_96
        refine WX.s1 rfl rfl ?_
        refine WX.mget rfl hm M_h rfl ?_
        refine WX.s1 rfl rfl ?_
        refine WX.s1 rfl rfl ?_
        refine WX.mast (c := 11) rfl hm M_h (by decide) (by decide) (by decide) (by decide) (by unfold vp_in; decide) (fun h117n11 A117n11 e_A117n11 M_h117n11 frh117n11 => ?_)
        try dsimp only at e_A117n11
        have FR_h117n11 := FR_h.ztr frh117n11
        clear M_h FR_h frh117n11
        refine WX.s1 rfl rfl ?_
        have et : tnum l dd 0 = (1, lcome l dd 1) := by
          unfold tnum
          rw [if_pos m_1]
        rw [show (((3 + (-1)) + (-1)) : Int32) = nI 1 from by decide]
        have kq := kk h117n11 A117n11 FR_h117n11 M_h117n11 ?_ ?_
        · rw [et] at kq; exact WX.ret1 rfl kq
        · exact (Fa.rf.ast e_A117n11)
        · rw [et]
          unfold LatM lcome
          simp only [e_A117n11, upA, upd, cl0, cl1, cl2]
          simp [upd, g0, g1, g2]
    · skip
      have n_45 : l.2.1 = dd := (nI_eq (a := l.2.1) (b := dd) (by omega) (by omega)).mp (Classical.not_not.mp c_45)
      have m_2 : lval l (2 + 0) = dd := n_45
      clear n_45 c_45
      refine WX.s1 rfl rfl ?_
      refine WX.s1 rfl rfl ?_
      refine WX.s1 (L' := [(0, .ref m), (1, .int (nI dd)), (2, .int 0), (3, .int (3 + (-1))), (4, .int (3 + (-1))), (5, .int ((3 + (-1)) + 0))]) rfl rfl ?_
      refine WX.s1 (L' := [(0, .ref m), (1, .int (nI dd)), (2, .int 0), (3, .int (3 + (-1))), (4, .int ((3 + (-1)) + (-1))), (5, .int ((3 + (-1)) + 0))]) rfl rfl ?_
      refine WX.s1 rfl rfl ?_
      refine WX.s1 rfl rfl ?_
      refine WX.if_ rfl (fun c_9 => absurd c_9 (by decide)) (fun c_9 => ?_)
      clear c_9
      refine WX.s1 rfl rfl ?_
      refine WX.s1 rfl rfl ?_
      refine WX.s1 (S' := [.int (((3 + (-1)) + (-1)) + 0)]) rfl rfl ?_
      refine WX.s1 (L' := [(0, .ref m), (1, .int (nI dd)), (2, .int 0), (3, .int (3 + (-1))), (4, .int ((3 + (-1)) + (-1))), (5, .int (((3 + (-1)) + (-1)) + 0))]) rfl rfl ?_
      refine WX.s1 rfl rfl ?_
      refine WX.s1 rfl rfl ?_
      refine WX.icmp rfl (fun c_21 => ?_) (fun c_21 => absurd (by decide) c_21)
      clear c_21
      refine WX.s1 rfl rfl ?_
      refine WX.mget rfl hm M_h rfl ?_
      refine WX.s1 rfl rfl ?_
      refine WX.s1 rfl rfl ?_
      refine WX.s1 (S' := [.int ((((3 + (-1)) + (-1)) + 0) - 1), .ref (m + 11)]) rfl rfl ?_
      refine WX.mald (c := 11) rfl hm M_h (by decide) (by decide) (by decide) (by decide) (by unfold vp_in; decide) ?_
      rw [show ((((3 + (-1)) + (-1)) + 0) - 1 : Int32).toNatClampNeg = 0 from by decide, g0]
      refine WX.s1 rfl rfl ?_
      refine WX.icmp rfl (fun c_45 => ?_) (fun c_45 => ?_)
      · skip
        have n_45 : ¬ l.1 = dd := fun zz_ => c_45 ((nI_eq (a := l.1) (b := dd) (by omega) (by omega)).mpr zz_)
        have m_1 : ¬ lval l (1 + 0) = dd := n_45
        clear n_45 c_45
        refine WX.s1 rfl rfl ?_
        refine WX.s1 (L' := [(0, .ref m), (1, .int (nI dd)), (2, .int 0), (3, .int (3 + (-1))), (4, .int ((3 + (-1)) + (-1))), (5, .int (((3 + (-1)) + (-1)) + 0))]) rfl rfl ?_
        refine WX.s1 (L' := [(0, .ref m), (1, .int (nI dd)), (2, .int 0), (3, .int (3 + (-1))), (4, .int (((3 + (-1)) + (-1)) + (-1))), (5, .int (((3 + (-1)) + (-1)) + 0))]) rfl rfl ?_
        refine WX.s1 rfl rfl ?_
        refine WX.s1 rfl rfl ?_
        refine WX.if_ rfl (fun c_9 => ?_) (fun c_9 => absurd (by decide) c_9)
        clear c_9
        refine WX.s1 rfl rfl ?_
        refine WX.s1 rfl rfl ?_
        refine WX.icmp rfl (fun c_63 => ?_) (fun c_63 => absurd (by decide) c_63)
        clear c_63
        refine WX.s1 rfl rfl ?_
        refine WX.s1 rfl rfl ?_
        refine WX.s1 (S' := [.int ((3 + (-1)) + 0)]) rfl rfl ?_
        refine WX.s1 (L' := [(0, .ref m), (1, .int (nI dd)), (2, .int 0), (3, .int (3 + (-1))), (4, .int ((3 + (-1)) + 0)), (5, .int (((3 + (-1)) + (-1)) + 0))]) rfl rfl ?_
        refine WX.s1 rfl rfl ?_
        refine WX.s1 rfl rfl ?_
        refine WX.icmp rfl (fun c_78 => ?_) (fun c_78 => absurd (by decide) c_78)
        clear c_78
        refine WX.s1 rfl rfl ?_
        refine WX.s1 rfl rfl ?_
        refine WX.icmp rfl (fun c_96 => absurd c_96 (by decide)) (fun c_96 => ?_)
        clear c_96
        refine WX.s1 rfl rfl ?_
        refine WX.mget rfl hm M_h rfl ?_
        refine WX.s1 rfl rfl ?_
        refine WX.s1 rfl rfl ?_
        refine WX.mget rfl hm M_h rfl ?_
        refine WX.s1 rfl rfl ?_
        refine WX.mald (c := 11) rfl hm M_h (by decide) (by decide) (by decide) (by decide) (by unfold vp_in; decide) ?_
        refine WX.mast (c := 11) rfl hm M_h (by decide) (by decide) (by decide) (by decide) (by unfold vp_in; decide) (fun h110n12 A110n12 e_A110n12 M_h110n12 frh110n12 => ?_)
        try dsimp only at e_A110n12
        have FR_h110n12 := FR_h.ztr frh110n12
        clear M_h FR_h frh110n12
        refine WX.s1 rfl rfl ?_
        refine WX.mget rfl hm M_h110n12 rfl ?_
        refine WX.s1 rfl rfl ?_
        refine WX.s1 rfl rfl ?_
        refine WX.mast (c := 11) rfl hm M_h110n12 (by decide) (by decide) (by decide) (by decide) (by unfold vp_in; decide) (fun h117n13 A117n13 e_A117n13 M_h117n13 frh117n13 => ?_)
        try dsimp only at e_A117n13
        have FR_h117n13 := FR_h110n12.ztr frh117n13
        clear M_h110n12 FR_h110n12 frh117n13
        refine WX.s1 rfl rfl ?_
        have et : tnum l dd 0 = (2, lcome l dd 2) := by
          unfold tnum
          rw [if_neg m_1, if_pos m_2]
        rw [show ((3 + (-1)) : Int32) = nI 2 from by decide]
        have kq := kk h117n13 A117n13 FR_h117n13 M_h117n13 ?_ ?_
        · rw [et] at kq; exact WX.ret1 rfl kq
        · exact ((Fa.rf.ast e_A110n12).ast e_A117n13)
        · rw [et]
          unfold LatM lcome
          simp only [e_A117n13, e_A110n12, upA, upd, cl0, cl1, cl2]
          simp [upd, g0, g1, g2]
      · skip
        have n_45 : l.1 = dd := (nI_eq (a := l.1) (b := dd) (by omega) (by omega)).mp (Classical.not_not.mp c_45)
        have m_1 : lval l (1 + 0) = dd := n_45
        clear n_45 c_45
        refine WX.s1 rfl rfl ?_
        refine WX.s1 rfl rfl ?_
        refine WX.s1 (L' := [(0, .ref m), (1, .int (nI dd)), (2, .int 0), (3, .int ((3 + (-1)) + (-1))), (4, .int ((3 + (-1)) + (-1))), (5, .int (((3 + (-1)) + (-1)) + 0))]) rfl rfl ?_
        refine WX.s1 (L' := [(0, .ref m), (1, .int (nI dd)), (2, .int 0), (3, .int ((3 + (-1)) + (-1))), (4, .int (((3 + (-1)) + (-1)) + (-1))), (5, .int (((3 + (-1)) + (-1)) + 0))]) rfl rfl ?_
        refine WX.s1 rfl rfl ?_
        refine WX.s1 rfl rfl ?_
        refine WX.if_ rfl (fun c_9 => ?_) (fun c_9 => absurd (by decide) c_9)
        clear c_9
        refine WX.s1 rfl rfl ?_
        refine WX.s1 rfl rfl ?_
        refine WX.icmp rfl (fun c_63 => ?_) (fun c_63 => absurd (by decide) c_63)
        clear c_63
        refine WX.s1 rfl rfl ?_
        refine WX.s1 rfl rfl ?_
        refine WX.s1 (S' := [.int (((3 + (-1)) + (-1)) + 0)]) rfl rfl ?_
        refine WX.s1 (L' := [(0, .ref m), (1, .int (nI dd)), (2, .int 0), (3, .int ((3 + (-1)) + (-1))), (4, .int (((3 + (-1)) + (-1)) + 0)), (5, .int (((3 + (-1)) + (-1)) + 0))]) rfl rfl ?_
        refine WX.s1 rfl rfl ?_
        refine WX.s1 rfl rfl ?_
        refine WX.icmp rfl (fun c_78 => ?_) (fun c_78 => absurd (by decide) c_78)
        clear c_78
        refine WX.s1 rfl rfl ?_
        refine WX.s1 rfl rfl ?_
        refine WX.icmp rfl (fun c_96 => ?_) (fun c_96 => absurd (by decide) c_96)
        clear c_96
        refine WX.s1 rfl rfl ?_
        refine WX.mget rfl hm M_h rfl ?_
        refine WX.s1 rfl rfl ?_
        refine WX.s1 rfl rfl ?_
        refine WX.mast (c := 11) rfl hm M_h (by decide) (by decide) (by decide) (by decide) (by unfold vp_in; decide) (fun h117n14 A117n14 e_A117n14 M_h117n14 frh117n14 => ?_)
        try dsimp only at e_A117n14
        have FR_h117n14 := FR_h.ztr frh117n14
        clear M_h FR_h frh117n14
        refine WX.s1 rfl rfl ?_
        have et : tnum l dd 0 = (1, lcome l dd 1) := by
          unfold tnum
          rw [if_pos m_1]
        rw [show (((3 + (-1)) + (-1)) : Int32) = nI 1 from by decide]
        have kq := kk h117n14 A117n14 FR_h117n14 M_h117n14 ?_ ?_
        · rw [et] at kq; exact WX.ret1 rfl kq
        · exact (Fa.rf.ast e_A117n14)
        · rw [et]
          unfold LatM lcome
          simp only [e_A117n14, upA, upd, cl0, cl1, cl2]
          simp [upd, g0, g1, g2]
set_option maxRecDepth 20000 in
theorem m_num1 {d n s : Nat} {h : Nat → aE} {m : Nat} {I : Nat → Int32} {AR : Nat → Nat → Int32} {LN : Nat → Int64} {l : Nat × Nat × Nat} {dd : Nat} (hm : m + 43 < n) (M_h : MAt h m I AR LN) (hl : LatOk l) (h1 : 1 ≤ dd) (h2 : dd ≤ 16000) (hA : LatM AR l)  {Ψ : Option Value → aH → Prop} (kk : ∀ h' A', Fr h h' (inM m) → MAt h' m I A' LN → Fa AR A' 11 → LatM A' (tnum l dd 1).2 → Ψ (some (.int (nI (tnum l dd 1).1))) (n, s, h')) : WO (mM (d + 1)) 163 [.ref m, .int (nI dd), .int 1] (n, s, h) Ψ := by
  refine WO.of (Nat.le_of_ble_eq_true rfl) ?_
  have FR_h : Fr h h (inM m) := Fr.rf
  have FI_I : Fi I I (fun f => f = 40) := Fi.rf
  obtain ⟨g0, g1, g2⟩ := hA
  obtain ⟨b1, b2, b3, b4, b5, b6⟩ := hl
  show WX (lk tX12_number) (mM d) Ψ 0 [(0, .ref m), (1, .int (nI dd)), (2, .int 1)] [] (n, s, h)
  refine WX.s1 rfl rfl ?_
  refine WX.s1 rfl rfl ?_
  refine WX.s1 (S' := [.int ((nI dd) + 3)]) rfl rfl ?_
  rw [show ((nI dd) + 3) = nI (dd + 3) from nI_add dd 3]
  refine WX.s1 (L' := [(0, .ref m), (1, .int (nI dd)), (2, .int 1), (3, .int (nI (dd + 3)))]) rfl rfl ?_
  refine WX.s1 rfl rfl ?_
  refine WX.s1 (L' := [(0, .ref m), (1, .int (nI dd)), (2, .int 1), (3, .int (nI (dd + 3))), (4, .int 3)]) rfl rfl ?_
  refine WX.s1 rfl rfl ?_
  refine WX.if_ rfl (fun c_9 => absurd c_9 (by decide)) (fun c_9 => ?_)
  clear c_9
  refine WX.s1 rfl rfl ?_
  refine WX.s1 rfl rfl ?_
  refine WX.s1 (S' := [.int (3 + 1)]) rfl rfl ?_
  refine WX.s1 (L' := [(0, .ref m), (1, .int (nI dd)), (2, .int 1), (3, .int (nI (dd + 3))), (4, .int 3), (5, .int (3 + 1))]) rfl rfl ?_
  refine WX.s1 rfl rfl ?_
  refine WX.s1 rfl rfl ?_
  refine WX.icmp rfl (fun c_21 => absurd c_21 (by decide)) (fun c_21 => ?_)
  clear c_21
  refine WX.s1 rfl rfl ?_
  refine WX.mget rfl hm M_h rfl ?_
  refine WX.s1 rfl rfl ?_
  refine WX.mald (c := 11) rfl hm M_h (by decide) (by decide) (by decide) (by decide) (by unfold vp_in; decide) ?_
  rw [show (0 : Int32).toNatClampNeg = 0 from rfl, g0]
  refine WX.s1 rfl rfl ?_
  refine WX.s1 (S' := [.int ((nI l.1) - 1)]) rfl rfl ?_
  rw [nI_pm1 b1]
  refine WX.s1 rfl rfl ?_
  refine WX.s1 rfl rfl ?_
  refine WX.icmp rfl (fun c_45 => ?_) (fun c_45 => ?_)
  · skip
    have n_45 : ¬ (l.1 - 1) = dd := fun zz_ => c_45 ((nI_eq (a := l.1 - 1) (b := dd) (by omega) (by omega)).mpr zz_)
    have m_3 : ¬ lval l (3 + 1) = dd := n_45
    clear n_45 c_45
    refine WX.s1 rfl rfl ?_
    refine WX.s1 (L' := [(0, .ref m), (1, .int (nI dd)), (2, .int 1), (3, .int (nI (dd + 3))), (4, .int 3), (5, .int (3 + 1))]) rfl rfl ?_
    refine WX.s1 (L' := [(0, .ref m), (1, .int (nI dd)), (2, .int 1), (3, .int (nI (dd + 3))), (4, .int (3 + (-1))), (5, .int (3 + 1))]) rfl rfl ?_
    refine WX.s1 rfl rfl ?_
    refine WX.s1 rfl rfl ?_
    refine WX.if_ rfl (fun c_9 => absurd c_9 (by decide)) (fun c_9 => ?_)
    clear c_9
    refine WX.s1 rfl rfl ?_
    refine WX.s1 rfl rfl ?_
    refine WX.s1 (S' := [.int ((3 + (-1)) + 1)]) rfl rfl ?_
    refine WX.s1 (L' := [(0, .ref m), (1, .int (nI dd)), (2, .int 1), (3, .int (nI (dd + 3))), (4, .int (3 + (-1))), (5, .int ((3 + (-1)) + 1))]) rfl rfl ?_
    refine WX.s1 rfl rfl ?_
    refine WX.s1 rfl rfl ?_
    refine WX.icmp rfl (fun c_21 => ?_) (fun c_21 => absurd (by decide) c_21)
    clear c_21
    refine WX.s1 rfl rfl ?_
    refine WX.mget rfl hm M_h rfl ?_
    refine WX.s1 rfl rfl ?_
    refine WX.s1 rfl rfl ?_
    refine WX.s1 (S' := [.int (((3 + (-1)) + 1) - 1), .ref (m + 11)]) rfl rfl ?_
    refine WX.mald (c := 11) rfl hm M_h (by decide) (by decide) (by decide) (by decide) (by unfold vp_in; decide) ?_
    rw [show (((3 + (-1)) + 1) - 1 : Int32).toNatClampNeg = 2 from by decide, g2]
    refine WX.s1 rfl rfl ?_
    refine WX.icmp rfl (fun c_45 => ?_) (fun c_45 => ?_)
    · skip
      have n_45 : ¬ l.2.2 = dd := fun zz_ => c_45 ((nI_eq (a := l.2.2) (b := dd) (by omega) (by omega)).mpr zz_)
      have m_2 : ¬ lval l (2 + 1) = dd := n_45
      clear n_45 c_45
      refine WX.s1 rfl rfl ?_
      refine WX.s1 (L' := [(0, .ref m), (1, .int (nI dd)), (2, .int 1), (3, .int (nI (dd + 3))), (4, .int (3 + (-1))), (5, .int ((3 + (-1)) + 1))]) rfl rfl ?_
      refine WX.s1 (L' := [(0, .ref m), (1, .int (nI dd)), (2, .int 1), (3, .int (nI (dd + 3))), (4, .int ((3 + (-1)) + (-1))), (5, .int ((3 + (-1)) + 1))]) rfl rfl ?_
      refine WX.s1 rfl rfl ?_
      refine WX.s1 rfl rfl ?_
      refine WX.if_ rfl (fun c_9 => absurd c_9 (by decide)) (fun c_9 => ?_)
      clear c_9
      refine WX.s1 rfl rfl ?_
      refine WX.s1 rfl rfl ?_
      refine WX.s1 (S' := [.int (((3 + (-1)) + (-1)) + 1)]) rfl rfl ?_
      refine WX.s1 (L' := [(0, .ref m), (1, .int (nI dd)), (2, .int 1), (3, .int (nI (dd + 3))), (4, .int ((3 + (-1)) + (-1))), (5, .int (((3 + (-1)) + (-1)) + 1))]) rfl rfl ?_
      refine WX.s1 rfl rfl ?_
      refine WX.s1 rfl rfl ?_
      refine WX.icmp rfl (fun c_21 => ?_) (fun c_21 => absurd (by decide) c_21)
      clear c_21
      refine WX.s1 rfl rfl ?_
      refine WX.mget rfl hm M_h rfl ?_
      refine WX.s1 rfl rfl ?_
      refine WX.s1 rfl rfl ?_
      refine WX.s1 (S' := [.int ((((3 + (-1)) + (-1)) + 1) - 1), .ref (m + 11)]) rfl rfl ?_
      refine WX.mald (c := 11) rfl hm M_h (by decide) (by decide) (by decide) (by decide) (by unfold vp_in; decide) ?_
      rw [show ((((3 + (-1)) + (-1)) + 1) - 1 : Int32).toNatClampNeg = 1 from by decide, g1]
      refine WX.s1 rfl rfl ?_
      refine WX.icmp rfl (fun c_45 => ?_) (fun c_45 => ?_)
      · skip
        have n_45 : ¬ l.2.1 = dd := fun zz_ => c_45 ((nI_eq (a := l.2.1) (b := dd) (by omega) (by omega)).mpr zz_)
        have m_1 : ¬ lval l (1 + 1) = dd := n_45
        clear n_45 c_45
        refine WX.s1 rfl rfl ?_
        refine WX.s1 (L' := [(0, .ref m), (1, .int (nI dd)), (2, .int 1), (3, .int (nI (dd + 3))), (4, .int ((3 + (-1)) + (-1))), (5, .int (((3 + (-1)) + (-1)) + 1))]) rfl rfl ?_
        refine WX.s1 (L' := [(0, .ref m), (1, .int (nI dd)), (2, .int 1), (3, .int (nI (dd + 3))), (4, .int (((3 + (-1)) + (-1)) + (-1))), (5, .int (((3 + (-1)) + (-1)) + 1))]) rfl rfl ?_
        refine WX.s1 rfl rfl ?_
        refine WX.s1 rfl rfl ?_
        refine WX.if_ rfl (fun c_9 => ?_) (fun c_9 => absurd (by decide) c_9)
        clear c_9
        refine WX.s1 rfl rfl ?_
        refine WX.s1 rfl rfl ?_
        refine WX.icmp rfl (fun c_63 => absurd c_63 (fun zz_ => absurd ((nI_leI (a := dd + 3) (b := 3) (by omega) (by omega)).mp zz_) (Nat.not_le.mpr (by omega)))) (fun c_63 => ?_)
        clear c_63
        refine WX.s1 rfl rfl ?_
        refine WX.s1 rfl rfl ?_
        refine WX.s1 (L' := [(0, .ref m), (1, .int (nI dd)), (2, .int 1), (3, .int (nI (dd + 3))), (4, .int 5), (5, .int (((3 + (-1)) + (-1)) + 1))]) rfl rfl ?_
        refine WX.s1 rfl rfl ?_
        refine WX.s1 rfl rfl ?_
        refine WX.icmp rfl (fun c_78 => absurd c_78 (by decide)) (fun c_78 => ?_)
        clear c_78
        refine WX.s1 rfl rfl ?_
        refine WX.mget rfl hm M_h rfl ?_
        refine WX.s1 rfl rfl ?_
        refine WX.s1 rfl rfl ?_
        refine WX.mget rfl hm M_h rfl ?_
        refine WX.s1 rfl rfl ?_
        refine WX.mald (c := 11) rfl hm M_h (by decide) (by decide) (by decide) (by decide) (by unfold vp_in; decide) ?_
        refine WX.mast (c := 11) rfl hm M_h (by decide) (by decide) (by decide) (by decide) (by unfold vp_in; decide) (fun h92n1 A92n1 e_A92n1 M_h92n1 frh92n1 => ?_)
        try dsimp only at e_A92n1
        have FR_h92n1 := FR_h.ztr frh92n1
        clear M_h FR_h frh92n1
        refine WX.s1 rfl rfl ?_
        refine WX.s1 rfl rfl ?_
        refine WX.icmp rfl (fun c_96 => absurd c_96 (by decide)) (fun c_96 => ?_)
        clear c_96
        refine WX.s1 rfl rfl ?_
        refine WX.mget rfl hm M_h92n1 rfl ?_
        refine WX.s1 rfl rfl ?_
        refine WX.s1 rfl rfl ?_
        refine WX.mget rfl hm M_h92n1 rfl ?_
        refine WX.s1 rfl rfl ?_
        refine WX.mald (c := 11) rfl hm M_h92n1 (by decide) (by decide) (by decide) (by decide) (by unfold vp_in; decide) ?_
        refine WX.mast (c := 11) rfl hm M_h92n1 (by decide) (by decide) (by decide) (by decide) (by unfold vp_in; decide) (fun h110n2 A110n2 e_A110n2 M_h110n2 frh110n2 => ?_)
        try dsimp only at e_A110n2
        have FR_h110n2 := FR_h92n1.ztr frh110n2
        clear M_h92n1 FR_h92n1 frh110n2
        refine WX.s1 rfl rfl ?_
        refine WX.mget rfl hm M_h110n2 rfl ?_
        refine WX.s1 rfl rfl ?_
        refine WX.s1 rfl rfl ?_
        refine WX.mast (c := 11) rfl hm M_h110n2 (by decide) (by decide) (by decide) (by decide) (by unfold vp_in; decide) (fun h117n3 A117n3 e_A117n3 M_h117n3 frh117n3 => ?_)
        try dsimp only at e_A117n3
        have FR_h117n3 := FR_h110n2.ztr frh117n3
        clear M_h110n2 FR_h110n2 frh117n3
        refine WX.s1 rfl rfl ?_
        have et : tnum l dd 1 = (dd + 3, lcome l dd 3) := by
          unfold tnum
          rw [if_neg m_1, if_neg m_2, if_neg m_3]
        have kq := kk h117n3 A117n3 FR_h117n3 M_h117n3 ?_ ?_
        · rw [et] at kq; exact WX.ret1 rfl kq
        · exact (((Fa.rf.ast e_A92n1).ast e_A110n2).ast e_A117n3)
        · rw [et]
          unfold LatM lcome
          simp only [e_A117n3, e_A110n2, e_A92n1, upA, upd, cl0, cl1, cl2]
          simp [upd, g0, g1, g2]
      · skip
        have n_45 : l.2.1 = dd := (nI_eq (a := l.2.1) (b := dd) (by omega) (by omega)).mp (Classical.not_not.mp c_45)
        have m_1 : lval l (1 + 1) = dd := n_45
        clear n_45 c_45
        refine WX.s1 rfl rfl ?_
        refine WX.s1 rfl rfl ?_
        refine WX.s1 (L' := [(0, .ref m), (1, .int (nI dd)), (2, .int 1), (3, .int ((3 + (-1)) + (-1))), (4, .int ((3 + (-1)) + (-1))), (5, .int (((3 + (-1)) + (-1)) + 1))]) rfl rfl ?_
        refine WX.s1 (L' := [(0, .ref m), (1, .int (nI dd)), (2, .int 1), (3, .int ((3 + (-1)) + (-1))), (4, .int (((3 + (-1)) + (-1)) + (-1))), (5, .int (((3 + (-1)) + (-1)) + 1))]) rfl rfl ?_
        refine WX.s1 rfl rfl ?_
        refine WX.s1 rfl rfl ?_
        refine WX.if_ rfl (fun c_9 => ?_) (fun c_9 => absurd (by decide) c_9)
        clear c_9
        refine WX.s1 rfl rfl ?_
        refine WX.s1 rfl rfl ?_
        refine WX.icmp rfl (fun c_63 => ?_) (fun c_63 => absurd (by decide) c_63)
        clear c_63
        refine WX.s1 rfl rfl ?_
        refine WX.s1 rfl rfl ?_
        refine WX.s1 (S' := [.int (((3 + (-1)) + (-1)) + 1)]) rfl rfl ?_
        refine WX.s1 (L' := [(0, .ref m), (1, .int (nI dd)), (2, .int 1), (3, .int ((3 + (-1)) + (-1))), (4, .int (((3 + (-1)) + (-1)) + 1)), (5, .int (((3 + (-1)) + (-1)) + 1))]) rfl rfl ?_
        refine WX.s1 rfl rfl ?_
        refine WX.s1 rfl rfl ?_
        refine WX.icmp rfl (fun c_78 => ?_) (fun c_78 => absurd (by decide) c_78)
        clear c_78
        refine WX.s1 rfl rfl ?_
        refine WX.s1 rfl rfl ?_
        refine WX.icmp rfl (fun c_96 => absurd c_96 (by decide)) (fun c_96 => ?_)
        clear c_96
        refine WX.s1 rfl rfl ?_
        refine WX.mget rfl hm M_h rfl ?_
        refine WX.s1 rfl rfl ?_
        refine WX.s1 rfl rfl ?_
        refine WX.mget rfl hm M_h rfl ?_
        refine WX.s1 rfl rfl ?_
        refine WX.mald (c := 11) rfl hm M_h (by decide) (by decide) (by decide) (by decide) (by unfold vp_in; decide) ?_
        refine WX.mast (c := 11) rfl hm M_h (by decide) (by decide) (by decide) (by decide) (by unfold vp_in; decide) (fun h110n4 A110n4 e_A110n4 M_h110n4 frh110n4 => ?_)
        try dsimp only at e_A110n4
        have FR_h110n4 := FR_h.ztr frh110n4
        clear M_h FR_h frh110n4
        refine WX.s1 rfl rfl ?_
        refine WX.mget rfl hm M_h110n4 rfl ?_
        refine WX.s1 rfl rfl ?_
        refine WX.s1 rfl rfl ?_
        refine WX.mast (c := 11) rfl hm M_h110n4 (by decide) (by decide) (by decide) (by decide) (by unfold vp_in; decide) (fun h117n5 A117n5 e_A117n5 M_h117n5 frh117n5 => ?_)
        try dsimp only at e_A117n5
        have FR_h117n5 := FR_h110n4.ztr frh117n5
        clear M_h110n4 FR_h110n4 frh117n5
        refine WX.s1 rfl rfl ?_
        have et : tnum l dd 1 = (1, lcome l dd 2) := by
          unfold tnum
          rw [if_pos m_1]
        rw [show (((3 + (-1)) + (-1)) : Int32) = nI 1 from by decide]
        have kq := kk h117n5 A117n5 FR_h117n5 M_h117n5 ?_ ?_
        · rw [et] at kq; exact WX.ret1 rfl kq
        · exact ((Fa.rf.ast e_A110n4).ast e_A117n5)
        · rw [et]
          unfold LatM lcome
          simp only [e_A117n5, e_A110n4, upA, upd, cl0, cl1, cl2]
          simp [upd, g0, g1, g2]
    · skip
      have n_45 : l.2.2 = dd := (nI_eq (a := l.2.2) (b := dd) (by omega) (by omega)).mp (Classical.not_not.mp c_45)
      have m_2 : lval l (2 + 1) = dd := n_45
      clear n_45 c_45
      refine WX.s1 rfl rfl ?_
      refine WX.s1 rfl rfl ?_
      refine WX.s1 (L' := [(0, .ref m), (1, .int (nI dd)), (2, .int 1), (3, .int (3 + (-1))), (4, .int (3 + (-1))), (5, .int ((3 + (-1)) + 1))]) rfl rfl ?_
      refine WX.s1 (L' := [(0, .ref m), (1, .int (nI dd)), (2, .int 1), (3, .int (3 + (-1))), (4, .int ((3 + (-1)) + (-1))), (5, .int ((3 + (-1)) + 1))]) rfl rfl ?_
      refine WX.s1 rfl rfl ?_
      refine WX.s1 rfl rfl ?_
      refine WX.if_ rfl (fun c_9 => absurd c_9 (by decide)) (fun c_9 => ?_)
      clear c_9
      refine WX.s1 rfl rfl ?_
      refine WX.s1 rfl rfl ?_
      refine WX.s1 (S' := [.int (((3 + (-1)) + (-1)) + 1)]) rfl rfl ?_
      refine WX.s1 (L' := [(0, .ref m), (1, .int (nI dd)), (2, .int 1), (3, .int (3 + (-1))), (4, .int ((3 + (-1)) + (-1))), (5, .int (((3 + (-1)) + (-1)) + 1))]) rfl rfl ?_
      refine WX.s1 rfl rfl ?_
      refine WX.s1 rfl rfl ?_
      refine WX.icmp rfl (fun c_21 => ?_) (fun c_21 => absurd (by decide) c_21)
      clear c_21
      refine WX.s1 rfl rfl ?_
      refine WX.mget rfl hm M_h rfl ?_
      refine WX.s1 rfl rfl ?_
      refine WX.s1 rfl rfl ?_
      refine WX.s1 (S' := [.int ((((3 + (-1)) + (-1)) + 1) - 1), .ref (m + 11)]) rfl rfl ?_
      refine WX.mald (c := 11) rfl hm M_h (by decide) (by decide) (by decide) (by decide) (by unfold vp_in; decide) ?_
      rw [show ((((3 + (-1)) + (-1)) + 1) - 1 : Int32).toNatClampNeg = 1 from by decide, g1]
      refine WX.s1 rfl rfl ?_
      refine WX.icmp rfl (fun c_45 => ?_) (fun c_45 => ?_)
      · skip
        have n_45 : ¬ l.2.1 = dd := fun zz_ => c_45 ((nI_eq (a := l.2.1) (b := dd) (by omega) (by omega)).mpr zz_)
        have m_1 : ¬ lval l (1 + 1) = dd := n_45
        clear n_45 c_45
        refine WX.s1 rfl rfl ?_
        refine WX.s1 (L' := [(0, .ref m), (1, .int (nI dd)), (2, .int 1), (3, .int (3 + (-1))), (4, .int ((3 + (-1)) + (-1))), (5, .int (((3 + (-1)) + (-1)) + 1))]) rfl rfl ?_
        refine WX.s1 (L' := [(0, .ref m), (1, .int (nI dd)), (2, .int 1), (3, .int (3 + (-1))), (4, .int (((3 + (-1)) + (-1)) + (-1))), (5, .int (((3 + (-1)) + (-1)) + 1))]) rfl rfl ?_
        refine WX.s1 rfl rfl ?_
        refine WX.s1 rfl rfl ?_
        refine WX.if_ rfl (fun c_9 => ?_) (fun c_9 => absurd (by decide) c_9)
        clear c_9
        refine WX.s1 rfl rfl ?_
        refine WX.s1 rfl rfl ?_
        refine WX.icmp rfl (fun c_63 => ?_) (fun c_63 => absurd (by decide) c_63)
        clear c_63
        refine WX.s1 rfl rfl ?_
        refine WX.s1 rfl rfl ?_
        refine WX.s1 (S' := [.int ((3 + (-1)) + 1)]) rfl rfl ?_
        refine WX.s1 (L' := [(0, .ref m), (1, .int (nI dd)), (2, .int 1), (3, .int (3 + (-1))), (4, .int ((3 + (-1)) + 1)), (5, .int (((3 + (-1)) + (-1)) + 1))]) rfl rfl ?_
        refine WX.s1 rfl rfl ?_
        refine WX.s1 rfl rfl ?_
        refine WX.icmp rfl (fun c_78 => absurd c_78 (by decide)) (fun c_78 => ?_)
        clear c_78
        refine WX.s1 rfl rfl ?_
        refine WX.mget rfl hm M_h rfl ?_
        refine WX.s1 rfl rfl ?_
        refine WX.s1 rfl rfl ?_
        refine WX.mget rfl hm M_h rfl ?_
        refine WX.s1 rfl rfl ?_
        refine WX.mald (c := 11) rfl hm M_h (by decide) (by decide) (by decide) (by decide) (by unfold vp_in; decide) ?_
        refine WX.mast (c := 11) rfl hm M_h (by decide) (by decide) (by decide) (by decide) (by unfold vp_in; decide) (fun h92n6 A92n6 e_A92n6 M_h92n6 frh92n6 => ?_)
        try dsimp only at e_A92n6
        have FR_h92n6 := FR_h.ztr frh92n6
        clear M_h FR_h frh92n6
        refine WX.s1 rfl rfl ?_
        refine WX.s1 rfl rfl ?_
        refine WX.icmp rfl (fun c_96 => absurd c_96 (by decide)) (fun c_96 => ?_)
        clear c_96
        refine WX.s1 rfl rfl ?_
        refine WX.mget rfl hm M_h92n6 rfl ?_
        refine WX.s1 rfl rfl ?_
        refine WX.s1 rfl rfl ?_
        refine WX.mget rfl hm M_h92n6 rfl ?_
        refine WX.s1 rfl rfl ?_
        refine WX.mald (c := 11) rfl hm M_h92n6 (by decide) (by decide) (by decide) (by decide) (by unfold vp_in; decide) ?_
        refine WX.mast (c := 11) rfl hm M_h92n6 (by decide) (by decide) (by decide) (by decide) (by unfold vp_in; decide) (fun h110n7 A110n7 e_A110n7 M_h110n7 frh110n7 => ?_)
        try dsimp only at e_A110n7
        have FR_h110n7 := FR_h92n6.ztr frh110n7
        clear M_h92n6 FR_h92n6 frh110n7
        refine WX.s1 rfl rfl ?_
        refine WX.mget rfl hm M_h110n7 rfl ?_
        refine WX.s1 rfl rfl ?_
        refine WX.s1 rfl rfl ?_
        refine WX.mast (c := 11) rfl hm M_h110n7 (by decide) (by decide) (by decide) (by decide) (by unfold vp_in; decide) (fun h117n8 A117n8 e_A117n8 M_h117n8 frh117n8 => ?_)
        try dsimp only at e_A117n8
        have FR_h117n8 := FR_h110n7.ztr frh117n8
        clear M_h110n7 FR_h110n7 frh117n8
        refine WX.s1 rfl rfl ?_
        have et : tnum l dd 1 = (2, lcome l dd 3) := by
          unfold tnum
          rw [if_neg m_1, if_pos m_2]
        rw [show ((3 + (-1)) : Int32) = nI 2 from by decide]
        have kq := kk h117n8 A117n8 FR_h117n8 M_h117n8 ?_ ?_
        · rw [et] at kq; exact WX.ret1 rfl kq
        · exact (((Fa.rf.ast e_A92n6).ast e_A110n7).ast e_A117n8)
        · rw [et]
          unfold LatM lcome
          simp only [e_A117n8, e_A110n7, e_A92n6, upA, upd, cl0, cl1, cl2]
          simp [upd, g0, g1, g2]
      · skip
        have n_45 : l.2.1 = dd := (nI_eq (a := l.2.1) (b := dd) (by omega) (by omega)).mp (Classical.not_not.mp c_45)
        have m_1 : lval l (1 + 1) = dd := n_45
        clear n_45 c_45
        refine WX.s1 rfl rfl ?_
        refine WX.s1 rfl rfl ?_
        refine WX.s1 (L' := [(0, .ref m), (1, .int (nI dd)), (2, .int 1), (3, .int ((3 + (-1)) + (-1))), (4, .int ((3 + (-1)) + (-1))), (5, .int (((3 + (-1)) + (-1)) + 1))]) rfl rfl ?_
        refine WX.s1 (L' := [(0, .ref m), (1, .int (nI dd)), (2, .int 1), (3, .int ((3 + (-1)) + (-1))), (4, .int (((3 + (-1)) + (-1)) + (-1))), (5, .int (((3 + (-1)) + (-1)) + 1))]) rfl rfl ?_
        refine WX.s1 rfl rfl ?_
        refine WX.s1 rfl rfl ?_
        refine WX.if_ rfl (fun c_9 => ?_) (fun c_9 => absurd (by decide) c_9)
        clear c_9
        refine WX.s1 rfl rfl ?_
        refine WX.s1 rfl rfl ?_
        refine WX.icmp rfl (fun c_63 => ?_) (fun c_63 => absurd (by decide) c_63)
        clear c_63
        refine WX.s1 rfl rfl ?_
        refine WX.s1 rfl rfl ?_
        refine WX.s1 (S' := [.int (((3 + (-1)) + (-1)) + 1)]) rfl rfl ?_
        refine WX.s1 (L' := [(0, .ref m), (1, .int (nI dd)), (2, .int 1), (3, .int ((3 + (-1)) + (-1))), (4, .int (((3 + (-1)) + (-1)) + 1)), (5, .int (((3 + (-1)) + (-1)) + 1))]) rfl rfl ?_
        refine WX.s1 rfl rfl ?_
        refine WX.s1 rfl rfl ?_
        refine WX.icmp rfl (fun c_78 => ?_) (fun c_78 => absurd (by decide) c_78)
        clear c_78
        refine WX.s1 rfl rfl ?_
        refine WX.s1 rfl rfl ?_
        refine WX.icmp rfl (fun c_96 => absurd c_96 (by decide)) (fun c_96 => ?_)
        clear c_96
        refine WX.s1 rfl rfl ?_
        refine WX.mget rfl hm M_h rfl ?_
        refine WX.s1 rfl rfl ?_
        refine WX.s1 rfl rfl ?_
        refine WX.mget rfl hm M_h rfl ?_
        refine WX.s1 rfl rfl ?_
        refine WX.mald (c := 11) rfl hm M_h (by decide) (by decide) (by decide) (by decide) (by unfold vp_in; decide) ?_
        refine WX.mast (c := 11) rfl hm M_h (by decide) (by decide) (by decide) (by decide) (by unfold vp_in; decide) (fun h110n9 A110n9 e_A110n9 M_h110n9 frh110n9 => ?_)
        try dsimp only at e_A110n9
        have FR_h110n9 := FR_h.ztr frh110n9
        clear M_h FR_h frh110n9
        refine WX.s1 rfl rfl ?_
        refine WX.mget rfl hm M_h110n9 rfl ?_
        refine WX.s1 rfl rfl ?_
        refine WX.s1 rfl rfl ?_
        refine WX.mast (c := 11) rfl hm M_h110n9 (by decide) (by decide) (by decide) (by decide) (by unfold vp_in; decide) (fun h117n10 A117n10 e_A117n10 M_h117n10 frh117n10 => ?_)
        try dsimp only at e_A117n10
        have FR_h117n10 := FR_h110n9.ztr frh117n10
        clear M_h110n9 FR_h110n9 frh117n10
        refine WX.s1 rfl rfl ?_
        have et : tnum l dd 1 = (1, lcome l dd 2) := by
          unfold tnum
          rw [if_pos m_1]
        rw [show (((3 + (-1)) + (-1)) : Int32) = nI 1 from by decide]
        have kq := kk h117n10 A117n10 FR_h117n10 M_h117n10 ?_ ?_
        · rw [et] at kq; exact WX.ret1 rfl kq
        · exact ((Fa.rf.ast e_A110n9).ast e_A117n10)
        · rw [et]
          unfold LatM lcome
          simp only [e_A117n10, e_A110n9, upA, upd, cl0, cl1, cl2]
          simp [upd, g0, g1, g2]
  · skip
    have n_45 : (l.1 - 1) = dd := (nI_eq (a := l.1 - 1) (b := dd) (by omega) (by omega)).mp (Classical.not_not.mp c_45)
    have m_3 : lval l (3 + 1) = dd := n_45
    clear n_45 c_45
    refine WX.s1 rfl rfl ?_
    refine WX.s1 rfl rfl ?_
    refine WX.s1 (L' := [(0, .ref m), (1, .int (nI dd)), (2, .int 1), (3, .int 3), (4, .int 3), (5, .int (3 + 1))]) rfl rfl ?_
    refine WX.s1 (L' := [(0, .ref m), (1, .int (nI dd)), (2, .int 1), (3, .int 3), (4, .int (3 + (-1))), (5, .int (3 + 1))]) rfl rfl ?_
    refine WX.s1 rfl rfl ?_
    refine WX.s1 rfl rfl ?_
    refine WX.if_ rfl (fun c_9 => absurd c_9 (by decide)) (fun c_9 => ?_)
    clear c_9
    refine WX.s1 rfl rfl ?_
    refine WX.s1 rfl rfl ?_
    refine WX.s1 (S' := [.int ((3 + (-1)) + 1)]) rfl rfl ?_
    refine WX.s1 (L' := [(0, .ref m), (1, .int (nI dd)), (2, .int 1), (3, .int 3), (4, .int (3 + (-1))), (5, .int ((3 + (-1)) + 1))]) rfl rfl ?_
    refine WX.s1 rfl rfl ?_
    refine WX.s1 rfl rfl ?_
    refine WX.icmp rfl (fun c_21 => ?_) (fun c_21 => absurd (by decide) c_21)
    clear c_21
    refine WX.s1 rfl rfl ?_
    refine WX.mget rfl hm M_h rfl ?_
    refine WX.s1 rfl rfl ?_
    refine WX.s1 rfl rfl ?_
    refine WX.s1 (S' := [.int (((3 + (-1)) + 1) - 1), .ref (m + 11)]) rfl rfl ?_
    refine WX.mald (c := 11) rfl hm M_h (by decide) (by decide) (by decide) (by decide) (by unfold vp_in; decide) ?_
    rw [show (((3 + (-1)) + 1) - 1 : Int32).toNatClampNeg = 2 from by decide, g2]
    refine WX.s1 rfl rfl ?_
    refine WX.icmp rfl (fun c_45 => ?_) (fun c_45 => ?_)
    · skip
      have n_45 : ¬ l.2.2 = dd := fun zz_ => c_45 ((nI_eq (a := l.2.2) (b := dd) (by omega) (by omega)).mpr zz_)
      have m_2 : ¬ lval l (2 + 1) = dd := n_45
      clear n_45 c_45
      refine WX.s1 rfl rfl ?_
      refine WX.s1 (L' := [(0, .ref m), (1, .int (nI dd)), (2, .int 1), (3, .int 3), (4, .int (3 + (-1))), (5, .int ((3 + (-1)) + 1))]) rfl rfl ?_
      refine WX.s1 (L' := [(0, .ref m), (1, .int (nI dd)), (2, .int 1), (3, .int 3), (4, .int ((3 + (-1)) + (-1))), (5, .int ((3 + (-1)) + 1))]) rfl rfl ?_
      refine WX.s1 rfl rfl ?_
      refine WX.s1 rfl rfl ?_
      refine WX.if_ rfl (fun c_9 => absurd c_9 (by decide)) (fun c_9 => ?_)
      clear c_9
      refine WX.s1 rfl rfl ?_
      refine WX.s1 rfl rfl ?_
      refine WX.s1 (S' := [.int (((3 + (-1)) + (-1)) + 1)]) rfl rfl ?_
      refine WX.s1 (L' := [(0, .ref m), (1, .int (nI dd)), (2, .int 1), (3, .int 3), (4, .int ((3 + (-1)) + (-1))), (5, .int (((3 + (-1)) + (-1)) + 1))]) rfl rfl ?_
      refine WX.s1 rfl rfl ?_
      refine WX.s1 rfl rfl ?_
      refine WX.icmp rfl (fun c_21 => ?_) (fun c_21 => absurd (by decide) c_21)
      clear c_21
      refine WX.s1 rfl rfl ?_
      refine WX.mget rfl hm M_h rfl ?_
      refine WX.s1 rfl rfl ?_
      refine WX.s1 rfl rfl ?_
      refine WX.s1 (S' := [.int ((((3 + (-1)) + (-1)) + 1) - 1), .ref (m + 11)]) rfl rfl ?_
      refine WX.mald (c := 11) rfl hm M_h (by decide) (by decide) (by decide) (by decide) (by unfold vp_in; decide) ?_
      rw [show ((((3 + (-1)) + (-1)) + 1) - 1 : Int32).toNatClampNeg = 1 from by decide, g1]
      refine WX.s1 rfl rfl ?_
      refine WX.icmp rfl (fun c_45 => ?_) (fun c_45 => ?_)
      · skip
        have n_45 : ¬ l.2.1 = dd := fun zz_ => c_45 ((nI_eq (a := l.2.1) (b := dd) (by omega) (by omega)).mpr zz_)
        have m_1 : ¬ lval l (1 + 1) = dd := n_45
        clear n_45 c_45
        refine WX.s1 rfl rfl ?_
        refine WX.s1 (L' := [(0, .ref m), (1, .int (nI dd)), (2, .int 1), (3, .int 3), (4, .int ((3 + (-1)) + (-1))), (5, .int (((3 + (-1)) + (-1)) + 1))]) rfl rfl ?_
        refine WX.s1 (L' := [(0, .ref m), (1, .int (nI dd)), (2, .int 1), (3, .int 3), (4, .int (((3 + (-1)) + (-1)) + (-1))), (5, .int (((3 + (-1)) + (-1)) + 1))]) rfl rfl ?_
        refine WX.s1 rfl rfl ?_
        refine WX.s1 rfl rfl ?_
        refine WX.if_ rfl (fun c_9 => ?_) (fun c_9 => absurd (by decide) c_9)
        clear c_9
        refine WX.s1 rfl rfl ?_
        refine WX.s1 rfl rfl ?_
        refine WX.icmp rfl (fun c_63 => ?_) (fun c_63 => absurd (by decide) c_63)
        clear c_63
        refine WX.s1 rfl rfl ?_
        refine WX.s1 rfl rfl ?_
        refine WX.s1 (S' := [.int (3 + 1)]) rfl rfl ?_
        refine WX.s1 (L' := [(0, .ref m), (1, .int (nI dd)), (2, .int 1), (3, .int 3), (4, .int (3 + 1)), (5, .int (((3 + (-1)) + (-1)) + 1))]) rfl rfl ?_
        refine WX.s1 rfl rfl ?_
        refine WX.s1 rfl rfl ?_
        refine WX.icmp rfl (fun c_78 => absurd c_78 (by decide)) (fun c_78 => ?_)
        clear c_78
        refine WX.s1 rfl rfl ?_
        refine WX.mget rfl hm M_h rfl ?_
        refine WX.s1 rfl rfl ?_
        refine WX.s1 rfl rfl ?_
        refine WX.mget rfl hm M_h rfl ?_
        refine WX.s1 rfl rfl ?_
        refine WX.mald (c := 11) rfl hm M_h (by decide) (by decide) (by decide) (by decide) (by unfold vp_in; decide) ?_
        refine WX.mast (c := 11) rfl hm M_h (by decide) (by decide) (by decide) (by decide) (by unfold vp_in; decide) (fun h92n11 A92n11 e_A92n11 M_h92n11 frh92n11 => ?_)
        try dsimp only at e_A92n11
        have FR_h92n11 := FR_h.ztr frh92n11
        clear M_h FR_h frh92n11
        refine WX.s1 rfl rfl ?_
        refine WX.s1 rfl rfl ?_
        refine WX.icmp rfl (fun c_96 => absurd c_96 (by decide)) (fun c_96 => ?_)
        clear c_96
        refine WX.s1 rfl rfl ?_
        refine WX.mget rfl hm M_h92n11 rfl ?_
        refine WX.s1 rfl rfl ?_
        refine WX.s1 rfl rfl ?_
        refine WX.mget rfl hm M_h92n11 rfl ?_
        refine WX.s1 rfl rfl ?_
        refine WX.mald (c := 11) rfl hm M_h92n11 (by decide) (by decide) (by decide) (by decide) (by unfold vp_in; decide) ?_
        refine WX.mast (c := 11) rfl hm M_h92n11 (by decide) (by decide) (by decide) (by decide) (by unfold vp_in; decide) (fun h110n12 A110n12 e_A110n12 M_h110n12 frh110n12 => ?_)
        try dsimp only at e_A110n12
        have FR_h110n12 := FR_h92n11.ztr frh110n12
        clear M_h92n11 FR_h92n11 frh110n12
        refine WX.s1 rfl rfl ?_
        refine WX.mget rfl hm M_h110n12 rfl ?_
        refine WX.s1 rfl rfl ?_
        refine WX.s1 rfl rfl ?_
        refine WX.mast (c := 11) rfl hm M_h110n12 (by decide) (by decide) (by decide) (by decide) (by unfold vp_in; decide) (fun h117n13 A117n13 e_A117n13 M_h117n13 frh117n13 => ?_)
        try dsimp only at e_A117n13
        have FR_h117n13 := FR_h110n12.ztr frh117n13
        clear M_h110n12 FR_h110n12 frh117n13
        refine WX.s1 rfl rfl ?_
        have et : tnum l dd 1 = (3, lcome l dd 4) := by
          unfold tnum
          rw [if_neg m_1, if_neg m_2, if_pos m_3]
        rw [show (3 : Int32) = nI 3 from by decide]
        have kq := kk h117n13 A117n13 FR_h117n13 M_h117n13 ?_ ?_
        · rw [et] at kq; exact WX.ret1 rfl kq
        · exact (((Fa.rf.ast e_A92n11).ast e_A110n12).ast e_A117n13)
        · rw [et]
          unfold LatM lcome
          simp only [e_A117n13, e_A110n12, e_A92n11, upA, upd, cl0, cl1, cl2]
          simp [upd, g0, g1, g2]
      · skip
        have n_45 : l.2.1 = dd := (nI_eq (a := l.2.1) (b := dd) (by omega) (by omega)).mp (Classical.not_not.mp c_45)
        have m_1 : lval l (1 + 1) = dd := n_45
        clear n_45 c_45
        refine WX.s1 rfl rfl ?_
        refine WX.s1 rfl rfl ?_
        refine WX.s1 (L' := [(0, .ref m), (1, .int (nI dd)), (2, .int 1), (3, .int ((3 + (-1)) + (-1))), (4, .int ((3 + (-1)) + (-1))), (5, .int (((3 + (-1)) + (-1)) + 1))]) rfl rfl ?_
        refine WX.s1 (L' := [(0, .ref m), (1, .int (nI dd)), (2, .int 1), (3, .int ((3 + (-1)) + (-1))), (4, .int (((3 + (-1)) + (-1)) + (-1))), (5, .int (((3 + (-1)) + (-1)) + 1))]) rfl rfl ?_
        refine WX.s1 rfl rfl ?_
        refine WX.s1 rfl rfl ?_
        refine WX.if_ rfl (fun c_9 => ?_) (fun c_9 => absurd (by decide) c_9)
        clear c_9
        refine WX.s1 rfl rfl ?_
        refine WX.s1 rfl rfl ?_
        refine WX.icmp rfl (fun c_63 => ?_) (fun c_63 => absurd (by decide) c_63)
        clear c_63
        refine WX.s1 rfl rfl ?_
        refine WX.s1 rfl rfl ?_
        refine WX.s1 (S' := [.int (((3 + (-1)) + (-1)) + 1)]) rfl rfl ?_
        refine WX.s1 (L' := [(0, .ref m), (1, .int (nI dd)), (2, .int 1), (3, .int ((3 + (-1)) + (-1))), (4, .int (((3 + (-1)) + (-1)) + 1)), (5, .int (((3 + (-1)) + (-1)) + 1))]) rfl rfl ?_
        refine WX.s1 rfl rfl ?_
        refine WX.s1 rfl rfl ?_
        refine WX.icmp rfl (fun c_78 => ?_) (fun c_78 => absurd (by decide) c_78)
        clear c_78
        refine WX.s1 rfl rfl ?_
        refine WX.s1 rfl rfl ?_
        refine WX.icmp rfl (fun c_96 => absurd c_96 (by decide)) (fun c_96 => ?_)
        clear c_96
        refine WX.s1 rfl rfl ?_
        refine WX.mget rfl hm M_h rfl ?_
        refine WX.s1 rfl rfl ?_
        refine WX.s1 rfl rfl ?_
        refine WX.mget rfl hm M_h rfl ?_
        refine WX.s1 rfl rfl ?_
        refine WX.mald (c := 11) rfl hm M_h (by decide) (by decide) (by decide) (by decide) (by unfold vp_in; decide) ?_
        refine WX.mast (c := 11) rfl hm M_h (by decide) (by decide) (by decide) (by decide) (by unfold vp_in; decide) (fun h110n14 A110n14 e_A110n14 M_h110n14 frh110n14 => ?_)
        try dsimp only at e_A110n14
        have FR_h110n14 := FR_h.ztr frh110n14
        clear M_h FR_h frh110n14
        refine WX.s1 rfl rfl ?_
        refine WX.mget rfl hm M_h110n14 rfl ?_
        refine WX.s1 rfl rfl ?_
        refine WX.s1 rfl rfl ?_
        refine WX.mast (c := 11) rfl hm M_h110n14 (by decide) (by decide) (by decide) (by decide) (by unfold vp_in; decide) (fun h117n15 A117n15 e_A117n15 M_h117n15 frh117n15 => ?_)
        try dsimp only at e_A117n15
        have FR_h117n15 := FR_h110n14.ztr frh117n15
        clear M_h110n14 FR_h110n14 frh117n15
        refine WX.s1 rfl rfl ?_
        have et : tnum l dd 1 = (1, lcome l dd 2) := by
          unfold tnum
          rw [if_pos m_1]
        rw [show (((3 + (-1)) + (-1)) : Int32) = nI 1 from by decide]
        have kq := kk h117n15 A117n15 FR_h117n15 M_h117n15 ?_ ?_
        · rw [et] at kq; exact WX.ret1 rfl kq
        · exact ((Fa.rf.ast e_A110n14).ast e_A117n15)
        · rw [et]
          unfold LatM lcome
          simp only [e_A117n15, e_A110n14, upA, upd, cl0, cl1, cl2]
          simp [upd, g0, g1, g2]
    · skip
      have n_45 : l.2.2 = dd := (nI_eq (a := l.2.2) (b := dd) (by omega) (by omega)).mp (Classical.not_not.mp c_45)
      have m_2 : lval l (2 + 1) = dd := n_45
      clear n_45 c_45
      refine WX.s1 rfl rfl ?_
      refine WX.s1 rfl rfl ?_
      refine WX.s1 (L' := [(0, .ref m), (1, .int (nI dd)), (2, .int 1), (3, .int (3 + (-1))), (4, .int (3 + (-1))), (5, .int ((3 + (-1)) + 1))]) rfl rfl ?_
      refine WX.s1 (L' := [(0, .ref m), (1, .int (nI dd)), (2, .int 1), (3, .int (3 + (-1))), (4, .int ((3 + (-1)) + (-1))), (5, .int ((3 + (-1)) + 1))]) rfl rfl ?_
      refine WX.s1 rfl rfl ?_
      refine WX.s1 rfl rfl ?_
      refine WX.if_ rfl (fun c_9 => absurd c_9 (by decide)) (fun c_9 => ?_)
      clear c_9
      refine WX.s1 rfl rfl ?_
      refine WX.s1 rfl rfl ?_
      refine WX.s1 (S' := [.int (((3 + (-1)) + (-1)) + 1)]) rfl rfl ?_
      refine WX.s1 (L' := [(0, .ref m), (1, .int (nI dd)), (2, .int 1), (3, .int (3 + (-1))), (4, .int ((3 + (-1)) + (-1))), (5, .int (((3 + (-1)) + (-1)) + 1))]) rfl rfl ?_
      refine WX.s1 rfl rfl ?_
      refine WX.s1 rfl rfl ?_
      refine WX.icmp rfl (fun c_21 => ?_) (fun c_21 => absurd (by decide) c_21)
      clear c_21
      refine WX.s1 rfl rfl ?_
      refine WX.mget rfl hm M_h rfl ?_
      refine WX.s1 rfl rfl ?_
      refine WX.s1 rfl rfl ?_
      refine WX.s1 (S' := [.int ((((3 + (-1)) + (-1)) + 1) - 1), .ref (m + 11)]) rfl rfl ?_
      refine WX.mald (c := 11) rfl hm M_h (by decide) (by decide) (by decide) (by decide) (by unfold vp_in; decide) ?_
      rw [show ((((3 + (-1)) + (-1)) + 1) - 1 : Int32).toNatClampNeg = 1 from by decide, g1]
      refine WX.s1 rfl rfl ?_
      refine WX.icmp rfl (fun c_45 => ?_) (fun c_45 => ?_)
      · skip
        have n_45 : ¬ l.2.1 = dd := fun zz_ => c_45 ((nI_eq (a := l.2.1) (b := dd) (by omega) (by omega)).mpr zz_)
        have m_1 : ¬ lval l (1 + 1) = dd := n_45
        clear n_45 c_45
        refine WX.s1 rfl rfl ?_
        refine WX.s1 (L' := [(0, .ref m), (1, .int (nI dd)), (2, .int 1), (3, .int (3 + (-1))), (4, .int ((3 + (-1)) + (-1))), (5, .int (((3 + (-1)) + (-1)) + 1))]) rfl rfl ?_
        refine WX.s1 (L' := [(0, .ref m), (1, .int (nI dd)), (2, .int 1), (3, .int (3 + (-1))), (4, .int (((3 + (-1)) + (-1)) + (-1))), (5, .int (((3 + (-1)) + (-1)) + 1))]) rfl rfl ?_
        refine WX.s1 rfl rfl ?_
        refine WX.s1 rfl rfl ?_
        refine WX.if_ rfl (fun c_9 => ?_) (fun c_9 => absurd (by decide) c_9)
        clear c_9
        refine WX.s1 rfl rfl ?_
        refine WX.s1 rfl rfl ?_
        refine WX.icmp rfl (fun c_63 => ?_) (fun c_63 => absurd (by decide) c_63)
        clear c_63
        refine WX.s1 rfl rfl ?_
        refine WX.s1 rfl rfl ?_
        refine WX.s1 (S' := [.int ((3 + (-1)) + 1)]) rfl rfl ?_
        refine WX.s1 (L' := [(0, .ref m), (1, .int (nI dd)), (2, .int 1), (3, .int (3 + (-1))), (4, .int ((3 + (-1)) + 1)), (5, .int (((3 + (-1)) + (-1)) + 1))]) rfl rfl ?_
        refine WX.s1 rfl rfl ?_
        refine WX.s1 rfl rfl ?_
        refine WX.icmp rfl (fun c_78 => absurd c_78 (by decide)) (fun c_78 => ?_)
        clear c_78
        refine WX.s1 rfl rfl ?_
        refine WX.mget rfl hm M_h rfl ?_
        refine WX.s1 rfl rfl ?_
        refine WX.s1 rfl rfl ?_
        refine WX.mget rfl hm M_h rfl ?_
        refine WX.s1 rfl rfl ?_
        refine WX.mald (c := 11) rfl hm M_h (by decide) (by decide) (by decide) (by decide) (by unfold vp_in; decide) ?_
        refine WX.mast (c := 11) rfl hm M_h (by decide) (by decide) (by decide) (by decide) (by unfold vp_in; decide) (fun h92n16 A92n16 e_A92n16 M_h92n16 frh92n16 => ?_)
        try dsimp only at e_A92n16
        have FR_h92n16 := FR_h.ztr frh92n16
        clear M_h FR_h frh92n16
        refine WX.s1 rfl rfl ?_
        refine WX.s1 rfl rfl ?_
        refine WX.icmp rfl (fun c_96 => absurd c_96 (by decide)) (fun c_96 => ?_)
        clear c_96
        refine WX.s1 rfl rfl ?_
        refine WX.mget rfl hm M_h92n16 rfl ?_
        refine WX.s1 rfl rfl ?_
        refine WX.s1 rfl rfl ?_
        refine WX.mget rfl hm M_h92n16 rfl ?_
        refine WX.s1 rfl rfl ?_
        refine WX.mald (c := 11) rfl hm M_h92n16 (by decide) (by decide) (by decide) (by decide) (by unfold vp_in; decide) ?_
        refine WX.mast (c := 11) rfl hm M_h92n16 (by decide) (by decide) (by decide) (by decide) (by unfold vp_in; decide) (fun h110n17 A110n17 e_A110n17 M_h110n17 frh110n17 => ?_)
        try dsimp only at e_A110n17
        have FR_h110n17 := FR_h92n16.ztr frh110n17
        clear M_h92n16 FR_h92n16 frh110n17
        refine WX.s1 rfl rfl ?_
        refine WX.mget rfl hm M_h110n17 rfl ?_
        refine WX.s1 rfl rfl ?_
        refine WX.s1 rfl rfl ?_
        refine WX.mast (c := 11) rfl hm M_h110n17 (by decide) (by decide) (by decide) (by decide) (by unfold vp_in; decide) (fun h117n18 A117n18 e_A117n18 M_h117n18 frh117n18 => ?_)
        try dsimp only at e_A117n18
        have FR_h117n18 := FR_h110n17.ztr frh117n18
        clear M_h110n17 FR_h110n17 frh117n18
        refine WX.s1 rfl rfl ?_
        have et : tnum l dd 1 = (2, lcome l dd 3) := by
          unfold tnum
          rw [if_neg m_1, if_pos m_2]
        rw [show ((3 + (-1)) : Int32) = nI 2 from by decide]
        have kq := kk h117n18 A117n18 FR_h117n18 M_h117n18 ?_ ?_
        · rw [et] at kq; exact WX.ret1 rfl kq
        · exact (((Fa.rf.ast e_A92n16).ast e_A110n17).ast e_A117n18)
        · rw [et]
          unfold LatM lcome
          simp only [e_A117n18, e_A110n17, e_A92n16, upA, upd, cl0, cl1, cl2]
          simp [upd, g0, g1, g2]
      · skip
        have n_45 : l.2.1 = dd := (nI_eq (a := l.2.1) (b := dd) (by omega) (by omega)).mp (Classical.not_not.mp c_45)
        have m_1 : lval l (1 + 1) = dd := n_45
        clear n_45 c_45
        refine WX.s1 rfl rfl ?_
        refine WX.s1 rfl rfl ?_
        refine WX.s1 (L' := [(0, .ref m), (1, .int (nI dd)), (2, .int 1), (3, .int ((3 + (-1)) + (-1))), (4, .int ((3 + (-1)) + (-1))), (5, .int (((3 + (-1)) + (-1)) + 1))]) rfl rfl ?_
        refine WX.s1 (L' := [(0, .ref m), (1, .int (nI dd)), (2, .int 1), (3, .int ((3 + (-1)) + (-1))), (4, .int (((3 + (-1)) + (-1)) + (-1))), (5, .int (((3 + (-1)) + (-1)) + 1))]) rfl rfl ?_
        refine WX.s1 rfl rfl ?_
        refine WX.s1 rfl rfl ?_
        refine WX.if_ rfl (fun c_9 => ?_) (fun c_9 => absurd (by decide) c_9)
        clear c_9
        refine WX.s1 rfl rfl ?_
        refine WX.s1 rfl rfl ?_
        refine WX.icmp rfl (fun c_63 => ?_) (fun c_63 => absurd (by decide) c_63)
        clear c_63
        refine WX.s1 rfl rfl ?_
        refine WX.s1 rfl rfl ?_
        refine WX.s1 (S' := [.int (((3 + (-1)) + (-1)) + 1)]) rfl rfl ?_
        refine WX.s1 (L' := [(0, .ref m), (1, .int (nI dd)), (2, .int 1), (3, .int ((3 + (-1)) + (-1))), (4, .int (((3 + (-1)) + (-1)) + 1)), (5, .int (((3 + (-1)) + (-1)) + 1))]) rfl rfl ?_
        refine WX.s1 rfl rfl ?_
        refine WX.s1 rfl rfl ?_
        refine WX.icmp rfl (fun c_78 => ?_) (fun c_78 => absurd (by decide) c_78)
        clear c_78
        refine WX.s1 rfl rfl ?_
        refine WX.s1 rfl rfl ?_
        refine WX.icmp rfl (fun c_96 => absurd c_96 (by decide)) (fun c_96 => ?_)
        clear c_96
        refine WX.s1 rfl rfl ?_
        refine WX.mget rfl hm M_h rfl ?_
        refine WX.s1 rfl rfl ?_
        refine WX.s1 rfl rfl ?_
        refine WX.mget rfl hm M_h rfl ?_
        refine WX.s1 rfl rfl ?_
        refine WX.mald (c := 11) rfl hm M_h (by decide) (by decide) (by decide) (by decide) (by unfold vp_in; decide) ?_
        refine WX.mast (c := 11) rfl hm M_h (by decide) (by decide) (by decide) (by decide) (by unfold vp_in; decide) (fun h110n19 A110n19 e_A110n19 M_h110n19 frh110n19 => ?_)
        try dsimp only at e_A110n19
        have FR_h110n19 := FR_h.ztr frh110n19
        clear M_h FR_h frh110n19
        refine WX.s1 rfl rfl ?_
        refine WX.mget rfl hm M_h110n19 rfl ?_
        refine WX.s1 rfl rfl ?_
        refine WX.s1 rfl rfl ?_
        refine WX.mast (c := 11) rfl hm M_h110n19 (by decide) (by decide) (by decide) (by decide) (by unfold vp_in; decide) (fun h117n20 A117n20 e_A117n20 M_h117n20 frh117n20 => ?_)
        try dsimp only at e_A117n20
        have FR_h117n20 := FR_h110n19.ztr frh117n20
        clear M_h110n19 FR_h110n19 frh117n20
        refine WX.s1 rfl rfl ?_
        have et : tnum l dd 1 = (1, lcome l dd 2) := by
          unfold tnum
          rw [if_pos m_1]
        rw [show (((3 + (-1)) + (-1)) : Int32) = nI 1 from by decide]
        have kq := kk h117n20 A117n20 FR_h117n20 M_h117n20 ?_ ?_
        · rw [et] at kq; exact WX.ret1 rfl kq
        · exact ((Fa.rf.ast e_A110n19).ast e_A117n20)
        · rw [et]
          unfold LatM lcome
          simp only [e_A117n20, e_A110n19, upA, upd, cl0, cl1, cl2]
          simp [upd, g0, g1, g2]
