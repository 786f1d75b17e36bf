/-! the class empties a start, forgets, learns -/
theorem StZ.rcv {n s : Nat} {h : Nat → aE} {q : Nat} {vl : List Value} (r : StZ h q) (hk : q < n) : rcv 10 (.ref q :: vl) (n, s, h) = true := rcv_ok hk r.1
theorem StX.rcv {n s : Nat} {h : Nat → aE} {q : Nat} {T : PkS} {vl : List Value} (r : StX h q T) (hk : q < n) : rcv 10 (.ref q :: vl) (n, s, h) = true := rcv_ok hk r.1
def fmd (l : List Nat) : Prop := 4 ≤ (l).length ∧ wdN l 0 4 = 3962610743
set_option maxRecDepth 20000 in
theorem x_emp0 {d n s : Nat} {h : Nat → aE} {q : Nat} {tp th o1 o2 o3 t1 t2 t3 : Int32} {tA : Nat → Int32} (hn : 190 ≤ n) (hq : q + 28 < 67) (F_h_q : h q = .inr (9, [.ref (q + 1), .ref (q + 3), .ref (q + 7), .ref (q + 14), .ref (q + 21), .ref (q + 28)])) (F_h__q_3_ : h (q + 3) = .inr (0, [.ref (q + 4), .ref (q + 5), .ref (q + 6), .int tp, .int th])) (F_h__q_7_ : h (q + 7) = .inr (8, [.int (nI 35), .ref (q + 8), .ref (q + 9), .ref (q + 10), .ref (q + 11), .ref (q + 12), .ref (q + 13), .int o1, .int t1])) (F_h__q_14_ : h (q + 14) = .inr (8, [.int (nI 31), .ref (q + 15), .ref (q + 16), .ref (q + 17), .ref (q + 18), .ref (q + 19), .ref (q + 20), .int o2, .int t2])) (F_h__q_21_ : h (q + 21) = .inr (8, [.int (nI 52), .ref (q + 22), .ref (q + 23), .ref (q + 24), .ref (q + 25), .ref (q + 26), .ref (q + 27), .int o3, .int t3])) (F_h__q_28_ : h (q + 28) = .inl (1, 3, .inl tA))  {Ψ : Option Value → aH → Prop} (kk : ∀ h' tA', Fr h h' (fun j => j = q + 3 ∨ j = q + 7 ∨ j = q + 14 ∨ j = q + 21 ∨ j = q + 28) → h' (q + 3) = .inr (0, [.ref (q + 4), .ref (q + 5), .ref (q + 6), .int tp, .int 0]) → h' (q + 7) = .inr (8, [.int (nI 35), .ref (q + 8), .ref (q + 9), .ref (q + 10), .ref (q + 11), .ref (q + 12), .ref (q + 13), .int o1, .int 0]) → h' (q + 14) = .inr (8, [.int (nI 31), .ref (q + 15), .ref (q + 16), .ref (q + 17), .ref (q + 18), .ref (q + 19), .ref (q + 20), .int o2, .int 0]) → h' (q + 21) = .inr (8, [.int (nI 52), .ref (q + 22), .ref (q + 23), .ref (q + 24), .ref (q + 25), .ref (q + 26), .ref (q + 27), .int o3, .int 0]) → h' (q + 28) = .inl (1, 3, .inl tA') → tA' 0 = nI 1 ∧ tA' 1 = nI 4 ∧ tA' 2 = nI 8 → Ψ none (n, s, h')) : WO (mM (d + 1)) 117 [.ref q] (n, s, h) Ψ := by
  refine WO.of (Nat.le_of_ble_eq_true rfl) ?_
  have FR_h : Fr h h (fun j => j = q + 3 ∨ j = q + 7 ∨ j = q + 14 ∨ j = q + 21 ∨ j = q + 28) := Fr.rf
  show WX (lk tX9_empty) (mM d) Ψ 0 [(0, .ref q)] [] (n, s, h)
  refine WX.s1 rfl rfl ?_
  refine WX.get1 (fs := [.ref (q + 1), .ref (q + 3), .ref (q + 7), .ref (q + 14), .ref (q + 21), .ref (q + 28)]) rfl (by omega) (F_h_q) rfl ?_
  refine WX.s1 rfl rfl ?_
  refine WX.put1 (fs := [.ref (q + 4), .ref (q + 5), .ref (q + 6), .int tp, .int th]) (fs' := [.ref (q + 4), .ref (q + 5), .ref (q + 6), .int tp, .int 0]) rfl (by omega) (F_h__q_3_) (Nat.le_of_ble_eq_true rfl) (rfl) rfl (fun h5 e_h5 => ?_)
  have F_h5_q : h5 q = .inr (9, [.ref (q + 1), .ref (q + 3), .ref (q + 7), .ref (q + 14), .ref (q + 21), .ref (q + 28)]) := by rw [e_h5, va_up_neq (by omega)]; exact F_h_q
  have F_h5__q_3_ : h5 (q + 3) = .inr (0, [.ref (q + 4), .ref (q + 5), .ref (q + 6), .int tp, .int 0]) := by rw [e_h5]; exact va_up_eq
  have F_h5__q_7_ : h5 (q + 7) = .inr (8, [.int (nI 35), .ref (q + 8), .ref (q + 9), .ref (q + 10), .ref (q + 11), .ref (q + 12), .ref (q + 13), .int o1, .int t1]) := by rw [e_h5, va_up_neq (by omega)]; exact F_h__q_7_
  have F_h5__q_14_ : h5 (q + 14) = .inr (8, [.int (nI 31), .ref (q + 15), .ref (q + 16), .ref (q + 17), .ref (q + 18), .ref (q + 19), .ref (q + 20), .int o2, .int t2]) := by rw [e_h5, va_up_neq (by omega)]; exact F_h__q_14_
  have F_h5__q_21_ : h5 (q + 21) = .inr (8, [.int (nI 52), .ref (q + 22), .ref (q + 23), .ref (q + 24), .ref (q + 25), .ref (q + 26), .ref (q + 27), .int o3, .int t3]) := by rw [e_h5, va_up_neq (by omega)]; exact F_h__q_21_
  have F_h5__q_28_ : h5 (q + 28) = .inl (1, 3, .inl tA) := by rw [e_h5, va_up_neq (by omega)]; exact F_h__q_28_
  have FR_h5 : Fr h h5 (fun j => j = q + 3 ∨ j = q + 7 ∨ j = q + 14 ∨ j = q + 21 ∨ j = q + 28) := (FR_h).zup e_h5 (by first | exact rfl | exact Or.inl rfl | exact Or.inr rfl | exact ⟨by decide, by decide⟩ | decide | omega)
  clear F_h_q F_h__q_3_ F_h__q_7_ F_h__q_14_ F_h__q_21_ F_h__q_28_ FR_h e_h5
  refine WX.s1 rfl rfl ?_
  refine WX.get1 (fs := [.ref (q + 1), .ref (q + 3), .ref (q + 7), .ref (q + 14), .ref (q + 21), .ref (q + 28)]) rfl (by omega) (F_h5_q) rfl ?_
  refine WX.s1 rfl rfl ?_
  refine WX.put1 (fs := [.int (nI 35), .ref (q + 8), .ref (q + 9), .ref (q + 10), .ref (q + 11), .ref (q + 12), .ref (q + 13), .int o1, .int t1]) (fs' := [.int (nI 35), .ref (q + 8), .ref (q + 9), .ref (q + 10), .ref (q + 11), .ref (q + 12), .ref (q + 13), .int o1, .int 0]) rfl (by omega) (F_h5__q_7_) (Nat.le_of_ble_eq_true rfl) (rfl) rfl (fun h13 e_h13 => ?_)
  have F_h13_q : h13 q = .inr (9, [.ref (q + 1), .ref (q + 3), .ref (q + 7), .ref (q + 14), .ref (q + 21), .ref (q + 28)]) := by rw [e_h13, va_up_neq (by omega)]; exact F_h5_q
  have F_h13__q_3_ : h13 (q + 3) = .inr (0, [.ref (q + 4), .ref (q + 5), .ref (q + 6), .int tp, .int 0]) := by rw [e_h13, va_up_neq (by omega)]; exact F_h5__q_3_
  have F_h13__q_7_ : h13 (q + 7) = .inr (8, [.int (nI 35), .ref (q + 8), .ref (q + 9), .ref (q + 10), .ref (q + 11), .ref (q + 12), .ref (q + 13), .int o1, .int 0]) := by rw [e_h13]; exact va_up_eq
  have F_h13__q_14_ : h13 (q + 14) = .inr (8, [.int (nI 31), .ref (q + 15), .ref (q + 16), .ref (q + 17), .ref (q + 18), .ref (q + 19), .ref (q + 20), .int o2, .int t2]) := by rw [e_h13, va_up_neq (by omega)]; exact F_h5__q_14_
  have F_h13__q_21_ : h13 (q + 21) = .inr (8, [.int (nI 52), .ref (q + 22), .ref (q + 23), .ref (q + 24), .ref (q + 25), .ref (q + 26), .ref (q + 27), .int o3, .int t3]) := by rw [e_h13, va_up_neq (by omega)]; exact F_h5__q_21_
  have F_h13__q_28_ : h13 (q + 28) = .inl (1, 3, .inl tA) := by rw [e_h13, va_up_neq (by omega)]; exact F_h5__q_28_
  have FR_h13 : Fr h h13 (fun j => j = q + 3 ∨ j = q + 7 ∨ j = q + 14 ∨ j = q + 21 ∨ j = q + 28) := (FR_h5).zup e_h13 (by first | exact rfl | exact Or.inl rfl | exact Or.inr rfl | exact ⟨by decide, by decide⟩ | decide | omega)
  clear F_h5_q F_h5__q_3_ F_h5__q_7_ F_h5__q_14_ F_h5__q_21_ F_h5__q_28_ FR_h5 e_h13
  refine WX.s1 rfl rfl ?_
  refine WX.get1 (fs := [.ref (q + 1), .ref (q + 3), .ref (q + 7), .ref (q + 14), .ref (q + 21), .ref (q + 28)]) rfl (by omega) (F_h13_q) rfl ?_
  refine WX.s1 rfl rfl ?_
  refine WX.put1 (fs := [.int (nI 31), .ref (q + 15), .ref (q + 16), .ref (q + 17), .ref (q + 18), .ref (q + 19), .ref (q + 20), .int o2, .int t2]) (fs' := [.int (nI 31), .ref (q + 15), .ref (q + 16), .ref (q + 17), .ref (q + 18), .ref (q + 19), .ref (q + 20), .int o2, .int 0]) rfl (by omega) (F_h13__q_14_) (Nat.le_of_ble_eq_true rfl) (rfl) rfl (fun h21 e_h21 => ?_)
  have F_h21_q : h21 q = .inr (9, [.ref (q + 1), .ref (q + 3), .ref (q + 7), .ref (q + 14), .ref (q + 21), .ref (q + 28)]) := by rw [e_h21, va_up_neq (by omega)]; exact F_h13_q
  have F_h21__q_3_ : h21 (q + 3) = .inr (0, [.ref (q + 4), .ref (q + 5), .ref (q + 6), .int tp, .int 0]) := by rw [e_h21, va_up_neq (by omega)]; exact F_h13__q_3_
  have F_h21__q_7_ : h21 (q + 7) = .inr (8, [.int (nI 35), .ref (q + 8), .ref (q + 9), .ref (q + 10), .ref (q + 11), .ref (q + 12), .ref (q + 13), .int o1, .int 0]) := by rw [e_h21, va_up_neq (by omega)]; exact F_h13__q_7_
  have F_h21__q_14_ : h21 (q + 14) = .inr (8, [.int (nI 31), .ref (q + 15), .ref (q + 16), .ref (q + 17), .ref (q + 18), .ref (q + 19), .ref (q + 20), .int o2, .int 0]) := by rw [e_h21]; exact va_up_eq
  have F_h21__q_21_ : h21 (q + 21) = .inr (8, [.int (nI 52), .ref (q + 22), .ref (q + 23), .ref (q + 24), .ref (q + 25), .ref (q + 26), .ref (q + 27), .int o3, .int t3]) := by rw [e_h21, va_up_neq (by omega)]; exact F_h13__q_21_
  have F_h21__q_28_ : h21 (q + 28) = .inl (1, 3, .inl tA) := by rw [e_h21, va_up_neq (by omega)]; exact F_h13__q_28_
  have FR_h21 : Fr h h21 (fun j => j = q + 3 ∨ j = q + 7 ∨ j = q + 14 ∨ j = q + 21 ∨ j = q + 28) := (FR_h13).zup e_h21 (by first | exact rfl | exact Or.inl rfl | exact Or.inr rfl | exact ⟨by decide, by decide⟩ | decide | omega)
  clear F_h13_q F_h13__q_3_ F_h13__q_7_ F_h13__q_14_ F_h13__q_21_ F_h13__q_28_ FR_h13 e_h21
  refine WX.s1 rfl rfl ?_
  refine WX.get1 (fs := [.ref (q + 1), .ref (q + 3), .ref (q + 7), .ref (q + 14), .ref (q + 21), .ref (q + 28)]) rfl (by omega) (F_h21_q) rfl ?_
  refine WX.s1 rfl rfl ?_
  refine WX.put1 (fs := [.int (nI 52), .ref (q + 22), .ref (q + 23), .ref (q + 24), .ref (q + 25), .ref (q + 26), .ref (q + 27), .int o3, .int t3]) (fs' := [.int (nI 52), .ref (q + 22), .ref (q + 23), .ref (q + 24), .ref (q + 25), .ref (q + 26), .ref (q + 27), .int o3, .int 0]) rfl (by omega) (F_h21__q_21_) (Nat.le_of_ble_eq_true rfl) (rfl) rfl (fun h29 e_h29 => ?_)
  have F_h29_q : h29 q = .inr (9, [.ref (q + 1), .ref (q + 3), .ref (q + 7), .ref (q + 14), .ref (q + 21), .ref (q + 28)]) := by rw [e_h29, va_up_neq (by omega)]; exact F_h21_q
  have F_h29__q_3_ : h29 (q + 3) = .inr (0, [.ref (q + 4), .ref (q + 5), .ref (q + 6), .int tp, .int 0]) := by rw [e_h29, va_up_neq (by omega)]; exact F_h21__q_3_
  have F_h29__q_7_ : h29 (q + 7) = .inr (8, [.int (nI 35), .ref (q + 8), .ref (q + 9), .ref (q + 10), .ref (q + 11), .ref (q + 12), .ref (q + 13), .int o1, .int 0]) := by rw [e_h29, va_up_neq (by omega)]; exact F_h21__q_7_
  have F_h29__q_14_ : h29 (q + 14) = .inr (8, [.int (nI 31), .ref (q + 15), .ref (q + 16), .ref (q + 17), .ref (q + 18), .ref (q + 19), .ref (q + 20), .int o2, .int 0]) := by rw [e_h29, va_up_neq (by omega)]; exact F_h21__q_14_
  have F_h29__q_21_ : h29 (q + 21) = .inr (8, [.int (nI 52), .ref (q + 22), .ref (q + 23), .ref (q + 24), .ref (q + 25), .ref (q + 26), .ref (q + 27), .int o3, .int 0]) := by rw [e_h29]; exact va_up_eq
  have F_h29__q_28_ : h29 (q + 28) = .inl (1, 3, .inl tA) := by rw [e_h29, va_up_neq (by omega)]; exact F_h21__q_28_
  have FR_h29 : Fr h h29 (fun j => j = q + 3 ∨ j = q + 7 ∨ j = q + 14 ∨ j = q + 21 ∨ j = q + 28) := (FR_h21).zup e_h29 (by first | exact rfl | exact Or.inl rfl | exact Or.inr rfl | exact ⟨by decide, by decide⟩ | decide | omega)
  clear F_h21_q F_h21__q_3_ F_h21__q_7_ F_h21__q_14_ F_h21__q_21_ F_h21__q_28_ FR_h21 e_h29
  refine WX.s1 rfl rfl ?_
  refine WX.get1 (fs := [.ref (q + 1), .ref (q + 3), .ref (q + 7), .ref (q + 14), .ref (q + 21), .ref (q + 28)]) rfl (by omega) (F_h29_q) rfl ?_
  refine WX.s1 rfl rfl ?_
  refine WX.s1 rfl rfl ?_
  refine WX.iastN rfl (by omega) (F_h29__q_28_) (by unfold vp_in; decide) (fun g38 h38 e_g38 e_h38 => ?_)
  try dsimp only at e_g38
  have F_h38_q : h38 q = .inr (9, [.ref (q + 1), .ref (q + 3), .ref (q + 7), .ref (q + 14), .ref (q + 21), .ref (q + 28)]) := by rw [e_h38, va_up_neq (by omega)]; exact F_h29_q
  have F_h38__q_3_ : h38 (q + 3) = .inr (0, [.ref (q + 4), .ref (q + 5), .ref (q + 6), .int tp, .int 0]) := by rw [e_h38, va_up_neq (by omega)]; exact F_h29__q_3_
  have F_h38__q_7_ : h38 (q + 7) = .inr (8, [.int (nI 35), .ref (q + 8), .ref (q + 9), .ref (q + 10), .ref (q + 11), .ref (q + 12), .ref (q + 13), .int o1, .int 0]) := by rw [e_h38, va_up_neq (by omega)]; exact F_h29__q_7_
  have F_h38__q_14_ : h38 (q + 14) = .inr (8, [.int (nI 31), .ref (q + 15), .ref (q + 16), .ref (q + 17), .ref (q + 18), .ref (q + 19), .ref (q + 20), .int o2, .int 0]) := by rw [e_h38, va_up_neq (by omega)]; exact F_h29__q_14_
  have F_h38__q_21_ : h38 (q + 21) = .inr (8, [.int (nI 52), .ref (q + 22), .ref (q + 23), .ref (q + 24), .ref (q + 25), .ref (q + 26), .ref (q + 27), .int o3, .int 0]) := by rw [e_h38, va_up_neq (by omega)]; exact F_h29__q_21_
  have F_h38__q_28_ : h38 (q + 28) = .inl (1, 3, .inl g38) := by rw [e_h38]; exact va_up_eq
  have FR_h38 : Fr h h38 (fun j => j = q + 3 ∨ j = q + 7 ∨ j = q + 14 ∨ j = q + 21 ∨ j = q + 28) := (FR_h29).zup e_h38 (by first | exact rfl | exact Or.inl rfl | exact Or.inr rfl | exact ⟨by decide, by decide⟩ | decide | omega)
  clear F_h29_q F_h29__q_3_ F_h29__q_7_ F_h29__q_14_ F_h29__q_21_ F_h29__q_28_ FR_h29 e_h38
  refine WX.s1 rfl rfl ?_
  refine WX.get1 (fs := [.ref (q + 1), .ref (q + 3), .ref (q + 7), .ref (q + 14), .ref (q + 21), .ref (q + 28)]) rfl (by omega) (F_h38_q) rfl ?_
  refine WX.s1 rfl rfl ?_
  refine WX.s1 rfl rfl ?_
  refine WX.iastN rfl (by omega) (F_h38__q_28_) (by unfold vp_in; decide) (fun g45 h45 e_g45 e_h45 => ?_)
  try dsimp only at e_g45
  have F_h45_q : h45 q = .inr (9, [.ref (q + 1), .ref (q + 3), .ref (q + 7), .ref (q + 14), .ref (q + 21), .ref (q + 28)]) := by rw [e_h45, va_up_neq (by omega)]; exact F_h38_q
  have F_h45__q_3_ : h45 (q + 3) = .inr (0, [.ref (q + 4), .ref (q + 5), .ref (q + 6), .int tp, .int 0]) := by rw [e_h45, va_up_neq (by omega)]; exact F_h38__q_3_
  have F_h45__q_7_ : h45 (q + 7) = .inr (8, [.int (nI 35), .ref (q + 8), .ref (q + 9), .ref (q + 10), .ref (q + 11), .ref (q + 12), .ref (q + 13), .int o1, .int 0]) := by rw [e_h45, va_up_neq (by omega)]; exact F_h38__q_7_
  have F_h45__q_14_ : h45 (q + 14) = .inr (8, [.int (nI 31), .ref (q + 15), .ref (q + 16), .ref (q + 17), .ref (q + 18), .ref (q + 19), .ref (q + 20), .int o2, .int 0]) := by rw [e_h45, va_up_neq (by omega)]; exact F_h38__q_14_
  have F_h45__q_21_ : h45 (q + 21) = .inr (8, [.int (nI 52), .ref (q + 22), .ref (q + 23), .ref (q + 24), .ref (q + 25), .ref (q + 26), .ref (q + 27), .int o3, .int 0]) := by rw [e_h45, va_up_neq (by omega)]; exact F_h38__q_21_
  have F_h45__q_28_ : h45 (q + 28) = .inl (1, 3, .inl g45) := by rw [e_h45]; exact va_up_eq
  have FR_h45 : Fr h h45 (fun j => j = q + 3 ∨ j = q + 7 ∨ j = q + 14 ∨ j = q + 21 ∨ j = q + 28) := (FR_h38).zup e_h45 (by first | exact rfl | exact Or.inl rfl | exact Or.inr rfl | exact ⟨by decide, by decide⟩ | decide | omega)
  clear F_h38_q F_h38__q_3_ F_h38__q_7_ F_h38__q_14_ F_h38__q_21_ F_h38__q_28_ FR_h38 e_h45
  refine WX.s1 rfl rfl ?_
  refine WX.get1 (fs := [.ref (q + 1), .ref (q + 3), .ref (q + 7), .ref (q + 14), .ref (q + 21), .ref (q + 28)]) rfl (by omega) (F_h45_q) rfl ?_
  refine WX.s1 rfl rfl ?_
  refine WX.s1 rfl rfl ?_
  refine WX.iastN rfl (by omega) (F_h45__q_28_) (by unfold vp_in; decide) (fun g53 h53 e_g53 e_h53 => ?_)
  try dsimp only at e_g53
  have F_h53_q : h53 q = .inr (9, [.ref (q + 1), .ref (q + 3), .ref (q + 7), .ref (q + 14), .ref (q + 21), .ref (q + 28)]) := by rw [e_h53, va_up_neq (by omega)]; exact F_h45_q
  have F_h53__q_3_ : h53 (q + 3) = .inr (0, [.ref (q + 4), .ref (q + 5), .ref (q + 6), .int tp, .int 0]) := by rw [e_h53, va_up_neq (by omega)]; exact F_h45__q_3_
  have F_h53__q_7_ : h53 (q + 7) = .inr (8, [.int (nI 35), .ref (q + 8), .ref (q + 9), .ref (q + 10), .ref (q + 11), .ref (q + 12), .ref (q + 13), .int o1, .int 0]) := by rw [e_h53, va_up_neq (by omega)]; exact F_h45__q_7_
  have F_h53__q_14_ : h53 (q + 14) = .inr (8, [.int (nI 31), .ref (q + 15), .ref (q + 16), .ref (q + 17), .ref (q + 18), .ref (q + 19), .ref (q + 20), .int o2, .int 0]) := by rw [e_h53, va_up_neq (by omega)]; exact F_h45__q_14_
  have F_h53__q_21_ : h53 (q + 21) = .inr (8, [.int (nI 52), .ref (q + 22), .ref (q + 23), .ref (q + 24), .ref (q + 25), .ref (q + 26), .ref (q + 27), .int o3, .int 0]) := by rw [e_h53, va_up_neq (by omega)]; exact F_h45__q_21_
  have F_h53__q_28_ : h53 (q + 28) = .inl (1, 3, .inl g53) := by rw [e_h53]; exact va_up_eq
  have FR_h53 : Fr h h53 (fun j => j = q + 3 ∨ j = q + 7 ∨ j = q + 14 ∨ j = q + 21 ∨ j = q + 28) := (FR_h45).zup e_h53 (by first | exact rfl | exact Or.inl rfl | exact Or.inr rfl | exact ⟨by decide, by decide⟩ | decide | omega)
  clear F_h45_q F_h45__q_3_ F_h45__q_7_ F_h45__q_14_ F_h45__q_21_ F_h45__q_28_ FR_h45 e_h53
  have z1 : g38 = upd tA 0 1 := e_g38
  have z2 : g45 = upd g38 1 4 := e_g45
  have z3 : g53 = upd g45 2 8 := e_g53
  refine WX.ret0 rfl (kk h53 g53 FR_h53 F_h53__q_3_ F_h53__q_7_ F_h53__q_14_ F_h53__q_21_ F_h53__q_28_ ⟨?_, ?_, ?_⟩)
  · rw [z3, pk_un (by decide), z2, pk_un (by decide), z1, pk_us]; rfl
  · rw [z3, pk_un (by decide), z2, pk_us]; rfl
  · rw [z3, pk_us]; rfl
theorem x_empty {d n s : Nat} {h : Nat → aE} {q : Nat} (hn : 190 ≤ n) (hq : q + 28 < 67) (hZ : StZ h q) {Ψ : Option Value → aH → Prop} (kk : ∀ h', Fr h h' (fun j => j = q + 3 ∨ j = q + 7 ∨ j = q + 14 ∨ j = q + 21 ∨ j = q + 28) → StX h' q stN → Ψ none (n, s, h')) : WO (mM (d + 1)) 117 [.ref q] (n, s, h) Ψ := by
  obtain ⟨a, b, ⟨tp, th, lA, cA, eA, c0, c1, c2, c3⟩, ⟨o1, t1, p1, r1, f1, w1, u1, s1, d0, d1, d2, d3, d4, d5, d6⟩, ⟨o2, t2, p2, r2, f2, w2, u2, s2, e0, e1, e2, e3, e4, e5, e6⟩, ⟨o3, t3, p3, r3, f3, w3, u3, s3, g0, g1, g2, g3, g4, g5, g6⟩, ⟨tA, k⟩⟩ := hZ
  refine x_emp0 hn hq a c0 d0 e0 g0 k (fun h' tA' f z3 z7 z14 z21 z28 zl => kk h' f ⟨(f _ (by omega)).trans a, (b).zfr f (by omega) (by omega), ⟨tp, lA, cA, eA, z3, (f _ (by omega)).trans c1, (f _ (by omega)).trans c2, (f _ (by omega)).trans c3⟩, ⟨o1, p1, r1, f1, w1, u1, s1, z7, (f _ (by omega)).trans d1, (f _ (by omega)).trans d2, (f _ (by omega)).trans d3, (f _ (by omega)).trans d4, (f _ (by omega)).trans d5, (f _ (by omega)).trans d6⟩, ⟨o2, p2, r2, f2, w2, u2, s2, z14, (f _ (by omega)).trans e1, (f _ (by omega)).trans e2, (f _ (by omega)).trans e3, (f _ (by omega)).trans e4, (f _ (by omega)).trans e5, (f _ (by omega)).trans e6⟩, ⟨o3, p3, r3, f3, w3, u3, s3, z21, (f _ (by omega)).trans g1, (f _ (by omega)).trans g2, (f _ (by omega)).trans g3, (f _ (by omega)).trans g4, (f _ (by omega)).trans g5, (f _ (by omega)).trans g6⟩, tA', z28, zl⟩)
theorem x_rdT {d n s : Nat} {h : Nat → aE} {q : Nat} {l : List Nat} (hn : 190 ≤ n) (hq3 : 3 ≤ q) (hq : q + 28 < 67) (hZ : StZ h q) (hR : RowIs h 1 8000 (some l) 0 0) (hD : DX h) {Ψ : Option Value → aH → Prop} (k0 : ∀ k v, RdT l (.inl k) → v = -nI k → 1 ≤ k → k ≤ 4 → ∀ h', Fr h h' (fun j => (q + 3 ≤ j ∧ j ≤ q + 28) ∨ (67 ≤ j ∧ j ≤ 80)) → StZ h' q → DX h' → Ψ (some (.int v)) (n, s, h')) (k1 : ∀ T a, RdT l (.inr (T, a)) → ∀ h', Fr h h' (fun j => (q + 3 ≤ j ∧ j ≤ q + 28) ∨ (67 ≤ j ∧ j ≤ 80)) → StX h' q T → DX h' → Ψ (some (.int (nI a))) (n, s, h')) : WO (mM (d + 7)) 118 [.ref q, .ref 1, .ref 67] (n, s, h) Ψ := by
  obtain ⟨a, b, c, e, f, g, ⟨tA, k⟩⟩ := hZ
  exact x_rdT0 hn hq3 hq a (row_obj hR) k hR b hD c e f g k0 k1
set_option maxRecDepth 20000 in
theorem x_forg0 {d n s : Nat} {h : Nat → aE} {ou ne sta dra id way least : Nat} {l lo ld : List Nat} {T S : PkS} {ab : Nat → Nat} {b0 : Option (List Nat)} {ho0 : Int64} {hd0 : Int32} (hn : 190 ≤ n) (hnb : n < aBig) (hno : (ou = 3 ∧ ne = 5) ∨ (ou = 5 ∧ ne = 3)) (hsd : (sta = 9 ∧ dra = 38) ∨ (sta = 38 ∧ dra = 9)) (F_h_0 : h 0 = .inr (10, [.ref 1, .ref ou, .ref ne, .ref 7, .long (lN id), .ref sta, .ref dra, .ref 67, .ref 81, .ref 189, .int (nI way), .int (nI least)])) (P_h_in : RowIs h 1 8000 (some l) 0 0) (P_h_co : RowIs h 7 8000 (some ld) 0 0) (P_h_st : StX h sta T) (P_h_dr : StZ h dra) (P_h_ou : RowIs h ou 12000 (some lo) 0 0) (P_h_nx : RowIs h ne 12000 b0 ho0 hd0) (P_h_ab : AbA h ab) (P_h_pk : PkY h S) {Ψ : Option Value → aH → Prop} (kk : ∀ h', Fr h h' (fun j => j ≤ 66) → SPY h' ou ne sta dra 0 way least l lo [] stN ab → Ψ none (n, s, h')) : WO (mM (d + 2)) 130 [.ref 0] (n, s, h) Ψ := by
  refine WO.of (Nat.le_of_ble_eq_true rfl) ?_
  have FR_h : Fr h h (fun j => j ≤ 66) := Fr.rf
  show WX (lk tX11_forget) (mM (d + 1)) Ψ 0 [(0, .ref 0)] [] (n, s, h)
  refine WX.s1 rfl rfl ?_
  refine WX.get1 (fs := [.ref 1, .ref ou, .ref ne, .ref 7, .long (lN id), .ref sta, .ref dra, .ref 67, .ref 81, .ref 189, .int (nI way), .int (nI least)]) rfl (by omega) (F_h_0) rfl ?_
  refine WX.callC (vs := [.ref 7]) rfl rfl rfl (Nat.le_of_ble_eq_true rfl) ((P_h_co).rcv (by omega)) ?_
  refine w_dropB (d := d) (by omega) P_h_co (fun h4 fr4 P_h4_co => ?_)
  have F_h4_0 : h4 0 = .inr (10, [.ref 1, .ref ou, .ref ne, .ref 7, .long (lN id), .ref sta, .ref dra, .ref 67, .ref 81, .ref 189, .int (nI way), .int (nI least)]) := (fr4 _ (by omega)).trans F_h_0
  have P_h4_in : RowIs h4 1 8000 (some l) 0 0 := (P_h_in).zfr fr4 (by omega) (by omega)
  have P_h4_st : StX h4 sta T := (P_h_st).zfr fr4 (fun j h1 h2 => by omega)
  have P_h4_dr : StZ h4 dra := (P_h_dr).zfr fr4 (fun j h1 h2 => by omega)
  have P_h4_ou : RowIs h4 ou 12000 (some lo) 0 0 := (P_h_ou).zfr fr4 (by omega) (by omega)
  have P_h4_nx : RowIs h4 ne 12000 b0 ho0 hd0 := (P_h_nx).zfr fr4 (by omega) (by omega)
  have P_h4_ab : AbA h4 ab := (P_h_ab).zfr fr4 (by omega)
  have P_h4_pk : PkY h4 S := (P_h_pk).zfr fr4 (fun j h1 h2 => by omega) (fun j h1 => by omega)
  have FR_h4 : Fr h h4 (fun j => j ≤ 66) := (FR_h).zsub fr4 (fun j hj => by omega)
  show WX _ _ _ 7 [(0, .ref 0)] [] (n, s, h4)
  refine WX.s1 rfl rfl ?_
  refine WX.get1 (fs := [.ref 1, .ref ou, .ref ne, .ref 7, .long (lN id), .ref sta, .ref dra, .ref 67, .ref 81, .ref 189, .int (nI way), .int (nI least)]) rfl (by omega) (F_h4_0) rfl ?_
  refine WX.callC (vs := [.ref sta]) rfl rfl rfl (Nat.le_of_ble_eq_true rfl) ((P_h4_st).rcv (by omega)) ?_
  refine x_empty (d := d) hn (by omega) (P_h4_st).toZ (fun h11 fr11 P_h11_st => ?_)
  have F_h11_0 : h11 0 = .inr (10, [.ref 1, .ref ou, .ref ne, .ref 7, .long (lN id), .ref sta, .ref dra, .ref 67, .ref 81, .ref 189, .int (nI way), .int (nI least)]) := (fr11 _ (by omega)).trans F_h4_0
  have P_h11_in : RowIs h11 1 8000 (some l) 0 0 := (P_h4_in).zfr fr11 (by omega) (by omega)
  have P_h11_co : RowIs h11 7 8000 (some []) 0 0 := (P_h4_co).zfr fr11 (by omega) (by omega)
  have P_h11_dr : StZ h11 dra := (P_h4_dr).zfr fr11 (fun j h1 h2 => by omega)
  have P_h11_ou : RowIs h11 ou 12000 (some lo) 0 0 := (P_h4_ou).zfr fr11 (by omega) (by omega)
  have P_h11_nx : RowIs h11 ne 12000 b0 ho0 hd0 := (P_h4_nx).zfr fr11 (by omega) (by omega)
  have P_h11_ab : AbA h11 ab := (P_h4_ab).zfr fr11 (by omega)
  have P_h11_pk : PkY h11 S := (P_h4_pk).zfr fr11 (fun j h1 h2 => by omega) (fun j h1 => by omega)
  have FR_h11 : Fr h h11 (fun j => j ≤ 66) := (FR_h4).zsub fr11 (fun j hj => by omega)
  show WX _ _ _ 14 [(0, .ref 0)] [] (n, s, h11)
  refine WX.s1 rfl rfl ?_
  refine WX.s1 rfl rfl ?_
  refine WX.put1 (fs := [.ref 1, .ref ou, .ref ne, .ref 7, .long (lN id), .ref sta, .ref dra, .ref 67, .ref 81, .ref 189, .int (nI way), .int (nI least)]) (fs' := [.ref 1, .ref ou, .ref ne, .ref 7, .long 0, .ref sta, .ref dra, .ref 67, .ref 81, .ref 189, .int (nI way), .int (nI least)]) rfl (by omega) (F_h11_0) (Nat.le_of_ble_eq_true rfl) (rfl) rfl (fun h16 e_h16 => ?_)
  have F_h16_0 : h16 0 = .inr (10, [.ref 1, .ref ou, .ref ne, .ref 7, .long 0, .ref sta, .ref dra, .ref 67, .ref 81, .ref 189, .int (nI way), .int (nI least)]) := by rw [e_h16]; exact va_up_eq
  have P_h16_in : RowIs h16 1 8000 (some l) 0 0 := (P_h11_in).zfr (Fr.of e_h16) (by omega) (by omega)
  have P_h16_co : RowIs h16 7 8000 (some []) 0 0 := (P_h11_co).zfr (Fr.of e_h16) (by omega) (by omega)
  have P_h16_st : StX h16 sta stN := (P_h11_st).zfr (Fr.of e_h16) (fun j h1 h2 => by omega)
  have P_h16_dr : StZ h16 dra := (P_h11_dr).zfr (Fr.of e_h16) (fun j h1 h2 => by omega)
  have P_h16_ou : RowIs h16 ou 12000 (some lo) 0 0 := (P_h11_ou).zfr (Fr.of e_h16) (by omega) (by omega)
  have P_h16_nx : RowIs h16 ne 12000 b0 ho0 hd0 := (P_h11_nx).zfr (Fr.of e_h16) (by omega) (by omega)
  have P_h16_ab : AbA h16 ab := (P_h11_ab).zfr (Fr.of e_h16) (by omega)
  have P_h16_pk : PkY h16 S := (P_h11_pk).zfr (Fr.of e_h16) (fun j h1 h2 => by omega) (fun j h1 => by omega)
  have FR_h16 : Fr h h16 (fun j => j ≤ 66) := (FR_h11).zup e_h16 (by first | exact rfl | exact Or.inl rfl | exact Or.inr rfl | exact ⟨by decide, by decide⟩ | decide | omega)
  clear F_h11_0 P_h11_in P_h11_co P_h11_st P_h11_dr P_h11_ou P_h11_nx P_h11_ab P_h11_pk FR_h11 e_h16
  exact WX.ret0 rfl (kk h16 FR_h16 ⟨F_h16_0, hno, hsd, P_h16_in, P_h16_ou, ⟨_, _, _, P_h16_nx⟩, P_h16_co, P_h16_st, P_h16_dr, ⟨S, P_h16_pk⟩, P_h16_ab⟩)
theorem x_forgetL {d n s : Nat} {h : Nat → aE} {id way least : Nat} {l lo ld : List Nat} {T : PkS} {ab : Nat → Nat} (hn : 190 ≤ n) (hnb : n < aBig) (hX : SPX h id way least l lo ld T ab) {Ψ : Option Value → aH → Prop} (kk : ∀ h', Fr h h' (fun j => j ≤ 189) → SPX h' 0 way least l lo [] stN ab → Ψ none (n, s, h')) : WO (mM (d + 2)) 130 [.ref 0] (n, s, h) Ψ := by
  obtain ⟨ou, ne, sta, dra, a1, a2, a3, a4, a5, ⟨b0, ho0, hd0, a6⟩, a7, a8, a9, ⟨S, a10⟩, a11⟩ := hX
  exact x_forg0 hn hnb a2 a3 a1 a4 a7 a8 a9 a5 a6 a11 a10 (fun h' f q => kk h' ((f).mono (fun j hj => by omega)) ⟨_, _, _, _, q⟩)
set_option maxRecDepth 20000 in
theorem x_lrEnd {d n s : Nat} {h : Nat → aE} {ou ne sta dra id way least : Nat} {l lo ld : List Nat} {T S : PkS} {ab : Nat → Nat} {b0 : Option (List Nat)} {ho0 : Int64} {hd0 : Int32} {T2 : PkS} {a b id2 : Nat} (hn : 190 ≤ n) (hnb : n < aBig) (hno : (ou = 3 ∧ ne = 5) ∨ (ou = 5 ∧ ne = 3)) (hsd : (sta = 9 ∧ dra = 38) ∨ (sta = 38 ∧ dra = 9)) (hb : b ≤ 1) (ha : a ≤ (l).length) (hid : id2 = if b = 1 then wdN l 4 4 else 0) (F_h_0 : h 0 = .inr (10, [.ref 1, .ref ou, .ref ne, .ref 7, .long (lN id), .ref sta, .ref dra, .ref 67, .ref 81, .ref 189, .int (nI way), .int (nI least)])) (F_h_1 : h 1 = .inr (7, [.ref 2, .int (nI (l).length), .int 0, .long 0, .int 0])) (P_h_in : RowIs h 1 8000 (some l) 0 0) (P_h_co : RowIs h 7 8000 (some ld) 0 0) (P_h_st : StX h sta T) (P_h_dr : StX h dra T2) (P_h_ou : RowIs h ou 12000 (some lo) 0 0) (P_h_nx : RowIs h ne 12000 b0 ho0 hd0) (P_h_ab : AbA h ab) (P_h_pk : PkY h S) {Ψ : Option Value → aH → Prop} (kk : ∀ h', Fr h h' (fun j => j ≤ 80) → SPY h' ou ne dra sta id2 way least [] lo (sliceL l a (l).length) T2 ab → Ψ (some (.int (nI ((l).length - a)))) (n, s, h')) : WX (lk tX11_learn) (mM (d + 3)) Ψ 70 [(0, .ref 0), (1, .int (nI b)), (2, .int (nI a))] [] (n, s, h) := by
  have FR_h : Fr h h (fun j => j ≤ 80) := Fr.rf
  have hle := row_le P_h_in
  refine WX.s1 rfl rfl ?_
  have t88 : WX (lk tX11_learn) (mM (d + 3)) Ψ 88 [(0, .ref 0), (1, .int (nI b)), (2, .int (nI a))] [.long (lN id2), .ref 0] (n, s, h) := by
    refine WX.put1 (fs := [.ref 1, .ref ou, .ref ne, .ref 7, .long (lN id), .ref sta, .ref dra, .ref 67, .ref 81, .ref 189, .int (nI way), .int (nI least)]) (fs' := [.ref 1, .ref ou, .ref ne, .ref 7, .long (lN id2), .ref sta, .ref dra, .ref 67, .ref 81, .ref 189, .int (nI way), .int (nI least)]) rfl (by omega) (F_h_0) (Nat.le_of_ble_eq_true rfl) (rfl) rfl (fun h88 e_h88 => ?_)
    have F_h88_0 : h88 0 = .inr (10, [.ref 1, .ref ou, .ref ne, .ref 7, .long (lN id2), .ref sta, .ref dra, .ref 67, .ref 81, .ref 189, .int (nI way), .int (nI least)]) := by rw [e_h88]; exact va_up_eq
    have F_h88_1 : h88 1 = .inr (7, [.ref 2, .int (nI (l).length), .int 0, .long 0, .int 0]) := by rw [e_h88, va_up_neq (by omega)]; exact F_h_1
    have P_h88_in : RowIs h88 1 8000 (some l) 0 0 := (P_h_in).zfr (Fr.of e_h88) (by omega) (by omega)
    have P_h88_co : RowIs h88 7 8000 (some ld) 0 0 := (P_h_co).zfr (Fr.of e_h88) (by omega) (by omega)
    have P_h88_st : StX h88 sta T := (P_h_st).zfr (Fr.of e_h88) (fun j h1 h2 => by omega)
    have P_h88_dr : StX h88 dra T2 := (P_h_dr).zfr (Fr.of e_h88) (fun j h1 h2 => by omega)
    have P_h88_ou : RowIs h88 ou 12000 (some lo) 0 0 := (P_h_ou).zfr (Fr.of e_h88) (by omega) (by omega)
    have P_h88_nx : RowIs h88 ne 12000 b0 ho0 hd0 := (P_h_nx).zfr (Fr.of e_h88) (by omega) (by omega)
    have P_h88_ab : AbA h88 ab := (P_h_ab).zfr (Fr.of e_h88) (by omega)
    have P_h88_pk : PkY h88 S := (P_h_pk).zfr (Fr.of e_h88) (fun j h1 h2 => by omega) (fun j h1 => by omega)
    have FR_h88 : Fr h h88 (fun j => j ≤ 80) := (FR_h).zup e_h88 (by first | exact rfl | exact Or.inl rfl | exact Or.inr rfl | exact ⟨by decide, by decide⟩ | decide | omega)
    clear F_h_0 F_h_1 P_h_in P_h_co P_h_st P_h_dr P_h_ou P_h_nx P_h_ab P_h_pk FR_h e_h88
    refine WX.s1 rfl rfl ?_
    refine WX.get1 (fs := [.ref 1, .ref ou, .ref ne, .ref 7, .long (lN id2), .ref sta, .ref dra, .ref 67, .ref 81, .ref 189, .int (nI way), .int (nI least)]) rfl (by omega) (F_h88_0) rfl ?_
    refine WX.asN (L' := [(0, .ref 0), (1, .int (nI b)), (2, .int (nI a)), (3, .ref sta)]) rfl rfl ?_
    refine WX.s1 rfl rfl ?_
    refine WX.s1 rfl rfl ?_
    refine WX.get1 (fs := [.ref 1, .ref ou, .ref ne, .ref 7, .long (lN id2), .ref sta, .ref dra, .ref 67, .ref 81, .ref 189, .int (nI way), .int (nI least)]) rfl (by omega) (F_h88_0) rfl ?_
    refine WX.put1 (fs := [.ref 1, .ref ou, .ref ne, .ref 7, .long (lN id2), .ref sta, .ref dra, .ref 67, .ref 81, .ref 189, .int (nI way), .int (nI least)]) (fs' := [.ref 1, .ref ou, .ref ne, .ref 7, .long (lN id2), .ref dra, .ref dra, .ref 67, .ref 81, .ref 189, .int (nI way), .int (nI least)]) rfl (by omega) (F_h88_0) (Nat.le_of_ble_eq_true rfl) (rfl) rfl (fun h101 e_h101 => ?_)
    have F_h101_0 : h101 0 = .inr (10, [.ref 1, .ref ou, .ref ne, .ref 7, .long (lN id2), .ref dra, .ref dra, .ref 67, .ref 81, .ref 189, .int (nI way), .int (nI least)]) := by rw [e_h101]; exact va_up_eq
    have F_h101_1 : h101 1 = .inr (7, [.ref 2, .int (nI (l).length), .int 0, .long 0, .int 0]) := by rw [e_h101, va_up_neq (by omega)]; exact F_h88_1
    have P_h101_in : RowIs h101 1 8000 (some l) 0 0 := (P_h88_in).zfr (Fr.of e_h101) (by omega) (by omega)
    have P_h101_co : RowIs h101 7 8000 (some ld) 0 0 := (P_h88_co).zfr (Fr.of e_h101) (by omega) (by omega)
    have P_h101_st : StX h101 sta T := (P_h88_st).zfr (Fr.of e_h101) (fun j h1 h2 => by omega)
    have P_h101_dr : StX h101 dra T2 := (P_h88_dr).zfr (Fr.of e_h101) (fun j h1 h2 => by omega)
    have P_h101_ou : RowIs h101 ou 12000 (some lo) 0 0 := (P_h88_ou).zfr (Fr.of e_h101) (by omega) (by omega)
    have P_h101_nx : RowIs h101 ne 12000 b0 ho0 hd0 := (P_h88_nx).zfr (Fr.of e_h101) (by omega) (by omega)
    have P_h101_ab : AbA h101 ab := (P_h88_ab).zfr (Fr.of e_h101) (by omega)
    have P_h101_pk : PkY h101 S := (P_h88_pk).zfr (Fr.of e_h101) (fun j h1 h2 => by omega) (fun j h1 => by omega)
    have FR_h101 : Fr h h101 (fun j => j ≤ 80) := (FR_h88).zup e_h101 (by first | exact rfl | exact Or.inl rfl | exact Or.inr rfl | exact ⟨by decide, by decide⟩ | decide | omega)
    clear F_h88_0 F_h88_1 P_h88_in P_h88_co P_h88_st P_h88_dr P_h88_ou P_h88_nx P_h88_ab P_h88_pk FR_h88 e_h101
    refine WX.s1 rfl rfl ?_
    refine WX.s1 rfl rfl ?_
    refine WX.put1 (fs := [.ref 1, .ref ou, .ref ne, .ref 7, .long (lN id2), .ref dra, .ref dra, .ref 67, .ref 81, .ref 189, .int (nI way), .int (nI least)]) (fs' := [.ref 1, .ref ou, .ref ne, .ref 7, .long (lN id2), .ref dra, .ref sta, .ref 67, .ref 81, .ref 189, .int (nI way), .int (nI least)]) rfl (by omega) (F_h101_0) (Nat.le_of_ble_eq_true rfl) (rfl) rfl (fun h106 e_h106 => ?_)
    have F_h106_0 : h106 0 = .inr (10, [.ref 1, .ref ou, .ref ne, .ref 7, .long (lN id2), .ref dra, .ref sta, .ref 67, .ref 81, .ref 189, .int (nI way), .int (nI least)]) := by rw [e_h106]; exact va_up_eq
    have F_h106_1 : h106 1 = .inr (7, [.ref 2, .int (nI (l).length), .int 0, .long 0, .int 0]) := by rw [e_h106, va_up_neq (by omega)]; exact F_h101_1
    have P_h106_in : RowIs h106 1 8000 (some l) 0 0 := (P_h101_in).zfr (Fr.of e_h106) (by omega) (by omega)
    have P_h106_co : RowIs h106 7 8000 (some ld) 0 0 := (P_h101_co).zfr (Fr.of e_h106) (by omega) (by omega)
    have P_h106_st : StX h106 sta T := (P_h101_st).zfr (Fr.of e_h106) (fun j h1 h2 => by omega)
    have P_h106_dr : StX h106 dra T2 := (P_h101_dr).zfr (Fr.of e_h106) (fun j h1 h2 => by omega)
    have P_h106_ou : RowIs h106 ou 12000 (some lo) 0 0 := (P_h101_ou).zfr (Fr.of e_h106) (by omega) (by omega)
    have P_h106_nx : RowIs h106 ne 12000 b0 ho0 hd0 := (P_h101_nx).zfr (Fr.of e_h106) (by omega) (by omega)
    have P_h106_ab : AbA h106 ab := (P_h101_ab).zfr (Fr.of e_h106) (by omega)
    have P_h106_pk : PkY h106 S := (P_h101_pk).zfr (Fr.of e_h106) (fun j h1 h2 => by omega) (fun j h1 => by omega)
    have FR_h106 : Fr h h106 (fun j => j ≤ 80) := (FR_h101).zup e_h106 (by first | exact rfl | exact Or.inl rfl | exact Or.inr rfl | exact ⟨by decide, by decide⟩ | decide | omega)
    clear F_h101_0 F_h101_1 P_h101_in P_h101_co P_h101_st P_h101_dr P_h101_ou P_h101_nx P_h101_ab P_h101_pk FR_h101 e_h106
    refine WX.s1 rfl rfl ?_
    refine WX.get1 (fs := [.ref 1, .ref ou, .ref ne, .ref 7, .long (lN id2), .ref dra, .ref sta, .ref 67, .ref 81, .ref 189, .int (nI way), .int (nI least)]) rfl (by omega) (F_h106_0) rfl ?_
    refine WX.callC (vs := [.ref 7]) rfl rfl rfl (Nat.le_of_ble_eq_true rfl) ((P_h106_co).rcv (by omega)) ?_
    refine w_dropB (d := d + 2) (by omega) P_h106_co (fun h113 fr113 P_h113_co => ?_)
    have F_h113_0 : h113 0 = .inr (10, [.ref 1, .ref ou, .ref ne, .ref 7, .long (lN id2), .ref dra, .ref sta, .ref 67, .ref 81, .ref 189, .int (nI way), .int (nI least)]) := (fr113 _ (by omega)).trans F_h106_0
    have F_h113_1 : h113 1 = .inr (7, [.ref 2, .int (nI (l).length), .int 0, .long 0, .int 0]) := (fr113 _ (by omega)).trans F_h106_1
    have P_h113_in : RowIs h113 1 8000 (some l) 0 0 := (P_h106_in).zfr fr113 (by omega) (by omega)
    have P_h113_st : StX h113 sta T := (P_h106_st).zfr fr113 (fun j h1 h2 => by omega)
    have P_h113_dr : StX h113 dra T2 := (P_h106_dr).zfr fr113 (fun j h1 h2 => by omega)
    have P_h113_ou : RowIs h113 ou 12000 (some lo) 0 0 := (P_h106_ou).zfr fr113 (by omega) (by omega)
    have P_h113_nx : RowIs h113 ne 12000 b0 ho0 hd0 := (P_h106_nx).zfr fr113 (by omega) (by omega)
    have P_h113_ab : AbA h113 ab := (P_h106_ab).zfr fr113 (by omega)
    have P_h113_pk : PkY h113 S := (P_h106_pk).zfr fr113 (fun j h1 h2 => by omega) (fun j h1 => by omega)
    have FR_h113 : Fr h h113 (fun j => j ≤ 80) := (FR_h106).zsub fr113 (fun j hj => by omega)
    show WX _ _ _ 116 [(0, .ref 0), (1, .int (nI b)), (2, .int (nI a)), (3, .ref sta)] [] (n, s, h113)
    refine WX.s1 rfl rfl ?_
    refine WX.get1 (fs := [.ref 1, .ref ou, .ref ne, .ref 7, .long (lN id2), .ref dra, .ref sta, .ref 67, .ref 81, .ref 189, .int (nI way), .int (nI least)]) rfl (by omega) (F_h113_0) rfl ?_
    refine WX.s1 rfl rfl ?_
    refine WX.get1 (fs := [.ref 1, .ref ou, .ref ne, .ref 7, .long (lN id2), .ref dra, .ref sta, .ref 67, .ref 81, .ref 189, .int (nI way), .int (nI least)]) rfl (by omega) (F_h113_0) rfl ?_
    refine WX.s1 rfl rfl ?_
    refine WX.s1 rfl rfl ?_
    refine WX.get1 (fs := [.ref 1, .ref ou, .ref ne, .ref 7, .long (lN id2), .ref dra, .ref sta, .ref 67, .ref 81, .ref 189, .int (nI way), .int (nI least)]) rfl (by omega) (F_h113_0) rfl ?_
    refine WX.get1 (fs := [.ref 2, .int (nI (l).length), .int 0, .long 0, .int 0]) rfl (by omega) (F_h113_1) rfl ?_
    refine WX.callC (vs := [.ref 7, .ref 1, .int (nI a), .int (nI (l).length)]) rfl rfl rfl (Nat.le_of_ble_eq_true rfl) ((P_h113_co).rcv (by omega)) ?_
    refine w_putRowL (d := d + 1) (k := 7) (q := 1) (x := a) (y := (l).length) (by omega) P_h113_co (by decide) (by omega) (by decide) (by decide) P_h113_in ha (Nat.le_refl _) (by decide) (fun h132 fr132 P_h132_co0 => ?_)
    have F_h132_0 : h132 0 = .inr (10, [.ref 1, .ref ou, .ref ne, .ref 7, .long (lN id2), .ref dra, .ref sta, .ref 67, .ref 81, .ref 189, .int (nI way), .int (nI least)]) := (fr132 _ (by omega)).trans F_h113_0
    have F_h132_1 : h132 1 = .inr (7, [.ref 2, .int (nI (l).length), .int 0, .long 0, .int 0]) := (fr132 _ (by omega)).trans F_h113_1
    have P_h132_in : RowIs h132 1 8000 (some l) 0 0 := (P_h113_in).zfr fr132 (by omega) (by omega)
    have P_h132_st : StX h132 sta T := (P_h113_st).zfr fr132 (fun j h1 h2 => by omega)
    have P_h132_dr : StX h132 dra T2 := (P_h113_dr).zfr fr132 (fun j h1 h2 => by omega)
    have P_h132_ou : RowIs h132 ou 12000 (some lo) 0 0 := (P_h113_ou).zfr fr132 (by omega) (by omega)
    have P_h132_nx : RowIs h132 ne 12000 b0 ho0 hd0 := (P_h113_nx).zfr fr132 (by omega) (by omega)
    have P_h132_ab : AbA h132 ab := (P_h113_ab).zfr fr132 (by omega)
    have P_h132_pk : PkY h132 S := (P_h113_pk).zfr fr132 (fun j h1 h2 => by omega) (fun j h1 => by omega)
    have FR_h132 : Fr h h132 (fun j => j ≤ 80) := (FR_h113).zsub fr132 (fun j hj => by omega)
    show WX _ _ _ 135 [(0, .ref 0), (1, .int (nI b)), (2, .int (nI a)), (3, .ref sta)] [] (n, s, h132)
    have hsl : (sliceL l a (l).length).length = (l).length - a := sliceL_len _ _ _
    have P_h132_co : RowIs h132 7 8000 (some (sliceL l a (l).length)) 0 0 := by rw [bputs_all, if_pos (by omega)] at P_h132_co0; exact P_h132_co0
    have F_h132_7 := row_obj P_h132_co
    refine WX.s1 rfl rfl ?_
    refine WX.get1 (fs := [.ref 1, .ref ou, .ref ne, .ref 7, .long (lN id2), .ref dra, .ref sta, .ref 67, .ref 81, .ref 189, .int (nI way), .int (nI least)]) rfl (by omega) (F_h132_0) rfl ?_
    refine WX.callC (vs := [.ref 1]) rfl rfl rfl (Nat.le_of_ble_eq_true rfl) ((P_h132_in).rcv (by omega)) ?_
    refine w_dropB (d := d + 2) (by omega) P_h132_in (fun h139 fr139 P_h139_in => ?_)
    have F_h139_0 : h139 0 = .inr (10, [.ref 1, .ref ou, .ref ne, .ref 7, .long (lN id2), .ref dra, .ref sta, .ref 67, .ref 81, .ref 189, .int (nI way), .int (nI least)]) := (fr139 _ (by omega)).trans F_h132_0
    have F_h139_7 : h139 7 = .inr (7, [.ref 8, .int (nI (sliceL l a (l).length).length), .int 0, .long 0, .int 0]) := (fr139 _ (by omega)).trans F_h132_7
    have P_h139_st : StX h139 sta T := (P_h132_st).zfr fr139 (fun j h1 h2 => by omega)
    have P_h139_dr : StX h139 dra T2 := (P_h132_dr).zfr fr139 (fun j h1 h2 => by omega)
    have P_h139_ou : RowIs h139 ou 12000 (some lo) 0 0 := (P_h132_ou).zfr fr139 (by omega) (by omega)
    have P_h139_nx : RowIs h139 ne 12000 b0 ho0 hd0 := (P_h132_nx).zfr fr139 (by omega) (by omega)
    have P_h139_ab : AbA h139 ab := (P_h132_ab).zfr fr139 (by omega)
    have P_h139_pk : PkY h139 S := (P_h132_pk).zfr fr139 (fun j h1 h2 => by omega) (fun j h1 => by omega)
    have P_h139_co : RowIs h139 7 8000 (some (sliceL l a (l).length)) 0 0 := (P_h132_co).zfr fr139 (by omega) (by omega)
    have FR_h139 : Fr h h139 (fun j => j ≤ 80) := (FR_h132).zsub fr139 (fun j hj => by omega)
    show WX _ _ _ 142 [(0, .ref 0), (1, .int (nI b)), (2, .int (nI a)), (3, .ref sta)] [] (n, s, h139)
    refine WX.s1 rfl rfl ?_
    refine WX.get1 (fs := [.ref 1, .ref ou, .ref ne, .ref 7, .long (lN id2), .ref dra, .ref sta, .ref 67, .ref 81, .ref 189, .int (nI way), .int (nI least)]) rfl (by omega) (F_h139_0) rfl ?_
    refine WX.get1 (fs := [.ref 8, .int (nI (sliceL l a (l).length).length), .int 0, .long 0, .int 0]) rfl (by omega) (F_h139_7) rfl ?_
    rw [hsl]
    exact WX.ret1 rfl (kk h139 FR_h139 ⟨F_h139_0, hno, by omega, P_h139_in, P_h139_ou, ⟨_, _, _, P_h139_nx⟩, P_h139_co, P_h139_dr, (P_h139_st).toZ, ⟨S, P_h139_pk⟩, P_h139_ab⟩)
  refine WX.s1 rfl rfl ?_
  refine WX.if_ rfl (fun c_72 => ?_) (fun c_72 => ?_)
  · skip
    have n_72 : b = 0 := (nI_eq (a := b) (b := 0) (by omega) (by omega)).mp c_72
    refine WX.s1 rfl rfl ?_
    rw [if_neg (by omega)] at hid
    rw [hid] at t88
    exact t88
  · skip
    have n_72 : ¬ b = 0 := fun zz_ => c_72 ((nI_eq (a := b) (b := 0) (by omega) (by omega)).mpr zz_)
    refine WX.s1 rfl rfl ?_
    refine WX.get1 (fs := [.ref 1, .ref ou, .ref ne, .ref 7, .long (lN id), .ref sta, .ref dra, .ref 67, .ref 81, .ref 189, .int (nI way), .int (nI least)]) rfl (by omega) (F_h_0) rfl ?_
    refine WX.s1 rfl rfl ?_
    refine WX.s1 rfl rfl ?_
    refine WX.callC (vs := [.ref 1, .int 4, .int 4]) rfl rfl rfl (Nat.le_of_ble_eq_true rfl) ((P_h_in).rcv (by omega)) ?_
    refine x_num (d := d + 1) (a := 4) (b := 4) hn (by decide) (by decide) P_h_in ?_
    show WX _ _ _ 84 [(0, .ref 0), (1, .int (nI b)), (2, .int (nI a))] [.long (wdL l 4 4), .ref 0] (n, s, h)
    refine WX.s1 rfl rfl ?_
    rw [if_pos (by omega)] at hid
    rw [hid] at t88
    exact t88
set_option maxRecDepth 20000 in
theorem x_lrn0 {d n s : Nat} {h : Nat → aE} {ou ne sta dra id way least : Nat} {l lo ld : List Nat} {T S : PkS} {ab : Nat → Nat} {b0 : Option (List Nat)} {ho0 : Int64} {hd0 : Int32} (hn : 190 ≤ n) (hnb : n < aBig) (hno : (ou = 3 ∧ ne = 5) ∨ (ou = 5 ∧ ne = 3)) (hsd : (sta = 9 ∧ dra = 38) ∨ (sta = 38 ∧ dra = 9)) (F_h_0 : h 0 = .inr (10, [.ref 1, .ref ou, .ref ne, .ref 7, .long (lN id), .ref sta, .ref dra, .ref 67, .ref 81, .ref 189, .int (nI way), .int (nI least)])) (F_h_1 : h 1 = .inr (7, [.ref 2, .int (nI (l).length), .int 0, .long 0, .int 0])) (P_h_in : RowIs h 1 8000 (some l) 0 0) (P_h_co : RowIs h 7 8000 (some ld) 0 0) (P_h_st : StX h sta T) (P_h_dr : StZ h dra) (P_h_ou : RowIs h ou 12000 (some lo) 0 0) (P_h_nx : RowIs h ne 12000 b0 ho0 hd0) (P_h_ab : AbA h ab) (P_h_pk : PkY h S) {Ψ : Option Value → aH → Prop} (k0 : ∀ k v, fmd l → RdT l (.inl k) → v = -nI k → ∀ h', Fr h h' (fun j => j ≤ 80) → SPY h' ou ne sta dra id way least l lo ld T ab → Ψ (some (.int v)) (n, s, h')) (k1 : ¬ fmd l → ∀ h', Fr h h' (fun j => j ≤ 80) → SPY h' ou ne dra sta 0 way least [] lo l stN ab → Ψ (some (.int (nI (l).length))) (n, s, h')) (k2 : ∀ T2 a, fmd l → RdT l (.inr (T2, a)) → ∀ h', Fr h h' (fun j => j ≤ 80) → SPY h' ou ne dra sta (wdN l 4 4) way least [] lo (sliceL l a (l).length) T2 ab → Ψ (some (.int (nI ((l).length - a)))) (n, s, h')) : WO (mM (d + 8)) 129 [.ref 0] (n, s, h) Ψ := by
  refine WO.of (Nat.le_of_ble_eq_true rfl) ?_
  have FR_h : Fr h h (fun j => j ≤ 80) := Fr.rf
  have hle := row_le P_h_in
  have hlt := row_lt P_h_in
  have hw4 := wd_lt hlt 0 4
  show WX (lk tX11_learn) (mM (d + 7)) Ψ 0 [(0, .ref 0)] [] (n, s, h)
  have t32 : ∀ (b : Nat), b ≤ 1 → (b = 1 ↔ fmd l) → WX (lk tX11_learn) (mM (d + 7)) Ψ 32 [(0, .ref 0)] [.int (nI b)] (n, s, h) := by
    intro b hb hbf
    refine WX.s1 (L' := [(0, .ref 0), (1, .int (nI b))]) rfl rfl ?_
    refine WX.s1 rfl rfl ?_
    refine WX.get1 (fs := [.ref 1, .ref ou, .ref ne, .ref 7, .long (lN id), .ref sta, .ref dra, .ref 67, .ref 81, .ref 189, .int (nI way), .int (nI least)]) rfl (by omega) (F_h_0) rfl ?_
    refine WX.callC (vs := [.ref dra]) rfl rfl rfl (Nat.le_of_ble_eq_true rfl) ((P_h_dr).rcv (by omega)) ?_
    refine x_empty (d := d + 6) hn (by omega) P_h_dr (fun h37 fr37 P_h37_dr => ?_)
    have F_h37_0 : h37 0 = .inr (10, [.ref 1, .ref ou, .ref ne, .ref 7, .long (lN id), .ref sta, .ref dra, .ref 67, .ref 81, .ref 189, .int (nI way), .int (nI least)]) := (fr37 _ (by omega)).trans F_h_0
    have F_h37_1 : h37 1 = .inr (7, [.ref 2, .int (nI (l).length), .int 0, .long 0, .int 0]) := (fr37 _ (by omega)).trans F_h_1
    have P_h37_in : RowIs h37 1 8000 (some l) 0 0 := (P_h_in).zfr fr37 (by omega) (by omega)
    have P_h37_co : RowIs h37 7 8000 (some ld) 0 0 := (P_h_co).zfr fr37 (by omega) (by omega)
    have P_h37_st : StX h37 sta T := (P_h_st).zfr fr37 (fun j h1 h2 => by omega)
    have P_h37_ou : RowIs h37 ou 12000 (some lo) 0 0 := (P_h_ou).zfr fr37 (by omega) (by omega)
    have P_h37_nx : RowIs h37 ne 12000 b0 ho0 hd0 := (P_h_nx).zfr fr37 (by omega) (by omega)
    have P_h37_ab : AbA h37 ab := (P_h_ab).zfr fr37 (by omega)
    have P_h37_pk : PkY h37 S := (P_h_pk).zfr fr37 (fun j h1 h2 => by omega) (fun j h1 => by omega)
    have FR_h37 : Fr h h37 (fun j => j ≤ 80) := (FR_h).zsub fr37 (fun j hj => by omega)
    show WX _ _ _ 40 [(0, .ref 0), (1, .int (nI b))] [] (n, s, h37)
    refine WX.s1 rfl rfl ?_
    refine WX.if_ rfl (fun c_41 => ?_) (fun c_41 => ?_)
    · skip
      have n_41 : b = 0 := (nI_eq (a := b) (b := 0) (by omega) (by omega)).mp c_41
      refine WX.s1 rfl rfl ?_
      refine WX.s1 (L' := [(0, .ref 0), (1, .int (nI b)), (2, .int 0)]) rfl rfl ?_
      refine WX.s1 rfl rfl ?_
      refine WX.if_ rfl (fun c_65 => ?_) (fun c_65 => absurd (by decide) c_65)
      clear c_65
      show WX (lk tX11_learn) (mM (d + 7)) Ψ 70 [(0, .ref 0), (1, .int (nI b)), (2, .int (nI 0))] [] (n, s, h37)
      refine x_lrEnd (d := d + 4) (a := 0) (b := b) (T2 := stN) (id2 := 0) hn hnb hno hsd hb (Nat.zero_le _) (by rw [if_neg (by omega)]) F_h37_0 F_h37_1 P_h37_in P_h37_co P_h37_st P_h37_dr P_h37_ou P_h37_nx P_h37_ab P_h37_pk (fun h9 f9 q9 => ?_)
      rw [sliceL_all] at q9
      exact k1 (fun z => absurd ((hbf).mpr z) (by omega)) h9 ((FR_h37).ztr f9) q9
    · skip
      have n_41 : ¬ b = 0 := fun zz_ => c_41 ((nI_eq (a := b) (b := 0) (by omega) (by omega)).mpr zz_)
      refine WX.s1 rfl rfl ?_
      refine WX.get1 (fs := [.ref 1, .ref ou, .ref ne, .ref 7, .long (lN id), .ref sta, .ref dra, .ref 67, .ref 81, .ref 189, .int (nI way), .int (nI least)]) rfl (by omega) (F_h37_0) rfl ?_
      refine WX.s1 rfl rfl ?_
      refine WX.get1 (fs := [.ref 1, .ref ou, .ref ne, .ref 7, .long (lN id), .ref sta, .ref dra, .ref 67, .ref 81, .ref 189, .int (nI way), .int (nI least)]) rfl (by omega) (F_h37_0) rfl ?_
      refine WX.s1 rfl rfl ?_
      refine WX.get1 (fs := [.ref 1, .ref ou, .ref ne, .ref 7, .long (lN id), .ref sta, .ref dra, .ref 67, .ref 81, .ref 189, .int (nI way), .int (nI least)]) rfl (by omega) (F_h37_0) rfl ?_
      have hD0 : DX h37 := P_h37_pk.2.2.2.2.2.2.1
      refine WX.callC (vs := [.ref dra, .ref 1, .ref 67]) rfl rfl rfl (Nat.le_of_ble_eq_true rfl) ((P_h37_dr).rcv (by omega)) ?_
      refine x_rdT (d := d) hn (by omega) (by omega) (P_h37_dr).toZ P_h37_in hD0 (fun k v z zv z1 z4 h6 f6 P_h6_dr D6 => ?_) (fun T2 a z h6 f6 P_h6_dr D6 => ?_)
      · skip
        have F_h6_0 : h6 0 = .inr (10, [.ref 1, .ref ou, .ref ne, .ref 7, .long (lN id), .ref sta, .ref dra, .ref 67, .ref 81, .ref 189, .int (nI way), .int (nI least)]) := (f6 _ (by omega)).trans F_h37_0
        have F_h6_1 : h6 1 = .inr (7, [.ref 2, .int (nI (l).length), .int 0, .long 0, .int 0]) := (f6 _ (by omega)).trans F_h37_1
        have P_h6_in : RowIs h6 1 8000 (some l) 0 0 := (P_h37_in).zfr f6 (by omega) (by omega)
        have P_h6_co : RowIs h6 7 8000 (some ld) 0 0 := (P_h37_co).zfr f6 (by omega) (by omega)
        have P_h6_st : StX h6 sta T := (P_h37_st).zfr f6 (fun j h1 h2 => by omega)
        have P_h6_ou : RowIs h6 ou 12000 (some lo) 0 0 := (P_h37_ou).zfr f6 (by omega) (by omega)
        have P_h6_nx : RowIs h6 ne 12000 b0 ho0 hd0 := (P_h37_nx).zfr f6 (by omega) (by omega)
        have P_h6_ab : AbA h6 ab := (P_h37_ab).zfr f6 (by omega)
        have P_h6_pk : PkY h6 S := by
          obtain ⟨⟨cnt, a⟩, ⟨ar, b⟩, c, d, e, g, i, j, k, l⟩ := P_h37_pk
          exact ⟨⟨cnt, (f6 _ (by omega)).trans a⟩, ⟨ar, (f6 _ (by omega)).trans b⟩, (c).zfr f6 (by omega), (d).zfr f6 (by omega), (e).zfr f6 (fun x h1 h2 => by omega), (g).zfr f6 (fun x h1 h2 => by omega), D6, (j).zfr f6 (fun x h1 h2 => by omega) (by omega) (by omega), (k).zfr f6 (fun x h1 h2 => by omega) (by omega) (by omega), (l).zfr f6 (fun x h1 h2 => by omega) (by omega) (by omega)⟩
        have FR_h6 : Fr h h6 (fun j => j ≤ 80) := (FR_h37).ztr ((f6).mono (fun j hj => by omega))
        show WX _ _ _ 59 [(0, .ref 0), (1, .int (nI b))] [.int v] (n, s, h6)
        refine WX.s1 rfl rfl ?_
        refine WX.s1 (L' := [(0, .ref 0), (1, .int (nI b)), (2, .int v)]) rfl rfl ?_
        refine WX.s1 rfl rfl ?_
        have hneg : ¬ (0 : Int32) ≤ v := by rw [zv]; rcases (show k = 1 ∨ k = 2 ∨ k = 3 ∨ k = 4 by omega) with q | q | q | q <;> (rw [q]; decide)
        refine WX.if_ rfl (fun c_65 => absurd c_65 (hneg)) (fun c_65 => ?_)
        refine WX.s1 rfl rfl ?_
        exact WX.ret1 rfl (k0 k v ((hbf).mp (by omega)) z zv h6 FR_h6 ⟨F_h6_0, hno, hsd, P_h6_in, P_h6_ou, ⟨_, _, _, P_h6_nx⟩, P_h6_co, P_h6_st, P_h6_dr, ⟨S, P_h6_pk⟩, P_h6_ab⟩)
      · skip
        have F_h6_0 : h6 0 = .inr (10, [.ref 1, .ref ou, .ref ne, .ref 7, .long (lN id), .ref sta, .ref dra, .ref 67, .ref 81, .ref 189, .int (nI way), .int (nI least)]) := (f6 _ (by omega)).trans F_h37_0
        have F_h6_1 : h6 1 = .inr (7, [.ref 2, .int (nI (l).length), .int 0, .long 0, .int 0]) := (f6 _ (by omega)).trans F_h37_1
        have P_h6_in : RowIs h6 1 8000 (some l) 0 0 := (P_h37_in).zfr f6 (by omega) (by omega)
        have P_h6_co : RowIs h6 7 8000 (some ld) 0 0 := (P_h37_co).zfr f6 (by omega) (by omega)
        have P_h6_st : StX h6 sta T := (P_h37_st).zfr f6 (fun j h1 h2 => by omega)
        have P_h6_ou : RowIs h6 ou 12000 (some lo) 0 0 := (P_h37_ou).zfr f6 (by omega) (by omega)
        have P_h6_nx : RowIs h6 ne 12000 b0 ho0 hd0 := (P_h37_nx).zfr f6 (by omega) (by omega)
        have P_h6_ab : AbA h6 ab := (P_h37_ab).zfr f6 (by omega)
        have P_h6_pk : PkY h6 S := by
          obtain ⟨⟨cnt, a⟩, ⟨ar, b⟩, c, d, e, g, i, j, k, l⟩ := P_h37_pk
          exact ⟨⟨cnt, (f6 _ (by omega)).trans a⟩, ⟨ar, (f6 _ (by omega)).trans b⟩, (c).zfr f6 (by omega), (d).zfr f6 (by omega), (e).zfr f6 (fun x h1 h2 => by omega), (g).zfr f6 (fun x h1 h2 => by omega), D6, (j).zfr f6 (fun x h1 h2 => by omega) (by omega) (by omega), (k).zfr f6 (fun x h1 h2 => by omega) (by omega) (by omega), (l).zfr f6 (fun x h1 h2 => by omega) (by omega) (by omega)⟩
        have FR_h6 : Fr h h6 (fun j => j ≤ 80) := (FR_h37).ztr ((f6).mono (fun j hj => by omega))
        obtain ⟨-, q12, qal⟩ := RdT.ok hle z
        show WX _ _ _ 59 [(0, .ref 0), (1, .int (nI b))] [.int (nI a)] (n, s, h6)
        refine WX.s1 rfl rfl ?_
        refine WX.s1 (L' := [(0, .ref 0), (1, .int (nI b)), (2, .int (nI a))]) rfl rfl ?_
        refine WX.s1 rfl rfl ?_
        refine WX.if_ rfl (fun c_65 => ?_) (fun c_65 => absurd ((nI_leI (a := 0) (b := a) (by omega) (by omega)).mpr (by omega)) c_65)
        clear c_65
        exact x_lrEnd (d := d + 4) (a := a) (b := b) (T2 := T2) (id2 := wdN l 4 4) hn hnb hno hsd hb qal (by rw [if_pos (by omega)]) F_h6_0 F_h6_1 P_h6_in P_h6_co P_h6_st P_h6_dr P_h6_ou P_h6_nx P_h6_ab P_h6_pk (fun h9 f9 q9 => k2 T2 a ((hbf).mp (by omega)) z h9 ((FR_h6).ztr f9) q9)
  refine WX.s1 rfl rfl ?_
  refine WX.get1 (fs := [.ref 1, .ref ou, .ref ne, .ref 7, .long (lN id), .ref sta, .ref dra, .ref 67, .ref 81, .ref 189, .int (nI way), .int (nI least)]) rfl (by omega) (F_h_0) rfl ?_
  refine WX.get1 (fs := [.ref 2, .int (nI (l).length), .int 0, .long 0, .int 0]) rfl (by omega) (F_h_1) rfl ?_
  refine WX.s1 rfl rfl ?_
  refine WX.icmp rfl (fun c_8 => ?_) (fun c_8 => ?_)
  · skip
    have n_8 : (l).length < 4 := (nI_ltI (a := (l).length) (b := 4) (by omega) (by omega)).mp c_8
    refine WX.s1 rfl rfl ?_
    exact t32 0 (by decide) ⟨fun z => absurd z (by decide), fun z => absurd z.1 (by omega)⟩
  · skip
    have n_8 : 4 ≤ (l).length := Nat.le_of_not_lt (fun zz_ => c_8 ((nI_ltI (a := (l).length) (b := 4) (by omega) (by omega)).mpr zz_))
    refine WX.s1 rfl rfl ?_
    refine WX.get1 (fs := [.ref 1, .ref ou, .ref ne, .ref 7, .long (lN id), .ref sta, .ref dra, .ref 67, .ref 81, .ref 189, .int (nI way), .int (nI least)]) rfl (by omega) (F_h_0) rfl ?_
    refine WX.s1 rfl rfl ?_
    refine WX.s1 rfl rfl ?_
    refine WX.callC (vs := [.ref 1, .int 0, .int 4]) rfl rfl rfl (Nat.le_of_ble_eq_true rfl) ((P_h_in).rcv (by omega)) ?_
    refine x_num (d := d + 5) (a := 0) (b := 4) hn (by decide) (by decide) P_h_in ?_
    show WX _ _ _ 20 [(0, .ref 0)] [.long (wdL l 0 4)] (n, s, h)
    refine WX.s1 rfl rfl ?_
    refine WX.s1 (S' := [.int (lg_cmp (wdL l 0 4) 3962610743)]) rfl rfl ?_
    refine WX.if_ rfl (fun c_24 => ?_) (fun c_24 => ?_)
    · skip
      refine WX.s1 rfl rfl ?_
      exact t32 0 (by decide) ⟨fun z => absurd z (by decide), fun z => absurd ((lcN_eq (b := 3962610743) (by omega) (by decide)).mpr z.2) c_24⟩
    · skip
      refine WX.s1 rfl rfl ?_
      refine WX.s1 rfl rfl ?_
      exact t32 1 (by decide) ⟨fun _ => ⟨by omega, (lcN_eq (b := 3962610743) (by omega) (by decide)).mp (Classical.not_not.mp c_24)⟩, fun _ => rfl⟩
theorem x_learnL {d n s : Nat} {h : Nat → aE} {id way least : Nat} {l lo ld : List Nat} {T : PkS} {ab : Nat → Nat} (hn : 190 ≤ n) (hnb : n < aBig) (hX : SPX h id way least l lo ld T ab) {Ψ : Option Value → aH → Prop} (k0 : ∀ k v, fmd l → RdT l (.inl k) → v = -nI k → ∀ h', Fr h h' (fun j => j ≤ 189) → SPX h' id way least l lo ld T ab → Ψ (some (.int v)) (n, s, h')) (k1 : ¬ fmd l → ∀ h', Fr h h' (fun j => j ≤ 189) → SPX h' 0 way least [] lo l stN ab → Ψ (some (.int (nI (l).length))) (n, s, h')) (k2 : ∀ T2 a, fmd l → RdT l (.inr (T2, a)) → ∀ h', Fr h h' (fun j => j ≤ 189) → SPX h' (wdN l 4 4) way least [] lo (sliceL l a (l).length) T2 ab → Ψ (some (.int (nI ((l).length - a)))) (n, s, h')) : WO (mM (d + 8)) 129 [.ref 0] (n, s, h) Ψ := by
  obtain ⟨ou, ne, sta, dra, a1, a2, a3, a4, a5, ⟨b0, ho0, hd0, a6⟩, a7, a8, a9, ⟨S, a10⟩, a11⟩ := hX
  exact x_lrn0 hn hnb a2 a3 a1 (row_obj a4) a4 a7 a8 a9 a5 a6 a11 a10 (fun k v z1 z2 z3 h' f q => k0 k v z1 z2 z3 h' ((f).mono (fun j hj => by omega)) ⟨_, _, _, _, q⟩) (fun z h' f q => k1 z h' ((f).mono (fun j hj => by omega)) ⟨_, _, _, _, q⟩) (fun T2 a z1 z2 h' f q => k2 T2 a z1 z2 h' ((f).mono (fun j hj => by omega)) ⟨_, _, _, _, q⟩)
