/-! constructors: the cells that they leave, from the object's own on -/
def Cells (h : Nat → aE) : Nat → List aE → Prop
  | _, [] => True
  | k, e :: es => h k = e ∧ Cells h (k + 1) es
def cRow (N : Nat) (k : Nat) : List aE := [.inr (7, [.ref (k + 1), .int 0, .int 0, .long 0, .int 0]), .inl (0, N, .inl (fun _ => 0))]
theorem n_row {d s : Nat} {h : Nat → aE} {k N : Nat} {m : Int32} (hbig : k + 2 < aBig) (F_h_k : h k = .inr (7, zX7)) (hm : m = nI N) (hN : N ≤ 60000) {Ψ : Option Value → aH → Prop} (kk : ∀ h', (∀ j, j < k ∨ aBig ≤ j → h' j = h j) → Cells h' k (cRow N k) → Ψ none (k + 2, s + N, h')) : WO (mM (d + 1)) 84 [.ref k, .int m] (k + 1, s, h) Ψ := by
  subst hm
  exact w_rowInit hbig F_h_k hN (fun h' fr r => kk h' (fun j hj => fr j (by omega)) ⟨r.1, r.2, trivial⟩)
def cCodes (k : Nat) : List aE := [.inr (0, [.ref (k + 1), .ref (k + 2), .ref (k + 3), .int 0, .int 0]), .inl (1, 256, .inl (fun _ => 0)), .inl (1, 256, .inl (fun _ => 0)), .inl (1, 13, .inl (fun _ => 0))]
set_option maxRecDepth 20000 in
theorem n_codes {d s : Nat} {h : Nat → aE} {k : Nat} (hbig : k + 5 < aBig) (F_h_k : h k = .inr (0, zX0)) {Ψ : Option Value → aH → Prop} (kk : ∀ h', (∀ j, j < k ∨ aBig ≤ j → h' j = h j) → Cells h' k (cCodes k) → Ψ none (k + 4, s + 525, h')) : WO (mM (d + 1)) 0 [.ref k] (k + 1, s, h) Ψ := by
  refine WO.of (Nat.le_of_ble_eq_true rfl) ?_
  have FR_h : ∀ j, j < k ∨ aBig ≤ j → h j = h j := fun _ _ => rfl
  show WX (lk tX0_init) (mM (d + 0)) Ψ 0 [(0, .ref k)] [] (k + 1, s, h)
  refine WX.s1 rfl rfl ?_
  refine WX.s1 rfl rfl ?_
  refine WX.s1 rfl rfl ?_
  refine WX.s1 rfl rfl ?_
  refine WX.newaN (N := 256) (z0 := .inl (fun _ => 0)) rfl (by decide) (by decide) (bigk (k := k) (a := 2) hbig (by decide)) rfl (fun h8 e_h8 => ?_)
  have F_h8_k : h8 k = .inr (0, [.null, .null, .null, .int 0, .int 0]) := by rw [e_h8, va_up_neq (nek1 (a := 1) (by decide))]; exact F_h_k
  have F_h8__k_1_ : h8 (k + 1) = .inl (1, 256, .inl (fun _ => 0)) := by rw [e_h8]; exact va_up_eq
  have FR_h8 : ∀ j, j < k ∨ aBig ≤ j → h8 j = h j := fun j hj => by rw [e_h8]; exact (va_up_neq (frne (a := 1) hj hbig (by decide))).trans (FR_h j hj)
  clear F_h_k FR_h e_h8
  refine WX.put1 (fs := [.null, .null, .null, .int 0, .int 0]) (fs' := [.ref (k + 1), .null, .null, .int 0, .int 0]) rfl (ltk0 (c := 2) (by decide)) (F_h8_k) (Nat.le_of_ble_eq_true rfl) (rfl) rfl (fun h10 e_h10 => ?_)
  have F_h10_k : h10 k = .inr (0, [.ref (k + 1), .null, .null, .int 0, .int 0]) := by rw [e_h10]; exact va_up_eq
  have F_h10__k_1_ : h10 (k + 1) = .inl (1, 256, .inl (fun _ => 0)) := by rw [e_h10, va_up_neq (nek0 (a := 1) (by decide))]; exact F_h8__k_1_
  have FR_h10 : ∀ j, j < k ∨ aBig ≤ j → h10 j = h j := fun j hj => by rw [e_h10]; exact (va_up_neq (frne0 hj hbig)).trans (FR_h8 j hj)
  clear F_h8_k F_h8__k_1_ FR_h8 e_h10
  clear h8
  refine WX.s1 rfl rfl ?_
  refine WX.s1 rfl rfl ?_
  refine WX.newaN (N := 256) (z0 := .inl (fun _ => 0)) rfl (by decide) (by decide) (bigk (k := k) (a := 3) hbig (by decide)) rfl (fun h17 e_h17 => ?_)
  have F_h17_k : h17 k = .inr (0, [.ref (k + 1), .null, .null, .int 0, .int 0]) := by rw [e_h17, va_up_neq (nek1 (a := 2) (by decide))]; exact F_h10_k
  have F_h17__k_1_ : h17 (k + 1) = .inl (1, 256, .inl (fun _ => 0)) := by rw [e_h17, va_up_neq (nek (a := 1) (b := 2) (by decide))]; exact F_h10__k_1_
  have F_h17__k_2_ : h17 (k + 2) = .inl (1, 256, .inl (fun _ => 0)) := by rw [e_h17]; exact va_up_eq
  have FR_h17 : ∀ j, j < k ∨ aBig ≤ j → h17 j = h j := fun j hj => by rw [e_h17]; exact (va_up_neq (frne (a := 2) hj hbig (by decide))).trans (FR_h10 j hj)
  clear F_h10_k F_h10__k_1_ FR_h10 e_h17
  clear h10
  refine WX.put1 (fs := [.ref (k + 1), .null, .null, .int 0, .int 0]) (fs' := [.ref (k + 1), .ref (k + 2), .null, .int 0, .int 0]) rfl (ltk0 (c := 3) (by decide)) (F_h17_k) (Nat.le_of_ble_eq_true rfl) (rfl) rfl (fun h19 e_h19 => ?_)
  have F_h19_k : h19 k = .inr (0, [.ref (k + 1), .ref (k + 2), .null, .int 0, .int 0]) := by rw [e_h19]; exact va_up_eq
  have F_h19__k_1_ : h19 (k + 1) = .inl (1, 256, .inl (fun _ => 0)) := by rw [e_h19, va_up_neq (nek0 (a := 1) (by decide))]; exact F_h17__k_1_
  have F_h19__k_2_ : h19 (k + 2) = .inl (1, 256, .inl (fun _ => 0)) := by rw [e_h19, va_up_neq (nek0 (a := 2) (by decide))]; exact F_h17__k_2_
  have FR_h19 : ∀ j, j < k ∨ aBig ≤ j → h19 j = h j := fun j hj => by rw [e_h19]; exact (va_up_neq (frne0 hj hbig)).trans (FR_h17 j hj)
  clear F_h17_k F_h17__k_1_ F_h17__k_2_ FR_h17 e_h19
  clear h17
  refine WX.s1 rfl rfl ?_
  refine WX.s1 rfl rfl ?_
  refine WX.newaN (N := 13) (z0 := .inl (fun _ => 0)) rfl (by decide) (by decide) (bigk (k := k) (a := 4) hbig (by decide)) rfl (fun h25 e_h25 => ?_)
  have F_h25_k : h25 k = .inr (0, [.ref (k + 1), .ref (k + 2), .null, .int 0, .int 0]) := by rw [e_h25, va_up_neq (nek1 (a := 3) (by decide))]; exact F_h19_k
  have F_h25__k_1_ : h25 (k + 1) = .inl (1, 256, .inl (fun _ => 0)) := by rw [e_h25, va_up_neq (nek (a := 1) (b := 3) (by decide))]; exact F_h19__k_1_
  have F_h25__k_2_ : h25 (k + 2) = .inl (1, 256, .inl (fun _ => 0)) := by rw [e_h25, va_up_neq (nek (a := 2) (b := 3) (by decide))]; exact F_h19__k_2_
  have F_h25__k_3_ : h25 (k + 3) = .inl (1, 13, .inl (fun _ => 0)) := by rw [e_h25]; exact va_up_eq
  have FR_h25 : ∀ j, j < k ∨ aBig ≤ j → h25 j = h j := fun j hj => by rw [e_h25]; exact (va_up_neq (frne (a := 3) hj hbig (by decide))).trans (FR_h19 j hj)
  clear F_h19_k F_h19__k_1_ F_h19__k_2_ FR_h19 e_h25
  clear h19
  refine WX.put1 (fs := [.ref (k + 1), .ref (k + 2), .null, .int 0, .int 0]) (fs' := [.ref (k + 1), .ref (k + 2), .ref (k + 3), .int 0, .int 0]) rfl (ltk0 (c := 4) (by decide)) (F_h25_k) (Nat.le_of_ble_eq_true rfl) (rfl) rfl (fun h27 e_h27 => ?_)
  have F_h27_k : h27 k = .inr (0, [.ref (k + 1), .ref (k + 2), .ref (k + 3), .int 0, .int 0]) := by rw [e_h27]; exact va_up_eq
  have F_h27__k_1_ : h27 (k + 1) = .inl (1, 256, .inl (fun _ => 0)) := by rw [e_h27, va_up_neq (nek0 (a := 1) (by decide))]; exact F_h25__k_1_
  have F_h27__k_2_ : h27 (k + 2) = .inl (1, 256, .inl (fun _ => 0)) := by rw [e_h27, va_up_neq (nek0 (a := 2) (by decide))]; exact F_h25__k_2_
  have F_h27__k_3_ : h27 (k + 3) = .inl (1, 13, .inl (fun _ => 0)) := by rw [e_h27, va_up_neq (nek0 (a := 3) (by decide))]; exact F_h25__k_3_
  have FR_h27 : ∀ j, j < k ∨ aBig ≤ j → h27 j = h j := fun j hj => by rw [e_h27]; exact (va_up_neq (frne0 hj hbig)).trans (FR_h25 j hj)
  clear F_h25_k F_h25__k_1_ F_h25__k_2_ F_h25__k_3_ FR_h25 e_h27
  clear h25
  refine WX.ret0 rfl ?_
  exact kk h27 FR_h27 ⟨F_h27_k, F_h27__k_1_, F_h27__k_2_, F_h27__k_3_, trivial⟩
def cKnots (k : Nat) : List aE := [.inr (4, [.ref (k + 1), .ref (k + 2), .ref (k + 3), .ref (k + 4), .ref (k + 5)]), .inl (1, 256, .inl (fun _ => 0)), .inl (1, 256, .inl (fun _ => 0)), .inl (1, 512, .inl (fun _ => 0)), .inl (1, 512, .inl (fun _ => 0)), .inl (1, 512, .inl (fun _ => 0))]
set_option maxRecDepth 20000 in
theorem n_knots {d s : Nat} {h : Nat → aE} {k : Nat} (hbig : k + 7 < aBig) (F_h_k : h k = .inr (4, zX4)) {Ψ : Option Value → aH → Prop} (kk : ∀ h', (∀ j, j < k ∨ aBig ≤ j → h' j = h j) → Cells h' k (cKnots k) → Ψ none (k + 6, s + 2048, h')) : WO (mM (d + 1)) 45 [.ref k] (k + 1, s, h) Ψ := by
  refine WO.of (Nat.le_of_ble_eq_true rfl) ?_
  have FR_h : ∀ j, j < k ∨ aBig ≤ j → h j = h j := fun _ _ => rfl
  show WX (lk tX4_init) (mM (d + 0)) Ψ 0 [(0, .ref k)] [] (k + 1, s, h)
  refine WX.s1 rfl rfl ?_
  refine WX.s1 rfl rfl ?_
  refine WX.s1 rfl rfl ?_
  refine WX.s1 rfl rfl ?_
  refine WX.newaN (N := 256) (z0 := .inl (fun _ => 0)) rfl (by decide) (by decide) (bigk (k := k) (a := 2) hbig (by decide)) rfl (fun h8 e_h8 => ?_)
  have F_h8_k : h8 k = .inr (4, [.null, .null, .null, .null, .null]) := by rw [e_h8, va_up_neq (nek1 (a := 1) (by decide))]; exact F_h_k
  have F_h8__k_1_ : h8 (k + 1) = .inl (1, 256, .inl (fun _ => 0)) := by rw [e_h8]; exact va_up_eq
  have FR_h8 : ∀ j, j < k ∨ aBig ≤ j → h8 j = h j := fun j hj => by rw [e_h8]; exact (va_up_neq (frne (a := 1) hj hbig (by decide))).trans (FR_h j hj)
  clear F_h_k FR_h e_h8
  refine WX.put1 (fs := [.null, .null, .null, .null, .null]) (fs' := [.ref (k + 1), .null, .null, .null, .null]) rfl (ltk0 (c := 2) (by decide)) (F_h8_k) (Nat.le_of_ble_eq_true rfl) (rfl) rfl (fun h10 e_h10 => ?_)
  have F_h10_k : h10 k = .inr (4, [.ref (k + 1), .null, .null, .null, .null]) := by rw [e_h10]; exact va_up_eq
  have F_h10__k_1_ : h10 (k + 1) = .inl (1, 256, .inl (fun _ => 0)) := by rw [e_h10, va_up_neq (nek0 (a := 1) (by decide))]; exact F_h8__k_1_
  have FR_h10 : ∀ j, j < k ∨ aBig ≤ j → h10 j = h j := fun j hj => by rw [e_h10]; exact (va_up_neq (frne0 hj hbig)).trans (FR_h8 j hj)
  clear F_h8_k F_h8__k_1_ FR_h8 e_h10
  clear h8
  refine WX.s1 rfl rfl ?_
  refine WX.s1 rfl rfl ?_
  refine WX.newaN (N := 256) (z0 := .inl (fun _ => 0)) rfl (by decide) (by decide) (bigk (k := k) (a := 3) hbig (by decide)) rfl (fun h17 e_h17 => ?_)
  have F_h17_k : h17 k = .inr (4, [.ref (k + 1), .null, .null, .null, .null]) := by rw [e_h17, va_up_neq (nek1 (a := 2) (by decide))]; exact F_h10_k
  have F_h17__k_1_ : h17 (k + 1) = .inl (1, 256, .inl (fun _ => 0)) := by rw [e_h17, va_up_neq (nek (a := 1) (b := 2) (by decide))]; exact F_h10__k_1_
  have F_h17__k_2_ : h17 (k + 2) = .inl (1, 256, .inl (fun _ => 0)) := by rw [e_h17]; exact va_up_eq
  have FR_h17 : ∀ j, j < k ∨ aBig ≤ j → h17 j = h j := fun j hj => by rw [e_h17]; exact (va_up_neq (frne (a := 2) hj hbig (by decide))).trans (FR_h10 j hj)
  clear F_h10_k F_h10__k_1_ FR_h10 e_h17
  clear h10
  refine WX.put1 (fs := [.ref (k + 1), .null, .null, .null, .null]) (fs' := [.ref (k + 1), .ref (k + 2), .null, .null, .null]) rfl (ltk0 (c := 3) (by decide)) (F_h17_k) (Nat.le_of_ble_eq_true rfl) (rfl) rfl (fun h19 e_h19 => ?_)
  have F_h19_k : h19 k = .inr (4, [.ref (k + 1), .ref (k + 2), .null, .null, .null]) := by rw [e_h19]; exact va_up_eq
  have F_h19__k_1_ : h19 (k + 1) = .inl (1, 256, .inl (fun _ => 0)) := by rw [e_h19, va_up_neq (nek0 (a := 1) (by decide))]; exact F_h17__k_1_
  have F_h19__k_2_ : h19 (k + 2) = .inl (1, 256, .inl (fun _ => 0)) := by rw [e_h19, va_up_neq (nek0 (a := 2) (by decide))]; exact F_h17__k_2_
  have FR_h19 : ∀ j, j < k ∨ aBig ≤ j → h19 j = h j := fun j hj => by rw [e_h19]; exact (va_up_neq (frne0 hj hbig)).trans (FR_h17 j hj)
  clear F_h17_k F_h17__k_1_ F_h17__k_2_ FR_h17 e_h19
  clear h17
  refine WX.s1 rfl rfl ?_
  refine WX.s1 rfl rfl ?_
  refine WX.newaN (N := 512) (z0 := .inl (fun _ => 0)) rfl (by decide) (by decide) (bigk (k := k) (a := 4) hbig (by decide)) rfl (fun h26 e_h26 => ?_)
  have F_h26_k : h26 k = .inr (4, [.ref (k + 1), .ref (k + 2), .null, .null, .null]) := by rw [e_h26, va_up_neq (nek1 (a := 3) (by decide))]; exact F_h19_k
  have F_h26__k_1_ : h26 (k + 1) = .inl (1, 256, .inl (fun _ => 0)) := by rw [e_h26, va_up_neq (nek (a := 1) (b := 3) (by decide))]; exact F_h19__k_1_
  have F_h26__k_2_ : h26 (k + 2) = .inl (1, 256, .inl (fun _ => 0)) := by rw [e_h26, va_up_neq (nek (a := 2) (b := 3) (by decide))]; exact F_h19__k_2_
  have F_h26__k_3_ : h26 (k + 3) = .inl (1, 512, .inl (fun _ => 0)) := by rw [e_h26]; exact va_up_eq
  have FR_h26 : ∀ j, j < k ∨ aBig ≤ j → h26 j = h j := fun j hj => by rw [e_h26]; exact (va_up_neq (frne (a := 3) hj hbig (by decide))).trans (FR_h19 j hj)
  clear F_h19_k F_h19__k_1_ F_h19__k_2_ FR_h19 e_h26
  clear h19
  refine WX.put1 (fs := [.ref (k + 1), .ref (k + 2), .null, .null, .null]) (fs' := [.ref (k + 1), .ref (k + 2), .ref (k + 3), .null, .null]) rfl (ltk0 (c := 4) (by decide)) (F_h26_k) (Nat.le_of_ble_eq_true rfl) (rfl) rfl (fun h28 e_h28 => ?_)
  have F_h28_k : h28 k = .inr (4, [.ref (k + 1), .ref (k + 2), .ref (k + 3), .null, .null]) := by rw [e_h28]; exact va_up_eq
  have F_h28__k_1_ : h28 (k + 1) = .inl (1, 256, .inl (fun _ => 0)) := by rw [e_h28, va_up_neq (nek0 (a := 1) (by decide))]; exact F_h26__k_1_
  have F_h28__k_2_ : h28 (k + 2) = .inl (1, 256, .inl (fun _ => 0)) := by rw [e_h28, va_up_neq (nek0 (a := 2) (by decide))]; exact F_h26__k_2_
  have F_h28__k_3_ : h28 (k + 3) = .inl (1, 512, .inl (fun _ => 0)) := by rw [e_h28, va_up_neq (nek0 (a := 3) (by decide))]; exact F_h26__k_3_
  have FR_h28 : ∀ j, j < k ∨ aBig ≤ j → h28 j = h j := fun j hj => by rw [e_h28]; exact (va_up_neq (frne0 hj hbig)).trans (FR_h26 j hj)
  clear F_h26_k F_h26__k_1_ F_h26__k_2_ F_h26__k_3_ FR_h26 e_h28
  clear h26
  refine WX.s1 rfl rfl ?_
  refine WX.s1 rfl rfl ?_
  refine WX.newaN (N := 512) (z0 := .inl (fun _ => 0)) rfl (by decide) (by decide) (bigk (k := k) (a := 5) hbig (by decide)) rfl (fun h35 e_h35 => ?_)
  have F_h35_k : h35 k = .inr (4, [.ref (k + 1), .ref (k + 2), .ref (k + 3), .null, .null]) := by rw [e_h35, va_up_neq (nek1 (a := 4) (by decide))]; exact F_h28_k
  have F_h35__k_1_ : h35 (k + 1) = .inl (1, 256, .inl (fun _ => 0)) := by rw [e_h35, va_up_neq (nek (a := 1) (b := 4) (by decide))]; exact F_h28__k_1_
  have F_h35__k_2_ : h35 (k + 2) = .inl (1, 256, .inl (fun _ => 0)) := by rw [e_h35, va_up_neq (nek (a := 2) (b := 4) (by decide))]; exact F_h28__k_2_
  have F_h35__k_3_ : h35 (k + 3) = .inl (1, 512, .inl (fun _ => 0)) := by rw [e_h35, va_up_neq (nek (a := 3) (b := 4) (by decide))]; exact F_h28__k_3_
  have F_h35__k_4_ : h35 (k + 4) = .inl (1, 512, .inl (fun _ => 0)) := by rw [e_h35]; exact va_up_eq
  have FR_h35 : ∀ j, j < k ∨ aBig ≤ j → h35 j = h j := fun j hj => by rw [e_h35]; exact (va_up_neq (frne (a := 4) hj hbig (by decide))).trans (FR_h28 j hj)
  clear F_h28_k F_h28__k_1_ F_h28__k_2_ F_h28__k_3_ FR_h28 e_h35
  clear h28
  refine WX.put1 (fs := [.ref (k + 1), .ref (k + 2), .ref (k + 3), .null, .null]) (fs' := [.ref (k + 1), .ref (k + 2), .ref (k + 3), .ref (k + 4), .null]) rfl (ltk0 (c := 5) (by decide)) (F_h35_k) (Nat.le_of_ble_eq_true rfl) (rfl) rfl (fun h37 e_h37 => ?_)
  have F_h37_k : h37 k = .inr (4, [.ref (k + 1), .ref (k + 2), .ref (k + 3), .ref (k + 4), .null]) := by rw [e_h37]; exact va_up_eq
  have F_h37__k_1_ : h37 (k + 1) = .inl (1, 256, .inl (fun _ => 0)) := by rw [e_h37, va_up_neq (nek0 (a := 1) (by decide))]; exact F_h35__k_1_
  have F_h37__k_2_ : h37 (k + 2) = .inl (1, 256, .inl (fun _ => 0)) := by rw [e_h37, va_up_neq (nek0 (a := 2) (by decide))]; exact F_h35__k_2_
  have F_h37__k_3_ : h37 (k + 3) = .inl (1, 512, .inl (fun _ => 0)) := by rw [e_h37, va_up_neq (nek0 (a := 3) (by decide))]; exact F_h35__k_3_
  have F_h37__k_4_ : h37 (k + 4) = .inl (1, 512, .inl (fun _ => 0)) := by rw [e_h37, va_up_neq (nek0 (a := 4) (by decide))]; exact F_h35__k_4_
  have FR_h37 : ∀ j, j < k ∨ aBig ≤ j → h37 j = h j := fun j hj => by rw [e_h37]; exact (va_up_neq (frne0 hj hbig)).trans (FR_h35 j hj)
  clear F_h35_k F_h35__k_1_ F_h35__k_2_ F_h35__k_3_ F_h35__k_4_ FR_h35 e_h37
  clear h35
  refine WX.s1 rfl rfl ?_
  refine WX.s1 rfl rfl ?_
  refine WX.newaN (N := 512) (z0 := .inl (fun _ => 0)) rfl (by decide) (by decide) (bigk (k := k) (a := 6) hbig (by decide)) rfl (fun h44 e_h44 => ?_)
  have F_h44_k : h44 k = .inr (4, [.ref (k + 1), .ref (k + 2), .ref (k + 3), .ref (k + 4), .null]) := by rw [e_h44, va_up_neq (nek1 (a := 5) (by decide))]; exact F_h37_k
  have F_h44__k_1_ : h44 (k + 1) = .inl (1, 256, .inl (fun _ => 0)) := by rw [e_h44, va_up_neq (nek (a := 1) (b := 5) (by decide))]; exact F_h37__k_1_
  have F_h44__k_2_ : h44 (k + 2) = .inl (1, 256, .inl (fun _ => 0)) := by rw [e_h44, va_up_neq (nek (a := 2) (b := 5) (by decide))]; exact F_h37__k_2_
  have F_h44__k_3_ : h44 (k + 3) = .inl (1, 512, .inl (fun _ => 0)) := by rw [e_h44, va_up_neq (nek (a := 3) (b := 5) (by decide))]; exact F_h37__k_3_
  have F_h44__k_4_ : h44 (k + 4) = .inl (1, 512, .inl (fun _ => 0)) := by rw [e_h44, va_up_neq (nek (a := 4) (b := 5) (by decide))]; exact F_h37__k_4_
  have F_h44__k_5_ : h44 (k + 5) = .inl (1, 512, .inl (fun _ => 0)) := by rw [e_h44]; exact va_up_eq
  have FR_h44 : ∀ j, j < k ∨ aBig ≤ j → h44 j = h j := fun j hj => by rw [e_h44]; exact (va_up_neq (frne (a := 5) hj hbig (by decide))).trans (FR_h37 j hj)
  clear F_h37_k F_h37__k_1_ F_h37__k_2_ F_h37__k_3_ F_h37__k_4_ FR_h37 e_h44
  clear h37
  refine WX.put1 (fs := [.ref (k + 1), .ref (k + 2), .ref (k + 3), .ref (k + 4), .null]) (fs' := [.ref (k + 1), .ref (k + 2), .ref (k + 3), .ref (k + 4), .ref (k + 5)]) rfl (ltk0 (c := 6) (by decide)) (F_h44_k) (Nat.le_of_ble_eq_true rfl) (rfl) rfl (fun h46 e_h46 => ?_)
  have F_h46_k : h46 k = .inr (4, [.ref (k + 1), .ref (k + 2), .ref (k + 3), .ref (k + 4), .ref (k + 5)]) := by rw [e_h46]; exact va_up_eq
  have F_h46__k_1_ : h46 (k + 1) = .inl (1, 256, .inl (fun _ => 0)) := by rw [e_h46, va_up_neq (nek0 (a := 1) (by decide))]; exact F_h44__k_1_
  have F_h46__k_2_ : h46 (k + 2) = .inl (1, 256, .inl (fun _ => 0)) := by rw [e_h46, va_up_neq (nek0 (a := 2) (by decide))]; exact F_h44__k_2_
  have F_h46__k_3_ : h46 (k + 3) = .inl (1, 512, .inl (fun _ => 0)) := by rw [e_h46, va_up_neq (nek0 (a := 3) (by decide))]; exact F_h44__k_3_
  have F_h46__k_4_ : h46 (k + 4) = .inl (1, 512, .inl (fun _ => 0)) := by rw [e_h46, va_up_neq (nek0 (a := 4) (by decide))]; exact F_h44__k_4_
  have F_h46__k_5_ : h46 (k + 5) = .inl (1, 512, .inl (fun _ => 0)) := by rw [e_h46, va_up_neq (nek0 (a := 5) (by decide))]; exact F_h44__k_5_
  have FR_h46 : ∀ j, j < k ∨ aBig ≤ j → h46 j = h j := fun j hj => by rw [e_h46]; exact (va_up_neq (frne0 hj hbig)).trans (FR_h44 j hj)
  clear F_h44_k F_h44__k_1_ F_h44__k_2_ F_h44__k_3_ F_h44__k_4_ F_h44__k_5_ FR_h44 e_h46
  clear h44
  refine WX.ret0 rfl ?_
  exact kk h46 FR_h46 ⟨F_h46_k, F_h46__k_1_, F_h46__k_2_, F_h46__k_3_, F_h46__k_4_, F_h46__k_5_, trivial⟩
def cFinder (k : Nat) : List aE := [.inr (3, [.ref (k + 1), .int 0, .ref (k + 2), .ref (k + 3), .int 0, .int 0, .int 0, .int 0, .int 0, .int 0, .int 0, .int 0, .int 0]), .inl (0, 16000, .inl (fun _ => 0)), .inl (1, 16000, .inl (fun _ => 0)), .inl (1, 4096, .inl (fun _ => 0))]
set_option maxRecDepth 20000 in
theorem n_finder {d s : Nat} {h : Nat → aE} {k : Nat} (hbig : k + 5 < aBig) (F_h_k : h k = .inr (3, zX3)) {Ψ : Option Value → aH → Prop} (kk : ∀ h', (∀ j, j < k ∨ aBig ≤ j → h' j = h j) → Cells h' k (cFinder k) → Ψ none (k + 4, s + 36096, h')) : WO (mM (d + 1)) 32 [.ref k] (k + 1, s, h) Ψ := by
  refine WO.of (Nat.le_of_ble_eq_true rfl) ?_
  have FR_h : ∀ j, j < k ∨ aBig ≤ j → h j = h j := fun _ _ => rfl
  show WX (lk tX3_init) (mM (d + 0)) Ψ 0 [(0, .ref k)] [] (k + 1, s, h)
  refine WX.s1 rfl rfl ?_
  refine WX.s1 rfl rfl ?_
  refine WX.s1 rfl rfl ?_
  refine WX.s1 rfl rfl ?_
  refine WX.newaN (N := 16000) (z0 := .inl (fun _ => 0)) rfl (by decide) (by decide) (bigk (k := k) (a := 2) hbig (by decide)) rfl (fun h8 e_h8 => ?_)
  have F_h8_k : h8 k = .inr (3, [.null, .int 0, .null, .null, .int 0, .int 0, .int 0, .int 0, .int 0, .int 0, .int 0, .int 0, .int 0]) := by rw [e_h8, va_up_neq (nek1 (a := 1) (by decide))]; exact F_h_k
  have F_h8__k_1_ : h8 (k + 1) = .inl (0, 16000, .inl (fun _ => 0)) := by rw [e_h8]; exact va_up_eq
  have FR_h8 : ∀ j, j < k ∨ aBig ≤ j → h8 j = h j := fun j hj => by rw [e_h8]; exact (va_up_neq (frne (a := 1) hj hbig (by decide))).trans (FR_h j hj)
  clear F_h_k FR_h e_h8
  refine WX.put1 (fs := [.null, .int 0, .null, .null, .int 0, .int 0, .int 0, .int 0, .int 0, .int 0, .int 0, .int 0, .int 0]) (fs' := [.ref (k + 1), .int 0, .null, .null, .int 0, .int 0, .int 0, .int 0, .int 0, .int 0, .int 0, .int 0, .int 0]) rfl (ltk0 (c := 2) (by decide)) (F_h8_k) (Nat.le_of_ble_eq_true rfl) (rfl) rfl (fun h10 e_h10 => ?_)
  have F_h10_k : h10 k = .inr (3, [.ref (k + 1), .int 0, .null, .null, .int 0, .int 0, .int 0, .int 0, .int 0, .int 0, .int 0, .int 0, .int 0]) := by rw [e_h10]; exact va_up_eq
  have F_h10__k_1_ : h10 (k + 1) = .inl (0, 16000, .inl (fun _ => 0)) := by rw [e_h10, va_up_neq (nek0 (a := 1) (by decide))]; exact F_h8__k_1_
  have FR_h10 : ∀ j, j < k ∨ aBig ≤ j → h10 j = h j := fun j hj => by rw [e_h10]; exact (va_up_neq (frne0 hj hbig)).trans (FR_h8 j hj)
  clear F_h8_k F_h8__k_1_ FR_h8 e_h10
  clear h8
  refine WX.s1 rfl rfl ?_
  refine WX.s1 rfl rfl ?_
  refine WX.newaN (N := 16000) (z0 := .inl (fun _ => 0)) rfl (by decide) (by decide) (bigk (k := k) (a := 3) hbig (by decide)) rfl (fun h17 e_h17 => ?_)
  have F_h17_k : h17 k = .inr (3, [.ref (k + 1), .int 0, .null, .null, .int 0, .int 0, .int 0, .int 0, .int 0, .int 0, .int 0, .int 0, .int 0]) := by rw [e_h17, va_up_neq (nek1 (a := 2) (by decide))]; exact F_h10_k
  have F_h17__k_1_ : h17 (k + 1) = .inl (0, 16000, .inl (fun _ => 0)) := by rw [e_h17, va_up_neq (nek (a := 1) (b := 2) (by decide))]; exact F_h10__k_1_
  have F_h17__k_2_ : h17 (k + 2) = .inl (1, 16000, .inl (fun _ => 0)) := by rw [e_h17]; exact va_up_eq
  have FR_h17 : ∀ j, j < k ∨ aBig ≤ j → h17 j = h j := fun j hj => by rw [e_h17]; exact (va_up_neq (frne (a := 2) hj hbig (by decide))).trans (FR_h10 j hj)
  clear F_h10_k F_h10__k_1_ FR_h10 e_h17
  clear h10
  refine WX.put1 (fs := [.ref (k + 1), .int 0, .null, .null, .int 0, .int 0, .int 0, .int 0, .int 0, .int 0, .int 0, .int 0, .int 0]) (fs' := [.ref (k + 1), .int 0, .ref (k + 2), .null, .int 0, .int 0, .int 0, .int 0, .int 0, .int 0, .int 0, .int 0, .int 0]) rfl (ltk0 (c := 3) (by decide)) (F_h17_k) (Nat.le_of_ble_eq_true rfl) (rfl) rfl (fun h19 e_h19 => ?_)
  have F_h19_k : h19 k = .inr (3, [.ref (k + 1), .int 0, .ref (k + 2), .null, .int 0, .int 0, .int 0, .int 0, .int 0, .int 0, .int 0, .int 0, .int 0]) := by rw [e_h19]; exact va_up_eq
  have F_h19__k_1_ : h19 (k + 1) = .inl (0, 16000, .inl (fun _ => 0)) := by rw [e_h19, va_up_neq (nek0 (a := 1) (by decide))]; exact F_h17__k_1_
  have F_h19__k_2_ : h19 (k + 2) = .inl (1, 16000, .inl (fun _ => 0)) := by rw [e_h19, va_up_neq (nek0 (a := 2) (by decide))]; exact F_h17__k_2_
  have FR_h19 : ∀ j, j < k ∨ aBig ≤ j → h19 j = h j := fun j hj => by rw [e_h19]; exact (va_up_neq (frne0 hj hbig)).trans (FR_h17 j hj)
  clear F_h17_k F_h17__k_1_ F_h17__k_2_ FR_h17 e_h19
  clear h17
  refine WX.s1 rfl rfl ?_
  refine WX.s1 rfl rfl ?_
  refine WX.newaN (N := 4096) (z0 := .inl (fun _ => 0)) rfl (by decide) (by decide) (bigk (k := k) (a := 4) hbig (by decide)) rfl (fun h26 e_h26 => ?_)
  have F_h26_k : h26 k = .inr (3, [.ref (k + 1), .int 0, .ref (k + 2), .null, .int 0, .int 0, .int 0, .int 0, .int 0, .int 0, .int 0, .int 0, .int 0]) := by rw [e_h26, va_up_neq (nek1 (a := 3) (by decide))]; exact F_h19_k
  have F_h26__k_1_ : h26 (k + 1) = .inl (0, 16000, .inl (fun _ => 0)) := by rw [e_h26, va_up_neq (nek (a := 1) (b := 3) (by decide))]; exact F_h19__k_1_
  have F_h26__k_2_ : h26 (k + 2) = .inl (1, 16000, .inl (fun _ => 0)) := by rw [e_h26, va_up_neq (nek (a := 2) (b := 3) (by decide))]; exact F_h19__k_2_
  have F_h26__k_3_ : h26 (k + 3) = .inl (1, 4096, .inl (fun _ => 0)) := by rw [e_h26]; exact va_up_eq
  have FR_h26 : ∀ j, j < k ∨ aBig ≤ j → h26 j = h j := fun j hj => by rw [e_h26]; exact (va_up_neq (frne (a := 3) hj hbig (by decide))).trans (FR_h19 j hj)
  clear F_h19_k F_h19__k_1_ F_h19__k_2_ FR_h19 e_h26
  clear h19
  refine WX.put1 (fs := [.ref (k + 1), .int 0, .ref (k + 2), .null, .int 0, .int 0, .int 0, .int 0, .int 0, .int 0, .int 0, .int 0, .int 0]) (fs' := [.ref (k + 1), .int 0, .ref (k + 2), .ref (k + 3), .int 0, .int 0, .int 0, .int 0, .int 0, .int 0, .int 0, .int 0, .int 0]) rfl (ltk0 (c := 4) (by decide)) (F_h26_k) (Nat.le_of_ble_eq_true rfl) (rfl) rfl (fun h28 e_h28 => ?_)
  have F_h28_k : h28 k = .inr (3, [.ref (k + 1), .int 0, .ref (k + 2), .ref (k + 3), .int 0, .int 0, .int 0, .int 0, .int 0, .int 0, .int 0, .int 0, .int 0]) := by rw [e_h28]; exact va_up_eq
  have F_h28__k_1_ : h28 (k + 1) = .inl (0, 16000, .inl (fun _ => 0)) := by rw [e_h28, va_up_neq (nek0 (a := 1) (by decide))]; exact F_h26__k_1_
  have F_h28__k_2_ : h28 (k + 2) = .inl (1, 16000, .inl (fun _ => 0)) := by rw [e_h28, va_up_neq (nek0 (a := 2) (by decide))]; exact F_h26__k_2_
  have F_h28__k_3_ : h28 (k + 3) = .inl (1, 4096, .inl (fun _ => 0)) := by rw [e_h28, va_up_neq (nek0 (a := 3) (by decide))]; exact F_h26__k_3_
  have FR_h28 : ∀ j, j < k ∨ aBig ≤ j → h28 j = h j := fun j hj => by rw [e_h28]; exact (va_up_neq (frne0 hj hbig)).trans (FR_h26 j hj)
  clear F_h26_k F_h26__k_1_ F_h26__k_2_ F_h26__k_3_ FR_h26 e_h28
  clear h26
  refine WX.ret0 rfl ?_
  exact kk h28 FR_h28 ⟨F_h28_k, F_h28__k_1_, F_h28__k_2_, F_h28__k_3_, trivial⟩
def cShare_11_6 (k : Nat) : List aE := [.inr (8, [.int 11, .ref (k + 1), .ref (k + 2), .ref (k + 3), .ref (k + 4), .ref (k + 5), .ref (k + 6), .int 0, .int 0]), .inl (1, 12, .inl (fun _ => 0)), .inl (1, 12, .inl (fun _ => 0)), .inl (1, 12, .inl (fun _ => 0)), .inl (1, 12, .inl (fun _ => 0)), .inl (1, 64, .inl (fun _ => 0)), .inl (1, 64, .inl (fun _ => 0))]
set_option maxRecDepth 20000 in
theorem n_share_11_6 {d s : Nat} {h : Nat → aE} {k : Nat} (hbig : k + 8 < aBig) (F_h_k : h k = .inr (8, zX8)) {Ψ : Option Value → aH → Prop} (kk : ∀ h', (∀ j, j < k ∨ aBig ≤ j → h' j = h j) → Cells h' k (cShare_11_6 k) → Ψ none (k + 7, s + 176, h')) : WO (mM (d + 1)) 96 [.ref k, .int 11, .int 6] (k + 1, s, h) Ψ := by
  refine WO.of (Nat.le_of_ble_eq_true rfl) ?_
  have FR_h : ∀ j, j < k ∨ aBig ≤ j → h j = h j := fun _ _ => rfl
  show WX (lk tX8_init) (mM (d + 0)) Ψ 0 [(0, .ref k), (1, .int 11), (2, .int 6)] [] (k + 1, s, h)
  refine WX.s1 rfl rfl ?_
  refine WX.s1 rfl rfl ?_
  refine WX.s1 rfl rfl ?_
  refine WX.s1 rfl rfl ?_
  refine WX.s1 rfl rfl ?_
  refine WX.s1 rfl rfl ?_
  refine WX.putNI (fs := [.int 0, .null, .null, .null, .null, .null, .null, .int 0, .int 0]) (fs' := fun f10 => [.int f10, .null, .null, .null, .null, .null, .null, .int 0, .int 0]) rfl (ltk0 (c := 1) (by decide)) (F_h_k) (Nat.le_of_ble_eq_true rfl) (fun _ => rfl) (fun f10 h10 e_f10 e_h10 => ?_)
  try dsimp only at e_f10
  have F_h10_k : h10 k = .inr (8, [.int f10, .null, .null, .null, .null, .null, .null, .int 0, .int 0]) := by rw [e_h10]; exact va_up_eq
  have FR_h10 : ∀ j, j < k ∨ aBig ≤ j → h10 j = h j := fun j hj => by rw [e_h10]; exact (va_up_neq (frne0 hj hbig)).trans (FR_h j hj)
  clear F_h_k FR_h e_h10
  obtain rfl : f10 = 11 := by rw [e_f10]; decide
  refine WX.s1 rfl rfl ?_
  refine WX.s1 rfl rfl ?_
  refine WX.get1 (fs := [.int 11, .null, .null, .null, .null, .null, .null, .int 0, .int 0]) rfl (ltk0 (c := 1) (by decide)) (F_h10_k) rfl ?_
  refine WX.s1 rfl rfl ?_
  refine WX.s1 rfl rfl ?_
  refine WX.newaN (N := 12) (z0 := .inl (fun _ => 0)) rfl (by decide) (by decide) (bigk (k := k) (a := 2) hbig (by decide)) rfl (fun h20 e_h20 => ?_)
  have F_h20_k : h20 k = .inr (8, [.int 11, .null, .null, .null, .null, .null, .null, .int 0, .int 0]) := by rw [e_h20, va_up_neq (nek1 (a := 1) (by decide))]; exact F_h10_k
  have F_h20__k_1_ : h20 (k + 1) = .inl (1, 12, .inl (fun _ => 0)) := by rw [e_h20]; exact va_up_eq
  have FR_h20 : ∀ j, j < k ∨ aBig ≤ j → h20 j = h j := fun j hj => by rw [e_h20]; exact (va_up_neq (frne (a := 1) hj hbig (by decide))).trans (FR_h10 j hj)
  clear F_h10_k FR_h10 e_h20
  clear h10
  refine WX.put1 (fs := [.int 11, .null, .null, .null, .null, .null, .null, .int 0, .int 0]) (fs' := [.int 11, .ref (k + 1), .null, .null, .null, .null, .null, .int 0, .int 0]) rfl (ltk0 (c := 2) (by decide)) (F_h20_k) (Nat.le_of_ble_eq_true rfl) (rfl) rfl (fun h22 e_h22 => ?_)
  have F_h22_k : h22 k = .inr (8, [.int 11, .ref (k + 1), .null, .null, .null, .null, .null, .int 0, .int 0]) := by rw [e_h22]; exact va_up_eq
  have F_h22__k_1_ : h22 (k + 1) = .inl (1, 12, .inl (fun _ => 0)) := by rw [e_h22, va_up_neq (nek0 (a := 1) (by decide))]; exact F_h20__k_1_
  have FR_h22 : ∀ j, j < k ∨ aBig ≤ j → h22 j = h j := fun j hj => by rw [e_h22]; exact (va_up_neq (frne0 hj hbig)).trans (FR_h20 j hj)
  clear F_h20_k F_h20__k_1_ FR_h20 e_h22
  clear h20
  refine WX.s1 rfl rfl ?_
  refine WX.s1 rfl rfl ?_
  refine WX.get1 (fs := [.int 11, .ref (k + 1), .null, .null, .null, .null, .null, .int 0, .int 0]) rfl (ltk0 (c := 2) (by decide)) (F_h22_k) rfl ?_
  refine WX.s1 rfl rfl ?_
  refine WX.s1 rfl rfl ?_
  refine WX.newaN (N := 12) (z0 := .inl (fun _ => 0)) rfl (by decide) (by decide) (bigk (k := k) (a := 3) hbig (by decide)) rfl (fun h32 e_h32 => ?_)
  have F_h32_k : h32 k = .inr (8, [.int 11, .ref (k + 1), .null, .null, .null, .null, .null, .int 0, .int 0]) := by rw [e_h32, va_up_neq (nek1 (a := 2) (by decide))]; exact F_h22_k
  have F_h32__k_1_ : h32 (k + 1) = .inl (1, 12, .inl (fun _ => 0)) := by rw [e_h32, va_up_neq (nek (a := 1) (b := 2) (by decide))]; exact F_h22__k_1_
  have F_h32__k_2_ : h32 (k + 2) = .inl (1, 12, .inl (fun _ => 0)) := by rw [e_h32]; exact va_up_eq
  have FR_h32 : ∀ j, j < k ∨ aBig ≤ j → h32 j = h j := fun j hj => by rw [e_h32]; exact (va_up_neq (frne (a := 2) hj hbig (by decide))).trans (FR_h22 j hj)
  clear F_h22_k F_h22__k_1_ FR_h22 e_h32
  clear h22
  refine WX.put1 (fs := [.int 11, .ref (k + 1), .null, .null, .null, .null, .null, .int 0, .int 0]) (fs' := [.int 11, .ref (k + 1), .ref (k + 2), .null, .null, .null, .null, .int 0, .int 0]) rfl (ltk0 (c := 3) (by decide)) (F_h32_k) (Nat.le_of_ble_eq_true rfl) (rfl) rfl (fun h34 e_h34 => ?_)
  have F_h34_k : h34 k = .inr (8, [.int 11, .ref (k + 1), .ref (k + 2), .null, .null, .null, .null, .int 0, .int 0]) := by rw [e_h34]; exact va_up_eq
  have F_h34__k_1_ : h34 (k + 1) = .inl (1, 12, .inl (fun _ => 0)) := by rw [e_h34, va_up_neq (nek0 (a := 1) (by decide))]; exact F_h32__k_1_
  have F_h34__k_2_ : h34 (k + 2) = .inl (1, 12, .inl (fun _ => 0)) := by rw [e_h34, va_up_neq (nek0 (a := 2) (by decide))]; exact F_h32__k_2_
  have FR_h34 : ∀ j, j < k ∨ aBig ≤ j → h34 j = h j := fun j hj => by rw [e_h34]; exact (va_up_neq (frne0 hj hbig)).trans (FR_h32 j hj)
  clear F_h32_k F_h32__k_1_ F_h32__k_2_ FR_h32 e_h34
  clear h32
  refine WX.s1 rfl rfl ?_
  refine WX.s1 rfl rfl ?_
  refine WX.get1 (fs := [.int 11, .ref (k + 1), .ref (k + 2), .null, .null, .null, .null, .int 0, .int 0]) rfl (ltk0 (c := 3) (by decide)) (F_h34_k) rfl ?_
  refine WX.s1 rfl rfl ?_
  refine WX.s1 rfl rfl ?_
  refine WX.newaN (N := 12) (z0 := .inl (fun _ => 0)) rfl (by decide) (by decide) (bigk (k := k) (a := 4) hbig (by decide)) rfl (fun h44 e_h44 => ?_)
  have F_h44_k : h44 k = .inr (8, [.int 11, .ref (k + 1), .ref (k + 2), .null, .null, .null, .null, .int 0, .int 0]) := by rw [e_h44, va_up_neq (nek1 (a := 3) (by decide))]; exact F_h34_k
  have F_h44__k_1_ : h44 (k + 1) = .inl (1, 12, .inl (fun _ => 0)) := by rw [e_h44, va_up_neq (nek (a := 1) (b := 3) (by decide))]; exact F_h34__k_1_
  have F_h44__k_2_ : h44 (k + 2) = .inl (1, 12, .inl (fun _ => 0)) := by rw [e_h44, va_up_neq (nek (a := 2) (b := 3) (by decide))]; exact F_h34__k_2_
  have F_h44__k_3_ : h44 (k + 3) = .inl (1, 12, .inl (fun _ => 0)) := by rw [e_h44]; exact va_up_eq
  have FR_h44 : ∀ j, j < k ∨ aBig ≤ j → h44 j = h j := fun j hj => by rw [e_h44]; exact (va_up_neq (frne (a := 3) hj hbig (by decide))).trans (FR_h34 j hj)
  clear F_h34_k F_h34__k_1_ F_h34__k_2_ FR_h34 e_h44
  clear h34
  refine WX.put1 (fs := [.int 11, .ref (k + 1), .ref (k + 2), .null, .null, .null, .null, .int 0, .int 0]) (fs' := [.int 11, .ref (k + 1), .ref (k + 2), .ref (k + 3), .null, .null, .null, .int 0, .int 0]) rfl (ltk0 (c := 4) (by decide)) (F_h44_k) (Nat.le_of_ble_eq_true rfl) (rfl) rfl (fun h46 e_h46 => ?_)
  have F_h46_k : h46 k = .inr (8, [.int 11, .ref (k + 1), .ref (k + 2), .ref (k + 3), .null, .null, .null, .int 0, .int 0]) := by rw [e_h46]; exact va_up_eq
  have F_h46__k_1_ : h46 (k + 1) = .inl (1, 12, .inl (fun _ => 0)) := by rw [e_h46, va_up_neq (nek0 (a := 1) (by decide))]; exact F_h44__k_1_
  have F_h46__k_2_ : h46 (k + 2) = .inl (1, 12, .inl (fun _ => 0)) := by rw [e_h46, va_up_neq (nek0 (a := 2) (by decide))]; exact F_h44__k_2_
  have F_h46__k_3_ : h46 (k + 3) = .inl (1, 12, .inl (fun _ => 0)) := by rw [e_h46, va_up_neq (nek0 (a := 3) (by decide))]; exact F_h44__k_3_
  have FR_h46 : ∀ j, j < k ∨ aBig ≤ j → h46 j = h j := fun j hj => by rw [e_h46]; exact (va_up_neq (frne0 hj hbig)).trans (FR_h44 j hj)
  clear F_h44_k F_h44__k_1_ F_h44__k_2_ F_h44__k_3_ FR_h44 e_h46
  clear h44
  refine WX.s1 rfl rfl ?_
  refine WX.s1 rfl rfl ?_
  refine WX.get1 (fs := [.int 11, .ref (k + 1), .ref (k + 2), .ref (k + 3), .null, .null, .null, .int 0, .int 0]) rfl (ltk0 (c := 4) (by decide)) (F_h46_k) rfl ?_
  refine WX.s1 rfl rfl ?_
  refine WX.s1 rfl rfl ?_
  refine WX.newaN (N := 12) (z0 := .inl (fun _ => 0)) rfl (by decide) (by decide) (bigk (k := k) (a := 5) hbig (by decide)) rfl (fun h56 e_h56 => ?_)
  have F_h56_k : h56 k = .inr (8, [.int 11, .ref (k + 1), .ref (k + 2), .ref (k + 3), .null, .null, .null, .int 0, .int 0]) := by rw [e_h56, va_up_neq (nek1 (a := 4) (by decide))]; exact F_h46_k
  have F_h56__k_1_ : h56 (k + 1) = .inl (1, 12, .inl (fun _ => 0)) := by rw [e_h56, va_up_neq (nek (a := 1) (b := 4) (by decide))]; exact F_h46__k_1_
  have F_h56__k_2_ : h56 (k + 2) = .inl (1, 12, .inl (fun _ => 0)) := by rw [e_h56, va_up_neq (nek (a := 2) (b := 4) (by decide))]; exact F_h46__k_2_
  have F_h56__k_3_ : h56 (k + 3) = .inl (1, 12, .inl (fun _ => 0)) := by rw [e_h56, va_up_neq (nek (a := 3) (b := 4) (by decide))]; exact F_h46__k_3_
  have F_h56__k_4_ : h56 (k + 4) = .inl (1, 12, .inl (fun _ => 0)) := by rw [e_h56]; exact va_up_eq
  have FR_h56 : ∀ j, j < k ∨ aBig ≤ j → h56 j = h j := fun j hj => by rw [e_h56]; exact (va_up_neq (frne (a := 4) hj hbig (by decide))).trans (FR_h46 j hj)
  clear F_h46_k F_h46__k_1_ F_h46__k_2_ F_h46__k_3_ FR_h46 e_h56
  clear h46
  refine WX.put1 (fs := [.int 11, .ref (k + 1), .ref (k + 2), .ref (k + 3), .null, .null, .null, .int 0, .int 0]) (fs' := [.int 11, .ref (k + 1), .ref (k + 2), .ref (k + 3), .ref (k + 4), .null, .null, .int 0, .int 0]) rfl (ltk0 (c := 5) (by decide)) (F_h56_k) (Nat.le_of_ble_eq_true rfl) (rfl) rfl (fun h58 e_h58 => ?_)
  have F_h58_k : h58 k = .inr (8, [.int 11, .ref (k + 1), .ref (k + 2), .ref (k + 3), .ref (k + 4), .null, .null, .int 0, .int 0]) := by rw [e_h58]; exact va_up_eq
  have F_h58__k_1_ : h58 (k + 1) = .inl (1, 12, .inl (fun _ => 0)) := by rw [e_h58, va_up_neq (nek0 (a := 1) (by decide))]; exact F_h56__k_1_
  have F_h58__k_2_ : h58 (k + 2) = .inl (1, 12, .inl (fun _ => 0)) := by rw [e_h58, va_up_neq (nek0 (a := 2) (by decide))]; exact F_h56__k_2_
  have F_h58__k_3_ : h58 (k + 3) = .inl (1, 12, .inl (fun _ => 0)) := by rw [e_h58, va_up_neq (nek0 (a := 3) (by decide))]; exact F_h56__k_3_
  have F_h58__k_4_ : h58 (k + 4) = .inl (1, 12, .inl (fun _ => 0)) := by rw [e_h58, va_up_neq (nek0 (a := 4) (by decide))]; exact F_h56__k_4_
  have FR_h58 : ∀ j, j < k ∨ aBig ≤ j → h58 j = h j := fun j hj => by rw [e_h58]; exact (va_up_neq (frne0 hj hbig)).trans (FR_h56 j hj)
  clear F_h56_k F_h56__k_1_ F_h56__k_2_ F_h56__k_3_ F_h56__k_4_ FR_h56 e_h58
  clear h56
  refine WX.s1 rfl rfl ?_
  refine WX.s1 rfl rfl ?_
  refine WX.s1 rfl rfl ?_
  refine WX.s1 rfl rfl ?_
  refine WX.newaN (N := 64) (z0 := .inl (fun _ => 0)) rfl (by decide) (by decide) (bigk (k := k) (a := 6) hbig (by decide)) rfl (fun h65 e_h65 => ?_)
  have F_h65_k : h65 k = .inr (8, [.int 11, .ref (k + 1), .ref (k + 2), .ref (k + 3), .ref (k + 4), .null, .null, .int 0, .int 0]) := by rw [e_h65, va_up_neq (nek1 (a := 5) (by decide))]; exact F_h58_k
  have F_h65__k_1_ : h65 (k + 1) = .inl (1, 12, .inl (fun _ => 0)) := by rw [e_h65, va_up_neq (nek (a := 1) (b := 5) (by decide))]; exact F_h58__k_1_
  have F_h65__k_2_ : h65 (k + 2) = .inl (1, 12, .inl (fun _ => 0)) := by rw [e_h65, va_up_neq (nek (a := 2) (b := 5) (by decide))]; exact F_h58__k_2_
  have F_h65__k_3_ : h65 (k + 3) = .inl (1, 12, .inl (fun _ => 0)) := by rw [e_h65, va_up_neq (nek (a := 3) (b := 5) (by decide))]; exact F_h58__k_3_
  have F_h65__k_4_ : h65 (k + 4) = .inl (1, 12, .inl (fun _ => 0)) := by rw [e_h65, va_up_neq (nek (a := 4) (b := 5) (by decide))]; exact F_h58__k_4_
  have F_h65__k_5_ : h65 (k + 5) = .inl (1, 64, .inl (fun _ => 0)) := by rw [e_h65]; exact va_up_eq
  have FR_h65 : ∀ j, j < k ∨ aBig ≤ j → h65 j = h j := fun j hj => by rw [e_h65]; exact (va_up_neq (frne (a := 5) hj hbig (by decide))).trans (FR_h58 j hj)
  clear F_h58_k F_h58__k_1_ F_h58__k_2_ F_h58__k_3_ F_h58__k_4_ FR_h58 e_h65
  clear h58
  refine WX.put1 (fs := [.int 11, .ref (k + 1), .ref (k + 2), .ref (k + 3), .ref (k + 4), .null, .null, .int 0, .int 0]) (fs' := [.int 11, .ref (k + 1), .ref (k + 2), .ref (k + 3), .ref (k + 4), .ref (k + 5), .null, .int 0, .int 0]) rfl (ltk0 (c := 6) (by decide)) (F_h65_k) (Nat.le_of_ble_eq_true rfl) (rfl) rfl (fun h67 e_h67 => ?_)
  have F_h67_k : h67 k = .inr (8, [.int 11, .ref (k + 1), .ref (k + 2), .ref (k + 3), .ref (k + 4), .ref (k + 5), .null, .int 0, .int 0]) := by rw [e_h67]; exact va_up_eq
  have F_h67__k_1_ : h67 (k + 1) = .inl (1, 12, .inl (fun _ => 0)) := by rw [e_h67, va_up_neq (nek0 (a := 1) (by decide))]; exact F_h65__k_1_
  have F_h67__k_2_ : h67 (k + 2) = .inl (1, 12, .inl (fun _ => 0)) := by rw [e_h67, va_up_neq (nek0 (a := 2) (by decide))]; exact F_h65__k_2_
  have F_h67__k_3_ : h67 (k + 3) = .inl (1, 12, .inl (fun _ => 0)) := by rw [e_h67, va_up_neq (nek0 (a := 3) (by decide))]; exact F_h65__k_3_
  have F_h67__k_4_ : h67 (k + 4) = .inl (1, 12, .inl (fun _ => 0)) := by rw [e_h67, va_up_neq (nek0 (a := 4) (by decide))]; exact F_h65__k_4_
  have F_h67__k_5_ : h67 (k + 5) = .inl (1, 64, .inl (fun _ => 0)) := by rw [e_h67, va_up_neq (nek0 (a := 5) (by decide))]; exact F_h65__k_5_
  have FR_h67 : ∀ j, j < k ∨ aBig ≤ j → h67 j = h j := fun j hj => by rw [e_h67]; exact (va_up_neq (frne0 hj hbig)).trans (FR_h65 j hj)
  clear F_h65_k F_h65__k_1_ F_h65__k_2_ F_h65__k_3_ F_h65__k_4_ F_h65__k_5_ FR_h65 e_h67
  clear h65
  refine WX.s1 rfl rfl ?_
  refine WX.s1 rfl rfl ?_
  refine WX.s1 rfl rfl ?_
  refine WX.s1 rfl rfl ?_
  refine WX.newaN (N := 64) (z0 := .inl (fun _ => 0)) rfl (by decide) (by decide) (bigk (k := k) (a := 7) hbig (by decide)) rfl (fun h74 e_h74 => ?_)
  have F_h74_k : h74 k = .inr (8, [.int 11, .ref (k + 1), .ref (k + 2), .ref (k + 3), .ref (k + 4), .ref (k + 5), .null, .int 0, .int 0]) := by rw [e_h74, va_up_neq (nek1 (a := 6) (by decide))]; exact F_h67_k
  have F_h74__k_1_ : h74 (k + 1) = .inl (1, 12, .inl (fun _ => 0)) := by rw [e_h74, va_up_neq (nek (a := 1) (b := 6) (by decide))]; exact F_h67__k_1_
  have F_h74__k_2_ : h74 (k + 2) = .inl (1, 12, .inl (fun _ => 0)) := by rw [e_h74, va_up_neq (nek (a := 2) (b := 6) (by decide))]; exact F_h67__k_2_
  have F_h74__k_3_ : h74 (k + 3) = .inl (1, 12, .inl (fun _ => 0)) := by rw [e_h74, va_up_neq (nek (a := 3) (b := 6) (by decide))]; exact F_h67__k_3_
  have F_h74__k_4_ : h74 (k + 4) = .inl (1, 12, .inl (fun _ => 0)) := by rw [e_h74, va_up_neq (nek (a := 4) (b := 6) (by decide))]; exact F_h67__k_4_
  have F_h74__k_5_ : h74 (k + 5) = .inl (1, 64, .inl (fun _ => 0)) := by rw [e_h74, va_up_neq (nek (a := 5) (b := 6) (by decide))]; exact F_h67__k_5_
  have F_h74__k_6_ : h74 (k + 6) = .inl (1, 64, .inl (fun _ => 0)) := by rw [e_h74]; exact va_up_eq
  have FR_h74 : ∀ j, j < k ∨ aBig ≤ j → h74 j = h j := fun j hj => by rw [e_h74]; exact (va_up_neq (frne (a := 6) hj hbig (by decide))).trans (FR_h67 j hj)
  clear F_h67_k F_h67__k_1_ F_h67__k_2_ F_h67__k_3_ F_h67__k_4_ F_h67__k_5_ FR_h67 e_h74
  clear h67
  refine WX.put1 (fs := [.int 11, .ref (k + 1), .ref (k + 2), .ref (k + 3), .ref (k + 4), .ref (k + 5), .null, .int 0, .int 0]) (fs' := [.int 11, .ref (k + 1), .ref (k + 2), .ref (k + 3), .ref (k + 4), .ref (k + 5), .ref (k + 6), .int 0, .int 0]) rfl (ltk0 (c := 7) (by decide)) (F_h74_k) (Nat.le_of_ble_eq_true rfl) (rfl) rfl (fun h76 e_h76 => ?_)
  have F_h76_k : h76 k = .inr (8, [.int 11, .ref (k + 1), .ref (k + 2), .ref (k + 3), .ref (k + 4), .ref (k + 5), .ref (k + 6), .int 0, .int 0]) := by rw [e_h76]; exact va_up_eq
  have F_h76__k_1_ : h76 (k + 1) = .inl (1, 12, .inl (fun _ => 0)) := by rw [e_h76, va_up_neq (nek0 (a := 1) (by decide))]; exact F_h74__k_1_
  have F_h76__k_2_ : h76 (k + 2) = .inl (1, 12, .inl (fun _ => 0)) := by rw [e_h76, va_up_neq (nek0 (a := 2) (by decide))]; exact F_h74__k_2_
  have F_h76__k_3_ : h76 (k + 3) = .inl (1, 12, .inl (fun _ => 0)) := by rw [e_h76, va_up_neq (nek0 (a := 3) (by decide))]; exact F_h74__k_3_
  have F_h76__k_4_ : h76 (k + 4) = .inl (1, 12, .inl (fun _ => 0)) := by rw [e_h76, va_up_neq (nek0 (a := 4) (by decide))]; exact F_h74__k_4_
  have F_h76__k_5_ : h76 (k + 5) = .inl (1, 64, .inl (fun _ => 0)) := by rw [e_h76, va_up_neq (nek0 (a := 5) (by decide))]; exact F_h74__k_5_
  have F_h76__k_6_ : h76 (k + 6) = .inl (1, 64, .inl (fun _ => 0)) := by rw [e_h76, va_up_neq (nek0 (a := 6) (by decide))]; exact F_h74__k_6_
  have FR_h76 : ∀ j, j < k ∨ aBig ≤ j → h76 j = h j := fun j hj => by rw [e_h76]; exact (va_up_neq (frne0 hj hbig)).trans (FR_h74 j hj)
  clear F_h74_k F_h74__k_1_ F_h74__k_2_ F_h74__k_3_ F_h74__k_4_ F_h74__k_5_ F_h74__k_6_ FR_h74 e_h76
  clear h74
  refine WX.ret0 rfl ?_
  exact kk h76 FR_h76 ⟨F_h76_k, F_h76__k_1_, F_h76__k_2_, F_h76__k_3_, F_h76__k_4_, F_h76__k_5_, F_h76__k_6_, trivial⟩
def cShare_35_9 (k : Nat) : List aE := [.inr (8, [.int 35, .ref (k + 1), .ref (k + 2), .ref (k + 3), .ref (k + 4), .ref (k + 5), .ref (k + 6), .int 0, .int 0]), .inl (1, 36, .inl (fun _ => 0)), .inl (1, 36, .inl (fun _ => 0)), .inl (1, 36, .inl (fun _ => 0)), .inl (1, 36, .inl (fun _ => 0)), .inl (1, 512, .inl (fun _ => 0)), .inl (1, 512, .inl (fun _ => 0))]
set_option maxRecDepth 20000 in
theorem n_share_35_9 {d s : Nat} {h : Nat → aE} {k : Nat} (hbig : k + 8 < aBig) (F_h_k : h k = .inr (8, zX8)) {Ψ : Option Value → aH → Prop} (kk : ∀ h', (∀ j, j < k ∨ aBig ≤ j → h' j = h j) → Cells h' k (cShare_35_9 k) → Ψ none (k + 7, s + 1168, h')) : WO (mM (d + 1)) 96 [.ref k, .int 35, .int 9] (k + 1, s, h) Ψ := by
  refine WO.of (Nat.le_of_ble_eq_true rfl) ?_
  have FR_h : ∀ j, j < k ∨ aBig ≤ j → h j = h j := fun _ _ => rfl
  show WX (lk tX8_init) (mM (d + 0)) Ψ 0 [(0, .ref k), (1, .int 35), (2, .int 9)] [] (k + 1, s, h)
  refine WX.s1 rfl rfl ?_
  refine WX.s1 rfl rfl ?_
  refine WX.s1 rfl rfl ?_
  refine WX.s1 rfl rfl ?_
  refine WX.s1 rfl rfl ?_
  refine WX.s1 rfl rfl ?_
  refine WX.putNI (fs := [.int 0, .null, .null, .null, .null, .null, .null, .int 0, .int 0]) (fs' := fun f10 => [.int f10, .null, .null, .null, .null, .null, .null, .int 0, .int 0]) rfl (ltk0 (c := 1) (by decide)) (F_h_k) (Nat.le_of_ble_eq_true rfl) (fun _ => rfl) (fun f10 h10 e_f10 e_h10 => ?_)
  try dsimp only at e_f10
  have F_h10_k : h10 k = .inr (8, [.int f10, .null, .null, .null, .null, .null, .null, .int 0, .int 0]) := by rw [e_h10]; exact va_up_eq
  have FR_h10 : ∀ j, j < k ∨ aBig ≤ j → h10 j = h j := fun j hj => by rw [e_h10]; exact (va_up_neq (frne0 hj hbig)).trans (FR_h j hj)
  clear F_h_k FR_h e_h10
  obtain rfl : f10 = 35 := by rw [e_f10]; decide
  refine WX.s1 rfl rfl ?_
  refine WX.s1 rfl rfl ?_
  refine WX.get1 (fs := [.int 35, .null, .null, .null, .null, .null, .null, .int 0, .int 0]) rfl (ltk0 (c := 1) (by decide)) (F_h10_k) rfl ?_
  refine WX.s1 rfl rfl ?_
  refine WX.s1 rfl rfl ?_
  refine WX.newaN (N := 36) (z0 := .inl (fun _ => 0)) rfl (by decide) (by decide) (bigk (k := k) (a := 2) hbig (by decide)) rfl (fun h20 e_h20 => ?_)
  have F_h20_k : h20 k = .inr (8, [.int 35, .null, .null, .null, .null, .null, .null, .int 0, .int 0]) := by rw [e_h20, va_up_neq (nek1 (a := 1) (by decide))]; exact F_h10_k
  have F_h20__k_1_ : h20 (k + 1) = .inl (1, 36, .inl (fun _ => 0)) := by rw [e_h20]; exact va_up_eq
  have FR_h20 : ∀ j, j < k ∨ aBig ≤ j → h20 j = h j := fun j hj => by rw [e_h20]; exact (va_up_neq (frne (a := 1) hj hbig (by decide))).trans (FR_h10 j hj)
  clear F_h10_k FR_h10 e_h20
  clear h10
  refine WX.put1 (fs := [.int 35, .null, .null, .null, .null, .null, .null, .int 0, .int 0]) (fs' := [.int 35, .ref (k + 1), .null, .null, .null, .null, .null, .int 0, .int 0]) rfl (ltk0 (c := 2) (by decide)) (F_h20_k) (Nat.le_of_ble_eq_true rfl) (rfl) rfl (fun h22 e_h22 => ?_)
  have F_h22_k : h22 k = .inr (8, [.int 35, .ref (k + 1), .null, .null, .null, .null, .null, .int 0, .int 0]) := by rw [e_h22]; exact va_up_eq
  have F_h22__k_1_ : h22 (k + 1) = .inl (1, 36, .inl (fun _ => 0)) := by rw [e_h22, va_up_neq (nek0 (a := 1) (by decide))]; exact F_h20__k_1_
  have FR_h22 : ∀ j, j < k ∨ aBig ≤ j → h22 j = h j := fun j hj => by rw [e_h22]; exact (va_up_neq (frne0 hj hbig)).trans (FR_h20 j hj)
  clear F_h20_k F_h20__k_1_ FR_h20 e_h22
  clear h20
  refine WX.s1 rfl rfl ?_
  refine WX.s1 rfl rfl ?_
  refine WX.get1 (fs := [.int 35, .ref (k + 1), .null, .null, .null, .null, .null, .int 0, .int 0]) rfl (ltk0 (c := 2) (by decide)) (F_h22_k) rfl ?_
  refine WX.s1 rfl rfl ?_
  refine WX.s1 rfl rfl ?_
  refine WX.newaN (N := 36) (z0 := .inl (fun _ => 0)) rfl (by decide) (by decide) (bigk (k := k) (a := 3) hbig (by decide)) rfl (fun h32 e_h32 => ?_)
  have F_h32_k : h32 k = .inr (8, [.int 35, .ref (k + 1), .null, .null, .null, .null, .null, .int 0, .int 0]) := by rw [e_h32, va_up_neq (nek1 (a := 2) (by decide))]; exact F_h22_k
  have F_h32__k_1_ : h32 (k + 1) = .inl (1, 36, .inl (fun _ => 0)) := by rw [e_h32, va_up_neq (nek (a := 1) (b := 2) (by decide))]; exact F_h22__k_1_
  have F_h32__k_2_ : h32 (k + 2) = .inl (1, 36, .inl (fun _ => 0)) := by rw [e_h32]; exact va_up_eq
  have FR_h32 : ∀ j, j < k ∨ aBig ≤ j → h32 j = h j := fun j hj => by rw [e_h32]; exact (va_up_neq (frne (a := 2) hj hbig (by decide))).trans (FR_h22 j hj)
  clear F_h22_k F_h22__k_1_ FR_h22 e_h32
  clear h22
  refine WX.put1 (fs := [.int 35, .ref (k + 1), .null, .null, .null, .null, .null, .int 0, .int 0]) (fs' := [.int 35, .ref (k + 1), .ref (k + 2), .null, .null, .null, .null, .int 0, .int 0]) rfl (ltk0 (c := 3) (by decide)) (F_h32_k) (Nat.le_of_ble_eq_true rfl) (rfl) rfl (fun h34 e_h34 => ?_)
  have F_h34_k : h34 k = .inr (8, [.int 35, .ref (k + 1), .ref (k + 2), .null, .null, .null, .null, .int 0, .int 0]) := by rw [e_h34]; exact va_up_eq
  have F_h34__k_1_ : h34 (k + 1) = .inl (1, 36, .inl (fun _ => 0)) := by rw [e_h34, va_up_neq (nek0 (a := 1) (by decide))]; exact F_h32__k_1_
  have F_h34__k_2_ : h34 (k + 2) = .inl (1, 36, .inl (fun _ => 0)) := by rw [e_h34, va_up_neq (nek0 (a := 2) (by decide))]; exact F_h32__k_2_
  have FR_h34 : ∀ j, j < k ∨ aBig ≤ j → h34 j = h j := fun j hj => by rw [e_h34]; exact (va_up_neq (frne0 hj hbig)).trans (FR_h32 j hj)
  clear F_h32_k F_h32__k_1_ F_h32__k_2_ FR_h32 e_h34
  clear h32
  refine WX.s1 rfl rfl ?_
  refine WX.s1 rfl rfl ?_
  refine WX.get1 (fs := [.int 35, .ref (k + 1), .ref (k + 2), .null, .null, .null, .null, .int 0, .int 0]) rfl (ltk0 (c := 3) (by decide)) (F_h34_k) rfl ?_
  refine WX.s1 rfl rfl ?_
  refine WX.s1 rfl rfl ?_
  refine WX.newaN (N := 36) (z0 := .inl (fun _ => 0)) rfl (by decide) (by decide) (bigk (k := k) (a := 4) hbig (by decide)) rfl (fun h44 e_h44 => ?_)
  have F_h44_k : h44 k = .inr (8, [.int 35, .ref (k + 1), .ref (k + 2), .null, .null, .null, .null, .int 0, .int 0]) := by rw [e_h44, va_up_neq (nek1 (a := 3) (by decide))]; exact F_h34_k
  have F_h44__k_1_ : h44 (k + 1) = .inl (1, 36, .inl (fun _ => 0)) := by rw [e_h44, va_up_neq (nek (a := 1) (b := 3) (by decide))]; exact F_h34__k_1_
  have F_h44__k_2_ : h44 (k + 2) = .inl (1, 36, .inl (fun _ => 0)) := by rw [e_h44, va_up_neq (nek (a := 2) (b := 3) (by decide))]; exact F_h34__k_2_
  have F_h44__k_3_ : h44 (k + 3) = .inl (1, 36, .inl (fun _ => 0)) := by rw [e_h44]; exact va_up_eq
  have FR_h44 : ∀ j, j < k ∨ aBig ≤ j → h44 j = h j := fun j hj => by rw [e_h44]; exact (va_up_neq (frne (a := 3) hj hbig (by decide))).trans (FR_h34 j hj)
  clear F_h34_k F_h34__k_1_ F_h34__k_2_ FR_h34 e_h44
  clear h34
  refine WX.put1 (fs := [.int 35, .ref (k + 1), .ref (k + 2), .null, .null, .null, .null, .int 0, .int 0]) (fs' := [.int 35, .ref (k + 1), .ref (k + 2), .ref (k + 3), .null, .null, .null, .int 0, .int 0]) rfl (ltk0 (c := 4) (by decide)) (F_h44_k) (Nat.le_of_ble_eq_true rfl) (rfl) rfl (fun h46 e_h46 => ?_)
  have F_h46_k : h46 k = .inr (8, [.int 35, .ref (k + 1), .ref (k + 2), .ref (k + 3), .null, .null, .null, .int 0, .int 0]) := by rw [e_h46]; exact va_up_eq
  have F_h46__k_1_ : h46 (k + 1) = .inl (1, 36, .inl (fun _ => 0)) := by rw [e_h46, va_up_neq (nek0 (a := 1) (by decide))]; exact F_h44__k_1_
  have F_h46__k_2_ : h46 (k + 2) = .inl (1, 36, .inl (fun _ => 0)) := by rw [e_h46, va_up_neq (nek0 (a := 2) (by decide))]; exact F_h44__k_2_
  have F_h46__k_3_ : h46 (k + 3) = .inl (1, 36, .inl (fun _ => 0)) := by rw [e_h46, va_up_neq (nek0 (a := 3) (by decide))]; exact F_h44__k_3_
  have FR_h46 : ∀ j, j < k ∨ aBig ≤ j → h46 j = h j := fun j hj => by rw [e_h46]; exact (va_up_neq (frne0 hj hbig)).trans (FR_h44 j hj)
  clear F_h44_k F_h44__k_1_ F_h44__k_2_ F_h44__k_3_ FR_h44 e_h46
  clear h44
  refine WX.s1 rfl rfl ?_
  refine WX.s1 rfl rfl ?_
  refine WX.get1 (fs := [.int 35, .ref (k + 1), .ref (k + 2), .ref (k + 3), .null, .null, .null, .int 0, .int 0]) rfl (ltk0 (c := 4) (by decide)) (F_h46_k) rfl ?_
  refine WX.s1 rfl rfl ?_
  refine WX.s1 rfl rfl ?_
  refine WX.newaN (N := 36) (z0 := .inl (fun _ => 0)) rfl (by decide) (by decide) (bigk (k := k) (a := 5) hbig (by decide)) rfl (fun h56 e_h56 => ?_)
  have F_h56_k : h56 k = .inr (8, [.int 35, .ref (k + 1), .ref (k + 2), .ref (k + 3), .null, .null, .null, .int 0, .int 0]) := by rw [e_h56, va_up_neq (nek1 (a := 4) (by decide))]; exact F_h46_k
  have F_h56__k_1_ : h56 (k + 1) = .inl (1, 36, .inl (fun _ => 0)) := by rw [e_h56, va_up_neq (nek (a := 1) (b := 4) (by decide))]; exact F_h46__k_1_
  have F_h56__k_2_ : h56 (k + 2) = .inl (1, 36, .inl (fun _ => 0)) := by rw [e_h56, va_up_neq (nek (a := 2) (b := 4) (by decide))]; exact F_h46__k_2_
  have F_h56__k_3_ : h56 (k + 3) = .inl (1, 36, .inl (fun _ => 0)) := by rw [e_h56, va_up_neq (nek (a := 3) (b := 4) (by decide))]; exact F_h46__k_3_
  have F_h56__k_4_ : h56 (k + 4) = .inl (1, 36, .inl (fun _ => 0)) := by rw [e_h56]; exact va_up_eq
  have FR_h56 : ∀ j, j < k ∨ aBig ≤ j → h56 j = h j := fun j hj => by rw [e_h56]; exact (va_up_neq (frne (a := 4) hj hbig (by decide))).trans (FR_h46 j hj)
  clear F_h46_k F_h46__k_1_ F_h46__k_2_ F_h46__k_3_ FR_h46 e_h56
  clear h46
  refine WX.put1 (fs := [.int 35, .ref (k + 1), .ref (k + 2), .ref (k + 3), .null, .null, .null, .int 0, .int 0]) (fs' := [.int 35, .ref (k + 1), .ref (k + 2), .ref (k + 3), .ref (k + 4), .null, .null, .int 0, .int 0]) rfl (ltk0 (c := 5) (by decide)) (F_h56_k) (Nat.le_of_ble_eq_true rfl) (rfl) rfl (fun h58 e_h58 => ?_)
  have F_h58_k : h58 k = .inr (8, [.int 35, .ref (k + 1), .ref (k + 2), .ref (k + 3), .ref (k + 4), .null, .null, .int 0, .int 0]) := by rw [e_h58]; exact va_up_eq
  have F_h58__k_1_ : h58 (k + 1) = .inl (1, 36, .inl (fun _ => 0)) := by rw [e_h58, va_up_neq (nek0 (a := 1) (by decide))]; exact F_h56__k_1_
  have F_h58__k_2_ : h58 (k + 2) = .inl (1, 36, .inl (fun _ => 0)) := by rw [e_h58, va_up_neq (nek0 (a := 2) (by decide))]; exact F_h56__k_2_
  have F_h58__k_3_ : h58 (k + 3) = .inl (1, 36, .inl (fun _ => 0)) := by rw [e_h58, va_up_neq (nek0 (a := 3) (by decide))]; exact F_h56__k_3_
  have F_h58__k_4_ : h58 (k + 4) = .inl (1, 36, .inl (fun _ => 0)) := by rw [e_h58, va_up_neq (nek0 (a := 4) (by decide))]; exact F_h56__k_4_
  have FR_h58 : ∀ j, j < k ∨ aBig ≤ j → h58 j = h j := fun j hj => by rw [e_h58]; exact (va_up_neq (frne0 hj hbig)).trans (FR_h56 j hj)
  clear F_h56_k F_h56__k_1_ F_h56__k_2_ F_h56__k_3_ F_h56__k_4_ FR_h56 e_h58
  clear h56
  refine WX.s1 rfl rfl ?_
  refine WX.s1 rfl rfl ?_
  refine WX.s1 rfl rfl ?_
  refine WX.s1 rfl rfl ?_
  refine WX.newaN (N := 512) (z0 := .inl (fun _ => 0)) rfl (by decide) (by decide) (bigk (k := k) (a := 6) hbig (by decide)) rfl (fun h65 e_h65 => ?_)
  have F_h65_k : h65 k = .inr (8, [.int 35, .ref (k + 1), .ref (k + 2), .ref (k + 3), .ref (k + 4), .null, .null, .int 0, .int 0]) := by rw [e_h65, va_up_neq (nek1 (a := 5) (by decide))]; exact F_h58_k
  have F_h65__k_1_ : h65 (k + 1) = .inl (1, 36, .inl (fun _ => 0)) := by rw [e_h65, va_up_neq (nek (a := 1) (b := 5) (by decide))]; exact F_h58__k_1_
  have F_h65__k_2_ : h65 (k + 2) = .inl (1, 36, .inl (fun _ => 0)) := by rw [e_h65, va_up_neq (nek (a := 2) (b := 5) (by decide))]; exact F_h58__k_2_
  have F_h65__k_3_ : h65 (k + 3) = .inl (1, 36, .inl (fun _ => 0)) := by rw [e_h65, va_up_neq (nek (a := 3) (b := 5) (by decide))]; exact F_h58__k_3_
  have F_h65__k_4_ : h65 (k + 4) = .inl (1, 36, .inl (fun _ => 0)) := by rw [e_h65, va_up_neq (nek (a := 4) (b := 5) (by decide))]; exact F_h58__k_4_
  have F_h65__k_5_ : h65 (k + 5) = .inl (1, 512, .inl (fun _ => 0)) := by rw [e_h65]; exact va_up_eq
  have FR_h65 : ∀ j, j < k ∨ aBig ≤ j → h65 j = h j := fun j hj => by rw [e_h65]; exact (va_up_neq (frne (a := 5) hj hbig (by decide))).trans (FR_h58 j hj)
  clear F_h58_k F_h58__k_1_ F_h58__k_2_ F_h58__k_3_ F_h58__k_4_ FR_h58 e_h65
  clear h58
  refine WX.put1 (fs := [.int 35, .ref (k + 1), .ref (k + 2), .ref (k + 3), .ref (k + 4), .null, .null, .int 0, .int 0]) (fs' := [.int 35, .ref (k + 1), .ref (k + 2), .ref (k + 3), .ref (k + 4), .ref (k + 5), .null, .int 0, .int 0]) rfl (ltk0 (c := 6) (by decide)) (F_h65_k) (Nat.le_of_ble_eq_true rfl) (rfl) rfl (fun h67 e_h67 => ?_)
  have F_h67_k : h67 k = .inr (8, [.int 35, .ref (k + 1), .ref (k + 2), .ref (k + 3), .ref (k + 4), .ref (k + 5), .null, .int 0, .int 0]) := by rw [e_h67]; exact va_up_eq
  have F_h67__k_1_ : h67 (k + 1) = .inl (1, 36, .inl (fun _ => 0)) := by rw [e_h67, va_up_neq (nek0 (a := 1) (by decide))]; exact F_h65__k_1_
  have F_h67__k_2_ : h67 (k + 2) = .inl (1, 36, .inl (fun _ => 0)) := by rw [e_h67, va_up_neq (nek0 (a := 2) (by decide))]; exact F_h65__k_2_
  have F_h67__k_3_ : h67 (k + 3) = .inl (1, 36, .inl (fun _ => 0)) := by rw [e_h67, va_up_neq (nek0 (a := 3) (by decide))]; exact F_h65__k_3_
  have F_h67__k_4_ : h67 (k + 4) = .inl (1, 36, .inl (fun _ => 0)) := by rw [e_h67, va_up_neq (nek0 (a := 4) (by decide))]; exact F_h65__k_4_
  have F_h67__k_5_ : h67 (k + 5) = .inl (1, 512, .inl (fun _ => 0)) := by rw [e_h67, va_up_neq (nek0 (a := 5) (by decide))]; exact F_h65__k_5_
  have FR_h67 : ∀ j, j < k ∨ aBig ≤ j → h67 j = h j := fun j hj => by rw [e_h67]; exact (va_up_neq (frne0 hj hbig)).trans (FR_h65 j hj)
  clear F_h65_k F_h65__k_1_ F_h65__k_2_ F_h65__k_3_ F_h65__k_4_ F_h65__k_5_ FR_h65 e_h67
  clear h65
  refine WX.s1 rfl rfl ?_
  refine WX.s1 rfl rfl ?_
  refine WX.s1 rfl rfl ?_
  refine WX.s1 rfl rfl ?_
  refine WX.newaN (N := 512) (z0 := .inl (fun _ => 0)) rfl (by decide) (by decide) (bigk (k := k) (a := 7) hbig (by decide)) rfl (fun h74 e_h74 => ?_)
  have F_h74_k : h74 k = .inr (8, [.int 35, .ref (k + 1), .ref (k + 2), .ref (k + 3), .ref (k + 4), .ref (k + 5), .null, .int 0, .int 0]) := by rw [e_h74, va_up_neq (nek1 (a := 6) (by decide))]; exact F_h67_k
  have F_h74__k_1_ : h74 (k + 1) = .inl (1, 36, .inl (fun _ => 0)) := by rw [e_h74, va_up_neq (nek (a := 1) (b := 6) (by decide))]; exact F_h67__k_1_
  have F_h74__k_2_ : h74 (k + 2) = .inl (1, 36, .inl (fun _ => 0)) := by rw [e_h74, va_up_neq (nek (a := 2) (b := 6) (by decide))]; exact F_h67__k_2_
  have F_h74__k_3_ : h74 (k + 3) = .inl (1, 36, .inl (fun _ => 0)) := by rw [e_h74, va_up_neq (nek (a := 3) (b := 6) (by decide))]; exact F_h67__k_3_
  have F_h74__k_4_ : h74 (k + 4) = .inl (1, 36, .inl (fun _ => 0)) := by rw [e_h74, va_up_neq (nek (a := 4) (b := 6) (by decide))]; exact F_h67__k_4_
  have F_h74__k_5_ : h74 (k + 5) = .inl (1, 512, .inl (fun _ => 0)) := by rw [e_h74, va_up_neq (nek (a := 5) (b := 6) (by decide))]; exact F_h67__k_5_
  have F_h74__k_6_ : h74 (k + 6) = .inl (1, 512, .inl (fun _ => 0)) := by rw [e_h74]; exact va_up_eq
  have FR_h74 : ∀ j, j < k ∨ aBig ≤ j → h74 j = h j := fun j hj => by rw [e_h74]; exact (va_up_neq (frne (a := 6) hj hbig (by decide))).trans (FR_h67 j hj)
  clear F_h67_k F_h67__k_1_ F_h67__k_2_ F_h67__k_3_ F_h67__k_4_ F_h67__k_5_ FR_h67 e_h74
  clear h67
  refine WX.put1 (fs := [.int 35, .ref (k + 1), .ref (k + 2), .ref (k + 3), .ref (k + 4), .ref (k + 5), .null, .int 0, .int 0]) (fs' := [.int 35, .ref (k + 1), .ref (k + 2), .ref (k + 3), .ref (k + 4), .ref (k + 5), .ref (k + 6), .int 0, .int 0]) rfl (ltk0 (c := 7) (by decide)) (F_h74_k) (Nat.le_of_ble_eq_true rfl) (rfl) rfl (fun h76 e_h76 => ?_)
  have F_h76_k : h76 k = .inr (8, [.int 35, .ref (k + 1), .ref (k + 2), .ref (k + 3), .ref (k + 4), .ref (k + 5), .ref (k + 6), .int 0, .int 0]) := by rw [e_h76]; exact va_up_eq
  have F_h76__k_1_ : h76 (k + 1) = .inl (1, 36, .inl (fun _ => 0)) := by rw [e_h76, va_up_neq (nek0 (a := 1) (by decide))]; exact F_h74__k_1_
  have F_h76__k_2_ : h76 (k + 2) = .inl (1, 36, .inl (fun _ => 0)) := by rw [e_h76, va_up_neq (nek0 (a := 2) (by decide))]; exact F_h74__k_2_
  have F_h76__k_3_ : h76 (k + 3) = .inl (1, 36, .inl (fun _ => 0)) := by rw [e_h76, va_up_neq (nek0 (a := 3) (by decide))]; exact F_h74__k_3_
  have F_h76__k_4_ : h76 (k + 4) = .inl (1, 36, .inl (fun _ => 0)) := by rw [e_h76, va_up_neq (nek0 (a := 4) (by decide))]; exact F_h74__k_4_
  have F_h76__k_5_ : h76 (k + 5) = .inl (1, 512, .inl (fun _ => 0)) := by rw [e_h76, va_up_neq (nek0 (a := 5) (by decide))]; exact F_h74__k_5_
  have F_h76__k_6_ : h76 (k + 6) = .inl (1, 512, .inl (fun _ => 0)) := by rw [e_h76, va_up_neq (nek0 (a := 6) (by decide))]; exact F_h74__k_6_
  have FR_h76 : ∀ j, j < k ∨ aBig ≤ j → h76 j = h j := fun j hj => by rw [e_h76]; exact (va_up_neq (frne0 hj hbig)).trans (FR_h74 j hj)
  clear F_h74_k F_h74__k_1_ F_h74__k_2_ F_h74__k_3_ F_h74__k_4_ F_h74__k_5_ F_h74__k_6_ FR_h74 e_h76
  clear h74
  refine WX.ret0 rfl ?_
  exact kk h76 FR_h76 ⟨F_h76_k, F_h76__k_1_, F_h76__k_2_, F_h76__k_3_, F_h76__k_4_, F_h76__k_5_, F_h76__k_6_, trivial⟩
def cShare_31_8 (k : Nat) : List aE := [.inr (8, [.int 31, .ref (k + 1), .ref (k + 2), .ref (k + 3), .ref (k + 4), .ref (k + 5), .ref (k + 6), .int 0, .int 0]), .inl (1, 32, .inl (fun _ => 0)), .inl (1, 32, .inl (fun _ => 0)), .inl (1, 32, .inl (fun _ => 0)), .inl (1, 32, .inl (fun _ => 0)), .inl (1, 256, .inl (fun _ => 0)), .inl (1, 256, .inl (fun _ => 0))]
set_option maxRecDepth 20000 in
theorem n_share_31_8 {d s : Nat} {h : Nat → aE} {k : Nat} (hbig : k + 8 < aBig) (F_h_k : h k = .inr (8, zX8)) {Ψ : Option Value → aH → Prop} (kk : ∀ h', (∀ j, j < k ∨ aBig ≤ j → h' j = h j) → Cells h' k (cShare_31_8 k) → Ψ none (k + 7, s + 640, h')) : WO (mM (d + 1)) 96 [.ref k, .int 31, .int 8] (k + 1, s, h) Ψ := by
  refine WO.of (Nat.le_of_ble_eq_true rfl) ?_
  have FR_h : ∀ j, j < k ∨ aBig ≤ j → h j = h j := fun _ _ => rfl
  show WX (lk tX8_init) (mM (d + 0)) Ψ 0 [(0, .ref k), (1, .int 31), (2, .int 8)] [] (k + 1, s, h)
  refine WX.s1 rfl rfl ?_
  refine WX.s1 rfl rfl ?_
  refine WX.s1 rfl rfl ?_
  refine WX.s1 rfl rfl ?_
  refine WX.s1 rfl rfl ?_
  refine WX.s1 rfl rfl ?_
  refine WX.putNI (fs := [.int 0, .null, .null, .null, .null, .null, .null, .int 0, .int 0]) (fs' := fun f10 => [.int f10, .null, .null, .null, .null, .null, .null, .int 0, .int 0]) rfl (ltk0 (c := 1) (by decide)) (F_h_k) (Nat.le_of_ble_eq_true rfl) (fun _ => rfl) (fun f10 h10 e_f10 e_h10 => ?_)
  try dsimp only at e_f10
  have F_h10_k : h10 k = .inr (8, [.int f10, .null, .null, .null, .null, .null, .null, .int 0, .int 0]) := by rw [e_h10]; exact va_up_eq
  have FR_h10 : ∀ j, j < k ∨ aBig ≤ j → h10 j = h j := fun j hj => by rw [e_h10]; exact (va_up_neq (frne0 hj hbig)).trans (FR_h j hj)
  clear F_h_k FR_h e_h10
  obtain rfl : f10 = 31 := by rw [e_f10]; decide
  refine WX.s1 rfl rfl ?_
  refine WX.s1 rfl rfl ?_
  refine WX.get1 (fs := [.int 31, .null, .null, .null, .null, .null, .null, .int 0, .int 0]) rfl (ltk0 (c := 1) (by decide)) (F_h10_k) rfl ?_
  refine WX.s1 rfl rfl ?_
  refine WX.s1 rfl rfl ?_
  refine WX.newaN (N := 32) (z0 := .inl (fun _ => 0)) rfl (by decide) (by decide) (bigk (k := k) (a := 2) hbig (by decide)) rfl (fun h20 e_h20 => ?_)
  have F_h20_k : h20 k = .inr (8, [.int 31, .null, .null, .null, .null, .null, .null, .int 0, .int 0]) := by rw [e_h20, va_up_neq (nek1 (a := 1) (by decide))]; exact F_h10_k
  have F_h20__k_1_ : h20 (k + 1) = .inl (1, 32, .inl (fun _ => 0)) := by rw [e_h20]; exact va_up_eq
  have FR_h20 : ∀ j, j < k ∨ aBig ≤ j → h20 j = h j := fun j hj => by rw [e_h20]; exact (va_up_neq (frne (a := 1) hj hbig (by decide))).trans (FR_h10 j hj)
  clear F_h10_k FR_h10 e_h20
  clear h10
  refine WX.put1 (fs := [.int 31, .null, .null, .null, .null, .null, .null, .int 0, .int 0]) (fs' := [.int 31, .ref (k + 1), .null, .null, .null, .null, .null, .int 0, .int 0]) rfl (ltk0 (c := 2) (by decide)) (F_h20_k) (Nat.le_of_ble_eq_true rfl) (rfl) rfl (fun h22 e_h22 => ?_)
  have F_h22_k : h22 k = .inr (8, [.int 31, .ref (k + 1), .null, .null, .null, .null, .null, .int 0, .int 0]) := by rw [e_h22]; exact va_up_eq
  have F_h22__k_1_ : h22 (k + 1) = .inl (1, 32, .inl (fun _ => 0)) := by rw [e_h22, va_up_neq (nek0 (a := 1) (by decide))]; exact F_h20__k_1_
  have FR_h22 : ∀ j, j < k ∨ aBig ≤ j → h22 j = h j := fun j hj => by rw [e_h22]; exact (va_up_neq (frne0 hj hbig)).trans (FR_h20 j hj)
  clear F_h20_k F_h20__k_1_ FR_h20 e_h22
  clear h20
  refine WX.s1 rfl rfl ?_
  refine WX.s1 rfl rfl ?_
  refine WX.get1 (fs := [.int 31, .ref (k + 1), .null, .null, .null, .null, .null, .int 0, .int 0]) rfl (ltk0 (c := 2) (by decide)) (F_h22_k) rfl ?_
  refine WX.s1 rfl rfl ?_
  refine WX.s1 rfl rfl ?_
  refine WX.newaN (N := 32) (z0 := .inl (fun _ => 0)) rfl (by decide) (by decide) (bigk (k := k) (a := 3) hbig (by decide)) rfl (fun h32 e_h32 => ?_)
  have F_h32_k : h32 k = .inr (8, [.int 31, .ref (k + 1), .null, .null, .null, .null, .null, .int 0, .int 0]) := by rw [e_h32, va_up_neq (nek1 (a := 2) (by decide))]; exact F_h22_k
  have F_h32__k_1_ : h32 (k + 1) = .inl (1, 32, .inl (fun _ => 0)) := by rw [e_h32, va_up_neq (nek (a := 1) (b := 2) (by decide))]; exact F_h22__k_1_
  have F_h32__k_2_ : h32 (k + 2) = .inl (1, 32, .inl (fun _ => 0)) := by rw [e_h32]; exact va_up_eq
  have FR_h32 : ∀ j, j < k ∨ aBig ≤ j → h32 j = h j := fun j hj => by rw [e_h32]; exact (va_up_neq (frne (a := 2) hj hbig (by decide))).trans (FR_h22 j hj)
  clear F_h22_k F_h22__k_1_ FR_h22 e_h32
  clear h22
  refine WX.put1 (fs := [.int 31, .ref (k + 1), .null, .null, .null, .null, .null, .int 0, .int 0]) (fs' := [.int 31, .ref (k + 1), .ref (k + 2), .null, .null, .null, .null, .int 0, .int 0]) rfl (ltk0 (c := 3) (by decide)) (F_h32_k) (Nat.le_of_ble_eq_true rfl) (rfl) rfl (fun h34 e_h34 => ?_)
  have F_h34_k : h34 k = .inr (8, [.int 31, .ref (k + 1), .ref (k + 2), .null, .null, .null, .null, .int 0, .int 0]) := by rw [e_h34]; exact va_up_eq
  have F_h34__k_1_ : h34 (k + 1) = .inl (1, 32, .inl (fun _ => 0)) := by rw [e_h34, va_up_neq (nek0 (a := 1) (by decide))]; exact F_h32__k_1_
  have F_h34__k_2_ : h34 (k + 2) = .inl (1, 32, .inl (fun _ => 0)) := by rw [e_h34, va_up_neq (nek0 (a := 2) (by decide))]; exact F_h32__k_2_
  have FR_h34 : ∀ j, j < k ∨ aBig ≤ j → h34 j = h j := fun j hj => by rw [e_h34]; exact (va_up_neq (frne0 hj hbig)).trans (FR_h32 j hj)
  clear F_h32_k F_h32__k_1_ F_h32__k_2_ FR_h32 e_h34
  clear h32
  refine WX.s1 rfl rfl ?_
  refine WX.s1 rfl rfl ?_
  refine WX.get1 (fs := [.int 31, .ref (k + 1), .ref (k + 2), .null, .null, .null, .null, .int 0, .int 0]) rfl (ltk0 (c := 3) (by decide)) (F_h34_k) rfl ?_
  refine WX.s1 rfl rfl ?_
  refine WX.s1 rfl rfl ?_
  refine WX.newaN (N := 32) (z0 := .inl (fun _ => 0)) rfl (by decide) (by decide) (bigk (k := k) (a := 4) hbig (by decide)) rfl (fun h44 e_h44 => ?_)
  have F_h44_k : h44 k = .inr (8, [.int 31, .ref (k + 1), .ref (k + 2), .null, .null, .null, .null, .int 0, .int 0]) := by rw [e_h44, va_up_neq (nek1 (a := 3) (by decide))]; exact F_h34_k
  have F_h44__k_1_ : h44 (k + 1) = .inl (1, 32, .inl (fun _ => 0)) := by rw [e_h44, va_up_neq (nek (a := 1) (b := 3) (by decide))]; exact F_h34__k_1_
  have F_h44__k_2_ : h44 (k + 2) = .inl (1, 32, .inl (fun _ => 0)) := by rw [e_h44, va_up_neq (nek (a := 2) (b := 3) (by decide))]; exact F_h34__k_2_
  have F_h44__k_3_ : h44 (k + 3) = .inl (1, 32, .inl (fun _ => 0)) := by rw [e_h44]; exact va_up_eq
  have FR_h44 : ∀ j, j < k ∨ aBig ≤ j → h44 j = h j := fun j hj => by rw [e_h44]; exact (va_up_neq (frne (a := 3) hj hbig (by decide))).trans (FR_h34 j hj)
  clear F_h34_k F_h34__k_1_ F_h34__k_2_ FR_h34 e_h44
  clear h34
  refine WX.put1 (fs := [.int 31, .ref (k + 1), .ref (k + 2), .null, .null, .null, .null, .int 0, .int 0]) (fs' := [.int 31, .ref (k + 1), .ref (k + 2), .ref (k + 3), .null, .null, .null, .int 0, .int 0]) rfl (ltk0 (c := 4) (by decide)) (F_h44_k) (Nat.le_of_ble_eq_true rfl) (rfl) rfl (fun h46 e_h46 => ?_)
  have F_h46_k : h46 k = .inr (8, [.int 31, .ref (k + 1), .ref (k + 2), .ref (k + 3), .null, .null, .null, .int 0, .int 0]) := by rw [e_h46]; exact va_up_eq
  have F_h46__k_1_ : h46 (k + 1) = .inl (1, 32, .inl (fun _ => 0)) := by rw [e_h46, va_up_neq (nek0 (a := 1) (by decide))]; exact F_h44__k_1_
  have F_h46__k_2_ : h46 (k + 2) = .inl (1, 32, .inl (fun _ => 0)) := by rw [e_h46, va_up_neq (nek0 (a := 2) (by decide))]; exact F_h44__k_2_
  have F_h46__k_3_ : h46 (k + 3) = .inl (1, 32, .inl (fun _ => 0)) := by rw [e_h46, va_up_neq (nek0 (a := 3) (by decide))]; exact F_h44__k_3_
  have FR_h46 : ∀ j, j < k ∨ aBig ≤ j → h46 j = h j := fun j hj => by rw [e_h46]; exact (va_up_neq (frne0 hj hbig)).trans (FR_h44 j hj)
  clear F_h44_k F_h44__k_1_ F_h44__k_2_ F_h44__k_3_ FR_h44 e_h46
  clear h44
  refine WX.s1 rfl rfl ?_
  refine WX.s1 rfl rfl ?_
  refine WX.get1 (fs := [.int 31, .ref (k + 1), .ref (k + 2), .ref (k + 3), .null, .null, .null, .int 0, .int 0]) rfl (ltk0 (c := 4) (by decide)) (F_h46_k) rfl ?_
  refine WX.s1 rfl rfl ?_
  refine WX.s1 rfl rfl ?_
  refine WX.newaN (N := 32) (z0 := .inl (fun _ => 0)) rfl (by decide) (by decide) (bigk (k := k) (a := 5) hbig (by decide)) rfl (fun h56 e_h56 => ?_)
  have F_h56_k : h56 k = .inr (8, [.int 31, .ref (k + 1), .ref (k + 2), .ref (k + 3), .null, .null, .null, .int 0, .int 0]) := by rw [e_h56, va_up_neq (nek1 (a := 4) (by decide))]; exact F_h46_k
  have F_h56__k_1_ : h56 (k + 1) = .inl (1, 32, .inl (fun _ => 0)) := by rw [e_h56, va_up_neq (nek (a := 1) (b := 4) (by decide))]; exact F_h46__k_1_
  have F_h56__k_2_ : h56 (k + 2) = .inl (1, 32, .inl (fun _ => 0)) := by rw [e_h56, va_up_neq (nek (a := 2) (b := 4) (by decide))]; exact F_h46__k_2_
  have F_h56__k_3_ : h56 (k + 3) = .inl (1, 32, .inl (fun _ => 0)) := by rw [e_h56, va_up_neq (nek (a := 3) (b := 4) (by decide))]; exact F_h46__k_3_
  have F_h56__k_4_ : h56 (k + 4) = .inl (1, 32, .inl (fun _ => 0)) := by rw [e_h56]; exact va_up_eq
  have FR_h56 : ∀ j, j < k ∨ aBig ≤ j → h56 j = h j := fun j hj => by rw [e_h56]; exact (va_up_neq (frne (a := 4) hj hbig (by decide))).trans (FR_h46 j hj)
  clear F_h46_k F_h46__k_1_ F_h46__k_2_ F_h46__k_3_ FR_h46 e_h56
  clear h46
  refine WX.put1 (fs := [.int 31, .ref (k + 1), .ref (k + 2), .ref (k + 3), .null, .null, .null, .int 0, .int 0]) (fs' := [.int 31, .ref (k + 1), .ref (k + 2), .ref (k + 3), .ref (k + 4), .null, .null, .int 0, .int 0]) rfl (ltk0 (c := 5) (by decide)) (F_h56_k) (Nat.le_of_ble_eq_true rfl) (rfl) rfl (fun h58 e_h58 => ?_)
  have F_h58_k : h58 k = .inr (8, [.int 31, .ref (k + 1), .ref (k + 2), .ref (k + 3), .ref (k + 4), .null, .null, .int 0, .int 0]) := by rw [e_h58]; exact va_up_eq
  have F_h58__k_1_ : h58 (k + 1) = .inl (1, 32, .inl (fun _ => 0)) := by rw [e_h58, va_up_neq (nek0 (a := 1) (by decide))]; exact F_h56__k_1_
  have F_h58__k_2_ : h58 (k + 2) = .inl (1, 32, .inl (fun _ => 0)) := by rw [e_h58, va_up_neq (nek0 (a := 2) (by decide))]; exact F_h56__k_2_
  have F_h58__k_3_ : h58 (k + 3) = .inl (1, 32, .inl (fun _ => 0)) := by rw [e_h58, va_up_neq (nek0 (a := 3) (by decide))]; exact F_h56__k_3_
  have F_h58__k_4_ : h58 (k + 4) = .inl (1, 32, .inl (fun _ => 0)) := by rw [e_h58, va_up_neq (nek0 (a := 4) (by decide))]; exact F_h56__k_4_
  have FR_h58 : ∀ j, j < k ∨ aBig ≤ j → h58 j = h j := fun j hj => by rw [e_h58]; exact (va_up_neq (frne0 hj hbig)).trans (FR_h56 j hj)
  clear F_h56_k F_h56__k_1_ F_h56__k_2_ F_h56__k_3_ F_h56__k_4_ FR_h56 e_h58
  clear h56
  refine WX.s1 rfl rfl ?_
  refine WX.s1 rfl rfl ?_
  refine WX.s1 rfl rfl ?_
  refine WX.s1 rfl rfl ?_
  refine WX.newaN (N := 256) (z0 := .inl (fun _ => 0)) rfl (by decide) (by decide) (bigk (k := k) (a := 6) hbig (by decide)) rfl (fun h65 e_h65 => ?_)
  have F_h65_k : h65 k = .inr (8, [.int 31, .ref (k + 1), .ref (k + 2), .ref (k + 3), .ref (k + 4), .null, .null, .int 0, .int 0]) := by rw [e_h65, va_up_neq (nek1 (a := 5) (by decide))]; exact F_h58_k
  have F_h65__k_1_ : h65 (k + 1) = .inl (1, 32, .inl (fun _ => 0)) := by rw [e_h65, va_up_neq (nek (a := 1) (b := 5) (by decide))]; exact F_h58__k_1_
  have F_h65__k_2_ : h65 (k + 2) = .inl (1, 32, .inl (fun _ => 0)) := by rw [e_h65, va_up_neq (nek (a := 2) (b := 5) (by decide))]; exact F_h58__k_2_
  have F_h65__k_3_ : h65 (k + 3) = .inl (1, 32, .inl (fun _ => 0)) := by rw [e_h65, va_up_neq (nek (a := 3) (b := 5) (by decide))]; exact F_h58__k_3_
  have F_h65__k_4_ : h65 (k + 4) = .inl (1, 32, .inl (fun _ => 0)) := by rw [e_h65, va_up_neq (nek (a := 4) (b := 5) (by decide))]; exact F_h58__k_4_
  have F_h65__k_5_ : h65 (k + 5) = .inl (1, 256, .inl (fun _ => 0)) := by rw [e_h65]; exact va_up_eq
  have FR_h65 : ∀ j, j < k ∨ aBig ≤ j → h65 j = h j := fun j hj => by rw [e_h65]; exact (va_up_neq (frne (a := 5) hj hbig (by decide))).trans (FR_h58 j hj)
  clear F_h58_k F_h58__k_1_ F_h58__k_2_ F_h58__k_3_ F_h58__k_4_ FR_h58 e_h65
  clear h58
  refine WX.put1 (fs := [.int 31, .ref (k + 1), .ref (k + 2), .ref (k + 3), .ref (k + 4), .null, .null, .int 0, .int 0]) (fs' := [.int 31, .ref (k + 1), .ref (k + 2), .ref (k + 3), .ref (k + 4), .ref (k + 5), .null, .int 0, .int 0]) rfl (ltk0 (c := 6) (by decide)) (F_h65_k) (Nat.le_of_ble_eq_true rfl) (rfl) rfl (fun h67 e_h67 => ?_)
  have F_h67_k : h67 k = .inr (8, [.int 31, .ref (k + 1), .ref (k + 2), .ref (k + 3), .ref (k + 4), .ref (k + 5), .null, .int 0, .int 0]) := by rw [e_h67]; exact va_up_eq
  have F_h67__k_1_ : h67 (k + 1) = .inl (1, 32, .inl (fun _ => 0)) := by rw [e_h67, va_up_neq (nek0 (a := 1) (by decide))]; exact F_h65__k_1_
  have F_h67__k_2_ : h67 (k + 2) = .inl (1, 32, .inl (fun _ => 0)) := by rw [e_h67, va_up_neq (nek0 (a := 2) (by decide))]; exact F_h65__k_2_
  have F_h67__k_3_ : h67 (k + 3) = .inl (1, 32, .inl (fun _ => 0)) := by rw [e_h67, va_up_neq (nek0 (a := 3) (by decide))]; exact F_h65__k_3_
  have F_h67__k_4_ : h67 (k + 4) = .inl (1, 32, .inl (fun _ => 0)) := by rw [e_h67, va_up_neq (nek0 (a := 4) (by decide))]; exact F_h65__k_4_
  have F_h67__k_5_ : h67 (k + 5) = .inl (1, 256, .inl (fun _ => 0)) := by rw [e_h67, va_up_neq (nek0 (a := 5) (by decide))]; exact F_h65__k_5_
  have FR_h67 : ∀ j, j < k ∨ aBig ≤ j → h67 j = h j := fun j hj => by rw [e_h67]; exact (va_up_neq (frne0 hj hbig)).trans (FR_h65 j hj)
  clear F_h65_k F_h65__k_1_ F_h65__k_2_ F_h65__k_3_ F_h65__k_4_ F_h65__k_5_ FR_h65 e_h67
  clear h65
  refine WX.s1 rfl rfl ?_
  refine WX.s1 rfl rfl ?_
  refine WX.s1 rfl rfl ?_
  refine WX.s1 rfl rfl ?_
  refine WX.newaN (N := 256) (z0 := .inl (fun _ => 0)) rfl (by decide) (by decide) (bigk (k := k) (a := 7) hbig (by decide)) rfl (fun h74 e_h74 => ?_)
  have F_h74_k : h74 k = .inr (8, [.int 31, .ref (k + 1), .ref (k + 2), .ref (k + 3), .ref (k + 4), .ref (k + 5), .null, .int 0, .int 0]) := by rw [e_h74, va_up_neq (nek1 (a := 6) (by decide))]; exact F_h67_k
  have F_h74__k_1_ : h74 (k + 1) = .inl (1, 32, .inl (fun _ => 0)) := by rw [e_h74, va_up_neq (nek (a := 1) (b := 6) (by decide))]; exact F_h67__k_1_
  have F_h74__k_2_ : h74 (k + 2) = .inl (1, 32, .inl (fun _ => 0)) := by rw [e_h74, va_up_neq (nek (a := 2) (b := 6) (by decide))]; exact F_h67__k_2_
  have F_h74__k_3_ : h74 (k + 3) = .inl (1, 32, .inl (fun _ => 0)) := by rw [e_h74, va_up_neq (nek (a := 3) (b := 6) (by decide))]; exact F_h67__k_3_
  have F_h74__k_4_ : h74 (k + 4) = .inl (1, 32, .inl (fun _ => 0)) := by rw [e_h74, va_up_neq (nek (a := 4) (b := 6) (by decide))]; exact F_h67__k_4_
  have F_h74__k_5_ : h74 (k + 5) = .inl (1, 256, .inl (fun _ => 0)) := by rw [e_h74, va_up_neq (nek (a := 5) (b := 6) (by decide))]; exact F_h67__k_5_
  have F_h74__k_6_ : h74 (k + 6) = .inl (1, 256, .inl (fun _ => 0)) := by rw [e_h74]; exact va_up_eq
  have FR_h74 : ∀ j, j < k ∨ aBig ≤ j → h74 j = h j := fun j hj => by rw [e_h74]; exact (va_up_neq (frne (a := 6) hj hbig (by decide))).trans (FR_h67 j hj)
  clear F_h67_k F_h67__k_1_ F_h67__k_2_ F_h67__k_3_ F_h67__k_4_ F_h67__k_5_ FR_h67 e_h74
  clear h67
  refine WX.put1 (fs := [.int 31, .ref (k + 1), .ref (k + 2), .ref (k + 3), .ref (k + 4), .ref (k + 5), .null, .int 0, .int 0]) (fs' := [.int 31, .ref (k + 1), .ref (k + 2), .ref (k + 3), .ref (k + 4), .ref (k + 5), .ref (k + 6), .int 0, .int 0]) rfl (ltk0 (c := 7) (by decide)) (F_h74_k) (Nat.le_of_ble_eq_true rfl) (rfl) rfl (fun h76 e_h76 => ?_)
  have F_h76_k : h76 k = .inr (8, [.int 31, .ref (k + 1), .ref (k + 2), .ref (k + 3), .ref (k + 4), .ref (k + 5), .ref (k + 6), .int 0, .int 0]) := by rw [e_h76]; exact va_up_eq
  have F_h76__k_1_ : h76 (k + 1) = .inl (1, 32, .inl (fun _ => 0)) := by rw [e_h76, va_up_neq (nek0 (a := 1) (by decide))]; exact F_h74__k_1_
  have F_h76__k_2_ : h76 (k + 2) = .inl (1, 32, .inl (fun _ => 0)) := by rw [e_h76, va_up_neq (nek0 (a := 2) (by decide))]; exact F_h74__k_2_
  have F_h76__k_3_ : h76 (k + 3) = .inl (1, 32, .inl (fun _ => 0)) := by rw [e_h76, va_up_neq (nek0 (a := 3) (by decide))]; exact F_h74__k_3_
  have F_h76__k_4_ : h76 (k + 4) = .inl (1, 32, .inl (fun _ => 0)) := by rw [e_h76, va_up_neq (nek0 (a := 4) (by decide))]; exact F_h74__k_4_
  have F_h76__k_5_ : h76 (k + 5) = .inl (1, 256, .inl (fun _ => 0)) := by rw [e_h76, va_up_neq (nek0 (a := 5) (by decide))]; exact F_h74__k_5_
  have F_h76__k_6_ : h76 (k + 6) = .inl (1, 256, .inl (fun _ => 0)) := by rw [e_h76, va_up_neq (nek0 (a := 6) (by decide))]; exact F_h74__k_6_
  have FR_h76 : ∀ j, j < k ∨ aBig ≤ j → h76 j = h j := fun j hj => by rw [e_h76]; exact (va_up_neq (frne0 hj hbig)).trans (FR_h74 j hj)
  clear F_h74_k F_h74__k_1_ F_h74__k_2_ F_h74__k_3_ F_h74__k_4_ F_h74__k_5_ F_h74__k_6_ FR_h74 e_h76
  clear h74
  refine WX.ret0 rfl ?_
  exact kk h76 FR_h76 ⟨F_h76_k, F_h76__k_1_, F_h76__k_2_, F_h76__k_3_, F_h76__k_4_, F_h76__k_5_, F_h76__k_6_, trivial⟩
def cShare_52_9 (k : Nat) : List aE := [.inr (8, [.int 52, .ref (k + 1), .ref (k + 2), .ref (k + 3), .ref (k + 4), .ref (k + 5), .ref (k + 6), .int 0, .int 0]), .inl (1, 53, .inl (fun _ => 0)), .inl (1, 53, .inl (fun _ => 0)), .inl (1, 53, .inl (fun _ => 0)), .inl (1, 53, .inl (fun _ => 0)), .inl (1, 512, .inl (fun _ => 0)), .inl (1, 512, .inl (fun _ => 0))]
set_option maxRecDepth 20000 in
theorem n_share_52_9 {d s : Nat} {h : Nat → aE} {k : Nat} (hbig : k + 8 < aBig) (F_h_k : h k = .inr (8, zX8)) {Ψ : Option Value → aH → Prop} (kk : ∀ h', (∀ j, j < k ∨ aBig ≤ j → h' j = h j) → Cells h' k (cShare_52_9 k) → Ψ none (k + 7, s + 1236, h')) : WO (mM (d + 1)) 96 [.ref k, .int 52, .int 9] (k + 1, s, h) Ψ := by
  refine WO.of (Nat.le_of_ble_eq_true rfl) ?_
  have FR_h : ∀ j, j < k ∨ aBig ≤ j → h j = h j := fun _ _ => rfl
  show WX (lk tX8_init) (mM (d + 0)) Ψ 0 [(0, .ref k), (1, .int 52), (2, .int 9)] [] (k + 1, s, h)
  refine WX.s1 rfl rfl ?_
  refine WX.s1 rfl rfl ?_
  refine WX.s1 rfl rfl ?_
  refine WX.s1 rfl rfl ?_
  refine WX.s1 rfl rfl ?_
  refine WX.s1 rfl rfl ?_
  refine WX.putNI (fs := [.int 0, .null, .null, .null, .null, .null, .null, .int 0, .int 0]) (fs' := fun f10 => [.int f10, .null, .null, .null, .null, .null, .null, .int 0, .int 0]) rfl (ltk0 (c := 1) (by decide)) (F_h_k) (Nat.le_of_ble_eq_true rfl) (fun _ => rfl) (fun f10 h10 e_f10 e_h10 => ?_)
  try dsimp only at e_f10
  have F_h10_k : h10 k = .inr (8, [.int f10, .null, .null, .null, .null, .null, .null, .int 0, .int 0]) := by rw [e_h10]; exact va_up_eq
  have FR_h10 : ∀ j, j < k ∨ aBig ≤ j → h10 j = h j := fun j hj => by rw [e_h10]; exact (va_up_neq (frne0 hj hbig)).trans (FR_h j hj)
  clear F_h_k FR_h e_h10
  obtain rfl : f10 = 52 := by rw [e_f10]; decide
  refine WX.s1 rfl rfl ?_
  refine WX.s1 rfl rfl ?_
  refine WX.get1 (fs := [.int 52, .null, .null, .null, .null, .null, .null, .int 0, .int 0]) rfl (ltk0 (c := 1) (by decide)) (F_h10_k) rfl ?_
  refine WX.s1 rfl rfl ?_
  refine WX.s1 rfl rfl ?_
  refine WX.newaN (N := 53) (z0 := .inl (fun _ => 0)) rfl (by decide) (by decide) (bigk (k := k) (a := 2) hbig (by decide)) rfl (fun h20 e_h20 => ?_)
  have F_h20_k : h20 k = .inr (8, [.int 52, .null, .null, .null, .null, .null, .null, .int 0, .int 0]) := by rw [e_h20, va_up_neq (nek1 (a := 1) (by decide))]; exact F_h10_k
  have F_h20__k_1_ : h20 (k + 1) = .inl (1, 53, .inl (fun _ => 0)) := by rw [e_h20]; exact va_up_eq
  have FR_h20 : ∀ j, j < k ∨ aBig ≤ j → h20 j = h j := fun j hj => by rw [e_h20]; exact (va_up_neq (frne (a := 1) hj hbig (by decide))).trans (FR_h10 j hj)
  clear F_h10_k FR_h10 e_h20
  clear h10
  refine WX.put1 (fs := [.int 52, .null, .null, .null, .null, .null, .null, .int 0, .int 0]) (fs' := [.int 52, .ref (k + 1), .null, .null, .null, .null, .null, .int 0, .int 0]) rfl (ltk0 (c := 2) (by decide)) (F_h20_k) (Nat.le_of_ble_eq_true rfl) (rfl) rfl (fun h22 e_h22 => ?_)
  have F_h22_k : h22 k = .inr (8, [.int 52, .ref (k + 1), .null, .null, .null, .null, .null, .int 0, .int 0]) := by rw [e_h22]; exact va_up_eq
  have F_h22__k_1_ : h22 (k + 1) = .inl (1, 53, .inl (fun _ => 0)) := by rw [e_h22, va_up_neq (nek0 (a := 1) (by decide))]; exact F_h20__k_1_
  have FR_h22 : ∀ j, j < k ∨ aBig ≤ j → h22 j = h j := fun j hj => by rw [e_h22]; exact (va_up_neq (frne0 hj hbig)).trans (FR_h20 j hj)
  clear F_h20_k F_h20__k_1_ FR_h20 e_h22
  clear h20
  refine WX.s1 rfl rfl ?_
  refine WX.s1 rfl rfl ?_
  refine WX.get1 (fs := [.int 52, .ref (k + 1), .null, .null, .null, .null, .null, .int 0, .int 0]) rfl (ltk0 (c := 2) (by decide)) (F_h22_k) rfl ?_
  refine WX.s1 rfl rfl ?_
  refine WX.s1 rfl rfl ?_
  refine WX.newaN (N := 53) (z0 := .inl (fun _ => 0)) rfl (by decide) (by decide) (bigk (k := k) (a := 3) hbig (by decide)) rfl (fun h32 e_h32 => ?_)
  have F_h32_k : h32 k = .inr (8, [.int 52, .ref (k + 1), .null, .null, .null, .null, .null, .int 0, .int 0]) := by rw [e_h32, va_up_neq (nek1 (a := 2) (by decide))]; exact F_h22_k
  have F_h32__k_1_ : h32 (k + 1) = .inl (1, 53, .inl (fun _ => 0)) := by rw [e_h32, va_up_neq (nek (a := 1) (b := 2) (by decide))]; exact F_h22__k_1_
  have F_h32__k_2_ : h32 (k + 2) = .inl (1, 53, .inl (fun _ => 0)) := by rw [e_h32]; exact va_up_eq
  have FR_h32 : ∀ j, j < k ∨ aBig ≤ j → h32 j = h j := fun j hj => by rw [e_h32]; exact (va_up_neq (frne (a := 2) hj hbig (by decide))).trans (FR_h22 j hj)
  clear F_h22_k F_h22__k_1_ FR_h22 e_h32
  clear h22
  refine WX.put1 (fs := [.int 52, .ref (k + 1), .null, .null, .null, .null, .null, .int 0, .int 0]) (fs' := [.int 52, .ref (k + 1), .ref (k + 2), .null, .null, .null, .null, .int 0, .int 0]) rfl (ltk0 (c := 3) (by decide)) (F_h32_k) (Nat.le_of_ble_eq_true rfl) (rfl) rfl (fun h34 e_h34 => ?_)
  have F_h34_k : h34 k = .inr (8, [.int 52, .ref (k + 1), .ref (k + 2), .null, .null, .null, .null, .int 0, .int 0]) := by rw [e_h34]; exact va_up_eq
  have F_h34__k_1_ : h34 (k + 1) = .inl (1, 53, .inl (fun _ => 0)) := by rw [e_h34, va_up_neq (nek0 (a := 1) (by decide))]; exact F_h32__k_1_
  have F_h34__k_2_ : h34 (k + 2) = .inl (1, 53, .inl (fun _ => 0)) := by rw [e_h34, va_up_neq (nek0 (a := 2) (by decide))]; exact F_h32__k_2_
  have FR_h34 : ∀ j, j < k ∨ aBig ≤ j → h34 j = h j := fun j hj => by rw [e_h34]; exact (va_up_neq (frne0 hj hbig)).trans (FR_h32 j hj)
  clear F_h32_k F_h32__k_1_ F_h32__k_2_ FR_h32 e_h34
  clear h32
  refine WX.s1 rfl rfl ?_
  refine WX.s1 rfl rfl ?_
  refine WX.get1 (fs := [.int 52, .ref (k + 1), .ref (k + 2), .null, .null, .null, .null, .int 0, .int 0]) rfl (ltk0 (c := 3) (by decide)) (F_h34_k) rfl ?_
  refine WX.s1 rfl rfl ?_
  refine WX.s1 rfl rfl ?_
  refine WX.newaN (N := 53) (z0 := .inl (fun _ => 0)) rfl (by decide) (by decide) (bigk (k := k) (a := 4) hbig (by decide)) rfl (fun h44 e_h44 => ?_)
  have F_h44_k : h44 k = .inr (8, [.int 52, .ref (k + 1), .ref (k + 2), .null, .null, .null, .null, .int 0, .int 0]) := by rw [e_h44, va_up_neq (nek1 (a := 3) (by decide))]; exact F_h34_k
  have F_h44__k_1_ : h44 (k + 1) = .inl (1, 53, .inl (fun _ => 0)) := by rw [e_h44, va_up_neq (nek (a := 1) (b := 3) (by decide))]; exact F_h34__k_1_
  have F_h44__k_2_ : h44 (k + 2) = .inl (1, 53, .inl (fun _ => 0)) := by rw [e_h44, va_up_neq (nek (a := 2) (b := 3) (by decide))]; exact F_h34__k_2_
  have F_h44__k_3_ : h44 (k + 3) = .inl (1, 53, .inl (fun _ => 0)) := by rw [e_h44]; exact va_up_eq
  have FR_h44 : ∀ j, j < k ∨ aBig ≤ j → h44 j = h j := fun j hj => by rw [e_h44]; exact (va_up_neq (frne (a := 3) hj hbig (by decide))).trans (FR_h34 j hj)
  clear F_h34_k F_h34__k_1_ F_h34__k_2_ FR_h34 e_h44
  clear h34
  refine WX.put1 (fs := [.int 52, .ref (k + 1), .ref (k + 2), .null, .null, .null, .null, .int 0, .int 0]) (fs' := [.int 52, .ref (k + 1), .ref (k + 2), .ref (k + 3), .null, .null, .null, .int 0, .int 0]) rfl (ltk0 (c := 4) (by decide)) (F_h44_k) (Nat.le_of_ble_eq_true rfl) (rfl) rfl (fun h46 e_h46 => ?_)
  have F_h46_k : h46 k = .inr (8, [.int 52, .ref (k + 1), .ref (k + 2), .ref (k + 3), .null, .null, .null, .int 0, .int 0]) := by rw [e_h46]; exact va_up_eq
  have F_h46__k_1_ : h46 (k + 1) = .inl (1, 53, .inl (fun _ => 0)) := by rw [e_h46, va_up_neq (nek0 (a := 1) (by decide))]; exact F_h44__k_1_
  have F_h46__k_2_ : h46 (k + 2) = .inl (1, 53, .inl (fun _ => 0)) := by rw [e_h46, va_up_neq (nek0 (a := 2) (by decide))]; exact F_h44__k_2_
  have F_h46__k_3_ : h46 (k + 3) = .inl (1, 53, .inl (fun _ => 0)) := by rw [e_h46, va_up_neq (nek0 (a := 3) (by decide))]; exact F_h44__k_3_
  have FR_h46 : ∀ j, j < k ∨ aBig ≤ j → h46 j = h j := fun j hj => by rw [e_h46]; exact (va_up_neq (frne0 hj hbig)).trans (FR_h44 j hj)
  clear F_h44_k F_h44__k_1_ F_h44__k_2_ F_h44__k_3_ FR_h44 e_h46
  clear h44
  refine WX.s1 rfl rfl ?_
  refine WX.s1 rfl rfl ?_
  refine WX.get1 (fs := [.int 52, .ref (k + 1), .ref (k + 2), .ref (k + 3), .null, .null, .null, .int 0, .int 0]) rfl (ltk0 (c := 4) (by decide)) (F_h46_k) rfl ?_
  refine WX.s1 rfl rfl ?_
  refine WX.s1 rfl rfl ?_
  refine WX.newaN (N := 53) (z0 := .inl (fun _ => 0)) rfl (by decide) (by decide) (bigk (k := k) (a := 5) hbig (by decide)) rfl (fun h56 e_h56 => ?_)
  have F_h56_k : h56 k = .inr (8, [.int 52, .ref (k + 1), .ref (k + 2), .ref (k + 3), .null, .null, .null, .int 0, .int 0]) := by rw [e_h56, va_up_neq (nek1 (a := 4) (by decide))]; exact F_h46_k
  have F_h56__k_1_ : h56 (k + 1) = .inl (1, 53, .inl (fun _ => 0)) := by rw [e_h56, va_up_neq (nek (a := 1) (b := 4) (by decide))]; exact F_h46__k_1_
  have F_h56__k_2_ : h56 (k + 2) = .inl (1, 53, .inl (fun _ => 0)) := by rw [e_h56, va_up_neq (nek (a := 2) (b := 4) (by decide))]; exact F_h46__k_2_
  have F_h56__k_3_ : h56 (k + 3) = .inl (1, 53, .inl (fun _ => 0)) := by rw [e_h56, va_up_neq (nek (a := 3) (b := 4) (by decide))]; exact F_h46__k_3_
  have F_h56__k_4_ : h56 (k + 4) = .inl (1, 53, .inl (fun _ => 0)) := by rw [e_h56]; exact va_up_eq
  have FR_h56 : ∀ j, j < k ∨ aBig ≤ j → h56 j = h j := fun j hj => by rw [e_h56]; exact (va_up_neq (frne (a := 4) hj hbig (by decide))).trans (FR_h46 j hj)
  clear F_h46_k F_h46__k_1_ F_h46__k_2_ F_h46__k_3_ FR_h46 e_h56
  clear h46
  refine WX.put1 (fs := [.int 52, .ref (k + 1), .ref (k + 2), .ref (k + 3), .null, .null, .null, .int 0, .int 0]) (fs' := [.int 52, .ref (k + 1), .ref (k + 2), .ref (k + 3), .ref (k + 4), .null, .null, .int 0, .int 0]) rfl (ltk0 (c := 5) (by decide)) (F_h56_k) (Nat.le_of_ble_eq_true rfl) (rfl) rfl (fun h58 e_h58 => ?_)
  have F_h58_k : h58 k = .inr (8, [.int 52, .ref (k + 1), .ref (k + 2), .ref (k + 3), .ref (k + 4), .null, .null, .int 0, .int 0]) := by rw [e_h58]; exact va_up_eq
  have F_h58__k_1_ : h58 (k + 1) = .inl (1, 53, .inl (fun _ => 0)) := by rw [e_h58, va_up_neq (nek0 (a := 1) (by decide))]; exact F_h56__k_1_
  have F_h58__k_2_ : h58 (k + 2) = .inl (1, 53, .inl (fun _ => 0)) := by rw [e_h58, va_up_neq (nek0 (a := 2) (by decide))]; exact F_h56__k_2_
  have F_h58__k_3_ : h58 (k + 3) = .inl (1, 53, .inl (fun _ => 0)) := by rw [e_h58, va_up_neq (nek0 (a := 3) (by decide))]; exact F_h56__k_3_
  have F_h58__k_4_ : h58 (k + 4) = .inl (1, 53, .inl (fun _ => 0)) := by rw [e_h58, va_up_neq (nek0 (a := 4) (by decide))]; exact F_h56__k_4_
  have FR_h58 : ∀ j, j < k ∨ aBig ≤ j → h58 j = h j := fun j hj => by rw [e_h58]; exact (va_up_neq (frne0 hj hbig)).trans (FR_h56 j hj)
  clear F_h56_k F_h56__k_1_ F_h56__k_2_ F_h56__k_3_ F_h56__k_4_ FR_h56 e_h58
  clear h56
  refine WX.s1 rfl rfl ?_
  refine WX.s1 rfl rfl ?_
  refine WX.s1 rfl rfl ?_
  refine WX.s1 rfl rfl ?_
  refine WX.newaN (N := 512) (z0 := .inl (fun _ => 0)) rfl (by decide) (by decide) (bigk (k := k) (a := 6) hbig (by decide)) rfl (fun h65 e_h65 => ?_)
  have F_h65_k : h65 k = .inr (8, [.int 52, .ref (k + 1), .ref (k + 2), .ref (k + 3), .ref (k + 4), .null, .null, .int 0, .int 0]) := by rw [e_h65, va_up_neq (nek1 (a := 5) (by decide))]; exact F_h58_k
  have F_h65__k_1_ : h65 (k + 1) = .inl (1, 53, .inl (fun _ => 0)) := by rw [e_h65, va_up_neq (nek (a := 1) (b := 5) (by decide))]; exact F_h58__k_1_
  have F_h65__k_2_ : h65 (k + 2) = .inl (1, 53, .inl (fun _ => 0)) := by rw [e_h65, va_up_neq (nek (a := 2) (b := 5) (by decide))]; exact F_h58__k_2_
  have F_h65__k_3_ : h65 (k + 3) = .inl (1, 53, .inl (fun _ => 0)) := by rw [e_h65, va_up_neq (nek (a := 3) (b := 5) (by decide))]; exact F_h58__k_3_
  have F_h65__k_4_ : h65 (k + 4) = .inl (1, 53, .inl (fun _ => 0)) := by rw [e_h65, va_up_neq (nek (a := 4) (b := 5) (by decide))]; exact F_h58__k_4_
  have F_h65__k_5_ : h65 (k + 5) = .inl (1, 512, .inl (fun _ => 0)) := by rw [e_h65]; exact va_up_eq
  have FR_h65 : ∀ j, j < k ∨ aBig ≤ j → h65 j = h j := fun j hj => by rw [e_h65]; exact (va_up_neq (frne (a := 5) hj hbig (by decide))).trans (FR_h58 j hj)
  clear F_h58_k F_h58__k_1_ F_h58__k_2_ F_h58__k_3_ F_h58__k_4_ FR_h58 e_h65
  clear h58
  refine WX.put1 (fs := [.int 52, .ref (k + 1), .ref (k + 2), .ref (k + 3), .ref (k + 4), .null, .null, .int 0, .int 0]) (fs' := [.int 52, .ref (k + 1), .ref (k + 2), .ref (k + 3), .ref (k + 4), .ref (k + 5), .null, .int 0, .int 0]) rfl (ltk0 (c := 6) (by decide)) (F_h65_k) (Nat.le_of_ble_eq_true rfl) (rfl) rfl (fun h67 e_h67 => ?_)
  have F_h67_k : h67 k = .inr (8, [.int 52, .ref (k + 1), .ref (k + 2), .ref (k + 3), .ref (k + 4), .ref (k + 5), .null, .int 0, .int 0]) := by rw [e_h67]; exact va_up_eq
  have F_h67__k_1_ : h67 (k + 1) = .inl (1, 53, .inl (fun _ => 0)) := by rw [e_h67, va_up_neq (nek0 (a := 1) (by decide))]; exact F_h65__k_1_
  have F_h67__k_2_ : h67 (k + 2) = .inl (1, 53, .inl (fun _ => 0)) := by rw [e_h67, va_up_neq (nek0 (a := 2) (by decide))]; exact F_h65__k_2_
  have F_h67__k_3_ : h67 (k + 3) = .inl (1, 53, .inl (fun _ => 0)) := by rw [e_h67, va_up_neq (nek0 (a := 3) (by decide))]; exact F_h65__k_3_
  have F_h67__k_4_ : h67 (k + 4) = .inl (1, 53, .inl (fun _ => 0)) := by rw [e_h67, va_up_neq (nek0 (a := 4) (by decide))]; exact F_h65__k_4_
  have F_h67__k_5_ : h67 (k + 5) = .inl (1, 512, .inl (fun _ => 0)) := by rw [e_h67, va_up_neq (nek0 (a := 5) (by decide))]; exact F_h65__k_5_
  have FR_h67 : ∀ j, j < k ∨ aBig ≤ j → h67 j = h j := fun j hj => by rw [e_h67]; exact (va_up_neq (frne0 hj hbig)).trans (FR_h65 j hj)
  clear F_h65_k F_h65__k_1_ F_h65__k_2_ F_h65__k_3_ F_h65__k_4_ F_h65__k_5_ FR_h65 e_h67
  clear h65
  refine WX.s1 rfl rfl ?_
  refine WX.s1 rfl rfl ?_
  refine WX.s1 rfl rfl ?_
  refine WX.s1 rfl rfl ?_
  refine WX.newaN (N := 512) (z0 := .inl (fun _ => 0)) rfl (by decide) (by decide) (bigk (k := k) (a := 7) hbig (by decide)) rfl (fun h74 e_h74 => ?_)
  have F_h74_k : h74 k = .inr (8, [.int 52, .ref (k + 1), .ref (k + 2), .ref (k + 3), .ref (k + 4), .ref (k + 5), .null, .int 0, .int 0]) := by rw [e_h74, va_up_neq (nek1 (a := 6) (by decide))]; exact F_h67_k
  have F_h74__k_1_ : h74 (k + 1) = .inl (1, 53, .inl (fun _ => 0)) := by rw [e_h74, va_up_neq (nek (a := 1) (b := 6) (by decide))]; exact F_h67__k_1_
  have F_h74__k_2_ : h74 (k + 2) = .inl (1, 53, .inl (fun _ => 0)) := by rw [e_h74, va_up_neq (nek (a := 2) (b := 6) (by decide))]; exact F_h67__k_2_
  have F_h74__k_3_ : h74 (k + 3) = .inl (1, 53, .inl (fun _ => 0)) := by rw [e_h74, va_up_neq (nek (a := 3) (b := 6) (by decide))]; exact F_h67__k_3_
  have F_h74__k_4_ : h74 (k + 4) = .inl (1, 53, .inl (fun _ => 0)) := by rw [e_h74, va_up_neq (nek (a := 4) (b := 6) (by decide))]; exact F_h67__k_4_
  have F_h74__k_5_ : h74 (k + 5) = .inl (1, 512, .inl (fun _ => 0)) := by rw [e_h74, va_up_neq (nek (a := 5) (b := 6) (by decide))]; exact F_h67__k_5_
  have F_h74__k_6_ : h74 (k + 6) = .inl (1, 512, .inl (fun _ => 0)) := by rw [e_h74]; exact va_up_eq
  have FR_h74 : ∀ j, j < k ∨ aBig ≤ j → h74 j = h j := fun j hj => by rw [e_h74]; exact (va_up_neq (frne (a := 6) hj hbig (by decide))).trans (FR_h67 j hj)
  clear F_h67_k F_h67__k_1_ F_h67__k_2_ F_h67__k_3_ F_h67__k_4_ F_h67__k_5_ FR_h67 e_h74
  clear h67
  refine WX.put1 (fs := [.int 52, .ref (k + 1), .ref (k + 2), .ref (k + 3), .ref (k + 4), .ref (k + 5), .null, .int 0, .int 0]) (fs' := [.int 52, .ref (k + 1), .ref (k + 2), .ref (k + 3), .ref (k + 4), .ref (k + 5), .ref (k + 6), .int 0, .int 0]) rfl (ltk0 (c := 7) (by decide)) (F_h74_k) (Nat.le_of_ble_eq_true rfl) (rfl) rfl (fun h76 e_h76 => ?_)
  have F_h76_k : h76 k = .inr (8, [.int 52, .ref (k + 1), .ref (k + 2), .ref (k + 3), .ref (k + 4), .ref (k + 5), .ref (k + 6), .int 0, .int 0]) := by rw [e_h76]; exact va_up_eq
  have F_h76__k_1_ : h76 (k + 1) = .inl (1, 53, .inl (fun _ => 0)) := by rw [e_h76, va_up_neq (nek0 (a := 1) (by decide))]; exact F_h74__k_1_
  have F_h76__k_2_ : h76 (k + 2) = .inl (1, 53, .inl (fun _ => 0)) := by rw [e_h76, va_up_neq (nek0 (a := 2) (by decide))]; exact F_h74__k_2_
  have F_h76__k_3_ : h76 (k + 3) = .inl (1, 53, .inl (fun _ => 0)) := by rw [e_h76, va_up_neq (nek0 (a := 3) (by decide))]; exact F_h74__k_3_
  have F_h76__k_4_ : h76 (k + 4) = .inl (1, 53, .inl (fun _ => 0)) := by rw [e_h76, va_up_neq (nek0 (a := 4) (by decide))]; exact F_h74__k_4_
  have F_h76__k_5_ : h76 (k + 5) = .inl (1, 512, .inl (fun _ => 0)) := by rw [e_h76, va_up_neq (nek0 (a := 5) (by decide))]; exact F_h74__k_5_
  have F_h76__k_6_ : h76 (k + 6) = .inl (1, 512, .inl (fun _ => 0)) := by rw [e_h76, va_up_neq (nek0 (a := 6) (by decide))]; exact F_h74__k_6_
  have FR_h76 : ∀ j, j < k ∨ aBig ≤ j → h76 j = h j := fun j hj => by rw [e_h76]; exact (va_up_neq (frne0 hj hbig)).trans (FR_h74 j hj)
  clear F_h74_k F_h74__k_1_ F_h74__k_2_ F_h74__k_3_ F_h74__k_4_ F_h74__k_5_ F_h74__k_6_ FR_h74 e_h76
  clear h74
  refine WX.ret0 rfl ?_
  exact kk h76 FR_h76 ⟨F_h76_k, F_h76__k_1_, F_h76__k_2_, F_h76__k_3_, F_h76__k_4_, F_h76__k_5_, F_h76__k_6_, trivial⟩
def cDesc (k : Nat) : List aE := [.inr (2, [.ref (k + 1), .ref (k + 2), .ref (k + 3), .ref (k + 10), .ref (k + 12)]), .inl (1, 256, .inl (fun _ => 0)), .inl (1, 12, .inl (fun _ => 0)), .inr (8, [.int 11, .ref (k + 4), .ref (k + 5), .ref (k + 6), .ref (k + 7), .ref (k + 8), .ref (k + 9), .int 0, .int 0]), .inl (1, 12, .inl (fun _ => 0)), .inl (1, 12, .inl (fun _ => 0)), .inl (1, 12, .inl (fun _ => 0)), .inl (1, 12, .inl (fun _ => 0)), .inl (1, 64, .inl (fun _ => 0)), .inl (1, 64, .inl (fun _ => 0)), .inr (7, [.ref (k + 11), .int 0, .int 0, .long 0, .int 0]), .inl (0, 512, .inl (fun _ => 0)), .inr (7, [.ref (k + 13), .int 0, .int 0, .long 0, .int 0]), .inl (0, 512, .inl (fun _ => 0))]
set_option maxRecDepth 20000 in
theorem n_desc {d s : Nat} {h : Nat → aE} {k : Nat} (hbig : k + 15 < aBig) (F_h_k : h k = .inr (2, zX2)) {Ψ : Option Value → aH → Prop} (kk : ∀ h', (∀ j, j < k ∨ aBig ≤ j → h' j = h j) → Cells h' k (cDesc k) → Ψ none (k + 14, s + 1487, h')) : WO (mM (d + 2)) 23 [.ref k] (k + 1, s, h) Ψ := by
  refine WO.of (Nat.le_of_ble_eq_true rfl) ?_
  have FR_h : ∀ j, j < k ∨ aBig ≤ j → h j = h j := fun _ _ => rfl
  show WX (lk tX2_init) (mM (d + 1)) Ψ 0 [(0, .ref k)] [] (k + 1, s, h)
  refine WX.s1 rfl rfl ?_
  refine WX.s1 rfl rfl ?_
  refine WX.s1 rfl rfl ?_
  refine WX.s1 rfl rfl ?_
  refine WX.newaN (N := 256) (z0 := .inl (fun _ => 0)) rfl (by decide) (by decide) (bigk (k := k) (a := 2) hbig (by decide)) rfl (fun h8 e_h8 => ?_)
  have F_h8_k : h8 k = .inr (2, [.null, .null, .null, .null, .null]) := by rw [e_h8, va_up_neq (nek1 (a := 1) (by decide))]; exact F_h_k
  have F_h8__k_1_ : h8 (k + 1) = .inl (1, 256, .inl (fun _ => 0)) := by rw [e_h8]; exact va_up_eq
  have FR_h8 : ∀ j, j < k ∨ aBig ≤ j → h8 j = h j := fun j hj => by rw [e_h8]; exact (va_up_neq (frne (a := 1) hj hbig (by decide))).trans (FR_h j hj)
  clear F_h_k FR_h e_h8
  refine WX.put1 (fs := [.null, .null, .null, .null, .null]) (fs' := [.ref (k + 1), .null, .null, .null, .null]) rfl (ltk0 (c := 2) (by decide)) (F_h8_k) (Nat.le_of_ble_eq_true rfl) (rfl) rfl (fun h10 e_h10 => ?_)
  have F_h10_k : h10 k = .inr (2, [.ref (k + 1), .null, .null, .null, .null]) := by rw [e_h10]; exact va_up_eq
  have F_h10__k_1_ : h10 (k + 1) = .inl (1, 256, .inl (fun _ => 0)) := by rw [e_h10, va_up_neq (nek0 (a := 1) (by decide))]; exact F_h8__k_1_
  have FR_h10 : ∀ j, j < k ∨ aBig ≤ j → h10 j = h j := fun j hj => by rw [e_h10]; exact (va_up_neq (frne0 hj hbig)).trans (FR_h8 j hj)
  clear F_h8_k F_h8__k_1_ FR_h8 e_h10
  clear h8
  refine WX.s1 rfl rfl ?_
  refine WX.s1 rfl rfl ?_
  refine WX.newaN (N := 12) (z0 := .inl (fun _ => 0)) rfl (by decide) (by decide) (bigk (k := k) (a := 3) hbig (by decide)) rfl (fun h16 e_h16 => ?_)
  have F_h16_k : h16 k = .inr (2, [.ref (k + 1), .null, .null, .null, .null]) := by rw [e_h16, va_up_neq (nek1 (a := 2) (by decide))]; exact F_h10_k
  have F_h16__k_1_ : h16 (k + 1) = .inl (1, 256, .inl (fun _ => 0)) := by rw [e_h16, va_up_neq (nek (a := 1) (b := 2) (by decide))]; exact F_h10__k_1_
  have F_h16__k_2_ : h16 (k + 2) = .inl (1, 12, .inl (fun _ => 0)) := by rw [e_h16]; exact va_up_eq
  have FR_h16 : ∀ j, j < k ∨ aBig ≤ j → h16 j = h j := fun j hj => by rw [e_h16]; exact (va_up_neq (frne (a := 2) hj hbig (by decide))).trans (FR_h10 j hj)
  clear F_h10_k F_h10__k_1_ FR_h10 e_h16
  clear h10
  refine WX.put1 (fs := [.ref (k + 1), .null, .null, .null, .null]) (fs' := [.ref (k + 1), .ref (k + 2), .null, .null, .null]) rfl (ltk0 (c := 3) (by decide)) (F_h16_k) (Nat.le_of_ble_eq_true rfl) (rfl) rfl (fun h18 e_h18 => ?_)
  have F_h18_k : h18 k = .inr (2, [.ref (k + 1), .ref (k + 2), .null, .null, .null]) := by rw [e_h18]; exact va_up_eq
  have F_h18__k_1_ : h18 (k + 1) = .inl (1, 256, .inl (fun _ => 0)) := by rw [e_h18, va_up_neq (nek0 (a := 1) (by decide))]; exact F_h16__k_1_
  have F_h18__k_2_ : h18 (k + 2) = .inl (1, 12, .inl (fun _ => 0)) := by rw [e_h18, va_up_neq (nek0 (a := 2) (by decide))]; exact F_h16__k_2_
  have FR_h18 : ∀ j, j < k ∨ aBig ≤ j → h18 j = h j := fun j hj => by rw [e_h18]; exact (va_up_neq (frne0 hj hbig)).trans (FR_h16 j hj)
  clear F_h16_k F_h16__k_1_ F_h16__k_2_ FR_h16 e_h18
  clear h16
  refine WX.s1 rfl rfl ?_
  refine WX.newN rfl (bigk (k := k) (a := 4) hbig (by decide)) (fun h22 e_h22 => ?_)
  have F_h22_k : h22 k = .inr (2, [.ref (k + 1), .ref (k + 2), .null, .null, .null]) := by rw [e_h22, va_up_neq (nek1 (a := 3) (by decide))]; exact F_h18_k
  have F_h22__k_1_ : h22 (k + 1) = .inl (1, 256, .inl (fun _ => 0)) := by rw [e_h22, va_up_neq (nek (a := 1) (b := 3) (by decide))]; exact F_h18__k_1_
  have F_h22__k_2_ : h22 (k + 2) = .inl (1, 12, .inl (fun _ => 0)) := by rw [e_h22, va_up_neq (nek (a := 2) (b := 3) (by decide))]; exact F_h18__k_2_
  have F_h22__k_3_ : h22 (k + 3) = .inr (8, zX8) := by rw [e_h22]; exact va_up_eq
  have FR_h22 : ∀ j, j < k ∨ aBig ≤ j → h22 j = h j := fun j hj => by rw [e_h22]; exact (va_up_neq (frne (a := 3) hj hbig (by decide))).trans (FR_h18 j hj)
  clear F_h18_k F_h18__k_1_ F_h18__k_2_ FR_h18 e_h22
  clear h18
  refine WX.s1 rfl rfl ?_
  refine WX.s1 rfl rfl ?_
  refine WX.s1 rfl rfl ?_
  refine WX.callC (vs := [.ref (k + 3), .int 11, .int 6]) rfl rfl rfl (Nat.le_of_ble_eq_true rfl) (rcv_ok (ltk (a := 3) (c := 4) (by decide)) F_h22__k_3_) ?_
  refine n_share_11_6 (k := k + 3) (bigk (k := k) (a := 11) hbig (by decide)) F_h22__k_3_ (fun h30 fr30 cs30 => ?_)
  have F_h30_k : h30 k = .inr (2, [.ref (k + 1), .ref (k + 2), .null, .null, .null]) := (fr30 k (Or.inl (ltk0 (c := 3) (by decide)))).trans F_h22_k
  have F_h30__k_1_ : h30 (k + 1) = .inl (1, 256, .inl (fun _ => 0)) := (fr30 (k + 1) (Or.inl (ltk (a := 1) (c := 3) (by decide)))).trans F_h22__k_1_
  have F_h30__k_2_ : h30 (k + 2) = .inl (1, 12, .inl (fun _ => 0)) := (fr30 (k + 2) (Or.inl (ltk (a := 2) (c := 3) (by decide)))).trans F_h22__k_2_
  have F_h30__k_3_ : h30 (k + 3) = .inr (8, [.int 11, .ref (k + 4), .ref (k + 5), .ref (k + 6), .ref (k + 7), .ref (k + 8), .ref (k + 9), .int 0, .int 0]) := cs30.1
  have F_h30__k_4_ : h30 (k + 4) = .inl (1, 12, .inl (fun _ => 0)) := cs30.2.1
  have F_h30__k_5_ : h30 (k + 5) = .inl (1, 12, .inl (fun _ => 0)) := cs30.2.2.1
  have F_h30__k_6_ : h30 (k + 6) = .inl (1, 12, .inl (fun _ => 0)) := cs30.2.2.2.1
  have F_h30__k_7_ : h30 (k + 7) = .inl (1, 12, .inl (fun _ => 0)) := cs30.2.2.2.2.1
  have F_h30__k_8_ : h30 (k + 8) = .inl (1, 64, .inl (fun _ => 0)) := cs30.2.2.2.2.2.1
  have F_h30__k_9_ : h30 (k + 9) = .inl (1, 64, .inl (fun _ => 0)) := cs30.2.2.2.2.2.2.1
  have FR_h30 : ∀ j, j < k ∨ aBig ≤ j → h30 j = h j := fun j hj => (fr30 j (hj.imp (fun z => Nat.lt_of_lt_of_le z (Nat.le_add_right _ _)) (fun z => z))).trans (FR_h22 j hj)
  clear F_h22_k F_h22__k_1_ F_h22__k_2_ F_h22__k_3_ FR_h22 fr30 cs30
  clear h22
  show WX _ _ _ 33 [(0, .ref k)] [.ref (k + 3), .ref k] (k + 10, s + 256 + 12 + 9 + 176, h30)
  refine WX.put1 (fs := [.ref (k + 1), .ref (k + 2), .null, .null, .null]) (fs' := [.ref (k + 1), .ref (k + 2), .ref (k + 3), .null, .null]) rfl (ltk0 (c := 10) (by decide)) (F_h30_k) (Nat.le_of_ble_eq_true rfl) (rfl) rfl (fun h33 e_h33 => ?_)
  have F_h33_k : h33 k = .inr (2, [.ref (k + 1), .ref (k + 2), .ref (k + 3), .null, .null]) := by rw [e_h33]; exact va_up_eq
  have F_h33__k_1_ : h33 (k + 1) = .inl (1, 256, .inl (fun _ => 0)) := by rw [e_h33, va_up_neq (nek0 (a := 1) (by decide))]; exact F_h30__k_1_
  have F_h33__k_2_ : h33 (k + 2) = .inl (1, 12, .inl (fun _ => 0)) := by rw [e_h33, va_up_neq (nek0 (a := 2) (by decide))]; exact F_h30__k_2_
  have F_h33__k_3_ : h33 (k + 3) = .inr (8, [.int 11, .ref (k + 4), .ref (k + 5), .ref (k + 6), .ref (k + 7), .ref (k + 8), .ref (k + 9), .int 0, .int 0]) := by rw [e_h33, va_up_neq (nek0 (a := 3) (by decide))]; exact F_h30__k_3_
  have F_h33__k_4_ : h33 (k + 4) = .inl (1, 12, .inl (fun _ => 0)) := by rw [e_h33, va_up_neq (nek0 (a := 4) (by decide))]; exact F_h30__k_4_
  have F_h33__k_5_ : h33 (k + 5) = .inl (1, 12, .inl (fun _ => 0)) := by rw [e_h33, va_up_neq (nek0 (a := 5) (by decide))]; exact F_h30__k_5_
  have F_h33__k_6_ : h33 (k + 6) = .inl (1, 12, .inl (fun _ => 0)) := by rw [e_h33, va_up_neq (nek0 (a := 6) (by decide))]; exact F_h30__k_6_
  have F_h33__k_7_ : h33 (k + 7) = .inl (1, 12, .inl (fun _ => 0)) := by rw [e_h33, va_up_neq (nek0 (a := 7) (by decide))]; exact F_h30__k_7_
  have F_h33__k_8_ : h33 (k + 8) = .inl (1, 64, .inl (fun _ => 0)) := by rw [e_h33, va_up_neq (nek0 (a := 8) (by decide))]; exact F_h30__k_8_
  have F_h33__k_9_ : h33 (k + 9) = .inl (1, 64, .inl (fun _ => 0)) := by rw [e_h33, va_up_neq (nek0 (a := 9) (by decide))]; exact F_h30__k_9_
  have FR_h33 : ∀ j, j < k ∨ aBig ≤ j → h33 j = h j := fun j hj => by rw [e_h33]; exact (va_up_neq (frne0 hj hbig)).trans (FR_h30 j hj)
  clear F_h30_k F_h30__k_1_ F_h30__k_2_ F_h30__k_3_ F_h30__k_4_ F_h30__k_5_ F_h30__k_6_ F_h30__k_7_ F_h30__k_8_ F_h30__k_9_ FR_h30 e_h33
  clear h30
  refine WX.s1 rfl rfl ?_
  refine WX.newN rfl (bigk (k := k) (a := 11) hbig (by decide)) (fun h37 e_h37 => ?_)
  have F_h37_k : h37 k = .inr (2, [.ref (k + 1), .ref (k + 2), .ref (k + 3), .null, .null]) := by rw [e_h37, va_up_neq (nek1 (a := 10) (by decide))]; exact F_h33_k
  have F_h37__k_1_ : h37 (k + 1) = .inl (1, 256, .inl (fun _ => 0)) := by rw [e_h37, va_up_neq (nek (a := 1) (b := 10) (by decide))]; exact F_h33__k_1_
  have F_h37__k_2_ : h37 (k + 2) = .inl (1, 12, .inl (fun _ => 0)) := by rw [e_h37, va_up_neq (nek (a := 2) (b := 10) (by decide))]; exact F_h33__k_2_
  have F_h37__k_3_ : h37 (k + 3) = .inr (8, [.int 11, .ref (k + 4), .ref (k + 5), .ref (k + 6), .ref (k + 7), .ref (k + 8), .ref (k + 9), .int 0, .int 0]) := by rw [e_h37, va_up_neq (nek (a := 3) (b := 10) (by decide))]; exact F_h33__k_3_
  have F_h37__k_4_ : h37 (k + 4) = .inl (1, 12, .inl (fun _ => 0)) := by rw [e_h37, va_up_neq (nek (a := 4) (b := 10) (by decide))]; exact F_h33__k_4_
  have F_h37__k_5_ : h37 (k + 5) = .inl (1, 12, .inl (fun _ => 0)) := by rw [e_h37, va_up_neq (nek (a := 5) (b := 10) (by decide))]; exact F_h33__k_5_
  have F_h37__k_6_ : h37 (k + 6) = .inl (1, 12, .inl (fun _ => 0)) := by rw [e_h37, va_up_neq (nek (a := 6) (b := 10) (by decide))]; exact F_h33__k_6_
  have F_h37__k_7_ : h37 (k + 7) = .inl (1, 12, .inl (fun _ => 0)) := by rw [e_h37, va_up_neq (nek (a := 7) (b := 10) (by decide))]; exact F_h33__k_7_
  have F_h37__k_8_ : h37 (k + 8) = .inl (1, 64, .inl (fun _ => 0)) := by rw [e_h37, va_up_neq (nek (a := 8) (b := 10) (by decide))]; exact F_h33__k_8_
  have F_h37__k_9_ : h37 (k + 9) = .inl (1, 64, .inl (fun _ => 0)) := by rw [e_h37, va_up_neq (nek (a := 9) (b := 10) (by decide))]; exact F_h33__k_9_
  have F_h37__k_10_ : h37 (k + 10) = .inr (7, zX7) := by rw [e_h37]; exact va_up_eq
  have FR_h37 : ∀ j, j < k ∨ aBig ≤ j → h37 j = h j := fun j hj => by rw [e_h37]; exact (va_up_neq (frne (a := 10) hj hbig (by decide))).trans (FR_h33 j hj)
  clear F_h33_k F_h33__k_1_ F_h33__k_2_ F_h33__k_3_ F_h33__k_4_ F_h33__k_5_ F_h33__k_6_ F_h33__k_7_ F_h33__k_8_ F_h33__k_9_ FR_h33 e_h37
  clear h33
  refine WX.s1 rfl rfl ?_
  refine WX.s1 rfl rfl ?_
  refine WX.callC (vs := [.ref (k + 10), .int 512]) rfl rfl rfl (Nat.le_of_ble_eq_true rfl) (rcv_ok (ltk (a := 10) (c := 11) (by decide)) F_h37__k_10_) ?_
  refine n_row (N := 512) (k := k + 10) (bigk (k := k) (a := 12) hbig (by decide)) F_h37__k_10_ (by decide) (by decide) (fun h44 fr44 cs44 => ?_)
  have F_h44_k : h44 k = .inr (2, [.ref (k + 1), .ref (k + 2), .ref (k + 3), .null, .null]) := (fr44 k (Or.inl (ltk0 (c := 10) (by decide)))).trans F_h37_k
  have F_h44__k_1_ : h44 (k + 1) = .inl (1, 256, .inl (fun _ => 0)) := (fr44 (k + 1) (Or.inl (ltk (a := 1) (c := 10) (by decide)))).trans F_h37__k_1_
  have F_h44__k_2_ : h44 (k + 2) = .inl (1, 12, .inl (fun _ => 0)) := (fr44 (k + 2) (Or.inl (ltk (a := 2) (c := 10) (by decide)))).trans F_h37__k_2_
  have F_h44__k_3_ : h44 (k + 3) = .inr (8, [.int 11, .ref (k + 4), .ref (k + 5), .ref (k + 6), .ref (k + 7), .ref (k + 8), .ref (k + 9), .int 0, .int 0]) := (fr44 (k + 3) (Or.inl (ltk (a := 3) (c := 10) (by decide)))).trans F_h37__k_3_
  have F_h44__k_4_ : h44 (k + 4) = .inl (1, 12, .inl (fun _ => 0)) := (fr44 (k + 4) (Or.inl (ltk (a := 4) (c := 10) (by decide)))).trans F_h37__k_4_
  have F_h44__k_5_ : h44 (k + 5) = .inl (1, 12, .inl (fun _ => 0)) := (fr44 (k + 5) (Or.inl (ltk (a := 5) (c := 10) (by decide)))).trans F_h37__k_5_
  have F_h44__k_6_ : h44 (k + 6) = .inl (1, 12, .inl (fun _ => 0)) := (fr44 (k + 6) (Or.inl (ltk (a := 6) (c := 10) (by decide)))).trans F_h37__k_6_
  have F_h44__k_7_ : h44 (k + 7) = .inl (1, 12, .inl (fun _ => 0)) := (fr44 (k + 7) (Or.inl (ltk (a := 7) (c := 10) (by decide)))).trans F_h37__k_7_
  have F_h44__k_8_ : h44 (k + 8) = .inl (1, 64, .inl (fun _ => 0)) := (fr44 (k + 8) (Or.inl (ltk (a := 8) (c := 10) (by decide)))).trans F_h37__k_8_
  have F_h44__k_9_ : h44 (k + 9) = .inl (1, 64, .inl (fun _ => 0)) := (fr44 (k + 9) (Or.inl (ltk (a := 9) (c := 10) (by decide)))).trans F_h37__k_9_
  have F_h44__k_10_ : h44 (k + 10) = .inr (7, [.ref (k + 11), .int 0, .int 0, .long 0, .int 0]) := cs44.1
  have F_h44__k_11_ : h44 (k + 11) = .inl (0, 512, .inl (fun _ => 0)) := cs44.2.1
  have FR_h44 : ∀ j, j < k ∨ aBig ≤ j → h44 j = h j := fun j hj => (fr44 j (hj.imp (fun z => Nat.lt_of_lt_of_le z (Nat.le_add_right _ _)) (fun z => z))).trans (FR_h37 j hj)
  clear F_h37_k F_h37__k_1_ F_h37__k_2_ F_h37__k_3_ F_h37__k_4_ F_h37__k_5_ F_h37__k_6_ F_h37__k_7_ F_h37__k_8_ F_h37__k_9_ F_h37__k_10_ FR_h37 fr44 cs44
  clear h37
  show WX _ _ _ 47 [(0, .ref k)] [.ref (k + 10), .ref k] (k + 12, s + 256 + 12 + 9 + 176 + 5 + 512, h44)
  refine WX.put1 (fs := [.ref (k + 1), .ref (k + 2), .ref (k + 3), .null, .null]) (fs' := [.ref (k + 1), .ref (k + 2), .ref (k + 3), .ref (k + 10), .null]) rfl (ltk0 (c := 12) (by decide)) (F_h44_k) (Nat.le_of_ble_eq_true rfl) (rfl) rfl (fun h47 e_h47 => ?_)
  have F_h47_k : h47 k = .inr (2, [.ref (k + 1), .ref (k + 2), .ref (k + 3), .ref (k + 10), .null]) := by rw [e_h47]; exact va_up_eq
  have F_h47__k_1_ : h47 (k + 1) = .inl (1, 256, .inl (fun _ => 0)) := by rw [e_h47, va_up_neq (nek0 (a := 1) (by decide))]; exact F_h44__k_1_
  have F_h47__k_2_ : h47 (k + 2) = .inl (1, 12, .inl (fun _ => 0)) := by rw [e_h47, va_up_neq (nek0 (a := 2) (by decide))]; exact F_h44__k_2_
  have F_h47__k_3_ : h47 (k + 3) = .inr (8, [.int 11, .ref (k + 4), .ref (k + 5), .ref (k + 6), .ref (k + 7), .ref (k + 8), .ref (k + 9), .int 0, .int 0]) := by rw [e_h47, va_up_neq (nek0 (a := 3) (by decide))]; exact F_h44__k_3_
  have F_h47__k_4_ : h47 (k + 4) = .inl (1, 12, .inl (fun _ => 0)) := by rw [e_h47, va_up_neq (nek0 (a := 4) (by decide))]; exact F_h44__k_4_
  have F_h47__k_5_ : h47 (k + 5) = .inl (1, 12, .inl (fun _ => 0)) := by rw [e_h47, va_up_neq (nek0 (a := 5) (by decide))]; exact F_h44__k_5_
  have F_h47__k_6_ : h47 (k + 6) = .inl (1, 12, .inl (fun _ => 0)) := by rw [e_h47, va_up_neq (nek0 (a := 6) (by decide))]; exact F_h44__k_6_
  have F_h47__k_7_ : h47 (k + 7) = .inl (1, 12, .inl (fun _ => 0)) := by rw [e_h47, va_up_neq (nek0 (a := 7) (by decide))]; exact F_h44__k_7_
  have F_h47__k_8_ : h47 (k + 8) = .inl (1, 64, .inl (fun _ => 0)) := by rw [e_h47, va_up_neq (nek0 (a := 8) (by decide))]; exact F_h44__k_8_
  have F_h47__k_9_ : h47 (k + 9) = .inl (1, 64, .inl (fun _ => 0)) := by rw [e_h47, va_up_neq (nek0 (a := 9) (by decide))]; exact F_h44__k_9_
  have F_h47__k_10_ : h47 (k + 10) = .inr (7, [.ref (k + 11), .int 0, .int 0, .long 0, .int 0]) := by rw [e_h47, va_up_neq (nek0 (a := 10) (by decide))]; exact F_h44__k_10_
  have F_h47__k_11_ : h47 (k + 11) = .inl (0, 512, .inl (fun _ => 0)) := by rw [e_h47, va_up_neq (nek0 (a := 11) (by decide))]; exact F_h44__k_11_
  have FR_h47 : ∀ j, j < k ∨ aBig ≤ j → h47 j = h j := fun j hj => by rw [e_h47]; exact (va_up_neq (frne0 hj hbig)).trans (FR_h44 j hj)
  clear F_h44_k F_h44__k_1_ F_h44__k_2_ F_h44__k_3_ F_h44__k_4_ F_h44__k_5_ F_h44__k_6_ F_h44__k_7_ F_h44__k_8_ F_h44__k_9_ F_h44__k_10_ F_h44__k_11_ FR_h44 e_h47
  clear h44
  refine WX.s1 rfl rfl ?_
  refine WX.newN rfl (bigk (k := k) (a := 13) hbig (by decide)) (fun h51 e_h51 => ?_)
  have F_h51_k : h51 k = .inr (2, [.ref (k + 1), .ref (k + 2), .ref (k + 3), .ref (k + 10), .null]) := by rw [e_h51, va_up_neq (nek1 (a := 12) (by decide))]; exact F_h47_k
  have F_h51__k_1_ : h51 (k + 1) = .inl (1, 256, .inl (fun _ => 0)) := by rw [e_h51, va_up_neq (nek (a := 1) (b := 12) (by decide))]; exact F_h47__k_1_
  have F_h51__k_2_ : h51 (k + 2) = .inl (1, 12, .inl (fun _ => 0)) := by rw [e_h51, va_up_neq (nek (a := 2) (b := 12) (by decide))]; exact F_h47__k_2_
  have F_h51__k_3_ : h51 (k + 3) = .inr (8, [.int 11, .ref (k + 4), .ref (k + 5), .ref (k + 6), .ref (k + 7), .ref (k + 8), .ref (k + 9), .int 0, .int 0]) := by rw [e_h51, va_up_neq (nek (a := 3) (b := 12) (by decide))]; exact F_h47__k_3_
  have F_h51__k_4_ : h51 (k + 4) = .inl (1, 12, .inl (fun _ => 0)) := by rw [e_h51, va_up_neq (nek (a := 4) (b := 12) (by decide))]; exact F_h47__k_4_
  have F_h51__k_5_ : h51 (k + 5) = .inl (1, 12, .inl (fun _ => 0)) := by rw [e_h51, va_up_neq (nek (a := 5) (b := 12) (by decide))]; exact F_h47__k_5_
  have F_h51__k_6_ : h51 (k + 6) = .inl (1, 12, .inl (fun _ => 0)) := by rw [e_h51, va_up_neq (nek (a := 6) (b := 12) (by decide))]; exact F_h47__k_6_
  have F_h51__k_7_ : h51 (k + 7) = .inl (1, 12, .inl (fun _ => 0)) := by rw [e_h51, va_up_neq (nek (a := 7) (b := 12) (by decide))]; exact F_h47__k_7_
  have F_h51__k_8_ : h51 (k + 8) = .inl (1, 64, .inl (fun _ => 0)) := by rw [e_h51, va_up_neq (nek (a := 8) (b := 12) (by decide))]; exact F_h47__k_8_
  have F_h51__k_9_ : h51 (k + 9) = .inl (1, 64, .inl (fun _ => 0)) := by rw [e_h51, va_up_neq (nek (a := 9) (b := 12) (by decide))]; exact F_h47__k_9_
  have F_h51__k_10_ : h51 (k + 10) = .inr (7, [.ref (k + 11), .int 0, .int 0, .long 0, .int 0]) := by rw [e_h51, va_up_neq (nek (a := 10) (b := 12) (by decide))]; exact F_h47__k_10_
  have F_h51__k_11_ : h51 (k + 11) = .inl (0, 512, .inl (fun _ => 0)) := by rw [e_h51, va_up_neq (nek (a := 11) (b := 12) (by decide))]; exact F_h47__k_11_
  have F_h51__k_12_ : h51 (k + 12) = .inr (7, zX7) := by rw [e_h51]; exact va_up_eq
  have FR_h51 : ∀ j, j < k ∨ aBig ≤ j → h51 j = h j := fun j hj => by rw [e_h51]; exact (va_up_neq (frne (a := 12) hj hbig (by decide))).trans (FR_h47 j hj)
  clear F_h47_k F_h47__k_1_ F_h47__k_2_ F_h47__k_3_ F_h47__k_4_ F_h47__k_5_ F_h47__k_6_ F_h47__k_7_ F_h47__k_8_ F_h47__k_9_ F_h47__k_10_ F_h47__k_11_ FR_h47 e_h51
  clear h47
  refine WX.s1 rfl rfl ?_
  refine WX.s1 rfl rfl ?_
  refine WX.callC (vs := [.ref (k + 12), .int 512]) rfl rfl rfl (Nat.le_of_ble_eq_true rfl) (rcv_ok (ltk (a := 12) (c := 13) (by decide)) F_h51__k_12_) ?_
  refine n_row (N := 512) (k := k + 12) (bigk (k := k) (a := 14) hbig (by decide)) F_h51__k_12_ (by decide) (by decide) (fun h58 fr58 cs58 => ?_)
  have F_h58_k : h58 k = .inr (2, [.ref (k + 1), .ref (k + 2), .ref (k + 3), .ref (k + 10), .null]) := (fr58 k (Or.inl (ltk0 (c := 12) (by decide)))).trans F_h51_k
  have F_h58__k_1_ : h58 (k + 1) = .inl (1, 256, .inl (fun _ => 0)) := (fr58 (k + 1) (Or.inl (ltk (a := 1) (c := 12) (by decide)))).trans F_h51__k_1_
  have F_h58__k_2_ : h58 (k + 2) = .inl (1, 12, .inl (fun _ => 0)) := (fr58 (k + 2) (Or.inl (ltk (a := 2) (c := 12) (by decide)))).trans F_h51__k_2_
  have F_h58__k_3_ : h58 (k + 3) = .inr (8, [.int 11, .ref (k + 4), .ref (k + 5), .ref (k + 6), .ref (k + 7), .ref (k + 8), .ref (k + 9), .int 0, .int 0]) := (fr58 (k + 3) (Or.inl (ltk (a := 3) (c := 12) (by decide)))).trans F_h51__k_3_
  have F_h58__k_4_ : h58 (k + 4) = .inl (1, 12, .inl (fun _ => 0)) := (fr58 (k + 4) (Or.inl (ltk (a := 4) (c := 12) (by decide)))).trans F_h51__k_4_
  have F_h58__k_5_ : h58 (k + 5) = .inl (1, 12, .inl (fun _ => 0)) := (fr58 (k + 5) (Or.inl (ltk (a := 5) (c := 12) (by decide)))).trans F_h51__k_5_
  have F_h58__k_6_ : h58 (k + 6) = .inl (1, 12, .inl (fun _ => 0)) := (fr58 (k + 6) (Or.inl (ltk (a := 6) (c := 12) (by decide)))).trans F_h51__k_6_
  have F_h58__k_7_ : h58 (k + 7) = .inl (1, 12, .inl (fun _ => 0)) := (fr58 (k + 7) (Or.inl (ltk (a := 7) (c := 12) (by decide)))).trans F_h51__k_7_
  have F_h58__k_8_ : h58 (k + 8) = .inl (1, 64, .inl (fun _ => 0)) := (fr58 (k + 8) (Or.inl (ltk (a := 8) (c := 12) (by decide)))).trans F_h51__k_8_
  have F_h58__k_9_ : h58 (k + 9) = .inl (1, 64, .inl (fun _ => 0)) := (fr58 (k + 9) (Or.inl (ltk (a := 9) (c := 12) (by decide)))).trans F_h51__k_9_
  have F_h58__k_10_ : h58 (k + 10) = .inr (7, [.ref (k + 11), .int 0, .int 0, .long 0, .int 0]) := (fr58 (k + 10) (Or.inl (ltk (a := 10) (c := 12) (by decide)))).trans F_h51__k_10_
  have F_h58__k_11_ : h58 (k + 11) = .inl (0, 512, .inl (fun _ => 0)) := (fr58 (k + 11) (Or.inl (ltk (a := 11) (c := 12) (by decide)))).trans F_h51__k_11_
  have F_h58__k_12_ : h58 (k + 12) = .inr (7, [.ref (k + 13), .int 0, .int 0, .long 0, .int 0]) := cs58.1
  have F_h58__k_13_ : h58 (k + 13) = .inl (0, 512, .inl (fun _ => 0)) := cs58.2.1
  have FR_h58 : ∀ j, j < k ∨ aBig ≤ j → h58 j = h j := fun j hj => (fr58 j (hj.imp (fun z => Nat.lt_of_lt_of_le z (Nat.le_add_right _ _)) (fun z => z))).trans (FR_h51 j hj)
  clear F_h51_k F_h51__k_1_ F_h51__k_2_ F_h51__k_3_ F_h51__k_4_ F_h51__k_5_ F_h51__k_6_ F_h51__k_7_ F_h51__k_8_ F_h51__k_9_ F_h51__k_10_ F_h51__k_11_ F_h51__k_12_ FR_h51 fr58 cs58
  clear h51
  show WX _ _ _ 61 [(0, .ref k)] [.ref (k + 12), .ref k] (k + 14, s + 256 + 12 + 9 + 176 + 5 + 512 + 5 + 512, h58)
  refine WX.put1 (fs := [.ref (k + 1), .ref (k + 2), .ref (k + 3), .ref (k + 10), .null]) (fs' := [.ref (k + 1), .ref (k + 2), .ref (k + 3), .ref (k + 10), .ref (k + 12)]) rfl (ltk0 (c := 14) (by decide)) (F_h58_k) (Nat.le_of_ble_eq_true rfl) (rfl) rfl (fun h61 e_h61 => ?_)
  have F_h61_k : h61 k = .inr (2, [.ref (k + 1), .ref (k + 2), .ref (k + 3), .ref (k + 10), .ref (k + 12)]) := by rw [e_h61]; exact va_up_eq
  have F_h61__k_1_ : h61 (k + 1) = .inl (1, 256, .inl (fun _ => 0)) := by rw [e_h61, va_up_neq (nek0 (a := 1) (by decide))]; exact F_h58__k_1_
  have F_h61__k_2_ : h61 (k + 2) = .inl (1, 12, .inl (fun _ => 0)) := by rw [e_h61, va_up_neq (nek0 (a := 2) (by decide))]; exact F_h58__k_2_
  have F_h61__k_3_ : h61 (k + 3) = .inr (8, [.int 11, .ref (k + 4), .ref (k + 5), .ref (k + 6), .ref (k + 7), .ref (k + 8), .ref (k + 9), .int 0, .int 0]) := by rw [e_h61, va_up_neq (nek0 (a := 3) (by decide))]; exact F_h58__k_3_
  have F_h61__k_4_ : h61 (k + 4) = .inl (1, 12, .inl (fun _ => 0)) := by rw [e_h61, va_up_neq (nek0 (a := 4) (by decide))]; exact F_h58__k_4_
  have F_h61__k_5_ : h61 (k + 5) = .inl (1, 12, .inl (fun _ => 0)) := by rw [e_h61, va_up_neq (nek0 (a := 5) (by decide))]; exact F_h58__k_5_
  have F_h61__k_6_ : h61 (k + 6) = .inl (1, 12, .inl (fun _ => 0)) := by rw [e_h61, va_up_neq (nek0 (a := 6) (by decide))]; exact F_h58__k_6_
  have F_h61__k_7_ : h61 (k + 7) = .inl (1, 12, .inl (fun _ => 0)) := by rw [e_h61, va_up_neq (nek0 (a := 7) (by decide))]; exact F_h58__k_7_
  have F_h61__k_8_ : h61 (k + 8) = .inl (1, 64, .inl (fun _ => 0)) := by rw [e_h61, va_up_neq (nek0 (a := 8) (by decide))]; exact F_h58__k_8_
  have F_h61__k_9_ : h61 (k + 9) = .inl (1, 64, .inl (fun _ => 0)) := by rw [e_h61, va_up_neq (nek0 (a := 9) (by decide))]; exact F_h58__k_9_
  have F_h61__k_10_ : h61 (k + 10) = .inr (7, [.ref (k + 11), .int 0, .int 0, .long 0, .int 0]) := by rw [e_h61, va_up_neq (nek0 (a := 10) (by decide))]; exact F_h58__k_10_
  have F_h61__k_11_ : h61 (k + 11) = .inl (0, 512, .inl (fun _ => 0)) := by rw [e_h61, va_up_neq (nek0 (a := 11) (by decide))]; exact F_h58__k_11_
  have F_h61__k_12_ : h61 (k + 12) = .inr (7, [.ref (k + 13), .int 0, .int 0, .long 0, .int 0]) := by rw [e_h61, va_up_neq (nek0 (a := 12) (by decide))]; exact F_h58__k_12_
  have F_h61__k_13_ : h61 (k + 13) = .inl (0, 512, .inl (fun _ => 0)) := by rw [e_h61, va_up_neq (nek0 (a := 13) (by decide))]; exact F_h58__k_13_
  have FR_h61 : ∀ j, j < k ∨ aBig ≤ j → h61 j = h j := fun j hj => by rw [e_h61]; exact (va_up_neq (frne0 hj hbig)).trans (FR_h58 j hj)
  clear F_h58_k F_h58__k_1_ F_h58__k_2_ F_h58__k_3_ F_h58__k_4_ F_h58__k_5_ F_h58__k_6_ F_h58__k_7_ F_h58__k_8_ F_h58__k_9_ F_h58__k_10_ F_h58__k_11_ F_h58__k_12_ F_h58__k_13_ FR_h58 e_h61
  clear h58
  refine WX.ret0 rfl ?_
  exact kk h61 FR_h61 ⟨F_h61_k, F_h61__k_1_, F_h61__k_2_, F_h61__k_3_, F_h61__k_4_, F_h61__k_5_, F_h61__k_6_, F_h61__k_7_, F_h61__k_8_, F_h61__k_9_, F_h61__k_10_, F_h61__k_11_, F_h61__k_12_, F_h61__k_13_, trivial⟩
def lat0 : Nat → Int32 := upd (upd (upd (fun _ => 0) 0 1) 1 4) 2 8
def cStart (k : Nat) : List aE := [.inr (9, [.ref (k + 1), .ref (k + 3), .ref (k + 7), .ref (k + 14), .ref (k + 21), .ref (k + 28)]), .inr (7, [.ref (k + 2), .int 0, .int 0, .long 0, .int 0]), .inl (0, 0, .inl (fun _ => 0)), .inr (0, [.ref (k + 4), .ref (k + 5), .ref (k + 6), .int 0, .int 0]), .inl (1, 256, .inl (fun _ => 0)), .inl (1, 256, .inl (fun _ => 0)), .inl (1, 13, .inl (fun _ => 0)), .inr (8, [.int 35, .ref (k + 8), .ref (k + 9), .ref (k + 10), .ref (k + 11), .ref (k + 12), .ref (k + 13), .int 0, .int 0]), .inl (1, 36, .inl (fun _ => 0)), .inl (1, 36, .inl (fun _ => 0)), .inl (1, 36, .inl (fun _ => 0)), .inl (1, 36, .inl (fun _ => 0)), .inl (1, 512, .inl (fun _ => 0)), .inl (1, 512, .inl (fun _ => 0)), .inr (8, [.int 31, .ref (k + 15), .ref (k + 16), .ref (k + 17), .ref (k + 18), .ref (k + 19), .ref (k + 20), .int 0, .int 0]), .inl (1, 32, .inl (fun _ => 0)), .inl (1, 32, .inl (fun _ => 0)), .inl (1, 32, .inl (fun _ => 0)), .inl (1, 32, .inl (fun _ => 0)), .inl (1, 256, .inl (fun _ => 0)), .inl (1, 256, .inl (fun _ => 0)), .inr (8, [.int 52, .ref (k + 22), .ref (k + 23), .ref (k + 24), .ref (k + 25), .ref (k + 26), .ref (k + 27), .int 0, .int 0]), .inl (1, 53, .inl (fun _ => 0)), .inl (1, 53, .inl (fun _ => 0)), .inl (1, 53, .inl (fun _ => 0)), .inl (1, 53, .inl (fun _ => 0)), .inl (1, 512, .inl (fun _ => 0)), .inl (1, 512, .inl (fun _ => 0)), .inl (1, 3, .inl lat0)]
set_option maxRecDepth 20000 in
theorem n_start {d s : Nat} {h : Nat → aE} {k : Nat} (hbig : k + 30 < aBig) (F_h_k : h k = .inr (9, zX9)) {Ψ : Option Value → aH → Prop} (kk : ∀ h', (∀ j, j < k ∨ aBig ≤ j → h' j = h j) → Cells h' k (cStart k) → Ψ none (k + 29, s + 3609, h')) : WO (mM (d + 2)) 116 [.ref k] (k + 1, s, h) Ψ := by
  refine WO.of (Nat.le_of_ble_eq_true rfl) ?_
  have FR_h : ∀ j, j < k ∨ aBig ≤ j → h j = h j := fun _ _ => rfl
  show WX (lk tX9_init) (mM (d + 1)) Ψ 0 [(0, .ref k)] [] (k + 1, s, h)
  refine WX.s1 rfl rfl ?_
  refine WX.s1 rfl rfl ?_
  refine WX.s1 rfl rfl ?_
  refine WX.newN rfl (bigk (k := k) (a := 2) hbig (by decide)) (fun h5 e_h5 => ?_)
  have F_h5_k : h5 k = .inr (9, [.null, .null, .null, .null, .null, .null]) := by rw [e_h5, va_up_neq (nek1 (a := 1) (by decide))]; exact F_h_k
  have F_h5__k_1_ : h5 (k + 1) = .inr (7, zX7) := by rw [e_h5]; exact va_up_eq
  have FR_h5 : ∀ j, j < k ∨ aBig ≤ j → h5 j = h j := fun j hj => by rw [e_h5]; exact (va_up_neq (frne (a := 1) hj hbig (by decide))).trans (FR_h j hj)
  clear F_h_k FR_h e_h5
  refine WX.s1 rfl rfl ?_
  refine WX.s1 rfl rfl ?_
  refine WX.callC (vs := [.ref (k + 1), .int 0]) rfl rfl rfl (Nat.le_of_ble_eq_true rfl) (rcv_ok (ltk (a := 1) (c := 2) (by decide)) F_h5__k_1_) ?_
  refine n_row (N := 0) (k := k + 1) (bigk (k := k) (a := 3) hbig (by decide)) F_h5__k_1_ (by decide) (by decide) (fun h10 fr10 cs10 => ?_)
  have F_h10_k : h10 k = .inr (9, [.null, .null, .null, .null, .null, .null]) := (fr10 k (Or.inl (ltk0 (c := 1) (by decide)))).trans F_h5_k
  have F_h10__k_1_ : h10 (k + 1) = .inr (7, [.ref (k + 2), .int 0, .int 0, .long 0, .int 0]) := cs10.1
  have F_h10__k_2_ : h10 (k + 2) = .inl (0, 0, .inl (fun _ => 0)) := cs10.2.1
  have FR_h10 : ∀ j, j < k ∨ aBig ≤ j → h10 j = h j := fun j hj => (fr10 j (hj.imp (fun z => Nat.lt_of_lt_of_le z (Nat.le_add_right _ _)) (fun z => z))).trans (FR_h5 j hj)
  clear F_h5_k F_h5__k_1_ FR_h5 fr10 cs10
  clear h5
  show WX _ _ _ 13 [(0, .ref k)] [.ref (k + 1), .ref k] (k + 3, s + 5 + 0, h10)
  refine WX.put1 (fs := [.null, .null, .null, .null, .null, .null]) (fs' := [.ref (k + 1), .null, .null, .null, .null, .null]) rfl (ltk0 (c := 3) (by decide)) (F_h10_k) (Nat.le_of_ble_eq_true rfl) (rfl) rfl (fun h13 e_h13 => ?_)
  have F_h13_k : h13 k = .inr (9, [.ref (k + 1), .null, .null, .null, .null, .null]) := by rw [e_h13]; exact va_up_eq
  have F_h13__k_1_ : h13 (k + 1) = .inr (7, [.ref (k + 2), .int 0, .int 0, .long 0, .int 0]) := by rw [e_h13, va_up_neq (nek0 (a := 1) (by decide))]; exact F_h10__k_1_
  have F_h13__k_2_ : h13 (k + 2) = .inl (0, 0, .inl (fun _ => 0)) := by rw [e_h13, va_up_neq (nek0 (a := 2) (by decide))]; exact F_h10__k_2_
  have FR_h13 : ∀ j, j < k ∨ aBig ≤ j → h13 j = h j := fun j hj => by rw [e_h13]; exact (va_up_neq (frne0 hj hbig)).trans (FR_h10 j hj)
  clear F_h10_k F_h10__k_1_ F_h10__k_2_ FR_h10 e_h13
  clear h10
  refine WX.s1 rfl rfl ?_
  refine WX.newN rfl (bigk (k := k) (a := 4) hbig (by decide)) (fun h17 e_h17 => ?_)
  have F_h17_k : h17 k = .inr (9, [.ref (k + 1), .null, .null, .null, .null, .null]) := by rw [e_h17, va_up_neq (nek1 (a := 3) (by decide))]; exact F_h13_k
  have F_h17__k_1_ : h17 (k + 1) = .inr (7, [.ref (k + 2), .int 0, .int 0, .long 0, .int 0]) := by rw [e_h17, va_up_neq (nek (a := 1) (b := 3) (by decide))]; exact F_h13__k_1_
  have F_h17__k_2_ : h17 (k + 2) = .inl (0, 0, .inl (fun _ => 0)) := by rw [e_h17, va_up_neq (nek (a := 2) (b := 3) (by decide))]; exact F_h13__k_2_
  have F_h17__k_3_ : h17 (k + 3) = .inr (0, zX0) := by rw [e_h17]; exact va_up_eq
  have FR_h17 : ∀ j, j < k ∨ aBig ≤ j → h17 j = h j := fun j hj => by rw [e_h17]; exact (va_up_neq (frne (a := 3) hj hbig (by decide))).trans (FR_h13 j hj)
  clear F_h13_k F_h13__k_1_ F_h13__k_2_ FR_h13 e_h17
  clear h13
  refine WX.s1 rfl rfl ?_
  refine WX.callC (vs := [.ref (k + 3)]) rfl rfl rfl (Nat.le_of_ble_eq_true rfl) (rcv_ok (ltk (a := 3) (c := 4) (by decide)) F_h17__k_3_) ?_
  refine n_codes (k := k + 3) (bigk (k := k) (a := 8) hbig (by decide)) F_h17__k_3_ (fun h21 fr21 cs21 => ?_)
  have F_h21_k : h21 k = .inr (9, [.ref (k + 1), .null, .null, .null, .null, .null]) := (fr21 k (Or.inl (ltk0 (c := 3) (by decide)))).trans F_h17_k
  have F_h21__k_1_ : h21 (k + 1) = .inr (7, [.ref (k + 2), .int 0, .int 0, .long 0, .int 0]) := (fr21 (k + 1) (Or.inl (ltk (a := 1) (c := 3) (by decide)))).trans F_h17__k_1_
  have F_h21__k_2_ : h21 (k + 2) = .inl (0, 0, .inl (fun _ => 0)) := (fr21 (k + 2) (Or.inl (ltk (a := 2) (c := 3) (by decide)))).trans F_h17__k_2_
  have F_h21__k_3_ : h21 (k + 3) = .inr (0, [.ref (k + 4), .ref (k + 5), .ref (k + 6), .int 0, .int 0]) := cs21.1
  have F_h21__k_4_ : h21 (k + 4) = .inl (1, 256, .inl (fun _ => 0)) := cs21.2.1
  have F_h21__k_5_ : h21 (k + 5) = .inl (1, 256, .inl (fun _ => 0)) := cs21.2.2.1
  have F_h21__k_6_ : h21 (k + 6) = .inl (1, 13, .inl (fun _ => 0)) := cs21.2.2.2.1
  have FR_h21 : ∀ j, j < k ∨ aBig ≤ j → h21 j = h j := fun j hj => (fr21 j (hj.imp (fun z => Nat.lt_of_lt_of_le z (Nat.le_add_right _ _)) (fun z => z))).trans (FR_h17 j hj)
  clear F_h17_k F_h17__k_1_ F_h17__k_2_ F_h17__k_3_ FR_h17 fr21 cs21
  clear h17
  show WX _ _ _ 24 [(0, .ref k)] [.ref (k + 3), .ref k] (k + 7, s + 5 + 0 + 5 + 525, h21)
  refine WX.put1 (fs := [.ref (k + 1), .null, .null, .null, .null, .null]) (fs' := [.ref (k + 1), .ref (k + 3), .null, .null, .null, .null]) rfl (ltk0 (c := 7) (by decide)) (F_h21_k) (Nat.le_of_ble_eq_true rfl) (rfl) rfl (fun h24 e_h24 => ?_)
  have F_h24_k : h24 k = .inr (9, [.ref (k + 1), .ref (k + 3), .null, .null, .null, .null]) := by rw [e_h24]; exact va_up_eq
  have F_h24__k_1_ : h24 (k + 1) = .inr (7, [.ref (k + 2), .int 0, .int 0, .long 0, .int 0]) := by rw [e_h24, va_up_neq (nek0 (a := 1) (by decide))]; exact F_h21__k_1_
  have F_h24__k_2_ : h24 (k + 2) = .inl (0, 0, .inl (fun _ => 0)) := by rw [e_h24, va_up_neq (nek0 (a := 2) (by decide))]; exact F_h21__k_2_
  have F_h24__k_3_ : h24 (k + 3) = .inr (0, [.ref (k + 4), .ref (k + 5), .ref (k + 6), .int 0, .int 0]) := by rw [e_h24, va_up_neq (nek0 (a := 3) (by decide))]; exact F_h21__k_3_
  have F_h24__k_4_ : h24 (k + 4) = .inl (1, 256, .inl (fun _ => 0)) := by rw [e_h24, va_up_neq (nek0 (a := 4) (by decide))]; exact F_h21__k_4_
  have F_h24__k_5_ : h24 (k + 5) = .inl (1, 256, .inl (fun _ => 0)) := by rw [e_h24, va_up_neq (nek0 (a := 5) (by decide))]; exact F_h21__k_5_
  have F_h24__k_6_ : h24 (k + 6) = .inl (1, 13, .inl (fun _ => 0)) := by rw [e_h24, va_up_neq (nek0 (a := 6) (by decide))]; exact F_h21__k_6_
  have FR_h24 : ∀ j, j < k ∨ aBig ≤ j → h24 j = h j := fun j hj => by rw [e_h24]; exact (va_up_neq (frne0 hj hbig)).trans (FR_h21 j hj)
  clear F_h21_k F_h21__k_1_ F_h21__k_2_ F_h21__k_3_ F_h21__k_4_ F_h21__k_5_ F_h21__k_6_ FR_h21 e_h24
  clear h21
  refine WX.s1 rfl rfl ?_
  refine WX.newN rfl (bigk (k := k) (a := 8) hbig (by decide)) (fun h28 e_h28 => ?_)
  have F_h28_k : h28 k = .inr (9, [.ref (k + 1), .ref (k + 3), .null, .null, .null, .null]) := by rw [e_h28, va_up_neq (nek1 (a := 7) (by decide))]; exact F_h24_k
  have F_h28__k_1_ : h28 (k + 1) = .inr (7, [.ref (k + 2), .int 0, .int 0, .long 0, .int 0]) := by rw [e_h28, va_up_neq (nek (a := 1) (b := 7) (by decide))]; exact F_h24__k_1_
  have F_h28__k_2_ : h28 (k + 2) = .inl (0, 0, .inl (fun _ => 0)) := by rw [e_h28, va_up_neq (nek (a := 2) (b := 7) (by decide))]; exact F_h24__k_2_
  have F_h28__k_3_ : h28 (k + 3) = .inr (0, [.ref (k + 4), .ref (k + 5), .ref (k + 6), .int 0, .int 0]) := by rw [e_h28, va_up_neq (nek (a := 3) (b := 7) (by decide))]; exact F_h24__k_3_
  have F_h28__k_4_ : h28 (k + 4) = .inl (1, 256, .inl (fun _ => 0)) := by rw [e_h28, va_up_neq (nek (a := 4) (b := 7) (by decide))]; exact F_h24__k_4_
  have F_h28__k_5_ : h28 (k + 5) = .inl (1, 256, .inl (fun _ => 0)) := by rw [e_h28, va_up_neq (nek (a := 5) (b := 7) (by decide))]; exact F_h24__k_5_
  have F_h28__k_6_ : h28 (k + 6) = .inl (1, 13, .inl (fun _ => 0)) := by rw [e_h28, va_up_neq (nek (a := 6) (b := 7) (by decide))]; exact F_h24__k_6_
  have F_h28__k_7_ : h28 (k + 7) = .inr (8, zX8) := by rw [e_h28]; exact va_up_eq
  have FR_h28 : ∀ j, j < k ∨ aBig ≤ j → h28 j = h j := fun j hj => by rw [e_h28]; exact (va_up_neq (frne (a := 7) hj hbig (by decide))).trans (FR_h24 j hj)
  clear F_h24_k F_h24__k_1_ F_h24__k_2_ F_h24__k_3_ F_h24__k_4_ F_h24__k_5_ F_h24__k_6_ FR_h24 e_h28
  clear h24
  refine WX.s1 rfl rfl ?_
  refine WX.s1 rfl rfl ?_
  refine WX.s1 rfl rfl ?_
  refine WX.callC (vs := [.ref (k + 7), .int 35, .int 9]) rfl rfl rfl (Nat.le_of_ble_eq_true rfl) (rcv_ok (ltk (a := 7) (c := 8) (by decide)) F_h28__k_7_) ?_
  refine n_share_35_9 (k := k + 7) (bigk (k := k) (a := 15) hbig (by decide)) F_h28__k_7_ (fun h36 fr36 cs36 => ?_)
  have F_h36_k : h36 k = .inr (9, [.ref (k + 1), .ref (k + 3), .null, .null, .null, .null]) := (fr36 k (Or.inl (ltk0 (c := 7) (by decide)))).trans F_h28_k
  have F_h36__k_1_ : h36 (k + 1) = .inr (7, [.ref (k + 2), .int 0, .int 0, .long 0, .int 0]) := (fr36 (k + 1) (Or.inl (ltk (a := 1) (c := 7) (by decide)))).trans F_h28__k_1_
  have F_h36__k_2_ : h36 (k + 2) = .inl (0, 0, .inl (fun _ => 0)) := (fr36 (k + 2) (Or.inl (ltk (a := 2) (c := 7) (by decide)))).trans F_h28__k_2_
  have F_h36__k_3_ : h36 (k + 3) = .inr (0, [.ref (k + 4), .ref (k + 5), .ref (k + 6), .int 0, .int 0]) := (fr36 (k + 3) (Or.inl (ltk (a := 3) (c := 7) (by decide)))).trans F_h28__k_3_
  have F_h36__k_4_ : h36 (k + 4) = .inl (1, 256, .inl (fun _ => 0)) := (fr36 (k + 4) (Or.inl (ltk (a := 4) (c := 7) (by decide)))).trans F_h28__k_4_
  have F_h36__k_5_ : h36 (k + 5) = .inl (1, 256, .inl (fun _ => 0)) := (fr36 (k + 5) (Or.inl (ltk (a := 5) (c := 7) (by decide)))).trans F_h28__k_5_
  have F_h36__k_6_ : h36 (k + 6) = .inl (1, 13, .inl (fun _ => 0)) := (fr36 (k + 6) (Or.inl (ltk (a := 6) (c := 7) (by decide)))).trans F_h28__k_6_
  have F_h36__k_7_ : h36 (k + 7) = .inr (8, [.int 35, .ref (k + 8), .ref (k + 9), .ref (k + 10), .ref (k + 11), .ref (k + 12), .ref (k + 13), .int 0, .int 0]) := cs36.1
  have F_h36__k_8_ : h36 (k + 8) = .inl (1, 36, .inl (fun _ => 0)) := cs36.2.1
  have F_h36__k_9_ : h36 (k + 9) = .inl (1, 36, .inl (fun _ => 0)) := cs36.2.2.1
  have F_h36__k_10_ : h36 (k + 10) = .inl (1, 36, .inl (fun _ => 0)) := cs36.2.2.2.1
  have F_h36__k_11_ : h36 (k + 11) = .inl (1, 36, .inl (fun _ => 0)) := cs36.2.2.2.2.1
  have F_h36__k_12_ : h36 (k + 12) = .inl (1, 512, .inl (fun _ => 0)) := cs36.2.2.2.2.2.1
  have F_h36__k_13_ : h36 (k + 13) = .inl (1, 512, .inl (fun _ => 0)) := cs36.2.2.2.2.2.2.1
  have FR_h36 : ∀ j, j < k ∨ aBig ≤ j → h36 j = h j := fun j hj => (fr36 j (hj.imp (fun z => Nat.lt_of_lt_of_le z (Nat.le_add_right _ _)) (fun z => z))).trans (FR_h28 j hj)
  clear F_h28_k F_h28__k_1_ F_h28__k_2_ F_h28__k_3_ F_h28__k_4_ F_h28__k_5_ F_h28__k_6_ F_h28__k_7_ FR_h28 fr36 cs36
  clear h28
  show WX _ _ _ 39 [(0, .ref k)] [.ref (k + 7), .ref k] (k + 14, s + 5 + 0 + 5 + 525 + 9 + 1168, h36)
  refine WX.put1 (fs := [.ref (k + 1), .ref (k + 3), .null, .null, .null, .null]) (fs' := [.ref (k + 1), .ref (k + 3), .ref (k + 7), .null, .null, .null]) rfl (ltk0 (c := 14) (by decide)) (F_h36_k) (Nat.le_of_ble_eq_true rfl) (rfl) rfl (fun h39 e_h39 => ?_)
  have F_h39_k : h39 k = .inr (9, [.ref (k + 1), .ref (k + 3), .ref (k + 7), .null, .null, .null]) := by rw [e_h39]; exact va_up_eq
  have F_h39__k_1_ : h39 (k + 1) = .inr (7, [.ref (k + 2), .int 0, .int 0, .long 0, .int 0]) := by rw [e_h39, va_up_neq (nek0 (a := 1) (by decide))]; exact F_h36__k_1_
  have F_h39__k_2_ : h39 (k + 2) = .inl (0, 0, .inl (fun _ => 0)) := by rw [e_h39, va_up_neq (nek0 (a := 2) (by decide))]; exact F_h36__k_2_
  have F_h39__k_3_ : h39 (k + 3) = .inr (0, [.ref (k + 4), .ref (k + 5), .ref (k + 6), .int 0, .int 0]) := by rw [e_h39, va_up_neq (nek0 (a := 3) (by decide))]; exact F_h36__k_3_
  have F_h39__k_4_ : h39 (k + 4) = .inl (1, 256, .inl (fun _ => 0)) := by rw [e_h39, va_up_neq (nek0 (a := 4) (by decide))]; exact F_h36__k_4_
  have F_h39__k_5_ : h39 (k + 5) = .inl (1, 256, .inl (fun _ => 0)) := by rw [e_h39, va_up_neq (nek0 (a := 5) (by decide))]; exact F_h36__k_5_
  have F_h39__k_6_ : h39 (k + 6) = .inl (1, 13, .inl (fun _ => 0)) := by rw [e_h39, va_up_neq (nek0 (a := 6) (by decide))]; exact F_h36__k_6_
  have F_h39__k_7_ : h39 (k + 7) = .inr (8, [.int 35, .ref (k + 8), .ref (k + 9), .ref (k + 10), .ref (k + 11), .ref (k + 12), .ref (k + 13), .int 0, .int 0]) := by rw [e_h39, va_up_neq (nek0 (a := 7) (by decide))]; exact F_h36__k_7_
  have F_h39__k_8_ : h39 (k + 8) = .inl (1, 36, .inl (fun _ => 0)) := by rw [e_h39, va_up_neq (nek0 (a := 8) (by decide))]; exact F_h36__k_8_
  have F_h39__k_9_ : h39 (k + 9) = .inl (1, 36, .inl (fun _ => 0)) := by rw [e_h39, va_up_neq (nek0 (a := 9) (by decide))]; exact F_h36__k_9_
  have F_h39__k_10_ : h39 (k + 10) = .inl (1, 36, .inl (fun _ => 0)) := by rw [e_h39, va_up_neq (nek0 (a := 10) (by decide))]; exact F_h36__k_10_
  have F_h39__k_11_ : h39 (k + 11) = .inl (1, 36, .inl (fun _ => 0)) := by rw [e_h39, va_up_neq (nek0 (a := 11) (by decide))]; exact F_h36__k_11_
  have F_h39__k_12_ : h39 (k + 12) = .inl (1, 512, .inl (fun _ => 0)) := by rw [e_h39, va_up_neq (nek0 (a := 12) (by decide))]; exact F_h36__k_12_
  have F_h39__k_13_ : h39 (k + 13) = .inl (1, 512, .inl (fun _ => 0)) := by rw [e_h39, va_up_neq (nek0 (a := 13) (by decide))]; exact F_h36__k_13_
  have FR_h39 : ∀ j, j < k ∨ aBig ≤ j → h39 j = h j := fun j hj => by rw [e_h39]; exact (va_up_neq (frne0 hj hbig)).trans (FR_h36 j hj)
  clear F_h36_k F_h36__k_1_ F_h36__k_2_ F_h36__k_3_ F_h36__k_4_ F_h36__k_5_ F_h36__k_6_ F_h36__k_7_ F_h36__k_8_ F_h36__k_9_ F_h36__k_10_ F_h36__k_11_ F_h36__k_12_ F_h36__k_13_ FR_h36 e_h39
  clear h36
  refine WX.s1 rfl rfl ?_
  refine WX.newN rfl (bigk (k := k) (a := 15) hbig (by decide)) (fun h43 e_h43 => ?_)
  have F_h43_k : h43 k = .inr (9, [.ref (k + 1), .ref (k + 3), .ref (k + 7), .null, .null, .null]) := by rw [e_h43, va_up_neq (nek1 (a := 14) (by decide))]; exact F_h39_k
  have F_h43__k_1_ : h43 (k + 1) = .inr (7, [.ref (k + 2), .int 0, .int 0, .long 0, .int 0]) := by rw [e_h43, va_up_neq (nek (a := 1) (b := 14) (by decide))]; exact F_h39__k_1_
  have F_h43__k_2_ : h43 (k + 2) = .inl (0, 0, .inl (fun _ => 0)) := by rw [e_h43, va_up_neq (nek (a := 2) (b := 14) (by decide))]; exact F_h39__k_2_
  have F_h43__k_3_ : h43 (k + 3) = .inr (0, [.ref (k + 4), .ref (k + 5), .ref (k + 6), .int 0, .int 0]) := by rw [e_h43, va_up_neq (nek (a := 3) (b := 14) (by decide))]; exact F_h39__k_3_
  have F_h43__k_4_ : h43 (k + 4) = .inl (1, 256, .inl (fun _ => 0)) := by rw [e_h43, va_up_neq (nek (a := 4) (b := 14) (by decide))]; exact F_h39__k_4_
  have F_h43__k_5_ : h43 (k + 5) = .inl (1, 256, .inl (fun _ => 0)) := by rw [e_h43, va_up_neq (nek (a := 5) (b := 14) (by decide))]; exact F_h39__k_5_
  have F_h43__k_6_ : h43 (k + 6) = .inl (1, 13, .inl (fun _ => 0)) := by rw [e_h43, va_up_neq (nek (a := 6) (b := 14) (by decide))]; exact F_h39__k_6_
  have F_h43__k_7_ : h43 (k + 7) = .inr (8, [.int 35, .ref (k + 8), .ref (k + 9), .ref (k + 10), .ref (k + 11), .ref (k + 12), .ref (k + 13), .int 0, .int 0]) := by rw [e_h43, va_up_neq (nek (a := 7) (b := 14) (by decide))]; exact F_h39__k_7_
  have F_h43__k_8_ : h43 (k + 8) = .inl (1, 36, .inl (fun _ => 0)) := by rw [e_h43, va_up_neq (nek (a := 8) (b := 14) (by decide))]; exact F_h39__k_8_
  have F_h43__k_9_ : h43 (k + 9) = .inl (1, 36, .inl (fun _ => 0)) := by rw [e_h43, va_up_neq (nek (a := 9) (b := 14) (by decide))]; exact F_h39__k_9_
  have F_h43__k_10_ : h43 (k + 10) = .inl (1, 36, .inl (fun _ => 0)) := by rw [e_h43, va_up_neq (nek (a := 10) (b := 14) (by decide))]; exact F_h39__k_10_
  have F_h43__k_11_ : h43 (k + 11) = .inl (1, 36, .inl (fun _ => 0)) := by rw [e_h43, va_up_neq (nek (a := 11) (b := 14) (by decide))]; exact F_h39__k_11_
  have F_h43__k_12_ : h43 (k + 12) = .inl (1, 512, .inl (fun _ => 0)) := by rw [e_h43, va_up_neq (nek (a := 12) (b := 14) (by decide))]; exact F_h39__k_12_
  have F_h43__k_13_ : h43 (k + 13) = .inl (1, 512, .inl (fun _ => 0)) := by rw [e_h43, va_up_neq (nek (a := 13) (b := 14) (by decide))]; exact F_h39__k_13_
  have F_h43__k_14_ : h43 (k + 14) = .inr (8, zX8) := by rw [e_h43]; exact va_up_eq
  have FR_h43 : ∀ j, j < k ∨ aBig ≤ j → h43 j = h j := fun j hj => by rw [e_h43]; exact (va_up_neq (frne (a := 14) hj hbig (by decide))).trans (FR_h39 j hj)
  clear F_h39_k F_h39__k_1_ F_h39__k_2_ F_h39__k_3_ F_h39__k_4_ F_h39__k_5_ F_h39__k_6_ F_h39__k_7_ F_h39__k_8_ F_h39__k_9_ F_h39__k_10_ F_h39__k_11_ F_h39__k_12_ F_h39__k_13_ FR_h39 e_h43
  clear h39
  refine WX.s1 rfl rfl ?_
  refine WX.s1 rfl rfl ?_
  refine WX.s1 rfl rfl ?_
  refine WX.callC (vs := [.ref (k + 14), .int 31, .int 8]) rfl rfl rfl (Nat.le_of_ble_eq_true rfl) (rcv_ok (ltk (a := 14) (c := 15) (by decide)) F_h43__k_14_) ?_
  refine n_share_31_8 (k := k + 14) (bigk (k := k) (a := 22) hbig (by decide)) F_h43__k_14_ (fun h51 fr51 cs51 => ?_)
  have F_h51_k : h51 k = .inr (9, [.ref (k + 1), .ref (k + 3), .ref (k + 7), .null, .null, .null]) := (fr51 k (Or.inl (ltk0 (c := 14) (by decide)))).trans F_h43_k
  have F_h51__k_1_ : h51 (k + 1) = .inr (7, [.ref (k + 2), .int 0, .int 0, .long 0, .int 0]) := (fr51 (k + 1) (Or.inl (ltk (a := 1) (c := 14) (by decide)))).trans F_h43__k_1_
  have F_h51__k_2_ : h51 (k + 2) = .inl (0, 0, .inl (fun _ => 0)) := (fr51 (k + 2) (Or.inl (ltk (a := 2) (c := 14) (by decide)))).trans F_h43__k_2_
  have F_h51__k_3_ : h51 (k + 3) = .inr (0, [.ref (k + 4), .ref (k + 5), .ref (k + 6), .int 0, .int 0]) := (fr51 (k + 3) (Or.inl (ltk (a := 3) (c := 14) (by decide)))).trans F_h43__k_3_
  have F_h51__k_4_ : h51 (k + 4) = .inl (1, 256, .inl (fun _ => 0)) := (fr51 (k + 4) (Or.inl (ltk (a := 4) (c := 14) (by decide)))).trans F_h43__k_4_
  have F_h51__k_5_ : h51 (k + 5) = .inl (1, 256, .inl (fun _ => 0)) := (fr51 (k + 5) (Or.inl (ltk (a := 5) (c := 14) (by decide)))).trans F_h43__k_5_
  have F_h51__k_6_ : h51 (k + 6) = .inl (1, 13, .inl (fun _ => 0)) := (fr51 (k + 6) (Or.inl (ltk (a := 6) (c := 14) (by decide)))).trans F_h43__k_6_
  have F_h51__k_7_ : h51 (k + 7) = .inr (8, [.int 35, .ref (k + 8), .ref (k + 9), .ref (k + 10), .ref (k + 11), .ref (k + 12), .ref (k + 13), .int 0, .int 0]) := (fr51 (k + 7) (Or.inl (ltk (a := 7) (c := 14) (by decide)))).trans F_h43__k_7_
  have F_h51__k_8_ : h51 (k + 8) = .inl (1, 36, .inl (fun _ => 0)) := (fr51 (k + 8) (Or.inl (ltk (a := 8) (c := 14) (by decide)))).trans F_h43__k_8_
  have F_h51__k_9_ : h51 (k + 9) = .inl (1, 36, .inl (fun _ => 0)) := (fr51 (k + 9) (Or.inl (ltk (a := 9) (c := 14) (by decide)))).trans F_h43__k_9_
  have F_h51__k_10_ : h51 (k + 10) = .inl (1, 36, .inl (fun _ => 0)) := (fr51 (k + 10) (Or.inl (ltk (a := 10) (c := 14) (by decide)))).trans F_h43__k_10_
  have F_h51__k_11_ : h51 (k + 11) = .inl (1, 36, .inl (fun _ => 0)) := (fr51 (k + 11) (Or.inl (ltk (a := 11) (c := 14) (by decide)))).trans F_h43__k_11_
  have F_h51__k_12_ : h51 (k + 12) = .inl (1, 512, .inl (fun _ => 0)) := (fr51 (k + 12) (Or.inl (ltk (a := 12) (c := 14) (by decide)))).trans F_h43__k_12_
  have F_h51__k_13_ : h51 (k + 13) = .inl (1, 512, .inl (fun _ => 0)) := (fr51 (k + 13) (Or.inl (ltk (a := 13) (c := 14) (by decide)))).trans F_h43__k_13_
  have F_h51__k_14_ : h51 (k + 14) = .inr (8, [.int 31, .ref (k + 15), .ref (k + 16), .ref (k + 17), .ref (k + 18), .ref (k + 19), .ref (k + 20), .int 0, .int 0]) := cs51.1
  have F_h51__k_15_ : h51 (k + 15) = .inl (1, 32, .inl (fun _ => 0)) := cs51.2.1
  have F_h51__k_16_ : h51 (k + 16) = .inl (1, 32, .inl (fun _ => 0)) := cs51.2.2.1
  have F_h51__k_17_ : h51 (k + 17) = .inl (1, 32, .inl (fun _ => 0)) := cs51.2.2.2.1
  have F_h51__k_18_ : h51 (k + 18) = .inl (1, 32, .inl (fun _ => 0)) := cs51.2.2.2.2.1
  have F_h51__k_19_ : h51 (k + 19) = .inl (1, 256, .inl (fun _ => 0)) := cs51.2.2.2.2.2.1
  have F_h51__k_20_ : h51 (k + 20) = .inl (1, 256, .inl (fun _ => 0)) := cs51.2.2.2.2.2.2.1
  have FR_h51 : ∀ j, j < k ∨ aBig ≤ j → h51 j = h j := fun j hj => (fr51 j (hj.imp (fun z => Nat.lt_of_lt_of_le z (Nat.le_add_right _ _)) (fun z => z))).trans (FR_h43 j hj)
  clear F_h43_k F_h43__k_1_ F_h43__k_2_ F_h43__k_3_ F_h43__k_4_ F_h43__k_5_ F_h43__k_6_ F_h43__k_7_ F_h43__k_8_ F_h43__k_9_ F_h43__k_10_ F_h43__k_11_ F_h43__k_12_ F_h43__k_13_ F_h43__k_14_ FR_h43 fr51 cs51
  clear h43
  show WX _ _ _ 54 [(0, .ref k)] [.ref (k + 14), .ref k] (k + 21, s + 5 + 0 + 5 + 525 + 9 + 1168 + 9 + 640, h51)
  refine WX.put1 (fs := [.ref (k + 1), .ref (k + 3), .ref (k + 7), .null, .null, .null]) (fs' := [.ref (k + 1), .ref (k + 3), .ref (k + 7), .ref (k + 14), .null, .null]) rfl (ltk0 (c := 21) (by decide)) (F_h51_k) (Nat.le_of_ble_eq_true rfl) (rfl) rfl (fun h54 e_h54 => ?_)
  have F_h54_k : h54 k = .inr (9, [.ref (k + 1), .ref (k + 3), .ref (k + 7), .ref (k + 14), .null, .null]) := by rw [e_h54]; exact va_up_eq
  have F_h54__k_1_ : h54 (k + 1) = .inr (7, [.ref (k + 2), .int 0, .int 0, .long 0, .int 0]) := by rw [e_h54, va_up_neq (nek0 (a := 1) (by decide))]; exact F_h51__k_1_
  have F_h54__k_2_ : h54 (k + 2) = .inl (0, 0, .inl (fun _ => 0)) := by rw [e_h54, va_up_neq (nek0 (a := 2) (by decide))]; exact F_h51__k_2_
  have F_h54__k_3_ : h54 (k + 3) = .inr (0, [.ref (k + 4), .ref (k + 5), .ref (k + 6), .int 0, .int 0]) := by rw [e_h54, va_up_neq (nek0 (a := 3) (by decide))]; exact F_h51__k_3_
  have F_h54__k_4_ : h54 (k + 4) = .inl (1, 256, .inl (fun _ => 0)) := by rw [e_h54, va_up_neq (nek0 (a := 4) (by decide))]; exact F_h51__k_4_
  have F_h54__k_5_ : h54 (k + 5) = .inl (1, 256, .inl (fun _ => 0)) := by rw [e_h54, va_up_neq (nek0 (a := 5) (by decide))]; exact F_h51__k_5_
  have F_h54__k_6_ : h54 (k + 6) = .inl (1, 13, .inl (fun _ => 0)) := by rw [e_h54, va_up_neq (nek0 (a := 6) (by decide))]; exact F_h51__k_6_
  have F_h54__k_7_ : h54 (k + 7) = .inr (8, [.int 35, .ref (k + 8), .ref (k + 9), .ref (k + 10), .ref (k + 11), .ref (k + 12), .ref (k + 13), .int 0, .int 0]) := by rw [e_h54, va_up_neq (nek0 (a := 7) (by decide))]; exact F_h51__k_7_
  have F_h54__k_8_ : h54 (k + 8) = .inl (1, 36, .inl (fun _ => 0)) := by rw [e_h54, va_up_neq (nek0 (a := 8) (by decide))]; exact F_h51__k_8_
  have F_h54__k_9_ : h54 (k + 9) = .inl (1, 36, .inl (fun _ => 0)) := by rw [e_h54, va_up_neq (nek0 (a := 9) (by decide))]; exact F_h51__k_9_
  have F_h54__k_10_ : h54 (k + 10) = .inl (1, 36, .inl (fun _ => 0)) := by rw [e_h54, va_up_neq (nek0 (a := 10) (by decide))]; exact F_h51__k_10_
  have F_h54__k_11_ : h54 (k + 11) = .inl (1, 36, .inl (fun _ => 0)) := by rw [e_h54, va_up_neq (nek0 (a := 11) (by decide))]; exact F_h51__k_11_
  have F_h54__k_12_ : h54 (k + 12) = .inl (1, 512, .inl (fun _ => 0)) := by rw [e_h54, va_up_neq (nek0 (a := 12) (by decide))]; exact F_h51__k_12_
  have F_h54__k_13_ : h54 (k + 13) = .inl (1, 512, .inl (fun _ => 0)) := by rw [e_h54, va_up_neq (nek0 (a := 13) (by decide))]; exact F_h51__k_13_
  have F_h54__k_14_ : h54 (k + 14) = .inr (8, [.int 31, .ref (k + 15), .ref (k + 16), .ref (k + 17), .ref (k + 18), .ref (k + 19), .ref (k + 20), .int 0, .int 0]) := by rw [e_h54, va_up_neq (nek0 (a := 14) (by decide))]; exact F_h51__k_14_
  have F_h54__k_15_ : h54 (k + 15) = .inl (1, 32, .inl (fun _ => 0)) := by rw [e_h54, va_up_neq (nek0 (a := 15) (by decide))]; exact F_h51__k_15_
  have F_h54__k_16_ : h54 (k + 16) = .inl (1, 32, .inl (fun _ => 0)) := by rw [e_h54, va_up_neq (nek0 (a := 16) (by decide))]; exact F_h51__k_16_
  have F_h54__k_17_ : h54 (k + 17) = .inl (1, 32, .inl (fun _ => 0)) := by rw [e_h54, va_up_neq (nek0 (a := 17) (by decide))]; exact F_h51__k_17_
  have F_h54__k_18_ : h54 (k + 18) = .inl (1, 32, .inl (fun _ => 0)) := by rw [e_h54, va_up_neq (nek0 (a := 18) (by decide))]; exact F_h51__k_18_
  have F_h54__k_19_ : h54 (k + 19) = .inl (1, 256, .inl (fun _ => 0)) := by rw [e_h54, va_up_neq (nek0 (a := 19) (by decide))]; exact F_h51__k_19_
  have F_h54__k_20_ : h54 (k + 20) = .inl (1, 256, .inl (fun _ => 0)) := by rw [e_h54, va_up_neq (nek0 (a := 20) (by decide))]; exact F_h51__k_20_
  have FR_h54 : ∀ j, j < k ∨ aBig ≤ j → h54 j = h j := fun j hj => by rw [e_h54]; exact (va_up_neq (frne0 hj hbig)).trans (FR_h51 j hj)
  clear F_h51_k F_h51__k_1_ F_h51__k_2_ F_h51__k_3_ F_h51__k_4_ F_h51__k_5_ F_h51__k_6_ F_h51__k_7_ F_h51__k_8_ F_h51__k_9_ F_h51__k_10_ F_h51__k_11_ F_h51__k_12_ F_h51__k_13_ F_h51__k_14_ F_h51__k_15_ F_h51__k_16_ F_h51__k_17_ F_h51__k_18_ F_h51__k_19_ F_h51__k_20_ FR_h51 e_h54
  clear h51
  refine WX.s1 rfl rfl ?_
  refine WX.newN rfl (bigk (k := k) (a := 22) hbig (by decide)) (fun h58 e_h58 => ?_)
  have F_h58_k : h58 k = .inr (9, [.ref (k + 1), .ref (k + 3), .ref (k + 7), .ref (k + 14), .null, .null]) := by rw [e_h58, va_up_neq (nek1 (a := 21) (by decide))]; exact F_h54_k
  have F_h58__k_1_ : h58 (k + 1) = .inr (7, [.ref (k + 2), .int 0, .int 0, .long 0, .int 0]) := by rw [e_h58, va_up_neq (nek (a := 1) (b := 21) (by decide))]; exact F_h54__k_1_
  have F_h58__k_2_ : h58 (k + 2) = .inl (0, 0, .inl (fun _ => 0)) := by rw [e_h58, va_up_neq (nek (a := 2) (b := 21) (by decide))]; exact F_h54__k_2_
  have F_h58__k_3_ : h58 (k + 3) = .inr (0, [.ref (k + 4), .ref (k + 5), .ref (k + 6), .int 0, .int 0]) := by rw [e_h58, va_up_neq (nek (a := 3) (b := 21) (by decide))]; exact F_h54__k_3_
  have F_h58__k_4_ : h58 (k + 4) = .inl (1, 256, .inl (fun _ => 0)) := by rw [e_h58, va_up_neq (nek (a := 4) (b := 21) (by decide))]; exact F_h54__k_4_
  have F_h58__k_5_ : h58 (k + 5) = .inl (1, 256, .inl (fun _ => 0)) := by rw [e_h58, va_up_neq (nek (a := 5) (b := 21) (by decide))]; exact F_h54__k_5_
  have F_h58__k_6_ : h58 (k + 6) = .inl (1, 13, .inl (fun _ => 0)) := by rw [e_h58, va_up_neq (nek (a := 6) (b := 21) (by decide))]; exact F_h54__k_6_
  have F_h58__k_7_ : h58 (k + 7) = .inr (8, [.int 35, .ref (k + 8), .ref (k + 9), .ref (k + 10), .ref (k + 11), .ref (k + 12), .ref (k + 13), .int 0, .int 0]) := by rw [e_h58, va_up_neq (nek (a := 7) (b := 21) (by decide))]; exact F_h54__k_7_
  have F_h58__k_8_ : h58 (k + 8) = .inl (1, 36, .inl (fun _ => 0)) := by rw [e_h58, va_up_neq (nek (a := 8) (b := 21) (by decide))]; exact F_h54__k_8_
  have F_h58__k_9_ : h58 (k + 9) = .inl (1, 36, .inl (fun _ => 0)) := by rw [e_h58, va_up_neq (nek (a := 9) (b := 21) (by decide))]; exact F_h54__k_9_
  have F_h58__k_10_ : h58 (k + 10) = .inl (1, 36, .inl (fun _ => 0)) := by rw [e_h58, va_up_neq (nek (a := 10) (b := 21) (by decide))]; exact F_h54__k_10_
  have F_h58__k_11_ : h58 (k + 11) = .inl (1, 36, .inl (fun _ => 0)) := by rw [e_h58, va_up_neq (nek (a := 11) (b := 21) (by decide))]; exact F_h54__k_11_
  have F_h58__k_12_ : h58 (k + 12) = .inl (1, 512, .inl (fun _ => 0)) := by rw [e_h58, va_up_neq (nek (a := 12) (b := 21) (by decide))]; exact F_h54__k_12_
  have F_h58__k_13_ : h58 (k + 13) = .inl (1, 512, .inl (fun _ => 0)) := by rw [e_h58, va_up_neq (nek (a := 13) (b := 21) (by decide))]; exact F_h54__k_13_
  have F_h58__k_14_ : h58 (k + 14) = .inr (8, [.int 31, .ref (k + 15), .ref (k + 16), .ref (k + 17), .ref (k + 18), .ref (k + 19), .ref (k + 20), .int 0, .int 0]) := by rw [e_h58, va_up_neq (nek (a := 14) (b := 21) (by decide))]; exact F_h54__k_14_
  have F_h58__k_15_ : h58 (k + 15) = .inl (1, 32, .inl (fun _ => 0)) := by rw [e_h58, va_up_neq (nek (a := 15) (b := 21) (by decide))]; exact F_h54__k_15_
  have F_h58__k_16_ : h58 (k + 16) = .inl (1, 32, .inl (fun _ => 0)) := by rw [e_h58, va_up_neq (nek (a := 16) (b := 21) (by decide))]; exact F_h54__k_16_
  have F_h58__k_17_ : h58 (k + 17) = .inl (1, 32, .inl (fun _ => 0)) := by rw [e_h58, va_up_neq (nek (a := 17) (b := 21) (by decide))]; exact F_h54__k_17_
  have F_h58__k_18_ : h58 (k + 18) = .inl (1, 32, .inl (fun _ => 0)) := by rw [e_h58, va_up_neq (nek (a := 18) (b := 21) (by decide))]; exact F_h54__k_18_
  have F_h58__k_19_ : h58 (k + 19) = .inl (1, 256, .inl (fun _ => 0)) := by rw [e_h58, va_up_neq (nek (a := 19) (b := 21) (by decide))]; exact F_h54__k_19_
  have F_h58__k_20_ : h58 (k + 20) = .inl (1, 256, .inl (fun _ => 0)) := by rw [e_h58, va_up_neq (nek (a := 20) (b := 21) (by decide))]; exact F_h54__k_20_
  have F_h58__k_21_ : h58 (k + 21) = .inr (8, zX8) := by rw [e_h58]; exact va_up_eq
  have FR_h58 : ∀ j, j < k ∨ aBig ≤ j → h58 j = h j := fun j hj => by rw [e_h58]; exact (va_up_neq (frne (a := 21) hj hbig (by decide))).trans (FR_h54 j hj)
  clear F_h54_k F_h54__k_1_ F_h54__k_2_ F_h54__k_3_ F_h54__k_4_ F_h54__k_5_ F_h54__k_6_ F_h54__k_7_ F_h54__k_8_ F_h54__k_9_ F_h54__k_10_ F_h54__k_11_ F_h54__k_12_ F_h54__k_13_ F_h54__k_14_ F_h54__k_15_ F_h54__k_16_ F_h54__k_17_ F_h54__k_18_ F_h54__k_19_ F_h54__k_20_ FR_h54 e_h58
  clear h54
  refine WX.s1 rfl rfl ?_
  refine WX.s1 rfl rfl ?_
  refine WX.s1 rfl rfl ?_
  refine WX.callC (vs := [.ref (k + 21), .int 52, .int 9]) rfl rfl rfl (Nat.le_of_ble_eq_true rfl) (rcv_ok (ltk (a := 21) (c := 22) (by decide)) F_h58__k_21_) ?_
  refine n_share_52_9 (k := k + 21) (bigk (k := k) (a := 29) hbig (by decide)) F_h58__k_21_ (fun h66 fr66 cs66 => ?_)
  have F_h66_k : h66 k = .inr (9, [.ref (k + 1), .ref (k + 3), .ref (k + 7), .ref (k + 14), .null, .null]) := (fr66 k (Or.inl (ltk0 (c := 21) (by decide)))).trans F_h58_k
  have F_h66__k_1_ : h66 (k + 1) = .inr (7, [.ref (k + 2), .int 0, .int 0, .long 0, .int 0]) := (fr66 (k + 1) (Or.inl (ltk (a := 1) (c := 21) (by decide)))).trans F_h58__k_1_
  have F_h66__k_2_ : h66 (k + 2) = .inl (0, 0, .inl (fun _ => 0)) := (fr66 (k + 2) (Or.inl (ltk (a := 2) (c := 21) (by decide)))).trans F_h58__k_2_
  have F_h66__k_3_ : h66 (k + 3) = .inr (0, [.ref (k + 4), .ref (k + 5), .ref (k + 6), .int 0, .int 0]) := (fr66 (k + 3) (Or.inl (ltk (a := 3) (c := 21) (by decide)))).trans F_h58__k_3_
  have F_h66__k_4_ : h66 (k + 4) = .inl (1, 256, .inl (fun _ => 0)) := (fr66 (k + 4) (Or.inl (ltk (a := 4) (c := 21) (by decide)))).trans F_h58__k_4_
  have F_h66__k_5_ : h66 (k + 5) = .inl (1, 256, .inl (fun _ => 0)) := (fr66 (k + 5) (Or.inl (ltk (a := 5) (c := 21) (by decide)))).trans F_h58__k_5_
  have F_h66__k_6_ : h66 (k + 6) = .inl (1, 13, .inl (fun _ => 0)) := (fr66 (k + 6) (Or.inl (ltk (a := 6) (c := 21) (by decide)))).trans F_h58__k_6_
  have F_h66__k_7_ : h66 (k + 7) = .inr (8, [.int 35, .ref (k + 8), .ref (k + 9), .ref (k + 10), .ref (k + 11), .ref (k + 12), .ref (k + 13), .int 0, .int 0]) := (fr66 (k + 7) (Or.inl (ltk (a := 7) (c := 21) (by decide)))).trans F_h58__k_7_
  have F_h66__k_8_ : h66 (k + 8) = .inl (1, 36, .inl (fun _ => 0)) := (fr66 (k + 8) (Or.inl (ltk (a := 8) (c := 21) (by decide)))).trans F_h58__k_8_
  have F_h66__k_9_ : h66 (k + 9) = .inl (1, 36, .inl (fun _ => 0)) := (fr66 (k + 9) (Or.inl (ltk (a := 9) (c := 21) (by decide)))).trans F_h58__k_9_
  have F_h66__k_10_ : h66 (k + 10) = .inl (1, 36, .inl (fun _ => 0)) := (fr66 (k + 10) (Or.inl (ltk (a := 10) (c := 21) (by decide)))).trans F_h58__k_10_
  have F_h66__k_11_ : h66 (k + 11) = .inl (1, 36, .inl (fun _ => 0)) := (fr66 (k + 11) (Or.inl (ltk (a := 11) (c := 21) (by decide)))).trans F_h58__k_11_
  have F_h66__k_12_ : h66 (k + 12) = .inl (1, 512, .inl (fun _ => 0)) := (fr66 (k + 12) (Or.inl (ltk (a := 12) (c := 21) (by decide)))).trans F_h58__k_12_
  have F_h66__k_13_ : h66 (k + 13) = .inl (1, 512, .inl (fun _ => 0)) := (fr66 (k + 13) (Or.inl (ltk (a := 13) (c := 21) (by decide)))).trans F_h58__k_13_
  have F_h66__k_14_ : h66 (k + 14) = .inr (8, [.int 31, .ref (k + 15), .ref (k + 16), .ref (k + 17), .ref (k + 18), .ref (k + 19), .ref (k + 20), .int 0, .int 0]) := (fr66 (k + 14) (Or.inl (ltk (a := 14) (c := 21) (by decide)))).trans F_h58__k_14_
  have F_h66__k_15_ : h66 (k + 15) = .inl (1, 32, .inl (fun _ => 0)) := (fr66 (k + 15) (Or.inl (ltk (a := 15) (c := 21) (by decide)))).trans F_h58__k_15_
  have F_h66__k_16_ : h66 (k + 16) = .inl (1, 32, .inl (fun _ => 0)) := (fr66 (k + 16) (Or.inl (ltk (a := 16) (c := 21) (by decide)))).trans F_h58__k_16_
  have F_h66__k_17_ : h66 (k + 17) = .inl (1, 32, .inl (fun _ => 0)) := (fr66 (k + 17) (Or.inl (ltk (a := 17) (c := 21) (by decide)))).trans F_h58__k_17_
  have F_h66__k_18_ : h66 (k + 18) = .inl (1, 32, .inl (fun _ => 0)) := (fr66 (k + 18) (Or.inl (ltk (a := 18) (c := 21) (by decide)))).trans F_h58__k_18_
  have F_h66__k_19_ : h66 (k + 19) = .inl (1, 256, .inl (fun _ => 0)) := (fr66 (k + 19) (Or.inl (ltk (a := 19) (c := 21) (by decide)))).trans F_h58__k_19_
  have F_h66__k_20_ : h66 (k + 20) = .inl (1, 256, .inl (fun _ => 0)) := (fr66 (k + 20) (Or.inl (ltk (a := 20) (c := 21) (by decide)))).trans F_h58__k_20_
  have F_h66__k_21_ : h66 (k + 21) = .inr (8, [.int 52, .ref (k + 22), .ref (k + 23), .ref (k + 24), .ref (k + 25), .ref (k + 26), .ref (k + 27), .int 0, .int 0]) := cs66.1
  have F_h66__k_22_ : h66 (k + 22) = .inl (1, 53, .inl (fun _ => 0)) := cs66.2.1
  have F_h66__k_23_ : h66 (k + 23) = .inl (1, 53, .inl (fun _ => 0)) := cs66.2.2.1
  have F_h66__k_24_ : h66 (k + 24) = .inl (1, 53, .inl (fun _ => 0)) := cs66.2.2.2.1
  have F_h66__k_25_ : h66 (k + 25) = .inl (1, 53, .inl (fun _ => 0)) := cs66.2.2.2.2.1
  have F_h66__k_26_ : h66 (k + 26) = .inl (1, 512, .inl (fun _ => 0)) := cs66.2.2.2.2.2.1
  have F_h66__k_27_ : h66 (k + 27) = .inl (1, 512, .inl (fun _ => 0)) := cs66.2.2.2.2.2.2.1
  have FR_h66 : ∀ j, j < k ∨ aBig ≤ j → h66 j = h j := fun j hj => (fr66 j (hj.imp (fun z => Nat.lt_of_lt_of_le z (Nat.le_add_right _ _)) (fun z => z))).trans (FR_h58 j hj)
  clear F_h58_k F_h58__k_1_ F_h58__k_2_ F_h58__k_3_ F_h58__k_4_ F_h58__k_5_ F_h58__k_6_ F_h58__k_7_ F_h58__k_8_ F_h58__k_9_ F_h58__k_10_ F_h58__k_11_ F_h58__k_12_ F_h58__k_13_ F_h58__k_14_ F_h58__k_15_ F_h58__k_16_ F_h58__k_17_ F_h58__k_18_ F_h58__k_19_ F_h58__k_20_ F_h58__k_21_ FR_h58 fr66 cs66
  clear h58
  show WX _ _ _ 69 [(0, .ref k)] [.ref (k + 21), .ref k] (k + 28, s + 5 + 0 + 5 + 525 + 9 + 1168 + 9 + 640 + 9 + 1236, h66)
  refine WX.put1 (fs := [.ref (k + 1), .ref (k + 3), .ref (k + 7), .ref (k + 14), .null, .null]) (fs' := [.ref (k + 1), .ref (k + 3), .ref (k + 7), .ref (k + 14), .ref (k + 21), .null]) rfl (ltk0 (c := 28) (by decide)) (F_h66_k) (Nat.le_of_ble_eq_true rfl) (rfl) rfl (fun h69 e_h69 => ?_)
  have F_h69_k : h69 k = .inr (9, [.ref (k + 1), .ref (k + 3), .ref (k + 7), .ref (k + 14), .ref (k + 21), .null]) := by rw [e_h69]; exact va_up_eq
  have F_h69__k_1_ : h69 (k + 1) = .inr (7, [.ref (k + 2), .int 0, .int 0, .long 0, .int 0]) := by rw [e_h69, va_up_neq (nek0 (a := 1) (by decide))]; exact F_h66__k_1_
  have F_h69__k_2_ : h69 (k + 2) = .inl (0, 0, .inl (fun _ => 0)) := by rw [e_h69, va_up_neq (nek0 (a := 2) (by decide))]; exact F_h66__k_2_
  have F_h69__k_3_ : h69 (k + 3) = .inr (0, [.ref (k + 4), .ref (k + 5), .ref (k + 6), .int 0, .int 0]) := by rw [e_h69, va_up_neq (nek0 (a := 3) (by decide))]; exact F_h66__k_3_
  have F_h69__k_4_ : h69 (k + 4) = .inl (1, 256, .inl (fun _ => 0)) := by rw [e_h69, va_up_neq (nek0 (a := 4) (by decide))]; exact F_h66__k_4_
  have F_h69__k_5_ : h69 (k + 5) = .inl (1, 256, .inl (fun _ => 0)) := by rw [e_h69, va_up_neq (nek0 (a := 5) (by decide))]; exact F_h66__k_5_
  have F_h69__k_6_ : h69 (k + 6) = .inl (1, 13, .inl (fun _ => 0)) := by rw [e_h69, va_up_neq (nek0 (a := 6) (by decide))]; exact F_h66__k_6_
  have F_h69__k_7_ : h69 (k + 7) = .inr (8, [.int 35, .ref (k + 8), .ref (k + 9), .ref (k + 10), .ref (k + 11), .ref (k + 12), .ref (k + 13), .int 0, .int 0]) := by rw [e_h69, va_up_neq (nek0 (a := 7) (by decide))]; exact F_h66__k_7_
  have F_h69__k_8_ : h69 (k + 8) = .inl (1, 36, .inl (fun _ => 0)) := by rw [e_h69, va_up_neq (nek0 (a := 8) (by decide))]; exact F_h66__k_8_
  have F_h69__k_9_ : h69 (k + 9) = .inl (1, 36, .inl (fun _ => 0)) := by rw [e_h69, va_up_neq (nek0 (a := 9) (by decide))]; exact F_h66__k_9_
  have F_h69__k_10_ : h69 (k + 10) = .inl (1, 36, .inl (fun _ => 0)) := by rw [e_h69, va_up_neq (nek0 (a := 10) (by decide))]; exact F_h66__k_10_
  have F_h69__k_11_ : h69 (k + 11) = .inl (1, 36, .inl (fun _ => 0)) := by rw [e_h69, va_up_neq (nek0 (a := 11) (by decide))]; exact F_h66__k_11_
  have F_h69__k_12_ : h69 (k + 12) = .inl (1, 512, .inl (fun _ => 0)) := by rw [e_h69, va_up_neq (nek0 (a := 12) (by decide))]; exact F_h66__k_12_
  have F_h69__k_13_ : h69 (k + 13) = .inl (1, 512, .inl (fun _ => 0)) := by rw [e_h69, va_up_neq (nek0 (a := 13) (by decide))]; exact F_h66__k_13_
  have F_h69__k_14_ : h69 (k + 14) = .inr (8, [.int 31, .ref (k + 15), .ref (k + 16), .ref (k + 17), .ref (k + 18), .ref (k + 19), .ref (k + 20), .int 0, .int 0]) := by rw [e_h69, va_up_neq (nek0 (a := 14) (by decide))]; exact F_h66__k_14_
  have F_h69__k_15_ : h69 (k + 15) = .inl (1, 32, .inl (fun _ => 0)) := by rw [e_h69, va_up_neq (nek0 (a := 15) (by decide))]; exact F_h66__k_15_
  have F_h69__k_16_ : h69 (k + 16) = .inl (1, 32, .inl (fun _ => 0)) := by rw [e_h69, va_up_neq (nek0 (a := 16) (by decide))]; exact F_h66__k_16_
  have F_h69__k_17_ : h69 (k + 17) = .inl (1, 32, .inl (fun _ => 0)) := by rw [e_h69, va_up_neq (nek0 (a := 17) (by decide))]; exact F_h66__k_17_
  have F_h69__k_18_ : h69 (k + 18) = .inl (1, 32, .inl (fun _ => 0)) := by rw [e_h69, va_up_neq (nek0 (a := 18) (by decide))]; exact F_h66__k_18_
  have F_h69__k_19_ : h69 (k + 19) = .inl (1, 256, .inl (fun _ => 0)) := by rw [e_h69, va_up_neq (nek0 (a := 19) (by decide))]; exact F_h66__k_19_
  have F_h69__k_20_ : h69 (k + 20) = .inl (1, 256, .inl (fun _ => 0)) := by rw [e_h69, va_up_neq (nek0 (a := 20) (by decide))]; exact F_h66__k_20_
  have F_h69__k_21_ : h69 (k + 21) = .inr (8, [.int 52, .ref (k + 22), .ref (k + 23), .ref (k + 24), .ref (k + 25), .ref (k + 26), .ref (k + 27), .int 0, .int 0]) := by rw [e_h69, va_up_neq (nek0 (a := 21) (by decide))]; exact F_h66__k_21_
  have F_h69__k_22_ : h69 (k + 22) = .inl (1, 53, .inl (fun _ => 0)) := by rw [e_h69, va_up_neq (nek0 (a := 22) (by decide))]; exact F_h66__k_22_
  have F_h69__k_23_ : h69 (k + 23) = .inl (1, 53, .inl (fun _ => 0)) := by rw [e_h69, va_up_neq (nek0 (a := 23) (by decide))]; exact F_h66__k_23_
  have F_h69__k_24_ : h69 (k + 24) = .inl (1, 53, .inl (fun _ => 0)) := by rw [e_h69, va_up_neq (nek0 (a := 24) (by decide))]; exact F_h66__k_24_
  have F_h69__k_25_ : h69 (k + 25) = .inl (1, 53, .inl (fun _ => 0)) := by rw [e_h69, va_up_neq (nek0 (a := 25) (by decide))]; exact F_h66__k_25_
  have F_h69__k_26_ : h69 (k + 26) = .inl (1, 512, .inl (fun _ => 0)) := by rw [e_h69, va_up_neq (nek0 (a := 26) (by decide))]; exact F_h66__k_26_
  have F_h69__k_27_ : h69 (k + 27) = .inl (1, 512, .inl (fun _ => 0)) := by rw [e_h69, va_up_neq (nek0 (a := 27) (by decide))]; exact F_h66__k_27_
  have FR_h69 : ∀ j, j < k ∨ aBig ≤ j → h69 j = h j := fun j hj => by rw [e_h69]; exact (va_up_neq (frne0 hj hbig)).trans (FR_h66 j hj)
  clear F_h66_k F_h66__k_1_ F_h66__k_2_ F_h66__k_3_ F_h66__k_4_ F_h66__k_5_ F_h66__k_6_ F_h66__k_7_ F_h66__k_8_ F_h66__k_9_ F_h66__k_10_ F_h66__k_11_ F_h66__k_12_ F_h66__k_13_ F_h66__k_14_ F_h66__k_15_ F_h66__k_16_ F_h66__k_17_ F_h66__k_18_ F_h66__k_19_ F_h66__k_20_ F_h66__k_21_ F_h66__k_22_ F_h66__k_23_ F_h66__k_24_ F_h66__k_25_ F_h66__k_26_ F_h66__k_27_ FR_h66 e_h69
  clear h66
  refine WX.s1 rfl rfl ?_
  refine WX.s1 rfl rfl ?_
  refine WX.newaN (N := 3) (z0 := .inl (fun _ => 0)) rfl (by decide) (by decide) (bigk (k := k) (a := 29) hbig (by decide)) rfl (fun h74 e_h74 => ?_)
  have F_h74_k : h74 k = .inr (9, [.ref (k + 1), .ref (k + 3), .ref (k + 7), .ref (k + 14), .ref (k + 21), .null]) := by rw [e_h74, va_up_neq (nek1 (a := 28) (by decide))]; exact F_h69_k
  have F_h74__k_1_ : h74 (k + 1) = .inr (7, [.ref (k + 2), .int 0, .int 0, .long 0, .int 0]) := by rw [e_h74, va_up_neq (nek (a := 1) (b := 28) (by decide))]; exact F_h69__k_1_
  have F_h74__k_2_ : h74 (k + 2) = .inl (0, 0, .inl (fun _ => 0)) := by rw [e_h74, va_up_neq (nek (a := 2) (b := 28) (by decide))]; exact F_h69__k_2_
  have F_h74__k_3_ : h74 (k + 3) = .inr (0, [.ref (k + 4), .ref (k + 5), .ref (k + 6), .int 0, .int 0]) := by rw [e_h74, va_up_neq (nek (a := 3) (b := 28) (by decide))]; exact F_h69__k_3_
  have F_h74__k_4_ : h74 (k + 4) = .inl (1, 256, .inl (fun _ => 0)) := by rw [e_h74, va_up_neq (nek (a := 4) (b := 28) (by decide))]; exact F_h69__k_4_
  have F_h74__k_5_ : h74 (k + 5) = .inl (1, 256, .inl (fun _ => 0)) := by rw [e_h74, va_up_neq (nek (a := 5) (b := 28) (by decide))]; exact F_h69__k_5_
  have F_h74__k_6_ : h74 (k + 6) = .inl (1, 13, .inl (fun _ => 0)) := by rw [e_h74, va_up_neq (nek (a := 6) (b := 28) (by decide))]; exact F_h69__k_6_
  have F_h74__k_7_ : h74 (k + 7) = .inr (8, [.int 35, .ref (k + 8), .ref (k + 9), .ref (k + 10), .ref (k + 11), .ref (k + 12), .ref (k + 13), .int 0, .int 0]) := by rw [e_h74, va_up_neq (nek (a := 7) (b := 28) (by decide))]; exact F_h69__k_7_
  have F_h74__k_8_ : h74 (k + 8) = .inl (1, 36, .inl (fun _ => 0)) := by rw [e_h74, va_up_neq (nek (a := 8) (b := 28) (by decide))]; exact F_h69__k_8_
  have F_h74__k_9_ : h74 (k + 9) = .inl (1, 36, .inl (fun _ => 0)) := by rw [e_h74, va_up_neq (nek (a := 9) (b := 28) (by decide))]; exact F_h69__k_9_
  have F_h74__k_10_ : h74 (k + 10) = .inl (1, 36, .inl (fun _ => 0)) := by rw [e_h74, va_up_neq (nek (a := 10) (b := 28) (by decide))]; exact F_h69__k_10_
  have F_h74__k_11_ : h74 (k + 11) = .inl (1, 36, .inl (fun _ => 0)) := by rw [e_h74, va_up_neq (nek (a := 11) (b := 28) (by decide))]; exact F_h69__k_11_
  have F_h74__k_12_ : h74 (k + 12) = .inl (1, 512, .inl (fun _ => 0)) := by rw [e_h74, va_up_neq (nek (a := 12) (b := 28) (by decide))]; exact F_h69__k_12_
  have F_h74__k_13_ : h74 (k + 13) = .inl (1, 512, .inl (fun _ => 0)) := by rw [e_h74, va_up_neq (nek (a := 13) (b := 28) (by decide))]; exact F_h69__k_13_
  have F_h74__k_14_ : h74 (k + 14) = .inr (8, [.int 31, .ref (k + 15), .ref (k + 16), .ref (k + 17), .ref (k + 18), .ref (k + 19), .ref (k + 20), .int 0, .int 0]) := by rw [e_h74, va_up_neq (nek (a := 14) (b := 28) (by decide))]; exact F_h69__k_14_
  have F_h74__k_15_ : h74 (k + 15) = .inl (1, 32, .inl (fun _ => 0)) := by rw [e_h74, va_up_neq (nek (a := 15) (b := 28) (by decide))]; exact F_h69__k_15_
  have F_h74__k_16_ : h74 (k + 16) = .inl (1, 32, .inl (fun _ => 0)) := by rw [e_h74, va_up_neq (nek (a := 16) (b := 28) (by decide))]; exact F_h69__k_16_
  have F_h74__k_17_ : h74 (k + 17) = .inl (1, 32, .inl (fun _ => 0)) := by rw [e_h74, va_up_neq (nek (a := 17) (b := 28) (by decide))]; exact F_h69__k_17_
  have F_h74__k_18_ : h74 (k + 18) = .inl (1, 32, .inl (fun _ => 0)) := by rw [e_h74, va_up_neq (nek (a := 18) (b := 28) (by decide))]; exact F_h69__k_18_
  have F_h74__k_19_ : h74 (k + 19) = .inl (1, 256, .inl (fun _ => 0)) := by rw [e_h74, va_up_neq (nek (a := 19) (b := 28) (by decide))]; exact F_h69__k_19_
  have F_h74__k_20_ : h74 (k + 20) = .inl (1, 256, .inl (fun _ => 0)) := by rw [e_h74, va_up_neq (nek (a := 20) (b := 28) (by decide))]; exact F_h69__k_20_
  have F_h74__k_21_ : h74 (k + 21) = .inr (8, [.int 52, .ref (k + 22), .ref (k + 23), .ref (k + 24), .ref (k + 25), .ref (k + 26), .ref (k + 27), .int 0, .int 0]) := by rw [e_h74, va_up_neq (nek (a := 21) (b := 28) (by decide))]; exact F_h69__k_21_
  have F_h74__k_22_ : h74 (k + 22) = .inl (1, 53, .inl (fun _ => 0)) := by rw [e_h74, va_up_neq (nek (a := 22) (b := 28) (by decide))]; exact F_h69__k_22_
  have F_h74__k_23_ : h74 (k + 23) = .inl (1, 53, .inl (fun _ => 0)) := by rw [e_h74, va_up_neq (nek (a := 23) (b := 28) (by decide))]; exact F_h69__k_23_
  have F_h74__k_24_ : h74 (k + 24) = .inl (1, 53, .inl (fun _ => 0)) := by rw [e_h74, va_up_neq (nek (a := 24) (b := 28) (by decide))]; exact F_h69__k_24_
  have F_h74__k_25_ : h74 (k + 25) = .inl (1, 53, .inl (fun _ => 0)) := by rw [e_h74, va_up_neq (nek (a := 25) (b := 28) (by decide))]; exact F_h69__k_25_
  have F_h74__k_26_ : h74 (k + 26) = .inl (1, 512, .inl (fun _ => 0)) := by rw [e_h74, va_up_neq (nek (a := 26) (b := 28) (by decide))]; exact F_h69__k_26_
  have F_h74__k_27_ : h74 (k + 27) = .inl (1, 512, .inl (fun _ => 0)) := by rw [e_h74, va_up_neq (nek (a := 27) (b := 28) (by decide))]; exact F_h69__k_27_
  have F_h74__k_28_ : h74 (k + 28) = .inl (1, 3, .inl (fun _ => 0)) := by rw [e_h74]; exact va_up_eq
  have FR_h74 : ∀ j, j < k ∨ aBig ≤ j → h74 j = h j := fun j hj => by rw [e_h74]; exact (va_up_neq (frne (a := 28) hj hbig (by decide))).trans (FR_h69 j hj)
  clear F_h69_k F_h69__k_1_ F_h69__k_2_ F_h69__k_3_ F_h69__k_4_ F_h69__k_5_ F_h69__k_6_ F_h69__k_7_ F_h69__k_8_ F_h69__k_9_ F_h69__k_10_ F_h69__k_11_ F_h69__k_12_ F_h69__k_13_ F_h69__k_14_ F_h69__k_15_ F_h69__k_16_ F_h69__k_17_ F_h69__k_18_ F_h69__k_19_ F_h69__k_20_ F_h69__k_21_ F_h69__k_22_ F_h69__k_23_ F_h69__k_24_ F_h69__k_25_ F_h69__k_26_ F_h69__k_27_ FR_h69 e_h74
  clear h69
  refine WX.s1 rfl rfl ?_
  refine WX.s1 rfl rfl ?_
  refine WX.s1 rfl rfl ?_
  refine WX.iastN rfl (ltk (a := 28) (c := 29) (by decide)) (F_h74__k_28_) ((show ¬ ((0 : Int32) < 0 ∨ 3 ≤ (0 : Int32).toNatClampNeg) by decide)) (fun g79 h79 e_g79 e_h79 => ?_)
  try dsimp only at e_g79
  have F_h79_k : h79 k = .inr (9, [.ref (k + 1), .ref (k + 3), .ref (k + 7), .ref (k + 14), .ref (k + 21), .null]) := by rw [e_h79, va_up_neq (nek1 (a := 28) (by decide))]; exact F_h74_k
  have F_h79__k_1_ : h79 (k + 1) = .inr (7, [.ref (k + 2), .int 0, .int 0, .long 0, .int 0]) := by rw [e_h79, va_up_neq (nek (a := 1) (b := 28) (by decide))]; exact F_h74__k_1_
  have F_h79__k_2_ : h79 (k + 2) = .inl (0, 0, .inl (fun _ => 0)) := by rw [e_h79, va_up_neq (nek (a := 2) (b := 28) (by decide))]; exact F_h74__k_2_
  have F_h79__k_3_ : h79 (k + 3) = .inr (0, [.ref (k + 4), .ref (k + 5), .ref (k + 6), .int 0, .int 0]) := by rw [e_h79, va_up_neq (nek (a := 3) (b := 28) (by decide))]; exact F_h74__k_3_
  have F_h79__k_4_ : h79 (k + 4) = .inl (1, 256, .inl (fun _ => 0)) := by rw [e_h79, va_up_neq (nek (a := 4) (b := 28) (by decide))]; exact F_h74__k_4_
  have F_h79__k_5_ : h79 (k + 5) = .inl (1, 256, .inl (fun _ => 0)) := by rw [e_h79, va_up_neq (nek (a := 5) (b := 28) (by decide))]; exact F_h74__k_5_
  have F_h79__k_6_ : h79 (k + 6) = .inl (1, 13, .inl (fun _ => 0)) := by rw [e_h79, va_up_neq (nek (a := 6) (b := 28) (by decide))]; exact F_h74__k_6_
  have F_h79__k_7_ : h79 (k + 7) = .inr (8, [.int 35, .ref (k + 8), .ref (k + 9), .ref (k + 10), .ref (k + 11), .ref (k + 12), .ref (k + 13), .int 0, .int 0]) := by rw [e_h79, va_up_neq (nek (a := 7) (b := 28) (by decide))]; exact F_h74__k_7_
  have F_h79__k_8_ : h79 (k + 8) = .inl (1, 36, .inl (fun _ => 0)) := by rw [e_h79, va_up_neq (nek (a := 8) (b := 28) (by decide))]; exact F_h74__k_8_
  have F_h79__k_9_ : h79 (k + 9) = .inl (1, 36, .inl (fun _ => 0)) := by rw [e_h79, va_up_neq (nek (a := 9) (b := 28) (by decide))]; exact F_h74__k_9_
  have F_h79__k_10_ : h79 (k + 10) = .inl (1, 36, .inl (fun _ => 0)) := by rw [e_h79, va_up_neq (nek (a := 10) (b := 28) (by decide))]; exact F_h74__k_10_
  have F_h79__k_11_ : h79 (k + 11) = .inl (1, 36, .inl (fun _ => 0)) := by rw [e_h79, va_up_neq (nek (a := 11) (b := 28) (by decide))]; exact F_h74__k_11_
  have F_h79__k_12_ : h79 (k + 12) = .inl (1, 512, .inl (fun _ => 0)) := by rw [e_h79, va_up_neq (nek (a := 12) (b := 28) (by decide))]; exact F_h74__k_12_
  have F_h79__k_13_ : h79 (k + 13) = .inl (1, 512, .inl (fun _ => 0)) := by rw [e_h79, va_up_neq (nek (a := 13) (b := 28) (by decide))]; exact F_h74__k_13_
  have F_h79__k_14_ : h79 (k + 14) = .inr (8, [.int 31, .ref (k + 15), .ref (k + 16), .ref (k + 17), .ref (k + 18), .ref (k + 19), .ref (k + 20), .int 0, .int 0]) := by rw [e_h79, va_up_neq (nek (a := 14) (b := 28) (by decide))]; exact F_h74__k_14_
  have F_h79__k_15_ : h79 (k + 15) = .inl (1, 32, .inl (fun _ => 0)) := by rw [e_h79, va_up_neq (nek (a := 15) (b := 28) (by decide))]; exact F_h74__k_15_
  have F_h79__k_16_ : h79 (k + 16) = .inl (1, 32, .inl (fun _ => 0)) := by rw [e_h79, va_up_neq (nek (a := 16) (b := 28) (by decide))]; exact F_h74__k_16_
  have F_h79__k_17_ : h79 (k + 17) = .inl (1, 32, .inl (fun _ => 0)) := by rw [e_h79, va_up_neq (nek (a := 17) (b := 28) (by decide))]; exact F_h74__k_17_
  have F_h79__k_18_ : h79 (k + 18) = .inl (1, 32, .inl (fun _ => 0)) := by rw [e_h79, va_up_neq (nek (a := 18) (b := 28) (by decide))]; exact F_h74__k_18_
  have F_h79__k_19_ : h79 (k + 19) = .inl (1, 256, .inl (fun _ => 0)) := by rw [e_h79, va_up_neq (nek (a := 19) (b := 28) (by decide))]; exact F_h74__k_19_
  have F_h79__k_20_ : h79 (k + 20) = .inl (1, 256, .inl (fun _ => 0)) := by rw [e_h79, va_up_neq (nek (a := 20) (b := 28) (by decide))]; exact F_h74__k_20_
  have F_h79__k_21_ : h79 (k + 21) = .inr (8, [.int 52, .ref (k + 22), .ref (k + 23), .ref (k + 24), .ref (k + 25), .ref (k + 26), .ref (k + 27), .int 0, .int 0]) := by rw [e_h79, va_up_neq (nek (a := 21) (b := 28) (by decide))]; exact F_h74__k_21_
  have F_h79__k_22_ : h79 (k + 22) = .inl (1, 53, .inl (fun _ => 0)) := by rw [e_h79, va_up_neq (nek (a := 22) (b := 28) (by decide))]; exact F_h74__k_22_
  have F_h79__k_23_ : h79 (k + 23) = .inl (1, 53, .inl (fun _ => 0)) := by rw [e_h79, va_up_neq (nek (a := 23) (b := 28) (by decide))]; exact F_h74__k_23_
  have F_h79__k_24_ : h79 (k + 24) = .inl (1, 53, .inl (fun _ => 0)) := by rw [e_h79, va_up_neq (nek (a := 24) (b := 28) (by decide))]; exact F_h74__k_24_
  have F_h79__k_25_ : h79 (k + 25) = .inl (1, 53, .inl (fun _ => 0)) := by rw [e_h79, va_up_neq (nek (a := 25) (b := 28) (by decide))]; exact F_h74__k_25_
  have F_h79__k_26_ : h79 (k + 26) = .inl (1, 512, .inl (fun _ => 0)) := by rw [e_h79, va_up_neq (nek (a := 26) (b := 28) (by decide))]; exact F_h74__k_26_
  have F_h79__k_27_ : h79 (k + 27) = .inl (1, 512, .inl (fun _ => 0)) := by rw [e_h79, va_up_neq (nek (a := 27) (b := 28) (by decide))]; exact F_h74__k_27_
  have F_h79__k_28_ : h79 (k + 28) = .inl (1, 3, .inl g79) := by rw [e_h79]; exact va_up_eq
  have FR_h79 : ∀ j, j < k ∨ aBig ≤ j → h79 j = h j := fun j hj => by rw [e_h79]; exact (va_up_neq (frne (a := 28) hj hbig (by decide))).trans (FR_h74 j hj)
  clear F_h74_k F_h74__k_1_ F_h74__k_2_ F_h74__k_3_ F_h74__k_4_ F_h74__k_5_ F_h74__k_6_ F_h74__k_7_ F_h74__k_8_ F_h74__k_9_ F_h74__k_10_ F_h74__k_11_ F_h74__k_12_ F_h74__k_13_ F_h74__k_14_ F_h74__k_15_ F_h74__k_16_ F_h74__k_17_ F_h74__k_18_ F_h74__k_19_ F_h74__k_20_ F_h74__k_21_ F_h74__k_22_ F_h74__k_23_ F_h74__k_24_ F_h74__k_25_ F_h74__k_26_ F_h74__k_27_ F_h74__k_28_ FR_h74 e_h79
  clear h74
  refine WX.s1 rfl rfl ?_
  refine WX.s1 rfl rfl ?_
  refine WX.s1 rfl rfl ?_
  refine WX.iastN rfl (ltk (a := 28) (c := 29) (by decide)) (F_h79__k_28_) ((show ¬ ((1 : Int32) < 0 ∨ 3 ≤ (1 : Int32).toNatClampNeg) by decide)) (fun g83 h83 e_g83 e_h83 => ?_)
  try dsimp only at e_g83
  have F_h83_k : h83 k = .inr (9, [.ref (k + 1), .ref (k + 3), .ref (k + 7), .ref (k + 14), .ref (k + 21), .null]) := by rw [e_h83, va_up_neq (nek1 (a := 28) (by decide))]; exact F_h79_k
  have F_h83__k_1_ : h83 (k + 1) = .inr (7, [.ref (k + 2), .int 0, .int 0, .long 0, .int 0]) := by rw [e_h83, va_up_neq (nek (a := 1) (b := 28) (by decide))]; exact F_h79__k_1_
  have F_h83__k_2_ : h83 (k + 2) = .inl (0, 0, .inl (fun _ => 0)) := by rw [e_h83, va_up_neq (nek (a := 2) (b := 28) (by decide))]; exact F_h79__k_2_
  have F_h83__k_3_ : h83 (k + 3) = .inr (0, [.ref (k + 4), .ref (k + 5), .ref (k + 6), .int 0, .int 0]) := by rw [e_h83, va_up_neq (nek (a := 3) (b := 28) (by decide))]; exact F_h79__k_3_
  have F_h83__k_4_ : h83 (k + 4) = .inl (1, 256, .inl (fun _ => 0)) := by rw [e_h83, va_up_neq (nek (a := 4) (b := 28) (by decide))]; exact F_h79__k_4_
  have F_h83__k_5_ : h83 (k + 5) = .inl (1, 256, .inl (fun _ => 0)) := by rw [e_h83, va_up_neq (nek (a := 5) (b := 28) (by decide))]; exact F_h79__k_5_
  have F_h83__k_6_ : h83 (k + 6) = .inl (1, 13, .inl (fun _ => 0)) := by rw [e_h83, va_up_neq (nek (a := 6) (b := 28) (by decide))]; exact F_h79__k_6_
  have F_h83__k_7_ : h83 (k + 7) = .inr (8, [.int 35, .ref (k + 8), .ref (k + 9), .ref (k + 10), .ref (k + 11), .ref (k + 12), .ref (k + 13), .int 0, .int 0]) := by rw [e_h83, va_up_neq (nek (a := 7) (b := 28) (by decide))]; exact F_h79__k_7_
  have F_h83__k_8_ : h83 (k + 8) = .inl (1, 36, .inl (fun _ => 0)) := by rw [e_h83, va_up_neq (nek (a := 8) (b := 28) (by decide))]; exact F_h79__k_8_
  have F_h83__k_9_ : h83 (k + 9) = .inl (1, 36, .inl (fun _ => 0)) := by rw [e_h83, va_up_neq (nek (a := 9) (b := 28) (by decide))]; exact F_h79__k_9_
  have F_h83__k_10_ : h83 (k + 10) = .inl (1, 36, .inl (fun _ => 0)) := by rw [e_h83, va_up_neq (nek (a := 10) (b := 28) (by decide))]; exact F_h79__k_10_
  have F_h83__k_11_ : h83 (k + 11) = .inl (1, 36, .inl (fun _ => 0)) := by rw [e_h83, va_up_neq (nek (a := 11) (b := 28) (by decide))]; exact F_h79__k_11_
  have F_h83__k_12_ : h83 (k + 12) = .inl (1, 512, .inl (fun _ => 0)) := by rw [e_h83, va_up_neq (nek (a := 12) (b := 28) (by decide))]; exact F_h79__k_12_
  have F_h83__k_13_ : h83 (k + 13) = .inl (1, 512, .inl (fun _ => 0)) := by rw [e_h83, va_up_neq (nek (a := 13) (b := 28) (by decide))]; exact F_h79__k_13_
  have F_h83__k_14_ : h83 (k + 14) = .inr (8, [.int 31, .ref (k + 15), .ref (k + 16), .ref (k + 17), .ref (k + 18), .ref (k + 19), .ref (k + 20), .int 0, .int 0]) := by rw [e_h83, va_up_neq (nek (a := 14) (b := 28) (by decide))]; exact F_h79__k_14_
  have F_h83__k_15_ : h83 (k + 15) = .inl (1, 32, .inl (fun _ => 0)) := by rw [e_h83, va_up_neq (nek (a := 15) (b := 28) (by decide))]; exact F_h79__k_15_
  have F_h83__k_16_ : h83 (k + 16) = .inl (1, 32, .inl (fun _ => 0)) := by rw [e_h83, va_up_neq (nek (a := 16) (b := 28) (by decide))]; exact F_h79__k_16_
  have F_h83__k_17_ : h83 (k + 17) = .inl (1, 32, .inl (fun _ => 0)) := by rw [e_h83, va_up_neq (nek (a := 17) (b := 28) (by decide))]; exact F_h79__k_17_
  have F_h83__k_18_ : h83 (k + 18) = .inl (1, 32, .inl (fun _ => 0)) := by rw [e_h83, va_up_neq (nek (a := 18) (b := 28) (by decide))]; exact F_h79__k_18_
  have F_h83__k_19_ : h83 (k + 19) = .inl (1, 256, .inl (fun _ => 0)) := by rw [e_h83, va_up_neq (nek (a := 19) (b := 28) (by decide))]; exact F_h79__k_19_
  have F_h83__k_20_ : h83 (k + 20) = .inl (1, 256, .inl (fun _ => 0)) := by rw [e_h83, va_up_neq (nek (a := 20) (b := 28) (by decide))]; exact F_h79__k_20_
  have F_h83__k_21_ : h83 (k + 21) = .inr (8, [.int 52, .ref (k + 22), .ref (k + 23), .ref (k + 24), .ref (k + 25), .ref (k + 26), .ref (k + 27), .int 0, .int 0]) := by rw [e_h83, va_up_neq (nek (a := 21) (b := 28) (by decide))]; exact F_h79__k_21_
  have F_h83__k_22_ : h83 (k + 22) = .inl (1, 53, .inl (fun _ => 0)) := by rw [e_h83, va_up_neq (nek (a := 22) (b := 28) (by decide))]; exact F_h79__k_22_
  have F_h83__k_23_ : h83 (k + 23) = .inl (1, 53, .inl (fun _ => 0)) := by rw [e_h83, va_up_neq (nek (a := 23) (b := 28) (by decide))]; exact F_h79__k_23_
  have F_h83__k_24_ : h83 (k + 24) = .inl (1, 53, .inl (fun _ => 0)) := by rw [e_h83, va_up_neq (nek (a := 24) (b := 28) (by decide))]; exact F_h79__k_24_
  have F_h83__k_25_ : h83 (k + 25) = .inl (1, 53, .inl (fun _ => 0)) := by rw [e_h83, va_up_neq (nek (a := 25) (b := 28) (by decide))]; exact F_h79__k_25_
  have F_h83__k_26_ : h83 (k + 26) = .inl (1, 512, .inl (fun _ => 0)) := by rw [e_h83, va_up_neq (nek (a := 26) (b := 28) (by decide))]; exact F_h79__k_26_
  have F_h83__k_27_ : h83 (k + 27) = .inl (1, 512, .inl (fun _ => 0)) := by rw [e_h83, va_up_neq (nek (a := 27) (b := 28) (by decide))]; exact F_h79__k_27_
  have F_h83__k_28_ : h83 (k + 28) = .inl (1, 3, .inl g83) := by rw [e_h83]; exact va_up_eq
  have FR_h83 : ∀ j, j < k ∨ aBig ≤ j → h83 j = h j := fun j hj => by rw [e_h83]; exact (va_up_neq (frne (a := 28) hj hbig (by decide))).trans (FR_h79 j hj)
  clear F_h79_k F_h79__k_1_ F_h79__k_2_ F_h79__k_3_ F_h79__k_4_ F_h79__k_5_ F_h79__k_6_ F_h79__k_7_ F_h79__k_8_ F_h79__k_9_ F_h79__k_10_ F_h79__k_11_ F_h79__k_12_ F_h79__k_13_ F_h79__k_14_ F_h79__k_15_ F_h79__k_16_ F_h79__k_17_ F_h79__k_18_ F_h79__k_19_ F_h79__k_20_ F_h79__k_21_ F_h79__k_22_ F_h79__k_23_ F_h79__k_24_ F_h79__k_25_ F_h79__k_26_ F_h79__k_27_ F_h79__k_28_ FR_h79 e_h83
  clear h79
  refine WX.s1 rfl rfl ?_
  refine WX.s1 rfl rfl ?_
  refine WX.s1 rfl rfl ?_
  refine WX.iastN rfl (ltk (a := 28) (c := 29) (by decide)) (F_h83__k_28_) ((show ¬ ((2 : Int32) < 0 ∨ 3 ≤ (2 : Int32).toNatClampNeg) by decide)) (fun g88 h88 e_g88 e_h88 => ?_)
  try dsimp only at e_g88
  have F_h88_k : h88 k = .inr (9, [.ref (k + 1), .ref (k + 3), .ref (k + 7), .ref (k + 14), .ref (k + 21), .null]) := by rw [e_h88, va_up_neq (nek1 (a := 28) (by decide))]; exact F_h83_k
  have F_h88__k_1_ : h88 (k + 1) = .inr (7, [.ref (k + 2), .int 0, .int 0, .long 0, .int 0]) := by rw [e_h88, va_up_neq (nek (a := 1) (b := 28) (by decide))]; exact F_h83__k_1_
  have F_h88__k_2_ : h88 (k + 2) = .inl (0, 0, .inl (fun _ => 0)) := by rw [e_h88, va_up_neq (nek (a := 2) (b := 28) (by decide))]; exact F_h83__k_2_
  have F_h88__k_3_ : h88 (k + 3) = .inr (0, [.ref (k + 4), .ref (k + 5), .ref (k + 6), .int 0, .int 0]) := by rw [e_h88, va_up_neq (nek (a := 3) (b := 28) (by decide))]; exact F_h83__k_3_
  have F_h88__k_4_ : h88 (k + 4) = .inl (1, 256, .inl (fun _ => 0)) := by rw [e_h88, va_up_neq (nek (a := 4) (b := 28) (by decide))]; exact F_h83__k_4_
  have F_h88__k_5_ : h88 (k + 5) = .inl (1, 256, .inl (fun _ => 0)) := by rw [e_h88, va_up_neq (nek (a := 5) (b := 28) (by decide))]; exact F_h83__k_5_
  have F_h88__k_6_ : h88 (k + 6) = .inl (1, 13, .inl (fun _ => 0)) := by rw [e_h88, va_up_neq (nek (a := 6) (b := 28) (by decide))]; exact F_h83__k_6_
  have F_h88__k_7_ : h88 (k + 7) = .inr (8, [.int 35, .ref (k + 8), .ref (k + 9), .ref (k + 10), .ref (k + 11), .ref (k + 12), .ref (k + 13), .int 0, .int 0]) := by rw [e_h88, va_up_neq (nek (a := 7) (b := 28) (by decide))]; exact F_h83__k_7_
  have F_h88__k_8_ : h88 (k + 8) = .inl (1, 36, .inl (fun _ => 0)) := by rw [e_h88, va_up_neq (nek (a := 8) (b := 28) (by decide))]; exact F_h83__k_8_
  have F_h88__k_9_ : h88 (k + 9) = .inl (1, 36, .inl (fun _ => 0)) := by rw [e_h88, va_up_neq (nek (a := 9) (b := 28) (by decide))]; exact F_h83__k_9_
  have F_h88__k_10_ : h88 (k + 10) = .inl (1, 36, .inl (fun _ => 0)) := by rw [e_h88, va_up_neq (nek (a := 10) (b := 28) (by decide))]; exact F_h83__k_10_
  have F_h88__k_11_ : h88 (k + 11) = .inl (1, 36, .inl (fun _ => 0)) := by rw [e_h88, va_up_neq (nek (a := 11) (b := 28) (by decide))]; exact F_h83__k_11_
  have F_h88__k_12_ : h88 (k + 12) = .inl (1, 512, .inl (fun _ => 0)) := by rw [e_h88, va_up_neq (nek (a := 12) (b := 28) (by decide))]; exact F_h83__k_12_
  have F_h88__k_13_ : h88 (k + 13) = .inl (1, 512, .inl (fun _ => 0)) := by rw [e_h88, va_up_neq (nek (a := 13) (b := 28) (by decide))]; exact F_h83__k_13_
  have F_h88__k_14_ : h88 (k + 14) = .inr (8, [.int 31, .ref (k + 15), .ref (k + 16), .ref (k + 17), .ref (k + 18), .ref (k + 19), .ref (k + 20), .int 0, .int 0]) := by rw [e_h88, va_up_neq (nek (a := 14) (b := 28) (by decide))]; exact F_h83__k_14_
  have F_h88__k_15_ : h88 (k + 15) = .inl (1, 32, .inl (fun _ => 0)) := by rw [e_h88, va_up_neq (nek (a := 15) (b := 28) (by decide))]; exact F_h83__k_15_
  have F_h88__k_16_ : h88 (k + 16) = .inl (1, 32, .inl (fun _ => 0)) := by rw [e_h88, va_up_neq (nek (a := 16) (b := 28) (by decide))]; exact F_h83__k_16_
  have F_h88__k_17_ : h88 (k + 17) = .inl (1, 32, .inl (fun _ => 0)) := by rw [e_h88, va_up_neq (nek (a := 17) (b := 28) (by decide))]; exact F_h83__k_17_
  have F_h88__k_18_ : h88 (k + 18) = .inl (1, 32, .inl (fun _ => 0)) := by rw [e_h88, va_up_neq (nek (a := 18) (b := 28) (by decide))]; exact F_h83__k_18_
  have F_h88__k_19_ : h88 (k + 19) = .inl (1, 256, .inl (fun _ => 0)) := by rw [e_h88, va_up_neq (nek (a := 19) (b := 28) (by decide))]; exact F_h83__k_19_
  have F_h88__k_20_ : h88 (k + 20) = .inl (1, 256, .inl (fun _ => 0)) := by rw [e_h88, va_up_neq (nek (a := 20) (b := 28) (by decide))]; exact F_h83__k_20_
  have F_h88__k_21_ : h88 (k + 21) = .inr (8, [.int 52, .ref (k + 22), .ref (k + 23), .ref (k + 24), .ref (k + 25), .ref (k + 26), .ref (k + 27), .int 0, .int 0]) := by rw [e_h88, va_up_neq (nek (a := 21) (b := 28) (by decide))]; exact F_h83__k_21_
  have F_h88__k_22_ : h88 (k + 22) = .inl (1, 53, .inl (fun _ => 0)) := by rw [e_h88, va_up_neq (nek (a := 22) (b := 28) (by decide))]; exact F_h83__k_22_
  have F_h88__k_23_ : h88 (k + 23) = .inl (1, 53, .inl (fun _ => 0)) := by rw [e_h88, va_up_neq (nek (a := 23) (b := 28) (by decide))]; exact F_h83__k_23_
  have F_h88__k_24_ : h88 (k + 24) = .inl (1, 53, .inl (fun _ => 0)) := by rw [e_h88, va_up_neq (nek (a := 24) (b := 28) (by decide))]; exact F_h83__k_24_
  have F_h88__k_25_ : h88 (k + 25) = .inl (1, 53, .inl (fun _ => 0)) := by rw [e_h88, va_up_neq (nek (a := 25) (b := 28) (by decide))]; exact F_h83__k_25_
  have F_h88__k_26_ : h88 (k + 26) = .inl (1, 512, .inl (fun _ => 0)) := by rw [e_h88, va_up_neq (nek (a := 26) (b := 28) (by decide))]; exact F_h83__k_26_
  have F_h88__k_27_ : h88 (k + 27) = .inl (1, 512, .inl (fun _ => 0)) := by rw [e_h88, va_up_neq (nek (a := 27) (b := 28) (by decide))]; exact F_h83__k_27_
  have F_h88__k_28_ : h88 (k + 28) = .inl (1, 3, .inl g88) := by rw [e_h88]; exact va_up_eq
  have FR_h88 : ∀ j, j < k ∨ aBig ≤ j → h88 j = h j := fun j hj => by rw [e_h88]; exact (va_up_neq (frne (a := 28) hj hbig (by decide))).trans (FR_h83 j hj)
  clear F_h83_k F_h83__k_1_ F_h83__k_2_ F_h83__k_3_ F_h83__k_4_ F_h83__k_5_ F_h83__k_6_ F_h83__k_7_ F_h83__k_8_ F_h83__k_9_ F_h83__k_10_ F_h83__k_11_ F_h83__k_12_ F_h83__k_13_ F_h83__k_14_ F_h83__k_15_ F_h83__k_16_ F_h83__k_17_ F_h83__k_18_ F_h83__k_19_ F_h83__k_20_ F_h83__k_21_ F_h83__k_22_ F_h83__k_23_ F_h83__k_24_ F_h83__k_25_ F_h83__k_26_ F_h83__k_27_ F_h83__k_28_ FR_h83 e_h88
  clear h83
  have el : g88 = lat0 := by rw [e_g88, e_g83, e_g79]; rfl
  obtain rfl : g88 = lat0 := el
  refine WX.put1 (fs := [.ref (k + 1), .ref (k + 3), .ref (k + 7), .ref (k + 14), .ref (k + 21), .null]) (fs' := [.ref (k + 1), .ref (k + 3), .ref (k + 7), .ref (k + 14), .ref (k + 21), .ref (k + 28)]) rfl (ltk0 (c := 29) (by decide)) (F_h88_k) (Nat.le_of_ble_eq_true rfl) (rfl) rfl (fun h89 e_h89 => ?_)
  have F_h89_k : h89 k = .inr (9, [.ref (k + 1), .ref (k + 3), .ref (k + 7), .ref (k + 14), .ref (k + 21), .ref (k + 28)]) := by rw [e_h89]; exact va_up_eq
  have F_h89__k_1_ : h89 (k + 1) = .inr (7, [.ref (k + 2), .int 0, .int 0, .long 0, .int 0]) := by rw [e_h89, va_up_neq (nek0 (a := 1) (by decide))]; exact F_h88__k_1_
  have F_h89__k_2_ : h89 (k + 2) = .inl (0, 0, .inl (fun _ => 0)) := by rw [e_h89, va_up_neq (nek0 (a := 2) (by decide))]; exact F_h88__k_2_
  have F_h89__k_3_ : h89 (k + 3) = .inr (0, [.ref (k + 4), .ref (k + 5), .ref (k + 6), .int 0, .int 0]) := by rw [e_h89, va_up_neq (nek0 (a := 3) (by decide))]; exact F_h88__k_3_
  have F_h89__k_4_ : h89 (k + 4) = .inl (1, 256, .inl (fun _ => 0)) := by rw [e_h89, va_up_neq (nek0 (a := 4) (by decide))]; exact F_h88__k_4_
  have F_h89__k_5_ : h89 (k + 5) = .inl (1, 256, .inl (fun _ => 0)) := by rw [e_h89, va_up_neq (nek0 (a := 5) (by decide))]; exact F_h88__k_5_
  have F_h89__k_6_ : h89 (k + 6) = .inl (1, 13, .inl (fun _ => 0)) := by rw [e_h89, va_up_neq (nek0 (a := 6) (by decide))]; exact F_h88__k_6_
  have F_h89__k_7_ : h89 (k + 7) = .inr (8, [.int 35, .ref (k + 8), .ref (k + 9), .ref (k + 10), .ref (k + 11), .ref (k + 12), .ref (k + 13), .int 0, .int 0]) := by rw [e_h89, va_up_neq (nek0 (a := 7) (by decide))]; exact F_h88__k_7_
  have F_h89__k_8_ : h89 (k + 8) = .inl (1, 36, .inl (fun _ => 0)) := by rw [e_h89, va_up_neq (nek0 (a := 8) (by decide))]; exact F_h88__k_8_
  have F_h89__k_9_ : h89 (k + 9) = .inl (1, 36, .inl (fun _ => 0)) := by rw [e_h89, va_up_neq (nek0 (a := 9) (by decide))]; exact F_h88__k_9_
  have F_h89__k_10_ : h89 (k + 10) = .inl (1, 36, .inl (fun _ => 0)) := by rw [e_h89, va_up_neq (nek0 (a := 10) (by decide))]; exact F_h88__k_10_
  have F_h89__k_11_ : h89 (k + 11) = .inl (1, 36, .inl (fun _ => 0)) := by rw [e_h89, va_up_neq (nek0 (a := 11) (by decide))]; exact F_h88__k_11_
  have F_h89__k_12_ : h89 (k + 12) = .inl (1, 512, .inl (fun _ => 0)) := by rw [e_h89, va_up_neq (nek0 (a := 12) (by decide))]; exact F_h88__k_12_
  have F_h89__k_13_ : h89 (k + 13) = .inl (1, 512, .inl (fun _ => 0)) := by rw [e_h89, va_up_neq (nek0 (a := 13) (by decide))]; exact F_h88__k_13_
  have F_h89__k_14_ : h89 (k + 14) = .inr (8, [.int 31, .ref (k + 15), .ref (k + 16), .ref (k + 17), .ref (k + 18), .ref (k + 19), .ref (k + 20), .int 0, .int 0]) := by rw [e_h89, va_up_neq (nek0 (a := 14) (by decide))]; exact F_h88__k_14_
  have F_h89__k_15_ : h89 (k + 15) = .inl (1, 32, .inl (fun _ => 0)) := by rw [e_h89, va_up_neq (nek0 (a := 15) (by decide))]; exact F_h88__k_15_
  have F_h89__k_16_ : h89 (k + 16) = .inl (1, 32, .inl (fun _ => 0)) := by rw [e_h89, va_up_neq (nek0 (a := 16) (by decide))]; exact F_h88__k_16_
  have F_h89__k_17_ : h89 (k + 17) = .inl (1, 32, .inl (fun _ => 0)) := by rw [e_h89, va_up_neq (nek0 (a := 17) (by decide))]; exact F_h88__k_17_
  have F_h89__k_18_ : h89 (k + 18) = .inl (1, 32, .inl (fun _ => 0)) := by rw [e_h89, va_up_neq (nek0 (a := 18) (by decide))]; exact F_h88__k_18_
  have F_h89__k_19_ : h89 (k + 19) = .inl (1, 256, .inl (fun _ => 0)) := by rw [e_h89, va_up_neq (nek0 (a := 19) (by decide))]; exact F_h88__k_19_
  have F_h89__k_20_ : h89 (k + 20) = .inl (1, 256, .inl (fun _ => 0)) := by rw [e_h89, va_up_neq (nek0 (a := 20) (by decide))]; exact F_h88__k_20_
  have F_h89__k_21_ : h89 (k + 21) = .inr (8, [.int 52, .ref (k + 22), .ref (k + 23), .ref (k + 24), .ref (k + 25), .ref (k + 26), .ref (k + 27), .int 0, .int 0]) := by rw [e_h89, va_up_neq (nek0 (a := 21) (by decide))]; exact F_h88__k_21_
  have F_h89__k_22_ : h89 (k + 22) = .inl (1, 53, .inl (fun _ => 0)) := by rw [e_h89, va_up_neq (nek0 (a := 22) (by decide))]; exact F_h88__k_22_
  have F_h89__k_23_ : h89 (k + 23) = .inl (1, 53, .inl (fun _ => 0)) := by rw [e_h89, va_up_neq (nek0 (a := 23) (by decide))]; exact F_h88__k_23_
  have F_h89__k_24_ : h89 (k + 24) = .inl (1, 53, .inl (fun _ => 0)) := by rw [e_h89, va_up_neq (nek0 (a := 24) (by decide))]; exact F_h88__k_24_
  have F_h89__k_25_ : h89 (k + 25) = .inl (1, 53, .inl (fun _ => 0)) := by rw [e_h89, va_up_neq (nek0 (a := 25) (by decide))]; exact F_h88__k_25_
  have F_h89__k_26_ : h89 (k + 26) = .inl (1, 512, .inl (fun _ => 0)) := by rw [e_h89, va_up_neq (nek0 (a := 26) (by decide))]; exact F_h88__k_26_
  have F_h89__k_27_ : h89 (k + 27) = .inl (1, 512, .inl (fun _ => 0)) := by rw [e_h89, va_up_neq (nek0 (a := 27) (by decide))]; exact F_h88__k_27_
  have F_h89__k_28_ : h89 (k + 28) = .inl (1, 3, .inl lat0) := by rw [e_h89, va_up_neq (nek0 (a := 28) (by decide))]; exact F_h88__k_28_
  have FR_h89 : ∀ j, j < k ∨ aBig ≤ j → h89 j = h j := fun j hj => by rw [e_h89]; exact (va_up_neq (frne0 hj hbig)).trans (FR_h88 j hj)
  clear F_h88_k F_h88__k_1_ F_h88__k_2_ F_h88__k_3_ F_h88__k_4_ F_h88__k_5_ F_h88__k_6_ F_h88__k_7_ F_h88__k_8_ F_h88__k_9_ F_h88__k_10_ F_h88__k_11_ F_h88__k_12_ F_h88__k_13_ F_h88__k_14_ F_h88__k_15_ F_h88__k_16_ F_h88__k_17_ F_h88__k_18_ F_h88__k_19_ F_h88__k_20_ F_h88__k_21_ F_h88__k_22_ F_h88__k_23_ F_h88__k_24_ F_h88__k_25_ F_h88__k_26_ F_h88__k_27_ F_h88__k_28_ FR_h88 e_h89
  clear h88
  refine WX.ret0 rfl ?_
  exact kk h89 FR_h89 ⟨F_h89_k, F_h89__k_1_, F_h89__k_2_, F_h89__k_3_, F_h89__k_4_, F_h89__k_5_, F_h89__k_6_, F_h89__k_7_, F_h89__k_8_, F_h89__k_9_, F_h89__k_10_, F_h89__k_11_, F_h89__k_12_, F_h89__k_13_, F_h89__k_14_, F_h89__k_15_, F_h89__k_16_, F_h89__k_17_, F_h89__k_18_, F_h89__k_19_, F_h89__k_20_, F_h89__k_21_, F_h89__k_22_, F_h89__k_23_, F_h89__k_24_, F_h89__k_25_, F_h89__k_26_, F_h89__k_27_, F_h89__k_28_, trivial⟩
def cLits (q : Nat) (k : Nat) : List aE := [.inr (5, [.ref (k + 1), .ref (k + 2), .int 0, .ref (k + 3), .ref (k + 7), .ref (k + 11), .ref q, .ref (k + 17), .int 0, .int 0, .int 0, .int 0]), .inl (0, 8000, .inl (fun _ => 0)), .inl (1, 256, .inl (fun _ => 0)), .inr (0, [.ref (k + 4), .ref (k + 5), .ref (k + 6), .int 0, .int 0]), .inl (1, 256, .inl (fun _ => 0)), .inl (1, 256, .inl (fun _ => 0)), .inl (1, 13, .inl (fun _ => 0)), .inr (0, [.ref (k + 8), .ref (k + 9), .ref (k + 10), .int 0, .int 0]), .inl (1, 256, .inl (fun _ => 0)), .inl (1, 256, .inl (fun _ => 0)), .inl (1, 13, .inl (fun _ => 0)), .inr (4, [.ref (k + 12), .ref (k + 13), .ref (k + 14), .ref (k + 15), .ref (k + 16)]), .inl (1, 256, .inl (fun _ => 0)), .inl (1, 256, .inl (fun _ => 0)), .inl (1, 512, .inl (fun _ => 0)), .inl (1, 512, .inl (fun _ => 0)), .inl (1, 512, .inl (fun _ => 0)), .inr (7, [.ref (k + 18), .int 0, .int 0, .long 0, .int 0]), .inl (0, 256, .inl (fun _ => 0))]
set_option maxRecDepth 20000 in
theorem n_lits {q : Nat} {d s : Nat} {h : Nat → aE} {k : Nat} (hbig : k + 20 < aBig) (F_h_k : h k = .inr (5, zX5)) {Ψ : Option Value → aH → Prop} (kk : ∀ h', (∀ j, j < k ∨ aBig ≤ j → h' j = h j) → Cells h' k (cLits q k) → Ψ none (k + 19, s + 11630, h')) : WO (mM (d + 2)) 51 [.ref k, .ref q] (k + 1, s, h) Ψ := by
  refine WO.of (Nat.le_of_ble_eq_true rfl) ?_
  have FR_h : ∀ j, j < k ∨ aBig ≤ j → h j = h j := fun _ _ => rfl
  show WX (lk tX5_init) (mM (d + 1)) Ψ 0 [(0, .ref k), (1, .ref q)] [] (k + 1, s, h)
  refine WX.s1 rfl rfl ?_
  refine WX.s1 rfl rfl ?_
  refine WX.s1 rfl rfl ?_
  refine WX.s1 rfl rfl ?_
  refine WX.newaN (N := 8000) (z0 := .inl (fun _ => 0)) rfl (by decide) (by decide) (bigk (k := k) (a := 2) hbig (by decide)) rfl (fun h8 e_h8 => ?_)
  have F_h8_k : h8 k = .inr (5, [.null, .null, .int 0, .null, .null, .null, .null, .null, .int 0, .int 0, .int 0, .int 0]) := by rw [e_h8, va_up_neq (nek1 (a := 1) (by decide))]; exact F_h_k
  have F_h8__k_1_ : h8 (k + 1) = .inl (0, 8000, .inl (fun _ => 0)) := by rw [e_h8]; exact va_up_eq
  have FR_h8 : ∀ j, j < k ∨ aBig ≤ j → h8 j = h j := fun j hj => by rw [e_h8]; exact (va_up_neq (frne (a := 1) hj hbig (by decide))).trans (FR_h j hj)
  clear F_h_k FR_h e_h8
  refine WX.put1 (fs := [.null, .null, .int 0, .null, .null, .null, .null, .null, .int 0, .int 0, .int 0, .int 0]) (fs' := [.ref (k + 1), .null, .int 0, .null, .null, .null, .null, .null, .int 0, .int 0, .int 0, .int 0]) rfl (ltk0 (c := 2) (by decide)) (F_h8_k) (Nat.le_of_ble_eq_true rfl) (rfl) rfl (fun h10 e_h10 => ?_)
  have F_h10_k : h10 k = .inr (5, [.ref (k + 1), .null, .int 0, .null, .null, .null, .null, .null, .int 0, .int 0, .int 0, .int 0]) := by rw [e_h10]; exact va_up_eq
  have F_h10__k_1_ : h10 (k + 1) = .inl (0, 8000, .inl (fun _ => 0)) := by rw [e_h10, va_up_neq (nek0 (a := 1) (by decide))]; exact F_h8__k_1_
  have FR_h10 : ∀ j, j < k ∨ aBig ≤ j → h10 j = h j := fun j hj => by rw [e_h10]; exact (va_up_neq (frne0 hj hbig)).trans (FR_h8 j hj)
  clear F_h8_k F_h8__k_1_ FR_h8 e_h10
  clear h8
  refine WX.s1 rfl rfl ?_
  refine WX.s1 rfl rfl ?_
  refine WX.newaN (N := 256) (z0 := .inl (fun _ => 0)) rfl (by decide) (by decide) (bigk (k := k) (a := 3) hbig (by decide)) rfl (fun h17 e_h17 => ?_)
  have F_h17_k : h17 k = .inr (5, [.ref (k + 1), .null, .int 0, .null, .null, .null, .null, .null, .int 0, .int 0, .int 0, .int 0]) := by rw [e_h17, va_up_neq (nek1 (a := 2) (by decide))]; exact F_h10_k
  have F_h17__k_1_ : h17 (k + 1) = .inl (0, 8000, .inl (fun _ => 0)) := by rw [e_h17, va_up_neq (nek (a := 1) (b := 2) (by decide))]; exact F_h10__k_1_
  have F_h17__k_2_ : h17 (k + 2) = .inl (1, 256, .inl (fun _ => 0)) := by rw [e_h17]; exact va_up_eq
  have FR_h17 : ∀ j, j < k ∨ aBig ≤ j → h17 j = h j := fun j hj => by rw [e_h17]; exact (va_up_neq (frne (a := 2) hj hbig (by decide))).trans (FR_h10 j hj)
  clear F_h10_k F_h10__k_1_ FR_h10 e_h17
  clear h10
  refine WX.put1 (fs := [.ref (k + 1), .null, .int 0, .null, .null, .null, .null, .null, .int 0, .int 0, .int 0, .int 0]) (fs' := [.ref (k + 1), .ref (k + 2), .int 0, .null, .null, .null, .null, .null, .int 0, .int 0, .int 0, .int 0]) rfl (ltk0 (c := 3) (by decide)) (F_h17_k) (Nat.le_of_ble_eq_true rfl) (rfl) rfl (fun h19 e_h19 => ?_)
  have F_h19_k : h19 k = .inr (5, [.ref (k + 1), .ref (k + 2), .int 0, .null, .null, .null, .null, .null, .int 0, .int 0, .int 0, .int 0]) := by rw [e_h19]; exact va_up_eq
  have F_h19__k_1_ : h19 (k + 1) = .inl (0, 8000, .inl (fun _ => 0)) := by rw [e_h19, va_up_neq (nek0 (a := 1) (by decide))]; exact F_h17__k_1_
  have F_h19__k_2_ : h19 (k + 2) = .inl (1, 256, .inl (fun _ => 0)) := by rw [e_h19, va_up_neq (nek0 (a := 2) (by decide))]; exact F_h17__k_2_
  have FR_h19 : ∀ j, j < k ∨ aBig ≤ j → h19 j = h j := fun j hj => by rw [e_h19]; exact (va_up_neq (frne0 hj hbig)).trans (FR_h17 j hj)
  clear F_h17_k F_h17__k_1_ F_h17__k_2_ FR_h17 e_h19
  clear h17
  refine WX.s1 rfl rfl ?_
  refine WX.newN rfl (bigk (k := k) (a := 4) hbig (by decide)) (fun h23 e_h23 => ?_)
  have F_h23_k : h23 k = .inr (5, [.ref (k + 1), .ref (k + 2), .int 0, .null, .null, .null, .null, .null, .int 0, .int 0, .int 0, .int 0]) := by rw [e_h23, va_up_neq (nek1 (a := 3) (by decide))]; exact F_h19_k
  have F_h23__k_1_ : h23 (k + 1) = .inl (0, 8000, .inl (fun _ => 0)) := by rw [e_h23, va_up_neq (nek (a := 1) (b := 3) (by decide))]; exact F_h19__k_1_
  have F_h23__k_2_ : h23 (k + 2) = .inl (1, 256, .inl (fun _ => 0)) := by rw [e_h23, va_up_neq (nek (a := 2) (b := 3) (by decide))]; exact F_h19__k_2_
  have F_h23__k_3_ : h23 (k + 3) = .inr (0, zX0) := by rw [e_h23]; exact va_up_eq
  have FR_h23 : ∀ j, j < k ∨ aBig ≤ j → h23 j = h j := fun j hj => by rw [e_h23]; exact (va_up_neq (frne (a := 3) hj hbig (by decide))).trans (FR_h19 j hj)
  clear F_h19_k F_h19__k_1_ F_h19__k_2_ FR_h19 e_h23
  clear h19
  refine WX.s1 rfl rfl ?_
  refine WX.callC (vs := [.ref (k + 3)]) rfl rfl rfl (Nat.le_of_ble_eq_true rfl) (rcv_ok (ltk (a := 3) (c := 4) (by decide)) F_h23__k_3_) ?_
  refine n_codes (k := k + 3) (bigk (k := k) (a := 8) hbig (by decide)) F_h23__k_3_ (fun h27 fr27 cs27 => ?_)
  have F_h27_k : h27 k = .inr (5, [.ref (k + 1), .ref (k + 2), .int 0, .null, .null, .null, .null, .null, .int 0, .int 0, .int 0, .int 0]) := (fr27 k (Or.inl (ltk0 (c := 3) (by decide)))).trans F_h23_k
  have F_h27__k_1_ : h27 (k + 1) = .inl (0, 8000, .inl (fun _ => 0)) := (fr27 (k + 1) (Or.inl (ltk (a := 1) (c := 3) (by decide)))).trans F_h23__k_1_
  have F_h27__k_2_ : h27 (k + 2) = .inl (1, 256, .inl (fun _ => 0)) := (fr27 (k + 2) (Or.inl (ltk (a := 2) (c := 3) (by decide)))).trans F_h23__k_2_
  have F_h27__k_3_ : h27 (k + 3) = .inr (0, [.ref (k + 4), .ref (k + 5), .ref (k + 6), .int 0, .int 0]) := cs27.1
  have F_h27__k_4_ : h27 (k + 4) = .inl (1, 256, .inl (fun _ => 0)) := cs27.2.1
  have F_h27__k_5_ : h27 (k + 5) = .inl (1, 256, .inl (fun _ => 0)) := cs27.2.2.1
  have F_h27__k_6_ : h27 (k + 6) = .inl (1, 13, .inl (fun _ => 0)) := cs27.2.2.2.1
  have FR_h27 : ∀ j, j < k ∨ aBig ≤ j → h27 j = h j := fun j hj => (fr27 j (hj.imp (fun z => Nat.lt_of_lt_of_le z (Nat.le_add_right _ _)) (fun z => z))).trans (FR_h23 j hj)
  clear F_h23_k F_h23__k_1_ F_h23__k_2_ F_h23__k_3_ FR_h23 fr27 cs27
  clear h23
  show WX _ _ _ 30 [(0, .ref k), (1, .ref q)] [.ref (k + 3), .ref k] (k + 7, s + 8000 + 256 + 5 + 525, h27)
  refine WX.put1 (fs := [.ref (k + 1), .ref (k + 2), .int 0, .null, .null, .null, .null, .null, .int 0, .int 0, .int 0, .int 0]) (fs' := [.ref (k + 1), .ref (k + 2), .int 0, .ref (k + 3), .null, .null, .null, .null, .int 0, .int 0, .int 0, .int 0]) rfl (ltk0 (c := 7) (by decide)) (F_h27_k) (Nat.le_of_ble_eq_true rfl) (rfl) rfl (fun h30 e_h30 => ?_)
  have F_h30_k : h30 k = .inr (5, [.ref (k + 1), .ref (k + 2), .int 0, .ref (k + 3), .null, .null, .null, .null, .int 0, .int 0, .int 0, .int 0]) := by rw [e_h30]; exact va_up_eq
  have F_h30__k_1_ : h30 (k + 1) = .inl (0, 8000, .inl (fun _ => 0)) := by rw [e_h30, va_up_neq (nek0 (a := 1) (by decide))]; exact F_h27__k_1_
  have F_h30__k_2_ : h30 (k + 2) = .inl (1, 256, .inl (fun _ => 0)) := by rw [e_h30, va_up_neq (nek0 (a := 2) (by decide))]; exact F_h27__k_2_
  have F_h30__k_3_ : h30 (k + 3) = .inr (0, [.ref (k + 4), .ref (k + 5), .ref (k + 6), .int 0, .int 0]) := by rw [e_h30, va_up_neq (nek0 (a := 3) (by decide))]; exact F_h27__k_3_
  have F_h30__k_4_ : h30 (k + 4) = .inl (1, 256, .inl (fun _ => 0)) := by rw [e_h30, va_up_neq (nek0 (a := 4) (by decide))]; exact F_h27__k_4_
  have F_h30__k_5_ : h30 (k + 5) = .inl (1, 256, .inl (fun _ => 0)) := by rw [e_h30, va_up_neq (nek0 (a := 5) (by decide))]; exact F_h27__k_5_
  have F_h30__k_6_ : h30 (k + 6) = .inl (1, 13, .inl (fun _ => 0)) := by rw [e_h30, va_up_neq (nek0 (a := 6) (by decide))]; exact F_h27__k_6_
  have FR_h30 : ∀ j, j < k ∨ aBig ≤ j → h30 j = h j := fun j hj => by rw [e_h30]; exact (va_up_neq (frne0 hj hbig)).trans (FR_h27 j hj)
  clear F_h27_k F_h27__k_1_ F_h27__k_2_ F_h27__k_3_ F_h27__k_4_ F_h27__k_5_ F_h27__k_6_ FR_h27 e_h30
  clear h27
  refine WX.s1 rfl rfl ?_
  refine WX.newN rfl (bigk (k := k) (a := 8) hbig (by decide)) (fun h34 e_h34 => ?_)
  have F_h34_k : h34 k = .inr (5, [.ref (k + 1), .ref (k + 2), .int 0, .ref (k + 3), .null, .null, .null, .null, .int 0, .int 0, .int 0, .int 0]) := by rw [e_h34, va_up_neq (nek1 (a := 7) (by decide))]; exact F_h30_k
  have F_h34__k_1_ : h34 (k + 1) = .inl (0, 8000, .inl (fun _ => 0)) := by rw [e_h34, va_up_neq (nek (a := 1) (b := 7) (by decide))]; exact F_h30__k_1_
  have F_h34__k_2_ : h34 (k + 2) = .inl (1, 256, .inl (fun _ => 0)) := by rw [e_h34, va_up_neq (nek (a := 2) (b := 7) (by decide))]; exact F_h30__k_2_
  have F_h34__k_3_ : h34 (k + 3) = .inr (0, [.ref (k + 4), .ref (k + 5), .ref (k + 6), .int 0, .int 0]) := by rw [e_h34, va_up_neq (nek (a := 3) (b := 7) (by decide))]; exact F_h30__k_3_
  have F_h34__k_4_ : h34 (k + 4) = .inl (1, 256, .inl (fun _ => 0)) := by rw [e_h34, va_up_neq (nek (a := 4) (b := 7) (by decide))]; exact F_h30__k_4_
  have F_h34__k_5_ : h34 (k + 5) = .inl (1, 256, .inl (fun _ => 0)) := by rw [e_h34, va_up_neq (nek (a := 5) (b := 7) (by decide))]; exact F_h30__k_5_
  have F_h34__k_6_ : h34 (k + 6) = .inl (1, 13, .inl (fun _ => 0)) := by rw [e_h34, va_up_neq (nek (a := 6) (b := 7) (by decide))]; exact F_h30__k_6_
  have F_h34__k_7_ : h34 (k + 7) = .inr (0, zX0) := by rw [e_h34]; exact va_up_eq
  have FR_h34 : ∀ j, j < k ∨ aBig ≤ j → h34 j = h j := fun j hj => by rw [e_h34]; exact (va_up_neq (frne (a := 7) hj hbig (by decide))).trans (FR_h30 j hj)
  clear F_h30_k F_h30__k_1_ F_h30__k_2_ F_h30__k_3_ F_h30__k_4_ F_h30__k_5_ F_h30__k_6_ FR_h30 e_h34
  clear h30
  refine WX.s1 rfl rfl ?_
  refine WX.callC (vs := [.ref (k + 7)]) rfl rfl rfl (Nat.le_of_ble_eq_true rfl) (rcv_ok (ltk (a := 7) (c := 8) (by decide)) F_h34__k_7_) ?_
  refine n_codes (k := k + 7) (bigk (k := k) (a := 12) hbig (by decide)) F_h34__k_7_ (fun h38 fr38 cs38 => ?_)
  have F_h38_k : h38 k = .inr (5, [.ref (k + 1), .ref (k + 2), .int 0, .ref (k + 3), .null, .null, .null, .null, .int 0, .int 0, .int 0, .int 0]) := (fr38 k (Or.inl (ltk0 (c := 7) (by decide)))).trans F_h34_k
  have F_h38__k_1_ : h38 (k + 1) = .inl (0, 8000, .inl (fun _ => 0)) := (fr38 (k + 1) (Or.inl (ltk (a := 1) (c := 7) (by decide)))).trans F_h34__k_1_
  have F_h38__k_2_ : h38 (k + 2) = .inl (1, 256, .inl (fun _ => 0)) := (fr38 (k + 2) (Or.inl (ltk (a := 2) (c := 7) (by decide)))).trans F_h34__k_2_
  have F_h38__k_3_ : h38 (k + 3) = .inr (0, [.ref (k + 4), .ref (k + 5), .ref (k + 6), .int 0, .int 0]) := (fr38 (k + 3) (Or.inl (ltk (a := 3) (c := 7) (by decide)))).trans F_h34__k_3_
  have F_h38__k_4_ : h38 (k + 4) = .inl (1, 256, .inl (fun _ => 0)) := (fr38 (k + 4) (Or.inl (ltk (a := 4) (c := 7) (by decide)))).trans F_h34__k_4_
  have F_h38__k_5_ : h38 (k + 5) = .inl (1, 256, .inl (fun _ => 0)) := (fr38 (k + 5) (Or.inl (ltk (a := 5) (c := 7) (by decide)))).trans F_h34__k_5_
  have F_h38__k_6_ : h38 (k + 6) = .inl (1, 13, .inl (fun _ => 0)) := (fr38 (k + 6) (Or.inl (ltk (a := 6) (c := 7) (by decide)))).trans F_h34__k_6_
  have F_h38__k_7_ : h38 (k + 7) = .inr (0, [.ref (k + 8), .ref (k + 9), .ref (k + 10), .int 0, .int 0]) := cs38.1
  have F_h38__k_8_ : h38 (k + 8) = .inl (1, 256, .inl (fun _ => 0)) := cs38.2.1
  have F_h38__k_9_ : h38 (k + 9) = .inl (1, 256, .inl (fun _ => 0)) := cs38.2.2.1
  have F_h38__k_10_ : h38 (k + 10) = .inl (1, 13, .inl (fun _ => 0)) := cs38.2.2.2.1
  have FR_h38 : ∀ j, j < k ∨ aBig ≤ j → h38 j = h j := fun j hj => (fr38 j (hj.imp (fun z => Nat.lt_of_lt_of_le z (Nat.le_add_right _ _)) (fun z => z))).trans (FR_h34 j hj)
  clear F_h34_k F_h34__k_1_ F_h34__k_2_ F_h34__k_3_ F_h34__k_4_ F_h34__k_5_ F_h34__k_6_ F_h34__k_7_ FR_h34 fr38 cs38
  clear h34
  show WX _ _ _ 41 [(0, .ref k), (1, .ref q)] [.ref (k + 7), .ref k] (k + 11, s + 8000 + 256 + 5 + 525 + 5 + 525, h38)
  refine WX.put1 (fs := [.ref (k + 1), .ref (k + 2), .int 0, .ref (k + 3), .null, .null, .null, .null, .int 0, .int 0, .int 0, .int 0]) (fs' := [.ref (k + 1), .ref (k + 2), .int 0, .ref (k + 3), .ref (k + 7), .null, .null, .null, .int 0, .int 0, .int 0, .int 0]) rfl (ltk0 (c := 11) (by decide)) (F_h38_k) (Nat.le_of_ble_eq_true rfl) (rfl) rfl (fun h41 e_h41 => ?_)
  have F_h41_k : h41 k = .inr (5, [.ref (k + 1), .ref (k + 2), .int 0, .ref (k + 3), .ref (k + 7), .null, .null, .null, .int 0, .int 0, .int 0, .int 0]) := by rw [e_h41]; exact va_up_eq
  have F_h41__k_1_ : h41 (k + 1) = .inl (0, 8000, .inl (fun _ => 0)) := by rw [e_h41, va_up_neq (nek0 (a := 1) (by decide))]; exact F_h38__k_1_
  have F_h41__k_2_ : h41 (k + 2) = .inl (1, 256, .inl (fun _ => 0)) := by rw [e_h41, va_up_neq (nek0 (a := 2) (by decide))]; exact F_h38__k_2_
  have F_h41__k_3_ : h41 (k + 3) = .inr (0, [.ref (k + 4), .ref (k + 5), .ref (k + 6), .int 0, .int 0]) := by rw [e_h41, va_up_neq (nek0 (a := 3) (by decide))]; exact F_h38__k_3_
  have F_h41__k_4_ : h41 (k + 4) = .inl (1, 256, .inl (fun _ => 0)) := by rw [e_h41, va_up_neq (nek0 (a := 4) (by decide))]; exact F_h38__k_4_
  have F_h41__k_5_ : h41 (k + 5) = .inl (1, 256, .inl (fun _ => 0)) := by rw [e_h41, va_up_neq (nek0 (a := 5) (by decide))]; exact F_h38__k_5_
  have F_h41__k_6_ : h41 (k + 6) = .inl (1, 13, .inl (fun _ => 0)) := by rw [e_h41, va_up_neq (nek0 (a := 6) (by decide))]; exact F_h38__k_6_
  have F_h41__k_7_ : h41 (k + 7) = .inr (0, [.ref (k + 8), .ref (k + 9), .ref (k + 10), .int 0, .int 0]) := by rw [e_h41, va_up_neq (nek0 (a := 7) (by decide))]; exact F_h38__k_7_
  have F_h41__k_8_ : h41 (k + 8) = .inl (1, 256, .inl (fun _ => 0)) := by rw [e_h41, va_up_neq (nek0 (a := 8) (by decide))]; exact F_h38__k_8_
  have F_h41__k_9_ : h41 (k + 9) = .inl (1, 256, .inl (fun _ => 0)) := by rw [e_h41, va_up_neq (nek0 (a := 9) (by decide))]; exact F_h38__k_9_
  have F_h41__k_10_ : h41 (k + 10) = .inl (1, 13, .inl (fun _ => 0)) := by rw [e_h41, va_up_neq (nek0 (a := 10) (by decide))]; exact F_h38__k_10_
  have FR_h41 : ∀ j, j < k ∨ aBig ≤ j → h41 j = h j := fun j hj => by rw [e_h41]; exact (va_up_neq (frne0 hj hbig)).trans (FR_h38 j hj)
  clear F_h38_k F_h38__k_1_ F_h38__k_2_ F_h38__k_3_ F_h38__k_4_ F_h38__k_5_ F_h38__k_6_ F_h38__k_7_ F_h38__k_8_ F_h38__k_9_ F_h38__k_10_ FR_h38 e_h41
  clear h38
  refine WX.s1 rfl rfl ?_
  refine WX.newN rfl (bigk (k := k) (a := 12) hbig (by decide)) (fun h45 e_h45 => ?_)
  have F_h45_k : h45 k = .inr (5, [.ref (k + 1), .ref (k + 2), .int 0, .ref (k + 3), .ref (k + 7), .null, .null, .null, .int 0, .int 0, .int 0, .int 0]) := by rw [e_h45, va_up_neq (nek1 (a := 11) (by decide))]; exact F_h41_k
  have F_h45__k_1_ : h45 (k + 1) = .inl (0, 8000, .inl (fun _ => 0)) := by rw [e_h45, va_up_neq (nek (a := 1) (b := 11) (by decide))]; exact F_h41__k_1_
  have F_h45__k_2_ : h45 (k + 2) = .inl (1, 256, .inl (fun _ => 0)) := by rw [e_h45, va_up_neq (nek (a := 2) (b := 11) (by decide))]; exact F_h41__k_2_
  have F_h45__k_3_ : h45 (k + 3) = .inr (0, [.ref (k + 4), .ref (k + 5), .ref (k + 6), .int 0, .int 0]) := by rw [e_h45, va_up_neq (nek (a := 3) (b := 11) (by decide))]; exact F_h41__k_3_
  have F_h45__k_4_ : h45 (k + 4) = .inl (1, 256, .inl (fun _ => 0)) := by rw [e_h45, va_up_neq (nek (a := 4) (b := 11) (by decide))]; exact F_h41__k_4_
  have F_h45__k_5_ : h45 (k + 5) = .inl (1, 256, .inl (fun _ => 0)) := by rw [e_h45, va_up_neq (nek (a := 5) (b := 11) (by decide))]; exact F_h41__k_5_
  have F_h45__k_6_ : h45 (k + 6) = .inl (1, 13, .inl (fun _ => 0)) := by rw [e_h45, va_up_neq (nek (a := 6) (b := 11) (by decide))]; exact F_h41__k_6_
  have F_h45__k_7_ : h45 (k + 7) = .inr (0, [.ref (k + 8), .ref (k + 9), .ref (k + 10), .int 0, .int 0]) := by rw [e_h45, va_up_neq (nek (a := 7) (b := 11) (by decide))]; exact F_h41__k_7_
  have F_h45__k_8_ : h45 (k + 8) = .inl (1, 256, .inl (fun _ => 0)) := by rw [e_h45, va_up_neq (nek (a := 8) (b := 11) (by decide))]; exact F_h41__k_8_
  have F_h45__k_9_ : h45 (k + 9) = .inl (1, 256, .inl (fun _ => 0)) := by rw [e_h45, va_up_neq (nek (a := 9) (b := 11) (by decide))]; exact F_h41__k_9_
  have F_h45__k_10_ : h45 (k + 10) = .inl (1, 13, .inl (fun _ => 0)) := by rw [e_h45, va_up_neq (nek (a := 10) (b := 11) (by decide))]; exact F_h41__k_10_
  have F_h45__k_11_ : h45 (k + 11) = .inr (4, zX4) := by rw [e_h45]; exact va_up_eq
  have FR_h45 : ∀ j, j < k ∨ aBig ≤ j → h45 j = h j := fun j hj => by rw [e_h45]; exact (va_up_neq (frne (a := 11) hj hbig (by decide))).trans (FR_h41 j hj)
  clear F_h41_k F_h41__k_1_ F_h41__k_2_ F_h41__k_3_ F_h41__k_4_ F_h41__k_5_ F_h41__k_6_ F_h41__k_7_ F_h41__k_8_ F_h41__k_9_ F_h41__k_10_ FR_h41 e_h45
  clear h41
  refine WX.s1 rfl rfl ?_
  refine WX.callC (vs := [.ref (k + 11)]) rfl rfl rfl (Nat.le_of_ble_eq_true rfl) (rcv_ok (ltk (a := 11) (c := 12) (by decide)) F_h45__k_11_) ?_
  refine n_knots (k := k + 11) (bigk (k := k) (a := 18) hbig (by decide)) F_h45__k_11_ (fun h49 fr49 cs49 => ?_)
  have F_h49_k : h49 k = .inr (5, [.ref (k + 1), .ref (k + 2), .int 0, .ref (k + 3), .ref (k + 7), .null, .null, .null, .int 0, .int 0, .int 0, .int 0]) := (fr49 k (Or.inl (ltk0 (c := 11) (by decide)))).trans F_h45_k
  have F_h49__k_1_ : h49 (k + 1) = .inl (0, 8000, .inl (fun _ => 0)) := (fr49 (k + 1) (Or.inl (ltk (a := 1) (c := 11) (by decide)))).trans F_h45__k_1_
  have F_h49__k_2_ : h49 (k + 2) = .inl (1, 256, .inl (fun _ => 0)) := (fr49 (k + 2) (Or.inl (ltk (a := 2) (c := 11) (by decide)))).trans F_h45__k_2_
  have F_h49__k_3_ : h49 (k + 3) = .inr (0, [.ref (k + 4), .ref (k + 5), .ref (k + 6), .int 0, .int 0]) := (fr49 (k + 3) (Or.inl (ltk (a := 3) (c := 11) (by decide)))).trans F_h45__k_3_
  have F_h49__k_4_ : h49 (k + 4) = .inl (1, 256, .inl (fun _ => 0)) := (fr49 (k + 4) (Or.inl (ltk (a := 4) (c := 11) (by decide)))).trans F_h45__k_4_
  have F_h49__k_5_ : h49 (k + 5) = .inl (1, 256, .inl (fun _ => 0)) := (fr49 (k + 5) (Or.inl (ltk (a := 5) (c := 11) (by decide)))).trans F_h45__k_5_
  have F_h49__k_6_ : h49 (k + 6) = .inl (1, 13, .inl (fun _ => 0)) := (fr49 (k + 6) (Or.inl (ltk (a := 6) (c := 11) (by decide)))).trans F_h45__k_6_
  have F_h49__k_7_ : h49 (k + 7) = .inr (0, [.ref (k + 8), .ref (k + 9), .ref (k + 10), .int 0, .int 0]) := (fr49 (k + 7) (Or.inl (ltk (a := 7) (c := 11) (by decide)))).trans F_h45__k_7_
  have F_h49__k_8_ : h49 (k + 8) = .inl (1, 256, .inl (fun _ => 0)) := (fr49 (k + 8) (Or.inl (ltk (a := 8) (c := 11) (by decide)))).trans F_h45__k_8_
  have F_h49__k_9_ : h49 (k + 9) = .inl (1, 256, .inl (fun _ => 0)) := (fr49 (k + 9) (Or.inl (ltk (a := 9) (c := 11) (by decide)))).trans F_h45__k_9_
  have F_h49__k_10_ : h49 (k + 10) = .inl (1, 13, .inl (fun _ => 0)) := (fr49 (k + 10) (Or.inl (ltk (a := 10) (c := 11) (by decide)))).trans F_h45__k_10_
  have F_h49__k_11_ : h49 (k + 11) = .inr (4, [.ref (k + 12), .ref (k + 13), .ref (k + 14), .ref (k + 15), .ref (k + 16)]) := cs49.1
  have F_h49__k_12_ : h49 (k + 12) = .inl (1, 256, .inl (fun _ => 0)) := cs49.2.1
  have F_h49__k_13_ : h49 (k + 13) = .inl (1, 256, .inl (fun _ => 0)) := cs49.2.2.1
  have F_h49__k_14_ : h49 (k + 14) = .inl (1, 512, .inl (fun _ => 0)) := cs49.2.2.2.1
  have F_h49__k_15_ : h49 (k + 15) = .inl (1, 512, .inl (fun _ => 0)) := cs49.2.2.2.2.1
  have F_h49__k_16_ : h49 (k + 16) = .inl (1, 512, .inl (fun _ => 0)) := cs49.2.2.2.2.2.1
  have FR_h49 : ∀ j, j < k ∨ aBig ≤ j → h49 j = h j := fun j hj => (fr49 j (hj.imp (fun z => Nat.lt_of_lt_of_le z (Nat.le_add_right _ _)) (fun z => z))).trans (FR_h45 j hj)
  clear F_h45_k F_h45__k_1_ F_h45__k_2_ F_h45__k_3_ F_h45__k_4_ F_h45__k_5_ F_h45__k_6_ F_h45__k_7_ F_h45__k_8_ F_h45__k_9_ F_h45__k_10_ F_h45__k_11_ FR_h45 fr49 cs49
  clear h45
  show WX _ _ _ 52 [(0, .ref k), (1, .ref q)] [.ref (k + 11), .ref k] (k + 17, s + 8000 + 256 + 5 + 525 + 5 + 525 + 5 + 2048, h49)
  refine WX.put1 (fs := [.ref (k + 1), .ref (k + 2), .int 0, .ref (k + 3), .ref (k + 7), .null, .null, .null, .int 0, .int 0, .int 0, .int 0]) (fs' := [.ref (k + 1), .ref (k + 2), .int 0, .ref (k + 3), .ref (k + 7), .ref (k + 11), .null, .null, .int 0, .int 0, .int 0, .int 0]) rfl (ltk0 (c := 17) (by decide)) (F_h49_k) (Nat.le_of_ble_eq_true rfl) (rfl) rfl (fun h52 e_h52 => ?_)
  have F_h52_k : h52 k = .inr (5, [.ref (k + 1), .ref (k + 2), .int 0, .ref (k + 3), .ref (k + 7), .ref (k + 11), .null, .null, .int 0, .int 0, .int 0, .int 0]) := by rw [e_h52]; exact va_up_eq
  have F_h52__k_1_ : h52 (k + 1) = .inl (0, 8000, .inl (fun _ => 0)) := by rw [e_h52, va_up_neq (nek0 (a := 1) (by decide))]; exact F_h49__k_1_
  have F_h52__k_2_ : h52 (k + 2) = .inl (1, 256, .inl (fun _ => 0)) := by rw [e_h52, va_up_neq (nek0 (a := 2) (by decide))]; exact F_h49__k_2_
  have F_h52__k_3_ : h52 (k + 3) = .inr (0, [.ref (k + 4), .ref (k + 5), .ref (k + 6), .int 0, .int 0]) := by rw [e_h52, va_up_neq (nek0 (a := 3) (by decide))]; exact F_h49__k_3_
  have F_h52__k_4_ : h52 (k + 4) = .inl (1, 256, .inl (fun _ => 0)) := by rw [e_h52, va_up_neq (nek0 (a := 4) (by decide))]; exact F_h49__k_4_
  have F_h52__k_5_ : h52 (k + 5) = .inl (1, 256, .inl (fun _ => 0)) := by rw [e_h52, va_up_neq (nek0 (a := 5) (by decide))]; exact F_h49__k_5_
  have F_h52__k_6_ : h52 (k + 6) = .inl (1, 13, .inl (fun _ => 0)) := by rw [e_h52, va_up_neq (nek0 (a := 6) (by decide))]; exact F_h49__k_6_
  have F_h52__k_7_ : h52 (k + 7) = .inr (0, [.ref (k + 8), .ref (k + 9), .ref (k + 10), .int 0, .int 0]) := by rw [e_h52, va_up_neq (nek0 (a := 7) (by decide))]; exact F_h49__k_7_
  have F_h52__k_8_ : h52 (k + 8) = .inl (1, 256, .inl (fun _ => 0)) := by rw [e_h52, va_up_neq (nek0 (a := 8) (by decide))]; exact F_h49__k_8_
  have F_h52__k_9_ : h52 (k + 9) = .inl (1, 256, .inl (fun _ => 0)) := by rw [e_h52, va_up_neq (nek0 (a := 9) (by decide))]; exact F_h49__k_9_
  have F_h52__k_10_ : h52 (k + 10) = .inl (1, 13, .inl (fun _ => 0)) := by rw [e_h52, va_up_neq (nek0 (a := 10) (by decide))]; exact F_h49__k_10_
  have F_h52__k_11_ : h52 (k + 11) = .inr (4, [.ref (k + 12), .ref (k + 13), .ref (k + 14), .ref (k + 15), .ref (k + 16)]) := by rw [e_h52, va_up_neq (nek0 (a := 11) (by decide))]; exact F_h49__k_11_
  have F_h52__k_12_ : h52 (k + 12) = .inl (1, 256, .inl (fun _ => 0)) := by rw [e_h52, va_up_neq (nek0 (a := 12) (by decide))]; exact F_h49__k_12_
  have F_h52__k_13_ : h52 (k + 13) = .inl (1, 256, .inl (fun _ => 0)) := by rw [e_h52, va_up_neq (nek0 (a := 13) (by decide))]; exact F_h49__k_13_
  have F_h52__k_14_ : h52 (k + 14) = .inl (1, 512, .inl (fun _ => 0)) := by rw [e_h52, va_up_neq (nek0 (a := 14) (by decide))]; exact F_h49__k_14_
  have F_h52__k_15_ : h52 (k + 15) = .inl (1, 512, .inl (fun _ => 0)) := by rw [e_h52, va_up_neq (nek0 (a := 15) (by decide))]; exact F_h49__k_15_
  have F_h52__k_16_ : h52 (k + 16) = .inl (1, 512, .inl (fun _ => 0)) := by rw [e_h52, va_up_neq (nek0 (a := 16) (by decide))]; exact F_h49__k_16_
  have FR_h52 : ∀ j, j < k ∨ aBig ≤ j → h52 j = h j := fun j hj => by rw [e_h52]; exact (va_up_neq (frne0 hj hbig)).trans (FR_h49 j hj)
  clear F_h49_k F_h49__k_1_ F_h49__k_2_ F_h49__k_3_ F_h49__k_4_ F_h49__k_5_ F_h49__k_6_ F_h49__k_7_ F_h49__k_8_ F_h49__k_9_ F_h49__k_10_ F_h49__k_11_ F_h49__k_12_ F_h49__k_13_ F_h49__k_14_ F_h49__k_15_ F_h49__k_16_ FR_h49 e_h52
  clear h49
  refine WX.s1 rfl rfl ?_
  refine WX.newN rfl (bigk (k := k) (a := 18) hbig (by decide)) (fun h56 e_h56 => ?_)
  have F_h56_k : h56 k = .inr (5, [.ref (k + 1), .ref (k + 2), .int 0, .ref (k + 3), .ref (k + 7), .ref (k + 11), .null, .null, .int 0, .int 0, .int 0, .int 0]) := by rw [e_h56, va_up_neq (nek1 (a := 17) (by decide))]; exact F_h52_k
  have F_h56__k_1_ : h56 (k + 1) = .inl (0, 8000, .inl (fun _ => 0)) := by rw [e_h56, va_up_neq (nek (a := 1) (b := 17) (by decide))]; exact F_h52__k_1_
  have F_h56__k_2_ : h56 (k + 2) = .inl (1, 256, .inl (fun _ => 0)) := by rw [e_h56, va_up_neq (nek (a := 2) (b := 17) (by decide))]; exact F_h52__k_2_
  have F_h56__k_3_ : h56 (k + 3) = .inr (0, [.ref (k + 4), .ref (k + 5), .ref (k + 6), .int 0, .int 0]) := by rw [e_h56, va_up_neq (nek (a := 3) (b := 17) (by decide))]; exact F_h52__k_3_
  have F_h56__k_4_ : h56 (k + 4) = .inl (1, 256, .inl (fun _ => 0)) := by rw [e_h56, va_up_neq (nek (a := 4) (b := 17) (by decide))]; exact F_h52__k_4_
  have F_h56__k_5_ : h56 (k + 5) = .inl (1, 256, .inl (fun _ => 0)) := by rw [e_h56, va_up_neq (nek (a := 5) (b := 17) (by decide))]; exact F_h52__k_5_
  have F_h56__k_6_ : h56 (k + 6) = .inl (1, 13, .inl (fun _ => 0)) := by rw [e_h56, va_up_neq (nek (a := 6) (b := 17) (by decide))]; exact F_h52__k_6_
  have F_h56__k_7_ : h56 (k + 7) = .inr (0, [.ref (k + 8), .ref (k + 9), .ref (k + 10), .int 0, .int 0]) := by rw [e_h56, va_up_neq (nek (a := 7) (b := 17) (by decide))]; exact F_h52__k_7_
  have F_h56__k_8_ : h56 (k + 8) = .inl (1, 256, .inl (fun _ => 0)) := by rw [e_h56, va_up_neq (nek (a := 8) (b := 17) (by decide))]; exact F_h52__k_8_
  have F_h56__k_9_ : h56 (k + 9) = .inl (1, 256, .inl (fun _ => 0)) := by rw [e_h56, va_up_neq (nek (a := 9) (b := 17) (by decide))]; exact F_h52__k_9_
  have F_h56__k_10_ : h56 (k + 10) = .inl (1, 13, .inl (fun _ => 0)) := by rw [e_h56, va_up_neq (nek (a := 10) (b := 17) (by decide))]; exact F_h52__k_10_
  have F_h56__k_11_ : h56 (k + 11) = .inr (4, [.ref (k + 12), .ref (k + 13), .ref (k + 14), .ref (k + 15), .ref (k + 16)]) := by rw [e_h56, va_up_neq (nek (a := 11) (b := 17) (by decide))]; exact F_h52__k_11_
  have F_h56__k_12_ : h56 (k + 12) = .inl (1, 256, .inl (fun _ => 0)) := by rw [e_h56, va_up_neq (nek (a := 12) (b := 17) (by decide))]; exact F_h52__k_12_
  have F_h56__k_13_ : h56 (k + 13) = .inl (1, 256, .inl (fun _ => 0)) := by rw [e_h56, va_up_neq (nek (a := 13) (b := 17) (by decide))]; exact F_h52__k_13_
  have F_h56__k_14_ : h56 (k + 14) = .inl (1, 512, .inl (fun _ => 0)) := by rw [e_h56, va_up_neq (nek (a := 14) (b := 17) (by decide))]; exact F_h52__k_14_
  have F_h56__k_15_ : h56 (k + 15) = .inl (1, 512, .inl (fun _ => 0)) := by rw [e_h56, va_up_neq (nek (a := 15) (b := 17) (by decide))]; exact F_h52__k_15_
  have F_h56__k_16_ : h56 (k + 16) = .inl (1, 512, .inl (fun _ => 0)) := by rw [e_h56, va_up_neq (nek (a := 16) (b := 17) (by decide))]; exact F_h52__k_16_
  have F_h56__k_17_ : h56 (k + 17) = .inr (7, zX7) := by rw [e_h56]; exact va_up_eq
  have FR_h56 : ∀ j, j < k ∨ aBig ≤ j → h56 j = h j := fun j hj => by rw [e_h56]; exact (va_up_neq (frne (a := 17) hj hbig (by decide))).trans (FR_h52 j hj)
  clear F_h52_k F_h52__k_1_ F_h52__k_2_ F_h52__k_3_ F_h52__k_4_ F_h52__k_5_ F_h52__k_6_ F_h52__k_7_ F_h52__k_8_ F_h52__k_9_ F_h52__k_10_ F_h52__k_11_ F_h52__k_12_ F_h52__k_13_ F_h52__k_14_ F_h52__k_15_ F_h52__k_16_ FR_h52 e_h56
  clear h52
  refine WX.s1 rfl rfl ?_
  refine WX.s1 rfl rfl ?_
  refine WX.callC (vs := [.ref (k + 17), .int 256]) rfl rfl rfl (Nat.le_of_ble_eq_true rfl) (rcv_ok (ltk (a := 17) (c := 18) (by decide)) F_h56__k_17_) ?_
  refine n_row (N := 256) (k := k + 17) (bigk (k := k) (a := 19) hbig (by decide)) F_h56__k_17_ (by decide) (by decide) (fun h63 fr63 cs63 => ?_)
  have F_h63_k : h63 k = .inr (5, [.ref (k + 1), .ref (k + 2), .int 0, .ref (k + 3), .ref (k + 7), .ref (k + 11), .null, .null, .int 0, .int 0, .int 0, .int 0]) := (fr63 k (Or.inl (ltk0 (c := 17) (by decide)))).trans F_h56_k
  have F_h63__k_1_ : h63 (k + 1) = .inl (0, 8000, .inl (fun _ => 0)) := (fr63 (k + 1) (Or.inl (ltk (a := 1) (c := 17) (by decide)))).trans F_h56__k_1_
  have F_h63__k_2_ : h63 (k + 2) = .inl (1, 256, .inl (fun _ => 0)) := (fr63 (k + 2) (Or.inl (ltk (a := 2) (c := 17) (by decide)))).trans F_h56__k_2_
  have F_h63__k_3_ : h63 (k + 3) = .inr (0, [.ref (k + 4), .ref (k + 5), .ref (k + 6), .int 0, .int 0]) := (fr63 (k + 3) (Or.inl (ltk (a := 3) (c := 17) (by decide)))).trans F_h56__k_3_
  have F_h63__k_4_ : h63 (k + 4) = .inl (1, 256, .inl (fun _ => 0)) := (fr63 (k + 4) (Or.inl (ltk (a := 4) (c := 17) (by decide)))).trans F_h56__k_4_
  have F_h63__k_5_ : h63 (k + 5) = .inl (1, 256, .inl (fun _ => 0)) := (fr63 (k + 5) (Or.inl (ltk (a := 5) (c := 17) (by decide)))).trans F_h56__k_5_
  have F_h63__k_6_ : h63 (k + 6) = .inl (1, 13, .inl (fun _ => 0)) := (fr63 (k + 6) (Or.inl (ltk (a := 6) (c := 17) (by decide)))).trans F_h56__k_6_
  have F_h63__k_7_ : h63 (k + 7) = .inr (0, [.ref (k + 8), .ref (k + 9), .ref (k + 10), .int 0, .int 0]) := (fr63 (k + 7) (Or.inl (ltk (a := 7) (c := 17) (by decide)))).trans F_h56__k_7_
  have F_h63__k_8_ : h63 (k + 8) = .inl (1, 256, .inl (fun _ => 0)) := (fr63 (k + 8) (Or.inl (ltk (a := 8) (c := 17) (by decide)))).trans F_h56__k_8_
  have F_h63__k_9_ : h63 (k + 9) = .inl (1, 256, .inl (fun _ => 0)) := (fr63 (k + 9) (Or.inl (ltk (a := 9) (c := 17) (by decide)))).trans F_h56__k_9_
  have F_h63__k_10_ : h63 (k + 10) = .inl (1, 13, .inl (fun _ => 0)) := (fr63 (k + 10) (Or.inl (ltk (a := 10) (c := 17) (by decide)))).trans F_h56__k_10_
  have F_h63__k_11_ : h63 (k + 11) = .inr (4, [.ref (k + 12), .ref (k + 13), .ref (k + 14), .ref (k + 15), .ref (k + 16)]) := (fr63 (k + 11) (Or.inl (ltk (a := 11) (c := 17) (by decide)))).trans F_h56__k_11_
  have F_h63__k_12_ : h63 (k + 12) = .inl (1, 256, .inl (fun _ => 0)) := (fr63 (k + 12) (Or.inl (ltk (a := 12) (c := 17) (by decide)))).trans F_h56__k_12_
  have F_h63__k_13_ : h63 (k + 13) = .inl (1, 256, .inl (fun _ => 0)) := (fr63 (k + 13) (Or.inl (ltk (a := 13) (c := 17) (by decide)))).trans F_h56__k_13_
  have F_h63__k_14_ : h63 (k + 14) = .inl (1, 512, .inl (fun _ => 0)) := (fr63 (k + 14) (Or.inl (ltk (a := 14) (c := 17) (by decide)))).trans F_h56__k_14_
  have F_h63__k_15_ : h63 (k + 15) = .inl (1, 512, .inl (fun _ => 0)) := (fr63 (k + 15) (Or.inl (ltk (a := 15) (c := 17) (by decide)))).trans F_h56__k_15_
  have F_h63__k_16_ : h63 (k + 16) = .inl (1, 512, .inl (fun _ => 0)) := (fr63 (k + 16) (Or.inl (ltk (a := 16) (c := 17) (by decide)))).trans F_h56__k_16_
  have F_h63__k_17_ : h63 (k + 17) = .inr (7, [.ref (k + 18), .int 0, .int 0, .long 0, .int 0]) := cs63.1
  have F_h63__k_18_ : h63 (k + 18) = .inl (0, 256, .inl (fun _ => 0)) := cs63.2.1
  have FR_h63 : ∀ j, j < k ∨ aBig ≤ j → h63 j = h j := fun j hj => (fr63 j (hj.imp (fun z => Nat.lt_of_lt_of_le z (Nat.le_add_right _ _)) (fun z => z))).trans (FR_h56 j hj)
  clear F_h56_k F_h56__k_1_ F_h56__k_2_ F_h56__k_3_ F_h56__k_4_ F_h56__k_5_ F_h56__k_6_ F_h56__k_7_ F_h56__k_8_ F_h56__k_9_ F_h56__k_10_ F_h56__k_11_ F_h56__k_12_ F_h56__k_13_ F_h56__k_14_ F_h56__k_15_ F_h56__k_16_ F_h56__k_17_ FR_h56 fr63 cs63
  clear h56
  show WX _ _ _ 66 [(0, .ref k), (1, .ref q)] [.ref (k + 17), .ref k] (k + 19, s + 8000 + 256 + 5 + 525 + 5 + 525 + 5 + 2048 + 5 + 256, h63)
  refine WX.put1 (fs := [.ref (k + 1), .ref (k + 2), .int 0, .ref (k + 3), .ref (k + 7), .ref (k + 11), .null, .null, .int 0, .int 0, .int 0, .int 0]) (fs' := [.ref (k + 1), .ref (k + 2), .int 0, .ref (k + 3), .ref (k + 7), .ref (k + 11), .null, .ref (k + 17), .int 0, .int 0, .int 0, .int 0]) rfl (ltk0 (c := 19) (by decide)) (F_h63_k) (Nat.le_of_ble_eq_true rfl) (rfl) rfl (fun h66 e_h66 => ?_)
  have F_h66_k : h66 k = .inr (5, [.ref (k + 1), .ref (k + 2), .int 0, .ref (k + 3), .ref (k + 7), .ref (k + 11), .null, .ref (k + 17), .int 0, .int 0, .int 0, .int 0]) := by rw [e_h66]; exact va_up_eq
  have F_h66__k_1_ : h66 (k + 1) = .inl (0, 8000, .inl (fun _ => 0)) := by rw [e_h66, va_up_neq (nek0 (a := 1) (by decide))]; exact F_h63__k_1_
  have F_h66__k_2_ : h66 (k + 2) = .inl (1, 256, .inl (fun _ => 0)) := by rw [e_h66, va_up_neq (nek0 (a := 2) (by decide))]; exact F_h63__k_2_
  have F_h66__k_3_ : h66 (k + 3) = .inr (0, [.ref (k + 4), .ref (k + 5), .ref (k + 6), .int 0, .int 0]) := by rw [e_h66, va_up_neq (nek0 (a := 3) (by decide))]; exact F_h63__k_3_
  have F_h66__k_4_ : h66 (k + 4) = .inl (1, 256, .inl (fun _ => 0)) := by rw [e_h66, va_up_neq (nek0 (a := 4) (by decide))]; exact F_h63__k_4_
  have F_h66__k_5_ : h66 (k + 5) = .inl (1, 256, .inl (fun _ => 0)) := by rw [e_h66, va_up_neq (nek0 (a := 5) (by decide))]; exact F_h63__k_5_
  have F_h66__k_6_ : h66 (k + 6) = .inl (1, 13, .inl (fun _ => 0)) := by rw [e_h66, va_up_neq (nek0 (a := 6) (by decide))]; exact F_h63__k_6_
  have F_h66__k_7_ : h66 (k + 7) = .inr (0, [.ref (k + 8), .ref (k + 9), .ref (k + 10), .int 0, .int 0]) := by rw [e_h66, va_up_neq (nek0 (a := 7) (by decide))]; exact F_h63__k_7_
  have F_h66__k_8_ : h66 (k + 8) = .inl (1, 256, .inl (fun _ => 0)) := by rw [e_h66, va_up_neq (nek0 (a := 8) (by decide))]; exact F_h63__k_8_
  have F_h66__k_9_ : h66 (k + 9) = .inl (1, 256, .inl (fun _ => 0)) := by rw [e_h66, va_up_neq (nek0 (a := 9) (by decide))]; exact F_h63__k_9_
  have F_h66__k_10_ : h66 (k + 10) = .inl (1, 13, .inl (fun _ => 0)) := by rw [e_h66, va_up_neq (nek0 (a := 10) (by decide))]; exact F_h63__k_10_
  have F_h66__k_11_ : h66 (k + 11) = .inr (4, [.ref (k + 12), .ref (k + 13), .ref (k + 14), .ref (k + 15), .ref (k + 16)]) := by rw [e_h66, va_up_neq (nek0 (a := 11) (by decide))]; exact F_h63__k_11_
  have F_h66__k_12_ : h66 (k + 12) = .inl (1, 256, .inl (fun _ => 0)) := by rw [e_h66, va_up_neq (nek0 (a := 12) (by decide))]; exact F_h63__k_12_
  have F_h66__k_13_ : h66 (k + 13) = .inl (1, 256, .inl (fun _ => 0)) := by rw [e_h66, va_up_neq (nek0 (a := 13) (by decide))]; exact F_h63__k_13_
  have F_h66__k_14_ : h66 (k + 14) = .inl (1, 512, .inl (fun _ => 0)) := by rw [e_h66, va_up_neq (nek0 (a := 14) (by decide))]; exact F_h63__k_14_
  have F_h66__k_15_ : h66 (k + 15) = .inl (1, 512, .inl (fun _ => 0)) := by rw [e_h66, va_up_neq (nek0 (a := 15) (by decide))]; exact F_h63__k_15_
  have F_h66__k_16_ : h66 (k + 16) = .inl (1, 512, .inl (fun _ => 0)) := by rw [e_h66, va_up_neq (nek0 (a := 16) (by decide))]; exact F_h63__k_16_
  have F_h66__k_17_ : h66 (k + 17) = .inr (7, [.ref (k + 18), .int 0, .int 0, .long 0, .int 0]) := by rw [e_h66, va_up_neq (nek0 (a := 17) (by decide))]; exact F_h63__k_17_
  have F_h66__k_18_ : h66 (k + 18) = .inl (0, 256, .inl (fun _ => 0)) := by rw [e_h66, va_up_neq (nek0 (a := 18) (by decide))]; exact F_h63__k_18_
  have FR_h66 : ∀ j, j < k ∨ aBig ≤ j → h66 j = h j := fun j hj => by rw [e_h66]; exact (va_up_neq (frne0 hj hbig)).trans (FR_h63 j hj)
  clear F_h63_k F_h63__k_1_ F_h63__k_2_ F_h63__k_3_ F_h63__k_4_ F_h63__k_5_ F_h63__k_6_ F_h63__k_7_ F_h63__k_8_ F_h63__k_9_ F_h63__k_10_ F_h63__k_11_ F_h63__k_12_ F_h63__k_13_ F_h63__k_14_ F_h63__k_15_ F_h63__k_16_ F_h63__k_17_ F_h63__k_18_ FR_h63 e_h66
  clear h63
  refine WX.s1 rfl rfl ?_
  refine WX.s1 rfl rfl ?_
  refine WX.put1 (fs := [.ref (k + 1), .ref (k + 2), .int 0, .ref (k + 3), .ref (k + 7), .ref (k + 11), .null, .ref (k + 17), .int 0, .int 0, .int 0, .int 0]) (fs' := [.ref (k + 1), .ref (k + 2), .int 0, .ref (k + 3), .ref (k + 7), .ref (k + 11), .ref q, .ref (k + 17), .int 0, .int 0, .int 0, .int 0]) rfl (ltk0 (c := 19) (by decide)) (F_h66_k) (Nat.le_of_ble_eq_true rfl) (rfl) rfl (fun h71 e_h71 => ?_)
  have F_h71_k : h71 k = .inr (5, [.ref (k + 1), .ref (k + 2), .int 0, .ref (k + 3), .ref (k + 7), .ref (k + 11), .ref q, .ref (k + 17), .int 0, .int 0, .int 0, .int 0]) := by rw [e_h71]; exact va_up_eq
  have F_h71__k_1_ : h71 (k + 1) = .inl (0, 8000, .inl (fun _ => 0)) := by rw [e_h71, va_up_neq (nek0 (a := 1) (by decide))]; exact F_h66__k_1_
  have F_h71__k_2_ : h71 (k + 2) = .inl (1, 256, .inl (fun _ => 0)) := by rw [e_h71, va_up_neq (nek0 (a := 2) (by decide))]; exact F_h66__k_2_
  have F_h71__k_3_ : h71 (k + 3) = .inr (0, [.ref (k + 4), .ref (k + 5), .ref (k + 6), .int 0, .int 0]) := by rw [e_h71, va_up_neq (nek0 (a := 3) (by decide))]; exact F_h66__k_3_
  have F_h71__k_4_ : h71 (k + 4) = .inl (1, 256, .inl (fun _ => 0)) := by rw [e_h71, va_up_neq (nek0 (a := 4) (by decide))]; exact F_h66__k_4_
  have F_h71__k_5_ : h71 (k + 5) = .inl (1, 256, .inl (fun _ => 0)) := by rw [e_h71, va_up_neq (nek0 (a := 5) (by decide))]; exact F_h66__k_5_
  have F_h71__k_6_ : h71 (k + 6) = .inl (1, 13, .inl (fun _ => 0)) := by rw [e_h71, va_up_neq (nek0 (a := 6) (by decide))]; exact F_h66__k_6_
  have F_h71__k_7_ : h71 (k + 7) = .inr (0, [.ref (k + 8), .ref (k + 9), .ref (k + 10), .int 0, .int 0]) := by rw [e_h71, va_up_neq (nek0 (a := 7) (by decide))]; exact F_h66__k_7_
  have F_h71__k_8_ : h71 (k + 8) = .inl (1, 256, .inl (fun _ => 0)) := by rw [e_h71, va_up_neq (nek0 (a := 8) (by decide))]; exact F_h66__k_8_
  have F_h71__k_9_ : h71 (k + 9) = .inl (1, 256, .inl (fun _ => 0)) := by rw [e_h71, va_up_neq (nek0 (a := 9) (by decide))]; exact F_h66__k_9_
  have F_h71__k_10_ : h71 (k + 10) = .inl (1, 13, .inl (fun _ => 0)) := by rw [e_h71, va_up_neq (nek0 (a := 10) (by decide))]; exact F_h66__k_10_
  have F_h71__k_11_ : h71 (k + 11) = .inr (4, [.ref (k + 12), .ref (k + 13), .ref (k + 14), .ref (k + 15), .ref (k + 16)]) := by rw [e_h71, va_up_neq (nek0 (a := 11) (by decide))]; exact F_h66__k_11_
  have F_h71__k_12_ : h71 (k + 12) = .inl (1, 256, .inl (fun _ => 0)) := by rw [e_h71, va_up_neq (nek0 (a := 12) (by decide))]; exact F_h66__k_12_
  have F_h71__k_13_ : h71 (k + 13) = .inl (1, 256, .inl (fun _ => 0)) := by rw [e_h71, va_up_neq (nek0 (a := 13) (by decide))]; exact F_h66__k_13_
  have F_h71__k_14_ : h71 (k + 14) = .inl (1, 512, .inl (fun _ => 0)) := by rw [e_h71, va_up_neq (nek0 (a := 14) (by decide))]; exact F_h66__k_14_
  have F_h71__k_15_ : h71 (k + 15) = .inl (1, 512, .inl (fun _ => 0)) := by rw [e_h71, va_up_neq (nek0 (a := 15) (by decide))]; exact F_h66__k_15_
  have F_h71__k_16_ : h71 (k + 16) = .inl (1, 512, .inl (fun _ => 0)) := by rw [e_h71, va_up_neq (nek0 (a := 16) (by decide))]; exact F_h66__k_16_
  have F_h71__k_17_ : h71 (k + 17) = .inr (7, [.ref (k + 18), .int 0, .int 0, .long 0, .int 0]) := by rw [e_h71, va_up_neq (nek0 (a := 17) (by decide))]; exact F_h66__k_17_
  have F_h71__k_18_ : h71 (k + 18) = .inl (0, 256, .inl (fun _ => 0)) := by rw [e_h71, va_up_neq (nek0 (a := 18) (by decide))]; exact F_h66__k_18_
  have FR_h71 : ∀ j, j < k ∨ aBig ≤ j → h71 j = h j := fun j hj => by rw [e_h71]; exact (va_up_neq (frne0 hj hbig)).trans (FR_h66 j hj)
  clear F_h66_k F_h66__k_1_ F_h66__k_2_ F_h66__k_3_ F_h66__k_4_ F_h66__k_5_ F_h66__k_6_ F_h66__k_7_ F_h66__k_8_ F_h66__k_9_ F_h66__k_10_ F_h66__k_11_ F_h66__k_12_ F_h66__k_13_ F_h66__k_14_ F_h66__k_15_ F_h66__k_16_ F_h66__k_17_ F_h66__k_18_ FR_h66 e_h71
  clear h66
  refine WX.ret0 rfl ?_
  exact kk h71 FR_h71 ⟨F_h71_k, F_h71__k_1_, F_h71__k_2_, F_h71__k_3_, F_h71__k_4_, F_h71__k_5_, F_h71__k_6_, F_h71__k_7_, F_h71__k_8_, F_h71__k_9_, F_h71__k_10_, F_h71__k_11_, F_h71__k_12_, F_h71__k_13_, F_h71__k_14_, F_h71__k_15_, F_h71__k_16_, F_h71__k_17_, F_h71__k_18_, trivial⟩
def cCol_35_9 (b1 b2 : Nat) (k : Nat) : List aE := [.inr (1, [.ref b1, .ref b2, .int 9, .ref (k + 1), .ref (k + 2), .ref (k + 5), .int 0, .int 0, .int 0, .ref (k + 6), .ref (k + 13), .ref (k + 20), .ref (k + 6), .ref (k + 3), .int 0, .int 0, .int 0, .int 0]), .inl (1, 2667, .inl (fun _ => 0)), .inl (1, 2667, .inl (fun _ => 0)), .inr (7, [.ref (k + 4), .int 0, .int 0, .long 0, .int 0]), .inl (0, 128, .inl (fun _ => 0)), .inl (1, 36, .inl (fun _ => 0)), .inr (8, [.int 35, .ref (k + 7), .ref (k + 8), .ref (k + 9), .ref (k + 10), .ref (k + 11), .ref (k + 12), .int 0, .int 0]), .inl (1, 36, .inl (fun _ => 0)), .inl (1, 36, .inl (fun _ => 0)), .inl (1, 36, .inl (fun _ => 0)), .inl (1, 36, .inl (fun _ => 0)), .inl (1, 512, .inl (fun _ => 0)), .inl (1, 512, .inl (fun _ => 0)), .inr (8, [.int 35, .ref (k + 14), .ref (k + 15), .ref (k + 16), .ref (k + 17), .ref (k + 18), .ref (k + 19), .int 0, .int 0]), .inl (1, 36, .inl (fun _ => 0)), .inl (1, 36, .inl (fun _ => 0)), .inl (1, 36, .inl (fun _ => 0)), .inl (1, 36, .inl (fun _ => 0)), .inl (1, 512, .inl (fun _ => 0)), .inl (1, 512, .inl (fun _ => 0)), .inr (8, [.int 35, .ref (k + 21), .ref (k + 22), .ref (k + 23), .ref (k + 24), .ref (k + 25), .ref (k + 26), .int 0, .int 0]), .inl (1, 36, .inl (fun _ => 0)), .inl (1, 36, .inl (fun _ => 0)), .inl (1, 36, .inl (fun _ => 0)), .inl (1, 36, .inl (fun _ => 0)), .inl (1, 512, .inl (fun _ => 0)), .inl (1, 512, .inl (fun _ => 0))]
set_option maxRecDepth 20000 in
theorem n_col_35_9 {b1 b2 : Nat} {d s : Nat} {h : Nat → aE} {k : Nat} (hbig : k + 28 < aBig) (F_h_k : h k = .inr (1, zX1)) {Ψ : Option Value → aH → Prop} (kk : ∀ h', (∀ j, j < k ∨ aBig ≤ j → h' j = h j) → Cells h' k (cCol_35_9 b1 b2 k) → Ψ none (k + 27, s + 9034, h')) : WO (mM (d + 2)) 7 [.ref k, .ref b1, .ref b2, .int 35, .int 9] (k + 1, s, h) Ψ := by
  refine WO.of (Nat.le_of_ble_eq_true rfl) ?_
  have FR_h : ∀ j, j < k ∨ aBig ≤ j → h j = h j := fun _ _ => rfl
  show WX (lk tX1_init) (mM (d + 1)) Ψ 0 [(0, .ref k), (1, .ref b1), (2, .ref b2), (3, .int 35), (4, .int 9)] [] (k + 1, s, h)
  refine WX.s1 rfl rfl ?_
  refine WX.s1 rfl rfl ?_
  refine WX.s1 rfl rfl ?_
  refine WX.s1 rfl rfl ?_
  refine WX.newaN (N := 2667) (z0 := .inl (fun _ => 0)) rfl (by decide) (by decide) (bigk (k := k) (a := 2) hbig (by decide)) rfl (fun h8 e_h8 => ?_)
  have F_h8_k : h8 k = .inr (1, [.null, .null, .int 0, .null, .null, .null, .int 0, .int 0, .int 0, .null, .null, .null, .null, .null, .int 0, .int 0, .int 0, .int 0]) := by rw [e_h8, va_up_neq (nek1 (a := 1) (by decide))]; exact F_h_k
  have F_h8__k_1_ : h8 (k + 1) = .inl (1, 2667, .inl (fun _ => 0)) := by rw [e_h8]; exact va_up_eq
  have FR_h8 : ∀ j, j < k ∨ aBig ≤ j → h8 j = h j := fun j hj => by rw [e_h8]; exact (va_up_neq (frne (a := 1) hj hbig (by decide))).trans (FR_h j hj)
  clear F_h_k FR_h e_h8
  refine WX.put1 (fs := [.null, .null, .int 0, .null, .null, .null, .int 0, .int 0, .int 0, .null, .null, .null, .null, .null, .int 0, .int 0, .int 0, .int 0]) (fs' := [.null, .null, .int 0, .ref (k + 1), .null, .null, .int 0, .int 0, .int 0, .null, .null, .null, .null, .null, .int 0, .int 0, .int 0, .int 0]) rfl (ltk0 (c := 2) (by decide)) (F_h8_k) (Nat.le_of_ble_eq_true rfl) (rfl) rfl (fun h10 e_h10 => ?_)
  have F_h10_k : h10 k = .inr (1, [.null, .null, .int 0, .ref (k + 1), .null, .null, .int 0, .int 0, .int 0, .null, .null, .null, .null, .null, .int 0, .int 0, .int 0, .int 0]) := by rw [e_h10]; exact va_up_eq
  have F_h10__k_1_ : h10 (k + 1) = .inl (1, 2667, .inl (fun _ => 0)) := by rw [e_h10, va_up_neq (nek0 (a := 1) (by decide))]; exact F_h8__k_1_
  have FR_h10 : ∀ j, j < k ∨ aBig ≤ j → h10 j = h j := fun j hj => by rw [e_h10]; exact (va_up_neq (frne0 hj hbig)).trans (FR_h8 j hj)
  clear F_h8_k F_h8__k_1_ FR_h8 e_h10
  clear h8
  refine WX.s1 rfl rfl ?_
  refine WX.s1 rfl rfl ?_
  refine WX.newaN (N := 2667) (z0 := .inl (fun _ => 0)) rfl (by decide) (by decide) (bigk (k := k) (a := 3) hbig (by decide)) rfl (fun h17 e_h17 => ?_)
  have F_h17_k : h17 k = .inr (1, [.null, .null, .int 0, .ref (k + 1), .null, .null, .int 0, .int 0, .int 0, .null, .null, .null, .null, .null, .int 0, .int 0, .int 0, .int 0]) := by rw [e_h17, va_up_neq (nek1 (a := 2) (by decide))]; exact F_h10_k
  have F_h17__k_1_ : h17 (k + 1) = .inl (1, 2667, .inl (fun _ => 0)) := by rw [e_h17, va_up_neq (nek (a := 1) (b := 2) (by decide))]; exact F_h10__k_1_
  have F_h17__k_2_ : h17 (k + 2) = .inl (1, 2667, .inl (fun _ => 0)) := by rw [e_h17]; exact va_up_eq
  have FR_h17 : ∀ j, j < k ∨ aBig ≤ j → h17 j = h j := fun j hj => by rw [e_h17]; exact (va_up_neq (frne (a := 2) hj hbig (by decide))).trans (FR_h10 j hj)
  clear F_h10_k F_h10__k_1_ FR_h10 e_h17
  clear h10
  refine WX.put1 (fs := [.null, .null, .int 0, .ref (k + 1), .null, .null, .int 0, .int 0, .int 0, .null, .null, .null, .null, .null, .int 0, .int 0, .int 0, .int 0]) (fs' := [.null, .null, .int 0, .ref (k + 1), .ref (k + 2), .null, .int 0, .int 0, .int 0, .null, .null, .null, .null, .null, .int 0, .int 0, .int 0, .int 0]) rfl (ltk0 (c := 3) (by decide)) (F_h17_k) (Nat.le_of_ble_eq_true rfl) (rfl) rfl (fun h19 e_h19 => ?_)
  have F_h19_k : h19 k = .inr (1, [.null, .null, .int 0, .ref (k + 1), .ref (k + 2), .null, .int 0, .int 0, .int 0, .null, .null, .null, .null, .null, .int 0, .int 0, .int 0, .int 0]) := by rw [e_h19]; exact va_up_eq
  have F_h19__k_1_ : h19 (k + 1) = .inl (1, 2667, .inl (fun _ => 0)) := by rw [e_h19, va_up_neq (nek0 (a := 1) (by decide))]; exact F_h17__k_1_
  have F_h19__k_2_ : h19 (k + 2) = .inl (1, 2667, .inl (fun _ => 0)) := by rw [e_h19, va_up_neq (nek0 (a := 2) (by decide))]; exact F_h17__k_2_
  have FR_h19 : ∀ j, j < k ∨ aBig ≤ j → h19 j = h j := fun j hj => by rw [e_h19]; exact (va_up_neq (frne0 hj hbig)).trans (FR_h17 j hj)
  clear F_h17_k F_h17__k_1_ F_h17__k_2_ FR_h17 e_h19
  clear h17
  refine WX.s1 rfl rfl ?_
  refine WX.newN rfl (bigk (k := k) (a := 4) hbig (by decide)) (fun h23 e_h23 => ?_)
  have F_h23_k : h23 k = .inr (1, [.null, .null, .int 0, .ref (k + 1), .ref (k + 2), .null, .int 0, .int 0, .int 0, .null, .null, .null, .null, .null, .int 0, .int 0, .int 0, .int 0]) := by rw [e_h23, va_up_neq (nek1 (a := 3) (by decide))]; exact F_h19_k
  have F_h23__k_1_ : h23 (k + 1) = .inl (1, 2667, .inl (fun _ => 0)) := by rw [e_h23, va_up_neq (nek (a := 1) (b := 3) (by decide))]; exact F_h19__k_1_
  have F_h23__k_2_ : h23 (k + 2) = .inl (1, 2667, .inl (fun _ => 0)) := by rw [e_h23, va_up_neq (nek (a := 2) (b := 3) (by decide))]; exact F_h19__k_2_
  have F_h23__k_3_ : h23 (k + 3) = .inr (7, zX7) := by rw [e_h23]; exact va_up_eq
  have FR_h23 : ∀ j, j < k ∨ aBig ≤ j → h23 j = h j := fun j hj => by rw [e_h23]; exact (va_up_neq (frne (a := 3) hj hbig (by decide))).trans (FR_h19 j hj)
  clear F_h19_k F_h19__k_1_ F_h19__k_2_ FR_h19 e_h23
  clear h19
  refine WX.s1 rfl rfl ?_
  refine WX.s1 rfl rfl ?_
  refine WX.callC (vs := [.ref (k + 3), .int 128]) rfl rfl rfl (Nat.le_of_ble_eq_true rfl) (rcv_ok (ltk (a := 3) (c := 4) (by decide)) F_h23__k_3_) ?_
  refine n_row (N := 128) (k := k + 3) (bigk (k := k) (a := 5) hbig (by decide)) F_h23__k_3_ (by decide) (by decide) (fun h30 fr30 cs30 => ?_)
  have F_h30_k : h30 k = .inr (1, [.null, .null, .int 0, .ref (k + 1), .ref (k + 2), .null, .int 0, .int 0, .int 0, .null, .null, .null, .null, .null, .int 0, .int 0, .int 0, .int 0]) := (fr30 k (Or.inl (ltk0 (c := 3) (by decide)))).trans F_h23_k
  have F_h30__k_1_ : h30 (k + 1) = .inl (1, 2667, .inl (fun _ => 0)) := (fr30 (k + 1) (Or.inl (ltk (a := 1) (c := 3) (by decide)))).trans F_h23__k_1_
  have F_h30__k_2_ : h30 (k + 2) = .inl (1, 2667, .inl (fun _ => 0)) := (fr30 (k + 2) (Or.inl (ltk (a := 2) (c := 3) (by decide)))).trans F_h23__k_2_
  have F_h30__k_3_ : h30 (k + 3) = .inr (7, [.ref (k + 4), .int 0, .int 0, .long 0, .int 0]) := cs30.1
  have F_h30__k_4_ : h30 (k + 4) = .inl (0, 128, .inl (fun _ => 0)) := cs30.2.1
  have FR_h30 : ∀ j, j < k ∨ aBig ≤ j → h30 j = h j := fun j hj => (fr30 j (hj.imp (fun z => Nat.lt_of_lt_of_le z (Nat.le_add_right _ _)) (fun z => z))).trans (FR_h23 j hj)
  clear F_h23_k F_h23__k_1_ F_h23__k_2_ F_h23__k_3_ FR_h23 fr30 cs30
  clear h23
  show WX _ _ _ 33 [(0, .ref k), (1, .ref b1), (2, .ref b2), (3, .int 35), (4, .int 9)] [.ref (k + 3), .ref k] (k + 5, s + 2667 + 2667 + 5 + 128, h30)
  refine WX.put1 (fs := [.null, .null, .int 0, .ref (k + 1), .ref (k + 2), .null, .int 0, .int 0, .int 0, .null, .null, .null, .null, .null, .int 0, .int 0, .int 0, .int 0]) (fs' := [.null, .null, .int 0, .ref (k + 1), .ref (k + 2), .null, .int 0, .int 0, .int 0, .null, .null, .null, .null, .ref (k + 3), .int 0, .int 0, .int 0, .int 0]) rfl (ltk0 (c := 5) (by decide)) (F_h30_k) (Nat.le_of_ble_eq_true rfl) (rfl) rfl (fun h33 e_h33 => ?_)
  have F_h33_k : h33 k = .inr (1, [.null, .null, .int 0, .ref (k + 1), .ref (k + 2), .null, .int 0, .int 0, .int 0, .null, .null, .null, .null, .ref (k + 3), .int 0, .int 0, .int 0, .int 0]) := by rw [e_h33]; exact va_up_eq
  have F_h33__k_1_ : h33 (k + 1) = .inl (1, 2667, .inl (fun _ => 0)) := by rw [e_h33, va_up_neq (nek0 (a := 1) (by decide))]; exact F_h30__k_1_
  have F_h33__k_2_ : h33 (k + 2) = .inl (1, 2667, .inl (fun _ => 0)) := by rw [e_h33, va_up_neq (nek0 (a := 2) (by decide))]; exact F_h30__k_2_
  have F_h33__k_3_ : h33 (k + 3) = .inr (7, [.ref (k + 4), .int 0, .int 0, .long 0, .int 0]) := by rw [e_h33, va_up_neq (nek0 (a := 3) (by decide))]; exact F_h30__k_3_
  have F_h33__k_4_ : h33 (k + 4) = .inl (0, 128, .inl (fun _ => 0)) := by rw [e_h33, va_up_neq (nek0 (a := 4) (by decide))]; exact F_h30__k_4_
  have FR_h33 : ∀ j, j < k ∨ aBig ≤ j → h33 j = h j := fun j hj => by rw [e_h33]; exact (va_up_neq (frne0 hj hbig)).trans (FR_h30 j hj)
  clear F_h30_k F_h30__k_1_ F_h30__k_2_ F_h30__k_3_ F_h30__k_4_ FR_h30 e_h33
  clear h30
  refine WX.s1 rfl rfl ?_
  refine WX.s1 rfl rfl ?_
  refine WX.put1 (fs := [.null, .null, .int 0, .ref (k + 1), .ref (k + 2), .null, .int 0, .int 0, .int 0, .null, .null, .null, .null, .ref (k + 3), .int 0, .int 0, .int 0, .int 0]) (fs' := [.ref b1, .null, .int 0, .ref (k + 1), .ref (k + 2), .null, .int 0, .int 0, .int 0, .null, .null, .null, .null, .ref (k + 3), .int 0, .int 0, .int 0, .int 0]) rfl (ltk0 (c := 5) (by decide)) (F_h33_k) (Nat.le_of_ble_eq_true rfl) (rfl) rfl (fun h38 e_h38 => ?_)
  have F_h38_k : h38 k = .inr (1, [.ref b1, .null, .int 0, .ref (k + 1), .ref (k + 2), .null, .int 0, .int 0, .int 0, .null, .null, .null, .null, .ref (k + 3), .int 0, .int 0, .int 0, .int 0]) := by rw [e_h38]; exact va_up_eq
  have F_h38__k_1_ : h38 (k + 1) = .inl (1, 2667, .inl (fun _ => 0)) := by rw [e_h38, va_up_neq (nek0 (a := 1) (by decide))]; exact F_h33__k_1_
  have F_h38__k_2_ : h38 (k + 2) = .inl (1, 2667, .inl (fun _ => 0)) := by rw [e_h38, va_up_neq (nek0 (a := 2) (by decide))]; exact F_h33__k_2_
  have F_h38__k_3_ : h38 (k + 3) = .inr (7, [.ref (k + 4), .int 0, .int 0, .long 0, .int 0]) := by rw [e_h38, va_up_neq (nek0 (a := 3) (by decide))]; exact F_h33__k_3_
  have F_h38__k_4_ : h38 (k + 4) = .inl (0, 128, .inl (fun _ => 0)) := by rw [e_h38, va_up_neq (nek0 (a := 4) (by decide))]; exact F_h33__k_4_
  have FR_h38 : ∀ j, j < k ∨ aBig ≤ j → h38 j = h j := fun j hj => by rw [e_h38]; exact (va_up_neq (frne0 hj hbig)).trans (FR_h33 j hj)
  clear F_h33_k F_h33__k_1_ F_h33__k_2_ F_h33__k_3_ F_h33__k_4_ FR_h33 e_h38
  clear h33
  refine WX.s1 rfl rfl ?_
  refine WX.s1 rfl rfl ?_
  refine WX.put1 (fs := [.ref b1, .null, .int 0, .ref (k + 1), .ref (k + 2), .null, .int 0, .int 0, .int 0, .null, .null, .null, .null, .ref (k + 3), .int 0, .int 0, .int 0, .int 0]) (fs' := [.ref b1, .ref b2, .int 0, .ref (k + 1), .ref (k + 2), .null, .int 0, .int 0, .int 0, .null, .null, .null, .null, .ref (k + 3), .int 0, .int 0, .int 0, .int 0]) rfl (ltk0 (c := 5) (by decide)) (F_h38_k) (Nat.le_of_ble_eq_true rfl) (rfl) rfl (fun h43 e_h43 => ?_)
  have F_h43_k : h43 k = .inr (1, [.ref b1, .ref b2, .int 0, .ref (k + 1), .ref (k + 2), .null, .int 0, .int 0, .int 0, .null, .null, .null, .null, .ref (k + 3), .int 0, .int 0, .int 0, .int 0]) := by rw [e_h43]; exact va_up_eq
  have F_h43__k_1_ : h43 (k + 1) = .inl (1, 2667, .inl (fun _ => 0)) := by rw [e_h43, va_up_neq (nek0 (a := 1) (by decide))]; exact F_h38__k_1_
  have F_h43__k_2_ : h43 (k + 2) = .inl (1, 2667, .inl (fun _ => 0)) := by rw [e_h43, va_up_neq (nek0 (a := 2) (by decide))]; exact F_h38__k_2_
  have F_h43__k_3_ : h43 (k + 3) = .inr (7, [.ref (k + 4), .int 0, .int 0, .long 0, .int 0]) := by rw [e_h43, va_up_neq (nek0 (a := 3) (by decide))]; exact F_h38__k_3_
  have F_h43__k_4_ : h43 (k + 4) = .inl (0, 128, .inl (fun _ => 0)) := by rw [e_h43, va_up_neq (nek0 (a := 4) (by decide))]; exact F_h38__k_4_
  have FR_h43 : ∀ j, j < k ∨ aBig ≤ j → h43 j = h j := fun j hj => by rw [e_h43]; exact (va_up_neq (frne0 hj hbig)).trans (FR_h38 j hj)
  clear F_h38_k F_h38__k_1_ F_h38__k_2_ F_h38__k_3_ F_h38__k_4_ FR_h38 e_h43
  clear h38
  refine WX.s1 rfl rfl ?_
  refine WX.s1 rfl rfl ?_
  refine WX.putNI (fs := [.ref b1, .ref b2, .int 0, .ref (k + 1), .ref (k + 2), .null, .int 0, .int 0, .int 0, .null, .null, .null, .null, .ref (k + 3), .int 0, .int 0, .int 0, .int 0]) (fs' := fun f49 => [.ref b1, .ref b2, .int f49, .ref (k + 1), .ref (k + 2), .null, .int 0, .int 0, .int 0, .null, .null, .null, .null, .ref (k + 3), .int 0, .int 0, .int 0, .int 0]) rfl (ltk0 (c := 5) (by decide)) (F_h43_k) (Nat.le_of_ble_eq_true rfl) (fun _ => rfl) (fun f49 h49 e_f49 e_h49 => ?_)
  try dsimp only at e_f49
  have F_h49_k : h49 k = .inr (1, [.ref b1, .ref b2, .int f49, .ref (k + 1), .ref (k + 2), .null, .int 0, .int 0, .int 0, .null, .null, .null, .null, .ref (k + 3), .int 0, .int 0, .int 0, .int 0]) := by rw [e_h49]; exact va_up_eq
  have F_h49__k_1_ : h49 (k + 1) = .inl (1, 2667, .inl (fun _ => 0)) := by rw [e_h49, va_up_neq (nek0 (a := 1) (by decide))]; exact F_h43__k_1_
  have F_h49__k_2_ : h49 (k + 2) = .inl (1, 2667, .inl (fun _ => 0)) := by rw [e_h49, va_up_neq (nek0 (a := 2) (by decide))]; exact F_h43__k_2_
  have F_h49__k_3_ : h49 (k + 3) = .inr (7, [.ref (k + 4), .int 0, .int 0, .long 0, .int 0]) := by rw [e_h49, va_up_neq (nek0 (a := 3) (by decide))]; exact F_h43__k_3_
  have F_h49__k_4_ : h49 (k + 4) = .inl (0, 128, .inl (fun _ => 0)) := by rw [e_h49, va_up_neq (nek0 (a := 4) (by decide))]; exact F_h43__k_4_
  have FR_h49 : ∀ j, j < k ∨ aBig ≤ j → h49 j = h j := fun j hj => by rw [e_h49]; exact (va_up_neq (frne0 hj hbig)).trans (FR_h43 j hj)
  clear F_h43_k F_h43__k_1_ F_h43__k_2_ F_h43__k_3_ F_h43__k_4_ FR_h43 e_h49
  clear h43
  obtain rfl : f49 = 9 := e_f49
  refine WX.s1 rfl rfl ?_
  refine WX.s1 rfl rfl ?_
  refine WX.s1 rfl rfl ?_
  refine WX.s1 rfl rfl ?_
  refine WX.s1 rfl rfl ?_
  refine WX.s1 rfl rfl ?_
  refine WX.newaN (N := 36) (z0 := .inl (fun _ => 0)) rfl (by decide) (by decide) (bigk (k := k) (a := 6) hbig (by decide)) rfl (fun h60 e_h60 => ?_)
  have F_h60_k : h60 k = .inr (1, [.ref b1, .ref b2, .int 9, .ref (k + 1), .ref (k + 2), .null, .int 0, .int 0, .int 0, .null, .null, .null, .null, .ref (k + 3), .int 0, .int 0, .int 0, .int 0]) := by rw [e_h60, va_up_neq (nek1 (a := 5) (by decide))]; exact F_h49_k
  have F_h60__k_1_ : h60 (k + 1) = .inl (1, 2667, .inl (fun _ => 0)) := by rw [e_h60, va_up_neq (nek (a := 1) (b := 5) (by decide))]; exact F_h49__k_1_
  have F_h60__k_2_ : h60 (k + 2) = .inl (1, 2667, .inl (fun _ => 0)) := by rw [e_h60, va_up_neq (nek (a := 2) (b := 5) (by decide))]; exact F_h49__k_2_
  have F_h60__k_3_ : h60 (k + 3) = .inr (7, [.ref (k + 4), .int 0, .int 0, .long 0, .int 0]) := by rw [e_h60, va_up_neq (nek (a := 3) (b := 5) (by decide))]; exact F_h49__k_3_
  have F_h60__k_4_ : h60 (k + 4) = .inl (0, 128, .inl (fun _ => 0)) := by rw [e_h60, va_up_neq (nek (a := 4) (b := 5) (by decide))]; exact F_h49__k_4_
  have F_h60__k_5_ : h60 (k + 5) = .inl (1, 36, .inl (fun _ => 0)) := by rw [e_h60]; exact va_up_eq
  have FR_h60 : ∀ j, j < k ∨ aBig ≤ j → h60 j = h j := fun j hj => by rw [e_h60]; exact (va_up_neq (frne (a := 5) hj hbig (by decide))).trans (FR_h49 j hj)
  clear F_h49_k F_h49__k_1_ F_h49__k_2_ F_h49__k_3_ F_h49__k_4_ FR_h49 e_h60
  clear h49
  refine WX.put1 (fs := [.ref b1, .ref b2, .int 9, .ref (k + 1), .ref (k + 2), .null, .int 0, .int 0, .int 0, .null, .null, .null, .null, .ref (k + 3), .int 0, .int 0, .int 0, .int 0]) (fs' := [.ref b1, .ref b2, .int 9, .ref (k + 1), .ref (k + 2), .ref (k + 5), .int 0, .int 0, .int 0, .null, .null, .null, .null, .ref (k + 3), .int 0, .int 0, .int 0, .int 0]) rfl (ltk0 (c := 6) (by decide)) (F_h60_k) (Nat.le_of_ble_eq_true rfl) (rfl) rfl (fun h62 e_h62 => ?_)
  have F_h62_k : h62 k = .inr (1, [.ref b1, .ref b2, .int 9, .ref (k + 1), .ref (k + 2), .ref (k + 5), .int 0, .int 0, .int 0, .null, .null, .null, .null, .ref (k + 3), .int 0, .int 0, .int 0, .int 0]) := by rw [e_h62]; exact va_up_eq
  have F_h62__k_1_ : h62 (k + 1) = .inl (1, 2667, .inl (fun _ => 0)) := by rw [e_h62, va_up_neq (nek0 (a := 1) (by decide))]; exact F_h60__k_1_
  have F_h62__k_2_ : h62 (k + 2) = .inl (1, 2667, .inl (fun _ => 0)) := by rw [e_h62, va_up_neq (nek0 (a := 2) (by decide))]; exact F_h60__k_2_
  have F_h62__k_3_ : h62 (k + 3) = .inr (7, [.ref (k + 4), .int 0, .int 0, .long 0, .int 0]) := by rw [e_h62, va_up_neq (nek0 (a := 3) (by decide))]; exact F_h60__k_3_
  have F_h62__k_4_ : h62 (k + 4) = .inl (0, 128, .inl (fun _ => 0)) := by rw [e_h62, va_up_neq (nek0 (a := 4) (by decide))]; exact F_h60__k_4_
  have F_h62__k_5_ : h62 (k + 5) = .inl (1, 36, .inl (fun _ => 0)) := by rw [e_h62, va_up_neq (nek0 (a := 5) (by decide))]; exact F_h60__k_5_
  have FR_h62 : ∀ j, j < k ∨ aBig ≤ j → h62 j = h j := fun j hj => by rw [e_h62]; exact (va_up_neq (frne0 hj hbig)).trans (FR_h60 j hj)
  clear F_h60_k F_h60__k_1_ F_h60__k_2_ F_h60__k_3_ F_h60__k_4_ F_h60__k_5_ FR_h60 e_h62
  clear h60
  refine WX.s1 rfl rfl ?_
  refine WX.newN rfl (bigk (k := k) (a := 7) hbig (by decide)) (fun h66 e_h66 => ?_)
  have F_h66_k : h66 k = .inr (1, [.ref b1, .ref b2, .int 9, .ref (k + 1), .ref (k + 2), .ref (k + 5), .int 0, .int 0, .int 0, .null, .null, .null, .null, .ref (k + 3), .int 0, .int 0, .int 0, .int 0]) := by rw [e_h66, va_up_neq (nek1 (a := 6) (by decide))]; exact F_h62_k
  have F_h66__k_1_ : h66 (k + 1) = .inl (1, 2667, .inl (fun _ => 0)) := by rw [e_h66, va_up_neq (nek (a := 1) (b := 6) (by decide))]; exact F_h62__k_1_
  have F_h66__k_2_ : h66 (k + 2) = .inl (1, 2667, .inl (fun _ => 0)) := by rw [e_h66, va_up_neq (nek (a := 2) (b := 6) (by decide))]; exact F_h62__k_2_
  have F_h66__k_3_ : h66 (k + 3) = .inr (7, [.ref (k + 4), .int 0, .int 0, .long 0, .int 0]) := by rw [e_h66, va_up_neq (nek (a := 3) (b := 6) (by decide))]; exact F_h62__k_3_
  have F_h66__k_4_ : h66 (k + 4) = .inl (0, 128, .inl (fun _ => 0)) := by rw [e_h66, va_up_neq (nek (a := 4) (b := 6) (by decide))]; exact F_h62__k_4_
  have F_h66__k_5_ : h66 (k + 5) = .inl (1, 36, .inl (fun _ => 0)) := by rw [e_h66, va_up_neq (nek (a := 5) (b := 6) (by decide))]; exact F_h62__k_5_
  have F_h66__k_6_ : h66 (k + 6) = .inr (8, zX8) := by rw [e_h66]; exact va_up_eq
  have FR_h66 : ∀ j, j < k ∨ aBig ≤ j → h66 j = h j := fun j hj => by rw [e_h66]; exact (va_up_neq (frne (a := 6) hj hbig (by decide))).trans (FR_h62 j hj)
  clear F_h62_k F_h62__k_1_ F_h62__k_2_ F_h62__k_3_ F_h62__k_4_ F_h62__k_5_ FR_h62 e_h66
  clear h62
  refine WX.s1 rfl rfl ?_
  refine WX.s1 rfl rfl ?_
  refine WX.s1 rfl rfl ?_
  refine WX.callC (vs := [.ref (k + 6), .int 35, .int 9]) rfl rfl rfl (Nat.le_of_ble_eq_true rfl) (rcv_ok (ltk (a := 6) (c := 7) (by decide)) F_h66__k_6_) ?_
  refine n_share_35_9 (k := k + 6) (bigk (k := k) (a := 14) hbig (by decide)) F_h66__k_6_ (fun h73 fr73 cs73 => ?_)
  have F_h73_k : h73 k = .inr (1, [.ref b1, .ref b2, .int 9, .ref (k + 1), .ref (k + 2), .ref (k + 5), .int 0, .int 0, .int 0, .null, .null, .null, .null, .ref (k + 3), .int 0, .int 0, .int 0, .int 0]) := (fr73 k (Or.inl (ltk0 (c := 6) (by decide)))).trans F_h66_k
  have F_h73__k_1_ : h73 (k + 1) = .inl (1, 2667, .inl (fun _ => 0)) := (fr73 (k + 1) (Or.inl (ltk (a := 1) (c := 6) (by decide)))).trans F_h66__k_1_
  have F_h73__k_2_ : h73 (k + 2) = .inl (1, 2667, .inl (fun _ => 0)) := (fr73 (k + 2) (Or.inl (ltk (a := 2) (c := 6) (by decide)))).trans F_h66__k_2_
  have F_h73__k_3_ : h73 (k + 3) = .inr (7, [.ref (k + 4), .int 0, .int 0, .long 0, .int 0]) := (fr73 (k + 3) (Or.inl (ltk (a := 3) (c := 6) (by decide)))).trans F_h66__k_3_
  have F_h73__k_4_ : h73 (k + 4) = .inl (0, 128, .inl (fun _ => 0)) := (fr73 (k + 4) (Or.inl (ltk (a := 4) (c := 6) (by decide)))).trans F_h66__k_4_
  have F_h73__k_5_ : h73 (k + 5) = .inl (1, 36, .inl (fun _ => 0)) := (fr73 (k + 5) (Or.inl (ltk (a := 5) (c := 6) (by decide)))).trans F_h66__k_5_
  have F_h73__k_6_ : h73 (k + 6) = .inr (8, [.int 35, .ref (k + 7), .ref (k + 8), .ref (k + 9), .ref (k + 10), .ref (k + 11), .ref (k + 12), .int 0, .int 0]) := cs73.1
  have F_h73__k_7_ : h73 (k + 7) = .inl (1, 36, .inl (fun _ => 0)) := cs73.2.1
  have F_h73__k_8_ : h73 (k + 8) = .inl (1, 36, .inl (fun _ => 0)) := cs73.2.2.1
  have F_h73__k_9_ : h73 (k + 9) = .inl (1, 36, .inl (fun _ => 0)) := cs73.2.2.2.1
  have F_h73__k_10_ : h73 (k + 10) = .inl (1, 36, .inl (fun _ => 0)) := cs73.2.2.2.2.1
  have F_h73__k_11_ : h73 (k + 11) = .inl (1, 512, .inl (fun _ => 0)) := cs73.2.2.2.2.2.1
  have F_h73__k_12_ : h73 (k + 12) = .inl (1, 512, .inl (fun _ => 0)) := cs73.2.2.2.2.2.2.1
  have FR_h73 : ∀ j, j < k ∨ aBig ≤ j → h73 j = h j := fun j hj => (fr73 j (hj.imp (fun z => Nat.lt_of_lt_of_le z (Nat.le_add_right _ _)) (fun z => z))).trans (FR_h66 j hj)
  clear F_h66_k F_h66__k_1_ F_h66__k_2_ F_h66__k_3_ F_h66__k_4_ F_h66__k_5_ F_h66__k_6_ FR_h66 fr73 cs73
  clear h66
  show WX _ _ _ 76 [(0, .ref k), (1, .ref b1), (2, .ref b2), (3, .int 35), (4, .int 9)] [.ref (k + 6), .ref k] (k + 13, s + 2667 + 2667 + 5 + 128 + 36 + 9 + 1168, h73)
  refine WX.put1 (fs := [.ref b1, .ref b2, .int 9, .ref (k + 1), .ref (k + 2), .ref (k + 5), .int 0, .int 0, .int 0, .null, .null, .null, .null, .ref (k + 3), .int 0, .int 0, .int 0, .int 0]) (fs' := [.ref b1, .ref b2, .int 9, .ref (k + 1), .ref (k + 2), .ref (k + 5), .int 0, .int 0, .int 0, .ref (k + 6), .null, .null, .null, .ref (k + 3), .int 0, .int 0, .int 0, .int 0]) rfl (ltk0 (c := 13) (by decide)) (F_h73_k) (Nat.le_of_ble_eq_true rfl) (rfl) rfl (fun h76 e_h76 => ?_)
  have F_h76_k : h76 k = .inr (1, [.ref b1, .ref b2, .int 9, .ref (k + 1), .ref (k + 2), .ref (k + 5), .int 0, .int 0, .int 0, .ref (k + 6), .null, .null, .null, .ref (k + 3), .int 0, .int 0, .int 0, .int 0]) := by rw [e_h76]; exact va_up_eq
  have F_h76__k_1_ : h76 (k + 1) = .inl (1, 2667, .inl (fun _ => 0)) := by rw [e_h76, va_up_neq (nek0 (a := 1) (by decide))]; exact F_h73__k_1_
  have F_h76__k_2_ : h76 (k + 2) = .inl (1, 2667, .inl (fun _ => 0)) := by rw [e_h76, va_up_neq (nek0 (a := 2) (by decide))]; exact F_h73__k_2_
  have F_h76__k_3_ : h76 (k + 3) = .inr (7, [.ref (k + 4), .int 0, .int 0, .long 0, .int 0]) := by rw [e_h76, va_up_neq (nek0 (a := 3) (by decide))]; exact F_h73__k_3_
  have F_h76__k_4_ : h76 (k + 4) = .inl (0, 128, .inl (fun _ => 0)) := by rw [e_h76, va_up_neq (nek0 (a := 4) (by decide))]; exact F_h73__k_4_
  have F_h76__k_5_ : h76 (k + 5) = .inl (1, 36, .inl (fun _ => 0)) := by rw [e_h76, va_up_neq (nek0 (a := 5) (by decide))]; exact F_h73__k_5_
  have F_h76__k_6_ : h76 (k + 6) = .inr (8, [.int 35, .ref (k + 7), .ref (k + 8), .ref (k + 9), .ref (k + 10), .ref (k + 11), .ref (k + 12), .int 0, .int 0]) := by rw [e_h76, va_up_neq (nek0 (a := 6) (by decide))]; exact F_h73__k_6_
  have F_h76__k_7_ : h76 (k + 7) = .inl (1, 36, .inl (fun _ => 0)) := by rw [e_h76, va_up_neq (nek0 (a := 7) (by decide))]; exact F_h73__k_7_
  have F_h76__k_8_ : h76 (k + 8) = .inl (1, 36, .inl (fun _ => 0)) := by rw [e_h76, va_up_neq (nek0 (a := 8) (by decide))]; exact F_h73__k_8_
  have F_h76__k_9_ : h76 (k + 9) = .inl (1, 36, .inl (fun _ => 0)) := by rw [e_h76, va_up_neq (nek0 (a := 9) (by decide))]; exact F_h73__k_9_
  have F_h76__k_10_ : h76 (k + 10) = .inl (1, 36, .inl (fun _ => 0)) := by rw [e_h76, va_up_neq (nek0 (a := 10) (by decide))]; exact F_h73__k_10_
  have F_h76__k_11_ : h76 (k + 11) = .inl (1, 512, .inl (fun _ => 0)) := by rw [e_h76, va_up_neq (nek0 (a := 11) (by decide))]; exact F_h73__k_11_
  have F_h76__k_12_ : h76 (k + 12) = .inl (1, 512, .inl (fun _ => 0)) := by rw [e_h76, va_up_neq (nek0 (a := 12) (by decide))]; exact F_h73__k_12_
  have FR_h76 : ∀ j, j < k ∨ aBig ≤ j → h76 j = h j := fun j hj => by rw [e_h76]; exact (va_up_neq (frne0 hj hbig)).trans (FR_h73 j hj)
  clear F_h73_k F_h73__k_1_ F_h73__k_2_ F_h73__k_3_ F_h73__k_4_ F_h73__k_5_ F_h73__k_6_ F_h73__k_7_ F_h73__k_8_ F_h73__k_9_ F_h73__k_10_ F_h73__k_11_ F_h73__k_12_ FR_h73 e_h76
  clear h73
  refine WX.s1 rfl rfl ?_
  refine WX.newN rfl (bigk (k := k) (a := 14) hbig (by decide)) (fun h80 e_h80 => ?_)
  have F_h80_k : h80 k = .inr (1, [.ref b1, .ref b2, .int 9, .ref (k + 1), .ref (k + 2), .ref (k + 5), .int 0, .int 0, .int 0, .ref (k + 6), .null, .null, .null, .ref (k + 3), .int 0, .int 0, .int 0, .int 0]) := by rw [e_h80, va_up_neq (nek1 (a := 13) (by decide))]; exact F_h76_k
  have F_h80__k_1_ : h80 (k + 1) = .inl (1, 2667, .inl (fun _ => 0)) := by rw [e_h80, va_up_neq (nek (a := 1) (b := 13) (by decide))]; exact F_h76__k_1_
  have F_h80__k_2_ : h80 (k + 2) = .inl (1, 2667, .inl (fun _ => 0)) := by rw [e_h80, va_up_neq (nek (a := 2) (b := 13) (by decide))]; exact F_h76__k_2_
  have F_h80__k_3_ : h80 (k + 3) = .inr (7, [.ref (k + 4), .int 0, .int 0, .long 0, .int 0]) := by rw [e_h80, va_up_neq (nek (a := 3) (b := 13) (by decide))]; exact F_h76__k_3_
  have F_h80__k_4_ : h80 (k + 4) = .inl (0, 128, .inl (fun _ => 0)) := by rw [e_h80, va_up_neq (nek (a := 4) (b := 13) (by decide))]; exact F_h76__k_4_
  have F_h80__k_5_ : h80 (k + 5) = .inl (1, 36, .inl (fun _ => 0)) := by rw [e_h80, va_up_neq (nek (a := 5) (b := 13) (by decide))]; exact F_h76__k_5_
  have F_h80__k_6_ : h80 (k + 6) = .inr (8, [.int 35, .ref (k + 7), .ref (k + 8), .ref (k + 9), .ref (k + 10), .ref (k + 11), .ref (k + 12), .int 0, .int 0]) := by rw [e_h80, va_up_neq (nek (a := 6) (b := 13) (by decide))]; exact F_h76__k_6_
  have F_h80__k_7_ : h80 (k + 7) = .inl (1, 36, .inl (fun _ => 0)) := by rw [e_h80, va_up_neq (nek (a := 7) (b := 13) (by decide))]; exact F_h76__k_7_
  have F_h80__k_8_ : h80 (k + 8) = .inl (1, 36, .inl (fun _ => 0)) := by rw [e_h80, va_up_neq (nek (a := 8) (b := 13) (by decide))]; exact F_h76__k_8_
  have F_h80__k_9_ : h80 (k + 9) = .inl (1, 36, .inl (fun _ => 0)) := by rw [e_h80, va_up_neq (nek (a := 9) (b := 13) (by decide))]; exact F_h76__k_9_
  have F_h80__k_10_ : h80 (k + 10) = .inl (1, 36, .inl (fun _ => 0)) := by rw [e_h80, va_up_neq (nek (a := 10) (b := 13) (by decide))]; exact F_h76__k_10_
  have F_h80__k_11_ : h80 (k + 11) = .inl (1, 512, .inl (fun _ => 0)) := by rw [e_h80, va_up_neq (nek (a := 11) (b := 13) (by decide))]; exact F_h76__k_11_
  have F_h80__k_12_ : h80 (k + 12) = .inl (1, 512, .inl (fun _ => 0)) := by rw [e_h80, va_up_neq (nek (a := 12) (b := 13) (by decide))]; exact F_h76__k_12_
  have F_h80__k_13_ : h80 (k + 13) = .inr (8, zX8) := by rw [e_h80]; exact va_up_eq
  have FR_h80 : ∀ j, j < k ∨ aBig ≤ j → h80 j = h j := fun j hj => by rw [e_h80]; exact (va_up_neq (frne (a := 13) hj hbig (by decide))).trans (FR_h76 j hj)
  clear F_h76_k F_h76__k_1_ F_h76__k_2_ F_h76__k_3_ F_h76__k_4_ F_h76__k_5_ F_h76__k_6_ F_h76__k_7_ F_h76__k_8_ F_h76__k_9_ F_h76__k_10_ F_h76__k_11_ F_h76__k_12_ FR_h76 e_h80
  clear h76
  refine WX.s1 rfl rfl ?_
  refine WX.s1 rfl rfl ?_
  refine WX.s1 rfl rfl ?_
  refine WX.callC (vs := [.ref (k + 13), .int 35, .int 9]) rfl rfl rfl (Nat.le_of_ble_eq_true rfl) (rcv_ok (ltk (a := 13) (c := 14) (by decide)) F_h80__k_13_) ?_
  refine n_share_35_9 (k := k + 13) (bigk (k := k) (a := 21) hbig (by decide)) F_h80__k_13_ (fun h87 fr87 cs87 => ?_)
  have F_h87_k : h87 k = .inr (1, [.ref b1, .ref b2, .int 9, .ref (k + 1), .ref (k + 2), .ref (k + 5), .int 0, .int 0, .int 0, .ref (k + 6), .null, .null, .null, .ref (k + 3), .int 0, .int 0, .int 0, .int 0]) := (fr87 k (Or.inl (ltk0 (c := 13) (by decide)))).trans F_h80_k
  have F_h87__k_1_ : h87 (k + 1) = .inl (1, 2667, .inl (fun _ => 0)) := (fr87 (k + 1) (Or.inl (ltk (a := 1) (c := 13) (by decide)))).trans F_h80__k_1_
  have F_h87__k_2_ : h87 (k + 2) = .inl (1, 2667, .inl (fun _ => 0)) := (fr87 (k + 2) (Or.inl (ltk (a := 2) (c := 13) (by decide)))).trans F_h80__k_2_
  have F_h87__k_3_ : h87 (k + 3) = .inr (7, [.ref (k + 4), .int 0, .int 0, .long 0, .int 0]) := (fr87 (k + 3) (Or.inl (ltk (a := 3) (c := 13) (by decide)))).trans F_h80__k_3_
  have F_h87__k_4_ : h87 (k + 4) = .inl (0, 128, .inl (fun _ => 0)) := (fr87 (k + 4) (Or.inl (ltk (a := 4) (c := 13) (by decide)))).trans F_h80__k_4_
  have F_h87__k_5_ : h87 (k + 5) = .inl (1, 36, .inl (fun _ => 0)) := (fr87 (k + 5) (Or.inl (ltk (a := 5) (c := 13) (by decide)))).trans F_h80__k_5_
  have F_h87__k_6_ : h87 (k + 6) = .inr (8, [.int 35, .ref (k + 7), .ref (k + 8), .ref (k + 9), .ref (k + 10), .ref (k + 11), .ref (k + 12), .int 0, .int 0]) := (fr87 (k + 6) (Or.inl (ltk (a := 6) (c := 13) (by decide)))).trans F_h80__k_6_
  have F_h87__k_7_ : h87 (k + 7) = .inl (1, 36, .inl (fun _ => 0)) := (fr87 (k + 7) (Or.inl (ltk (a := 7) (c := 13) (by decide)))).trans F_h80__k_7_
  have F_h87__k_8_ : h87 (k + 8) = .inl (1, 36, .inl (fun _ => 0)) := (fr87 (k + 8) (Or.inl (ltk (a := 8) (c := 13) (by decide)))).trans F_h80__k_8_
  have F_h87__k_9_ : h87 (k + 9) = .inl (1, 36, .inl (fun _ => 0)) := (fr87 (k + 9) (Or.inl (ltk (a := 9) (c := 13) (by decide)))).trans F_h80__k_9_
  have F_h87__k_10_ : h87 (k + 10) = .inl (1, 36, .inl (fun _ => 0)) := (fr87 (k + 10) (Or.inl (ltk (a := 10) (c := 13) (by decide)))).trans F_h80__k_10_
  have F_h87__k_11_ : h87 (k + 11) = .inl (1, 512, .inl (fun _ => 0)) := (fr87 (k + 11) (Or.inl (ltk (a := 11) (c := 13) (by decide)))).trans F_h80__k_11_
  have F_h87__k_12_ : h87 (k + 12) = .inl (1, 512, .inl (fun _ => 0)) := (fr87 (k + 12) (Or.inl (ltk (a := 12) (c := 13) (by decide)))).trans F_h80__k_12_
  have F_h87__k_13_ : h87 (k + 13) = .inr (8, [.int 35, .ref (k + 14), .ref (k + 15), .ref (k + 16), .ref (k + 17), .ref (k + 18), .ref (k + 19), .int 0, .int 0]) := cs87.1
  have F_h87__k_14_ : h87 (k + 14) = .inl (1, 36, .inl (fun _ => 0)) := cs87.2.1
  have F_h87__k_15_ : h87 (k + 15) = .inl (1, 36, .inl (fun _ => 0)) := cs87.2.2.1
  have F_h87__k_16_ : h87 (k + 16) = .inl (1, 36, .inl (fun _ => 0)) := cs87.2.2.2.1
  have F_h87__k_17_ : h87 (k + 17) = .inl (1, 36, .inl (fun _ => 0)) := cs87.2.2.2.2.1
  have F_h87__k_18_ : h87 (k + 18) = .inl (1, 512, .inl (fun _ => 0)) := cs87.2.2.2.2.2.1
  have F_h87__k_19_ : h87 (k + 19) = .inl (1, 512, .inl (fun _ => 0)) := cs87.2.2.2.2.2.2.1
  have FR_h87 : ∀ j, j < k ∨ aBig ≤ j → h87 j = h j := fun j hj => (fr87 j (hj.imp (fun z => Nat.lt_of_lt_of_le z (Nat.le_add_right _ _)) (fun z => z))).trans (FR_h80 j hj)
  clear F_h80_k F_h80__k_1_ F_h80__k_2_ F_h80__k_3_ F_h80__k_4_ F_h80__k_5_ F_h80__k_6_ F_h80__k_7_ F_h80__k_8_ F_h80__k_9_ F_h80__k_10_ F_h80__k_11_ F_h80__k_12_ F_h80__k_13_ FR_h80 fr87 cs87
  clear h80
  show WX _ _ _ 90 [(0, .ref k), (1, .ref b1), (2, .ref b2), (3, .int 35), (4, .int 9)] [.ref (k + 13), .ref k] (k + 20, s + 2667 + 2667 + 5 + 128 + 36 + 9 + 1168 + 9 + 1168, h87)
  refine WX.put1 (fs := [.ref b1, .ref b2, .int 9, .ref (k + 1), .ref (k + 2), .ref (k + 5), .int 0, .int 0, .int 0, .ref (k + 6), .null, .null, .null, .ref (k + 3), .int 0, .int 0, .int 0, .int 0]) (fs' := [.ref b1, .ref b2, .int 9, .ref (k + 1), .ref (k + 2), .ref (k + 5), .int 0, .int 0, .int 0, .ref (k + 6), .ref (k + 13), .null, .null, .ref (k + 3), .int 0, .int 0, .int 0, .int 0]) rfl (ltk0 (c := 20) (by decide)) (F_h87_k) (Nat.le_of_ble_eq_true rfl) (rfl) rfl (fun h90 e_h90 => ?_)
  have F_h90_k : h90 k = .inr (1, [.ref b1, .ref b2, .int 9, .ref (k + 1), .ref (k + 2), .ref (k + 5), .int 0, .int 0, .int 0, .ref (k + 6), .ref (k + 13), .null, .null, .ref (k + 3), .int 0, .int 0, .int 0, .int 0]) := by rw [e_h90]; exact va_up_eq
  have F_h90__k_1_ : h90 (k + 1) = .inl (1, 2667, .inl (fun _ => 0)) := by rw [e_h90, va_up_neq (nek0 (a := 1) (by decide))]; exact F_h87__k_1_
  have F_h90__k_2_ : h90 (k + 2) = .inl (1, 2667, .inl (fun _ => 0)) := by rw [e_h90, va_up_neq (nek0 (a := 2) (by decide))]; exact F_h87__k_2_
  have F_h90__k_3_ : h90 (k + 3) = .inr (7, [.ref (k + 4), .int 0, .int 0, .long 0, .int 0]) := by rw [e_h90, va_up_neq (nek0 (a := 3) (by decide))]; exact F_h87__k_3_
  have F_h90__k_4_ : h90 (k + 4) = .inl (0, 128, .inl (fun _ => 0)) := by rw [e_h90, va_up_neq (nek0 (a := 4) (by decide))]; exact F_h87__k_4_
  have F_h90__k_5_ : h90 (k + 5) = .inl (1, 36, .inl (fun _ => 0)) := by rw [e_h90, va_up_neq (nek0 (a := 5) (by decide))]; exact F_h87__k_5_
  have F_h90__k_6_ : h90 (k + 6) = .inr (8, [.int 35, .ref (k + 7), .ref (k + 8), .ref (k + 9), .ref (k + 10), .ref (k + 11), .ref (k + 12), .int 0, .int 0]) := by rw [e_h90, va_up_neq (nek0 (a := 6) (by decide))]; exact F_h87__k_6_
  have F_h90__k_7_ : h90 (k + 7) = .inl (1, 36, .inl (fun _ => 0)) := by rw [e_h90, va_up_neq (nek0 (a := 7) (by decide))]; exact F_h87__k_7_
  have F_h90__k_8_ : h90 (k + 8) = .inl (1, 36, .inl (fun _ => 0)) := by rw [e_h90, va_up_neq (nek0 (a := 8) (by decide))]; exact F_h87__k_8_
  have F_h90__k_9_ : h90 (k + 9) = .inl (1, 36, .inl (fun _ => 0)) := by rw [e_h90, va_up_neq (nek0 (a := 9) (by decide))]; exact F_h87__k_9_
  have F_h90__k_10_ : h90 (k + 10) = .inl (1, 36, .inl (fun _ => 0)) := by rw [e_h90, va_up_neq (nek0 (a := 10) (by decide))]; exact F_h87__k_10_
  have F_h90__k_11_ : h90 (k + 11) = .inl (1, 512, .inl (fun _ => 0)) := by rw [e_h90, va_up_neq (nek0 (a := 11) (by decide))]; exact F_h87__k_11_
  have F_h90__k_12_ : h90 (k + 12) = .inl (1, 512, .inl (fun _ => 0)) := by rw [e_h90, va_up_neq (nek0 (a := 12) (by decide))]; exact F_h87__k_12_
  have F_h90__k_13_ : h90 (k + 13) = .inr (8, [.int 35, .ref (k + 14), .ref (k + 15), .ref (k + 16), .ref (k + 17), .ref (k + 18), .ref (k + 19), .int 0, .int 0]) := by rw [e_h90, va_up_neq (nek0 (a := 13) (by decide))]; exact F_h87__k_13_
  have F_h90__k_14_ : h90 (k + 14) = .inl (1, 36, .inl (fun _ => 0)) := by rw [e_h90, va_up_neq (nek0 (a := 14) (by decide))]; exact F_h87__k_14_
  have F_h90__k_15_ : h90 (k + 15) = .inl (1, 36, .inl (fun _ => 0)) := by rw [e_h90, va_up_neq (nek0 (a := 15) (by decide))]; exact F_h87__k_15_
  have F_h90__k_16_ : h90 (k + 16) = .inl (1, 36, .inl (fun _ => 0)) := by rw [e_h90, va_up_neq (nek0 (a := 16) (by decide))]; exact F_h87__k_16_
  have F_h90__k_17_ : h90 (k + 17) = .inl (1, 36, .inl (fun _ => 0)) := by rw [e_h90, va_up_neq (nek0 (a := 17) (by decide))]; exact F_h87__k_17_
  have F_h90__k_18_ : h90 (k + 18) = .inl (1, 512, .inl (fun _ => 0)) := by rw [e_h90, va_up_neq (nek0 (a := 18) (by decide))]; exact F_h87__k_18_
  have F_h90__k_19_ : h90 (k + 19) = .inl (1, 512, .inl (fun _ => 0)) := by rw [e_h90, va_up_neq (nek0 (a := 19) (by decide))]; exact F_h87__k_19_
  have FR_h90 : ∀ j, j < k ∨ aBig ≤ j → h90 j = h j := fun j hj => by rw [e_h90]; exact (va_up_neq (frne0 hj hbig)).trans (FR_h87 j hj)
  clear F_h87_k F_h87__k_1_ F_h87__k_2_ F_h87__k_3_ F_h87__k_4_ F_h87__k_5_ F_h87__k_6_ F_h87__k_7_ F_h87__k_8_ F_h87__k_9_ F_h87__k_10_ F_h87__k_11_ F_h87__k_12_ F_h87__k_13_ F_h87__k_14_ F_h87__k_15_ F_h87__k_16_ F_h87__k_17_ F_h87__k_18_ F_h87__k_19_ FR_h87 e_h90
  clear h87
  refine WX.s1 rfl rfl ?_
  refine WX.newN rfl (bigk (k := k) (a := 21) hbig (by decide)) (fun h94 e_h94 => ?_)
  have F_h94_k : h94 k = .inr (1, [.ref b1, .ref b2, .int 9, .ref (k + 1), .ref (k + 2), .ref (k + 5), .int 0, .int 0, .int 0, .ref (k + 6), .ref (k + 13), .null, .null, .ref (k + 3), .int 0, .int 0, .int 0, .int 0]) := by rw [e_h94, va_up_neq (nek1 (a := 20) (by decide))]; exact F_h90_k
  have F_h94__k_1_ : h94 (k + 1) = .inl (1, 2667, .inl (fun _ => 0)) := by rw [e_h94, va_up_neq (nek (a := 1) (b := 20) (by decide))]; exact F_h90__k_1_
  have F_h94__k_2_ : h94 (k + 2) = .inl (1, 2667, .inl (fun _ => 0)) := by rw [e_h94, va_up_neq (nek (a := 2) (b := 20) (by decide))]; exact F_h90__k_2_
  have F_h94__k_3_ : h94 (k + 3) = .inr (7, [.ref (k + 4), .int 0, .int 0, .long 0, .int 0]) := by rw [e_h94, va_up_neq (nek (a := 3) (b := 20) (by decide))]; exact F_h90__k_3_
  have F_h94__k_4_ : h94 (k + 4) = .inl (0, 128, .inl (fun _ => 0)) := by rw [e_h94, va_up_neq (nek (a := 4) (b := 20) (by decide))]; exact F_h90__k_4_
  have F_h94__k_5_ : h94 (k + 5) = .inl (1, 36, .inl (fun _ => 0)) := by rw [e_h94, va_up_neq (nek (a := 5) (b := 20) (by decide))]; exact F_h90__k_5_
  have F_h94__k_6_ : h94 (k + 6) = .inr (8, [.int 35, .ref (k + 7), .ref (k + 8), .ref (k + 9), .ref (k + 10), .ref (k + 11), .ref (k + 12), .int 0, .int 0]) := by rw [e_h94, va_up_neq (nek (a := 6) (b := 20) (by decide))]; exact F_h90__k_6_
  have F_h94__k_7_ : h94 (k + 7) = .inl (1, 36, .inl (fun _ => 0)) := by rw [e_h94, va_up_neq (nek (a := 7) (b := 20) (by decide))]; exact F_h90__k_7_
  have F_h94__k_8_ : h94 (k + 8) = .inl (1, 36, .inl (fun _ => 0)) := by rw [e_h94, va_up_neq (nek (a := 8) (b := 20) (by decide))]; exact F_h90__k_8_
  have F_h94__k_9_ : h94 (k + 9) = .inl (1, 36, .inl (fun _ => 0)) := by rw [e_h94, va_up_neq (nek (a := 9) (b := 20) (by decide))]; exact F_h90__k_9_
  have F_h94__k_10_ : h94 (k + 10) = .inl (1, 36, .inl (fun _ => 0)) := by rw [e_h94, va_up_neq (nek (a := 10) (b := 20) (by decide))]; exact F_h90__k_10_
  have F_h94__k_11_ : h94 (k + 11) = .inl (1, 512, .inl (fun _ => 0)) := by rw [e_h94, va_up_neq (nek (a := 11) (b := 20) (by decide))]; exact F_h90__k_11_
  have F_h94__k_12_ : h94 (k + 12) = .inl (1, 512, .inl (fun _ => 0)) := by rw [e_h94, va_up_neq (nek (a := 12) (b := 20) (by decide))]; exact F_h90__k_12_
  have F_h94__k_13_ : h94 (k + 13) = .inr (8, [.int 35, .ref (k + 14), .ref (k + 15), .ref (k + 16), .ref (k + 17), .ref (k + 18), .ref (k + 19), .int 0, .int 0]) := by rw [e_h94, va_up_neq (nek (a := 13) (b := 20) (by decide))]; exact F_h90__k_13_
  have F_h94__k_14_ : h94 (k + 14) = .inl (1, 36, .inl (fun _ => 0)) := by rw [e_h94, va_up_neq (nek (a := 14) (b := 20) (by decide))]; exact F_h90__k_14_
  have F_h94__k_15_ : h94 (k + 15) = .inl (1, 36, .inl (fun _ => 0)) := by rw [e_h94, va_up_neq (nek (a := 15) (b := 20) (by decide))]; exact F_h90__k_15_
  have F_h94__k_16_ : h94 (k + 16) = .inl (1, 36, .inl (fun _ => 0)) := by rw [e_h94, va_up_neq (nek (a := 16) (b := 20) (by decide))]; exact F_h90__k_16_
  have F_h94__k_17_ : h94 (k + 17) = .inl (1, 36, .inl (fun _ => 0)) := by rw [e_h94, va_up_neq (nek (a := 17) (b := 20) (by decide))]; exact F_h90__k_17_
  have F_h94__k_18_ : h94 (k + 18) = .inl (1, 512, .inl (fun _ => 0)) := by rw [e_h94, va_up_neq (nek (a := 18) (b := 20) (by decide))]; exact F_h90__k_18_
  have F_h94__k_19_ : h94 (k + 19) = .inl (1, 512, .inl (fun _ => 0)) := by rw [e_h94, va_up_neq (nek (a := 19) (b := 20) (by decide))]; exact F_h90__k_19_
  have F_h94__k_20_ : h94 (k + 20) = .inr (8, zX8) := by rw [e_h94]; exact va_up_eq
  have FR_h94 : ∀ j, j < k ∨ aBig ≤ j → h94 j = h j := fun j hj => by rw [e_h94]; exact (va_up_neq (frne (a := 20) hj hbig (by decide))).trans (FR_h90 j hj)
  clear F_h90_k F_h90__k_1_ F_h90__k_2_ F_h90__k_3_ F_h90__k_4_ F_h90__k_5_ F_h90__k_6_ F_h90__k_7_ F_h90__k_8_ F_h90__k_9_ F_h90__k_10_ F_h90__k_11_ F_h90__k_12_ F_h90__k_13_ F_h90__k_14_ F_h90__k_15_ F_h90__k_16_ F_h90__k_17_ F_h90__k_18_ F_h90__k_19_ FR_h90 e_h94
  clear h90
  refine WX.s1 rfl rfl ?_
  refine WX.s1 rfl rfl ?_
  refine WX.s1 rfl rfl ?_
  refine WX.callC (vs := [.ref (k + 20), .int 35, .int 9]) rfl rfl rfl (Nat.le_of_ble_eq_true rfl) (rcv_ok (ltk (a := 20) (c := 21) (by decide)) F_h94__k_20_) ?_
  refine n_share_35_9 (k := k + 20) (bigk (k := k) (a := 28) hbig (by decide)) F_h94__k_20_ (fun h101 fr101 cs101 => ?_)
  have F_h101_k : h101 k = .inr (1, [.ref b1, .ref b2, .int 9, .ref (k + 1), .ref (k + 2), .ref (k + 5), .int 0, .int 0, .int 0, .ref (k + 6), .ref (k + 13), .null, .null, .ref (k + 3), .int 0, .int 0, .int 0, .int 0]) := (fr101 k (Or.inl (ltk0 (c := 20) (by decide)))).trans F_h94_k
  have F_h101__k_1_ : h101 (k + 1) = .inl (1, 2667, .inl (fun _ => 0)) := (fr101 (k + 1) (Or.inl (ltk (a := 1) (c := 20) (by decide)))).trans F_h94__k_1_
  have F_h101__k_2_ : h101 (k + 2) = .inl (1, 2667, .inl (fun _ => 0)) := (fr101 (k + 2) (Or.inl (ltk (a := 2) (c := 20) (by decide)))).trans F_h94__k_2_
  have F_h101__k_3_ : h101 (k + 3) = .inr (7, [.ref (k + 4), .int 0, .int 0, .long 0, .int 0]) := (fr101 (k + 3) (Or.inl (ltk (a := 3) (c := 20) (by decide)))).trans F_h94__k_3_
  have F_h101__k_4_ : h101 (k + 4) = .inl (0, 128, .inl (fun _ => 0)) := (fr101 (k + 4) (Or.inl (ltk (a := 4) (c := 20) (by decide)))).trans F_h94__k_4_
  have F_h101__k_5_ : h101 (k + 5) = .inl (1, 36, .inl (fun _ => 0)) := (fr101 (k + 5) (Or.inl (ltk (a := 5) (c := 20) (by decide)))).trans F_h94__k_5_
  have F_h101__k_6_ : h101 (k + 6) = .inr (8, [.int 35, .ref (k + 7), .ref (k + 8), .ref (k + 9), .ref (k + 10), .ref (k + 11), .ref (k + 12), .int 0, .int 0]) := (fr101 (k + 6) (Or.inl (ltk (a := 6) (c := 20) (by decide)))).trans F_h94__k_6_
  have F_h101__k_7_ : h101 (k + 7) = .inl (1, 36, .inl (fun _ => 0)) := (fr101 (k + 7) (Or.inl (ltk (a := 7) (c := 20) (by decide)))).trans F_h94__k_7_
  have F_h101__k_8_ : h101 (k + 8) = .inl (1, 36, .inl (fun _ => 0)) := (fr101 (k + 8) (Or.inl (ltk (a := 8) (c := 20) (by decide)))).trans F_h94__k_8_
  have F_h101__k_9_ : h101 (k + 9) = .inl (1, 36, .inl (fun _ => 0)) := (fr101 (k + 9) (Or.inl (ltk (a := 9) (c := 20) (by decide)))).trans F_h94__k_9_
  have F_h101__k_10_ : h101 (k + 10) = .inl (1, 36, .inl (fun _ => 0)) := (fr101 (k + 10) (Or.inl (ltk (a := 10) (c := 20) (by decide)))).trans F_h94__k_10_
  have F_h101__k_11_ : h101 (k + 11) = .inl (1, 512, .inl (fun _ => 0)) := (fr101 (k + 11) (Or.inl (ltk (a := 11) (c := 20) (by decide)))).trans F_h94__k_11_
  have F_h101__k_12_ : h101 (k + 12) = .inl (1, 512, .inl (fun _ => 0)) := (fr101 (k + 12) (Or.inl (ltk (a := 12) (c := 20) (by decide)))).trans F_h94__k_12_
  have F_h101__k_13_ : h101 (k + 13) = .inr (8, [.int 35, .ref (k + 14), .ref (k + 15), .ref (k + 16), .ref (k + 17), .ref (k + 18), .ref (k + 19), .int 0, .int 0]) := (fr101 (k + 13) (Or.inl (ltk (a := 13) (c := 20) (by decide)))).trans F_h94__k_13_
  have F_h101__k_14_ : h101 (k + 14) = .inl (1, 36, .inl (fun _ => 0)) := (fr101 (k + 14) (Or.inl (ltk (a := 14) (c := 20) (by decide)))).trans F_h94__k_14_
  have F_h101__k_15_ : h101 (k + 15) = .inl (1, 36, .inl (fun _ => 0)) := (fr101 (k + 15) (Or.inl (ltk (a := 15) (c := 20) (by decide)))).trans F_h94__k_15_
  have F_h101__k_16_ : h101 (k + 16) = .inl (1, 36, .inl (fun _ => 0)) := (fr101 (k + 16) (Or.inl (ltk (a := 16) (c := 20) (by decide)))).trans F_h94__k_16_
  have F_h101__k_17_ : h101 (k + 17) = .inl (1, 36, .inl (fun _ => 0)) := (fr101 (k + 17) (Or.inl (ltk (a := 17) (c := 20) (by decide)))).trans F_h94__k_17_
  have F_h101__k_18_ : h101 (k + 18) = .inl (1, 512, .inl (fun _ => 0)) := (fr101 (k + 18) (Or.inl (ltk (a := 18) (c := 20) (by decide)))).trans F_h94__k_18_
  have F_h101__k_19_ : h101 (k + 19) = .inl (1, 512, .inl (fun _ => 0)) := (fr101 (k + 19) (Or.inl (ltk (a := 19) (c := 20) (by decide)))).trans F_h94__k_19_
  have F_h101__k_20_ : h101 (k + 20) = .inr (8, [.int 35, .ref (k + 21), .ref (k + 22), .ref (k + 23), .ref (k + 24), .ref (k + 25), .ref (k + 26), .int 0, .int 0]) := cs101.1
  have F_h101__k_21_ : h101 (k + 21) = .inl (1, 36, .inl (fun _ => 0)) := cs101.2.1
  have F_h101__k_22_ : h101 (k + 22) = .inl (1, 36, .inl (fun _ => 0)) := cs101.2.2.1
  have F_h101__k_23_ : h101 (k + 23) = .inl (1, 36, .inl (fun _ => 0)) := cs101.2.2.2.1
  have F_h101__k_24_ : h101 (k + 24) = .inl (1, 36, .inl (fun _ => 0)) := cs101.2.2.2.2.1
  have F_h101__k_25_ : h101 (k + 25) = .inl (1, 512, .inl (fun _ => 0)) := cs101.2.2.2.2.2.1
  have F_h101__k_26_ : h101 (k + 26) = .inl (1, 512, .inl (fun _ => 0)) := cs101.2.2.2.2.2.2.1
  have FR_h101 : ∀ j, j < k ∨ aBig ≤ j → h101 j = h j := fun j hj => (fr101 j (hj.imp (fun z => Nat.lt_of_lt_of_le z (Nat.le_add_right _ _)) (fun z => z))).trans (FR_h94 j hj)
  clear F_h94_k F_h94__k_1_ F_h94__k_2_ F_h94__k_3_ F_h94__k_4_ F_h94__k_5_ F_h94__k_6_ F_h94__k_7_ F_h94__k_8_ F_h94__k_9_ F_h94__k_10_ F_h94__k_11_ F_h94__k_12_ F_h94__k_13_ F_h94__k_14_ F_h94__k_15_ F_h94__k_16_ F_h94__k_17_ F_h94__k_18_ F_h94__k_19_ F_h94__k_20_ FR_h94 fr101 cs101
  clear h94
  show WX _ _ _ 104 [(0, .ref k), (1, .ref b1), (2, .ref b2), (3, .int 35), (4, .int 9)] [.ref (k + 20), .ref k] (k + 27, s + 2667 + 2667 + 5 + 128 + 36 + 9 + 1168 + 9 + 1168 + 9 + 1168, h101)
  refine WX.put1 (fs := [.ref b1, .ref b2, .int 9, .ref (k + 1), .ref (k + 2), .ref (k + 5), .int 0, .int 0, .int 0, .ref (k + 6), .ref (k + 13), .null, .null, .ref (k + 3), .int 0, .int 0, .int 0, .int 0]) (fs' := [.ref b1, .ref b2, .int 9, .ref (k + 1), .ref (k + 2), .ref (k + 5), .int 0, .int 0, .int 0, .ref (k + 6), .ref (k + 13), .ref (k + 20), .null, .ref (k + 3), .int 0, .int 0, .int 0, .int 0]) rfl (ltk0 (c := 27) (by decide)) (F_h101_k) (Nat.le_of_ble_eq_true rfl) (rfl) rfl (fun h104 e_h104 => ?_)
  have F_h104_k : h104 k = .inr (1, [.ref b1, .ref b2, .int 9, .ref (k + 1), .ref (k + 2), .ref (k + 5), .int 0, .int 0, .int 0, .ref (k + 6), .ref (k + 13), .ref (k + 20), .null, .ref (k + 3), .int 0, .int 0, .int 0, .int 0]) := by rw [e_h104]; exact va_up_eq
  have F_h104__k_1_ : h104 (k + 1) = .inl (1, 2667, .inl (fun _ => 0)) := by rw [e_h104, va_up_neq (nek0 (a := 1) (by decide))]; exact F_h101__k_1_
  have F_h104__k_2_ : h104 (k + 2) = .inl (1, 2667, .inl (fun _ => 0)) := by rw [e_h104, va_up_neq (nek0 (a := 2) (by decide))]; exact F_h101__k_2_
  have F_h104__k_3_ : h104 (k + 3) = .inr (7, [.ref (k + 4), .int 0, .int 0, .long 0, .int 0]) := by rw [e_h104, va_up_neq (nek0 (a := 3) (by decide))]; exact F_h101__k_3_
  have F_h104__k_4_ : h104 (k + 4) = .inl (0, 128, .inl (fun _ => 0)) := by rw [e_h104, va_up_neq (nek0 (a := 4) (by decide))]; exact F_h101__k_4_
  have F_h104__k_5_ : h104 (k + 5) = .inl (1, 36, .inl (fun _ => 0)) := by rw [e_h104, va_up_neq (nek0 (a := 5) (by decide))]; exact F_h101__k_5_
  have F_h104__k_6_ : h104 (k + 6) = .inr (8, [.int 35, .ref (k + 7), .ref (k + 8), .ref (k + 9), .ref (k + 10), .ref (k + 11), .ref (k + 12), .int 0, .int 0]) := by rw [e_h104, va_up_neq (nek0 (a := 6) (by decide))]; exact F_h101__k_6_
  have F_h104__k_7_ : h104 (k + 7) = .inl (1, 36, .inl (fun _ => 0)) := by rw [e_h104, va_up_neq (nek0 (a := 7) (by decide))]; exact F_h101__k_7_
  have F_h104__k_8_ : h104 (k + 8) = .inl (1, 36, .inl (fun _ => 0)) := by rw [e_h104, va_up_neq (nek0 (a := 8) (by decide))]; exact F_h101__k_8_
  have F_h104__k_9_ : h104 (k + 9) = .inl (1, 36, .inl (fun _ => 0)) := by rw [e_h104, va_up_neq (nek0 (a := 9) (by decide))]; exact F_h101__k_9_
  have F_h104__k_10_ : h104 (k + 10) = .inl (1, 36, .inl (fun _ => 0)) := by rw [e_h104, va_up_neq (nek0 (a := 10) (by decide))]; exact F_h101__k_10_
  have F_h104__k_11_ : h104 (k + 11) = .inl (1, 512, .inl (fun _ => 0)) := by rw [e_h104, va_up_neq (nek0 (a := 11) (by decide))]; exact F_h101__k_11_
  have F_h104__k_12_ : h104 (k + 12) = .inl (1, 512, .inl (fun _ => 0)) := by rw [e_h104, va_up_neq (nek0 (a := 12) (by decide))]; exact F_h101__k_12_
  have F_h104__k_13_ : h104 (k + 13) = .inr (8, [.int 35, .ref (k + 14), .ref (k + 15), .ref (k + 16), .ref (k + 17), .ref (k + 18), .ref (k + 19), .int 0, .int 0]) := by rw [e_h104, va_up_neq (nek0 (a := 13) (by decide))]; exact F_h101__k_13_
  have F_h104__k_14_ : h104 (k + 14) = .inl (1, 36, .inl (fun _ => 0)) := by rw [e_h104, va_up_neq (nek0 (a := 14) (by decide))]; exact F_h101__k_14_
  have F_h104__k_15_ : h104 (k + 15) = .inl (1, 36, .inl (fun _ => 0)) := by rw [e_h104, va_up_neq (nek0 (a := 15) (by decide))]; exact F_h101__k_15_
  have F_h104__k_16_ : h104 (k + 16) = .inl (1, 36, .inl (fun _ => 0)) := by rw [e_h104, va_up_neq (nek0 (a := 16) (by decide))]; exact F_h101__k_16_
  have F_h104__k_17_ : h104 (k + 17) = .inl (1, 36, .inl (fun _ => 0)) := by rw [e_h104, va_up_neq (nek0 (a := 17) (by decide))]; exact F_h101__k_17_
  have F_h104__k_18_ : h104 (k + 18) = .inl (1, 512, .inl (fun _ => 0)) := by rw [e_h104, va_up_neq (nek0 (a := 18) (by decide))]; exact F_h101__k_18_
  have F_h104__k_19_ : h104 (k + 19) = .inl (1, 512, .inl (fun _ => 0)) := by rw [e_h104, va_up_neq (nek0 (a := 19) (by decide))]; exact F_h101__k_19_
  have F_h104__k_20_ : h104 (k + 20) = .inr (8, [.int 35, .ref (k + 21), .ref (k + 22), .ref (k + 23), .ref (k + 24), .ref (k + 25), .ref (k + 26), .int 0, .int 0]) := by rw [e_h104, va_up_neq (nek0 (a := 20) (by decide))]; exact F_h101__k_20_
  have F_h104__k_21_ : h104 (k + 21) = .inl (1, 36, .inl (fun _ => 0)) := by rw [e_h104, va_up_neq (nek0 (a := 21) (by decide))]; exact F_h101__k_21_
  have F_h104__k_22_ : h104 (k + 22) = .inl (1, 36, .inl (fun _ => 0)) := by rw [e_h104, va_up_neq (nek0 (a := 22) (by decide))]; exact F_h101__k_22_
  have F_h104__k_23_ : h104 (k + 23) = .inl (1, 36, .inl (fun _ => 0)) := by rw [e_h104, va_up_neq (nek0 (a := 23) (by decide))]; exact F_h101__k_23_
  have F_h104__k_24_ : h104 (k + 24) = .inl (1, 36, .inl (fun _ => 0)) := by rw [e_h104, va_up_neq (nek0 (a := 24) (by decide))]; exact F_h101__k_24_
  have F_h104__k_25_ : h104 (k + 25) = .inl (1, 512, .inl (fun _ => 0)) := by rw [e_h104, va_up_neq (nek0 (a := 25) (by decide))]; exact F_h101__k_25_
  have F_h104__k_26_ : h104 (k + 26) = .inl (1, 512, .inl (fun _ => 0)) := by rw [e_h104, va_up_neq (nek0 (a := 26) (by decide))]; exact F_h101__k_26_
  have FR_h104 : ∀ j, j < k ∨ aBig ≤ j → h104 j = h j := fun j hj => by rw [e_h104]; exact (va_up_neq (frne0 hj hbig)).trans (FR_h101 j hj)
  clear F_h101_k F_h101__k_1_ F_h101__k_2_ F_h101__k_3_ F_h101__k_4_ F_h101__k_5_ F_h101__k_6_ F_h101__k_7_ F_h101__k_8_ F_h101__k_9_ F_h101__k_10_ F_h101__k_11_ F_h101__k_12_ F_h101__k_13_ F_h101__k_14_ F_h101__k_15_ F_h101__k_16_ F_h101__k_17_ F_h101__k_18_ F_h101__k_19_ F_h101__k_20_ F_h101__k_21_ F_h101__k_22_ F_h101__k_23_ F_h101__k_24_ F_h101__k_25_ F_h101__k_26_ FR_h101 e_h104
  clear h101
  refine WX.s1 rfl rfl ?_
  refine WX.s1 rfl rfl ?_
  refine WX.get1 (fs := [.ref b1, .ref b2, .int 9, .ref (k + 1), .ref (k + 2), .ref (k + 5), .int 0, .int 0, .int 0, .ref (k + 6), .ref (k + 13), .ref (k + 20), .null, .ref (k + 3), .int 0, .int 0, .int 0, .int 0]) rfl (ltk0 (c := 27) (by decide)) (F_h104_k) rfl ?_
  refine WX.put1 (fs := [.ref b1, .ref b2, .int 9, .ref (k + 1), .ref (k + 2), .ref (k + 5), .int 0, .int 0, .int 0, .ref (k + 6), .ref (k + 13), .ref (k + 20), .null, .ref (k + 3), .int 0, .int 0, .int 0, .int 0]) (fs' := [.ref b1, .ref b2, .int 9, .ref (k + 1), .ref (k + 2), .ref (k + 5), .int 0, .int 0, .int 0, .ref (k + 6), .ref (k + 13), .ref (k + 20), .ref (k + 6), .ref (k + 3), .int 0, .int 0, .int 0, .int 0]) rfl (ltk0 (c := 27) (by decide)) (F_h104_k) (Nat.le_of_ble_eq_true rfl) (rfl) rfl (fun h112 e_h112 => ?_)
  have F_h112_k : h112 k = .inr (1, [.ref b1, .ref b2, .int 9, .ref (k + 1), .ref (k + 2), .ref (k + 5), .int 0, .int 0, .int 0, .ref (k + 6), .ref (k + 13), .ref (k + 20), .ref (k + 6), .ref (k + 3), .int 0, .int 0, .int 0, .int 0]) := by rw [e_h112]; exact va_up_eq
  have F_h112__k_1_ : h112 (k + 1) = .inl (1, 2667, .inl (fun _ => 0)) := by rw [e_h112, va_up_neq (nek0 (a := 1) (by decide))]; exact F_h104__k_1_
  have F_h112__k_2_ : h112 (k + 2) = .inl (1, 2667, .inl (fun _ => 0)) := by rw [e_h112, va_up_neq (nek0 (a := 2) (by decide))]; exact F_h104__k_2_
  have F_h112__k_3_ : h112 (k + 3) = .inr (7, [.ref (k + 4), .int 0, .int 0, .long 0, .int 0]) := by rw [e_h112, va_up_neq (nek0 (a := 3) (by decide))]; exact F_h104__k_3_
  have F_h112__k_4_ : h112 (k + 4) = .inl (0, 128, .inl (fun _ => 0)) := by rw [e_h112, va_up_neq (nek0 (a := 4) (by decide))]; exact F_h104__k_4_
  have F_h112__k_5_ : h112 (k + 5) = .inl (1, 36, .inl (fun _ => 0)) := by rw [e_h112, va_up_neq (nek0 (a := 5) (by decide))]; exact F_h104__k_5_
  have F_h112__k_6_ : h112 (k + 6) = .inr (8, [.int 35, .ref (k + 7), .ref (k + 8), .ref (k + 9), .ref (k + 10), .ref (k + 11), .ref (k + 12), .int 0, .int 0]) := by rw [e_h112, va_up_neq (nek0 (a := 6) (by decide))]; exact F_h104__k_6_
  have F_h112__k_7_ : h112 (k + 7) = .inl (1, 36, .inl (fun _ => 0)) := by rw [e_h112, va_up_neq (nek0 (a := 7) (by decide))]; exact F_h104__k_7_
  have F_h112__k_8_ : h112 (k + 8) = .inl (1, 36, .inl (fun _ => 0)) := by rw [e_h112, va_up_neq (nek0 (a := 8) (by decide))]; exact F_h104__k_8_
  have F_h112__k_9_ : h112 (k + 9) = .inl (1, 36, .inl (fun _ => 0)) := by rw [e_h112, va_up_neq (nek0 (a := 9) (by decide))]; exact F_h104__k_9_
  have F_h112__k_10_ : h112 (k + 10) = .inl (1, 36, .inl (fun _ => 0)) := by rw [e_h112, va_up_neq (nek0 (a := 10) (by decide))]; exact F_h104__k_10_
  have F_h112__k_11_ : h112 (k + 11) = .inl (1, 512, .inl (fun _ => 0)) := by rw [e_h112, va_up_neq (nek0 (a := 11) (by decide))]; exact F_h104__k_11_
  have F_h112__k_12_ : h112 (k + 12) = .inl (1, 512, .inl (fun _ => 0)) := by rw [e_h112, va_up_neq (nek0 (a := 12) (by decide))]; exact F_h104__k_12_
  have F_h112__k_13_ : h112 (k + 13) = .inr (8, [.int 35, .ref (k + 14), .ref (k + 15), .ref (k + 16), .ref (k + 17), .ref (k + 18), .ref (k + 19), .int 0, .int 0]) := by rw [e_h112, va_up_neq (nek0 (a := 13) (by decide))]; exact F_h104__k_13_
  have F_h112__k_14_ : h112 (k + 14) = .inl (1, 36, .inl (fun _ => 0)) := by rw [e_h112, va_up_neq (nek0 (a := 14) (by decide))]; exact F_h104__k_14_
  have F_h112__k_15_ : h112 (k + 15) = .inl (1, 36, .inl (fun _ => 0)) := by rw [e_h112, va_up_neq (nek0 (a := 15) (by decide))]; exact F_h104__k_15_
  have F_h112__k_16_ : h112 (k + 16) = .inl (1, 36, .inl (fun _ => 0)) := by rw [e_h112, va_up_neq (nek0 (a := 16) (by decide))]; exact F_h104__k_16_
  have F_h112__k_17_ : h112 (k + 17) = .inl (1, 36, .inl (fun _ => 0)) := by rw [e_h112, va_up_neq (nek0 (a := 17) (by decide))]; exact F_h104__k_17_
  have F_h112__k_18_ : h112 (k + 18) = .inl (1, 512, .inl (fun _ => 0)) := by rw [e_h112, va_up_neq (nek0 (a := 18) (by decide))]; exact F_h104__k_18_
  have F_h112__k_19_ : h112 (k + 19) = .inl (1, 512, .inl (fun _ => 0)) := by rw [e_h112, va_up_neq (nek0 (a := 19) (by decide))]; exact F_h104__k_19_
  have F_h112__k_20_ : h112 (k + 20) = .inr (8, [.int 35, .ref (k + 21), .ref (k + 22), .ref (k + 23), .ref (k + 24), .ref (k + 25), .ref (k + 26), .int 0, .int 0]) := by rw [e_h112, va_up_neq (nek0 (a := 20) (by decide))]; exact F_h104__k_20_
  have F_h112__k_21_ : h112 (k + 21) = .inl (1, 36, .inl (fun _ => 0)) := by rw [e_h112, va_up_neq (nek0 (a := 21) (by decide))]; exact F_h104__k_21_
  have F_h112__k_22_ : h112 (k + 22) = .inl (1, 36, .inl (fun _ => 0)) := by rw [e_h112, va_up_neq (nek0 (a := 22) (by decide))]; exact F_h104__k_22_
  have F_h112__k_23_ : h112 (k + 23) = .inl (1, 36, .inl (fun _ => 0)) := by rw [e_h112, va_up_neq (nek0 (a := 23) (by decide))]; exact F_h104__k_23_
  have F_h112__k_24_ : h112 (k + 24) = .inl (1, 36, .inl (fun _ => 0)) := by rw [e_h112, va_up_neq (nek0 (a := 24) (by decide))]; exact F_h104__k_24_
  have F_h112__k_25_ : h112 (k + 25) = .inl (1, 512, .inl (fun _ => 0)) := by rw [e_h112, va_up_neq (nek0 (a := 25) (by decide))]; exact F_h104__k_25_
  have F_h112__k_26_ : h112 (k + 26) = .inl (1, 512, .inl (fun _ => 0)) := by rw [e_h112, va_up_neq (nek0 (a := 26) (by decide))]; exact F_h104__k_26_
  have FR_h112 : ∀ j, j < k ∨ aBig ≤ j → h112 j = h j := fun j hj => by rw [e_h112]; exact (va_up_neq (frne0 hj hbig)).trans (FR_h104 j hj)
  clear F_h104_k F_h104__k_1_ F_h104__k_2_ F_h104__k_3_ F_h104__k_4_ F_h104__k_5_ F_h104__k_6_ F_h104__k_7_ F_h104__k_8_ F_h104__k_9_ F_h104__k_10_ F_h104__k_11_ F_h104__k_12_ F_h104__k_13_ F_h104__k_14_ F_h104__k_15_ F_h104__k_16_ F_h104__k_17_ F_h104__k_18_ F_h104__k_19_ F_h104__k_20_ F_h104__k_21_ F_h104__k_22_ F_h104__k_23_ F_h104__k_24_ F_h104__k_25_ F_h104__k_26_ FR_h104 e_h112
  clear h104
  refine WX.ret0 rfl ?_
  exact kk h112 FR_h112 ⟨F_h112_k, F_h112__k_1_, F_h112__k_2_, F_h112__k_3_, F_h112__k_4_, F_h112__k_5_, F_h112__k_6_, F_h112__k_7_, F_h112__k_8_, F_h112__k_9_, F_h112__k_10_, F_h112__k_11_, F_h112__k_12_, F_h112__k_13_, F_h112__k_14_, F_h112__k_15_, F_h112__k_16_, F_h112__k_17_, F_h112__k_18_, F_h112__k_19_, F_h112__k_20_, F_h112__k_21_, F_h112__k_22_, F_h112__k_23_, F_h112__k_24_, F_h112__k_25_, F_h112__k_26_, trivial⟩
def cCol_31_8 (b1 b2 : Nat) (k : Nat) : List aE := [.inr (1, [.ref b1, .ref b2, .int 8, .ref (k + 1), .ref (k + 2), .ref (k + 5), .int 0, .int 0, .int 0, .ref (k + 6), .ref (k + 13), .ref (k + 20), .ref (k + 6), .ref (k + 3), .int 0, .int 0, .int 0, .int 0]), .inl (1, 2667, .inl (fun _ => 0)), .inl (1, 2667, .inl (fun _ => 0)), .inr (7, [.ref (k + 4), .int 0, .int 0, .long 0, .int 0]), .inl (0, 128, .inl (fun _ => 0)), .inl (1, 32, .inl (fun _ => 0)), .inr (8, [.int 31, .ref (k + 7), .ref (k + 8), .ref (k + 9), .ref (k + 10), .ref (k + 11), .ref (k + 12), .int 0, .int 0]), .inl (1, 32, .inl (fun _ => 0)), .inl (1, 32, .inl (fun _ => 0)), .inl (1, 32, .inl (fun _ => 0)), .inl (1, 32, .inl (fun _ => 0)), .inl (1, 256, .inl (fun _ => 0)), .inl (1, 256, .inl (fun _ => 0)), .inr (8, [.int 31, .ref (k + 14), .ref (k + 15), .ref (k + 16), .ref (k + 17), .ref (k + 18), .ref (k + 19), .int 0, .int 0]), .inl (1, 32, .inl (fun _ => 0)), .inl (1, 32, .inl (fun _ => 0)), .inl (1, 32, .inl (fun _ => 0)), .inl (1, 32, .inl (fun _ => 0)), .inl (1, 256, .inl (fun _ => 0)), .inl (1, 256, .inl (fun _ => 0)), .inr (8, [.int 31, .ref (k + 21), .ref (k + 22), .ref (k + 23), .ref (k + 24), .ref (k + 25), .ref (k + 26), .int 0, .int 0]), .inl (1, 32, .inl (fun _ => 0)), .inl (1, 32, .inl (fun _ => 0)), .inl (1, 32, .inl (fun _ => 0)), .inl (1, 32, .inl (fun _ => 0)), .inl (1, 256, .inl (fun _ => 0)), .inl (1, 256, .inl (fun _ => 0))]
set_option maxRecDepth 20000 in
theorem n_col_31_8 {b1 b2 : Nat} {d s : Nat} {h : Nat → aE} {k : Nat} (hbig : k + 28 < aBig) (F_h_k : h k = .inr (1, zX1)) {Ψ : Option Value → aH → Prop} (kk : ∀ h', (∀ j, j < k ∨ aBig ≤ j → h' j = h j) → Cells h' k (cCol_31_8 b1 b2 k) → Ψ none (k + 27, s + 7446, h')) : WO (mM (d + 2)) 7 [.ref k, .ref b1, .ref b2, .int 31, .int 8] (k + 1, s, h) Ψ := by
  refine WO.of (Nat.le_of_ble_eq_true rfl) ?_
  have FR_h : ∀ j, j < k ∨ aBig ≤ j → h j = h j := fun _ _ => rfl
  show WX (lk tX1_init) (mM (d + 1)) Ψ 0 [(0, .ref k), (1, .ref b1), (2, .ref b2), (3, .int 31), (4, .int 8)] [] (k + 1, s, h)
  refine WX.s1 rfl rfl ?_
  refine WX.s1 rfl rfl ?_
  refine WX.s1 rfl rfl ?_
  refine WX.s1 rfl rfl ?_
  refine WX.newaN (N := 2667) (z0 := .inl (fun _ => 0)) rfl (by decide) (by decide) (bigk (k := k) (a := 2) hbig (by decide)) rfl (fun h8 e_h8 => ?_)
  have F_h8_k : h8 k = .inr (1, [.null, .null, .int 0, .null, .null, .null, .int 0, .int 0, .int 0, .null, .null, .null, .null, .null, .int 0, .int 0, .int 0, .int 0]) := by rw [e_h8, va_up_neq (nek1 (a := 1) (by decide))]; exact F_h_k
  have F_h8__k_1_ : h8 (k + 1) = .inl (1, 2667, .inl (fun _ => 0)) := by rw [e_h8]; exact va_up_eq
  have FR_h8 : ∀ j, j < k ∨ aBig ≤ j → h8 j = h j := fun j hj => by rw [e_h8]; exact (va_up_neq (frne (a := 1) hj hbig (by decide))).trans (FR_h j hj)
  clear F_h_k FR_h e_h8
  refine WX.put1 (fs := [.null, .null, .int 0, .null, .null, .null, .int 0, .int 0, .int 0, .null, .null, .null, .null, .null, .int 0, .int 0, .int 0, .int 0]) (fs' := [.null, .null, .int 0, .ref (k + 1), .null, .null, .int 0, .int 0, .int 0, .null, .null, .null, .null, .null, .int 0, .int 0, .int 0, .int 0]) rfl (ltk0 (c := 2) (by decide)) (F_h8_k) (Nat.le_of_ble_eq_true rfl) (rfl) rfl (fun h10 e_h10 => ?_)
  have F_h10_k : h10 k = .inr (1, [.null, .null, .int 0, .ref (k + 1), .null, .null, .int 0, .int 0, .int 0, .null, .null, .null, .null, .null, .int 0, .int 0, .int 0, .int 0]) := by rw [e_h10]; exact va_up_eq
  have F_h10__k_1_ : h10 (k + 1) = .inl (1, 2667, .inl (fun _ => 0)) := by rw [e_h10, va_up_neq (nek0 (a := 1) (by decide))]; exact F_h8__k_1_
  have FR_h10 : ∀ j, j < k ∨ aBig ≤ j → h10 j = h j := fun j hj => by rw [e_h10]; exact (va_up_neq (frne0 hj hbig)).trans (FR_h8 j hj)
  clear F_h8_k F_h8__k_1_ FR_h8 e_h10
  clear h8
  refine WX.s1 rfl rfl ?_
  refine WX.s1 rfl rfl ?_
  refine WX.newaN (N := 2667) (z0 := .inl (fun _ => 0)) rfl (by decide) (by decide) (bigk (k := k) (a := 3) hbig (by decide)) rfl (fun h17 e_h17 => ?_)
  have F_h17_k : h17 k = .inr (1, [.null, .null, .int 0, .ref (k + 1), .null, .null, .int 0, .int 0, .int 0, .null, .null, .null, .null, .null, .int 0, .int 0, .int 0, .int 0]) := by rw [e_h17, va_up_neq (nek1 (a := 2) (by decide))]; exact F_h10_k
  have F_h17__k_1_ : h17 (k + 1) = .inl (1, 2667, .inl (fun _ => 0)) := by rw [e_h17, va_up_neq (nek (a := 1) (b := 2) (by decide))]; exact F_h10__k_1_
  have F_h17__k_2_ : h17 (k + 2) = .inl (1, 2667, .inl (fun _ => 0)) := by rw [e_h17]; exact va_up_eq
  have FR_h17 : ∀ j, j < k ∨ aBig ≤ j → h17 j = h j := fun j hj => by rw [e_h17]; exact (va_up_neq (frne (a := 2) hj hbig (by decide))).trans (FR_h10 j hj)
  clear F_h10_k F_h10__k_1_ FR_h10 e_h17
  clear h10
  refine WX.put1 (fs := [.null, .null, .int 0, .ref (k + 1), .null, .null, .int 0, .int 0, .int 0, .null, .null, .null, .null, .null, .int 0, .int 0, .int 0, .int 0]) (fs' := [.null, .null, .int 0, .ref (k + 1), .ref (k + 2), .null, .int 0, .int 0, .int 0, .null, .null, .null, .null, .null, .int 0, .int 0, .int 0, .int 0]) rfl (ltk0 (c := 3) (by decide)) (F_h17_k) (Nat.le_of_ble_eq_true rfl) (rfl) rfl (fun h19 e_h19 => ?_)
  have F_h19_k : h19 k = .inr (1, [.null, .null, .int 0, .ref (k + 1), .ref (k + 2), .null, .int 0, .int 0, .int 0, .null, .null, .null, .null, .null, .int 0, .int 0, .int 0, .int 0]) := by rw [e_h19]; exact va_up_eq
  have F_h19__k_1_ : h19 (k + 1) = .inl (1, 2667, .inl (fun _ => 0)) := by rw [e_h19, va_up_neq (nek0 (a := 1) (by decide))]; exact F_h17__k_1_
  have F_h19__k_2_ : h19 (k + 2) = .inl (1, 2667, .inl (fun _ => 0)) := by rw [e_h19, va_up_neq (nek0 (a := 2) (by decide))]; exact F_h17__k_2_
  have FR_h19 : ∀ j, j < k ∨ aBig ≤ j → h19 j = h j := fun j hj => by rw [e_h19]; exact (va_up_neq (frne0 hj hbig)).trans (FR_h17 j hj)
  clear F_h17_k F_h17__k_1_ F_h17__k_2_ FR_h17 e_h19
  clear h17
  refine WX.s1 rfl rfl ?_
  refine WX.newN rfl (bigk (k := k) (a := 4) hbig (by decide)) (fun h23 e_h23 => ?_)
  have F_h23_k : h23 k = .inr (1, [.null, .null, .int 0, .ref (k + 1), .ref (k + 2), .null, .int 0, .int 0, .int 0, .null, .null, .null, .null, .null, .int 0, .int 0, .int 0, .int 0]) := by rw [e_h23, va_up_neq (nek1 (a := 3) (by decide))]; exact F_h19_k
  have F_h23__k_1_ : h23 (k + 1) = .inl (1, 2667, .inl (fun _ => 0)) := by rw [e_h23, va_up_neq (nek (a := 1) (b := 3) (by decide))]; exact F_h19__k_1_
  have F_h23__k_2_ : h23 (k + 2) = .inl (1, 2667, .inl (fun _ => 0)) := by rw [e_h23, va_up_neq (nek (a := 2) (b := 3) (by decide))]; exact F_h19__k_2_
  have F_h23__k_3_ : h23 (k + 3) = .inr (7, zX7) := by rw [e_h23]; exact va_up_eq
  have FR_h23 : ∀ j, j < k ∨ aBig ≤ j → h23 j = h j := fun j hj => by rw [e_h23]; exact (va_up_neq (frne (a := 3) hj hbig (by decide))).trans (FR_h19 j hj)
  clear F_h19_k F_h19__k_1_ F_h19__k_2_ FR_h19 e_h23
  clear h19
  refine WX.s1 rfl rfl ?_
  refine WX.s1 rfl rfl ?_
  refine WX.callC (vs := [.ref (k + 3), .int 128]) rfl rfl rfl (Nat.le_of_ble_eq_true rfl) (rcv_ok (ltk (a := 3) (c := 4) (by decide)) F_h23__k_3_) ?_
  refine n_row (N := 128) (k := k + 3) (bigk (k := k) (a := 5) hbig (by decide)) F_h23__k_3_ (by decide) (by decide) (fun h30 fr30 cs30 => ?_)
  have F_h30_k : h30 k = .inr (1, [.null, .null, .int 0, .ref (k + 1), .ref (k + 2), .null, .int 0, .int 0, .int 0, .null, .null, .null, .null, .null, .int 0, .int 0, .int 0, .int 0]) := (fr30 k (Or.inl (ltk0 (c := 3) (by decide)))).trans F_h23_k
  have F_h30__k_1_ : h30 (k + 1) = .inl (1, 2667, .inl (fun _ => 0)) := (fr30 (k + 1) (Or.inl (ltk (a := 1) (c := 3) (by decide)))).trans F_h23__k_1_
  have F_h30__k_2_ : h30 (k + 2) = .inl (1, 2667, .inl (fun _ => 0)) := (fr30 (k + 2) (Or.inl (ltk (a := 2) (c := 3) (by decide)))).trans F_h23__k_2_
  have F_h30__k_3_ : h30 (k + 3) = .inr (7, [.ref (k + 4), .int 0, .int 0, .long 0, .int 0]) := cs30.1
  have F_h30__k_4_ : h30 (k + 4) = .inl (0, 128, .inl (fun _ => 0)) := cs30.2.1
  have FR_h30 : ∀ j, j < k ∨ aBig ≤ j → h30 j = h j := fun j hj => (fr30 j (hj.imp (fun z => Nat.lt_of_lt_of_le z (Nat.le_add_right _ _)) (fun z => z))).trans (FR_h23 j hj)
  clear F_h23_k F_h23__k_1_ F_h23__k_2_ F_h23__k_3_ FR_h23 fr30 cs30
  clear h23
  show WX _ _ _ 33 [(0, .ref k), (1, .ref b1), (2, .ref b2), (3, .int 31), (4, .int 8)] [.ref (k + 3), .ref k] (k + 5, s + 2667 + 2667 + 5 + 128, h30)
  refine WX.put1 (fs := [.null, .null, .int 0, .ref (k + 1), .ref (k + 2), .null, .int 0, .int 0, .int 0, .null, .null, .null, .null, .null, .int 0, .int 0, .int 0, .int 0]) (fs' := [.null, .null, .int 0, .ref (k + 1), .ref (k + 2), .null, .int 0, .int 0, .int 0, .null, .null, .null, .null, .ref (k + 3), .int 0, .int 0, .int 0, .int 0]) rfl (ltk0 (c := 5) (by decide)) (F_h30_k) (Nat.le_of_ble_eq_true rfl) (rfl) rfl (fun h33 e_h33 => ?_)
  have F_h33_k : h33 k = .inr (1, [.null, .null, .int 0, .ref (k + 1), .ref (k + 2), .null, .int 0, .int 0, .int 0, .null, .null, .null, .null, .ref (k + 3), .int 0, .int 0, .int 0, .int 0]) := by rw [e_h33]; exact va_up_eq
  have F_h33__k_1_ : h33 (k + 1) = .inl (1, 2667, .inl (fun _ => 0)) := by rw [e_h33, va_up_neq (nek0 (a := 1) (by decide))]; exact F_h30__k_1_
  have F_h33__k_2_ : h33 (k + 2) = .inl (1, 2667, .inl (fun _ => 0)) := by rw [e_h33, va_up_neq (nek0 (a := 2) (by decide))]; exact F_h30__k_2_
  have F_h33__k_3_ : h33 (k + 3) = .inr (7, [.ref (k + 4), .int 0, .int 0, .long 0, .int 0]) := by rw [e_h33, va_up_neq (nek0 (a := 3) (by decide))]; exact F_h30__k_3_
  have F_h33__k_4_ : h33 (k + 4) = .inl (0, 128, .inl (fun _ => 0)) := by rw [e_h33, va_up_neq (nek0 (a := 4) (by decide))]; exact F_h30__k_4_
  have FR_h33 : ∀ j, j < k ∨ aBig ≤ j → h33 j = h j := fun j hj => by rw [e_h33]; exact (va_up_neq (frne0 hj hbig)).trans (FR_h30 j hj)
  clear F_h30_k F_h30__k_1_ F_h30__k_2_ F_h30__k_3_ F_h30__k_4_ FR_h30 e_h33
  clear h30
  refine WX.s1 rfl rfl ?_
  refine WX.s1 rfl rfl ?_
  refine WX.put1 (fs := [.null, .null, .int 0, .ref (k + 1), .ref (k + 2), .null, .int 0, .int 0, .int 0, .null, .null, .null, .null, .ref (k + 3), .int 0, .int 0, .int 0, .int 0]) (fs' := [.ref b1, .null, .int 0, .ref (k + 1), .ref (k + 2), .null, .int 0, .int 0, .int 0, .null, .null, .null, .null, .ref (k + 3), .int 0, .int 0, .int 0, .int 0]) rfl (ltk0 (c := 5) (by decide)) (F_h33_k) (Nat.le_of_ble_eq_true rfl) (rfl) rfl (fun h38 e_h38 => ?_)
  have F_h38_k : h38 k = .inr (1, [.ref b1, .null, .int 0, .ref (k + 1), .ref (k + 2), .null, .int 0, .int 0, .int 0, .null, .null, .null, .null, .ref (k + 3), .int 0, .int 0, .int 0, .int 0]) := by rw [e_h38]; exact va_up_eq
  have F_h38__k_1_ : h38 (k + 1) = .inl (1, 2667, .inl (fun _ => 0)) := by rw [e_h38, va_up_neq (nek0 (a := 1) (by decide))]; exact F_h33__k_1_
  have F_h38__k_2_ : h38 (k + 2) = .inl (1, 2667, .inl (fun _ => 0)) := by rw [e_h38, va_up_neq (nek0 (a := 2) (by decide))]; exact F_h33__k_2_
  have F_h38__k_3_ : h38 (k + 3) = .inr (7, [.ref (k + 4), .int 0, .int 0, .long 0, .int 0]) := by rw [e_h38, va_up_neq (nek0 (a := 3) (by decide))]; exact F_h33__k_3_
  have F_h38__k_4_ : h38 (k + 4) = .inl (0, 128, .inl (fun _ => 0)) := by rw [e_h38, va_up_neq (nek0 (a := 4) (by decide))]; exact F_h33__k_4_
  have FR_h38 : ∀ j, j < k ∨ aBig ≤ j → h38 j = h j := fun j hj => by rw [e_h38]; exact (va_up_neq (frne0 hj hbig)).trans (FR_h33 j hj)
  clear F_h33_k F_h33__k_1_ F_h33__k_2_ F_h33__k_3_ F_h33__k_4_ FR_h33 e_h38
  clear h33
  refine WX.s1 rfl rfl ?_
  refine WX.s1 rfl rfl ?_
  refine WX.put1 (fs := [.ref b1, .null, .int 0, .ref (k + 1), .ref (k + 2), .null, .int 0, .int 0, .int 0, .null, .null, .null, .null, .ref (k + 3), .int 0, .int 0, .int 0, .int 0]) (fs' := [.ref b1, .ref b2, .int 0, .ref (k + 1), .ref (k + 2), .null, .int 0, .int 0, .int 0, .null, .null, .null, .null, .ref (k + 3), .int 0, .int 0, .int 0, .int 0]) rfl (ltk0 (c := 5) (by decide)) (F_h38_k) (Nat.le_of_ble_eq_true rfl) (rfl) rfl (fun h43 e_h43 => ?_)
  have F_h43_k : h43 k = .inr (1, [.ref b1, .ref b2, .int 0, .ref (k + 1), .ref (k + 2), .null, .int 0, .int 0, .int 0, .null, .null, .null, .null, .ref (k + 3), .int 0, .int 0, .int 0, .int 0]) := by rw [e_h43]; exact va_up_eq
  have F_h43__k_1_ : h43 (k + 1) = .inl (1, 2667, .inl (fun _ => 0)) := by rw [e_h43, va_up_neq (nek0 (a := 1) (by decide))]; exact F_h38__k_1_
  have F_h43__k_2_ : h43 (k + 2) = .inl (1, 2667, .inl (fun _ => 0)) := by rw [e_h43, va_up_neq (nek0 (a := 2) (by decide))]; exact F_h38__k_2_
  have F_h43__k_3_ : h43 (k + 3) = .inr (7, [.ref (k + 4), .int 0, .int 0, .long 0, .int 0]) := by rw [e_h43, va_up_neq (nek0 (a := 3) (by decide))]; exact F_h38__k_3_
  have F_h43__k_4_ : h43 (k + 4) = .inl (0, 128, .inl (fun _ => 0)) := by rw [e_h43, va_up_neq (nek0 (a := 4) (by decide))]; exact F_h38__k_4_
  have FR_h43 : ∀ j, j < k ∨ aBig ≤ j → h43 j = h j := fun j hj => by rw [e_h43]; exact (va_up_neq (frne0 hj hbig)).trans (FR_h38 j hj)
  clear F_h38_k F_h38__k_1_ F_h38__k_2_ F_h38__k_3_ F_h38__k_4_ FR_h38 e_h43
  clear h38
  refine WX.s1 rfl rfl ?_
  refine WX.s1 rfl rfl ?_
  refine WX.putNI (fs := [.ref b1, .ref b2, .int 0, .ref (k + 1), .ref (k + 2), .null, .int 0, .int 0, .int 0, .null, .null, .null, .null, .ref (k + 3), .int 0, .int 0, .int 0, .int 0]) (fs' := fun f49 => [.ref b1, .ref b2, .int f49, .ref (k + 1), .ref (k + 2), .null, .int 0, .int 0, .int 0, .null, .null, .null, .null, .ref (k + 3), .int 0, .int 0, .int 0, .int 0]) rfl (ltk0 (c := 5) (by decide)) (F_h43_k) (Nat.le_of_ble_eq_true rfl) (fun _ => rfl) (fun f49 h49 e_f49 e_h49 => ?_)
  try dsimp only at e_f49
  have F_h49_k : h49 k = .inr (1, [.ref b1, .ref b2, .int f49, .ref (k + 1), .ref (k + 2), .null, .int 0, .int 0, .int 0, .null, .null, .null, .null, .ref (k + 3), .int 0, .int 0, .int 0, .int 0]) := by rw [e_h49]; exact va_up_eq
  have F_h49__k_1_ : h49 (k + 1) = .inl (1, 2667, .inl (fun _ => 0)) := by rw [e_h49, va_up_neq (nek0 (a := 1) (by decide))]; exact F_h43__k_1_
  have F_h49__k_2_ : h49 (k + 2) = .inl (1, 2667, .inl (fun _ => 0)) := by rw [e_h49, va_up_neq (nek0 (a := 2) (by decide))]; exact F_h43__k_2_
  have F_h49__k_3_ : h49 (k + 3) = .inr (7, [.ref (k + 4), .int 0, .int 0, .long 0, .int 0]) := by rw [e_h49, va_up_neq (nek0 (a := 3) (by decide))]; exact F_h43__k_3_
  have F_h49__k_4_ : h49 (k + 4) = .inl (0, 128, .inl (fun _ => 0)) := by rw [e_h49, va_up_neq (nek0 (a := 4) (by decide))]; exact F_h43__k_4_
  have FR_h49 : ∀ j, j < k ∨ aBig ≤ j → h49 j = h j := fun j hj => by rw [e_h49]; exact (va_up_neq (frne0 hj hbig)).trans (FR_h43 j hj)
  clear F_h43_k F_h43__k_1_ F_h43__k_2_ F_h43__k_3_ F_h43__k_4_ FR_h43 e_h49
  clear h43
  obtain rfl : f49 = 8 := e_f49
  refine WX.s1 rfl rfl ?_
  refine WX.s1 rfl rfl ?_
  refine WX.s1 rfl rfl ?_
  refine WX.s1 rfl rfl ?_
  refine WX.s1 rfl rfl ?_
  refine WX.s1 rfl rfl ?_
  refine WX.newaN (N := 32) (z0 := .inl (fun _ => 0)) rfl (by decide) (by decide) (bigk (k := k) (a := 6) hbig (by decide)) rfl (fun h60 e_h60 => ?_)
  have F_h60_k : h60 k = .inr (1, [.ref b1, .ref b2, .int 8, .ref (k + 1), .ref (k + 2), .null, .int 0, .int 0, .int 0, .null, .null, .null, .null, .ref (k + 3), .int 0, .int 0, .int 0, .int 0]) := by rw [e_h60, va_up_neq (nek1 (a := 5) (by decide))]; exact F_h49_k
  have F_h60__k_1_ : h60 (k + 1) = .inl (1, 2667, .inl (fun _ => 0)) := by rw [e_h60, va_up_neq (nek (a := 1) (b := 5) (by decide))]; exact F_h49__k_1_
  have F_h60__k_2_ : h60 (k + 2) = .inl (1, 2667, .inl (fun _ => 0)) := by rw [e_h60, va_up_neq (nek (a := 2) (b := 5) (by decide))]; exact F_h49__k_2_
  have F_h60__k_3_ : h60 (k + 3) = .inr (7, [.ref (k + 4), .int 0, .int 0, .long 0, .int 0]) := by rw [e_h60, va_up_neq (nek (a := 3) (b := 5) (by decide))]; exact F_h49__k_3_
  have F_h60__k_4_ : h60 (k + 4) = .inl (0, 128, .inl (fun _ => 0)) := by rw [e_h60, va_up_neq (nek (a := 4) (b := 5) (by decide))]; exact F_h49__k_4_
  have F_h60__k_5_ : h60 (k + 5) = .inl (1, 32, .inl (fun _ => 0)) := by rw [e_h60]; exact va_up_eq
  have FR_h60 : ∀ j, j < k ∨ aBig ≤ j → h60 j = h j := fun j hj => by rw [e_h60]; exact (va_up_neq (frne (a := 5) hj hbig (by decide))).trans (FR_h49 j hj)
  clear F_h49_k F_h49__k_1_ F_h49__k_2_ F_h49__k_3_ F_h49__k_4_ FR_h49 e_h60
  clear h49
  refine WX.put1 (fs := [.ref b1, .ref b2, .int 8, .ref (k + 1), .ref (k + 2), .null, .int 0, .int 0, .int 0, .null, .null, .null, .null, .ref (k + 3), .int 0, .int 0, .int 0, .int 0]) (fs' := [.ref b1, .ref b2, .int 8, .ref (k + 1), .ref (k + 2), .ref (k + 5), .int 0, .int 0, .int 0, .null, .null, .null, .null, .ref (k + 3), .int 0, .int 0, .int 0, .int 0]) rfl (ltk0 (c := 6) (by decide)) (F_h60_k) (Nat.le_of_ble_eq_true rfl) (rfl) rfl (fun h62 e_h62 => ?_)
  have F_h62_k : h62 k = .inr (1, [.ref b1, .ref b2, .int 8, .ref (k + 1), .ref (k + 2), .ref (k + 5), .int 0, .int 0, .int 0, .null, .null, .null, .null, .ref (k + 3), .int 0, .int 0, .int 0, .int 0]) := by rw [e_h62]; exact va_up_eq
  have F_h62__k_1_ : h62 (k + 1) = .inl (1, 2667, .inl (fun _ => 0)) := by rw [e_h62, va_up_neq (nek0 (a := 1) (by decide))]; exact F_h60__k_1_
  have F_h62__k_2_ : h62 (k + 2) = .inl (1, 2667, .inl (fun _ => 0)) := by rw [e_h62, va_up_neq (nek0 (a := 2) (by decide))]; exact F_h60__k_2_
  have F_h62__k_3_ : h62 (k + 3) = .inr (7, [.ref (k + 4), .int 0, .int 0, .long 0, .int 0]) := by rw [e_h62, va_up_neq (nek0 (a := 3) (by decide))]; exact F_h60__k_3_
  have F_h62__k_4_ : h62 (k + 4) = .inl (0, 128, .inl (fun _ => 0)) := by rw [e_h62, va_up_neq (nek0 (a := 4) (by decide))]; exact F_h60__k_4_
  have F_h62__k_5_ : h62 (k + 5) = .inl (1, 32, .inl (fun _ => 0)) := by rw [e_h62, va_up_neq (nek0 (a := 5) (by decide))]; exact F_h60__k_5_
  have FR_h62 : ∀ j, j < k ∨ aBig ≤ j → h62 j = h j := fun j hj => by rw [e_h62]; exact (va_up_neq (frne0 hj hbig)).trans (FR_h60 j hj)
  clear F_h60_k F_h60__k_1_ F_h60__k_2_ F_h60__k_3_ F_h60__k_4_ F_h60__k_5_ FR_h60 e_h62
  clear h60
  refine WX.s1 rfl rfl ?_
  refine WX.newN rfl (bigk (k := k) (a := 7) hbig (by decide)) (fun h66 e_h66 => ?_)
  have F_h66_k : h66 k = .inr (1, [.ref b1, .ref b2, .int 8, .ref (k + 1), .ref (k + 2), .ref (k + 5), .int 0, .int 0, .int 0, .null, .null, .null, .null, .ref (k + 3), .int 0, .int 0, .int 0, .int 0]) := by rw [e_h66, va_up_neq (nek1 (a := 6) (by decide))]; exact F_h62_k
  have F_h66__k_1_ : h66 (k + 1) = .inl (1, 2667, .inl (fun _ => 0)) := by rw [e_h66, va_up_neq (nek (a := 1) (b := 6) (by decide))]; exact F_h62__k_1_
  have F_h66__k_2_ : h66 (k + 2) = .inl (1, 2667, .inl (fun _ => 0)) := by rw [e_h66, va_up_neq (nek (a := 2) (b := 6) (by decide))]; exact F_h62__k_2_
  have F_h66__k_3_ : h66 (k + 3) = .inr (7, [.ref (k + 4), .int 0, .int 0, .long 0, .int 0]) := by rw [e_h66, va_up_neq (nek (a := 3) (b := 6) (by decide))]; exact F_h62__k_3_
  have F_h66__k_4_ : h66 (k + 4) = .inl (0, 128, .inl (fun _ => 0)) := by rw [e_h66, va_up_neq (nek (a := 4) (b := 6) (by decide))]; exact F_h62__k_4_
  have F_h66__k_5_ : h66 (k + 5) = .inl (1, 32, .inl (fun _ => 0)) := by rw [e_h66, va_up_neq (nek (a := 5) (b := 6) (by decide))]; exact F_h62__k_5_
  have F_h66__k_6_ : h66 (k + 6) = .inr (8, zX8) := by rw [e_h66]; exact va_up_eq
  have FR_h66 : ∀ j, j < k ∨ aBig ≤ j → h66 j = h j := fun j hj => by rw [e_h66]; exact (va_up_neq (frne (a := 6) hj hbig (by decide))).trans (FR_h62 j hj)
  clear F_h62_k F_h62__k_1_ F_h62__k_2_ F_h62__k_3_ F_h62__k_4_ F_h62__k_5_ FR_h62 e_h66
  clear h62
  refine WX.s1 rfl rfl ?_
  refine WX.s1 rfl rfl ?_
  refine WX.s1 rfl rfl ?_
  refine WX.callC (vs := [.ref (k + 6), .int 31, .int 8]) rfl rfl rfl (Nat.le_of_ble_eq_true rfl) (rcv_ok (ltk (a := 6) (c := 7) (by decide)) F_h66__k_6_) ?_
  refine n_share_31_8 (k := k + 6) (bigk (k := k) (a := 14) hbig (by decide)) F_h66__k_6_ (fun h73 fr73 cs73 => ?_)
  have F_h73_k : h73 k = .inr (1, [.ref b1, .ref b2, .int 8, .ref (k + 1), .ref (k + 2), .ref (k + 5), .int 0, .int 0, .int 0, .null, .null, .null, .null, .ref (k + 3), .int 0, .int 0, .int 0, .int 0]) := (fr73 k (Or.inl (ltk0 (c := 6) (by decide)))).trans F_h66_k
  have F_h73__k_1_ : h73 (k + 1) = .inl (1, 2667, .inl (fun _ => 0)) := (fr73 (k + 1) (Or.inl (ltk (a := 1) (c := 6) (by decide)))).trans F_h66__k_1_
  have F_h73__k_2_ : h73 (k + 2) = .inl (1, 2667, .inl (fun _ => 0)) := (fr73 (k + 2) (Or.inl (ltk (a := 2) (c := 6) (by decide)))).trans F_h66__k_2_
  have F_h73__k_3_ : h73 (k + 3) = .inr (7, [.ref (k + 4), .int 0, .int 0, .long 0, .int 0]) := (fr73 (k + 3) (Or.inl (ltk (a := 3) (c := 6) (by decide)))).trans F_h66__k_3_
  have F_h73__k_4_ : h73 (k + 4) = .inl (0, 128, .inl (fun _ => 0)) := (fr73 (k + 4) (Or.inl (ltk (a := 4) (c := 6) (by decide)))).trans F_h66__k_4_
  have F_h73__k_5_ : h73 (k + 5) = .inl (1, 32, .inl (fun _ => 0)) := (fr73 (k + 5) (Or.inl (ltk (a := 5) (c := 6) (by decide)))).trans F_h66__k_5_
  have F_h73__k_6_ : h73 (k + 6) = .inr (8, [.int 31, .ref (k + 7), .ref (k + 8), .ref (k + 9), .ref (k + 10), .ref (k + 11), .ref (k + 12), .int 0, .int 0]) := cs73.1
  have F_h73__k_7_ : h73 (k + 7) = .inl (1, 32, .inl (fun _ => 0)) := cs73.2.1
  have F_h73__k_8_ : h73 (k + 8) = .inl (1, 32, .inl (fun _ => 0)) := cs73.2.2.1
  have F_h73__k_9_ : h73 (k + 9) = .inl (1, 32, .inl (fun _ => 0)) := cs73.2.2.2.1
  have F_h73__k_10_ : h73 (k + 10) = .inl (1, 32, .inl (fun _ => 0)) := cs73.2.2.2.2.1
  have F_h73__k_11_ : h73 (k + 11) = .inl (1, 256, .inl (fun _ => 0)) := cs73.2.2.2.2.2.1
  have F_h73__k_12_ : h73 (k + 12) = .inl (1, 256, .inl (fun _ => 0)) := cs73.2.2.2.2.2.2.1
  have FR_h73 : ∀ j, j < k ∨ aBig ≤ j → h73 j = h j := fun j hj => (fr73 j (hj.imp (fun z => Nat.lt_of_lt_of_le z (Nat.le_add_right _ _)) (fun z => z))).trans (FR_h66 j hj)
  clear F_h66_k F_h66__k_1_ F_h66__k_2_ F_h66__k_3_ F_h66__k_4_ F_h66__k_5_ F_h66__k_6_ FR_h66 fr73 cs73
  clear h66
  show WX _ _ _ 76 [(0, .ref k), (1, .ref b1), (2, .ref b2), (3, .int 31), (4, .int 8)] [.ref (k + 6), .ref k] (k + 13, s + 2667 + 2667 + 5 + 128 + 32 + 9 + 640, h73)
  refine WX.put1 (fs := [.ref b1, .ref b2, .int 8, .ref (k + 1), .ref (k + 2), .ref (k + 5), .int 0, .int 0, .int 0, .null, .null, .null, .null, .ref (k + 3), .int 0, .int 0, .int 0, .int 0]) (fs' := [.ref b1, .ref b2, .int 8, .ref (k + 1), .ref (k + 2), .ref (k + 5), .int 0, .int 0, .int 0, .ref (k + 6), .null, .null, .null, .ref (k + 3), .int 0, .int 0, .int 0, .int 0]) rfl (ltk0 (c := 13) (by decide)) (F_h73_k) (Nat.le_of_ble_eq_true rfl) (rfl) rfl (fun h76 e_h76 => ?_)
  have F_h76_k : h76 k = .inr (1, [.ref b1, .ref b2, .int 8, .ref (k + 1), .ref (k + 2), .ref (k + 5), .int 0, .int 0, .int 0, .ref (k + 6), .null, .null, .null, .ref (k + 3), .int 0, .int 0, .int 0, .int 0]) := by rw [e_h76]; exact va_up_eq
  have F_h76__k_1_ : h76 (k + 1) = .inl (1, 2667, .inl (fun _ => 0)) := by rw [e_h76, va_up_neq (nek0 (a := 1) (by decide))]; exact F_h73__k_1_
  have F_h76__k_2_ : h76 (k + 2) = .inl (1, 2667, .inl (fun _ => 0)) := by rw [e_h76, va_up_neq (nek0 (a := 2) (by decide))]; exact F_h73__k_2_
  have F_h76__k_3_ : h76 (k + 3) = .inr (7, [.ref (k + 4), .int 0, .int 0, .long 0, .int 0]) := by rw [e_h76, va_up_neq (nek0 (a := 3) (by decide))]; exact F_h73__k_3_
  have F_h76__k_4_ : h76 (k + 4) = .inl (0, 128, .inl (fun _ => 0)) := by rw [e_h76, va_up_neq (nek0 (a := 4) (by decide))]; exact F_h73__k_4_
  have F_h76__k_5_ : h76 (k + 5) = .inl (1, 32, .inl (fun _ => 0)) := by rw [e_h76, va_up_neq (nek0 (a := 5) (by decide))]; exact F_h73__k_5_
  have F_h76__k_6_ : h76 (k + 6) = .inr (8, [.int 31, .ref (k + 7), .ref (k + 8), .ref (k + 9), .ref (k + 10), .ref (k + 11), .ref (k + 12), .int 0, .int 0]) := by rw [e_h76, va_up_neq (nek0 (a := 6) (by decide))]; exact F_h73__k_6_
  have F_h76__k_7_ : h76 (k + 7) = .inl (1, 32, .inl (fun _ => 0)) := by rw [e_h76, va_up_neq (nek0 (a := 7) (by decide))]; exact F_h73__k_7_
  have F_h76__k_8_ : h76 (k + 8) = .inl (1, 32, .inl (fun _ => 0)) := by rw [e_h76, va_up_neq (nek0 (a := 8) (by decide))]; exact F_h73__k_8_
  have F_h76__k_9_ : h76 (k + 9) = .inl (1, 32, .inl (fun _ => 0)) := by rw [e_h76, va_up_neq (nek0 (a := 9) (by decide))]; exact F_h73__k_9_
  have F_h76__k_10_ : h76 (k + 10) = .inl (1, 32, .inl (fun _ => 0)) := by rw [e_h76, va_up_neq (nek0 (a := 10) (by decide))]; exact F_h73__k_10_
  have F_h76__k_11_ : h76 (k + 11) = .inl (1, 256, .inl (fun _ => 0)) := by rw [e_h76, va_up_neq (nek0 (a := 11) (by decide))]; exact F_h73__k_11_
  have F_h76__k_12_ : h76 (k + 12) = .inl (1, 256, .inl (fun _ => 0)) := by rw [e_h76, va_up_neq (nek0 (a := 12) (by decide))]; exact F_h73__k_12_
  have FR_h76 : ∀ j, j < k ∨ aBig ≤ j → h76 j = h j := fun j hj => by rw [e_h76]; exact (va_up_neq (frne0 hj hbig)).trans (FR_h73 j hj)
  clear F_h73_k F_h73__k_1_ F_h73__k_2_ F_h73__k_3_ F_h73__k_4_ F_h73__k_5_ F_h73__k_6_ F_h73__k_7_ F_h73__k_8_ F_h73__k_9_ F_h73__k_10_ F_h73__k_11_ F_h73__k_12_ FR_h73 e_h76
  clear h73
  refine WX.s1 rfl rfl ?_
  refine WX.newN rfl (bigk (k := k) (a := 14) hbig (by decide)) (fun h80 e_h80 => ?_)
  have F_h80_k : h80 k = .inr (1, [.ref b1, .ref b2, .int 8, .ref (k + 1), .ref (k + 2), .ref (k + 5), .int 0, .int 0, .int 0, .ref (k + 6), .null, .null, .null, .ref (k + 3), .int 0, .int 0, .int 0, .int 0]) := by rw [e_h80, va_up_neq (nek1 (a := 13) (by decide))]; exact F_h76_k
  have F_h80__k_1_ : h80 (k + 1) = .inl (1, 2667, .inl (fun _ => 0)) := by rw [e_h80, va_up_neq (nek (a := 1) (b := 13) (by decide))]; exact F_h76__k_1_
  have F_h80__k_2_ : h80 (k + 2) = .inl (1, 2667, .inl (fun _ => 0)) := by rw [e_h80, va_up_neq (nek (a := 2) (b := 13) (by decide))]; exact F_h76__k_2_
  have F_h80__k_3_ : h80 (k + 3) = .inr (7, [.ref (k + 4), .int 0, .int 0, .long 0, .int 0]) := by rw [e_h80, va_up_neq (nek (a := 3) (b := 13) (by decide))]; exact F_h76__k_3_
  have F_h80__k_4_ : h80 (k + 4) = .inl (0, 128, .inl (fun _ => 0)) := by rw [e_h80, va_up_neq (nek (a := 4) (b := 13) (by decide))]; exact F_h76__k_4_
  have F_h80__k_5_ : h80 (k + 5) = .inl (1, 32, .inl (fun _ => 0)) := by rw [e_h80, va_up_neq (nek (a := 5) (b := 13) (by decide))]; exact F_h76__k_5_
  have F_h80__k_6_ : h80 (k + 6) = .inr (8, [.int 31, .ref (k + 7), .ref (k + 8), .ref (k + 9), .ref (k + 10), .ref (k + 11), .ref (k + 12), .int 0, .int 0]) := by rw [e_h80, va_up_neq (nek (a := 6) (b := 13) (by decide))]; exact F_h76__k_6_
  have F_h80__k_7_ : h80 (k + 7) = .inl (1, 32, .inl (fun _ => 0)) := by rw [e_h80, va_up_neq (nek (a := 7) (b := 13) (by decide))]; exact F_h76__k_7_
  have F_h80__k_8_ : h80 (k + 8) = .inl (1, 32, .inl (fun _ => 0)) := by rw [e_h80, va_up_neq (nek (a := 8) (b := 13) (by decide))]; exact F_h76__k_8_
  have F_h80__k_9_ : h80 (k + 9) = .inl (1, 32, .inl (fun _ => 0)) := by rw [e_h80, va_up_neq (nek (a := 9) (b := 13) (by decide))]; exact F_h76__k_9_
  have F_h80__k_10_ : h80 (k + 10) = .inl (1, 32, .inl (fun _ => 0)) := by rw [e_h80, va_up_neq (nek (a := 10) (b := 13) (by decide))]; exact F_h76__k_10_
  have F_h80__k_11_ : h80 (k + 11) = .inl (1, 256, .inl (fun _ => 0)) := by rw [e_h80, va_up_neq (nek (a := 11) (b := 13) (by decide))]; exact F_h76__k_11_
  have F_h80__k_12_ : h80 (k + 12) = .inl (1, 256, .inl (fun _ => 0)) := by rw [e_h80, va_up_neq (nek (a := 12) (b := 13) (by decide))]; exact F_h76__k_12_
  have F_h80__k_13_ : h80 (k + 13) = .inr (8, zX8) := by rw [e_h80]; exact va_up_eq
  have FR_h80 : ∀ j, j < k ∨ aBig ≤ j → h80 j = h j := fun j hj => by rw [e_h80]; exact (va_up_neq (frne (a := 13) hj hbig (by decide))).trans (FR_h76 j hj)
  clear F_h76_k F_h76__k_1_ F_h76__k_2_ F_h76__k_3_ F_h76__k_4_ F_h76__k_5_ F_h76__k_6_ F_h76__k_7_ F_h76__k_8_ F_h76__k_9_ F_h76__k_10_ F_h76__k_11_ F_h76__k_12_ FR_h76 e_h80
  clear h76
  refine WX.s1 rfl rfl ?_
  refine WX.s1 rfl rfl ?_
  refine WX.s1 rfl rfl ?_
  refine WX.callC (vs := [.ref (k + 13), .int 31, .int 8]) rfl rfl rfl (Nat.le_of_ble_eq_true rfl) (rcv_ok (ltk (a := 13) (c := 14) (by decide)) F_h80__k_13_) ?_
  refine n_share_31_8 (k := k + 13) (bigk (k := k) (a := 21) hbig (by decide)) F_h80__k_13_ (fun h87 fr87 cs87 => ?_)
  have F_h87_k : h87 k = .inr (1, [.ref b1, .ref b2, .int 8, .ref (k + 1), .ref (k + 2), .ref (k + 5), .int 0, .int 0, .int 0, .ref (k + 6), .null, .null, .null, .ref (k + 3), .int 0, .int 0, .int 0, .int 0]) := (fr87 k (Or.inl (ltk0 (c := 13) (by decide)))).trans F_h80_k
  have F_h87__k_1_ : h87 (k + 1) = .inl (1, 2667, .inl (fun _ => 0)) := (fr87 (k + 1) (Or.inl (ltk (a := 1) (c := 13) (by decide)))).trans F_h80__k_1_
  have F_h87__k_2_ : h87 (k + 2) = .inl (1, 2667, .inl (fun _ => 0)) := (fr87 (k + 2) (Or.inl (ltk (a := 2) (c := 13) (by decide)))).trans F_h80__k_2_
  have F_h87__k_3_ : h87 (k + 3) = .inr (7, [.ref (k + 4), .int 0, .int 0, .long 0, .int 0]) := (fr87 (k + 3) (Or.inl (ltk (a := 3) (c := 13) (by decide)))).trans F_h80__k_3_
  have F_h87__k_4_ : h87 (k + 4) = .inl (0, 128, .inl (fun _ => 0)) := (fr87 (k + 4) (Or.inl (ltk (a := 4) (c := 13) (by decide)))).trans F_h80__k_4_
  have F_h87__k_5_ : h87 (k + 5) = .inl (1, 32, .inl (fun _ => 0)) := (fr87 (k + 5) (Or.inl (ltk (a := 5) (c := 13) (by decide)))).trans F_h80__k_5_
  have F_h87__k_6_ : h87 (k + 6) = .inr (8, [.int 31, .ref (k + 7), .ref (k + 8), .ref (k + 9), .ref (k + 10), .ref (k + 11), .ref (k + 12), .int 0, .int 0]) := (fr87 (k + 6) (Or.inl (ltk (a := 6) (c := 13) (by decide)))).trans F_h80__k_6_
  have F_h87__k_7_ : h87 (k + 7) = .inl (1, 32, .inl (fun _ => 0)) := (fr87 (k + 7) (Or.inl (ltk (a := 7) (c := 13) (by decide)))).trans F_h80__k_7_
  have F_h87__k_8_ : h87 (k + 8) = .inl (1, 32, .inl (fun _ => 0)) := (fr87 (k + 8) (Or.inl (ltk (a := 8) (c := 13) (by decide)))).trans F_h80__k_8_
  have F_h87__k_9_ : h87 (k + 9) = .inl (1, 32, .inl (fun _ => 0)) := (fr87 (k + 9) (Or.inl (ltk (a := 9) (c := 13) (by decide)))).trans F_h80__k_9_
  have F_h87__k_10_ : h87 (k + 10) = .inl (1, 32, .inl (fun _ => 0)) := (fr87 (k + 10) (Or.inl (ltk (a := 10) (c := 13) (by decide)))).trans F_h80__k_10_
  have F_h87__k_11_ : h87 (k + 11) = .inl (1, 256, .inl (fun _ => 0)) := (fr87 (k + 11) (Or.inl (ltk (a := 11) (c := 13) (by decide)))).trans F_h80__k_11_
  have F_h87__k_12_ : h87 (k + 12) = .inl (1, 256, .inl (fun _ => 0)) := (fr87 (k + 12) (Or.inl (ltk (a := 12) (c := 13) (by decide)))).trans F_h80__k_12_
  have F_h87__k_13_ : h87 (k + 13) = .inr (8, [.int 31, .ref (k + 14), .ref (k + 15), .ref (k + 16), .ref (k + 17), .ref (k + 18), .ref (k + 19), .int 0, .int 0]) := cs87.1
  have F_h87__k_14_ : h87 (k + 14) = .inl (1, 32, .inl (fun _ => 0)) := cs87.2.1
  have F_h87__k_15_ : h87 (k + 15) = .inl (1, 32, .inl (fun _ => 0)) := cs87.2.2.1
  have F_h87__k_16_ : h87 (k + 16) = .inl (1, 32, .inl (fun _ => 0)) := cs87.2.2.2.1
  have F_h87__k_17_ : h87 (k + 17) = .inl (1, 32, .inl (fun _ => 0)) := cs87.2.2.2.2.1
  have F_h87__k_18_ : h87 (k + 18) = .inl (1, 256, .inl (fun _ => 0)) := cs87.2.2.2.2.2.1
  have F_h87__k_19_ : h87 (k + 19) = .inl (1, 256, .inl (fun _ => 0)) := cs87.2.2.2.2.2.2.1
  have FR_h87 : ∀ j, j < k ∨ aBig ≤ j → h87 j = h j := fun j hj => (fr87 j (hj.imp (fun z => Nat.lt_of_lt_of_le z (Nat.le_add_right _ _)) (fun z => z))).trans (FR_h80 j hj)
  clear F_h80_k F_h80__k_1_ F_h80__k_2_ F_h80__k_3_ F_h80__k_4_ F_h80__k_5_ F_h80__k_6_ F_h80__k_7_ F_h80__k_8_ F_h80__k_9_ F_h80__k_10_ F_h80__k_11_ F_h80__k_12_ F_h80__k_13_ FR_h80 fr87 cs87
  clear h80
  show WX _ _ _ 90 [(0, .ref k), (1, .ref b1), (2, .ref b2), (3, .int 31), (4, .int 8)] [.ref (k + 13), .ref k] (k + 20, s + 2667 + 2667 + 5 + 128 + 32 + 9 + 640 + 9 + 640, h87)
  refine WX.put1 (fs := [.ref b1, .ref b2, .int 8, .ref (k + 1), .ref (k + 2), .ref (k + 5), .int 0, .int 0, .int 0, .ref (k + 6), .null, .null, .null, .ref (k + 3), .int 0, .int 0, .int 0, .int 0]) (fs' := [.ref b1, .ref b2, .int 8, .ref (k + 1), .ref (k + 2), .ref (k + 5), .int 0, .int 0, .int 0, .ref (k + 6), .ref (k + 13), .null, .null, .ref (k + 3), .int 0, .int 0, .int 0, .int 0]) rfl (ltk0 (c := 20) (by decide)) (F_h87_k) (Nat.le_of_ble_eq_true rfl) (rfl) rfl (fun h90 e_h90 => ?_)
  have F_h90_k : h90 k = .inr (1, [.ref b1, .ref b2, .int 8, .ref (k + 1), .ref (k + 2), .ref (k + 5), .int 0, .int 0, .int 0, .ref (k + 6), .ref (k + 13), .null, .null, .ref (k + 3), .int 0, .int 0, .int 0, .int 0]) := by rw [e_h90]; exact va_up_eq
  have F_h90__k_1_ : h90 (k + 1) = .inl (1, 2667, .inl (fun _ => 0)) := by rw [e_h90, va_up_neq (nek0 (a := 1) (by decide))]; exact F_h87__k_1_
  have F_h90__k_2_ : h90 (k + 2) = .inl (1, 2667, .inl (fun _ => 0)) := by rw [e_h90, va_up_neq (nek0 (a := 2) (by decide))]; exact F_h87__k_2_
  have F_h90__k_3_ : h90 (k + 3) = .inr (7, [.ref (k + 4), .int 0, .int 0, .long 0, .int 0]) := by rw [e_h90, va_up_neq (nek0 (a := 3) (by decide))]; exact F_h87__k_3_
  have F_h90__k_4_ : h90 (k + 4) = .inl (0, 128, .inl (fun _ => 0)) := by rw [e_h90, va_up_neq (nek0 (a := 4) (by decide))]; exact F_h87__k_4_
  have F_h90__k_5_ : h90 (k + 5) = .inl (1, 32, .inl (fun _ => 0)) := by rw [e_h90, va_up_neq (nek0 (a := 5) (by decide))]; exact F_h87__k_5_
  have F_h90__k_6_ : h90 (k + 6) = .inr (8, [.int 31, .ref (k + 7), .ref (k + 8), .ref (k + 9), .ref (k + 10), .ref (k + 11), .ref (k + 12), .int 0, .int 0]) := by rw [e_h90, va_up_neq (nek0 (a := 6) (by decide))]; exact F_h87__k_6_
  have F_h90__k_7_ : h90 (k + 7) = .inl (1, 32, .inl (fun _ => 0)) := by rw [e_h90, va_up_neq (nek0 (a := 7) (by decide))]; exact F_h87__k_7_
  have F_h90__k_8_ : h90 (k + 8) = .inl (1, 32, .inl (fun _ => 0)) := by rw [e_h90, va_up_neq (nek0 (a := 8) (by decide))]; exact F_h87__k_8_
  have F_h90__k_9_ : h90 (k + 9) = .inl (1, 32, .inl (fun _ => 0)) := by rw [e_h90, va_up_neq (nek0 (a := 9) (by decide))]; exact F_h87__k_9_
  have F_h90__k_10_ : h90 (k + 10) = .inl (1, 32, .inl (fun _ => 0)) := by rw [e_h90, va_up_neq (nek0 (a := 10) (by decide))]; exact F_h87__k_10_
  have F_h90__k_11_ : h90 (k + 11) = .inl (1, 256, .inl (fun _ => 0)) := by rw [e_h90, va_up_neq (nek0 (a := 11) (by decide))]; exact F_h87__k_11_
  have F_h90__k_12_ : h90 (k + 12) = .inl (1, 256, .inl (fun _ => 0)) := by rw [e_h90, va_up_neq (nek0 (a := 12) (by decide))]; exact F_h87__k_12_
  have F_h90__k_13_ : h90 (k + 13) = .inr (8, [.int 31, .ref (k + 14), .ref (k + 15), .ref (k + 16), .ref (k + 17), .ref (k + 18), .ref (k + 19), .int 0, .int 0]) := by rw [e_h90, va_up_neq (nek0 (a := 13) (by decide))]; exact F_h87__k_13_
  have F_h90__k_14_ : h90 (k + 14) = .inl (1, 32, .inl (fun _ => 0)) := by rw [e_h90, va_up_neq (nek0 (a := 14) (by decide))]; exact F_h87__k_14_
  have F_h90__k_15_ : h90 (k + 15) = .inl (1, 32, .inl (fun _ => 0)) := by rw [e_h90, va_up_neq (nek0 (a := 15) (by decide))]; exact F_h87__k_15_
  have F_h90__k_16_ : h90 (k + 16) = .inl (1, 32, .inl (fun _ => 0)) := by rw [e_h90, va_up_neq (nek0 (a := 16) (by decide))]; exact F_h87__k_16_
  have F_h90__k_17_ : h90 (k + 17) = .inl (1, 32, .inl (fun _ => 0)) := by rw [e_h90, va_up_neq (nek0 (a := 17) (by decide))]; exact F_h87__k_17_
  have F_h90__k_18_ : h90 (k + 18) = .inl (1, 256, .inl (fun _ => 0)) := by rw [e_h90, va_up_neq (nek0 (a := 18) (by decide))]; exact F_h87__k_18_
  have F_h90__k_19_ : h90 (k + 19) = .inl (1, 256, .inl (fun _ => 0)) := by rw [e_h90, va_up_neq (nek0 (a := 19) (by decide))]; exact F_h87__k_19_
  have FR_h90 : ∀ j, j < k ∨ aBig ≤ j → h90 j = h j := fun j hj => by rw [e_h90]; exact (va_up_neq (frne0 hj hbig)).trans (FR_h87 j hj)
  clear F_h87_k F_h87__k_1_ F_h87__k_2_ F_h87__k_3_ F_h87__k_4_ F_h87__k_5_ F_h87__k_6_ F_h87__k_7_ F_h87__k_8_ F_h87__k_9_ F_h87__k_10_ F_h87__k_11_ F_h87__k_12_ F_h87__k_13_ F_h87__k_14_ F_h87__k_15_ F_h87__k_16_ F_h87__k_17_ F_h87__k_18_ F_h87__k_19_ FR_h87 e_h90
  clear h87
  refine WX.s1 rfl rfl ?_
  refine WX.newN rfl (bigk (k := k) (a := 21) hbig (by decide)) (fun h94 e_h94 => ?_)
  have F_h94_k : h94 k = .inr (1, [.ref b1, .ref b2, .int 8, .ref (k + 1), .ref (k + 2), .ref (k + 5), .int 0, .int 0, .int 0, .ref (k + 6), .ref (k + 13), .null, .null, .ref (k + 3), .int 0, .int 0, .int 0, .int 0]) := by rw [e_h94, va_up_neq (nek1 (a := 20) (by decide))]; exact F_h90_k
  have F_h94__k_1_ : h94 (k + 1) = .inl (1, 2667, .inl (fun _ => 0)) := by rw [e_h94, va_up_neq (nek (a := 1) (b := 20) (by decide))]; exact F_h90__k_1_
  have F_h94__k_2_ : h94 (k + 2) = .inl (1, 2667, .inl (fun _ => 0)) := by rw [e_h94, va_up_neq (nek (a := 2) (b := 20) (by decide))]; exact F_h90__k_2_
  have F_h94__k_3_ : h94 (k + 3) = .inr (7, [.ref (k + 4), .int 0, .int 0, .long 0, .int 0]) := by rw [e_h94, va_up_neq (nek (a := 3) (b := 20) (by decide))]; exact F_h90__k_3_
  have F_h94__k_4_ : h94 (k + 4) = .inl (0, 128, .inl (fun _ => 0)) := by rw [e_h94, va_up_neq (nek (a := 4) (b := 20) (by decide))]; exact F_h90__k_4_
  have F_h94__k_5_ : h94 (k + 5) = .inl (1, 32, .inl (fun _ => 0)) := by rw [e_h94, va_up_neq (nek (a := 5) (b := 20) (by decide))]; exact F_h90__k_5_
  have F_h94__k_6_ : h94 (k + 6) = .inr (8, [.int 31, .ref (k + 7), .ref (k + 8), .ref (k + 9), .ref (k + 10), .ref (k + 11), .ref (k + 12), .int 0, .int 0]) := by rw [e_h94, va_up_neq (nek (a := 6) (b := 20) (by decide))]; exact F_h90__k_6_
  have F_h94__k_7_ : h94 (k + 7) = .inl (1, 32, .inl (fun _ => 0)) := by rw [e_h94, va_up_neq (nek (a := 7) (b := 20) (by decide))]; exact F_h90__k_7_
  have F_h94__k_8_ : h94 (k + 8) = .inl (1, 32, .inl (fun _ => 0)) := by rw [e_h94, va_up_neq (nek (a := 8) (b := 20) (by decide))]; exact F_h90__k_8_
  have F_h94__k_9_ : h94 (k + 9) = .inl (1, 32, .inl (fun _ => 0)) := by rw [e_h94, va_up_neq (nek (a := 9) (b := 20) (by decide))]; exact F_h90__k_9_
  have F_h94__k_10_ : h94 (k + 10) = .inl (1, 32, .inl (fun _ => 0)) := by rw [e_h94, va_up_neq (nek (a := 10) (b := 20) (by decide))]; exact F_h90__k_10_
  have F_h94__k_11_ : h94 (k + 11) = .inl (1, 256, .inl (fun _ => 0)) := by rw [e_h94, va_up_neq (nek (a := 11) (b := 20) (by decide))]; exact F_h90__k_11_
  have F_h94__k_12_ : h94 (k + 12) = .inl (1, 256, .inl (fun _ => 0)) := by rw [e_h94, va_up_neq (nek (a := 12) (b := 20) (by decide))]; exact F_h90__k_12_
  have F_h94__k_13_ : h94 (k + 13) = .inr (8, [.int 31, .ref (k + 14), .ref (k + 15), .ref (k + 16), .ref (k + 17), .ref (k + 18), .ref (k + 19), .int 0, .int 0]) := by rw [e_h94, va_up_neq (nek (a := 13) (b := 20) (by decide))]; exact F_h90__k_13_
  have F_h94__k_14_ : h94 (k + 14) = .inl (1, 32, .inl (fun _ => 0)) := by rw [e_h94, va_up_neq (nek (a := 14) (b := 20) (by decide))]; exact F_h90__k_14_
  have F_h94__k_15_ : h94 (k + 15) = .inl (1, 32, .inl (fun _ => 0)) := by rw [e_h94, va_up_neq (nek (a := 15) (b := 20) (by decide))]; exact F_h90__k_15_
  have F_h94__k_16_ : h94 (k + 16) = .inl (1, 32, .inl (fun _ => 0)) := by rw [e_h94, va_up_neq (nek (a := 16) (b := 20) (by decide))]; exact F_h90__k_16_
  have F_h94__k_17_ : h94 (k + 17) = .inl (1, 32, .inl (fun _ => 0)) := by rw [e_h94, va_up_neq (nek (a := 17) (b := 20) (by decide))]; exact F_h90__k_17_
  have F_h94__k_18_ : h94 (k + 18) = .inl (1, 256, .inl (fun _ => 0)) := by rw [e_h94, va_up_neq (nek (a := 18) (b := 20) (by decide))]; exact F_h90__k_18_
  have F_h94__k_19_ : h94 (k + 19) = .inl (1, 256, .inl (fun _ => 0)) := by rw [e_h94, va_up_neq (nek (a := 19) (b := 20) (by decide))]; exact F_h90__k_19_
  have F_h94__k_20_ : h94 (k + 20) = .inr (8, zX8) := by rw [e_h94]; exact va_up_eq
  have FR_h94 : ∀ j, j < k ∨ aBig ≤ j → h94 j = h j := fun j hj => by rw [e_h94]; exact (va_up_neq (frne (a := 20) hj hbig (by decide))).trans (FR_h90 j hj)
  clear F_h90_k F_h90__k_1_ F_h90__k_2_ F_h90__k_3_ F_h90__k_4_ F_h90__k_5_ F_h90__k_6_ F_h90__k_7_ F_h90__k_8_ F_h90__k_9_ F_h90__k_10_ F_h90__k_11_ F_h90__k_12_ F_h90__k_13_ F_h90__k_14_ F_h90__k_15_ F_h90__k_16_ F_h90__k_17_ F_h90__k_18_ F_h90__k_19_ FR_h90 e_h94
  clear h90
  refine WX.s1 rfl rfl ?_
  refine WX.s1 rfl rfl ?_
  refine WX.s1 rfl rfl ?_
  refine WX.callC (vs := [.ref (k + 20), .int 31, .int 8]) rfl rfl rfl (Nat.le_of_ble_eq_true rfl) (rcv_ok (ltk (a := 20) (c := 21) (by decide)) F_h94__k_20_) ?_
  refine n_share_31_8 (k := k + 20) (bigk (k := k) (a := 28) hbig (by decide)) F_h94__k_20_ (fun h101 fr101 cs101 => ?_)
  have F_h101_k : h101 k = .inr (1, [.ref b1, .ref b2, .int 8, .ref (k + 1), .ref (k + 2), .ref (k + 5), .int 0, .int 0, .int 0, .ref (k + 6), .ref (k + 13), .null, .null, .ref (k + 3), .int 0, .int 0, .int 0, .int 0]) := (fr101 k (Or.inl (ltk0 (c := 20) (by decide)))).trans F_h94_k
  have F_h101__k_1_ : h101 (k + 1) = .inl (1, 2667, .inl (fun _ => 0)) := (fr101 (k + 1) (Or.inl (ltk (a := 1) (c := 20) (by decide)))).trans F_h94__k_1_
  have F_h101__k_2_ : h101 (k + 2) = .inl (1, 2667, .inl (fun _ => 0)) := (fr101 (k + 2) (Or.inl (ltk (a := 2) (c := 20) (by decide)))).trans F_h94__k_2_
  have F_h101__k_3_ : h101 (k + 3) = .inr (7, [.ref (k + 4), .int 0, .int 0, .long 0, .int 0]) := (fr101 (k + 3) (Or.inl (ltk (a := 3) (c := 20) (by decide)))).trans F_h94__k_3_
  have F_h101__k_4_ : h101 (k + 4) = .inl (0, 128, .inl (fun _ => 0)) := (fr101 (k + 4) (Or.inl (ltk (a := 4) (c := 20) (by decide)))).trans F_h94__k_4_
  have F_h101__k_5_ : h101 (k + 5) = .inl (1, 32, .inl (fun _ => 0)) := (fr101 (k + 5) (Or.inl (ltk (a := 5) (c := 20) (by decide)))).trans F_h94__k_5_
  have F_h101__k_6_ : h101 (k + 6) = .inr (8, [.int 31, .ref (k + 7), .ref (k + 8), .ref (k + 9), .ref (k + 10), .ref (k + 11), .ref (k + 12), .int 0, .int 0]) := (fr101 (k + 6) (Or.inl (ltk (a := 6) (c := 20) (by decide)))).trans F_h94__k_6_
  have F_h101__k_7_ : h101 (k + 7) = .inl (1, 32, .inl (fun _ => 0)) := (fr101 (k + 7) (Or.inl (ltk (a := 7) (c := 20) (by decide)))).trans F_h94__k_7_
  have F_h101__k_8_ : h101 (k + 8) = .inl (1, 32, .inl (fun _ => 0)) := (fr101 (k + 8) (Or.inl (ltk (a := 8) (c := 20) (by decide)))).trans F_h94__k_8_
  have F_h101__k_9_ : h101 (k + 9) = .inl (1, 32, .inl (fun _ => 0)) := (fr101 (k + 9) (Or.inl (ltk (a := 9) (c := 20) (by decide)))).trans F_h94__k_9_
  have F_h101__k_10_ : h101 (k + 10) = .inl (1, 32, .inl (fun _ => 0)) := (fr101 (k + 10) (Or.inl (ltk (a := 10) (c := 20) (by decide)))).trans F_h94__k_10_
  have F_h101__k_11_ : h101 (k + 11) = .inl (1, 256, .inl (fun _ => 0)) := (fr101 (k + 11) (Or.inl (ltk (a := 11) (c := 20) (by decide)))).trans F_h94__k_11_
  have F_h101__k_12_ : h101 (k + 12) = .inl (1, 256, .inl (fun _ => 0)) := (fr101 (k + 12) (Or.inl (ltk (a := 12) (c := 20) (by decide)))).trans F_h94__k_12_
  have F_h101__k_13_ : h101 (k + 13) = .inr (8, [.int 31, .ref (k + 14), .ref (k + 15), .ref (k + 16), .ref (k + 17), .ref (k + 18), .ref (k + 19), .int 0, .int 0]) := (fr101 (k + 13) (Or.inl (ltk (a := 13) (c := 20) (by decide)))).trans F_h94__k_13_
  have F_h101__k_14_ : h101 (k + 14) = .inl (1, 32, .inl (fun _ => 0)) := (fr101 (k + 14) (Or.inl (ltk (a := 14) (c := 20) (by decide)))).trans F_h94__k_14_
  have F_h101__k_15_ : h101 (k + 15) = .inl (1, 32, .inl (fun _ => 0)) := (fr101 (k + 15) (Or.inl (ltk (a := 15) (c := 20) (by decide)))).trans F_h94__k_15_
  have F_h101__k_16_ : h101 (k + 16) = .inl (1, 32, .inl (fun _ => 0)) := (fr101 (k + 16) (Or.inl (ltk (a := 16) (c := 20) (by decide)))).trans F_h94__k_16_
  have F_h101__k_17_ : h101 (k + 17) = .inl (1, 32, .inl (fun _ => 0)) := (fr101 (k + 17) (Or.inl (ltk (a := 17) (c := 20) (by decide)))).trans F_h94__k_17_
  have F_h101__k_18_ : h101 (k + 18) = .inl (1, 256, .inl (fun _ => 0)) := (fr101 (k + 18) (Or.inl (ltk (a := 18) (c := 20) (by decide)))).trans F_h94__k_18_
  have F_h101__k_19_ : h101 (k + 19) = .inl (1, 256, .inl (fun _ => 0)) := (fr101 (k + 19) (Or.inl (ltk (a := 19) (c := 20) (by decide)))).trans F_h94__k_19_
  have F_h101__k_20_ : h101 (k + 20) = .inr (8, [.int 31, .ref (k + 21), .ref (k + 22), .ref (k + 23), .ref (k + 24), .ref (k + 25), .ref (k + 26), .int 0, .int 0]) := cs101.1
  have F_h101__k_21_ : h101 (k + 21) = .inl (1, 32, .inl (fun _ => 0)) := cs101.2.1
  have F_h101__k_22_ : h101 (k + 22) = .inl (1, 32, .inl (fun _ => 0)) := cs101.2.2.1
  have F_h101__k_23_ : h101 (k + 23) = .inl (1, 32, .inl (fun _ => 0)) := cs101.2.2.2.1
  have F_h101__k_24_ : h101 (k + 24) = .inl (1, 32, .inl (fun _ => 0)) := cs101.2.2.2.2.1
  have F_h101__k_25_ : h101 (k + 25) = .inl (1, 256, .inl (fun _ => 0)) := cs101.2.2.2.2.2.1
  have F_h101__k_26_ : h101 (k + 26) = .inl (1, 256, .inl (fun _ => 0)) := cs101.2.2.2.2.2.2.1
  have FR_h101 : ∀ j, j < k ∨ aBig ≤ j → h101 j = h j := fun j hj => (fr101 j (hj.imp (fun z => Nat.lt_of_lt_of_le z (Nat.le_add_right _ _)) (fun z => z))).trans (FR_h94 j hj)
  clear F_h94_k F_h94__k_1_ F_h94__k_2_ F_h94__k_3_ F_h94__k_4_ F_h94__k_5_ F_h94__k_6_ F_h94__k_7_ F_h94__k_8_ F_h94__k_9_ F_h94__k_10_ F_h94__k_11_ F_h94__k_12_ F_h94__k_13_ F_h94__k_14_ F_h94__k_15_ F_h94__k_16_ F_h94__k_17_ F_h94__k_18_ F_h94__k_19_ F_h94__k_20_ FR_h94 fr101 cs101
  clear h94
  show WX _ _ _ 104 [(0, .ref k), (1, .ref b1), (2, .ref b2), (3, .int 31), (4, .int 8)] [.ref (k + 20), .ref k] (k + 27, s + 2667 + 2667 + 5 + 128 + 32 + 9 + 640 + 9 + 640 + 9 + 640, h101)
  refine WX.put1 (fs := [.ref b1, .ref b2, .int 8, .ref (k + 1), .ref (k + 2), .ref (k + 5), .int 0, .int 0, .int 0, .ref (k + 6), .ref (k + 13), .null, .null, .ref (k + 3), .int 0, .int 0, .int 0, .int 0]) (fs' := [.ref b1, .ref b2, .int 8, .ref (k + 1), .ref (k + 2), .ref (k + 5), .int 0, .int 0, .int 0, .ref (k + 6), .ref (k + 13), .ref (k + 20), .null, .ref (k + 3), .int 0, .int 0, .int 0, .int 0]) rfl (ltk0 (c := 27) (by decide)) (F_h101_k) (Nat.le_of_ble_eq_true rfl) (rfl) rfl (fun h104 e_h104 => ?_)
  have F_h104_k : h104 k = .inr (1, [.ref b1, .ref b2, .int 8, .ref (k + 1), .ref (k + 2), .ref (k + 5), .int 0, .int 0, .int 0, .ref (k + 6), .ref (k + 13), .ref (k + 20), .null, .ref (k + 3), .int 0, .int 0, .int 0, .int 0]) := by rw [e_h104]; exact va_up_eq
  have F_h104__k_1_ : h104 (k + 1) = .inl (1, 2667, .inl (fun _ => 0)) := by rw [e_h104, va_up_neq (nek0 (a := 1) (by decide))]; exact F_h101__k_1_
  have F_h104__k_2_ : h104 (k + 2) = .inl (1, 2667, .inl (fun _ => 0)) := by rw [e_h104, va_up_neq (nek0 (a := 2) (by decide))]; exact F_h101__k_2_
  have F_h104__k_3_ : h104 (k + 3) = .inr (7, [.ref (k + 4), .int 0, .int 0, .long 0, .int 0]) := by rw [e_h104, va_up_neq (nek0 (a := 3) (by decide))]; exact F_h101__k_3_
  have F_h104__k_4_ : h104 (k + 4) = .inl (0, 128, .inl (fun _ => 0)) := by rw [e_h104, va_up_neq (nek0 (a := 4) (by decide))]; exact F_h101__k_4_
  have F_h104__k_5_ : h104 (k + 5) = .inl (1, 32, .inl (fun _ => 0)) := by rw [e_h104, va_up_neq (nek0 (a := 5) (by decide))]; exact F_h101__k_5_
  have F_h104__k_6_ : h104 (k + 6) = .inr (8, [.int 31, .ref (k + 7), .ref (k + 8), .ref (k + 9), .ref (k + 10), .ref (k + 11), .ref (k + 12), .int 0, .int 0]) := by rw [e_h104, va_up_neq (nek0 (a := 6) (by decide))]; exact F_h101__k_6_
  have F_h104__k_7_ : h104 (k + 7) = .inl (1, 32, .inl (fun _ => 0)) := by rw [e_h104, va_up_neq (nek0 (a := 7) (by decide))]; exact F_h101__k_7_
  have F_h104__k_8_ : h104 (k + 8) = .inl (1, 32, .inl (fun _ => 0)) := by rw [e_h104, va_up_neq (nek0 (a := 8) (by decide))]; exact F_h101__k_8_
  have F_h104__k_9_ : h104 (k + 9) = .inl (1, 32, .inl (fun _ => 0)) := by rw [e_h104, va_up_neq (nek0 (a := 9) (by decide))]; exact F_h101__k_9_
  have F_h104__k_10_ : h104 (k + 10) = .inl (1, 32, .inl (fun _ => 0)) := by rw [e_h104, va_up_neq (nek0 (a := 10) (by decide))]; exact F_h101__k_10_
  have F_h104__k_11_ : h104 (k + 11) = .inl (1, 256, .inl (fun _ => 0)) := by rw [e_h104, va_up_neq (nek0 (a := 11) (by decide))]; exact F_h101__k_11_
  have F_h104__k_12_ : h104 (k + 12) = .inl (1, 256, .inl (fun _ => 0)) := by rw [e_h104, va_up_neq (nek0 (a := 12) (by decide))]; exact F_h101__k_12_
  have F_h104__k_13_ : h104 (k + 13) = .inr (8, [.int 31, .ref (k + 14), .ref (k + 15), .ref (k + 16), .ref (k + 17), .ref (k + 18), .ref (k + 19), .int 0, .int 0]) := by rw [e_h104, va_up_neq (nek0 (a := 13) (by decide))]; exact F_h101__k_13_
  have F_h104__k_14_ : h104 (k + 14) = .inl (1, 32, .inl (fun _ => 0)) := by rw [e_h104, va_up_neq (nek0 (a := 14) (by decide))]; exact F_h101__k_14_
  have F_h104__k_15_ : h104 (k + 15) = .inl (1, 32, .inl (fun _ => 0)) := by rw [e_h104, va_up_neq (nek0 (a := 15) (by decide))]; exact F_h101__k_15_
  have F_h104__k_16_ : h104 (k + 16) = .inl (1, 32, .inl (fun _ => 0)) := by rw [e_h104, va_up_neq (nek0 (a := 16) (by decide))]; exact F_h101__k_16_
  have F_h104__k_17_ : h104 (k + 17) = .inl (1, 32, .inl (fun _ => 0)) := by rw [e_h104, va_up_neq (nek0 (a := 17) (by decide))]; exact F_h101__k_17_
  have F_h104__k_18_ : h104 (k + 18) = .inl (1, 256, .inl (fun _ => 0)) := by rw [e_h104, va_up_neq (nek0 (a := 18) (by decide))]; exact F_h101__k_18_
  have F_h104__k_19_ : h104 (k + 19) = .inl (1, 256, .inl (fun _ => 0)) := by rw [e_h104, va_up_neq (nek0 (a := 19) (by decide))]; exact F_h101__k_19_
  have F_h104__k_20_ : h104 (k + 20) = .inr (8, [.int 31, .ref (k + 21), .ref (k + 22), .ref (k + 23), .ref (k + 24), .ref (k + 25), .ref (k + 26), .int 0, .int 0]) := by rw [e_h104, va_up_neq (nek0 (a := 20) (by decide))]; exact F_h101__k_20_
  have F_h104__k_21_ : h104 (k + 21) = .inl (1, 32, .inl (fun _ => 0)) := by rw [e_h104, va_up_neq (nek0 (a := 21) (by decide))]; exact F_h101__k_21_
  have F_h104__k_22_ : h104 (k + 22) = .inl (1, 32, .inl (fun _ => 0)) := by rw [e_h104, va_up_neq (nek0 (a := 22) (by decide))]; exact F_h101__k_22_
  have F_h104__k_23_ : h104 (k + 23) = .inl (1, 32, .inl (fun _ => 0)) := by rw [e_h104, va_up_neq (nek0 (a := 23) (by decide))]; exact F_h101__k_23_
  have F_h104__k_24_ : h104 (k + 24) = .inl (1, 32, .inl (fun _ => 0)) := by rw [e_h104, va_up_neq (nek0 (a := 24) (by decide))]; exact F_h101__k_24_
  have F_h104__k_25_ : h104 (k + 25) = .inl (1, 256, .inl (fun _ => 0)) := by rw [e_h104, va_up_neq (nek0 (a := 25) (by decide))]; exact F_h101__k_25_
  have F_h104__k_26_ : h104 (k + 26) = .inl (1, 256, .inl (fun _ => 0)) := by rw [e_h104, va_up_neq (nek0 (a := 26) (by decide))]; exact F_h101__k_26_
  have FR_h104 : ∀ j, j < k ∨ aBig ≤ j → h104 j = h j := fun j hj => by rw [e_h104]; exact (va_up_neq (frne0 hj hbig)).trans (FR_h101 j hj)
  clear F_h101_k F_h101__k_1_ F_h101__k_2_ F_h101__k_3_ F_h101__k_4_ F_h101__k_5_ F_h101__k_6_ F_h101__k_7_ F_h101__k_8_ F_h101__k_9_ F_h101__k_10_ F_h101__k_11_ F_h101__k_12_ F_h101__k_13_ F_h101__k_14_ F_h101__k_15_ F_h101__k_16_ F_h101__k_17_ F_h101__k_18_ F_h101__k_19_ F_h101__k_20_ F_h101__k_21_ F_h101__k_22_ F_h101__k_23_ F_h101__k_24_ F_h101__k_25_ F_h101__k_26_ FR_h101 e_h104
  clear h101
  refine WX.s1 rfl rfl ?_
  refine WX.s1 rfl rfl ?_
  refine WX.get1 (fs := [.ref b1, .ref b2, .int 8, .ref (k + 1), .ref (k + 2), .ref (k + 5), .int 0, .int 0, .int 0, .ref (k + 6), .ref (k + 13), .ref (k + 20), .null, .ref (k + 3), .int 0, .int 0, .int 0, .int 0]) rfl (ltk0 (c := 27) (by decide)) (F_h104_k) rfl ?_
  refine WX.put1 (fs := [.ref b1, .ref b2, .int 8, .ref (k + 1), .ref (k + 2), .ref (k + 5), .int 0, .int 0, .int 0, .ref (k + 6), .ref (k + 13), .ref (k + 20), .null, .ref (k + 3), .int 0, .int 0, .int 0, .int 0]) (fs' := [.ref b1, .ref b2, .int 8, .ref (k + 1), .ref (k + 2), .ref (k + 5), .int 0, .int 0, .int 0, .ref (k + 6), .ref (k + 13), .ref (k + 20), .ref (k + 6), .ref (k + 3), .int 0, .int 0, .int 0, .int 0]) rfl (ltk0 (c := 27) (by decide)) (F_h104_k) (Nat.le_of_ble_eq_true rfl) (rfl) rfl (fun h112 e_h112 => ?_)
  have F_h112_k : h112 k = .inr (1, [.ref b1, .ref b2, .int 8, .ref (k + 1), .ref (k + 2), .ref (k + 5), .int 0, .int 0, .int 0, .ref (k + 6), .ref (k + 13), .ref (k + 20), .ref (k + 6), .ref (k + 3), .int 0, .int 0, .int 0, .int 0]) := by rw [e_h112]; exact va_up_eq
  have F_h112__k_1_ : h112 (k + 1) = .inl (1, 2667, .inl (fun _ => 0)) := by rw [e_h112, va_up_neq (nek0 (a := 1) (by decide))]; exact F_h104__k_1_
  have F_h112__k_2_ : h112 (k + 2) = .inl (1, 2667, .inl (fun _ => 0)) := by rw [e_h112, va_up_neq (nek0 (a := 2) (by decide))]; exact F_h104__k_2_
  have F_h112__k_3_ : h112 (k + 3) = .inr (7, [.ref (k + 4), .int 0, .int 0, .long 0, .int 0]) := by rw [e_h112, va_up_neq (nek0 (a := 3) (by decide))]; exact F_h104__k_3_
  have F_h112__k_4_ : h112 (k + 4) = .inl (0, 128, .inl (fun _ => 0)) := by rw [e_h112, va_up_neq (nek0 (a := 4) (by decide))]; exact F_h104__k_4_
  have F_h112__k_5_ : h112 (k + 5) = .inl (1, 32, .inl (fun _ => 0)) := by rw [e_h112, va_up_neq (nek0 (a := 5) (by decide))]; exact F_h104__k_5_
  have F_h112__k_6_ : h112 (k + 6) = .inr (8, [.int 31, .ref (k + 7), .ref (k + 8), .ref (k + 9), .ref (k + 10), .ref (k + 11), .ref (k + 12), .int 0, .int 0]) := by rw [e_h112, va_up_neq (nek0 (a := 6) (by decide))]; exact F_h104__k_6_
  have F_h112__k_7_ : h112 (k + 7) = .inl (1, 32, .inl (fun _ => 0)) := by rw [e_h112, va_up_neq (nek0 (a := 7) (by decide))]; exact F_h104__k_7_
  have F_h112__k_8_ : h112 (k + 8) = .inl (1, 32, .inl (fun _ => 0)) := by rw [e_h112, va_up_neq (nek0 (a := 8) (by decide))]; exact F_h104__k_8_
  have F_h112__k_9_ : h112 (k + 9) = .inl (1, 32, .inl (fun _ => 0)) := by rw [e_h112, va_up_neq (nek0 (a := 9) (by decide))]; exact F_h104__k_9_
  have F_h112__k_10_ : h112 (k + 10) = .inl (1, 32, .inl (fun _ => 0)) := by rw [e_h112, va_up_neq (nek0 (a := 10) (by decide))]; exact F_h104__k_10_
  have F_h112__k_11_ : h112 (k + 11) = .inl (1, 256, .inl (fun _ => 0)) := by rw [e_h112, va_up_neq (nek0 (a := 11) (by decide))]; exact F_h104__k_11_
  have F_h112__k_12_ : h112 (k + 12) = .inl (1, 256, .inl (fun _ => 0)) := by rw [e_h112, va_up_neq (nek0 (a := 12) (by decide))]; exact F_h104__k_12_
  have F_h112__k_13_ : h112 (k + 13) = .inr (8, [.int 31, .ref (k + 14), .ref (k + 15), .ref (k + 16), .ref (k + 17), .ref (k + 18), .ref (k + 19), .int 0, .int 0]) := by rw [e_h112, va_up_neq (nek0 (a := 13) (by decide))]; exact F_h104__k_13_
  have F_h112__k_14_ : h112 (k + 14) = .inl (1, 32, .inl (fun _ => 0)) := by rw [e_h112, va_up_neq (nek0 (a := 14) (by decide))]; exact F_h104__k_14_
  have F_h112__k_15_ : h112 (k + 15) = .inl (1, 32, .inl (fun _ => 0)) := by rw [e_h112, va_up_neq (nek0 (a := 15) (by decide))]; exact F_h104__k_15_
  have F_h112__k_16_ : h112 (k + 16) = .inl (1, 32, .inl (fun _ => 0)) := by rw [e_h112, va_up_neq (nek0 (a := 16) (by decide))]; exact F_h104__k_16_
  have F_h112__k_17_ : h112 (k + 17) = .inl (1, 32, .inl (fun _ => 0)) := by rw [e_h112, va_up_neq (nek0 (a := 17) (by decide))]; exact F_h104__k_17_
  have F_h112__k_18_ : h112 (k + 18) = .inl (1, 256, .inl (fun _ => 0)) := by rw [e_h112, va_up_neq (nek0 (a := 18) (by decide))]; exact F_h104__k_18_
  have F_h112__k_19_ : h112 (k + 19) = .inl (1, 256, .inl (fun _ => 0)) := by rw [e_h112, va_up_neq (nek0 (a := 19) (by decide))]; exact F_h104__k_19_
  have F_h112__k_20_ : h112 (k + 20) = .inr (8, [.int 31, .ref (k + 21), .ref (k + 22), .ref (k + 23), .ref (k + 24), .ref (k + 25), .ref (k + 26), .int 0, .int 0]) := by rw [e_h112, va_up_neq (nek0 (a := 20) (by decide))]; exact F_h104__k_20_
  have F_h112__k_21_ : h112 (k + 21) = .inl (1, 32, .inl (fun _ => 0)) := by rw [e_h112, va_up_neq (nek0 (a := 21) (by decide))]; exact F_h104__k_21_
  have F_h112__k_22_ : h112 (k + 22) = .inl (1, 32, .inl (fun _ => 0)) := by rw [e_h112, va_up_neq (nek0 (a := 22) (by decide))]; exact F_h104__k_22_
  have F_h112__k_23_ : h112 (k + 23) = .inl (1, 32, .inl (fun _ => 0)) := by rw [e_h112, va_up_neq (nek0 (a := 23) (by decide))]; exact F_h104__k_23_
  have F_h112__k_24_ : h112 (k + 24) = .inl (1, 32, .inl (fun _ => 0)) := by rw [e_h112, va_up_neq (nek0 (a := 24) (by decide))]; exact F_h104__k_24_
  have F_h112__k_25_ : h112 (k + 25) = .inl (1, 256, .inl (fun _ => 0)) := by rw [e_h112, va_up_neq (nek0 (a := 25) (by decide))]; exact F_h104__k_25_
  have F_h112__k_26_ : h112 (k + 26) = .inl (1, 256, .inl (fun _ => 0)) := by rw [e_h112, va_up_neq (nek0 (a := 26) (by decide))]; exact F_h104__k_26_
  have FR_h112 : ∀ j, j < k ∨ aBig ≤ j → h112 j = h j := fun j hj => by rw [e_h112]; exact (va_up_neq (frne0 hj hbig)).trans (FR_h104 j hj)
  clear F_h104_k F_h104__k_1_ F_h104__k_2_ F_h104__k_3_ F_h104__k_4_ F_h104__k_5_ F_h104__k_6_ F_h104__k_7_ F_h104__k_8_ F_h104__k_9_ F_h104__k_10_ F_h104__k_11_ F_h104__k_12_ F_h104__k_13_ F_h104__k_14_ F_h104__k_15_ F_h104__k_16_ F_h104__k_17_ F_h104__k_18_ F_h104__k_19_ F_h104__k_20_ F_h104__k_21_ F_h104__k_22_ F_h104__k_23_ F_h104__k_24_ F_h104__k_25_ F_h104__k_26_ FR_h104 e_h112
  clear h104
  refine WX.ret0 rfl ?_
  exact kk h112 FR_h112 ⟨F_h112_k, F_h112__k_1_, F_h112__k_2_, F_h112__k_3_, F_h112__k_4_, F_h112__k_5_, F_h112__k_6_, F_h112__k_7_, F_h112__k_8_, F_h112__k_9_, F_h112__k_10_, F_h112__k_11_, F_h112__k_12_, F_h112__k_13_, F_h112__k_14_, F_h112__k_15_, F_h112__k_16_, F_h112__k_17_, F_h112__k_18_, F_h112__k_19_, F_h112__k_20_, F_h112__k_21_, F_h112__k_22_, F_h112__k_23_, F_h112__k_24_, F_h112__k_25_, F_h112__k_26_, trivial⟩
def cCol_52_9 (b1 b2 : Nat) (k : Nat) : List aE := [.inr (1, [.ref b1, .ref b2, .int 9, .ref (k + 1), .ref (k + 2), .ref (k + 5), .int 0, .int 0, .int 0, .ref (k + 6), .ref (k + 13), .ref (k + 20), .ref (k + 6), .ref (k + 3), .int 0, .int 0, .int 0, .int 0]), .inl (1, 2667, .inl (fun _ => 0)), .inl (1, 2667, .inl (fun _ => 0)), .inr (7, [.ref (k + 4), .int 0, .int 0, .long 0, .int 0]), .inl (0, 128, .inl (fun _ => 0)), .inl (1, 53, .inl (fun _ => 0)), .inr (8, [.int 52, .ref (k + 7), .ref (k + 8), .ref (k + 9), .ref (k + 10), .ref (k + 11), .ref (k + 12), .int 0, .int 0]), .inl (1, 53, .inl (fun _ => 0)), .inl (1, 53, .inl (fun _ => 0)), .inl (1, 53, .inl (fun _ => 0)), .inl (1, 53, .inl (fun _ => 0)), .inl (1, 512, .inl (fun _ => 0)), .inl (1, 512, .inl (fun _ => 0)), .inr (8, [.int 52, .ref (k + 14), .ref (k + 15), .ref (k + 16), .ref (k + 17), .ref (k + 18), .ref (k + 19), .int 0, .int 0]), .inl (1, 53, .inl (fun _ => 0)), .inl (1, 53, .inl (fun _ => 0)), .inl (1, 53, .inl (fun _ => 0)), .inl (1, 53, .inl (fun _ => 0)), .inl (1, 512, .inl (fun _ => 0)), .inl (1, 512, .inl (fun _ => 0)), .inr (8, [.int 52, .ref (k + 21), .ref (k + 22), .ref (k + 23), .ref (k + 24), .ref (k + 25), .ref (k + 26), .int 0, .int 0]), .inl (1, 53, .inl (fun _ => 0)), .inl (1, 53, .inl (fun _ => 0)), .inl (1, 53, .inl (fun _ => 0)), .inl (1, 53, .inl (fun _ => 0)), .inl (1, 512, .inl (fun _ => 0)), .inl (1, 512, .inl (fun _ => 0))]
set_option maxRecDepth 20000 in
theorem n_col_52_9 {b1 b2 : Nat} {d s : Nat} {h : Nat → aE} {k : Nat} (hbig : k + 28 < aBig) (F_h_k : h k = .inr (1, zX1)) {Ψ : Option Value → aH → Prop} (kk : ∀ h', (∀ j, j < k ∨ aBig ≤ j → h' j = h j) → Cells h' k (cCol_52_9 b1 b2 k) → Ψ none (k + 27, s + 9255, h')) : WO (mM (d + 2)) 7 [.ref k, .ref b1, .ref b2, .int 52, .int 9] (k + 1, s, h) Ψ := by
  refine WO.of (Nat.le_of_ble_eq_true rfl) ?_
  have FR_h : ∀ j, j < k ∨ aBig ≤ j → h j = h j := fun _ _ => rfl
  show WX (lk tX1_init) (mM (d + 1)) Ψ 0 [(0, .ref k), (1, .ref b1), (2, .ref b2), (3, .int 52), (4, .int 9)] [] (k + 1, s, h)
  refine WX.s1 rfl rfl ?_
  refine WX.s1 rfl rfl ?_
  refine WX.s1 rfl rfl ?_
  refine WX.s1 rfl rfl ?_
  refine WX.newaN (N := 2667) (z0 := .inl (fun _ => 0)) rfl (by decide) (by decide) (bigk (k := k) (a := 2) hbig (by decide)) rfl (fun h8 e_h8 => ?_)
  have F_h8_k : h8 k = .inr (1, [.null, .null, .int 0, .null, .null, .null, .int 0, .int 0, .int 0, .null, .null, .null, .null, .null, .int 0, .int 0, .int 0, .int 0]) := by rw [e_h8, va_up_neq (nek1 (a := 1) (by decide))]; exact F_h_k
  have F_h8__k_1_ : h8 (k + 1) = .inl (1, 2667, .inl (fun _ => 0)) := by rw [e_h8]; exact va_up_eq
  have FR_h8 : ∀ j, j < k ∨ aBig ≤ j → h8 j = h j := fun j hj => by rw [e_h8]; exact (va_up_neq (frne (a := 1) hj hbig (by decide))).trans (FR_h j hj)
  clear F_h_k FR_h e_h8
  refine WX.put1 (fs := [.null, .null, .int 0, .null, .null, .null, .int 0, .int 0, .int 0, .null, .null, .null, .null, .null, .int 0, .int 0, .int 0, .int 0]) (fs' := [.null, .null, .int 0, .ref (k + 1), .null, .null, .int 0, .int 0, .int 0, .null, .null, .null, .null, .null, .int 0, .int 0, .int 0, .int 0]) rfl (ltk0 (c := 2) (by decide)) (F_h8_k) (Nat.le_of_ble_eq_true rfl) (rfl) rfl (fun h10 e_h10 => ?_)
  have F_h10_k : h10 k = .inr (1, [.null, .null, .int 0, .ref (k + 1), .null, .null, .int 0, .int 0, .int 0, .null, .null, .null, .null, .null, .int 0, .int 0, .int 0, .int 0]) := by rw [e_h10]; exact va_up_eq
  have F_h10__k_1_ : h10 (k + 1) = .inl (1, 2667, .inl (fun _ => 0)) := by rw [e_h10, va_up_neq (nek0 (a := 1) (by decide))]; exact F_h8__k_1_
  have FR_h10 : ∀ j, j < k ∨ aBig ≤ j → h10 j = h j := fun j hj => by rw [e_h10]; exact (va_up_neq (frne0 hj hbig)).trans (FR_h8 j hj)
  clear F_h8_k F_h8__k_1_ FR_h8 e_h10
  clear h8
  refine WX.s1 rfl rfl ?_
  refine WX.s1 rfl rfl ?_
  refine WX.newaN (N := 2667) (z0 := .inl (fun _ => 0)) rfl (by decide) (by decide) (bigk (k := k) (a := 3) hbig (by decide)) rfl (fun h17 e_h17 => ?_)
  have F_h17_k : h17 k = .inr (1, [.null, .null, .int 0, .ref (k + 1), .null, .null, .int 0, .int 0, .int 0, .null, .null, .null, .null, .null, .int 0, .int 0, .int 0, .int 0]) := by rw [e_h17, va_up_neq (nek1 (a := 2) (by decide))]; exact F_h10_k
  have F_h17__k_1_ : h17 (k + 1) = .inl (1, 2667, .inl (fun _ => 0)) := by rw [e_h17, va_up_neq (nek (a := 1) (b := 2) (by decide))]; exact F_h10__k_1_
  have F_h17__k_2_ : h17 (k + 2) = .inl (1, 2667, .inl (fun _ => 0)) := by rw [e_h17]; exact va_up_eq
  have FR_h17 : ∀ j, j < k ∨ aBig ≤ j → h17 j = h j := fun j hj => by rw [e_h17]; exact (va_up_neq (frne (a := 2) hj hbig (by decide))).trans (FR_h10 j hj)
  clear F_h10_k F_h10__k_1_ FR_h10 e_h17
  clear h10
  refine WX.put1 (fs := [.null, .null, .int 0, .ref (k + 1), .null, .null, .int 0, .int 0, .int 0, .null, .null, .null, .null, .null, .int 0, .int 0, .int 0, .int 0]) (fs' := [.null, .null, .int 0, .ref (k + 1), .ref (k + 2), .null, .int 0, .int 0, .int 0, .null, .null, .null, .null, .null, .int 0, .int 0, .int 0, .int 0]) rfl (ltk0 (c := 3) (by decide)) (F_h17_k) (Nat.le_of_ble_eq_true rfl) (rfl) rfl (fun h19 e_h19 => ?_)
  have F_h19_k : h19 k = .inr (1, [.null, .null, .int 0, .ref (k + 1), .ref (k + 2), .null, .int 0, .int 0, .int 0, .null, .null, .null, .null, .null, .int 0, .int 0, .int 0, .int 0]) := by rw [e_h19]; exact va_up_eq
  have F_h19__k_1_ : h19 (k + 1) = .inl (1, 2667, .inl (fun _ => 0)) := by rw [e_h19, va_up_neq (nek0 (a := 1) (by decide))]; exact F_h17__k_1_
  have F_h19__k_2_ : h19 (k + 2) = .inl (1, 2667, .inl (fun _ => 0)) := by rw [e_h19, va_up_neq (nek0 (a := 2) (by decide))]; exact F_h17__k_2_
  have FR_h19 : ∀ j, j < k ∨ aBig ≤ j → h19 j = h j := fun j hj => by rw [e_h19]; exact (va_up_neq (frne0 hj hbig)).trans (FR_h17 j hj)
  clear F_h17_k F_h17__k_1_ F_h17__k_2_ FR_h17 e_h19
  clear h17
  refine WX.s1 rfl rfl ?_
  refine WX.newN rfl (bigk (k := k) (a := 4) hbig (by decide)) (fun h23 e_h23 => ?_)
  have F_h23_k : h23 k = .inr (1, [.null, .null, .int 0, .ref (k + 1), .ref (k + 2), .null, .int 0, .int 0, .int 0, .null, .null, .null, .null, .null, .int 0, .int 0, .int 0, .int 0]) := by rw [e_h23, va_up_neq (nek1 (a := 3) (by decide))]; exact F_h19_k
  have F_h23__k_1_ : h23 (k + 1) = .inl (1, 2667, .inl (fun _ => 0)) := by rw [e_h23, va_up_neq (nek (a := 1) (b := 3) (by decide))]; exact F_h19__k_1_
  have F_h23__k_2_ : h23 (k + 2) = .inl (1, 2667, .inl (fun _ => 0)) := by rw [e_h23, va_up_neq (nek (a := 2) (b := 3) (by decide))]; exact F_h19__k_2_
  have F_h23__k_3_ : h23 (k + 3) = .inr (7, zX7) := by rw [e_h23]; exact va_up_eq
  have FR_h23 : ∀ j, j < k ∨ aBig ≤ j → h23 j = h j := fun j hj => by rw [e_h23]; exact (va_up_neq (frne (a := 3) hj hbig (by decide))).trans (FR_h19 j hj)
  clear F_h19_k F_h19__k_1_ F_h19__k_2_ FR_h19 e_h23
  clear h19
  refine WX.s1 rfl rfl ?_
  refine WX.s1 rfl rfl ?_
  refine WX.callC (vs := [.ref (k + 3), .int 128]) rfl rfl rfl (Nat.le_of_ble_eq_true rfl) (rcv_ok (ltk (a := 3) (c := 4) (by decide)) F_h23__k_3_) ?_
  refine n_row (N := 128) (k := k + 3) (bigk (k := k) (a := 5) hbig (by decide)) F_h23__k_3_ (by decide) (by decide) (fun h30 fr30 cs30 => ?_)
  have F_h30_k : h30 k = .inr (1, [.null, .null, .int 0, .ref (k + 1), .ref (k + 2), .null, .int 0, .int 0, .int 0, .null, .null, .null, .null, .null, .int 0, .int 0, .int 0, .int 0]) := (fr30 k (Or.inl (ltk0 (c := 3) (by decide)))).trans F_h23_k
  have F_h30__k_1_ : h30 (k + 1) = .inl (1, 2667, .inl (fun _ => 0)) := (fr30 (k + 1) (Or.inl (ltk (a := 1) (c := 3) (by decide)))).trans F_h23__k_1_
  have F_h30__k_2_ : h30 (k + 2) = .inl (1, 2667, .inl (fun _ => 0)) := (fr30 (k + 2) (Or.inl (ltk (a := 2) (c := 3) (by decide)))).trans F_h23__k_2_
  have F_h30__k_3_ : h30 (k + 3) = .inr (7, [.ref (k + 4), .int 0, .int 0, .long 0, .int 0]) := cs30.1
  have F_h30__k_4_ : h30 (k + 4) = .inl (0, 128, .inl (fun _ => 0)) := cs30.2.1
  have FR_h30 : ∀ j, j < k ∨ aBig ≤ j → h30 j = h j := fun j hj => (fr30 j (hj.imp (fun z => Nat.lt_of_lt_of_le z (Nat.le_add_right _ _)) (fun z => z))).trans (FR_h23 j hj)
  clear F_h23_k F_h23__k_1_ F_h23__k_2_ F_h23__k_3_ FR_h23 fr30 cs30
  clear h23
  show WX _ _ _ 33 [(0, .ref k), (1, .ref b1), (2, .ref b2), (3, .int 52), (4, .int 9)] [.ref (k + 3), .ref k] (k + 5, s + 2667 + 2667 + 5 + 128, h30)
  refine WX.put1 (fs := [.null, .null, .int 0, .ref (k + 1), .ref (k + 2), .null, .int 0, .int 0, .int 0, .null, .null, .null, .null, .null, .int 0, .int 0, .int 0, .int 0]) (fs' := [.null, .null, .int 0, .ref (k + 1), .ref (k + 2), .null, .int 0, .int 0, .int 0, .null, .null, .null, .null, .ref (k + 3), .int 0, .int 0, .int 0, .int 0]) rfl (ltk0 (c := 5) (by decide)) (F_h30_k) (Nat.le_of_ble_eq_true rfl) (rfl) rfl (fun h33 e_h33 => ?_)
  have F_h33_k : h33 k = .inr (1, [.null, .null, .int 0, .ref (k + 1), .ref (k + 2), .null, .int 0, .int 0, .int 0, .null, .null, .null, .null, .ref (k + 3), .int 0, .int 0, .int 0, .int 0]) := by rw [e_h33]; exact va_up_eq
  have F_h33__k_1_ : h33 (k + 1) = .inl (1, 2667, .inl (fun _ => 0)) := by rw [e_h33, va_up_neq (nek0 (a := 1) (by decide))]; exact F_h30__k_1_
  have F_h33__k_2_ : h33 (k + 2) = .inl (1, 2667, .inl (fun _ => 0)) := by rw [e_h33, va_up_neq (nek0 (a := 2) (by decide))]; exact F_h30__k_2_
  have F_h33__k_3_ : h33 (k + 3) = .inr (7, [.ref (k + 4), .int 0, .int 0, .long 0, .int 0]) := by rw [e_h33, va_up_neq (nek0 (a := 3) (by decide))]; exact F_h30__k_3_
  have F_h33__k_4_ : h33 (k + 4) = .inl (0, 128, .inl (fun _ => 0)) := by rw [e_h33, va_up_neq (nek0 (a := 4) (by decide))]; exact F_h30__k_4_
  have FR_h33 : ∀ j, j < k ∨ aBig ≤ j → h33 j = h j := fun j hj => by rw [e_h33]; exact (va_up_neq (frne0 hj hbig)).trans (FR_h30 j hj)
  clear F_h30_k F_h30__k_1_ F_h30__k_2_ F_h30__k_3_ F_h30__k_4_ FR_h30 e_h33
  clear h30
  refine WX.s1 rfl rfl ?_
  refine WX.s1 rfl rfl ?_
  refine WX.put1 (fs := [.null, .null, .int 0, .ref (k + 1), .ref (k + 2), .null, .int 0, .int 0, .int 0, .null, .null, .null, .null, .ref (k + 3), .int 0, .int 0, .int 0, .int 0]) (fs' := [.ref b1, .null, .int 0, .ref (k + 1), .ref (k + 2), .null, .int 0, .int 0, .int 0, .null, .null, .null, .null, .ref (k + 3), .int 0, .int 0, .int 0, .int 0]) rfl (ltk0 (c := 5) (by decide)) (F_h33_k) (Nat.le_of_ble_eq_true rfl) (rfl) rfl (fun h38 e_h38 => ?_)
  have F_h38_k : h38 k = .inr (1, [.ref b1, .null, .int 0, .ref (k + 1), .ref (k + 2), .null, .int 0, .int 0, .int 0, .null, .null, .null, .null, .ref (k + 3), .int 0, .int 0, .int 0, .int 0]) := by rw [e_h38]; exact va_up_eq
  have F_h38__k_1_ : h38 (k + 1) = .inl (1, 2667, .inl (fun _ => 0)) := by rw [e_h38, va_up_neq (nek0 (a := 1) (by decide))]; exact F_h33__k_1_
  have F_h38__k_2_ : h38 (k + 2) = .inl (1, 2667, .inl (fun _ => 0)) := by rw [e_h38, va_up_neq (nek0 (a := 2) (by decide))]; exact F_h33__k_2_
  have F_h38__k_3_ : h38 (k + 3) = .inr (7, [.ref (k + 4), .int 0, .int 0, .long 0, .int 0]) := by rw [e_h38, va_up_neq (nek0 (a := 3) (by decide))]; exact F_h33__k_3_
  have F_h38__k_4_ : h38 (k + 4) = .inl (0, 128, .inl (fun _ => 0)) := by rw [e_h38, va_up_neq (nek0 (a := 4) (by decide))]; exact F_h33__k_4_
  have FR_h38 : ∀ j, j < k ∨ aBig ≤ j → h38 j = h j := fun j hj => by rw [e_h38]; exact (va_up_neq (frne0 hj hbig)).trans (FR_h33 j hj)
  clear F_h33_k F_h33__k_1_ F_h33__k_2_ F_h33__k_3_ F_h33__k_4_ FR_h33 e_h38
  clear h33
  refine WX.s1 rfl rfl ?_
  refine WX.s1 rfl rfl ?_
  refine WX.put1 (fs := [.ref b1, .null, .int 0, .ref (k + 1), .ref (k + 2), .null, .int 0, .int 0, .int 0, .null, .null, .null, .null, .ref (k + 3), .int 0, .int 0, .int 0, .int 0]) (fs' := [.ref b1, .ref b2, .int 0, .ref (k + 1), .ref (k + 2), .null, .int 0, .int 0, .int 0, .null, .null, .null, .null, .ref (k + 3), .int 0, .int 0, .int 0, .int 0]) rfl (ltk0 (c := 5) (by decide)) (F_h38_k) (Nat.le_of_ble_eq_true rfl) (rfl) rfl (fun h43 e_h43 => ?_)
  have F_h43_k : h43 k = .inr (1, [.ref b1, .ref b2, .int 0, .ref (k + 1), .ref (k + 2), .null, .int 0, .int 0, .int 0, .null, .null, .null, .null, .ref (k + 3), .int 0, .int 0, .int 0, .int 0]) := by rw [e_h43]; exact va_up_eq
  have F_h43__k_1_ : h43 (k + 1) = .inl (1, 2667, .inl (fun _ => 0)) := by rw [e_h43, va_up_neq (nek0 (a := 1) (by decide))]; exact F_h38__k_1_
  have F_h43__k_2_ : h43 (k + 2) = .inl (1, 2667, .inl (fun _ => 0)) := by rw [e_h43, va_up_neq (nek0 (a := 2) (by decide))]; exact F_h38__k_2_
  have F_h43__k_3_ : h43 (k + 3) = .inr (7, [.ref (k + 4), .int 0, .int 0, .long 0, .int 0]) := by rw [e_h43, va_up_neq (nek0 (a := 3) (by decide))]; exact F_h38__k_3_
  have F_h43__k_4_ : h43 (k + 4) = .inl (0, 128, .inl (fun _ => 0)) := by rw [e_h43, va_up_neq (nek0 (a := 4) (by decide))]; exact F_h38__k_4_
  have FR_h43 : ∀ j, j < k ∨ aBig ≤ j → h43 j = h j := fun j hj => by rw [e_h43]; exact (va_up_neq (frne0 hj hbig)).trans (FR_h38 j hj)
  clear F_h38_k F_h38__k_1_ F_h38__k_2_ F_h38__k_3_ F_h38__k_4_ FR_h38 e_h43
  clear h38
  refine WX.s1 rfl rfl ?_
  refine WX.s1 rfl rfl ?_
  refine WX.putNI (fs := [.ref b1, .ref b2, .int 0, .ref (k + 1), .ref (k + 2), .null, .int 0, .int 0, .int 0, .null, .null, .null, .null, .ref (k + 3), .int 0, .int 0, .int 0, .int 0]) (fs' := fun f49 => [.ref b1, .ref b2, .int f49, .ref (k + 1), .ref (k + 2), .null, .int 0, .int 0, .int 0, .null, .null, .null, .null, .ref (k + 3), .int 0, .int 0, .int 0, .int 0]) rfl (ltk0 (c := 5) (by decide)) (F_h43_k) (Nat.le_of_ble_eq_true rfl) (fun _ => rfl) (fun f49 h49 e_f49 e_h49 => ?_)
  try dsimp only at e_f49
  have F_h49_k : h49 k = .inr (1, [.ref b1, .ref b2, .int f49, .ref (k + 1), .ref (k + 2), .null, .int 0, .int 0, .int 0, .null, .null, .null, .null, .ref (k + 3), .int 0, .int 0, .int 0, .int 0]) := by rw [e_h49]; exact va_up_eq
  have F_h49__k_1_ : h49 (k + 1) = .inl (1, 2667, .inl (fun _ => 0)) := by rw [e_h49, va_up_neq (nek0 (a := 1) (by decide))]; exact F_h43__k_1_
  have F_h49__k_2_ : h49 (k + 2) = .inl (1, 2667, .inl (fun _ => 0)) := by rw [e_h49, va_up_neq (nek0 (a := 2) (by decide))]; exact F_h43__k_2_
  have F_h49__k_3_ : h49 (k + 3) = .inr (7, [.ref (k + 4), .int 0, .int 0, .long 0, .int 0]) := by rw [e_h49, va_up_neq (nek0 (a := 3) (by decide))]; exact F_h43__k_3_
  have F_h49__k_4_ : h49 (k + 4) = .inl (0, 128, .inl (fun _ => 0)) := by rw [e_h49, va_up_neq (nek0 (a := 4) (by decide))]; exact F_h43__k_4_
  have FR_h49 : ∀ j, j < k ∨ aBig ≤ j → h49 j = h j := fun j hj => by rw [e_h49]; exact (va_up_neq (frne0 hj hbig)).trans (FR_h43 j hj)
  clear F_h43_k F_h43__k_1_ F_h43__k_2_ F_h43__k_3_ F_h43__k_4_ FR_h43 e_h49
  clear h43
  obtain rfl : f49 = 9 := e_f49
  refine WX.s1 rfl rfl ?_
  refine WX.s1 rfl rfl ?_
  refine WX.s1 rfl rfl ?_
  refine WX.s1 rfl rfl ?_
  refine WX.s1 rfl rfl ?_
  refine WX.s1 rfl rfl ?_
  refine WX.newaN (N := 53) (z0 := .inl (fun _ => 0)) rfl (by decide) (by decide) (bigk (k := k) (a := 6) hbig (by decide)) rfl (fun h60 e_h60 => ?_)
  have F_h60_k : h60 k = .inr (1, [.ref b1, .ref b2, .int 9, .ref (k + 1), .ref (k + 2), .null, .int 0, .int 0, .int 0, .null, .null, .null, .null, .ref (k + 3), .int 0, .int 0, .int 0, .int 0]) := by rw [e_h60, va_up_neq (nek1 (a := 5) (by decide))]; exact F_h49_k
  have F_h60__k_1_ : h60 (k + 1) = .inl (1, 2667, .inl (fun _ => 0)) := by rw [e_h60, va_up_neq (nek (a := 1) (b := 5) (by decide))]; exact F_h49__k_1_
  have F_h60__k_2_ : h60 (k + 2) = .inl (1, 2667, .inl (fun _ => 0)) := by rw [e_h60, va_up_neq (nek (a := 2) (b := 5) (by decide))]; exact F_h49__k_2_
  have F_h60__k_3_ : h60 (k + 3) = .inr (7, [.ref (k + 4), .int 0, .int 0, .long 0, .int 0]) := by rw [e_h60, va_up_neq (nek (a := 3) (b := 5) (by decide))]; exact F_h49__k_3_
  have F_h60__k_4_ : h60 (k + 4) = .inl (0, 128, .inl (fun _ => 0)) := by rw [e_h60, va_up_neq (nek (a := 4) (b := 5) (by decide))]; exact F_h49__k_4_
  have F_h60__k_5_ : h60 (k + 5) = .inl (1, 53, .inl (fun _ => 0)) := by rw [e_h60]; exact va_up_eq
  have FR_h60 : ∀ j, j < k ∨ aBig ≤ j → h60 j = h j := fun j hj => by rw [e_h60]; exact (va_up_neq (frne (a := 5) hj hbig (by decide))).trans (FR_h49 j hj)
  clear F_h49_k F_h49__k_1_ F_h49__k_2_ F_h49__k_3_ F_h49__k_4_ FR_h49 e_h60
  clear h49
  refine WX.put1 (fs := [.ref b1, .ref b2, .int 9, .ref (k + 1), .ref (k + 2), .null, .int 0, .int 0, .int 0, .null, .null, .null, .null, .ref (k + 3), .int 0, .int 0, .int 0, .int 0]) (fs' := [.ref b1, .ref b2, .int 9, .ref (k + 1), .ref (k + 2), .ref (k + 5), .int 0, .int 0, .int 0, .null, .null, .null, .null, .ref (k + 3), .int 0, .int 0, .int 0, .int 0]) rfl (ltk0 (c := 6) (by decide)) (F_h60_k) (Nat.le_of_ble_eq_true rfl) (rfl) rfl (fun h62 e_h62 => ?_)
  have F_h62_k : h62 k = .inr (1, [.ref b1, .ref b2, .int 9, .ref (k + 1), .ref (k + 2), .ref (k + 5), .int 0, .int 0, .int 0, .null, .null, .null, .null, .ref (k + 3), .int 0, .int 0, .int 0, .int 0]) := by rw [e_h62]; exact va_up_eq
  have F_h62__k_1_ : h62 (k + 1) = .inl (1, 2667, .inl (fun _ => 0)) := by rw [e_h62, va_up_neq (nek0 (a := 1) (by decide))]; exact F_h60__k_1_
  have F_h62__k_2_ : h62 (k + 2) = .inl (1, 2667, .inl (fun _ => 0)) := by rw [e_h62, va_up_neq (nek0 (a := 2) (by decide))]; exact F_h60__k_2_
  have F_h62__k_3_ : h62 (k + 3) = .inr (7, [.ref (k + 4), .int 0, .int 0, .long 0, .int 0]) := by rw [e_h62, va_up_neq (nek0 (a := 3) (by decide))]; exact F_h60__k_3_
  have F_h62__k_4_ : h62 (k + 4) = .inl (0, 128, .inl (fun _ => 0)) := by rw [e_h62, va_up_neq (nek0 (a := 4) (by decide))]; exact F_h60__k_4_
  have F_h62__k_5_ : h62 (k + 5) = .inl (1, 53, .inl (fun _ => 0)) := by rw [e_h62, va_up_neq (nek0 (a := 5) (by decide))]; exact F_h60__k_5_
  have FR_h62 : ∀ j, j < k ∨ aBig ≤ j → h62 j = h j := fun j hj => by rw [e_h62]; exact (va_up_neq (frne0 hj hbig)).trans (FR_h60 j hj)
  clear F_h60_k F_h60__k_1_ F_h60__k_2_ F_h60__k_3_ F_h60__k_4_ F_h60__k_5_ FR_h60 e_h62
  clear h60
  refine WX.s1 rfl rfl ?_
  refine WX.newN rfl (bigk (k := k) (a := 7) hbig (by decide)) (fun h66 e_h66 => ?_)
  have F_h66_k : h66 k = .inr (1, [.ref b1, .ref b2, .int 9, .ref (k + 1), .ref (k + 2), .ref (k + 5), .int 0, .int 0, .int 0, .null, .null, .null, .null, .ref (k + 3), .int 0, .int 0, .int 0, .int 0]) := by rw [e_h66, va_up_neq (nek1 (a := 6) (by decide))]; exact F_h62_k
  have F_h66__k_1_ : h66 (k + 1) = .inl (1, 2667, .inl (fun _ => 0)) := by rw [e_h66, va_up_neq (nek (a := 1) (b := 6) (by decide))]; exact F_h62__k_1_
  have F_h66__k_2_ : h66 (k + 2) = .inl (1, 2667, .inl (fun _ => 0)) := by rw [e_h66, va_up_neq (nek (a := 2) (b := 6) (by decide))]; exact F_h62__k_2_
  have F_h66__k_3_ : h66 (k + 3) = .inr (7, [.ref (k + 4), .int 0, .int 0, .long 0, .int 0]) := by rw [e_h66, va_up_neq (nek (a := 3) (b := 6) (by decide))]; exact F_h62__k_3_
  have F_h66__k_4_ : h66 (k + 4) = .inl (0, 128, .inl (fun _ => 0)) := by rw [e_h66, va_up_neq (nek (a := 4) (b := 6) (by decide))]; exact F_h62__k_4_
  have F_h66__k_5_ : h66 (k + 5) = .inl (1, 53, .inl (fun _ => 0)) := by rw [e_h66, va_up_neq (nek (a := 5) (b := 6) (by decide))]; exact F_h62__k_5_
  have F_h66__k_6_ : h66 (k + 6) = .inr (8, zX8) := by rw [e_h66]; exact va_up_eq
  have FR_h66 : ∀ j, j < k ∨ aBig ≤ j → h66 j = h j := fun j hj => by rw [e_h66]; exact (va_up_neq (frne (a := 6) hj hbig (by decide))).trans (FR_h62 j hj)
  clear F_h62_k F_h62__k_1_ F_h62__k_2_ F_h62__k_3_ F_h62__k_4_ F_h62__k_5_ FR_h62 e_h66
  clear h62
  refine WX.s1 rfl rfl ?_
  refine WX.s1 rfl rfl ?_
  refine WX.s1 rfl rfl ?_
  refine WX.callC (vs := [.ref (k + 6), .int 52, .int 9]) rfl rfl rfl (Nat.le_of_ble_eq_true rfl) (rcv_ok (ltk (a := 6) (c := 7) (by decide)) F_h66__k_6_) ?_
  refine n_share_52_9 (k := k + 6) (bigk (k := k) (a := 14) hbig (by decide)) F_h66__k_6_ (fun h73 fr73 cs73 => ?_)
  have F_h73_k : h73 k = .inr (1, [.ref b1, .ref b2, .int 9, .ref (k + 1), .ref (k + 2), .ref (k + 5), .int 0, .int 0, .int 0, .null, .null, .null, .null, .ref (k + 3), .int 0, .int 0, .int 0, .int 0]) := (fr73 k (Or.inl (ltk0 (c := 6) (by decide)))).trans F_h66_k
  have F_h73__k_1_ : h73 (k + 1) = .inl (1, 2667, .inl (fun _ => 0)) := (fr73 (k + 1) (Or.inl (ltk (a := 1) (c := 6) (by decide)))).trans F_h66__k_1_
  have F_h73__k_2_ : h73 (k + 2) = .inl (1, 2667, .inl (fun _ => 0)) := (fr73 (k + 2) (Or.inl (ltk (a := 2) (c := 6) (by decide)))).trans F_h66__k_2_
  have F_h73__k_3_ : h73 (k + 3) = .inr (7, [.ref (k + 4), .int 0, .int 0, .long 0, .int 0]) := (fr73 (k + 3) (Or.inl (ltk (a := 3) (c := 6) (by decide)))).trans F_h66__k_3_
  have F_h73__k_4_ : h73 (k + 4) = .inl (0, 128, .inl (fun _ => 0)) := (fr73 (k + 4) (Or.inl (ltk (a := 4) (c := 6) (by decide)))).trans F_h66__k_4_
  have F_h73__k_5_ : h73 (k + 5) = .inl (1, 53, .inl (fun _ => 0)) := (fr73 (k + 5) (Or.inl (ltk (a := 5) (c := 6) (by decide)))).trans F_h66__k_5_
  have F_h73__k_6_ : h73 (k + 6) = .inr (8, [.int 52, .ref (k + 7), .ref (k + 8), .ref (k + 9), .ref (k + 10), .ref (k + 11), .ref (k + 12), .int 0, .int 0]) := cs73.1
  have F_h73__k_7_ : h73 (k + 7) = .inl (1, 53, .inl (fun _ => 0)) := cs73.2.1
  have F_h73__k_8_ : h73 (k + 8) = .inl (1, 53, .inl (fun _ => 0)) := cs73.2.2.1
  have F_h73__k_9_ : h73 (k + 9) = .inl (1, 53, .inl (fun _ => 0)) := cs73.2.2.2.1
  have F_h73__k_10_ : h73 (k + 10) = .inl (1, 53, .inl (fun _ => 0)) := cs73.2.2.2.2.1
  have F_h73__k_11_ : h73 (k + 11) = .inl (1, 512, .inl (fun _ => 0)) := cs73.2.2.2.2.2.1
  have F_h73__k_12_ : h73 (k + 12) = .inl (1, 512, .inl (fun _ => 0)) := cs73.2.2.2.2.2.2.1
  have FR_h73 : ∀ j, j < k ∨ aBig ≤ j → h73 j = h j := fun j hj => (fr73 j (hj.imp (fun z => Nat.lt_of_lt_of_le z (Nat.le_add_right _ _)) (fun z => z))).trans (FR_h66 j hj)
  clear F_h66_k F_h66__k_1_ F_h66__k_2_ F_h66__k_3_ F_h66__k_4_ F_h66__k_5_ F_h66__k_6_ FR_h66 fr73 cs73
  clear h66
  show WX _ _ _ 76 [(0, .ref k), (1, .ref b1), (2, .ref b2), (3, .int 52), (4, .int 9)] [.ref (k + 6), .ref k] (k + 13, s + 2667 + 2667 + 5 + 128 + 53 + 9 + 1236, h73)
  refine WX.put1 (fs := [.ref b1, .ref b2, .int 9, .ref (k + 1), .ref (k + 2), .ref (k + 5), .int 0, .int 0, .int 0, .null, .null, .null, .null, .ref (k + 3), .int 0, .int 0, .int 0, .int 0]) (fs' := [.ref b1, .ref b2, .int 9, .ref (k + 1), .ref (k + 2), .ref (k + 5), .int 0, .int 0, .int 0, .ref (k + 6), .null, .null, .null, .ref (k + 3), .int 0, .int 0, .int 0, .int 0]) rfl (ltk0 (c := 13) (by decide)) (F_h73_k) (Nat.le_of_ble_eq_true rfl) (rfl) rfl (fun h76 e_h76 => ?_)
  have F_h76_k : h76 k = .inr (1, [.ref b1, .ref b2, .int 9, .ref (k + 1), .ref (k + 2), .ref (k + 5), .int 0, .int 0, .int 0, .ref (k + 6), .null, .null, .null, .ref (k + 3), .int 0, .int 0, .int 0, .int 0]) := by rw [e_h76]; exact va_up_eq
  have F_h76__k_1_ : h76 (k + 1) = .inl (1, 2667, .inl (fun _ => 0)) := by rw [e_h76, va_up_neq (nek0 (a := 1) (by decide))]; exact F_h73__k_1_
  have F_h76__k_2_ : h76 (k + 2) = .inl (1, 2667, .inl (fun _ => 0)) := by rw [e_h76, va_up_neq (nek0 (a := 2) (by decide))]; exact F_h73__k_2_
  have F_h76__k_3_ : h76 (k + 3) = .inr (7, [.ref (k + 4), .int 0, .int 0, .long 0, .int 0]) := by rw [e_h76, va_up_neq (nek0 (a := 3) (by decide))]; exact F_h73__k_3_
  have F_h76__k_4_ : h76 (k + 4) = .inl (0, 128, .inl (fun _ => 0)) := by rw [e_h76, va_up_neq (nek0 (a := 4) (by decide))]; exact F_h73__k_4_
  have F_h76__k_5_ : h76 (k + 5) = .inl (1, 53, .inl (fun _ => 0)) := by rw [e_h76, va_up_neq (nek0 (a := 5) (by decide))]; exact F_h73__k_5_
  have F_h76__k_6_ : h76 (k + 6) = .inr (8, [.int 52, .ref (k + 7), .ref (k + 8), .ref (k + 9), .ref (k + 10), .ref (k + 11), .ref (k + 12), .int 0, .int 0]) := by rw [e_h76, va_up_neq (nek0 (a := 6) (by decide))]; exact F_h73__k_6_
  have F_h76__k_7_ : h76 (k + 7) = .inl (1, 53, .inl (fun _ => 0)) := by rw [e_h76, va_up_neq (nek0 (a := 7) (by decide))]; exact F_h73__k_7_
  have F_h76__k_8_ : h76 (k + 8) = .inl (1, 53, .inl (fun _ => 0)) := by rw [e_h76, va_up_neq (nek0 (a := 8) (by decide))]; exact F_h73__k_8_
  have F_h76__k_9_ : h76 (k + 9) = .inl (1, 53, .inl (fun _ => 0)) := by rw [e_h76, va_up_neq (nek0 (a := 9) (by decide))]; exact F_h73__k_9_
  have F_h76__k_10_ : h76 (k + 10) = .inl (1, 53, .inl (fun _ => 0)) := by rw [e_h76, va_up_neq (nek0 (a := 10) (by decide))]; exact F_h73__k_10_
  have F_h76__k_11_ : h76 (k + 11) = .inl (1, 512, .inl (fun _ => 0)) := by rw [e_h76, va_up_neq (nek0 (a := 11) (by decide))]; exact F_h73__k_11_
  have F_h76__k_12_ : h76 (k + 12) = .inl (1, 512, .inl (fun _ => 0)) := by rw [e_h76, va_up_neq (nek0 (a := 12) (by decide))]; exact F_h73__k_12_
  have FR_h76 : ∀ j, j < k ∨ aBig ≤ j → h76 j = h j := fun j hj => by rw [e_h76]; exact (va_up_neq (frne0 hj hbig)).trans (FR_h73 j hj)
  clear F_h73_k F_h73__k_1_ F_h73__k_2_ F_h73__k_3_ F_h73__k_4_ F_h73__k_5_ F_h73__k_6_ F_h73__k_7_ F_h73__k_8_ F_h73__k_9_ F_h73__k_10_ F_h73__k_11_ F_h73__k_12_ FR_h73 e_h76
  clear h73
  refine WX.s1 rfl rfl ?_
  refine WX.newN rfl (bigk (k := k) (a := 14) hbig (by decide)) (fun h80 e_h80 => ?_)
  have F_h80_k : h80 k = .inr (1, [.ref b1, .ref b2, .int 9, .ref (k + 1), .ref (k + 2), .ref (k + 5), .int 0, .int 0, .int 0, .ref (k + 6), .null, .null, .null, .ref (k + 3), .int 0, .int 0, .int 0, .int 0]) := by rw [e_h80, va_up_neq (nek1 (a := 13) (by decide))]; exact F_h76_k
  have F_h80__k_1_ : h80 (k + 1) = .inl (1, 2667, .inl (fun _ => 0)) := by rw [e_h80, va_up_neq (nek (a := 1) (b := 13) (by decide))]; exact F_h76__k_1_
  have F_h80__k_2_ : h80 (k + 2) = .inl (1, 2667, .inl (fun _ => 0)) := by rw [e_h80, va_up_neq (nek (a := 2) (b := 13) (by decide))]; exact F_h76__k_2_
  have F_h80__k_3_ : h80 (k + 3) = .inr (7, [.ref (k + 4), .int 0, .int 0, .long 0, .int 0]) := by rw [e_h80, va_up_neq (nek (a := 3) (b := 13) (by decide))]; exact F_h76__k_3_
  have F_h80__k_4_ : h80 (k + 4) = .inl (0, 128, .inl (fun _ => 0)) := by rw [e_h80, va_up_neq (nek (a := 4) (b := 13) (by decide))]; exact F_h76__k_4_
  have F_h80__k_5_ : h80 (k + 5) = .inl (1, 53, .inl (fun _ => 0)) := by rw [e_h80, va_up_neq (nek (a := 5) (b := 13) (by decide))]; exact F_h76__k_5_
  have F_h80__k_6_ : h80 (k + 6) = .inr (8, [.int 52, .ref (k + 7), .ref (k + 8), .ref (k + 9), .ref (k + 10), .ref (k + 11), .ref (k + 12), .int 0, .int 0]) := by rw [e_h80, va_up_neq (nek (a := 6) (b := 13) (by decide))]; exact F_h76__k_6_
  have F_h80__k_7_ : h80 (k + 7) = .inl (1, 53, .inl (fun _ => 0)) := by rw [e_h80, va_up_neq (nek (a := 7) (b := 13) (by decide))]; exact F_h76__k_7_
  have F_h80__k_8_ : h80 (k + 8) = .inl (1, 53, .inl (fun _ => 0)) := by rw [e_h80, va_up_neq (nek (a := 8) (b := 13) (by decide))]; exact F_h76__k_8_
  have F_h80__k_9_ : h80 (k + 9) = .inl (1, 53, .inl (fun _ => 0)) := by rw [e_h80, va_up_neq (nek (a := 9) (b := 13) (by decide))]; exact F_h76__k_9_
  have F_h80__k_10_ : h80 (k + 10) = .inl (1, 53, .inl (fun _ => 0)) := by rw [e_h80, va_up_neq (nek (a := 10) (b := 13) (by decide))]; exact F_h76__k_10_
  have F_h80__k_11_ : h80 (k + 11) = .inl (1, 512, .inl (fun _ => 0)) := by rw [e_h80, va_up_neq (nek (a := 11) (b := 13) (by decide))]; exact F_h76__k_11_
  have F_h80__k_12_ : h80 (k + 12) = .inl (1, 512, .inl (fun _ => 0)) := by rw [e_h80, va_up_neq (nek (a := 12) (b := 13) (by decide))]; exact F_h76__k_12_
  have F_h80__k_13_ : h80 (k + 13) = .inr (8, zX8) := by rw [e_h80]; exact va_up_eq
  have FR_h80 : ∀ j, j < k ∨ aBig ≤ j → h80 j = h j := fun j hj => by rw [e_h80]; exact (va_up_neq (frne (a := 13) hj hbig (by decide))).trans (FR_h76 j hj)
  clear F_h76_k F_h76__k_1_ F_h76__k_2_ F_h76__k_3_ F_h76__k_4_ F_h76__k_5_ F_h76__k_6_ F_h76__k_7_ F_h76__k_8_ F_h76__k_9_ F_h76__k_10_ F_h76__k_11_ F_h76__k_12_ FR_h76 e_h80
  clear h76
  refine WX.s1 rfl rfl ?_
  refine WX.s1 rfl rfl ?_
  refine WX.s1 rfl rfl ?_
  refine WX.callC (vs := [.ref (k + 13), .int 52, .int 9]) rfl rfl rfl (Nat.le_of_ble_eq_true rfl) (rcv_ok (ltk (a := 13) (c := 14) (by decide)) F_h80__k_13_) ?_
  refine n_share_52_9 (k := k + 13) (bigk (k := k) (a := 21) hbig (by decide)) F_h80__k_13_ (fun h87 fr87 cs87 => ?_)
  have F_h87_k : h87 k = .inr (1, [.ref b1, .ref b2, .int 9, .ref (k + 1), .ref (k + 2), .ref (k + 5), .int 0, .int 0, .int 0, .ref (k + 6), .null, .null, .null, .ref (k + 3), .int 0, .int 0, .int 0, .int 0]) := (fr87 k (Or.inl (ltk0 (c := 13) (by decide)))).trans F_h80_k
  have F_h87__k_1_ : h87 (k + 1) = .inl (1, 2667, .inl (fun _ => 0)) := (fr87 (k + 1) (Or.inl (ltk (a := 1) (c := 13) (by decide)))).trans F_h80__k_1_
  have F_h87__k_2_ : h87 (k + 2) = .inl (1, 2667, .inl (fun _ => 0)) := (fr87 (k + 2) (Or.inl (ltk (a := 2) (c := 13) (by decide)))).trans F_h80__k_2_
  have F_h87__k_3_ : h87 (k + 3) = .inr (7, [.ref (k + 4), .int 0, .int 0, .long 0, .int 0]) := (fr87 (k + 3) (Or.inl (ltk (a := 3) (c := 13) (by decide)))).trans F_h80__k_3_
  have F_h87__k_4_ : h87 (k + 4) = .inl (0, 128, .inl (fun _ => 0)) := (fr87 (k + 4) (Or.inl (ltk (a := 4) (c := 13) (by decide)))).trans F_h80__k_4_
  have F_h87__k_5_ : h87 (k + 5) = .inl (1, 53, .inl (fun _ => 0)) := (fr87 (k + 5) (Or.inl (ltk (a := 5) (c := 13) (by decide)))).trans F_h80__k_5_
  have F_h87__k_6_ : h87 (k + 6) = .inr (8, [.int 52, .ref (k + 7), .ref (k + 8), .ref (k + 9), .ref (k + 10), .ref (k + 11), .ref (k + 12), .int 0, .int 0]) := (fr87 (k + 6) (Or.inl (ltk (a := 6) (c := 13) (by decide)))).trans F_h80__k_6_
  have F_h87__k_7_ : h87 (k + 7) = .inl (1, 53, .inl (fun _ => 0)) := (fr87 (k + 7) (Or.inl (ltk (a := 7) (c := 13) (by decide)))).trans F_h80__k_7_
  have F_h87__k_8_ : h87 (k + 8) = .inl (1, 53, .inl (fun _ => 0)) := (fr87 (k + 8) (Or.inl (ltk (a := 8) (c := 13) (by decide)))).trans F_h80__k_8_
  have F_h87__k_9_ : h87 (k + 9) = .inl (1, 53, .inl (fun _ => 0)) := (fr87 (k + 9) (Or.inl (ltk (a := 9) (c := 13) (by decide)))).trans F_h80__k_9_
  have F_h87__k_10_ : h87 (k + 10) = .inl (1, 53, .inl (fun _ => 0)) := (fr87 (k + 10) (Or.inl (ltk (a := 10) (c := 13) (by decide)))).trans F_h80__k_10_
  have F_h87__k_11_ : h87 (k + 11) = .inl (1, 512, .inl (fun _ => 0)) := (fr87 (k + 11) (Or.inl (ltk (a := 11) (c := 13) (by decide)))).trans F_h80__k_11_
  have F_h87__k_12_ : h87 (k + 12) = .inl (1, 512, .inl (fun _ => 0)) := (fr87 (k + 12) (Or.inl (ltk (a := 12) (c := 13) (by decide)))).trans F_h80__k_12_
  have F_h87__k_13_ : h87 (k + 13) = .inr (8, [.int 52, .ref (k + 14), .ref (k + 15), .ref (k + 16), .ref (k + 17), .ref (k + 18), .ref (k + 19), .int 0, .int 0]) := cs87.1
  have F_h87__k_14_ : h87 (k + 14) = .inl (1, 53, .inl (fun _ => 0)) := cs87.2.1
  have F_h87__k_15_ : h87 (k + 15) = .inl (1, 53, .inl (fun _ => 0)) := cs87.2.2.1
  have F_h87__k_16_ : h87 (k + 16) = .inl (1, 53, .inl (fun _ => 0)) := cs87.2.2.2.1
  have F_h87__k_17_ : h87 (k + 17) = .inl (1, 53, .inl (fun _ => 0)) := cs87.2.2.2.2.1
  have F_h87__k_18_ : h87 (k + 18) = .inl (1, 512, .inl (fun _ => 0)) := cs87.2.2.2.2.2.1
  have F_h87__k_19_ : h87 (k + 19) = .inl (1, 512, .inl (fun _ => 0)) := cs87.2.2.2.2.2.2.1
  have FR_h87 : ∀ j, j < k ∨ aBig ≤ j → h87 j = h j := fun j hj => (fr87 j (hj.imp (fun z => Nat.lt_of_lt_of_le z (Nat.le_add_right _ _)) (fun z => z))).trans (FR_h80 j hj)
  clear F_h80_k F_h80__k_1_ F_h80__k_2_ F_h80__k_3_ F_h80__k_4_ F_h80__k_5_ F_h80__k_6_ F_h80__k_7_ F_h80__k_8_ F_h80__k_9_ F_h80__k_10_ F_h80__k_11_ F_h80__k_12_ F_h80__k_13_ FR_h80 fr87 cs87
  clear h80
  show WX _ _ _ 90 [(0, .ref k), (1, .ref b1), (2, .ref b2), (3, .int 52), (4, .int 9)] [.ref (k + 13), .ref k] (k + 20, s + 2667 + 2667 + 5 + 128 + 53 + 9 + 1236 + 9 + 1236, h87)
  refine WX.put1 (fs := [.ref b1, .ref b2, .int 9, .ref (k + 1), .ref (k + 2), .ref (k + 5), .int 0, .int 0, .int 0, .ref (k + 6), .null, .null, .null, .ref (k + 3), .int 0, .int 0, .int 0, .int 0]) (fs' := [.ref b1, .ref b2, .int 9, .ref (k + 1), .ref (k + 2), .ref (k + 5), .int 0, .int 0, .int 0, .ref (k + 6), .ref (k + 13), .null, .null, .ref (k + 3), .int 0, .int 0, .int 0, .int 0]) rfl (ltk0 (c := 20) (by decide)) (F_h87_k) (Nat.le_of_ble_eq_true rfl) (rfl) rfl (fun h90 e_h90 => ?_)
  have F_h90_k : h90 k = .inr (1, [.ref b1, .ref b2, .int 9, .ref (k + 1), .ref (k + 2), .ref (k + 5), .int 0, .int 0, .int 0, .ref (k + 6), .ref (k + 13), .null, .null, .ref (k + 3), .int 0, .int 0, .int 0, .int 0]) := by rw [e_h90]; exact va_up_eq
  have F_h90__k_1_ : h90 (k + 1) = .inl (1, 2667, .inl (fun _ => 0)) := by rw [e_h90, va_up_neq (nek0 (a := 1) (by decide))]; exact F_h87__k_1_
  have F_h90__k_2_ : h90 (k + 2) = .inl (1, 2667, .inl (fun _ => 0)) := by rw [e_h90, va_up_neq (nek0 (a := 2) (by decide))]; exact F_h87__k_2_
  have F_h90__k_3_ : h90 (k + 3) = .inr (7, [.ref (k + 4), .int 0, .int 0, .long 0, .int 0]) := by rw [e_h90, va_up_neq (nek0 (a := 3) (by decide))]; exact F_h87__k_3_
  have F_h90__k_4_ : h90 (k + 4) = .inl (0, 128, .inl (fun _ => 0)) := by rw [e_h90, va_up_neq (nek0 (a := 4) (by decide))]; exact F_h87__k_4_
  have F_h90__k_5_ : h90 (k + 5) = .inl (1, 53, .inl (fun _ => 0)) := by rw [e_h90, va_up_neq (nek0 (a := 5) (by decide))]; exact F_h87__k_5_
  have F_h90__k_6_ : h90 (k + 6) = .inr (8, [.int 52, .ref (k + 7), .ref (k + 8), .ref (k + 9), .ref (k + 10), .ref (k + 11), .ref (k + 12), .int 0, .int 0]) := by rw [e_h90, va_up_neq (nek0 (a := 6) (by decide))]; exact F_h87__k_6_
  have F_h90__k_7_ : h90 (k + 7) = .inl (1, 53, .inl (fun _ => 0)) := by rw [e_h90, va_up_neq (nek0 (a := 7) (by decide))]; exact F_h87__k_7_
  have F_h90__k_8_ : h90 (k + 8) = .inl (1, 53, .inl (fun _ => 0)) := by rw [e_h90, va_up_neq (nek0 (a := 8) (by decide))]; exact F_h87__k_8_
  have F_h90__k_9_ : h90 (k + 9) = .inl (1, 53, .inl (fun _ => 0)) := by rw [e_h90, va_up_neq (nek0 (a := 9) (by decide))]; exact F_h87__k_9_
  have F_h90__k_10_ : h90 (k + 10) = .inl (1, 53, .inl (fun _ => 0)) := by rw [e_h90, va_up_neq (nek0 (a := 10) (by decide))]; exact F_h87__k_10_
  have F_h90__k_11_ : h90 (k + 11) = .inl (1, 512, .inl (fun _ => 0)) := by rw [e_h90, va_up_neq (nek0 (a := 11) (by decide))]; exact F_h87__k_11_
  have F_h90__k_12_ : h90 (k + 12) = .inl (1, 512, .inl (fun _ => 0)) := by rw [e_h90, va_up_neq (nek0 (a := 12) (by decide))]; exact F_h87__k_12_
  have F_h90__k_13_ : h90 (k + 13) = .inr (8, [.int 52, .ref (k + 14), .ref (k + 15), .ref (k + 16), .ref (k + 17), .ref (k + 18), .ref (k + 19), .int 0, .int 0]) := by rw [e_h90, va_up_neq (nek0 (a := 13) (by decide))]; exact F_h87__k_13_
  have F_h90__k_14_ : h90 (k + 14) = .inl (1, 53, .inl (fun _ => 0)) := by rw [e_h90, va_up_neq (nek0 (a := 14) (by decide))]; exact F_h87__k_14_
  have F_h90__k_15_ : h90 (k + 15) = .inl (1, 53, .inl (fun _ => 0)) := by rw [e_h90, va_up_neq (nek0 (a := 15) (by decide))]; exact F_h87__k_15_
  have F_h90__k_16_ : h90 (k + 16) = .inl (1, 53, .inl (fun _ => 0)) := by rw [e_h90, va_up_neq (nek0 (a := 16) (by decide))]; exact F_h87__k_16_
  have F_h90__k_17_ : h90 (k + 17) = .inl (1, 53, .inl (fun _ => 0)) := by rw [e_h90, va_up_neq (nek0 (a := 17) (by decide))]; exact F_h87__k_17_
  have F_h90__k_18_ : h90 (k + 18) = .inl (1, 512, .inl (fun _ => 0)) := by rw [e_h90, va_up_neq (nek0 (a := 18) (by decide))]; exact F_h87__k_18_
  have F_h90__k_19_ : h90 (k + 19) = .inl (1, 512, .inl (fun _ => 0)) := by rw [e_h90, va_up_neq (nek0 (a := 19) (by decide))]; exact F_h87__k_19_
  have FR_h90 : ∀ j, j < k ∨ aBig ≤ j → h90 j = h j := fun j hj => by rw [e_h90]; exact (va_up_neq (frne0 hj hbig)).trans (FR_h87 j hj)
  clear F_h87_k F_h87__k_1_ F_h87__k_2_ F_h87__k_3_ F_h87__k_4_ F_h87__k_5_ F_h87__k_6_ F_h87__k_7_ F_h87__k_8_ F_h87__k_9_ F_h87__k_10_ F_h87__k_11_ F_h87__k_12_ F_h87__k_13_ F_h87__k_14_ F_h87__k_15_ F_h87__k_16_ F_h87__k_17_ F_h87__k_18_ F_h87__k_19_ FR_h87 e_h90
  clear h87
  refine WX.s1 rfl rfl ?_
  refine WX.newN rfl (bigk (k := k) (a := 21) hbig (by decide)) (fun h94 e_h94 => ?_)
  have F_h94_k : h94 k = .inr (1, [.ref b1, .ref b2, .int 9, .ref (k + 1), .ref (k + 2), .ref (k + 5), .int 0, .int 0, .int 0, .ref (k + 6), .ref (k + 13), .null, .null, .ref (k + 3), .int 0, .int 0, .int 0, .int 0]) := by rw [e_h94, va_up_neq (nek1 (a := 20) (by decide))]; exact F_h90_k
  have F_h94__k_1_ : h94 (k + 1) = .inl (1, 2667, .inl (fun _ => 0)) := by rw [e_h94, va_up_neq (nek (a := 1) (b := 20) (by decide))]; exact F_h90__k_1_
  have F_h94__k_2_ : h94 (k + 2) = .inl (1, 2667, .inl (fun _ => 0)) := by rw [e_h94, va_up_neq (nek (a := 2) (b := 20) (by decide))]; exact F_h90__k_2_
  have F_h94__k_3_ : h94 (k + 3) = .inr (7, [.ref (k + 4), .int 0, .int 0, .long 0, .int 0]) := by rw [e_h94, va_up_neq (nek (a := 3) (b := 20) (by decide))]; exact F_h90__k_3_
  have F_h94__k_4_ : h94 (k + 4) = .inl (0, 128, .inl (fun _ => 0)) := by rw [e_h94, va_up_neq (nek (a := 4) (b := 20) (by decide))]; exact F_h90__k_4_
  have F_h94__k_5_ : h94 (k + 5) = .inl (1, 53, .inl (fun _ => 0)) := by rw [e_h94, va_up_neq (nek (a := 5) (b := 20) (by decide))]; exact F_h90__k_5_
  have F_h94__k_6_ : h94 (k + 6) = .inr (8, [.int 52, .ref (k + 7), .ref (k + 8), .ref (k + 9), .ref (k + 10), .ref (k + 11), .ref (k + 12), .int 0, .int 0]) := by rw [e_h94, va_up_neq (nek (a := 6) (b := 20) (by decide))]; exact F_h90__k_6_
  have F_h94__k_7_ : h94 (k + 7) = .inl (1, 53, .inl (fun _ => 0)) := by rw [e_h94, va_up_neq (nek (a := 7) (b := 20) (by decide))]; exact F_h90__k_7_
  have F_h94__k_8_ : h94 (k + 8) = .inl (1, 53, .inl (fun _ => 0)) := by rw [e_h94, va_up_neq (nek (a := 8) (b := 20) (by decide))]; exact F_h90__k_8_
  have F_h94__k_9_ : h94 (k + 9) = .inl (1, 53, .inl (fun _ => 0)) := by rw [e_h94, va_up_neq (nek (a := 9) (b := 20) (by decide))]; exact F_h90__k_9_
  have F_h94__k_10_ : h94 (k + 10) = .inl (1, 53, .inl (fun _ => 0)) := by rw [e_h94, va_up_neq (nek (a := 10) (b := 20) (by decide))]; exact F_h90__k_10_
  have F_h94__k_11_ : h94 (k + 11) = .inl (1, 512, .inl (fun _ => 0)) := by rw [e_h94, va_up_neq (nek (a := 11) (b := 20) (by decide))]; exact F_h90__k_11_
  have F_h94__k_12_ : h94 (k + 12) = .inl (1, 512, .inl (fun _ => 0)) := by rw [e_h94, va_up_neq (nek (a := 12) (b := 20) (by decide))]; exact F_h90__k_12_
  have F_h94__k_13_ : h94 (k + 13) = .inr (8, [.int 52, .ref (k + 14), .ref (k + 15), .ref (k + 16), .ref (k + 17), .ref (k + 18), .ref (k + 19), .int 0, .int 0]) := by rw [e_h94, va_up_neq (nek (a := 13) (b := 20) (by decide))]; exact F_h90__k_13_
  have F_h94__k_14_ : h94 (k + 14) = .inl (1, 53, .inl (fun _ => 0)) := by rw [e_h94, va_up_neq (nek (a := 14) (b := 20) (by decide))]; exact F_h90__k_14_
  have F_h94__k_15_ : h94 (k + 15) = .inl (1, 53, .inl (fun _ => 0)) := by rw [e_h94, va_up_neq (nek (a := 15) (b := 20) (by decide))]; exact F_h90__k_15_
  have F_h94__k_16_ : h94 (k + 16) = .inl (1, 53, .inl (fun _ => 0)) := by rw [e_h94, va_up_neq (nek (a := 16) (b := 20) (by decide))]; exact F_h90__k_16_
  have F_h94__k_17_ : h94 (k + 17) = .inl (1, 53, .inl (fun _ => 0)) := by rw [e_h94, va_up_neq (nek (a := 17) (b := 20) (by decide))]; exact F_h90__k_17_
  have F_h94__k_18_ : h94 (k + 18) = .inl (1, 512, .inl (fun _ => 0)) := by rw [e_h94, va_up_neq (nek (a := 18) (b := 20) (by decide))]; exact F_h90__k_18_
  have F_h94__k_19_ : h94 (k + 19) = .inl (1, 512, .inl (fun _ => 0)) := by rw [e_h94, va_up_neq (nek (a := 19) (b := 20) (by decide))]; exact F_h90__k_19_
  have F_h94__k_20_ : h94 (k + 20) = .inr (8, zX8) := by rw [e_h94]; exact va_up_eq
  have FR_h94 : ∀ j, j < k ∨ aBig ≤ j → h94 j = h j := fun j hj => by rw [e_h94]; exact (va_up_neq (frne (a := 20) hj hbig (by decide))).trans (FR_h90 j hj)
  clear F_h90_k F_h90__k_1_ F_h90__k_2_ F_h90__k_3_ F_h90__k_4_ F_h90__k_5_ F_h90__k_6_ F_h90__k_7_ F_h90__k_8_ F_h90__k_9_ F_h90__k_10_ F_h90__k_11_ F_h90__k_12_ F_h90__k_13_ F_h90__k_14_ F_h90__k_15_ F_h90__k_16_ F_h90__k_17_ F_h90__k_18_ F_h90__k_19_ FR_h90 e_h94
  clear h90
  refine WX.s1 rfl rfl ?_
  refine WX.s1 rfl rfl ?_
  refine WX.s1 rfl rfl ?_
  refine WX.callC (vs := [.ref (k + 20), .int 52, .int 9]) rfl rfl rfl (Nat.le_of_ble_eq_true rfl) (rcv_ok (ltk (a := 20) (c := 21) (by decide)) F_h94__k_20_) ?_
  refine n_share_52_9 (k := k + 20) (bigk (k := k) (a := 28) hbig (by decide)) F_h94__k_20_ (fun h101 fr101 cs101 => ?_)
  have F_h101_k : h101 k = .inr (1, [.ref b1, .ref b2, .int 9, .ref (k + 1), .ref (k + 2), .ref (k + 5), .int 0, .int 0, .int 0, .ref (k + 6), .ref (k + 13), .null, .null, .ref (k + 3), .int 0, .int 0, .int 0, .int 0]) := (fr101 k (Or.inl (ltk0 (c := 20) (by decide)))).trans F_h94_k
  have F_h101__k_1_ : h101 (k + 1) = .inl (1, 2667, .inl (fun _ => 0)) := (fr101 (k + 1) (Or.inl (ltk (a := 1) (c := 20) (by decide)))).trans F_h94__k_1_
  have F_h101__k_2_ : h101 (k + 2) = .inl (1, 2667, .inl (fun _ => 0)) := (fr101 (k + 2) (Or.inl (ltk (a := 2) (c := 20) (by decide)))).trans F_h94__k_2_
  have F_h101__k_3_ : h101 (k + 3) = .inr (7, [.ref (k + 4), .int 0, .int 0, .long 0, .int 0]) := (fr101 (k + 3) (Or.inl (ltk (a := 3) (c := 20) (by decide)))).trans F_h94__k_3_
  have F_h101__k_4_ : h101 (k + 4) = .inl (0, 128, .inl (fun _ => 0)) := (fr101 (k + 4) (Or.inl (ltk (a := 4) (c := 20) (by decide)))).trans F_h94__k_4_
  have F_h101__k_5_ : h101 (k + 5) = .inl (1, 53, .inl (fun _ => 0)) := (fr101 (k + 5) (Or.inl (ltk (a := 5) (c := 20) (by decide)))).trans F_h94__k_5_
  have F_h101__k_6_ : h101 (k + 6) = .inr (8, [.int 52, .ref (k + 7), .ref (k + 8), .ref (k + 9), .ref (k + 10), .ref (k + 11), .ref (k + 12), .int 0, .int 0]) := (fr101 (k + 6) (Or.inl (ltk (a := 6) (c := 20) (by decide)))).trans F_h94__k_6_
  have F_h101__k_7_ : h101 (k + 7) = .inl (1, 53, .inl (fun _ => 0)) := (fr101 (k + 7) (Or.inl (ltk (a := 7) (c := 20) (by decide)))).trans F_h94__k_7_
  have F_h101__k_8_ : h101 (k + 8) = .inl (1, 53, .inl (fun _ => 0)) := (fr101 (k + 8) (Or.inl (ltk (a := 8) (c := 20) (by decide)))).trans F_h94__k_8_
  have F_h101__k_9_ : h101 (k + 9) = .inl (1, 53, .inl (fun _ => 0)) := (fr101 (k + 9) (Or.inl (ltk (a := 9) (c := 20) (by decide)))).trans F_h94__k_9_
  have F_h101__k_10_ : h101 (k + 10) = .inl (1, 53, .inl (fun _ => 0)) := (fr101 (k + 10) (Or.inl (ltk (a := 10) (c := 20) (by decide)))).trans F_h94__k_10_
  have F_h101__k_11_ : h101 (k + 11) = .inl (1, 512, .inl (fun _ => 0)) := (fr101 (k + 11) (Or.inl (ltk (a := 11) (c := 20) (by decide)))).trans F_h94__k_11_
  have F_h101__k_12_ : h101 (k + 12) = .inl (1, 512, .inl (fun _ => 0)) := (fr101 (k + 12) (Or.inl (ltk (a := 12) (c := 20) (by decide)))).trans F_h94__k_12_
  have F_h101__k_13_ : h101 (k + 13) = .inr (8, [.int 52, .ref (k + 14), .ref (k + 15), .ref (k + 16), .ref (k + 17), .ref (k + 18), .ref (k + 19), .int 0, .int 0]) := (fr101 (k + 13) (Or.inl (ltk (a := 13) (c := 20) (by decide)))).trans F_h94__k_13_
  have F_h101__k_14_ : h101 (k + 14) = .inl (1, 53, .inl (fun _ => 0)) := (fr101 (k + 14) (Or.inl (ltk (a := 14) (c := 20) (by decide)))).trans F_h94__k_14_
  have F_h101__k_15_ : h101 (k + 15) = .inl (1, 53, .inl (fun _ => 0)) := (fr101 (k + 15) (Or.inl (ltk (a := 15) (c := 20) (by decide)))).trans F_h94__k_15_
  have F_h101__k_16_ : h101 (k + 16) = .inl (1, 53, .inl (fun _ => 0)) := (fr101 (k + 16) (Or.inl (ltk (a := 16) (c := 20) (by decide)))).trans F_h94__k_16_
  have F_h101__k_17_ : h101 (k + 17) = .inl (1, 53, .inl (fun _ => 0)) := (fr101 (k + 17) (Or.inl (ltk (a := 17) (c := 20) (by decide)))).trans F_h94__k_17_
  have F_h101__k_18_ : h101 (k + 18) = .inl (1, 512, .inl (fun _ => 0)) := (fr101 (k + 18) (Or.inl (ltk (a := 18) (c := 20) (by decide)))).trans F_h94__k_18_
  have F_h101__k_19_ : h101 (k + 19) = .inl (1, 512, .inl (fun _ => 0)) := (fr101 (k + 19) (Or.inl (ltk (a := 19) (c := 20) (by decide)))).trans F_h94__k_19_
  have F_h101__k_20_ : h101 (k + 20) = .inr (8, [.int 52, .ref (k + 21), .ref (k + 22), .ref (k + 23), .ref (k + 24), .ref (k + 25), .ref (k + 26), .int 0, .int 0]) := cs101.1
  have F_h101__k_21_ : h101 (k + 21) = .inl (1, 53, .inl (fun _ => 0)) := cs101.2.1
  have F_h101__k_22_ : h101 (k + 22) = .inl (1, 53, .inl (fun _ => 0)) := cs101.2.2.1
  have F_h101__k_23_ : h101 (k + 23) = .inl (1, 53, .inl (fun _ => 0)) := cs101.2.2.2.1
  have F_h101__k_24_ : h101 (k + 24) = .inl (1, 53, .inl (fun _ => 0)) := cs101.2.2.2.2.1
  have F_h101__k_25_ : h101 (k + 25) = .inl (1, 512, .inl (fun _ => 0)) := cs101.2.2.2.2.2.1
  have F_h101__k_26_ : h101 (k + 26) = .inl (1, 512, .inl (fun _ => 0)) := cs101.2.2.2.2.2.2.1
  have FR_h101 : ∀ j, j < k ∨ aBig ≤ j → h101 j = h j := fun j hj => (fr101 j (hj.imp (fun z => Nat.lt_of_lt_of_le z (Nat.le_add_right _ _)) (fun z => z))).trans (FR_h94 j hj)
  clear F_h94_k F_h94__k_1_ F_h94__k_2_ F_h94__k_3_ F_h94__k_4_ F_h94__k_5_ F_h94__k_6_ F_h94__k_7_ F_h94__k_8_ F_h94__k_9_ F_h94__k_10_ F_h94__k_11_ F_h94__k_12_ F_h94__k_13_ F_h94__k_14_ F_h94__k_15_ F_h94__k_16_ F_h94__k_17_ F_h94__k_18_ F_h94__k_19_ F_h94__k_20_ FR_h94 fr101 cs101
  clear h94
  show WX _ _ _ 104 [(0, .ref k), (1, .ref b1), (2, .ref b2), (3, .int 52), (4, .int 9)] [.ref (k + 20), .ref k] (k + 27, s + 2667 + 2667 + 5 + 128 + 53 + 9 + 1236 + 9 + 1236 + 9 + 1236, h101)
  refine WX.put1 (fs := [.ref b1, .ref b2, .int 9, .ref (k + 1), .ref (k + 2), .ref (k + 5), .int 0, .int 0, .int 0, .ref (k + 6), .ref (k + 13), .null, .null, .ref (k + 3), .int 0, .int 0, .int 0, .int 0]) (fs' := [.ref b1, .ref b2, .int 9, .ref (k + 1), .ref (k + 2), .ref (k + 5), .int 0, .int 0, .int 0, .ref (k + 6), .ref (k + 13), .ref (k + 20), .null, .ref (k + 3), .int 0, .int 0, .int 0, .int 0]) rfl (ltk0 (c := 27) (by decide)) (F_h101_k) (Nat.le_of_ble_eq_true rfl) (rfl) rfl (fun h104 e_h104 => ?_)
  have F_h104_k : h104 k = .inr (1, [.ref b1, .ref b2, .int 9, .ref (k + 1), .ref (k + 2), .ref (k + 5), .int 0, .int 0, .int 0, .ref (k + 6), .ref (k + 13), .ref (k + 20), .null, .ref (k + 3), .int 0, .int 0, .int 0, .int 0]) := by rw [e_h104]; exact va_up_eq
  have F_h104__k_1_ : h104 (k + 1) = .inl (1, 2667, .inl (fun _ => 0)) := by rw [e_h104, va_up_neq (nek0 (a := 1) (by decide))]; exact F_h101__k_1_
  have F_h104__k_2_ : h104 (k + 2) = .inl (1, 2667, .inl (fun _ => 0)) := by rw [e_h104, va_up_neq (nek0 (a := 2) (by decide))]; exact F_h101__k_2_
  have F_h104__k_3_ : h104 (k + 3) = .inr (7, [.ref (k + 4), .int 0, .int 0, .long 0, .int 0]) := by rw [e_h104, va_up_neq (nek0 (a := 3) (by decide))]; exact F_h101__k_3_
  have F_h104__k_4_ : h104 (k + 4) = .inl (0, 128, .inl (fun _ => 0)) := by rw [e_h104, va_up_neq (nek0 (a := 4) (by decide))]; exact F_h101__k_4_
  have F_h104__k_5_ : h104 (k + 5) = .inl (1, 53, .inl (fun _ => 0)) := by rw [e_h104, va_up_neq (nek0 (a := 5) (by decide))]; exact F_h101__k_5_
  have F_h104__k_6_ : h104 (k + 6) = .inr (8, [.int 52, .ref (k + 7), .ref (k + 8), .ref (k + 9), .ref (k + 10), .ref (k + 11), .ref (k + 12), .int 0, .int 0]) := by rw [e_h104, va_up_neq (nek0 (a := 6) (by decide))]; exact F_h101__k_6_
  have F_h104__k_7_ : h104 (k + 7) = .inl (1, 53, .inl (fun _ => 0)) := by rw [e_h104, va_up_neq (nek0 (a := 7) (by decide))]; exact F_h101__k_7_
  have F_h104__k_8_ : h104 (k + 8) = .inl (1, 53, .inl (fun _ => 0)) := by rw [e_h104, va_up_neq (nek0 (a := 8) (by decide))]; exact F_h101__k_8_
  have F_h104__k_9_ : h104 (k + 9) = .inl (1, 53, .inl (fun _ => 0)) := by rw [e_h104, va_up_neq (nek0 (a := 9) (by decide))]; exact F_h101__k_9_
  have F_h104__k_10_ : h104 (k + 10) = .inl (1, 53, .inl (fun _ => 0)) := by rw [e_h104, va_up_neq (nek0 (a := 10) (by decide))]; exact F_h101__k_10_
  have F_h104__k_11_ : h104 (k + 11) = .inl (1, 512, .inl (fun _ => 0)) := by rw [e_h104, va_up_neq (nek0 (a := 11) (by decide))]; exact F_h101__k_11_
  have F_h104__k_12_ : h104 (k + 12) = .inl (1, 512, .inl (fun _ => 0)) := by rw [e_h104, va_up_neq (nek0 (a := 12) (by decide))]; exact F_h101__k_12_
  have F_h104__k_13_ : h104 (k + 13) = .inr (8, [.int 52, .ref (k + 14), .ref (k + 15), .ref (k + 16), .ref (k + 17), .ref (k + 18), .ref (k + 19), .int 0, .int 0]) := by rw [e_h104, va_up_neq (nek0 (a := 13) (by decide))]; exact F_h101__k_13_
  have F_h104__k_14_ : h104 (k + 14) = .inl (1, 53, .inl (fun _ => 0)) := by rw [e_h104, va_up_neq (nek0 (a := 14) (by decide))]; exact F_h101__k_14_
  have F_h104__k_15_ : h104 (k + 15) = .inl (1, 53, .inl (fun _ => 0)) := by rw [e_h104, va_up_neq (nek0 (a := 15) (by decide))]; exact F_h101__k_15_
  have F_h104__k_16_ : h104 (k + 16) = .inl (1, 53, .inl (fun _ => 0)) := by rw [e_h104, va_up_neq (nek0 (a := 16) (by decide))]; exact F_h101__k_16_
  have F_h104__k_17_ : h104 (k + 17) = .inl (1, 53, .inl (fun _ => 0)) := by rw [e_h104, va_up_neq (nek0 (a := 17) (by decide))]; exact F_h101__k_17_
  have F_h104__k_18_ : h104 (k + 18) = .inl (1, 512, .inl (fun _ => 0)) := by rw [e_h104, va_up_neq (nek0 (a := 18) (by decide))]; exact F_h101__k_18_
  have F_h104__k_19_ : h104 (k + 19) = .inl (1, 512, .inl (fun _ => 0)) := by rw [e_h104, va_up_neq (nek0 (a := 19) (by decide))]; exact F_h101__k_19_
  have F_h104__k_20_ : h104 (k + 20) = .inr (8, [.int 52, .ref (k + 21), .ref (k + 22), .ref (k + 23), .ref (k + 24), .ref (k + 25), .ref (k + 26), .int 0, .int 0]) := by rw [e_h104, va_up_neq (nek0 (a := 20) (by decide))]; exact F_h101__k_20_
  have F_h104__k_21_ : h104 (k + 21) = .inl (1, 53, .inl (fun _ => 0)) := by rw [e_h104, va_up_neq (nek0 (a := 21) (by decide))]; exact F_h101__k_21_
  have F_h104__k_22_ : h104 (k + 22) = .inl (1, 53, .inl (fun _ => 0)) := by rw [e_h104, va_up_neq (nek0 (a := 22) (by decide))]; exact F_h101__k_22_
  have F_h104__k_23_ : h104 (k + 23) = .inl (1, 53, .inl (fun _ => 0)) := by rw [e_h104, va_up_neq (nek0 (a := 23) (by decide))]; exact F_h101__k_23_
  have F_h104__k_24_ : h104 (k + 24) = .inl (1, 53, .inl (fun _ => 0)) := by rw [e_h104, va_up_neq (nek0 (a := 24) (by decide))]; exact F_h101__k_24_
  have F_h104__k_25_ : h104 (k + 25) = .inl (1, 512, .inl (fun _ => 0)) := by rw [e_h104, va_up_neq (nek0 (a := 25) (by decide))]; exact F_h101__k_25_
  have F_h104__k_26_ : h104 (k + 26) = .inl (1, 512, .inl (fun _ => 0)) := by rw [e_h104, va_up_neq (nek0 (a := 26) (by decide))]; exact F_h101__k_26_
  have FR_h104 : ∀ j, j < k ∨ aBig ≤ j → h104 j = h j := fun j hj => by rw [e_h104]; exact (va_up_neq (frne0 hj hbig)).trans (FR_h101 j hj)
  clear F_h101_k F_h101__k_1_ F_h101__k_2_ F_h101__k_3_ F_h101__k_4_ F_h101__k_5_ F_h101__k_6_ F_h101__k_7_ F_h101__k_8_ F_h101__k_9_ F_h101__k_10_ F_h101__k_11_ F_h101__k_12_ F_h101__k_13_ F_h101__k_14_ F_h101__k_15_ F_h101__k_16_ F_h101__k_17_ F_h101__k_18_ F_h101__k_19_ F_h101__k_20_ F_h101__k_21_ F_h101__k_22_ F_h101__k_23_ F_h101__k_24_ F_h101__k_25_ F_h101__k_26_ FR_h101 e_h104
  clear h101
  refine WX.s1 rfl rfl ?_
  refine WX.s1 rfl rfl ?_
  refine WX.get1 (fs := [.ref b1, .ref b2, .int 9, .ref (k + 1), .ref (k + 2), .ref (k + 5), .int 0, .int 0, .int 0, .ref (k + 6), .ref (k + 13), .ref (k + 20), .null, .ref (k + 3), .int 0, .int 0, .int 0, .int 0]) rfl (ltk0 (c := 27) (by decide)) (F_h104_k) rfl ?_
  refine WX.put1 (fs := [.ref b1, .ref b2, .int 9, .ref (k + 1), .ref (k + 2), .ref (k + 5), .int 0, .int 0, .int 0, .ref (k + 6), .ref (k + 13), .ref (k + 20), .null, .ref (k + 3), .int 0, .int 0, .int 0, .int 0]) (fs' := [.ref b1, .ref b2, .int 9, .ref (k + 1), .ref (k + 2), .ref (k + 5), .int 0, .int 0, .int 0, .ref (k + 6), .ref (k + 13), .ref (k + 20), .ref (k + 6), .ref (k + 3), .int 0, .int 0, .int 0, .int 0]) rfl (ltk0 (c := 27) (by decide)) (F_h104_k) (Nat.le_of_ble_eq_true rfl) (rfl) rfl (fun h112 e_h112 => ?_)
  have F_h112_k : h112 k = .inr (1, [.ref b1, .ref b2, .int 9, .ref (k + 1), .ref (k + 2), .ref (k + 5), .int 0, .int 0, .int 0, .ref (k + 6), .ref (k + 13), .ref (k + 20), .ref (k + 6), .ref (k + 3), .int 0, .int 0, .int 0, .int 0]) := by rw [e_h112]; exact va_up_eq
  have F_h112__k_1_ : h112 (k + 1) = .inl (1, 2667, .inl (fun _ => 0)) := by rw [e_h112, va_up_neq (nek0 (a := 1) (by decide))]; exact F_h104__k_1_
  have F_h112__k_2_ : h112 (k + 2) = .inl (1, 2667, .inl (fun _ => 0)) := by rw [e_h112, va_up_neq (nek0 (a := 2) (by decide))]; exact F_h104__k_2_
  have F_h112__k_3_ : h112 (k + 3) = .inr (7, [.ref (k + 4), .int 0, .int 0, .long 0, .int 0]) := by rw [e_h112, va_up_neq (nek0 (a := 3) (by decide))]; exact F_h104__k_3_
  have F_h112__k_4_ : h112 (k + 4) = .inl (0, 128, .inl (fun _ => 0)) := by rw [e_h112, va_up_neq (nek0 (a := 4) (by decide))]; exact F_h104__k_4_
  have F_h112__k_5_ : h112 (k + 5) = .inl (1, 53, .inl (fun _ => 0)) := by rw [e_h112, va_up_neq (nek0 (a := 5) (by decide))]; exact F_h104__k_5_
  have F_h112__k_6_ : h112 (k + 6) = .inr (8, [.int 52, .ref (k + 7), .ref (k + 8), .ref (k + 9), .ref (k + 10), .ref (k + 11), .ref (k + 12), .int 0, .int 0]) := by rw [e_h112, va_up_neq (nek0 (a := 6) (by decide))]; exact F_h104__k_6_
  have F_h112__k_7_ : h112 (k + 7) = .inl (1, 53, .inl (fun _ => 0)) := by rw [e_h112, va_up_neq (nek0 (a := 7) (by decide))]; exact F_h104__k_7_
  have F_h112__k_8_ : h112 (k + 8) = .inl (1, 53, .inl (fun _ => 0)) := by rw [e_h112, va_up_neq (nek0 (a := 8) (by decide))]; exact F_h104__k_8_
  have F_h112__k_9_ : h112 (k + 9) = .inl (1, 53, .inl (fun _ => 0)) := by rw [e_h112, va_up_neq (nek0 (a := 9) (by decide))]; exact F_h104__k_9_
  have F_h112__k_10_ : h112 (k + 10) = .inl (1, 53, .inl (fun _ => 0)) := by rw [e_h112, va_up_neq (nek0 (a := 10) (by decide))]; exact F_h104__k_10_
  have F_h112__k_11_ : h112 (k + 11) = .inl (1, 512, .inl (fun _ => 0)) := by rw [e_h112, va_up_neq (nek0 (a := 11) (by decide))]; exact F_h104__k_11_
  have F_h112__k_12_ : h112 (k + 12) = .inl (1, 512, .inl (fun _ => 0)) := by rw [e_h112, va_up_neq (nek0 (a := 12) (by decide))]; exact F_h104__k_12_
  have F_h112__k_13_ : h112 (k + 13) = .inr (8, [.int 52, .ref (k + 14), .ref (k + 15), .ref (k + 16), .ref (k + 17), .ref (k + 18), .ref (k + 19), .int 0, .int 0]) := by rw [e_h112, va_up_neq (nek0 (a := 13) (by decide))]; exact F_h104__k_13_
  have F_h112__k_14_ : h112 (k + 14) = .inl (1, 53, .inl (fun _ => 0)) := by rw [e_h112, va_up_neq (nek0 (a := 14) (by decide))]; exact F_h104__k_14_
  have F_h112__k_15_ : h112 (k + 15) = .inl (1, 53, .inl (fun _ => 0)) := by rw [e_h112, va_up_neq (nek0 (a := 15) (by decide))]; exact F_h104__k_15_
  have F_h112__k_16_ : h112 (k + 16) = .inl (1, 53, .inl (fun _ => 0)) := by rw [e_h112, va_up_neq (nek0 (a := 16) (by decide))]; exact F_h104__k_16_
  have F_h112__k_17_ : h112 (k + 17) = .inl (1, 53, .inl (fun _ => 0)) := by rw [e_h112, va_up_neq (nek0 (a := 17) (by decide))]; exact F_h104__k_17_
  have F_h112__k_18_ : h112 (k + 18) = .inl (1, 512, .inl (fun _ => 0)) := by rw [e_h112, va_up_neq (nek0 (a := 18) (by decide))]; exact F_h104__k_18_
  have F_h112__k_19_ : h112 (k + 19) = .inl (1, 512, .inl (fun _ => 0)) := by rw [e_h112, va_up_neq (nek0 (a := 19) (by decide))]; exact F_h104__k_19_
  have F_h112__k_20_ : h112 (k + 20) = .inr (8, [.int 52, .ref (k + 21), .ref (k + 22), .ref (k + 23), .ref (k + 24), .ref (k + 25), .ref (k + 26), .int 0, .int 0]) := by rw [e_h112, va_up_neq (nek0 (a := 20) (by decide))]; exact F_h104__k_20_
  have F_h112__k_21_ : h112 (k + 21) = .inl (1, 53, .inl (fun _ => 0)) := by rw [e_h112, va_up_neq (nek0 (a := 21) (by decide))]; exact F_h104__k_21_
  have F_h112__k_22_ : h112 (k + 22) = .inl (1, 53, .inl (fun _ => 0)) := by rw [e_h112, va_up_neq (nek0 (a := 22) (by decide))]; exact F_h104__k_22_
  have F_h112__k_23_ : h112 (k + 23) = .inl (1, 53, .inl (fun _ => 0)) := by rw [e_h112, va_up_neq (nek0 (a := 23) (by decide))]; exact F_h104__k_23_
  have F_h112__k_24_ : h112 (k + 24) = .inl (1, 53, .inl (fun _ => 0)) := by rw [e_h112, va_up_neq (nek0 (a := 24) (by decide))]; exact F_h104__k_24_
  have F_h112__k_25_ : h112 (k + 25) = .inl (1, 512, .inl (fun _ => 0)) := by rw [e_h112, va_up_neq (nek0 (a := 25) (by decide))]; exact F_h104__k_25_
  have F_h112__k_26_ : h112 (k + 26) = .inl (1, 512, .inl (fun _ => 0)) := by rw [e_h112, va_up_neq (nek0 (a := 26) (by decide))]; exact F_h104__k_26_
  have FR_h112 : ∀ j, j < k ∨ aBig ≤ j → h112 j = h j := fun j hj => by rw [e_h112]; exact (va_up_neq (frne0 hj hbig)).trans (FR_h104 j hj)
  clear F_h104_k F_h104__k_1_ F_h104__k_2_ F_h104__k_3_ F_h104__k_4_ F_h104__k_5_ F_h104__k_6_ F_h104__k_7_ F_h104__k_8_ F_h104__k_9_ F_h104__k_10_ F_h104__k_11_ F_h104__k_12_ F_h104__k_13_ F_h104__k_14_ F_h104__k_15_ F_h104__k_16_ F_h104__k_17_ F_h104__k_18_ F_h104__k_19_ F_h104__k_20_ F_h104__k_21_ F_h104__k_22_ F_h104__k_23_ F_h104__k_24_ F_h104__k_25_ F_h104__k_26_ FR_h104 e_h112
  clear h104
  refine WX.ret0 rfl ?_
  exact kk h112 FR_h112 ⟨F_h112_k, F_h112__k_1_, F_h112__k_2_, F_h112__k_3_, F_h112__k_4_, F_h112__k_5_, F_h112__k_6_, F_h112__k_7_, F_h112__k_8_, F_h112__k_9_, F_h112__k_10_, F_h112__k_11_, F_h112__k_12_, F_h112__k_13_, F_h112__k_14_, F_h112__k_15_, F_h112__k_16_, F_h112__k_17_, F_h112__k_18_, F_h112__k_19_, F_h112__k_20_, F_h112__k_21_, F_h112__k_22_, F_h112__k_23_, F_h112__k_24_, F_h112__k_25_, F_h112__k_26_, trivial⟩
