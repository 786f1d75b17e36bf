/-! constructors: the cells that they leave, from the object's own on -/
def Cells (h : Nat → aE) : Nat → List aE → Prop
  | _, [] => True
  | k, e :: es => h k = e ∧ Cells h (k + 1) es
theorem shl1 : ∀ g, g < 10 → (1 : Int32) <<< (nI g &&& 31) = nI (2 ^ g) := by decide +kernel
def cRow (N : Nat) (k : Nat) : List aE := [.inr (7, [.ref (k + 1), .int 0, .int 0, .long 0, .int 0]), .inl (0, N, .inl (fun _ => 0))]
theorem n_row {d s : Nat} {h : Nat → aE} {k N : Nat} {m : Int32} (hbig : k + 2 < aBig) (F_h_k : h k = .inr (7, zX7)) (hm : m = nI N) (hN : N ≤ 60000) {Ψ : Option Value → aH → Prop} (kk : ∀ h', (∀ j, j < k → h' j = h j) → Cells h' k (cRow N k) → Ψ none (k + 2, s + N, h')) : WO (mM (d + 1)) 85 [.ref k, .int m] (k + 1, s, h) Ψ := by
  subst hm
  exact w_rowInit hbig F_h_k hN (fun h' fr r => kk h' (fun j hj => fr j (by omega)) ⟨r.1, r.2, trivial⟩)
def cCodes (k : Nat) : List aE := [.inr (0, [.ref (k + 1), .ref (k + 2), .ref (k + 3), .int 0, .int 0]), .inl (1, 256, .inl (fun _ => 0)), .inl (1, 256, .inl (fun _ => 0)), .inl (1, 13, .inl (fun _ => 0))]
set_option maxRecDepth 20000 in
theorem n_codes {d s : Nat} {h : Nat → aE} {k : Nat} (hbig : k + 5 < aBig) (F_h_k : h k = .inr (0, zX0)) {Ψ : Option Value → aH → Prop} (kk : ∀ h', (∀ j, j < k → h' j = h j) → Cells h' k (cCodes k) → Ψ none (k + 4, s + 525, h')) : WO (mM (d + 1)) 0 [.ref k] (k + 1, s, h) Ψ := by
  refine WO.of (Nat.le_of_ble_eq_true rfl) ?_
  have FR_h : ∀ j, j < k → h j = h j := fun _ _ => rfl
  show WX (lk tX0_init) (mM (d + 0)) Ψ 0 [(0, .ref k)] [] (k + 1, s, h)
  refine WX.s1 rfl rfl ?_
  refine WX.s1 rfl rfl ?_
  refine WX.s1 rfl rfl ?_
  refine WX.s1 rfl rfl ?_
  refine WX.newaN (N := 256) (z0 := .inl (fun _ => 0)) rfl (by decide) (by decide) (by have := hbig; omega) rfl (fun h8 e_h8 => ?_)
  have F_h8_k : h8 k = .inr (0, [.null, .null, .null, .int 0, .int 0]) := by rw [e_h8, va_up_neq (by omega)]; exact F_h_k
  have F_h8__k_1_ : h8 (k + 1) = .inl (1, 256, .inl (fun _ => 0)) := by rw [e_h8]; exact va_up_eq
  have FR_h8 : ∀ j, j < k → h8 j = h j := fun j hj => by rw [e_h8]; exact (va_up_neq (by omega)).trans (FR_h j hj)
  refine WX.put1 (fs := [.null, .null, .null, .int 0, .int 0]) (fs' := [.ref (k + 1), .null, .null, .int 0, .int 0]) rfl (by omega) (F_h8_k) (Nat.le_of_ble_eq_true rfl) (rfl) rfl (fun h10 e_h10 => ?_)
  have F_h10_k : h10 k = .inr (0, [.ref (k + 1), .null, .null, .int 0, .int 0]) := by rw [e_h10]; exact va_up_eq
  have F_h10__k_1_ : h10 (k + 1) = .inl (1, 256, .inl (fun _ => 0)) := by rw [e_h10, va_up_neq (by omega)]; exact F_h8__k_1_
  have FR_h10 : ∀ j, j < k → h10 j = h j := fun j hj => by rw [e_h10]; exact (va_up_neq (by omega)).trans (FR_h8 j hj)
  refine WX.s1 rfl rfl ?_
  refine WX.s1 rfl rfl ?_
  refine WX.newaN (N := 256) (z0 := .inl (fun _ => 0)) rfl (by decide) (by decide) (by have := hbig; omega) rfl (fun h17 e_h17 => ?_)
  have F_h17_k : h17 k = .inr (0, [.ref (k + 1), .null, .null, .int 0, .int 0]) := by rw [e_h17, va_up_neq (by omega)]; exact F_h10_k
  have F_h17__k_1_ : h17 (k + 1) = .inl (1, 256, .inl (fun _ => 0)) := by rw [e_h17, va_up_neq (by omega)]; exact F_h10__k_1_
  have F_h17__k_2_ : h17 (k + 2) = .inl (1, 256, .inl (fun _ => 0)) := by rw [e_h17]; exact va_up_eq
  have FR_h17 : ∀ j, j < k → h17 j = h j := fun j hj => by rw [e_h17]; exact (va_up_neq (by omega)).trans (FR_h10 j hj)
  refine WX.put1 (fs := [.ref (k + 1), .null, .null, .int 0, .int 0]) (fs' := [.ref (k + 1), .ref (k + 2), .null, .int 0, .int 0]) rfl (by omega) (F_h17_k) (Nat.le_of_ble_eq_true rfl) (rfl) rfl (fun h19 e_h19 => ?_)
  have F_h19_k : h19 k = .inr (0, [.ref (k + 1), .ref (k + 2), .null, .int 0, .int 0]) := by rw [e_h19]; exact va_up_eq
  have F_h19__k_1_ : h19 (k + 1) = .inl (1, 256, .inl (fun _ => 0)) := by rw [e_h19, va_up_neq (by omega)]; exact F_h17__k_1_
  have F_h19__k_2_ : h19 (k + 2) = .inl (1, 256, .inl (fun _ => 0)) := by rw [e_h19, va_up_neq (by omega)]; exact F_h17__k_2_
  have FR_h19 : ∀ j, j < k → h19 j = h j := fun j hj => by rw [e_h19]; exact (va_up_neq (by omega)).trans (FR_h17 j hj)
  refine WX.s1 rfl rfl ?_
  refine WX.s1 rfl rfl ?_
  refine WX.newaN (N := 13) (z0 := .inl (fun _ => 0)) rfl (by decide) (by decide) (by have := hbig; omega) rfl (fun h25 e_h25 => ?_)
  have F_h25_k : h25 k = .inr (0, [.ref (k + 1), .ref (k + 2), .null, .int 0, .int 0]) := by rw [e_h25, va_up_neq (by omega)]; exact F_h19_k
  have F_h25__k_1_ : h25 (k + 1) = .inl (1, 256, .inl (fun _ => 0)) := by rw [e_h25, va_up_neq (by omega)]; exact F_h19__k_1_
  have F_h25__k_2_ : h25 (k + 2) = .inl (1, 256, .inl (fun _ => 0)) := by rw [e_h25, va_up_neq (by omega)]; exact F_h19__k_2_
  have F_h25__k_3_ : h25 (k + 3) = .inl (1, 13, .inl (fun _ => 0)) := by rw [e_h25]; exact va_up_eq
  have FR_h25 : ∀ j, j < k → h25 j = h j := fun j hj => by rw [e_h25]; exact (va_up_neq (by omega)).trans (FR_h19 j hj)
  refine WX.put1 (fs := [.ref (k + 1), .ref (k + 2), .null, .int 0, .int 0]) (fs' := [.ref (k + 1), .ref (k + 2), .ref (k + 3), .int 0, .int 0]) rfl (by omega) (F_h25_k) (Nat.le_of_ble_eq_true rfl) (rfl) rfl (fun h27 e_h27 => ?_)
  have F_h27_k : h27 k = .inr (0, [.ref (k + 1), .ref (k + 2), .ref (k + 3), .int 0, .int 0]) := by rw [e_h27]; exact va_up_eq
  have F_h27__k_1_ : h27 (k + 1) = .inl (1, 256, .inl (fun _ => 0)) := by rw [e_h27, va_up_neq (by omega)]; exact F_h25__k_1_
  have F_h27__k_2_ : h27 (k + 2) = .inl (1, 256, .inl (fun _ => 0)) := by rw [e_h27, va_up_neq (by omega)]; exact F_h25__k_2_
  have F_h27__k_3_ : h27 (k + 3) = .inl (1, 13, .inl (fun _ => 0)) := by rw [e_h27, va_up_neq (by omega)]; exact F_h25__k_3_
  have FR_h27 : ∀ j, j < k → h27 j = h j := fun j hj => by rw [e_h27]; exact (va_up_neq (by omega)).trans (FR_h25 j hj)
  refine WX.ret0 rfl ?_
  exact kk h27 FR_h27 ⟨F_h27_k, F_h27__k_1_, F_h27__k_2_, F_h27__k_3_, trivial⟩
def cKnots (k : Nat) : List aE := [.inr (4, [.ref (k + 1), .ref (k + 2), .ref (k + 3), .ref (k + 4), .ref (k + 5)]), .inl (1, 256, .inl (fun _ => 0)), .inl (1, 256, .inl (fun _ => 0)), .inl (1, 512, .inl (fun _ => 0)), .inl (1, 512, .inl (fun _ => 0)), .inl (1, 512, .inl (fun _ => 0))]
set_option maxRecDepth 20000 in
theorem n_knots {d s : Nat} {h : Nat → aE} {k : Nat} (hbig : k + 7 < aBig) (F_h_k : h k = .inr (4, zX4)) {Ψ : Option Value → aH → Prop} (kk : ∀ h', (∀ j, j < k → h' j = h j) → Cells h' k (cKnots k) → Ψ none (k + 6, s + 2048, h')) : WO (mM (d + 1)) 46 [.ref k] (k + 1, s, h) Ψ := by
  refine WO.of (Nat.le_of_ble_eq_true rfl) ?_
  have FR_h : ∀ j, j < k → h j = h j := fun _ _ => rfl
  show WX (lk tX4_init) (mM (d + 0)) Ψ 0 [(0, .ref k)] [] (k + 1, s, h)
  refine WX.s1 rfl rfl ?_
  refine WX.s1 rfl rfl ?_
  refine WX.s1 rfl rfl ?_
  refine WX.s1 rfl rfl ?_
  refine WX.newaN (N := 256) (z0 := .inl (fun _ => 0)) rfl (by decide) (by decide) (by have := hbig; omega) rfl (fun h8 e_h8 => ?_)
  have F_h8_k : h8 k = .inr (4, [.null, .null, .null, .null, .null]) := by rw [e_h8, va_up_neq (by omega)]; exact F_h_k
  have F_h8__k_1_ : h8 (k + 1) = .inl (1, 256, .inl (fun _ => 0)) := by rw [e_h8]; exact va_up_eq
  have FR_h8 : ∀ j, j < k → h8 j = h j := fun j hj => by rw [e_h8]; exact (va_up_neq (by omega)).trans (FR_h j hj)
  refine WX.put1 (fs := [.null, .null, .null, .null, .null]) (fs' := [.ref (k + 1), .null, .null, .null, .null]) rfl (by omega) (F_h8_k) (Nat.le_of_ble_eq_true rfl) (rfl) rfl (fun h10 e_h10 => ?_)
  have F_h10_k : h10 k = .inr (4, [.ref (k + 1), .null, .null, .null, .null]) := by rw [e_h10]; exact va_up_eq
  have F_h10__k_1_ : h10 (k + 1) = .inl (1, 256, .inl (fun _ => 0)) := by rw [e_h10, va_up_neq (by omega)]; exact F_h8__k_1_
  have FR_h10 : ∀ j, j < k → h10 j = h j := fun j hj => by rw [e_h10]; exact (va_up_neq (by omega)).trans (FR_h8 j hj)
  refine WX.s1 rfl rfl ?_
  refine WX.s1 rfl rfl ?_
  refine WX.newaN (N := 256) (z0 := .inl (fun _ => 0)) rfl (by decide) (by decide) (by have := hbig; omega) rfl (fun h17 e_h17 => ?_)
  have F_h17_k : h17 k = .inr (4, [.ref (k + 1), .null, .null, .null, .null]) := by rw [e_h17, va_up_neq (by omega)]; exact F_h10_k
  have F_h17__k_1_ : h17 (k + 1) = .inl (1, 256, .inl (fun _ => 0)) := by rw [e_h17, va_up_neq (by omega)]; exact F_h10__k_1_
  have F_h17__k_2_ : h17 (k + 2) = .inl (1, 256, .inl (fun _ => 0)) := by rw [e_h17]; exact va_up_eq
  have FR_h17 : ∀ j, j < k → h17 j = h j := fun j hj => by rw [e_h17]; exact (va_up_neq (by omega)).trans (FR_h10 j hj)
  refine WX.put1 (fs := [.ref (k + 1), .null, .null, .null, .null]) (fs' := [.ref (k + 1), .ref (k + 2), .null, .null, .null]) rfl (by omega) (F_h17_k) (Nat.le_of_ble_eq_true rfl) (rfl) rfl (fun h19 e_h19 => ?_)
  have F_h19_k : h19 k = .inr (4, [.ref (k + 1), .ref (k + 2), .null, .null, .null]) := by rw [e_h19]; exact va_up_eq
  have F_h19__k_1_ : h19 (k + 1) = .inl (1, 256, .inl (fun _ => 0)) := by rw [e_h19, va_up_neq (by omega)]; exact F_h17__k_1_
  have F_h19__k_2_ : h19 (k + 2) = .inl (1, 256, .inl (fun _ => 0)) := by rw [e_h19, va_up_neq (by omega)]; exact F_h17__k_2_
  have FR_h19 : ∀ j, j < k → h19 j = h j := fun j hj => by rw [e_h19]; exact (va_up_neq (by omega)).trans (FR_h17 j hj)
  refine WX.s1 rfl rfl ?_
  refine WX.s1 rfl rfl ?_
  refine WX.newaN (N := 512) (z0 := .inl (fun _ => 0)) rfl (by decide) (by decide) (by have := hbig; omega) rfl (fun h26 e_h26 => ?_)
  have F_h26_k : h26 k = .inr (4, [.ref (k + 1), .ref (k + 2), .null, .null, .null]) := by rw [e_h26, va_up_neq (by omega)]; exact F_h19_k
  have F_h26__k_1_ : h26 (k + 1) = .inl (1, 256, .inl (fun _ => 0)) := by rw [e_h26, va_up_neq (by omega)]; exact F_h19__k_1_
  have F_h26__k_2_ : h26 (k + 2) = .inl (1, 256, .inl (fun _ => 0)) := by rw [e_h26, va_up_neq (by omega)]; exact F_h19__k_2_
  have F_h26__k_3_ : h26 (k + 3) = .inl (1, 512, .inl (fun _ => 0)) := by rw [e_h26]; exact va_up_eq
  have FR_h26 : ∀ j, j < k → h26 j = h j := fun j hj => by rw [e_h26]; exact (va_up_neq (by omega)).trans (FR_h19 j hj)
  refine WX.put1 (fs := [.ref (k + 1), .ref (k + 2), .null, .null, .null]) (fs' := [.ref (k + 1), .ref (k + 2), .ref (k + 3), .null, .null]) rfl (by omega) (F_h26_k) (Nat.le_of_ble_eq_true rfl) (rfl) rfl (fun h28 e_h28 => ?_)
  have F_h28_k : h28 k = .inr (4, [.ref (k + 1), .ref (k + 2), .ref (k + 3), .null, .null]) := by rw [e_h28]; exact va_up_eq
  have F_h28__k_1_ : h28 (k + 1) = .inl (1, 256, .inl (fun _ => 0)) := by rw [e_h28, va_up_neq (by omega)]; exact F_h26__k_1_
  have F_h28__k_2_ : h28 (k + 2) = .inl (1, 256, .inl (fun _ => 0)) := by rw [e_h28, va_up_neq (by omega)]; exact F_h26__k_2_
  have F_h28__k_3_ : h28 (k + 3) = .inl (1, 512, .inl (fun _ => 0)) := by rw [e_h28, va_up_neq (by omega)]; exact F_h26__k_3_
  have FR_h28 : ∀ j, j < k → h28 j = h j := fun j hj => by rw [e_h28]; exact (va_up_neq (by omega)).trans (FR_h26 j hj)
  refine WX.s1 rfl rfl ?_
  refine WX.s1 rfl rfl ?_
  refine WX.newaN (N := 512) (z0 := .inl (fun _ => 0)) rfl (by decide) (by decide) (by have := hbig; omega) rfl (fun h35 e_h35 => ?_)
  have F_h35_k : h35 k = .inr (4, [.ref (k + 1), .ref (k + 2), .ref (k + 3), .null, .null]) := by rw [e_h35, va_up_neq (by omega)]; exact F_h28_k
  have F_h35__k_1_ : h35 (k + 1) = .inl (1, 256, .inl (fun _ => 0)) := by rw [e_h35, va_up_neq (by omega)]; exact F_h28__k_1_
  have F_h35__k_2_ : h35 (k + 2) = .inl (1, 256, .inl (fun _ => 0)) := by rw [e_h35, va_up_neq (by omega)]; exact F_h28__k_2_
  have F_h35__k_3_ : h35 (k + 3) = .inl (1, 512, .inl (fun _ => 0)) := by rw [e_h35, va_up_neq (by omega)]; exact F_h28__k_3_
  have F_h35__k_4_ : h35 (k + 4) = .inl (1, 512, .inl (fun _ => 0)) := by rw [e_h35]; exact va_up_eq
  have FR_h35 : ∀ j, j < k → h35 j = h j := fun j hj => by rw [e_h35]; exact (va_up_neq (by omega)).trans (FR_h28 j hj)
  refine WX.put1 (fs := [.ref (k + 1), .ref (k + 2), .ref (k + 3), .null, .null]) (fs' := [.ref (k + 1), .ref (k + 2), .ref (k + 3), .ref (k + 4), .null]) rfl (by omega) (F_h35_k) (Nat.le_of_ble_eq_true rfl) (rfl) rfl (fun h37 e_h37 => ?_)
  have F_h37_k : h37 k = .inr (4, [.ref (k + 1), .ref (k + 2), .ref (k + 3), .ref (k + 4), .null]) := by rw [e_h37]; exact va_up_eq
  have F_h37__k_1_ : h37 (k + 1) = .inl (1, 256, .inl (fun _ => 0)) := by rw [e_h37, va_up_neq (by omega)]; exact F_h35__k_1_
  have F_h37__k_2_ : h37 (k + 2) = .inl (1, 256, .inl (fun _ => 0)) := by rw [e_h37, va_up_neq (by omega)]; exact F_h35__k_2_
  have F_h37__k_3_ : h37 (k + 3) = .inl (1, 512, .inl (fun _ => 0)) := by rw [e_h37, va_up_neq (by omega)]; exact F_h35__k_3_
  have F_h37__k_4_ : h37 (k + 4) = .inl (1, 512, .inl (fun _ => 0)) := by rw [e_h37, va_up_neq (by omega)]; exact F_h35__k_4_
  have FR_h37 : ∀ j, j < k → h37 j = h j := fun j hj => by rw [e_h37]; exact (va_up_neq (by omega)).trans (FR_h35 j hj)
  refine WX.s1 rfl rfl ?_
  refine WX.s1 rfl rfl ?_
  refine WX.newaN (N := 512) (z0 := .inl (fun _ => 0)) rfl (by decide) (by decide) (by have := hbig; omega) rfl (fun h44 e_h44 => ?_)
  have F_h44_k : h44 k = .inr (4, [.ref (k + 1), .ref (k + 2), .ref (k + 3), .ref (k + 4), .null]) := by rw [e_h44, va_up_neq (by omega)]; exact F_h37_k
  have F_h44__k_1_ : h44 (k + 1) = .inl (1, 256, .inl (fun _ => 0)) := by rw [e_h44, va_up_neq (by omega)]; exact F_h37__k_1_
  have F_h44__k_2_ : h44 (k + 2) = .inl (1, 256, .inl (fun _ => 0)) := by rw [e_h44, va_up_neq (by omega)]; exact F_h37__k_2_
  have F_h44__k_3_ : h44 (k + 3) = .inl (1, 512, .inl (fun _ => 0)) := by rw [e_h44, va_up_neq (by omega)]; exact F_h37__k_3_
  have F_h44__k_4_ : h44 (k + 4) = .inl (1, 512, .inl (fun _ => 0)) := by rw [e_h44, va_up_neq (by omega)]; exact F_h37__k_4_
  have F_h44__k_5_ : h44 (k + 5) = .inl (1, 512, .inl (fun _ => 0)) := by rw [e_h44]; exact va_up_eq
  have FR_h44 : ∀ j, j < k → h44 j = h j := fun j hj => by rw [e_h44]; exact (va_up_neq (by omega)).trans (FR_h37 j hj)
  refine WX.put1 (fs := [.ref (k + 1), .ref (k + 2), .ref (k + 3), .ref (k + 4), .null]) (fs' := [.ref (k + 1), .ref (k + 2), .ref (k + 3), .ref (k + 4), .ref (k + 5)]) rfl (by omega) (F_h44_k) (Nat.le_of_ble_eq_true rfl) (rfl) rfl (fun h46 e_h46 => ?_)
  have F_h46_k : h46 k = .inr (4, [.ref (k + 1), .ref (k + 2), .ref (k + 3), .ref (k + 4), .ref (k + 5)]) := by rw [e_h46]; exact va_up_eq
  have F_h46__k_1_ : h46 (k + 1) = .inl (1, 256, .inl (fun _ => 0)) := by rw [e_h46, va_up_neq (by omega)]; exact F_h44__k_1_
  have F_h46__k_2_ : h46 (k + 2) = .inl (1, 256, .inl (fun _ => 0)) := by rw [e_h46, va_up_neq (by omega)]; exact F_h44__k_2_
  have F_h46__k_3_ : h46 (k + 3) = .inl (1, 512, .inl (fun _ => 0)) := by rw [e_h46, va_up_neq (by omega)]; exact F_h44__k_3_
  have F_h46__k_4_ : h46 (k + 4) = .inl (1, 512, .inl (fun _ => 0)) := by rw [e_h46, va_up_neq (by omega)]; exact F_h44__k_4_
  have F_h46__k_5_ : h46 (k + 5) = .inl (1, 512, .inl (fun _ => 0)) := by rw [e_h46, va_up_neq (by omega)]; exact F_h44__k_5_
  have FR_h46 : ∀ j, j < k → h46 j = h j := fun j hj => by rw [e_h46]; exact (va_up_neq (by omega)).trans (FR_h44 j hj)
  refine WX.ret0 rfl ?_
  exact kk h46 FR_h46 ⟨F_h46_k, F_h46__k_1_, F_h46__k_2_, F_h46__k_3_, F_h46__k_4_, F_h46__k_5_, trivial⟩
def cFinder (k : Nat) : List aE := [.inr (3, [.ref (k + 1), .int 0, .ref (k + 2), .ref (k + 3), .int 0, .int 0, .int 0, .int 0, .int 0, .int 0, .int 0, .int 0, .int 0]), .inl (0, 16000, .inl (fun _ => 0)), .inl (1, 16000, .inl (fun _ => 0)), .inl (1, 4096, .inl (fun _ => 0))]
set_option maxRecDepth 20000 in
theorem n_finder {d s : Nat} {h : Nat → aE} {k : Nat} (hbig : k + 5 < aBig) (F_h_k : h k = .inr (3, zX3)) {Ψ : Option Value → aH → Prop} (kk : ∀ h', (∀ j, j < k → h' j = h j) → Cells h' k (cFinder k) → Ψ none (k + 4, s + 36096, h')) : WO (mM (d + 1)) 33 [.ref k] (k + 1, s, h) Ψ := by
  refine WO.of (Nat.le_of_ble_eq_true rfl) ?_
  have FR_h : ∀ j, j < k → h j = h j := fun _ _ => rfl
  show WX (lk tX3_init) (mM (d + 0)) Ψ 0 [(0, .ref k)] [] (k + 1, s, h)
  refine WX.s1 rfl rfl ?_
  refine WX.s1 rfl rfl ?_
  refine WX.s1 rfl rfl ?_
  refine WX.s1 rfl rfl ?_
  refine WX.newaN (N := 16000) (z0 := .inl (fun _ => 0)) rfl (by decide) (by decide) (by have := hbig; omega) rfl (fun h8 e_h8 => ?_)
  have F_h8_k : h8 k = .inr (3, [.null, .int 0, .null, .null, .int 0, .int 0, .int 0, .int 0, .int 0, .int 0, .int 0, .int 0, .int 0]) := by rw [e_h8, va_up_neq (by omega)]; exact F_h_k
  have F_h8__k_1_ : h8 (k + 1) = .inl (0, 16000, .inl (fun _ => 0)) := by rw [e_h8]; exact va_up_eq
  have FR_h8 : ∀ j, j < k → h8 j = h j := fun j hj => by rw [e_h8]; exact (va_up_neq (by omega)).trans (FR_h j hj)
  refine WX.put1 (fs := [.null, .int 0, .null, .null, .int 0, .int 0, .int 0, .int 0, .int 0, .int 0, .int 0, .int 0, .int 0]) (fs' := [.ref (k + 1), .int 0, .null, .null, .int 0, .int 0, .int 0, .int 0, .int 0, .int 0, .int 0, .int 0, .int 0]) rfl (by omega) (F_h8_k) (Nat.le_of_ble_eq_true rfl) (rfl) rfl (fun h10 e_h10 => ?_)
  have F_h10_k : h10 k = .inr (3, [.ref (k + 1), .int 0, .null, .null, .int 0, .int 0, .int 0, .int 0, .int 0, .int 0, .int 0, .int 0, .int 0]) := by rw [e_h10]; exact va_up_eq
  have F_h10__k_1_ : h10 (k + 1) = .inl (0, 16000, .inl (fun _ => 0)) := by rw [e_h10, va_up_neq (by omega)]; exact F_h8__k_1_
  have FR_h10 : ∀ j, j < k → h10 j = h j := fun j hj => by rw [e_h10]; exact (va_up_neq (by omega)).trans (FR_h8 j hj)
  refine WX.s1 rfl rfl ?_
  refine WX.s1 rfl rfl ?_
  refine WX.newaN (N := 16000) (z0 := .inl (fun _ => 0)) rfl (by decide) (by decide) (by have := hbig; omega) rfl (fun h17 e_h17 => ?_)
  have F_h17_k : h17 k = .inr (3, [.ref (k + 1), .int 0, .null, .null, .int 0, .int 0, .int 0, .int 0, .int 0, .int 0, .int 0, .int 0, .int 0]) := by rw [e_h17, va_up_neq (by omega)]; exact F_h10_k
  have F_h17__k_1_ : h17 (k + 1) = .inl (0, 16000, .inl (fun _ => 0)) := by rw [e_h17, va_up_neq (by omega)]; exact F_h10__k_1_
  have F_h17__k_2_ : h17 (k + 2) = .inl (1, 16000, .inl (fun _ => 0)) := by rw [e_h17]; exact va_up_eq
  have FR_h17 : ∀ j, j < k → h17 j = h j := fun j hj => by rw [e_h17]; exact (va_up_neq (by omega)).trans (FR_h10 j hj)
  refine WX.put1 (fs := [.ref (k + 1), .int 0, .null, .null, .int 0, .int 0, .int 0, .int 0, .int 0, .int 0, .int 0, .int 0, .int 0]) (fs' := [.ref (k + 1), .int 0, .ref (k + 2), .null, .int 0, .int 0, .int 0, .int 0, .int 0, .int 0, .int 0, .int 0, .int 0]) rfl (by omega) (F_h17_k) (Nat.le_of_ble_eq_true rfl) (rfl) rfl (fun h19 e_h19 => ?_)
  have F_h19_k : h19 k = .inr (3, [.ref (k + 1), .int 0, .ref (k + 2), .null, .int 0, .int 0, .int 0, .int 0, .int 0, .int 0, .int 0, .int 0, .int 0]) := by rw [e_h19]; exact va_up_eq
  have F_h19__k_1_ : h19 (k + 1) = .inl (0, 16000, .inl (fun _ => 0)) := by rw [e_h19, va_up_neq (by omega)]; exact F_h17__k_1_
  have F_h19__k_2_ : h19 (k + 2) = .inl (1, 16000, .inl (fun _ => 0)) := by rw [e_h19, va_up_neq (by omega)]; exact F_h17__k_2_
  have FR_h19 : ∀ j, j < k → h19 j = h j := fun j hj => by rw [e_h19]; exact (va_up_neq (by omega)).trans (FR_h17 j hj)
  refine WX.s1 rfl rfl ?_
  refine WX.s1 rfl rfl ?_
  refine WX.newaN (N := 4096) (z0 := .inl (fun _ => 0)) rfl (by decide) (by decide) (by have := hbig; omega) rfl (fun h26 e_h26 => ?_)
  have F_h26_k : h26 k = .inr (3, [.ref (k + 1), .int 0, .ref (k + 2), .null, .int 0, .int 0, .int 0, .int 0, .int 0, .int 0, .int 0, .int 0, .int 0]) := by rw [e_h26, va_up_neq (by omega)]; exact F_h19_k
  have F_h26__k_1_ : h26 (k + 1) = .inl (0, 16000, .inl (fun _ => 0)) := by rw [e_h26, va_up_neq (by omega)]; exact F_h19__k_1_
  have F_h26__k_2_ : h26 (k + 2) = .inl (1, 16000, .inl (fun _ => 0)) := by rw [e_h26, va_up_neq (by omega)]; exact F_h19__k_2_
  have F_h26__k_3_ : h26 (k + 3) = .inl (1, 4096, .inl (fun _ => 0)) := by rw [e_h26]; exact va_up_eq
  have FR_h26 : ∀ j, j < k → h26 j = h j := fun j hj => by rw [e_h26]; exact (va_up_neq (by omega)).trans (FR_h19 j hj)
  refine WX.put1 (fs := [.ref (k + 1), .int 0, .ref (k + 2), .null, .int 0, .int 0, .int 0, .int 0, .int 0, .int 0, .int 0, .int 0, .int 0]) (fs' := [.ref (k + 1), .int 0, .ref (k + 2), .ref (k + 3), .int 0, .int 0, .int 0, .int 0, .int 0, .int 0, .int 0, .int 0, .int 0]) rfl (by omega) (F_h26_k) (Nat.le_of_ble_eq_true rfl) (rfl) rfl (fun h28 e_h28 => ?_)
  have F_h28_k : h28 k = .inr (3, [.ref (k + 1), .int 0, .ref (k + 2), .ref (k + 3), .int 0, .int 0, .int 0, .int 0, .int 0, .int 0, .int 0, .int 0, .int 0]) := by rw [e_h28]; exact va_up_eq
  have F_h28__k_1_ : h28 (k + 1) = .inl (0, 16000, .inl (fun _ => 0)) := by rw [e_h28, va_up_neq (by omega)]; exact F_h26__k_1_
  have F_h28__k_2_ : h28 (k + 2) = .inl (1, 16000, .inl (fun _ => 0)) := by rw [e_h28, va_up_neq (by omega)]; exact F_h26__k_2_
  have F_h28__k_3_ : h28 (k + 3) = .inl (1, 4096, .inl (fun _ => 0)) := by rw [e_h28, va_up_neq (by omega)]; exact F_h26__k_3_
  have FR_h28 : ∀ j, j < k → h28 j = h j := fun j hj => by rw [e_h28]; exact (va_up_neq (by omega)).trans (FR_h26 j hj)
  refine WX.ret0 rfl ?_
  exact kk h28 FR_h28 ⟨F_h28_k, F_h28__k_1_, F_h28__k_2_, F_h28__k_3_, trivial⟩
def cShare_11_6 (k : Nat) : List aE := [.inr (8, [.int 11, .ref (k + 1), .ref (k + 2), .ref (k + 3), .ref (k + 4), .ref (k + 5), .ref (k + 6), .int 0, .int 0]), .inl (1, 12, .inl (fun _ => 0)), .inl (1, 12, .inl (fun _ => 0)), .inl (1, 12, .inl (fun _ => 0)), .inl (1, 12, .inl (fun _ => 0)), .inl (1, 64, .inl (fun _ => 0)), .inl (1, 64, .inl (fun _ => 0))]
set_option maxRecDepth 20000 in
theorem n_share_11_6 {d s : Nat} {h : Nat → aE} {k : Nat} (hbig : k + 8 < aBig) (F_h_k : h k = .inr (8, zX8)) {Ψ : Option Value → aH → Prop} (kk : ∀ h', (∀ j, j < k → h' j = h j) → Cells h' k (cShare_11_6 k) → Ψ none (k + 7, s + 176, h')) : WO (mM (d + 1)) 97 [.ref k, .int 11, .int 6] (k + 1, s, h) Ψ := by
  refine WO.of (Nat.le_of_ble_eq_true rfl) ?_
  have FR_h : ∀ j, j < k → h j = h j := fun _ _ => rfl
  show WX (lk tX8_init) (mM (d + 0)) Ψ 0 [(0, .ref k), (1, .int 11), (2, .int 6)] [] (k + 1, s, h)
  refine WX.s1 rfl rfl ?_
  refine WX.s1 rfl rfl ?_
  refine WX.s1 rfl rfl ?_
  refine WX.s1 rfl rfl ?_
  refine WX.s1 rfl rfl ?_
  refine WX.s1 rfl rfl ?_
  refine WX.putNI (fs := [.int 0, .null, .null, .null, .null, .null, .null, .int 0, .int 0]) (fs' := fun f10 => [.int f10, .null, .null, .null, .null, .null, .null, .int 0, .int 0]) rfl (by omega) (F_h_k) (Nat.le_of_ble_eq_true rfl) (fun _ => rfl) (fun f10 h10 e_f10 e_h10 => ?_)
  try dsimp only at e_f10
  have F_h10_k : h10 k = .inr (8, [.int f10, .null, .null, .null, .null, .null, .null, .int 0, .int 0]) := by rw [e_h10]; exact va_up_eq
  have FR_h10 : ∀ j, j < k → h10 j = h j := fun j hj => by rw [e_h10]; exact (va_up_neq (by omega)).trans (FR_h j hj)
  obtain rfl : f10 = 11 := by rw [e_f10]; decide
  refine WX.s1 rfl rfl ?_
  refine WX.s1 rfl rfl ?_
  refine WX.get1 (fs := [.int 11, .null, .null, .null, .null, .null, .null, .int 0, .int 0]) rfl (by omega) (F_h10_k) rfl ?_
  refine WX.s1 rfl rfl ?_
  refine WX.s1 rfl rfl ?_
  refine WX.newaN (N := 12) (z0 := .inl (fun _ => 0)) rfl (by decide) (by decide) (by have := hbig; omega) rfl (fun h20 e_h20 => ?_)
  have F_h20_k : h20 k = .inr (8, [.int 11, .null, .null, .null, .null, .null, .null, .int 0, .int 0]) := by rw [e_h20, va_up_neq (by omega)]; exact F_h10_k
  have F_h20__k_1_ : h20 (k + 1) = .inl (1, 12, .inl (fun _ => 0)) := by rw [e_h20]; exact va_up_eq
  have FR_h20 : ∀ j, j < k → h20 j = h j := fun j hj => by rw [e_h20]; exact (va_up_neq (by omega)).trans (FR_h10 j hj)
  refine WX.put1 (fs := [.int 11, .null, .null, .null, .null, .null, .null, .int 0, .int 0]) (fs' := [.int 11, .ref (k + 1), .null, .null, .null, .null, .null, .int 0, .int 0]) rfl (by omega) (F_h20_k) (Nat.le_of_ble_eq_true rfl) (rfl) rfl (fun h22 e_h22 => ?_)
  have F_h22_k : h22 k = .inr (8, [.int 11, .ref (k + 1), .null, .null, .null, .null, .null, .int 0, .int 0]) := by rw [e_h22]; exact va_up_eq
  have F_h22__k_1_ : h22 (k + 1) = .inl (1, 12, .inl (fun _ => 0)) := by rw [e_h22, va_up_neq (by omega)]; exact F_h20__k_1_
  have FR_h22 : ∀ j, j < k → h22 j = h j := fun j hj => by rw [e_h22]; exact (va_up_neq (by omega)).trans (FR_h20 j hj)
  refine WX.s1 rfl rfl ?_
  refine WX.s1 rfl rfl ?_
  refine WX.get1 (fs := [.int 11, .ref (k + 1), .null, .null, .null, .null, .null, .int 0, .int 0]) rfl (by omega) (F_h22_k) rfl ?_
  refine WX.s1 rfl rfl ?_
  refine WX.s1 rfl rfl ?_
  refine WX.newaN (N := 12) (z0 := .inl (fun _ => 0)) rfl (by decide) (by decide) (by have := hbig; omega) rfl (fun h32 e_h32 => ?_)
  have F_h32_k : h32 k = .inr (8, [.int 11, .ref (k + 1), .null, .null, .null, .null, .null, .int 0, .int 0]) := by rw [e_h32, va_up_neq (by omega)]; exact F_h22_k
  have F_h32__k_1_ : h32 (k + 1) = .inl (1, 12, .inl (fun _ => 0)) := by rw [e_h32, va_up_neq (by omega)]; exact F_h22__k_1_
  have F_h32__k_2_ : h32 (k + 2) = .inl (1, 12, .inl (fun _ => 0)) := by rw [e_h32]; exact va_up_eq
  have FR_h32 : ∀ j, j < k → h32 j = h j := fun j hj => by rw [e_h32]; exact (va_up_neq (by omega)).trans (FR_h22 j hj)
  refine WX.put1 (fs := [.int 11, .ref (k + 1), .null, .null, .null, .null, .null, .int 0, .int 0]) (fs' := [.int 11, .ref (k + 1), .ref (k + 2), .null, .null, .null, .null, .int 0, .int 0]) rfl (by omega) (F_h32_k) (Nat.le_of_ble_eq_true rfl) (rfl) rfl (fun h34 e_h34 => ?_)
  have F_h34_k : h34 k = .inr (8, [.int 11, .ref (k + 1), .ref (k + 2), .null, .null, .null, .null, .int 0, .int 0]) := by rw [e_h34]; exact va_up_eq
  have F_h34__k_1_ : h34 (k + 1) = .inl (1, 12, .inl (fun _ => 0)) := by rw [e_h34, va_up_neq (by omega)]; exact F_h32__k_1_
  have F_h34__k_2_ : h34 (k + 2) = .inl (1, 12, .inl (fun _ => 0)) := by rw [e_h34, va_up_neq (by omega)]; exact F_h32__k_2_
  have FR_h34 : ∀ j, j < k → h34 j = h j := fun j hj => by rw [e_h34]; exact (va_up_neq (by omega)).trans (FR_h32 j hj)
  refine WX.s1 rfl rfl ?_
  refine WX.s1 rfl rfl ?_
  refine WX.get1 (fs := [.int 11, .ref (k + 1), .ref (k + 2), .null, .null, .null, .null, .int 0, .int 0]) rfl (by omega) (F_h34_k) rfl ?_
  refine WX.s1 rfl rfl ?_
  refine WX.s1 rfl rfl ?_
  refine WX.newaN (N := 12) (z0 := .inl (fun _ => 0)) rfl (by decide) (by decide) (by have := hbig; omega) rfl (fun h44 e_h44 => ?_)
  have F_h44_k : h44 k = .inr (8, [.int 11, .ref (k + 1), .ref (k + 2), .null, .null, .null, .null, .int 0, .int 0]) := by rw [e_h44, va_up_neq (by omega)]; exact F_h34_k
  have F_h44__k_1_ : h44 (k + 1) = .inl (1, 12, .inl (fun _ => 0)) := by rw [e_h44, va_up_neq (by omega)]; exact F_h34__k_1_
  have F_h44__k_2_ : h44 (k + 2) = .inl (1, 12, .inl (fun _ => 0)) := by rw [e_h44, va_up_neq (by omega)]; exact F_h34__k_2_
  have F_h44__k_3_ : h44 (k + 3) = .inl (1, 12, .inl (fun _ => 0)) := by rw [e_h44]; exact va_up_eq
  have FR_h44 : ∀ j, j < k → h44 j = h j := fun j hj => by rw [e_h44]; exact (va_up_neq (by omega)).trans (FR_h34 j hj)
  refine WX.put1 (fs := [.int 11, .ref (k + 1), .ref (k + 2), .null, .null, .null, .null, .int 0, .int 0]) (fs' := [.int 11, .ref (k + 1), .ref (k + 2), .ref (k + 3), .null, .null, .null, .int 0, .int 0]) rfl (by omega) (F_h44_k) (Nat.le_of_ble_eq_true rfl) (rfl) rfl (fun h46 e_h46 => ?_)
  have F_h46_k : h46 k = .inr (8, [.int 11, .ref (k + 1), .ref (k + 2), .ref (k + 3), .null, .null, .null, .int 0, .int 0]) := by rw [e_h46]; exact va_up_eq
  have F_h46__k_1_ : h46 (k + 1) = .inl (1, 12, .inl (fun _ => 0)) := by rw [e_h46, va_up_neq (by omega)]; exact F_h44__k_1_
  have F_h46__k_2_ : h46 (k + 2) = .inl (1, 12, .inl (fun _ => 0)) := by rw [e_h46, va_up_neq (by omega)]; exact F_h44__k_2_
  have F_h46__k_3_ : h46 (k + 3) = .inl (1, 12, .inl (fun _ => 0)) := by rw [e_h46, va_up_neq (by omega)]; exact F_h44__k_3_
  have FR_h46 : ∀ j, j < k → h46 j = h j := fun j hj => by rw [e_h46]; exact (va_up_neq (by omega)).trans (FR_h44 j hj)
  refine WX.s1 rfl rfl ?_
  refine WX.s1 rfl rfl ?_
  refine WX.get1 (fs := [.int 11, .ref (k + 1), .ref (k + 2), .ref (k + 3), .null, .null, .null, .int 0, .int 0]) rfl (by omega) (F_h46_k) rfl ?_
  refine WX.s1 rfl rfl ?_
  refine WX.s1 rfl rfl ?_
  refine WX.newaN (N := 12) (z0 := .inl (fun _ => 0)) rfl (by decide) (by decide) (by have := hbig; omega) rfl (fun h56 e_h56 => ?_)
  have F_h56_k : h56 k = .inr (8, [.int 11, .ref (k + 1), .ref (k + 2), .ref (k + 3), .null, .null, .null, .int 0, .int 0]) := by rw [e_h56, va_up_neq (by omega)]; exact F_h46_k
  have F_h56__k_1_ : h56 (k + 1) = .inl (1, 12, .inl (fun _ => 0)) := by rw [e_h56, va_up_neq (by omega)]; exact F_h46__k_1_
  have F_h56__k_2_ : h56 (k + 2) = .inl (1, 12, .inl (fun _ => 0)) := by rw [e_h56, va_up_neq (by omega)]; exact F_h46__k_2_
  have F_h56__k_3_ : h56 (k + 3) = .inl (1, 12, .inl (fun _ => 0)) := by rw [e_h56, va_up_neq (by omega)]; exact F_h46__k_3_
  have F_h56__k_4_ : h56 (k + 4) = .inl (1, 12, .inl (fun _ => 0)) := by rw [e_h56]; exact va_up_eq
  have FR_h56 : ∀ j, j < k → h56 j = h j := fun j hj => by rw [e_h56]; exact (va_up_neq (by omega)).trans (FR_h46 j hj)
  refine WX.put1 (fs := [.int 11, .ref (k + 1), .ref (k + 2), .ref (k + 3), .null, .null, .null, .int 0, .int 0]) (fs' := [.int 11, .ref (k + 1), .ref (k + 2), .ref (k + 3), .ref (k + 4), .null, .null, .int 0, .int 0]) rfl (by omega) (F_h56_k) (Nat.le_of_ble_eq_true rfl) (rfl) rfl (fun h58 e_h58 => ?_)
  have F_h58_k : h58 k = .inr (8, [.int 11, .ref (k + 1), .ref (k + 2), .ref (k + 3), .ref (k + 4), .null, .null, .int 0, .int 0]) := by rw [e_h58]; exact va_up_eq
  have F_h58__k_1_ : h58 (k + 1) = .inl (1, 12, .inl (fun _ => 0)) := by rw [e_h58, va_up_neq (by omega)]; exact F_h56__k_1_
  have F_h58__k_2_ : h58 (k + 2) = .inl (1, 12, .inl (fun _ => 0)) := by rw [e_h58, va_up_neq (by omega)]; exact F_h56__k_2_
  have F_h58__k_3_ : h58 (k + 3) = .inl (1, 12, .inl (fun _ => 0)) := by rw [e_h58, va_up_neq (by omega)]; exact F_h56__k_3_
  have F_h58__k_4_ : h58 (k + 4) = .inl (1, 12, .inl (fun _ => 0)) := by rw [e_h58, va_up_neq (by omega)]; exact F_h56__k_4_
  have FR_h58 : ∀ j, j < k → h58 j = h j := fun j hj => by rw [e_h58]; exact (va_up_neq (by omega)).trans (FR_h56 j hj)
  refine WX.s1 rfl rfl ?_
  refine WX.s1 rfl rfl ?_
  refine WX.s1 rfl rfl ?_
  refine WX.s1 rfl rfl ?_
  refine WX.newaN (N := 64) (z0 := .inl (fun _ => 0)) rfl (by decide) (by decide) (by have := hbig; omega) rfl (fun h65 e_h65 => ?_)
  have F_h65_k : h65 k = .inr (8, [.int 11, .ref (k + 1), .ref (k + 2), .ref (k + 3), .ref (k + 4), .null, .null, .int 0, .int 0]) := by rw [e_h65, va_up_neq (by omega)]; exact F_h58_k
  have F_h65__k_1_ : h65 (k + 1) = .inl (1, 12, .inl (fun _ => 0)) := by rw [e_h65, va_up_neq (by omega)]; exact F_h58__k_1_
  have F_h65__k_2_ : h65 (k + 2) = .inl (1, 12, .inl (fun _ => 0)) := by rw [e_h65, va_up_neq (by omega)]; exact F_h58__k_2_
  have F_h65__k_3_ : h65 (k + 3) = .inl (1, 12, .inl (fun _ => 0)) := by rw [e_h65, va_up_neq (by omega)]; exact F_h58__k_3_
  have F_h65__k_4_ : h65 (k + 4) = .inl (1, 12, .inl (fun _ => 0)) := by rw [e_h65, va_up_neq (by omega)]; exact F_h58__k_4_
  have F_h65__k_5_ : h65 (k + 5) = .inl (1, 64, .inl (fun _ => 0)) := by rw [e_h65]; exact va_up_eq
  have FR_h65 : ∀ j, j < k → h65 j = h j := fun j hj => by rw [e_h65]; exact (va_up_neq (by omega)).trans (FR_h58 j hj)
  refine WX.put1 (fs := [.int 11, .ref (k + 1), .ref (k + 2), .ref (k + 3), .ref (k + 4), .null, .null, .int 0, .int 0]) (fs' := [.int 11, .ref (k + 1), .ref (k + 2), .ref (k + 3), .ref (k + 4), .ref (k + 5), .null, .int 0, .int 0]) rfl (by omega) (F_h65_k) (Nat.le_of_ble_eq_true rfl) (rfl) rfl (fun h67 e_h67 => ?_)
  have F_h67_k : h67 k = .inr (8, [.int 11, .ref (k + 1), .ref (k + 2), .ref (k + 3), .ref (k + 4), .ref (k + 5), .null, .int 0, .int 0]) := by rw [e_h67]; exact va_up_eq
  have F_h67__k_1_ : h67 (k + 1) = .inl (1, 12, .inl (fun _ => 0)) := by rw [e_h67, va_up_neq (by omega)]; exact F_h65__k_1_
  have F_h67__k_2_ : h67 (k + 2) = .inl (1, 12, .inl (fun _ => 0)) := by rw [e_h67, va_up_neq (by omega)]; exact F_h65__k_2_
  have F_h67__k_3_ : h67 (k + 3) = .inl (1, 12, .inl (fun _ => 0)) := by rw [e_h67, va_up_neq (by omega)]; exact F_h65__k_3_
  have F_h67__k_4_ : h67 (k + 4) = .inl (1, 12, .inl (fun _ => 0)) := by rw [e_h67, va_up_neq (by omega)]; exact F_h65__k_4_
  have F_h67__k_5_ : h67 (k + 5) = .inl (1, 64, .inl (fun _ => 0)) := by rw [e_h67, va_up_neq (by omega)]; exact F_h65__k_5_
  have FR_h67 : ∀ j, j < k → h67 j = h j := fun j hj => by rw [e_h67]; exact (va_up_neq (by omega)).trans (FR_h65 j hj)
  refine WX.s1 rfl rfl ?_
  refine WX.s1 rfl rfl ?_
  refine WX.s1 rfl rfl ?_
  refine WX.s1 rfl rfl ?_
  refine WX.newaN (N := 64) (z0 := .inl (fun _ => 0)) rfl (by decide) (by decide) (by have := hbig; omega) rfl (fun h74 e_h74 => ?_)
  have F_h74_k : h74 k = .inr (8, [.int 11, .ref (k + 1), .ref (k + 2), .ref (k + 3), .ref (k + 4), .ref (k + 5), .null, .int 0, .int 0]) := by rw [e_h74, va_up_neq (by omega)]; exact F_h67_k
  have F_h74__k_1_ : h74 (k + 1) = .inl (1, 12, .inl (fun _ => 0)) := by rw [e_h74, va_up_neq (by omega)]; exact F_h67__k_1_
  have F_h74__k_2_ : h74 (k + 2) = .inl (1, 12, .inl (fun _ => 0)) := by rw [e_h74, va_up_neq (by omega)]; exact F_h67__k_2_
  have F_h74__k_3_ : h74 (k + 3) = .inl (1, 12, .inl (fun _ => 0)) := by rw [e_h74, va_up_neq (by omega)]; exact F_h67__k_3_
  have F_h74__k_4_ : h74 (k + 4) = .inl (1, 12, .inl (fun _ => 0)) := by rw [e_h74, va_up_neq (by omega)]; exact F_h67__k_4_
  have F_h74__k_5_ : h74 (k + 5) = .inl (1, 64, .inl (fun _ => 0)) := by rw [e_h74, va_up_neq (by omega)]; exact F_h67__k_5_
  have F_h74__k_6_ : h74 (k + 6) = .inl (1, 64, .inl (fun _ => 0)) := by rw [e_h74]; exact va_up_eq
  have FR_h74 : ∀ j, j < k → h74 j = h j := fun j hj => by rw [e_h74]; exact (va_up_neq (by omega)).trans (FR_h67 j hj)
  refine WX.put1 (fs := [.int 11, .ref (k + 1), .ref (k + 2), .ref (k + 3), .ref (k + 4), .ref (k + 5), .null, .int 0, .int 0]) (fs' := [.int 11, .ref (k + 1), .ref (k + 2), .ref (k + 3), .ref (k + 4), .ref (k + 5), .ref (k + 6), .int 0, .int 0]) rfl (by omega) (F_h74_k) (Nat.le_of_ble_eq_true rfl) (rfl) rfl (fun h76 e_h76 => ?_)
  have F_h76_k : h76 k = .inr (8, [.int 11, .ref (k + 1), .ref (k + 2), .ref (k + 3), .ref (k + 4), .ref (k + 5), .ref (k + 6), .int 0, .int 0]) := by rw [e_h76]; exact va_up_eq
  have F_h76__k_1_ : h76 (k + 1) = .inl (1, 12, .inl (fun _ => 0)) := by rw [e_h76, va_up_neq (by omega)]; exact F_h74__k_1_
  have F_h76__k_2_ : h76 (k + 2) = .inl (1, 12, .inl (fun _ => 0)) := by rw [e_h76, va_up_neq (by omega)]; exact F_h74__k_2_
  have F_h76__k_3_ : h76 (k + 3) = .inl (1, 12, .inl (fun _ => 0)) := by rw [e_h76, va_up_neq (by omega)]; exact F_h74__k_3_
  have F_h76__k_4_ : h76 (k + 4) = .inl (1, 12, .inl (fun _ => 0)) := by rw [e_h76, va_up_neq (by omega)]; exact F_h74__k_4_
  have F_h76__k_5_ : h76 (k + 5) = .inl (1, 64, .inl (fun _ => 0)) := by rw [e_h76, va_up_neq (by omega)]; exact F_h74__k_5_
  have F_h76__k_6_ : h76 (k + 6) = .inl (1, 64, .inl (fun _ => 0)) := by rw [e_h76, va_up_neq (by omega)]; exact F_h74__k_6_
  have FR_h76 : ∀ j, j < k → h76 j = h j := fun j hj => by rw [e_h76]; exact (va_up_neq (by omega)).trans (FR_h74 j hj)
  refine WX.ret0 rfl ?_
  exact kk h76 FR_h76 ⟨F_h76_k, F_h76__k_1_, F_h76__k_2_, F_h76__k_3_, F_h76__k_4_, F_h76__k_5_, F_h76__k_6_, trivial⟩
def cShare_35_9 (k : Nat) : List aE := [.inr (8, [.int 35, .ref (k + 1), .ref (k + 2), .ref (k + 3), .ref (k + 4), .ref (k + 5), .ref (k + 6), .int 0, .int 0]), .inl (1, 36, .inl (fun _ => 0)), .inl (1, 36, .inl (fun _ => 0)), .inl (1, 36, .inl (fun _ => 0)), .inl (1, 36, .inl (fun _ => 0)), .inl (1, 512, .inl (fun _ => 0)), .inl (1, 512, .inl (fun _ => 0))]
set_option maxRecDepth 20000 in
theorem n_share_35_9 {d s : Nat} {h : Nat → aE} {k : Nat} (hbig : k + 8 < aBig) (F_h_k : h k = .inr (8, zX8)) {Ψ : Option Value → aH → Prop} (kk : ∀ h', (∀ j, j < k → h' j = h j) → Cells h' k (cShare_35_9 k) → Ψ none (k + 7, s + 1168, h')) : WO (mM (d + 1)) 97 [.ref k, .int 35, .int 9] (k + 1, s, h) Ψ := by
  refine WO.of (Nat.le_of_ble_eq_true rfl) ?_
  have FR_h : ∀ j, j < k → h j = h j := fun _ _ => rfl
  show WX (lk tX8_init) (mM (d + 0)) Ψ 0 [(0, .ref k), (1, .int 35), (2, .int 9)] [] (k + 1, s, h)
  refine WX.s1 rfl rfl ?_
  refine WX.s1 rfl rfl ?_
  refine WX.s1 rfl rfl ?_
  refine WX.s1 rfl rfl ?_
  refine WX.s1 rfl rfl ?_
  refine WX.s1 rfl rfl ?_
  refine WX.putNI (fs := [.int 0, .null, .null, .null, .null, .null, .null, .int 0, .int 0]) (fs' := fun f10 => [.int f10, .null, .null, .null, .null, .null, .null, .int 0, .int 0]) rfl (by omega) (F_h_k) (Nat.le_of_ble_eq_true rfl) (fun _ => rfl) (fun f10 h10 e_f10 e_h10 => ?_)
  try dsimp only at e_f10
  have F_h10_k : h10 k = .inr (8, [.int f10, .null, .null, .null, .null, .null, .null, .int 0, .int 0]) := by rw [e_h10]; exact va_up_eq
  have FR_h10 : ∀ j, j < k → h10 j = h j := fun j hj => by rw [e_h10]; exact (va_up_neq (by omega)).trans (FR_h j hj)
  obtain rfl : f10 = 35 := by rw [e_f10]; decide
  refine WX.s1 rfl rfl ?_
  refine WX.s1 rfl rfl ?_
  refine WX.get1 (fs := [.int 35, .null, .null, .null, .null, .null, .null, .int 0, .int 0]) rfl (by omega) (F_h10_k) rfl ?_
  refine WX.s1 rfl rfl ?_
  refine WX.s1 rfl rfl ?_
  refine WX.newaN (N := 36) (z0 := .inl (fun _ => 0)) rfl (by decide) (by decide) (by have := hbig; omega) rfl (fun h20 e_h20 => ?_)
  have F_h20_k : h20 k = .inr (8, [.int 35, .null, .null, .null, .null, .null, .null, .int 0, .int 0]) := by rw [e_h20, va_up_neq (by omega)]; exact F_h10_k
  have F_h20__k_1_ : h20 (k + 1) = .inl (1, 36, .inl (fun _ => 0)) := by rw [e_h20]; exact va_up_eq
  have FR_h20 : ∀ j, j < k → h20 j = h j := fun j hj => by rw [e_h20]; exact (va_up_neq (by omega)).trans (FR_h10 j hj)
  refine WX.put1 (fs := [.int 35, .null, .null, .null, .null, .null, .null, .int 0, .int 0]) (fs' := [.int 35, .ref (k + 1), .null, .null, .null, .null, .null, .int 0, .int 0]) rfl (by omega) (F_h20_k) (Nat.le_of_ble_eq_true rfl) (rfl) rfl (fun h22 e_h22 => ?_)
  have F_h22_k : h22 k = .inr (8, [.int 35, .ref (k + 1), .null, .null, .null, .null, .null, .int 0, .int 0]) := by rw [e_h22]; exact va_up_eq
  have F_h22__k_1_ : h22 (k + 1) = .inl (1, 36, .inl (fun _ => 0)) := by rw [e_h22, va_up_neq (by omega)]; exact F_h20__k_1_
  have FR_h22 : ∀ j, j < k → h22 j = h j := fun j hj => by rw [e_h22]; exact (va_up_neq (by omega)).trans (FR_h20 j hj)
  refine WX.s1 rfl rfl ?_
  refine WX.s1 rfl rfl ?_
  refine WX.get1 (fs := [.int 35, .ref (k + 1), .null, .null, .null, .null, .null, .int 0, .int 0]) rfl (by omega) (F_h22_k) rfl ?_
  refine WX.s1 rfl rfl ?_
  refine WX.s1 rfl rfl ?_
  refine WX.newaN (N := 36) (z0 := .inl (fun _ => 0)) rfl (by decide) (by decide) (by have := hbig; omega) rfl (fun h32 e_h32 => ?_)
  have F_h32_k : h32 k = .inr (8, [.int 35, .ref (k + 1), .null, .null, .null, .null, .null, .int 0, .int 0]) := by rw [e_h32, va_up_neq (by omega)]; exact F_h22_k
  have F_h32__k_1_ : h32 (k + 1) = .inl (1, 36, .inl (fun _ => 0)) := by rw [e_h32, va_up_neq (by omega)]; exact F_h22__k_1_
  have F_h32__k_2_ : h32 (k + 2) = .inl (1, 36, .inl (fun _ => 0)) := by rw [e_h32]; exact va_up_eq
  have FR_h32 : ∀ j, j < k → h32 j = h j := fun j hj => by rw [e_h32]; exact (va_up_neq (by omega)).trans (FR_h22 j hj)
  refine WX.put1 (fs := [.int 35, .ref (k + 1), .null, .null, .null, .null, .null, .int 0, .int 0]) (fs' := [.int 35, .ref (k + 1), .ref (k + 2), .null, .null, .null, .null, .int 0, .int 0]) rfl (by omega) (F_h32_k) (Nat.le_of_ble_eq_true rfl) (rfl) rfl (fun h34 e_h34 => ?_)
  have F_h34_k : h34 k = .inr (8, [.int 35, .ref (k + 1), .ref (k + 2), .null, .null, .null, .null, .int 0, .int 0]) := by rw [e_h34]; exact va_up_eq
  have F_h34__k_1_ : h34 (k + 1) = .inl (1, 36, .inl (fun _ => 0)) := by rw [e_h34, va_up_neq (by omega)]; exact F_h32__k_1_
  have F_h34__k_2_ : h34 (k + 2) = .inl (1, 36, .inl (fun _ => 0)) := by rw [e_h34, va_up_neq (by omega)]; exact F_h32__k_2_
  have FR_h34 : ∀ j, j < k → h34 j = h j := fun j hj => by rw [e_h34]; exact (va_up_neq (by omega)).trans (FR_h32 j hj)
  refine WX.s1 rfl rfl ?_
  refine WX.s1 rfl rfl ?_
  refine WX.get1 (fs := [.int 35, .ref (k + 1), .ref (k + 2), .null, .null, .null, .null, .int 0, .int 0]) rfl (by omega) (F_h34_k) rfl ?_
  refine WX.s1 rfl rfl ?_
  refine WX.s1 rfl rfl ?_
  refine WX.newaN (N := 36) (z0 := .inl (fun _ => 0)) rfl (by decide) (by decide) (by have := hbig; omega) rfl (fun h44 e_h44 => ?_)
  have F_h44_k : h44 k = .inr (8, [.int 35, .ref (k + 1), .ref (k + 2), .null, .null, .null, .null, .int 0, .int 0]) := by rw [e_h44, va_up_neq (by omega)]; exact F_h34_k
  have F_h44__k_1_ : h44 (k + 1) = .inl (1, 36, .inl (fun _ => 0)) := by rw [e_h44, va_up_neq (by omega)]; exact F_h34__k_1_
  have F_h44__k_2_ : h44 (k + 2) = .inl (1, 36, .inl (fun _ => 0)) := by rw [e_h44, va_up_neq (by omega)]; exact F_h34__k_2_
  have F_h44__k_3_ : h44 (k + 3) = .inl (1, 36, .inl (fun _ => 0)) := by rw [e_h44]; exact va_up_eq
  have FR_h44 : ∀ j, j < k → h44 j = h j := fun j hj => by rw [e_h44]; exact (va_up_neq (by omega)).trans (FR_h34 j hj)
  refine WX.put1 (fs := [.int 35, .ref (k + 1), .ref (k + 2), .null, .null, .null, .null, .int 0, .int 0]) (fs' := [.int 35, .ref (k + 1), .ref (k + 2), .ref (k + 3), .null, .null, .null, .int 0, .int 0]) rfl (by omega) (F_h44_k) (Nat.le_of_ble_eq_true rfl) (rfl) rfl (fun h46 e_h46 => ?_)
  have F_h46_k : h46 k = .inr (8, [.int 35, .ref (k + 1), .ref (k + 2), .ref (k + 3), .null, .null, .null, .int 0, .int 0]) := by rw [e_h46]; exact va_up_eq
  have F_h46__k_1_ : h46 (k + 1) = .inl (1, 36, .inl (fun _ => 0)) := by rw [e_h46, va_up_neq (by omega)]; exact F_h44__k_1_
  have F_h46__k_2_ : h46 (k + 2) = .inl (1, 36, .inl (fun _ => 0)) := by rw [e_h46, va_up_neq (by omega)]; exact F_h44__k_2_
  have F_h46__k_3_ : h46 (k + 3) = .inl (1, 36, .inl (fun _ => 0)) := by rw [e_h46, va_up_neq (by omega)]; exact F_h44__k_3_
  have FR_h46 : ∀ j, j < k → h46 j = h j := fun j hj => by rw [e_h46]; exact (va_up_neq (by omega)).trans (FR_h44 j hj)
  refine WX.s1 rfl rfl ?_
  refine WX.s1 rfl rfl ?_
  refine WX.get1 (fs := [.int 35, .ref (k + 1), .ref (k + 2), .ref (k + 3), .null, .null, .null, .int 0, .int 0]) rfl (by omega) (F_h46_k) rfl ?_
  refine WX.s1 rfl rfl ?_
  refine WX.s1 rfl rfl ?_
  refine WX.newaN (N := 36) (z0 := .inl (fun _ => 0)) rfl (by decide) (by decide) (by have := hbig; omega) rfl (fun h56 e_h56 => ?_)
  have F_h56_k : h56 k = .inr (8, [.int 35, .ref (k + 1), .ref (k + 2), .ref (k + 3), .null, .null, .null, .int 0, .int 0]) := by rw [e_h56, va_up_neq (by omega)]; exact F_h46_k
  have F_h56__k_1_ : h56 (k + 1) = .inl (1, 36, .inl (fun _ => 0)) := by rw [e_h56, va_up_neq (by omega)]; exact F_h46__k_1_
  have F_h56__k_2_ : h56 (k + 2) = .inl (1, 36, .inl (fun _ => 0)) := by rw [e_h56, va_up_neq (by omega)]; exact F_h46__k_2_
  have F_h56__k_3_ : h56 (k + 3) = .inl (1, 36, .inl (fun _ => 0)) := by rw [e_h56, va_up_neq (by omega)]; exact F_h46__k_3_
  have F_h56__k_4_ : h56 (k + 4) = .inl (1, 36, .inl (fun _ => 0)) := by rw [e_h56]; exact va_up_eq
  have FR_h56 : ∀ j, j < k → h56 j = h j := fun j hj => by rw [e_h56]; exact (va_up_neq (by omega)).trans (FR_h46 j hj)
  refine WX.put1 (fs := [.int 35, .ref (k + 1), .ref (k + 2), .ref (k + 3), .null, .null, .null, .int 0, .int 0]) (fs' := [.int 35, .ref (k + 1), .ref (k + 2), .ref (k + 3), .ref (k + 4), .null, .null, .int 0, .int 0]) rfl (by omega) (F_h56_k) (Nat.le_of_ble_eq_true rfl) (rfl) rfl (fun h58 e_h58 => ?_)
  have F_h58_k : h58 k = .inr (8, [.int 35, .ref (k + 1), .ref (k + 2), .ref (k + 3), .ref (k + 4), .null, .null, .int 0, .int 0]) := by rw [e_h58]; exact va_up_eq
  have F_h58__k_1_ : h58 (k + 1) = .inl (1, 36, .inl (fun _ => 0)) := by rw [e_h58, va_up_neq (by omega)]; exact F_h56__k_1_
  have F_h58__k_2_ : h58 (k + 2) = .inl (1, 36, .inl (fun _ => 0)) := by rw [e_h58, va_up_neq (by omega)]; exact F_h56__k_2_
  have F_h58__k_3_ : h58 (k + 3) = .inl (1, 36, .inl (fun _ => 0)) := by rw [e_h58, va_up_neq (by omega)]; exact F_h56__k_3_
  have F_h58__k_4_ : h58 (k + 4) = .inl (1, 36, .inl (fun _ => 0)) := by rw [e_h58, va_up_neq (by omega)]; exact F_h56__k_4_
  have FR_h58 : ∀ j, j < k → h58 j = h j := fun j hj => by rw [e_h58]; exact (va_up_neq (by omega)).trans (FR_h56 j hj)
  refine WX.s1 rfl rfl ?_
  refine WX.s1 rfl rfl ?_
  refine WX.s1 rfl rfl ?_
  refine WX.s1 rfl rfl ?_
  refine WX.newaN (N := 512) (z0 := .inl (fun _ => 0)) rfl (by decide) (by decide) (by have := hbig; omega) rfl (fun h65 e_h65 => ?_)
  have F_h65_k : h65 k = .inr (8, [.int 35, .ref (k + 1), .ref (k + 2), .ref (k + 3), .ref (k + 4), .null, .null, .int 0, .int 0]) := by rw [e_h65, va_up_neq (by omega)]; exact F_h58_k
  have F_h65__k_1_ : h65 (k + 1) = .inl (1, 36, .inl (fun _ => 0)) := by rw [e_h65, va_up_neq (by omega)]; exact F_h58__k_1_
  have F_h65__k_2_ : h65 (k + 2) = .inl (1, 36, .inl (fun _ => 0)) := by rw [e_h65, va_up_neq (by omega)]; exact F_h58__k_2_
  have F_h65__k_3_ : h65 (k + 3) = .inl (1, 36, .inl (fun _ => 0)) := by rw [e_h65, va_up_neq (by omega)]; exact F_h58__k_3_
  have F_h65__k_4_ : h65 (k + 4) = .inl (1, 36, .inl (fun _ => 0)) := by rw [e_h65, va_up_neq (by omega)]; exact F_h58__k_4_
  have F_h65__k_5_ : h65 (k + 5) = .inl (1, 512, .inl (fun _ => 0)) := by rw [e_h65]; exact va_up_eq
  have FR_h65 : ∀ j, j < k → h65 j = h j := fun j hj => by rw [e_h65]; exact (va_up_neq (by omega)).trans (FR_h58 j hj)
  refine WX.put1 (fs := [.int 35, .ref (k + 1), .ref (k + 2), .ref (k + 3), .ref (k + 4), .null, .null, .int 0, .int 0]) (fs' := [.int 35, .ref (k + 1), .ref (k + 2), .ref (k + 3), .ref (k + 4), .ref (k + 5), .null, .int 0, .int 0]) rfl (by omega) (F_h65_k) (Nat.le_of_ble_eq_true rfl) (rfl) rfl (fun h67 e_h67 => ?_)
  have F_h67_k : h67 k = .inr (8, [.int 35, .ref (k + 1), .ref (k + 2), .ref (k + 3), .ref (k + 4), .ref (k + 5), .null, .int 0, .int 0]) := by rw [e_h67]; exact va_up_eq
  have F_h67__k_1_ : h67 (k + 1) = .inl (1, 36, .inl (fun _ => 0)) := by rw [e_h67, va_up_neq (by omega)]; exact F_h65__k_1_
  have F_h67__k_2_ : h67 (k + 2) = .inl (1, 36, .inl (fun _ => 0)) := by rw [e_h67, va_up_neq (by omega)]; exact F_h65__k_2_
  have F_h67__k_3_ : h67 (k + 3) = .inl (1, 36, .inl (fun _ => 0)) := by rw [e_h67, va_up_neq (by omega)]; exact F_h65__k_3_
  have F_h67__k_4_ : h67 (k + 4) = .inl (1, 36, .inl (fun _ => 0)) := by rw [e_h67, va_up_neq (by omega)]; exact F_h65__k_4_
  have F_h67__k_5_ : h67 (k + 5) = .inl (1, 512, .inl (fun _ => 0)) := by rw [e_h67, va_up_neq (by omega)]; exact F_h65__k_5_
  have FR_h67 : ∀ j, j < k → h67 j = h j := fun j hj => by rw [e_h67]; exact (va_up_neq (by omega)).trans (FR_h65 j hj)
  refine WX.s1 rfl rfl ?_
  refine WX.s1 rfl rfl ?_
  refine WX.s1 rfl rfl ?_
  refine WX.s1 rfl rfl ?_
  refine WX.newaN (N := 512) (z0 := .inl (fun _ => 0)) rfl (by decide) (by decide) (by have := hbig; omega) rfl (fun h74 e_h74 => ?_)
  have F_h74_k : h74 k = .inr (8, [.int 35, .ref (k + 1), .ref (k + 2), .ref (k + 3), .ref (k + 4), .ref (k + 5), .null, .int 0, .int 0]) := by rw [e_h74, va_up_neq (by omega)]; exact F_h67_k
  have F_h74__k_1_ : h74 (k + 1) = .inl (1, 36, .inl (fun _ => 0)) := by rw [e_h74, va_up_neq (by omega)]; exact F_h67__k_1_
  have F_h74__k_2_ : h74 (k + 2) = .inl (1, 36, .inl (fun _ => 0)) := by rw [e_h74, va_up_neq (by omega)]; exact F_h67__k_2_
  have F_h74__k_3_ : h74 (k + 3) = .inl (1, 36, .inl (fun _ => 0)) := by rw [e_h74, va_up_neq (by omega)]; exact F_h67__k_3_
  have F_h74__k_4_ : h74 (k + 4) = .inl (1, 36, .inl (fun _ => 0)) := by rw [e_h74, va_up_neq (by omega)]; exact F_h67__k_4_
  have F_h74__k_5_ : h74 (k + 5) = .inl (1, 512, .inl (fun _ => 0)) := by rw [e_h74, va_up_neq (by omega)]; exact F_h67__k_5_
  have F_h74__k_6_ : h74 (k + 6) = .inl (1, 512, .inl (fun _ => 0)) := by rw [e_h74]; exact va_up_eq
  have FR_h74 : ∀ j, j < k → h74 j = h j := fun j hj => by rw [e_h74]; exact (va_up_neq (by omega)).trans (FR_h67 j hj)
  refine WX.put1 (fs := [.int 35, .ref (k + 1), .ref (k + 2), .ref (k + 3), .ref (k + 4), .ref (k + 5), .null, .int 0, .int 0]) (fs' := [.int 35, .ref (k + 1), .ref (k + 2), .ref (k + 3), .ref (k + 4), .ref (k + 5), .ref (k + 6), .int 0, .int 0]) rfl (by omega) (F_h74_k) (Nat.le_of_ble_eq_true rfl) (rfl) rfl (fun h76 e_h76 => ?_)
  have F_h76_k : h76 k = .inr (8, [.int 35, .ref (k + 1), .ref (k + 2), .ref (k + 3), .ref (k + 4), .ref (k + 5), .ref (k + 6), .int 0, .int 0]) := by rw [e_h76]; exact va_up_eq
  have F_h76__k_1_ : h76 (k + 1) = .inl (1, 36, .inl (fun _ => 0)) := by rw [e_h76, va_up_neq (by omega)]; exact F_h74__k_1_
  have F_h76__k_2_ : h76 (k + 2) = .inl (1, 36, .inl (fun _ => 0)) := by rw [e_h76, va_up_neq (by omega)]; exact F_h74__k_2_
  have F_h76__k_3_ : h76 (k + 3) = .inl (1, 36, .inl (fun _ => 0)) := by rw [e_h76, va_up_neq (by omega)]; exact F_h74__k_3_
  have F_h76__k_4_ : h76 (k + 4) = .inl (1, 36, .inl (fun _ => 0)) := by rw [e_h76, va_up_neq (by omega)]; exact F_h74__k_4_
  have F_h76__k_5_ : h76 (k + 5) = .inl (1, 512, .inl (fun _ => 0)) := by rw [e_h76, va_up_neq (by omega)]; exact F_h74__k_5_
  have F_h76__k_6_ : h76 (k + 6) = .inl (1, 512, .inl (fun _ => 0)) := by rw [e_h76, va_up_neq (by omega)]; exact F_h74__k_6_
  have FR_h76 : ∀ j, j < k → h76 j = h j := fun j hj => by rw [e_h76]; exact (va_up_neq (by omega)).trans (FR_h74 j hj)
  refine WX.ret0 rfl ?_
  exact kk h76 FR_h76 ⟨F_h76_k, F_h76__k_1_, F_h76__k_2_, F_h76__k_3_, F_h76__k_4_, F_h76__k_5_, F_h76__k_6_, trivial⟩
def cShare_31_8 (k : Nat) : List aE := [.inr (8, [.int 31, .ref (k + 1), .ref (k + 2), .ref (k + 3), .ref (k + 4), .ref (k + 5), .ref (k + 6), .int 0, .int 0]), .inl (1, 32, .inl (fun _ => 0)), .inl (1, 32, .inl (fun _ => 0)), .inl (1, 32, .inl (fun _ => 0)), .inl (1, 32, .inl (fun _ => 0)), .inl (1, 256, .inl (fun _ => 0)), .inl (1, 256, .inl (fun _ => 0))]
set_option maxRecDepth 20000 in
theorem n_share_31_8 {d s : Nat} {h : Nat → aE} {k : Nat} (hbig : k + 8 < aBig) (F_h_k : h k = .inr (8, zX8)) {Ψ : Option Value → aH → Prop} (kk : ∀ h', (∀ j, j < k → h' j = h j) → Cells h' k (cShare_31_8 k) → Ψ none (k + 7, s + 640, h')) : WO (mM (d + 1)) 97 [.ref k, .int 31, .int 8] (k + 1, s, h) Ψ := by
  refine WO.of (Nat.le_of_ble_eq_true rfl) ?_
  have FR_h : ∀ j, j < k → h j = h j := fun _ _ => rfl
  show WX (lk tX8_init) (mM (d + 0)) Ψ 0 [(0, .ref k), (1, .int 31), (2, .int 8)] [] (k + 1, s, h)
  refine WX.s1 rfl rfl ?_
  refine WX.s1 rfl rfl ?_
  refine WX.s1 rfl rfl ?_
  refine WX.s1 rfl rfl ?_
  refine WX.s1 rfl rfl ?_
  refine WX.s1 rfl rfl ?_
  refine WX.putNI (fs := [.int 0, .null, .null, .null, .null, .null, .null, .int 0, .int 0]) (fs' := fun f10 => [.int f10, .null, .null, .null, .null, .null, .null, .int 0, .int 0]) rfl (by omega) (F_h_k) (Nat.le_of_ble_eq_true rfl) (fun _ => rfl) (fun f10 h10 e_f10 e_h10 => ?_)
  try dsimp only at e_f10
  have F_h10_k : h10 k = .inr (8, [.int f10, .null, .null, .null, .null, .null, .null, .int 0, .int 0]) := by rw [e_h10]; exact va_up_eq
  have FR_h10 : ∀ j, j < k → h10 j = h j := fun j hj => by rw [e_h10]; exact (va_up_neq (by omega)).trans (FR_h j hj)
  obtain rfl : f10 = 31 := by rw [e_f10]; decide
  refine WX.s1 rfl rfl ?_
  refine WX.s1 rfl rfl ?_
  refine WX.get1 (fs := [.int 31, .null, .null, .null, .null, .null, .null, .int 0, .int 0]) rfl (by omega) (F_h10_k) rfl ?_
  refine WX.s1 rfl rfl ?_
  refine WX.s1 rfl rfl ?_
  refine WX.newaN (N := 32) (z0 := .inl (fun _ => 0)) rfl (by decide) (by decide) (by have := hbig; omega) rfl (fun h20 e_h20 => ?_)
  have F_h20_k : h20 k = .inr (8, [.int 31, .null, .null, .null, .null, .null, .null, .int 0, .int 0]) := by rw [e_h20, va_up_neq (by omega)]; exact F_h10_k
  have F_h20__k_1_ : h20 (k + 1) = .inl (1, 32, .inl (fun _ => 0)) := by rw [e_h20]; exact va_up_eq
  have FR_h20 : ∀ j, j < k → h20 j = h j := fun j hj => by rw [e_h20]; exact (va_up_neq (by omega)).trans (FR_h10 j hj)
  refine WX.put1 (fs := [.int 31, .null, .null, .null, .null, .null, .null, .int 0, .int 0]) (fs' := [.int 31, .ref (k + 1), .null, .null, .null, .null, .null, .int 0, .int 0]) rfl (by omega) (F_h20_k) (Nat.le_of_ble_eq_true rfl) (rfl) rfl (fun h22 e_h22 => ?_)
  have F_h22_k : h22 k = .inr (8, [.int 31, .ref (k + 1), .null, .null, .null, .null, .null, .int 0, .int 0]) := by rw [e_h22]; exact va_up_eq
  have F_h22__k_1_ : h22 (k + 1) = .inl (1, 32, .inl (fun _ => 0)) := by rw [e_h22, va_up_neq (by omega)]; exact F_h20__k_1_
  have FR_h22 : ∀ j, j < k → h22 j = h j := fun j hj => by rw [e_h22]; exact (va_up_neq (by omega)).trans (FR_h20 j hj)
  refine WX.s1 rfl rfl ?_
  refine WX.s1 rfl rfl ?_
  refine WX.get1 (fs := [.int 31, .ref (k + 1), .null, .null, .null, .null, .null, .int 0, .int 0]) rfl (by omega) (F_h22_k) rfl ?_
  refine WX.s1 rfl rfl ?_
  refine WX.s1 rfl rfl ?_
  refine WX.newaN (N := 32) (z0 := .inl (fun _ => 0)) rfl (by decide) (by decide) (by have := hbig; omega) rfl (fun h32 e_h32 => ?_)
  have F_h32_k : h32 k = .inr (8, [.int 31, .ref (k + 1), .null, .null, .null, .null, .null, .int 0, .int 0]) := by rw [e_h32, va_up_neq (by omega)]; exact F_h22_k
  have F_h32__k_1_ : h32 (k + 1) = .inl (1, 32, .inl (fun _ => 0)) := by rw [e_h32, va_up_neq (by omega)]; exact F_h22__k_1_
  have F_h32__k_2_ : h32 (k + 2) = .inl (1, 32, .inl (fun _ => 0)) := by rw [e_h32]; exact va_up_eq
  have FR_h32 : ∀ j, j < k → h32 j = h j := fun j hj => by rw [e_h32]; exact (va_up_neq (by omega)).trans (FR_h22 j hj)
  refine WX.put1 (fs := [.int 31, .ref (k + 1), .null, .null, .null, .null, .null, .int 0, .int 0]) (fs' := [.int 31, .ref (k + 1), .ref (k + 2), .null, .null, .null, .null, .int 0, .int 0]) rfl (by omega) (F_h32_k) (Nat.le_of_ble_eq_true rfl) (rfl) rfl (fun h34 e_h34 => ?_)
  have F_h34_k : h34 k = .inr (8, [.int 31, .ref (k + 1), .ref (k + 2), .null, .null, .null, .null, .int 0, .int 0]) := by rw [e_h34]; exact va_up_eq
  have F_h34__k_1_ : h34 (k + 1) = .inl (1, 32, .inl (fun _ => 0)) := by rw [e_h34, va_up_neq (by omega)]; exact F_h32__k_1_
  have F_h34__k_2_ : h34 (k + 2) = .inl (1, 32, .inl (fun _ => 0)) := by rw [e_h34, va_up_neq (by omega)]; exact F_h32__k_2_
  have FR_h34 : ∀ j, j < k → h34 j = h j := fun j hj => by rw [e_h34]; exact (va_up_neq (by omega)).trans (FR_h32 j hj)
  refine WX.s1 rfl rfl ?_
  refine WX.s1 rfl rfl ?_
  refine WX.get1 (fs := [.int 31, .ref (k + 1), .ref (k + 2), .null, .null, .null, .null, .int 0, .int 0]) rfl (by omega) (F_h34_k) rfl ?_
  refine WX.s1 rfl rfl ?_
  refine WX.s1 rfl rfl ?_
  refine WX.newaN (N := 32) (z0 := .inl (fun _ => 0)) rfl (by decide) (by decide) (by have := hbig; omega) rfl (fun h44 e_h44 => ?_)
  have F_h44_k : h44 k = .inr (8, [.int 31, .ref (k + 1), .ref (k + 2), .null, .null, .null, .null, .int 0, .int 0]) := by rw [e_h44, va_up_neq (by omega)]; exact F_h34_k
  have F_h44__k_1_ : h44 (k + 1) = .inl (1, 32, .inl (fun _ => 0)) := by rw [e_h44, va_up_neq (by omega)]; exact F_h34__k_1_
  have F_h44__k_2_ : h44 (k + 2) = .inl (1, 32, .inl (fun _ => 0)) := by rw [e_h44, va_up_neq (by omega)]; exact F_h34__k_2_
  have F_h44__k_3_ : h44 (k + 3) = .inl (1, 32, .inl (fun _ => 0)) := by rw [e_h44]; exact va_up_eq
  have FR_h44 : ∀ j, j < k → h44 j = h j := fun j hj => by rw [e_h44]; exact (va_up_neq (by omega)).trans (FR_h34 j hj)
  refine WX.put1 (fs := [.int 31, .ref (k + 1), .ref (k + 2), .null, .null, .null, .null, .int 0, .int 0]) (fs' := [.int 31, .ref (k + 1), .ref (k + 2), .ref (k + 3), .null, .null, .null, .int 0, .int 0]) rfl (by omega) (F_h44_k) (Nat.le_of_ble_eq_true rfl) (rfl) rfl (fun h46 e_h46 => ?_)
  have F_h46_k : h46 k = .inr (8, [.int 31, .ref (k + 1), .ref (k + 2), .ref (k + 3), .null, .null, .null, .int 0, .int 0]) := by rw [e_h46]; exact va_up_eq
  have F_h46__k_1_ : h46 (k + 1) = .inl (1, 32, .inl (fun _ => 0)) := by rw [e_h46, va_up_neq (by omega)]; exact F_h44__k_1_
  have F_h46__k_2_ : h46 (k + 2) = .inl (1, 32, .inl (fun _ => 0)) := by rw [e_h46, va_up_neq (by omega)]; exact F_h44__k_2_
  have F_h46__k_3_ : h46 (k + 3) = .inl (1, 32, .inl (fun _ => 0)) := by rw [e_h46, va_up_neq (by omega)]; exact F_h44__k_3_
  have FR_h46 : ∀ j, j < k → h46 j = h j := fun j hj => by rw [e_h46]; exact (va_up_neq (by omega)).trans (FR_h44 j hj)
  refine WX.s1 rfl rfl ?_
  refine WX.s1 rfl rfl ?_
  refine WX.get1 (fs := [.int 31, .ref (k + 1), .ref (k + 2), .ref (k + 3), .null, .null, .null, .int 0, .int 0]) rfl (by omega) (F_h46_k) rfl ?_
  refine WX.s1 rfl rfl ?_
  refine WX.s1 rfl rfl ?_
  refine WX.newaN (N := 32) (z0 := .inl (fun _ => 0)) rfl (by decide) (by decide) (by have := hbig; omega) rfl (fun h56 e_h56 => ?_)
  have F_h56_k : h56 k = .inr (8, [.int 31, .ref (k + 1), .ref (k + 2), .ref (k + 3), .null, .null, .null, .int 0, .int 0]) := by rw [e_h56, va_up_neq (by omega)]; exact F_h46_k
  have F_h56__k_1_ : h56 (k + 1) = .inl (1, 32, .inl (fun _ => 0)) := by rw [e_h56, va_up_neq (by omega)]; exact F_h46__k_1_
  have F_h56__k_2_ : h56 (k + 2) = .inl (1, 32, .inl (fun _ => 0)) := by rw [e_h56, va_up_neq (by omega)]; exact F_h46__k_2_
  have F_h56__k_3_ : h56 (k + 3) = .inl (1, 32, .inl (fun _ => 0)) := by rw [e_h56, va_up_neq (by omega)]; exact F_h46__k_3_
  have F_h56__k_4_ : h56 (k + 4) = .inl (1, 32, .inl (fun _ => 0)) := by rw [e_h56]; exact va_up_eq
  have FR_h56 : ∀ j, j < k → h56 j = h j := fun j hj => by rw [e_h56]; exact (va_up_neq (by omega)).trans (FR_h46 j hj)
  refine WX.put1 (fs := [.int 31, .ref (k + 1), .ref (k + 2), .ref (k + 3), .null, .null, .null, .int 0, .int 0]) (fs' := [.int 31, .ref (k + 1), .ref (k + 2), .ref (k + 3), .ref (k + 4), .null, .null, .int 0, .int 0]) rfl (by omega) (F_h56_k) (Nat.le_of_ble_eq_true rfl) (rfl) rfl (fun h58 e_h58 => ?_)
  have F_h58_k : h58 k = .inr (8, [.int 31, .ref (k + 1), .ref (k + 2), .ref (k + 3), .ref (k + 4), .null, .null, .int 0, .int 0]) := by rw [e_h58]; exact va_up_eq
  have F_h58__k_1_ : h58 (k + 1) = .inl (1, 32, .inl (fun _ => 0)) := by rw [e_h58, va_up_neq (by omega)]; exact F_h56__k_1_
  have F_h58__k_2_ : h58 (k + 2) = .inl (1, 32, .inl (fun _ => 0)) := by rw [e_h58, va_up_neq (by omega)]; exact F_h56__k_2_
  have F_h58__k_3_ : h58 (k + 3) = .inl (1, 32, .inl (fun _ => 0)) := by rw [e_h58, va_up_neq (by omega)]; exact F_h56__k_3_
  have F_h58__k_4_ : h58 (k + 4) = .inl (1, 32, .inl (fun _ => 0)) := by rw [e_h58, va_up_neq (by omega)]; exact F_h56__k_4_
  have FR_h58 : ∀ j, j < k → h58 j = h j := fun j hj => by rw [e_h58]; exact (va_up_neq (by omega)).trans (FR_h56 j hj)
  refine WX.s1 rfl rfl ?_
  refine WX.s1 rfl rfl ?_
  refine WX.s1 rfl rfl ?_
  refine WX.s1 rfl rfl ?_
  refine WX.newaN (N := 256) (z0 := .inl (fun _ => 0)) rfl (by decide) (by decide) (by have := hbig; omega) rfl (fun h65 e_h65 => ?_)
  have F_h65_k : h65 k = .inr (8, [.int 31, .ref (k + 1), .ref (k + 2), .ref (k + 3), .ref (k + 4), .null, .null, .int 0, .int 0]) := by rw [e_h65, va_up_neq (by omega)]; exact F_h58_k
  have F_h65__k_1_ : h65 (k + 1) = .inl (1, 32, .inl (fun _ => 0)) := by rw [e_h65, va_up_neq (by omega)]; exact F_h58__k_1_
  have F_h65__k_2_ : h65 (k + 2) = .inl (1, 32, .inl (fun _ => 0)) := by rw [e_h65, va_up_neq (by omega)]; exact F_h58__k_2_
  have F_h65__k_3_ : h65 (k + 3) = .inl (1, 32, .inl (fun _ => 0)) := by rw [e_h65, va_up_neq (by omega)]; exact F_h58__k_3_
  have F_h65__k_4_ : h65 (k + 4) = .inl (1, 32, .inl (fun _ => 0)) := by rw [e_h65, va_up_neq (by omega)]; exact F_h58__k_4_
  have F_h65__k_5_ : h65 (k + 5) = .inl (1, 256, .inl (fun _ => 0)) := by rw [e_h65]; exact va_up_eq
  have FR_h65 : ∀ j, j < k → h65 j = h j := fun j hj => by rw [e_h65]; exact (va_up_neq (by omega)).trans (FR_h58 j hj)
  refine WX.put1 (fs := [.int 31, .ref (k + 1), .ref (k + 2), .ref (k + 3), .ref (k + 4), .null, .null, .int 0, .int 0]) (fs' := [.int 31, .ref (k + 1), .ref (k + 2), .ref (k + 3), .ref (k + 4), .ref (k + 5), .null, .int 0, .int 0]) rfl (by omega) (F_h65_k) (Nat.le_of_ble_eq_true rfl) (rfl) rfl (fun h67 e_h67 => ?_)
  have F_h67_k : h67 k = .inr (8, [.int 31, .ref (k + 1), .ref (k + 2), .ref (k + 3), .ref (k + 4), .ref (k + 5), .null, .int 0, .int 0]) := by rw [e_h67]; exact va_up_eq
  have F_h67__k_1_ : h67 (k + 1) = .inl (1, 32, .inl (fun _ => 0)) := by rw [e_h67, va_up_neq (by omega)]; exact F_h65__k_1_
  have F_h67__k_2_ : h67 (k + 2) = .inl (1, 32, .inl (fun _ => 0)) := by rw [e_h67, va_up_neq (by omega)]; exact F_h65__k_2_
  have F_h67__k_3_ : h67 (k + 3) = .inl (1, 32, .inl (fun _ => 0)) := by rw [e_h67, va_up_neq (by omega)]; exact F_h65__k_3_
  have F_h67__k_4_ : h67 (k + 4) = .inl (1, 32, .inl (fun _ => 0)) := by rw [e_h67, va_up_neq (by omega)]; exact F_h65__k_4_
  have F_h67__k_5_ : h67 (k + 5) = .inl (1, 256, .inl (fun _ => 0)) := by rw [e_h67, va_up_neq (by omega)]; exact F_h65__k_5_
  have FR_h67 : ∀ j, j < k → h67 j = h j := fun j hj => by rw [e_h67]; exact (va_up_neq (by omega)).trans (FR_h65 j hj)
  refine WX.s1 rfl rfl ?_
  refine WX.s1 rfl rfl ?_
  refine WX.s1 rfl rfl ?_
  refine WX.s1 rfl rfl ?_
  refine WX.newaN (N := 256) (z0 := .inl (fun _ => 0)) rfl (by decide) (by decide) (by have := hbig; omega) rfl (fun h74 e_h74 => ?_)
  have F_h74_k : h74 k = .inr (8, [.int 31, .ref (k + 1), .ref (k + 2), .ref (k + 3), .ref (k + 4), .ref (k + 5), .null, .int 0, .int 0]) := by rw [e_h74, va_up_neq (by omega)]; exact F_h67_k
  have F_h74__k_1_ : h74 (k + 1) = .inl (1, 32, .inl (fun _ => 0)) := by rw [e_h74, va_up_neq (by omega)]; exact F_h67__k_1_
  have F_h74__k_2_ : h74 (k + 2) = .inl (1, 32, .inl (fun _ => 0)) := by rw [e_h74, va_up_neq (by omega)]; exact F_h67__k_2_
  have F_h74__k_3_ : h74 (k + 3) = .inl (1, 32, .inl (fun _ => 0)) := by rw [e_h74, va_up_neq (by omega)]; exact F_h67__k_3_
  have F_h74__k_4_ : h74 (k + 4) = .inl (1, 32, .inl (fun _ => 0)) := by rw [e_h74, va_up_neq (by omega)]; exact F_h67__k_4_
  have F_h74__k_5_ : h74 (k + 5) = .inl (1, 256, .inl (fun _ => 0)) := by rw [e_h74, va_up_neq (by omega)]; exact F_h67__k_5_
  have F_h74__k_6_ : h74 (k + 6) = .inl (1, 256, .inl (fun _ => 0)) := by rw [e_h74]; exact va_up_eq
  have FR_h74 : ∀ j, j < k → h74 j = h j := fun j hj => by rw [e_h74]; exact (va_up_neq (by omega)).trans (FR_h67 j hj)
  refine WX.put1 (fs := [.int 31, .ref (k + 1), .ref (k + 2), .ref (k + 3), .ref (k + 4), .ref (k + 5), .null, .int 0, .int 0]) (fs' := [.int 31, .ref (k + 1), .ref (k + 2), .ref (k + 3), .ref (k + 4), .ref (k + 5), .ref (k + 6), .int 0, .int 0]) rfl (by omega) (F_h74_k) (Nat.le_of_ble_eq_true rfl) (rfl) rfl (fun h76 e_h76 => ?_)
  have F_h76_k : h76 k = .inr (8, [.int 31, .ref (k + 1), .ref (k + 2), .ref (k + 3), .ref (k + 4), .ref (k + 5), .ref (k + 6), .int 0, .int 0]) := by rw [e_h76]; exact va_up_eq
  have F_h76__k_1_ : h76 (k + 1) = .inl (1, 32, .inl (fun _ => 0)) := by rw [e_h76, va_up_neq (by omega)]; exact F_h74__k_1_
  have F_h76__k_2_ : h76 (k + 2) = .inl (1, 32, .inl (fun _ => 0)) := by rw [e_h76, va_up_neq (by omega)]; exact F_h74__k_2_
  have F_h76__k_3_ : h76 (k + 3) = .inl (1, 32, .inl (fun _ => 0)) := by rw [e_h76, va_up_neq (by omega)]; exact F_h74__k_3_
  have F_h76__k_4_ : h76 (k + 4) = .inl (1, 32, .inl (fun _ => 0)) := by rw [e_h76, va_up_neq (by omega)]; exact F_h74__k_4_
  have F_h76__k_5_ : h76 (k + 5) = .inl (1, 256, .inl (fun _ => 0)) := by rw [e_h76, va_up_neq (by omega)]; exact F_h74__k_5_
  have F_h76__k_6_ : h76 (k + 6) = .inl (1, 256, .inl (fun _ => 0)) := by rw [e_h76, va_up_neq (by omega)]; exact F_h74__k_6_
  have FR_h76 : ∀ j, j < k → h76 j = h j := fun j hj => by rw [e_h76]; exact (va_up_neq (by omega)).trans (FR_h74 j hj)
  refine WX.ret0 rfl ?_
  exact kk h76 FR_h76 ⟨F_h76_k, F_h76__k_1_, F_h76__k_2_, F_h76__k_3_, F_h76__k_4_, F_h76__k_5_, F_h76__k_6_, trivial⟩
def cShare_52_9 (k : Nat) : List aE := [.inr (8, [.int 52, .ref (k + 1), .ref (k + 2), .ref (k + 3), .ref (k + 4), .ref (k + 5), .ref (k + 6), .int 0, .int 0]), .inl (1, 53, .inl (fun _ => 0)), .inl (1, 53, .inl (fun _ => 0)), .inl (1, 53, .inl (fun _ => 0)), .inl (1, 53, .inl (fun _ => 0)), .inl (1, 512, .inl (fun _ => 0)), .inl (1, 512, .inl (fun _ => 0))]
set_option maxRecDepth 20000 in
theorem n_share_52_9 {d s : Nat} {h : Nat → aE} {k : Nat} (hbig : k + 8 < aBig) (F_h_k : h k = .inr (8, zX8)) {Ψ : Option Value → aH → Prop} (kk : ∀ h', (∀ j, j < k → h' j = h j) → Cells h' k (cShare_52_9 k) → Ψ none (k + 7, s + 1236, h')) : WO (mM (d + 1)) 97 [.ref k, .int 52, .int 9] (k + 1, s, h) Ψ := by
  refine WO.of (Nat.le_of_ble_eq_true rfl) ?_
  have FR_h : ∀ j, j < k → h j = h j := fun _ _ => rfl
  show WX (lk tX8_init) (mM (d + 0)) Ψ 0 [(0, .ref k), (1, .int 52), (2, .int 9)] [] (k + 1, s, h)
  refine WX.s1 rfl rfl ?_
  refine WX.s1 rfl rfl ?_
  refine WX.s1 rfl rfl ?_
  refine WX.s1 rfl rfl ?_
  refine WX.s1 rfl rfl ?_
  refine WX.s1 rfl rfl ?_
  refine WX.putNI (fs := [.int 0, .null, .null, .null, .null, .null, .null, .int 0, .int 0]) (fs' := fun f10 => [.int f10, .null, .null, .null, .null, .null, .null, .int 0, .int 0]) rfl (by omega) (F_h_k) (Nat.le_of_ble_eq_true rfl) (fun _ => rfl) (fun f10 h10 e_f10 e_h10 => ?_)
  try dsimp only at e_f10
  have F_h10_k : h10 k = .inr (8, [.int f10, .null, .null, .null, .null, .null, .null, .int 0, .int 0]) := by rw [e_h10]; exact va_up_eq
  have FR_h10 : ∀ j, j < k → h10 j = h j := fun j hj => by rw [e_h10]; exact (va_up_neq (by omega)).trans (FR_h j hj)
  obtain rfl : f10 = 52 := by rw [e_f10]; decide
  refine WX.s1 rfl rfl ?_
  refine WX.s1 rfl rfl ?_
  refine WX.get1 (fs := [.int 52, .null, .null, .null, .null, .null, .null, .int 0, .int 0]) rfl (by omega) (F_h10_k) rfl ?_
  refine WX.s1 rfl rfl ?_
  refine WX.s1 rfl rfl ?_
  refine WX.newaN (N := 53) (z0 := .inl (fun _ => 0)) rfl (by decide) (by decide) (by have := hbig; omega) rfl (fun h20 e_h20 => ?_)
  have F_h20_k : h20 k = .inr (8, [.int 52, .null, .null, .null, .null, .null, .null, .int 0, .int 0]) := by rw [e_h20, va_up_neq (by omega)]; exact F_h10_k
  have F_h20__k_1_ : h20 (k + 1) = .inl (1, 53, .inl (fun _ => 0)) := by rw [e_h20]; exact va_up_eq
  have FR_h20 : ∀ j, j < k → h20 j = h j := fun j hj => by rw [e_h20]; exact (va_up_neq (by omega)).trans (FR_h10 j hj)
  refine WX.put1 (fs := [.int 52, .null, .null, .null, .null, .null, .null, .int 0, .int 0]) (fs' := [.int 52, .ref (k + 1), .null, .null, .null, .null, .null, .int 0, .int 0]) rfl (by omega) (F_h20_k) (Nat.le_of_ble_eq_true rfl) (rfl) rfl (fun h22 e_h22 => ?_)
  have F_h22_k : h22 k = .inr (8, [.int 52, .ref (k + 1), .null, .null, .null, .null, .null, .int 0, .int 0]) := by rw [e_h22]; exact va_up_eq
  have F_h22__k_1_ : h22 (k + 1) = .inl (1, 53, .inl (fun _ => 0)) := by rw [e_h22, va_up_neq (by omega)]; exact F_h20__k_1_
  have FR_h22 : ∀ j, j < k → h22 j = h j := fun j hj => by rw [e_h22]; exact (va_up_neq (by omega)).trans (FR_h20 j hj)
  refine WX.s1 rfl rfl ?_
  refine WX.s1 rfl rfl ?_
  refine WX.get1 (fs := [.int 52, .ref (k + 1), .null, .null, .null, .null, .null, .int 0, .int 0]) rfl (by omega) (F_h22_k) rfl ?_
  refine WX.s1 rfl rfl ?_
  refine WX.s1 rfl rfl ?_
  refine WX.newaN (N := 53) (z0 := .inl (fun _ => 0)) rfl (by decide) (by decide) (by have := hbig; omega) rfl (fun h32 e_h32 => ?_)
  have F_h32_k : h32 k = .inr (8, [.int 52, .ref (k + 1), .null, .null, .null, .null, .null, .int 0, .int 0]) := by rw [e_h32, va_up_neq (by omega)]; exact F_h22_k
  have F_h32__k_1_ : h32 (k + 1) = .inl (1, 53, .inl (fun _ => 0)) := by rw [e_h32, va_up_neq (by omega)]; exact F_h22__k_1_
  have F_h32__k_2_ : h32 (k + 2) = .inl (1, 53, .inl (fun _ => 0)) := by rw [e_h32]; exact va_up_eq
  have FR_h32 : ∀ j, j < k → h32 j = h j := fun j hj => by rw [e_h32]; exact (va_up_neq (by omega)).trans (FR_h22 j hj)
  refine WX.put1 (fs := [.int 52, .ref (k + 1), .null, .null, .null, .null, .null, .int 0, .int 0]) (fs' := [.int 52, .ref (k + 1), .ref (k + 2), .null, .null, .null, .null, .int 0, .int 0]) rfl (by omega) (F_h32_k) (Nat.le_of_ble_eq_true rfl) (rfl) rfl (fun h34 e_h34 => ?_)
  have F_h34_k : h34 k = .inr (8, [.int 52, .ref (k + 1), .ref (k + 2), .null, .null, .null, .null, .int 0, .int 0]) := by rw [e_h34]; exact va_up_eq
  have F_h34__k_1_ : h34 (k + 1) = .inl (1, 53, .inl (fun _ => 0)) := by rw [e_h34, va_up_neq (by omega)]; exact F_h32__k_1_
  have F_h34__k_2_ : h34 (k + 2) = .inl (1, 53, .inl (fun _ => 0)) := by rw [e_h34, va_up_neq (by omega)]; exact F_h32__k_2_
  have FR_h34 : ∀ j, j < k → h34 j = h j := fun j hj => by rw [e_h34]; exact (va_up_neq (by omega)).trans (FR_h32 j hj)
  refine WX.s1 rfl rfl ?_
  refine WX.s1 rfl rfl ?_
  refine WX.get1 (fs := [.int 52, .ref (k + 1), .ref (k + 2), .null, .null, .null, .null, .int 0, .int 0]) rfl (by omega) (F_h34_k) rfl ?_
  refine WX.s1 rfl rfl ?_
  refine WX.s1 rfl rfl ?_
  refine WX.newaN (N := 53) (z0 := .inl (fun _ => 0)) rfl (by decide) (by decide) (by have := hbig; omega) rfl (fun h44 e_h44 => ?_)
  have F_h44_k : h44 k = .inr (8, [.int 52, .ref (k + 1), .ref (k + 2), .null, .null, .null, .null, .int 0, .int 0]) := by rw [e_h44, va_up_neq (by omega)]; exact F_h34_k
  have F_h44__k_1_ : h44 (k + 1) = .inl (1, 53, .inl (fun _ => 0)) := by rw [e_h44, va_up_neq (by omega)]; exact F_h34__k_1_
  have F_h44__k_2_ : h44 (k + 2) = .inl (1, 53, .inl (fun _ => 0)) := by rw [e_h44, va_up_neq (by omega)]; exact F_h34__k_2_
  have F_h44__k_3_ : h44 (k + 3) = .inl (1, 53, .inl (fun _ => 0)) := by rw [e_h44]; exact va_up_eq
  have FR_h44 : ∀ j, j < k → h44 j = h j := fun j hj => by rw [e_h44]; exact (va_up_neq (by omega)).trans (FR_h34 j hj)
  refine WX.put1 (fs := [.int 52, .ref (k + 1), .ref (k + 2), .null, .null, .null, .null, .int 0, .int 0]) (fs' := [.int 52, .ref (k + 1), .ref (k + 2), .ref (k + 3), .null, .null, .null, .int 0, .int 0]) rfl (by omega) (F_h44_k) (Nat.le_of_ble_eq_true rfl) (rfl) rfl (fun h46 e_h46 => ?_)
  have F_h46_k : h46 k = .inr (8, [.int 52, .ref (k + 1), .ref (k + 2), .ref (k + 3), .null, .null, .null, .int 0, .int 0]) := by rw [e_h46]; exact va_up_eq
  have F_h46__k_1_ : h46 (k + 1) = .inl (1, 53, .inl (fun _ => 0)) := by rw [e_h46, va_up_neq (by omega)]; exact F_h44__k_1_
  have F_h46__k_2_ : h46 (k + 2) = .inl (1, 53, .inl (fun _ => 0)) := by rw [e_h46, va_up_neq (by omega)]; exact F_h44__k_2_
  have F_h46__k_3_ : h46 (k + 3) = .inl (1, 53, .inl (fun _ => 0)) := by rw [e_h46, va_up_neq (by omega)]; exact F_h44__k_3_
  have FR_h46 : ∀ j, j < k → h46 j = h j := fun j hj => by rw [e_h46]; exact (va_up_neq (by omega)).trans (FR_h44 j hj)
  refine WX.s1 rfl rfl ?_
  refine WX.s1 rfl rfl ?_
  refine WX.get1 (fs := [.int 52, .ref (k + 1), .ref (k + 2), .ref (k + 3), .null, .null, .null, .int 0, .int 0]) rfl (by omega) (F_h46_k) rfl ?_
  refine WX.s1 rfl rfl ?_
  refine WX.s1 rfl rfl ?_
  refine WX.newaN (N := 53) (z0 := .inl (fun _ => 0)) rfl (by decide) (by decide) (by have := hbig; omega) rfl (fun h56 e_h56 => ?_)
  have F_h56_k : h56 k = .inr (8, [.int 52, .ref (k + 1), .ref (k + 2), .ref (k + 3), .null, .null, .null, .int 0, .int 0]) := by rw [e_h56, va_up_neq (by omega)]; exact F_h46_k
  have F_h56__k_1_ : h56 (k + 1) = .inl (1, 53, .inl (fun _ => 0)) := by rw [e_h56, va_up_neq (by omega)]; exact F_h46__k_1_
  have F_h56__k_2_ : h56 (k + 2) = .inl (1, 53, .inl (fun _ => 0)) := by rw [e_h56, va_up_neq (by omega)]; exact F_h46__k_2_
  have F_h56__k_3_ : h56 (k + 3) = .inl (1, 53, .inl (fun _ => 0)) := by rw [e_h56, va_up_neq (by omega)]; exact F_h46__k_3_
  have F_h56__k_4_ : h56 (k + 4) = .inl (1, 53, .inl (fun _ => 0)) := by rw [e_h56]; exact va_up_eq
  have FR_h56 : ∀ j, j < k → h56 j = h j := fun j hj => by rw [e_h56]; exact (va_up_neq (by omega)).trans (FR_h46 j hj)
  refine WX.put1 (fs := [.int 52, .ref (k + 1), .ref (k + 2), .ref (k + 3), .null, .null, .null, .int 0, .int 0]) (fs' := [.int 52, .ref (k + 1), .ref (k + 2), .ref (k + 3), .ref (k + 4), .null, .null, .int 0, .int 0]) rfl (by omega) (F_h56_k) (Nat.le_of_ble_eq_true rfl) (rfl) rfl (fun h58 e_h58 => ?_)
  have F_h58_k : h58 k = .inr (8, [.int 52, .ref (k + 1), .ref (k + 2), .ref (k + 3), .ref (k + 4), .null, .null, .int 0, .int 0]) := by rw [e_h58]; exact va_up_eq
  have F_h58__k_1_ : h58 (k + 1) = .inl (1, 53, .inl (fun _ => 0)) := by rw [e_h58, va_up_neq (by omega)]; exact F_h56__k_1_
  have F_h58__k_2_ : h58 (k + 2) = .inl (1, 53, .inl (fun _ => 0)) := by rw [e_h58, va_up_neq (by omega)]; exact F_h56__k_2_
  have F_h58__k_3_ : h58 (k + 3) = .inl (1, 53, .inl (fun _ => 0)) := by rw [e_h58, va_up_neq (by omega)]; exact F_h56__k_3_
  have F_h58__k_4_ : h58 (k + 4) = .inl (1, 53, .inl (fun _ => 0)) := by rw [e_h58, va_up_neq (by omega)]; exact F_h56__k_4_
  have FR_h58 : ∀ j, j < k → h58 j = h j := fun j hj => by rw [e_h58]; exact (va_up_neq (by omega)).trans (FR_h56 j hj)
  refine WX.s1 rfl rfl ?_
  refine WX.s1 rfl rfl ?_
  refine WX.s1 rfl rfl ?_
  refine WX.s1 rfl rfl ?_
  refine WX.newaN (N := 512) (z0 := .inl (fun _ => 0)) rfl (by decide) (by decide) (by have := hbig; omega) rfl (fun h65 e_h65 => ?_)
  have F_h65_k : h65 k = .inr (8, [.int 52, .ref (k + 1), .ref (k + 2), .ref (k + 3), .ref (k + 4), .null, .null, .int 0, .int 0]) := by rw [e_h65, va_up_neq (by omega)]; exact F_h58_k
  have F_h65__k_1_ : h65 (k + 1) = .inl (1, 53, .inl (fun _ => 0)) := by rw [e_h65, va_up_neq (by omega)]; exact F_h58__k_1_
  have F_h65__k_2_ : h65 (k + 2) = .inl (1, 53, .inl (fun _ => 0)) := by rw [e_h65, va_up_neq (by omega)]; exact F_h58__k_2_
  have F_h65__k_3_ : h65 (k + 3) = .inl (1, 53, .inl (fun _ => 0)) := by rw [e_h65, va_up_neq (by omega)]; exact F_h58__k_3_
  have F_h65__k_4_ : h65 (k + 4) = .inl (1, 53, .inl (fun _ => 0)) := by rw [e_h65, va_up_neq (by omega)]; exact F_h58__k_4_
  have F_h65__k_5_ : h65 (k + 5) = .inl (1, 512, .inl (fun _ => 0)) := by rw [e_h65]; exact va_up_eq
  have FR_h65 : ∀ j, j < k → h65 j = h j := fun j hj => by rw [e_h65]; exact (va_up_neq (by omega)).trans (FR_h58 j hj)
  refine WX.put1 (fs := [.int 52, .ref (k + 1), .ref (k + 2), .ref (k + 3), .ref (k + 4), .null, .null, .int 0, .int 0]) (fs' := [.int 52, .ref (k + 1), .ref (k + 2), .ref (k + 3), .ref (k + 4), .ref (k + 5), .null, .int 0, .int 0]) rfl (by omega) (F_h65_k) (Nat.le_of_ble_eq_true rfl) (rfl) rfl (fun h67 e_h67 => ?_)
  have F_h67_k : h67 k = .inr (8, [.int 52, .ref (k + 1), .ref (k + 2), .ref (k + 3), .ref (k + 4), .ref (k + 5), .null, .int 0, .int 0]) := by rw [e_h67]; exact va_up_eq
  have F_h67__k_1_ : h67 (k + 1) = .inl (1, 53, .inl (fun _ => 0)) := by rw [e_h67, va_up_neq (by omega)]; exact F_h65__k_1_
  have F_h67__k_2_ : h67 (k + 2) = .inl (1, 53, .inl (fun _ => 0)) := by rw [e_h67, va_up_neq (by omega)]; exact F_h65__k_2_
  have F_h67__k_3_ : h67 (k + 3) = .inl (1, 53, .inl (fun _ => 0)) := by rw [e_h67, va_up_neq (by omega)]; exact F_h65__k_3_
  have F_h67__k_4_ : h67 (k + 4) = .inl (1, 53, .inl (fun _ => 0)) := by rw [e_h67, va_up_neq (by omega)]; exact F_h65__k_4_
  have F_h67__k_5_ : h67 (k + 5) = .inl (1, 512, .inl (fun _ => 0)) := by rw [e_h67, va_up_neq (by omega)]; exact F_h65__k_5_
  have FR_h67 : ∀ j, j < k → h67 j = h j := fun j hj => by rw [e_h67]; exact (va_up_neq (by omega)).trans (FR_h65 j hj)
  refine WX.s1 rfl rfl ?_
  refine WX.s1 rfl rfl ?_
  refine WX.s1 rfl rfl ?_
  refine WX.s1 rfl rfl ?_
  refine WX.newaN (N := 512) (z0 := .inl (fun _ => 0)) rfl (by decide) (by decide) (by have := hbig; omega) rfl (fun h74 e_h74 => ?_)
  have F_h74_k : h74 k = .inr (8, [.int 52, .ref (k + 1), .ref (k + 2), .ref (k + 3), .ref (k + 4), .ref (k + 5), .null, .int 0, .int 0]) := by rw [e_h74, va_up_neq (by omega)]; exact F_h67_k
  have F_h74__k_1_ : h74 (k + 1) = .inl (1, 53, .inl (fun _ => 0)) := by rw [e_h74, va_up_neq (by omega)]; exact F_h67__k_1_
  have F_h74__k_2_ : h74 (k + 2) = .inl (1, 53, .inl (fun _ => 0)) := by rw [e_h74, va_up_neq (by omega)]; exact F_h67__k_2_
  have F_h74__k_3_ : h74 (k + 3) = .inl (1, 53, .inl (fun _ => 0)) := by rw [e_h74, va_up_neq (by omega)]; exact F_h67__k_3_
  have F_h74__k_4_ : h74 (k + 4) = .inl (1, 53, .inl (fun _ => 0)) := by rw [e_h74, va_up_neq (by omega)]; exact F_h67__k_4_
  have F_h74__k_5_ : h74 (k + 5) = .inl (1, 512, .inl (fun _ => 0)) := by rw [e_h74, va_up_neq (by omega)]; exact F_h67__k_5_
  have F_h74__k_6_ : h74 (k + 6) = .inl (1, 512, .inl (fun _ => 0)) := by rw [e_h74]; exact va_up_eq
  have FR_h74 : ∀ j, j < k → h74 j = h j := fun j hj => by rw [e_h74]; exact (va_up_neq (by omega)).trans (FR_h67 j hj)
  refine WX.put1 (fs := [.int 52, .ref (k + 1), .ref (k + 2), .ref (k + 3), .ref (k + 4), .ref (k + 5), .null, .int 0, .int 0]) (fs' := [.int 52, .ref (k + 1), .ref (k + 2), .ref (k + 3), .ref (k + 4), .ref (k + 5), .ref (k + 6), .int 0, .int 0]) rfl (by omega) (F_h74_k) (Nat.le_of_ble_eq_true rfl) (rfl) rfl (fun h76 e_h76 => ?_)
  have F_h76_k : h76 k = .inr (8, [.int 52, .ref (k + 1), .ref (k + 2), .ref (k + 3), .ref (k + 4), .ref (k + 5), .ref (k + 6), .int 0, .int 0]) := by rw [e_h76]; exact va_up_eq
  have F_h76__k_1_ : h76 (k + 1) = .inl (1, 53, .inl (fun _ => 0)) := by rw [e_h76, va_up_neq (by omega)]; exact F_h74__k_1_
  have F_h76__k_2_ : h76 (k + 2) = .inl (1, 53, .inl (fun _ => 0)) := by rw [e_h76, va_up_neq (by omega)]; exact F_h74__k_2_
  have F_h76__k_3_ : h76 (k + 3) = .inl (1, 53, .inl (fun _ => 0)) := by rw [e_h76, va_up_neq (by omega)]; exact F_h74__k_3_
  have F_h76__k_4_ : h76 (k + 4) = .inl (1, 53, .inl (fun _ => 0)) := by rw [e_h76, va_up_neq (by omega)]; exact F_h74__k_4_
  have F_h76__k_5_ : h76 (k + 5) = .inl (1, 512, .inl (fun _ => 0)) := by rw [e_h76, va_up_neq (by omega)]; exact F_h74__k_5_
  have F_h76__k_6_ : h76 (k + 6) = .inl (1, 512, .inl (fun _ => 0)) := by rw [e_h76, va_up_neq (by omega)]; exact F_h74__k_6_
  have FR_h76 : ∀ j, j < k → h76 j = h j := fun j hj => by rw [e_h76]; exact (va_up_neq (by omega)).trans (FR_h74 j hj)
  refine WX.ret0 rfl ?_
  exact kk h76 FR_h76 ⟨F_h76_k, F_h76__k_1_, F_h76__k_2_, F_h76__k_3_, F_h76__k_4_, F_h76__k_5_, F_h76__k_6_, trivial⟩
def cDesc (k : Nat) : List aE := [.inr (2, [.ref (k + 1), .ref (k + 2), .ref (k + 3), .ref (k + 10), .ref (k + 12)]), .inl (1, 256, .inl (fun _ => 0)), .inl (1, 12, .inl (fun _ => 0)), .inr (8, [.int 11, .ref (k + 4), .ref (k + 5), .ref (k + 6), .ref (k + 7), .ref (k + 8), .ref (k + 9), .int 0, .int 0]), .inl (1, 12, .inl (fun _ => 0)), .inl (1, 12, .inl (fun _ => 0)), .inl (1, 12, .inl (fun _ => 0)), .inl (1, 12, .inl (fun _ => 0)), .inl (1, 64, .inl (fun _ => 0)), .inl (1, 64, .inl (fun _ => 0)), .inr (7, [.ref (k + 11), .int 0, .int 0, .long 0, .int 0]), .inl (0, 512, .inl (fun _ => 0)), .inr (7, [.ref (k + 13), .int 0, .int 0, .long 0, .int 0]), .inl (0, 512, .inl (fun _ => 0))]
set_option maxRecDepth 20000 in
theorem n_desc {d s : Nat} {h : Nat → aE} {k : Nat} (hbig : k + 15 < aBig) (F_h_k : h k = .inr (2, zX2)) {Ψ : Option Value → aH → Prop} (kk : ∀ h', (∀ j, j < k → h' j = h j) → Cells h' k (cDesc k) → Ψ none (k + 14, s + 1487, h')) : WO (mM (d + 2)) 24 [.ref k] (k + 1, s, h) Ψ := by
  refine WO.of (Nat.le_of_ble_eq_true rfl) ?_
  have FR_h : ∀ j, j < k → h j = h j := fun _ _ => rfl
  show WX (lk tX2_init) (mM (d + 1)) Ψ 0 [(0, .ref k)] [] (k + 1, s, h)
  refine WX.s1 rfl rfl ?_
  refine WX.s1 rfl rfl ?_
  refine WX.s1 rfl rfl ?_
  refine WX.s1 rfl rfl ?_
  refine WX.newaN (N := 256) (z0 := .inl (fun _ => 0)) rfl (by decide) (by decide) (by have := hbig; omega) rfl (fun h8 e_h8 => ?_)
  have F_h8_k : h8 k = .inr (2, [.null, .null, .null, .null, .null]) := by rw [e_h8, va_up_neq (by omega)]; exact F_h_k
  have F_h8__k_1_ : h8 (k + 1) = .inl (1, 256, .inl (fun _ => 0)) := by rw [e_h8]; exact va_up_eq
  have FR_h8 : ∀ j, j < k → h8 j = h j := fun j hj => by rw [e_h8]; exact (va_up_neq (by omega)).trans (FR_h j hj)
  refine WX.put1 (fs := [.null, .null, .null, .null, .null]) (fs' := [.ref (k + 1), .null, .null, .null, .null]) rfl (by omega) (F_h8_k) (Nat.le_of_ble_eq_true rfl) (rfl) rfl (fun h10 e_h10 => ?_)
  have F_h10_k : h10 k = .inr (2, [.ref (k + 1), .null, .null, .null, .null]) := by rw [e_h10]; exact va_up_eq
  have F_h10__k_1_ : h10 (k + 1) = .inl (1, 256, .inl (fun _ => 0)) := by rw [e_h10, va_up_neq (by omega)]; exact F_h8__k_1_
  have FR_h10 : ∀ j, j < k → h10 j = h j := fun j hj => by rw [e_h10]; exact (va_up_neq (by omega)).trans (FR_h8 j hj)
  refine WX.s1 rfl rfl ?_
  refine WX.s1 rfl rfl ?_
  refine WX.newaN (N := 12) (z0 := .inl (fun _ => 0)) rfl (by decide) (by decide) (by have := hbig; omega) rfl (fun h16 e_h16 => ?_)
  have F_h16_k : h16 k = .inr (2, [.ref (k + 1), .null, .null, .null, .null]) := by rw [e_h16, va_up_neq (by omega)]; exact F_h10_k
  have F_h16__k_1_ : h16 (k + 1) = .inl (1, 256, .inl (fun _ => 0)) := by rw [e_h16, va_up_neq (by omega)]; exact F_h10__k_1_
  have F_h16__k_2_ : h16 (k + 2) = .inl (1, 12, .inl (fun _ => 0)) := by rw [e_h16]; exact va_up_eq
  have FR_h16 : ∀ j, j < k → h16 j = h j := fun j hj => by rw [e_h16]; exact (va_up_neq (by omega)).trans (FR_h10 j hj)
  refine WX.put1 (fs := [.ref (k + 1), .null, .null, .null, .null]) (fs' := [.ref (k + 1), .ref (k + 2), .null, .null, .null]) rfl (by omega) (F_h16_k) (Nat.le_of_ble_eq_true rfl) (rfl) rfl (fun h18 e_h18 => ?_)
  have F_h18_k : h18 k = .inr (2, [.ref (k + 1), .ref (k + 2), .null, .null, .null]) := by rw [e_h18]; exact va_up_eq
  have F_h18__k_1_ : h18 (k + 1) = .inl (1, 256, .inl (fun _ => 0)) := by rw [e_h18, va_up_neq (by omega)]; exact F_h16__k_1_
  have F_h18__k_2_ : h18 (k + 2) = .inl (1, 12, .inl (fun _ => 0)) := by rw [e_h18, va_up_neq (by omega)]; exact F_h16__k_2_
  have FR_h18 : ∀ j, j < k → h18 j = h j := fun j hj => by rw [e_h18]; exact (va_up_neq (by omega)).trans (FR_h16 j hj)
  refine WX.s1 rfl rfl ?_
  refine WX.newN rfl (by have := hbig; omega) (fun h22 e_h22 => ?_)
  have F_h22_k : h22 k = .inr (2, [.ref (k + 1), .ref (k + 2), .null, .null, .null]) := by rw [e_h22, va_up_neq (by omega)]; exact F_h18_k
  have F_h22__k_1_ : h22 (k + 1) = .inl (1, 256, .inl (fun _ => 0)) := by rw [e_h22, va_up_neq (by omega)]; exact F_h18__k_1_
  have F_h22__k_2_ : h22 (k + 2) = .inl (1, 12, .inl (fun _ => 0)) := by rw [e_h22, va_up_neq (by omega)]; exact F_h18__k_2_
  have F_h22__k_3_ : h22 (k + 3) = .inr (8, zX8) := by rw [e_h22]; exact va_up_eq
  have FR_h22 : ∀ j, j < k → h22 j = h j := fun j hj => by rw [e_h22]; exact (va_up_neq (by omega)).trans (FR_h18 j hj)
  refine WX.s1 rfl rfl ?_
  refine WX.s1 rfl rfl ?_
  refine WX.s1 rfl rfl ?_
  refine WX.callC (vs := [.ref (k + 3), .int 11, .int 6]) rfl rfl rfl (Nat.le_of_ble_eq_true rfl) (rcv_ok (by omega) F_h22__k_3_) ?_
  refine n_share_11_6 (k := k + 3) (by have := hbig; omega) F_h22__k_3_ (fun h30 fr30 cs30 => ?_)
  have F_h30_k : h30 k = .inr (2, [.ref (k + 1), .ref (k + 2), .null, .null, .null]) := (fr30 k (by omega)).trans F_h22_k
  have F_h30__k_1_ : h30 (k + 1) = .inl (1, 256, .inl (fun _ => 0)) := (fr30 (k + 1) (by omega)).trans F_h22__k_1_
  have F_h30__k_2_ : h30 (k + 2) = .inl (1, 12, .inl (fun _ => 0)) := (fr30 (k + 2) (by omega)).trans F_h22__k_2_
  have F_h30__k_3_ : h30 (k + 3) = .inr (8, [.int 11, .ref (k + 4), .ref (k + 5), .ref (k + 6), .ref (k + 7), .ref (k + 8), .ref (k + 9), .int 0, .int 0]) := cs30.1
  have F_h30__k_4_ : h30 (k + 4) = .inl (1, 12, .inl (fun _ => 0)) := cs30.2.1
  have F_h30__k_5_ : h30 (k + 5) = .inl (1, 12, .inl (fun _ => 0)) := cs30.2.2.1
  have F_h30__k_6_ : h30 (k + 6) = .inl (1, 12, .inl (fun _ => 0)) := cs30.2.2.2.1
  have F_h30__k_7_ : h30 (k + 7) = .inl (1, 12, .inl (fun _ => 0)) := cs30.2.2.2.2.1
  have F_h30__k_8_ : h30 (k + 8) = .inl (1, 64, .inl (fun _ => 0)) := cs30.2.2.2.2.2.1
  have F_h30__k_9_ : h30 (k + 9) = .inl (1, 64, .inl (fun _ => 0)) := cs30.2.2.2.2.2.2.1
  have FR_h30 : ∀ j, j < k → h30 j = h j := fun j hj => (fr30 j (by omega)).trans (FR_h22 j hj)
  show WX _ _ _ 33 [(0, .ref k)] [.ref (k + 3), .ref k] (k + 10, s + 256 + 12 + 9 + 176, h30)
  refine WX.put1 (fs := [.ref (k + 1), .ref (k + 2), .null, .null, .null]) (fs' := [.ref (k + 1), .ref (k + 2), .ref (k + 3), .null, .null]) rfl (by omega) (F_h30_k) (Nat.le_of_ble_eq_true rfl) (rfl) rfl (fun h33 e_h33 => ?_)
  have F_h33_k : h33 k = .inr (2, [.ref (k + 1), .ref (k + 2), .ref (k + 3), .null, .null]) := by rw [e_h33]; exact va_up_eq
  have F_h33__k_1_ : h33 (k + 1) = .inl (1, 256, .inl (fun _ => 0)) := by rw [e_h33, va_up_neq (by omega)]; exact F_h30__k_1_
  have F_h33__k_2_ : h33 (k + 2) = .inl (1, 12, .inl (fun _ => 0)) := by rw [e_h33, va_up_neq (by omega)]; exact F_h30__k_2_
  have F_h33__k_3_ : h33 (k + 3) = .inr (8, [.int 11, .ref (k + 4), .ref (k + 5), .ref (k + 6), .ref (k + 7), .ref (k + 8), .ref (k + 9), .int 0, .int 0]) := by rw [e_h33, va_up_neq (by omega)]; exact F_h30__k_3_
  have F_h33__k_4_ : h33 (k + 4) = .inl (1, 12, .inl (fun _ => 0)) := by rw [e_h33, va_up_neq (by omega)]; exact F_h30__k_4_
  have F_h33__k_5_ : h33 (k + 5) = .inl (1, 12, .inl (fun _ => 0)) := by rw [e_h33, va_up_neq (by omega)]; exact F_h30__k_5_
  have F_h33__k_6_ : h33 (k + 6) = .inl (1, 12, .inl (fun _ => 0)) := by rw [e_h33, va_up_neq (by omega)]; exact F_h30__k_6_
  have F_h33__k_7_ : h33 (k + 7) = .inl (1, 12, .inl (fun _ => 0)) := by rw [e_h33, va_up_neq (by omega)]; exact F_h30__k_7_
  have F_h33__k_8_ : h33 (k + 8) = .inl (1, 64, .inl (fun _ => 0)) := by rw [e_h33, va_up_neq (by omega)]; exact F_h30__k_8_
  have F_h33__k_9_ : h33 (k + 9) = .inl (1, 64, .inl (fun _ => 0)) := by rw [e_h33, va_up_neq (by omega)]; exact F_h30__k_9_
  have FR_h33 : ∀ j, j < k → h33 j = h j := fun j hj => by rw [e_h33]; exact (va_up_neq (by omega)).trans (FR_h30 j hj)
  refine WX.s1 rfl rfl ?_
  refine WX.newN rfl (by have := hbig; omega) (fun h37 e_h37 => ?_)
  have F_h37_k : h37 k = .inr (2, [.ref (k + 1), .ref (k + 2), .ref (k + 3), .null, .null]) := by rw [e_h37, va_up_neq (by omega)]; exact F_h33_k
  have F_h37__k_1_ : h37 (k + 1) = .inl (1, 256, .inl (fun _ => 0)) := by rw [e_h37, va_up_neq (by omega)]; exact F_h33__k_1_
  have F_h37__k_2_ : h37 (k + 2) = .inl (1, 12, .inl (fun _ => 0)) := by rw [e_h37, va_up_neq (by omega)]; exact F_h33__k_2_
  have F_h37__k_3_ : h37 (k + 3) = .inr (8, [.int 11, .ref (k + 4), .ref (k + 5), .ref (k + 6), .ref (k + 7), .ref (k + 8), .ref (k + 9), .int 0, .int 0]) := by rw [e_h37, va_up_neq (by omega)]; exact F_h33__k_3_
  have F_h37__k_4_ : h37 (k + 4) = .inl (1, 12, .inl (fun _ => 0)) := by rw [e_h37, va_up_neq (by omega)]; exact F_h33__k_4_
  have F_h37__k_5_ : h37 (k + 5) = .inl (1, 12, .inl (fun _ => 0)) := by rw [e_h37, va_up_neq (by omega)]; exact F_h33__k_5_
  have F_h37__k_6_ : h37 (k + 6) = .inl (1, 12, .inl (fun _ => 0)) := by rw [e_h37, va_up_neq (by omega)]; exact F_h33__k_6_
  have F_h37__k_7_ : h37 (k + 7) = .inl (1, 12, .inl (fun _ => 0)) := by rw [e_h37, va_up_neq (by omega)]; exact F_h33__k_7_
  have F_h37__k_8_ : h37 (k + 8) = .inl (1, 64, .inl (fun _ => 0)) := by rw [e_h37, va_up_neq (by omega)]; exact F_h33__k_8_
  have F_h37__k_9_ : h37 (k + 9) = .inl (1, 64, .inl (fun _ => 0)) := by rw [e_h37, va_up_neq (by omega)]; exact F_h33__k_9_
  have F_h37__k_10_ : h37 (k + 10) = .inr (7, zX7) := by rw [e_h37]; exact va_up_eq
  have FR_h37 : ∀ j, j < k → h37 j = h j := fun j hj => by rw [e_h37]; exact (va_up_neq (by omega)).trans (FR_h33 j hj)
  refine WX.s1 rfl rfl ?_
  refine WX.s1 rfl rfl ?_
  refine WX.callC (vs := [.ref (k + 10), .int 512]) rfl rfl rfl (Nat.le_of_ble_eq_true rfl) (rcv_ok (by omega) F_h37__k_10_) ?_
  refine n_row (N := 512) (k := k + 10) (by have := hbig; omega) F_h37__k_10_ (by decide) (by decide) (fun h44 fr44 cs44 => ?_)
  have F_h44_k : h44 k = .inr (2, [.ref (k + 1), .ref (k + 2), .ref (k + 3), .null, .null]) := (fr44 k (by omega)).trans F_h37_k
  have F_h44__k_1_ : h44 (k + 1) = .inl (1, 256, .inl (fun _ => 0)) := (fr44 (k + 1) (by omega)).trans F_h37__k_1_
  have F_h44__k_2_ : h44 (k + 2) = .inl (1, 12, .inl (fun _ => 0)) := (fr44 (k + 2) (by omega)).trans F_h37__k_2_
  have F_h44__k_3_ : h44 (k + 3) = .inr (8, [.int 11, .ref (k + 4), .ref (k + 5), .ref (k + 6), .ref (k + 7), .ref (k + 8), .ref (k + 9), .int 0, .int 0]) := (fr44 (k + 3) (by omega)).trans F_h37__k_3_
  have F_h44__k_4_ : h44 (k + 4) = .inl (1, 12, .inl (fun _ => 0)) := (fr44 (k + 4) (by omega)).trans F_h37__k_4_
  have F_h44__k_5_ : h44 (k + 5) = .inl (1, 12, .inl (fun _ => 0)) := (fr44 (k + 5) (by omega)).trans F_h37__k_5_
  have F_h44__k_6_ : h44 (k + 6) = .inl (1, 12, .inl (fun _ => 0)) := (fr44 (k + 6) (by omega)).trans F_h37__k_6_
  have F_h44__k_7_ : h44 (k + 7) = .inl (1, 12, .inl (fun _ => 0)) := (fr44 (k + 7) (by omega)).trans F_h37__k_7_
  have F_h44__k_8_ : h44 (k + 8) = .inl (1, 64, .inl (fun _ => 0)) := (fr44 (k + 8) (by omega)).trans F_h37__k_8_
  have F_h44__k_9_ : h44 (k + 9) = .inl (1, 64, .inl (fun _ => 0)) := (fr44 (k + 9) (by omega)).trans F_h37__k_9_
  have F_h44__k_10_ : h44 (k + 10) = .inr (7, [.ref (k + 11), .int 0, .int 0, .long 0, .int 0]) := cs44.1
  have F_h44__k_11_ : h44 (k + 11) = .inl (0, 512, .inl (fun _ => 0)) := cs44.2.1
  have FR_h44 : ∀ j, j < k → h44 j = h j := fun j hj => (fr44 j (by omega)).trans (FR_h37 j hj)
  show WX _ _ _ 47 [(0, .ref k)] [.ref (k + 10), .ref k] (k + 12, s + 256 + 12 + 9 + 176 + 5 + 512, h44)
  refine WX.put1 (fs := [.ref (k + 1), .ref (k + 2), .ref (k + 3), .null, .null]) (fs' := [.ref (k + 1), .ref (k + 2), .ref (k + 3), .ref (k + 10), .null]) rfl (by omega) (F_h44_k) (Nat.le_of_ble_eq_true rfl) (rfl) rfl (fun h47 e_h47 => ?_)
  have F_h47_k : h47 k = .inr (2, [.ref (k + 1), .ref (k + 2), .ref (k + 3), .ref (k + 10), .null]) := by rw [e_h47]; exact va_up_eq
  have F_h47__k_1_ : h47 (k + 1) = .inl (1, 256, .inl (fun _ => 0)) := by rw [e_h47, va_up_neq (by omega)]; exact F_h44__k_1_
  have F_h47__k_2_ : h47 (k + 2) = .inl (1, 12, .inl (fun _ => 0)) := by rw [e_h47, va_up_neq (by omega)]; exact F_h44__k_2_
  have F_h47__k_3_ : h47 (k + 3) = .inr (8, [.int 11, .ref (k + 4), .ref (k + 5), .ref (k + 6), .ref (k + 7), .ref (k + 8), .ref (k + 9), .int 0, .int 0]) := by rw [e_h47, va_up_neq (by omega)]; exact F_h44__k_3_
  have F_h47__k_4_ : h47 (k + 4) = .inl (1, 12, .inl (fun _ => 0)) := by rw [e_h47, va_up_neq (by omega)]; exact F_h44__k_4_
  have F_h47__k_5_ : h47 (k + 5) = .inl (1, 12, .inl (fun _ => 0)) := by rw [e_h47, va_up_neq (by omega)]; exact F_h44__k_5_
  have F_h47__k_6_ : h47 (k + 6) = .inl (1, 12, .inl (fun _ => 0)) := by rw [e_h47, va_up_neq (by omega)]; exact F_h44__k_6_
  have F_h47__k_7_ : h47 (k + 7) = .inl (1, 12, .inl (fun _ => 0)) := by rw [e_h47, va_up_neq (by omega)]; exact F_h44__k_7_
  have F_h47__k_8_ : h47 (k + 8) = .inl (1, 64, .inl (fun _ => 0)) := by rw [e_h47, va_up_neq (by omega)]; exact F_h44__k_8_
  have F_h47__k_9_ : h47 (k + 9) = .inl (1, 64, .inl (fun _ => 0)) := by rw [e_h47, va_up_neq (by omega)]; exact F_h44__k_9_
  have F_h47__k_10_ : h47 (k + 10) = .inr (7, [.ref (k + 11), .int 0, .int 0, .long 0, .int 0]) := by rw [e_h47, va_up_neq (by omega)]; exact F_h44__k_10_
  have F_h47__k_11_ : h47 (k + 11) = .inl (0, 512, .inl (fun _ => 0)) := by rw [e_h47, va_up_neq (by omega)]; exact F_h44__k_11_
  have FR_h47 : ∀ j, j < k → h47 j = h j := fun j hj => by rw [e_h47]; exact (va_up_neq (by omega)).trans (FR_h44 j hj)
  refine WX.s1 rfl rfl ?_
  refine WX.newN rfl (by have := hbig; omega) (fun h51 e_h51 => ?_)
  have F_h51_k : h51 k = .inr (2, [.ref (k + 1), .ref (k + 2), .ref (k + 3), .ref (k + 10), .null]) := by rw [e_h51, va_up_neq (by omega)]; exact F_h47_k
  have F_h51__k_1_ : h51 (k + 1) = .inl (1, 256, .inl (fun _ => 0)) := by rw [e_h51, va_up_neq (by omega)]; exact F_h47__k_1_
  have F_h51__k_2_ : h51 (k + 2) = .inl (1, 12, .inl (fun _ => 0)) := by rw [e_h51, va_up_neq (by omega)]; exact F_h47__k_2_
  have F_h51__k_3_ : h51 (k + 3) = .inr (8, [.int 11, .ref (k + 4), .ref (k + 5), .ref (k + 6), .ref (k + 7), .ref (k + 8), .ref (k + 9), .int 0, .int 0]) := by rw [e_h51, va_up_neq (by omega)]; exact F_h47__k_3_
  have F_h51__k_4_ : h51 (k + 4) = .inl (1, 12, .inl (fun _ => 0)) := by rw [e_h51, va_up_neq (by omega)]; exact F_h47__k_4_
  have F_h51__k_5_ : h51 (k + 5) = .inl (1, 12, .inl (fun _ => 0)) := by rw [e_h51, va_up_neq (by omega)]; exact F_h47__k_5_
  have F_h51__k_6_ : h51 (k + 6) = .inl (1, 12, .inl (fun _ => 0)) := by rw [e_h51, va_up_neq (by omega)]; exact F_h47__k_6_
  have F_h51__k_7_ : h51 (k + 7) = .inl (1, 12, .inl (fun _ => 0)) := by rw [e_h51, va_up_neq (by omega)]; exact F_h47__k_7_
  have F_h51__k_8_ : h51 (k + 8) = .inl (1, 64, .inl (fun _ => 0)) := by rw [e_h51, va_up_neq (by omega)]; exact F_h47__k_8_
  have F_h51__k_9_ : h51 (k + 9) = .inl (1, 64, .inl (fun _ => 0)) := by rw [e_h51, va_up_neq (by omega)]; exact F_h47__k_9_
  have F_h51__k_10_ : h51 (k + 10) = .inr (7, [.ref (k + 11), .int 0, .int 0, .long 0, .int 0]) := by rw [e_h51, va_up_neq (by omega)]; exact F_h47__k_10_
  have F_h51__k_11_ : h51 (k + 11) = .inl (0, 512, .inl (fun _ => 0)) := by rw [e_h51, va_up_neq (by omega)]; exact F_h47__k_11_
  have F_h51__k_12_ : h51 (k + 12) = .inr (7, zX7) := by rw [e_h51]; exact va_up_eq
  have FR_h51 : ∀ j, j < k → h51 j = h j := fun j hj => by rw [e_h51]; exact (va_up_neq (by omega)).trans (FR_h47 j hj)
  refine WX.s1 rfl rfl ?_
  refine WX.s1 rfl rfl ?_
  refine WX.callC (vs := [.ref (k + 12), .int 512]) rfl rfl rfl (Nat.le_of_ble_eq_true rfl) (rcv_ok (by omega) F_h51__k_12_) ?_
  refine n_row (N := 512) (k := k + 12) (by have := hbig; omega) F_h51__k_12_ (by decide) (by decide) (fun h58 fr58 cs58 => ?_)
  have F_h58_k : h58 k = .inr (2, [.ref (k + 1), .ref (k + 2), .ref (k + 3), .ref (k + 10), .null]) := (fr58 k (by omega)).trans F_h51_k
  have F_h58__k_1_ : h58 (k + 1) = .inl (1, 256, .inl (fun _ => 0)) := (fr58 (k + 1) (by omega)).trans F_h51__k_1_
  have F_h58__k_2_ : h58 (k + 2) = .inl (1, 12, .inl (fun _ => 0)) := (fr58 (k + 2) (by omega)).trans F_h51__k_2_
  have F_h58__k_3_ : h58 (k + 3) = .inr (8, [.int 11, .ref (k + 4), .ref (k + 5), .ref (k + 6), .ref (k + 7), .ref (k + 8), .ref (k + 9), .int 0, .int 0]) := (fr58 (k + 3) (by omega)).trans F_h51__k_3_
  have F_h58__k_4_ : h58 (k + 4) = .inl (1, 12, .inl (fun _ => 0)) := (fr58 (k + 4) (by omega)).trans F_h51__k_4_
  have F_h58__k_5_ : h58 (k + 5) = .inl (1, 12, .inl (fun _ => 0)) := (fr58 (k + 5) (by omega)).trans F_h51__k_5_
  have F_h58__k_6_ : h58 (k + 6) = .inl (1, 12, .inl (fun _ => 0)) := (fr58 (k + 6) (by omega)).trans F_h51__k_6_
  have F_h58__k_7_ : h58 (k + 7) = .inl (1, 12, .inl (fun _ => 0)) := (fr58 (k + 7) (by omega)).trans F_h51__k_7_
  have F_h58__k_8_ : h58 (k + 8) = .inl (1, 64, .inl (fun _ => 0)) := (fr58 (k + 8) (by omega)).trans F_h51__k_8_
  have F_h58__k_9_ : h58 (k + 9) = .inl (1, 64, .inl (fun _ => 0)) := (fr58 (k + 9) (by omega)).trans F_h51__k_9_
  have F_h58__k_10_ : h58 (k + 10) = .inr (7, [.ref (k + 11), .int 0, .int 0, .long 0, .int 0]) := (fr58 (k + 10) (by omega)).trans F_h51__k_10_
  have F_h58__k_11_ : h58 (k + 11) = .inl (0, 512, .inl (fun _ => 0)) := (fr58 (k + 11) (by omega)).trans F_h51__k_11_
  have F_h58__k_12_ : h58 (k + 12) = .inr (7, [.ref (k + 13), .int 0, .int 0, .long 0, .int 0]) := cs58.1
  have F_h58__k_13_ : h58 (k + 13) = .inl (0, 512, .inl (fun _ => 0)) := cs58.2.1
  have FR_h58 : ∀ j, j < k → h58 j = h j := fun j hj => (fr58 j (by omega)).trans (FR_h51 j hj)
  show WX _ _ _ 61 [(0, .ref k)] [.ref (k + 12), .ref k] (k + 14, s + 256 + 12 + 9 + 176 + 5 + 512 + 5 + 512, h58)
  refine WX.put1 (fs := [.ref (k + 1), .ref (k + 2), .ref (k + 3), .ref (k + 10), .null]) (fs' := [.ref (k + 1), .ref (k + 2), .ref (k + 3), .ref (k + 10), .ref (k + 12)]) rfl (by omega) (F_h58_k) (Nat.le_of_ble_eq_true rfl) (rfl) rfl (fun h61 e_h61 => ?_)
  have F_h61_k : h61 k = .inr (2, [.ref (k + 1), .ref (k + 2), .ref (k + 3), .ref (k + 10), .ref (k + 12)]) := by rw [e_h61]; exact va_up_eq
  have F_h61__k_1_ : h61 (k + 1) = .inl (1, 256, .inl (fun _ => 0)) := by rw [e_h61, va_up_neq (by omega)]; exact F_h58__k_1_
  have F_h61__k_2_ : h61 (k + 2) = .inl (1, 12, .inl (fun _ => 0)) := by rw [e_h61, va_up_neq (by omega)]; exact F_h58__k_2_
  have F_h61__k_3_ : h61 (k + 3) = .inr (8, [.int 11, .ref (k + 4), .ref (k + 5), .ref (k + 6), .ref (k + 7), .ref (k + 8), .ref (k + 9), .int 0, .int 0]) := by rw [e_h61, va_up_neq (by omega)]; exact F_h58__k_3_
  have F_h61__k_4_ : h61 (k + 4) = .inl (1, 12, .inl (fun _ => 0)) := by rw [e_h61, va_up_neq (by omega)]; exact F_h58__k_4_
  have F_h61__k_5_ : h61 (k + 5) = .inl (1, 12, .inl (fun _ => 0)) := by rw [e_h61, va_up_neq (by omega)]; exact F_h58__k_5_
  have F_h61__k_6_ : h61 (k + 6) = .inl (1, 12, .inl (fun _ => 0)) := by rw [e_h61, va_up_neq (by omega)]; exact F_h58__k_6_
  have F_h61__k_7_ : h61 (k + 7) = .inl (1, 12, .inl (fun _ => 0)) := by rw [e_h61, va_up_neq (by omega)]; exact F_h58__k_7_
  have F_h61__k_8_ : h61 (k + 8) = .inl (1, 64, .inl (fun _ => 0)) := by rw [e_h61, va_up_neq (by omega)]; exact F_h58__k_8_
  have F_h61__k_9_ : h61 (k + 9) = .inl (1, 64, .inl (fun _ => 0)) := by rw [e_h61, va_up_neq (by omega)]; exact F_h58__k_9_
  have F_h61__k_10_ : h61 (k + 10) = .inr (7, [.ref (k + 11), .int 0, .int 0, .long 0, .int 0]) := by rw [e_h61, va_up_neq (by omega)]; exact F_h58__k_10_
  have F_h61__k_11_ : h61 (k + 11) = .inl (0, 512, .inl (fun _ => 0)) := by rw [e_h61, va_up_neq (by omega)]; exact F_h58__k_11_
  have F_h61__k_12_ : h61 (k + 12) = .inr (7, [.ref (k + 13), .int 0, .int 0, .long 0, .int 0]) := by rw [e_h61, va_up_neq (by omega)]; exact F_h58__k_12_
  have F_h61__k_13_ : h61 (k + 13) = .inl (0, 512, .inl (fun _ => 0)) := by rw [e_h61, va_up_neq (by omega)]; exact F_h58__k_13_
  have FR_h61 : ∀ j, j < k → h61 j = h j := fun j hj => by rw [e_h61]; exact (va_up_neq (by omega)).trans (FR_h58 j hj)
  refine WX.ret0 rfl ?_
  exact kk h61 FR_h61 ⟨F_h61_k, F_h61__k_1_, F_h61__k_2_, F_h61__k_3_, F_h61__k_4_, F_h61__k_5_, F_h61__k_6_, F_h61__k_7_, F_h61__k_8_, F_h61__k_9_, F_h61__k_10_, F_h61__k_11_, F_h61__k_12_, F_h61__k_13_, trivial⟩
def lat0 : Nat → Int32 := upd (upd (upd (fun _ => 0) 0 1) 1 4) 2 8
