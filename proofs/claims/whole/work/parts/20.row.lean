/-! Row: what its methods do (rows laid by a program) -/
set_option maxRecDepth 20000 in
theorem w_drop {d n s : Nat} {h : Nat → aE} {k N u : Nat} {g : Nat → Int32} {sp hd : Int32} {ho : Int64} (hn : k + 1 < n) (r : RowAt h k N g u sp ho hd) {Ψ : Option Value → aH → Prop} (kk : ∀ h', Fr h h' (fun j => j = k) → RowAt h' k N g 0 0 0 0 → Ψ none (n, s, h')) : WO (mM (d + 1)) 86 [.ref k] (n, s, h) Ψ := by
  obtain ⟨F_h_k, F_h__k_1_⟩ := r
  refine WO.of (Nat.le_of_ble_eq_true rfl) ?_
  show WX (lk tX7_drop) (mM d) Ψ 0 [(0, .ref k)] [] (n, s, h)
  refine WX.s1 rfl rfl ?_
  refine WX.s1 rfl rfl ?_
  refine WX.putNI (fs := [.ref (k + 1), .int (nI u), .int sp, .long ho, .int hd]) (fs' := fun f2 => [.ref (k + 1), .int f2, .int sp, .long ho, .int hd]) rfl (by omega) (F_h_k) (Nat.le_of_ble_eq_true rfl) (fun _ => rfl) (fun f2 h2 e_f2 e_h2 => ?_)
  try dsimp only at e_f2
  have F_h2_k : h2 k = .inr (7, [.ref (k + 1), .int f2, .int sp, .long ho, .int hd]) := by rw [e_h2]; exact va_up_eq
  have F_h2__k_1_ : h2 (k + 1) = .inl (0, N, .inl g) := by rw [e_h2, va_up_neq (by omega)]; exact F_h__k_1_
  refine WX.s1 rfl rfl ?_
  refine WX.s1 rfl rfl ?_
  refine WX.put1 (fs := [.ref (k + 1), .int f2, .int sp, .long ho, .int hd]) (fs' := [.ref (k + 1), .int f2, .int 0, .long ho, .int hd]) rfl (by omega) (F_h2_k) (Nat.le_of_ble_eq_true rfl) (rfl) rfl (fun h7 e_h7 => ?_)
  have F_h7_k : h7 k = .inr (7, [.ref (k + 1), .int f2, .int 0, .long ho, .int hd]) := by rw [e_h7]; exact va_up_eq
  have F_h7__k_1_ : h7 (k + 1) = .inl (0, N, .inl g) := by rw [e_h7, va_up_neq (by omega)]; exact F_h2__k_1_
  refine WX.s1 rfl rfl ?_
  refine WX.s1 rfl rfl ?_
  refine WX.putNL (fs := [.ref (k + 1), .int f2, .int 0, .long ho, .int hd]) (fs' := fun f12 => [.ref (k + 1), .int f2, .int 0, .long f12, .int hd]) rfl (by omega) (F_h7_k) (Nat.le_of_ble_eq_true rfl) (fun _ => rfl) (fun f12 h12 e_f12 e_h12 => ?_)
  try dsimp only at e_f12
  have F_h12_k : h12 k = .inr (7, [.ref (k + 1), .int f2, .int 0, .long f12, .int hd]) := by rw [e_h12]; exact va_up_eq
  have F_h12__k_1_ : h12 (k + 1) = .inl (0, N, .inl g) := by rw [e_h12, va_up_neq (by omega)]; exact F_h7__k_1_
  refine WX.s1 rfl rfl ?_
  refine WX.s1 rfl rfl ?_
  refine WX.putNI (fs := [.ref (k + 1), .int f2, .int 0, .long f12, .int hd]) (fs' := fun f17 => [.ref (k + 1), .int f2, .int 0, .long f12, .int f17]) rfl (by omega) (F_h12_k) (Nat.le_of_ble_eq_true rfl) (fun _ => rfl) (fun f17 h17 e_f17 e_h17 => ?_)
  try dsimp only at e_f17
  have F_h17_k : h17 k = .inr (7, [.ref (k + 1), .int f2, .int 0, .long f12, .int f17]) := by rw [e_h17]; exact va_up_eq
  have F_h17__k_1_ : h17 (k + 1) = .inl (0, N, .inl g) := by rw [e_h17, va_up_neq (by omega)]; exact F_h12__k_1_
  refine WX.ret0 rfl (kk h17 (fun j hj => by rw [e_h17, va_up_neq (by omega)]; rw [e_h12, va_up_neq (by omega)]; rw [e_h7, va_up_neq (by omega)]; rw [e_h2, va_up_neq (by omega)]) ⟨?_, F_h17__k_1_⟩)
  rw [F_h17_k, e_f2, e_f12, e_f17]; rfl
set_option maxRecDepth 20000 in
theorem w_put {d n s : Nat} {h : Nat → aE} {k N u : Nat} {g : Nat → Int32} {sp hd : Int32} {ho : Int64} {v : Int32} (hn : k + 1 < n) (r : RowAt h k N g u sp ho hd) (hu : u ≤ N) (hN : N < 2 ^ 31) {Ψ : Option Value → aH → Prop} (kk : ∀ h', Fr h h' (fun j => j = k ∨ j = k + 1) → (u < N → RowAt h' k N (upd g u v.toInt8.toInt32) (u + 1) sp ho hd) → (N ≤ u → RowAt h' k N g u 1 ho hd) → Ψ none (n, s, h')) : WO (mM (d + 1)) 87 [.ref k, .int v] (n, s, h) Ψ := by
  obtain ⟨F_h_k, F_h__k_1_⟩ := r
  refine WO.of (Nat.le_of_ble_eq_true rfl) ?_
  show WX (lk tX7_put) (mM d) Ψ 0 [(0, .ref k), (1, .int v)] [] (n, s, h)
  refine WX.s1 rfl rfl ?_
  refine WX.get1 (fs := [.ref (k + 1), .int (nI u), .int sp, .long ho, .int hd]) rfl (by omega) (F_h_k) rfl ?_
  refine WX.s1 rfl rfl ?_
  refine WX.get1 (fs := [.ref (k + 1), .int (nI u), .int sp, .long ho, .int hd]) rfl (by omega) (F_h_k) rfl ?_
  refine WX.len1 rfl (Or.inl ⟨by omega, by decide⟩) (F_h__k_1_) ?_
  refine WX.icmp rfl (fun c_9 => ?_) (fun c_9 => ?_)
  · skip
    refine WX.s1 rfl rfl ?_
    refine WX.s1 rfl rfl ?_
    refine WX.put1 (fs := [.ref (k + 1), .int (nI u), .int sp, .long ho, .int hd]) (fs' := [.ref (k + 1), .int (nI u), .int 1, .long ho, .int hd]) rfl (by omega) (F_h_k) (Nat.le_of_ble_eq_true rfl) (rfl) rfl (fun h38 e_h38 => ?_)
    have F_h38_k : h38 k = .inr (7, [.ref (k + 1), .int (nI u), .int 1, .long ho, .int hd]) := by rw [e_h38]; exact va_up_eq
    have F_h38__k_1_ : h38 (k + 1) = .inl (0, N, .inl g) := by rw [e_h38, va_up_neq (by omega)]; exact F_h__k_1_
    have hge : N ≤ u := Nat.le_of_not_lt (fun q => nI_ge q hN c_9)
    exact WX.ret0 rfl (kk h38 (fun j hj => by rw [e_h38, va_up_neq (by omega)]) (fun q => absurd q (Nat.not_lt.mpr hge)) (fun _ => ⟨F_h38_k, F_h38__k_1_⟩))
  · skip
    refine WX.s1 rfl rfl ?_
    refine WX.get1 (fs := [.ref (k + 1), .int (nI u), .int sp, .long ho, .int hd]) rfl (by omega) (F_h_k) rfl ?_
    refine WX.s1 rfl rfl ?_
    refine WX.get1 (fs := [.ref (k + 1), .int (nI u), .int sp, .long ho, .int hd]) rfl (by omega) (F_h_k) rfl ?_
    refine WX.s1 rfl rfl ?_
    refine WX.s1 rfl rfl ?_
    refine WX.bastN rfl (by omega) (F_h__k_1_) (vp_in_nI (Nat.lt_of_not_le (fun q => c_9 (nI_le q (by omega)))) hN) (fun g22 h22 e_g22 e_h22 => ?_)
    try dsimp only at e_g22
    have F_h22_k : h22 k = .inr (7, [.ref (k + 1), .int (nI u), .int sp, .long ho, .int hd]) := by rw [e_h22, va_up_neq (by omega)]; exact F_h_k
    have F_h22__k_1_ : h22 (k + 1) = .inl (0, N, .inl g22) := by rw [e_h22]; exact va_up_eq
    refine WX.s1 rfl rfl ?_
    refine WX.s1 rfl rfl ?_
    refine WX.get1 (fs := [.ref (k + 1), .int (nI u), .int sp, .long ho, .int hd]) rfl (by omega) (F_h22_k) rfl ?_
    refine WX.s1 rfl rfl ?_
    refine WX.s1 rfl rfl ?_
    refine WX.putNI (fs := [.ref (k + 1), .int (nI u), .int sp, .long ho, .int hd]) (fs' := fun f30 => [.ref (k + 1), .int f30, .int sp, .long ho, .int hd]) rfl (by omega) (F_h22_k) (Nat.le_of_ble_eq_true rfl) (fun _ => rfl) (fun f30 h30 e_f30 e_h30 => ?_)
    try dsimp only at e_f30
    have F_h30_k : h30 k = .inr (7, [.ref (k + 1), .int f30, .int sp, .long ho, .int hd]) := by rw [e_h30]; exact va_up_eq
    have F_h30__k_1_ : h30 (k + 1) = .inl (0, N, .inl g22) := by rw [e_h30, va_up_neq (by omega)]; exact F_h22__k_1_
    refine WX.s1 rfl rfl ?_
    have hlt : u < N := Nat.lt_of_not_le (fun q => c_9 (nI_le q (by omega)))
    refine WX.ret0 rfl (kk h30 (fun j hj => by rw [e_h30, va_up_neq (by omega)]; rw [e_h22, va_up_neq (by omega)]) (fun _ => ⟨?_, ?_⟩) (fun q => absurd hlt (Nat.not_lt.mpr q)))
    · rw [F_h30_k, e_f30, nI_1]
    · rw [F_h30__k_1_, e_g22, nI_clamp (by omega), vp_b8]
