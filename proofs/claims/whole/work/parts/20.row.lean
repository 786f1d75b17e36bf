/-! Row: what its methods do (rows laid by a program) -/
set_option maxRecDepth 20000 in
theorem w_drop {d n s : Nat} {h : Nat → aE} {k N u : Nat} {g : Nat → Int32} {sp hd : Int32} {ho : Int64} (hn : k + 1 < n) (r : RowAt h k N g u sp ho hd) {Ψ : Option Value → aH → Prop} (kk : ∀ h', Fr h h' (fun j => j = k) → RowAt h' k N g 0 0 0 0 → Ψ none (n, s, h')) : WO (mM (d + 1)) 85 [.ref k] (n, s, h) Ψ := by
  obtain ⟨F_h_k, F_h__k_1_⟩ := r
  refine WO.of (Nat.le_of_ble_eq_true rfl) ?_
  show WX (lk tX7_drop) (mM d) Ψ 0 [(0, .ref k)] [] (n, s, h)
  refine WX.s1 rfl rfl ?_
  refine WX.s1 rfl rfl ?_
  refine WX.putNI (fs := [.ref (k + 1), .int (nI u), .int sp, .long ho, .int hd]) (fs' := fun f2 => [.ref (k + 1), .int f2, .int sp, .long ho, .int hd]) rfl (by omega) (F_h_k) (Nat.le_of_ble_eq_true rfl) (fun _ => rfl) (fun f2 h2 e_f2 e_h2 => ?_)
  try dsimp only at e_f2
  have F_h2_k : h2 k = .inr (7, [.ref (k + 1), .int f2, .int sp, .long ho, .int hd]) := by rw [e_h2]; exact va_up_eq
  have F_h2__k_1_ : h2 (k + 1) = .inl (0, N, .inl g) := by rw [e_h2, va_up_neq (nek0 (a := 1) (by decide))]; exact F_h__k_1_
  refine WX.s1 rfl rfl ?_
  refine WX.s1 rfl rfl ?_
  refine WX.put1 (fs := [.ref (k + 1), .int f2, .int sp, .long ho, .int hd]) (fs' := [.ref (k + 1), .int f2, .int 0, .long ho, .int hd]) rfl (by omega) (F_h2_k) (Nat.le_of_ble_eq_true rfl) (rfl) rfl (fun h7 e_h7 => ?_)
  have F_h7_k : h7 k = .inr (7, [.ref (k + 1), .int f2, .int 0, .long ho, .int hd]) := by rw [e_h7]; exact va_up_eq
  have F_h7__k_1_ : h7 (k + 1) = .inl (0, N, .inl g) := by rw [e_h7, va_up_neq (nek0 (a := 1) (by decide))]; exact F_h2__k_1_
  refine WX.s1 rfl rfl ?_
  refine WX.s1 rfl rfl ?_
  refine WX.putNL (fs := [.ref (k + 1), .int f2, .int 0, .long ho, .int hd]) (fs' := fun f12 => [.ref (k + 1), .int f2, .int 0, .long f12, .int hd]) rfl (by omega) (F_h7_k) (Nat.le_of_ble_eq_true rfl) (fun _ => rfl) (fun f12 h12 e_f12 e_h12 => ?_)
  try dsimp only at e_f12
  have F_h12_k : h12 k = .inr (7, [.ref (k + 1), .int f2, .int 0, .long f12, .int hd]) := by rw [e_h12]; exact va_up_eq
  have F_h12__k_1_ : h12 (k + 1) = .inl (0, N, .inl g) := by rw [e_h12, va_up_neq (nek0 (a := 1) (by decide))]; exact F_h7__k_1_
  refine WX.s1 rfl rfl ?_
  refine WX.s1 rfl rfl ?_
  refine WX.putNI (fs := [.ref (k + 1), .int f2, .int 0, .long f12, .int hd]) (fs' := fun f17 => [.ref (k + 1), .int f2, .int 0, .long f12, .int f17]) rfl (by omega) (F_h12_k) (Nat.le_of_ble_eq_true rfl) (fun _ => rfl) (fun f17 h17 e_f17 e_h17 => ?_)
  try dsimp only at e_f17
  have F_h17_k : h17 k = .inr (7, [.ref (k + 1), .int f2, .int 0, .long f12, .int f17]) := by rw [e_h17]; exact va_up_eq
  have F_h17__k_1_ : h17 (k + 1) = .inl (0, N, .inl g) := by rw [e_h17, va_up_neq (nek0 (a := 1) (by decide))]; exact F_h12__k_1_
  refine WX.ret0 rfl (kk h17 (fun j hj => by rw [e_h17, va_up_neq (by omega)]; rw [e_h12, va_up_neq (by omega)]; rw [e_h7, va_up_neq (by omega)]; rw [e_h2, va_up_neq (by omega)]) ⟨?_, F_h17__k_1_⟩)
  rw [F_h17_k, e_f2, e_f12, e_f17]; rfl
set_option maxRecDepth 20000 in
theorem w_put {d n s : Nat} {h : Nat → aE} {k N u : Nat} {g : Nat → Int32} {sp hd : Int32} {ho : Int64} {v : Int32} (hn : k + 1 < n) (r : RowAt h k N g u sp ho hd) (hu : u ≤ N) (hN : N < 2 ^ 31) {Ψ : Option Value → aH → Prop} (kk : ∀ h', Fr h h' (fun j => j = k ∨ j = k + 1) → (u < N → RowAt h' k N (upd g u v.toInt8.toInt32) (u + 1) sp ho hd) → (N ≤ u → RowAt h' k N g u 1 ho hd) → Ψ none (n, s, h')) : WO (mM (d + 1)) 86 [.ref k, .int v] (n, s, h) Ψ := by
  obtain ⟨F_h_k, F_h__k_1_⟩ := r
  refine WO.of (Nat.le_of_ble_eq_true rfl) ?_
  show WX (lk tX7_put) (mM d) Ψ 0 [(0, .ref k), (1, .int v)] [] (n, s, h)
  refine WX.s1 rfl rfl ?_
  refine WX.get1 (fs := [.ref (k + 1), .int (nI u), .int sp, .long ho, .int hd]) rfl (by omega) (F_h_k) rfl ?_
  refine WX.s1 rfl rfl ?_
  refine WX.get1 (fs := [.ref (k + 1), .int (nI u), .int sp, .long ho, .int hd]) rfl (by omega) (F_h_k) rfl ?_
  refine WX.len1 rfl (Or.inl ⟨by omega, by decide⟩) (F_h__k_1_) ?_
  refine WX.icmp rfl (fun c_9 => ?_) (fun c_9 => ?_)
  · skip
    refine WX.s1 rfl rfl ?_
    refine WX.s1 rfl rfl ?_
    refine WX.put1 (fs := [.ref (k + 1), .int (nI u), .int sp, .long ho, .int hd]) (fs' := [.ref (k + 1), .int (nI u), .int 1, .long ho, .int hd]) rfl (by omega) (F_h_k) (Nat.le_of_ble_eq_true rfl) (rfl) rfl (fun h38 e_h38 => ?_)
    have F_h38_k : h38 k = .inr (7, [.ref (k + 1), .int (nI u), .int 1, .long ho, .int hd]) := by rw [e_h38]; exact va_up_eq
    have F_h38__k_1_ : h38 (k + 1) = .inl (0, N, .inl g) := by rw [e_h38, va_up_neq (nek0 (a := 1) (by decide))]; exact F_h__k_1_
    have hge : N ≤ u := Nat.le_of_not_lt (fun q => nI_ge q hN c_9)
    exact WX.ret0 rfl (kk h38 (fun j hj => by rw [e_h38, va_up_neq (by omega)]) (fun q => absurd q (Nat.not_lt.mpr hge)) (fun _ => ⟨F_h38_k, F_h38__k_1_⟩))
  · skip
    refine WX.s1 rfl rfl ?_
    refine WX.get1 (fs := [.ref (k + 1), .int (nI u), .int sp, .long ho, .int hd]) rfl (by omega) (F_h_k) rfl ?_
    refine WX.s1 rfl rfl ?_
    refine WX.get1 (fs := [.ref (k + 1), .int (nI u), .int sp, .long ho, .int hd]) rfl (by omega) (F_h_k) rfl ?_
    refine WX.s1 rfl rfl ?_
    refine WX.s1 rfl rfl ?_
    refine WX.bastN rfl (by omega) (F_h__k_1_) (vp_in_nI (Nat.lt_of_not_le (fun q => c_9 (nI_le q (by omega)))) hN) (fun g22 h22 e_g22 e_h22 => ?_)
    try dsimp only at e_g22
    have F_h22_k : h22 k = .inr (7, [.ref (k + 1), .int (nI u), .int sp, .long ho, .int hd]) := by rw [e_h22, va_up_neq (nek1 (a := 1) (by decide))]; exact F_h_k
    have F_h22__k_1_ : h22 (k + 1) = .inl (0, N, .inl g22) := by rw [e_h22]; exact va_up_eq
    refine WX.s1 rfl rfl ?_
    refine WX.s1 rfl rfl ?_
    refine WX.get1 (fs := [.ref (k + 1), .int (nI u), .int sp, .long ho, .int hd]) rfl (by omega) (F_h22_k) rfl ?_
    refine WX.s1 rfl rfl ?_
    refine WX.s1 rfl rfl ?_
    refine WX.putNI (fs := [.ref (k + 1), .int (nI u), .int sp, .long ho, .int hd]) (fs' := fun f30 => [.ref (k + 1), .int f30, .int sp, .long ho, .int hd]) rfl (by omega) (F_h22_k) (Nat.le_of_ble_eq_true rfl) (fun _ => rfl) (fun f30 h30 e_f30 e_h30 => ?_)
    try dsimp only at e_f30
    have F_h30_k : h30 k = .inr (7, [.ref (k + 1), .int f30, .int sp, .long ho, .int hd]) := by rw [e_h30]; exact va_up_eq
    have F_h30__k_1_ : h30 (k + 1) = .inl (0, N, .inl g22) := by rw [e_h30, va_up_neq (nek0 (a := 1) (by decide))]; exact F_h22__k_1_
    refine WX.s1 rfl rfl ?_
    have hlt : u < N := Nat.lt_of_not_le (fun q => c_9 (nI_le q (by omega)))
    refine WX.ret0 rfl (kk h30 (fun j hj => by rw [e_h30, va_up_neq (by omega)]; rw [e_h22, va_up_neq (by omega)]) (fun _ => ⟨?_, ?_⟩) (fun q => absurd hlt (Nat.not_lt.mpr q)))
    · rw [F_h30_k, e_f30, nI_1]
    · rw [F_h30__k_1_, e_g22, nI_clamp (by omega), vp_b8]
set_option maxRecDepth 20000 in
theorem w_at {d n s : Nat} {h : Nat → aE} {k N u : Nat} {g : Nat → Int32} {sp hd : Int32} {ho : Int64} {x : Int32} (hn : k + 1 < n) (r : RowAt h k N g u sp ho hd) (hu : u ≤ N) (hN : N < 2 ^ 31) {Ψ : Option Value → aH → Prop} (k1 : ∀ i, x = nI i → i < u → Ψ (some (.int (g i &&& 255))) (n, s, h)) (k2 : (x < 0 ∨ nI u ≤ x) → Ψ (some (.int (-1))) (n, s, h)) : WO (mM (d + 1)) 93 [.ref k, .int x] (n, s, h) Ψ := by
  obtain ⟨F_h_k, F_h__k_1_⟩ := r
  refine WO.of (Nat.le_of_ble_eq_true rfl) ?_
  show WX (lk tX7_at) (mM d) Ψ 0 [(0, .ref k), (1, .int x)] [] (n, s, h)
  refine WX.s1 rfl rfl ?_
  refine WX.if_ rfl (fun c_1 => ?_) (fun c_1 => ?_)
  · skip
    refine WX.s1 rfl rfl ?_
    exact WX.ret1 rfl (k2 (by first | exact Or.inl c_1 | exact Or.inr c_9))
  · skip
    refine WX.s1 rfl rfl ?_
    refine WX.s1 rfl rfl ?_
    refine WX.get1 (fs := [.ref (k + 1), .int (nI u), .int sp, .long ho, .int hd]) rfl (by omega) (F_h_k) rfl ?_
    refine WX.icmp rfl (fun c_9 => ?_) (fun c_9 => ?_)
    · skip
      refine WX.s1 rfl rfl ?_
      exact WX.ret1 rfl (k2 (by first | exact Or.inl c_1 | exact Or.inr c_9))
    · skip
      obtain ⟨i, hi, hi2⟩ : ∃ i, x = nI i ∧ i < u := by
        rcases pk_ix x (show u < 2 ^ 31 by omega) with q | q | ⟨i, q1, q2⟩
        · exact absurd q c_1
        · exact absurd q c_9
        · exact ⟨i, q2, q1⟩
      refine WX.s1 rfl rfl ?_
      refine WX.get1 (fs := [.ref (k + 1), .int (nI u), .int sp, .long ho, .int hd]) rfl (by omega) (F_h_k) rfl ?_
      refine WX.s1 rfl rfl ?_
      refine WX.bald1 rfl (by omega) (F_h__k_1_) (by rw [hi]; exact vp_in_nI (by omega) hN) ?_
      refine WX.s1 rfl rfl ?_
      refine WX.s1 rfl rfl ?_
      refine WX.s1 rfl rfl ?_
      refine WX.ret1 rfl ?_
      show Ψ (some (.int (g x.toNatClampNeg &&& 255))) (n, s, h)
      have e := k1 i hi hi2
      rw [hi, nI_clamp (by omega)]
      exact e
set_option maxRecDepth 20000 in
theorem w_rowInit {d s : Nat} {h : Nat → aE} {k N : Nat} (hbig : k + 2 < aBig) (F_h_k : h k = .inr (7, zX7)) (hN : N ≤ 60000) {Ψ : Option Value → aH → Prop} (kk : ∀ h', Fr h h' (fun j => j = k ∨ j = k + 1) → RowAt h' k N (fun _ => 0) 0 0 0 0 → Ψ none (k + 2, s + N, h')) : WO (mM (d + 1)) 84 [.ref k, .int (nI N)] (k + 1, s, h) Ψ := by
  refine WO.of (Nat.le_of_ble_eq_true rfl) ?_
  show WX (lk tX7_init) (mM d) Ψ 0 [(0, .ref k), (1, .int (nI N))] [] (k + 1, s, h)
  refine WX.s1 rfl rfl ?_
  refine WX.s1 rfl rfl ?_
  refine WX.s1 rfl rfl ?_
  refine WX.s1 rfl rfl ?_
  refine WX.s1 rfl rfl ?_
  refine WX.s1 rfl rfl ?_
  refine WX.newaN (N := N) (z0 := .inl (fun _ => 0)) rfl (by show (if nI N < 0 then 0 else nI N) = nI N; rw [if_neg (nI_pos (by omega))]) (by omega) (bigk (k := k) (a := 2) hbig (by decide)) rfl (fun h10 e_h10 => ?_)
  have F_h10_k : h10 k = .inr (7, [.null, .int 0, .int 0, .long 0, .int 0]) := by rw [e_h10, va_up_neq (nek1 (a := 1) (by decide))]; exact F_h_k
  have F_h10__k_1_ : h10 (k + 1) = .inl (0, N, .inl (fun _ => 0)) := by rw [e_h10]; exact va_up_eq
  refine WX.put1 (fs := [.null, .int 0, .int 0, .long 0, .int 0]) (fs' := [.ref (k + 1), .int 0, .int 0, .long 0, .int 0]) rfl (ltk0 (c := 2) (by decide)) (F_h10_k) (Nat.le_of_ble_eq_true rfl) (rfl) rfl (fun h12 e_h12 => ?_)
  have F_h12_k : h12 k = .inr (7, [.ref (k + 1), .int 0, .int 0, .long 0, .int 0]) := by rw [e_h12]; exact va_up_eq
  have F_h12__k_1_ : h12 (k + 1) = .inl (0, N, .inl (fun _ => 0)) := by rw [e_h12, va_up_neq (nek0 (a := 1) (by decide))]; exact F_h10__k_1_
  exact WX.ret0 rfl (kk h12 (fun j hj => by rw [e_h12, va_up_neq (by omega)]; rw [e_h10, va_up_neq (by omega)]) ⟨F_h12_k, F_h12__k_1_⟩)
set_option maxRecDepth 20000 in
theorem w_putCells {d n s : Nat} {h : Nat → aE} {k N u : Nat} {g : Nat → Int32} {sp hd : Int32} {ho : Int64} {q M a b : Nat} {f : Nat → Int32} (hn : k + 1 < n) (r : RowAt h k N g u sp ho hd) (hu : u ≤ N) (hN : N < 2 ^ 31) (hq : q < n) (hqk : q ≠ k + 1) (hqk0 : q ≠ k) (F_h_q : h q = .inl (0, M, .inl f)) (hab : a ≤ b) (hbM : b ≤ M) (hM : M < 2 ^ 30) {Ψ : Option Value → aH → Prop} (kk : ∀ h', Fr h h' (fun j => j = k ∨ j = k + 1) → (a = b → RowAt h' k N g u sp ho hd) → (a < b → N < u + (b - a) → RowAt h' k N g u 1 ho hd) → (a < b → u + (b - a) ≤ N → RowAt h' k N (va_cpy f g a u (b - a)) (u + (b - a)) sp ho hd) → Ψ none (n, s, h')) : WO (mM (d + 1)) 89 [.ref k, .ref q, .int (nI a), .int (nI b)] (n, s, h) Ψ := by
  obtain ⟨F_h_k, F_h__k_1_⟩ := r
  refine WO.of (Nat.le_of_ble_eq_true rfl) ?_
  show WX (lk tX7_putCells) (mM d) Ψ 0 [(0, .ref k), (1, .ref q), (2, .int (nI a)), (3, .int (nI b))] [] (n, s, h)
  refine WX.s1 rfl rfl ?_
  refine WX.s1 rfl rfl ?_
  refine WX.s1 rfl rfl ?_
  refine WX.isN (L' := fun x3 => [(0, .ref k), (1, .ref q), (2, .int (nI a)), (3, .int (nI b)), (4, .int x3)]) rfl (fun _ => rfl) (fun x3 e_x3 => ?_)
  try dsimp only at e_x3
  rw [pk_sub hab] at e_x3
  refine WX.s1 rfl rfl ?_
  refine WX.if_ rfl (fun c_7 => ?_) (fun c_7 => ?_)
  · skip
    have heq : a = b := by
      rcases Nat.lt_or_ge a b with z | z
      · have c1 : x3 ≤ 0 := c_7
        rw [e_x3] at c1
        exact absurd c1 (nI_nle (by omega) (by omega))
      · omega
    exact WX.ret0 rfl (kk h Fr.rf (fun _ => ⟨F_h_k, F_h__k_1_⟩) (fun z => absurd heq (by omega)) (fun z => absurd heq (by omega)))
  · skip
    refine WX.s1 rfl rfl ?_
    refine WX.if_ rfl (fun c_11 => absurd c_11 (nI_pos (by omega))) (fun c_11 => ?_)
    refine WX.s1 rfl rfl ?_
    refine WX.s1 rfl rfl ?_
    refine WX.len1 rfl (Or.inl ⟨by omega, by decide⟩) (F_h_q) ?_
    refine WX.icmp rfl (fun c_17 => ?_) (fun c_17 => absurd (nI_le hbM (by omega)) c_17)
    have hlt : a < b := by
      rcases Nat.lt_or_ge a b with z | z
      · exact z
      · exact absurd (by rw [e_x3, show b - a = 0 by omega]; decide) c_7
    refine WX.s1 rfl rfl ?_
    refine WX.s1 rfl rfl ?_
    refine WX.get1 (fs := [.ref (k + 1), .int (nI u), .int sp, .long ho, .int hd]) rfl (by omega) (F_h_k) rfl ?_
    refine WX.len1 rfl (Or.inl ⟨by omega, by decide⟩) (F_h__k_1_) ?_
    refine WX.s1 rfl rfl ?_
    refine WX.get1 (fs := [.ref (k + 1), .int (nI u), .int sp, .long ho, .int hd]) rfl (by omega) (F_h_k) rfl ?_
    refine WX.s1 rfl rfl ?_
    refine WX.icmp rfl (fun c_33 => ?_) (fun c_33 => ?_)
    · skip
      have hfit : u + (b - a) ≤ N := by
        have c1 : x3 ≤ nI N - nI u := c_33
        rw [e_x3, pk_sub hu] at c1
        have := (nI_leI (by omega) (by omega)).mp c1
        omega
      refine WX.s1 rfl rfl ?_
      refine WX.s1 rfl rfl ?_
      refine WX.s1 rfl rfl ?_
      refine WX.get1 (fs := [.ref (k + 1), .int (nI u), .int sp, .long ho, .int hd]) rfl (by omega) (F_h_k) rfl ?_
      refine WX.s1 rfl rfl ?_
      refine WX.get1 (fs := [.ref (k + 1), .int (nI u), .int sp, .long ho, .int hd]) rfl (by omega) (F_h_k) rfl ?_
      refine WX.s1 rfl rfl ?_
      refine WX.copyN rfl (Nat.le_of_ble_eq_true rfl) (Or.inl (by omega)) (F_h_q) (by omega) (F_h__k_1_) rfl rfl e_x3 (by omega) (by omega) (by omega) hN (fun g54 h54 e_g54 e_h54 => ?_)
      have F_h54_k : h54 k = .inr (7, [.ref (k + 1), .int (nI u), .int sp, .long ho, .int hd]) := by rw [e_h54, va_up_neq (nek1 (a := 1) (by decide))]; exact F_h_k
      have F_h54__k_1_ : h54 (k + 1) = .inl (0, N, .inl g54) := by rw [e_h54]; exact va_up_eq
      have F_h54_q : h54 q = .inl (0, M, .inl f) := by rw [e_h54, va_up_neq (by omega)]; exact F_h_q
      refine WX.s1 rfl rfl ?_
      refine WX.s1 rfl rfl ?_
      refine WX.get1 (fs := [.ref (k + 1), .int (nI u), .int sp, .long ho, .int hd]) rfl (by omega) (F_h54_k) rfl ?_
      refine WX.s1 rfl rfl ?_
      refine WX.s1 rfl rfl ?_
      refine WX.putNI (fs := [.ref (k + 1), .int (nI u), .int sp, .long ho, .int hd]) (fs' := fun f65 => [.ref (k + 1), .int f65, .int sp, .long ho, .int hd]) rfl (by omega) (F_h54_k) (Nat.le_of_ble_eq_true rfl) (fun _ => rfl) (fun f65 h65 e_f65 e_h65 => ?_)
      try dsimp only at e_f65
      have F_h65_k : h65 k = .inr (7, [.ref (k + 1), .int f65, .int sp, .long ho, .int hd]) := by rw [e_h65]; exact va_up_eq
      have F_h65__k_1_ : h65 (k + 1) = .inl (0, N, .inl g54) := by rw [e_h65, va_up_neq (nek0 (a := 1) (by decide))]; exact F_h54__k_1_
      have F_h65_q : h65 q = .inl (0, M, .inl f) := by rw [e_h65, va_up_neq (by omega)]; exact F_h54_q
      refine WX.ret0 rfl (kk h65 (fun j hj => by rw [e_h65, va_up_neq (by omega)]; rw [e_h54, va_up_neq (by omega)]) (fun z => absurd z (by omega)) (fun _ z => absurd z (by omega)) (fun _ _ => ⟨?_, ?_⟩))
      · rw [F_h65_k, e_f65, e_x3, nI_add]
      · rw [F_h65__k_1_, e_g54]
    · skip
      refine WX.s1 rfl rfl ?_
      refine WX.s1 rfl rfl ?_
      refine WX.put1 (fs := [.ref (k + 1), .int (nI u), .int sp, .long ho, .int hd]) (fs' := [.ref (k + 1), .int (nI u), .int 1, .long ho, .int hd]) rfl (by omega) (F_h_k) (Nat.le_of_ble_eq_true rfl) (rfl) rfl (fun h38 e_h38 => ?_)
      have F_h38_k : h38 k = .inr (7, [.ref (k + 1), .int (nI u), .int 1, .long ho, .int hd]) := by rw [e_h38]; exact va_up_eq
      have F_h38__k_1_ : h38 (k + 1) = .inl (0, N, .inl g) := by rw [e_h38, va_up_neq (nek0 (a := 1) (by decide))]; exact F_h__k_1_
      have F_h38_q : h38 q = .inl (0, M, .inl f) := by rw [e_h38, va_up_neq (by omega)]; exact F_h_q
      have hno : N < u + (b - a) := by
        rcases Nat.lt_or_ge N (u + (b - a)) with z | z
        · exact z
        · exact absurd (show x3 ≤ nI N - nI u by rw [e_x3, pk_sub hu]; exact nI_le (by omega) (by omega)) c_33
      exact WX.ret0 rfl (kk h38 (fun j hj => by rw [e_h38, va_up_neq (by omega)]) (fun z => absurd z (by omega)) (fun _ _ => ⟨F_h38_k, F_h38__k_1_⟩) (fun _ z => absurd z (by omega)))
