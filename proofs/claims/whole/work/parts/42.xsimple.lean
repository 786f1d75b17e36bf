/-! StatePress: its plain methods (rows laid by a program) -/
def SPO (h : Nat → aE) (k : Nat) (ou ne sta dra : Nat) (id : Int64) (way least : Int32) : Prop := h k = .inr (10, [.ref (k + 1), .ref ou, .ref ne, .ref (k + 7), .long id, .ref sta, .ref dra, .ref (k + 67), .ref (k + 81), .ref (k + 189), .int way, .int least])
theorem w_dropB {d n s : Nat} {h : Nat → aE} {k N : Nat} {b : Option (List Nat)} {hd : Int32} {ho : Int64} (hn : k + 1 < n) (r : RowIs h k N b ho hd) {Ψ : Option Value → aH → Prop} (kk : ∀ h', Fr h h' (fun j => j = k) → RowIs h' k N (some []) 0 0 → Ψ none (n, s, h')) : WO (mM (d + 1)) 85 [.ref k] (n, s, h) Ψ := by
  obtain ⟨g, u, sp, r1, r2⟩ := r
  exact w_drop hn r1 (fun h' fr a => kk h' fr ⟨g, 0, 0, a, Nat.zero_le _, rfl, rfl, fun i hi => absurd hi (Nat.not_lt_zero i)⟩)
theorem RowIs.at_ {h : Nat → aE} {k N : Nat} {l : List Nat} {hd : Int32} {ho : Int64} (r : RowIs h k N (some l) ho hd) : ∃ g, RowAt h k N g l.length 0 ho hd ∧ l.length ≤ N ∧ ∀ i, i < l.length → l.getD i 0 < 256 ∧ g i = sb_b (l.getD i 0) := by
  obtain ⟨g, u, sp, r1, r2, r3, r4, r5⟩ := r
  subst r3
  subst r4
  exact ⟨g, r1, r2, r5⟩
set_option maxRecDepth 20000 in
theorem x_rule {d n s : Nat} {h : Nat → aE} {k ou ne sta dra : Nat} {id : Int64} {way least : Int32} {a b : Int32} (hk : k + 189 < n) (F_h_k : SPO h k ou ne sta dra id way least) {Ψ : Option Value → aH → Prop} (k0 : (a < 0 ∨ 3 < a ∨ b < 3 ∨ 8 < b) → Ψ (some (.int 0)) (n, s, h)) (k1 : ∀ h', 0 ≤ a → a ≤ 3 → 3 ≤ b → b ≤ 8 → Fr h h' (fun j => j = k) → SPO h' k ou ne sta dra id a b → Ψ (some (.int 1)) (n, s, h')) : WO (mM (d + 1)) 128 [.ref k, .int a, .int b] (n, s, h) Ψ := by
  refine WO.of (Nat.le_of_ble_eq_true rfl) ?_
  have FR_h : ∀ j, j ≠ k → h j = h j := fun _ _ => rfl
  unfold SPO at F_h_k
  show WX (lk tX11_rule) (mM d) Ψ 0 [(0, .ref k), (1, .int a), (2, .int b)] [] (n, s, h)
  refine WX.s1 rfl rfl ?_
  refine WX.if_ rfl (fun c_1 => ?_) (fun c_1 => ?_)
  · skip
    refine WX.s1 rfl rfl ?_
    exact WX.ret3 rfl (Or.inl rfl) (k0 (by first | exact Or.inl c_1 | exact Or.inr (Or.inl c_6) | exact Or.inr (Or.inr (Or.inl c_11)) | exact Or.inr (Or.inr (Or.inr (Int32.not_le.mp c_17)))))
  · skip
    refine WX.s1 rfl rfl ?_
    refine WX.s1 rfl rfl ?_
    refine WX.icmp rfl (fun c_6 => ?_) (fun c_6 => ?_)
    · skip
      refine WX.s1 rfl rfl ?_
      exact WX.ret3 rfl (Or.inl rfl) (k0 (by first | exact Or.inl c_1 | exact Or.inr (Or.inl c_6) | exact Or.inr (Or.inr (Or.inl c_11)) | exact Or.inr (Or.inr (Or.inr (Int32.not_le.mp c_17)))))
    · skip
      refine WX.s1 rfl rfl ?_
      refine WX.s1 rfl rfl ?_
      refine WX.icmp rfl (fun c_11 => ?_) (fun c_11 => ?_)
      · skip
        refine WX.s1 rfl rfl ?_
        exact WX.ret3 rfl (Or.inl rfl) (k0 (by first | exact Or.inl c_1 | exact Or.inr (Or.inl c_6) | exact Or.inr (Or.inr (Or.inl c_11)) | exact Or.inr (Or.inr (Or.inr (Int32.not_le.mp c_17)))))
      · skip
        refine WX.s1 rfl rfl ?_
        refine WX.s1 rfl rfl ?_
        refine WX.icmp rfl (fun c_17 => ?_) (fun c_17 => ?_)
        · skip
          refine WX.s1 rfl rfl ?_
          refine WX.s1 rfl rfl ?_
          refine WX.putNI (fs := [.ref (k + 1), .ref ou, .ref ne, .ref (k + 7), .long id, .ref sta, .ref dra, .ref (k + 67), .ref (k + 81), .ref (k + 189), .int way, .int least]) (fs' := fun f24 => [.ref (k + 1), .ref ou, .ref ne, .ref (k + 7), .long id, .ref sta, .ref dra, .ref (k + 67), .ref (k + 81), .ref (k + 189), .int f24, .int least]) rfl (by omega) (F_h_k) (Nat.le_of_ble_eq_true rfl) (fun _ => rfl) (fun f24 h24 e_f24 e_h24 => ?_)
          try dsimp only at e_f24
          have F_h24_k : h24 k = .inr (10, [.ref (k + 1), .ref ou, .ref ne, .ref (k + 7), .long id, .ref sta, .ref dra, .ref (k + 67), .ref (k + 81), .ref (k + 189), .int f24, .int least]) := by rw [e_h24]; exact va_up_eq
          have FR_h24 : ∀ j, j ≠ k → h24 j = h j := fun j hj => by rw [e_h24]; exact (va_up_neq (by omega)).trans (FR_h j hj)
          refine WX.s1 rfl rfl ?_
          refine WX.s1 rfl rfl ?_
          refine WX.putNI (fs := [.ref (k + 1), .ref ou, .ref ne, .ref (k + 7), .long id, .ref sta, .ref dra, .ref (k + 67), .ref (k + 81), .ref (k + 189), .int f24, .int least]) (fs' := fun f29 => [.ref (k + 1), .ref ou, .ref ne, .ref (k + 7), .long id, .ref sta, .ref dra, .ref (k + 67), .ref (k + 81), .ref (k + 189), .int f24, .int f29]) rfl (by omega) (F_h24_k) (Nat.le_of_ble_eq_true rfl) (fun _ => rfl) (fun f29 h29 e_f29 e_h29 => ?_)
          try dsimp only at e_f29
          have F_h29_k : h29 k = .inr (10, [.ref (k + 1), .ref ou, .ref ne, .ref (k + 7), .long id, .ref sta, .ref dra, .ref (k + 67), .ref (k + 81), .ref (k + 189), .int f24, .int f29]) := by rw [e_h29]; exact va_up_eq
          have FR_h29 : ∀ j, j ≠ k → h29 j = h j := fun j hj => by rw [e_h29]; exact (va_up_neq (by omega)).trans (FR_h24 j hj)
          refine WX.s1 rfl rfl ?_
          exact WX.ret3 rfl (Or.inr rfl) (k1 h29 (Int32.not_lt.mp c_1) (Int32.not_lt.mp c_6) (Int32.not_lt.mp c_11) c_17 FR_h29 (by unfold SPO; rw [F_h29_k, e_f24, e_f29]))
        · skip
          refine WX.s1 rfl rfl ?_
          exact WX.ret3 rfl (Or.inl rfl) (k0 (by first | exact Or.inl c_1 | exact Or.inr (Or.inl c_6) | exact Or.inr (Or.inr (Or.inl c_11)) | exact Or.inr (Or.inr (Or.inr (Int32.not_le.mp c_17)))))
set_option maxRecDepth 20000 in
theorem x_clear {d n s : Nat} {h : Nat → aE} {k ou ne sta dra : Nat} {id : Int64} {way least : Int32} {b : Option (List Nat)} {ho : Int64} {hd : Int32} (hk : k + 189 < n) (F_h_k : SPO h k ou ne sta dra id way least) (r : RowIs h (k + 1) 8000 b ho hd) {Ψ : Option Value → aH → Prop} (kk : ∀ h', Fr h h' (fun j => j = k + 1) → RowIs h' (k + 1) 8000 (some []) 0 0 → Ψ none (n, s, h')) : WO (mM (d + 2)) 126 [.ref k] (n, s, h) Ψ := by
  refine WO.of (Nat.le_of_ble_eq_true rfl) ?_
  have FR_h : ∀ j, j ≠ k → h j = h j := fun _ _ => rfl
  unfold SPO at F_h_k
  show WX (lk tX11_clear) (mM (d + 1)) Ψ 0 [(0, .ref k)] [] (n, s, h)
  refine WX.s1 rfl rfl ?_
  refine WX.get1 (fs := [.ref (k + 1), .ref ou, .ref ne, .ref (k + 7), .long id, .ref sta, .ref dra, .ref (k + 67), .ref (k + 81), .ref (k + 189), .int way, .int least]) rfl (by omega) (F_h_k) rfl ?_
  have r9 := r
  obtain ⟨g9, u9, sp9, ra, rb⟩ := r9
  refine WX.callC (vs := [.ref (k + 1)]) rfl rfl rfl (Nat.le_of_ble_eq_true rfl) (rcv_ok (by omega) ra.1) ?_
  refine w_dropB (by omega) r (fun h2 fr2 r2 => ?_)
  show WX _ _ _ 7 [(0, .ref k)] [] (n, s, h2)
  exact WX.ret0 rfl (kk h2 fr2 r2)
set_option maxRecDepth 20000 in
theorem x_size {d n s : Nat} {h : Nat → aE} {k ou ne sta dra : Nat} {id : Int64} {way least : Int32} {N u : Nat} {g : Nat → Int32} {sp hd : Int32} {ho : Int64} (hk : k + 189 < n) (F_h_k : SPO h k ou ne sta dra id way least) (hou : ou < n) (r : RowAt h ou N g u sp ho hd) {Ψ : Option Value → aH → Prop} (kk : Ψ (some (.int (nI u))) (n, s, h)) : WO (mM (d + 1)) 134 [.ref k] (n, s, h) Ψ := by
  refine WO.of (Nat.le_of_ble_eq_true rfl) ?_
  have FR_h : ∀ j, j ≠ k → h j = h j := fun _ _ => rfl
  unfold SPO at F_h_k
  show WX (lk tX11_size) (mM d) Ψ 0 [(0, .ref k)] [] (n, s, h)
  have F_h_ou := r.1
  refine WX.s1 rfl rfl ?_
  refine WX.get1 (fs := [.ref (k + 1), .ref ou, .ref ne, .ref (k + 7), .long id, .ref sta, .ref dra, .ref (k + 67), .ref (k + 81), .ref (k + 189), .int way, .int least]) rfl (by omega) (F_h_k) rfl ?_
  refine WX.get1 (fs := [.ref (ou + 1), .int (nI u), .int sp, .long ho, .int hd]) rfl (by omega) (F_h_ou) rfl ?_
  exact WX.ret1 rfl kk
set_option maxRecDepth 20000 in
theorem x_byteAt {d n s : Nat} {h : Nat → aE} {k ou ne sta dra : Nat} {id : Int64} {way least : Int32} {N u : Nat} {g : Nat → Int32} {sp hd : Int32} {ho : Int64} {x : Int32} (hk : k + 189 < n) (F_h_k : SPO h k ou ne sta dra id way least) (hou : ou + 1 < n) (r : RowAt h ou N g u sp ho hd) (hu : u ≤ N) (hN : N < 2 ^ 31) {Ψ : Option Value → aH → Prop} (k1 : ∀ i, x = nI i → i < u → Ψ (some (.int (g i &&& 255))) (n, s, h)) (k2 : (x < 0 ∨ nI u ≤ x) → Ψ (some (.int (-1))) (n, s, h)) : WO (mM (d + 2)) 135 [.ref k, .int x] (n, s, h) Ψ := by
  refine WO.of (Nat.le_of_ble_eq_true rfl) ?_
  have FR_h : ∀ j, j ≠ k → h j = h j := fun _ _ => rfl
  unfold SPO at F_h_k
  show WX (lk tX11_byteAt) (mM (d + 1)) Ψ 0 [(0, .ref k), (1, .int x)] [] (n, s, h)
  refine WX.s1 rfl rfl ?_
  refine WX.get1 (fs := [.ref (k + 1), .ref ou, .ref ne, .ref (k + 7), .long id, .ref sta, .ref dra, .ref (k + 67), .ref (k + 81), .ref (k + 189), .int way, .int least]) rfl (by omega) (F_h_k) rfl ?_
  refine WX.s1 rfl rfl ?_
  refine WX.callC (vs := [.ref ou, .int x]) rfl rfl rfl (Nat.le_of_ble_eq_true rfl) (rcv_ok (by omega) r.1) ?_
  refine w_at hou r hu hN (fun i a b => ?_) (fun a => ?_)
  · exact WX.ret1 rfl (k1 i a b)
  · exact WX.ret1 rfl (k2 a)
set_option maxRecDepth 20000 in
theorem x_about {d n s : Nat} {h : Nat → aE} {k ou ne sta dra : Nat} {id : Int64} {way least : Int32} {x : Int32} {ab : Nat → Int32} (hk : k + 189 < n) (F_h_k : SPO h k ou ne sta dra id way least) (F_h__k_189_ : h (k + 189) = .inl (1, 12, .inl ab)) {Ψ : Option Value → aH → Prop} (k0 : (x < 0 ∨ 11 < x) → Ψ (some (.int (-1))) (n, s, h)) (k1 : ∀ i, i < 12 → x = nI i → Ψ (some (.int (ab i))) (n, s, h)) : WO (mM (d + 1)) 133 [.ref k, .int x] (n, s, h) Ψ := by
  refine WO.of (Nat.le_of_ble_eq_true rfl) ?_
  have FR_h : ∀ j, j ≠ k → h j = h j := fun _ _ => rfl
  unfold SPO at F_h_k
  show WX (lk tX11_about) (mM d) Ψ 0 [(0, .ref k), (1, .int x)] [] (n, s, h)
  refine WX.s1 rfl rfl ?_
  refine WX.if_ rfl (fun c_1 => ?_) (fun c_1 => ?_)
  · skip
    refine WX.s1 rfl rfl ?_
    refine WX.ret1 rfl (k0 ?_)
    first
      | exact Or.inl c_1
      | exact Or.inr (Int32.lt_of_lt_of_le (show (11 : Int32) < nI 12 by decide) c_10)
  · skip
    refine WX.s1 rfl rfl ?_
    refine WX.s1 rfl rfl ?_
    refine WX.get1 (fs := [.ref (k + 1), .ref ou, .ref ne, .ref (k + 7), .long id, .ref sta, .ref dra, .ref (k + 67), .ref (k + 81), .ref (k + 189), .int way, .int least]) rfl (by omega) (F_h_k) rfl ?_
    refine WX.len1 rfl (Or.inl ⟨by omega, by decide⟩) (F_h__k_189_) ?_
    refine WX.icmp rfl (fun c_10 => ?_) (fun c_10 => ?_)
    · skip
      refine WX.s1 rfl rfl ?_
      refine WX.ret1 rfl (k0 ?_)
      first
        | exact Or.inl c_1
        | exact Or.inr (Int32.lt_of_lt_of_le (show (11 : Int32) < nI 12 by decide) c_10)
    · skip
      obtain ⟨i, hi, rfl⟩ : ∃ i, i < 12 ∧ x = nI i := by
        rcases pk_ix x (show 12 < 2 ^ 31 by decide) with q | q | ⟨i, q1, q2⟩
        · exact absurd q c_1
        · exact absurd q c_10
        · exact ⟨i, q1, q2⟩
      refine WX.s1 rfl rfl ?_
      refine WX.get1 (fs := [.ref (k + 1), .ref ou, .ref ne, .ref (k + 7), .long id, .ref sta, .ref dra, .ref (k + 67), .ref (k + 81), .ref (k + 189), .int way, .int least]) rfl (by omega) (F_h_k) rfl ?_
      refine WX.s1 rfl rfl ?_
      refine WX.iald1 rfl (Or.inl (by omega)) (F_h__k_189_) (vp_in_nI hi (by decide)) ?_
      refine WX.s1 rfl rfl ?_
      refine WX.ret1 rfl ?_
      rw [nI_clamp (by omega)]
      exact k1 i hi rfl
