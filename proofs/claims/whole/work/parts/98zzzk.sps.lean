/-! the constructor of StatePress -/
set_option maxRecDepth 20000 in
theorem n_spS {d s : Nat} {h : Nat → aE} {k : Nat} (hbig : k + 191 < aBig) (F_h_k : h k = .inr (10, zX11)) {N0 : Nat} {kn0 : Nat → Int32} (K0 : h (aBig + 0) = .inl (1, N0, .inl kn0)) (hK0 : N0 ≤ 36) {u0 : Nat → Nat} (kb0 : KnS N0 kn0 u0 35 6) {N1 : Nat} {kn1 : Nat → Int32} (K1 : h (aBig + 1) = .inl (1, N1, .inl kn1)) (hK1 : N1 ≤ 32) {u1 : Nat → Nat} (kb1 : KnS N1 kn1 u1 31 5) {N2 : Nat} {kn2 : Nat → Int32} (K2 : h (aBig + 2) = .inl (1, N2, .inl kn2)) (hK2 : N2 ≤ 53) {u2 : Nat → Nat} (kb2 : KnS N2 kn2 u2 52 6) {Ψ : Option Value → aH → Prop} (kk : ∀ h' (pA fA wA oA sA pB fB wB oB sB pC fC wC oC sC : Nat → Int32), TabS 35 6 u0 pA fA wA oA sA → TabS 31 5 u1 pB fB wB oB sB → TabS 52 6 u2 pC fC wC oC sC → (∀ j, j < k ∨ aBig ≤ j → h' j = h j) → Cells h' k (cSP pA fA wA oA sA pB fB wB oB sB pC fC wC oC sC k) → Ψ none (k + 190, s + 122321, h')) : WO (mM (d + 6)) 123 [.ref k] (k + 1, s, h) Ψ := by
  refine WO.of (Nat.le_of_ble_eq_true rfl) ?_
  have FR_h : ∀ j, j < k ∨ aBig ≤ j → h j = h j := fun _ _ => rfl
  show WX (lk tX11_init) (mM (d + 5)) Ψ 0 [(0, .ref k)] [] (k + 1, s, h)
  refine WX.s1 rfl rfl ?_
  refine WX.s1 rfl rfl ?_
  refine WX.s1 rfl rfl ?_
  refine WX.newN rfl (bigk (k := k) (a := 2) hbig (by decide)) (fun h5 e_h5 => ?_)
  have F_h5_k : h5 k = .inr (10, [.null, .null, .null, .null, .long 0, .null, .null, .null, .null, .null, .int 0, .int 0]) := by rw [e_h5, va_up_neq (nek1 (a := 1) (by decide))]; exact F_h_k
  have F_h5__k_1_ : h5 (k + 1) = .inr (7, zX7) := by rw [e_h5]; exact va_up_eq
  have FR_h5 : ∀ j, j < k ∨ aBig ≤ j → h5 j = h j := fun j hj => by rw [e_h5]; exact (va_up_neq (frne (a := 1) hj hbig (by decide))).trans (FR_h j hj)
  clear F_h_k FR_h e_h5
  refine WX.s1 rfl rfl ?_
  refine WX.s1 rfl rfl ?_
  refine WX.callC (vs := [.ref (k + 1), .int 8000]) rfl rfl rfl (Nat.le_of_ble_eq_true rfl) (rcv_ok (ltk (a := 1) (c := 2) (by decide)) F_h5__k_1_) ?_
  refine n_row (N := 8000) (k := k + 1) (bigk (k := k) (a := 3) hbig (by decide)) F_h5__k_1_ (by decide) (by decide) (fun h12 fr12 cs12 => ?_)
  have F_h12_k : h12 k = .inr (10, [.null, .null, .null, .null, .long 0, .null, .null, .null, .null, .null, .int 0, .int 0]) := (fr12 k (Or.inl (ltk0 (c := 1) (by decide)))).trans F_h5_k
  have F_h12__k_1_ : h12 (k + 1) = .inr (7, [.ref (k + 2), .int 0, .int 0, .long 0, .int 0]) := cs12.1
  have F_h12__k_2_ : h12 (k + 2) = .inl (0, 8000, .inl (fun _ => 0)) := cs12.2.1
  have FR_h12 : ∀ j, j < k ∨ aBig ≤ j → h12 j = h j := fun j hj => (fr12 j (hj.imp (fun z => Nat.lt_of_lt_of_le z (Nat.le_add_right _ _)) (fun z => z))).trans (FR_h5 j hj)
  clear F_h5_k F_h5__k_1_ FR_h5 fr12 cs12
  clear h5
  show WX _ _ _ 15 [(0, .ref k)] [.ref (k + 1), .ref k] (k + 3, s + 5 + 8000, h12)
  refine WX.put1 (fs := [.null, .null, .null, .null, .long 0, .null, .null, .null, .null, .null, .int 0, .int 0]) (fs' := [.ref (k + 1), .null, .null, .null, .long 0, .null, .null, .null, .null, .null, .int 0, .int 0]) rfl (ltk0 (c := 3) (by decide)) (F_h12_k) (Nat.le_of_ble_eq_true rfl) (rfl) rfl (fun h15 e_h15 => ?_)
  have F_h15_k : h15 k = .inr (10, [.ref (k + 1), .null, .null, .null, .long 0, .null, .null, .null, .null, .null, .int 0, .int 0]) := by rw [e_h15]; exact va_up_eq
  have F_h15__k_1_ : h15 (k + 1) = .inr (7, [.ref (k + 2), .int 0, .int 0, .long 0, .int 0]) := by rw [e_h15, va_up_neq (nek0 (a := 1) (by decide))]; exact F_h12__k_1_
  have F_h15__k_2_ : h15 (k + 2) = .inl (0, 8000, .inl (fun _ => 0)) := by rw [e_h15, va_up_neq (nek0 (a := 2) (by decide))]; exact F_h12__k_2_
  have FR_h15 : ∀ j, j < k ∨ aBig ≤ j → h15 j = h j := fun j hj => by rw [e_h15]; exact (va_up_neq (frne0 hj hbig)).trans (FR_h12 j hj)
  clear F_h12_k F_h12__k_1_ F_h12__k_2_ FR_h12 e_h15
  clear h12
  refine WX.s1 rfl rfl ?_
  refine WX.newN rfl (bigk (k := k) (a := 4) hbig (by decide)) (fun h19 e_h19 => ?_)
  have F_h19_k : h19 k = .inr (10, [.ref (k + 1), .null, .null, .null, .long 0, .null, .null, .null, .null, .null, .int 0, .int 0]) := by rw [e_h19, va_up_neq (nek1 (a := 3) (by decide))]; exact F_h15_k
  have F_h19__k_1_ : h19 (k + 1) = .inr (7, [.ref (k + 2), .int 0, .int 0, .long 0, .int 0]) := by rw [e_h19, va_up_neq (nek (a := 1) (b := 3) (by decide))]; exact F_h15__k_1_
  have F_h19__k_2_ : h19 (k + 2) = .inl (0, 8000, .inl (fun _ => 0)) := by rw [e_h19, va_up_neq (nek (a := 2) (b := 3) (by decide))]; exact F_h15__k_2_
  have F_h19__k_3_ : h19 (k + 3) = .inr (7, zX7) := by rw [e_h19]; exact va_up_eq
  have FR_h19 : ∀ j, j < k ∨ aBig ≤ j → h19 j = h j := fun j hj => by rw [e_h19]; exact (va_up_neq (frne (a := 3) hj hbig (by decide))).trans (FR_h15 j hj)
  clear F_h15_k F_h15__k_1_ F_h15__k_2_ FR_h15 e_h19
  clear h15
  refine WX.s1 rfl rfl ?_
  refine WX.s1 rfl rfl ?_
  refine WX.callC (vs := [.ref (k + 3), .int 12000]) rfl rfl rfl (Nat.le_of_ble_eq_true rfl) (rcv_ok (ltk (a := 3) (c := 4) (by decide)) F_h19__k_3_) ?_
  refine n_row (N := 12000) (k := k + 3) (bigk (k := k) (a := 5) hbig (by decide)) F_h19__k_3_ (by decide) (by decide) (fun h26 fr26 cs26 => ?_)
  have F_h26_k : h26 k = .inr (10, [.ref (k + 1), .null, .null, .null, .long 0, .null, .null, .null, .null, .null, .int 0, .int 0]) := (fr26 k (Or.inl (ltk0 (c := 3) (by decide)))).trans F_h19_k
  have F_h26__k_1_ : h26 (k + 1) = .inr (7, [.ref (k + 2), .int 0, .int 0, .long 0, .int 0]) := (fr26 (k + 1) (Or.inl (ltk (a := 1) (c := 3) (by decide)))).trans F_h19__k_1_
  have F_h26__k_2_ : h26 (k + 2) = .inl (0, 8000, .inl (fun _ => 0)) := (fr26 (k + 2) (Or.inl (ltk (a := 2) (c := 3) (by decide)))).trans F_h19__k_2_
  have F_h26__k_3_ : h26 (k + 3) = .inr (7, [.ref (k + 4), .int 0, .int 0, .long 0, .int 0]) := cs26.1
  have F_h26__k_4_ : h26 (k + 4) = .inl (0, 12000, .inl (fun _ => 0)) := cs26.2.1
  have FR_h26 : ∀ j, j < k ∨ aBig ≤ j → h26 j = h j := fun j hj => (fr26 j (hj.imp (fun z => Nat.lt_of_lt_of_le z (Nat.le_add_right _ _)) (fun z => z))).trans (FR_h19 j hj)
  clear F_h19_k F_h19__k_1_ F_h19__k_2_ F_h19__k_3_ FR_h19 fr26 cs26
  clear h19
  show WX _ _ _ 29 [(0, .ref k)] [.ref (k + 3), .ref k] (k + 5, s + 5 + 8000 + 5 + 12000, h26)
  refine WX.put1 (fs := [.ref (k + 1), .null, .null, .null, .long 0, .null, .null, .null, .null, .null, .int 0, .int 0]) (fs' := [.ref (k + 1), .ref (k + 3), .null, .null, .long 0, .null, .null, .null, .null, .null, .int 0, .int 0]) rfl (ltk0 (c := 5) (by decide)) (F_h26_k) (Nat.le_of_ble_eq_true rfl) (rfl) rfl (fun h29 e_h29 => ?_)
  have F_h29_k : h29 k = .inr (10, [.ref (k + 1), .ref (k + 3), .null, .null, .long 0, .null, .null, .null, .null, .null, .int 0, .int 0]) := by rw [e_h29]; exact va_up_eq
  have F_h29__k_1_ : h29 (k + 1) = .inr (7, [.ref (k + 2), .int 0, .int 0, .long 0, .int 0]) := by rw [e_h29, va_up_neq (nek0 (a := 1) (by decide))]; exact F_h26__k_1_
  have F_h29__k_2_ : h29 (k + 2) = .inl (0, 8000, .inl (fun _ => 0)) := by rw [e_h29, va_up_neq (nek0 (a := 2) (by decide))]; exact F_h26__k_2_
  have F_h29__k_3_ : h29 (k + 3) = .inr (7, [.ref (k + 4), .int 0, .int 0, .long 0, .int 0]) := by rw [e_h29, va_up_neq (nek0 (a := 3) (by decide))]; exact F_h26__k_3_
  have F_h29__k_4_ : h29 (k + 4) = .inl (0, 12000, .inl (fun _ => 0)) := by rw [e_h29, va_up_neq (nek0 (a := 4) (by decide))]; exact F_h26__k_4_
  have FR_h29 : ∀ j, j < k ∨ aBig ≤ j → h29 j = h j := fun j hj => by rw [e_h29]; exact (va_up_neq (frne0 hj hbig)).trans (FR_h26 j hj)
  clear F_h26_k F_h26__k_1_ F_h26__k_2_ F_h26__k_3_ F_h26__k_4_ FR_h26 e_h29
  clear h26
  refine WX.s1 rfl rfl ?_
  refine WX.newN rfl (bigk (k := k) (a := 6) hbig (by decide)) (fun h33 e_h33 => ?_)
  have F_h33_k : h33 k = .inr (10, [.ref (k + 1), .ref (k + 3), .null, .null, .long 0, .null, .null, .null, .null, .null, .int 0, .int 0]) := by rw [e_h33, va_up_neq (nek1 (a := 5) (by decide))]; exact F_h29_k
  have F_h33__k_1_ : h33 (k + 1) = .inr (7, [.ref (k + 2), .int 0, .int 0, .long 0, .int 0]) := by rw [e_h33, va_up_neq (nek (a := 1) (b := 5) (by decide))]; exact F_h29__k_1_
  have F_h33__k_2_ : h33 (k + 2) = .inl (0, 8000, .inl (fun _ => 0)) := by rw [e_h33, va_up_neq (nek (a := 2) (b := 5) (by decide))]; exact F_h29__k_2_
  have F_h33__k_3_ : h33 (k + 3) = .inr (7, [.ref (k + 4), .int 0, .int 0, .long 0, .int 0]) := by rw [e_h33, va_up_neq (nek (a := 3) (b := 5) (by decide))]; exact F_h29__k_3_
  have F_h33__k_4_ : h33 (k + 4) = .inl (0, 12000, .inl (fun _ => 0)) := by rw [e_h33, va_up_neq (nek (a := 4) (b := 5) (by decide))]; exact F_h29__k_4_
  have F_h33__k_5_ : h33 (k + 5) = .inr (7, zX7) := by rw [e_h33]; exact va_up_eq
  have FR_h33 : ∀ j, j < k ∨ aBig ≤ j → h33 j = h j := fun j hj => by rw [e_h33]; exact (va_up_neq (frne (a := 5) hj hbig (by decide))).trans (FR_h29 j hj)
  clear F_h29_k F_h29__k_1_ F_h29__k_2_ F_h29__k_3_ F_h29__k_4_ FR_h29 e_h33
  clear h29
  refine WX.s1 rfl rfl ?_
  refine WX.s1 rfl rfl ?_
  refine WX.callC (vs := [.ref (k + 5), .int 12000]) rfl rfl rfl (Nat.le_of_ble_eq_true rfl) (rcv_ok (ltk (a := 5) (c := 6) (by decide)) F_h33__k_5_) ?_
  refine n_row (N := 12000) (k := k + 5) (bigk (k := k) (a := 7) hbig (by decide)) F_h33__k_5_ (by decide) (by decide) (fun h40 fr40 cs40 => ?_)
  have F_h40_k : h40 k = .inr (10, [.ref (k + 1), .ref (k + 3), .null, .null, .long 0, .null, .null, .null, .null, .null, .int 0, .int 0]) := (fr40 k (Or.inl (ltk0 (c := 5) (by decide)))).trans F_h33_k
  have F_h40__k_1_ : h40 (k + 1) = .inr (7, [.ref (k + 2), .int 0, .int 0, .long 0, .int 0]) := (fr40 (k + 1) (Or.inl (ltk (a := 1) (c := 5) (by decide)))).trans F_h33__k_1_
  have F_h40__k_2_ : h40 (k + 2) = .inl (0, 8000, .inl (fun _ => 0)) := (fr40 (k + 2) (Or.inl (ltk (a := 2) (c := 5) (by decide)))).trans F_h33__k_2_
  have F_h40__k_3_ : h40 (k + 3) = .inr (7, [.ref (k + 4), .int 0, .int 0, .long 0, .int 0]) := (fr40 (k + 3) (Or.inl (ltk (a := 3) (c := 5) (by decide)))).trans F_h33__k_3_
  have F_h40__k_4_ : h40 (k + 4) = .inl (0, 12000, .inl (fun _ => 0)) := (fr40 (k + 4) (Or.inl (ltk (a := 4) (c := 5) (by decide)))).trans F_h33__k_4_
  have F_h40__k_5_ : h40 (k + 5) = .inr (7, [.ref (k + 6), .int 0, .int 0, .long 0, .int 0]) := cs40.1
  have F_h40__k_6_ : h40 (k + 6) = .inl (0, 12000, .inl (fun _ => 0)) := cs40.2.1
  have FR_h40 : ∀ j, j < k ∨ aBig ≤ j → h40 j = h j := fun j hj => (fr40 j (hj.imp (fun z => Nat.lt_of_lt_of_le z (Nat.le_add_right _ _)) (fun z => z))).trans (FR_h33 j hj)
  clear F_h33_k F_h33__k_1_ F_h33__k_2_ F_h33__k_3_ F_h33__k_4_ F_h33__k_5_ FR_h33 fr40 cs40
  clear h33
  show WX _ _ _ 43 [(0, .ref k)] [.ref (k + 5), .ref k] (k + 7, s + 5 + 8000 + 5 + 12000 + 5 + 12000, h40)
  refine WX.put1 (fs := [.ref (k + 1), .ref (k + 3), .null, .null, .long 0, .null, .null, .null, .null, .null, .int 0, .int 0]) (fs' := [.ref (k + 1), .ref (k + 3), .ref (k + 5), .null, .long 0, .null, .null, .null, .null, .null, .int 0, .int 0]) rfl (ltk0 (c := 7) (by decide)) (F_h40_k) (Nat.le_of_ble_eq_true rfl) (rfl) rfl (fun h43 e_h43 => ?_)
  have F_h43_k : h43 k = .inr (10, [.ref (k + 1), .ref (k + 3), .ref (k + 5), .null, .long 0, .null, .null, .null, .null, .null, .int 0, .int 0]) := by rw [e_h43]; exact va_up_eq
  have F_h43__k_1_ : h43 (k + 1) = .inr (7, [.ref (k + 2), .int 0, .int 0, .long 0, .int 0]) := by rw [e_h43, va_up_neq (nek0 (a := 1) (by decide))]; exact F_h40__k_1_
  have F_h43__k_2_ : h43 (k + 2) = .inl (0, 8000, .inl (fun _ => 0)) := by rw [e_h43, va_up_neq (nek0 (a := 2) (by decide))]; exact F_h40__k_2_
  have F_h43__k_3_ : h43 (k + 3) = .inr (7, [.ref (k + 4), .int 0, .int 0, .long 0, .int 0]) := by rw [e_h43, va_up_neq (nek0 (a := 3) (by decide))]; exact F_h40__k_3_
  have F_h43__k_4_ : h43 (k + 4) = .inl (0, 12000, .inl (fun _ => 0)) := by rw [e_h43, va_up_neq (nek0 (a := 4) (by decide))]; exact F_h40__k_4_
  have F_h43__k_5_ : h43 (k + 5) = .inr (7, [.ref (k + 6), .int 0, .int 0, .long 0, .int 0]) := by rw [e_h43, va_up_neq (nek0 (a := 5) (by decide))]; exact F_h40__k_5_
  have F_h43__k_6_ : h43 (k + 6) = .inl (0, 12000, .inl (fun _ => 0)) := by rw [e_h43, va_up_neq (nek0 (a := 6) (by decide))]; exact F_h40__k_6_
  have FR_h43 : ∀ j, j < k ∨ aBig ≤ j → h43 j = h j := fun j hj => by rw [e_h43]; exact (va_up_neq (frne0 hj hbig)).trans (FR_h40 j hj)
  clear F_h40_k F_h40__k_1_ F_h40__k_2_ F_h40__k_3_ F_h40__k_4_ F_h40__k_5_ F_h40__k_6_ FR_h40 e_h43
  clear h40
  refine WX.s1 rfl rfl ?_
  refine WX.newN rfl (bigk (k := k) (a := 8) hbig (by decide)) (fun h47 e_h47 => ?_)
  have F_h47_k : h47 k = .inr (10, [.ref (k + 1), .ref (k + 3), .ref (k + 5), .null, .long 0, .null, .null, .null, .null, .null, .int 0, .int 0]) := by rw [e_h47, va_up_neq (nek1 (a := 7) (by decide))]; exact F_h43_k
  have F_h47__k_1_ : h47 (k + 1) = .inr (7, [.ref (k + 2), .int 0, .int 0, .long 0, .int 0]) := by rw [e_h47, va_up_neq (nek (a := 1) (b := 7) (by decide))]; exact F_h43__k_1_
  have F_h47__k_2_ : h47 (k + 2) = .inl (0, 8000, .inl (fun _ => 0)) := by rw [e_h47, va_up_neq (nek (a := 2) (b := 7) (by decide))]; exact F_h43__k_2_
  have F_h47__k_3_ : h47 (k + 3) = .inr (7, [.ref (k + 4), .int 0, .int 0, .long 0, .int 0]) := by rw [e_h47, va_up_neq (nek (a := 3) (b := 7) (by decide))]; exact F_h43__k_3_
  have F_h47__k_4_ : h47 (k + 4) = .inl (0, 12000, .inl (fun _ => 0)) := by rw [e_h47, va_up_neq (nek (a := 4) (b := 7) (by decide))]; exact F_h43__k_4_
  have F_h47__k_5_ : h47 (k + 5) = .inr (7, [.ref (k + 6), .int 0, .int 0, .long 0, .int 0]) := by rw [e_h47, va_up_neq (nek (a := 5) (b := 7) (by decide))]; exact F_h43__k_5_
  have F_h47__k_6_ : h47 (k + 6) = .inl (0, 12000, .inl (fun _ => 0)) := by rw [e_h47, va_up_neq (nek (a := 6) (b := 7) (by decide))]; exact F_h43__k_6_
  have F_h47__k_7_ : h47 (k + 7) = .inr (7, zX7) := by rw [e_h47]; exact va_up_eq
  have FR_h47 : ∀ j, j < k ∨ aBig ≤ j → h47 j = h j := fun j hj => by rw [e_h47]; exact (va_up_neq (frne (a := 7) hj hbig (by decide))).trans (FR_h43 j hj)
  clear F_h43_k F_h43__k_1_ F_h43__k_2_ F_h43__k_3_ F_h43__k_4_ F_h43__k_5_ F_h43__k_6_ FR_h43 e_h47
  clear h43
  refine WX.s1 rfl rfl ?_
  refine WX.s1 rfl rfl ?_
  refine WX.callC (vs := [.ref (k + 7), .int 8000]) rfl rfl rfl (Nat.le_of_ble_eq_true rfl) (rcv_ok (ltk (a := 7) (c := 8) (by decide)) F_h47__k_7_) ?_
  refine n_row (N := 8000) (k := k + 7) (bigk (k := k) (a := 9) hbig (by decide)) F_h47__k_7_ (by decide) (by decide) (fun h54 fr54 cs54 => ?_)
  have F_h54_k : h54 k = .inr (10, [.ref (k + 1), .ref (k + 3), .ref (k + 5), .null, .long 0, .null, .null, .null, .null, .null, .int 0, .int 0]) := (fr54 k (Or.inl (ltk0 (c := 7) (by decide)))).trans F_h47_k
  have F_h54__k_1_ : h54 (k + 1) = .inr (7, [.ref (k + 2), .int 0, .int 0, .long 0, .int 0]) := (fr54 (k + 1) (Or.inl (ltk (a := 1) (c := 7) (by decide)))).trans F_h47__k_1_
  have F_h54__k_2_ : h54 (k + 2) = .inl (0, 8000, .inl (fun _ => 0)) := (fr54 (k + 2) (Or.inl (ltk (a := 2) (c := 7) (by decide)))).trans F_h47__k_2_
  have F_h54__k_3_ : h54 (k + 3) = .inr (7, [.ref (k + 4), .int 0, .int 0, .long 0, .int 0]) := (fr54 (k + 3) (Or.inl (ltk (a := 3) (c := 7) (by decide)))).trans F_h47__k_3_
  have F_h54__k_4_ : h54 (k + 4) = .inl (0, 12000, .inl (fun _ => 0)) := (fr54 (k + 4) (Or.inl (ltk (a := 4) (c := 7) (by decide)))).trans F_h47__k_4_
  have F_h54__k_5_ : h54 (k + 5) = .inr (7, [.ref (k + 6), .int 0, .int 0, .long 0, .int 0]) := (fr54 (k + 5) (Or.inl (ltk (a := 5) (c := 7) (by decide)))).trans F_h47__k_5_
  have F_h54__k_6_ : h54 (k + 6) = .inl (0, 12000, .inl (fun _ => 0)) := (fr54 (k + 6) (Or.inl (ltk (a := 6) (c := 7) (by decide)))).trans F_h47__k_6_
  have F_h54__k_7_ : h54 (k + 7) = .inr (7, [.ref (k + 8), .int 0, .int 0, .long 0, .int 0]) := cs54.1
  have F_h54__k_8_ : h54 (k + 8) = .inl (0, 8000, .inl (fun _ => 0)) := cs54.2.1
  have FR_h54 : ∀ j, j < k ∨ aBig ≤ j → h54 j = h j := fun j hj => (fr54 j (hj.imp (fun z => Nat.lt_of_lt_of_le z (Nat.le_add_right _ _)) (fun z => z))).trans (FR_h47 j hj)
  clear F_h47_k F_h47__k_1_ F_h47__k_2_ F_h47__k_3_ F_h47__k_4_ F_h47__k_5_ F_h47__k_6_ F_h47__k_7_ FR_h47 fr54 cs54
  clear h47
  show WX _ _ _ 57 [(0, .ref k)] [.ref (k + 7), .ref k] (k + 9, s + 5 + 8000 + 5 + 12000 + 5 + 12000 + 5 + 8000, h54)
  refine WX.put1 (fs := [.ref (k + 1), .ref (k + 3), .ref (k + 5), .null, .long 0, .null, .null, .null, .null, .null, .int 0, .int 0]) (fs' := [.ref (k + 1), .ref (k + 3), .ref (k + 5), .ref (k + 7), .long 0, .null, .null, .null, .null, .null, .int 0, .int 0]) rfl (ltk0 (c := 9) (by decide)) (F_h54_k) (Nat.le_of_ble_eq_true rfl) (rfl) rfl (fun h57 e_h57 => ?_)
  have F_h57_k : h57 k = .inr (10, [.ref (k + 1), .ref (k + 3), .ref (k + 5), .ref (k + 7), .long 0, .null, .null, .null, .null, .null, .int 0, .int 0]) := by rw [e_h57]; exact va_up_eq
  have F_h57__k_1_ : h57 (k + 1) = .inr (7, [.ref (k + 2), .int 0, .int 0, .long 0, .int 0]) := by rw [e_h57, va_up_neq (nek0 (a := 1) (by decide))]; exact F_h54__k_1_
  have F_h57__k_2_ : h57 (k + 2) = .inl (0, 8000, .inl (fun _ => 0)) := by rw [e_h57, va_up_neq (nek0 (a := 2) (by decide))]; exact F_h54__k_2_
  have F_h57__k_3_ : h57 (k + 3) = .inr (7, [.ref (k + 4), .int 0, .int 0, .long 0, .int 0]) := by rw [e_h57, va_up_neq (nek0 (a := 3) (by decide))]; exact F_h54__k_3_
  have F_h57__k_4_ : h57 (k + 4) = .inl (0, 12000, .inl (fun _ => 0)) := by rw [e_h57, va_up_neq (nek0 (a := 4) (by decide))]; exact F_h54__k_4_
  have F_h57__k_5_ : h57 (k + 5) = .inr (7, [.ref (k + 6), .int 0, .int 0, .long 0, .int 0]) := by rw [e_h57, va_up_neq (nek0 (a := 5) (by decide))]; exact F_h54__k_5_
  have F_h57__k_6_ : h57 (k + 6) = .inl (0, 12000, .inl (fun _ => 0)) := by rw [e_h57, va_up_neq (nek0 (a := 6) (by decide))]; exact F_h54__k_6_
  have F_h57__k_7_ : h57 (k + 7) = .inr (7, [.ref (k + 8), .int 0, .int 0, .long 0, .int 0]) := by rw [e_h57, va_up_neq (nek0 (a := 7) (by decide))]; exact F_h54__k_7_
  have F_h57__k_8_ : h57 (k + 8) = .inl (0, 8000, .inl (fun _ => 0)) := by rw [e_h57, va_up_neq (nek0 (a := 8) (by decide))]; exact F_h54__k_8_
  have FR_h57 : ∀ j, j < k ∨ aBig ≤ j → h57 j = h j := fun j hj => by rw [e_h57]; exact (va_up_neq (frne0 hj hbig)).trans (FR_h54 j hj)
  clear F_h54_k F_h54__k_1_ F_h54__k_2_ F_h54__k_3_ F_h54__k_4_ F_h54__k_5_ F_h54__k_6_ F_h54__k_7_ F_h54__k_8_ FR_h54 e_h57
  clear h54
  refine WX.s1 rfl rfl ?_
  refine WX.newN rfl (bigk (k := k) (a := 10) hbig (by decide)) (fun h61 e_h61 => ?_)
  have F_h61_k : h61 k = .inr (10, [.ref (k + 1), .ref (k + 3), .ref (k + 5), .ref (k + 7), .long 0, .null, .null, .null, .null, .null, .int 0, .int 0]) := by rw [e_h61, va_up_neq (nek1 (a := 9) (by decide))]; exact F_h57_k
  have F_h61__k_1_ : h61 (k + 1) = .inr (7, [.ref (k + 2), .int 0, .int 0, .long 0, .int 0]) := by rw [e_h61, va_up_neq (nek (a := 1) (b := 9) (by decide))]; exact F_h57__k_1_
  have F_h61__k_2_ : h61 (k + 2) = .inl (0, 8000, .inl (fun _ => 0)) := by rw [e_h61, va_up_neq (nek (a := 2) (b := 9) (by decide))]; exact F_h57__k_2_
  have F_h61__k_3_ : h61 (k + 3) = .inr (7, [.ref (k + 4), .int 0, .int 0, .long 0, .int 0]) := by rw [e_h61, va_up_neq (nek (a := 3) (b := 9) (by decide))]; exact F_h57__k_3_
  have F_h61__k_4_ : h61 (k + 4) = .inl (0, 12000, .inl (fun _ => 0)) := by rw [e_h61, va_up_neq (nek (a := 4) (b := 9) (by decide))]; exact F_h57__k_4_
  have F_h61__k_5_ : h61 (k + 5) = .inr (7, [.ref (k + 6), .int 0, .int 0, .long 0, .int 0]) := by rw [e_h61, va_up_neq (nek (a := 5) (b := 9) (by decide))]; exact F_h57__k_5_
  have F_h61__k_6_ : h61 (k + 6) = .inl (0, 12000, .inl (fun _ => 0)) := by rw [e_h61, va_up_neq (nek (a := 6) (b := 9) (by decide))]; exact F_h57__k_6_
  have F_h61__k_7_ : h61 (k + 7) = .inr (7, [.ref (k + 8), .int 0, .int 0, .long 0, .int 0]) := by rw [e_h61, va_up_neq (nek (a := 7) (b := 9) (by decide))]; exact F_h57__k_7_
  have F_h61__k_8_ : h61 (k + 8) = .inl (0, 8000, .inl (fun _ => 0)) := by rw [e_h61, va_up_neq (nek (a := 8) (b := 9) (by decide))]; exact F_h57__k_8_
  have F_h61__k_9_ : h61 (k + 9) = .inr (9, zX9) := by rw [e_h61]; exact va_up_eq
  have FR_h61 : ∀ j, j < k ∨ aBig ≤ j → h61 j = h j := fun j hj => by rw [e_h61]; exact (va_up_neq (frne (a := 9) hj hbig (by decide))).trans (FR_h57 j hj)
  clear F_h57_k F_h57__k_1_ F_h57__k_2_ F_h57__k_3_ F_h57__k_4_ F_h57__k_5_ F_h57__k_6_ F_h57__k_7_ F_h57__k_8_ FR_h57 e_h61
  clear h57
  refine WX.s1 rfl rfl ?_
  refine WX.callC (vs := [.ref (k + 9)]) rfl rfl rfl (Nat.le_of_ble_eq_true rfl) (rcv_ok (ltk (a := 9) (c := 10) (by decide)) F_h61__k_9_) ?_
  refine n_start (k := k + 9) (bigk (k := k) (a := 39) hbig (by decide)) F_h61__k_9_ (fun h65 fr65 cs65 => ?_)
  have F_h65_k : h65 k = .inr (10, [.ref (k + 1), .ref (k + 3), .ref (k + 5), .ref (k + 7), .long 0, .null, .null, .null, .null, .null, .int 0, .int 0]) := (fr65 k (Or.inl (ltk0 (c := 9) (by decide)))).trans F_h61_k
  have F_h65__k_1_ : h65 (k + 1) = .inr (7, [.ref (k + 2), .int 0, .int 0, .long 0, .int 0]) := (fr65 (k + 1) (Or.inl (ltk (a := 1) (c := 9) (by decide)))).trans F_h61__k_1_
  have F_h65__k_2_ : h65 (k + 2) = .inl (0, 8000, .inl (fun _ => 0)) := (fr65 (k + 2) (Or.inl (ltk (a := 2) (c := 9) (by decide)))).trans F_h61__k_2_
  have F_h65__k_3_ : h65 (k + 3) = .inr (7, [.ref (k + 4), .int 0, .int 0, .long 0, .int 0]) := (fr65 (k + 3) (Or.inl (ltk (a := 3) (c := 9) (by decide)))).trans F_h61__k_3_
  have F_h65__k_4_ : h65 (k + 4) = .inl (0, 12000, .inl (fun _ => 0)) := (fr65 (k + 4) (Or.inl (ltk (a := 4) (c := 9) (by decide)))).trans F_h61__k_4_
  have F_h65__k_5_ : h65 (k + 5) = .inr (7, [.ref (k + 6), .int 0, .int 0, .long 0, .int 0]) := (fr65 (k + 5) (Or.inl (ltk (a := 5) (c := 9) (by decide)))).trans F_h61__k_5_
  have F_h65__k_6_ : h65 (k + 6) = .inl (0, 12000, .inl (fun _ => 0)) := (fr65 (k + 6) (Or.inl (ltk (a := 6) (c := 9) (by decide)))).trans F_h61__k_6_
  have F_h65__k_7_ : h65 (k + 7) = .inr (7, [.ref (k + 8), .int 0, .int 0, .long 0, .int 0]) := (fr65 (k + 7) (Or.inl (ltk (a := 7) (c := 9) (by decide)))).trans F_h61__k_7_
  have F_h65__k_8_ : h65 (k + 8) = .inl (0, 8000, .inl (fun _ => 0)) := (fr65 (k + 8) (Or.inl (ltk (a := 8) (c := 9) (by decide)))).trans F_h61__k_8_
  have F_h65__k_9_ : h65 (k + 9) = .inr (9, [.ref (k + 10), .ref (k + 12), .ref (k + 16), .ref (k + 23), .ref (k + 30), .ref (k + 37)]) := cs65.1
  have F_h65__k_10_ : h65 (k + 10) = .inr (7, [.ref (k + 11), .int 0, .int 0, .long 0, .int 0]) := cs65.2.1
  have F_h65__k_11_ : h65 (k + 11) = .inl (0, 0, .inl (fun _ => 0)) := cs65.2.2.1
  have F_h65__k_12_ : h65 (k + 12) = .inr (0, [.ref (k + 13), .ref (k + 14), .ref (k + 15), .int 0, .int 0]) := cs65.2.2.2.1
  have F_h65__k_13_ : h65 (k + 13) = .inl (1, 256, .inl (fun _ => 0)) := cs65.2.2.2.2.1
  have F_h65__k_14_ : h65 (k + 14) = .inl (1, 256, .inl (fun _ => 0)) := cs65.2.2.2.2.2.1
  have F_h65__k_15_ : h65 (k + 15) = .inl (1, 13, .inl (fun _ => 0)) := cs65.2.2.2.2.2.2.1
  have F_h65__k_16_ : h65 (k + 16) = .inr (8, [.int 35, .ref (k + 17), .ref (k + 18), .ref (k + 19), .ref (k + 20), .ref (k + 21), .ref (k + 22), .int 0, .int 0]) := cs65.2.2.2.2.2.2.2.1
  have F_h65__k_17_ : h65 (k + 17) = .inl (1, 36, .inl (fun _ => 0)) := cs65.2.2.2.2.2.2.2.2.1
  have F_h65__k_18_ : h65 (k + 18) = .inl (1, 36, .inl (fun _ => 0)) := cs65.2.2.2.2.2.2.2.2.2.1
  have F_h65__k_19_ : h65 (k + 19) = .inl (1, 36, .inl (fun _ => 0)) := cs65.2.2.2.2.2.2.2.2.2.2.1
  have F_h65__k_20_ : h65 (k + 20) = .inl (1, 36, .inl (fun _ => 0)) := cs65.2.2.2.2.2.2.2.2.2.2.2.1
  have F_h65__k_21_ : h65 (k + 21) = .inl (1, 512, .inl (fun _ => 0)) := cs65.2.2.2.2.2.2.2.2.2.2.2.2.1
  have F_h65__k_22_ : h65 (k + 22) = .inl (1, 512, .inl (fun _ => 0)) := cs65.2.2.2.2.2.2.2.2.2.2.2.2.2.1
  have F_h65__k_23_ : h65 (k + 23) = .inr (8, [.int 31, .ref (k + 24), .ref (k + 25), .ref (k + 26), .ref (k + 27), .ref (k + 28), .ref (k + 29), .int 0, .int 0]) := cs65.2.2.2.2.2.2.2.2.2.2.2.2.2.2.1
  have F_h65__k_24_ : h65 (k + 24) = .inl (1, 32, .inl (fun _ => 0)) := cs65.2.2.2.2.2.2.2.2.2.2.2.2.2.2.2.1
  have F_h65__k_25_ : h65 (k + 25) = .inl (1, 32, .inl (fun _ => 0)) := cs65.2.2.2.2.2.2.2.2.2.2.2.2.2.2.2.2.1
  have F_h65__k_26_ : h65 (k + 26) = .inl (1, 32, .inl (fun _ => 0)) := cs65.2.2.2.2.2.2.2.2.2.2.2.2.2.2.2.2.2.1
  have F_h65__k_27_ : h65 (k + 27) = .inl (1, 32, .inl (fun _ => 0)) := cs65.2.2.2.2.2.2.2.2.2.2.2.2.2.2.2.2.2.2.1
  have F_h65__k_28_ : h65 (k + 28) = .inl (1, 256, .inl (fun _ => 0)) := cs65.2.2.2.2.2.2.2.2.2.2.2.2.2.2.2.2.2.2.2.1
  have F_h65__k_29_ : h65 (k + 29) = .inl (1, 256, .inl (fun _ => 0)) := cs65.2.2.2.2.2.2.2.2.2.2.2.2.2.2.2.2.2.2.2.2.1
  have F_h65__k_30_ : h65 (k + 30) = .inr (8, [.int 52, .ref (k + 31), .ref (k + 32), .ref (k + 33), .ref (k + 34), .ref (k + 35), .ref (k + 36), .int 0, .int 0]) := cs65.2.2.2.2.2.2.2.2.2.2.2.2.2.2.2.2.2.2.2.2.2.1
  have F_h65__k_31_ : h65 (k + 31) = .inl (1, 53, .inl (fun _ => 0)) := cs65.2.2.2.2.2.2.2.2.2.2.2.2.2.2.2.2.2.2.2.2.2.2.1
  have F_h65__k_32_ : h65 (k + 32) = .inl (1, 53, .inl (fun _ => 0)) := cs65.2.2.2.2.2.2.2.2.2.2.2.2.2.2.2.2.2.2.2.2.2.2.2.1
  have F_h65__k_33_ : h65 (k + 33) = .inl (1, 53, .inl (fun _ => 0)) := cs65.2.2.2.2.2.2.2.2.2.2.2.2.2.2.2.2.2.2.2.2.2.2.2.2.1
  have F_h65__k_34_ : h65 (k + 34) = .inl (1, 53, .inl (fun _ => 0)) := cs65.2.2.2.2.2.2.2.2.2.2.2.2.2.2.2.2.2.2.2.2.2.2.2.2.2.1
  have F_h65__k_35_ : h65 (k + 35) = .inl (1, 512, .inl (fun _ => 0)) := cs65.2.2.2.2.2.2.2.2.2.2.2.2.2.2.2.2.2.2.2.2.2.2.2.2.2.2.1
  have F_h65__k_36_ : h65 (k + 36) = .inl (1, 512, .inl (fun _ => 0)) := cs65.2.2.2.2.2.2.2.2.2.2.2.2.2.2.2.2.2.2.2.2.2.2.2.2.2.2.2.1
  have F_h65__k_37_ : h65 (k + 37) = .inl (1, 3, .inl lat0) := cs65.2.2.2.2.2.2.2.2.2.2.2.2.2.2.2.2.2.2.2.2.2.2.2.2.2.2.2.2.1
  have FR_h65 : ∀ j, j < k ∨ aBig ≤ j → h65 j = h j := fun j hj => (fr65 j (hj.imp (fun z => Nat.lt_of_lt_of_le z (Nat.le_add_right _ _)) (fun z => z))).trans (FR_h61 j hj)
  clear F_h61_k F_h61__k_1_ F_h61__k_2_ F_h61__k_3_ F_h61__k_4_ F_h61__k_5_ F_h61__k_6_ F_h61__k_7_ F_h61__k_8_ F_h61__k_9_ FR_h61 fr65 cs65
  clear h61
  show WX _ _ _ 68 [(0, .ref k)] [.ref (k + 9), .ref k] (k + 38, s + 5 + 8000 + 5 + 12000 + 5 + 12000 + 5 + 8000 + 6 + 3609, h65)
  refine WX.put1 (fs := [.ref (k + 1), .ref (k + 3), .ref (k + 5), .ref (k + 7), .long 0, .null, .null, .null, .null, .null, .int 0, .int 0]) (fs' := [.ref (k + 1), .ref (k + 3), .ref (k + 5), .ref (k + 7), .long 0, .ref (k + 9), .null, .null, .null, .null, .int 0, .int 0]) rfl (ltk0 (c := 38) (by decide)) (F_h65_k) (Nat.le_of_ble_eq_true rfl) (rfl) rfl (fun h68 e_h68 => ?_)
  have F_h68_k : h68 k = .inr (10, [.ref (k + 1), .ref (k + 3), .ref (k + 5), .ref (k + 7), .long 0, .ref (k + 9), .null, .null, .null, .null, .int 0, .int 0]) := by rw [e_h68]; exact va_up_eq
  have F_h68__k_1_ : h68 (k + 1) = .inr (7, [.ref (k + 2), .int 0, .int 0, .long 0, .int 0]) := by rw [e_h68, va_up_neq (nek0 (a := 1) (by decide))]; exact F_h65__k_1_
  have F_h68__k_2_ : h68 (k + 2) = .inl (0, 8000, .inl (fun _ => 0)) := by rw [e_h68, va_up_neq (nek0 (a := 2) (by decide))]; exact F_h65__k_2_
  have F_h68__k_3_ : h68 (k + 3) = .inr (7, [.ref (k + 4), .int 0, .int 0, .long 0, .int 0]) := by rw [e_h68, va_up_neq (nek0 (a := 3) (by decide))]; exact F_h65__k_3_
  have F_h68__k_4_ : h68 (k + 4) = .inl (0, 12000, .inl (fun _ => 0)) := by rw [e_h68, va_up_neq (nek0 (a := 4) (by decide))]; exact F_h65__k_4_
  have F_h68__k_5_ : h68 (k + 5) = .inr (7, [.ref (k + 6), .int 0, .int 0, .long 0, .int 0]) := by rw [e_h68, va_up_neq (nek0 (a := 5) (by decide))]; exact F_h65__k_5_
  have F_h68__k_6_ : h68 (k + 6) = .inl (0, 12000, .inl (fun _ => 0)) := by rw [e_h68, va_up_neq (nek0 (a := 6) (by decide))]; exact F_h65__k_6_
  have F_h68__k_7_ : h68 (k + 7) = .inr (7, [.ref (k + 8), .int 0, .int 0, .long 0, .int 0]) := by rw [e_h68, va_up_neq (nek0 (a := 7) (by decide))]; exact F_h65__k_7_
  have F_h68__k_8_ : h68 (k + 8) = .inl (0, 8000, .inl (fun _ => 0)) := by rw [e_h68, va_up_neq (nek0 (a := 8) (by decide))]; exact F_h65__k_8_
  have F_h68__k_9_ : h68 (k + 9) = .inr (9, [.ref (k + 10), .ref (k + 12), .ref (k + 16), .ref (k + 23), .ref (k + 30), .ref (k + 37)]) := by rw [e_h68, va_up_neq (nek0 (a := 9) (by decide))]; exact F_h65__k_9_
  have F_h68__k_10_ : h68 (k + 10) = .inr (7, [.ref (k + 11), .int 0, .int 0, .long 0, .int 0]) := by rw [e_h68, va_up_neq (nek0 (a := 10) (by decide))]; exact F_h65__k_10_
  have F_h68__k_11_ : h68 (k + 11) = .inl (0, 0, .inl (fun _ => 0)) := by rw [e_h68, va_up_neq (nek0 (a := 11) (by decide))]; exact F_h65__k_11_
  have F_h68__k_12_ : h68 (k + 12) = .inr (0, [.ref (k + 13), .ref (k + 14), .ref (k + 15), .int 0, .int 0]) := by rw [e_h68, va_up_neq (nek0 (a := 12) (by decide))]; exact F_h65__k_12_
  have F_h68__k_13_ : h68 (k + 13) = .inl (1, 256, .inl (fun _ => 0)) := by rw [e_h68, va_up_neq (nek0 (a := 13) (by decide))]; exact F_h65__k_13_
  have F_h68__k_14_ : h68 (k + 14) = .inl (1, 256, .inl (fun _ => 0)) := by rw [e_h68, va_up_neq (nek0 (a := 14) (by decide))]; exact F_h65__k_14_
  have F_h68__k_15_ : h68 (k + 15) = .inl (1, 13, .inl (fun _ => 0)) := by rw [e_h68, va_up_neq (nek0 (a := 15) (by decide))]; exact F_h65__k_15_
  have F_h68__k_16_ : h68 (k + 16) = .inr (8, [.int 35, .ref (k + 17), .ref (k + 18), .ref (k + 19), .ref (k + 20), .ref (k + 21), .ref (k + 22), .int 0, .int 0]) := by rw [e_h68, va_up_neq (nek0 (a := 16) (by decide))]; exact F_h65__k_16_
  have F_h68__k_17_ : h68 (k + 17) = .inl (1, 36, .inl (fun _ => 0)) := by rw [e_h68, va_up_neq (nek0 (a := 17) (by decide))]; exact F_h65__k_17_
  have F_h68__k_18_ : h68 (k + 18) = .inl (1, 36, .inl (fun _ => 0)) := by rw [e_h68, va_up_neq (nek0 (a := 18) (by decide))]; exact F_h65__k_18_
  have F_h68__k_19_ : h68 (k + 19) = .inl (1, 36, .inl (fun _ => 0)) := by rw [e_h68, va_up_neq (nek0 (a := 19) (by decide))]; exact F_h65__k_19_
  have F_h68__k_20_ : h68 (k + 20) = .inl (1, 36, .inl (fun _ => 0)) := by rw [e_h68, va_up_neq (nek0 (a := 20) (by decide))]; exact F_h65__k_20_
  have F_h68__k_21_ : h68 (k + 21) = .inl (1, 512, .inl (fun _ => 0)) := by rw [e_h68, va_up_neq (nek0 (a := 21) (by decide))]; exact F_h65__k_21_
  have F_h68__k_22_ : h68 (k + 22) = .inl (1, 512, .inl (fun _ => 0)) := by rw [e_h68, va_up_neq (nek0 (a := 22) (by decide))]; exact F_h65__k_22_
  have F_h68__k_23_ : h68 (k + 23) = .inr (8, [.int 31, .ref (k + 24), .ref (k + 25), .ref (k + 26), .ref (k + 27), .ref (k + 28), .ref (k + 29), .int 0, .int 0]) := by rw [e_h68, va_up_neq (nek0 (a := 23) (by decide))]; exact F_h65__k_23_
  have F_h68__k_24_ : h68 (k + 24) = .inl (1, 32, .inl (fun _ => 0)) := by rw [e_h68, va_up_neq (nek0 (a := 24) (by decide))]; exact F_h65__k_24_
  have F_h68__k_25_ : h68 (k + 25) = .inl (1, 32, .inl (fun _ => 0)) := by rw [e_h68, va_up_neq (nek0 (a := 25) (by decide))]; exact F_h65__k_25_
  have F_h68__k_26_ : h68 (k + 26) = .inl (1, 32, .inl (fun _ => 0)) := by rw [e_h68, va_up_neq (nek0 (a := 26) (by decide))]; exact F_h65__k_26_
  have F_h68__k_27_ : h68 (k + 27) = .inl (1, 32, .inl (fun _ => 0)) := by rw [e_h68, va_up_neq (nek0 (a := 27) (by decide))]; exact F_h65__k_27_
  have F_h68__k_28_ : h68 (k + 28) = .inl (1, 256, .inl (fun _ => 0)) := by rw [e_h68, va_up_neq (nek0 (a := 28) (by decide))]; exact F_h65__k_28_
  have F_h68__k_29_ : h68 (k + 29) = .inl (1, 256, .inl (fun _ => 0)) := by rw [e_h68, va_up_neq (nek0 (a := 29) (by decide))]; exact F_h65__k_29_
  have F_h68__k_30_ : h68 (k + 30) = .inr (8, [.int 52, .ref (k + 31), .ref (k + 32), .ref (k + 33), .ref (k + 34), .ref (k + 35), .ref (k + 36), .int 0, .int 0]) := by rw [e_h68, va_up_neq (nek0 (a := 30) (by decide))]; exact F_h65__k_30_
  have F_h68__k_31_ : h68 (k + 31) = .inl (1, 53, .inl (fun _ => 0)) := by rw [e_h68, va_up_neq (nek0 (a := 31) (by decide))]; exact F_h65__k_31_
  have F_h68__k_32_ : h68 (k + 32) = .inl (1, 53, .inl (fun _ => 0)) := by rw [e_h68, va_up_neq (nek0 (a := 32) (by decide))]; exact F_h65__k_32_
  have F_h68__k_33_ : h68 (k + 33) = .inl (1, 53, .inl (fun _ => 0)) := by rw [e_h68, va_up_neq (nek0 (a := 33) (by decide))]; exact F_h65__k_33_
  have F_h68__k_34_ : h68 (k + 34) = .inl (1, 53, .inl (fun _ => 0)) := by rw [e_h68, va_up_neq (nek0 (a := 34) (by decide))]; exact F_h65__k_34_
  have F_h68__k_35_ : h68 (k + 35) = .inl (1, 512, .inl (fun _ => 0)) := by rw [e_h68, va_up_neq (nek0 (a := 35) (by decide))]; exact F_h65__k_35_
  have F_h68__k_36_ : h68 (k + 36) = .inl (1, 512, .inl (fun _ => 0)) := by rw [e_h68, va_up_neq (nek0 (a := 36) (by decide))]; exact F_h65__k_36_
  have F_h68__k_37_ : h68 (k + 37) = .inl (1, 3, .inl lat0) := by rw [e_h68, va_up_neq (nek0 (a := 37) (by decide))]; exact F_h65__k_37_
  have FR_h68 : ∀ j, j < k ∨ aBig ≤ j → h68 j = h j := fun j hj => by rw [e_h68]; exact (va_up_neq (frne0 hj hbig)).trans (FR_h65 j hj)
  clear F_h65_k F_h65__k_1_ F_h65__k_2_ F_h65__k_3_ F_h65__k_4_ F_h65__k_5_ F_h65__k_6_ F_h65__k_7_ F_h65__k_8_ F_h65__k_9_ F_h65__k_10_ F_h65__k_11_ F_h65__k_12_ F_h65__k_13_ F_h65__k_14_ F_h65__k_15_ F_h65__k_16_ F_h65__k_17_ F_h65__k_18_ F_h65__k_19_ F_h65__k_20_ F_h65__k_21_ F_h65__k_22_ F_h65__k_23_ F_h65__k_24_ F_h65__k_25_ F_h65__k_26_ F_h65__k_27_ F_h65__k_28_ F_h65__k_29_ F_h65__k_30_ F_h65__k_31_ F_h65__k_32_ F_h65__k_33_ F_h65__k_34_ F_h65__k_35_ F_h65__k_36_ F_h65__k_37_ FR_h65 e_h68
  clear h65
  refine WX.s1 rfl rfl ?_
  refine WX.newN rfl (bigk (k := k) (a := 39) hbig (by decide)) (fun h72 e_h72 => ?_)
  have F_h72_k : h72 k = .inr (10, [.ref (k + 1), .ref (k + 3), .ref (k + 5), .ref (k + 7), .long 0, .ref (k + 9), .null, .null, .null, .null, .int 0, .int 0]) := by rw [e_h72, va_up_neq (nek1 (a := 38) (by decide))]; exact F_h68_k
  have F_h72__k_1_ : h72 (k + 1) = .inr (7, [.ref (k + 2), .int 0, .int 0, .long 0, .int 0]) := by rw [e_h72, va_up_neq (nek (a := 1) (b := 38) (by decide))]; exact F_h68__k_1_
  have F_h72__k_2_ : h72 (k + 2) = .inl (0, 8000, .inl (fun _ => 0)) := by rw [e_h72, va_up_neq (nek (a := 2) (b := 38) (by decide))]; exact F_h68__k_2_
  have F_h72__k_3_ : h72 (k + 3) = .inr (7, [.ref (k + 4), .int 0, .int 0, .long 0, .int 0]) := by rw [e_h72, va_up_neq (nek (a := 3) (b := 38) (by decide))]; exact F_h68__k_3_
  have F_h72__k_4_ : h72 (k + 4) = .inl (0, 12000, .inl (fun _ => 0)) := by rw [e_h72, va_up_neq (nek (a := 4) (b := 38) (by decide))]; exact F_h68__k_4_
  have F_h72__k_5_ : h72 (k + 5) = .inr (7, [.ref (k + 6), .int 0, .int 0, .long 0, .int 0]) := by rw [e_h72, va_up_neq (nek (a := 5) (b := 38) (by decide))]; exact F_h68__k_5_
  have F_h72__k_6_ : h72 (k + 6) = .inl (0, 12000, .inl (fun _ => 0)) := by rw [e_h72, va_up_neq (nek (a := 6) (b := 38) (by decide))]; exact F_h68__k_6_
  have F_h72__k_7_ : h72 (k + 7) = .inr (7, [.ref (k + 8), .int 0, .int 0, .long 0, .int 0]) := by rw [e_h72, va_up_neq (nek (a := 7) (b := 38) (by decide))]; exact F_h68__k_7_
  have F_h72__k_8_ : h72 (k + 8) = .inl (0, 8000, .inl (fun _ => 0)) := by rw [e_h72, va_up_neq (nek (a := 8) (b := 38) (by decide))]; exact F_h68__k_8_
  have F_h72__k_9_ : h72 (k + 9) = .inr (9, [.ref (k + 10), .ref (k + 12), .ref (k + 16), .ref (k + 23), .ref (k + 30), .ref (k + 37)]) := by rw [e_h72, va_up_neq (nek (a := 9) (b := 38) (by decide))]; exact F_h68__k_9_
  have F_h72__k_10_ : h72 (k + 10) = .inr (7, [.ref (k + 11), .int 0, .int 0, .long 0, .int 0]) := by rw [e_h72, va_up_neq (nek (a := 10) (b := 38) (by decide))]; exact F_h68__k_10_
  have F_h72__k_11_ : h72 (k + 11) = .inl (0, 0, .inl (fun _ => 0)) := by rw [e_h72, va_up_neq (nek (a := 11) (b := 38) (by decide))]; exact F_h68__k_11_
  have F_h72__k_12_ : h72 (k + 12) = .inr (0, [.ref (k + 13), .ref (k + 14), .ref (k + 15), .int 0, .int 0]) := by rw [e_h72, va_up_neq (nek (a := 12) (b := 38) (by decide))]; exact F_h68__k_12_
  have F_h72__k_13_ : h72 (k + 13) = .inl (1, 256, .inl (fun _ => 0)) := by rw [e_h72, va_up_neq (nek (a := 13) (b := 38) (by decide))]; exact F_h68__k_13_
  have F_h72__k_14_ : h72 (k + 14) = .inl (1, 256, .inl (fun _ => 0)) := by rw [e_h72, va_up_neq (nek (a := 14) (b := 38) (by decide))]; exact F_h68__k_14_
  have F_h72__k_15_ : h72 (k + 15) = .inl (1, 13, .inl (fun _ => 0)) := by rw [e_h72, va_up_neq (nek (a := 15) (b := 38) (by decide))]; exact F_h68__k_15_
  have F_h72__k_16_ : h72 (k + 16) = .inr (8, [.int 35, .ref (k + 17), .ref (k + 18), .ref (k + 19), .ref (k + 20), .ref (k + 21), .ref (k + 22), .int 0, .int 0]) := by rw [e_h72, va_up_neq (nek (a := 16) (b := 38) (by decide))]; exact F_h68__k_16_
  have F_h72__k_17_ : h72 (k + 17) = .inl (1, 36, .inl (fun _ => 0)) := by rw [e_h72, va_up_neq (nek (a := 17) (b := 38) (by decide))]; exact F_h68__k_17_
  have F_h72__k_18_ : h72 (k + 18) = .inl (1, 36, .inl (fun _ => 0)) := by rw [e_h72, va_up_neq (nek (a := 18) (b := 38) (by decide))]; exact F_h68__k_18_
  have F_h72__k_19_ : h72 (k + 19) = .inl (1, 36, .inl (fun _ => 0)) := by rw [e_h72, va_up_neq (nek (a := 19) (b := 38) (by decide))]; exact F_h68__k_19_
  have F_h72__k_20_ : h72 (k + 20) = .inl (1, 36, .inl (fun _ => 0)) := by rw [e_h72, va_up_neq (nek (a := 20) (b := 38) (by decide))]; exact F_h68__k_20_
  have F_h72__k_21_ : h72 (k + 21) = .inl (1, 512, .inl (fun _ => 0)) := by rw [e_h72, va_up_neq (nek (a := 21) (b := 38) (by decide))]; exact F_h68__k_21_
  have F_h72__k_22_ : h72 (k + 22) = .inl (1, 512, .inl (fun _ => 0)) := by rw [e_h72, va_up_neq (nek (a := 22) (b := 38) (by decide))]; exact F_h68__k_22_
  have F_h72__k_23_ : h72 (k + 23) = .inr (8, [.int 31, .ref (k + 24), .ref (k + 25), .ref (k + 26), .ref (k + 27), .ref (k + 28), .ref (k + 29), .int 0, .int 0]) := by rw [e_h72, va_up_neq (nek (a := 23) (b := 38) (by decide))]; exact F_h68__k_23_
  have F_h72__k_24_ : h72 (k + 24) = .inl (1, 32, .inl (fun _ => 0)) := by rw [e_h72, va_up_neq (nek (a := 24) (b := 38) (by decide))]; exact F_h68__k_24_
  have F_h72__k_25_ : h72 (k + 25) = .inl (1, 32, .inl (fun _ => 0)) := by rw [e_h72, va_up_neq (nek (a := 25) (b := 38) (by decide))]; exact F_h68__k_25_
  have F_h72__k_26_ : h72 (k + 26) = .inl (1, 32, .inl (fun _ => 0)) := by rw [e_h72, va_up_neq (nek (a := 26) (b := 38) (by decide))]; exact F_h68__k_26_
  have F_h72__k_27_ : h72 (k + 27) = .inl (1, 32, .inl (fun _ => 0)) := by rw [e_h72, va_up_neq (nek (a := 27) (b := 38) (by decide))]; exact F_h68__k_27_
  have F_h72__k_28_ : h72 (k + 28) = .inl (1, 256, .inl (fun _ => 0)) := by rw [e_h72, va_up_neq (nek (a := 28) (b := 38) (by decide))]; exact F_h68__k_28_
  have F_h72__k_29_ : h72 (k + 29) = .inl (1, 256, .inl (fun _ => 0)) := by rw [e_h72, va_up_neq (nek (a := 29) (b := 38) (by decide))]; exact F_h68__k_29_
  have F_h72__k_30_ : h72 (k + 30) = .inr (8, [.int 52, .ref (k + 31), .ref (k + 32), .ref (k + 33), .ref (k + 34), .ref (k + 35), .ref (k + 36), .int 0, .int 0]) := by rw [e_h72, va_up_neq (nek (a := 30) (b := 38) (by decide))]; exact F_h68__k_30_
  have F_h72__k_31_ : h72 (k + 31) = .inl (1, 53, .inl (fun _ => 0)) := by rw [e_h72, va_up_neq (nek (a := 31) (b := 38) (by decide))]; exact F_h68__k_31_
  have F_h72__k_32_ : h72 (k + 32) = .inl (1, 53, .inl (fun _ => 0)) := by rw [e_h72, va_up_neq (nek (a := 32) (b := 38) (by decide))]; exact F_h68__k_32_
  have F_h72__k_33_ : h72 (k + 33) = .inl (1, 53, .inl (fun _ => 0)) := by rw [e_h72, va_up_neq (nek (a := 33) (b := 38) (by decide))]; exact F_h68__k_33_
  have F_h72__k_34_ : h72 (k + 34) = .inl (1, 53, .inl (fun _ => 0)) := by rw [e_h72, va_up_neq (nek (a := 34) (b := 38) (by decide))]; exact F_h68__k_34_
  have F_h72__k_35_ : h72 (k + 35) = .inl (1, 512, .inl (fun _ => 0)) := by rw [e_h72, va_up_neq (nek (a := 35) (b := 38) (by decide))]; exact F_h68__k_35_
  have F_h72__k_36_ : h72 (k + 36) = .inl (1, 512, .inl (fun _ => 0)) := by rw [e_h72, va_up_neq (nek (a := 36) (b := 38) (by decide))]; exact F_h68__k_36_
  have F_h72__k_37_ : h72 (k + 37) = .inl (1, 3, .inl lat0) := by rw [e_h72, va_up_neq (nek (a := 37) (b := 38) (by decide))]; exact F_h68__k_37_
  have F_h72__k_38_ : h72 (k + 38) = .inr (9, zX9) := by rw [e_h72]; exact va_up_eq
  have FR_h72 : ∀ j, j < k ∨ aBig ≤ j → h72 j = h j := fun j hj => by rw [e_h72]; exact (va_up_neq (frne (a := 38) hj hbig (by decide))).trans (FR_h68 j hj)
  clear F_h68_k F_h68__k_1_ F_h68__k_2_ F_h68__k_3_ F_h68__k_4_ F_h68__k_5_ F_h68__k_6_ F_h68__k_7_ F_h68__k_8_ F_h68__k_9_ F_h68__k_10_ F_h68__k_11_ F_h68__k_12_ F_h68__k_13_ F_h68__k_14_ F_h68__k_15_ F_h68__k_16_ F_h68__k_17_ F_h68__k_18_ F_h68__k_19_ F_h68__k_20_ F_h68__k_21_ F_h68__k_22_ F_h68__k_23_ F_h68__k_24_ F_h68__k_25_ F_h68__k_26_ F_h68__k_27_ F_h68__k_28_ F_h68__k_29_ F_h68__k_30_ F_h68__k_31_ F_h68__k_32_ F_h68__k_33_ F_h68__k_34_ F_h68__k_35_ F_h68__k_36_ F_h68__k_37_ FR_h68 e_h72
  clear h68
  refine WX.s1 rfl rfl ?_
  refine WX.callC (vs := [.ref (k + 38)]) rfl rfl rfl (Nat.le_of_ble_eq_true rfl) (rcv_ok (ltk (a := 38) (c := 39) (by decide)) F_h72__k_38_) ?_
  refine n_start (k := k + 38) (bigk (k := k) (a := 68) hbig (by decide)) F_h72__k_38_ (fun h76 fr76 cs76 => ?_)
  have F_h76_k : h76 k = .inr (10, [.ref (k + 1), .ref (k + 3), .ref (k + 5), .ref (k + 7), .long 0, .ref (k + 9), .null, .null, .null, .null, .int 0, .int 0]) := (fr76 k (Or.inl (ltk0 (c := 38) (by decide)))).trans F_h72_k
  have F_h76__k_1_ : h76 (k + 1) = .inr (7, [.ref (k + 2), .int 0, .int 0, .long 0, .int 0]) := (fr76 (k + 1) (Or.inl (ltk (a := 1) (c := 38) (by decide)))).trans F_h72__k_1_
  have F_h76__k_2_ : h76 (k + 2) = .inl (0, 8000, .inl (fun _ => 0)) := (fr76 (k + 2) (Or.inl (ltk (a := 2) (c := 38) (by decide)))).trans F_h72__k_2_
  have F_h76__k_3_ : h76 (k + 3) = .inr (7, [.ref (k + 4), .int 0, .int 0, .long 0, .int 0]) := (fr76 (k + 3) (Or.inl (ltk (a := 3) (c := 38) (by decide)))).trans F_h72__k_3_
  have F_h76__k_4_ : h76 (k + 4) = .inl (0, 12000, .inl (fun _ => 0)) := (fr76 (k + 4) (Or.inl (ltk (a := 4) (c := 38) (by decide)))).trans F_h72__k_4_
  have F_h76__k_5_ : h76 (k + 5) = .inr (7, [.ref (k + 6), .int 0, .int 0, .long 0, .int 0]) := (fr76 (k + 5) (Or.inl (ltk (a := 5) (c := 38) (by decide)))).trans F_h72__k_5_
  have F_h76__k_6_ : h76 (k + 6) = .inl (0, 12000, .inl (fun _ => 0)) := (fr76 (k + 6) (Or.inl (ltk (a := 6) (c := 38) (by decide)))).trans F_h72__k_6_
  have F_h76__k_7_ : h76 (k + 7) = .inr (7, [.ref (k + 8), .int 0, .int 0, .long 0, .int 0]) := (fr76 (k + 7) (Or.inl (ltk (a := 7) (c := 38) (by decide)))).trans F_h72__k_7_
  have F_h76__k_8_ : h76 (k + 8) = .inl (0, 8000, .inl (fun _ => 0)) := (fr76 (k + 8) (Or.inl (ltk (a := 8) (c := 38) (by decide)))).trans F_h72__k_8_
  have F_h76__k_9_ : h76 (k + 9) = .inr (9, [.ref (k + 10), .ref (k + 12), .ref (k + 16), .ref (k + 23), .ref (k + 30), .ref (k + 37)]) := (fr76 (k + 9) (Or.inl (ltk (a := 9) (c := 38) (by decide)))).trans F_h72__k_9_
  have F_h76__k_10_ : h76 (k + 10) = .inr (7, [.ref (k + 11), .int 0, .int 0, .long 0, .int 0]) := (fr76 (k + 10) (Or.inl (ltk (a := 10) (c := 38) (by decide)))).trans F_h72__k_10_
  have F_h76__k_11_ : h76 (k + 11) = .inl (0, 0, .inl (fun _ => 0)) := (fr76 (k + 11) (Or.inl (ltk (a := 11) (c := 38) (by decide)))).trans F_h72__k_11_
  have F_h76__k_12_ : h76 (k + 12) = .inr (0, [.ref (k + 13), .ref (k + 14), .ref (k + 15), .int 0, .int 0]) := (fr76 (k + 12) (Or.inl (ltk (a := 12) (c := 38) (by decide)))).trans F_h72__k_12_
  have F_h76__k_13_ : h76 (k + 13) = .inl (1, 256, .inl (fun _ => 0)) := (fr76 (k + 13) (Or.inl (ltk (a := 13) (c := 38) (by decide)))).trans F_h72__k_13_
  have F_h76__k_14_ : h76 (k + 14) = .inl (1, 256, .inl (fun _ => 0)) := (fr76 (k + 14) (Or.inl (ltk (a := 14) (c := 38) (by decide)))).trans F_h72__k_14_
  have F_h76__k_15_ : h76 (k + 15) = .inl (1, 13, .inl (fun _ => 0)) := (fr76 (k + 15) (Or.inl (ltk (a := 15) (c := 38) (by decide)))).trans F_h72__k_15_
  have F_h76__k_16_ : h76 (k + 16) = .inr (8, [.int 35, .ref (k + 17), .ref (k + 18), .ref (k + 19), .ref (k + 20), .ref (k + 21), .ref (k + 22), .int 0, .int 0]) := (fr76 (k + 16) (Or.inl (ltk (a := 16) (c := 38) (by decide)))).trans F_h72__k_16_
  have F_h76__k_17_ : h76 (k + 17) = .inl (1, 36, .inl (fun _ => 0)) := (fr76 (k + 17) (Or.inl (ltk (a := 17) (c := 38) (by decide)))).trans F_h72__k_17_
  have F_h76__k_18_ : h76 (k + 18) = .inl (1, 36, .inl (fun _ => 0)) := (fr76 (k + 18) (Or.inl (ltk (a := 18) (c := 38) (by decide)))).trans F_h72__k_18_
  have F_h76__k_19_ : h76 (k + 19) = .inl (1, 36, .inl (fun _ => 0)) := (fr76 (k + 19) (Or.inl (ltk (a := 19) (c := 38) (by decide)))).trans F_h72__k_19_
  have F_h76__k_20_ : h76 (k + 20) = .inl (1, 36, .inl (fun _ => 0)) := (fr76 (k + 20) (Or.inl (ltk (a := 20) (c := 38) (by decide)))).trans F_h72__k_20_
  have F_h76__k_21_ : h76 (k + 21) = .inl (1, 512, .inl (fun _ => 0)) := (fr76 (k + 21) (Or.inl (ltk (a := 21) (c := 38) (by decide)))).trans F_h72__k_21_
  have F_h76__k_22_ : h76 (k + 22) = .inl (1, 512, .inl (fun _ => 0)) := (fr76 (k + 22) (Or.inl (ltk (a := 22) (c := 38) (by decide)))).trans F_h72__k_22_
  have F_h76__k_23_ : h76 (k + 23) = .inr (8, [.int 31, .ref (k + 24), .ref (k + 25), .ref (k + 26), .ref (k + 27), .ref (k + 28), .ref (k + 29), .int 0, .int 0]) := (fr76 (k + 23) (Or.inl (ltk (a := 23) (c := 38) (by decide)))).trans F_h72__k_23_
  have F_h76__k_24_ : h76 (k + 24) = .inl (1, 32, .inl (fun _ => 0)) := (fr76 (k + 24) (Or.inl (ltk (a := 24) (c := 38) (by decide)))).trans F_h72__k_24_
  have F_h76__k_25_ : h76 (k + 25) = .inl (1, 32, .inl (fun _ => 0)) := (fr76 (k + 25) (Or.inl (ltk (a := 25) (c := 38) (by decide)))).trans F_h72__k_25_
  have F_h76__k_26_ : h76 (k + 26) = .inl (1, 32, .inl (fun _ => 0)) := (fr76 (k + 26) (Or.inl (ltk (a := 26) (c := 38) (by decide)))).trans F_h72__k_26_
  have F_h76__k_27_ : h76 (k + 27) = .inl (1, 32, .inl (fun _ => 0)) := (fr76 (k + 27) (Or.inl (ltk (a := 27) (c := 38) (by decide)))).trans F_h72__k_27_
  have F_h76__k_28_ : h76 (k + 28) = .inl (1, 256, .inl (fun _ => 0)) := (fr76 (k + 28) (Or.inl (ltk (a := 28) (c := 38) (by decide)))).trans F_h72__k_28_
  have F_h76__k_29_ : h76 (k + 29) = .inl (1, 256, .inl (fun _ => 0)) := (fr76 (k + 29) (Or.inl (ltk (a := 29) (c := 38) (by decide)))).trans F_h72__k_29_
  have F_h76__k_30_ : h76 (k + 30) = .inr (8, [.int 52, .ref (k + 31), .ref (k + 32), .ref (k + 33), .ref (k + 34), .ref (k + 35), .ref (k + 36), .int 0, .int 0]) := (fr76 (k + 30) (Or.inl (ltk (a := 30) (c := 38) (by decide)))).trans F_h72__k_30_
  have F_h76__k_31_ : h76 (k + 31) = .inl (1, 53, .inl (fun _ => 0)) := (fr76 (k + 31) (Or.inl (ltk (a := 31) (c := 38) (by decide)))).trans F_h72__k_31_
  have F_h76__k_32_ : h76 (k + 32) = .inl (1, 53, .inl (fun _ => 0)) := (fr76 (k + 32) (Or.inl (ltk (a := 32) (c := 38) (by decide)))).trans F_h72__k_32_
  have F_h76__k_33_ : h76 (k + 33) = .inl (1, 53, .inl (fun _ => 0)) := (fr76 (k + 33) (Or.inl (ltk (a := 33) (c := 38) (by decide)))).trans F_h72__k_33_
  have F_h76__k_34_ : h76 (k + 34) = .inl (1, 53, .inl (fun _ => 0)) := (fr76 (k + 34) (Or.inl (ltk (a := 34) (c := 38) (by decide)))).trans F_h72__k_34_
  have F_h76__k_35_ : h76 (k + 35) = .inl (1, 512, .inl (fun _ => 0)) := (fr76 (k + 35) (Or.inl (ltk (a := 35) (c := 38) (by decide)))).trans F_h72__k_35_
  have F_h76__k_36_ : h76 (k + 36) = .inl (1, 512, .inl (fun _ => 0)) := (fr76 (k + 36) (Or.inl (ltk (a := 36) (c := 38) (by decide)))).trans F_h72__k_36_
  have F_h76__k_37_ : h76 (k + 37) = .inl (1, 3, .inl lat0) := (fr76 (k + 37) (Or.inl (ltk (a := 37) (c := 38) (by decide)))).trans F_h72__k_37_
  have F_h76__k_38_ : h76 (k + 38) = .inr (9, [.ref (k + 39), .ref (k + 41), .ref (k + 45), .ref (k + 52), .ref (k + 59), .ref (k + 66)]) := cs76.1
  have F_h76__k_39_ : h76 (k + 39) = .inr (7, [.ref (k + 40), .int 0, .int 0, .long 0, .int 0]) := cs76.2.1
  have F_h76__k_40_ : h76 (k + 40) = .inl (0, 0, .inl (fun _ => 0)) := cs76.2.2.1
  have F_h76__k_41_ : h76 (k + 41) = .inr (0, [.ref (k + 42), .ref (k + 43), .ref (k + 44), .int 0, .int 0]) := cs76.2.2.2.1
  have F_h76__k_42_ : h76 (k + 42) = .inl (1, 256, .inl (fun _ => 0)) := cs76.2.2.2.2.1
  have F_h76__k_43_ : h76 (k + 43) = .inl (1, 256, .inl (fun _ => 0)) := cs76.2.2.2.2.2.1
  have F_h76__k_44_ : h76 (k + 44) = .inl (1, 13, .inl (fun _ => 0)) := cs76.2.2.2.2.2.2.1
  have F_h76__k_45_ : h76 (k + 45) = .inr (8, [.int 35, .ref (k + 46), .ref (k + 47), .ref (k + 48), .ref (k + 49), .ref (k + 50), .ref (k + 51), .int 0, .int 0]) := cs76.2.2.2.2.2.2.2.1
  have F_h76__k_46_ : h76 (k + 46) = .inl (1, 36, .inl (fun _ => 0)) := cs76.2.2.2.2.2.2.2.2.1
  have F_h76__k_47_ : h76 (k + 47) = .inl (1, 36, .inl (fun _ => 0)) := cs76.2.2.2.2.2.2.2.2.2.1
  have F_h76__k_48_ : h76 (k + 48) = .inl (1, 36, .inl (fun _ => 0)) := cs76.2.2.2.2.2.2.2.2.2.2.1
  have F_h76__k_49_ : h76 (k + 49) = .inl (1, 36, .inl (fun _ => 0)) := cs76.2.2.2.2.2.2.2.2.2.2.2.1
  have F_h76__k_50_ : h76 (k + 50) = .inl (1, 512, .inl (fun _ => 0)) := cs76.2.2.2.2.2.2.2.2.2.2.2.2.1
  have F_h76__k_51_ : h76 (k + 51) = .inl (1, 512, .inl (fun _ => 0)) := cs76.2.2.2.2.2.2.2.2.2.2.2.2.2.1
  have F_h76__k_52_ : h76 (k + 52) = .inr (8, [.int 31, .ref (k + 53), .ref (k + 54), .ref (k + 55), .ref (k + 56), .ref (k + 57), .ref (k + 58), .int 0, .int 0]) := cs76.2.2.2.2.2.2.2.2.2.2.2.2.2.2.1
  have F_h76__k_53_ : h76 (k + 53) = .inl (1, 32, .inl (fun _ => 0)) := cs76.2.2.2.2.2.2.2.2.2.2.2.2.2.2.2.1
  have F_h76__k_54_ : h76 (k + 54) = .inl (1, 32, .inl (fun _ => 0)) := cs76.2.2.2.2.2.2.2.2.2.2.2.2.2.2.2.2.1
  have F_h76__k_55_ : h76 (k + 55) = .inl (1, 32, .inl (fun _ => 0)) := cs76.2.2.2.2.2.2.2.2.2.2.2.2.2.2.2.2.2.1
  have F_h76__k_56_ : h76 (k + 56) = .inl (1, 32, .inl (fun _ => 0)) := cs76.2.2.2.2.2.2.2.2.2.2.2.2.2.2.2.2.2.2.1
  have F_h76__k_57_ : h76 (k + 57) = .inl (1, 256, .inl (fun _ => 0)) := cs76.2.2.2.2.2.2.2.2.2.2.2.2.2.2.2.2.2.2.2.1
  have F_h76__k_58_ : h76 (k + 58) = .inl (1, 256, .inl (fun _ => 0)) := cs76.2.2.2.2.2.2.2.2.2.2.2.2.2.2.2.2.2.2.2.2.1
  have F_h76__k_59_ : h76 (k + 59) = .inr (8, [.int 52, .ref (k + 60), .ref (k + 61), .ref (k + 62), .ref (k + 63), .ref (k + 64), .ref (k + 65), .int 0, .int 0]) := cs76.2.2.2.2.2.2.2.2.2.2.2.2.2.2.2.2.2.2.2.2.2.1
  have F_h76__k_60_ : h76 (k + 60) = .inl (1, 53, .inl (fun _ => 0)) := cs76.2.2.2.2.2.2.2.2.2.2.2.2.2.2.2.2.2.2.2.2.2.2.1
  have F_h76__k_61_ : h76 (k + 61) = .inl (1, 53, .inl (fun _ => 0)) := cs76.2.2.2.2.2.2.2.2.2.2.2.2.2.2.2.2.2.2.2.2.2.2.2.1
  have F_h76__k_62_ : h76 (k + 62) = .inl (1, 53, .inl (fun _ => 0)) := cs76.2.2.2.2.2.2.2.2.2.2.2.2.2.2.2.2.2.2.2.2.2.2.2.2.1
  have F_h76__k_63_ : h76 (k + 63) = .inl (1, 53, .inl (fun _ => 0)) := cs76.2.2.2.2.2.2.2.2.2.2.2.2.2.2.2.2.2.2.2.2.2.2.2.2.2.1
  have F_h76__k_64_ : h76 (k + 64) = .inl (1, 512, .inl (fun _ => 0)) := cs76.2.2.2.2.2.2.2.2.2.2.2.2.2.2.2.2.2.2.2.2.2.2.2.2.2.2.1
  have F_h76__k_65_ : h76 (k + 65) = .inl (1, 512, .inl (fun _ => 0)) := cs76.2.2.2.2.2.2.2.2.2.2.2.2.2.2.2.2.2.2.2.2.2.2.2.2.2.2.2.1
  have F_h76__k_66_ : h76 (k + 66) = .inl (1, 3, .inl lat0) := cs76.2.2.2.2.2.2.2.2.2.2.2.2.2.2.2.2.2.2.2.2.2.2.2.2.2.2.2.2.1
  have FR_h76 : ∀ j, j < k ∨ aBig ≤ j → h76 j = h j := fun j hj => (fr76 j (hj.imp (fun z => Nat.lt_of_lt_of_le z (Nat.le_add_right _ _)) (fun z => z))).trans (FR_h72 j hj)
  clear F_h72_k F_h72__k_1_ F_h72__k_2_ F_h72__k_3_ F_h72__k_4_ F_h72__k_5_ F_h72__k_6_ F_h72__k_7_ F_h72__k_8_ F_h72__k_9_ F_h72__k_10_ F_h72__k_11_ F_h72__k_12_ F_h72__k_13_ F_h72__k_14_ F_h72__k_15_ F_h72__k_16_ F_h72__k_17_ F_h72__k_18_ F_h72__k_19_ F_h72__k_20_ F_h72__k_21_ F_h72__k_22_ F_h72__k_23_ F_h72__k_24_ F_h72__k_25_ F_h72__k_26_ F_h72__k_27_ F_h72__k_28_ F_h72__k_29_ F_h72__k_30_ F_h72__k_31_ F_h72__k_32_ F_h72__k_33_ F_h72__k_34_ F_h72__k_35_ F_h72__k_36_ F_h72__k_37_ F_h72__k_38_ FR_h72 fr76 cs76
  clear h72
  show WX _ _ _ 79 [(0, .ref k)] [.ref (k + 38), .ref k] (k + 67, s + 5 + 8000 + 5 + 12000 + 5 + 12000 + 5 + 8000 + 6 + 3609 + 6 + 3609, h76)
  refine WX.put1 (fs := [.ref (k + 1), .ref (k + 3), .ref (k + 5), .ref (k + 7), .long 0, .ref (k + 9), .null, .null, .null, .null, .int 0, .int 0]) (fs' := [.ref (k + 1), .ref (k + 3), .ref (k + 5), .ref (k + 7), .long 0, .ref (k + 9), .ref (k + 38), .null, .null, .null, .int 0, .int 0]) rfl (ltk0 (c := 67) (by decide)) (F_h76_k) (Nat.le_of_ble_eq_true rfl) (rfl) rfl (fun h79 e_h79 => ?_)
  have F_h79_k : h79 k = .inr (10, [.ref (k + 1), .ref (k + 3), .ref (k + 5), .ref (k + 7), .long 0, .ref (k + 9), .ref (k + 38), .null, .null, .null, .int 0, .int 0]) := by rw [e_h79]; exact va_up_eq
  have F_h79__k_1_ : h79 (k + 1) = .inr (7, [.ref (k + 2), .int 0, .int 0, .long 0, .int 0]) := by rw [e_h79, va_up_neq (nek0 (a := 1) (by decide))]; exact F_h76__k_1_
  have F_h79__k_2_ : h79 (k + 2) = .inl (0, 8000, .inl (fun _ => 0)) := by rw [e_h79, va_up_neq (nek0 (a := 2) (by decide))]; exact F_h76__k_2_
  have F_h79__k_3_ : h79 (k + 3) = .inr (7, [.ref (k + 4), .int 0, .int 0, .long 0, .int 0]) := by rw [e_h79, va_up_neq (nek0 (a := 3) (by decide))]; exact F_h76__k_3_
  have F_h79__k_4_ : h79 (k + 4) = .inl (0, 12000, .inl (fun _ => 0)) := by rw [e_h79, va_up_neq (nek0 (a := 4) (by decide))]; exact F_h76__k_4_
  have F_h79__k_5_ : h79 (k + 5) = .inr (7, [.ref (k + 6), .int 0, .int 0, .long 0, .int 0]) := by rw [e_h79, va_up_neq (nek0 (a := 5) (by decide))]; exact F_h76__k_5_
  have F_h79__k_6_ : h79 (k + 6) = .inl (0, 12000, .inl (fun _ => 0)) := by rw [e_h79, va_up_neq (nek0 (a := 6) (by decide))]; exact F_h76__k_6_
  have F_h79__k_7_ : h79 (k + 7) = .inr (7, [.ref (k + 8), .int 0, .int 0, .long 0, .int 0]) := by rw [e_h79, va_up_neq (nek0 (a := 7) (by decide))]; exact F_h76__k_7_
  have F_h79__k_8_ : h79 (k + 8) = .inl (0, 8000, .inl (fun _ => 0)) := by rw [e_h79, va_up_neq (nek0 (a := 8) (by decide))]; exact F_h76__k_8_
  have F_h79__k_9_ : h79 (k + 9) = .inr (9, [.ref (k + 10), .ref (k + 12), .ref (k + 16), .ref (k + 23), .ref (k + 30), .ref (k + 37)]) := by rw [e_h79, va_up_neq (nek0 (a := 9) (by decide))]; exact F_h76__k_9_
  have F_h79__k_10_ : h79 (k + 10) = .inr (7, [.ref (k + 11), .int 0, .int 0, .long 0, .int 0]) := by rw [e_h79, va_up_neq (nek0 (a := 10) (by decide))]; exact F_h76__k_10_
  have F_h79__k_11_ : h79 (k + 11) = .inl (0, 0, .inl (fun _ => 0)) := by rw [e_h79, va_up_neq (nek0 (a := 11) (by decide))]; exact F_h76__k_11_
  have F_h79__k_12_ : h79 (k + 12) = .inr (0, [.ref (k + 13), .ref (k + 14), .ref (k + 15), .int 0, .int 0]) := by rw [e_h79, va_up_neq (nek0 (a := 12) (by decide))]; exact F_h76__k_12_
  have F_h79__k_13_ : h79 (k + 13) = .inl (1, 256, .inl (fun _ => 0)) := by rw [e_h79, va_up_neq (nek0 (a := 13) (by decide))]; exact F_h76__k_13_
  have F_h79__k_14_ : h79 (k + 14) = .inl (1, 256, .inl (fun _ => 0)) := by rw [e_h79, va_up_neq (nek0 (a := 14) (by decide))]; exact F_h76__k_14_
  have F_h79__k_15_ : h79 (k + 15) = .inl (1, 13, .inl (fun _ => 0)) := by rw [e_h79, va_up_neq (nek0 (a := 15) (by decide))]; exact F_h76__k_15_
  have F_h79__k_16_ : h79 (k + 16) = .inr (8, [.int 35, .ref (k + 17), .ref (k + 18), .ref (k + 19), .ref (k + 20), .ref (k + 21), .ref (k + 22), .int 0, .int 0]) := by rw [e_h79, va_up_neq (nek0 (a := 16) (by decide))]; exact F_h76__k_16_
  have F_h79__k_17_ : h79 (k + 17) = .inl (1, 36, .inl (fun _ => 0)) := by rw [e_h79, va_up_neq (nek0 (a := 17) (by decide))]; exact F_h76__k_17_
  have F_h79__k_18_ : h79 (k + 18) = .inl (1, 36, .inl (fun _ => 0)) := by rw [e_h79, va_up_neq (nek0 (a := 18) (by decide))]; exact F_h76__k_18_
  have F_h79__k_19_ : h79 (k + 19) = .inl (1, 36, .inl (fun _ => 0)) := by rw [e_h79, va_up_neq (nek0 (a := 19) (by decide))]; exact F_h76__k_19_
  have F_h79__k_20_ : h79 (k + 20) = .inl (1, 36, .inl (fun _ => 0)) := by rw [e_h79, va_up_neq (nek0 (a := 20) (by decide))]; exact F_h76__k_20_
  have F_h79__k_21_ : h79 (k + 21) = .inl (1, 512, .inl (fun _ => 0)) := by rw [e_h79, va_up_neq (nek0 (a := 21) (by decide))]; exact F_h76__k_21_
  have F_h79__k_22_ : h79 (k + 22) = .inl (1, 512, .inl (fun _ => 0)) := by rw [e_h79, va_up_neq (nek0 (a := 22) (by decide))]; exact F_h76__k_22_
  have F_h79__k_23_ : h79 (k + 23) = .inr (8, [.int 31, .ref (k + 24), .ref (k + 25), .ref (k + 26), .ref (k + 27), .ref (k + 28), .ref (k + 29), .int 0, .int 0]) := by rw [e_h79, va_up_neq (nek0 (a := 23) (by decide))]; exact F_h76__k_23_
  have F_h79__k_24_ : h79 (k + 24) = .inl (1, 32, .inl (fun _ => 0)) := by rw [e_h79, va_up_neq (nek0 (a := 24) (by decide))]; exact F_h76__k_24_
  have F_h79__k_25_ : h79 (k + 25) = .inl (1, 32, .inl (fun _ => 0)) := by rw [e_h79, va_up_neq (nek0 (a := 25) (by decide))]; exact F_h76__k_25_
  have F_h79__k_26_ : h79 (k + 26) = .inl (1, 32, .inl (fun _ => 0)) := by rw [e_h79, va_up_neq (nek0 (a := 26) (by decide))]; exact F_h76__k_26_
  have F_h79__k_27_ : h79 (k + 27) = .inl (1, 32, .inl (fun _ => 0)) := by rw [e_h79, va_up_neq (nek0 (a := 27) (by decide))]; exact F_h76__k_27_
  have F_h79__k_28_ : h79 (k + 28) = .inl (1, 256, .inl (fun _ => 0)) := by rw [e_h79, va_up_neq (nek0 (a := 28) (by decide))]; exact F_h76__k_28_
  have F_h79__k_29_ : h79 (k + 29) = .inl (1, 256, .inl (fun _ => 0)) := by rw [e_h79, va_up_neq (nek0 (a := 29) (by decide))]; exact F_h76__k_29_
  have F_h79__k_30_ : h79 (k + 30) = .inr (8, [.int 52, .ref (k + 31), .ref (k + 32), .ref (k + 33), .ref (k + 34), .ref (k + 35), .ref (k + 36), .int 0, .int 0]) := by rw [e_h79, va_up_neq (nek0 (a := 30) (by decide))]; exact F_h76__k_30_
  have F_h79__k_31_ : h79 (k + 31) = .inl (1, 53, .inl (fun _ => 0)) := by rw [e_h79, va_up_neq (nek0 (a := 31) (by decide))]; exact F_h76__k_31_
  have F_h79__k_32_ : h79 (k + 32) = .inl (1, 53, .inl (fun _ => 0)) := by rw [e_h79, va_up_neq (nek0 (a := 32) (by decide))]; exact F_h76__k_32_
  have F_h79__k_33_ : h79 (k + 33) = .inl (1, 53, .inl (fun _ => 0)) := by rw [e_h79, va_up_neq (nek0 (a := 33) (by decide))]; exact F_h76__k_33_
  have F_h79__k_34_ : h79 (k + 34) = .inl (1, 53, .inl (fun _ => 0)) := by rw [e_h79, va_up_neq (nek0 (a := 34) (by decide))]; exact F_h76__k_34_
  have F_h79__k_35_ : h79 (k + 35) = .inl (1, 512, .inl (fun _ => 0)) := by rw [e_h79, va_up_neq (nek0 (a := 35) (by decide))]; exact F_h76__k_35_
  have F_h79__k_36_ : h79 (k + 36) = .inl (1, 512, .inl (fun _ => 0)) := by rw [e_h79, va_up_neq (nek0 (a := 36) (by decide))]; exact F_h76__k_36_
  have F_h79__k_37_ : h79 (k + 37) = .inl (1, 3, .inl lat0) := by rw [e_h79, va_up_neq (nek0 (a := 37) (by decide))]; exact F_h76__k_37_
  have F_h79__k_38_ : h79 (k + 38) = .inr (9, [.ref (k + 39), .ref (k + 41), .ref (k + 45), .ref (k + 52), .ref (k + 59), .ref (k + 66)]) := by rw [e_h79, va_up_neq (nek0 (a := 38) (by decide))]; exact F_h76__k_38_
  have F_h79__k_39_ : h79 (k + 39) = .inr (7, [.ref (k + 40), .int 0, .int 0, .long 0, .int 0]) := by rw [e_h79, va_up_neq (nek0 (a := 39) (by decide))]; exact F_h76__k_39_
  have F_h79__k_40_ : h79 (k + 40) = .inl (0, 0, .inl (fun _ => 0)) := by rw [e_h79, va_up_neq (nek0 (a := 40) (by decide))]; exact F_h76__k_40_
  have F_h79__k_41_ : h79 (k + 41) = .inr (0, [.ref (k + 42), .ref (k + 43), .ref (k + 44), .int 0, .int 0]) := by rw [e_h79, va_up_neq (nek0 (a := 41) (by decide))]; exact F_h76__k_41_
  have F_h79__k_42_ : h79 (k + 42) = .inl (1, 256, .inl (fun _ => 0)) := by rw [e_h79, va_up_neq (nek0 (a := 42) (by decide))]; exact F_h76__k_42_
  have F_h79__k_43_ : h79 (k + 43) = .inl (1, 256, .inl (fun _ => 0)) := by rw [e_h79, va_up_neq (nek0 (a := 43) (by decide))]; exact F_h76__k_43_
  have F_h79__k_44_ : h79 (k + 44) = .inl (1, 13, .inl (fun _ => 0)) := by rw [e_h79, va_up_neq (nek0 (a := 44) (by decide))]; exact F_h76__k_44_
  have F_h79__k_45_ : h79 (k + 45) = .inr (8, [.int 35, .ref (k + 46), .ref (k + 47), .ref (k + 48), .ref (k + 49), .ref (k + 50), .ref (k + 51), .int 0, .int 0]) := by rw [e_h79, va_up_neq (nek0 (a := 45) (by decide))]; exact F_h76__k_45_
  have F_h79__k_46_ : h79 (k + 46) = .inl (1, 36, .inl (fun _ => 0)) := by rw [e_h79, va_up_neq (nek0 (a := 46) (by decide))]; exact F_h76__k_46_
  have F_h79__k_47_ : h79 (k + 47) = .inl (1, 36, .inl (fun _ => 0)) := by rw [e_h79, va_up_neq (nek0 (a := 47) (by decide))]; exact F_h76__k_47_
  have F_h79__k_48_ : h79 (k + 48) = .inl (1, 36, .inl (fun _ => 0)) := by rw [e_h79, va_up_neq (nek0 (a := 48) (by decide))]; exact F_h76__k_48_
  have F_h79__k_49_ : h79 (k + 49) = .inl (1, 36, .inl (fun _ => 0)) := by rw [e_h79, va_up_neq (nek0 (a := 49) (by decide))]; exact F_h76__k_49_
  have F_h79__k_50_ : h79 (k + 50) = .inl (1, 512, .inl (fun _ => 0)) := by rw [e_h79, va_up_neq (nek0 (a := 50) (by decide))]; exact F_h76__k_50_
  have F_h79__k_51_ : h79 (k + 51) = .inl (1, 512, .inl (fun _ => 0)) := by rw [e_h79, va_up_neq (nek0 (a := 51) (by decide))]; exact F_h76__k_51_
  have F_h79__k_52_ : h79 (k + 52) = .inr (8, [.int 31, .ref (k + 53), .ref (k + 54), .ref (k + 55), .ref (k + 56), .ref (k + 57), .ref (k + 58), .int 0, .int 0]) := by rw [e_h79, va_up_neq (nek0 (a := 52) (by decide))]; exact F_h76__k_52_
  have F_h79__k_53_ : h79 (k + 53) = .inl (1, 32, .inl (fun _ => 0)) := by rw [e_h79, va_up_neq (nek0 (a := 53) (by decide))]; exact F_h76__k_53_
  have F_h79__k_54_ : h79 (k + 54) = .inl (1, 32, .inl (fun _ => 0)) := by rw [e_h79, va_up_neq (nek0 (a := 54) (by decide))]; exact F_h76__k_54_
  have F_h79__k_55_ : h79 (k + 55) = .inl (1, 32, .inl (fun _ => 0)) := by rw [e_h79, va_up_neq (nek0 (a := 55) (by decide))]; exact F_h76__k_55_
  have F_h79__k_56_ : h79 (k + 56) = .inl (1, 32, .inl (fun _ => 0)) := by rw [e_h79, va_up_neq (nek0 (a := 56) (by decide))]; exact F_h76__k_56_
  have F_h79__k_57_ : h79 (k + 57) = .inl (1, 256, .inl (fun _ => 0)) := by rw [e_h79, va_up_neq (nek0 (a := 57) (by decide))]; exact F_h76__k_57_
  have F_h79__k_58_ : h79 (k + 58) = .inl (1, 256, .inl (fun _ => 0)) := by rw [e_h79, va_up_neq (nek0 (a := 58) (by decide))]; exact F_h76__k_58_
  have F_h79__k_59_ : h79 (k + 59) = .inr (8, [.int 52, .ref (k + 60), .ref (k + 61), .ref (k + 62), .ref (k + 63), .ref (k + 64), .ref (k + 65), .int 0, .int 0]) := by rw [e_h79, va_up_neq (nek0 (a := 59) (by decide))]; exact F_h76__k_59_
  have F_h79__k_60_ : h79 (k + 60) = .inl (1, 53, .inl (fun _ => 0)) := by rw [e_h79, va_up_neq (nek0 (a := 60) (by decide))]; exact F_h76__k_60_
  have F_h79__k_61_ : h79 (k + 61) = .inl (1, 53, .inl (fun _ => 0)) := by rw [e_h79, va_up_neq (nek0 (a := 61) (by decide))]; exact F_h76__k_61_
  have F_h79__k_62_ : h79 (k + 62) = .inl (1, 53, .inl (fun _ => 0)) := by rw [e_h79, va_up_neq (nek0 (a := 62) (by decide))]; exact F_h76__k_62_
  have F_h79__k_63_ : h79 (k + 63) = .inl (1, 53, .inl (fun _ => 0)) := by rw [e_h79, va_up_neq (nek0 (a := 63) (by decide))]; exact F_h76__k_63_
  have F_h79__k_64_ : h79 (k + 64) = .inl (1, 512, .inl (fun _ => 0)) := by rw [e_h79, va_up_neq (nek0 (a := 64) (by decide))]; exact F_h76__k_64_
  have F_h79__k_65_ : h79 (k + 65) = .inl (1, 512, .inl (fun _ => 0)) := by rw [e_h79, va_up_neq (nek0 (a := 65) (by decide))]; exact F_h76__k_65_
  have F_h79__k_66_ : h79 (k + 66) = .inl (1, 3, .inl lat0) := by rw [e_h79, va_up_neq (nek0 (a := 66) (by decide))]; exact F_h76__k_66_
  have FR_h79 : ∀ j, j < k ∨ aBig ≤ j → h79 j = h j := fun j hj => by rw [e_h79]; exact (va_up_neq (frne0 hj hbig)).trans (FR_h76 j hj)
  clear F_h76_k F_h76__k_1_ F_h76__k_2_ F_h76__k_3_ F_h76__k_4_ F_h76__k_5_ F_h76__k_6_ F_h76__k_7_ F_h76__k_8_ F_h76__k_9_ F_h76__k_10_ F_h76__k_11_ F_h76__k_12_ F_h76__k_13_ F_h76__k_14_ F_h76__k_15_ F_h76__k_16_ F_h76__k_17_ F_h76__k_18_ F_h76__k_19_ F_h76__k_20_ F_h76__k_21_ F_h76__k_22_ F_h76__k_23_ F_h76__k_24_ F_h76__k_25_ F_h76__k_26_ F_h76__k_27_ F_h76__k_28_ F_h76__k_29_ F_h76__k_30_ F_h76__k_31_ F_h76__k_32_ F_h76__k_33_ F_h76__k_34_ F_h76__k_35_ F_h76__k_36_ F_h76__k_37_ F_h76__k_38_ F_h76__k_39_ F_h76__k_40_ F_h76__k_41_ F_h76__k_42_ F_h76__k_43_ F_h76__k_44_ F_h76__k_45_ F_h76__k_46_ F_h76__k_47_ F_h76__k_48_ F_h76__k_49_ F_h76__k_50_ F_h76__k_51_ F_h76__k_52_ F_h76__k_53_ F_h76__k_54_ F_h76__k_55_ F_h76__k_56_ F_h76__k_57_ F_h76__k_58_ F_h76__k_59_ F_h76__k_60_ F_h76__k_61_ F_h76__k_62_ F_h76__k_63_ F_h76__k_64_ F_h76__k_65_ F_h76__k_66_ FR_h76 e_h79
  clear h76
  refine WX.s1 rfl rfl ?_
  refine WX.newN rfl (bigk (k := k) (a := 68) hbig (by decide)) (fun h83 e_h83 => ?_)
  have F_h83_k : h83 k = .inr (10, [.ref (k + 1), .ref (k + 3), .ref (k + 5), .ref (k + 7), .long 0, .ref (k + 9), .ref (k + 38), .null, .null, .null, .int 0, .int 0]) := by rw [e_h83, va_up_neq (nek1 (a := 67) (by decide))]; exact F_h79_k
  have F_h83__k_1_ : h83 (k + 1) = .inr (7, [.ref (k + 2), .int 0, .int 0, .long 0, .int 0]) := by rw [e_h83, va_up_neq (nek (a := 1) (b := 67) (by decide))]; exact F_h79__k_1_
  have F_h83__k_2_ : h83 (k + 2) = .inl (0, 8000, .inl (fun _ => 0)) := by rw [e_h83, va_up_neq (nek (a := 2) (b := 67) (by decide))]; exact F_h79__k_2_
  have F_h83__k_3_ : h83 (k + 3) = .inr (7, [.ref (k + 4), .int 0, .int 0, .long 0, .int 0]) := by rw [e_h83, va_up_neq (nek (a := 3) (b := 67) (by decide))]; exact F_h79__k_3_
  have F_h83__k_4_ : h83 (k + 4) = .inl (0, 12000, .inl (fun _ => 0)) := by rw [e_h83, va_up_neq (nek (a := 4) (b := 67) (by decide))]; exact F_h79__k_4_
  have F_h83__k_5_ : h83 (k + 5) = .inr (7, [.ref (k + 6), .int 0, .int 0, .long 0, .int 0]) := by rw [e_h83, va_up_neq (nek (a := 5) (b := 67) (by decide))]; exact F_h79__k_5_
  have F_h83__k_6_ : h83 (k + 6) = .inl (0, 12000, .inl (fun _ => 0)) := by rw [e_h83, va_up_neq (nek (a := 6) (b := 67) (by decide))]; exact F_h79__k_6_
  have F_h83__k_7_ : h83 (k + 7) = .inr (7, [.ref (k + 8), .int 0, .int 0, .long 0, .int 0]) := by rw [e_h83, va_up_neq (nek (a := 7) (b := 67) (by decide))]; exact F_h79__k_7_
  have F_h83__k_8_ : h83 (k + 8) = .inl (0, 8000, .inl (fun _ => 0)) := by rw [e_h83, va_up_neq (nek (a := 8) (b := 67) (by decide))]; exact F_h79__k_8_
  have F_h83__k_9_ : h83 (k + 9) = .inr (9, [.ref (k + 10), .ref (k + 12), .ref (k + 16), .ref (k + 23), .ref (k + 30), .ref (k + 37)]) := by rw [e_h83, va_up_neq (nek (a := 9) (b := 67) (by decide))]; exact F_h79__k_9_
  have F_h83__k_10_ : h83 (k + 10) = .inr (7, [.ref (k + 11), .int 0, .int 0, .long 0, .int 0]) := by rw [e_h83, va_up_neq (nek (a := 10) (b := 67) (by decide))]; exact F_h79__k_10_
  have F_h83__k_11_ : h83 (k + 11) = .inl (0, 0, .inl (fun _ => 0)) := by rw [e_h83, va_up_neq (nek (a := 11) (b := 67) (by decide))]; exact F_h79__k_11_
  have F_h83__k_12_ : h83 (k + 12) = .inr (0, [.ref (k + 13), .ref (k + 14), .ref (k + 15), .int 0, .int 0]) := by rw [e_h83, va_up_neq (nek (a := 12) (b := 67) (by decide))]; exact F_h79__k_12_
  have F_h83__k_13_ : h83 (k + 13) = .inl (1, 256, .inl (fun _ => 0)) := by rw [e_h83, va_up_neq (nek (a := 13) (b := 67) (by decide))]; exact F_h79__k_13_
  have F_h83__k_14_ : h83 (k + 14) = .inl (1, 256, .inl (fun _ => 0)) := by rw [e_h83, va_up_neq (nek (a := 14) (b := 67) (by decide))]; exact F_h79__k_14_
  have F_h83__k_15_ : h83 (k + 15) = .inl (1, 13, .inl (fun _ => 0)) := by rw [e_h83, va_up_neq (nek (a := 15) (b := 67) (by decide))]; exact F_h79__k_15_
  have F_h83__k_16_ : h83 (k + 16) = .inr (8, [.int 35, .ref (k + 17), .ref (k + 18), .ref (k + 19), .ref (k + 20), .ref (k + 21), .ref (k + 22), .int 0, .int 0]) := by rw [e_h83, va_up_neq (nek (a := 16) (b := 67) (by decide))]; exact F_h79__k_16_
  have F_h83__k_17_ : h83 (k + 17) = .inl (1, 36, .inl (fun _ => 0)) := by rw [e_h83, va_up_neq (nek (a := 17) (b := 67) (by decide))]; exact F_h79__k_17_
  have F_h83__k_18_ : h83 (k + 18) = .inl (1, 36, .inl (fun _ => 0)) := by rw [e_h83, va_up_neq (nek (a := 18) (b := 67) (by decide))]; exact F_h79__k_18_
  have F_h83__k_19_ : h83 (k + 19) = .inl (1, 36, .inl (fun _ => 0)) := by rw [e_h83, va_up_neq (nek (a := 19) (b := 67) (by decide))]; exact F_h79__k_19_
  have F_h83__k_20_ : h83 (k + 20) = .inl (1, 36, .inl (fun _ => 0)) := by rw [e_h83, va_up_neq (nek (a := 20) (b := 67) (by decide))]; exact F_h79__k_20_
  have F_h83__k_21_ : h83 (k + 21) = .inl (1, 512, .inl (fun _ => 0)) := by rw [e_h83, va_up_neq (nek (a := 21) (b := 67) (by decide))]; exact F_h79__k_21_
  have F_h83__k_22_ : h83 (k + 22) = .inl (1, 512, .inl (fun _ => 0)) := by rw [e_h83, va_up_neq (nek (a := 22) (b := 67) (by decide))]; exact F_h79__k_22_
  have F_h83__k_23_ : h83 (k + 23) = .inr (8, [.int 31, .ref (k + 24), .ref (k + 25), .ref (k + 26), .ref (k + 27), .ref (k + 28), .ref (k + 29), .int 0, .int 0]) := by rw [e_h83, va_up_neq (nek (a := 23) (b := 67) (by decide))]; exact F_h79__k_23_
  have F_h83__k_24_ : h83 (k + 24) = .inl (1, 32, .inl (fun _ => 0)) := by rw [e_h83, va_up_neq (nek (a := 24) (b := 67) (by decide))]; exact F_h79__k_24_
  have F_h83__k_25_ : h83 (k + 25) = .inl (1, 32, .inl (fun _ => 0)) := by rw [e_h83, va_up_neq (nek (a := 25) (b := 67) (by decide))]; exact F_h79__k_25_
  have F_h83__k_26_ : h83 (k + 26) = .inl (1, 32, .inl (fun _ => 0)) := by rw [e_h83, va_up_neq (nek (a := 26) (b := 67) (by decide))]; exact F_h79__k_26_
  have F_h83__k_27_ : h83 (k + 27) = .inl (1, 32, .inl (fun _ => 0)) := by rw [e_h83, va_up_neq (nek (a := 27) (b := 67) (by decide))]; exact F_h79__k_27_
  have F_h83__k_28_ : h83 (k + 28) = .inl (1, 256, .inl (fun _ => 0)) := by rw [e_h83, va_up_neq (nek (a := 28) (b := 67) (by decide))]; exact F_h79__k_28_
  have F_h83__k_29_ : h83 (k + 29) = .inl (1, 256, .inl (fun _ => 0)) := by rw [e_h83, va_up_neq (nek (a := 29) (b := 67) (by decide))]; exact F_h79__k_29_
  have F_h83__k_30_ : h83 (k + 30) = .inr (8, [.int 52, .ref (k + 31), .ref (k + 32), .ref (k + 33), .ref (k + 34), .ref (k + 35), .ref (k + 36), .int 0, .int 0]) := by rw [e_h83, va_up_neq (nek (a := 30) (b := 67) (by decide))]; exact F_h79__k_30_
  have F_h83__k_31_ : h83 (k + 31) = .inl (1, 53, .inl (fun _ => 0)) := by rw [e_h83, va_up_neq (nek (a := 31) (b := 67) (by decide))]; exact F_h79__k_31_
  have F_h83__k_32_ : h83 (k + 32) = .inl (1, 53, .inl (fun _ => 0)) := by rw [e_h83, va_up_neq (nek (a := 32) (b := 67) (by decide))]; exact F_h79__k_32_
  have F_h83__k_33_ : h83 (k + 33) = .inl (1, 53, .inl (fun _ => 0)) := by rw [e_h83, va_up_neq (nek (a := 33) (b := 67) (by decide))]; exact F_h79__k_33_
  have F_h83__k_34_ : h83 (k + 34) = .inl (1, 53, .inl (fun _ => 0)) := by rw [e_h83, va_up_neq (nek (a := 34) (b := 67) (by decide))]; exact F_h79__k_34_
  have F_h83__k_35_ : h83 (k + 35) = .inl (1, 512, .inl (fun _ => 0)) := by rw [e_h83, va_up_neq (nek (a := 35) (b := 67) (by decide))]; exact F_h79__k_35_
  have F_h83__k_36_ : h83 (k + 36) = .inl (1, 512, .inl (fun _ => 0)) := by rw [e_h83, va_up_neq (nek (a := 36) (b := 67) (by decide))]; exact F_h79__k_36_
  have F_h83__k_37_ : h83 (k + 37) = .inl (1, 3, .inl lat0) := by rw [e_h83, va_up_neq (nek (a := 37) (b := 67) (by decide))]; exact F_h79__k_37_
  have F_h83__k_38_ : h83 (k + 38) = .inr (9, [.ref (k + 39), .ref (k + 41), .ref (k + 45), .ref (k + 52), .ref (k + 59), .ref (k + 66)]) := by rw [e_h83, va_up_neq (nek (a := 38) (b := 67) (by decide))]; exact F_h79__k_38_
  have F_h83__k_39_ : h83 (k + 39) = .inr (7, [.ref (k + 40), .int 0, .int 0, .long 0, .int 0]) := by rw [e_h83, va_up_neq (nek (a := 39) (b := 67) (by decide))]; exact F_h79__k_39_
  have F_h83__k_40_ : h83 (k + 40) = .inl (0, 0, .inl (fun _ => 0)) := by rw [e_h83, va_up_neq (nek (a := 40) (b := 67) (by decide))]; exact F_h79__k_40_
  have F_h83__k_41_ : h83 (k + 41) = .inr (0, [.ref (k + 42), .ref (k + 43), .ref (k + 44), .int 0, .int 0]) := by rw [e_h83, va_up_neq (nek (a := 41) (b := 67) (by decide))]; exact F_h79__k_41_
  have F_h83__k_42_ : h83 (k + 42) = .inl (1, 256, .inl (fun _ => 0)) := by rw [e_h83, va_up_neq (nek (a := 42) (b := 67) (by decide))]; exact F_h79__k_42_
  have F_h83__k_43_ : h83 (k + 43) = .inl (1, 256, .inl (fun _ => 0)) := by rw [e_h83, va_up_neq (nek (a := 43) (b := 67) (by decide))]; exact F_h79__k_43_
  have F_h83__k_44_ : h83 (k + 44) = .inl (1, 13, .inl (fun _ => 0)) := by rw [e_h83, va_up_neq (nek (a := 44) (b := 67) (by decide))]; exact F_h79__k_44_
  have F_h83__k_45_ : h83 (k + 45) = .inr (8, [.int 35, .ref (k + 46), .ref (k + 47), .ref (k + 48), .ref (k + 49), .ref (k + 50), .ref (k + 51), .int 0, .int 0]) := by rw [e_h83, va_up_neq (nek (a := 45) (b := 67) (by decide))]; exact F_h79__k_45_
  have F_h83__k_46_ : h83 (k + 46) = .inl (1, 36, .inl (fun _ => 0)) := by rw [e_h83, va_up_neq (nek (a := 46) (b := 67) (by decide))]; exact F_h79__k_46_
  have F_h83__k_47_ : h83 (k + 47) = .inl (1, 36, .inl (fun _ => 0)) := by rw [e_h83, va_up_neq (nek (a := 47) (b := 67) (by decide))]; exact F_h79__k_47_
  have F_h83__k_48_ : h83 (k + 48) = .inl (1, 36, .inl (fun _ => 0)) := by rw [e_h83, va_up_neq (nek (a := 48) (b := 67) (by decide))]; exact F_h79__k_48_
  have F_h83__k_49_ : h83 (k + 49) = .inl (1, 36, .inl (fun _ => 0)) := by rw [e_h83, va_up_neq (nek (a := 49) (b := 67) (by decide))]; exact F_h79__k_49_
  have F_h83__k_50_ : h83 (k + 50) = .inl (1, 512, .inl (fun _ => 0)) := by rw [e_h83, va_up_neq (nek (a := 50) (b := 67) (by decide))]; exact F_h79__k_50_
  have F_h83__k_51_ : h83 (k + 51) = .inl (1, 512, .inl (fun _ => 0)) := by rw [e_h83, va_up_neq (nek (a := 51) (b := 67) (by decide))]; exact F_h79__k_51_
  have F_h83__k_52_ : h83 (k + 52) = .inr (8, [.int 31, .ref (k + 53), .ref (k + 54), .ref (k + 55), .ref (k + 56), .ref (k + 57), .ref (k + 58), .int 0, .int 0]) := by rw [e_h83, va_up_neq (nek (a := 52) (b := 67) (by decide))]; exact F_h79__k_52_
  have F_h83__k_53_ : h83 (k + 53) = .inl (1, 32, .inl (fun _ => 0)) := by rw [e_h83, va_up_neq (nek (a := 53) (b := 67) (by decide))]; exact F_h79__k_53_
  have F_h83__k_54_ : h83 (k + 54) = .inl (1, 32, .inl (fun _ => 0)) := by rw [e_h83, va_up_neq (nek (a := 54) (b := 67) (by decide))]; exact F_h79__k_54_
  have F_h83__k_55_ : h83 (k + 55) = .inl (1, 32, .inl (fun _ => 0)) := by rw [e_h83, va_up_neq (nek (a := 55) (b := 67) (by decide))]; exact F_h79__k_55_
  have F_h83__k_56_ : h83 (k + 56) = .inl (1, 32, .inl (fun _ => 0)) := by rw [e_h83, va_up_neq (nek (a := 56) (b := 67) (by decide))]; exact F_h79__k_56_
  have F_h83__k_57_ : h83 (k + 57) = .inl (1, 256, .inl (fun _ => 0)) := by rw [e_h83, va_up_neq (nek (a := 57) (b := 67) (by decide))]; exact F_h79__k_57_
  have F_h83__k_58_ : h83 (k + 58) = .inl (1, 256, .inl (fun _ => 0)) := by rw [e_h83, va_up_neq (nek (a := 58) (b := 67) (by decide))]; exact F_h79__k_58_
  have F_h83__k_59_ : h83 (k + 59) = .inr (8, [.int 52, .ref (k + 60), .ref (k + 61), .ref (k + 62), .ref (k + 63), .ref (k + 64), .ref (k + 65), .int 0, .int 0]) := by rw [e_h83, va_up_neq (nek (a := 59) (b := 67) (by decide))]; exact F_h79__k_59_
  have F_h83__k_60_ : h83 (k + 60) = .inl (1, 53, .inl (fun _ => 0)) := by rw [e_h83, va_up_neq (nek (a := 60) (b := 67) (by decide))]; exact F_h79__k_60_
  have F_h83__k_61_ : h83 (k + 61) = .inl (1, 53, .inl (fun _ => 0)) := by rw [e_h83, va_up_neq (nek (a := 61) (b := 67) (by decide))]; exact F_h79__k_61_
  have F_h83__k_62_ : h83 (k + 62) = .inl (1, 53, .inl (fun _ => 0)) := by rw [e_h83, va_up_neq (nek (a := 62) (b := 67) (by decide))]; exact F_h79__k_62_
  have F_h83__k_63_ : h83 (k + 63) = .inl (1, 53, .inl (fun _ => 0)) := by rw [e_h83, va_up_neq (nek (a := 63) (b := 67) (by decide))]; exact F_h79__k_63_
  have F_h83__k_64_ : h83 (k + 64) = .inl (1, 512, .inl (fun _ => 0)) := by rw [e_h83, va_up_neq (nek (a := 64) (b := 67) (by decide))]; exact F_h79__k_64_
  have F_h83__k_65_ : h83 (k + 65) = .inl (1, 512, .inl (fun _ => 0)) := by rw [e_h83, va_up_neq (nek (a := 65) (b := 67) (by decide))]; exact F_h79__k_65_
  have F_h83__k_66_ : h83 (k + 66) = .inl (1, 3, .inl lat0) := by rw [e_h83, va_up_neq (nek (a := 66) (b := 67) (by decide))]; exact F_h79__k_66_
  have F_h83__k_67_ : h83 (k + 67) = .inr (2, zX2) := by rw [e_h83]; exact va_up_eq
  have FR_h83 : ∀ j, j < k ∨ aBig ≤ j → h83 j = h j := fun j hj => by rw [e_h83]; exact (va_up_neq (frne (a := 67) hj hbig (by decide))).trans (FR_h79 j hj)
  clear F_h79_k F_h79__k_1_ F_h79__k_2_ F_h79__k_3_ F_h79__k_4_ F_h79__k_5_ F_h79__k_6_ F_h79__k_7_ F_h79__k_8_ F_h79__k_9_ F_h79__k_10_ F_h79__k_11_ F_h79__k_12_ F_h79__k_13_ F_h79__k_14_ F_h79__k_15_ F_h79__k_16_ F_h79__k_17_ F_h79__k_18_ F_h79__k_19_ F_h79__k_20_ F_h79__k_21_ F_h79__k_22_ F_h79__k_23_ F_h79__k_24_ F_h79__k_25_ F_h79__k_26_ F_h79__k_27_ F_h79__k_28_ F_h79__k_29_ F_h79__k_30_ F_h79__k_31_ F_h79__k_32_ F_h79__k_33_ F_h79__k_34_ F_h79__k_35_ F_h79__k_36_ F_h79__k_37_ F_h79__k_38_ F_h79__k_39_ F_h79__k_40_ F_h79__k_41_ F_h79__k_42_ F_h79__k_43_ F_h79__k_44_ F_h79__k_45_ F_h79__k_46_ F_h79__k_47_ F_h79__k_48_ F_h79__k_49_ F_h79__k_50_ F_h79__k_51_ F_h79__k_52_ F_h79__k_53_ F_h79__k_54_ F_h79__k_55_ F_h79__k_56_ F_h79__k_57_ F_h79__k_58_ F_h79__k_59_ F_h79__k_60_ F_h79__k_61_ F_h79__k_62_ F_h79__k_63_ F_h79__k_64_ F_h79__k_65_ F_h79__k_66_ FR_h79 e_h83
  clear h79
  refine WX.s1 rfl rfl ?_
  refine WX.callC (vs := [.ref (k + 67)]) rfl rfl rfl (Nat.le_of_ble_eq_true rfl) (rcv_ok (ltk (a := 67) (c := 68) (by decide)) F_h83__k_67_) ?_
  refine n_desc (k := k + 67) (bigk (k := k) (a := 82) hbig (by decide)) F_h83__k_67_ (fun h87 fr87 cs87 => ?_)
  have F_h87_k : h87 k = .inr (10, [.ref (k + 1), .ref (k + 3), .ref (k + 5), .ref (k + 7), .long 0, .ref (k + 9), .ref (k + 38), .null, .null, .null, .int 0, .int 0]) := (fr87 k (Or.inl (ltk0 (c := 67) (by decide)))).trans F_h83_k
  have F_h87__k_1_ : h87 (k + 1) = .inr (7, [.ref (k + 2), .int 0, .int 0, .long 0, .int 0]) := (fr87 (k + 1) (Or.inl (ltk (a := 1) (c := 67) (by decide)))).trans F_h83__k_1_
  have F_h87__k_2_ : h87 (k + 2) = .inl (0, 8000, .inl (fun _ => 0)) := (fr87 (k + 2) (Or.inl (ltk (a := 2) (c := 67) (by decide)))).trans F_h83__k_2_
  have F_h87__k_3_ : h87 (k + 3) = .inr (7, [.ref (k + 4), .int 0, .int 0, .long 0, .int 0]) := (fr87 (k + 3) (Or.inl (ltk (a := 3) (c := 67) (by decide)))).trans F_h83__k_3_
  have F_h87__k_4_ : h87 (k + 4) = .inl (0, 12000, .inl (fun _ => 0)) := (fr87 (k + 4) (Or.inl (ltk (a := 4) (c := 67) (by decide)))).trans F_h83__k_4_
  have F_h87__k_5_ : h87 (k + 5) = .inr (7, [.ref (k + 6), .int 0, .int 0, .long 0, .int 0]) := (fr87 (k + 5) (Or.inl (ltk (a := 5) (c := 67) (by decide)))).trans F_h83__k_5_
  have F_h87__k_6_ : h87 (k + 6) = .inl (0, 12000, .inl (fun _ => 0)) := (fr87 (k + 6) (Or.inl (ltk (a := 6) (c := 67) (by decide)))).trans F_h83__k_6_
  have F_h87__k_7_ : h87 (k + 7) = .inr (7, [.ref (k + 8), .int 0, .int 0, .long 0, .int 0]) := (fr87 (k + 7) (Or.inl (ltk (a := 7) (c := 67) (by decide)))).trans F_h83__k_7_
  have F_h87__k_8_ : h87 (k + 8) = .inl (0, 8000, .inl (fun _ => 0)) := (fr87 (k + 8) (Or.inl (ltk (a := 8) (c := 67) (by decide)))).trans F_h83__k_8_
  have F_h87__k_9_ : h87 (k + 9) = .inr (9, [.ref (k + 10), .ref (k + 12), .ref (k + 16), .ref (k + 23), .ref (k + 30), .ref (k + 37)]) := (fr87 (k + 9) (Or.inl (ltk (a := 9) (c := 67) (by decide)))).trans F_h83__k_9_
  have F_h87__k_10_ : h87 (k + 10) = .inr (7, [.ref (k + 11), .int 0, .int 0, .long 0, .int 0]) := (fr87 (k + 10) (Or.inl (ltk (a := 10) (c := 67) (by decide)))).trans F_h83__k_10_
  have F_h87__k_11_ : h87 (k + 11) = .inl (0, 0, .inl (fun _ => 0)) := (fr87 (k + 11) (Or.inl (ltk (a := 11) (c := 67) (by decide)))).trans F_h83__k_11_
  have F_h87__k_12_ : h87 (k + 12) = .inr (0, [.ref (k + 13), .ref (k + 14), .ref (k + 15), .int 0, .int 0]) := (fr87 (k + 12) (Or.inl (ltk (a := 12) (c := 67) (by decide)))).trans F_h83__k_12_
  have F_h87__k_13_ : h87 (k + 13) = .inl (1, 256, .inl (fun _ => 0)) := (fr87 (k + 13) (Or.inl (ltk (a := 13) (c := 67) (by decide)))).trans F_h83__k_13_
  have F_h87__k_14_ : h87 (k + 14) = .inl (1, 256, .inl (fun _ => 0)) := (fr87 (k + 14) (Or.inl (ltk (a := 14) (c := 67) (by decide)))).trans F_h83__k_14_
  have F_h87__k_15_ : h87 (k + 15) = .inl (1, 13, .inl (fun _ => 0)) := (fr87 (k + 15) (Or.inl (ltk (a := 15) (c := 67) (by decide)))).trans F_h83__k_15_
  have F_h87__k_16_ : h87 (k + 16) = .inr (8, [.int 35, .ref (k + 17), .ref (k + 18), .ref (k + 19), .ref (k + 20), .ref (k + 21), .ref (k + 22), .int 0, .int 0]) := (fr87 (k + 16) (Or.inl (ltk (a := 16) (c := 67) (by decide)))).trans F_h83__k_16_
  have F_h87__k_17_ : h87 (k + 17) = .inl (1, 36, .inl (fun _ => 0)) := (fr87 (k + 17) (Or.inl (ltk (a := 17) (c := 67) (by decide)))).trans F_h83__k_17_
  have F_h87__k_18_ : h87 (k + 18) = .inl (1, 36, .inl (fun _ => 0)) := (fr87 (k + 18) (Or.inl (ltk (a := 18) (c := 67) (by decide)))).trans F_h83__k_18_
  have F_h87__k_19_ : h87 (k + 19) = .inl (1, 36, .inl (fun _ => 0)) := (fr87 (k + 19) (Or.inl (ltk (a := 19) (c := 67) (by decide)))).trans F_h83__k_19_
  have F_h87__k_20_ : h87 (k + 20) = .inl (1, 36, .inl (fun _ => 0)) := (fr87 (k + 20) (Or.inl (ltk (a := 20) (c := 67) (by decide)))).trans F_h83__k_20_
  have F_h87__k_21_ : h87 (k + 21) = .inl (1, 512, .inl (fun _ => 0)) := (fr87 (k + 21) (Or.inl (ltk (a := 21) (c := 67) (by decide)))).trans F_h83__k_21_
  have F_h87__k_22_ : h87 (k + 22) = .inl (1, 512, .inl (fun _ => 0)) := (fr87 (k + 22) (Or.inl (ltk (a := 22) (c := 67) (by decide)))).trans F_h83__k_22_
  have F_h87__k_23_ : h87 (k + 23) = .inr (8, [.int 31, .ref (k + 24), .ref (k + 25), .ref (k + 26), .ref (k + 27), .ref (k + 28), .ref (k + 29), .int 0, .int 0]) := (fr87 (k + 23) (Or.inl (ltk (a := 23) (c := 67) (by decide)))).trans F_h83__k_23_
  have F_h87__k_24_ : h87 (k + 24) = .inl (1, 32, .inl (fun _ => 0)) := (fr87 (k + 24) (Or.inl (ltk (a := 24) (c := 67) (by decide)))).trans F_h83__k_24_
  have F_h87__k_25_ : h87 (k + 25) = .inl (1, 32, .inl (fun _ => 0)) := (fr87 (k + 25) (Or.inl (ltk (a := 25) (c := 67) (by decide)))).trans F_h83__k_25_
  have F_h87__k_26_ : h87 (k + 26) = .inl (1, 32, .inl (fun _ => 0)) := (fr87 (k + 26) (Or.inl (ltk (a := 26) (c := 67) (by decide)))).trans F_h83__k_26_
  have F_h87__k_27_ : h87 (k + 27) = .inl (1, 32, .inl (fun _ => 0)) := (fr87 (k + 27) (Or.inl (ltk (a := 27) (c := 67) (by decide)))).trans F_h83__k_27_
  have F_h87__k_28_ : h87 (k + 28) = .inl (1, 256, .inl (fun _ => 0)) := (fr87 (k + 28) (Or.inl (ltk (a := 28) (c := 67) (by decide)))).trans F_h83__k_28_
  have F_h87__k_29_ : h87 (k + 29) = .inl (1, 256, .inl (fun _ => 0)) := (fr87 (k + 29) (Or.inl (ltk (a := 29) (c := 67) (by decide)))).trans F_h83__k_29_
  have F_h87__k_30_ : h87 (k + 30) = .inr (8, [.int 52, .ref (k + 31), .ref (k + 32), .ref (k + 33), .ref (k + 34), .ref (k + 35), .ref (k + 36), .int 0, .int 0]) := (fr87 (k + 30) (Or.inl (ltk (a := 30) (c := 67) (by decide)))).trans F_h83__k_30_
  have F_h87__k_31_ : h87 (k + 31) = .inl (1, 53, .inl (fun _ => 0)) := (fr87 (k + 31) (Or.inl (ltk (a := 31) (c := 67) (by decide)))).trans F_h83__k_31_
  have F_h87__k_32_ : h87 (k + 32) = .inl (1, 53, .inl (fun _ => 0)) := (fr87 (k + 32) (Or.inl (ltk (a := 32) (c := 67) (by decide)))).trans F_h83__k_32_
  have F_h87__k_33_ : h87 (k + 33) = .inl (1, 53, .inl (fun _ => 0)) := (fr87 (k + 33) (Or.inl (ltk (a := 33) (c := 67) (by decide)))).trans F_h83__k_33_
  have F_h87__k_34_ : h87 (k + 34) = .inl (1, 53, .inl (fun _ => 0)) := (fr87 (k + 34) (Or.inl (ltk (a := 34) (c := 67) (by decide)))).trans F_h83__k_34_
  have F_h87__k_35_ : h87 (k + 35) = .inl (1, 512, .inl (fun _ => 0)) := (fr87 (k + 35) (Or.inl (ltk (a := 35) (c := 67) (by decide)))).trans F_h83__k_35_
  have F_h87__k_36_ : h87 (k + 36) = .inl (1, 512, .inl (fun _ => 0)) := (fr87 (k + 36) (Or.inl (ltk (a := 36) (c := 67) (by decide)))).trans F_h83__k_36_
  have F_h87__k_37_ : h87 (k + 37) = .inl (1, 3, .inl lat0) := (fr87 (k + 37) (Or.inl (ltk (a := 37) (c := 67) (by decide)))).trans F_h83__k_37_
  have F_h87__k_38_ : h87 (k + 38) = .inr (9, [.ref (k + 39), .ref (k + 41), .ref (k + 45), .ref (k + 52), .ref (k + 59), .ref (k + 66)]) := (fr87 (k + 38) (Or.inl (ltk (a := 38) (c := 67) (by decide)))).trans F_h83__k_38_
  have F_h87__k_39_ : h87 (k + 39) = .inr (7, [.ref (k + 40), .int 0, .int 0, .long 0, .int 0]) := (fr87 (k + 39) (Or.inl (ltk (a := 39) (c := 67) (by decide)))).trans F_h83__k_39_
  have F_h87__k_40_ : h87 (k + 40) = .inl (0, 0, .inl (fun _ => 0)) := (fr87 (k + 40) (Or.inl (ltk (a := 40) (c := 67) (by decide)))).trans F_h83__k_40_
  have F_h87__k_41_ : h87 (k + 41) = .inr (0, [.ref (k + 42), .ref (k + 43), .ref (k + 44), .int 0, .int 0]) := (fr87 (k + 41) (Or.inl (ltk (a := 41) (c := 67) (by decide)))).trans F_h83__k_41_
  have F_h87__k_42_ : h87 (k + 42) = .inl (1, 256, .inl (fun _ => 0)) := (fr87 (k + 42) (Or.inl (ltk (a := 42) (c := 67) (by decide)))).trans F_h83__k_42_
  have F_h87__k_43_ : h87 (k + 43) = .inl (1, 256, .inl (fun _ => 0)) := (fr87 (k + 43) (Or.inl (ltk (a := 43) (c := 67) (by decide)))).trans F_h83__k_43_
  have F_h87__k_44_ : h87 (k + 44) = .inl (1, 13, .inl (fun _ => 0)) := (fr87 (k + 44) (Or.inl (ltk (a := 44) (c := 67) (by decide)))).trans F_h83__k_44_
  have F_h87__k_45_ : h87 (k + 45) = .inr (8, [.int 35, .ref (k + 46), .ref (k + 47), .ref (k + 48), .ref (k + 49), .ref (k + 50), .ref (k + 51), .int 0, .int 0]) := (fr87 (k + 45) (Or.inl (ltk (a := 45) (c := 67) (by decide)))).trans F_h83__k_45_
  have F_h87__k_46_ : h87 (k + 46) = .inl (1, 36, .inl (fun _ => 0)) := (fr87 (k + 46) (Or.inl (ltk (a := 46) (c := 67) (by decide)))).trans F_h83__k_46_
  have F_h87__k_47_ : h87 (k + 47) = .inl (1, 36, .inl (fun _ => 0)) := (fr87 (k + 47) (Or.inl (ltk (a := 47) (c := 67) (by decide)))).trans F_h83__k_47_
  have F_h87__k_48_ : h87 (k + 48) = .inl (1, 36, .inl (fun _ => 0)) := (fr87 (k + 48) (Or.inl (ltk (a := 48) (c := 67) (by decide)))).trans F_h83__k_48_
  have F_h87__k_49_ : h87 (k + 49) = .inl (1, 36, .inl (fun _ => 0)) := (fr87 (k + 49) (Or.inl (ltk (a := 49) (c := 67) (by decide)))).trans F_h83__k_49_
  have F_h87__k_50_ : h87 (k + 50) = .inl (1, 512, .inl (fun _ => 0)) := (fr87 (k + 50) (Or.inl (ltk (a := 50) (c := 67) (by decide)))).trans F_h83__k_50_
  have F_h87__k_51_ : h87 (k + 51) = .inl (1, 512, .inl (fun _ => 0)) := (fr87 (k + 51) (Or.inl (ltk (a := 51) (c := 67) (by decide)))).trans F_h83__k_51_
  have F_h87__k_52_ : h87 (k + 52) = .inr (8, [.int 31, .ref (k + 53), .ref (k + 54), .ref (k + 55), .ref (k + 56), .ref (k + 57), .ref (k + 58), .int 0, .int 0]) := (fr87 (k + 52) (Or.inl (ltk (a := 52) (c := 67) (by decide)))).trans F_h83__k_52_
  have F_h87__k_53_ : h87 (k + 53) = .inl (1, 32, .inl (fun _ => 0)) := (fr87 (k + 53) (Or.inl (ltk (a := 53) (c := 67) (by decide)))).trans F_h83__k_53_
  have F_h87__k_54_ : h87 (k + 54) = .inl (1, 32, .inl (fun _ => 0)) := (fr87 (k + 54) (Or.inl (ltk (a := 54) (c := 67) (by decide)))).trans F_h83__k_54_
  have F_h87__k_55_ : h87 (k + 55) = .inl (1, 32, .inl (fun _ => 0)) := (fr87 (k + 55) (Or.inl (ltk (a := 55) (c := 67) (by decide)))).trans F_h83__k_55_
  have F_h87__k_56_ : h87 (k + 56) = .inl (1, 32, .inl (fun _ => 0)) := (fr87 (k + 56) (Or.inl (ltk (a := 56) (c := 67) (by decide)))).trans F_h83__k_56_
  have F_h87__k_57_ : h87 (k + 57) = .inl (1, 256, .inl (fun _ => 0)) := (fr87 (k + 57) (Or.inl (ltk (a := 57) (c := 67) (by decide)))).trans F_h83__k_57_
  have F_h87__k_58_ : h87 (k + 58) = .inl (1, 256, .inl (fun _ => 0)) := (fr87 (k + 58) (Or.inl (ltk (a := 58) (c := 67) (by decide)))).trans F_h83__k_58_
  have F_h87__k_59_ : h87 (k + 59) = .inr (8, [.int 52, .ref (k + 60), .ref (k + 61), .ref (k + 62), .ref (k + 63), .ref (k + 64), .ref (k + 65), .int 0, .int 0]) := (fr87 (k + 59) (Or.inl (ltk (a := 59) (c := 67) (by decide)))).trans F_h83__k_59_
  have F_h87__k_60_ : h87 (k + 60) = .inl (1, 53, .inl (fun _ => 0)) := (fr87 (k + 60) (Or.inl (ltk (a := 60) (c := 67) (by decide)))).trans F_h83__k_60_
  have F_h87__k_61_ : h87 (k + 61) = .inl (1, 53, .inl (fun _ => 0)) := (fr87 (k + 61) (Or.inl (ltk (a := 61) (c := 67) (by decide)))).trans F_h83__k_61_
  have F_h87__k_62_ : h87 (k + 62) = .inl (1, 53, .inl (fun _ => 0)) := (fr87 (k + 62) (Or.inl (ltk (a := 62) (c := 67) (by decide)))).trans F_h83__k_62_
  have F_h87__k_63_ : h87 (k + 63) = .inl (1, 53, .inl (fun _ => 0)) := (fr87 (k + 63) (Or.inl (ltk (a := 63) (c := 67) (by decide)))).trans F_h83__k_63_
  have F_h87__k_64_ : h87 (k + 64) = .inl (1, 512, .inl (fun _ => 0)) := (fr87 (k + 64) (Or.inl (ltk (a := 64) (c := 67) (by decide)))).trans F_h83__k_64_
  have F_h87__k_65_ : h87 (k + 65) = .inl (1, 512, .inl (fun _ => 0)) := (fr87 (k + 65) (Or.inl (ltk (a := 65) (c := 67) (by decide)))).trans F_h83__k_65_
  have F_h87__k_66_ : h87 (k + 66) = .inl (1, 3, .inl lat0) := (fr87 (k + 66) (Or.inl (ltk (a := 66) (c := 67) (by decide)))).trans F_h83__k_66_
  have F_h87__k_67_ : h87 (k + 67) = .inr (2, [.ref (k + 68), .ref (k + 69), .ref (k + 70), .ref (k + 77), .ref (k + 79)]) := cs87.1
  have F_h87__k_68_ : h87 (k + 68) = .inl (1, 256, .inl (fun _ => 0)) := cs87.2.1
  have F_h87__k_69_ : h87 (k + 69) = .inl (1, 12, .inl (fun _ => 0)) := cs87.2.2.1
  have F_h87__k_70_ : h87 (k + 70) = .inr (8, [.int 11, .ref (k + 71), .ref (k + 72), .ref (k + 73), .ref (k + 74), .ref (k + 75), .ref (k + 76), .int 0, .int 0]) := cs87.2.2.2.1
  have F_h87__k_71_ : h87 (k + 71) = .inl (1, 12, .inl (fun _ => 0)) := cs87.2.2.2.2.1
  have F_h87__k_72_ : h87 (k + 72) = .inl (1, 12, .inl (fun _ => 0)) := cs87.2.2.2.2.2.1
  have F_h87__k_73_ : h87 (k + 73) = .inl (1, 12, .inl (fun _ => 0)) := cs87.2.2.2.2.2.2.1
  have F_h87__k_74_ : h87 (k + 74) = .inl (1, 12, .inl (fun _ => 0)) := cs87.2.2.2.2.2.2.2.1
  have F_h87__k_75_ : h87 (k + 75) = .inl (1, 64, .inl (fun _ => 0)) := cs87.2.2.2.2.2.2.2.2.1
  have F_h87__k_76_ : h87 (k + 76) = .inl (1, 64, .inl (fun _ => 0)) := cs87.2.2.2.2.2.2.2.2.2.1
  have F_h87__k_77_ : h87 (k + 77) = .inr (7, [.ref (k + 78), .int 0, .int 0, .long 0, .int 0]) := cs87.2.2.2.2.2.2.2.2.2.2.1
  have F_h87__k_78_ : h87 (k + 78) = .inl (0, 512, .inl (fun _ => 0)) := cs87.2.2.2.2.2.2.2.2.2.2.2.1
  have F_h87__k_79_ : h87 (k + 79) = .inr (7, [.ref (k + 80), .int 0, .int 0, .long 0, .int 0]) := cs87.2.2.2.2.2.2.2.2.2.2.2.2.1
  have F_h87__k_80_ : h87 (k + 80) = .inl (0, 512, .inl (fun _ => 0)) := cs87.2.2.2.2.2.2.2.2.2.2.2.2.2.1
  have FR_h87 : ∀ j, j < k ∨ aBig ≤ j → h87 j = h j := fun j hj => (fr87 j (hj.imp (fun z => Nat.lt_of_lt_of_le z (Nat.le_add_right _ _)) (fun z => z))).trans (FR_h83 j hj)
  clear F_h83_k F_h83__k_1_ F_h83__k_2_ F_h83__k_3_ F_h83__k_4_ F_h83__k_5_ F_h83__k_6_ F_h83__k_7_ F_h83__k_8_ F_h83__k_9_ F_h83__k_10_ F_h83__k_11_ F_h83__k_12_ F_h83__k_13_ F_h83__k_14_ F_h83__k_15_ F_h83__k_16_ F_h83__k_17_ F_h83__k_18_ F_h83__k_19_ F_h83__k_20_ F_h83__k_21_ F_h83__k_22_ F_h83__k_23_ F_h83__k_24_ F_h83__k_25_ F_h83__k_26_ F_h83__k_27_ F_h83__k_28_ F_h83__k_29_ F_h83__k_30_ F_h83__k_31_ F_h83__k_32_ F_h83__k_33_ F_h83__k_34_ F_h83__k_35_ F_h83__k_36_ F_h83__k_37_ F_h83__k_38_ F_h83__k_39_ F_h83__k_40_ F_h83__k_41_ F_h83__k_42_ F_h83__k_43_ F_h83__k_44_ F_h83__k_45_ F_h83__k_46_ F_h83__k_47_ F_h83__k_48_ F_h83__k_49_ F_h83__k_50_ F_h83__k_51_ F_h83__k_52_ F_h83__k_53_ F_h83__k_54_ F_h83__k_55_ F_h83__k_56_ F_h83__k_57_ F_h83__k_58_ F_h83__k_59_ F_h83__k_60_ F_h83__k_61_ F_h83__k_62_ F_h83__k_63_ F_h83__k_64_ F_h83__k_65_ F_h83__k_66_ F_h83__k_67_ FR_h83 fr87 cs87
  clear h83
  show WX _ _ _ 90 [(0, .ref k)] [.ref (k + 67), .ref k] (k + 81, s + 5 + 8000 + 5 + 12000 + 5 + 12000 + 5 + 8000 + 6 + 3609 + 6 + 3609 + 5 + 1487, h87)
  refine WX.put1 (fs := [.ref (k + 1), .ref (k + 3), .ref (k + 5), .ref (k + 7), .long 0, .ref (k + 9), .ref (k + 38), .null, .null, .null, .int 0, .int 0]) (fs' := [.ref (k + 1), .ref (k + 3), .ref (k + 5), .ref (k + 7), .long 0, .ref (k + 9), .ref (k + 38), .ref (k + 67), .null, .null, .int 0, .int 0]) rfl (ltk0 (c := 81) (by decide)) (F_h87_k) (Nat.le_of_ble_eq_true rfl) (rfl) rfl (fun h90 e_h90 => ?_)
  have F_h90_k : h90 k = .inr (10, [.ref (k + 1), .ref (k + 3), .ref (k + 5), .ref (k + 7), .long 0, .ref (k + 9), .ref (k + 38), .ref (k + 67), .null, .null, .int 0, .int 0]) := by rw [e_h90]; exact va_up_eq
  have F_h90__k_1_ : h90 (k + 1) = .inr (7, [.ref (k + 2), .int 0, .int 0, .long 0, .int 0]) := by rw [e_h90, va_up_neq (nek0 (a := 1) (by decide))]; exact F_h87__k_1_
  have F_h90__k_2_ : h90 (k + 2) = .inl (0, 8000, .inl (fun _ => 0)) := by rw [e_h90, va_up_neq (nek0 (a := 2) (by decide))]; exact F_h87__k_2_
  have F_h90__k_3_ : h90 (k + 3) = .inr (7, [.ref (k + 4), .int 0, .int 0, .long 0, .int 0]) := by rw [e_h90, va_up_neq (nek0 (a := 3) (by decide))]; exact F_h87__k_3_
  have F_h90__k_4_ : h90 (k + 4) = .inl (0, 12000, .inl (fun _ => 0)) := by rw [e_h90, va_up_neq (nek0 (a := 4) (by decide))]; exact F_h87__k_4_
  have F_h90__k_5_ : h90 (k + 5) = .inr (7, [.ref (k + 6), .int 0, .int 0, .long 0, .int 0]) := by rw [e_h90, va_up_neq (nek0 (a := 5) (by decide))]; exact F_h87__k_5_
  have F_h90__k_6_ : h90 (k + 6) = .inl (0, 12000, .inl (fun _ => 0)) := by rw [e_h90, va_up_neq (nek0 (a := 6) (by decide))]; exact F_h87__k_6_
  have F_h90__k_7_ : h90 (k + 7) = .inr (7, [.ref (k + 8), .int 0, .int 0, .long 0, .int 0]) := by rw [e_h90, va_up_neq (nek0 (a := 7) (by decide))]; exact F_h87__k_7_
  have F_h90__k_8_ : h90 (k + 8) = .inl (0, 8000, .inl (fun _ => 0)) := by rw [e_h90, va_up_neq (nek0 (a := 8) (by decide))]; exact F_h87__k_8_
  have F_h90__k_9_ : h90 (k + 9) = .inr (9, [.ref (k + 10), .ref (k + 12), .ref (k + 16), .ref (k + 23), .ref (k + 30), .ref (k + 37)]) := by rw [e_h90, va_up_neq (nek0 (a := 9) (by decide))]; exact F_h87__k_9_
  have F_h90__k_10_ : h90 (k + 10) = .inr (7, [.ref (k + 11), .int 0, .int 0, .long 0, .int 0]) := by rw [e_h90, va_up_neq (nek0 (a := 10) (by decide))]; exact F_h87__k_10_
  have F_h90__k_11_ : h90 (k + 11) = .inl (0, 0, .inl (fun _ => 0)) := by rw [e_h90, va_up_neq (nek0 (a := 11) (by decide))]; exact F_h87__k_11_
  have F_h90__k_12_ : h90 (k + 12) = .inr (0, [.ref (k + 13), .ref (k + 14), .ref (k + 15), .int 0, .int 0]) := by rw [e_h90, va_up_neq (nek0 (a := 12) (by decide))]; exact F_h87__k_12_
  have F_h90__k_13_ : h90 (k + 13) = .inl (1, 256, .inl (fun _ => 0)) := by rw [e_h90, va_up_neq (nek0 (a := 13) (by decide))]; exact F_h87__k_13_
  have F_h90__k_14_ : h90 (k + 14) = .inl (1, 256, .inl (fun _ => 0)) := by rw [e_h90, va_up_neq (nek0 (a := 14) (by decide))]; exact F_h87__k_14_
  have F_h90__k_15_ : h90 (k + 15) = .inl (1, 13, .inl (fun _ => 0)) := by rw [e_h90, va_up_neq (nek0 (a := 15) (by decide))]; exact F_h87__k_15_
  have F_h90__k_16_ : h90 (k + 16) = .inr (8, [.int 35, .ref (k + 17), .ref (k + 18), .ref (k + 19), .ref (k + 20), .ref (k + 21), .ref (k + 22), .int 0, .int 0]) := by rw [e_h90, va_up_neq (nek0 (a := 16) (by decide))]; exact F_h87__k_16_
  have F_h90__k_17_ : h90 (k + 17) = .inl (1, 36, .inl (fun _ => 0)) := by rw [e_h90, va_up_neq (nek0 (a := 17) (by decide))]; exact F_h87__k_17_
  have F_h90__k_18_ : h90 (k + 18) = .inl (1, 36, .inl (fun _ => 0)) := by rw [e_h90, va_up_neq (nek0 (a := 18) (by decide))]; exact F_h87__k_18_
  have F_h90__k_19_ : h90 (k + 19) = .inl (1, 36, .inl (fun _ => 0)) := by rw [e_h90, va_up_neq (nek0 (a := 19) (by decide))]; exact F_h87__k_19_
  have F_h90__k_20_ : h90 (k + 20) = .inl (1, 36, .inl (fun _ => 0)) := by rw [e_h90, va_up_neq (nek0 (a := 20) (by decide))]; exact F_h87__k_20_
  have F_h90__k_21_ : h90 (k + 21) = .inl (1, 512, .inl (fun _ => 0)) := by rw [e_h90, va_up_neq (nek0 (a := 21) (by decide))]; exact F_h87__k_21_
  have F_h90__k_22_ : h90 (k + 22) = .inl (1, 512, .inl (fun _ => 0)) := by rw [e_h90, va_up_neq (nek0 (a := 22) (by decide))]; exact F_h87__k_22_
  have F_h90__k_23_ : h90 (k + 23) = .inr (8, [.int 31, .ref (k + 24), .ref (k + 25), .ref (k + 26), .ref (k + 27), .ref (k + 28), .ref (k + 29), .int 0, .int 0]) := by rw [e_h90, va_up_neq (nek0 (a := 23) (by decide))]; exact F_h87__k_23_
  have F_h90__k_24_ : h90 (k + 24) = .inl (1, 32, .inl (fun _ => 0)) := by rw [e_h90, va_up_neq (nek0 (a := 24) (by decide))]; exact F_h87__k_24_
  have F_h90__k_25_ : h90 (k + 25) = .inl (1, 32, .inl (fun _ => 0)) := by rw [e_h90, va_up_neq (nek0 (a := 25) (by decide))]; exact F_h87__k_25_
  have F_h90__k_26_ : h90 (k + 26) = .inl (1, 32, .inl (fun _ => 0)) := by rw [e_h90, va_up_neq (nek0 (a := 26) (by decide))]; exact F_h87__k_26_
  have F_h90__k_27_ : h90 (k + 27) = .inl (1, 32, .inl (fun _ => 0)) := by rw [e_h90, va_up_neq (nek0 (a := 27) (by decide))]; exact F_h87__k_27_
  have F_h90__k_28_ : h90 (k + 28) = .inl (1, 256, .inl (fun _ => 0)) := by rw [e_h90, va_up_neq (nek0 (a := 28) (by decide))]; exact F_h87__k_28_
  have F_h90__k_29_ : h90 (k + 29) = .inl (1, 256, .inl (fun _ => 0)) := by rw [e_h90, va_up_neq (nek0 (a := 29) (by decide))]; exact F_h87__k_29_
  have F_h90__k_30_ : h90 (k + 30) = .inr (8, [.int 52, .ref (k + 31), .ref (k + 32), .ref (k + 33), .ref (k + 34), .ref (k + 35), .ref (k + 36), .int 0, .int 0]) := by rw [e_h90, va_up_neq (nek0 (a := 30) (by decide))]; exact F_h87__k_30_
  have F_h90__k_31_ : h90 (k + 31) = .inl (1, 53, .inl (fun _ => 0)) := by rw [e_h90, va_up_neq (nek0 (a := 31) (by decide))]; exact F_h87__k_31_
  have F_h90__k_32_ : h90 (k + 32) = .inl (1, 53, .inl (fun _ => 0)) := by rw [e_h90, va_up_neq (nek0 (a := 32) (by decide))]; exact F_h87__k_32_
  have F_h90__k_33_ : h90 (k + 33) = .inl (1, 53, .inl (fun _ => 0)) := by rw [e_h90, va_up_neq (nek0 (a := 33) (by decide))]; exact F_h87__k_33_
  have F_h90__k_34_ : h90 (k + 34) = .inl (1, 53, .inl (fun _ => 0)) := by rw [e_h90, va_up_neq (nek0 (a := 34) (by decide))]; exact F_h87__k_34_
  have F_h90__k_35_ : h90 (k + 35) = .inl (1, 512, .inl (fun _ => 0)) := by rw [e_h90, va_up_neq (nek0 (a := 35) (by decide))]; exact F_h87__k_35_
  have F_h90__k_36_ : h90 (k + 36) = .inl (1, 512, .inl (fun _ => 0)) := by rw [e_h90, va_up_neq (nek0 (a := 36) (by decide))]; exact F_h87__k_36_
  have F_h90__k_37_ : h90 (k + 37) = .inl (1, 3, .inl lat0) := by rw [e_h90, va_up_neq (nek0 (a := 37) (by decide))]; exact F_h87__k_37_
  have F_h90__k_38_ : h90 (k + 38) = .inr (9, [.ref (k + 39), .ref (k + 41), .ref (k + 45), .ref (k + 52), .ref (k + 59), .ref (k + 66)]) := by rw [e_h90, va_up_neq (nek0 (a := 38) (by decide))]; exact F_h87__k_38_
  have F_h90__k_39_ : h90 (k + 39) = .inr (7, [.ref (k + 40), .int 0, .int 0, .long 0, .int 0]) := by rw [e_h90, va_up_neq (nek0 (a := 39) (by decide))]; exact F_h87__k_39_
  have F_h90__k_40_ : h90 (k + 40) = .inl (0, 0, .inl (fun _ => 0)) := by rw [e_h90, va_up_neq (nek0 (a := 40) (by decide))]; exact F_h87__k_40_
  have F_h90__k_41_ : h90 (k + 41) = .inr (0, [.ref (k + 42), .ref (k + 43), .ref (k + 44), .int 0, .int 0]) := by rw [e_h90, va_up_neq (nek0 (a := 41) (by decide))]; exact F_h87__k_41_
  have F_h90__k_42_ : h90 (k + 42) = .inl (1, 256, .inl (fun _ => 0)) := by rw [e_h90, va_up_neq (nek0 (a := 42) (by decide))]; exact F_h87__k_42_
  have F_h90__k_43_ : h90 (k + 43) = .inl (1, 256, .inl (fun _ => 0)) := by rw [e_h90, va_up_neq (nek0 (a := 43) (by decide))]; exact F_h87__k_43_
  have F_h90__k_44_ : h90 (k + 44) = .inl (1, 13, .inl (fun _ => 0)) := by rw [e_h90, va_up_neq (nek0 (a := 44) (by decide))]; exact F_h87__k_44_
  have F_h90__k_45_ : h90 (k + 45) = .inr (8, [.int 35, .ref (k + 46), .ref (k + 47), .ref (k + 48), .ref (k + 49), .ref (k + 50), .ref (k + 51), .int 0, .int 0]) := by rw [e_h90, va_up_neq (nek0 (a := 45) (by decide))]; exact F_h87__k_45_
  have F_h90__k_46_ : h90 (k + 46) = .inl (1, 36, .inl (fun _ => 0)) := by rw [e_h90, va_up_neq (nek0 (a := 46) (by decide))]; exact F_h87__k_46_
  have F_h90__k_47_ : h90 (k + 47) = .inl (1, 36, .inl (fun _ => 0)) := by rw [e_h90, va_up_neq (nek0 (a := 47) (by decide))]; exact F_h87__k_47_
  have F_h90__k_48_ : h90 (k + 48) = .inl (1, 36, .inl (fun _ => 0)) := by rw [e_h90, va_up_neq (nek0 (a := 48) (by decide))]; exact F_h87__k_48_
  have F_h90__k_49_ : h90 (k + 49) = .inl (1, 36, .inl (fun _ => 0)) := by rw [e_h90, va_up_neq (nek0 (a := 49) (by decide))]; exact F_h87__k_49_
  have F_h90__k_50_ : h90 (k + 50) = .inl (1, 512, .inl (fun _ => 0)) := by rw [e_h90, va_up_neq (nek0 (a := 50) (by decide))]; exact F_h87__k_50_
  have F_h90__k_51_ : h90 (k + 51) = .inl (1, 512, .inl (fun _ => 0)) := by rw [e_h90, va_up_neq (nek0 (a := 51) (by decide))]; exact F_h87__k_51_
  have F_h90__k_52_ : h90 (k + 52) = .inr (8, [.int 31, .ref (k + 53), .ref (k + 54), .ref (k + 55), .ref (k + 56), .ref (k + 57), .ref (k + 58), .int 0, .int 0]) := by rw [e_h90, va_up_neq (nek0 (a := 52) (by decide))]; exact F_h87__k_52_
  have F_h90__k_53_ : h90 (k + 53) = .inl (1, 32, .inl (fun _ => 0)) := by rw [e_h90, va_up_neq (nek0 (a := 53) (by decide))]; exact F_h87__k_53_
  have F_h90__k_54_ : h90 (k + 54) = .inl (1, 32, .inl (fun _ => 0)) := by rw [e_h90, va_up_neq (nek0 (a := 54) (by decide))]; exact F_h87__k_54_
  have F_h90__k_55_ : h90 (k + 55) = .inl (1, 32, .inl (fun _ => 0)) := by rw [e_h90, va_up_neq (nek0 (a := 55) (by decide))]; exact F_h87__k_55_
  have F_h90__k_56_ : h90 (k + 56) = .inl (1, 32, .inl (fun _ => 0)) := by rw [e_h90, va_up_neq (nek0 (a := 56) (by decide))]; exact F_h87__k_56_
  have F_h90__k_57_ : h90 (k + 57) = .inl (1, 256, .inl (fun _ => 0)) := by rw [e_h90, va_up_neq (nek0 (a := 57) (by decide))]; exact F_h87__k_57_
  have F_h90__k_58_ : h90 (k + 58) = .inl (1, 256, .inl (fun _ => 0)) := by rw [e_h90, va_up_neq (nek0 (a := 58) (by decide))]; exact F_h87__k_58_
  have F_h90__k_59_ : h90 (k + 59) = .inr (8, [.int 52, .ref (k + 60), .ref (k + 61), .ref (k + 62), .ref (k + 63), .ref (k + 64), .ref (k + 65), .int 0, .int 0]) := by rw [e_h90, va_up_neq (nek0 (a := 59) (by decide))]; exact F_h87__k_59_
  have F_h90__k_60_ : h90 (k + 60) = .inl (1, 53, .inl (fun _ => 0)) := by rw [e_h90, va_up_neq (nek0 (a := 60) (by decide))]; exact F_h87__k_60_
  have F_h90__k_61_ : h90 (k + 61) = .inl (1, 53, .inl (fun _ => 0)) := by rw [e_h90, va_up_neq (nek0 (a := 61) (by decide))]; exact F_h87__k_61_
  have F_h90__k_62_ : h90 (k + 62) = .inl (1, 53, .inl (fun _ => 0)) := by rw [e_h90, va_up_neq (nek0 (a := 62) (by decide))]; exact F_h87__k_62_
  have F_h90__k_63_ : h90 (k + 63) = .inl (1, 53, .inl (fun _ => 0)) := by rw [e_h90, va_up_neq (nek0 (a := 63) (by decide))]; exact F_h87__k_63_
  have F_h90__k_64_ : h90 (k + 64) = .inl (1, 512, .inl (fun _ => 0)) := by rw [e_h90, va_up_neq (nek0 (a := 64) (by decide))]; exact F_h87__k_64_
  have F_h90__k_65_ : h90 (k + 65) = .inl (1, 512, .inl (fun _ => 0)) := by rw [e_h90, va_up_neq (nek0 (a := 65) (by decide))]; exact F_h87__k_65_
  have F_h90__k_66_ : h90 (k + 66) = .inl (1, 3, .inl lat0) := by rw [e_h90, va_up_neq (nek0 (a := 66) (by decide))]; exact F_h87__k_66_
  have F_h90__k_67_ : h90 (k + 67) = .inr (2, [.ref (k + 68), .ref (k + 69), .ref (k + 70), .ref (k + 77), .ref (k + 79)]) := by rw [e_h90, va_up_neq (nek0 (a := 67) (by decide))]; exact F_h87__k_67_
  have F_h90__k_68_ : h90 (k + 68) = .inl (1, 256, .inl (fun _ => 0)) := by rw [e_h90, va_up_neq (nek0 (a := 68) (by decide))]; exact F_h87__k_68_
  have F_h90__k_69_ : h90 (k + 69) = .inl (1, 12, .inl (fun _ => 0)) := by rw [e_h90, va_up_neq (nek0 (a := 69) (by decide))]; exact F_h87__k_69_
  have F_h90__k_70_ : h90 (k + 70) = .inr (8, [.int 11, .ref (k + 71), .ref (k + 72), .ref (k + 73), .ref (k + 74), .ref (k + 75), .ref (k + 76), .int 0, .int 0]) := by rw [e_h90, va_up_neq (nek0 (a := 70) (by decide))]; exact F_h87__k_70_
  have F_h90__k_71_ : h90 (k + 71) = .inl (1, 12, .inl (fun _ => 0)) := by rw [e_h90, va_up_neq (nek0 (a := 71) (by decide))]; exact F_h87__k_71_
  have F_h90__k_72_ : h90 (k + 72) = .inl (1, 12, .inl (fun _ => 0)) := by rw [e_h90, va_up_neq (nek0 (a := 72) (by decide))]; exact F_h87__k_72_
  have F_h90__k_73_ : h90 (k + 73) = .inl (1, 12, .inl (fun _ => 0)) := by rw [e_h90, va_up_neq (nek0 (a := 73) (by decide))]; exact F_h87__k_73_
  have F_h90__k_74_ : h90 (k + 74) = .inl (1, 12, .inl (fun _ => 0)) := by rw [e_h90, va_up_neq (nek0 (a := 74) (by decide))]; exact F_h87__k_74_
  have F_h90__k_75_ : h90 (k + 75) = .inl (1, 64, .inl (fun _ => 0)) := by rw [e_h90, va_up_neq (nek0 (a := 75) (by decide))]; exact F_h87__k_75_
  have F_h90__k_76_ : h90 (k + 76) = .inl (1, 64, .inl (fun _ => 0)) := by rw [e_h90, va_up_neq (nek0 (a := 76) (by decide))]; exact F_h87__k_76_
  have F_h90__k_77_ : h90 (k + 77) = .inr (7, [.ref (k + 78), .int 0, .int 0, .long 0, .int 0]) := by rw [e_h90, va_up_neq (nek0 (a := 77) (by decide))]; exact F_h87__k_77_
  have F_h90__k_78_ : h90 (k + 78) = .inl (0, 512, .inl (fun _ => 0)) := by rw [e_h90, va_up_neq (nek0 (a := 78) (by decide))]; exact F_h87__k_78_
  have F_h90__k_79_ : h90 (k + 79) = .inr (7, [.ref (k + 80), .int 0, .int 0, .long 0, .int 0]) := by rw [e_h90, va_up_neq (nek0 (a := 79) (by decide))]; exact F_h87__k_79_
  have F_h90__k_80_ : h90 (k + 80) = .inl (0, 512, .inl (fun _ => 0)) := by rw [e_h90, va_up_neq (nek0 (a := 80) (by decide))]; exact F_h87__k_80_
  have FR_h90 : ∀ j, j < k ∨ aBig ≤ j → h90 j = h j := fun j hj => by rw [e_h90]; exact (va_up_neq (frne0 hj hbig)).trans (FR_h87 j hj)
  clear F_h87_k F_h87__k_1_ F_h87__k_2_ F_h87__k_3_ F_h87__k_4_ F_h87__k_5_ F_h87__k_6_ F_h87__k_7_ F_h87__k_8_ F_h87__k_9_ F_h87__k_10_ F_h87__k_11_ F_h87__k_12_ F_h87__k_13_ F_h87__k_14_ F_h87__k_15_ F_h87__k_16_ F_h87__k_17_ F_h87__k_18_ F_h87__k_19_ F_h87__k_20_ F_h87__k_21_ F_h87__k_22_ F_h87__k_23_ F_h87__k_24_ F_h87__k_25_ F_h87__k_26_ F_h87__k_27_ F_h87__k_28_ F_h87__k_29_ F_h87__k_30_ F_h87__k_31_ F_h87__k_32_ F_h87__k_33_ F_h87__k_34_ F_h87__k_35_ F_h87__k_36_ F_h87__k_37_ F_h87__k_38_ F_h87__k_39_ F_h87__k_40_ F_h87__k_41_ F_h87__k_42_ F_h87__k_43_ F_h87__k_44_ F_h87__k_45_ F_h87__k_46_ F_h87__k_47_ F_h87__k_48_ F_h87__k_49_ F_h87__k_50_ F_h87__k_51_ F_h87__k_52_ F_h87__k_53_ F_h87__k_54_ F_h87__k_55_ F_h87__k_56_ F_h87__k_57_ F_h87__k_58_ F_h87__k_59_ F_h87__k_60_ F_h87__k_61_ F_h87__k_62_ F_h87__k_63_ F_h87__k_64_ F_h87__k_65_ F_h87__k_66_ F_h87__k_67_ F_h87__k_68_ F_h87__k_69_ F_h87__k_70_ F_h87__k_71_ F_h87__k_72_ F_h87__k_73_ F_h87__k_74_ F_h87__k_75_ F_h87__k_76_ F_h87__k_77_ F_h87__k_78_ F_h87__k_79_ F_h87__k_80_ FR_h87 e_h90
  clear h87
  refine WX.s1 rfl rfl ?_
  refine WX.newN rfl (bigk (k := k) (a := 82) hbig (by decide)) (fun h94 e_h94 => ?_)
  have F_h94_k : h94 k = .inr (10, [.ref (k + 1), .ref (k + 3), .ref (k + 5), .ref (k + 7), .long 0, .ref (k + 9), .ref (k + 38), .ref (k + 67), .null, .null, .int 0, .int 0]) := by rw [e_h94, va_up_neq (nek1 (a := 81) (by decide))]; exact F_h90_k
  have F_h94__k_1_ : h94 (k + 1) = .inr (7, [.ref (k + 2), .int 0, .int 0, .long 0, .int 0]) := by rw [e_h94, va_up_neq (nek (a := 1) (b := 81) (by decide))]; exact F_h90__k_1_
  have F_h94__k_2_ : h94 (k + 2) = .inl (0, 8000, .inl (fun _ => 0)) := by rw [e_h94, va_up_neq (nek (a := 2) (b := 81) (by decide))]; exact F_h90__k_2_
  have F_h94__k_3_ : h94 (k + 3) = .inr (7, [.ref (k + 4), .int 0, .int 0, .long 0, .int 0]) := by rw [e_h94, va_up_neq (nek (a := 3) (b := 81) (by decide))]; exact F_h90__k_3_
  have F_h94__k_4_ : h94 (k + 4) = .inl (0, 12000, .inl (fun _ => 0)) := by rw [e_h94, va_up_neq (nek (a := 4) (b := 81) (by decide))]; exact F_h90__k_4_
  have F_h94__k_5_ : h94 (k + 5) = .inr (7, [.ref (k + 6), .int 0, .int 0, .long 0, .int 0]) := by rw [e_h94, va_up_neq (nek (a := 5) (b := 81) (by decide))]; exact F_h90__k_5_
  have F_h94__k_6_ : h94 (k + 6) = .inl (0, 12000, .inl (fun _ => 0)) := by rw [e_h94, va_up_neq (nek (a := 6) (b := 81) (by decide))]; exact F_h90__k_6_
  have F_h94__k_7_ : h94 (k + 7) = .inr (7, [.ref (k + 8), .int 0, .int 0, .long 0, .int 0]) := by rw [e_h94, va_up_neq (nek (a := 7) (b := 81) (by decide))]; exact F_h90__k_7_
  have F_h94__k_8_ : h94 (k + 8) = .inl (0, 8000, .inl (fun _ => 0)) := by rw [e_h94, va_up_neq (nek (a := 8) (b := 81) (by decide))]; exact F_h90__k_8_
  have F_h94__k_9_ : h94 (k + 9) = .inr (9, [.ref (k + 10), .ref (k + 12), .ref (k + 16), .ref (k + 23), .ref (k + 30), .ref (k + 37)]) := by rw [e_h94, va_up_neq (nek (a := 9) (b := 81) (by decide))]; exact F_h90__k_9_
  have F_h94__k_10_ : h94 (k + 10) = .inr (7, [.ref (k + 11), .int 0, .int 0, .long 0, .int 0]) := by rw [e_h94, va_up_neq (nek (a := 10) (b := 81) (by decide))]; exact F_h90__k_10_
  have F_h94__k_11_ : h94 (k + 11) = .inl (0, 0, .inl (fun _ => 0)) := by rw [e_h94, va_up_neq (nek (a := 11) (b := 81) (by decide))]; exact F_h90__k_11_
  have F_h94__k_12_ : h94 (k + 12) = .inr (0, [.ref (k + 13), .ref (k + 14), .ref (k + 15), .int 0, .int 0]) := by rw [e_h94, va_up_neq (nek (a := 12) (b := 81) (by decide))]; exact F_h90__k_12_
  have F_h94__k_13_ : h94 (k + 13) = .inl (1, 256, .inl (fun _ => 0)) := by rw [e_h94, va_up_neq (nek (a := 13) (b := 81) (by decide))]; exact F_h90__k_13_
  have F_h94__k_14_ : h94 (k + 14) = .inl (1, 256, .inl (fun _ => 0)) := by rw [e_h94, va_up_neq (nek (a := 14) (b := 81) (by decide))]; exact F_h90__k_14_
  have F_h94__k_15_ : h94 (k + 15) = .inl (1, 13, .inl (fun _ => 0)) := by rw [e_h94, va_up_neq (nek (a := 15) (b := 81) (by decide))]; exact F_h90__k_15_
  have F_h94__k_16_ : h94 (k + 16) = .inr (8, [.int 35, .ref (k + 17), .ref (k + 18), .ref (k + 19), .ref (k + 20), .ref (k + 21), .ref (k + 22), .int 0, .int 0]) := by rw [e_h94, va_up_neq (nek (a := 16) (b := 81) (by decide))]; exact F_h90__k_16_
  have F_h94__k_17_ : h94 (k + 17) = .inl (1, 36, .inl (fun _ => 0)) := by rw [e_h94, va_up_neq (nek (a := 17) (b := 81) (by decide))]; exact F_h90__k_17_
  have F_h94__k_18_ : h94 (k + 18) = .inl (1, 36, .inl (fun _ => 0)) := by rw [e_h94, va_up_neq (nek (a := 18) (b := 81) (by decide))]; exact F_h90__k_18_
  have F_h94__k_19_ : h94 (k + 19) = .inl (1, 36, .inl (fun _ => 0)) := by rw [e_h94, va_up_neq (nek (a := 19) (b := 81) (by decide))]; exact F_h90__k_19_
  have F_h94__k_20_ : h94 (k + 20) = .inl (1, 36, .inl (fun _ => 0)) := by rw [e_h94, va_up_neq (nek (a := 20) (b := 81) (by decide))]; exact F_h90__k_20_
  have F_h94__k_21_ : h94 (k + 21) = .inl (1, 512, .inl (fun _ => 0)) := by rw [e_h94, va_up_neq (nek (a := 21) (b := 81) (by decide))]; exact F_h90__k_21_
  have F_h94__k_22_ : h94 (k + 22) = .inl (1, 512, .inl (fun _ => 0)) := by rw [e_h94, va_up_neq (nek (a := 22) (b := 81) (by decide))]; exact F_h90__k_22_
  have F_h94__k_23_ : h94 (k + 23) = .inr (8, [.int 31, .ref (k + 24), .ref (k + 25), .ref (k + 26), .ref (k + 27), .ref (k + 28), .ref (k + 29), .int 0, .int 0]) := by rw [e_h94, va_up_neq (nek (a := 23) (b := 81) (by decide))]; exact F_h90__k_23_
  have F_h94__k_24_ : h94 (k + 24) = .inl (1, 32, .inl (fun _ => 0)) := by rw [e_h94, va_up_neq (nek (a := 24) (b := 81) (by decide))]; exact F_h90__k_24_
  have F_h94__k_25_ : h94 (k + 25) = .inl (1, 32, .inl (fun _ => 0)) := by rw [e_h94, va_up_neq (nek (a := 25) (b := 81) (by decide))]; exact F_h90__k_25_
  have F_h94__k_26_ : h94 (k + 26) = .inl (1, 32, .inl (fun _ => 0)) := by rw [e_h94, va_up_neq (nek (a := 26) (b := 81) (by decide))]; exact F_h90__k_26_
  have F_h94__k_27_ : h94 (k + 27) = .inl (1, 32, .inl (fun _ => 0)) := by rw [e_h94, va_up_neq (nek (a := 27) (b := 81) (by decide))]; exact F_h90__k_27_
  have F_h94__k_28_ : h94 (k + 28) = .inl (1, 256, .inl (fun _ => 0)) := by rw [e_h94, va_up_neq (nek (a := 28) (b := 81) (by decide))]; exact F_h90__k_28_
  have F_h94__k_29_ : h94 (k + 29) = .inl (1, 256, .inl (fun _ => 0)) := by rw [e_h94, va_up_neq (nek (a := 29) (b := 81) (by decide))]; exact F_h90__k_29_
  have F_h94__k_30_ : h94 (k + 30) = .inr (8, [.int 52, .ref (k + 31), .ref (k + 32), .ref (k + 33), .ref (k + 34), .ref (k + 35), .ref (k + 36), .int 0, .int 0]) := by rw [e_h94, va_up_neq (nek (a := 30) (b := 81) (by decide))]; exact F_h90__k_30_
  have F_h94__k_31_ : h94 (k + 31) = .inl (1, 53, .inl (fun _ => 0)) := by rw [e_h94, va_up_neq (nek (a := 31) (b := 81) (by decide))]; exact F_h90__k_31_
  have F_h94__k_32_ : h94 (k + 32) = .inl (1, 53, .inl (fun _ => 0)) := by rw [e_h94, va_up_neq (nek (a := 32) (b := 81) (by decide))]; exact F_h90__k_32_
  have F_h94__k_33_ : h94 (k + 33) = .inl (1, 53, .inl (fun _ => 0)) := by rw [e_h94, va_up_neq (nek (a := 33) (b := 81) (by decide))]; exact F_h90__k_33_
  have F_h94__k_34_ : h94 (k + 34) = .inl (1, 53, .inl (fun _ => 0)) := by rw [e_h94, va_up_neq (nek (a := 34) (b := 81) (by decide))]; exact F_h90__k_34_
  have F_h94__k_35_ : h94 (k + 35) = .inl (1, 512, .inl (fun _ => 0)) := by rw [e_h94, va_up_neq (nek (a := 35) (b := 81) (by decide))]; exact F_h90__k_35_
  have F_h94__k_36_ : h94 (k + 36) = .inl (1, 512, .inl (fun _ => 0)) := by rw [e_h94, va_up_neq (nek (a := 36) (b := 81) (by decide))]; exact F_h90__k_36_
  have F_h94__k_37_ : h94 (k + 37) = .inl (1, 3, .inl lat0) := by rw [e_h94, va_up_neq (nek (a := 37) (b := 81) (by decide))]; exact F_h90__k_37_
  have F_h94__k_38_ : h94 (k + 38) = .inr (9, [.ref (k + 39), .ref (k + 41), .ref (k + 45), .ref (k + 52), .ref (k + 59), .ref (k + 66)]) := by rw [e_h94, va_up_neq (nek (a := 38) (b := 81) (by decide))]; exact F_h90__k_38_
  have F_h94__k_39_ : h94 (k + 39) = .inr (7, [.ref (k + 40), .int 0, .int 0, .long 0, .int 0]) := by rw [e_h94, va_up_neq (nek (a := 39) (b := 81) (by decide))]; exact F_h90__k_39_
  have F_h94__k_40_ : h94 (k + 40) = .inl (0, 0, .inl (fun _ => 0)) := by rw [e_h94, va_up_neq (nek (a := 40) (b := 81) (by decide))]; exact F_h90__k_40_
  have F_h94__k_41_ : h94 (k + 41) = .inr (0, [.ref (k + 42), .ref (k + 43), .ref (k + 44), .int 0, .int 0]) := by rw [e_h94, va_up_neq (nek (a := 41) (b := 81) (by decide))]; exact F_h90__k_41_
  have F_h94__k_42_ : h94 (k + 42) = .inl (1, 256, .inl (fun _ => 0)) := by rw [e_h94, va_up_neq (nek (a := 42) (b := 81) (by decide))]; exact F_h90__k_42_
  have F_h94__k_43_ : h94 (k + 43) = .inl (1, 256, .inl (fun _ => 0)) := by rw [e_h94, va_up_neq (nek (a := 43) (b := 81) (by decide))]; exact F_h90__k_43_
  have F_h94__k_44_ : h94 (k + 44) = .inl (1, 13, .inl (fun _ => 0)) := by rw [e_h94, va_up_neq (nek (a := 44) (b := 81) (by decide))]; exact F_h90__k_44_
  have F_h94__k_45_ : h94 (k + 45) = .inr (8, [.int 35, .ref (k + 46), .ref (k + 47), .ref (k + 48), .ref (k + 49), .ref (k + 50), .ref (k + 51), .int 0, .int 0]) := by rw [e_h94, va_up_neq (nek (a := 45) (b := 81) (by decide))]; exact F_h90__k_45_
  have F_h94__k_46_ : h94 (k + 46) = .inl (1, 36, .inl (fun _ => 0)) := by rw [e_h94, va_up_neq (nek (a := 46) (b := 81) (by decide))]; exact F_h90__k_46_
  have F_h94__k_47_ : h94 (k + 47) = .inl (1, 36, .inl (fun _ => 0)) := by rw [e_h94, va_up_neq (nek (a := 47) (b := 81) (by decide))]; exact F_h90__k_47_
  have F_h94__k_48_ : h94 (k + 48) = .inl (1, 36, .inl (fun _ => 0)) := by rw [e_h94, va_up_neq (nek (a := 48) (b := 81) (by decide))]; exact F_h90__k_48_
  have F_h94__k_49_ : h94 (k + 49) = .inl (1, 36, .inl (fun _ => 0)) := by rw [e_h94, va_up_neq (nek (a := 49) (b := 81) (by decide))]; exact F_h90__k_49_
  have F_h94__k_50_ : h94 (k + 50) = .inl (1, 512, .inl (fun _ => 0)) := by rw [e_h94, va_up_neq (nek (a := 50) (b := 81) (by decide))]; exact F_h90__k_50_
  have F_h94__k_51_ : h94 (k + 51) = .inl (1, 512, .inl (fun _ => 0)) := by rw [e_h94, va_up_neq (nek (a := 51) (b := 81) (by decide))]; exact F_h90__k_51_
  have F_h94__k_52_ : h94 (k + 52) = .inr (8, [.int 31, .ref (k + 53), .ref (k + 54), .ref (k + 55), .ref (k + 56), .ref (k + 57), .ref (k + 58), .int 0, .int 0]) := by rw [e_h94, va_up_neq (nek (a := 52) (b := 81) (by decide))]; exact F_h90__k_52_
  have F_h94__k_53_ : h94 (k + 53) = .inl (1, 32, .inl (fun _ => 0)) := by rw [e_h94, va_up_neq (nek (a := 53) (b := 81) (by decide))]; exact F_h90__k_53_
  have F_h94__k_54_ : h94 (k + 54) = .inl (1, 32, .inl (fun _ => 0)) := by rw [e_h94, va_up_neq (nek (a := 54) (b := 81) (by decide))]; exact F_h90__k_54_
  have F_h94__k_55_ : h94 (k + 55) = .inl (1, 32, .inl (fun _ => 0)) := by rw [e_h94, va_up_neq (nek (a := 55) (b := 81) (by decide))]; exact F_h90__k_55_
  have F_h94__k_56_ : h94 (k + 56) = .inl (1, 32, .inl (fun _ => 0)) := by rw [e_h94, va_up_neq (nek (a := 56) (b := 81) (by decide))]; exact F_h90__k_56_
  have F_h94__k_57_ : h94 (k + 57) = .inl (1, 256, .inl (fun _ => 0)) := by rw [e_h94, va_up_neq (nek (a := 57) (b := 81) (by decide))]; exact F_h90__k_57_
  have F_h94__k_58_ : h94 (k + 58) = .inl (1, 256, .inl (fun _ => 0)) := by rw [e_h94, va_up_neq (nek (a := 58) (b := 81) (by decide))]; exact F_h90__k_58_
  have F_h94__k_59_ : h94 (k + 59) = .inr (8, [.int 52, .ref (k + 60), .ref (k + 61), .ref (k + 62), .ref (k + 63), .ref (k + 64), .ref (k + 65), .int 0, .int 0]) := by rw [e_h94, va_up_neq (nek (a := 59) (b := 81) (by decide))]; exact F_h90__k_59_
  have F_h94__k_60_ : h94 (k + 60) = .inl (1, 53, .inl (fun _ => 0)) := by rw [e_h94, va_up_neq (nek (a := 60) (b := 81) (by decide))]; exact F_h90__k_60_
  have F_h94__k_61_ : h94 (k + 61) = .inl (1, 53, .inl (fun _ => 0)) := by rw [e_h94, va_up_neq (nek (a := 61) (b := 81) (by decide))]; exact F_h90__k_61_
  have F_h94__k_62_ : h94 (k + 62) = .inl (1, 53, .inl (fun _ => 0)) := by rw [e_h94, va_up_neq (nek (a := 62) (b := 81) (by decide))]; exact F_h90__k_62_
  have F_h94__k_63_ : h94 (k + 63) = .inl (1, 53, .inl (fun _ => 0)) := by rw [e_h94, va_up_neq (nek (a := 63) (b := 81) (by decide))]; exact F_h90__k_63_
  have F_h94__k_64_ : h94 (k + 64) = .inl (1, 512, .inl (fun _ => 0)) := by rw [e_h94, va_up_neq (nek (a := 64) (b := 81) (by decide))]; exact F_h90__k_64_
  have F_h94__k_65_ : h94 (k + 65) = .inl (1, 512, .inl (fun _ => 0)) := by rw [e_h94, va_up_neq (nek (a := 65) (b := 81) (by decide))]; exact F_h90__k_65_
  have F_h94__k_66_ : h94 (k + 66) = .inl (1, 3, .inl lat0) := by rw [e_h94, va_up_neq (nek (a := 66) (b := 81) (by decide))]; exact F_h90__k_66_
  have F_h94__k_67_ : h94 (k + 67) = .inr (2, [.ref (k + 68), .ref (k + 69), .ref (k + 70), .ref (k + 77), .ref (k + 79)]) := by rw [e_h94, va_up_neq (nek (a := 67) (b := 81) (by decide))]; exact F_h90__k_67_
  have F_h94__k_68_ : h94 (k + 68) = .inl (1, 256, .inl (fun _ => 0)) := by rw [e_h94, va_up_neq (nek (a := 68) (b := 81) (by decide))]; exact F_h90__k_68_
  have F_h94__k_69_ : h94 (k + 69) = .inl (1, 12, .inl (fun _ => 0)) := by rw [e_h94, va_up_neq (nek (a := 69) (b := 81) (by decide))]; exact F_h90__k_69_
  have F_h94__k_70_ : h94 (k + 70) = .inr (8, [.int 11, .ref (k + 71), .ref (k + 72), .ref (k + 73), .ref (k + 74), .ref (k + 75), .ref (k + 76), .int 0, .int 0]) := by rw [e_h94, va_up_neq (nek (a := 70) (b := 81) (by decide))]; exact F_h90__k_70_
  have F_h94__k_71_ : h94 (k + 71) = .inl (1, 12, .inl (fun _ => 0)) := by rw [e_h94, va_up_neq (nek (a := 71) (b := 81) (by decide))]; exact F_h90__k_71_
  have F_h94__k_72_ : h94 (k + 72) = .inl (1, 12, .inl (fun _ => 0)) := by rw [e_h94, va_up_neq (nek (a := 72) (b := 81) (by decide))]; exact F_h90__k_72_
  have F_h94__k_73_ : h94 (k + 73) = .inl (1, 12, .inl (fun _ => 0)) := by rw [e_h94, va_up_neq (nek (a := 73) (b := 81) (by decide))]; exact F_h90__k_73_
  have F_h94__k_74_ : h94 (k + 74) = .inl (1, 12, .inl (fun _ => 0)) := by rw [e_h94, va_up_neq (nek (a := 74) (b := 81) (by decide))]; exact F_h90__k_74_
  have F_h94__k_75_ : h94 (k + 75) = .inl (1, 64, .inl (fun _ => 0)) := by rw [e_h94, va_up_neq (nek (a := 75) (b := 81) (by decide))]; exact F_h90__k_75_
  have F_h94__k_76_ : h94 (k + 76) = .inl (1, 64, .inl (fun _ => 0)) := by rw [e_h94, va_up_neq (nek (a := 76) (b := 81) (by decide))]; exact F_h90__k_76_
  have F_h94__k_77_ : h94 (k + 77) = .inr (7, [.ref (k + 78), .int 0, .int 0, .long 0, .int 0]) := by rw [e_h94, va_up_neq (nek (a := 77) (b := 81) (by decide))]; exact F_h90__k_77_
  have F_h94__k_78_ : h94 (k + 78) = .inl (0, 512, .inl (fun _ => 0)) := by rw [e_h94, va_up_neq (nek (a := 78) (b := 81) (by decide))]; exact F_h90__k_78_
  have F_h94__k_79_ : h94 (k + 79) = .inr (7, [.ref (k + 80), .int 0, .int 0, .long 0, .int 0]) := by rw [e_h94, va_up_neq (nek (a := 79) (b := 81) (by decide))]; exact F_h90__k_79_
  have F_h94__k_80_ : h94 (k + 80) = .inl (0, 512, .inl (fun _ => 0)) := by rw [e_h94, va_up_neq (nek (a := 80) (b := 81) (by decide))]; exact F_h90__k_80_
  have F_h94__k_81_ : h94 (k + 81) = .inr (6, zX6) := by rw [e_h94]; exact va_up_eq
  have FR_h94 : ∀ j, j < k ∨ aBig ≤ j → h94 j = h j := fun j hj => by rw [e_h94]; exact (va_up_neq (frne (a := 81) hj hbig (by decide))).trans (FR_h90 j hj)
  clear F_h90_k F_h90__k_1_ F_h90__k_2_ F_h90__k_3_ F_h90__k_4_ F_h90__k_5_ F_h90__k_6_ F_h90__k_7_ F_h90__k_8_ F_h90__k_9_ F_h90__k_10_ F_h90__k_11_ F_h90__k_12_ F_h90__k_13_ F_h90__k_14_ F_h90__k_15_ F_h90__k_16_ F_h90__k_17_ F_h90__k_18_ F_h90__k_19_ F_h90__k_20_ F_h90__k_21_ F_h90__k_22_ F_h90__k_23_ F_h90__k_24_ F_h90__k_25_ F_h90__k_26_ F_h90__k_27_ F_h90__k_28_ F_h90__k_29_ F_h90__k_30_ F_h90__k_31_ F_h90__k_32_ F_h90__k_33_ F_h90__k_34_ F_h90__k_35_ F_h90__k_36_ F_h90__k_37_ F_h90__k_38_ F_h90__k_39_ F_h90__k_40_ F_h90__k_41_ F_h90__k_42_ F_h90__k_43_ F_h90__k_44_ F_h90__k_45_ F_h90__k_46_ F_h90__k_47_ F_h90__k_48_ F_h90__k_49_ F_h90__k_50_ F_h90__k_51_ F_h90__k_52_ F_h90__k_53_ F_h90__k_54_ F_h90__k_55_ F_h90__k_56_ F_h90__k_57_ F_h90__k_58_ F_h90__k_59_ F_h90__k_60_ F_h90__k_61_ F_h90__k_62_ F_h90__k_63_ F_h90__k_64_ F_h90__k_65_ F_h90__k_66_ F_h90__k_67_ F_h90__k_68_ F_h90__k_69_ F_h90__k_70_ F_h90__k_71_ F_h90__k_72_ F_h90__k_73_ F_h90__k_74_ F_h90__k_75_ F_h90__k_76_ F_h90__k_77_ F_h90__k_78_ F_h90__k_79_ F_h90__k_80_ FR_h90 e_h94
  clear h90
  refine WX.s1 rfl rfl ?_
  refine WX.s1 rfl rfl ?_
  refine WX.get1 (fs := [.ref (k + 1), .ref (k + 3), .ref (k + 5), .ref (k + 7), .long 0, .ref (k + 9), .ref (k + 38), .ref (k + 67), .null, .null, .int 0, .int 0]) rfl (ltk0 (c := 82) (by decide)) (F_h94_k) rfl ?_
  refine WX.callC (vs := [.ref (k + 81), .ref (k + 67)]) rfl rfl rfl (Nat.le_of_ble_eq_true rfl) (rcv_ok (ltk (a := 81) (c := 82) (by decide)) F_h94__k_81_) ?_
  refine n_packS (k := k + 81) (bigk (k := k) (a := 190) hbig (by decide)) F_h94__k_81_ ((FR_h94 _ (Or.inr (Nat.le_add_right _ _))).trans K0) hK0 kb0 ((FR_h94 _ (Or.inr (Nat.le_add_right _ _))).trans K1) hK1 kb1 ((FR_h94 _ (Or.inr (Nat.le_add_right _ _))).trans K2) hK2 kb2 (fun h102 pA fA wA oA sA pB fB wB oB sB pC fC wC oC sC tA tB tC fr102 cs102 => ?_)
  have F_h102_k : h102 k = .inr (10, [.ref (k + 1), .ref (k + 3), .ref (k + 5), .ref (k + 7), .long 0, .ref (k + 9), .ref (k + 38), .ref (k + 67), .null, .null, .int 0, .int 0]) := (fr102 k (Or.inl (ltk0 (c := 81) (by decide)))).trans F_h94_k
  have F_h102__k_1_ : h102 (k + 1) = .inr (7, [.ref (k + 2), .int 0, .int 0, .long 0, .int 0]) := (fr102 (k + 1) (Or.inl (ltk (a := 1) (c := 81) (by decide)))).trans F_h94__k_1_
  have F_h102__k_2_ : h102 (k + 2) = .inl (0, 8000, .inl (fun _ => 0)) := (fr102 (k + 2) (Or.inl (ltk (a := 2) (c := 81) (by decide)))).trans F_h94__k_2_
  have F_h102__k_3_ : h102 (k + 3) = .inr (7, [.ref (k + 4), .int 0, .int 0, .long 0, .int 0]) := (fr102 (k + 3) (Or.inl (ltk (a := 3) (c := 81) (by decide)))).trans F_h94__k_3_
  have F_h102__k_4_ : h102 (k + 4) = .inl (0, 12000, .inl (fun _ => 0)) := (fr102 (k + 4) (Or.inl (ltk (a := 4) (c := 81) (by decide)))).trans F_h94__k_4_
  have F_h102__k_5_ : h102 (k + 5) = .inr (7, [.ref (k + 6), .int 0, .int 0, .long 0, .int 0]) := (fr102 (k + 5) (Or.inl (ltk (a := 5) (c := 81) (by decide)))).trans F_h94__k_5_
  have F_h102__k_6_ : h102 (k + 6) = .inl (0, 12000, .inl (fun _ => 0)) := (fr102 (k + 6) (Or.inl (ltk (a := 6) (c := 81) (by decide)))).trans F_h94__k_6_
  have F_h102__k_7_ : h102 (k + 7) = .inr (7, [.ref (k + 8), .int 0, .int 0, .long 0, .int 0]) := (fr102 (k + 7) (Or.inl (ltk (a := 7) (c := 81) (by decide)))).trans F_h94__k_7_
  have F_h102__k_8_ : h102 (k + 8) = .inl (0, 8000, .inl (fun _ => 0)) := (fr102 (k + 8) (Or.inl (ltk (a := 8) (c := 81) (by decide)))).trans F_h94__k_8_
  have F_h102__k_9_ : h102 (k + 9) = .inr (9, [.ref (k + 10), .ref (k + 12), .ref (k + 16), .ref (k + 23), .ref (k + 30), .ref (k + 37)]) := (fr102 (k + 9) (Or.inl (ltk (a := 9) (c := 81) (by decide)))).trans F_h94__k_9_
  have F_h102__k_10_ : h102 (k + 10) = .inr (7, [.ref (k + 11), .int 0, .int 0, .long 0, .int 0]) := (fr102 (k + 10) (Or.inl (ltk (a := 10) (c := 81) (by decide)))).trans F_h94__k_10_
  have F_h102__k_11_ : h102 (k + 11) = .inl (0, 0, .inl (fun _ => 0)) := (fr102 (k + 11) (Or.inl (ltk (a := 11) (c := 81) (by decide)))).trans F_h94__k_11_
  have F_h102__k_12_ : h102 (k + 12) = .inr (0, [.ref (k + 13), .ref (k + 14), .ref (k + 15), .int 0, .int 0]) := (fr102 (k + 12) (Or.inl (ltk (a := 12) (c := 81) (by decide)))).trans F_h94__k_12_
  have F_h102__k_13_ : h102 (k + 13) = .inl (1, 256, .inl (fun _ => 0)) := (fr102 (k + 13) (Or.inl (ltk (a := 13) (c := 81) (by decide)))).trans F_h94__k_13_
  have F_h102__k_14_ : h102 (k + 14) = .inl (1, 256, .inl (fun _ => 0)) := (fr102 (k + 14) (Or.inl (ltk (a := 14) (c := 81) (by decide)))).trans F_h94__k_14_
  have F_h102__k_15_ : h102 (k + 15) = .inl (1, 13, .inl (fun _ => 0)) := (fr102 (k + 15) (Or.inl (ltk (a := 15) (c := 81) (by decide)))).trans F_h94__k_15_
  have F_h102__k_16_ : h102 (k + 16) = .inr (8, [.int 35, .ref (k + 17), .ref (k + 18), .ref (k + 19), .ref (k + 20), .ref (k + 21), .ref (k + 22), .int 0, .int 0]) := (fr102 (k + 16) (Or.inl (ltk (a := 16) (c := 81) (by decide)))).trans F_h94__k_16_
  have F_h102__k_17_ : h102 (k + 17) = .inl (1, 36, .inl (fun _ => 0)) := (fr102 (k + 17) (Or.inl (ltk (a := 17) (c := 81) (by decide)))).trans F_h94__k_17_
  have F_h102__k_18_ : h102 (k + 18) = .inl (1, 36, .inl (fun _ => 0)) := (fr102 (k + 18) (Or.inl (ltk (a := 18) (c := 81) (by decide)))).trans F_h94__k_18_
  have F_h102__k_19_ : h102 (k + 19) = .inl (1, 36, .inl (fun _ => 0)) := (fr102 (k + 19) (Or.inl (ltk (a := 19) (c := 81) (by decide)))).trans F_h94__k_19_
  have F_h102__k_20_ : h102 (k + 20) = .inl (1, 36, .inl (fun _ => 0)) := (fr102 (k + 20) (Or.inl (ltk (a := 20) (c := 81) (by decide)))).trans F_h94__k_20_
  have F_h102__k_21_ : h102 (k + 21) = .inl (1, 512, .inl (fun _ => 0)) := (fr102 (k + 21) (Or.inl (ltk (a := 21) (c := 81) (by decide)))).trans F_h94__k_21_
  have F_h102__k_22_ : h102 (k + 22) = .inl (1, 512, .inl (fun _ => 0)) := (fr102 (k + 22) (Or.inl (ltk (a := 22) (c := 81) (by decide)))).trans F_h94__k_22_
  have F_h102__k_23_ : h102 (k + 23) = .inr (8, [.int 31, .ref (k + 24), .ref (k + 25), .ref (k + 26), .ref (k + 27), .ref (k + 28), .ref (k + 29), .int 0, .int 0]) := (fr102 (k + 23) (Or.inl (ltk (a := 23) (c := 81) (by decide)))).trans F_h94__k_23_
  have F_h102__k_24_ : h102 (k + 24) = .inl (1, 32, .inl (fun _ => 0)) := (fr102 (k + 24) (Or.inl (ltk (a := 24) (c := 81) (by decide)))).trans F_h94__k_24_
  have F_h102__k_25_ : h102 (k + 25) = .inl (1, 32, .inl (fun _ => 0)) := (fr102 (k + 25) (Or.inl (ltk (a := 25) (c := 81) (by decide)))).trans F_h94__k_25_
  have F_h102__k_26_ : h102 (k + 26) = .inl (1, 32, .inl (fun _ => 0)) := (fr102 (k + 26) (Or.inl (ltk (a := 26) (c := 81) (by decide)))).trans F_h94__k_26_
  have F_h102__k_27_ : h102 (k + 27) = .inl (1, 32, .inl (fun _ => 0)) := (fr102 (k + 27) (Or.inl (ltk (a := 27) (c := 81) (by decide)))).trans F_h94__k_27_
  have F_h102__k_28_ : h102 (k + 28) = .inl (1, 256, .inl (fun _ => 0)) := (fr102 (k + 28) (Or.inl (ltk (a := 28) (c := 81) (by decide)))).trans F_h94__k_28_
  have F_h102__k_29_ : h102 (k + 29) = .inl (1, 256, .inl (fun _ => 0)) := (fr102 (k + 29) (Or.inl (ltk (a := 29) (c := 81) (by decide)))).trans F_h94__k_29_
  have F_h102__k_30_ : h102 (k + 30) = .inr (8, [.int 52, .ref (k + 31), .ref (k + 32), .ref (k + 33), .ref (k + 34), .ref (k + 35), .ref (k + 36), .int 0, .int 0]) := (fr102 (k + 30) (Or.inl (ltk (a := 30) (c := 81) (by decide)))).trans F_h94__k_30_
  have F_h102__k_31_ : h102 (k + 31) = .inl (1, 53, .inl (fun _ => 0)) := (fr102 (k + 31) (Or.inl (ltk (a := 31) (c := 81) (by decide)))).trans F_h94__k_31_
  have F_h102__k_32_ : h102 (k + 32) = .inl (1, 53, .inl (fun _ => 0)) := (fr102 (k + 32) (Or.inl (ltk (a := 32) (c := 81) (by decide)))).trans F_h94__k_32_
  have F_h102__k_33_ : h102 (k + 33) = .inl (1, 53, .inl (fun _ => 0)) := (fr102 (k + 33) (Or.inl (ltk (a := 33) (c := 81) (by decide)))).trans F_h94__k_33_
  have F_h102__k_34_ : h102 (k + 34) = .inl (1, 53, .inl (fun _ => 0)) := (fr102 (k + 34) (Or.inl (ltk (a := 34) (c := 81) (by decide)))).trans F_h94__k_34_
  have F_h102__k_35_ : h102 (k + 35) = .inl (1, 512, .inl (fun _ => 0)) := (fr102 (k + 35) (Or.inl (ltk (a := 35) (c := 81) (by decide)))).trans F_h94__k_35_
  have F_h102__k_36_ : h102 (k + 36) = .inl (1, 512, .inl (fun _ => 0)) := (fr102 (k + 36) (Or.inl (ltk (a := 36) (c := 81) (by decide)))).trans F_h94__k_36_
  have F_h102__k_37_ : h102 (k + 37) = .inl (1, 3, .inl lat0) := (fr102 (k + 37) (Or.inl (ltk (a := 37) (c := 81) (by decide)))).trans F_h94__k_37_
  have F_h102__k_38_ : h102 (k + 38) = .inr (9, [.ref (k + 39), .ref (k + 41), .ref (k + 45), .ref (k + 52), .ref (k + 59), .ref (k + 66)]) := (fr102 (k + 38) (Or.inl (ltk (a := 38) (c := 81) (by decide)))).trans F_h94__k_38_
  have F_h102__k_39_ : h102 (k + 39) = .inr (7, [.ref (k + 40), .int 0, .int 0, .long 0, .int 0]) := (fr102 (k + 39) (Or.inl (ltk (a := 39) (c := 81) (by decide)))).trans F_h94__k_39_
  have F_h102__k_40_ : h102 (k + 40) = .inl (0, 0, .inl (fun _ => 0)) := (fr102 (k + 40) (Or.inl (ltk (a := 40) (c := 81) (by decide)))).trans F_h94__k_40_
  have F_h102__k_41_ : h102 (k + 41) = .inr (0, [.ref (k + 42), .ref (k + 43), .ref (k + 44), .int 0, .int 0]) := (fr102 (k + 41) (Or.inl (ltk (a := 41) (c := 81) (by decide)))).trans F_h94__k_41_
  have F_h102__k_42_ : h102 (k + 42) = .inl (1, 256, .inl (fun _ => 0)) := (fr102 (k + 42) (Or.inl (ltk (a := 42) (c := 81) (by decide)))).trans F_h94__k_42_
  have F_h102__k_43_ : h102 (k + 43) = .inl (1, 256, .inl (fun _ => 0)) := (fr102 (k + 43) (Or.inl (ltk (a := 43) (c := 81) (by decide)))).trans F_h94__k_43_
  have F_h102__k_44_ : h102 (k + 44) = .inl (1, 13, .inl (fun _ => 0)) := (fr102 (k + 44) (Or.inl (ltk (a := 44) (c := 81) (by decide)))).trans F_h94__k_44_
  have F_h102__k_45_ : h102 (k + 45) = .inr (8, [.int 35, .ref (k + 46), .ref (k + 47), .ref (k + 48), .ref (k + 49), .ref (k + 50), .ref (k + 51), .int 0, .int 0]) := (fr102 (k + 45) (Or.inl (ltk (a := 45) (c := 81) (by decide)))).trans F_h94__k_45_
  have F_h102__k_46_ : h102 (k + 46) = .inl (1, 36, .inl (fun _ => 0)) := (fr102 (k + 46) (Or.inl (ltk (a := 46) (c := 81) (by decide)))).trans F_h94__k_46_
  have F_h102__k_47_ : h102 (k + 47) = .inl (1, 36, .inl (fun _ => 0)) := (fr102 (k + 47) (Or.inl (ltk (a := 47) (c := 81) (by decide)))).trans F_h94__k_47_
  have F_h102__k_48_ : h102 (k + 48) = .inl (1, 36, .inl (fun _ => 0)) := (fr102 (k + 48) (Or.inl (ltk (a := 48) (c := 81) (by decide)))).trans F_h94__k_48_
  have F_h102__k_49_ : h102 (k + 49) = .inl (1, 36, .inl (fun _ => 0)) := (fr102 (k + 49) (Or.inl (ltk (a := 49) (c := 81) (by decide)))).trans F_h94__k_49_
  have F_h102__k_50_ : h102 (k + 50) = .inl (1, 512, .inl (fun _ => 0)) := (fr102 (k + 50) (Or.inl (ltk (a := 50) (c := 81) (by decide)))).trans F_h94__k_50_
  have F_h102__k_51_ : h102 (k + 51) = .inl (1, 512, .inl (fun _ => 0)) := (fr102 (k + 51) (Or.inl (ltk (a := 51) (c := 81) (by decide)))).trans F_h94__k_51_
  have F_h102__k_52_ : h102 (k + 52) = .inr (8, [.int 31, .ref (k + 53), .ref (k + 54), .ref (k + 55), .ref (k + 56), .ref (k + 57), .ref (k + 58), .int 0, .int 0]) := (fr102 (k + 52) (Or.inl (ltk (a := 52) (c := 81) (by decide)))).trans F_h94__k_52_
  have F_h102__k_53_ : h102 (k + 53) = .inl (1, 32, .inl (fun _ => 0)) := (fr102 (k + 53) (Or.inl (ltk (a := 53) (c := 81) (by decide)))).trans F_h94__k_53_
  have F_h102__k_54_ : h102 (k + 54) = .inl (1, 32, .inl (fun _ => 0)) := (fr102 (k + 54) (Or.inl (ltk (a := 54) (c := 81) (by decide)))).trans F_h94__k_54_
  have F_h102__k_55_ : h102 (k + 55) = .inl (1, 32, .inl (fun _ => 0)) := (fr102 (k + 55) (Or.inl (ltk (a := 55) (c := 81) (by decide)))).trans F_h94__k_55_
  have F_h102__k_56_ : h102 (k + 56) = .inl (1, 32, .inl (fun _ => 0)) := (fr102 (k + 56) (Or.inl (ltk (a := 56) (c := 81) (by decide)))).trans F_h94__k_56_
  have F_h102__k_57_ : h102 (k + 57) = .inl (1, 256, .inl (fun _ => 0)) := (fr102 (k + 57) (Or.inl (ltk (a := 57) (c := 81) (by decide)))).trans F_h94__k_57_
  have F_h102__k_58_ : h102 (k + 58) = .inl (1, 256, .inl (fun _ => 0)) := (fr102 (k + 58) (Or.inl (ltk (a := 58) (c := 81) (by decide)))).trans F_h94__k_58_
  have F_h102__k_59_ : h102 (k + 59) = .inr (8, [.int 52, .ref (k + 60), .ref (k + 61), .ref (k + 62), .ref (k + 63), .ref (k + 64), .ref (k + 65), .int 0, .int 0]) := (fr102 (k + 59) (Or.inl (ltk (a := 59) (c := 81) (by decide)))).trans F_h94__k_59_
  have F_h102__k_60_ : h102 (k + 60) = .inl (1, 53, .inl (fun _ => 0)) := (fr102 (k + 60) (Or.inl (ltk (a := 60) (c := 81) (by decide)))).trans F_h94__k_60_
  have F_h102__k_61_ : h102 (k + 61) = .inl (1, 53, .inl (fun _ => 0)) := (fr102 (k + 61) (Or.inl (ltk (a := 61) (c := 81) (by decide)))).trans F_h94__k_61_
  have F_h102__k_62_ : h102 (k + 62) = .inl (1, 53, .inl (fun _ => 0)) := (fr102 (k + 62) (Or.inl (ltk (a := 62) (c := 81) (by decide)))).trans F_h94__k_62_
  have F_h102__k_63_ : h102 (k + 63) = .inl (1, 53, .inl (fun _ => 0)) := (fr102 (k + 63) (Or.inl (ltk (a := 63) (c := 81) (by decide)))).trans F_h94__k_63_
  have F_h102__k_64_ : h102 (k + 64) = .inl (1, 512, .inl (fun _ => 0)) := (fr102 (k + 64) (Or.inl (ltk (a := 64) (c := 81) (by decide)))).trans F_h94__k_64_
  have F_h102__k_65_ : h102 (k + 65) = .inl (1, 512, .inl (fun _ => 0)) := (fr102 (k + 65) (Or.inl (ltk (a := 65) (c := 81) (by decide)))).trans F_h94__k_65_
  have F_h102__k_66_ : h102 (k + 66) = .inl (1, 3, .inl lat0) := (fr102 (k + 66) (Or.inl (ltk (a := 66) (c := 81) (by decide)))).trans F_h94__k_66_
  have F_h102__k_67_ : h102 (k + 67) = .inr (2, [.ref (k + 68), .ref (k + 69), .ref (k + 70), .ref (k + 77), .ref (k + 79)]) := (fr102 (k + 67) (Or.inl (ltk (a := 67) (c := 81) (by decide)))).trans F_h94__k_67_
  have F_h102__k_68_ : h102 (k + 68) = .inl (1, 256, .inl (fun _ => 0)) := (fr102 (k + 68) (Or.inl (ltk (a := 68) (c := 81) (by decide)))).trans F_h94__k_68_
  have F_h102__k_69_ : h102 (k + 69) = .inl (1, 12, .inl (fun _ => 0)) := (fr102 (k + 69) (Or.inl (ltk (a := 69) (c := 81) (by decide)))).trans F_h94__k_69_
  have F_h102__k_70_ : h102 (k + 70) = .inr (8, [.int 11, .ref (k + 71), .ref (k + 72), .ref (k + 73), .ref (k + 74), .ref (k + 75), .ref (k + 76), .int 0, .int 0]) := (fr102 (k + 70) (Or.inl (ltk (a := 70) (c := 81) (by decide)))).trans F_h94__k_70_
  have F_h102__k_71_ : h102 (k + 71) = .inl (1, 12, .inl (fun _ => 0)) := (fr102 (k + 71) (Or.inl (ltk (a := 71) (c := 81) (by decide)))).trans F_h94__k_71_
  have F_h102__k_72_ : h102 (k + 72) = .inl (1, 12, .inl (fun _ => 0)) := (fr102 (k + 72) (Or.inl (ltk (a := 72) (c := 81) (by decide)))).trans F_h94__k_72_
  have F_h102__k_73_ : h102 (k + 73) = .inl (1, 12, .inl (fun _ => 0)) := (fr102 (k + 73) (Or.inl (ltk (a := 73) (c := 81) (by decide)))).trans F_h94__k_73_
  have F_h102__k_74_ : h102 (k + 74) = .inl (1, 12, .inl (fun _ => 0)) := (fr102 (k + 74) (Or.inl (ltk (a := 74) (c := 81) (by decide)))).trans F_h94__k_74_
  have F_h102__k_75_ : h102 (k + 75) = .inl (1, 64, .inl (fun _ => 0)) := (fr102 (k + 75) (Or.inl (ltk (a := 75) (c := 81) (by decide)))).trans F_h94__k_75_
  have F_h102__k_76_ : h102 (k + 76) = .inl (1, 64, .inl (fun _ => 0)) := (fr102 (k + 76) (Or.inl (ltk (a := 76) (c := 81) (by decide)))).trans F_h94__k_76_
  have F_h102__k_77_ : h102 (k + 77) = .inr (7, [.ref (k + 78), .int 0, .int 0, .long 0, .int 0]) := (fr102 (k + 77) (Or.inl (ltk (a := 77) (c := 81) (by decide)))).trans F_h94__k_77_
  have F_h102__k_78_ : h102 (k + 78) = .inl (0, 512, .inl (fun _ => 0)) := (fr102 (k + 78) (Or.inl (ltk (a := 78) (c := 81) (by decide)))).trans F_h94__k_78_
  have F_h102__k_79_ : h102 (k + 79) = .inr (7, [.ref (k + 80), .int 0, .int 0, .long 0, .int 0]) := (fr102 (k + 79) (Or.inl (ltk (a := 79) (c := 81) (by decide)))).trans F_h94__k_79_
  have F_h102__k_80_ : h102 (k + 80) = .inl (0, 512, .inl (fun _ => 0)) := (fr102 (k + 80) (Or.inl (ltk (a := 80) (c := 81) (by decide)))).trans F_h94__k_80_
  have F_h102__k_81_ : h102 (k + 81) = .inr (6, [.ref (k + 82), .ref (k + 89), .ref (k + 108), .ref (k + 135), .ref (k + 162), .ref (k + 86), .ref (k + 87), .int 0, .ref (k + 88)]) := cs102.1
  have F_h102__k_82_ : h102 (k + 82) = .inr (3, [.ref (k + 83), .int 0, .ref (k + 84), .ref (k + 85), .int 0, .int 0, .int 0, .int 0, .int 0, .int 0, .int 0, .int 0, .int 0]) := cs102.2.1
  have F_h102__k_83_ : h102 (k + 83) = .inl (0, 16000, .inl (fun _ => 0)) := cs102.2.2.1
  have F_h102__k_84_ : h102 (k + 84) = .inl (1, 16000, .inl (fun _ => 0)) := cs102.2.2.2.1
  have F_h102__k_85_ : h102 (k + 85) = .inl (1, 4096, .inl (fun _ => 0)) := cs102.2.2.2.2.1
  have F_h102__k_86_ : h102 (k + 86) = .inl (1, 3, .inl (fun _ => 0)) := cs102.2.2.2.2.2.1
  have F_h102__k_87_ : h102 (k + 87) = .inl (1, 3, .inl (fun _ => 0)) := cs102.2.2.2.2.2.2.1
  have F_h102__k_88_ : h102 (k + 88) = .inl (1, 12, .inl (fun _ => 0)) := cs102.2.2.2.2.2.2.2.1
  have F_h102__k_89_ : h102 (k + 89) = .inr (5, [.ref (k + 90), .ref (k + 91), .int 0, .ref (k + 92), .ref (k + 96), .ref (k + 100), .ref (k + 67), .ref (k + 106), .int 0, .int 0, .int 0, .int 0]) := cs102.2.2.2.2.2.2.2.2.1
  have F_h102__k_90_ : h102 (k + 90) = .inl (0, 8000, .inl (fun _ => 0)) := cs102.2.2.2.2.2.2.2.2.2.1
  have F_h102__k_91_ : h102 (k + 91) = .inl (1, 256, .inl (fun _ => 0)) := cs102.2.2.2.2.2.2.2.2.2.2.1
  have F_h102__k_92_ : h102 (k + 92) = .inr (0, [.ref (k + 93), .ref (k + 94), .ref (k + 95), .int 0, .int 0]) := cs102.2.2.2.2.2.2.2.2.2.2.2.1
  have F_h102__k_93_ : h102 (k + 93) = .inl (1, 256, .inl (fun _ => 0)) := cs102.2.2.2.2.2.2.2.2.2.2.2.2.1
  have F_h102__k_94_ : h102 (k + 94) = .inl (1, 256, .inl (fun _ => 0)) := cs102.2.2.2.2.2.2.2.2.2.2.2.2.2.1
  have F_h102__k_95_ : h102 (k + 95) = .inl (1, 13, .inl (fun _ => 0)) := cs102.2.2.2.2.2.2.2.2.2.2.2.2.2.2.1
  have F_h102__k_96_ : h102 (k + 96) = .inr (0, [.ref (k + 97), .ref (k + 98), .ref (k + 99), .int 0, .int 0]) := cs102.2.2.2.2.2.2.2.2.2.2.2.2.2.2.2.1
  have F_h102__k_97_ : h102 (k + 97) = .inl (1, 256, .inl (fun _ => 0)) := cs102.2.2.2.2.2.2.2.2.2.2.2.2.2.2.2.2.1
  have F_h102__k_98_ : h102 (k + 98) = .inl (1, 256, .inl (fun _ => 0)) := cs102.2.2.2.2.2.2.2.2.2.2.2.2.2.2.2.2.2.1
  have F_h102__k_99_ : h102 (k + 99) = .inl (1, 13, .inl (fun _ => 0)) := cs102.2.2.2.2.2.2.2.2.2.2.2.2.2.2.2.2.2.2.1
  have F_h102__k_100_ : h102 (k + 100) = .inr (4, [.ref (k + 101), .ref (k + 102), .ref (k + 103), .ref (k + 104), .ref (k + 105)]) := cs102.2.2.2.2.2.2.2.2.2.2.2.2.2.2.2.2.2.2.2.1
  have F_h102__k_101_ : h102 (k + 101) = .inl (1, 256, .inl (fun _ => 0)) := cs102.2.2.2.2.2.2.2.2.2.2.2.2.2.2.2.2.2.2.2.2.1
  have F_h102__k_102_ : h102 (k + 102) = .inl (1, 256, .inl (fun _ => 0)) := cs102.2.2.2.2.2.2.2.2.2.2.2.2.2.2.2.2.2.2.2.2.2.1
  have F_h102__k_103_ : h102 (k + 103) = .inl (1, 512, .inl (fun _ => 0)) := cs102.2.2.2.2.2.2.2.2.2.2.2.2.2.2.2.2.2.2.2.2.2.2.1
  have F_h102__k_104_ : h102 (k + 104) = .inl (1, 512, .inl (fun _ => 0)) := cs102.2.2.2.2.2.2.2.2.2.2.2.2.2.2.2.2.2.2.2.2.2.2.2.1
  have F_h102__k_105_ : h102 (k + 105) = .inl (1, 512, .inl (fun _ => 0)) := cs102.2.2.2.2.2.2.2.2.2.2.2.2.2.2.2.2.2.2.2.2.2.2.2.2.1
  have F_h102__k_106_ : h102 (k + 106) = .inr (7, [.ref (k + 107), .int 0, .int 0, .long 0, .int 0]) := cs102.2.2.2.2.2.2.2.2.2.2.2.2.2.2.2.2.2.2.2.2.2.2.2.2.2.1
  have F_h102__k_107_ : h102 (k + 107) = .inl (0, 256, .inl (fun _ => 0)) := cs102.2.2.2.2.2.2.2.2.2.2.2.2.2.2.2.2.2.2.2.2.2.2.2.2.2.2.1
  have F_h102__k_108_ : h102 (k + 108) = .inr (1, [.ref (aBig + 3), .ref (aBig + 4), .int 9, .ref (k + 109), .ref (k + 110), .ref (k + 113), .int 0, .int 0, .int 0, .ref (k + 114), .ref (k + 121), .ref (k + 128), .ref (k + 114), .ref (k + 111), .int 0, .int 0, .int 0, .int 0]) := cs102.2.2.2.2.2.2.2.2.2.2.2.2.2.2.2.2.2.2.2.2.2.2.2.2.2.2.2.1
  have F_h102__k_109_ : h102 (k + 109) = .inl (1, 2667, .inl (fun _ => 0)) := cs102.2.2.2.2.2.2.2.2.2.2.2.2.2.2.2.2.2.2.2.2.2.2.2.2.2.2.2.2.1
  have F_h102__k_110_ : h102 (k + 110) = .inl (1, 2667, .inl (fun _ => 0)) := cs102.2.2.2.2.2.2.2.2.2.2.2.2.2.2.2.2.2.2.2.2.2.2.2.2.2.2.2.2.2.1
  have F_h102__k_111_ : h102 (k + 111) = .inr (7, [.ref (k + 112), .int 0, .int 0, .long 0, .int 0]) := cs102.2.2.2.2.2.2.2.2.2.2.2.2.2.2.2.2.2.2.2.2.2.2.2.2.2.2.2.2.2.2.1
  have F_h102__k_112_ : h102 (k + 112) = .inl (0, 128, .inl (fun _ => 0)) := cs102.2.2.2.2.2.2.2.2.2.2.2.2.2.2.2.2.2.2.2.2.2.2.2.2.2.2.2.2.2.2.2.1
  have F_h102__k_113_ : h102 (k + 113) = .inl (1, 36, .inl (fun _ => 0)) := cs102.2.2.2.2.2.2.2.2.2.2.2.2.2.2.2.2.2.2.2.2.2.2.2.2.2.2.2.2.2.2.2.2.1
  have F_h102__k_114_ : h102 (k + 114) = .inr (8, [.int 35, .ref (k + 115), .ref (k + 116), .ref (k + 117), .ref (k + 118), .ref (k + 119), .ref (k + 120), .int 6, .int 1]) := cs102.2.2.2.2.2.2.2.2.2.2.2.2.2.2.2.2.2.2.2.2.2.2.2.2.2.2.2.2.2.2.2.2.2.1
  have F_h102__k_115_ : h102 (k + 115) = .inl (1, 36, .inl pA) := cs102.2.2.2.2.2.2.2.2.2.2.2.2.2.2.2.2.2.2.2.2.2.2.2.2.2.2.2.2.2.2.2.2.2.2.1
  have F_h102__k_116_ : h102 (k + 116) = .inl (1, 36, .inl (fun _ => 0)) := cs102.2.2.2.2.2.2.2.2.2.2.2.2.2.2.2.2.2.2.2.2.2.2.2.2.2.2.2.2.2.2.2.2.2.2.2.1
  have F_h102__k_117_ : h102 (k + 117) = .inl (1, 36, .inl fA) := cs102.2.2.2.2.2.2.2.2.2.2.2.2.2.2.2.2.2.2.2.2.2.2.2.2.2.2.2.2.2.2.2.2.2.2.2.2.1
  have F_h102__k_118_ : h102 (k + 118) = .inl (1, 36, .inl wA) := cs102.2.2.2.2.2.2.2.2.2.2.2.2.2.2.2.2.2.2.2.2.2.2.2.2.2.2.2.2.2.2.2.2.2.2.2.2.2.1
  have F_h102__k_119_ : h102 (k + 119) = .inl (1, 512, .inl oA) := cs102.2.2.2.2.2.2.2.2.2.2.2.2.2.2.2.2.2.2.2.2.2.2.2.2.2.2.2.2.2.2.2.2.2.2.2.2.2.2.1
  have F_h102__k_120_ : h102 (k + 120) = .inl (1, 512, .inl sA) := cs102.2.2.2.2.2.2.2.2.2.2.2.2.2.2.2.2.2.2.2.2.2.2.2.2.2.2.2.2.2.2.2.2.2.2.2.2.2.2.2.1
  have F_h102__k_121_ : h102 (k + 121) = .inr (8, [.int 35, .ref (k + 122), .ref (k + 123), .ref (k + 124), .ref (k + 125), .ref (k + 126), .ref (k + 127), .int 0, .int 0]) := cs102.2.2.2.2.2.2.2.2.2.2.2.2.2.2.2.2.2.2.2.2.2.2.2.2.2.2.2.2.2.2.2.2.2.2.2.2.2.2.2.2.1
  have F_h102__k_122_ : h102 (k + 122) = .inl (1, 36, .inl (fun _ => 0)) := cs102.2.2.2.2.2.2.2.2.2.2.2.2.2.2.2.2.2.2.2.2.2.2.2.2.2.2.2.2.2.2.2.2.2.2.2.2.2.2.2.2.2.1
  have F_h102__k_123_ : h102 (k + 123) = .inl (1, 36, .inl (fun _ => 0)) := cs102.2.2.2.2.2.2.2.2.2.2.2.2.2.2.2.2.2.2.2.2.2.2.2.2.2.2.2.2.2.2.2.2.2.2.2.2.2.2.2.2.2.2.1
  have F_h102__k_124_ : h102 (k + 124) = .inl (1, 36, .inl (fun _ => 0)) := cs102.2.2.2.2.2.2.2.2.2.2.2.2.2.2.2.2.2.2.2.2.2.2.2.2.2.2.2.2.2.2.2.2.2.2.2.2.2.2.2.2.2.2.2.1
  have F_h102__k_125_ : h102 (k + 125) = .inl (1, 36, .inl (fun _ => 0)) := cs102.2.2.2.2.2.2.2.2.2.2.2.2.2.2.2.2.2.2.2.2.2.2.2.2.2.2.2.2.2.2.2.2.2.2.2.2.2.2.2.2.2.2.2.2.1
  have F_h102__k_126_ : h102 (k + 126) = .inl (1, 512, .inl (fun _ => 0)) := cs102.2.2.2.2.2.2.2.2.2.2.2.2.2.2.2.2.2.2.2.2.2.2.2.2.2.2.2.2.2.2.2.2.2.2.2.2.2.2.2.2.2.2.2.2.2.1
  have F_h102__k_127_ : h102 (k + 127) = .inl (1, 512, .inl (fun _ => 0)) := cs102.2.2.2.2.2.2.2.2.2.2.2.2.2.2.2.2.2.2.2.2.2.2.2.2.2.2.2.2.2.2.2.2.2.2.2.2.2.2.2.2.2.2.2.2.2.2.1
  have F_h102__k_128_ : h102 (k + 128) = .inr (8, [.int 35, .ref (k + 129), .ref (k + 130), .ref (k + 131), .ref (k + 132), .ref (k + 133), .ref (k + 134), .int 0, .int 0]) := cs102.2.2.2.2.2.2.2.2.2.2.2.2.2.2.2.2.2.2.2.2.2.2.2.2.2.2.2.2.2.2.2.2.2.2.2.2.2.2.2.2.2.2.2.2.2.2.2.1
  have F_h102__k_129_ : h102 (k + 129) = .inl (1, 36, .inl (fun _ => 0)) := cs102.2.2.2.2.2.2.2.2.2.2.2.2.2.2.2.2.2.2.2.2.2.2.2.2.2.2.2.2.2.2.2.2.2.2.2.2.2.2.2.2.2.2.2.2.2.2.2.2.1
  have F_h102__k_130_ : h102 (k + 130) = .inl (1, 36, .inl (fun _ => 0)) := cs102.2.2.2.2.2.2.2.2.2.2.2.2.2.2.2.2.2.2.2.2.2.2.2.2.2.2.2.2.2.2.2.2.2.2.2.2.2.2.2.2.2.2.2.2.2.2.2.2.2.1
  have F_h102__k_131_ : h102 (k + 131) = .inl (1, 36, .inl (fun _ => 0)) := cs102.2.2.2.2.2.2.2.2.2.2.2.2.2.2.2.2.2.2.2.2.2.2.2.2.2.2.2.2.2.2.2.2.2.2.2.2.2.2.2.2.2.2.2.2.2.2.2.2.2.2.1
  have F_h102__k_132_ : h102 (k + 132) = .inl (1, 36, .inl (fun _ => 0)) := cs102.2.2.2.2.2.2.2.2.2.2.2.2.2.2.2.2.2.2.2.2.2.2.2.2.2.2.2.2.2.2.2.2.2.2.2.2.2.2.2.2.2.2.2.2.2.2.2.2.2.2.2.1
  have F_h102__k_133_ : h102 (k + 133) = .inl (1, 512, .inl (fun _ => 0)) := cs102.2.2.2.2.2.2.2.2.2.2.2.2.2.2.2.2.2.2.2.2.2.2.2.2.2.2.2.2.2.2.2.2.2.2.2.2.2.2.2.2.2.2.2.2.2.2.2.2.2.2.2.2.1
  have F_h102__k_134_ : h102 (k + 134) = .inl (1, 512, .inl (fun _ => 0)) := cs102.2.2.2.2.2.2.2.2.2.2.2.2.2.2.2.2.2.2.2.2.2.2.2.2.2.2.2.2.2.2.2.2.2.2.2.2.2.2.2.2.2.2.2.2.2.2.2.2.2.2.2.2.2.1
  have F_h102__k_135_ : h102 (k + 135) = .inr (1, [.ref (aBig + 5), .ref (aBig + 6), .int 8, .ref (k + 136), .ref (k + 137), .ref (k + 140), .int 0, .int 0, .int 0, .ref (k + 141), .ref (k + 148), .ref (k + 155), .ref (k + 141), .ref (k + 138), .int 0, .int 0, .int 0, .int 0]) := cs102.2.2.2.2.2.2.2.2.2.2.2.2.2.2.2.2.2.2.2.2.2.2.2.2.2.2.2.2.2.2.2.2.2.2.2.2.2.2.2.2.2.2.2.2.2.2.2.2.2.2.2.2.2.2.1
  have F_h102__k_136_ : h102 (k + 136) = .inl (1, 2667, .inl (fun _ => 0)) := cs102.2.2.2.2.2.2.2.2.2.2.2.2.2.2.2.2.2.2.2.2.2.2.2.2.2.2.2.2.2.2.2.2.2.2.2.2.2.2.2.2.2.2.2.2.2.2.2.2.2.2.2.2.2.2.2.1
  have F_h102__k_137_ : h102 (k + 137) = .inl (1, 2667, .inl (fun _ => 0)) := cs102.2.2.2.2.2.2.2.2.2.2.2.2.2.2.2.2.2.2.2.2.2.2.2.2.2.2.2.2.2.2.2.2.2.2.2.2.2.2.2.2.2.2.2.2.2.2.2.2.2.2.2.2.2.2.2.2.1
  have F_h102__k_138_ : h102 (k + 138) = .inr (7, [.ref (k + 139), .int 0, .int 0, .long 0, .int 0]) := cs102.2.2.2.2.2.2.2.2.2.2.2.2.2.2.2.2.2.2.2.2.2.2.2.2.2.2.2.2.2.2.2.2.2.2.2.2.2.2.2.2.2.2.2.2.2.2.2.2.2.2.2.2.2.2.2.2.2.1
  have F_h102__k_139_ : h102 (k + 139) = .inl (0, 128, .inl (fun _ => 0)) := cs102.2.2.2.2.2.2.2.2.2.2.2.2.2.2.2.2.2.2.2.2.2.2.2.2.2.2.2.2.2.2.2.2.2.2.2.2.2.2.2.2.2.2.2.2.2.2.2.2.2.2.2.2.2.2.2.2.2.2.1
  have F_h102__k_140_ : h102 (k + 140) = .inl (1, 32, .inl (fun _ => 0)) := cs102.2.2.2.2.2.2.2.2.2.2.2.2.2.2.2.2.2.2.2.2.2.2.2.2.2.2.2.2.2.2.2.2.2.2.2.2.2.2.2.2.2.2.2.2.2.2.2.2.2.2.2.2.2.2.2.2.2.2.2.1
  have F_h102__k_141_ : h102 (k + 141) = .inr (8, [.int 31, .ref (k + 142), .ref (k + 143), .ref (k + 144), .ref (k + 145), .ref (k + 146), .ref (k + 147), .int 5, .int 1]) := cs102.2.2.2.2.2.2.2.2.2.2.2.2.2.2.2.2.2.2.2.2.2.2.2.2.2.2.2.2.2.2.2.2.2.2.2.2.2.2.2.2.2.2.2.2.2.2.2.2.2.2.2.2.2.2.2.2.2.2.2.2.1
  have F_h102__k_142_ : h102 (k + 142) = .inl (1, 32, .inl pB) := cs102.2.2.2.2.2.2.2.2.2.2.2.2.2.2.2.2.2.2.2.2.2.2.2.2.2.2.2.2.2.2.2.2.2.2.2.2.2.2.2.2.2.2.2.2.2.2.2.2.2.2.2.2.2.2.2.2.2.2.2.2.2.1
  have F_h102__k_143_ : h102 (k + 143) = .inl (1, 32, .inl (fun _ => 0)) := cs102.2.2.2.2.2.2.2.2.2.2.2.2.2.2.2.2.2.2.2.2.2.2.2.2.2.2.2.2.2.2.2.2.2.2.2.2.2.2.2.2.2.2.2.2.2.2.2.2.2.2.2.2.2.2.2.2.2.2.2.2.2.2.1
  have F_h102__k_144_ : h102 (k + 144) = .inl (1, 32, .inl fB) := cs102.2.2.2.2.2.2.2.2.2.2.2.2.2.2.2.2.2.2.2.2.2.2.2.2.2.2.2.2.2.2.2.2.2.2.2.2.2.2.2.2.2.2.2.2.2.2.2.2.2.2.2.2.2.2.2.2.2.2.2.2.2.2.2.1
  have F_h102__k_145_ : h102 (k + 145) = .inl (1, 32, .inl wB) := cs102.2.2.2.2.2.2.2.2.2.2.2.2.2.2.2.2.2.2.2.2.2.2.2.2.2.2.2.2.2.2.2.2.2.2.2.2.2.2.2.2.2.2.2.2.2.2.2.2.2.2.2.2.2.2.2.2.2.2.2.2.2.2.2.2.1
  have F_h102__k_146_ : h102 (k + 146) = .inl (1, 256, .inl oB) := cs102.2.2.2.2.2.2.2.2.2.2.2.2.2.2.2.2.2.2.2.2.2.2.2.2.2.2.2.2.2.2.2.2.2.2.2.2.2.2.2.2.2.2.2.2.2.2.2.2.2.2.2.2.2.2.2.2.2.2.2.2.2.2.2.2.2.1
  have F_h102__k_147_ : h102 (k + 147) = .inl (1, 256, .inl sB) := cs102.2.2.2.2.2.2.2.2.2.2.2.2.2.2.2.2.2.2.2.2.2.2.2.2.2.2.2.2.2.2.2.2.2.2.2.2.2.2.2.2.2.2.2.2.2.2.2.2.2.2.2.2.2.2.2.2.2.2.2.2.2.2.2.2.2.2.1
  have F_h102__k_148_ : h102 (k + 148) = .inr (8, [.int 31, .ref (k + 149), .ref (k + 150), .ref (k + 151), .ref (k + 152), .ref (k + 153), .ref (k + 154), .int 0, .int 0]) := cs102.2.2.2.2.2.2.2.2.2.2.2.2.2.2.2.2.2.2.2.2.2.2.2.2.2.2.2.2.2.2.2.2.2.2.2.2.2.2.2.2.2.2.2.2.2.2.2.2.2.2.2.2.2.2.2.2.2.2.2.2.2.2.2.2.2.2.2.1
  have F_h102__k_149_ : h102 (k + 149) = .inl (1, 32, .inl (fun _ => 0)) := cs102.2.2.2.2.2.2.2.2.2.2.2.2.2.2.2.2.2.2.2.2.2.2.2.2.2.2.2.2.2.2.2.2.2.2.2.2.2.2.2.2.2.2.2.2.2.2.2.2.2.2.2.2.2.2.2.2.2.2.2.2.2.2.2.2.2.2.2.2.1
  have F_h102__k_150_ : h102 (k + 150) = .inl (1, 32, .inl (fun _ => 0)) := cs102.2.2.2.2.2.2.2.2.2.2.2.2.2.2.2.2.2.2.2.2.2.2.2.2.2.2.2.2.2.2.2.2.2.2.2.2.2.2.2.2.2.2.2.2.2.2.2.2.2.2.2.2.2.2.2.2.2.2.2.2.2.2.2.2.2.2.2.2.2.1
  have F_h102__k_151_ : h102 (k + 151) = .inl (1, 32, .inl (fun _ => 0)) := cs102.2.2.2.2.2.2.2.2.2.2.2.2.2.2.2.2.2.2.2.2.2.2.2.2.2.2.2.2.2.2.2.2.2.2.2.2.2.2.2.2.2.2.2.2.2.2.2.2.2.2.2.2.2.2.2.2.2.2.2.2.2.2.2.2.2.2.2.2.2.2.1
  have F_h102__k_152_ : h102 (k + 152) = .inl (1, 32, .inl (fun _ => 0)) := cs102.2.2.2.2.2.2.2.2.2.2.2.2.2.2.2.2.2.2.2.2.2.2.2.2.2.2.2.2.2.2.2.2.2.2.2.2.2.2.2.2.2.2.2.2.2.2.2.2.2.2.2.2.2.2.2.2.2.2.2.2.2.2.2.2.2.2.2.2.2.2.2.1
  have F_h102__k_153_ : h102 (k + 153) = .inl (1, 256, .inl (fun _ => 0)) := cs102.2.2.2.2.2.2.2.2.2.2.2.2.2.2.2.2.2.2.2.2.2.2.2.2.2.2.2.2.2.2.2.2.2.2.2.2.2.2.2.2.2.2.2.2.2.2.2.2.2.2.2.2.2.2.2.2.2.2.2.2.2.2.2.2.2.2.2.2.2.2.2.2.1
  have F_h102__k_154_ : h102 (k + 154) = .inl (1, 256, .inl (fun _ => 0)) := cs102.2.2.2.2.2.2.2.2.2.2.2.2.2.2.2.2.2.2.2.2.2.2.2.2.2.2.2.2.2.2.2.2.2.2.2.2.2.2.2.2.2.2.2.2.2.2.2.2.2.2.2.2.2.2.2.2.2.2.2.2.2.2.2.2.2.2.2.2.2.2.2.2.2.1
  have F_h102__k_155_ : h102 (k + 155) = .inr (8, [.int 31, .ref (k + 156), .ref (k + 157), .ref (k + 158), .ref (k + 159), .ref (k + 160), .ref (k + 161), .int 0, .int 0]) := cs102.2.2.2.2.2.2.2.2.2.2.2.2.2.2.2.2.2.2.2.2.2.2.2.2.2.2.2.2.2.2.2.2.2.2.2.2.2.2.2.2.2.2.2.2.2.2.2.2.2.2.2.2.2.2.2.2.2.2.2.2.2.2.2.2.2.2.2.2.2.2.2.2.2.2.1
  have F_h102__k_156_ : h102 (k + 156) = .inl (1, 32, .inl (fun _ => 0)) := cs102.2.2.2.2.2.2.2.2.2.2.2.2.2.2.2.2.2.2.2.2.2.2.2.2.2.2.2.2.2.2.2.2.2.2.2.2.2.2.2.2.2.2.2.2.2.2.2.2.2.2.2.2.2.2.2.2.2.2.2.2.2.2.2.2.2.2.2.2.2.2.2.2.2.2.2.1
  have F_h102__k_157_ : h102 (k + 157) = .inl (1, 32, .inl (fun _ => 0)) := cs102.2.2.2.2.2.2.2.2.2.2.2.2.2.2.2.2.2.2.2.2.2.2.2.2.2.2.2.2.2.2.2.2.2.2.2.2.2.2.2.2.2.2.2.2.2.2.2.2.2.2.2.2.2.2.2.2.2.2.2.2.2.2.2.2.2.2.2.2.2.2.2.2.2.2.2.2.1
  have F_h102__k_158_ : h102 (k + 158) = .inl (1, 32, .inl (fun _ => 0)) := cs102.2.2.2.2.2.2.2.2.2.2.2.2.2.2.2.2.2.2.2.2.2.2.2.2.2.2.2.2.2.2.2.2.2.2.2.2.2.2.2.2.2.2.2.2.2.2.2.2.2.2.2.2.2.2.2.2.2.2.2.2.2.2.2.2.2.2.2.2.2.2.2.2.2.2.2.2.2.1
  have F_h102__k_159_ : h102 (k + 159) = .inl (1, 32, .inl (fun _ => 0)) := cs102.2.2.2.2.2.2.2.2.2.2.2.2.2.2.2.2.2.2.2.2.2.2.2.2.2.2.2.2.2.2.2.2.2.2.2.2.2.2.2.2.2.2.2.2.2.2.2.2.2.2.2.2.2.2.2.2.2.2.2.2.2.2.2.2.2.2.2.2.2.2.2.2.2.2.2.2.2.2.1
  have F_h102__k_160_ : h102 (k + 160) = .inl (1, 256, .inl (fun _ => 0)) := cs102.2.2.2.2.2.2.2.2.2.2.2.2.2.2.2.2.2.2.2.2.2.2.2.2.2.2.2.2.2.2.2.2.2.2.2.2.2.2.2.2.2.2.2.2.2.2.2.2.2.2.2.2.2.2.2.2.2.2.2.2.2.2.2.2.2.2.2.2.2.2.2.2.2.2.2.2.2.2.2.1
  have F_h102__k_161_ : h102 (k + 161) = .inl (1, 256, .inl (fun _ => 0)) := cs102.2.2.2.2.2.2.2.2.2.2.2.2.2.2.2.2.2.2.2.2.2.2.2.2.2.2.2.2.2.2.2.2.2.2.2.2.2.2.2.2.2.2.2.2.2.2.2.2.2.2.2.2.2.2.2.2.2.2.2.2.2.2.2.2.2.2.2.2.2.2.2.2.2.2.2.2.2.2.2.2.1
  have F_h102__k_162_ : h102 (k + 162) = .inr (1, [.ref (aBig + 7), .ref (aBig + 8), .int 9, .ref (k + 163), .ref (k + 164), .ref (k + 167), .int 0, .int 0, .int 0, .ref (k + 168), .ref (k + 175), .ref (k + 182), .ref (k + 168), .ref (k + 165), .int 0, .int 0, .int 0, .int 0]) := cs102.2.2.2.2.2.2.2.2.2.2.2.2.2.2.2.2.2.2.2.2.2.2.2.2.2.2.2.2.2.2.2.2.2.2.2.2.2.2.2.2.2.2.2.2.2.2.2.2.2.2.2.2.2.2.2.2.2.2.2.2.2.2.2.2.2.2.2.2.2.2.2.2.2.2.2.2.2.2.2.2.2.1
  have F_h102__k_163_ : h102 (k + 163) = .inl (1, 2667, .inl (fun _ => 0)) := cs102.2.2.2.2.2.2.2.2.2.2.2.2.2.2.2.2.2.2.2.2.2.2.2.2.2.2.2.2.2.2.2.2.2.2.2.2.2.2.2.2.2.2.2.2.2.2.2.2.2.2.2.2.2.2.2.2.2.2.2.2.2.2.2.2.2.2.2.2.2.2.2.2.2.2.2.2.2.2.2.2.2.2.1
  have F_h102__k_164_ : h102 (k + 164) = .inl (1, 2667, .inl (fun _ => 0)) := cs102.2.2.2.2.2.2.2.2.2.2.2.2.2.2.2.2.2.2.2.2.2.2.2.2.2.2.2.2.2.2.2.2.2.2.2.2.2.2.2.2.2.2.2.2.2.2.2.2.2.2.2.2.2.2.2.2.2.2.2.2.2.2.2.2.2.2.2.2.2.2.2.2.2.2.2.2.2.2.2.2.2.2.2.1
  have F_h102__k_165_ : h102 (k + 165) = .inr (7, [.ref (k + 166), .int 0, .int 0, .long 0, .int 0]) := cs102.2.2.2.2.2.2.2.2.2.2.2.2.2.2.2.2.2.2.2.2.2.2.2.2.2.2.2.2.2.2.2.2.2.2.2.2.2.2.2.2.2.2.2.2.2.2.2.2.2.2.2.2.2.2.2.2.2.2.2.2.2.2.2.2.2.2.2.2.2.2.2.2.2.2.2.2.2.2.2.2.2.2.2.2.1
  have F_h102__k_166_ : h102 (k + 166) = .inl (0, 128, .inl (fun _ => 0)) := cs102.2.2.2.2.2.2.2.2.2.2.2.2.2.2.2.2.2.2.2.2.2.2.2.2.2.2.2.2.2.2.2.2.2.2.2.2.2.2.2.2.2.2.2.2.2.2.2.2.2.2.2.2.2.2.2.2.2.2.2.2.2.2.2.2.2.2.2.2.2.2.2.2.2.2.2.2.2.2.2.2.2.2.2.2.2.1
  have F_h102__k_167_ : h102 (k + 167) = .inl (1, 53, .inl (fun _ => 0)) := cs102.2.2.2.2.2.2.2.2.2.2.2.2.2.2.2.2.2.2.2.2.2.2.2.2.2.2.2.2.2.2.2.2.2.2.2.2.2.2.2.2.2.2.2.2.2.2.2.2.2.2.2.2.2.2.2.2.2.2.2.2.2.2.2.2.2.2.2.2.2.2.2.2.2.2.2.2.2.2.2.2.2.2.2.2.2.2.1
  have F_h102__k_168_ : h102 (k + 168) = .inr (8, [.int 52, .ref (k + 169), .ref (k + 170), .ref (k + 171), .ref (k + 172), .ref (k + 173), .ref (k + 174), .int 6, .int 1]) := cs102.2.2.2.2.2.2.2.2.2.2.2.2.2.2.2.2.2.2.2.2.2.2.2.2.2.2.2.2.2.2.2.2.2.2.2.2.2.2.2.2.2.2.2.2.2.2.2.2.2.2.2.2.2.2.2.2.2.2.2.2.2.2.2.2.2.2.2.2.2.2.2.2.2.2.2.2.2.2.2.2.2.2.2.2.2.2.2.1
  have F_h102__k_169_ : h102 (k + 169) = .inl (1, 53, .inl pC) := cs102.2.2.2.2.2.2.2.2.2.2.2.2.2.2.2.2.2.2.2.2.2.2.2.2.2.2.2.2.2.2.2.2.2.2.2.2.2.2.2.2.2.2.2.2.2.2.2.2.2.2.2.2.2.2.2.2.2.2.2.2.2.2.2.2.2.2.2.2.2.2.2.2.2.2.2.2.2.2.2.2.2.2.2.2.2.2.2.2.1
  have F_h102__k_170_ : h102 (k + 170) = .inl (1, 53, .inl (fun _ => 0)) := cs102.2.2.2.2.2.2.2.2.2.2.2.2.2.2.2.2.2.2.2.2.2.2.2.2.2.2.2.2.2.2.2.2.2.2.2.2.2.2.2.2.2.2.2.2.2.2.2.2.2.2.2.2.2.2.2.2.2.2.2.2.2.2.2.2.2.2.2.2.2.2.2.2.2.2.2.2.2.2.2.2.2.2.2.2.2.2.2.2.2.1
  have F_h102__k_171_ : h102 (k + 171) = .inl (1, 53, .inl fC) := cs102.2.2.2.2.2.2.2.2.2.2.2.2.2.2.2.2.2.2.2.2.2.2.2.2.2.2.2.2.2.2.2.2.2.2.2.2.2.2.2.2.2.2.2.2.2.2.2.2.2.2.2.2.2.2.2.2.2.2.2.2.2.2.2.2.2.2.2.2.2.2.2.2.2.2.2.2.2.2.2.2.2.2.2.2.2.2.2.2.2.2.1
  have F_h102__k_172_ : h102 (k + 172) = .inl (1, 53, .inl wC) := cs102.2.2.2.2.2.2.2.2.2.2.2.2.2.2.2.2.2.2.2.2.2.2.2.2.2.2.2.2.2.2.2.2.2.2.2.2.2.2.2.2.2.2.2.2.2.2.2.2.2.2.2.2.2.2.2.2.2.2.2.2.2.2.2.2.2.2.2.2.2.2.2.2.2.2.2.2.2.2.2.2.2.2.2.2.2.2.2.2.2.2.2.1
  have F_h102__k_173_ : h102 (k + 173) = .inl (1, 512, .inl oC) := cs102.2.2.2.2.2.2.2.2.2.2.2.2.2.2.2.2.2.2.2.2.2.2.2.2.2.2.2.2.2.2.2.2.2.2.2.2.2.2.2.2.2.2.2.2.2.2.2.2.2.2.2.2.2.2.2.2.2.2.2.2.2.2.2.2.2.2.2.2.2.2.2.2.2.2.2.2.2.2.2.2.2.2.2.2.2.2.2.2.2.2.2.2.1
  have F_h102__k_174_ : h102 (k + 174) = .inl (1, 512, .inl sC) := cs102.2.2.2.2.2.2.2.2.2.2.2.2.2.2.2.2.2.2.2.2.2.2.2.2.2.2.2.2.2.2.2.2.2.2.2.2.2.2.2.2.2.2.2.2.2.2.2.2.2.2.2.2.2.2.2.2.2.2.2.2.2.2.2.2.2.2.2.2.2.2.2.2.2.2.2.2.2.2.2.2.2.2.2.2.2.2.2.2.2.2.2.2.2.1
  have F_h102__k_175_ : h102 (k + 175) = .inr (8, [.int 52, .ref (k + 176), .ref (k + 177), .ref (k + 178), .ref (k + 179), .ref (k + 180), .ref (k + 181), .int 0, .int 0]) := cs102.2.2.2.2.2.2.2.2.2.2.2.2.2.2.2.2.2.2.2.2.2.2.2.2.2.2.2.2.2.2.2.2.2.2.2.2.2.2.2.2.2.2.2.2.2.2.2.2.2.2.2.2.2.2.2.2.2.2.2.2.2.2.2.2.2.2.2.2.2.2.2.2.2.2.2.2.2.2.2.2.2.2.2.2.2.2.2.2.2.2.2.2.2.2.1
  have F_h102__k_176_ : h102 (k + 176) = .inl (1, 53, .inl (fun _ => 0)) := cs102.2.2.2.2.2.2.2.2.2.2.2.2.2.2.2.2.2.2.2.2.2.2.2.2.2.2.2.2.2.2.2.2.2.2.2.2.2.2.2.2.2.2.2.2.2.2.2.2.2.2.2.2.2.2.2.2.2.2.2.2.2.2.2.2.2.2.2.2.2.2.2.2.2.2.2.2.2.2.2.2.2.2.2.2.2.2.2.2.2.2.2.2.2.2.2.1
  have F_h102__k_177_ : h102 (k + 177) = .inl (1, 53, .inl (fun _ => 0)) := cs102.2.2.2.2.2.2.2.2.2.2.2.2.2.2.2.2.2.2.2.2.2.2.2.2.2.2.2.2.2.2.2.2.2.2.2.2.2.2.2.2.2.2.2.2.2.2.2.2.2.2.2.2.2.2.2.2.2.2.2.2.2.2.2.2.2.2.2.2.2.2.2.2.2.2.2.2.2.2.2.2.2.2.2.2.2.2.2.2.2.2.2.2.2.2.2.2.1
  have F_h102__k_178_ : h102 (k + 178) = .inl (1, 53, .inl (fun _ => 0)) := cs102.2.2.2.2.2.2.2.2.2.2.2.2.2.2.2.2.2.2.2.2.2.2.2.2.2.2.2.2.2.2.2.2.2.2.2.2.2.2.2.2.2.2.2.2.2.2.2.2.2.2.2.2.2.2.2.2.2.2.2.2.2.2.2.2.2.2.2.2.2.2.2.2.2.2.2.2.2.2.2.2.2.2.2.2.2.2.2.2.2.2.2.2.2.2.2.2.2.1
  have F_h102__k_179_ : h102 (k + 179) = .inl (1, 53, .inl (fun _ => 0)) := cs102.2.2.2.2.2.2.2.2.2.2.2.2.2.2.2.2.2.2.2.2.2.2.2.2.2.2.2.2.2.2.2.2.2.2.2.2.2.2.2.2.2.2.2.2.2.2.2.2.2.2.2.2.2.2.2.2.2.2.2.2.2.2.2.2.2.2.2.2.2.2.2.2.2.2.2.2.2.2.2.2.2.2.2.2.2.2.2.2.2.2.2.2.2.2.2.2.2.2.1
  have F_h102__k_180_ : h102 (k + 180) = .inl (1, 512, .inl (fun _ => 0)) := cs102.2.2.2.2.2.2.2.2.2.2.2.2.2.2.2.2.2.2.2.2.2.2.2.2.2.2.2.2.2.2.2.2.2.2.2.2.2.2.2.2.2.2.2.2.2.2.2.2.2.2.2.2.2.2.2.2.2.2.2.2.2.2.2.2.2.2.2.2.2.2.2.2.2.2.2.2.2.2.2.2.2.2.2.2.2.2.2.2.2.2.2.2.2.2.2.2.2.2.2.1
  have F_h102__k_181_ : h102 (k + 181) = .inl (1, 512, .inl (fun _ => 0)) := cs102.2.2.2.2.2.2.2.2.2.2.2.2.2.2.2.2.2.2.2.2.2.2.2.2.2.2.2.2.2.2.2.2.2.2.2.2.2.2.2.2.2.2.2.2.2.2.2.2.2.2.2.2.2.2.2.2.2.2.2.2.2.2.2.2.2.2.2.2.2.2.2.2.2.2.2.2.2.2.2.2.2.2.2.2.2.2.2.2.2.2.2.2.2.2.2.2.2.2.2.2.1
  have F_h102__k_182_ : h102 (k + 182) = .inr (8, [.int 52, .ref (k + 183), .ref (k + 184), .ref (k + 185), .ref (k + 186), .ref (k + 187), .ref (k + 188), .int 0, .int 0]) := cs102.2.2.2.2.2.2.2.2.2.2.2.2.2.2.2.2.2.2.2.2.2.2.2.2.2.2.2.2.2.2.2.2.2.2.2.2.2.2.2.2.2.2.2.2.2.2.2.2.2.2.2.2.2.2.2.2.2.2.2.2.2.2.2.2.2.2.2.2.2.2.2.2.2.2.2.2.2.2.2.2.2.2.2.2.2.2.2.2.2.2.2.2.2.2.2.2.2.2.2.2.2.1
  have F_h102__k_183_ : h102 (k + 183) = .inl (1, 53, .inl (fun _ => 0)) := cs102.2.2.2.2.2.2.2.2.2.2.2.2.2.2.2.2.2.2.2.2.2.2.2.2.2.2.2.2.2.2.2.2.2.2.2.2.2.2.2.2.2.2.2.2.2.2.2.2.2.2.2.2.2.2.2.2.2.2.2.2.2.2.2.2.2.2.2.2.2.2.2.2.2.2.2.2.2.2.2.2.2.2.2.2.2.2.2.2.2.2.2.2.2.2.2.2.2.2.2.2.2.2.1
  have F_h102__k_184_ : h102 (k + 184) = .inl (1, 53, .inl (fun _ => 0)) := cs102.2.2.2.2.2.2.2.2.2.2.2.2.2.2.2.2.2.2.2.2.2.2.2.2.2.2.2.2.2.2.2.2.2.2.2.2.2.2.2.2.2.2.2.2.2.2.2.2.2.2.2.2.2.2.2.2.2.2.2.2.2.2.2.2.2.2.2.2.2.2.2.2.2.2.2.2.2.2.2.2.2.2.2.2.2.2.2.2.2.2.2.2.2.2.2.2.2.2.2.2.2.2.2.1
  have F_h102__k_185_ : h102 (k + 185) = .inl (1, 53, .inl (fun _ => 0)) := cs102.2.2.2.2.2.2.2.2.2.2.2.2.2.2.2.2.2.2.2.2.2.2.2.2.2.2.2.2.2.2.2.2.2.2.2.2.2.2.2.2.2.2.2.2.2.2.2.2.2.2.2.2.2.2.2.2.2.2.2.2.2.2.2.2.2.2.2.2.2.2.2.2.2.2.2.2.2.2.2.2.2.2.2.2.2.2.2.2.2.2.2.2.2.2.2.2.2.2.2.2.2.2.2.2.1
  have F_h102__k_186_ : h102 (k + 186) = .inl (1, 53, .inl (fun _ => 0)) := cs102.2.2.2.2.2.2.2.2.2.2.2.2.2.2.2.2.2.2.2.2.2.2.2.2.2.2.2.2.2.2.2.2.2.2.2.2.2.2.2.2.2.2.2.2.2.2.2.2.2.2.2.2.2.2.2.2.2.2.2.2.2.2.2.2.2.2.2.2.2.2.2.2.2.2.2.2.2.2.2.2.2.2.2.2.2.2.2.2.2.2.2.2.2.2.2.2.2.2.2.2.2.2.2.2.2.1
  have F_h102__k_187_ : h102 (k + 187) = .inl (1, 512, .inl (fun _ => 0)) := cs102.2.2.2.2.2.2.2.2.2.2.2.2.2.2.2.2.2.2.2.2.2.2.2.2.2.2.2.2.2.2.2.2.2.2.2.2.2.2.2.2.2.2.2.2.2.2.2.2.2.2.2.2.2.2.2.2.2.2.2.2.2.2.2.2.2.2.2.2.2.2.2.2.2.2.2.2.2.2.2.2.2.2.2.2.2.2.2.2.2.2.2.2.2.2.2.2.2.2.2.2.2.2.2.2.2.2.1
  have F_h102__k_188_ : h102 (k + 188) = .inl (1, 512, .inl (fun _ => 0)) := cs102.2.2.2.2.2.2.2.2.2.2.2.2.2.2.2.2.2.2.2.2.2.2.2.2.2.2.2.2.2.2.2.2.2.2.2.2.2.2.2.2.2.2.2.2.2.2.2.2.2.2.2.2.2.2.2.2.2.2.2.2.2.2.2.2.2.2.2.2.2.2.2.2.2.2.2.2.2.2.2.2.2.2.2.2.2.2.2.2.2.2.2.2.2.2.2.2.2.2.2.2.2.2.2.2.2.2.2.1
  have FR_h102 : ∀ j, j < k ∨ aBig ≤ j → h102 j = h j := fun j hj => (fr102 j (hj.imp (fun z => Nat.lt_of_lt_of_le z (Nat.le_add_right _ _)) (fun z => z))).trans (FR_h94 j hj)
  clear F_h94_k F_h94__k_1_ F_h94__k_2_ F_h94__k_3_ F_h94__k_4_ F_h94__k_5_ F_h94__k_6_ F_h94__k_7_ F_h94__k_8_ F_h94__k_9_ F_h94__k_10_ F_h94__k_11_ F_h94__k_12_ F_h94__k_13_ F_h94__k_14_ F_h94__k_15_ F_h94__k_16_ F_h94__k_17_ F_h94__k_18_ F_h94__k_19_ F_h94__k_20_ F_h94__k_21_ F_h94__k_22_ F_h94__k_23_ F_h94__k_24_ F_h94__k_25_ F_h94__k_26_ F_h94__k_27_ F_h94__k_28_ F_h94__k_29_ F_h94__k_30_ F_h94__k_31_ F_h94__k_32_ F_h94__k_33_ F_h94__k_34_ F_h94__k_35_ F_h94__k_36_ F_h94__k_37_ F_h94__k_38_ F_h94__k_39_ F_h94__k_40_ F_h94__k_41_ F_h94__k_42_ F_h94__k_43_ F_h94__k_44_ F_h94__k_45_ F_h94__k_46_ F_h94__k_47_ F_h94__k_48_ F_h94__k_49_ F_h94__k_50_ F_h94__k_51_ F_h94__k_52_ F_h94__k_53_ F_h94__k_54_ F_h94__k_55_ F_h94__k_56_ F_h94__k_57_ F_h94__k_58_ F_h94__k_59_ F_h94__k_60_ F_h94__k_61_ F_h94__k_62_ F_h94__k_63_ F_h94__k_64_ F_h94__k_65_ F_h94__k_66_ F_h94__k_67_ F_h94__k_68_ F_h94__k_69_ F_h94__k_70_ F_h94__k_71_ F_h94__k_72_ F_h94__k_73_ F_h94__k_74_ F_h94__k_75_ F_h94__k_76_ F_h94__k_77_ F_h94__k_78_ F_h94__k_79_ F_h94__k_80_ F_h94__k_81_ FR_h94 fr102 cs102
  clear h94
  show WX _ _ _ 105 [(0, .ref k)] [.ref (k + 81), .ref k] (k + 189, s + 5 + 8000 + 5 + 12000 + 5 + 12000 + 5 + 8000 + 6 + 3609 + 6 + 3609 + 5 + 1487 + 9 + 73558, h102)
  refine WX.put1 (fs := [.ref (k + 1), .ref (k + 3), .ref (k + 5), .ref (k + 7), .long 0, .ref (k + 9), .ref (k + 38), .ref (k + 67), .null, .null, .int 0, .int 0]) (fs' := [.ref (k + 1), .ref (k + 3), .ref (k + 5), .ref (k + 7), .long 0, .ref (k + 9), .ref (k + 38), .ref (k + 67), .ref (k + 81), .null, .int 0, .int 0]) rfl (ltk0 (c := 189) (by decide)) (F_h102_k) (Nat.le_of_ble_eq_true rfl) (rfl) rfl (fun h105 e_h105 => ?_)
  have F_h105_k : h105 k = .inr (10, [.ref (k + 1), .ref (k + 3), .ref (k + 5), .ref (k + 7), .long 0, .ref (k + 9), .ref (k + 38), .ref (k + 67), .ref (k + 81), .null, .int 0, .int 0]) := by rw [e_h105]; exact va_up_eq
  have F_h105__k_1_ : h105 (k + 1) = .inr (7, [.ref (k + 2), .int 0, .int 0, .long 0, .int 0]) := by rw [e_h105, va_up_neq (nek0 (a := 1) (by decide))]; exact F_h102__k_1_
  have F_h105__k_2_ : h105 (k + 2) = .inl (0, 8000, .inl (fun _ => 0)) := by rw [e_h105, va_up_neq (nek0 (a := 2) (by decide))]; exact F_h102__k_2_
  have F_h105__k_3_ : h105 (k + 3) = .inr (7, [.ref (k + 4), .int 0, .int 0, .long 0, .int 0]) := by rw [e_h105, va_up_neq (nek0 (a := 3) (by decide))]; exact F_h102__k_3_
  have F_h105__k_4_ : h105 (k + 4) = .inl (0, 12000, .inl (fun _ => 0)) := by rw [e_h105, va_up_neq (nek0 (a := 4) (by decide))]; exact F_h102__k_4_
  have F_h105__k_5_ : h105 (k + 5) = .inr (7, [.ref (k + 6), .int 0, .int 0, .long 0, .int 0]) := by rw [e_h105, va_up_neq (nek0 (a := 5) (by decide))]; exact F_h102__k_5_
  have F_h105__k_6_ : h105 (k + 6) = .inl (0, 12000, .inl (fun _ => 0)) := by rw [e_h105, va_up_neq (nek0 (a := 6) (by decide))]; exact F_h102__k_6_
  have F_h105__k_7_ : h105 (k + 7) = .inr (7, [.ref (k + 8), .int 0, .int 0, .long 0, .int 0]) := by rw [e_h105, va_up_neq (nek0 (a := 7) (by decide))]; exact F_h102__k_7_
  have F_h105__k_8_ : h105 (k + 8) = .inl (0, 8000, .inl (fun _ => 0)) := by rw [e_h105, va_up_neq (nek0 (a := 8) (by decide))]; exact F_h102__k_8_
  have F_h105__k_9_ : h105 (k + 9) = .inr (9, [.ref (k + 10), .ref (k + 12), .ref (k + 16), .ref (k + 23), .ref (k + 30), .ref (k + 37)]) := by rw [e_h105, va_up_neq (nek0 (a := 9) (by decide))]; exact F_h102__k_9_
  have F_h105__k_10_ : h105 (k + 10) = .inr (7, [.ref (k + 11), .int 0, .int 0, .long 0, .int 0]) := by rw [e_h105, va_up_neq (nek0 (a := 10) (by decide))]; exact F_h102__k_10_
  have F_h105__k_11_ : h105 (k + 11) = .inl (0, 0, .inl (fun _ => 0)) := by rw [e_h105, va_up_neq (nek0 (a := 11) (by decide))]; exact F_h102__k_11_
  have F_h105__k_12_ : h105 (k + 12) = .inr (0, [.ref (k + 13), .ref (k + 14), .ref (k + 15), .int 0, .int 0]) := by rw [e_h105, va_up_neq (nek0 (a := 12) (by decide))]; exact F_h102__k_12_
  have F_h105__k_13_ : h105 (k + 13) = .inl (1, 256, .inl (fun _ => 0)) := by rw [e_h105, va_up_neq (nek0 (a := 13) (by decide))]; exact F_h102__k_13_
  have F_h105__k_14_ : h105 (k + 14) = .inl (1, 256, .inl (fun _ => 0)) := by rw [e_h105, va_up_neq (nek0 (a := 14) (by decide))]; exact F_h102__k_14_
  have F_h105__k_15_ : h105 (k + 15) = .inl (1, 13, .inl (fun _ => 0)) := by rw [e_h105, va_up_neq (nek0 (a := 15) (by decide))]; exact F_h102__k_15_
  have F_h105__k_16_ : h105 (k + 16) = .inr (8, [.int 35, .ref (k + 17), .ref (k + 18), .ref (k + 19), .ref (k + 20), .ref (k + 21), .ref (k + 22), .int 0, .int 0]) := by rw [e_h105, va_up_neq (nek0 (a := 16) (by decide))]; exact F_h102__k_16_
  have F_h105__k_17_ : h105 (k + 17) = .inl (1, 36, .inl (fun _ => 0)) := by rw [e_h105, va_up_neq (nek0 (a := 17) (by decide))]; exact F_h102__k_17_
  have F_h105__k_18_ : h105 (k + 18) = .inl (1, 36, .inl (fun _ => 0)) := by rw [e_h105, va_up_neq (nek0 (a := 18) (by decide))]; exact F_h102__k_18_
  have F_h105__k_19_ : h105 (k + 19) = .inl (1, 36, .inl (fun _ => 0)) := by rw [e_h105, va_up_neq (nek0 (a := 19) (by decide))]; exact F_h102__k_19_
  have F_h105__k_20_ : h105 (k + 20) = .inl (1, 36, .inl (fun _ => 0)) := by rw [e_h105, va_up_neq (nek0 (a := 20) (by decide))]; exact F_h102__k_20_
  have F_h105__k_21_ : h105 (k + 21) = .inl (1, 512, .inl (fun _ => 0)) := by rw [e_h105, va_up_neq (nek0 (a := 21) (by decide))]; exact F_h102__k_21_
  have F_h105__k_22_ : h105 (k + 22) = .inl (1, 512, .inl (fun _ => 0)) := by rw [e_h105, va_up_neq (nek0 (a := 22) (by decide))]; exact F_h102__k_22_
  have F_h105__k_23_ : h105 (k + 23) = .inr (8, [.int 31, .ref (k + 24), .ref (k + 25), .ref (k + 26), .ref (k + 27), .ref (k + 28), .ref (k + 29), .int 0, .int 0]) := by rw [e_h105, va_up_neq (nek0 (a := 23) (by decide))]; exact F_h102__k_23_
  have F_h105__k_24_ : h105 (k + 24) = .inl (1, 32, .inl (fun _ => 0)) := by rw [e_h105, va_up_neq (nek0 (a := 24) (by decide))]; exact F_h102__k_24_
  have F_h105__k_25_ : h105 (k + 25) = .inl (1, 32, .inl (fun _ => 0)) := by rw [e_h105, va_up_neq (nek0 (a := 25) (by decide))]; exact F_h102__k_25_
  have F_h105__k_26_ : h105 (k + 26) = .inl (1, 32, .inl (fun _ => 0)) := by rw [e_h105, va_up_neq (nek0 (a := 26) (by decide))]; exact F_h102__k_26_
  have F_h105__k_27_ : h105 (k + 27) = .inl (1, 32, .inl (fun _ => 0)) := by rw [e_h105, va_up_neq (nek0 (a := 27) (by decide))]; exact F_h102__k_27_
  have F_h105__k_28_ : h105 (k + 28) = .inl (1, 256, .inl (fun _ => 0)) := by rw [e_h105, va_up_neq (nek0 (a := 28) (by decide))]; exact F_h102__k_28_
  have F_h105__k_29_ : h105 (k + 29) = .inl (1, 256, .inl (fun _ => 0)) := by rw [e_h105, va_up_neq (nek0 (a := 29) (by decide))]; exact F_h102__k_29_
  have F_h105__k_30_ : h105 (k + 30) = .inr (8, [.int 52, .ref (k + 31), .ref (k + 32), .ref (k + 33), .ref (k + 34), .ref (k + 35), .ref (k + 36), .int 0, .int 0]) := by rw [e_h105, va_up_neq (nek0 (a := 30) (by decide))]; exact F_h102__k_30_
  have F_h105__k_31_ : h105 (k + 31) = .inl (1, 53, .inl (fun _ => 0)) := by rw [e_h105, va_up_neq (nek0 (a := 31) (by decide))]; exact F_h102__k_31_
  have F_h105__k_32_ : h105 (k + 32) = .inl (1, 53, .inl (fun _ => 0)) := by rw [e_h105, va_up_neq (nek0 (a := 32) (by decide))]; exact F_h102__k_32_
  have F_h105__k_33_ : h105 (k + 33) = .inl (1, 53, .inl (fun _ => 0)) := by rw [e_h105, va_up_neq (nek0 (a := 33) (by decide))]; exact F_h102__k_33_
  have F_h105__k_34_ : h105 (k + 34) = .inl (1, 53, .inl (fun _ => 0)) := by rw [e_h105, va_up_neq (nek0 (a := 34) (by decide))]; exact F_h102__k_34_
  have F_h105__k_35_ : h105 (k + 35) = .inl (1, 512, .inl (fun _ => 0)) := by rw [e_h105, va_up_neq (nek0 (a := 35) (by decide))]; exact F_h102__k_35_
  have F_h105__k_36_ : h105 (k + 36) = .inl (1, 512, .inl (fun _ => 0)) := by rw [e_h105, va_up_neq (nek0 (a := 36) (by decide))]; exact F_h102__k_36_
  have F_h105__k_37_ : h105 (k + 37) = .inl (1, 3, .inl lat0) := by rw [e_h105, va_up_neq (nek0 (a := 37) (by decide))]; exact F_h102__k_37_
  have F_h105__k_38_ : h105 (k + 38) = .inr (9, [.ref (k + 39), .ref (k + 41), .ref (k + 45), .ref (k + 52), .ref (k + 59), .ref (k + 66)]) := by rw [e_h105, va_up_neq (nek0 (a := 38) (by decide))]; exact F_h102__k_38_
  have F_h105__k_39_ : h105 (k + 39) = .inr (7, [.ref (k + 40), .int 0, .int 0, .long 0, .int 0]) := by rw [e_h105, va_up_neq (nek0 (a := 39) (by decide))]; exact F_h102__k_39_
  have F_h105__k_40_ : h105 (k + 40) = .inl (0, 0, .inl (fun _ => 0)) := by rw [e_h105, va_up_neq (nek0 (a := 40) (by decide))]; exact F_h102__k_40_
  have F_h105__k_41_ : h105 (k + 41) = .inr (0, [.ref (k + 42), .ref (k + 43), .ref (k + 44), .int 0, .int 0]) := by rw [e_h105, va_up_neq (nek0 (a := 41) (by decide))]; exact F_h102__k_41_
  have F_h105__k_42_ : h105 (k + 42) = .inl (1, 256, .inl (fun _ => 0)) := by rw [e_h105, va_up_neq (nek0 (a := 42) (by decide))]; exact F_h102__k_42_
  have F_h105__k_43_ : h105 (k + 43) = .inl (1, 256, .inl (fun _ => 0)) := by rw [e_h105, va_up_neq (nek0 (a := 43) (by decide))]; exact F_h102__k_43_
  have F_h105__k_44_ : h105 (k + 44) = .inl (1, 13, .inl (fun _ => 0)) := by rw [e_h105, va_up_neq (nek0 (a := 44) (by decide))]; exact F_h102__k_44_
  have F_h105__k_45_ : h105 (k + 45) = .inr (8, [.int 35, .ref (k + 46), .ref (k + 47), .ref (k + 48), .ref (k + 49), .ref (k + 50), .ref (k + 51), .int 0, .int 0]) := by rw [e_h105, va_up_neq (nek0 (a := 45) (by decide))]; exact F_h102__k_45_
  have F_h105__k_46_ : h105 (k + 46) = .inl (1, 36, .inl (fun _ => 0)) := by rw [e_h105, va_up_neq (nek0 (a := 46) (by decide))]; exact F_h102__k_46_
  have F_h105__k_47_ : h105 (k + 47) = .inl (1, 36, .inl (fun _ => 0)) := by rw [e_h105, va_up_neq (nek0 (a := 47) (by decide))]; exact F_h102__k_47_
  have F_h105__k_48_ : h105 (k + 48) = .inl (1, 36, .inl (fun _ => 0)) := by rw [e_h105, va_up_neq (nek0 (a := 48) (by decide))]; exact F_h102__k_48_
  have F_h105__k_49_ : h105 (k + 49) = .inl (1, 36, .inl (fun _ => 0)) := by rw [e_h105, va_up_neq (nek0 (a := 49) (by decide))]; exact F_h102__k_49_
  have F_h105__k_50_ : h105 (k + 50) = .inl (1, 512, .inl (fun _ => 0)) := by rw [e_h105, va_up_neq (nek0 (a := 50) (by decide))]; exact F_h102__k_50_
  have F_h105__k_51_ : h105 (k + 51) = .inl (1, 512, .inl (fun _ => 0)) := by rw [e_h105, va_up_neq (nek0 (a := 51) (by decide))]; exact F_h102__k_51_
  have F_h105__k_52_ : h105 (k + 52) = .inr (8, [.int 31, .ref (k + 53), .ref (k + 54), .ref (k + 55), .ref (k + 56), .ref (k + 57), .ref (k + 58), .int 0, .int 0]) := by rw [e_h105, va_up_neq (nek0 (a := 52) (by decide))]; exact F_h102__k_52_
  have F_h105__k_53_ : h105 (k + 53) = .inl (1, 32, .inl (fun _ => 0)) := by rw [e_h105, va_up_neq (nek0 (a := 53) (by decide))]; exact F_h102__k_53_
  have F_h105__k_54_ : h105 (k + 54) = .inl (1, 32, .inl (fun _ => 0)) := by rw [e_h105, va_up_neq (nek0 (a := 54) (by decide))]; exact F_h102__k_54_
  have F_h105__k_55_ : h105 (k + 55) = .inl (1, 32, .inl (fun _ => 0)) := by rw [e_h105, va_up_neq (nek0 (a := 55) (by decide))]; exact F_h102__k_55_
  have F_h105__k_56_ : h105 (k + 56) = .inl (1, 32, .inl (fun _ => 0)) := by rw [e_h105, va_up_neq (nek0 (a := 56) (by decide))]; exact F_h102__k_56_
  have F_h105__k_57_ : h105 (k + 57) = .inl (1, 256, .inl (fun _ => 0)) := by rw [e_h105, va_up_neq (nek0 (a := 57) (by decide))]; exact F_h102__k_57_
  have F_h105__k_58_ : h105 (k + 58) = .inl (1, 256, .inl (fun _ => 0)) := by rw [e_h105, va_up_neq (nek0 (a := 58) (by decide))]; exact F_h102__k_58_
  have F_h105__k_59_ : h105 (k + 59) = .inr (8, [.int 52, .ref (k + 60), .ref (k + 61), .ref (k + 62), .ref (k + 63), .ref (k + 64), .ref (k + 65), .int 0, .int 0]) := by rw [e_h105, va_up_neq (nek0 (a := 59) (by decide))]; exact F_h102__k_59_
  have F_h105__k_60_ : h105 (k + 60) = .inl (1, 53, .inl (fun _ => 0)) := by rw [e_h105, va_up_neq (nek0 (a := 60) (by decide))]; exact F_h102__k_60_
  have F_h105__k_61_ : h105 (k + 61) = .inl (1, 53, .inl (fun _ => 0)) := by rw [e_h105, va_up_neq (nek0 (a := 61) (by decide))]; exact F_h102__k_61_
  have F_h105__k_62_ : h105 (k + 62) = .inl (1, 53, .inl (fun _ => 0)) := by rw [e_h105, va_up_neq (nek0 (a := 62) (by decide))]; exact F_h102__k_62_
  have F_h105__k_63_ : h105 (k + 63) = .inl (1, 53, .inl (fun _ => 0)) := by rw [e_h105, va_up_neq (nek0 (a := 63) (by decide))]; exact F_h102__k_63_
  have F_h105__k_64_ : h105 (k + 64) = .inl (1, 512, .inl (fun _ => 0)) := by rw [e_h105, va_up_neq (nek0 (a := 64) (by decide))]; exact F_h102__k_64_
  have F_h105__k_65_ : h105 (k + 65) = .inl (1, 512, .inl (fun _ => 0)) := by rw [e_h105, va_up_neq (nek0 (a := 65) (by decide))]; exact F_h102__k_65_
  have F_h105__k_66_ : h105 (k + 66) = .inl (1, 3, .inl lat0) := by rw [e_h105, va_up_neq (nek0 (a := 66) (by decide))]; exact F_h102__k_66_
  have F_h105__k_67_ : h105 (k + 67) = .inr (2, [.ref (k + 68), .ref (k + 69), .ref (k + 70), .ref (k + 77), .ref (k + 79)]) := by rw [e_h105, va_up_neq (nek0 (a := 67) (by decide))]; exact F_h102__k_67_
  have F_h105__k_68_ : h105 (k + 68) = .inl (1, 256, .inl (fun _ => 0)) := by rw [e_h105, va_up_neq (nek0 (a := 68) (by decide))]; exact F_h102__k_68_
  have F_h105__k_69_ : h105 (k + 69) = .inl (1, 12, .inl (fun _ => 0)) := by rw [e_h105, va_up_neq (nek0 (a := 69) (by decide))]; exact F_h102__k_69_
  have F_h105__k_70_ : h105 (k + 70) = .inr (8, [.int 11, .ref (k + 71), .ref (k + 72), .ref (k + 73), .ref (k + 74), .ref (k + 75), .ref (k + 76), .int 0, .int 0]) := by rw [e_h105, va_up_neq (nek0 (a := 70) (by decide))]; exact F_h102__k_70_
  have F_h105__k_71_ : h105 (k + 71) = .inl (1, 12, .inl (fun _ => 0)) := by rw [e_h105, va_up_neq (nek0 (a := 71) (by decide))]; exact F_h102__k_71_
  have F_h105__k_72_ : h105 (k + 72) = .inl (1, 12, .inl (fun _ => 0)) := by rw [e_h105, va_up_neq (nek0 (a := 72) (by decide))]; exact F_h102__k_72_
  have F_h105__k_73_ : h105 (k + 73) = .inl (1, 12, .inl (fun _ => 0)) := by rw [e_h105, va_up_neq (nek0 (a := 73) (by decide))]; exact F_h102__k_73_
  have F_h105__k_74_ : h105 (k + 74) = .inl (1, 12, .inl (fun _ => 0)) := by rw [e_h105, va_up_neq (nek0 (a := 74) (by decide))]; exact F_h102__k_74_
  have F_h105__k_75_ : h105 (k + 75) = .inl (1, 64, .inl (fun _ => 0)) := by rw [e_h105, va_up_neq (nek0 (a := 75) (by decide))]; exact F_h102__k_75_
  have F_h105__k_76_ : h105 (k + 76) = .inl (1, 64, .inl (fun _ => 0)) := by rw [e_h105, va_up_neq (nek0 (a := 76) (by decide))]; exact F_h102__k_76_
  have F_h105__k_77_ : h105 (k + 77) = .inr (7, [.ref (k + 78), .int 0, .int 0, .long 0, .int 0]) := by rw [e_h105, va_up_neq (nek0 (a := 77) (by decide))]; exact F_h102__k_77_
  have F_h105__k_78_ : h105 (k + 78) = .inl (0, 512, .inl (fun _ => 0)) := by rw [e_h105, va_up_neq (nek0 (a := 78) (by decide))]; exact F_h102__k_78_
  have F_h105__k_79_ : h105 (k + 79) = .inr (7, [.ref (k + 80), .int 0, .int 0, .long 0, .int 0]) := by rw [e_h105, va_up_neq (nek0 (a := 79) (by decide))]; exact F_h102__k_79_
  have F_h105__k_80_ : h105 (k + 80) = .inl (0, 512, .inl (fun _ => 0)) := by rw [e_h105, va_up_neq (nek0 (a := 80) (by decide))]; exact F_h102__k_80_
  have F_h105__k_81_ : h105 (k + 81) = .inr (6, [.ref (k + 82), .ref (k + 89), .ref (k + 108), .ref (k + 135), .ref (k + 162), .ref (k + 86), .ref (k + 87), .int 0, .ref (k + 88)]) := by rw [e_h105, va_up_neq (nek0 (a := 81) (by decide))]; exact F_h102__k_81_
  have F_h105__k_82_ : h105 (k + 82) = .inr (3, [.ref (k + 83), .int 0, .ref (k + 84), .ref (k + 85), .int 0, .int 0, .int 0, .int 0, .int 0, .int 0, .int 0, .int 0, .int 0]) := by rw [e_h105, va_up_neq (nek0 (a := 82) (by decide))]; exact F_h102__k_82_
  have F_h105__k_83_ : h105 (k + 83) = .inl (0, 16000, .inl (fun _ => 0)) := by rw [e_h105, va_up_neq (nek0 (a := 83) (by decide))]; exact F_h102__k_83_
  have F_h105__k_84_ : h105 (k + 84) = .inl (1, 16000, .inl (fun _ => 0)) := by rw [e_h105, va_up_neq (nek0 (a := 84) (by decide))]; exact F_h102__k_84_
  have F_h105__k_85_ : h105 (k + 85) = .inl (1, 4096, .inl (fun _ => 0)) := by rw [e_h105, va_up_neq (nek0 (a := 85) (by decide))]; exact F_h102__k_85_
  have F_h105__k_86_ : h105 (k + 86) = .inl (1, 3, .inl (fun _ => 0)) := by rw [e_h105, va_up_neq (nek0 (a := 86) (by decide))]; exact F_h102__k_86_
  have F_h105__k_87_ : h105 (k + 87) = .inl (1, 3, .inl (fun _ => 0)) := by rw [e_h105, va_up_neq (nek0 (a := 87) (by decide))]; exact F_h102__k_87_
  have F_h105__k_88_ : h105 (k + 88) = .inl (1, 12, .inl (fun _ => 0)) := by rw [e_h105, va_up_neq (nek0 (a := 88) (by decide))]; exact F_h102__k_88_
  have F_h105__k_89_ : h105 (k + 89) = .inr (5, [.ref (k + 90), .ref (k + 91), .int 0, .ref (k + 92), .ref (k + 96), .ref (k + 100), .ref (k + 67), .ref (k + 106), .int 0, .int 0, .int 0, .int 0]) := by rw [e_h105, va_up_neq (nek0 (a := 89) (by decide))]; exact F_h102__k_89_
  have F_h105__k_90_ : h105 (k + 90) = .inl (0, 8000, .inl (fun _ => 0)) := by rw [e_h105, va_up_neq (nek0 (a := 90) (by decide))]; exact F_h102__k_90_
  have F_h105__k_91_ : h105 (k + 91) = .inl (1, 256, .inl (fun _ => 0)) := by rw [e_h105, va_up_neq (nek0 (a := 91) (by decide))]; exact F_h102__k_91_
  have F_h105__k_92_ : h105 (k + 92) = .inr (0, [.ref (k + 93), .ref (k + 94), .ref (k + 95), .int 0, .int 0]) := by rw [e_h105, va_up_neq (nek0 (a := 92) (by decide))]; exact F_h102__k_92_
  have F_h105__k_93_ : h105 (k + 93) = .inl (1, 256, .inl (fun _ => 0)) := by rw [e_h105, va_up_neq (nek0 (a := 93) (by decide))]; exact F_h102__k_93_
  have F_h105__k_94_ : h105 (k + 94) = .inl (1, 256, .inl (fun _ => 0)) := by rw [e_h105, va_up_neq (nek0 (a := 94) (by decide))]; exact F_h102__k_94_
  have F_h105__k_95_ : h105 (k + 95) = .inl (1, 13, .inl (fun _ => 0)) := by rw [e_h105, va_up_neq (nek0 (a := 95) (by decide))]; exact F_h102__k_95_
  have F_h105__k_96_ : h105 (k + 96) = .inr (0, [.ref (k + 97), .ref (k + 98), .ref (k + 99), .int 0, .int 0]) := by rw [e_h105, va_up_neq (nek0 (a := 96) (by decide))]; exact F_h102__k_96_
  have F_h105__k_97_ : h105 (k + 97) = .inl (1, 256, .inl (fun _ => 0)) := by rw [e_h105, va_up_neq (nek0 (a := 97) (by decide))]; exact F_h102__k_97_
  have F_h105__k_98_ : h105 (k + 98) = .inl (1, 256, .inl (fun _ => 0)) := by rw [e_h105, va_up_neq (nek0 (a := 98) (by decide))]; exact F_h102__k_98_
  have F_h105__k_99_ : h105 (k + 99) = .inl (1, 13, .inl (fun _ => 0)) := by rw [e_h105, va_up_neq (nek0 (a := 99) (by decide))]; exact F_h102__k_99_
  have F_h105__k_100_ : h105 (k + 100) = .inr (4, [.ref (k + 101), .ref (k + 102), .ref (k + 103), .ref (k + 104), .ref (k + 105)]) := by rw [e_h105, va_up_neq (nek0 (a := 100) (by decide))]; exact F_h102__k_100_
  have F_h105__k_101_ : h105 (k + 101) = .inl (1, 256, .inl (fun _ => 0)) := by rw [e_h105, va_up_neq (nek0 (a := 101) (by decide))]; exact F_h102__k_101_
  have F_h105__k_102_ : h105 (k + 102) = .inl (1, 256, .inl (fun _ => 0)) := by rw [e_h105, va_up_neq (nek0 (a := 102) (by decide))]; exact F_h102__k_102_
  have F_h105__k_103_ : h105 (k + 103) = .inl (1, 512, .inl (fun _ => 0)) := by rw [e_h105, va_up_neq (nek0 (a := 103) (by decide))]; exact F_h102__k_103_
  have F_h105__k_104_ : h105 (k + 104) = .inl (1, 512, .inl (fun _ => 0)) := by rw [e_h105, va_up_neq (nek0 (a := 104) (by decide))]; exact F_h102__k_104_
  have F_h105__k_105_ : h105 (k + 105) = .inl (1, 512, .inl (fun _ => 0)) := by rw [e_h105, va_up_neq (nek0 (a := 105) (by decide))]; exact F_h102__k_105_
  have F_h105__k_106_ : h105 (k + 106) = .inr (7, [.ref (k + 107), .int 0, .int 0, .long 0, .int 0]) := by rw [e_h105, va_up_neq (nek0 (a := 106) (by decide))]; exact F_h102__k_106_
  have F_h105__k_107_ : h105 (k + 107) = .inl (0, 256, .inl (fun _ => 0)) := by rw [e_h105, va_up_neq (nek0 (a := 107) (by decide))]; exact F_h102__k_107_
  have F_h105__k_108_ : h105 (k + 108) = .inr (1, [.ref (aBig + 3), .ref (aBig + 4), .int 9, .ref (k + 109), .ref (k + 110), .ref (k + 113), .int 0, .int 0, .int 0, .ref (k + 114), .ref (k + 121), .ref (k + 128), .ref (k + 114), .ref (k + 111), .int 0, .int 0, .int 0, .int 0]) := by rw [e_h105, va_up_neq (nek0 (a := 108) (by decide))]; exact F_h102__k_108_
  have F_h105__k_109_ : h105 (k + 109) = .inl (1, 2667, .inl (fun _ => 0)) := by rw [e_h105, va_up_neq (nek0 (a := 109) (by decide))]; exact F_h102__k_109_
  have F_h105__k_110_ : h105 (k + 110) = .inl (1, 2667, .inl (fun _ => 0)) := by rw [e_h105, va_up_neq (nek0 (a := 110) (by decide))]; exact F_h102__k_110_
  have F_h105__k_111_ : h105 (k + 111) = .inr (7, [.ref (k + 112), .int 0, .int 0, .long 0, .int 0]) := by rw [e_h105, va_up_neq (nek0 (a := 111) (by decide))]; exact F_h102__k_111_
  have F_h105__k_112_ : h105 (k + 112) = .inl (0, 128, .inl (fun _ => 0)) := by rw [e_h105, va_up_neq (nek0 (a := 112) (by decide))]; exact F_h102__k_112_
  have F_h105__k_113_ : h105 (k + 113) = .inl (1, 36, .inl (fun _ => 0)) := by rw [e_h105, va_up_neq (nek0 (a := 113) (by decide))]; exact F_h102__k_113_
  have F_h105__k_114_ : h105 (k + 114) = .inr (8, [.int 35, .ref (k + 115), .ref (k + 116), .ref (k + 117), .ref (k + 118), .ref (k + 119), .ref (k + 120), .int 6, .int 1]) := by rw [e_h105, va_up_neq (nek0 (a := 114) (by decide))]; exact F_h102__k_114_
  have F_h105__k_115_ : h105 (k + 115) = .inl (1, 36, .inl pA) := by rw [e_h105, va_up_neq (nek0 (a := 115) (by decide))]; exact F_h102__k_115_
  have F_h105__k_116_ : h105 (k + 116) = .inl (1, 36, .inl (fun _ => 0)) := by rw [e_h105, va_up_neq (nek0 (a := 116) (by decide))]; exact F_h102__k_116_
  have F_h105__k_117_ : h105 (k + 117) = .inl (1, 36, .inl fA) := by rw [e_h105, va_up_neq (nek0 (a := 117) (by decide))]; exact F_h102__k_117_
  have F_h105__k_118_ : h105 (k + 118) = .inl (1, 36, .inl wA) := by rw [e_h105, va_up_neq (nek0 (a := 118) (by decide))]; exact F_h102__k_118_
  have F_h105__k_119_ : h105 (k + 119) = .inl (1, 512, .inl oA) := by rw [e_h105, va_up_neq (nek0 (a := 119) (by decide))]; exact F_h102__k_119_
  have F_h105__k_120_ : h105 (k + 120) = .inl (1, 512, .inl sA) := by rw [e_h105, va_up_neq (nek0 (a := 120) (by decide))]; exact F_h102__k_120_
  have F_h105__k_121_ : h105 (k + 121) = .inr (8, [.int 35, .ref (k + 122), .ref (k + 123), .ref (k + 124), .ref (k + 125), .ref (k + 126), .ref (k + 127), .int 0, .int 0]) := by rw [e_h105, va_up_neq (nek0 (a := 121) (by decide))]; exact F_h102__k_121_
  have F_h105__k_122_ : h105 (k + 122) = .inl (1, 36, .inl (fun _ => 0)) := by rw [e_h105, va_up_neq (nek0 (a := 122) (by decide))]; exact F_h102__k_122_
  have F_h105__k_123_ : h105 (k + 123) = .inl (1, 36, .inl (fun _ => 0)) := by rw [e_h105, va_up_neq (nek0 (a := 123) (by decide))]; exact F_h102__k_123_
  have F_h105__k_124_ : h105 (k + 124) = .inl (1, 36, .inl (fun _ => 0)) := by rw [e_h105, va_up_neq (nek0 (a := 124) (by decide))]; exact F_h102__k_124_
  have F_h105__k_125_ : h105 (k + 125) = .inl (1, 36, .inl (fun _ => 0)) := by rw [e_h105, va_up_neq (nek0 (a := 125) (by decide))]; exact F_h102__k_125_
  have F_h105__k_126_ : h105 (k + 126) = .inl (1, 512, .inl (fun _ => 0)) := by rw [e_h105, va_up_neq (nek0 (a := 126) (by decide))]; exact F_h102__k_126_
  have F_h105__k_127_ : h105 (k + 127) = .inl (1, 512, .inl (fun _ => 0)) := by rw [e_h105, va_up_neq (nek0 (a := 127) (by decide))]; exact F_h102__k_127_
  have F_h105__k_128_ : h105 (k + 128) = .inr (8, [.int 35, .ref (k + 129), .ref (k + 130), .ref (k + 131), .ref (k + 132), .ref (k + 133), .ref (k + 134), .int 0, .int 0]) := by rw [e_h105, va_up_neq (nek0 (a := 128) (by decide))]; exact F_h102__k_128_
  have F_h105__k_129_ : h105 (k + 129) = .inl (1, 36, .inl (fun _ => 0)) := by rw [e_h105, va_up_neq (nek0 (a := 129) (by decide))]; exact F_h102__k_129_
  have F_h105__k_130_ : h105 (k + 130) = .inl (1, 36, .inl (fun _ => 0)) := by rw [e_h105, va_up_neq (nek0 (a := 130) (by decide))]; exact F_h102__k_130_
  have F_h105__k_131_ : h105 (k + 131) = .inl (1, 36, .inl (fun _ => 0)) := by rw [e_h105, va_up_neq (nek0 (a := 131) (by decide))]; exact F_h102__k_131_
  have F_h105__k_132_ : h105 (k + 132) = .inl (1, 36, .inl (fun _ => 0)) := by rw [e_h105, va_up_neq (nek0 (a := 132) (by decide))]; exact F_h102__k_132_
  have F_h105__k_133_ : h105 (k + 133) = .inl (1, 512, .inl (fun _ => 0)) := by rw [e_h105, va_up_neq (nek0 (a := 133) (by decide))]; exact F_h102__k_133_
  have F_h105__k_134_ : h105 (k + 134) = .inl (1, 512, .inl (fun _ => 0)) := by rw [e_h105, va_up_neq (nek0 (a := 134) (by decide))]; exact F_h102__k_134_
  have F_h105__k_135_ : h105 (k + 135) = .inr (1, [.ref (aBig + 5), .ref (aBig + 6), .int 8, .ref (k + 136), .ref (k + 137), .ref (k + 140), .int 0, .int 0, .int 0, .ref (k + 141), .ref (k + 148), .ref (k + 155), .ref (k + 141), .ref (k + 138), .int 0, .int 0, .int 0, .int 0]) := by rw [e_h105, va_up_neq (nek0 (a := 135) (by decide))]; exact F_h102__k_135_
  have F_h105__k_136_ : h105 (k + 136) = .inl (1, 2667, .inl (fun _ => 0)) := by rw [e_h105, va_up_neq (nek0 (a := 136) (by decide))]; exact F_h102__k_136_
  have F_h105__k_137_ : h105 (k + 137) = .inl (1, 2667, .inl (fun _ => 0)) := by rw [e_h105, va_up_neq (nek0 (a := 137) (by decide))]; exact F_h102__k_137_
  have F_h105__k_138_ : h105 (k + 138) = .inr (7, [.ref (k + 139), .int 0, .int 0, .long 0, .int 0]) := by rw [e_h105, va_up_neq (nek0 (a := 138) (by decide))]; exact F_h102__k_138_
  have F_h105__k_139_ : h105 (k + 139) = .inl (0, 128, .inl (fun _ => 0)) := by rw [e_h105, va_up_neq (nek0 (a := 139) (by decide))]; exact F_h102__k_139_
  have F_h105__k_140_ : h105 (k + 140) = .inl (1, 32, .inl (fun _ => 0)) := by rw [e_h105, va_up_neq (nek0 (a := 140) (by decide))]; exact F_h102__k_140_
  have F_h105__k_141_ : h105 (k + 141) = .inr (8, [.int 31, .ref (k + 142), .ref (k + 143), .ref (k + 144), .ref (k + 145), .ref (k + 146), .ref (k + 147), .int 5, .int 1]) := by rw [e_h105, va_up_neq (nek0 (a := 141) (by decide))]; exact F_h102__k_141_
  have F_h105__k_142_ : h105 (k + 142) = .inl (1, 32, .inl pB) := by rw [e_h105, va_up_neq (nek0 (a := 142) (by decide))]; exact F_h102__k_142_
  have F_h105__k_143_ : h105 (k + 143) = .inl (1, 32, .inl (fun _ => 0)) := by rw [e_h105, va_up_neq (nek0 (a := 143) (by decide))]; exact F_h102__k_143_
  have F_h105__k_144_ : h105 (k + 144) = .inl (1, 32, .inl fB) := by rw [e_h105, va_up_neq (nek0 (a := 144) (by decide))]; exact F_h102__k_144_
  have F_h105__k_145_ : h105 (k + 145) = .inl (1, 32, .inl wB) := by rw [e_h105, va_up_neq (nek0 (a := 145) (by decide))]; exact F_h102__k_145_
  have F_h105__k_146_ : h105 (k + 146) = .inl (1, 256, .inl oB) := by rw [e_h105, va_up_neq (nek0 (a := 146) (by decide))]; exact F_h102__k_146_
  have F_h105__k_147_ : h105 (k + 147) = .inl (1, 256, .inl sB) := by rw [e_h105, va_up_neq (nek0 (a := 147) (by decide))]; exact F_h102__k_147_
  have F_h105__k_148_ : h105 (k + 148) = .inr (8, [.int 31, .ref (k + 149), .ref (k + 150), .ref (k + 151), .ref (k + 152), .ref (k + 153), .ref (k + 154), .int 0, .int 0]) := by rw [e_h105, va_up_neq (nek0 (a := 148) (by decide))]; exact F_h102__k_148_
  have F_h105__k_149_ : h105 (k + 149) = .inl (1, 32, .inl (fun _ => 0)) := by rw [e_h105, va_up_neq (nek0 (a := 149) (by decide))]; exact F_h102__k_149_
  have F_h105__k_150_ : h105 (k + 150) = .inl (1, 32, .inl (fun _ => 0)) := by rw [e_h105, va_up_neq (nek0 (a := 150) (by decide))]; exact F_h102__k_150_
  have F_h105__k_151_ : h105 (k + 151) = .inl (1, 32, .inl (fun _ => 0)) := by rw [e_h105, va_up_neq (nek0 (a := 151) (by decide))]; exact F_h102__k_151_
  have F_h105__k_152_ : h105 (k + 152) = .inl (1, 32, .inl (fun _ => 0)) := by rw [e_h105, va_up_neq (nek0 (a := 152) (by decide))]; exact F_h102__k_152_
  have F_h105__k_153_ : h105 (k + 153) = .inl (1, 256, .inl (fun _ => 0)) := by rw [e_h105, va_up_neq (nek0 (a := 153) (by decide))]; exact F_h102__k_153_
  have F_h105__k_154_ : h105 (k + 154) = .inl (1, 256, .inl (fun _ => 0)) := by rw [e_h105, va_up_neq (nek0 (a := 154) (by decide))]; exact F_h102__k_154_
  have F_h105__k_155_ : h105 (k + 155) = .inr (8, [.int 31, .ref (k + 156), .ref (k + 157), .ref (k + 158), .ref (k + 159), .ref (k + 160), .ref (k + 161), .int 0, .int 0]) := by rw [e_h105, va_up_neq (nek0 (a := 155) (by decide))]; exact F_h102__k_155_
  have F_h105__k_156_ : h105 (k + 156) = .inl (1, 32, .inl (fun _ => 0)) := by rw [e_h105, va_up_neq (nek0 (a := 156) (by decide))]; exact F_h102__k_156_
  have F_h105__k_157_ : h105 (k + 157) = .inl (1, 32, .inl (fun _ => 0)) := by rw [e_h105, va_up_neq (nek0 (a := 157) (by decide))]; exact F_h102__k_157_
  have F_h105__k_158_ : h105 (k + 158) = .inl (1, 32, .inl (fun _ => 0)) := by rw [e_h105, va_up_neq (nek0 (a := 158) (by decide))]; exact F_h102__k_158_
  have F_h105__k_159_ : h105 (k + 159) = .inl (1, 32, .inl (fun _ => 0)) := by rw [e_h105, va_up_neq (nek0 (a := 159) (by decide))]; exact F_h102__k_159_
  have F_h105__k_160_ : h105 (k + 160) = .inl (1, 256, .inl (fun _ => 0)) := by rw [e_h105, va_up_neq (nek0 (a := 160) (by decide))]; exact F_h102__k_160_
  have F_h105__k_161_ : h105 (k + 161) = .inl (1, 256, .inl (fun _ => 0)) := by rw [e_h105, va_up_neq (nek0 (a := 161) (by decide))]; exact F_h102__k_161_
  have F_h105__k_162_ : h105 (k + 162) = .inr (1, [.ref (aBig + 7), .ref (aBig + 8), .int 9, .ref (k + 163), .ref (k + 164), .ref (k + 167), .int 0, .int 0, .int 0, .ref (k + 168), .ref (k + 175), .ref (k + 182), .ref (k + 168), .ref (k + 165), .int 0, .int 0, .int 0, .int 0]) := by rw [e_h105, va_up_neq (nek0 (a := 162) (by decide))]; exact F_h102__k_162_
  have F_h105__k_163_ : h105 (k + 163) = .inl (1, 2667, .inl (fun _ => 0)) := by rw [e_h105, va_up_neq (nek0 (a := 163) (by decide))]; exact F_h102__k_163_
  have F_h105__k_164_ : h105 (k + 164) = .inl (1, 2667, .inl (fun _ => 0)) := by rw [e_h105, va_up_neq (nek0 (a := 164) (by decide))]; exact F_h102__k_164_
  have F_h105__k_165_ : h105 (k + 165) = .inr (7, [.ref (k + 166), .int 0, .int 0, .long 0, .int 0]) := by rw [e_h105, va_up_neq (nek0 (a := 165) (by decide))]; exact F_h102__k_165_
  have F_h105__k_166_ : h105 (k + 166) = .inl (0, 128, .inl (fun _ => 0)) := by rw [e_h105, va_up_neq (nek0 (a := 166) (by decide))]; exact F_h102__k_166_
  have F_h105__k_167_ : h105 (k + 167) = .inl (1, 53, .inl (fun _ => 0)) := by rw [e_h105, va_up_neq (nek0 (a := 167) (by decide))]; exact F_h102__k_167_
  have F_h105__k_168_ : h105 (k + 168) = .inr (8, [.int 52, .ref (k + 169), .ref (k + 170), .ref (k + 171), .ref (k + 172), .ref (k + 173), .ref (k + 174), .int 6, .int 1]) := by rw [e_h105, va_up_neq (nek0 (a := 168) (by decide))]; exact F_h102__k_168_
  have F_h105__k_169_ : h105 (k + 169) = .inl (1, 53, .inl pC) := by rw [e_h105, va_up_neq (nek0 (a := 169) (by decide))]; exact F_h102__k_169_
  have F_h105__k_170_ : h105 (k + 170) = .inl (1, 53, .inl (fun _ => 0)) := by rw [e_h105, va_up_neq (nek0 (a := 170) (by decide))]; exact F_h102__k_170_
  have F_h105__k_171_ : h105 (k + 171) = .inl (1, 53, .inl fC) := by rw [e_h105, va_up_neq (nek0 (a := 171) (by decide))]; exact F_h102__k_171_
  have F_h105__k_172_ : h105 (k + 172) = .inl (1, 53, .inl wC) := by rw [e_h105, va_up_neq (nek0 (a := 172) (by decide))]; exact F_h102__k_172_
  have F_h105__k_173_ : h105 (k + 173) = .inl (1, 512, .inl oC) := by rw [e_h105, va_up_neq (nek0 (a := 173) (by decide))]; exact F_h102__k_173_
  have F_h105__k_174_ : h105 (k + 174) = .inl (1, 512, .inl sC) := by rw [e_h105, va_up_neq (nek0 (a := 174) (by decide))]; exact F_h102__k_174_
  have F_h105__k_175_ : h105 (k + 175) = .inr (8, [.int 52, .ref (k + 176), .ref (k + 177), .ref (k + 178), .ref (k + 179), .ref (k + 180), .ref (k + 181), .int 0, .int 0]) := by rw [e_h105, va_up_neq (nek0 (a := 175) (by decide))]; exact F_h102__k_175_
  have F_h105__k_176_ : h105 (k + 176) = .inl (1, 53, .inl (fun _ => 0)) := by rw [e_h105, va_up_neq (nek0 (a := 176) (by decide))]; exact F_h102__k_176_
  have F_h105__k_177_ : h105 (k + 177) = .inl (1, 53, .inl (fun _ => 0)) := by rw [e_h105, va_up_neq (nek0 (a := 177) (by decide))]; exact F_h102__k_177_
  have F_h105__k_178_ : h105 (k + 178) = .inl (1, 53, .inl (fun _ => 0)) := by rw [e_h105, va_up_neq (nek0 (a := 178) (by decide))]; exact F_h102__k_178_
  have F_h105__k_179_ : h105 (k + 179) = .inl (1, 53, .inl (fun _ => 0)) := by rw [e_h105, va_up_neq (nek0 (a := 179) (by decide))]; exact F_h102__k_179_
  have F_h105__k_180_ : h105 (k + 180) = .inl (1, 512, .inl (fun _ => 0)) := by rw [e_h105, va_up_neq (nek0 (a := 180) (by decide))]; exact F_h102__k_180_
  have F_h105__k_181_ : h105 (k + 181) = .inl (1, 512, .inl (fun _ => 0)) := by rw [e_h105, va_up_neq (nek0 (a := 181) (by decide))]; exact F_h102__k_181_
  have F_h105__k_182_ : h105 (k + 182) = .inr (8, [.int 52, .ref (k + 183), .ref (k + 184), .ref (k + 185), .ref (k + 186), .ref (k + 187), .ref (k + 188), .int 0, .int 0]) := by rw [e_h105, va_up_neq (nek0 (a := 182) (by decide))]; exact F_h102__k_182_
  have F_h105__k_183_ : h105 (k + 183) = .inl (1, 53, .inl (fun _ => 0)) := by rw [e_h105, va_up_neq (nek0 (a := 183) (by decide))]; exact F_h102__k_183_
  have F_h105__k_184_ : h105 (k + 184) = .inl (1, 53, .inl (fun _ => 0)) := by rw [e_h105, va_up_neq (nek0 (a := 184) (by decide))]; exact F_h102__k_184_
  have F_h105__k_185_ : h105 (k + 185) = .inl (1, 53, .inl (fun _ => 0)) := by rw [e_h105, va_up_neq (nek0 (a := 185) (by decide))]; exact F_h102__k_185_
  have F_h105__k_186_ : h105 (k + 186) = .inl (1, 53, .inl (fun _ => 0)) := by rw [e_h105, va_up_neq (nek0 (a := 186) (by decide))]; exact F_h102__k_186_
  have F_h105__k_187_ : h105 (k + 187) = .inl (1, 512, .inl (fun _ => 0)) := by rw [e_h105, va_up_neq (nek0 (a := 187) (by decide))]; exact F_h102__k_187_
  have F_h105__k_188_ : h105 (k + 188) = .inl (1, 512, .inl (fun _ => 0)) := by rw [e_h105, va_up_neq (nek0 (a := 188) (by decide))]; exact F_h102__k_188_
  have FR_h105 : ∀ j, j < k ∨ aBig ≤ j → h105 j = h j := fun j hj => by rw [e_h105]; exact (va_up_neq (frne0 hj hbig)).trans (FR_h102 j hj)
  clear F_h102_k F_h102__k_1_ F_h102__k_2_ F_h102__k_3_ F_h102__k_4_ F_h102__k_5_ F_h102__k_6_ F_h102__k_7_ F_h102__k_8_ F_h102__k_9_ F_h102__k_10_ F_h102__k_11_ F_h102__k_12_ F_h102__k_13_ F_h102__k_14_ F_h102__k_15_ F_h102__k_16_ F_h102__k_17_ F_h102__k_18_ F_h102__k_19_ F_h102__k_20_ F_h102__k_21_ F_h102__k_22_ F_h102__k_23_ F_h102__k_24_ F_h102__k_25_ F_h102__k_26_ F_h102__k_27_ F_h102__k_28_ F_h102__k_29_ F_h102__k_30_ F_h102__k_31_ F_h102__k_32_ F_h102__k_33_ F_h102__k_34_ F_h102__k_35_ F_h102__k_36_ F_h102__k_37_ F_h102__k_38_ F_h102__k_39_ F_h102__k_40_ F_h102__k_41_ F_h102__k_42_ F_h102__k_43_ F_h102__k_44_ F_h102__k_45_ F_h102__k_46_ F_h102__k_47_ F_h102__k_48_ F_h102__k_49_ F_h102__k_50_ F_h102__k_51_ F_h102__k_52_ F_h102__k_53_ F_h102__k_54_ F_h102__k_55_ F_h102__k_56_ F_h102__k_57_ F_h102__k_58_ F_h102__k_59_ F_h102__k_60_ F_h102__k_61_ F_h102__k_62_ F_h102__k_63_ F_h102__k_64_ F_h102__k_65_ F_h102__k_66_ F_h102__k_67_ F_h102__k_68_ F_h102__k_69_ F_h102__k_70_ F_h102__k_71_ F_h102__k_72_ F_h102__k_73_ F_h102__k_74_ F_h102__k_75_ F_h102__k_76_ F_h102__k_77_ F_h102__k_78_ F_h102__k_79_ F_h102__k_80_ F_h102__k_81_ F_h102__k_82_ F_h102__k_83_ F_h102__k_84_ F_h102__k_85_ F_h102__k_86_ F_h102__k_87_ F_h102__k_88_ F_h102__k_89_ F_h102__k_90_ F_h102__k_91_ F_h102__k_92_ F_h102__k_93_ F_h102__k_94_ F_h102__k_95_ F_h102__k_96_ F_h102__k_97_ F_h102__k_98_ F_h102__k_99_ F_h102__k_100_ F_h102__k_101_ F_h102__k_102_ F_h102__k_103_ F_h102__k_104_ F_h102__k_105_ F_h102__k_106_ F_h102__k_107_ F_h102__k_108_ F_h102__k_109_ F_h102__k_110_ F_h102__k_111_ F_h102__k_112_ F_h102__k_113_ F_h102__k_114_ F_h102__k_115_ F_h102__k_116_ F_h102__k_117_ F_h102__k_118_ F_h102__k_119_ F_h102__k_120_ F_h102__k_121_ F_h102__k_122_ F_h102__k_123_ F_h102__k_124_ F_h102__k_125_ F_h102__k_126_ F_h102__k_127_ F_h102__k_128_ F_h102__k_129_ F_h102__k_130_ F_h102__k_131_ F_h102__k_132_ F_h102__k_133_ F_h102__k_134_ F_h102__k_135_ F_h102__k_136_ F_h102__k_137_ F_h102__k_138_ F_h102__k_139_ F_h102__k_140_ F_h102__k_141_ F_h102__k_142_ F_h102__k_143_ F_h102__k_144_ F_h102__k_145_ F_h102__k_146_ F_h102__k_147_ F_h102__k_148_ F_h102__k_149_ F_h102__k_150_ F_h102__k_151_ F_h102__k_152_ F_h102__k_153_ F_h102__k_154_ F_h102__k_155_ F_h102__k_156_ F_h102__k_157_ F_h102__k_158_ F_h102__k_159_ F_h102__k_160_ F_h102__k_161_ F_h102__k_162_ F_h102__k_163_ F_h102__k_164_ F_h102__k_165_ F_h102__k_166_ F_h102__k_167_ F_h102__k_168_ F_h102__k_169_ F_h102__k_170_ F_h102__k_171_ F_h102__k_172_ F_h102__k_173_ F_h102__k_174_ F_h102__k_175_ F_h102__k_176_ F_h102__k_177_ F_h102__k_178_ F_h102__k_179_ F_h102__k_180_ F_h102__k_181_ F_h102__k_182_ F_h102__k_183_ F_h102__k_184_ F_h102__k_185_ F_h102__k_186_ F_h102__k_187_ F_h102__k_188_ FR_h102 e_h105
  clear h102
  refine WX.s1 rfl rfl ?_
  refine WX.s1 rfl rfl ?_
  refine WX.newaN (N := 12) (z0 := .inl (fun _ => 0)) rfl (by decide) (by decide) (bigk (k := k) (a := 190) hbig (by decide)) rfl (fun h111 e_h111 => ?_)
  have F_h111_k : h111 k = .inr (10, [.ref (k + 1), .ref (k + 3), .ref (k + 5), .ref (k + 7), .long 0, .ref (k + 9), .ref (k + 38), .ref (k + 67), .ref (k + 81), .null, .int 0, .int 0]) := by rw [e_h111, va_up_neq (nek1 (a := 189) (by decide))]; exact F_h105_k
  have F_h111__k_1_ : h111 (k + 1) = .inr (7, [.ref (k + 2), .int 0, .int 0, .long 0, .int 0]) := by rw [e_h111, va_up_neq (nek (a := 1) (b := 189) (by decide))]; exact F_h105__k_1_
  have F_h111__k_2_ : h111 (k + 2) = .inl (0, 8000, .inl (fun _ => 0)) := by rw [e_h111, va_up_neq (nek (a := 2) (b := 189) (by decide))]; exact F_h105__k_2_
  have F_h111__k_3_ : h111 (k + 3) = .inr (7, [.ref (k + 4), .int 0, .int 0, .long 0, .int 0]) := by rw [e_h111, va_up_neq (nek (a := 3) (b := 189) (by decide))]; exact F_h105__k_3_
  have F_h111__k_4_ : h111 (k + 4) = .inl (0, 12000, .inl (fun _ => 0)) := by rw [e_h111, va_up_neq (nek (a := 4) (b := 189) (by decide))]; exact F_h105__k_4_
  have F_h111__k_5_ : h111 (k + 5) = .inr (7, [.ref (k + 6), .int 0, .int 0, .long 0, .int 0]) := by rw [e_h111, va_up_neq (nek (a := 5) (b := 189) (by decide))]; exact F_h105__k_5_
  have F_h111__k_6_ : h111 (k + 6) = .inl (0, 12000, .inl (fun _ => 0)) := by rw [e_h111, va_up_neq (nek (a := 6) (b := 189) (by decide))]; exact F_h105__k_6_
  have F_h111__k_7_ : h111 (k + 7) = .inr (7, [.ref (k + 8), .int 0, .int 0, .long 0, .int 0]) := by rw [e_h111, va_up_neq (nek (a := 7) (b := 189) (by decide))]; exact F_h105__k_7_
  have F_h111__k_8_ : h111 (k + 8) = .inl (0, 8000, .inl (fun _ => 0)) := by rw [e_h111, va_up_neq (nek (a := 8) (b := 189) (by decide))]; exact F_h105__k_8_
  have F_h111__k_9_ : h111 (k + 9) = .inr (9, [.ref (k + 10), .ref (k + 12), .ref (k + 16), .ref (k + 23), .ref (k + 30), .ref (k + 37)]) := by rw [e_h111, va_up_neq (nek (a := 9) (b := 189) (by decide))]; exact F_h105__k_9_
  have F_h111__k_10_ : h111 (k + 10) = .inr (7, [.ref (k + 11), .int 0, .int 0, .long 0, .int 0]) := by rw [e_h111, va_up_neq (nek (a := 10) (b := 189) (by decide))]; exact F_h105__k_10_
  have F_h111__k_11_ : h111 (k + 11) = .inl (0, 0, .inl (fun _ => 0)) := by rw [e_h111, va_up_neq (nek (a := 11) (b := 189) (by decide))]; exact F_h105__k_11_
  have F_h111__k_12_ : h111 (k + 12) = .inr (0, [.ref (k + 13), .ref (k + 14), .ref (k + 15), .int 0, .int 0]) := by rw [e_h111, va_up_neq (nek (a := 12) (b := 189) (by decide))]; exact F_h105__k_12_
  have F_h111__k_13_ : h111 (k + 13) = .inl (1, 256, .inl (fun _ => 0)) := by rw [e_h111, va_up_neq (nek (a := 13) (b := 189) (by decide))]; exact F_h105__k_13_
  have F_h111__k_14_ : h111 (k + 14) = .inl (1, 256, .inl (fun _ => 0)) := by rw [e_h111, va_up_neq (nek (a := 14) (b := 189) (by decide))]; exact F_h105__k_14_
  have F_h111__k_15_ : h111 (k + 15) = .inl (1, 13, .inl (fun _ => 0)) := by rw [e_h111, va_up_neq (nek (a := 15) (b := 189) (by decide))]; exact F_h105__k_15_
  have F_h111__k_16_ : h111 (k + 16) = .inr (8, [.int 35, .ref (k + 17), .ref (k + 18), .ref (k + 19), .ref (k + 20), .ref (k + 21), .ref (k + 22), .int 0, .int 0]) := by rw [e_h111, va_up_neq (nek (a := 16) (b := 189) (by decide))]; exact F_h105__k_16_
  have F_h111__k_17_ : h111 (k + 17) = .inl (1, 36, .inl (fun _ => 0)) := by rw [e_h111, va_up_neq (nek (a := 17) (b := 189) (by decide))]; exact F_h105__k_17_
  have F_h111__k_18_ : h111 (k + 18) = .inl (1, 36, .inl (fun _ => 0)) := by rw [e_h111, va_up_neq (nek (a := 18) (b := 189) (by decide))]; exact F_h105__k_18_
  have F_h111__k_19_ : h111 (k + 19) = .inl (1, 36, .inl (fun _ => 0)) := by rw [e_h111, va_up_neq (nek (a := 19) (b := 189) (by decide))]; exact F_h105__k_19_
  have F_h111__k_20_ : h111 (k + 20) = .inl (1, 36, .inl (fun _ => 0)) := by rw [e_h111, va_up_neq (nek (a := 20) (b := 189) (by decide))]; exact F_h105__k_20_
  have F_h111__k_21_ : h111 (k + 21) = .inl (1, 512, .inl (fun _ => 0)) := by rw [e_h111, va_up_neq (nek (a := 21) (b := 189) (by decide))]; exact F_h105__k_21_
  have F_h111__k_22_ : h111 (k + 22) = .inl (1, 512, .inl (fun _ => 0)) := by rw [e_h111, va_up_neq (nek (a := 22) (b := 189) (by decide))]; exact F_h105__k_22_
  have F_h111__k_23_ : h111 (k + 23) = .inr (8, [.int 31, .ref (k + 24), .ref (k + 25), .ref (k + 26), .ref (k + 27), .ref (k + 28), .ref (k + 29), .int 0, .int 0]) := by rw [e_h111, va_up_neq (nek (a := 23) (b := 189) (by decide))]; exact F_h105__k_23_
  have F_h111__k_24_ : h111 (k + 24) = .inl (1, 32, .inl (fun _ => 0)) := by rw [e_h111, va_up_neq (nek (a := 24) (b := 189) (by decide))]; exact F_h105__k_24_
  have F_h111__k_25_ : h111 (k + 25) = .inl (1, 32, .inl (fun _ => 0)) := by rw [e_h111, va_up_neq (nek (a := 25) (b := 189) (by decide))]; exact F_h105__k_25_
  have F_h111__k_26_ : h111 (k + 26) = .inl (1, 32, .inl (fun _ => 0)) := by rw [e_h111, va_up_neq (nek (a := 26) (b := 189) (by decide))]; exact F_h105__k_26_
  have F_h111__k_27_ : h111 (k + 27) = .inl (1, 32, .inl (fun _ => 0)) := by rw [e_h111, va_up_neq (nek (a := 27) (b := 189) (by decide))]; exact F_h105__k_27_
  have F_h111__k_28_ : h111 (k + 28) = .inl (1, 256, .inl (fun _ => 0)) := by rw [e_h111, va_up_neq (nek (a := 28) (b := 189) (by decide))]; exact F_h105__k_28_
  have F_h111__k_29_ : h111 (k + 29) = .inl (1, 256, .inl (fun _ => 0)) := by rw [e_h111, va_up_neq (nek (a := 29) (b := 189) (by decide))]; exact F_h105__k_29_
  have F_h111__k_30_ : h111 (k + 30) = .inr (8, [.int 52, .ref (k + 31), .ref (k + 32), .ref (k + 33), .ref (k + 34), .ref (k + 35), .ref (k + 36), .int 0, .int 0]) := by rw [e_h111, va_up_neq (nek (a := 30) (b := 189) (by decide))]; exact F_h105__k_30_
  have F_h111__k_31_ : h111 (k + 31) = .inl (1, 53, .inl (fun _ => 0)) := by rw [e_h111, va_up_neq (nek (a := 31) (b := 189) (by decide))]; exact F_h105__k_31_
  have F_h111__k_32_ : h111 (k + 32) = .inl (1, 53, .inl (fun _ => 0)) := by rw [e_h111, va_up_neq (nek (a := 32) (b := 189) (by decide))]; exact F_h105__k_32_
  have F_h111__k_33_ : h111 (k + 33) = .inl (1, 53, .inl (fun _ => 0)) := by rw [e_h111, va_up_neq (nek (a := 33) (b := 189) (by decide))]; exact F_h105__k_33_
  have F_h111__k_34_ : h111 (k + 34) = .inl (1, 53, .inl (fun _ => 0)) := by rw [e_h111, va_up_neq (nek (a := 34) (b := 189) (by decide))]; exact F_h105__k_34_
  have F_h111__k_35_ : h111 (k + 35) = .inl (1, 512, .inl (fun _ => 0)) := by rw [e_h111, va_up_neq (nek (a := 35) (b := 189) (by decide))]; exact F_h105__k_35_
  have F_h111__k_36_ : h111 (k + 36) = .inl (1, 512, .inl (fun _ => 0)) := by rw [e_h111, va_up_neq (nek (a := 36) (b := 189) (by decide))]; exact F_h105__k_36_
  have F_h111__k_37_ : h111 (k + 37) = .inl (1, 3, .inl lat0) := by rw [e_h111, va_up_neq (nek (a := 37) (b := 189) (by decide))]; exact F_h105__k_37_
  have F_h111__k_38_ : h111 (k + 38) = .inr (9, [.ref (k + 39), .ref (k + 41), .ref (k + 45), .ref (k + 52), .ref (k + 59), .ref (k + 66)]) := by rw [e_h111, va_up_neq (nek (a := 38) (b := 189) (by decide))]; exact F_h105__k_38_
  have F_h111__k_39_ : h111 (k + 39) = .inr (7, [.ref (k + 40), .int 0, .int 0, .long 0, .int 0]) := by rw [e_h111, va_up_neq (nek (a := 39) (b := 189) (by decide))]; exact F_h105__k_39_
  have F_h111__k_40_ : h111 (k + 40) = .inl (0, 0, .inl (fun _ => 0)) := by rw [e_h111, va_up_neq (nek (a := 40) (b := 189) (by decide))]; exact F_h105__k_40_
  have F_h111__k_41_ : h111 (k + 41) = .inr (0, [.ref (k + 42), .ref (k + 43), .ref (k + 44), .int 0, .int 0]) := by rw [e_h111, va_up_neq (nek (a := 41) (b := 189) (by decide))]; exact F_h105__k_41_
  have F_h111__k_42_ : h111 (k + 42) = .inl (1, 256, .inl (fun _ => 0)) := by rw [e_h111, va_up_neq (nek (a := 42) (b := 189) (by decide))]; exact F_h105__k_42_
  have F_h111__k_43_ : h111 (k + 43) = .inl (1, 256, .inl (fun _ => 0)) := by rw [e_h111, va_up_neq (nek (a := 43) (b := 189) (by decide))]; exact F_h105__k_43_
  have F_h111__k_44_ : h111 (k + 44) = .inl (1, 13, .inl (fun _ => 0)) := by rw [e_h111, va_up_neq (nek (a := 44) (b := 189) (by decide))]; exact F_h105__k_44_
  have F_h111__k_45_ : h111 (k + 45) = .inr (8, [.int 35, .ref (k + 46), .ref (k + 47), .ref (k + 48), .ref (k + 49), .ref (k + 50), .ref (k + 51), .int 0, .int 0]) := by rw [e_h111, va_up_neq (nek (a := 45) (b := 189) (by decide))]; exact F_h105__k_45_
  have F_h111__k_46_ : h111 (k + 46) = .inl (1, 36, .inl (fun _ => 0)) := by rw [e_h111, va_up_neq (nek (a := 46) (b := 189) (by decide))]; exact F_h105__k_46_
  have F_h111__k_47_ : h111 (k + 47) = .inl (1, 36, .inl (fun _ => 0)) := by rw [e_h111, va_up_neq (nek (a := 47) (b := 189) (by decide))]; exact F_h105__k_47_
  have F_h111__k_48_ : h111 (k + 48) = .inl (1, 36, .inl (fun _ => 0)) := by rw [e_h111, va_up_neq (nek (a := 48) (b := 189) (by decide))]; exact F_h105__k_48_
  have F_h111__k_49_ : h111 (k + 49) = .inl (1, 36, .inl (fun _ => 0)) := by rw [e_h111, va_up_neq (nek (a := 49) (b := 189) (by decide))]; exact F_h105__k_49_
  have F_h111__k_50_ : h111 (k + 50) = .inl (1, 512, .inl (fun _ => 0)) := by rw [e_h111, va_up_neq (nek (a := 50) (b := 189) (by decide))]; exact F_h105__k_50_
  have F_h111__k_51_ : h111 (k + 51) = .inl (1, 512, .inl (fun _ => 0)) := by rw [e_h111, va_up_neq (nek (a := 51) (b := 189) (by decide))]; exact F_h105__k_51_
  have F_h111__k_52_ : h111 (k + 52) = .inr (8, [.int 31, .ref (k + 53), .ref (k + 54), .ref (k + 55), .ref (k + 56), .ref (k + 57), .ref (k + 58), .int 0, .int 0]) := by rw [e_h111, va_up_neq (nek (a := 52) (b := 189) (by decide))]; exact F_h105__k_52_
  have F_h111__k_53_ : h111 (k + 53) = .inl (1, 32, .inl (fun _ => 0)) := by rw [e_h111, va_up_neq (nek (a := 53) (b := 189) (by decide))]; exact F_h105__k_53_
  have F_h111__k_54_ : h111 (k + 54) = .inl (1, 32, .inl (fun _ => 0)) := by rw [e_h111, va_up_neq (nek (a := 54) (b := 189) (by decide))]; exact F_h105__k_54_
  have F_h111__k_55_ : h111 (k + 55) = .inl (1, 32, .inl (fun _ => 0)) := by rw [e_h111, va_up_neq (nek (a := 55) (b := 189) (by decide))]; exact F_h105__k_55_
  have F_h111__k_56_ : h111 (k + 56) = .inl (1, 32, .inl (fun _ => 0)) := by rw [e_h111, va_up_neq (nek (a := 56) (b := 189) (by decide))]; exact F_h105__k_56_
  have F_h111__k_57_ : h111 (k + 57) = .inl (1, 256, .inl (fun _ => 0)) := by rw [e_h111, va_up_neq (nek (a := 57) (b := 189) (by decide))]; exact F_h105__k_57_
  have F_h111__k_58_ : h111 (k + 58) = .inl (1, 256, .inl (fun _ => 0)) := by rw [e_h111, va_up_neq (nek (a := 58) (b := 189) (by decide))]; exact F_h105__k_58_
  have F_h111__k_59_ : h111 (k + 59) = .inr (8, [.int 52, .ref (k + 60), .ref (k + 61), .ref (k + 62), .ref (k + 63), .ref (k + 64), .ref (k + 65), .int 0, .int 0]) := by rw [e_h111, va_up_neq (nek (a := 59) (b := 189) (by decide))]; exact F_h105__k_59_
  have F_h111__k_60_ : h111 (k + 60) = .inl (1, 53, .inl (fun _ => 0)) := by rw [e_h111, va_up_neq (nek (a := 60) (b := 189) (by decide))]; exact F_h105__k_60_
  have F_h111__k_61_ : h111 (k + 61) = .inl (1, 53, .inl (fun _ => 0)) := by rw [e_h111, va_up_neq (nek (a := 61) (b := 189) (by decide))]; exact F_h105__k_61_
  have F_h111__k_62_ : h111 (k + 62) = .inl (1, 53, .inl (fun _ => 0)) := by rw [e_h111, va_up_neq (nek (a := 62) (b := 189) (by decide))]; exact F_h105__k_62_
  have F_h111__k_63_ : h111 (k + 63) = .inl (1, 53, .inl (fun _ => 0)) := by rw [e_h111, va_up_neq (nek (a := 63) (b := 189) (by decide))]; exact F_h105__k_63_
  have F_h111__k_64_ : h111 (k + 64) = .inl (1, 512, .inl (fun _ => 0)) := by rw [e_h111, va_up_neq (nek (a := 64) (b := 189) (by decide))]; exact F_h105__k_64_
  have F_h111__k_65_ : h111 (k + 65) = .inl (1, 512, .inl (fun _ => 0)) := by rw [e_h111, va_up_neq (nek (a := 65) (b := 189) (by decide))]; exact F_h105__k_65_
  have F_h111__k_66_ : h111 (k + 66) = .inl (1, 3, .inl lat0) := by rw [e_h111, va_up_neq (nek (a := 66) (b := 189) (by decide))]; exact F_h105__k_66_
  have F_h111__k_67_ : h111 (k + 67) = .inr (2, [.ref (k + 68), .ref (k + 69), .ref (k + 70), .ref (k + 77), .ref (k + 79)]) := by rw [e_h111, va_up_neq (nek (a := 67) (b := 189) (by decide))]; exact F_h105__k_67_
  have F_h111__k_68_ : h111 (k + 68) = .inl (1, 256, .inl (fun _ => 0)) := by rw [e_h111, va_up_neq (nek (a := 68) (b := 189) (by decide))]; exact F_h105__k_68_
  have F_h111__k_69_ : h111 (k + 69) = .inl (1, 12, .inl (fun _ => 0)) := by rw [e_h111, va_up_neq (nek (a := 69) (b := 189) (by decide))]; exact F_h105__k_69_
  have F_h111__k_70_ : h111 (k + 70) = .inr (8, [.int 11, .ref (k + 71), .ref (k + 72), .ref (k + 73), .ref (k + 74), .ref (k + 75), .ref (k + 76), .int 0, .int 0]) := by rw [e_h111, va_up_neq (nek (a := 70) (b := 189) (by decide))]; exact F_h105__k_70_
  have F_h111__k_71_ : h111 (k + 71) = .inl (1, 12, .inl (fun _ => 0)) := by rw [e_h111, va_up_neq (nek (a := 71) (b := 189) (by decide))]; exact F_h105__k_71_
  have F_h111__k_72_ : h111 (k + 72) = .inl (1, 12, .inl (fun _ => 0)) := by rw [e_h111, va_up_neq (nek (a := 72) (b := 189) (by decide))]; exact F_h105__k_72_
  have F_h111__k_73_ : h111 (k + 73) = .inl (1, 12, .inl (fun _ => 0)) := by rw [e_h111, va_up_neq (nek (a := 73) (b := 189) (by decide))]; exact F_h105__k_73_
  have F_h111__k_74_ : h111 (k + 74) = .inl (1, 12, .inl (fun _ => 0)) := by rw [e_h111, va_up_neq (nek (a := 74) (b := 189) (by decide))]; exact F_h105__k_74_
  have F_h111__k_75_ : h111 (k + 75) = .inl (1, 64, .inl (fun _ => 0)) := by rw [e_h111, va_up_neq (nek (a := 75) (b := 189) (by decide))]; exact F_h105__k_75_
  have F_h111__k_76_ : h111 (k + 76) = .inl (1, 64, .inl (fun _ => 0)) := by rw [e_h111, va_up_neq (nek (a := 76) (b := 189) (by decide))]; exact F_h105__k_76_
  have F_h111__k_77_ : h111 (k + 77) = .inr (7, [.ref (k + 78), .int 0, .int 0, .long 0, .int 0]) := by rw [e_h111, va_up_neq (nek (a := 77) (b := 189) (by decide))]; exact F_h105__k_77_
  have F_h111__k_78_ : h111 (k + 78) = .inl (0, 512, .inl (fun _ => 0)) := by rw [e_h111, va_up_neq (nek (a := 78) (b := 189) (by decide))]; exact F_h105__k_78_
  have F_h111__k_79_ : h111 (k + 79) = .inr (7, [.ref (k + 80), .int 0, .int 0, .long 0, .int 0]) := by rw [e_h111, va_up_neq (nek (a := 79) (b := 189) (by decide))]; exact F_h105__k_79_
  have F_h111__k_80_ : h111 (k + 80) = .inl (0, 512, .inl (fun _ => 0)) := by rw [e_h111, va_up_neq (nek (a := 80) (b := 189) (by decide))]; exact F_h105__k_80_
  have F_h111__k_81_ : h111 (k + 81) = .inr (6, [.ref (k + 82), .ref (k + 89), .ref (k + 108), .ref (k + 135), .ref (k + 162), .ref (k + 86), .ref (k + 87), .int 0, .ref (k + 88)]) := by rw [e_h111, va_up_neq (nek (a := 81) (b := 189) (by decide))]; exact F_h105__k_81_
  have F_h111__k_82_ : h111 (k + 82) = .inr (3, [.ref (k + 83), .int 0, .ref (k + 84), .ref (k + 85), .int 0, .int 0, .int 0, .int 0, .int 0, .int 0, .int 0, .int 0, .int 0]) := by rw [e_h111, va_up_neq (nek (a := 82) (b := 189) (by decide))]; exact F_h105__k_82_
  have F_h111__k_83_ : h111 (k + 83) = .inl (0, 16000, .inl (fun _ => 0)) := by rw [e_h111, va_up_neq (nek (a := 83) (b := 189) (by decide))]; exact F_h105__k_83_
  have F_h111__k_84_ : h111 (k + 84) = .inl (1, 16000, .inl (fun _ => 0)) := by rw [e_h111, va_up_neq (nek (a := 84) (b := 189) (by decide))]; exact F_h105__k_84_
  have F_h111__k_85_ : h111 (k + 85) = .inl (1, 4096, .inl (fun _ => 0)) := by rw [e_h111, va_up_neq (nek (a := 85) (b := 189) (by decide))]; exact F_h105__k_85_
  have F_h111__k_86_ : h111 (k + 86) = .inl (1, 3, .inl (fun _ => 0)) := by rw [e_h111, va_up_neq (nek (a := 86) (b := 189) (by decide))]; exact F_h105__k_86_
  have F_h111__k_87_ : h111 (k + 87) = .inl (1, 3, .inl (fun _ => 0)) := by rw [e_h111, va_up_neq (nek (a := 87) (b := 189) (by decide))]; exact F_h105__k_87_
  have F_h111__k_88_ : h111 (k + 88) = .inl (1, 12, .inl (fun _ => 0)) := by rw [e_h111, va_up_neq (nek (a := 88) (b := 189) (by decide))]; exact F_h105__k_88_
  have F_h111__k_89_ : h111 (k + 89) = .inr (5, [.ref (k + 90), .ref (k + 91), .int 0, .ref (k + 92), .ref (k + 96), .ref (k + 100), .ref (k + 67), .ref (k + 106), .int 0, .int 0, .int 0, .int 0]) := by rw [e_h111, va_up_neq (nek (a := 89) (b := 189) (by decide))]; exact F_h105__k_89_
  have F_h111__k_90_ : h111 (k + 90) = .inl (0, 8000, .inl (fun _ => 0)) := by rw [e_h111, va_up_neq (nek (a := 90) (b := 189) (by decide))]; exact F_h105__k_90_
  have F_h111__k_91_ : h111 (k + 91) = .inl (1, 256, .inl (fun _ => 0)) := by rw [e_h111, va_up_neq (nek (a := 91) (b := 189) (by decide))]; exact F_h105__k_91_
  have F_h111__k_92_ : h111 (k + 92) = .inr (0, [.ref (k + 93), .ref (k + 94), .ref (k + 95), .int 0, .int 0]) := by rw [e_h111, va_up_neq (nek (a := 92) (b := 189) (by decide))]; exact F_h105__k_92_
  have F_h111__k_93_ : h111 (k + 93) = .inl (1, 256, .inl (fun _ => 0)) := by rw [e_h111, va_up_neq (nek (a := 93) (b := 189) (by decide))]; exact F_h105__k_93_
  have F_h111__k_94_ : h111 (k + 94) = .inl (1, 256, .inl (fun _ => 0)) := by rw [e_h111, va_up_neq (nek (a := 94) (b := 189) (by decide))]; exact F_h105__k_94_
  have F_h111__k_95_ : h111 (k + 95) = .inl (1, 13, .inl (fun _ => 0)) := by rw [e_h111, va_up_neq (nek (a := 95) (b := 189) (by decide))]; exact F_h105__k_95_
  have F_h111__k_96_ : h111 (k + 96) = .inr (0, [.ref (k + 97), .ref (k + 98), .ref (k + 99), .int 0, .int 0]) := by rw [e_h111, va_up_neq (nek (a := 96) (b := 189) (by decide))]; exact F_h105__k_96_
  have F_h111__k_97_ : h111 (k + 97) = .inl (1, 256, .inl (fun _ => 0)) := by rw [e_h111, va_up_neq (nek (a := 97) (b := 189) (by decide))]; exact F_h105__k_97_
  have F_h111__k_98_ : h111 (k + 98) = .inl (1, 256, .inl (fun _ => 0)) := by rw [e_h111, va_up_neq (nek (a := 98) (b := 189) (by decide))]; exact F_h105__k_98_
  have F_h111__k_99_ : h111 (k + 99) = .inl (1, 13, .inl (fun _ => 0)) := by rw [e_h111, va_up_neq (nek (a := 99) (b := 189) (by decide))]; exact F_h105__k_99_
  have F_h111__k_100_ : h111 (k + 100) = .inr (4, [.ref (k + 101), .ref (k + 102), .ref (k + 103), .ref (k + 104), .ref (k + 105)]) := by rw [e_h111, va_up_neq (nek (a := 100) (b := 189) (by decide))]; exact F_h105__k_100_
  have F_h111__k_101_ : h111 (k + 101) = .inl (1, 256, .inl (fun _ => 0)) := by rw [e_h111, va_up_neq (nek (a := 101) (b := 189) (by decide))]; exact F_h105__k_101_
  have F_h111__k_102_ : h111 (k + 102) = .inl (1, 256, .inl (fun _ => 0)) := by rw [e_h111, va_up_neq (nek (a := 102) (b := 189) (by decide))]; exact F_h105__k_102_
  have F_h111__k_103_ : h111 (k + 103) = .inl (1, 512, .inl (fun _ => 0)) := by rw [e_h111, va_up_neq (nek (a := 103) (b := 189) (by decide))]; exact F_h105__k_103_
  have F_h111__k_104_ : h111 (k + 104) = .inl (1, 512, .inl (fun _ => 0)) := by rw [e_h111, va_up_neq (nek (a := 104) (b := 189) (by decide))]; exact F_h105__k_104_
  have F_h111__k_105_ : h111 (k + 105) = .inl (1, 512, .inl (fun _ => 0)) := by rw [e_h111, va_up_neq (nek (a := 105) (b := 189) (by decide))]; exact F_h105__k_105_
  have F_h111__k_106_ : h111 (k + 106) = .inr (7, [.ref (k + 107), .int 0, .int 0, .long 0, .int 0]) := by rw [e_h111, va_up_neq (nek (a := 106) (b := 189) (by decide))]; exact F_h105__k_106_
  have F_h111__k_107_ : h111 (k + 107) = .inl (0, 256, .inl (fun _ => 0)) := by rw [e_h111, va_up_neq (nek (a := 107) (b := 189) (by decide))]; exact F_h105__k_107_
  have F_h111__k_108_ : h111 (k + 108) = .inr (1, [.ref (aBig + 3), .ref (aBig + 4), .int 9, .ref (k + 109), .ref (k + 110), .ref (k + 113), .int 0, .int 0, .int 0, .ref (k + 114), .ref (k + 121), .ref (k + 128), .ref (k + 114), .ref (k + 111), .int 0, .int 0, .int 0, .int 0]) := by rw [e_h111, va_up_neq (nek (a := 108) (b := 189) (by decide))]; exact F_h105__k_108_
  have F_h111__k_109_ : h111 (k + 109) = .inl (1, 2667, .inl (fun _ => 0)) := by rw [e_h111, va_up_neq (nek (a := 109) (b := 189) (by decide))]; exact F_h105__k_109_
  have F_h111__k_110_ : h111 (k + 110) = .inl (1, 2667, .inl (fun _ => 0)) := by rw [e_h111, va_up_neq (nek (a := 110) (b := 189) (by decide))]; exact F_h105__k_110_
  have F_h111__k_111_ : h111 (k + 111) = .inr (7, [.ref (k + 112), .int 0, .int 0, .long 0, .int 0]) := by rw [e_h111, va_up_neq (nek (a := 111) (b := 189) (by decide))]; exact F_h105__k_111_
  have F_h111__k_112_ : h111 (k + 112) = .inl (0, 128, .inl (fun _ => 0)) := by rw [e_h111, va_up_neq (nek (a := 112) (b := 189) (by decide))]; exact F_h105__k_112_
  have F_h111__k_113_ : h111 (k + 113) = .inl (1, 36, .inl (fun _ => 0)) := by rw [e_h111, va_up_neq (nek (a := 113) (b := 189) (by decide))]; exact F_h105__k_113_
  have F_h111__k_114_ : h111 (k + 114) = .inr (8, [.int 35, .ref (k + 115), .ref (k + 116), .ref (k + 117), .ref (k + 118), .ref (k + 119), .ref (k + 120), .int 6, .int 1]) := by rw [e_h111, va_up_neq (nek (a := 114) (b := 189) (by decide))]; exact F_h105__k_114_
  have F_h111__k_115_ : h111 (k + 115) = .inl (1, 36, .inl pA) := by rw [e_h111, va_up_neq (nek (a := 115) (b := 189) (by decide))]; exact F_h105__k_115_
  have F_h111__k_116_ : h111 (k + 116) = .inl (1, 36, .inl (fun _ => 0)) := by rw [e_h111, va_up_neq (nek (a := 116) (b := 189) (by decide))]; exact F_h105__k_116_
  have F_h111__k_117_ : h111 (k + 117) = .inl (1, 36, .inl fA) := by rw [e_h111, va_up_neq (nek (a := 117) (b := 189) (by decide))]; exact F_h105__k_117_
  have F_h111__k_118_ : h111 (k + 118) = .inl (1, 36, .inl wA) := by rw [e_h111, va_up_neq (nek (a := 118) (b := 189) (by decide))]; exact F_h105__k_118_
  have F_h111__k_119_ : h111 (k + 119) = .inl (1, 512, .inl oA) := by rw [e_h111, va_up_neq (nek (a := 119) (b := 189) (by decide))]; exact F_h105__k_119_
  have F_h111__k_120_ : h111 (k + 120) = .inl (1, 512, .inl sA) := by rw [e_h111, va_up_neq (nek (a := 120) (b := 189) (by decide))]; exact F_h105__k_120_
  have F_h111__k_121_ : h111 (k + 121) = .inr (8, [.int 35, .ref (k + 122), .ref (k + 123), .ref (k + 124), .ref (k + 125), .ref (k + 126), .ref (k + 127), .int 0, .int 0]) := by rw [e_h111, va_up_neq (nek (a := 121) (b := 189) (by decide))]; exact F_h105__k_121_
  have F_h111__k_122_ : h111 (k + 122) = .inl (1, 36, .inl (fun _ => 0)) := by rw [e_h111, va_up_neq (nek (a := 122) (b := 189) (by decide))]; exact F_h105__k_122_
  have F_h111__k_123_ : h111 (k + 123) = .inl (1, 36, .inl (fun _ => 0)) := by rw [e_h111, va_up_neq (nek (a := 123) (b := 189) (by decide))]; exact F_h105__k_123_
  have F_h111__k_124_ : h111 (k + 124) = .inl (1, 36, .inl (fun _ => 0)) := by rw [e_h111, va_up_neq (nek (a := 124) (b := 189) (by decide))]; exact F_h105__k_124_
  have F_h111__k_125_ : h111 (k + 125) = .inl (1, 36, .inl (fun _ => 0)) := by rw [e_h111, va_up_neq (nek (a := 125) (b := 189) (by decide))]; exact F_h105__k_125_
  have F_h111__k_126_ : h111 (k + 126) = .inl (1, 512, .inl (fun _ => 0)) := by rw [e_h111, va_up_neq (nek (a := 126) (b := 189) (by decide))]; exact F_h105__k_126_
  have F_h111__k_127_ : h111 (k + 127) = .inl (1, 512, .inl (fun _ => 0)) := by rw [e_h111, va_up_neq (nek (a := 127) (b := 189) (by decide))]; exact F_h105__k_127_
  have F_h111__k_128_ : h111 (k + 128) = .inr (8, [.int 35, .ref (k + 129), .ref (k + 130), .ref (k + 131), .ref (k + 132), .ref (k + 133), .ref (k + 134), .int 0, .int 0]) := by rw [e_h111, va_up_neq (nek (a := 128) (b := 189) (by decide))]; exact F_h105__k_128_
  have F_h111__k_129_ : h111 (k + 129) = .inl (1, 36, .inl (fun _ => 0)) := by rw [e_h111, va_up_neq (nek (a := 129) (b := 189) (by decide))]; exact F_h105__k_129_
  have F_h111__k_130_ : h111 (k + 130) = .inl (1, 36, .inl (fun _ => 0)) := by rw [e_h111, va_up_neq (nek (a := 130) (b := 189) (by decide))]; exact F_h105__k_130_
  have F_h111__k_131_ : h111 (k + 131) = .inl (1, 36, .inl (fun _ => 0)) := by rw [e_h111, va_up_neq (nek (a := 131) (b := 189) (by decide))]; exact F_h105__k_131_
  have F_h111__k_132_ : h111 (k + 132) = .inl (1, 36, .inl (fun _ => 0)) := by rw [e_h111, va_up_neq (nek (a := 132) (b := 189) (by decide))]; exact F_h105__k_132_
  have F_h111__k_133_ : h111 (k + 133) = .inl (1, 512, .inl (fun _ => 0)) := by rw [e_h111, va_up_neq (nek (a := 133) (b := 189) (by decide))]; exact F_h105__k_133_
  have F_h111__k_134_ : h111 (k + 134) = .inl (1, 512, .inl (fun _ => 0)) := by rw [e_h111, va_up_neq (nek (a := 134) (b := 189) (by decide))]; exact F_h105__k_134_
  have F_h111__k_135_ : h111 (k + 135) = .inr (1, [.ref (aBig + 5), .ref (aBig + 6), .int 8, .ref (k + 136), .ref (k + 137), .ref (k + 140), .int 0, .int 0, .int 0, .ref (k + 141), .ref (k + 148), .ref (k + 155), .ref (k + 141), .ref (k + 138), .int 0, .int 0, .int 0, .int 0]) := by rw [e_h111, va_up_neq (nek (a := 135) (b := 189) (by decide))]; exact F_h105__k_135_
  have F_h111__k_136_ : h111 (k + 136) = .inl (1, 2667, .inl (fun _ => 0)) := by rw [e_h111, va_up_neq (nek (a := 136) (b := 189) (by decide))]; exact F_h105__k_136_
  have F_h111__k_137_ : h111 (k + 137) = .inl (1, 2667, .inl (fun _ => 0)) := by rw [e_h111, va_up_neq (nek (a := 137) (b := 189) (by decide))]; exact F_h105__k_137_
  have F_h111__k_138_ : h111 (k + 138) = .inr (7, [.ref (k + 139), .int 0, .int 0, .long 0, .int 0]) := by rw [e_h111, va_up_neq (nek (a := 138) (b := 189) (by decide))]; exact F_h105__k_138_
  have F_h111__k_139_ : h111 (k + 139) = .inl (0, 128, .inl (fun _ => 0)) := by rw [e_h111, va_up_neq (nek (a := 139) (b := 189) (by decide))]; exact F_h105__k_139_
  have F_h111__k_140_ : h111 (k + 140) = .inl (1, 32, .inl (fun _ => 0)) := by rw [e_h111, va_up_neq (nek (a := 140) (b := 189) (by decide))]; exact F_h105__k_140_
  have F_h111__k_141_ : h111 (k + 141) = .inr (8, [.int 31, .ref (k + 142), .ref (k + 143), .ref (k + 144), .ref (k + 145), .ref (k + 146), .ref (k + 147), .int 5, .int 1]) := by rw [e_h111, va_up_neq (nek (a := 141) (b := 189) (by decide))]; exact F_h105__k_141_
  have F_h111__k_142_ : h111 (k + 142) = .inl (1, 32, .inl pB) := by rw [e_h111, va_up_neq (nek (a := 142) (b := 189) (by decide))]; exact F_h105__k_142_
  have F_h111__k_143_ : h111 (k + 143) = .inl (1, 32, .inl (fun _ => 0)) := by rw [e_h111, va_up_neq (nek (a := 143) (b := 189) (by decide))]; exact F_h105__k_143_
  have F_h111__k_144_ : h111 (k + 144) = .inl (1, 32, .inl fB) := by rw [e_h111, va_up_neq (nek (a := 144) (b := 189) (by decide))]; exact F_h105__k_144_
  have F_h111__k_145_ : h111 (k + 145) = .inl (1, 32, .inl wB) := by rw [e_h111, va_up_neq (nek (a := 145) (b := 189) (by decide))]; exact F_h105__k_145_
  have F_h111__k_146_ : h111 (k + 146) = .inl (1, 256, .inl oB) := by rw [e_h111, va_up_neq (nek (a := 146) (b := 189) (by decide))]; exact F_h105__k_146_
  have F_h111__k_147_ : h111 (k + 147) = .inl (1, 256, .inl sB) := by rw [e_h111, va_up_neq (nek (a := 147) (b := 189) (by decide))]; exact F_h105__k_147_
  have F_h111__k_148_ : h111 (k + 148) = .inr (8, [.int 31, .ref (k + 149), .ref (k + 150), .ref (k + 151), .ref (k + 152), .ref (k + 153), .ref (k + 154), .int 0, .int 0]) := by rw [e_h111, va_up_neq (nek (a := 148) (b := 189) (by decide))]; exact F_h105__k_148_
  have F_h111__k_149_ : h111 (k + 149) = .inl (1, 32, .inl (fun _ => 0)) := by rw [e_h111, va_up_neq (nek (a := 149) (b := 189) (by decide))]; exact F_h105__k_149_
  have F_h111__k_150_ : h111 (k + 150) = .inl (1, 32, .inl (fun _ => 0)) := by rw [e_h111, va_up_neq (nek (a := 150) (b := 189) (by decide))]; exact F_h105__k_150_
  have F_h111__k_151_ : h111 (k + 151) = .inl (1, 32, .inl (fun _ => 0)) := by rw [e_h111, va_up_neq (nek (a := 151) (b := 189) (by decide))]; exact F_h105__k_151_
  have F_h111__k_152_ : h111 (k + 152) = .inl (1, 32, .inl (fun _ => 0)) := by rw [e_h111, va_up_neq (nek (a := 152) (b := 189) (by decide))]; exact F_h105__k_152_
  have F_h111__k_153_ : h111 (k + 153) = .inl (1, 256, .inl (fun _ => 0)) := by rw [e_h111, va_up_neq (nek (a := 153) (b := 189) (by decide))]; exact F_h105__k_153_
  have F_h111__k_154_ : h111 (k + 154) = .inl (1, 256, .inl (fun _ => 0)) := by rw [e_h111, va_up_neq (nek (a := 154) (b := 189) (by decide))]; exact F_h105__k_154_
  have F_h111__k_155_ : h111 (k + 155) = .inr (8, [.int 31, .ref (k + 156), .ref (k + 157), .ref (k + 158), .ref (k + 159), .ref (k + 160), .ref (k + 161), .int 0, .int 0]) := by rw [e_h111, va_up_neq (nek (a := 155) (b := 189) (by decide))]; exact F_h105__k_155_
  have F_h111__k_156_ : h111 (k + 156) = .inl (1, 32, .inl (fun _ => 0)) := by rw [e_h111, va_up_neq (nek (a := 156) (b := 189) (by decide))]; exact F_h105__k_156_
  have F_h111__k_157_ : h111 (k + 157) = .inl (1, 32, .inl (fun _ => 0)) := by rw [e_h111, va_up_neq (nek (a := 157) (b := 189) (by decide))]; exact F_h105__k_157_
  have F_h111__k_158_ : h111 (k + 158) = .inl (1, 32, .inl (fun _ => 0)) := by rw [e_h111, va_up_neq (nek (a := 158) (b := 189) (by decide))]; exact F_h105__k_158_
  have F_h111__k_159_ : h111 (k + 159) = .inl (1, 32, .inl (fun _ => 0)) := by rw [e_h111, va_up_neq (nek (a := 159) (b := 189) (by decide))]; exact F_h105__k_159_
  have F_h111__k_160_ : h111 (k + 160) = .inl (1, 256, .inl (fun _ => 0)) := by rw [e_h111, va_up_neq (nek (a := 160) (b := 189) (by decide))]; exact F_h105__k_160_
  have F_h111__k_161_ : h111 (k + 161) = .inl (1, 256, .inl (fun _ => 0)) := by rw [e_h111, va_up_neq (nek (a := 161) (b := 189) (by decide))]; exact F_h105__k_161_
  have F_h111__k_162_ : h111 (k + 162) = .inr (1, [.ref (aBig + 7), .ref (aBig + 8), .int 9, .ref (k + 163), .ref (k + 164), .ref (k + 167), .int 0, .int 0, .int 0, .ref (k + 168), .ref (k + 175), .ref (k + 182), .ref (k + 168), .ref (k + 165), .int 0, .int 0, .int 0, .int 0]) := by rw [e_h111, va_up_neq (nek (a := 162) (b := 189) (by decide))]; exact F_h105__k_162_
  have F_h111__k_163_ : h111 (k + 163) = .inl (1, 2667, .inl (fun _ => 0)) := by rw [e_h111, va_up_neq (nek (a := 163) (b := 189) (by decide))]; exact F_h105__k_163_
  have F_h111__k_164_ : h111 (k + 164) = .inl (1, 2667, .inl (fun _ => 0)) := by rw [e_h111, va_up_neq (nek (a := 164) (b := 189) (by decide))]; exact F_h105__k_164_
  have F_h111__k_165_ : h111 (k + 165) = .inr (7, [.ref (k + 166), .int 0, .int 0, .long 0, .int 0]) := by rw [e_h111, va_up_neq (nek (a := 165) (b := 189) (by decide))]; exact F_h105__k_165_
  have F_h111__k_166_ : h111 (k + 166) = .inl (0, 128, .inl (fun _ => 0)) := by rw [e_h111, va_up_neq (nek (a := 166) (b := 189) (by decide))]; exact F_h105__k_166_
  have F_h111__k_167_ : h111 (k + 167) = .inl (1, 53, .inl (fun _ => 0)) := by rw [e_h111, va_up_neq (nek (a := 167) (b := 189) (by decide))]; exact F_h105__k_167_
  have F_h111__k_168_ : h111 (k + 168) = .inr (8, [.int 52, .ref (k + 169), .ref (k + 170), .ref (k + 171), .ref (k + 172), .ref (k + 173), .ref (k + 174), .int 6, .int 1]) := by rw [e_h111, va_up_neq (nek (a := 168) (b := 189) (by decide))]; exact F_h105__k_168_
  have F_h111__k_169_ : h111 (k + 169) = .inl (1, 53, .inl pC) := by rw [e_h111, va_up_neq (nek (a := 169) (b := 189) (by decide))]; exact F_h105__k_169_
  have F_h111__k_170_ : h111 (k + 170) = .inl (1, 53, .inl (fun _ => 0)) := by rw [e_h111, va_up_neq (nek (a := 170) (b := 189) (by decide))]; exact F_h105__k_170_
  have F_h111__k_171_ : h111 (k + 171) = .inl (1, 53, .inl fC) := by rw [e_h111, va_up_neq (nek (a := 171) (b := 189) (by decide))]; exact F_h105__k_171_
  have F_h111__k_172_ : h111 (k + 172) = .inl (1, 53, .inl wC) := by rw [e_h111, va_up_neq (nek (a := 172) (b := 189) (by decide))]; exact F_h105__k_172_
  have F_h111__k_173_ : h111 (k + 173) = .inl (1, 512, .inl oC) := by rw [e_h111, va_up_neq (nek (a := 173) (b := 189) (by decide))]; exact F_h105__k_173_
  have F_h111__k_174_ : h111 (k + 174) = .inl (1, 512, .inl sC) := by rw [e_h111, va_up_neq (nek (a := 174) (b := 189) (by decide))]; exact F_h105__k_174_
  have F_h111__k_175_ : h111 (k + 175) = .inr (8, [.int 52, .ref (k + 176), .ref (k + 177), .ref (k + 178), .ref (k + 179), .ref (k + 180), .ref (k + 181), .int 0, .int 0]) := by rw [e_h111, va_up_neq (nek (a := 175) (b := 189) (by decide))]; exact F_h105__k_175_
  have F_h111__k_176_ : h111 (k + 176) = .inl (1, 53, .inl (fun _ => 0)) := by rw [e_h111, va_up_neq (nek (a := 176) (b := 189) (by decide))]; exact F_h105__k_176_
  have F_h111__k_177_ : h111 (k + 177) = .inl (1, 53, .inl (fun _ => 0)) := by rw [e_h111, va_up_neq (nek (a := 177) (b := 189) (by decide))]; exact F_h105__k_177_
  have F_h111__k_178_ : h111 (k + 178) = .inl (1, 53, .inl (fun _ => 0)) := by rw [e_h111, va_up_neq (nek (a := 178) (b := 189) (by decide))]; exact F_h105__k_178_
  have F_h111__k_179_ : h111 (k + 179) = .inl (1, 53, .inl (fun _ => 0)) := by rw [e_h111, va_up_neq (nek (a := 179) (b := 189) (by decide))]; exact F_h105__k_179_
  have F_h111__k_180_ : h111 (k + 180) = .inl (1, 512, .inl (fun _ => 0)) := by rw [e_h111, va_up_neq (nek (a := 180) (b := 189) (by decide))]; exact F_h105__k_180_
  have F_h111__k_181_ : h111 (k + 181) = .inl (1, 512, .inl (fun _ => 0)) := by rw [e_h111, va_up_neq (nek (a := 181) (b := 189) (by decide))]; exact F_h105__k_181_
  have F_h111__k_182_ : h111 (k + 182) = .inr (8, [.int 52, .ref (k + 183), .ref (k + 184), .ref (k + 185), .ref (k + 186), .ref (k + 187), .ref (k + 188), .int 0, .int 0]) := by rw [e_h111, va_up_neq (nek (a := 182) (b := 189) (by decide))]; exact F_h105__k_182_
  have F_h111__k_183_ : h111 (k + 183) = .inl (1, 53, .inl (fun _ => 0)) := by rw [e_h111, va_up_neq (nek (a := 183) (b := 189) (by decide))]; exact F_h105__k_183_
  have F_h111__k_184_ : h111 (k + 184) = .inl (1, 53, .inl (fun _ => 0)) := by rw [e_h111, va_up_neq (nek (a := 184) (b := 189) (by decide))]; exact F_h105__k_184_
  have F_h111__k_185_ : h111 (k + 185) = .inl (1, 53, .inl (fun _ => 0)) := by rw [e_h111, va_up_neq (nek (a := 185) (b := 189) (by decide))]; exact F_h105__k_185_
  have F_h111__k_186_ : h111 (k + 186) = .inl (1, 53, .inl (fun _ => 0)) := by rw [e_h111, va_up_neq (nek (a := 186) (b := 189) (by decide))]; exact F_h105__k_186_
  have F_h111__k_187_ : h111 (k + 187) = .inl (1, 512, .inl (fun _ => 0)) := by rw [e_h111, va_up_neq (nek (a := 187) (b := 189) (by decide))]; exact F_h105__k_187_
  have F_h111__k_188_ : h111 (k + 188) = .inl (1, 512, .inl (fun _ => 0)) := by rw [e_h111, va_up_neq (nek (a := 188) (b := 189) (by decide))]; exact F_h105__k_188_
  have F_h111__k_189_ : h111 (k + 189) = .inl (1, 12, .inl (fun _ => 0)) := by rw [e_h111]; exact va_up_eq
  have FR_h111 : ∀ j, j < k ∨ aBig ≤ j → h111 j = h j := fun j hj => by rw [e_h111]; exact (va_up_neq (frne (a := 189) hj hbig (by decide))).trans (FR_h105 j hj)
  clear F_h105_k F_h105__k_1_ F_h105__k_2_ F_h105__k_3_ F_h105__k_4_ F_h105__k_5_ F_h105__k_6_ F_h105__k_7_ F_h105__k_8_ F_h105__k_9_ F_h105__k_10_ F_h105__k_11_ F_h105__k_12_ F_h105__k_13_ F_h105__k_14_ F_h105__k_15_ F_h105__k_16_ F_h105__k_17_ F_h105__k_18_ F_h105__k_19_ F_h105__k_20_ F_h105__k_21_ F_h105__k_22_ F_h105__k_23_ F_h105__k_24_ F_h105__k_25_ F_h105__k_26_ F_h105__k_27_ F_h105__k_28_ F_h105__k_29_ F_h105__k_30_ F_h105__k_31_ F_h105__k_32_ F_h105__k_33_ F_h105__k_34_ F_h105__k_35_ F_h105__k_36_ F_h105__k_37_ F_h105__k_38_ F_h105__k_39_ F_h105__k_40_ F_h105__k_41_ F_h105__k_42_ F_h105__k_43_ F_h105__k_44_ F_h105__k_45_ F_h105__k_46_ F_h105__k_47_ F_h105__k_48_ F_h105__k_49_ F_h105__k_50_ F_h105__k_51_ F_h105__k_52_ F_h105__k_53_ F_h105__k_54_ F_h105__k_55_ F_h105__k_56_ F_h105__k_57_ F_h105__k_58_ F_h105__k_59_ F_h105__k_60_ F_h105__k_61_ F_h105__k_62_ F_h105__k_63_ F_h105__k_64_ F_h105__k_65_ F_h105__k_66_ F_h105__k_67_ F_h105__k_68_ F_h105__k_69_ F_h105__k_70_ F_h105__k_71_ F_h105__k_72_ F_h105__k_73_ F_h105__k_74_ F_h105__k_75_ F_h105__k_76_ F_h105__k_77_ F_h105__k_78_ F_h105__k_79_ F_h105__k_80_ F_h105__k_81_ F_h105__k_82_ F_h105__k_83_ F_h105__k_84_ F_h105__k_85_ F_h105__k_86_ F_h105__k_87_ F_h105__k_88_ F_h105__k_89_ F_h105__k_90_ F_h105__k_91_ F_h105__k_92_ F_h105__k_93_ F_h105__k_94_ F_h105__k_95_ F_h105__k_96_ F_h105__k_97_ F_h105__k_98_ F_h105__k_99_ F_h105__k_100_ F_h105__k_101_ F_h105__k_102_ F_h105__k_103_ F_h105__k_104_ F_h105__k_105_ F_h105__k_106_ F_h105__k_107_ F_h105__k_108_ F_h105__k_109_ F_h105__k_110_ F_h105__k_111_ F_h105__k_112_ F_h105__k_113_ F_h105__k_114_ F_h105__k_115_ F_h105__k_116_ F_h105__k_117_ F_h105__k_118_ F_h105__k_119_ F_h105__k_120_ F_h105__k_121_ F_h105__k_122_ F_h105__k_123_ F_h105__k_124_ F_h105__k_125_ F_h105__k_126_ F_h105__k_127_ F_h105__k_128_ F_h105__k_129_ F_h105__k_130_ F_h105__k_131_ F_h105__k_132_ F_h105__k_133_ F_h105__k_134_ F_h105__k_135_ F_h105__k_136_ F_h105__k_137_ F_h105__k_138_ F_h105__k_139_ F_h105__k_140_ F_h105__k_141_ F_h105__k_142_ F_h105__k_143_ F_h105__k_144_ F_h105__k_145_ F_h105__k_146_ F_h105__k_147_ F_h105__k_148_ F_h105__k_149_ F_h105__k_150_ F_h105__k_151_ F_h105__k_152_ F_h105__k_153_ F_h105__k_154_ F_h105__k_155_ F_h105__k_156_ F_h105__k_157_ F_h105__k_158_ F_h105__k_159_ F_h105__k_160_ F_h105__k_161_ F_h105__k_162_ F_h105__k_163_ F_h105__k_164_ F_h105__k_165_ F_h105__k_166_ F_h105__k_167_ F_h105__k_168_ F_h105__k_169_ F_h105__k_170_ F_h105__k_171_ F_h105__k_172_ F_h105__k_173_ F_h105__k_174_ F_h105__k_175_ F_h105__k_176_ F_h105__k_177_ F_h105__k_178_ F_h105__k_179_ F_h105__k_180_ F_h105__k_181_ F_h105__k_182_ F_h105__k_183_ F_h105__k_184_ F_h105__k_185_ F_h105__k_186_ F_h105__k_187_ F_h105__k_188_ FR_h105 e_h111
  clear h105
  refine WX.put1 (fs := [.ref (k + 1), .ref (k + 3), .ref (k + 5), .ref (k + 7), .long 0, .ref (k + 9), .ref (k + 38), .ref (k + 67), .ref (k + 81), .null, .int 0, .int 0]) (fs' := [.ref (k + 1), .ref (k + 3), .ref (k + 5), .ref (k + 7), .long 0, .ref (k + 9), .ref (k + 38), .ref (k + 67), .ref (k + 81), .ref (k + 189), .int 0, .int 0]) rfl (ltk0 (c := 190) (by decide)) (F_h111_k) (Nat.le_of_ble_eq_true rfl) (rfl) rfl (fun h113 e_h113 => ?_)
  have F_h113_k : h113 k = .inr (10, [.ref (k + 1), .ref (k + 3), .ref (k + 5), .ref (k + 7), .long 0, .ref (k + 9), .ref (k + 38), .ref (k + 67), .ref (k + 81), .ref (k + 189), .int 0, .int 0]) := by rw [e_h113]; exact va_up_eq
  have F_h113__k_1_ : h113 (k + 1) = .inr (7, [.ref (k + 2), .int 0, .int 0, .long 0, .int 0]) := by rw [e_h113, va_up_neq (nek0 (a := 1) (by decide))]; exact F_h111__k_1_
  have F_h113__k_2_ : h113 (k + 2) = .inl (0, 8000, .inl (fun _ => 0)) := by rw [e_h113, va_up_neq (nek0 (a := 2) (by decide))]; exact F_h111__k_2_
  have F_h113__k_3_ : h113 (k + 3) = .inr (7, [.ref (k + 4), .int 0, .int 0, .long 0, .int 0]) := by rw [e_h113, va_up_neq (nek0 (a := 3) (by decide))]; exact F_h111__k_3_
  have F_h113__k_4_ : h113 (k + 4) = .inl (0, 12000, .inl (fun _ => 0)) := by rw [e_h113, va_up_neq (nek0 (a := 4) (by decide))]; exact F_h111__k_4_
  have F_h113__k_5_ : h113 (k + 5) = .inr (7, [.ref (k + 6), .int 0, .int 0, .long 0, .int 0]) := by rw [e_h113, va_up_neq (nek0 (a := 5) (by decide))]; exact F_h111__k_5_
  have F_h113__k_6_ : h113 (k + 6) = .inl (0, 12000, .inl (fun _ => 0)) := by rw [e_h113, va_up_neq (nek0 (a := 6) (by decide))]; exact F_h111__k_6_
  have F_h113__k_7_ : h113 (k + 7) = .inr (7, [.ref (k + 8), .int 0, .int 0, .long 0, .int 0]) := by rw [e_h113, va_up_neq (nek0 (a := 7) (by decide))]; exact F_h111__k_7_
  have F_h113__k_8_ : h113 (k + 8) = .inl (0, 8000, .inl (fun _ => 0)) := by rw [e_h113, va_up_neq (nek0 (a := 8) (by decide))]; exact F_h111__k_8_
  have F_h113__k_9_ : h113 (k + 9) = .inr (9, [.ref (k + 10), .ref (k + 12), .ref (k + 16), .ref (k + 23), .ref (k + 30), .ref (k + 37)]) := by rw [e_h113, va_up_neq (nek0 (a := 9) (by decide))]; exact F_h111__k_9_
  have F_h113__k_10_ : h113 (k + 10) = .inr (7, [.ref (k + 11), .int 0, .int 0, .long 0, .int 0]) := by rw [e_h113, va_up_neq (nek0 (a := 10) (by decide))]; exact F_h111__k_10_
  have F_h113__k_11_ : h113 (k + 11) = .inl (0, 0, .inl (fun _ => 0)) := by rw [e_h113, va_up_neq (nek0 (a := 11) (by decide))]; exact F_h111__k_11_
  have F_h113__k_12_ : h113 (k + 12) = .inr (0, [.ref (k + 13), .ref (k + 14), .ref (k + 15), .int 0, .int 0]) := by rw [e_h113, va_up_neq (nek0 (a := 12) (by decide))]; exact F_h111__k_12_
  have F_h113__k_13_ : h113 (k + 13) = .inl (1, 256, .inl (fun _ => 0)) := by rw [e_h113, va_up_neq (nek0 (a := 13) (by decide))]; exact F_h111__k_13_
  have F_h113__k_14_ : h113 (k + 14) = .inl (1, 256, .inl (fun _ => 0)) := by rw [e_h113, va_up_neq (nek0 (a := 14) (by decide))]; exact F_h111__k_14_
  have F_h113__k_15_ : h113 (k + 15) = .inl (1, 13, .inl (fun _ => 0)) := by rw [e_h113, va_up_neq (nek0 (a := 15) (by decide))]; exact F_h111__k_15_
  have F_h113__k_16_ : h113 (k + 16) = .inr (8, [.int 35, .ref (k + 17), .ref (k + 18), .ref (k + 19), .ref (k + 20), .ref (k + 21), .ref (k + 22), .int 0, .int 0]) := by rw [e_h113, va_up_neq (nek0 (a := 16) (by decide))]; exact F_h111__k_16_
  have F_h113__k_17_ : h113 (k + 17) = .inl (1, 36, .inl (fun _ => 0)) := by rw [e_h113, va_up_neq (nek0 (a := 17) (by decide))]; exact F_h111__k_17_
  have F_h113__k_18_ : h113 (k + 18) = .inl (1, 36, .inl (fun _ => 0)) := by rw [e_h113, va_up_neq (nek0 (a := 18) (by decide))]; exact F_h111__k_18_
  have F_h113__k_19_ : h113 (k + 19) = .inl (1, 36, .inl (fun _ => 0)) := by rw [e_h113, va_up_neq (nek0 (a := 19) (by decide))]; exact F_h111__k_19_
  have F_h113__k_20_ : h113 (k + 20) = .inl (1, 36, .inl (fun _ => 0)) := by rw [e_h113, va_up_neq (nek0 (a := 20) (by decide))]; exact F_h111__k_20_
  have F_h113__k_21_ : h113 (k + 21) = .inl (1, 512, .inl (fun _ => 0)) := by rw [e_h113, va_up_neq (nek0 (a := 21) (by decide))]; exact F_h111__k_21_
  have F_h113__k_22_ : h113 (k + 22) = .inl (1, 512, .inl (fun _ => 0)) := by rw [e_h113, va_up_neq (nek0 (a := 22) (by decide))]; exact F_h111__k_22_
  have F_h113__k_23_ : h113 (k + 23) = .inr (8, [.int 31, .ref (k + 24), .ref (k + 25), .ref (k + 26), .ref (k + 27), .ref (k + 28), .ref (k + 29), .int 0, .int 0]) := by rw [e_h113, va_up_neq (nek0 (a := 23) (by decide))]; exact F_h111__k_23_
  have F_h113__k_24_ : h113 (k + 24) = .inl (1, 32, .inl (fun _ => 0)) := by rw [e_h113, va_up_neq (nek0 (a := 24) (by decide))]; exact F_h111__k_24_
  have F_h113__k_25_ : h113 (k + 25) = .inl (1, 32, .inl (fun _ => 0)) := by rw [e_h113, va_up_neq (nek0 (a := 25) (by decide))]; exact F_h111__k_25_
  have F_h113__k_26_ : h113 (k + 26) = .inl (1, 32, .inl (fun _ => 0)) := by rw [e_h113, va_up_neq (nek0 (a := 26) (by decide))]; exact F_h111__k_26_
  have F_h113__k_27_ : h113 (k + 27) = .inl (1, 32, .inl (fun _ => 0)) := by rw [e_h113, va_up_neq (nek0 (a := 27) (by decide))]; exact F_h111__k_27_
  have F_h113__k_28_ : h113 (k + 28) = .inl (1, 256, .inl (fun _ => 0)) := by rw [e_h113, va_up_neq (nek0 (a := 28) (by decide))]; exact F_h111__k_28_
  have F_h113__k_29_ : h113 (k + 29) = .inl (1, 256, .inl (fun _ => 0)) := by rw [e_h113, va_up_neq (nek0 (a := 29) (by decide))]; exact F_h111__k_29_
  have F_h113__k_30_ : h113 (k + 30) = .inr (8, [.int 52, .ref (k + 31), .ref (k + 32), .ref (k + 33), .ref (k + 34), .ref (k + 35), .ref (k + 36), .int 0, .int 0]) := by rw [e_h113, va_up_neq (nek0 (a := 30) (by decide))]; exact F_h111__k_30_
  have F_h113__k_31_ : h113 (k + 31) = .inl (1, 53, .inl (fun _ => 0)) := by rw [e_h113, va_up_neq (nek0 (a := 31) (by decide))]; exact F_h111__k_31_
  have F_h113__k_32_ : h113 (k + 32) = .inl (1, 53, .inl (fun _ => 0)) := by rw [e_h113, va_up_neq (nek0 (a := 32) (by decide))]; exact F_h111__k_32_
  have F_h113__k_33_ : h113 (k + 33) = .inl (1, 53, .inl (fun _ => 0)) := by rw [e_h113, va_up_neq (nek0 (a := 33) (by decide))]; exact F_h111__k_33_
  have F_h113__k_34_ : h113 (k + 34) = .inl (1, 53, .inl (fun _ => 0)) := by rw [e_h113, va_up_neq (nek0 (a := 34) (by decide))]; exact F_h111__k_34_
  have F_h113__k_35_ : h113 (k + 35) = .inl (1, 512, .inl (fun _ => 0)) := by rw [e_h113, va_up_neq (nek0 (a := 35) (by decide))]; exact F_h111__k_35_
  have F_h113__k_36_ : h113 (k + 36) = .inl (1, 512, .inl (fun _ => 0)) := by rw [e_h113, va_up_neq (nek0 (a := 36) (by decide))]; exact F_h111__k_36_
  have F_h113__k_37_ : h113 (k + 37) = .inl (1, 3, .inl lat0) := by rw [e_h113, va_up_neq (nek0 (a := 37) (by decide))]; exact F_h111__k_37_
  have F_h113__k_38_ : h113 (k + 38) = .inr (9, [.ref (k + 39), .ref (k + 41), .ref (k + 45), .ref (k + 52), .ref (k + 59), .ref (k + 66)]) := by rw [e_h113, va_up_neq (nek0 (a := 38) (by decide))]; exact F_h111__k_38_
  have F_h113__k_39_ : h113 (k + 39) = .inr (7, [.ref (k + 40), .int 0, .int 0, .long 0, .int 0]) := by rw [e_h113, va_up_neq (nek0 (a := 39) (by decide))]; exact F_h111__k_39_
  have F_h113__k_40_ : h113 (k + 40) = .inl (0, 0, .inl (fun _ => 0)) := by rw [e_h113, va_up_neq (nek0 (a := 40) (by decide))]; exact F_h111__k_40_
  have F_h113__k_41_ : h113 (k + 41) = .inr (0, [.ref (k + 42), .ref (k + 43), .ref (k + 44), .int 0, .int 0]) := by rw [e_h113, va_up_neq (nek0 (a := 41) (by decide))]; exact F_h111__k_41_
  have F_h113__k_42_ : h113 (k + 42) = .inl (1, 256, .inl (fun _ => 0)) := by rw [e_h113, va_up_neq (nek0 (a := 42) (by decide))]; exact F_h111__k_42_
  have F_h113__k_43_ : h113 (k + 43) = .inl (1, 256, .inl (fun _ => 0)) := by rw [e_h113, va_up_neq (nek0 (a := 43) (by decide))]; exact F_h111__k_43_
  have F_h113__k_44_ : h113 (k + 44) = .inl (1, 13, .inl (fun _ => 0)) := by rw [e_h113, va_up_neq (nek0 (a := 44) (by decide))]; exact F_h111__k_44_
  have F_h113__k_45_ : h113 (k + 45) = .inr (8, [.int 35, .ref (k + 46), .ref (k + 47), .ref (k + 48), .ref (k + 49), .ref (k + 50), .ref (k + 51), .int 0, .int 0]) := by rw [e_h113, va_up_neq (nek0 (a := 45) (by decide))]; exact F_h111__k_45_
  have F_h113__k_46_ : h113 (k + 46) = .inl (1, 36, .inl (fun _ => 0)) := by rw [e_h113, va_up_neq (nek0 (a := 46) (by decide))]; exact F_h111__k_46_
  have F_h113__k_47_ : h113 (k + 47) = .inl (1, 36, .inl (fun _ => 0)) := by rw [e_h113, va_up_neq (nek0 (a := 47) (by decide))]; exact F_h111__k_47_
  have F_h113__k_48_ : h113 (k + 48) = .inl (1, 36, .inl (fun _ => 0)) := by rw [e_h113, va_up_neq (nek0 (a := 48) (by decide))]; exact F_h111__k_48_
  have F_h113__k_49_ : h113 (k + 49) = .inl (1, 36, .inl (fun _ => 0)) := by rw [e_h113, va_up_neq (nek0 (a := 49) (by decide))]; exact F_h111__k_49_
  have F_h113__k_50_ : h113 (k + 50) = .inl (1, 512, .inl (fun _ => 0)) := by rw [e_h113, va_up_neq (nek0 (a := 50) (by decide))]; exact F_h111__k_50_
  have F_h113__k_51_ : h113 (k + 51) = .inl (1, 512, .inl (fun _ => 0)) := by rw [e_h113, va_up_neq (nek0 (a := 51) (by decide))]; exact F_h111__k_51_
  have F_h113__k_52_ : h113 (k + 52) = .inr (8, [.int 31, .ref (k + 53), .ref (k + 54), .ref (k + 55), .ref (k + 56), .ref (k + 57), .ref (k + 58), .int 0, .int 0]) := by rw [e_h113, va_up_neq (nek0 (a := 52) (by decide))]; exact F_h111__k_52_
  have F_h113__k_53_ : h113 (k + 53) = .inl (1, 32, .inl (fun _ => 0)) := by rw [e_h113, va_up_neq (nek0 (a := 53) (by decide))]; exact F_h111__k_53_
  have F_h113__k_54_ : h113 (k + 54) = .inl (1, 32, .inl (fun _ => 0)) := by rw [e_h113, va_up_neq (nek0 (a := 54) (by decide))]; exact F_h111__k_54_
  have F_h113__k_55_ : h113 (k + 55) = .inl (1, 32, .inl (fun _ => 0)) := by rw [e_h113, va_up_neq (nek0 (a := 55) (by decide))]; exact F_h111__k_55_
  have F_h113__k_56_ : h113 (k + 56) = .inl (1, 32, .inl (fun _ => 0)) := by rw [e_h113, va_up_neq (nek0 (a := 56) (by decide))]; exact F_h111__k_56_
  have F_h113__k_57_ : h113 (k + 57) = .inl (1, 256, .inl (fun _ => 0)) := by rw [e_h113, va_up_neq (nek0 (a := 57) (by decide))]; exact F_h111__k_57_
  have F_h113__k_58_ : h113 (k + 58) = .inl (1, 256, .inl (fun _ => 0)) := by rw [e_h113, va_up_neq (nek0 (a := 58) (by decide))]; exact F_h111__k_58_
  have F_h113__k_59_ : h113 (k + 59) = .inr (8, [.int 52, .ref (k + 60), .ref (k + 61), .ref (k + 62), .ref (k + 63), .ref (k + 64), .ref (k + 65), .int 0, .int 0]) := by rw [e_h113, va_up_neq (nek0 (a := 59) (by decide))]; exact F_h111__k_59_
  have F_h113__k_60_ : h113 (k + 60) = .inl (1, 53, .inl (fun _ => 0)) := by rw [e_h113, va_up_neq (nek0 (a := 60) (by decide))]; exact F_h111__k_60_
  have F_h113__k_61_ : h113 (k + 61) = .inl (1, 53, .inl (fun _ => 0)) := by rw [e_h113, va_up_neq (nek0 (a := 61) (by decide))]; exact F_h111__k_61_
  have F_h113__k_62_ : h113 (k + 62) = .inl (1, 53, .inl (fun _ => 0)) := by rw [e_h113, va_up_neq (nek0 (a := 62) (by decide))]; exact F_h111__k_62_
  have F_h113__k_63_ : h113 (k + 63) = .inl (1, 53, .inl (fun _ => 0)) := by rw [e_h113, va_up_neq (nek0 (a := 63) (by decide))]; exact F_h111__k_63_
  have F_h113__k_64_ : h113 (k + 64) = .inl (1, 512, .inl (fun _ => 0)) := by rw [e_h113, va_up_neq (nek0 (a := 64) (by decide))]; exact F_h111__k_64_
  have F_h113__k_65_ : h113 (k + 65) = .inl (1, 512, .inl (fun _ => 0)) := by rw [e_h113, va_up_neq (nek0 (a := 65) (by decide))]; exact F_h111__k_65_
  have F_h113__k_66_ : h113 (k + 66) = .inl (1, 3, .inl lat0) := by rw [e_h113, va_up_neq (nek0 (a := 66) (by decide))]; exact F_h111__k_66_
  have F_h113__k_67_ : h113 (k + 67) = .inr (2, [.ref (k + 68), .ref (k + 69), .ref (k + 70), .ref (k + 77), .ref (k + 79)]) := by rw [e_h113, va_up_neq (nek0 (a := 67) (by decide))]; exact F_h111__k_67_
  have F_h113__k_68_ : h113 (k + 68) = .inl (1, 256, .inl (fun _ => 0)) := by rw [e_h113, va_up_neq (nek0 (a := 68) (by decide))]; exact F_h111__k_68_
  have F_h113__k_69_ : h113 (k + 69) = .inl (1, 12, .inl (fun _ => 0)) := by rw [e_h113, va_up_neq (nek0 (a := 69) (by decide))]; exact F_h111__k_69_
  have F_h113__k_70_ : h113 (k + 70) = .inr (8, [.int 11, .ref (k + 71), .ref (k + 72), .ref (k + 73), .ref (k + 74), .ref (k + 75), .ref (k + 76), .int 0, .int 0]) := by rw [e_h113, va_up_neq (nek0 (a := 70) (by decide))]; exact F_h111__k_70_
  have F_h113__k_71_ : h113 (k + 71) = .inl (1, 12, .inl (fun _ => 0)) := by rw [e_h113, va_up_neq (nek0 (a := 71) (by decide))]; exact F_h111__k_71_
  have F_h113__k_72_ : h113 (k + 72) = .inl (1, 12, .inl (fun _ => 0)) := by rw [e_h113, va_up_neq (nek0 (a := 72) (by decide))]; exact F_h111__k_72_
  have F_h113__k_73_ : h113 (k + 73) = .inl (1, 12, .inl (fun _ => 0)) := by rw [e_h113, va_up_neq (nek0 (a := 73) (by decide))]; exact F_h111__k_73_
  have F_h113__k_74_ : h113 (k + 74) = .inl (1, 12, .inl (fun _ => 0)) := by rw [e_h113, va_up_neq (nek0 (a := 74) (by decide))]; exact F_h111__k_74_
  have F_h113__k_75_ : h113 (k + 75) = .inl (1, 64, .inl (fun _ => 0)) := by rw [e_h113, va_up_neq (nek0 (a := 75) (by decide))]; exact F_h111__k_75_
  have F_h113__k_76_ : h113 (k + 76) = .inl (1, 64, .inl (fun _ => 0)) := by rw [e_h113, va_up_neq (nek0 (a := 76) (by decide))]; exact F_h111__k_76_
  have F_h113__k_77_ : h113 (k + 77) = .inr (7, [.ref (k + 78), .int 0, .int 0, .long 0, .int 0]) := by rw [e_h113, va_up_neq (nek0 (a := 77) (by decide))]; exact F_h111__k_77_
  have F_h113__k_78_ : h113 (k + 78) = .inl (0, 512, .inl (fun _ => 0)) := by rw [e_h113, va_up_neq (nek0 (a := 78) (by decide))]; exact F_h111__k_78_
  have F_h113__k_79_ : h113 (k + 79) = .inr (7, [.ref (k + 80), .int 0, .int 0, .long 0, .int 0]) := by rw [e_h113, va_up_neq (nek0 (a := 79) (by decide))]; exact F_h111__k_79_
  have F_h113__k_80_ : h113 (k + 80) = .inl (0, 512, .inl (fun _ => 0)) := by rw [e_h113, va_up_neq (nek0 (a := 80) (by decide))]; exact F_h111__k_80_
  have F_h113__k_81_ : h113 (k + 81) = .inr (6, [.ref (k + 82), .ref (k + 89), .ref (k + 108), .ref (k + 135), .ref (k + 162), .ref (k + 86), .ref (k + 87), .int 0, .ref (k + 88)]) := by rw [e_h113, va_up_neq (nek0 (a := 81) (by decide))]; exact F_h111__k_81_
  have F_h113__k_82_ : h113 (k + 82) = .inr (3, [.ref (k + 83), .int 0, .ref (k + 84), .ref (k + 85), .int 0, .int 0, .int 0, .int 0, .int 0, .int 0, .int 0, .int 0, .int 0]) := by rw [e_h113, va_up_neq (nek0 (a := 82) (by decide))]; exact F_h111__k_82_
  have F_h113__k_83_ : h113 (k + 83) = .inl (0, 16000, .inl (fun _ => 0)) := by rw [e_h113, va_up_neq (nek0 (a := 83) (by decide))]; exact F_h111__k_83_
  have F_h113__k_84_ : h113 (k + 84) = .inl (1, 16000, .inl (fun _ => 0)) := by rw [e_h113, va_up_neq (nek0 (a := 84) (by decide))]; exact F_h111__k_84_
  have F_h113__k_85_ : h113 (k + 85) = .inl (1, 4096, .inl (fun _ => 0)) := by rw [e_h113, va_up_neq (nek0 (a := 85) (by decide))]; exact F_h111__k_85_
  have F_h113__k_86_ : h113 (k + 86) = .inl (1, 3, .inl (fun _ => 0)) := by rw [e_h113, va_up_neq (nek0 (a := 86) (by decide))]; exact F_h111__k_86_
  have F_h113__k_87_ : h113 (k + 87) = .inl (1, 3, .inl (fun _ => 0)) := by rw [e_h113, va_up_neq (nek0 (a := 87) (by decide))]; exact F_h111__k_87_
  have F_h113__k_88_ : h113 (k + 88) = .inl (1, 12, .inl (fun _ => 0)) := by rw [e_h113, va_up_neq (nek0 (a := 88) (by decide))]; exact F_h111__k_88_
  have F_h113__k_89_ : h113 (k + 89) = .inr (5, [.ref (k + 90), .ref (k + 91), .int 0, .ref (k + 92), .ref (k + 96), .ref (k + 100), .ref (k + 67), .ref (k + 106), .int 0, .int 0, .int 0, .int 0]) := by rw [e_h113, va_up_neq (nek0 (a := 89) (by decide))]; exact F_h111__k_89_
  have F_h113__k_90_ : h113 (k + 90) = .inl (0, 8000, .inl (fun _ => 0)) := by rw [e_h113, va_up_neq (nek0 (a := 90) (by decide))]; exact F_h111__k_90_
  have F_h113__k_91_ : h113 (k + 91) = .inl (1, 256, .inl (fun _ => 0)) := by rw [e_h113, va_up_neq (nek0 (a := 91) (by decide))]; exact F_h111__k_91_
  have F_h113__k_92_ : h113 (k + 92) = .inr (0, [.ref (k + 93), .ref (k + 94), .ref (k + 95), .int 0, .int 0]) := by rw [e_h113, va_up_neq (nek0 (a := 92) (by decide))]; exact F_h111__k_92_
  have F_h113__k_93_ : h113 (k + 93) = .inl (1, 256, .inl (fun _ => 0)) := by rw [e_h113, va_up_neq (nek0 (a := 93) (by decide))]; exact F_h111__k_93_
  have F_h113__k_94_ : h113 (k + 94) = .inl (1, 256, .inl (fun _ => 0)) := by rw [e_h113, va_up_neq (nek0 (a := 94) (by decide))]; exact F_h111__k_94_
  have F_h113__k_95_ : h113 (k + 95) = .inl (1, 13, .inl (fun _ => 0)) := by rw [e_h113, va_up_neq (nek0 (a := 95) (by decide))]; exact F_h111__k_95_
  have F_h113__k_96_ : h113 (k + 96) = .inr (0, [.ref (k + 97), .ref (k + 98), .ref (k + 99), .int 0, .int 0]) := by rw [e_h113, va_up_neq (nek0 (a := 96) (by decide))]; exact F_h111__k_96_
  have F_h113__k_97_ : h113 (k + 97) = .inl (1, 256, .inl (fun _ => 0)) := by rw [e_h113, va_up_neq (nek0 (a := 97) (by decide))]; exact F_h111__k_97_
  have F_h113__k_98_ : h113 (k + 98) = .inl (1, 256, .inl (fun _ => 0)) := by rw [e_h113, va_up_neq (nek0 (a := 98) (by decide))]; exact F_h111__k_98_
  have F_h113__k_99_ : h113 (k + 99) = .inl (1, 13, .inl (fun _ => 0)) := by rw [e_h113, va_up_neq (nek0 (a := 99) (by decide))]; exact F_h111__k_99_
  have F_h113__k_100_ : h113 (k + 100) = .inr (4, [.ref (k + 101), .ref (k + 102), .ref (k + 103), .ref (k + 104), .ref (k + 105)]) := by rw [e_h113, va_up_neq (nek0 (a := 100) (by decide))]; exact F_h111__k_100_
  have F_h113__k_101_ : h113 (k + 101) = .inl (1, 256, .inl (fun _ => 0)) := by rw [e_h113, va_up_neq (nek0 (a := 101) (by decide))]; exact F_h111__k_101_
  have F_h113__k_102_ : h113 (k + 102) = .inl (1, 256, .inl (fun _ => 0)) := by rw [e_h113, va_up_neq (nek0 (a := 102) (by decide))]; exact F_h111__k_102_
  have F_h113__k_103_ : h113 (k + 103) = .inl (1, 512, .inl (fun _ => 0)) := by rw [e_h113, va_up_neq (nek0 (a := 103) (by decide))]; exact F_h111__k_103_
  have F_h113__k_104_ : h113 (k + 104) = .inl (1, 512, .inl (fun _ => 0)) := by rw [e_h113, va_up_neq (nek0 (a := 104) (by decide))]; exact F_h111__k_104_
  have F_h113__k_105_ : h113 (k + 105) = .inl (1, 512, .inl (fun _ => 0)) := by rw [e_h113, va_up_neq (nek0 (a := 105) (by decide))]; exact F_h111__k_105_
  have F_h113__k_106_ : h113 (k + 106) = .inr (7, [.ref (k + 107), .int 0, .int 0, .long 0, .int 0]) := by rw [e_h113, va_up_neq (nek0 (a := 106) (by decide))]; exact F_h111__k_106_
  have F_h113__k_107_ : h113 (k + 107) = .inl (0, 256, .inl (fun _ => 0)) := by rw [e_h113, va_up_neq (nek0 (a := 107) (by decide))]; exact F_h111__k_107_
  have F_h113__k_108_ : h113 (k + 108) = .inr (1, [.ref (aBig + 3), .ref (aBig + 4), .int 9, .ref (k + 109), .ref (k + 110), .ref (k + 113), .int 0, .int 0, .int 0, .ref (k + 114), .ref (k + 121), .ref (k + 128), .ref (k + 114), .ref (k + 111), .int 0, .int 0, .int 0, .int 0]) := by rw [e_h113, va_up_neq (nek0 (a := 108) (by decide))]; exact F_h111__k_108_
  have F_h113__k_109_ : h113 (k + 109) = .inl (1, 2667, .inl (fun _ => 0)) := by rw [e_h113, va_up_neq (nek0 (a := 109) (by decide))]; exact F_h111__k_109_
  have F_h113__k_110_ : h113 (k + 110) = .inl (1, 2667, .inl (fun _ => 0)) := by rw [e_h113, va_up_neq (nek0 (a := 110) (by decide))]; exact F_h111__k_110_
  have F_h113__k_111_ : h113 (k + 111) = .inr (7, [.ref (k + 112), .int 0, .int 0, .long 0, .int 0]) := by rw [e_h113, va_up_neq (nek0 (a := 111) (by decide))]; exact F_h111__k_111_
  have F_h113__k_112_ : h113 (k + 112) = .inl (0, 128, .inl (fun _ => 0)) := by rw [e_h113, va_up_neq (nek0 (a := 112) (by decide))]; exact F_h111__k_112_
  have F_h113__k_113_ : h113 (k + 113) = .inl (1, 36, .inl (fun _ => 0)) := by rw [e_h113, va_up_neq (nek0 (a := 113) (by decide))]; exact F_h111__k_113_
  have F_h113__k_114_ : h113 (k + 114) = .inr (8, [.int 35, .ref (k + 115), .ref (k + 116), .ref (k + 117), .ref (k + 118), .ref (k + 119), .ref (k + 120), .int 6, .int 1]) := by rw [e_h113, va_up_neq (nek0 (a := 114) (by decide))]; exact F_h111__k_114_
  have F_h113__k_115_ : h113 (k + 115) = .inl (1, 36, .inl pA) := by rw [e_h113, va_up_neq (nek0 (a := 115) (by decide))]; exact F_h111__k_115_
  have F_h113__k_116_ : h113 (k + 116) = .inl (1, 36, .inl (fun _ => 0)) := by rw [e_h113, va_up_neq (nek0 (a := 116) (by decide))]; exact F_h111__k_116_
  have F_h113__k_117_ : h113 (k + 117) = .inl (1, 36, .inl fA) := by rw [e_h113, va_up_neq (nek0 (a := 117) (by decide))]; exact F_h111__k_117_
  have F_h113__k_118_ : h113 (k + 118) = .inl (1, 36, .inl wA) := by rw [e_h113, va_up_neq (nek0 (a := 118) (by decide))]; exact F_h111__k_118_
  have F_h113__k_119_ : h113 (k + 119) = .inl (1, 512, .inl oA) := by rw [e_h113, va_up_neq (nek0 (a := 119) (by decide))]; exact F_h111__k_119_
  have F_h113__k_120_ : h113 (k + 120) = .inl (1, 512, .inl sA) := by rw [e_h113, va_up_neq (nek0 (a := 120) (by decide))]; exact F_h111__k_120_
  have F_h113__k_121_ : h113 (k + 121) = .inr (8, [.int 35, .ref (k + 122), .ref (k + 123), .ref (k + 124), .ref (k + 125), .ref (k + 126), .ref (k + 127), .int 0, .int 0]) := by rw [e_h113, va_up_neq (nek0 (a := 121) (by decide))]; exact F_h111__k_121_
  have F_h113__k_122_ : h113 (k + 122) = .inl (1, 36, .inl (fun _ => 0)) := by rw [e_h113, va_up_neq (nek0 (a := 122) (by decide))]; exact F_h111__k_122_
  have F_h113__k_123_ : h113 (k + 123) = .inl (1, 36, .inl (fun _ => 0)) := by rw [e_h113, va_up_neq (nek0 (a := 123) (by decide))]; exact F_h111__k_123_
  have F_h113__k_124_ : h113 (k + 124) = .inl (1, 36, .inl (fun _ => 0)) := by rw [e_h113, va_up_neq (nek0 (a := 124) (by decide))]; exact F_h111__k_124_
  have F_h113__k_125_ : h113 (k + 125) = .inl (1, 36, .inl (fun _ => 0)) := by rw [e_h113, va_up_neq (nek0 (a := 125) (by decide))]; exact F_h111__k_125_
  have F_h113__k_126_ : h113 (k + 126) = .inl (1, 512, .inl (fun _ => 0)) := by rw [e_h113, va_up_neq (nek0 (a := 126) (by decide))]; exact F_h111__k_126_
  have F_h113__k_127_ : h113 (k + 127) = .inl (1, 512, .inl (fun _ => 0)) := by rw [e_h113, va_up_neq (nek0 (a := 127) (by decide))]; exact F_h111__k_127_
  have F_h113__k_128_ : h113 (k + 128) = .inr (8, [.int 35, .ref (k + 129), .ref (k + 130), .ref (k + 131), .ref (k + 132), .ref (k + 133), .ref (k + 134), .int 0, .int 0]) := by rw [e_h113, va_up_neq (nek0 (a := 128) (by decide))]; exact F_h111__k_128_
  have F_h113__k_129_ : h113 (k + 129) = .inl (1, 36, .inl (fun _ => 0)) := by rw [e_h113, va_up_neq (nek0 (a := 129) (by decide))]; exact F_h111__k_129_
  have F_h113__k_130_ : h113 (k + 130) = .inl (1, 36, .inl (fun _ => 0)) := by rw [e_h113, va_up_neq (nek0 (a := 130) (by decide))]; exact F_h111__k_130_
  have F_h113__k_131_ : h113 (k + 131) = .inl (1, 36, .inl (fun _ => 0)) := by rw [e_h113, va_up_neq (nek0 (a := 131) (by decide))]; exact F_h111__k_131_
  have F_h113__k_132_ : h113 (k + 132) = .inl (1, 36, .inl (fun _ => 0)) := by rw [e_h113, va_up_neq (nek0 (a := 132) (by decide))]; exact F_h111__k_132_
  have F_h113__k_133_ : h113 (k + 133) = .inl (1, 512, .inl (fun _ => 0)) := by rw [e_h113, va_up_neq (nek0 (a := 133) (by decide))]; exact F_h111__k_133_
  have F_h113__k_134_ : h113 (k + 134) = .inl (1, 512, .inl (fun _ => 0)) := by rw [e_h113, va_up_neq (nek0 (a := 134) (by decide))]; exact F_h111__k_134_
  have F_h113__k_135_ : h113 (k + 135) = .inr (1, [.ref (aBig + 5), .ref (aBig + 6), .int 8, .ref (k + 136), .ref (k + 137), .ref (k + 140), .int 0, .int 0, .int 0, .ref (k + 141), .ref (k + 148), .ref (k + 155), .ref (k + 141), .ref (k + 138), .int 0, .int 0, .int 0, .int 0]) := by rw [e_h113, va_up_neq (nek0 (a := 135) (by decide))]; exact F_h111__k_135_
  have F_h113__k_136_ : h113 (k + 136) = .inl (1, 2667, .inl (fun _ => 0)) := by rw [e_h113, va_up_neq (nek0 (a := 136) (by decide))]; exact F_h111__k_136_
  have F_h113__k_137_ : h113 (k + 137) = .inl (1, 2667, .inl (fun _ => 0)) := by rw [e_h113, va_up_neq (nek0 (a := 137) (by decide))]; exact F_h111__k_137_
  have F_h113__k_138_ : h113 (k + 138) = .inr (7, [.ref (k + 139), .int 0, .int 0, .long 0, .int 0]) := by rw [e_h113, va_up_neq (nek0 (a := 138) (by decide))]; exact F_h111__k_138_
  have F_h113__k_139_ : h113 (k + 139) = .inl (0, 128, .inl (fun _ => 0)) := by rw [e_h113, va_up_neq (nek0 (a := 139) (by decide))]; exact F_h111__k_139_
  have F_h113__k_140_ : h113 (k + 140) = .inl (1, 32, .inl (fun _ => 0)) := by rw [e_h113, va_up_neq (nek0 (a := 140) (by decide))]; exact F_h111__k_140_
  have F_h113__k_141_ : h113 (k + 141) = .inr (8, [.int 31, .ref (k + 142), .ref (k + 143), .ref (k + 144), .ref (k + 145), .ref (k + 146), .ref (k + 147), .int 5, .int 1]) := by rw [e_h113, va_up_neq (nek0 (a := 141) (by decide))]; exact F_h111__k_141_
  have F_h113__k_142_ : h113 (k + 142) = .inl (1, 32, .inl pB) := by rw [e_h113, va_up_neq (nek0 (a := 142) (by decide))]; exact F_h111__k_142_
  have F_h113__k_143_ : h113 (k + 143) = .inl (1, 32, .inl (fun _ => 0)) := by rw [e_h113, va_up_neq (nek0 (a := 143) (by decide))]; exact F_h111__k_143_
  have F_h113__k_144_ : h113 (k + 144) = .inl (1, 32, .inl fB) := by rw [e_h113, va_up_neq (nek0 (a := 144) (by decide))]; exact F_h111__k_144_
  have F_h113__k_145_ : h113 (k + 145) = .inl (1, 32, .inl wB) := by rw [e_h113, va_up_neq (nek0 (a := 145) (by decide))]; exact F_h111__k_145_
  have F_h113__k_146_ : h113 (k + 146) = .inl (1, 256, .inl oB) := by rw [e_h113, va_up_neq (nek0 (a := 146) (by decide))]; exact F_h111__k_146_
  have F_h113__k_147_ : h113 (k + 147) = .inl (1, 256, .inl sB) := by rw [e_h113, va_up_neq (nek0 (a := 147) (by decide))]; exact F_h111__k_147_
  have F_h113__k_148_ : h113 (k + 148) = .inr (8, [.int 31, .ref (k + 149), .ref (k + 150), .ref (k + 151), .ref (k + 152), .ref (k + 153), .ref (k + 154), .int 0, .int 0]) := by rw [e_h113, va_up_neq (nek0 (a := 148) (by decide))]; exact F_h111__k_148_
  have F_h113__k_149_ : h113 (k + 149) = .inl (1, 32, .inl (fun _ => 0)) := by rw [e_h113, va_up_neq (nek0 (a := 149) (by decide))]; exact F_h111__k_149_
  have F_h113__k_150_ : h113 (k + 150) = .inl (1, 32, .inl (fun _ => 0)) := by rw [e_h113, va_up_neq (nek0 (a := 150) (by decide))]; exact F_h111__k_150_
  have F_h113__k_151_ : h113 (k + 151) = .inl (1, 32, .inl (fun _ => 0)) := by rw [e_h113, va_up_neq (nek0 (a := 151) (by decide))]; exact F_h111__k_151_
  have F_h113__k_152_ : h113 (k + 152) = .inl (1, 32, .inl (fun _ => 0)) := by rw [e_h113, va_up_neq (nek0 (a := 152) (by decide))]; exact F_h111__k_152_
  have F_h113__k_153_ : h113 (k + 153) = .inl (1, 256, .inl (fun _ => 0)) := by rw [e_h113, va_up_neq (nek0 (a := 153) (by decide))]; exact F_h111__k_153_
  have F_h113__k_154_ : h113 (k + 154) = .inl (1, 256, .inl (fun _ => 0)) := by rw [e_h113, va_up_neq (nek0 (a := 154) (by decide))]; exact F_h111__k_154_
  have F_h113__k_155_ : h113 (k + 155) = .inr (8, [.int 31, .ref (k + 156), .ref (k + 157), .ref (k + 158), .ref (k + 159), .ref (k + 160), .ref (k + 161), .int 0, .int 0]) := by rw [e_h113, va_up_neq (nek0 (a := 155) (by decide))]; exact F_h111__k_155_
  have F_h113__k_156_ : h113 (k + 156) = .inl (1, 32, .inl (fun _ => 0)) := by rw [e_h113, va_up_neq (nek0 (a := 156) (by decide))]; exact F_h111__k_156_
  have F_h113__k_157_ : h113 (k + 157) = .inl (1, 32, .inl (fun _ => 0)) := by rw [e_h113, va_up_neq (nek0 (a := 157) (by decide))]; exact F_h111__k_157_
  have F_h113__k_158_ : h113 (k + 158) = .inl (1, 32, .inl (fun _ => 0)) := by rw [e_h113, va_up_neq (nek0 (a := 158) (by decide))]; exact F_h111__k_158_
  have F_h113__k_159_ : h113 (k + 159) = .inl (1, 32, .inl (fun _ => 0)) := by rw [e_h113, va_up_neq (nek0 (a := 159) (by decide))]; exact F_h111__k_159_
  have F_h113__k_160_ : h113 (k + 160) = .inl (1, 256, .inl (fun _ => 0)) := by rw [e_h113, va_up_neq (nek0 (a := 160) (by decide))]; exact F_h111__k_160_
  have F_h113__k_161_ : h113 (k + 161) = .inl (1, 256, .inl (fun _ => 0)) := by rw [e_h113, va_up_neq (nek0 (a := 161) (by decide))]; exact F_h111__k_161_
  have F_h113__k_162_ : h113 (k + 162) = .inr (1, [.ref (aBig + 7), .ref (aBig + 8), .int 9, .ref (k + 163), .ref (k + 164), .ref (k + 167), .int 0, .int 0, .int 0, .ref (k + 168), .ref (k + 175), .ref (k + 182), .ref (k + 168), .ref (k + 165), .int 0, .int 0, .int 0, .int 0]) := by rw [e_h113, va_up_neq (nek0 (a := 162) (by decide))]; exact F_h111__k_162_
  have F_h113__k_163_ : h113 (k + 163) = .inl (1, 2667, .inl (fun _ => 0)) := by rw [e_h113, va_up_neq (nek0 (a := 163) (by decide))]; exact F_h111__k_163_
  have F_h113__k_164_ : h113 (k + 164) = .inl (1, 2667, .inl (fun _ => 0)) := by rw [e_h113, va_up_neq (nek0 (a := 164) (by decide))]; exact F_h111__k_164_
  have F_h113__k_165_ : h113 (k + 165) = .inr (7, [.ref (k + 166), .int 0, .int 0, .long 0, .int 0]) := by rw [e_h113, va_up_neq (nek0 (a := 165) (by decide))]; exact F_h111__k_165_
  have F_h113__k_166_ : h113 (k + 166) = .inl (0, 128, .inl (fun _ => 0)) := by rw [e_h113, va_up_neq (nek0 (a := 166) (by decide))]; exact F_h111__k_166_
  have F_h113__k_167_ : h113 (k + 167) = .inl (1, 53, .inl (fun _ => 0)) := by rw [e_h113, va_up_neq (nek0 (a := 167) (by decide))]; exact F_h111__k_167_
  have F_h113__k_168_ : h113 (k + 168) = .inr (8, [.int 52, .ref (k + 169), .ref (k + 170), .ref (k + 171), .ref (k + 172), .ref (k + 173), .ref (k + 174), .int 6, .int 1]) := by rw [e_h113, va_up_neq (nek0 (a := 168) (by decide))]; exact F_h111__k_168_
  have F_h113__k_169_ : h113 (k + 169) = .inl (1, 53, .inl pC) := by rw [e_h113, va_up_neq (nek0 (a := 169) (by decide))]; exact F_h111__k_169_
  have F_h113__k_170_ : h113 (k + 170) = .inl (1, 53, .inl (fun _ => 0)) := by rw [e_h113, va_up_neq (nek0 (a := 170) (by decide))]; exact F_h111__k_170_
  have F_h113__k_171_ : h113 (k + 171) = .inl (1, 53, .inl fC) := by rw [e_h113, va_up_neq (nek0 (a := 171) (by decide))]; exact F_h111__k_171_
  have F_h113__k_172_ : h113 (k + 172) = .inl (1, 53, .inl wC) := by rw [e_h113, va_up_neq (nek0 (a := 172) (by decide))]; exact F_h111__k_172_
  have F_h113__k_173_ : h113 (k + 173) = .inl (1, 512, .inl oC) := by rw [e_h113, va_up_neq (nek0 (a := 173) (by decide))]; exact F_h111__k_173_
  have F_h113__k_174_ : h113 (k + 174) = .inl (1, 512, .inl sC) := by rw [e_h113, va_up_neq (nek0 (a := 174) (by decide))]; exact F_h111__k_174_
  have F_h113__k_175_ : h113 (k + 175) = .inr (8, [.int 52, .ref (k + 176), .ref (k + 177), .ref (k + 178), .ref (k + 179), .ref (k + 180), .ref (k + 181), .int 0, .int 0]) := by rw [e_h113, va_up_neq (nek0 (a := 175) (by decide))]; exact F_h111__k_175_
  have F_h113__k_176_ : h113 (k + 176) = .inl (1, 53, .inl (fun _ => 0)) := by rw [e_h113, va_up_neq (nek0 (a := 176) (by decide))]; exact F_h111__k_176_
  have F_h113__k_177_ : h113 (k + 177) = .inl (1, 53, .inl (fun _ => 0)) := by rw [e_h113, va_up_neq (nek0 (a := 177) (by decide))]; exact F_h111__k_177_
  have F_h113__k_178_ : h113 (k + 178) = .inl (1, 53, .inl (fun _ => 0)) := by rw [e_h113, va_up_neq (nek0 (a := 178) (by decide))]; exact F_h111__k_178_
  have F_h113__k_179_ : h113 (k + 179) = .inl (1, 53, .inl (fun _ => 0)) := by rw [e_h113, va_up_neq (nek0 (a := 179) (by decide))]; exact F_h111__k_179_
  have F_h113__k_180_ : h113 (k + 180) = .inl (1, 512, .inl (fun _ => 0)) := by rw [e_h113, va_up_neq (nek0 (a := 180) (by decide))]; exact F_h111__k_180_
  have F_h113__k_181_ : h113 (k + 181) = .inl (1, 512, .inl (fun _ => 0)) := by rw [e_h113, va_up_neq (nek0 (a := 181) (by decide))]; exact F_h111__k_181_
  have F_h113__k_182_ : h113 (k + 182) = .inr (8, [.int 52, .ref (k + 183), .ref (k + 184), .ref (k + 185), .ref (k + 186), .ref (k + 187), .ref (k + 188), .int 0, .int 0]) := by rw [e_h113, va_up_neq (nek0 (a := 182) (by decide))]; exact F_h111__k_182_
  have F_h113__k_183_ : h113 (k + 183) = .inl (1, 53, .inl (fun _ => 0)) := by rw [e_h113, va_up_neq (nek0 (a := 183) (by decide))]; exact F_h111__k_183_
  have F_h113__k_184_ : h113 (k + 184) = .inl (1, 53, .inl (fun _ => 0)) := by rw [e_h113, va_up_neq (nek0 (a := 184) (by decide))]; exact F_h111__k_184_
  have F_h113__k_185_ : h113 (k + 185) = .inl (1, 53, .inl (fun _ => 0)) := by rw [e_h113, va_up_neq (nek0 (a := 185) (by decide))]; exact F_h111__k_185_
  have F_h113__k_186_ : h113 (k + 186) = .inl (1, 53, .inl (fun _ => 0)) := by rw [e_h113, va_up_neq (nek0 (a := 186) (by decide))]; exact F_h111__k_186_
  have F_h113__k_187_ : h113 (k + 187) = .inl (1, 512, .inl (fun _ => 0)) := by rw [e_h113, va_up_neq (nek0 (a := 187) (by decide))]; exact F_h111__k_187_
  have F_h113__k_188_ : h113 (k + 188) = .inl (1, 512, .inl (fun _ => 0)) := by rw [e_h113, va_up_neq (nek0 (a := 188) (by decide))]; exact F_h111__k_188_
  have F_h113__k_189_ : h113 (k + 189) = .inl (1, 12, .inl (fun _ => 0)) := by rw [e_h113, va_up_neq (nek0 (a := 189) (by decide))]; exact F_h111__k_189_
  have FR_h113 : ∀ j, j < k ∨ aBig ≤ j → h113 j = h j := fun j hj => by rw [e_h113]; exact (va_up_neq (frne0 hj hbig)).trans (FR_h111 j hj)
  clear F_h111_k F_h111__k_1_ F_h111__k_2_ F_h111__k_3_ F_h111__k_4_ F_h111__k_5_ F_h111__k_6_ F_h111__k_7_ F_h111__k_8_ F_h111__k_9_ F_h111__k_10_ F_h111__k_11_ F_h111__k_12_ F_h111__k_13_ F_h111__k_14_ F_h111__k_15_ F_h111__k_16_ F_h111__k_17_ F_h111__k_18_ F_h111__k_19_ F_h111__k_20_ F_h111__k_21_ F_h111__k_22_ F_h111__k_23_ F_h111__k_24_ F_h111__k_25_ F_h111__k_26_ F_h111__k_27_ F_h111__k_28_ F_h111__k_29_ F_h111__k_30_ F_h111__k_31_ F_h111__k_32_ F_h111__k_33_ F_h111__k_34_ F_h111__k_35_ F_h111__k_36_ F_h111__k_37_ F_h111__k_38_ F_h111__k_39_ F_h111__k_40_ F_h111__k_41_ F_h111__k_42_ F_h111__k_43_ F_h111__k_44_ F_h111__k_45_ F_h111__k_46_ F_h111__k_47_ F_h111__k_48_ F_h111__k_49_ F_h111__k_50_ F_h111__k_51_ F_h111__k_52_ F_h111__k_53_ F_h111__k_54_ F_h111__k_55_ F_h111__k_56_ F_h111__k_57_ F_h111__k_58_ F_h111__k_59_ F_h111__k_60_ F_h111__k_61_ F_h111__k_62_ F_h111__k_63_ F_h111__k_64_ F_h111__k_65_ F_h111__k_66_ F_h111__k_67_ F_h111__k_68_ F_h111__k_69_ F_h111__k_70_ F_h111__k_71_ F_h111__k_72_ F_h111__k_73_ F_h111__k_74_ F_h111__k_75_ F_h111__k_76_ F_h111__k_77_ F_h111__k_78_ F_h111__k_79_ F_h111__k_80_ F_h111__k_81_ F_h111__k_82_ F_h111__k_83_ F_h111__k_84_ F_h111__k_85_ F_h111__k_86_ F_h111__k_87_ F_h111__k_88_ F_h111__k_89_ F_h111__k_90_ F_h111__k_91_ F_h111__k_92_ F_h111__k_93_ F_h111__k_94_ F_h111__k_95_ F_h111__k_96_ F_h111__k_97_ F_h111__k_98_ F_h111__k_99_ F_h111__k_100_ F_h111__k_101_ F_h111__k_102_ F_h111__k_103_ F_h111__k_104_ F_h111__k_105_ F_h111__k_106_ F_h111__k_107_ F_h111__k_108_ F_h111__k_109_ F_h111__k_110_ F_h111__k_111_ F_h111__k_112_ F_h111__k_113_ F_h111__k_114_ F_h111__k_115_ F_h111__k_116_ F_h111__k_117_ F_h111__k_118_ F_h111__k_119_ F_h111__k_120_ F_h111__k_121_ F_h111__k_122_ F_h111__k_123_ F_h111__k_124_ F_h111__k_125_ F_h111__k_126_ F_h111__k_127_ F_h111__k_128_ F_h111__k_129_ F_h111__k_130_ F_h111__k_131_ F_h111__k_132_ F_h111__k_133_ F_h111__k_134_ F_h111__k_135_ F_h111__k_136_ F_h111__k_137_ F_h111__k_138_ F_h111__k_139_ F_h111__k_140_ F_h111__k_141_ F_h111__k_142_ F_h111__k_143_ F_h111__k_144_ F_h111__k_145_ F_h111__k_146_ F_h111__k_147_ F_h111__k_148_ F_h111__k_149_ F_h111__k_150_ F_h111__k_151_ F_h111__k_152_ F_h111__k_153_ F_h111__k_154_ F_h111__k_155_ F_h111__k_156_ F_h111__k_157_ F_h111__k_158_ F_h111__k_159_ F_h111__k_160_ F_h111__k_161_ F_h111__k_162_ F_h111__k_163_ F_h111__k_164_ F_h111__k_165_ F_h111__k_166_ F_h111__k_167_ F_h111__k_168_ F_h111__k_169_ F_h111__k_170_ F_h111__k_171_ F_h111__k_172_ F_h111__k_173_ F_h111__k_174_ F_h111__k_175_ F_h111__k_176_ F_h111__k_177_ F_h111__k_178_ F_h111__k_179_ F_h111__k_180_ F_h111__k_181_ F_h111__k_182_ F_h111__k_183_ F_h111__k_184_ F_h111__k_185_ F_h111__k_186_ F_h111__k_187_ F_h111__k_188_ F_h111__k_189_ FR_h111 e_h113
  clear h111
  refine WX.s1 rfl rfl ?_
  refine WX.s1 rfl rfl ?_
  refine WX.put1 (fs := [.ref (k + 1), .ref (k + 3), .ref (k + 5), .ref (k + 7), .long 0, .ref (k + 9), .ref (k + 38), .ref (k + 67), .ref (k + 81), .ref (k + 189), .int 0, .int 0]) (fs' := [.ref (k + 1), .ref (k + 3), .ref (k + 5), .ref (k + 7), .long 0, .ref (k + 9), .ref (k + 38), .ref (k + 67), .ref (k + 81), .ref (k + 189), .int 2, .int 0]) rfl (ltk0 (c := 190) (by decide)) (F_h113_k) (Nat.le_of_ble_eq_true rfl) (rfl) rfl (fun h118 e_h118 => ?_)
  have F_h118_k : h118 k = .inr (10, [.ref (k + 1), .ref (k + 3), .ref (k + 5), .ref (k + 7), .long 0, .ref (k + 9), .ref (k + 38), .ref (k + 67), .ref (k + 81), .ref (k + 189), .int 2, .int 0]) := by rw [e_h118]; exact va_up_eq
  have F_h118__k_1_ : h118 (k + 1) = .inr (7, [.ref (k + 2), .int 0, .int 0, .long 0, .int 0]) := by rw [e_h118, va_up_neq (nek0 (a := 1) (by decide))]; exact F_h113__k_1_
  have F_h118__k_2_ : h118 (k + 2) = .inl (0, 8000, .inl (fun _ => 0)) := by rw [e_h118, va_up_neq (nek0 (a := 2) (by decide))]; exact F_h113__k_2_
  have F_h118__k_3_ : h118 (k + 3) = .inr (7, [.ref (k + 4), .int 0, .int 0, .long 0, .int 0]) := by rw [e_h118, va_up_neq (nek0 (a := 3) (by decide))]; exact F_h113__k_3_
  have F_h118__k_4_ : h118 (k + 4) = .inl (0, 12000, .inl (fun _ => 0)) := by rw [e_h118, va_up_neq (nek0 (a := 4) (by decide))]; exact F_h113__k_4_
  have F_h118__k_5_ : h118 (k + 5) = .inr (7, [.ref (k + 6), .int 0, .int 0, .long 0, .int 0]) := by rw [e_h118, va_up_neq (nek0 (a := 5) (by decide))]; exact F_h113__k_5_
  have F_h118__k_6_ : h118 (k + 6) = .inl (0, 12000, .inl (fun _ => 0)) := by rw [e_h118, va_up_neq (nek0 (a := 6) (by decide))]; exact F_h113__k_6_
  have F_h118__k_7_ : h118 (k + 7) = .inr (7, [.ref (k + 8), .int 0, .int 0, .long 0, .int 0]) := by rw [e_h118, va_up_neq (nek0 (a := 7) (by decide))]; exact F_h113__k_7_
  have F_h118__k_8_ : h118 (k + 8) = .inl (0, 8000, .inl (fun _ => 0)) := by rw [e_h118, va_up_neq (nek0 (a := 8) (by decide))]; exact F_h113__k_8_
  have F_h118__k_9_ : h118 (k + 9) = .inr (9, [.ref (k + 10), .ref (k + 12), .ref (k + 16), .ref (k + 23), .ref (k + 30), .ref (k + 37)]) := by rw [e_h118, va_up_neq (nek0 (a := 9) (by decide))]; exact F_h113__k_9_
  have F_h118__k_10_ : h118 (k + 10) = .inr (7, [.ref (k + 11), .int 0, .int 0, .long 0, .int 0]) := by rw [e_h118, va_up_neq (nek0 (a := 10) (by decide))]; exact F_h113__k_10_
  have F_h118__k_11_ : h118 (k + 11) = .inl (0, 0, .inl (fun _ => 0)) := by rw [e_h118, va_up_neq (nek0 (a := 11) (by decide))]; exact F_h113__k_11_
  have F_h118__k_12_ : h118 (k + 12) = .inr (0, [.ref (k + 13), .ref (k + 14), .ref (k + 15), .int 0, .int 0]) := by rw [e_h118, va_up_neq (nek0 (a := 12) (by decide))]; exact F_h113__k_12_
  have F_h118__k_13_ : h118 (k + 13) = .inl (1, 256, .inl (fun _ => 0)) := by rw [e_h118, va_up_neq (nek0 (a := 13) (by decide))]; exact F_h113__k_13_
  have F_h118__k_14_ : h118 (k + 14) = .inl (1, 256, .inl (fun _ => 0)) := by rw [e_h118, va_up_neq (nek0 (a := 14) (by decide))]; exact F_h113__k_14_
  have F_h118__k_15_ : h118 (k + 15) = .inl (1, 13, .inl (fun _ => 0)) := by rw [e_h118, va_up_neq (nek0 (a := 15) (by decide))]; exact F_h113__k_15_
  have F_h118__k_16_ : h118 (k + 16) = .inr (8, [.int 35, .ref (k + 17), .ref (k + 18), .ref (k + 19), .ref (k + 20), .ref (k + 21), .ref (k + 22), .int 0, .int 0]) := by rw [e_h118, va_up_neq (nek0 (a := 16) (by decide))]; exact F_h113__k_16_
  have F_h118__k_17_ : h118 (k + 17) = .inl (1, 36, .inl (fun _ => 0)) := by rw [e_h118, va_up_neq (nek0 (a := 17) (by decide))]; exact F_h113__k_17_
  have F_h118__k_18_ : h118 (k + 18) = .inl (1, 36, .inl (fun _ => 0)) := by rw [e_h118, va_up_neq (nek0 (a := 18) (by decide))]; exact F_h113__k_18_
  have F_h118__k_19_ : h118 (k + 19) = .inl (1, 36, .inl (fun _ => 0)) := by rw [e_h118, va_up_neq (nek0 (a := 19) (by decide))]; exact F_h113__k_19_
  have F_h118__k_20_ : h118 (k + 20) = .inl (1, 36, .inl (fun _ => 0)) := by rw [e_h118, va_up_neq (nek0 (a := 20) (by decide))]; exact F_h113__k_20_
  have F_h118__k_21_ : h118 (k + 21) = .inl (1, 512, .inl (fun _ => 0)) := by rw [e_h118, va_up_neq (nek0 (a := 21) (by decide))]; exact F_h113__k_21_
  have F_h118__k_22_ : h118 (k + 22) = .inl (1, 512, .inl (fun _ => 0)) := by rw [e_h118, va_up_neq (nek0 (a := 22) (by decide))]; exact F_h113__k_22_
  have F_h118__k_23_ : h118 (k + 23) = .inr (8, [.int 31, .ref (k + 24), .ref (k + 25), .ref (k + 26), .ref (k + 27), .ref (k + 28), .ref (k + 29), .int 0, .int 0]) := by rw [e_h118, va_up_neq (nek0 (a := 23) (by decide))]; exact F_h113__k_23_
  have F_h118__k_24_ : h118 (k + 24) = .inl (1, 32, .inl (fun _ => 0)) := by rw [e_h118, va_up_neq (nek0 (a := 24) (by decide))]; exact F_h113__k_24_
  have F_h118__k_25_ : h118 (k + 25) = .inl (1, 32, .inl (fun _ => 0)) := by rw [e_h118, va_up_neq (nek0 (a := 25) (by decide))]; exact F_h113__k_25_
  have F_h118__k_26_ : h118 (k + 26) = .inl (1, 32, .inl (fun _ => 0)) := by rw [e_h118, va_up_neq (nek0 (a := 26) (by decide))]; exact F_h113__k_26_
  have F_h118__k_27_ : h118 (k + 27) = .inl (1, 32, .inl (fun _ => 0)) := by rw [e_h118, va_up_neq (nek0 (a := 27) (by decide))]; exact F_h113__k_27_
  have F_h118__k_28_ : h118 (k + 28) = .inl (1, 256, .inl (fun _ => 0)) := by rw [e_h118, va_up_neq (nek0 (a := 28) (by decide))]; exact F_h113__k_28_
  have F_h118__k_29_ : h118 (k + 29) = .inl (1, 256, .inl (fun _ => 0)) := by rw [e_h118, va_up_neq (nek0 (a := 29) (by decide))]; exact F_h113__k_29_
  have F_h118__k_30_ : h118 (k + 30) = .inr (8, [.int 52, .ref (k + 31), .ref (k + 32), .ref (k + 33), .ref (k + 34), .ref (k + 35), .ref (k + 36), .int 0, .int 0]) := by rw [e_h118, va_up_neq (nek0 (a := 30) (by decide))]; exact F_h113__k_30_
  have F_h118__k_31_ : h118 (k + 31) = .inl (1, 53, .inl (fun _ => 0)) := by rw [e_h118, va_up_neq (nek0 (a := 31) (by decide))]; exact F_h113__k_31_
  have F_h118__k_32_ : h118 (k + 32) = .inl (1, 53, .inl (fun _ => 0)) := by rw [e_h118, va_up_neq (nek0 (a := 32) (by decide))]; exact F_h113__k_32_
  have F_h118__k_33_ : h118 (k + 33) = .inl (1, 53, .inl (fun _ => 0)) := by rw [e_h118, va_up_neq (nek0 (a := 33) (by decide))]; exact F_h113__k_33_
  have F_h118__k_34_ : h118 (k + 34) = .inl (1, 53, .inl (fun _ => 0)) := by rw [e_h118, va_up_neq (nek0 (a := 34) (by decide))]; exact F_h113__k_34_
  have F_h118__k_35_ : h118 (k + 35) = .inl (1, 512, .inl (fun _ => 0)) := by rw [e_h118, va_up_neq (nek0 (a := 35) (by decide))]; exact F_h113__k_35_
  have F_h118__k_36_ : h118 (k + 36) = .inl (1, 512, .inl (fun _ => 0)) := by rw [e_h118, va_up_neq (nek0 (a := 36) (by decide))]; exact F_h113__k_36_
  have F_h118__k_37_ : h118 (k + 37) = .inl (1, 3, .inl lat0) := by rw [e_h118, va_up_neq (nek0 (a := 37) (by decide))]; exact F_h113__k_37_
  have F_h118__k_38_ : h118 (k + 38) = .inr (9, [.ref (k + 39), .ref (k + 41), .ref (k + 45), .ref (k + 52), .ref (k + 59), .ref (k + 66)]) := by rw [e_h118, va_up_neq (nek0 (a := 38) (by decide))]; exact F_h113__k_38_
  have F_h118__k_39_ : h118 (k + 39) = .inr (7, [.ref (k + 40), .int 0, .int 0, .long 0, .int 0]) := by rw [e_h118, va_up_neq (nek0 (a := 39) (by decide))]; exact F_h113__k_39_
  have F_h118__k_40_ : h118 (k + 40) = .inl (0, 0, .inl (fun _ => 0)) := by rw [e_h118, va_up_neq (nek0 (a := 40) (by decide))]; exact F_h113__k_40_
  have F_h118__k_41_ : h118 (k + 41) = .inr (0, [.ref (k + 42), .ref (k + 43), .ref (k + 44), .int 0, .int 0]) := by rw [e_h118, va_up_neq (nek0 (a := 41) (by decide))]; exact F_h113__k_41_
  have F_h118__k_42_ : h118 (k + 42) = .inl (1, 256, .inl (fun _ => 0)) := by rw [e_h118, va_up_neq (nek0 (a := 42) (by decide))]; exact F_h113__k_42_
  have F_h118__k_43_ : h118 (k + 43) = .inl (1, 256, .inl (fun _ => 0)) := by rw [e_h118, va_up_neq (nek0 (a := 43) (by decide))]; exact F_h113__k_43_
  have F_h118__k_44_ : h118 (k + 44) = .inl (1, 13, .inl (fun _ => 0)) := by rw [e_h118, va_up_neq (nek0 (a := 44) (by decide))]; exact F_h113__k_44_
  have F_h118__k_45_ : h118 (k + 45) = .inr (8, [.int 35, .ref (k + 46), .ref (k + 47), .ref (k + 48), .ref (k + 49), .ref (k + 50), .ref (k + 51), .int 0, .int 0]) := by rw [e_h118, va_up_neq (nek0 (a := 45) (by decide))]; exact F_h113__k_45_
  have F_h118__k_46_ : h118 (k + 46) = .inl (1, 36, .inl (fun _ => 0)) := by rw [e_h118, va_up_neq (nek0 (a := 46) (by decide))]; exact F_h113__k_46_
  have F_h118__k_47_ : h118 (k + 47) = .inl (1, 36, .inl (fun _ => 0)) := by rw [e_h118, va_up_neq (nek0 (a := 47) (by decide))]; exact F_h113__k_47_
  have F_h118__k_48_ : h118 (k + 48) = .inl (1, 36, .inl (fun _ => 0)) := by rw [e_h118, va_up_neq (nek0 (a := 48) (by decide))]; exact F_h113__k_48_
  have F_h118__k_49_ : h118 (k + 49) = .inl (1, 36, .inl (fun _ => 0)) := by rw [e_h118, va_up_neq (nek0 (a := 49) (by decide))]; exact F_h113__k_49_
  have F_h118__k_50_ : h118 (k + 50) = .inl (1, 512, .inl (fun _ => 0)) := by rw [e_h118, va_up_neq (nek0 (a := 50) (by decide))]; exact F_h113__k_50_
  have F_h118__k_51_ : h118 (k + 51) = .inl (1, 512, .inl (fun _ => 0)) := by rw [e_h118, va_up_neq (nek0 (a := 51) (by decide))]; exact F_h113__k_51_
  have F_h118__k_52_ : h118 (k + 52) = .inr (8, [.int 31, .ref (k + 53), .ref (k + 54), .ref (k + 55), .ref (k + 56), .ref (k + 57), .ref (k + 58), .int 0, .int 0]) := by rw [e_h118, va_up_neq (nek0 (a := 52) (by decide))]; exact F_h113__k_52_
  have F_h118__k_53_ : h118 (k + 53) = .inl (1, 32, .inl (fun _ => 0)) := by rw [e_h118, va_up_neq (nek0 (a := 53) (by decide))]; exact F_h113__k_53_
  have F_h118__k_54_ : h118 (k + 54) = .inl (1, 32, .inl (fun _ => 0)) := by rw [e_h118, va_up_neq (nek0 (a := 54) (by decide))]; exact F_h113__k_54_
  have F_h118__k_55_ : h118 (k + 55) = .inl (1, 32, .inl (fun _ => 0)) := by rw [e_h118, va_up_neq (nek0 (a := 55) (by decide))]; exact F_h113__k_55_
  have F_h118__k_56_ : h118 (k + 56) = .inl (1, 32, .inl (fun _ => 0)) := by rw [e_h118, va_up_neq (nek0 (a := 56) (by decide))]; exact F_h113__k_56_
  have F_h118__k_57_ : h118 (k + 57) = .inl (1, 256, .inl (fun _ => 0)) := by rw [e_h118, va_up_neq (nek0 (a := 57) (by decide))]; exact F_h113__k_57_
  have F_h118__k_58_ : h118 (k + 58) = .inl (1, 256, .inl (fun _ => 0)) := by rw [e_h118, va_up_neq (nek0 (a := 58) (by decide))]; exact F_h113__k_58_
  have F_h118__k_59_ : h118 (k + 59) = .inr (8, [.int 52, .ref (k + 60), .ref (k + 61), .ref (k + 62), .ref (k + 63), .ref (k + 64), .ref (k + 65), .int 0, .int 0]) := by rw [e_h118, va_up_neq (nek0 (a := 59) (by decide))]; exact F_h113__k_59_
  have F_h118__k_60_ : h118 (k + 60) = .inl (1, 53, .inl (fun _ => 0)) := by rw [e_h118, va_up_neq (nek0 (a := 60) (by decide))]; exact F_h113__k_60_
  have F_h118__k_61_ : h118 (k + 61) = .inl (1, 53, .inl (fun _ => 0)) := by rw [e_h118, va_up_neq (nek0 (a := 61) (by decide))]; exact F_h113__k_61_
  have F_h118__k_62_ : h118 (k + 62) = .inl (1, 53, .inl (fun _ => 0)) := by rw [e_h118, va_up_neq (nek0 (a := 62) (by decide))]; exact F_h113__k_62_
  have F_h118__k_63_ : h118 (k + 63) = .inl (1, 53, .inl (fun _ => 0)) := by rw [e_h118, va_up_neq (nek0 (a := 63) (by decide))]; exact F_h113__k_63_
  have F_h118__k_64_ : h118 (k + 64) = .inl (1, 512, .inl (fun _ => 0)) := by rw [e_h118, va_up_neq (nek0 (a := 64) (by decide))]; exact F_h113__k_64_
  have F_h118__k_65_ : h118 (k + 65) = .inl (1, 512, .inl (fun _ => 0)) := by rw [e_h118, va_up_neq (nek0 (a := 65) (by decide))]; exact F_h113__k_65_
  have F_h118__k_66_ : h118 (k + 66) = .inl (1, 3, .inl lat0) := by rw [e_h118, va_up_neq (nek0 (a := 66) (by decide))]; exact F_h113__k_66_
  have F_h118__k_67_ : h118 (k + 67) = .inr (2, [.ref (k + 68), .ref (k + 69), .ref (k + 70), .ref (k + 77), .ref (k + 79)]) := by rw [e_h118, va_up_neq (nek0 (a := 67) (by decide))]; exact F_h113__k_67_
  have F_h118__k_68_ : h118 (k + 68) = .inl (1, 256, .inl (fun _ => 0)) := by rw [e_h118, va_up_neq (nek0 (a := 68) (by decide))]; exact F_h113__k_68_
  have F_h118__k_69_ : h118 (k + 69) = .inl (1, 12, .inl (fun _ => 0)) := by rw [e_h118, va_up_neq (nek0 (a := 69) (by decide))]; exact F_h113__k_69_
  have F_h118__k_70_ : h118 (k + 70) = .inr (8, [.int 11, .ref (k + 71), .ref (k + 72), .ref (k + 73), .ref (k + 74), .ref (k + 75), .ref (k + 76), .int 0, .int 0]) := by rw [e_h118, va_up_neq (nek0 (a := 70) (by decide))]; exact F_h113__k_70_
  have F_h118__k_71_ : h118 (k + 71) = .inl (1, 12, .inl (fun _ => 0)) := by rw [e_h118, va_up_neq (nek0 (a := 71) (by decide))]; exact F_h113__k_71_
  have F_h118__k_72_ : h118 (k + 72) = .inl (1, 12, .inl (fun _ => 0)) := by rw [e_h118, va_up_neq (nek0 (a := 72) (by decide))]; exact F_h113__k_72_
  have F_h118__k_73_ : h118 (k + 73) = .inl (1, 12, .inl (fun _ => 0)) := by rw [e_h118, va_up_neq (nek0 (a := 73) (by decide))]; exact F_h113__k_73_
  have F_h118__k_74_ : h118 (k + 74) = .inl (1, 12, .inl (fun _ => 0)) := by rw [e_h118, va_up_neq (nek0 (a := 74) (by decide))]; exact F_h113__k_74_
  have F_h118__k_75_ : h118 (k + 75) = .inl (1, 64, .inl (fun _ => 0)) := by rw [e_h118, va_up_neq (nek0 (a := 75) (by decide))]; exact F_h113__k_75_
  have F_h118__k_76_ : h118 (k + 76) = .inl (1, 64, .inl (fun _ => 0)) := by rw [e_h118, va_up_neq (nek0 (a := 76) (by decide))]; exact F_h113__k_76_
  have F_h118__k_77_ : h118 (k + 77) = .inr (7, [.ref (k + 78), .int 0, .int 0, .long 0, .int 0]) := by rw [e_h118, va_up_neq (nek0 (a := 77) (by decide))]; exact F_h113__k_77_
  have F_h118__k_78_ : h118 (k + 78) = .inl (0, 512, .inl (fun _ => 0)) := by rw [e_h118, va_up_neq (nek0 (a := 78) (by decide))]; exact F_h113__k_78_
  have F_h118__k_79_ : h118 (k + 79) = .inr (7, [.ref (k + 80), .int 0, .int 0, .long 0, .int 0]) := by rw [e_h118, va_up_neq (nek0 (a := 79) (by decide))]; exact F_h113__k_79_
  have F_h118__k_80_ : h118 (k + 80) = .inl (0, 512, .inl (fun _ => 0)) := by rw [e_h118, va_up_neq (nek0 (a := 80) (by decide))]; exact F_h113__k_80_
  have F_h118__k_81_ : h118 (k + 81) = .inr (6, [.ref (k + 82), .ref (k + 89), .ref (k + 108), .ref (k + 135), .ref (k + 162), .ref (k + 86), .ref (k + 87), .int 0, .ref (k + 88)]) := by rw [e_h118, va_up_neq (nek0 (a := 81) (by decide))]; exact F_h113__k_81_
  have F_h118__k_82_ : h118 (k + 82) = .inr (3, [.ref (k + 83), .int 0, .ref (k + 84), .ref (k + 85), .int 0, .int 0, .int 0, .int 0, .int 0, .int 0, .int 0, .int 0, .int 0]) := by rw [e_h118, va_up_neq (nek0 (a := 82) (by decide))]; exact F_h113__k_82_
  have F_h118__k_83_ : h118 (k + 83) = .inl (0, 16000, .inl (fun _ => 0)) := by rw [e_h118, va_up_neq (nek0 (a := 83) (by decide))]; exact F_h113__k_83_
  have F_h118__k_84_ : h118 (k + 84) = .inl (1, 16000, .inl (fun _ => 0)) := by rw [e_h118, va_up_neq (nek0 (a := 84) (by decide))]; exact F_h113__k_84_
  have F_h118__k_85_ : h118 (k + 85) = .inl (1, 4096, .inl (fun _ => 0)) := by rw [e_h118, va_up_neq (nek0 (a := 85) (by decide))]; exact F_h113__k_85_
  have F_h118__k_86_ : h118 (k + 86) = .inl (1, 3, .inl (fun _ => 0)) := by rw [e_h118, va_up_neq (nek0 (a := 86) (by decide))]; exact F_h113__k_86_
  have F_h118__k_87_ : h118 (k + 87) = .inl (1, 3, .inl (fun _ => 0)) := by rw [e_h118, va_up_neq (nek0 (a := 87) (by decide))]; exact F_h113__k_87_
  have F_h118__k_88_ : h118 (k + 88) = .inl (1, 12, .inl (fun _ => 0)) := by rw [e_h118, va_up_neq (nek0 (a := 88) (by decide))]; exact F_h113__k_88_
  have F_h118__k_89_ : h118 (k + 89) = .inr (5, [.ref (k + 90), .ref (k + 91), .int 0, .ref (k + 92), .ref (k + 96), .ref (k + 100), .ref (k + 67), .ref (k + 106), .int 0, .int 0, .int 0, .int 0]) := by rw [e_h118, va_up_neq (nek0 (a := 89) (by decide))]; exact F_h113__k_89_
  have F_h118__k_90_ : h118 (k + 90) = .inl (0, 8000, .inl (fun _ => 0)) := by rw [e_h118, va_up_neq (nek0 (a := 90) (by decide))]; exact F_h113__k_90_
  have F_h118__k_91_ : h118 (k + 91) = .inl (1, 256, .inl (fun _ => 0)) := by rw [e_h118, va_up_neq (nek0 (a := 91) (by decide))]; exact F_h113__k_91_
  have F_h118__k_92_ : h118 (k + 92) = .inr (0, [.ref (k + 93), .ref (k + 94), .ref (k + 95), .int 0, .int 0]) := by rw [e_h118, va_up_neq (nek0 (a := 92) (by decide))]; exact F_h113__k_92_
  have F_h118__k_93_ : h118 (k + 93) = .inl (1, 256, .inl (fun _ => 0)) := by rw [e_h118, va_up_neq (nek0 (a := 93) (by decide))]; exact F_h113__k_93_
  have F_h118__k_94_ : h118 (k + 94) = .inl (1, 256, .inl (fun _ => 0)) := by rw [e_h118, va_up_neq (nek0 (a := 94) (by decide))]; exact F_h113__k_94_
  have F_h118__k_95_ : h118 (k + 95) = .inl (1, 13, .inl (fun _ => 0)) := by rw [e_h118, va_up_neq (nek0 (a := 95) (by decide))]; exact F_h113__k_95_
  have F_h118__k_96_ : h118 (k + 96) = .inr (0, [.ref (k + 97), .ref (k + 98), .ref (k + 99), .int 0, .int 0]) := by rw [e_h118, va_up_neq (nek0 (a := 96) (by decide))]; exact F_h113__k_96_
  have F_h118__k_97_ : h118 (k + 97) = .inl (1, 256, .inl (fun _ => 0)) := by rw [e_h118, va_up_neq (nek0 (a := 97) (by decide))]; exact F_h113__k_97_
  have F_h118__k_98_ : h118 (k + 98) = .inl (1, 256, .inl (fun _ => 0)) := by rw [e_h118, va_up_neq (nek0 (a := 98) (by decide))]; exact F_h113__k_98_
  have F_h118__k_99_ : h118 (k + 99) = .inl (1, 13, .inl (fun _ => 0)) := by rw [e_h118, va_up_neq (nek0 (a := 99) (by decide))]; exact F_h113__k_99_
  have F_h118__k_100_ : h118 (k + 100) = .inr (4, [.ref (k + 101), .ref (k + 102), .ref (k + 103), .ref (k + 104), .ref (k + 105)]) := by rw [e_h118, va_up_neq (nek0 (a := 100) (by decide))]; exact F_h113__k_100_
  have F_h118__k_101_ : h118 (k + 101) = .inl (1, 256, .inl (fun _ => 0)) := by rw [e_h118, va_up_neq (nek0 (a := 101) (by decide))]; exact F_h113__k_101_
  have F_h118__k_102_ : h118 (k + 102) = .inl (1, 256, .inl (fun _ => 0)) := by rw [e_h118, va_up_neq (nek0 (a := 102) (by decide))]; exact F_h113__k_102_
  have F_h118__k_103_ : h118 (k + 103) = .inl (1, 512, .inl (fun _ => 0)) := by rw [e_h118, va_up_neq (nek0 (a := 103) (by decide))]; exact F_h113__k_103_
  have F_h118__k_104_ : h118 (k + 104) = .inl (1, 512, .inl (fun _ => 0)) := by rw [e_h118, va_up_neq (nek0 (a := 104) (by decide))]; exact F_h113__k_104_
  have F_h118__k_105_ : h118 (k + 105) = .inl (1, 512, .inl (fun _ => 0)) := by rw [e_h118, va_up_neq (nek0 (a := 105) (by decide))]; exact F_h113__k_105_
  have F_h118__k_106_ : h118 (k + 106) = .inr (7, [.ref (k + 107), .int 0, .int 0, .long 0, .int 0]) := by rw [e_h118, va_up_neq (nek0 (a := 106) (by decide))]; exact F_h113__k_106_
  have F_h118__k_107_ : h118 (k + 107) = .inl (0, 256, .inl (fun _ => 0)) := by rw [e_h118, va_up_neq (nek0 (a := 107) (by decide))]; exact F_h113__k_107_
  have F_h118__k_108_ : h118 (k + 108) = .inr (1, [.ref (aBig + 3), .ref (aBig + 4), .int 9, .ref (k + 109), .ref (k + 110), .ref (k + 113), .int 0, .int 0, .int 0, .ref (k + 114), .ref (k + 121), .ref (k + 128), .ref (k + 114), .ref (k + 111), .int 0, .int 0, .int 0, .int 0]) := by rw [e_h118, va_up_neq (nek0 (a := 108) (by decide))]; exact F_h113__k_108_
  have F_h118__k_109_ : h118 (k + 109) = .inl (1, 2667, .inl (fun _ => 0)) := by rw [e_h118, va_up_neq (nek0 (a := 109) (by decide))]; exact F_h113__k_109_
  have F_h118__k_110_ : h118 (k + 110) = .inl (1, 2667, .inl (fun _ => 0)) := by rw [e_h118, va_up_neq (nek0 (a := 110) (by decide))]; exact F_h113__k_110_
  have F_h118__k_111_ : h118 (k + 111) = .inr (7, [.ref (k + 112), .int 0, .int 0, .long 0, .int 0]) := by rw [e_h118, va_up_neq (nek0 (a := 111) (by decide))]; exact F_h113__k_111_
  have F_h118__k_112_ : h118 (k + 112) = .inl (0, 128, .inl (fun _ => 0)) := by rw [e_h118, va_up_neq (nek0 (a := 112) (by decide))]; exact F_h113__k_112_
  have F_h118__k_113_ : h118 (k + 113) = .inl (1, 36, .inl (fun _ => 0)) := by rw [e_h118, va_up_neq (nek0 (a := 113) (by decide))]; exact F_h113__k_113_
  have F_h118__k_114_ : h118 (k + 114) = .inr (8, [.int 35, .ref (k + 115), .ref (k + 116), .ref (k + 117), .ref (k + 118), .ref (k + 119), .ref (k + 120), .int 6, .int 1]) := by rw [e_h118, va_up_neq (nek0 (a := 114) (by decide))]; exact F_h113__k_114_
  have F_h118__k_115_ : h118 (k + 115) = .inl (1, 36, .inl pA) := by rw [e_h118, va_up_neq (nek0 (a := 115) (by decide))]; exact F_h113__k_115_
  have F_h118__k_116_ : h118 (k + 116) = .inl (1, 36, .inl (fun _ => 0)) := by rw [e_h118, va_up_neq (nek0 (a := 116) (by decide))]; exact F_h113__k_116_
  have F_h118__k_117_ : h118 (k + 117) = .inl (1, 36, .inl fA) := by rw [e_h118, va_up_neq (nek0 (a := 117) (by decide))]; exact F_h113__k_117_
  have F_h118__k_118_ : h118 (k + 118) = .inl (1, 36, .inl wA) := by rw [e_h118, va_up_neq (nek0 (a := 118) (by decide))]; exact F_h113__k_118_
  have F_h118__k_119_ : h118 (k + 119) = .inl (1, 512, .inl oA) := by rw [e_h118, va_up_neq (nek0 (a := 119) (by decide))]; exact F_h113__k_119_
  have F_h118__k_120_ : h118 (k + 120) = .inl (1, 512, .inl sA) := by rw [e_h118, va_up_neq (nek0 (a := 120) (by decide))]; exact F_h113__k_120_
  have F_h118__k_121_ : h118 (k + 121) = .inr (8, [.int 35, .ref (k + 122), .ref (k + 123), .ref (k + 124), .ref (k + 125), .ref (k + 126), .ref (k + 127), .int 0, .int 0]) := by rw [e_h118, va_up_neq (nek0 (a := 121) (by decide))]; exact F_h113__k_121_
  have F_h118__k_122_ : h118 (k + 122) = .inl (1, 36, .inl (fun _ => 0)) := by rw [e_h118, va_up_neq (nek0 (a := 122) (by decide))]; exact F_h113__k_122_
  have F_h118__k_123_ : h118 (k + 123) = .inl (1, 36, .inl (fun _ => 0)) := by rw [e_h118, va_up_neq (nek0 (a := 123) (by decide))]; exact F_h113__k_123_
  have F_h118__k_124_ : h118 (k + 124) = .inl (1, 36, .inl (fun _ => 0)) := by rw [e_h118, va_up_neq (nek0 (a := 124) (by decide))]; exact F_h113__k_124_
  have F_h118__k_125_ : h118 (k + 125) = .inl (1, 36, .inl (fun _ => 0)) := by rw [e_h118, va_up_neq (nek0 (a := 125) (by decide))]; exact F_h113__k_125_
  have F_h118__k_126_ : h118 (k + 126) = .inl (1, 512, .inl (fun _ => 0)) := by rw [e_h118, va_up_neq (nek0 (a := 126) (by decide))]; exact F_h113__k_126_
  have F_h118__k_127_ : h118 (k + 127) = .inl (1, 512, .inl (fun _ => 0)) := by rw [e_h118, va_up_neq (nek0 (a := 127) (by decide))]; exact F_h113__k_127_
  have F_h118__k_128_ : h118 (k + 128) = .inr (8, [.int 35, .ref (k + 129), .ref (k + 130), .ref (k + 131), .ref (k + 132), .ref (k + 133), .ref (k + 134), .int 0, .int 0]) := by rw [e_h118, va_up_neq (nek0 (a := 128) (by decide))]; exact F_h113__k_128_
  have F_h118__k_129_ : h118 (k + 129) = .inl (1, 36, .inl (fun _ => 0)) := by rw [e_h118, va_up_neq (nek0 (a := 129) (by decide))]; exact F_h113__k_129_
  have F_h118__k_130_ : h118 (k + 130) = .inl (1, 36, .inl (fun _ => 0)) := by rw [e_h118, va_up_neq (nek0 (a := 130) (by decide))]; exact F_h113__k_130_
  have F_h118__k_131_ : h118 (k + 131) = .inl (1, 36, .inl (fun _ => 0)) := by rw [e_h118, va_up_neq (nek0 (a := 131) (by decide))]; exact F_h113__k_131_
  have F_h118__k_132_ : h118 (k + 132) = .inl (1, 36, .inl (fun _ => 0)) := by rw [e_h118, va_up_neq (nek0 (a := 132) (by decide))]; exact F_h113__k_132_
  have F_h118__k_133_ : h118 (k + 133) = .inl (1, 512, .inl (fun _ => 0)) := by rw [e_h118, va_up_neq (nek0 (a := 133) (by decide))]; exact F_h113__k_133_
  have F_h118__k_134_ : h118 (k + 134) = .inl (1, 512, .inl (fun _ => 0)) := by rw [e_h118, va_up_neq (nek0 (a := 134) (by decide))]; exact F_h113__k_134_
  have F_h118__k_135_ : h118 (k + 135) = .inr (1, [.ref (aBig + 5), .ref (aBig + 6), .int 8, .ref (k + 136), .ref (k + 137), .ref (k + 140), .int 0, .int 0, .int 0, .ref (k + 141), .ref (k + 148), .ref (k + 155), .ref (k + 141), .ref (k + 138), .int 0, .int 0, .int 0, .int 0]) := by rw [e_h118, va_up_neq (nek0 (a := 135) (by decide))]; exact F_h113__k_135_
  have F_h118__k_136_ : h118 (k + 136) = .inl (1, 2667, .inl (fun _ => 0)) := by rw [e_h118, va_up_neq (nek0 (a := 136) (by decide))]; exact F_h113__k_136_
  have F_h118__k_137_ : h118 (k + 137) = .inl (1, 2667, .inl (fun _ => 0)) := by rw [e_h118, va_up_neq (nek0 (a := 137) (by decide))]; exact F_h113__k_137_
  have F_h118__k_138_ : h118 (k + 138) = .inr (7, [.ref (k + 139), .int 0, .int 0, .long 0, .int 0]) := by rw [e_h118, va_up_neq (nek0 (a := 138) (by decide))]; exact F_h113__k_138_
  have F_h118__k_139_ : h118 (k + 139) = .inl (0, 128, .inl (fun _ => 0)) := by rw [e_h118, va_up_neq (nek0 (a := 139) (by decide))]; exact F_h113__k_139_
  have F_h118__k_140_ : h118 (k + 140) = .inl (1, 32, .inl (fun _ => 0)) := by rw [e_h118, va_up_neq (nek0 (a := 140) (by decide))]; exact F_h113__k_140_
  have F_h118__k_141_ : h118 (k + 141) = .inr (8, [.int 31, .ref (k + 142), .ref (k + 143), .ref (k + 144), .ref (k + 145), .ref (k + 146), .ref (k + 147), .int 5, .int 1]) := by rw [e_h118, va_up_neq (nek0 (a := 141) (by decide))]; exact F_h113__k_141_
  have F_h118__k_142_ : h118 (k + 142) = .inl (1, 32, .inl pB) := by rw [e_h118, va_up_neq (nek0 (a := 142) (by decide))]; exact F_h113__k_142_
  have F_h118__k_143_ : h118 (k + 143) = .inl (1, 32, .inl (fun _ => 0)) := by rw [e_h118, va_up_neq (nek0 (a := 143) (by decide))]; exact F_h113__k_143_
  have F_h118__k_144_ : h118 (k + 144) = .inl (1, 32, .inl fB) := by rw [e_h118, va_up_neq (nek0 (a := 144) (by decide))]; exact F_h113__k_144_
  have F_h118__k_145_ : h118 (k + 145) = .inl (1, 32, .inl wB) := by rw [e_h118, va_up_neq (nek0 (a := 145) (by decide))]; exact F_h113__k_145_
  have F_h118__k_146_ : h118 (k + 146) = .inl (1, 256, .inl oB) := by rw [e_h118, va_up_neq (nek0 (a := 146) (by decide))]; exact F_h113__k_146_
  have F_h118__k_147_ : h118 (k + 147) = .inl (1, 256, .inl sB) := by rw [e_h118, va_up_neq (nek0 (a := 147) (by decide))]; exact F_h113__k_147_
  have F_h118__k_148_ : h118 (k + 148) = .inr (8, [.int 31, .ref (k + 149), .ref (k + 150), .ref (k + 151), .ref (k + 152), .ref (k + 153), .ref (k + 154), .int 0, .int 0]) := by rw [e_h118, va_up_neq (nek0 (a := 148) (by decide))]; exact F_h113__k_148_
  have F_h118__k_149_ : h118 (k + 149) = .inl (1, 32, .inl (fun _ => 0)) := by rw [e_h118, va_up_neq (nek0 (a := 149) (by decide))]; exact F_h113__k_149_
  have F_h118__k_150_ : h118 (k + 150) = .inl (1, 32, .inl (fun _ => 0)) := by rw [e_h118, va_up_neq (nek0 (a := 150) (by decide))]; exact F_h113__k_150_
  have F_h118__k_151_ : h118 (k + 151) = .inl (1, 32, .inl (fun _ => 0)) := by rw [e_h118, va_up_neq (nek0 (a := 151) (by decide))]; exact F_h113__k_151_
  have F_h118__k_152_ : h118 (k + 152) = .inl (1, 32, .inl (fun _ => 0)) := by rw [e_h118, va_up_neq (nek0 (a := 152) (by decide))]; exact F_h113__k_152_
  have F_h118__k_153_ : h118 (k + 153) = .inl (1, 256, .inl (fun _ => 0)) := by rw [e_h118, va_up_neq (nek0 (a := 153) (by decide))]; exact F_h113__k_153_
  have F_h118__k_154_ : h118 (k + 154) = .inl (1, 256, .inl (fun _ => 0)) := by rw [e_h118, va_up_neq (nek0 (a := 154) (by decide))]; exact F_h113__k_154_
  have F_h118__k_155_ : h118 (k + 155) = .inr (8, [.int 31, .ref (k + 156), .ref (k + 157), .ref (k + 158), .ref (k + 159), .ref (k + 160), .ref (k + 161), .int 0, .int 0]) := by rw [e_h118, va_up_neq (nek0 (a := 155) (by decide))]; exact F_h113__k_155_
  have F_h118__k_156_ : h118 (k + 156) = .inl (1, 32, .inl (fun _ => 0)) := by rw [e_h118, va_up_neq (nek0 (a := 156) (by decide))]; exact F_h113__k_156_
  have F_h118__k_157_ : h118 (k + 157) = .inl (1, 32, .inl (fun _ => 0)) := by rw [e_h118, va_up_neq (nek0 (a := 157) (by decide))]; exact F_h113__k_157_
  have F_h118__k_158_ : h118 (k + 158) = .inl (1, 32, .inl (fun _ => 0)) := by rw [e_h118, va_up_neq (nek0 (a := 158) (by decide))]; exact F_h113__k_158_
  have F_h118__k_159_ : h118 (k + 159) = .inl (1, 32, .inl (fun _ => 0)) := by rw [e_h118, va_up_neq (nek0 (a := 159) (by decide))]; exact F_h113__k_159_
  have F_h118__k_160_ : h118 (k + 160) = .inl (1, 256, .inl (fun _ => 0)) := by rw [e_h118, va_up_neq (nek0 (a := 160) (by decide))]; exact F_h113__k_160_
  have F_h118__k_161_ : h118 (k + 161) = .inl (1, 256, .inl (fun _ => 0)) := by rw [e_h118, va_up_neq (nek0 (a := 161) (by decide))]; exact F_h113__k_161_
  have F_h118__k_162_ : h118 (k + 162) = .inr (1, [.ref (aBig + 7), .ref (aBig + 8), .int 9, .ref (k + 163), .ref (k + 164), .ref (k + 167), .int 0, .int 0, .int 0, .ref (k + 168), .ref (k + 175), .ref (k + 182), .ref (k + 168), .ref (k + 165), .int 0, .int 0, .int 0, .int 0]) := by rw [e_h118, va_up_neq (nek0 (a := 162) (by decide))]; exact F_h113__k_162_
  have F_h118__k_163_ : h118 (k + 163) = .inl (1, 2667, .inl (fun _ => 0)) := by rw [e_h118, va_up_neq (nek0 (a := 163) (by decide))]; exact F_h113__k_163_
  have F_h118__k_164_ : h118 (k + 164) = .inl (1, 2667, .inl (fun _ => 0)) := by rw [e_h118, va_up_neq (nek0 (a := 164) (by decide))]; exact F_h113__k_164_
  have F_h118__k_165_ : h118 (k + 165) = .inr (7, [.ref (k + 166), .int 0, .int 0, .long 0, .int 0]) := by rw [e_h118, va_up_neq (nek0 (a := 165) (by decide))]; exact F_h113__k_165_
  have F_h118__k_166_ : h118 (k + 166) = .inl (0, 128, .inl (fun _ => 0)) := by rw [e_h118, va_up_neq (nek0 (a := 166) (by decide))]; exact F_h113__k_166_
  have F_h118__k_167_ : h118 (k + 167) = .inl (1, 53, .inl (fun _ => 0)) := by rw [e_h118, va_up_neq (nek0 (a := 167) (by decide))]; exact F_h113__k_167_
  have F_h118__k_168_ : h118 (k + 168) = .inr (8, [.int 52, .ref (k + 169), .ref (k + 170), .ref (k + 171), .ref (k + 172), .ref (k + 173), .ref (k + 174), .int 6, .int 1]) := by rw [e_h118, va_up_neq (nek0 (a := 168) (by decide))]; exact F_h113__k_168_
  have F_h118__k_169_ : h118 (k + 169) = .inl (1, 53, .inl pC) := by rw [e_h118, va_up_neq (nek0 (a := 169) (by decide))]; exact F_h113__k_169_
  have F_h118__k_170_ : h118 (k + 170) = .inl (1, 53, .inl (fun _ => 0)) := by rw [e_h118, va_up_neq (nek0 (a := 170) (by decide))]; exact F_h113__k_170_
  have F_h118__k_171_ : h118 (k + 171) = .inl (1, 53, .inl fC) := by rw [e_h118, va_up_neq (nek0 (a := 171) (by decide))]; exact F_h113__k_171_
  have F_h118__k_172_ : h118 (k + 172) = .inl (1, 53, .inl wC) := by rw [e_h118, va_up_neq (nek0 (a := 172) (by decide))]; exact F_h113__k_172_
  have F_h118__k_173_ : h118 (k + 173) = .inl (1, 512, .inl oC) := by rw [e_h118, va_up_neq (nek0 (a := 173) (by decide))]; exact F_h113__k_173_
  have F_h118__k_174_ : h118 (k + 174) = .inl (1, 512, .inl sC) := by rw [e_h118, va_up_neq (nek0 (a := 174) (by decide))]; exact F_h113__k_174_
  have F_h118__k_175_ : h118 (k + 175) = .inr (8, [.int 52, .ref (k + 176), .ref (k + 177), .ref (k + 178), .ref (k + 179), .ref (k + 180), .ref (k + 181), .int 0, .int 0]) := by rw [e_h118, va_up_neq (nek0 (a := 175) (by decide))]; exact F_h113__k_175_
  have F_h118__k_176_ : h118 (k + 176) = .inl (1, 53, .inl (fun _ => 0)) := by rw [e_h118, va_up_neq (nek0 (a := 176) (by decide))]; exact F_h113__k_176_
  have F_h118__k_177_ : h118 (k + 177) = .inl (1, 53, .inl (fun _ => 0)) := by rw [e_h118, va_up_neq (nek0 (a := 177) (by decide))]; exact F_h113__k_177_
  have F_h118__k_178_ : h118 (k + 178) = .inl (1, 53, .inl (fun _ => 0)) := by rw [e_h118, va_up_neq (nek0 (a := 178) (by decide))]; exact F_h113__k_178_
  have F_h118__k_179_ : h118 (k + 179) = .inl (1, 53, .inl (fun _ => 0)) := by rw [e_h118, va_up_neq (nek0 (a := 179) (by decide))]; exact F_h113__k_179_
  have F_h118__k_180_ : h118 (k + 180) = .inl (1, 512, .inl (fun _ => 0)) := by rw [e_h118, va_up_neq (nek0 (a := 180) (by decide))]; exact F_h113__k_180_
  have F_h118__k_181_ : h118 (k + 181) = .inl (1, 512, .inl (fun _ => 0)) := by rw [e_h118, va_up_neq (nek0 (a := 181) (by decide))]; exact F_h113__k_181_
  have F_h118__k_182_ : h118 (k + 182) = .inr (8, [.int 52, .ref (k + 183), .ref (k + 184), .ref (k + 185), .ref (k + 186), .ref (k + 187), .ref (k + 188), .int 0, .int 0]) := by rw [e_h118, va_up_neq (nek0 (a := 182) (by decide))]; exact F_h113__k_182_
  have F_h118__k_183_ : h118 (k + 183) = .inl (1, 53, .inl (fun _ => 0)) := by rw [e_h118, va_up_neq (nek0 (a := 183) (by decide))]; exact F_h113__k_183_
  have F_h118__k_184_ : h118 (k + 184) = .inl (1, 53, .inl (fun _ => 0)) := by rw [e_h118, va_up_neq (nek0 (a := 184) (by decide))]; exact F_h113__k_184_
  have F_h118__k_185_ : h118 (k + 185) = .inl (1, 53, .inl (fun _ => 0)) := by rw [e_h118, va_up_neq (nek0 (a := 185) (by decide))]; exact F_h113__k_185_
  have F_h118__k_186_ : h118 (k + 186) = .inl (1, 53, .inl (fun _ => 0)) := by rw [e_h118, va_up_neq (nek0 (a := 186) (by decide))]; exact F_h113__k_186_
  have F_h118__k_187_ : h118 (k + 187) = .inl (1, 512, .inl (fun _ => 0)) := by rw [e_h118, va_up_neq (nek0 (a := 187) (by decide))]; exact F_h113__k_187_
  have F_h118__k_188_ : h118 (k + 188) = .inl (1, 512, .inl (fun _ => 0)) := by rw [e_h118, va_up_neq (nek0 (a := 188) (by decide))]; exact F_h113__k_188_
  have F_h118__k_189_ : h118 (k + 189) = .inl (1, 12, .inl (fun _ => 0)) := by rw [e_h118, va_up_neq (nek0 (a := 189) (by decide))]; exact F_h113__k_189_
  have FR_h118 : ∀ j, j < k ∨ aBig ≤ j → h118 j = h j := fun j hj => by rw [e_h118]; exact (va_up_neq (frne0 hj hbig)).trans (FR_h113 j hj)
  clear F_h113_k F_h113__k_1_ F_h113__k_2_ F_h113__k_3_ F_h113__k_4_ F_h113__k_5_ F_h113__k_6_ F_h113__k_7_ F_h113__k_8_ F_h113__k_9_ F_h113__k_10_ F_h113__k_11_ F_h113__k_12_ F_h113__k_13_ F_h113__k_14_ F_h113__k_15_ F_h113__k_16_ F_h113__k_17_ F_h113__k_18_ F_h113__k_19_ F_h113__k_20_ F_h113__k_21_ F_h113__k_22_ F_h113__k_23_ F_h113__k_24_ F_h113__k_25_ F_h113__k_26_ F_h113__k_27_ F_h113__k_28_ F_h113__k_29_ F_h113__k_30_ F_h113__k_31_ F_h113__k_32_ F_h113__k_33_ F_h113__k_34_ F_h113__k_35_ F_h113__k_36_ F_h113__k_37_ F_h113__k_38_ F_h113__k_39_ F_h113__k_40_ F_h113__k_41_ F_h113__k_42_ F_h113__k_43_ F_h113__k_44_ F_h113__k_45_ F_h113__k_46_ F_h113__k_47_ F_h113__k_48_ F_h113__k_49_ F_h113__k_50_ F_h113__k_51_ F_h113__k_52_ F_h113__k_53_ F_h113__k_54_ F_h113__k_55_ F_h113__k_56_ F_h113__k_57_ F_h113__k_58_ F_h113__k_59_ F_h113__k_60_ F_h113__k_61_ F_h113__k_62_ F_h113__k_63_ F_h113__k_64_ F_h113__k_65_ F_h113__k_66_ F_h113__k_67_ F_h113__k_68_ F_h113__k_69_ F_h113__k_70_ F_h113__k_71_ F_h113__k_72_ F_h113__k_73_ F_h113__k_74_ F_h113__k_75_ F_h113__k_76_ F_h113__k_77_ F_h113__k_78_ F_h113__k_79_ F_h113__k_80_ F_h113__k_81_ F_h113__k_82_ F_h113__k_83_ F_h113__k_84_ F_h113__k_85_ F_h113__k_86_ F_h113__k_87_ F_h113__k_88_ F_h113__k_89_ F_h113__k_90_ F_h113__k_91_ F_h113__k_92_ F_h113__k_93_ F_h113__k_94_ F_h113__k_95_ F_h113__k_96_ F_h113__k_97_ F_h113__k_98_ F_h113__k_99_ F_h113__k_100_ F_h113__k_101_ F_h113__k_102_ F_h113__k_103_ F_h113__k_104_ F_h113__k_105_ F_h113__k_106_ F_h113__k_107_ F_h113__k_108_ F_h113__k_109_ F_h113__k_110_ F_h113__k_111_ F_h113__k_112_ F_h113__k_113_ F_h113__k_114_ F_h113__k_115_ F_h113__k_116_ F_h113__k_117_ F_h113__k_118_ F_h113__k_119_ F_h113__k_120_ F_h113__k_121_ F_h113__k_122_ F_h113__k_123_ F_h113__k_124_ F_h113__k_125_ F_h113__k_126_ F_h113__k_127_ F_h113__k_128_ F_h113__k_129_ F_h113__k_130_ F_h113__k_131_ F_h113__k_132_ F_h113__k_133_ F_h113__k_134_ F_h113__k_135_ F_h113__k_136_ F_h113__k_137_ F_h113__k_138_ F_h113__k_139_ F_h113__k_140_ F_h113__k_141_ F_h113__k_142_ F_h113__k_143_ F_h113__k_144_ F_h113__k_145_ F_h113__k_146_ F_h113__k_147_ F_h113__k_148_ F_h113__k_149_ F_h113__k_150_ F_h113__k_151_ F_h113__k_152_ F_h113__k_153_ F_h113__k_154_ F_h113__k_155_ F_h113__k_156_ F_h113__k_157_ F_h113__k_158_ F_h113__k_159_ F_h113__k_160_ F_h113__k_161_ F_h113__k_162_ F_h113__k_163_ F_h113__k_164_ F_h113__k_165_ F_h113__k_166_ F_h113__k_167_ F_h113__k_168_ F_h113__k_169_ F_h113__k_170_ F_h113__k_171_ F_h113__k_172_ F_h113__k_173_ F_h113__k_174_ F_h113__k_175_ F_h113__k_176_ F_h113__k_177_ F_h113__k_178_ F_h113__k_179_ F_h113__k_180_ F_h113__k_181_ F_h113__k_182_ F_h113__k_183_ F_h113__k_184_ F_h113__k_185_ F_h113__k_186_ F_h113__k_187_ F_h113__k_188_ F_h113__k_189_ FR_h113 e_h118
  clear h113
  refine WX.s1 rfl rfl ?_
  refine WX.s1 rfl rfl ?_
  refine WX.put1 (fs := [.ref (k + 1), .ref (k + 3), .ref (k + 5), .ref (k + 7), .long 0, .ref (k + 9), .ref (k + 38), .ref (k + 67), .ref (k + 81), .ref (k + 189), .int 2, .int 0]) (fs' := [.ref (k + 1), .ref (k + 3), .ref (k + 5), .ref (k + 7), .long 0, .ref (k + 9), .ref (k + 38), .ref (k + 67), .ref (k + 81), .ref (k + 189), .int 2, .int 3]) rfl (ltk0 (c := 190) (by decide)) (F_h118_k) (Nat.le_of_ble_eq_true rfl) (rfl) rfl (fun h123 e_h123 => ?_)
  have F_h123_k : h123 k = .inr (10, [.ref (k + 1), .ref (k + 3), .ref (k + 5), .ref (k + 7), .long 0, .ref (k + 9), .ref (k + 38), .ref (k + 67), .ref (k + 81), .ref (k + 189), .int 2, .int 3]) := by rw [e_h123]; exact va_up_eq
  have F_h123__k_1_ : h123 (k + 1) = .inr (7, [.ref (k + 2), .int 0, .int 0, .long 0, .int 0]) := by rw [e_h123, va_up_neq (nek0 (a := 1) (by decide))]; exact F_h118__k_1_
  have F_h123__k_2_ : h123 (k + 2) = .inl (0, 8000, .inl (fun _ => 0)) := by rw [e_h123, va_up_neq (nek0 (a := 2) (by decide))]; exact F_h118__k_2_
  have F_h123__k_3_ : h123 (k + 3) = .inr (7, [.ref (k + 4), .int 0, .int 0, .long 0, .int 0]) := by rw [e_h123, va_up_neq (nek0 (a := 3) (by decide))]; exact F_h118__k_3_
  have F_h123__k_4_ : h123 (k + 4) = .inl (0, 12000, .inl (fun _ => 0)) := by rw [e_h123, va_up_neq (nek0 (a := 4) (by decide))]; exact F_h118__k_4_
  have F_h123__k_5_ : h123 (k + 5) = .inr (7, [.ref (k + 6), .int 0, .int 0, .long 0, .int 0]) := by rw [e_h123, va_up_neq (nek0 (a := 5) (by decide))]; exact F_h118__k_5_
  have F_h123__k_6_ : h123 (k + 6) = .inl (0, 12000, .inl (fun _ => 0)) := by rw [e_h123, va_up_neq (nek0 (a := 6) (by decide))]; exact F_h118__k_6_
  have F_h123__k_7_ : h123 (k + 7) = .inr (7, [.ref (k + 8), .int 0, .int 0, .long 0, .int 0]) := by rw [e_h123, va_up_neq (nek0 (a := 7) (by decide))]; exact F_h118__k_7_
  have F_h123__k_8_ : h123 (k + 8) = .inl (0, 8000, .inl (fun _ => 0)) := by rw [e_h123, va_up_neq (nek0 (a := 8) (by decide))]; exact F_h118__k_8_
  have F_h123__k_9_ : h123 (k + 9) = .inr (9, [.ref (k + 10), .ref (k + 12), .ref (k + 16), .ref (k + 23), .ref (k + 30), .ref (k + 37)]) := by rw [e_h123, va_up_neq (nek0 (a := 9) (by decide))]; exact F_h118__k_9_
  have F_h123__k_10_ : h123 (k + 10) = .inr (7, [.ref (k + 11), .int 0, .int 0, .long 0, .int 0]) := by rw [e_h123, va_up_neq (nek0 (a := 10) (by decide))]; exact F_h118__k_10_
  have F_h123__k_11_ : h123 (k + 11) = .inl (0, 0, .inl (fun _ => 0)) := by rw [e_h123, va_up_neq (nek0 (a := 11) (by decide))]; exact F_h118__k_11_
  have F_h123__k_12_ : h123 (k + 12) = .inr (0, [.ref (k + 13), .ref (k + 14), .ref (k + 15), .int 0, .int 0]) := by rw [e_h123, va_up_neq (nek0 (a := 12) (by decide))]; exact F_h118__k_12_
  have F_h123__k_13_ : h123 (k + 13) = .inl (1, 256, .inl (fun _ => 0)) := by rw [e_h123, va_up_neq (nek0 (a := 13) (by decide))]; exact F_h118__k_13_
  have F_h123__k_14_ : h123 (k + 14) = .inl (1, 256, .inl (fun _ => 0)) := by rw [e_h123, va_up_neq (nek0 (a := 14) (by decide))]; exact F_h118__k_14_
  have F_h123__k_15_ : h123 (k + 15) = .inl (1, 13, .inl (fun _ => 0)) := by rw [e_h123, va_up_neq (nek0 (a := 15) (by decide))]; exact F_h118__k_15_
  have F_h123__k_16_ : h123 (k + 16) = .inr (8, [.int 35, .ref (k + 17), .ref (k + 18), .ref (k + 19), .ref (k + 20), .ref (k + 21), .ref (k + 22), .int 0, .int 0]) := by rw [e_h123, va_up_neq (nek0 (a := 16) (by decide))]; exact F_h118__k_16_
  have F_h123__k_17_ : h123 (k + 17) = .inl (1, 36, .inl (fun _ => 0)) := by rw [e_h123, va_up_neq (nek0 (a := 17) (by decide))]; exact F_h118__k_17_
  have F_h123__k_18_ : h123 (k + 18) = .inl (1, 36, .inl (fun _ => 0)) := by rw [e_h123, va_up_neq (nek0 (a := 18) (by decide))]; exact F_h118__k_18_
  have F_h123__k_19_ : h123 (k + 19) = .inl (1, 36, .inl (fun _ => 0)) := by rw [e_h123, va_up_neq (nek0 (a := 19) (by decide))]; exact F_h118__k_19_
  have F_h123__k_20_ : h123 (k + 20) = .inl (1, 36, .inl (fun _ => 0)) := by rw [e_h123, va_up_neq (nek0 (a := 20) (by decide))]; exact F_h118__k_20_
  have F_h123__k_21_ : h123 (k + 21) = .inl (1, 512, .inl (fun _ => 0)) := by rw [e_h123, va_up_neq (nek0 (a := 21) (by decide))]; exact F_h118__k_21_
  have F_h123__k_22_ : h123 (k + 22) = .inl (1, 512, .inl (fun _ => 0)) := by rw [e_h123, va_up_neq (nek0 (a := 22) (by decide))]; exact F_h118__k_22_
  have F_h123__k_23_ : h123 (k + 23) = .inr (8, [.int 31, .ref (k + 24), .ref (k + 25), .ref (k + 26), .ref (k + 27), .ref (k + 28), .ref (k + 29), .int 0, .int 0]) := by rw [e_h123, va_up_neq (nek0 (a := 23) (by decide))]; exact F_h118__k_23_
  have F_h123__k_24_ : h123 (k + 24) = .inl (1, 32, .inl (fun _ => 0)) := by rw [e_h123, va_up_neq (nek0 (a := 24) (by decide))]; exact F_h118__k_24_
  have F_h123__k_25_ : h123 (k + 25) = .inl (1, 32, .inl (fun _ => 0)) := by rw [e_h123, va_up_neq (nek0 (a := 25) (by decide))]; exact F_h118__k_25_
  have F_h123__k_26_ : h123 (k + 26) = .inl (1, 32, .inl (fun _ => 0)) := by rw [e_h123, va_up_neq (nek0 (a := 26) (by decide))]; exact F_h118__k_26_
  have F_h123__k_27_ : h123 (k + 27) = .inl (1, 32, .inl (fun _ => 0)) := by rw [e_h123, va_up_neq (nek0 (a := 27) (by decide))]; exact F_h118__k_27_
  have F_h123__k_28_ : h123 (k + 28) = .inl (1, 256, .inl (fun _ => 0)) := by rw [e_h123, va_up_neq (nek0 (a := 28) (by decide))]; exact F_h118__k_28_
  have F_h123__k_29_ : h123 (k + 29) = .inl (1, 256, .inl (fun _ => 0)) := by rw [e_h123, va_up_neq (nek0 (a := 29) (by decide))]; exact F_h118__k_29_
  have F_h123__k_30_ : h123 (k + 30) = .inr (8, [.int 52, .ref (k + 31), .ref (k + 32), .ref (k + 33), .ref (k + 34), .ref (k + 35), .ref (k + 36), .int 0, .int 0]) := by rw [e_h123, va_up_neq (nek0 (a := 30) (by decide))]; exact F_h118__k_30_
  have F_h123__k_31_ : h123 (k + 31) = .inl (1, 53, .inl (fun _ => 0)) := by rw [e_h123, va_up_neq (nek0 (a := 31) (by decide))]; exact F_h118__k_31_
  have F_h123__k_32_ : h123 (k + 32) = .inl (1, 53, .inl (fun _ => 0)) := by rw [e_h123, va_up_neq (nek0 (a := 32) (by decide))]; exact F_h118__k_32_
  have F_h123__k_33_ : h123 (k + 33) = .inl (1, 53, .inl (fun _ => 0)) := by rw [e_h123, va_up_neq (nek0 (a := 33) (by decide))]; exact F_h118__k_33_
  have F_h123__k_34_ : h123 (k + 34) = .inl (1, 53, .inl (fun _ => 0)) := by rw [e_h123, va_up_neq (nek0 (a := 34) (by decide))]; exact F_h118__k_34_
  have F_h123__k_35_ : h123 (k + 35) = .inl (1, 512, .inl (fun _ => 0)) := by rw [e_h123, va_up_neq (nek0 (a := 35) (by decide))]; exact F_h118__k_35_
  have F_h123__k_36_ : h123 (k + 36) = .inl (1, 512, .inl (fun _ => 0)) := by rw [e_h123, va_up_neq (nek0 (a := 36) (by decide))]; exact F_h118__k_36_
  have F_h123__k_37_ : h123 (k + 37) = .inl (1, 3, .inl lat0) := by rw [e_h123, va_up_neq (nek0 (a := 37) (by decide))]; exact F_h118__k_37_
  have F_h123__k_38_ : h123 (k + 38) = .inr (9, [.ref (k + 39), .ref (k + 41), .ref (k + 45), .ref (k + 52), .ref (k + 59), .ref (k + 66)]) := by rw [e_h123, va_up_neq (nek0 (a := 38) (by decide))]; exact F_h118__k_38_
  have F_h123__k_39_ : h123 (k + 39) = .inr (7, [.ref (k + 40), .int 0, .int 0, .long 0, .int 0]) := by rw [e_h123, va_up_neq (nek0 (a := 39) (by decide))]; exact F_h118__k_39_
  have F_h123__k_40_ : h123 (k + 40) = .inl (0, 0, .inl (fun _ => 0)) := by rw [e_h123, va_up_neq (nek0 (a := 40) (by decide))]; exact F_h118__k_40_
  have F_h123__k_41_ : h123 (k + 41) = .inr (0, [.ref (k + 42), .ref (k + 43), .ref (k + 44), .int 0, .int 0]) := by rw [e_h123, va_up_neq (nek0 (a := 41) (by decide))]; exact F_h118__k_41_
  have F_h123__k_42_ : h123 (k + 42) = .inl (1, 256, .inl (fun _ => 0)) := by rw [e_h123, va_up_neq (nek0 (a := 42) (by decide))]; exact F_h118__k_42_
  have F_h123__k_43_ : h123 (k + 43) = .inl (1, 256, .inl (fun _ => 0)) := by rw [e_h123, va_up_neq (nek0 (a := 43) (by decide))]; exact F_h118__k_43_
  have F_h123__k_44_ : h123 (k + 44) = .inl (1, 13, .inl (fun _ => 0)) := by rw [e_h123, va_up_neq (nek0 (a := 44) (by decide))]; exact F_h118__k_44_
  have F_h123__k_45_ : h123 (k + 45) = .inr (8, [.int 35, .ref (k + 46), .ref (k + 47), .ref (k + 48), .ref (k + 49), .ref (k + 50), .ref (k + 51), .int 0, .int 0]) := by rw [e_h123, va_up_neq (nek0 (a := 45) (by decide))]; exact F_h118__k_45_
  have F_h123__k_46_ : h123 (k + 46) = .inl (1, 36, .inl (fun _ => 0)) := by rw [e_h123, va_up_neq (nek0 (a := 46) (by decide))]; exact F_h118__k_46_
  have F_h123__k_47_ : h123 (k + 47) = .inl (1, 36, .inl (fun _ => 0)) := by rw [e_h123, va_up_neq (nek0 (a := 47) (by decide))]; exact F_h118__k_47_
  have F_h123__k_48_ : h123 (k + 48) = .inl (1, 36, .inl (fun _ => 0)) := by rw [e_h123, va_up_neq (nek0 (a := 48) (by decide))]; exact F_h118__k_48_
  have F_h123__k_49_ : h123 (k + 49) = .inl (1, 36, .inl (fun _ => 0)) := by rw [e_h123, va_up_neq (nek0 (a := 49) (by decide))]; exact F_h118__k_49_
  have F_h123__k_50_ : h123 (k + 50) = .inl (1, 512, .inl (fun _ => 0)) := by rw [e_h123, va_up_neq (nek0 (a := 50) (by decide))]; exact F_h118__k_50_
  have F_h123__k_51_ : h123 (k + 51) = .inl (1, 512, .inl (fun _ => 0)) := by rw [e_h123, va_up_neq (nek0 (a := 51) (by decide))]; exact F_h118__k_51_
  have F_h123__k_52_ : h123 (k + 52) = .inr (8, [.int 31, .ref (k + 53), .ref (k + 54), .ref (k + 55), .ref (k + 56), .ref (k + 57), .ref (k + 58), .int 0, .int 0]) := by rw [e_h123, va_up_neq (nek0 (a := 52) (by decide))]; exact F_h118__k_52_
  have F_h123__k_53_ : h123 (k + 53) = .inl (1, 32, .inl (fun _ => 0)) := by rw [e_h123, va_up_neq (nek0 (a := 53) (by decide))]; exact F_h118__k_53_
  have F_h123__k_54_ : h123 (k + 54) = .inl (1, 32, .inl (fun _ => 0)) := by rw [e_h123, va_up_neq (nek0 (a := 54) (by decide))]; exact F_h118__k_54_
  have F_h123__k_55_ : h123 (k + 55) = .inl (1, 32, .inl (fun _ => 0)) := by rw [e_h123, va_up_neq (nek0 (a := 55) (by decide))]; exact F_h118__k_55_
  have F_h123__k_56_ : h123 (k + 56) = .inl (1, 32, .inl (fun _ => 0)) := by rw [e_h123, va_up_neq (nek0 (a := 56) (by decide))]; exact F_h118__k_56_
  have F_h123__k_57_ : h123 (k + 57) = .inl (1, 256, .inl (fun _ => 0)) := by rw [e_h123, va_up_neq (nek0 (a := 57) (by decide))]; exact F_h118__k_57_
  have F_h123__k_58_ : h123 (k + 58) = .inl (1, 256, .inl (fun _ => 0)) := by rw [e_h123, va_up_neq (nek0 (a := 58) (by decide))]; exact F_h118__k_58_
  have F_h123__k_59_ : h123 (k + 59) = .inr (8, [.int 52, .ref (k + 60), .ref (k + 61), .ref (k + 62), .ref (k + 63), .ref (k + 64), .ref (k + 65), .int 0, .int 0]) := by rw [e_h123, va_up_neq (nek0 (a := 59) (by decide))]; exact F_h118__k_59_
  have F_h123__k_60_ : h123 (k + 60) = .inl (1, 53, .inl (fun _ => 0)) := by rw [e_h123, va_up_neq (nek0 (a := 60) (by decide))]; exact F_h118__k_60_
  have F_h123__k_61_ : h123 (k + 61) = .inl (1, 53, .inl (fun _ => 0)) := by rw [e_h123, va_up_neq (nek0 (a := 61) (by decide))]; exact F_h118__k_61_
  have F_h123__k_62_ : h123 (k + 62) = .inl (1, 53, .inl (fun _ => 0)) := by rw [e_h123, va_up_neq (nek0 (a := 62) (by decide))]; exact F_h118__k_62_
  have F_h123__k_63_ : h123 (k + 63) = .inl (1, 53, .inl (fun _ => 0)) := by rw [e_h123, va_up_neq (nek0 (a := 63) (by decide))]; exact F_h118__k_63_
  have F_h123__k_64_ : h123 (k + 64) = .inl (1, 512, .inl (fun _ => 0)) := by rw [e_h123, va_up_neq (nek0 (a := 64) (by decide))]; exact F_h118__k_64_
  have F_h123__k_65_ : h123 (k + 65) = .inl (1, 512, .inl (fun _ => 0)) := by rw [e_h123, va_up_neq (nek0 (a := 65) (by decide))]; exact F_h118__k_65_
  have F_h123__k_66_ : h123 (k + 66) = .inl (1, 3, .inl lat0) := by rw [e_h123, va_up_neq (nek0 (a := 66) (by decide))]; exact F_h118__k_66_
  have F_h123__k_67_ : h123 (k + 67) = .inr (2, [.ref (k + 68), .ref (k + 69), .ref (k + 70), .ref (k + 77), .ref (k + 79)]) := by rw [e_h123, va_up_neq (nek0 (a := 67) (by decide))]; exact F_h118__k_67_
  have F_h123__k_68_ : h123 (k + 68) = .inl (1, 256, .inl (fun _ => 0)) := by rw [e_h123, va_up_neq (nek0 (a := 68) (by decide))]; exact F_h118__k_68_
  have F_h123__k_69_ : h123 (k + 69) = .inl (1, 12, .inl (fun _ => 0)) := by rw [e_h123, va_up_neq (nek0 (a := 69) (by decide))]; exact F_h118__k_69_
  have F_h123__k_70_ : h123 (k + 70) = .inr (8, [.int 11, .ref (k + 71), .ref (k + 72), .ref (k + 73), .ref (k + 74), .ref (k + 75), .ref (k + 76), .int 0, .int 0]) := by rw [e_h123, va_up_neq (nek0 (a := 70) (by decide))]; exact F_h118__k_70_
  have F_h123__k_71_ : h123 (k + 71) = .inl (1, 12, .inl (fun _ => 0)) := by rw [e_h123, va_up_neq (nek0 (a := 71) (by decide))]; exact F_h118__k_71_
  have F_h123__k_72_ : h123 (k + 72) = .inl (1, 12, .inl (fun _ => 0)) := by rw [e_h123, va_up_neq (nek0 (a := 72) (by decide))]; exact F_h118__k_72_
  have F_h123__k_73_ : h123 (k + 73) = .inl (1, 12, .inl (fun _ => 0)) := by rw [e_h123, va_up_neq (nek0 (a := 73) (by decide))]; exact F_h118__k_73_
  have F_h123__k_74_ : h123 (k + 74) = .inl (1, 12, .inl (fun _ => 0)) := by rw [e_h123, va_up_neq (nek0 (a := 74) (by decide))]; exact F_h118__k_74_
  have F_h123__k_75_ : h123 (k + 75) = .inl (1, 64, .inl (fun _ => 0)) := by rw [e_h123, va_up_neq (nek0 (a := 75) (by decide))]; exact F_h118__k_75_
  have F_h123__k_76_ : h123 (k + 76) = .inl (1, 64, .inl (fun _ => 0)) := by rw [e_h123, va_up_neq (nek0 (a := 76) (by decide))]; exact F_h118__k_76_
  have F_h123__k_77_ : h123 (k + 77) = .inr (7, [.ref (k + 78), .int 0, .int 0, .long 0, .int 0]) := by rw [e_h123, va_up_neq (nek0 (a := 77) (by decide))]; exact F_h118__k_77_
  have F_h123__k_78_ : h123 (k + 78) = .inl (0, 512, .inl (fun _ => 0)) := by rw [e_h123, va_up_neq (nek0 (a := 78) (by decide))]; exact F_h118__k_78_
  have F_h123__k_79_ : h123 (k + 79) = .inr (7, [.ref (k + 80), .int 0, .int 0, .long 0, .int 0]) := by rw [e_h123, va_up_neq (nek0 (a := 79) (by decide))]; exact F_h118__k_79_
  have F_h123__k_80_ : h123 (k + 80) = .inl (0, 512, .inl (fun _ => 0)) := by rw [e_h123, va_up_neq (nek0 (a := 80) (by decide))]; exact F_h118__k_80_
  have F_h123__k_81_ : h123 (k + 81) = .inr (6, [.ref (k + 82), .ref (k + 89), .ref (k + 108), .ref (k + 135), .ref (k + 162), .ref (k + 86), .ref (k + 87), .int 0, .ref (k + 88)]) := by rw [e_h123, va_up_neq (nek0 (a := 81) (by decide))]; exact F_h118__k_81_
  have F_h123__k_82_ : h123 (k + 82) = .inr (3, [.ref (k + 83), .int 0, .ref (k + 84), .ref (k + 85), .int 0, .int 0, .int 0, .int 0, .int 0, .int 0, .int 0, .int 0, .int 0]) := by rw [e_h123, va_up_neq (nek0 (a := 82) (by decide))]; exact F_h118__k_82_
  have F_h123__k_83_ : h123 (k + 83) = .inl (0, 16000, .inl (fun _ => 0)) := by rw [e_h123, va_up_neq (nek0 (a := 83) (by decide))]; exact F_h118__k_83_
  have F_h123__k_84_ : h123 (k + 84) = .inl (1, 16000, .inl (fun _ => 0)) := by rw [e_h123, va_up_neq (nek0 (a := 84) (by decide))]; exact F_h118__k_84_
  have F_h123__k_85_ : h123 (k + 85) = .inl (1, 4096, .inl (fun _ => 0)) := by rw [e_h123, va_up_neq (nek0 (a := 85) (by decide))]; exact F_h118__k_85_
  have F_h123__k_86_ : h123 (k + 86) = .inl (1, 3, .inl (fun _ => 0)) := by rw [e_h123, va_up_neq (nek0 (a := 86) (by decide))]; exact F_h118__k_86_
  have F_h123__k_87_ : h123 (k + 87) = .inl (1, 3, .inl (fun _ => 0)) := by rw [e_h123, va_up_neq (nek0 (a := 87) (by decide))]; exact F_h118__k_87_
  have F_h123__k_88_ : h123 (k + 88) = .inl (1, 12, .inl (fun _ => 0)) := by rw [e_h123, va_up_neq (nek0 (a := 88) (by decide))]; exact F_h118__k_88_
  have F_h123__k_89_ : h123 (k + 89) = .inr (5, [.ref (k + 90), .ref (k + 91), .int 0, .ref (k + 92), .ref (k + 96), .ref (k + 100), .ref (k + 67), .ref (k + 106), .int 0, .int 0, .int 0, .int 0]) := by rw [e_h123, va_up_neq (nek0 (a := 89) (by decide))]; exact F_h118__k_89_
  have F_h123__k_90_ : h123 (k + 90) = .inl (0, 8000, .inl (fun _ => 0)) := by rw [e_h123, va_up_neq (nek0 (a := 90) (by decide))]; exact F_h118__k_90_
  have F_h123__k_91_ : h123 (k + 91) = .inl (1, 256, .inl (fun _ => 0)) := by rw [e_h123, va_up_neq (nek0 (a := 91) (by decide))]; exact F_h118__k_91_
  have F_h123__k_92_ : h123 (k + 92) = .inr (0, [.ref (k + 93), .ref (k + 94), .ref (k + 95), .int 0, .int 0]) := by rw [e_h123, va_up_neq (nek0 (a := 92) (by decide))]; exact F_h118__k_92_
  have F_h123__k_93_ : h123 (k + 93) = .inl (1, 256, .inl (fun _ => 0)) := by rw [e_h123, va_up_neq (nek0 (a := 93) (by decide))]; exact F_h118__k_93_
  have F_h123__k_94_ : h123 (k + 94) = .inl (1, 256, .inl (fun _ => 0)) := by rw [e_h123, va_up_neq (nek0 (a := 94) (by decide))]; exact F_h118__k_94_
  have F_h123__k_95_ : h123 (k + 95) = .inl (1, 13, .inl (fun _ => 0)) := by rw [e_h123, va_up_neq (nek0 (a := 95) (by decide))]; exact F_h118__k_95_
  have F_h123__k_96_ : h123 (k + 96) = .inr (0, [.ref (k + 97), .ref (k + 98), .ref (k + 99), .int 0, .int 0]) := by rw [e_h123, va_up_neq (nek0 (a := 96) (by decide))]; exact F_h118__k_96_
  have F_h123__k_97_ : h123 (k + 97) = .inl (1, 256, .inl (fun _ => 0)) := by rw [e_h123, va_up_neq (nek0 (a := 97) (by decide))]; exact F_h118__k_97_
  have F_h123__k_98_ : h123 (k + 98) = .inl (1, 256, .inl (fun _ => 0)) := by rw [e_h123, va_up_neq (nek0 (a := 98) (by decide))]; exact F_h118__k_98_
  have F_h123__k_99_ : h123 (k + 99) = .inl (1, 13, .inl (fun _ => 0)) := by rw [e_h123, va_up_neq (nek0 (a := 99) (by decide))]; exact F_h118__k_99_
  have F_h123__k_100_ : h123 (k + 100) = .inr (4, [.ref (k + 101), .ref (k + 102), .ref (k + 103), .ref (k + 104), .ref (k + 105)]) := by rw [e_h123, va_up_neq (nek0 (a := 100) (by decide))]; exact F_h118__k_100_
  have F_h123__k_101_ : h123 (k + 101) = .inl (1, 256, .inl (fun _ => 0)) := by rw [e_h123, va_up_neq (nek0 (a := 101) (by decide))]; exact F_h118__k_101_
  have F_h123__k_102_ : h123 (k + 102) = .inl (1, 256, .inl (fun _ => 0)) := by rw [e_h123, va_up_neq (nek0 (a := 102) (by decide))]; exact F_h118__k_102_
  have F_h123__k_103_ : h123 (k + 103) = .inl (1, 512, .inl (fun _ => 0)) := by rw [e_h123, va_up_neq (nek0 (a := 103) (by decide))]; exact F_h118__k_103_
  have F_h123__k_104_ : h123 (k + 104) = .inl (1, 512, .inl (fun _ => 0)) := by rw [e_h123, va_up_neq (nek0 (a := 104) (by decide))]; exact F_h118__k_104_
  have F_h123__k_105_ : h123 (k + 105) = .inl (1, 512, .inl (fun _ => 0)) := by rw [e_h123, va_up_neq (nek0 (a := 105) (by decide))]; exact F_h118__k_105_
  have F_h123__k_106_ : h123 (k + 106) = .inr (7, [.ref (k + 107), .int 0, .int 0, .long 0, .int 0]) := by rw [e_h123, va_up_neq (nek0 (a := 106) (by decide))]; exact F_h118__k_106_
  have F_h123__k_107_ : h123 (k + 107) = .inl (0, 256, .inl (fun _ => 0)) := by rw [e_h123, va_up_neq (nek0 (a := 107) (by decide))]; exact F_h118__k_107_
  have F_h123__k_108_ : h123 (k + 108) = .inr (1, [.ref (aBig + 3), .ref (aBig + 4), .int 9, .ref (k + 109), .ref (k + 110), .ref (k + 113), .int 0, .int 0, .int 0, .ref (k + 114), .ref (k + 121), .ref (k + 128), .ref (k + 114), .ref (k + 111), .int 0, .int 0, .int 0, .int 0]) := by rw [e_h123, va_up_neq (nek0 (a := 108) (by decide))]; exact F_h118__k_108_
  have F_h123__k_109_ : h123 (k + 109) = .inl (1, 2667, .inl (fun _ => 0)) := by rw [e_h123, va_up_neq (nek0 (a := 109) (by decide))]; exact F_h118__k_109_
  have F_h123__k_110_ : h123 (k + 110) = .inl (1, 2667, .inl (fun _ => 0)) := by rw [e_h123, va_up_neq (nek0 (a := 110) (by decide))]; exact F_h118__k_110_
  have F_h123__k_111_ : h123 (k + 111) = .inr (7, [.ref (k + 112), .int 0, .int 0, .long 0, .int 0]) := by rw [e_h123, va_up_neq (nek0 (a := 111) (by decide))]; exact F_h118__k_111_
  have F_h123__k_112_ : h123 (k + 112) = .inl (0, 128, .inl (fun _ => 0)) := by rw [e_h123, va_up_neq (nek0 (a := 112) (by decide))]; exact F_h118__k_112_
  have F_h123__k_113_ : h123 (k + 113) = .inl (1, 36, .inl (fun _ => 0)) := by rw [e_h123, va_up_neq (nek0 (a := 113) (by decide))]; exact F_h118__k_113_
  have F_h123__k_114_ : h123 (k + 114) = .inr (8, [.int 35, .ref (k + 115), .ref (k + 116), .ref (k + 117), .ref (k + 118), .ref (k + 119), .ref (k + 120), .int 6, .int 1]) := by rw [e_h123, va_up_neq (nek0 (a := 114) (by decide))]; exact F_h118__k_114_
  have F_h123__k_115_ : h123 (k + 115) = .inl (1, 36, .inl pA) := by rw [e_h123, va_up_neq (nek0 (a := 115) (by decide))]; exact F_h118__k_115_
  have F_h123__k_116_ : h123 (k + 116) = .inl (1, 36, .inl (fun _ => 0)) := by rw [e_h123, va_up_neq (nek0 (a := 116) (by decide))]; exact F_h118__k_116_
  have F_h123__k_117_ : h123 (k + 117) = .inl (1, 36, .inl fA) := by rw [e_h123, va_up_neq (nek0 (a := 117) (by decide))]; exact F_h118__k_117_
  have F_h123__k_118_ : h123 (k + 118) = .inl (1, 36, .inl wA) := by rw [e_h123, va_up_neq (nek0 (a := 118) (by decide))]; exact F_h118__k_118_
  have F_h123__k_119_ : h123 (k + 119) = .inl (1, 512, .inl oA) := by rw [e_h123, va_up_neq (nek0 (a := 119) (by decide))]; exact F_h118__k_119_
  have F_h123__k_120_ : h123 (k + 120) = .inl (1, 512, .inl sA) := by rw [e_h123, va_up_neq (nek0 (a := 120) (by decide))]; exact F_h118__k_120_
  have F_h123__k_121_ : h123 (k + 121) = .inr (8, [.int 35, .ref (k + 122), .ref (k + 123), .ref (k + 124), .ref (k + 125), .ref (k + 126), .ref (k + 127), .int 0, .int 0]) := by rw [e_h123, va_up_neq (nek0 (a := 121) (by decide))]; exact F_h118__k_121_
  have F_h123__k_122_ : h123 (k + 122) = .inl (1, 36, .inl (fun _ => 0)) := by rw [e_h123, va_up_neq (nek0 (a := 122) (by decide))]; exact F_h118__k_122_
  have F_h123__k_123_ : h123 (k + 123) = .inl (1, 36, .inl (fun _ => 0)) := by rw [e_h123, va_up_neq (nek0 (a := 123) (by decide))]; exact F_h118__k_123_
  have F_h123__k_124_ : h123 (k + 124) = .inl (1, 36, .inl (fun _ => 0)) := by rw [e_h123, va_up_neq (nek0 (a := 124) (by decide))]; exact F_h118__k_124_
  have F_h123__k_125_ : h123 (k + 125) = .inl (1, 36, .inl (fun _ => 0)) := by rw [e_h123, va_up_neq (nek0 (a := 125) (by decide))]; exact F_h118__k_125_
  have F_h123__k_126_ : h123 (k + 126) = .inl (1, 512, .inl (fun _ => 0)) := by rw [e_h123, va_up_neq (nek0 (a := 126) (by decide))]; exact F_h118__k_126_
  have F_h123__k_127_ : h123 (k + 127) = .inl (1, 512, .inl (fun _ => 0)) := by rw [e_h123, va_up_neq (nek0 (a := 127) (by decide))]; exact F_h118__k_127_
  have F_h123__k_128_ : h123 (k + 128) = .inr (8, [.int 35, .ref (k + 129), .ref (k + 130), .ref (k + 131), .ref (k + 132), .ref (k + 133), .ref (k + 134), .int 0, .int 0]) := by rw [e_h123, va_up_neq (nek0 (a := 128) (by decide))]; exact F_h118__k_128_
  have F_h123__k_129_ : h123 (k + 129) = .inl (1, 36, .inl (fun _ => 0)) := by rw [e_h123, va_up_neq (nek0 (a := 129) (by decide))]; exact F_h118__k_129_
  have F_h123__k_130_ : h123 (k + 130) = .inl (1, 36, .inl (fun _ => 0)) := by rw [e_h123, va_up_neq (nek0 (a := 130) (by decide))]; exact F_h118__k_130_
  have F_h123__k_131_ : h123 (k + 131) = .inl (1, 36, .inl (fun _ => 0)) := by rw [e_h123, va_up_neq (nek0 (a := 131) (by decide))]; exact F_h118__k_131_
  have F_h123__k_132_ : h123 (k + 132) = .inl (1, 36, .inl (fun _ => 0)) := by rw [e_h123, va_up_neq (nek0 (a := 132) (by decide))]; exact F_h118__k_132_
  have F_h123__k_133_ : h123 (k + 133) = .inl (1, 512, .inl (fun _ => 0)) := by rw [e_h123, va_up_neq (nek0 (a := 133) (by decide))]; exact F_h118__k_133_
  have F_h123__k_134_ : h123 (k + 134) = .inl (1, 512, .inl (fun _ => 0)) := by rw [e_h123, va_up_neq (nek0 (a := 134) (by decide))]; exact F_h118__k_134_
  have F_h123__k_135_ : h123 (k + 135) = .inr (1, [.ref (aBig + 5), .ref (aBig + 6), .int 8, .ref (k + 136), .ref (k + 137), .ref (k + 140), .int 0, .int 0, .int 0, .ref (k + 141), .ref (k + 148), .ref (k + 155), .ref (k + 141), .ref (k + 138), .int 0, .int 0, .int 0, .int 0]) := by rw [e_h123, va_up_neq (nek0 (a := 135) (by decide))]; exact F_h118__k_135_
  have F_h123__k_136_ : h123 (k + 136) = .inl (1, 2667, .inl (fun _ => 0)) := by rw [e_h123, va_up_neq (nek0 (a := 136) (by decide))]; exact F_h118__k_136_
  have F_h123__k_137_ : h123 (k + 137) = .inl (1, 2667, .inl (fun _ => 0)) := by rw [e_h123, va_up_neq (nek0 (a := 137) (by decide))]; exact F_h118__k_137_
  have F_h123__k_138_ : h123 (k + 138) = .inr (7, [.ref (k + 139), .int 0, .int 0, .long 0, .int 0]) := by rw [e_h123, va_up_neq (nek0 (a := 138) (by decide))]; exact F_h118__k_138_
  have F_h123__k_139_ : h123 (k + 139) = .inl (0, 128, .inl (fun _ => 0)) := by rw [e_h123, va_up_neq (nek0 (a := 139) (by decide))]; exact F_h118__k_139_
  have F_h123__k_140_ : h123 (k + 140) = .inl (1, 32, .inl (fun _ => 0)) := by rw [e_h123, va_up_neq (nek0 (a := 140) (by decide))]; exact F_h118__k_140_
  have F_h123__k_141_ : h123 (k + 141) = .inr (8, [.int 31, .ref (k + 142), .ref (k + 143), .ref (k + 144), .ref (k + 145), .ref (k + 146), .ref (k + 147), .int 5, .int 1]) := by rw [e_h123, va_up_neq (nek0 (a := 141) (by decide))]; exact F_h118__k_141_
  have F_h123__k_142_ : h123 (k + 142) = .inl (1, 32, .inl pB) := by rw [e_h123, va_up_neq (nek0 (a := 142) (by decide))]; exact F_h118__k_142_
  have F_h123__k_143_ : h123 (k + 143) = .inl (1, 32, .inl (fun _ => 0)) := by rw [e_h123, va_up_neq (nek0 (a := 143) (by decide))]; exact F_h118__k_143_
  have F_h123__k_144_ : h123 (k + 144) = .inl (1, 32, .inl fB) := by rw [e_h123, va_up_neq (nek0 (a := 144) (by decide))]; exact F_h118__k_144_
  have F_h123__k_145_ : h123 (k + 145) = .inl (1, 32, .inl wB) := by rw [e_h123, va_up_neq (nek0 (a := 145) (by decide))]; exact F_h118__k_145_
  have F_h123__k_146_ : h123 (k + 146) = .inl (1, 256, .inl oB) := by rw [e_h123, va_up_neq (nek0 (a := 146) (by decide))]; exact F_h118__k_146_
  have F_h123__k_147_ : h123 (k + 147) = .inl (1, 256, .inl sB) := by rw [e_h123, va_up_neq (nek0 (a := 147) (by decide))]; exact F_h118__k_147_
  have F_h123__k_148_ : h123 (k + 148) = .inr (8, [.int 31, .ref (k + 149), .ref (k + 150), .ref (k + 151), .ref (k + 152), .ref (k + 153), .ref (k + 154), .int 0, .int 0]) := by rw [e_h123, va_up_neq (nek0 (a := 148) (by decide))]; exact F_h118__k_148_
  have F_h123__k_149_ : h123 (k + 149) = .inl (1, 32, .inl (fun _ => 0)) := by rw [e_h123, va_up_neq (nek0 (a := 149) (by decide))]; exact F_h118__k_149_
  have F_h123__k_150_ : h123 (k + 150) = .inl (1, 32, .inl (fun _ => 0)) := by rw [e_h123, va_up_neq (nek0 (a := 150) (by decide))]; exact F_h118__k_150_
  have F_h123__k_151_ : h123 (k + 151) = .inl (1, 32, .inl (fun _ => 0)) := by rw [e_h123, va_up_neq (nek0 (a := 151) (by decide))]; exact F_h118__k_151_
  have F_h123__k_152_ : h123 (k + 152) = .inl (1, 32, .inl (fun _ => 0)) := by rw [e_h123, va_up_neq (nek0 (a := 152) (by decide))]; exact F_h118__k_152_
  have F_h123__k_153_ : h123 (k + 153) = .inl (1, 256, .inl (fun _ => 0)) := by rw [e_h123, va_up_neq (nek0 (a := 153) (by decide))]; exact F_h118__k_153_
  have F_h123__k_154_ : h123 (k + 154) = .inl (1, 256, .inl (fun _ => 0)) := by rw [e_h123, va_up_neq (nek0 (a := 154) (by decide))]; exact F_h118__k_154_
  have F_h123__k_155_ : h123 (k + 155) = .inr (8, [.int 31, .ref (k + 156), .ref (k + 157), .ref (k + 158), .ref (k + 159), .ref (k + 160), .ref (k + 161), .int 0, .int 0]) := by rw [e_h123, va_up_neq (nek0 (a := 155) (by decide))]; exact F_h118__k_155_
  have F_h123__k_156_ : h123 (k + 156) = .inl (1, 32, .inl (fun _ => 0)) := by rw [e_h123, va_up_neq (nek0 (a := 156) (by decide))]; exact F_h118__k_156_
  have F_h123__k_157_ : h123 (k + 157) = .inl (1, 32, .inl (fun _ => 0)) := by rw [e_h123, va_up_neq (nek0 (a := 157) (by decide))]; exact F_h118__k_157_
  have F_h123__k_158_ : h123 (k + 158) = .inl (1, 32, .inl (fun _ => 0)) := by rw [e_h123, va_up_neq (nek0 (a := 158) (by decide))]; exact F_h118__k_158_
  have F_h123__k_159_ : h123 (k + 159) = .inl (1, 32, .inl (fun _ => 0)) := by rw [e_h123, va_up_neq (nek0 (a := 159) (by decide))]; exact F_h118__k_159_
  have F_h123__k_160_ : h123 (k + 160) = .inl (1, 256, .inl (fun _ => 0)) := by rw [e_h123, va_up_neq (nek0 (a := 160) (by decide))]; exact F_h118__k_160_
  have F_h123__k_161_ : h123 (k + 161) = .inl (1, 256, .inl (fun _ => 0)) := by rw [e_h123, va_up_neq (nek0 (a := 161) (by decide))]; exact F_h118__k_161_
  have F_h123__k_162_ : h123 (k + 162) = .inr (1, [.ref (aBig + 7), .ref (aBig + 8), .int 9, .ref (k + 163), .ref (k + 164), .ref (k + 167), .int 0, .int 0, .int 0, .ref (k + 168), .ref (k + 175), .ref (k + 182), .ref (k + 168), .ref (k + 165), .int 0, .int 0, .int 0, .int 0]) := by rw [e_h123, va_up_neq (nek0 (a := 162) (by decide))]; exact F_h118__k_162_
  have F_h123__k_163_ : h123 (k + 163) = .inl (1, 2667, .inl (fun _ => 0)) := by rw [e_h123, va_up_neq (nek0 (a := 163) (by decide))]; exact F_h118__k_163_
  have F_h123__k_164_ : h123 (k + 164) = .inl (1, 2667, .inl (fun _ => 0)) := by rw [e_h123, va_up_neq (nek0 (a := 164) (by decide))]; exact F_h118__k_164_
  have F_h123__k_165_ : h123 (k + 165) = .inr (7, [.ref (k + 166), .int 0, .int 0, .long 0, .int 0]) := by rw [e_h123, va_up_neq (nek0 (a := 165) (by decide))]; exact F_h118__k_165_
  have F_h123__k_166_ : h123 (k + 166) = .inl (0, 128, .inl (fun _ => 0)) := by rw [e_h123, va_up_neq (nek0 (a := 166) (by decide))]; exact F_h118__k_166_
  have F_h123__k_167_ : h123 (k + 167) = .inl (1, 53, .inl (fun _ => 0)) := by rw [e_h123, va_up_neq (nek0 (a := 167) (by decide))]; exact F_h118__k_167_
  have F_h123__k_168_ : h123 (k + 168) = .inr (8, [.int 52, .ref (k + 169), .ref (k + 170), .ref (k + 171), .ref (k + 172), .ref (k + 173), .ref (k + 174), .int 6, .int 1]) := by rw [e_h123, va_up_neq (nek0 (a := 168) (by decide))]; exact F_h118__k_168_
  have F_h123__k_169_ : h123 (k + 169) = .inl (1, 53, .inl pC) := by rw [e_h123, va_up_neq (nek0 (a := 169) (by decide))]; exact F_h118__k_169_
  have F_h123__k_170_ : h123 (k + 170) = .inl (1, 53, .inl (fun _ => 0)) := by rw [e_h123, va_up_neq (nek0 (a := 170) (by decide))]; exact F_h118__k_170_
  have F_h123__k_171_ : h123 (k + 171) = .inl (1, 53, .inl fC) := by rw [e_h123, va_up_neq (nek0 (a := 171) (by decide))]; exact F_h118__k_171_
  have F_h123__k_172_ : h123 (k + 172) = .inl (1, 53, .inl wC) := by rw [e_h123, va_up_neq (nek0 (a := 172) (by decide))]; exact F_h118__k_172_
  have F_h123__k_173_ : h123 (k + 173) = .inl (1, 512, .inl oC) := by rw [e_h123, va_up_neq (nek0 (a := 173) (by decide))]; exact F_h118__k_173_
  have F_h123__k_174_ : h123 (k + 174) = .inl (1, 512, .inl sC) := by rw [e_h123, va_up_neq (nek0 (a := 174) (by decide))]; exact F_h118__k_174_
  have F_h123__k_175_ : h123 (k + 175) = .inr (8, [.int 52, .ref (k + 176), .ref (k + 177), .ref (k + 178), .ref (k + 179), .ref (k + 180), .ref (k + 181), .int 0, .int 0]) := by rw [e_h123, va_up_neq (nek0 (a := 175) (by decide))]; exact F_h118__k_175_
  have F_h123__k_176_ : h123 (k + 176) = .inl (1, 53, .inl (fun _ => 0)) := by rw [e_h123, va_up_neq (nek0 (a := 176) (by decide))]; exact F_h118__k_176_
  have F_h123__k_177_ : h123 (k + 177) = .inl (1, 53, .inl (fun _ => 0)) := by rw [e_h123, va_up_neq (nek0 (a := 177) (by decide))]; exact F_h118__k_177_
  have F_h123__k_178_ : h123 (k + 178) = .inl (1, 53, .inl (fun _ => 0)) := by rw [e_h123, va_up_neq (nek0 (a := 178) (by decide))]; exact F_h118__k_178_
  have F_h123__k_179_ : h123 (k + 179) = .inl (1, 53, .inl (fun _ => 0)) := by rw [e_h123, va_up_neq (nek0 (a := 179) (by decide))]; exact F_h118__k_179_
  have F_h123__k_180_ : h123 (k + 180) = .inl (1, 512, .inl (fun _ => 0)) := by rw [e_h123, va_up_neq (nek0 (a := 180) (by decide))]; exact F_h118__k_180_
  have F_h123__k_181_ : h123 (k + 181) = .inl (1, 512, .inl (fun _ => 0)) := by rw [e_h123, va_up_neq (nek0 (a := 181) (by decide))]; exact F_h118__k_181_
  have F_h123__k_182_ : h123 (k + 182) = .inr (8, [.int 52, .ref (k + 183), .ref (k + 184), .ref (k + 185), .ref (k + 186), .ref (k + 187), .ref (k + 188), .int 0, .int 0]) := by rw [e_h123, va_up_neq (nek0 (a := 182) (by decide))]; exact F_h118__k_182_
  have F_h123__k_183_ : h123 (k + 183) = .inl (1, 53, .inl (fun _ => 0)) := by rw [e_h123, va_up_neq (nek0 (a := 183) (by decide))]; exact F_h118__k_183_
  have F_h123__k_184_ : h123 (k + 184) = .inl (1, 53, .inl (fun _ => 0)) := by rw [e_h123, va_up_neq (nek0 (a := 184) (by decide))]; exact F_h118__k_184_
  have F_h123__k_185_ : h123 (k + 185) = .inl (1, 53, .inl (fun _ => 0)) := by rw [e_h123, va_up_neq (nek0 (a := 185) (by decide))]; exact F_h118__k_185_
  have F_h123__k_186_ : h123 (k + 186) = .inl (1, 53, .inl (fun _ => 0)) := by rw [e_h123, va_up_neq (nek0 (a := 186) (by decide))]; exact F_h118__k_186_
  have F_h123__k_187_ : h123 (k + 187) = .inl (1, 512, .inl (fun _ => 0)) := by rw [e_h123, va_up_neq (nek0 (a := 187) (by decide))]; exact F_h118__k_187_
  have F_h123__k_188_ : h123 (k + 188) = .inl (1, 512, .inl (fun _ => 0)) := by rw [e_h123, va_up_neq (nek0 (a := 188) (by decide))]; exact F_h118__k_188_
  have F_h123__k_189_ : h123 (k + 189) = .inl (1, 12, .inl (fun _ => 0)) := by rw [e_h123, va_up_neq (nek0 (a := 189) (by decide))]; exact F_h118__k_189_
  have FR_h123 : ∀ j, j < k ∨ aBig ≤ j → h123 j = h j := fun j hj => by rw [e_h123]; exact (va_up_neq (frne0 hj hbig)).trans (FR_h118 j hj)
  clear F_h118_k F_h118__k_1_ F_h118__k_2_ F_h118__k_3_ F_h118__k_4_ F_h118__k_5_ F_h118__k_6_ F_h118__k_7_ F_h118__k_8_ F_h118__k_9_ F_h118__k_10_ F_h118__k_11_ F_h118__k_12_ F_h118__k_13_ F_h118__k_14_ F_h118__k_15_ F_h118__k_16_ F_h118__k_17_ F_h118__k_18_ F_h118__k_19_ F_h118__k_20_ F_h118__k_21_ F_h118__k_22_ F_h118__k_23_ F_h118__k_24_ F_h118__k_25_ F_h118__k_26_ F_h118__k_27_ F_h118__k_28_ F_h118__k_29_ F_h118__k_30_ F_h118__k_31_ F_h118__k_32_ F_h118__k_33_ F_h118__k_34_ F_h118__k_35_ F_h118__k_36_ F_h118__k_37_ F_h118__k_38_ F_h118__k_39_ F_h118__k_40_ F_h118__k_41_ F_h118__k_42_ F_h118__k_43_ F_h118__k_44_ F_h118__k_45_ F_h118__k_46_ F_h118__k_47_ F_h118__k_48_ F_h118__k_49_ F_h118__k_50_ F_h118__k_51_ F_h118__k_52_ F_h118__k_53_ F_h118__k_54_ F_h118__k_55_ F_h118__k_56_ F_h118__k_57_ F_h118__k_58_ F_h118__k_59_ F_h118__k_60_ F_h118__k_61_ F_h118__k_62_ F_h118__k_63_ F_h118__k_64_ F_h118__k_65_ F_h118__k_66_ F_h118__k_67_ F_h118__k_68_ F_h118__k_69_ F_h118__k_70_ F_h118__k_71_ F_h118__k_72_ F_h118__k_73_ F_h118__k_74_ F_h118__k_75_ F_h118__k_76_ F_h118__k_77_ F_h118__k_78_ F_h118__k_79_ F_h118__k_80_ F_h118__k_81_ F_h118__k_82_ F_h118__k_83_ F_h118__k_84_ F_h118__k_85_ F_h118__k_86_ F_h118__k_87_ F_h118__k_88_ F_h118__k_89_ F_h118__k_90_ F_h118__k_91_ F_h118__k_92_ F_h118__k_93_ F_h118__k_94_ F_h118__k_95_ F_h118__k_96_ F_h118__k_97_ F_h118__k_98_ F_h118__k_99_ F_h118__k_100_ F_h118__k_101_ F_h118__k_102_ F_h118__k_103_ F_h118__k_104_ F_h118__k_105_ F_h118__k_106_ F_h118__k_107_ F_h118__k_108_ F_h118__k_109_ F_h118__k_110_ F_h118__k_111_ F_h118__k_112_ F_h118__k_113_ F_h118__k_114_ F_h118__k_115_ F_h118__k_116_ F_h118__k_117_ F_h118__k_118_ F_h118__k_119_ F_h118__k_120_ F_h118__k_121_ F_h118__k_122_ F_h118__k_123_ F_h118__k_124_ F_h118__k_125_ F_h118__k_126_ F_h118__k_127_ F_h118__k_128_ F_h118__k_129_ F_h118__k_130_ F_h118__k_131_ F_h118__k_132_ F_h118__k_133_ F_h118__k_134_ F_h118__k_135_ F_h118__k_136_ F_h118__k_137_ F_h118__k_138_ F_h118__k_139_ F_h118__k_140_ F_h118__k_141_ F_h118__k_142_ F_h118__k_143_ F_h118__k_144_ F_h118__k_145_ F_h118__k_146_ F_h118__k_147_ F_h118__k_148_ F_h118__k_149_ F_h118__k_150_ F_h118__k_151_ F_h118__k_152_ F_h118__k_153_ F_h118__k_154_ F_h118__k_155_ F_h118__k_156_ F_h118__k_157_ F_h118__k_158_ F_h118__k_159_ F_h118__k_160_ F_h118__k_161_ F_h118__k_162_ F_h118__k_163_ F_h118__k_164_ F_h118__k_165_ F_h118__k_166_ F_h118__k_167_ F_h118__k_168_ F_h118__k_169_ F_h118__k_170_ F_h118__k_171_ F_h118__k_172_ F_h118__k_173_ F_h118__k_174_ F_h118__k_175_ F_h118__k_176_ F_h118__k_177_ F_h118__k_178_ F_h118__k_179_ F_h118__k_180_ F_h118__k_181_ F_h118__k_182_ F_h118__k_183_ F_h118__k_184_ F_h118__k_185_ F_h118__k_186_ F_h118__k_187_ F_h118__k_188_ F_h118__k_189_ FR_h118 e_h123
  clear h118
  refine WX.ret0 rfl ?_
  exact kk h123 pA fA wA oA sA pB fB wB oB sB pC fC wC oC sC tA tB tC FR_h123 ⟨F_h123_k, F_h123__k_1_, F_h123__k_2_, F_h123__k_3_, F_h123__k_4_, F_h123__k_5_, F_h123__k_6_, F_h123__k_7_, F_h123__k_8_, F_h123__k_9_, F_h123__k_10_, F_h123__k_11_, F_h123__k_12_, F_h123__k_13_, F_h123__k_14_, F_h123__k_15_, F_h123__k_16_, F_h123__k_17_, F_h123__k_18_, F_h123__k_19_, F_h123__k_20_, F_h123__k_21_, F_h123__k_22_, F_h123__k_23_, F_h123__k_24_, F_h123__k_25_, F_h123__k_26_, F_h123__k_27_, F_h123__k_28_, F_h123__k_29_, F_h123__k_30_, F_h123__k_31_, F_h123__k_32_, F_h123__k_33_, F_h123__k_34_, F_h123__k_35_, F_h123__k_36_, F_h123__k_37_, F_h123__k_38_, F_h123__k_39_, F_h123__k_40_, F_h123__k_41_, F_h123__k_42_, F_h123__k_43_, F_h123__k_44_, F_h123__k_45_, F_h123__k_46_, F_h123__k_47_, F_h123__k_48_, F_h123__k_49_, F_h123__k_50_, F_h123__k_51_, F_h123__k_52_, F_h123__k_53_, F_h123__k_54_, F_h123__k_55_, F_h123__k_56_, F_h123__k_57_, F_h123__k_58_, F_h123__k_59_, F_h123__k_60_, F_h123__k_61_, F_h123__k_62_, F_h123__k_63_, F_h123__k_64_, F_h123__k_65_, F_h123__k_66_, F_h123__k_67_, F_h123__k_68_, F_h123__k_69_, F_h123__k_70_, F_h123__k_71_, F_h123__k_72_, F_h123__k_73_, F_h123__k_74_, F_h123__k_75_, F_h123__k_76_, F_h123__k_77_, F_h123__k_78_, F_h123__k_79_, F_h123__k_80_, F_h123__k_81_, F_h123__k_82_, F_h123__k_83_, F_h123__k_84_, F_h123__k_85_, F_h123__k_86_, F_h123__k_87_, F_h123__k_88_, F_h123__k_89_, F_h123__k_90_, F_h123__k_91_, F_h123__k_92_, F_h123__k_93_, F_h123__k_94_, F_h123__k_95_, F_h123__k_96_, F_h123__k_97_, F_h123__k_98_, F_h123__k_99_, F_h123__k_100_, F_h123__k_101_, F_h123__k_102_, F_h123__k_103_, F_h123__k_104_, F_h123__k_105_, F_h123__k_106_, F_h123__k_107_, F_h123__k_108_, F_h123__k_109_, F_h123__k_110_, F_h123__k_111_, F_h123__k_112_, F_h123__k_113_, F_h123__k_114_, F_h123__k_115_, F_h123__k_116_, F_h123__k_117_, F_h123__k_118_, F_h123__k_119_, F_h123__k_120_, F_h123__k_121_, F_h123__k_122_, F_h123__k_123_, F_h123__k_124_, F_h123__k_125_, F_h123__k_126_, F_h123__k_127_, F_h123__k_128_, F_h123__k_129_, F_h123__k_130_, F_h123__k_131_, F_h123__k_132_, F_h123__k_133_, F_h123__k_134_, F_h123__k_135_, F_h123__k_136_, F_h123__k_137_, F_h123__k_138_, F_h123__k_139_, F_h123__k_140_, F_h123__k_141_, F_h123__k_142_, F_h123__k_143_, F_h123__k_144_, F_h123__k_145_, F_h123__k_146_, F_h123__k_147_, F_h123__k_148_, F_h123__k_149_, F_h123__k_150_, F_h123__k_151_, F_h123__k_152_, F_h123__k_153_, F_h123__k_154_, F_h123__k_155_, F_h123__k_156_, F_h123__k_157_, F_h123__k_158_, F_h123__k_159_, F_h123__k_160_, F_h123__k_161_, F_h123__k_162_, F_h123__k_163_, F_h123__k_164_, F_h123__k_165_, F_h123__k_166_, F_h123__k_167_, F_h123__k_168_, F_h123__k_169_, F_h123__k_170_, F_h123__k_171_, F_h123__k_172_, F_h123__k_173_, F_h123__k_174_, F_h123__k_175_, F_h123__k_176_, F_h123__k_177_, F_h123__k_178_, F_h123__k_179_, F_h123__k_180_, F_h123__k_181_, F_h123__k_182_, F_h123__k_183_, F_h123__k_184_, F_h123__k_185_, F_h123__k_186_, F_h123__k_187_, F_h123__k_188_, F_h123__k_189_, trivial⟩

