/-! the constructor of Packer -/
set_option maxRecDepth 20000 in
theorem n_packS {q : Nat} {d s : Nat} {h : Nat → aE} {k : Nat} (hbig : k + 109 < aBig) (F_h_k : h k = .inr (6, zX6)) {N0 : Nat} {kn0 : Nat → Int32} (K0 : h (aBig + 0) = .inl (1, N0, .inl kn0)) (hK0 : N0 ≤ 36) {u0 : Nat → Nat} (kb0 : KnS N0 kn0 u0 35 6) {N1 : Nat} {kn1 : Nat → Int32} (K1 : h (aBig + 1) = .inl (1, N1, .inl kn1)) (hK1 : N1 ≤ 32) {u1 : Nat → Nat} (kb1 : KnS N1 kn1 u1 31 5) {N2 : Nat} {kn2 : Nat → Int32} (K2 : h (aBig + 2) = .inl (1, N2, .inl kn2)) (hK2 : N2 ≤ 53) {u2 : Nat → Nat} (kb2 : KnS N2 kn2 u2 52 6) {Ψ : Option Value → aH → Prop} (kk : ∀ h' (pA fA wA oA sA pB fB wB oB sB pC fC wC oC sC : Nat → Int32), TabS 35 6 u0 pA fA wA oA sA → TabS 31 5 u1 pB fB wB oB sB → TabS 52 6 u2 pC fC wC oC sC → (∀ j, j < k ∨ aBig ≤ j → h' j = h j) → Cells h' k (cPack q pA fA wA oA sA pB fB wB oB sB pC fC wC oC sC k) → Ψ none (k + 108, s + 73558, h')) : WO (mM (d + 5)) 68 [.ref k, .ref q] (k + 1, s, h) Ψ := by
  refine WO.of (Nat.le_of_ble_eq_true rfl) ?_
  have FR_h : ∀ j, j < k ∨ aBig ≤ j → h j = h j := fun _ _ => rfl
  show WX (lk tX6_init) (mM (d + 4)) Ψ 0 [(0, .ref k), (1, .ref q)] [] (k + 1, s, h)
  refine WX.s1 rfl rfl ?_
  refine WX.s1 rfl rfl ?_
  refine WX.s1 rfl rfl ?_
  refine WX.newN rfl (bigk (k := k) (a := 2) hbig (by decide)) (fun h5 e_h5 => ?_)
  have F_h5_k : h5 k = .inr (6, [.null, .null, .null, .null, .null, .null, .null, .int 0, .null]) := by rw [e_h5, va_up_neq (nek1 (a := 1) (by decide))]; exact F_h_k
  have F_h5__k_1_ : h5 (k + 1) = .inr (3, zX3) := by rw [e_h5]; exact va_up_eq
  have FR_h5 : ∀ j, j < k ∨ aBig ≤ j → h5 j = h j := fun j hj => by rw [e_h5]; exact (va_up_neq (frne (a := 1) hj hbig (by decide))).trans (FR_h j hj)
  clear F_h_k FR_h e_h5
  refine WX.s1 rfl rfl ?_
  refine WX.callC (vs := [.ref (k + 1)]) rfl rfl rfl (Nat.le_of_ble_eq_true rfl) (rcv_ok (ltk (a := 1) (c := 2) (by decide)) F_h5__k_1_) ?_
  refine n_finder (k := k + 1) (bigk (k := k) (a := 6) hbig (by decide)) F_h5__k_1_ (fun h9 fr9 cs9 => ?_)
  have F_h9_k : h9 k = .inr (6, [.null, .null, .null, .null, .null, .null, .null, .int 0, .null]) := (fr9 k (Or.inl (ltk0 (c := 1) (by decide)))).trans F_h5_k
  have F_h9__k_1_ : h9 (k + 1) = .inr (3, [.ref (k + 2), .int 0, .ref (k + 3), .ref (k + 4), .int 0, .int 0, .int 0, .int 0, .int 0, .int 0, .int 0, .int 0, .int 0]) := cs9.1
  have F_h9__k_2_ : h9 (k + 2) = .inl (0, 16000, .inl (fun _ => 0)) := cs9.2.1
  have F_h9__k_3_ : h9 (k + 3) = .inl (1, 16000, .inl (fun _ => 0)) := cs9.2.2.1
  have F_h9__k_4_ : h9 (k + 4) = .inl (1, 4096, .inl (fun _ => 0)) := cs9.2.2.2.1
  have FR_h9 : ∀ j, j < k ∨ aBig ≤ j → h9 j = h j := fun j hj => (fr9 j (hj.imp (fun z => Nat.lt_of_lt_of_le z (Nat.le_add_right _ _)) (fun z => z))).trans (FR_h5 j hj)
  clear F_h5_k F_h5__k_1_ FR_h5 fr9 cs9
  clear h5
  show WX _ _ _ 12 [(0, .ref k), (1, .ref q)] [.ref (k + 1), .ref k] (k + 5, s + 13 + 36096, h9)
  refine WX.put1 (fs := [.null, .null, .null, .null, .null, .null, .null, .int 0, .null]) (fs' := [.ref (k + 1), .null, .null, .null, .null, .null, .null, .int 0, .null]) rfl (ltk0 (c := 5) (by decide)) (F_h9_k) (Nat.le_of_ble_eq_true rfl) (rfl) rfl (fun h12 e_h12 => ?_)
  have F_h12_k : h12 k = .inr (6, [.ref (k + 1), .null, .null, .null, .null, .null, .null, .int 0, .null]) := by rw [e_h12]; exact va_up_eq
  have F_h12__k_1_ : h12 (k + 1) = .inr (3, [.ref (k + 2), .int 0, .ref (k + 3), .ref (k + 4), .int 0, .int 0, .int 0, .int 0, .int 0, .int 0, .int 0, .int 0, .int 0]) := by rw [e_h12, va_up_neq (nek0 (a := 1) (by decide))]; exact F_h9__k_1_
  have F_h12__k_2_ : h12 (k + 2) = .inl (0, 16000, .inl (fun _ => 0)) := by rw [e_h12, va_up_neq (nek0 (a := 2) (by decide))]; exact F_h9__k_2_
  have F_h12__k_3_ : h12 (k + 3) = .inl (1, 16000, .inl (fun _ => 0)) := by rw [e_h12, va_up_neq (nek0 (a := 3) (by decide))]; exact F_h9__k_3_
  have F_h12__k_4_ : h12 (k + 4) = .inl (1, 4096, .inl (fun _ => 0)) := by rw [e_h12, va_up_neq (nek0 (a := 4) (by decide))]; exact F_h9__k_4_
  have FR_h12 : ∀ j, j < k ∨ aBig ≤ j → h12 j = h j := fun j hj => by rw [e_h12]; exact (va_up_neq (frne0 hj hbig)).trans (FR_h9 j hj)
  clear F_h9_k F_h9__k_1_ F_h9__k_2_ F_h9__k_3_ F_h9__k_4_ FR_h9 e_h12
  clear h9
  refine WX.s1 rfl rfl ?_
  refine WX.s1 rfl rfl ?_
  refine WX.newaN (N := 3) (z0 := .inl (fun _ => 0)) rfl (by decide) (by decide) (bigk (k := k) (a := 6) hbig (by decide)) rfl (fun h17 e_h17 => ?_)
  have F_h17_k : h17 k = .inr (6, [.ref (k + 1), .null, .null, .null, .null, .null, .null, .int 0, .null]) := by rw [e_h17, va_up_neq (nek1 (a := 5) (by decide))]; exact F_h12_k
  have F_h17__k_1_ : h17 (k + 1) = .inr (3, [.ref (k + 2), .int 0, .ref (k + 3), .ref (k + 4), .int 0, .int 0, .int 0, .int 0, .int 0, .int 0, .int 0, .int 0, .int 0]) := by rw [e_h17, va_up_neq (nek (a := 1) (b := 5) (by decide))]; exact F_h12__k_1_
  have F_h17__k_2_ : h17 (k + 2) = .inl (0, 16000, .inl (fun _ => 0)) := by rw [e_h17, va_up_neq (nek (a := 2) (b := 5) (by decide))]; exact F_h12__k_2_
  have F_h17__k_3_ : h17 (k + 3) = .inl (1, 16000, .inl (fun _ => 0)) := by rw [e_h17, va_up_neq (nek (a := 3) (b := 5) (by decide))]; exact F_h12__k_3_
  have F_h17__k_4_ : h17 (k + 4) = .inl (1, 4096, .inl (fun _ => 0)) := by rw [e_h17, va_up_neq (nek (a := 4) (b := 5) (by decide))]; exact F_h12__k_4_
  have F_h17__k_5_ : h17 (k + 5) = .inl (1, 3, .inl (fun _ => 0)) := by rw [e_h17]; exact va_up_eq
  have FR_h17 : ∀ j, j < k ∨ aBig ≤ j → h17 j = h j := fun j hj => by rw [e_h17]; exact (va_up_neq (frne (a := 5) hj hbig (by decide))).trans (FR_h12 j hj)
  clear F_h12_k F_h12__k_1_ F_h12__k_2_ F_h12__k_3_ F_h12__k_4_ FR_h12 e_h17
  clear h12
  refine WX.put1 (fs := [.ref (k + 1), .null, .null, .null, .null, .null, .null, .int 0, .null]) (fs' := [.ref (k + 1), .null, .null, .null, .null, .ref (k + 5), .null, .int 0, .null]) rfl (ltk0 (c := 6) (by decide)) (F_h17_k) (Nat.le_of_ble_eq_true rfl) (rfl) rfl (fun h19 e_h19 => ?_)
  have F_h19_k : h19 k = .inr (6, [.ref (k + 1), .null, .null, .null, .null, .ref (k + 5), .null, .int 0, .null]) := by rw [e_h19]; exact va_up_eq
  have F_h19__k_1_ : h19 (k + 1) = .inr (3, [.ref (k + 2), .int 0, .ref (k + 3), .ref (k + 4), .int 0, .int 0, .int 0, .int 0, .int 0, .int 0, .int 0, .int 0, .int 0]) := by rw [e_h19, va_up_neq (nek0 (a := 1) (by decide))]; exact F_h17__k_1_
  have F_h19__k_2_ : h19 (k + 2) = .inl (0, 16000, .inl (fun _ => 0)) := by rw [e_h19, va_up_neq (nek0 (a := 2) (by decide))]; exact F_h17__k_2_
  have F_h19__k_3_ : h19 (k + 3) = .inl (1, 16000, .inl (fun _ => 0)) := by rw [e_h19, va_up_neq (nek0 (a := 3) (by decide))]; exact F_h17__k_3_
  have F_h19__k_4_ : h19 (k + 4) = .inl (1, 4096, .inl (fun _ => 0)) := by rw [e_h19, va_up_neq (nek0 (a := 4) (by decide))]; exact F_h17__k_4_
  have F_h19__k_5_ : h19 (k + 5) = .inl (1, 3, .inl (fun _ => 0)) := by rw [e_h19, va_up_neq (nek0 (a := 5) (by decide))]; exact F_h17__k_5_
  have FR_h19 : ∀ j, j < k ∨ aBig ≤ j → h19 j = h j := fun j hj => by rw [e_h19]; exact (va_up_neq (frne0 hj hbig)).trans (FR_h17 j hj)
  clear F_h17_k F_h17__k_1_ F_h17__k_2_ F_h17__k_3_ F_h17__k_4_ F_h17__k_5_ FR_h17 e_h19
  clear h17
  refine WX.s1 rfl rfl ?_
  refine WX.s1 rfl rfl ?_
  refine WX.newaN (N := 3) (z0 := .inl (fun _ => 0)) rfl (by decide) (by decide) (bigk (k := k) (a := 7) hbig (by decide)) rfl (fun h24 e_h24 => ?_)
  have F_h24_k : h24 k = .inr (6, [.ref (k + 1), .null, .null, .null, .null, .ref (k + 5), .null, .int 0, .null]) := by rw [e_h24, va_up_neq (nek1 (a := 6) (by decide))]; exact F_h19_k
  have F_h24__k_1_ : h24 (k + 1) = .inr (3, [.ref (k + 2), .int 0, .ref (k + 3), .ref (k + 4), .int 0, .int 0, .int 0, .int 0, .int 0, .int 0, .int 0, .int 0, .int 0]) := by rw [e_h24, va_up_neq (nek (a := 1) (b := 6) (by decide))]; exact F_h19__k_1_
  have F_h24__k_2_ : h24 (k + 2) = .inl (0, 16000, .inl (fun _ => 0)) := by rw [e_h24, va_up_neq (nek (a := 2) (b := 6) (by decide))]; exact F_h19__k_2_
  have F_h24__k_3_ : h24 (k + 3) = .inl (1, 16000, .inl (fun _ => 0)) := by rw [e_h24, va_up_neq (nek (a := 3) (b := 6) (by decide))]; exact F_h19__k_3_
  have F_h24__k_4_ : h24 (k + 4) = .inl (1, 4096, .inl (fun _ => 0)) := by rw [e_h24, va_up_neq (nek (a := 4) (b := 6) (by decide))]; exact F_h19__k_4_
  have F_h24__k_5_ : h24 (k + 5) = .inl (1, 3, .inl (fun _ => 0)) := by rw [e_h24, va_up_neq (nek (a := 5) (b := 6) (by decide))]; exact F_h19__k_5_
  have F_h24__k_6_ : h24 (k + 6) = .inl (1, 3, .inl (fun _ => 0)) := by rw [e_h24]; exact va_up_eq
  have FR_h24 : ∀ j, j < k ∨ aBig ≤ j → h24 j = h j := fun j hj => by rw [e_h24]; exact (va_up_neq (frne (a := 6) hj hbig (by decide))).trans (FR_h19 j hj)
  clear F_h19_k F_h19__k_1_ F_h19__k_2_ F_h19__k_3_ F_h19__k_4_ F_h19__k_5_ FR_h19 e_h24
  clear h19
  refine WX.put1 (fs := [.ref (k + 1), .null, .null, .null, .null, .ref (k + 5), .null, .int 0, .null]) (fs' := [.ref (k + 1), .null, .null, .null, .null, .ref (k + 5), .ref (k + 6), .int 0, .null]) rfl (ltk0 (c := 7) (by decide)) (F_h24_k) (Nat.le_of_ble_eq_true rfl) (rfl) rfl (fun h26 e_h26 => ?_)
  have F_h26_k : h26 k = .inr (6, [.ref (k + 1), .null, .null, .null, .null, .ref (k + 5), .ref (k + 6), .int 0, .null]) := by rw [e_h26]; exact va_up_eq
  have F_h26__k_1_ : h26 (k + 1) = .inr (3, [.ref (k + 2), .int 0, .ref (k + 3), .ref (k + 4), .int 0, .int 0, .int 0, .int 0, .int 0, .int 0, .int 0, .int 0, .int 0]) := by rw [e_h26, va_up_neq (nek0 (a := 1) (by decide))]; exact F_h24__k_1_
  have F_h26__k_2_ : h26 (k + 2) = .inl (0, 16000, .inl (fun _ => 0)) := by rw [e_h26, va_up_neq (nek0 (a := 2) (by decide))]; exact F_h24__k_2_
  have F_h26__k_3_ : h26 (k + 3) = .inl (1, 16000, .inl (fun _ => 0)) := by rw [e_h26, va_up_neq (nek0 (a := 3) (by decide))]; exact F_h24__k_3_
  have F_h26__k_4_ : h26 (k + 4) = .inl (1, 4096, .inl (fun _ => 0)) := by rw [e_h26, va_up_neq (nek0 (a := 4) (by decide))]; exact F_h24__k_4_
  have F_h26__k_5_ : h26 (k + 5) = .inl (1, 3, .inl (fun _ => 0)) := by rw [e_h26, va_up_neq (nek0 (a := 5) (by decide))]; exact F_h24__k_5_
  have F_h26__k_6_ : h26 (k + 6) = .inl (1, 3, .inl (fun _ => 0)) := by rw [e_h26, va_up_neq (nek0 (a := 6) (by decide))]; exact F_h24__k_6_
  have FR_h26 : ∀ j, j < k ∨ aBig ≤ j → h26 j = h j := fun j hj => by rw [e_h26]; exact (va_up_neq (frne0 hj hbig)).trans (FR_h24 j hj)
  clear F_h24_k F_h24__k_1_ F_h24__k_2_ F_h24__k_3_ F_h24__k_4_ F_h24__k_5_ F_h24__k_6_ FR_h24 e_h26
  clear h24
  refine WX.s1 rfl rfl ?_
  refine WX.s1 rfl rfl ?_
  refine WX.newaN (N := 12) (z0 := .inl (fun _ => 0)) rfl (by decide) (by decide) (bigk (k := k) (a := 8) hbig (by decide)) rfl (fun h32 e_h32 => ?_)
  have F_h32_k : h32 k = .inr (6, [.ref (k + 1), .null, .null, .null, .null, .ref (k + 5), .ref (k + 6), .int 0, .null]) := by rw [e_h32, va_up_neq (nek1 (a := 7) (by decide))]; exact F_h26_k
  have F_h32__k_1_ : h32 (k + 1) = .inr (3, [.ref (k + 2), .int 0, .ref (k + 3), .ref (k + 4), .int 0, .int 0, .int 0, .int 0, .int 0, .int 0, .int 0, .int 0, .int 0]) := by rw [e_h32, va_up_neq (nek (a := 1) (b := 7) (by decide))]; exact F_h26__k_1_
  have F_h32__k_2_ : h32 (k + 2) = .inl (0, 16000, .inl (fun _ => 0)) := by rw [e_h32, va_up_neq (nek (a := 2) (b := 7) (by decide))]; exact F_h26__k_2_
  have F_h32__k_3_ : h32 (k + 3) = .inl (1, 16000, .inl (fun _ => 0)) := by rw [e_h32, va_up_neq (nek (a := 3) (b := 7) (by decide))]; exact F_h26__k_3_
  have F_h32__k_4_ : h32 (k + 4) = .inl (1, 4096, .inl (fun _ => 0)) := by rw [e_h32, va_up_neq (nek (a := 4) (b := 7) (by decide))]; exact F_h26__k_4_
  have F_h32__k_5_ : h32 (k + 5) = .inl (1, 3, .inl (fun _ => 0)) := by rw [e_h32, va_up_neq (nek (a := 5) (b := 7) (by decide))]; exact F_h26__k_5_
  have F_h32__k_6_ : h32 (k + 6) = .inl (1, 3, .inl (fun _ => 0)) := by rw [e_h32, va_up_neq (nek (a := 6) (b := 7) (by decide))]; exact F_h26__k_6_
  have F_h32__k_7_ : h32 (k + 7) = .inl (1, 12, .inl (fun _ => 0)) := by rw [e_h32]; exact va_up_eq
  have FR_h32 : ∀ j, j < k ∨ aBig ≤ j → h32 j = h j := fun j hj => by rw [e_h32]; exact (va_up_neq (frne (a := 7) hj hbig (by decide))).trans (FR_h26 j hj)
  clear F_h26_k F_h26__k_1_ F_h26__k_2_ F_h26__k_3_ F_h26__k_4_ F_h26__k_5_ F_h26__k_6_ FR_h26 e_h32
  clear h26
  refine WX.put1 (fs := [.ref (k + 1), .null, .null, .null, .null, .ref (k + 5), .ref (k + 6), .int 0, .null]) (fs' := [.ref (k + 1), .null, .null, .null, .null, .ref (k + 5), .ref (k + 6), .int 0, .ref (k + 7)]) rfl (ltk0 (c := 8) (by decide)) (F_h32_k) (Nat.le_of_ble_eq_true rfl) (rfl) rfl (fun h34 e_h34 => ?_)
  have F_h34_k : h34 k = .inr (6, [.ref (k + 1), .null, .null, .null, .null, .ref (k + 5), .ref (k + 6), .int 0, .ref (k + 7)]) := by rw [e_h34]; exact va_up_eq
  have F_h34__k_1_ : h34 (k + 1) = .inr (3, [.ref (k + 2), .int 0, .ref (k + 3), .ref (k + 4), .int 0, .int 0, .int 0, .int 0, .int 0, .int 0, .int 0, .int 0, .int 0]) := by rw [e_h34, va_up_neq (nek0 (a := 1) (by decide))]; exact F_h32__k_1_
  have F_h34__k_2_ : h34 (k + 2) = .inl (0, 16000, .inl (fun _ => 0)) := by rw [e_h34, va_up_neq (nek0 (a := 2) (by decide))]; exact F_h32__k_2_
  have F_h34__k_3_ : h34 (k + 3) = .inl (1, 16000, .inl (fun _ => 0)) := by rw [e_h34, va_up_neq (nek0 (a := 3) (by decide))]; exact F_h32__k_3_
  have F_h34__k_4_ : h34 (k + 4) = .inl (1, 4096, .inl (fun _ => 0)) := by rw [e_h34, va_up_neq (nek0 (a := 4) (by decide))]; exact F_h32__k_4_
  have F_h34__k_5_ : h34 (k + 5) = .inl (1, 3, .inl (fun _ => 0)) := by rw [e_h34, va_up_neq (nek0 (a := 5) (by decide))]; exact F_h32__k_5_
  have F_h34__k_6_ : h34 (k + 6) = .inl (1, 3, .inl (fun _ => 0)) := by rw [e_h34, va_up_neq (nek0 (a := 6) (by decide))]; exact F_h32__k_6_
  have F_h34__k_7_ : h34 (k + 7) = .inl (1, 12, .inl (fun _ => 0)) := by rw [e_h34, va_up_neq (nek0 (a := 7) (by decide))]; exact F_h32__k_7_
  have FR_h34 : ∀ j, j < k ∨ aBig ≤ j → h34 j = h j := fun j hj => by rw [e_h34]; exact (va_up_neq (frne0 hj hbig)).trans (FR_h32 j hj)
  clear F_h32_k F_h32__k_1_ F_h32__k_2_ F_h32__k_3_ F_h32__k_4_ F_h32__k_5_ F_h32__k_6_ F_h32__k_7_ FR_h32 e_h34
  clear h32
  refine WX.s1 rfl rfl ?_
  refine WX.newN rfl (bigk (k := k) (a := 9) hbig (by decide)) (fun h38 e_h38 => ?_)
  have F_h38_k : h38 k = .inr (6, [.ref (k + 1), .null, .null, .null, .null, .ref (k + 5), .ref (k + 6), .int 0, .ref (k + 7)]) := by rw [e_h38, va_up_neq (nek1 (a := 8) (by decide))]; exact F_h34_k
  have F_h38__k_1_ : h38 (k + 1) = .inr (3, [.ref (k + 2), .int 0, .ref (k + 3), .ref (k + 4), .int 0, .int 0, .int 0, .int 0, .int 0, .int 0, .int 0, .int 0, .int 0]) := by rw [e_h38, va_up_neq (nek (a := 1) (b := 8) (by decide))]; exact F_h34__k_1_
  have F_h38__k_2_ : h38 (k + 2) = .inl (0, 16000, .inl (fun _ => 0)) := by rw [e_h38, va_up_neq (nek (a := 2) (b := 8) (by decide))]; exact F_h34__k_2_
  have F_h38__k_3_ : h38 (k + 3) = .inl (1, 16000, .inl (fun _ => 0)) := by rw [e_h38, va_up_neq (nek (a := 3) (b := 8) (by decide))]; exact F_h34__k_3_
  have F_h38__k_4_ : h38 (k + 4) = .inl (1, 4096, .inl (fun _ => 0)) := by rw [e_h38, va_up_neq (nek (a := 4) (b := 8) (by decide))]; exact F_h34__k_4_
  have F_h38__k_5_ : h38 (k + 5) = .inl (1, 3, .inl (fun _ => 0)) := by rw [e_h38, va_up_neq (nek (a := 5) (b := 8) (by decide))]; exact F_h34__k_5_
  have F_h38__k_6_ : h38 (k + 6) = .inl (1, 3, .inl (fun _ => 0)) := by rw [e_h38, va_up_neq (nek (a := 6) (b := 8) (by decide))]; exact F_h34__k_6_
  have F_h38__k_7_ : h38 (k + 7) = .inl (1, 12, .inl (fun _ => 0)) := by rw [e_h38, va_up_neq (nek (a := 7) (b := 8) (by decide))]; exact F_h34__k_7_
  have F_h38__k_8_ : h38 (k + 8) = .inr (5, zX5) := by rw [e_h38]; exact va_up_eq
  have FR_h38 : ∀ j, j < k ∨ aBig ≤ j → h38 j = h j := fun j hj => by rw [e_h38]; exact (va_up_neq (frne (a := 8) hj hbig (by decide))).trans (FR_h34 j hj)
  clear F_h34_k F_h34__k_1_ F_h34__k_2_ F_h34__k_3_ F_h34__k_4_ F_h34__k_5_ F_h34__k_6_ F_h34__k_7_ FR_h34 e_h38
  clear h34
  refine WX.s1 rfl rfl ?_
  refine WX.s1 rfl rfl ?_
  refine WX.callC (vs := [.ref (k + 8), .ref q]) rfl rfl rfl (Nat.le_of_ble_eq_true rfl) (rcv_ok (ltk (a := 8) (c := 9) (by decide)) F_h38__k_8_) ?_
  refine n_lits (k := k + 8) (bigk (k := k) (a := 28) hbig (by decide)) F_h38__k_8_ (fun h43 fr43 cs43 => ?_)
  have F_h43_k : h43 k = .inr (6, [.ref (k + 1), .null, .null, .null, .null, .ref (k + 5), .ref (k + 6), .int 0, .ref (k + 7)]) := (fr43 k (Or.inl (ltk0 (c := 8) (by decide)))).trans F_h38_k
  have F_h43__k_1_ : h43 (k + 1) = .inr (3, [.ref (k + 2), .int 0, .ref (k + 3), .ref (k + 4), .int 0, .int 0, .int 0, .int 0, .int 0, .int 0, .int 0, .int 0, .int 0]) := (fr43 (k + 1) (Or.inl (ltk (a := 1) (c := 8) (by decide)))).trans F_h38__k_1_
  have F_h43__k_2_ : h43 (k + 2) = .inl (0, 16000, .inl (fun _ => 0)) := (fr43 (k + 2) (Or.inl (ltk (a := 2) (c := 8) (by decide)))).trans F_h38__k_2_
  have F_h43__k_3_ : h43 (k + 3) = .inl (1, 16000, .inl (fun _ => 0)) := (fr43 (k + 3) (Or.inl (ltk (a := 3) (c := 8) (by decide)))).trans F_h38__k_3_
  have F_h43__k_4_ : h43 (k + 4) = .inl (1, 4096, .inl (fun _ => 0)) := (fr43 (k + 4) (Or.inl (ltk (a := 4) (c := 8) (by decide)))).trans F_h38__k_4_
  have F_h43__k_5_ : h43 (k + 5) = .inl (1, 3, .inl (fun _ => 0)) := (fr43 (k + 5) (Or.inl (ltk (a := 5) (c := 8) (by decide)))).trans F_h38__k_5_
  have F_h43__k_6_ : h43 (k + 6) = .inl (1, 3, .inl (fun _ => 0)) := (fr43 (k + 6) (Or.inl (ltk (a := 6) (c := 8) (by decide)))).trans F_h38__k_6_
  have F_h43__k_7_ : h43 (k + 7) = .inl (1, 12, .inl (fun _ => 0)) := (fr43 (k + 7) (Or.inl (ltk (a := 7) (c := 8) (by decide)))).trans F_h38__k_7_
  have F_h43__k_8_ : h43 (k + 8) = .inr (5, [.ref (k + 9), .ref (k + 10), .int 0, .ref (k + 11), .ref (k + 15), .ref (k + 19), .ref q, .ref (k + 25), .int 0, .int 0, .int 0, .int 0]) := cs43.1
  have F_h43__k_9_ : h43 (k + 9) = .inl (0, 8000, .inl (fun _ => 0)) := cs43.2.1
  have F_h43__k_10_ : h43 (k + 10) = .inl (1, 256, .inl (fun _ => 0)) := cs43.2.2.1
  have F_h43__k_11_ : h43 (k + 11) = .inr (0, [.ref (k + 12), .ref (k + 13), .ref (k + 14), .int 0, .int 0]) := cs43.2.2.2.1
  have F_h43__k_12_ : h43 (k + 12) = .inl (1, 256, .inl (fun _ => 0)) := cs43.2.2.2.2.1
  have F_h43__k_13_ : h43 (k + 13) = .inl (1, 256, .inl (fun _ => 0)) := cs43.2.2.2.2.2.1
  have F_h43__k_14_ : h43 (k + 14) = .inl (1, 13, .inl (fun _ => 0)) := cs43.2.2.2.2.2.2.1
  have F_h43__k_15_ : h43 (k + 15) = .inr (0, [.ref (k + 16), .ref (k + 17), .ref (k + 18), .int 0, .int 0]) := cs43.2.2.2.2.2.2.2.1
  have F_h43__k_16_ : h43 (k + 16) = .inl (1, 256, .inl (fun _ => 0)) := cs43.2.2.2.2.2.2.2.2.1
  have F_h43__k_17_ : h43 (k + 17) = .inl (1, 256, .inl (fun _ => 0)) := cs43.2.2.2.2.2.2.2.2.2.1
  have F_h43__k_18_ : h43 (k + 18) = .inl (1, 13, .inl (fun _ => 0)) := cs43.2.2.2.2.2.2.2.2.2.2.1
  have F_h43__k_19_ : h43 (k + 19) = .inr (4, [.ref (k + 20), .ref (k + 21), .ref (k + 22), .ref (k + 23), .ref (k + 24)]) := cs43.2.2.2.2.2.2.2.2.2.2.2.1
  have F_h43__k_20_ : h43 (k + 20) = .inl (1, 256, .inl (fun _ => 0)) := cs43.2.2.2.2.2.2.2.2.2.2.2.2.1
  have F_h43__k_21_ : h43 (k + 21) = .inl (1, 256, .inl (fun _ => 0)) := cs43.2.2.2.2.2.2.2.2.2.2.2.2.2.1
  have F_h43__k_22_ : h43 (k + 22) = .inl (1, 512, .inl (fun _ => 0)) := cs43.2.2.2.2.2.2.2.2.2.2.2.2.2.2.1
  have F_h43__k_23_ : h43 (k + 23) = .inl (1, 512, .inl (fun _ => 0)) := cs43.2.2.2.2.2.2.2.2.2.2.2.2.2.2.2.1
  have F_h43__k_24_ : h43 (k + 24) = .inl (1, 512, .inl (fun _ => 0)) := cs43.2.2.2.2.2.2.2.2.2.2.2.2.2.2.2.2.1
  have F_h43__k_25_ : h43 (k + 25) = .inr (7, [.ref (k + 26), .int 0, .int 0, .long 0, .int 0]) := cs43.2.2.2.2.2.2.2.2.2.2.2.2.2.2.2.2.2.1
  have F_h43__k_26_ : h43 (k + 26) = .inl (0, 256, .inl (fun _ => 0)) := cs43.2.2.2.2.2.2.2.2.2.2.2.2.2.2.2.2.2.2.1
  have FR_h43 : ∀ j, j < k ∨ aBig ≤ j → h43 j = h j := fun j hj => (fr43 j (hj.imp (fun z => Nat.lt_of_lt_of_le z (Nat.le_add_right _ _)) (fun z => z))).trans (FR_h38 j hj)
  clear F_h38_k F_h38__k_1_ F_h38__k_2_ F_h38__k_3_ F_h38__k_4_ F_h38__k_5_ F_h38__k_6_ F_h38__k_7_ F_h38__k_8_ FR_h38 fr43 cs43
  clear h38
  show WX _ _ _ 46 [(0, .ref k), (1, .ref q)] [.ref (k + 8), .ref k] (k + 27, s + 13 + 36096 + 3 + 3 + 12 + 12 + 11630, h43)
  refine WX.put1 (fs := [.ref (k + 1), .null, .null, .null, .null, .ref (k + 5), .ref (k + 6), .int 0, .ref (k + 7)]) (fs' := [.ref (k + 1), .ref (k + 8), .null, .null, .null, .ref (k + 5), .ref (k + 6), .int 0, .ref (k + 7)]) rfl (ltk0 (c := 27) (by decide)) (F_h43_k) (Nat.le_of_ble_eq_true rfl) (rfl) rfl (fun h46 e_h46 => ?_)
  have F_h46_k : h46 k = .inr (6, [.ref (k + 1), .ref (k + 8), .null, .null, .null, .ref (k + 5), .ref (k + 6), .int 0, .ref (k + 7)]) := by rw [e_h46]; exact va_up_eq
  have F_h46__k_1_ : h46 (k + 1) = .inr (3, [.ref (k + 2), .int 0, .ref (k + 3), .ref (k + 4), .int 0, .int 0, .int 0, .int 0, .int 0, .int 0, .int 0, .int 0, .int 0]) := by rw [e_h46, va_up_neq (nek0 (a := 1) (by decide))]; exact F_h43__k_1_
  have F_h46__k_2_ : h46 (k + 2) = .inl (0, 16000, .inl (fun _ => 0)) := by rw [e_h46, va_up_neq (nek0 (a := 2) (by decide))]; exact F_h43__k_2_
  have F_h46__k_3_ : h46 (k + 3) = .inl (1, 16000, .inl (fun _ => 0)) := by rw [e_h46, va_up_neq (nek0 (a := 3) (by decide))]; exact F_h43__k_3_
  have F_h46__k_4_ : h46 (k + 4) = .inl (1, 4096, .inl (fun _ => 0)) := by rw [e_h46, va_up_neq (nek0 (a := 4) (by decide))]; exact F_h43__k_4_
  have F_h46__k_5_ : h46 (k + 5) = .inl (1, 3, .inl (fun _ => 0)) := by rw [e_h46, va_up_neq (nek0 (a := 5) (by decide))]; exact F_h43__k_5_
  have F_h46__k_6_ : h46 (k + 6) = .inl (1, 3, .inl (fun _ => 0)) := by rw [e_h46, va_up_neq (nek0 (a := 6) (by decide))]; exact F_h43__k_6_
  have F_h46__k_7_ : h46 (k + 7) = .inl (1, 12, .inl (fun _ => 0)) := by rw [e_h46, va_up_neq (nek0 (a := 7) (by decide))]; exact F_h43__k_7_
  have F_h46__k_8_ : h46 (k + 8) = .inr (5, [.ref (k + 9), .ref (k + 10), .int 0, .ref (k + 11), .ref (k + 15), .ref (k + 19), .ref q, .ref (k + 25), .int 0, .int 0, .int 0, .int 0]) := by rw [e_h46, va_up_neq (nek0 (a := 8) (by decide))]; exact F_h43__k_8_
  have F_h46__k_9_ : h46 (k + 9) = .inl (0, 8000, .inl (fun _ => 0)) := by rw [e_h46, va_up_neq (nek0 (a := 9) (by decide))]; exact F_h43__k_9_
  have F_h46__k_10_ : h46 (k + 10) = .inl (1, 256, .inl (fun _ => 0)) := by rw [e_h46, va_up_neq (nek0 (a := 10) (by decide))]; exact F_h43__k_10_
  have F_h46__k_11_ : h46 (k + 11) = .inr (0, [.ref (k + 12), .ref (k + 13), .ref (k + 14), .int 0, .int 0]) := by rw [e_h46, va_up_neq (nek0 (a := 11) (by decide))]; exact F_h43__k_11_
  have F_h46__k_12_ : h46 (k + 12) = .inl (1, 256, .inl (fun _ => 0)) := by rw [e_h46, va_up_neq (nek0 (a := 12) (by decide))]; exact F_h43__k_12_
  have F_h46__k_13_ : h46 (k + 13) = .inl (1, 256, .inl (fun _ => 0)) := by rw [e_h46, va_up_neq (nek0 (a := 13) (by decide))]; exact F_h43__k_13_
  have F_h46__k_14_ : h46 (k + 14) = .inl (1, 13, .inl (fun _ => 0)) := by rw [e_h46, va_up_neq (nek0 (a := 14) (by decide))]; exact F_h43__k_14_
  have F_h46__k_15_ : h46 (k + 15) = .inr (0, [.ref (k + 16), .ref (k + 17), .ref (k + 18), .int 0, .int 0]) := by rw [e_h46, va_up_neq (nek0 (a := 15) (by decide))]; exact F_h43__k_15_
  have F_h46__k_16_ : h46 (k + 16) = .inl (1, 256, .inl (fun _ => 0)) := by rw [e_h46, va_up_neq (nek0 (a := 16) (by decide))]; exact F_h43__k_16_
  have F_h46__k_17_ : h46 (k + 17) = .inl (1, 256, .inl (fun _ => 0)) := by rw [e_h46, va_up_neq (nek0 (a := 17) (by decide))]; exact F_h43__k_17_
  have F_h46__k_18_ : h46 (k + 18) = .inl (1, 13, .inl (fun _ => 0)) := by rw [e_h46, va_up_neq (nek0 (a := 18) (by decide))]; exact F_h43__k_18_
  have F_h46__k_19_ : h46 (k + 19) = .inr (4, [.ref (k + 20), .ref (k + 21), .ref (k + 22), .ref (k + 23), .ref (k + 24)]) := by rw [e_h46, va_up_neq (nek0 (a := 19) (by decide))]; exact F_h43__k_19_
  have F_h46__k_20_ : h46 (k + 20) = .inl (1, 256, .inl (fun _ => 0)) := by rw [e_h46, va_up_neq (nek0 (a := 20) (by decide))]; exact F_h43__k_20_
  have F_h46__k_21_ : h46 (k + 21) = .inl (1, 256, .inl (fun _ => 0)) := by rw [e_h46, va_up_neq (nek0 (a := 21) (by decide))]; exact F_h43__k_21_
  have F_h46__k_22_ : h46 (k + 22) = .inl (1, 512, .inl (fun _ => 0)) := by rw [e_h46, va_up_neq (nek0 (a := 22) (by decide))]; exact F_h43__k_22_
  have F_h46__k_23_ : h46 (k + 23) = .inl (1, 512, .inl (fun _ => 0)) := by rw [e_h46, va_up_neq (nek0 (a := 23) (by decide))]; exact F_h43__k_23_
  have F_h46__k_24_ : h46 (k + 24) = .inl (1, 512, .inl (fun _ => 0)) := by rw [e_h46, va_up_neq (nek0 (a := 24) (by decide))]; exact F_h43__k_24_
  have F_h46__k_25_ : h46 (k + 25) = .inr (7, [.ref (k + 26), .int 0, .int 0, .long 0, .int 0]) := by rw [e_h46, va_up_neq (nek0 (a := 25) (by decide))]; exact F_h43__k_25_
  have F_h46__k_26_ : h46 (k + 26) = .inl (0, 256, .inl (fun _ => 0)) := by rw [e_h46, va_up_neq (nek0 (a := 26) (by decide))]; exact F_h43__k_26_
  have FR_h46 : ∀ j, j < k ∨ aBig ≤ j → h46 j = h j := fun j hj => by rw [e_h46]; exact (va_up_neq (frne0 hj hbig)).trans (FR_h43 j hj)
  clear F_h43_k F_h43__k_1_ F_h43__k_2_ F_h43__k_3_ F_h43__k_4_ F_h43__k_5_ F_h43__k_6_ F_h43__k_7_ F_h43__k_8_ F_h43__k_9_ F_h43__k_10_ F_h43__k_11_ F_h43__k_12_ F_h43__k_13_ F_h43__k_14_ F_h43__k_15_ F_h43__k_16_ F_h43__k_17_ F_h43__k_18_ F_h43__k_19_ F_h43__k_20_ F_h43__k_21_ F_h43__k_22_ F_h43__k_23_ F_h43__k_24_ F_h43__k_25_ F_h43__k_26_ FR_h43 e_h46
  clear h43
  refine WX.s1 rfl rfl ?_
  refine WX.newN rfl (bigk (k := k) (a := 28) hbig (by decide)) (fun h50 e_h50 => ?_)
  have F_h50_k : h50 k = .inr (6, [.ref (k + 1), .ref (k + 8), .null, .null, .null, .ref (k + 5), .ref (k + 6), .int 0, .ref (k + 7)]) := by rw [e_h50, va_up_neq (nek1 (a := 27) (by decide))]; exact F_h46_k
  have F_h50__k_1_ : h50 (k + 1) = .inr (3, [.ref (k + 2), .int 0, .ref (k + 3), .ref (k + 4), .int 0, .int 0, .int 0, .int 0, .int 0, .int 0, .int 0, .int 0, .int 0]) := by rw [e_h50, va_up_neq (nek (a := 1) (b := 27) (by decide))]; exact F_h46__k_1_
  have F_h50__k_2_ : h50 (k + 2) = .inl (0, 16000, .inl (fun _ => 0)) := by rw [e_h50, va_up_neq (nek (a := 2) (b := 27) (by decide))]; exact F_h46__k_2_
  have F_h50__k_3_ : h50 (k + 3) = .inl (1, 16000, .inl (fun _ => 0)) := by rw [e_h50, va_up_neq (nek (a := 3) (b := 27) (by decide))]; exact F_h46__k_3_
  have F_h50__k_4_ : h50 (k + 4) = .inl (1, 4096, .inl (fun _ => 0)) := by rw [e_h50, va_up_neq (nek (a := 4) (b := 27) (by decide))]; exact F_h46__k_4_
  have F_h50__k_5_ : h50 (k + 5) = .inl (1, 3, .inl (fun _ => 0)) := by rw [e_h50, va_up_neq (nek (a := 5) (b := 27) (by decide))]; exact F_h46__k_5_
  have F_h50__k_6_ : h50 (k + 6) = .inl (1, 3, .inl (fun _ => 0)) := by rw [e_h50, va_up_neq (nek (a := 6) (b := 27) (by decide))]; exact F_h46__k_6_
  have F_h50__k_7_ : h50 (k + 7) = .inl (1, 12, .inl (fun _ => 0)) := by rw [e_h50, va_up_neq (nek (a := 7) (b := 27) (by decide))]; exact F_h46__k_7_
  have F_h50__k_8_ : h50 (k + 8) = .inr (5, [.ref (k + 9), .ref (k + 10), .int 0, .ref (k + 11), .ref (k + 15), .ref (k + 19), .ref q, .ref (k + 25), .int 0, .int 0, .int 0, .int 0]) := by rw [e_h50, va_up_neq (nek (a := 8) (b := 27) (by decide))]; exact F_h46__k_8_
  have F_h50__k_9_ : h50 (k + 9) = .inl (0, 8000, .inl (fun _ => 0)) := by rw [e_h50, va_up_neq (nek (a := 9) (b := 27) (by decide))]; exact F_h46__k_9_
  have F_h50__k_10_ : h50 (k + 10) = .inl (1, 256, .inl (fun _ => 0)) := by rw [e_h50, va_up_neq (nek (a := 10) (b := 27) (by decide))]; exact F_h46__k_10_
  have F_h50__k_11_ : h50 (k + 11) = .inr (0, [.ref (k + 12), .ref (k + 13), .ref (k + 14), .int 0, .int 0]) := by rw [e_h50, va_up_neq (nek (a := 11) (b := 27) (by decide))]; exact F_h46__k_11_
  have F_h50__k_12_ : h50 (k + 12) = .inl (1, 256, .inl (fun _ => 0)) := by rw [e_h50, va_up_neq (nek (a := 12) (b := 27) (by decide))]; exact F_h46__k_12_
  have F_h50__k_13_ : h50 (k + 13) = .inl (1, 256, .inl (fun _ => 0)) := by rw [e_h50, va_up_neq (nek (a := 13) (b := 27) (by decide))]; exact F_h46__k_13_
  have F_h50__k_14_ : h50 (k + 14) = .inl (1, 13, .inl (fun _ => 0)) := by rw [e_h50, va_up_neq (nek (a := 14) (b := 27) (by decide))]; exact F_h46__k_14_
  have F_h50__k_15_ : h50 (k + 15) = .inr (0, [.ref (k + 16), .ref (k + 17), .ref (k + 18), .int 0, .int 0]) := by rw [e_h50, va_up_neq (nek (a := 15) (b := 27) (by decide))]; exact F_h46__k_15_
  have F_h50__k_16_ : h50 (k + 16) = .inl (1, 256, .inl (fun _ => 0)) := by rw [e_h50, va_up_neq (nek (a := 16) (b := 27) (by decide))]; exact F_h46__k_16_
  have F_h50__k_17_ : h50 (k + 17) = .inl (1, 256, .inl (fun _ => 0)) := by rw [e_h50, va_up_neq (nek (a := 17) (b := 27) (by decide))]; exact F_h46__k_17_
  have F_h50__k_18_ : h50 (k + 18) = .inl (1, 13, .inl (fun _ => 0)) := by rw [e_h50, va_up_neq (nek (a := 18) (b := 27) (by decide))]; exact F_h46__k_18_
  have F_h50__k_19_ : h50 (k + 19) = .inr (4, [.ref (k + 20), .ref (k + 21), .ref (k + 22), .ref (k + 23), .ref (k + 24)]) := by rw [e_h50, va_up_neq (nek (a := 19) (b := 27) (by decide))]; exact F_h46__k_19_
  have F_h50__k_20_ : h50 (k + 20) = .inl (1, 256, .inl (fun _ => 0)) := by rw [e_h50, va_up_neq (nek (a := 20) (b := 27) (by decide))]; exact F_h46__k_20_
  have F_h50__k_21_ : h50 (k + 21) = .inl (1, 256, .inl (fun _ => 0)) := by rw [e_h50, va_up_neq (nek (a := 21) (b := 27) (by decide))]; exact F_h46__k_21_
  have F_h50__k_22_ : h50 (k + 22) = .inl (1, 512, .inl (fun _ => 0)) := by rw [e_h50, va_up_neq (nek (a := 22) (b := 27) (by decide))]; exact F_h46__k_22_
  have F_h50__k_23_ : h50 (k + 23) = .inl (1, 512, .inl (fun _ => 0)) := by rw [e_h50, va_up_neq (nek (a := 23) (b := 27) (by decide))]; exact F_h46__k_23_
  have F_h50__k_24_ : h50 (k + 24) = .inl (1, 512, .inl (fun _ => 0)) := by rw [e_h50, va_up_neq (nek (a := 24) (b := 27) (by decide))]; exact F_h46__k_24_
  have F_h50__k_25_ : h50 (k + 25) = .inr (7, [.ref (k + 26), .int 0, .int 0, .long 0, .int 0]) := by rw [e_h50, va_up_neq (nek (a := 25) (b := 27) (by decide))]; exact F_h46__k_25_
  have F_h50__k_26_ : h50 (k + 26) = .inl (0, 256, .inl (fun _ => 0)) := by rw [e_h50, va_up_neq (nek (a := 26) (b := 27) (by decide))]; exact F_h46__k_26_
  have F_h50__k_27_ : h50 (k + 27) = .inr (1, zX1) := by rw [e_h50]; exact va_up_eq
  have FR_h50 : ∀ j, j < k ∨ aBig ≤ j → h50 j = h j := fun j hj => by rw [e_h50]; exact (va_up_neq (frne (a := 27) hj hbig (by decide))).trans (FR_h46 j hj)
  clear F_h46_k F_h46__k_1_ F_h46__k_2_ F_h46__k_3_ F_h46__k_4_ F_h46__k_5_ F_h46__k_6_ F_h46__k_7_ F_h46__k_8_ F_h46__k_9_ F_h46__k_10_ F_h46__k_11_ F_h46__k_12_ F_h46__k_13_ F_h46__k_14_ F_h46__k_15_ F_h46__k_16_ F_h46__k_17_ F_h46__k_18_ F_h46__k_19_ F_h46__k_20_ F_h46__k_21_ F_h46__k_22_ F_h46__k_23_ F_h46__k_24_ F_h46__k_25_ F_h46__k_26_ FR_h46 e_h50
  clear h46
  refine WX.s1 rfl rfl ?_
  refine WX.s1 rfl rfl ?_
  refine WX.s1 rfl rfl ?_
  refine WX.s1 rfl rfl ?_
  refine WX.s1 rfl rfl ?_
  refine WX.callC (vs := [.ref (k + 27), .ref (aBig + 3), .ref (aBig + 4), .int 35, .int 9]) rfl rfl rfl (Nat.le_of_ble_eq_true rfl) (rcv_ok (ltk (a := 27) (c := 28) (by decide)) F_h50__k_27_) ?_
  refine n_col_35_9 (k := k + 27) (bigk (k := k) (a := 55) hbig (by decide)) F_h50__k_27_ (fun h64 fr64 cs64 => ?_)
  have F_h64_k : h64 k = .inr (6, [.ref (k + 1), .ref (k + 8), .null, .null, .null, .ref (k + 5), .ref (k + 6), .int 0, .ref (k + 7)]) := (fr64 k (Or.inl (ltk0 (c := 27) (by decide)))).trans F_h50_k
  have F_h64__k_1_ : h64 (k + 1) = .inr (3, [.ref (k + 2), .int 0, .ref (k + 3), .ref (k + 4), .int 0, .int 0, .int 0, .int 0, .int 0, .int 0, .int 0, .int 0, .int 0]) := (fr64 (k + 1) (Or.inl (ltk (a := 1) (c := 27) (by decide)))).trans F_h50__k_1_
  have F_h64__k_2_ : h64 (k + 2) = .inl (0, 16000, .inl (fun _ => 0)) := (fr64 (k + 2) (Or.inl (ltk (a := 2) (c := 27) (by decide)))).trans F_h50__k_2_
  have F_h64__k_3_ : h64 (k + 3) = .inl (1, 16000, .inl (fun _ => 0)) := (fr64 (k + 3) (Or.inl (ltk (a := 3) (c := 27) (by decide)))).trans F_h50__k_3_
  have F_h64__k_4_ : h64 (k + 4) = .inl (1, 4096, .inl (fun _ => 0)) := (fr64 (k + 4) (Or.inl (ltk (a := 4) (c := 27) (by decide)))).trans F_h50__k_4_
  have F_h64__k_5_ : h64 (k + 5) = .inl (1, 3, .inl (fun _ => 0)) := (fr64 (k + 5) (Or.inl (ltk (a := 5) (c := 27) (by decide)))).trans F_h50__k_5_
  have F_h64__k_6_ : h64 (k + 6) = .inl (1, 3, .inl (fun _ => 0)) := (fr64 (k + 6) (Or.inl (ltk (a := 6) (c := 27) (by decide)))).trans F_h50__k_6_
  have F_h64__k_7_ : h64 (k + 7) = .inl (1, 12, .inl (fun _ => 0)) := (fr64 (k + 7) (Or.inl (ltk (a := 7) (c := 27) (by decide)))).trans F_h50__k_7_
  have F_h64__k_8_ : h64 (k + 8) = .inr (5, [.ref (k + 9), .ref (k + 10), .int 0, .ref (k + 11), .ref (k + 15), .ref (k + 19), .ref q, .ref (k + 25), .int 0, .int 0, .int 0, .int 0]) := (fr64 (k + 8) (Or.inl (ltk (a := 8) (c := 27) (by decide)))).trans F_h50__k_8_
  have F_h64__k_9_ : h64 (k + 9) = .inl (0, 8000, .inl (fun _ => 0)) := (fr64 (k + 9) (Or.inl (ltk (a := 9) (c := 27) (by decide)))).trans F_h50__k_9_
  have F_h64__k_10_ : h64 (k + 10) = .inl (1, 256, .inl (fun _ => 0)) := (fr64 (k + 10) (Or.inl (ltk (a := 10) (c := 27) (by decide)))).trans F_h50__k_10_
  have F_h64__k_11_ : h64 (k + 11) = .inr (0, [.ref (k + 12), .ref (k + 13), .ref (k + 14), .int 0, .int 0]) := (fr64 (k + 11) (Or.inl (ltk (a := 11) (c := 27) (by decide)))).trans F_h50__k_11_
  have F_h64__k_12_ : h64 (k + 12) = .inl (1, 256, .inl (fun _ => 0)) := (fr64 (k + 12) (Or.inl (ltk (a := 12) (c := 27) (by decide)))).trans F_h50__k_12_
  have F_h64__k_13_ : h64 (k + 13) = .inl (1, 256, .inl (fun _ => 0)) := (fr64 (k + 13) (Or.inl (ltk (a := 13) (c := 27) (by decide)))).trans F_h50__k_13_
  have F_h64__k_14_ : h64 (k + 14) = .inl (1, 13, .inl (fun _ => 0)) := (fr64 (k + 14) (Or.inl (ltk (a := 14) (c := 27) (by decide)))).trans F_h50__k_14_
  have F_h64__k_15_ : h64 (k + 15) = .inr (0, [.ref (k + 16), .ref (k + 17), .ref (k + 18), .int 0, .int 0]) := (fr64 (k + 15) (Or.inl (ltk (a := 15) (c := 27) (by decide)))).trans F_h50__k_15_
  have F_h64__k_16_ : h64 (k + 16) = .inl (1, 256, .inl (fun _ => 0)) := (fr64 (k + 16) (Or.inl (ltk (a := 16) (c := 27) (by decide)))).trans F_h50__k_16_
  have F_h64__k_17_ : h64 (k + 17) = .inl (1, 256, .inl (fun _ => 0)) := (fr64 (k + 17) (Or.inl (ltk (a := 17) (c := 27) (by decide)))).trans F_h50__k_17_
  have F_h64__k_18_ : h64 (k + 18) = .inl (1, 13, .inl (fun _ => 0)) := (fr64 (k + 18) (Or.inl (ltk (a := 18) (c := 27) (by decide)))).trans F_h50__k_18_
  have F_h64__k_19_ : h64 (k + 19) = .inr (4, [.ref (k + 20), .ref (k + 21), .ref (k + 22), .ref (k + 23), .ref (k + 24)]) := (fr64 (k + 19) (Or.inl (ltk (a := 19) (c := 27) (by decide)))).trans F_h50__k_19_
  have F_h64__k_20_ : h64 (k + 20) = .inl (1, 256, .inl (fun _ => 0)) := (fr64 (k + 20) (Or.inl (ltk (a := 20) (c := 27) (by decide)))).trans F_h50__k_20_
  have F_h64__k_21_ : h64 (k + 21) = .inl (1, 256, .inl (fun _ => 0)) := (fr64 (k + 21) (Or.inl (ltk (a := 21) (c := 27) (by decide)))).trans F_h50__k_21_
  have F_h64__k_22_ : h64 (k + 22) = .inl (1, 512, .inl (fun _ => 0)) := (fr64 (k + 22) (Or.inl (ltk (a := 22) (c := 27) (by decide)))).trans F_h50__k_22_
  have F_h64__k_23_ : h64 (k + 23) = .inl (1, 512, .inl (fun _ => 0)) := (fr64 (k + 23) (Or.inl (ltk (a := 23) (c := 27) (by decide)))).trans F_h50__k_23_
  have F_h64__k_24_ : h64 (k + 24) = .inl (1, 512, .inl (fun _ => 0)) := (fr64 (k + 24) (Or.inl (ltk (a := 24) (c := 27) (by decide)))).trans F_h50__k_24_
  have F_h64__k_25_ : h64 (k + 25) = .inr (7, [.ref (k + 26), .int 0, .int 0, .long 0, .int 0]) := (fr64 (k + 25) (Or.inl (ltk (a := 25) (c := 27) (by decide)))).trans F_h50__k_25_
  have F_h64__k_26_ : h64 (k + 26) = .inl (0, 256, .inl (fun _ => 0)) := (fr64 (k + 26) (Or.inl (ltk (a := 26) (c := 27) (by decide)))).trans F_h50__k_26_
  have F_h64__k_27_ : h64 (k + 27) = .inr (1, [.ref (aBig + 3), .ref (aBig + 4), .int 9, .ref (k + 28), .ref (k + 29), .ref (k + 32), .int 0, .int 0, .int 0, .ref (k + 33), .ref (k + 40), .ref (k + 47), .ref (k + 33), .ref (k + 30), .int 0, .int 0, .int 0, .int 0]) := cs64.1
  have F_h64__k_28_ : h64 (k + 28) = .inl (1, 2667, .inl (fun _ => 0)) := cs64.2.1
  have F_h64__k_29_ : h64 (k + 29) = .inl (1, 2667, .inl (fun _ => 0)) := cs64.2.2.1
  have F_h64__k_30_ : h64 (k + 30) = .inr (7, [.ref (k + 31), .int 0, .int 0, .long 0, .int 0]) := cs64.2.2.2.1
  have F_h64__k_31_ : h64 (k + 31) = .inl (0, 128, .inl (fun _ => 0)) := cs64.2.2.2.2.1
  have F_h64__k_32_ : h64 (k + 32) = .inl (1, 36, .inl (fun _ => 0)) := cs64.2.2.2.2.2.1
  have F_h64__k_33_ : h64 (k + 33) = .inr (8, [.int 35, .ref (k + 34), .ref (k + 35), .ref (k + 36), .ref (k + 37), .ref (k + 38), .ref (k + 39), .int 0, .int 0]) := cs64.2.2.2.2.2.2.1
  have F_h64__k_34_ : h64 (k + 34) = .inl (1, 36, .inl (fun _ => 0)) := cs64.2.2.2.2.2.2.2.1
  have F_h64__k_35_ : h64 (k + 35) = .inl (1, 36, .inl (fun _ => 0)) := cs64.2.2.2.2.2.2.2.2.1
  have F_h64__k_36_ : h64 (k + 36) = .inl (1, 36, .inl (fun _ => 0)) := cs64.2.2.2.2.2.2.2.2.2.1
  have F_h64__k_37_ : h64 (k + 37) = .inl (1, 36, .inl (fun _ => 0)) := cs64.2.2.2.2.2.2.2.2.2.2.1
  have F_h64__k_38_ : h64 (k + 38) = .inl (1, 512, .inl (fun _ => 0)) := cs64.2.2.2.2.2.2.2.2.2.2.2.1
  have F_h64__k_39_ : h64 (k + 39) = .inl (1, 512, .inl (fun _ => 0)) := cs64.2.2.2.2.2.2.2.2.2.2.2.2.1
  have F_h64__k_40_ : h64 (k + 40) = .inr (8, [.int 35, .ref (k + 41), .ref (k + 42), .ref (k + 43), .ref (k + 44), .ref (k + 45), .ref (k + 46), .int 0, .int 0]) := cs64.2.2.2.2.2.2.2.2.2.2.2.2.2.1
  have F_h64__k_41_ : h64 (k + 41) = .inl (1, 36, .inl (fun _ => 0)) := cs64.2.2.2.2.2.2.2.2.2.2.2.2.2.2.1
  have F_h64__k_42_ : h64 (k + 42) = .inl (1, 36, .inl (fun _ => 0)) := cs64.2.2.2.2.2.2.2.2.2.2.2.2.2.2.2.1
  have F_h64__k_43_ : h64 (k + 43) = .inl (1, 36, .inl (fun _ => 0)) := cs64.2.2.2.2.2.2.2.2.2.2.2.2.2.2.2.2.1
  have F_h64__k_44_ : h64 (k + 44) = .inl (1, 36, .inl (fun _ => 0)) := cs64.2.2.2.2.2.2.2.2.2.2.2.2.2.2.2.2.2.1
  have F_h64__k_45_ : h64 (k + 45) = .inl (1, 512, .inl (fun _ => 0)) := cs64.2.2.2.2.2.2.2.2.2.2.2.2.2.2.2.2.2.2.1
  have F_h64__k_46_ : h64 (k + 46) = .inl (1, 512, .inl (fun _ => 0)) := cs64.2.2.2.2.2.2.2.2.2.2.2.2.2.2.2.2.2.2.2.1
  have F_h64__k_47_ : h64 (k + 47) = .inr (8, [.int 35, .ref (k + 48), .ref (k + 49), .ref (k + 50), .ref (k + 51), .ref (k + 52), .ref (k + 53), .int 0, .int 0]) := cs64.2.2.2.2.2.2.2.2.2.2.2.2.2.2.2.2.2.2.2.2.1
  have F_h64__k_48_ : h64 (k + 48) = .inl (1, 36, .inl (fun _ => 0)) := cs64.2.2.2.2.2.2.2.2.2.2.2.2.2.2.2.2.2.2.2.2.2.1
  have F_h64__k_49_ : h64 (k + 49) = .inl (1, 36, .inl (fun _ => 0)) := cs64.2.2.2.2.2.2.2.2.2.2.2.2.2.2.2.2.2.2.2.2.2.2.1
  have F_h64__k_50_ : h64 (k + 50) = .inl (1, 36, .inl (fun _ => 0)) := cs64.2.2.2.2.2.2.2.2.2.2.2.2.2.2.2.2.2.2.2.2.2.2.2.1
  have F_h64__k_51_ : h64 (k + 51) = .inl (1, 36, .inl (fun _ => 0)) := cs64.2.2.2.2.2.2.2.2.2.2.2.2.2.2.2.2.2.2.2.2.2.2.2.2.1
  have F_h64__k_52_ : h64 (k + 52) = .inl (1, 512, .inl (fun _ => 0)) := cs64.2.2.2.2.2.2.2.2.2.2.2.2.2.2.2.2.2.2.2.2.2.2.2.2.2.1
  have F_h64__k_53_ : h64 (k + 53) = .inl (1, 512, .inl (fun _ => 0)) := cs64.2.2.2.2.2.2.2.2.2.2.2.2.2.2.2.2.2.2.2.2.2.2.2.2.2.2.1
  have FR_h64 : ∀ j, j < k ∨ aBig ≤ j → h64 j = h j := fun j hj => (fr64 j (hj.imp (fun z => Nat.lt_of_lt_of_le z (Nat.le_add_right _ _)) (fun z => z))).trans (FR_h50 j hj)
  clear F_h50_k F_h50__k_1_ F_h50__k_2_ F_h50__k_3_ F_h50__k_4_ F_h50__k_5_ F_h50__k_6_ F_h50__k_7_ F_h50__k_8_ F_h50__k_9_ F_h50__k_10_ F_h50__k_11_ F_h50__k_12_ F_h50__k_13_ F_h50__k_14_ F_h50__k_15_ F_h50__k_16_ F_h50__k_17_ F_h50__k_18_ F_h50__k_19_ F_h50__k_20_ F_h50__k_21_ F_h50__k_22_ F_h50__k_23_ F_h50__k_24_ F_h50__k_25_ F_h50__k_26_ F_h50__k_27_ FR_h50 fr64 cs64
  clear h50
  show WX _ _ _ 67 [(0, .ref k), (1, .ref q)] [.ref (k + 27), .ref k] (k + 54, s + 13 + 36096 + 3 + 3 + 12 + 12 + 11630 + 18 + 9034, h64)
  refine WX.put1 (fs := [.ref (k + 1), .ref (k + 8), .null, .null, .null, .ref (k + 5), .ref (k + 6), .int 0, .ref (k + 7)]) (fs' := [.ref (k + 1), .ref (k + 8), .ref (k + 27), .null, .null, .ref (k + 5), .ref (k + 6), .int 0, .ref (k + 7)]) rfl (ltk0 (c := 54) (by decide)) (F_h64_k) (Nat.le_of_ble_eq_true rfl) (rfl) rfl (fun h67 e_h67 => ?_)
  have F_h67_k : h67 k = .inr (6, [.ref (k + 1), .ref (k + 8), .ref (k + 27), .null, .null, .ref (k + 5), .ref (k + 6), .int 0, .ref (k + 7)]) := by rw [e_h67]; exact va_up_eq
  have F_h67__k_1_ : h67 (k + 1) = .inr (3, [.ref (k + 2), .int 0, .ref (k + 3), .ref (k + 4), .int 0, .int 0, .int 0, .int 0, .int 0, .int 0, .int 0, .int 0, .int 0]) := by rw [e_h67, va_up_neq (nek0 (a := 1) (by decide))]; exact F_h64__k_1_
  have F_h67__k_2_ : h67 (k + 2) = .inl (0, 16000, .inl (fun _ => 0)) := by rw [e_h67, va_up_neq (nek0 (a := 2) (by decide))]; exact F_h64__k_2_
  have F_h67__k_3_ : h67 (k + 3) = .inl (1, 16000, .inl (fun _ => 0)) := by rw [e_h67, va_up_neq (nek0 (a := 3) (by decide))]; exact F_h64__k_3_
  have F_h67__k_4_ : h67 (k + 4) = .inl (1, 4096, .inl (fun _ => 0)) := by rw [e_h67, va_up_neq (nek0 (a := 4) (by decide))]; exact F_h64__k_4_
  have F_h67__k_5_ : h67 (k + 5) = .inl (1, 3, .inl (fun _ => 0)) := by rw [e_h67, va_up_neq (nek0 (a := 5) (by decide))]; exact F_h64__k_5_
  have F_h67__k_6_ : h67 (k + 6) = .inl (1, 3, .inl (fun _ => 0)) := by rw [e_h67, va_up_neq (nek0 (a := 6) (by decide))]; exact F_h64__k_6_
  have F_h67__k_7_ : h67 (k + 7) = .inl (1, 12, .inl (fun _ => 0)) := by rw [e_h67, va_up_neq (nek0 (a := 7) (by decide))]; exact F_h64__k_7_
  have F_h67__k_8_ : h67 (k + 8) = .inr (5, [.ref (k + 9), .ref (k + 10), .int 0, .ref (k + 11), .ref (k + 15), .ref (k + 19), .ref q, .ref (k + 25), .int 0, .int 0, .int 0, .int 0]) := by rw [e_h67, va_up_neq (nek0 (a := 8) (by decide))]; exact F_h64__k_8_
  have F_h67__k_9_ : h67 (k + 9) = .inl (0, 8000, .inl (fun _ => 0)) := by rw [e_h67, va_up_neq (nek0 (a := 9) (by decide))]; exact F_h64__k_9_
  have F_h67__k_10_ : h67 (k + 10) = .inl (1, 256, .inl (fun _ => 0)) := by rw [e_h67, va_up_neq (nek0 (a := 10) (by decide))]; exact F_h64__k_10_
  have F_h67__k_11_ : h67 (k + 11) = .inr (0, [.ref (k + 12), .ref (k + 13), .ref (k + 14), .int 0, .int 0]) := by rw [e_h67, va_up_neq (nek0 (a := 11) (by decide))]; exact F_h64__k_11_
  have F_h67__k_12_ : h67 (k + 12) = .inl (1, 256, .inl (fun _ => 0)) := by rw [e_h67, va_up_neq (nek0 (a := 12) (by decide))]; exact F_h64__k_12_
  have F_h67__k_13_ : h67 (k + 13) = .inl (1, 256, .inl (fun _ => 0)) := by rw [e_h67, va_up_neq (nek0 (a := 13) (by decide))]; exact F_h64__k_13_
  have F_h67__k_14_ : h67 (k + 14) = .inl (1, 13, .inl (fun _ => 0)) := by rw [e_h67, va_up_neq (nek0 (a := 14) (by decide))]; exact F_h64__k_14_
  have F_h67__k_15_ : h67 (k + 15) = .inr (0, [.ref (k + 16), .ref (k + 17), .ref (k + 18), .int 0, .int 0]) := by rw [e_h67, va_up_neq (nek0 (a := 15) (by decide))]; exact F_h64__k_15_
  have F_h67__k_16_ : h67 (k + 16) = .inl (1, 256, .inl (fun _ => 0)) := by rw [e_h67, va_up_neq (nek0 (a := 16) (by decide))]; exact F_h64__k_16_
  have F_h67__k_17_ : h67 (k + 17) = .inl (1, 256, .inl (fun _ => 0)) := by rw [e_h67, va_up_neq (nek0 (a := 17) (by decide))]; exact F_h64__k_17_
  have F_h67__k_18_ : h67 (k + 18) = .inl (1, 13, .inl (fun _ => 0)) := by rw [e_h67, va_up_neq (nek0 (a := 18) (by decide))]; exact F_h64__k_18_
  have F_h67__k_19_ : h67 (k + 19) = .inr (4, [.ref (k + 20), .ref (k + 21), .ref (k + 22), .ref (k + 23), .ref (k + 24)]) := by rw [e_h67, va_up_neq (nek0 (a := 19) (by decide))]; exact F_h64__k_19_
  have F_h67__k_20_ : h67 (k + 20) = .inl (1, 256, .inl (fun _ => 0)) := by rw [e_h67, va_up_neq (nek0 (a := 20) (by decide))]; exact F_h64__k_20_
  have F_h67__k_21_ : h67 (k + 21) = .inl (1, 256, .inl (fun _ => 0)) := by rw [e_h67, va_up_neq (nek0 (a := 21) (by decide))]; exact F_h64__k_21_
  have F_h67__k_22_ : h67 (k + 22) = .inl (1, 512, .inl (fun _ => 0)) := by rw [e_h67, va_up_neq (nek0 (a := 22) (by decide))]; exact F_h64__k_22_
  have F_h67__k_23_ : h67 (k + 23) = .inl (1, 512, .inl (fun _ => 0)) := by rw [e_h67, va_up_neq (nek0 (a := 23) (by decide))]; exact F_h64__k_23_
  have F_h67__k_24_ : h67 (k + 24) = .inl (1, 512, .inl (fun _ => 0)) := by rw [e_h67, va_up_neq (nek0 (a := 24) (by decide))]; exact F_h64__k_24_
  have F_h67__k_25_ : h67 (k + 25) = .inr (7, [.ref (k + 26), .int 0, .int 0, .long 0, .int 0]) := by rw [e_h67, va_up_neq (nek0 (a := 25) (by decide))]; exact F_h64__k_25_
  have F_h67__k_26_ : h67 (k + 26) = .inl (0, 256, .inl (fun _ => 0)) := by rw [e_h67, va_up_neq (nek0 (a := 26) (by decide))]; exact F_h64__k_26_
  have F_h67__k_27_ : h67 (k + 27) = .inr (1, [.ref (aBig + 3), .ref (aBig + 4), .int 9, .ref (k + 28), .ref (k + 29), .ref (k + 32), .int 0, .int 0, .int 0, .ref (k + 33), .ref (k + 40), .ref (k + 47), .ref (k + 33), .ref (k + 30), .int 0, .int 0, .int 0, .int 0]) := by rw [e_h67, va_up_neq (nek0 (a := 27) (by decide))]; exact F_h64__k_27_
  have F_h67__k_28_ : h67 (k + 28) = .inl (1, 2667, .inl (fun _ => 0)) := by rw [e_h67, va_up_neq (nek0 (a := 28) (by decide))]; exact F_h64__k_28_
  have F_h67__k_29_ : h67 (k + 29) = .inl (1, 2667, .inl (fun _ => 0)) := by rw [e_h67, va_up_neq (nek0 (a := 29) (by decide))]; exact F_h64__k_29_
  have F_h67__k_30_ : h67 (k + 30) = .inr (7, [.ref (k + 31), .int 0, .int 0, .long 0, .int 0]) := by rw [e_h67, va_up_neq (nek0 (a := 30) (by decide))]; exact F_h64__k_30_
  have F_h67__k_31_ : h67 (k + 31) = .inl (0, 128, .inl (fun _ => 0)) := by rw [e_h67, va_up_neq (nek0 (a := 31) (by decide))]; exact F_h64__k_31_
  have F_h67__k_32_ : h67 (k + 32) = .inl (1, 36, .inl (fun _ => 0)) := by rw [e_h67, va_up_neq (nek0 (a := 32) (by decide))]; exact F_h64__k_32_
  have F_h67__k_33_ : h67 (k + 33) = .inr (8, [.int 35, .ref (k + 34), .ref (k + 35), .ref (k + 36), .ref (k + 37), .ref (k + 38), .ref (k + 39), .int 0, .int 0]) := by rw [e_h67, va_up_neq (nek0 (a := 33) (by decide))]; exact F_h64__k_33_
  have F_h67__k_34_ : h67 (k + 34) = .inl (1, 36, .inl (fun _ => 0)) := by rw [e_h67, va_up_neq (nek0 (a := 34) (by decide))]; exact F_h64__k_34_
  have F_h67__k_35_ : h67 (k + 35) = .inl (1, 36, .inl (fun _ => 0)) := by rw [e_h67, va_up_neq (nek0 (a := 35) (by decide))]; exact F_h64__k_35_
  have F_h67__k_36_ : h67 (k + 36) = .inl (1, 36, .inl (fun _ => 0)) := by rw [e_h67, va_up_neq (nek0 (a := 36) (by decide))]; exact F_h64__k_36_
  have F_h67__k_37_ : h67 (k + 37) = .inl (1, 36, .inl (fun _ => 0)) := by rw [e_h67, va_up_neq (nek0 (a := 37) (by decide))]; exact F_h64__k_37_
  have F_h67__k_38_ : h67 (k + 38) = .inl (1, 512, .inl (fun _ => 0)) := by rw [e_h67, va_up_neq (nek0 (a := 38) (by decide))]; exact F_h64__k_38_
  have F_h67__k_39_ : h67 (k + 39) = .inl (1, 512, .inl (fun _ => 0)) := by rw [e_h67, va_up_neq (nek0 (a := 39) (by decide))]; exact F_h64__k_39_
  have F_h67__k_40_ : h67 (k + 40) = .inr (8, [.int 35, .ref (k + 41), .ref (k + 42), .ref (k + 43), .ref (k + 44), .ref (k + 45), .ref (k + 46), .int 0, .int 0]) := by rw [e_h67, va_up_neq (nek0 (a := 40) (by decide))]; exact F_h64__k_40_
  have F_h67__k_41_ : h67 (k + 41) = .inl (1, 36, .inl (fun _ => 0)) := by rw [e_h67, va_up_neq (nek0 (a := 41) (by decide))]; exact F_h64__k_41_
  have F_h67__k_42_ : h67 (k + 42) = .inl (1, 36, .inl (fun _ => 0)) := by rw [e_h67, va_up_neq (nek0 (a := 42) (by decide))]; exact F_h64__k_42_
  have F_h67__k_43_ : h67 (k + 43) = .inl (1, 36, .inl (fun _ => 0)) := by rw [e_h67, va_up_neq (nek0 (a := 43) (by decide))]; exact F_h64__k_43_
  have F_h67__k_44_ : h67 (k + 44) = .inl (1, 36, .inl (fun _ => 0)) := by rw [e_h67, va_up_neq (nek0 (a := 44) (by decide))]; exact F_h64__k_44_
  have F_h67__k_45_ : h67 (k + 45) = .inl (1, 512, .inl (fun _ => 0)) := by rw [e_h67, va_up_neq (nek0 (a := 45) (by decide))]; exact F_h64__k_45_
  have F_h67__k_46_ : h67 (k + 46) = .inl (1, 512, .inl (fun _ => 0)) := by rw [e_h67, va_up_neq (nek0 (a := 46) (by decide))]; exact F_h64__k_46_
  have F_h67__k_47_ : h67 (k + 47) = .inr (8, [.int 35, .ref (k + 48), .ref (k + 49), .ref (k + 50), .ref (k + 51), .ref (k + 52), .ref (k + 53), .int 0, .int 0]) := by rw [e_h67, va_up_neq (nek0 (a := 47) (by decide))]; exact F_h64__k_47_
  have F_h67__k_48_ : h67 (k + 48) = .inl (1, 36, .inl (fun _ => 0)) := by rw [e_h67, va_up_neq (nek0 (a := 48) (by decide))]; exact F_h64__k_48_
  have F_h67__k_49_ : h67 (k + 49) = .inl (1, 36, .inl (fun _ => 0)) := by rw [e_h67, va_up_neq (nek0 (a := 49) (by decide))]; exact F_h64__k_49_
  have F_h67__k_50_ : h67 (k + 50) = .inl (1, 36, .inl (fun _ => 0)) := by rw [e_h67, va_up_neq (nek0 (a := 50) (by decide))]; exact F_h64__k_50_
  have F_h67__k_51_ : h67 (k + 51) = .inl (1, 36, .inl (fun _ => 0)) := by rw [e_h67, va_up_neq (nek0 (a := 51) (by decide))]; exact F_h64__k_51_
  have F_h67__k_52_ : h67 (k + 52) = .inl (1, 512, .inl (fun _ => 0)) := by rw [e_h67, va_up_neq (nek0 (a := 52) (by decide))]; exact F_h64__k_52_
  have F_h67__k_53_ : h67 (k + 53) = .inl (1, 512, .inl (fun _ => 0)) := by rw [e_h67, va_up_neq (nek0 (a := 53) (by decide))]; exact F_h64__k_53_
  have FR_h67 : ∀ j, j < k ∨ aBig ≤ j → h67 j = h j := fun j hj => by rw [e_h67]; exact (va_up_neq (frne0 hj hbig)).trans (FR_h64 j hj)
  clear F_h64_k F_h64__k_1_ F_h64__k_2_ F_h64__k_3_ F_h64__k_4_ F_h64__k_5_ F_h64__k_6_ F_h64__k_7_ F_h64__k_8_ F_h64__k_9_ F_h64__k_10_ F_h64__k_11_ F_h64__k_12_ F_h64__k_13_ F_h64__k_14_ F_h64__k_15_ F_h64__k_16_ F_h64__k_17_ F_h64__k_18_ F_h64__k_19_ F_h64__k_20_ F_h64__k_21_ F_h64__k_22_ F_h64__k_23_ F_h64__k_24_ F_h64__k_25_ F_h64__k_26_ F_h64__k_27_ F_h64__k_28_ F_h64__k_29_ F_h64__k_30_ F_h64__k_31_ F_h64__k_32_ F_h64__k_33_ F_h64__k_34_ F_h64__k_35_ F_h64__k_36_ F_h64__k_37_ F_h64__k_38_ F_h64__k_39_ F_h64__k_40_ F_h64__k_41_ F_h64__k_42_ F_h64__k_43_ F_h64__k_44_ F_h64__k_45_ F_h64__k_46_ F_h64__k_47_ F_h64__k_48_ F_h64__k_49_ F_h64__k_50_ F_h64__k_51_ F_h64__k_52_ F_h64__k_53_ FR_h64 e_h67
  clear h64
  refine WX.s1 rfl rfl ?_
  refine WX.get1 (fs := [.ref (k + 1), .ref (k + 8), .ref (k + 27), .null, .null, .ref (k + 5), .ref (k + 6), .int 0, .ref (k + 7)]) rfl (ltk0 (c := 54) (by decide)) (F_h67_k) rfl ?_
  refine WX.s1 rfl rfl ?_
  refine WX.s1 rfl rfl ?_
  refine WX.callC (vs := [.ref (k + 27), .ref (aBig + 0), .int 6]) rfl rfl rfl (Nat.le_of_ble_eq_true rfl) (rcv_ok (ltk (a := 27) (c := 54) (by decide)) F_h67__k_27_) ?_
  refine w_knowS (k := k + 33) (l := 35) (M := 512) (L := 6) (j := 0) (ltk (a := 27) (c := 54) (by decide)) F_h67__k_27_ rfl (ltk (a := 39) (c := 54) (by decide)) (bigk (k := k) (a := 54) hbig (by decide)) ⟨F_h67__k_33_, F_h67__k_34_, F_h67__k_35_, F_h67__k_36_, F_h67__k_37_, F_h67__k_38_, F_h67__k_39_⟩ (by decide) (by decide) (by decide) (by decide) (fun _ _ => ⟨0, Nat.zero_le _, rfl⟩) (by decide) ((FR_h67 _ (Or.inr (Nat.le_add_right _ _))).trans K0) hK0 kb0 (fun h79 pA fA wA oA sA fr79 A79 hp79 => ?_)
  have F_h79_k : h79 k = .inr (6, [.ref (k + 1), .ref (k + 8), .ref (k + 27), .null, .null, .ref (k + 5), .ref (k + 6), .int 0, .ref (k + 7)]) := (fr79 k (insNo (k := k) (a := 0) (b := 33) (by decide))).trans F_h67_k
  have F_h79__k_1_ : h79 (k + 1) = .inr (3, [.ref (k + 2), .int 0, .ref (k + 3), .ref (k + 4), .int 0, .int 0, .int 0, .int 0, .int 0, .int 0, .int 0, .int 0, .int 0]) := (fr79 (k + 1) (insNo (k := k) (a := 1) (b := 33) (by decide))).trans F_h67__k_1_
  have F_h79__k_2_ : h79 (k + 2) = .inl (0, 16000, .inl (fun _ => 0)) := (fr79 (k + 2) (insNo (k := k) (a := 2) (b := 33) (by decide))).trans F_h67__k_2_
  have F_h79__k_3_ : h79 (k + 3) = .inl (1, 16000, .inl (fun _ => 0)) := (fr79 (k + 3) (insNo (k := k) (a := 3) (b := 33) (by decide))).trans F_h67__k_3_
  have F_h79__k_4_ : h79 (k + 4) = .inl (1, 4096, .inl (fun _ => 0)) := (fr79 (k + 4) (insNo (k := k) (a := 4) (b := 33) (by decide))).trans F_h67__k_4_
  have F_h79__k_5_ : h79 (k + 5) = .inl (1, 3, .inl (fun _ => 0)) := (fr79 (k + 5) (insNo (k := k) (a := 5) (b := 33) (by decide))).trans F_h67__k_5_
  have F_h79__k_6_ : h79 (k + 6) = .inl (1, 3, .inl (fun _ => 0)) := (fr79 (k + 6) (insNo (k := k) (a := 6) (b := 33) (by decide))).trans F_h67__k_6_
  have F_h79__k_7_ : h79 (k + 7) = .inl (1, 12, .inl (fun _ => 0)) := (fr79 (k + 7) (insNo (k := k) (a := 7) (b := 33) (by decide))).trans F_h67__k_7_
  have F_h79__k_8_ : h79 (k + 8) = .inr (5, [.ref (k + 9), .ref (k + 10), .int 0, .ref (k + 11), .ref (k + 15), .ref (k + 19), .ref q, .ref (k + 25), .int 0, .int 0, .int 0, .int 0]) := (fr79 (k + 8) (insNo (k := k) (a := 8) (b := 33) (by decide))).trans F_h67__k_8_
  have F_h79__k_9_ : h79 (k + 9) = .inl (0, 8000, .inl (fun _ => 0)) := (fr79 (k + 9) (insNo (k := k) (a := 9) (b := 33) (by decide))).trans F_h67__k_9_
  have F_h79__k_10_ : h79 (k + 10) = .inl (1, 256, .inl (fun _ => 0)) := (fr79 (k + 10) (insNo (k := k) (a := 10) (b := 33) (by decide))).trans F_h67__k_10_
  have F_h79__k_11_ : h79 (k + 11) = .inr (0, [.ref (k + 12), .ref (k + 13), .ref (k + 14), .int 0, .int 0]) := (fr79 (k + 11) (insNo (k := k) (a := 11) (b := 33) (by decide))).trans F_h67__k_11_
  have F_h79__k_12_ : h79 (k + 12) = .inl (1, 256, .inl (fun _ => 0)) := (fr79 (k + 12) (insNo (k := k) (a := 12) (b := 33) (by decide))).trans F_h67__k_12_
  have F_h79__k_13_ : h79 (k + 13) = .inl (1, 256, .inl (fun _ => 0)) := (fr79 (k + 13) (insNo (k := k) (a := 13) (b := 33) (by decide))).trans F_h67__k_13_
  have F_h79__k_14_ : h79 (k + 14) = .inl (1, 13, .inl (fun _ => 0)) := (fr79 (k + 14) (insNo (k := k) (a := 14) (b := 33) (by decide))).trans F_h67__k_14_
  have F_h79__k_15_ : h79 (k + 15) = .inr (0, [.ref (k + 16), .ref (k + 17), .ref (k + 18), .int 0, .int 0]) := (fr79 (k + 15) (insNo (k := k) (a := 15) (b := 33) (by decide))).trans F_h67__k_15_
  have F_h79__k_16_ : h79 (k + 16) = .inl (1, 256, .inl (fun _ => 0)) := (fr79 (k + 16) (insNo (k := k) (a := 16) (b := 33) (by decide))).trans F_h67__k_16_
  have F_h79__k_17_ : h79 (k + 17) = .inl (1, 256, .inl (fun _ => 0)) := (fr79 (k + 17) (insNo (k := k) (a := 17) (b := 33) (by decide))).trans F_h67__k_17_
  have F_h79__k_18_ : h79 (k + 18) = .inl (1, 13, .inl (fun _ => 0)) := (fr79 (k + 18) (insNo (k := k) (a := 18) (b := 33) (by decide))).trans F_h67__k_18_
  have F_h79__k_19_ : h79 (k + 19) = .inr (4, [.ref (k + 20), .ref (k + 21), .ref (k + 22), .ref (k + 23), .ref (k + 24)]) := (fr79 (k + 19) (insNo (k := k) (a := 19) (b := 33) (by decide))).trans F_h67__k_19_
  have F_h79__k_20_ : h79 (k + 20) = .inl (1, 256, .inl (fun _ => 0)) := (fr79 (k + 20) (insNo (k := k) (a := 20) (b := 33) (by decide))).trans F_h67__k_20_
  have F_h79__k_21_ : h79 (k + 21) = .inl (1, 256, .inl (fun _ => 0)) := (fr79 (k + 21) (insNo (k := k) (a := 21) (b := 33) (by decide))).trans F_h67__k_21_
  have F_h79__k_22_ : h79 (k + 22) = .inl (1, 512, .inl (fun _ => 0)) := (fr79 (k + 22) (insNo (k := k) (a := 22) (b := 33) (by decide))).trans F_h67__k_22_
  have F_h79__k_23_ : h79 (k + 23) = .inl (1, 512, .inl (fun _ => 0)) := (fr79 (k + 23) (insNo (k := k) (a := 23) (b := 33) (by decide))).trans F_h67__k_23_
  have F_h79__k_24_ : h79 (k + 24) = .inl (1, 512, .inl (fun _ => 0)) := (fr79 (k + 24) (insNo (k := k) (a := 24) (b := 33) (by decide))).trans F_h67__k_24_
  have F_h79__k_25_ : h79 (k + 25) = .inr (7, [.ref (k + 26), .int 0, .int 0, .long 0, .int 0]) := (fr79 (k + 25) (insNo (k := k) (a := 25) (b := 33) (by decide))).trans F_h67__k_25_
  have F_h79__k_26_ : h79 (k + 26) = .inl (0, 256, .inl (fun _ => 0)) := (fr79 (k + 26) (insNo (k := k) (a := 26) (b := 33) (by decide))).trans F_h67__k_26_
  have F_h79__k_27_ : h79 (k + 27) = .inr (1, [.ref (aBig + 3), .ref (aBig + 4), .int 9, .ref (k + 28), .ref (k + 29), .ref (k + 32), .int 0, .int 0, .int 0, .ref (k + 33), .ref (k + 40), .ref (k + 47), .ref (k + 33), .ref (k + 30), .int 0, .int 0, .int 0, .int 0]) := (fr79 (k + 27) (insNo (k := k) (a := 27) (b := 33) (by decide))).trans F_h67__k_27_
  have F_h79__k_28_ : h79 (k + 28) = .inl (1, 2667, .inl (fun _ => 0)) := (fr79 (k + 28) (insNo (k := k) (a := 28) (b := 33) (by decide))).trans F_h67__k_28_
  have F_h79__k_29_ : h79 (k + 29) = .inl (1, 2667, .inl (fun _ => 0)) := (fr79 (k + 29) (insNo (k := k) (a := 29) (b := 33) (by decide))).trans F_h67__k_29_
  have F_h79__k_30_ : h79 (k + 30) = .inr (7, [.ref (k + 31), .int 0, .int 0, .long 0, .int 0]) := (fr79 (k + 30) (insNo (k := k) (a := 30) (b := 33) (by decide))).trans F_h67__k_30_
  have F_h79__k_31_ : h79 (k + 31) = .inl (0, 128, .inl (fun _ => 0)) := (fr79 (k + 31) (insNo (k := k) (a := 31) (b := 33) (by decide))).trans F_h67__k_31_
  have F_h79__k_32_ : h79 (k + 32) = .inl (1, 36, .inl (fun _ => 0)) := (fr79 (k + 32) (insNo (k := k) (a := 32) (b := 33) (by decide))).trans F_h67__k_32_
  have F_h79__k_40_ : h79 (k + 40) = .inr (8, [.int 35, .ref (k + 41), .ref (k + 42), .ref (k + 43), .ref (k + 44), .ref (k + 45), .ref (k + 46), .int 0, .int 0]) := (fr79 (k + 40) (insNo (k := k) (a := 40) (b := 33) (by decide))).trans F_h67__k_40_
  have F_h79__k_41_ : h79 (k + 41) = .inl (1, 36, .inl (fun _ => 0)) := (fr79 (k + 41) (insNo (k := k) (a := 41) (b := 33) (by decide))).trans F_h67__k_41_
  have F_h79__k_42_ : h79 (k + 42) = .inl (1, 36, .inl (fun _ => 0)) := (fr79 (k + 42) (insNo (k := k) (a := 42) (b := 33) (by decide))).trans F_h67__k_42_
  have F_h79__k_43_ : h79 (k + 43) = .inl (1, 36, .inl (fun _ => 0)) := (fr79 (k + 43) (insNo (k := k) (a := 43) (b := 33) (by decide))).trans F_h67__k_43_
  have F_h79__k_44_ : h79 (k + 44) = .inl (1, 36, .inl (fun _ => 0)) := (fr79 (k + 44) (insNo (k := k) (a := 44) (b := 33) (by decide))).trans F_h67__k_44_
  have F_h79__k_45_ : h79 (k + 45) = .inl (1, 512, .inl (fun _ => 0)) := (fr79 (k + 45) (insNo (k := k) (a := 45) (b := 33) (by decide))).trans F_h67__k_45_
  have F_h79__k_46_ : h79 (k + 46) = .inl (1, 512, .inl (fun _ => 0)) := (fr79 (k + 46) (insNo (k := k) (a := 46) (b := 33) (by decide))).trans F_h67__k_46_
  have F_h79__k_47_ : h79 (k + 47) = .inr (8, [.int 35, .ref (k + 48), .ref (k + 49), .ref (k + 50), .ref (k + 51), .ref (k + 52), .ref (k + 53), .int 0, .int 0]) := (fr79 (k + 47) (insNo (k := k) (a := 47) (b := 33) (by decide))).trans F_h67__k_47_
  have F_h79__k_48_ : h79 (k + 48) = .inl (1, 36, .inl (fun _ => 0)) := (fr79 (k + 48) (insNo (k := k) (a := 48) (b := 33) (by decide))).trans F_h67__k_48_
  have F_h79__k_49_ : h79 (k + 49) = .inl (1, 36, .inl (fun _ => 0)) := (fr79 (k + 49) (insNo (k := k) (a := 49) (b := 33) (by decide))).trans F_h67__k_49_
  have F_h79__k_50_ : h79 (k + 50) = .inl (1, 36, .inl (fun _ => 0)) := (fr79 (k + 50) (insNo (k := k) (a := 50) (b := 33) (by decide))).trans F_h67__k_50_
  have F_h79__k_51_ : h79 (k + 51) = .inl (1, 36, .inl (fun _ => 0)) := (fr79 (k + 51) (insNo (k := k) (a := 51) (b := 33) (by decide))).trans F_h67__k_51_
  have F_h79__k_52_ : h79 (k + 52) = .inl (1, 512, .inl (fun _ => 0)) := (fr79 (k + 52) (insNo (k := k) (a := 52) (b := 33) (by decide))).trans F_h67__k_52_
  have F_h79__k_53_ : h79 (k + 53) = .inl (1, 512, .inl (fun _ => 0)) := (fr79 (k + 53) (insNo (k := k) (a := 53) (b := 33) (by decide))).trans F_h67__k_53_
  have F_h79__k_33_ : h79 (k + 33) = .inr (8, [.int 35, .ref (k + 34), .ref (k + 35), .ref (k + 36), .ref (k + 37), .ref (k + 38), .ref (k + 39), .int 6, .int 1]) := A79.1
  have F_h79__k_34_ : h79 (k + 34) = .inl (1, 36, .inl pA) := A79.2.1
  have F_h79__k_35_ : h79 (k + 35) = .inl (1, 36, .inl (fun _ => 0)) := A79.2.2.1
  have F_h79__k_36_ : h79 (k + 36) = .inl (1, 36, .inl fA) := A79.2.2.2.1
  have F_h79__k_37_ : h79 (k + 37) = .inl (1, 36, .inl wA) := A79.2.2.2.2.1
  have F_h79__k_38_ : h79 (k + 38) = .inl (1, 512, .inl oA) := A79.2.2.2.2.2.1
  have F_h79__k_39_ : h79 (k + 39) = .inl (1, 512, .inl sA) := A79.2.2.2.2.2.2
  have FR_h79 : ∀ j, j < k ∨ aBig ≤ j → h79 j = h j := fun j hj => (fr79 j (fun z => by have z1 := z.1; have z2 := z.2; have := hbig; omega)).trans (FR_h67 j hj)
  clear F_h67_k F_h67__k_1_ F_h67__k_2_ F_h67__k_3_ F_h67__k_4_ F_h67__k_5_ F_h67__k_6_ F_h67__k_7_ F_h67__k_8_ F_h67__k_9_ F_h67__k_10_ F_h67__k_11_ F_h67__k_12_ F_h67__k_13_ F_h67__k_14_ F_h67__k_15_ F_h67__k_16_ F_h67__k_17_ F_h67__k_18_ F_h67__k_19_ F_h67__k_20_ F_h67__k_21_ F_h67__k_22_ F_h67__k_23_ F_h67__k_24_ F_h67__k_25_ F_h67__k_26_ F_h67__k_27_ F_h67__k_28_ F_h67__k_29_ F_h67__k_30_ F_h67__k_31_ F_h67__k_32_ F_h67__k_40_ F_h67__k_41_ F_h67__k_42_ F_h67__k_43_ F_h67__k_44_ F_h67__k_45_ F_h67__k_46_ F_h67__k_47_ F_h67__k_48_ F_h67__k_49_ F_h67__k_50_ F_h67__k_51_ F_h67__k_52_ F_h67__k_53_ F_h67__k_33_ F_h67__k_34_ F_h67__k_35_ F_h67__k_36_ F_h67__k_37_ F_h67__k_38_ F_h67__k_39_ FR_h67 fr79 A79
  clear h67
  show WX _ _ _ 82 [(0, .ref k), (1, .ref q)] [] (k + 54, s + 13 + 36096 + 3 + 3 + 12 + 12 + 11630 + 18 + 9034, h79)
  refine WX.s1 rfl rfl ?_
  refine WX.newN rfl (bigk (k := k) (a := 55) hbig (by decide)) (fun h83 e_h83 => ?_)
  have F_h83_k : h83 k = .inr (6, [.ref (k + 1), .ref (k + 8), .ref (k + 27), .null, .null, .ref (k + 5), .ref (k + 6), .int 0, .ref (k + 7)]) := by rw [e_h83, va_up_neq (nek1 (a := 54) (by decide))]; exact F_h79_k
  have F_h83__k_1_ : h83 (k + 1) = .inr (3, [.ref (k + 2), .int 0, .ref (k + 3), .ref (k + 4), .int 0, .int 0, .int 0, .int 0, .int 0, .int 0, .int 0, .int 0, .int 0]) := by rw [e_h83, va_up_neq (nek (a := 1) (b := 54) (by decide))]; exact F_h79__k_1_
  have F_h83__k_2_ : h83 (k + 2) = .inl (0, 16000, .inl (fun _ => 0)) := by rw [e_h83, va_up_neq (nek (a := 2) (b := 54) (by decide))]; exact F_h79__k_2_
  have F_h83__k_3_ : h83 (k + 3) = .inl (1, 16000, .inl (fun _ => 0)) := by rw [e_h83, va_up_neq (nek (a := 3) (b := 54) (by decide))]; exact F_h79__k_3_
  have F_h83__k_4_ : h83 (k + 4) = .inl (1, 4096, .inl (fun _ => 0)) := by rw [e_h83, va_up_neq (nek (a := 4) (b := 54) (by decide))]; exact F_h79__k_4_
  have F_h83__k_5_ : h83 (k + 5) = .inl (1, 3, .inl (fun _ => 0)) := by rw [e_h83, va_up_neq (nek (a := 5) (b := 54) (by decide))]; exact F_h79__k_5_
  have F_h83__k_6_ : h83 (k + 6) = .inl (1, 3, .inl (fun _ => 0)) := by rw [e_h83, va_up_neq (nek (a := 6) (b := 54) (by decide))]; exact F_h79__k_6_
  have F_h83__k_7_ : h83 (k + 7) = .inl (1, 12, .inl (fun _ => 0)) := by rw [e_h83, va_up_neq (nek (a := 7) (b := 54) (by decide))]; exact F_h79__k_7_
  have F_h83__k_8_ : h83 (k + 8) = .inr (5, [.ref (k + 9), .ref (k + 10), .int 0, .ref (k + 11), .ref (k + 15), .ref (k + 19), .ref q, .ref (k + 25), .int 0, .int 0, .int 0, .int 0]) := by rw [e_h83, va_up_neq (nek (a := 8) (b := 54) (by decide))]; exact F_h79__k_8_
  have F_h83__k_9_ : h83 (k + 9) = .inl (0, 8000, .inl (fun _ => 0)) := by rw [e_h83, va_up_neq (nek (a := 9) (b := 54) (by decide))]; exact F_h79__k_9_
  have F_h83__k_10_ : h83 (k + 10) = .inl (1, 256, .inl (fun _ => 0)) := by rw [e_h83, va_up_neq (nek (a := 10) (b := 54) (by decide))]; exact F_h79__k_10_
  have F_h83__k_11_ : h83 (k + 11) = .inr (0, [.ref (k + 12), .ref (k + 13), .ref (k + 14), .int 0, .int 0]) := by rw [e_h83, va_up_neq (nek (a := 11) (b := 54) (by decide))]; exact F_h79__k_11_
  have F_h83__k_12_ : h83 (k + 12) = .inl (1, 256, .inl (fun _ => 0)) := by rw [e_h83, va_up_neq (nek (a := 12) (b := 54) (by decide))]; exact F_h79__k_12_
  have F_h83__k_13_ : h83 (k + 13) = .inl (1, 256, .inl (fun _ => 0)) := by rw [e_h83, va_up_neq (nek (a := 13) (b := 54) (by decide))]; exact F_h79__k_13_
  have F_h83__k_14_ : h83 (k + 14) = .inl (1, 13, .inl (fun _ => 0)) := by rw [e_h83, va_up_neq (nek (a := 14) (b := 54) (by decide))]; exact F_h79__k_14_
  have F_h83__k_15_ : h83 (k + 15) = .inr (0, [.ref (k + 16), .ref (k + 17), .ref (k + 18), .int 0, .int 0]) := by rw [e_h83, va_up_neq (nek (a := 15) (b := 54) (by decide))]; exact F_h79__k_15_
  have F_h83__k_16_ : h83 (k + 16) = .inl (1, 256, .inl (fun _ => 0)) := by rw [e_h83, va_up_neq (nek (a := 16) (b := 54) (by decide))]; exact F_h79__k_16_
  have F_h83__k_17_ : h83 (k + 17) = .inl (1, 256, .inl (fun _ => 0)) := by rw [e_h83, va_up_neq (nek (a := 17) (b := 54) (by decide))]; exact F_h79__k_17_
  have F_h83__k_18_ : h83 (k + 18) = .inl (1, 13, .inl (fun _ => 0)) := by rw [e_h83, va_up_neq (nek (a := 18) (b := 54) (by decide))]; exact F_h79__k_18_
  have F_h83__k_19_ : h83 (k + 19) = .inr (4, [.ref (k + 20), .ref (k + 21), .ref (k + 22), .ref (k + 23), .ref (k + 24)]) := by rw [e_h83, va_up_neq (nek (a := 19) (b := 54) (by decide))]; exact F_h79__k_19_
  have F_h83__k_20_ : h83 (k + 20) = .inl (1, 256, .inl (fun _ => 0)) := by rw [e_h83, va_up_neq (nek (a := 20) (b := 54) (by decide))]; exact F_h79__k_20_
  have F_h83__k_21_ : h83 (k + 21) = .inl (1, 256, .inl (fun _ => 0)) := by rw [e_h83, va_up_neq (nek (a := 21) (b := 54) (by decide))]; exact F_h79__k_21_
  have F_h83__k_22_ : h83 (k + 22) = .inl (1, 512, .inl (fun _ => 0)) := by rw [e_h83, va_up_neq (nek (a := 22) (b := 54) (by decide))]; exact F_h79__k_22_
  have F_h83__k_23_ : h83 (k + 23) = .inl (1, 512, .inl (fun _ => 0)) := by rw [e_h83, va_up_neq (nek (a := 23) (b := 54) (by decide))]; exact F_h79__k_23_
  have F_h83__k_24_ : h83 (k + 24) = .inl (1, 512, .inl (fun _ => 0)) := by rw [e_h83, va_up_neq (nek (a := 24) (b := 54) (by decide))]; exact F_h79__k_24_
  have F_h83__k_25_ : h83 (k + 25) = .inr (7, [.ref (k + 26), .int 0, .int 0, .long 0, .int 0]) := by rw [e_h83, va_up_neq (nek (a := 25) (b := 54) (by decide))]; exact F_h79__k_25_
  have F_h83__k_26_ : h83 (k + 26) = .inl (0, 256, .inl (fun _ => 0)) := by rw [e_h83, va_up_neq (nek (a := 26) (b := 54) (by decide))]; exact F_h79__k_26_
  have F_h83__k_27_ : h83 (k + 27) = .inr (1, [.ref (aBig + 3), .ref (aBig + 4), .int 9, .ref (k + 28), .ref (k + 29), .ref (k + 32), .int 0, .int 0, .int 0, .ref (k + 33), .ref (k + 40), .ref (k + 47), .ref (k + 33), .ref (k + 30), .int 0, .int 0, .int 0, .int 0]) := by rw [e_h83, va_up_neq (nek (a := 27) (b := 54) (by decide))]; exact F_h79__k_27_
  have F_h83__k_28_ : h83 (k + 28) = .inl (1, 2667, .inl (fun _ => 0)) := by rw [e_h83, va_up_neq (nek (a := 28) (b := 54) (by decide))]; exact F_h79__k_28_
  have F_h83__k_29_ : h83 (k + 29) = .inl (1, 2667, .inl (fun _ => 0)) := by rw [e_h83, va_up_neq (nek (a := 29) (b := 54) (by decide))]; exact F_h79__k_29_
  have F_h83__k_30_ : h83 (k + 30) = .inr (7, [.ref (k + 31), .int 0, .int 0, .long 0, .int 0]) := by rw [e_h83, va_up_neq (nek (a := 30) (b := 54) (by decide))]; exact F_h79__k_30_
  have F_h83__k_31_ : h83 (k + 31) = .inl (0, 128, .inl (fun _ => 0)) := by rw [e_h83, va_up_neq (nek (a := 31) (b := 54) (by decide))]; exact F_h79__k_31_
  have F_h83__k_32_ : h83 (k + 32) = .inl (1, 36, .inl (fun _ => 0)) := by rw [e_h83, va_up_neq (nek (a := 32) (b := 54) (by decide))]; exact F_h79__k_32_
  have F_h83__k_40_ : h83 (k + 40) = .inr (8, [.int 35, .ref (k + 41), .ref (k + 42), .ref (k + 43), .ref (k + 44), .ref (k + 45), .ref (k + 46), .int 0, .int 0]) := by rw [e_h83, va_up_neq (nek (a := 40) (b := 54) (by decide))]; exact F_h79__k_40_
  have F_h83__k_41_ : h83 (k + 41) = .inl (1, 36, .inl (fun _ => 0)) := by rw [e_h83, va_up_neq (nek (a := 41) (b := 54) (by decide))]; exact F_h79__k_41_
  have F_h83__k_42_ : h83 (k + 42) = .inl (1, 36, .inl (fun _ => 0)) := by rw [e_h83, va_up_neq (nek (a := 42) (b := 54) (by decide))]; exact F_h79__k_42_
  have F_h83__k_43_ : h83 (k + 43) = .inl (1, 36, .inl (fun _ => 0)) := by rw [e_h83, va_up_neq (nek (a := 43) (b := 54) (by decide))]; exact F_h79__k_43_
  have F_h83__k_44_ : h83 (k + 44) = .inl (1, 36, .inl (fun _ => 0)) := by rw [e_h83, va_up_neq (nek (a := 44) (b := 54) (by decide))]; exact F_h79__k_44_
  have F_h83__k_45_ : h83 (k + 45) = .inl (1, 512, .inl (fun _ => 0)) := by rw [e_h83, va_up_neq (nek (a := 45) (b := 54) (by decide))]; exact F_h79__k_45_
  have F_h83__k_46_ : h83 (k + 46) = .inl (1, 512, .inl (fun _ => 0)) := by rw [e_h83, va_up_neq (nek (a := 46) (b := 54) (by decide))]; exact F_h79__k_46_
  have F_h83__k_47_ : h83 (k + 47) = .inr (8, [.int 35, .ref (k + 48), .ref (k + 49), .ref (k + 50), .ref (k + 51), .ref (k + 52), .ref (k + 53), .int 0, .int 0]) := by rw [e_h83, va_up_neq (nek (a := 47) (b := 54) (by decide))]; exact F_h79__k_47_
  have F_h83__k_48_ : h83 (k + 48) = .inl (1, 36, .inl (fun _ => 0)) := by rw [e_h83, va_up_neq (nek (a := 48) (b := 54) (by decide))]; exact F_h79__k_48_
  have F_h83__k_49_ : h83 (k + 49) = .inl (1, 36, .inl (fun _ => 0)) := by rw [e_h83, va_up_neq (nek (a := 49) (b := 54) (by decide))]; exact F_h79__k_49_
  have F_h83__k_50_ : h83 (k + 50) = .inl (1, 36, .inl (fun _ => 0)) := by rw [e_h83, va_up_neq (nek (a := 50) (b := 54) (by decide))]; exact F_h79__k_50_
  have F_h83__k_51_ : h83 (k + 51) = .inl (1, 36, .inl (fun _ => 0)) := by rw [e_h83, va_up_neq (nek (a := 51) (b := 54) (by decide))]; exact F_h79__k_51_
  have F_h83__k_52_ : h83 (k + 52) = .inl (1, 512, .inl (fun _ => 0)) := by rw [e_h83, va_up_neq (nek (a := 52) (b := 54) (by decide))]; exact F_h79__k_52_
  have F_h83__k_53_ : h83 (k + 53) = .inl (1, 512, .inl (fun _ => 0)) := by rw [e_h83, va_up_neq (nek (a := 53) (b := 54) (by decide))]; exact F_h79__k_53_
  have F_h83__k_33_ : h83 (k + 33) = .inr (8, [.int 35, .ref (k + 34), .ref (k + 35), .ref (k + 36), .ref (k + 37), .ref (k + 38), .ref (k + 39), .int 6, .int 1]) := by rw [e_h83, va_up_neq (nek (a := 33) (b := 54) (by decide))]; exact F_h79__k_33_
  have F_h83__k_34_ : h83 (k + 34) = .inl (1, 36, .inl pA) := by rw [e_h83, va_up_neq (nek (a := 34) (b := 54) (by decide))]; exact F_h79__k_34_
  have F_h83__k_35_ : h83 (k + 35) = .inl (1, 36, .inl (fun _ => 0)) := by rw [e_h83, va_up_neq (nek (a := 35) (b := 54) (by decide))]; exact F_h79__k_35_
  have F_h83__k_36_ : h83 (k + 36) = .inl (1, 36, .inl fA) := by rw [e_h83, va_up_neq (nek (a := 36) (b := 54) (by decide))]; exact F_h79__k_36_
  have F_h83__k_37_ : h83 (k + 37) = .inl (1, 36, .inl wA) := by rw [e_h83, va_up_neq (nek (a := 37) (b := 54) (by decide))]; exact F_h79__k_37_
  have F_h83__k_38_ : h83 (k + 38) = .inl (1, 512, .inl oA) := by rw [e_h83, va_up_neq (nek (a := 38) (b := 54) (by decide))]; exact F_h79__k_38_
  have F_h83__k_39_ : h83 (k + 39) = .inl (1, 512, .inl sA) := by rw [e_h83, va_up_neq (nek (a := 39) (b := 54) (by decide))]; exact F_h79__k_39_
  have F_h83__k_54_ : h83 (k + 54) = .inr (1, zX1) := by rw [e_h83]; exact va_up_eq
  have FR_h83 : ∀ j, j < k ∨ aBig ≤ j → h83 j = h j := fun j hj => by rw [e_h83]; exact (va_up_neq (frne (a := 54) hj hbig (by decide))).trans (FR_h79 j hj)
  clear F_h79_k F_h79__k_1_ F_h79__k_2_ F_h79__k_3_ F_h79__k_4_ F_h79__k_5_ F_h79__k_6_ F_h79__k_7_ F_h79__k_8_ F_h79__k_9_ F_h79__k_10_ F_h79__k_11_ F_h79__k_12_ F_h79__k_13_ F_h79__k_14_ F_h79__k_15_ F_h79__k_16_ F_h79__k_17_ F_h79__k_18_ F_h79__k_19_ F_h79__k_20_ F_h79__k_21_ F_h79__k_22_ F_h79__k_23_ F_h79__k_24_ F_h79__k_25_ F_h79__k_26_ F_h79__k_27_ F_h79__k_28_ F_h79__k_29_ F_h79__k_30_ F_h79__k_31_ F_h79__k_32_ F_h79__k_40_ F_h79__k_41_ F_h79__k_42_ F_h79__k_43_ F_h79__k_44_ F_h79__k_45_ F_h79__k_46_ F_h79__k_47_ F_h79__k_48_ F_h79__k_49_ F_h79__k_50_ F_h79__k_51_ F_h79__k_52_ F_h79__k_53_ F_h79__k_33_ F_h79__k_34_ F_h79__k_35_ F_h79__k_36_ F_h79__k_37_ F_h79__k_38_ F_h79__k_39_ FR_h79 e_h83
  clear h79
  refine WX.s1 rfl rfl ?_
  refine WX.s1 rfl rfl ?_
  refine WX.s1 rfl rfl ?_
  refine WX.s1 rfl rfl ?_
  refine WX.s1 rfl rfl ?_
  refine WX.callC (vs := [.ref (k + 54), .ref (aBig + 5), .ref (aBig + 6), .int 31, .int 8]) rfl rfl rfl (Nat.le_of_ble_eq_true rfl) (rcv_ok (ltk (a := 54) (c := 55) (by decide)) F_h83__k_54_) ?_
  refine n_col_31_8 (k := k + 54) (bigk (k := k) (a := 82) hbig (by decide)) F_h83__k_54_ (fun h97 fr97 cs97 => ?_)
  have F_h97_k : h97 k = .inr (6, [.ref (k + 1), .ref (k + 8), .ref (k + 27), .null, .null, .ref (k + 5), .ref (k + 6), .int 0, .ref (k + 7)]) := (fr97 k (Or.inl (ltk0 (c := 54) (by decide)))).trans F_h83_k
  have F_h97__k_1_ : h97 (k + 1) = .inr (3, [.ref (k + 2), .int 0, .ref (k + 3), .ref (k + 4), .int 0, .int 0, .int 0, .int 0, .int 0, .int 0, .int 0, .int 0, .int 0]) := (fr97 (k + 1) (Or.inl (ltk (a := 1) (c := 54) (by decide)))).trans F_h83__k_1_
  have F_h97__k_2_ : h97 (k + 2) = .inl (0, 16000, .inl (fun _ => 0)) := (fr97 (k + 2) (Or.inl (ltk (a := 2) (c := 54) (by decide)))).trans F_h83__k_2_
  have F_h97__k_3_ : h97 (k + 3) = .inl (1, 16000, .inl (fun _ => 0)) := (fr97 (k + 3) (Or.inl (ltk (a := 3) (c := 54) (by decide)))).trans F_h83__k_3_
  have F_h97__k_4_ : h97 (k + 4) = .inl (1, 4096, .inl (fun _ => 0)) := (fr97 (k + 4) (Or.inl (ltk (a := 4) (c := 54) (by decide)))).trans F_h83__k_4_
  have F_h97__k_5_ : h97 (k + 5) = .inl (1, 3, .inl (fun _ => 0)) := (fr97 (k + 5) (Or.inl (ltk (a := 5) (c := 54) (by decide)))).trans F_h83__k_5_
  have F_h97__k_6_ : h97 (k + 6) = .inl (1, 3, .inl (fun _ => 0)) := (fr97 (k + 6) (Or.inl (ltk (a := 6) (c := 54) (by decide)))).trans F_h83__k_6_
  have F_h97__k_7_ : h97 (k + 7) = .inl (1, 12, .inl (fun _ => 0)) := (fr97 (k + 7) (Or.inl (ltk (a := 7) (c := 54) (by decide)))).trans F_h83__k_7_
  have F_h97__k_8_ : h97 (k + 8) = .inr (5, [.ref (k + 9), .ref (k + 10), .int 0, .ref (k + 11), .ref (k + 15), .ref (k + 19), .ref q, .ref (k + 25), .int 0, .int 0, .int 0, .int 0]) := (fr97 (k + 8) (Or.inl (ltk (a := 8) (c := 54) (by decide)))).trans F_h83__k_8_
  have F_h97__k_9_ : h97 (k + 9) = .inl (0, 8000, .inl (fun _ => 0)) := (fr97 (k + 9) (Or.inl (ltk (a := 9) (c := 54) (by decide)))).trans F_h83__k_9_
  have F_h97__k_10_ : h97 (k + 10) = .inl (1, 256, .inl (fun _ => 0)) := (fr97 (k + 10) (Or.inl (ltk (a := 10) (c := 54) (by decide)))).trans F_h83__k_10_
  have F_h97__k_11_ : h97 (k + 11) = .inr (0, [.ref (k + 12), .ref (k + 13), .ref (k + 14), .int 0, .int 0]) := (fr97 (k + 11) (Or.inl (ltk (a := 11) (c := 54) (by decide)))).trans F_h83__k_11_
  have F_h97__k_12_ : h97 (k + 12) = .inl (1, 256, .inl (fun _ => 0)) := (fr97 (k + 12) (Or.inl (ltk (a := 12) (c := 54) (by decide)))).trans F_h83__k_12_
  have F_h97__k_13_ : h97 (k + 13) = .inl (1, 256, .inl (fun _ => 0)) := (fr97 (k + 13) (Or.inl (ltk (a := 13) (c := 54) (by decide)))).trans F_h83__k_13_
  have F_h97__k_14_ : h97 (k + 14) = .inl (1, 13, .inl (fun _ => 0)) := (fr97 (k + 14) (Or.inl (ltk (a := 14) (c := 54) (by decide)))).trans F_h83__k_14_
  have F_h97__k_15_ : h97 (k + 15) = .inr (0, [.ref (k + 16), .ref (k + 17), .ref (k + 18), .int 0, .int 0]) := (fr97 (k + 15) (Or.inl (ltk (a := 15) (c := 54) (by decide)))).trans F_h83__k_15_
  have F_h97__k_16_ : h97 (k + 16) = .inl (1, 256, .inl (fun _ => 0)) := (fr97 (k + 16) (Or.inl (ltk (a := 16) (c := 54) (by decide)))).trans F_h83__k_16_
  have F_h97__k_17_ : h97 (k + 17) = .inl (1, 256, .inl (fun _ => 0)) := (fr97 (k + 17) (Or.inl (ltk (a := 17) (c := 54) (by decide)))).trans F_h83__k_17_
  have F_h97__k_18_ : h97 (k + 18) = .inl (1, 13, .inl (fun _ => 0)) := (fr97 (k + 18) (Or.inl (ltk (a := 18) (c := 54) (by decide)))).trans F_h83__k_18_
  have F_h97__k_19_ : h97 (k + 19) = .inr (4, [.ref (k + 20), .ref (k + 21), .ref (k + 22), .ref (k + 23), .ref (k + 24)]) := (fr97 (k + 19) (Or.inl (ltk (a := 19) (c := 54) (by decide)))).trans F_h83__k_19_
  have F_h97__k_20_ : h97 (k + 20) = .inl (1, 256, .inl (fun _ => 0)) := (fr97 (k + 20) (Or.inl (ltk (a := 20) (c := 54) (by decide)))).trans F_h83__k_20_
  have F_h97__k_21_ : h97 (k + 21) = .inl (1, 256, .inl (fun _ => 0)) := (fr97 (k + 21) (Or.inl (ltk (a := 21) (c := 54) (by decide)))).trans F_h83__k_21_
  have F_h97__k_22_ : h97 (k + 22) = .inl (1, 512, .inl (fun _ => 0)) := (fr97 (k + 22) (Or.inl (ltk (a := 22) (c := 54) (by decide)))).trans F_h83__k_22_
  have F_h97__k_23_ : h97 (k + 23) = .inl (1, 512, .inl (fun _ => 0)) := (fr97 (k + 23) (Or.inl (ltk (a := 23) (c := 54) (by decide)))).trans F_h83__k_23_
  have F_h97__k_24_ : h97 (k + 24) = .inl (1, 512, .inl (fun _ => 0)) := (fr97 (k + 24) (Or.inl (ltk (a := 24) (c := 54) (by decide)))).trans F_h83__k_24_
  have F_h97__k_25_ : h97 (k + 25) = .inr (7, [.ref (k + 26), .int 0, .int 0, .long 0, .int 0]) := (fr97 (k + 25) (Or.inl (ltk (a := 25) (c := 54) (by decide)))).trans F_h83__k_25_
  have F_h97__k_26_ : h97 (k + 26) = .inl (0, 256, .inl (fun _ => 0)) := (fr97 (k + 26) (Or.inl (ltk (a := 26) (c := 54) (by decide)))).trans F_h83__k_26_
  have F_h97__k_27_ : h97 (k + 27) = .inr (1, [.ref (aBig + 3), .ref (aBig + 4), .int 9, .ref (k + 28), .ref (k + 29), .ref (k + 32), .int 0, .int 0, .int 0, .ref (k + 33), .ref (k + 40), .ref (k + 47), .ref (k + 33), .ref (k + 30), .int 0, .int 0, .int 0, .int 0]) := (fr97 (k + 27) (Or.inl (ltk (a := 27) (c := 54) (by decide)))).trans F_h83__k_27_
  have F_h97__k_28_ : h97 (k + 28) = .inl (1, 2667, .inl (fun _ => 0)) := (fr97 (k + 28) (Or.inl (ltk (a := 28) (c := 54) (by decide)))).trans F_h83__k_28_
  have F_h97__k_29_ : h97 (k + 29) = .inl (1, 2667, .inl (fun _ => 0)) := (fr97 (k + 29) (Or.inl (ltk (a := 29) (c := 54) (by decide)))).trans F_h83__k_29_
  have F_h97__k_30_ : h97 (k + 30) = .inr (7, [.ref (k + 31), .int 0, .int 0, .long 0, .int 0]) := (fr97 (k + 30) (Or.inl (ltk (a := 30) (c := 54) (by decide)))).trans F_h83__k_30_
  have F_h97__k_31_ : h97 (k + 31) = .inl (0, 128, .inl (fun _ => 0)) := (fr97 (k + 31) (Or.inl (ltk (a := 31) (c := 54) (by decide)))).trans F_h83__k_31_
  have F_h97__k_32_ : h97 (k + 32) = .inl (1, 36, .inl (fun _ => 0)) := (fr97 (k + 32) (Or.inl (ltk (a := 32) (c := 54) (by decide)))).trans F_h83__k_32_
  have F_h97__k_40_ : h97 (k + 40) = .inr (8, [.int 35, .ref (k + 41), .ref (k + 42), .ref (k + 43), .ref (k + 44), .ref (k + 45), .ref (k + 46), .int 0, .int 0]) := (fr97 (k + 40) (Or.inl (ltk (a := 40) (c := 54) (by decide)))).trans F_h83__k_40_
  have F_h97__k_41_ : h97 (k + 41) = .inl (1, 36, .inl (fun _ => 0)) := (fr97 (k + 41) (Or.inl (ltk (a := 41) (c := 54) (by decide)))).trans F_h83__k_41_
  have F_h97__k_42_ : h97 (k + 42) = .inl (1, 36, .inl (fun _ => 0)) := (fr97 (k + 42) (Or.inl (ltk (a := 42) (c := 54) (by decide)))).trans F_h83__k_42_
  have F_h97__k_43_ : h97 (k + 43) = .inl (1, 36, .inl (fun _ => 0)) := (fr97 (k + 43) (Or.inl (ltk (a := 43) (c := 54) (by decide)))).trans F_h83__k_43_
  have F_h97__k_44_ : h97 (k + 44) = .inl (1, 36, .inl (fun _ => 0)) := (fr97 (k + 44) (Or.inl (ltk (a := 44) (c := 54) (by decide)))).trans F_h83__k_44_
  have F_h97__k_45_ : h97 (k + 45) = .inl (1, 512, .inl (fun _ => 0)) := (fr97 (k + 45) (Or.inl (ltk (a := 45) (c := 54) (by decide)))).trans F_h83__k_45_
  have F_h97__k_46_ : h97 (k + 46) = .inl (1, 512, .inl (fun _ => 0)) := (fr97 (k + 46) (Or.inl (ltk (a := 46) (c := 54) (by decide)))).trans F_h83__k_46_
  have F_h97__k_47_ : h97 (k + 47) = .inr (8, [.int 35, .ref (k + 48), .ref (k + 49), .ref (k + 50), .ref (k + 51), .ref (k + 52), .ref (k + 53), .int 0, .int 0]) := (fr97 (k + 47) (Or.inl (ltk (a := 47) (c := 54) (by decide)))).trans F_h83__k_47_
  have F_h97__k_48_ : h97 (k + 48) = .inl (1, 36, .inl (fun _ => 0)) := (fr97 (k + 48) (Or.inl (ltk (a := 48) (c := 54) (by decide)))).trans F_h83__k_48_
  have F_h97__k_49_ : h97 (k + 49) = .inl (1, 36, .inl (fun _ => 0)) := (fr97 (k + 49) (Or.inl (ltk (a := 49) (c := 54) (by decide)))).trans F_h83__k_49_
  have F_h97__k_50_ : h97 (k + 50) = .inl (1, 36, .inl (fun _ => 0)) := (fr97 (k + 50) (Or.inl (ltk (a := 50) (c := 54) (by decide)))).trans F_h83__k_50_
  have F_h97__k_51_ : h97 (k + 51) = .inl (1, 36, .inl (fun _ => 0)) := (fr97 (k + 51) (Or.inl (ltk (a := 51) (c := 54) (by decide)))).trans F_h83__k_51_
  have F_h97__k_52_ : h97 (k + 52) = .inl (1, 512, .inl (fun _ => 0)) := (fr97 (k + 52) (Or.inl (ltk (a := 52) (c := 54) (by decide)))).trans F_h83__k_52_
  have F_h97__k_53_ : h97 (k + 53) = .inl (1, 512, .inl (fun _ => 0)) := (fr97 (k + 53) (Or.inl (ltk (a := 53) (c := 54) (by decide)))).trans F_h83__k_53_
  have F_h97__k_33_ : h97 (k + 33) = .inr (8, [.int 35, .ref (k + 34), .ref (k + 35), .ref (k + 36), .ref (k + 37), .ref (k + 38), .ref (k + 39), .int 6, .int 1]) := (fr97 (k + 33) (Or.inl (ltk (a := 33) (c := 54) (by decide)))).trans F_h83__k_33_
  have F_h97__k_34_ : h97 (k + 34) = .inl (1, 36, .inl pA) := (fr97 (k + 34) (Or.inl (ltk (a := 34) (c := 54) (by decide)))).trans F_h83__k_34_
  have F_h97__k_35_ : h97 (k + 35) = .inl (1, 36, .inl (fun _ => 0)) := (fr97 (k + 35) (Or.inl (ltk (a := 35) (c := 54) (by decide)))).trans F_h83__k_35_
  have F_h97__k_36_ : h97 (k + 36) = .inl (1, 36, .inl fA) := (fr97 (k + 36) (Or.inl (ltk (a := 36) (c := 54) (by decide)))).trans F_h83__k_36_
  have F_h97__k_37_ : h97 (k + 37) = .inl (1, 36, .inl wA) := (fr97 (k + 37) (Or.inl (ltk (a := 37) (c := 54) (by decide)))).trans F_h83__k_37_
  have F_h97__k_38_ : h97 (k + 38) = .inl (1, 512, .inl oA) := (fr97 (k + 38) (Or.inl (ltk (a := 38) (c := 54) (by decide)))).trans F_h83__k_38_
  have F_h97__k_39_ : h97 (k + 39) = .inl (1, 512, .inl sA) := (fr97 (k + 39) (Or.inl (ltk (a := 39) (c := 54) (by decide)))).trans F_h83__k_39_
  have F_h97__k_54_ : h97 (k + 54) = .inr (1, [.ref (aBig + 5), .ref (aBig + 6), .int 8, .ref (k + 55), .ref (k + 56), .ref (k + 59), .int 0, .int 0, .int 0, .ref (k + 60), .ref (k + 67), .ref (k + 74), .ref (k + 60), .ref (k + 57), .int 0, .int 0, .int 0, .int 0]) := cs97.1
  have F_h97__k_55_ : h97 (k + 55) = .inl (1, 2667, .inl (fun _ => 0)) := cs97.2.1
  have F_h97__k_56_ : h97 (k + 56) = .inl (1, 2667, .inl (fun _ => 0)) := cs97.2.2.1
  have F_h97__k_57_ : h97 (k + 57) = .inr (7, [.ref (k + 58), .int 0, .int 0, .long 0, .int 0]) := cs97.2.2.2.1
  have F_h97__k_58_ : h97 (k + 58) = .inl (0, 128, .inl (fun _ => 0)) := cs97.2.2.2.2.1
  have F_h97__k_59_ : h97 (k + 59) = .inl (1, 32, .inl (fun _ => 0)) := cs97.2.2.2.2.2.1
  have F_h97__k_60_ : h97 (k + 60) = .inr (8, [.int 31, .ref (k + 61), .ref (k + 62), .ref (k + 63), .ref (k + 64), .ref (k + 65), .ref (k + 66), .int 0, .int 0]) := cs97.2.2.2.2.2.2.1
  have F_h97__k_61_ : h97 (k + 61) = .inl (1, 32, .inl (fun _ => 0)) := cs97.2.2.2.2.2.2.2.1
  have F_h97__k_62_ : h97 (k + 62) = .inl (1, 32, .inl (fun _ => 0)) := cs97.2.2.2.2.2.2.2.2.1
  have F_h97__k_63_ : h97 (k + 63) = .inl (1, 32, .inl (fun _ => 0)) := cs97.2.2.2.2.2.2.2.2.2.1
  have F_h97__k_64_ : h97 (k + 64) = .inl (1, 32, .inl (fun _ => 0)) := cs97.2.2.2.2.2.2.2.2.2.2.1
  have F_h97__k_65_ : h97 (k + 65) = .inl (1, 256, .inl (fun _ => 0)) := cs97.2.2.2.2.2.2.2.2.2.2.2.1
  have F_h97__k_66_ : h97 (k + 66) = .inl (1, 256, .inl (fun _ => 0)) := cs97.2.2.2.2.2.2.2.2.2.2.2.2.1
  have F_h97__k_67_ : h97 (k + 67) = .inr (8, [.int 31, .ref (k + 68), .ref (k + 69), .ref (k + 70), .ref (k + 71), .ref (k + 72), .ref (k + 73), .int 0, .int 0]) := cs97.2.2.2.2.2.2.2.2.2.2.2.2.2.1
  have F_h97__k_68_ : h97 (k + 68) = .inl (1, 32, .inl (fun _ => 0)) := cs97.2.2.2.2.2.2.2.2.2.2.2.2.2.2.1
  have F_h97__k_69_ : h97 (k + 69) = .inl (1, 32, .inl (fun _ => 0)) := cs97.2.2.2.2.2.2.2.2.2.2.2.2.2.2.2.1
  have F_h97__k_70_ : h97 (k + 70) = .inl (1, 32, .inl (fun _ => 0)) := cs97.2.2.2.2.2.2.2.2.2.2.2.2.2.2.2.2.1
  have F_h97__k_71_ : h97 (k + 71) = .inl (1, 32, .inl (fun _ => 0)) := cs97.2.2.2.2.2.2.2.2.2.2.2.2.2.2.2.2.2.1
  have F_h97__k_72_ : h97 (k + 72) = .inl (1, 256, .inl (fun _ => 0)) := cs97.2.2.2.2.2.2.2.2.2.2.2.2.2.2.2.2.2.2.1
  have F_h97__k_73_ : h97 (k + 73) = .inl (1, 256, .inl (fun _ => 0)) := cs97.2.2.2.2.2.2.2.2.2.2.2.2.2.2.2.2.2.2.2.1
  have F_h97__k_74_ : h97 (k + 74) = .inr (8, [.int 31, .ref (k + 75), .ref (k + 76), .ref (k + 77), .ref (k + 78), .ref (k + 79), .ref (k + 80), .int 0, .int 0]) := cs97.2.2.2.2.2.2.2.2.2.2.2.2.2.2.2.2.2.2.2.2.1
  have F_h97__k_75_ : h97 (k + 75) = .inl (1, 32, .inl (fun _ => 0)) := cs97.2.2.2.2.2.2.2.2.2.2.2.2.2.2.2.2.2.2.2.2.2.1
  have F_h97__k_76_ : h97 (k + 76) = .inl (1, 32, .inl (fun _ => 0)) := cs97.2.2.2.2.2.2.2.2.2.2.2.2.2.2.2.2.2.2.2.2.2.2.1
  have F_h97__k_77_ : h97 (k + 77) = .inl (1, 32, .inl (fun _ => 0)) := cs97.2.2.2.2.2.2.2.2.2.2.2.2.2.2.2.2.2.2.2.2.2.2.2.1
  have F_h97__k_78_ : h97 (k + 78) = .inl (1, 32, .inl (fun _ => 0)) := cs97.2.2.2.2.2.2.2.2.2.2.2.2.2.2.2.2.2.2.2.2.2.2.2.2.1
  have F_h97__k_79_ : h97 (k + 79) = .inl (1, 256, .inl (fun _ => 0)) := cs97.2.2.2.2.2.2.2.2.2.2.2.2.2.2.2.2.2.2.2.2.2.2.2.2.2.1
  have F_h97__k_80_ : h97 (k + 80) = .inl (1, 256, .inl (fun _ => 0)) := cs97.2.2.2.2.2.2.2.2.2.2.2.2.2.2.2.2.2.2.2.2.2.2.2.2.2.2.1
  have FR_h97 : ∀ j, j < k ∨ aBig ≤ j → h97 j = h j := fun j hj => (fr97 j (hj.imp (fun z => Nat.lt_of_lt_of_le z (Nat.le_add_right _ _)) (fun z => z))).trans (FR_h83 j hj)
  clear F_h83_k F_h83__k_1_ F_h83__k_2_ F_h83__k_3_ F_h83__k_4_ F_h83__k_5_ F_h83__k_6_ F_h83__k_7_ F_h83__k_8_ F_h83__k_9_ F_h83__k_10_ F_h83__k_11_ F_h83__k_12_ F_h83__k_13_ F_h83__k_14_ F_h83__k_15_ F_h83__k_16_ F_h83__k_17_ F_h83__k_18_ F_h83__k_19_ F_h83__k_20_ F_h83__k_21_ F_h83__k_22_ F_h83__k_23_ F_h83__k_24_ F_h83__k_25_ F_h83__k_26_ F_h83__k_27_ F_h83__k_28_ F_h83__k_29_ F_h83__k_30_ F_h83__k_31_ F_h83__k_32_ F_h83__k_40_ F_h83__k_41_ F_h83__k_42_ F_h83__k_43_ F_h83__k_44_ F_h83__k_45_ F_h83__k_46_ F_h83__k_47_ F_h83__k_48_ F_h83__k_49_ F_h83__k_50_ F_h83__k_51_ F_h83__k_52_ F_h83__k_53_ F_h83__k_33_ F_h83__k_34_ F_h83__k_35_ F_h83__k_36_ F_h83__k_37_ F_h83__k_38_ F_h83__k_39_ F_h83__k_54_ FR_h83 fr97 cs97
  clear h83
  show WX _ _ _ 100 [(0, .ref k), (1, .ref q)] [.ref (k + 54), .ref k] (k + 81, s + 13 + 36096 + 3 + 3 + 12 + 12 + 11630 + 18 + 9034 + 18 + 7446, h97)
  refine WX.put1 (fs := [.ref (k + 1), .ref (k + 8), .ref (k + 27), .null, .null, .ref (k + 5), .ref (k + 6), .int 0, .ref (k + 7)]) (fs' := [.ref (k + 1), .ref (k + 8), .ref (k + 27), .ref (k + 54), .null, .ref (k + 5), .ref (k + 6), .int 0, .ref (k + 7)]) rfl (ltk0 (c := 81) (by decide)) (F_h97_k) (Nat.le_of_ble_eq_true rfl) (rfl) rfl (fun h100 e_h100 => ?_)
  have F_h100_k : h100 k = .inr (6, [.ref (k + 1), .ref (k + 8), .ref (k + 27), .ref (k + 54), .null, .ref (k + 5), .ref (k + 6), .int 0, .ref (k + 7)]) := by rw [e_h100]; exact va_up_eq
  have F_h100__k_1_ : h100 (k + 1) = .inr (3, [.ref (k + 2), .int 0, .ref (k + 3), .ref (k + 4), .int 0, .int 0, .int 0, .int 0, .int 0, .int 0, .int 0, .int 0, .int 0]) := by rw [e_h100, va_up_neq (nek0 (a := 1) (by decide))]; exact F_h97__k_1_
  have F_h100__k_2_ : h100 (k + 2) = .inl (0, 16000, .inl (fun _ => 0)) := by rw [e_h100, va_up_neq (nek0 (a := 2) (by decide))]; exact F_h97__k_2_
  have F_h100__k_3_ : h100 (k + 3) = .inl (1, 16000, .inl (fun _ => 0)) := by rw [e_h100, va_up_neq (nek0 (a := 3) (by decide))]; exact F_h97__k_3_
  have F_h100__k_4_ : h100 (k + 4) = .inl (1, 4096, .inl (fun _ => 0)) := by rw [e_h100, va_up_neq (nek0 (a := 4) (by decide))]; exact F_h97__k_4_
  have F_h100__k_5_ : h100 (k + 5) = .inl (1, 3, .inl (fun _ => 0)) := by rw [e_h100, va_up_neq (nek0 (a := 5) (by decide))]; exact F_h97__k_5_
  have F_h100__k_6_ : h100 (k + 6) = .inl (1, 3, .inl (fun _ => 0)) := by rw [e_h100, va_up_neq (nek0 (a := 6) (by decide))]; exact F_h97__k_6_
  have F_h100__k_7_ : h100 (k + 7) = .inl (1, 12, .inl (fun _ => 0)) := by rw [e_h100, va_up_neq (nek0 (a := 7) (by decide))]; exact F_h97__k_7_
  have F_h100__k_8_ : h100 (k + 8) = .inr (5, [.ref (k + 9), .ref (k + 10), .int 0, .ref (k + 11), .ref (k + 15), .ref (k + 19), .ref q, .ref (k + 25), .int 0, .int 0, .int 0, .int 0]) := by rw [e_h100, va_up_neq (nek0 (a := 8) (by decide))]; exact F_h97__k_8_
  have F_h100__k_9_ : h100 (k + 9) = .inl (0, 8000, .inl (fun _ => 0)) := by rw [e_h100, va_up_neq (nek0 (a := 9) (by decide))]; exact F_h97__k_9_
  have F_h100__k_10_ : h100 (k + 10) = .inl (1, 256, .inl (fun _ => 0)) := by rw [e_h100, va_up_neq (nek0 (a := 10) (by decide))]; exact F_h97__k_10_
  have F_h100__k_11_ : h100 (k + 11) = .inr (0, [.ref (k + 12), .ref (k + 13), .ref (k + 14), .int 0, .int 0]) := by rw [e_h100, va_up_neq (nek0 (a := 11) (by decide))]; exact F_h97__k_11_
  have F_h100__k_12_ : h100 (k + 12) = .inl (1, 256, .inl (fun _ => 0)) := by rw [e_h100, va_up_neq (nek0 (a := 12) (by decide))]; exact F_h97__k_12_
  have F_h100__k_13_ : h100 (k + 13) = .inl (1, 256, .inl (fun _ => 0)) := by rw [e_h100, va_up_neq (nek0 (a := 13) (by decide))]; exact F_h97__k_13_
  have F_h100__k_14_ : h100 (k + 14) = .inl (1, 13, .inl (fun _ => 0)) := by rw [e_h100, va_up_neq (nek0 (a := 14) (by decide))]; exact F_h97__k_14_
  have F_h100__k_15_ : h100 (k + 15) = .inr (0, [.ref (k + 16), .ref (k + 17), .ref (k + 18), .int 0, .int 0]) := by rw [e_h100, va_up_neq (nek0 (a := 15) (by decide))]; exact F_h97__k_15_
  have F_h100__k_16_ : h100 (k + 16) = .inl (1, 256, .inl (fun _ => 0)) := by rw [e_h100, va_up_neq (nek0 (a := 16) (by decide))]; exact F_h97__k_16_
  have F_h100__k_17_ : h100 (k + 17) = .inl (1, 256, .inl (fun _ => 0)) := by rw [e_h100, va_up_neq (nek0 (a := 17) (by decide))]; exact F_h97__k_17_
  have F_h100__k_18_ : h100 (k + 18) = .inl (1, 13, .inl (fun _ => 0)) := by rw [e_h100, va_up_neq (nek0 (a := 18) (by decide))]; exact F_h97__k_18_
  have F_h100__k_19_ : h100 (k + 19) = .inr (4, [.ref (k + 20), .ref (k + 21), .ref (k + 22), .ref (k + 23), .ref (k + 24)]) := by rw [e_h100, va_up_neq (nek0 (a := 19) (by decide))]; exact F_h97__k_19_
  have F_h100__k_20_ : h100 (k + 20) = .inl (1, 256, .inl (fun _ => 0)) := by rw [e_h100, va_up_neq (nek0 (a := 20) (by decide))]; exact F_h97__k_20_
  have F_h100__k_21_ : h100 (k + 21) = .inl (1, 256, .inl (fun _ => 0)) := by rw [e_h100, va_up_neq (nek0 (a := 21) (by decide))]; exact F_h97__k_21_
  have F_h100__k_22_ : h100 (k + 22) = .inl (1, 512, .inl (fun _ => 0)) := by rw [e_h100, va_up_neq (nek0 (a := 22) (by decide))]; exact F_h97__k_22_
  have F_h100__k_23_ : h100 (k + 23) = .inl (1, 512, .inl (fun _ => 0)) := by rw [e_h100, va_up_neq (nek0 (a := 23) (by decide))]; exact F_h97__k_23_
  have F_h100__k_24_ : h100 (k + 24) = .inl (1, 512, .inl (fun _ => 0)) := by rw [e_h100, va_up_neq (nek0 (a := 24) (by decide))]; exact F_h97__k_24_
  have F_h100__k_25_ : h100 (k + 25) = .inr (7, [.ref (k + 26), .int 0, .int 0, .long 0, .int 0]) := by rw [e_h100, va_up_neq (nek0 (a := 25) (by decide))]; exact F_h97__k_25_
  have F_h100__k_26_ : h100 (k + 26) = .inl (0, 256, .inl (fun _ => 0)) := by rw [e_h100, va_up_neq (nek0 (a := 26) (by decide))]; exact F_h97__k_26_
  have F_h100__k_27_ : h100 (k + 27) = .inr (1, [.ref (aBig + 3), .ref (aBig + 4), .int 9, .ref (k + 28), .ref (k + 29), .ref (k + 32), .int 0, .int 0, .int 0, .ref (k + 33), .ref (k + 40), .ref (k + 47), .ref (k + 33), .ref (k + 30), .int 0, .int 0, .int 0, .int 0]) := by rw [e_h100, va_up_neq (nek0 (a := 27) (by decide))]; exact F_h97__k_27_
  have F_h100__k_28_ : h100 (k + 28) = .inl (1, 2667, .inl (fun _ => 0)) := by rw [e_h100, va_up_neq (nek0 (a := 28) (by decide))]; exact F_h97__k_28_
  have F_h100__k_29_ : h100 (k + 29) = .inl (1, 2667, .inl (fun _ => 0)) := by rw [e_h100, va_up_neq (nek0 (a := 29) (by decide))]; exact F_h97__k_29_
  have F_h100__k_30_ : h100 (k + 30) = .inr (7, [.ref (k + 31), .int 0, .int 0, .long 0, .int 0]) := by rw [e_h100, va_up_neq (nek0 (a := 30) (by decide))]; exact F_h97__k_30_
  have F_h100__k_31_ : h100 (k + 31) = .inl (0, 128, .inl (fun _ => 0)) := by rw [e_h100, va_up_neq (nek0 (a := 31) (by decide))]; exact F_h97__k_31_
  have F_h100__k_32_ : h100 (k + 32) = .inl (1, 36, .inl (fun _ => 0)) := by rw [e_h100, va_up_neq (nek0 (a := 32) (by decide))]; exact F_h97__k_32_
  have F_h100__k_40_ : h100 (k + 40) = .inr (8, [.int 35, .ref (k + 41), .ref (k + 42), .ref (k + 43), .ref (k + 44), .ref (k + 45), .ref (k + 46), .int 0, .int 0]) := by rw [e_h100, va_up_neq (nek0 (a := 40) (by decide))]; exact F_h97__k_40_
  have F_h100__k_41_ : h100 (k + 41) = .inl (1, 36, .inl (fun _ => 0)) := by rw [e_h100, va_up_neq (nek0 (a := 41) (by decide))]; exact F_h97__k_41_
  have F_h100__k_42_ : h100 (k + 42) = .inl (1, 36, .inl (fun _ => 0)) := by rw [e_h100, va_up_neq (nek0 (a := 42) (by decide))]; exact F_h97__k_42_
  have F_h100__k_43_ : h100 (k + 43) = .inl (1, 36, .inl (fun _ => 0)) := by rw [e_h100, va_up_neq (nek0 (a := 43) (by decide))]; exact F_h97__k_43_
  have F_h100__k_44_ : h100 (k + 44) = .inl (1, 36, .inl (fun _ => 0)) := by rw [e_h100, va_up_neq (nek0 (a := 44) (by decide))]; exact F_h97__k_44_
  have F_h100__k_45_ : h100 (k + 45) = .inl (1, 512, .inl (fun _ => 0)) := by rw [e_h100, va_up_neq (nek0 (a := 45) (by decide))]; exact F_h97__k_45_
  have F_h100__k_46_ : h100 (k + 46) = .inl (1, 512, .inl (fun _ => 0)) := by rw [e_h100, va_up_neq (nek0 (a := 46) (by decide))]; exact F_h97__k_46_
  have F_h100__k_47_ : h100 (k + 47) = .inr (8, [.int 35, .ref (k + 48), .ref (k + 49), .ref (k + 50), .ref (k + 51), .ref (k + 52), .ref (k + 53), .int 0, .int 0]) := by rw [e_h100, va_up_neq (nek0 (a := 47) (by decide))]; exact F_h97__k_47_
  have F_h100__k_48_ : h100 (k + 48) = .inl (1, 36, .inl (fun _ => 0)) := by rw [e_h100, va_up_neq (nek0 (a := 48) (by decide))]; exact F_h97__k_48_
  have F_h100__k_49_ : h100 (k + 49) = .inl (1, 36, .inl (fun _ => 0)) := by rw [e_h100, va_up_neq (nek0 (a := 49) (by decide))]; exact F_h97__k_49_
  have F_h100__k_50_ : h100 (k + 50) = .inl (1, 36, .inl (fun _ => 0)) := by rw [e_h100, va_up_neq (nek0 (a := 50) (by decide))]; exact F_h97__k_50_
  have F_h100__k_51_ : h100 (k + 51) = .inl (1, 36, .inl (fun _ => 0)) := by rw [e_h100, va_up_neq (nek0 (a := 51) (by decide))]; exact F_h97__k_51_
  have F_h100__k_52_ : h100 (k + 52) = .inl (1, 512, .inl (fun _ => 0)) := by rw [e_h100, va_up_neq (nek0 (a := 52) (by decide))]; exact F_h97__k_52_
  have F_h100__k_53_ : h100 (k + 53) = .inl (1, 512, .inl (fun _ => 0)) := by rw [e_h100, va_up_neq (nek0 (a := 53) (by decide))]; exact F_h97__k_53_
  have F_h100__k_33_ : h100 (k + 33) = .inr (8, [.int 35, .ref (k + 34), .ref (k + 35), .ref (k + 36), .ref (k + 37), .ref (k + 38), .ref (k + 39), .int 6, .int 1]) := by rw [e_h100, va_up_neq (nek0 (a := 33) (by decide))]; exact F_h97__k_33_
  have F_h100__k_34_ : h100 (k + 34) = .inl (1, 36, .inl pA) := by rw [e_h100, va_up_neq (nek0 (a := 34) (by decide))]; exact F_h97__k_34_
  have F_h100__k_35_ : h100 (k + 35) = .inl (1, 36, .inl (fun _ => 0)) := by rw [e_h100, va_up_neq (nek0 (a := 35) (by decide))]; exact F_h97__k_35_
  have F_h100__k_36_ : h100 (k + 36) = .inl (1, 36, .inl fA) := by rw [e_h100, va_up_neq (nek0 (a := 36) (by decide))]; exact F_h97__k_36_
  have F_h100__k_37_ : h100 (k + 37) = .inl (1, 36, .inl wA) := by rw [e_h100, va_up_neq (nek0 (a := 37) (by decide))]; exact F_h97__k_37_
  have F_h100__k_38_ : h100 (k + 38) = .inl (1, 512, .inl oA) := by rw [e_h100, va_up_neq (nek0 (a := 38) (by decide))]; exact F_h97__k_38_
  have F_h100__k_39_ : h100 (k + 39) = .inl (1, 512, .inl sA) := by rw [e_h100, va_up_neq (nek0 (a := 39) (by decide))]; exact F_h97__k_39_
  have F_h100__k_54_ : h100 (k + 54) = .inr (1, [.ref (aBig + 5), .ref (aBig + 6), .int 8, .ref (k + 55), .ref (k + 56), .ref (k + 59), .int 0, .int 0, .int 0, .ref (k + 60), .ref (k + 67), .ref (k + 74), .ref (k + 60), .ref (k + 57), .int 0, .int 0, .int 0, .int 0]) := by rw [e_h100, va_up_neq (nek0 (a := 54) (by decide))]; exact F_h97__k_54_
  have F_h100__k_55_ : h100 (k + 55) = .inl (1, 2667, .inl (fun _ => 0)) := by rw [e_h100, va_up_neq (nek0 (a := 55) (by decide))]; exact F_h97__k_55_
  have F_h100__k_56_ : h100 (k + 56) = .inl (1, 2667, .inl (fun _ => 0)) := by rw [e_h100, va_up_neq (nek0 (a := 56) (by decide))]; exact F_h97__k_56_
  have F_h100__k_57_ : h100 (k + 57) = .inr (7, [.ref (k + 58), .int 0, .int 0, .long 0, .int 0]) := by rw [e_h100, va_up_neq (nek0 (a := 57) (by decide))]; exact F_h97__k_57_
  have F_h100__k_58_ : h100 (k + 58) = .inl (0, 128, .inl (fun _ => 0)) := by rw [e_h100, va_up_neq (nek0 (a := 58) (by decide))]; exact F_h97__k_58_
  have F_h100__k_59_ : h100 (k + 59) = .inl (1, 32, .inl (fun _ => 0)) := by rw [e_h100, va_up_neq (nek0 (a := 59) (by decide))]; exact F_h97__k_59_
  have F_h100__k_60_ : h100 (k + 60) = .inr (8, [.int 31, .ref (k + 61), .ref (k + 62), .ref (k + 63), .ref (k + 64), .ref (k + 65), .ref (k + 66), .int 0, .int 0]) := by rw [e_h100, va_up_neq (nek0 (a := 60) (by decide))]; exact F_h97__k_60_
  have F_h100__k_61_ : h100 (k + 61) = .inl (1, 32, .inl (fun _ => 0)) := by rw [e_h100, va_up_neq (nek0 (a := 61) (by decide))]; exact F_h97__k_61_
  have F_h100__k_62_ : h100 (k + 62) = .inl (1, 32, .inl (fun _ => 0)) := by rw [e_h100, va_up_neq (nek0 (a := 62) (by decide))]; exact F_h97__k_62_
  have F_h100__k_63_ : h100 (k + 63) = .inl (1, 32, .inl (fun _ => 0)) := by rw [e_h100, va_up_neq (nek0 (a := 63) (by decide))]; exact F_h97__k_63_
  have F_h100__k_64_ : h100 (k + 64) = .inl (1, 32, .inl (fun _ => 0)) := by rw [e_h100, va_up_neq (nek0 (a := 64) (by decide))]; exact F_h97__k_64_
  have F_h100__k_65_ : h100 (k + 65) = .inl (1, 256, .inl (fun _ => 0)) := by rw [e_h100, va_up_neq (nek0 (a := 65) (by decide))]; exact F_h97__k_65_
  have F_h100__k_66_ : h100 (k + 66) = .inl (1, 256, .inl (fun _ => 0)) := by rw [e_h100, va_up_neq (nek0 (a := 66) (by decide))]; exact F_h97__k_66_
  have F_h100__k_67_ : h100 (k + 67) = .inr (8, [.int 31, .ref (k + 68), .ref (k + 69), .ref (k + 70), .ref (k + 71), .ref (k + 72), .ref (k + 73), .int 0, .int 0]) := by rw [e_h100, va_up_neq (nek0 (a := 67) (by decide))]; exact F_h97__k_67_
  have F_h100__k_68_ : h100 (k + 68) = .inl (1, 32, .inl (fun _ => 0)) := by rw [e_h100, va_up_neq (nek0 (a := 68) (by decide))]; exact F_h97__k_68_
  have F_h100__k_69_ : h100 (k + 69) = .inl (1, 32, .inl (fun _ => 0)) := by rw [e_h100, va_up_neq (nek0 (a := 69) (by decide))]; exact F_h97__k_69_
  have F_h100__k_70_ : h100 (k + 70) = .inl (1, 32, .inl (fun _ => 0)) := by rw [e_h100, va_up_neq (nek0 (a := 70) (by decide))]; exact F_h97__k_70_
  have F_h100__k_71_ : h100 (k + 71) = .inl (1, 32, .inl (fun _ => 0)) := by rw [e_h100, va_up_neq (nek0 (a := 71) (by decide))]; exact F_h97__k_71_
  have F_h100__k_72_ : h100 (k + 72) = .inl (1, 256, .inl (fun _ => 0)) := by rw [e_h100, va_up_neq (nek0 (a := 72) (by decide))]; exact F_h97__k_72_
  have F_h100__k_73_ : h100 (k + 73) = .inl (1, 256, .inl (fun _ => 0)) := by rw [e_h100, va_up_neq (nek0 (a := 73) (by decide))]; exact F_h97__k_73_
  have F_h100__k_74_ : h100 (k + 74) = .inr (8, [.int 31, .ref (k + 75), .ref (k + 76), .ref (k + 77), .ref (k + 78), .ref (k + 79), .ref (k + 80), .int 0, .int 0]) := by rw [e_h100, va_up_neq (nek0 (a := 74) (by decide))]; exact F_h97__k_74_
  have F_h100__k_75_ : h100 (k + 75) = .inl (1, 32, .inl (fun _ => 0)) := by rw [e_h100, va_up_neq (nek0 (a := 75) (by decide))]; exact F_h97__k_75_
  have F_h100__k_76_ : h100 (k + 76) = .inl (1, 32, .inl (fun _ => 0)) := by rw [e_h100, va_up_neq (nek0 (a := 76) (by decide))]; exact F_h97__k_76_
  have F_h100__k_77_ : h100 (k + 77) = .inl (1, 32, .inl (fun _ => 0)) := by rw [e_h100, va_up_neq (nek0 (a := 77) (by decide))]; exact F_h97__k_77_
  have F_h100__k_78_ : h100 (k + 78) = .inl (1, 32, .inl (fun _ => 0)) := by rw [e_h100, va_up_neq (nek0 (a := 78) (by decide))]; exact F_h97__k_78_
  have F_h100__k_79_ : h100 (k + 79) = .inl (1, 256, .inl (fun _ => 0)) := by rw [e_h100, va_up_neq (nek0 (a := 79) (by decide))]; exact F_h97__k_79_
  have F_h100__k_80_ : h100 (k + 80) = .inl (1, 256, .inl (fun _ => 0)) := by rw [e_h100, va_up_neq (nek0 (a := 80) (by decide))]; exact F_h97__k_80_
  have FR_h100 : ∀ j, j < k ∨ aBig ≤ j → h100 j = h j := fun j hj => by rw [e_h100]; exact (va_up_neq (frne0 hj hbig)).trans (FR_h97 j hj)
  clear F_h97_k F_h97__k_1_ F_h97__k_2_ F_h97__k_3_ F_h97__k_4_ F_h97__k_5_ F_h97__k_6_ F_h97__k_7_ F_h97__k_8_ F_h97__k_9_ F_h97__k_10_ F_h97__k_11_ F_h97__k_12_ F_h97__k_13_ F_h97__k_14_ F_h97__k_15_ F_h97__k_16_ F_h97__k_17_ F_h97__k_18_ F_h97__k_19_ F_h97__k_20_ F_h97__k_21_ F_h97__k_22_ F_h97__k_23_ F_h97__k_24_ F_h97__k_25_ F_h97__k_26_ F_h97__k_27_ F_h97__k_28_ F_h97__k_29_ F_h97__k_30_ F_h97__k_31_ F_h97__k_32_ F_h97__k_40_ F_h97__k_41_ F_h97__k_42_ F_h97__k_43_ F_h97__k_44_ F_h97__k_45_ F_h97__k_46_ F_h97__k_47_ F_h97__k_48_ F_h97__k_49_ F_h97__k_50_ F_h97__k_51_ F_h97__k_52_ F_h97__k_53_ F_h97__k_33_ F_h97__k_34_ F_h97__k_35_ F_h97__k_36_ F_h97__k_37_ F_h97__k_38_ F_h97__k_39_ F_h97__k_54_ F_h97__k_55_ F_h97__k_56_ F_h97__k_57_ F_h97__k_58_ F_h97__k_59_ F_h97__k_60_ F_h97__k_61_ F_h97__k_62_ F_h97__k_63_ F_h97__k_64_ F_h97__k_65_ F_h97__k_66_ F_h97__k_67_ F_h97__k_68_ F_h97__k_69_ F_h97__k_70_ F_h97__k_71_ F_h97__k_72_ F_h97__k_73_ F_h97__k_74_ F_h97__k_75_ F_h97__k_76_ F_h97__k_77_ F_h97__k_78_ F_h97__k_79_ F_h97__k_80_ FR_h97 e_h100
  clear h97
  refine WX.s1 rfl rfl ?_
  refine WX.get1 (fs := [.ref (k + 1), .ref (k + 8), .ref (k + 27), .ref (k + 54), .null, .ref (k + 5), .ref (k + 6), .int 0, .ref (k + 7)]) rfl (ltk0 (c := 81) (by decide)) (F_h100_k) rfl ?_
  refine WX.s1 rfl rfl ?_
  refine WX.s1 rfl rfl ?_
  refine WX.callC (vs := [.ref (k + 54), .ref (aBig + 1), .int 5]) rfl rfl rfl (Nat.le_of_ble_eq_true rfl) (rcv_ok (ltk (a := 54) (c := 81) (by decide)) F_h100__k_54_) ?_
  refine w_knowS (k := k + 60) (l := 31) (M := 256) (L := 5) (j := 1) (ltk (a := 54) (c := 81) (by decide)) F_h100__k_54_ rfl (ltk (a := 66) (c := 81) (by decide)) (bigk (k := k) (a := 81) hbig (by decide)) ⟨F_h100__k_60_, F_h100__k_61_, F_h100__k_62_, F_h100__k_63_, F_h100__k_64_, F_h100__k_65_, F_h100__k_66_⟩ (by decide) (by decide) (by decide) (by decide) (fun _ _ => ⟨0, Nat.zero_le _, rfl⟩) (by decide) ((FR_h100 _ (Or.inr (Nat.le_add_right _ _))).trans K1) hK1 kb1 (fun h111 pB fB wB oB sB fr111 A111 hp111 => ?_)
  have F_h111_k : h111 k = .inr (6, [.ref (k + 1), .ref (k + 8), .ref (k + 27), .ref (k + 54), .null, .ref (k + 5), .ref (k + 6), .int 0, .ref (k + 7)]) := (fr111 k (insNo (k := k) (a := 0) (b := 60) (by decide))).trans F_h100_k
  have F_h111__k_1_ : h111 (k + 1) = .inr (3, [.ref (k + 2), .int 0, .ref (k + 3), .ref (k + 4), .int 0, .int 0, .int 0, .int 0, .int 0, .int 0, .int 0, .int 0, .int 0]) := (fr111 (k + 1) (insNo (k := k) (a := 1) (b := 60) (by decide))).trans F_h100__k_1_
  have F_h111__k_2_ : h111 (k + 2) = .inl (0, 16000, .inl (fun _ => 0)) := (fr111 (k + 2) (insNo (k := k) (a := 2) (b := 60) (by decide))).trans F_h100__k_2_
  have F_h111__k_3_ : h111 (k + 3) = .inl (1, 16000, .inl (fun _ => 0)) := (fr111 (k + 3) (insNo (k := k) (a := 3) (b := 60) (by decide))).trans F_h100__k_3_
  have F_h111__k_4_ : h111 (k + 4) = .inl (1, 4096, .inl (fun _ => 0)) := (fr111 (k + 4) (insNo (k := k) (a := 4) (b := 60) (by decide))).trans F_h100__k_4_
  have F_h111__k_5_ : h111 (k + 5) = .inl (1, 3, .inl (fun _ => 0)) := (fr111 (k + 5) (insNo (k := k) (a := 5) (b := 60) (by decide))).trans F_h100__k_5_
  have F_h111__k_6_ : h111 (k + 6) = .inl (1, 3, .inl (fun _ => 0)) := (fr111 (k + 6) (insNo (k := k) (a := 6) (b := 60) (by decide))).trans F_h100__k_6_
  have F_h111__k_7_ : h111 (k + 7) = .inl (1, 12, .inl (fun _ => 0)) := (fr111 (k + 7) (insNo (k := k) (a := 7) (b := 60) (by decide))).trans F_h100__k_7_
  have F_h111__k_8_ : h111 (k + 8) = .inr (5, [.ref (k + 9), .ref (k + 10), .int 0, .ref (k + 11), .ref (k + 15), .ref (k + 19), .ref q, .ref (k + 25), .int 0, .int 0, .int 0, .int 0]) := (fr111 (k + 8) (insNo (k := k) (a := 8) (b := 60) (by decide))).trans F_h100__k_8_
  have F_h111__k_9_ : h111 (k + 9) = .inl (0, 8000, .inl (fun _ => 0)) := (fr111 (k + 9) (insNo (k := k) (a := 9) (b := 60) (by decide))).trans F_h100__k_9_
  have F_h111__k_10_ : h111 (k + 10) = .inl (1, 256, .inl (fun _ => 0)) := (fr111 (k + 10) (insNo (k := k) (a := 10) (b := 60) (by decide))).trans F_h100__k_10_
  have F_h111__k_11_ : h111 (k + 11) = .inr (0, [.ref (k + 12), .ref (k + 13), .ref (k + 14), .int 0, .int 0]) := (fr111 (k + 11) (insNo (k := k) (a := 11) (b := 60) (by decide))).trans F_h100__k_11_
  have F_h111__k_12_ : h111 (k + 12) = .inl (1, 256, .inl (fun _ => 0)) := (fr111 (k + 12) (insNo (k := k) (a := 12) (b := 60) (by decide))).trans F_h100__k_12_
  have F_h111__k_13_ : h111 (k + 13) = .inl (1, 256, .inl (fun _ => 0)) := (fr111 (k + 13) (insNo (k := k) (a := 13) (b := 60) (by decide))).trans F_h100__k_13_
  have F_h111__k_14_ : h111 (k + 14) = .inl (1, 13, .inl (fun _ => 0)) := (fr111 (k + 14) (insNo (k := k) (a := 14) (b := 60) (by decide))).trans F_h100__k_14_
  have F_h111__k_15_ : h111 (k + 15) = .inr (0, [.ref (k + 16), .ref (k + 17), .ref (k + 18), .int 0, .int 0]) := (fr111 (k + 15) (insNo (k := k) (a := 15) (b := 60) (by decide))).trans F_h100__k_15_
  have F_h111__k_16_ : h111 (k + 16) = .inl (1, 256, .inl (fun _ => 0)) := (fr111 (k + 16) (insNo (k := k) (a := 16) (b := 60) (by decide))).trans F_h100__k_16_
  have F_h111__k_17_ : h111 (k + 17) = .inl (1, 256, .inl (fun _ => 0)) := (fr111 (k + 17) (insNo (k := k) (a := 17) (b := 60) (by decide))).trans F_h100__k_17_
  have F_h111__k_18_ : h111 (k + 18) = .inl (1, 13, .inl (fun _ => 0)) := (fr111 (k + 18) (insNo (k := k) (a := 18) (b := 60) (by decide))).trans F_h100__k_18_
  have F_h111__k_19_ : h111 (k + 19) = .inr (4, [.ref (k + 20), .ref (k + 21), .ref (k + 22), .ref (k + 23), .ref (k + 24)]) := (fr111 (k + 19) (insNo (k := k) (a := 19) (b := 60) (by decide))).trans F_h100__k_19_
  have F_h111__k_20_ : h111 (k + 20) = .inl (1, 256, .inl (fun _ => 0)) := (fr111 (k + 20) (insNo (k := k) (a := 20) (b := 60) (by decide))).trans F_h100__k_20_
  have F_h111__k_21_ : h111 (k + 21) = .inl (1, 256, .inl (fun _ => 0)) := (fr111 (k + 21) (insNo (k := k) (a := 21) (b := 60) (by decide))).trans F_h100__k_21_
  have F_h111__k_22_ : h111 (k + 22) = .inl (1, 512, .inl (fun _ => 0)) := (fr111 (k + 22) (insNo (k := k) (a := 22) (b := 60) (by decide))).trans F_h100__k_22_
  have F_h111__k_23_ : h111 (k + 23) = .inl (1, 512, .inl (fun _ => 0)) := (fr111 (k + 23) (insNo (k := k) (a := 23) (b := 60) (by decide))).trans F_h100__k_23_
  have F_h111__k_24_ : h111 (k + 24) = .inl (1, 512, .inl (fun _ => 0)) := (fr111 (k + 24) (insNo (k := k) (a := 24) (b := 60) (by decide))).trans F_h100__k_24_
  have F_h111__k_25_ : h111 (k + 25) = .inr (7, [.ref (k + 26), .int 0, .int 0, .long 0, .int 0]) := (fr111 (k + 25) (insNo (k := k) (a := 25) (b := 60) (by decide))).trans F_h100__k_25_
  have F_h111__k_26_ : h111 (k + 26) = .inl (0, 256, .inl (fun _ => 0)) := (fr111 (k + 26) (insNo (k := k) (a := 26) (b := 60) (by decide))).trans F_h100__k_26_
  have F_h111__k_27_ : h111 (k + 27) = .inr (1, [.ref (aBig + 3), .ref (aBig + 4), .int 9, .ref (k + 28), .ref (k + 29), .ref (k + 32), .int 0, .int 0, .int 0, .ref (k + 33), .ref (k + 40), .ref (k + 47), .ref (k + 33), .ref (k + 30), .int 0, .int 0, .int 0, .int 0]) := (fr111 (k + 27) (insNo (k := k) (a := 27) (b := 60) (by decide))).trans F_h100__k_27_
  have F_h111__k_28_ : h111 (k + 28) = .inl (1, 2667, .inl (fun _ => 0)) := (fr111 (k + 28) (insNo (k := k) (a := 28) (b := 60) (by decide))).trans F_h100__k_28_
  have F_h111__k_29_ : h111 (k + 29) = .inl (1, 2667, .inl (fun _ => 0)) := (fr111 (k + 29) (insNo (k := k) (a := 29) (b := 60) (by decide))).trans F_h100__k_29_
  have F_h111__k_30_ : h111 (k + 30) = .inr (7, [.ref (k + 31), .int 0, .int 0, .long 0, .int 0]) := (fr111 (k + 30) (insNo (k := k) (a := 30) (b := 60) (by decide))).trans F_h100__k_30_
  have F_h111__k_31_ : h111 (k + 31) = .inl (0, 128, .inl (fun _ => 0)) := (fr111 (k + 31) (insNo (k := k) (a := 31) (b := 60) (by decide))).trans F_h100__k_31_
  have F_h111__k_32_ : h111 (k + 32) = .inl (1, 36, .inl (fun _ => 0)) := (fr111 (k + 32) (insNo (k := k) (a := 32) (b := 60) (by decide))).trans F_h100__k_32_
  have F_h111__k_40_ : h111 (k + 40) = .inr (8, [.int 35, .ref (k + 41), .ref (k + 42), .ref (k + 43), .ref (k + 44), .ref (k + 45), .ref (k + 46), .int 0, .int 0]) := (fr111 (k + 40) (insNo (k := k) (a := 40) (b := 60) (by decide))).trans F_h100__k_40_
  have F_h111__k_41_ : h111 (k + 41) = .inl (1, 36, .inl (fun _ => 0)) := (fr111 (k + 41) (insNo (k := k) (a := 41) (b := 60) (by decide))).trans F_h100__k_41_
  have F_h111__k_42_ : h111 (k + 42) = .inl (1, 36, .inl (fun _ => 0)) := (fr111 (k + 42) (insNo (k := k) (a := 42) (b := 60) (by decide))).trans F_h100__k_42_
  have F_h111__k_43_ : h111 (k + 43) = .inl (1, 36, .inl (fun _ => 0)) := (fr111 (k + 43) (insNo (k := k) (a := 43) (b := 60) (by decide))).trans F_h100__k_43_
  have F_h111__k_44_ : h111 (k + 44) = .inl (1, 36, .inl (fun _ => 0)) := (fr111 (k + 44) (insNo (k := k) (a := 44) (b := 60) (by decide))).trans F_h100__k_44_
  have F_h111__k_45_ : h111 (k + 45) = .inl (1, 512, .inl (fun _ => 0)) := (fr111 (k + 45) (insNo (k := k) (a := 45) (b := 60) (by decide))).trans F_h100__k_45_
  have F_h111__k_46_ : h111 (k + 46) = .inl (1, 512, .inl (fun _ => 0)) := (fr111 (k + 46) (insNo (k := k) (a := 46) (b := 60) (by decide))).trans F_h100__k_46_
  have F_h111__k_47_ : h111 (k + 47) = .inr (8, [.int 35, .ref (k + 48), .ref (k + 49), .ref (k + 50), .ref (k + 51), .ref (k + 52), .ref (k + 53), .int 0, .int 0]) := (fr111 (k + 47) (insNo (k := k) (a := 47) (b := 60) (by decide))).trans F_h100__k_47_
  have F_h111__k_48_ : h111 (k + 48) = .inl (1, 36, .inl (fun _ => 0)) := (fr111 (k + 48) (insNo (k := k) (a := 48) (b := 60) (by decide))).trans F_h100__k_48_
  have F_h111__k_49_ : h111 (k + 49) = .inl (1, 36, .inl (fun _ => 0)) := (fr111 (k + 49) (insNo (k := k) (a := 49) (b := 60) (by decide))).trans F_h100__k_49_
  have F_h111__k_50_ : h111 (k + 50) = .inl (1, 36, .inl (fun _ => 0)) := (fr111 (k + 50) (insNo (k := k) (a := 50) (b := 60) (by decide))).trans F_h100__k_50_
  have F_h111__k_51_ : h111 (k + 51) = .inl (1, 36, .inl (fun _ => 0)) := (fr111 (k + 51) (insNo (k := k) (a := 51) (b := 60) (by decide))).trans F_h100__k_51_
  have F_h111__k_52_ : h111 (k + 52) = .inl (1, 512, .inl (fun _ => 0)) := (fr111 (k + 52) (insNo (k := k) (a := 52) (b := 60) (by decide))).trans F_h100__k_52_
  have F_h111__k_53_ : h111 (k + 53) = .inl (1, 512, .inl (fun _ => 0)) := (fr111 (k + 53) (insNo (k := k) (a := 53) (b := 60) (by decide))).trans F_h100__k_53_
  have F_h111__k_33_ : h111 (k + 33) = .inr (8, [.int 35, .ref (k + 34), .ref (k + 35), .ref (k + 36), .ref (k + 37), .ref (k + 38), .ref (k + 39), .int 6, .int 1]) := (fr111 (k + 33) (insNo (k := k) (a := 33) (b := 60) (by decide))).trans F_h100__k_33_
  have F_h111__k_34_ : h111 (k + 34) = .inl (1, 36, .inl pA) := (fr111 (k + 34) (insNo (k := k) (a := 34) (b := 60) (by decide))).trans F_h100__k_34_
  have F_h111__k_35_ : h111 (k + 35) = .inl (1, 36, .inl (fun _ => 0)) := (fr111 (k + 35) (insNo (k := k) (a := 35) (b := 60) (by decide))).trans F_h100__k_35_
  have F_h111__k_36_ : h111 (k + 36) = .inl (1, 36, .inl fA) := (fr111 (k + 36) (insNo (k := k) (a := 36) (b := 60) (by decide))).trans F_h100__k_36_
  have F_h111__k_37_ : h111 (k + 37) = .inl (1, 36, .inl wA) := (fr111 (k + 37) (insNo (k := k) (a := 37) (b := 60) (by decide))).trans F_h100__k_37_
  have F_h111__k_38_ : h111 (k + 38) = .inl (1, 512, .inl oA) := (fr111 (k + 38) (insNo (k := k) (a := 38) (b := 60) (by decide))).trans F_h100__k_38_
  have F_h111__k_39_ : h111 (k + 39) = .inl (1, 512, .inl sA) := (fr111 (k + 39) (insNo (k := k) (a := 39) (b := 60) (by decide))).trans F_h100__k_39_
  have F_h111__k_54_ : h111 (k + 54) = .inr (1, [.ref (aBig + 5), .ref (aBig + 6), .int 8, .ref (k + 55), .ref (k + 56), .ref (k + 59), .int 0, .int 0, .int 0, .ref (k + 60), .ref (k + 67), .ref (k + 74), .ref (k + 60), .ref (k + 57), .int 0, .int 0, .int 0, .int 0]) := (fr111 (k + 54) (insNo (k := k) (a := 54) (b := 60) (by decide))).trans F_h100__k_54_
  have F_h111__k_55_ : h111 (k + 55) = .inl (1, 2667, .inl (fun _ => 0)) := (fr111 (k + 55) (insNo (k := k) (a := 55) (b := 60) (by decide))).trans F_h100__k_55_
  have F_h111__k_56_ : h111 (k + 56) = .inl (1, 2667, .inl (fun _ => 0)) := (fr111 (k + 56) (insNo (k := k) (a := 56) (b := 60) (by decide))).trans F_h100__k_56_
  have F_h111__k_57_ : h111 (k + 57) = .inr (7, [.ref (k + 58), .int 0, .int 0, .long 0, .int 0]) := (fr111 (k + 57) (insNo (k := k) (a := 57) (b := 60) (by decide))).trans F_h100__k_57_
  have F_h111__k_58_ : h111 (k + 58) = .inl (0, 128, .inl (fun _ => 0)) := (fr111 (k + 58) (insNo (k := k) (a := 58) (b := 60) (by decide))).trans F_h100__k_58_
  have F_h111__k_59_ : h111 (k + 59) = .inl (1, 32, .inl (fun _ => 0)) := (fr111 (k + 59) (insNo (k := k) (a := 59) (b := 60) (by decide))).trans F_h100__k_59_
  have F_h111__k_67_ : h111 (k + 67) = .inr (8, [.int 31, .ref (k + 68), .ref (k + 69), .ref (k + 70), .ref (k + 71), .ref (k + 72), .ref (k + 73), .int 0, .int 0]) := (fr111 (k + 67) (insNo (k := k) (a := 67) (b := 60) (by decide))).trans F_h100__k_67_
  have F_h111__k_68_ : h111 (k + 68) = .inl (1, 32, .inl (fun _ => 0)) := (fr111 (k + 68) (insNo (k := k) (a := 68) (b := 60) (by decide))).trans F_h100__k_68_
  have F_h111__k_69_ : h111 (k + 69) = .inl (1, 32, .inl (fun _ => 0)) := (fr111 (k + 69) (insNo (k := k) (a := 69) (b := 60) (by decide))).trans F_h100__k_69_
  have F_h111__k_70_ : h111 (k + 70) = .inl (1, 32, .inl (fun _ => 0)) := (fr111 (k + 70) (insNo (k := k) (a := 70) (b := 60) (by decide))).trans F_h100__k_70_
  have F_h111__k_71_ : h111 (k + 71) = .inl (1, 32, .inl (fun _ => 0)) := (fr111 (k + 71) (insNo (k := k) (a := 71) (b := 60) (by decide))).trans F_h100__k_71_
  have F_h111__k_72_ : h111 (k + 72) = .inl (1, 256, .inl (fun _ => 0)) := (fr111 (k + 72) (insNo (k := k) (a := 72) (b := 60) (by decide))).trans F_h100__k_72_
  have F_h111__k_73_ : h111 (k + 73) = .inl (1, 256, .inl (fun _ => 0)) := (fr111 (k + 73) (insNo (k := k) (a := 73) (b := 60) (by decide))).trans F_h100__k_73_
  have F_h111__k_74_ : h111 (k + 74) = .inr (8, [.int 31, .ref (k + 75), .ref (k + 76), .ref (k + 77), .ref (k + 78), .ref (k + 79), .ref (k + 80), .int 0, .int 0]) := (fr111 (k + 74) (insNo (k := k) (a := 74) (b := 60) (by decide))).trans F_h100__k_74_
  have F_h111__k_75_ : h111 (k + 75) = .inl (1, 32, .inl (fun _ => 0)) := (fr111 (k + 75) (insNo (k := k) (a := 75) (b := 60) (by decide))).trans F_h100__k_75_
  have F_h111__k_76_ : h111 (k + 76) = .inl (1, 32, .inl (fun _ => 0)) := (fr111 (k + 76) (insNo (k := k) (a := 76) (b := 60) (by decide))).trans F_h100__k_76_
  have F_h111__k_77_ : h111 (k + 77) = .inl (1, 32, .inl (fun _ => 0)) := (fr111 (k + 77) (insNo (k := k) (a := 77) (b := 60) (by decide))).trans F_h100__k_77_
  have F_h111__k_78_ : h111 (k + 78) = .inl (1, 32, .inl (fun _ => 0)) := (fr111 (k + 78) (insNo (k := k) (a := 78) (b := 60) (by decide))).trans F_h100__k_78_
  have F_h111__k_79_ : h111 (k + 79) = .inl (1, 256, .inl (fun _ => 0)) := (fr111 (k + 79) (insNo (k := k) (a := 79) (b := 60) (by decide))).trans F_h100__k_79_
  have F_h111__k_80_ : h111 (k + 80) = .inl (1, 256, .inl (fun _ => 0)) := (fr111 (k + 80) (insNo (k := k) (a := 80) (b := 60) (by decide))).trans F_h100__k_80_
  have F_h111__k_60_ : h111 (k + 60) = .inr (8, [.int 31, .ref (k + 61), .ref (k + 62), .ref (k + 63), .ref (k + 64), .ref (k + 65), .ref (k + 66), .int 5, .int 1]) := A111.1
  have F_h111__k_61_ : h111 (k + 61) = .inl (1, 32, .inl pB) := A111.2.1
  have F_h111__k_62_ : h111 (k + 62) = .inl (1, 32, .inl (fun _ => 0)) := A111.2.2.1
  have F_h111__k_63_ : h111 (k + 63) = .inl (1, 32, .inl fB) := A111.2.2.2.1
  have F_h111__k_64_ : h111 (k + 64) = .inl (1, 32, .inl wB) := A111.2.2.2.2.1
  have F_h111__k_65_ : h111 (k + 65) = .inl (1, 256, .inl oB) := A111.2.2.2.2.2.1
  have F_h111__k_66_ : h111 (k + 66) = .inl (1, 256, .inl sB) := A111.2.2.2.2.2.2
  have FR_h111 : ∀ j, j < k ∨ aBig ≤ j → h111 j = h j := fun j hj => (fr111 j (fun z => by have z1 := z.1; have z2 := z.2; have := hbig; omega)).trans (FR_h100 j hj)
  clear F_h100_k F_h100__k_1_ F_h100__k_2_ F_h100__k_3_ F_h100__k_4_ F_h100__k_5_ F_h100__k_6_ F_h100__k_7_ F_h100__k_8_ F_h100__k_9_ F_h100__k_10_ F_h100__k_11_ F_h100__k_12_ F_h100__k_13_ F_h100__k_14_ F_h100__k_15_ F_h100__k_16_ F_h100__k_17_ F_h100__k_18_ F_h100__k_19_ F_h100__k_20_ F_h100__k_21_ F_h100__k_22_ F_h100__k_23_ F_h100__k_24_ F_h100__k_25_ F_h100__k_26_ F_h100__k_27_ F_h100__k_28_ F_h100__k_29_ F_h100__k_30_ F_h100__k_31_ F_h100__k_32_ F_h100__k_40_ F_h100__k_41_ F_h100__k_42_ F_h100__k_43_ F_h100__k_44_ F_h100__k_45_ F_h100__k_46_ F_h100__k_47_ F_h100__k_48_ F_h100__k_49_ F_h100__k_50_ F_h100__k_51_ F_h100__k_52_ F_h100__k_53_ F_h100__k_33_ F_h100__k_34_ F_h100__k_35_ F_h100__k_36_ F_h100__k_37_ F_h100__k_38_ F_h100__k_39_ F_h100__k_54_ F_h100__k_55_ F_h100__k_56_ F_h100__k_57_ F_h100__k_58_ F_h100__k_59_ F_h100__k_67_ F_h100__k_68_ F_h100__k_69_ F_h100__k_70_ F_h100__k_71_ F_h100__k_72_ F_h100__k_73_ F_h100__k_74_ F_h100__k_75_ F_h100__k_76_ F_h100__k_77_ F_h100__k_78_ F_h100__k_79_ F_h100__k_80_ F_h100__k_60_ F_h100__k_61_ F_h100__k_62_ F_h100__k_63_ F_h100__k_64_ F_h100__k_65_ F_h100__k_66_ FR_h100 fr111 A111
  clear h100
  show WX _ _ _ 114 [(0, .ref k), (1, .ref q)] [] (k + 81, s + 13 + 36096 + 3 + 3 + 12 + 12 + 11630 + 18 + 9034 + 18 + 7446, h111)
  refine WX.s1 rfl rfl ?_
  refine WX.newN rfl (bigk (k := k) (a := 82) hbig (by decide)) (fun h115 e_h115 => ?_)
  have F_h115_k : h115 k = .inr (6, [.ref (k + 1), .ref (k + 8), .ref (k + 27), .ref (k + 54), .null, .ref (k + 5), .ref (k + 6), .int 0, .ref (k + 7)]) := by rw [e_h115, va_up_neq (nek1 (a := 81) (by decide))]; exact F_h111_k
  have F_h115__k_1_ : h115 (k + 1) = .inr (3, [.ref (k + 2), .int 0, .ref (k + 3), .ref (k + 4), .int 0, .int 0, .int 0, .int 0, .int 0, .int 0, .int 0, .int 0, .int 0]) := by rw [e_h115, va_up_neq (nek (a := 1) (b := 81) (by decide))]; exact F_h111__k_1_
  have F_h115__k_2_ : h115 (k + 2) = .inl (0, 16000, .inl (fun _ => 0)) := by rw [e_h115, va_up_neq (nek (a := 2) (b := 81) (by decide))]; exact F_h111__k_2_
  have F_h115__k_3_ : h115 (k + 3) = .inl (1, 16000, .inl (fun _ => 0)) := by rw [e_h115, va_up_neq (nek (a := 3) (b := 81) (by decide))]; exact F_h111__k_3_
  have F_h115__k_4_ : h115 (k + 4) = .inl (1, 4096, .inl (fun _ => 0)) := by rw [e_h115, va_up_neq (nek (a := 4) (b := 81) (by decide))]; exact F_h111__k_4_
  have F_h115__k_5_ : h115 (k + 5) = .inl (1, 3, .inl (fun _ => 0)) := by rw [e_h115, va_up_neq (nek (a := 5) (b := 81) (by decide))]; exact F_h111__k_5_
  have F_h115__k_6_ : h115 (k + 6) = .inl (1, 3, .inl (fun _ => 0)) := by rw [e_h115, va_up_neq (nek (a := 6) (b := 81) (by decide))]; exact F_h111__k_6_
  have F_h115__k_7_ : h115 (k + 7) = .inl (1, 12, .inl (fun _ => 0)) := by rw [e_h115, va_up_neq (nek (a := 7) (b := 81) (by decide))]; exact F_h111__k_7_
  have F_h115__k_8_ : h115 (k + 8) = .inr (5, [.ref (k + 9), .ref (k + 10), .int 0, .ref (k + 11), .ref (k + 15), .ref (k + 19), .ref q, .ref (k + 25), .int 0, .int 0, .int 0, .int 0]) := by rw [e_h115, va_up_neq (nek (a := 8) (b := 81) (by decide))]; exact F_h111__k_8_
  have F_h115__k_9_ : h115 (k + 9) = .inl (0, 8000, .inl (fun _ => 0)) := by rw [e_h115, va_up_neq (nek (a := 9) (b := 81) (by decide))]; exact F_h111__k_9_
  have F_h115__k_10_ : h115 (k + 10) = .inl (1, 256, .inl (fun _ => 0)) := by rw [e_h115, va_up_neq (nek (a := 10) (b := 81) (by decide))]; exact F_h111__k_10_
  have F_h115__k_11_ : h115 (k + 11) = .inr (0, [.ref (k + 12), .ref (k + 13), .ref (k + 14), .int 0, .int 0]) := by rw [e_h115, va_up_neq (nek (a := 11) (b := 81) (by decide))]; exact F_h111__k_11_
  have F_h115__k_12_ : h115 (k + 12) = .inl (1, 256, .inl (fun _ => 0)) := by rw [e_h115, va_up_neq (nek (a := 12) (b := 81) (by decide))]; exact F_h111__k_12_
  have F_h115__k_13_ : h115 (k + 13) = .inl (1, 256, .inl (fun _ => 0)) := by rw [e_h115, va_up_neq (nek (a := 13) (b := 81) (by decide))]; exact F_h111__k_13_
  have F_h115__k_14_ : h115 (k + 14) = .inl (1, 13, .inl (fun _ => 0)) := by rw [e_h115, va_up_neq (nek (a := 14) (b := 81) (by decide))]; exact F_h111__k_14_
  have F_h115__k_15_ : h115 (k + 15) = .inr (0, [.ref (k + 16), .ref (k + 17), .ref (k + 18), .int 0, .int 0]) := by rw [e_h115, va_up_neq (nek (a := 15) (b := 81) (by decide))]; exact F_h111__k_15_
  have F_h115__k_16_ : h115 (k + 16) = .inl (1, 256, .inl (fun _ => 0)) := by rw [e_h115, va_up_neq (nek (a := 16) (b := 81) (by decide))]; exact F_h111__k_16_
  have F_h115__k_17_ : h115 (k + 17) = .inl (1, 256, .inl (fun _ => 0)) := by rw [e_h115, va_up_neq (nek (a := 17) (b := 81) (by decide))]; exact F_h111__k_17_
  have F_h115__k_18_ : h115 (k + 18) = .inl (1, 13, .inl (fun _ => 0)) := by rw [e_h115, va_up_neq (nek (a := 18) (b := 81) (by decide))]; exact F_h111__k_18_
  have F_h115__k_19_ : h115 (k + 19) = .inr (4, [.ref (k + 20), .ref (k + 21), .ref (k + 22), .ref (k + 23), .ref (k + 24)]) := by rw [e_h115, va_up_neq (nek (a := 19) (b := 81) (by decide))]; exact F_h111__k_19_
  have F_h115__k_20_ : h115 (k + 20) = .inl (1, 256, .inl (fun _ => 0)) := by rw [e_h115, va_up_neq (nek (a := 20) (b := 81) (by decide))]; exact F_h111__k_20_
  have F_h115__k_21_ : h115 (k + 21) = .inl (1, 256, .inl (fun _ => 0)) := by rw [e_h115, va_up_neq (nek (a := 21) (b := 81) (by decide))]; exact F_h111__k_21_
  have F_h115__k_22_ : h115 (k + 22) = .inl (1, 512, .inl (fun _ => 0)) := by rw [e_h115, va_up_neq (nek (a := 22) (b := 81) (by decide))]; exact F_h111__k_22_
  have F_h115__k_23_ : h115 (k + 23) = .inl (1, 512, .inl (fun _ => 0)) := by rw [e_h115, va_up_neq (nek (a := 23) (b := 81) (by decide))]; exact F_h111__k_23_
  have F_h115__k_24_ : h115 (k + 24) = .inl (1, 512, .inl (fun _ => 0)) := by rw [e_h115, va_up_neq (nek (a := 24) (b := 81) (by decide))]; exact F_h111__k_24_
  have F_h115__k_25_ : h115 (k + 25) = .inr (7, [.ref (k + 26), .int 0, .int 0, .long 0, .int 0]) := by rw [e_h115, va_up_neq (nek (a := 25) (b := 81) (by decide))]; exact F_h111__k_25_
  have F_h115__k_26_ : h115 (k + 26) = .inl (0, 256, .inl (fun _ => 0)) := by rw [e_h115, va_up_neq (nek (a := 26) (b := 81) (by decide))]; exact F_h111__k_26_
  have F_h115__k_27_ : h115 (k + 27) = .inr (1, [.ref (aBig + 3), .ref (aBig + 4), .int 9, .ref (k + 28), .ref (k + 29), .ref (k + 32), .int 0, .int 0, .int 0, .ref (k + 33), .ref (k + 40), .ref (k + 47), .ref (k + 33), .ref (k + 30), .int 0, .int 0, .int 0, .int 0]) := by rw [e_h115, va_up_neq (nek (a := 27) (b := 81) (by decide))]; exact F_h111__k_27_
  have F_h115__k_28_ : h115 (k + 28) = .inl (1, 2667, .inl (fun _ => 0)) := by rw [e_h115, va_up_neq (nek (a := 28) (b := 81) (by decide))]; exact F_h111__k_28_
  have F_h115__k_29_ : h115 (k + 29) = .inl (1, 2667, .inl (fun _ => 0)) := by rw [e_h115, va_up_neq (nek (a := 29) (b := 81) (by decide))]; exact F_h111__k_29_
  have F_h115__k_30_ : h115 (k + 30) = .inr (7, [.ref (k + 31), .int 0, .int 0, .long 0, .int 0]) := by rw [e_h115, va_up_neq (nek (a := 30) (b := 81) (by decide))]; exact F_h111__k_30_
  have F_h115__k_31_ : h115 (k + 31) = .inl (0, 128, .inl (fun _ => 0)) := by rw [e_h115, va_up_neq (nek (a := 31) (b := 81) (by decide))]; exact F_h111__k_31_
  have F_h115__k_32_ : h115 (k + 32) = .inl (1, 36, .inl (fun _ => 0)) := by rw [e_h115, va_up_neq (nek (a := 32) (b := 81) (by decide))]; exact F_h111__k_32_
  have F_h115__k_40_ : h115 (k + 40) = .inr (8, [.int 35, .ref (k + 41), .ref (k + 42), .ref (k + 43), .ref (k + 44), .ref (k + 45), .ref (k + 46), .int 0, .int 0]) := by rw [e_h115, va_up_neq (nek (a := 40) (b := 81) (by decide))]; exact F_h111__k_40_
  have F_h115__k_41_ : h115 (k + 41) = .inl (1, 36, .inl (fun _ => 0)) := by rw [e_h115, va_up_neq (nek (a := 41) (b := 81) (by decide))]; exact F_h111__k_41_
  have F_h115__k_42_ : h115 (k + 42) = .inl (1, 36, .inl (fun _ => 0)) := by rw [e_h115, va_up_neq (nek (a := 42) (b := 81) (by decide))]; exact F_h111__k_42_
  have F_h115__k_43_ : h115 (k + 43) = .inl (1, 36, .inl (fun _ => 0)) := by rw [e_h115, va_up_neq (nek (a := 43) (b := 81) (by decide))]; exact F_h111__k_43_
  have F_h115__k_44_ : h115 (k + 44) = .inl (1, 36, .inl (fun _ => 0)) := by rw [e_h115, va_up_neq (nek (a := 44) (b := 81) (by decide))]; exact F_h111__k_44_
  have F_h115__k_45_ : h115 (k + 45) = .inl (1, 512, .inl (fun _ => 0)) := by rw [e_h115, va_up_neq (nek (a := 45) (b := 81) (by decide))]; exact F_h111__k_45_
  have F_h115__k_46_ : h115 (k + 46) = .inl (1, 512, .inl (fun _ => 0)) := by rw [e_h115, va_up_neq (nek (a := 46) (b := 81) (by decide))]; exact F_h111__k_46_
  have F_h115__k_47_ : h115 (k + 47) = .inr (8, [.int 35, .ref (k + 48), .ref (k + 49), .ref (k + 50), .ref (k + 51), .ref (k + 52), .ref (k + 53), .int 0, .int 0]) := by rw [e_h115, va_up_neq (nek (a := 47) (b := 81) (by decide))]; exact F_h111__k_47_
  have F_h115__k_48_ : h115 (k + 48) = .inl (1, 36, .inl (fun _ => 0)) := by rw [e_h115, va_up_neq (nek (a := 48) (b := 81) (by decide))]; exact F_h111__k_48_
  have F_h115__k_49_ : h115 (k + 49) = .inl (1, 36, .inl (fun _ => 0)) := by rw [e_h115, va_up_neq (nek (a := 49) (b := 81) (by decide))]; exact F_h111__k_49_
  have F_h115__k_50_ : h115 (k + 50) = .inl (1, 36, .inl (fun _ => 0)) := by rw [e_h115, va_up_neq (nek (a := 50) (b := 81) (by decide))]; exact F_h111__k_50_
  have F_h115__k_51_ : h115 (k + 51) = .inl (1, 36, .inl (fun _ => 0)) := by rw [e_h115, va_up_neq (nek (a := 51) (b := 81) (by decide))]; exact F_h111__k_51_
  have F_h115__k_52_ : h115 (k + 52) = .inl (1, 512, .inl (fun _ => 0)) := by rw [e_h115, va_up_neq (nek (a := 52) (b := 81) (by decide))]; exact F_h111__k_52_
  have F_h115__k_53_ : h115 (k + 53) = .inl (1, 512, .inl (fun _ => 0)) := by rw [e_h115, va_up_neq (nek (a := 53) (b := 81) (by decide))]; exact F_h111__k_53_
  have F_h115__k_33_ : h115 (k + 33) = .inr (8, [.int 35, .ref (k + 34), .ref (k + 35), .ref (k + 36), .ref (k + 37), .ref (k + 38), .ref (k + 39), .int 6, .int 1]) := by rw [e_h115, va_up_neq (nek (a := 33) (b := 81) (by decide))]; exact F_h111__k_33_
  have F_h115__k_34_ : h115 (k + 34) = .inl (1, 36, .inl pA) := by rw [e_h115, va_up_neq (nek (a := 34) (b := 81) (by decide))]; exact F_h111__k_34_
  have F_h115__k_35_ : h115 (k + 35) = .inl (1, 36, .inl (fun _ => 0)) := by rw [e_h115, va_up_neq (nek (a := 35) (b := 81) (by decide))]; exact F_h111__k_35_
  have F_h115__k_36_ : h115 (k + 36) = .inl (1, 36, .inl fA) := by rw [e_h115, va_up_neq (nek (a := 36) (b := 81) (by decide))]; exact F_h111__k_36_
  have F_h115__k_37_ : h115 (k + 37) = .inl (1, 36, .inl wA) := by rw [e_h115, va_up_neq (nek (a := 37) (b := 81) (by decide))]; exact F_h111__k_37_
  have F_h115__k_38_ : h115 (k + 38) = .inl (1, 512, .inl oA) := by rw [e_h115, va_up_neq (nek (a := 38) (b := 81) (by decide))]; exact F_h111__k_38_
  have F_h115__k_39_ : h115 (k + 39) = .inl (1, 512, .inl sA) := by rw [e_h115, va_up_neq (nek (a := 39) (b := 81) (by decide))]; exact F_h111__k_39_
  have F_h115__k_54_ : h115 (k + 54) = .inr (1, [.ref (aBig + 5), .ref (aBig + 6), .int 8, .ref (k + 55), .ref (k + 56), .ref (k + 59), .int 0, .int 0, .int 0, .ref (k + 60), .ref (k + 67), .ref (k + 74), .ref (k + 60), .ref (k + 57), .int 0, .int 0, .int 0, .int 0]) := by rw [e_h115, va_up_neq (nek (a := 54) (b := 81) (by decide))]; exact F_h111__k_54_
  have F_h115__k_55_ : h115 (k + 55) = .inl (1, 2667, .inl (fun _ => 0)) := by rw [e_h115, va_up_neq (nek (a := 55) (b := 81) (by decide))]; exact F_h111__k_55_
  have F_h115__k_56_ : h115 (k + 56) = .inl (1, 2667, .inl (fun _ => 0)) := by rw [e_h115, va_up_neq (nek (a := 56) (b := 81) (by decide))]; exact F_h111__k_56_
  have F_h115__k_57_ : h115 (k + 57) = .inr (7, [.ref (k + 58), .int 0, .int 0, .long 0, .int 0]) := by rw [e_h115, va_up_neq (nek (a := 57) (b := 81) (by decide))]; exact F_h111__k_57_
  have F_h115__k_58_ : h115 (k + 58) = .inl (0, 128, .inl (fun _ => 0)) := by rw [e_h115, va_up_neq (nek (a := 58) (b := 81) (by decide))]; exact F_h111__k_58_
  have F_h115__k_59_ : h115 (k + 59) = .inl (1, 32, .inl (fun _ => 0)) := by rw [e_h115, va_up_neq (nek (a := 59) (b := 81) (by decide))]; exact F_h111__k_59_
  have F_h115__k_67_ : h115 (k + 67) = .inr (8, [.int 31, .ref (k + 68), .ref (k + 69), .ref (k + 70), .ref (k + 71), .ref (k + 72), .ref (k + 73), .int 0, .int 0]) := by rw [e_h115, va_up_neq (nek (a := 67) (b := 81) (by decide))]; exact F_h111__k_67_
  have F_h115__k_68_ : h115 (k + 68) = .inl (1, 32, .inl (fun _ => 0)) := by rw [e_h115, va_up_neq (nek (a := 68) (b := 81) (by decide))]; exact F_h111__k_68_
  have F_h115__k_69_ : h115 (k + 69) = .inl (1, 32, .inl (fun _ => 0)) := by rw [e_h115, va_up_neq (nek (a := 69) (b := 81) (by decide))]; exact F_h111__k_69_
  have F_h115__k_70_ : h115 (k + 70) = .inl (1, 32, .inl (fun _ => 0)) := by rw [e_h115, va_up_neq (nek (a := 70) (b := 81) (by decide))]; exact F_h111__k_70_
  have F_h115__k_71_ : h115 (k + 71) = .inl (1, 32, .inl (fun _ => 0)) := by rw [e_h115, va_up_neq (nek (a := 71) (b := 81) (by decide))]; exact F_h111__k_71_
  have F_h115__k_72_ : h115 (k + 72) = .inl (1, 256, .inl (fun _ => 0)) := by rw [e_h115, va_up_neq (nek (a := 72) (b := 81) (by decide))]; exact F_h111__k_72_
  have F_h115__k_73_ : h115 (k + 73) = .inl (1, 256, .inl (fun _ => 0)) := by rw [e_h115, va_up_neq (nek (a := 73) (b := 81) (by decide))]; exact F_h111__k_73_
  have F_h115__k_74_ : h115 (k + 74) = .inr (8, [.int 31, .ref (k + 75), .ref (k + 76), .ref (k + 77), .ref (k + 78), .ref (k + 79), .ref (k + 80), .int 0, .int 0]) := by rw [e_h115, va_up_neq (nek (a := 74) (b := 81) (by decide))]; exact F_h111__k_74_
  have F_h115__k_75_ : h115 (k + 75) = .inl (1, 32, .inl (fun _ => 0)) := by rw [e_h115, va_up_neq (nek (a := 75) (b := 81) (by decide))]; exact F_h111__k_75_
  have F_h115__k_76_ : h115 (k + 76) = .inl (1, 32, .inl (fun _ => 0)) := by rw [e_h115, va_up_neq (nek (a := 76) (b := 81) (by decide))]; exact F_h111__k_76_
  have F_h115__k_77_ : h115 (k + 77) = .inl (1, 32, .inl (fun _ => 0)) := by rw [e_h115, va_up_neq (nek (a := 77) (b := 81) (by decide))]; exact F_h111__k_77_
  have F_h115__k_78_ : h115 (k + 78) = .inl (1, 32, .inl (fun _ => 0)) := by rw [e_h115, va_up_neq (nek (a := 78) (b := 81) (by decide))]; exact F_h111__k_78_
  have F_h115__k_79_ : h115 (k + 79) = .inl (1, 256, .inl (fun _ => 0)) := by rw [e_h115, va_up_neq (nek (a := 79) (b := 81) (by decide))]; exact F_h111__k_79_
  have F_h115__k_80_ : h115 (k + 80) = .inl (1, 256, .inl (fun _ => 0)) := by rw [e_h115, va_up_neq (nek (a := 80) (b := 81) (by decide))]; exact F_h111__k_80_
  have F_h115__k_60_ : h115 (k + 60) = .inr (8, [.int 31, .ref (k + 61), .ref (k + 62), .ref (k + 63), .ref (k + 64), .ref (k + 65), .ref (k + 66), .int 5, .int 1]) := by rw [e_h115, va_up_neq (nek (a := 60) (b := 81) (by decide))]; exact F_h111__k_60_
  have F_h115__k_61_ : h115 (k + 61) = .inl (1, 32, .inl pB) := by rw [e_h115, va_up_neq (nek (a := 61) (b := 81) (by decide))]; exact F_h111__k_61_
  have F_h115__k_62_ : h115 (k + 62) = .inl (1, 32, .inl (fun _ => 0)) := by rw [e_h115, va_up_neq (nek (a := 62) (b := 81) (by decide))]; exact F_h111__k_62_
  have F_h115__k_63_ : h115 (k + 63) = .inl (1, 32, .inl fB) := by rw [e_h115, va_up_neq (nek (a := 63) (b := 81) (by decide))]; exact F_h111__k_63_
  have F_h115__k_64_ : h115 (k + 64) = .inl (1, 32, .inl wB) := by rw [e_h115, va_up_neq (nek (a := 64) (b := 81) (by decide))]; exact F_h111__k_64_
  have F_h115__k_65_ : h115 (k + 65) = .inl (1, 256, .inl oB) := by rw [e_h115, va_up_neq (nek (a := 65) (b := 81) (by decide))]; exact F_h111__k_65_
  have F_h115__k_66_ : h115 (k + 66) = .inl (1, 256, .inl sB) := by rw [e_h115, va_up_neq (nek (a := 66) (b := 81) (by decide))]; exact F_h111__k_66_
  have F_h115__k_81_ : h115 (k + 81) = .inr (1, zX1) := by rw [e_h115]; exact va_up_eq
  have FR_h115 : ∀ j, j < k ∨ aBig ≤ j → h115 j = h j := fun j hj => by rw [e_h115]; exact (va_up_neq (frne (a := 81) hj hbig (by decide))).trans (FR_h111 j hj)
  clear F_h111_k F_h111__k_1_ F_h111__k_2_ F_h111__k_3_ F_h111__k_4_ F_h111__k_5_ F_h111__k_6_ F_h111__k_7_ F_h111__k_8_ F_h111__k_9_ F_h111__k_10_ F_h111__k_11_ F_h111__k_12_ F_h111__k_13_ F_h111__k_14_ F_h111__k_15_ F_h111__k_16_ F_h111__k_17_ F_h111__k_18_ F_h111__k_19_ F_h111__k_20_ F_h111__k_21_ F_h111__k_22_ F_h111__k_23_ F_h111__k_24_ F_h111__k_25_ F_h111__k_26_ F_h111__k_27_ F_h111__k_28_ F_h111__k_29_ F_h111__k_30_ F_h111__k_31_ F_h111__k_32_ F_h111__k_40_ F_h111__k_41_ F_h111__k_42_ F_h111__k_43_ F_h111__k_44_ F_h111__k_45_ F_h111__k_46_ F_h111__k_47_ F_h111__k_48_ F_h111__k_49_ F_h111__k_50_ F_h111__k_51_ F_h111__k_52_ F_h111__k_53_ F_h111__k_33_ F_h111__k_34_ F_h111__k_35_ F_h111__k_36_ F_h111__k_37_ F_h111__k_38_ F_h111__k_39_ F_h111__k_54_ F_h111__k_55_ F_h111__k_56_ F_h111__k_57_ F_h111__k_58_ F_h111__k_59_ F_h111__k_67_ F_h111__k_68_ F_h111__k_69_ F_h111__k_70_ F_h111__k_71_ F_h111__k_72_ F_h111__k_73_ F_h111__k_74_ F_h111__k_75_ F_h111__k_76_ F_h111__k_77_ F_h111__k_78_ F_h111__k_79_ F_h111__k_80_ F_h111__k_60_ F_h111__k_61_ F_h111__k_62_ F_h111__k_63_ F_h111__k_64_ F_h111__k_65_ F_h111__k_66_ FR_h111 e_h115
  clear h111
  refine WX.s1 rfl rfl ?_
  refine WX.s1 rfl rfl ?_
  refine WX.s1 rfl rfl ?_
  refine WX.s1 rfl rfl ?_
  refine WX.s1 rfl rfl ?_
  refine WX.callC (vs := [.ref (k + 81), .ref (aBig + 7), .ref (aBig + 8), .int 52, .int 9]) rfl rfl rfl (Nat.le_of_ble_eq_true rfl) (rcv_ok (ltk (a := 81) (c := 82) (by decide)) F_h115__k_81_) ?_
  refine n_col_52_9 (k := k + 81) (bigk (k := k) (a := 109) hbig (by decide)) F_h115__k_81_ (fun h129 fr129 cs129 => ?_)
  have F_h129_k : h129 k = .inr (6, [.ref (k + 1), .ref (k + 8), .ref (k + 27), .ref (k + 54), .null, .ref (k + 5), .ref (k + 6), .int 0, .ref (k + 7)]) := (fr129 k (Or.inl (ltk0 (c := 81) (by decide)))).trans F_h115_k
  have F_h129__k_1_ : h129 (k + 1) = .inr (3, [.ref (k + 2), .int 0, .ref (k + 3), .ref (k + 4), .int 0, .int 0, .int 0, .int 0, .int 0, .int 0, .int 0, .int 0, .int 0]) := (fr129 (k + 1) (Or.inl (ltk (a := 1) (c := 81) (by decide)))).trans F_h115__k_1_
  have F_h129__k_2_ : h129 (k + 2) = .inl (0, 16000, .inl (fun _ => 0)) := (fr129 (k + 2) (Or.inl (ltk (a := 2) (c := 81) (by decide)))).trans F_h115__k_2_
  have F_h129__k_3_ : h129 (k + 3) = .inl (1, 16000, .inl (fun _ => 0)) := (fr129 (k + 3) (Or.inl (ltk (a := 3) (c := 81) (by decide)))).trans F_h115__k_3_
  have F_h129__k_4_ : h129 (k + 4) = .inl (1, 4096, .inl (fun _ => 0)) := (fr129 (k + 4) (Or.inl (ltk (a := 4) (c := 81) (by decide)))).trans F_h115__k_4_
  have F_h129__k_5_ : h129 (k + 5) = .inl (1, 3, .inl (fun _ => 0)) := (fr129 (k + 5) (Or.inl (ltk (a := 5) (c := 81) (by decide)))).trans F_h115__k_5_
  have F_h129__k_6_ : h129 (k + 6) = .inl (1, 3, .inl (fun _ => 0)) := (fr129 (k + 6) (Or.inl (ltk (a := 6) (c := 81) (by decide)))).trans F_h115__k_6_
  have F_h129__k_7_ : h129 (k + 7) = .inl (1, 12, .inl (fun _ => 0)) := (fr129 (k + 7) (Or.inl (ltk (a := 7) (c := 81) (by decide)))).trans F_h115__k_7_
  have F_h129__k_8_ : h129 (k + 8) = .inr (5, [.ref (k + 9), .ref (k + 10), .int 0, .ref (k + 11), .ref (k + 15), .ref (k + 19), .ref q, .ref (k + 25), .int 0, .int 0, .int 0, .int 0]) := (fr129 (k + 8) (Or.inl (ltk (a := 8) (c := 81) (by decide)))).trans F_h115__k_8_
  have F_h129__k_9_ : h129 (k + 9) = .inl (0, 8000, .inl (fun _ => 0)) := (fr129 (k + 9) (Or.inl (ltk (a := 9) (c := 81) (by decide)))).trans F_h115__k_9_
  have F_h129__k_10_ : h129 (k + 10) = .inl (1, 256, .inl (fun _ => 0)) := (fr129 (k + 10) (Or.inl (ltk (a := 10) (c := 81) (by decide)))).trans F_h115__k_10_
  have F_h129__k_11_ : h129 (k + 11) = .inr (0, [.ref (k + 12), .ref (k + 13), .ref (k + 14), .int 0, .int 0]) := (fr129 (k + 11) (Or.inl (ltk (a := 11) (c := 81) (by decide)))).trans F_h115__k_11_
  have F_h129__k_12_ : h129 (k + 12) = .inl (1, 256, .inl (fun _ => 0)) := (fr129 (k + 12) (Or.inl (ltk (a := 12) (c := 81) (by decide)))).trans F_h115__k_12_
  have F_h129__k_13_ : h129 (k + 13) = .inl (1, 256, .inl (fun _ => 0)) := (fr129 (k + 13) (Or.inl (ltk (a := 13) (c := 81) (by decide)))).trans F_h115__k_13_
  have F_h129__k_14_ : h129 (k + 14) = .inl (1, 13, .inl (fun _ => 0)) := (fr129 (k + 14) (Or.inl (ltk (a := 14) (c := 81) (by decide)))).trans F_h115__k_14_
  have F_h129__k_15_ : h129 (k + 15) = .inr (0, [.ref (k + 16), .ref (k + 17), .ref (k + 18), .int 0, .int 0]) := (fr129 (k + 15) (Or.inl (ltk (a := 15) (c := 81) (by decide)))).trans F_h115__k_15_
  have F_h129__k_16_ : h129 (k + 16) = .inl (1, 256, .inl (fun _ => 0)) := (fr129 (k + 16) (Or.inl (ltk (a := 16) (c := 81) (by decide)))).trans F_h115__k_16_
  have F_h129__k_17_ : h129 (k + 17) = .inl (1, 256, .inl (fun _ => 0)) := (fr129 (k + 17) (Or.inl (ltk (a := 17) (c := 81) (by decide)))).trans F_h115__k_17_
  have F_h129__k_18_ : h129 (k + 18) = .inl (1, 13, .inl (fun _ => 0)) := (fr129 (k + 18) (Or.inl (ltk (a := 18) (c := 81) (by decide)))).trans F_h115__k_18_
  have F_h129__k_19_ : h129 (k + 19) = .inr (4, [.ref (k + 20), .ref (k + 21), .ref (k + 22), .ref (k + 23), .ref (k + 24)]) := (fr129 (k + 19) (Or.inl (ltk (a := 19) (c := 81) (by decide)))).trans F_h115__k_19_
  have F_h129__k_20_ : h129 (k + 20) = .inl (1, 256, .inl (fun _ => 0)) := (fr129 (k + 20) (Or.inl (ltk (a := 20) (c := 81) (by decide)))).trans F_h115__k_20_
  have F_h129__k_21_ : h129 (k + 21) = .inl (1, 256, .inl (fun _ => 0)) := (fr129 (k + 21) (Or.inl (ltk (a := 21) (c := 81) (by decide)))).trans F_h115__k_21_
  have F_h129__k_22_ : h129 (k + 22) = .inl (1, 512, .inl (fun _ => 0)) := (fr129 (k + 22) (Or.inl (ltk (a := 22) (c := 81) (by decide)))).trans F_h115__k_22_
  have F_h129__k_23_ : h129 (k + 23) = .inl (1, 512, .inl (fun _ => 0)) := (fr129 (k + 23) (Or.inl (ltk (a := 23) (c := 81) (by decide)))).trans F_h115__k_23_
  have F_h129__k_24_ : h129 (k + 24) = .inl (1, 512, .inl (fun _ => 0)) := (fr129 (k + 24) (Or.inl (ltk (a := 24) (c := 81) (by decide)))).trans F_h115__k_24_
  have F_h129__k_25_ : h129 (k + 25) = .inr (7, [.ref (k + 26), .int 0, .int 0, .long 0, .int 0]) := (fr129 (k + 25) (Or.inl (ltk (a := 25) (c := 81) (by decide)))).trans F_h115__k_25_
  have F_h129__k_26_ : h129 (k + 26) = .inl (0, 256, .inl (fun _ => 0)) := (fr129 (k + 26) (Or.inl (ltk (a := 26) (c := 81) (by decide)))).trans F_h115__k_26_
  have F_h129__k_27_ : h129 (k + 27) = .inr (1, [.ref (aBig + 3), .ref (aBig + 4), .int 9, .ref (k + 28), .ref (k + 29), .ref (k + 32), .int 0, .int 0, .int 0, .ref (k + 33), .ref (k + 40), .ref (k + 47), .ref (k + 33), .ref (k + 30), .int 0, .int 0, .int 0, .int 0]) := (fr129 (k + 27) (Or.inl (ltk (a := 27) (c := 81) (by decide)))).trans F_h115__k_27_
  have F_h129__k_28_ : h129 (k + 28) = .inl (1, 2667, .inl (fun _ => 0)) := (fr129 (k + 28) (Or.inl (ltk (a := 28) (c := 81) (by decide)))).trans F_h115__k_28_
  have F_h129__k_29_ : h129 (k + 29) = .inl (1, 2667, .inl (fun _ => 0)) := (fr129 (k + 29) (Or.inl (ltk (a := 29) (c := 81) (by decide)))).trans F_h115__k_29_
  have F_h129__k_30_ : h129 (k + 30) = .inr (7, [.ref (k + 31), .int 0, .int 0, .long 0, .int 0]) := (fr129 (k + 30) (Or.inl (ltk (a := 30) (c := 81) (by decide)))).trans F_h115__k_30_
  have F_h129__k_31_ : h129 (k + 31) = .inl (0, 128, .inl (fun _ => 0)) := (fr129 (k + 31) (Or.inl (ltk (a := 31) (c := 81) (by decide)))).trans F_h115__k_31_
  have F_h129__k_32_ : h129 (k + 32) = .inl (1, 36, .inl (fun _ => 0)) := (fr129 (k + 32) (Or.inl (ltk (a := 32) (c := 81) (by decide)))).trans F_h115__k_32_
  have F_h129__k_40_ : h129 (k + 40) = .inr (8, [.int 35, .ref (k + 41), .ref (k + 42), .ref (k + 43), .ref (k + 44), .ref (k + 45), .ref (k + 46), .int 0, .int 0]) := (fr129 (k + 40) (Or.inl (ltk (a := 40) (c := 81) (by decide)))).trans F_h115__k_40_
  have F_h129__k_41_ : h129 (k + 41) = .inl (1, 36, .inl (fun _ => 0)) := (fr129 (k + 41) (Or.inl (ltk (a := 41) (c := 81) (by decide)))).trans F_h115__k_41_
  have F_h129__k_42_ : h129 (k + 42) = .inl (1, 36, .inl (fun _ => 0)) := (fr129 (k + 42) (Or.inl (ltk (a := 42) (c := 81) (by decide)))).trans F_h115__k_42_
  have F_h129__k_43_ : h129 (k + 43) = .inl (1, 36, .inl (fun _ => 0)) := (fr129 (k + 43) (Or.inl (ltk (a := 43) (c := 81) (by decide)))).trans F_h115__k_43_
  have F_h129__k_44_ : h129 (k + 44) = .inl (1, 36, .inl (fun _ => 0)) := (fr129 (k + 44) (Or.inl (ltk (a := 44) (c := 81) (by decide)))).trans F_h115__k_44_
  have F_h129__k_45_ : h129 (k + 45) = .inl (1, 512, .inl (fun _ => 0)) := (fr129 (k + 45) (Or.inl (ltk (a := 45) (c := 81) (by decide)))).trans F_h115__k_45_
  have F_h129__k_46_ : h129 (k + 46) = .inl (1, 512, .inl (fun _ => 0)) := (fr129 (k + 46) (Or.inl (ltk (a := 46) (c := 81) (by decide)))).trans F_h115__k_46_
  have F_h129__k_47_ : h129 (k + 47) = .inr (8, [.int 35, .ref (k + 48), .ref (k + 49), .ref (k + 50), .ref (k + 51), .ref (k + 52), .ref (k + 53), .int 0, .int 0]) := (fr129 (k + 47) (Or.inl (ltk (a := 47) (c := 81) (by decide)))).trans F_h115__k_47_
  have F_h129__k_48_ : h129 (k + 48) = .inl (1, 36, .inl (fun _ => 0)) := (fr129 (k + 48) (Or.inl (ltk (a := 48) (c := 81) (by decide)))).trans F_h115__k_48_
  have F_h129__k_49_ : h129 (k + 49) = .inl (1, 36, .inl (fun _ => 0)) := (fr129 (k + 49) (Or.inl (ltk (a := 49) (c := 81) (by decide)))).trans F_h115__k_49_
  have F_h129__k_50_ : h129 (k + 50) = .inl (1, 36, .inl (fun _ => 0)) := (fr129 (k + 50) (Or.inl (ltk (a := 50) (c := 81) (by decide)))).trans F_h115__k_50_
  have F_h129__k_51_ : h129 (k + 51) = .inl (1, 36, .inl (fun _ => 0)) := (fr129 (k + 51) (Or.inl (ltk (a := 51) (c := 81) (by decide)))).trans F_h115__k_51_
  have F_h129__k_52_ : h129 (k + 52) = .inl (1, 512, .inl (fun _ => 0)) := (fr129 (k + 52) (Or.inl (ltk (a := 52) (c := 81) (by decide)))).trans F_h115__k_52_
  have F_h129__k_53_ : h129 (k + 53) = .inl (1, 512, .inl (fun _ => 0)) := (fr129 (k + 53) (Or.inl (ltk (a := 53) (c := 81) (by decide)))).trans F_h115__k_53_
  have F_h129__k_33_ : h129 (k + 33) = .inr (8, [.int 35, .ref (k + 34), .ref (k + 35), .ref (k + 36), .ref (k + 37), .ref (k + 38), .ref (k + 39), .int 6, .int 1]) := (fr129 (k + 33) (Or.inl (ltk (a := 33) (c := 81) (by decide)))).trans F_h115__k_33_
  have F_h129__k_34_ : h129 (k + 34) = .inl (1, 36, .inl pA) := (fr129 (k + 34) (Or.inl (ltk (a := 34) (c := 81) (by decide)))).trans F_h115__k_34_
  have F_h129__k_35_ : h129 (k + 35) = .inl (1, 36, .inl (fun _ => 0)) := (fr129 (k + 35) (Or.inl (ltk (a := 35) (c := 81) (by decide)))).trans F_h115__k_35_
  have F_h129__k_36_ : h129 (k + 36) = .inl (1, 36, .inl fA) := (fr129 (k + 36) (Or.inl (ltk (a := 36) (c := 81) (by decide)))).trans F_h115__k_36_
  have F_h129__k_37_ : h129 (k + 37) = .inl (1, 36, .inl wA) := (fr129 (k + 37) (Or.inl (ltk (a := 37) (c := 81) (by decide)))).trans F_h115__k_37_
  have F_h129__k_38_ : h129 (k + 38) = .inl (1, 512, .inl oA) := (fr129 (k + 38) (Or.inl (ltk (a := 38) (c := 81) (by decide)))).trans F_h115__k_38_
  have F_h129__k_39_ : h129 (k + 39) = .inl (1, 512, .inl sA) := (fr129 (k + 39) (Or.inl (ltk (a := 39) (c := 81) (by decide)))).trans F_h115__k_39_
  have F_h129__k_54_ : h129 (k + 54) = .inr (1, [.ref (aBig + 5), .ref (aBig + 6), .int 8, .ref (k + 55), .ref (k + 56), .ref (k + 59), .int 0, .int 0, .int 0, .ref (k + 60), .ref (k + 67), .ref (k + 74), .ref (k + 60), .ref (k + 57), .int 0, .int 0, .int 0, .int 0]) := (fr129 (k + 54) (Or.inl (ltk (a := 54) (c := 81) (by decide)))).trans F_h115__k_54_
  have F_h129__k_55_ : h129 (k + 55) = .inl (1, 2667, .inl (fun _ => 0)) := (fr129 (k + 55) (Or.inl (ltk (a := 55) (c := 81) (by decide)))).trans F_h115__k_55_
  have F_h129__k_56_ : h129 (k + 56) = .inl (1, 2667, .inl (fun _ => 0)) := (fr129 (k + 56) (Or.inl (ltk (a := 56) (c := 81) (by decide)))).trans F_h115__k_56_
  have F_h129__k_57_ : h129 (k + 57) = .inr (7, [.ref (k + 58), .int 0, .int 0, .long 0, .int 0]) := (fr129 (k + 57) (Or.inl (ltk (a := 57) (c := 81) (by decide)))).trans F_h115__k_57_
  have F_h129__k_58_ : h129 (k + 58) = .inl (0, 128, .inl (fun _ => 0)) := (fr129 (k + 58) (Or.inl (ltk (a := 58) (c := 81) (by decide)))).trans F_h115__k_58_
  have F_h129__k_59_ : h129 (k + 59) = .inl (1, 32, .inl (fun _ => 0)) := (fr129 (k + 59) (Or.inl (ltk (a := 59) (c := 81) (by decide)))).trans F_h115__k_59_
  have F_h129__k_67_ : h129 (k + 67) = .inr (8, [.int 31, .ref (k + 68), .ref (k + 69), .ref (k + 70), .ref (k + 71), .ref (k + 72), .ref (k + 73), .int 0, .int 0]) := (fr129 (k + 67) (Or.inl (ltk (a := 67) (c := 81) (by decide)))).trans F_h115__k_67_
  have F_h129__k_68_ : h129 (k + 68) = .inl (1, 32, .inl (fun _ => 0)) := (fr129 (k + 68) (Or.inl (ltk (a := 68) (c := 81) (by decide)))).trans F_h115__k_68_
  have F_h129__k_69_ : h129 (k + 69) = .inl (1, 32, .inl (fun _ => 0)) := (fr129 (k + 69) (Or.inl (ltk (a := 69) (c := 81) (by decide)))).trans F_h115__k_69_
  have F_h129__k_70_ : h129 (k + 70) = .inl (1, 32, .inl (fun _ => 0)) := (fr129 (k + 70) (Or.inl (ltk (a := 70) (c := 81) (by decide)))).trans F_h115__k_70_
  have F_h129__k_71_ : h129 (k + 71) = .inl (1, 32, .inl (fun _ => 0)) := (fr129 (k + 71) (Or.inl (ltk (a := 71) (c := 81) (by decide)))).trans F_h115__k_71_
  have F_h129__k_72_ : h129 (k + 72) = .inl (1, 256, .inl (fun _ => 0)) := (fr129 (k + 72) (Or.inl (ltk (a := 72) (c := 81) (by decide)))).trans F_h115__k_72_
  have F_h129__k_73_ : h129 (k + 73) = .inl (1, 256, .inl (fun _ => 0)) := (fr129 (k + 73) (Or.inl (ltk (a := 73) (c := 81) (by decide)))).trans F_h115__k_73_
  have F_h129__k_74_ : h129 (k + 74) = .inr (8, [.int 31, .ref (k + 75), .ref (k + 76), .ref (k + 77), .ref (k + 78), .ref (k + 79), .ref (k + 80), .int 0, .int 0]) := (fr129 (k + 74) (Or.inl (ltk (a := 74) (c := 81) (by decide)))).trans F_h115__k_74_
  have F_h129__k_75_ : h129 (k + 75) = .inl (1, 32, .inl (fun _ => 0)) := (fr129 (k + 75) (Or.inl (ltk (a := 75) (c := 81) (by decide)))).trans F_h115__k_75_
  have F_h129__k_76_ : h129 (k + 76) = .inl (1, 32, .inl (fun _ => 0)) := (fr129 (k + 76) (Or.inl (ltk (a := 76) (c := 81) (by decide)))).trans F_h115__k_76_
  have F_h129__k_77_ : h129 (k + 77) = .inl (1, 32, .inl (fun _ => 0)) := (fr129 (k + 77) (Or.inl (ltk (a := 77) (c := 81) (by decide)))).trans F_h115__k_77_
  have F_h129__k_78_ : h129 (k + 78) = .inl (1, 32, .inl (fun _ => 0)) := (fr129 (k + 78) (Or.inl (ltk (a := 78) (c := 81) (by decide)))).trans F_h115__k_78_
  have F_h129__k_79_ : h129 (k + 79) = .inl (1, 256, .inl (fun _ => 0)) := (fr129 (k + 79) (Or.inl (ltk (a := 79) (c := 81) (by decide)))).trans F_h115__k_79_
  have F_h129__k_80_ : h129 (k + 80) = .inl (1, 256, .inl (fun _ => 0)) := (fr129 (k + 80) (Or.inl (ltk (a := 80) (c := 81) (by decide)))).trans F_h115__k_80_
  have F_h129__k_60_ : h129 (k + 60) = .inr (8, [.int 31, .ref (k + 61), .ref (k + 62), .ref (k + 63), .ref (k + 64), .ref (k + 65), .ref (k + 66), .int 5, .int 1]) := (fr129 (k + 60) (Or.inl (ltk (a := 60) (c := 81) (by decide)))).trans F_h115__k_60_
  have F_h129__k_61_ : h129 (k + 61) = .inl (1, 32, .inl pB) := (fr129 (k + 61) (Or.inl (ltk (a := 61) (c := 81) (by decide)))).trans F_h115__k_61_
  have F_h129__k_62_ : h129 (k + 62) = .inl (1, 32, .inl (fun _ => 0)) := (fr129 (k + 62) (Or.inl (ltk (a := 62) (c := 81) (by decide)))).trans F_h115__k_62_
  have F_h129__k_63_ : h129 (k + 63) = .inl (1, 32, .inl fB) := (fr129 (k + 63) (Or.inl (ltk (a := 63) (c := 81) (by decide)))).trans F_h115__k_63_
  have F_h129__k_64_ : h129 (k + 64) = .inl (1, 32, .inl wB) := (fr129 (k + 64) (Or.inl (ltk (a := 64) (c := 81) (by decide)))).trans F_h115__k_64_
  have F_h129__k_65_ : h129 (k + 65) = .inl (1, 256, .inl oB) := (fr129 (k + 65) (Or.inl (ltk (a := 65) (c := 81) (by decide)))).trans F_h115__k_65_
  have F_h129__k_66_ : h129 (k + 66) = .inl (1, 256, .inl sB) := (fr129 (k + 66) (Or.inl (ltk (a := 66) (c := 81) (by decide)))).trans F_h115__k_66_
  have F_h129__k_81_ : h129 (k + 81) = .inr (1, [.ref (aBig + 7), .ref (aBig + 8), .int 9, .ref (k + 82), .ref (k + 83), .ref (k + 86), .int 0, .int 0, .int 0, .ref (k + 87), .ref (k + 94), .ref (k + 101), .ref (k + 87), .ref (k + 84), .int 0, .int 0, .int 0, .int 0]) := cs129.1
  have F_h129__k_82_ : h129 (k + 82) = .inl (1, 2667, .inl (fun _ => 0)) := cs129.2.1
  have F_h129__k_83_ : h129 (k + 83) = .inl (1, 2667, .inl (fun _ => 0)) := cs129.2.2.1
  have F_h129__k_84_ : h129 (k + 84) = .inr (7, [.ref (k + 85), .int 0, .int 0, .long 0, .int 0]) := cs129.2.2.2.1
  have F_h129__k_85_ : h129 (k + 85) = .inl (0, 128, .inl (fun _ => 0)) := cs129.2.2.2.2.1
  have F_h129__k_86_ : h129 (k + 86) = .inl (1, 53, .inl (fun _ => 0)) := cs129.2.2.2.2.2.1
  have F_h129__k_87_ : h129 (k + 87) = .inr (8, [.int 52, .ref (k + 88), .ref (k + 89), .ref (k + 90), .ref (k + 91), .ref (k + 92), .ref (k + 93), .int 0, .int 0]) := cs129.2.2.2.2.2.2.1
  have F_h129__k_88_ : h129 (k + 88) = .inl (1, 53, .inl (fun _ => 0)) := cs129.2.2.2.2.2.2.2.1
  have F_h129__k_89_ : h129 (k + 89) = .inl (1, 53, .inl (fun _ => 0)) := cs129.2.2.2.2.2.2.2.2.1
  have F_h129__k_90_ : h129 (k + 90) = .inl (1, 53, .inl (fun _ => 0)) := cs129.2.2.2.2.2.2.2.2.2.1
  have F_h129__k_91_ : h129 (k + 91) = .inl (1, 53, .inl (fun _ => 0)) := cs129.2.2.2.2.2.2.2.2.2.2.1
  have F_h129__k_92_ : h129 (k + 92) = .inl (1, 512, .inl (fun _ => 0)) := cs129.2.2.2.2.2.2.2.2.2.2.2.1
  have F_h129__k_93_ : h129 (k + 93) = .inl (1, 512, .inl (fun _ => 0)) := cs129.2.2.2.2.2.2.2.2.2.2.2.2.1
  have F_h129__k_94_ : h129 (k + 94) = .inr (8, [.int 52, .ref (k + 95), .ref (k + 96), .ref (k + 97), .ref (k + 98), .ref (k + 99), .ref (k + 100), .int 0, .int 0]) := cs129.2.2.2.2.2.2.2.2.2.2.2.2.2.1
  have F_h129__k_95_ : h129 (k + 95) = .inl (1, 53, .inl (fun _ => 0)) := cs129.2.2.2.2.2.2.2.2.2.2.2.2.2.2.1
  have F_h129__k_96_ : h129 (k + 96) = .inl (1, 53, .inl (fun _ => 0)) := cs129.2.2.2.2.2.2.2.2.2.2.2.2.2.2.2.1
  have F_h129__k_97_ : h129 (k + 97) = .inl (1, 53, .inl (fun _ => 0)) := cs129.2.2.2.2.2.2.2.2.2.2.2.2.2.2.2.2.1
  have F_h129__k_98_ : h129 (k + 98) = .inl (1, 53, .inl (fun _ => 0)) := cs129.2.2.2.2.2.2.2.2.2.2.2.2.2.2.2.2.2.1
  have F_h129__k_99_ : h129 (k + 99) = .inl (1, 512, .inl (fun _ => 0)) := cs129.2.2.2.2.2.2.2.2.2.2.2.2.2.2.2.2.2.2.1
  have F_h129__k_100_ : h129 (k + 100) = .inl (1, 512, .inl (fun _ => 0)) := cs129.2.2.2.2.2.2.2.2.2.2.2.2.2.2.2.2.2.2.2.1
  have F_h129__k_101_ : h129 (k + 101) = .inr (8, [.int 52, .ref (k + 102), .ref (k + 103), .ref (k + 104), .ref (k + 105), .ref (k + 106), .ref (k + 107), .int 0, .int 0]) := cs129.2.2.2.2.2.2.2.2.2.2.2.2.2.2.2.2.2.2.2.2.1
  have F_h129__k_102_ : h129 (k + 102) = .inl (1, 53, .inl (fun _ => 0)) := cs129.2.2.2.2.2.2.2.2.2.2.2.2.2.2.2.2.2.2.2.2.2.1
  have F_h129__k_103_ : h129 (k + 103) = .inl (1, 53, .inl (fun _ => 0)) := cs129.2.2.2.2.2.2.2.2.2.2.2.2.2.2.2.2.2.2.2.2.2.2.1
  have F_h129__k_104_ : h129 (k + 104) = .inl (1, 53, .inl (fun _ => 0)) := cs129.2.2.2.2.2.2.2.2.2.2.2.2.2.2.2.2.2.2.2.2.2.2.2.1
  have F_h129__k_105_ : h129 (k + 105) = .inl (1, 53, .inl (fun _ => 0)) := cs129.2.2.2.2.2.2.2.2.2.2.2.2.2.2.2.2.2.2.2.2.2.2.2.2.1
  have F_h129__k_106_ : h129 (k + 106) = .inl (1, 512, .inl (fun _ => 0)) := cs129.2.2.2.2.2.2.2.2.2.2.2.2.2.2.2.2.2.2.2.2.2.2.2.2.2.1
  have F_h129__k_107_ : h129 (k + 107) = .inl (1, 512, .inl (fun _ => 0)) := cs129.2.2.2.2.2.2.2.2.2.2.2.2.2.2.2.2.2.2.2.2.2.2.2.2.2.2.1
  have FR_h129 : ∀ j, j < k ∨ aBig ≤ j → h129 j = h j := fun j hj => (fr129 j (hj.imp (fun z => Nat.lt_of_lt_of_le z (Nat.le_add_right _ _)) (fun z => z))).trans (FR_h115 j hj)
  clear F_h115_k F_h115__k_1_ F_h115__k_2_ F_h115__k_3_ F_h115__k_4_ F_h115__k_5_ F_h115__k_6_ F_h115__k_7_ F_h115__k_8_ F_h115__k_9_ F_h115__k_10_ F_h115__k_11_ F_h115__k_12_ F_h115__k_13_ F_h115__k_14_ F_h115__k_15_ F_h115__k_16_ F_h115__k_17_ F_h115__k_18_ F_h115__k_19_ F_h115__k_20_ F_h115__k_21_ F_h115__k_22_ F_h115__k_23_ F_h115__k_24_ F_h115__k_25_ F_h115__k_26_ F_h115__k_27_ F_h115__k_28_ F_h115__k_29_ F_h115__k_30_ F_h115__k_31_ F_h115__k_32_ F_h115__k_40_ F_h115__k_41_ F_h115__k_42_ F_h115__k_43_ F_h115__k_44_ F_h115__k_45_ F_h115__k_46_ F_h115__k_47_ F_h115__k_48_ F_h115__k_49_ F_h115__k_50_ F_h115__k_51_ F_h115__k_52_ F_h115__k_53_ F_h115__k_33_ F_h115__k_34_ F_h115__k_35_ F_h115__k_36_ F_h115__k_37_ F_h115__k_38_ F_h115__k_39_ F_h115__k_54_ F_h115__k_55_ F_h115__k_56_ F_h115__k_57_ F_h115__k_58_ F_h115__k_59_ F_h115__k_67_ F_h115__k_68_ F_h115__k_69_ F_h115__k_70_ F_h115__k_71_ F_h115__k_72_ F_h115__k_73_ F_h115__k_74_ F_h115__k_75_ F_h115__k_76_ F_h115__k_77_ F_h115__k_78_ F_h115__k_79_ F_h115__k_80_ F_h115__k_60_ F_h115__k_61_ F_h115__k_62_ F_h115__k_63_ F_h115__k_64_ F_h115__k_65_ F_h115__k_66_ F_h115__k_81_ FR_h115 fr129 cs129
  clear h115
  show WX _ _ _ 132 [(0, .ref k), (1, .ref q)] [.ref (k + 81), .ref k] (k + 108, s + 13 + 36096 + 3 + 3 + 12 + 12 + 11630 + 18 + 9034 + 18 + 7446 + 18 + 9255, h129)
  refine WX.put1 (fs := [.ref (k + 1), .ref (k + 8), .ref (k + 27), .ref (k + 54), .null, .ref (k + 5), .ref (k + 6), .int 0, .ref (k + 7)]) (fs' := [.ref (k + 1), .ref (k + 8), .ref (k + 27), .ref (k + 54), .ref (k + 81), .ref (k + 5), .ref (k + 6), .int 0, .ref (k + 7)]) rfl (ltk0 (c := 108) (by decide)) (F_h129_k) (Nat.le_of_ble_eq_true rfl) (rfl) rfl (fun h132 e_h132 => ?_)
  have F_h132_k : h132 k = .inr (6, [.ref (k + 1), .ref (k + 8), .ref (k + 27), .ref (k + 54), .ref (k + 81), .ref (k + 5), .ref (k + 6), .int 0, .ref (k + 7)]) := by rw [e_h132]; exact va_up_eq
  have F_h132__k_1_ : h132 (k + 1) = .inr (3, [.ref (k + 2), .int 0, .ref (k + 3), .ref (k + 4), .int 0, .int 0, .int 0, .int 0, .int 0, .int 0, .int 0, .int 0, .int 0]) := by rw [e_h132, va_up_neq (nek0 (a := 1) (by decide))]; exact F_h129__k_1_
  have F_h132__k_2_ : h132 (k + 2) = .inl (0, 16000, .inl (fun _ => 0)) := by rw [e_h132, va_up_neq (nek0 (a := 2) (by decide))]; exact F_h129__k_2_
  have F_h132__k_3_ : h132 (k + 3) = .inl (1, 16000, .inl (fun _ => 0)) := by rw [e_h132, va_up_neq (nek0 (a := 3) (by decide))]; exact F_h129__k_3_
  have F_h132__k_4_ : h132 (k + 4) = .inl (1, 4096, .inl (fun _ => 0)) := by rw [e_h132, va_up_neq (nek0 (a := 4) (by decide))]; exact F_h129__k_4_
  have F_h132__k_5_ : h132 (k + 5) = .inl (1, 3, .inl (fun _ => 0)) := by rw [e_h132, va_up_neq (nek0 (a := 5) (by decide))]; exact F_h129__k_5_
  have F_h132__k_6_ : h132 (k + 6) = .inl (1, 3, .inl (fun _ => 0)) := by rw [e_h132, va_up_neq (nek0 (a := 6) (by decide))]; exact F_h129__k_6_
  have F_h132__k_7_ : h132 (k + 7) = .inl (1, 12, .inl (fun _ => 0)) := by rw [e_h132, va_up_neq (nek0 (a := 7) (by decide))]; exact F_h129__k_7_
  have F_h132__k_8_ : h132 (k + 8) = .inr (5, [.ref (k + 9), .ref (k + 10), .int 0, .ref (k + 11), .ref (k + 15), .ref (k + 19), .ref q, .ref (k + 25), .int 0, .int 0, .int 0, .int 0]) := by rw [e_h132, va_up_neq (nek0 (a := 8) (by decide))]; exact F_h129__k_8_
  have F_h132__k_9_ : h132 (k + 9) = .inl (0, 8000, .inl (fun _ => 0)) := by rw [e_h132, va_up_neq (nek0 (a := 9) (by decide))]; exact F_h129__k_9_
  have F_h132__k_10_ : h132 (k + 10) = .inl (1, 256, .inl (fun _ => 0)) := by rw [e_h132, va_up_neq (nek0 (a := 10) (by decide))]; exact F_h129__k_10_
  have F_h132__k_11_ : h132 (k + 11) = .inr (0, [.ref (k + 12), .ref (k + 13), .ref (k + 14), .int 0, .int 0]) := by rw [e_h132, va_up_neq (nek0 (a := 11) (by decide))]; exact F_h129__k_11_
  have F_h132__k_12_ : h132 (k + 12) = .inl (1, 256, .inl (fun _ => 0)) := by rw [e_h132, va_up_neq (nek0 (a := 12) (by decide))]; exact F_h129__k_12_
  have F_h132__k_13_ : h132 (k + 13) = .inl (1, 256, .inl (fun _ => 0)) := by rw [e_h132, va_up_neq (nek0 (a := 13) (by decide))]; exact F_h129__k_13_
  have F_h132__k_14_ : h132 (k + 14) = .inl (1, 13, .inl (fun _ => 0)) := by rw [e_h132, va_up_neq (nek0 (a := 14) (by decide))]; exact F_h129__k_14_
  have F_h132__k_15_ : h132 (k + 15) = .inr (0, [.ref (k + 16), .ref (k + 17), .ref (k + 18), .int 0, .int 0]) := by rw [e_h132, va_up_neq (nek0 (a := 15) (by decide))]; exact F_h129__k_15_
  have F_h132__k_16_ : h132 (k + 16) = .inl (1, 256, .inl (fun _ => 0)) := by rw [e_h132, va_up_neq (nek0 (a := 16) (by decide))]; exact F_h129__k_16_
  have F_h132__k_17_ : h132 (k + 17) = .inl (1, 256, .inl (fun _ => 0)) := by rw [e_h132, va_up_neq (nek0 (a := 17) (by decide))]; exact F_h129__k_17_
  have F_h132__k_18_ : h132 (k + 18) = .inl (1, 13, .inl (fun _ => 0)) := by rw [e_h132, va_up_neq (nek0 (a := 18) (by decide))]; exact F_h129__k_18_
  have F_h132__k_19_ : h132 (k + 19) = .inr (4, [.ref (k + 20), .ref (k + 21), .ref (k + 22), .ref (k + 23), .ref (k + 24)]) := by rw [e_h132, va_up_neq (nek0 (a := 19) (by decide))]; exact F_h129__k_19_
  have F_h132__k_20_ : h132 (k + 20) = .inl (1, 256, .inl (fun _ => 0)) := by rw [e_h132, va_up_neq (nek0 (a := 20) (by decide))]; exact F_h129__k_20_
  have F_h132__k_21_ : h132 (k + 21) = .inl (1, 256, .inl (fun _ => 0)) := by rw [e_h132, va_up_neq (nek0 (a := 21) (by decide))]; exact F_h129__k_21_
  have F_h132__k_22_ : h132 (k + 22) = .inl (1, 512, .inl (fun _ => 0)) := by rw [e_h132, va_up_neq (nek0 (a := 22) (by decide))]; exact F_h129__k_22_
  have F_h132__k_23_ : h132 (k + 23) = .inl (1, 512, .inl (fun _ => 0)) := by rw [e_h132, va_up_neq (nek0 (a := 23) (by decide))]; exact F_h129__k_23_
  have F_h132__k_24_ : h132 (k + 24) = .inl (1, 512, .inl (fun _ => 0)) := by rw [e_h132, va_up_neq (nek0 (a := 24) (by decide))]; exact F_h129__k_24_
  have F_h132__k_25_ : h132 (k + 25) = .inr (7, [.ref (k + 26), .int 0, .int 0, .long 0, .int 0]) := by rw [e_h132, va_up_neq (nek0 (a := 25) (by decide))]; exact F_h129__k_25_
  have F_h132__k_26_ : h132 (k + 26) = .inl (0, 256, .inl (fun _ => 0)) := by rw [e_h132, va_up_neq (nek0 (a := 26) (by decide))]; exact F_h129__k_26_
  have F_h132__k_27_ : h132 (k + 27) = .inr (1, [.ref (aBig + 3), .ref (aBig + 4), .int 9, .ref (k + 28), .ref (k + 29), .ref (k + 32), .int 0, .int 0, .int 0, .ref (k + 33), .ref (k + 40), .ref (k + 47), .ref (k + 33), .ref (k + 30), .int 0, .int 0, .int 0, .int 0]) := by rw [e_h132, va_up_neq (nek0 (a := 27) (by decide))]; exact F_h129__k_27_
  have F_h132__k_28_ : h132 (k + 28) = .inl (1, 2667, .inl (fun _ => 0)) := by rw [e_h132, va_up_neq (nek0 (a := 28) (by decide))]; exact F_h129__k_28_
  have F_h132__k_29_ : h132 (k + 29) = .inl (1, 2667, .inl (fun _ => 0)) := by rw [e_h132, va_up_neq (nek0 (a := 29) (by decide))]; exact F_h129__k_29_
  have F_h132__k_30_ : h132 (k + 30) = .inr (7, [.ref (k + 31), .int 0, .int 0, .long 0, .int 0]) := by rw [e_h132, va_up_neq (nek0 (a := 30) (by decide))]; exact F_h129__k_30_
  have F_h132__k_31_ : h132 (k + 31) = .inl (0, 128, .inl (fun _ => 0)) := by rw [e_h132, va_up_neq (nek0 (a := 31) (by decide))]; exact F_h129__k_31_
  have F_h132__k_32_ : h132 (k + 32) = .inl (1, 36, .inl (fun _ => 0)) := by rw [e_h132, va_up_neq (nek0 (a := 32) (by decide))]; exact F_h129__k_32_
  have F_h132__k_40_ : h132 (k + 40) = .inr (8, [.int 35, .ref (k + 41), .ref (k + 42), .ref (k + 43), .ref (k + 44), .ref (k + 45), .ref (k + 46), .int 0, .int 0]) := by rw [e_h132, va_up_neq (nek0 (a := 40) (by decide))]; exact F_h129__k_40_
  have F_h132__k_41_ : h132 (k + 41) = .inl (1, 36, .inl (fun _ => 0)) := by rw [e_h132, va_up_neq (nek0 (a := 41) (by decide))]; exact F_h129__k_41_
  have F_h132__k_42_ : h132 (k + 42) = .inl (1, 36, .inl (fun _ => 0)) := by rw [e_h132, va_up_neq (nek0 (a := 42) (by decide))]; exact F_h129__k_42_
  have F_h132__k_43_ : h132 (k + 43) = .inl (1, 36, .inl (fun _ => 0)) := by rw [e_h132, va_up_neq (nek0 (a := 43) (by decide))]; exact F_h129__k_43_
  have F_h132__k_44_ : h132 (k + 44) = .inl (1, 36, .inl (fun _ => 0)) := by rw [e_h132, va_up_neq (nek0 (a := 44) (by decide))]; exact F_h129__k_44_
  have F_h132__k_45_ : h132 (k + 45) = .inl (1, 512, .inl (fun _ => 0)) := by rw [e_h132, va_up_neq (nek0 (a := 45) (by decide))]; exact F_h129__k_45_
  have F_h132__k_46_ : h132 (k + 46) = .inl (1, 512, .inl (fun _ => 0)) := by rw [e_h132, va_up_neq (nek0 (a := 46) (by decide))]; exact F_h129__k_46_
  have F_h132__k_47_ : h132 (k + 47) = .inr (8, [.int 35, .ref (k + 48), .ref (k + 49), .ref (k + 50), .ref (k + 51), .ref (k + 52), .ref (k + 53), .int 0, .int 0]) := by rw [e_h132, va_up_neq (nek0 (a := 47) (by decide))]; exact F_h129__k_47_
  have F_h132__k_48_ : h132 (k + 48) = .inl (1, 36, .inl (fun _ => 0)) := by rw [e_h132, va_up_neq (nek0 (a := 48) (by decide))]; exact F_h129__k_48_
  have F_h132__k_49_ : h132 (k + 49) = .inl (1, 36, .inl (fun _ => 0)) := by rw [e_h132, va_up_neq (nek0 (a := 49) (by decide))]; exact F_h129__k_49_
  have F_h132__k_50_ : h132 (k + 50) = .inl (1, 36, .inl (fun _ => 0)) := by rw [e_h132, va_up_neq (nek0 (a := 50) (by decide))]; exact F_h129__k_50_
  have F_h132__k_51_ : h132 (k + 51) = .inl (1, 36, .inl (fun _ => 0)) := by rw [e_h132, va_up_neq (nek0 (a := 51) (by decide))]; exact F_h129__k_51_
  have F_h132__k_52_ : h132 (k + 52) = .inl (1, 512, .inl (fun _ => 0)) := by rw [e_h132, va_up_neq (nek0 (a := 52) (by decide))]; exact F_h129__k_52_
  have F_h132__k_53_ : h132 (k + 53) = .inl (1, 512, .inl (fun _ => 0)) := by rw [e_h132, va_up_neq (nek0 (a := 53) (by decide))]; exact F_h129__k_53_
  have F_h132__k_33_ : h132 (k + 33) = .inr (8, [.int 35, .ref (k + 34), .ref (k + 35), .ref (k + 36), .ref (k + 37), .ref (k + 38), .ref (k + 39), .int 6, .int 1]) := by rw [e_h132, va_up_neq (nek0 (a := 33) (by decide))]; exact F_h129__k_33_
  have F_h132__k_34_ : h132 (k + 34) = .inl (1, 36, .inl pA) := by rw [e_h132, va_up_neq (nek0 (a := 34) (by decide))]; exact F_h129__k_34_
  have F_h132__k_35_ : h132 (k + 35) = .inl (1, 36, .inl (fun _ => 0)) := by rw [e_h132, va_up_neq (nek0 (a := 35) (by decide))]; exact F_h129__k_35_
  have F_h132__k_36_ : h132 (k + 36) = .inl (1, 36, .inl fA) := by rw [e_h132, va_up_neq (nek0 (a := 36) (by decide))]; exact F_h129__k_36_
  have F_h132__k_37_ : h132 (k + 37) = .inl (1, 36, .inl wA) := by rw [e_h132, va_up_neq (nek0 (a := 37) (by decide))]; exact F_h129__k_37_
  have F_h132__k_38_ : h132 (k + 38) = .inl (1, 512, .inl oA) := by rw [e_h132, va_up_neq (nek0 (a := 38) (by decide))]; exact F_h129__k_38_
  have F_h132__k_39_ : h132 (k + 39) = .inl (1, 512, .inl sA) := by rw [e_h132, va_up_neq (nek0 (a := 39) (by decide))]; exact F_h129__k_39_
  have F_h132__k_54_ : h132 (k + 54) = .inr (1, [.ref (aBig + 5), .ref (aBig + 6), .int 8, .ref (k + 55), .ref (k + 56), .ref (k + 59), .int 0, .int 0, .int 0, .ref (k + 60), .ref (k + 67), .ref (k + 74), .ref (k + 60), .ref (k + 57), .int 0, .int 0, .int 0, .int 0]) := by rw [e_h132, va_up_neq (nek0 (a := 54) (by decide))]; exact F_h129__k_54_
  have F_h132__k_55_ : h132 (k + 55) = .inl (1, 2667, .inl (fun _ => 0)) := by rw [e_h132, va_up_neq (nek0 (a := 55) (by decide))]; exact F_h129__k_55_
  have F_h132__k_56_ : h132 (k + 56) = .inl (1, 2667, .inl (fun _ => 0)) := by rw [e_h132, va_up_neq (nek0 (a := 56) (by decide))]; exact F_h129__k_56_
  have F_h132__k_57_ : h132 (k + 57) = .inr (7, [.ref (k + 58), .int 0, .int 0, .long 0, .int 0]) := by rw [e_h132, va_up_neq (nek0 (a := 57) (by decide))]; exact F_h129__k_57_
  have F_h132__k_58_ : h132 (k + 58) = .inl (0, 128, .inl (fun _ => 0)) := by rw [e_h132, va_up_neq (nek0 (a := 58) (by decide))]; exact F_h129__k_58_
  have F_h132__k_59_ : h132 (k + 59) = .inl (1, 32, .inl (fun _ => 0)) := by rw [e_h132, va_up_neq (nek0 (a := 59) (by decide))]; exact F_h129__k_59_
  have F_h132__k_67_ : h132 (k + 67) = .inr (8, [.int 31, .ref (k + 68), .ref (k + 69), .ref (k + 70), .ref (k + 71), .ref (k + 72), .ref (k + 73), .int 0, .int 0]) := by rw [e_h132, va_up_neq (nek0 (a := 67) (by decide))]; exact F_h129__k_67_
  have F_h132__k_68_ : h132 (k + 68) = .inl (1, 32, .inl (fun _ => 0)) := by rw [e_h132, va_up_neq (nek0 (a := 68) (by decide))]; exact F_h129__k_68_
  have F_h132__k_69_ : h132 (k + 69) = .inl (1, 32, .inl (fun _ => 0)) := by rw [e_h132, va_up_neq (nek0 (a := 69) (by decide))]; exact F_h129__k_69_
  have F_h132__k_70_ : h132 (k + 70) = .inl (1, 32, .inl (fun _ => 0)) := by rw [e_h132, va_up_neq (nek0 (a := 70) (by decide))]; exact F_h129__k_70_
  have F_h132__k_71_ : h132 (k + 71) = .inl (1, 32, .inl (fun _ => 0)) := by rw [e_h132, va_up_neq (nek0 (a := 71) (by decide))]; exact F_h129__k_71_
  have F_h132__k_72_ : h132 (k + 72) = .inl (1, 256, .inl (fun _ => 0)) := by rw [e_h132, va_up_neq (nek0 (a := 72) (by decide))]; exact F_h129__k_72_
  have F_h132__k_73_ : h132 (k + 73) = .inl (1, 256, .inl (fun _ => 0)) := by rw [e_h132, va_up_neq (nek0 (a := 73) (by decide))]; exact F_h129__k_73_
  have F_h132__k_74_ : h132 (k + 74) = .inr (8, [.int 31, .ref (k + 75), .ref (k + 76), .ref (k + 77), .ref (k + 78), .ref (k + 79), .ref (k + 80), .int 0, .int 0]) := by rw [e_h132, va_up_neq (nek0 (a := 74) (by decide))]; exact F_h129__k_74_
  have F_h132__k_75_ : h132 (k + 75) = .inl (1, 32, .inl (fun _ => 0)) := by rw [e_h132, va_up_neq (nek0 (a := 75) (by decide))]; exact F_h129__k_75_
  have F_h132__k_76_ : h132 (k + 76) = .inl (1, 32, .inl (fun _ => 0)) := by rw [e_h132, va_up_neq (nek0 (a := 76) (by decide))]; exact F_h129__k_76_
  have F_h132__k_77_ : h132 (k + 77) = .inl (1, 32, .inl (fun _ => 0)) := by rw [e_h132, va_up_neq (nek0 (a := 77) (by decide))]; exact F_h129__k_77_
  have F_h132__k_78_ : h132 (k + 78) = .inl (1, 32, .inl (fun _ => 0)) := by rw [e_h132, va_up_neq (nek0 (a := 78) (by decide))]; exact F_h129__k_78_
  have F_h132__k_79_ : h132 (k + 79) = .inl (1, 256, .inl (fun _ => 0)) := by rw [e_h132, va_up_neq (nek0 (a := 79) (by decide))]; exact F_h129__k_79_
  have F_h132__k_80_ : h132 (k + 80) = .inl (1, 256, .inl (fun _ => 0)) := by rw [e_h132, va_up_neq (nek0 (a := 80) (by decide))]; exact F_h129__k_80_
  have F_h132__k_60_ : h132 (k + 60) = .inr (8, [.int 31, .ref (k + 61), .ref (k + 62), .ref (k + 63), .ref (k + 64), .ref (k + 65), .ref (k + 66), .int 5, .int 1]) := by rw [e_h132, va_up_neq (nek0 (a := 60) (by decide))]; exact F_h129__k_60_
  have F_h132__k_61_ : h132 (k + 61) = .inl (1, 32, .inl pB) := by rw [e_h132, va_up_neq (nek0 (a := 61) (by decide))]; exact F_h129__k_61_
  have F_h132__k_62_ : h132 (k + 62) = .inl (1, 32, .inl (fun _ => 0)) := by rw [e_h132, va_up_neq (nek0 (a := 62) (by decide))]; exact F_h129__k_62_
  have F_h132__k_63_ : h132 (k + 63) = .inl (1, 32, .inl fB) := by rw [e_h132, va_up_neq (nek0 (a := 63) (by decide))]; exact F_h129__k_63_
  have F_h132__k_64_ : h132 (k + 64) = .inl (1, 32, .inl wB) := by rw [e_h132, va_up_neq (nek0 (a := 64) (by decide))]; exact F_h129__k_64_
  have F_h132__k_65_ : h132 (k + 65) = .inl (1, 256, .inl oB) := by rw [e_h132, va_up_neq (nek0 (a := 65) (by decide))]; exact F_h129__k_65_
  have F_h132__k_66_ : h132 (k + 66) = .inl (1, 256, .inl sB) := by rw [e_h132, va_up_neq (nek0 (a := 66) (by decide))]; exact F_h129__k_66_
  have F_h132__k_81_ : h132 (k + 81) = .inr (1, [.ref (aBig + 7), .ref (aBig + 8), .int 9, .ref (k + 82), .ref (k + 83), .ref (k + 86), .int 0, .int 0, .int 0, .ref (k + 87), .ref (k + 94), .ref (k + 101), .ref (k + 87), .ref (k + 84), .int 0, .int 0, .int 0, .int 0]) := by rw [e_h132, va_up_neq (nek0 (a := 81) (by decide))]; exact F_h129__k_81_
  have F_h132__k_82_ : h132 (k + 82) = .inl (1, 2667, .inl (fun _ => 0)) := by rw [e_h132, va_up_neq (nek0 (a := 82) (by decide))]; exact F_h129__k_82_
  have F_h132__k_83_ : h132 (k + 83) = .inl (1, 2667, .inl (fun _ => 0)) := by rw [e_h132, va_up_neq (nek0 (a := 83) (by decide))]; exact F_h129__k_83_
  have F_h132__k_84_ : h132 (k + 84) = .inr (7, [.ref (k + 85), .int 0, .int 0, .long 0, .int 0]) := by rw [e_h132, va_up_neq (nek0 (a := 84) (by decide))]; exact F_h129__k_84_
  have F_h132__k_85_ : h132 (k + 85) = .inl (0, 128, .inl (fun _ => 0)) := by rw [e_h132, va_up_neq (nek0 (a := 85) (by decide))]; exact F_h129__k_85_
  have F_h132__k_86_ : h132 (k + 86) = .inl (1, 53, .inl (fun _ => 0)) := by rw [e_h132, va_up_neq (nek0 (a := 86) (by decide))]; exact F_h129__k_86_
  have F_h132__k_87_ : h132 (k + 87) = .inr (8, [.int 52, .ref (k + 88), .ref (k + 89), .ref (k + 90), .ref (k + 91), .ref (k + 92), .ref (k + 93), .int 0, .int 0]) := by rw [e_h132, va_up_neq (nek0 (a := 87) (by decide))]; exact F_h129__k_87_
  have F_h132__k_88_ : h132 (k + 88) = .inl (1, 53, .inl (fun _ => 0)) := by rw [e_h132, va_up_neq (nek0 (a := 88) (by decide))]; exact F_h129__k_88_
  have F_h132__k_89_ : h132 (k + 89) = .inl (1, 53, .inl (fun _ => 0)) := by rw [e_h132, va_up_neq (nek0 (a := 89) (by decide))]; exact F_h129__k_89_
  have F_h132__k_90_ : h132 (k + 90) = .inl (1, 53, .inl (fun _ => 0)) := by rw [e_h132, va_up_neq (nek0 (a := 90) (by decide))]; exact F_h129__k_90_
  have F_h132__k_91_ : h132 (k + 91) = .inl (1, 53, .inl (fun _ => 0)) := by rw [e_h132, va_up_neq (nek0 (a := 91) (by decide))]; exact F_h129__k_91_
  have F_h132__k_92_ : h132 (k + 92) = .inl (1, 512, .inl (fun _ => 0)) := by rw [e_h132, va_up_neq (nek0 (a := 92) (by decide))]; exact F_h129__k_92_
  have F_h132__k_93_ : h132 (k + 93) = .inl (1, 512, .inl (fun _ => 0)) := by rw [e_h132, va_up_neq (nek0 (a := 93) (by decide))]; exact F_h129__k_93_
  have F_h132__k_94_ : h132 (k + 94) = .inr (8, [.int 52, .ref (k + 95), .ref (k + 96), .ref (k + 97), .ref (k + 98), .ref (k + 99), .ref (k + 100), .int 0, .int 0]) := by rw [e_h132, va_up_neq (nek0 (a := 94) (by decide))]; exact F_h129__k_94_
  have F_h132__k_95_ : h132 (k + 95) = .inl (1, 53, .inl (fun _ => 0)) := by rw [e_h132, va_up_neq (nek0 (a := 95) (by decide))]; exact F_h129__k_95_
  have F_h132__k_96_ : h132 (k + 96) = .inl (1, 53, .inl (fun _ => 0)) := by rw [e_h132, va_up_neq (nek0 (a := 96) (by decide))]; exact F_h129__k_96_
  have F_h132__k_97_ : h132 (k + 97) = .inl (1, 53, .inl (fun _ => 0)) := by rw [e_h132, va_up_neq (nek0 (a := 97) (by decide))]; exact F_h129__k_97_
  have F_h132__k_98_ : h132 (k + 98) = .inl (1, 53, .inl (fun _ => 0)) := by rw [e_h132, va_up_neq (nek0 (a := 98) (by decide))]; exact F_h129__k_98_
  have F_h132__k_99_ : h132 (k + 99) = .inl (1, 512, .inl (fun _ => 0)) := by rw [e_h132, va_up_neq (nek0 (a := 99) (by decide))]; exact F_h129__k_99_
  have F_h132__k_100_ : h132 (k + 100) = .inl (1, 512, .inl (fun _ => 0)) := by rw [e_h132, va_up_neq (nek0 (a := 100) (by decide))]; exact F_h129__k_100_
  have F_h132__k_101_ : h132 (k + 101) = .inr (8, [.int 52, .ref (k + 102), .ref (k + 103), .ref (k + 104), .ref (k + 105), .ref (k + 106), .ref (k + 107), .int 0, .int 0]) := by rw [e_h132, va_up_neq (nek0 (a := 101) (by decide))]; exact F_h129__k_101_
  have F_h132__k_102_ : h132 (k + 102) = .inl (1, 53, .inl (fun _ => 0)) := by rw [e_h132, va_up_neq (nek0 (a := 102) (by decide))]; exact F_h129__k_102_
  have F_h132__k_103_ : h132 (k + 103) = .inl (1, 53, .inl (fun _ => 0)) := by rw [e_h132, va_up_neq (nek0 (a := 103) (by decide))]; exact F_h129__k_103_
  have F_h132__k_104_ : h132 (k + 104) = .inl (1, 53, .inl (fun _ => 0)) := by rw [e_h132, va_up_neq (nek0 (a := 104) (by decide))]; exact F_h129__k_104_
  have F_h132__k_105_ : h132 (k + 105) = .inl (1, 53, .inl (fun _ => 0)) := by rw [e_h132, va_up_neq (nek0 (a := 105) (by decide))]; exact F_h129__k_105_
  have F_h132__k_106_ : h132 (k + 106) = .inl (1, 512, .inl (fun _ => 0)) := by rw [e_h132, va_up_neq (nek0 (a := 106) (by decide))]; exact F_h129__k_106_
  have F_h132__k_107_ : h132 (k + 107) = .inl (1, 512, .inl (fun _ => 0)) := by rw [e_h132, va_up_neq (nek0 (a := 107) (by decide))]; exact F_h129__k_107_
  have FR_h132 : ∀ j, j < k ∨ aBig ≤ j → h132 j = h j := fun j hj => by rw [e_h132]; exact (va_up_neq (frne0 hj hbig)).trans (FR_h129 j hj)
  clear F_h129_k F_h129__k_1_ F_h129__k_2_ F_h129__k_3_ F_h129__k_4_ F_h129__k_5_ F_h129__k_6_ F_h129__k_7_ F_h129__k_8_ F_h129__k_9_ F_h129__k_10_ F_h129__k_11_ F_h129__k_12_ F_h129__k_13_ F_h129__k_14_ F_h129__k_15_ F_h129__k_16_ F_h129__k_17_ F_h129__k_18_ F_h129__k_19_ F_h129__k_20_ F_h129__k_21_ F_h129__k_22_ F_h129__k_23_ F_h129__k_24_ F_h129__k_25_ F_h129__k_26_ F_h129__k_27_ F_h129__k_28_ F_h129__k_29_ F_h129__k_30_ F_h129__k_31_ F_h129__k_32_ F_h129__k_40_ F_h129__k_41_ F_h129__k_42_ F_h129__k_43_ F_h129__k_44_ F_h129__k_45_ F_h129__k_46_ F_h129__k_47_ F_h129__k_48_ F_h129__k_49_ F_h129__k_50_ F_h129__k_51_ F_h129__k_52_ F_h129__k_53_ F_h129__k_33_ F_h129__k_34_ F_h129__k_35_ F_h129__k_36_ F_h129__k_37_ F_h129__k_38_ F_h129__k_39_ F_h129__k_54_ F_h129__k_55_ F_h129__k_56_ F_h129__k_57_ F_h129__k_58_ F_h129__k_59_ F_h129__k_67_ F_h129__k_68_ F_h129__k_69_ F_h129__k_70_ F_h129__k_71_ F_h129__k_72_ F_h129__k_73_ F_h129__k_74_ F_h129__k_75_ F_h129__k_76_ F_h129__k_77_ F_h129__k_78_ F_h129__k_79_ F_h129__k_80_ F_h129__k_60_ F_h129__k_61_ F_h129__k_62_ F_h129__k_63_ F_h129__k_64_ F_h129__k_65_ F_h129__k_66_ F_h129__k_81_ F_h129__k_82_ F_h129__k_83_ F_h129__k_84_ F_h129__k_85_ F_h129__k_86_ F_h129__k_87_ F_h129__k_88_ F_h129__k_89_ F_h129__k_90_ F_h129__k_91_ F_h129__k_92_ F_h129__k_93_ F_h129__k_94_ F_h129__k_95_ F_h129__k_96_ F_h129__k_97_ F_h129__k_98_ F_h129__k_99_ F_h129__k_100_ F_h129__k_101_ F_h129__k_102_ F_h129__k_103_ F_h129__k_104_ F_h129__k_105_ F_h129__k_106_ F_h129__k_107_ FR_h129 e_h132
  clear h129
  refine WX.s1 rfl rfl ?_
  refine WX.get1 (fs := [.ref (k + 1), .ref (k + 8), .ref (k + 27), .ref (k + 54), .ref (k + 81), .ref (k + 5), .ref (k + 6), .int 0, .ref (k + 7)]) rfl (ltk0 (c := 108) (by decide)) (F_h132_k) rfl ?_
  refine WX.s1 rfl rfl ?_
  refine WX.s1 rfl rfl ?_
  refine WX.callC (vs := [.ref (k + 81), .ref (aBig + 2), .int 6]) rfl rfl rfl (Nat.le_of_ble_eq_true rfl) (rcv_ok (ltk (a := 81) (c := 108) (by decide)) F_h132__k_81_) ?_
  refine w_knowS (k := k + 87) (l := 52) (M := 512) (L := 6) (j := 2) (ltk (a := 81) (c := 108) (by decide)) F_h132__k_81_ rfl (ltk (a := 93) (c := 108) (by decide)) (bigk (k := k) (a := 108) hbig (by decide)) ⟨F_h132__k_87_, F_h132__k_88_, F_h132__k_89_, F_h132__k_90_, F_h132__k_91_, F_h132__k_92_, F_h132__k_93_⟩ (by decide) (by decide) (by decide) (by decide) (fun _ _ => ⟨0, Nat.zero_le _, rfl⟩) (by decide) ((FR_h132 _ (Or.inr (Nat.le_add_right _ _))).trans K2) hK2 kb2 (fun h144 pC fC wC oC sC fr144 A144 hp144 => ?_)
  have F_h144_k : h144 k = .inr (6, [.ref (k + 1), .ref (k + 8), .ref (k + 27), .ref (k + 54), .ref (k + 81), .ref (k + 5), .ref (k + 6), .int 0, .ref (k + 7)]) := (fr144 k (insNo (k := k) (a := 0) (b := 87) (by decide))).trans F_h132_k
  have F_h144__k_1_ : h144 (k + 1) = .inr (3, [.ref (k + 2), .int 0, .ref (k + 3), .ref (k + 4), .int 0, .int 0, .int 0, .int 0, .int 0, .int 0, .int 0, .int 0, .int 0]) := (fr144 (k + 1) (insNo (k := k) (a := 1) (b := 87) (by decide))).trans F_h132__k_1_
  have F_h144__k_2_ : h144 (k + 2) = .inl (0, 16000, .inl (fun _ => 0)) := (fr144 (k + 2) (insNo (k := k) (a := 2) (b := 87) (by decide))).trans F_h132__k_2_
  have F_h144__k_3_ : h144 (k + 3) = .inl (1, 16000, .inl (fun _ => 0)) := (fr144 (k + 3) (insNo (k := k) (a := 3) (b := 87) (by decide))).trans F_h132__k_3_
  have F_h144__k_4_ : h144 (k + 4) = .inl (1, 4096, .inl (fun _ => 0)) := (fr144 (k + 4) (insNo (k := k) (a := 4) (b := 87) (by decide))).trans F_h132__k_4_
  have F_h144__k_5_ : h144 (k + 5) = .inl (1, 3, .inl (fun _ => 0)) := (fr144 (k + 5) (insNo (k := k) (a := 5) (b := 87) (by decide))).trans F_h132__k_5_
  have F_h144__k_6_ : h144 (k + 6) = .inl (1, 3, .inl (fun _ => 0)) := (fr144 (k + 6) (insNo (k := k) (a := 6) (b := 87) (by decide))).trans F_h132__k_6_
  have F_h144__k_7_ : h144 (k + 7) = .inl (1, 12, .inl (fun _ => 0)) := (fr144 (k + 7) (insNo (k := k) (a := 7) (b := 87) (by decide))).trans F_h132__k_7_
  have F_h144__k_8_ : h144 (k + 8) = .inr (5, [.ref (k + 9), .ref (k + 10), .int 0, .ref (k + 11), .ref (k + 15), .ref (k + 19), .ref q, .ref (k + 25), .int 0, .int 0, .int 0, .int 0]) := (fr144 (k + 8) (insNo (k := k) (a := 8) (b := 87) (by decide))).trans F_h132__k_8_
  have F_h144__k_9_ : h144 (k + 9) = .inl (0, 8000, .inl (fun _ => 0)) := (fr144 (k + 9) (insNo (k := k) (a := 9) (b := 87) (by decide))).trans F_h132__k_9_
  have F_h144__k_10_ : h144 (k + 10) = .inl (1, 256, .inl (fun _ => 0)) := (fr144 (k + 10) (insNo (k := k) (a := 10) (b := 87) (by decide))).trans F_h132__k_10_
  have F_h144__k_11_ : h144 (k + 11) = .inr (0, [.ref (k + 12), .ref (k + 13), .ref (k + 14), .int 0, .int 0]) := (fr144 (k + 11) (insNo (k := k) (a := 11) (b := 87) (by decide))).trans F_h132__k_11_
  have F_h144__k_12_ : h144 (k + 12) = .inl (1, 256, .inl (fun _ => 0)) := (fr144 (k + 12) (insNo (k := k) (a := 12) (b := 87) (by decide))).trans F_h132__k_12_
  have F_h144__k_13_ : h144 (k + 13) = .inl (1, 256, .inl (fun _ => 0)) := (fr144 (k + 13) (insNo (k := k) (a := 13) (b := 87) (by decide))).trans F_h132__k_13_
  have F_h144__k_14_ : h144 (k + 14) = .inl (1, 13, .inl (fun _ => 0)) := (fr144 (k + 14) (insNo (k := k) (a := 14) (b := 87) (by decide))).trans F_h132__k_14_
  have F_h144__k_15_ : h144 (k + 15) = .inr (0, [.ref (k + 16), .ref (k + 17), .ref (k + 18), .int 0, .int 0]) := (fr144 (k + 15) (insNo (k := k) (a := 15) (b := 87) (by decide))).trans F_h132__k_15_
  have F_h144__k_16_ : h144 (k + 16) = .inl (1, 256, .inl (fun _ => 0)) := (fr144 (k + 16) (insNo (k := k) (a := 16) (b := 87) (by decide))).trans F_h132__k_16_
  have F_h144__k_17_ : h144 (k + 17) = .inl (1, 256, .inl (fun _ => 0)) := (fr144 (k + 17) (insNo (k := k) (a := 17) (b := 87) (by decide))).trans F_h132__k_17_
  have F_h144__k_18_ : h144 (k + 18) = .inl (1, 13, .inl (fun _ => 0)) := (fr144 (k + 18) (insNo (k := k) (a := 18) (b := 87) (by decide))).trans F_h132__k_18_
  have F_h144__k_19_ : h144 (k + 19) = .inr (4, [.ref (k + 20), .ref (k + 21), .ref (k + 22), .ref (k + 23), .ref (k + 24)]) := (fr144 (k + 19) (insNo (k := k) (a := 19) (b := 87) (by decide))).trans F_h132__k_19_
  have F_h144__k_20_ : h144 (k + 20) = .inl (1, 256, .inl (fun _ => 0)) := (fr144 (k + 20) (insNo (k := k) (a := 20) (b := 87) (by decide))).trans F_h132__k_20_
  have F_h144__k_21_ : h144 (k + 21) = .inl (1, 256, .inl (fun _ => 0)) := (fr144 (k + 21) (insNo (k := k) (a := 21) (b := 87) (by decide))).trans F_h132__k_21_
  have F_h144__k_22_ : h144 (k + 22) = .inl (1, 512, .inl (fun _ => 0)) := (fr144 (k + 22) (insNo (k := k) (a := 22) (b := 87) (by decide))).trans F_h132__k_22_
  have F_h144__k_23_ : h144 (k + 23) = .inl (1, 512, .inl (fun _ => 0)) := (fr144 (k + 23) (insNo (k := k) (a := 23) (b := 87) (by decide))).trans F_h132__k_23_
  have F_h144__k_24_ : h144 (k + 24) = .inl (1, 512, .inl (fun _ => 0)) := (fr144 (k + 24) (insNo (k := k) (a := 24) (b := 87) (by decide))).trans F_h132__k_24_
  have F_h144__k_25_ : h144 (k + 25) = .inr (7, [.ref (k + 26), .int 0, .int 0, .long 0, .int 0]) := (fr144 (k + 25) (insNo (k := k) (a := 25) (b := 87) (by decide))).trans F_h132__k_25_
  have F_h144__k_26_ : h144 (k + 26) = .inl (0, 256, .inl (fun _ => 0)) := (fr144 (k + 26) (insNo (k := k) (a := 26) (b := 87) (by decide))).trans F_h132__k_26_
  have F_h144__k_27_ : h144 (k + 27) = .inr (1, [.ref (aBig + 3), .ref (aBig + 4), .int 9, .ref (k + 28), .ref (k + 29), .ref (k + 32), .int 0, .int 0, .int 0, .ref (k + 33), .ref (k + 40), .ref (k + 47), .ref (k + 33), .ref (k + 30), .int 0, .int 0, .int 0, .int 0]) := (fr144 (k + 27) (insNo (k := k) (a := 27) (b := 87) (by decide))).trans F_h132__k_27_
  have F_h144__k_28_ : h144 (k + 28) = .inl (1, 2667, .inl (fun _ => 0)) := (fr144 (k + 28) (insNo (k := k) (a := 28) (b := 87) (by decide))).trans F_h132__k_28_
  have F_h144__k_29_ : h144 (k + 29) = .inl (1, 2667, .inl (fun _ => 0)) := (fr144 (k + 29) (insNo (k := k) (a := 29) (b := 87) (by decide))).trans F_h132__k_29_
  have F_h144__k_30_ : h144 (k + 30) = .inr (7, [.ref (k + 31), .int 0, .int 0, .long 0, .int 0]) := (fr144 (k + 30) (insNo (k := k) (a := 30) (b := 87) (by decide))).trans F_h132__k_30_
  have F_h144__k_31_ : h144 (k + 31) = .inl (0, 128, .inl (fun _ => 0)) := (fr144 (k + 31) (insNo (k := k) (a := 31) (b := 87) (by decide))).trans F_h132__k_31_
  have F_h144__k_32_ : h144 (k + 32) = .inl (1, 36, .inl (fun _ => 0)) := (fr144 (k + 32) (insNo (k := k) (a := 32) (b := 87) (by decide))).trans F_h132__k_32_
  have F_h144__k_40_ : h144 (k + 40) = .inr (8, [.int 35, .ref (k + 41), .ref (k + 42), .ref (k + 43), .ref (k + 44), .ref (k + 45), .ref (k + 46), .int 0, .int 0]) := (fr144 (k + 40) (insNo (k := k) (a := 40) (b := 87) (by decide))).trans F_h132__k_40_
  have F_h144__k_41_ : h144 (k + 41) = .inl (1, 36, .inl (fun _ => 0)) := (fr144 (k + 41) (insNo (k := k) (a := 41) (b := 87) (by decide))).trans F_h132__k_41_
  have F_h144__k_42_ : h144 (k + 42) = .inl (1, 36, .inl (fun _ => 0)) := (fr144 (k + 42) (insNo (k := k) (a := 42) (b := 87) (by decide))).trans F_h132__k_42_
  have F_h144__k_43_ : h144 (k + 43) = .inl (1, 36, .inl (fun _ => 0)) := (fr144 (k + 43) (insNo (k := k) (a := 43) (b := 87) (by decide))).trans F_h132__k_43_
  have F_h144__k_44_ : h144 (k + 44) = .inl (1, 36, .inl (fun _ => 0)) := (fr144 (k + 44) (insNo (k := k) (a := 44) (b := 87) (by decide))).trans F_h132__k_44_
  have F_h144__k_45_ : h144 (k + 45) = .inl (1, 512, .inl (fun _ => 0)) := (fr144 (k + 45) (insNo (k := k) (a := 45) (b := 87) (by decide))).trans F_h132__k_45_
  have F_h144__k_46_ : h144 (k + 46) = .inl (1, 512, .inl (fun _ => 0)) := (fr144 (k + 46) (insNo (k := k) (a := 46) (b := 87) (by decide))).trans F_h132__k_46_
  have F_h144__k_47_ : h144 (k + 47) = .inr (8, [.int 35, .ref (k + 48), .ref (k + 49), .ref (k + 50), .ref (k + 51), .ref (k + 52), .ref (k + 53), .int 0, .int 0]) := (fr144 (k + 47) (insNo (k := k) (a := 47) (b := 87) (by decide))).trans F_h132__k_47_
  have F_h144__k_48_ : h144 (k + 48) = .inl (1, 36, .inl (fun _ => 0)) := (fr144 (k + 48) (insNo (k := k) (a := 48) (b := 87) (by decide))).trans F_h132__k_48_
  have F_h144__k_49_ : h144 (k + 49) = .inl (1, 36, .inl (fun _ => 0)) := (fr144 (k + 49) (insNo (k := k) (a := 49) (b := 87) (by decide))).trans F_h132__k_49_
  have F_h144__k_50_ : h144 (k + 50) = .inl (1, 36, .inl (fun _ => 0)) := (fr144 (k + 50) (insNo (k := k) (a := 50) (b := 87) (by decide))).trans F_h132__k_50_
  have F_h144__k_51_ : h144 (k + 51) = .inl (1, 36, .inl (fun _ => 0)) := (fr144 (k + 51) (insNo (k := k) (a := 51) (b := 87) (by decide))).trans F_h132__k_51_
  have F_h144__k_52_ : h144 (k + 52) = .inl (1, 512, .inl (fun _ => 0)) := (fr144 (k + 52) (insNo (k := k) (a := 52) (b := 87) (by decide))).trans F_h132__k_52_
  have F_h144__k_53_ : h144 (k + 53) = .inl (1, 512, .inl (fun _ => 0)) := (fr144 (k + 53) (insNo (k := k) (a := 53) (b := 87) (by decide))).trans F_h132__k_53_
  have F_h144__k_33_ : h144 (k + 33) = .inr (8, [.int 35, .ref (k + 34), .ref (k + 35), .ref (k + 36), .ref (k + 37), .ref (k + 38), .ref (k + 39), .int 6, .int 1]) := (fr144 (k + 33) (insNo (k := k) (a := 33) (b := 87) (by decide))).trans F_h132__k_33_
  have F_h144__k_34_ : h144 (k + 34) = .inl (1, 36, .inl pA) := (fr144 (k + 34) (insNo (k := k) (a := 34) (b := 87) (by decide))).trans F_h132__k_34_
  have F_h144__k_35_ : h144 (k + 35) = .inl (1, 36, .inl (fun _ => 0)) := (fr144 (k + 35) (insNo (k := k) (a := 35) (b := 87) (by decide))).trans F_h132__k_35_
  have F_h144__k_36_ : h144 (k + 36) = .inl (1, 36, .inl fA) := (fr144 (k + 36) (insNo (k := k) (a := 36) (b := 87) (by decide))).trans F_h132__k_36_
  have F_h144__k_37_ : h144 (k + 37) = .inl (1, 36, .inl wA) := (fr144 (k + 37) (insNo (k := k) (a := 37) (b := 87) (by decide))).trans F_h132__k_37_
  have F_h144__k_38_ : h144 (k + 38) = .inl (1, 512, .inl oA) := (fr144 (k + 38) (insNo (k := k) (a := 38) (b := 87) (by decide))).trans F_h132__k_38_
  have F_h144__k_39_ : h144 (k + 39) = .inl (1, 512, .inl sA) := (fr144 (k + 39) (insNo (k := k) (a := 39) (b := 87) (by decide))).trans F_h132__k_39_
  have F_h144__k_54_ : h144 (k + 54) = .inr (1, [.ref (aBig + 5), .ref (aBig + 6), .int 8, .ref (k + 55), .ref (k + 56), .ref (k + 59), .int 0, .int 0, .int 0, .ref (k + 60), .ref (k + 67), .ref (k + 74), .ref (k + 60), .ref (k + 57), .int 0, .int 0, .int 0, .int 0]) := (fr144 (k + 54) (insNo (k := k) (a := 54) (b := 87) (by decide))).trans F_h132__k_54_
  have F_h144__k_55_ : h144 (k + 55) = .inl (1, 2667, .inl (fun _ => 0)) := (fr144 (k + 55) (insNo (k := k) (a := 55) (b := 87) (by decide))).trans F_h132__k_55_
  have F_h144__k_56_ : h144 (k + 56) = .inl (1, 2667, .inl (fun _ => 0)) := (fr144 (k + 56) (insNo (k := k) (a := 56) (b := 87) (by decide))).trans F_h132__k_56_
  have F_h144__k_57_ : h144 (k + 57) = .inr (7, [.ref (k + 58), .int 0, .int 0, .long 0, .int 0]) := (fr144 (k + 57) (insNo (k := k) (a := 57) (b := 87) (by decide))).trans F_h132__k_57_
  have F_h144__k_58_ : h144 (k + 58) = .inl (0, 128, .inl (fun _ => 0)) := (fr144 (k + 58) (insNo (k := k) (a := 58) (b := 87) (by decide))).trans F_h132__k_58_
  have F_h144__k_59_ : h144 (k + 59) = .inl (1, 32, .inl (fun _ => 0)) := (fr144 (k + 59) (insNo (k := k) (a := 59) (b := 87) (by decide))).trans F_h132__k_59_
  have F_h144__k_67_ : h144 (k + 67) = .inr (8, [.int 31, .ref (k + 68), .ref (k + 69), .ref (k + 70), .ref (k + 71), .ref (k + 72), .ref (k + 73), .int 0, .int 0]) := (fr144 (k + 67) (insNo (k := k) (a := 67) (b := 87) (by decide))).trans F_h132__k_67_
  have F_h144__k_68_ : h144 (k + 68) = .inl (1, 32, .inl (fun _ => 0)) := (fr144 (k + 68) (insNo (k := k) (a := 68) (b := 87) (by decide))).trans F_h132__k_68_
  have F_h144__k_69_ : h144 (k + 69) = .inl (1, 32, .inl (fun _ => 0)) := (fr144 (k + 69) (insNo (k := k) (a := 69) (b := 87) (by decide))).trans F_h132__k_69_
  have F_h144__k_70_ : h144 (k + 70) = .inl (1, 32, .inl (fun _ => 0)) := (fr144 (k + 70) (insNo (k := k) (a := 70) (b := 87) (by decide))).trans F_h132__k_70_
  have F_h144__k_71_ : h144 (k + 71) = .inl (1, 32, .inl (fun _ => 0)) := (fr144 (k + 71) (insNo (k := k) (a := 71) (b := 87) (by decide))).trans F_h132__k_71_
  have F_h144__k_72_ : h144 (k + 72) = .inl (1, 256, .inl (fun _ => 0)) := (fr144 (k + 72) (insNo (k := k) (a := 72) (b := 87) (by decide))).trans F_h132__k_72_
  have F_h144__k_73_ : h144 (k + 73) = .inl (1, 256, .inl (fun _ => 0)) := (fr144 (k + 73) (insNo (k := k) (a := 73) (b := 87) (by decide))).trans F_h132__k_73_
  have F_h144__k_74_ : h144 (k + 74) = .inr (8, [.int 31, .ref (k + 75), .ref (k + 76), .ref (k + 77), .ref (k + 78), .ref (k + 79), .ref (k + 80), .int 0, .int 0]) := (fr144 (k + 74) (insNo (k := k) (a := 74) (b := 87) (by decide))).trans F_h132__k_74_
  have F_h144__k_75_ : h144 (k + 75) = .inl (1, 32, .inl (fun _ => 0)) := (fr144 (k + 75) (insNo (k := k) (a := 75) (b := 87) (by decide))).trans F_h132__k_75_
  have F_h144__k_76_ : h144 (k + 76) = .inl (1, 32, .inl (fun _ => 0)) := (fr144 (k + 76) (insNo (k := k) (a := 76) (b := 87) (by decide))).trans F_h132__k_76_
  have F_h144__k_77_ : h144 (k + 77) = .inl (1, 32, .inl (fun _ => 0)) := (fr144 (k + 77) (insNo (k := k) (a := 77) (b := 87) (by decide))).trans F_h132__k_77_
  have F_h144__k_78_ : h144 (k + 78) = .inl (1, 32, .inl (fun _ => 0)) := (fr144 (k + 78) (insNo (k := k) (a := 78) (b := 87) (by decide))).trans F_h132__k_78_
  have F_h144__k_79_ : h144 (k + 79) = .inl (1, 256, .inl (fun _ => 0)) := (fr144 (k + 79) (insNo (k := k) (a := 79) (b := 87) (by decide))).trans F_h132__k_79_
  have F_h144__k_80_ : h144 (k + 80) = .inl (1, 256, .inl (fun _ => 0)) := (fr144 (k + 80) (insNo (k := k) (a := 80) (b := 87) (by decide))).trans F_h132__k_80_
  have F_h144__k_60_ : h144 (k + 60) = .inr (8, [.int 31, .ref (k + 61), .ref (k + 62), .ref (k + 63), .ref (k + 64), .ref (k + 65), .ref (k + 66), .int 5, .int 1]) := (fr144 (k + 60) (insNo (k := k) (a := 60) (b := 87) (by decide))).trans F_h132__k_60_
  have F_h144__k_61_ : h144 (k + 61) = .inl (1, 32, .inl pB) := (fr144 (k + 61) (insNo (k := k) (a := 61) (b := 87) (by decide))).trans F_h132__k_61_
  have F_h144__k_62_ : h144 (k + 62) = .inl (1, 32, .inl (fun _ => 0)) := (fr144 (k + 62) (insNo (k := k) (a := 62) (b := 87) (by decide))).trans F_h132__k_62_
  have F_h144__k_63_ : h144 (k + 63) = .inl (1, 32, .inl fB) := (fr144 (k + 63) (insNo (k := k) (a := 63) (b := 87) (by decide))).trans F_h132__k_63_
  have F_h144__k_64_ : h144 (k + 64) = .inl (1, 32, .inl wB) := (fr144 (k + 64) (insNo (k := k) (a := 64) (b := 87) (by decide))).trans F_h132__k_64_
  have F_h144__k_65_ : h144 (k + 65) = .inl (1, 256, .inl oB) := (fr144 (k + 65) (insNo (k := k) (a := 65) (b := 87) (by decide))).trans F_h132__k_65_
  have F_h144__k_66_ : h144 (k + 66) = .inl (1, 256, .inl sB) := (fr144 (k + 66) (insNo (k := k) (a := 66) (b := 87) (by decide))).trans F_h132__k_66_
  have F_h144__k_81_ : h144 (k + 81) = .inr (1, [.ref (aBig + 7), .ref (aBig + 8), .int 9, .ref (k + 82), .ref (k + 83), .ref (k + 86), .int 0, .int 0, .int 0, .ref (k + 87), .ref (k + 94), .ref (k + 101), .ref (k + 87), .ref (k + 84), .int 0, .int 0, .int 0, .int 0]) := (fr144 (k + 81) (insNo (k := k) (a := 81) (b := 87) (by decide))).trans F_h132__k_81_
  have F_h144__k_82_ : h144 (k + 82) = .inl (1, 2667, .inl (fun _ => 0)) := (fr144 (k + 82) (insNo (k := k) (a := 82) (b := 87) (by decide))).trans F_h132__k_82_
  have F_h144__k_83_ : h144 (k + 83) = .inl (1, 2667, .inl (fun _ => 0)) := (fr144 (k + 83) (insNo (k := k) (a := 83) (b := 87) (by decide))).trans F_h132__k_83_
  have F_h144__k_84_ : h144 (k + 84) = .inr (7, [.ref (k + 85), .int 0, .int 0, .long 0, .int 0]) := (fr144 (k + 84) (insNo (k := k) (a := 84) (b := 87) (by decide))).trans F_h132__k_84_
  have F_h144__k_85_ : h144 (k + 85) = .inl (0, 128, .inl (fun _ => 0)) := (fr144 (k + 85) (insNo (k := k) (a := 85) (b := 87) (by decide))).trans F_h132__k_85_
  have F_h144__k_86_ : h144 (k + 86) = .inl (1, 53, .inl (fun _ => 0)) := (fr144 (k + 86) (insNo (k := k) (a := 86) (b := 87) (by decide))).trans F_h132__k_86_
  have F_h144__k_94_ : h144 (k + 94) = .inr (8, [.int 52, .ref (k + 95), .ref (k + 96), .ref (k + 97), .ref (k + 98), .ref (k + 99), .ref (k + 100), .int 0, .int 0]) := (fr144 (k + 94) (insNo (k := k) (a := 94) (b := 87) (by decide))).trans F_h132__k_94_
  have F_h144__k_95_ : h144 (k + 95) = .inl (1, 53, .inl (fun _ => 0)) := (fr144 (k + 95) (insNo (k := k) (a := 95) (b := 87) (by decide))).trans F_h132__k_95_
  have F_h144__k_96_ : h144 (k + 96) = .inl (1, 53, .inl (fun _ => 0)) := (fr144 (k + 96) (insNo (k := k) (a := 96) (b := 87) (by decide))).trans F_h132__k_96_
  have F_h144__k_97_ : h144 (k + 97) = .inl (1, 53, .inl (fun _ => 0)) := (fr144 (k + 97) (insNo (k := k) (a := 97) (b := 87) (by decide))).trans F_h132__k_97_
  have F_h144__k_98_ : h144 (k + 98) = .inl (1, 53, .inl (fun _ => 0)) := (fr144 (k + 98) (insNo (k := k) (a := 98) (b := 87) (by decide))).trans F_h132__k_98_
  have F_h144__k_99_ : h144 (k + 99) = .inl (1, 512, .inl (fun _ => 0)) := (fr144 (k + 99) (insNo (k := k) (a := 99) (b := 87) (by decide))).trans F_h132__k_99_
  have F_h144__k_100_ : h144 (k + 100) = .inl (1, 512, .inl (fun _ => 0)) := (fr144 (k + 100) (insNo (k := k) (a := 100) (b := 87) (by decide))).trans F_h132__k_100_
  have F_h144__k_101_ : h144 (k + 101) = .inr (8, [.int 52, .ref (k + 102), .ref (k + 103), .ref (k + 104), .ref (k + 105), .ref (k + 106), .ref (k + 107), .int 0, .int 0]) := (fr144 (k + 101) (insNo (k := k) (a := 101) (b := 87) (by decide))).trans F_h132__k_101_
  have F_h144__k_102_ : h144 (k + 102) = .inl (1, 53, .inl (fun _ => 0)) := (fr144 (k + 102) (insNo (k := k) (a := 102) (b := 87) (by decide))).trans F_h132__k_102_
  have F_h144__k_103_ : h144 (k + 103) = .inl (1, 53, .inl (fun _ => 0)) := (fr144 (k + 103) (insNo (k := k) (a := 103) (b := 87) (by decide))).trans F_h132__k_103_
  have F_h144__k_104_ : h144 (k + 104) = .inl (1, 53, .inl (fun _ => 0)) := (fr144 (k + 104) (insNo (k := k) (a := 104) (b := 87) (by decide))).trans F_h132__k_104_
  have F_h144__k_105_ : h144 (k + 105) = .inl (1, 53, .inl (fun _ => 0)) := (fr144 (k + 105) (insNo (k := k) (a := 105) (b := 87) (by decide))).trans F_h132__k_105_
  have F_h144__k_106_ : h144 (k + 106) = .inl (1, 512, .inl (fun _ => 0)) := (fr144 (k + 106) (insNo (k := k) (a := 106) (b := 87) (by decide))).trans F_h132__k_106_
  have F_h144__k_107_ : h144 (k + 107) = .inl (1, 512, .inl (fun _ => 0)) := (fr144 (k + 107) (insNo (k := k) (a := 107) (b := 87) (by decide))).trans F_h132__k_107_
  have F_h144__k_87_ : h144 (k + 87) = .inr (8, [.int 52, .ref (k + 88), .ref (k + 89), .ref (k + 90), .ref (k + 91), .ref (k + 92), .ref (k + 93), .int 6, .int 1]) := A144.1
  have F_h144__k_88_ : h144 (k + 88) = .inl (1, 53, .inl pC) := A144.2.1
  have F_h144__k_89_ : h144 (k + 89) = .inl (1, 53, .inl (fun _ => 0)) := A144.2.2.1
  have F_h144__k_90_ : h144 (k + 90) = .inl (1, 53, .inl fC) := A144.2.2.2.1
  have F_h144__k_91_ : h144 (k + 91) = .inl (1, 53, .inl wC) := A144.2.2.2.2.1
  have F_h144__k_92_ : h144 (k + 92) = .inl (1, 512, .inl oC) := A144.2.2.2.2.2.1
  have F_h144__k_93_ : h144 (k + 93) = .inl (1, 512, .inl sC) := A144.2.2.2.2.2.2
  have FR_h144 : ∀ j, j < k ∨ aBig ≤ j → h144 j = h j := fun j hj => (fr144 j (fun z => by have z1 := z.1; have z2 := z.2; have := hbig; omega)).trans (FR_h132 j hj)
  clear F_h132_k F_h132__k_1_ F_h132__k_2_ F_h132__k_3_ F_h132__k_4_ F_h132__k_5_ F_h132__k_6_ F_h132__k_7_ F_h132__k_8_ F_h132__k_9_ F_h132__k_10_ F_h132__k_11_ F_h132__k_12_ F_h132__k_13_ F_h132__k_14_ F_h132__k_15_ F_h132__k_16_ F_h132__k_17_ F_h132__k_18_ F_h132__k_19_ F_h132__k_20_ F_h132__k_21_ F_h132__k_22_ F_h132__k_23_ F_h132__k_24_ F_h132__k_25_ F_h132__k_26_ F_h132__k_27_ F_h132__k_28_ F_h132__k_29_ F_h132__k_30_ F_h132__k_31_ F_h132__k_32_ F_h132__k_40_ F_h132__k_41_ F_h132__k_42_ F_h132__k_43_ F_h132__k_44_ F_h132__k_45_ F_h132__k_46_ F_h132__k_47_ F_h132__k_48_ F_h132__k_49_ F_h132__k_50_ F_h132__k_51_ F_h132__k_52_ F_h132__k_53_ F_h132__k_33_ F_h132__k_34_ F_h132__k_35_ F_h132__k_36_ F_h132__k_37_ F_h132__k_38_ F_h132__k_39_ F_h132__k_54_ F_h132__k_55_ F_h132__k_56_ F_h132__k_57_ F_h132__k_58_ F_h132__k_59_ F_h132__k_67_ F_h132__k_68_ F_h132__k_69_ F_h132__k_70_ F_h132__k_71_ F_h132__k_72_ F_h132__k_73_ F_h132__k_74_ F_h132__k_75_ F_h132__k_76_ F_h132__k_77_ F_h132__k_78_ F_h132__k_79_ F_h132__k_80_ F_h132__k_60_ F_h132__k_61_ F_h132__k_62_ F_h132__k_63_ F_h132__k_64_ F_h132__k_65_ F_h132__k_66_ F_h132__k_81_ F_h132__k_82_ F_h132__k_83_ F_h132__k_84_ F_h132__k_85_ F_h132__k_86_ F_h132__k_94_ F_h132__k_95_ F_h132__k_96_ F_h132__k_97_ F_h132__k_98_ F_h132__k_99_ F_h132__k_100_ F_h132__k_101_ F_h132__k_102_ F_h132__k_103_ F_h132__k_104_ F_h132__k_105_ F_h132__k_106_ F_h132__k_107_ F_h132__k_87_ F_h132__k_88_ F_h132__k_89_ F_h132__k_90_ F_h132__k_91_ F_h132__k_92_ F_h132__k_93_ FR_h132 fr144 A144
  clear h132
  show WX _ _ _ 147 [(0, .ref k), (1, .ref q)] [] (k + 108, s + 13 + 36096 + 3 + 3 + 12 + 12 + 11630 + 18 + 9034 + 18 + 7446 + 18 + 9255, h144)
  refine WX.ret0 rfl ?_
  exact kk h144 pA fA wA oA sA pB fB wB oB sB pC fC wC oC sC hp79 hp111 hp144 FR_h144 ⟨F_h144_k, F_h144__k_1_, F_h144__k_2_, F_h144__k_3_, F_h144__k_4_, F_h144__k_5_, F_h144__k_6_, F_h144__k_7_, F_h144__k_8_, F_h144__k_9_, F_h144__k_10_, F_h144__k_11_, F_h144__k_12_, F_h144__k_13_, F_h144__k_14_, F_h144__k_15_, F_h144__k_16_, F_h144__k_17_, F_h144__k_18_, F_h144__k_19_, F_h144__k_20_, F_h144__k_21_, F_h144__k_22_, F_h144__k_23_, F_h144__k_24_, F_h144__k_25_, F_h144__k_26_, F_h144__k_27_, F_h144__k_28_, F_h144__k_29_, F_h144__k_30_, F_h144__k_31_, F_h144__k_32_, F_h144__k_33_, F_h144__k_34_, F_h144__k_35_, F_h144__k_36_, F_h144__k_37_, F_h144__k_38_, F_h144__k_39_, F_h144__k_40_, F_h144__k_41_, F_h144__k_42_, F_h144__k_43_, F_h144__k_44_, F_h144__k_45_, F_h144__k_46_, F_h144__k_47_, F_h144__k_48_, F_h144__k_49_, F_h144__k_50_, F_h144__k_51_, F_h144__k_52_, F_h144__k_53_, F_h144__k_54_, F_h144__k_55_, F_h144__k_56_, F_h144__k_57_, F_h144__k_58_, F_h144__k_59_, F_h144__k_60_, F_h144__k_61_, F_h144__k_62_, F_h144__k_63_, F_h144__k_64_, F_h144__k_65_, F_h144__k_66_, F_h144__k_67_, F_h144__k_68_, F_h144__k_69_, F_h144__k_70_, F_h144__k_71_, F_h144__k_72_, F_h144__k_73_, F_h144__k_74_, F_h144__k_75_, F_h144__k_76_, F_h144__k_77_, F_h144__k_78_, F_h144__k_79_, F_h144__k_80_, F_h144__k_81_, F_h144__k_82_, F_h144__k_83_, F_h144__k_84_, F_h144__k_85_, F_h144__k_86_, F_h144__k_87_, F_h144__k_88_, F_h144__k_89_, F_h144__k_90_, F_h144__k_91_, F_h144__k_92_, F_h144__k_93_, F_h144__k_94_, F_h144__k_95_, F_h144__k_96_, F_h144__k_97_, F_h144__k_98_, F_h144__k_99_, F_h144__k_100_, F_h144__k_101_, F_h144__k_102_, F_h144__k_103_, F_h144__k_104_, F_h144__k_105_, F_h144__k_106_, F_h144__k_107_, trivial⟩

