/-! Column.know, and the constructors of Packer and StatePress -/
theorem w_know {d n s : Nat} {h : Nat → aE} {c k l M L j N : Nat} {od th : Int32} {p r f w o so kn : Nat → Int32} {fs : List Value} (hc : c < n) (F : h c = .inr (1, fs)) (h9 : fs[9]? = some (.ref k)) (hk : k + 6 < n) (hn : n < aBig) (A : ShareAt h k l M od th p r f w o so) (hl : l < 1000) (hL : L ≤ 9) (hM : 2 ^ L ≤ M) (hM2 : M < 2 ^ 20) (ob : ∀ j, j < 2 ^ L → ∃ y, y ≤ l ∧ o j = nI y) (hj : j < 10) (K : h (aBig + j) = .inl (1, N, .inl kn)) (hN : N ≤ l + 1) (kb : ∀ i, i < N → kn i = -1 ∨ ∃ m, m ≤ 1000 ∧ kn i = nI m) {Ψ : Option Value → aH → Prop} (kk : ∀ h' p' f' w' o' so', Fr h h' (inS k) → ShareAt h' k l M (nI L) 1 p' r f' w' o' so' → (∀ i, i ≤ l → p' i = if i < N then kn i else 0) → Ψ none (n, s, h')) : WO (mM (d + 4)) 8 [.ref c, .ref (aBig + j), .int (nI L)] (n, s, h) Ψ := by
  refine WO.of (Nat.le_of_ble_eq_true rfl) ?_
  show WX (lk tX1_know) (mM (d + 3)) Ψ 0 [(0, .ref c), (1, .ref (aBig + j)), (2, .int (nI L))] [] (n, s, h)
  refine WX.s1 rfl rfl ?_
  refine WX.get1 rfl hc F h9 ?_
  refine WX.s1 rfl rfl ?_
  refine WX.s1 rfl rfl ?_
  refine WX.callC (vs := [.ref k, .ref (aBig + j), .int (nI L)]) rfl rfl rfl (Nat.le_of_ble_eq_true rfl) (rcv_ok (by omega) A.1) ?_
  refine w_beOf hk hn A hl hL hM hM2 ob hj K hN kb (fun h' p' f' w' o' so' fr A' hp => ?_)
  exact WX.ret0 rfl (kk h' p' f' w' o' so' fr A' hp)
def knB (N : Nat) (kn : Nat → Int32) : Prop := ∀ i, i < N → kn i = -1 ∨ ∃ m, m ≤ 1000 ∧ kn i = nI m
def cPack (q : Nat) (pA fA wA oA sA pB fB wB oB sB pC fC wC oC sC : Nat → Int32) (k : Nat) : List aE := [.inr (6, [.ref (k + 1), .ref (k + 8), .ref (k + 27), .ref (k + 54), .ref (k + 81), .ref (k + 5), .ref (k + 6), .int 0, .ref (k + 7)]), .inr (3, [.ref (k + 2), .int 0, .ref (k + 3), .ref (k + 4), .int 0, .int 0, .int 0, .int 0, .int 0, .int 0, .int 0, .int 0, .int 0]), .inl (0, 16000, .inl (fun _ => 0)), .inl (1, 16000, .inl (fun _ => 0)), .inl (1, 4096, .inl (fun _ => 0)), .inl (1, 3, .inl (fun _ => 0)), .inl (1, 3, .inl (fun _ => 0)), .inl (1, 12, .inl (fun _ => 0)), .inr (5, [.ref (k + 9), .ref (k + 10), .int 0, .ref (k + 11), .ref (k + 15), .ref (k + 19), .ref q, .ref (k + 25), .int 0, .int 0, .int 0, .int 0]), .inl (0, 8000, .inl (fun _ => 0)), .inl (1, 256, .inl (fun _ => 0)), .inr (0, [.ref (k + 12), .ref (k + 13), .ref (k + 14), .int 0, .int 0]), .inl (1, 256, .inl (fun _ => 0)), .inl (1, 256, .inl (fun _ => 0)), .inl (1, 13, .inl (fun _ => 0)), .inr (0, [.ref (k + 16), .ref (k + 17), .ref (k + 18), .int 0, .int 0]), .inl (1, 256, .inl (fun _ => 0)), .inl (1, 256, .inl (fun _ => 0)), .inl (1, 13, .inl (fun _ => 0)), .inr (4, [.ref (k + 20), .ref (k + 21), .ref (k + 22), .ref (k + 23), .ref (k + 24)]), .inl (1, 256, .inl (fun _ => 0)), .inl (1, 256, .inl (fun _ => 0)), .inl (1, 512, .inl (fun _ => 0)), .inl (1, 512, .inl (fun _ => 0)), .inl (1, 512, .inl (fun _ => 0)), .inr (7, [.ref (k + 26), .int 0, .int 0, .long 0, .int 0]), .inl (0, 256, .inl (fun _ => 0)), .inr (1, [.ref (aBig + 3), .ref (aBig + 4), .int 9, .ref (k + 28), .ref (k + 29), .ref (k + 32), .int 0, .int 0, .int 0, .ref (k + 33), .ref (k + 40), .ref (k + 47), .ref (k + 33), .ref (k + 30), .int 0, .int 0, .int 0, .int 0]), .inl (1, 2667, .inl (fun _ => 0)), .inl (1, 2667, .inl (fun _ => 0)), .inr (7, [.ref (k + 31), .int 0, .int 0, .long 0, .int 0]), .inl (0, 128, .inl (fun _ => 0)), .inl (1, 36, .inl (fun _ => 0)), .inr (8, [.int 35, .ref (k + 34), .ref (k + 35), .ref (k + 36), .ref (k + 37), .ref (k + 38), .ref (k + 39), .int 6, .int 1]), .inl (1, 36, .inl pA), .inl (1, 36, .inl (fun _ => 0)), .inl (1, 36, .inl fA), .inl (1, 36, .inl wA), .inl (1, 512, .inl oA), .inl (1, 512, .inl sA), .inr (8, [.int 35, .ref (k + 41), .ref (k + 42), .ref (k + 43), .ref (k + 44), .ref (k + 45), .ref (k + 46), .int 0, .int 0]), .inl (1, 36, .inl (fun _ => 0)), .inl (1, 36, .inl (fun _ => 0)), .inl (1, 36, .inl (fun _ => 0)), .inl (1, 36, .inl (fun _ => 0)), .inl (1, 512, .inl (fun _ => 0)), .inl (1, 512, .inl (fun _ => 0)), .inr (8, [.int 35, .ref (k + 48), .ref (k + 49), .ref (k + 50), .ref (k + 51), .ref (k + 52), .ref (k + 53), .int 0, .int 0]), .inl (1, 36, .inl (fun _ => 0)), .inl (1, 36, .inl (fun _ => 0)), .inl (1, 36, .inl (fun _ => 0)), .inl (1, 36, .inl (fun _ => 0)), .inl (1, 512, .inl (fun _ => 0)), .inl (1, 512, .inl (fun _ => 0)), .inr (1, [.ref (aBig + 5), .ref (aBig + 6), .int 8, .ref (k + 55), .ref (k + 56), .ref (k + 59), .int 0, .int 0, .int 0, .ref (k + 60), .ref (k + 67), .ref (k + 74), .ref (k + 60), .ref (k + 57), .int 0, .int 0, .int 0, .int 0]), .inl (1, 2667, .inl (fun _ => 0)), .inl (1, 2667, .inl (fun _ => 0)), .inr (7, [.ref (k + 58), .int 0, .int 0, .long 0, .int 0]), .inl (0, 128, .inl (fun _ => 0)), .inl (1, 32, .inl (fun _ => 0)), .inr (8, [.int 31, .ref (k + 61), .ref (k + 62), .ref (k + 63), .ref (k + 64), .ref (k + 65), .ref (k + 66), .int 5, .int 1]), .inl (1, 32, .inl pB), .inl (1, 32, .inl (fun _ => 0)), .inl (1, 32, .inl fB), .inl (1, 32, .inl wB), .inl (1, 256, .inl oB), .inl (1, 256, .inl sB), .inr (8, [.int 31, .ref (k + 68), .ref (k + 69), .ref (k + 70), .ref (k + 71), .ref (k + 72), .ref (k + 73), .int 0, .int 0]), .inl (1, 32, .inl (fun _ => 0)), .inl (1, 32, .inl (fun _ => 0)), .inl (1, 32, .inl (fun _ => 0)), .inl (1, 32, .inl (fun _ => 0)), .inl (1, 256, .inl (fun _ => 0)), .inl (1, 256, .inl (fun _ => 0)), .inr (8, [.int 31, .ref (k + 75), .ref (k + 76), .ref (k + 77), .ref (k + 78), .ref (k + 79), .ref (k + 80), .int 0, .int 0]), .inl (1, 32, .inl (fun _ => 0)), .inl (1, 32, .inl (fun _ => 0)), .inl (1, 32, .inl (fun _ => 0)), .inl (1, 32, .inl (fun _ => 0)), .inl (1, 256, .inl (fun _ => 0)), .inl (1, 256, .inl (fun _ => 0)), .inr (1, [.ref (aBig + 7), .ref (aBig + 8), .int 9, .ref (k + 82), .ref (k + 83), .ref (k + 86), .int 0, .int 0, .int 0, .ref (k + 87), .ref (k + 94), .ref (k + 101), .ref (k + 87), .ref (k + 84), .int 0, .int 0, .int 0, .int 0]), .inl (1, 2667, .inl (fun _ => 0)), .inl (1, 2667, .inl (fun _ => 0)), .inr (7, [.ref (k + 85), .int 0, .int 0, .long 0, .int 0]), .inl (0, 128, .inl (fun _ => 0)), .inl (1, 53, .inl (fun _ => 0)), .inr (8, [.int 52, .ref (k + 88), .ref (k + 89), .ref (k + 90), .ref (k + 91), .ref (k + 92), .ref (k + 93), .int 6, .int 1]), .inl (1, 53, .inl pC), .inl (1, 53, .inl (fun _ => 0)), .inl (1, 53, .inl fC), .inl (1, 53, .inl wC), .inl (1, 512, .inl oC), .inl (1, 512, .inl sC), .inr (8, [.int 52, .ref (k + 95), .ref (k + 96), .ref (k + 97), .ref (k + 98), .ref (k + 99), .ref (k + 100), .int 0, .int 0]), .inl (1, 53, .inl (fun _ => 0)), .inl (1, 53, .inl (fun _ => 0)), .inl (1, 53, .inl (fun _ => 0)), .inl (1, 53, .inl (fun _ => 0)), .inl (1, 512, .inl (fun _ => 0)), .inl (1, 512, .inl (fun _ => 0)), .inr (8, [.int 52, .ref (k + 102), .ref (k + 103), .ref (k + 104), .ref (k + 105), .ref (k + 106), .ref (k + 107), .int 0, .int 0]), .inl (1, 53, .inl (fun _ => 0)), .inl (1, 53, .inl (fun _ => 0)), .inl (1, 53, .inl (fun _ => 0)), .inl (1, 53, .inl (fun _ => 0)), .inl (1, 512, .inl (fun _ => 0)), .inl (1, 512, .inl (fun _ => 0))]
set_option maxRecDepth 20000 in
theorem n_pack {q : Nat} {d s : Nat} {h : Nat → aE} {k : Nat} (hbig : k + 109 < aBig) (F_h_k : h k = .inr (6, zX6)) {N0 : Nat} {kn0 : Nat → Int32} (K0 : h (aBig + 0) = .inl (1, N0, .inl kn0)) (hK0 : N0 ≤ 36) (kb0 : knB N0 kn0) {N1 : Nat} {kn1 : Nat → Int32} (K1 : h (aBig + 1) = .inl (1, N1, .inl kn1)) (hK1 : N1 ≤ 32) (kb1 : knB N1 kn1) {N2 : Nat} {kn2 : Nat → Int32} (K2 : h (aBig + 2) = .inl (1, N2, .inl kn2)) (hK2 : N2 ≤ 53) (kb2 : knB N2 kn2) {Ψ : Option Value → aH → Prop} (kk : ∀ h' (pA fA wA oA sA pB fB wB oB sB pC fC wC oC sC : Nat → Int32), (∀ j, j < k ∨ aBig ≤ j → h' j = h j) → Cells h' k (cPack q pA fA wA oA sA pB fB wB oB sB pC fC wC oC sC k) → Ψ none (k + 108, s + 73558, h')) : WO (mM (d + 5)) 69 [.ref k, .ref q] (k + 1, s, h) Ψ := by
  refine WO.of (Nat.le_of_ble_eq_true rfl) ?_
  have FR_h : ∀ j, j < k ∨ aBig ≤ j → h j = h j := fun _ _ => rfl
  show WX (lk tX6_init) (mM (d + 4)) Ψ 0 [(0, .ref k), (1, .ref q)] [] (k + 1, s, h)
  refine WX.s1 rfl rfl ?_
  refine WX.s1 rfl rfl ?_
  refine WX.s1 rfl rfl ?_
  refine WX.newN rfl (by have := hbig; omega) (fun h5 e_h5 => ?_)
  have F_h5_k : h5 k = .inr (6, [.null, .null, .null, .null, .null, .null, .null, .int 0, .null]) := by rw [e_h5, va_up_neq (by omega)]; exact F_h_k
  have F_h5__k_1_ : h5 (k + 1) = .inr (3, zX3) := by rw [e_h5]; exact va_up_eq
  have FR_h5 : ∀ j, j < k ∨ aBig ≤ j → h5 j = h j := fun j hj => by rw [e_h5]; exact (va_up_neq (by omega)).trans (FR_h j hj)
  refine WX.s1 rfl rfl ?_
  refine WX.callC (vs := [.ref (k + 1)]) rfl rfl rfl (Nat.le_of_ble_eq_true rfl) (rcv_ok (by omega) F_h5__k_1_) ?_
  refine n_finder (k := k + 1) (by have := hbig; omega) F_h5__k_1_ (fun h9 fr9 cs9 => ?_)
  have F_h9_k : h9 k = .inr (6, [.null, .null, .null, .null, .null, .null, .null, .int 0, .null]) := (fr9 k (by omega)).trans F_h5_k
  have F_h9__k_1_ : h9 (k + 1) = .inr (3, [.ref (k + 2), .int 0, .ref (k + 3), .ref (k + 4), .int 0, .int 0, .int 0, .int 0, .int 0, .int 0, .int 0, .int 0, .int 0]) := cs9.1
  have F_h9__k_2_ : h9 (k + 2) = .inl (0, 16000, .inl (fun _ => 0)) := cs9.2.1
  have F_h9__k_3_ : h9 (k + 3) = .inl (1, 16000, .inl (fun _ => 0)) := cs9.2.2.1
  have F_h9__k_4_ : h9 (k + 4) = .inl (1, 4096, .inl (fun _ => 0)) := cs9.2.2.2.1
  have FR_h9 : ∀ j, j < k ∨ aBig ≤ j → h9 j = h j := fun j hj => (fr9 j (by omega)).trans (FR_h5 j hj)
  show WX _ _ _ 12 [(0, .ref k), (1, .ref q)] [.ref (k + 1), .ref k] (k + 5, s + 13 + 36096, h9)
  refine WX.put1 (fs := [.null, .null, .null, .null, .null, .null, .null, .int 0, .null]) (fs' := [.ref (k + 1), .null, .null, .null, .null, .null, .null, .int 0, .null]) rfl (by omega) (F_h9_k) (Nat.le_of_ble_eq_true rfl) (rfl) rfl (fun h12 e_h12 => ?_)
  have F_h12_k : h12 k = .inr (6, [.ref (k + 1), .null, .null, .null, .null, .null, .null, .int 0, .null]) := by rw [e_h12]; exact va_up_eq
  have F_h12__k_1_ : h12 (k + 1) = .inr (3, [.ref (k + 2), .int 0, .ref (k + 3), .ref (k + 4), .int 0, .int 0, .int 0, .int 0, .int 0, .int 0, .int 0, .int 0, .int 0]) := by rw [e_h12, va_up_neq (by omega)]; exact F_h9__k_1_
  have F_h12__k_2_ : h12 (k + 2) = .inl (0, 16000, .inl (fun _ => 0)) := by rw [e_h12, va_up_neq (by omega)]; exact F_h9__k_2_
  have F_h12__k_3_ : h12 (k + 3) = .inl (1, 16000, .inl (fun _ => 0)) := by rw [e_h12, va_up_neq (by omega)]; exact F_h9__k_3_
  have F_h12__k_4_ : h12 (k + 4) = .inl (1, 4096, .inl (fun _ => 0)) := by rw [e_h12, va_up_neq (by omega)]; exact F_h9__k_4_
  have FR_h12 : ∀ j, j < k ∨ aBig ≤ j → h12 j = h j := fun j hj => by rw [e_h12]; exact (va_up_neq (by omega)).trans (FR_h9 j hj)
  refine WX.s1 rfl rfl ?_
  refine WX.s1 rfl rfl ?_
  refine WX.newaN (N := 3) (z0 := .inl (fun _ => 0)) rfl (by decide) (by decide) (by have := hbig; omega) rfl (fun h17 e_h17 => ?_)
  have F_h17_k : h17 k = .inr (6, [.ref (k + 1), .null, .null, .null, .null, .null, .null, .int 0, .null]) := by rw [e_h17, va_up_neq (by omega)]; exact F_h12_k
  have F_h17__k_1_ : h17 (k + 1) = .inr (3, [.ref (k + 2), .int 0, .ref (k + 3), .ref (k + 4), .int 0, .int 0, .int 0, .int 0, .int 0, .int 0, .int 0, .int 0, .int 0]) := by rw [e_h17, va_up_neq (by omega)]; exact F_h12__k_1_
  have F_h17__k_2_ : h17 (k + 2) = .inl (0, 16000, .inl (fun _ => 0)) := by rw [e_h17, va_up_neq (by omega)]; exact F_h12__k_2_
  have F_h17__k_3_ : h17 (k + 3) = .inl (1, 16000, .inl (fun _ => 0)) := by rw [e_h17, va_up_neq (by omega)]; exact F_h12__k_3_
  have F_h17__k_4_ : h17 (k + 4) = .inl (1, 4096, .inl (fun _ => 0)) := by rw [e_h17, va_up_neq (by omega)]; exact F_h12__k_4_
  have F_h17__k_5_ : h17 (k + 5) = .inl (1, 3, .inl (fun _ => 0)) := by rw [e_h17]; exact va_up_eq
  have FR_h17 : ∀ j, j < k ∨ aBig ≤ j → h17 j = h j := fun j hj => by rw [e_h17]; exact (va_up_neq (by omega)).trans (FR_h12 j hj)
  refine WX.put1 (fs := [.ref (k + 1), .null, .null, .null, .null, .null, .null, .int 0, .null]) (fs' := [.ref (k + 1), .null, .null, .null, .null, .ref (k + 5), .null, .int 0, .null]) rfl (by omega) (F_h17_k) (Nat.le_of_ble_eq_true rfl) (rfl) rfl (fun h19 e_h19 => ?_)
  have F_h19_k : h19 k = .inr (6, [.ref (k + 1), .null, .null, .null, .null, .ref (k + 5), .null, .int 0, .null]) := by rw [e_h19]; exact va_up_eq
  have F_h19__k_1_ : h19 (k + 1) = .inr (3, [.ref (k + 2), .int 0, .ref (k + 3), .ref (k + 4), .int 0, .int 0, .int 0, .int 0, .int 0, .int 0, .int 0, .int 0, .int 0]) := by rw [e_h19, va_up_neq (by omega)]; exact F_h17__k_1_
  have F_h19__k_2_ : h19 (k + 2) = .inl (0, 16000, .inl (fun _ => 0)) := by rw [e_h19, va_up_neq (by omega)]; exact F_h17__k_2_
  have F_h19__k_3_ : h19 (k + 3) = .inl (1, 16000, .inl (fun _ => 0)) := by rw [e_h19, va_up_neq (by omega)]; exact F_h17__k_3_
  have F_h19__k_4_ : h19 (k + 4) = .inl (1, 4096, .inl (fun _ => 0)) := by rw [e_h19, va_up_neq (by omega)]; exact F_h17__k_4_
  have F_h19__k_5_ : h19 (k + 5) = .inl (1, 3, .inl (fun _ => 0)) := by rw [e_h19, va_up_neq (by omega)]; exact F_h17__k_5_
  have FR_h19 : ∀ j, j < k ∨ aBig ≤ j → h19 j = h j := fun j hj => by rw [e_h19]; exact (va_up_neq (by omega)).trans (FR_h17 j hj)
  refine WX.s1 rfl rfl ?_
  refine WX.s1 rfl rfl ?_
  refine WX.newaN (N := 3) (z0 := .inl (fun _ => 0)) rfl (by decide) (by decide) (by have := hbig; omega) rfl (fun h24 e_h24 => ?_)
  have F_h24_k : h24 k = .inr (6, [.ref (k + 1), .null, .null, .null, .null, .ref (k + 5), .null, .int 0, .null]) := by rw [e_h24, va_up_neq (by omega)]; exact F_h19_k
  have F_h24__k_1_ : h24 (k + 1) = .inr (3, [.ref (k + 2), .int 0, .ref (k + 3), .ref (k + 4), .int 0, .int 0, .int 0, .int 0, .int 0, .int 0, .int 0, .int 0, .int 0]) := by rw [e_h24, va_up_neq (by omega)]; exact F_h19__k_1_
  have F_h24__k_2_ : h24 (k + 2) = .inl (0, 16000, .inl (fun _ => 0)) := by rw [e_h24, va_up_neq (by omega)]; exact F_h19__k_2_
  have F_h24__k_3_ : h24 (k + 3) = .inl (1, 16000, .inl (fun _ => 0)) := by rw [e_h24, va_up_neq (by omega)]; exact F_h19__k_3_
  have F_h24__k_4_ : h24 (k + 4) = .inl (1, 4096, .inl (fun _ => 0)) := by rw [e_h24, va_up_neq (by omega)]; exact F_h19__k_4_
  have F_h24__k_5_ : h24 (k + 5) = .inl (1, 3, .inl (fun _ => 0)) := by rw [e_h24, va_up_neq (by omega)]; exact F_h19__k_5_
  have F_h24__k_6_ : h24 (k + 6) = .inl (1, 3, .inl (fun _ => 0)) := by rw [e_h24]; exact va_up_eq
  have FR_h24 : ∀ j, j < k ∨ aBig ≤ j → h24 j = h j := fun j hj => by rw [e_h24]; exact (va_up_neq (by omega)).trans (FR_h19 j hj)
  refine WX.put1 (fs := [.ref (k + 1), .null, .null, .null, .null, .ref (k + 5), .null, .int 0, .null]) (fs' := [.ref (k + 1), .null, .null, .null, .null, .ref (k + 5), .ref (k + 6), .int 0, .null]) rfl (by omega) (F_h24_k) (Nat.le_of_ble_eq_true rfl) (rfl) rfl (fun h26 e_h26 => ?_)
  have F_h26_k : h26 k = .inr (6, [.ref (k + 1), .null, .null, .null, .null, .ref (k + 5), .ref (k + 6), .int 0, .null]) := by rw [e_h26]; exact va_up_eq
  have F_h26__k_1_ : h26 (k + 1) = .inr (3, [.ref (k + 2), .int 0, .ref (k + 3), .ref (k + 4), .int 0, .int 0, .int 0, .int 0, .int 0, .int 0, .int 0, .int 0, .int 0]) := by rw [e_h26, va_up_neq (by omega)]; exact F_h24__k_1_
  have F_h26__k_2_ : h26 (k + 2) = .inl (0, 16000, .inl (fun _ => 0)) := by rw [e_h26, va_up_neq (by omega)]; exact F_h24__k_2_
  have F_h26__k_3_ : h26 (k + 3) = .inl (1, 16000, .inl (fun _ => 0)) := by rw [e_h26, va_up_neq (by omega)]; exact F_h24__k_3_
  have F_h26__k_4_ : h26 (k + 4) = .inl (1, 4096, .inl (fun _ => 0)) := by rw [e_h26, va_up_neq (by omega)]; exact F_h24__k_4_
  have F_h26__k_5_ : h26 (k + 5) = .inl (1, 3, .inl (fun _ => 0)) := by rw [e_h26, va_up_neq (by omega)]; exact F_h24__k_5_
  have F_h26__k_6_ : h26 (k + 6) = .inl (1, 3, .inl (fun _ => 0)) := by rw [e_h26, va_up_neq (by omega)]; exact F_h24__k_6_
  have FR_h26 : ∀ j, j < k ∨ aBig ≤ j → h26 j = h j := fun j hj => by rw [e_h26]; exact (va_up_neq (by omega)).trans (FR_h24 j hj)
  refine WX.s1 rfl rfl ?_
  refine WX.s1 rfl rfl ?_
  refine WX.newaN (N := 12) (z0 := .inl (fun _ => 0)) rfl (by decide) (by decide) (by have := hbig; omega) rfl (fun h32 e_h32 => ?_)
  have F_h32_k : h32 k = .inr (6, [.ref (k + 1), .null, .null, .null, .null, .ref (k + 5), .ref (k + 6), .int 0, .null]) := by rw [e_h32, va_up_neq (by omega)]; exact F_h26_k
  have F_h32__k_1_ : h32 (k + 1) = .inr (3, [.ref (k + 2), .int 0, .ref (k + 3), .ref (k + 4), .int 0, .int 0, .int 0, .int 0, .int 0, .int 0, .int 0, .int 0, .int 0]) := by rw [e_h32, va_up_neq (by omega)]; exact F_h26__k_1_
  have F_h32__k_2_ : h32 (k + 2) = .inl (0, 16000, .inl (fun _ => 0)) := by rw [e_h32, va_up_neq (by omega)]; exact F_h26__k_2_
  have F_h32__k_3_ : h32 (k + 3) = .inl (1, 16000, .inl (fun _ => 0)) := by rw [e_h32, va_up_neq (by omega)]; exact F_h26__k_3_
  have F_h32__k_4_ : h32 (k + 4) = .inl (1, 4096, .inl (fun _ => 0)) := by rw [e_h32, va_up_neq (by omega)]; exact F_h26__k_4_
  have F_h32__k_5_ : h32 (k + 5) = .inl (1, 3, .inl (fun _ => 0)) := by rw [e_h32, va_up_neq (by omega)]; exact F_h26__k_5_
  have F_h32__k_6_ : h32 (k + 6) = .inl (1, 3, .inl (fun _ => 0)) := by rw [e_h32, va_up_neq (by omega)]; exact F_h26__k_6_
  have F_h32__k_7_ : h32 (k + 7) = .inl (1, 12, .inl (fun _ => 0)) := by rw [e_h32]; exact va_up_eq
  have FR_h32 : ∀ j, j < k ∨ aBig ≤ j → h32 j = h j := fun j hj => by rw [e_h32]; exact (va_up_neq (by omega)).trans (FR_h26 j hj)
  refine WX.put1 (fs := [.ref (k + 1), .null, .null, .null, .null, .ref (k + 5), .ref (k + 6), .int 0, .null]) (fs' := [.ref (k + 1), .null, .null, .null, .null, .ref (k + 5), .ref (k + 6), .int 0, .ref (k + 7)]) rfl (by omega) (F_h32_k) (Nat.le_of_ble_eq_true rfl) (rfl) rfl (fun h34 e_h34 => ?_)
  have F_h34_k : h34 k = .inr (6, [.ref (k + 1), .null, .null, .null, .null, .ref (k + 5), .ref (k + 6), .int 0, .ref (k + 7)]) := by rw [e_h34]; exact va_up_eq
  have F_h34__k_1_ : h34 (k + 1) = .inr (3, [.ref (k + 2), .int 0, .ref (k + 3), .ref (k + 4), .int 0, .int 0, .int 0, .int 0, .int 0, .int 0, .int 0, .int 0, .int 0]) := by rw [e_h34, va_up_neq (by omega)]; exact F_h32__k_1_
  have F_h34__k_2_ : h34 (k + 2) = .inl (0, 16000, .inl (fun _ => 0)) := by rw [e_h34, va_up_neq (by omega)]; exact F_h32__k_2_
  have F_h34__k_3_ : h34 (k + 3) = .inl (1, 16000, .inl (fun _ => 0)) := by rw [e_h34, va_up_neq (by omega)]; exact F_h32__k_3_
  have F_h34__k_4_ : h34 (k + 4) = .inl (1, 4096, .inl (fun _ => 0)) := by rw [e_h34, va_up_neq (by omega)]; exact F_h32__k_4_
  have F_h34__k_5_ : h34 (k + 5) = .inl (1, 3, .inl (fun _ => 0)) := by rw [e_h34, va_up_neq (by omega)]; exact F_h32__k_5_
  have F_h34__k_6_ : h34 (k + 6) = .inl (1, 3, .inl (fun _ => 0)) := by rw [e_h34, va_up_neq (by omega)]; exact F_h32__k_6_
  have F_h34__k_7_ : h34 (k + 7) = .inl (1, 12, .inl (fun _ => 0)) := by rw [e_h34, va_up_neq (by omega)]; exact F_h32__k_7_
  have FR_h34 : ∀ j, j < k ∨ aBig ≤ j → h34 j = h j := fun j hj => by rw [e_h34]; exact (va_up_neq (by omega)).trans (FR_h32 j hj)
  refine WX.s1 rfl rfl ?_
  refine WX.newN rfl (by have := hbig; omega) (fun h38 e_h38 => ?_)
  have F_h38_k : h38 k = .inr (6, [.ref (k + 1), .null, .null, .null, .null, .ref (k + 5), .ref (k + 6), .int 0, .ref (k + 7)]) := by rw [e_h38, va_up_neq (by omega)]; exact F_h34_k
  have F_h38__k_1_ : h38 (k + 1) = .inr (3, [.ref (k + 2), .int 0, .ref (k + 3), .ref (k + 4), .int 0, .int 0, .int 0, .int 0, .int 0, .int 0, .int 0, .int 0, .int 0]) := by rw [e_h38, va_up_neq (by omega)]; exact F_h34__k_1_
  have F_h38__k_2_ : h38 (k + 2) = .inl (0, 16000, .inl (fun _ => 0)) := by rw [e_h38, va_up_neq (by omega)]; exact F_h34__k_2_
  have F_h38__k_3_ : h38 (k + 3) = .inl (1, 16000, .inl (fun _ => 0)) := by rw [e_h38, va_up_neq (by omega)]; exact F_h34__k_3_
  have F_h38__k_4_ : h38 (k + 4) = .inl (1, 4096, .inl (fun _ => 0)) := by rw [e_h38, va_up_neq (by omega)]; exact F_h34__k_4_
  have F_h38__k_5_ : h38 (k + 5) = .inl (1, 3, .inl (fun _ => 0)) := by rw [e_h38, va_up_neq (by omega)]; exact F_h34__k_5_
  have F_h38__k_6_ : h38 (k + 6) = .inl (1, 3, .inl (fun _ => 0)) := by rw [e_h38, va_up_neq (by omega)]; exact F_h34__k_6_
  have F_h38__k_7_ : h38 (k + 7) = .inl (1, 12, .inl (fun _ => 0)) := by rw [e_h38, va_up_neq (by omega)]; exact F_h34__k_7_
  have F_h38__k_8_ : h38 (k + 8) = .inr (5, zX5) := by rw [e_h38]; exact va_up_eq
  have FR_h38 : ∀ j, j < k ∨ aBig ≤ j → h38 j = h j := fun j hj => by rw [e_h38]; exact (va_up_neq (by omega)).trans (FR_h34 j hj)
  refine WX.s1 rfl rfl ?_
  refine WX.s1 rfl rfl ?_
  refine WX.callC (vs := [.ref (k + 8), .ref q]) rfl rfl rfl (Nat.le_of_ble_eq_true rfl) (rcv_ok (by omega) F_h38__k_8_) ?_
  refine n_lits (k := k + 8) (by have := hbig; omega) F_h38__k_8_ (fun h43 fr43 cs43 => ?_)
  have F_h43_k : h43 k = .inr (6, [.ref (k + 1), .null, .null, .null, .null, .ref (k + 5), .ref (k + 6), .int 0, .ref (k + 7)]) := (fr43 k (by omega)).trans F_h38_k
  have F_h43__k_1_ : h43 (k + 1) = .inr (3, [.ref (k + 2), .int 0, .ref (k + 3), .ref (k + 4), .int 0, .int 0, .int 0, .int 0, .int 0, .int 0, .int 0, .int 0, .int 0]) := (fr43 (k + 1) (by omega)).trans F_h38__k_1_
  have F_h43__k_2_ : h43 (k + 2) = .inl (0, 16000, .inl (fun _ => 0)) := (fr43 (k + 2) (by omega)).trans F_h38__k_2_
  have F_h43__k_3_ : h43 (k + 3) = .inl (1, 16000, .inl (fun _ => 0)) := (fr43 (k + 3) (by omega)).trans F_h38__k_3_
  have F_h43__k_4_ : h43 (k + 4) = .inl (1, 4096, .inl (fun _ => 0)) := (fr43 (k + 4) (by omega)).trans F_h38__k_4_
  have F_h43__k_5_ : h43 (k + 5) = .inl (1, 3, .inl (fun _ => 0)) := (fr43 (k + 5) (by omega)).trans F_h38__k_5_
  have F_h43__k_6_ : h43 (k + 6) = .inl (1, 3, .inl (fun _ => 0)) := (fr43 (k + 6) (by omega)).trans F_h38__k_6_
  have F_h43__k_7_ : h43 (k + 7) = .inl (1, 12, .inl (fun _ => 0)) := (fr43 (k + 7) (by omega)).trans F_h38__k_7_
  have F_h43__k_8_ : h43 (k + 8) = .inr (5, [.ref (k + 9), .ref (k + 10), .int 0, .ref (k + 11), .ref (k + 15), .ref (k + 19), .ref q, .ref (k + 25), .int 0, .int 0, .int 0, .int 0]) := cs43.1
  have F_h43__k_9_ : h43 (k + 9) = .inl (0, 8000, .inl (fun _ => 0)) := cs43.2.1
  have F_h43__k_10_ : h43 (k + 10) = .inl (1, 256, .inl (fun _ => 0)) := cs43.2.2.1
  have F_h43__k_11_ : h43 (k + 11) = .inr (0, [.ref (k + 12), .ref (k + 13), .ref (k + 14), .int 0, .int 0]) := cs43.2.2.2.1
  have F_h43__k_12_ : h43 (k + 12) = .inl (1, 256, .inl (fun _ => 0)) := cs43.2.2.2.2.1
  have F_h43__k_13_ : h43 (k + 13) = .inl (1, 256, .inl (fun _ => 0)) := cs43.2.2.2.2.2.1
  have F_h43__k_14_ : h43 (k + 14) = .inl (1, 13, .inl (fun _ => 0)) := cs43.2.2.2.2.2.2.1
  have F_h43__k_15_ : h43 (k + 15) = .inr (0, [.ref (k + 16), .ref (k + 17), .ref (k + 18), .int 0, .int 0]) := cs43.2.2.2.2.2.2.2.1
  have F_h43__k_16_ : h43 (k + 16) = .inl (1, 256, .inl (fun _ => 0)) := cs43.2.2.2.2.2.2.2.2.1
  have F_h43__k_17_ : h43 (k + 17) = .inl (1, 256, .inl (fun _ => 0)) := cs43.2.2.2.2.2.2.2.2.2.1
  have F_h43__k_18_ : h43 (k + 18) = .inl (1, 13, .inl (fun _ => 0)) := cs43.2.2.2.2.2.2.2.2.2.2.1
  have F_h43__k_19_ : h43 (k + 19) = .inr (4, [.ref (k + 20), .ref (k + 21), .ref (k + 22), .ref (k + 23), .ref (k + 24)]) := cs43.2.2.2.2.2.2.2.2.2.2.2.1
  have F_h43__k_20_ : h43 (k + 20) = .inl (1, 256, .inl (fun _ => 0)) := cs43.2.2.2.2.2.2.2.2.2.2.2.2.1
  have F_h43__k_21_ : h43 (k + 21) = .inl (1, 256, .inl (fun _ => 0)) := cs43.2.2.2.2.2.2.2.2.2.2.2.2.2.1
  have F_h43__k_22_ : h43 (k + 22) = .inl (1, 512, .inl (fun _ => 0)) := cs43.2.2.2.2.2.2.2.2.2.2.2.2.2.2.1
  have F_h43__k_23_ : h43 (k + 23) = .inl (1, 512, .inl (fun _ => 0)) := cs43.2.2.2.2.2.2.2.2.2.2.2.2.2.2.2.1
  have F_h43__k_24_ : h43 (k + 24) = .inl (1, 512, .inl (fun _ => 0)) := cs43.2.2.2.2.2.2.2.2.2.2.2.2.2.2.2.2.1
  have F_h43__k_25_ : h43 (k + 25) = .inr (7, [.ref (k + 26), .int 0, .int 0, .long 0, .int 0]) := cs43.2.2.2.2.2.2.2.2.2.2.2.2.2.2.2.2.2.1
  have F_h43__k_26_ : h43 (k + 26) = .inl (0, 256, .inl (fun _ => 0)) := cs43.2.2.2.2.2.2.2.2.2.2.2.2.2.2.2.2.2.2.1
  have FR_h43 : ∀ j, j < k ∨ aBig ≤ j → h43 j = h j := fun j hj => (fr43 j (by omega)).trans (FR_h38 j hj)
  show WX _ _ _ 46 [(0, .ref k), (1, .ref q)] [.ref (k + 8), .ref k] (k + 27, s + 13 + 36096 + 3 + 3 + 12 + 12 + 11630, h43)
  refine WX.put1 (fs := [.ref (k + 1), .null, .null, .null, .null, .ref (k + 5), .ref (k + 6), .int 0, .ref (k + 7)]) (fs' := [.ref (k + 1), .ref (k + 8), .null, .null, .null, .ref (k + 5), .ref (k + 6), .int 0, .ref (k + 7)]) rfl (by omega) (F_h43_k) (Nat.le_of_ble_eq_true rfl) (rfl) rfl (fun h46 e_h46 => ?_)
  have F_h46_k : h46 k = .inr (6, [.ref (k + 1), .ref (k + 8), .null, .null, .null, .ref (k + 5), .ref (k + 6), .int 0, .ref (k + 7)]) := by rw [e_h46]; exact va_up_eq
  have F_h46__k_1_ : h46 (k + 1) = .inr (3, [.ref (k + 2), .int 0, .ref (k + 3), .ref (k + 4), .int 0, .int 0, .int 0, .int 0, .int 0, .int 0, .int 0, .int 0, .int 0]) := by rw [e_h46, va_up_neq (by omega)]; exact F_h43__k_1_
  have F_h46__k_2_ : h46 (k + 2) = .inl (0, 16000, .inl (fun _ => 0)) := by rw [e_h46, va_up_neq (by omega)]; exact F_h43__k_2_
  have F_h46__k_3_ : h46 (k + 3) = .inl (1, 16000, .inl (fun _ => 0)) := by rw [e_h46, va_up_neq (by omega)]; exact F_h43__k_3_
  have F_h46__k_4_ : h46 (k + 4) = .inl (1, 4096, .inl (fun _ => 0)) := by rw [e_h46, va_up_neq (by omega)]; exact F_h43__k_4_
  have F_h46__k_5_ : h46 (k + 5) = .inl (1, 3, .inl (fun _ => 0)) := by rw [e_h46, va_up_neq (by omega)]; exact F_h43__k_5_
  have F_h46__k_6_ : h46 (k + 6) = .inl (1, 3, .inl (fun _ => 0)) := by rw [e_h46, va_up_neq (by omega)]; exact F_h43__k_6_
  have F_h46__k_7_ : h46 (k + 7) = .inl (1, 12, .inl (fun _ => 0)) := by rw [e_h46, va_up_neq (by omega)]; exact F_h43__k_7_
  have F_h46__k_8_ : h46 (k + 8) = .inr (5, [.ref (k + 9), .ref (k + 10), .int 0, .ref (k + 11), .ref (k + 15), .ref (k + 19), .ref q, .ref (k + 25), .int 0, .int 0, .int 0, .int 0]) := by rw [e_h46, va_up_neq (by omega)]; exact F_h43__k_8_
  have F_h46__k_9_ : h46 (k + 9) = .inl (0, 8000, .inl (fun _ => 0)) := by rw [e_h46, va_up_neq (by omega)]; exact F_h43__k_9_
  have F_h46__k_10_ : h46 (k + 10) = .inl (1, 256, .inl (fun _ => 0)) := by rw [e_h46, va_up_neq (by omega)]; exact F_h43__k_10_
  have F_h46__k_11_ : h46 (k + 11) = .inr (0, [.ref (k + 12), .ref (k + 13), .ref (k + 14), .int 0, .int 0]) := by rw [e_h46, va_up_neq (by omega)]; exact F_h43__k_11_
  have F_h46__k_12_ : h46 (k + 12) = .inl (1, 256, .inl (fun _ => 0)) := by rw [e_h46, va_up_neq (by omega)]; exact F_h43__k_12_
  have F_h46__k_13_ : h46 (k + 13) = .inl (1, 256, .inl (fun _ => 0)) := by rw [e_h46, va_up_neq (by omega)]; exact F_h43__k_13_
  have F_h46__k_14_ : h46 (k + 14) = .inl (1, 13, .inl (fun _ => 0)) := by rw [e_h46, va_up_neq (by omega)]; exact F_h43__k_14_
  have F_h46__k_15_ : h46 (k + 15) = .inr (0, [.ref (k + 16), .ref (k + 17), .ref (k + 18), .int 0, .int 0]) := by rw [e_h46, va_up_neq (by omega)]; exact F_h43__k_15_
  have F_h46__k_16_ : h46 (k + 16) = .inl (1, 256, .inl (fun _ => 0)) := by rw [e_h46, va_up_neq (by omega)]; exact F_h43__k_16_
  have F_h46__k_17_ : h46 (k + 17) = .inl (1, 256, .inl (fun _ => 0)) := by rw [e_h46, va_up_neq (by omega)]; exact F_h43__k_17_
  have F_h46__k_18_ : h46 (k + 18) = .inl (1, 13, .inl (fun _ => 0)) := by rw [e_h46, va_up_neq (by omega)]; exact F_h43__k_18_
  have F_h46__k_19_ : h46 (k + 19) = .inr (4, [.ref (k + 20), .ref (k + 21), .ref (k + 22), .ref (k + 23), .ref (k + 24)]) := by rw [e_h46, va_up_neq (by omega)]; exact F_h43__k_19_
  have F_h46__k_20_ : h46 (k + 20) = .inl (1, 256, .inl (fun _ => 0)) := by rw [e_h46, va_up_neq (by omega)]; exact F_h43__k_20_
  have F_h46__k_21_ : h46 (k + 21) = .inl (1, 256, .inl (fun _ => 0)) := by rw [e_h46, va_up_neq (by omega)]; exact F_h43__k_21_
  have F_h46__k_22_ : h46 (k + 22) = .inl (1, 512, .inl (fun _ => 0)) := by rw [e_h46, va_up_neq (by omega)]; exact F_h43__k_22_
  have F_h46__k_23_ : h46 (k + 23) = .inl (1, 512, .inl (fun _ => 0)) := by rw [e_h46, va_up_neq (by omega)]; exact F_h43__k_23_
  have F_h46__k_24_ : h46 (k + 24) = .inl (1, 512, .inl (fun _ => 0)) := by rw [e_h46, va_up_neq (by omega)]; exact F_h43__k_24_
  have F_h46__k_25_ : h46 (k + 25) = .inr (7, [.ref (k + 26), .int 0, .int 0, .long 0, .int 0]) := by rw [e_h46, va_up_neq (by omega)]; exact F_h43__k_25_
  have F_h46__k_26_ : h46 (k + 26) = .inl (0, 256, .inl (fun _ => 0)) := by rw [e_h46, va_up_neq (by omega)]; exact F_h43__k_26_
  have FR_h46 : ∀ j, j < k ∨ aBig ≤ j → h46 j = h j := fun j hj => by rw [e_h46]; exact (va_up_neq (by omega)).trans (FR_h43 j hj)
  refine WX.s1 rfl rfl ?_
  refine WX.newN rfl (by have := hbig; omega) (fun h50 e_h50 => ?_)
  have F_h50_k : h50 k = .inr (6, [.ref (k + 1), .ref (k + 8), .null, .null, .null, .ref (k + 5), .ref (k + 6), .int 0, .ref (k + 7)]) := by rw [e_h50, va_up_neq (by omega)]; exact F_h46_k
  have F_h50__k_1_ : h50 (k + 1) = .inr (3, [.ref (k + 2), .int 0, .ref (k + 3), .ref (k + 4), .int 0, .int 0, .int 0, .int 0, .int 0, .int 0, .int 0, .int 0, .int 0]) := by rw [e_h50, va_up_neq (by omega)]; exact F_h46__k_1_
  have F_h50__k_2_ : h50 (k + 2) = .inl (0, 16000, .inl (fun _ => 0)) := by rw [e_h50, va_up_neq (by omega)]; exact F_h46__k_2_
  have F_h50__k_3_ : h50 (k + 3) = .inl (1, 16000, .inl (fun _ => 0)) := by rw [e_h50, va_up_neq (by omega)]; exact F_h46__k_3_
  have F_h50__k_4_ : h50 (k + 4) = .inl (1, 4096, .inl (fun _ => 0)) := by rw [e_h50, va_up_neq (by omega)]; exact F_h46__k_4_
  have F_h50__k_5_ : h50 (k + 5) = .inl (1, 3, .inl (fun _ => 0)) := by rw [e_h50, va_up_neq (by omega)]; exact F_h46__k_5_
  have F_h50__k_6_ : h50 (k + 6) = .inl (1, 3, .inl (fun _ => 0)) := by rw [e_h50, va_up_neq (by omega)]; exact F_h46__k_6_
  have F_h50__k_7_ : h50 (k + 7) = .inl (1, 12, .inl (fun _ => 0)) := by rw [e_h50, va_up_neq (by omega)]; exact F_h46__k_7_
  have F_h50__k_8_ : h50 (k + 8) = .inr (5, [.ref (k + 9), .ref (k + 10), .int 0, .ref (k + 11), .ref (k + 15), .ref (k + 19), .ref q, .ref (k + 25), .int 0, .int 0, .int 0, .int 0]) := by rw [e_h50, va_up_neq (by omega)]; exact F_h46__k_8_
  have F_h50__k_9_ : h50 (k + 9) = .inl (0, 8000, .inl (fun _ => 0)) := by rw [e_h50, va_up_neq (by omega)]; exact F_h46__k_9_
  have F_h50__k_10_ : h50 (k + 10) = .inl (1, 256, .inl (fun _ => 0)) := by rw [e_h50, va_up_neq (by omega)]; exact F_h46__k_10_
  have F_h50__k_11_ : h50 (k + 11) = .inr (0, [.ref (k + 12), .ref (k + 13), .ref (k + 14), .int 0, .int 0]) := by rw [e_h50, va_up_neq (by omega)]; exact F_h46__k_11_
  have F_h50__k_12_ : h50 (k + 12) = .inl (1, 256, .inl (fun _ => 0)) := by rw [e_h50, va_up_neq (by omega)]; exact F_h46__k_12_
  have F_h50__k_13_ : h50 (k + 13) = .inl (1, 256, .inl (fun _ => 0)) := by rw [e_h50, va_up_neq (by omega)]; exact F_h46__k_13_
  have F_h50__k_14_ : h50 (k + 14) = .inl (1, 13, .inl (fun _ => 0)) := by rw [e_h50, va_up_neq (by omega)]; exact F_h46__k_14_
  have F_h50__k_15_ : h50 (k + 15) = .inr (0, [.ref (k + 16), .ref (k + 17), .ref (k + 18), .int 0, .int 0]) := by rw [e_h50, va_up_neq (by omega)]; exact F_h46__k_15_
  have F_h50__k_16_ : h50 (k + 16) = .inl (1, 256, .inl (fun _ => 0)) := by rw [e_h50, va_up_neq (by omega)]; exact F_h46__k_16_
  have F_h50__k_17_ : h50 (k + 17) = .inl (1, 256, .inl (fun _ => 0)) := by rw [e_h50, va_up_neq (by omega)]; exact F_h46__k_17_
  have F_h50__k_18_ : h50 (k + 18) = .inl (1, 13, .inl (fun _ => 0)) := by rw [e_h50, va_up_neq (by omega)]; exact F_h46__k_18_
  have F_h50__k_19_ : h50 (k + 19) = .inr (4, [.ref (k + 20), .ref (k + 21), .ref (k + 22), .ref (k + 23), .ref (k + 24)]) := by rw [e_h50, va_up_neq (by omega)]; exact F_h46__k_19_
  have F_h50__k_20_ : h50 (k + 20) = .inl (1, 256, .inl (fun _ => 0)) := by rw [e_h50, va_up_neq (by omega)]; exact F_h46__k_20_
  have F_h50__k_21_ : h50 (k + 21) = .inl (1, 256, .inl (fun _ => 0)) := by rw [e_h50, va_up_neq (by omega)]; exact F_h46__k_21_
  have F_h50__k_22_ : h50 (k + 22) = .inl (1, 512, .inl (fun _ => 0)) := by rw [e_h50, va_up_neq (by omega)]; exact F_h46__k_22_
  have F_h50__k_23_ : h50 (k + 23) = .inl (1, 512, .inl (fun _ => 0)) := by rw [e_h50, va_up_neq (by omega)]; exact F_h46__k_23_
  have F_h50__k_24_ : h50 (k + 24) = .inl (1, 512, .inl (fun _ => 0)) := by rw [e_h50, va_up_neq (by omega)]; exact F_h46__k_24_
  have F_h50__k_25_ : h50 (k + 25) = .inr (7, [.ref (k + 26), .int 0, .int 0, .long 0, .int 0]) := by rw [e_h50, va_up_neq (by omega)]; exact F_h46__k_25_
  have F_h50__k_26_ : h50 (k + 26) = .inl (0, 256, .inl (fun _ => 0)) := by rw [e_h50, va_up_neq (by omega)]; exact F_h46__k_26_
  have F_h50__k_27_ : h50 (k + 27) = .inr (1, zX1) := by rw [e_h50]; exact va_up_eq
  have FR_h50 : ∀ j, j < k ∨ aBig ≤ j → h50 j = h j := fun j hj => by rw [e_h50]; exact (va_up_neq (by omega)).trans (FR_h46 j hj)
  refine WX.s1 rfl rfl ?_
  refine WX.s1 rfl rfl ?_
  refine WX.s1 rfl rfl ?_
  refine WX.s1 rfl rfl ?_
  refine WX.s1 rfl rfl ?_
  refine WX.callC (vs := [.ref (k + 27), .ref (aBig + 3), .ref (aBig + 4), .int 35, .int 9]) rfl rfl rfl (Nat.le_of_ble_eq_true rfl) (rcv_ok (by omega) F_h50__k_27_) ?_
  refine n_col_35_9 (k := k + 27) (by have := hbig; omega) F_h50__k_27_ (fun h64 fr64 cs64 => ?_)
  have F_h64_k : h64 k = .inr (6, [.ref (k + 1), .ref (k + 8), .null, .null, .null, .ref (k + 5), .ref (k + 6), .int 0, .ref (k + 7)]) := (fr64 k (by omega)).trans F_h50_k
  have F_h64__k_1_ : h64 (k + 1) = .inr (3, [.ref (k + 2), .int 0, .ref (k + 3), .ref (k + 4), .int 0, .int 0, .int 0, .int 0, .int 0, .int 0, .int 0, .int 0, .int 0]) := (fr64 (k + 1) (by omega)).trans F_h50__k_1_
  have F_h64__k_2_ : h64 (k + 2) = .inl (0, 16000, .inl (fun _ => 0)) := (fr64 (k + 2) (by omega)).trans F_h50__k_2_
  have F_h64__k_3_ : h64 (k + 3) = .inl (1, 16000, .inl (fun _ => 0)) := (fr64 (k + 3) (by omega)).trans F_h50__k_3_
  have F_h64__k_4_ : h64 (k + 4) = .inl (1, 4096, .inl (fun _ => 0)) := (fr64 (k + 4) (by omega)).trans F_h50__k_4_
  have F_h64__k_5_ : h64 (k + 5) = .inl (1, 3, .inl (fun _ => 0)) := (fr64 (k + 5) (by omega)).trans F_h50__k_5_
  have F_h64__k_6_ : h64 (k + 6) = .inl (1, 3, .inl (fun _ => 0)) := (fr64 (k + 6) (by omega)).trans F_h50__k_6_
  have F_h64__k_7_ : h64 (k + 7) = .inl (1, 12, .inl (fun _ => 0)) := (fr64 (k + 7) (by omega)).trans F_h50__k_7_
  have F_h64__k_8_ : h64 (k + 8) = .inr (5, [.ref (k + 9), .ref (k + 10), .int 0, .ref (k + 11), .ref (k + 15), .ref (k + 19), .ref q, .ref (k + 25), .int 0, .int 0, .int 0, .int 0]) := (fr64 (k + 8) (by omega)).trans F_h50__k_8_
  have F_h64__k_9_ : h64 (k + 9) = .inl (0, 8000, .inl (fun _ => 0)) := (fr64 (k + 9) (by omega)).trans F_h50__k_9_
  have F_h64__k_10_ : h64 (k + 10) = .inl (1, 256, .inl (fun _ => 0)) := (fr64 (k + 10) (by omega)).trans F_h50__k_10_
  have F_h64__k_11_ : h64 (k + 11) = .inr (0, [.ref (k + 12), .ref (k + 13), .ref (k + 14), .int 0, .int 0]) := (fr64 (k + 11) (by omega)).trans F_h50__k_11_
  have F_h64__k_12_ : h64 (k + 12) = .inl (1, 256, .inl (fun _ => 0)) := (fr64 (k + 12) (by omega)).trans F_h50__k_12_
  have F_h64__k_13_ : h64 (k + 13) = .inl (1, 256, .inl (fun _ => 0)) := (fr64 (k + 13) (by omega)).trans F_h50__k_13_
  have F_h64__k_14_ : h64 (k + 14) = .inl (1, 13, .inl (fun _ => 0)) := (fr64 (k + 14) (by omega)).trans F_h50__k_14_
  have F_h64__k_15_ : h64 (k + 15) = .inr (0, [.ref (k + 16), .ref (k + 17), .ref (k + 18), .int 0, .int 0]) := (fr64 (k + 15) (by omega)).trans F_h50__k_15_
  have F_h64__k_16_ : h64 (k + 16) = .inl (1, 256, .inl (fun _ => 0)) := (fr64 (k + 16) (by omega)).trans F_h50__k_16_
  have F_h64__k_17_ : h64 (k + 17) = .inl (1, 256, .inl (fun _ => 0)) := (fr64 (k + 17) (by omega)).trans F_h50__k_17_
  have F_h64__k_18_ : h64 (k + 18) = .inl (1, 13, .inl (fun _ => 0)) := (fr64 (k + 18) (by omega)).trans F_h50__k_18_
  have F_h64__k_19_ : h64 (k + 19) = .inr (4, [.ref (k + 20), .ref (k + 21), .ref (k + 22), .ref (k + 23), .ref (k + 24)]) := (fr64 (k + 19) (by omega)).trans F_h50__k_19_
  have F_h64__k_20_ : h64 (k + 20) = .inl (1, 256, .inl (fun _ => 0)) := (fr64 (k + 20) (by omega)).trans F_h50__k_20_
  have F_h64__k_21_ : h64 (k + 21) = .inl (1, 256, .inl (fun _ => 0)) := (fr64 (k + 21) (by omega)).trans F_h50__k_21_
  have F_h64__k_22_ : h64 (k + 22) = .inl (1, 512, .inl (fun _ => 0)) := (fr64 (k + 22) (by omega)).trans F_h50__k_22_
  have F_h64__k_23_ : h64 (k + 23) = .inl (1, 512, .inl (fun _ => 0)) := (fr64 (k + 23) (by omega)).trans F_h50__k_23_
  have F_h64__k_24_ : h64 (k + 24) = .inl (1, 512, .inl (fun _ => 0)) := (fr64 (k + 24) (by omega)).trans F_h50__k_24_
  have F_h64__k_25_ : h64 (k + 25) = .inr (7, [.ref (k + 26), .int 0, .int 0, .long 0, .int 0]) := (fr64 (k + 25) (by omega)).trans F_h50__k_25_
  have F_h64__k_26_ : h64 (k + 26) = .inl (0, 256, .inl (fun _ => 0)) := (fr64 (k + 26) (by omega)).trans F_h50__k_26_
  have F_h64__k_27_ : h64 (k + 27) = .inr (1, [.ref (aBig + 3), .ref (aBig + 4), .int 9, .ref (k + 28), .ref (k + 29), .ref (k + 32), .int 0, .int 0, .int 0, .ref (k + 33), .ref (k + 40), .ref (k + 47), .ref (k + 33), .ref (k + 30), .int 0, .int 0, .int 0, .int 0]) := cs64.1
  have F_h64__k_28_ : h64 (k + 28) = .inl (1, 2667, .inl (fun _ => 0)) := cs64.2.1
  have F_h64__k_29_ : h64 (k + 29) = .inl (1, 2667, .inl (fun _ => 0)) := cs64.2.2.1
  have F_h64__k_30_ : h64 (k + 30) = .inr (7, [.ref (k + 31), .int 0, .int 0, .long 0, .int 0]) := cs64.2.2.2.1
  have F_h64__k_31_ : h64 (k + 31) = .inl (0, 128, .inl (fun _ => 0)) := cs64.2.2.2.2.1
  have F_h64__k_32_ : h64 (k + 32) = .inl (1, 36, .inl (fun _ => 0)) := cs64.2.2.2.2.2.1
  have F_h64__k_33_ : h64 (k + 33) = .inr (8, [.int 35, .ref (k + 34), .ref (k + 35), .ref (k + 36), .ref (k + 37), .ref (k + 38), .ref (k + 39), .int 0, .int 0]) := cs64.2.2.2.2.2.2.1
  have F_h64__k_34_ : h64 (k + 34) = .inl (1, 36, .inl (fun _ => 0)) := cs64.2.2.2.2.2.2.2.1
  have F_h64__k_35_ : h64 (k + 35) = .inl (1, 36, .inl (fun _ => 0)) := cs64.2.2.2.2.2.2.2.2.1
  have F_h64__k_36_ : h64 (k + 36) = .inl (1, 36, .inl (fun _ => 0)) := cs64.2.2.2.2.2.2.2.2.2.1
  have F_h64__k_37_ : h64 (k + 37) = .inl (1, 36, .inl (fun _ => 0)) := cs64.2.2.2.2.2.2.2.2.2.2.1
  have F_h64__k_38_ : h64 (k + 38) = .inl (1, 512, .inl (fun _ => 0)) := cs64.2.2.2.2.2.2.2.2.2.2.2.1
  have F_h64__k_39_ : h64 (k + 39) = .inl (1, 512, .inl (fun _ => 0)) := cs64.2.2.2.2.2.2.2.2.2.2.2.2.1
  have F_h64__k_40_ : h64 (k + 40) = .inr (8, [.int 35, .ref (k + 41), .ref (k + 42), .ref (k + 43), .ref (k + 44), .ref (k + 45), .ref (k + 46), .int 0, .int 0]) := cs64.2.2.2.2.2.2.2.2.2.2.2.2.2.1
  have F_h64__k_41_ : h64 (k + 41) = .inl (1, 36, .inl (fun _ => 0)) := cs64.2.2.2.2.2.2.2.2.2.2.2.2.2.2.1
  have F_h64__k_42_ : h64 (k + 42) = .inl (1, 36, .inl (fun _ => 0)) := cs64.2.2.2.2.2.2.2.2.2.2.2.2.2.2.2.1
  have F_h64__k_43_ : h64 (k + 43) = .inl (1, 36, .inl (fun _ => 0)) := cs64.2.2.2.2.2.2.2.2.2.2.2.2.2.2.2.2.1
  have F_h64__k_44_ : h64 (k + 44) = .inl (1, 36, .inl (fun _ => 0)) := cs64.2.2.2.2.2.2.2.2.2.2.2.2.2.2.2.2.2.1
  have F_h64__k_45_ : h64 (k + 45) = .inl (1, 512, .inl (fun _ => 0)) := cs64.2.2.2.2.2.2.2.2.2.2.2.2.2.2.2.2.2.2.1
  have F_h64__k_46_ : h64 (k + 46) = .inl (1, 512, .inl (fun _ => 0)) := cs64.2.2.2.2.2.2.2.2.2.2.2.2.2.2.2.2.2.2.2.1
  have F_h64__k_47_ : h64 (k + 47) = .inr (8, [.int 35, .ref (k + 48), .ref (k + 49), .ref (k + 50), .ref (k + 51), .ref (k + 52), .ref (k + 53), .int 0, .int 0]) := cs64.2.2.2.2.2.2.2.2.2.2.2.2.2.2.2.2.2.2.2.2.1
  have F_h64__k_48_ : h64 (k + 48) = .inl (1, 36, .inl (fun _ => 0)) := cs64.2.2.2.2.2.2.2.2.2.2.2.2.2.2.2.2.2.2.2.2.2.1
  have F_h64__k_49_ : h64 (k + 49) = .inl (1, 36, .inl (fun _ => 0)) := cs64.2.2.2.2.2.2.2.2.2.2.2.2.2.2.2.2.2.2.2.2.2.2.1
  have F_h64__k_50_ : h64 (k + 50) = .inl (1, 36, .inl (fun _ => 0)) := cs64.2.2.2.2.2.2.2.2.2.2.2.2.2.2.2.2.2.2.2.2.2.2.2.1
  have F_h64__k_51_ : h64 (k + 51) = .inl (1, 36, .inl (fun _ => 0)) := cs64.2.2.2.2.2.2.2.2.2.2.2.2.2.2.2.2.2.2.2.2.2.2.2.2.1
  have F_h64__k_52_ : h64 (k + 52) = .inl (1, 512, .inl (fun _ => 0)) := cs64.2.2.2.2.2.2.2.2.2.2.2.2.2.2.2.2.2.2.2.2.2.2.2.2.2.1
  have F_h64__k_53_ : h64 (k + 53) = .inl (1, 512, .inl (fun _ => 0)) := cs64.2.2.2.2.2.2.2.2.2.2.2.2.2.2.2.2.2.2.2.2.2.2.2.2.2.2.1
  have FR_h64 : ∀ j, j < k ∨ aBig ≤ j → h64 j = h j := fun j hj => (fr64 j (by omega)).trans (FR_h50 j hj)
  show WX _ _ _ 67 [(0, .ref k), (1, .ref q)] [.ref (k + 27), .ref k] (k + 54, s + 13 + 36096 + 3 + 3 + 12 + 12 + 11630 + 18 + 9034, h64)
  refine WX.put1 (fs := [.ref (k + 1), .ref (k + 8), .null, .null, .null, .ref (k + 5), .ref (k + 6), .int 0, .ref (k + 7)]) (fs' := [.ref (k + 1), .ref (k + 8), .ref (k + 27), .null, .null, .ref (k + 5), .ref (k + 6), .int 0, .ref (k + 7)]) rfl (by omega) (F_h64_k) (Nat.le_of_ble_eq_true rfl) (rfl) rfl (fun h67 e_h67 => ?_)
  have F_h67_k : h67 k = .inr (6, [.ref (k + 1), .ref (k + 8), .ref (k + 27), .null, .null, .ref (k + 5), .ref (k + 6), .int 0, .ref (k + 7)]) := by rw [e_h67]; exact va_up_eq
  have F_h67__k_1_ : h67 (k + 1) = .inr (3, [.ref (k + 2), .int 0, .ref (k + 3), .ref (k + 4), .int 0, .int 0, .int 0, .int 0, .int 0, .int 0, .int 0, .int 0, .int 0]) := by rw [e_h67, va_up_neq (by omega)]; exact F_h64__k_1_
  have F_h67__k_2_ : h67 (k + 2) = .inl (0, 16000, .inl (fun _ => 0)) := by rw [e_h67, va_up_neq (by omega)]; exact F_h64__k_2_
  have F_h67__k_3_ : h67 (k + 3) = .inl (1, 16000, .inl (fun _ => 0)) := by rw [e_h67, va_up_neq (by omega)]; exact F_h64__k_3_
  have F_h67__k_4_ : h67 (k + 4) = .inl (1, 4096, .inl (fun _ => 0)) := by rw [e_h67, va_up_neq (by omega)]; exact F_h64__k_4_
  have F_h67__k_5_ : h67 (k + 5) = .inl (1, 3, .inl (fun _ => 0)) := by rw [e_h67, va_up_neq (by omega)]; exact F_h64__k_5_
  have F_h67__k_6_ : h67 (k + 6) = .inl (1, 3, .inl (fun _ => 0)) := by rw [e_h67, va_up_neq (by omega)]; exact F_h64__k_6_
  have F_h67__k_7_ : h67 (k + 7) = .inl (1, 12, .inl (fun _ => 0)) := by rw [e_h67, va_up_neq (by omega)]; exact F_h64__k_7_
  have F_h67__k_8_ : h67 (k + 8) = .inr (5, [.ref (k + 9), .ref (k + 10), .int 0, .ref (k + 11), .ref (k + 15), .ref (k + 19), .ref q, .ref (k + 25), .int 0, .int 0, .int 0, .int 0]) := by rw [e_h67, va_up_neq (by omega)]; exact F_h64__k_8_
  have F_h67__k_9_ : h67 (k + 9) = .inl (0, 8000, .inl (fun _ => 0)) := by rw [e_h67, va_up_neq (by omega)]; exact F_h64__k_9_
  have F_h67__k_10_ : h67 (k + 10) = .inl (1, 256, .inl (fun _ => 0)) := by rw [e_h67, va_up_neq (by omega)]; exact F_h64__k_10_
  have F_h67__k_11_ : h67 (k + 11) = .inr (0, [.ref (k + 12), .ref (k + 13), .ref (k + 14), .int 0, .int 0]) := by rw [e_h67, va_up_neq (by omega)]; exact F_h64__k_11_
  have F_h67__k_12_ : h67 (k + 12) = .inl (1, 256, .inl (fun _ => 0)) := by rw [e_h67, va_up_neq (by omega)]; exact F_h64__k_12_
  have F_h67__k_13_ : h67 (k + 13) = .inl (1, 256, .inl (fun _ => 0)) := by rw [e_h67, va_up_neq (by omega)]; exact F_h64__k_13_
  have F_h67__k_14_ : h67 (k + 14) = .inl (1, 13, .inl (fun _ => 0)) := by rw [e_h67, va_up_neq (by omega)]; exact F_h64__k_14_
  have F_h67__k_15_ : h67 (k + 15) = .inr (0, [.ref (k + 16), .ref (k + 17), .ref (k + 18), .int 0, .int 0]) := by rw [e_h67, va_up_neq (by omega)]; exact F_h64__k_15_
  have F_h67__k_16_ : h67 (k + 16) = .inl (1, 256, .inl (fun _ => 0)) := by rw [e_h67, va_up_neq (by omega)]; exact F_h64__k_16_
  have F_h67__k_17_ : h67 (k + 17) = .inl (1, 256, .inl (fun _ => 0)) := by rw [e_h67, va_up_neq (by omega)]; exact F_h64__k_17_
  have F_h67__k_18_ : h67 (k + 18) = .inl (1, 13, .inl (fun _ => 0)) := by rw [e_h67, va_up_neq (by omega)]; exact F_h64__k_18_
  have F_h67__k_19_ : h67 (k + 19) = .inr (4, [.ref (k + 20), .ref (k + 21), .ref (k + 22), .ref (k + 23), .ref (k + 24)]) := by rw [e_h67, va_up_neq (by omega)]; exact F_h64__k_19_
  have F_h67__k_20_ : h67 (k + 20) = .inl (1, 256, .inl (fun _ => 0)) := by rw [e_h67, va_up_neq (by omega)]; exact F_h64__k_20_
  have F_h67__k_21_ : h67 (k + 21) = .inl (1, 256, .inl (fun _ => 0)) := by rw [e_h67, va_up_neq (by omega)]; exact F_h64__k_21_
  have F_h67__k_22_ : h67 (k + 22) = .inl (1, 512, .inl (fun _ => 0)) := by rw [e_h67, va_up_neq (by omega)]; exact F_h64__k_22_
  have F_h67__k_23_ : h67 (k + 23) = .inl (1, 512, .inl (fun _ => 0)) := by rw [e_h67, va_up_neq (by omega)]; exact F_h64__k_23_
  have F_h67__k_24_ : h67 (k + 24) = .inl (1, 512, .inl (fun _ => 0)) := by rw [e_h67, va_up_neq (by omega)]; exact F_h64__k_24_
  have F_h67__k_25_ : h67 (k + 25) = .inr (7, [.ref (k + 26), .int 0, .int 0, .long 0, .int 0]) := by rw [e_h67, va_up_neq (by omega)]; exact F_h64__k_25_
  have F_h67__k_26_ : h67 (k + 26) = .inl (0, 256, .inl (fun _ => 0)) := by rw [e_h67, va_up_neq (by omega)]; exact F_h64__k_26_
  have F_h67__k_27_ : h67 (k + 27) = .inr (1, [.ref (aBig + 3), .ref (aBig + 4), .int 9, .ref (k + 28), .ref (k + 29), .ref (k + 32), .int 0, .int 0, .int 0, .ref (k + 33), .ref (k + 40), .ref (k + 47), .ref (k + 33), .ref (k + 30), .int 0, .int 0, .int 0, .int 0]) := by rw [e_h67, va_up_neq (by omega)]; exact F_h64__k_27_
  have F_h67__k_28_ : h67 (k + 28) = .inl (1, 2667, .inl (fun _ => 0)) := by rw [e_h67, va_up_neq (by omega)]; exact F_h64__k_28_
  have F_h67__k_29_ : h67 (k + 29) = .inl (1, 2667, .inl (fun _ => 0)) := by rw [e_h67, va_up_neq (by omega)]; exact F_h64__k_29_
  have F_h67__k_30_ : h67 (k + 30) = .inr (7, [.ref (k + 31), .int 0, .int 0, .long 0, .int 0]) := by rw [e_h67, va_up_neq (by omega)]; exact F_h64__k_30_
  have F_h67__k_31_ : h67 (k + 31) = .inl (0, 128, .inl (fun _ => 0)) := by rw [e_h67, va_up_neq (by omega)]; exact F_h64__k_31_
  have F_h67__k_32_ : h67 (k + 32) = .inl (1, 36, .inl (fun _ => 0)) := by rw [e_h67, va_up_neq (by omega)]; exact F_h64__k_32_
  have F_h67__k_33_ : h67 (k + 33) = .inr (8, [.int 35, .ref (k + 34), .ref (k + 35), .ref (k + 36), .ref (k + 37), .ref (k + 38), .ref (k + 39), .int 0, .int 0]) := by rw [e_h67, va_up_neq (by omega)]; exact F_h64__k_33_
  have F_h67__k_34_ : h67 (k + 34) = .inl (1, 36, .inl (fun _ => 0)) := by rw [e_h67, va_up_neq (by omega)]; exact F_h64__k_34_
  have F_h67__k_35_ : h67 (k + 35) = .inl (1, 36, .inl (fun _ => 0)) := by rw [e_h67, va_up_neq (by omega)]; exact F_h64__k_35_
  have F_h67__k_36_ : h67 (k + 36) = .inl (1, 36, .inl (fun _ => 0)) := by rw [e_h67, va_up_neq (by omega)]; exact F_h64__k_36_
  have F_h67__k_37_ : h67 (k + 37) = .inl (1, 36, .inl (fun _ => 0)) := by rw [e_h67, va_up_neq (by omega)]; exact F_h64__k_37_
  have F_h67__k_38_ : h67 (k + 38) = .inl (1, 512, .inl (fun _ => 0)) := by rw [e_h67, va_up_neq (by omega)]; exact F_h64__k_38_
  have F_h67__k_39_ : h67 (k + 39) = .inl (1, 512, .inl (fun _ => 0)) := by rw [e_h67, va_up_neq (by omega)]; exact F_h64__k_39_
  have F_h67__k_40_ : h67 (k + 40) = .inr (8, [.int 35, .ref (k + 41), .ref (k + 42), .ref (k + 43), .ref (k + 44), .ref (k + 45), .ref (k + 46), .int 0, .int 0]) := by rw [e_h67, va_up_neq (by omega)]; exact F_h64__k_40_
  have F_h67__k_41_ : h67 (k + 41) = .inl (1, 36, .inl (fun _ => 0)) := by rw [e_h67, va_up_neq (by omega)]; exact F_h64__k_41_
  have F_h67__k_42_ : h67 (k + 42) = .inl (1, 36, .inl (fun _ => 0)) := by rw [e_h67, va_up_neq (by omega)]; exact F_h64__k_42_
  have F_h67__k_43_ : h67 (k + 43) = .inl (1, 36, .inl (fun _ => 0)) := by rw [e_h67, va_up_neq (by omega)]; exact F_h64__k_43_
  have F_h67__k_44_ : h67 (k + 44) = .inl (1, 36, .inl (fun _ => 0)) := by rw [e_h67, va_up_neq (by omega)]; exact F_h64__k_44_
  have F_h67__k_45_ : h67 (k + 45) = .inl (1, 512, .inl (fun _ => 0)) := by rw [e_h67, va_up_neq (by omega)]; exact F_h64__k_45_
  have F_h67__k_46_ : h67 (k + 46) = .inl (1, 512, .inl (fun _ => 0)) := by rw [e_h67, va_up_neq (by omega)]; exact F_h64__k_46_
  have F_h67__k_47_ : h67 (k + 47) = .inr (8, [.int 35, .ref (k + 48), .ref (k + 49), .ref (k + 50), .ref (k + 51), .ref (k + 52), .ref (k + 53), .int 0, .int 0]) := by rw [e_h67, va_up_neq (by omega)]; exact F_h64__k_47_
  have F_h67__k_48_ : h67 (k + 48) = .inl (1, 36, .inl (fun _ => 0)) := by rw [e_h67, va_up_neq (by omega)]; exact F_h64__k_48_
  have F_h67__k_49_ : h67 (k + 49) = .inl (1, 36, .inl (fun _ => 0)) := by rw [e_h67, va_up_neq (by omega)]; exact F_h64__k_49_
  have F_h67__k_50_ : h67 (k + 50) = .inl (1, 36, .inl (fun _ => 0)) := by rw [e_h67, va_up_neq (by omega)]; exact F_h64__k_50_
  have F_h67__k_51_ : h67 (k + 51) = .inl (1, 36, .inl (fun _ => 0)) := by rw [e_h67, va_up_neq (by omega)]; exact F_h64__k_51_
  have F_h67__k_52_ : h67 (k + 52) = .inl (1, 512, .inl (fun _ => 0)) := by rw [e_h67, va_up_neq (by omega)]; exact F_h64__k_52_
  have F_h67__k_53_ : h67 (k + 53) = .inl (1, 512, .inl (fun _ => 0)) := by rw [e_h67, va_up_neq (by omega)]; exact F_h64__k_53_
  have FR_h67 : ∀ j, j < k ∨ aBig ≤ j → h67 j = h j := fun j hj => by rw [e_h67]; exact (va_up_neq (by omega)).trans (FR_h64 j hj)
  refine WX.s1 rfl rfl ?_
  refine WX.get1 (fs := [.ref (k + 1), .ref (k + 8), .ref (k + 27), .null, .null, .ref (k + 5), .ref (k + 6), .int 0, .ref (k + 7)]) rfl (by omega) (F_h67_k) rfl ?_
  refine WX.s1 rfl rfl ?_
  refine WX.s1 rfl rfl ?_
  refine WX.callC (vs := [.ref (k + 27), .ref (aBig + 0), .int 6]) rfl rfl rfl (Nat.le_of_ble_eq_true rfl) (rcv_ok (by omega) F_h67__k_27_) ?_
  refine w_know (k := k + 33) (l := 35) (M := 512) (L := 6) (j := 0) (by omega) F_h67__k_27_ rfl (by omega) (by have := hbig; omega) ⟨F_h67__k_33_, F_h67__k_34_, F_h67__k_35_, F_h67__k_36_, F_h67__k_37_, F_h67__k_38_, F_h67__k_39_⟩ (by decide) (by decide) (by decide) (by decide) (fun _ _ => ⟨0, Nat.zero_le _, rfl⟩) (by decide) ((FR_h67 _ (Or.inr (Nat.le_add_right _ _))).trans K0) hK0 kb0 (fun h79 pA fA wA oA sA fr79 A79 hp79 => ?_)
  have F_h79_k : h79 k = .inr (6, [.ref (k + 1), .ref (k + 8), .ref (k + 27), .null, .null, .ref (k + 5), .ref (k + 6), .int 0, .ref (k + 7)]) := (fr79 k (fun z => by have z1 := z.1; have z2 := z.2; omega)).trans F_h67_k
  have F_h79__k_1_ : h79 (k + 1) = .inr (3, [.ref (k + 2), .int 0, .ref (k + 3), .ref (k + 4), .int 0, .int 0, .int 0, .int 0, .int 0, .int 0, .int 0, .int 0, .int 0]) := (fr79 (k + 1) (fun z => by have z1 := z.1; have z2 := z.2; omega)).trans F_h67__k_1_
  have F_h79__k_2_ : h79 (k + 2) = .inl (0, 16000, .inl (fun _ => 0)) := (fr79 (k + 2) (fun z => by have z1 := z.1; have z2 := z.2; omega)).trans F_h67__k_2_
  have F_h79__k_3_ : h79 (k + 3) = .inl (1, 16000, .inl (fun _ => 0)) := (fr79 (k + 3) (fun z => by have z1 := z.1; have z2 := z.2; omega)).trans F_h67__k_3_
  have F_h79__k_4_ : h79 (k + 4) = .inl (1, 4096, .inl (fun _ => 0)) := (fr79 (k + 4) (fun z => by have z1 := z.1; have z2 := z.2; omega)).trans F_h67__k_4_
  have F_h79__k_5_ : h79 (k + 5) = .inl (1, 3, .inl (fun _ => 0)) := (fr79 (k + 5) (fun z => by have z1 := z.1; have z2 := z.2; omega)).trans F_h67__k_5_
  have F_h79__k_6_ : h79 (k + 6) = .inl (1, 3, .inl (fun _ => 0)) := (fr79 (k + 6) (fun z => by have z1 := z.1; have z2 := z.2; omega)).trans F_h67__k_6_
  have F_h79__k_7_ : h79 (k + 7) = .inl (1, 12, .inl (fun _ => 0)) := (fr79 (k + 7) (fun z => by have z1 := z.1; have z2 := z.2; omega)).trans F_h67__k_7_
  have F_h79__k_8_ : h79 (k + 8) = .inr (5, [.ref (k + 9), .ref (k + 10), .int 0, .ref (k + 11), .ref (k + 15), .ref (k + 19), .ref q, .ref (k + 25), .int 0, .int 0, .int 0, .int 0]) := (fr79 (k + 8) (fun z => by have z1 := z.1; have z2 := z.2; omega)).trans F_h67__k_8_
  have F_h79__k_9_ : h79 (k + 9) = .inl (0, 8000, .inl (fun _ => 0)) := (fr79 (k + 9) (fun z => by have z1 := z.1; have z2 := z.2; omega)).trans F_h67__k_9_
  have F_h79__k_10_ : h79 (k + 10) = .inl (1, 256, .inl (fun _ => 0)) := (fr79 (k + 10) (fun z => by have z1 := z.1; have z2 := z.2; omega)).trans F_h67__k_10_
  have F_h79__k_11_ : h79 (k + 11) = .inr (0, [.ref (k + 12), .ref (k + 13), .ref (k + 14), .int 0, .int 0]) := (fr79 (k + 11) (fun z => by have z1 := z.1; have z2 := z.2; omega)).trans F_h67__k_11_
  have F_h79__k_12_ : h79 (k + 12) = .inl (1, 256, .inl (fun _ => 0)) := (fr79 (k + 12) (fun z => by have z1 := z.1; have z2 := z.2; omega)).trans F_h67__k_12_
  have F_h79__k_13_ : h79 (k + 13) = .inl (1, 256, .inl (fun _ => 0)) := (fr79 (k + 13) (fun z => by have z1 := z.1; have z2 := z.2; omega)).trans F_h67__k_13_
  have F_h79__k_14_ : h79 (k + 14) = .inl (1, 13, .inl (fun _ => 0)) := (fr79 (k + 14) (fun z => by have z1 := z.1; have z2 := z.2; omega)).trans F_h67__k_14_
  have F_h79__k_15_ : h79 (k + 15) = .inr (0, [.ref (k + 16), .ref (k + 17), .ref (k + 18), .int 0, .int 0]) := (fr79 (k + 15) (fun z => by have z1 := z.1; have z2 := z.2; omega)).trans F_h67__k_15_
  have F_h79__k_16_ : h79 (k + 16) = .inl (1, 256, .inl (fun _ => 0)) := (fr79 (k + 16) (fun z => by have z1 := z.1; have z2 := z.2; omega)).trans F_h67__k_16_
  have F_h79__k_17_ : h79 (k + 17) = .inl (1, 256, .inl (fun _ => 0)) := (fr79 (k + 17) (fun z => by have z1 := z.1; have z2 := z.2; omega)).trans F_h67__k_17_
  have F_h79__k_18_ : h79 (k + 18) = .inl (1, 13, .inl (fun _ => 0)) := (fr79 (k + 18) (fun z => by have z1 := z.1; have z2 := z.2; omega)).trans F_h67__k_18_
  have F_h79__k_19_ : h79 (k + 19) = .inr (4, [.ref (k + 20), .ref (k + 21), .ref (k + 22), .ref (k + 23), .ref (k + 24)]) := (fr79 (k + 19) (fun z => by have z1 := z.1; have z2 := z.2; omega)).trans F_h67__k_19_
  have F_h79__k_20_ : h79 (k + 20) = .inl (1, 256, .inl (fun _ => 0)) := (fr79 (k + 20) (fun z => by have z1 := z.1; have z2 := z.2; omega)).trans F_h67__k_20_
  have F_h79__k_21_ : h79 (k + 21) = .inl (1, 256, .inl (fun _ => 0)) := (fr79 (k + 21) (fun z => by have z1 := z.1; have z2 := z.2; omega)).trans F_h67__k_21_
  have F_h79__k_22_ : h79 (k + 22) = .inl (1, 512, .inl (fun _ => 0)) := (fr79 (k + 22) (fun z => by have z1 := z.1; have z2 := z.2; omega)).trans F_h67__k_22_
  have F_h79__k_23_ : h79 (k + 23) = .inl (1, 512, .inl (fun _ => 0)) := (fr79 (k + 23) (fun z => by have z1 := z.1; have z2 := z.2; omega)).trans F_h67__k_23_
  have F_h79__k_24_ : h79 (k + 24) = .inl (1, 512, .inl (fun _ => 0)) := (fr79 (k + 24) (fun z => by have z1 := z.1; have z2 := z.2; omega)).trans F_h67__k_24_
  have F_h79__k_25_ : h79 (k + 25) = .inr (7, [.ref (k + 26), .int 0, .int 0, .long 0, .int 0]) := (fr79 (k + 25) (fun z => by have z1 := z.1; have z2 := z.2; omega)).trans F_h67__k_25_
  have F_h79__k_26_ : h79 (k + 26) = .inl (0, 256, .inl (fun _ => 0)) := (fr79 (k + 26) (fun z => by have z1 := z.1; have z2 := z.2; omega)).trans F_h67__k_26_
  have F_h79__k_27_ : h79 (k + 27) = .inr (1, [.ref (aBig + 3), .ref (aBig + 4), .int 9, .ref (k + 28), .ref (k + 29), .ref (k + 32), .int 0, .int 0, .int 0, .ref (k + 33), .ref (k + 40), .ref (k + 47), .ref (k + 33), .ref (k + 30), .int 0, .int 0, .int 0, .int 0]) := (fr79 (k + 27) (fun z => by have z1 := z.1; have z2 := z.2; omega)).trans F_h67__k_27_
  have F_h79__k_28_ : h79 (k + 28) = .inl (1, 2667, .inl (fun _ => 0)) := (fr79 (k + 28) (fun z => by have z1 := z.1; have z2 := z.2; omega)).trans F_h67__k_28_
  have F_h79__k_29_ : h79 (k + 29) = .inl (1, 2667, .inl (fun _ => 0)) := (fr79 (k + 29) (fun z => by have z1 := z.1; have z2 := z.2; omega)).trans F_h67__k_29_
  have F_h79__k_30_ : h79 (k + 30) = .inr (7, [.ref (k + 31), .int 0, .int 0, .long 0, .int 0]) := (fr79 (k + 30) (fun z => by have z1 := z.1; have z2 := z.2; omega)).trans F_h67__k_30_
  have F_h79__k_31_ : h79 (k + 31) = .inl (0, 128, .inl (fun _ => 0)) := (fr79 (k + 31) (fun z => by have z1 := z.1; have z2 := z.2; omega)).trans F_h67__k_31_
  have F_h79__k_32_ : h79 (k + 32) = .inl (1, 36, .inl (fun _ => 0)) := (fr79 (k + 32) (fun z => by have z1 := z.1; have z2 := z.2; omega)).trans F_h67__k_32_
  have F_h79__k_40_ : h79 (k + 40) = .inr (8, [.int 35, .ref (k + 41), .ref (k + 42), .ref (k + 43), .ref (k + 44), .ref (k + 45), .ref (k + 46), .int 0, .int 0]) := (fr79 (k + 40) (fun z => by have z1 := z.1; have z2 := z.2; omega)).trans F_h67__k_40_
  have F_h79__k_41_ : h79 (k + 41) = .inl (1, 36, .inl (fun _ => 0)) := (fr79 (k + 41) (fun z => by have z1 := z.1; have z2 := z.2; omega)).trans F_h67__k_41_
  have F_h79__k_42_ : h79 (k + 42) = .inl (1, 36, .inl (fun _ => 0)) := (fr79 (k + 42) (fun z => by have z1 := z.1; have z2 := z.2; omega)).trans F_h67__k_42_
  have F_h79__k_43_ : h79 (k + 43) = .inl (1, 36, .inl (fun _ => 0)) := (fr79 (k + 43) (fun z => by have z1 := z.1; have z2 := z.2; omega)).trans F_h67__k_43_
  have F_h79__k_44_ : h79 (k + 44) = .inl (1, 36, .inl (fun _ => 0)) := (fr79 (k + 44) (fun z => by have z1 := z.1; have z2 := z.2; omega)).trans F_h67__k_44_
  have F_h79__k_45_ : h79 (k + 45) = .inl (1, 512, .inl (fun _ => 0)) := (fr79 (k + 45) (fun z => by have z1 := z.1; have z2 := z.2; omega)).trans F_h67__k_45_
  have F_h79__k_46_ : h79 (k + 46) = .inl (1, 512, .inl (fun _ => 0)) := (fr79 (k + 46) (fun z => by have z1 := z.1; have z2 := z.2; omega)).trans F_h67__k_46_
  have F_h79__k_47_ : h79 (k + 47) = .inr (8, [.int 35, .ref (k + 48), .ref (k + 49), .ref (k + 50), .ref (k + 51), .ref (k + 52), .ref (k + 53), .int 0, .int 0]) := (fr79 (k + 47) (fun z => by have z1 := z.1; have z2 := z.2; omega)).trans F_h67__k_47_
  have F_h79__k_48_ : h79 (k + 48) = .inl (1, 36, .inl (fun _ => 0)) := (fr79 (k + 48) (fun z => by have z1 := z.1; have z2 := z.2; omega)).trans F_h67__k_48_
  have F_h79__k_49_ : h79 (k + 49) = .inl (1, 36, .inl (fun _ => 0)) := (fr79 (k + 49) (fun z => by have z1 := z.1; have z2 := z.2; omega)).trans F_h67__k_49_
  have F_h79__k_50_ : h79 (k + 50) = .inl (1, 36, .inl (fun _ => 0)) := (fr79 (k + 50) (fun z => by have z1 := z.1; have z2 := z.2; omega)).trans F_h67__k_50_
  have F_h79__k_51_ : h79 (k + 51) = .inl (1, 36, .inl (fun _ => 0)) := (fr79 (k + 51) (fun z => by have z1 := z.1; have z2 := z.2; omega)).trans F_h67__k_51_
  have F_h79__k_52_ : h79 (k + 52) = .inl (1, 512, .inl (fun _ => 0)) := (fr79 (k + 52) (fun z => by have z1 := z.1; have z2 := z.2; omega)).trans F_h67__k_52_
  have F_h79__k_53_ : h79 (k + 53) = .inl (1, 512, .inl (fun _ => 0)) := (fr79 (k + 53) (fun z => by have z1 := z.1; have z2 := z.2; omega)).trans F_h67__k_53_
  have F_h79__k_33_ : h79 (k + 33) = .inr (8, [.int 35, .ref (k + 34), .ref (k + 35), .ref (k + 36), .ref (k + 37), .ref (k + 38), .ref (k + 39), .int 6, .int 1]) := A79.1
  have F_h79__k_34_ : h79 (k + 34) = .inl (1, 36, .inl pA) := A79.2.1
  have F_h79__k_35_ : h79 (k + 35) = .inl (1, 36, .inl (fun _ => 0)) := A79.2.2.1
  have F_h79__k_36_ : h79 (k + 36) = .inl (1, 36, .inl fA) := A79.2.2.2.1
  have F_h79__k_37_ : h79 (k + 37) = .inl (1, 36, .inl wA) := A79.2.2.2.2.1
  have F_h79__k_38_ : h79 (k + 38) = .inl (1, 512, .inl oA) := A79.2.2.2.2.2.1
  have F_h79__k_39_ : h79 (k + 39) = .inl (1, 512, .inl sA) := A79.2.2.2.2.2.2
  have FR_h79 : ∀ j, j < k ∨ aBig ≤ j → h79 j = h j := fun j hj => (fr79 j (fun z => by have z1 := z.1; have z2 := z.2; have := hbig; omega)).trans (FR_h67 j hj)
  show WX _ _ _ 82 [(0, .ref k), (1, .ref q)] [] (k + 54, s + 13 + 36096 + 3 + 3 + 12 + 12 + 11630 + 18 + 9034, h79)
  refine WX.s1 rfl rfl ?_
  refine WX.newN rfl (by have := hbig; omega) (fun h83 e_h83 => ?_)
  have F_h83_k : h83 k = .inr (6, [.ref (k + 1), .ref (k + 8), .ref (k + 27), .null, .null, .ref (k + 5), .ref (k + 6), .int 0, .ref (k + 7)]) := by rw [e_h83, va_up_neq (by omega)]; exact F_h79_k
  have F_h83__k_1_ : h83 (k + 1) = .inr (3, [.ref (k + 2), .int 0, .ref (k + 3), .ref (k + 4), .int 0, .int 0, .int 0, .int 0, .int 0, .int 0, .int 0, .int 0, .int 0]) := by rw [e_h83, va_up_neq (by omega)]; exact F_h79__k_1_
  have F_h83__k_2_ : h83 (k + 2) = .inl (0, 16000, .inl (fun _ => 0)) := by rw [e_h83, va_up_neq (by omega)]; exact F_h79__k_2_
  have F_h83__k_3_ : h83 (k + 3) = .inl (1, 16000, .inl (fun _ => 0)) := by rw [e_h83, va_up_neq (by omega)]; exact F_h79__k_3_
  have F_h83__k_4_ : h83 (k + 4) = .inl (1, 4096, .inl (fun _ => 0)) := by rw [e_h83, va_up_neq (by omega)]; exact F_h79__k_4_
  have F_h83__k_5_ : h83 (k + 5) = .inl (1, 3, .inl (fun _ => 0)) := by rw [e_h83, va_up_neq (by omega)]; exact F_h79__k_5_
  have F_h83__k_6_ : h83 (k + 6) = .inl (1, 3, .inl (fun _ => 0)) := by rw [e_h83, va_up_neq (by omega)]; exact F_h79__k_6_
  have F_h83__k_7_ : h83 (k + 7) = .inl (1, 12, .inl (fun _ => 0)) := by rw [e_h83, va_up_neq (by omega)]; exact F_h79__k_7_
  have F_h83__k_8_ : h83 (k + 8) = .inr (5, [.ref (k + 9), .ref (k + 10), .int 0, .ref (k + 11), .ref (k + 15), .ref (k + 19), .ref q, .ref (k + 25), .int 0, .int 0, .int 0, .int 0]) := by rw [e_h83, va_up_neq (by omega)]; exact F_h79__k_8_
  have F_h83__k_9_ : h83 (k + 9) = .inl (0, 8000, .inl (fun _ => 0)) := by rw [e_h83, va_up_neq (by omega)]; exact F_h79__k_9_
  have F_h83__k_10_ : h83 (k + 10) = .inl (1, 256, .inl (fun _ => 0)) := by rw [e_h83, va_up_neq (by omega)]; exact F_h79__k_10_
  have F_h83__k_11_ : h83 (k + 11) = .inr (0, [.ref (k + 12), .ref (k + 13), .ref (k + 14), .int 0, .int 0]) := by rw [e_h83, va_up_neq (by omega)]; exact F_h79__k_11_
  have F_h83__k_12_ : h83 (k + 12) = .inl (1, 256, .inl (fun _ => 0)) := by rw [e_h83, va_up_neq (by omega)]; exact F_h79__k_12_
  have F_h83__k_13_ : h83 (k + 13) = .inl (1, 256, .inl (fun _ => 0)) := by rw [e_h83, va_up_neq (by omega)]; exact F_h79__k_13_
  have F_h83__k_14_ : h83 (k + 14) = .inl (1, 13, .inl (fun _ => 0)) := by rw [e_h83, va_up_neq (by omega)]; exact F_h79__k_14_
  have F_h83__k_15_ : h83 (k + 15) = .inr (0, [.ref (k + 16), .ref (k + 17), .ref (k + 18), .int 0, .int 0]) := by rw [e_h83, va_up_neq (by omega)]; exact F_h79__k_15_
  have F_h83__k_16_ : h83 (k + 16) = .inl (1, 256, .inl (fun _ => 0)) := by rw [e_h83, va_up_neq (by omega)]; exact F_h79__k_16_
  have F_h83__k_17_ : h83 (k + 17) = .inl (1, 256, .inl (fun _ => 0)) := by rw [e_h83, va_up_neq (by omega)]; exact F_h79__k_17_
  have F_h83__k_18_ : h83 (k + 18) = .inl (1, 13, .inl (fun _ => 0)) := by rw [e_h83, va_up_neq (by omega)]; exact F_h79__k_18_
  have F_h83__k_19_ : h83 (k + 19) = .inr (4, [.ref (k + 20), .ref (k + 21), .ref (k + 22), .ref (k + 23), .ref (k + 24)]) := by rw [e_h83, va_up_neq (by omega)]; exact F_h79__k_19_
  have F_h83__k_20_ : h83 (k + 20) = .inl (1, 256, .inl (fun _ => 0)) := by rw [e_h83, va_up_neq (by omega)]; exact F_h79__k_20_
  have F_h83__k_21_ : h83 (k + 21) = .inl (1, 256, .inl (fun _ => 0)) := by rw [e_h83, va_up_neq (by omega)]; exact F_h79__k_21_
  have F_h83__k_22_ : h83 (k + 22) = .inl (1, 512, .inl (fun _ => 0)) := by rw [e_h83, va_up_neq (by omega)]; exact F_h79__k_22_
  have F_h83__k_23_ : h83 (k + 23) = .inl (1, 512, .inl (fun _ => 0)) := by rw [e_h83, va_up_neq (by omega)]; exact F_h79__k_23_
  have F_h83__k_24_ : h83 (k + 24) = .inl (1, 512, .inl (fun _ => 0)) := by rw [e_h83, va_up_neq (by omega)]; exact F_h79__k_24_
  have F_h83__k_25_ : h83 (k + 25) = .inr (7, [.ref (k + 26), .int 0, .int 0, .long 0, .int 0]) := by rw [e_h83, va_up_neq (by omega)]; exact F_h79__k_25_
  have F_h83__k_26_ : h83 (k + 26) = .inl (0, 256, .inl (fun _ => 0)) := by rw [e_h83, va_up_neq (by omega)]; exact F_h79__k_26_
  have F_h83__k_27_ : h83 (k + 27) = .inr (1, [.ref (aBig + 3), .ref (aBig + 4), .int 9, .ref (k + 28), .ref (k + 29), .ref (k + 32), .int 0, .int 0, .int 0, .ref (k + 33), .ref (k + 40), .ref (k + 47), .ref (k + 33), .ref (k + 30), .int 0, .int 0, .int 0, .int 0]) := by rw [e_h83, va_up_neq (by omega)]; exact F_h79__k_27_
  have F_h83__k_28_ : h83 (k + 28) = .inl (1, 2667, .inl (fun _ => 0)) := by rw [e_h83, va_up_neq (by omega)]; exact F_h79__k_28_
  have F_h83__k_29_ : h83 (k + 29) = .inl (1, 2667, .inl (fun _ => 0)) := by rw [e_h83, va_up_neq (by omega)]; exact F_h79__k_29_
  have F_h83__k_30_ : h83 (k + 30) = .inr (7, [.ref (k + 31), .int 0, .int 0, .long 0, .int 0]) := by rw [e_h83, va_up_neq (by omega)]; exact F_h79__k_30_
  have F_h83__k_31_ : h83 (k + 31) = .inl (0, 128, .inl (fun _ => 0)) := by rw [e_h83, va_up_neq (by omega)]; exact F_h79__k_31_
  have F_h83__k_32_ : h83 (k + 32) = .inl (1, 36, .inl (fun _ => 0)) := by rw [e_h83, va_up_neq (by omega)]; exact F_h79__k_32_
  have F_h83__k_40_ : h83 (k + 40) = .inr (8, [.int 35, .ref (k + 41), .ref (k + 42), .ref (k + 43), .ref (k + 44), .ref (k + 45), .ref (k + 46), .int 0, .int 0]) := by rw [e_h83, va_up_neq (by omega)]; exact F_h79__k_40_
  have F_h83__k_41_ : h83 (k + 41) = .inl (1, 36, .inl (fun _ => 0)) := by rw [e_h83, va_up_neq (by omega)]; exact F_h79__k_41_
  have F_h83__k_42_ : h83 (k + 42) = .inl (1, 36, .inl (fun _ => 0)) := by rw [e_h83, va_up_neq (by omega)]; exact F_h79__k_42_
  have F_h83__k_43_ : h83 (k + 43) = .inl (1, 36, .inl (fun _ => 0)) := by rw [e_h83, va_up_neq (by omega)]; exact F_h79__k_43_
  have F_h83__k_44_ : h83 (k + 44) = .inl (1, 36, .inl (fun _ => 0)) := by rw [e_h83, va_up_neq (by omega)]; exact F_h79__k_44_
  have F_h83__k_45_ : h83 (k + 45) = .inl (1, 512, .inl (fun _ => 0)) := by rw [e_h83, va_up_neq (by omega)]; exact F_h79__k_45_
  have F_h83__k_46_ : h83 (k + 46) = .inl (1, 512, .inl (fun _ => 0)) := by rw [e_h83, va_up_neq (by omega)]; exact F_h79__k_46_
  have F_h83__k_47_ : h83 (k + 47) = .inr (8, [.int 35, .ref (k + 48), .ref (k + 49), .ref (k + 50), .ref (k + 51), .ref (k + 52), .ref (k + 53), .int 0, .int 0]) := by rw [e_h83, va_up_neq (by omega)]; exact F_h79__k_47_
  have F_h83__k_48_ : h83 (k + 48) = .inl (1, 36, .inl (fun _ => 0)) := by rw [e_h83, va_up_neq (by omega)]; exact F_h79__k_48_
  have F_h83__k_49_ : h83 (k + 49) = .inl (1, 36, .inl (fun _ => 0)) := by rw [e_h83, va_up_neq (by omega)]; exact F_h79__k_49_
  have F_h83__k_50_ : h83 (k + 50) = .inl (1, 36, .inl (fun _ => 0)) := by rw [e_h83, va_up_neq (by omega)]; exact F_h79__k_50_
  have F_h83__k_51_ : h83 (k + 51) = .inl (1, 36, .inl (fun _ => 0)) := by rw [e_h83, va_up_neq (by omega)]; exact F_h79__k_51_
  have F_h83__k_52_ : h83 (k + 52) = .inl (1, 512, .inl (fun _ => 0)) := by rw [e_h83, va_up_neq (by omega)]; exact F_h79__k_52_
  have F_h83__k_53_ : h83 (k + 53) = .inl (1, 512, .inl (fun _ => 0)) := by rw [e_h83, va_up_neq (by omega)]; exact F_h79__k_53_
  have F_h83__k_33_ : h83 (k + 33) = .inr (8, [.int 35, .ref (k + 34), .ref (k + 35), .ref (k + 36), .ref (k + 37), .ref (k + 38), .ref (k + 39), .int 6, .int 1]) := by rw [e_h83, va_up_neq (by omega)]; exact F_h79__k_33_
  have F_h83__k_34_ : h83 (k + 34) = .inl (1, 36, .inl pA) := by rw [e_h83, va_up_neq (by omega)]; exact F_h79__k_34_
  have F_h83__k_35_ : h83 (k + 35) = .inl (1, 36, .inl (fun _ => 0)) := by rw [e_h83, va_up_neq (by omega)]; exact F_h79__k_35_
  have F_h83__k_36_ : h83 (k + 36) = .inl (1, 36, .inl fA) := by rw [e_h83, va_up_neq (by omega)]; exact F_h79__k_36_
  have F_h83__k_37_ : h83 (k + 37) = .inl (1, 36, .inl wA) := by rw [e_h83, va_up_neq (by omega)]; exact F_h79__k_37_
  have F_h83__k_38_ : h83 (k + 38) = .inl (1, 512, .inl oA) := by rw [e_h83, va_up_neq (by omega)]; exact F_h79__k_38_
  have F_h83__k_39_ : h83 (k + 39) = .inl (1, 512, .inl sA) := by rw [e_h83, va_up_neq (by omega)]; exact F_h79__k_39_
  have F_h83__k_54_ : h83 (k + 54) = .inr (1, zX1) := by rw [e_h83]; exact va_up_eq
  have FR_h83 : ∀ j, j < k ∨ aBig ≤ j → h83 j = h j := fun j hj => by rw [e_h83]; exact (va_up_neq (by omega)).trans (FR_h79 j hj)
  refine WX.s1 rfl rfl ?_
  refine WX.s1 rfl rfl ?_
  refine WX.s1 rfl rfl ?_
  refine WX.s1 rfl rfl ?_
  refine WX.s1 rfl rfl ?_
  refine WX.callC (vs := [.ref (k + 54), .ref (aBig + 5), .ref (aBig + 6), .int 31, .int 8]) rfl rfl rfl (Nat.le_of_ble_eq_true rfl) (rcv_ok (by omega) F_h83__k_54_) ?_
  refine n_col_31_8 (k := k + 54) (by have := hbig; omega) F_h83__k_54_ (fun h97 fr97 cs97 => ?_)
  have F_h97_k : h97 k = .inr (6, [.ref (k + 1), .ref (k + 8), .ref (k + 27), .null, .null, .ref (k + 5), .ref (k + 6), .int 0, .ref (k + 7)]) := (fr97 k (by omega)).trans F_h83_k
  have F_h97__k_1_ : h97 (k + 1) = .inr (3, [.ref (k + 2), .int 0, .ref (k + 3), .ref (k + 4), .int 0, .int 0, .int 0, .int 0, .int 0, .int 0, .int 0, .int 0, .int 0]) := (fr97 (k + 1) (by omega)).trans F_h83__k_1_
  have F_h97__k_2_ : h97 (k + 2) = .inl (0, 16000, .inl (fun _ => 0)) := (fr97 (k + 2) (by omega)).trans F_h83__k_2_
  have F_h97__k_3_ : h97 (k + 3) = .inl (1, 16000, .inl (fun _ => 0)) := (fr97 (k + 3) (by omega)).trans F_h83__k_3_
  have F_h97__k_4_ : h97 (k + 4) = .inl (1, 4096, .inl (fun _ => 0)) := (fr97 (k + 4) (by omega)).trans F_h83__k_4_
  have F_h97__k_5_ : h97 (k + 5) = .inl (1, 3, .inl (fun _ => 0)) := (fr97 (k + 5) (by omega)).trans F_h83__k_5_
  have F_h97__k_6_ : h97 (k + 6) = .inl (1, 3, .inl (fun _ => 0)) := (fr97 (k + 6) (by omega)).trans F_h83__k_6_
  have F_h97__k_7_ : h97 (k + 7) = .inl (1, 12, .inl (fun _ => 0)) := (fr97 (k + 7) (by omega)).trans F_h83__k_7_
  have F_h97__k_8_ : h97 (k + 8) = .inr (5, [.ref (k + 9), .ref (k + 10), .int 0, .ref (k + 11), .ref (k + 15), .ref (k + 19), .ref q, .ref (k + 25), .int 0, .int 0, .int 0, .int 0]) := (fr97 (k + 8) (by omega)).trans F_h83__k_8_
  have F_h97__k_9_ : h97 (k + 9) = .inl (0, 8000, .inl (fun _ => 0)) := (fr97 (k + 9) (by omega)).trans F_h83__k_9_
  have F_h97__k_10_ : h97 (k + 10) = .inl (1, 256, .inl (fun _ => 0)) := (fr97 (k + 10) (by omega)).trans F_h83__k_10_
  have F_h97__k_11_ : h97 (k + 11) = .inr (0, [.ref (k + 12), .ref (k + 13), .ref (k + 14), .int 0, .int 0]) := (fr97 (k + 11) (by omega)).trans F_h83__k_11_
  have F_h97__k_12_ : h97 (k + 12) = .inl (1, 256, .inl (fun _ => 0)) := (fr97 (k + 12) (by omega)).trans F_h83__k_12_
  have F_h97__k_13_ : h97 (k + 13) = .inl (1, 256, .inl (fun _ => 0)) := (fr97 (k + 13) (by omega)).trans F_h83__k_13_
  have F_h97__k_14_ : h97 (k + 14) = .inl (1, 13, .inl (fun _ => 0)) := (fr97 (k + 14) (by omega)).trans F_h83__k_14_
  have F_h97__k_15_ : h97 (k + 15) = .inr (0, [.ref (k + 16), .ref (k + 17), .ref (k + 18), .int 0, .int 0]) := (fr97 (k + 15) (by omega)).trans F_h83__k_15_
  have F_h97__k_16_ : h97 (k + 16) = .inl (1, 256, .inl (fun _ => 0)) := (fr97 (k + 16) (by omega)).trans F_h83__k_16_
  have F_h97__k_17_ : h97 (k + 17) = .inl (1, 256, .inl (fun _ => 0)) := (fr97 (k + 17) (by omega)).trans F_h83__k_17_
  have F_h97__k_18_ : h97 (k + 18) = .inl (1, 13, .inl (fun _ => 0)) := (fr97 (k + 18) (by omega)).trans F_h83__k_18_
  have F_h97__k_19_ : h97 (k + 19) = .inr (4, [.ref (k + 20), .ref (k + 21), .ref (k + 22), .ref (k + 23), .ref (k + 24)]) := (fr97 (k + 19) (by omega)).trans F_h83__k_19_
  have F_h97__k_20_ : h97 (k + 20) = .inl (1, 256, .inl (fun _ => 0)) := (fr97 (k + 20) (by omega)).trans F_h83__k_20_
  have F_h97__k_21_ : h97 (k + 21) = .inl (1, 256, .inl (fun _ => 0)) := (fr97 (k + 21) (by omega)).trans F_h83__k_21_
  have F_h97__k_22_ : h97 (k + 22) = .inl (1, 512, .inl (fun _ => 0)) := (fr97 (k + 22) (by omega)).trans F_h83__k_22_
  have F_h97__k_23_ : h97 (k + 23) = .inl (1, 512, .inl (fun _ => 0)) := (fr97 (k + 23) (by omega)).trans F_h83__k_23_
  have F_h97__k_24_ : h97 (k + 24) = .inl (1, 512, .inl (fun _ => 0)) := (fr97 (k + 24) (by omega)).trans F_h83__k_24_
  have F_h97__k_25_ : h97 (k + 25) = .inr (7, [.ref (k + 26), .int 0, .int 0, .long 0, .int 0]) := (fr97 (k + 25) (by omega)).trans F_h83__k_25_
  have F_h97__k_26_ : h97 (k + 26) = .inl (0, 256, .inl (fun _ => 0)) := (fr97 (k + 26) (by omega)).trans F_h83__k_26_
  have F_h97__k_27_ : h97 (k + 27) = .inr (1, [.ref (aBig + 3), .ref (aBig + 4), .int 9, .ref (k + 28), .ref (k + 29), .ref (k + 32), .int 0, .int 0, .int 0, .ref (k + 33), .ref (k + 40), .ref (k + 47), .ref (k + 33), .ref (k + 30), .int 0, .int 0, .int 0, .int 0]) := (fr97 (k + 27) (by omega)).trans F_h83__k_27_
  have F_h97__k_28_ : h97 (k + 28) = .inl (1, 2667, .inl (fun _ => 0)) := (fr97 (k + 28) (by omega)).trans F_h83__k_28_
  have F_h97__k_29_ : h97 (k + 29) = .inl (1, 2667, .inl (fun _ => 0)) := (fr97 (k + 29) (by omega)).trans F_h83__k_29_
  have F_h97__k_30_ : h97 (k + 30) = .inr (7, [.ref (k + 31), .int 0, .int 0, .long 0, .int 0]) := (fr97 (k + 30) (by omega)).trans F_h83__k_30_
  have F_h97__k_31_ : h97 (k + 31) = .inl (0, 128, .inl (fun _ => 0)) := (fr97 (k + 31) (by omega)).trans F_h83__k_31_
  have F_h97__k_32_ : h97 (k + 32) = .inl (1, 36, .inl (fun _ => 0)) := (fr97 (k + 32) (by omega)).trans F_h83__k_32_
  have F_h97__k_40_ : h97 (k + 40) = .inr (8, [.int 35, .ref (k + 41), .ref (k + 42), .ref (k + 43), .ref (k + 44), .ref (k + 45), .ref (k + 46), .int 0, .int 0]) := (fr97 (k + 40) (by omega)).trans F_h83__k_40_
  have F_h97__k_41_ : h97 (k + 41) = .inl (1, 36, .inl (fun _ => 0)) := (fr97 (k + 41) (by omega)).trans F_h83__k_41_
  have F_h97__k_42_ : h97 (k + 42) = .inl (1, 36, .inl (fun _ => 0)) := (fr97 (k + 42) (by omega)).trans F_h83__k_42_
  have F_h97__k_43_ : h97 (k + 43) = .inl (1, 36, .inl (fun _ => 0)) := (fr97 (k + 43) (by omega)).trans F_h83__k_43_
  have F_h97__k_44_ : h97 (k + 44) = .inl (1, 36, .inl (fun _ => 0)) := (fr97 (k + 44) (by omega)).trans F_h83__k_44_
  have F_h97__k_45_ : h97 (k + 45) = .inl (1, 512, .inl (fun _ => 0)) := (fr97 (k + 45) (by omega)).trans F_h83__k_45_
  have F_h97__k_46_ : h97 (k + 46) = .inl (1, 512, .inl (fun _ => 0)) := (fr97 (k + 46) (by omega)).trans F_h83__k_46_
  have F_h97__k_47_ : h97 (k + 47) = .inr (8, [.int 35, .ref (k + 48), .ref (k + 49), .ref (k + 50), .ref (k + 51), .ref (k + 52), .ref (k + 53), .int 0, .int 0]) := (fr97 (k + 47) (by omega)).trans F_h83__k_47_
  have F_h97__k_48_ : h97 (k + 48) = .inl (1, 36, .inl (fun _ => 0)) := (fr97 (k + 48) (by omega)).trans F_h83__k_48_
  have F_h97__k_49_ : h97 (k + 49) = .inl (1, 36, .inl (fun _ => 0)) := (fr97 (k + 49) (by omega)).trans F_h83__k_49_
  have F_h97__k_50_ : h97 (k + 50) = .inl (1, 36, .inl (fun _ => 0)) := (fr97 (k + 50) (by omega)).trans F_h83__k_50_
  have F_h97__k_51_ : h97 (k + 51) = .inl (1, 36, .inl (fun _ => 0)) := (fr97 (k + 51) (by omega)).trans F_h83__k_51_
  have F_h97__k_52_ : h97 (k + 52) = .inl (1, 512, .inl (fun _ => 0)) := (fr97 (k + 52) (by omega)).trans F_h83__k_52_
  have F_h97__k_53_ : h97 (k + 53) = .inl (1, 512, .inl (fun _ => 0)) := (fr97 (k + 53) (by omega)).trans F_h83__k_53_
  have F_h97__k_33_ : h97 (k + 33) = .inr (8, [.int 35, .ref (k + 34), .ref (k + 35), .ref (k + 36), .ref (k + 37), .ref (k + 38), .ref (k + 39), .int 6, .int 1]) := (fr97 (k + 33) (by omega)).trans F_h83__k_33_
  have F_h97__k_34_ : h97 (k + 34) = .inl (1, 36, .inl pA) := (fr97 (k + 34) (by omega)).trans F_h83__k_34_
  have F_h97__k_35_ : h97 (k + 35) = .inl (1, 36, .inl (fun _ => 0)) := (fr97 (k + 35) (by omega)).trans F_h83__k_35_
  have F_h97__k_36_ : h97 (k + 36) = .inl (1, 36, .inl fA) := (fr97 (k + 36) (by omega)).trans F_h83__k_36_
  have F_h97__k_37_ : h97 (k + 37) = .inl (1, 36, .inl wA) := (fr97 (k + 37) (by omega)).trans F_h83__k_37_
  have F_h97__k_38_ : h97 (k + 38) = .inl (1, 512, .inl oA) := (fr97 (k + 38) (by omega)).trans F_h83__k_38_
  have F_h97__k_39_ : h97 (k + 39) = .inl (1, 512, .inl sA) := (fr97 (k + 39) (by omega)).trans F_h83__k_39_
  have F_h97__k_54_ : h97 (k + 54) = .inr (1, [.ref (aBig + 5), .ref (aBig + 6), .int 8, .ref (k + 55), .ref (k + 56), .ref (k + 59), .int 0, .int 0, .int 0, .ref (k + 60), .ref (k + 67), .ref (k + 74), .ref (k + 60), .ref (k + 57), .int 0, .int 0, .int 0, .int 0]) := cs97.1
  have F_h97__k_55_ : h97 (k + 55) = .inl (1, 2667, .inl (fun _ => 0)) := cs97.2.1
  have F_h97__k_56_ : h97 (k + 56) = .inl (1, 2667, .inl (fun _ => 0)) := cs97.2.2.1
  have F_h97__k_57_ : h97 (k + 57) = .inr (7, [.ref (k + 58), .int 0, .int 0, .long 0, .int 0]) := cs97.2.2.2.1
  have F_h97__k_58_ : h97 (k + 58) = .inl (0, 128, .inl (fun _ => 0)) := cs97.2.2.2.2.1
  have F_h97__k_59_ : h97 (k + 59) = .inl (1, 32, .inl (fun _ => 0)) := cs97.2.2.2.2.2.1
  have F_h97__k_60_ : h97 (k + 60) = .inr (8, [.int 31, .ref (k + 61), .ref (k + 62), .ref (k + 63), .ref (k + 64), .ref (k + 65), .ref (k + 66), .int 0, .int 0]) := cs97.2.2.2.2.2.2.1
  have F_h97__k_61_ : h97 (k + 61) = .inl (1, 32, .inl (fun _ => 0)) := cs97.2.2.2.2.2.2.2.1
  have F_h97__k_62_ : h97 (k + 62) = .inl (1, 32, .inl (fun _ => 0)) := cs97.2.2.2.2.2.2.2.2.1
  have F_h97__k_63_ : h97 (k + 63) = .inl (1, 32, .inl (fun _ => 0)) := cs97.2.2.2.2.2.2.2.2.2.1
  have F_h97__k_64_ : h97 (k + 64) = .inl (1, 32, .inl (fun _ => 0)) := cs97.2.2.2.2.2.2.2.2.2.2.1
  have F_h97__k_65_ : h97 (k + 65) = .inl (1, 256, .inl (fun _ => 0)) := cs97.2.2.2.2.2.2.2.2.2.2.2.1
  have F_h97__k_66_ : h97 (k + 66) = .inl (1, 256, .inl (fun _ => 0)) := cs97.2.2.2.2.2.2.2.2.2.2.2.2.1
  have F_h97__k_67_ : h97 (k + 67) = .inr (8, [.int 31, .ref (k + 68), .ref (k + 69), .ref (k + 70), .ref (k + 71), .ref (k + 72), .ref (k + 73), .int 0, .int 0]) := cs97.2.2.2.2.2.2.2.2.2.2.2.2.2.1
  have F_h97__k_68_ : h97 (k + 68) = .inl (1, 32, .inl (fun _ => 0)) := cs97.2.2.2.2.2.2.2.2.2.2.2.2.2.2.1
  have F_h97__k_69_ : h97 (k + 69) = .inl (1, 32, .inl (fun _ => 0)) := cs97.2.2.2.2.2.2.2.2.2.2.2.2.2.2.2.1
  have F_h97__k_70_ : h97 (k + 70) = .inl (1, 32, .inl (fun _ => 0)) := cs97.2.2.2.2.2.2.2.2.2.2.2.2.2.2.2.2.1
  have F_h97__k_71_ : h97 (k + 71) = .inl (1, 32, .inl (fun _ => 0)) := cs97.2.2.2.2.2.2.2.2.2.2.2.2.2.2.2.2.2.1
  have F_h97__k_72_ : h97 (k + 72) = .inl (1, 256, .inl (fun _ => 0)) := cs97.2.2.2.2.2.2.2.2.2.2.2.2.2.2.2.2.2.2.1
  have F_h97__k_73_ : h97 (k + 73) = .inl (1, 256, .inl (fun _ => 0)) := cs97.2.2.2.2.2.2.2.2.2.2.2.2.2.2.2.2.2.2.2.1
  have F_h97__k_74_ : h97 (k + 74) = .inr (8, [.int 31, .ref (k + 75), .ref (k + 76), .ref (k + 77), .ref (k + 78), .ref (k + 79), .ref (k + 80), .int 0, .int 0]) := cs97.2.2.2.2.2.2.2.2.2.2.2.2.2.2.2.2.2.2.2.2.1
  have F_h97__k_75_ : h97 (k + 75) = .inl (1, 32, .inl (fun _ => 0)) := cs97.2.2.2.2.2.2.2.2.2.2.2.2.2.2.2.2.2.2.2.2.2.1
  have F_h97__k_76_ : h97 (k + 76) = .inl (1, 32, .inl (fun _ => 0)) := cs97.2.2.2.2.2.2.2.2.2.2.2.2.2.2.2.2.2.2.2.2.2.2.1
  have F_h97__k_77_ : h97 (k + 77) = .inl (1, 32, .inl (fun _ => 0)) := cs97.2.2.2.2.2.2.2.2.2.2.2.2.2.2.2.2.2.2.2.2.2.2.2.1
  have F_h97__k_78_ : h97 (k + 78) = .inl (1, 32, .inl (fun _ => 0)) := cs97.2.2.2.2.2.2.2.2.2.2.2.2.2.2.2.2.2.2.2.2.2.2.2.2.1
  have F_h97__k_79_ : h97 (k + 79) = .inl (1, 256, .inl (fun _ => 0)) := cs97.2.2.2.2.2.2.2.2.2.2.2.2.2.2.2.2.2.2.2.2.2.2.2.2.2.1
  have F_h97__k_80_ : h97 (k + 80) = .inl (1, 256, .inl (fun _ => 0)) := cs97.2.2.2.2.2.2.2.2.2.2.2.2.2.2.2.2.2.2.2.2.2.2.2.2.2.2.1
  have FR_h97 : ∀ j, j < k ∨ aBig ≤ j → h97 j = h j := fun j hj => (fr97 j (by omega)).trans (FR_h83 j hj)
  show WX _ _ _ 100 [(0, .ref k), (1, .ref q)] [.ref (k + 54), .ref k] (k + 81, s + 13 + 36096 + 3 + 3 + 12 + 12 + 11630 + 18 + 9034 + 18 + 7446, h97)
  refine WX.put1 (fs := [.ref (k + 1), .ref (k + 8), .ref (k + 27), .null, .null, .ref (k + 5), .ref (k + 6), .int 0, .ref (k + 7)]) (fs' := [.ref (k + 1), .ref (k + 8), .ref (k + 27), .ref (k + 54), .null, .ref (k + 5), .ref (k + 6), .int 0, .ref (k + 7)]) rfl (by omega) (F_h97_k) (Nat.le_of_ble_eq_true rfl) (rfl) rfl (fun h100 e_h100 => ?_)
  have F_h100_k : h100 k = .inr (6, [.ref (k + 1), .ref (k + 8), .ref (k + 27), .ref (k + 54), .null, .ref (k + 5), .ref (k + 6), .int 0, .ref (k + 7)]) := by rw [e_h100]; exact va_up_eq
  have F_h100__k_1_ : h100 (k + 1) = .inr (3, [.ref (k + 2), .int 0, .ref (k + 3), .ref (k + 4), .int 0, .int 0, .int 0, .int 0, .int 0, .int 0, .int 0, .int 0, .int 0]) := by rw [e_h100, va_up_neq (by omega)]; exact F_h97__k_1_
  have F_h100__k_2_ : h100 (k + 2) = .inl (0, 16000, .inl (fun _ => 0)) := by rw [e_h100, va_up_neq (by omega)]; exact F_h97__k_2_
  have F_h100__k_3_ : h100 (k + 3) = .inl (1, 16000, .inl (fun _ => 0)) := by rw [e_h100, va_up_neq (by omega)]; exact F_h97__k_3_
  have F_h100__k_4_ : h100 (k + 4) = .inl (1, 4096, .inl (fun _ => 0)) := by rw [e_h100, va_up_neq (by omega)]; exact F_h97__k_4_
  have F_h100__k_5_ : h100 (k + 5) = .inl (1, 3, .inl (fun _ => 0)) := by rw [e_h100, va_up_neq (by omega)]; exact F_h97__k_5_
  have F_h100__k_6_ : h100 (k + 6) = .inl (1, 3, .inl (fun _ => 0)) := by rw [e_h100, va_up_neq (by omega)]; exact F_h97__k_6_
  have F_h100__k_7_ : h100 (k + 7) = .inl (1, 12, .inl (fun _ => 0)) := by rw [e_h100, va_up_neq (by omega)]; exact F_h97__k_7_
  have F_h100__k_8_ : h100 (k + 8) = .inr (5, [.ref (k + 9), .ref (k + 10), .int 0, .ref (k + 11), .ref (k + 15), .ref (k + 19), .ref q, .ref (k + 25), .int 0, .int 0, .int 0, .int 0]) := by rw [e_h100, va_up_neq (by omega)]; exact F_h97__k_8_
  have F_h100__k_9_ : h100 (k + 9) = .inl (0, 8000, .inl (fun _ => 0)) := by rw [e_h100, va_up_neq (by omega)]; exact F_h97__k_9_
  have F_h100__k_10_ : h100 (k + 10) = .inl (1, 256, .inl (fun _ => 0)) := by rw [e_h100, va_up_neq (by omega)]; exact F_h97__k_10_
  have F_h100__k_11_ : h100 (k + 11) = .inr (0, [.ref (k + 12), .ref (k + 13), .ref (k + 14), .int 0, .int 0]) := by rw [e_h100, va_up_neq (by omega)]; exact F_h97__k_11_
  have F_h100__k_12_ : h100 (k + 12) = .inl (1, 256, .inl (fun _ => 0)) := by rw [e_h100, va_up_neq (by omega)]; exact F_h97__k_12_
  have F_h100__k_13_ : h100 (k + 13) = .inl (1, 256, .inl (fun _ => 0)) := by rw [e_h100, va_up_neq (by omega)]; exact F_h97__k_13_
  have F_h100__k_14_ : h100 (k + 14) = .inl (1, 13, .inl (fun _ => 0)) := by rw [e_h100, va_up_neq (by omega)]; exact F_h97__k_14_
  have F_h100__k_15_ : h100 (k + 15) = .inr (0, [.ref (k + 16), .ref (k + 17), .ref (k + 18), .int 0, .int 0]) := by rw [e_h100, va_up_neq (by omega)]; exact F_h97__k_15_
  have F_h100__k_16_ : h100 (k + 16) = .inl (1, 256, .inl (fun _ => 0)) := by rw [e_h100, va_up_neq (by omega)]; exact F_h97__k_16_
  have F_h100__k_17_ : h100 (k + 17) = .inl (1, 256, .inl (fun _ => 0)) := by rw [e_h100, va_up_neq (by omega)]; exact F_h97__k_17_
  have F_h100__k_18_ : h100 (k + 18) = .inl (1, 13, .inl (fun _ => 0)) := by rw [e_h100, va_up_neq (by omega)]; exact F_h97__k_18_
  have F_h100__k_19_ : h100 (k + 19) = .inr (4, [.ref (k + 20), .ref (k + 21), .ref (k + 22), .ref (k + 23), .ref (k + 24)]) := by rw [e_h100, va_up_neq (by omega)]; exact F_h97__k_19_
  have F_h100__k_20_ : h100 (k + 20) = .inl (1, 256, .inl (fun _ => 0)) := by rw [e_h100, va_up_neq (by omega)]; exact F_h97__k_20_
  have F_h100__k_21_ : h100 (k + 21) = .inl (1, 256, .inl (fun _ => 0)) := by rw [e_h100, va_up_neq (by omega)]; exact F_h97__k_21_
  have F_h100__k_22_ : h100 (k + 22) = .inl (1, 512, .inl (fun _ => 0)) := by rw [e_h100, va_up_neq (by omega)]; exact F_h97__k_22_
  have F_h100__k_23_ : h100 (k + 23) = .inl (1, 512, .inl (fun _ => 0)) := by rw [e_h100, va_up_neq (by omega)]; exact F_h97__k_23_
  have F_h100__k_24_ : h100 (k + 24) = .inl (1, 512, .inl (fun _ => 0)) := by rw [e_h100, va_up_neq (by omega)]; exact F_h97__k_24_
  have F_h100__k_25_ : h100 (k + 25) = .inr (7, [.ref (k + 26), .int 0, .int 0, .long 0, .int 0]) := by rw [e_h100, va_up_neq (by omega)]; exact F_h97__k_25_
  have F_h100__k_26_ : h100 (k + 26) = .inl (0, 256, .inl (fun _ => 0)) := by rw [e_h100, va_up_neq (by omega)]; exact F_h97__k_26_
  have F_h100__k_27_ : h100 (k + 27) = .inr (1, [.ref (aBig + 3), .ref (aBig + 4), .int 9, .ref (k + 28), .ref (k + 29), .ref (k + 32), .int 0, .int 0, .int 0, .ref (k + 33), .ref (k + 40), .ref (k + 47), .ref (k + 33), .ref (k + 30), .int 0, .int 0, .int 0, .int 0]) := by rw [e_h100, va_up_neq (by omega)]; exact F_h97__k_27_
  have F_h100__k_28_ : h100 (k + 28) = .inl (1, 2667, .inl (fun _ => 0)) := by rw [e_h100, va_up_neq (by omega)]; exact F_h97__k_28_
  have F_h100__k_29_ : h100 (k + 29) = .inl (1, 2667, .inl (fun _ => 0)) := by rw [e_h100, va_up_neq (by omega)]; exact F_h97__k_29_
  have F_h100__k_30_ : h100 (k + 30) = .inr (7, [.ref (k + 31), .int 0, .int 0, .long 0, .int 0]) := by rw [e_h100, va_up_neq (by omega)]; exact F_h97__k_30_
  have F_h100__k_31_ : h100 (k + 31) = .inl (0, 128, .inl (fun _ => 0)) := by rw [e_h100, va_up_neq (by omega)]; exact F_h97__k_31_
  have F_h100__k_32_ : h100 (k + 32) = .inl (1, 36, .inl (fun _ => 0)) := by rw [e_h100, va_up_neq (by omega)]; exact F_h97__k_32_
  have F_h100__k_40_ : h100 (k + 40) = .inr (8, [.int 35, .ref (k + 41), .ref (k + 42), .ref (k + 43), .ref (k + 44), .ref (k + 45), .ref (k + 46), .int 0, .int 0]) := by rw [e_h100, va_up_neq (by omega)]; exact F_h97__k_40_
  have F_h100__k_41_ : h100 (k + 41) = .inl (1, 36, .inl (fun _ => 0)) := by rw [e_h100, va_up_neq (by omega)]; exact F_h97__k_41_
  have F_h100__k_42_ : h100 (k + 42) = .inl (1, 36, .inl (fun _ => 0)) := by rw [e_h100, va_up_neq (by omega)]; exact F_h97__k_42_
  have F_h100__k_43_ : h100 (k + 43) = .inl (1, 36, .inl (fun _ => 0)) := by rw [e_h100, va_up_neq (by omega)]; exact F_h97__k_43_
  have F_h100__k_44_ : h100 (k + 44) = .inl (1, 36, .inl (fun _ => 0)) := by rw [e_h100, va_up_neq (by omega)]; exact F_h97__k_44_
  have F_h100__k_45_ : h100 (k + 45) = .inl (1, 512, .inl (fun _ => 0)) := by rw [e_h100, va_up_neq (by omega)]; exact F_h97__k_45_
  have F_h100__k_46_ : h100 (k + 46) = .inl (1, 512, .inl (fun _ => 0)) := by rw [e_h100, va_up_neq (by omega)]; exact F_h97__k_46_
  have F_h100__k_47_ : h100 (k + 47) = .inr (8, [.int 35, .ref (k + 48), .ref (k + 49), .ref (k + 50), .ref (k + 51), .ref (k + 52), .ref (k + 53), .int 0, .int 0]) := by rw [e_h100, va_up_neq (by omega)]; exact F_h97__k_47_
  have F_h100__k_48_ : h100 (k + 48) = .inl (1, 36, .inl (fun _ => 0)) := by rw [e_h100, va_up_neq (by omega)]; exact F_h97__k_48_
  have F_h100__k_49_ : h100 (k + 49) = .inl (1, 36, .inl (fun _ => 0)) := by rw [e_h100, va_up_neq (by omega)]; exact F_h97__k_49_
  have F_h100__k_50_ : h100 (k + 50) = .inl (1, 36, .inl (fun _ => 0)) := by rw [e_h100, va_up_neq (by omega)]; exact F_h97__k_50_
  have F_h100__k_51_ : h100 (k + 51) = .inl (1, 36, .inl (fun _ => 0)) := by rw [e_h100, va_up_neq (by omega)]; exact F_h97__k_51_
  have F_h100__k_52_ : h100 (k + 52) = .inl (1, 512, .inl (fun _ => 0)) := by rw [e_h100, va_up_neq (by omega)]; exact F_h97__k_52_
  have F_h100__k_53_ : h100 (k + 53) = .inl (1, 512, .inl (fun _ => 0)) := by rw [e_h100, va_up_neq (by omega)]; exact F_h97__k_53_
  have F_h100__k_33_ : h100 (k + 33) = .inr (8, [.int 35, .ref (k + 34), .ref (k + 35), .ref (k + 36), .ref (k + 37), .ref (k + 38), .ref (k + 39), .int 6, .int 1]) := by rw [e_h100, va_up_neq (by omega)]; exact F_h97__k_33_
  have F_h100__k_34_ : h100 (k + 34) = .inl (1, 36, .inl pA) := by rw [e_h100, va_up_neq (by omega)]; exact F_h97__k_34_
  have F_h100__k_35_ : h100 (k + 35) = .inl (1, 36, .inl (fun _ => 0)) := by rw [e_h100, va_up_neq (by omega)]; exact F_h97__k_35_
  have F_h100__k_36_ : h100 (k + 36) = .inl (1, 36, .inl fA) := by rw [e_h100, va_up_neq (by omega)]; exact F_h97__k_36_
  have F_h100__k_37_ : h100 (k + 37) = .inl (1, 36, .inl wA) := by rw [e_h100, va_up_neq (by omega)]; exact F_h97__k_37_
  have F_h100__k_38_ : h100 (k + 38) = .inl (1, 512, .inl oA) := by rw [e_h100, va_up_neq (by omega)]; exact F_h97__k_38_
  have F_h100__k_39_ : h100 (k + 39) = .inl (1, 512, .inl sA) := by rw [e_h100, va_up_neq (by omega)]; exact F_h97__k_39_
  have F_h100__k_54_ : h100 (k + 54) = .inr (1, [.ref (aBig + 5), .ref (aBig + 6), .int 8, .ref (k + 55), .ref (k + 56), .ref (k + 59), .int 0, .int 0, .int 0, .ref (k + 60), .ref (k + 67), .ref (k + 74), .ref (k + 60), .ref (k + 57), .int 0, .int 0, .int 0, .int 0]) := by rw [e_h100, va_up_neq (by omega)]; exact F_h97__k_54_
  have F_h100__k_55_ : h100 (k + 55) = .inl (1, 2667, .inl (fun _ => 0)) := by rw [e_h100, va_up_neq (by omega)]; exact F_h97__k_55_
  have F_h100__k_56_ : h100 (k + 56) = .inl (1, 2667, .inl (fun _ => 0)) := by rw [e_h100, va_up_neq (by omega)]; exact F_h97__k_56_
  have F_h100__k_57_ : h100 (k + 57) = .inr (7, [.ref (k + 58), .int 0, .int 0, .long 0, .int 0]) := by rw [e_h100, va_up_neq (by omega)]; exact F_h97__k_57_
  have F_h100__k_58_ : h100 (k + 58) = .inl (0, 128, .inl (fun _ => 0)) := by rw [e_h100, va_up_neq (by omega)]; exact F_h97__k_58_
  have F_h100__k_59_ : h100 (k + 59) = .inl (1, 32, .inl (fun _ => 0)) := by rw [e_h100, va_up_neq (by omega)]; exact F_h97__k_59_
  have F_h100__k_60_ : h100 (k + 60) = .inr (8, [.int 31, .ref (k + 61), .ref (k + 62), .ref (k + 63), .ref (k + 64), .ref (k + 65), .ref (k + 66), .int 0, .int 0]) := by rw [e_h100, va_up_neq (by omega)]; exact F_h97__k_60_
  have F_h100__k_61_ : h100 (k + 61) = .inl (1, 32, .inl (fun _ => 0)) := by rw [e_h100, va_up_neq (by omega)]; exact F_h97__k_61_
  have F_h100__k_62_ : h100 (k + 62) = .inl (1, 32, .inl (fun _ => 0)) := by rw [e_h100, va_up_neq (by omega)]; exact F_h97__k_62_
  have F_h100__k_63_ : h100 (k + 63) = .inl (1, 32, .inl (fun _ => 0)) := by rw [e_h100, va_up_neq (by omega)]; exact F_h97__k_63_
  have F_h100__k_64_ : h100 (k + 64) = .inl (1, 32, .inl (fun _ => 0)) := by rw [e_h100, va_up_neq (by omega)]; exact F_h97__k_64_
  have F_h100__k_65_ : h100 (k + 65) = .inl (1, 256, .inl (fun _ => 0)) := by rw [e_h100, va_up_neq (by omega)]; exact F_h97__k_65_
  have F_h100__k_66_ : h100 (k + 66) = .inl (1, 256, .inl (fun _ => 0)) := by rw [e_h100, va_up_neq (by omega)]; exact F_h97__k_66_
  have F_h100__k_67_ : h100 (k + 67) = .inr (8, [.int 31, .ref (k + 68), .ref (k + 69), .ref (k + 70), .ref (k + 71), .ref (k + 72), .ref (k + 73), .int 0, .int 0]) := by rw [e_h100, va_up_neq (by omega)]; exact F_h97__k_67_
  have F_h100__k_68_ : h100 (k + 68) = .inl (1, 32, .inl (fun _ => 0)) := by rw [e_h100, va_up_neq (by omega)]; exact F_h97__k_68_
  have F_h100__k_69_ : h100 (k + 69) = .inl (1, 32, .inl (fun _ => 0)) := by rw [e_h100, va_up_neq (by omega)]; exact F_h97__k_69_
  have F_h100__k_70_ : h100 (k + 70) = .inl (1, 32, .inl (fun _ => 0)) := by rw [e_h100, va_up_neq (by omega)]; exact F_h97__k_70_
  have F_h100__k_71_ : h100 (k + 71) = .inl (1, 32, .inl (fun _ => 0)) := by rw [e_h100, va_up_neq (by omega)]; exact F_h97__k_71_
  have F_h100__k_72_ : h100 (k + 72) = .inl (1, 256, .inl (fun _ => 0)) := by rw [e_h100, va_up_neq (by omega)]; exact F_h97__k_72_
  have F_h100__k_73_ : h100 (k + 73) = .inl (1, 256, .inl (fun _ => 0)) := by rw [e_h100, va_up_neq (by omega)]; exact F_h97__k_73_
  have F_h100__k_74_ : h100 (k + 74) = .inr (8, [.int 31, .ref (k + 75), .ref (k + 76), .ref (k + 77), .ref (k + 78), .ref (k + 79), .ref (k + 80), .int 0, .int 0]) := by rw [e_h100, va_up_neq (by omega)]; exact F_h97__k_74_
  have F_h100__k_75_ : h100 (k + 75) = .inl (1, 32, .inl (fun _ => 0)) := by rw [e_h100, va_up_neq (by omega)]; exact F_h97__k_75_
  have F_h100__k_76_ : h100 (k + 76) = .inl (1, 32, .inl (fun _ => 0)) := by rw [e_h100, va_up_neq (by omega)]; exact F_h97__k_76_
  have F_h100__k_77_ : h100 (k + 77) = .inl (1, 32, .inl (fun _ => 0)) := by rw [e_h100, va_up_neq (by omega)]; exact F_h97__k_77_
  have F_h100__k_78_ : h100 (k + 78) = .inl (1, 32, .inl (fun _ => 0)) := by rw [e_h100, va_up_neq (by omega)]; exact F_h97__k_78_
  have F_h100__k_79_ : h100 (k + 79) = .inl (1, 256, .inl (fun _ => 0)) := by rw [e_h100, va_up_neq (by omega)]; exact F_h97__k_79_
  have F_h100__k_80_ : h100 (k + 80) = .inl (1, 256, .inl (fun _ => 0)) := by rw [e_h100, va_up_neq (by omega)]; exact F_h97__k_80_
  have FR_h100 : ∀ j, j < k ∨ aBig ≤ j → h100 j = h j := fun j hj => by rw [e_h100]; exact (va_up_neq (by omega)).trans (FR_h97 j hj)
  refine WX.s1 rfl rfl ?_
  refine WX.get1 (fs := [.ref (k + 1), .ref (k + 8), .ref (k + 27), .ref (k + 54), .null, .ref (k + 5), .ref (k + 6), .int 0, .ref (k + 7)]) rfl (by omega) (F_h100_k) rfl ?_
  refine WX.s1 rfl rfl ?_
  refine WX.s1 rfl rfl ?_
  refine WX.callC (vs := [.ref (k + 54), .ref (aBig + 1), .int 5]) rfl rfl rfl (Nat.le_of_ble_eq_true rfl) (rcv_ok (by omega) F_h100__k_54_) ?_
  refine w_know (k := k + 60) (l := 31) (M := 256) (L := 5) (j := 1) (by omega) F_h100__k_54_ rfl (by omega) (by have := hbig; omega) ⟨F_h100__k_60_, F_h100__k_61_, F_h100__k_62_, F_h100__k_63_, F_h100__k_64_, F_h100__k_65_, F_h100__k_66_⟩ (by decide) (by decide) (by decide) (by decide) (fun _ _ => ⟨0, Nat.zero_le _, rfl⟩) (by decide) ((FR_h100 _ (Or.inr (Nat.le_add_right _ _))).trans K1) hK1 kb1 (fun h111 pB fB wB oB sB fr111 A111 hp111 => ?_)
  have F_h111_k : h111 k = .inr (6, [.ref (k + 1), .ref (k + 8), .ref (k + 27), .ref (k + 54), .null, .ref (k + 5), .ref (k + 6), .int 0, .ref (k + 7)]) := (fr111 k (fun z => by have z1 := z.1; have z2 := z.2; omega)).trans F_h100_k
  have F_h111__k_1_ : h111 (k + 1) = .inr (3, [.ref (k + 2), .int 0, .ref (k + 3), .ref (k + 4), .int 0, .int 0, .int 0, .int 0, .int 0, .int 0, .int 0, .int 0, .int 0]) := (fr111 (k + 1) (fun z => by have z1 := z.1; have z2 := z.2; omega)).trans F_h100__k_1_
  have F_h111__k_2_ : h111 (k + 2) = .inl (0, 16000, .inl (fun _ => 0)) := (fr111 (k + 2) (fun z => by have z1 := z.1; have z2 := z.2; omega)).trans F_h100__k_2_
  have F_h111__k_3_ : h111 (k + 3) = .inl (1, 16000, .inl (fun _ => 0)) := (fr111 (k + 3) (fun z => by have z1 := z.1; have z2 := z.2; omega)).trans F_h100__k_3_
  have F_h111__k_4_ : h111 (k + 4) = .inl (1, 4096, .inl (fun _ => 0)) := (fr111 (k + 4) (fun z => by have z1 := z.1; have z2 := z.2; omega)).trans F_h100__k_4_
  have F_h111__k_5_ : h111 (k + 5) = .inl (1, 3, .inl (fun _ => 0)) := (fr111 (k + 5) (fun z => by have z1 := z.1; have z2 := z.2; omega)).trans F_h100__k_5_
  have F_h111__k_6_ : h111 (k + 6) = .inl (1, 3, .inl (fun _ => 0)) := (fr111 (k + 6) (fun z => by have z1 := z.1; have z2 := z.2; omega)).trans F_h100__k_6_
  have F_h111__k_7_ : h111 (k + 7) = .inl (1, 12, .inl (fun _ => 0)) := (fr111 (k + 7) (fun z => by have z1 := z.1; have z2 := z.2; omega)).trans F_h100__k_7_
  have F_h111__k_8_ : h111 (k + 8) = .inr (5, [.ref (k + 9), .ref (k + 10), .int 0, .ref (k + 11), .ref (k + 15), .ref (k + 19), .ref q, .ref (k + 25), .int 0, .int 0, .int 0, .int 0]) := (fr111 (k + 8) (fun z => by have z1 := z.1; have z2 := z.2; omega)).trans F_h100__k_8_
  have F_h111__k_9_ : h111 (k + 9) = .inl (0, 8000, .inl (fun _ => 0)) := (fr111 (k + 9) (fun z => by have z1 := z.1; have z2 := z.2; omega)).trans F_h100__k_9_
  have F_h111__k_10_ : h111 (k + 10) = .inl (1, 256, .inl (fun _ => 0)) := (fr111 (k + 10) (fun z => by have z1 := z.1; have z2 := z.2; omega)).trans F_h100__k_10_
  have F_h111__k_11_ : h111 (k + 11) = .inr (0, [.ref (k + 12), .ref (k + 13), .ref (k + 14), .int 0, .int 0]) := (fr111 (k + 11) (fun z => by have z1 := z.1; have z2 := z.2; omega)).trans F_h100__k_11_
  have F_h111__k_12_ : h111 (k + 12) = .inl (1, 256, .inl (fun _ => 0)) := (fr111 (k + 12) (fun z => by have z1 := z.1; have z2 := z.2; omega)).trans F_h100__k_12_
  have F_h111__k_13_ : h111 (k + 13) = .inl (1, 256, .inl (fun _ => 0)) := (fr111 (k + 13) (fun z => by have z1 := z.1; have z2 := z.2; omega)).trans F_h100__k_13_
  have F_h111__k_14_ : h111 (k + 14) = .inl (1, 13, .inl (fun _ => 0)) := (fr111 (k + 14) (fun z => by have z1 := z.1; have z2 := z.2; omega)).trans F_h100__k_14_
  have F_h111__k_15_ : h111 (k + 15) = .inr (0, [.ref (k + 16), .ref (k + 17), .ref (k + 18), .int 0, .int 0]) := (fr111 (k + 15) (fun z => by have z1 := z.1; have z2 := z.2; omega)).trans F_h100__k_15_
  have F_h111__k_16_ : h111 (k + 16) = .inl (1, 256, .inl (fun _ => 0)) := (fr111 (k + 16) (fun z => by have z1 := z.1; have z2 := z.2; omega)).trans F_h100__k_16_
  have F_h111__k_17_ : h111 (k + 17) = .inl (1, 256, .inl (fun _ => 0)) := (fr111 (k + 17) (fun z => by have z1 := z.1; have z2 := z.2; omega)).trans F_h100__k_17_
  have F_h111__k_18_ : h111 (k + 18) = .inl (1, 13, .inl (fun _ => 0)) := (fr111 (k + 18) (fun z => by have z1 := z.1; have z2 := z.2; omega)).trans F_h100__k_18_
  have F_h111__k_19_ : h111 (k + 19) = .inr (4, [.ref (k + 20), .ref (k + 21), .ref (k + 22), .ref (k + 23), .ref (k + 24)]) := (fr111 (k + 19) (fun z => by have z1 := z.1; have z2 := z.2; omega)).trans F_h100__k_19_
  have F_h111__k_20_ : h111 (k + 20) = .inl (1, 256, .inl (fun _ => 0)) := (fr111 (k + 20) (fun z => by have z1 := z.1; have z2 := z.2; omega)).trans F_h100__k_20_
  have F_h111__k_21_ : h111 (k + 21) = .inl (1, 256, .inl (fun _ => 0)) := (fr111 (k + 21) (fun z => by have z1 := z.1; have z2 := z.2; omega)).trans F_h100__k_21_
  have F_h111__k_22_ : h111 (k + 22) = .inl (1, 512, .inl (fun _ => 0)) := (fr111 (k + 22) (fun z => by have z1 := z.1; have z2 := z.2; omega)).trans F_h100__k_22_
  have F_h111__k_23_ : h111 (k + 23) = .inl (1, 512, .inl (fun _ => 0)) := (fr111 (k + 23) (fun z => by have z1 := z.1; have z2 := z.2; omega)).trans F_h100__k_23_
  have F_h111__k_24_ : h111 (k + 24) = .inl (1, 512, .inl (fun _ => 0)) := (fr111 (k + 24) (fun z => by have z1 := z.1; have z2 := z.2; omega)).trans F_h100__k_24_
  have F_h111__k_25_ : h111 (k + 25) = .inr (7, [.ref (k + 26), .int 0, .int 0, .long 0, .int 0]) := (fr111 (k + 25) (fun z => by have z1 := z.1; have z2 := z.2; omega)).trans F_h100__k_25_
  have F_h111__k_26_ : h111 (k + 26) = .inl (0, 256, .inl (fun _ => 0)) := (fr111 (k + 26) (fun z => by have z1 := z.1; have z2 := z.2; omega)).trans F_h100__k_26_
  have F_h111__k_27_ : h111 (k + 27) = .inr (1, [.ref (aBig + 3), .ref (aBig + 4), .int 9, .ref (k + 28), .ref (k + 29), .ref (k + 32), .int 0, .int 0, .int 0, .ref (k + 33), .ref (k + 40), .ref (k + 47), .ref (k + 33), .ref (k + 30), .int 0, .int 0, .int 0, .int 0]) := (fr111 (k + 27) (fun z => by have z1 := z.1; have z2 := z.2; omega)).trans F_h100__k_27_
  have F_h111__k_28_ : h111 (k + 28) = .inl (1, 2667, .inl (fun _ => 0)) := (fr111 (k + 28) (fun z => by have z1 := z.1; have z2 := z.2; omega)).trans F_h100__k_28_
  have F_h111__k_29_ : h111 (k + 29) = .inl (1, 2667, .inl (fun _ => 0)) := (fr111 (k + 29) (fun z => by have z1 := z.1; have z2 := z.2; omega)).trans F_h100__k_29_
  have F_h111__k_30_ : h111 (k + 30) = .inr (7, [.ref (k + 31), .int 0, .int 0, .long 0, .int 0]) := (fr111 (k + 30) (fun z => by have z1 := z.1; have z2 := z.2; omega)).trans F_h100__k_30_
  have F_h111__k_31_ : h111 (k + 31) = .inl (0, 128, .inl (fun _ => 0)) := (fr111 (k + 31) (fun z => by have z1 := z.1; have z2 := z.2; omega)).trans F_h100__k_31_
  have F_h111__k_32_ : h111 (k + 32) = .inl (1, 36, .inl (fun _ => 0)) := (fr111 (k + 32) (fun z => by have z1 := z.1; have z2 := z.2; omega)).trans F_h100__k_32_
  have F_h111__k_40_ : h111 (k + 40) = .inr (8, [.int 35, .ref (k + 41), .ref (k + 42), .ref (k + 43), .ref (k + 44), .ref (k + 45), .ref (k + 46), .int 0, .int 0]) := (fr111 (k + 40) (fun z => by have z1 := z.1; have z2 := z.2; omega)).trans F_h100__k_40_
  have F_h111__k_41_ : h111 (k + 41) = .inl (1, 36, .inl (fun _ => 0)) := (fr111 (k + 41) (fun z => by have z1 := z.1; have z2 := z.2; omega)).trans F_h100__k_41_
  have F_h111__k_42_ : h111 (k + 42) = .inl (1, 36, .inl (fun _ => 0)) := (fr111 (k + 42) (fun z => by have z1 := z.1; have z2 := z.2; omega)).trans F_h100__k_42_
  have F_h111__k_43_ : h111 (k + 43) = .inl (1, 36, .inl (fun _ => 0)) := (fr111 (k + 43) (fun z => by have z1 := z.1; have z2 := z.2; omega)).trans F_h100__k_43_
  have F_h111__k_44_ : h111 (k + 44) = .inl (1, 36, .inl (fun _ => 0)) := (fr111 (k + 44) (fun z => by have z1 := z.1; have z2 := z.2; omega)).trans F_h100__k_44_
  have F_h111__k_45_ : h111 (k + 45) = .inl (1, 512, .inl (fun _ => 0)) := (fr111 (k + 45) (fun z => by have z1 := z.1; have z2 := z.2; omega)).trans F_h100__k_45_
  have F_h111__k_46_ : h111 (k + 46) = .inl (1, 512, .inl (fun _ => 0)) := (fr111 (k + 46) (fun z => by have z1 := z.1; have z2 := z.2; omega)).trans F_h100__k_46_
  have F_h111__k_47_ : h111 (k + 47) = .inr (8, [.int 35, .ref (k + 48), .ref (k + 49), .ref (k + 50), .ref (k + 51), .ref (k + 52), .ref (k + 53), .int 0, .int 0]) := (fr111 (k + 47) (fun z => by have z1 := z.1; have z2 := z.2; omega)).trans F_h100__k_47_
  have F_h111__k_48_ : h111 (k + 48) = .inl (1, 36, .inl (fun _ => 0)) := (fr111 (k + 48) (fun z => by have z1 := z.1; have z2 := z.2; omega)).trans F_h100__k_48_
  have F_h111__k_49_ : h111 (k + 49) = .inl (1, 36, .inl (fun _ => 0)) := (fr111 (k + 49) (fun z => by have z1 := z.1; have z2 := z.2; omega)).trans F_h100__k_49_
  have F_h111__k_50_ : h111 (k + 50) = .inl (1, 36, .inl (fun _ => 0)) := (fr111 (k + 50) (fun z => by have z1 := z.1; have z2 := z.2; omega)).trans F_h100__k_50_
  have F_h111__k_51_ : h111 (k + 51) = .inl (1, 36, .inl (fun _ => 0)) := (fr111 (k + 51) (fun z => by have z1 := z.1; have z2 := z.2; omega)).trans F_h100__k_51_
  have F_h111__k_52_ : h111 (k + 52) = .inl (1, 512, .inl (fun _ => 0)) := (fr111 (k + 52) (fun z => by have z1 := z.1; have z2 := z.2; omega)).trans F_h100__k_52_
  have F_h111__k_53_ : h111 (k + 53) = .inl (1, 512, .inl (fun _ => 0)) := (fr111 (k + 53) (fun z => by have z1 := z.1; have z2 := z.2; omega)).trans F_h100__k_53_
  have F_h111__k_33_ : h111 (k + 33) = .inr (8, [.int 35, .ref (k + 34), .ref (k + 35), .ref (k + 36), .ref (k + 37), .ref (k + 38), .ref (k + 39), .int 6, .int 1]) := (fr111 (k + 33) (fun z => by have z1 := z.1; have z2 := z.2; omega)).trans F_h100__k_33_
  have F_h111__k_34_ : h111 (k + 34) = .inl (1, 36, .inl pA) := (fr111 (k + 34) (fun z => by have z1 := z.1; have z2 := z.2; omega)).trans F_h100__k_34_
  have F_h111__k_35_ : h111 (k + 35) = .inl (1, 36, .inl (fun _ => 0)) := (fr111 (k + 35) (fun z => by have z1 := z.1; have z2 := z.2; omega)).trans F_h100__k_35_
  have F_h111__k_36_ : h111 (k + 36) = .inl (1, 36, .inl fA) := (fr111 (k + 36) (fun z => by have z1 := z.1; have z2 := z.2; omega)).trans F_h100__k_36_
  have F_h111__k_37_ : h111 (k + 37) = .inl (1, 36, .inl wA) := (fr111 (k + 37) (fun z => by have z1 := z.1; have z2 := z.2; omega)).trans F_h100__k_37_
  have F_h111__k_38_ : h111 (k + 38) = .inl (1, 512, .inl oA) := (fr111 (k + 38) (fun z => by have z1 := z.1; have z2 := z.2; omega)).trans F_h100__k_38_
  have F_h111__k_39_ : h111 (k + 39) = .inl (1, 512, .inl sA) := (fr111 (k + 39) (fun z => by have z1 := z.1; have z2 := z.2; omega)).trans F_h100__k_39_
  have F_h111__k_54_ : h111 (k + 54) = .inr (1, [.ref (aBig + 5), .ref (aBig + 6), .int 8, .ref (k + 55), .ref (k + 56), .ref (k + 59), .int 0, .int 0, .int 0, .ref (k + 60), .ref (k + 67), .ref (k + 74), .ref (k + 60), .ref (k + 57), .int 0, .int 0, .int 0, .int 0]) := (fr111 (k + 54) (fun z => by have z1 := z.1; have z2 := z.2; omega)).trans F_h100__k_54_
  have F_h111__k_55_ : h111 (k + 55) = .inl (1, 2667, .inl (fun _ => 0)) := (fr111 (k + 55) (fun z => by have z1 := z.1; have z2 := z.2; omega)).trans F_h100__k_55_
  have F_h111__k_56_ : h111 (k + 56) = .inl (1, 2667, .inl (fun _ => 0)) := (fr111 (k + 56) (fun z => by have z1 := z.1; have z2 := z.2; omega)).trans F_h100__k_56_
  have F_h111__k_57_ : h111 (k + 57) = .inr (7, [.ref (k + 58), .int 0, .int 0, .long 0, .int 0]) := (fr111 (k + 57) (fun z => by have z1 := z.1; have z2 := z.2; omega)).trans F_h100__k_57_
  have F_h111__k_58_ : h111 (k + 58) = .inl (0, 128, .inl (fun _ => 0)) := (fr111 (k + 58) (fun z => by have z1 := z.1; have z2 := z.2; omega)).trans F_h100__k_58_
  have F_h111__k_59_ : h111 (k + 59) = .inl (1, 32, .inl (fun _ => 0)) := (fr111 (k + 59) (fun z => by have z1 := z.1; have z2 := z.2; omega)).trans F_h100__k_59_
  have F_h111__k_67_ : h111 (k + 67) = .inr (8, [.int 31, .ref (k + 68), .ref (k + 69), .ref (k + 70), .ref (k + 71), .ref (k + 72), .ref (k + 73), .int 0, .int 0]) := (fr111 (k + 67) (fun z => by have z1 := z.1; have z2 := z.2; omega)).trans F_h100__k_67_
  have F_h111__k_68_ : h111 (k + 68) = .inl (1, 32, .inl (fun _ => 0)) := (fr111 (k + 68) (fun z => by have z1 := z.1; have z2 := z.2; omega)).trans F_h100__k_68_
  have F_h111__k_69_ : h111 (k + 69) = .inl (1, 32, .inl (fun _ => 0)) := (fr111 (k + 69) (fun z => by have z1 := z.1; have z2 := z.2; omega)).trans F_h100__k_69_
  have F_h111__k_70_ : h111 (k + 70) = .inl (1, 32, .inl (fun _ => 0)) := (fr111 (k + 70) (fun z => by have z1 := z.1; have z2 := z.2; omega)).trans F_h100__k_70_
  have F_h111__k_71_ : h111 (k + 71) = .inl (1, 32, .inl (fun _ => 0)) := (fr111 (k + 71) (fun z => by have z1 := z.1; have z2 := z.2; omega)).trans F_h100__k_71_
  have F_h111__k_72_ : h111 (k + 72) = .inl (1, 256, .inl (fun _ => 0)) := (fr111 (k + 72) (fun z => by have z1 := z.1; have z2 := z.2; omega)).trans F_h100__k_72_
  have F_h111__k_73_ : h111 (k + 73) = .inl (1, 256, .inl (fun _ => 0)) := (fr111 (k + 73) (fun z => by have z1 := z.1; have z2 := z.2; omega)).trans F_h100__k_73_
  have F_h111__k_74_ : h111 (k + 74) = .inr (8, [.int 31, .ref (k + 75), .ref (k + 76), .ref (k + 77), .ref (k + 78), .ref (k + 79), .ref (k + 80), .int 0, .int 0]) := (fr111 (k + 74) (fun z => by have z1 := z.1; have z2 := z.2; omega)).trans F_h100__k_74_
  have F_h111__k_75_ : h111 (k + 75) = .inl (1, 32, .inl (fun _ => 0)) := (fr111 (k + 75) (fun z => by have z1 := z.1; have z2 := z.2; omega)).trans F_h100__k_75_
  have F_h111__k_76_ : h111 (k + 76) = .inl (1, 32, .inl (fun _ => 0)) := (fr111 (k + 76) (fun z => by have z1 := z.1; have z2 := z.2; omega)).trans F_h100__k_76_
  have F_h111__k_77_ : h111 (k + 77) = .inl (1, 32, .inl (fun _ => 0)) := (fr111 (k + 77) (fun z => by have z1 := z.1; have z2 := z.2; omega)).trans F_h100__k_77_
  have F_h111__k_78_ : h111 (k + 78) = .inl (1, 32, .inl (fun _ => 0)) := (fr111 (k + 78) (fun z => by have z1 := z.1; have z2 := z.2; omega)).trans F_h100__k_78_
  have F_h111__k_79_ : h111 (k + 79) = .inl (1, 256, .inl (fun _ => 0)) := (fr111 (k + 79) (fun z => by have z1 := z.1; have z2 := z.2; omega)).trans F_h100__k_79_
  have F_h111__k_80_ : h111 (k + 80) = .inl (1, 256, .inl (fun _ => 0)) := (fr111 (k + 80) (fun z => by have z1 := z.1; have z2 := z.2; omega)).trans F_h100__k_80_
  have F_h111__k_60_ : h111 (k + 60) = .inr (8, [.int 31, .ref (k + 61), .ref (k + 62), .ref (k + 63), .ref (k + 64), .ref (k + 65), .ref (k + 66), .int 5, .int 1]) := A111.1
  have F_h111__k_61_ : h111 (k + 61) = .inl (1, 32, .inl pB) := A111.2.1
  have F_h111__k_62_ : h111 (k + 62) = .inl (1, 32, .inl (fun _ => 0)) := A111.2.2.1
  have F_h111__k_63_ : h111 (k + 63) = .inl (1, 32, .inl fB) := A111.2.2.2.1
  have F_h111__k_64_ : h111 (k + 64) = .inl (1, 32, .inl wB) := A111.2.2.2.2.1
  have F_h111__k_65_ : h111 (k + 65) = .inl (1, 256, .inl oB) := A111.2.2.2.2.2.1
  have F_h111__k_66_ : h111 (k + 66) = .inl (1, 256, .inl sB) := A111.2.2.2.2.2.2
  have FR_h111 : ∀ j, j < k ∨ aBig ≤ j → h111 j = h j := fun j hj => (fr111 j (fun z => by have z1 := z.1; have z2 := z.2; have := hbig; omega)).trans (FR_h100 j hj)
  show WX _ _ _ 114 [(0, .ref k), (1, .ref q)] [] (k + 81, s + 13 + 36096 + 3 + 3 + 12 + 12 + 11630 + 18 + 9034 + 18 + 7446, h111)
  refine WX.s1 rfl rfl ?_
  refine WX.newN rfl (by have := hbig; omega) (fun h115 e_h115 => ?_)
  have F_h115_k : h115 k = .inr (6, [.ref (k + 1), .ref (k + 8), .ref (k + 27), .ref (k + 54), .null, .ref (k + 5), .ref (k + 6), .int 0, .ref (k + 7)]) := by rw [e_h115, va_up_neq (by omega)]; exact F_h111_k
  have F_h115__k_1_ : h115 (k + 1) = .inr (3, [.ref (k + 2), .int 0, .ref (k + 3), .ref (k + 4), .int 0, .int 0, .int 0, .int 0, .int 0, .int 0, .int 0, .int 0, .int 0]) := by rw [e_h115, va_up_neq (by omega)]; exact F_h111__k_1_
  have F_h115__k_2_ : h115 (k + 2) = .inl (0, 16000, .inl (fun _ => 0)) := by rw [e_h115, va_up_neq (by omega)]; exact F_h111__k_2_
  have F_h115__k_3_ : h115 (k + 3) = .inl (1, 16000, .inl (fun _ => 0)) := by rw [e_h115, va_up_neq (by omega)]; exact F_h111__k_3_
  have F_h115__k_4_ : h115 (k + 4) = .inl (1, 4096, .inl (fun _ => 0)) := by rw [e_h115, va_up_neq (by omega)]; exact F_h111__k_4_
  have F_h115__k_5_ : h115 (k + 5) = .inl (1, 3, .inl (fun _ => 0)) := by rw [e_h115, va_up_neq (by omega)]; exact F_h111__k_5_
  have F_h115__k_6_ : h115 (k + 6) = .inl (1, 3, .inl (fun _ => 0)) := by rw [e_h115, va_up_neq (by omega)]; exact F_h111__k_6_
  have F_h115__k_7_ : h115 (k + 7) = .inl (1, 12, .inl (fun _ => 0)) := by rw [e_h115, va_up_neq (by omega)]; exact F_h111__k_7_
  have F_h115__k_8_ : h115 (k + 8) = .inr (5, [.ref (k + 9), .ref (k + 10), .int 0, .ref (k + 11), .ref (k + 15), .ref (k + 19), .ref q, .ref (k + 25), .int 0, .int 0, .int 0, .int 0]) := by rw [e_h115, va_up_neq (by omega)]; exact F_h111__k_8_
  have F_h115__k_9_ : h115 (k + 9) = .inl (0, 8000, .inl (fun _ => 0)) := by rw [e_h115, va_up_neq (by omega)]; exact F_h111__k_9_
  have F_h115__k_10_ : h115 (k + 10) = .inl (1, 256, .inl (fun _ => 0)) := by rw [e_h115, va_up_neq (by omega)]; exact F_h111__k_10_
  have F_h115__k_11_ : h115 (k + 11) = .inr (0, [.ref (k + 12), .ref (k + 13), .ref (k + 14), .int 0, .int 0]) := by rw [e_h115, va_up_neq (by omega)]; exact F_h111__k_11_
  have F_h115__k_12_ : h115 (k + 12) = .inl (1, 256, .inl (fun _ => 0)) := by rw [e_h115, va_up_neq (by omega)]; exact F_h111__k_12_
  have F_h115__k_13_ : h115 (k + 13) = .inl (1, 256, .inl (fun _ => 0)) := by rw [e_h115, va_up_neq (by omega)]; exact F_h111__k_13_
  have F_h115__k_14_ : h115 (k + 14) = .inl (1, 13, .inl (fun _ => 0)) := by rw [e_h115, va_up_neq (by omega)]; exact F_h111__k_14_
  have F_h115__k_15_ : h115 (k + 15) = .inr (0, [.ref (k + 16), .ref (k + 17), .ref (k + 18), .int 0, .int 0]) := by rw [e_h115, va_up_neq (by omega)]; exact F_h111__k_15_
  have F_h115__k_16_ : h115 (k + 16) = .inl (1, 256, .inl (fun _ => 0)) := by rw [e_h115, va_up_neq (by omega)]; exact F_h111__k_16_
  have F_h115__k_17_ : h115 (k + 17) = .inl (1, 256, .inl (fun _ => 0)) := by rw [e_h115, va_up_neq (by omega)]; exact F_h111__k_17_
  have F_h115__k_18_ : h115 (k + 18) = .inl (1, 13, .inl (fun _ => 0)) := by rw [e_h115, va_up_neq (by omega)]; exact F_h111__k_18_
  have F_h115__k_19_ : h115 (k + 19) = .inr (4, [.ref (k + 20), .ref (k + 21), .ref (k + 22), .ref (k + 23), .ref (k + 24)]) := by rw [e_h115, va_up_neq (by omega)]; exact F_h111__k_19_
  have F_h115__k_20_ : h115 (k + 20) = .inl (1, 256, .inl (fun _ => 0)) := by rw [e_h115, va_up_neq (by omega)]; exact F_h111__k_20_
  have F_h115__k_21_ : h115 (k + 21) = .inl (1, 256, .inl (fun _ => 0)) := by rw [e_h115, va_up_neq (by omega)]; exact F_h111__k_21_
  have F_h115__k_22_ : h115 (k + 22) = .inl (1, 512, .inl (fun _ => 0)) := by rw [e_h115, va_up_neq (by omega)]; exact F_h111__k_22_
  have F_h115__k_23_ : h115 (k + 23) = .inl (1, 512, .inl (fun _ => 0)) := by rw [e_h115, va_up_neq (by omega)]; exact F_h111__k_23_
  have F_h115__k_24_ : h115 (k + 24) = .inl (1, 512, .inl (fun _ => 0)) := by rw [e_h115, va_up_neq (by omega)]; exact F_h111__k_24_
  have F_h115__k_25_ : h115 (k + 25) = .inr (7, [.ref (k + 26), .int 0, .int 0, .long 0, .int 0]) := by rw [e_h115, va_up_neq (by omega)]; exact F_h111__k_25_
  have F_h115__k_26_ : h115 (k + 26) = .inl (0, 256, .inl (fun _ => 0)) := by rw [e_h115, va_up_neq (by omega)]; exact F_h111__k_26_
  have F_h115__k_27_ : h115 (k + 27) = .inr (1, [.ref (aBig + 3), .ref (aBig + 4), .int 9, .ref (k + 28), .ref (k + 29), .ref (k + 32), .int 0, .int 0, .int 0, .ref (k + 33), .ref (k + 40), .ref (k + 47), .ref (k + 33), .ref (k + 30), .int 0, .int 0, .int 0, .int 0]) := by rw [e_h115, va_up_neq (by omega)]; exact F_h111__k_27_
  have F_h115__k_28_ : h115 (k + 28) = .inl (1, 2667, .inl (fun _ => 0)) := by rw [e_h115, va_up_neq (by omega)]; exact F_h111__k_28_
  have F_h115__k_29_ : h115 (k + 29) = .inl (1, 2667, .inl (fun _ => 0)) := by rw [e_h115, va_up_neq (by omega)]; exact F_h111__k_29_
  have F_h115__k_30_ : h115 (k + 30) = .inr (7, [.ref (k + 31), .int 0, .int 0, .long 0, .int 0]) := by rw [e_h115, va_up_neq (by omega)]; exact F_h111__k_30_
  have F_h115__k_31_ : h115 (k + 31) = .inl (0, 128, .inl (fun _ => 0)) := by rw [e_h115, va_up_neq (by omega)]; exact F_h111__k_31_
  have F_h115__k_32_ : h115 (k + 32) = .inl (1, 36, .inl (fun _ => 0)) := by rw [e_h115, va_up_neq (by omega)]; exact F_h111__k_32_
  have F_h115__k_40_ : h115 (k + 40) = .inr (8, [.int 35, .ref (k + 41), .ref (k + 42), .ref (k + 43), .ref (k + 44), .ref (k + 45), .ref (k + 46), .int 0, .int 0]) := by rw [e_h115, va_up_neq (by omega)]; exact F_h111__k_40_
  have F_h115__k_41_ : h115 (k + 41) = .inl (1, 36, .inl (fun _ => 0)) := by rw [e_h115, va_up_neq (by omega)]; exact F_h111__k_41_
  have F_h115__k_42_ : h115 (k + 42) = .inl (1, 36, .inl (fun _ => 0)) := by rw [e_h115, va_up_neq (by omega)]; exact F_h111__k_42_
  have F_h115__k_43_ : h115 (k + 43) = .inl (1, 36, .inl (fun _ => 0)) := by rw [e_h115, va_up_neq (by omega)]; exact F_h111__k_43_
  have F_h115__k_44_ : h115 (k + 44) = .inl (1, 36, .inl (fun _ => 0)) := by rw [e_h115, va_up_neq (by omega)]; exact F_h111__k_44_
  have F_h115__k_45_ : h115 (k + 45) = .inl (1, 512, .inl (fun _ => 0)) := by rw [e_h115, va_up_neq (by omega)]; exact F_h111__k_45_
  have F_h115__k_46_ : h115 (k + 46) = .inl (1, 512, .inl (fun _ => 0)) := by rw [e_h115, va_up_neq (by omega)]; exact F_h111__k_46_
  have F_h115__k_47_ : h115 (k + 47) = .inr (8, [.int 35, .ref (k + 48), .ref (k + 49), .ref (k + 50), .ref (k + 51), .ref (k + 52), .ref (k + 53), .int 0, .int 0]) := by rw [e_h115, va_up_neq (by omega)]; exact F_h111__k_47_
  have F_h115__k_48_ : h115 (k + 48) = .inl (1, 36, .inl (fun _ => 0)) := by rw [e_h115, va_up_neq (by omega)]; exact F_h111__k_48_
  have F_h115__k_49_ : h115 (k + 49) = .inl (1, 36, .inl (fun _ => 0)) := by rw [e_h115, va_up_neq (by omega)]; exact F_h111__k_49_
  have F_h115__k_50_ : h115 (k + 50) = .inl (1, 36, .inl (fun _ => 0)) := by rw [e_h115, va_up_neq (by omega)]; exact F_h111__k_50_
  have F_h115__k_51_ : h115 (k + 51) = .inl (1, 36, .inl (fun _ => 0)) := by rw [e_h115, va_up_neq (by omega)]; exact F_h111__k_51_
  have F_h115__k_52_ : h115 (k + 52) = .inl (1, 512, .inl (fun _ => 0)) := by rw [e_h115, va_up_neq (by omega)]; exact F_h111__k_52_
  have F_h115__k_53_ : h115 (k + 53) = .inl (1, 512, .inl (fun _ => 0)) := by rw [e_h115, va_up_neq (by omega)]; exact F_h111__k_53_
  have F_h115__k_33_ : h115 (k + 33) = .inr (8, [.int 35, .ref (k + 34), .ref (k + 35), .ref (k + 36), .ref (k + 37), .ref (k + 38), .ref (k + 39), .int 6, .int 1]) := by rw [e_h115, va_up_neq (by omega)]; exact F_h111__k_33_
  have F_h115__k_34_ : h115 (k + 34) = .inl (1, 36, .inl pA) := by rw [e_h115, va_up_neq (by omega)]; exact F_h111__k_34_
  have F_h115__k_35_ : h115 (k + 35) = .inl (1, 36, .inl (fun _ => 0)) := by rw [e_h115, va_up_neq (by omega)]; exact F_h111__k_35_
  have F_h115__k_36_ : h115 (k + 36) = .inl (1, 36, .inl fA) := by rw [e_h115, va_up_neq (by omega)]; exact F_h111__k_36_
  have F_h115__k_37_ : h115 (k + 37) = .inl (1, 36, .inl wA) := by rw [e_h115, va_up_neq (by omega)]; exact F_h111__k_37_
  have F_h115__k_38_ : h115 (k + 38) = .inl (1, 512, .inl oA) := by rw [e_h115, va_up_neq (by omega)]; exact F_h111__k_38_
  have F_h115__k_39_ : h115 (k + 39) = .inl (1, 512, .inl sA) := by rw [e_h115, va_up_neq (by omega)]; exact F_h111__k_39_
  have F_h115__k_54_ : h115 (k + 54) = .inr (1, [.ref (aBig + 5), .ref (aBig + 6), .int 8, .ref (k + 55), .ref (k + 56), .ref (k + 59), .int 0, .int 0, .int 0, .ref (k + 60), .ref (k + 67), .ref (k + 74), .ref (k + 60), .ref (k + 57), .int 0, .int 0, .int 0, .int 0]) := by rw [e_h115, va_up_neq (by omega)]; exact F_h111__k_54_
  have F_h115__k_55_ : h115 (k + 55) = .inl (1, 2667, .inl (fun _ => 0)) := by rw [e_h115, va_up_neq (by omega)]; exact F_h111__k_55_
  have F_h115__k_56_ : h115 (k + 56) = .inl (1, 2667, .inl (fun _ => 0)) := by rw [e_h115, va_up_neq (by omega)]; exact F_h111__k_56_
  have F_h115__k_57_ : h115 (k + 57) = .inr (7, [.ref (k + 58), .int 0, .int 0, .long 0, .int 0]) := by rw [e_h115, va_up_neq (by omega)]; exact F_h111__k_57_
  have F_h115__k_58_ : h115 (k + 58) = .inl (0, 128, .inl (fun _ => 0)) := by rw [e_h115, va_up_neq (by omega)]; exact F_h111__k_58_
  have F_h115__k_59_ : h115 (k + 59) = .inl (1, 32, .inl (fun _ => 0)) := by rw [e_h115, va_up_neq (by omega)]; exact F_h111__k_59_
  have F_h115__k_67_ : h115 (k + 67) = .inr (8, [.int 31, .ref (k + 68), .ref (k + 69), .ref (k + 70), .ref (k + 71), .ref (k + 72), .ref (k + 73), .int 0, .int 0]) := by rw [e_h115, va_up_neq (by omega)]; exact F_h111__k_67_
  have F_h115__k_68_ : h115 (k + 68) = .inl (1, 32, .inl (fun _ => 0)) := by rw [e_h115, va_up_neq (by omega)]; exact F_h111__k_68_
  have F_h115__k_69_ : h115 (k + 69) = .inl (1, 32, .inl (fun _ => 0)) := by rw [e_h115, va_up_neq (by omega)]; exact F_h111__k_69_
  have F_h115__k_70_ : h115 (k + 70) = .inl (1, 32, .inl (fun _ => 0)) := by rw [e_h115, va_up_neq (by omega)]; exact F_h111__k_70_
  have F_h115__k_71_ : h115 (k + 71) = .inl (1, 32, .inl (fun _ => 0)) := by rw [e_h115, va_up_neq (by omega)]; exact F_h111__k_71_
  have F_h115__k_72_ : h115 (k + 72) = .inl (1, 256, .inl (fun _ => 0)) := by rw [e_h115, va_up_neq (by omega)]; exact F_h111__k_72_
  have F_h115__k_73_ : h115 (k + 73) = .inl (1, 256, .inl (fun _ => 0)) := by rw [e_h115, va_up_neq (by omega)]; exact F_h111__k_73_
  have F_h115__k_74_ : h115 (k + 74) = .inr (8, [.int 31, .ref (k + 75), .ref (k + 76), .ref (k + 77), .ref (k + 78), .ref (k + 79), .ref (k + 80), .int 0, .int 0]) := by rw [e_h115, va_up_neq (by omega)]; exact F_h111__k_74_
  have F_h115__k_75_ : h115 (k + 75) = .inl (1, 32, .inl (fun _ => 0)) := by rw [e_h115, va_up_neq (by omega)]; exact F_h111__k_75_
  have F_h115__k_76_ : h115 (k + 76) = .inl (1, 32, .inl (fun _ => 0)) := by rw [e_h115, va_up_neq (by omega)]; exact F_h111__k_76_
  have F_h115__k_77_ : h115 (k + 77) = .inl (1, 32, .inl (fun _ => 0)) := by rw [e_h115, va_up_neq (by omega)]; exact F_h111__k_77_
  have F_h115__k_78_ : h115 (k + 78) = .inl (1, 32, .inl (fun _ => 0)) := by rw [e_h115, va_up_neq (by omega)]; exact F_h111__k_78_
  have F_h115__k_79_ : h115 (k + 79) = .inl (1, 256, .inl (fun _ => 0)) := by rw [e_h115, va_up_neq (by omega)]; exact F_h111__k_79_
  have F_h115__k_80_ : h115 (k + 80) = .inl (1, 256, .inl (fun _ => 0)) := by rw [e_h115, va_up_neq (by omega)]; exact F_h111__k_80_
  have F_h115__k_60_ : h115 (k + 60) = .inr (8, [.int 31, .ref (k + 61), .ref (k + 62), .ref (k + 63), .ref (k + 64), .ref (k + 65), .ref (k + 66), .int 5, .int 1]) := by rw [e_h115, va_up_neq (by omega)]; exact F_h111__k_60_
  have F_h115__k_61_ : h115 (k + 61) = .inl (1, 32, .inl pB) := by rw [e_h115, va_up_neq (by omega)]; exact F_h111__k_61_
  have F_h115__k_62_ : h115 (k + 62) = .inl (1, 32, .inl (fun _ => 0)) := by rw [e_h115, va_up_neq (by omega)]; exact F_h111__k_62_
  have F_h115__k_63_ : h115 (k + 63) = .inl (1, 32, .inl fB) := by rw [e_h115, va_up_neq (by omega)]; exact F_h111__k_63_
  have F_h115__k_64_ : h115 (k + 64) = .inl (1, 32, .inl wB) := by rw [e_h115, va_up_neq (by omega)]; exact F_h111__k_64_
  have F_h115__k_65_ : h115 (k + 65) = .inl (1, 256, .inl oB) := by rw [e_h115, va_up_neq (by omega)]; exact F_h111__k_65_
  have F_h115__k_66_ : h115 (k + 66) = .inl (1, 256, .inl sB) := by rw [e_h115, va_up_neq (by omega)]; exact F_h111__k_66_
  have F_h115__k_81_ : h115 (k + 81) = .inr (1, zX1) := by rw [e_h115]; exact va_up_eq
  have FR_h115 : ∀ j, j < k ∨ aBig ≤ j → h115 j = h j := fun j hj => by rw [e_h115]; exact (va_up_neq (by omega)).trans (FR_h111 j hj)
  refine WX.s1 rfl rfl ?_
  refine WX.s1 rfl rfl ?_
  refine WX.s1 rfl rfl ?_
  refine WX.s1 rfl rfl ?_
  refine WX.s1 rfl rfl ?_
  refine WX.callC (vs := [.ref (k + 81), .ref (aBig + 7), .ref (aBig + 8), .int 52, .int 9]) rfl rfl rfl (Nat.le_of_ble_eq_true rfl) (rcv_ok (by omega) F_h115__k_81_) ?_
  refine n_col_52_9 (k := k + 81) (by have := hbig; omega) F_h115__k_81_ (fun h129 fr129 cs129 => ?_)
  have F_h129_k : h129 k = .inr (6, [.ref (k + 1), .ref (k + 8), .ref (k + 27), .ref (k + 54), .null, .ref (k + 5), .ref (k + 6), .int 0, .ref (k + 7)]) := (fr129 k (by omega)).trans F_h115_k
  have F_h129__k_1_ : h129 (k + 1) = .inr (3, [.ref (k + 2), .int 0, .ref (k + 3), .ref (k + 4), .int 0, .int 0, .int 0, .int 0, .int 0, .int 0, .int 0, .int 0, .int 0]) := (fr129 (k + 1) (by omega)).trans F_h115__k_1_
  have F_h129__k_2_ : h129 (k + 2) = .inl (0, 16000, .inl (fun _ => 0)) := (fr129 (k + 2) (by omega)).trans F_h115__k_2_
  have F_h129__k_3_ : h129 (k + 3) = .inl (1, 16000, .inl (fun _ => 0)) := (fr129 (k + 3) (by omega)).trans F_h115__k_3_
  have F_h129__k_4_ : h129 (k + 4) = .inl (1, 4096, .inl (fun _ => 0)) := (fr129 (k + 4) (by omega)).trans F_h115__k_4_
  have F_h129__k_5_ : h129 (k + 5) = .inl (1, 3, .inl (fun _ => 0)) := (fr129 (k + 5) (by omega)).trans F_h115__k_5_
  have F_h129__k_6_ : h129 (k + 6) = .inl (1, 3, .inl (fun _ => 0)) := (fr129 (k + 6) (by omega)).trans F_h115__k_6_
  have F_h129__k_7_ : h129 (k + 7) = .inl (1, 12, .inl (fun _ => 0)) := (fr129 (k + 7) (by omega)).trans F_h115__k_7_
  have F_h129__k_8_ : h129 (k + 8) = .inr (5, [.ref (k + 9), .ref (k + 10), .int 0, .ref (k + 11), .ref (k + 15), .ref (k + 19), .ref q, .ref (k + 25), .int 0, .int 0, .int 0, .int 0]) := (fr129 (k + 8) (by omega)).trans F_h115__k_8_
  have F_h129__k_9_ : h129 (k + 9) = .inl (0, 8000, .inl (fun _ => 0)) := (fr129 (k + 9) (by omega)).trans F_h115__k_9_
  have F_h129__k_10_ : h129 (k + 10) = .inl (1, 256, .inl (fun _ => 0)) := (fr129 (k + 10) (by omega)).trans F_h115__k_10_
  have F_h129__k_11_ : h129 (k + 11) = .inr (0, [.ref (k + 12), .ref (k + 13), .ref (k + 14), .int 0, .int 0]) := (fr129 (k + 11) (by omega)).trans F_h115__k_11_
  have F_h129__k_12_ : h129 (k + 12) = .inl (1, 256, .inl (fun _ => 0)) := (fr129 (k + 12) (by omega)).trans F_h115__k_12_
  have F_h129__k_13_ : h129 (k + 13) = .inl (1, 256, .inl (fun _ => 0)) := (fr129 (k + 13) (by omega)).trans F_h115__k_13_
  have F_h129__k_14_ : h129 (k + 14) = .inl (1, 13, .inl (fun _ => 0)) := (fr129 (k + 14) (by omega)).trans F_h115__k_14_
  have F_h129__k_15_ : h129 (k + 15) = .inr (0, [.ref (k + 16), .ref (k + 17), .ref (k + 18), .int 0, .int 0]) := (fr129 (k + 15) (by omega)).trans F_h115__k_15_
  have F_h129__k_16_ : h129 (k + 16) = .inl (1, 256, .inl (fun _ => 0)) := (fr129 (k + 16) (by omega)).trans F_h115__k_16_
  have F_h129__k_17_ : h129 (k + 17) = .inl (1, 256, .inl (fun _ => 0)) := (fr129 (k + 17) (by omega)).trans F_h115__k_17_
  have F_h129__k_18_ : h129 (k + 18) = .inl (1, 13, .inl (fun _ => 0)) := (fr129 (k + 18) (by omega)).trans F_h115__k_18_
  have F_h129__k_19_ : h129 (k + 19) = .inr (4, [.ref (k + 20), .ref (k + 21), .ref (k + 22), .ref (k + 23), .ref (k + 24)]) := (fr129 (k + 19) (by omega)).trans F_h115__k_19_
  have F_h129__k_20_ : h129 (k + 20) = .inl (1, 256, .inl (fun _ => 0)) := (fr129 (k + 20) (by omega)).trans F_h115__k_20_
  have F_h129__k_21_ : h129 (k + 21) = .inl (1, 256, .inl (fun _ => 0)) := (fr129 (k + 21) (by omega)).trans F_h115__k_21_
  have F_h129__k_22_ : h129 (k + 22) = .inl (1, 512, .inl (fun _ => 0)) := (fr129 (k + 22) (by omega)).trans F_h115__k_22_
  have F_h129__k_23_ : h129 (k + 23) = .inl (1, 512, .inl (fun _ => 0)) := (fr129 (k + 23) (by omega)).trans F_h115__k_23_
  have F_h129__k_24_ : h129 (k + 24) = .inl (1, 512, .inl (fun _ => 0)) := (fr129 (k + 24) (by omega)).trans F_h115__k_24_
  have F_h129__k_25_ : h129 (k + 25) = .inr (7, [.ref (k + 26), .int 0, .int 0, .long 0, .int 0]) := (fr129 (k + 25) (by omega)).trans F_h115__k_25_
  have F_h129__k_26_ : h129 (k + 26) = .inl (0, 256, .inl (fun _ => 0)) := (fr129 (k + 26) (by omega)).trans F_h115__k_26_
  have F_h129__k_27_ : h129 (k + 27) = .inr (1, [.ref (aBig + 3), .ref (aBig + 4), .int 9, .ref (k + 28), .ref (k + 29), .ref (k + 32), .int 0, .int 0, .int 0, .ref (k + 33), .ref (k + 40), .ref (k + 47), .ref (k + 33), .ref (k + 30), .int 0, .int 0, .int 0, .int 0]) := (fr129 (k + 27) (by omega)).trans F_h115__k_27_
  have F_h129__k_28_ : h129 (k + 28) = .inl (1, 2667, .inl (fun _ => 0)) := (fr129 (k + 28) (by omega)).trans F_h115__k_28_
  have F_h129__k_29_ : h129 (k + 29) = .inl (1, 2667, .inl (fun _ => 0)) := (fr129 (k + 29) (by omega)).trans F_h115__k_29_
  have F_h129__k_30_ : h129 (k + 30) = .inr (7, [.ref (k + 31), .int 0, .int 0, .long 0, .int 0]) := (fr129 (k + 30) (by omega)).trans F_h115__k_30_
  have F_h129__k_31_ : h129 (k + 31) = .inl (0, 128, .inl (fun _ => 0)) := (fr129 (k + 31) (by omega)).trans F_h115__k_31_
  have F_h129__k_32_ : h129 (k + 32) = .inl (1, 36, .inl (fun _ => 0)) := (fr129 (k + 32) (by omega)).trans F_h115__k_32_
  have F_h129__k_40_ : h129 (k + 40) = .inr (8, [.int 35, .ref (k + 41), .ref (k + 42), .ref (k + 43), .ref (k + 44), .ref (k + 45), .ref (k + 46), .int 0, .int 0]) := (fr129 (k + 40) (by omega)).trans F_h115__k_40_
  have F_h129__k_41_ : h129 (k + 41) = .inl (1, 36, .inl (fun _ => 0)) := (fr129 (k + 41) (by omega)).trans F_h115__k_41_
  have F_h129__k_42_ : h129 (k + 42) = .inl (1, 36, .inl (fun _ => 0)) := (fr129 (k + 42) (by omega)).trans F_h115__k_42_
  have F_h129__k_43_ : h129 (k + 43) = .inl (1, 36, .inl (fun _ => 0)) := (fr129 (k + 43) (by omega)).trans F_h115__k_43_
  have F_h129__k_44_ : h129 (k + 44) = .inl (1, 36, .inl (fun _ => 0)) := (fr129 (k + 44) (by omega)).trans F_h115__k_44_
  have F_h129__k_45_ : h129 (k + 45) = .inl (1, 512, .inl (fun _ => 0)) := (fr129 (k + 45) (by omega)).trans F_h115__k_45_
  have F_h129__k_46_ : h129 (k + 46) = .inl (1, 512, .inl (fun _ => 0)) := (fr129 (k + 46) (by omega)).trans F_h115__k_46_
  have F_h129__k_47_ : h129 (k + 47) = .inr (8, [.int 35, .ref (k + 48), .ref (k + 49), .ref (k + 50), .ref (k + 51), .ref (k + 52), .ref (k + 53), .int 0, .int 0]) := (fr129 (k + 47) (by omega)).trans F_h115__k_47_
  have F_h129__k_48_ : h129 (k + 48) = .inl (1, 36, .inl (fun _ => 0)) := (fr129 (k + 48) (by omega)).trans F_h115__k_48_
  have F_h129__k_49_ : h129 (k + 49) = .inl (1, 36, .inl (fun _ => 0)) := (fr129 (k + 49) (by omega)).trans F_h115__k_49_
  have F_h129__k_50_ : h129 (k + 50) = .inl (1, 36, .inl (fun _ => 0)) := (fr129 (k + 50) (by omega)).trans F_h115__k_50_
  have F_h129__k_51_ : h129 (k + 51) = .inl (1, 36, .inl (fun _ => 0)) := (fr129 (k + 51) (by omega)).trans F_h115__k_51_
  have F_h129__k_52_ : h129 (k + 52) = .inl (1, 512, .inl (fun _ => 0)) := (fr129 (k + 52) (by omega)).trans F_h115__k_52_
  have F_h129__k_53_ : h129 (k + 53) = .inl (1, 512, .inl (fun _ => 0)) := (fr129 (k + 53) (by omega)).trans F_h115__k_53_
  have F_h129__k_33_ : h129 (k + 33) = .inr (8, [.int 35, .ref (k + 34), .ref (k + 35), .ref (k + 36), .ref (k + 37), .ref (k + 38), .ref (k + 39), .int 6, .int 1]) := (fr129 (k + 33) (by omega)).trans F_h115__k_33_
  have F_h129__k_34_ : h129 (k + 34) = .inl (1, 36, .inl pA) := (fr129 (k + 34) (by omega)).trans F_h115__k_34_
  have F_h129__k_35_ : h129 (k + 35) = .inl (1, 36, .inl (fun _ => 0)) := (fr129 (k + 35) (by omega)).trans F_h115__k_35_
  have F_h129__k_36_ : h129 (k + 36) = .inl (1, 36, .inl fA) := (fr129 (k + 36) (by omega)).trans F_h115__k_36_
  have F_h129__k_37_ : h129 (k + 37) = .inl (1, 36, .inl wA) := (fr129 (k + 37) (by omega)).trans F_h115__k_37_
  have F_h129__k_38_ : h129 (k + 38) = .inl (1, 512, .inl oA) := (fr129 (k + 38) (by omega)).trans F_h115__k_38_
  have F_h129__k_39_ : h129 (k + 39) = .inl (1, 512, .inl sA) := (fr129 (k + 39) (by omega)).trans F_h115__k_39_
  have F_h129__k_54_ : h129 (k + 54) = .inr (1, [.ref (aBig + 5), .ref (aBig + 6), .int 8, .ref (k + 55), .ref (k + 56), .ref (k + 59), .int 0, .int 0, .int 0, .ref (k + 60), .ref (k + 67), .ref (k + 74), .ref (k + 60), .ref (k + 57), .int 0, .int 0, .int 0, .int 0]) := (fr129 (k + 54) (by omega)).trans F_h115__k_54_
  have F_h129__k_55_ : h129 (k + 55) = .inl (1, 2667, .inl (fun _ => 0)) := (fr129 (k + 55) (by omega)).trans F_h115__k_55_
  have F_h129__k_56_ : h129 (k + 56) = .inl (1, 2667, .inl (fun _ => 0)) := (fr129 (k + 56) (by omega)).trans F_h115__k_56_
  have F_h129__k_57_ : h129 (k + 57) = .inr (7, [.ref (k + 58), .int 0, .int 0, .long 0, .int 0]) := (fr129 (k + 57) (by omega)).trans F_h115__k_57_
  have F_h129__k_58_ : h129 (k + 58) = .inl (0, 128, .inl (fun _ => 0)) := (fr129 (k + 58) (by omega)).trans F_h115__k_58_
  have F_h129__k_59_ : h129 (k + 59) = .inl (1, 32, .inl (fun _ => 0)) := (fr129 (k + 59) (by omega)).trans F_h115__k_59_
  have F_h129__k_67_ : h129 (k + 67) = .inr (8, [.int 31, .ref (k + 68), .ref (k + 69), .ref (k + 70), .ref (k + 71), .ref (k + 72), .ref (k + 73), .int 0, .int 0]) := (fr129 (k + 67) (by omega)).trans F_h115__k_67_
  have F_h129__k_68_ : h129 (k + 68) = .inl (1, 32, .inl (fun _ => 0)) := (fr129 (k + 68) (by omega)).trans F_h115__k_68_
  have F_h129__k_69_ : h129 (k + 69) = .inl (1, 32, .inl (fun _ => 0)) := (fr129 (k + 69) (by omega)).trans F_h115__k_69_
  have F_h129__k_70_ : h129 (k + 70) = .inl (1, 32, .inl (fun _ => 0)) := (fr129 (k + 70) (by omega)).trans F_h115__k_70_
  have F_h129__k_71_ : h129 (k + 71) = .inl (1, 32, .inl (fun _ => 0)) := (fr129 (k + 71) (by omega)).trans F_h115__k_71_
  have F_h129__k_72_ : h129 (k + 72) = .inl (1, 256, .inl (fun _ => 0)) := (fr129 (k + 72) (by omega)).trans F_h115__k_72_
  have F_h129__k_73_ : h129 (k + 73) = .inl (1, 256, .inl (fun _ => 0)) := (fr129 (k + 73) (by omega)).trans F_h115__k_73_
  have F_h129__k_74_ : h129 (k + 74) = .inr (8, [.int 31, .ref (k + 75), .ref (k + 76), .ref (k + 77), .ref (k + 78), .ref (k + 79), .ref (k + 80), .int 0, .int 0]) := (fr129 (k + 74) (by omega)).trans F_h115__k_74_
  have F_h129__k_75_ : h129 (k + 75) = .inl (1, 32, .inl (fun _ => 0)) := (fr129 (k + 75) (by omega)).trans F_h115__k_75_
  have F_h129__k_76_ : h129 (k + 76) = .inl (1, 32, .inl (fun _ => 0)) := (fr129 (k + 76) (by omega)).trans F_h115__k_76_
  have F_h129__k_77_ : h129 (k + 77) = .inl (1, 32, .inl (fun _ => 0)) := (fr129 (k + 77) (by omega)).trans F_h115__k_77_
  have F_h129__k_78_ : h129 (k + 78) = .inl (1, 32, .inl (fun _ => 0)) := (fr129 (k + 78) (by omega)).trans F_h115__k_78_
  have F_h129__k_79_ : h129 (k + 79) = .inl (1, 256, .inl (fun _ => 0)) := (fr129 (k + 79) (by omega)).trans F_h115__k_79_
  have F_h129__k_80_ : h129 (k + 80) = .inl (1, 256, .inl (fun _ => 0)) := (fr129 (k + 80) (by omega)).trans F_h115__k_80_
  have F_h129__k_60_ : h129 (k + 60) = .inr (8, [.int 31, .ref (k + 61), .ref (k + 62), .ref (k + 63), .ref (k + 64), .ref (k + 65), .ref (k + 66), .int 5, .int 1]) := (fr129 (k + 60) (by omega)).trans F_h115__k_60_
  have F_h129__k_61_ : h129 (k + 61) = .inl (1, 32, .inl pB) := (fr129 (k + 61) (by omega)).trans F_h115__k_61_
  have F_h129__k_62_ : h129 (k + 62) = .inl (1, 32, .inl (fun _ => 0)) := (fr129 (k + 62) (by omega)).trans F_h115__k_62_
  have F_h129__k_63_ : h129 (k + 63) = .inl (1, 32, .inl fB) := (fr129 (k + 63) (by omega)).trans F_h115__k_63_
  have F_h129__k_64_ : h129 (k + 64) = .inl (1, 32, .inl wB) := (fr129 (k + 64) (by omega)).trans F_h115__k_64_
  have F_h129__k_65_ : h129 (k + 65) = .inl (1, 256, .inl oB) := (fr129 (k + 65) (by omega)).trans F_h115__k_65_
  have F_h129__k_66_ : h129 (k + 66) = .inl (1, 256, .inl sB) := (fr129 (k + 66) (by omega)).trans F_h115__k_66_
  have F_h129__k_81_ : h129 (k + 81) = .inr (1, [.ref (aBig + 7), .ref (aBig + 8), .int 9, .ref (k + 82), .ref (k + 83), .ref (k + 86), .int 0, .int 0, .int 0, .ref (k + 87), .ref (k + 94), .ref (k + 101), .ref (k + 87), .ref (k + 84), .int 0, .int 0, .int 0, .int 0]) := cs129.1
  have F_h129__k_82_ : h129 (k + 82) = .inl (1, 2667, .inl (fun _ => 0)) := cs129.2.1
  have F_h129__k_83_ : h129 (k + 83) = .inl (1, 2667, .inl (fun _ => 0)) := cs129.2.2.1
  have F_h129__k_84_ : h129 (k + 84) = .inr (7, [.ref (k + 85), .int 0, .int 0, .long 0, .int 0]) := cs129.2.2.2.1
  have F_h129__k_85_ : h129 (k + 85) = .inl (0, 128, .inl (fun _ => 0)) := cs129.2.2.2.2.1
  have F_h129__k_86_ : h129 (k + 86) = .inl (1, 53, .inl (fun _ => 0)) := cs129.2.2.2.2.2.1
  have F_h129__k_87_ : h129 (k + 87) = .inr (8, [.int 52, .ref (k + 88), .ref (k + 89), .ref (k + 90), .ref (k + 91), .ref (k + 92), .ref (k + 93), .int 0, .int 0]) := cs129.2.2.2.2.2.2.1
  have F_h129__k_88_ : h129 (k + 88) = .inl (1, 53, .inl (fun _ => 0)) := cs129.2.2.2.2.2.2.2.1
  have F_h129__k_89_ : h129 (k + 89) = .inl (1, 53, .inl (fun _ => 0)) := cs129.2.2.2.2.2.2.2.2.1
  have F_h129__k_90_ : h129 (k + 90) = .inl (1, 53, .inl (fun _ => 0)) := cs129.2.2.2.2.2.2.2.2.2.1
  have F_h129__k_91_ : h129 (k + 91) = .inl (1, 53, .inl (fun _ => 0)) := cs129.2.2.2.2.2.2.2.2.2.2.1
  have F_h129__k_92_ : h129 (k + 92) = .inl (1, 512, .inl (fun _ => 0)) := cs129.2.2.2.2.2.2.2.2.2.2.2.1
  have F_h129__k_93_ : h129 (k + 93) = .inl (1, 512, .inl (fun _ => 0)) := cs129.2.2.2.2.2.2.2.2.2.2.2.2.1
  have F_h129__k_94_ : h129 (k + 94) = .inr (8, [.int 52, .ref (k + 95), .ref (k + 96), .ref (k + 97), .ref (k + 98), .ref (k + 99), .ref (k + 100), .int 0, .int 0]) := cs129.2.2.2.2.2.2.2.2.2.2.2.2.2.1
  have F_h129__k_95_ : h129 (k + 95) = .inl (1, 53, .inl (fun _ => 0)) := cs129.2.2.2.2.2.2.2.2.2.2.2.2.2.2.1
  have F_h129__k_96_ : h129 (k + 96) = .inl (1, 53, .inl (fun _ => 0)) := cs129.2.2.2.2.2.2.2.2.2.2.2.2.2.2.2.1
  have F_h129__k_97_ : h129 (k + 97) = .inl (1, 53, .inl (fun _ => 0)) := cs129.2.2.2.2.2.2.2.2.2.2.2.2.2.2.2.2.1
  have F_h129__k_98_ : h129 (k + 98) = .inl (1, 53, .inl (fun _ => 0)) := cs129.2.2.2.2.2.2.2.2.2.2.2.2.2.2.2.2.2.1
  have F_h129__k_99_ : h129 (k + 99) = .inl (1, 512, .inl (fun _ => 0)) := cs129.2.2.2.2.2.2.2.2.2.2.2.2.2.2.2.2.2.2.1
  have F_h129__k_100_ : h129 (k + 100) = .inl (1, 512, .inl (fun _ => 0)) := cs129.2.2.2.2.2.2.2.2.2.2.2.2.2.2.2.2.2.2.2.1
  have F_h129__k_101_ : h129 (k + 101) = .inr (8, [.int 52, .ref (k + 102), .ref (k + 103), .ref (k + 104), .ref (k + 105), .ref (k + 106), .ref (k + 107), .int 0, .int 0]) := cs129.2.2.2.2.2.2.2.2.2.2.2.2.2.2.2.2.2.2.2.2.1
  have F_h129__k_102_ : h129 (k + 102) = .inl (1, 53, .inl (fun _ => 0)) := cs129.2.2.2.2.2.2.2.2.2.2.2.2.2.2.2.2.2.2.2.2.2.1
  have F_h129__k_103_ : h129 (k + 103) = .inl (1, 53, .inl (fun _ => 0)) := cs129.2.2.2.2.2.2.2.2.2.2.2.2.2.2.2.2.2.2.2.2.2.2.1
  have F_h129__k_104_ : h129 (k + 104) = .inl (1, 53, .inl (fun _ => 0)) := cs129.2.2.2.2.2.2.2.2.2.2.2.2.2.2.2.2.2.2.2.2.2.2.2.1
  have F_h129__k_105_ : h129 (k + 105) = .inl (1, 53, .inl (fun _ => 0)) := cs129.2.2.2.2.2.2.2.2.2.2.2.2.2.2.2.2.2.2.2.2.2.2.2.2.1
  have F_h129__k_106_ : h129 (k + 106) = .inl (1, 512, .inl (fun _ => 0)) := cs129.2.2.2.2.2.2.2.2.2.2.2.2.2.2.2.2.2.2.2.2.2.2.2.2.2.1
  have F_h129__k_107_ : h129 (k + 107) = .inl (1, 512, .inl (fun _ => 0)) := cs129.2.2.2.2.2.2.2.2.2.2.2.2.2.2.2.2.2.2.2.2.2.2.2.2.2.2.1
  have FR_h129 : ∀ j, j < k ∨ aBig ≤ j → h129 j = h j := fun j hj => (fr129 j (by omega)).trans (FR_h115 j hj)
  show WX _ _ _ 132 [(0, .ref k), (1, .ref q)] [.ref (k + 81), .ref k] (k + 108, s + 13 + 36096 + 3 + 3 + 12 + 12 + 11630 + 18 + 9034 + 18 + 7446 + 18 + 9255, h129)
  refine WX.put1 (fs := [.ref (k + 1), .ref (k + 8), .ref (k + 27), .ref (k + 54), .null, .ref (k + 5), .ref (k + 6), .int 0, .ref (k + 7)]) (fs' := [.ref (k + 1), .ref (k + 8), .ref (k + 27), .ref (k + 54), .ref (k + 81), .ref (k + 5), .ref (k + 6), .int 0, .ref (k + 7)]) rfl (by omega) (F_h129_k) (Nat.le_of_ble_eq_true rfl) (rfl) rfl (fun h132 e_h132 => ?_)
  have F_h132_k : h132 k = .inr (6, [.ref (k + 1), .ref (k + 8), .ref (k + 27), .ref (k + 54), .ref (k + 81), .ref (k + 5), .ref (k + 6), .int 0, .ref (k + 7)]) := by rw [e_h132]; exact va_up_eq
  have F_h132__k_1_ : h132 (k + 1) = .inr (3, [.ref (k + 2), .int 0, .ref (k + 3), .ref (k + 4), .int 0, .int 0, .int 0, .int 0, .int 0, .int 0, .int 0, .int 0, .int 0]) := by rw [e_h132, va_up_neq (by omega)]; exact F_h129__k_1_
  have F_h132__k_2_ : h132 (k + 2) = .inl (0, 16000, .inl (fun _ => 0)) := by rw [e_h132, va_up_neq (by omega)]; exact F_h129__k_2_
  have F_h132__k_3_ : h132 (k + 3) = .inl (1, 16000, .inl (fun _ => 0)) := by rw [e_h132, va_up_neq (by omega)]; exact F_h129__k_3_
  have F_h132__k_4_ : h132 (k + 4) = .inl (1, 4096, .inl (fun _ => 0)) := by rw [e_h132, va_up_neq (by omega)]; exact F_h129__k_4_
  have F_h132__k_5_ : h132 (k + 5) = .inl (1, 3, .inl (fun _ => 0)) := by rw [e_h132, va_up_neq (by omega)]; exact F_h129__k_5_
  have F_h132__k_6_ : h132 (k + 6) = .inl (1, 3, .inl (fun _ => 0)) := by rw [e_h132, va_up_neq (by omega)]; exact F_h129__k_6_
  have F_h132__k_7_ : h132 (k + 7) = .inl (1, 12, .inl (fun _ => 0)) := by rw [e_h132, va_up_neq (by omega)]; exact F_h129__k_7_
  have F_h132__k_8_ : h132 (k + 8) = .inr (5, [.ref (k + 9), .ref (k + 10), .int 0, .ref (k + 11), .ref (k + 15), .ref (k + 19), .ref q, .ref (k + 25), .int 0, .int 0, .int 0, .int 0]) := by rw [e_h132, va_up_neq (by omega)]; exact F_h129__k_8_
  have F_h132__k_9_ : h132 (k + 9) = .inl (0, 8000, .inl (fun _ => 0)) := by rw [e_h132, va_up_neq (by omega)]; exact F_h129__k_9_
  have F_h132__k_10_ : h132 (k + 10) = .inl (1, 256, .inl (fun _ => 0)) := by rw [e_h132, va_up_neq (by omega)]; exact F_h129__k_10_
  have F_h132__k_11_ : h132 (k + 11) = .inr (0, [.ref (k + 12), .ref (k + 13), .ref (k + 14), .int 0, .int 0]) := by rw [e_h132, va_up_neq (by omega)]; exact F_h129__k_11_
  have F_h132__k_12_ : h132 (k + 12) = .inl (1, 256, .inl (fun _ => 0)) := by rw [e_h132, va_up_neq (by omega)]; exact F_h129__k_12_
  have F_h132__k_13_ : h132 (k + 13) = .inl (1, 256, .inl (fun _ => 0)) := by rw [e_h132, va_up_neq (by omega)]; exact F_h129__k_13_
  have F_h132__k_14_ : h132 (k + 14) = .inl (1, 13, .inl (fun _ => 0)) := by rw [e_h132, va_up_neq (by omega)]; exact F_h129__k_14_
  have F_h132__k_15_ : h132 (k + 15) = .inr (0, [.ref (k + 16), .ref (k + 17), .ref (k + 18), .int 0, .int 0]) := by rw [e_h132, va_up_neq (by omega)]; exact F_h129__k_15_
  have F_h132__k_16_ : h132 (k + 16) = .inl (1, 256, .inl (fun _ => 0)) := by rw [e_h132, va_up_neq (by omega)]; exact F_h129__k_16_
  have F_h132__k_17_ : h132 (k + 17) = .inl (1, 256, .inl (fun _ => 0)) := by rw [e_h132, va_up_neq (by omega)]; exact F_h129__k_17_
  have F_h132__k_18_ : h132 (k + 18) = .inl (1, 13, .inl (fun _ => 0)) := by rw [e_h132, va_up_neq (by omega)]; exact F_h129__k_18_
  have F_h132__k_19_ : h132 (k + 19) = .inr (4, [.ref (k + 20), .ref (k + 21), .ref (k + 22), .ref (k + 23), .ref (k + 24)]) := by rw [e_h132, va_up_neq (by omega)]; exact F_h129__k_19_
  have F_h132__k_20_ : h132 (k + 20) = .inl (1, 256, .inl (fun _ => 0)) := by rw [e_h132, va_up_neq (by omega)]; exact F_h129__k_20_
  have F_h132__k_21_ : h132 (k + 21) = .inl (1, 256, .inl (fun _ => 0)) := by rw [e_h132, va_up_neq (by omega)]; exact F_h129__k_21_
  have F_h132__k_22_ : h132 (k + 22) = .inl (1, 512, .inl (fun _ => 0)) := by rw [e_h132, va_up_neq (by omega)]; exact F_h129__k_22_
  have F_h132__k_23_ : h132 (k + 23) = .inl (1, 512, .inl (fun _ => 0)) := by rw [e_h132, va_up_neq (by omega)]; exact F_h129__k_23_
  have F_h132__k_24_ : h132 (k + 24) = .inl (1, 512, .inl (fun _ => 0)) := by rw [e_h132, va_up_neq (by omega)]; exact F_h129__k_24_
  have F_h132__k_25_ : h132 (k + 25) = .inr (7, [.ref (k + 26), .int 0, .int 0, .long 0, .int 0]) := by rw [e_h132, va_up_neq (by omega)]; exact F_h129__k_25_
  have F_h132__k_26_ : h132 (k + 26) = .inl (0, 256, .inl (fun _ => 0)) := by rw [e_h132, va_up_neq (by omega)]; exact F_h129__k_26_
  have F_h132__k_27_ : h132 (k + 27) = .inr (1, [.ref (aBig + 3), .ref (aBig + 4), .int 9, .ref (k + 28), .ref (k + 29), .ref (k + 32), .int 0, .int 0, .int 0, .ref (k + 33), .ref (k + 40), .ref (k + 47), .ref (k + 33), .ref (k + 30), .int 0, .int 0, .int 0, .int 0]) := by rw [e_h132, va_up_neq (by omega)]; exact F_h129__k_27_
  have F_h132__k_28_ : h132 (k + 28) = .inl (1, 2667, .inl (fun _ => 0)) := by rw [e_h132, va_up_neq (by omega)]; exact F_h129__k_28_
  have F_h132__k_29_ : h132 (k + 29) = .inl (1, 2667, .inl (fun _ => 0)) := by rw [e_h132, va_up_neq (by omega)]; exact F_h129__k_29_
  have F_h132__k_30_ : h132 (k + 30) = .inr (7, [.ref (k + 31), .int 0, .int 0, .long 0, .int 0]) := by rw [e_h132, va_up_neq (by omega)]; exact F_h129__k_30_
  have F_h132__k_31_ : h132 (k + 31) = .inl (0, 128, .inl (fun _ => 0)) := by rw [e_h132, va_up_neq (by omega)]; exact F_h129__k_31_
  have F_h132__k_32_ : h132 (k + 32) = .inl (1, 36, .inl (fun _ => 0)) := by rw [e_h132, va_up_neq (by omega)]; exact F_h129__k_32_
  have F_h132__k_40_ : h132 (k + 40) = .inr (8, [.int 35, .ref (k + 41), .ref (k + 42), .ref (k + 43), .ref (k + 44), .ref (k + 45), .ref (k + 46), .int 0, .int 0]) := by rw [e_h132, va_up_neq (by omega)]; exact F_h129__k_40_
  have F_h132__k_41_ : h132 (k + 41) = .inl (1, 36, .inl (fun _ => 0)) := by rw [e_h132, va_up_neq (by omega)]; exact F_h129__k_41_
  have F_h132__k_42_ : h132 (k + 42) = .inl (1, 36, .inl (fun _ => 0)) := by rw [e_h132, va_up_neq (by omega)]; exact F_h129__k_42_
  have F_h132__k_43_ : h132 (k + 43) = .inl (1, 36, .inl (fun _ => 0)) := by rw [e_h132, va_up_neq (by omega)]; exact F_h129__k_43_
  have F_h132__k_44_ : h132 (k + 44) = .inl (1, 36, .inl (fun _ => 0)) := by rw [e_h132, va_up_neq (by omega)]; exact F_h129__k_44_
  have F_h132__k_45_ : h132 (k + 45) = .inl (1, 512, .inl (fun _ => 0)) := by rw [e_h132, va_up_neq (by omega)]; exact F_h129__k_45_
  have F_h132__k_46_ : h132 (k + 46) = .inl (1, 512, .inl (fun _ => 0)) := by rw [e_h132, va_up_neq (by omega)]; exact F_h129__k_46_
  have F_h132__k_47_ : h132 (k + 47) = .inr (8, [.int 35, .ref (k + 48), .ref (k + 49), .ref (k + 50), .ref (k + 51), .ref (k + 52), .ref (k + 53), .int 0, .int 0]) := by rw [e_h132, va_up_neq (by omega)]; exact F_h129__k_47_
  have F_h132__k_48_ : h132 (k + 48) = .inl (1, 36, .inl (fun _ => 0)) := by rw [e_h132, va_up_neq (by omega)]; exact F_h129__k_48_
  have F_h132__k_49_ : h132 (k + 49) = .inl (1, 36, .inl (fun _ => 0)) := by rw [e_h132, va_up_neq (by omega)]; exact F_h129__k_49_
  have F_h132__k_50_ : h132 (k + 50) = .inl (1, 36, .inl (fun _ => 0)) := by rw [e_h132, va_up_neq (by omega)]; exact F_h129__k_50_
  have F_h132__k_51_ : h132 (k + 51) = .inl (1, 36, .inl (fun _ => 0)) := by rw [e_h132, va_up_neq (by omega)]; exact F_h129__k_51_
  have F_h132__k_52_ : h132 (k + 52) = .inl (1, 512, .inl (fun _ => 0)) := by rw [e_h132, va_up_neq (by omega)]; exact F_h129__k_52_
  have F_h132__k_53_ : h132 (k + 53) = .inl (1, 512, .inl (fun _ => 0)) := by rw [e_h132, va_up_neq (by omega)]; exact F_h129__k_53_
  have F_h132__k_33_ : h132 (k + 33) = .inr (8, [.int 35, .ref (k + 34), .ref (k + 35), .ref (k + 36), .ref (k + 37), .ref (k + 38), .ref (k + 39), .int 6, .int 1]) := by rw [e_h132, va_up_neq (by omega)]; exact F_h129__k_33_
  have F_h132__k_34_ : h132 (k + 34) = .inl (1, 36, .inl pA) := by rw [e_h132, va_up_neq (by omega)]; exact F_h129__k_34_
  have F_h132__k_35_ : h132 (k + 35) = .inl (1, 36, .inl (fun _ => 0)) := by rw [e_h132, va_up_neq (by omega)]; exact F_h129__k_35_
  have F_h132__k_36_ : h132 (k + 36) = .inl (1, 36, .inl fA) := by rw [e_h132, va_up_neq (by omega)]; exact F_h129__k_36_
  have F_h132__k_37_ : h132 (k + 37) = .inl (1, 36, .inl wA) := by rw [e_h132, va_up_neq (by omega)]; exact F_h129__k_37_
  have F_h132__k_38_ : h132 (k + 38) = .inl (1, 512, .inl oA) := by rw [e_h132, va_up_neq (by omega)]; exact F_h129__k_38_
  have F_h132__k_39_ : h132 (k + 39) = .inl (1, 512, .inl sA) := by rw [e_h132, va_up_neq (by omega)]; exact F_h129__k_39_
  have F_h132__k_54_ : h132 (k + 54) = .inr (1, [.ref (aBig + 5), .ref (aBig + 6), .int 8, .ref (k + 55), .ref (k + 56), .ref (k + 59), .int 0, .int 0, .int 0, .ref (k + 60), .ref (k + 67), .ref (k + 74), .ref (k + 60), .ref (k + 57), .int 0, .int 0, .int 0, .int 0]) := by rw [e_h132, va_up_neq (by omega)]; exact F_h129__k_54_
  have F_h132__k_55_ : h132 (k + 55) = .inl (1, 2667, .inl (fun _ => 0)) := by rw [e_h132, va_up_neq (by omega)]; exact F_h129__k_55_
  have F_h132__k_56_ : h132 (k + 56) = .inl (1, 2667, .inl (fun _ => 0)) := by rw [e_h132, va_up_neq (by omega)]; exact F_h129__k_56_
  have F_h132__k_57_ : h132 (k + 57) = .inr (7, [.ref (k + 58), .int 0, .int 0, .long 0, .int 0]) := by rw [e_h132, va_up_neq (by omega)]; exact F_h129__k_57_
  have F_h132__k_58_ : h132 (k + 58) = .inl (0, 128, .inl (fun _ => 0)) := by rw [e_h132, va_up_neq (by omega)]; exact F_h129__k_58_
  have F_h132__k_59_ : h132 (k + 59) = .inl (1, 32, .inl (fun _ => 0)) := by rw [e_h132, va_up_neq (by omega)]; exact F_h129__k_59_
  have F_h132__k_67_ : h132 (k + 67) = .inr (8, [.int 31, .ref (k + 68), .ref (k + 69), .ref (k + 70), .ref (k + 71), .ref (k + 72), .ref (k + 73), .int 0, .int 0]) := by rw [e_h132, va_up_neq (by omega)]; exact F_h129__k_67_
  have F_h132__k_68_ : h132 (k + 68) = .inl (1, 32, .inl (fun _ => 0)) := by rw [e_h132, va_up_neq (by omega)]; exact F_h129__k_68_
  have F_h132__k_69_ : h132 (k + 69) = .inl (1, 32, .inl (fun _ => 0)) := by rw [e_h132, va_up_neq (by omega)]; exact F_h129__k_69_
  have F_h132__k_70_ : h132 (k + 70) = .inl (1, 32, .inl (fun _ => 0)) := by rw [e_h132, va_up_neq (by omega)]; exact F_h129__k_70_
  have F_h132__k_71_ : h132 (k + 71) = .inl (1, 32, .inl (fun _ => 0)) := by rw [e_h132, va_up_neq (by omega)]; exact F_h129__k_71_
  have F_h132__k_72_ : h132 (k + 72) = .inl (1, 256, .inl (fun _ => 0)) := by rw [e_h132, va_up_neq (by omega)]; exact F_h129__k_72_
  have F_h132__k_73_ : h132 (k + 73) = .inl (1, 256, .inl (fun _ => 0)) := by rw [e_h132, va_up_neq (by omega)]; exact F_h129__k_73_
  have F_h132__k_74_ : h132 (k + 74) = .inr (8, [.int 31, .ref (k + 75), .ref (k + 76), .ref (k + 77), .ref (k + 78), .ref (k + 79), .ref (k + 80), .int 0, .int 0]) := by rw [e_h132, va_up_neq (by omega)]; exact F_h129__k_74_
  have F_h132__k_75_ : h132 (k + 75) = .inl (1, 32, .inl (fun _ => 0)) := by rw [e_h132, va_up_neq (by omega)]; exact F_h129__k_75_
  have F_h132__k_76_ : h132 (k + 76) = .inl (1, 32, .inl (fun _ => 0)) := by rw [e_h132, va_up_neq (by omega)]; exact F_h129__k_76_
  have F_h132__k_77_ : h132 (k + 77) = .inl (1, 32, .inl (fun _ => 0)) := by rw [e_h132, va_up_neq (by omega)]; exact F_h129__k_77_
  have F_h132__k_78_ : h132 (k + 78) = .inl (1, 32, .inl (fun _ => 0)) := by rw [e_h132, va_up_neq (by omega)]; exact F_h129__k_78_
  have F_h132__k_79_ : h132 (k + 79) = .inl (1, 256, .inl (fun _ => 0)) := by rw [e_h132, va_up_neq (by omega)]; exact F_h129__k_79_
  have F_h132__k_80_ : h132 (k + 80) = .inl (1, 256, .inl (fun _ => 0)) := by rw [e_h132, va_up_neq (by omega)]; exact F_h129__k_80_
  have F_h132__k_60_ : h132 (k + 60) = .inr (8, [.int 31, .ref (k + 61), .ref (k + 62), .ref (k + 63), .ref (k + 64), .ref (k + 65), .ref (k + 66), .int 5, .int 1]) := by rw [e_h132, va_up_neq (by omega)]; exact F_h129__k_60_
  have F_h132__k_61_ : h132 (k + 61) = .inl (1, 32, .inl pB) := by rw [e_h132, va_up_neq (by omega)]; exact F_h129__k_61_
  have F_h132__k_62_ : h132 (k + 62) = .inl (1, 32, .inl (fun _ => 0)) := by rw [e_h132, va_up_neq (by omega)]; exact F_h129__k_62_
  have F_h132__k_63_ : h132 (k + 63) = .inl (1, 32, .inl fB) := by rw [e_h132, va_up_neq (by omega)]; exact F_h129__k_63_
  have F_h132__k_64_ : h132 (k + 64) = .inl (1, 32, .inl wB) := by rw [e_h132, va_up_neq (by omega)]; exact F_h129__k_64_
  have F_h132__k_65_ : h132 (k + 65) = .inl (1, 256, .inl oB) := by rw [e_h132, va_up_neq (by omega)]; exact F_h129__k_65_
  have F_h132__k_66_ : h132 (k + 66) = .inl (1, 256, .inl sB) := by rw [e_h132, va_up_neq (by omega)]; exact F_h129__k_66_
  have F_h132__k_81_ : h132 (k + 81) = .inr (1, [.ref (aBig + 7), .ref (aBig + 8), .int 9, .ref (k + 82), .ref (k + 83), .ref (k + 86), .int 0, .int 0, .int 0, .ref (k + 87), .ref (k + 94), .ref (k + 101), .ref (k + 87), .ref (k + 84), .int 0, .int 0, .int 0, .int 0]) := by rw [e_h132, va_up_neq (by omega)]; exact F_h129__k_81_
  have F_h132__k_82_ : h132 (k + 82) = .inl (1, 2667, .inl (fun _ => 0)) := by rw [e_h132, va_up_neq (by omega)]; exact F_h129__k_82_
  have F_h132__k_83_ : h132 (k + 83) = .inl (1, 2667, .inl (fun _ => 0)) := by rw [e_h132, va_up_neq (by omega)]; exact F_h129__k_83_
  have F_h132__k_84_ : h132 (k + 84) = .inr (7, [.ref (k + 85), .int 0, .int 0, .long 0, .int 0]) := by rw [e_h132, va_up_neq (by omega)]; exact F_h129__k_84_
  have F_h132__k_85_ : h132 (k + 85) = .inl (0, 128, .inl (fun _ => 0)) := by rw [e_h132, va_up_neq (by omega)]; exact F_h129__k_85_
  have F_h132__k_86_ : h132 (k + 86) = .inl (1, 53, .inl (fun _ => 0)) := by rw [e_h132, va_up_neq (by omega)]; exact F_h129__k_86_
  have F_h132__k_87_ : h132 (k + 87) = .inr (8, [.int 52, .ref (k + 88), .ref (k + 89), .ref (k + 90), .ref (k + 91), .ref (k + 92), .ref (k + 93), .int 0, .int 0]) := by rw [e_h132, va_up_neq (by omega)]; exact F_h129__k_87_
  have F_h132__k_88_ : h132 (k + 88) = .inl (1, 53, .inl (fun _ => 0)) := by rw [e_h132, va_up_neq (by omega)]; exact F_h129__k_88_
  have F_h132__k_89_ : h132 (k + 89) = .inl (1, 53, .inl (fun _ => 0)) := by rw [e_h132, va_up_neq (by omega)]; exact F_h129__k_89_
  have F_h132__k_90_ : h132 (k + 90) = .inl (1, 53, .inl (fun _ => 0)) := by rw [e_h132, va_up_neq (by omega)]; exact F_h129__k_90_
  have F_h132__k_91_ : h132 (k + 91) = .inl (1, 53, .inl (fun _ => 0)) := by rw [e_h132, va_up_neq (by omega)]; exact F_h129__k_91_
  have F_h132__k_92_ : h132 (k + 92) = .inl (1, 512, .inl (fun _ => 0)) := by rw [e_h132, va_up_neq (by omega)]; exact F_h129__k_92_
  have F_h132__k_93_ : h132 (k + 93) = .inl (1, 512, .inl (fun _ => 0)) := by rw [e_h132, va_up_neq (by omega)]; exact F_h129__k_93_
  have F_h132__k_94_ : h132 (k + 94) = .inr (8, [.int 52, .ref (k + 95), .ref (k + 96), .ref (k + 97), .ref (k + 98), .ref (k + 99), .ref (k + 100), .int 0, .int 0]) := by rw [e_h132, va_up_neq (by omega)]; exact F_h129__k_94_
  have F_h132__k_95_ : h132 (k + 95) = .inl (1, 53, .inl (fun _ => 0)) := by rw [e_h132, va_up_neq (by omega)]; exact F_h129__k_95_
  have F_h132__k_96_ : h132 (k + 96) = .inl (1, 53, .inl (fun _ => 0)) := by rw [e_h132, va_up_neq (by omega)]; exact F_h129__k_96_
  have F_h132__k_97_ : h132 (k + 97) = .inl (1, 53, .inl (fun _ => 0)) := by rw [e_h132, va_up_neq (by omega)]; exact F_h129__k_97_
  have F_h132__k_98_ : h132 (k + 98) = .inl (1, 53, .inl (fun _ => 0)) := by rw [e_h132, va_up_neq (by omega)]; exact F_h129__k_98_
  have F_h132__k_99_ : h132 (k + 99) = .inl (1, 512, .inl (fun _ => 0)) := by rw [e_h132, va_up_neq (by omega)]; exact F_h129__k_99_
  have F_h132__k_100_ : h132 (k + 100) = .inl (1, 512, .inl (fun _ => 0)) := by rw [e_h132, va_up_neq (by omega)]; exact F_h129__k_100_
  have F_h132__k_101_ : h132 (k + 101) = .inr (8, [.int 52, .ref (k + 102), .ref (k + 103), .ref (k + 104), .ref (k + 105), .ref (k + 106), .ref (k + 107), .int 0, .int 0]) := by rw [e_h132, va_up_neq (by omega)]; exact F_h129__k_101_
  have F_h132__k_102_ : h132 (k + 102) = .inl (1, 53, .inl (fun _ => 0)) := by rw [e_h132, va_up_neq (by omega)]; exact F_h129__k_102_
  have F_h132__k_103_ : h132 (k + 103) = .inl (1, 53, .inl (fun _ => 0)) := by rw [e_h132, va_up_neq (by omega)]; exact F_h129__k_103_
  have F_h132__k_104_ : h132 (k + 104) = .inl (1, 53, .inl (fun _ => 0)) := by rw [e_h132, va_up_neq (by omega)]; exact F_h129__k_104_
  have F_h132__k_105_ : h132 (k + 105) = .inl (1, 53, .inl (fun _ => 0)) := by rw [e_h132, va_up_neq (by omega)]; exact F_h129__k_105_
  have F_h132__k_106_ : h132 (k + 106) = .inl (1, 512, .inl (fun _ => 0)) := by rw [e_h132, va_up_neq (by omega)]; exact F_h129__k_106_
  have F_h132__k_107_ : h132 (k + 107) = .inl (1, 512, .inl (fun _ => 0)) := by rw [e_h132, va_up_neq (by omega)]; exact F_h129__k_107_
  have FR_h132 : ∀ j, j < k ∨ aBig ≤ j → h132 j = h j := fun j hj => by rw [e_h132]; exact (va_up_neq (by omega)).trans (FR_h129 j hj)
  refine WX.s1 rfl rfl ?_
  refine WX.get1 (fs := [.ref (k + 1), .ref (k + 8), .ref (k + 27), .ref (k + 54), .ref (k + 81), .ref (k + 5), .ref (k + 6), .int 0, .ref (k + 7)]) rfl (by omega) (F_h132_k) rfl ?_
  refine WX.s1 rfl rfl ?_
  refine WX.s1 rfl rfl ?_
  refine WX.callC (vs := [.ref (k + 81), .ref (aBig + 2), .int 6]) rfl rfl rfl (Nat.le_of_ble_eq_true rfl) (rcv_ok (by omega) F_h132__k_81_) ?_
  refine w_know (k := k + 87) (l := 52) (M := 512) (L := 6) (j := 2) (by omega) F_h132__k_81_ rfl (by omega) (by have := hbig; omega) ⟨F_h132__k_87_, F_h132__k_88_, F_h132__k_89_, F_h132__k_90_, F_h132__k_91_, F_h132__k_92_, F_h132__k_93_⟩ (by decide) (by decide) (by decide) (by decide) (fun _ _ => ⟨0, Nat.zero_le _, rfl⟩) (by decide) ((FR_h132 _ (Or.inr (Nat.le_add_right _ _))).trans K2) hK2 kb2 (fun h144 pC fC wC oC sC fr144 A144 hp144 => ?_)
  have F_h144_k : h144 k = .inr (6, [.ref (k + 1), .ref (k + 8), .ref (k + 27), .ref (k + 54), .ref (k + 81), .ref (k + 5), .ref (k + 6), .int 0, .ref (k + 7)]) := (fr144 k (fun z => by have z1 := z.1; have z2 := z.2; omega)).trans F_h132_k
  have F_h144__k_1_ : h144 (k + 1) = .inr (3, [.ref (k + 2), .int 0, .ref (k + 3), .ref (k + 4), .int 0, .int 0, .int 0, .int 0, .int 0, .int 0, .int 0, .int 0, .int 0]) := (fr144 (k + 1) (fun z => by have z1 := z.1; have z2 := z.2; omega)).trans F_h132__k_1_
  have F_h144__k_2_ : h144 (k + 2) = .inl (0, 16000, .inl (fun _ => 0)) := (fr144 (k + 2) (fun z => by have z1 := z.1; have z2 := z.2; omega)).trans F_h132__k_2_
  have F_h144__k_3_ : h144 (k + 3) = .inl (1, 16000, .inl (fun _ => 0)) := (fr144 (k + 3) (fun z => by have z1 := z.1; have z2 := z.2; omega)).trans F_h132__k_3_
  have F_h144__k_4_ : h144 (k + 4) = .inl (1, 4096, .inl (fun _ => 0)) := (fr144 (k + 4) (fun z => by have z1 := z.1; have z2 := z.2; omega)).trans F_h132__k_4_
  have F_h144__k_5_ : h144 (k + 5) = .inl (1, 3, .inl (fun _ => 0)) := (fr144 (k + 5) (fun z => by have z1 := z.1; have z2 := z.2; omega)).trans F_h132__k_5_
  have F_h144__k_6_ : h144 (k + 6) = .inl (1, 3, .inl (fun _ => 0)) := (fr144 (k + 6) (fun z => by have z1 := z.1; have z2 := z.2; omega)).trans F_h132__k_6_
  have F_h144__k_7_ : h144 (k + 7) = .inl (1, 12, .inl (fun _ => 0)) := (fr144 (k + 7) (fun z => by have z1 := z.1; have z2 := z.2; omega)).trans F_h132__k_7_
  have F_h144__k_8_ : h144 (k + 8) = .inr (5, [.ref (k + 9), .ref (k + 10), .int 0, .ref (k + 11), .ref (k + 15), .ref (k + 19), .ref q, .ref (k + 25), .int 0, .int 0, .int 0, .int 0]) := (fr144 (k + 8) (fun z => by have z1 := z.1; have z2 := z.2; omega)).trans F_h132__k_8_
  have F_h144__k_9_ : h144 (k + 9) = .inl (0, 8000, .inl (fun _ => 0)) := (fr144 (k + 9) (fun z => by have z1 := z.1; have z2 := z.2; omega)).trans F_h132__k_9_
  have F_h144__k_10_ : h144 (k + 10) = .inl (1, 256, .inl (fun _ => 0)) := (fr144 (k + 10) (fun z => by have z1 := z.1; have z2 := z.2; omega)).trans F_h132__k_10_
  have F_h144__k_11_ : h144 (k + 11) = .inr (0, [.ref (k + 12), .ref (k + 13), .ref (k + 14), .int 0, .int 0]) := (fr144 (k + 11) (fun z => by have z1 := z.1; have z2 := z.2; omega)).trans F_h132__k_11_
  have F_h144__k_12_ : h144 (k + 12) = .inl (1, 256, .inl (fun _ => 0)) := (fr144 (k + 12) (fun z => by have z1 := z.1; have z2 := z.2; omega)).trans F_h132__k_12_
  have F_h144__k_13_ : h144 (k + 13) = .inl (1, 256, .inl (fun _ => 0)) := (fr144 (k + 13) (fun z => by have z1 := z.1; have z2 := z.2; omega)).trans F_h132__k_13_
  have F_h144__k_14_ : h144 (k + 14) = .inl (1, 13, .inl (fun _ => 0)) := (fr144 (k + 14) (fun z => by have z1 := z.1; have z2 := z.2; omega)).trans F_h132__k_14_
  have F_h144__k_15_ : h144 (k + 15) = .inr (0, [.ref (k + 16), .ref (k + 17), .ref (k + 18), .int 0, .int 0]) := (fr144 (k + 15) (fun z => by have z1 := z.1; have z2 := z.2; omega)).trans F_h132__k_15_
  have F_h144__k_16_ : h144 (k + 16) = .inl (1, 256, .inl (fun _ => 0)) := (fr144 (k + 16) (fun z => by have z1 := z.1; have z2 := z.2; omega)).trans F_h132__k_16_
  have F_h144__k_17_ : h144 (k + 17) = .inl (1, 256, .inl (fun _ => 0)) := (fr144 (k + 17) (fun z => by have z1 := z.1; have z2 := z.2; omega)).trans F_h132__k_17_
  have F_h144__k_18_ : h144 (k + 18) = .inl (1, 13, .inl (fun _ => 0)) := (fr144 (k + 18) (fun z => by have z1 := z.1; have z2 := z.2; omega)).trans F_h132__k_18_
  have F_h144__k_19_ : h144 (k + 19) = .inr (4, [.ref (k + 20), .ref (k + 21), .ref (k + 22), .ref (k + 23), .ref (k + 24)]) := (fr144 (k + 19) (fun z => by have z1 := z.1; have z2 := z.2; omega)).trans F_h132__k_19_
  have F_h144__k_20_ : h144 (k + 20) = .inl (1, 256, .inl (fun _ => 0)) := (fr144 (k + 20) (fun z => by have z1 := z.1; have z2 := z.2; omega)).trans F_h132__k_20_
  have F_h144__k_21_ : h144 (k + 21) = .inl (1, 256, .inl (fun _ => 0)) := (fr144 (k + 21) (fun z => by have z1 := z.1; have z2 := z.2; omega)).trans F_h132__k_21_
  have F_h144__k_22_ : h144 (k + 22) = .inl (1, 512, .inl (fun _ => 0)) := (fr144 (k + 22) (fun z => by have z1 := z.1; have z2 := z.2; omega)).trans F_h132__k_22_
  have F_h144__k_23_ : h144 (k + 23) = .inl (1, 512, .inl (fun _ => 0)) := (fr144 (k + 23) (fun z => by have z1 := z.1; have z2 := z.2; omega)).trans F_h132__k_23_
  have F_h144__k_24_ : h144 (k + 24) = .inl (1, 512, .inl (fun _ => 0)) := (fr144 (k + 24) (fun z => by have z1 := z.1; have z2 := z.2; omega)).trans F_h132__k_24_
  have F_h144__k_25_ : h144 (k + 25) = .inr (7, [.ref (k + 26), .int 0, .int 0, .long 0, .int 0]) := (fr144 (k + 25) (fun z => by have z1 := z.1; have z2 := z.2; omega)).trans F_h132__k_25_
  have F_h144__k_26_ : h144 (k + 26) = .inl (0, 256, .inl (fun _ => 0)) := (fr144 (k + 26) (fun z => by have z1 := z.1; have z2 := z.2; omega)).trans F_h132__k_26_
  have F_h144__k_27_ : h144 (k + 27) = .inr (1, [.ref (aBig + 3), .ref (aBig + 4), .int 9, .ref (k + 28), .ref (k + 29), .ref (k + 32), .int 0, .int 0, .int 0, .ref (k + 33), .ref (k + 40), .ref (k + 47), .ref (k + 33), .ref (k + 30), .int 0, .int 0, .int 0, .int 0]) := (fr144 (k + 27) (fun z => by have z1 := z.1; have z2 := z.2; omega)).trans F_h132__k_27_
  have F_h144__k_28_ : h144 (k + 28) = .inl (1, 2667, .inl (fun _ => 0)) := (fr144 (k + 28) (fun z => by have z1 := z.1; have z2 := z.2; omega)).trans F_h132__k_28_
  have F_h144__k_29_ : h144 (k + 29) = .inl (1, 2667, .inl (fun _ => 0)) := (fr144 (k + 29) (fun z => by have z1 := z.1; have z2 := z.2; omega)).trans F_h132__k_29_
  have F_h144__k_30_ : h144 (k + 30) = .inr (7, [.ref (k + 31), .int 0, .int 0, .long 0, .int 0]) := (fr144 (k + 30) (fun z => by have z1 := z.1; have z2 := z.2; omega)).trans F_h132__k_30_
  have F_h144__k_31_ : h144 (k + 31) = .inl (0, 128, .inl (fun _ => 0)) := (fr144 (k + 31) (fun z => by have z1 := z.1; have z2 := z.2; omega)).trans F_h132__k_31_
  have F_h144__k_32_ : h144 (k + 32) = .inl (1, 36, .inl (fun _ => 0)) := (fr144 (k + 32) (fun z => by have z1 := z.1; have z2 := z.2; omega)).trans F_h132__k_32_
  have F_h144__k_40_ : h144 (k + 40) = .inr (8, [.int 35, .ref (k + 41), .ref (k + 42), .ref (k + 43), .ref (k + 44), .ref (k + 45), .ref (k + 46), .int 0, .int 0]) := (fr144 (k + 40) (fun z => by have z1 := z.1; have z2 := z.2; omega)).trans F_h132__k_40_
  have F_h144__k_41_ : h144 (k + 41) = .inl (1, 36, .inl (fun _ => 0)) := (fr144 (k + 41) (fun z => by have z1 := z.1; have z2 := z.2; omega)).trans F_h132__k_41_
  have F_h144__k_42_ : h144 (k + 42) = .inl (1, 36, .inl (fun _ => 0)) := (fr144 (k + 42) (fun z => by have z1 := z.1; have z2 := z.2; omega)).trans F_h132__k_42_
  have F_h144__k_43_ : h144 (k + 43) = .inl (1, 36, .inl (fun _ => 0)) := (fr144 (k + 43) (fun z => by have z1 := z.1; have z2 := z.2; omega)).trans F_h132__k_43_
  have F_h144__k_44_ : h144 (k + 44) = .inl (1, 36, .inl (fun _ => 0)) := (fr144 (k + 44) (fun z => by have z1 := z.1; have z2 := z.2; omega)).trans F_h132__k_44_
  have F_h144__k_45_ : h144 (k + 45) = .inl (1, 512, .inl (fun _ => 0)) := (fr144 (k + 45) (fun z => by have z1 := z.1; have z2 := z.2; omega)).trans F_h132__k_45_
  have F_h144__k_46_ : h144 (k + 46) = .inl (1, 512, .inl (fun _ => 0)) := (fr144 (k + 46) (fun z => by have z1 := z.1; have z2 := z.2; omega)).trans F_h132__k_46_
  have F_h144__k_47_ : h144 (k + 47) = .inr (8, [.int 35, .ref (k + 48), .ref (k + 49), .ref (k + 50), .ref (k + 51), .ref (k + 52), .ref (k + 53), .int 0, .int 0]) := (fr144 (k + 47) (fun z => by have z1 := z.1; have z2 := z.2; omega)).trans F_h132__k_47_
  have F_h144__k_48_ : h144 (k + 48) = .inl (1, 36, .inl (fun _ => 0)) := (fr144 (k + 48) (fun z => by have z1 := z.1; have z2 := z.2; omega)).trans F_h132__k_48_
  have F_h144__k_49_ : h144 (k + 49) = .inl (1, 36, .inl (fun _ => 0)) := (fr144 (k + 49) (fun z => by have z1 := z.1; have z2 := z.2; omega)).trans F_h132__k_49_
  have F_h144__k_50_ : h144 (k + 50) = .inl (1, 36, .inl (fun _ => 0)) := (fr144 (k + 50) (fun z => by have z1 := z.1; have z2 := z.2; omega)).trans F_h132__k_50_
  have F_h144__k_51_ : h144 (k + 51) = .inl (1, 36, .inl (fun _ => 0)) := (fr144 (k + 51) (fun z => by have z1 := z.1; have z2 := z.2; omega)).trans F_h132__k_51_
  have F_h144__k_52_ : h144 (k + 52) = .inl (1, 512, .inl (fun _ => 0)) := (fr144 (k + 52) (fun z => by have z1 := z.1; have z2 := z.2; omega)).trans F_h132__k_52_
  have F_h144__k_53_ : h144 (k + 53) = .inl (1, 512, .inl (fun _ => 0)) := (fr144 (k + 53) (fun z => by have z1 := z.1; have z2 := z.2; omega)).trans F_h132__k_53_
  have F_h144__k_33_ : h144 (k + 33) = .inr (8, [.int 35, .ref (k + 34), .ref (k + 35), .ref (k + 36), .ref (k + 37), .ref (k + 38), .ref (k + 39), .int 6, .int 1]) := (fr144 (k + 33) (fun z => by have z1 := z.1; have z2 := z.2; omega)).trans F_h132__k_33_
  have F_h144__k_34_ : h144 (k + 34) = .inl (1, 36, .inl pA) := (fr144 (k + 34) (fun z => by have z1 := z.1; have z2 := z.2; omega)).trans F_h132__k_34_
  have F_h144__k_35_ : h144 (k + 35) = .inl (1, 36, .inl (fun _ => 0)) := (fr144 (k + 35) (fun z => by have z1 := z.1; have z2 := z.2; omega)).trans F_h132__k_35_
  have F_h144__k_36_ : h144 (k + 36) = .inl (1, 36, .inl fA) := (fr144 (k + 36) (fun z => by have z1 := z.1; have z2 := z.2; omega)).trans F_h132__k_36_
  have F_h144__k_37_ : h144 (k + 37) = .inl (1, 36, .inl wA) := (fr144 (k + 37) (fun z => by have z1 := z.1; have z2 := z.2; omega)).trans F_h132__k_37_
  have F_h144__k_38_ : h144 (k + 38) = .inl (1, 512, .inl oA) := (fr144 (k + 38) (fun z => by have z1 := z.1; have z2 := z.2; omega)).trans F_h132__k_38_
  have F_h144__k_39_ : h144 (k + 39) = .inl (1, 512, .inl sA) := (fr144 (k + 39) (fun z => by have z1 := z.1; have z2 := z.2; omega)).trans F_h132__k_39_
  have F_h144__k_54_ : h144 (k + 54) = .inr (1, [.ref (aBig + 5), .ref (aBig + 6), .int 8, .ref (k + 55), .ref (k + 56), .ref (k + 59), .int 0, .int 0, .int 0, .ref (k + 60), .ref (k + 67), .ref (k + 74), .ref (k + 60), .ref (k + 57), .int 0, .int 0, .int 0, .int 0]) := (fr144 (k + 54) (fun z => by have z1 := z.1; have z2 := z.2; omega)).trans F_h132__k_54_
  have F_h144__k_55_ : h144 (k + 55) = .inl (1, 2667, .inl (fun _ => 0)) := (fr144 (k + 55) (fun z => by have z1 := z.1; have z2 := z.2; omega)).trans F_h132__k_55_
  have F_h144__k_56_ : h144 (k + 56) = .inl (1, 2667, .inl (fun _ => 0)) := (fr144 (k + 56) (fun z => by have z1 := z.1; have z2 := z.2; omega)).trans F_h132__k_56_
  have F_h144__k_57_ : h144 (k + 57) = .inr (7, [.ref (k + 58), .int 0, .int 0, .long 0, .int 0]) := (fr144 (k + 57) (fun z => by have z1 := z.1; have z2 := z.2; omega)).trans F_h132__k_57_
  have F_h144__k_58_ : h144 (k + 58) = .inl (0, 128, .inl (fun _ => 0)) := (fr144 (k + 58) (fun z => by have z1 := z.1; have z2 := z.2; omega)).trans F_h132__k_58_
  have F_h144__k_59_ : h144 (k + 59) = .inl (1, 32, .inl (fun _ => 0)) := (fr144 (k + 59) (fun z => by have z1 := z.1; have z2 := z.2; omega)).trans F_h132__k_59_
  have F_h144__k_67_ : h144 (k + 67) = .inr (8, [.int 31, .ref (k + 68), .ref (k + 69), .ref (k + 70), .ref (k + 71), .ref (k + 72), .ref (k + 73), .int 0, .int 0]) := (fr144 (k + 67) (fun z => by have z1 := z.1; have z2 := z.2; omega)).trans F_h132__k_67_
  have F_h144__k_68_ : h144 (k + 68) = .inl (1, 32, .inl (fun _ => 0)) := (fr144 (k + 68) (fun z => by have z1 := z.1; have z2 := z.2; omega)).trans F_h132__k_68_
  have F_h144__k_69_ : h144 (k + 69) = .inl (1, 32, .inl (fun _ => 0)) := (fr144 (k + 69) (fun z => by have z1 := z.1; have z2 := z.2; omega)).trans F_h132__k_69_
  have F_h144__k_70_ : h144 (k + 70) = .inl (1, 32, .inl (fun _ => 0)) := (fr144 (k + 70) (fun z => by have z1 := z.1; have z2 := z.2; omega)).trans F_h132__k_70_
  have F_h144__k_71_ : h144 (k + 71) = .inl (1, 32, .inl (fun _ => 0)) := (fr144 (k + 71) (fun z => by have z1 := z.1; have z2 := z.2; omega)).trans F_h132__k_71_
  have F_h144__k_72_ : h144 (k + 72) = .inl (1, 256, .inl (fun _ => 0)) := (fr144 (k + 72) (fun z => by have z1 := z.1; have z2 := z.2; omega)).trans F_h132__k_72_
  have F_h144__k_73_ : h144 (k + 73) = .inl (1, 256, .inl (fun _ => 0)) := (fr144 (k + 73) (fun z => by have z1 := z.1; have z2 := z.2; omega)).trans F_h132__k_73_
  have F_h144__k_74_ : h144 (k + 74) = .inr (8, [.int 31, .ref (k + 75), .ref (k + 76), .ref (k + 77), .ref (k + 78), .ref (k + 79), .ref (k + 80), .int 0, .int 0]) := (fr144 (k + 74) (fun z => by have z1 := z.1; have z2 := z.2; omega)).trans F_h132__k_74_
  have F_h144__k_75_ : h144 (k + 75) = .inl (1, 32, .inl (fun _ => 0)) := (fr144 (k + 75) (fun z => by have z1 := z.1; have z2 := z.2; omega)).trans F_h132__k_75_
  have F_h144__k_76_ : h144 (k + 76) = .inl (1, 32, .inl (fun _ => 0)) := (fr144 (k + 76) (fun z => by have z1 := z.1; have z2 := z.2; omega)).trans F_h132__k_76_
  have F_h144__k_77_ : h144 (k + 77) = .inl (1, 32, .inl (fun _ => 0)) := (fr144 (k + 77) (fun z => by have z1 := z.1; have z2 := z.2; omega)).trans F_h132__k_77_
  have F_h144__k_78_ : h144 (k + 78) = .inl (1, 32, .inl (fun _ => 0)) := (fr144 (k + 78) (fun z => by have z1 := z.1; have z2 := z.2; omega)).trans F_h132__k_78_
  have F_h144__k_79_ : h144 (k + 79) = .inl (1, 256, .inl (fun _ => 0)) := (fr144 (k + 79) (fun z => by have z1 := z.1; have z2 := z.2; omega)).trans F_h132__k_79_
  have F_h144__k_80_ : h144 (k + 80) = .inl (1, 256, .inl (fun _ => 0)) := (fr144 (k + 80) (fun z => by have z1 := z.1; have z2 := z.2; omega)).trans F_h132__k_80_
  have F_h144__k_60_ : h144 (k + 60) = .inr (8, [.int 31, .ref (k + 61), .ref (k + 62), .ref (k + 63), .ref (k + 64), .ref (k + 65), .ref (k + 66), .int 5, .int 1]) := (fr144 (k + 60) (fun z => by have z1 := z.1; have z2 := z.2; omega)).trans F_h132__k_60_
  have F_h144__k_61_ : h144 (k + 61) = .inl (1, 32, .inl pB) := (fr144 (k + 61) (fun z => by have z1 := z.1; have z2 := z.2; omega)).trans F_h132__k_61_
  have F_h144__k_62_ : h144 (k + 62) = .inl (1, 32, .inl (fun _ => 0)) := (fr144 (k + 62) (fun z => by have z1 := z.1; have z2 := z.2; omega)).trans F_h132__k_62_
  have F_h144__k_63_ : h144 (k + 63) = .inl (1, 32, .inl fB) := (fr144 (k + 63) (fun z => by have z1 := z.1; have z2 := z.2; omega)).trans F_h132__k_63_
  have F_h144__k_64_ : h144 (k + 64) = .inl (1, 32, .inl wB) := (fr144 (k + 64) (fun z => by have z1 := z.1; have z2 := z.2; omega)).trans F_h132__k_64_
  have F_h144__k_65_ : h144 (k + 65) = .inl (1, 256, .inl oB) := (fr144 (k + 65) (fun z => by have z1 := z.1; have z2 := z.2; omega)).trans F_h132__k_65_
  have F_h144__k_66_ : h144 (k + 66) = .inl (1, 256, .inl sB) := (fr144 (k + 66) (fun z => by have z1 := z.1; have z2 := z.2; omega)).trans F_h132__k_66_
  have F_h144__k_81_ : h144 (k + 81) = .inr (1, [.ref (aBig + 7), .ref (aBig + 8), .int 9, .ref (k + 82), .ref (k + 83), .ref (k + 86), .int 0, .int 0, .int 0, .ref (k + 87), .ref (k + 94), .ref (k + 101), .ref (k + 87), .ref (k + 84), .int 0, .int 0, .int 0, .int 0]) := (fr144 (k + 81) (fun z => by have z1 := z.1; have z2 := z.2; omega)).trans F_h132__k_81_
  have F_h144__k_82_ : h144 (k + 82) = .inl (1, 2667, .inl (fun _ => 0)) := (fr144 (k + 82) (fun z => by have z1 := z.1; have z2 := z.2; omega)).trans F_h132__k_82_
  have F_h144__k_83_ : h144 (k + 83) = .inl (1, 2667, .inl (fun _ => 0)) := (fr144 (k + 83) (fun z => by have z1 := z.1; have z2 := z.2; omega)).trans F_h132__k_83_
  have F_h144__k_84_ : h144 (k + 84) = .inr (7, [.ref (k + 85), .int 0, .int 0, .long 0, .int 0]) := (fr144 (k + 84) (fun z => by have z1 := z.1; have z2 := z.2; omega)).trans F_h132__k_84_
  have F_h144__k_85_ : h144 (k + 85) = .inl (0, 128, .inl (fun _ => 0)) := (fr144 (k + 85) (fun z => by have z1 := z.1; have z2 := z.2; omega)).trans F_h132__k_85_
  have F_h144__k_86_ : h144 (k + 86) = .inl (1, 53, .inl (fun _ => 0)) := (fr144 (k + 86) (fun z => by have z1 := z.1; have z2 := z.2; omega)).trans F_h132__k_86_
  have F_h144__k_94_ : h144 (k + 94) = .inr (8, [.int 52, .ref (k + 95), .ref (k + 96), .ref (k + 97), .ref (k + 98), .ref (k + 99), .ref (k + 100), .int 0, .int 0]) := (fr144 (k + 94) (fun z => by have z1 := z.1; have z2 := z.2; omega)).trans F_h132__k_94_
  have F_h144__k_95_ : h144 (k + 95) = .inl (1, 53, .inl (fun _ => 0)) := (fr144 (k + 95) (fun z => by have z1 := z.1; have z2 := z.2; omega)).trans F_h132__k_95_
  have F_h144__k_96_ : h144 (k + 96) = .inl (1, 53, .inl (fun _ => 0)) := (fr144 (k + 96) (fun z => by have z1 := z.1; have z2 := z.2; omega)).trans F_h132__k_96_
  have F_h144__k_97_ : h144 (k + 97) = .inl (1, 53, .inl (fun _ => 0)) := (fr144 (k + 97) (fun z => by have z1 := z.1; have z2 := z.2; omega)).trans F_h132__k_97_
  have F_h144__k_98_ : h144 (k + 98) = .inl (1, 53, .inl (fun _ => 0)) := (fr144 (k + 98) (fun z => by have z1 := z.1; have z2 := z.2; omega)).trans F_h132__k_98_
  have F_h144__k_99_ : h144 (k + 99) = .inl (1, 512, .inl (fun _ => 0)) := (fr144 (k + 99) (fun z => by have z1 := z.1; have z2 := z.2; omega)).trans F_h132__k_99_
  have F_h144__k_100_ : h144 (k + 100) = .inl (1, 512, .inl (fun _ => 0)) := (fr144 (k + 100) (fun z => by have z1 := z.1; have z2 := z.2; omega)).trans F_h132__k_100_
  have F_h144__k_101_ : h144 (k + 101) = .inr (8, [.int 52, .ref (k + 102), .ref (k + 103), .ref (k + 104), .ref (k + 105), .ref (k + 106), .ref (k + 107), .int 0, .int 0]) := (fr144 (k + 101) (fun z => by have z1 := z.1; have z2 := z.2; omega)).trans F_h132__k_101_
  have F_h144__k_102_ : h144 (k + 102) = .inl (1, 53, .inl (fun _ => 0)) := (fr144 (k + 102) (fun z => by have z1 := z.1; have z2 := z.2; omega)).trans F_h132__k_102_
  have F_h144__k_103_ : h144 (k + 103) = .inl (1, 53, .inl (fun _ => 0)) := (fr144 (k + 103) (fun z => by have z1 := z.1; have z2 := z.2; omega)).trans F_h132__k_103_
  have F_h144__k_104_ : h144 (k + 104) = .inl (1, 53, .inl (fun _ => 0)) := (fr144 (k + 104) (fun z => by have z1 := z.1; have z2 := z.2; omega)).trans F_h132__k_104_
  have F_h144__k_105_ : h144 (k + 105) = .inl (1, 53, .inl (fun _ => 0)) := (fr144 (k + 105) (fun z => by have z1 := z.1; have z2 := z.2; omega)).trans F_h132__k_105_
  have F_h144__k_106_ : h144 (k + 106) = .inl (1, 512, .inl (fun _ => 0)) := (fr144 (k + 106) (fun z => by have z1 := z.1; have z2 := z.2; omega)).trans F_h132__k_106_
  have F_h144__k_107_ : h144 (k + 107) = .inl (1, 512, .inl (fun _ => 0)) := (fr144 (k + 107) (fun z => by have z1 := z.1; have z2 := z.2; omega)).trans F_h132__k_107_
  have F_h144__k_87_ : h144 (k + 87) = .inr (8, [.int 52, .ref (k + 88), .ref (k + 89), .ref (k + 90), .ref (k + 91), .ref (k + 92), .ref (k + 93), .int 6, .int 1]) := A144.1
  have F_h144__k_88_ : h144 (k + 88) = .inl (1, 53, .inl pC) := A144.2.1
  have F_h144__k_89_ : h144 (k + 89) = .inl (1, 53, .inl (fun _ => 0)) := A144.2.2.1
  have F_h144__k_90_ : h144 (k + 90) = .inl (1, 53, .inl fC) := A144.2.2.2.1
  have F_h144__k_91_ : h144 (k + 91) = .inl (1, 53, .inl wC) := A144.2.2.2.2.1
  have F_h144__k_92_ : h144 (k + 92) = .inl (1, 512, .inl oC) := A144.2.2.2.2.2.1
  have F_h144__k_93_ : h144 (k + 93) = .inl (1, 512, .inl sC) := A144.2.2.2.2.2.2
  have FR_h144 : ∀ j, j < k ∨ aBig ≤ j → h144 j = h j := fun j hj => (fr144 j (fun z => by have z1 := z.1; have z2 := z.2; have := hbig; omega)).trans (FR_h132 j hj)
  show WX _ _ _ 147 [(0, .ref k), (1, .ref q)] [] (k + 108, s + 13 + 36096 + 3 + 3 + 12 + 12 + 11630 + 18 + 9034 + 18 + 7446 + 18 + 9255, h144)
  refine WX.ret0 rfl ?_
  exact kk h144 pA fA wA oA sA pB fB wB oB sB pC fC wC oC sC FR_h144 ⟨F_h144_k, F_h144__k_1_, F_h144__k_2_, F_h144__k_3_, F_h144__k_4_, F_h144__k_5_, F_h144__k_6_, F_h144__k_7_, F_h144__k_8_, F_h144__k_9_, F_h144__k_10_, F_h144__k_11_, F_h144__k_12_, F_h144__k_13_, F_h144__k_14_, F_h144__k_15_, F_h144__k_16_, F_h144__k_17_, F_h144__k_18_, F_h144__k_19_, F_h144__k_20_, F_h144__k_21_, F_h144__k_22_, F_h144__k_23_, F_h144__k_24_, F_h144__k_25_, F_h144__k_26_, F_h144__k_27_, F_h144__k_28_, F_h144__k_29_, F_h144__k_30_, F_h144__k_31_, F_h144__k_32_, F_h144__k_33_, F_h144__k_34_, F_h144__k_35_, F_h144__k_36_, F_h144__k_37_, F_h144__k_38_, F_h144__k_39_, F_h144__k_40_, F_h144__k_41_, F_h144__k_42_, F_h144__k_43_, F_h144__k_44_, F_h144__k_45_, F_h144__k_46_, F_h144__k_47_, F_h144__k_48_, F_h144__k_49_, F_h144__k_50_, F_h144__k_51_, F_h144__k_52_, F_h144__k_53_, F_h144__k_54_, F_h144__k_55_, F_h144__k_56_, F_h144__k_57_, F_h144__k_58_, F_h144__k_59_, F_h144__k_60_, F_h144__k_61_, F_h144__k_62_, F_h144__k_63_, F_h144__k_64_, F_h144__k_65_, F_h144__k_66_, F_h144__k_67_, F_h144__k_68_, F_h144__k_69_, F_h144__k_70_, F_h144__k_71_, F_h144__k_72_, F_h144__k_73_, F_h144__k_74_, F_h144__k_75_, F_h144__k_76_, F_h144__k_77_, F_h144__k_78_, F_h144__k_79_, F_h144__k_80_, F_h144__k_81_, F_h144__k_82_, F_h144__k_83_, F_h144__k_84_, F_h144__k_85_, F_h144__k_86_, F_h144__k_87_, F_h144__k_88_, F_h144__k_89_, F_h144__k_90_, F_h144__k_91_, F_h144__k_92_, F_h144__k_93_, F_h144__k_94_, F_h144__k_95_, F_h144__k_96_, F_h144__k_97_, F_h144__k_98_, F_h144__k_99_, F_h144__k_100_, F_h144__k_101_, F_h144__k_102_, F_h144__k_103_, F_h144__k_104_, F_h144__k_105_, F_h144__k_106_, F_h144__k_107_, trivial⟩
