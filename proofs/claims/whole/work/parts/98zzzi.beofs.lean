/-! the known tables: what they hold -/
def KnS (N : Nat) (kn : Nat → Int32) (u : Nat → Nat) (l L : Nat) : Prop := (∀ i, i ≤ l → (if i < N then kn i else 0) = qI (u i) ∧ u i ≤ 100000) ∧ mSum u (l + 1) = 2 ^ L ∧ 5 ≤ L
set_option maxRecDepth 20000 in
theorem w_beOfS {d n s : Nat} {h : Nat → aE} {k l M L j N : Nat} {od th : Int32} {p r f w o so kn : Nat → Int32} {u : Nat → Nat} (hk : k + 6 < n) (hn : n < aBig) (A : ShareAt h k l M od th p r f w o so) (hl : l < 64) (hL : L ≤ 9) (hM : 2 ^ L ≤ M) (hM2 : M < 2 ^ 20) (ob : (∀ j, j < 2 ^ L → ∃ y, y ≤ l ∧ o j = nI y)) (hj : j < 10) (K : h (aBig + j) = .inl (1, N, .inl kn)) (hN : N ≤ l + 1) (kb : KnS N kn u l L) {Ψ : Option Value → aH → Prop} (kk : ∀ h' p' f' w' o' so', Fr h h' (inS k) → ShareAt h' k l M (nI L) 1 p' r f' w' o' so' → TabS l L u p' f' w' o' so' → Ψ none (n, s, h')) : WO (mM (d + 3)) 98 [.ref k, .ref (aBig + j), .int (nI L)] (n, s, h) Ψ := by
  refine WO.of (Nat.le_of_ble_eq_true rfl) ?_
  show WX (lk tX8_beOf) (mM (d + 2)) Ψ 0 [(0, .ref k), (1, .ref (aBig + j)), (2, .int (nI L))] [] (n, s, h)
  obtain ⟨F_h_k, F_h__k_1_, F_h__k_2_, F_h__k_3_, F_h__k_4_, F_h__k_5_, F_h__k_6_⟩ := id A
  refine WX.s1 rfl rfl ?_
  refine WX.get1 (fs := [.int (nI l), .ref (k + 1), .ref (k + 2), .ref (k + 3), .ref (k + 4), .ref (k + 5), .ref (k + 6), .int od, .int th]) rfl (by omega) (F_h_k) rfl ?_
  refine WX.s1 rfl rfl ?_
  refine WX.callC (vs := [.ref (k + 1), .int 0]) rfl rfl rfl (Nat.le_of_ble_eq_true rfl) rfl ?_
  refine w_fill (by omega) F_h__k_1_ (by omega) (fun h2 g2 fr2 F2 hg2 => ?_)
  have A2 : ShareAt h2 k l M od th g2 r f w o so := ⟨(fr2 k (by omega)).trans A.1, F2, (fr2 _ (by omega)).trans A.2.2.1, (fr2 _ (by omega)).trans A.2.2.2.1, (fr2 _ (by omega)).trans A.2.2.2.2.1, (fr2 _ (by omega)).trans A.2.2.2.2.2.1, (fr2 _ (by omega)).trans A.2.2.2.2.2.2⟩
  obtain ⟨F_h2_k, F_h2__k_1_, F_h2__k_2_, F_h2__k_3_, F_h2__k_4_, F_h2__k_5_, F_h2__k_6_⟩ := id A2
  have F_h2__aBig_j_ : h2 (aBig + j) = .inl (1, N, .inl kn) := (fr2 _ (show aBig + j ≠ k + 1 by omega)).trans K
  show WX _ _ _ 8 [(0, .ref k), (1, .ref (aBig + j)), (2, .int (nI L))] [] (n, s, h2)
  refine WX.s1 rfl rfl ?_
  refine WX.s1 rfl rfl ?_
  refine WX.s1 rfl rfl ?_
  refine WX.get1 (fs := [.int (nI l), .ref (k + 1), .ref (k + 2), .ref (k + 3), .ref (k + 4), .ref (k + 5), .ref (k + 6), .int od, .int th]) rfl (by omega) (F_h2_k) rfl ?_
  refine WX.s1 rfl rfl ?_
  refine WX.s1 rfl rfl ?_
  refine WX.len1 rfl (Or.inr ⟨by omega, by omega⟩) (F_h2__aBig_j_) ?_
  refine WX.s1 rfl rfl ?_
  refine WX.get1 (fs := [.int (nI l), .ref (k + 1), .ref (k + 2), .ref (k + 3), .ref (k + 4), .ref (k + 5), .ref (k + 6), .int od, .int th]) rfl (by omega) (F_h2_k) rfl ?_
  refine WX.len1 rfl (Or.inl ⟨by omega, by decide⟩) (F_h2__k_1_) ?_
  refine WX.s1 rfl rfl ?_
  refine WX.copyN rfl (Nat.le_of_ble_eq_true rfl) (Or.inr ⟨by omega, by omega⟩) (F_h2__aBig_j_) (by omega) (F_h2__k_1_) (p := 0) (q := 0) (c := N) rfl rfl (by show (if nI (l + 1) < nI N then nI (l + 1) else nI N) = nI N; exact if_neg (nI_nlt hN (by omega))) (by omega) (by omega) (by omega) (by omega) (fun g25 h25 e_g25 e_h25 => ?_)
  have F_h25_k : h25 k = .inr (8, [.int (nI l), .ref (k + 1), .ref (k + 2), .ref (k + 3), .ref (k + 4), .ref (k + 5), .ref (k + 6), .int od, .int th]) := by rw [e_h25, va_up_neq (nek1 (a := 1) (by decide))]; exact F_h2_k
  have F_h25__k_1_ : h25 (k + 1) = .inl (1, (l + 1), .inl g25) := by rw [e_h25]; exact va_up_eq
  have F_h25__aBig_j_ : h25 (aBig + j) = .inl (1, N, .inl kn) := by rw [e_h25, va_up_neq (by omega)]; exact F_h2__aBig_j_
  refine WX.s1 rfl rfl ?_
  refine WX.s1 rfl rfl ?_
  refine WX.putNI (fs := [.int (nI l), .ref (k + 1), .ref (k + 2), .ref (k + 3), .ref (k + 4), .ref (k + 5), .ref (k + 6), .int od, .int th]) (fs' := fun f30 => [.int (nI l), .ref (k + 1), .ref (k + 2), .ref (k + 3), .ref (k + 4), .ref (k + 5), .ref (k + 6), .int f30, .int th]) rfl (by omega) (F_h25_k) (Nat.le_of_ble_eq_true rfl) (fun _ => rfl) (fun f30 h30 e_f30 e_h30 => ?_)
  try dsimp only at e_f30
  have F_h30_k : h30 k = .inr (8, [.int (nI l), .ref (k + 1), .ref (k + 2), .ref (k + 3), .ref (k + 4), .ref (k + 5), .ref (k + 6), .int f30, .int th]) := by rw [e_h30]; exact va_up_eq
  have F_h30__k_1_ : h30 (k + 1) = .inl (1, (l + 1), .inl g25) := by rw [e_h30, va_up_neq (nek0 (a := 1) (by decide))]; exact F_h25__k_1_
  have F_h30__aBig_j_ : h30 (aBig + j) = .inl (1, N, .inl kn) := by rw [e_h30, va_up_neq (by omega)]; exact F_h25__aBig_j_
  refine WX.s1 rfl rfl ?_
  obtain rfl : f30 = nI L := e_f30
  have A3 : ShareAt h30 k l M (nI L) th g25 r f w o so := (A2.upP e_h25).upH e_h30
  have hp3 : ∀ i, i ≤ l → g25 i = if i < N then kn i else 0 := fun i hi => by
    rw [e_g25]
    by_cases z : i < N
    · rw [if_pos z, pk_cpy_in (Nat.zero_le _) (by omega), Nat.zero_add, Nat.sub_zero]
    · rw [if_neg z, pk_cpy_out (Or.inr (by omega))]; exact hg2 i (by omega)
  refine WX.callC (vs := [.ref k]) rfl rfl rfl (Nat.le_of_ble_eq_true rfl) (rcv_ok (by omega) F_h30_k) ?_
  have hU : UIs g25 u (l + 1) := fun s hs => by
    rw [hp3 s (by omega)]
    exact kb.1 s (by omega)
  refine x_spreadS (d := d) hk hl (Or.inr kb.2.2) hL hM hM2 hU kb.2.1 A3.1 A3.2.1 A3.2.2.2.1 A3.2.2.2.2.1 A3.2.2.2.2.2.1 A3.2.2.2.2.2.2 (fun h4 f4 w4 o4 so4 fr4 e0 e1 e3 e4 e5 e6 t1 t2 t3 t4 => ?_)
  have A4 : ShareAt h4 k l M (nI L) 1 g25 r f4 w4 o4 so4 := ⟨e0, e1, (fr4 (k + 2) (by omega)).trans A3.2.2.1, e3, e4, e5, e6⟩
  show WX _ _ _ 37 [(0, .ref k), (1, .ref (aBig + j)), (2, .int (nI L))] [] (n, s, h4)
  refine WX.ret0 rfl (kk h4 g25 f4 w4 o4 so4 (fun z hz => ?_) A4 ⟨hU, t1, t2, t3, t4, kb.2.1⟩)
  rw [fr4 z (fun q => hz ⟨q.1, q.2.1⟩), e_h30, va_up_neq (fun e => hz ⟨by omega, by omega⟩), e_h25, va_up_neq (fun e => hz ⟨by omega, by omega⟩)]
  exact fr2 z (fun e => hz ⟨by omega, by omega⟩)
theorem w_knowS {d n s : Nat} {h : Nat → aE} {c k l M L j N : Nat} {od th : Int32} {p r f w o so kn : Nat → Int32} {u : Nat → Nat} {fs : List Value} (hc : c < n) (F : h c = .inr (1, fs)) (h9 : fs[9]? = some (.ref k)) (hk : k + 6 < n) (hn : n < aBig) (A : ShareAt h k l M od th p r f w o so) (hl : l < 64) (hL : L ≤ 9) (hM : 2 ^ L ≤ M) (hM2 : M < 2 ^ 20) (ob : ∀ j, j < 2 ^ L → ∃ y, y ≤ l ∧ o j = nI y) (hj : j < 10) (K : h (aBig + j) = .inl (1, N, .inl kn)) (hN : N ≤ l + 1) (kb : KnS N kn u l L) {Ψ : Option Value → aH → Prop} (kk : ∀ h' p' f' w' o' so', Fr h h' (inS k) → ShareAt h' k l M (nI L) 1 p' r f' w' o' so' → TabS l L u p' f' w' o' so' → Ψ none (n, s, h')) : WO (mM (d + 4)) 8 [.ref c, .ref (aBig + j), .int (nI L)] (n, s, h) Ψ := by
  refine WO.of (Nat.le_of_ble_eq_true rfl) ?_
  show WX (lk tX1_know) (mM (d + 3)) Ψ 0 [(0, .ref c), (1, .ref (aBig + j)), (2, .int (nI L))] [] (n, s, h)
  refine WX.s1 rfl rfl ?_
  refine WX.get1 rfl hc F h9 ?_
  refine WX.s1 rfl rfl ?_
  refine WX.s1 rfl rfl ?_
  refine WX.callC (vs := [.ref k, .ref (aBig + j), .int (nI L)]) rfl rfl rfl (Nat.le_of_ble_eq_true rfl) (rcv_ok (by omega) A.1) ?_
  refine w_beOfS hk hn A hl hL hM hM2 ob hj K hN kb (fun h' p' f' w' o' so' fr A' hp => ?_)
  exact WX.ret0 rfl (kk h' p' f' w' o' so' fr A' hp)
