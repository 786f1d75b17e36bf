/-! the law's beginning: both objects made -/
theorem Cells.keep_ {h h2 : Nat → aE} : ∀ (l : List aE) (k : Nat), Cells h k l → (∀ j, k ≤ j → j < k + l.length → h2 j = h j) → Cells h2 k l := by
  intro l
  induction l with
  | nil => intro k _ _; trivial
  | cons a l ih =>
    intro k C q
    refine ⟨(q k (Nat.le_refl _) (by rw [List.length_cons]; omega)).trans C.1, ih (k + 1) C.2 (fun j h1 h2 => q j (by omega) (by rw [List.length_cons]; omega))⟩
set_option maxRecDepth 20000 in
theorem cSP_len (pA fA wA oA sA pB fB wB oB sB pC fC wC oC sC : Nat → Int32) (k : Nat) : (cSP pA fA wA oA sA pB fB wB oB sB pC fC wC oC sC k).length = 190 := rfl
theorem kn_of {N : Nat} {f : Nat → Int32} (h : (List.range N).all (fun i => decide (f i = -1) || (decide ((f i).toNatClampNeg ≤ 1000) && decide (f i = nI (f i).toNatClampNeg))) = true) : knB N f := by
  intro i hi
  have q := List.all_eq_true.mp h i (List.mem_range.mpr hi)
  rw [Bool.or_eq_true, Bool.and_eq_true, decide_eq_true_eq, decide_eq_true_eq, decide_eq_true_eq] at q
  rcases q with q | q
  · exact Or.inl q
  · exact Or.inr ⟨_, q.1, q.2⟩
theorem kn0 (xs : Nat → Int32) : knB 36 (sVal xs 0) := kn_of (f := fun i => (sTab.getD 0 []).getD i 0) (by decide +kernel)
theorem kn1 (xs : Nat → Int32) : knB 29 (sVal xs 1) := kn_of (f := fun i => (sTab.getD 1 []).getD i 0) (by decide +kernel)
theorem kn2 (xs : Nat → Int32) : knB 53 (sVal xs 2) := kn_of (f := fun i => (sTab.getD 2 []).getD i 0) (by decide +kernel)
set_option maxRecDepth 20000 in
theorem law_start {L : Nat} {xs : Nat → Int32} {Ψ : Option Value → aH → Prop} (kk : ∀ (h : Nat → aE) (s : Nat) (pA fA wA oA sA pB fB wB oB sB pC fC wC oC sC : Nat → Int32), s ≤ 400000 → Cells h 0 (cSP pA fA wA oA sA pB fB wB oB sB pC fC wC oC sC 0) → MAt h 190 mI0 (fun _ _ => 0) (fun _ => 0) → (∀ j, aBig ≤ j → h j = (H0 L xs).2.2 j) → WX (lk tLaw) (mM 10) Ψ 18 [(0, .ref (aBig + 9)), (1, .ref 0), (2, .ref 190), (3, .int 0)] [] (234, s, h)) : WX (lk tLaw) (mM 10) Ψ 0 [(0, .ref (aBig + 9))] [] (H0 L xs) := by
  unfold H0 at kk ⊢
  have hB : aBig = 1000000 := rfl
  refine WX.newN rfl (by decide) (fun h1 e1 => ?_)
  refine WX.s1 rfl rfl ?_
  have F1 : h1 0 = .inr (10, zX11) := by rw [e1]; exact va_up_eq
  have S1 : ∀ j, aBig ≤ j → h1 j = .inl (1, sLen L (j - aBig), .inl (sVal xs (j - aBig))) := fun j hj => by rw [e1]; exact va_up_neq (show j ≠ 0 by omega)
  have K0 : h1 (aBig + 0) = .inl (1, 36, .inl (sVal xs 0)) := by
    rw [S1 _ (Nat.le_add_right _ _), Nat.add_sub_cancel_left]
    rfl
  have K1 : h1 (aBig + 1) = .inl (1, 29, .inl (sVal xs 1)) := by
    rw [S1 _ (Nat.le_add_right _ _), Nat.add_sub_cancel_left]
    rfl
  have K2 : h1 (aBig + 2) = .inl (1, 53, .inl (sVal xs 2)) := by
    rw [S1 _ (Nat.le_add_right _ _), Nat.add_sub_cancel_left]
    rfl
  refine WX.callC (vs := [.ref 0]) rfl rfl rfl (Nat.le_of_ble_eq_true rfl) (rcv_ok (by decide) F1) ?_
  refine n_sp (k := 0) (by decide) F1 (N0 := 36) (kn0 := sVal xs 0) K0 (by decide) (kn0 xs) (N1 := 29) (kn1 := sVal xs 1) K1 (by decide) (kn1 xs) (N2 := 53) (kn2 := sVal xs 2) K2 (by decide) (kn2 xs) (fun h2 pA fA wA oA sA pB fB wB oB sB pC fC wC oC sC fr2 C2 => ?_)
  show WX _ _ _ 7 [(0, .ref (aBig + 9))] [.ref 0] (190, _, h2)
  refine WX.asN (L' := [(0, .ref (aBig + 9)), (1, .ref 0)]) rfl rfl ?_
  refine WX.newN rfl (by decide) (fun h3 e3 => ?_)
  refine WX.s1 rfl rfl ?_
  have F3 : h3 190 = .inr (11, zX12) := by rw [e3]; exact va_up_eq
  refine WX.callC (vs := [.ref 190]) rfl rfl rfl (Nat.le_of_ble_eq_true rfl) (rcv_ok (by decide) F3) ?_
  refine n_model (k := 190) (by decide) F3 (fun h4 fr4 o4 B4 => ?_)
  show WX _ _ _ 15 [(0, .ref (aBig + 9)), (1, .ref 0)] [.ref 190] (234, _, h4)
  refine WX.asN (L' := [(0, .ref (aBig + 9)), (1, .ref 0), (2, .ref 190)]) rfl rfl ?_
  refine WX.s1 rfl rfl ?_
  refine WX.isN (L' := fun x => [(0, .ref (aBig + 9)), (1, .ref 0), (2, .ref 190), (3, .int x)]) rfl (fun _ => rfl) (fun x ex => ?_)
  subst ex
  have e4 : ∀ j, j < 190 → h4 j = h2 j := fun j hj => by
    rw [fr4 j (Or.inl hj), e3]
    exact va_up_neq (show j ≠ 190 by omega)
  have C4 : Cells h4 0 (cSP pA fA wA oA sA pB fB wB oB sB pC fC wC oC sC 0) := Cells.keep_ _ 0 C2 (fun j _ h2 => e4 j (by rw [cSP_len] at h2; omega))
  have S4 : ∀ j, aBig ≤ j → h4 j = .inl (1, sLen L (j - aBig), .inl (sVal xs (j - aBig))) := fun j hj => by
    rw [fr4 j (Or.inr hj), e3]
    exact (va_up_neq (show j ≠ 190 by omega)).trans ((fr2 j (Or.inr hj)).trans (S1 j hj))
  exact kk h4 _ pA fA wA oA sA pB fB wB oB sB pC fC wC oC sC (Nat.le_of_ble_eq_true rfl) C4 (MAt.of o4 B4) S4
