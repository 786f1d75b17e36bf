/-! codes and shares become others; the knots' codes -/
theorem min_self {x : Int32} : (if x < x then x else x) = x := by split <;> rfl
theorem nI_min2 {a b : Nat} (ha : a < 2 ^ 31) (hb : b < 2 ^ 31) (h : a ≤ b) : (if nI b < nI a then nI b else nI a) = nI a := if_neg (fun z => absurd ((nI_ltI hb ha).mp z) (by omega))
def Two (c : Nat → Nat) : Prop := ∃ a b, a < 256 ∧ b < 256 ∧ a ≠ b ∧ c a ≠ 0 ∧ c b ≠ 0
theorem Two.hv {c : Nat → Nat} (h : Two c) : Two (hvF c) := by
  obtain ⟨a, b, h1, h2, h3, h4, h5⟩ := h
  exact ⟨a, b, h1, h2, h3, by show (c a + 1) / 2 ≠ 0; omega, by show (c b + 1) / 2 ≠ 0; omega⟩
theorem Two.nn {c sy : Nat → Nat} {nn : Nat} (h : Two c) (S : SortI c sy nn 256) : 2 ≤ nn := by
  obtain ⟨a, b, h1, h2, h3, h4, h5⟩ := h
  obtain ⟨p, p1, p2⟩ := S.2.2.1 a h1 h4
  obtain ⟨q, q1, q2⟩ := S.2.2.1 b h2 h5
  have : p ≠ q := fun z => h3 (by rw [← p2, ← q2, z])
  omega
theorem top_pos {c : Nat → Nat} (h : Two c) : 1 ≤ topF c := by
  obtain ⟨a, b, h1, h2, h3, h4, h5⟩ := h
  have hz : twoK (tN c 0) ≠ 0 := fun z => by
    have q : IsL (tN c 0).2.1 (tN c 0).2.2 (oneK (tN c 0)) 256 (twoK (tN c 0)) := lsK_is _ _ _ _
    rw [z] at q
    rcases q with ⟨-, q⟩ | ⟨q, -⟩
    · by_cases e : a + 1 = oneK (tN c 0)
      · exact q b h2 ⟨by omega, h5, rfl⟩
      · exact q a h1 ⟨e, h4, rfl⟩
    · omega
  obtain ⟨o1, o2, w1, w2, hne, of, op, wf, wp, -⟩ := two_ok hz
  have o2 : oneK (tN c 0) ≤ 256 := o2
  have e : (tN c 1).2.2 (oneK (tN c 0) - 1) = 257 := by
    show (tS (tN c 0)).2.2 _ = _
    unfold tS
    rw [if_neg hz]
    show updN (updN (updN _ 256 0) _ 257) _ 257 _ = 257
    rw [updN_n (by omega), updN_s]
  have k := tN_keep (show (tN c 1).2.2 (oneK (tN c 0) - 1) ≠ 0 by omega) 255
  rw [e, show 1 + 255 = 256 from rfl] at k
  have d : 1 ≤ dF c (oneK (tN c 0) - 1) := by
    unfold dF
    rw [show (512 : Nat) = 511 + 1 from rfl, dp_s (by omega)]
    omega
  exact Nat.le_trans d (mxK_ge (by omega))
def KnX (h : Nat → aE) : Prop := h 100 = .inr (4, [.ref 101, .ref 102, .ref 103, .ref 104, .ref 105]) ∧ ∃ cA yA sA oA dA : Nat → Int32, h 101 = .inl (1, 256, .inl cA) ∧ h 102 = .inl (1, 256, .inl yA) ∧ h 103 = .inl (1, 512, .inl sA) ∧ h 104 = .inl (1, 512, .inl oA) ∧ h 105 = .inl (1, 512, .inl dA)
theorem KnX.zfr {h h1 : Nat → aE} {A : Nat → Prop} (r : KnX h) (f : Fr h h1 A) (q : ∀ j, 100 ≤ j → j ≤ 105 → ¬ A j) : KnX h1 := by
  obtain ⟨r0, a, b, c, d, e, r1, r2, r3, r4, r5⟩ := r
  exact ⟨(f _ (q _ (by decide) (by decide))).trans r0, a, b, c, d, e, (f _ (q _ (by decide) (by decide))).trans r1, (f _ (q _ (by decide) (by decide))).trans r2, (f _ (q _ (by decide) (by decide))).trans r3, (f _ (q _ (by decide) (by decide))).trans r4, (f _ (q _ (by decide) (by decide))).trans r5⟩
set_option maxRecDepth 20000 in
theorem x_cbecS {d n s : Nat} {h : Nat → aE} {k q : Nat} {tk hk_ tq : Int32} {lA cA eA lB cB eB : Nat → Int32}  (hk : k + 3 < n) (hq : q + 3 < n) (hkq : k + 3 < q ∨ q + 3 < k) (F_h_k : h k = .inr (0, [.ref (k + 1), .ref (k + 2), .ref (k + 3), .int tk, .int hk_])) (F_h__k_1_ : h (k + 1) = .inl (1, 256, .inl lA)) (F_h__k_2_ : h (k + 2) = .inl (1, 256, .inl cA)) (F_h__k_3_ : h (k + 3) = .inl (1, 13, .inl eA)) (F_h_q : h q = .inr (0, [.ref (q + 1), .ref (q + 2), .ref (q + 3), .int tq, .int 1])) (F_h__q_1_ : h (q + 1) = .inl (1, 256, .inl lB)) (F_h__q_2_ : h (q + 2) = .inl (1, 256, .inl cB)) (F_h__q_3_ : h (q + 3) = .inl (1, 13, .inl eB))  {Ψ : Option Value → aH → Prop} (kk : ∀ h', Fr h h' (fun j => k ≤ j ∧ j ≤ k + 3) → (∃ lC cC eC, CoA h' k tq 1 lC cC eC ∧ (∀ s, s < 256 → lC s = lB s) ∧ ∀ s, s < 256 → cC s = cB s) → Ψ none (n, s, h')) : WO (mM (d + 1)) 1 [.ref k, .ref q] (n, s, h) Ψ := by
  refine WO.of (Nat.le_of_ble_eq_true rfl) ?_
  have FR_h : Fr h h (fun j => k ≤ j ∧ j ≤ k + 3) := Fr.rf
  show WX (lk tX0_become) (mM d) Ψ 0 [(0, .ref k), (1, .ref q)] [] (n, s, h)
  refine WX.s1 rfl rfl ?_
  refine WX.s1 rfl rfl ?_
  refine WX.get1 (fs := [.ref (q + 1), .ref (q + 2), .ref (q + 3), .int tq, .int 1]) rfl (by omega) (F_h_q) rfl ?_
  refine WX.put1 (fs := [.ref (k + 1), .ref (k + 2), .ref (k + 3), .int tk, .int hk_]) (fs' := [.ref (k + 1), .ref (k + 2), .ref (k + 3), .int tk, .int 1]) rfl (by omega) (F_h_k) (Nat.le_of_ble_eq_true rfl) (rfl) rfl (fun h5 e_h5 => ?_)
  have F_h5_k : h5 k = .inr (0, [.ref (k + 1), .ref (k + 2), .ref (k + 3), .int tk, .int 1]) := by rw [e_h5]; exact va_up_eq
  have F_h5__k_1_ : h5 (k + 1) = .inl (1, 256, .inl lA) := by rw [e_h5, va_up_neq (nek0 (a := 1) (by decide))]; exact F_h__k_1_
  have F_h5__k_2_ : h5 (k + 2) = .inl (1, 256, .inl cA) := by rw [e_h5, va_up_neq (nek0 (a := 2) (by decide))]; exact F_h__k_2_
  have F_h5__k_3_ : h5 (k + 3) = .inl (1, 13, .inl eA) := by rw [e_h5, va_up_neq (nek0 (a := 3) (by decide))]; exact F_h__k_3_
  have F_h5_q : h5 q = .inr (0, [.ref (q + 1), .ref (q + 2), .ref (q + 3), .int tq, .int 1]) := by rw [e_h5, va_up_neq (by omega)]; exact F_h_q
  have F_h5__q_1_ : h5 (q + 1) = .inl (1, 256, .inl lB) := by rw [e_h5, va_up_neq (by omega)]; exact F_h__q_1_
  have F_h5__q_2_ : h5 (q + 2) = .inl (1, 256, .inl cB) := by rw [e_h5, va_up_neq (by omega)]; exact F_h__q_2_
  have F_h5__q_3_ : h5 (q + 3) = .inl (1, 13, .inl eB) := by rw [e_h5, va_up_neq (by omega)]; exact F_h__q_3_
  have FR_h5 : Fr h h5 (fun j => k ≤ j ∧ j ≤ k + 3) := FR_h.zup e_h5 (by first | exact rfl | exact Or.inl rfl | exact Or.inr rfl | exact ⟨by decide, by decide⟩ | decide | omega)
  clear F_h_k F_h__k_1_ F_h__k_2_ F_h__k_3_ F_h_q F_h__q_1_ F_h__q_2_ F_h__q_3_ FR_h e_h5
  refine WX.s1 rfl rfl ?_
  refine WX.get1 (fs := [.ref (k + 1), .ref (k + 2), .ref (k + 3), .int tk, .int 1]) rfl (by omega) (F_h5_k) rfl ?_
  refine WX.if_ rfl (fun c_12 => absurd c_12 (by decide)) (fun c_12 => ?_)
  clear c_12
  refine WX.s1 rfl rfl ?_
  refine WX.s1 rfl rfl ?_
  refine WX.get1 (fs := [.ref (q + 1), .ref (q + 2), .ref (q + 3), .int tq, .int 1]) rfl (by omega) (F_h5_q) rfl ?_
  refine WX.put1 (fs := [.ref (k + 1), .ref (k + 2), .ref (k + 3), .int tk, .int 1]) (fs' := [.ref (k + 1), .ref (k + 2), .ref (k + 3), .int tq, .int 1]) rfl (by omega) (F_h5_k) (Nat.le_of_ble_eq_true rfl) (rfl) rfl (fun h20 e_h20 => ?_)
  have F_h20_k : h20 k = .inr (0, [.ref (k + 1), .ref (k + 2), .ref (k + 3), .int tq, .int 1]) := by rw [e_h20]; exact va_up_eq
  have F_h20__k_1_ : h20 (k + 1) = .inl (1, 256, .inl lA) := by rw [e_h20, va_up_neq (nek0 (a := 1) (by decide))]; exact F_h5__k_1_
  have F_h20__k_2_ : h20 (k + 2) = .inl (1, 256, .inl cA) := by rw [e_h20, va_up_neq (nek0 (a := 2) (by decide))]; exact F_h5__k_2_
  have F_h20__k_3_ : h20 (k + 3) = .inl (1, 13, .inl eA) := by rw [e_h20, va_up_neq (nek0 (a := 3) (by decide))]; exact F_h5__k_3_
  have F_h20_q : h20 q = .inr (0, [.ref (q + 1), .ref (q + 2), .ref (q + 3), .int tq, .int 1]) := by rw [e_h20, va_up_neq (by omega)]; exact F_h5_q
  have F_h20__q_1_ : h20 (q + 1) = .inl (1, 256, .inl lB) := by rw [e_h20, va_up_neq (by omega)]; exact F_h5__q_1_
  have F_h20__q_2_ : h20 (q + 2) = .inl (1, 256, .inl cB) := by rw [e_h20, va_up_neq (by omega)]; exact F_h5__q_2_
  have F_h20__q_3_ : h20 (q + 3) = .inl (1, 13, .inl eB) := by rw [e_h20, va_up_neq (by omega)]; exact F_h5__q_3_
  have FR_h20 : Fr h h20 (fun j => k ≤ j ∧ j ≤ k + 3) := FR_h5.zup e_h20 (by first | exact rfl | exact Or.inl rfl | exact Or.inr rfl | exact ⟨by decide, by decide⟩ | decide | omega)
  clear F_h5_k F_h5__k_1_ F_h5__k_2_ F_h5__k_3_ F_h5_q F_h5__q_1_ F_h5__q_2_ F_h5__q_3_ FR_h5 e_h20
  refine WX.s1 rfl rfl ?_
  refine WX.get1 (fs := [.ref (q + 1), .ref (q + 2), .ref (q + 3), .int tq, .int 1]) rfl (by omega) (F_h20_q) rfl ?_
  refine WX.s1 rfl rfl ?_
  refine WX.s1 rfl rfl ?_
  refine WX.get1 (fs := [.ref (k + 1), .ref (k + 2), .ref (k + 3), .int tq, .int 1]) rfl (by omega) (F_h20_k) rfl ?_
  refine WX.s1 rfl rfl ?_
  refine WX.s1 rfl rfl ?_
  refine WX.get1 (fs := [.ref (k + 1), .ref (k + 2), .ref (k + 3), .int tq, .int 1]) rfl (by omega) (F_h20_k) rfl ?_
  refine WX.len1 rfl (Or.inl ⟨by omega, by decide⟩) (F_h20__k_1_) ?_
  refine WX.copyN rfl (Nat.le_of_ble_eq_true rfl) (Or.inl (by omega)) (F_h20__q_1_) (by omega) (F_h20__k_1_) (p := 0) (q := 0) (c := 256) rfl rfl rfl (by decide) (by decide) (by decide) (by decide) (fun g38 h38 e_g38 e_h38 => ?_)
  have F_h38_k : h38 k = .inr (0, [.ref (k + 1), .ref (k + 2), .ref (k + 3), .int tq, .int 1]) := by rw [e_h38, va_up_neq (nek1 (a := 1) (by decide))]; exact F_h20_k
  have F_h38__k_1_ : h38 (k + 1) = .inl (1, 256, .inl g38) := by rw [e_h38]; exact va_up_eq
  have F_h38__k_2_ : h38 (k + 2) = .inl (1, 256, .inl cA) := by rw [e_h38, va_up_neq (nek (a := 2) (b := 1) (by decide))]; exact F_h20__k_2_
  have F_h38__k_3_ : h38 (k + 3) = .inl (1, 13, .inl eA) := by rw [e_h38, va_up_neq (nek (a := 3) (b := 1) (by decide))]; exact F_h20__k_3_
  have F_h38_q : h38 q = .inr (0, [.ref (q + 1), .ref (q + 2), .ref (q + 3), .int tq, .int 1]) := by rw [e_h38, va_up_neq (by omega)]; exact F_h20_q
  have F_h38__q_1_ : h38 (q + 1) = .inl (1, 256, .inl lB) := by rw [e_h38, va_up_neq (by omega)]; exact F_h20__q_1_
  have F_h38__q_2_ : h38 (q + 2) = .inl (1, 256, .inl cB) := by rw [e_h38, va_up_neq (by omega)]; exact F_h20__q_2_
  have F_h38__q_3_ : h38 (q + 3) = .inl (1, 13, .inl eB) := by rw [e_h38, va_up_neq (by omega)]; exact F_h20__q_3_
  have FR_h38 : Fr h h38 (fun j => k ≤ j ∧ j ≤ k + 3) := FR_h20.zup e_h38 (by first | exact rfl | exact Or.inl rfl | exact Or.inr rfl | exact ⟨by decide, by decide⟩ | decide | omega)
  clear F_h20_k F_h20__k_1_ F_h20__k_2_ F_h20__k_3_ F_h20_q F_h20__q_1_ F_h20__q_2_ F_h20__q_3_ FR_h20 e_h38
  refine WX.s1 rfl rfl ?_
  refine WX.get1 (fs := [.ref (q + 1), .ref (q + 2), .ref (q + 3), .int tq, .int 1]) rfl (by omega) (F_h38_q) rfl ?_
  refine WX.s1 rfl rfl ?_
  refine WX.s1 rfl rfl ?_
  refine WX.get1 (fs := [.ref (k + 1), .ref (k + 2), .ref (k + 3), .int tq, .int 1]) rfl (by omega) (F_h38_k) rfl ?_
  refine WX.s1 rfl rfl ?_
  refine WX.s1 rfl rfl ?_
  refine WX.get1 (fs := [.ref (k + 1), .ref (k + 2), .ref (k + 3), .int tq, .int 1]) rfl (by omega) (F_h38_k) rfl ?_
  refine WX.len1 rfl (Or.inl ⟨by omega, by decide⟩) (F_h38__k_2_) ?_
  refine WX.copyN rfl (Nat.le_of_ble_eq_true rfl) (Or.inl (by omega)) (F_h38__q_2_) (by omega) (F_h38__k_2_) (p := 0) (q := 0) (c := 256) rfl rfl rfl (by decide) (by decide) (by decide) (by decide) (fun g56 h56 e_g56 e_h56 => ?_)
  have F_h56_k : h56 k = .inr (0, [.ref (k + 1), .ref (k + 2), .ref (k + 3), .int tq, .int 1]) := by rw [e_h56, va_up_neq (nek1 (a := 2) (by decide))]; exact F_h38_k
  have F_h56__k_1_ : h56 (k + 1) = .inl (1, 256, .inl g38) := by rw [e_h56, va_up_neq (nek (a := 1) (b := 2) (by decide))]; exact F_h38__k_1_
  have F_h56__k_2_ : h56 (k + 2) = .inl (1, 256, .inl g56) := by rw [e_h56]; exact va_up_eq
  have F_h56__k_3_ : h56 (k + 3) = .inl (1, 13, .inl eA) := by rw [e_h56, va_up_neq (nek (a := 3) (b := 2) (by decide))]; exact F_h38__k_3_
  have F_h56_q : h56 q = .inr (0, [.ref (q + 1), .ref (q + 2), .ref (q + 3), .int tq, .int 1]) := by rw [e_h56, va_up_neq (by omega)]; exact F_h38_q
  have F_h56__q_1_ : h56 (q + 1) = .inl (1, 256, .inl lB) := by rw [e_h56, va_up_neq (by omega)]; exact F_h38__q_1_
  have F_h56__q_2_ : h56 (q + 2) = .inl (1, 256, .inl cB) := by rw [e_h56, va_up_neq (by omega)]; exact F_h38__q_2_
  have F_h56__q_3_ : h56 (q + 3) = .inl (1, 13, .inl eB) := by rw [e_h56, va_up_neq (by omega)]; exact F_h38__q_3_
  have FR_h56 : Fr h h56 (fun j => k ≤ j ∧ j ≤ k + 3) := FR_h38.zup e_h56 (by first | exact rfl | exact Or.inl rfl | exact Or.inr rfl | exact ⟨by decide, by decide⟩ | decide | omega)
  clear F_h38_k F_h38__k_1_ F_h38__k_2_ F_h38__k_3_ F_h38_q F_h38__q_1_ F_h38__q_2_ F_h38__q_3_ FR_h38 e_h56
  exact WX.ret0 rfl (kk h56 FR_h56 ⟨g38, g56, eA, ⟨F_h56_k, F_h56__k_1_, F_h56__k_2_, F_h56__k_3_⟩, fun s hs => by rw [e_g38]; exact cpy0 hs, fun s hs => by rw [e_g56]; exact cpy0 hs⟩)
set_option maxRecDepth 20000 in
theorem x_cbecN {d n s : Nat} {h : Nat → aE} {k q : Nat} {tk hk_ tq : Int32} {lA cA eA lB cB eB : Nat → Int32}  (hk : k + 3 < n) (hq : q + 3 < n) (hkq : k + 3 < q ∨ q + 3 < k) (F_h_k : h k = .inr (0, [.ref (k + 1), .ref (k + 2), .ref (k + 3), .int tk, .int hk_])) (F_h__k_1_ : h (k + 1) = .inl (1, 256, .inl lA)) (F_h__k_2_ : h (k + 2) = .inl (1, 256, .inl cA)) (F_h__k_3_ : h (k + 3) = .inl (1, 13, .inl eA)) (F_h_q : h q = .inr (0, [.ref (q + 1), .ref (q + 2), .ref (q + 3), .int tq, .int 0])) (F_h__q_1_ : h (q + 1) = .inl (1, 256, .inl lB)) (F_h__q_2_ : h (q + 2) = .inl (1, 256, .inl cB)) (F_h__q_3_ : h (q + 3) = .inl (1, 13, .inl eB))  {Ψ : Option Value → aH → Prop} (kk : ∀ h', Fr h h' (fun j => k ≤ j ∧ j ≤ k + 3) → CoN h' k → Ψ none (n, s, h')) : WO (mM (d + 1)) 1 [.ref k, .ref q] (n, s, h) Ψ := by
  refine WO.of (Nat.le_of_ble_eq_true rfl) ?_
  have FR_h : Fr h h (fun j => k ≤ j ∧ j ≤ k + 3) := Fr.rf
  show WX (lk tX0_become) (mM d) Ψ 0 [(0, .ref k), (1, .ref q)] [] (n, s, h)
  refine WX.s1 rfl rfl ?_
  refine WX.s1 rfl rfl ?_
  refine WX.get1 (fs := [.ref (q + 1), .ref (q + 2), .ref (q + 3), .int tq, .int 0]) rfl (by omega) (F_h_q) rfl ?_
  refine WX.put1 (fs := [.ref (k + 1), .ref (k + 2), .ref (k + 3), .int tk, .int hk_]) (fs' := [.ref (k + 1), .ref (k + 2), .ref (k + 3), .int tk, .int 0]) rfl (by omega) (F_h_k) (Nat.le_of_ble_eq_true rfl) (rfl) rfl (fun h5 e_h5 => ?_)
  have F_h5_k : h5 k = .inr (0, [.ref (k + 1), .ref (k + 2), .ref (k + 3), .int tk, .int 0]) := by rw [e_h5]; exact va_up_eq
  have F_h5__k_1_ : h5 (k + 1) = .inl (1, 256, .inl lA) := by rw [e_h5, va_up_neq (nek0 (a := 1) (by decide))]; exact F_h__k_1_
  have F_h5__k_2_ : h5 (k + 2) = .inl (1, 256, .inl cA) := by rw [e_h5, va_up_neq (nek0 (a := 2) (by decide))]; exact F_h__k_2_
  have F_h5__k_3_ : h5 (k + 3) = .inl (1, 13, .inl eA) := by rw [e_h5, va_up_neq (nek0 (a := 3) (by decide))]; exact F_h__k_3_
  have F_h5_q : h5 q = .inr (0, [.ref (q + 1), .ref (q + 2), .ref (q + 3), .int tq, .int 0]) := by rw [e_h5, va_up_neq (by omega)]; exact F_h_q
  have F_h5__q_1_ : h5 (q + 1) = .inl (1, 256, .inl lB) := by rw [e_h5, va_up_neq (by omega)]; exact F_h__q_1_
  have F_h5__q_2_ : h5 (q + 2) = .inl (1, 256, .inl cB) := by rw [e_h5, va_up_neq (by omega)]; exact F_h__q_2_
  have F_h5__q_3_ : h5 (q + 3) = .inl (1, 13, .inl eB) := by rw [e_h5, va_up_neq (by omega)]; exact F_h__q_3_
  have FR_h5 : Fr h h5 (fun j => k ≤ j ∧ j ≤ k + 3) := FR_h.zup e_h5 (by first | exact rfl | exact Or.inl rfl | exact Or.inr rfl | exact ⟨by decide, by decide⟩ | decide | omega)
  clear F_h_k F_h__k_1_ F_h__k_2_ F_h__k_3_ F_h_q F_h__q_1_ F_h__q_2_ F_h__q_3_ FR_h e_h5
  refine WX.s1 rfl rfl ?_
  refine WX.get1 (fs := [.ref (k + 1), .ref (k + 2), .ref (k + 3), .int tk, .int 0]) rfl (by omega) (F_h5_k) rfl ?_
  refine WX.if_ rfl (fun c_12 => ?_) (fun c_12 => absurd (by decide) c_12)
  clear c_12
  exact WX.ret0 rfl (kk h5 FR_h5 ⟨_, lA, cA, eA, F_h5_k, F_h5__k_1_, F_h5__k_2_, F_h5__k_3_⟩)
theorem xt_cbec {d n s : Nat} {h : Nat → aE} {k q : Nat} {t : Option Le} (hk : k + 3 < n) (hq : q + 3 < n) (hkq : k + 3 < q ∨ q + 3 < k) (X : CoX h k) (H : CoH h q t) {Ψ : Option Value → aH → Prop} (kk : ∀ h', Fr h h' (fun j => k ≤ j ∧ j ≤ k + 3) → CoH h' k t → Ψ none (n, s, h')) : WO (mM (d + 1)) 1 [.ref k, .ref q] (n, s, h) Ψ := by
  obtain ⟨a, b, c, e, f, x1, x2, x3, x4⟩ := X
  cases t with
  | none =>
    obtain ⟨a2, c2, e2, f2, y1, y2, y3, y4⟩ := H
    exact x_cbecN hk hq hkq x1 x2 x3 x4 y1 y2 y3 y4 kk
  | some t =>
    obtain ⟨c2, e2, f2, ⟨y1, y2, y3, y4⟩, y5, y6, y7⟩ := H
    refine x_cbecS hk hq hkq x1 x2 x3 x4 y1 y2 y3 y4 (fun h' fr z => kk h' fr ?_)
    obtain ⟨c3, e3, f3, z1, z2, z3⟩ := z
    exact ⟨c3, e3, f3, z1, fun s hs => (z2 s hs).trans (y5 s hs), fun s hs hl => (z3 s hs).trans (y6 s hs hl), y7⟩
set_option maxRecDepth 20000 in
theorem x_sbecS {d n s : Nat} {h : Nat → aE} {k q l M o : Nat} {od th : Int32} {pA rA fA wA oA sA pB rB fB wB oB sB_ : Nat → Int32}  (hk : k + 6 < n) (hq : q + 6 < n) (hkq : k + 6 < q ∨ q + 6 < k) (hl : l < 64) (hMb : M < 2 ^ 20) (ho : o ≤ 9) (hM : 2 ^ o ≤ M)   (F_h_k : h k = .inr (8, [.int (nI l), .ref (k + 1), .ref (k + 2), .ref (k + 3), .ref (k + 4), .ref (k + 5), .ref (k + 6), .int od, .int th])) (F_h__k_1_ : h (k + 1) = .inl (1, (l + 1), .inl pA)) (F_h__k_2_ : h (k + 2) = .inl (1, (l + 1), .inl rA)) (F_h__k_3_ : h (k + 3) = .inl (1, (l + 1), .inl fA)) (F_h__k_4_ : h (k + 4) = .inl (1, (l + 1), .inl wA)) (F_h__k_5_ : h (k + 5) = .inl (1, M, .inl oA)) (F_h__k_6_ : h (k + 6) = .inl (1, M, .inl sA)) (F_h_q : h q = .inr (8, [.int (nI l), .ref (q + 1), .ref (q + 2), .ref (q + 3), .ref (q + 4), .ref (q + 5), .ref (q + 6), .int (nI o), .int 1])) (F_h__q_1_ : h (q + 1) = .inl (1, (l + 1), .inl pB)) (F_h__q_2_ : h (q + 2) = .inl (1, (l + 1), .inl rB)) (F_h__q_3_ : h (q + 3) = .inl (1, (l + 1), .inl fB)) (F_h__q_4_ : h (q + 4) = .inl (1, (l + 1), .inl wB)) (F_h__q_5_ : h (q + 5) = .inl (1, M, .inl oB)) (F_h__q_6_ : h (q + 6) = .inl (1, M, .inl sB_)) {Ψ : Option Value → aH → Prop} (kk : ∀ h', Fr h h' (fun j => k ≤ j ∧ j ≤ k + 6) → (∃ pC rC fC wC oC sC, ShA h' k l M (nI o) 1 pC rC fC wC oC sC ∧ (∀ s, s ≤ l → pC s = pB s ∧ fC s = fB s ∧ wC s = wB s) ∧ ∀ p, p < 2 ^ o → oC p = oB p ∧ sC p = sB_ p) → Ψ none (n, s, h')) : WO (mM (d + 1)) 97 [.ref k, .ref q] (n, s, h) Ψ := by
  refine WO.of (Nat.le_of_ble_eq_true rfl) ?_
  have FR_h : Fr h h (fun j => k ≤ j ∧ j ≤ k + 6) := Fr.rf
  show WX (lk tX8_become) (mM d) Ψ 0 [(0, .ref k), (1, .ref q)] [] (n, s, h)
  refine WX.s1 rfl rfl ?_
  refine WX.s1 rfl rfl ?_
  refine WX.get1 (fs := [.int (nI l), .ref (q + 1), .ref (q + 2), .ref (q + 3), .ref (q + 4), .ref (q + 5), .ref (q + 6), .int (nI o), .int 1]) rfl (by omega) (F_h_q) rfl ?_
  refine WX.put1 (fs := [.int (nI l), .ref (k + 1), .ref (k + 2), .ref (k + 3), .ref (k + 4), .ref (k + 5), .ref (k + 6), .int od, .int th]) (fs' := [.int (nI l), .ref (k + 1), .ref (k + 2), .ref (k + 3), .ref (k + 4), .ref (k + 5), .ref (k + 6), .int od, .int 1]) rfl (by omega) (F_h_k) (Nat.le_of_ble_eq_true rfl) (rfl) rfl (fun h5 e_h5 => ?_)
  have F_h5_k : h5 k = .inr (8, [.int (nI l), .ref (k + 1), .ref (k + 2), .ref (k + 3), .ref (k + 4), .ref (k + 5), .ref (k + 6), .int od, .int 1]) := by rw [e_h5]; exact va_up_eq
  have F_h5__k_1_ : h5 (k + 1) = .inl (1, (l + 1), .inl pA) := by rw [e_h5, va_up_neq (nek0 (a := 1) (by decide))]; exact F_h__k_1_
  have F_h5__k_2_ : h5 (k + 2) = .inl (1, (l + 1), .inl rA) := by rw [e_h5, va_up_neq (nek0 (a := 2) (by decide))]; exact F_h__k_2_
  have F_h5__k_3_ : h5 (k + 3) = .inl (1, (l + 1), .inl fA) := by rw [e_h5, va_up_neq (nek0 (a := 3) (by decide))]; exact F_h__k_3_
  have F_h5__k_4_ : h5 (k + 4) = .inl (1, (l + 1), .inl wA) := by rw [e_h5, va_up_neq (nek0 (a := 4) (by decide))]; exact F_h__k_4_
  have F_h5__k_5_ : h5 (k + 5) = .inl (1, M, .inl oA) := by rw [e_h5, va_up_neq (nek0 (a := 5) (by decide))]; exact F_h__k_5_
  have F_h5__k_6_ : h5 (k + 6) = .inl (1, M, .inl sA) := by rw [e_h5, va_up_neq (nek0 (a := 6) (by decide))]; exact F_h__k_6_
  have F_h5_q : h5 q = .inr (8, [.int (nI l), .ref (q + 1), .ref (q + 2), .ref (q + 3), .ref (q + 4), .ref (q + 5), .ref (q + 6), .int (nI o), .int 1]) := by rw [e_h5, va_up_neq (by omega)]; exact F_h_q
  have F_h5__q_1_ : h5 (q + 1) = .inl (1, (l + 1), .inl pB) := by rw [e_h5, va_up_neq (by omega)]; exact F_h__q_1_
  have F_h5__q_2_ : h5 (q + 2) = .inl (1, (l + 1), .inl rB) := by rw [e_h5, va_up_neq (by omega)]; exact F_h__q_2_
  have F_h5__q_3_ : h5 (q + 3) = .inl (1, (l + 1), .inl fB) := by rw [e_h5, va_up_neq (by omega)]; exact F_h__q_3_
  have F_h5__q_4_ : h5 (q + 4) = .inl (1, (l + 1), .inl wB) := by rw [e_h5, va_up_neq (by omega)]; exact F_h__q_4_
  have F_h5__q_5_ : h5 (q + 5) = .inl (1, M, .inl oB) := by rw [e_h5, va_up_neq (by omega)]; exact F_h__q_5_
  have F_h5__q_6_ : h5 (q + 6) = .inl (1, M, .inl sB_) := by rw [e_h5, va_up_neq (by omega)]; exact F_h__q_6_
  have FR_h5 : Fr h h5 (fun j => k ≤ j ∧ j ≤ k + 6) := FR_h.zup e_h5 (by first | exact rfl | exact Or.inl rfl | exact Or.inr rfl | exact ⟨by decide, by decide⟩ | decide | omega)
  clear F_h_k F_h__k_1_ F_h__k_2_ F_h__k_3_ F_h__k_4_ F_h__k_5_ F_h__k_6_ F_h_q F_h__q_1_ F_h__q_2_ F_h__q_3_ F_h__q_4_ F_h__q_5_ F_h__q_6_ FR_h e_h5
  refine WX.s1 rfl rfl ?_
  refine WX.get1 (fs := [.int (nI l), .ref (k + 1), .ref (k + 2), .ref (k + 3), .ref (k + 4), .ref (k + 5), .ref (k + 6), .int od, .int 1]) rfl (by omega) (F_h5_k) rfl ?_
  refine WX.if_ rfl (fun c_12 => ?_) (fun c_12 => absurd (by decide) c_12)
  clear c_12
  refine WX.s1 rfl rfl ?_
  refine WX.s1 rfl rfl ?_
  refine WX.get1 (fs := [.int (nI l), .ref (q + 1), .ref (q + 2), .ref (q + 3), .ref (q + 4), .ref (q + 5), .ref (q + 6), .int (nI o), .int 1]) rfl (by omega) (F_h5_q) rfl ?_
  refine WX.put1 (fs := [.int (nI l), .ref (k + 1), .ref (k + 2), .ref (k + 3), .ref (k + 4), .ref (k + 5), .ref (k + 6), .int od, .int 1]) (fs' := [.int (nI l), .ref (k + 1), .ref (k + 2), .ref (k + 3), .ref (k + 4), .ref (k + 5), .ref (k + 6), .int (nI o), .int 1]) rfl (by omega) (F_h5_k) (Nat.le_of_ble_eq_true rfl) (rfl) rfl (fun h21 e_h21 => ?_)
  have F_h21_k : h21 k = .inr (8, [.int (nI l), .ref (k + 1), .ref (k + 2), .ref (k + 3), .ref (k + 4), .ref (k + 5), .ref (k + 6), .int (nI o), .int 1]) := by rw [e_h21]; exact va_up_eq
  have F_h21__k_1_ : h21 (k + 1) = .inl (1, (l + 1), .inl pA) := by rw [e_h21, va_up_neq (nek0 (a := 1) (by decide))]; exact F_h5__k_1_
  have F_h21__k_2_ : h21 (k + 2) = .inl (1, (l + 1), .inl rA) := by rw [e_h21, va_up_neq (nek0 (a := 2) (by decide))]; exact F_h5__k_2_
  have F_h21__k_3_ : h21 (k + 3) = .inl (1, (l + 1), .inl fA) := by rw [e_h21, va_up_neq (nek0 (a := 3) (by decide))]; exact F_h5__k_3_
  have F_h21__k_4_ : h21 (k + 4) = .inl (1, (l + 1), .inl wA) := by rw [e_h21, va_up_neq (nek0 (a := 4) (by decide))]; exact F_h5__k_4_
  have F_h21__k_5_ : h21 (k + 5) = .inl (1, M, .inl oA) := by rw [e_h21, va_up_neq (nek0 (a := 5) (by decide))]; exact F_h5__k_5_
  have F_h21__k_6_ : h21 (k + 6) = .inl (1, M, .inl sA) := by rw [e_h21, va_up_neq (nek0 (a := 6) (by decide))]; exact F_h5__k_6_
  have F_h21_q : h21 q = .inr (8, [.int (nI l), .ref (q + 1), .ref (q + 2), .ref (q + 3), .ref (q + 4), .ref (q + 5), .ref (q + 6), .int (nI o), .int 1]) := by rw [e_h21, va_up_neq (by omega)]; exact F_h5_q
  have F_h21__q_1_ : h21 (q + 1) = .inl (1, (l + 1), .inl pB) := by rw [e_h21, va_up_neq (by omega)]; exact F_h5__q_1_
  have F_h21__q_2_ : h21 (q + 2) = .inl (1, (l + 1), .inl rB) := by rw [e_h21, va_up_neq (by omega)]; exact F_h5__q_2_
  have F_h21__q_3_ : h21 (q + 3) = .inl (1, (l + 1), .inl fB) := by rw [e_h21, va_up_neq (by omega)]; exact F_h5__q_3_
  have F_h21__q_4_ : h21 (q + 4) = .inl (1, (l + 1), .inl wB) := by rw [e_h21, va_up_neq (by omega)]; exact F_h5__q_4_
  have F_h21__q_5_ : h21 (q + 5) = .inl (1, M, .inl oB) := by rw [e_h21, va_up_neq (by omega)]; exact F_h5__q_5_
  have F_h21__q_6_ : h21 (q + 6) = .inl (1, M, .inl sB_) := by rw [e_h21, va_up_neq (by omega)]; exact F_h5__q_6_
  have FR_h21 : Fr h h21 (fun j => k ≤ j ∧ j ≤ k + 6) := FR_h5.zup e_h21 (by first | exact rfl | exact Or.inl rfl | exact Or.inr rfl | exact ⟨by decide, by decide⟩ | decide | omega)
  clear F_h5_k F_h5__k_1_ F_h5__k_2_ F_h5__k_3_ F_h5__k_4_ F_h5__k_5_ F_h5__k_6_ F_h5_q F_h5__q_1_ F_h5__q_2_ F_h5__q_3_ F_h5__q_4_ F_h5__q_5_ F_h5__q_6_ FR_h5 e_h21
  refine WX.s1 rfl rfl ?_
  refine WX.get1 (fs := [.int (nI l), .ref (k + 1), .ref (k + 2), .ref (k + 3), .ref (k + 4), .ref (k + 5), .ref (k + 6), .int (nI o), .int 1]) rfl (by omega) (F_h21_k) rfl ?_
  refine WX.len1 rfl (Or.inl ⟨by omega, by decide⟩) (F_h21__k_1_) ?_
  refine WX.s1 rfl rfl ?_
  refine WX.get1 (fs := [.int (nI l), .ref (q + 1), .ref (q + 2), .ref (q + 3), .ref (q + 4), .ref (q + 5), .ref (q + 6), .int (nI o), .int 1]) rfl (by omega) (F_h21_q) rfl ?_
  refine WX.len1 rfl (Or.inl ⟨by omega, by decide⟩) (F_h21__q_1_) ?_
  refine WX.s1 (S' := [.int (if (nI (l + 1)) < (nI (l + 1)) then (nI (l + 1)) else (nI (l + 1)))]) rfl rfl ?_
  rw [min_self]
  refine WX.s1 (L' := [(0, .ref k), (1, .ref q), (2, .int (nI (l + 1)))]) rfl rfl ?_
  refine WX.s1 rfl rfl ?_
  refine WX.s1 rfl rfl ?_
  refine WX.get1 (fs := [.int (nI l), .ref (k + 1), .ref (k + 2), .ref (k + 3), .ref (k + 4), .ref (k + 5), .ref (k + 6), .int (nI o), .int 1]) rfl (by omega) (F_h21_k) rfl ?_
  refine WX.s1 (S' := [.int (1 <<< ((nI o) &&& 31))]) rfl rfl ?_
  rw [sh1 o (by omega)]
  refine WX.s1 rfl rfl ?_
  refine WX.get1 (fs := [.int (nI l), .ref (k + 1), .ref (k + 2), .ref (k + 3), .ref (k + 4), .ref (k + 5), .ref (k + 6), .int (nI o), .int 1]) rfl (by omega) (F_h21_k) rfl ?_
  refine WX.len1 rfl (Or.inl ⟨by omega, by decide⟩) (F_h21__k_6_) ?_
  refine WX.s1 rfl rfl ?_
  refine WX.get1 (fs := [.int (nI l), .ref (q + 1), .ref (q + 2), .ref (q + 3), .ref (q + 4), .ref (q + 5), .ref (q + 6), .int (nI o), .int 1]) rfl (by omega) (F_h21_q) rfl ?_
  refine WX.len1 rfl (Or.inl ⟨by omega, by decide⟩) (F_h21__q_6_) ?_
  refine WX.s1 (S' := [.int (if (nI M) < (nI M) then (nI M) else (nI M)), .int (nI (2 ^ o))]) rfl rfl ?_
  rw [min_self]
  refine WX.s1 (S' := [.int (if (nI M) < (nI (2 ^ o)) then (nI M) else (nI (2 ^ o)))]) rfl rfl ?_
  rw [nI_min2 (by omega) (by omega) hM]
  refine WX.s1 (L' := [(0, .ref k), (1, .ref q), (2, .int (nI (l + 1))), (3, .int (nI (2 ^ o)))]) rfl rfl ?_
  refine WX.s1 rfl rfl ?_
  refine WX.get1 (fs := [.int (nI l), .ref (q + 1), .ref (q + 2), .ref (q + 3), .ref (q + 4), .ref (q + 5), .ref (q + 6), .int (nI o), .int 1]) rfl (by omega) (F_h21_q) rfl ?_
  refine WX.s1 rfl rfl ?_
  refine WX.s1 rfl rfl ?_
  refine WX.get1 (fs := [.int (nI l), .ref (k + 1), .ref (k + 2), .ref (k + 3), .ref (k + 4), .ref (k + 5), .ref (k + 6), .int (nI o), .int 1]) rfl (by omega) (F_h21_k) rfl ?_
  refine WX.s1 rfl rfl ?_
  refine WX.s1 rfl rfl ?_
  refine WX.copyN rfl (Nat.le_of_ble_eq_true rfl) (Or.inl (by omega)) (F_h21__q_1_) (by omega) (F_h21__k_1_) (p := 0) (q := 0) (c := l + 1) rfl rfl rfl (by omega) (by omega) (by omega) (by omega) (fun g72 h72 e_g72 e_h72 => ?_)
  have F_h72_k : h72 k = .inr (8, [.int (nI l), .ref (k + 1), .ref (k + 2), .ref (k + 3), .ref (k + 4), .ref (k + 5), .ref (k + 6), .int (nI o), .int 1]) := by rw [e_h72, va_up_neq (nek1 (a := 1) (by decide))]; exact F_h21_k
  have F_h72__k_1_ : h72 (k + 1) = .inl (1, (l + 1), .inl g72) := by rw [e_h72]; exact va_up_eq
  have F_h72__k_2_ : h72 (k + 2) = .inl (1, (l + 1), .inl rA) := by rw [e_h72, va_up_neq (nek (a := 2) (b := 1) (by decide))]; exact F_h21__k_2_
  have F_h72__k_3_ : h72 (k + 3) = .inl (1, (l + 1), .inl fA) := by rw [e_h72, va_up_neq (nek (a := 3) (b := 1) (by decide))]; exact F_h21__k_3_
  have F_h72__k_4_ : h72 (k + 4) = .inl (1, (l + 1), .inl wA) := by rw [e_h72, va_up_neq (nek (a := 4) (b := 1) (by decide))]; exact F_h21__k_4_
  have F_h72__k_5_ : h72 (k + 5) = .inl (1, M, .inl oA) := by rw [e_h72, va_up_neq (nek (a := 5) (b := 1) (by decide))]; exact F_h21__k_5_
  have F_h72__k_6_ : h72 (k + 6) = .inl (1, M, .inl sA) := by rw [e_h72, va_up_neq (nek (a := 6) (b := 1) (by decide))]; exact F_h21__k_6_
  have F_h72_q : h72 q = .inr (8, [.int (nI l), .ref (q + 1), .ref (q + 2), .ref (q + 3), .ref (q + 4), .ref (q + 5), .ref (q + 6), .int (nI o), .int 1]) := by rw [e_h72, va_up_neq (by omega)]; exact F_h21_q
  have F_h72__q_1_ : h72 (q + 1) = .inl (1, (l + 1), .inl pB) := by rw [e_h72, va_up_neq (by omega)]; exact F_h21__q_1_
  have F_h72__q_2_ : h72 (q + 2) = .inl (1, (l + 1), .inl rB) := by rw [e_h72, va_up_neq (by omega)]; exact F_h21__q_2_
  have F_h72__q_3_ : h72 (q + 3) = .inl (1, (l + 1), .inl fB) := by rw [e_h72, va_up_neq (by omega)]; exact F_h21__q_3_
  have F_h72__q_4_ : h72 (q + 4) = .inl (1, (l + 1), .inl wB) := by rw [e_h72, va_up_neq (by omega)]; exact F_h21__q_4_
  have F_h72__q_5_ : h72 (q + 5) = .inl (1, M, .inl oB) := by rw [e_h72, va_up_neq (by omega)]; exact F_h21__q_5_
  have F_h72__q_6_ : h72 (q + 6) = .inl (1, M, .inl sB_) := by rw [e_h72, va_up_neq (by omega)]; exact F_h21__q_6_
  have FR_h72 : Fr h h72 (fun j => k ≤ j ∧ j ≤ k + 6) := FR_h21.zup e_h72 (by first | exact rfl | exact Or.inl rfl | exact Or.inr rfl | exact ⟨by decide, by decide⟩ | decide | omega)
  clear F_h21_k F_h21__k_1_ F_h21__k_2_ F_h21__k_3_ F_h21__k_4_ F_h21__k_5_ F_h21__k_6_ F_h21_q F_h21__q_1_ F_h21__q_2_ F_h21__q_3_ F_h21__q_4_ F_h21__q_5_ F_h21__q_6_ FR_h21 e_h72
  refine WX.s1 rfl rfl ?_
  refine WX.get1 (fs := [.int (nI l), .ref (q + 1), .ref (q + 2), .ref (q + 3), .ref (q + 4), .ref (q + 5), .ref (q + 6), .int (nI o), .int 1]) rfl (by omega) (F_h72_q) rfl ?_
  refine WX.s1 rfl rfl ?_
  refine WX.s1 rfl rfl ?_
  refine WX.get1 (fs := [.int (nI l), .ref (k + 1), .ref (k + 2), .ref (k + 3), .ref (k + 4), .ref (k + 5), .ref (k + 6), .int (nI o), .int 1]) rfl (by omega) (F_h72_k) rfl ?_
  refine WX.s1 rfl rfl ?_
  refine WX.s1 rfl rfl ?_
  refine WX.copyN rfl (Nat.le_of_ble_eq_true rfl) (Or.inl (by omega)) (F_h72__q_3_) (by omega) (F_h72__k_3_) (p := 0) (q := 0) (c := l + 1) rfl rfl rfl (by omega) (by omega) (by omega) (by omega) (fun g86 h86 e_g86 e_h86 => ?_)
  have F_h86_k : h86 k = .inr (8, [.int (nI l), .ref (k + 1), .ref (k + 2), .ref (k + 3), .ref (k + 4), .ref (k + 5), .ref (k + 6), .int (nI o), .int 1]) := by rw [e_h86, va_up_neq (nek1 (a := 3) (by decide))]; exact F_h72_k
  have F_h86__k_1_ : h86 (k + 1) = .inl (1, (l + 1), .inl g72) := by rw [e_h86, va_up_neq (nek (a := 1) (b := 3) (by decide))]; exact F_h72__k_1_
  have F_h86__k_2_ : h86 (k + 2) = .inl (1, (l + 1), .inl rA) := by rw [e_h86, va_up_neq (nek (a := 2) (b := 3) (by decide))]; exact F_h72__k_2_
  have F_h86__k_3_ : h86 (k + 3) = .inl (1, (l + 1), .inl g86) := by rw [e_h86]; exact va_up_eq
  have F_h86__k_4_ : h86 (k + 4) = .inl (1, (l + 1), .inl wA) := by rw [e_h86, va_up_neq (nek (a := 4) (b := 3) (by decide))]; exact F_h72__k_4_
  have F_h86__k_5_ : h86 (k + 5) = .inl (1, M, .inl oA) := by rw [e_h86, va_up_neq (nek (a := 5) (b := 3) (by decide))]; exact F_h72__k_5_
  have F_h86__k_6_ : h86 (k + 6) = .inl (1, M, .inl sA) := by rw [e_h86, va_up_neq (nek (a := 6) (b := 3) (by decide))]; exact F_h72__k_6_
  have F_h86_q : h86 q = .inr (8, [.int (nI l), .ref (q + 1), .ref (q + 2), .ref (q + 3), .ref (q + 4), .ref (q + 5), .ref (q + 6), .int (nI o), .int 1]) := by rw [e_h86, va_up_neq (by omega)]; exact F_h72_q
  have F_h86__q_1_ : h86 (q + 1) = .inl (1, (l + 1), .inl pB) := by rw [e_h86, va_up_neq (by omega)]; exact F_h72__q_1_
  have F_h86__q_2_ : h86 (q + 2) = .inl (1, (l + 1), .inl rB) := by rw [e_h86, va_up_neq (by omega)]; exact F_h72__q_2_
  have F_h86__q_3_ : h86 (q + 3) = .inl (1, (l + 1), .inl fB) := by rw [e_h86, va_up_neq (by omega)]; exact F_h72__q_3_
  have F_h86__q_4_ : h86 (q + 4) = .inl (1, (l + 1), .inl wB) := by rw [e_h86, va_up_neq (by omega)]; exact F_h72__q_4_
  have F_h86__q_5_ : h86 (q + 5) = .inl (1, M, .inl oB) := by rw [e_h86, va_up_neq (by omega)]; exact F_h72__q_5_
  have F_h86__q_6_ : h86 (q + 6) = .inl (1, M, .inl sB_) := by rw [e_h86, va_up_neq (by omega)]; exact F_h72__q_6_
  have FR_h86 : Fr h h86 (fun j => k ≤ j ∧ j ≤ k + 6) := FR_h72.zup e_h86 (by first | exact rfl | exact Or.inl rfl | exact Or.inr rfl | exact ⟨by decide, by decide⟩ | decide | omega)
  clear F_h72_k F_h72__k_1_ F_h72__k_2_ F_h72__k_3_ F_h72__k_4_ F_h72__k_5_ F_h72__k_6_ F_h72_q F_h72__q_1_ F_h72__q_2_ F_h72__q_3_ F_h72__q_4_ F_h72__q_5_ F_h72__q_6_ FR_h72 e_h86
  refine WX.s1 rfl rfl ?_
  refine WX.get1 (fs := [.int (nI l), .ref (q + 1), .ref (q + 2), .ref (q + 3), .ref (q + 4), .ref (q + 5), .ref (q + 6), .int (nI o), .int 1]) rfl (by omega) (F_h86_q) rfl ?_
  refine WX.s1 rfl rfl ?_
  refine WX.s1 rfl rfl ?_
  refine WX.get1 (fs := [.int (nI l), .ref (k + 1), .ref (k + 2), .ref (k + 3), .ref (k + 4), .ref (k + 5), .ref (k + 6), .int (nI o), .int 1]) rfl (by omega) (F_h86_k) rfl ?_
  refine WX.s1 rfl rfl ?_
  refine WX.s1 rfl rfl ?_
  refine WX.copyN rfl (Nat.le_of_ble_eq_true rfl) (Or.inl (by omega)) (F_h86__q_4_) (by omega) (F_h86__k_4_) (p := 0) (q := 0) (c := l + 1) rfl rfl rfl (by omega) (by omega) (by omega) (by omega) (fun g100 h100 e_g100 e_h100 => ?_)
  have F_h100_k : h100 k = .inr (8, [.int (nI l), .ref (k + 1), .ref (k + 2), .ref (k + 3), .ref (k + 4), .ref (k + 5), .ref (k + 6), .int (nI o), .int 1]) := by rw [e_h100, va_up_neq (nek1 (a := 4) (by decide))]; exact F_h86_k
  have F_h100__k_1_ : h100 (k + 1) = .inl (1, (l + 1), .inl g72) := by rw [e_h100, va_up_neq (nek (a := 1) (b := 4) (by decide))]; exact F_h86__k_1_
  have F_h100__k_2_ : h100 (k + 2) = .inl (1, (l + 1), .inl rA) := by rw [e_h100, va_up_neq (nek (a := 2) (b := 4) (by decide))]; exact F_h86__k_2_
  have F_h100__k_3_ : h100 (k + 3) = .inl (1, (l + 1), .inl g86) := by rw [e_h100, va_up_neq (nek (a := 3) (b := 4) (by decide))]; exact F_h86__k_3_
  have F_h100__k_4_ : h100 (k + 4) = .inl (1, (l + 1), .inl g100) := by rw [e_h100]; exact va_up_eq
  have F_h100__k_5_ : h100 (k + 5) = .inl (1, M, .inl oA) := by rw [e_h100, va_up_neq (nek (a := 5) (b := 4) (by decide))]; exact F_h86__k_5_
  have F_h100__k_6_ : h100 (k + 6) = .inl (1, M, .inl sA) := by rw [e_h100, va_up_neq (nek (a := 6) (b := 4) (by decide))]; exact F_h86__k_6_
  have F_h100_q : h100 q = .inr (8, [.int (nI l), .ref (q + 1), .ref (q + 2), .ref (q + 3), .ref (q + 4), .ref (q + 5), .ref (q + 6), .int (nI o), .int 1]) := by rw [e_h100, va_up_neq (by omega)]; exact F_h86_q
  have F_h100__q_1_ : h100 (q + 1) = .inl (1, (l + 1), .inl pB) := by rw [e_h100, va_up_neq (by omega)]; exact F_h86__q_1_
  have F_h100__q_2_ : h100 (q + 2) = .inl (1, (l + 1), .inl rB) := by rw [e_h100, va_up_neq (by omega)]; exact F_h86__q_2_
  have F_h100__q_3_ : h100 (q + 3) = .inl (1, (l + 1), .inl fB) := by rw [e_h100, va_up_neq (by omega)]; exact F_h86__q_3_
  have F_h100__q_4_ : h100 (q + 4) = .inl (1, (l + 1), .inl wB) := by rw [e_h100, va_up_neq (by omega)]; exact F_h86__q_4_
  have F_h100__q_5_ : h100 (q + 5) = .inl (1, M, .inl oB) := by rw [e_h100, va_up_neq (by omega)]; exact F_h86__q_5_
  have F_h100__q_6_ : h100 (q + 6) = .inl (1, M, .inl sB_) := by rw [e_h100, va_up_neq (by omega)]; exact F_h86__q_6_
  have FR_h100 : Fr h h100 (fun j => k ≤ j ∧ j ≤ k + 6) := FR_h86.zup e_h100 (by first | exact rfl | exact Or.inl rfl | exact Or.inr rfl | exact ⟨by decide, by decide⟩ | decide | omega)
  clear F_h86_k F_h86__k_1_ F_h86__k_2_ F_h86__k_3_ F_h86__k_4_ F_h86__k_5_ F_h86__k_6_ F_h86_q F_h86__q_1_ F_h86__q_2_ F_h86__q_3_ F_h86__q_4_ F_h86__q_5_ F_h86__q_6_ FR_h86 e_h100
  refine WX.s1 rfl rfl ?_
  refine WX.get1 (fs := [.int (nI l), .ref (q + 1), .ref (q + 2), .ref (q + 3), .ref (q + 4), .ref (q + 5), .ref (q + 6), .int (nI o), .int 1]) rfl (by omega) (F_h100_q) rfl ?_
  refine WX.s1 rfl rfl ?_
  refine WX.s1 rfl rfl ?_
  refine WX.get1 (fs := [.int (nI l), .ref (k + 1), .ref (k + 2), .ref (k + 3), .ref (k + 4), .ref (k + 5), .ref (k + 6), .int (nI o), .int 1]) rfl (by omega) (F_h100_k) rfl ?_
  refine WX.s1 rfl rfl ?_
  refine WX.s1 rfl rfl ?_
  refine WX.copyN rfl (Nat.le_of_ble_eq_true rfl) (Or.inl (by omega)) (F_h100__q_5_) (by omega) (F_h100__k_5_) (p := 0) (q := 0) (c := 2 ^ o) rfl rfl rfl (by omega) (by omega) (by omega) (by omega) (fun g114 h114 e_g114 e_h114 => ?_)
  have F_h114_k : h114 k = .inr (8, [.int (nI l), .ref (k + 1), .ref (k + 2), .ref (k + 3), .ref (k + 4), .ref (k + 5), .ref (k + 6), .int (nI o), .int 1]) := by rw [e_h114, va_up_neq (nek1 (a := 5) (by decide))]; exact F_h100_k
  have F_h114__k_1_ : h114 (k + 1) = .inl (1, (l + 1), .inl g72) := by rw [e_h114, va_up_neq (nek (a := 1) (b := 5) (by decide))]; exact F_h100__k_1_
  have F_h114__k_2_ : h114 (k + 2) = .inl (1, (l + 1), .inl rA) := by rw [e_h114, va_up_neq (nek (a := 2) (b := 5) (by decide))]; exact F_h100__k_2_
  have F_h114__k_3_ : h114 (k + 3) = .inl (1, (l + 1), .inl g86) := by rw [e_h114, va_up_neq (nek (a := 3) (b := 5) (by decide))]; exact F_h100__k_3_
  have F_h114__k_4_ : h114 (k + 4) = .inl (1, (l + 1), .inl g100) := by rw [e_h114, va_up_neq (nek (a := 4) (b := 5) (by decide))]; exact F_h100__k_4_
  have F_h114__k_5_ : h114 (k + 5) = .inl (1, M, .inl g114) := by rw [e_h114]; exact va_up_eq
  have F_h114__k_6_ : h114 (k + 6) = .inl (1, M, .inl sA) := by rw [e_h114, va_up_neq (nek (a := 6) (b := 5) (by decide))]; exact F_h100__k_6_
  have F_h114_q : h114 q = .inr (8, [.int (nI l), .ref (q + 1), .ref (q + 2), .ref (q + 3), .ref (q + 4), .ref (q + 5), .ref (q + 6), .int (nI o), .int 1]) := by rw [e_h114, va_up_neq (by omega)]; exact F_h100_q
  have F_h114__q_1_ : h114 (q + 1) = .inl (1, (l + 1), .inl pB) := by rw [e_h114, va_up_neq (by omega)]; exact F_h100__q_1_
  have F_h114__q_2_ : h114 (q + 2) = .inl (1, (l + 1), .inl rB) := by rw [e_h114, va_up_neq (by omega)]; exact F_h100__q_2_
  have F_h114__q_3_ : h114 (q + 3) = .inl (1, (l + 1), .inl fB) := by rw [e_h114, va_up_neq (by omega)]; exact F_h100__q_3_
  have F_h114__q_4_ : h114 (q + 4) = .inl (1, (l + 1), .inl wB) := by rw [e_h114, va_up_neq (by omega)]; exact F_h100__q_4_
  have F_h114__q_5_ : h114 (q + 5) = .inl (1, M, .inl oB) := by rw [e_h114, va_up_neq (by omega)]; exact F_h100__q_5_
  have F_h114__q_6_ : h114 (q + 6) = .inl (1, M, .inl sB_) := by rw [e_h114, va_up_neq (by omega)]; exact F_h100__q_6_
  have FR_h114 : Fr h h114 (fun j => k ≤ j ∧ j ≤ k + 6) := FR_h100.zup e_h114 (by first | exact rfl | exact Or.inl rfl | exact Or.inr rfl | exact ⟨by decide, by decide⟩ | decide | omega)
  clear F_h100_k F_h100__k_1_ F_h100__k_2_ F_h100__k_3_ F_h100__k_4_ F_h100__k_5_ F_h100__k_6_ F_h100_q F_h100__q_1_ F_h100__q_2_ F_h100__q_3_ F_h100__q_4_ F_h100__q_5_ F_h100__q_6_ FR_h100 e_h114
  refine WX.s1 rfl rfl ?_
  refine WX.get1 (fs := [.int (nI l), .ref (q + 1), .ref (q + 2), .ref (q + 3), .ref (q + 4), .ref (q + 5), .ref (q + 6), .int (nI o), .int 1]) rfl (by omega) (F_h114_q) rfl ?_
  refine WX.s1 rfl rfl ?_
  refine WX.s1 rfl rfl ?_
  refine WX.get1 (fs := [.int (nI l), .ref (k + 1), .ref (k + 2), .ref (k + 3), .ref (k + 4), .ref (k + 5), .ref (k + 6), .int (nI o), .int 1]) rfl (by omega) (F_h114_k) rfl ?_
  refine WX.s1 rfl rfl ?_
  refine WX.s1 rfl rfl ?_
  refine WX.copyN rfl (Nat.le_of_ble_eq_true rfl) (Or.inl (by omega)) (F_h114__q_6_) (by omega) (F_h114__k_6_) (p := 0) (q := 0) (c := 2 ^ o) rfl rfl rfl (by omega) (by omega) (by omega) (by omega) (fun g128 h128 e_g128 e_h128 => ?_)
  have F_h128_k : h128 k = .inr (8, [.int (nI l), .ref (k + 1), .ref (k + 2), .ref (k + 3), .ref (k + 4), .ref (k + 5), .ref (k + 6), .int (nI o), .int 1]) := by rw [e_h128, va_up_neq (nek1 (a := 6) (by decide))]; exact F_h114_k
  have F_h128__k_1_ : h128 (k + 1) = .inl (1, (l + 1), .inl g72) := by rw [e_h128, va_up_neq (nek (a := 1) (b := 6) (by decide))]; exact F_h114__k_1_
  have F_h128__k_2_ : h128 (k + 2) = .inl (1, (l + 1), .inl rA) := by rw [e_h128, va_up_neq (nek (a := 2) (b := 6) (by decide))]; exact F_h114__k_2_
  have F_h128__k_3_ : h128 (k + 3) = .inl (1, (l + 1), .inl g86) := by rw [e_h128, va_up_neq (nek (a := 3) (b := 6) (by decide))]; exact F_h114__k_3_
  have F_h128__k_4_ : h128 (k + 4) = .inl (1, (l + 1), .inl g100) := by rw [e_h128, va_up_neq (nek (a := 4) (b := 6) (by decide))]; exact F_h114__k_4_
  have F_h128__k_5_ : h128 (k + 5) = .inl (1, M, .inl g114) := by rw [e_h128, va_up_neq (nek (a := 5) (b := 6) (by decide))]; exact F_h114__k_5_
  have F_h128__k_6_ : h128 (k + 6) = .inl (1, M, .inl g128) := by rw [e_h128]; exact va_up_eq
  have F_h128_q : h128 q = .inr (8, [.int (nI l), .ref (q + 1), .ref (q + 2), .ref (q + 3), .ref (q + 4), .ref (q + 5), .ref (q + 6), .int (nI o), .int 1]) := by rw [e_h128, va_up_neq (by omega)]; exact F_h114_q
  have F_h128__q_1_ : h128 (q + 1) = .inl (1, (l + 1), .inl pB) := by rw [e_h128, va_up_neq (by omega)]; exact F_h114__q_1_
  have F_h128__q_2_ : h128 (q + 2) = .inl (1, (l + 1), .inl rB) := by rw [e_h128, va_up_neq (by omega)]; exact F_h114__q_2_
  have F_h128__q_3_ : h128 (q + 3) = .inl (1, (l + 1), .inl fB) := by rw [e_h128, va_up_neq (by omega)]; exact F_h114__q_3_
  have F_h128__q_4_ : h128 (q + 4) = .inl (1, (l + 1), .inl wB) := by rw [e_h128, va_up_neq (by omega)]; exact F_h114__q_4_
  have F_h128__q_5_ : h128 (q + 5) = .inl (1, M, .inl oB) := by rw [e_h128, va_up_neq (by omega)]; exact F_h114__q_5_
  have F_h128__q_6_ : h128 (q + 6) = .inl (1, M, .inl sB_) := by rw [e_h128, va_up_neq (by omega)]; exact F_h114__q_6_
  have FR_h128 : Fr h h128 (fun j => k ≤ j ∧ j ≤ k + 6) := FR_h114.zup e_h128 (by first | exact rfl | exact Or.inl rfl | exact Or.inr rfl | exact ⟨by decide, by decide⟩ | decide | omega)
  clear F_h114_k F_h114__k_1_ F_h114__k_2_ F_h114__k_3_ F_h114__k_4_ F_h114__k_5_ F_h114__k_6_ F_h114_q F_h114__q_1_ F_h114__q_2_ F_h114__q_3_ F_h114__q_4_ F_h114__q_5_ F_h114__q_6_ FR_h114 e_h128
  exact WX.ret0 rfl (kk h128 FR_h128 ⟨g72, rA, g86, g100, g114, g128, ⟨F_h128_k, F_h128__k_1_, F_h128__k_2_, F_h128__k_3_, F_h128__k_4_, F_h128__k_5_, F_h128__k_6_⟩, fun s hs => ⟨by rw [e_g72]; exact cpy0 (by omega), by rw [e_g86]; exact cpy0 (by omega), by rw [e_g100]; exact cpy0 (by omega)⟩, fun p hp => ⟨by rw [e_g114]; exact cpy0 hp, by rw [e_g128]; exact cpy0 hp⟩⟩)
set_option maxRecDepth 20000 in
theorem x_sbecN {d n s : Nat} {h : Nat → aE} {k q l M : Nat} {od th oq : Int32} {pA rA fA wA oA sA pB rB fB wB oB sB_ : Nat → Int32}  (hk : k + 6 < n) (hq : q + 6 < n) (hkq : k + 6 < q ∨ q + 6 < k) (hl : l < 64) (hMb : M < 2 ^ 20)   (F_h_k : h k = .inr (8, [.int (nI l), .ref (k + 1), .ref (k + 2), .ref (k + 3), .ref (k + 4), .ref (k + 5), .ref (k + 6), .int od, .int th])) (F_h__k_1_ : h (k + 1) = .inl (1, (l + 1), .inl pA)) (F_h__k_2_ : h (k + 2) = .inl (1, (l + 1), .inl rA)) (F_h__k_3_ : h (k + 3) = .inl (1, (l + 1), .inl fA)) (F_h__k_4_ : h (k + 4) = .inl (1, (l + 1), .inl wA)) (F_h__k_5_ : h (k + 5) = .inl (1, M, .inl oA)) (F_h__k_6_ : h (k + 6) = .inl (1, M, .inl sA)) (F_h_q : h q = .inr (8, [.int (nI l), .ref (q + 1), .ref (q + 2), .ref (q + 3), .ref (q + 4), .ref (q + 5), .ref (q + 6), .int oq, .int 0])) (F_h__q_1_ : h (q + 1) = .inl (1, (l + 1), .inl pB)) (F_h__q_2_ : h (q + 2) = .inl (1, (l + 1), .inl rB)) (F_h__q_3_ : h (q + 3) = .inl (1, (l + 1), .inl fB)) (F_h__q_4_ : h (q + 4) = .inl (1, (l + 1), .inl wB)) (F_h__q_5_ : h (q + 5) = .inl (1, M, .inl oB)) (F_h__q_6_ : h (q + 6) = .inl (1, M, .inl sB_)) {Ψ : Option Value → aH → Prop} (kk : ∀ h', Fr h h' (fun j => k ≤ j ∧ j ≤ k + 6) → ShN h' k l M → Ψ none (n, s, h')) : WO (mM (d + 1)) 97 [.ref k, .ref q] (n, s, h) Ψ := by
  refine WO.of (Nat.le_of_ble_eq_true rfl) ?_
  have FR_h : Fr h h (fun j => k ≤ j ∧ j ≤ k + 6) := Fr.rf
  show WX (lk tX8_become) (mM d) Ψ 0 [(0, .ref k), (1, .ref q)] [] (n, s, h)
  refine WX.s1 rfl rfl ?_
  refine WX.s1 rfl rfl ?_
  refine WX.get1 (fs := [.int (nI l), .ref (q + 1), .ref (q + 2), .ref (q + 3), .ref (q + 4), .ref (q + 5), .ref (q + 6), .int oq, .int 0]) rfl (by omega) (F_h_q) rfl ?_
  refine WX.put1 (fs := [.int (nI l), .ref (k + 1), .ref (k + 2), .ref (k + 3), .ref (k + 4), .ref (k + 5), .ref (k + 6), .int od, .int th]) (fs' := [.int (nI l), .ref (k + 1), .ref (k + 2), .ref (k + 3), .ref (k + 4), .ref (k + 5), .ref (k + 6), .int od, .int 0]) rfl (by omega) (F_h_k) (Nat.le_of_ble_eq_true rfl) (rfl) rfl (fun h5 e_h5 => ?_)
  have F_h5_k : h5 k = .inr (8, [.int (nI l), .ref (k + 1), .ref (k + 2), .ref (k + 3), .ref (k + 4), .ref (k + 5), .ref (k + 6), .int od, .int 0]) := by rw [e_h5]; exact va_up_eq
  have F_h5__k_1_ : h5 (k + 1) = .inl (1, (l + 1), .inl pA) := by rw [e_h5, va_up_neq (nek0 (a := 1) (by decide))]; exact F_h__k_1_
  have F_h5__k_2_ : h5 (k + 2) = .inl (1, (l + 1), .inl rA) := by rw [e_h5, va_up_neq (nek0 (a := 2) (by decide))]; exact F_h__k_2_
  have F_h5__k_3_ : h5 (k + 3) = .inl (1, (l + 1), .inl fA) := by rw [e_h5, va_up_neq (nek0 (a := 3) (by decide))]; exact F_h__k_3_
  have F_h5__k_4_ : h5 (k + 4) = .inl (1, (l + 1), .inl wA) := by rw [e_h5, va_up_neq (nek0 (a := 4) (by decide))]; exact F_h__k_4_
  have F_h5__k_5_ : h5 (k + 5) = .inl (1, M, .inl oA) := by rw [e_h5, va_up_neq (nek0 (a := 5) (by decide))]; exact F_h__k_5_
  have F_h5__k_6_ : h5 (k + 6) = .inl (1, M, .inl sA) := by rw [e_h5, va_up_neq (nek0 (a := 6) (by decide))]; exact F_h__k_6_
  have F_h5_q : h5 q = .inr (8, [.int (nI l), .ref (q + 1), .ref (q + 2), .ref (q + 3), .ref (q + 4), .ref (q + 5), .ref (q + 6), .int oq, .int 0]) := by rw [e_h5, va_up_neq (by omega)]; exact F_h_q
  have F_h5__q_1_ : h5 (q + 1) = .inl (1, (l + 1), .inl pB) := by rw [e_h5, va_up_neq (by omega)]; exact F_h__q_1_
  have F_h5__q_2_ : h5 (q + 2) = .inl (1, (l + 1), .inl rB) := by rw [e_h5, va_up_neq (by omega)]; exact F_h__q_2_
  have F_h5__q_3_ : h5 (q + 3) = .inl (1, (l + 1), .inl fB) := by rw [e_h5, va_up_neq (by omega)]; exact F_h__q_3_
  have F_h5__q_4_ : h5 (q + 4) = .inl (1, (l + 1), .inl wB) := by rw [e_h5, va_up_neq (by omega)]; exact F_h__q_4_
  have F_h5__q_5_ : h5 (q + 5) = .inl (1, M, .inl oB) := by rw [e_h5, va_up_neq (by omega)]; exact F_h__q_5_
  have F_h5__q_6_ : h5 (q + 6) = .inl (1, M, .inl sB_) := by rw [e_h5, va_up_neq (by omega)]; exact F_h__q_6_
  have FR_h5 : Fr h h5 (fun j => k ≤ j ∧ j ≤ k + 6) := FR_h.zup e_h5 (by first | exact rfl | exact Or.inl rfl | exact Or.inr rfl | exact ⟨by decide, by decide⟩ | decide | omega)
  clear F_h_k F_h__k_1_ F_h__k_2_ F_h__k_3_ F_h__k_4_ F_h__k_5_ F_h__k_6_ F_h_q F_h__q_1_ F_h__q_2_ F_h__q_3_ F_h__q_4_ F_h__q_5_ F_h__q_6_ FR_h e_h5
  refine WX.s1 rfl rfl ?_
  refine WX.get1 (fs := [.int (nI l), .ref (k + 1), .ref (k + 2), .ref (k + 3), .ref (k + 4), .ref (k + 5), .ref (k + 6), .int od, .int 0]) rfl (by omega) (F_h5_k) rfl ?_
  refine WX.if_ rfl (fun c_12 => absurd c_12 (by decide)) (fun c_12 => ?_)
  clear c_12
  exact WX.ret0 rfl (kk h5 FR_h5 ⟨_, pA, rA, fA, wA, oA, sA, F_h5_k, F_h5__k_1_, F_h5__k_2_, F_h5__k_3_, F_h5__k_4_, F_h5__k_5_, F_h5__k_6_⟩)
theorem xt_sbec {d n s : Nat} {h : Nat → aE} {k q l M : Nat} {t : Option Tb} (hk : k + 6 < n) (hq : q + 6 < n) (hkq : k + 6 < q ∨ q + 6 < k) (hl : l < 64) (hMb : M < 2 ^ 20) (hT : TbO l M t) (X : ShX h k l M) (H : HeldT h q l M t) {Ψ : Option Value → aH → Prop} (kk : ∀ h', Fr h h' (fun j => k ≤ j ∧ j ≤ k + 6) → HeldT h' k l M t → Ψ none (n, s, h')) : WO (mM (d + 1)) 97 [.ref k, .ref q] (n, s, h) Ψ := by
  obtain ⟨od, th, pA, rA, fA, wA, oA, sA, x0, x1, x2, x3, x4, x5, x6⟩ := X
  cases t with
  | none =>
    obtain ⟨oq, pB, rB, fB, wB, oB, sB, y0, y1, y2, y3, y4, y5, y6⟩ := H
    exact x_sbecN hk hq hkq hl hMb x0 x1 x2 x3 x4 x5 x6 y0 y1 y2 y3 y4 y5 y6 kk
  | some t =>
    obtain ⟨pB, rB, fB, wB, oB, sB, ⟨y0, y1, y2, y3, y4, y5, y6⟩, z1, z2, z3, z4, z5, z6⟩ := H
    have hT : TbOk l M t := hT
    refine x_sbecS hk hq hkq hl hMb hT.2.1 hT.2.2.1 x0 x1 x2 x3 x4 x5 x6 y0 y1 y2 y3 y4 y5 y6 (fun h' fr z => kk h' fr ?_)
    obtain ⟨pC, rC, fC, wC, oC, sC, a0, a1, a2⟩ := z
    refine ⟨pC, rC, fC, wC, oC, sC, a0, fun s hs => ?_, fun s hs => ?_, fun s hs hm => ?_, fun p hp => ?_, fun p hp => ?_, z6⟩
    · rw [(a1 s (by omega)).1]; exact z1 s hs
    · rw [(a1 s hs).2.1]; exact z2 s hs
    · rw [(a1 s hs).2.2]; exact z3 s hs hm
    · rw [(a2 p hp).1]; exact z4 p hp
    · rw [(a2 _ (slot_lt hT.1 hT.2.1 z6 hp)).2]; exact z5 p hp
set_option maxRecDepth 20000 in
theorem x_knSet {d n s : Nat} {h : Nat → aE} {ls : List Nat} {nA : Nat → Int32} (hn : 190 ≤ n) (hls : LsOk ls) (h2 : Two (cdF ls).1) (hnA : ∀ s, s < 256 → nA s = nI ((cdF ls).1 s)) (hX : CoX h 96) (hK : KnX h)   (F_h_91 : h 91 = .inl (1, 256, .inl nA)) {Ψ : Option Value → aH → Prop} (kk : ∀ h', Fr h h' (fun j => (96 ≤ j ∧ j ≤ 99) ∨ (101 ≤ j ∧ j ≤ 105)) → CoT h' 96 (dF (cL ls)) (topF (cL ls)) → KnX h' → Ψ none (n, s, h')) : WO (mM (d + 3)) 46 [.ref 100, .ref 91, .ref 96] (n, s, h) Ψ := by
  refine WO.of (Nat.le_of_ble_eq_true rfl) ?_
  have FR_h : Fr h h (fun j => (96 ≤ j ∧ j ≤ 99) ∨ (101 ≤ j ∧ j ≤ 105)) := Fr.rf
  obtain ⟨F_h_100, cA, yA, sA, oA, dA, F_h_101, F_h_102, F_h_103, F_h_104, F_h_105⟩ := id hK
  obtain ⟨tp, th, lA, kA, eA, F_h_96, F_h_97, F_h_98, F_h_99⟩ := id hX
  obtain ⟨hct, hce⟩ := cL_top hls
  have hlen := hls.2
  show WX (lk tX4_settle) (mM (d + 2)) Ψ 0 [(0, .ref 100), (1, .ref 91), (2, .ref 96)] [] (n, s, h)
  refine WX.s1 rfl rfl ?_
  refine WX.s1 rfl rfl ?_
  refine WX.s1 rfl rfl ?_
  refine WX.get1 (fs := [.ref 101, .ref 102, .ref 103, .ref 104, .ref 105]) rfl (ltN hn (by decide)) (F_h_100) rfl ?_
  refine WX.s1 rfl rfl ?_
  refine WX.s1 rfl rfl ?_
  refine WX.len1 rfl (Or.inl ⟨ltN hn (by decide), by decide⟩) (F_h_91) ?_
  refine WX.s1 rfl rfl ?_
  refine WX.get1 (fs := [.ref 101, .ref 102, .ref 103, .ref 104, .ref 105]) rfl (ltN hn (by decide)) (F_h_100) rfl ?_
  refine WX.len1 rfl (Or.inl ⟨ltN hn (by decide), by decide⟩) (F_h_101) ?_
  refine WX.s1 (S' := [.int (if (nI 256) < (nI 256) then (nI 256) else (nI 256)), .int 0, .ref 101, .int 0, .ref 91]) rfl rfl ?_
  rw [min_self]
  refine WX.copyN rfl (Nat.le_of_ble_eq_true rfl) (Or.inl (ltN hn (by decide))) (F_h_91) (ltN hn (by decide)) (F_h_101) (p := 0) (q := 0) (c := 256) rfl rfl rfl (by decide) (by decide) (by decide) (by decide) (fun g17 h17 e_g17 e_h17 => ?_)
  have F_h17_100 : h17 100 = .inr (4, [.ref 101, .ref 102, .ref 103, .ref 104, .ref 105]) := by rw [e_h17, va_up_neq (by decide)]; exact F_h_100
  have F_h17_101 : h17 101 = .inl (1, 256, .inl g17) := by rw [e_h17]; exact va_up_eq
  have F_h17_102 : h17 102 = .inl (1, 256, .inl yA) := by rw [e_h17, va_up_neq (by decide)]; exact F_h_102
  have F_h17_103 : h17 103 = .inl (1, 512, .inl sA) := by rw [e_h17, va_up_neq (by decide)]; exact F_h_103
  have F_h17_104 : h17 104 = .inl (1, 512, .inl oA) := by rw [e_h17, va_up_neq (by decide)]; exact F_h_104
  have F_h17_105 : h17 105 = .inl (1, 512, .inl dA) := by rw [e_h17, va_up_neq (by decide)]; exact F_h_105
  have F_h17_96 : h17 96 = .inr (0, [.ref 97, .ref 98, .ref 99, .int tp, .int th]) := by rw [e_h17, va_up_neq (by decide)]; exact F_h_96
  have F_h17_97 : h17 97 = .inl (1, 256, .inl lA) := by rw [e_h17, va_up_neq (by decide)]; exact F_h_97
  have F_h17_98 : h17 98 = .inl (1, 256, .inl kA) := by rw [e_h17, va_up_neq (by decide)]; exact F_h_98
  have F_h17_99 : h17 99 = .inl (1, 13, .inl eA) := by rw [e_h17, va_up_neq (by decide)]; exact F_h_99
  have F_h17_91 : h17 91 = .inl (1, 256, .inl nA) := by rw [e_h17, va_up_neq (by decide)]; exact F_h_91
  have FR_h17 : Fr h h17 (fun j => (96 ≤ j ∧ j ≤ 99) ∨ (101 ≤ j ∧ j ≤ 105)) := FR_h.zup e_h17 (by first | exact rfl | exact Or.inl rfl | exact Or.inr rfl | exact ⟨by decide, by decide⟩ | decide | omega)
  clear F_h_100 F_h_101 F_h_102 F_h_103 F_h_104 F_h_105 F_h_96 F_h_97 F_h_98 F_h_99 F_h_91 FR_h e_h17
  refine WX.s1 rfl rfl ?_
  refine WX.s1 (L' := [(0, .ref 100), (1, .ref 91), (2, .ref 96), (3, .int 12)]) rfl rfl ?_
  refine WX.s1 rfl rfl ?_
  refine WX.s1 (L' := [(0, .ref 100), (1, .ref 91), (2, .ref 96), (3, .int 12), (4, .int 0)]) rfl rfl ?_
  have hc0 : ∀ s, s < 256 → g17 s = nI ((cdF ls).1 s) ∧ (cdF ls).1 s ≤ 8000 := fun s hs => ⟨by rw [e_g17, cpy0 hs]; exact hnA s hs, Nat.le_trans (cd_all_le s) hlen⟩
  have hsm : sumN (cdF ls).1 256 ≤ 8000 := by rw [cd_sum hls.1]; exact hlen
  have lp : ∀ (mm : Nat) (c : Nat → Nat) (T r : Nat) (hL : Nat → aE) (cM yM sM oM dM lM : Nat → Int32), (∀ s, c s ≤ 2 ^ mm) → lbF (mm + 1) c = cL ls → sumN c 256 ≤ 8000 → Two c → r + mm ≤ 31 → 11 < T → T ≤ 512 → Fr h hL (fun j => (96 ≤ j ∧ j ≤ 99) ∨ (101 ≤ j ∧ j ≤ 105)) → hL 100 = .inr (4, [.ref 101, .ref 102, .ref 103, .ref 104, .ref 105]) → hL 101 = .inl (1, 256, .inl cM) → hL 102 = .inl (1, 256, .inl yM) → hL 103 = .inl (1, 512, .inl sM) → hL 104 = .inl (1, 512, .inl oM) → hL 105 = .inl (1, 512, .inl dM) → hL 96 = .inr (0, [.ref 97, .ref 98, .ref 99, .int tp, .int th]) → hL 97 = .inl (1, 256, .inl lM) → hL 98 = .inl (1, 256, .inl kA) → hL 99 = .inl (1, 13, .inl eA) → (∀ s, s < 256 → cM s = nI (c s) ∧ c s ≤ 8000) → WX (lk tX4_settle) (mM (d + 2)) Ψ 26 [(0, .ref 100), (1, .ref 91), (2, .ref 96), (3, .int (nI T)), (4, .int (nI r))] [] (n, s, hL) := by
    clear FR_h17 F_h17_91 F_h17_100 F_h17_101 F_h17_102 F_h17_103 F_h17_104 F_h17_105 F_h17_96 F_h17_97 F_h17_98 F_h17_99 hc0 hX hK h2
    intro mm
    induction mm with
    | zero =>
      intro c T r hL cM yM sM oM dM lM hcm hlb hsm2 hT2 hr hT11 hT512 FR_hL F_hL_100 F_hL_101 F_hL_102 F_hL_103 F_hL_104 F_hL_105 F_hL_96 F_hL_97 F_hL_98 F_hL_99 hc
      refine WX.s1 rfl rfl ?_
      refine WX.s1 rfl rfl ?_
      refine WX.icmp rfl (fun c_30 => absurd c_30 (fun zz_ => absurd ((nI_leI (a := 32) (b := r) (by omega) (by omega)).mp zz_) (Nat.not_le.mpr (by omega)))) (fun c_30 => ?_)
      clear c_30
      refine WX.s1 rfl rfl ?_
      refine WX.s1 rfl rfl ?_
      refine WX.icmp rfl (fun c_36 => absurd c_36 (fun zz_ => absurd ((nI_leI (a := T) (b := 11) (by omega) (by omega)).mp zz_) (Nat.not_le.mpr (by omega)))) (fun c_36 => ?_)
      clear c_36
      refine WX.s1 rfl rfl ?_
      refine WX.callC (vs := [.ref 100]) rfl rfl rfl (Nat.le_of_ble_eq_true rfl) (rcv_ok (ltN hn (by decide)) F_hL_100) ?_
      refine x_knSort hn hc F_hL_100 F_hL_101 F_hL_102 F_hL_103 (fun h40 y40 s40 sy nn fr40 F_h40_102 F_h40_103 hS hyA => ?_)
      have F_h40_100 : h40 100 = .inr (4, [.ref 101, .ref 102, .ref 103, .ref 104, .ref 105]) := (fr40 _ (by first | decide | omega)).trans F_hL_100
      have F_h40_101 : h40 101 = .inl (1, 256, .inl cM) := (fr40 _ (by first | decide | omega)).trans F_hL_101
      have F_h40_104 : h40 104 = .inl (1, 512, .inl oM) := (fr40 _ (by first | decide | omega)).trans F_hL_104
      have F_h40_105 : h40 105 = .inl (1, 512, .inl dM) := (fr40 _ (by first | decide | omega)).trans F_hL_105
      have F_h40_96 : h40 96 = .inr (0, [.ref 97, .ref 98, .ref 99, .int tp, .int th]) := (fr40 _ (by first | decide | omega)).trans F_hL_96
      have F_h40_97 : h40 97 = .inl (1, 256, .inl lM) := (fr40 _ (by first | decide | omega)).trans F_hL_97
      have F_h40_98 : h40 98 = .inl (1, 256, .inl kA) := (fr40 _ (by first | decide | omega)).trans F_hL_98
      have F_h40_99 : h40 99 = .inl (1, 13, .inl eA) := (fr40 _ (by first | decide | omega)).trans F_hL_99
      have FR_h40 : Fr h h40 (fun j => (96 ≤ j ∧ j ≤ 99) ∨ (101 ≤ j ∧ j ≤ 105)) := FR_hL.zsub fr40 (fun j hj => by first | exact hj | exact Or.inl hj | exact Or.inr hj | omega)
      show WX _ _ _ 43 [(0, .ref 100), (1, .ref 91), (2, .ref 96), (3, .int (nI T)), (4, .int (nI r))] [.int (nI nn)] (n, s, h40)
      have hnn := hT2.nn hS
      refine WX.s1 (L' := [(0, .ref 100), (1, .ref 91), (2, .ref 96), (3, .int (nI T)), (4, .int (nI r)), (5, .int (nI nn))]) rfl rfl ?_
      refine WX.s1 rfl rfl ?_
      refine WX.s1 rfl rfl ?_
      refine WX.callC (vs := [.ref 100, .int (nI nn)]) rfl rfl rfl (Nat.le_of_ble_eq_true rfl) (rcv_ok (ltN hn (by decide)) F_h40_100) ?_
      refine x_knJoin hn hS hnn hsm2 (fun q hq => (hyA q hq).2) F_h40_100 F_h40_103 F_h40_104 (fun h48 s48 o48 ow fr48 F_h48_103 F_h48_104 hCI hoA => ?_)
      have F_h48_100 : h48 100 = .inr (4, [.ref 101, .ref 102, .ref 103, .ref 104, .ref 105]) := (fr48 _ (by first | decide | omega)).trans F_h40_100
      have F_h48_101 : h48 101 = .inl (1, 256, .inl cM) := (fr48 _ (by first | decide | omega)).trans F_h40_101
      have F_h48_102 : h48 102 = .inl (1, 256, .inl y40) := (fr48 _ (by first | decide | omega)).trans F_h40_102
      have F_h48_105 : h48 105 = .inl (1, 512, .inl dM) := (fr48 _ (by first | decide | omega)).trans F_h40_105
      have F_h48_96 : h48 96 = .inr (0, [.ref 97, .ref 98, .ref 99, .int tp, .int th]) := (fr48 _ (by first | decide | omega)).trans F_h40_96
      have F_h48_97 : h48 97 = .inl (1, 256, .inl lM) := (fr48 _ (by first | decide | omega)).trans F_h40_97
      have F_h48_98 : h48 98 = .inl (1, 256, .inl kA) := (fr48 _ (by first | decide | omega)).trans F_h40_98
      have F_h48_99 : h48 99 = .inl (1, 13, .inl eA) := (fr48 _ (by first | decide | omega)).trans F_h40_99
      have FR_h48 : Fr h h48 (fun j => (96 ≤ j ∧ j ≤ 99) ∨ (101 ≤ j ∧ j ≤ 105)) := FR_h40.zsub fr48 (fun j hj => by first | exact hj | exact Or.inl hj | exact Or.inr hj | omega)
      show WX _ _ _ 51 [(0, .ref 100), (1, .ref 91), (2, .ref 96), (3, .int (nI T)), (4, .int (nI r)), (5, .int (nI nn))] [] (n, s, h48)
      refine WX.s1 rfl rfl ?_
      refine WX.s1 rfl rfl ?_
      refine WX.s1 rfl rfl ?_
      refine WX.get1 (fs := [.ref 97, .ref 98, .ref 99, .int tp, .int th]) rfl (ltN hn (by decide)) (F_h48_96) rfl ?_
      refine WX.callC (vs := [.ref 100, .int (nI nn), .ref 97]) rfl rfl rfl (Nat.le_of_ble_eq_true rfl) (rcv_ok (ltN hn (by decide)) F_h48_100) ?_
      refine x_knMeas hn hS hnn hCI hoA (fun q hq => (hyA q hq).1) F_h48_100 F_h48_102 F_h48_104 F_h48_105 F_h48_97 (fun h58 l58 d58 fr58 F_h58_97 F_h58_105 hlen8 => ?_)
      have F_h58_100 : h58 100 = .inr (4, [.ref 101, .ref 102, .ref 103, .ref 104, .ref 105]) := (fr58 _ (by first | decide | omega)).trans F_h48_100
      have F_h58_101 : h58 101 = .inl (1, 256, .inl cM) := (fr58 _ (by first | decide | omega)).trans F_h48_101
      have F_h58_102 : h58 102 = .inl (1, 256, .inl y40) := (fr58 _ (by first | decide | omega)).trans F_h48_102
      have F_h58_103 : h58 103 = .inl (1, 512, .inl s48) := (fr58 _ (by first | decide | omega)).trans F_h48_103
      have F_h58_104 : h58 104 = .inl (1, 512, .inl o48) := (fr58 _ (by first | decide | omega)).trans F_h48_104
      have F_h58_96 : h58 96 = .inr (0, [.ref 97, .ref 98, .ref 99, .int tp, .int th]) := (fr58 _ (by first | decide | omega)).trans F_h48_96
      have F_h58_98 : h58 98 = .inl (1, 256, .inl kA) := (fr58 _ (by first | decide | omega)).trans F_h48_98
      have F_h58_99 : h58 99 = .inl (1, 13, .inl eA) := (fr58 _ (by first | decide | omega)).trans F_h48_99
      have FR_h58 : Fr h h58 (fun j => (96 ≤ j ∧ j ≤ 99) ∨ (101 ≤ j ∧ j ≤ 105)) := FR_h48.zsub fr58 (fun j hj => by first | exact hj | exact Or.inl hj | exact Or.inr hj | omega)
      show WX _ _ _ 61 [(0, .ref 100), (1, .ref 91), (2, .ref 96), (3, .int (nI T)), (4, .int (nI r)), (5, .int (nI nn))] [.int (nI (topF c))] (n, s, h58)
      refine WX.s1 (L' := [(0, .ref 100), (1, .ref 91), (2, .ref 96), (3, .int (nI (topF c))), (4, .int (nI r)), (5, .int (nI nn))]) rfl rfl ?_
      refine WX.s1 rfl rfl ?_
      refine WX.callC (vs := [.ref 100]) rfl rfl rfl (Nat.le_of_ble_eq_true rfl) (rcv_ok (ltN hn (by decide)) F_h58_100) ?_
      refine x_knHalf hn hc F_h58_100 F_h58_101 (fun h63 c63 fr63 F_h63_101 hc63 => ?_)
      have F_h63_100 : h63 100 = .inr (4, [.ref 101, .ref 102, .ref 103, .ref 104, .ref 105]) := (fr63 _ (by first | decide | omega)).trans F_h58_100
      have F_h63_102 : h63 102 = .inl (1, 256, .inl y40) := (fr63 _ (by first | decide | omega)).trans F_h58_102
      have F_h63_103 : h63 103 = .inl (1, 512, .inl s48) := (fr63 _ (by first | decide | omega)).trans F_h58_103
      have F_h63_104 : h63 104 = .inl (1, 512, .inl o48) := (fr63 _ (by first | decide | omega)).trans F_h58_104
      have F_h63_105 : h63 105 = .inl (1, 512, .inl d58) := (fr63 _ (by first | decide | omega)).trans F_h58_105
      have F_h63_96 : h63 96 = .inr (0, [.ref 97, .ref 98, .ref 99, .int tp, .int th]) := (fr63 _ (by first | decide | omega)).trans F_h58_96
      have F_h63_97 : h63 97 = .inl (1, 256, .inl l58) := (fr63 _ (by first | decide | omega)).trans F_h58_97
      have F_h63_98 : h63 98 = .inl (1, 256, .inl kA) := (fr63 _ (by first | decide | omega)).trans F_h58_98
      have F_h63_99 : h63 99 = .inl (1, 13, .inl eA) := (fr63 _ (by first | decide | omega)).trans F_h58_99
      have FR_h63 : Fr h h63 (fun j => (96 ≤ j ∧ j ≤ 99) ∨ (101 ≤ j ∧ j ≤ 105)) := FR_h58.zsub fr63 (fun j hj => by first | exact hj | exact Or.inl hj | exact Or.inr hj | omega)
      show WX _ _ _ 66 [(0, .ref 100), (1, .ref 91), (2, .ref 96), (3, .int (nI (topF c))), (4, .int (nI r)), (5, .int (nI nn))] [] (n, s, h63)
      refine WX.s1 (L' := [(0, .ref 100), (1, .ref 91), (2, .ref 96), (3, .int (nI (topF c))), (4, .int ((nI r) + 1)), (5, .int (nI nn))]) rfl rfl ?_
      rw [show ((nI r) + 1) = nI (r + 1) from nI_add r 1]
      refine WX.s1 rfl rfl ?_
      refine WX.keep (y := 46) [0, 1, 2, 3, 4] (show ([0, 1, 2, 3, 4, 5] : List Nat).Nodup by decide) rfl ?_
      have htb : topF c ≤ 18 := mxK_le (fun s => dF_le hsm2 (by decide)) 256
      have htp := top_pos hT2
      by_cases ht : topF c ≤ 11
      · have hcc : c = cL ls := (lb_1 ht).symm.trans hlb
        refine WX.s1 rfl rfl ?_
        refine WX.s1 rfl rfl ?_
        refine WX.icmp rfl (fun c_30 => ?_) (fun c_30 => ?_)
        · skip
          have n_30 : 32 ≤ (r + 1) := (nI_leI (a := 32) (b := r + 1) (by omega) (by omega)).mp c_30
          refine WX.s1 rfl rfl ?_
          refine WX.s1 rfl rfl ?_
          refine WX.callC (vs := [.ref 96, .int (nI (topF c))]) rfl rfl rfl (Nat.le_of_ble_eq_true rfl) (rcv_ok (ltN hn (by decide)) F_h63_96) ?_
          refine x_cset (k := 96) (by omega) hlen8 (kraft htp ht) F_h63_96 F_h63_97 F_h63_98 F_h63_99 (fun h74 fr74 PT => ?_)
          have F_h74_100 : h74 100 = .inr (4, [.ref 101, .ref 102, .ref 103, .ref 104, .ref 105]) := (fr74 _ (by first | decide | omega)).trans F_h63_100
          have F_h74_101 : h74 101 = .inl (1, 256, .inl c63) := (fr74 _ (by first | decide | omega)).trans F_h63_101
          have F_h74_102 : h74 102 = .inl (1, 256, .inl y40) := (fr74 _ (by first | decide | omega)).trans F_h63_102
          have F_h74_103 : h74 103 = .inl (1, 512, .inl s48) := (fr74 _ (by first | decide | omega)).trans F_h63_103
          have F_h74_104 : h74 104 = .inl (1, 512, .inl o48) := (fr74 _ (by first | decide | omega)).trans F_h63_104
          have F_h74_105 : h74 105 = .inl (1, 512, .inl d58) := (fr74 _ (by first | decide | omega)).trans F_h63_105
          have FR_h74 : Fr h h74 (fun j => (96 ≤ j ∧ j ≤ 99) ∨ (101 ≤ j ∧ j ≤ 105)) := FR_h63.zsub fr74 (fun j hj => by first | exact hj | exact Or.inl hj | exact Or.inr hj | omega)
          show WX _ _ _ 77 [(0, .ref 100), (1, .ref 91), (2, .ref 96), (3, .int (nI (topF c))), (4, .int (nI (r + 1)))] [] (n, s, h74)
          exact WX.ret0 rfl (kk h74 FR_h74 (by rw [hcc] at PT; exact PT) ⟨F_h74_100, _, _, _, _, _, F_h74_101, F_h74_102, F_h74_103, F_h74_104, F_h74_105⟩)
        · skip
          have n_30 : (r + 1) < 32 := Nat.lt_of_not_le (fun zz_ => c_30 ((nI_leI (a := 32) (b := r + 1) (by omega) (by omega)).mpr zz_))
          refine WX.s1 rfl rfl ?_
          refine WX.s1 rfl rfl ?_
          refine WX.icmp rfl (fun c_36 => ?_) (fun c_36 => absurd ((nI_leI (a := topF c) (b := 11) (by omega) (by omega)).mpr (by omega)) c_36)
          clear c_36
          refine WX.s1 rfl rfl ?_
          refine WX.s1 rfl rfl ?_
          refine WX.callC (vs := [.ref 96, .int (nI (topF c))]) rfl rfl rfl (Nat.le_of_ble_eq_true rfl) (rcv_ok (ltN hn (by decide)) F_h63_96) ?_
          refine x_cset (k := 96) (by omega) hlen8 (kraft htp ht) F_h63_96 F_h63_97 F_h63_98 F_h63_99 (fun h74 fr74 PT => ?_)
          have F_h74_100 : h74 100 = .inr (4, [.ref 101, .ref 102, .ref 103, .ref 104, .ref 105]) := (fr74 _ (by first | decide | omega)).trans F_h63_100
          have F_h74_101 : h74 101 = .inl (1, 256, .inl c63) := (fr74 _ (by first | decide | omega)).trans F_h63_101
          have F_h74_102 : h74 102 = .inl (1, 256, .inl y40) := (fr74 _ (by first | decide | omega)).trans F_h63_102
          have F_h74_103 : h74 103 = .inl (1, 512, .inl s48) := (fr74 _ (by first | decide | omega)).trans F_h63_103
          have F_h74_104 : h74 104 = .inl (1, 512, .inl o48) := (fr74 _ (by first | decide | omega)).trans F_h63_104
          have F_h74_105 : h74 105 = .inl (1, 512, .inl d58) := (fr74 _ (by first | decide | omega)).trans F_h63_105
          have FR_h74 : Fr h h74 (fun j => (96 ≤ j ∧ j ≤ 99) ∨ (101 ≤ j ∧ j ≤ 105)) := FR_h63.zsub fr74 (fun j hj => by first | exact hj | exact Or.inl hj | exact Or.inr hj | omega)
          show WX _ _ _ 77 [(0, .ref 100), (1, .ref 91), (2, .ref 96), (3, .int (nI (topF c))), (4, .int (nI (r + 1)))] [] (n, s, h74)
          exact WX.ret0 rfl (kk h74 FR_h74 (by rw [hcc] at PT; exact PT) ⟨F_h74_100, _, _, _, _, _, F_h74_101, F_h74_102, F_h74_103, F_h74_104, F_h74_105⟩)
      · exact absurd (top_1 hcm) ht
    | succ mm ih =>
      intro c T r hL cM yM sM oM dM lM hcm hlb hsm2 hT2 hr hT11 hT512 FR_hL F_hL_100 F_hL_101 F_hL_102 F_hL_103 F_hL_104 F_hL_105 F_hL_96 F_hL_97 F_hL_98 F_hL_99 hc
      refine WX.s1 rfl rfl ?_
      refine WX.s1 rfl rfl ?_
      refine WX.icmp rfl (fun c_30 => absurd c_30 (fun zz_ => absurd ((nI_leI (a := 32) (b := r) (by omega) (by omega)).mp zz_) (Nat.not_le.mpr (by omega)))) (fun c_30 => ?_)
      clear c_30
      refine WX.s1 rfl rfl ?_
      refine WX.s1 rfl rfl ?_
      refine WX.icmp rfl (fun c_36 => absurd c_36 (fun zz_ => absurd ((nI_leI (a := T) (b := 11) (by omega) (by omega)).mp zz_) (Nat.not_le.mpr (by omega)))) (fun c_36 => ?_)
      clear c_36
      refine WX.s1 rfl rfl ?_
      refine WX.callC (vs := [.ref 100]) rfl rfl rfl (Nat.le_of_ble_eq_true rfl) (rcv_ok (ltN hn (by decide)) F_hL_100) ?_
      refine x_knSort hn hc F_hL_100 F_hL_101 F_hL_102 F_hL_103 (fun h40 y40 s40 sy nn fr40 F_h40_102 F_h40_103 hS hyA => ?_)
      have F_h40_100 : h40 100 = .inr (4, [.ref 101, .ref 102, .ref 103, .ref 104, .ref 105]) := (fr40 _ (by first | decide | omega)).trans F_hL_100
      have F_h40_101 : h40 101 = .inl (1, 256, .inl cM) := (fr40 _ (by first | decide | omega)).trans F_hL_101
      have F_h40_104 : h40 104 = .inl (1, 512, .inl oM) := (fr40 _ (by first | decide | omega)).trans F_hL_104
      have F_h40_105 : h40 105 = .inl (1, 512, .inl dM) := (fr40 _ (by first | decide | omega)).trans F_hL_105
      have F_h40_96 : h40 96 = .inr (0, [.ref 97, .ref 98, .ref 99, .int tp, .int th]) := (fr40 _ (by first | decide | omega)).trans F_hL_96
      have F_h40_97 : h40 97 = .inl (1, 256, .inl lM) := (fr40 _ (by first | decide | omega)).trans F_hL_97
      have F_h40_98 : h40 98 = .inl (1, 256, .inl kA) := (fr40 _ (by first | decide | omega)).trans F_hL_98
      have F_h40_99 : h40 99 = .inl (1, 13, .inl eA) := (fr40 _ (by first | decide | omega)).trans F_hL_99
      have FR_h40 : Fr h h40 (fun j => (96 ≤ j ∧ j ≤ 99) ∨ (101 ≤ j ∧ j ≤ 105)) := FR_hL.zsub fr40 (fun j hj => by first | exact hj | exact Or.inl hj | exact Or.inr hj | omega)
      show WX _ _ _ 43 [(0, .ref 100), (1, .ref 91), (2, .ref 96), (3, .int (nI T)), (4, .int (nI r))] [.int (nI nn)] (n, s, h40)
      have hnn := hT2.nn hS
      refine WX.s1 (L' := [(0, .ref 100), (1, .ref 91), (2, .ref 96), (3, .int (nI T)), (4, .int (nI r)), (5, .int (nI nn))]) rfl rfl ?_
      refine WX.s1 rfl rfl ?_
      refine WX.s1 rfl rfl ?_
      refine WX.callC (vs := [.ref 100, .int (nI nn)]) rfl rfl rfl (Nat.le_of_ble_eq_true rfl) (rcv_ok (ltN hn (by decide)) F_h40_100) ?_
      refine x_knJoin hn hS hnn hsm2 (fun q hq => (hyA q hq).2) F_h40_100 F_h40_103 F_h40_104 (fun h48 s48 o48 ow fr48 F_h48_103 F_h48_104 hCI hoA => ?_)
      have F_h48_100 : h48 100 = .inr (4, [.ref 101, .ref 102, .ref 103, .ref 104, .ref 105]) := (fr48 _ (by first | decide | omega)).trans F_h40_100
      have F_h48_101 : h48 101 = .inl (1, 256, .inl cM) := (fr48 _ (by first | decide | omega)).trans F_h40_101
      have F_h48_102 : h48 102 = .inl (1, 256, .inl y40) := (fr48 _ (by first | decide | omega)).trans F_h40_102
      have F_h48_105 : h48 105 = .inl (1, 512, .inl dM) := (fr48 _ (by first | decide | omega)).trans F_h40_105
      have F_h48_96 : h48 96 = .inr (0, [.ref 97, .ref 98, .ref 99, .int tp, .int th]) := (fr48 _ (by first | decide | omega)).trans F_h40_96
      have F_h48_97 : h48 97 = .inl (1, 256, .inl lM) := (fr48 _ (by first | decide | omega)).trans F_h40_97
      have F_h48_98 : h48 98 = .inl (1, 256, .inl kA) := (fr48 _ (by first | decide | omega)).trans F_h40_98
      have F_h48_99 : h48 99 = .inl (1, 13, .inl eA) := (fr48 _ (by first | decide | omega)).trans F_h40_99
      have FR_h48 : Fr h h48 (fun j => (96 ≤ j ∧ j ≤ 99) ∨ (101 ≤ j ∧ j ≤ 105)) := FR_h40.zsub fr48 (fun j hj => by first | exact hj | exact Or.inl hj | exact Or.inr hj | omega)
      show WX _ _ _ 51 [(0, .ref 100), (1, .ref 91), (2, .ref 96), (3, .int (nI T)), (4, .int (nI r)), (5, .int (nI nn))] [] (n, s, h48)
      refine WX.s1 rfl rfl ?_
      refine WX.s1 rfl rfl ?_
      refine WX.s1 rfl rfl ?_
      refine WX.get1 (fs := [.ref 97, .ref 98, .ref 99, .int tp, .int th]) rfl (ltN hn (by decide)) (F_h48_96) rfl ?_
      refine WX.callC (vs := [.ref 100, .int (nI nn), .ref 97]) rfl rfl rfl (Nat.le_of_ble_eq_true rfl) (rcv_ok (ltN hn (by decide)) F_h48_100) ?_
      refine x_knMeas hn hS hnn hCI hoA (fun q hq => (hyA q hq).1) F_h48_100 F_h48_102 F_h48_104 F_h48_105 F_h48_97 (fun h58 l58 d58 fr58 F_h58_97 F_h58_105 hlen8 => ?_)
      have F_h58_100 : h58 100 = .inr (4, [.ref 101, .ref 102, .ref 103, .ref 104, .ref 105]) := (fr58 _ (by first | decide | omega)).trans F_h48_100
      have F_h58_101 : h58 101 = .inl (1, 256, .inl cM) := (fr58 _ (by first | decide | omega)).trans F_h48_101
      have F_h58_102 : h58 102 = .inl (1, 256, .inl y40) := (fr58 _ (by first | decide | omega)).trans F_h48_102
      have F_h58_103 : h58 103 = .inl (1, 512, .inl s48) := (fr58 _ (by first | decide | omega)).trans F_h48_103
      have F_h58_104 : h58 104 = .inl (1, 512, .inl o48) := (fr58 _ (by first | decide | omega)).trans F_h48_104
      have F_h58_96 : h58 96 = .inr (0, [.ref 97, .ref 98, .ref 99, .int tp, .int th]) := (fr58 _ (by first | decide | omega)).trans F_h48_96
      have F_h58_98 : h58 98 = .inl (1, 256, .inl kA) := (fr58 _ (by first | decide | omega)).trans F_h48_98
      have F_h58_99 : h58 99 = .inl (1, 13, .inl eA) := (fr58 _ (by first | decide | omega)).trans F_h48_99
      have FR_h58 : Fr h h58 (fun j => (96 ≤ j ∧ j ≤ 99) ∨ (101 ≤ j ∧ j ≤ 105)) := FR_h48.zsub fr58 (fun j hj => by first | exact hj | exact Or.inl hj | exact Or.inr hj | omega)
      show WX _ _ _ 61 [(0, .ref 100), (1, .ref 91), (2, .ref 96), (3, .int (nI T)), (4, .int (nI r)), (5, .int (nI nn))] [.int (nI (topF c))] (n, s, h58)
      refine WX.s1 (L' := [(0, .ref 100), (1, .ref 91), (2, .ref 96), (3, .int (nI (topF c))), (4, .int (nI r)), (5, .int (nI nn))]) rfl rfl ?_
      refine WX.s1 rfl rfl ?_
      refine WX.callC (vs := [.ref 100]) rfl rfl rfl (Nat.le_of_ble_eq_true rfl) (rcv_ok (ltN hn (by decide)) F_h58_100) ?_
      refine x_knHalf hn hc F_h58_100 F_h58_101 (fun h63 c63 fr63 F_h63_101 hc63 => ?_)
      have F_h63_100 : h63 100 = .inr (4, [.ref 101, .ref 102, .ref 103, .ref 104, .ref 105]) := (fr63 _ (by first | decide | omega)).trans F_h58_100
      have F_h63_102 : h63 102 = .inl (1, 256, .inl y40) := (fr63 _ (by first | decide | omega)).trans F_h58_102
      have F_h63_103 : h63 103 = .inl (1, 512, .inl s48) := (fr63 _ (by first | decide | omega)).trans F_h58_103
      have F_h63_104 : h63 104 = .inl (1, 512, .inl o48) := (fr63 _ (by first | decide | omega)).trans F_h58_104
      have F_h63_105 : h63 105 = .inl (1, 512, .inl d58) := (fr63 _ (by first | decide | omega)).trans F_h58_105
      have F_h63_96 : h63 96 = .inr (0, [.ref 97, .ref 98, .ref 99, .int tp, .int th]) := (fr63 _ (by first | decide | omega)).trans F_h58_96
      have F_h63_97 : h63 97 = .inl (1, 256, .inl l58) := (fr63 _ (by first | decide | omega)).trans F_h58_97
      have F_h63_98 : h63 98 = .inl (1, 256, .inl kA) := (fr63 _ (by first | decide | omega)).trans F_h58_98
      have F_h63_99 : h63 99 = .inl (1, 13, .inl eA) := (fr63 _ (by first | decide | omega)).trans F_h58_99
      have FR_h63 : Fr h h63 (fun j => (96 ≤ j ∧ j ≤ 99) ∨ (101 ≤ j ∧ j ≤ 105)) := FR_h58.zsub fr63 (fun j hj => by first | exact hj | exact Or.inl hj | exact Or.inr hj | omega)
      show WX _ _ _ 66 [(0, .ref 100), (1, .ref 91), (2, .ref 96), (3, .int (nI (topF c))), (4, .int (nI r)), (5, .int (nI nn))] [] (n, s, h63)
      refine WX.s1 (L' := [(0, .ref 100), (1, .ref 91), (2, .ref 96), (3, .int (nI (topF c))), (4, .int ((nI r) + 1)), (5, .int (nI nn))]) rfl rfl ?_
      rw [show ((nI r) + 1) = nI (r + 1) from nI_add r 1]
      refine WX.s1 rfl rfl ?_
      refine WX.keep (y := 46) [0, 1, 2, 3, 4] (show ([0, 1, 2, 3, 4, 5] : List Nat).Nodup by decide) rfl ?_
      have htb : topF c ≤ 18 := mxK_le (fun s => dF_le hsm2 (by decide)) 256
      have htp := top_pos hT2
      by_cases ht : topF c ≤ 11
      · have hcc : c = cL ls := (lb_1 ht).symm.trans hlb
        refine WX.s1 rfl rfl ?_
        refine WX.s1 rfl rfl ?_
        refine WX.icmp rfl (fun c_30 => ?_) (fun c_30 => ?_)
        · skip
          have n_30 : 32 ≤ (r + 1) := (nI_leI (a := 32) (b := r + 1) (by omega) (by omega)).mp c_30
          refine WX.s1 rfl rfl ?_
          refine WX.s1 rfl rfl ?_
          refine WX.callC (vs := [.ref 96, .int (nI (topF c))]) rfl rfl rfl (Nat.le_of_ble_eq_true rfl) (rcv_ok (ltN hn (by decide)) F_h63_96) ?_
          refine x_cset (k := 96) (by omega) hlen8 (kraft htp ht) F_h63_96 F_h63_97 F_h63_98 F_h63_99 (fun h74 fr74 PT => ?_)
          have F_h74_100 : h74 100 = .inr (4, [.ref 101, .ref 102, .ref 103, .ref 104, .ref 105]) := (fr74 _ (by first | decide | omega)).trans F_h63_100
          have F_h74_101 : h74 101 = .inl (1, 256, .inl c63) := (fr74 _ (by first | decide | omega)).trans F_h63_101
          have F_h74_102 : h74 102 = .inl (1, 256, .inl y40) := (fr74 _ (by first | decide | omega)).trans F_h63_102
          have F_h74_103 : h74 103 = .inl (1, 512, .inl s48) := (fr74 _ (by first | decide | omega)).trans F_h63_103
          have F_h74_104 : h74 104 = .inl (1, 512, .inl o48) := (fr74 _ (by first | decide | omega)).trans F_h63_104
          have F_h74_105 : h74 105 = .inl (1, 512, .inl d58) := (fr74 _ (by first | decide | omega)).trans F_h63_105
          have FR_h74 : Fr h h74 (fun j => (96 ≤ j ∧ j ≤ 99) ∨ (101 ≤ j ∧ j ≤ 105)) := FR_h63.zsub fr74 (fun j hj => by first | exact hj | exact Or.inl hj | exact Or.inr hj | omega)
          show WX _ _ _ 77 [(0, .ref 100), (1, .ref 91), (2, .ref 96), (3, .int (nI (topF c))), (4, .int (nI (r + 1)))] [] (n, s, h74)
          exact WX.ret0 rfl (kk h74 FR_h74 (by rw [hcc] at PT; exact PT) ⟨F_h74_100, _, _, _, _, _, F_h74_101, F_h74_102, F_h74_103, F_h74_104, F_h74_105⟩)
        · skip
          have n_30 : (r + 1) < 32 := Nat.lt_of_not_le (fun zz_ => c_30 ((nI_leI (a := 32) (b := r + 1) (by omega) (by omega)).mpr zz_))
          refine WX.s1 rfl rfl ?_
          refine WX.s1 rfl rfl ?_
          refine WX.icmp rfl (fun c_36 => ?_) (fun c_36 => absurd ((nI_leI (a := topF c) (b := 11) (by omega) (by omega)).mpr (by omega)) c_36)
          clear c_36
          refine WX.s1 rfl rfl ?_
          refine WX.s1 rfl rfl ?_
          refine WX.callC (vs := [.ref 96, .int (nI (topF c))]) rfl rfl rfl (Nat.le_of_ble_eq_true rfl) (rcv_ok (ltN hn (by decide)) F_h63_96) ?_
          refine x_cset (k := 96) (by omega) hlen8 (kraft htp ht) F_h63_96 F_h63_97 F_h63_98 F_h63_99 (fun h74 fr74 PT => ?_)
          have F_h74_100 : h74 100 = .inr (4, [.ref 101, .ref 102, .ref 103, .ref 104, .ref 105]) := (fr74 _ (by first | decide | omega)).trans F_h63_100
          have F_h74_101 : h74 101 = .inl (1, 256, .inl c63) := (fr74 _ (by first | decide | omega)).trans F_h63_101
          have F_h74_102 : h74 102 = .inl (1, 256, .inl y40) := (fr74 _ (by first | decide | omega)).trans F_h63_102
          have F_h74_103 : h74 103 = .inl (1, 512, .inl s48) := (fr74 _ (by first | decide | omega)).trans F_h63_103
          have F_h74_104 : h74 104 = .inl (1, 512, .inl o48) := (fr74 _ (by first | decide | omega)).trans F_h63_104
          have F_h74_105 : h74 105 = .inl (1, 512, .inl d58) := (fr74 _ (by first | decide | omega)).trans F_h63_105
          have FR_h74 : Fr h h74 (fun j => (96 ≤ j ∧ j ≤ 99) ∨ (101 ≤ j ∧ j ≤ 105)) := FR_h63.zsub fr74 (fun j hj => by first | exact hj | exact Or.inl hj | exact Or.inr hj | omega)
          show WX _ _ _ 77 [(0, .ref 100), (1, .ref 91), (2, .ref 96), (3, .int (nI (topF c))), (4, .int (nI (r + 1)))] [] (n, s, h74)
          exact WX.ret0 rfl (kk h74 FR_h74 (by rw [hcc] at PT; exact PT) ⟨F_h74_100, _, _, _, _, _, F_h74_101, F_h74_102, F_h74_103, F_h74_104, F_h74_105⟩)
      · exact ih (hvF c) (topF c) (r + 1) h63 c63 y40 s48 o48 d58 l58 (hv_le hcm) ((lb_2 ht).symm.trans hlb) (Nat.le_trans (hv_sum c 256) hsm2) hT2.hv (by omega) (by omega) (by omega) FR_h63 F_h63_100 F_h63_101 F_h63_102 F_h63_103 F_h63_104 F_h63_105 F_h63_96 F_h63_97 F_h63_98 F_h63_99 hc63
  exact lp 13 (cdF ls).1 12 0 h17 g17 yA sA oA dA lA (fun s => Nat.le_trans (cd_all_le s) (Nat.le_trans hlen (by decide))) hce.symm hsm h2 (by decide) (by decide) (by decide) FR_h17 F_h17_100 F_h17_101 F_h17_102 F_h17_103 F_h17_104 F_h17_105 F_h17_96 F_h17_97 F_h17_98 F_h17_99 hc0
