/-! Column.add, Literals.add: what a block's going leaves -/
def IsSy (B : Nat → Nat) (NB v s : Nat) : Prop := s < NB ∧ (∀ j, 1 ≤ j → j ≤ s → B j ≤ v) ∧ (s + 1 < NB → v < B (s + 1))
theorem IsSy.uniq {B : Nat → Nat} {NB v s t : Nat} (x : IsSy B NB v s) (y : IsSy B NB v t) : s = t := by
  rcases Nat.lt_trichotomy s t with z | z | z
  · have := x.2.2 (by have := y.1; omega)
    have := y.2.1 (s + 1) (by omega) (by omega)
    omega
  · exact z
  · have := y.2.2 (by have := x.1; omega)
    have := x.2.1 (t + 1) (by omega) (by omega)
    omega
def colS (sy wd : Nat → Nat) (x : (Nat → Nat) × Nat × Nat) (v : Nat) : (Nat → Nat) × Nat × Nat := (fun s => if s = sy v then x.1 (sy v) + 1 else x.1 s, x.2.1 + (if x.1 (sy v) = 0 then 1 else 0), x.2.2 + wd (sy v))
def colF (sy wd : Nat → Nat) (vs : List Nat) : (Nat → Nat) × Nat × Nat := vs.foldl (colS sy wd) (fun _ => 0, 0, 0)
theorem colF_snoc (sy wd : Nat → Nat) (vs : List Nat) (v : Nat) : colF sy wd (vs ++ [v]) = colS sy wd (colF sy wd vs) v := by
  unfold colF
  rw [List.foldl_append]
  rfl
theorem colF_le (sy wd : Nat → Nat) {W : Nat} (hW : ∀ s, wd s ≤ W) : ∀ (vs : List Nat), (∀ s, (colF sy wd vs).1 s ≤ vs.length) ∧ (colF sy wd vs).2.1 ≤ vs.length ∧ (colF sy wd vs).2.2 ≤ W * vs.length := by
  suffices h : ∀ (vs : List Nat) (x : (Nat → Nat) × Nat × Nat) (k : Nat), (∀ s, x.1 s ≤ k) ∧ x.2.1 ≤ k ∧ x.2.2 ≤ W * k → (∀ s, (vs.foldl (colS sy wd) x).1 s ≤ k + vs.length) ∧ (vs.foldl (colS sy wd) x).2.1 ≤ k + vs.length ∧ (vs.foldl (colS sy wd) x).2.2 ≤ W * (k + vs.length) by
    intro vs
    have := h vs (fun _ => 0, 0, 0) 0 ⟨fun _ => Nat.le_refl _, Nat.le_refl _, Nat.zero_le _⟩
    rw [Nat.zero_add] at this
    exact this
  intro vs
  induction vs with
  | nil => intro x k h; exact h
  | cons v vs ih =>
    intro x k h
    have := ih (colS sy wd x v) (k + 1) ⟨fun s => ?_, ?_, ?_⟩
    · rw [List.length_cons, show k + (vs.length + 1) = k + 1 + vs.length by omega]
      exact this
    · show (if s = sy v then x.1 (sy v) + 1 else x.1 s) ≤ k + 1
      by_cases q : s = sy v
      · rw [if_pos q]; have := h.1 (sy v); omega
      · rw [if_neg q]; have := h.1 s; omega
    · show x.2.1 + (if x.1 (sy v) = 0 then 1 else 0) ≤ k + 1
      have := h.2.1
      by_cases q : x.1 (sy v) = 0
      · rw [if_pos q]; omega
      · rw [if_neg q]; omega
    · show x.2.2 + wd (sy v) ≤ W * (k + 1)
      have h1 := h.2.2
      have h2 := hW (sy v)
      rw [Nat.mul_add, Nat.mul_one]
      omega
def ColA (h : Nat → aE) (c l : Nat) (sy wd : Nat → Nat) (vs : List Nat) : Prop := ∃ sA vA cA : Nat → Int32, h (c + 1) = .inl (1, 2667, .inl sA) ∧ h (c + 2) = .inl (1, 2667, .inl vA) ∧ h (c + 5) = .inl (1, l + 1, .inl cA) ∧ (∀ i, i < vs.length → sA i = nI (sy (vs.getD i 0)) ∧ vA i = nI (vs.getD i 0)) ∧ ∀ s, s ≤ l → cA s = nI ((colF sy wd vs).1 s)
set_option maxRecDepth 20000 in
theorem x_kadd {d n s : Nat} {h : Nat → aE} {c ba wi cho l NB NW : Nat} {gr mo bi ob sta : Int32} {B sy wd : Nat → Nat} {bA wA : Nat → Int32} {vs : List Nat} {v : Nat}  (hc : c + 26 < n) (hnb : n < aBig) (hba : aBig ≤ ba) (hba2 : ba < aBig + 10) (hwi : aBig ≤ wi) (hwi2 : wi < aBig + 10) (hB : ∀ i, i < NB → bA i = nI (B i) ∧ B i < 2 ^ 31) (hNB : NB < 2 ^ 20) (hWd : ∀ i, i < NW → wA i = nI (wd i)) (hNW : NW < 2 ^ 20) (hsy : IsSy B NB v (sy v)) (hsl : sy v ≤ l) (hsw : sy v < NW) (hl : l < 1000) (hv : v < 2 ^ 31) (hlen : vs.length < 2667) (hwd : ∀ s, wd s ≤ 16) (hA : ColA h c l sy wd vs) (F_h_c : h c = .inr (1, [.ref ba, .ref wi, .int gr, .ref (c + 1), .ref (c + 2), .ref (c + 5), .int (nI vs.length), .int (nI (colF sy wd vs).2.1), .int (nI (colF sy wd vs).2.2), .ref (c + 6), .ref (c + 13), .ref (c + 20), .ref cho, .ref (c + 3), .int mo, .int bi, .int ob, .int sta])) (F_h_ba : h ba = .inl (1, NB, .inl bA)) (F_h_wi : h wi = .inl (1, NW, .inl wA))  {Ψ : Option Value → aH → Prop} (kk : ∀ h', Fr h h' (fun j => j = c ∨ j = c + 1 ∨ j = c + 2 ∨ j = c + 5) → h' c = .inr (1, [.ref ba, .ref wi, .int gr, .ref (c + 1), .ref (c + 2), .ref (c + 5), .int (nI (vs ++ [v]).length), .int (nI (colF sy wd (vs ++ [v])).2.1), .int (nI (colF sy wd (vs ++ [v])).2.2), .ref (c + 6), .ref (c + 13), .ref (c + 20), .ref cho, .ref (c + 3), .int mo, .int bi, .int ob, .int sta]) → ColA h' c l sy wd (vs ++ [v]) → Ψ none (n, s, h')) : WO (mM (d + 1)) 11 [.ref c, .int (nI v)] (n, s, h) Ψ := by
  refine WO.of (Nat.le_of_ble_eq_true rfl) ?_
  have FR_h : Fr h h (fun j => j = c ∨ j = c + 1 ∨ j = c + 2 ∨ j = c + 5) := Fr.rf
  obtain ⟨sA, vA, cA, F_h__c_1_, F_h__c_2_, F_h__c_5_, hsv, hcA⟩ := hA
  obtain ⟨hc1, hc2, hc3⟩ := colF_le sy wd hwd vs
  have hcs := hcA (sy v) hsl
  have hcb := hc1 (sy v)
  show WX (lk tX1_add) (mM d) Ψ 0 [(0, .ref c), (1, .int (nI v))] [] (n, s, h)
  refine WX.s1 rfl rfl ?_
  refine WX.s1 (L' := [(0, .ref c), (1, .int (nI v)), (2, .int 0)]) rfl rfl ?_
  have lp : ∀ (t i : Nat), i + t = NB → i < NB → (∀ j, 1 ≤ j → j ≤ i → B j ≤ v) → WX (lk tX1_add) (mM d) Ψ 2 [(0, .ref c), (1, .int (nI v)), (2, .int (nI i))] [] (n, s, h) := by
    intro t
    induction t with
    | zero => intro i ht hi; omega
    | succ t ih =>
      intro i ht hi hj
      refine WX.s1 rfl rfl ?_
      refine WX.s1 rfl rfl ?_
      refine WX.s1 (S' := [.int ((nI i) + 1)]) rfl rfl ?_
      rw [show ((nI i) + 1) = nI (i + 1) from nI_add i 1]
      refine WX.s1 rfl rfl ?_
      refine WX.get1 (fs := [.ref ba, .ref wi, .int gr, .ref (c + 1), .ref (c + 2), .ref (c + 5), .int (nI vs.length), .int (nI (colF sy wd vs).2.1), .int (nI (colF sy wd vs).2.2), .ref (c + 6), .ref (c + 13), .ref (c + 20), .ref cho, .ref (c + 3), .int mo, .int bi, .int ob, .int sta]) rfl (by omega) (F_h_c) rfl ?_
      refine WX.len1 rfl (Or.inr ⟨by omega, by omega⟩) (F_h_ba) ?_
      refine WX.icmp rfl (fun c_10 => ?_) (fun c_10 => ?_)
      · skip
        have n_10 : NB ≤ (i + 1) := (nI_leI (a := NB) (b := i + 1) (by omega) (by omega)).mp c_10
        obtain rfl : sy v = i := hsy.uniq ⟨hi, hj, fun z => by omega⟩
        clear ih hj
        refine WX.s1 rfl rfl ?_
        refine WX.get1 (fs := [.ref ba, .ref wi, .int gr, .ref (c + 1), .ref (c + 2), .ref (c + 5), .int (nI vs.length), .int (nI (colF sy wd vs).2.1), .int (nI (colF sy wd vs).2.2), .ref (c + 6), .ref (c + 13), .ref (c + 20), .ref cho, .ref (c + 3), .int mo, .int bi, .int ob, .int sta]) rfl (by omega) (F_h_c) rfl ?_
        refine WX.s1 rfl rfl ?_
        refine WX.get1 (fs := [.ref ba, .ref wi, .int gr, .ref (c + 1), .ref (c + 2), .ref (c + 5), .int (nI vs.length), .int (nI (colF sy wd vs).2.1), .int (nI (colF sy wd vs).2.2), .ref (c + 6), .ref (c + 13), .ref (c + 20), .ref cho, .ref (c + 3), .int mo, .int bi, .int ob, .int sta]) rfl (by omega) (F_h_c) rfl ?_
        refine WX.len1 rfl (Or.inl ⟨by omega, by decide⟩) (F_h__c_1_) ?_
        refine WX.icmp rfl (fun c_40 => absurd c_40 (fun zz_ => absurd ((nI_leI (a := 2667) (b := vs.length) (by omega) (by omega)).mp zz_) (Nat.not_le.mpr (by omega)))) (fun c_40 => ?_)
        clear c_40
        refine WX.s1 rfl rfl ?_
        refine WX.s1 rfl rfl ?_
        refine WX.get1 (fs := [.ref ba, .ref wi, .int gr, .ref (c + 1), .ref (c + 2), .ref (c + 5), .int (nI vs.length), .int (nI (colF sy wd vs).2.1), .int (nI (colF sy wd vs).2.2), .ref (c + 6), .ref (c + 13), .ref (c + 20), .ref cho, .ref (c + 3), .int mo, .int bi, .int ob, .int sta]) rfl (by omega) (F_h_c) rfl ?_
        refine WX.len1 rfl (Or.inl ⟨by omega, by decide⟩) (F_h__c_5_) ?_
        refine WX.icmp rfl (fun c_49 => absurd c_49 (fun zz_ => absurd ((nI_leI (a := l + 1) (b := sy v) (by omega) (by omega)).mp zz_) (Nat.not_le.mpr (by omega)))) (fun c_49 => ?_)
        clear c_49
        refine WX.s1 rfl rfl ?_
        refine WX.get1 (fs := [.ref ba, .ref wi, .int gr, .ref (c + 1), .ref (c + 2), .ref (c + 5), .int (nI vs.length), .int (nI (colF sy wd vs).2.1), .int (nI (colF sy wd vs).2.2), .ref (c + 6), .ref (c + 13), .ref (c + 20), .ref cho, .ref (c + 3), .int mo, .int bi, .int ob, .int sta]) rfl (by omega) (F_h_c) rfl ?_
        refine WX.s1 rfl rfl ?_
        refine WX.get1 (fs := [.ref ba, .ref wi, .int gr, .ref (c + 1), .ref (c + 2), .ref (c + 5), .int (nI vs.length), .int (nI (colF sy wd vs).2.1), .int (nI (colF sy wd vs).2.2), .ref (c + 6), .ref (c + 13), .ref (c + 20), .ref cho, .ref (c + 3), .int mo, .int bi, .int ob, .int sta]) rfl (by omega) (F_h_c) rfl ?_
        refine WX.s1 rfl rfl ?_
        refine WX.iastN rfl (by omega) (F_h__c_1_) (vp_in_nI (by omega) (by decide)) (fun g61 h61 e_g61 e_h61 => ?_)
        try dsimp only at e_g61
        have F_h61_c : h61 c = .inr (1, [.ref ba, .ref wi, .int gr, .ref (c + 1), .ref (c + 2), .ref (c + 5), .int (nI vs.length), .int (nI (colF sy wd vs).2.1), .int (nI (colF sy wd vs).2.2), .ref (c + 6), .ref (c + 13), .ref (c + 20), .ref cho, .ref (c + 3), .int mo, .int bi, .int ob, .int sta]) := by rw [e_h61, va_up_neq (nek1 (a := 1) (by decide))]; exact F_h_c
        have F_h61_ba : h61 ba = .inl (1, NB, .inl bA) := by rw [e_h61, va_up_neq (by omega)]; exact F_h_ba
        have F_h61_wi : h61 wi = .inl (1, NW, .inl wA) := by rw [e_h61, va_up_neq (by omega)]; exact F_h_wi
        have F_h61__c_1_ : h61 (c + 1) = .inl (1, 2667, .inl g61) := by rw [e_h61]; exact va_up_eq
        have F_h61__c_2_ : h61 (c + 2) = .inl (1, 2667, .inl vA) := by rw [e_h61, va_up_neq (nek (a := 2) (b := 1) (by decide))]; exact F_h__c_2_
        have F_h61__c_5_ : h61 (c + 5) = .inl (1, (l + 1), .inl cA) := by rw [e_h61, va_up_neq (nek (a := 5) (b := 1) (by decide))]; exact F_h__c_5_
        have FR_h61 : Fr h h61 (fun j => j = c ∨ j = c + 1 ∨ j = c + 2 ∨ j = c + 5) := FR_h.zup e_h61 (by first | exact rfl | exact Or.inl rfl | exact Or.inr rfl | exact ⟨by decide, by decide⟩ | decide | omega)
        refine WX.s1 rfl rfl ?_
        refine WX.get1 (fs := [.ref ba, .ref wi, .int gr, .ref (c + 1), .ref (c + 2), .ref (c + 5), .int (nI vs.length), .int (nI (colF sy wd vs).2.1), .int (nI (colF sy wd vs).2.2), .ref (c + 6), .ref (c + 13), .ref (c + 20), .ref cho, .ref (c + 3), .int mo, .int bi, .int ob, .int sta]) rfl (by omega) (F_h61_c) rfl ?_
        refine WX.s1 rfl rfl ?_
        refine WX.get1 (fs := [.ref ba, .ref wi, .int gr, .ref (c + 1), .ref (c + 2), .ref (c + 5), .int (nI vs.length), .int (nI (colF sy wd vs).2.1), .int (nI (colF sy wd vs).2.2), .ref (c + 6), .ref (c + 13), .ref (c + 20), .ref cho, .ref (c + 3), .int mo, .int bi, .int ob, .int sta]) rfl (by omega) (F_h61_c) rfl ?_
        refine WX.s1 rfl rfl ?_
        refine WX.iastN rfl (by omega) (F_h61__c_2_) (vp_in_nI (by omega) (by decide)) (fun g71 h71 e_g71 e_h71 => ?_)
        try dsimp only at e_g71
        have F_h71_c : h71 c = .inr (1, [.ref ba, .ref wi, .int gr, .ref (c + 1), .ref (c + 2), .ref (c + 5), .int (nI vs.length), .int (nI (colF sy wd vs).2.1), .int (nI (colF sy wd vs).2.2), .ref (c + 6), .ref (c + 13), .ref (c + 20), .ref cho, .ref (c + 3), .int mo, .int bi, .int ob, .int sta]) := by rw [e_h71, va_up_neq (nek1 (a := 2) (by decide))]; exact F_h61_c
        have F_h71_ba : h71 ba = .inl (1, NB, .inl bA) := by rw [e_h71, va_up_neq (by omega)]; exact F_h61_ba
        have F_h71_wi : h71 wi = .inl (1, NW, .inl wA) := by rw [e_h71, va_up_neq (by omega)]; exact F_h61_wi
        have F_h71__c_1_ : h71 (c + 1) = .inl (1, 2667, .inl g61) := by rw [e_h71, va_up_neq (nek (a := 1) (b := 2) (by decide))]; exact F_h61__c_1_
        have F_h71__c_2_ : h71 (c + 2) = .inl (1, 2667, .inl g71) := by rw [e_h71]; exact va_up_eq
        have F_h71__c_5_ : h71 (c + 5) = .inl (1, (l + 1), .inl cA) := by rw [e_h71, va_up_neq (nek (a := 5) (b := 2) (by decide))]; exact F_h61__c_5_
        have FR_h71 : Fr h h71 (fun j => j = c ∨ j = c + 1 ∨ j = c + 2 ∨ j = c + 5) := FR_h61.zup e_h71 (by first | exact rfl | exact Or.inl rfl | exact Or.inr rfl | exact ⟨by decide, by decide⟩ | decide | omega)
        refine WX.s1 rfl rfl ?_
        refine WX.s1 rfl rfl ?_
        refine WX.get1 (fs := [.ref ba, .ref wi, .int gr, .ref (c + 1), .ref (c + 2), .ref (c + 5), .int (nI vs.length), .int (nI (colF sy wd vs).2.1), .int (nI (colF sy wd vs).2.2), .ref (c + 6), .ref (c + 13), .ref (c + 20), .ref cho, .ref (c + 3), .int mo, .int bi, .int ob, .int sta]) rfl (by omega) (F_h71_c) rfl ?_
        refine WX.s1 rfl rfl ?_
        refine WX.s1 (S' := [.int ((nI vs.length) + 1), .ref c]) rfl rfl ?_
        rw [show ((nI vs.length) + 1) = nI (vs.length + 1) from nI_add vs.length 1]
        refine WX.put1 (fs := [.ref ba, .ref wi, .int gr, .ref (c + 1), .ref (c + 2), .ref (c + 5), .int (nI vs.length), .int (nI (colF sy wd vs).2.1), .int (nI (colF sy wd vs).2.2), .ref (c + 6), .ref (c + 13), .ref (c + 20), .ref cho, .ref (c + 3), .int mo, .int bi, .int ob, .int sta]) (fs' := [.ref ba, .ref wi, .int gr, .ref (c + 1), .ref (c + 2), .ref (c + 5), .int (nI (vs.length + 1)), .int (nI (colF sy wd vs).2.1), .int (nI (colF sy wd vs).2.2), .ref (c + 6), .ref (c + 13), .ref (c + 20), .ref cho, .ref (c + 3), .int mo, .int bi, .int ob, .int sta]) rfl (by omega) (F_h71_c) (Nat.le_of_ble_eq_true rfl) (rfl) rfl (fun h79 e_h79 => ?_)
        have F_h79_c : h79 c = .inr (1, [.ref ba, .ref wi, .int gr, .ref (c + 1), .ref (c + 2), .ref (c + 5), .int (nI (vs.length + 1)), .int (nI (colF sy wd vs).2.1), .int (nI (colF sy wd vs).2.2), .ref (c + 6), .ref (c + 13), .ref (c + 20), .ref cho, .ref (c + 3), .int mo, .int bi, .int ob, .int sta]) := by rw [e_h79]; exact va_up_eq
        have F_h79_ba : h79 ba = .inl (1, NB, .inl bA) := by rw [e_h79, va_up_neq (by omega)]; exact F_h71_ba
        have F_h79_wi : h79 wi = .inl (1, NW, .inl wA) := by rw [e_h79, va_up_neq (by omega)]; exact F_h71_wi
        have F_h79__c_1_ : h79 (c + 1) = .inl (1, 2667, .inl g61) := by rw [e_h79, va_up_neq (nek0 (a := 1) (by decide))]; exact F_h71__c_1_
        have F_h79__c_2_ : h79 (c + 2) = .inl (1, 2667, .inl g71) := by rw [e_h79, va_up_neq (nek0 (a := 2) (by decide))]; exact F_h71__c_2_
        have F_h79__c_5_ : h79 (c + 5) = .inl (1, (l + 1), .inl cA) := by rw [e_h79, va_up_neq (nek0 (a := 5) (by decide))]; exact F_h71__c_5_
        have FR_h79 : Fr h h79 (fun j => j = c ∨ j = c + 1 ∨ j = c + 2 ∨ j = c + 5) := FR_h71.zup e_h79 (by first | exact rfl | exact Or.inl rfl | exact Or.inr rfl | exact ⟨by decide, by decide⟩ | decide | omega)
        refine WX.s1 rfl rfl ?_
        refine WX.s1 rfl rfl ?_
        refine WX.get1 (fs := [.ref ba, .ref wi, .int gr, .ref (c + 1), .ref (c + 2), .ref (c + 5), .int (nI (vs.length + 1)), .int (nI (colF sy wd vs).2.1), .int (nI (colF sy wd vs).2.2), .ref (c + 6), .ref (c + 13), .ref (c + 20), .ref cho, .ref (c + 3), .int mo, .int bi, .int ob, .int sta]) rfl (by omega) (F_h79_c) rfl ?_
        refine WX.s1 rfl rfl ?_
        refine WX.get1 (fs := [.ref ba, .ref wi, .int gr, .ref (c + 1), .ref (c + 2), .ref (c + 5), .int (nI (vs.length + 1)), .int (nI (colF sy wd vs).2.1), .int (nI (colF sy wd vs).2.2), .ref (c + 6), .ref (c + 13), .ref (c + 20), .ref cho, .ref (c + 3), .int mo, .int bi, .int ob, .int sta]) rfl (by omega) (F_h79_c) rfl ?_
        refine WX.s1 rfl rfl ?_
        refine WX.iald1 rfl (Or.inl (by omega)) (F_h79__c_5_) (vp_in_nI (by omega) (by omega)) ?_
        rw [nI_clamp (by omega), hcs]
        refine WX.if_ rfl (fun c_93 => ?_) (fun c_93 => ?_)
        · skip
          have n_93 : ¬ ((colF sy wd vs).1 (sy v)) = 0 := fun zz_ => c_93 ((nI_eq (a := (colF sy wd vs).1 (sy v)) (b := 0) (by omega) (by omega)).mpr zz_)
          refine WX.s1 rfl rfl ?_
          refine WX.s1 (S' := [.int ((nI (colF sy wd vs).2.1) + 0), .ref c]) rfl rfl ?_
          rw [show ((nI (colF sy wd vs).2.1) + 0) = nI ((colF sy wd vs).2.1 + 0) from nI_add ((colF sy wd vs).2.1) 0]
          refine WX.put1 (fs := [.ref ba, .ref wi, .int gr, .ref (c + 1), .ref (c + 2), .ref (c + 5), .int (nI (vs.length + 1)), .int (nI (colF sy wd vs).2.1), .int (nI (colF sy wd vs).2.2), .ref (c + 6), .ref (c + 13), .ref (c + 20), .ref cho, .ref (c + 3), .int mo, .int bi, .int ob, .int sta]) (fs' := [.ref ba, .ref wi, .int gr, .ref (c + 1), .ref (c + 2), .ref (c + 5), .int (nI (vs.length + 1)), .int (nI ((colF sy wd vs).2.1 + 0)), .int (nI (colF sy wd vs).2.2), .ref (c + 6), .ref (c + 13), .ref (c + 20), .ref cho, .ref (c + 3), .int mo, .int bi, .int ob, .int sta]) rfl (by omega) (F_h79_c) (Nat.le_of_ble_eq_true rfl) (rfl) rfl (fun h102 e_h102 => ?_)
          have F_h102_c : h102 c = .inr (1, [.ref ba, .ref wi, .int gr, .ref (c + 1), .ref (c + 2), .ref (c + 5), .int (nI (vs.length + 1)), .int (nI ((colF sy wd vs).2.1 + 0)), .int (nI (colF sy wd vs).2.2), .ref (c + 6), .ref (c + 13), .ref (c + 20), .ref cho, .ref (c + 3), .int mo, .int bi, .int ob, .int sta]) := by rw [e_h102]; exact va_up_eq
          have F_h102_ba : h102 ba = .inl (1, NB, .inl bA) := by rw [e_h102, va_up_neq (by omega)]; exact F_h79_ba
          have F_h102_wi : h102 wi = .inl (1, NW, .inl wA) := by rw [e_h102, va_up_neq (by omega)]; exact F_h79_wi
          have F_h102__c_1_ : h102 (c + 1) = .inl (1, 2667, .inl g61) := by rw [e_h102, va_up_neq (nek0 (a := 1) (by decide))]; exact F_h79__c_1_
          have F_h102__c_2_ : h102 (c + 2) = .inl (1, 2667, .inl g71) := by rw [e_h102, va_up_neq (nek0 (a := 2) (by decide))]; exact F_h79__c_2_
          have F_h102__c_5_ : h102 (c + 5) = .inl (1, (l + 1), .inl cA) := by rw [e_h102, va_up_neq (nek0 (a := 5) (by decide))]; exact F_h79__c_5_
          have FR_h102 : Fr h h102 (fun j => j = c ∨ j = c + 1 ∨ j = c + 2 ∨ j = c + 5) := FR_h79.zup e_h102 (by first | exact rfl | exact Or.inl rfl | exact Or.inr rfl | exact ⟨by decide, by decide⟩ | decide | omega)
          refine WX.s1 rfl rfl ?_
          refine WX.get1 (fs := [.ref ba, .ref wi, .int gr, .ref (c + 1), .ref (c + 2), .ref (c + 5), .int (nI (vs.length + 1)), .int (nI ((colF sy wd vs).2.1 + 0)), .int (nI (colF sy wd vs).2.2), .ref (c + 6), .ref (c + 13), .ref (c + 20), .ref cho, .ref (c + 3), .int mo, .int bi, .int ob, .int sta]) rfl (by omega) (F_h102_c) rfl ?_
          refine WX.s1 rfl rfl ?_
          refine WX.s1 rfl rfl ?_
          refine WX.iald1 rfl (Or.inl (by omega)) (F_h102__c_5_) (vp_in_nI (by omega) (by omega)) ?_
          rw [nI_clamp (by omega), hcs]
          refine WX.s1 rfl rfl ?_
          refine WX.s1 (S' := [.int ((nI ((colF sy wd vs).1 (sy v))) + 1), .int (nI (sy v)), .ref (c + 5)]) rfl rfl ?_
          rw [show ((nI ((colF sy wd vs).1 (sy v))) + 1) = nI ((colF sy wd vs).1 (sy v) + 1) from nI_add ((colF sy wd vs).1 (sy v)) 1]
          refine WX.iastN rfl (by omega) (F_h102__c_5_) (vp_in_nI (by omega) (by omega)) (fun g114 h114 e_g114 e_h114 => ?_)
          try dsimp only at e_g114
          have F_h114_c : h114 c = .inr (1, [.ref ba, .ref wi, .int gr, .ref (c + 1), .ref (c + 2), .ref (c + 5), .int (nI (vs.length + 1)), .int (nI ((colF sy wd vs).2.1 + 0)), .int (nI (colF sy wd vs).2.2), .ref (c + 6), .ref (c + 13), .ref (c + 20), .ref cho, .ref (c + 3), .int mo, .int bi, .int ob, .int sta]) := by rw [e_h114, va_up_neq (nek1 (a := 5) (by decide))]; exact F_h102_c
          have F_h114_ba : h114 ba = .inl (1, NB, .inl bA) := by rw [e_h114, va_up_neq (by omega)]; exact F_h102_ba
          have F_h114_wi : h114 wi = .inl (1, NW, .inl wA) := by rw [e_h114, va_up_neq (by omega)]; exact F_h102_wi
          have F_h114__c_1_ : h114 (c + 1) = .inl (1, 2667, .inl g61) := by rw [e_h114, va_up_neq (nek (a := 1) (b := 5) (by decide))]; exact F_h102__c_1_
          have F_h114__c_2_ : h114 (c + 2) = .inl (1, 2667, .inl g71) := by rw [e_h114, va_up_neq (nek (a := 2) (b := 5) (by decide))]; exact F_h102__c_2_
          have F_h114__c_5_ : h114 (c + 5) = .inl (1, (l + 1), .inl g114) := by rw [e_h114]; exact va_up_eq
          have FR_h114 : Fr h h114 (fun j => j = c ∨ j = c + 1 ∨ j = c + 2 ∨ j = c + 5) := FR_h102.zup e_h114 (by first | exact rfl | exact Or.inl rfl | exact Or.inr rfl | exact ⟨by decide, by decide⟩ | decide | omega)
          refine WX.s1 rfl rfl ?_
          refine WX.s1 rfl rfl ?_
          refine WX.get1 (fs := [.ref ba, .ref wi, .int gr, .ref (c + 1), .ref (c + 2), .ref (c + 5), .int (nI (vs.length + 1)), .int (nI ((colF sy wd vs).2.1 + 0)), .int (nI (colF sy wd vs).2.2), .ref (c + 6), .ref (c + 13), .ref (c + 20), .ref cho, .ref (c + 3), .int mo, .int bi, .int ob, .int sta]) rfl (by omega) (F_h114_c) rfl ?_
          refine WX.s1 rfl rfl ?_
          refine WX.get1 (fs := [.ref ba, .ref wi, .int gr, .ref (c + 1), .ref (c + 2), .ref (c + 5), .int (nI (vs.length + 1)), .int (nI ((colF sy wd vs).2.1 + 0)), .int (nI (colF sy wd vs).2.2), .ref (c + 6), .ref (c + 13), .ref (c + 20), .ref cho, .ref (c + 3), .int mo, .int bi, .int ob, .int sta]) rfl (by omega) (F_h114_c) rfl ?_
          refine WX.s1 rfl rfl ?_
          refine WX.iald1 rfl (Or.inr ⟨by omega, by omega⟩) (F_h114_wi) (vp_in_nI hsw (by omega)) ?_
          rw [nI_clamp (by omega), hWd _ hsw]
          have hwb := hwd (sy v)
          refine WX.s1 (S' := [.int ((nI (colF sy wd vs).2.2) + (nI (wd (sy v)))), .ref c]) rfl rfl ?_
          rw [show ((nI (colF sy wd vs).2.2) + (nI (wd (sy v)))) = nI ((colF sy wd vs).2.2 + wd (sy v)) from nI_add ((colF sy wd vs).2.2) (wd (sy v))]
          refine WX.put1 (fs := [.ref ba, .ref wi, .int gr, .ref (c + 1), .ref (c + 2), .ref (c + 5), .int (nI (vs.length + 1)), .int (nI ((colF sy wd vs).2.1 + 0)), .int (nI (colF sy wd vs).2.2), .ref (c + 6), .ref (c + 13), .ref (c + 20), .ref cho, .ref (c + 3), .int mo, .int bi, .int ob, .int sta]) (fs' := [.ref ba, .ref wi, .int gr, .ref (c + 1), .ref (c + 2), .ref (c + 5), .int (nI (vs.length + 1)), .int (nI ((colF sy wd vs).2.1 + 0)), .int (nI ((colF sy wd vs).2.2 + wd (sy v))), .ref (c + 6), .ref (c + 13), .ref (c + 20), .ref cho, .ref (c + 3), .int mo, .int bi, .int ob, .int sta]) rfl (by omega) (F_h114_c) (Nat.le_of_ble_eq_true rfl) (rfl) rfl (fun h127 e_h127 => ?_)
          have F_h127_c : h127 c = .inr (1, [.ref ba, .ref wi, .int gr, .ref (c + 1), .ref (c + 2), .ref (c + 5), .int (nI (vs.length + 1)), .int (nI ((colF sy wd vs).2.1 + 0)), .int (nI ((colF sy wd vs).2.2 + wd (sy v))), .ref (c + 6), .ref (c + 13), .ref (c + 20), .ref cho, .ref (c + 3), .int mo, .int bi, .int ob, .int sta]) := by rw [e_h127]; exact va_up_eq
          have F_h127_ba : h127 ba = .inl (1, NB, .inl bA) := by rw [e_h127, va_up_neq (by omega)]; exact F_h114_ba
          have F_h127_wi : h127 wi = .inl (1, NW, .inl wA) := by rw [e_h127, va_up_neq (by omega)]; exact F_h114_wi
          have F_h127__c_1_ : h127 (c + 1) = .inl (1, 2667, .inl g61) := by rw [e_h127, va_up_neq (nek0 (a := 1) (by decide))]; exact F_h114__c_1_
          have F_h127__c_2_ : h127 (c + 2) = .inl (1, 2667, .inl g71) := by rw [e_h127, va_up_neq (nek0 (a := 2) (by decide))]; exact F_h114__c_2_
          have F_h127__c_5_ : h127 (c + 5) = .inl (1, (l + 1), .inl g114) := by rw [e_h127, va_up_neq (nek0 (a := 5) (by decide))]; exact F_h114__c_5_
          have FR_h127 : Fr h h127 (fun j => j = c ∨ j = c + 1 ∨ j = c + 2 ∨ j = c + 5) := FR_h114.zup e_h127 (by first | exact rfl | exact Or.inl rfl | exact Or.inr rfl | exact ⟨by decide, by decide⟩ | decide | omega)
          refine WX.ret0 rfl (kk h127 FR_h127 ?_ ⟨g61, g71, g114, F_h127__c_1_, F_h127__c_2_, F_h127__c_5_, fun i hi => ?_, fun s hs => ?_⟩)
          · rw [F_h127_c, List.length_append, colF_snoc]
            show _ = Sum.inr (1, [_, _, _, _, _, _, Value.int (nI (vs.length + 1)), Value.int (nI ((colF sy wd vs).2.1 + (if (colF sy wd vs).1 (sy v) = 0 then 1 else 0))), Value.int (nI ((colF sy wd vs).2.2 + wd (sy v))), _, _, _, _, _, _, _, _, _])
            first | rw [if_pos n_93] | rw [if_neg n_93]
          · rw [List.length_append, List.length_singleton] at hi
            rw [e_g61, e_g71, nI_clamp (by omega), getD_app]
            by_cases q : i = vs.length
            · rw [if_pos q, q, pk_us, pk_us]; exact ⟨rfl, rfl⟩
            · rw [if_neg q, pk_un q, pk_un q]; exact hsv i (by omega)
          · rw [e_g114, nI_clamp (by omega), colF_snoc]
            show _ = nI (if s = sy v then (colF sy wd vs).1 (sy v) + 1 else (colF sy wd vs).1 s)
            by_cases q : s = sy v
            · rw [if_pos q, q, pk_us]
            · rw [if_neg q, pk_un q]; exact hcA s hs
        · skip
          have n_93 : ((colF sy wd vs).1 (sy v)) = 0 := (nI_eq (a := (colF sy wd vs).1 (sy v)) (b := 0) (by omega) (by omega)).mp (Classical.not_not.mp c_93)
          refine WX.s1 rfl rfl ?_
          refine WX.s1 rfl rfl ?_
          refine WX.s1 (S' := [.int ((nI (colF sy wd vs).2.1) + 1), .ref c]) rfl rfl ?_
          rw [show ((nI (colF sy wd vs).2.1) + 1) = nI ((colF sy wd vs).2.1 + 1) from nI_add ((colF sy wd vs).2.1) 1]
          refine WX.put1 (fs := [.ref ba, .ref wi, .int gr, .ref (c + 1), .ref (c + 2), .ref (c + 5), .int (nI (vs.length + 1)), .int (nI (colF sy wd vs).2.1), .int (nI (colF sy wd vs).2.2), .ref (c + 6), .ref (c + 13), .ref (c + 20), .ref cho, .ref (c + 3), .int mo, .int bi, .int ob, .int sta]) (fs' := [.ref ba, .ref wi, .int gr, .ref (c + 1), .ref (c + 2), .ref (c + 5), .int (nI (vs.length + 1)), .int (nI ((colF sy wd vs).2.1 + 1)), .int (nI (colF sy wd vs).2.2), .ref (c + 6), .ref (c + 13), .ref (c + 20), .ref cho, .ref (c + 3), .int mo, .int bi, .int ob, .int sta]) rfl (by omega) (F_h79_c) (Nat.le_of_ble_eq_true rfl) (rfl) rfl (fun h102 e_h102 => ?_)
          have F_h102_c : h102 c = .inr (1, [.ref ba, .ref wi, .int gr, .ref (c + 1), .ref (c + 2), .ref (c + 5), .int (nI (vs.length + 1)), .int (nI ((colF sy wd vs).2.1 + 1)), .int (nI (colF sy wd vs).2.2), .ref (c + 6), .ref (c + 13), .ref (c + 20), .ref cho, .ref (c + 3), .int mo, .int bi, .int ob, .int sta]) := by rw [e_h102]; exact va_up_eq
          have F_h102_ba : h102 ba = .inl (1, NB, .inl bA) := by rw [e_h102, va_up_neq (by omega)]; exact F_h79_ba
          have F_h102_wi : h102 wi = .inl (1, NW, .inl wA) := by rw [e_h102, va_up_neq (by omega)]; exact F_h79_wi
          have F_h102__c_1_ : h102 (c + 1) = .inl (1, 2667, .inl g61) := by rw [e_h102, va_up_neq (nek0 (a := 1) (by decide))]; exact F_h79__c_1_
          have F_h102__c_2_ : h102 (c + 2) = .inl (1, 2667, .inl g71) := by rw [e_h102, va_up_neq (nek0 (a := 2) (by decide))]; exact F_h79__c_2_
          have F_h102__c_5_ : h102 (c + 5) = .inl (1, (l + 1), .inl cA) := by rw [e_h102, va_up_neq (nek0 (a := 5) (by decide))]; exact F_h79__c_5_
          have FR_h102 : Fr h h102 (fun j => j = c ∨ j = c + 1 ∨ j = c + 2 ∨ j = c + 5) := FR_h79.zup e_h102 (by first | exact rfl | exact Or.inl rfl | exact Or.inr rfl | exact ⟨by decide, by decide⟩ | decide | omega)
          refine WX.s1 rfl rfl ?_
          refine WX.get1 (fs := [.ref ba, .ref wi, .int gr, .ref (c + 1), .ref (c + 2), .ref (c + 5), .int (nI (vs.length + 1)), .int (nI ((colF sy wd vs).2.1 + 1)), .int (nI (colF sy wd vs).2.2), .ref (c + 6), .ref (c + 13), .ref (c + 20), .ref cho, .ref (c + 3), .int mo, .int bi, .int ob, .int sta]) rfl (by omega) (F_h102_c) rfl ?_
          refine WX.s1 rfl rfl ?_
          refine WX.s1 rfl rfl ?_
          refine WX.iald1 rfl (Or.inl (by omega)) (F_h102__c_5_) (vp_in_nI (by omega) (by omega)) ?_
          rw [nI_clamp (by omega), hcs]
          refine WX.s1 rfl rfl ?_
          refine WX.s1 (S' := [.int ((nI ((colF sy wd vs).1 (sy v))) + 1), .int (nI (sy v)), .ref (c + 5)]) rfl rfl ?_
          rw [show ((nI ((colF sy wd vs).1 (sy v))) + 1) = nI ((colF sy wd vs).1 (sy v) + 1) from nI_add ((colF sy wd vs).1 (sy v)) 1]
          refine WX.iastN rfl (by omega) (F_h102__c_5_) (vp_in_nI (by omega) (by omega)) (fun g114 h114 e_g114 e_h114 => ?_)
          try dsimp only at e_g114
          have F_h114_c : h114 c = .inr (1, [.ref ba, .ref wi, .int gr, .ref (c + 1), .ref (c + 2), .ref (c + 5), .int (nI (vs.length + 1)), .int (nI ((colF sy wd vs).2.1 + 1)), .int (nI (colF sy wd vs).2.2), .ref (c + 6), .ref (c + 13), .ref (c + 20), .ref cho, .ref (c + 3), .int mo, .int bi, .int ob, .int sta]) := by rw [e_h114, va_up_neq (nek1 (a := 5) (by decide))]; exact F_h102_c
          have F_h114_ba : h114 ba = .inl (1, NB, .inl bA) := by rw [e_h114, va_up_neq (by omega)]; exact F_h102_ba
          have F_h114_wi : h114 wi = .inl (1, NW, .inl wA) := by rw [e_h114, va_up_neq (by omega)]; exact F_h102_wi
          have F_h114__c_1_ : h114 (c + 1) = .inl (1, 2667, .inl g61) := by rw [e_h114, va_up_neq (nek (a := 1) (b := 5) (by decide))]; exact F_h102__c_1_
          have F_h114__c_2_ : h114 (c + 2) = .inl (1, 2667, .inl g71) := by rw [e_h114, va_up_neq (nek (a := 2) (b := 5) (by decide))]; exact F_h102__c_2_
          have F_h114__c_5_ : h114 (c + 5) = .inl (1, (l + 1), .inl g114) := by rw [e_h114]; exact va_up_eq
          have FR_h114 : Fr h h114 (fun j => j = c ∨ j = c + 1 ∨ j = c + 2 ∨ j = c + 5) := FR_h102.zup e_h114 (by first | exact rfl | exact Or.inl rfl | exact Or.inr rfl | exact ⟨by decide, by decide⟩ | decide | omega)
          refine WX.s1 rfl rfl ?_
          refine WX.s1 rfl rfl ?_
          refine WX.get1 (fs := [.ref ba, .ref wi, .int gr, .ref (c + 1), .ref (c + 2), .ref (c + 5), .int (nI (vs.length + 1)), .int (nI ((colF sy wd vs).2.1 + 1)), .int (nI (colF sy wd vs).2.2), .ref (c + 6), .ref (c + 13), .ref (c + 20), .ref cho, .ref (c + 3), .int mo, .int bi, .int ob, .int sta]) rfl (by omega) (F_h114_c) rfl ?_
          refine WX.s1 rfl rfl ?_
          refine WX.get1 (fs := [.ref ba, .ref wi, .int gr, .ref (c + 1), .ref (c + 2), .ref (c + 5), .int (nI (vs.length + 1)), .int (nI ((colF sy wd vs).2.1 + 1)), .int (nI (colF sy wd vs).2.2), .ref (c + 6), .ref (c + 13), .ref (c + 20), .ref cho, .ref (c + 3), .int mo, .int bi, .int ob, .int sta]) rfl (by omega) (F_h114_c) rfl ?_
          refine WX.s1 rfl rfl ?_
          refine WX.iald1 rfl (Or.inr ⟨by omega, by omega⟩) (F_h114_wi) (vp_in_nI hsw (by omega)) ?_
          rw [nI_clamp (by omega), hWd _ hsw]
          have hwb := hwd (sy v)
          refine WX.s1 (S' := [.int ((nI (colF sy wd vs).2.2) + (nI (wd (sy v)))), .ref c]) rfl rfl ?_
          rw [show ((nI (colF sy wd vs).2.2) + (nI (wd (sy v)))) = nI ((colF sy wd vs).2.2 + wd (sy v)) from nI_add ((colF sy wd vs).2.2) (wd (sy v))]
          refine WX.put1 (fs := [.ref ba, .ref wi, .int gr, .ref (c + 1), .ref (c + 2), .ref (c + 5), .int (nI (vs.length + 1)), .int (nI ((colF sy wd vs).2.1 + 1)), .int (nI (colF sy wd vs).2.2), .ref (c + 6), .ref (c + 13), .ref (c + 20), .ref cho, .ref (c + 3), .int mo, .int bi, .int ob, .int sta]) (fs' := [.ref ba, .ref wi, .int gr, .ref (c + 1), .ref (c + 2), .ref (c + 5), .int (nI (vs.length + 1)), .int (nI ((colF sy wd vs).2.1 + 1)), .int (nI ((colF sy wd vs).2.2 + wd (sy v))), .ref (c + 6), .ref (c + 13), .ref (c + 20), .ref cho, .ref (c + 3), .int mo, .int bi, .int ob, .int sta]) rfl (by omega) (F_h114_c) (Nat.le_of_ble_eq_true rfl) (rfl) rfl (fun h127 e_h127 => ?_)
          have F_h127_c : h127 c = .inr (1, [.ref ba, .ref wi, .int gr, .ref (c + 1), .ref (c + 2), .ref (c + 5), .int (nI (vs.length + 1)), .int (nI ((colF sy wd vs).2.1 + 1)), .int (nI ((colF sy wd vs).2.2 + wd (sy v))), .ref (c + 6), .ref (c + 13), .ref (c + 20), .ref cho, .ref (c + 3), .int mo, .int bi, .int ob, .int sta]) := by rw [e_h127]; exact va_up_eq
          have F_h127_ba : h127 ba = .inl (1, NB, .inl bA) := by rw [e_h127, va_up_neq (by omega)]; exact F_h114_ba
          have F_h127_wi : h127 wi = .inl (1, NW, .inl wA) := by rw [e_h127, va_up_neq (by omega)]; exact F_h114_wi
          have F_h127__c_1_ : h127 (c + 1) = .inl (1, 2667, .inl g61) := by rw [e_h127, va_up_neq (nek0 (a := 1) (by decide))]; exact F_h114__c_1_
          have F_h127__c_2_ : h127 (c + 2) = .inl (1, 2667, .inl g71) := by rw [e_h127, va_up_neq (nek0 (a := 2) (by decide))]; exact F_h114__c_2_
          have F_h127__c_5_ : h127 (c + 5) = .inl (1, (l + 1), .inl g114) := by rw [e_h127, va_up_neq (nek0 (a := 5) (by decide))]; exact F_h114__c_5_
          have FR_h127 : Fr h h127 (fun j => j = c ∨ j = c + 1 ∨ j = c + 2 ∨ j = c + 5) := FR_h114.zup e_h127 (by first | exact rfl | exact Or.inl rfl | exact Or.inr rfl | exact ⟨by decide, by decide⟩ | decide | omega)
          refine WX.ret0 rfl (kk h127 FR_h127 ?_ ⟨g61, g71, g114, F_h127__c_1_, F_h127__c_2_, F_h127__c_5_, fun i hi => ?_, fun s hs => ?_⟩)
          · rw [F_h127_c, List.length_append, colF_snoc]
            show _ = Sum.inr (1, [_, _, _, _, _, _, Value.int (nI (vs.length + 1)), Value.int (nI ((colF sy wd vs).2.1 + (if (colF sy wd vs).1 (sy v) = 0 then 1 else 0))), Value.int (nI ((colF sy wd vs).2.2 + wd (sy v))), _, _, _, _, _, _, _, _, _])
            first | rw [if_pos n_93] | rw [if_neg n_93]
          · rw [List.length_append, List.length_singleton] at hi
            rw [e_g61, e_g71, nI_clamp (by omega), getD_app]
            by_cases q : i = vs.length
            · rw [if_pos q, q, pk_us, pk_us]; exact ⟨rfl, rfl⟩
            · rw [if_neg q, pk_un q, pk_un q]; exact hsv i (by omega)
          · rw [e_g114, nI_clamp (by omega), colF_snoc]
            show _ = nI (if s = sy v then (colF sy wd vs).1 (sy v) + 1 else (colF sy wd vs).1 s)
            by_cases q : s = sy v
            · rw [if_pos q, q, pk_us]
            · rw [if_neg q, pk_un q]; exact hcA s hs
      · skip
        have n_10 : (i + 1) < NB := Nat.lt_of_not_le (fun zz_ => c_10 ((nI_leI (a := NB) (b := i + 1) (by omega) (by omega)).mpr zz_))
        refine WX.s1 rfl rfl ?_
        refine WX.get1 (fs := [.ref ba, .ref wi, .int gr, .ref (c + 1), .ref (c + 2), .ref (c + 5), .int (nI vs.length), .int (nI (colF sy wd vs).2.1), .int (nI (colF sy wd vs).2.2), .ref (c + 6), .ref (c + 13), .ref (c + 20), .ref cho, .ref (c + 3), .int mo, .int bi, .int ob, .int sta]) rfl (by omega) (F_h_c) rfl ?_
        refine WX.s1 rfl rfl ?_
        refine WX.s1 rfl rfl ?_
        refine WX.s1 (S' := [.int ((nI i) + 1), .ref ba]) rfl rfl ?_
        rw [show ((nI i) + 1) = nI (i + 1) from nI_add i 1]
        refine WX.iald1 rfl (Or.inr ⟨by omega, by omega⟩) (F_h_ba) (vp_in_nI (by omega) (by omega)) ?_
        rw [nI_clamp (by omega), (hB (i + 1) (by omega)).1]
        have hBi := (hB (i + 1) (by omega)).2
        refine WX.s1 rfl rfl ?_
        refine WX.icmp rfl (fun c_22 => ?_) (fun c_22 => ?_)
        · skip
          have n_22 : v < (B (i + 1)) := (nI_ltI (a := v) (b := B (i + 1)) (by omega) (by omega)).mp c_22
          obtain rfl : sy v = i := hsy.uniq ⟨hi, hj, fun z => by omega⟩
          clear ih hj
          refine WX.s1 rfl rfl ?_
          refine WX.get1 (fs := [.ref ba, .ref wi, .int gr, .ref (c + 1), .ref (c + 2), .ref (c + 5), .int (nI vs.length), .int (nI (colF sy wd vs).2.1), .int (nI (colF sy wd vs).2.2), .ref (c + 6), .ref (c + 13), .ref (c + 20), .ref cho, .ref (c + 3), .int mo, .int bi, .int ob, .int sta]) rfl (by omega) (F_h_c) rfl ?_
          refine WX.s1 rfl rfl ?_
          refine WX.get1 (fs := [.ref ba, .ref wi, .int gr, .ref (c + 1), .ref (c + 2), .ref (c + 5), .int (nI vs.length), .int (nI (colF sy wd vs).2.1), .int (nI (colF sy wd vs).2.2), .ref (c + 6), .ref (c + 13), .ref (c + 20), .ref cho, .ref (c + 3), .int mo, .int bi, .int ob, .int sta]) rfl (by omega) (F_h_c) rfl ?_
          refine WX.len1 rfl (Or.inl ⟨by omega, by decide⟩) (F_h__c_1_) ?_
          refine WX.icmp rfl (fun c_40 => absurd c_40 (fun zz_ => absurd ((nI_leI (a := 2667) (b := vs.length) (by omega) (by omega)).mp zz_) (Nat.not_le.mpr (by omega)))) (fun c_40 => ?_)
          clear c_40
          refine WX.s1 rfl rfl ?_
          refine WX.s1 rfl rfl ?_
          refine WX.get1 (fs := [.ref ba, .ref wi, .int gr, .ref (c + 1), .ref (c + 2), .ref (c + 5), .int (nI vs.length), .int (nI (colF sy wd vs).2.1), .int (nI (colF sy wd vs).2.2), .ref (c + 6), .ref (c + 13), .ref (c + 20), .ref cho, .ref (c + 3), .int mo, .int bi, .int ob, .int sta]) rfl (by omega) (F_h_c) rfl ?_
          refine WX.len1 rfl (Or.inl ⟨by omega, by decide⟩) (F_h__c_5_) ?_
          refine WX.icmp rfl (fun c_49 => absurd c_49 (fun zz_ => absurd ((nI_leI (a := l + 1) (b := sy v) (by omega) (by omega)).mp zz_) (Nat.not_le.mpr (by omega)))) (fun c_49 => ?_)
          clear c_49
          refine WX.s1 rfl rfl ?_
          refine WX.get1 (fs := [.ref ba, .ref wi, .int gr, .ref (c + 1), .ref (c + 2), .ref (c + 5), .int (nI vs.length), .int (nI (colF sy wd vs).2.1), .int (nI (colF sy wd vs).2.2), .ref (c + 6), .ref (c + 13), .ref (c + 20), .ref cho, .ref (c + 3), .int mo, .int bi, .int ob, .int sta]) rfl (by omega) (F_h_c) rfl ?_
          refine WX.s1 rfl rfl ?_
          refine WX.get1 (fs := [.ref ba, .ref wi, .int gr, .ref (c + 1), .ref (c + 2), .ref (c + 5), .int (nI vs.length), .int (nI (colF sy wd vs).2.1), .int (nI (colF sy wd vs).2.2), .ref (c + 6), .ref (c + 13), .ref (c + 20), .ref cho, .ref (c + 3), .int mo, .int bi, .int ob, .int sta]) rfl (by omega) (F_h_c) rfl ?_
          refine WX.s1 rfl rfl ?_
          refine WX.iastN rfl (by omega) (F_h__c_1_) (vp_in_nI (by omega) (by decide)) (fun g61 h61 e_g61 e_h61 => ?_)
          try dsimp only at e_g61
          have F_h61_c : h61 c = .inr (1, [.ref ba, .ref wi, .int gr, .ref (c + 1), .ref (c + 2), .ref (c + 5), .int (nI vs.length), .int (nI (colF sy wd vs).2.1), .int (nI (colF sy wd vs).2.2), .ref (c + 6), .ref (c + 13), .ref (c + 20), .ref cho, .ref (c + 3), .int mo, .int bi, .int ob, .int sta]) := by rw [e_h61, va_up_neq (nek1 (a := 1) (by decide))]; exact F_h_c
          have F_h61_ba : h61 ba = .inl (1, NB, .inl bA) := by rw [e_h61, va_up_neq (by omega)]; exact F_h_ba
          have F_h61_wi : h61 wi = .inl (1, NW, .inl wA) := by rw [e_h61, va_up_neq (by omega)]; exact F_h_wi
          have F_h61__c_1_ : h61 (c + 1) = .inl (1, 2667, .inl g61) := by rw [e_h61]; exact va_up_eq
          have F_h61__c_2_ : h61 (c + 2) = .inl (1, 2667, .inl vA) := by rw [e_h61, va_up_neq (nek (a := 2) (b := 1) (by decide))]; exact F_h__c_2_
          have F_h61__c_5_ : h61 (c + 5) = .inl (1, (l + 1), .inl cA) := by rw [e_h61, va_up_neq (nek (a := 5) (b := 1) (by decide))]; exact F_h__c_5_
          have FR_h61 : Fr h h61 (fun j => j = c ∨ j = c + 1 ∨ j = c + 2 ∨ j = c + 5) := FR_h.zup e_h61 (by first | exact rfl | exact Or.inl rfl | exact Or.inr rfl | exact ⟨by decide, by decide⟩ | decide | omega)
          refine WX.s1 rfl rfl ?_
          refine WX.get1 (fs := [.ref ba, .ref wi, .int gr, .ref (c + 1), .ref (c + 2), .ref (c + 5), .int (nI vs.length), .int (nI (colF sy wd vs).2.1), .int (nI (colF sy wd vs).2.2), .ref (c + 6), .ref (c + 13), .ref (c + 20), .ref cho, .ref (c + 3), .int mo, .int bi, .int ob, .int sta]) rfl (by omega) (F_h61_c) rfl ?_
          refine WX.s1 rfl rfl ?_
          refine WX.get1 (fs := [.ref ba, .ref wi, .int gr, .ref (c + 1), .ref (c + 2), .ref (c + 5), .int (nI vs.length), .int (nI (colF sy wd vs).2.1), .int (nI (colF sy wd vs).2.2), .ref (c + 6), .ref (c + 13), .ref (c + 20), .ref cho, .ref (c + 3), .int mo, .int bi, .int ob, .int sta]) rfl (by omega) (F_h61_c) rfl ?_
          refine WX.s1 rfl rfl ?_
          refine WX.iastN rfl (by omega) (F_h61__c_2_) (vp_in_nI (by omega) (by decide)) (fun g71 h71 e_g71 e_h71 => ?_)
          try dsimp only at e_g71
          have F_h71_c : h71 c = .inr (1, [.ref ba, .ref wi, .int gr, .ref (c + 1), .ref (c + 2), .ref (c + 5), .int (nI vs.length), .int (nI (colF sy wd vs).2.1), .int (nI (colF sy wd vs).2.2), .ref (c + 6), .ref (c + 13), .ref (c + 20), .ref cho, .ref (c + 3), .int mo, .int bi, .int ob, .int sta]) := by rw [e_h71, va_up_neq (nek1 (a := 2) (by decide))]; exact F_h61_c
          have F_h71_ba : h71 ba = .inl (1, NB, .inl bA) := by rw [e_h71, va_up_neq (by omega)]; exact F_h61_ba
          have F_h71_wi : h71 wi = .inl (1, NW, .inl wA) := by rw [e_h71, va_up_neq (by omega)]; exact F_h61_wi
          have F_h71__c_1_ : h71 (c + 1) = .inl (1, 2667, .inl g61) := by rw [e_h71, va_up_neq (nek (a := 1) (b := 2) (by decide))]; exact F_h61__c_1_
          have F_h71__c_2_ : h71 (c + 2) = .inl (1, 2667, .inl g71) := by rw [e_h71]; exact va_up_eq
          have F_h71__c_5_ : h71 (c + 5) = .inl (1, (l + 1), .inl cA) := by rw [e_h71, va_up_neq (nek (a := 5) (b := 2) (by decide))]; exact F_h61__c_5_
          have FR_h71 : Fr h h71 (fun j => j = c ∨ j = c + 1 ∨ j = c + 2 ∨ j = c + 5) := FR_h61.zup e_h71 (by first | exact rfl | exact Or.inl rfl | exact Or.inr rfl | exact ⟨by decide, by decide⟩ | decide | omega)
          refine WX.s1 rfl rfl ?_
          refine WX.s1 rfl rfl ?_
          refine WX.get1 (fs := [.ref ba, .ref wi, .int gr, .ref (c + 1), .ref (c + 2), .ref (c + 5), .int (nI vs.length), .int (nI (colF sy wd vs).2.1), .int (nI (colF sy wd vs).2.2), .ref (c + 6), .ref (c + 13), .ref (c + 20), .ref cho, .ref (c + 3), .int mo, .int bi, .int ob, .int sta]) rfl (by omega) (F_h71_c) rfl ?_
          refine WX.s1 rfl rfl ?_
          refine WX.s1 (S' := [.int ((nI vs.length) + 1), .ref c]) rfl rfl ?_
          rw [show ((nI vs.length) + 1) = nI (vs.length + 1) from nI_add vs.length 1]
          refine WX.put1 (fs := [.ref ba, .ref wi, .int gr, .ref (c + 1), .ref (c + 2), .ref (c + 5), .int (nI vs.length), .int (nI (colF sy wd vs).2.1), .int (nI (colF sy wd vs).2.2), .ref (c + 6), .ref (c + 13), .ref (c + 20), .ref cho, .ref (c + 3), .int mo, .int bi, .int ob, .int sta]) (fs' := [.ref ba, .ref wi, .int gr, .ref (c + 1), .ref (c + 2), .ref (c + 5), .int (nI (vs.length + 1)), .int (nI (colF sy wd vs).2.1), .int (nI (colF sy wd vs).2.2), .ref (c + 6), .ref (c + 13), .ref (c + 20), .ref cho, .ref (c + 3), .int mo, .int bi, .int ob, .int sta]) rfl (by omega) (F_h71_c) (Nat.le_of_ble_eq_true rfl) (rfl) rfl (fun h79 e_h79 => ?_)
          have F_h79_c : h79 c = .inr (1, [.ref ba, .ref wi, .int gr, .ref (c + 1), .ref (c + 2), .ref (c + 5), .int (nI (vs.length + 1)), .int (nI (colF sy wd vs).2.1), .int (nI (colF sy wd vs).2.2), .ref (c + 6), .ref (c + 13), .ref (c + 20), .ref cho, .ref (c + 3), .int mo, .int bi, .int ob, .int sta]) := by rw [e_h79]; exact va_up_eq
          have F_h79_ba : h79 ba = .inl (1, NB, .inl bA) := by rw [e_h79, va_up_neq (by omega)]; exact F_h71_ba
          have F_h79_wi : h79 wi = .inl (1, NW, .inl wA) := by rw [e_h79, va_up_neq (by omega)]; exact F_h71_wi
          have F_h79__c_1_ : h79 (c + 1) = .inl (1, 2667, .inl g61) := by rw [e_h79, va_up_neq (nek0 (a := 1) (by decide))]; exact F_h71__c_1_
          have F_h79__c_2_ : h79 (c + 2) = .inl (1, 2667, .inl g71) := by rw [e_h79, va_up_neq (nek0 (a := 2) (by decide))]; exact F_h71__c_2_
          have F_h79__c_5_ : h79 (c + 5) = .inl (1, (l + 1), .inl cA) := by rw [e_h79, va_up_neq (nek0 (a := 5) (by decide))]; exact F_h71__c_5_
          have FR_h79 : Fr h h79 (fun j => j = c ∨ j = c + 1 ∨ j = c + 2 ∨ j = c + 5) := FR_h71.zup e_h79 (by first | exact rfl | exact Or.inl rfl | exact Or.inr rfl | exact ⟨by decide, by decide⟩ | decide | omega)
          refine WX.s1 rfl rfl ?_
          refine WX.s1 rfl rfl ?_
          refine WX.get1 (fs := [.ref ba, .ref wi, .int gr, .ref (c + 1), .ref (c + 2), .ref (c + 5), .int (nI (vs.length + 1)), .int (nI (colF sy wd vs).2.1), .int (nI (colF sy wd vs).2.2), .ref (c + 6), .ref (c + 13), .ref (c + 20), .ref cho, .ref (c + 3), .int mo, .int bi, .int ob, .int sta]) rfl (by omega) (F_h79_c) rfl ?_
          refine WX.s1 rfl rfl ?_
          refine WX.get1 (fs := [.ref ba, .ref wi, .int gr, .ref (c + 1), .ref (c + 2), .ref (c + 5), .int (nI (vs.length + 1)), .int (nI (colF sy wd vs).2.1), .int (nI (colF sy wd vs).2.2), .ref (c + 6), .ref (c + 13), .ref (c + 20), .ref cho, .ref (c + 3), .int mo, .int bi, .int ob, .int sta]) rfl (by omega) (F_h79_c) rfl ?_
          refine WX.s1 rfl rfl ?_
          refine WX.iald1 rfl (Or.inl (by omega)) (F_h79__c_5_) (vp_in_nI (by omega) (by omega)) ?_
          rw [nI_clamp (by omega), hcs]
          refine WX.if_ rfl (fun c_93 => ?_) (fun c_93 => ?_)
          · skip
            have n_93 : ¬ ((colF sy wd vs).1 (sy v)) = 0 := fun zz_ => c_93 ((nI_eq (a := (colF sy wd vs).1 (sy v)) (b := 0) (by omega) (by omega)).mpr zz_)
            refine WX.s1 rfl rfl ?_
            refine WX.s1 (S' := [.int ((nI (colF sy wd vs).2.1) + 0), .ref c]) rfl rfl ?_
            rw [show ((nI (colF sy wd vs).2.1) + 0) = nI ((colF sy wd vs).2.1 + 0) from nI_add ((colF sy wd vs).2.1) 0]
            refine WX.put1 (fs := [.ref ba, .ref wi, .int gr, .ref (c + 1), .ref (c + 2), .ref (c + 5), .int (nI (vs.length + 1)), .int (nI (colF sy wd vs).2.1), .int (nI (colF sy wd vs).2.2), .ref (c + 6), .ref (c + 13), .ref (c + 20), .ref cho, .ref (c + 3), .int mo, .int bi, .int ob, .int sta]) (fs' := [.ref ba, .ref wi, .int gr, .ref (c + 1), .ref (c + 2), .ref (c + 5), .int (nI (vs.length + 1)), .int (nI ((colF sy wd vs).2.1 + 0)), .int (nI (colF sy wd vs).2.2), .ref (c + 6), .ref (c + 13), .ref (c + 20), .ref cho, .ref (c + 3), .int mo, .int bi, .int ob, .int sta]) rfl (by omega) (F_h79_c) (Nat.le_of_ble_eq_true rfl) (rfl) rfl (fun h102 e_h102 => ?_)
            have F_h102_c : h102 c = .inr (1, [.ref ba, .ref wi, .int gr, .ref (c + 1), .ref (c + 2), .ref (c + 5), .int (nI (vs.length + 1)), .int (nI ((colF sy wd vs).2.1 + 0)), .int (nI (colF sy wd vs).2.2), .ref (c + 6), .ref (c + 13), .ref (c + 20), .ref cho, .ref (c + 3), .int mo, .int bi, .int ob, .int sta]) := by rw [e_h102]; exact va_up_eq
            have F_h102_ba : h102 ba = .inl (1, NB, .inl bA) := by rw [e_h102, va_up_neq (by omega)]; exact F_h79_ba
            have F_h102_wi : h102 wi = .inl (1, NW, .inl wA) := by rw [e_h102, va_up_neq (by omega)]; exact F_h79_wi
            have F_h102__c_1_ : h102 (c + 1) = .inl (1, 2667, .inl g61) := by rw [e_h102, va_up_neq (nek0 (a := 1) (by decide))]; exact F_h79__c_1_
            have F_h102__c_2_ : h102 (c + 2) = .inl (1, 2667, .inl g71) := by rw [e_h102, va_up_neq (nek0 (a := 2) (by decide))]; exact F_h79__c_2_
            have F_h102__c_5_ : h102 (c + 5) = .inl (1, (l + 1), .inl cA) := by rw [e_h102, va_up_neq (nek0 (a := 5) (by decide))]; exact F_h79__c_5_
            have FR_h102 : Fr h h102 (fun j => j = c ∨ j = c + 1 ∨ j = c + 2 ∨ j = c + 5) := FR_h79.zup e_h102 (by first | exact rfl | exact Or.inl rfl | exact Or.inr rfl | exact ⟨by decide, by decide⟩ | decide | omega)
            refine WX.s1 rfl rfl ?_
            refine WX.get1 (fs := [.ref ba, .ref wi, .int gr, .ref (c + 1), .ref (c + 2), .ref (c + 5), .int (nI (vs.length + 1)), .int (nI ((colF sy wd vs).2.1 + 0)), .int (nI (colF sy wd vs).2.2), .ref (c + 6), .ref (c + 13), .ref (c + 20), .ref cho, .ref (c + 3), .int mo, .int bi, .int ob, .int sta]) rfl (by omega) (F_h102_c) rfl ?_
            refine WX.s1 rfl rfl ?_
            refine WX.s1 rfl rfl ?_
            refine WX.iald1 rfl (Or.inl (by omega)) (F_h102__c_5_) (vp_in_nI (by omega) (by omega)) ?_
            rw [nI_clamp (by omega), hcs]
            refine WX.s1 rfl rfl ?_
            refine WX.s1 (S' := [.int ((nI ((colF sy wd vs).1 (sy v))) + 1), .int (nI (sy v)), .ref (c + 5)]) rfl rfl ?_
            rw [show ((nI ((colF sy wd vs).1 (sy v))) + 1) = nI ((colF sy wd vs).1 (sy v) + 1) from nI_add ((colF sy wd vs).1 (sy v)) 1]
            refine WX.iastN rfl (by omega) (F_h102__c_5_) (vp_in_nI (by omega) (by omega)) (fun g114 h114 e_g114 e_h114 => ?_)
            try dsimp only at e_g114
            have F_h114_c : h114 c = .inr (1, [.ref ba, .ref wi, .int gr, .ref (c + 1), .ref (c + 2), .ref (c + 5), .int (nI (vs.length + 1)), .int (nI ((colF sy wd vs).2.1 + 0)), .int (nI (colF sy wd vs).2.2), .ref (c + 6), .ref (c + 13), .ref (c + 20), .ref cho, .ref (c + 3), .int mo, .int bi, .int ob, .int sta]) := by rw [e_h114, va_up_neq (nek1 (a := 5) (by decide))]; exact F_h102_c
            have F_h114_ba : h114 ba = .inl (1, NB, .inl bA) := by rw [e_h114, va_up_neq (by omega)]; exact F_h102_ba
            have F_h114_wi : h114 wi = .inl (1, NW, .inl wA) := by rw [e_h114, va_up_neq (by omega)]; exact F_h102_wi
            have F_h114__c_1_ : h114 (c + 1) = .inl (1, 2667, .inl g61) := by rw [e_h114, va_up_neq (nek (a := 1) (b := 5) (by decide))]; exact F_h102__c_1_
            have F_h114__c_2_ : h114 (c + 2) = .inl (1, 2667, .inl g71) := by rw [e_h114, va_up_neq (nek (a := 2) (b := 5) (by decide))]; exact F_h102__c_2_
            have F_h114__c_5_ : h114 (c + 5) = .inl (1, (l + 1), .inl g114) := by rw [e_h114]; exact va_up_eq
            have FR_h114 : Fr h h114 (fun j => j = c ∨ j = c + 1 ∨ j = c + 2 ∨ j = c + 5) := FR_h102.zup e_h114 (by first | exact rfl | exact Or.inl rfl | exact Or.inr rfl | exact ⟨by decide, by decide⟩ | decide | omega)
            refine WX.s1 rfl rfl ?_
            refine WX.s1 rfl rfl ?_
            refine WX.get1 (fs := [.ref ba, .ref wi, .int gr, .ref (c + 1), .ref (c + 2), .ref (c + 5), .int (nI (vs.length + 1)), .int (nI ((colF sy wd vs).2.1 + 0)), .int (nI (colF sy wd vs).2.2), .ref (c + 6), .ref (c + 13), .ref (c + 20), .ref cho, .ref (c + 3), .int mo, .int bi, .int ob, .int sta]) rfl (by omega) (F_h114_c) rfl ?_
            refine WX.s1 rfl rfl ?_
            refine WX.get1 (fs := [.ref ba, .ref wi, .int gr, .ref (c + 1), .ref (c + 2), .ref (c + 5), .int (nI (vs.length + 1)), .int (nI ((colF sy wd vs).2.1 + 0)), .int (nI (colF sy wd vs).2.2), .ref (c + 6), .ref (c + 13), .ref (c + 20), .ref cho, .ref (c + 3), .int mo, .int bi, .int ob, .int sta]) rfl (by omega) (F_h114_c) rfl ?_
            refine WX.s1 rfl rfl ?_
            refine WX.iald1 rfl (Or.inr ⟨by omega, by omega⟩) (F_h114_wi) (vp_in_nI hsw (by omega)) ?_
            rw [nI_clamp (by omega), hWd _ hsw]
            have hwb := hwd (sy v)
            refine WX.s1 (S' := [.int ((nI (colF sy wd vs).2.2) + (nI (wd (sy v)))), .ref c]) rfl rfl ?_
            rw [show ((nI (colF sy wd vs).2.2) + (nI (wd (sy v)))) = nI ((colF sy wd vs).2.2 + wd (sy v)) from nI_add ((colF sy wd vs).2.2) (wd (sy v))]
            refine WX.put1 (fs := [.ref ba, .ref wi, .int gr, .ref (c + 1), .ref (c + 2), .ref (c + 5), .int (nI (vs.length + 1)), .int (nI ((colF sy wd vs).2.1 + 0)), .int (nI (colF sy wd vs).2.2), .ref (c + 6), .ref (c + 13), .ref (c + 20), .ref cho, .ref (c + 3), .int mo, .int bi, .int ob, .int sta]) (fs' := [.ref ba, .ref wi, .int gr, .ref (c + 1), .ref (c + 2), .ref (c + 5), .int (nI (vs.length + 1)), .int (nI ((colF sy wd vs).2.1 + 0)), .int (nI ((colF sy wd vs).2.2 + wd (sy v))), .ref (c + 6), .ref (c + 13), .ref (c + 20), .ref cho, .ref (c + 3), .int mo, .int bi, .int ob, .int sta]) rfl (by omega) (F_h114_c) (Nat.le_of_ble_eq_true rfl) (rfl) rfl (fun h127 e_h127 => ?_)
            have F_h127_c : h127 c = .inr (1, [.ref ba, .ref wi, .int gr, .ref (c + 1), .ref (c + 2), .ref (c + 5), .int (nI (vs.length + 1)), .int (nI ((colF sy wd vs).2.1 + 0)), .int (nI ((colF sy wd vs).2.2 + wd (sy v))), .ref (c + 6), .ref (c + 13), .ref (c + 20), .ref cho, .ref (c + 3), .int mo, .int bi, .int ob, .int sta]) := by rw [e_h127]; exact va_up_eq
            have F_h127_ba : h127 ba = .inl (1, NB, .inl bA) := by rw [e_h127, va_up_neq (by omega)]; exact F_h114_ba
            have F_h127_wi : h127 wi = .inl (1, NW, .inl wA) := by rw [e_h127, va_up_neq (by omega)]; exact F_h114_wi
            have F_h127__c_1_ : h127 (c + 1) = .inl (1, 2667, .inl g61) := by rw [e_h127, va_up_neq (nek0 (a := 1) (by decide))]; exact F_h114__c_1_
            have F_h127__c_2_ : h127 (c + 2) = .inl (1, 2667, .inl g71) := by rw [e_h127, va_up_neq (nek0 (a := 2) (by decide))]; exact F_h114__c_2_
            have F_h127__c_5_ : h127 (c + 5) = .inl (1, (l + 1), .inl g114) := by rw [e_h127, va_up_neq (nek0 (a := 5) (by decide))]; exact F_h114__c_5_
            have FR_h127 : Fr h h127 (fun j => j = c ∨ j = c + 1 ∨ j = c + 2 ∨ j = c + 5) := FR_h114.zup e_h127 (by first | exact rfl | exact Or.inl rfl | exact Or.inr rfl | exact ⟨by decide, by decide⟩ | decide | omega)
            refine WX.ret0 rfl (kk h127 FR_h127 ?_ ⟨g61, g71, g114, F_h127__c_1_, F_h127__c_2_, F_h127__c_5_, fun i hi => ?_, fun s hs => ?_⟩)
            · rw [F_h127_c, List.length_append, colF_snoc]
              show _ = Sum.inr (1, [_, _, _, _, _, _, Value.int (nI (vs.length + 1)), Value.int (nI ((colF sy wd vs).2.1 + (if (colF sy wd vs).1 (sy v) = 0 then 1 else 0))), Value.int (nI ((colF sy wd vs).2.2 + wd (sy v))), _, _, _, _, _, _, _, _, _])
              first | rw [if_pos n_93] | rw [if_neg n_93]
            · rw [List.length_append, List.length_singleton] at hi
              rw [e_g61, e_g71, nI_clamp (by omega), getD_app]
              by_cases q : i = vs.length
              · rw [if_pos q, q, pk_us, pk_us]; exact ⟨rfl, rfl⟩
              · rw [if_neg q, pk_un q, pk_un q]; exact hsv i (by omega)
            · rw [e_g114, nI_clamp (by omega), colF_snoc]
              show _ = nI (if s = sy v then (colF sy wd vs).1 (sy v) + 1 else (colF sy wd vs).1 s)
              by_cases q : s = sy v
              · rw [if_pos q, q, pk_us]
              · rw [if_neg q, pk_un q]; exact hcA s hs
          · skip
            have n_93 : ((colF sy wd vs).1 (sy v)) = 0 := (nI_eq (a := (colF sy wd vs).1 (sy v)) (b := 0) (by omega) (by omega)).mp (Classical.not_not.mp c_93)
            refine WX.s1 rfl rfl ?_
            refine WX.s1 rfl rfl ?_
            refine WX.s1 (S' := [.int ((nI (colF sy wd vs).2.1) + 1), .ref c]) rfl rfl ?_
            rw [show ((nI (colF sy wd vs).2.1) + 1) = nI ((colF sy wd vs).2.1 + 1) from nI_add ((colF sy wd vs).2.1) 1]
            refine WX.put1 (fs := [.ref ba, .ref wi, .int gr, .ref (c + 1), .ref (c + 2), .ref (c + 5), .int (nI (vs.length + 1)), .int (nI (colF sy wd vs).2.1), .int (nI (colF sy wd vs).2.2), .ref (c + 6), .ref (c + 13), .ref (c + 20), .ref cho, .ref (c + 3), .int mo, .int bi, .int ob, .int sta]) (fs' := [.ref ba, .ref wi, .int gr, .ref (c + 1), .ref (c + 2), .ref (c + 5), .int (nI (vs.length + 1)), .int (nI ((colF sy wd vs).2.1 + 1)), .int (nI (colF sy wd vs).2.2), .ref (c + 6), .ref (c + 13), .ref (c + 20), .ref cho, .ref (c + 3), .int mo, .int bi, .int ob, .int sta]) rfl (by omega) (F_h79_c) (Nat.le_of_ble_eq_true rfl) (rfl) rfl (fun h102 e_h102 => ?_)
            have F_h102_c : h102 c = .inr (1, [.ref ba, .ref wi, .int gr, .ref (c + 1), .ref (c + 2), .ref (c + 5), .int (nI (vs.length + 1)), .int (nI ((colF sy wd vs).2.1 + 1)), .int (nI (colF sy wd vs).2.2), .ref (c + 6), .ref (c + 13), .ref (c + 20), .ref cho, .ref (c + 3), .int mo, .int bi, .int ob, .int sta]) := by rw [e_h102]; exact va_up_eq
            have F_h102_ba : h102 ba = .inl (1, NB, .inl bA) := by rw [e_h102, va_up_neq (by omega)]; exact F_h79_ba
            have F_h102_wi : h102 wi = .inl (1, NW, .inl wA) := by rw [e_h102, va_up_neq (by omega)]; exact F_h79_wi
            have F_h102__c_1_ : h102 (c + 1) = .inl (1, 2667, .inl g61) := by rw [e_h102, va_up_neq (nek0 (a := 1) (by decide))]; exact F_h79__c_1_
            have F_h102__c_2_ : h102 (c + 2) = .inl (1, 2667, .inl g71) := by rw [e_h102, va_up_neq (nek0 (a := 2) (by decide))]; exact F_h79__c_2_
            have F_h102__c_5_ : h102 (c + 5) = .inl (1, (l + 1), .inl cA) := by rw [e_h102, va_up_neq (nek0 (a := 5) (by decide))]; exact F_h79__c_5_
            have FR_h102 : Fr h h102 (fun j => j = c ∨ j = c + 1 ∨ j = c + 2 ∨ j = c + 5) := FR_h79.zup e_h102 (by first | exact rfl | exact Or.inl rfl | exact Or.inr rfl | exact ⟨by decide, by decide⟩ | decide | omega)
            refine WX.s1 rfl rfl ?_
            refine WX.get1 (fs := [.ref ba, .ref wi, .int gr, .ref (c + 1), .ref (c + 2), .ref (c + 5), .int (nI (vs.length + 1)), .int (nI ((colF sy wd vs).2.1 + 1)), .int (nI (colF sy wd vs).2.2), .ref (c + 6), .ref (c + 13), .ref (c + 20), .ref cho, .ref (c + 3), .int mo, .int bi, .int ob, .int sta]) rfl (by omega) (F_h102_c) rfl ?_
            refine WX.s1 rfl rfl ?_
            refine WX.s1 rfl rfl ?_
            refine WX.iald1 rfl (Or.inl (by omega)) (F_h102__c_5_) (vp_in_nI (by omega) (by omega)) ?_
            rw [nI_clamp (by omega), hcs]
            refine WX.s1 rfl rfl ?_
            refine WX.s1 (S' := [.int ((nI ((colF sy wd vs).1 (sy v))) + 1), .int (nI (sy v)), .ref (c + 5)]) rfl rfl ?_
            rw [show ((nI ((colF sy wd vs).1 (sy v))) + 1) = nI ((colF sy wd vs).1 (sy v) + 1) from nI_add ((colF sy wd vs).1 (sy v)) 1]
            refine WX.iastN rfl (by omega) (F_h102__c_5_) (vp_in_nI (by omega) (by omega)) (fun g114 h114 e_g114 e_h114 => ?_)
            try dsimp only at e_g114
            have F_h114_c : h114 c = .inr (1, [.ref ba, .ref wi, .int gr, .ref (c + 1), .ref (c + 2), .ref (c + 5), .int (nI (vs.length + 1)), .int (nI ((colF sy wd vs).2.1 + 1)), .int (nI (colF sy wd vs).2.2), .ref (c + 6), .ref (c + 13), .ref (c + 20), .ref cho, .ref (c + 3), .int mo, .int bi, .int ob, .int sta]) := by rw [e_h114, va_up_neq (nek1 (a := 5) (by decide))]; exact F_h102_c
            have F_h114_ba : h114 ba = .inl (1, NB, .inl bA) := by rw [e_h114, va_up_neq (by omega)]; exact F_h102_ba
            have F_h114_wi : h114 wi = .inl (1, NW, .inl wA) := by rw [e_h114, va_up_neq (by omega)]; exact F_h102_wi
            have F_h114__c_1_ : h114 (c + 1) = .inl (1, 2667, .inl g61) := by rw [e_h114, va_up_neq (nek (a := 1) (b := 5) (by decide))]; exact F_h102__c_1_
            have F_h114__c_2_ : h114 (c + 2) = .inl (1, 2667, .inl g71) := by rw [e_h114, va_up_neq (nek (a := 2) (b := 5) (by decide))]; exact F_h102__c_2_
            have F_h114__c_5_ : h114 (c + 5) = .inl (1, (l + 1), .inl g114) := by rw [e_h114]; exact va_up_eq
            have FR_h114 : Fr h h114 (fun j => j = c ∨ j = c + 1 ∨ j = c + 2 ∨ j = c + 5) := FR_h102.zup e_h114 (by first | exact rfl | exact Or.inl rfl | exact Or.inr rfl | exact ⟨by decide, by decide⟩ | decide | omega)
            refine WX.s1 rfl rfl ?_
            refine WX.s1 rfl rfl ?_
            refine WX.get1 (fs := [.ref ba, .ref wi, .int gr, .ref (c + 1), .ref (c + 2), .ref (c + 5), .int (nI (vs.length + 1)), .int (nI ((colF sy wd vs).2.1 + 1)), .int (nI (colF sy wd vs).2.2), .ref (c + 6), .ref (c + 13), .ref (c + 20), .ref cho, .ref (c + 3), .int mo, .int bi, .int ob, .int sta]) rfl (by omega) (F_h114_c) rfl ?_
            refine WX.s1 rfl rfl ?_
            refine WX.get1 (fs := [.ref ba, .ref wi, .int gr, .ref (c + 1), .ref (c + 2), .ref (c + 5), .int (nI (vs.length + 1)), .int (nI ((colF sy wd vs).2.1 + 1)), .int (nI (colF sy wd vs).2.2), .ref (c + 6), .ref (c + 13), .ref (c + 20), .ref cho, .ref (c + 3), .int mo, .int bi, .int ob, .int sta]) rfl (by omega) (F_h114_c) rfl ?_
            refine WX.s1 rfl rfl ?_
            refine WX.iald1 rfl (Or.inr ⟨by omega, by omega⟩) (F_h114_wi) (vp_in_nI hsw (by omega)) ?_
            rw [nI_clamp (by omega), hWd _ hsw]
            have hwb := hwd (sy v)
            refine WX.s1 (S' := [.int ((nI (colF sy wd vs).2.2) + (nI (wd (sy v)))), .ref c]) rfl rfl ?_
            rw [show ((nI (colF sy wd vs).2.2) + (nI (wd (sy v)))) = nI ((colF sy wd vs).2.2 + wd (sy v)) from nI_add ((colF sy wd vs).2.2) (wd (sy v))]
            refine WX.put1 (fs := [.ref ba, .ref wi, .int gr, .ref (c + 1), .ref (c + 2), .ref (c + 5), .int (nI (vs.length + 1)), .int (nI ((colF sy wd vs).2.1 + 1)), .int (nI (colF sy wd vs).2.2), .ref (c + 6), .ref (c + 13), .ref (c + 20), .ref cho, .ref (c + 3), .int mo, .int bi, .int ob, .int sta]) (fs' := [.ref ba, .ref wi, .int gr, .ref (c + 1), .ref (c + 2), .ref (c + 5), .int (nI (vs.length + 1)), .int (nI ((colF sy wd vs).2.1 + 1)), .int (nI ((colF sy wd vs).2.2 + wd (sy v))), .ref (c + 6), .ref (c + 13), .ref (c + 20), .ref cho, .ref (c + 3), .int mo, .int bi, .int ob, .int sta]) rfl (by omega) (F_h114_c) (Nat.le_of_ble_eq_true rfl) (rfl) rfl (fun h127 e_h127 => ?_)
            have F_h127_c : h127 c = .inr (1, [.ref ba, .ref wi, .int gr, .ref (c + 1), .ref (c + 2), .ref (c + 5), .int (nI (vs.length + 1)), .int (nI ((colF sy wd vs).2.1 + 1)), .int (nI ((colF sy wd vs).2.2 + wd (sy v))), .ref (c + 6), .ref (c + 13), .ref (c + 20), .ref cho, .ref (c + 3), .int mo, .int bi, .int ob, .int sta]) := by rw [e_h127]; exact va_up_eq
            have F_h127_ba : h127 ba = .inl (1, NB, .inl bA) := by rw [e_h127, va_up_neq (by omega)]; exact F_h114_ba
            have F_h127_wi : h127 wi = .inl (1, NW, .inl wA) := by rw [e_h127, va_up_neq (by omega)]; exact F_h114_wi
            have F_h127__c_1_ : h127 (c + 1) = .inl (1, 2667, .inl g61) := by rw [e_h127, va_up_neq (nek0 (a := 1) (by decide))]; exact F_h114__c_1_
            have F_h127__c_2_ : h127 (c + 2) = .inl (1, 2667, .inl g71) := by rw [e_h127, va_up_neq (nek0 (a := 2) (by decide))]; exact F_h114__c_2_
            have F_h127__c_5_ : h127 (c + 5) = .inl (1, (l + 1), .inl g114) := by rw [e_h127, va_up_neq (nek0 (a := 5) (by decide))]; exact F_h114__c_5_
            have FR_h127 : Fr h h127 (fun j => j = c ∨ j = c + 1 ∨ j = c + 2 ∨ j = c + 5) := FR_h114.zup e_h127 (by first | exact rfl | exact Or.inl rfl | exact Or.inr rfl | exact ⟨by decide, by decide⟩ | decide | omega)
            refine WX.ret0 rfl (kk h127 FR_h127 ?_ ⟨g61, g71, g114, F_h127__c_1_, F_h127__c_2_, F_h127__c_5_, fun i hi => ?_, fun s hs => ?_⟩)
            · rw [F_h127_c, List.length_append, colF_snoc]
              show _ = Sum.inr (1, [_, _, _, _, _, _, Value.int (nI (vs.length + 1)), Value.int (nI ((colF sy wd vs).2.1 + (if (colF sy wd vs).1 (sy v) = 0 then 1 else 0))), Value.int (nI ((colF sy wd vs).2.2 + wd (sy v))), _, _, _, _, _, _, _, _, _])
              first | rw [if_pos n_93] | rw [if_neg n_93]
            · rw [List.length_append, List.length_singleton] at hi
              rw [e_g61, e_g71, nI_clamp (by omega), getD_app]
              by_cases q : i = vs.length
              · rw [if_pos q, q, pk_us, pk_us]; exact ⟨rfl, rfl⟩
              · rw [if_neg q, pk_un q, pk_un q]; exact hsv i (by omega)
            · rw [e_g114, nI_clamp (by omega), colF_snoc]
              show _ = nI (if s = sy v then (colF sy wd vs).1 (sy v) + 1 else (colF sy wd vs).1 s)
              by_cases q : s = sy v
              · rw [if_pos q, q, pk_us]
              · rw [if_neg q, pk_un q]; exact hcA s hs
        · skip
          have n_22 : (B (i + 1)) ≤ v := Nat.le_of_not_lt (fun zz_ => c_22 ((nI_ltI (a := v) (b := B (i + 1)) (by omega) (by omega)).mpr zz_))
          refine WX.s1 (L' := [(0, .ref c), (1, .int (nI v)), (2, .int ((nI i) + 1))]) rfl rfl ?_
          rw [show ((nI i) + 1) = nI (i + 1) from nI_add i 1]
          refine WX.s1 rfl rfl ?_
          refine ih (i + 1) (by omega) (by omega) (fun j h1 h2 => ?_)
          by_cases z : j = i + 1
          · rw [z]; exact n_22
          · exact hj j h1 (by omega)
  exact lp NB 0 (by omega) (by have := hsy.1; omega) (fun j h1 h2 => absurd h1 (by omega))
