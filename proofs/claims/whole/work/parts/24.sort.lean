/-! Share.sortPlaces, Share.spread -/
set_option maxRecDepth 20000 in
theorem w_sortPlaces {d n s : Nat} {h : Nat → aE} {k l M L : Nat} {od th : Int32} {p r f w o so : Nat → Int32} (hk : k + 6 < n) (A : ShareAt h k l M od th p r f w o so) (hl : l < 1000) (hL : L ≤ 9) (hM : 2 ^ L ≤ M) (hM2 : M < 2 ^ 20) (ob : (∀ j, j < 2 ^ L → ∃ y, y ≤ l ∧ o j = nI y)) (fb : (∀ y, y ≤ l → ∃ m, m ≤ 2 ^ 20 ∧ f y = nI m)) {Ψ : Option Value → aH → Prop} (kk : ∀ h' f' so', Fr h h' (fun j => j = k + 3 ∨ j = k + 6) → ShareAt h' k l M od th p r f' w o so' → Ψ none (n, s, h')) : WO (mM (d + 1)) 105 [.ref k, .int (nI (2 ^ L))] (n, s, h) Ψ := by
  refine WO.of (Nat.le_of_ble_eq_true rfl) ?_
  show WX (lk tX8_sortPlaces) (mM d) Ψ 0 [(0, .ref k), (1, .int (nI (2 ^ L)))] [] (n, s, h)
  have hsz : 2 ^ L < 2 ^ 20 := Nat.lt_of_le_of_lt hM hM2
  have lb : ∀ (t i : Nat) (h1 : Nat → aE) (f1 so1 : Nat → Int32), i + t = l + 1 → Fr h h1 (fun j => j = k + 3 ∨ j = k + 6) → ShareAt h1 k l M od th p r f1 w o so1 → WX (lk tX8_sortPlaces) (mM d) Ψ 54 [(0, .ref k), (1, .int (nI (2 ^ L))), (2, .int (nI i))] [] (n, s, h1) := by
    intro t
    induction t with
    | zero =>
      intro i h1 f1 so1 ht fr A1
      obtain rfl : i = l + 1 := by omega
      obtain ⟨F_h1_k, F_h1__k_1_, F_h1__k_2_, F_h1__k_3_, F_h1__k_4_, F_h1__k_5_, F_h1__k_6_⟩ := id A1
      refine WX.s1 rfl rfl ?_
      refine WX.s1 rfl rfl ?_
      refine WX.get1 (fs := [.int (nI l), .ref (k + 1), .ref (k + 2), .ref (k + 3), .ref (k + 4), .ref (k + 5), .ref (k + 6), .int od, .int th]) rfl (by omega) (F_h1_k) rfl ?_
      refine WX.icmp rfl (fun c_59 => ?_) (fun c_59 => absurd (nI_lt (by omega) (by omega)) c_59)
      exact WX.ret0 rfl (kk h1 f1 so1 fr A1)
    | succ t ih =>
      intro i h1 f1 so1 ht fr A1
      obtain ⟨F_h1_k, F_h1__k_1_, F_h1__k_2_, F_h1__k_3_, F_h1__k_4_, F_h1__k_5_, F_h1__k_6_⟩ := id A1
      refine WX.s1 rfl rfl ?_
      refine WX.s1 rfl rfl ?_
      refine WX.get1 (fs := [.int (nI l), .ref (k + 1), .ref (k + 2), .ref (k + 3), .ref (k + 4), .ref (k + 5), .ref (k + 6), .int od, .int th]) rfl (by omega) (F_h1_k) rfl ?_
      refine WX.icmp rfl (fun c_59 => absurd c_59 (nI_nlt (by omega) (by omega))) (fun c_59 => ?_)
      refine WX.s1 rfl rfl ?_
      refine WX.get1 (fs := [.int (nI l), .ref (k + 1), .ref (k + 2), .ref (k + 3), .ref (k + 4), .ref (k + 5), .ref (k + 6), .int od, .int th]) rfl (by omega) (F_h1_k) rfl ?_
      refine WX.s1 rfl rfl ?_
      refine WX.s1 rfl rfl ?_
      refine WX.iald1 rfl (Or.inl (by omega)) (F_h1__k_3_) (vp_in_nI (by omega) (by omega)) ?_
      refine WX.s1 rfl rfl ?_
      refine WX.get1 (fs := [.int (nI l), .ref (k + 1), .ref (k + 2), .ref (k + 3), .ref (k + 4), .ref (k + 5), .ref (k + 6), .int od, .int th]) rfl (by omega) (F_h1_k) rfl ?_
      refine WX.s1 rfl rfl ?_
      refine WX.iald1 rfl (Or.inl (by omega)) (F_h1__k_1_) (vp_in_nI (by omega) (by omega)) ?_
      refine WX.s1 rfl rfl ?_
      refine WX.s1 rfl rfl ?_
      refine WX.iastN rfl (by omega) (F_h1__k_3_) (vp_in_nI (by omega) (by omega)) (fun g79 h79 e_g79 e_h79 => ?_)
      try dsimp only at e_g79
      have F_h79_k : h79 k = .inr (8, [.int (nI l), .ref (k + 1), .ref (k + 2), .ref (k + 3), .ref (k + 4), .ref (k + 5), .ref (k + 6), .int od, .int th]) := by rw [e_h79, va_up_neq (nek1 (a := 3) (by decide))]; exact F_h1_k
      have F_h79__k_1_ : h79 (k + 1) = .inl (1, (l + 1), .inl p) := by rw [e_h79, va_up_neq (nek (a := 1) (b := 3) (by decide))]; exact F_h1__k_1_
      have F_h79__k_3_ : h79 (k + 3) = .inl (1, (l + 1), .inl g79) := by rw [e_h79]; exact va_up_eq
      refine WX.incN (L' := fun x80 => [(0, .ref k), (1, .int (nI (2 ^ L))), (2, .int x80)]) rfl rfl (fun _ => rfl) (fun x80 e_x80 => ?_)
      try dsimp only at e_x80
      refine WX.s1 rfl rfl ?_
      rw [show x80 = nI (i + 1) by rw [e_x80]; exact nI_1 i]
      exact ih (i + 1) h79 g79 so1 (by omega) (fr.tr (fun j hj => by rw [e_h79]; exact va_up_neq (by omega))) (A1.upF e_h79)
  have la : ∀ (t q : Nat) (h1 : Nat → aE) (f1 so1 : Nat → Int32), q + t = 2 ^ L → Fr h h1 (fun j => j = k + 3 ∨ j = k + 6) → ShareAt h1 k l M od th p r f1 w o so1 → (∀ y, y ≤ l → ∃ m, m ≤ 2 ^ 20 + q ∧ f1 y = nI m) → WX (lk tX8_sortPlaces) (mM d) Ψ 2 [(0, .ref k), (1, .int (nI (2 ^ L))), (2, .int (nI q))] [] (n, s, h1) := by
    intro t
    induction t with
    | zero =>
      intro q h1 f1 so1 ht fr A1 fb1
      obtain rfl : q = 2 ^ L := by omega
      refine WX.s1 rfl rfl ?_
      refine WX.s1 rfl rfl ?_
      refine WX.icmp rfl (fun c_4 => ?_) (fun c_4 => absurd (nI_le (Nat.le_refl _) (by omega)) c_4)
      refine WX.s1 rfl rfl ?_
      refine WX.isN (L' := fun x53 => [(0, .ref k), (1, .int (nI (2 ^ L))), (2, .int x53)]) rfl (fun _ => rfl) (fun x53 e_x53 => ?_)
      try dsimp only at e_x53
      rw [show x53 = nI 0 by rw [e_x53]; rfl]
      exact lb (l + 1) 0 h1 f1 so1 (by omega) fr A1
    | succ t ih =>
      intro q h1 f1 so1 ht fr A1 fb1
      obtain ⟨y, hy, hoy⟩ := ob q (by omega)
      obtain ⟨m, hm, hfm⟩ := fb1 y hy
      have e9 : f1 (nI y).toNatClampNeg = nI m := by rw [nI_clamp (by omega)]; exact hfm
      have t46 : ∀ (h2 : Nat → aE) (f2 so2 : Nat → Int32), Fr h h2 (fun j => j = k + 3 ∨ j = k + 6) → ShareAt h2 k l M od th p r f2 w o so2 → (∀ y, y ≤ l → ∃ m, m ≤ 2 ^ 20 + (q + 1) ∧ f2 y = nI m) → WX (lk tX8_sortPlaces) (mM d) Ψ 46 [(0, .ref k), (1, .int (nI (2 ^ L))), (2, .int (nI q))] [] (n, s, h2) := by
        intro h2 f2 so2 fr2 A2 fb2
        refine WX.incN (L' := fun x46 => [(0, .ref k), (1, .int (nI (2 ^ L))), (2, .int x46)]) rfl rfl (fun _ => rfl) (fun x46 e_x46 => ?_)
        try dsimp only at e_x46
        refine WX.s1 rfl rfl ?_
        rw [show x46 = nI (q + 1) by rw [e_x46]; exact nI_1 q]
        exact ih (q + 1) h2 f2 so2 (by omega) fr2 A2 fb2
      obtain ⟨F_h1_k, F_h1__k_1_, F_h1__k_2_, F_h1__k_3_, F_h1__k_4_, F_h1__k_5_, F_h1__k_6_⟩ := id A1
      refine WX.s1 rfl rfl ?_
      refine WX.s1 rfl rfl ?_
      refine WX.icmp rfl (fun c_4 => absurd c_4 (nI_ge (by omega) (by omega))) (fun c_4 => ?_)
      refine WX.s1 rfl rfl ?_
      refine WX.get1 (fs := [.int (nI l), .ref (k + 1), .ref (k + 2), .ref (k + 3), .ref (k + 4), .ref (k + 5), .ref (k + 6), .int od, .int th]) rfl (by omega) (F_h1_k) rfl ?_
      refine WX.s1 rfl rfl ?_
      refine WX.iald1 rfl (Or.inl (by omega)) (F_h1__k_5_) (vp_in_nI (by omega) (by omega)) ?_
      refine WX.isN (L' := fun x13 => [(0, .ref k), (1, .int (nI (2 ^ L))), (2, .int (nI q)), (3, .int x13)]) rfl (fun _ => rfl) (fun x13 e_x13 => ?_)
      try dsimp only at e_x13
      obtain rfl : x13 = nI y := by rw [e_x13, nI_clamp (by omega)]; exact hoy
      refine WX.s1 rfl rfl ?_
      refine WX.get1 (fs := [.int (nI l), .ref (k + 1), .ref (k + 2), .ref (k + 3), .ref (k + 4), .ref (k + 5), .ref (k + 6), .int od, .int th]) rfl (by omega) (F_h1_k) rfl ?_
      refine WX.s1 rfl rfl ?_
      refine WX.iald1 rfl (Or.inl (by omega)) (F_h1__k_3_) (vp_in_nI (by omega) (by omega)) ?_
      rw [e9]
      refine WX.s1 rfl rfl ?_
      refine WX.icmp rfl (fun c_21 => ?_) (fun c_21 => ?_)
      · skip
        refine WX.keep (y := 105) [0, 1, 2] (show ([0, 1, 2, 3] : List Nat).Nodup by decide) rfl ?_
        exact t46 h1 f1 so1 fr A1 (fun z hz => by obtain ⟨a, b, c⟩ := fb1 z hz; exact ⟨a, by omega, c⟩)
      · skip
        have hlt : m < 2 ^ L := Nat.lt_of_not_le (fun z => c_21 (nI_le z (by omega)))
        refine WX.s1 rfl rfl ?_
        refine WX.get1 (fs := [.int (nI l), .ref (k + 1), .ref (k + 2), .ref (k + 3), .ref (k + 4), .ref (k + 5), .ref (k + 6), .int od, .int th]) rfl (by omega) (F_h1_k) rfl ?_
        refine WX.s1 rfl rfl ?_
        refine WX.get1 (fs := [.int (nI l), .ref (k + 1), .ref (k + 2), .ref (k + 3), .ref (k + 4), .ref (k + 5), .ref (k + 6), .int od, .int th]) rfl (by omega) (F_h1_k) rfl ?_
        refine WX.s1 rfl rfl ?_
        refine WX.iald1 rfl (Or.inl (by omega)) (F_h1__k_3_) (vp_in_nI (by omega) (by omega)) ?_
        refine WX.s1 rfl rfl ?_
        refine WX.iastN rfl (by omega) (F_h1__k_6_) (by rw [e9]; exact vp_in_nI (by omega) (by omega)) (fun g35 h35 e_g35 e_h35 => ?_)
        try dsimp only at e_g35
        have F_h35_k : h35 k = .inr (8, [.int (nI l), .ref (k + 1), .ref (k + 2), .ref (k + 3), .ref (k + 4), .ref (k + 5), .ref (k + 6), .int od, .int th]) := by rw [e_h35, va_up_neq (nek1 (a := 6) (by decide))]; exact F_h1_k
        have F_h35__k_1_ : h35 (k + 1) = .inl (1, (l + 1), .inl p) := by rw [e_h35, va_up_neq (nek (a := 1) (b := 6) (by decide))]; exact F_h1__k_1_
        have F_h35__k_3_ : h35 (k + 3) = .inl (1, (l + 1), .inl f1) := by rw [e_h35, va_up_neq (nek (a := 3) (b := 6) (by decide))]; exact F_h1__k_3_
        have F_h35__k_5_ : h35 (k + 5) = .inl (1, M, .inl o) := by rw [e_h35, va_up_neq (nek (a := 5) (b := 6) (by decide))]; exact F_h1__k_5_
        have F_h35__k_6_ : h35 (k + 6) = .inl (1, M, .inl g35) := by rw [e_h35]; exact va_up_eq
        refine WX.s1 rfl rfl ?_
        refine WX.get1 (fs := [.int (nI l), .ref (k + 1), .ref (k + 2), .ref (k + 3), .ref (k + 4), .ref (k + 5), .ref (k + 6), .int od, .int th]) rfl (by omega) (F_h35_k) rfl ?_
        refine WX.s1 rfl rfl ?_
        refine WX.s1 rfl rfl ?_
        refine WX.iald1 rfl (Or.inl (by omega)) (F_h35__k_3_) (vp_in_nI (by omega) (by omega)) ?_
        refine WX.s1 rfl rfl ?_
        refine WX.s1 rfl rfl ?_
        refine WX.iastN rfl (by omega) (F_h35__k_3_) (vp_in_nI (by omega) (by omega)) (fun g45 h45 e_g45 e_h45 => ?_)
        try dsimp only at e_g45
        have F_h45_k : h45 k = .inr (8, [.int (nI l), .ref (k + 1), .ref (k + 2), .ref (k + 3), .ref (k + 4), .ref (k + 5), .ref (k + 6), .int od, .int th]) := by rw [e_h45, va_up_neq (nek1 (a := 3) (by decide))]; exact F_h35_k
        have F_h45__k_1_ : h45 (k + 1) = .inl (1, (l + 1), .inl p) := by rw [e_h45, va_up_neq (nek (a := 1) (b := 3) (by decide))]; exact F_h35__k_1_
        have F_h45__k_3_ : h45 (k + 3) = .inl (1, (l + 1), .inl g45) := by rw [e_h45]; exact va_up_eq
        have F_h45__k_5_ : h45 (k + 5) = .inl (1, M, .inl o) := by rw [e_h45, va_up_neq (nek (a := 5) (b := 3) (by decide))]; exact F_h35__k_5_
        have F_h45__k_6_ : h45 (k + 6) = .inl (1, M, .inl g35) := by rw [e_h45, va_up_neq (nek (a := 6) (b := 3) (by decide))]; exact F_h35__k_6_
        refine WX.keep (y := 105) [0, 1, 2] (show ([0, 1, 2, 3] : List Nat).Nodup by decide) rfl ?_
        refine t46 h45 g45 g35 (fr.tr (fun j hj => by rw [e_h45]; exact (va_up_neq (by omega)).trans (by rw [e_h35]; exact va_up_neq (by omega)))) ((A1.upS e_h35).upF e_h45) (fun z hz => ?_)
        rw [e_g45, e9, nI_clamp (by omega)]
        by_cases zz : z = y
        · exact ⟨m + 1, by omega, by rw [zz, pk_us]; exact nI_1 m⟩
        · rw [pk_un zz]; obtain ⟨a, b, c⟩ := fb1 z hz; exact ⟨a, by omega, c⟩
  refine WX.s1 rfl rfl ?_
  refine WX.isN (L' := fun x1 => [(0, .ref k), (1, .int (nI (2 ^ L))), (2, .int x1)]) rfl (fun _ => rfl) (fun x1 e_x1 => ?_)
  try dsimp only at e_x1
  rw [show x1 = nI 0 by rw [e_x1]; rfl]
  exact la (2 ^ L) 0 h f so (by omega) Fr.rf A (fun z hz => by obtain ⟨a, b, c⟩ := fb z hz; exact ⟨a, by omega, c⟩)
