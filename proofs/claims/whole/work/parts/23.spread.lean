/-! Share.spread and its two parts: that they end, and what stays -/
theorem ShareAt.upP {h h2 : Nat → aE} {k l M : Nat} {od th : Int32} {p r f w o so x : Nat → Int32} (A : ShareAt h k l M od th p r f w o so) (e : h2 = va_up h (k + 1) (.inl (1, l + 1, .inl x))) : ShareAt h2 k l M od th x r f w o so := ⟨by rw [e]; exact (va_up_neq (by omega)).trans A.1, by rw [e]; exact va_up_eq, by rw [e]; exact (va_up_neq (by omega)).trans A.2.2.1, by rw [e]; exact (va_up_neq (by omega)).trans A.2.2.2.1, by rw [e]; exact (va_up_neq (by omega)).trans A.2.2.2.2.1, by rw [e]; exact (va_up_neq (by omega)).trans A.2.2.2.2.2.1, by rw [e]; exact (va_up_neq (by omega)).trans A.2.2.2.2.2.2⟩
theorem ShareAt.upR {h h2 : Nat → aE} {k l M : Nat} {od th : Int32} {p r f w o so x : Nat → Int32} (A : ShareAt h k l M od th p r f w o so) (e : h2 = va_up h (k + 2) (.inl (1, l + 1, .inl x))) : ShareAt h2 k l M od th p x f w o so := ⟨by rw [e]; exact (va_up_neq (by omega)).trans A.1, by rw [e]; exact (va_up_neq (by omega)).trans A.2.1, by rw [e]; exact va_up_eq, by rw [e]; exact (va_up_neq (by omega)).trans A.2.2.2.1, by rw [e]; exact (va_up_neq (by omega)).trans A.2.2.2.2.1, by rw [e]; exact (va_up_neq (by omega)).trans A.2.2.2.2.2.1, by rw [e]; exact (va_up_neq (by omega)).trans A.2.2.2.2.2.2⟩
theorem ShareAt.upF {h h2 : Nat → aE} {k l M : Nat} {od th : Int32} {p r f w o so x : Nat → Int32} (A : ShareAt h k l M od th p r f w o so) (e : h2 = va_up h (k + 3) (.inl (1, l + 1, .inl x))) : ShareAt h2 k l M od th p r x w o so := ⟨by rw [e]; exact (va_up_neq (by omega)).trans A.1, by rw [e]; exact (va_up_neq (by omega)).trans A.2.1, by rw [e]; exact (va_up_neq (by omega)).trans A.2.2.1, by rw [e]; exact va_up_eq, by rw [e]; exact (va_up_neq (by omega)).trans A.2.2.2.2.1, by rw [e]; exact (va_up_neq (by omega)).trans A.2.2.2.2.2.1, by rw [e]; exact (va_up_neq (by omega)).trans A.2.2.2.2.2.2⟩
theorem ShareAt.upW {h h2 : Nat → aE} {k l M : Nat} {od th : Int32} {p r f w o so x : Nat → Int32} (A : ShareAt h k l M od th p r f w o so) (e : h2 = va_up h (k + 4) (.inl (1, l + 1, .inl x))) : ShareAt h2 k l M od th p r f x o so := ⟨by rw [e]; exact (va_up_neq (by omega)).trans A.1, by rw [e]; exact (va_up_neq (by omega)).trans A.2.1, by rw [e]; exact (va_up_neq (by omega)).trans A.2.2.1, by rw [e]; exact (va_up_neq (by omega)).trans A.2.2.2.1, by rw [e]; exact va_up_eq, by rw [e]; exact (va_up_neq (by omega)).trans A.2.2.2.2.2.1, by rw [e]; exact (va_up_neq (by omega)).trans A.2.2.2.2.2.2⟩
theorem ShareAt.upO {h h2 : Nat → aE} {k l M : Nat} {od th : Int32} {p r f w o so x : Nat → Int32} (A : ShareAt h k l M od th p r f w o so) (e : h2 = va_up h (k + 5) (.inl (1, M, .inl x))) : ShareAt h2 k l M od th p r f w x so := ⟨by rw [e]; exact (va_up_neq (by omega)).trans A.1, by rw [e]; exact (va_up_neq (by omega)).trans A.2.1, by rw [e]; exact (va_up_neq (by omega)).trans A.2.2.1, by rw [e]; exact (va_up_neq (by omega)).trans A.2.2.2.1, by rw [e]; exact (va_up_neq (by omega)).trans A.2.2.2.2.1, by rw [e]; exact va_up_eq, by rw [e]; exact (va_up_neq (by omega)).trans A.2.2.2.2.2.2⟩
theorem ShareAt.upS {h h2 : Nat → aE} {k l M : Nat} {od th : Int32} {p r f w o so x : Nat → Int32} (A : ShareAt h k l M od th p r f w o so) (e : h2 = va_up h (k + 6) (.inl (1, M, .inl x))) : ShareAt h2 k l M od th p r f w o x := ⟨by rw [e]; exact (va_up_neq (by omega)).trans A.1, by rw [e]; exact (va_up_neq (by omega)).trans A.2.1, by rw [e]; exact (va_up_neq (by omega)).trans A.2.2.1, by rw [e]; exact (va_up_neq (by omega)).trans A.2.2.2.1, by rw [e]; exact (va_up_neq (by omega)).trans A.2.2.2.2.1, by rw [e]; exact (va_up_neq (by omega)).trans A.2.2.2.2.2.1, by rw [e]; exact va_up_eq⟩
theorem ShareAt.upH {h h2 : Nat → aE} {k l M : Nat} {od th od2 th2 : Int32} {p r f w o so : Nat → Int32} (A : ShareAt h k l M od th p r f w o so) (e : h2 = va_up h k (.inr (8, [.int (nI l), .ref (k + 1), .ref (k + 2), .ref (k + 3), .ref (k + 4), .ref (k + 5), .ref (k + 6), .int od2, .int th2]))) : ShareAt h2 k l M od2 th2 p r f w o so := ⟨by rw [e]; exact va_up_eq, by rw [e]; exact (va_up_neq (by omega)).trans A.2.1, by rw [e]; exact (va_up_neq (by omega)).trans A.2.2.1, by rw [e]; exact (va_up_neq (by omega)).trans A.2.2.2.1, by rw [e]; exact (va_up_neq (by omega)).trans A.2.2.2.2.1, by rw [e]; exact (va_up_neq (by omega)).trans A.2.2.2.2.2.1, by rw [e]; exact (va_up_neq (by omega)).trans A.2.2.2.2.2.2⟩
theorem ShareAt.fr {h h2 : Nat → aE} {B : Nat → Prop} {k l M : Nat} {od th : Int32} {p r f w o so : Nat → Int32} (A : ShareAt h k l M od th p r f w o so) (e : Fr h h2 B) (hb : ∀ j, k ≤ j → j ≤ k + 6 → ¬ B j) : ShareAt h2 k l M od th p r f w o so := ⟨(e _ (hb _ (by omega) (by omega))).trans A.1, (e _ (hb _ (by omega) (by omega))).trans A.2.1, (e _ (hb _ (by omega) (by omega))).trans A.2.2.1, (e _ (hb _ (by omega) (by omega))).trans A.2.2.2.1, (e _ (hb _ (by omega) (by omega))).trans A.2.2.2.2.1, (e _ (hb _ (by omega) (by omega))).trans A.2.2.2.2.2.1, (e _ (hb _ (by omega) (by omega))).trans A.2.2.2.2.2.2⟩
set_option maxRecDepth 20000 in
theorem w_spreadBelow {d n s : Nat} {h : Nat → aE} {k l M L : Nat} {od th hi : Int32} {p r f w o so : Nat → Int32} (hk : k + 6 < n) (A : ShareAt h k l M od th p r f w o so) (hl : l < 1000) (hL : L ≤ 9) (hM : 2 ^ L ≤ M) (hM2 : M < 2 ^ 20) (ob : (∀ j, j < 2 ^ L → ∃ y, y ≤ l ∧ o j = nI y)) {Ψ : Option Value → aH → Prop} (kk : ∀ h' o', Fr h h' (fun j => j = k + 5) → ShareAt h' k l M od th p r f w o' so → (∀ j, j < 2 ^ L → ∃ y, y ≤ l ∧ o' j = nI y) → Ψ none (n, s, h')) : WO (mM (d + 1)) 104 [.ref k, .int hi, .int (nI (2 ^ L))] (n, s, h) Ψ := by
  refine WO.of (Nat.le_of_ble_eq_true rfl) ?_
  show WX (lk tX8_spreadBelow) (mM d) Ψ 0 [(0, .ref k), (1, .int hi), (2, .int (nI (2 ^ L)))] [] (n, s, h)
  have hsz : 2 ^ L < 2 ^ 31 := Nat.lt_of_le_of_lt hM (by omega)
  have hpos : 0 < 2 ^ L := Nat.pos_of_ne_zero (by simp)
  have out : ∀ (stp : Int32) (t i q y : Nat) (gv : Int32) (h1 : Nat → aE) (o1 : Nat → Int32), i + t = 2 ^ L → q < 2 ^ L → y ≤ l → Fr h h1 (fun j => j = k + 5) → ShareAt h1 k l M od th p r f w o1 so → (∀ j, j < 2 ^ L → ∃ y, y ≤ l ∧ o1 j = nI y) → WX (lk tX8_spreadBelow) (mM d) Ψ 22 [(0, .ref k), (1, .int hi), (2, .int (nI (2 ^ L))), (3, .int stp), (4, .int (nI q)), (5, .int (nI y)), (6, .int gv), (7, .int (nI i))] [] (n, s, h1) := by
    intro stp t
    induction t with
    | zero =>
      intro i q y gv h1 o1 ht hq hy fr A1 ob1
      obtain rfl : i = 2 ^ L := by omega
      refine WX.s1 rfl rfl ?_
      refine WX.s1 rfl rfl ?_
      refine WX.icmp rfl (fun c_25 => ?_) (fun c_25 => absurd (nI_le (Nat.le_refl _) hsz) c_25)
      exact WX.ret0 rfl (kk h1 o1 fr A1 ob1)
    | succ t ih =>
      intro i q y gv h1 o1 ht hq hy fr A1 ob1
      have t76 : ∀ (y : Nat) (gv : Int32) (h1 : Nat → aE) (o1 : Nat → Int32), y ≤ l → Fr h h1 (fun j => j = k + 5) → ShareAt h1 k l M od th p r f w o1 so → (∀ j, j < 2 ^ L → ∃ y, y ≤ l ∧ o1 j = nI y) → WX (lk tX8_spreadBelow) (mM d) Ψ 76 [(0, .ref k), (1, .int hi), (2, .int (nI (2 ^ L))), (3, .int stp), (4, .int (nI q)), (5, .int (nI y)), (6, .int gv), (7, .int (nI i))] [] (n, s, h1) := by
        intro y gv h1 o1 hy fr A1 ob1
        refine WX.s1 rfl rfl ?_
        refine WX.s1 rfl rfl ?_
        refine WX.s1 rfl rfl ?_
        refine WX.s1 rfl rfl ?_
        refine WX.s1 rfl rfl ?_
        refine WX.s1 rfl rfl ?_
        refine WX.s1 rfl rfl ?_
        refine WX.isN (L' := fun x84 => [(0, .ref k), (1, .int hi), (2, .int (nI (2 ^ L))), (3, .int stp), (4, .int x84), (5, .int (nI y)), (6, .int gv), (7, .int (nI i))]) rfl (fun _ => rfl) (fun x84 e_x84 => ?_)
        try dsimp only at e_x84
        refine WX.incN (L' := fun x86 => [(0, .ref k), (1, .int hi), (2, .int (nI (2 ^ L))), (3, .int stp), (4, .int x84), (5, .int (nI y)), (6, .int gv), (7, .int x86)]) rfl rfl (fun _ => rfl) (fun x86 e_x86 => ?_)
        try dsimp only at e_x86
        refine WX.s1 rfl rfl ?_
        have e84 : ∃ q2, q2 < 2 ^ L ∧ x84 = nI q2 := by
          obtain ⟨q2, g1, g2⟩ := pk_andE (nI q + stp) (m := nI (2 ^ L) - 1) L (by rw [show nI (2 ^ L) - 1 = nI (2 ^ L - 1) from pk_sub (a := 2 ^ L) (b := 1) hpos]; exact pk_tn (by omega))
          exact ⟨q2, g1, by rw [e_x84]; exact g2⟩
        obtain ⟨q2, hq2, e84⟩ := e84
        rw [e84, show x86 = nI (i + 1) by rw [e_x86]; exact nI_1 i]
        exact ih (i + 1) q2 y gv h1 o1 (by omega) hq2 hy fr A1 ob1
      have t64 : ∀ (y : Nat) (gv : Int32), y ≤ l → WX (lk tX8_spreadBelow) (mM d) Ψ 64 [(0, .ref k), (1, .int hi), (2, .int (nI (2 ^ L))), (3, .int stp), (4, .int (nI q)), (5, .int (nI y)), (6, .int gv), (7, .int (nI i))] [] (n, s, h1) := by
        intro y gv hy
        obtain ⟨F_h1_k, F_h1__k_1_, F_h1__k_2_, F_h1__k_3_, F_h1__k_4_, F_h1__k_5_, F_h1__k_6_⟩ := id A1
        refine WX.s1 rfl rfl ?_
        refine WX.get1 (fs := [.int (nI l), .ref (k + 1), .ref (k + 2), .ref (k + 3), .ref (k + 4), .ref (k + 5), .ref (k + 6), .int od, .int th]) rfl (by omega) (F_h1_k) rfl ?_
        refine WX.s1 rfl rfl ?_
        refine WX.s1 rfl rfl ?_
        refine WX.iastN rfl (by omega) (F_h1__k_5_) (vp_in_nI (by omega) (by omega)) (fun g72 h72 e_g72 e_h72 => ?_)
        try dsimp only at e_g72
        have F_h72_k : h72 k = .inr (8, [.int (nI l), .ref (k + 1), .ref (k + 2), .ref (k + 3), .ref (k + 4), .ref (k + 5), .ref (k + 6), .int od, .int th]) := by rw [e_h72, va_up_neq (nek1 (a := 5) (by decide))]; exact F_h1_k
        have F_h72__k_1_ : h72 (k + 1) = .inl (1, (l + 1), .inl p) := by rw [e_h72, va_up_neq (nek (a := 1) (b := 5) (by decide))]; exact F_h1__k_1_
        have F_h72__k_5_ : h72 (k + 5) = .inl (1, M, .inl g72) := by rw [e_h72]; exact va_up_eq
        refine WX.incN (L' := fun x73 => [(0, .ref k), (1, .int hi), (2, .int (nI (2 ^ L))), (3, .int stp), (4, .int (nI q)), (5, .int (nI y)), (6, .int x73), (7, .int (nI i))]) rfl rfl (fun _ => rfl) (fun x73 e_x73 => ?_)
        try dsimp only at e_x73
        refine t76 y x73 h72 g72 hy (fr.tr (fun j hj => by rw [e_h72]; exact va_up_neq hj)) (A1.upO e_h72) (fun j hj => ?_)
        rw [e_g72, nI_clamp (by omega)]
        by_cases z : j = q
        · exact ⟨y, hy, by rw [z]; exact pk_us⟩
        · rw [pk_un z]; exact ob1 j hj
      have inn : ∀ (u y : Nat) (gv : Int32), y + u = l → WX (lk tX8_spreadBelow) (mM d) Ψ 34 [(0, .ref k), (1, .int hi), (2, .int (nI (2 ^ L))), (3, .int stp), (4, .int (nI q)), (5, .int (nI y)), (6, .int gv), (7, .int (nI i))] [] (n, s, h1) := by
        intro u
        induction u with
        | zero =>
          intro y gv hu
          obtain rfl : y = l := by omega
          obtain ⟨F_h1_k, F_h1__k_1_, F_h1__k_2_, F_h1__k_3_, F_h1__k_4_, F_h1__k_5_, F_h1__k_6_⟩ := id A1
          refine WX.s1 rfl rfl ?_
          refine WX.s1 rfl rfl ?_
          refine WX.get1 (fs := [.int (nI y), .ref (k + 1), .ref (k + 2), .ref (k + 3), .ref (k + 4), .ref (k + 5), .ref (k + 6), .int od, .int th]) rfl (by omega) (F_h1_k) rfl ?_
          refine WX.icmp rfl (fun c_40 => ?_) (fun c_40 => absurd (nI_le (Nat.le_refl _) (by omega)) c_40)
          exact t64 y gv (by omega)
        | succ u ihu =>
          intro y gv hu
          obtain ⟨F_h1_k, F_h1__k_1_, F_h1__k_2_, F_h1__k_3_, F_h1__k_4_, F_h1__k_5_, F_h1__k_6_⟩ := id A1
          refine WX.s1 rfl rfl ?_
          refine WX.s1 rfl rfl ?_
          refine WX.get1 (fs := [.int (nI l), .ref (k + 1), .ref (k + 2), .ref (k + 3), .ref (k + 4), .ref (k + 5), .ref (k + 6), .int od, .int th]) rfl (by omega) (F_h1_k) rfl ?_
          refine WX.icmp rfl (fun c_40 => absurd c_40 (nI_ge (by omega) (by omega))) (fun c_40 => ?_)
          refine WX.s1 rfl rfl ?_
          refine WX.s1 rfl rfl ?_
          refine WX.get1 (fs := [.int (nI l), .ref (k + 1), .ref (k + 2), .ref (k + 3), .ref (k + 4), .ref (k + 5), .ref (k + 6), .int od, .int th]) rfl (by omega) (F_h1_k) rfl ?_
          refine WX.s1 rfl rfl ?_
          refine WX.iald1 rfl (Or.inl (by omega)) (F_h1__k_1_) (vp_in_nI (by omega) (by omega)) ?_
          refine WX.icmp rfl (fun c_52 => ?_) (fun c_52 => ?_)
          · skip
            exact t64 y gv (by omega)
          · skip
            refine WX.s1 rfl rfl ?_
            refine WX.isN (L' := fun x56 => [(0, .ref k), (1, .int hi), (2, .int (nI (2 ^ L))), (3, .int stp), (4, .int (nI q)), (5, .int (nI y)), (6, .int x56), (7, .int (nI i))]) rfl (fun _ => rfl) (fun x56 e_x56 => ?_)
            try dsimp only at e_x56
            refine WX.incN (L' := fun x58 => [(0, .ref k), (1, .int hi), (2, .int (nI (2 ^ L))), (3, .int stp), (4, .int (nI q)), (5, .int x58), (6, .int x56), (7, .int (nI i))]) rfl rfl (fun _ => rfl) (fun x58 e_x58 => ?_)
            try dsimp only at e_x58
            refine WX.s1 rfl rfl ?_
            rw [show x58 = nI (y + 1) by rw [e_x58]; exact nI_1 y]
            exact ihu (y + 1) x56 (by omega)
      refine WX.s1 rfl rfl ?_
      refine WX.s1 rfl rfl ?_
      refine WX.icmp rfl (fun c_25 => absurd c_25 (nI_ge (by omega) hsz)) (fun c_25 => ?_)
      refine WX.s1 rfl rfl ?_
      refine WX.s1 rfl rfl ?_
      refine WX.icmp rfl (fun c_31 => ?_) (fun c_31 => ?_)
      · skip
        exact t76 y gv h1 o1 hy fr A1 ob1
      · skip
        exact inn (l - y) y gv (by omega)
  refine WX.s1 rfl rfl ?_
  refine WX.s1 rfl rfl ?_
  refine WX.s1 rfl rfl ?_
  refine WX.s1 rfl rfl ?_
  refine WX.s1 rfl rfl ?_
  refine WX.s1 rfl rfl ?_
  refine WX.s1 rfl rfl ?_
  refine WX.s1 rfl rfl ?_
  refine WX.s1 rfl rfl ?_
  refine WX.isN (L' := fun x9 => [(0, .ref k), (1, .int hi), (2, .int (nI (2 ^ L))), (3, .int x9)]) rfl (fun _ => rfl) (fun x9 e_x9 => ?_)
  try dsimp only at e_x9
  refine WX.s1 rfl rfl ?_
  refine WX.isN (L' := fun x11 => [(0, .ref k), (1, .int hi), (2, .int (nI (2 ^ L))), (3, .int x9), (4, .int x11)]) rfl (fun _ => rfl) (fun x11 e_x11 => ?_)
  try dsimp only at e_x11
  refine WX.s1 rfl rfl ?_
  refine WX.isN (L' := fun x14 => [(0, .ref k), (1, .int hi), (2, .int (nI (2 ^ L))), (3, .int x9), (4, .int x11), (5, .int x14)]) rfl (fun _ => rfl) (fun x14 e_x14 => ?_)
  try dsimp only at e_x14
  refine WX.s1 rfl rfl ?_
  refine WX.isN (L' := fun x17 => [(0, .ref k), (1, .int hi), (2, .int (nI (2 ^ L))), (3, .int x9), (4, .int x11), (5, .int x14), (6, .int x17)]) rfl (fun _ => rfl) (fun x17 e_x17 => ?_)
  try dsimp only at e_x17
  refine WX.s1 rfl rfl ?_
  refine WX.isN (L' := fun x20 => [(0, .ref k), (1, .int hi), (2, .int (nI (2 ^ L))), (3, .int x9), (4, .int x11), (5, .int x14), (6, .int x17), (7, .int x20)]) rfl (fun _ => rfl) (fun x20 e_x20 => ?_)
  try dsimp only at e_x20
  rw [show x11 = nI 0 by rw [e_x11]; rfl, show x14 = nI 0 by rw [e_x14]; rfl, show x20 = nI 0 by rw [e_x20]; rfl]
  exact out x9 (2 ^ L) 0 0 0 x17 h o (by omega) hpos (Nat.zero_le _) Fr.rf A ob
