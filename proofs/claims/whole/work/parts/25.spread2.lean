/-! Share.spread, Share.beOf, Column.know -/
set_option maxRecDepth 20000 in
theorem w_spread {d n s : Nat} {h : Nat → aE} {k l M L : Nat} {th : Int32} {p r f w o so : Nat → Int32} (hk : k + 6 < n) (A : ShareAt h k l M (nI L) th p r f w o so) (hl : l < 1000) (hL : L ≤ 9) (hM : 2 ^ L ≤ M) (hM2 : M < 2 ^ 20) (ob : (∀ j, j < 2 ^ L → ∃ y, y ≤ l ∧ o j = nI y)) (pb : (∀ y, y ≤ l → p y = -1 ∨ ∃ m, m ≤ 1000 ∧ p y = nI m)) {Ψ : Option Value → aH → Prop} (kk : ∀ h' f' w' o' so', Fr h h' (inS k) → ShareAt h' k l M (nI L) 1 p r f' w' o' so' → Ψ none (n, s, h')) : WO (mM (d + 2)) 103 [.ref k] (n, s, h) Ψ := by
  refine WO.of (Nat.le_of_ble_eq_true rfl) ?_
  show WX (lk tX8_spread) (mM (d + 1)) Ψ 0 [(0, .ref k)] [] (n, s, h)
  have hsz : 2 ^ L < 2 ^ 20 := Nat.lt_of_le_of_lt hM hM2
  have lp : ∀ (t i hg b : Nat) (h1 : Nat → aE) (f1 w1 o1 : Nat → Int32), i + t = l + 1 → hg ≤ 2 ^ L → b ≤ 1000 * i → Fr h h1 (inS k) → ShareAt h1 k l M (nI L) th p r f1 w1 o1 so → (∀ j, j < 2 ^ L → ∃ y, y ≤ l ∧ o1 j = nI y) → (∀ y, y < i → ∃ m, m ≤ 2 ^ 20 ∧ f1 y = nI m) → WX (lk tX8_spread) (mM (d + 1)) Ψ 22 [(0, .ref k), (1, .int (nI (2 ^ L))), (2, .int (nI hg)), (3, .int (nI b)), (4, .int (nI i))] [] (n, s, h1) := by
    intro t
    induction t with
    | zero =>
      intro i hg b h1 f1 w1 o1 ht hhg hb fr A1 ob1 fb1
      obtain rfl : i = l + 1 := by omega
      obtain ⟨F_h1_k, F_h1__k_1_, F_h1__k_2_, F_h1__k_3_, F_h1__k_4_, F_h1__k_5_, F_h1__k_6_⟩ := id A1
      refine WX.s1 rfl rfl ?_
      refine WX.s1 rfl rfl ?_
      refine WX.get1 (fs := [.int (nI l), .ref (k + 1), .ref (k + 2), .ref (k + 3), .ref (k + 4), .ref (k + 5), .ref (k + 6), .int (nI L), .int th]) rfl (by omega) (F_h1_k) rfl ?_
      refine WX.icmp rfl (fun c_28 => ?_) (fun c_28 => absurd (nI_lt (by omega) (by omega)) c_28)
      refine WX.s1 rfl rfl ?_
      refine WX.s1 rfl rfl ?_
      refine WX.s1 rfl rfl ?_
      refine WX.callC (vs := [.ref k, .int (nI hg), .int (nI (2 ^ L))]) rfl rfl rfl (Nat.le_of_ble_eq_true rfl) (rcv_ok (by omega) F_h1_k) ?_
      refine w_spreadBelow hk A1 hl hL hM hM2 ob1 (fun h2 o2 fr2 A2 ob2 => ?_)
      obtain ⟨F_h2_k, F_h2__k_1_, F_h2__k_2_, F_h2__k_3_, F_h2__k_4_, F_h2__k_5_, F_h2__k_6_⟩ := id A2
      show WX _ _ _ 119 [(0, .ref k), (1, .int (nI (2 ^ L))), (2, .int (nI hg)), (3, .int (nI b)), (4, .int (nI (l + 1)))] [] (n, s, h2)
      refine WX.s1 rfl rfl ?_
      refine WX.s1 rfl rfl ?_
      refine WX.callC (vs := [.ref k, .int (nI (2 ^ L))]) rfl rfl rfl (Nat.le_of_ble_eq_true rfl) (rcv_ok (by omega) F_h2_k) ?_
      refine w_sortPlaces hk A2 hl hL hM hM2 ob2 (fun y hy => fb1 y (by omega)) (fun h3 f3 so3 fr3 A3 => ?_)
      obtain ⟨F_h3_k, F_h3__k_1_, F_h3__k_2_, F_h3__k_3_, F_h3__k_4_, F_h3__k_5_, F_h3__k_6_⟩ := id A3
      show WX _ _ _ 124 [(0, .ref k), (1, .int (nI (2 ^ L))), (2, .int (nI hg)), (3, .int (nI b)), (4, .int (nI (l + 1)))] [] (n, s, h3)
      refine WX.s1 rfl rfl ?_
      refine WX.s1 rfl rfl ?_
      refine WX.put1 (fs := [.int (nI l), .ref (k + 1), .ref (k + 2), .ref (k + 3), .ref (k + 4), .ref (k + 5), .ref (k + 6), .int (nI L), .int th]) (fs' := [.int (nI l), .ref (k + 1), .ref (k + 2), .ref (k + 3), .ref (k + 4), .ref (k + 5), .ref (k + 6), .int (nI L), .int 1]) rfl (by omega) (F_h3_k) (Nat.le_of_ble_eq_true rfl) (rfl) rfl (fun h126 e_h126 => ?_)
      have F_h126_k : h126 k = .inr (8, [.int (nI l), .ref (k + 1), .ref (k + 2), .ref (k + 3), .ref (k + 4), .ref (k + 5), .ref (k + 6), .int (nI L), .int 1]) := by rw [e_h126]; exact va_up_eq
      refine WX.ret0 rfl (kk h126 f3 w1 o2 so3 (fun j hj => ?_) (A3.upH e_h126))
      rw [e_h126, va_up_neq (fun e => hj ⟨by omega, by omega⟩), fr3 j (fun e => hj (by omega)), fr2 j (fun e => hj ⟨by omega, by omega⟩)]
      exact fr j hj
    | succ t ih =>
      intro i hg b h1 f1 w1 o1 ht hhg hb fr A1 ob1 fb1
      have t77 : ∀ (ms : Nat) (h2 : Nat → aE) (f2 w2 : Nat → Int32), ms ≤ 1000 → Fr h h2 (inS k) → ShareAt h2 k l M (nI L) th p r f2 w2 o1 so → (∀ y, y < i + 1 → ∃ m, m ≤ 2 ^ 20 ∧ f2 y = nI m) → WX (lk tX8_spread) (mM (d + 1)) Ψ 77 [(0, .ref k), (1, .int (nI (2 ^ L))), (2, .int (nI hg)), (3, .int (nI b)), (4, .int (nI i)), (5, .int (nI ms))] [] (n, s, h2) := by
        intro ms h2 f2 w2 hms fr2 A2 fb2
        obtain ⟨F_h2_k, F_h2__k_1_, F_h2__k_2_, F_h2__k_3_, F_h2__k_4_, F_h2__k_5_, F_h2__k_6_⟩ := id A2
        refine WX.s1 rfl rfl ?_
        refine WX.s1 rfl rfl ?_
        refine WX.s1 rfl rfl ?_
        refine WX.isN (L' := fun x81 => [(0, .ref k), (1, .int (nI (2 ^ L))), (2, .int (nI hg)), (3, .int x81), (4, .int (nI i)), (5, .int (nI ms))]) rfl (fun _ => rfl) (fun x81 e_x81 => ?_)
        try dsimp only at e_x81
        obtain rfl : x81 = nI (b + ms) := by rw [e_x81]; exact nI_add b ms
        refine WX.s1 rfl rfl ?_
        refine WX.get1 (fs := [.int (nI l), .ref (k + 1), .ref (k + 2), .ref (k + 3), .ref (k + 4), .ref (k + 5), .ref (k + 6), .int (nI L), .int th]) rfl (by omega) (F_h2_k) rfl ?_
        refine WX.s1 rfl rfl ?_
        refine WX.iald1 rfl (Or.inl (by omega)) (F_h2__k_1_) (vp_in_nI (by omega) (by omega)) ?_
        refine WX.if_ rfl (fun c_89 => ?_) (fun c_89 => ?_)
        · skip
          refine WX.incN (L' := fun x107 => [(0, .ref k), (1, .int (nI (2 ^ L))), (2, .int (nI hg)), (3, .int (nI (b + ms))), (4, .int x107), (5, .int (nI ms))]) rfl rfl (fun _ => rfl) (fun x107 e_x107 => ?_)
          try dsimp only at e_x107
          refine WX.s1 rfl rfl ?_
          refine WX.keep (y := 103) [0, 1, 2, 3, 4] (show ([0, 1, 2, 3, 4, 5] : List Nat).Nodup by decide) rfl ?_
          rw [show x107 = nI (i + 1) by rw [e_x107]; exact nI_1 i]
          exact ih (i + 1) hg (b + ms) h2 f2 w2 o1 (by omega) hhg (by omega) fr2 A2 ob1 fb2
        · skip
          refine WX.s1 rfl rfl ?_
          refine WX.if_ rfl (fun c_93 => ?_) (fun c_93 => ?_)
          · skip
            refine WX.incN (L' := fun x107 => [(0, .ref k), (1, .int (nI (2 ^ L))), (2, .int (nI hg)), (3, .int (nI (b + ms))), (4, .int x107), (5, .int (nI ms))]) rfl rfl (fun _ => rfl) (fun x107 e_x107 => ?_)
            try dsimp only at e_x107
            refine WX.s1 rfl rfl ?_
            refine WX.keep (y := 103) [0, 1, 2, 3, 4] (show ([0, 1, 2, 3, 4, 5] : List Nat).Nodup by decide) rfl ?_
            rw [show x107 = nI (i + 1) by rw [e_x107]; exact nI_1 i]
            exact ih (i + 1) hg (b + ms) h2 f2 w2 o1 (by omega) hhg (by omega) fr2 A2 ob1 fb2
          · skip
            have hpos : 0 < hg := Nat.pos_of_ne_zero (fun z => c_93 (by rw [z]; decide))
            refine WX.incN (L' := fun x96 => [(0, .ref k), (1, .int (nI (2 ^ L))), (2, .int x96), (3, .int (nI (b + ms))), (4, .int (nI i)), (5, .int (nI ms))]) rfl rfl (fun _ => rfl) (fun x96 e_x96 => ?_)
            try dsimp only at e_x96
            obtain rfl : x96 = nI (hg - 1) := by rw [e_x96]; exact sb_m1 hpos
            refine WX.s1 rfl rfl ?_
            refine WX.get1 (fs := [.int (nI l), .ref (k + 1), .ref (k + 2), .ref (k + 3), .ref (k + 4), .ref (k + 5), .ref (k + 6), .int (nI L), .int th]) rfl (by omega) (F_h2_k) rfl ?_
            refine WX.s1 rfl rfl ?_
            refine WX.s1 rfl rfl ?_
            refine WX.iastN rfl (by omega) (F_h2__k_5_) (vp_in_nI (by omega) (by omega)) (fun g106 h106 e_g106 e_h106 => ?_)
            try dsimp only at e_g106
            have F_h106_k : h106 k = .inr (8, [.int (nI l), .ref (k + 1), .ref (k + 2), .ref (k + 3), .ref (k + 4), .ref (k + 5), .ref (k + 6), .int (nI L), .int th]) := by rw [e_h106, va_up_neq (nek1 (a := 5) (by decide))]; exact F_h2_k
            have F_h106__k_1_ : h106 (k + 1) = .inl (1, (l + 1), .inl p) := by rw [e_h106, va_up_neq (nek (a := 1) (b := 5) (by decide))]; exact F_h2__k_1_
            have F_h106__k_3_ : h106 (k + 3) = .inl (1, (l + 1), .inl f2) := by rw [e_h106, va_up_neq (nek (a := 3) (b := 5) (by decide))]; exact F_h2__k_3_
            have F_h106__k_4_ : h106 (k + 4) = .inl (1, (l + 1), .inl w2) := by rw [e_h106, va_up_neq (nek (a := 4) (b := 5) (by decide))]; exact F_h2__k_4_
            have F_h106__k_5_ : h106 (k + 5) = .inl (1, M, .inl g106) := by rw [e_h106]; exact va_up_eq
            refine WX.incN (L' := fun x107 => [(0, .ref k), (1, .int (nI (2 ^ L))), (2, .int (nI (hg - 1))), (3, .int (nI (b + ms))), (4, .int x107), (5, .int (nI ms))]) rfl rfl (fun _ => rfl) (fun x107 e_x107 => ?_)
            try dsimp only at e_x107
            refine WX.s1 rfl rfl ?_
            refine WX.keep (y := 103) [0, 1, 2, 3, 4] (show ([0, 1, 2, 3, 4, 5] : List Nat).Nodup by decide) rfl ?_
            rw [show x107 = nI (i + 1) by rw [e_x107]; exact nI_1 i]
            refine ih (i + 1) (hg - 1) (b + ms) h106 f2 w2 g106 (by omega) (by omega) (by omega) (fr2.tr (fun j hj => by rw [e_h106]; exact va_up_neq (fun e => hj ⟨by omega, by omega⟩))) (A2.upO e_h106) (fun j hj => ?_) fb2
            rw [e_g106, nI_clamp (by omega)]
            by_cases z : j = hg - 1
            · exact ⟨i, by omega, by rw [z]; exact pk_us⟩
            · rw [pk_un z]; exact ob1 j hj
      obtain ⟨F_h1_k, F_h1__k_1_, F_h1__k_2_, F_h1__k_3_, F_h1__k_4_, F_h1__k_5_, F_h1__k_6_⟩ := id A1
      refine WX.s1 rfl rfl ?_
      refine WX.s1 rfl rfl ?_
      refine WX.get1 (fs := [.int (nI l), .ref (k + 1), .ref (k + 2), .ref (k + 3), .ref (k + 4), .ref (k + 5), .ref (k + 6), .int (nI L), .int th]) rfl (by omega) (F_h1_k) rfl ?_
      refine WX.icmp rfl (fun c_28 => absurd c_28 (nI_nlt (by omega) (by omega))) (fun c_28 => ?_)
      refine WX.s1 rfl rfl ?_
      refine WX.get1 (fs := [.int (nI l), .ref (k + 1), .ref (k + 2), .ref (k + 3), .ref (k + 4), .ref (k + 5), .ref (k + 6), .int (nI L), .int th]) rfl (by omega) (F_h1_k) rfl ?_
      refine WX.s1 rfl rfl ?_
      refine WX.iald1 rfl (Or.inl (by omega)) (F_h1__k_1_) (vp_in_nI (by omega) (by omega)) ?_
      refine WX.s1 rfl rfl ?_
      refine WX.isN (L' := fun x41 => [(0, .ref k), (1, .int (nI (2 ^ L))), (2, .int (nI hg)), (3, .int (nI b)), (4, .int (nI i)), (5, .int x41)]) rfl (fun _ => rfl) (fun x41 e_x41 => ?_)
      try dsimp only at e_x41
      obtain ⟨ms, hms, e41⟩ : ∃ ms, ms ≤ 1000 ∧ x41 = nI ms := by
        rw [e_x41, nI_clamp (by omega)]
        rcases pb i (by omega) with z | ⟨m, z1, z2⟩
        · exact ⟨1, by omega, by rw [z]; decide⟩
        · exact ⟨m, z1, by rw [z2, if_pos (nI_pos' (by omega))]⟩
      subst e41
      refine WX.s1 rfl rfl ?_
      refine WX.get1 (fs := [.int (nI l), .ref (k + 1), .ref (k + 2), .ref (k + 3), .ref (k + 4), .ref (k + 5), .ref (k + 6), .int (nI L), .int th]) rfl (by omega) (F_h1_k) rfl ?_
      refine WX.s1 rfl rfl ?_
      refine WX.s1 rfl rfl ?_
      refine WX.iastN rfl (by omega) (F_h1__k_3_) (vp_in_nI (by omega) (by omega)) (fun g50 h50 e_g50 e_h50 => ?_)
      try dsimp only at e_g50
      have F_h50_k : h50 k = .inr (8, [.int (nI l), .ref (k + 1), .ref (k + 2), .ref (k + 3), .ref (k + 4), .ref (k + 5), .ref (k + 6), .int (nI L), .int th]) := by rw [e_h50, va_up_neq (nek1 (a := 3) (by decide))]; exact F_h1_k
      have F_h50__k_1_ : h50 (k + 1) = .inl (1, (l + 1), .inl p) := by rw [e_h50, va_up_neq (nek (a := 1) (b := 3) (by decide))]; exact F_h1__k_1_
      have F_h50__k_3_ : h50 (k + 3) = .inl (1, (l + 1), .inl g50) := by rw [e_h50]; exact va_up_eq
      have F_h50__k_4_ : h50 (k + 4) = .inl (1, (l + 1), .inl w1) := by rw [e_h50, va_up_neq (nek (a := 4) (b := 3) (by decide))]; exact F_h1__k_4_
      have F_h50__k_5_ : h50 (k + 5) = .inl (1, M, .inl o1) := by rw [e_h50, va_up_neq (nek (a := 5) (b := 3) (by decide))]; exact F_h1__k_5_
      refine WX.s1 rfl rfl ?_
      refine WX.get1 (fs := [.int (nI l), .ref (k + 1), .ref (k + 2), .ref (k + 3), .ref (k + 4), .ref (k + 5), .ref (k + 6), .int (nI L), .int th]) rfl (by omega) (F_h50_k) rfl ?_
      refine WX.s1 rfl rfl ?_
      refine WX.s1 rfl rfl ?_
      refine WX.if_ rfl (fun c_59 => ?_) (fun c_59 => ?_)
      · skip
        refine WX.s1 rfl rfl ?_
        refine WX.iastN rfl (by omega) (F_h50__k_4_) (vp_in_nI (by omega) (by omega)) (fun g76 h76 e_g76 e_h76 => ?_)
        try dsimp only at e_g76
        have F_h76_k : h76 k = .inr (8, [.int (nI l), .ref (k + 1), .ref (k + 2), .ref (k + 3), .ref (k + 4), .ref (k + 5), .ref (k + 6), .int (nI L), .int th]) := by rw [e_h76, va_up_neq (nek1 (a := 4) (by decide))]; exact F_h50_k
        have F_h76__k_1_ : h76 (k + 1) = .inl (1, (l + 1), .inl p) := by rw [e_h76, va_up_neq (nek (a := 1) (b := 4) (by decide))]; exact F_h50__k_1_
        have F_h76__k_3_ : h76 (k + 3) = .inl (1, (l + 1), .inl g50) := by rw [e_h76, va_up_neq (nek (a := 3) (b := 4) (by decide))]; exact F_h50__k_3_
        have F_h76__k_4_ : h76 (k + 4) = .inl (1, (l + 1), .inl g76) := by rw [e_h76]; exact va_up_eq
        have F_h76__k_5_ : h76 (k + 5) = .inl (1, M, .inl o1) := by rw [e_h76, va_up_neq (nek (a := 5) (b := 4) (by decide))]; exact F_h50__k_5_
        refine t77 ms h76 g50 g76 hms (fr.tr (fun j hj => by rw [e_h76]; exact (va_up_neq (fun e => hj ⟨by omega, by omega⟩)).trans (by rw [e_h50]; exact va_up_neq (fun e => hj ⟨by omega, by omega⟩)))) ((A1.upF e_h50).upW e_h76) (fun y hy => ?_)
        rw [e_g50, nI_clamp (by omega)]
        by_cases z : y = i
        · exact ⟨b, by omega, by rw [z]; exact pk_us⟩
        · rw [pk_un z]; exact fb1 y (by omega)
      · skip
        refine WX.s1 rfl rfl ?_
        refine WX.get1 (fs := [.int (nI l), .ref (k + 1), .ref (k + 2), .ref (k + 3), .ref (k + 4), .ref (k + 5), .ref (k + 6), .int (nI L), .int th]) rfl (by omega) (F_h50_k) rfl ?_
        refine WX.s1 rfl rfl ?_
        have hm1 : 1 ≤ ms := Nat.pos_of_ne_zero (fun z => c_59 (by rw [z]; decide))
        refine WX.callC (vs := [.int (nI ms)]) rfl rfl rfl (Nat.le_of_ble_eq_true rfl) rfl ?_
        refine w_log hm1 (by omega) (fun kx _ _ => ?_)
        show WX _ _ _ 71 [(0, .ref k), (1, .int (nI (2 ^ L))), (2, .int (nI hg)), (3, .int (nI b)), (4, .int (nI i)), (5, .int (nI ms))] [.int (nI kx), .int (nI L), .int (nI i), .ref (k + 4)] (n, s, h50)
        refine WX.s1 rfl rfl ?_
        refine WX.s1 rfl rfl ?_
        refine WX.iastN rfl (by omega) (F_h50__k_4_) (vp_in_nI (by omega) (by omega)) (fun g76 h76 e_g76 e_h76 => ?_)
        try dsimp only at e_g76
        have F_h76_k : h76 k = .inr (8, [.int (nI l), .ref (k + 1), .ref (k + 2), .ref (k + 3), .ref (k + 4), .ref (k + 5), .ref (k + 6), .int (nI L), .int th]) := by rw [e_h76, va_up_neq (nek1 (a := 4) (by decide))]; exact F_h50_k
        have F_h76__k_1_ : h76 (k + 1) = .inl (1, (l + 1), .inl p) := by rw [e_h76, va_up_neq (nek (a := 1) (b := 4) (by decide))]; exact F_h50__k_1_
        have F_h76__k_3_ : h76 (k + 3) = .inl (1, (l + 1), .inl g50) := by rw [e_h76, va_up_neq (nek (a := 3) (b := 4) (by decide))]; exact F_h50__k_3_
        have F_h76__k_4_ : h76 (k + 4) = .inl (1, (l + 1), .inl g76) := by rw [e_h76]; exact va_up_eq
        have F_h76__k_5_ : h76 (k + 5) = .inl (1, M, .inl o1) := by rw [e_h76, va_up_neq (nek (a := 5) (b := 4) (by decide))]; exact F_h50__k_5_
        refine t77 ms h76 g50 g76 hms (fr.tr (fun j hj => by rw [e_h76]; exact (va_up_neq (fun e => hj ⟨by omega, by omega⟩)).trans (by rw [e_h50]; exact va_up_neq (fun e => hj ⟨by omega, by omega⟩)))) ((A1.upF e_h50).upW e_h76) (fun y hy => ?_)
        rw [e_g50, nI_clamp (by omega)]
        by_cases z : y = i
        · exact ⟨b, by omega, by rw [z]; exact pk_us⟩
        · rw [pk_un z]; exact fb1 y (by omega)
  obtain ⟨F_h_k, F_h__k_1_, F_h__k_2_, F_h__k_3_, F_h__k_4_, F_h__k_5_, F_h__k_6_⟩ := id A
  refine WX.s1 rfl rfl ?_
  refine WX.s1 rfl rfl ?_
  refine WX.get1 (fs := [.int (nI l), .ref (k + 1), .ref (k + 2), .ref (k + 3), .ref (k + 4), .ref (k + 5), .ref (k + 6), .int (nI L), .int th]) rfl (by omega) (F_h_k) rfl ?_
  refine WX.s1 rfl rfl ?_
  refine WX.s1 rfl rfl ?_
  refine WX.get1 (fs := [.int (nI l), .ref (k + 1), .ref (k + 2), .ref (k + 3), .ref (k + 4), .ref (k + 5), .ref (k + 6), .int (nI L), .int th]) rfl (by omega) (F_h_k) rfl ?_
  refine WX.len1 rfl (Or.inl ⟨by omega, by decide⟩) (F_h__k_5_) ?_
  refine WX.s1 rfl rfl ?_
  refine WX.isN (L' := fun x14 => [(0, .ref k), (1, .int x14)]) rfl (fun _ => rfl) (fun x14 e_x14 => ?_)
  try dsimp only at e_x14
  obtain rfl : x14 = nI (2 ^ L) := by
    rw [e_x14, shl1 L (by omega)]
    exact if_neg (nI_nlt hM (by omega))
  refine WX.s1 rfl rfl ?_
  refine WX.isN (L' := fun x16 => [(0, .ref k), (1, .int (nI (2 ^ L))), (2, .int x16)]) rfl (fun _ => rfl) (fun x16 e_x16 => ?_)
  try dsimp only at e_x16
  refine WX.s1 rfl rfl ?_
  refine WX.isN (L' := fun x18 => [(0, .ref k), (1, .int (nI (2 ^ L))), (2, .int x16), (3, .int x18)]) rfl (fun _ => rfl) (fun x18 e_x18 => ?_)
  try dsimp only at e_x18
  refine WX.s1 rfl rfl ?_
  refine WX.isN (L' := fun x20 => [(0, .ref k), (1, .int (nI (2 ^ L))), (2, .int x16), (3, .int x18), (4, .int x20)]) rfl (fun _ => rfl) (fun x20 e_x20 => ?_)
  try dsimp only at e_x20
  rw [show x16 = nI (2 ^ L) from e_x16, show x18 = nI 0 by rw [e_x18]; rfl, show x20 = nI 0 by rw [e_x20]; rfl]
  exact lp (l + 1) 0 (2 ^ L) 0 h f w o (by omega) (Nat.le_refl _) (by omega) Fr.rf A ob (fun y hy => absurd hy (Nat.not_lt_zero y))
set_option maxRecDepth 20000 in
theorem w_beOf {d n s : Nat} {h : Nat → aE} {k l M L j N : Nat} {od th : Int32} {p r f w o so kn : Nat → Int32} (hk : k + 6 < n) (hn : n < aBig) (A : ShareAt h k l M od th p r f w o so) (hl : l < 1000) (hL : L ≤ 9) (hM : 2 ^ L ≤ M) (hM2 : M < 2 ^ 20) (ob : (∀ j, j < 2 ^ L → ∃ y, y ≤ l ∧ o j = nI y)) (hj : j < 10) (K : h (aBig + j) = .inl (1, N, .inl kn)) (hN : N ≤ l + 1) (kb : ∀ i, i < N → kn i = -1 ∨ ∃ m, m ≤ 1000 ∧ kn i = nI m) {Ψ : Option Value → aH → Prop} (kk : ∀ h' p' f' w' o' so', Fr h h' (inS k) → ShareAt h' k l M (nI L) 1 p' r f' w' o' so' → (∀ i, i ≤ l → p' i = if i < N then kn i else 0) → Ψ none (n, s, h')) : WO (mM (d + 3)) 98 [.ref k, .ref (aBig + j), .int (nI L)] (n, s, h) Ψ := by
  refine WO.of (Nat.le_of_ble_eq_true rfl) ?_
  show WX (lk tX8_beOf) (mM (d + 2)) Ψ 0 [(0, .ref k), (1, .ref (aBig + j)), (2, .int (nI L))] [] (n, s, h)
  obtain ⟨F_h_k, F_h__k_1_, F_h__k_2_, F_h__k_3_, F_h__k_4_, F_h__k_5_, F_h__k_6_⟩ := id A
  refine WX.s1 rfl rfl ?_
  refine WX.get1 (fs := [.int (nI l), .ref (k + 1), .ref (k + 2), .ref (k + 3), .ref (k + 4), .ref (k + 5), .ref (k + 6), .int od, .int th]) rfl (by omega) (F_h_k) rfl ?_
  refine WX.s1 rfl rfl ?_
  refine WX.callC (vs := [.ref (k + 1), .int 0]) rfl rfl rfl (Nat.le_of_ble_eq_true rfl) rfl ?_
  refine w_fill (by omega) F_h__k_1_ (by omega) (fun h2 g2 fr2 F2 hg2 => ?_)
  have A2 : ShareAt h2 k l M od th g2 r f w o so := ⟨(fr2 k (by omega)).trans A.1, F2, (fr2 _ (by omega)).trans A.2.2.1, (fr2 _ (by omega)).trans A.2.2.2.1, (fr2 _ (by omega)).trans A.2.2.2.2.1, (fr2 _ (by omega)).trans A.2.2.2.2.2.1, (fr2 _ (by omega)).trans A.2.2.2.2.2.2⟩
  obtain ⟨F_h2_k, F_h2__k_1_, F_h2__k_2_, F_h2__k_3_, F_h2__k_4_, F_h2__k_5_, F_h2__k_6_⟩ := id A2
  have F_h2__aBig_j_ : h2 (aBig + j) = .inl (1, N, .inl kn) := (fr2 _ (show aBig + j ≠ k + 1 by omega)).trans K
  show WX _ _ _ 8 [(0, .ref k), (1, .ref (aBig + j)), (2, .int (nI L))] [] (n, s, h2)
  refine WX.s1 rfl rfl ?_
  refine WX.s1 rfl rfl ?_
  refine WX.s1 rfl rfl ?_
  refine WX.get1 (fs := [.int (nI l), .ref (k + 1), .ref (k + 2), .ref (k + 3), .ref (k + 4), .ref (k + 5), .ref (k + 6), .int od, .int th]) rfl (by omega) (F_h2_k) rfl ?_
  refine WX.s1 rfl rfl ?_
  refine WX.s1 rfl rfl ?_
  refine WX.len1 rfl (Or.inr ⟨by omega, by omega⟩) (F_h2__aBig_j_) ?_
  refine WX.s1 rfl rfl ?_
  refine WX.get1 (fs := [.int (nI l), .ref (k + 1), .ref (k + 2), .ref (k + 3), .ref (k + 4), .ref (k + 5), .ref (k + 6), .int od, .int th]) rfl (by omega) (F_h2_k) rfl ?_
  refine WX.len1 rfl (Or.inl ⟨by omega, by decide⟩) (F_h2__k_1_) ?_
  refine WX.s1 rfl rfl ?_
  refine WX.copyN rfl (Nat.le_of_ble_eq_true rfl) (Or.inr ⟨by omega, by omega⟩) (F_h2__aBig_j_) (by omega) (F_h2__k_1_) (p := 0) (q := 0) (c := N) rfl rfl (by show (if nI (l + 1) < nI N then nI (l + 1) else nI N) = nI N; exact if_neg (nI_nlt hN (by omega))) (by omega) (by omega) (by omega) (by omega) (fun g25 h25 e_g25 e_h25 => ?_)
  have F_h25_k : h25 k = .inr (8, [.int (nI l), .ref (k + 1), .ref (k + 2), .ref (k + 3), .ref (k + 4), .ref (k + 5), .ref (k + 6), .int od, .int th]) := by rw [e_h25, va_up_neq (nek1 (a := 1) (by decide))]; exact F_h2_k
  have F_h25__k_1_ : h25 (k + 1) = .inl (1, (l + 1), .inl g25) := by rw [e_h25]; exact va_up_eq
  have F_h25__aBig_j_ : h25 (aBig + j) = .inl (1, N, .inl kn) := by rw [e_h25, va_up_neq (by omega)]; exact F_h2__aBig_j_
  refine WX.s1 rfl rfl ?_
  refine WX.s1 rfl rfl ?_
  refine WX.putNI (fs := [.int (nI l), .ref (k + 1), .ref (k + 2), .ref (k + 3), .ref (k + 4), .ref (k + 5), .ref (k + 6), .int od, .int th]) (fs' := fun f30 => [.int (nI l), .ref (k + 1), .ref (k + 2), .ref (k + 3), .ref (k + 4), .ref (k + 5), .ref (k + 6), .int f30, .int th]) rfl (by omega) (F_h25_k) (Nat.le_of_ble_eq_true rfl) (fun _ => rfl) (fun f30 h30 e_f30 e_h30 => ?_)
  try dsimp only at e_f30
  have F_h30_k : h30 k = .inr (8, [.int (nI l), .ref (k + 1), .ref (k + 2), .ref (k + 3), .ref (k + 4), .ref (k + 5), .ref (k + 6), .int f30, .int th]) := by rw [e_h30]; exact va_up_eq
  have F_h30__k_1_ : h30 (k + 1) = .inl (1, (l + 1), .inl g25) := by rw [e_h30, va_up_neq (nek0 (a := 1) (by decide))]; exact F_h25__k_1_
  have F_h30__aBig_j_ : h30 (aBig + j) = .inl (1, N, .inl kn) := by rw [e_h30, va_up_neq (by omega)]; exact F_h25__aBig_j_
  refine WX.s1 rfl rfl ?_
  obtain rfl : f30 = nI L := e_f30
  have A3 : ShareAt h30 k l M (nI L) th g25 r f w o so := (A2.upP e_h25).upH e_h30
  have hp3 : ∀ i, i ≤ l → g25 i = if i < N then kn i else 0 := fun i hi => by
    rw [e_g25]
    by_cases z : i < N
    · rw [if_pos z, pk_cpy_in (Nat.zero_le _) (by omega), Nat.zero_add, Nat.sub_zero]
    · rw [if_neg z, pk_cpy_out (Or.inr (by omega))]; exact hg2 i (by omega)
  refine WX.callC (vs := [.ref k]) rfl rfl rfl (Nat.le_of_ble_eq_true rfl) (rcv_ok (by omega) F_h30_k) ?_
  refine w_spread hk A3 hl hL hM hM2 ob (fun y hy => ?_) (fun h4 f4 w4 o4 so4 fr4 A4 => ?_)
  · rw [hp3 y hy]
    by_cases z : y < N
    · rw [if_pos z]; exact kb y z
    · rw [if_neg z]; exact Or.inr ⟨0, by omega, rfl⟩
  show WX _ _ _ 37 [(0, .ref k), (1, .ref (aBig + j)), (2, .int (nI L))] [] (n, s, h4)
  refine WX.ret0 rfl (kk h4 g25 f4 w4 o4 so4 (fun z hz => ?_) A4 hp3)
  rw [fr4 z hz, e_h30, va_up_neq (fun e => hz ⟨by omega, by omega⟩), e_h25, va_up_neq (fun e => hz ⟨by omega, by omega⟩)]
  exact fr2 z (fun e => hz ⟨by omega, by omega⟩)
