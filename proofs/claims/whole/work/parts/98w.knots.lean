/-! the knots: sorted, joined, measured -/
theorem nI_max0 {a : Nat} (h : a < 2 ^ 31) : (if nI a < 0 then (0 : Int32) else nI a) = nI a := if_neg (nI_nn h)
theorem nI_add0 (x : Int32) : x + 0 = x := by simp
theorem ci_end {c sy : Nat → Nat} {nn : Nat} {ow : Nat → Nat} (S : SortI c sy nn 256) (h2 : 2 ≤ nn) (C : CI c sy nn (nn - 1) nn (nn - 2) ow) : tN c 256 = tN c (nn - 1) := by
  have hfr := ci_free S C
  obtain ⟨f1, f2, f3⟩ := sort_F (j := nn - 1) S
  obtain ⟨c1, c2, c3, c4, -⟩ := id C
  have hn := S.2.2.2
  have hsl : ∀ q, q < nn → sy q < 256 := fun q hq => (S.1 q hq).1
  have hinj : ∀ a b, a < nn → b < nn → sy a = sy b → a = b := fun a b => sy_inj S
  rw [c1] at f3
  have hg : (nn + (nn - 2) = nn ∧ nn < nn) ∨ (nn + (nn - 2) = nn + (nn - 2) ∧ nn - 2 < nn - 1) := Or.inr ⟨rfl, by omega⟩
  have p1 := (pick_is hsl f2 f3 hfr).2.1 (by omega) (Or.inl (Nat.le_refl _))
  have e1 : oneK (tN c (nn - 1)) = ixK sy nn (nn + (nn - 2)) + 1 := by
    unfold oneK
    rw [c1, (lsK_is _ _ _ _).uniq p1, ix_hi (by omega)]
    omega
  have hfr2 := free2 hsl hinj hg hfr
  have p2 := (pick_is hsl f2 f3 hfr2).2.2 (by unfold lfK; rw [if_neg (by omega)]; exact Nat.le_refl _) (by unfold knK; rw [if_neg (by omega)]; omega)
  have e2 : twoK (tN c (nn - 1)) = 0 := by
    unfold twoK
    rw [c1, e1]
    exact (lsK_is _ _ _ _).uniq p2
  exact tN_end e2 (by omega)
theorem mxK_is {f : Nat → Nat} {m N : Nat} (h1 : ∀ s, s < N → f s ≤ m) (h2 : m = 0 ∨ ∃ s, s < N ∧ f s = m) : mxK f N = m := by
  apply Nat.le_antisymm
  · rcases mxK_at (f := f) N with z | ⟨s, z1, z2⟩
    · rw [z]; exact Nat.zero_le _
    · rw [← z2]; exact h1 s z1
  · rcases h2 with z | ⟨s, z1, z2⟩
    · rw [z]; exact Nat.zero_le _
    · rw [← z2]; exact mxK_ge z1
set_option maxRecDepth 20000 in
theorem x_knSort {d n s : Nat} {h : Nat → aE} {c : Nat → Nat} {cA yA sA : Nat → Int32} (hn : 190 ≤ n) (hc : ∀ s, s < 256 → cA s = nI (c s) ∧ c s ≤ 8000) (F_h_100 : h 100 = .inr (4, [.ref 101, .ref 102, .ref 103, .ref 104, .ref 105])) (F_h_101 : h 101 = .inl (1, 256, .inl cA)) (F_h_102 : h 102 = .inl (1, 256, .inl yA)) (F_h_103 : h 103 = .inl (1, 512, .inl sA))  {Ψ : Option Value → aH → Prop} (kk : ∀ h' yA' sA' sy nn, Fr h h' (fun j => j = 102 ∨ j = 103) → h' 102 = .inl (1, 256, .inl yA') → h' 103 = .inl (1, 512, .inl sA') → SortI c sy nn 256 → (∀ q, q < nn → yA' q = nI (sy q) ∧ sA' q = nI (c (sy q))) → Ψ (some (.int (nI nn))) (n, s, h')) : WO (mM (d + 1)) 47 [.ref 100] (n, s, h) Ψ := by
  refine WO.of (Nat.le_of_ble_eq_true rfl) ?_
  have FR_h : Fr h h (fun j => j = 102 ∨ j = 103) := Fr.rf
  show WX (lk tX4_sort) (mM d) Ψ 0 [(0, .ref 100)] [] (n, s, h)
  refine WX.s1 rfl rfl ?_
  refine WX.s1 (L' := [(0, .ref 100), (1, .int 0)]) rfl rfl ?_
  refine WX.s1 rfl rfl ?_
  refine WX.s1 (L' := [(0, .ref 100), (1, .int 0), (2, .int 0)]) rfl rfl ?_
  have F0 := F_h_100
  have F1 := F_h_101
  have lp : ∀ (t i nn : Nat) (sy : Nat → Nat) (hL : Nat → aE) (yL sL : Nat → Int32), i + t = 256 → Fr h hL (fun j => j = 102 ∨ j = 103) → hL 102 = .inl (1, 256, .inl yL) → hL 103 = .inl (1, 512, .inl sL) → SortI c sy nn i → (∀ q, q < nn → yL q = nI (sy q) ∧ sL q = nI (c (sy q))) → WX (lk tX4_sort) (mM d) Ψ 4 [(0, .ref 100), (1, .int (nI nn)), (2, .int (nI i))] [] (n, s, hL) := by
    clear F_h_100 F_h_101 F_h_102 F_h_103 FR_h
    intro t
    induction t with
    | zero =>
      intro i nn sy hL yL sL hi FR_hL F_hL_102 F_hL_103 hS hA
      have F_hL_100 : hL 100 = .inr (4, [.ref 101, .ref 102, .ref 103, .ref 104, .ref 105]) := (FR_hL _ (by decide)).trans F0
      have F_hL_101 : hL 101 = .inl (1, 256, .inl cA) := (FR_hL _ (by decide)).trans F1
      have hnn := hS.2.2.2
      obtain rfl : i = 256 := by omega
      refine WX.s1 rfl rfl ?_
      refine WX.s1 rfl rfl ?_
      refine WX.get1 (fs := [.ref 101, .ref 102, .ref 103, .ref 104, .ref 105]) rfl (ltN hn (by decide)) (F_hL_100) rfl ?_
      refine WX.len1 rfl (Or.inl ⟨ltN hn (by decide), by decide⟩) (F_hL_101) ?_
      refine WX.icmp rfl (fun c_10 => ?_) (fun c_10 => absurd ((nI_leI (a := 256) (b := 256) (by omega) (by omega)).mpr (by omega)) c_10)
      clear c_10
      refine WX.s1 rfl rfl ?_
      exact WX.ret1 rfl (kk hL yL sL sy nn FR_hL F_hL_102 F_hL_103 hS hA)
    | succ t ih =>
      intro i nn sy hL yL sL hi FR_hL F_hL_102 F_hL_103 hS hA
      have F_hL_100 : hL 100 = .inr (4, [.ref 101, .ref 102, .ref 103, .ref 104, .ref 105]) := (FR_hL _ (by decide)).trans F0
      have F_hL_101 : hL 101 = .inl (1, 256, .inl cA) := (FR_hL _ (by decide)).trans F1
      have hnn := hS.2.2.2
      obtain ⟨hci, hcb⟩ := hc i (by omega)
      refine WX.s1 rfl rfl ?_
      refine WX.s1 rfl rfl ?_
      refine WX.get1 (fs := [.ref 101, .ref 102, .ref 103, .ref 104, .ref 105]) rfl (ltN hn (by decide)) (F_hL_100) rfl ?_
      refine WX.len1 rfl (Or.inl ⟨ltN hn (by decide), by decide⟩) (F_hL_101) ?_
      refine WX.icmp rfl (fun c_10 => absurd c_10 (fun zz_ => absurd ((nI_leI (a := 256) (b := i) (by omega) (by omega)).mp zz_) (Nat.not_le.mpr (by omega)))) (fun c_10 => ?_)
      clear c_10
      refine WX.s1 rfl rfl ?_
      refine WX.get1 (fs := [.ref 101, .ref 102, .ref 103, .ref 104, .ref 105]) rfl (ltN hn (by decide)) (F_hL_100) rfl ?_
      refine WX.s1 rfl rfl ?_
      refine WX.iald1 rfl (Or.inl (ltN hn (by decide))) (F_hL_101) (vp_in_nI (N := 256) (by omega) (by decide)) ?_
      rw [nI_clamp (by omega), hci]
      refine WX.if_ rfl (fun c_19 => ?_) (fun c_19 => ?_)
      · skip
        have n_19 : (c i) ≤ 0 := (nI_leI (a := c i) (b := 0) (by omega) (by omega)).mp c_19
        refine WX.s1 (L' := [(0, .ref 100), (1, .int (nI nn)), (2, .int ((nI i) + 1))]) rfl rfl ?_
        rw [show ((nI i) + 1) = nI (i + 1) from nI_add i 1]
        refine WX.s1 rfl rfl ?_
        exact ih (i + 1) nn sy hL yL sL (by omega) FR_hL F_hL_102 F_hL_103 (sort_skip hS (by omega)) hA
      · skip
        have n_19 : 0 < (c i) := Nat.lt_of_not_le (fun zz_ => c_19 ((nI_leI (a := c i) (b := 0) (by omega) (by omega)).mpr zz_))
        refine WX.s1 rfl rfl ?_
        refine WX.s1 (L' := [(0, .ref 100), (1, .int (nI nn)), (2, .int (nI i)), (3, .int (nI nn))]) rfl rfl ?_
        have lp2 : ∀ (a : Nat) (hL : Nat → aE) (yM sM : Nat → Int32), a ≤ nn → Fr h hL (fun j => j = 102 ∨ j = 103) → hL 102 = .inl (1, 256, .inl yM) → hL 103 = .inl (1, 512, .inl sM) → (∀ q, q < a → yM q = nI (sy q) ∧ sM q = nI (c (sy q))) → (∀ q, a < q → q ≤ nn → yM q = nI (sy (q - 1)) ∧ sM q = nI (c (sy (q - 1)))) → (∀ q, a ≤ q → q < nn → c i < c (sy q)) → WX (lk tX4_sort) (mM d) Ψ 24 [(0, .ref 100), (1, .int (nI nn)), (2, .int (nI i)), (3, .int (nI a))] [] (n, s, hL) := by
          clear F_hL_100 F_hL_101 F_hL_102 F_hL_103 FR_hL hA
          intro a
          induction a with
          | zero =>
            intro hL yM sM ha FR_hL F_hL_102 F_hL_103 h1 h2 hhi
            have F_hL_100 : hL 100 = .inr (4, [.ref 101, .ref 102, .ref 103, .ref 104, .ref 105]) := (FR_hL _ (by decide)).trans F0
            have F_hL_101 : hL 101 = .inl (1, 256, .inl cA) := (FR_hL _ (by decide)).trans F1
            have hlo : ∀ k, k < 0 → c (sy k) ≤ c i := fun k hk => absurd hk (Nat.not_lt_zero k)
            refine WX.s1 rfl rfl ?_
            refine WX.if_ rfl (fun c_25 => ?_) (fun c_25 => absurd ((nI_leI (a := 0) (b := 0) (by omega) (by omega)).mpr (by omega)) c_25)
            clear c_25
            refine WX.s1 rfl rfl ?_
            refine WX.get1 (fs := [.ref 101, .ref 102, .ref 103, .ref 104, .ref 105]) rfl (ltN hn (by decide)) (F_hL_100) rfl ?_
            refine WX.s1 rfl rfl ?_
            refine WX.s1 rfl rfl ?_
            refine WX.get1 (fs := [.ref 101, .ref 102, .ref 103, .ref 104, .ref 105]) rfl (ltN hn (by decide)) (F_hL_100) rfl ?_
            refine WX.s1 rfl rfl ?_
            refine WX.iald1 rfl (Or.inl (ltN hn (by decide))) (F_hL_101) (vp_in_nI (N := 256) (by omega) (by decide)) ?_
            rw [nI_clamp (by omega), hci]
            refine WX.iastN rfl (ltN hn (by decide)) (F_hL_103) (vp_in_nI (N := 512) (by omega) (by decide)) (fun g90 h90 e_g90 e_h90 => ?_)
            try dsimp only at e_g90
            have F_h90_100 : h90 100 = .inr (4, [.ref 101, .ref 102, .ref 103, .ref 104, .ref 105]) := by rw [e_h90, va_up_neq (by decide)]; exact F_hL_100
            have F_h90_101 : h90 101 = .inl (1, 256, .inl cA) := by rw [e_h90, va_up_neq (by decide)]; exact F_hL_101
            have F_h90_102 : h90 102 = .inl (1, 256, .inl yM) := by rw [e_h90, va_up_neq (by decide)]; exact F_hL_102
            have F_h90_103 : h90 103 = .inl (1, 512, .inl g90) := by rw [e_h90]; exact va_up_eq
            have FR_h90 : Fr h h90 (fun j => j = 102 ∨ j = 103) := FR_hL.zup e_h90 (by first | exact rfl | exact Or.inl rfl | exact Or.inr rfl | exact ⟨by decide, by decide⟩ | decide | omega)
            clear F_hL_100 F_hL_101 F_hL_102 F_hL_103 FR_hL e_h90
            refine WX.s1 rfl rfl ?_
            refine WX.get1 (fs := [.ref 101, .ref 102, .ref 103, .ref 104, .ref 105]) rfl (ltN hn (by decide)) (F_h90_100) rfl ?_
            refine WX.s1 rfl rfl ?_
            refine WX.s1 rfl rfl ?_
            refine WX.iastN rfl (ltN hn (by decide)) (F_h90_102) (vp_in_nI (N := 256) (by omega) (by decide)) (fun g97 h97 e_g97 e_h97 => ?_)
            try dsimp only at e_g97
            have F_h97_100 : h97 100 = .inr (4, [.ref 101, .ref 102, .ref 103, .ref 104, .ref 105]) := by rw [e_h97, va_up_neq (by decide)]; exact F_h90_100
            have F_h97_101 : h97 101 = .inl (1, 256, .inl cA) := by rw [e_h97, va_up_neq (by decide)]; exact F_h90_101
            have F_h97_102 : h97 102 = .inl (1, 256, .inl g97) := by rw [e_h97]; exact va_up_eq
            have F_h97_103 : h97 103 = .inl (1, 512, .inl g90) := by rw [e_h97, va_up_neq (by decide)]; exact F_h90_103
            have FR_h97 : Fr h h97 (fun j => j = 102 ∨ j = 103) := FR_h90.zup e_h97 (by first | exact rfl | exact Or.inl rfl | exact Or.inr rfl | exact ⟨by decide, by decide⟩ | decide | omega)
            clear F_h90_100 F_h90_101 F_h90_102 F_h90_103 FR_h90 e_h97
            refine WX.s1 (L' := [(0, .ref 100), (1, .int ((nI nn) + 1)), (2, .int (nI i)), (3, .int (nI 0))]) rfl rfl ?_
            rw [show ((nI nn) + 1) = nI (nn + 1) from nI_add nn 1]
            refine WX.s1 (L' := [(0, .ref 100), (1, .int (nI (nn + 1))), (2, .int ((nI i) + 1)), (3, .int (nI 0))]) rfl rfl ?_
            rw [show ((nI i) + 1) = nI (i + 1) from nI_add i 1]
            refine WX.s1 rfl rfl ?_
            refine WX.keep (y := 47) [0, 1, 2] (show ([0, 1, 2, 3] : List Nat).Nodup by decide) rfl ?_
            rw [nI_clamp (by omega)] at e_g90 e_g97
            refine ih (i + 1) (nn + 1) (insK sy 0 i) h97 g97 g90 (by omega) FR_h97 F_h97_102 F_h97_103 (ins_ok hS ha (by omega) hlo hhi) (fun q hq => ?_)
            rw [e_g90, e_g97]
            by_cases z1 : q = 0
            · rw [z1, pk_us, pk_us, show insK sy 0 i 0 = i by unfold insK; rw [if_neg (Nat.lt_irrefl _), if_pos rfl]]; exact ⟨rfl, rfl⟩
            · rw [pk_un z1, pk_un z1]
              by_cases z2 : q < 0
              · rw [show insK sy 0 i q = sy q from if_pos z2]; exact h1 q z2
              · rw [show insK sy 0 i q = sy (q - 1) by unfold insK; rw [if_neg z2, if_neg z1]]; exact h2 q (by omega) (by omega)
          | succ a iha =>
            intro hL yM sM ha FR_hL F_hL_102 F_hL_103 h1 h2 hhi
            have F_hL_100 : hL 100 = .inr (4, [.ref 101, .ref 102, .ref 103, .ref 104, .ref 105]) := (FR_hL _ (by decide)).trans F0
            have F_hL_101 : hL 101 = .inl (1, 256, .inl cA) := (FR_hL _ (by decide)).trans F1
            have hsa := h1 a (by omega)
            have hcb2 := (hc (sy a) (by have := (hS.1 a (by omega)).1; omega)).2
            refine WX.s1 rfl rfl ?_
            refine WX.if_ rfl (fun c_25 => absurd c_25 (fun zz_ => absurd ((nI_leI (a := a + 1) (b := 0) (by omega) (by omega)).mp zz_) (Nat.not_le.mpr (by omega)))) (fun c_25 => ?_)
            clear c_25
            refine WX.s1 rfl rfl ?_
            refine WX.get1 (fs := [.ref 101, .ref 102, .ref 103, .ref 104, .ref 105]) rfl (ltN hn (by decide)) (F_hL_100) rfl ?_
            refine WX.s1 rfl rfl ?_
            refine WX.s1 rfl rfl ?_
            refine WX.s1 (S' := [.int ((nI (a + 1)) - 1), .ref 103]) rfl rfl ?_
            rw [nI_pm1 (by omega), Nat.add_sub_cancel]
            refine WX.iald1 rfl (Or.inl (ltN hn (by decide))) (F_hL_103) (vp_in_nI (N := 512) (by omega) (by decide)) ?_
            rw [nI_clamp (by omega), hsa.2]
            refine WX.s1 rfl rfl ?_
            refine WX.get1 (fs := [.ref 101, .ref 102, .ref 103, .ref 104, .ref 105]) rfl (ltN hn (by decide)) (F_hL_100) rfl ?_
            refine WX.s1 rfl rfl ?_
            refine WX.iald1 rfl (Or.inl (ltN hn (by decide))) (F_hL_101) (vp_in_nI (N := 256) (by omega) (by decide)) ?_
            rw [nI_clamp (by omega), hci]
            refine WX.icmp rfl (fun c_42 => ?_) (fun c_42 => ?_)
            · skip
              have n_42 : (c (sy a)) ≤ (c i) := (nI_leI (a := c (sy a)) (b := c i) (by omega) (by omega)).mp c_42
              have hlo : ∀ k, k < a + 1 → c (sy k) ≤ c i := fun k hk => Nat.le_trans (sort_le hS (show k ≤ a by omega) (by omega)) n_42
              refine WX.s1 rfl rfl ?_
              refine WX.get1 (fs := [.ref 101, .ref 102, .ref 103, .ref 104, .ref 105]) rfl (ltN hn (by decide)) (F_hL_100) rfl ?_
              refine WX.s1 rfl rfl ?_
              refine WX.s1 rfl rfl ?_
              refine WX.get1 (fs := [.ref 101, .ref 102, .ref 103, .ref 104, .ref 105]) rfl (ltN hn (by decide)) (F_hL_100) rfl ?_
              refine WX.s1 rfl rfl ?_
              refine WX.iald1 rfl (Or.inl (ltN hn (by decide))) (F_hL_101) (vp_in_nI (N := 256) (by omega) (by decide)) ?_
              rw [nI_clamp (by omega), hci]
              refine WX.iastN rfl (ltN hn (by decide)) (F_hL_103) (vp_in_nI (N := 512) (by omega) (by decide)) (fun g90 h90 e_g90 e_h90 => ?_)
              try dsimp only at e_g90
              have F_h90_100 : h90 100 = .inr (4, [.ref 101, .ref 102, .ref 103, .ref 104, .ref 105]) := by rw [e_h90, va_up_neq (by decide)]; exact F_hL_100
              have F_h90_101 : h90 101 = .inl (1, 256, .inl cA) := by rw [e_h90, va_up_neq (by decide)]; exact F_hL_101
              have F_h90_102 : h90 102 = .inl (1, 256, .inl yM) := by rw [e_h90, va_up_neq (by decide)]; exact F_hL_102
              have F_h90_103 : h90 103 = .inl (1, 512, .inl g90) := by rw [e_h90]; exact va_up_eq
              have FR_h90 : Fr h h90 (fun j => j = 102 ∨ j = 103) := FR_hL.zup e_h90 (by first | exact rfl | exact Or.inl rfl | exact Or.inr rfl | exact ⟨by decide, by decide⟩ | decide | omega)
              clear F_hL_100 F_hL_101 F_hL_102 F_hL_103 FR_hL e_h90
              refine WX.s1 rfl rfl ?_
              refine WX.get1 (fs := [.ref 101, .ref 102, .ref 103, .ref 104, .ref 105]) rfl (ltN hn (by decide)) (F_h90_100) rfl ?_
              refine WX.s1 rfl rfl ?_
              refine WX.s1 rfl rfl ?_
              refine WX.iastN rfl (ltN hn (by decide)) (F_h90_102) (vp_in_nI (N := 256) (by omega) (by decide)) (fun g97 h97 e_g97 e_h97 => ?_)
              try dsimp only at e_g97
              have F_h97_100 : h97 100 = .inr (4, [.ref 101, .ref 102, .ref 103, .ref 104, .ref 105]) := by rw [e_h97, va_up_neq (by decide)]; exact F_h90_100
              have F_h97_101 : h97 101 = .inl (1, 256, .inl cA) := by rw [e_h97, va_up_neq (by decide)]; exact F_h90_101
              have F_h97_102 : h97 102 = .inl (1, 256, .inl g97) := by rw [e_h97]; exact va_up_eq
              have F_h97_103 : h97 103 = .inl (1, 512, .inl g90) := by rw [e_h97, va_up_neq (by decide)]; exact F_h90_103
              have FR_h97 : Fr h h97 (fun j => j = 102 ∨ j = 103) := FR_h90.zup e_h97 (by first | exact rfl | exact Or.inl rfl | exact Or.inr rfl | exact ⟨by decide, by decide⟩ | decide | omega)
              clear F_h90_100 F_h90_101 F_h90_102 F_h90_103 FR_h90 e_h97
              refine WX.s1 (L' := [(0, .ref 100), (1, .int ((nI nn) + 1)), (2, .int (nI i)), (3, .int (nI (a + 1)))]) rfl rfl ?_
              rw [show ((nI nn) + 1) = nI (nn + 1) from nI_add nn 1]
              refine WX.s1 (L' := [(0, .ref 100), (1, .int (nI (nn + 1))), (2, .int ((nI i) + 1)), (3, .int (nI (a + 1)))]) rfl rfl ?_
              rw [show ((nI i) + 1) = nI (i + 1) from nI_add i 1]
              refine WX.s1 rfl rfl ?_
              refine WX.keep (y := 47) [0, 1, 2] (show ([0, 1, 2, 3] : List Nat).Nodup by decide) rfl ?_
              rw [nI_clamp (by omega)] at e_g90 e_g97
              refine ih (i + 1) (nn + 1) (insK sy (a + 1) i) h97 g97 g90 (by omega) FR_h97 F_h97_102 F_h97_103 (ins_ok hS ha (by omega) hlo hhi) (fun q hq => ?_)
              rw [e_g90, e_g97]
              by_cases z1 : q = (a + 1)
              · rw [z1, pk_us, pk_us, show insK sy (a + 1) i (a + 1) = i by unfold insK; rw [if_neg (Nat.lt_irrefl _), if_pos rfl]]; exact ⟨rfl, rfl⟩
              · rw [pk_un z1, pk_un z1]
                by_cases z2 : q < (a + 1)
                · rw [show insK sy (a + 1) i q = sy q from if_pos z2]; exact h1 q z2
                · rw [show insK sy (a + 1) i q = sy (q - 1) by unfold insK; rw [if_neg z2, if_neg z1]]; exact h2 q (by omega) (by omega)
            · skip
              have n_42 : (c i) < (c (sy a)) := Nat.lt_of_not_le (fun zz_ => c_42 ((nI_leI (a := c (sy a)) (b := c i) (by omega) (by omega)).mpr zz_))
              refine WX.s1 rfl rfl ?_
              refine WX.get1 (fs := [.ref 101, .ref 102, .ref 103, .ref 104, .ref 105]) rfl (ltN hn (by decide)) (F_hL_100) rfl ?_
              refine WX.s1 rfl rfl ?_
              refine WX.s1 rfl rfl ?_
              refine WX.get1 (fs := [.ref 101, .ref 102, .ref 103, .ref 104, .ref 105]) rfl (ltN hn (by decide)) (F_hL_100) rfl ?_
              refine WX.s1 rfl rfl ?_
              refine WX.s1 rfl rfl ?_
              refine WX.s1 (S' := [.int ((nI (a + 1)) - 1), .ref 103, .int (nI (a + 1)), .ref 103]) rfl rfl ?_
              rw [nI_pm1 (by omega), Nat.add_sub_cancel]
              refine WX.iald1 rfl (Or.inl (ltN hn (by decide))) (F_hL_103) (vp_in_nI (N := 512) (by omega) (by decide)) ?_
              rw [nI_clamp (by omega), hsa.2]
              refine WX.iastN rfl (ltN hn (by decide)) (F_hL_103) (vp_in_nI (N := 512) (by omega) (by decide)) (fun g58 h58 e_g58 e_h58 => ?_)
              try dsimp only at e_g58
              have F_h58_100 : h58 100 = .inr (4, [.ref 101, .ref 102, .ref 103, .ref 104, .ref 105]) := by rw [e_h58, va_up_neq (by decide)]; exact F_hL_100
              have F_h58_101 : h58 101 = .inl (1, 256, .inl cA) := by rw [e_h58, va_up_neq (by decide)]; exact F_hL_101
              have F_h58_102 : h58 102 = .inl (1, 256, .inl yM) := by rw [e_h58, va_up_neq (by decide)]; exact F_hL_102
              have F_h58_103 : h58 103 = .inl (1, 512, .inl g58) := by rw [e_h58]; exact va_up_eq
              have FR_h58 : Fr h h58 (fun j => j = 102 ∨ j = 103) := FR_hL.zup e_h58 (by first | exact rfl | exact Or.inl rfl | exact Or.inr rfl | exact ⟨by decide, by decide⟩ | decide | omega)
              clear F_hL_100 F_hL_101 F_hL_102 F_hL_103 FR_hL e_h58
              refine WX.s1 rfl rfl ?_
              refine WX.get1 (fs := [.ref 101, .ref 102, .ref 103, .ref 104, .ref 105]) rfl (ltN hn (by decide)) (F_h58_100) rfl ?_
              refine WX.s1 rfl rfl ?_
              refine WX.s1 rfl rfl ?_
              refine WX.get1 (fs := [.ref 101, .ref 102, .ref 103, .ref 104, .ref 105]) rfl (ltN hn (by decide)) (F_h58_100) rfl ?_
              refine WX.s1 rfl rfl ?_
              refine WX.s1 rfl rfl ?_
              refine WX.s1 (S' := [.int ((nI (a + 1)) - 1), .ref 102, .int (nI (a + 1)), .ref 102]) rfl rfl ?_
              rw [nI_pm1 (by omega), Nat.add_sub_cancel]
              refine WX.iald1 rfl (Or.inl (ltN hn (by decide))) (F_h58_102) (vp_in_nI (N := 256) (by omega) (by decide)) ?_
              rw [nI_clamp (by omega), hsa.1]
              refine WX.iastN rfl (ltN hn (by decide)) (F_h58_102) (vp_in_nI (N := 256) (by omega) (by decide)) (fun g72 h72 e_g72 e_h72 => ?_)
              try dsimp only at e_g72
              have F_h72_100 : h72 100 = .inr (4, [.ref 101, .ref 102, .ref 103, .ref 104, .ref 105]) := by rw [e_h72, va_up_neq (by decide)]; exact F_h58_100
              have F_h72_101 : h72 101 = .inl (1, 256, .inl cA) := by rw [e_h72, va_up_neq (by decide)]; exact F_h58_101
              have F_h72_102 : h72 102 = .inl (1, 256, .inl g72) := by rw [e_h72]; exact va_up_eq
              have F_h72_103 : h72 103 = .inl (1, 512, .inl g58) := by rw [e_h72, va_up_neq (by decide)]; exact F_h58_103
              have FR_h72 : Fr h h72 (fun j => j = 102 ∨ j = 103) := FR_h58.zup e_h72 (by first | exact rfl | exact Or.inl rfl | exact Or.inr rfl | exact ⟨by decide, by decide⟩ | decide | omega)
              clear F_h58_100 F_h58_101 F_h58_102 F_h58_103 FR_h58 e_h72
              refine WX.s1 (L' := [(0, .ref 100), (1, .int (nI nn)), (2, .int (nI i)), (3, .int ((nI (a + 1)) + (-1)))]) rfl rfl ?_
              refine WX.s1 rfl rfl ?_
              rw [nI_clamp (by omega)] at e_g58 e_g72
              rw [show nI (a + 1) + (-1) = nI a from (qI_dec (a + 1)).trans rfl]
              refine iha h72 g72 g58 (by omega) FR_h72 F_h72_102 F_h72_103 (fun q hq => ?_) (fun q hq hq2 => ?_) (fun q hq hq2 => ?_)
              · rw [e_g58, e_g72, pk_un (by omega), pk_un (by omega)]; exact h1 q (by omega)
              · rw [e_g58, e_g72]
                by_cases z : q = a + 1
                · rw [z, pk_us, pk_us, Nat.add_sub_cancel]; exact ⟨rfl, rfl⟩
                · rw [pk_un z, pk_un z]; exact h2 q (by omega) hq2
              · by_cases z : q = a
                · rw [z]; exact n_42
                · exact hhi q (by omega) hq2
        exact lp2 nn hL yL sL (Nat.le_refl _) FR_hL F_hL_102 F_hL_103 hA (fun q h1 h2 => absurd h1 (by omega)) (fun q h1 h2 => absurd h2 (by omega))
  exact lp 256 0 0 (fun _ => 0) h yA sA (by omega) FR_h F_h_102 F_h_103 ⟨fun q hq => absurd hq (Nat.not_lt_zero q), fun a b h1 h2 => absurd h2 (Nat.not_lt_zero b), fun x hx => absurd hx (Nat.not_lt_zero x), Nat.le_refl _⟩ (fun q hq => absurd hq (Nat.not_lt_zero q))
set_option maxRecDepth 20000 in
theorem x_knJoin {d n s : Nat} {h : Nat → aE} {c sy : Nat → Nat} {nn : Nat} {sA oA : Nat → Int32} (hn : 190 ≤ n) (S : SortI c sy nn 256) (h2n : 2 ≤ nn) (hcs : sumN c 256 ≤ 8000) (hsA : ∀ q, q < nn → sA q = nI (c (sy q))) (F_h_100 : h 100 = .inr (4, [.ref 101, .ref 102, .ref 103, .ref 104, .ref 105])) (F_h_103 : h 103 = .inl (1, 512, .inl sA)) (F_h_104 : h 104 = .inl (1, 512, .inl oA))  {Ψ : Option Value → aH → Prop} (kk : ∀ h' sA' oA' ow, Fr h h' (fun j => j = 103 ∨ j = 104) → h' 103 = .inl (1, 512, .inl sA') → h' 104 = .inl (1, 512, .inl oA') → CI c sy nn (nn - 1) nn (nn - 2) ow → (∀ k, k < 2 * nn - 2 → oA' k = nI (ow k)) → Ψ none (n, s, h')) : WO (mM (d + 1)) 48 [.ref 100, .int (nI nn)] (n, s, h) Ψ := by
  refine WO.of (Nat.le_of_ble_eq_true rfl) ?_
  have FR_h : Fr h h (fun j => j = 103 ∨ j = 104) := Fr.rf
  have hn256 := S.2.2.2
  show WX (lk tX4_join) (mM d) Ψ 0 [(0, .ref 100), (1, .int (nI nn))] [] (n, s, h)
  refine WX.s1 rfl rfl ?_
  refine WX.s1 (L' := [(0, .ref 100), (1, .int (nI nn)), (2, .int 0)]) rfl rfl ?_
  refine WX.s1 rfl rfl ?_
  refine WX.s1 (L' := [(0, .ref 100), (1, .int (nI nn)), (2, .int 0), (3, .int (nI nn))]) rfl rfl ?_
  refine WX.s1 rfl rfl ?_
  refine WX.s1 (L' := [(0, .ref 100), (1, .int (nI nn)), (2, .int 0), (3, .int (nI nn)), (4, .int (nI nn))]) rfl rfl ?_
  have F0 := F_h_100
  have lp : ∀ (t j leaf knot : Nat) (ow : Nat → Nat) (hL : Nat → aE) (sL oL : Nat → Int32), j + t = nn - 1 → Fr h hL (fun j => j = 103 ∨ j = 104) → hL 103 = .inl (1, 512, .inl sL) → hL 104 = .inl (1, 512, .inl oL) → CI c sy nn j leaf knot ow → (∀ k, k < nn + j → sL k = nI ((tN c j).2.1 (ixK sy nn k))) → (∀ q, q < leaf → oL q = nI (ow q)) → (∀ i, i < knot → oL (nn + i) = nI (ow (nn + i))) → WX (lk tX4_join) (mM d) Ψ 7 [(0, .ref 100), (1, .int (nI nn)), (2, .int (nI leaf)), (3, .int (nI (nn + knot))), (4, .int (nI (nn + j)))] [] (n, s, hL) := by
    clear F_h_100 F_h_103 F_h_104 FR_h
    intro t
    induction t with
    | zero =>
      intro j leaf knot ow hL sL oL hj FR_hL F_hL_103 F_hL_104 hC hs ho1 ho2
      have F_hL_100 : hL 100 = .inr (4, [.ref 101, .ref 102, .ref 103, .ref 104, .ref 105]) := (FR_hL _ (by decide)).trans F0
      obtain ⟨c1, c2, c3, c4, -, -, -, -⟩ := id hC
      obtain rfl : j = nn - 1 := by omega
      have hlf : leaf = nn := by omega
      have hkn : knot = nn - 2 := by omega
      refine WX.s1 rfl rfl ?_
      refine WX.s1 rfl rfl ?_
      refine WX.s1 rfl rfl ?_
      refine WX.s1 (S' := [.int (2 * (nI nn)), .int (nI (nn + (nn - 1)))]) rfl rfl ?_
      rw [show (2 * (nI nn)) = nI (2 * nn) from (Int32.ofNat_mul 2 nn).symm]
      refine WX.s1 rfl rfl ?_
      refine WX.s1 (S' := [.int ((nI (2 * nn)) - 1), .int (nI (nn + (nn - 1)))]) rfl rfl ?_
      rw [nI_pm1 (by omega)]
      refine WX.icmp rfl (fun c_14 => ?_) (fun c_14 => absurd ((nI_leI (a := 2 * nn - 1) (b := nn + (nn - 1)) (by omega) (by omega)).mpr (by omega)) c_14)
      clear c_14
      exact WX.ret0 rfl (kk hL sL oL ow FR_hL F_hL_103 F_hL_104 (by rw [hlf, hkn] at hC; exact hC) (fun k hk => by by_cases z : k < nn; exact ho1 k (by omega); have q := ho2 (k - nn) (by omega); rw [show nn + (k - nn) = k by omega] at q; exact q))
    | succ t ih =>
      intro j leaf knot ow hL sL oL hj FR_hL F_hL_103 F_hL_104 hC hs ho1 ho2
      have F_hL_100 : hL 100 = .inr (4, [.ref 101, .ref 102, .ref 103, .ref 104, .ref 105]) := (FR_hL _ (by decide)).trans F0
      obtain ⟨c1, c2, c3, c4, -, -, -, -⟩ := id hC
      have bd := tK_bd hcs (j := j)
      rw [c1] at bd
      obtain ⟨lp0, T⟩ := ti_N c j
      have fsy : ∀ q, q < nn → (tN c j).2.1 (sy q) ≤ 8000 := fun q hq => (bd (sy q) (by have := (S.1 q hq).1; omega)).1
      clear T
      refine WX.s1 rfl rfl ?_
      refine WX.s1 rfl rfl ?_
      refine WX.s1 rfl rfl ?_
      refine WX.s1 (S' := [.int (2 * (nI nn)), .int (nI (nn + j))]) rfl rfl ?_
      rw [show (2 * (nI nn)) = nI (2 * nn) from (Int32.ofNat_mul 2 nn).symm]
      refine WX.s1 rfl rfl ?_
      refine WX.s1 (S' := [.int ((nI (2 * nn)) - 1), .int (nI (nn + j))]) rfl rfl ?_
      rw [nI_pm1 (by omega)]
      refine WX.icmp rfl (fun c_14 => absurd c_14 (fun zz_ => absurd ((nI_leI (a := 2 * nn - 1) (b := nn + j) (by omega) (by omega)).mp zz_) (Nat.not_le.mpr (by omega)))) (fun c_14 => ?_)
      clear c_14
      refine WX.s1 rfl rfl ?_
      refine WX.get1 (fs := [.ref 101, .ref 102, .ref 103, .ref 104, .ref 105]) rfl (ltN hn (by decide)) (F_hL_100) rfl ?_
      refine WX.s1 rfl rfl ?_
      refine WX.s1 rfl rfl ?_
      refine WX.iastN rfl (ltN hn (by decide)) (F_hL_103) (vp_in_nI (N := 512) (by omega) (by decide)) (fun g24 h24 e_g24 e_h24 => ?_)
      try dsimp only at e_g24
      have F_h24_100 : h24 100 = .inr (4, [.ref 101, .ref 102, .ref 103, .ref 104, .ref 105]) := by rw [e_h24, va_up_neq (by decide)]; exact F_hL_100
      have F_h24_103 : h24 103 = .inl (1, 512, .inl g24) := by rw [e_h24]; exact va_up_eq
      have F_h24_104 : h24 104 = .inl (1, 512, .inl oL) := by rw [e_h24, va_up_neq (by decide)]; exact F_hL_104
      have FR_h24 : Fr h h24 (fun j => j = 103 ∨ j = 104) := FR_hL.zup e_h24 (by first | exact rfl | exact Or.inl rfl | exact Or.inr rfl | exact ⟨by decide, by decide⟩ | decide | omega)
      clear F_hL_100 F_hL_103 F_hL_104 FR_hL e_h24
      refine WX.s1 rfl rfl ?_
      refine WX.s1 (L' := [(0, .ref 100), (1, .int (nI nn)), (2, .int (nI leaf)), (3, .int (nI (nn + knot))), (4, .int (nI (nn + j))), (5, .int 0)]) rfl rfl ?_
      refine WX.s1 rfl rfl ?_
      refine WX.s1 rfl rfl ?_
      refine WX.icmp rfl (fun c_31 => absurd c_31 (by decide)) (fun c_31 => ?_)
      clear c_31
      rw [nI_clamp (by omega)] at e_g24
      have hM0 : g24 (nn + j) = nI 0 := by rw [e_g24, pk_us]; rfl
      have hS0 : ∀ k, k < nn + j → g24 k = nI ((tN c j).2.1 (ixK sy nn k)) := fun k hk => by rw [e_g24, pk_un (by omega)]; exact hs k hk
      have bk0 : knot < j → (tN c j).2.1 (256 + knot) ≤ 8000 := fun q => (bd _ (by omega)).1
      by_cases hZ0 : leaf < nn ∧ (j ≤ knot ∨ (tN c j).2.1 (sy leaf) ≤ (tN c j).2.1 (256 + knot))
      · have hg0 : gonK (tN c j).2.1 sy nn j leaf knot = leaf := if_pos hZ0
        have hx0 : ixK sy nn leaf = sy leaf := ix_lo hZ0.1
        have fv0 : ((tN c j).2.1 (sy leaf)) ≤ 8000 := fsy _ hZ0.1
        have vg0 : g24 leaf = nI ((tN c j).2.1 (sy leaf)) := by rw [hS0 leaf (by omega), hx0]
        have t65 : WX (lk tX4_join) (mM d) Ψ 65 [(0, .ref 100), (1, .int (nI nn)), (2, .int (nI leaf)), (3, .int (nI (nn + knot))), (4, .int (nI (nn + j))), (5, .int 0)] [.int 1] (n, s, h24) := by
          refine WX.s1 (L' := [(0, .ref 100), (1, .int (nI nn)), (2, .int (nI leaf)), (3, .int (nI (nn + knot))), (4, .int (nI (nn + j))), (5, .int 0), (6, .int 1)]) rfl rfl ?_
          refine WX.s1 rfl rfl ?_
          refine WX.if_ rfl (fun c_69 => absurd c_69 (by decide)) (fun c_69 => ?_)
          clear c_69
          refine WX.s1 rfl rfl ?_
          refine WX.s1 rfl rfl ?_
          refine WX.s1 (L' := [(0, .ref 100), (1, .int (nI nn)), (2, .int (nI leaf)), (3, .int (nI (nn + knot))), (4, .int (nI (nn + j))), (5, .int 0), (6, .int 1), (7, .int (nI leaf))]) rfl rfl ?_
          refine WX.s1 rfl rfl ?_
          refine WX.s1 rfl rfl ?_
          refine WX.if_ rfl (fun c_82 => absurd c_82 (by decide)) (fun c_82 => ?_)
          clear c_82
          refine WX.s1 rfl rfl ?_
          refine WX.s1 rfl rfl ?_
          refine WX.s1 (S' := [.int ((nI leaf) + 1)]) rfl rfl ?_
          rw [show nI leaf + 1 = nI (leaf + 1) from nI_add leaf 1]
          refine WX.s1 (L' := [(0, .ref 100), (1, .int (nI nn)), (2, .int (nI (leaf + 1))), (3, .int (nI (nn + knot))), (4, .int (nI (nn + j))), (5, .int 0), (6, .int 1), (7, .int (nI leaf))]) rfl rfl ?_
          refine WX.s1 rfl rfl ?_
          refine WX.s1 rfl rfl ?_
          refine WX.if_ rfl (fun c_95 => absurd c_95 (by decide)) (fun c_95 => ?_)
          clear c_95
          refine WX.s1 rfl rfl ?_
          refine WX.s1 rfl rfl ?_
          refine WX.s1 (S' := [.int ((nI (nn + knot)) + 0)]) rfl rfl ?_
          rw [nI_add0]
          refine WX.s1 (L' := [(0, .ref 100), (1, .int (nI nn)), (2, .int (nI (leaf + 1))), (3, .int (nI (nn + knot))), (4, .int (nI (nn + j))), (5, .int 0), (6, .int 1), (7, .int (nI leaf))]) rfl rfl ?_
          refine WX.s1 rfl rfl ?_
          refine WX.get1 (fs := [.ref 101, .ref 102, .ref 103, .ref 104, .ref 105]) rfl (ltN hn (by decide)) (F_h24_100) rfl ?_
          refine WX.s1 rfl rfl ?_
          refine WX.s1 rfl rfl ?_
          refine WX.iald1 rfl (Or.inl (ltN hn (by decide))) (F_h24_103) (vp_in_nI (N := 512) (by omega) (by decide)) ?_
          rw [nI_clamp (by omega), hM0]
          refine WX.s1 rfl rfl ?_
          refine WX.get1 (fs := [.ref 101, .ref 102, .ref 103, .ref 104, .ref 105]) rfl (ltN hn (by decide)) (F_h24_100) rfl ?_
          refine WX.s1 rfl rfl ?_
          refine WX.iald1 rfl (Or.inl (ltN hn (by decide))) (F_h24_103) (vp_in_nI (N := 512) (by omega) (by decide)) ?_
          rw [nI_clamp (by omega), vg0]
          refine WX.s1 (S' := [.int ((nI 0) + (nI ((tN c j).2.1 (sy leaf)))), .int (nI (nn + j)), .ref 103]) rfl rfl ?_
          rw [show ((nI 0) + (nI ((tN c j).2.1 (sy leaf)))) = nI (0 + (tN c j).2.1 (sy leaf)) from nI_add 0 ((tN c j).2.1 (sy leaf))]
          refine WX.iastN rfl (ltN hn (by decide)) (F_h24_103) (vp_in_nI (N := 512) (by omega) (by decide)) (fun g121 h121 e_g121 e_h121 => ?_)
          try dsimp only at e_g121
          have F_h121_100 : h121 100 = .inr (4, [.ref 101, .ref 102, .ref 103, .ref 104, .ref 105]) := by rw [e_h121, va_up_neq (by decide)]; exact F_h24_100
          have F_h121_103 : h121 103 = .inl (1, 512, .inl g121) := by rw [e_h121]; exact va_up_eq
          have F_h121_104 : h121 104 = .inl (1, 512, .inl oL) := by rw [e_h121, va_up_neq (by decide)]; exact F_h24_104
          have FR_h121 : Fr h h121 (fun j => j = 103 ∨ j = 104) := FR_h24.zup e_h121 (by first | exact rfl | exact Or.inl rfl | exact Or.inr rfl | exact ⟨by decide, by decide⟩ | decide | omega)
          clear F_h24_100 F_h24_103 F_h24_104 FR_h24 e_h121
          refine WX.s1 rfl rfl ?_
          refine WX.get1 (fs := [.ref 101, .ref 102, .ref 103, .ref 104, .ref 105]) rfl (ltN hn (by decide)) (F_h121_100) rfl ?_
          refine WX.s1 rfl rfl ?_
          refine WX.s1 rfl rfl ?_
          refine WX.iastN rfl (ltN hn (by decide)) (F_h121_104) (vp_in_nI (N := 512) (by omega) (by decide)) (fun g130 h130 e_g130 e_h130 => ?_)
          try dsimp only at e_g130
          have F_h130_100 : h130 100 = .inr (4, [.ref 101, .ref 102, .ref 103, .ref 104, .ref 105]) := by rw [e_h130, va_up_neq (by decide)]; exact F_h121_100
          have F_h130_103 : h130 103 = .inl (1, 512, .inl g121) := by rw [e_h130, va_up_neq (by decide)]; exact F_h121_103
          have F_h130_104 : h130 104 = .inl (1, 512, .inl g130) := by rw [e_h130]; exact va_up_eq
          have FR_h130 : Fr h h130 (fun j => j = 103 ∨ j = 104) := FR_h121.zup e_h130 (by first | exact rfl | exact Or.inl rfl | exact Or.inr rfl | exact ⟨by decide, by decide⟩ | decide | omega)
          clear F_h121_100 F_h121_103 F_h121_104 FR_h121 e_h130
          refine WX.s1 (L' := [(0, .ref 100), (1, .int (nI nn)), (2, .int (nI (leaf + 1))), (3, .int (nI (nn + knot))), (4, .int (nI (nn + j))), (5, .int (0 + 1)), (6, .int 1), (7, .int (nI leaf))]) rfl rfl ?_
          rw [show ((0 : Int32) + 1) = 1 from rfl]
          refine WX.keep (y := 48) [0, 1, 2, 3, 4, 5] (show ([0, 1, 2, 3, 4, 5, 6, 7] : List Nat).Nodup by decide) rfl ?_
          rw [nI_clamp (by omega)] at e_g121 e_g130
          have hM1 : g121 (nn + j) = nI (0 + ((tN c j).2.1 (sy leaf))) := by rw [e_g121, pk_us]
          have hS1 : ∀ k, k < nn + j → g121 k = nI ((tN c j).2.1 (ixK sy nn k)) := fun k hk => by rw [e_g121, pk_un (by omega)]; exact hS0 k hk
          refine WX.s1 rfl rfl ?_
          refine WX.s1 rfl rfl ?_
          refine WX.s1 rfl rfl ?_
          refine WX.icmp rfl (fun c_31 => absurd c_31 (by decide)) (fun c_31 => ?_)
          clear c_31
          have bk1 : knot < j → (tN c j).2.1 (256 + knot) ≤ 8000 := fun q => (bd _ (by omega)).1
          by_cases hZ1 : (leaf + 1) < nn ∧ (j ≤ knot ∨ (tN c j).2.1 (sy (leaf + 1)) ≤ (tN c j).2.1 (256 + knot))
          · have hg1 : gonK (tN c j).2.1 sy nn j (leaf + 1) knot = (leaf + 1) := if_pos hZ1
            have hx1 : ixK sy nn (leaf + 1) = sy (leaf + 1) := ix_lo hZ1.1
            have fv1 : ((tN c j).2.1 (sy (leaf + 1))) ≤ 8000 := fsy _ hZ1.1
            have vg1 : g121 (leaf + 1) = nI ((tN c j).2.1 (sy (leaf + 1))) := by rw [hS1 (leaf + 1) (by omega), hx1]
            have t65 : WX (lk tX4_join) (mM d) Ψ 65 [(0, .ref 100), (1, .int (nI nn)), (2, .int (nI (leaf + 1))), (3, .int (nI (nn + knot))), (4, .int (nI (nn + j))), (5, .int 1)] [.int 1] (n, s, h130) := by
              refine WX.s1 (L' := [(0, .ref 100), (1, .int (nI nn)), (2, .int (nI (leaf + 1))), (3, .int (nI (nn + knot))), (4, .int (nI (nn + j))), (5, .int 1), (6, .int 1)]) rfl rfl ?_
              refine WX.s1 rfl rfl ?_
              refine WX.if_ rfl (fun c_69 => absurd c_69 (by decide)) (fun c_69 => ?_)
              clear c_69
              refine WX.s1 rfl rfl ?_
              refine WX.s1 rfl rfl ?_
              refine WX.s1 (L' := [(0, .ref 100), (1, .int (nI nn)), (2, .int (nI (leaf + 1))), (3, .int (nI (nn + knot))), (4, .int (nI (nn + j))), (5, .int 1), (6, .int 1), (7, .int (nI (leaf + 1)))]) rfl rfl ?_
              refine WX.s1 rfl rfl ?_
              refine WX.s1 rfl rfl ?_
              refine WX.if_ rfl (fun c_82 => absurd c_82 (by decide)) (fun c_82 => ?_)
              clear c_82
              refine WX.s1 rfl rfl ?_
              refine WX.s1 rfl rfl ?_
              refine WX.s1 (S' := [.int ((nI (leaf + 1)) + 1)]) rfl rfl ?_
              rw [show nI (leaf + 1) + 1 = nI ((leaf + 1) + 1) from nI_add (leaf + 1) 1]
              refine WX.s1 (L' := [(0, .ref 100), (1, .int (nI nn)), (2, .int (nI ((leaf + 1) + 1))), (3, .int (nI (nn + knot))), (4, .int (nI (nn + j))), (5, .int 1), (6, .int 1), (7, .int (nI (leaf + 1)))]) rfl rfl ?_
              refine WX.s1 rfl rfl ?_
              refine WX.s1 rfl rfl ?_
              refine WX.if_ rfl (fun c_95 => absurd c_95 (by decide)) (fun c_95 => ?_)
              clear c_95
              refine WX.s1 rfl rfl ?_
              refine WX.s1 rfl rfl ?_
              refine WX.s1 (S' := [.int ((nI (nn + knot)) + 0)]) rfl rfl ?_
              rw [nI_add0]
              refine WX.s1 (L' := [(0, .ref 100), (1, .int (nI nn)), (2, .int (nI ((leaf + 1) + 1))), (3, .int (nI (nn + knot))), (4, .int (nI (nn + j))), (5, .int 1), (6, .int 1), (7, .int (nI (leaf + 1)))]) rfl rfl ?_
              refine WX.s1 rfl rfl ?_
              refine WX.get1 (fs := [.ref 101, .ref 102, .ref 103, .ref 104, .ref 105]) rfl (ltN hn (by decide)) (F_h130_100) rfl ?_
              refine WX.s1 rfl rfl ?_
              refine WX.s1 rfl rfl ?_
              refine WX.iald1 rfl (Or.inl (ltN hn (by decide))) (F_h130_103) (vp_in_nI (N := 512) (by omega) (by decide)) ?_
              rw [nI_clamp (by omega), hM1]
              refine WX.s1 rfl rfl ?_
              refine WX.get1 (fs := [.ref 101, .ref 102, .ref 103, .ref 104, .ref 105]) rfl (ltN hn (by decide)) (F_h130_100) rfl ?_
              refine WX.s1 rfl rfl ?_
              refine WX.iald1 rfl (Or.inl (ltN hn (by decide))) (F_h130_103) (vp_in_nI (N := 512) (by omega) (by decide)) ?_
              rw [nI_clamp (by omega), vg1]
              refine WX.s1 (S' := [.int ((nI (0 + ((tN c j).2.1 (sy leaf)))) + (nI ((tN c j).2.1 (sy (leaf + 1))))), .int (nI (nn + j)), .ref 103]) rfl rfl ?_
              rw [show ((nI (0 + ((tN c j).2.1 (sy leaf)))) + (nI ((tN c j).2.1 (sy (leaf + 1))))) = nI (0 + ((tN c j).2.1 (sy leaf)) + ((tN c j).2.1 (sy (leaf + 1)))) from nI_add (0 + ((tN c j).2.1 (sy leaf))) ((tN c j).2.1 (sy (leaf + 1)))]
              refine WX.iastN rfl (ltN hn (by decide)) (F_h130_103) (vp_in_nI (N := 512) (by omega) (by decide)) (fun g121x2 h121x2 e_g121x2 e_h121x2 => ?_)
              try dsimp only at e_g121x2
              have F_h121x2_100 : h121x2 100 = .inr (4, [.ref 101, .ref 102, .ref 103, .ref 104, .ref 105]) := by rw [e_h121x2, va_up_neq (by decide)]; exact F_h130_100
              have F_h121x2_103 : h121x2 103 = .inl (1, 512, .inl g121x2) := by rw [e_h121x2]; exact va_up_eq
              have F_h121x2_104 : h121x2 104 = .inl (1, 512, .inl g130) := by rw [e_h121x2, va_up_neq (by decide)]; exact F_h130_104
              have FR_h121x2 : Fr h h121x2 (fun j => j = 103 ∨ j = 104) := FR_h130.zup e_h121x2 (by first | exact rfl | exact Or.inl rfl | exact Or.inr rfl | exact ⟨by decide, by decide⟩ | decide | omega)
              clear F_h130_100 F_h130_103 F_h130_104 FR_h130 e_h121x2
              refine WX.s1 rfl rfl ?_
              refine WX.get1 (fs := [.ref 101, .ref 102, .ref 103, .ref 104, .ref 105]) rfl (ltN hn (by decide)) (F_h121x2_100) rfl ?_
              refine WX.s1 rfl rfl ?_
              refine WX.s1 rfl rfl ?_
              refine WX.iastN rfl (ltN hn (by decide)) (F_h121x2_104) (vp_in_nI (N := 512) (by omega) (by decide)) (fun g130x2 h130x2 e_g130x2 e_h130x2 => ?_)
              try dsimp only at e_g130x2
              have F_h130x2_100 : h130x2 100 = .inr (4, [.ref 101, .ref 102, .ref 103, .ref 104, .ref 105]) := by rw [e_h130x2, va_up_neq (by decide)]; exact F_h121x2_100
              have F_h130x2_103 : h130x2 103 = .inl (1, 512, .inl g121x2) := by rw [e_h130x2, va_up_neq (by decide)]; exact F_h121x2_103
              have F_h130x2_104 : h130x2 104 = .inl (1, 512, .inl g130x2) := by rw [e_h130x2]; exact va_up_eq
              have FR_h130x2 : Fr h h130x2 (fun j => j = 103 ∨ j = 104) := FR_h121x2.zup e_h130x2 (by first | exact rfl | exact Or.inl rfl | exact Or.inr rfl | exact ⟨by decide, by decide⟩ | decide | omega)
              clear F_h121x2_100 F_h121x2_103 F_h121x2_104 FR_h121x2 e_h130x2
              refine WX.s1 (L' := [(0, .ref 100), (1, .int (nI nn)), (2, .int (nI ((leaf + 1) + 1))), (3, .int (nI (nn + knot))), (4, .int (nI (nn + j))), (5, .int (1 + 1)), (6, .int 1), (7, .int (nI (leaf + 1)))]) rfl rfl ?_
              rw [show ((1 : Int32) + 1) = 2 from rfl]
              refine WX.keep (y := 48) [0, 1, 2, 3, 4, 5] (show ([0, 1, 2, 3, 4, 5, 6, 7] : List Nat).Nodup by decide) rfl ?_
              rw [nI_clamp (by omega)] at e_g121x2 e_g130x2
              have hM2 : g121x2 (nn + j) = nI ((0 + ((tN c j).2.1 (sy leaf))) + ((tN c j).2.1 (sy (leaf + 1)))) := by rw [e_g121x2, pk_us]
              have hS2 : ∀ k, k < nn + j → g121x2 k = nI ((tN c j).2.1 (ixK sy nn k)) := fun k hk => by rw [e_g121x2, pk_un (by omega)]; exact hS1 k hk
              refine WX.s1 rfl rfl ?_
              refine WX.s1 rfl rfl ?_
              refine WX.s1 rfl rfl ?_
              refine WX.icmp rfl (fun c_31 => ?_) (fun c_31 => absurd (by decide) c_31)
              clear c_31
              refine WX.s1 (L' := [(0, .ref 100), (1, .int (nI nn)), (2, .int (nI ((leaf + 1) + 1))), (3, .int (nI (nn + knot))), (4, .int ((nI (nn + j)) + 1)), (5, .int 2)]) rfl rfl ?_
              rw [show ((nI (nn + j)) + 1) = nI (nn + j + 1) from nI_add (nn + j) 1]
              refine WX.s1 rfl rfl ?_
              refine WX.keep (y := 48) [0, 1, 2, 3, 4] (show ([0, 1, 2, 3, 4, 5] : List Nat).Nodup by decide) rfl ?_
              have el : lfK nn leaf leaf = (leaf + 1) := if_pos (by omega)
              have ek : knK nn knot leaf = knot := if_pos (by omega)
              have el2 : lfK nn (leaf + 1) (leaf + 1) = ((leaf + 1) + 1) := if_pos (by omega)
              have ek2 : knK nn knot (leaf + 1) = knot := if_pos (by omega)
              have st9 := ci_step S hC (by omega) (g1 := leaf) (g2 := (leaf + 1)) hg0.symm (by rw [el, ek]; exact hg1.symm)
              rw [el, ek, el2, ek2] at st9
              obtain ⟨hC9, hF9⟩ := st9
              refine ih (j + 1) ((leaf + 1) + 1) knot (updN (updN ow leaf (nn + j)) (leaf + 1) (nn + j)) h130x2 g121x2 g130x2 (by omega) FR_h130x2 F_h130x2_103 F_h130x2_104 hC9 (fun k hk => ?_) (fun q hq => ?_) (fun i hi => ?_)
              · rw [hF9]
                by_cases z : k = nn + j
                · rw [z, hM2, hx0, hx1, show ixK sy nn (nn + j) = 256 + j from (ix_hi (by omega)).trans (by omega), updN_s]
                  exact congrArg nI (by omega)
                · rw [hS2 k (by omega), updN_n]
                  by_cases y : k < nn
                  · rw [ix_lo y]; have := (S.1 k y).1; omega
                  · rw [ix_hi (by omega)]; omega
              · rw [e_g130x2, e_g130]
                by_cases z1 : q = (leaf + 1)
                · rw [z1, pk_us, updN_s]
                · rw [pk_un z1, updN_n z1]
                  by_cases z0 : q = leaf
                  · rw [z0, pk_us, updN_s]
                  · rw [pk_un z0, updN_n z0]; exact ho1 q (by omega)
              · rw [e_g130x2, e_g130]
                by_cases z1 : (nn + i) = (leaf + 1)
                · rw [z1, pk_us, updN_s]
                · rw [pk_un z1, updN_n z1]
                  by_cases z0 : (nn + i) = leaf
                  · rw [z0, pk_us, updN_s]
                  · rw [pk_un z0, updN_n z0]; exact ho2 i (by omega)
            refine WX.s1 rfl rfl ?_
            refine WX.s1 rfl rfl ?_
            refine WX.icmp rfl (fun c_36 => absurd c_36 (fun zz_ => absurd ((nI_leI (a := nn) (b := leaf + 1) (by omega) (by omega)).mp zz_) (Nat.not_le.mpr (by omega)))) (fun c_36 => ?_)
            clear c_36
            refine WX.s1 rfl rfl ?_
            refine WX.s1 rfl rfl ?_
            refine WX.icmp rfl (fun c_42 => ?_) (fun c_42 => ?_)
            · skip
              have n_42 : (nn + j) ≤ (nn + knot) := (nI_leI (a := nn + j) (b := nn + knot) (by omega) (by omega)).mp c_42
              refine WX.s1 rfl rfl ?_
              refine WX.s1 rfl rfl ?_
              exact t65
            · skip
              have n_42 : (nn + knot) < (nn + j) := Nat.lt_of_not_le (fun zz_ => c_42 ((nI_leI (a := nn + j) (b := nn + knot) (by omega) (by omega)).mpr zz_))
              refine WX.s1 rfl rfl ?_
              refine WX.get1 (fs := [.ref 101, .ref 102, .ref 103, .ref 104, .ref 105]) rfl (ltN hn (by decide)) (F_h130_100) rfl ?_
              refine WX.s1 rfl rfl ?_
              refine WX.iald1 rfl (Or.inl (ltN hn (by decide))) (F_h130_103) (vp_in_nI (N := 512) (by omega) (by decide)) ?_
              rw [nI_clamp (by omega), hS1 (leaf + 1) (by omega), ix_lo hZ1.1]
              refine WX.s1 rfl rfl ?_
              refine WX.get1 (fs := [.ref 101, .ref 102, .ref 103, .ref 104, .ref 105]) rfl (ltN hn (by decide)) (F_h130_100) rfl ?_
              refine WX.s1 rfl rfl ?_
              refine WX.iald1 rfl (Or.inl (ltN hn (by decide))) (F_h130_103) (vp_in_nI (N := 512) (by omega) (by decide)) ?_
              rw [nI_clamp (by omega), hS1 (nn + knot) (by omega), ix_hi (by omega), show nn + knot - nn = knot by omega]
              have q57 : (tN c j).2.1 (sy (leaf + 1)) ≤ (tN c j).2.1 (256 + knot) := by rcases hZ1.2 with y | y; omega; exact y
              have b57 := bk1 (by omega)
              have b58 := fsy _ hZ1.1
              refine WX.icmp rfl (fun c_57 => absurd c_57 (fun zz_ => absurd ((nI_ltI (a := (tN c j).2.1 (256 + knot)) (b := (tN c j).2.1 (sy (leaf + 1))) (by omega) (by omega)).mp zz_) (Nat.not_lt.mpr (by omega)))) (fun c_57 => ?_)
              clear c_57
              refine WX.s1 rfl rfl ?_
              refine WX.s1 rfl rfl ?_
              exact t65
          · have hg1 : gonK (tN c j).2.1 sy nn j (leaf + 1) knot = nn + knot := if_neg hZ1
            have hk1 : knot < j := by apply Classical.byContradiction; intro y; exact hZ1 ⟨by omega, Or.inl (by omega)⟩
            have hx1 : ixK sy nn (nn + knot) = 256 + knot := by rw [ix_hi (by omega)]; omega
            have fv1 : ((tN c j).2.1 (256 + knot)) ≤ 8000 := bk1 hk1
            have vg1 : g121 (nn + knot) = nI ((tN c j).2.1 (256 + knot)) := by rw [hS1 (nn + knot) (by omega), hx1]
            have t65 : WX (lk tX4_join) (mM d) Ψ 65 [(0, .ref 100), (1, .int (nI nn)), (2, .int (nI (leaf + 1))), (3, .int (nI (nn + knot))), (4, .int (nI (nn + j))), (5, .int 1)] [.int 0] (n, s, h130) := by
              refine WX.s1 (L' := [(0, .ref 100), (1, .int (nI nn)), (2, .int (nI (leaf + 1))), (3, .int (nI (nn + knot))), (4, .int (nI (nn + j))), (5, .int 1), (6, .int 0)]) rfl rfl ?_
              refine WX.s1 rfl rfl ?_
              refine WX.if_ rfl (fun c_69 => ?_) (fun c_69 => absurd (by decide) c_69)
              clear c_69
              refine WX.s1 rfl rfl ?_
              refine WX.s1 (L' := [(0, .ref 100), (1, .int (nI nn)), (2, .int (nI (leaf + 1))), (3, .int (nI (nn + knot))), (4, .int (nI (nn + j))), (5, .int 1), (6, .int 0), (7, .int (nI (nn + knot)))]) rfl rfl ?_
              refine WX.s1 rfl rfl ?_
              refine WX.s1 rfl rfl ?_
              refine WX.if_ rfl (fun c_82 => ?_) (fun c_82 => absurd (by decide) c_82)
              clear c_82
              refine WX.s1 rfl rfl ?_
              refine WX.s1 (S' := [.int ((nI (leaf + 1)) + 0)]) rfl rfl ?_
              rw [nI_add0]
              refine WX.s1 (L' := [(0, .ref 100), (1, .int (nI nn)), (2, .int (nI (leaf + 1))), (3, .int (nI (nn + knot))), (4, .int (nI (nn + j))), (5, .int 1), (6, .int 0), (7, .int (nI (nn + knot)))]) rfl rfl ?_
              refine WX.s1 rfl rfl ?_
              refine WX.s1 rfl rfl ?_
              refine WX.if_ rfl (fun c_95 => ?_) (fun c_95 => absurd (by decide) c_95)
              clear c_95
              refine WX.s1 rfl rfl ?_
              refine WX.s1 (S' := [.int ((nI (nn + knot)) + 1)]) rfl rfl ?_
              rw [show nI (nn + knot) + 1 = nI (nn + (knot + 1)) from (nI_add _ 1).trans (congrArg nI (by omega))]
              refine WX.s1 (L' := [(0, .ref 100), (1, .int (nI nn)), (2, .int (nI (leaf + 1))), (3, .int (nI (nn + (knot + 1)))), (4, .int (nI (nn + j))), (5, .int 1), (6, .int 0), (7, .int (nI (nn + knot)))]) rfl rfl ?_
              refine WX.s1 rfl rfl ?_
              refine WX.get1 (fs := [.ref 101, .ref 102, .ref 103, .ref 104, .ref 105]) rfl (ltN hn (by decide)) (F_h130_100) rfl ?_
              refine WX.s1 rfl rfl ?_
              refine WX.s1 rfl rfl ?_
              refine WX.iald1 rfl (Or.inl (ltN hn (by decide))) (F_h130_103) (vp_in_nI (N := 512) (by omega) (by decide)) ?_
              rw [nI_clamp (by omega), hM1]
              refine WX.s1 rfl rfl ?_
              refine WX.get1 (fs := [.ref 101, .ref 102, .ref 103, .ref 104, .ref 105]) rfl (ltN hn (by decide)) (F_h130_100) rfl ?_
              refine WX.s1 rfl rfl ?_
              refine WX.iald1 rfl (Or.inl (ltN hn (by decide))) (F_h130_103) (vp_in_nI (N := 512) (by omega) (by decide)) ?_
              rw [nI_clamp (by omega), vg1]
              refine WX.s1 (S' := [.int ((nI (0 + ((tN c j).2.1 (sy leaf)))) + (nI ((tN c j).2.1 (256 + knot)))), .int (nI (nn + j)), .ref 103]) rfl rfl ?_
              rw [show ((nI (0 + ((tN c j).2.1 (sy leaf)))) + (nI ((tN c j).2.1 (256 + knot)))) = nI (0 + ((tN c j).2.1 (sy leaf)) + ((tN c j).2.1 (256 + knot))) from nI_add (0 + ((tN c j).2.1 (sy leaf))) ((tN c j).2.1 (256 + knot))]
              refine WX.iastN rfl (ltN hn (by decide)) (F_h130_103) (vp_in_nI (N := 512) (by omega) (by decide)) (fun g121x3 h121x3 e_g121x3 e_h121x3 => ?_)
              try dsimp only at e_g121x3
              have F_h121x3_100 : h121x3 100 = .inr (4, [.ref 101, .ref 102, .ref 103, .ref 104, .ref 105]) := by rw [e_h121x3, va_up_neq (by decide)]; exact F_h130_100
              have F_h121x3_103 : h121x3 103 = .inl (1, 512, .inl g121x3) := by rw [e_h121x3]; exact va_up_eq
              have F_h121x3_104 : h121x3 104 = .inl (1, 512, .inl g130) := by rw [e_h121x3, va_up_neq (by decide)]; exact F_h130_104
              have FR_h121x3 : Fr h h121x3 (fun j => j = 103 ∨ j = 104) := FR_h130.zup e_h121x3 (by first | exact rfl | exact Or.inl rfl | exact Or.inr rfl | exact ⟨by decide, by decide⟩ | decide | omega)
              clear F_h130_100 F_h130_103 F_h130_104 FR_h130 e_h121x3
              refine WX.s1 rfl rfl ?_
              refine WX.get1 (fs := [.ref 101, .ref 102, .ref 103, .ref 104, .ref 105]) rfl (ltN hn (by decide)) (F_h121x3_100) rfl ?_
              refine WX.s1 rfl rfl ?_
              refine WX.s1 rfl rfl ?_
              refine WX.iastN rfl (ltN hn (by decide)) (F_h121x3_104) (vp_in_nI (N := 512) (by omega) (by decide)) (fun g130x3 h130x3 e_g130x3 e_h130x3 => ?_)
              try dsimp only at e_g130x3
              have F_h130x3_100 : h130x3 100 = .inr (4, [.ref 101, .ref 102, .ref 103, .ref 104, .ref 105]) := by rw [e_h130x3, va_up_neq (by decide)]; exact F_h121x3_100
              have F_h130x3_103 : h130x3 103 = .inl (1, 512, .inl g121x3) := by rw [e_h130x3, va_up_neq (by decide)]; exact F_h121x3_103
              have F_h130x3_104 : h130x3 104 = .inl (1, 512, .inl g130x3) := by rw [e_h130x3]; exact va_up_eq
              have FR_h130x3 : Fr h h130x3 (fun j => j = 103 ∨ j = 104) := FR_h121x3.zup e_h130x3 (by first | exact rfl | exact Or.inl rfl | exact Or.inr rfl | exact ⟨by decide, by decide⟩ | decide | omega)
              clear F_h121x3_100 F_h121x3_103 F_h121x3_104 FR_h121x3 e_h130x3
              refine WX.s1 (L' := [(0, .ref 100), (1, .int (nI nn)), (2, .int (nI (leaf + 1))), (3, .int (nI (nn + (knot + 1)))), (4, .int (nI (nn + j))), (5, .int (1 + 1)), (6, .int 0), (7, .int (nI (nn + knot)))]) rfl rfl ?_
              rw [show ((1 : Int32) + 1) = 2 from rfl]
              refine WX.keep (y := 48) [0, 1, 2, 3, 4, 5] (show ([0, 1, 2, 3, 4, 5, 6, 7] : List Nat).Nodup by decide) rfl ?_
              rw [nI_clamp (by omega)] at e_g121x3 e_g130x3
              have hM2 : g121x3 (nn + j) = nI ((0 + ((tN c j).2.1 (sy leaf))) + ((tN c j).2.1 (256 + knot))) := by rw [e_g121x3, pk_us]
              have hS2 : ∀ k, k < nn + j → g121x3 k = nI ((tN c j).2.1 (ixK sy nn k)) := fun k hk => by rw [e_g121x3, pk_un (by omega)]; exact hS1 k hk
              refine WX.s1 rfl rfl ?_
              refine WX.s1 rfl rfl ?_
              refine WX.s1 rfl rfl ?_
              refine WX.icmp rfl (fun c_31 => ?_) (fun c_31 => absurd (by decide) c_31)
              clear c_31
              refine WX.s1 (L' := [(0, .ref 100), (1, .int (nI nn)), (2, .int (nI (leaf + 1))), (3, .int (nI (nn + (knot + 1)))), (4, .int ((nI (nn + j)) + 1)), (5, .int 2)]) rfl rfl ?_
              rw [show ((nI (nn + j)) + 1) = nI (nn + j + 1) from nI_add (nn + j) 1]
              refine WX.s1 rfl rfl ?_
              refine WX.keep (y := 48) [0, 1, 2, 3, 4] (show ([0, 1, 2, 3, 4, 5] : List Nat).Nodup by decide) rfl ?_
              have el : lfK nn leaf leaf = (leaf + 1) := if_pos (by omega)
              have ek : knK nn knot leaf = knot := if_pos (by omega)
              have el2 : lfK nn (leaf + 1) (nn + knot) = (leaf + 1) := if_neg (by omega)
              have ek2 : knK nn knot (nn + knot) = (knot + 1) := if_neg (by omega)
              have st9 := ci_step S hC (by omega) (g1 := leaf) (g2 := (nn + knot)) hg0.symm (by rw [el, ek]; exact hg1.symm)
              rw [el, ek, el2, ek2] at st9
              obtain ⟨hC9, hF9⟩ := st9
              refine ih (j + 1) (leaf + 1) (knot + 1) (updN (updN ow leaf (nn + j)) (nn + knot) (nn + j)) h130x3 g121x3 g130x3 (by omega) FR_h130x3 F_h130x3_103 F_h130x3_104 hC9 (fun k hk => ?_) (fun q hq => ?_) (fun i hi => ?_)
              · rw [hF9]
                by_cases z : k = nn + j
                · rw [z, hM2, hx0, hx1, show ixK sy nn (nn + j) = 256 + j from (ix_hi (by omega)).trans (by omega), updN_s]
                  exact congrArg nI (by omega)
                · rw [hS2 k (by omega), updN_n]
                  by_cases y : k < nn
                  · rw [ix_lo y]; have := (S.1 k y).1; omega
                  · rw [ix_hi (by omega)]; omega
              · rw [e_g130x3, e_g130]
                by_cases z1 : q = (nn + knot)
                · rw [z1, pk_us, updN_s]
                · rw [pk_un z1, updN_n z1]
                  by_cases z0 : q = leaf
                  · rw [z0, pk_us, updN_s]
                  · rw [pk_un z0, updN_n z0]; exact ho1 q (by omega)
              · rw [e_g130x3, e_g130]
                by_cases z1 : (nn + i) = (nn + knot)
                · rw [z1, pk_us, updN_s]
                · rw [pk_un z1, updN_n z1]
                  by_cases z0 : (nn + i) = leaf
                  · rw [z0, pk_us, updN_s]
                  · rw [pk_un z0, updN_n z0]; exact ho2 i (by omega)
            refine WX.s1 rfl rfl ?_
            refine WX.s1 rfl rfl ?_
            refine WX.icmp rfl (fun c_36 => ?_) (fun c_36 => ?_)
            · skip
              have n_36 : nn ≤ (leaf + 1) := (nI_leI (a := nn) (b := leaf + 1) (by omega) (by omega)).mp c_36
              refine WX.s1 rfl rfl ?_
              exact t65
            · skip
              have n_36 : (leaf + 1) < nn := Nat.lt_of_not_le (fun zz_ => c_36 ((nI_leI (a := nn) (b := leaf + 1) (by omega) (by omega)).mpr zz_))
              refine WX.s1 rfl rfl ?_
              refine WX.s1 rfl rfl ?_
              refine WX.icmp rfl (fun c_42 => absurd c_42 (fun zz_ => absurd ((nI_leI (a := nn + j) (b := nn + knot) (by omega) (by omega)).mp zz_) (Nat.not_le.mpr (by omega)))) (fun c_42 => ?_)
              clear c_42
              refine WX.s1 rfl rfl ?_
              refine WX.get1 (fs := [.ref 101, .ref 102, .ref 103, .ref 104, .ref 105]) rfl (ltN hn (by decide)) (F_h130_100) rfl ?_
              refine WX.s1 rfl rfl ?_
              refine WX.iald1 rfl (Or.inl (ltN hn (by decide))) (F_h130_103) (vp_in_nI (N := 512) (by omega) (by decide)) ?_
              rw [nI_clamp (by omega), hS1 (leaf + 1) (by omega), ix_lo n_36]
              refine WX.s1 rfl rfl ?_
              refine WX.get1 (fs := [.ref 101, .ref 102, .ref 103, .ref 104, .ref 105]) rfl (ltN hn (by decide)) (F_h130_100) rfl ?_
              refine WX.s1 rfl rfl ?_
              refine WX.iald1 rfl (Or.inl (ltN hn (by decide))) (F_h130_103) (vp_in_nI (N := 512) (by omega) (by decide)) ?_
              rw [nI_clamp (by omega), hS1 (nn + knot) (by omega), ix_hi (by omega), show nn + knot - nn = knot by omega]
              have q57 : (tN c j).2.1 (256 + knot) < (tN c j).2.1 (sy (leaf + 1)) := by apply Classical.byContradiction; intro y; exact hZ1 ⟨n_36, Or.inr (by omega)⟩
              have b57 := bk1 hk1
              have b58 := fsy _ n_36
              refine WX.icmp rfl (fun c_57 => ?_) (fun c_57 => absurd ((nI_ltI (a := (tN c j).2.1 (256 + knot)) (b := (tN c j).2.1 (sy (leaf + 1))) (by omega) (by omega)).mpr (by omega)) c_57)
              clear c_57
              refine WX.s1 rfl rfl ?_
              exact t65
        refine WX.s1 rfl rfl ?_
        refine WX.s1 rfl rfl ?_
        refine WX.icmp rfl (fun c_36 => absurd c_36 (fun zz_ => absurd ((nI_leI (a := nn) (b := leaf) (by omega) (by omega)).mp zz_) (Nat.not_le.mpr (by omega)))) (fun c_36 => ?_)
        clear c_36
        refine WX.s1 rfl rfl ?_
        refine WX.s1 rfl rfl ?_
        refine WX.icmp rfl (fun c_42 => ?_) (fun c_42 => ?_)
        · skip
          have n_42 : (nn + j) ≤ (nn + knot) := (nI_leI (a := nn + j) (b := nn + knot) (by omega) (by omega)).mp c_42
          refine WX.s1 rfl rfl ?_
          refine WX.s1 rfl rfl ?_
          exact t65
        · skip
          have n_42 : (nn + knot) < (nn + j) := Nat.lt_of_not_le (fun zz_ => c_42 ((nI_leI (a := nn + j) (b := nn + knot) (by omega) (by omega)).mpr zz_))
          refine WX.s1 rfl rfl ?_
          refine WX.get1 (fs := [.ref 101, .ref 102, .ref 103, .ref 104, .ref 105]) rfl (ltN hn (by decide)) (F_h24_100) rfl ?_
          refine WX.s1 rfl rfl ?_
          refine WX.iald1 rfl (Or.inl (ltN hn (by decide))) (F_h24_103) (vp_in_nI (N := 512) (by omega) (by decide)) ?_
          rw [nI_clamp (by omega), hS0 leaf (by omega), ix_lo hZ0.1]
          refine WX.s1 rfl rfl ?_
          refine WX.get1 (fs := [.ref 101, .ref 102, .ref 103, .ref 104, .ref 105]) rfl (ltN hn (by decide)) (F_h24_100) rfl ?_
          refine WX.s1 rfl rfl ?_
          refine WX.iald1 rfl (Or.inl (ltN hn (by decide))) (F_h24_103) (vp_in_nI (N := 512) (by omega) (by decide)) ?_
          rw [nI_clamp (by omega), hS0 (nn + knot) (by omega), ix_hi (by omega), show nn + knot - nn = knot by omega]
          have q57 : (tN c j).2.1 (sy leaf) ≤ (tN c j).2.1 (256 + knot) := by rcases hZ0.2 with y | y; omega; exact y
          have b57 := bk0 (by omega)
          have b58 := fsy _ hZ0.1
          refine WX.icmp rfl (fun c_57 => absurd c_57 (fun zz_ => absurd ((nI_ltI (a := (tN c j).2.1 (256 + knot)) (b := (tN c j).2.1 (sy leaf)) (by omega) (by omega)).mp zz_) (Nat.not_lt.mpr (by omega)))) (fun c_57 => ?_)
          clear c_57
          refine WX.s1 rfl rfl ?_
          refine WX.s1 rfl rfl ?_
          exact t65
      · have hg0 : gonK (tN c j).2.1 sy nn j leaf knot = nn + knot := if_neg hZ0
        have hk0 : knot < j := by apply Classical.byContradiction; intro y; exact hZ0 ⟨by omega, Or.inl (by omega)⟩
        have hx0 : ixK sy nn (nn + knot) = 256 + knot := by rw [ix_hi (by omega)]; omega
        have fv0 : ((tN c j).2.1 (256 + knot)) ≤ 8000 := bk0 hk0
        have vg0 : g24 (nn + knot) = nI ((tN c j).2.1 (256 + knot)) := by rw [hS0 (nn + knot) (by omega), hx0]
        have t65 : WX (lk tX4_join) (mM d) Ψ 65 [(0, .ref 100), (1, .int (nI nn)), (2, .int (nI leaf)), (3, .int (nI (nn + knot))), (4, .int (nI (nn + j))), (5, .int 0)] [.int 0] (n, s, h24) := by
          refine WX.s1 (L' := [(0, .ref 100), (1, .int (nI nn)), (2, .int (nI leaf)), (3, .int (nI (nn + knot))), (4, .int (nI (nn + j))), (5, .int 0), (6, .int 0)]) rfl rfl ?_
          refine WX.s1 rfl rfl ?_
          refine WX.if_ rfl (fun c_69 => ?_) (fun c_69 => absurd (by decide) c_69)
          clear c_69
          refine WX.s1 rfl rfl ?_
          refine WX.s1 (L' := [(0, .ref 100), (1, .int (nI nn)), (2, .int (nI leaf)), (3, .int (nI (nn + knot))), (4, .int (nI (nn + j))), (5, .int 0), (6, .int 0), (7, .int (nI (nn + knot)))]) rfl rfl ?_
          refine WX.s1 rfl rfl ?_
          refine WX.s1 rfl rfl ?_
          refine WX.if_ rfl (fun c_82 => ?_) (fun c_82 => absurd (by decide) c_82)
          clear c_82
          refine WX.s1 rfl rfl ?_
          refine WX.s1 (S' := [.int ((nI leaf) + 0)]) rfl rfl ?_
          rw [nI_add0]
          refine WX.s1 (L' := [(0, .ref 100), (1, .int (nI nn)), (2, .int (nI leaf)), (3, .int (nI (nn + knot))), (4, .int (nI (nn + j))), (5, .int 0), (6, .int 0), (7, .int (nI (nn + knot)))]) rfl rfl ?_
          refine WX.s1 rfl rfl ?_
          refine WX.s1 rfl rfl ?_
          refine WX.if_ rfl (fun c_95 => ?_) (fun c_95 => absurd (by decide) c_95)
          clear c_95
          refine WX.s1 rfl rfl ?_
          refine WX.s1 (S' := [.int ((nI (nn + knot)) + 1)]) rfl rfl ?_
          rw [show nI (nn + knot) + 1 = nI (nn + (knot + 1)) from (nI_add _ 1).trans (congrArg nI (by omega))]
          refine WX.s1 (L' := [(0, .ref 100), (1, .int (nI nn)), (2, .int (nI leaf)), (3, .int (nI (nn + (knot + 1)))), (4, .int (nI (nn + j))), (5, .int 0), (6, .int 0), (7, .int (nI (nn + knot)))]) rfl rfl ?_
          refine WX.s1 rfl rfl ?_
          refine WX.get1 (fs := [.ref 101, .ref 102, .ref 103, .ref 104, .ref 105]) rfl (ltN hn (by decide)) (F_h24_100) rfl ?_
          refine WX.s1 rfl rfl ?_
          refine WX.s1 rfl rfl ?_
          refine WX.iald1 rfl (Or.inl (ltN hn (by decide))) (F_h24_103) (vp_in_nI (N := 512) (by omega) (by decide)) ?_
          rw [nI_clamp (by omega), hM0]
          refine WX.s1 rfl rfl ?_
          refine WX.get1 (fs := [.ref 101, .ref 102, .ref 103, .ref 104, .ref 105]) rfl (ltN hn (by decide)) (F_h24_100) rfl ?_
          refine WX.s1 rfl rfl ?_
          refine WX.iald1 rfl (Or.inl (ltN hn (by decide))) (F_h24_103) (vp_in_nI (N := 512) (by omega) (by decide)) ?_
          rw [nI_clamp (by omega), vg0]
          refine WX.s1 (S' := [.int ((nI 0) + (nI ((tN c j).2.1 (256 + knot)))), .int (nI (nn + j)), .ref 103]) rfl rfl ?_
          rw [show ((nI 0) + (nI ((tN c j).2.1 (256 + knot)))) = nI (0 + ((tN c j).2.1 (256 + knot))) from nI_add 0 ((tN c j).2.1 (256 + knot))]
          refine WX.iastN rfl (ltN hn (by decide)) (F_h24_103) (vp_in_nI (N := 512) (by omega) (by decide)) (fun g121x4 h121x4 e_g121x4 e_h121x4 => ?_)
          try dsimp only at e_g121x4
          have F_h121x4_100 : h121x4 100 = .inr (4, [.ref 101, .ref 102, .ref 103, .ref 104, .ref 105]) := by rw [e_h121x4, va_up_neq (by decide)]; exact F_h24_100
          have F_h121x4_103 : h121x4 103 = .inl (1, 512, .inl g121x4) := by rw [e_h121x4]; exact va_up_eq
          have F_h121x4_104 : h121x4 104 = .inl (1, 512, .inl oL) := by rw [e_h121x4, va_up_neq (by decide)]; exact F_h24_104
          have FR_h121x4 : Fr h h121x4 (fun j => j = 103 ∨ j = 104) := FR_h24.zup e_h121x4 (by first | exact rfl | exact Or.inl rfl | exact Or.inr rfl | exact ⟨by decide, by decide⟩ | decide | omega)
          clear F_h24_100 F_h24_103 F_h24_104 FR_h24 e_h121x4
          refine WX.s1 rfl rfl ?_
          refine WX.get1 (fs := [.ref 101, .ref 102, .ref 103, .ref 104, .ref 105]) rfl (ltN hn (by decide)) (F_h121x4_100) rfl ?_
          refine WX.s1 rfl rfl ?_
          refine WX.s1 rfl rfl ?_
          refine WX.iastN rfl (ltN hn (by decide)) (F_h121x4_104) (vp_in_nI (N := 512) (by omega) (by decide)) (fun g130x4 h130x4 e_g130x4 e_h130x4 => ?_)
          try dsimp only at e_g130x4
          have F_h130x4_100 : h130x4 100 = .inr (4, [.ref 101, .ref 102, .ref 103, .ref 104, .ref 105]) := by rw [e_h130x4, va_up_neq (by decide)]; exact F_h121x4_100
          have F_h130x4_103 : h130x4 103 = .inl (1, 512, .inl g121x4) := by rw [e_h130x4, va_up_neq (by decide)]; exact F_h121x4_103
          have F_h130x4_104 : h130x4 104 = .inl (1, 512, .inl g130x4) := by rw [e_h130x4]; exact va_up_eq
          have FR_h130x4 : Fr h h130x4 (fun j => j = 103 ∨ j = 104) := FR_h121x4.zup e_h130x4 (by first | exact rfl | exact Or.inl rfl | exact Or.inr rfl | exact ⟨by decide, by decide⟩ | decide | omega)
          clear F_h121x4_100 F_h121x4_103 F_h121x4_104 FR_h121x4 e_h130x4
          refine WX.s1 (L' := [(0, .ref 100), (1, .int (nI nn)), (2, .int (nI leaf)), (3, .int (nI (nn + (knot + 1)))), (4, .int (nI (nn + j))), (5, .int (0 + 1)), (6, .int 0), (7, .int (nI (nn + knot)))]) rfl rfl ?_
          rw [show ((0 : Int32) + 1) = 1 from rfl]
          refine WX.keep (y := 48) [0, 1, 2, 3, 4, 5] (show ([0, 1, 2, 3, 4, 5, 6, 7] : List Nat).Nodup by decide) rfl ?_
          rw [nI_clamp (by omega)] at e_g121x4 e_g130x4
          have hM1 : g121x4 (nn + j) = nI (0 + ((tN c j).2.1 (256 + knot))) := by rw [e_g121x4, pk_us]
          have hS1 : ∀ k, k < nn + j → g121x4 k = nI ((tN c j).2.1 (ixK sy nn k)) := fun k hk => by rw [e_g121x4, pk_un (by omega)]; exact hS0 k hk
          refine WX.s1 rfl rfl ?_
          refine WX.s1 rfl rfl ?_
          refine WX.s1 rfl rfl ?_
          refine WX.icmp rfl (fun c_31 => absurd c_31 (by decide)) (fun c_31 => ?_)
          clear c_31
          have bk1 : (knot + 1) < j → (tN c j).2.1 (256 + (knot + 1)) ≤ 8000 := fun q => (bd _ (by omega)).1
          by_cases hZ1 : leaf < nn ∧ (j ≤ (knot + 1) ∨ (tN c j).2.1 (sy leaf) ≤ (tN c j).2.1 (256 + (knot + 1)))
          · have hg1 : gonK (tN c j).2.1 sy nn j leaf (knot + 1) = leaf := if_pos hZ1
            have hx1 : ixK sy nn leaf = sy leaf := ix_lo hZ1.1
            have fv1 : ((tN c j).2.1 (sy leaf)) ≤ 8000 := fsy _ hZ1.1
            have vg1 : g121x4 leaf = nI ((tN c j).2.1 (sy leaf)) := by rw [hS1 leaf (by omega), hx1]
            have t65 : WX (lk tX4_join) (mM d) Ψ 65 [(0, .ref 100), (1, .int (nI nn)), (2, .int (nI leaf)), (3, .int (nI (nn + (knot + 1)))), (4, .int (nI (nn + j))), (5, .int 1)] [.int 1] (n, s, h130x4) := by
              refine WX.s1 (L' := [(0, .ref 100), (1, .int (nI nn)), (2, .int (nI leaf)), (3, .int (nI (nn + (knot + 1)))), (4, .int (nI (nn + j))), (5, .int 1), (6, .int 1)]) rfl rfl ?_
              refine WX.s1 rfl rfl ?_
              refine WX.if_ rfl (fun c_69 => absurd c_69 (by decide)) (fun c_69 => ?_)
              clear c_69
              refine WX.s1 rfl rfl ?_
              refine WX.s1 rfl rfl ?_
              refine WX.s1 (L' := [(0, .ref 100), (1, .int (nI nn)), (2, .int (nI leaf)), (3, .int (nI (nn + (knot + 1)))), (4, .int (nI (nn + j))), (5, .int 1), (6, .int 1), (7, .int (nI leaf))]) rfl rfl ?_
              refine WX.s1 rfl rfl ?_
              refine WX.s1 rfl rfl ?_
              refine WX.if_ rfl (fun c_82 => absurd c_82 (by decide)) (fun c_82 => ?_)
              clear c_82
              refine WX.s1 rfl rfl ?_
              refine WX.s1 rfl rfl ?_
              refine WX.s1 (S' := [.int ((nI leaf) + 1)]) rfl rfl ?_
              rw [show nI leaf + 1 = nI (leaf + 1) from nI_add leaf 1]
              refine WX.s1 (L' := [(0, .ref 100), (1, .int (nI nn)), (2, .int (nI (leaf + 1))), (3, .int (nI (nn + (knot + 1)))), (4, .int (nI (nn + j))), (5, .int 1), (6, .int 1), (7, .int (nI leaf))]) rfl rfl ?_
              refine WX.s1 rfl rfl ?_
              refine WX.s1 rfl rfl ?_
              refine WX.if_ rfl (fun c_95 => absurd c_95 (by decide)) (fun c_95 => ?_)
              clear c_95
              refine WX.s1 rfl rfl ?_
              refine WX.s1 rfl rfl ?_
              refine WX.s1 (S' := [.int ((nI (nn + (knot + 1))) + 0)]) rfl rfl ?_
              rw [nI_add0]
              refine WX.s1 (L' := [(0, .ref 100), (1, .int (nI nn)), (2, .int (nI (leaf + 1))), (3, .int (nI (nn + (knot + 1)))), (4, .int (nI (nn + j))), (5, .int 1), (6, .int 1), (7, .int (nI leaf))]) rfl rfl ?_
              refine WX.s1 rfl rfl ?_
              refine WX.get1 (fs := [.ref 101, .ref 102, .ref 103, .ref 104, .ref 105]) rfl (ltN hn (by decide)) (F_h130x4_100) rfl ?_
              refine WX.s1 rfl rfl ?_
              refine WX.s1 rfl rfl ?_
              refine WX.iald1 rfl (Or.inl (ltN hn (by decide))) (F_h130x4_103) (vp_in_nI (N := 512) (by omega) (by decide)) ?_
              rw [nI_clamp (by omega), hM1]
              refine WX.s1 rfl rfl ?_
              refine WX.get1 (fs := [.ref 101, .ref 102, .ref 103, .ref 104, .ref 105]) rfl (ltN hn (by decide)) (F_h130x4_100) rfl ?_
              refine WX.s1 rfl rfl ?_
              refine WX.iald1 rfl (Or.inl (ltN hn (by decide))) (F_h130x4_103) (vp_in_nI (N := 512) (by omega) (by decide)) ?_
              rw [nI_clamp (by omega), vg1]
              refine WX.s1 (S' := [.int ((nI (0 + ((tN c j).2.1 (256 + knot)))) + (nI ((tN c j).2.1 (sy leaf)))), .int (nI (nn + j)), .ref 103]) rfl rfl ?_
              rw [show ((nI (0 + ((tN c j).2.1 (256 + knot)))) + (nI ((tN c j).2.1 (sy leaf)))) = nI (0 + ((tN c j).2.1 (256 + knot)) + (tN c j).2.1 (sy leaf)) from nI_add (0 + ((tN c j).2.1 (256 + knot))) ((tN c j).2.1 (sy leaf))]
              refine WX.iastN rfl (ltN hn (by decide)) (F_h130x4_103) (vp_in_nI (N := 512) (by omega) (by decide)) (fun g121x5 h121x5 e_g121x5 e_h121x5 => ?_)
              try dsimp only at e_g121x5
              have F_h121x5_100 : h121x5 100 = .inr (4, [.ref 101, .ref 102, .ref 103, .ref 104, .ref 105]) := by rw [e_h121x5, va_up_neq (by decide)]; exact F_h130x4_100
              have F_h121x5_103 : h121x5 103 = .inl (1, 512, .inl g121x5) := by rw [e_h121x5]; exact va_up_eq
              have F_h121x5_104 : h121x5 104 = .inl (1, 512, .inl g130x4) := by rw [e_h121x5, va_up_neq (by decide)]; exact F_h130x4_104
              have FR_h121x5 : Fr h h121x5 (fun j => j = 103 ∨ j = 104) := FR_h130x4.zup e_h121x5 (by first | exact rfl | exact Or.inl rfl | exact Or.inr rfl | exact ⟨by decide, by decide⟩ | decide | omega)
              clear F_h130x4_100 F_h130x4_103 F_h130x4_104 FR_h130x4 e_h121x5
              refine WX.s1 rfl rfl ?_
              refine WX.get1 (fs := [.ref 101, .ref 102, .ref 103, .ref 104, .ref 105]) rfl (ltN hn (by decide)) (F_h121x5_100) rfl ?_
              refine WX.s1 rfl rfl ?_
              refine WX.s1 rfl rfl ?_
              refine WX.iastN rfl (ltN hn (by decide)) (F_h121x5_104) (vp_in_nI (N := 512) (by omega) (by decide)) (fun g130x5 h130x5 e_g130x5 e_h130x5 => ?_)
              try dsimp only at e_g130x5
              have F_h130x5_100 : h130x5 100 = .inr (4, [.ref 101, .ref 102, .ref 103, .ref 104, .ref 105]) := by rw [e_h130x5, va_up_neq (by decide)]; exact F_h121x5_100
              have F_h130x5_103 : h130x5 103 = .inl (1, 512, .inl g121x5) := by rw [e_h130x5, va_up_neq (by decide)]; exact F_h121x5_103
              have F_h130x5_104 : h130x5 104 = .inl (1, 512, .inl g130x5) := by rw [e_h130x5]; exact va_up_eq
              have FR_h130x5 : Fr h h130x5 (fun j => j = 103 ∨ j = 104) := FR_h121x5.zup e_h130x5 (by first | exact rfl | exact Or.inl rfl | exact Or.inr rfl | exact ⟨by decide, by decide⟩ | decide | omega)
              clear F_h121x5_100 F_h121x5_103 F_h121x5_104 FR_h121x5 e_h130x5
              refine WX.s1 (L' := [(0, .ref 100), (1, .int (nI nn)), (2, .int (nI (leaf + 1))), (3, .int (nI (nn + (knot + 1)))), (4, .int (nI (nn + j))), (5, .int (1 + 1)), (6, .int 1), (7, .int (nI leaf))]) rfl rfl ?_
              rw [show ((1 : Int32) + 1) = 2 from rfl]
              refine WX.keep (y := 48) [0, 1, 2, 3, 4, 5] (show ([0, 1, 2, 3, 4, 5, 6, 7] : List Nat).Nodup by decide) rfl ?_
              rw [nI_clamp (by omega)] at e_g121x5 e_g130x5
              have hM2 : g121x5 (nn + j) = nI ((0 + ((tN c j).2.1 (256 + knot))) + ((tN c j).2.1 (sy leaf))) := by rw [e_g121x5, pk_us]
              have hS2 : ∀ k, k < nn + j → g121x5 k = nI ((tN c j).2.1 (ixK sy nn k)) := fun k hk => by rw [e_g121x5, pk_un (by omega)]; exact hS1 k hk
              refine WX.s1 rfl rfl ?_
              refine WX.s1 rfl rfl ?_
              refine WX.s1 rfl rfl ?_
              refine WX.icmp rfl (fun c_31 => ?_) (fun c_31 => absurd (by decide) c_31)
              clear c_31
              refine WX.s1 (L' := [(0, .ref 100), (1, .int (nI nn)), (2, .int (nI (leaf + 1))), (3, .int (nI (nn + (knot + 1)))), (4, .int ((nI (nn + j)) + 1)), (5, .int 2)]) rfl rfl ?_
              rw [show ((nI (nn + j)) + 1) = nI (nn + j + 1) from nI_add (nn + j) 1]
              refine WX.s1 rfl rfl ?_
              refine WX.keep (y := 48) [0, 1, 2, 3, 4] (show ([0, 1, 2, 3, 4, 5] : List Nat).Nodup by decide) rfl ?_
              have el : lfK nn leaf (nn + knot) = leaf := if_neg (by omega)
              have ek : knK nn knot (nn + knot) = (knot + 1) := if_neg (by omega)
              have el2 : lfK nn leaf leaf = (leaf + 1) := if_pos (by omega)
              have ek2 : knK nn (knot + 1) leaf = (knot + 1) := if_pos (by omega)
              have st9 := ci_step S hC (by omega) (g1 := (nn + knot)) (g2 := leaf) hg0.symm (by rw [el, ek]; exact hg1.symm)
              rw [el, ek, el2, ek2] at st9
              obtain ⟨hC9, hF9⟩ := st9
              refine ih (j + 1) (leaf + 1) (knot + 1) (updN (updN ow (nn + knot) (nn + j)) leaf (nn + j)) h130x5 g121x5 g130x5 (by omega) FR_h130x5 F_h130x5_103 F_h130x5_104 hC9 (fun k hk => ?_) (fun q hq => ?_) (fun i hi => ?_)
              · rw [hF9]
                by_cases z : k = nn + j
                · rw [z, hM2, hx0, hx1, show ixK sy nn (nn + j) = 256 + j from (ix_hi (by omega)).trans (by omega), updN_s]
                  exact congrArg nI (by omega)
                · rw [hS2 k (by omega), updN_n]
                  by_cases y : k < nn
                  · rw [ix_lo y]; have := (S.1 k y).1; omega
                  · rw [ix_hi (by omega)]; omega
              · rw [e_g130x5, e_g130x4]
                by_cases z1 : q = leaf
                · rw [z1, pk_us, updN_s]
                · rw [pk_un z1, updN_n z1]
                  by_cases z0 : q = (nn + knot)
                  · rw [z0, pk_us, updN_s]
                  · rw [pk_un z0, updN_n z0]; exact ho1 q (by omega)
              · rw [e_g130x5, e_g130x4]
                by_cases z1 : (nn + i) = leaf
                · rw [z1, pk_us, updN_s]
                · rw [pk_un z1, updN_n z1]
                  by_cases z0 : (nn + i) = (nn + knot)
                  · rw [z0, pk_us, updN_s]
                  · rw [pk_un z0, updN_n z0]; exact ho2 i (by omega)
            refine WX.s1 rfl rfl ?_
            refine WX.s1 rfl rfl ?_
            refine WX.icmp rfl (fun c_36 => absurd c_36 (fun zz_ => absurd ((nI_leI (a := nn) (b := leaf) (by omega) (by omega)).mp zz_) (Nat.not_le.mpr (by omega)))) (fun c_36 => ?_)
            clear c_36
            refine WX.s1 rfl rfl ?_
            refine WX.s1 rfl rfl ?_
            refine WX.icmp rfl (fun c_42 => ?_) (fun c_42 => ?_)
            · skip
              have n_42 : (nn + j) ≤ (nn + (knot + 1)) := (nI_leI (a := nn + j) (b := nn + (knot + 1)) (by omega) (by omega)).mp c_42
              refine WX.s1 rfl rfl ?_
              refine WX.s1 rfl rfl ?_
              exact t65
            · skip
              have n_42 : (nn + (knot + 1)) < (nn + j) := Nat.lt_of_not_le (fun zz_ => c_42 ((nI_leI (a := nn + j) (b := nn + (knot + 1)) (by omega) (by omega)).mpr zz_))
              refine WX.s1 rfl rfl ?_
              refine WX.get1 (fs := [.ref 101, .ref 102, .ref 103, .ref 104, .ref 105]) rfl (ltN hn (by decide)) (F_h130x4_100) rfl ?_
              refine WX.s1 rfl rfl ?_
              refine WX.iald1 rfl (Or.inl (ltN hn (by decide))) (F_h130x4_103) (vp_in_nI (N := 512) (by omega) (by decide)) ?_
              rw [nI_clamp (by omega), hS1 leaf (by omega), ix_lo hZ1.1]
              refine WX.s1 rfl rfl ?_
              refine WX.get1 (fs := [.ref 101, .ref 102, .ref 103, .ref 104, .ref 105]) rfl (ltN hn (by decide)) (F_h130x4_100) rfl ?_
              refine WX.s1 rfl rfl ?_
              refine WX.iald1 rfl (Or.inl (ltN hn (by decide))) (F_h130x4_103) (vp_in_nI (N := 512) (by omega) (by decide)) ?_
              rw [nI_clamp (by omega), hS1 (nn + (knot + 1)) (by omega), ix_hi (by omega), show nn + (knot + 1) - nn = (knot + 1) by omega]
              have q57 : (tN c j).2.1 (sy leaf) ≤ (tN c j).2.1 (256 + (knot + 1)) := by rcases hZ1.2 with y | y; omega; exact y
              have b57 := bk1 (by omega)
              have b58 := fsy _ hZ1.1
              refine WX.icmp rfl (fun c_57 => absurd c_57 (fun zz_ => absurd ((nI_ltI (a := (tN c j).2.1 (256 + (knot + 1))) (b := (tN c j).2.1 (sy leaf)) (by omega) (by omega)).mp zz_) (Nat.not_lt.mpr (by omega)))) (fun c_57 => ?_)
              clear c_57
              refine WX.s1 rfl rfl ?_
              refine WX.s1 rfl rfl ?_
              exact t65
          · have hg1 : gonK (tN c j).2.1 sy nn j leaf (knot + 1) = nn + (knot + 1) := if_neg hZ1
            have hk1 : (knot + 1) < j := by apply Classical.byContradiction; intro y; exact hZ1 ⟨by omega, Or.inl (by omega)⟩
            have hx1 : ixK sy nn (nn + (knot + 1)) = 256 + (knot + 1) := by rw [ix_hi (by omega)]; omega
            have fv1 : ((tN c j).2.1 (256 + (knot + 1))) ≤ 8000 := bk1 hk1
            have vg1 : g121x4 (nn + (knot + 1)) = nI ((tN c j).2.1 (256 + (knot + 1))) := by rw [hS1 (nn + (knot + 1)) (by omega), hx1]
            have t65 : WX (lk tX4_join) (mM d) Ψ 65 [(0, .ref 100), (1, .int (nI nn)), (2, .int (nI leaf)), (3, .int (nI (nn + (knot + 1)))), (4, .int (nI (nn + j))), (5, .int 1)] [.int 0] (n, s, h130x4) := by
              refine WX.s1 (L' := [(0, .ref 100), (1, .int (nI nn)), (2, .int (nI leaf)), (3, .int (nI (nn + (knot + 1)))), (4, .int (nI (nn + j))), (5, .int 1), (6, .int 0)]) rfl rfl ?_
              refine WX.s1 rfl rfl ?_
              refine WX.if_ rfl (fun c_69 => ?_) (fun c_69 => absurd (by decide) c_69)
              clear c_69
              refine WX.s1 rfl rfl ?_
              refine WX.s1 (L' := [(0, .ref 100), (1, .int (nI nn)), (2, .int (nI leaf)), (3, .int (nI (nn + (knot + 1)))), (4, .int (nI (nn + j))), (5, .int 1), (6, .int 0), (7, .int (nI (nn + (knot + 1))))]) rfl rfl ?_
              refine WX.s1 rfl rfl ?_
              refine WX.s1 rfl rfl ?_
              refine WX.if_ rfl (fun c_82 => ?_) (fun c_82 => absurd (by decide) c_82)
              clear c_82
              refine WX.s1 rfl rfl ?_
              refine WX.s1 (S' := [.int ((nI leaf) + 0)]) rfl rfl ?_
              rw [nI_add0]
              refine WX.s1 (L' := [(0, .ref 100), (1, .int (nI nn)), (2, .int (nI leaf)), (3, .int (nI (nn + (knot + 1)))), (4, .int (nI (nn + j))), (5, .int 1), (6, .int 0), (7, .int (nI (nn + (knot + 1))))]) rfl rfl ?_
              refine WX.s1 rfl rfl ?_
              refine WX.s1 rfl rfl ?_
              refine WX.if_ rfl (fun c_95 => ?_) (fun c_95 => absurd (by decide) c_95)
              clear c_95
              refine WX.s1 rfl rfl ?_
              refine WX.s1 (S' := [.int ((nI (nn + (knot + 1))) + 1)]) rfl rfl ?_
              rw [show nI (nn + (knot + 1)) + 1 = nI (nn + ((knot + 1) + 1)) from (nI_add _ 1).trans (congrArg nI (by omega))]
              refine WX.s1 (L' := [(0, .ref 100), (1, .int (nI nn)), (2, .int (nI leaf)), (3, .int (nI (nn + ((knot + 1) + 1)))), (4, .int (nI (nn + j))), (5, .int 1), (6, .int 0), (7, .int (nI (nn + (knot + 1))))]) rfl rfl ?_
              refine WX.s1 rfl rfl ?_
              refine WX.get1 (fs := [.ref 101, .ref 102, .ref 103, .ref 104, .ref 105]) rfl (ltN hn (by decide)) (F_h130x4_100) rfl ?_
              refine WX.s1 rfl rfl ?_
              refine WX.s1 rfl rfl ?_
              refine WX.iald1 rfl (Or.inl (ltN hn (by decide))) (F_h130x4_103) (vp_in_nI (N := 512) (by omega) (by decide)) ?_
              rw [nI_clamp (by omega), hM1]
              refine WX.s1 rfl rfl ?_
              refine WX.get1 (fs := [.ref 101, .ref 102, .ref 103, .ref 104, .ref 105]) rfl (ltN hn (by decide)) (F_h130x4_100) rfl ?_
              refine WX.s1 rfl rfl ?_
              refine WX.iald1 rfl (Or.inl (ltN hn (by decide))) (F_h130x4_103) (vp_in_nI (N := 512) (by omega) (by decide)) ?_
              rw [nI_clamp (by omega), vg1]
              refine WX.s1 (S' := [.int ((nI (0 + ((tN c j).2.1 (256 + knot)))) + (nI ((tN c j).2.1 (256 + (knot + 1))))), .int (nI (nn + j)), .ref 103]) rfl rfl ?_
              rw [show ((nI (0 + ((tN c j).2.1 (256 + knot)))) + (nI ((tN c j).2.1 (256 + (knot + 1))))) = nI (0 + ((tN c j).2.1 (256 + knot)) + ((tN c j).2.1 (256 + (knot + 1)))) from nI_add (0 + ((tN c j).2.1 (256 + knot))) ((tN c j).2.1 (256 + (knot + 1)))]
              refine WX.iastN rfl (ltN hn (by decide)) (F_h130x4_103) (vp_in_nI (N := 512) (by omega) (by decide)) (fun g121x6 h121x6 e_g121x6 e_h121x6 => ?_)
              try dsimp only at e_g121x6
              have F_h121x6_100 : h121x6 100 = .inr (4, [.ref 101, .ref 102, .ref 103, .ref 104, .ref 105]) := by rw [e_h121x6, va_up_neq (by decide)]; exact F_h130x4_100
              have F_h121x6_103 : h121x6 103 = .inl (1, 512, .inl g121x6) := by rw [e_h121x6]; exact va_up_eq
              have F_h121x6_104 : h121x6 104 = .inl (1, 512, .inl g130x4) := by rw [e_h121x6, va_up_neq (by decide)]; exact F_h130x4_104
              have FR_h121x6 : Fr h h121x6 (fun j => j = 103 ∨ j = 104) := FR_h130x4.zup e_h121x6 (by first | exact rfl | exact Or.inl rfl | exact Or.inr rfl | exact ⟨by decide, by decide⟩ | decide | omega)
              clear F_h130x4_100 F_h130x4_103 F_h130x4_104 FR_h130x4 e_h121x6
              refine WX.s1 rfl rfl ?_
              refine WX.get1 (fs := [.ref 101, .ref 102, .ref 103, .ref 104, .ref 105]) rfl (ltN hn (by decide)) (F_h121x6_100) rfl ?_
              refine WX.s1 rfl rfl ?_
              refine WX.s1 rfl rfl ?_
              refine WX.iastN rfl (ltN hn (by decide)) (F_h121x6_104) (vp_in_nI (N := 512) (by omega) (by decide)) (fun g130x6 h130x6 e_g130x6 e_h130x6 => ?_)
              try dsimp only at e_g130x6
              have F_h130x6_100 : h130x6 100 = .inr (4, [.ref 101, .ref 102, .ref 103, .ref 104, .ref 105]) := by rw [e_h130x6, va_up_neq (by decide)]; exact F_h121x6_100
              have F_h130x6_103 : h130x6 103 = .inl (1, 512, .inl g121x6) := by rw [e_h130x6, va_up_neq (by decide)]; exact F_h121x6_103
              have F_h130x6_104 : h130x6 104 = .inl (1, 512, .inl g130x6) := by rw [e_h130x6]; exact va_up_eq
              have FR_h130x6 : Fr h h130x6 (fun j => j = 103 ∨ j = 104) := FR_h121x6.zup e_h130x6 (by first | exact rfl | exact Or.inl rfl | exact Or.inr rfl | exact ⟨by decide, by decide⟩ | decide | omega)
              clear F_h121x6_100 F_h121x6_103 F_h121x6_104 FR_h121x6 e_h130x6
              refine WX.s1 (L' := [(0, .ref 100), (1, .int (nI nn)), (2, .int (nI leaf)), (3, .int (nI (nn + ((knot + 1) + 1)))), (4, .int (nI (nn + j))), (5, .int (1 + 1)), (6, .int 0), (7, .int (nI (nn + (knot + 1))))]) rfl rfl ?_
              rw [show ((1 : Int32) + 1) = 2 from rfl]
              refine WX.keep (y := 48) [0, 1, 2, 3, 4, 5] (show ([0, 1, 2, 3, 4, 5, 6, 7] : List Nat).Nodup by decide) rfl ?_
              rw [nI_clamp (by omega)] at e_g121x6 e_g130x6
              have hM2 : g121x6 (nn + j) = nI ((0 + ((tN c j).2.1 (256 + knot))) + ((tN c j).2.1 (256 + (knot + 1)))) := by rw [e_g121x6, pk_us]
              have hS2 : ∀ k, k < nn + j → g121x6 k = nI ((tN c j).2.1 (ixK sy nn k)) := fun k hk => by rw [e_g121x6, pk_un (by omega)]; exact hS1 k hk
              refine WX.s1 rfl rfl ?_
              refine WX.s1 rfl rfl ?_
              refine WX.s1 rfl rfl ?_
              refine WX.icmp rfl (fun c_31 => ?_) (fun c_31 => absurd (by decide) c_31)
              clear c_31
              refine WX.s1 (L' := [(0, .ref 100), (1, .int (nI nn)), (2, .int (nI leaf)), (3, .int (nI (nn + ((knot + 1) + 1)))), (4, .int ((nI (nn + j)) + 1)), (5, .int 2)]) rfl rfl ?_
              rw [show ((nI (nn + j)) + 1) = nI (nn + j + 1) from nI_add (nn + j) 1]
              refine WX.s1 rfl rfl ?_
              refine WX.keep (y := 48) [0, 1, 2, 3, 4] (show ([0, 1, 2, 3, 4, 5] : List Nat).Nodup by decide) rfl ?_
              have el : lfK nn leaf (nn + knot) = leaf := if_neg (by omega)
              have ek : knK nn knot (nn + knot) = (knot + 1) := if_neg (by omega)
              have el2 : lfK nn leaf (nn + (knot + 1)) = leaf := if_neg (by omega)
              have ek2 : knK nn (knot + 1) (nn + (knot + 1)) = ((knot + 1) + 1) := if_neg (by omega)
              have st9 := ci_step S hC (by omega) (g1 := (nn + knot)) (g2 := (nn + (knot + 1))) hg0.symm (by rw [el, ek]; exact hg1.symm)
              rw [el, ek, el2, ek2] at st9
              obtain ⟨hC9, hF9⟩ := st9
              refine ih (j + 1) leaf ((knot + 1) + 1) (updN (updN ow (nn + knot) (nn + j)) (nn + (knot + 1)) (nn + j)) h130x6 g121x6 g130x6 (by omega) FR_h130x6 F_h130x6_103 F_h130x6_104 hC9 (fun k hk => ?_) (fun q hq => ?_) (fun i hi => ?_)
              · rw [hF9]
                by_cases z : k = nn + j
                · rw [z, hM2, hx0, hx1, show ixK sy nn (nn + j) = 256 + j from (ix_hi (by omega)).trans (by omega), updN_s]
                  exact congrArg nI (by omega)
                · rw [hS2 k (by omega), updN_n]
                  by_cases y : k < nn
                  · rw [ix_lo y]; have := (S.1 k y).1; omega
                  · rw [ix_hi (by omega)]; omega
              · rw [e_g130x6, e_g130x4]
                by_cases z1 : q = (nn + (knot + 1))
                · rw [z1, pk_us, updN_s]
                · rw [pk_un z1, updN_n z1]
                  by_cases z0 : q = (nn + knot)
                  · rw [z0, pk_us, updN_s]
                  · rw [pk_un z0, updN_n z0]; exact ho1 q (by omega)
              · rw [e_g130x6, e_g130x4]
                by_cases z1 : (nn + i) = (nn + (knot + 1))
                · rw [z1, pk_us, updN_s]
                · rw [pk_un z1, updN_n z1]
                  by_cases z0 : (nn + i) = (nn + knot)
                  · rw [z0, pk_us, updN_s]
                  · rw [pk_un z0, updN_n z0]; exact ho2 i (by omega)
            refine WX.s1 rfl rfl ?_
            refine WX.s1 rfl rfl ?_
            refine WX.icmp rfl (fun c_36 => ?_) (fun c_36 => ?_)
            · skip
              have n_36 : nn ≤ leaf := (nI_leI (a := nn) (b := leaf) (by omega) (by omega)).mp c_36
              refine WX.s1 rfl rfl ?_
              exact t65
            · skip
              have n_36 : leaf < nn := Nat.lt_of_not_le (fun zz_ => c_36 ((nI_leI (a := nn) (b := leaf) (by omega) (by omega)).mpr zz_))
              refine WX.s1 rfl rfl ?_
              refine WX.s1 rfl rfl ?_
              refine WX.icmp rfl (fun c_42 => absurd c_42 (fun zz_ => absurd ((nI_leI (a := nn + j) (b := nn + (knot + 1)) (by omega) (by omega)).mp zz_) (Nat.not_le.mpr (by omega)))) (fun c_42 => ?_)
              clear c_42
              refine WX.s1 rfl rfl ?_
              refine WX.get1 (fs := [.ref 101, .ref 102, .ref 103, .ref 104, .ref 105]) rfl (ltN hn (by decide)) (F_h130x4_100) rfl ?_
              refine WX.s1 rfl rfl ?_
              refine WX.iald1 rfl (Or.inl (ltN hn (by decide))) (F_h130x4_103) (vp_in_nI (N := 512) (by omega) (by decide)) ?_
              rw [nI_clamp (by omega), hS1 leaf (by omega), ix_lo n_36]
              refine WX.s1 rfl rfl ?_
              refine WX.get1 (fs := [.ref 101, .ref 102, .ref 103, .ref 104, .ref 105]) rfl (ltN hn (by decide)) (F_h130x4_100) rfl ?_
              refine WX.s1 rfl rfl ?_
              refine WX.iald1 rfl (Or.inl (ltN hn (by decide))) (F_h130x4_103) (vp_in_nI (N := 512) (by omega) (by decide)) ?_
              rw [nI_clamp (by omega), hS1 (nn + (knot + 1)) (by omega), ix_hi (by omega), show nn + (knot + 1) - nn = (knot + 1) by omega]
              have q57 : (tN c j).2.1 (256 + (knot + 1)) < (tN c j).2.1 (sy leaf) := by apply Classical.byContradiction; intro y; exact hZ1 ⟨n_36, Or.inr (by omega)⟩
              have b57 := bk1 hk1
              have b58 := fsy _ n_36
              refine WX.icmp rfl (fun c_57 => ?_) (fun c_57 => absurd ((nI_ltI (a := (tN c j).2.1 (256 + (knot + 1))) (b := (tN c j).2.1 (sy leaf)) (by omega) (by omega)).mpr (by omega)) c_57)
              clear c_57
              refine WX.s1 rfl rfl ?_
              exact t65
        refine WX.s1 rfl rfl ?_
        refine WX.s1 rfl rfl ?_
        refine WX.icmp rfl (fun c_36 => ?_) (fun c_36 => ?_)
        · skip
          have n_36 : nn ≤ leaf := (nI_leI (a := nn) (b := leaf) (by omega) (by omega)).mp c_36
          refine WX.s1 rfl rfl ?_
          exact t65
        · skip
          have n_36 : leaf < nn := Nat.lt_of_not_le (fun zz_ => c_36 ((nI_leI (a := nn) (b := leaf) (by omega) (by omega)).mpr zz_))
          refine WX.s1 rfl rfl ?_
          refine WX.s1 rfl rfl ?_
          refine WX.icmp rfl (fun c_42 => absurd c_42 (fun zz_ => absurd ((nI_leI (a := nn + j) (b := nn + knot) (by omega) (by omega)).mp zz_) (Nat.not_le.mpr (by omega)))) (fun c_42 => ?_)
          clear c_42
          refine WX.s1 rfl rfl ?_
          refine WX.get1 (fs := [.ref 101, .ref 102, .ref 103, .ref 104, .ref 105]) rfl (ltN hn (by decide)) (F_h24_100) rfl ?_
          refine WX.s1 rfl rfl ?_
          refine WX.iald1 rfl (Or.inl (ltN hn (by decide))) (F_h24_103) (vp_in_nI (N := 512) (by omega) (by decide)) ?_
          rw [nI_clamp (by omega), hS0 leaf (by omega), ix_lo n_36]
          refine WX.s1 rfl rfl ?_
          refine WX.get1 (fs := [.ref 101, .ref 102, .ref 103, .ref 104, .ref 105]) rfl (ltN hn (by decide)) (F_h24_100) rfl ?_
          refine WX.s1 rfl rfl ?_
          refine WX.iald1 rfl (Or.inl (ltN hn (by decide))) (F_h24_103) (vp_in_nI (N := 512) (by omega) (by decide)) ?_
          rw [nI_clamp (by omega), hS0 (nn + knot) (by omega), ix_hi (by omega), show nn + knot - nn = knot by omega]
          have q57 : (tN c j).2.1 (256 + knot) < (tN c j).2.1 (sy leaf) := by apply Classical.byContradiction; intro y; exact hZ0 ⟨n_36, Or.inr (by omega)⟩
          have b57 := bk0 hk0
          have b58 := fsy _ n_36
          refine WX.icmp rfl (fun c_57 => ?_) (fun c_57 => absurd ((nI_ltI (a := (tN c j).2.1 (256 + knot)) (b := (tN c j).2.1 (sy leaf)) (by omega) (by omega)).mpr (by omega)) c_57)
          clear c_57
          refine WX.s1 rfl rfl ?_
          exact t65
  exact lp (nn - 1) 0 0 0 (fun _ => 0) h sA oA (by omega) FR_h F_h_103 F_h_104 ⟨rfl, rfl, Nat.zero_le _, Or.inr ⟨rfl, rfl⟩, fun q hq => (if_neg (Nat.not_lt_zero q)).symm, fun i hi => absurd hi (Nat.not_lt_zero i), fun q hq => absurd hq (Nat.not_lt_zero q), fun q hq => absurd hq (Nat.not_lt_zero q)⟩ (fun k hk => by rw [hsA k hk, ix_lo (show k < nn from hk)]; rfl) (fun q hq => absurd hq (Nat.not_lt_zero q)) (fun q hq => absurd hq (Nat.not_lt_zero q))
