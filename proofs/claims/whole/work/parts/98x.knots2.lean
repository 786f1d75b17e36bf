/-! the knots: measured, halved -/
theorem dp_le (P : Nat → Nat) : ∀ f k, dpK P f k ≤ f := by
  intro f
  induction f with
  | zero => intro k; exact Nat.le_refl _
  | succ f ih =>
    intro k
    unfold dpK
    split
    · omega
    · have := ih (P k - 1); omega
theorem dep_own {c sy : Nat → Nat} {nn k : Nat} {ow : Nat → Nat} (S : SortI c sy nn 256) (h2 : 2 ≤ nn) (C : CI c sy nn (nn - 1) nn (nn - 2) ow) (hk : k < 2 * nn - 2) : dpK (tN c 256).2.2 512 (ixK sy nn k) = dpK (tN c 256).2.2 512 (ixK sy nn (ow k)) + 1 ∧ k < ow k ∧ ow k ≤ 2 * nn - 2 := by
  have he := ci_end S h2 C
  obtain ⟨lp, T⟩ := ti_N c 256
  obtain ⟨i1, i2, i3, -⟩ := T
  obtain ⟨c1, c2, c3, c4, c5, c6, c7, c8⟩ := C
  rw [← he] at c1 c5 c6
  have hn := S.2.2.2
  have q : (tN c 256).2.2 (ixK sy nn k) = ow k - nn + 257 ∧ nn ≤ ow k ∧ ow k < nn + (nn - 1) := by
    by_cases z : k < nn
    · have y := c7 k z
      rw [ix_lo z, c5 k z, if_pos z]
      exact ⟨rfl, y⟩
    · have y := c8 (k - nn) (by omega)
      have x := c6 (k - nn) (by omega)
      rw [if_pos (by omega), show nn + (k - nn) = k by omega] at x
      rw [show nn + (k - nn) = k by omega] at y
      rw [ix_hi (by omega)]
      exact ⟨x, y⟩
  obtain ⟨q1, q2, q3⟩ := q
  have hne : (tN c 256).2.2 (ixK sy nn k) ≠ 0 := by omega
  have hlt := (i3 _ hne).1
  have hx : ixK sy nn (ow k) = (tN c 256).2.2 (ixK sy nn k) - 1 := by rw [ix_hi q2, q1]; omega
  refine ⟨?_, ?_, by omega⟩
  · rw [show (512 : Nat) = 511 + 1 from rfl, dp_s hne, hx, dp_fuel i2 (fun k h => (i3 k h).1) 511 _ (by rw [c1]; omega)]
  · by_cases z : k < nn
    · omega
    · rw [q1, ix_hi (by omega)] at hlt; omega
def TopI (top z nn : Nat) (D : Nat → Nat) : Prop := top = 0 ∨ ∃ q, z ≤ q ∧ q < nn ∧ D q = top
theorem dF_no {c : Nat → Nat} {s : Nat} (hs : s < 256) (h : c s = 0) : dF c s = 0 := by
  obtain ⟨lp, T⟩ := ti_N c 256
  refine dp_0 ?_ 512
  apply Classical.byContradiction
  intro z
  have q := (T.2.2.1 s z).2.2.2.2.1
  rw [T.2.2.2.2.2.2.2.2.2 s hs] at q
  exact q h
theorem dF_root {c sy : Nat → Nat} {nn : Nat} {ow : Nat → Nat} (S : SortI c sy nn 256) (h2 : 2 ≤ nn) (C : CI c sy nn (nn - 1) nn (nn - 2) ow) : dpK (tN c 256).2.2 512 (ixK sy nn (2 * nn - 2)) = 0 := by
  refine dp_0 ?_ 512
  rw [ci_end S h2 C]
  have q := C.2.2.2.2.2.1 (nn - 2) (by omega)
  rw [if_neg (Nat.lt_irrefl _)] at q
  rw [ix_hi (by omega), show 2 * nn - 2 - nn = nn - 2 by omega]
  exact q
theorem nI_mx {a b : Nat} (ha : a < 2 ^ 31) (hb : b < 2 ^ 31) : (if nI a < nI b then nI b else nI a) = nI (max a b) := by
  by_cases h : a < b
  · rw [if_pos ((nI_ltI ha hb).mpr h), Nat.max_eq_right (by omega)]
  · rw [if_neg (fun z => h ((nI_ltI ha hb).mp z)), Nat.max_eq_left (by omega)]
set_option maxRecDepth 20000 in
theorem x_knMeas {d n s : Nat} {h : Nat → aE} {c sy : Nat → Nat} {nn : Nat} {ow : Nat → Nat} {yA oA dA lA : Nat → Int32} (hn : 190 ≤ n) (S : SortI c sy nn 256) (h2n : 2 ≤ nn) (hC : CI c sy nn (nn - 1) nn (nn - 2) ow) (hoA : ∀ k, k < 2 * nn - 2 → oA k = nI (ow k)) (hyA : ∀ q, q < nn → yA q = nI (sy q)) (F_h_100 : h 100 = .inr (4, [.ref 101, .ref 102, .ref 103, .ref 104, .ref 105])) (F_h_102 : h 102 = .inl (1, 256, .inl yA)) (F_h_104 : h 104 = .inl (1, 512, .inl oA)) (F_h_105 : h 105 = .inl (1, 512, .inl dA)) (F_h_97 : h 97 = .inl (1, 256, .inl lA))  {Ψ : Option Value → aH → Prop} (kk : ∀ h' lA' dA', Fr h h' (fun j => j = 97 ∨ j = 105) → h' 97 = .inl (1, 256, .inl lA') → h' 105 = .inl (1, 512, .inl dA') → (∀ s, s < 256 → lA' s = nI (dF c s)) → Ψ (some (.int (nI (topF c)))) (n, s, h')) : WO (mM (d + 2)) 49 [.ref 100, .int (nI nn), .ref 97] (n, s, h) Ψ := by
  refine WO.of (Nat.le_of_ble_eq_true rfl) ?_
  have FR_h : Fr h h (fun j => j = 97 ∨ j = 105) := Fr.rf
  have hn256 := S.2.2.2
  show WX (lk tX4_measure) (mM (d + 1)) Ψ 0 [(0, .ref 100), (1, .int (nI nn)), (2, .ref 97)] [] (n, s, h)
  refine WX.s1 rfl rfl ?_
  refine WX.s1 rfl rfl ?_
  refine WX.callC (vs := [.ref 97, .int 0]) rfl rfl rfl (Nat.le_of_ble_eq_true rfl) rfl ?_
  refine w_fill (by omega) F_h_97 (by decide) (fun h2 g2 fr2 F_h2_97 hg2 => ?_)
  have F_h2_100 : h2 100 = .inr (4, [.ref 101, .ref 102, .ref 103, .ref 104, .ref 105]) := (fr2 _ (by first | decide | omega)).trans F_h_100
  have F_h2_102 : h2 102 = .inl (1, 256, .inl yA) := (fr2 _ (by first | decide | omega)).trans F_h_102
  have F_h2_104 : h2 104 = .inl (1, 512, .inl oA) := (fr2 _ (by first | decide | omega)).trans F_h_104
  have F_h2_105 : h2 105 = .inl (1, 512, .inl dA) := (fr2 _ (by first | decide | omega)).trans F_h_105
  have FR_h2 : Fr h h2 (fun j => j = 97 ∨ j = 105) := FR_h.zsub fr2 (fun j hj => by first | exact hj | exact Or.inl hj | exact Or.inr hj | omega)
  show WX _ _ _ 5 [(0, .ref 100), (1, .int (nI nn)), (2, .ref 97)] [] (n, s, h2)
  refine WX.s1 rfl rfl ?_
  refine WX.s1 (L' := [(0, .ref 100), (1, .int (nI nn)), (2, .ref 97), (3, .int 0)]) rfl rfl ?_
  refine WX.s1 rfl rfl ?_
  refine WX.s1 rfl rfl ?_
  refine WX.s1 (S' := [.int (2 * (nI nn))]) rfl rfl ?_
  rw [show (2 * (nI nn)) = nI (2 * nn) from (Int32.ofNat_mul 2 nn).symm]
  refine WX.s1 rfl rfl ?_
  refine WX.s1 (S' := [.int ((nI (2 * nn)) - 2)]) rfl rfl ?_
  rw [show nI (2 * nn) - 2 = nI (2 * nn - 2) from nI_subN (b := 2) (by omega)]
  refine WX.s1 rfl rfl ?_
  refine WX.s1 (S' := [.int (if (nI (2 * nn - 2)) < 0 then 0 else (nI (2 * nn - 2)))]) rfl rfl ?_
  rw [nI_max0 (by omega)]
  refine WX.s1 (L' := [(0, .ref 100), (1, .int (nI nn)), (2, .ref 97), (3, .int 0), (4, .int (nI (2 * nn - 2)))]) rfl rfl ?_
  refine WX.s1 rfl rfl ?_
  refine WX.get1 (fs := [.ref 101, .ref 102, .ref 103, .ref 104, .ref 105]) rfl (ltN hn (by decide)) (F_h2_100) rfl ?_
  refine WX.s1 rfl rfl ?_
  refine WX.s1 rfl rfl ?_
  refine WX.iastN rfl (ltN hn (by decide)) (F_h2_105) (vp_in_nI (N := 512) (by omega) (by decide)) (fun g25 h25 e_g25 e_h25 => ?_)
  try dsimp only at e_g25
  have F_h25_100 : h25 100 = .inr (4, [.ref 101, .ref 102, .ref 103, .ref 104, .ref 105]) := by rw [e_h25, va_up_neq (by decide)]; exact F_h2_100
  have F_h25_102 : h25 102 = .inl (1, 256, .inl yA) := by rw [e_h25, va_up_neq (by decide)]; exact F_h2_102
  have F_h25_104 : h25 104 = .inl (1, 512, .inl oA) := by rw [e_h25, va_up_neq (by decide)]; exact F_h2_104
  have F_h25_105 : h25 105 = .inl (1, 512, .inl g25) := by rw [e_h25]; exact va_up_eq
  have F_h25_97 : h25 97 = .inl (1, 256, .inl g2) := by rw [e_h25, va_up_neq (by decide)]; exact F_h2_97
  have FR_h25 : Fr h h25 (fun j => j = 97 ∨ j = 105) := FR_h2.zup e_h25 (by first | exact rfl | exact Or.inl rfl | exact Or.inr rfl | exact ⟨by decide, by decide⟩ | decide | omega)
  clear F_h2_100 F_h2_102 F_h2_104 F_h2_105 F_h2_97 FR_h2 e_h25
  refine WX.s1 rfl rfl ?_
  refine WX.s1 rfl rfl ?_
  refine WX.s1 (S' := [.int ((nI (2 * nn - 2)) - 1)]) rfl rfl ?_
  rw [nI_pm1 (by omega)]
  refine WX.s1 (L' := [(0, .ref 100), (1, .int (nI nn)), (2, .ref 97), (3, .int 0), (4, .int (nI (2 * nn - 2))), (5, .int (nI (2 * nn - 2 - 1)))]) rfl rfl ?_
  rw [nI_clamp (by omega)] at e_g25
  have F0 := F_h_100
  have F2 := F_h_102
  have lp : ∀ (z top : Nat) (hL : Nat → aE) (dL lL : Nat → Int32), z ≤ 2 * nn - 2 → top ≤ 512 → Fr h hL (fun j => j = 97 ∨ j = 105) → hL 100 = .inr (4, [.ref 101, .ref 102, .ref 103, .ref 104, .ref 105]) → hL 102 = .inl (1, 256, .inl yA) → hL 104 = .inl (1, 512, .inl oA) → hL 105 = .inl (1, 512, .inl dL) → hL 97 = .inl (1, 256, .inl lL) → (∀ k, z ≤ k → k ≤ 2 * nn - 2 → dL k = nI (dpK (tN c 256).2.2 512 (ixK sy nn k))) → (∀ q, z ≤ q → q < nn → lL (sy q) = nI (dpK (tN c 256).2.2 512 (ixK sy nn q)) ∧ (dpK (tN c 256).2.2 512 (ixK sy nn q)) ≤ top) → (∀ s, s < 256 → (∀ q, z ≤ q → q < nn → sy q ≠ s) → lL s = nI 0) → TopI top z nn (fun q => (dpK (tN c 256).2.2 512 (ixK sy nn q))) → WX (lk tX4_measure) (mM (d + 1)) Ψ 32 [(0, .ref 100), (1, .int (nI nn)), (2, .ref 97), (3, .int (nI top)), (4, .int (nI (2 * nn - 2))), (5, .int (qI z))] [] (n, s, hL) := by
    intro z
    induction z with
    | zero =>
      intro top hL dL lL hz htop FR_hL F_hL_100 F_hL_102 F_hL_104 F_hL_105 F_hL_97 hd hl1 hl2 ht
      rw [qI0]
      refine WX.s1 rfl rfl ?_
      refine WX.if_ rfl (fun c_34 => ?_) (fun c_34 => absurd (by decide) c_34)
      refine WX.s1 rfl rfl ?_
      have hfin : ∀ s, s < 256 → lL s = nI (dF c s) := fun s hs => by
        by_cases y : c s = 0
        · rw [dF_no hs y]; exact hl2 s hs (fun q _ hq e => (S.1 q hq).2 (by rw [e]; exact y))
        · obtain ⟨q, q1, q2⟩ := S.2.2.1 s hs y
          have q3 := (hl1 q (Nat.zero_le _) q1).1
          rw [ix_lo q1, q2] at q3
          exact q3
      have hdq : ∀ q, q < nn → (dpK (tN c 256).2.2 512 (ixK sy nn q)) = dF c (sy q) := fun q hq => by rw [ix_lo hq]; rfl
      have etop : topF c = top := mxK_is (fun s hs => by
        by_cases y : c s = 0
        · rw [dF_no hs y]; exact Nat.zero_le _
        · obtain ⟨q, q1, q2⟩ := S.2.2.1 s hs y
          have q3 := (hl1 q (Nat.zero_le _) q1).2
          rw [hdq q q1, q2] at q3
          exact q3) (by
        rcases ht with y | ⟨q, _, q1, q2⟩
        · exact Or.inl y
        · exact Or.inr ⟨sy q, (S.1 q q1).1, by rw [← hdq q q1]; exact q2⟩)
      have h9 := kk hL lL dL FR_hL F_hL_97 F_hL_105 hfin
      rw [etop] at h9
      exact WX.ret1 rfl h9
    | succ z ih =>
      intro top hL dL lL hz htop FR_hL F_hL_100 F_hL_102 F_hL_104 F_hL_105 F_hL_97 hd hl1 hl2 ht
      rw [qIs]
      obtain ⟨dp1, dp2, dp3⟩ := dep_own S h2n hC (show z < 2 * nn - 2 by omega)
      have dle := dp_le (tN c 256).2.2 512 (ixK sy nn z)
      have dle2 := dp_le (tN c 256).2.2 512 (ixK sy nn (ow z))
      refine WX.s1 rfl rfl ?_
      refine WX.if_ rfl (fun c_34 => absurd c_34 (fun zz_ => absurd ((nI_ltI (a := z) (b := 0) (by omega) (by omega)).mp zz_) (Nat.not_lt.mpr (by omega)))) (fun c_34 => ?_)
      clear c_34
      refine WX.s1 rfl rfl ?_
      refine WX.get1 (fs := [.ref 101, .ref 102, .ref 103, .ref 104, .ref 105]) rfl (ltN hn (by decide)) (F_hL_100) rfl ?_
      refine WX.s1 rfl rfl ?_
      refine WX.s1 rfl rfl ?_
      refine WX.get1 (fs := [.ref 101, .ref 102, .ref 103, .ref 104, .ref 105]) rfl (ltN hn (by decide)) (F_hL_100) rfl ?_
      refine WX.s1 rfl rfl ?_
      refine WX.get1 (fs := [.ref 101, .ref 102, .ref 103, .ref 104, .ref 105]) rfl (ltN hn (by decide)) (F_hL_100) rfl ?_
      refine WX.s1 rfl rfl ?_
      refine WX.iald1 rfl (Or.inl (ltN hn (by decide))) (F_hL_104) (vp_in_nI (N := 512) (by omega) (by decide)) ?_
      rw [nI_clamp (by omega), hoA z (by omega)]
      refine WX.iald1 rfl (Or.inl (ltN hn (by decide))) (F_hL_105) (vp_in_nI (N := 512) (by omega) (by decide)) ?_
      rw [nI_clamp (by omega), hd (ow z) (by omega) (by omega)]
      refine WX.s1 rfl rfl ?_
      refine WX.s1 (S' := [.int ((nI (dpK (tN c 256).2.2 512 (ixK sy nn (ow z)))) + 1), .int (nI z), .ref 105]) rfl rfl ?_
      rw [show ((nI (dpK (tN c 256).2.2 512 (ixK sy nn (ow z)))) + 1) = nI (dpK (tN c 256).2.2 512 (ixK sy nn (ow z)) + 1) from nI_add (dpK (tN c 256).2.2 512 (ixK sy nn (ow z))) 1]
      refine WX.iastN rfl (ltN hn (by decide)) (F_hL_105) (vp_in_nI (N := 512) (by omega) (by decide)) (fun g57 h57 e_g57 e_h57 => ?_)
      try dsimp only at e_g57
      have F_h57_100 : h57 100 = .inr (4, [.ref 101, .ref 102, .ref 103, .ref 104, .ref 105]) := by rw [e_h57, va_up_neq (by decide)]; exact F_hL_100
      have F_h57_102 : h57 102 = .inl (1, 256, .inl yA) := by rw [e_h57, va_up_neq (by decide)]; exact F_hL_102
      have F_h57_104 : h57 104 = .inl (1, 512, .inl oA) := by rw [e_h57, va_up_neq (by decide)]; exact F_hL_104
      have F_h57_105 : h57 105 = .inl (1, 512, .inl g57) := by rw [e_h57]; exact va_up_eq
      have F_h57_97 : h57 97 = .inl (1, 256, .inl lL) := by rw [e_h57, va_up_neq (by decide)]; exact F_hL_97
      have FR_h57 : Fr h h57 (fun j => j = 97 ∨ j = 105) := FR_hL.zup e_h57 (by first | exact rfl | exact Or.inl rfl | exact Or.inr rfl | exact ⟨by decide, by decide⟩ | decide | omega)
      clear F_hL_100 F_hL_102 F_hL_104 F_hL_105 F_hL_97 FR_hL e_h57
      rw [nI_clamp (by omega)] at e_g57
      have hdz : g57 z = nI (dpK (tN c 256).2.2 512 (ixK sy nn z)) := by rw [e_g57, pk_us, dp1]
      have hd2 : ∀ k, z ≤ k → k ≤ 2 * nn - 2 → g57 k = nI (dpK (tN c 256).2.2 512 (ixK sy nn k)) := fun k k1 k2 => by by_cases y : k = z; rw [y]; exact hdz; rw [e_g57, pk_un y]; exact hd k (by omega) k2
      have hsz : z < nn → sy z < 256 := fun q => (S.1 z q).1
      refine WX.s1 rfl rfl ?_
      refine WX.s1 rfl rfl ?_
      refine WX.icmp rfl (fun c_61 => ?_) (fun c_61 => ?_)
      · skip
        have n_61 : nn ≤ z := (nI_leI (a := nn) (b := z) (by omega) (by omega)).mp c_61
        refine WX.s1 (L' := [(0, .ref 100), (1, .int (nI nn)), (2, .ref 97), (3, .int (nI top)), (4, .int (nI (2 * nn - 2))), (5, .int ((nI z) + (-1)))]) rfl rfl ?_
        rw [show (nI z) + (-1) = qI z from qI_dec z]
        refine WX.s1 rfl rfl ?_
        exact ih top h57 g57 lL (by omega) htop FR_h57 F_h57_100 F_h57_102 F_h57_104 F_h57_105 F_h57_97 hd2 (fun q q1 q2 => hl1 q (by omega) q2) (fun s hs hq => hl2 s hs (fun q q1 q2 => hq q (by omega) q2)) (by rcases ht with y | ⟨q, q1, q2, q3⟩; exact Or.inl y; exact Or.inr ⟨q, by omega, q2, q3⟩)
      · skip
        have n_61 : z < nn := Nat.lt_of_not_le (fun zz_ => c_61 ((nI_leI (a := nn) (b := z) (by omega) (by omega)).mpr zz_))
        refine WX.s1 rfl rfl ?_
        refine WX.s1 rfl rfl ?_
        refine WX.get1 (fs := [.ref 101, .ref 102, .ref 103, .ref 104, .ref 105]) rfl (ltN hn (by decide)) (F_h57_100) rfl ?_
        refine WX.s1 rfl rfl ?_
        refine WX.iald1 rfl (Or.inl (ltN hn (by decide))) (F_h57_102) (vp_in_nI (N := 256) (by omega) (by decide)) ?_
        rw [nI_clamp (by omega), hyA z (by omega)]
        refine WX.s1 rfl rfl ?_
        refine WX.get1 (fs := [.ref 101, .ref 102, .ref 103, .ref 104, .ref 105]) rfl (ltN hn (by decide)) (F_h57_100) rfl ?_
        refine WX.s1 rfl rfl ?_
        refine WX.iald1 rfl (Or.inl (ltN hn (by decide))) (F_h57_105) (vp_in_nI (N := 512) (by omega) (by decide)) ?_
        rw [nI_clamp (by omega), hdz]
        refine WX.iastN rfl (ltN hn (by decide)) (F_h57_97) (vp_in_nI (N := 256) (by omega) (by decide)) (fun g79 h79 e_g79 e_h79 => ?_)
        try dsimp only at e_g79
        have F_h79_100 : h79 100 = .inr (4, [.ref 101, .ref 102, .ref 103, .ref 104, .ref 105]) := by rw [e_h79, va_up_neq (by decide)]; exact F_h57_100
        have F_h79_102 : h79 102 = .inl (1, 256, .inl yA) := by rw [e_h79, va_up_neq (by decide)]; exact F_h57_102
        have F_h79_104 : h79 104 = .inl (1, 512, .inl oA) := by rw [e_h79, va_up_neq (by decide)]; exact F_h57_104
        have F_h79_105 : h79 105 = .inl (1, 512, .inl g57) := by rw [e_h79, va_up_neq (by decide)]; exact F_h57_105
        have F_h79_97 : h79 97 = .inl (1, 256, .inl g79) := by rw [e_h79]; exact va_up_eq
        have FR_h79 : Fr h h79 (fun j => j = 97 ∨ j = 105) := FR_h57.zup e_h79 (by first | exact rfl | exact Or.inl rfl | exact Or.inr rfl | exact ⟨by decide, by decide⟩ | decide | omega)
        clear F_h57_100 F_h57_102 F_h57_104 F_h57_105 F_h57_97 FR_h57 e_h79
        refine WX.s1 rfl rfl ?_
        refine WX.s1 rfl rfl ?_
        refine WX.get1 (fs := [.ref 101, .ref 102, .ref 103, .ref 104, .ref 105]) rfl (ltN hn (by decide)) (F_h79_100) rfl ?_
        refine WX.s1 rfl rfl ?_
        refine WX.iald1 rfl (Or.inl (ltN hn (by decide))) (F_h79_105) (vp_in_nI (N := 512) (by omega) (by decide)) ?_
        rw [nI_clamp (by omega), hdz]
        refine WX.s1 (S' := [.int (if (nI top) < (nI (dpK (tN c 256).2.2 512 (ixK sy nn z))) then (nI (dpK (tN c 256).2.2 512 (ixK sy nn z))) else (nI top))]) rfl rfl ?_
        rw [nI_mx (by omega) (by omega)]
        refine WX.s1 (L' := [(0, .ref 100), (1, .int (nI nn)), (2, .ref 97), (3, .int (nI (max top (dpK (tN c 256).2.2 512 (ixK sy nn z))))), (4, .int (nI (2 * nn - 2))), (5, .int (nI z))]) rfl rfl ?_
        refine WX.s1 (L' := [(0, .ref 100), (1, .int (nI nn)), (2, .ref 97), (3, .int (nI (max top (dpK (tN c 256).2.2 512 (ixK sy nn z))))), (4, .int (nI (2 * nn - 2))), (5, .int ((nI z) + (-1)))]) rfl rfl ?_
        rw [show (nI z) + (-1) = qI z from qI_dec z]
        refine WX.s1 rfl rfl ?_
        rw [nI_clamp (by omega)] at e_g79
        refine ih (max top (dpK (tN c 256).2.2 512 (ixK sy nn z))) h79 g57 g79 (by omega) (by omega) FR_h79 F_h79_100 F_h79_102 F_h79_104 F_h79_105 F_h79_97 hd2 (fun q q1 q2 => ?_) (fun s hs hq => ?_) ?_
        · by_cases y : q = z
          · rw [y, e_g79, pk_us]; exact ⟨rfl, by omega⟩
          · have x := hl1 q (by omega) q2
            rw [e_g79, pk_un (fun e => y (sy_inj S q2 (by omega) e))]; exact ⟨x.1, by omega⟩
        · rw [e_g79, pk_un (fun e => hq z (Nat.le_refl _) (by omega) e.symm)]; exact hl2 s hs (fun q q1 q2 => hq q (by omega) q2)
        · by_cases y : top ≤ (dpK (tN c 256).2.2 512 (ixK sy nn z))
          · exact Or.inr ⟨z, Nat.le_refl _, by omega, (Nat.max_eq_right y).symm⟩
          · have hmx : max top (dpK (tN c 256).2.2 512 (ixK sy nn z)) = top := by omega
            rw [hmx]
            rcases ht with x | ⟨q, q1, q2, q3⟩
            · exact Or.inl x
            · exact Or.inr ⟨q, by omega, q2, q3⟩
  rw [← qI_pr (show 1 ≤ 2 * nn - 2 by omega)]
  exact lp (2 * nn - 2) 0 h25 g25 g2 (Nat.le_refl _) (by decide) FR_h25 F_h25_100 F_h25_102 F_h25_104 F_h25_105 F_h25_97 (fun k k1 k2 => by rw [show k = 2 * nn - 2 by omega, e_g25, pk_us, dF_root S h2n hC]; rfl) (fun q q1 q2 => absurd q2 (by omega)) (fun s hs _ => by rw [hg2 s hs]; rfl) (Or.inl rfl)
set_option maxRecDepth 20000 in
theorem x_knHalf {d n s : Nat} {h : Nat → aE} {c : Nat → Nat} {cA : Nat → Int32} (hn : 190 ≤ n) (hc : ∀ s, s < 256 → cA s = nI (c s) ∧ c s ≤ 8000) (F_h_100 : h 100 = .inr (4, [.ref 101, .ref 102, .ref 103, .ref 104, .ref 105])) (F_h_101 : h 101 = .inl (1, 256, .inl cA))  {Ψ : Option Value → aH → Prop} (kk : ∀ h' cA', Fr h h' (fun j => j = 101) → h' 101 = .inl (1, 256, .inl cA') → (∀ s, s < 256 → cA' s = nI (hvF c s) ∧ hvF c s ≤ 8000) → Ψ none (n, s, h')) : WO (mM (d + 1)) 50 [.ref 100] (n, s, h) Ψ := by
  refine WO.of (Nat.le_of_ble_eq_true rfl) ?_
  have FR_h : Fr h h (fun j => j = 101) := Fr.rf
  show WX (lk tX4_halve) (mM d) Ψ 0 [(0, .ref 100)] [] (n, s, h)
  refine WX.s1 rfl rfl ?_
  refine WX.s1 (L' := [(0, .ref 100), (1, .int 0)]) rfl rfl ?_
  have F0 := F_h_100
  have lp : ∀ (t i : Nat) (hL : Nat → aE) (cM : Nat → Int32), i + t = 256 → Fr h hL (fun j => j = 101) → hL 101 = .inl (1, 256, .inl cM) → (∀ s, s < 256 → cM s = nI (if s < i then hvF c s else c s)) → WX (lk tX4_halve) (mM d) Ψ 2 [(0, .ref 100), (1, .int (nI i))] [] (n, s, hL) := by
    clear FR_h F_h_100 F_h_101
    intro t
    induction t with
    | zero =>
      intro i hL cM hi FR_hL F_hL_101 hM
      have F_hL_100 : hL 100 = .inr (4, [.ref 101, .ref 102, .ref 103, .ref 104, .ref 105]) := (FR_hL _ (by decide)).trans F0
      obtain rfl : i = 256 := by omega
      refine WX.s1 rfl rfl ?_
      refine WX.s1 rfl rfl ?_
      refine WX.get1 (fs := [.ref 101, .ref 102, .ref 103, .ref 104, .ref 105]) rfl (ltN hn (by decide)) (F_hL_100) rfl ?_
      refine WX.len1 rfl (Or.inl ⟨ltN hn (by decide), by decide⟩) (F_hL_101) ?_
      refine WX.icmp rfl (fun c_8 => ?_) (fun c_8 => absurd ((nI_leI (a := 256) (b := 256) (by omega) (by omega)).mpr (by omega)) c_8)
      clear c_8
      exact WX.ret0 rfl (kk hL cM FR_hL F_hL_101 (fun s hs => by have q := (hc s hs).2; rw [hM s hs, if_pos hs]; exact ⟨rfl, by show (c s + 1) / 2 ≤ _; omega⟩))
    | succ t ih =>
      intro i hL cM hi FR_hL F_hL_101 hM
      have F_hL_100 : hL 100 = .inr (4, [.ref 101, .ref 102, .ref 103, .ref 104, .ref 105]) := (FR_hL _ (by decide)).trans F0
      have hci := (hc i (by omega)).2
      have hmi := hM i (by omega)
      rw [if_neg (Nat.lt_irrefl i)] at hmi
      refine WX.s1 rfl rfl ?_
      refine WX.s1 rfl rfl ?_
      refine WX.get1 (fs := [.ref 101, .ref 102, .ref 103, .ref 104, .ref 105]) rfl (ltN hn (by decide)) (F_hL_100) rfl ?_
      refine WX.len1 rfl (Or.inl ⟨ltN hn (by decide), by decide⟩) (F_hL_101) ?_
      refine WX.icmp rfl (fun c_8 => absurd c_8 (fun zz_ => absurd ((nI_leI (a := 256) (b := i) (by omega) (by omega)).mp zz_) (Nat.not_le.mpr (by omega)))) (fun c_8 => ?_)
      clear c_8
      refine WX.s1 rfl rfl ?_
      refine WX.get1 (fs := [.ref 101, .ref 102, .ref 103, .ref 104, .ref 105]) rfl (ltN hn (by decide)) (F_hL_100) rfl ?_
      refine WX.s1 rfl rfl ?_
      refine WX.s1 rfl rfl ?_
      refine WX.get1 (fs := [.ref 101, .ref 102, .ref 103, .ref 104, .ref 105]) rfl (ltN hn (by decide)) (F_hL_100) rfl ?_
      refine WX.s1 rfl rfl ?_
      refine WX.iald1 rfl (Or.inl (ltN hn (by decide))) (F_hL_101) (vp_in_nI (N := 256) (by omega) (by decide)) ?_
      rw [nI_clamp (by omega), hmi]
      refine WX.s1 rfl rfl ?_
      refine WX.s1 (S' := [.int ((nI (c i)) + 1), .int (nI i), .ref 101]) rfl rfl ?_
      rw [show ((nI (c i)) + 1) = nI (c i + 1) from nI_add (c i) 1]
      refine WX.s1 rfl rfl ?_
      refine WX.div rfl (by decide) ?_
      rw [show nI (c i + 1) / 2 = nI (hvF c i) from pk_div (by omega) (by decide) (by decide)]
      refine WX.iastN rfl (ltN hn (by decide)) (F_hL_101) (vp_in_nI (N := 256) (by omega) (by decide)) (fun g26 h26 e_g26 e_h26 => ?_)
      try dsimp only at e_g26
      have F_h26_100 : h26 100 = .inr (4, [.ref 101, .ref 102, .ref 103, .ref 104, .ref 105]) := by rw [e_h26, va_up_neq (by decide)]; exact F_hL_100
      have F_h26_101 : h26 101 = .inl (1, 256, .inl g26) := by rw [e_h26]; exact va_up_eq
      have FR_h26 : Fr h h26 (fun j => j = 101) := FR_hL.zup e_h26 (by first | exact rfl | exact Or.inl rfl | exact Or.inr rfl | exact ⟨by decide, by decide⟩ | decide | omega)
      clear F_hL_100 F_hL_101 FR_hL e_h26
      refine WX.s1 (L' := [(0, .ref 100), (1, .int ((nI i) + 1))]) rfl rfl ?_
      rw [show ((nI i) + 1) = nI (i + 1) from nI_add i 1]
      refine WX.s1 rfl rfl ?_
      rw [nI_clamp (by omega)] at e_g26
      refine ih (i + 1) h26 g26 (by omega) FR_h26 F_h26_101 (fun q hq => ?_)
      rw [e_g26]
      by_cases z : q = i
      · rw [z, pk_us, if_pos (by omega)]
      · rw [pk_un z, hM q hq]
        by_cases y : q < i
        · rw [if_pos y, if_pos (by omega)]
        · rw [if_neg y, if_neg (by omega)]
  exact lp 256 0 h cA (by omega) FR_h F_h_101 (fun s hs => by rw [if_neg (Nat.not_lt_zero s)]; exact (hc s hs).1)
