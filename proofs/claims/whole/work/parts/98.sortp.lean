/-! the sorted places -/
def rkF (u : Nat → Nat) (N o s p : Nat) : Nat := sumN (fun x => isE (ownF u N o x) s) p
def slotF (u : Nat → Nat) (N o p : Nat) : Nat := mSum u (ownF u N o p) + rkF u N o (ownF u N o p) p
theorem rk_succ (u : Nat → Nat) (N o s p : Nat) : rkF u N o s (p + 1) = rkF u N o s p + isE (ownF u N o p) s := rfl
theorem rk_le {u : Nat → Nat} {N o s p : Nat} (h1 : o = 0 ∨ 5 ≤ o) (h2 : o ≤ 9) (hS : mSum u N = 2 ^ o) (hs : s < N) (hp : p ≤ 2 ^ o) : rkF u N o s p ≤ massU (u s) := by
  rw [← own_mass h1 h2 hS hs]
  exact sumN_mono _ hp
theorem rk_own {u : Nat → Nat} {N o p : Nat} (h1 : o = 0 ∨ 5 ≤ o) (h2 : o ≤ 9) (hS : mSum u N = 2 ^ o) (hp : p < 2 ^ o) : rkF u N o (ownF u N o p) p + 1 ≤ massU (u (ownF u N o p)) := by
  have h := rk_le h1 h2 hS (own_lt h1 h2 hS hp) (show p + 1 ≤ 2 ^ o by omega)
  rw [rk_succ] at h
  have e : isE (ownF u N o p) (ownF u N o p) = 1 := if_pos rfl
  omega
theorem mSum_succ (u : Nat → Nat) (s : Nat) : mSum u (s + 1) = mSum u s + massU (u s) := rfl
theorem mSum_mono (u : Nat → Nat) {a b : Nat} (h : a ≤ b) : mSum u a ≤ mSum u b := sumN_mono _ h
theorem slot_lt {u : Nat → Nat} {N o p : Nat} (h1 : o = 0 ∨ 5 ≤ o) (h2 : o ≤ 9) (hS : mSum u N = 2 ^ o) (hp : p < 2 ^ o) : slotF u N o p < 2 ^ o := by
  have a := rk_own h1 h2 hS hp
  have b := own_lt h1 h2 hS hp
  have c := mSum_mono u (show ownF u N o p + 1 ≤ N by omega)
  rw [mSum_succ] at c
  unfold slotF
  omega
theorem slot_inj {u : Nat → Nat} {N o p q : Nat} (h1 : o = 0 ∨ 5 ≤ o) (h2 : o ≤ 9) (hS : mSum u N = 2 ^ o) (hpq : p < q) (hq : q < 2 ^ o) : slotF u N o p ≠ slotF u N o q := by
  have a1 := rk_own h1 h2 hS (show p < 2 ^ o by omega)
  have a2 := rk_own h1 h2 hS hq
  unfold slotF
  rcases Nat.lt_trichotomy (ownF u N o p) (ownF u N o q) with z | z | z
  · have c := mSum_mono u (show ownF u N o p + 1 ≤ ownF u N o q by omega)
    rw [mSum_succ] at c
    omega
  · have m : rkF u N o (ownF u N o q) (p + 1) ≤ rkF u N o (ownF u N o q) q := sumN_mono _ (by omega)
    rw [rk_succ] at m
    have e : isE (ownF u N o p) (ownF u N o q) = 1 := if_pos z
    rw [z]
    omega
  · have c := mSum_mono u (show ownF u N o q + 1 ≤ ownF u N o p by omega)
    rw [mSum_succ] at c
    omega
set_option maxRecDepth 20000 in
theorem x_sort {d n s : Nat} {h : Nat → aE} {k l o M : Nat} {od th : Int32} {pA fA oA sA : Nat → Int32} {u : Nat → Nat}  (hk : k + 6 < n) (hl : l < 64) (ho5 : o = 0 ∨ 5 ≤ o) (ho : o ≤ 9) (hM : 2 ^ o ≤ M) (hMb : M < 2 ^ 20) (hU : UIs pA u (l + 1)) (hS : mSum u (l + 1) = 2 ^ o) (hF : ∀ s, s ≤ l → fA s = nI (mSum u s)) (hO : ∀ p, p < 2 ^ o → oA p = nI (ownF u (l + 1) o p)) (F_h_k : h k = .inr (8, [.int (nI l), .ref (k + 1), .ref (k + 2), .ref (k + 3), .ref (k + 4), .ref (k + 5), .ref (k + 6), .int od, .int th])) (F_h__k_1_ : h (k + 1) = .inl (1, (l + 1), .inl pA)) (F_h__k_3_ : h (k + 3) = .inl (1, (l + 1), .inl fA)) (F_h__k_5_ : h (k + 5) = .inl (1, M, .inl oA)) (F_h__k_6_ : h (k + 6) = .inl (1, M, .inl sA))  {Ψ : Option Value → aH → Prop} (kk : ∀ h' fA' sA', Fr h h' (fun j => j = k + 3 ∨ j = k + 6) → h' (k + 3) = .inl (1, l + 1, .inl fA') → h' (k + 6) = .inl (1, M, .inl sA') → (∀ s, s ≤ l → fA' s = nI (mSum u s)) → (∀ p, p < 2 ^ o → sA' (slotF u (l + 1) o p) = nI p) → Ψ none (n, s, h')) : WO (mM (d + 1)) 105 [.ref k, .int (nI (2 ^ o))] (n, s, h) Ψ := by
  refine WO.of (Nat.le_of_ble_eq_true rfl) ?_
  have FR_h : Fr h h (fun j => j = k + 3 ∨ j = k + 6) := Fr.rf
  have h2o : 2 ^ o ≤ 2 ^ 9 := Nat.pow_le_pow_right (by decide) ho
  show WX (lk tX8_sortPlaces) (mM d) Ψ 0 [(0, .ref k), (1, .int (nI (2 ^ o)))] [] (n, s, h)
  refine WX.s1 rfl rfl ?_
  refine WX.s1 (L' := [(0, .ref k), (1, .int (nI (2 ^ o))), (2, .int 0)]) rfl rfl ?_
  have F0 := F_h_k
  have F1 := F_h__k_1_
  have F5 := F_h__k_5_
  have F3 := F_h__k_3_
  have F6 := F_h__k_6_
  clear F_h_k F_h__k_1_ F_h__k_5_ F_h__k_3_ F_h__k_6_
  have lp2 : ∀ (tt i : Nat) (hL : Nat → aE) (fL sL : Nat → Int32), i + tt = 2 ^ o → Fr h hL (fun j => j = k + 3 ∨ j = k + 6) → hL (k + 3) = .inl (1, l + 1, .inl fL) → hL (k + 6) = .inl (1, M, .inl sL) → (∀ s, s ≤ l → fL s = nI (mSum u s + rkF u (l + 1) o s i)) → (∀ p, p < i → sL (slotF u (l + 1) o p) = nI p) → WX (lk tX8_sortPlaces) (mM d) Ψ 2 [(0, .ref k), (1, .int (nI (2 ^ o))), (2, .int (nI i))] [] (n, s, hL) := by
    clear FR_h F3 F6 hF
    intro tt
    induction tt with
    | zero =>
      intro i hL fL sL hi FR_hL F_hL__k_3_ F_hL__k_6_ hfL hsL
      have F_hL_k : hL k = .inr (8, [.int (nI l), .ref (k + 1), .ref (k + 2), .ref (k + 3), .ref (k + 4), .ref (k + 5), .ref (k + 6), .int od, .int th]) := (FR_hL k (by omega)).trans F0
      have F_hL__k_1_ : hL (k + 1) = .inl (1, l + 1, .inl pA) := (FR_hL (k + 1) (by omega)).trans F1
      have F_hL__k_5_ : hL (k + 5) = .inl (1, M, .inl oA) := (FR_hL (k + 5) (by omega)).trans F5
      obtain rfl : i = 2 ^ o := by omega
      refine WX.s1 rfl rfl ?_
      refine WX.s1 rfl rfl ?_
      refine WX.icmp rfl (fun c_4 => ?_) (fun c_4 => absurd ((nI_leI (a := 2 ^ o) (b := 2 ^ o) (by omega) (by omega)).mpr (by omega)) c_4)
      clear c_4
      refine WX.s1 rfl rfl ?_
      refine WX.s1 (L' := [(0, .ref k), (1, .int (nI (2 ^ o))), (2, .int 0)]) rfl rfl ?_
      have lp54 : ∀ (tt i : Nat) (hL : Nat → aE) (fM : Nat → Int32), i + tt = l + 1 → Fr h hL (fun j => j = k + 3 ∨ j = k + 6) → hL (k + 3) = .inl (1, l + 1, .inl fM) → hL (k + 6) = .inl (1, M, .inl sL) → (∀ s, s < i → fM s = nI (mSum u s)) → (∀ s, i ≤ s → s ≤ l → fM s = nI (mSum u s + massU (u s))) → WX (lk tX8_sortPlaces) (mM d) Ψ 54 [(0, .ref k), (1, .int (nI (2 ^ o))), (2, .int (nI i))] [] (n, s, hL) := by
        clear FR_hL F_hL_k F_hL__k_1_ F_hL__k_3_ F_hL__k_5_ F_hL__k_6_
        intro tt
        induction tt with
        | zero =>
          intro i hL fM hi FR_hL F_hL__k_3_ F_hL__k_6_ hf1 hf2
          have F_hL_k : hL k = .inr (8, [.int (nI l), .ref (k + 1), .ref (k + 2), .ref (k + 3), .ref (k + 4), .ref (k + 5), .ref (k + 6), .int od, .int th]) := (FR_hL k (by omega)).trans F0
          have F_hL__k_1_ : hL (k + 1) = .inl (1, l + 1, .inl pA) := (FR_hL (k + 1) (by omega)).trans F1
          have F_hL__k_5_ : hL (k + 5) = .inl (1, M, .inl oA) := (FR_hL (k + 5) (by omega)).trans F5
          refine WX.s1 rfl rfl ?_
          refine WX.s1 rfl rfl ?_
          refine WX.get1 (fs := [.int (nI l), .ref (k + 1), .ref (k + 2), .ref (k + 3), .ref (k + 4), .ref (k + 5), .ref (k + 6), .int od, .int th]) rfl (by omega) (F_hL_k) rfl ?_
          refine WX.icmp rfl (fun c_59 => ?_) (fun c_59 => absurd ((nI_ltI (a := l) (b := i) (by omega) (by omega)).mpr (by omega)) c_59)
          clear c_59
          exact WX.ret0 rfl (kk hL fM sL FR_hL F_hL__k_3_ F_hL__k_6_ (fun s hs => hf1 s (by omega)) hsL)
        | succ tt ih =>
          intro i hL fM hi FR_hL F_hL__k_3_ F_hL__k_6_ hf1 hf2
          have F_hL_k : hL k = .inr (8, [.int (nI l), .ref (k + 1), .ref (k + 2), .ref (k + 3), .ref (k + 4), .ref (k + 5), .ref (k + 6), .int od, .int th]) := (FR_hL k (by omega)).trans F0
          have F_hL__k_1_ : hL (k + 1) = .inl (1, l + 1, .inl pA) := (FR_hL (k + 1) (by omega)).trans F1
          have F_hL__k_5_ : hL (k + 5) = .inl (1, M, .inl oA) := (FR_hL (k + 5) (by omega)).trans F5
          have hui := (hU i (by omega)).2
          refine WX.s1 rfl rfl ?_
          refine WX.s1 rfl rfl ?_
          refine WX.get1 (fs := [.int (nI l), .ref (k + 1), .ref (k + 2), .ref (k + 3), .ref (k + 4), .ref (k + 5), .ref (k + 6), .int od, .int th]) rfl (by omega) (F_hL_k) rfl ?_
          refine WX.icmp rfl (fun c_59 => absurd c_59 (fun zz_ => absurd ((nI_ltI (a := l) (b := i) (by omega) (by omega)).mp zz_) (Nat.not_lt.mpr (by omega)))) (fun c_59 => ?_)
          clear c_59
          refine WX.s1 rfl rfl ?_
          refine WX.get1 (fs := [.int (nI l), .ref (k + 1), .ref (k + 2), .ref (k + 3), .ref (k + 4), .ref (k + 5), .ref (k + 6), .int od, .int th]) rfl (by omega) (F_hL_k) rfl ?_
          refine WX.s1 rfl rfl ?_
          refine WX.s1 rfl rfl ?_
          refine WX.iald1 rfl (Or.inl (by omega)) (F_hL__k_3_) (vp_in_nI (by omega) (by omega)) ?_
          rw [nI_clamp (by omega), hf2 i (Nat.le_refl _) (by omega)]
          refine WX.s1 rfl rfl ?_
          refine WX.get1 (fs := [.int (nI l), .ref (k + 1), .ref (k + 2), .ref (k + 3), .ref (k + 4), .ref (k + 5), .ref (k + 6), .int od, .int th]) rfl (by omega) (F_hL_k) rfl ?_
          refine WX.s1 rfl rfl ?_
          refine WX.iald1 rfl (Or.inl (by omega)) (F_hL__k_1_) (vp_in_nI (by omega) (by omega)) ?_
          rw [nI_clamp (by omega), (hU i (by omega)).1]
          refine WX.s1 (S' := [.int (if 0 ≤ (qI (u i)) then (qI (u i)) else 0 - (qI (u i))), .int (nI (mSum u i + massU (u i))), .int (nI i), .ref (k + 3)]) rfl rfl ?_
          rw [qI_abs (by omega)]
          refine WX.s1 (S' := [.int ((nI (mSum u i + massU (u i))) - (nI (massU (u i)))), .int (nI i), .ref (k + 3)]) rfl rfl ?_
          rw [nI_subN (by omega), show mSum u i + massU (u i) - massU (u i) = mSum u i by omega]
          refine WX.iastN rfl (by omega) (F_hL__k_3_) (vp_in_nI (by omega) (by omega)) (fun g79 h79 e_g79 e_h79 => ?_)
          try dsimp only at e_g79
          have F_h79_k : h79 k = .inr (8, [.int (nI l), .ref (k + 1), .ref (k + 2), .ref (k + 3), .ref (k + 4), .ref (k + 5), .ref (k + 6), .int od, .int th]) := by rw [e_h79, va_up_neq (nek1 (a := 3) (by decide))]; exact F_hL_k
          have F_h79__k_1_ : h79 (k + 1) = .inl (1, (l + 1), .inl pA) := by rw [e_h79, va_up_neq (nek (a := 1) (b := 3) (by decide))]; exact F_hL__k_1_
          have F_h79__k_3_ : h79 (k + 3) = .inl (1, (l + 1), .inl g79) := by rw [e_h79]; exact va_up_eq
          have F_h79__k_5_ : h79 (k + 5) = .inl (1, M, .inl oA) := by rw [e_h79, va_up_neq (nek (a := 5) (b := 3) (by decide))]; exact F_hL__k_5_
          have F_h79__k_6_ : h79 (k + 6) = .inl (1, M, .inl sL) := by rw [e_h79, va_up_neq (nek (a := 6) (b := 3) (by decide))]; exact F_hL__k_6_
          have FR_h79 : Fr h h79 (fun j => j = k + 3 ∨ j = k + 6) := FR_hL.zup e_h79 (by first | exact rfl | exact Or.inl rfl | exact Or.inr rfl | exact ⟨by decide, by decide⟩ | decide | omega)
          refine WX.s1 (L' := [(0, .ref k), (1, .int (nI (2 ^ o))), (2, .int ((nI i) + 1))]) rfl rfl ?_
          rw [show ((nI i) + 1) = nI (i + 1) from nI_add i 1]
          refine WX.s1 rfl rfl ?_
          refine ih (i + 1) h79 g79 (by omega) FR_h79 F_h79__k_3_ F_h79__k_6_ (fun s hs => ?_) (fun s h1 h2 => ?_)
          · rw [e_g79, nI_clamp (by omega)]
            by_cases z : s = i
            · rw [z, pk_us]
            · rw [pk_un z]; exact hf1 s (by omega)
          · rw [e_g79, nI_clamp (by omega), pk_un (by omega)]; exact hf2 s (by omega) h2
      exact lp54 (l + 1) 0 hL fL (by omega) FR_hL F_hL__k_3_ F_hL__k_6_ (fun s hs => absurd hs (Nat.not_lt_zero s)) (fun s _ hs => by rw [hfL s hs, show rkF u (l + 1) o s (2 ^ o) = massU (u s) from own_mass ho5 ho hS (by omega)])
    | succ tt ih =>
      intro i hL fL sL hi FR_hL F_hL__k_3_ F_hL__k_6_ hfL hsL
      have F_hL_k : hL k = .inr (8, [.int (nI l), .ref (k + 1), .ref (k + 2), .ref (k + 3), .ref (k + 4), .ref (k + 5), .ref (k + 6), .int od, .int th]) := (FR_hL k (by omega)).trans F0
      have F_hL__k_1_ : hL (k + 1) = .inl (1, l + 1, .inl pA) := (FR_hL (k + 1) (by omega)).trans F1
      have F_hL__k_5_ : hL (k + 5) = .inl (1, M, .inl oA) := (FR_hL (k + 5) (by omega)).trans F5
      have hown := own_lt ho5 ho hS (show i < 2 ^ o by omega)
      have hrk := rk_own ho5 ho hS (show i < 2 ^ o by omega)
      have hsl := slot_lt ho5 ho hS (show i < 2 ^ o by omega)
      have hf := hfL (ownF u (l + 1) o i) (by omega)
      have esl : mSum u (ownF u (l + 1) o i) + rkF u (l + 1) o (ownF u (l + 1) o i) i = slotF u (l + 1) o i := rfl
      rw [esl] at hf
      refine WX.s1 rfl rfl ?_
      refine WX.s1 rfl rfl ?_
      refine WX.icmp rfl (fun c_4 => absurd c_4 (fun zz_ => absurd ((nI_leI (a := 2 ^ o) (b := i) (by omega) (by omega)).mp zz_) (Nat.not_le.mpr (by omega)))) (fun c_4 => ?_)
      clear c_4
      refine WX.s1 rfl rfl ?_
      refine WX.get1 (fs := [.int (nI l), .ref (k + 1), .ref (k + 2), .ref (k + 3), .ref (k + 4), .ref (k + 5), .ref (k + 6), .int od, .int th]) rfl (by omega) (F_hL_k) rfl ?_
      refine WX.s1 rfl rfl ?_
      refine WX.iald1 rfl (Or.inl (by omega)) (F_hL__k_5_) (vp_in_nI (by omega) (by omega)) ?_
      rw [nI_clamp (by omega), hO i (by omega)]
      refine WX.s1 (L' := [(0, .ref k), (1, .int (nI (2 ^ o))), (2, .int (nI i)), (3, .int (nI (ownF u (l + 1) o i)))]) rfl rfl ?_
      refine WX.s1 rfl rfl ?_
      refine WX.get1 (fs := [.int (nI l), .ref (k + 1), .ref (k + 2), .ref (k + 3), .ref (k + 4), .ref (k + 5), .ref (k + 6), .int od, .int th]) rfl (by omega) (F_hL_k) rfl ?_
      refine WX.s1 rfl rfl ?_
      refine WX.iald1 rfl (Or.inl (by omega)) (F_hL__k_3_) (vp_in_nI (by omega) (by omega)) ?_
      rw [nI_clamp (by omega), hf]
      refine WX.s1 rfl rfl ?_
      refine WX.icmp rfl (fun c_21 => absurd c_21 (fun zz_ => absurd ((nI_leI (a := 2 ^ o) (b := slotF u (l + 1) o i) (by omega) (by omega)).mp zz_) (Nat.not_le.mpr (by omega)))) (fun c_21 => ?_)
      clear c_21
      refine WX.s1 rfl rfl ?_
      refine WX.get1 (fs := [.int (nI l), .ref (k + 1), .ref (k + 2), .ref (k + 3), .ref (k + 4), .ref (k + 5), .ref (k + 6), .int od, .int th]) rfl (by omega) (F_hL_k) rfl ?_
      refine WX.s1 rfl rfl ?_
      refine WX.get1 (fs := [.int (nI l), .ref (k + 1), .ref (k + 2), .ref (k + 3), .ref (k + 4), .ref (k + 5), .ref (k + 6), .int od, .int th]) rfl (by omega) (F_hL_k) rfl ?_
      refine WX.s1 rfl rfl ?_
      refine WX.iald1 rfl (Or.inl (by omega)) (F_hL__k_3_) (vp_in_nI (by omega) (by omega)) ?_
      rw [nI_clamp (by omega), hf]
      refine WX.s1 rfl rfl ?_
      refine WX.iastN rfl (by omega) (F_hL__k_6_) (vp_in_nI (by omega) (by omega)) (fun g35 h35 e_g35 e_h35 => ?_)
      try dsimp only at e_g35
      have F_h35_k : h35 k = .inr (8, [.int (nI l), .ref (k + 1), .ref (k + 2), .ref (k + 3), .ref (k + 4), .ref (k + 5), .ref (k + 6), .int od, .int th]) := by rw [e_h35, va_up_neq (nek1 (a := 6) (by decide))]; exact F_hL_k
      have F_h35__k_1_ : h35 (k + 1) = .inl (1, (l + 1), .inl pA) := by rw [e_h35, va_up_neq (nek (a := 1) (b := 6) (by decide))]; exact F_hL__k_1_
      have F_h35__k_3_ : h35 (k + 3) = .inl (1, (l + 1), .inl fL) := by rw [e_h35, va_up_neq (nek (a := 3) (b := 6) (by decide))]; exact F_hL__k_3_
      have F_h35__k_5_ : h35 (k + 5) = .inl (1, M, .inl oA) := by rw [e_h35, va_up_neq (nek (a := 5) (b := 6) (by decide))]; exact F_hL__k_5_
      have F_h35__k_6_ : h35 (k + 6) = .inl (1, M, .inl g35) := by rw [e_h35]; exact va_up_eq
      have FR_h35 : Fr h h35 (fun j => j = k + 3 ∨ j = k + 6) := FR_hL.zup e_h35 (by first | exact rfl | exact Or.inl rfl | exact Or.inr rfl | exact ⟨by decide, by decide⟩ | decide | omega)
      refine WX.s1 rfl rfl ?_
      refine WX.get1 (fs := [.int (nI l), .ref (k + 1), .ref (k + 2), .ref (k + 3), .ref (k + 4), .ref (k + 5), .ref (k + 6), .int od, .int th]) rfl (by omega) (F_h35_k) rfl ?_
      refine WX.s1 rfl rfl ?_
      refine WX.s1 rfl rfl ?_
      refine WX.iald1 rfl (Or.inl (by omega)) (F_h35__k_3_) (vp_in_nI (by omega) (by omega)) ?_
      rw [nI_clamp (by omega), hf]
      refine WX.s1 rfl rfl ?_
      refine WX.s1 (S' := [.int ((nI (slotF u (l + 1) o i)) + 1), .int (nI (ownF u (l + 1) o i)), .ref (k + 3)]) rfl rfl ?_
      rw [show ((nI (slotF u (l + 1) o i)) + 1) = nI (slotF u (l + 1) o i + 1) from nI_add (slotF u (l + 1) o i) 1]
      refine WX.iastN rfl (by omega) (F_h35__k_3_) (vp_in_nI (by omega) (by omega)) (fun g45 h45 e_g45 e_h45 => ?_)
      try dsimp only at e_g45
      have F_h45_k : h45 k = .inr (8, [.int (nI l), .ref (k + 1), .ref (k + 2), .ref (k + 3), .ref (k + 4), .ref (k + 5), .ref (k + 6), .int od, .int th]) := by rw [e_h45, va_up_neq (nek1 (a := 3) (by decide))]; exact F_h35_k
      have F_h45__k_1_ : h45 (k + 1) = .inl (1, (l + 1), .inl pA) := by rw [e_h45, va_up_neq (nek (a := 1) (b := 3) (by decide))]; exact F_h35__k_1_
      have F_h45__k_3_ : h45 (k + 3) = .inl (1, (l + 1), .inl g45) := by rw [e_h45]; exact va_up_eq
      have F_h45__k_5_ : h45 (k + 5) = .inl (1, M, .inl oA) := by rw [e_h45, va_up_neq (nek (a := 5) (b := 3) (by decide))]; exact F_h35__k_5_
      have F_h45__k_6_ : h45 (k + 6) = .inl (1, M, .inl g35) := by rw [e_h45, va_up_neq (nek (a := 6) (b := 3) (by decide))]; exact F_h35__k_6_
      have FR_h45 : Fr h h45 (fun j => j = k + 3 ∨ j = k + 6) := FR_h35.zup e_h45 (by first | exact rfl | exact Or.inl rfl | exact Or.inr rfl | exact ⟨by decide, by decide⟩ | decide | omega)
      refine WX.s1 (L' := [(0, .ref k), (1, .int (nI (2 ^ o))), (2, .int ((nI i) + 1)), (3, .int (nI (ownF u (l + 1) o i)))]) rfl rfl ?_
      rw [show ((nI i) + 1) = nI (i + 1) from nI_add i 1]
      refine WX.s1 rfl rfl ?_
      refine WX.keep (y := 105) [0, 1, 2] (show ([0, 1, 2, 3] : List Nat).Nodup by decide) rfl ?_
      refine ih (i + 1) h45 g45 g35 (by omega) FR_h45 F_h45__k_3_ F_h45__k_6_ (fun s hs => ?_) (fun p hp => ?_)
      · rw [e_g45, nI_clamp (by omega), rk_succ]
        by_cases z : s = ownF u (l + 1) o i
        · rw [z, pk_us, show isE (ownF u (l + 1) o i) (ownF u (l + 1) o i) = 1 from if_pos rfl, ← Nat.add_assoc, esl]
        · rw [pk_un z, show isE (ownF u (l + 1) o i) s = 0 from if_neg (fun y => z y.symm), Nat.add_zero]; exact hfL s hs
      · rw [e_g35, nI_clamp (by omega)]
        by_cases z : p = i
        · rw [z, pk_us]
        · rw [pk_un (slot_inj ho5 ho hS (show p < i by omega) (by omega))]; exact hsL p (by omega)
  exact lp2 (2 ^ o) 0 h fA sA (by omega) FR_h F3 F6 hF (fun p hp => absurd hp (Nat.not_lt_zero p))
set_option maxRecDepth 20000 in
theorem x_spreadS {d n s : Nat} {h : Nat → aE} {k l o M : Nat} {th : Int32} {pA fA wA oA sA : Nat → Int32} {u : Nat → Nat}  (hk : k + 6 < n) (hl : l < 64) (ho5 : o = 0 ∨ 5 ≤ o) (ho : o ≤ 9) (hM : 2 ^ o ≤ M) (hMb : M < 2 ^ 20) (hU : UIs pA u (l + 1)) (hS : mSum u (l + 1) = 2 ^ o) (F_h_k : h k = .inr (8, [.int (nI l), .ref (k + 1), .ref (k + 2), .ref (k + 3), .ref (k + 4), .ref (k + 5), .ref (k + 6), .int (nI o), .int th])) (F_h__k_1_ : h (k + 1) = .inl (1, (l + 1), .inl pA)) (F_h__k_3_ : h (k + 3) = .inl (1, (l + 1), .inl fA)) (F_h__k_4_ : h (k + 4) = .inl (1, (l + 1), .inl wA)) (F_h__k_5_ : h (k + 5) = .inl (1, M, .inl oA)) (F_h__k_6_ : h (k + 6) = .inl (1, M, .inl sA))  {Ψ : Option Value → aH → Prop} (kk : ∀ h' fA' wA' oA' sA', Fr h h' (fun j => k ≤ j ∧ j ≤ k + 6 ∧ j ≠ k + 2) → h' k = .inr (8, [.int (nI l), .ref (k + 1), .ref (k + 2), .ref (k + 3), .ref (k + 4), .ref (k + 5), .ref (k + 6), .int (nI o), .int 1]) → h' (k + 1) = .inl (1, l + 1, .inl pA) → h' (k + 3) = .inl (1, l + 1, .inl fA') → h' (k + 4) = .inl (1, l + 1, .inl wA') → h' (k + 5) = .inl (1, M, .inl oA') → h' (k + 6) = .inl (1, M, .inl sA') → (∀ s, s ≤ l → fA' s = nI (mSum u s)) → (∀ s, s ≤ l → massU (u s) ≠ 0 → ∃ g, 2 ^ g ≤ massU (u s) ∧ massU (u s) < 2 ^ (g + 1) ∧ wA' s = nI (o - g)) → (∀ p, p < 2 ^ o → oA' p = nI (ownF u (l + 1) o p)) → (∀ p, p < 2 ^ o → sA' (slotF u (l + 1) o p) = nI p) → Ψ none (n, s, h')) : WO (mM (d + 2)) 103 [.ref k] (n, s, h) Ψ := by
  refine WO.of (Nat.le_of_ble_eq_true rfl) ?_
  have FR_h : Fr h h (fun j => k ≤ j ∧ j ≤ k + 6 ∧ j ≠ k + 2) := Fr.rf
  have h2o : 2 ^ o ≤ 2 ^ 9 := Nat.pow_le_pow_right (by decide) ho
  have hcn := cum_neg u (l + 1)
  show WX (lk tX8_spread) (mM (d + 1)) Ψ 0 [(0, .ref k)] [] (n, s, h)
  refine WX.s1 rfl rfl ?_
  refine WX.s1 rfl rfl ?_
  refine WX.get1 (fs := [.int (nI l), .ref (k + 1), .ref (k + 2), .ref (k + 3), .ref (k + 4), .ref (k + 5), .ref (k + 6), .int (nI o), .int th]) rfl (by omega) (F_h_k) rfl ?_
  refine WX.s1 (S' := [.int (1 <<< ((nI o) &&& 31))]) rfl rfl ?_
  rw [sh1 o (by omega)]
  refine WX.s1 rfl rfl ?_
  refine WX.get1 (fs := [.int (nI l), .ref (k + 1), .ref (k + 2), .ref (k + 3), .ref (k + 4), .ref (k + 5), .ref (k + 6), .int (nI o), .int th]) rfl (by omega) (F_h_k) rfl ?_
  refine WX.len1 rfl (Or.inl ⟨by omega, by decide⟩) (F_h__k_5_) ?_
  refine WX.s1 (S' := [.int (if (nI M) < (nI (2 ^ o)) then (nI M) else (nI (2 ^ o)))]) rfl rfl ?_
  rw [if_neg (nI_nlt (by omega) (by omega))]
  refine WX.s1 (L' := [(0, .ref k), (1, .int (nI (2 ^ o)))]) rfl rfl ?_
  refine WX.s1 rfl rfl ?_
  refine WX.s1 (L' := [(0, .ref k), (1, .int (nI (2 ^ o))), (2, .int (nI (2 ^ o)))]) rfl rfl ?_
  refine WX.s1 rfl rfl ?_
  refine WX.s1 (L' := [(0, .ref k), (1, .int (nI (2 ^ o))), (2, .int (nI (2 ^ o))), (3, .int 0)]) rfl rfl ?_
  refine WX.s1 rfl rfl ?_
  refine WX.s1 (L' := [(0, .ref k), (1, .int (nI (2 ^ o))), (2, .int (nI (2 ^ o))), (3, .int 0), (4, .int 0)]) rfl rfl ?_
  have F0 := F_h_k
  have F1 := F_h__k_1_
  have F6 := F_h__k_6_
  have F3 := F_h__k_3_
  have F4 := F_h__k_4_
  have F5 := F_h__k_5_
  clear F_h_k F_h__k_1_ F_h__k_3_ F_h__k_4_ F_h__k_5_ F_h__k_6_
  have hfr0 : Fr h h (fun j => j = k + 3 ∨ j = k + 4 ∨ j = k + 5) := Fr.rf
  have lp : ∀ (tt i : Nat) (hL : Nat → aE) (fL wL oL : Nat → Int32), i + tt = l + 1 → Fr h hL (fun j => j = k + 3 ∨ j = k + 4 ∨ j = k + 5) → hL (k + 3) = .inl (1, l + 1, .inl fL) → hL (k + 4) = .inl (1, l + 1, .inl wL) → hL (k + 5) = .inl (1, M, .inl oL) → (∀ s, s < i → fL s = nI (mSum u s)) → (∀ s, s < i → massU (u s) ≠ 0 → ∃ g, 2 ^ g ≤ massU (u s) ∧ massU (u s) < 2 ^ (g + 1) ∧ wL s = nI (o - g)) → (∀ x, x < i → u x = 0 → oL (2 ^ o - 1 - negU u x) = nI x) → WX (lk tX8_spread) (mM (d + 1)) Ψ 22 [(0, .ref k), (1, .int (nI (2 ^ o))), (2, .int (nI (2 ^ o - negU u i))), (3, .int (nI (mSum u i))), (4, .int (nI i))] [] (n, s, hL) := by
    clear FR_h F3 F4 F5 hfr0
    intro tt
    induction tt with
    | zero =>
      intro i hL fL wL oL hi FR_hL F_hL__k_3_ F_hL__k_4_ F_hL__k_5_ hfL hwL hoL
      have F_hL_k : hL k = .inr (8, [.int (nI l), .ref (k + 1), .ref (k + 2), .ref (k + 3), .ref (k + 4), .ref (k + 5), .ref (k + 6), .int (nI o), .int th]) := (FR_hL k (by omega)).trans F0
      have F_hL__k_1_ : hL (k + 1) = .inl (1, l + 1, .inl pA) := (FR_hL (k + 1) (by omega)).trans F1
      have F_hL__k_6_ : hL (k + 6) = .inl (1, M, .inl sA) := (FR_hL (k + 6) (by omega)).trans F6
      obtain rfl : i = l + 1 := by omega
      rw [show 2 ^ o - negU u (l + 1) = cumU u (l + 1) by omega]
      refine WX.s1 rfl rfl ?_
      refine WX.s1 rfl rfl ?_
      refine WX.get1 (fs := [.int (nI l), .ref (k + 1), .ref (k + 2), .ref (k + 3), .ref (k + 4), .ref (k + 5), .ref (k + 6), .int (nI o), .int th]) rfl (by omega) (F_hL_k) rfl ?_
      refine WX.icmp rfl (fun c_28 => ?_) (fun c_28 => absurd ((nI_ltI (a := l) (b := l + 1) (by omega) (by omega)).mpr (by omega)) c_28)
      clear c_28
      refine WX.s1 rfl rfl ?_
      refine WX.s1 rfl rfl ?_
      refine WX.s1 rfl rfl ?_
      refine WX.callC (vs := [.ref k, .int (nI (cumU u (l + 1))), .int (nI (2 ^ o))]) rfl rfl rfl (Nat.le_of_ble_eq_true rfl) (rcv_ok (by omega) F_hL_k) ?_
      refine x_below hk hl ho5 ho hM hMb hU hS (fun p h1 h2 => ?_) F_hL_k F_hL__k_1_ F_hL__k_5_ (fun h2 o2 fr2 F_h2__k_5_ hO2 => ?_)
      · obtain ⟨x, x1, x2, x3⟩ := neg_ex (u := u) (N := l + 1) (j := 2 ^ o - 1 - p) (by omega)
        have e1 : ownF u (l + 1) o p = x := by unfold ownF; rw [if_neg (by omega), ← x3]; exact hiR_is x2 _ x1
        have e2 := hoL x x1 x2
        rw [x3, show 2 ^ o - 1 - (2 ^ o - 1 - p) = p by omega] at e2
        rw [e1]; exact e2
      · show WX _ _ _ 119 [(0, .ref k), (1, .int (nI (2 ^ o))), (2, .int (nI (cumU u (l + 1)))), (3, .int (nI (mSum u (l + 1)))), (4, .int (nI (l + 1)))] [] (n, s, h2)
        have F_h2_k : h2 k = .inr (8, [.int (nI l), .ref (k + 1), .ref (k + 2), .ref (k + 3), .ref (k + 4), .ref (k + 5), .ref (k + 6), .int (nI o), .int th]) := (fr2 _ (by omega)).trans F_hL_k
        have F_h2__k_1_ : h2 (k + 1) = .inl (1, (l + 1), .inl pA) := (fr2 _ (by omega)).trans F_hL__k_1_
        have F_h2__k_3_ : h2 (k + 3) = .inl (1, (l + 1), .inl fL) := (fr2 _ (by omega)).trans F_hL__k_3_
        have F_h2__k_4_ : h2 (k + 4) = .inl (1, (l + 1), .inl wL) := (fr2 _ (by omega)).trans F_hL__k_4_
        have F_h2__k_6_ : h2 (k + 6) = .inl (1, M, .inl sA) := (fr2 _ (by omega)).trans F_hL__k_6_
        refine WX.s1 rfl rfl ?_
        refine WX.s1 rfl rfl ?_
        refine WX.callC (vs := [.ref k, .int (nI (2 ^ o))]) rfl rfl rfl (Nat.le_of_ble_eq_true rfl) (rcv_ok (by omega) F_h2_k) ?_
        refine x_sort hk hl ho5 ho hM hMb hU hS (fun s hs => hfL s (by omega)) hO2 F_h2_k F_h2__k_1_ F_h2__k_3_ F_h2__k_5_ F_h2__k_6_ (fun h3 f3 s3 fr3 F_h3__k_3_ F_h3__k_6_ hf3 hs3 => ?_)
        show WX _ _ _ 124 [(0, .ref k), (1, .int (nI (2 ^ o))), (2, .int (nI (cumU u (l + 1)))), (3, .int (nI (mSum u (l + 1)))), (4, .int (nI (l + 1)))] [] (n, s, h3)
        have F_h3_k : h3 k = .inr (8, [.int (nI l), .ref (k + 1), .ref (k + 2), .ref (k + 3), .ref (k + 4), .ref (k + 5), .ref (k + 6), .int (nI o), .int th]) := (fr3 _ (by omega)).trans F_h2_k
        have F_h3__k_1_ : h3 (k + 1) = .inl (1, (l + 1), .inl pA) := (fr3 _ (by omega)).trans F_h2__k_1_
        have F_h3__k_4_ : h3 (k + 4) = .inl (1, (l + 1), .inl wL) := (fr3 _ (by omega)).trans F_h2__k_4_
        have F_h3__k_5_ : h3 (k + 5) = .inl (1, M, .inl o2) := (fr3 _ (by omega)).trans F_h2__k_5_
        refine WX.s1 rfl rfl ?_
        refine WX.s1 rfl rfl ?_
        refine WX.put1 (fs := [.int (nI l), .ref (k + 1), .ref (k + 2), .ref (k + 3), .ref (k + 4), .ref (k + 5), .ref (k + 6), .int (nI o), .int th]) (fs' := [.int (nI l), .ref (k + 1), .ref (k + 2), .ref (k + 3), .ref (k + 4), .ref (k + 5), .ref (k + 6), .int (nI o), .int 1]) rfl (by omega) F_h3_k (Nat.le_of_ble_eq_true rfl) rfl rfl (fun h4 e4 => ?_)
        have up : ∀ j, j ≠ k → h4 j = h3 j := fun j hj => by rw [e4]; exact va_up_neq hj
        exact WX.ret0 rfl (kk h4 f3 wL o2 s3 (fun j hj => ((up j (by omega)).trans (fr3 j (by omega))).trans ((fr2 j (by omega)).trans (FR_hL j (by omega)))) (by rw [e4]; exact va_up_eq) ((up _ (by omega)).trans F_h3__k_1_) ((up _ (by omega)).trans F_h3__k_3_) ((up _ (by omega)).trans F_h3__k_4_) ((up _ (by omega)).trans F_h3__k_5_) ((up _ (by omega)).trans F_h3__k_6_) hf3 (fun s hs => hwL s (by omega)) hO2 hs3)
    | succ tt ih =>
      intro i hL fL wL oL hi FR_hL F_hL__k_3_ F_hL__k_4_ F_hL__k_5_ hfL hwL hoL
      have F_hL_k : hL k = .inr (8, [.int (nI l), .ref (k + 1), .ref (k + 2), .ref (k + 3), .ref (k + 4), .ref (k + 5), .ref (k + 6), .int (nI o), .int th]) := (FR_hL k (by omega)).trans F0
      have F_hL__k_1_ : hL (k + 1) = .inl (1, l + 1, .inl pA) := (FR_hL (k + 1) (by omega)).trans F1
      have F_hL__k_6_ : hL (k + 6) = .inl (1, M, .inl sA) := (FR_hL (k + 6) (by omega)).trans F6
      have hui := (hU i (by omega)).2
      have hms := mSum_mono u (show i + 1 ≤ l + 1 by omega)
      rw [mSum_succ] at hms
      have hns := cum_neg u (i + 1)
      have hnn : negU u (i + 1) = negU u i + (if u i = 0 then 1 else 0) := rfl
      have hni := cum_neg u i
      have hng : negU u (i + 1) ≤ 2 ^ o := by have := mSum_succ u i; omega
      refine WX.s1 rfl rfl ?_
      refine WX.s1 rfl rfl ?_
      refine WX.get1 (fs := [.int (nI l), .ref (k + 1), .ref (k + 2), .ref (k + 3), .ref (k + 4), .ref (k + 5), .ref (k + 6), .int (nI o), .int th]) rfl (by omega) (F_hL_k) rfl ?_
      refine WX.icmp rfl (fun c_28 => absurd c_28 (fun zz_ => absurd ((nI_ltI (a := l) (b := i) (by omega) (by omega)).mp zz_) (Nat.not_lt.mpr (by omega)))) (fun c_28 => ?_)
      clear c_28
      refine WX.s1 rfl rfl ?_
      refine WX.get1 (fs := [.int (nI l), .ref (k + 1), .ref (k + 2), .ref (k + 3), .ref (k + 4), .ref (k + 5), .ref (k + 6), .int (nI o), .int th]) rfl (by omega) (F_hL_k) rfl ?_
      refine WX.s1 rfl rfl ?_
      refine WX.iald1 rfl (Or.inl (by omega)) (F_hL__k_1_) (vp_in_nI (by omega) (by omega)) ?_
      rw [nI_clamp (by omega), (hU i (by omega)).1]
      refine WX.s1 (S' := [.int (if 0 ≤ (qI (u i)) then (qI (u i)) else 0 - (qI (u i)))]) rfl rfl ?_
      rw [qI_abs (by omega)]
      refine WX.s1 (L' := [(0, .ref k), (1, .int (nI (2 ^ o))), (2, .int (nI (2 ^ o - negU u i))), (3, .int (nI (mSum u i))), (4, .int (nI i)), (5, .int (nI (massU (u i))))]) rfl rfl ?_
      refine WX.s1 rfl rfl ?_
      refine WX.get1 (fs := [.int (nI l), .ref (k + 1), .ref (k + 2), .ref (k + 3), .ref (k + 4), .ref (k + 5), .ref (k + 6), .int (nI o), .int th]) rfl (by omega) (F_hL_k) rfl ?_
      refine WX.s1 rfl rfl ?_
      refine WX.s1 rfl rfl ?_
      refine WX.iastN rfl (by omega) (F_hL__k_3_) (vp_in_nI (by omega) (by omega)) (fun g50 h50 e_g50 e_h50 => ?_)
      try dsimp only at e_g50
      have F_h50_k : h50 k = .inr (8, [.int (nI l), .ref (k + 1), .ref (k + 2), .ref (k + 3), .ref (k + 4), .ref (k + 5), .ref (k + 6), .int (nI o), .int th]) := by rw [e_h50, va_up_neq (nek1 (a := 3) (by decide))]; exact F_hL_k
      have F_h50__k_1_ : h50 (k + 1) = .inl (1, (l + 1), .inl pA) := by rw [e_h50, va_up_neq (nek (a := 1) (b := 3) (by decide))]; exact F_hL__k_1_
      have F_h50__k_3_ : h50 (k + 3) = .inl (1, (l + 1), .inl g50) := by rw [e_h50]; exact va_up_eq
      have F_h50__k_4_ : h50 (k + 4) = .inl (1, (l + 1), .inl wL) := by rw [e_h50, va_up_neq (nek (a := 4) (b := 3) (by decide))]; exact F_hL__k_4_
      have F_h50__k_5_ : h50 (k + 5) = .inl (1, M, .inl oL) := by rw [e_h50, va_up_neq (nek (a := 5) (b := 3) (by decide))]; exact F_hL__k_5_
      have F_h50__k_6_ : h50 (k + 6) = .inl (1, M, .inl sA) := by rw [e_h50, va_up_neq (nek (a := 6) (b := 3) (by decide))]; exact F_hL__k_6_
      have FR_h50 : Fr h h50 (fun j => j = k + 3 ∨ j = k + 4 ∨ j = k + 5) := FR_hL.zup e_h50 (by first | exact rfl | exact Or.inl rfl | exact Or.inr rfl | exact ⟨by decide, by decide⟩ | decide | omega)
      refine WX.s1 rfl rfl ?_
      refine WX.get1 (fs := [.int (nI l), .ref (k + 1), .ref (k + 2), .ref (k + 3), .ref (k + 4), .ref (k + 5), .ref (k + 6), .int (nI o), .int th]) rfl (by omega) (F_h50_k) rfl ?_
      refine WX.s1 rfl rfl ?_
      refine WX.s1 rfl rfl ?_
      refine WX.if_ rfl (fun c_59 => ?_) (fun c_59 => ?_)
      · skip
        have n_59 : (massU (u i)) ≤ 0 := (nI_leI (a := massU (u i)) (b := 0) (by omega) (by omega)).mp c_59
        refine WX.s1 rfl rfl ?_
        refine WX.iastN rfl (by omega) (F_h50__k_4_) (vp_in_nI (by omega) (by omega)) (fun g76 h76 e_g76 e_h76 => ?_)
        try dsimp only at e_g76
        have F_h76_k : h76 k = .inr (8, [.int (nI l), .ref (k + 1), .ref (k + 2), .ref (k + 3), .ref (k + 4), .ref (k + 5), .ref (k + 6), .int (nI o), .int th]) := by rw [e_h76, va_up_neq (nek1 (a := 4) (by decide))]; exact F_h50_k
        have F_h76__k_1_ : h76 (k + 1) = .inl (1, (l + 1), .inl pA) := by rw [e_h76, va_up_neq (nek (a := 1) (b := 4) (by decide))]; exact F_h50__k_1_
        have F_h76__k_3_ : h76 (k + 3) = .inl (1, (l + 1), .inl g50) := by rw [e_h76, va_up_neq (nek (a := 3) (b := 4) (by decide))]; exact F_h50__k_3_
        have F_h76__k_4_ : h76 (k + 4) = .inl (1, (l + 1), .inl g76) := by rw [e_h76]; exact va_up_eq
        have F_h76__k_5_ : h76 (k + 5) = .inl (1, M, .inl oL) := by rw [e_h76, va_up_neq (nek (a := 5) (b := 4) (by decide))]; exact F_h50__k_5_
        have F_h76__k_6_ : h76 (k + 6) = .inl (1, M, .inl sA) := by rw [e_h76, va_up_neq (nek (a := 6) (b := 4) (by decide))]; exact F_h50__k_6_
        have FR_h76 : Fr h h76 (fun j => j = k + 3 ∨ j = k + 4 ∨ j = k + 5) := FR_h50.zup e_h76 (by first | exact rfl | exact Or.inl rfl | exact Or.inr rfl | exact ⟨by decide, by decide⟩ | decide | omega)
        refine WX.s1 rfl rfl ?_
        refine WX.s1 rfl rfl ?_
        refine WX.s1 (S' := [.int ((nI (mSum u i)) + (nI (massU (u i))))]) rfl rfl ?_
        rw [show ((nI (mSum u i)) + (nI (massU (u i)))) = nI (mSum u i + massU (u i)) from nI_add (mSum u i) (massU (u i))]
        refine WX.s1 (L' := [(0, .ref k), (1, .int (nI (2 ^ o))), (2, .int (nI (2 ^ o - negU u i))), (3, .int (nI (mSum u i + massU (u i)))), (4, .int (nI i)), (5, .int (nI (massU (u i))))]) rfl rfl ?_
        refine WX.s1 rfl rfl ?_
        refine WX.get1 (fs := [.int (nI l), .ref (k + 1), .ref (k + 2), .ref (k + 3), .ref (k + 4), .ref (k + 5), .ref (k + 6), .int (nI o), .int th]) rfl (by omega) (F_h76_k) rfl ?_
        refine WX.s1 rfl rfl ?_
        refine WX.iald1 rfl (Or.inl (by omega)) (F_h76__k_1_) (vp_in_nI (by omega) (by omega)) ?_
        rw [nI_clamp (by omega), (hU i (by omega)).1]
        refine WX.if_ rfl (fun c_89 => ?_) (fun c_89 => ?_)
        · skip
          have hz : ¬ u i = 0 := fun z => absurd c_89 (by rw [z]; decide)
          have hnn2 : negU u (i + 1) = negU u i := by rw [if_neg hz] at hnn; omega
          rw [← hnn2]
          refine WX.s1 (L' := [(0, .ref k), (1, .int (nI (2 ^ o))), (2, .int (nI (2 ^ o - negU u (i + 1)))), (3, .int (nI (mSum u i + massU (u i)))), (4, .int ((nI i) + 1)), (5, .int (nI (massU (u i))))]) rfl rfl ?_
          rw [show ((nI i) + 1) = nI (i + 1) from nI_add i 1]
          refine WX.s1 rfl rfl ?_
          refine WX.keep (y := 103) [0, 1, 2, 3, 4] (show ([0, 1, 2, 3, 4, 5] : List Nat).Nodup by decide) rfl ?_
          refine ih (i + 1) h76 g50 g76 oL (by omega) FR_h76 F_h76__k_3_ F_h76__k_4_ F_h76__k_5_ (fun s hs => ?_) (fun s hs hne => ?_) (fun x hx h0 => ?_)
          · rw [e_g50, nI_clamp (by omega)]
            by_cases z : s = i
            · rw [z, pk_us]
            · rw [pk_un z]; exact hfL s (by omega)
          · rw [e_g76, nI_clamp (by omega)]
            by_cases z : s = i
            · rw [z] at hne ⊢; rw [pk_us]; first | exact ⟨gg, g1, g2, rfl⟩ | (exfalso; omega)
            · rw [pk_un z]; exact hwL s (by omega) hne
          · by_cases z : x = i
            · rw [z] at h0; exact absurd h0 hz
            · exact hoL x (by omega) h0
        · skip
          have hz : u i = 0 := by have h1 : ¬ 1 ≤ u i := fun z => c_89 (by rw [qI_pr z]; exact nI_pos' (by omega)); omega
          rw [if_pos hz] at hnn
          refine WX.s1 rfl rfl ?_
          refine WX.if_ rfl (fun c_93 => absurd c_93 (fun zz_ => absurd ((nI_leI (a := 2 ^ o - negU u i) (b := 0) (by omega) (by omega)).mp zz_) (Nat.not_le.mpr (by omega)))) (fun c_93 => ?_)
          clear c_93
          refine WX.s1 (L' := [(0, .ref k), (1, .int (nI (2 ^ o))), (2, .int ((nI (2 ^ o - negU u i)) + (-1))), (3, .int (nI (mSum u i + massU (u i)))), (4, .int (nI i)), (5, .int (nI (massU (u i))))]) rfl rfl ?_
          rw [show nI (2 ^ o - negU u i) + (-1) = nI (2 ^ o - negU u (i + 1)) from (qI_dec _).trans ((qI_pr (by omega)).trans (congrArg nI (by omega)))]
          refine WX.s1 rfl rfl ?_
          refine WX.get1 (fs := [.int (nI l), .ref (k + 1), .ref (k + 2), .ref (k + 3), .ref (k + 4), .ref (k + 5), .ref (k + 6), .int (nI o), .int th]) rfl (by omega) (F_h76_k) rfl ?_
          refine WX.s1 rfl rfl ?_
          refine WX.s1 rfl rfl ?_
          refine WX.iastN rfl (by omega) (F_h76__k_5_) (vp_in_nI (by omega) (by omega)) (fun g106 h106 e_g106 e_h106 => ?_)
          try dsimp only at e_g106
          have F_h106_k : h106 k = .inr (8, [.int (nI l), .ref (k + 1), .ref (k + 2), .ref (k + 3), .ref (k + 4), .ref (k + 5), .ref (k + 6), .int (nI o), .int th]) := by rw [e_h106, va_up_neq (nek1 (a := 5) (by decide))]; exact F_h76_k
          have F_h106__k_1_ : h106 (k + 1) = .inl (1, (l + 1), .inl pA) := by rw [e_h106, va_up_neq (nek (a := 1) (b := 5) (by decide))]; exact F_h76__k_1_
          have F_h106__k_3_ : h106 (k + 3) = .inl (1, (l + 1), .inl g50) := by rw [e_h106, va_up_neq (nek (a := 3) (b := 5) (by decide))]; exact F_h76__k_3_
          have F_h106__k_4_ : h106 (k + 4) = .inl (1, (l + 1), .inl g76) := by rw [e_h106, va_up_neq (nek (a := 4) (b := 5) (by decide))]; exact F_h76__k_4_
          have F_h106__k_5_ : h106 (k + 5) = .inl (1, M, .inl g106) := by rw [e_h106]; exact va_up_eq
          have F_h106__k_6_ : h106 (k + 6) = .inl (1, M, .inl sA) := by rw [e_h106, va_up_neq (nek (a := 6) (b := 5) (by decide))]; exact F_h76__k_6_
          have FR_h106 : Fr h h106 (fun j => j = k + 3 ∨ j = k + 4 ∨ j = k + 5) := FR_h76.zup e_h106 (by first | exact rfl | exact Or.inl rfl | exact Or.inr rfl | exact ⟨by decide, by decide⟩ | decide | omega)
          refine WX.s1 (L' := [(0, .ref k), (1, .int (nI (2 ^ o))), (2, .int (nI (2 ^ o - negU u (i + 1)))), (3, .int (nI (mSum u i + massU (u i)))), (4, .int ((nI i) + 1)), (5, .int (nI (massU (u i))))]) rfl rfl ?_
          rw [show ((nI i) + 1) = nI (i + 1) from nI_add i 1]
          refine WX.s1 rfl rfl ?_
          refine WX.keep (y := 103) [0, 1, 2, 3, 4] (show ([0, 1, 2, 3, 4, 5] : List Nat).Nodup by decide) rfl ?_
          refine ih (i + 1) h106 g50 g76 g106 (by omega) FR_h106 F_h106__k_3_ F_h106__k_4_ F_h106__k_5_ (fun s hs => ?_) (fun s hs hne => ?_) (fun x hx h0 => ?_)
          · rw [e_g50, nI_clamp (by omega)]
            by_cases z : s = i
            · rw [z, pk_us]
            · rw [pk_un z]; exact hfL s (by omega)
          · rw [e_g76, nI_clamp (by omega)]
            by_cases z : s = i
            · rw [z] at hne ⊢; rw [pk_us]; first | exact ⟨gg, g1, g2, rfl⟩ | (exfalso; omega)
            · rw [pk_un z]; exact hwL s (by omega) hne
          · rw [e_g106, nI_clamp (by omega)]
            by_cases z : x = i
            · rw [z, show 2 ^ o - 1 - negU u i = 2 ^ o - negU u (i + 1) by omega, pk_us]
            · have h1 : negU u (x + 1) ≤ negU u i := sumN_mono _ (by omega)
              have h2 : negU u (x + 1) = negU u x + (if u x = 0 then 1 else 0) := rfl
              rw [if_pos h0] at h2
              rw [pk_un (by omega)]; exact hoL x (by omega) h0
      · skip
        have n_59 : 0 < (massU (u i)) := Nat.lt_of_not_le (fun zz_ => c_59 ((nI_leI (a := massU (u i)) (b := 0) (by omega) (by omega)).mpr zz_))
        refine WX.s1 rfl rfl ?_
        refine WX.get1 (fs := [.int (nI l), .ref (k + 1), .ref (k + 2), .ref (k + 3), .ref (k + 4), .ref (k + 5), .ref (k + 6), .int (nI o), .int th]) rfl (by omega) (F_h50_k) rfl ?_
        refine WX.s1 rfl rfl ?_
        refine WX.callC (vs := [.int (nI (massU (u i)))]) rfl rfl rfl (Nat.le_of_ble_eq_true rfl) rfl ?_
        refine w_log (by omega) (by omega) (fun gg g1 g2 => ?_)
        have hgo : gg ≤ o := by apply Classical.byContradiction; intro z; have := Nat.pow_le_pow_right (show 0 < 2 by decide) (show o + 1 ≤ gg by omega); rw [Nat.pow_succ] at this; omega
        show WX _ _ _ 71 [(0, .ref k), (1, .int (nI (2 ^ o))), (2, .int (nI (2 ^ o - negU u i))), (3, .int (nI (mSum u i))), (4, .int (nI i)), (5, .int (nI (massU (u i))))] [.int (nI gg), .int (nI o), .int (nI i), .ref (k + 4)] (n, s, h50)
        refine WX.s1 (S' := [.int ((nI o) - (nI gg)), .int (nI i), .ref (k + 4)]) rfl rfl ?_
        rw [nI_subN hgo]
        refine WX.s1 rfl rfl ?_
        refine WX.iastN rfl (by omega) (F_h50__k_4_) (vp_in_nI (by omega) (by omega)) (fun g76 h76 e_g76 e_h76 => ?_)
        try dsimp only at e_g76
        have F_h76_k : h76 k = .inr (8, [.int (nI l), .ref (k + 1), .ref (k + 2), .ref (k + 3), .ref (k + 4), .ref (k + 5), .ref (k + 6), .int (nI o), .int th]) := by rw [e_h76, va_up_neq (nek1 (a := 4) (by decide))]; exact F_h50_k
        have F_h76__k_1_ : h76 (k + 1) = .inl (1, (l + 1), .inl pA) := by rw [e_h76, va_up_neq (nek (a := 1) (b := 4) (by decide))]; exact F_h50__k_1_
        have F_h76__k_3_ : h76 (k + 3) = .inl (1, (l + 1), .inl g50) := by rw [e_h76, va_up_neq (nek (a := 3) (b := 4) (by decide))]; exact F_h50__k_3_
        have F_h76__k_4_ : h76 (k + 4) = .inl (1, (l + 1), .inl g76) := by rw [e_h76]; exact va_up_eq
        have F_h76__k_5_ : h76 (k + 5) = .inl (1, M, .inl oL) := by rw [e_h76, va_up_neq (nek (a := 5) (b := 4) (by decide))]; exact F_h50__k_5_
        have F_h76__k_6_ : h76 (k + 6) = .inl (1, M, .inl sA) := by rw [e_h76, va_up_neq (nek (a := 6) (b := 4) (by decide))]; exact F_h50__k_6_
        have FR_h76 : Fr h h76 (fun j => j = k + 3 ∨ j = k + 4 ∨ j = k + 5) := FR_h50.zup e_h76 (by first | exact rfl | exact Or.inl rfl | exact Or.inr rfl | exact ⟨by decide, by decide⟩ | decide | omega)
        refine WX.s1 rfl rfl ?_
        refine WX.s1 rfl rfl ?_
        refine WX.s1 (S' := [.int ((nI (mSum u i)) + (nI (massU (u i))))]) rfl rfl ?_
        rw [show ((nI (mSum u i)) + (nI (massU (u i)))) = nI (mSum u i + massU (u i)) from nI_add (mSum u i) (massU (u i))]
        refine WX.s1 (L' := [(0, .ref k), (1, .int (nI (2 ^ o))), (2, .int (nI (2 ^ o - negU u i))), (3, .int (nI (mSum u i + massU (u i)))), (4, .int (nI i)), (5, .int (nI (massU (u i))))]) rfl rfl ?_
        refine WX.s1 rfl rfl ?_
        refine WX.get1 (fs := [.int (nI l), .ref (k + 1), .ref (k + 2), .ref (k + 3), .ref (k + 4), .ref (k + 5), .ref (k + 6), .int (nI o), .int th]) rfl (by omega) (F_h76_k) rfl ?_
        refine WX.s1 rfl rfl ?_
        refine WX.iald1 rfl (Or.inl (by omega)) (F_h76__k_1_) (vp_in_nI (by omega) (by omega)) ?_
        rw [nI_clamp (by omega), (hU i (by omega)).1]
        refine WX.if_ rfl (fun c_89 => ?_) (fun c_89 => ?_)
        · skip
          have hz : ¬ u i = 0 := fun z => absurd c_89 (by rw [z]; decide)
          have hnn2 : negU u (i + 1) = negU u i := by rw [if_neg hz] at hnn; omega
          rw [← hnn2]
          refine WX.s1 (L' := [(0, .ref k), (1, .int (nI (2 ^ o))), (2, .int (nI (2 ^ o - negU u (i + 1)))), (3, .int (nI (mSum u i + massU (u i)))), (4, .int ((nI i) + 1)), (5, .int (nI (massU (u i))))]) rfl rfl ?_
          rw [show ((nI i) + 1) = nI (i + 1) from nI_add i 1]
          refine WX.s1 rfl rfl ?_
          refine WX.keep (y := 103) [0, 1, 2, 3, 4] (show ([0, 1, 2, 3, 4, 5] : List Nat).Nodup by decide) rfl ?_
          refine ih (i + 1) h76 g50 g76 oL (by omega) FR_h76 F_h76__k_3_ F_h76__k_4_ F_h76__k_5_ (fun s hs => ?_) (fun s hs hne => ?_) (fun x hx h0 => ?_)
          · rw [e_g50, nI_clamp (by omega)]
            by_cases z : s = i
            · rw [z, pk_us]
            · rw [pk_un z]; exact hfL s (by omega)
          · rw [e_g76, nI_clamp (by omega)]
            by_cases z : s = i
            · rw [z] at hne ⊢; rw [pk_us]; first | exact ⟨gg, g1, g2, rfl⟩ | (exfalso; omega)
            · rw [pk_un z]; exact hwL s (by omega) hne
          · by_cases z : x = i
            · rw [z] at h0; exact absurd h0 hz
            · exact hoL x (by omega) h0
        · skip
          have hz : u i = 0 := by have h1 : ¬ 1 ≤ u i := fun z => c_89 (by rw [qI_pr z]; exact nI_pos' (by omega)); omega
          rw [if_pos hz] at hnn
          refine WX.s1 rfl rfl ?_
          refine WX.if_ rfl (fun c_93 => absurd c_93 (fun zz_ => absurd ((nI_leI (a := 2 ^ o - negU u i) (b := 0) (by omega) (by omega)).mp zz_) (Nat.not_le.mpr (by omega)))) (fun c_93 => ?_)
          clear c_93
          refine WX.s1 (L' := [(0, .ref k), (1, .int (nI (2 ^ o))), (2, .int ((nI (2 ^ o - negU u i)) + (-1))), (3, .int (nI (mSum u i + massU (u i)))), (4, .int (nI i)), (5, .int (nI (massU (u i))))]) rfl rfl ?_
          rw [show nI (2 ^ o - negU u i) + (-1) = nI (2 ^ o - negU u (i + 1)) from (qI_dec _).trans ((qI_pr (by omega)).trans (congrArg nI (by omega)))]
          refine WX.s1 rfl rfl ?_
          refine WX.get1 (fs := [.int (nI l), .ref (k + 1), .ref (k + 2), .ref (k + 3), .ref (k + 4), .ref (k + 5), .ref (k + 6), .int (nI o), .int th]) rfl (by omega) (F_h76_k) rfl ?_
          refine WX.s1 rfl rfl ?_
          refine WX.s1 rfl rfl ?_
          refine WX.iastN rfl (by omega) (F_h76__k_5_) (vp_in_nI (by omega) (by omega)) (fun g106 h106 e_g106 e_h106 => ?_)
          try dsimp only at e_g106
          have F_h106_k : h106 k = .inr (8, [.int (nI l), .ref (k + 1), .ref (k + 2), .ref (k + 3), .ref (k + 4), .ref (k + 5), .ref (k + 6), .int (nI o), .int th]) := by rw [e_h106, va_up_neq (nek1 (a := 5) (by decide))]; exact F_h76_k
          have F_h106__k_1_ : h106 (k + 1) = .inl (1, (l + 1), .inl pA) := by rw [e_h106, va_up_neq (nek (a := 1) (b := 5) (by decide))]; exact F_h76__k_1_
          have F_h106__k_3_ : h106 (k + 3) = .inl (1, (l + 1), .inl g50) := by rw [e_h106, va_up_neq (nek (a := 3) (b := 5) (by decide))]; exact F_h76__k_3_
          have F_h106__k_4_ : h106 (k + 4) = .inl (1, (l + 1), .inl g76) := by rw [e_h106, va_up_neq (nek (a := 4) (b := 5) (by decide))]; exact F_h76__k_4_
          have F_h106__k_5_ : h106 (k + 5) = .inl (1, M, .inl g106) := by rw [e_h106]; exact va_up_eq
          have F_h106__k_6_ : h106 (k + 6) = .inl (1, M, .inl sA) := by rw [e_h106, va_up_neq (nek (a := 6) (b := 5) (by decide))]; exact F_h76__k_6_
          have FR_h106 : Fr h h106 (fun j => j = k + 3 ∨ j = k + 4 ∨ j = k + 5) := FR_h76.zup e_h106 (by first | exact rfl | exact Or.inl rfl | exact Or.inr rfl | exact ⟨by decide, by decide⟩ | decide | omega)
          refine WX.s1 (L' := [(0, .ref k), (1, .int (nI (2 ^ o))), (2, .int (nI (2 ^ o - negU u (i + 1)))), (3, .int (nI (mSum u i + massU (u i)))), (4, .int ((nI i) + 1)), (5, .int (nI (massU (u i))))]) rfl rfl ?_
          rw [show ((nI i) + 1) = nI (i + 1) from nI_add i 1]
          refine WX.s1 rfl rfl ?_
          refine WX.keep (y := 103) [0, 1, 2, 3, 4] (show ([0, 1, 2, 3, 4, 5] : List Nat).Nodup by decide) rfl ?_
          refine ih (i + 1) h106 g50 g76 g106 (by omega) FR_h106 F_h106__k_3_ F_h106__k_4_ F_h106__k_5_ (fun s hs => ?_) (fun s hs hne => ?_) (fun x hx h0 => ?_)
          · rw [e_g50, nI_clamp (by omega)]
            by_cases z : s = i
            · rw [z, pk_us]
            · rw [pk_un z]; exact hfL s (by omega)
          · rw [e_g76, nI_clamp (by omega)]
            by_cases z : s = i
            · rw [z] at hne ⊢; rw [pk_us]; first | exact ⟨gg, g1, g2, rfl⟩ | (exfalso; omega)
            · rw [pk_un z]; exact hwL s (by omega) hne
          · rw [e_g106, nI_clamp (by omega)]
            by_cases z : x = i
            · rw [z, show 2 ^ o - 1 - negU u i = 2 ^ o - negU u (i + 1) by omega, pk_us]
            · have h1 : negU u (x + 1) ≤ negU u i := sumN_mono _ (by omega)
              have h2 : negU u (x + 1) = negU u x + (if u x = 0 then 1 else 0) := rfl
              rw [if_pos h0] at h2
              rw [pk_un (by omega)]; exact hoL x (by omega) h0
  exact lp (l + 1) 0 h fA wA oA (by omega) hfr0 F3 F4 F5 (fun s hs => absurd hs (Nat.not_lt_zero s)) (fun s hs => absurd hs (Nat.not_lt_zero s)) (fun s hs => absurd hs (Nat.not_lt_zero s))
