/-! codes by weights: pure, then the class's -/
def wS (ws : List Nat) (k : Nat) : Nat := sumN (fun i => if (ws).getD i 0 = 0 then 0 else 2 ^ ((ws).getD i 0 - 1)) k
def onN (ws : List Nat) (k : Nat) : Nat := sumN (fun i => if (ws).getD i 0 = 1 then 1 else 0) k
def stT (ws : List Nat) : Nat := Nat.log2 (wS ws (ws).length) + 1
def stR (ws : List Nat) : Nat := 2 ^ stT ws - wS ws (ws).length
def stV (ws : List Nat) : List Nat := ws ++ [Nat.log2 (stR ws) + 1]
def stL (ws : List Nat) : Nat → Nat := fun i => if i ≤ (ws).length ∧ (stV ws).getD i 0 ≠ 0 then stT ws + 1 - (stV ws).getD i 0 else 0
def setF (ws : List Nat) : Option Le := if wS ws (ws).length = 0 ∨ 11 < stT ws ∨ 2 ^ Nat.log2 (stR ws) ≠ stR ws ∨ onN (stV ws) ((ws).length + 1) < 2 then none else some (stL ws, stT ws)
theorem wS_bd {ws : List Nat} (hw : ∀ i, (ws).getD i 0 ≤ 15) : ∀ k, wS ws k ≤ 16384 * k
  | 0 => Nat.zero_le _
  | k + 1 => by
    have := wS_bd hw k
    have h1 := hw k
    show wS ws k + (if (ws).getD k 0 = 0 then 0 else 2 ^ ((ws).getD k 0 - 1)) ≤ _
    have h2 : (if (ws).getD k 0 = 0 then 0 else 2 ^ ((ws).getD k 0 - 1)) ≤ 16384 := by
      split
      · exact Nat.zero_le _
      · exact Nat.pow_le_pow_right (n := 2) (by decide) (show (ws).getD k 0 - 1 ≤ 14 by omega)
    omega
theorem onN_le (ws : List Nat) : ∀ k, onN ws k ≤ k
  | 0 => Nat.le_refl 0
  | k + 1 => by
    have := onN_le ws k
    show onN ws k + (if (ws).getD k 0 = 1 then 1 else 0) ≤ _
    split <;> omega
theorem pw2 : ∀ r, r < 2049 → 1 ≤ r → (r &&& (r - 1) = 0 ↔ 2 ^ Nat.log2 r = r) := by decide +kernel
theorem pw2I {r : Nat} (h1 : 1 ≤ r) (h2 : r ≤ 2048) : (nI r &&& (nI r - 1) = 0) ↔ 2 ^ Nat.log2 r = r := by
  rw [nI_pm1 h1, nI_and (by omega) (by omega)]
  have h3 : r &&& (r - 1) ≤ r := Nat.and_le_left
  exact (nI_eq (b := 0) (by omega) (by decide)).trans (pw2 r (by omega) h1)
theorem stV_lo {ws : List Nat} {i : Nat} (h : i < (ws).length) : (stV ws).getD i 0 = (ws).getD i 0 := by
  unfold stV
  rw [getD_app, if_neg (by omega)]
theorem stV_hi {ws : List Nat} : (stV ws).getD (ws).length 0 = Nat.log2 (stR ws) + 1 := by
  unfold stV
  rw [getD_app, if_pos rfl]
theorem wS_cg {a b : List Nat} {k : Nat} (h : ∀ i, i < k → (a).getD i 0 = (b).getD i 0) : wS a k = wS b k := sumN_eq (fun i hi => by rw [h i hi])
theorem onN_cg {a b : List Nat} {k : Nat} (h : ∀ i, i < k → (a).getD i 0 = (b).getD i 0) : onN a k = onN b k := sumN_eq (fun i hi => by rw [h i hi])
theorem st_bd {ws : List Nat} (h : wS ws (ws).length ≠ 0) : 2 ^ (stT ws - 1) ≤ wS ws (ws).length ∧ wS ws (ws).length < 2 ^ stT ws ∧ 1 ≤ stR ws ∧ stR ws ≤ 2 ^ (stT ws - 1) ∧ stR ws + wS ws (ws).length = 2 ^ stT ws := by
  obtain ⟨a, b⟩ := lg2_ok (show 1 ≤ wS ws (ws).length by omega)
  have e : stT ws - 1 = Nat.log2 (wS ws (ws).length) := rfl
  have e2 : 2 ^ stT ws = 2 * 2 ^ (stT ws - 1) := by
    rw [show stT ws = (stT ws - 1) + 1 from rfl, Nat.pow_succ]
    show 2 ^ (stT ws - 1) * 2 = 2 * 2 ^ (stT ws - 1)
    omega
  have b' : wS ws (ws).length < 2 ^ stT ws := b
  rw [← e] at a
  unfold stR
  exact ⟨a, b', by omega, by omega, by omega⟩
theorem st_wle {ws : List Nat} {i : Nat} (h : wS ws (ws).length ≠ 0) (hi : i ≤ (ws).length) : (stV ws).getD i 0 ≤ stT ws := by
  obtain ⟨a, b, c, d, -⟩ := st_bd h
  have hT : 1 ≤ stT ws := by unfold stT; omega
  by_cases z : i = (ws).length
  · rw [z, stV_hi]
    have q := (lg2_ok c).1
    apply Classical.byContradiction
    intro w
    have := Nat.pow_lt_pow_right (show 1 < 2 by decide) (show stT ws - 1 < Nat.log2 (stR ws) by omega)
    omega
  · rw [stV_lo (by omega)]
    by_cases y : (ws).getD i 0 = 0
    · omega
    · have q : (if (ws).getD i 0 = 0 then 0 else 2 ^ ((ws).getD i 0 - 1)) ≤ wS ws (ws).length := sumN_get (fun i => if (ws).getD i 0 = 0 then 0 else 2 ^ ((ws).getD i 0 - 1)) (show i < (ws).length by omega)
      rw [if_neg y] at q
      apply Classical.byContradiction
      intro w
      have := Nat.pow_le_pow_right (show 0 < 2 by decide) (show stT ws ≤ (ws).getD i 0 - 1 by omega)
      omega
theorem on_ex {ws : List Nat} : ∀ k, 1 ≤ onN ws k → ∃ i, i < k ∧ (ws).getD i 0 = 1
  | 0, h => absurd h (by show ¬ 1 ≤ 0; decide)
  | k + 1, h => by
    by_cases z : (ws).getD k 0 = 1
    · exact ⟨k, by omega, z⟩
    · have h2 : 1 ≤ onN ws k + (if (ws).getD k 0 = 1 then 1 else 0) := h
      rw [if_neg z] at h2
      obtain ⟨i, a, b⟩ := on_ex k h2
      exact ⟨i, by omega, b⟩
theorem setF_ok {ws : List Nat} {x : Le} (hl : (ws).length < 256) (h : setF ws = some x) : LenOk x.1 x.2 ∧ ∃ s, s < 256 ∧ x.1 s = x.2 := by
  unfold setF at h
  split at h
  · exact absurd h (by simp)
  · rename_i hc
    have c1 : wS ws (ws).length ≠ 0 := fun z => hc (Or.inl z)
    have c2 : ¬ 11 < stT ws := fun z => hc (Or.inr (Or.inl z))
    have c3 : 2 ^ Nat.log2 (stR ws) = stR ws := Classical.not_not.mp (fun z => hc (Or.inr (Or.inr (Or.inl z))))
    have c4 : ¬ onN (stV ws) ((ws).length + 1) < 2 := fun z => hc (Or.inr (Or.inr (Or.inr z)))
    rw [← Option.some.inj h]
    obtain ⟨a, b, c, d, e⟩ := st_bd c1
    refine ⟨⟨by unfold stT; omega, by omega, fun s _ => ?_, ?_⟩, ?_⟩
    · show stL ws s ≤ stT ws
      unfold stL
      split <;> omega
    · show sumN (fun s => if stL ws s = 0 then 0 else 2 ^ (stT ws - stL ws s)) 256 ≤ 2 ^ stT ws
      have k1 : sumN (fun s => if stL ws s = 0 then 0 else 2 ^ (stT ws - stL ws s)) ((ws).length + 1) ≤ wS (stV ws) ((ws).length + 1) := sumN_le (fun s hs => by
        by_cases z : stL ws s = 0
        · rw [if_pos z]; exact Nat.zero_le _
        · rw [if_neg z]
          unfold stL at z ⊢
          by_cases y : s ≤ (ws).length ∧ (stV ws).getD s 0 ≠ 0
          · rw [if_pos y] at z ⊢
            rw [if_neg y.2]
            exact Nat.pow_le_pow_right (by decide) (by omega)
          · rw [if_neg y] at z; exact absurd rfl z)
      have k2 : wS (stV ws) ((ws).length + 1) = 2 ^ stT ws := by
        show wS (stV ws) (ws).length + (if (stV ws).getD (ws).length 0 = 0 then 0 else 2 ^ ((stV ws).getD (ws).length 0 - 1)) = _
        rw [wS_cg (fun i hi => stV_lo hi), stV_hi, if_neg (by omega), show Nat.log2 (stR ws) + 1 - 1 = Nat.log2 (stR ws) by omega, c3]
        omega
      have k3 : sumN (fun s => if stL ws s = 0 then 0 else 2 ^ (stT ws - stL ws s)) 256 = sumN (fun s => if stL ws s = 0 then 0 else 2 ^ (stT ws - stL ws s)) ((ws).length + 1) := by
        obtain ⟨y, hy⟩ : ∃ y, 256 = (ws).length + 1 + y := ⟨256 - ((ws).length + 1), by omega⟩
        rw [hy, sumN_split, sumN_eq (g := fun _ => 0) (N := y), sumN_zero, Nat.add_zero]
        intro s _
        have : stL ws ((ws).length + 1 + s) = 0 := by
          unfold stL
          rw [if_neg (fun z => absurd z.1 (by omega))]
        rw [this, if_pos rfl]
      omega
    · obtain ⟨i, hi, w1⟩ := on_ex (ws := stV ws) ((ws).length + 1) (by omega)
      refine ⟨i, by omega, ?_⟩
      show stL ws i = stT ws
      unfold stL
      rw [if_pos ⟨by omega, by omega⟩, w1]
      omega
set_option maxRecDepth 20000 in
theorem x_setl {d n s : Nat} {h : Nat → aE} {be ot c : Nat} {ws : List Nat} {wA lA cA eA : Nat → Int32} {tp : Int32} (hn : 190 ≤ n) (hc3 : 3 ≤ c) (hc : c + 3 < 67) (hw1 : 1 ≤ (ws).length) (hw2 : (ws).length ≤ 256) (hw15 : ∀ i, (ws).getD i 0 ≤ 15) (hw : ∀ i, i < (ws).length → wA i = nI ((ws).getD i 0)) (F_h_67 : h 67 = .inr (2, [.ref 68, .ref 69, .ref 70, .ref be, .ref ot])) (F_h_68 : h 68 = .inl (1, 256, .inl wA)) (F_h_c : h c = .inr (0, [.ref (c + 1), .ref (c + 2), .ref (c + 3), .int tp, .int 0])) (F_h__c_1_ : h (c + 1) = .inl (1, 256, .inl lA)) (F_h__c_2_ : h (c + 2) = .inl (1, 256, .inl cA)) (F_h__c_3_ : h (c + 3) = .inl (1, 13, .inl eA))  {Ψ : Option Value → aH → Prop} (k0 : (256 ≤ (ws).length ∨ setF ws = none) → ∀ h' wA', Fr h h' (fun j => j = 68) → h' 68 = .inl (1, 256, .inl wA') → Ψ (some (.int 0)) (n, s, h')) (k1 : ∀ x, (ws).length < 256 → setF ws = some x → ∀ h' wA', Fr h h' (fun j => j = 68 ∨ (c ≤ j ∧ j ≤ c + 3)) → h' 68 = .inl (1, 256, .inl wA') → CoT h' c x.1 x.2 → Ψ (some (.int 1)) (n, s, h')) : WO (mM (d + 3)) 31 [.ref 67, .int (nI (ws).length), .ref c] (n, s, h) Ψ := by
  refine WO.of (Nat.le_of_ble_eq_true rfl) ?_
  have FR_h : Fr h h (fun j => j = 68 ∨ (c ≤ j ∧ j ≤ c + 3)) := Fr.rf
  have hsb := wS_bd hw15
  have hon := onN_le ws
  show WX (lk tX2_settle) (mM (d + 2)) Ψ 0 [(0, .ref 67), (1, .int (nI (ws).length)), (2, .ref c)] [] (n, s, h)
  refine WX.s1 rfl rfl ?_
  refine WX.s1 rfl rfl ?_
  refine WX.icmp rfl (fun c_2 => absurd c_2 (fun zz_ => absurd ((nI_ltI (a := (ws).length) (b := 1) (by omega) (by omega)).mp zz_) (Nat.not_lt.mpr (by omega)))) (fun c_2 => ?_)
  clear c_2
  refine WX.s1 rfl rfl ?_
  refine WX.s1 rfl rfl ?_
  refine WX.get1 (fs := [.ref 68, .ref 69, .ref 70, .ref be, .ref ot]) rfl (by omega) (F_h_67) rfl ?_
  refine WX.len1 rfl (Or.inl ⟨by omega, by decide⟩) (F_h_68) ?_
  refine WX.icmp rfl (fun c_11 => ?_) (fun c_11 => ?_)
  · skip
    have n_11 : (ws).length < 256 := (nI_ltI (a := (ws).length) (b := 256) (by omega) (by omega)).mp c_11
    have hk256 : (ws).length < 256 := by omega
    refine WX.s1 rfl rfl ?_
    refine WX.s1 (L' := [(0, .ref 67), (1, .int (nI (ws).length)), (2, .ref c), (3, .int 0)]) rfl rfl ?_
    refine WX.s1 rfl rfl ?_
    refine WX.s1 (L' := [(0, .ref 67), (1, .int (nI (ws).length)), (2, .ref c), (3, .int 0), (4, .int 0)]) rfl rfl ?_
    refine WX.s1 rfl rfl ?_
    refine WX.s1 (L' := [(0, .ref 67), (1, .int (nI (ws).length)), (2, .ref c), (3, .int 0), (4, .int 0), (5, .int 0)]) rfl rfl ?_
    have lp : ∀ (t i : Nat), i + t = (ws).length → WX (lk tX2_settle) (mM (d + 2)) Ψ 24 [(0, .ref 67), (1, .int (nI (ws).length)), (2, .ref c), (3, .int (nI (wS ws i))), (4, .int (nI (onN ws i))), (5, .int (nI i))] [] (n, s, h) := by
      intro t
      induction t with
      | zero =>
        intro i ht
        obtain rfl : i = (ws).length := by omega
        refine WX.s1 rfl rfl ?_
        refine WX.s1 rfl rfl ?_
        refine WX.icmp rfl (fun c_27 => ?_) (fun c_27 => absurd ((nI_leI (a := (ws).length) (b := (ws).length) (by omega) (by omega)).mpr (by omega)) c_27)
        clear c_27
        have hsk := hsb (ws).length
        refine WX.s1 rfl rfl ?_
        refine WX.if_ rfl (fun c_86 => ?_) (fun c_86 => ?_)
        · skip
          have n_86 : (wS ws (ws).length) ≤ 0 := (nI_leI (a := wS ws (ws).length) (b := 0) (by omega) (by omega)).mp c_86
          refine WX.s1 rfl rfl ?_
          refine WX.s1 (L' := [(0, .ref 67), (1, .int (nI (ws).length)), (2, .ref c), (3, .int (nI (wS ws (ws).length))), (4, .int (nI (onN ws (ws).length))), (5, .int 0)]) rfl rfl ?_
          refine WX.s1 rfl rfl ?_
          refine WX.s1 rfl rfl ?_
          refine WX.icmp rfl (fun c_104 => ?_) (fun c_104 => absurd (by decide) c_104)
          clear c_104
          refine WX.s1 rfl rfl ?_
          exact WX.ret3 rfl (Or.inl rfl) (k0 (Or.inr (by unfold setF; rw [if_pos (Or.inl (by omega))])) h wA Fr.rf F_h_68)
        · skip
          have n_86 : 0 < (wS ws (ws).length) := Nat.lt_of_not_le (fun zz_ => c_86 ((nI_leI (a := wS ws (ws).length) (b := 0) (by omega) (by omega)).mpr zz_))
          have c1 : wS ws (ws).length ≠ 0 := by omega
          obtain ⟨b1, b2, b3, b4, b5⟩ := st_bd c1
          have hT1 : 1 ≤ stT ws := by unfold stT; omega
          have hT22 : stT ws ≤ 23 := by
            apply Classical.byContradiction
            intro z
            have := Nat.pow_le_pow_right (show 0 < 2 by decide) (show 23 ≤ stT ws - 1 by omega)
            omega
          refine WX.s1 rfl rfl ?_
          refine WX.callC (vs := [.int (nI (wS ws (ws).length))]) rfl rfl rfl (Nat.le_of_ble_eq_true rfl) rfl ?_
          refine w_log (d := d + 1) (by omega) (by omega) (fun g hg1 hg2 => ?_)
          obtain rfl := lg2_uq (by omega) hg1 hg2
          show WX _ _ _ 93 [(0, .ref 67), (1, .int (nI (ws).length)), (2, .ref c), (3, .int (nI (wS ws (ws).length))), (4, .int (nI (onN ws (ws).length))), (5, .int (nI (ws).length))] [.int (nI (Nat.log2 (wS ws (ws).length)))] (n, s, h)
          refine WX.s1 rfl rfl ?_
          refine WX.s1 (S' := [.int ((nI (Nat.log2 (wS ws (ws).length))) + 1)]) rfl rfl ?_
          rw [show nI (Nat.log2 (wS ws (ws).length)) + 1 = nI (stT ws) from nI_1 _]
          refine WX.s1 rfl rfl ?_
          refine WX.s1 (L' := [(0, .ref 67), (1, .int (nI (ws).length)), (2, .ref c), (3, .int (nI (wS ws (ws).length))), (4, .int (nI (onN ws (ws).length))), (5, .int (nI (stT ws)))]) rfl rfl ?_
          refine WX.s1 rfl rfl ?_
          refine WX.s1 rfl rfl ?_
          refine WX.icmp rfl (fun c_104 => absurd c_104 (fun zz_ => absurd ((nI_ltI (a := stT ws) (b := 1) (by omega) (by omega)).mp zz_) (Nat.not_lt.mpr (by omega)))) (fun c_104 => ?_)
          clear c_104
          refine WX.s1 rfl rfl ?_
          refine WX.s1 rfl rfl ?_
          refine WX.icmp rfl (fun c_111 => ?_) (fun c_111 => ?_)
          · skip
            have n_111 : (stT ws) ≤ 11 := (nI_leI (a := stT ws) (b := 11) (by omega) (by omega)).mp c_111
            have h11 : 2 ^ stT ws ≤ 2 ^ 11 := Nat.pow_le_pow_right (by decide) (by omega)
            have h10 : 2 ^ (stT ws - 1) ≤ 2 ^ 10 := Nat.pow_le_pow_right (by decide) (by omega)
            refine WX.s1 rfl rfl ?_
            refine WX.s1 rfl rfl ?_
            refine WX.s1 (S' := [.int (1 <<< ((nI (stT ws)) &&& 31))]) rfl rfl ?_
            rw [sh1 (stT ws) (by omega)]
            refine WX.s1 rfl rfl ?_
            refine WX.s1 (S' := [.int ((nI (2 ^ stT ws)) - (nI (wS ws (ws).length)))]) rfl rfl ?_
            rw [show nI (2 ^ stT ws) - nI (wS ws (ws).length) = nI (stR ws) from nI_subN (by omega)]
            refine WX.s1 (L' := [(0, .ref 67), (1, .int (nI (ws).length)), (2, .ref c), (3, .int (nI (wS ws (ws).length))), (4, .int (nI (onN ws (ws).length))), (5, .int (nI (stT ws))), (6, .int (nI (stR ws)))]) rfl rfl ?_
            refine WX.s1 rfl rfl ?_
            refine WX.s1 rfl rfl ?_
            refine WX.s1 rfl rfl ?_
            refine WX.s1 (S' := [.int ((nI (stR ws)) - 1), .int (nI (stR ws))]) rfl rfl ?_
            refine WX.s1 (S' := [.int ((nI (stR ws)) &&& ((nI (stR ws)) - 1))]) rfl rfl ?_
            refine WX.if_ rfl (fun c_131 => ?_) (fun c_131 => ?_)
            · skip
              have c3 : 2 ^ Nat.log2 (stR ws) = stR ws := (pw2I b3 (by omega)).mp c_131
              have hlr : Nat.log2 (stR ws) + 1 ≤ stT ws := by have q := st_wle c1 (Nat.le_refl (ws).length); rw [stV_hi] at q; exact q
              refine WX.s1 rfl rfl ?_
              refine WX.get1 (fs := [.ref 68, .ref 69, .ref 70, .ref be, .ref ot]) rfl (by omega) (F_h_67) rfl ?_
              refine WX.s1 rfl rfl ?_
              refine WX.s1 rfl rfl ?_
              refine WX.callC (vs := [.int (nI (stR ws))]) rfl rfl rfl (Nat.le_of_ble_eq_true rfl) rfl ?_
              refine w_log (d := d + 1) (by omega) (by omega) (fun g hg1 hg2 => ?_)
              obtain rfl := lg2_uq (by omega) hg1 hg2
              show WX _ _ _ 146 [(0, .ref 67), (1, .int (nI (ws).length)), (2, .ref c), (3, .int (nI (wS ws (ws).length))), (4, .int (nI (onN ws (ws).length))), (5, .int (nI (stT ws))), (6, .int (nI (stR ws)))] [.int (nI (Nat.log2 (stR ws))), .int (nI (ws).length), .ref 68] (n, s, h)
              refine WX.s1 rfl rfl ?_
              refine WX.s1 (S' := [.int ((nI (Nat.log2 (stR ws))) + 1), .int (nI (ws).length), .ref 68]) rfl rfl ?_
              rw [show nI (Nat.log2 (stR ws)) + 1 = nI (Nat.log2 (stR ws) + 1) from nI_1 _]
              refine WX.iastN rfl (by omega) (F_h_68) (vp_in_nI (N := 256) (by omega) (by decide)) (fun g148 h148 e_g148 e_h148 => ?_)
              have f148 : ∀ j, ¬ j = 68 → h148 j = h j := fun j hj => by rw [e_h148]; exact va_up_neq hj
              try dsimp only at e_g148
              have F_h148_67 : h148 67 = .inr (2, [.ref 68, .ref 69, .ref 70, .ref be, .ref ot]) := by rw [e_h148, va_up_neq (by omega)]; exact F_h_67
              have F_h148_68 : h148 68 = .inl (1, 256, .inl g148) := by rw [e_h148]; exact va_up_eq
              have F_h148_c : h148 c = .inr (0, [.ref (c + 1), .ref (c + 2), .ref (c + 3), .int tp, .int 0]) := by rw [e_h148, va_up_neq (by omega)]; exact F_h_c
              have F_h148__c_1_ : h148 (c + 1) = .inl (1, 256, .inl lA) := by rw [e_h148, va_up_neq (by omega)]; exact F_h__c_1_
              have F_h148__c_2_ : h148 (c + 2) = .inl (1, 256, .inl cA) := by rw [e_h148, va_up_neq (by omega)]; exact F_h__c_2_
              have F_h148__c_3_ : h148 (c + 3) = .inl (1, 13, .inl eA) := by rw [e_h148, va_up_neq (by omega)]; exact F_h__c_3_
              have FR_h148 : Fr h h148 (fun j => j = 68 ∨ (c ≤ j ∧ j ≤ c + 3)) := (FR_h).zup e_h148 (by first | exact rfl | exact Or.inl rfl | exact Or.inr rfl | exact ⟨by decide, by decide⟩ | decide | omega)
              clear F_h_67 F_h_68 F_h_c F_h__c_1_ F_h__c_2_ F_h__c_3_ FR_h e_h148
              rw [nI_clamp (by omega)] at e_g148
              have hv : ∀ i, i ≤ (ws).length → g148 i = nI ((stV ws).getD i 0) := fun i hi => by
                by_cases z : i = (ws).length
                · rw [z, e_g148, pk_us, stV_hi]
                · rw [e_g148, pk_un z, stV_lo (by omega)]; exact hw i (by omega)
              clear e_g148
              have hon2 : onN (stV ws) (ws).length = onN ws (ws).length := onN_cg (fun i hi => stV_lo hi)
              have honk := hon (ws).length
              have F8 : Fr h h148 (fun j => j = 68) := fun j hj => f148 j hj
              refine WX.s1 rfl rfl ?_
              have t166 : ∀ (y : Nat), y = (if (stV ws).getD (ws).length 0 = 1 then 1 else 0) → WX (lk tX2_settle) (mM (d + 2)) Ψ 166 [(0, .ref 67), (1, .int (nI (ws).length)), (2, .ref c), (3, .int (nI (wS ws (ws).length))), (4, .int (nI (onN ws (ws).length))), (5, .int (nI (stT ws))), (6, .int (nI (stR ws)))] [.int (nI y), .int (nI (onN ws (ws).length))] (n, s, h148) := by
                intro y ey
                have eo : onN ws (ws).length + y = onN (stV ws) ((ws).length + 1) := by rw [ey, ← hon2]; rfl
                have honk2 := onN_le (stV ws) ((ws).length + 1)
                refine WX.s1 (S' := [.int ((nI (onN ws (ws).length)) + (nI y))]) rfl rfl ?_
                rw [nI_add, eo]
                refine WX.s1 rfl rfl ?_
                refine WX.icmp rfl (fun c_168 => ?_) (fun c_168 => ?_)
                · skip
                  have n_168 : 2 ≤ (onN (stV ws) ((ws).length + 1)) := (nI_leI (a := 2) (b := onN (stV ws) ((ws).length + 1)) (by omega) (by omega)).mp c_168
                  refine WX.s1 rfl rfl ?_
                  refine WX.get1 (fs := [.ref (c + 1), .ref (c + 2), .ref (c + 3), .int tp, .int 0]) rfl (by omega) (F_h148_c) rfl ?_
                  refine WX.s1 rfl rfl ?_
                  refine WX.callC (vs := [.ref (c + 1), .int 0]) rfl rfl rfl (Nat.le_of_ble_eq_true rfl) rfl ?_
                  refine w_fill (d := d + 1) (by omega) F_h148__c_1_ (by decide) (fun h178 gF fr178 F_h178__c_1_ hgF => ?_)
                  have F_h178_67 : h178 67 = .inr (2, [.ref 68, .ref 69, .ref 70, .ref be, .ref ot]) := (fr178 _ (by omega)).trans F_h148_67
                  have F_h178_68 : h178 68 = .inl (1, 256, .inl g148) := (fr178 _ (by omega)).trans F_h148_68
                  have F_h178_c : h178 c = .inr (0, [.ref (c + 1), .ref (c + 2), .ref (c + 3), .int tp, .int 0]) := (fr178 _ (by omega)).trans F_h148_c
                  have F_h178__c_2_ : h178 (c + 2) = .inl (1, 256, .inl cA) := (fr178 _ (by omega)).trans F_h148__c_2_
                  have F_h178__c_3_ : h178 (c + 3) = .inl (1, 13, .inl eA) := (fr178 _ (by omega)).trans F_h148__c_3_
                  have FR_h178 : Fr h h178 (fun j => j = 68 ∨ (c ≤ j ∧ j ≤ c + 3)) := (FR_h148).zsub fr178 (fun j hj => by first | exact hj | exact Or.inl hj | exact Or.inr hj | omega)
                  show WX _ _ _ 181 [(0, .ref 67), (1, .int (nI (ws).length)), (2, .ref c), (3, .int (nI (wS ws (ws).length))), (4, .int (nI (onN ws (ws).length))), (5, .int (nI (stT ws))), (6, .int (nI (stR ws)))] [] (n, s, h178)
                  refine WX.s1 rfl rfl ?_
                  refine WX.s1 (L' := [(0, .ref 67), (1, .int (nI (ws).length)), (2, .ref c), (3, .int (nI (wS ws (ws).length))), (4, .int (nI (onN ws (ws).length))), (5, .int (nI (stT ws))), (6, .int (nI (stR ws))), (7, .int 0)]) rfl rfl ?_
                  refine WX.keep (y := 31) [0, 1, 2, 5, 7] (show ([0, 1, 2, 3, 4, 5, 6, 7] : List Nat).Nodup by decide) rfl ?_
                  have eS : setF ws = some (stL ws, stT ws) := by unfold setF; rw [if_neg (by rintro (z | z | z | z) <;> first | omega | exact z c3)]
                  have hOk := (setF_ok hk256 eS).1
                  have lp : ∀ (t i : Nat) (hL : Nat → aE) (lL : Nat → Int32), i + t = (ws).length + 1 → Fr h hL (fun j => j = 68 ∨ (c ≤ j ∧ j ≤ c + 3)) → hL 67 = .inr (2, [.ref 68, .ref 69, .ref 70, .ref be, .ref ot]) → hL 68 = .inl (1, 256, .inl g148) → hL c = .inr (0, [.ref (c + 1), .ref (c + 2), .ref (c + 3), .int tp, .int 0]) → hL (c + 1) = .inl (1, 256, .inl lL) → hL (c + 2) = .inl (1, 256, .inl cA) → hL (c + 3) = .inl (1, 13, .inl eA) → (∀ j, j < i → lL j = nI (stL ws j)) → (∀ j, i ≤ j → j < 256 → lL j = 0) → WX (lk tX2_settle) (mM (d + 2)) Ψ 184 [(0, .ref 67), (1, .int (nI (ws).length)), (2, .ref c), (5, .int (nI (stT ws))), (7, .int (nI i))] [] (n, s, hL) := by
                    intro t
                    induction t with
                    | zero =>
                      intro i hL lL ht FR_hL F_hL_67 F_hL_68 F_hL_c F_hL__c_1_ F_hL__c_2_ F_hL__c_3_ hI hJ
                      refine WX.s1 rfl rfl ?_
                      refine WX.s1 rfl rfl ?_
                      refine WX.icmp rfl (fun c_187 => ?_) (fun c_187 => absurd ((nI_ltI (a := (ws).length) (b := i) (by omega) (by omega)).mpr (by omega)) c_187)
                      clear c_187
                      refine WX.s1 rfl rfl ?_
                      refine WX.s1 rfl rfl ?_
                      refine WX.callC (vs := [.ref c, .int (nI (stT ws))]) rfl rfl rfl (Nat.le_of_ble_eq_true rfl) (rcv_ok (by omega) F_hL_c) ?_
                      refine x_cset (d := d) (L := stL ws) (by omega) (fun s hs => ?_) hOk F_hL_c F_hL__c_1_ F_hL__c_2_ F_hL__c_3_ (fun h7 f7 T7 => ?_)
                      · by_cases z : s < i
                        · exact hI s z
                        · rw [hJ s (by omega) hs]; unfold stL; rw [if_neg (fun q => absurd q.1 (by omega))]; rfl
                      have FR_h7 : Fr h h7 (fun j => j = 68 ∨ (c ≤ j ∧ j ≤ c + 3)) := (FR_hL).ztr ((f7).mono (fun j hj => by omega))
                      have F_h7_68 : h7 68 = .inl (1, 256, .inl g148) := (f7 _ (by omega)).trans F_hL_68
                      show WX _ _ _ 235 [(0, .ref 67), (1, .int (nI (ws).length)), (2, .ref c), (5, .int (nI (stT ws))), (7, .int (nI i))] [] (n, s, h7)
                      refine WX.s1 rfl rfl ?_
                      exact WX.ret3 rfl (Or.inr rfl) (k1 (stL ws, stT ws) hk256 eS h7 _ FR_h7 F_h7_68 T7)
                    | succ t ih =>
                      intro i hL lL ht FR_hL F_hL_67 F_hL_68 F_hL_c F_hL__c_1_ F_hL__c_2_ F_hL__c_3_ hI hJ
                      have hvl : ((stV ws).getD i 0) ≤ stT ws := st_wle c1 (by omega)
                      refine WX.s1 rfl rfl ?_
                      refine WX.s1 rfl rfl ?_
                      refine WX.icmp rfl (fun c_187 => absurd c_187 (fun zz_ => absurd ((nI_ltI (a := (ws).length) (b := i) (by omega) (by omega)).mp zz_) (Nat.not_lt.mpr (by omega)))) (fun c_187 => ?_)
                      clear c_187
                      refine WX.s1 rfl rfl ?_
                      refine WX.get1 (fs := [.ref (c + 1), .ref (c + 2), .ref (c + 3), .int tp, .int 0]) rfl (by omega) (F_hL_c) rfl ?_
                      refine WX.s1 rfl rfl ?_
                      refine WX.s1 rfl rfl ?_
                      refine WX.get1 (fs := [.ref 68, .ref 69, .ref 70, .ref be, .ref ot]) rfl (by omega) (F_hL_67) rfl ?_
                      refine WX.s1 rfl rfl ?_
                      refine WX.iald1 rfl (Or.inl (by omega)) (F_hL_68) (vp_in_nI (N := 256) (by omega) (by decide)) ?_
                      rw [nI_clamp (by omega), hv i (by omega)]
                      refine WX.if_ rfl (fun c_203 => ?_) (fun c_203 => ?_)
                      · skip
                        have n_203 : ((stV ws).getD i 0) ≤ 0 := (nI_leI (a := (stV ws).getD i 0) (b := 0) (by omega) (by omega)).mp c_203
                        refine WX.s1 rfl rfl ?_
                        refine WX.iastN rfl (by omega) (F_hL__c_1_) (vp_in_nI (N := 256) (by omega) (by decide)) (fun g222 h222 e_g222 e_h222 => ?_)
                        try dsimp only at e_g222
                        have F_h222_67 : h222 67 = .inr (2, [.ref 68, .ref 69, .ref 70, .ref be, .ref ot]) := by rw [e_h222, va_up_neq (by omega)]; exact F_hL_67
                        have F_h222_68 : h222 68 = .inl (1, 256, .inl g148) := by rw [e_h222, va_up_neq (by omega)]; exact F_hL_68
                        have F_h222_c : h222 c = .inr (0, [.ref (c + 1), .ref (c + 2), .ref (c + 3), .int tp, .int 0]) := by rw [e_h222, va_up_neq (by omega)]; exact F_hL_c
                        have F_h222__c_1_ : h222 (c + 1) = .inl (1, 256, .inl g222) := by rw [e_h222]; exact va_up_eq
                        have F_h222__c_2_ : h222 (c + 2) = .inl (1, 256, .inl cA) := by rw [e_h222, va_up_neq (by omega)]; exact F_hL__c_2_
                        have F_h222__c_3_ : h222 (c + 3) = .inl (1, 13, .inl eA) := by rw [e_h222, va_up_neq (by omega)]; exact F_hL__c_3_
                        have FR_h222 : Fr h h222 (fun j => j = 68 ∨ (c ≤ j ∧ j ≤ c + 3)) := (FR_hL).zup e_h222 (by first | exact rfl | exact Or.inl rfl | exact Or.inr rfl | exact ⟨by decide, by decide⟩ | decide | omega)
                        clear F_hL_67 F_hL_68 F_hL_c F_hL__c_1_ F_hL__c_2_ F_hL__c_3_ FR_hL e_h222
                        refine WX.s1 (L' := [(0, .ref 67), (1, .int (nI (ws).length)), (2, .ref c), (5, .int (nI (stT ws))), (7, .int ((nI i) + 1))]) rfl rfl ?_
                        rw [show ((nI i) + 1) = nI (i + 1) from nI_add i 1]
                        refine WX.s1 rfl rfl ?_
                        rw [nI_clamp (by omega)] at e_g222
                        refine ih (i + 1) h222 g222 (by omega) FR_h222 F_h222_67 F_h222_68 F_h222_c F_h222__c_1_ F_h222__c_2_ F_h222__c_3_ (fun j hj => ?_) (fun j h1 h2 => by rw [e_g222, pk_un (by omega)]; exact hJ j (by omega) h2)
                        by_cases z : j = i
                        · rw [z, e_g222, pk_us]; unfold stL; rw [if_neg (fun q => absurd q.2 (by omega))]; rfl
                        · rw [e_g222, pk_un z]; exact hI j (by omega)
                      · skip
                        have n_203 : 0 < ((stV ws).getD i 0) := Nat.lt_of_not_le (fun zz_ => c_203 ((nI_leI (a := (stV ws).getD i 0) (b := 0) (by omega) (by omega)).mpr zz_))
                        refine WX.s1 rfl rfl ?_
                        refine WX.s1 rfl rfl ?_
                        refine WX.s1 (S' := [.int ((nI (stT ws)) + 1), .int (nI i), .ref (c + 1)]) rfl rfl ?_
                        rw [nI_1]
                        refine WX.s1 rfl rfl ?_
                        refine WX.get1 (fs := [.ref 68, .ref 69, .ref 70, .ref be, .ref ot]) rfl (by omega) (F_hL_67) rfl ?_
                        refine WX.s1 rfl rfl ?_
                        refine WX.iald1 rfl (Or.inl (by omega)) (F_hL_68) (vp_in_nI (N := 256) (by omega) (by decide)) ?_
                        rw [nI_clamp (by omega), hv i (by omega)]
                        refine WX.s1 (S' := [.int ((nI (stT ws + 1)) - (nI ((stV ws).getD i 0))), .int (nI i), .ref (c + 1)]) rfl rfl ?_
                        rw [nI_subN (show ((stV ws).getD i 0) ≤ stT ws + 1 by omega)]
                        refine WX.s1 rfl rfl ?_
                        refine WX.iastN rfl (by omega) (F_hL__c_1_) (vp_in_nI (N := 256) (by omega) (by decide)) (fun g222 h222 e_g222 e_h222 => ?_)
                        try dsimp only at e_g222
                        have F_h222_67 : h222 67 = .inr (2, [.ref 68, .ref 69, .ref 70, .ref be, .ref ot]) := by rw [e_h222, va_up_neq (by omega)]; exact F_hL_67
                        have F_h222_68 : h222 68 = .inl (1, 256, .inl g148) := by rw [e_h222, va_up_neq (by omega)]; exact F_hL_68
                        have F_h222_c : h222 c = .inr (0, [.ref (c + 1), .ref (c + 2), .ref (c + 3), .int tp, .int 0]) := by rw [e_h222, va_up_neq (by omega)]; exact F_hL_c
                        have F_h222__c_1_ : h222 (c + 1) = .inl (1, 256, .inl g222) := by rw [e_h222]; exact va_up_eq
                        have F_h222__c_2_ : h222 (c + 2) = .inl (1, 256, .inl cA) := by rw [e_h222, va_up_neq (by omega)]; exact F_hL__c_2_
                        have F_h222__c_3_ : h222 (c + 3) = .inl (1, 13, .inl eA) := by rw [e_h222, va_up_neq (by omega)]; exact F_hL__c_3_
                        have FR_h222 : Fr h h222 (fun j => j = 68 ∨ (c ≤ j ∧ j ≤ c + 3)) := (FR_hL).zup e_h222 (by first | exact rfl | exact Or.inl rfl | exact Or.inr rfl | exact ⟨by decide, by decide⟩ | decide | omega)
                        clear F_hL_67 F_hL_68 F_hL_c F_hL__c_1_ F_hL__c_2_ F_hL__c_3_ FR_hL e_h222
                        refine WX.s1 (L' := [(0, .ref 67), (1, .int (nI (ws).length)), (2, .ref c), (5, .int (nI (stT ws))), (7, .int ((nI i) + 1))]) rfl rfl ?_
                        rw [show ((nI i) + 1) = nI (i + 1) from nI_add i 1]
                        refine WX.s1 rfl rfl ?_
                        rw [nI_clamp (by omega)] at e_g222
                        refine ih (i + 1) h222 g222 (by omega) FR_h222 F_h222_67 F_h222_68 F_h222_c F_h222__c_1_ F_h222__c_2_ F_h222__c_3_ (fun j hj => ?_) (fun j h1 h2 => by rw [e_g222, pk_un (by omega)]; exact hJ j (by omega) h2)
                        by_cases z : j = i
                        · rw [z, e_g222, pk_us]; unfold stL; rw [if_pos ⟨by omega, by omega⟩]
                        · rw [e_g222, pk_un z]; exact hI j (by omega)
                  exact lp ((ws).length + 1) 0 h178 gF (by omega) FR_h178 F_h178_67 F_h178_68 F_h178_c F_h178__c_1_ F_h178__c_2_ F_h178__c_3_ (fun j hj => absurd hj (Nat.not_lt_zero j)) (fun j h1 h2 => hgF j h2)
                · skip
                  have n_168 : (onN (stV ws) ((ws).length + 1)) < 2 := Nat.lt_of_not_le (fun zz_ => c_168 ((nI_leI (a := 2) (b := onN (stV ws) ((ws).length + 1)) (by omega) (by omega)).mpr zz_))
                  refine WX.s1 rfl rfl ?_
                  exact WX.ret3 rfl (Or.inl rfl) (k0 (Or.inr (by unfold setF; rw [if_pos (Or.inr (Or.inr (Or.inr (by omega))))])) h148 g148 F8 F_h148_68)
              refine WX.s1 rfl rfl ?_
              refine WX.get1 (fs := [.ref 68, .ref 69, .ref 70, .ref be, .ref ot]) rfl (by omega) (F_h148_67) rfl ?_
              refine WX.s1 rfl rfl ?_
              refine WX.iald1 rfl (Or.inl (by omega)) (F_h148_68) (vp_in_nI (N := 256) (by omega) (by decide)) ?_
              rw [nI_clamp (by omega), hv (ws).length (Nat.le_refl _)]
              have hvk : (stV ws).getD (ws).length 0 ≤ 24 := by rw [stV_hi]; omega
              refine WX.s1 rfl rfl ?_
              refine WX.icmp rfl (fun c_158 => ?_) (fun c_158 => ?_)
              · skip
                have n_158 : ¬ ((stV ws).getD (ws).length 0) = 1 := fun zz_ => c_158 ((nI_eq (a := (stV ws).getD (ws).length 0) (b := 1) (by omega) (by omega)).mpr zz_)
                refine WX.s1 rfl rfl ?_
                exact t166 _ (by rw [if_neg (by omega)])
              · skip
                have n_158 : ((stV ws).getD (ws).length 0) = 1 := (nI_eq (a := (stV ws).getD (ws).length 0) (b := 1) (by omega) (by omega)).mp (Classical.not_not.mp c_158)
                refine WX.s1 rfl rfl ?_
                refine WX.s1 rfl rfl ?_
                exact t166 _ (by rw [if_pos (by omega)])
            · skip
              refine WX.s1 rfl rfl ?_
              exact WX.ret3 rfl (Or.inl rfl) (k0 (Or.inr (by unfold setF; rw [if_pos (Or.inr (Or.inr (Or.inl (fun z => c_131 ((pw2I b3 (by omega)).mpr z)))))])) h wA Fr.rf F_h_68)
          · skip
            have n_111 : 11 < (stT ws) := Nat.lt_of_not_le (fun zz_ => c_111 ((nI_leI (a := stT ws) (b := 11) (by omega) (by omega)).mpr zz_))
            refine WX.s1 rfl rfl ?_
            exact WX.ret3 rfl (Or.inl rfl) (k0 (Or.inr (by unfold setF; rw [if_pos (Or.inr (Or.inl (by omega)))])) h wA Fr.rf F_h_68)
      | succ t ih =>
        intro i ht
        have hwi := hw15 i
        have hsi := hsb i
        have hoi := hon i
        refine WX.s1 rfl rfl ?_
        refine WX.s1 rfl rfl ?_
        refine WX.icmp rfl (fun c_27 => absurd c_27 (fun zz_ => absurd ((nI_leI (a := (ws).length) (b := i) (by omega) (by omega)).mp zz_) (Nat.not_le.mpr (by omega)))) (fun c_27 => ?_)
        clear c_27
        have t56 : ∀ (x : Nat), x = (if ((ws).getD i 0) = 0 then 0 else 2 ^ (((ws).getD i 0) - 1)) → WX (lk tX2_settle) (mM (d + 2)) Ψ 56 [(0, .ref 67), (1, .int (nI (ws).length)), (2, .ref c), (3, .int (nI (wS ws i))), (4, .int (nI (onN ws i))), (5, .int (nI i))] [.int (nI x), .int (nI (wS ws i))] (n, s, h) := by
          intro x ex
          have es : wS ws i + x = wS ws (i + 1) := by rw [ex]; rfl
          have hsj := hsb (i + 1)
          refine WX.s1 (S' := [.int ((nI (wS ws i)) + (nI x))]) rfl rfl ?_
          rw [nI_add, es]
          refine WX.s1 (L' := [(0, .ref 67), (1, .int (nI (ws).length)), (2, .ref c), (3, .int (nI (wS ws (i + 1)))), (4, .int (nI (onN ws i))), (5, .int (nI i))]) rfl rfl ?_
          have t76 : ∀ (y : Nat), y = (if ((ws).getD i 0) = 1 then 1 else 0) → WX (lk tX2_settle) (mM (d + 2)) Ψ 76 [(0, .ref 67), (1, .int (nI (ws).length)), (2, .ref c), (3, .int (nI (wS ws (i + 1)))), (4, .int (nI (onN ws i))), (5, .int (nI i))] [.int (nI y), .int (nI (onN ws i))] (n, s, h) := by
            intro y ey
            have eo : onN ws i + y = onN ws (i + 1) := by rw [ey]; rfl
            refine WX.s1 (S' := [.int ((nI (onN ws i)) + (nI y))]) rfl rfl ?_
            rw [nI_add, eo]
            refine WX.s1 (L' := [(0, .ref 67), (1, .int (nI (ws).length)), (2, .ref c), (3, .int (nI (wS ws (i + 1)))), (4, .int (nI (onN ws (i + 1)))), (5, .int (nI i))]) rfl rfl ?_
            refine WX.s1 (L' := [(0, .ref 67), (1, .int (nI (ws).length)), (2, .ref c), (3, .int (nI (wS ws (i + 1)))), (4, .int (nI (onN ws (i + 1)))), (5, .int ((nI i) + 1))]) rfl rfl ?_
            rw [show ((nI i) + 1) = nI (i + 1) from nI_add i 1]
            refine WX.s1 rfl rfl ?_
            exact ih (i + 1) (by omega)
          refine WX.s1 rfl rfl ?_
          refine WX.s1 rfl rfl ?_
          refine WX.get1 (fs := [.ref 68, .ref 69, .ref 70, .ref be, .ref ot]) rfl (by omega) (F_h_67) rfl ?_
          refine WX.s1 rfl rfl ?_
          refine WX.iald1 rfl (Or.inl (by omega)) (F_h_68) (vp_in_nI (N := 256) (by omega) (by decide)) ?_
          rw [nI_clamp (by omega), hw i (by omega)]
          refine WX.s1 rfl rfl ?_
          refine WX.icmp rfl (fun c_68 => ?_) (fun c_68 => ?_)
          · skip
            have n_68 : ¬ ((ws).getD i 0) = 1 := fun zz_ => c_68 ((nI_eq (a := (ws).getD i 0) (b := 1) (by omega) (by omega)).mpr zz_)
            refine WX.s1 rfl rfl ?_
            exact t76 _ (by rw [if_neg (by omega)])
          · skip
            have n_68 : ((ws).getD i 0) = 1 := (nI_eq (a := (ws).getD i 0) (b := 1) (by omega) (by omega)).mp (Classical.not_not.mp c_68)
            refine WX.s1 rfl rfl ?_
            refine WX.s1 rfl rfl ?_
            exact t76 _ (by rw [if_pos (by omega)])
        refine WX.s1 rfl rfl ?_
        refine WX.s1 rfl rfl ?_
        refine WX.get1 (fs := [.ref 68, .ref 69, .ref 70, .ref be, .ref ot]) rfl (by omega) (F_h_67) rfl ?_
        refine WX.s1 rfl rfl ?_
        refine WX.iald1 rfl (Or.inl (by omega)) (F_h_68) (vp_in_nI (N := 256) (by omega) (by decide)) ?_
        rw [nI_clamp (by omega), hw i (by omega)]
        refine WX.if_ rfl (fun c_38 => ?_) (fun c_38 => ?_)
        · skip
          have n_38 : ((ws).getD i 0) ≤ 0 := (nI_leI (a := (ws).getD i 0) (b := 0) (by omega) (by omega)).mp c_38
          refine WX.s1 rfl rfl ?_
          exact t56 _ (by rw [if_pos (by omega)])
        · skip
          have n_38 : 0 < ((ws).getD i 0) := Nat.lt_of_not_le (fun zz_ => c_38 ((nI_leI (a := (ws).getD i 0) (b := 0) (by omega) (by omega)).mpr zz_))
          refine WX.s1 rfl rfl ?_
          refine WX.s1 rfl rfl ?_
          refine WX.get1 (fs := [.ref 68, .ref 69, .ref 70, .ref be, .ref ot]) rfl (by omega) (F_h_67) rfl ?_
          refine WX.s1 rfl rfl ?_
          refine WX.iald1 rfl (Or.inl (by omega)) (F_h_68) (vp_in_nI (N := 256) (by omega) (by decide)) ?_
          rw [nI_clamp (by omega), hw i (by omega)]
          refine WX.s1 rfl rfl ?_
          refine WX.s1 (S' := [.int ((nI ((ws).getD i 0)) - 1), .int 1, .int (nI (wS ws i))]) rfl rfl ?_
          rw [show nI ((ws).getD i 0) - 1 = nI (((ws).getD i 0) - 1) from nI_pm1 (by omega)]
          refine WX.s1 (S' := [.int (1 <<< ((nI (((ws).getD i 0) - 1)) &&& 31)), .int (nI (wS ws i))]) rfl rfl ?_
          rw [sh1 (((ws).getD i 0) - 1) (by omega)]
          refine WX.s1 rfl rfl ?_
          exact t56 _ (by rw [if_neg (by omega)])
    exact lp (ws).length 0 (by omega)
  · skip
    have n_11 : 256 ≤ (ws).length := Nat.le_of_not_lt (fun zz_ => c_11 ((nI_ltI (a := (ws).length) (b := 256) (by omega) (by omega)).mpr zz_))
    refine WX.s1 rfl rfl ?_
    exact WX.ret3 rfl (Or.inl rfl) (k0 (Or.inl (by omega)) h wA Fr.rf F_h_68)
