/-! telling a share -/
def addB (b : Nat × Nat) (x m : Nat) : Nat × Nat := (b.1 + m, b.2 + x % 2 ^ m * 2 ^ b.1)
def lgL (a : Nat) : Nat := Nat.log2 (a + 1)
def codeB (a u : Nat) (b : Nat × Nat) : Nat × Nat := if u < 2 ^ (lgL a + 1) - 2 - a then addB b u (lgL a) else addB b (if u < 2 ^ lgL a then u else u + (2 ^ (lgL a + 1) - 2 - a)) (lgL a + 1)
def thr (b : Nat × Nat) : Nat → Nat × Nat
  | 0 => b
  | j + 1 => addB (thr b j) 3 2
def zB (b : Nat × Nat) (z : Nat) : Nat × Nat := addB (thr b (z / 3)) (z % 3) 2
def zF (u : Nat → Nat) : Nat → Nat → Nat
  | 0, _ => 0
  | f + 1, s => if u s = 1 then zF u f (s + 1) + 1 else 0
def tellF (u : Nat → Nat) : Nat → Nat → Nat → Nat × Nat → Nat × Nat
  | 0, _, _, b => b
  | f + 1, s, a, b => if a = 0 then b else if u s = 1 then tellF u f (s + 1 + zF u 64 (s + 1)) a (zB (codeB a (u s) b) (zF u 64 (s + 1))) else tellF u f (s + 1) (a - massU (u s)) (codeB a (u s) b)
def shB (u : Nat → Nat) (o : Nat) (b : Nat × Nat) : Nat × Nat := tellF u 64 0 (2 ^ o) (addB b (o - 5) 4)
theorem tellF_0 (u : Nat → Nat) (f s : Nat) (b : Nat × Nat) : tellF u f s 0 b = b := by
  cases f with
  | zero => rfl
  | succ f => exact if_pos rfl
theorem tellF_1 {u : Nat → Nat} {f s a : Nat} (b : Nat × Nat) (ha : a ≠ 0) (hu : u s = 1) {z : Nat} (hz : zF u 64 (s + 1) = z) : tellF u (f + 1) s a b = tellF u f (s + 1 + z) a (zB (codeB a (u s) b) z) := by
  rw [← hz]
  show (if a = 0 then b else _) = _
  rw [if_neg ha, if_pos hu]
theorem tellF_2 {u : Nat → Nat} {f s a : Nat} (b : Nat × Nat) (ha : a ≠ 0) (hu : u s ≠ 1) : tellF u (f + 1) s a b = tellF u f (s + 1) (a - massU (u s)) (codeB a (u s) b) := by
  show (if a = 0 then b else _) = _
  rw [if_neg ha, if_neg hu]
theorem zF_is {u : Nat → Nat} : ∀ (z f s : Nat), z ≤ f → (∀ j, j < z → u (s + j) = 1) → u (s + z) ≠ 1 → zF u f s = z := by
  intro z
  induction z with
  | zero =>
    intro f s _ _ h
    cases f with
    | zero => rfl
    | succ f => exact if_neg h
  | succ z ih =>
    intro f s hf h1 h2
    cases f with
    | zero => omega
    | succ f =>
      show (if u s = 1 then zF u f (s + 1) + 1 else 0) = _
      rw [if_pos (show u s = 1 from h1 0 (by omega)), ih f (s + 1) (by omega) (fun j hj => by rw [show s + 1 + j = s + (j + 1) by omega]; exact h1 _ (by omega)) (by rw [show s + 1 + z = s + (z + 1) by omega]; exact h2)]
theorem mSum_ones {u : Nat → Nat} {a : Nat} : ∀ z, (∀ j, j < z → u (a + j) = 1) → mSum u (a + z) = mSum u a := by
  intro z
  induction z with
  | zero => intro _; rfl
  | succ z ih =>
    intro h
    have e := ih (fun j hj => h j (by omega))
    show mSum u (a + z) + massU (u (a + z)) = _
    rw [e, h z (by omega)]
    rfl
theorem lgL_ok {a : Nat} (h : a ≤ 512) : 2 ^ lgL a ≤ a + 1 ∧ a + 1 < 2 ^ (lgL a + 1) ∧ 2 ^ (lgL a + 1) = 2 * 2 ^ lgL a ∧ lgL a ≤ 9 := by
  have h1 : 2 ^ lgL a ≤ a + 1 := Nat.log2_self_le (by omega)
  have h2 : a + 1 < 2 ^ (lgL a + 1) := Nat.lt_log2_self
  refine ⟨h1, h2, by rw [Nat.pow_succ, Nat.mul_comm], ?_⟩
  apply Classical.byContradiction
  intro z
  have := Nat.pow_le_pow_right (show 0 < 2 by decide) (show 10 ≤ lgL a by omega)
  omega
theorem sh2 : ∀ g, g < 30 → (2 : Int32) <<< (nI g &&& 31) = nI (2 ^ (g + 1)) := by decide +kernel
theorem qI_p1 (z : Nat) : qI z + 1 = nI z := by
  by_cases h : z = 0
  · rw [h]; rfl
  · rw [qI_pr (by omega), nI_1]; congr 1; omega
theorem nI_eq1 {a : Nat} (h : a < 2 ^ 31) : nI a = 1 ↔ a = 1 := nI_eq (b := 1) h (by decide)
set_option maxRecDepth 20000 in
theorem x_zeros {d n s : Nat} {h : Nat → aE} {k l a : Nat} {od th : Int32} {pA : Nat → Int32} {u : Nat → Nat}  (hk : k + 6 < n) (hl : l < 64) (hU : UIs pA u (l + 1)) (ha : a ≤ l + 1) (F_h_k : h k = .inr (8, [.int (nI l), .ref (k + 1), .ref (k + 2), .ref (k + 3), .ref (k + 4), .ref (k + 5), .ref (k + 6), .int od, .int th])) (F_h__k_1_ : h (k + 1) = .inl (1, (l + 1), .inl pA))  {Ψ : Option Value → aH → Prop} (kk : ∀ z, (∀ j, j < z → u (a + j) = 1) → a + z ≤ l + 1 → (a + z ≤ l → u (a + z) ≠ 1) → Ψ (some (.int (nI z))) (n, s, h)) : WO (mM (d + 1)) 114 [.ref k, .int (nI a)] (n, s, h) Ψ := by
  refine WO.of (Nat.le_of_ble_eq_true rfl) ?_
  show WX (lk tX8_zerosFrom) (mM d) Ψ 0 [(0, .ref k), (1, .int (nI a))] [] (n, s, h)
  refine WX.s1 rfl rfl ?_
  refine WX.s1 (L' := [(0, .ref k), (1, .int (nI a)), (2, .int 0)]) rfl rfl ?_
  refine WX.s1 rfl rfl ?_
  refine WX.s1 (L' := [(0, .ref k), (1, .int (nI a)), (2, .int 0), (3, .int (nI a))]) rfl rfl ?_
  have lp : ∀ (t z : Nat), a + z + t = l + 1 → (∀ j, j < z → u (a + j) = 1) → WX (lk tX8_zerosFrom) (mM d) Ψ 4 [(0, .ref k), (1, .int (nI a)), (2, .int (nI z)), (3, .int (nI (a + z)))] [] (n, s, h) := by
    intro t
    induction t with
    | zero =>
      intro z hz hj
      refine WX.s1 rfl rfl ?_
      refine WX.s1 rfl rfl ?_
      refine WX.get1 (fs := [.int (nI l), .ref (k + 1), .ref (k + 2), .ref (k + 3), .ref (k + 4), .ref (k + 5), .ref (k + 6), .int od, .int th]) rfl (by omega) (F_h_k) rfl ?_
      refine WX.icmp rfl (fun c_9 => ?_) (fun c_9 => absurd ((nI_ltI (a := l) (b := a + z) (by omega) (by omega)).mpr (by omega)) c_9)
      clear c_9
      refine WX.s1 rfl rfl ?_
      exact WX.ret1 rfl (kk z hj (by omega) (fun q => by omega))
    | succ t ih =>
      intro z hz hj
      obtain ⟨hu1, hu2⟩ := hU (a + z) (by omega)
      refine WX.s1 rfl rfl ?_
      refine WX.s1 rfl rfl ?_
      refine WX.get1 (fs := [.int (nI l), .ref (k + 1), .ref (k + 2), .ref (k + 3), .ref (k + 4), .ref (k + 5), .ref (k + 6), .int od, .int th]) rfl (by omega) (F_h_k) rfl ?_
      refine WX.icmp rfl (fun c_9 => absurd c_9 (fun zz_ => absurd ((nI_ltI (a := l) (b := a + z) (by omega) (by omega)).mp zz_) (Nat.not_lt.mpr (by omega)))) (fun c_9 => ?_)
      clear c_9
      refine WX.s1 rfl rfl ?_
      refine WX.get1 (fs := [.int (nI l), .ref (k + 1), .ref (k + 2), .ref (k + 3), .ref (k + 4), .ref (k + 5), .ref (k + 6), .int od, .int th]) rfl (by omega) (F_h_k) rfl ?_
      refine WX.s1 rfl rfl ?_
      refine WX.iald1 rfl (Or.inl (by omega)) (F_h__k_1_) (vp_in_nI (by omega) (by omega)) ?_
      rw [nI_clamp (by omega), hu1]
      refine WX.if_ rfl (fun c_18 => ?_) (fun c_18 => ?_)
      · skip
        refine WX.s1 rfl rfl ?_
        exact WX.ret1 rfl (kk z hj (by omega) (fun _ q => c_18 ((qI_0 (by omega)).mpr q)))
      · skip
        refine WX.s1 (L' := [(0, .ref k), (1, .int (nI a)), (2, .int ((nI z) + 1)), (3, .int (nI (a + z)))]) rfl rfl ?_
        rw [show ((nI z) + 1) = nI (z + 1) from nI_add z 1]
        refine WX.s1 (L' := [(0, .ref k), (1, .int (nI a)), (2, .int (nI (z + 1))), (3, .int ((nI (a + z)) + 1))]) rfl rfl ?_
        rw [show ((nI (a + z)) + 1) = nI (a + z + 1) from nI_add (a + z) 1]
        refine WX.s1 rfl rfl ?_
        have hz1 : u (a + z) = 1 := (qI_0 (by omega)).mp (Classical.not_not.mp c_18)
        refine ih (z + 1) (by omega) (fun j hj2 => ?_)
        by_cases q : j = z
        · rw [q]; exact hz1
        · exact hj j (by omega)
  exact lp (l + 1 - a) 0 (by omega) (fun j hj => absurd hj (Nat.not_lt_zero j))
set_option maxRecDepth 20000 in
theorem x_canTell {d n s : Nat} {h : Nat → aE} {k l q : Nat} {od th : Int32} {pA cA : Nat → Int32} {u cnt : Nat → Nat}  (hk : k + 6 < n) (hq : q < n) (hl : l < 64) (hU : UIs pA u (l + 1)) (hC : ∀ i, i ≤ l → cA i = nI (cnt i) ∧ cnt i < 2 ^ 31) (F_h_k : h k = .inr (8, [.int (nI l), .ref (k + 1), .ref (k + 2), .ref (k + 3), .ref (k + 4), .ref (k + 5), .ref (k + 6), .int od, .int th])) (F_h__k_1_ : h (k + 1) = .inl (1, (l + 1), .inl pA)) (F_h_q : h q = .inl (1, (l + 1), .inl cA))  {Ψ : Option Value → aH → Prop} (kk1 : (∀ i, i ≤ l → cnt i ≠ 0 → massU (u i) ≠ 0) → Ψ (some (.int 1)) (n, s, h)) (kk2 : (∃ i, i ≤ l ∧ cnt i ≠ 0 ∧ massU (u i) = 0) → Ψ (some (.int 0)) (n, s, h)) : WO (mM (d + 1)) 106 [.ref k, .ref q] (n, s, h) Ψ := by
  refine WO.of (Nat.le_of_ble_eq_true rfl) ?_
  show WX (lk tX8_canTell) (mM d) Ψ 0 [(0, .ref k), (1, .ref q)] [] (n, s, h)
  refine WX.s1 rfl rfl ?_
  refine WX.s1 (L' := [(0, .ref k), (1, .ref q), (2, .int 0)]) rfl rfl ?_
  have lp : ∀ (t i : Nat), i + t = l + 1 → (∀ j, j < i → cnt j ≠ 0 → massU (u j) ≠ 0) → WX (lk tX8_canTell) (mM d) Ψ 2 [(0, .ref k), (1, .ref q), (2, .int (nI i))] [] (n, s, h) := by
    intro t
    induction t with
    | zero =>
      intro i hi hj
      refine WX.s1 rfl rfl ?_
      refine WX.s1 rfl rfl ?_
      refine WX.len1 rfl (Or.inl ⟨by omega, by decide⟩) (F_h_q) ?_
      refine WX.icmp rfl (fun c_5 => ?_) (fun c_5 => absurd ((nI_leI (a := l + 1) (b := i) (by omega) (by omega)).mpr (by omega)) c_5)
      clear c_5
      refine WX.s1 rfl rfl ?_
      exact WX.ret3 rfl (Or.inr rfl) (kk1 (fun j a b => hj j (by omega) b))
    | succ t ih =>
      intro i hi hj
      obtain ⟨hu1, hu2⟩ := hU i (by omega)
      obtain ⟨hc1, hc2⟩ := hC i (by omega)
      refine WX.s1 rfl rfl ?_
      refine WX.s1 rfl rfl ?_
      refine WX.len1 rfl (Or.inl ⟨by omega, by decide⟩) (F_h_q) ?_
      refine WX.icmp rfl (fun c_5 => absurd c_5 (fun zz_ => absurd ((nI_leI (a := l + 1) (b := i) (by omega) (by omega)).mp zz_) (Nat.not_le.mpr (by omega)))) (fun c_5 => ?_)
      clear c_5
      refine WX.s1 rfl rfl ?_
      refine WX.s1 rfl rfl ?_
      refine WX.iald1 rfl (Or.inl (by omega)) (F_h_q) (vp_in_nI (by omega) (by omega)) ?_
      rw [nI_clamp (by omega), hc1]
      refine WX.if_ rfl (fun c_11 => ?_) (fun c_11 => ?_)
      · skip
        have n_11 : (cnt i) ≤ 0 := (nI_leI (a := cnt i) (b := 0) (by omega) (by omega)).mp c_11
        refine WX.s1 (L' := [(0, .ref k), (1, .ref q), (2, .int ((nI i) + 1))]) rfl rfl ?_
        rw [show ((nI i) + 1) = nI (i + 1) from nI_add i 1]
        refine WX.s1 rfl rfl ?_
        refine ih (i + 1) (by omega) (fun j a b => ?_)
        by_cases e : j = i
        · rw [e] at b; omega
        · exact hj j (by omega) b
      · skip
        have n_11 : 0 < (cnt i) := Nat.lt_of_not_le (fun zz_ => c_11 ((nI_leI (a := cnt i) (b := 0) (by omega) (by omega)).mpr zz_))
        refine WX.s1 rfl rfl ?_
        refine WX.s1 rfl rfl ?_
        refine WX.get1 (fs := [.int (nI l), .ref (k + 1), .ref (k + 2), .ref (k + 3), .ref (k + 4), .ref (k + 5), .ref (k + 6), .int od, .int th]) rfl (by omega) (F_h_k) rfl ?_
        refine WX.icmp rfl (fun c_19 => absurd c_19 (fun zz_ => absurd ((nI_ltI (a := l) (b := i) (by omega) (by omega)).mp zz_) (Nat.not_lt.mpr (by omega)))) (fun c_19 => ?_)
        clear c_19
        refine WX.s1 rfl rfl ?_
        refine WX.get1 (fs := [.int (nI l), .ref (k + 1), .ref (k + 2), .ref (k + 3), .ref (k + 4), .ref (k + 5), .ref (k + 6), .int od, .int th]) rfl (by omega) (F_h_k) rfl ?_
        refine WX.s1 rfl rfl ?_
        refine WX.iald1 rfl (Or.inl (by omega)) (F_h__k_1_) (vp_in_nI (by omega) (by omega)) ?_
        rw [nI_clamp (by omega), hu1]
        refine WX.if_ rfl (fun c_28 => ?_) (fun c_28 => ?_)
        · skip
          refine WX.s1 (L' := [(0, .ref k), (1, .ref q), (2, .int ((nI i) + 1))]) rfl rfl ?_
          rw [show ((nI i) + 1) = nI (i + 1) from nI_add i 1]
          refine WX.s1 rfl rfl ?_
          refine ih (i + 1) (by omega) (fun j a b => ?_)
          by_cases e : j = i
          · rw [e]; intro z; refine c_28 ((qI_0 (by omega)).mpr ?_); unfold massU at z; by_cases y : u i = 0
            · rw [if_pos y] at z; omega
            · rw [if_neg y] at z; omega
          · exact hj j (by omega) b
        · skip
          refine WX.s1 rfl rfl ?_
          exact WX.ret3 rfl (Or.inl rfl) (kk2 ⟨i, by omega, by omega, by rw [(qI_0 (by omega)).mp (Classical.not_not.mp c_28)]; rfl⟩)
  exact lp (l + 1) 0 (by omega) (fun j hj => absurd hj (Nat.not_lt_zero j))
set_option maxRecDepth 20000 in
theorem x_tell {d n s : Nat} {h : Nat → aE} {k l o r N : Nat} {th : Int32} {pA : Nat → Int32} {u : Nat → Nat} {bb : Option (List Nat)}  (hk : k + 6 < n) (hr : r + 1 < n) (hrk : r + 1 < k ∨ k + 6 < r) (hN : N < 2 ^ 31) (hl : l < 64) (ho5 : 5 ≤ o) (ho : o ≤ 9) (hU : UIs pA u (l + 1)) (hS : mSum u (l + 1) = 2 ^ o) (hR0 : RowIs h r N bb 0 0) (F_h_k : h k = .inr (8, [.int (nI l), .ref (k + 1), .ref (k + 2), .ref (k + 3), .ref (k + 4), .ref (k + 5), .ref (k + 6), .int (nI o), .int th])) (F_h__k_1_ : h (k + 1) = .inl (1, (l + 1), .inl pA))  {Ψ : Option Value → aH → Prop} (kk : ∀ h', Fr h h' (fun j => j = r ∨ j = r + 1) → RowIs h' r N (bputs N bb (leBy (shB u o (0, 0)).2 (((shB u o (0, 0)).1 + 7) / 8))) 0 0 → Ψ none (n, s, h')) : WO (mM (d + 3)) 113 [.ref k, .ref r] (n, s, h) Ψ := by
  refine WO.of (Nat.le_of_ble_eq_true rfl) ?_
  have h2o : 2 ^ o ≤ 2 ^ 9 := Nat.pow_le_pow_right (by decide) ho
  have h2p : 0 < 2 ^ o := Nat.pow_pos (by decide)
  have F0 : Fr h h (fun j => j = r ∨ j = r + 1) := fun _ _ => rfl
  have R0 : RowW h r N bb 0 0 := RowW.zero hR0
  show WX (lk tX8_tell) (mM (d + 2)) Ψ 0 [(0, .ref k), (1, .ref r)] [] (n, s, h)
  refine WX.s1 rfl rfl ?_
  refine WX.s1 rfl rfl ?_
  refine WX.get1 (fs := [.int (nI l), .ref (k + 1), .ref (k + 2), .ref (k + 3), .ref (k + 4), .ref (k + 5), .ref (k + 6), .int (nI o), .int th]) rfl (by omega) (F_h_k) rfl ?_
  refine WX.s1 rfl rfl ?_
  refine WX.s1 (S' := [.int ((nI o) - 5), .ref r]) rfl rfl ?_
  rw [show nI o - 5 = nI (o - 5) from nI_subN (b := 5) ho5]
  refine WX.s1 rfl rfl ?_
  refine WX.callC (vs := [.ref r, .int (nI (o - 5)), .int (nI 4)]) rfl rfl rfl (Nat.le_of_ble_eq_true rfl) (R0.2.rcv (by omega)) ?_
  refine w_addW hr R0 hN (by omega) (by omega) (fun h8 fr8 R8 => ?_)
  have F_h8_k : h8 k = .inr (8, [.int (nI l), .ref (k + 1), .ref (k + 2), .ref (k + 3), .ref (k + 4), .ref (k + 5), .ref (k + 6), .int (nI o), .int th]) := (fr8 _ (by omega)).trans F_h_k
  have F_h8__k_1_ : h8 (k + 1) = .inl (1, (l + 1), .inl pA) := (fr8 _ (by omega)).trans F_h__k_1_
  have F8 : Fr h h8 (fun j => j = r ∨ j = r + 1) := F0.ztr fr8
  show WX _ _ _ 11 [(0, .ref k), (1, .ref r)] [] (n, s, h8)
  refine WX.s1 rfl rfl ?_
  refine WX.s1 rfl rfl ?_
  refine WX.get1 (fs := [.int (nI l), .ref (k + 1), .ref (k + 2), .ref (k + 3), .ref (k + 4), .ref (k + 5), .ref (k + 6), .int (nI o), .int th]) rfl (by omega) (F_h8_k) rfl ?_
  refine WX.s1 (S' := [.int (1 <<< ((nI o) &&& 31))]) rfl rfl ?_
  rw [sh1 o (by omega)]
  refine WX.s1 (L' := [(0, .ref k), (1, .ref r), (2, .int (nI (2 ^ o)))]) rfl rfl ?_
  refine WX.s1 rfl rfl ?_
  refine WX.s1 (L' := [(0, .ref k), (1, .ref r), (2, .int (nI (2 ^ o))), (3, .int 0)]) rfl rfl ?_
  refine WX.s1 rfl rfl ?_
  refine WX.s1 (L' := [(0, .ref k), (1, .ref r), (2, .int (nI (2 ^ o))), (3, .int 0), (4, .int 0)]) rfl rfl ?_
  refine WX.keep (y := 113) [0, 1, 2, 4] (show ([0, 1, 2, 3, 4] : List Nat).Nodup by decide) rfl ?_
  have lp : ∀ (f x a : Nat) (b : Nat × Nat) (hL : Nat → aE), l + 1 ≤ x + f → x ≤ l + 1 → a + mSum u x = 2 ^ o → Fr h hL (fun j => j = r ∨ j = r + 1) → hL k = .inr (8, [.int (nI l), .ref (k + 1), .ref (k + 2), .ref (k + 3), .ref (k + 4), .ref (k + 5), .ref (k + 6), .int (nI o), .int th]) → hL (k + 1) = .inl (1, (l + 1), .inl pA) → RowW hL r N bb b.1 b.2 → tellF u f x a b = shB u o (0, 0) → WX (lk tX8_tell) (mM (d + 2)) Ψ 23 [(0, .ref k), (1, .ref r), (2, .int (nI a)), (4, .int (nI x))] [] (n, s, hL) := by
    clear F_h8_k F_h8__k_1_ F_h_k F_h__k_1_ R0 R8 F8 F0 hR0
    intro f
    induction f with
    | zero =>
      intro x a b hL hxf hx hax FL F_hL_k F_hL__k_1_ RL hT
      obtain rfl : x = l + 1 := by omega
      have ha0 : a = 0 := by omega
      refine WX.s1 rfl rfl ?_
      refine WX.s1 rfl rfl ?_
      refine WX.get1 (fs := [.int (nI l), .ref (k + 1), .ref (k + 2), .ref (k + 3), .ref (k + 4), .ref (k + 5), .ref (k + 6), .int (nI o), .int th]) rfl (by omega) (F_hL_k) rfl ?_
      refine WX.icmp rfl (fun c_29 => ?_) (fun c_29 => absurd ((nI_ltI (a := l) (b := l + 1) (by omega) (by omega)).mpr (by omega)) c_29)
      clear c_29
      have hbT : b = shB u o (0, 0) := by rw [← hT, ha0]; exact (tellF_0 u _ _ _).symm
      rw [hbT] at RL
      refine WX.s1 rfl rfl ?_
      refine WX.callC (vs := [.ref r]) rfl rfl rfl (Nat.le_of_ble_eq_true rfl) (RL.2.rcv (by omega)) ?_
      refine w_closeW hr hN RL (fun h9 fr9 R9 => ?_)
      exact WX.ret0 rfl (kk h9 (FL.ztr fr9) R9)
    | succ f ih =>
      intro x a b hL hxf hx hax FL F_hL_k F_hL__k_1_ RL hT
      by_cases hxl : x = l + 1
      · subst hxl
        have ha0 : a = 0 := by omega
        refine WX.s1 rfl rfl ?_
        refine WX.s1 rfl rfl ?_
        refine WX.get1 (fs := [.int (nI l), .ref (k + 1), .ref (k + 2), .ref (k + 3), .ref (k + 4), .ref (k + 5), .ref (k + 6), .int (nI o), .int th]) rfl (by omega) (F_hL_k) rfl ?_
        refine WX.icmp rfl (fun c_29 => ?_) (fun c_29 => absurd ((nI_ltI (a := l) (b := l + 1) (by omega) (by omega)).mpr (by omega)) c_29)
        clear c_29
        have hbT : b = shB u o (0, 0) := by rw [← hT, ha0]; exact (tellF_0 u _ _ _).symm
        rw [hbT] at RL
        refine WX.s1 rfl rfl ?_
        refine WX.callC (vs := [.ref r]) rfl rfl rfl (Nat.le_of_ble_eq_true rfl) (RL.2.rcv (by omega)) ?_
        refine w_closeW hr hN RL (fun h9 fr9 R9 => ?_)
        exact WX.ret0 rfl (kk h9 (FL.ztr fr9) R9)
      by_cases ha0 : a = 0
      · skip
        refine WX.s1 rfl rfl ?_
        refine WX.s1 rfl rfl ?_
        refine WX.get1 (fs := [.int (nI l), .ref (k + 1), .ref (k + 2), .ref (k + 3), .ref (k + 4), .ref (k + 5), .ref (k + 6), .int (nI o), .int th]) rfl (by omega) (F_hL_k) rfl ?_
        refine WX.icmp rfl (fun c_29 => absurd c_29 (fun zz_ => absurd ((nI_ltI (a := l) (b := x) (by omega) (by omega)).mp zz_) (Nat.not_lt.mpr (by omega)))) (fun c_29 => ?_)
        clear c_29
        refine WX.s1 rfl rfl ?_
        refine WX.if_ rfl (fun c_33 => ?_) (fun c_33 => absurd ((nI_leI (a := a) (b := 0) (by omega) (by omega)).mpr (by omega)) c_33)
        clear c_33
        have hbT : b = shB u o (0, 0) := by rw [← hT, ha0]; exact (tellF_0 u _ _ _).symm
        rw [hbT] at RL
        refine WX.s1 rfl rfl ?_
        refine WX.callC (vs := [.ref r]) rfl rfl rfl (Nat.le_of_ble_eq_true rfl) (RL.2.rcv (by omega)) ?_
        refine w_closeW hr hN RL (fun h9 fr9 R9 => ?_)
        exact WX.ret0 rfl (kk h9 (FL.ztr fr9) R9)
      have hmx : mSum u (x + 1) ≤ 2 ^ o := by rw [← hS]; exact mSum_mono u (by omega)
      rw [mSum_succ] at hmx
      obtain ⟨hL1, hL2, hL3, hL4⟩ := lgL_ok (a := a) (by omega)
      have hL5 : 0 < 2 ^ lgL a := Nat.pow_pos (by decide)
      have hL6 : 2 ^ lgL a ≤ 2 ^ 9 := Nat.pow_le_pow_right (by decide) hL4
      obtain ⟨hu1, hu2⟩ := hU x (by omega)
      refine WX.s1 rfl rfl ?_
      refine WX.s1 rfl rfl ?_
      refine WX.get1 (fs := [.int (nI l), .ref (k + 1), .ref (k + 2), .ref (k + 3), .ref (k + 4), .ref (k + 5), .ref (k + 6), .int (nI o), .int th]) rfl (by omega) (F_hL_k) rfl ?_
      refine WX.icmp rfl (fun c_29 => absurd c_29 (fun zz_ => absurd ((nI_ltI (a := l) (b := x) (by omega) (by omega)).mp zz_) (Nat.not_lt.mpr (by omega)))) (fun c_29 => ?_)
      clear c_29
      refine WX.s1 rfl rfl ?_
      refine WX.if_ rfl (fun c_33 => absurd c_33 (fun zz_ => absurd ((nI_leI (a := a) (b := 0) (by omega) (by omega)).mp zz_) (Nat.not_le.mpr (by omega)))) (fun c_33 => ?_)
      clear c_33
      refine WX.s1 rfl rfl ?_
      refine WX.get1 (fs := [.int (nI l), .ref (k + 1), .ref (k + 2), .ref (k + 3), .ref (k + 4), .ref (k + 5), .ref (k + 6), .int (nI o), .int th]) rfl (by omega) (F_hL_k) rfl ?_
      refine WX.s1 rfl rfl ?_
      refine WX.iald1 rfl (Or.inl (by omega)) (F_hL__k_1_) (vp_in_nI (by omega) (by omega)) ?_
      rw [nI_clamp (by omega), hu1]
      refine WX.s1 rfl rfl ?_
      refine WX.s1 (S' := [.int ((qI (u x)) + 1)]) rfl rfl ?_
      rw [qI_p1]
      refine WX.s1 (L' := [(0, .ref k), (1, .ref r), (2, .int (nI a)), (4, .int (nI x)), (5, .int (nI (u x)))]) rfl rfl ?_
      refine WX.s1 rfl rfl ?_
      refine WX.s1 rfl rfl ?_
      refine WX.s1 (S' := [.int ((nI a) + 1)]) rfl rfl ?_
      rw [show ((nI a) + 1) = nI (a + 1) from nI_add a 1]
      refine WX.callC (vs := [.int (nI (a + 1))]) rfl rfl rfl (Nat.le_of_ble_eq_true rfl) rfl ?_
      refine w_log (by omega) (by omega) (fun gg g1 g2 => ?_)
      obtain rfl : gg = lgL a := log_un g1 g2 hL1 hL2
      clear g1 g2
      show WX _ _ _ 53 [(0, .ref k), (1, .ref r), (2, .int (nI a)), (4, .int (nI x)), (5, .int (nI (u x)))] [.int (nI (lgL a))] (n, s, hL)
      refine WX.s1 (L' := [(0, .ref k), (1, .ref r), (2, .int (nI a)), (4, .int (nI x)), (5, .int (nI (u x))), (6, .int (nI (lgL a)))]) rfl rfl ?_
      refine WX.s1 rfl rfl ?_
      refine WX.s1 rfl rfl ?_
      refine WX.s1 (S' := [.int (2 <<< ((nI (lgL a)) &&& 31))]) rfl rfl ?_
      rw [sh2 (lgL a) (by omega)]
      refine WX.s1 rfl rfl ?_
      refine WX.s1 (S' := [.int ((nI (2 ^ (lgL a + 1))) - 2)]) rfl rfl ?_
      rw [show nI (2 ^ (lgL a + 1)) - 2 = nI (2 ^ (lgL a + 1) - 2) from nI_subN (b := 2) (by omega)]
      refine WX.s1 rfl rfl ?_
      refine WX.s1 (S' := [.int ((nI (2 ^ (lgL a + 1) - 2)) - (nI a))]) rfl rfl ?_
      rw [nI_subN (by omega)]
      refine WX.s1 (L' := [(0, .ref k), (1, .ref r), (2, .int (nI a)), (4, .int (nI x)), (5, .int (nI (u x))), (6, .int (nI (lgL a))), (7, .int (nI (2 ^ (lgL a + 1) - 2 - a)))]) rfl rfl ?_
      have t110 : ∀ (h2 : Nat → aE), Fr h h2 (fun j => j = r ∨ j = r + 1) → h2 k = .inr (8, [.int (nI l), .ref (k + 1), .ref (k + 2), .ref (k + 3), .ref (k + 4), .ref (k + 5), .ref (k + 6), .int (nI o), .int th]) → h2 (k + 1) = .inl (1, (l + 1), .inl pA) → RowW h2 r N bb (codeB a (u x) b).1 (codeB a (u x) b).2 → WX (lk tX8_tell) (mM (d + 2)) Ψ 110 [(0, .ref k), (1, .ref r), (2, .int (nI a)), (4, .int (nI x)), (5, .int (nI (u x))), (6, .int (nI (lgL a))), (7, .int (nI (2 ^ (lgL a + 1) - 2 - a)))] [] (n, s, h2) := by
        clear RL FL F_hL_k F_hL__k_1_
        intro h2 F2 F_h2_k F_h2__k_1_ R2
        generalize hcb : codeB a (u x) b = cb at R2
        refine WX.s1 rfl rfl ?_
        refine WX.s1 rfl rfl ?_
        refine WX.get1 (fs := [.int (nI l), .ref (k + 1), .ref (k + 2), .ref (k + 3), .ref (k + 4), .ref (k + 5), .ref (k + 6), .int (nI o), .int th]) rfl (by omega) (F_h2_k) rfl ?_
        refine WX.s1 rfl rfl ?_
        refine WX.iald1 rfl (Or.inl (by omega)) (F_h2__k_1_) (vp_in_nI (by omega) (by omega)) ?_
        rw [nI_clamp (by omega), hu1]
        refine WX.s1 (S' := [.int (if 0 ≤ (qI (u x)) then (qI (u x)) else 0 - (qI (u x))), .int (nI a)]) rfl rfl ?_
        rw [qI_abs (by omega)]
        refine WX.s1 (S' := [.int ((nI a) - (nI (massU (u x))))]) rfl rfl ?_
        rw [nI_subN (by omega)]
        refine WX.s1 (L' := [(0, .ref k), (1, .ref r), (2, .int (nI (a - massU (u x)))), (4, .int (nI x)), (5, .int (nI (u x))), (6, .int (nI (lgL a))), (7, .int (nI (2 ^ (lgL a + 1) - 2 - a)))]) rfl rfl ?_
        refine WX.keep (y := 113) [0, 1, 2, 4, 5] (show ([0, 1, 2, 4, 5, 6, 7] : List Nat).Nodup by decide) rfl ?_
        refine WX.s1 rfl rfl ?_
        refine WX.s1 rfl rfl ?_
        refine WX.icmp rfl (fun c_126 => ?_) (fun c_126 => ?_)
        · skip
          have n_126 : ¬ (u x) = 1 := fun zz_ => c_126 ((nI_eq (a := u x) (b := 1) (by omega) (by omega)).mpr zz_)
          refine WX.s1 rfl rfl ?_
          refine WX.s1 (L' := [(0, .ref k), (1, .ref r), (2, .int (nI (a - massU (u x)))), (3, .int 0), (4, .int (nI x)), (5, .int (nI (u x)))]) rfl rfl ?_
          refine WX.s1 rfl rfl ?_
          refine WX.s1 rfl rfl ?_
          refine WX.icmp rfl (fun c_145 => ?_) (fun c_145 => absurd (fun q => n_126 ((nI_eq1 (by omega)).mp q)) c_145)
          refine WX.s1 rfl rfl ?_
          refine WX.s1 rfl rfl ?_
          refine WX.s1 rfl rfl ?_
          refine WX.s1 (S' := [.int (1 + 0), .int (nI x)]) rfl rfl ?_
          rw [show (1 : Int32) + 0 = 1 from rfl]
          refine WX.s1 (S' := [.int ((nI x) + 1)]) rfl rfl ?_
          rw [show ((nI x) + 1) = nI (x + 1) from nI_add x 1]
          refine WX.s1 (L' := [(0, .ref k), (1, .ref r), (2, .int (nI (a - massU (u x)))), (3, .int 0), (4, .int (nI (x + 1))), (5, .int (nI (u x)))]) rfl rfl ?_
          refine WX.s1 rfl rfl ?_
          refine WX.keep (y := 113) [0, 1, 2, 4] (show ([0, 1, 2, 3, 4, 5] : List Nat).Nodup by decide) rfl ?_
          exact ih (x + 1) (a - massU (u x)) cb h2 (by omega) (by omega) (by rw [mSum_succ]; omega) F2 F_h2_k F_h2__k_1_ R2 (by rw [← hT, tellF_2 b ha0 n_126, hcb])
        · skip
          have n_126 : (u x) = 1 := (nI_eq (a := u x) (b := 1) (by omega) (by omega)).mp (Classical.not_not.mp c_126)
          refine WX.s1 rfl rfl ?_
          refine WX.s1 rfl rfl ?_
          refine WX.s1 rfl rfl ?_
          refine WX.s1 (S' := [.int ((nI x) + 1), .ref k]) rfl rfl ?_
          rw [show ((nI x) + 1) = nI (x + 1) from nI_add x 1]
          refine WX.callC (vs := [.ref k, .int (nI (x + 1))]) rfl rfl rfl (Nat.le_of_ble_eq_true rfl) (rcv_ok (by omega) F_h2_k) ?_
          refine x_zeros hk hl hU (by omega) F_h2_k F_h2__k_1_ (fun z z1 z2 z3 => ?_)
          have hux : u x = 1 := n_126
          have hm0 : massU (u x) = 0 := by rw [hux]; rfl
          have hm1 := mSum_ones z z1
          rw [mSum_succ] at hm1
          have z4 : x + 1 + z ≤ l := by
            apply Classical.byContradiction
            intro q
            rw [show x + 1 + z = l + 1 by omega] at hm1
            omega
          have hzF : zF u 64 (x + 1) = z := zF_is z 64 (x + 1) (by omega) z1 (z3 z4)
          show WX _ _ _ 137 [(0, .ref k), (1, .ref r), (2, .int (nI (a - massU (u x)))), (4, .int (nI x)), (5, .int (nI (u x)))] [.int (nI z)] (n, s, h2)
          refine WX.s1 rfl rfl ?_
          refine WX.s1 (L' := [(0, .ref k), (1, .ref r), (2, .int (nI (a - massU (u x)))), (3, .int (nI z)), (4, .int (nI x)), (5, .int (nI (u x)))]) rfl rfl ?_
          refine WX.s1 rfl rfl ?_
          refine WX.s1 rfl rfl ?_
          refine WX.icmp rfl (fun c_145 => absurd c_145 (fun q => q ((nI_eq1 (by omega)).mpr n_126))) (fun c_145 => ?_)
          refine WX.s1 rfl rfl ?_
          refine WX.s1 (L' := [(0, .ref k), (1, .ref r), (2, .int (nI (a - massU (u x)))), (3, .int (nI z)), (4, .int (nI x)), (5, .int (nI (u x))), (8, .int 0)]) rfl rfl ?_
          have lp2 : ∀ (t i : Nat) (hM : Nat → aE), i + t = z / 3 → Fr h hM (fun j => j = r ∨ j = r + 1) → hM k = .inr (8, [.int (nI l), .ref (k + 1), .ref (k + 2), .ref (k + 3), .ref (k + 4), .ref (k + 5), .ref (k + 6), .int (nI o), .int th]) → hM (k + 1) = .inl (1, (l + 1), .inl pA) → RowW hM r N bb (thr cb i).1 (thr cb i).2 → WX (lk tX8_tell) (mM (d + 2)) Ψ 151 [(0, .ref k), (1, .ref r), (2, .int (nI (a - massU (u x)))), (3, .int (nI z)), (4, .int (nI x)), (5, .int (nI (u x))), (8, .int (nI i))] [] (n, s, hM) := by
            clear R2 F2 F_h2_k F_h2__k_1_
            intro t
            induction t with
            | zero =>
              intro i hM hi FM F_hM_k F_hM__k_1_ RM
              obtain rfl : i = z / 3 := by omega
              refine WX.s1 rfl rfl ?_
              refine WX.s1 rfl rfl ?_
              refine WX.s1 rfl rfl ?_
              refine WX.div rfl (by decide) ?_
              rw [show nI z / 3 = nI (z / 3) from pk_div (by omega) (by decide) (by decide)]
              refine WX.icmp rfl (fun c_156 => ?_) (fun c_156 => absurd ((nI_leI (a := z / 3) (b := z / 3) (by omega) (by omega)).mpr (by omega)) c_156)
              clear c_156
              refine WX.s1 rfl rfl ?_
              refine WX.s1 rfl rfl ?_
              refine WX.s1 rfl rfl ?_
              refine WX.div rfl (by decide) ?_
              rw [show nI z - nI z / 3 * 3 = nI (z % 3) from pk_rem (d := 3) (by omega) (by decide) (by decide)]
              refine WX.s1 rfl rfl ?_
              refine WX.callC (vs := [.ref r, .int (nI (z % 3)), .int (nI 2)]) rfl rfl rfl (Nat.le_of_ble_eq_true rfl) (RM.2.rcv (by omega)) ?_
              refine w_addW hr RM hN (by omega) (by omega) (fun h176 fr176 R176 => ?_)
              have F_h176_k : h176 k = .inr (8, [.int (nI l), .ref (k + 1), .ref (k + 2), .ref (k + 3), .ref (k + 4), .ref (k + 5), .ref (k + 6), .int (nI o), .int th]) := (fr176 _ (by omega)).trans F_hM_k
              have F_h176__k_1_ : h176 (k + 1) = .inl (1, (l + 1), .inl pA) := (fr176 _ (by omega)).trans F_hM__k_1_
              have F176 : Fr h h176 (fun j => j = r ∨ j = r + 1) := FM.ztr fr176
              show WX _ _ _ 179 [(0, .ref k), (1, .ref r), (2, .int (nI (a - massU (u x)))), (3, .int (nI z)), (4, .int (nI x)), (5, .int (nI (u x))), (8, .int (nI (z / 3)))] [] (n, s, h176)
              refine WX.s1 rfl rfl ?_
              refine WX.s1 rfl rfl ?_
              refine WX.s1 rfl rfl ?_
              refine WX.s1 (S' := [.int (1 + (nI z)), .int (nI x)]) rfl rfl ?_
              rw [show (1 : Int32) + nI z = nI (1 + z) from nI_add 1 z]
              refine WX.s1 (S' := [.int ((nI x) + (nI (1 + z)))]) rfl rfl ?_
              rw [show ((nI x) + (nI (1 + z))) = nI (x + (1 + z)) from nI_add x (1 + z)]
              refine WX.s1 (L' := [(0, .ref k), (1, .ref r), (2, .int (nI (a - massU (u x)))), (3, .int (nI z)), (4, .int (nI (x + (1 + z)))), (5, .int (nI (u x))), (8, .int (nI (z / 3)))]) rfl rfl ?_
              refine WX.s1 rfl rfl ?_
              refine WX.keep (y := 113) [0, 1, 2, 4] (show ([0, 1, 2, 3, 4, 5, 8] : List Nat).Nodup by decide) rfl ?_
              rw [show x + (1 + z) = x + 1 + z by omega, show a - massU (u x) = a by omega]
              exact ih (x + 1 + z) a (zB cb z) h176 (by omega) (by omega) (by rw [hm1]; omega) F176 F_h176_k F_h176__k_1_ R176 (by rw [← hT, tellF_1 b ha0 hux hzF, hcb])
            | succ t ih2 =>
              intro i hM hi FM F_hM_k F_hM__k_1_ RM
              refine WX.s1 rfl rfl ?_
              refine WX.s1 rfl rfl ?_
              refine WX.s1 rfl rfl ?_
              refine WX.div rfl (by decide) ?_
              rw [show nI z / 3 = nI (z / 3) from pk_div (by omega) (by decide) (by decide)]
              refine WX.icmp rfl (fun c_156 => absurd c_156 (fun zz_ => absurd ((nI_leI (a := z / 3) (b := i) (by omega) (by omega)).mp zz_) (Nat.not_le.mpr (by omega)))) (fun c_156 => ?_)
              clear c_156
              refine WX.s1 rfl rfl ?_
              refine WX.s1 rfl rfl ?_
              refine WX.s1 rfl rfl ?_
              refine WX.callC (vs := [.ref r, .int (nI 3), .int (nI 2)]) rfl rfl rfl (Nat.le_of_ble_eq_true rfl) (RM.2.rcv (by omega)) ?_
              refine w_addW hr RM hN (by omega) (by omega) (fun h162 fr162 R162 => ?_)
              have F_h162_k : h162 k = .inr (8, [.int (nI l), .ref (k + 1), .ref (k + 2), .ref (k + 3), .ref (k + 4), .ref (k + 5), .ref (k + 6), .int (nI o), .int th]) := (fr162 _ (by omega)).trans F_hM_k
              have F_h162__k_1_ : h162 (k + 1) = .inl (1, (l + 1), .inl pA) := (fr162 _ (by omega)).trans F_hM__k_1_
              have F162 : Fr h h162 (fun j => j = r ∨ j = r + 1) := FM.ztr fr162
              show WX _ _ _ 165 [(0, .ref k), (1, .ref r), (2, .int (nI (a - massU (u x)))), (3, .int (nI z)), (4, .int (nI x)), (5, .int (nI (u x))), (8, .int (nI i))] [] (n, s, h162)
              refine WX.s1 (L' := [(0, .ref k), (1, .ref r), (2, .int (nI (a - massU (u x)))), (3, .int (nI z)), (4, .int (nI x)), (5, .int (nI (u x))), (8, .int ((nI i) + 1))]) rfl rfl ?_
              rw [show ((nI i) + 1) = nI (i + 1) from nI_add i 1]
              refine WX.s1 rfl rfl ?_
              exact ih2 (i + 1) h162 (by omega) F162 F_h162_k F_h162__k_1_ R162
          exact lp2 (z / 3) 0 h2 (by omega) F2 F_h2_k F_h2__k_1_ R2
      refine WX.s1 rfl rfl ?_
      refine WX.s1 rfl rfl ?_
      refine WX.icmp rfl (fun c_69 => ?_) (fun c_69 => ?_)
      · skip
        have n_69 : (2 ^ (lgL a + 1) - 2 - a) ≤ (u x) := (nI_leI (a := 2 ^ (lgL a + 1) - 2 - a) (b := u x) (by omega) (by omega)).mp c_69
        refine WX.s1 rfl rfl ?_
        refine WX.s1 rfl rfl ?_
        refine WX.s1 rfl rfl ?_
        refine WX.s1 rfl rfl ?_
        refine WX.s1 (S' := [.int (1 <<< ((nI (lgL a)) &&& 31)), .int (nI (u x)), .ref r]) rfl rfl ?_
        rw [sh1 (lgL a) (by omega)]
        refine WX.icmp rfl (fun c_90 => ?_) (fun c_90 => ?_)
        · skip
          have n_90 : (2 ^ lgL a) ≤ (u x) := (nI_leI (a := 2 ^ lgL a) (b := u x) (by omega) (by omega)).mp c_90
          refine WX.s1 rfl rfl ?_
          refine WX.s1 rfl rfl ?_
          refine WX.s1 (S' := [.int ((nI (u x)) + (nI (2 ^ (lgL a + 1) - 2 - a))), .ref r]) rfl rfl ?_
          rw [show ((nI (u x)) + (nI (2 ^ (lgL a + 1) - 2 - a))) = nI (u x + (2 ^ (lgL a + 1) - 2 - a)) from nI_add (u x) (2 ^ (lgL a + 1) - 2 - a)]
          refine WX.s1 rfl rfl ?_
          refine WX.s1 rfl rfl ?_
          refine WX.s1 (S' := [.int ((nI (lgL a)) + 1), .int (nI (u x + (2 ^ (lgL a + 1) - 2 - a))), .ref r]) rfl rfl ?_
          rw [show ((nI (lgL a)) + 1) = nI (lgL a + 1) from nI_add (lgL a) 1]
          refine WX.callC (vs := [.ref r, .int (nI (u x + (2 ^ (lgL a + 1) - 2 - a))), .int (nI (lgL a + 1))]) rfl rfl rfl (Nat.le_of_ble_eq_true rfl) (RL.2.rcv (by omega)) ?_
          refine w_addW hr RL hN (by omega) (by omega) (fun h107 fr107 R107 => ?_)
          have F_h107_k : h107 k = .inr (8, [.int (nI l), .ref (k + 1), .ref (k + 2), .ref (k + 3), .ref (k + 4), .ref (k + 5), .ref (k + 6), .int (nI o), .int th]) := (fr107 _ (by omega)).trans F_hL_k
          have F_h107__k_1_ : h107 (k + 1) = .inl (1, (l + 1), .inl pA) := (fr107 _ (by omega)).trans F_hL__k_1_
          have F107 : Fr h h107 (fun j => j = r ∨ j = r + 1) := FL.ztr fr107
          show WX _ _ _ 110 [(0, .ref k), (1, .ref r), (2, .int (nI a)), (4, .int (nI x)), (5, .int (nI (u x))), (6, .int (nI (lgL a))), (7, .int (nI (2 ^ (lgL a + 1) - 2 - a)))] [] (n, s, h107)
          exact t110 h107 F107 F_h107_k F_h107__k_1_ (by rw [show codeB a (u x) b = addB b (if u x < 2 ^ lgL a then u x else u x + (2 ^ (lgL a + 1) - 2 - a)) (lgL a + 1) from if_neg (by omega), if_neg (by omega)]; exact R107)
        · skip
          have n_90 : (u x) < (2 ^ lgL a) := Nat.lt_of_not_le (fun zz_ => c_90 ((nI_leI (a := 2 ^ lgL a) (b := u x) (by omega) (by omega)).mpr zz_))
          refine WX.s1 rfl rfl ?_
          refine WX.s1 rfl rfl ?_
          refine WX.s1 rfl rfl ?_
          refine WX.s1 rfl rfl ?_
          refine WX.s1 (S' := [.int ((nI (lgL a)) + 1), .int (nI (u x)), .ref r]) rfl rfl ?_
          rw [show ((nI (lgL a)) + 1) = nI (lgL a + 1) from nI_add (lgL a) 1]
          refine WX.callC (vs := [.ref r, .int (nI (u x)), .int (nI (lgL a + 1))]) rfl rfl rfl (Nat.le_of_ble_eq_true rfl) (RL.2.rcv (by omega)) ?_
          refine w_addW hr RL hN (by omega) (by omega) (fun h107 fr107 R107 => ?_)
          have F_h107_k : h107 k = .inr (8, [.int (nI l), .ref (k + 1), .ref (k + 2), .ref (k + 3), .ref (k + 4), .ref (k + 5), .ref (k + 6), .int (nI o), .int th]) := (fr107 _ (by omega)).trans F_hL_k
          have F_h107__k_1_ : h107 (k + 1) = .inl (1, (l + 1), .inl pA) := (fr107 _ (by omega)).trans F_hL__k_1_
          have F107 : Fr h h107 (fun j => j = r ∨ j = r + 1) := FL.ztr fr107
          show WX _ _ _ 110 [(0, .ref k), (1, .ref r), (2, .int (nI a)), (4, .int (nI x)), (5, .int (nI (u x))), (6, .int (nI (lgL a))), (7, .int (nI (2 ^ (lgL a + 1) - 2 - a)))] [] (n, s, h107)
          exact t110 h107 F107 F_h107_k F_h107__k_1_ (by rw [show codeB a (u x) b = addB b (if u x < 2 ^ lgL a then u x else u x + (2 ^ (lgL a + 1) - 2 - a)) (lgL a + 1) from if_neg (by omega), if_pos n_90]; exact R107)
      · skip
        have n_69 : (u x) < (2 ^ (lgL a + 1) - 2 - a) := Nat.lt_of_not_le (fun zz_ => c_69 ((nI_leI (a := 2 ^ (lgL a + 1) - 2 - a) (b := u x) (by omega) (by omega)).mpr zz_))
        refine WX.s1 rfl rfl ?_
        refine WX.s1 rfl rfl ?_
        refine WX.s1 rfl rfl ?_
        refine WX.callC (vs := [.ref r, .int (nI (u x)), .int (nI (lgL a))]) rfl rfl rfl (Nat.le_of_ble_eq_true rfl) (RL.2.rcv (by omega)) ?_
        refine w_addW hr RL hN (by omega) (by omega) (fun h77 fr77 R77 => ?_)
        have F_h77_k : h77 k = .inr (8, [.int (nI l), .ref (k + 1), .ref (k + 2), .ref (k + 3), .ref (k + 4), .ref (k + 5), .ref (k + 6), .int (nI o), .int th]) := (fr77 _ (by omega)).trans F_hL_k
        have F_h77__k_1_ : h77 (k + 1) = .inl (1, (l + 1), .inl pA) := (fr77 _ (by omega)).trans F_hL__k_1_
        have F77 : Fr h h77 (fun j => j = r ∨ j = r + 1) := FL.ztr fr77
        show WX _ _ _ 80 [(0, .ref k), (1, .ref r), (2, .int (nI a)), (4, .int (nI x)), (5, .int (nI (u x))), (6, .int (nI (lgL a))), (7, .int (nI (2 ^ (lgL a + 1) - 2 - a)))] [] (n, s, h77)
        refine WX.s1 rfl rfl ?_
        exact t110 h77 F77 F_h77_k F_h77__k_1_ (by rw [show codeB a (u x) b = addB b (u x) (lgL a) from if_pos n_69]; exact R77)
  exact lp 64 0 (2 ^ o) (addB (0, 0) (o - 5) 4) h8 (by omega) (by omega) rfl F8 F_h8_k F_h8__k_1_ R8 rfl
