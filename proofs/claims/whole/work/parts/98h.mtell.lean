/-! the reference: putShare -/
theorem nz_ex {u : Nat → Nat} {a : Nat} : ∀ {k : Nat}, mSum u a < mSum u (a + k) → ∃ z, z < k ∧ (∀ j, j < z → u (a + j) = 1) ∧ u (a + z) ≠ 1 := by
  intro k
  induction k with
  | zero => intro h; exact absurd h (Nat.lt_irrefl _)
  | succ k ih =>
    intro h
    by_cases c : mSum u a < mSum u (a + k)
    · obtain ⟨z, z1, z2, z3⟩ := ih c
      exact ⟨z, by omega, z2, z3⟩
    · have e : mSum u (a + (k + 1)) = mSum u (a + k) + massU (u (a + k)) := rfl
      have m : mSum u a ≤ mSum u (a + k) := mSum_mono u (by omega)
      refine Classical.byContradiction (fun q => ?_)
      have all : ∀ i, i ≤ k → ∀ j, j < i → u (a + j) = 1 := by
        intro i
        induction i with
        | zero => intro _ j hj; exact absurd hj (Nat.not_lt_zero j)
        | succ i ihi =>
          intro hi j hj
          by_cases e2 : j = i
          · rw [e2]
            apply Classical.byContradiction
            intro z
            exact q ⟨i, by omega, ihi (by omega), z⟩
          · exact ihi (by omega) j (by omega)
      have hk : u (a + k) = 1 := by
        apply Classical.byContradiction
        intro z
        exact q ⟨k, by omega, all k (Nat.le_refl _), z⟩
      rw [hk] at e
      have : massU 1 = 0 := rfl
      omega
theorem nI_m3 {y : Nat} (h : 3 ≤ y) : nI y + (-3) = nI (y - 3) := by
  rw [← nI_subN (a := y) (b := 3) h, Int32.sub_eq_add_neg]
  rfl
theorem addB1 (b : Nat × Nat) (x m : Nat) : (addB b x m).1 = b.1 + m := rfl
theorem code_le {a u : Nat} (b : Nat × Nat) (h : a ≤ 512) : (codeB a u b).1 ≤ b.1 + 10 := by
  obtain ⟨-, -, -, h4⟩ := lgL_ok h
  unfold codeB
  split
  · rw [addB1]; omega
  · rw [addB1]; omega
theorem thr_1 (b : Nat × Nat) : ∀ j, (thr b j).1 = b.1 + 2 * j := by
  intro j
  induction j with
  | zero => rfl
  | succ j ih => show (thr b j).1 + 2 = _; rw [ih]; omega
set_option maxRecDepth 20000 in
theorem m_putShare {d n s : Nat} {h : Nat → aE} {m : Nat} {I : Nat → Int32} {AR : Nat → Nat → Int32} {LN : Nat → Int64} {u : Nat → Nat} {o c0 w0 : Nat} (hm : m + 43 < n) (M_h : MAt h m I AR LN) (ho5 : 5 ≤ o) (ho : o ≤ 9) (hU : ∀ s, s < 64 → AR 30 s = qI (u s)) (hS : mSum u 64 = 2 ^ o) (hM : MadeIs I AR c0 w0) (hc0 : c0 ≤ 100000)  {Ψ : Option Value → aH → Prop} (kk : ∀ h' I' A', Fr h h' (inM m) → MAt h' m I' A' LN → Fi I I' (fun f => f = 38) → Fa AR A' 24 → MadeIs I' A' (8 * (((shB u o (c0, w0)).1 + 7) / 8)) (shB u o (c0, w0)).2 → (shB u o (c0, w0)).1 ≤ c0 + 4 + 13 * 64 → Ψ none (n, s, h')) : WO (mM (d + 2)) 170 [.ref m, .ref (m + 30), .int 0, .int (nI o)] (n, s, h) Ψ := by
  refine WO.of (Nat.le_of_ble_eq_true rfl) ?_
  have FR_h : Fr h h (inM m) := Fr.rf
  have FI_I : Fi I I (fun f => f = 38) := Fi.rf
  have h2o : 2 ^ o ≤ 2 ^ 9 := Nat.pow_le_pow_right (by decide) ho
  have h2p : 0 < 2 ^ o := Nat.pow_pos (by decide)
  have hub : ∀ s, s < 64 → u s ≤ 2 ^ o + 1 := fun s hs => by
    have h1 := sumN_get (fun s => massU (u s)) hs
    have h2 : sumN (fun s => massU (u s)) 64 = 2 ^ o := hS
    have h3 : massU (u s) ≤ 2 ^ o := by rw [← h2]; exact h1
    unfold massU at h3
    by_cases z : u s = 0
    · omega
    · rw [if_neg z] at h3; omega
  have FA_AR : Fa AR AR 24 := Fa.rf
  show WX (lk tX12_putShare) (mM (d + 1)) Ψ 0 [(0, .ref m), (1, .ref (m + 30)), (2, .int 0), (3, .int (nI o))] [] (n, s, h)
  refine WX.s1 rfl rfl ?_
  refine WX.s1 rfl rfl ?_
  refine WX.s1 rfl rfl ?_
  refine WX.s1 (S' := [.int ((nI o) - 5), .ref m]) rfl rfl ?_
  rw [show nI o - 5 = nI (o - 5) from nI_subN (b := 5) ho5]
  refine WX.s1 rfl rfl ?_
  refine WX.callC (vs := [.ref m, .int (nI (o - 5)), .int (nI 4)]) rfl rfl rfl (Nat.le_of_ble_eq_true rfl) (M_h.rcv hm) ?_
  refine m_putV hm M_h hM (by omega) (by omega) (by omega) (fun h5 I5 A5 fr5 M_h5 fi5 fa5 R5 => ?_)
  have FR_h5 := FR_h.ztr fr5
  have FI_I5 : Fi I I5 (fun f => f = 38) := FI_I.ztr fi5
  have FA_A5 : Fa AR A5 24 := FA_AR.ztr fa5
  show WX _ _ _ 8 [(0, .ref m), (1, .ref (m + 30)), (2, .int 0), (3, .int (nI o))] [] (n, s, h5)
  refine WX.s1 rfl rfl ?_
  refine WX.s1 rfl rfl ?_
  refine WX.s1 (S' := [.int (1 <<< ((nI o) &&& 31))]) rfl rfl ?_
  rw [sh1 o (by omega)]
  refine WX.s1 (L' := [(0, .ref m), (1, .ref (m + 30)), (2, .int 0), (3, .int (nI o)), (4, .int (nI (2 ^ o)))]) rfl rfl ?_
  refine WX.s1 rfl rfl ?_
  refine WX.s1 (L' := [(0, .ref m), (1, .ref (m + 30)), (2, .int 0), (3, .int (nI o)), (4, .int (nI (2 ^ o))), (5, .int 0)]) rfl rfl ?_
  have lp : ∀ (f x a : Nat) (b : Nat × Nat) (hL : Nat → aE) (IL : Nat → Int32) (AL : Nat → Nat → Int32), 64 ≤ x + f → x ≤ 64 → a + mSum u x = 2 ^ o → b.1 ≤ c0 + 4 + 13 * x → Fr h hL (inM m) → MAt hL m IL AL LN → Fi I IL (fun f => f = 38) → Fa AR AL 24 → MadeIs IL AL b.1 b.2 → tellF u f x a b = shB u o (c0, w0) → WX (lk tX12_putShare) (mM (d + 1)) Ψ 16 [(0, .ref m), (1, .ref (m + 30)), (2, .int 0), (3, .int (nI o)), (4, .int (nI a)), (5, .int (nI x))] [] (n, s, hL) := by
    clear M_h5 FR_h5 FI_I5 FA_A5 R5 M_h FR_h FI_I FA_AR hM fr5 fi5 fa5
    intro f
    induction f with
    | zero =>
      intro x a b hL IL AL hxf hx hax hb FR_hL M_hL FI_IL FA_AL RL hT
      have ha0 : a = 0 := by rw [show x = 64 by omega] at hax; omega
      refine WX.s1 rfl rfl ?_
      refine WX.if_ rfl (fun c_18 => ?_) (fun c_18 => absurd ((nI_leI (a := a) (b := 0) (by omega) (by omega)).mpr (by omega)) c_18)
      clear c_18
      refine WX.s1 rfl rfl ?_
      have hbT : b = shB u o (c0, w0) := by rw [← hT, ha0]; exact (tellF_0 u _ _ _).symm
      rw [hbT] at RL hb
      refine WX.callC (vs := [.ref m]) rfl rfl rfl (Nat.le_of_ble_eq_true rfl) (M_hL.rcv hm) ?_
      refine m_fillV hm M_hL RL (by omega) (fun h9 I9 A9 fr9 M_h9 fi9 fa9 R9 => ?_)
      exact WX.ret0 rfl (kk h9 I9 A9 (FR_hL.ztr fr9) M_h9 (FI_IL.ztr fi9) (FA_AL.ztr fa9) R9 (by omega))
    | succ f ih =>
      intro x a b hL IL AL hxf hx hax hb FR_hL M_hL FI_IL FA_AL RL hT
      by_cases ha0 : a = 0
      · skip
        refine WX.s1 rfl rfl ?_
        refine WX.if_ rfl (fun c_18 => ?_) (fun c_18 => absurd ((nI_leI (a := a) (b := 0) (by omega) (by omega)).mpr (by omega)) c_18)
        clear c_18
        refine WX.s1 rfl rfl ?_
        have hbT : b = shB u o (c0, w0) := by rw [← hT, ha0]; exact (tellF_0 u _ _ _).symm
        rw [hbT] at RL hb
        refine WX.callC (vs := [.ref m]) rfl rfl rfl (Nat.le_of_ble_eq_true rfl) (M_hL.rcv hm) ?_
        refine m_fillV hm M_hL RL (by omega) (fun h9 I9 A9 fr9 M_h9 fi9 fa9 R9 => ?_)
        exact WX.ret0 rfl (kk h9 I9 A9 (FR_hL.ztr fr9) M_h9 (FI_IL.ztr fi9) (FA_AL.ztr fa9) R9 (by omega))
      have hx64 : x < 64 := by apply Classical.byContradiction; intro q; rw [show x = 64 by omega] at hax; omega
      have hmx : mSum u (x + 1) ≤ 2 ^ o := by rw [← hS]; exact mSum_mono u (by omega)
      rw [mSum_succ] at hmx
      obtain ⟨hL1, hL2, hL3, hL4⟩ := lgL_ok (a := a) (by omega)
      have hL5 : 0 < 2 ^ lgL a := Nat.pow_pos (by decide)
      have hL6 : 2 ^ lgL a ≤ 2 ^ 9 := Nat.pow_le_pow_right (by decide) hL4
      have hux := hub x hx64
      have hcl := code_le (u := u x) b (show a ≤ 512 by omega)
      refine WX.s1 rfl rfl ?_
      refine WX.if_ rfl (fun c_18 => absurd c_18 (fun zz_ => absurd ((nI_leI (a := a) (b := 0) (by omega) (by omega)).mp zz_) (Nat.not_le.mpr (by omega)))) (fun c_18 => ?_)
      clear c_18
      refine WX.s1 rfl rfl ?_
      refine WX.s1 rfl rfl ?_
      refine WX.s1 rfl rfl ?_
      refine WX.s1 (S' := [.int (0 + (nI x)), .ref (m + 30)]) rfl rfl ?_
      rw [show (0 + (nI x)) = nI (0 + x) from nI_add 0 x]
      refine WX.mald (c := 30) rfl hm M_hL (by decide) (by decide) (by decide) (by decide) (vp_in_nI (N := 64) (by omega) (by decide)) ?_
      rw [nI_clamp (by omega), FA_AL 30 (by decide), Nat.zero_add, hU x hx64]
      refine WX.s1 rfl rfl ?_
      refine WX.s1 (S' := [.int ((qI (u x)) + 1)]) rfl rfl ?_
      rw [qI_p1]
      refine WX.s1 (L' := [(0, .ref m), (1, .ref (m + 30)), (2, .int 0), (3, .int (nI o)), (4, .int (nI a)), (5, .int (nI x)), (6, .int (nI (u x)))]) rfl rfl ?_
      refine WX.s1 rfl rfl ?_
      refine WX.s1 rfl rfl ?_
      refine WX.s1 (S' := [.int ((nI a) + 1)]) rfl rfl ?_
      rw [show ((nI a) + 1) = nI (a + 1) from nI_add a 1]
      refine WX.callC (vs := [.int (nI (a + 1))]) rfl rfl rfl (Nat.le_of_ble_eq_true rfl) rfl ?_
      refine m_log (by omega) (by omega) (fun gg g1 g2 => ?_)
      obtain rfl : gg = lgL a := log_un g1 g2 hL1 hL2
      clear g1 g2
      show WX _ _ _ 38 [(0, .ref m), (1, .ref (m + 30)), (2, .int 0), (3, .int (nI o)), (4, .int (nI a)), (5, .int (nI x)), (6, .int (nI (u x)))] [.int (nI (lgL a))] (n, s, hL)
      refine WX.s1 (L' := [(0, .ref m), (1, .ref (m + 30)), (2, .int 0), (3, .int (nI o)), (4, .int (nI a)), (5, .int (nI x)), (6, .int (nI (u x))), (7, .int (nI (lgL a)))]) rfl rfl ?_
      refine WX.s1 rfl rfl ?_
      refine WX.s1 rfl rfl ?_
      refine WX.s1 (S' := [.int (1 <<< ((nI (lgL a)) &&& 31))]) rfl rfl ?_
      rw [sh1 (lgL a) (by omega)]
      refine WX.s1 (L' := [(0, .ref m), (1, .ref (m + 30)), (2, .int 0), (3, .int (nI o)), (4, .int (nI a)), (5, .int (nI x)), (6, .int (nI (u x))), (7, .int (nI (lgL a))), (8, .int (nI (2 ^ lgL a)))]) rfl rfl ?_
      refine WX.s1 rfl rfl ?_
      refine WX.s1 rfl rfl ?_
      refine WX.s1 (S' := [.int (2 * (nI (2 ^ lgL a)))]) rfl rfl ?_
      rw [show (2 : Int32) * nI (2 ^ lgL a) = nI (2 ^ (lgL a + 1)) from ((Int32.ofNat_mul 2 _).symm.trans (congrArg nI hL3.symm))]
      refine WX.s1 rfl rfl ?_
      refine WX.s1 (S' := [.int ((nI (2 ^ (lgL a + 1))) - 2)]) rfl rfl ?_
      rw [show nI (2 ^ (lgL a + 1)) - 2 = nI (2 ^ (lgL a + 1) - 2) from nI_subN (b := 2) (by omega)]
      refine WX.s1 rfl rfl ?_
      refine WX.s1 (S' := [.int ((nI (2 ^ (lgL a + 1) - 2)) - (nI a))]) rfl rfl ?_
      rw [nI_subN (by omega)]
      refine WX.s1 (L' := [(0, .ref m), (1, .ref (m + 30)), (2, .int 0), (3, .int (nI o)), (4, .int (nI a)), (5, .int (nI x)), (6, .int (nI (u x))), (7, .int (nI (lgL a))), (8, .int (nI (2 ^ lgL a))), (9, .int (nI (2 ^ (lgL a + 1) - 2 - a)))]) rfl rfl ?_
      have t101 : ∀ (h2 : Nat → aE) (I2 : Nat → Int32) (A2 : Nat → Nat → Int32), Fr h h2 (inM m) → MAt h2 m I2 A2 LN → Fi I I2 (fun f => f = 38) → Fa AR A2 24 → MadeIs I2 A2 (codeB a (u x) b).1 (codeB a (u x) b).2 → WX (lk tX12_putShare) (mM (d + 1)) Ψ 101 [(0, .ref m), (1, .ref (m + 30)), (2, .int 0), (3, .int (nI o)), (4, .int (nI a)), (5, .int (nI x)), (6, .int (nI (u x))), (7, .int (nI (lgL a))), (8, .int (nI (2 ^ lgL a))), (9, .int (nI (2 ^ (lgL a + 1) - 2 - a)))] [] (n, s, h2) := by
        clear RL FR_hL FI_IL FA_AL M_hL
        intro h2 I2 A2 FR_h2 M_h2 FI_I2 FA_A2 R2
        generalize hcb : codeB a (u x) b = cb at R2 hcl
        refine WX.s1 rfl rfl ?_
        refine WX.s1 rfl rfl ?_
        refine WX.s1 rfl rfl ?_
        refine WX.s1 (S' := [.int ((nI (u x)) - 1), .int (nI a)]) rfl rfl ?_
        rw [nI_m1]
        refine WX.callC (vs := [.int (qI (u x))]) rfl rfl rfl (Nat.le_of_ble_eq_true rfl) rfl ?_
        refine m_mass (by omega) ?_
        show WX _ _ _ 110 [(0, .ref m), (1, .ref (m + 30)), (2, .int 0), (3, .int (nI o)), (4, .int (nI a)), (5, .int (nI x)), (6, .int (nI (u x))), (7, .int (nI (lgL a))), (8, .int (nI (2 ^ lgL a))), (9, .int (nI (2 ^ (lgL a + 1) - 2 - a)))] [.int (nI (massU (u x))), .int (nI a)] (n, s, h2)
        refine WX.s1 (S' := [.int ((nI a) - (nI (massU (u x))))]) rfl rfl ?_
        rw [nI_subN (by omega)]
        refine WX.s1 (L' := [(0, .ref m), (1, .ref (m + 30)), (2, .int 0), (3, .int (nI o)), (4, .int (nI (a - massU (u x)))), (5, .int (nI x)), (6, .int (nI (u x))), (7, .int (nI (lgL a))), (8, .int (nI (2 ^ lgL a))), (9, .int (nI (2 ^ (lgL a + 1) - 2 - a)))]) rfl rfl ?_
        refine WX.s1 (L' := [(0, .ref m), (1, .ref (m + 30)), (2, .int 0), (3, .int (nI o)), (4, .int (nI (a - massU (u x)))), (5, .int ((nI x) + 1)), (6, .int (nI (u x))), (7, .int (nI (lgL a))), (8, .int (nI (2 ^ lgL a))), (9, .int (nI (2 ^ (lgL a + 1) - 2 - a)))]) rfl rfl ?_
        rw [show ((nI x) + 1) = nI (x + 1) from nI_add x 1]
        refine WX.s1 rfl rfl ?_
        refine WX.s1 rfl rfl ?_
        refine WX.icmp rfl (fun c_119 => ?_) (fun c_119 => ?_)
        · skip
          have n_119 : (u x) = 1 := (nI_eq (a := u x) (b := 1) (by omega) (by omega)).mp c_119
          refine WX.keep (y := 170) [0, 1, 2, 3, 4, 5] (show ([0, 1, 2, 3, 4, 5, 6, 7, 8, 9] : List Nat).Nodup by decide) rfl ?_
          have hux1 : u x = 1 := n_119
          have hm0 : massU (u x) = 0 := by rw [hux1]; rfl
          rw [show a - massU (u x) = a by omega]
          obtain ⟨z, z0, z1, z3⟩ := nz_ex (u := u) (a := x + 1) (k := 64 - (x + 1)) (by rw [show x + 1 + (64 - (x + 1)) = 64 by omega, hS, mSum_succ]; omega)
          have hm1 := mSum_ones z z1
          rw [mSum_succ] at hm1
          have hzF : zF u 64 (x + 1) = z := zF_is z 64 (x + 1) (by omega) z1 z3
          refine WX.s1 rfl rfl ?_
          refine WX.s1 (L' := [(0, .ref m), (1, .ref (m + 30)), (2, .int 0), (3, .int (nI o)), (4, .int (nI a)), (5, .int (nI (x + 1))), (10, .int 0)]) rfl rfl ?_
          have lp2 : ∀ (t i : Nat), i + t = z → WX (lk tX12_putShare) (mM (d + 1)) Ψ 128 [(0, .ref m), (1, .ref (m + 30)), (2, .int 0), (3, .int (nI o)), (4, .int (nI a)), (5, .int (nI (x + 1))), (10, .int (nI i))] [] (n, s, h2) := by
            intro t
            induction t with
            | zero =>
              intro i hi
              have hui := hub (x + 1 + i) (by omega)
              obtain rfl : i = z := by omega
              refine WX.s1 rfl rfl ?_
              refine WX.s1 rfl rfl ?_
              refine WX.s1 rfl rfl ?_
              refine WX.s1 (S' := [.int (0 + (nI (x + 1))), .ref (m + 30)]) rfl rfl ?_
              rw [show (0 + (nI (x + 1))) = nI (0 + (x + 1)) from nI_add 0 (x + 1)]
              refine WX.s1 rfl rfl ?_
              refine WX.s1 (S' := [.int ((nI (0 + (x + 1))) + (nI i)), .ref (m + 30)]) rfl rfl ?_
              rw [show ((nI (0 + (x + 1))) + (nI i)) = nI (0 + (x + 1) + i) from nI_add (0 + (x + 1)) i]
              refine WX.mald (c := 30) rfl hm M_h2 (by decide) (by decide) (by decide) (by decide) (vp_in_nI (N := 64) (by omega) (by decide)) ?_
              rw [nI_clamp (by omega), FA_A2 30 (by decide), Nat.zero_add, hU (x + 1 + i) (by omega)]
              refine WX.if_ rfl (fun c_137 => ?_) (fun c_137 => absurd (fun q => z3 ((qI_0 (by omega)).mp q)) c_137)
              refine WX.s1 rfl rfl ?_
              refine WX.s1 rfl rfl ?_
              refine WX.s1 (S' := [.int ((nI (x + 1)) + (nI i))]) rfl rfl ?_
              rw [show ((nI (x + 1)) + (nI i)) = nI (x + 1 + i) from nI_add (x + 1) i]
              refine WX.s1 (L' := [(0, .ref m), (1, .ref (m + 30)), (2, .int 0), (3, .int (nI o)), (4, .int (nI a)), (5, .int (nI (x + 1 + i))), (10, .int (nI i))]) rfl rfl ?_
              have lp3 : ∀ (t j y : Nat) (hN : Nat → aE) (IN : Nat → Int32) (AN : Nat → Nat → Int32), j + t = i / 3 → 3 * j + y = i → Fr h hN (inM m) → MAt hN m IN AN LN → Fi I IN (fun f => f = 38) → Fa AR AN 24 → MadeIs IN AN (thr cb j).1 (thr cb j).2 → WX (lk tX12_putShare) (mM (d + 1)) Ψ 153 [(0, .ref m), (1, .ref (m + 30)), (2, .int 0), (3, .int (nI o)), (4, .int (nI a)), (5, .int (nI (x + 1 + i))), (10, .int (nI y))] [] (n, s, hN) := by
                clear R2 FR_h2 FI_I2 FA_A2 M_h2
                intro t
                induction t with
                | zero =>
                  intro j y hN IN AN hj hy FR_hN M_hN FI_IN FA_AN RN
                  have ht1 := thr_1 cb j
                  refine WX.s1 rfl rfl ?_
                  refine WX.s1 rfl rfl ?_
                  refine WX.icmp rfl (fun c_156 => ?_) (fun c_156 => absurd ((nI_leI (a := y) (b := 2) (by omega) (by omega)).mpr (by omega)) c_156)
                  clear c_156
                  refine WX.s1 rfl rfl ?_
                  refine WX.s1 rfl rfl ?_
                  refine WX.s1 rfl rfl ?_
                  refine WX.callC (vs := [.ref m, .int (nI y), .int (nI 2)]) rfl rfl rfl (Nat.le_of_ble_eq_true rfl) (M_hN.rcv hm) ?_
                  refine m_putV hm M_hN RN (by omega) (by omega) (by omega) (fun h175 I175 A175 fr175 M_h175 fi175 fa175 R175 => ?_)
                  have FR_h175 := FR_hN.ztr fr175
                  have FI_I175 : Fi I I175 (fun f => f = 38) := FI_IN.ztr fi175
                  have FA_A175 : Fa AR A175 24 := FA_AN.ztr fa175
                  show WX _ _ _ 178 [(0, .ref m), (1, .ref (m + 30)), (2, .int 0), (3, .int (nI o)), (4, .int (nI a)), (5, .int (nI (x + 1 + i))), (10, .int (nI y))] [] (n, s, h175)
                  refine WX.s1 rfl rfl ?_
                  refine WX.keep (y := 170) [0, 1, 2, 3, 4, 5] (show ([0, 1, 2, 3, 4, 5, 10] : List Nat).Nodup by decide) rfl ?_
                  have ej : j = i / 3 := by omega
                  have ey : y = i % 3 := by omega
                  rw [ej, ey] at R175
                  rw [ej] at ht1
                  exact ih (x + 1 + i) a (zB cb i) h175 I175 A175 (by omega) (by omega) (by rw [hm1]; omega) (by show (thr cb (i / 3)).1 + 2 ≤ _; omega) FR_h175 M_h175 FI_I175 FA_A175 R175 (by rw [← hT, tellF_1 b ha0 hux1 hzF, hcb])
                | succ t ih3 =>
                  intro j y hN IN AN hj hy FR_hN M_hN FI_IN FA_AN RN
                  have ht1 := thr_1 cb j
                  refine WX.s1 rfl rfl ?_
                  refine WX.s1 rfl rfl ?_
                  refine WX.icmp rfl (fun c_156 => absurd c_156 (fun zz_ => absurd ((nI_leI (a := y) (b := 2) (by omega) (by omega)).mp zz_) (Nat.not_le.mpr (by omega)))) (fun c_156 => ?_)
                  clear c_156
                  refine WX.s1 rfl rfl ?_
                  refine WX.s1 rfl rfl ?_
                  refine WX.s1 rfl rfl ?_
                  refine WX.callC (vs := [.ref m, .int (nI 3), .int (nI 2)]) rfl rfl rfl (Nat.le_of_ble_eq_true rfl) (M_hN.rcv hm) ?_
                  refine m_putV hm M_hN RN (by omega) (by omega) (by omega) (fun h162 I162 A162 fr162 M_h162 fi162 fa162 R162 => ?_)
                  have FR_h162 := FR_hN.ztr fr162
                  have FI_I162 : Fi I I162 (fun f => f = 38) := FI_IN.ztr fi162
                  have FA_A162 : Fa AR A162 24 := FA_AN.ztr fa162
                  show WX _ _ _ 165 [(0, .ref m), (1, .ref (m + 30)), (2, .int 0), (3, .int (nI o)), (4, .int (nI a)), (5, .int (nI (x + 1 + i))), (10, .int (nI y))] [] (n, s, h162)
                  refine WX.s1 (L' := [(0, .ref m), (1, .ref (m + 30)), (2, .int 0), (3, .int (nI o)), (4, .int (nI a)), (5, .int (nI (x + 1 + i))), (10, .int ((nI y) + (-3)))]) rfl rfl ?_
                  rw [nI_m3 (y := y) (by omega)]
                  refine WX.s1 rfl rfl ?_
                  exact ih3 (j + 1) (y - 3) h162 I162 A162 (by omega) (by omega) FR_h162 M_h162 FI_I162 FA_A162 R162
              exact lp3 (i / 3) 0 i h2 I2 A2 (by omega) (by omega) FR_h2 M_h2 FI_I2 FA_A2 R2
            | succ t ih2 =>
              intro i hi
              have hui := hub (x + 1 + i) (by omega)
              refine WX.s1 rfl rfl ?_
              refine WX.s1 rfl rfl ?_
              refine WX.s1 rfl rfl ?_
              refine WX.s1 (S' := [.int (0 + (nI (x + 1))), .ref (m + 30)]) rfl rfl ?_
              rw [show (0 + (nI (x + 1))) = nI (0 + (x + 1)) from nI_add 0 (x + 1)]
              refine WX.s1 rfl rfl ?_
              refine WX.s1 (S' := [.int ((nI (0 + (x + 1))) + (nI i)), .ref (m + 30)]) rfl rfl ?_
              rw [show ((nI (0 + (x + 1))) + (nI i)) = nI (0 + (x + 1) + i) from nI_add (0 + (x + 1)) i]
              refine WX.mald (c := 30) rfl hm M_h2 (by decide) (by decide) (by decide) (by decide) (vp_in_nI (N := 64) (by omega) (by decide)) ?_
              rw [nI_clamp (by omega), FA_A2 30 (by decide), Nat.zero_add, hU (x + 1 + i) (by omega)]
              refine WX.if_ rfl (fun c_137 => absurd c_137 (fun q => q ((qI_0 (by omega)).mpr (z1 i (by omega))))) (fun c_137 => ?_)
              refine WX.s1 (L' := [(0, .ref m), (1, .ref (m + 30)), (2, .int 0), (3, .int (nI o)), (4, .int (nI a)), (5, .int (nI (x + 1))), (10, .int ((nI i) + 1))]) rfl rfl ?_
              rw [show ((nI i) + 1) = nI (i + 1) from nI_add i 1]
              refine WX.s1 rfl rfl ?_
              exact ih2 (i + 1) (by omega)
          exact lp2 z 0 (by omega)
        · skip
          have n_119 : ¬ (u x) = 1 := fun zz_ => c_119 ((nI_eq (a := u x) (b := 1) (by omega) (by omega)).mpr zz_)
          refine WX.s1 rfl rfl ?_
          refine WX.keep (y := 170) [0, 1, 2, 3, 4, 5] (show ([0, 1, 2, 3, 4, 5, 6, 7, 8, 9] : List Nat).Nodup by decide) rfl ?_
          exact ih (x + 1) (a - massU (u x)) cb h2 I2 A2 (by omega) (by omega) (by rw [mSum_succ]; omega) (by omega) FR_h2 M_h2 FI_I2 FA_A2 R2 (by rw [← hT, tellF_2 b ha0 n_119, hcb])
      refine WX.s1 rfl rfl ?_
      refine WX.s1 rfl rfl ?_
      refine WX.s1 rfl rfl ?_
      refine WX.icmp rfl (fun c_62 => ?_) (fun c_62 => ?_)
      · skip
        have n_62 : (u x) < (2 ^ (lgL a + 1) - 2 - a) := (nI_ltI (a := u x) (b := 2 ^ (lgL a + 1) - 2 - a) (by omega) (by omega)).mp c_62
        refine WX.s1 rfl rfl ?_
        refine WX.s1 rfl rfl ?_
        refine WX.s1 rfl rfl ?_
        refine WX.s1 rfl rfl ?_
        refine WX.icmp rfl (fun c_86 => absurd c_86 (fun zz_ => absurd ((nI_leI (a := 2 ^ (lgL a + 1) - 2 - a) (b := u x) (by omega) (by omega)).mp zz_) (Nat.not_le.mpr (by omega)))) (fun c_86 => ?_)
        clear c_86
        refine WX.s1 rfl rfl ?_
        refine WX.s1 rfl rfl ?_
        refine WX.callC (vs := [.ref m, .int (nI (u x)), .int (nI (lgL a))]) rfl rfl rfl (Nat.le_of_ble_eq_true rfl) (M_hL.rcv hm) ?_
        refine m_putV hm M_hL RL (by omega) (by omega) (by omega) (fun h98 I98 A98 fr98 M_h98 fi98 fa98 R98 => ?_)
        have FR_h98 := FR_hL.ztr fr98
        have FI_I98 : Fi I I98 (fun f => f = 38) := FI_IL.ztr fi98
        have FA_A98 : Fa AR A98 24 := FA_AL.ztr fa98
        show WX _ _ _ 101 [(0, .ref m), (1, .ref (m + 30)), (2, .int 0), (3, .int (nI o)), (4, .int (nI a)), (5, .int (nI x)), (6, .int (nI (u x))), (7, .int (nI (lgL a))), (8, .int (nI (2 ^ lgL a))), (9, .int (nI (2 ^ (lgL a + 1) - 2 - a)))] [] (n, s, h98)
        exact t101 h98 I98 A98 FR_h98 M_h98 FI_I98 FA_A98 (by rw [show codeB a (u x) b = addB b (u x) (lgL a) from if_pos n_62]; exact R98)
      · skip
        have n_62 : (2 ^ (lgL a + 1) - 2 - a) ≤ (u x) := Nat.le_of_not_lt (fun zz_ => c_62 ((nI_ltI (a := u x) (b := 2 ^ (lgL a + 1) - 2 - a) (by omega) (by omega)).mpr zz_))
        refine WX.s1 rfl rfl ?_
        refine WX.s1 rfl rfl ?_
        refine WX.icmp rfl (fun c_69 => ?_) (fun c_69 => ?_)
        · skip
          have n_69 : (2 ^ lgL a) ≤ (u x) := (nI_leI (a := 2 ^ lgL a) (b := u x) (by omega) (by omega)).mp c_69
          refine WX.s1 rfl rfl ?_
          refine WX.s1 rfl rfl ?_
          refine WX.s1 (S' := [.int ((nI (u x)) + (nI (2 ^ (lgL a + 1) - 2 - a))), .ref m]) rfl rfl ?_
          rw [show ((nI (u x)) + (nI (2 ^ (lgL a + 1) - 2 - a))) = nI (u x + (2 ^ (lgL a + 1) - 2 - a)) from nI_add (u x) (2 ^ (lgL a + 1) - 2 - a)]
          refine WX.s1 rfl rfl ?_
          refine WX.s1 rfl rfl ?_
          refine WX.icmp rfl (fun c_86 => ?_) (fun c_86 => absurd ((nI_leI (a := 2 ^ (lgL a + 1) - 2 - a) (b := u x) (by omega) (by omega)).mpr (by omega)) c_86)
          clear c_86
          refine WX.s1 rfl rfl ?_
          refine WX.s1 rfl rfl ?_
          refine WX.s1 (S' := [.int ((nI (lgL a)) + 1), .int (nI (u x + (2 ^ (lgL a + 1) - 2 - a))), .ref m]) rfl rfl ?_
          rw [show ((nI (lgL a)) + 1) = nI (lgL a + 1) from nI_add (lgL a) 1]
          refine WX.callC (vs := [.ref m, .int (nI (u x + (2 ^ (lgL a + 1) - 2 - a))), .int (nI (lgL a + 1))]) rfl rfl rfl (Nat.le_of_ble_eq_true rfl) (M_hL.rcv hm) ?_
          refine m_putV hm M_hL RL (by omega) (by omega) (by omega) (fun h98 I98 A98 fr98 M_h98 fi98 fa98 R98 => ?_)
          have FR_h98 := FR_hL.ztr fr98
          have FI_I98 : Fi I I98 (fun f => f = 38) := FI_IL.ztr fi98
          have FA_A98 : Fa AR A98 24 := FA_AL.ztr fa98
          show WX _ _ _ 101 [(0, .ref m), (1, .ref (m + 30)), (2, .int 0), (3, .int (nI o)), (4, .int (nI a)), (5, .int (nI x)), (6, .int (nI (u x))), (7, .int (nI (lgL a))), (8, .int (nI (2 ^ lgL a))), (9, .int (nI (2 ^ (lgL a + 1) - 2 - a)))] [] (n, s, h98)
          exact t101 h98 I98 A98 FR_h98 M_h98 FI_I98 FA_A98 (by rw [show codeB a (u x) b = addB b (if u x < 2 ^ lgL a then u x else u x + (2 ^ (lgL a + 1) - 2 - a)) (lgL a + 1) from if_neg (by omega), if_neg (by omega)]; exact R98)
        · skip
          have n_69 : (u x) < (2 ^ lgL a) := Nat.lt_of_not_le (fun zz_ => c_69 ((nI_leI (a := 2 ^ lgL a) (b := u x) (by omega) (by omega)).mpr zz_))
          refine WX.s1 rfl rfl ?_
          refine WX.s1 rfl rfl ?_
          refine WX.s1 rfl rfl ?_
          refine WX.s1 rfl rfl ?_
          refine WX.icmp rfl (fun c_86 => ?_) (fun c_86 => absurd ((nI_leI (a := 2 ^ (lgL a + 1) - 2 - a) (b := u x) (by omega) (by omega)).mpr (by omega)) c_86)
          clear c_86
          refine WX.s1 rfl rfl ?_
          refine WX.s1 rfl rfl ?_
          refine WX.s1 (S' := [.int ((nI (lgL a)) + 1), .int (nI (u x)), .ref m]) rfl rfl ?_
          rw [show ((nI (lgL a)) + 1) = nI (lgL a + 1) from nI_add (lgL a) 1]
          refine WX.callC (vs := [.ref m, .int (nI (u x)), .int (nI (lgL a + 1))]) rfl rfl rfl (Nat.le_of_ble_eq_true rfl) (M_hL.rcv hm) ?_
          refine m_putV hm M_hL RL (by omega) (by omega) (by omega) (fun h98 I98 A98 fr98 M_h98 fi98 fa98 R98 => ?_)
          have FR_h98 := FR_hL.ztr fr98
          have FI_I98 : Fi I I98 (fun f => f = 38) := FI_IL.ztr fi98
          have FA_A98 : Fa AR A98 24 := FA_AL.ztr fa98
          show WX _ _ _ 101 [(0, .ref m), (1, .ref (m + 30)), (2, .int 0), (3, .int (nI o)), (4, .int (nI a)), (5, .int (nI x)), (6, .int (nI (u x))), (7, .int (nI (lgL a))), (8, .int (nI (2 ^ lgL a))), (9, .int (nI (2 ^ (lgL a + 1) - 2 - a)))] [] (n, s, h98)
          exact t101 h98 I98 A98 FR_h98 M_h98 FI_I98 FA_A98 (by rw [show codeB a (u x) b = addB b (if u x < 2 ^ lgL a then u x else u x + (2 ^ (lgL a + 1) - 2 - a)) (lgL a + 1) from if_neg (by omega), if_pos n_69]; exact R98)
  exact lp 64 0 (2 ^ o) (addB (c0, w0) (o - 5) 4) h5 I5 A5 (by omega) (by omega) rfl (by show c0 + 4 ≤ _; omega) FR_h5 M_h5 FI_I5 FA_A5 R5 rfl
