/-! the reference: its plain methods (rows laid by a program) -/
set_option maxRecDepth 20000 in
theorem m_rule {d n s : Nat} {h : Nat → aE} {m : Nat} {I : Nat → Int32} {AR : Nat → Nat → Int32} {LN : Nat → Int64} {a b : Int32} (hm : m + 43 < n) (M_h : MAt h m I AR LN) {Ψ : Option Value → aH → Prop} (k0 : (a < 0 ∨ 3 < a ∨ b < 3 ∨ 8 < b) → Ψ (some (.int 0)) (n, s, h)) (k1 : ∀ h' I', 0 ≤ a → a ≤ 3 → 3 ≤ b → b ≤ 8 → Fr h h' (inM m) → MAt h' m I' AR LN → I' = upd (upd I 4 a) 5 b → Ψ (some (.int 1)) (n, s, h')) : WO (mM (d + 1)) 146 [.ref m, .int a, .int b] (n, s, h) Ψ := by
  refine WO.of (Nat.le_of_ble_eq_true rfl) ?_
  have FR_h : Fr h h (inM m) := Fr.rf
  show WX (lk tX12_rule) (mM d) Ψ 0 [(0, .ref m), (1, .int a), (2, .int b)] [] (n, s, h)
  refine WX.s1 rfl rfl ?_
  refine WX.if_ rfl (fun c_1 => ?_) (fun c_1 => ?_)
  · skip
    refine WX.s1 rfl rfl ?_
    exact WX.ret3 rfl (Or.inl rfl) (k0 (by first | exact Or.inl c_1 | exact Or.inr (Or.inl c_6) | exact Or.inr (Or.inr (Or.inl c_11)) | exact Or.inr (Or.inr (Or.inr (Int32.not_le.mp c_17)))))
  · skip
    refine WX.s1 rfl rfl ?_
    refine WX.s1 rfl rfl ?_
    refine WX.icmp rfl (fun c_6 => ?_) (fun c_6 => ?_)
    · skip
      refine WX.s1 rfl rfl ?_
      exact WX.ret3 rfl (Or.inl rfl) (k0 (by first | exact Or.inl c_1 | exact Or.inr (Or.inl c_6) | exact Or.inr (Or.inr (Or.inl c_11)) | exact Or.inr (Or.inr (Or.inr (Int32.not_le.mp c_17)))))
    · skip
      refine WX.s1 rfl rfl ?_
      refine WX.s1 rfl rfl ?_
      refine WX.icmp rfl (fun c_11 => ?_) (fun c_11 => ?_)
      · skip
        refine WX.s1 rfl rfl ?_
        exact WX.ret3 rfl (Or.inl rfl) (k0 (by first | exact Or.inl c_1 | exact Or.inr (Or.inl c_6) | exact Or.inr (Or.inr (Or.inl c_11)) | exact Or.inr (Or.inr (Or.inr (Int32.not_le.mp c_17)))))
      · skip
        refine WX.s1 rfl rfl ?_
        refine WX.s1 rfl rfl ?_
        refine WX.icmp rfl (fun c_17 => ?_) (fun c_17 => ?_)
        · skip
          refine WX.s1 rfl rfl ?_
          refine WX.s1 rfl rfl ?_
          refine WX.mput rfl hm M_h (rfl) (by decide) (fun _ => rfl) (fun h24 I24 e_I24 M_h24 fr24 => ?_)
          try dsimp only at e_I24
          have FR_h24 := FR_h.tr fr24
          refine WX.s1 rfl rfl ?_
          refine WX.s1 rfl rfl ?_
          refine WX.mput rfl hm M_h24 (rfl) (by decide) (fun _ => rfl) (fun h29 I29 e_I29 M_h29 fr29 => ?_)
          try dsimp only at e_I29
          have FR_h29 := FR_h24.tr fr29
          refine WX.s1 rfl rfl ?_
          exact WX.ret3 rfl (Or.inr rfl) (k1 h29 I29 (Int32.not_lt.mp c_1) (Int32.not_lt.mp c_6) (Int32.not_lt.mp c_11) c_17 FR_h29 M_h29 (by rw [e_I29, e_I24]))
        · skip
          refine WX.s1 rfl rfl ?_
          exact WX.ret3 rfl (Or.inl rfl) (k0 (by first | exact Or.inl c_1 | exact Or.inr (Or.inl c_6) | exact Or.inr (Or.inr (Or.inl c_11)) | exact Or.inr (Or.inr (Or.inr (Int32.not_le.mp c_17)))))
set_option maxRecDepth 20000 in
theorem m_clear {d n s : Nat} {h : Nat → aE} {m : Nat} {I : Nat → Int32} {AR : Nat → Nat → Int32} {LN : Nat → Int64} (hm : m + 43 < n) (M_h : MAt h m I AR LN) {Ψ : Option Value → aH → Prop} (kk : ∀ h' I', Fr h h' (inM m) → MAt h' m I' AR LN → I' = upd I 1 0 → Ψ none (n, s, h')) : WO (mM (d + 1)) 144 [.ref m] (n, s, h) Ψ := by
  refine WO.of (Nat.le_of_ble_eq_true rfl) ?_
  have FR_h : Fr h h (inM m) := Fr.rf
  show WX (lk tX12_clear) (mM d) Ψ 0 [(0, .ref m)] [] (n, s, h)
  refine WX.s1 rfl rfl ?_
  refine WX.s1 rfl rfl ?_
  refine WX.mput rfl hm M_h (rfl) (by decide) (fun _ => rfl) (fun h2 I2 e_I2 M_h2 fr2 => ?_)
  try dsimp only at e_I2
  have FR_h2 := FR_h.tr fr2
  exact WX.ret0 rfl (kk h2 I2 FR_h2 M_h2 e_I2)
set_option maxRecDepth 20000 in
theorem m_size {d n s : Nat} {h : Nat → aE} {m : Nat} {I : Nat → Int32} {AR : Nat → Nat → Int32} {LN : Nat → Int64} (hm : m + 43 < n) (M_h : MAt h m I AR LN) {Ψ : Option Value → aH → Prop} (kk : Ψ (some (.int (I 3))) (n, s, h)) : WO (mM (d + 1)) 221 [.ref m] (n, s, h) Ψ := by
  refine WO.of (Nat.le_of_ble_eq_true rfl) ?_
  have FR_h : Fr h h (inM m) := Fr.rf
  show WX (lk tX12_size) (mM d) Ψ 0 [(0, .ref m)] [] (n, s, h)
  refine WX.s1 rfl rfl ?_
  refine WX.mget rfl hm M_h rfl ?_
  exact WX.ret1 rfl kk
set_option maxRecDepth 20000 in
theorem m_forget {d n s : Nat} {h : Nat → aE} {m : Nat} {I : Nat → Int32} {AR : Nat → Nat → Int32} {LN : Nat → Int64} (hm : m + 43 < n) (M_h : MAt h m I AR LN) {Ψ : Option Value → aH → Prop} (kk : ∀ h' I', Fr h h' (inM m) → MAt h' m I' AR LN → I' = upd (upd (upd I 7 0) 8 0) 9 0 → Ψ none (n, s, h')) : WO (mM (d + 1)) 214 [.ref m] (n, s, h) Ψ := by
  refine WO.of (Nat.le_of_ble_eq_true rfl) ?_
  have FR_h : Fr h h (inM m) := Fr.rf
  show WX (lk tX12_forget) (mM d) Ψ 0 [(0, .ref m)] [] (n, s, h)
  refine WX.s1 rfl rfl ?_
  refine WX.s1 rfl rfl ?_
  refine WX.mput rfl hm M_h (rfl) (by decide) (fun _ => rfl) (fun h2 I2 e_I2 M_h2 fr2 => ?_)
  try dsimp only at e_I2
  have FR_h2 := FR_h.tr fr2
  refine WX.s1 rfl rfl ?_
  refine WX.s1 rfl rfl ?_
  refine WX.mput rfl hm M_h2 (rfl) (by decide) (fun _ => rfl) (fun h7 I7 e_I7 M_h7 fr7 => ?_)
  try dsimp only at e_I7
  have FR_h7 := FR_h2.tr fr7
  refine WX.s1 rfl rfl ?_
  refine WX.s1 rfl rfl ?_
  refine WX.mput rfl hm M_h7 (rfl) (by decide) (fun _ => rfl) (fun h12 I12 e_I12 M_h12 fr12 => ?_)
  try dsimp only at e_I12
  have FR_h12 := FR_h7.tr fr12
  exact WX.ret0 rfl (kk h12 I12 FR_h12 M_h12 (by rw [e_I12, e_I7, e_I2]))
set_option maxRecDepth 20000 in
theorem m_about {d n s : Nat} {h : Nat → aE} {m : Nat} {I : Nat → Int32} {AR : Nat → Nat → Int32} {LN : Nat → Int64} {a : Int32} (hm : m + 43 < n) (M_h : MAt h m I AR LN) {Ψ : Option Value → aH → Prop} (k0 : (a < 0 ∨ 11 < a) → Ψ (some (.int (-1))) (n, s, h)) (k1 : ∀ i, i < 12 → a = nI i → Ψ (some (.int (AR 43 i))) (n, s, h)) : WO (mM (d + 1)) 209 [.ref m, .int a] (n, s, h) Ψ := by
  refine WO.of (Nat.le_of_ble_eq_true rfl) ?_
  have FR_h : Fr h h (inM m) := Fr.rf
  show WX (lk tX12_about) (mM d) Ψ 0 [(0, .ref m), (1, .int a)] [] (n, s, h)
  refine WX.s1 rfl rfl ?_
  refine WX.if_ rfl (fun c_1 => ?_) (fun c_1 => ?_)
  · skip
    refine WX.s1 rfl rfl ?_
    refine WX.s1 rfl rfl ?_
    exact WX.ret1 rfl (k0 (by first | exact Or.inl c_1 | exact Or.inr (Int32.not_le.mp c_7)))
  · skip
    refine WX.s1 rfl rfl ?_
    refine WX.s1 rfl rfl ?_
    refine WX.icmp rfl (fun c_7 => ?_) (fun c_7 => ?_)
    · skip
      obtain ⟨i, hi, rfl⟩ := nI_of2 (x := a) (M := 11) (n := 11) (by decide) c_1 c_7
      refine WX.s1 rfl rfl ?_
      refine WX.mget rfl hm M_h rfl ?_
      refine WX.s1 rfl rfl ?_
      refine WX.mald (c := 43) rfl hm M_h (by decide) (by decide) (by decide) (by decide) (vp_in_nI (N := 12) (by omega) (by decide)) ?_
      refine WX.ret1 rfl ?_
      rw [nI_clamp (by omega)]
      exact k1 i (by omega) rfl
    · skip
      refine WX.s1 rfl rfl ?_
      refine WX.s1 rfl rfl ?_
      exact WX.ret1 rfl (k0 (by first | exact Or.inl c_1 | exact Or.inr (Int32.not_le.mp c_7)))
set_option maxRecDepth 20000 in
theorem m_byteAt {d n s : Nat} {h : Nat → aE} {m : Nat} {I : Nat → Int32} {AR : Nat → Nat → Int32} {LN : Nat → Int64} {a : Int32} {u : Nat} (hm : m + 43 < n) (M_h : MAt h m I AR LN) (hu : I 3 = nI u) (hu2 : u ≤ 12000) {Ψ : Option Value → aH → Prop} (k0 : (a < 0 ∨ nI u ≤ a) → Ψ (some (.int (-1))) (n, s, h)) (k1 : ∀ i, i < u → a = nI i → Ψ (some (.int (AR 2 i))) (n, s, h)) : WO (mM (d + 1)) 222 [.ref m, .int a] (n, s, h) Ψ := by
  refine WO.of (Nat.le_of_ble_eq_true rfl) ?_
  have FR_h : Fr h h (inM m) := Fr.rf
  show WX (lk tX12_byteAt) (mM d) Ψ 0 [(0, .ref m), (1, .int a)] [] (n, s, h)
  refine WX.s1 rfl rfl ?_
  refine WX.if_ rfl (fun c_1 => ?_) (fun c_1 => ?_)
  · skip
    refine WX.s1 rfl rfl ?_
    refine WX.s1 rfl rfl ?_
    exact WX.ret1 rfl (k0 (by first | exact Or.inl c_1 | exact Or.inr (Int32.not_lt.mp c_9)))
  · skip
    refine WX.s1 rfl rfl ?_
    refine WX.s1 rfl rfl ?_
    refine WX.mget rfl hm M_h rfl ?_
    rw [hu]
    refine WX.icmp rfl (fun c_9 => ?_) (fun c_9 => ?_)
    · skip
      obtain ⟨i, hi, rfl⟩ : ∃ i, i < u ∧ a = nI i := by
        rcases pk_ix a (show u < 2 ^ 31 by omega) with q | q | ⟨i, q1, q2⟩
        · exact absurd q c_1
        · exact absurd c_9 (Int32.not_lt.mpr q)
        · exact ⟨i, q1, q2⟩
      refine WX.s1 rfl rfl ?_
      refine WX.mget rfl hm M_h rfl ?_
      refine WX.s1 rfl rfl ?_
      refine WX.mald (c := 2) rfl hm M_h (by decide) (by decide) (by decide) (by decide) (vp_in_nI (N := 12000) (by omega) (by decide)) ?_
      refine WX.ret1 rfl ?_
      rw [nI_clamp (by omega)]
      exact k1 i hi rfl
    · skip
      refine WX.s1 rfl rfl ?_
      refine WX.s1 rfl rfl ?_
      exact WX.ret1 rfl (k0 (by first | exact Or.inl c_1 | exact Or.inr (Int32.not_lt.mp c_9)))
