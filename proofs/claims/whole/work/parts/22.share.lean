/-! Arrays.fill, log, and Share's spread: that they end, and what stays -/
theorem shl1 : ∀ g, g < 10 → (1 : Int32) <<< (nI g &&& 31) = nI (2 ^ g) := by decide +kernel
def ShareAt (h : Nat → aE) (k l M : Nat) (od th : Int32) (p r f w o s : Nat → Int32) : Prop := h k = .inr (8, [.int (nI l), .ref (k + 1), .ref (k + 2), .ref (k + 3), .ref (k + 4), .ref (k + 5), .ref (k + 6), .int od, .int th]) ∧ h (k + 1) = .inl (1, l + 1, .inl p) ∧ h (k + 2) = .inl (1, l + 1, .inl r) ∧ h (k + 3) = .inl (1, l + 1, .inl f) ∧ h (k + 4) = .inl (1, l + 1, .inl w) ∧ h (k + 5) = .inl (1, M, .inl o) ∧ h (k + 6) = .inl (1, M, .inl s)
abbrev inS (k : Nat) : Nat → Prop := inSk k
set_option maxRecDepth 20000 in
theorem w_fill {d n s : Nat} {h : Nat → aE} {a M : Nat} {f : Nat → Int32} {v : Int32} (ha : a < n) (F : h a = .inl (1, M, .inl f)) (hM : M < 2 ^ 31) {Ψ : Option Value → aH → Prop} (kk : ∀ h' g, Fr h h' (fun j => j = a) → h' a = .inl (1, M, .inl g) → (∀ i, i < M → g i = v) → Ψ none (n, s, h')) : WO (mM (d + 1)) 223 [.ref a, .int v] (n, s, h) Ψ := by
  refine WO.of (Nat.le_of_ble_eq_true rfl) ?_
  show WX (lk tJ7_fill_53178) (mM d) Ψ 0 [(0, .ref a), (1, .int v)] [] (n, s, h)
  have loop : ∀ (t i : Nat) (h1 : Nat → aE) (g : Nat → Int32), i + t = M → Fr h h1 (fun j => j = a) → h1 a = .inl (1, M, .inl g) → (∀ j, j < i → g j = v) → WX (lk tJ7_fill_53178) (mM d) Ψ 5 [(0, .ref a), (1, .int v), (2, .int (nI i)), (3, .int (nI M))] [] (n, s, h1) := by
    intro t
    induction t with
    | zero =>
      intro i h1 g ht fr F_h1_a hg
      obtain rfl : i = M := by omega
      refine WX.s1 rfl rfl ?_
      refine WX.s1 rfl rfl ?_
      refine WX.icmp rfl (fun c_7 => ?_) (fun c_7 => absurd (nI_le (Nat.le_refl _) (by omega)) c_7)
      exact WX.ret0 rfl (kk h1 g fr F_h1_a hg)
    | succ t ih =>
      intro i h1 g ht fr F_h1_a hg
      refine WX.s1 rfl rfl ?_
      refine WX.s1 rfl rfl ?_
      refine WX.icmp rfl (fun c_7 => absurd c_7 (nI_ge (by omega) (by omega))) (fun c_7 => ?_)
      refine WX.s1 rfl rfl ?_
      refine WX.s1 rfl rfl ?_
      refine WX.s1 rfl rfl ?_
      refine WX.iastN rfl (by omega) (F_h1_a) (vp_in_nI (by omega) hM) (fun g13 h13 e_g13 e_h13 => ?_)
      try dsimp only at e_g13
      have F_h13_a : h13 a = .inl (1, M, .inl g13) := by rw [e_h13]; exact va_up_eq
      refine WX.incN (L' := fun x14 => [(0, .ref a), (1, .int v), (2, .int x14), (3, .int (nI M))]) rfl rfl (fun _ => rfl) (fun x14 e_x14 => ?_)
      try dsimp only at e_x14
      refine WX.s1 rfl rfl ?_
      rw [show x14 = nI (i + 1) by rw [e_x14]; exact nI_1 i]
      refine ih (i + 1) h13 g13 (by omega) (fr.tr (fun j hj => by rw [e_h13]; exact va_up_neq hj)) F_h13_a (fun j hj => ?_)
      rw [e_g13, nI_clamp (by omega)]
      by_cases q : j = i
      · rw [q]; exact pk_us
      · rw [pk_un q]; exact hg j (by omega)
  refine WX.s1 rfl rfl ?_
  refine WX.isN (L' := fun x1 => [(0, .ref a), (1, .int v), (2, .int x1)]) rfl (fun _ => rfl) (fun x1 e_x1 => ?_)
  try dsimp only at e_x1
  refine WX.s1 rfl rfl ?_
  refine WX.len1 rfl (Or.inl ⟨by omega, by decide⟩) (F) ?_
  refine WX.isN (L' := fun x4 => [(0, .ref a), (1, .int v), (2, .int x1), (3, .int x4)]) rfl (fun _ => rfl) (fun x4 e_x4 => ?_)
  try dsimp only at e_x4
  rw [show x1 = nI 0 by rw [e_x1]; rfl, show x4 = nI M from e_x4]
  exact loop M 0 h f (by omega) Fr.rf F (fun j hj => absurd hj (Nat.not_lt_zero j))
set_option maxRecDepth 20000 in
theorem w_log {d n s : Nat} {h : Nat → aE} {m : Nat} (h1 : 1 ≤ m) (hm : m < 2 ^ 31) {Ψ : Option Value → aH → Prop} (kk : ∀ k, 2 ^ k ≤ m → m < 2 ^ (k + 1) → Ψ (some (.int (nI k))) (n, s, h)) : WO (mM (d + 1)) 140 [.int (nI m)] (n, s, h) Ψ := by
  refine WO.of (Nat.le_of_ble_eq_true rfl) ?_
  show WX (lk tX11_log) (mM d) Ψ 0 [(0, .int (nI m))] [] (n, s, h)
  have loop : ∀ (t k : Nat), m / 2 ^ k ≤ t → 1 ≤ m / 2 ^ k → k ≤ 31 → WX (lk tX11_log) (mM d) Ψ 4 [(0, .int (nI m)), (1, .int (nI k)), (2, .int (nI (m / 2 ^ k)))] [] (n, s, h) := by
    intro t
    induction t with
    | zero =>
      intro k q1 q2
      omega
    | succ t ih =>
      intro k q1 q2 q3
      have hlt : m / 2 ^ k < 2 ^ 31 := Nat.lt_of_le_of_lt (Nat.div_le_self _ _) hm
      refine WX.s1 rfl rfl ?_
      refine WX.s1 rfl rfl ?_
      refine WX.icmp rfl (fun c_6 => ?_) (fun c_6 => ?_)
      · skip
        refine WX.s1 rfl rfl ?_
        have c1 : nI (m / 2 ^ k) ≤ nI 1 := c_6
        have c2 := (nI_leI hlt (by decide)).mp c1
        have c3 : m / 2 ^ k = 1 := by omega
        have hp : 0 < 2 ^ k := Nat.pos_of_ne_zero (by simp)
        refine WX.ret1 rfl (kk k ?_ ?_)
        · have := Nat.div_mul_le_self m (2 ^ k); rw [c3] at this; omega
        · rw [Nat.pow_succ]; have := Nat.lt_div_mul_add (a := m) hp; rw [c3] at this; omega
      · skip
        refine WX.incN (L' := fun x9 => [(0, .int (nI m)), (1, .int x9), (2, .int (nI (m / 2 ^ k)))]) rfl rfl (fun _ => rfl) (fun x9 e_x9 => ?_)
        try dsimp only at e_x9
        refine WX.s1 rfl rfl ?_
        refine WX.s1 rfl rfl ?_
        refine WX.s1 rfl rfl ?_
        refine WX.isN (L' := fun x15 => [(0, .int (nI m)), (1, .int x9), (2, .int x15)]) rfl (fun _ => rfl) (fun x15 e_x15 => ?_)
        try dsimp only at e_x15
        refine WX.s1 rfl rfl ?_
        have c1 : ¬ nI (m / 2 ^ k) ≤ nI 1 := c_6
        have c2 : 1 < m / 2 ^ k := Nat.lt_of_not_le (fun z => c1 (nI_le z (by decide)))
        have e2 : m / 2 ^ (k + 1) = m / 2 ^ k / 2 := by rw [Nat.pow_succ, Nat.div_div_eq_div_mul]
        have hk : k < 31 := by
          rcases Nat.lt_or_ge k 31 with z | z
          · exact z
          · exfalso; have : m / 2 ^ k = 0 := Nat.div_eq_of_lt (Nat.lt_of_lt_of_le hm (Nat.pow_le_pow_right (by decide) z)); omega
        rw [show x9 = nI (k + 1) by rw [e_x9]; exact nI_1 k, show x15 = nI (m / 2 ^ (k + 1)) by rw [e_x15, e2]; exact pk_shrN hlt ((1 : Int32) &&& 31) 1 (by decide)]
        exact ih (k + 1) (by rw [e2]; omega) (by rw [e2]; omega) (by omega)
  refine WX.s1 rfl rfl ?_
  refine WX.isN (L' := fun x1 => [(0, .int (nI m)), (1, .int x1)]) rfl (fun _ => rfl) (fun x1 e_x1 => ?_)
  try dsimp only at e_x1
  refine WX.s1 rfl rfl ?_
  refine WX.isN (L' := fun x3 => [(0, .int (nI m)), (1, .int x1), (2, .int x3)]) rfl (fun _ => rfl) (fun x3 e_x3 => ?_)
  try dsimp only at e_x3
  have e0 : m / 2 ^ 0 = m := by simp
  rw [show x1 = nI 0 by rw [e_x1]; rfl, show x3 = nI (m / 2 ^ 0) by rw [e_x3, e0]]
  exact loop m 0 (by rw [e0]; exact Nat.le_refl _) (by rw [e0]; exact h1) (by decide)
