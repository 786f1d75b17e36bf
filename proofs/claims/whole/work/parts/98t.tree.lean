/-! the tree of codes: what the reference does, and what the queues do -/
abbrev TS : Type := Nat × (Nat → Nat) × (Nat → Nat)
abbrev frK (F P : Nat → Nat) (but k : Nat) : Prop := k + 1 ≠ but ∧ F k ≠ 0 ∧ P k = 0
def lsK (F P : Nat → Nat) (but : Nat) : Nat → Nat
  | 0 => 0
  | k + 1 => if frK F P but k ∧ (lsK F P but k = 0 ∨ F k < F (lsK F P but k - 1)) then k + 1 else lsK F P but k
def IsL (F P : Nat → Nat) (but K z : Nat) : Prop := (z = 0 ∧ ∀ k, k < K → ¬ frK F P but k) ∨ (1 ≤ z ∧ z ≤ K ∧ frK F P but (z - 1) ∧ ∀ k, k < K → frK F P but k → F (z - 1) < F k ∨ (F (z - 1) = F k ∧ z - 1 ≤ k))
theorem lsK_is (F P : Nat → Nat) (but : Nat) : ∀ K, IsL F P but K (lsK F P but K) := by
  intro K
  induction K with
  | zero => exact Or.inl ⟨rfl, fun k hk => absurd hk (Nat.not_lt_zero k)⟩
  | succ K ih =>
    unfold lsK
    by_cases q : frK F P but K ∧ (lsK F P but K = 0 ∨ F K < F (lsK F P but K - 1))
    · rw [if_pos q]
      refine Or.inr ⟨by omega, Nat.le_refl _, q.1, fun k hk fk => ?_⟩
      show F K < F k ∨ (F K = F k ∧ K ≤ k)
      by_cases e : k = K
      · exact Or.inr ⟨by rw [e], by omega⟩
      · rcases ih with ⟨-, h2⟩ | ⟨h1, h2, h3, h4⟩
        · exact absurd fk (h2 k (by omega))
        · have h5 := h4 k (by omega) fk
          rcases q.2 with z | z <;> omega
    · rw [if_neg q]
      rcases ih with ⟨h1, h2⟩ | ⟨h1, h2, h3, h4⟩
      · refine Or.inl ⟨h1, fun k hk => ?_⟩
        by_cases e : k = K
        · rw [e]
          exact fun z => q ⟨z, Or.inl h1⟩
        · exact h2 k (by omega)
      · refine Or.inr ⟨h1, by omega, h3, fun k hk fk => ?_⟩
        by_cases e : k = K
        · rw [e] at fk ⊢
          have : ¬ F K < F (lsK F P but K - 1) := fun z => q ⟨fk, Or.inr z⟩
          omega
        · exact h4 k (by omega) fk
theorem IsL.uniq {F P : Nat → Nat} {but K y z : Nat} (a : IsL F P but K y) (b : IsL F P but K z) : y = z := by
  rcases a with ⟨a1, a2⟩ | ⟨a1, a2, a3, a4⟩
  · rcases b with ⟨b1, b2⟩ | ⟨b1, b2, b3, b4⟩
    · omega
    · exact absurd b3 (a2 _ (by omega))
  · rcases b with ⟨b1, b2⟩ | ⟨b1, b2, b3, b4⟩
    · exact absurd a3 (b2 _ (by omega))
    · have h1 := a4 _ (show z - 1 < K by omega) b3
      have h2 := b4 _ (show y - 1 < K by omega) a3
      omega
def oneK (x : TS) : Nat := lsK x.2.1 x.2.2 0 x.1
def twoK (x : TS) : Nat := lsK x.2.1 x.2.2 (oneK x) x.1
def tS (x : TS) : TS := if twoK x = 0 then x else (x.1 + 1, updN x.2.1 x.1 (x.2.1 (oneK x - 1) + x.2.1 (twoK x - 1)), updN (updN (updN x.2.2 x.1 0) (oneK x - 1) (x.1 + 1)) (twoK x - 1) (x.1 + 1))
def tN (c : Nat → Nat) : Nat → TS
  | 0 => (256, c, fun _ => 0)
  | j + 1 => tS (tN c j)
/-- what holds of all knots, with the greatest value taken so far -/
def TI (c : Nat → Nat) (lp : Nat) (x : TS) : Prop := 256 ≤ x.1 ∧ (∀ k, x.1 ≤ k → x.2.2 k = 0) ∧ (∀ k, x.2.2 k ≠ 0 → k + 1 < x.2.2 k ∧ x.2.2 k ≤ x.1 ∧ 257 ≤ x.2.2 k ∧ x.2.1 k ≤ lp ∧ x.2.1 k ≠ 0 ∧ x.2.1 k + 1 ≤ x.2.1 (x.2.2 k - 1)) ∧ (∀ k, k < x.1 → x.2.2 k = 0 → x.2.1 k ≠ 0 → lp ≤ x.2.1 k) ∧ (∀ k, x.2.2 k ≠ 0 → x.2.2 (x.2.2 k - 1) ≠ 0 → x.2.1 k + x.2.1 (x.2.2 k - 1) ≤ x.2.1 (x.2.2 (x.2.2 k - 1) - 1)) ∧ sumN (fun k => if x.2.2 k = 0 then x.2.1 k else 0) x.1 = sumN c 256 ∧ (∀ i, 256 ≤ i → i + 1 < x.1 → x.2.1 i ≤ x.2.1 (i + 1)) ∧ (256 < x.1 → x.2.1 (x.1 - 1) ≤ 2 * lp) ∧ (∀ k, 256 ≤ k → k < x.1 → x.2.1 k ≠ 0) ∧ (∀ s, s < 256 → x.2.1 s = c s)
theorem ti_0 (c : Nat → Nat) : TI c 0 (tN c 0) := ⟨Nat.le_refl _, fun _ _ => rfl, fun _ h => absurd rfl h, fun _ _ _ _ => Nat.zero_le _, fun _ h _ => absurd rfl h, sumN_eq (fun _ _ => if_pos rfl), fun i h1 h2 => absurd h2 (by show ¬ i + 1 < 256; omega), fun h => absurd h (Nat.lt_irrefl _), fun k h1 h2 => absurd h2 (by show ¬ k < 256; omega), fun _ _ => rfl⟩
theorem two_ok {x : TS} (h : twoK x ≠ 0) : 1 ≤ oneK x ∧ oneK x ≤ x.1 ∧ 1 ≤ twoK x ∧ twoK x ≤ x.1 ∧ oneK x ≠ twoK x ∧ x.2.1 (oneK x - 1) ≠ 0 ∧ x.2.2 (oneK x - 1) = 0 ∧ x.2.1 (twoK x - 1) ≠ 0 ∧ x.2.2 (twoK x - 1) = 0 ∧ x.2.1 (oneK x - 1) ≤ x.2.1 (twoK x - 1) ∧ ∀ k, k < x.1 → x.2.1 k ≠ 0 → x.2.2 k = 0 → k + 1 ≠ oneK x → x.2.1 (twoK x - 1) ≤ x.2.1 k := by
  have a : IsL x.2.1 x.2.2 0 x.1 (oneK x) := lsK_is _ _ _ _
  have b : IsL x.2.1 x.2.2 (oneK x) x.1 (twoK x) := lsK_is _ _ _ _
  rcases b with ⟨b1, -⟩ | ⟨b1, b2, b3, b4⟩
  · exact absurd b1 h
  · rcases a with ⟨a1, a2⟩ | ⟨a1, a2, a3, a4⟩
    · exact absurd ⟨by omega, b3.2⟩ (a2 (twoK x - 1) (by omega))
    · have h1 := a4 (twoK x - 1) (by omega) ⟨by omega, b3.2⟩
      have hne := b3.1
      exact ⟨a1, a2, b1, b2, by omega, a3.2.1, a3.2.2, b3.2.1, b3.2.2, by omega, fun k hk h2 h3 h4 => by
        have := b4 k hk ⟨h4, h2, h3⟩
        omega⟩
theorem sumN_two3 (f g : Nat → Nat) {a b : Nat} : ∀ {N : Nat}, a < N → b < N → a ≠ b → (∀ k, k < N → k ≠ a → k ≠ b → g k = f k) → sumN g N + f a + f b = sumN f N + g a + g b := by
  intro N
  induction N with
  | zero => intro h; omega
  | succ N ih =>
    intro ha hb hab h
    show sumN g N + g N + f a + f b = sumN f N + f N + g a + g b
    by_cases e1 : a = N
    · subst e1
      have h1 : ∀ M, M ≤ a → (b < M → sumN g M + f b = sumN f M + g b) ∧ (M ≤ b → sumN g M = sumN f M) := by
        intro M
        induction M with
        | zero => intro _; exact ⟨fun z => absurd z (Nat.not_lt_zero b), fun _ => rfl⟩
        | succ M ihM =>
          intro hM
          obtain ⟨i1, i2⟩ := ihM (by omega)
          refine ⟨fun z => ?_, fun z => ?_⟩
          · show sumN g M + g M + f b = sumN f M + f M + g b
            by_cases e : b = M
            · subst e
              have := i2 (Nat.le_refl _)
              omega
            · have q1 := i1 (by omega)
              have q2 := h M (by omega) (by omega) (by omega)
              omega
          · show sumN g M + g M = sumN f M + f M
            have q1 := i2 (by omega)
            have q2 := h M (by omega) (by omega) (by omega)
            omega
      have := (h1 a (Nat.le_refl _)).1 (by omega)
      omega
    · by_cases e2 : b = N
      · subst e2
        have h1 : ∀ M, M ≤ b → (a < M → sumN g M + f a = sumN f M + g a) ∧ (M ≤ a → sumN g M = sumN f M) := by
          intro M
          induction M with
          | zero => intro _; exact ⟨fun z => absurd z (Nat.not_lt_zero a), fun _ => rfl⟩
          | succ M ihM =>
            intro hM
            obtain ⟨i1, i2⟩ := ihM (by omega)
            refine ⟨fun z => ?_, fun z => ?_⟩
            · show sumN g M + g M + f a = sumN f M + f M + g a
              by_cases e : a = M
              · subst e
                have := i2 (Nat.le_refl _)
                omega
              · have q1 := i1 (by omega)
                have q2 := h M (by omega) (by omega) (by omega)
                omega
            · show sumN g M + g M = sumN f M + f M
              have q1 := i2 (by omega)
              have q2 := h M (by omega) (by omega) (by omega)
              omega
        have := (h1 b (Nat.le_refl _)).1 (by omega)
        omega
      · have q1 := ih (by omega) (by omega) hab (fun k hk => h k (by omega))
        have q2 := h N (by omega) (by omega) (by omega)
        omega
theorem ti_s {c : Nat → Nat} {lp : Nat} {x : TS} (T : TI c lp x) (h : twoK x ≠ 0) : TI c (x.2.1 (twoK x - 1)) (tS x) ∧ lp ≤ x.2.1 (oneK x - 1) ∧ (tS x).1 = x.1 + 1 := by
  obtain ⟨o1, o2, w1, w2, hne, of, op, wf, wp, hle, hmin⟩ := two_ok h
  obtain ⟨i1, i2, i3, i4, i5, i6, i7, i8, i9, i10⟩ := T
  generalize hO : oneK x - 1 = a at *
  generalize hT : twoK x - 1 = b at *
  have hab : a ≠ b := by omega
  have haK : a < x.1 := by omega
  have hbK : b < x.1 := by omega
  have hlpa := i4 a haK op of
  have e : tS x = (x.1 + 1, updN x.2.1 x.1 (x.2.1 a + x.2.1 b), updN (updN (updN x.2.2 x.1 0) a (x.1 + 1)) b (x.1 + 1)) := by
    unfold tS
    rw [if_neg h, hO, hT]
  rw [e]
  generalize hF : updN x.2.1 x.1 (x.2.1 a + x.2.1 b) = F
  generalize hP : updN (updN (updN x.2.2 x.1 0) a (x.1 + 1)) b (x.1 + 1) = P
  have hFK : F x.1 = x.2.1 a + x.2.1 b := by rw [← hF]; exact updN_s
  have hFn : ∀ k, k ≠ x.1 → F k = x.2.1 k := fun k hk => by rw [← hF]; exact updN_n hk
  have hPa : P a = x.1 + 1 := by rw [← hP, updN_n hab]; exact updN_s
  have hPb : P b = x.1 + 1 := by rw [← hP]; exact updN_s
  have hPn : ∀ k, k ≠ a → k ≠ b → P k = x.2.2 k := fun k h1 h2 => by
    rw [← hP, updN_n h2, updN_n h1]
    by_cases z : k = x.1
    · rw [z, updN_s, i2 x.1 (Nat.le_refl _)]
    · exact updN_n z
  refine ⟨⟨?_, ?_, ?_, ?_, ?_, ?_, ?_, ?_, ?_, ?_⟩, hlpa, rfl⟩
  · show 256 ≤ x.1 + 1; omega
  · intro k hk
    have hk : x.1 + 1 ≤ k := hk
    show P k = 0
    rw [hPn k (by omega) (by omega)]
    exact i2 k (by omega)
  · intro k hk
    have hk : P k ≠ 0 := hk
    show k + 1 < P k ∧ P k ≤ x.1 + 1 ∧ 257 ≤ P k ∧ F k ≤ x.2.1 b ∧ F k ≠ 0 ∧ F k + 1 ≤ F (P k - 1)
    by_cases z1 : k = a
    · rw [z1, hPa, Nat.add_sub_cancel, hFK, hFn a (by omega)]
      omega
    · by_cases z2 : k = b
      · rw [z2, hPb, Nat.add_sub_cancel, hFK, hFn b (by omega)]
        omega
      · rw [hPn k z1 z2] at hk ⊢
        have hkK : k < x.1 := by
          apply Classical.byContradiction
          intro z
          exact hk (i2 k (by omega))
        obtain ⟨q1, q2, q3, q4, q5, q6⟩ := i3 k hk
        rw [hFn k (by omega), hFn _ (show x.2.2 k - 1 ≠ x.1 by omega)]
        omega
  · intro k hk h1 h2
    have hk : k < x.1 + 1 := hk
    have h1 : P k = 0 := h1
    have h2 : F k ≠ 0 := h2
    show x.2.1 b ≤ F k
    have z1 : k ≠ a := fun z => by rw [z, hPa] at h1; omega
    have z2 : k ≠ b := fun z => by rw [z, hPb] at h1; omega
    by_cases z3 : k = x.1
    · rw [z3, hFK]; omega
    · rw [hFn k z3] at h2 ⊢
      rw [hPn k z1 z2] at h1
      exact hmin k (by omega) h2 h1 (by omega)
  · intro k h1 h2
    have h1 : P k ≠ 0 := h1
    have h2 : P (P k - 1) ≠ 0 := h2
    show F k + F (P k - 1) ≤ F (P (P k - 1) - 1)
    have hK0 : P x.1 = 0 := by rw [hPn x.1 (by omega) (by omega)]; exact i2 _ (Nat.le_refl _)
    have z1 : k ≠ a := fun z => by rw [z, hPa, Nat.add_sub_cancel] at h2; exact h2 hK0
    have z2 : k ≠ b := fun z => by rw [z, hPb, Nat.add_sub_cancel] at h2; exact h2 hK0
    rw [hPn k z1 z2] at h1 h2 ⊢
    obtain ⟨q1, q2, q3, q4, q5, q6⟩ := i3 k h1
    have hkK : k ≠ x.1 := fun z => h1 (i2 k (by omega))
    rw [hFn k hkK, hFn (x.2.2 k - 1) (by omega)]
    by_cases z3 : x.2.2 k - 1 = a
    · rw [z3, hPa, Nat.add_sub_cancel, hFK]; omega
    · by_cases z4 : x.2.2 k - 1 = b
      · rw [z4, hPb, Nat.add_sub_cancel, hFK]; omega
      · rw [hPn _ z3 z4] at h2 ⊢
        have q7 := i5 k h1 h2
        obtain ⟨r1, r2, r3, r4, r5, r6⟩ := i3 _ h2
        rw [hFn _ (show x.2.2 (x.2.2 k - 1) - 1 ≠ x.1 by omega)]
        exact q7
  · show sumN (fun k => if P k = 0 then F k else 0) x.1 + (if P x.1 = 0 then F x.1 else 0) = sumN c 256
    have hK0 : P x.1 = 0 := by rw [hPn x.1 (by omega) (by omega)]; exact i2 _ (Nat.le_refl _)
    rw [if_pos hK0, hFK]
    have q := sumN_two3 (fun k => if x.2.2 k = 0 then x.2.1 k else 0) (fun k => if P k = 0 then F k else 0) haK hbK hab (fun k h1 h2 h3 => by
      show (if P k = 0 then F k else 0) = if x.2.2 k = 0 then x.2.1 k else 0
      rw [hPn k h2 h3, hFn k (by omega)])
    have qa : (if x.2.2 a = 0 then x.2.1 a else 0) = x.2.1 a := if_pos op
    have qb : (if x.2.2 b = 0 then x.2.1 b else 0) = x.2.1 b := if_pos wp
    have ra : (if P a = 0 then F a else 0) = 0 := if_neg (by omega)
    have rb : (if P b = 0 then F b else 0) = 0 := if_neg (by omega)
    have q2 : sumN (fun k => if P k = 0 then F k else 0) x.1 + (if x.2.2 a = 0 then x.2.1 a else 0) + (if x.2.2 b = 0 then x.2.1 b else 0) = sumN (fun k => if x.2.2 k = 0 then x.2.1 k else 0) x.1 + (if P a = 0 then F a else 0) + (if P b = 0 then F b else 0) := q
    rw [qa, qb, ra, rb] at q2
    omega
  · intro i h1 h2
    have h2 : i + 1 < x.1 + 1 := h2
    show F i ≤ F (i + 1)
    rw [hFn i (by omega)]
    by_cases z : i + 1 = x.1
    · rw [z, hFK]
      have q := i8 (by omega)
      rw [show x.1 - 1 = i by omega] at q
      omega
    · rw [hFn _ z]
      exact i7 i h1 (by omega)
  · intro _
    show F (x.1 + 1 - 1) ≤ 2 * x.2.1 b
    rw [Nat.add_sub_cancel, hFK]
    omega
  · intro k h1 h2
    have h2 : k < x.1 + 1 := h2
    show F k ≠ 0
    by_cases z : k = x.1
    · rw [z, hFK]; omega
    · rw [hFn k z]
      exact i9 k h1 (by omega)
  · intro s hs
    show F s = c s
    rw [hFn s (by omega)]
    exact i10 s hs
theorem ti_N (c : Nat → Nat) : ∀ j, ∃ lp, TI c lp (tN c j) := by
  intro j
  induction j with
  | zero => exact ⟨0, ti_0 c⟩
  | succ j ih =>
    obtain ⟨lp, T⟩ := ih
    by_cases h : twoK (tN c j) = 0
    · exact ⟨lp, by show TI c lp (tS (tN c j)); unfold tS; rw [if_pos h]; exact T⟩
    · exact ⟨_, (ti_s T h).1⟩
def frees (x : TS) : Nat := sumN (fun k => if x.2.1 k ≠ 0 ∧ x.2.2 k = 0 then 1 else 0) x.1
theorem frees_s {c : Nat → Nat} {lp : Nat} {x : TS} (T : TI c lp x) (h : twoK x ≠ 0) : frees (tS x) + 1 = frees x := by
  obtain ⟨o1, o2, w1, w2, hne, of, op, wf, wp, hle, hmin⟩ := two_ok h
  obtain ⟨i1, i2, i3, i4, i5, i6, i7, i8, i9, i10⟩ := T
  generalize hO : oneK x - 1 = a at *
  generalize hT : twoK x - 1 = b at *
  have hab : a ≠ b := by omega
  have haK : a < x.1 := by omega
  have hbK : b < x.1 := by omega
  have e : tS x = (x.1 + 1, updN x.2.1 x.1 (x.2.1 a + x.2.1 b), updN (updN (updN x.2.2 x.1 0) a (x.1 + 1)) b (x.1 + 1)) := by
    unfold tS
    rw [if_neg h, hO, hT]
  rw [e]
  generalize hF : updN x.2.1 x.1 (x.2.1 a + x.2.1 b) = F
  generalize hP : updN (updN (updN x.2.2 x.1 0) a (x.1 + 1)) b (x.1 + 1) = P
  have hFK : F x.1 = x.2.1 a + x.2.1 b := by rw [← hF]; exact updN_s
  have hFn : ∀ k, k ≠ x.1 → F k = x.2.1 k := fun k hk => by rw [← hF]; exact updN_n hk
  have hPa : P a = x.1 + 1 := by rw [← hP, updN_n hab]; exact updN_s
  have hPb : P b = x.1 + 1 := by rw [← hP]; exact updN_s
  have hPn : ∀ k, k ≠ a → k ≠ b → P k = x.2.2 k := fun k h1 h2 => by
    rw [← hP, updN_n h2, updN_n h1]
    by_cases z : k = x.1
    · rw [z, updN_s, i2 x.1 (Nat.le_refl _)]
    · exact updN_n z
  show sumN (fun k => if F k ≠ 0 ∧ P k = 0 then 1 else 0) x.1 + (if F x.1 ≠ 0 ∧ P x.1 = 0 then 1 else 0) + 1 = sumN (fun k => if x.2.1 k ≠ 0 ∧ x.2.2 k = 0 then 1 else 0) x.1
  have hK0 : P x.1 = 0 := by rw [hPn x.1 (by omega) (by omega)]; exact i2 _ (Nat.le_refl _)
  rw [if_pos ⟨by omega, hK0⟩]
  have q2 : sumN (fun k => if F k ≠ 0 ∧ P k = 0 then 1 else 0) x.1 + (if x.2.1 a ≠ 0 ∧ x.2.2 a = 0 then 1 else 0) + (if x.2.1 b ≠ 0 ∧ x.2.2 b = 0 then 1 else 0) = sumN (fun k => if x.2.1 k ≠ 0 ∧ x.2.2 k = 0 then 1 else 0) x.1 + (if F a ≠ 0 ∧ P a = 0 then 1 else 0) + (if F b ≠ 0 ∧ P b = 0 then 1 else 0) := sumN_two3 (fun k => if x.2.1 k ≠ 0 ∧ x.2.2 k = 0 then 1 else 0) (fun k => if F k ≠ 0 ∧ P k = 0 then 1 else 0) haK hbK hab (fun k h1 h2 h3 => by
    show (if F k ≠ 0 ∧ P k = 0 then 1 else 0) = if x.2.1 k ≠ 0 ∧ x.2.2 k = 0 then 1 else 0
    rw [hPn k h2 h3, hFn k (by omega)])
  rw [if_pos ⟨of, op⟩, if_pos ⟨wf, wp⟩, if_neg (fun z => by have := z.2; omega), if_neg (fun z => by have := z.2; omega)] at q2
  omega
theorem frees_2 {x : TS} (h : twoK x ≠ 0) : 2 ≤ frees x := by
  obtain ⟨o1, o2, w1, w2, hne, of, op, wf, wp, -⟩ := two_ok h
  have q : ∀ a b, a < b → b < x.1 → x.2.1 a ≠ 0 → x.2.2 a = 0 → x.2.1 b ≠ 0 → x.2.2 b = 0 → 2 ≤ frees x := fun a b h1 h2 h3 h4 h5 h6 => by
    have z := sumN_two (f := fun k => if x.2.1 k ≠ 0 ∧ x.2.2 k = 0 then 1 else 0) h1 h2
    have z2 : (if x.2.1 a ≠ 0 ∧ x.2.2 a = 0 then 1 else 0) + (if x.2.1 b ≠ 0 ∧ x.2.2 b = 0 then 1 else 0) ≤ frees x := z
    rw [if_pos ⟨h3, h4⟩, if_pos ⟨h5, h6⟩] at z2
    exact z2
  by_cases z : oneK x < twoK x
  · exact q _ _ (by omega) (by omega) of op wf wp
  · exact q _ _ (by omega) (by omega) wf wp of op
theorem sumN_c1 : ∀ M, sumN (fun _ => 1) M = M := by
  intro M
  induction M with
  | zero => rfl
  | succ M ih => show sumN _ M + 1 = _; rw [ih]
theorem frees_0 (c : Nat → Nat) : frees (tN c 0) ≤ 256 := by
  have h : frees (tN c 0) ≤ sumN (fun _ => 1) 256 := sumN_le (fun s _ => by split <;> omega)
  rw [sumN_c1] at h
  exact h
theorem tN_fix {c : Nat → Nat} {j : Nat} (h : twoK (tN c j) = 0) : ∀ i, tN c (j + i) = tN c j := by
  intro i
  induction i with
  | zero => rfl
  | succ i ih =>
    show tS (tN c (j + i)) = _
    rw [ih]
    unfold tS
    exact if_pos h
theorem tN_end {c : Nat → Nat} {j : Nat} (h : twoK (tN c j) = 0) (hj : j ≤ 256) : tN c 256 = tN c j := by
  have q := tN_fix h (256 - j)
  rw [show j + (256 - j) = 256 by omega] at q
  exact q
def dpK (P : Nat → Nat) : Nat → Nat → Nat
  | 0, _ => 0
  | f + 1, k => if P k = 0 then 0 else dpK P f (P k - 1) + 1
theorem dp_0 {P : Nat → Nat} {k : Nat} (h : P k = 0) : ∀ f, dpK P f k = 0 := by
  intro f
  cases f with
  | zero => rfl
  | succ f => exact if_pos h
theorem dp_s {P : Nat → Nat} {k f : Nat} (h : P k ≠ 0) : dpK P (f + 1) k = dpK P f (P k - 1) + 1 := if_neg h
theorem dp_fuel {P : Nat → Nat} {K : Nat} (h1 : ∀ k, K ≤ k → P k = 0) (h2 : ∀ k, P k ≠ 0 → k + 1 < P k) : ∀ f k, K ≤ k + f → dpK P (f + 1) k = dpK P f k := by
  intro f
  induction f with
  | zero => intro k hk; exact (dp_0 (h1 k hk) 1).trans rfl
  | succ f ih =>
    intro k hk
    by_cases z : P k = 0
    · rw [dp_0 z, dp_0 z]
    · have q := h2 k z
      rw [dp_s z, dp_s z, ih _ (by omega)]
def gF (a b : Nat) : Nat → Nat
  | 0 => b
  | n + 1 => gF b (a + b) n
theorem ti_le {c : Nat → Nat} {lp : Nat} {x : TS} (T : TI c lp x) : ∀ r, r < x.1 → x.2.1 r ≤ sumN c 256 := by
  obtain ⟨i1, i2, i3, i4, i5, i6, i7, i8, i9, i10⟩ := T
  have root : ∀ r, r < x.1 → x.2.2 r = 0 → x.2.1 r ≤ sumN c 256 := fun r hr h => by
    have q := sumN_get (fun k => if x.2.2 k = 0 then x.2.1 k else 0) hr
    rw [i6] at q
    have q2 : (if x.2.2 r = 0 then x.2.1 r else 0) ≤ sumN c 256 := q
    rw [if_pos h] at q2
    exact q2
  have go : ∀ d r, r < x.1 → x.1 ≤ r + d → x.2.1 r ≤ sumN c 256 := by
    intro d
    induction d with
    | zero => intro r h1 h2; omega
    | succ d ih =>
      intro r h1 h2
      by_cases z : x.2.2 r = 0
      · exact root r h1 z
      · obtain ⟨q1, q2, q3, q4, q5, q6⟩ := i3 r z
        have := ih (x.2.2 r - 1) (by omega) (by omega)
        omega
  exact fun r hr => go x.1 r hr (by omega)
theorem dp_g {c : Nat → Nat} {lp : Nat} {x : TS} (T : TI c lp x) : ∀ f k a b, x.2.2 k ≠ 0 → a ≤ x.2.1 k → b ≤ x.2.1 (x.2.2 k - 1) → gF a b (dpK x.2.2 f (x.2.2 k - 1)) ≤ sumN c 256 := by
  have base := ti_le T
  obtain ⟨i1, i2, i3, i4, i5, i6, i7, i8, i9, i10⟩ := T
  intro f
  induction f with
  | zero =>
    intro k a b h h1 h2
    obtain ⟨q1, q2, q3, q4, q5, q6⟩ := i3 k h
    exact Nat.le_trans h2 (base _ (by omega))
  | succ f ih =>
    intro k a b h h1 h2
    obtain ⟨q1, q2, q3, q4, q5, q6⟩ := i3 k h
    by_cases z : x.2.2 (x.2.2 k - 1) = 0
    · rw [dp_0 z]
      exact Nat.le_trans h2 (base _ (by omega))
    · rw [dp_s z]
      exact ih (x.2.2 k - 1) b (a + b) z h2 (Nat.le_trans (Nat.add_le_add h1 h2) (i5 k h z))
theorem gF_mono : ∀ n a b, 1 ≤ a → 1 ≤ b → gF a b n ≤ gF a b (n + 1) := by
  intro n
  induction n with
  | zero => intro a b h _; show b ≤ a + b; omega
  | succ n ih => intro a b h h2; exact ih b (a + b) h2 (by omega)
theorem gF_le {a b n : Nat} (ha : 1 ≤ a) (hb : 1 ≤ b) : ∀ i, gF a b n ≤ gF a b (n + i) := by
  intro i
  induction i with
  | zero => exact Nat.le_refl _
  | succ i ih => exact Nat.le_trans ih (gF_mono _ _ _ ha hb)
def dF (c : Nat → Nat) (s : Nat) : Nat := dpK (tN c 256).2.2 512 s
theorem dF_le {c : Nat → Nat} {B s D : Nat} (hT : sumN c 256 ≤ B) (hD : B < gF 1 2 D) : dF c s ≤ D := by
  obtain ⟨lp, T⟩ := ti_N c 256
  unfold dF
  by_cases z : (tN c 256).2.2 s = 0
  · rw [dp_0 z]; omega
  · rw [show (512 : Nat) = 511 + 1 from rfl, dp_s z]
    obtain ⟨q1, q2, q3, q4, q5, q6⟩ := T.2.2.1 s z
    have q := dp_g T 511 s 1 2 z (by omega) (by omega)
    apply Classical.byContradiction
    intro y
    have h := gF_le (a := 1) (b := 2) (n := D) (by decide) (by decide) (dpK (tN c 256).2.2 511 ((tN c 256).2.2 s - 1) - D)
    rw [show D + (dpK (tN c 256).2.2 511 ((tN c 256).2.2 s - 1) - D) = dpK (tN c 256).2.2 511 ((tN c 256).2.2 s - 1) by omega] at h
    omega
def mxK (f : Nat → Nat) : Nat → Nat
  | 0 => 0
  | k + 1 => if mxK f k < f k then f k else mxK f k
theorem mxK_le {f : Nat → Nat} {B : Nat} (h : ∀ s, f s ≤ B) : ∀ N, mxK f N ≤ B := by
  intro N
  induction N with
  | zero => exact Nat.zero_le _
  | succ N ih =>
    unfold mxK
    split
    · exact h N
    · exact ih
theorem mxK_ge {f : Nat → Nat} : ∀ {N s : Nat}, s < N → f s ≤ mxK f N := by
  intro N
  induction N with
  | zero => intro s h; omega
  | succ N ih =>
    intro s h
    unfold mxK
    by_cases e : s = N
    · rw [e]; split <;> omega
    · have := ih (show s < N by omega)
      split <;> omega
theorem mxK_at {f : Nat → Nat} : ∀ N, mxK f N = 0 ∨ ∃ s, s < N ∧ f s = mxK f N := by
  intro N
  induction N with
  | zero => exact Or.inl rfl
  | succ N ih =>
    unfold mxK
    split
    · exact Or.inr ⟨N, by omega, rfl⟩
    · rcases ih with h | ⟨s, h1, h2⟩
      · exact Or.inl h
      · exact Or.inr ⟨s, by omega, h2⟩
theorem mxK_eq {f g : Nat → Nat} : ∀ {N : Nat}, (∀ s, s < N → f s = g s) → mxK f N = mxK g N := by
  intro N
  induction N with
  | zero => intro _; rfl
  | succ N ih => intro h; unfold mxK; rw [ih (fun s hs => h s (by omega)), h N (by omega)]
def topF (c : Nat → Nat) : Nat := mxK (dF c) 256
def hvF (c : Nat → Nat) (s : Nat) : Nat := (c s + 1) / 2
def lbF : Nat → (Nat → Nat) → Nat → Nat
  | 0, c => c
  | f + 1, c => if topF c ≤ 11 then c else lbF f (hvF c)
theorem hv_le {c : Nat → Nat} {m : Nat} (h : ∀ s, c s ≤ 2 ^ (m + 1)) : ∀ s, hvF c s ≤ 2 ^ m := fun s => by
  have := h s
  rw [Nat.pow_succ] at this
  show (c s + 1) / 2 ≤ _
  omega
theorem lb_top : ∀ m f c, m < f → (∀ s, c s ≤ 2 ^ m) → topF (lbF f c) ≤ 11 ∧ lbF f c = lbF (m + 1) c := by
  intro m
  induction m with
  | zero =>
    intro f c hf hc
    obtain ⟨g, rfl⟩ : ∃ g, f = g + 1 := ⟨f - 1, by omega⟩
    have ht : topF c ≤ 11 := by
      refine mxK_le (fun s => ?_) 256
      have hs : sumN c 256 ≤ 256 := by
        have q : sumN c 256 ≤ sumN (fun _ => 1) 256 := sumN_le (fun s _ => hc s)
        rw [sumN_c1] at q
        exact q
      exact dF_le hs (by decide)
    have e : ∀ q, lbF (q + 1) c = c := fun q => if_pos ht
    rw [e, e]
    exact ⟨ht, rfl⟩
  | succ m ih =>
    intro f c hf hc
    obtain ⟨g, rfl⟩ : ∃ g, f = g + 1 := ⟨f - 1, by omega⟩
    by_cases ht : topF c ≤ 11
    · have e : ∀ q, lbF (q + 1) c = c := fun q => if_pos ht
      rw [e, e]
      exact ⟨ht, rfl⟩
    · have e : ∀ q, lbF (q + 1) c = lbF q (hvF c) := fun q => if_neg ht
      rw [e, e]
      exact ih g (hvF c) (by omega) (hv_le hc)
/-- the queues' next knot is the least one -/
theorem pick_is {F P sy : Nat → Nat} {but j nn leaf knot : Nat} (hsl : ∀ q, q < nn → sy q < 256) (hs : ∀ a b, a < b → b < nn → F (sy a) < F (sy b) ∨ (F (sy a) = F (sy b) ∧ sy a < sy b)) (hm : ∀ i, 256 ≤ i → i + 1 < 256 + j → F i ≤ F (i + 1)) (hfree : ∀ k, k < 256 + j → (frK F P but k ↔ ((∃ q, leaf ≤ q ∧ q < nn ∧ k = sy q) ∨ (∃ i, knot ≤ i ∧ i < j ∧ k = 256 + i)))) : (leaf < nn → (j ≤ knot ∨ F (sy leaf) ≤ F (256 + knot)) → IsL F P but (256 + j) (sy leaf + 1)) ∧ (knot < j → (nn ≤ leaf ∨ F (256 + knot) < F (sy leaf)) → IsL F P but (256 + j) (256 + knot + 1)) ∧ (nn ≤ leaf → j ≤ knot → IsL F P but (256 + j) 0) := by
  have hs2 : ∀ a b, a ≤ b → b < nn → F (sy a) < F (sy b) ∨ (F (sy a) = F (sy b) ∧ sy a ≤ sy b) := fun a b h1 h2 => by
    by_cases e : a = b
    · rw [e]; exact Or.inr ⟨rfl, Nat.le_refl _⟩
    · have := hs a b (by omega) h2
      omega
  have hm2 : ∀ d a, 256 ≤ a → a + d < 256 + j → F a ≤ F (a + d) := by
    intro d
    induction d with
    | zero => intro a _ _; exact Nat.le_refl _
    | succ d ih => intro a h1 h2; exact Nat.le_trans (ih a h1 (by omega)) (hm (a + d) (by omega) (by omega))
  refine ⟨fun h1 h2 => ?_, fun h1 h2 => ?_, fun h1 h2 => ?_⟩
  · have hl := hsl leaf h1
    refine Or.inr ⟨by omega, by omega, (hfree (sy leaf) (by omega)).mpr (Or.inl ⟨leaf, Nat.le_refl _, h1, rfl⟩), fun k hk fk => ?_⟩
    show F (sy leaf) < F k ∨ (F (sy leaf) = F k ∧ sy leaf ≤ k)
    rcases (hfree k hk).mp fk with ⟨q, q1, q2, q3⟩ | ⟨i, q1, q2, q3⟩
    · rw [q3]; exact hs2 leaf q q1 q2
    · have z := hm2 (i - knot) (256 + knot) (by omega) (by omega)
      rw [show 256 + knot + (i - knot) = k by omega] at z
      omega
  · refine Or.inr ⟨by omega, by omega, (hfree (256 + knot) (by omega)).mpr (Or.inr ⟨knot, Nat.le_refl _, h1, rfl⟩), fun k hk fk => ?_⟩
    show F (256 + knot) < F k ∨ (F (256 + knot) = F k ∧ 256 + knot ≤ k)
    rcases (hfree k hk).mp fk with ⟨q, q1, q2, q3⟩ | ⟨i, q1, q2, q3⟩
    · have z := hs2 leaf q q1 q2
      rw [q3]
      omega
    · have z := hm2 (i - knot) (256 + knot) (by omega) (by omega)
      rw [show 256 + knot + (i - knot) = k by omega] at z
      omega
  · refine Or.inl ⟨rfl, fun k hk fk => ?_⟩
    rcases (hfree k hk).mp fk with ⟨q, q1, q2, q3⟩ | ⟨i, q1, q2, q3⟩ <;> omega
def SortI (c sy : Nat → Nat) (nn s : Nat) : Prop := (∀ q, q < nn → sy q < s ∧ c (sy q) ≠ 0) ∧ (∀ a b, a < b → b < nn → c (sy a) < c (sy b) ∨ (c (sy a) = c (sy b) ∧ sy a < sy b)) ∧ (∀ x, x < s → c x ≠ 0 → ∃ q, q < nn ∧ sy q = x) ∧ nn ≤ s
def insK (sy : Nat → Nat) (at_ s k : Nat) : Nat := if k < at_ then sy k else if k = at_ then s else sy (k - 1)
theorem sort_le {c sy : Nat → Nat} {nn s a b : Nat} (h : SortI c sy nn s) (h1 : a ≤ b) (h2 : b < nn) : c (sy a) ≤ c (sy b) := by
  by_cases e : a = b
  · rw [e]; exact Nat.le_refl _
  · have := h.2.1 a b (by omega) h2
    omega
theorem sort_skip {c sy : Nat → Nat} {nn s : Nat} (h : SortI c sy nn s) (hc : c s = 0) : SortI c sy nn (s + 1) := by
  obtain ⟨h1, h2, h3, h4⟩ := h
  refine ⟨fun q hq => ⟨by have := (h1 q hq).1; omega, (h1 q hq).2⟩, h2, fun x hx hcx => ?_, by omega⟩
  by_cases e : x = s
  · rw [e] at hcx; exact absurd hc hcx
  · exact h3 x (by omega) hcx
theorem ins_ok {c sy : Nat → Nat} {nn s at_ : Nat} (h : SortI c sy nn s) (ha : at_ ≤ nn) (hc : c s ≠ 0) (hlo : ∀ k, k < at_ → c (sy k) ≤ c s) (hhi : ∀ k, at_ ≤ k → k < nn → c s < c (sy k)) : SortI c (insK sy at_ s) (nn + 1) (s + 1) := by
  obtain ⟨h1, h2, h3, h4⟩ := h
  have e1 : ∀ k, k < at_ → insK sy at_ s k = sy k := fun k hk => if_pos hk
  have e2 : insK sy at_ s at_ = s := by unfold insK; rw [if_neg (Nat.lt_irrefl _), if_pos rfl]
  have e3 : ∀ k, at_ < k → insK sy at_ s k = sy (k - 1) := fun k hk => by unfold insK; rw [if_neg (by omega), if_neg (by omega)]
  refine ⟨fun q hq => ?_, fun a b hab hb => ?_, fun x hx hcx => ?_, by omega⟩
  · by_cases z1 : q < at_
    · rw [e1 q z1]; have := h1 q (by omega); exact ⟨by omega, this.2⟩
    · by_cases z2 : q = at_
      · rw [z2, e2]; exact ⟨by omega, hc⟩
      · rw [e3 q (by omega)]; have := h1 (q - 1) (by omega); exact ⟨by omega, this.2⟩
  · by_cases a1 : a < at_
    · rw [e1 a a1]
      have la := (h1 a (by omega)).1
      have lo := hlo a a1
      by_cases b1 : b < at_
      · rw [e1 b b1]; exact h2 a b hab (by omega)
      · by_cases b2 : b = at_
        · rw [b2, e2]; omega
        · rw [e3 b (by omega)]
          exact h2 a (b - 1) (by omega) (by omega)
    · by_cases a2 : a = at_
      · rw [a2, e2, e3 b (by omega)]
        exact Or.inl (hhi (b - 1) (by omega) (by omega))
      · rw [e3 a (by omega), e3 b (by omega)]
        exact h2 (a - 1) (b - 1) (by omega) (by omega)
  · by_cases e : x = s
    · exact ⟨at_, by omega, by rw [e2, e]⟩
    · obtain ⟨q, q1, q2⟩ := h3 x (by omega) hcx
      by_cases z : q < at_
      · exact ⟨q, by omega, by rw [e1 q z, q2]⟩
      · exact ⟨q + 1, by omega, by rw [e3 (q + 1) (by omega), Nat.add_sub_cancel, q2]⟩
def ixK (sy : Nat → Nat) (nn k : Nat) : Nat := if k < nn then sy k else 256 + (k - nn)
theorem ix_lo {sy : Nat → Nat} {nn k : Nat} (h : k < nn) : ixK sy nn k = sy k := if_pos h
theorem ix_hi {sy : Nat → Nat} {nn k : Nat} (h : nn ≤ k) : ixK sy nn k = 256 + (k - nn) := if_neg (by omega)
def gonK (F sy : Nat → Nat) (nn j leaf knot : Nat) : Nat := if leaf < nn ∧ (j ≤ knot ∨ F (sy leaf) ≤ F (256 + knot)) then leaf else nn + knot
/-- the queues after j sums: so many leaves and so many sums have gone, and where -/
def CI (c sy : Nat → Nat) (nn j leaf knot : Nat) (ow : Nat → Nat) : Prop := (tN c j).1 = 256 + j ∧ leaf + knot = 2 * j ∧ leaf ≤ nn ∧ (knot < j ∨ (j = 0 ∧ knot = 0)) ∧ (∀ q, q < nn → (tN c j).2.2 (sy q) = if q < leaf then ow q - nn + 257 else 0) ∧ (∀ i, i < j → (tN c j).2.2 (256 + i) = if i < knot then ow (nn + i) - nn + 257 else 0) ∧ (∀ q, q < leaf → nn ≤ ow q ∧ ow q < nn + j) ∧ (∀ i, i < knot → nn ≤ ow (nn + i) ∧ ow (nn + i) < nn + j)
theorem ci_free {c sy : Nat → Nat} {nn j leaf knot : Nat} {ow : Nat → Nat} (S : SortI c sy nn 256) (C : CI c sy nn j leaf knot ow) : ∀ k, k < 256 + j → (frK (tN c j).2.1 (tN c j).2.2 0 k ↔ ((∃ q, leaf ≤ q ∧ q < nn ∧ k = sy q) ∨ (∃ i, knot ≤ i ∧ i < j ∧ k = 256 + i))) := by
  obtain ⟨lp, T⟩ := ti_N c j
  obtain ⟨c1, c2, c3, c4, c5, c6, c7, c8⟩ := C
  obtain ⟨i1, i2, i3, i4, i5, i6, i7, i8, i9, i10⟩ := T
  intro k hk
  constructor
  · rintro ⟨-, f1, f2⟩
    by_cases z : k < 256
    · rw [i10 k z] at f1
      obtain ⟨q, q1, q2⟩ := S.2.2.1 k z f1
      refine Or.inl ⟨q, ?_, q1, q2.symm⟩
      have := c5 q q1
      rw [q2, f2] at this
      by_cases y : q < leaf
      · rw [if_pos y] at this; omega
      · omega
    · obtain ⟨i, hi⟩ : ∃ i, k = 256 + i := ⟨k - 256, by omega⟩
      refine Or.inr ⟨i, ?_, by omega, hi⟩
      have := c6 i (by omega)
      rw [← hi, f2] at this
      by_cases y : i < knot
      · rw [if_pos y] at this; omega
      · omega
  · rintro (⟨q, q1, q2, q3⟩ | ⟨i, q1, q2, q3⟩)
    · have hs := S.1 q q2
      refine ⟨by omega, ?_, ?_⟩
      · rw [q3, i10 _ (by omega)]; exact hs.2
      · rw [q3, c5 q q2, if_neg (by omega)]
    · refine ⟨by omega, i9 k (by omega) (by omega), ?_⟩
      rw [q3, c6 i q2, if_neg (by omega)]
theorem sort_F {c sy : Nat → Nat} {nn j : Nat} (S : SortI c sy nn 256) : (∀ q, q < nn → (tN c j).2.1 (sy q) = c (sy q)) ∧ (∀ a b, a < b → b < nn → (tN c j).2.1 (sy a) < (tN c j).2.1 (sy b) ∨ ((tN c j).2.1 (sy a) = (tN c j).2.1 (sy b) ∧ sy a < sy b)) ∧ (∀ i, 256 ≤ i → i + 1 < (tN c j).1 → (tN c j).2.1 i ≤ (tN c j).2.1 (i + 1)) := by
  obtain ⟨lp, T⟩ := ti_N c j
  have e : ∀ q, q < nn → (tN c j).2.1 (sy q) = c (sy q) := fun q hq => T.2.2.2.2.2.2.2.2.2 _ (S.1 q hq).1
  exact ⟨e, fun a b h1 h2 => by rw [e a (by omega), e b h2]; exact S.2.1 a b h1 h2, T.2.2.2.2.2.2.1⟩
theorem gon_is {F P sy : Nat → Nat} {but j nn leaf knot : Nat} (hsl : ∀ q, q < nn → sy q < 256) (hs : ∀ a b, a < b → b < nn → F (sy a) < F (sy b) ∨ (F (sy a) = F (sy b) ∧ sy a < sy b)) (hm : ∀ i, 256 ≤ i → i + 1 < 256 + j → F i ≤ F (i + 1)) (hfree : ∀ k, k < 256 + j → (frK F P but k ↔ ((∃ q, leaf ≤ q ∧ q < nn ∧ k = sy q) ∨ (∃ i, knot ≤ i ∧ i < j ∧ k = 256 + i)))) (hne : leaf < nn ∨ knot < j) : lsK F P but (256 + j) = ixK sy nn (gonK F sy nn j leaf knot) + 1 := by
  obtain ⟨p1, p2, -⟩ := pick_is hsl hs hm hfree
  unfold gonK
  by_cases z : leaf < nn ∧ (j ≤ knot ∨ F (sy leaf) ≤ F (256 + knot))
  · rw [if_pos z, ix_lo z.1]
    exact (lsK_is F P but _).uniq (p1 z.1 z.2)
  · rw [if_neg z, ix_hi (by omega), show nn + knot - nn = knot by omega]
    have hk : knot < j := by
      apply Classical.byContradiction
      intro y
      exact z ⟨by omega, Or.inl (by omega)⟩
    refine (lsK_is F P but _).uniq (p2 hk ?_)
    by_cases y : leaf < nn
    · exact Or.inr (by
        apply Classical.byContradiction
        intro v
        exact z ⟨y, Or.inr (by omega)⟩)
    · exact Or.inl (by omega)
def lfK (nn leaf g : Nat) : Nat := if g < nn then leaf + 1 else leaf
def knK (nn knot g : Nat) : Nat := if g < nn then knot else knot + 1
theorem sy_inj {c sy : Nat → Nat} {nn s a b : Nat} (S : SortI c sy nn s) (ha : a < nn) (hb : b < nn) (e : sy a = sy b) : a = b := by
  apply Classical.byContradiction
  intro z
  by_cases y : a < b
  · have := S.2.1 a b y hb; rw [e] at this; omega
  · have := S.2.1 b a (by omega) ha; rw [e] at this; omega
theorem gon_in {F sy : Nat → Nat} {nn j leaf knot : Nat} (hne : leaf < nn ∨ knot < j) : (gonK F sy nn j leaf knot = leaf ∧ leaf < nn) ∨ (gonK F sy nn j leaf knot = nn + knot ∧ knot < j) := by
  unfold gonK
  by_cases z : leaf < nn ∧ (j ≤ knot ∨ F (sy leaf) ≤ F (256 + knot))
  · rw [if_pos z]; exact Or.inl ⟨rfl, z.1⟩
  · rw [if_neg z]
    refine Or.inr ⟨rfl, ?_⟩
    apply Classical.byContradiction
    intro y
    exact z ⟨by omega, Or.inl (by omega)⟩
theorem lk_in {nn j leaf knot g : Nat} (h : (g = leaf ∧ leaf < nn) ∨ (g = nn + knot ∧ knot < j)) : (g = leaf ∧ leaf < nn ∧ lfK nn leaf g = leaf + 1 ∧ knK nn knot g = knot) ∨ (g = nn + knot ∧ knot < j ∧ lfK nn leaf g = leaf ∧ knK nn knot g = knot + 1) := by
  rcases h with ⟨a, b⟩ | ⟨a, b⟩
  · exact Or.inl ⟨a, b, if_pos (by omega), if_pos (by omega)⟩
  · exact Or.inr ⟨a, b, if_neg (by omega), if_neg (by omega)⟩
theorem ix_in {sy : Nat → Nat} {nn j leaf knot g : Nat} (h : (g = leaf ∧ leaf < nn) ∨ (g = nn + knot ∧ knot < j)) : (g = leaf ∧ leaf < nn ∧ ixK sy nn g = sy leaf) ∨ (g = nn + knot ∧ knot < j ∧ ixK sy nn g = 256 + knot) := by
  rcases h with ⟨a, b⟩ | ⟨a, b⟩
  · exact Or.inl ⟨a, b, by rw [a, ix_lo b]⟩
  · exact Or.inr ⟨a, b, by rw [a, ix_hi (by omega)]; omega⟩
theorem free2 {F P sy : Nat → Nat} {nn j leaf knot g : Nat} (hsl : ∀ q, q < nn → sy q < 256) (hinj : ∀ a b, a < nn → b < nn → sy a = sy b → a = b) (hg : (g = leaf ∧ leaf < nn) ∨ (g = nn + knot ∧ knot < j)) (hfree : ∀ k, k < 256 + j → (frK F P 0 k ↔ ((∃ q, leaf ≤ q ∧ q < nn ∧ k = sy q) ∨ (∃ i, knot ≤ i ∧ i < j ∧ k = 256 + i)))) : ∀ k, k < 256 + j → (frK F P (ixK sy nn g + 1) k ↔ ((∃ q, lfK nn leaf g ≤ q ∧ q < nn ∧ k = sy q) ∨ (∃ i, knK nn knot g ≤ i ∧ i < j ∧ k = 256 + i))) := by
  intro k hk
  have h0 := hfree k hk
  have e : frK F P (ixK sy nn g + 1) k ↔ (k ≠ ixK sy nn g ∧ frK F P 0 k) := by
    clear h0 hfree
    constructor
    · intro x; exact ⟨fun z => x.1 (by rw [z]), Nat.succ_ne_zero k, x.2⟩
    · intro x; exact ⟨fun z => x.1 (Nat.succ.inj z), x.2.2⟩
  rw [e, h0]
  clear e h0 hfree
  have hix := ix_in (sy := sy) hg
  have hlk := lk_in hg
  rcases hix with ⟨a1, a2, a3⟩ | ⟨a1, a2, a3⟩
  · have q1 : lfK nn leaf g = leaf + 1 := by omega
    have q2 : knK nn knot g = knot := by omega
    rw [q1, q2, a3]
    constructor
    · rintro ⟨x1, ⟨q, y1, y2, y3⟩ | y⟩
      · refine Or.inl ⟨q, ?_, y2, y3⟩
        by_cases z : q = leaf
        · rw [z] at y3; exact absurd y3 x1
        · omega
      · exact Or.inr y
    · rintro (⟨q, y1, y2, y3⟩ | ⟨i, y1, y2, y3⟩)
      · exact ⟨fun z => by have := hinj q leaf y2 a2 (y3.symm.trans z); omega, Or.inl ⟨q, by omega, y2, y3⟩⟩
      · exact ⟨fun z => by have := hsl leaf a2; omega, Or.inr ⟨i, y1, y2, y3⟩⟩
  · have q1 : lfK nn leaf g = leaf := by omega
    have q2 : knK nn knot g = knot + 1 := by omega
    rw [q1, q2, a3]
    constructor
    · rintro ⟨x1, y | ⟨i, y1, y2, y3⟩⟩
      · exact Or.inl y
      · exact Or.inr ⟨i, by omega, y2, y3⟩
    · rintro (⟨q, y1, y2, y3⟩ | ⟨i, y1, y2, y3⟩)
      · exact ⟨fun z => by have := hsl q y2; omega, Or.inl ⟨q, y1, y2, y3⟩⟩
      · exact ⟨by omega, Or.inr ⟨i, by omega, y2, y3⟩⟩
theorem ci_two {c sy : Nat → Nat} {nn j leaf knot g1 g2 : Nat} {ow : Nat → Nat} (S : SortI c sy nn 256) (C : CI c sy nn j leaf knot ow) (hj : j + 1 < nn) (h1 : g1 = gonK (tN c j).2.1 sy nn j leaf knot) (h2 : g2 = gonK (tN c j).2.1 sy nn j (lfK nn leaf g1) (knK nn knot g1)) : oneK (tN c j) = ixK sy nn g1 + 1 ∧ twoK (tN c j) = ixK sy nn g2 + 1 ∧ ((g1 = leaf ∧ leaf < nn) ∨ (g1 = nn + knot ∧ knot < j)) ∧ ((g2 = lfK nn leaf g1 ∧ lfK nn leaf g1 < nn) ∨ (g2 = nn + knK nn knot g1 ∧ knK nn knot g1 < j)) := by
  obtain ⟨f1, f2, f3⟩ := sort_F (j := j) S
  have hfr := ci_free S C
  obtain ⟨c1, c2, c3, c4, -⟩ := C
  rw [c1] at f3
  have hsl : ∀ q, q < nn → sy q < 256 := fun q hq => (S.1 q hq).1
  have hinj : ∀ a b, a < nn → b < nn → sy a = sy b → a = b := fun a b => sy_inj S
  unfold oneK twoK
  unfold oneK
  rw [c1]
  clear c1 S
  generalize (tN c j).2.1 = F at *
  generalize (tN c j).2.2 = P at *
  have n1 : leaf < nn ∨ knot < j := by omega
  have hg1 := gon_in (F := F) (sy := sy) n1
  have k1 := gon_is hsl f2 f3 hfr n1
  rw [← h1] at hg1 k1
  have hfr2 := free2 hsl hinj hg1 hfr
  have hlk := lk_in hg1
  have n2 : lfK nn leaf g1 < nn ∨ knK nn knot g1 < j := by clear hfr hfr2 f1 f2 f3; omega
  have hg2 := gon_in (F := F) (sy := sy) n2
  have k2 := gon_is hsl f2 f3 hfr2 n2
  rw [← h2] at hg2 k2
  exact ⟨k1, by rw [k1]; exact k2, hg1, hg2⟩
theorem ci_step {c sy : Nat → Nat} {nn j leaf knot g1 g2 : Nat} {ow : Nat → Nat} (S : SortI c sy nn 256) (C : CI c sy nn j leaf knot ow) (hj : j + 1 < nn) (h1 : g1 = gonK (tN c j).2.1 sy nn j leaf knot) (h2 : g2 = gonK (tN c j).2.1 sy nn j (lfK nn leaf g1) (knK nn knot g1)) : CI c sy nn (j + 1) (lfK nn (lfK nn leaf g1) g2) (knK nn (knK nn knot g1) g2) (updN (updN ow g1 (nn + j)) g2 (nn + j)) ∧ (tN c (j + 1)).2.1 = updN (tN c j).2.1 (256 + j) ((tN c j).2.1 (ixK sy nn g1) + (tN c j).2.1 (ixK sy nn g2)) := by
  obtain ⟨hone, htwo, hg1, hg2⟩ := ci_two S C hj h1 h2
  clear h1 h2
  obtain ⟨c1, c2, c3, c4, c5, c6, c7, c8⟩ := C
  have hsl : ∀ q, q < nn → sy q < 256 := fun q hq => (S.1 q hq).1
  have hinj : ∀ a b, a < nn → b < nn → sy a = sy b → a = b := fun a b => sy_inj S
  have e : tN c (j + 1) = ((tN c j).1 + 1, updN (tN c j).2.1 (tN c j).1 ((tN c j).2.1 (ixK sy nn g1) + (tN c j).2.1 (ixK sy nn g2)), updN (updN (updN (tN c j).2.2 (tN c j).1 0) (ixK sy nn g1) ((tN c j).1 + 1)) (ixK sy nn g2) ((tN c j).1 + 1)) := by
    show tS (tN c j) = _
    unfold tS
    rw [if_neg (by rw [htwo]; exact Nat.succ_ne_zero _), hone, htwo, Nat.add_sub_cancel, Nat.add_sub_cancel]
  unfold CI
  rw [e, c1]
  clear e hone htwo c1 S
  generalize (tN c j).2.1 = F at *
  generalize (tN c j).2.2 = P at *
  have hlk := lk_in hg1
  have hlk2 := lk_in hg2
  have hix1 := ix_in (sy := sy) hg1
  have hix2 := ix_in (sy := sy) hg2
  generalize lfK nn leaf g1 = leaf2 at *
  generalize knK nn knot g1 = knot2 at *
  generalize lfK nn leaf2 g2 = leaf3 at *
  generalize knK nn knot2 g2 = knot3 at *
  clear hg1 hg2
  generalize hx1 : ixK sy nn g1 = x1 at *
  generalize hx2 : ixK sy nn g2 = x2 at *
  have hg12 : g1 ≠ g2 := by omega
  have lo : ∀ q, q < nn → (sy q = x1 ↔ q = g1) ∧ (sy q = x2 ↔ q = g2) := fun q hq => by
    refine ⟨⟨fun z => ?_, fun z => by rw [← hx1, ← z, ix_lo hq]⟩, ⟨fun z => ?_, fun z => by rw [← hx2, ← z, ix_lo hq]⟩⟩
    · rcases hix1 with ⟨a1, a2, a3⟩ | ⟨a1, a2, a3⟩
      · rw [a1]; exact hinj q leaf hq a2 (z.trans a3)
      · have := hsl q hq; omega
    · rcases hix2 with ⟨a1, a2, a3⟩ | ⟨a1, a2, a3⟩
      · rw [a1]; exact hinj q leaf2 hq a2 (z.trans a3)
      · have := hsl q hq; omega
  have hi_ : ∀ i, (256 + i = x1 ↔ nn + i = g1) ∧ (256 + i = x2 ↔ nn + i = g2) := fun i => by
    refine ⟨⟨fun z => ?_, fun z => by rw [← hx1, ← z, ix_hi (by omega)]; omega⟩, ⟨fun z => ?_, fun z => by rw [← hx2, ← z, ix_hi (by omega)]; omega⟩⟩
    · rcases hix1 with ⟨a1, a2, a3⟩ | ⟨a1, a2, a3⟩
      · have := hsl leaf a2; omega
      · omega
    · rcases hix2 with ⟨a1, a2, a3⟩ | ⟨a1, a2, a3⟩
      · have := hsl leaf2 a2; omega
      · omega
  have hP : ∀ k, updN (updN (updN P (256 + j) 0) x1 (256 + j + 1)) x2 (256 + j + 1) k = if k = x1 ∨ k = x2 then 256 + j + 1 else if k = 256 + j then 0 else P k := by
    intro k
    by_cases z2 : k = x2
    · rw [z2, updN_s, if_pos (Or.inr rfl)]
    · rw [updN_n z2]
      by_cases z1 : k = x1
      · rw [z1, updN_s, if_pos (Or.inl rfl)]
      · rw [updN_n z1, if_neg (by omega)]
        rfl
  have ow1 : updN (updN ow g1 (nn + j)) g2 (nn + j) g1 = nn + j := by rw [updN_n hg12, updN_s]
  have ow2 : updN (updN ow g1 (nn + j)) g2 (nn + j) g2 = nn + j := updN_s
  have ow3 : ∀ q, q ≠ g1 → q ≠ g2 → updN (updN ow g1 (nn + j)) g2 (nn + j) q = ow q := fun q z1 z2 => by rw [updN_n z2, updN_n z1]
  generalize updN (updN ow g1 (nn + j)) g2 (nn + j) = ow' at *
  refine ⟨⟨?_, by omega, by omega, by omega, fun q hq => ?_, fun i hi => ?_, fun q hq => ?_, fun i hi => ?_⟩, rfl⟩
  · show 256 + j + 1 = _; omega
  · show updN (updN (updN P (256 + j) 0) x1 (256 + j + 1)) x2 (256 + j + 1) (sy q) = _
    have hq256 := hsl q hq
    obtain ⟨l1, l2⟩ := lo q hq
    rw [hP]
    by_cases z1 : q = g1
    · rw [if_pos (Or.inl (l1.mpr z1)), z1, ow1, if_pos (by omega)]; omega
    · by_cases z2 : q = g2
      · rw [if_pos (Or.inr (l2.mpr z2)), z2, ow2, if_pos (by omega)]; omega
      · rw [if_neg (fun z => z.elim (fun y => z1 (l1.mp y)) (fun y => z2 (l2.mp y))), if_neg (by omega), c5 q hq, ow3 q z1 z2]
        clear c5 c6 c7 c8 hP lo hi_ l1 l2
        by_cases y : q < leaf
        · rw [if_pos y, if_pos (by omega)]
        · rw [if_neg y, if_neg (by omega)]
  · show updN (updN (updN P (256 + j) 0) x1 (256 + j + 1)) x2 (256 + j + 1) (256 + i) = _
    obtain ⟨l1, l2⟩ := hi_ i
    rw [hP]
    by_cases z1 : nn + i = g1
    · rw [if_pos (Or.inl (l1.mpr z1)), z1, ow1, if_pos (by omega)]; omega
    · by_cases z2 : nn + i = g2
      · rw [if_pos (Or.inr (l2.mpr z2)), z2, ow2, if_pos (by omega)]; omega
      · rw [if_neg (fun z => z.elim (fun y => z1 (l1.mp y)) (fun y => z2 (l2.mp y)))]
        clear hP lo hi_ l1 l2
        by_cases zj : i = j
        · rw [if_pos (by omega), if_neg (by omega)]
        · rw [if_neg (by omega), c6 i (by omega), ow3 (nn + i) z1 z2]
          clear c5 c6 c7 c8
          by_cases y : i < knot
          · rw [if_pos y, if_pos (by omega)]
          · rw [if_neg y, if_neg (by omega)]
  · clear hP lo hi_ c5 c6 c8
    by_cases z1 : q = g1
    · rw [z1, ow1]; omega
    · by_cases z2 : q = g2
      · rw [z2, ow2]; omega
      · rw [ow3 q z1 z2]; have := c7 q (by omega); omega
  · clear hP lo hi_ c5 c6 c7
    by_cases z1 : nn + i = g1
    · rw [z1, ow1]; omega
    · by_cases z2 : nn + i = g2
      · rw [z2, ow2]; omega
      · rw [ow3 (nn + i) z1 z2]; have := c8 i (by omega); omega
