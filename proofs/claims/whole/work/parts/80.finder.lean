/-! matches: what both sides look for -/
def IsCom (D : Nat → Nat) (q p t k : Nat) : Prop := k ≤ t ∧ (∀ j, j < k → D (q + j) = D (p + j)) ∧ (k < t → D (q + k) ≠ D (p + k))
theorem IsCom.uniq {D : Nat → Nat} {q p t a b : Nat} (x : IsCom D q p t a) (y : IsCom D q p t b) : a = b := by
  rcases Nat.lt_trichotomy a b with z | z | z
  · exact absurd (y.2.1 a z) (x.2.2 (Nat.lt_of_lt_of_le z y.1))
  · exact z
  · exact absurd (x.2.1 b z) (y.2.2 (Nat.lt_of_lt_of_le z x.1))
theorem sb_eqI {a b : Nat} (ha : a < 256) (hb : b < 256) : sb_b a = sb_b b ↔ a = b := by
  constructor
  · intro h
    have x := (sb_byte a ha).1
    rw [h, (sb_byte b hb).1] at x
    exact ((nI_eq (by omega) (by omega)).mp x).symm
  · intro h
    rw [h]
/-- the match so far: its length and its place -/
def mBet (way best l : Nat) : Prop := if way = 0 then best = 0 else if way = 1 then best = 0 ∨ best < 8 ∧ 7 < l else best < l
def mBetB (way best l : Nat) : Bool := if way = 0 then decide (best = 0) else if way = 1 then decide (best = 0 ∨ best < 8 ∧ 7 < l) else decide (best < l)
theorem mBetB_iff (way best l : Nat) : mBetB way best l = true ↔ mBet way best l := by
  unfold mBetB mBet
  by_cases h0 : way = 0
  · rw [if_pos h0, if_pos h0, decide_eq_true_eq]
  · rw [if_neg h0, if_neg h0]
    by_cases h1 : way = 1
    · rw [if_pos h1, if_pos h1, decide_eq_true_eq]
    · rw [if_neg h1, if_neg h1, decide_eq_true_eq]
def mStep (way least : Nat) (r : Nat × Nat) (q l : Nat) : Nat × Nat := if least ≤ l ∧ mBetB way r.1 l = true then (l, q) else r
theorem mStep_y {way least : Nat} {r : Nat × Nat} {q l : Nat} (h1 : least ≤ l) (h2 : mBet way r.1 l) : mStep way least r q l = (l, q) := if_pos ⟨h1, (mBetB_iff _ _ _).mpr h2⟩
theorem mStep_n {way least : Nat} {r : Nat × Nat} {q l : Nat} (h : ¬ (least ≤ l ∧ mBet way r.1 l)) : mStep way least r q l = r := if_neg (fun z => h ⟨z.1, (mBetB_iff _ _ _).mp z.2⟩)
def comN (D : Nat → Nat) (q p : Nat) : Nat → Nat
  | 0 => 0
  | t + 1 => if D q = D p then comN D (q + 1) (p + 1) t + 1 else 0
theorem comN_is (D : Nat → Nat) : ∀ (t q p : Nat), IsCom D q p t (comN D q p t) := by
  intro t
  induction t with
  | zero => intro q p; exact ⟨Nat.le_refl _, fun j hj => absurd hj (Nat.not_lt_zero j), fun h => absurd h (Nat.lt_irrefl _)⟩
  | succ t ih =>
    intro q p
    unfold comN
    by_cases h : D q = D p
    · rw [if_pos h]
      obtain ⟨a1, a2, a3⟩ := ih (q + 1) (p + 1)
      refine ⟨Nat.succ_le_succ a1, fun j hj => ?_, fun hk => ?_⟩
      · cases j with
        | zero => exact h
        | succ j =>
          have := a2 j (by omega)
          rw [show q + (j + 1) = q + 1 + j by omega, show p + (j + 1) = p + 1 + j by omega]
          exact this
      · have := a3 (by omega)
        rw [show q + (comN D (q + 1) (p + 1) t + 1) = q + 1 + comN D (q + 1) (p + 1) t by omega, show p + (comN D (q + 1) (p + 1) t + 1) = p + 1 + comN D (q + 1) (p + 1) t by omega]
        exact this
    · rw [if_neg h]
      exact ⟨Nat.zero_le _, fun j hj => absurd hj (Nat.not_lt_zero j), fun _ => h⟩
/-- the places p - 1, p - 2 .. gone through, j of them -/
def mFold (D : Nat → Nat) (way least e p : Nat) : Nat → Nat × Nat
  | 0 => (0, 0)
  | j + 1 => mStep way least (mFold D way least e p j) (p - 1 - j) (comN D (p - 1 - j) p (e - p))
/-- the match at p that the rule takes, the data ending at e -/
def mAt (D : Nat → Nat) (way least win e p : Nat) : Nat × Nat := mFold D way least e p (min p win)
theorem mFold_le (D : Nat → Nat) (way least e p j : Nat) : (mFold D way least e p j).1 ≤ e - p := by
  induction j with
  | zero => exact Nat.zero_le _
  | succ j ih =>
    unfold mFold
    by_cases h : least ≤ comN D (p - 1 - j) p (e - p) ∧ mBet way (mFold D way least e p j).1 (comN D (p - 1 - j) p (e - p))
    · rw [mStep_y h.1 h.2]
      exact (comN_is D (e - p) _ _).1
    · rw [mStep_n h]
      exact ih
theorem mFold_at (D : Nat → Nat) {way least e p j : Nat} (hl : 1 ≤ least) (hj : j ≤ p) : (mFold D way least e p j).1 ≠ 0 → p - j ≤ (mFold D way least e p j).2 ∧ (mFold D way least e p j).2 < p ∧ least ≤ (mFold D way least e p j).1 := by
  induction j with
  | zero => intro h; exact absurd rfl h
  | succ j ih =>
    have ih := ih (by omega)
    unfold mFold
    by_cases h : least ≤ comN D (p - 1 - j) p (e - p) ∧ mBet way (mFold D way least e p j).1 (comN D (p - 1 - j) p (e - p))
    · rw [mStep_y h.1 h.2]
      intro _
      exact ⟨by omega, by omega, h.1⟩
    · rw [mStep_n h]
      intro q
      have := ih q
      exact ⟨by omega, this.2⟩
/-- a match that nothing changes any more -/
def mFix (way m best : Nat) : Prop := best ≠ 0 ∧ (best = m ∨ way = 0 ∨ way = 1 ∧ 8 ≤ best)
theorem mFix_no {way m best l : Nat} (h : mFix way m best) (hl : l ≤ m) (hw : way ≤ 2) : ¬ mBet way best l := by
  obtain ⟨h0, h1⟩ := h
  unfold mBet
  rcases h1 with h1 | h1 | ⟨h1, h2⟩
  · by_cases w0 : way = 0
    · rw [if_pos w0]; exact h0
    · rw [if_neg w0]
      by_cases w1 : way = 1
      · rw [if_pos w1]; omega
      · rw [if_neg w1]; omega
  · rw [if_pos h1]; exact h0
  · rw [if_neg (by omega), if_pos h1]; omega
theorem mFold_fix (D : Nat → Nat) {way least e p j : Nat} (hw : way ≤ 2) (h : mFix way (e - p) (mFold D way least e p j).1) : ∀ k, mFold D way least e p (j + k) = mFold D way least e p j := by
  intro k
  induction k with
  | zero => rfl
  | succ k ih =>
    show mStep way least (mFold D way least e p (j + k)) _ _ = _
    rw [ih]
    exact mStep_n (fun q => mFix_no h (comN_is D (e - p) _ _).1 hw q.2)
set_option maxRecDepth 20000 in
theorem x_common {d n s : Nat} {h : Nat → aE} {fu fw fl fwi fle fdi fap fal fad : Int32} {D : Nat → Nat} {dA : Nat → Int32} {U e q p : Nat} (hn : 190 ≤ n) (hD : ∀ i, i < U → D i < 256 ∧ dA i = sb_b (D i)) (hU : U ≤ 16000) (he : e ≤ U) (hqp : q < p) (hp : p ≤ e) (F_h_82 : h 82 = .inr (3, [.ref 83, .int fu, .ref 84, .ref 85, .int fw, .int fl, .int fwi, .int (nI e), .int fle, .int fdi, .int fap, .int fal, .int fad])) (F_h_83 : h 83 = .inl (0, 16000, .inl dA))  {Ψ : Option Value → aH → Prop} (kk : ∀ k, IsCom D q p (e - p) k → Ψ (some (.int (nI k))) (n, s, h)) : WO (mM (d + 1)) 42 [.ref 82, .int (nI q), .int (nI p)] (n, s, h) Ψ := by
  refine WO.of (Nat.le_of_ble_eq_true rfl) ?_
  show WX (lk tX3_common) (mM d) Ψ 0 [(0, .ref 82), (1, .int (nI q)), (2, .int (nI p))] [] (n, s, h)
  refine WX.s1 rfl rfl ?_
  refine WX.s1 (L' := [(0, .ref 82), (1, .int (nI q)), (2, .int (nI p)), (3, .int 0)]) rfl rfl ?_
  have lp : ∀ (t i : Nat), i + t = e - p → (∀ j, j < i → D (q + j) = D (p + j)) → WX (lk tX3_common) (mM d) Ψ 2 [(0, .ref 82), (1, .int (nI q)), (2, .int (nI p)), (3, .int (nI i))] [] (n, s, h) := by
    intro t
    induction t with
    | zero =>
      intro i ht hEq
      refine WX.s1 rfl rfl ?_
      refine WX.s1 rfl rfl ?_
      refine WX.s1 (S' := [.int ((nI p) + (nI i))]) rfl rfl ?_
      rw [show ((nI p) + (nI i)) = nI (p + i) from nI_add p i]
      refine WX.s1 rfl rfl ?_
      refine WX.get1 (fs := [.ref 83, .int fu, .ref 84, .ref 85, .int fw, .int fl, .int fwi, .int (nI e), .int fle, .int fdi, .int fap, .int fal, .int fad]) rfl (ltN hn (by decide)) (F_h_82) rfl ?_
      refine WX.icmp rfl (fun c_9 => ?_) (fun c_9 => absurd ((nI_leI (a := e) (b := p + i) (by omega) (by omega)).mpr (by omega)) c_9)
      clear c_9
      refine WX.s1 rfl rfl ?_
      exact WX.ret1 rfl (kk i ⟨by omega, hEq, fun z => absurd z (by omega)⟩)
    | succ t ih =>
      intro i ht hEq
      refine WX.s1 rfl rfl ?_
      refine WX.s1 rfl rfl ?_
      refine WX.s1 (S' := [.int ((nI p) + (nI i))]) rfl rfl ?_
      rw [show ((nI p) + (nI i)) = nI (p + i) from nI_add p i]
      refine WX.s1 rfl rfl ?_
      refine WX.get1 (fs := [.ref 83, .int fu, .ref 84, .ref 85, .int fw, .int fl, .int fwi, .int (nI e), .int fle, .int fdi, .int fap, .int fal, .int fad]) rfl (ltN hn (by decide)) (F_h_82) rfl ?_
      refine WX.icmp rfl (fun c_9 => absurd c_9 (fun z => absurd ((nI_leI (a := e) (b := p + i) (by omega) (by omega)).mp z) (Nat.not_le.mpr (by omega)))) (fun c_9 => ?_)
      clear c_9
      refine WX.s1 rfl rfl ?_
      refine WX.get1 (fs := [.ref 83, .int fu, .ref 84, .ref 85, .int fw, .int fl, .int fwi, .int (nI e), .int fle, .int fdi, .int fap, .int fal, .int fad]) rfl (ltN hn (by decide)) (F_h_82) rfl ?_
      refine WX.s1 rfl rfl ?_
      refine WX.s1 rfl rfl ?_
      refine WX.s1 (S' := [.int ((nI q) + (nI i)), .ref 83]) rfl rfl ?_
      rw [show ((nI q) + (nI i)) = nI (q + i) from nI_add q i]
      refine WX.bald1 rfl (ltN hn (by decide)) (F_h_83) (vp_in_nI (N := 16000) (by omega) (by decide)) ?_
      rw [nI_clamp (by omega), (hD (q + i) (by omega)).2]
      refine WX.s1 rfl rfl ?_
      refine WX.get1 (fs := [.ref 83, .int fu, .ref 84, .ref 85, .int fw, .int fl, .int fwi, .int (nI e), .int fle, .int fdi, .int fap, .int fal, .int fad]) rfl (ltN hn (by decide)) (F_h_82) rfl ?_
      refine WX.s1 rfl rfl ?_
      refine WX.s1 rfl rfl ?_
      refine WX.s1 (S' := [.int ((nI p) + (nI i)), .ref 83, .int (sb_b (D (q + i)))]) rfl rfl ?_
      rw [show ((nI p) + (nI i)) = nI (p + i) from nI_add p i]
      refine WX.bald1 rfl (ltN hn (by decide)) (F_h_83) (vp_in_nI (N := 16000) (by omega) (by decide)) ?_
      rw [nI_clamp (by omega), (hD (p + i) (by omega)).2]
      refine WX.icmp rfl (fun c_28 => ?_) (fun c_28 => ?_)
      · skip
        refine WX.s1 rfl rfl ?_
        exact WX.ret1 rfl (kk i ⟨by omega, hEq, fun _ z => c_28 ((sb_eqI (hD _ (by omega)).1 (hD _ (by omega)).1).mpr z)⟩)
      · skip
        refine WX.s1 (L' := [(0, .ref 82), (1, .int (nI q)), (2, .int (nI p)), (3, .int ((nI i) + 1))]) rfl rfl ?_
        rw [show ((nI i) + 1) = nI (i + 1) from nI_add i 1]
        refine WX.s1 rfl rfl ?_
        refine ih (i + 1) (by omega) (fun j hj => ?_)
        by_cases z : j = i
        · rw [z]; exact (sb_eqI (hD _ (by omega)).1 (hD _ (by omega)).1).mp (Classical.not_not.mp c_28)
        · exact hEq j (by omega)
  exact lp (e - p) 0 (by omega) (fun j hj => absurd hj (Nat.not_lt_zero j))
def wy (way : Nat) : Nat := if way = 3 then 2 else way
theorem mBet0 {b l : Nat} : mBet (wy 0) b l ↔ b = 0 := by simp [mBet, wy]
theorem mBet1 {b l : Nat} : mBet (wy 1) b l ↔ (b = 0 ∨ b < 8 ∧ 7 < l) := by simp [mBet, wy]
theorem mBet2 {b l : Nat} : mBet (wy 2) b l ↔ b < l := by simp [mBet, wy]
theorem mBet3 {b l : Nat} : mBet (wy 3) b l ↔ b < l := by simp [mBet, wy]
theorem wy_le {way : Nat} (h : way ≤ 3) : wy way ≤ 2 := by unfold wy; by_cases z : way = 3; (rw [if_pos z]; exact Nat.le_refl _); (rw [if_neg z]; omega)
theorem way4 {way : Nat} (h : way ≤ 3) : way = 0 ∨ way = 1 ∨ way = 2 ∨ way = 3 := by omega
set_option maxRecDepth 20000 in
theorem x_better {d n s : Nat} {h : Nat → aE} {fu fl fwi fe fdi fap fal fad : Int32} {way b l : Nat} (hn : 190 ≤ n) (hw : way ≤ 3) (hb : b ≤ 16000) (hl : l ≤ 16000) (hb0 : way = 0 → b = 0) (hb8 : way = 1 → b < 8) (hl0 : 0 < l) (F_h_82 : h 82 = .inr (3, [.ref 83, .int fu, .ref 84, .ref 85, .int (nI way), .int fl, .int fwi, .int fe, .int (nI b), .int fdi, .int fap, .int fal, .int fad]))  {Ψ : Option Value → aH → Prop} (k0 : ¬ mBet (wy way) b l → Ψ (some (.int 0)) (n, s, h)) (k1 : mBet (wy way) b l → Ψ (some (.int 1)) (n, s, h)) : WO (mM (d + 1)) 43 [.ref 82, .int (nI l)] (n, s, h) Ψ := by
  refine WO.of (Nat.le_of_ble_eq_true rfl) ?_
  show WX (lk tX3_better) (mM d) Ψ 0 [(0, .ref 82), (1, .int (nI l))] [] (n, s, h)
  refine WX.s1 rfl rfl ?_
  refine WX.get1 (fs := [.ref 83, .int fu, .ref 84, .ref 85, .int (nI way), .int fl, .int fwi, .int fe, .int (nI b), .int fdi, .int fap, .int fal, .int fad]) rfl (ltN hn (by decide)) (F_h_82) rfl ?_
  refine WX.s1 rfl rfl ?_
  refine WX.icmp rfl (fun c_5 => ?_) (fun c_5 => ?_)
  · skip
    have n_5 : ¬ way = 1 := fun z => c_5 ((nI_eq (a := way) (b := 1) (by omega) (by omega)).mpr z)
    refine WX.s1 rfl rfl ?_
    refine WX.s1 rfl rfl ?_
    refine WX.get1 (fs := [.ref 83, .int fu, .ref 84, .ref 85, .int (nI way), .int fl, .int fwi, .int fe, .int (nI b), .int fdi, .int fap, .int fal, .int fad]) rfl (ltN hn (by decide)) (F_h_82) rfl ?_
    refine WX.icmp rfl (fun c_34 => ?_) (fun c_34 => ?_)
    · skip
      have n_34 : l ≤ b := (nI_leI (a := l) (b := b) (by omega) (by omega)).mp c_34
      refine WX.s1 rfl rfl ?_
      refine WX.ret3 rfl (Or.inl rfl) (k0 ?_)
      rcases way4 hw with rfl | rfl | rfl | rfl
      · rw [mBet0]; omega
      · rw [mBet1]; omega
      · rw [mBet2]; omega
      · rw [mBet3]; omega
    · skip
      have n_34 : b < l := Nat.lt_of_not_le (fun z => c_34 ((nI_leI (a := l) (b := b) (by omega) (by omega)).mpr z))
      refine WX.s1 rfl rfl ?_
      refine WX.s1 rfl rfl ?_
      refine WX.ret3 rfl (Or.inr rfl) (k1 ?_)
      rcases way4 hw with rfl | rfl | rfl | rfl
      · rw [mBet0]; omega
      · rw [mBet1]; omega
      · rw [mBet2]; omega
      · rw [mBet3]; omega
  · skip
    have n_5 : way = 1 := (nI_eq (a := way) (b := 1) (by omega) (by omega)).mp (Classical.not_not.mp c_5)
    refine WX.s1 rfl rfl ?_
    refine WX.get1 (fs := [.ref 83, .int fu, .ref 84, .ref 85, .int (nI way), .int fl, .int fwi, .int fe, .int (nI b), .int fdi, .int fap, .int fal, .int fad]) rfl (ltN hn (by decide)) (F_h_82) rfl ?_
    refine WX.if_ rfl (fun c_12 => ?_) (fun c_12 => ?_)
    · skip
      have n_12 : b = 0 := (nI_eq (a := b) (b := 0) (by omega) (by omega)).mp c_12
      refine WX.s1 rfl rfl ?_
      refine WX.s1 rfl rfl ?_
      refine WX.ret3 rfl (Or.inr rfl) (k1 ?_)
      rcases way4 hw with rfl | rfl | rfl | rfl
      · rw [mBet0]; omega
      · rw [mBet1]; omega
      · rw [mBet2]; omega
      · rw [mBet3]; omega
    · skip
      have n_12 : ¬ b = 0 := fun z => c_12 ((nI_eq (a := b) (b := 0) (by omega) (by omega)).mpr z)
      refine WX.s1 rfl rfl ?_
      refine WX.s1 rfl rfl ?_
      refine WX.icmp rfl (fun c_18 => ?_) (fun c_18 => ?_)
      · skip
        have n_18 : l < 8 := (nI_ltI (a := l) (b := 8) (by omega) (by omega)).mp c_18
        refine WX.s1 rfl rfl ?_
        refine WX.s1 rfl rfl ?_
        refine WX.ret3 rfl (Or.inl rfl) (k0 ?_)
        rcases way4 hw with rfl | rfl | rfl | rfl
        · rw [mBet0]; omega
        · rw [mBet1]; omega
        · rw [mBet2]; omega
        · rw [mBet3]; omega
      · skip
        have n_18 : 8 ≤ l := Nat.le_of_not_lt (fun z => c_18 ((nI_ltI (a := l) (b := 8) (by omega) (by omega)).mpr z))
        refine WX.s1 rfl rfl ?_
        refine WX.s1 rfl rfl ?_
        refine WX.ret3 rfl (Or.inr rfl) (k1 ?_)
        rcases way4 hw with rfl | rfl | rfl | rfl
        · rw [mBet0]; omega
        · rw [mBet1]; omega
        · rw [mBet2]; omega
        · rw [mBet3]; omega
set_option maxRecDepth 20000 in
theorem x_enough {d n s : Nat} {h : Nat → aE} {fu fl fwi fle fdi fap fal fad : Int32} {way l p e : Nat} (hn : 190 ≤ n) (hw : way ≤ 3) (hl : l ≤ 16000) (hp : p ≤ 16000) (he : e ≤ 16000) (hl0 : 0 < l) (hle : p + l ≤ e) (F_h_82 : h 82 = .inr (3, [.ref 83, .int fu, .ref 84, .ref 85, .int (nI way), .int fl, .int fwi, .int (nI e), .int fle, .int fdi, .int fap, .int fal, .int fad]))  {Ψ : Option Value → aH → Prop} (k0 : (way = 0 → False) → (way = 1 → l < 8) → p + l < e → Ψ (some (.int 0)) (n, s, h)) (k1 : mFix (wy way) (e - p) l → Ψ (some (.int 1)) (n, s, h)) : WO (mM (d + 1)) 44 [.ref 82, .int (nI l), .int (nI p)] (n, s, h) Ψ := by
  refine WO.of (Nat.le_of_ble_eq_true rfl) ?_
  show WX (lk tX3_enough) (mM d) Ψ 0 [(0, .ref 82), (1, .int (nI l)), (2, .int (nI p))] [] (n, s, h)
  refine WX.s1 rfl rfl ?_
  refine WX.get1 (fs := [.ref 83, .int fu, .ref 84, .ref 85, .int (nI way), .int fl, .int fwi, .int (nI e), .int fle, .int fdi, .int fap, .int fal, .int fad]) rfl (ltN hn (by decide)) (F_h_82) rfl ?_
  refine WX.if_ rfl (fun c_4 => ?_) (fun c_4 => ?_)
  · skip
    have n_4 : way = 0 := (nI_eq (a := way) (b := 0) (by omega) (by omega)).mp c_4
    refine WX.s1 rfl rfl ?_
    refine WX.s1 rfl rfl ?_
    refine WX.ret3 rfl (Or.inr rfl) (k1 ⟨by omega, ?_⟩)
    rcases way4 hw with rfl | rfl | rfl | rfl <;> simp only [wy] <;> simp <;> omega
  · skip
    have n_4 : ¬ way = 0 := fun z => c_4 ((nI_eq (a := way) (b := 0) (by omega) (by omega)).mpr z)
    refine WX.s1 rfl rfl ?_
    refine WX.get1 (fs := [.ref 83, .int fu, .ref 84, .ref 85, .int (nI way), .int fl, .int fwi, .int (nI e), .int fle, .int fdi, .int fap, .int fal, .int fad]) rfl (ltN hn (by decide)) (F_h_82) rfl ?_
    refine WX.s1 rfl rfl ?_
    refine WX.icmp rfl (fun c_12 => ?_) (fun c_12 => ?_)
    · skip
      have n_12 : ¬ way = 1 := fun z => c_12 ((nI_eq (a := way) (b := 1) (by omega) (by omega)).mpr z)
      refine WX.s1 rfl rfl ?_
      refine WX.s1 rfl rfl ?_
      refine WX.s1 (S' := [.int ((nI p) + (nI l))]) rfl rfl ?_
      rw [show ((nI p) + (nI l)) = nI (p + l) from nI_add p l]
      refine WX.s1 rfl rfl ?_
      refine WX.get1 (fs := [.ref 83, .int fu, .ref 84, .ref 85, .int (nI way), .int fl, .int fwi, .int (nI e), .int fle, .int fdi, .int fap, .int fal, .int fad]) rfl (ltN hn (by decide)) (F_h_82) rfl ?_
      refine WX.icmp rfl (fun c_28 => ?_) (fun c_28 => ?_)
      · skip
        have n_28 : (p + l) < e := (nI_ltI (a := p + l) (b := e) (by omega) (by omega)).mp c_28
        refine WX.s1 rfl rfl ?_
        exact WX.ret3 rfl (Or.inl rfl) (k0 (fun z => by omega) (fun z => by omega) (by omega))
      · skip
        have n_28 : e ≤ (p + l) := Nat.le_of_not_lt (fun z => c_28 ((nI_ltI (a := p + l) (b := e) (by omega) (by omega)).mpr z))
        refine WX.s1 rfl rfl ?_
        refine WX.s1 rfl rfl ?_
        refine WX.ret3 rfl (Or.inr rfl) (k1 ⟨by omega, ?_⟩)
        rcases way4 hw with rfl | rfl | rfl | rfl <;> simp only [wy] <;> simp <;> omega
    · skip
      have n_12 : way = 1 := (nI_eq (a := way) (b := 1) (by omega) (by omega)).mp (Classical.not_not.mp c_12)
      refine WX.s1 rfl rfl ?_
      refine WX.s1 rfl rfl ?_
      refine WX.icmp rfl (fun c_18 => ?_) (fun c_18 => ?_)
      · skip
        have n_18 : 8 ≤ l := (nI_leI (a := 8) (b := l) (by omega) (by omega)).mp c_18
        refine WX.s1 rfl rfl ?_
        refine WX.s1 rfl rfl ?_
        refine WX.ret3 rfl (Or.inr rfl) (k1 ⟨by omega, ?_⟩)
        rcases way4 hw with rfl | rfl | rfl | rfl <;> simp only [wy] <;> simp <;> omega
      · skip
        have n_18 : l < 8 := Nat.lt_of_not_le (fun z => c_18 ((nI_leI (a := 8) (b := l) (by omega) (by omega)).mpr z))
        refine WX.s1 rfl rfl ?_
        refine WX.s1 rfl rfl ?_
        refine WX.s1 (S' := [.int ((nI p) + (nI l))]) rfl rfl ?_
        rw [show ((nI p) + (nI l)) = nI (p + l) from nI_add p l]
        refine WX.s1 rfl rfl ?_
        refine WX.get1 (fs := [.ref 83, .int fu, .ref 84, .ref 85, .int (nI way), .int fl, .int fwi, .int (nI e), .int fle, .int fdi, .int fap, .int fal, .int fad]) rfl (ltN hn (by decide)) (F_h_82) rfl ?_
        refine WX.icmp rfl (fun c_28 => ?_) (fun c_28 => ?_)
        · skip
          have n_28 : (p + l) < e := (nI_ltI (a := p + l) (b := e) (by omega) (by omega)).mp c_28
          refine WX.s1 rfl rfl ?_
          exact WX.ret3 rfl (Or.inl rfl) (k0 (fun z => by omega) (fun z => by omega) (by omega))
        · skip
          have n_28 : e ≤ (p + l) := Nat.le_of_not_lt (fun z => c_28 ((nI_ltI (a := p + l) (b := e) (by omega) (by omega)).mpr z))
          refine WX.s1 rfl rfl ?_
          refine WX.s1 rfl rfl ?_
          refine WX.ret3 rfl (Or.inr rfl) (k1 ⟨by omega, ?_⟩)
          rcases way4 hw with rfl | rfl | rfl | rfl <;> simp only [wy] <;> simp <;> omega
