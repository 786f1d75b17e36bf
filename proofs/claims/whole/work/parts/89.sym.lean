/-! symbols of the three numbers: the tables of the class, the reference's tellAll -/
def sySt (B : Nat → Nat) (v : Nat) : Nat → Nat → Nat
  | 0, i => i
  | t + 1, i => if B (i + 1) ≤ v then sySt B v t (i + 1) else i
theorem sySt_is {B : Nat → Nat} {NB v : Nat} : ∀ (t i : Nat), i + t + 1 = NB → (∀ j, 1 ≤ j → j ≤ i → B j ≤ v) → IsSy B NB v (sySt B v t i) := by
  intro t
  induction t with
  | zero => intro i h1 h2; exact ⟨by show i < NB; omega, h2, fun z => absurd z (by show ¬ i + 1 < NB; omega)⟩
  | succ t ih =>
    intro i h1 h2
    unfold sySt
    by_cases q : B (i + 1) ≤ v
    · rw [if_pos q]
      refine ih (i + 1) (by omega) (fun j a b => ?_)
      by_cases z : j = i + 1
      · rw [z]; exact q
      · exact h2 j a (by omega)
    · rw [if_neg q]
      exact ⟨by omega, h2, fun _ => by omega⟩
def tabN (j i : Nat) : Nat := ((sTab.getD j []).getD i 0).toNatClampNeg
def B1 : Nat → Nat := tabN 3
def B2 : Nat → Nat := tabN 5
def B3 : Nat → Nat := tabN 7
def wd1 : Nat → Nat := tabN 4
def wd2 : Nat → Nat := tabN 6
def wd3 : Nat → Nat := tabN 8
def sy1 (v : Nat) : Nat := sySt B1 v 35 0
def sy2 (v : Nat) : Nat := sySt B2 v 16 0
def sy3 (v : Nat) : Nat := sySt B3 v 52 0
theorem sy1_is (v : Nat) : IsSy B1 36 v (sy1 v) := sySt_is 35 0 rfl (fun j a b => absurd a (by omega))
theorem sy2_is (v : Nat) : IsSy B2 17 v (sy2 v) := sySt_is 16 0 rfl (fun j a b => absurd a (by omega))
theorem sy3_is (v : Nat) : IsSy B3 53 v (sy3 v) := sySt_is 52 0 rfl (fun j a b => absurd a (by omega))
theorem tab_ok (xs : Nat → Int32) {j N : Nat} (hj : j ≠ 9) (h : (List.range N).all (fun i => decide ((sTab.getD j []).getD i 0 = nI (tabN j i)) && decide (tabN j i < 2 ^ 31)) = true) : ∀ i, i < N → sVal xs j i = nI (tabN j i) ∧ tabN j i < 2 ^ 31 := by
  intro i hi
  have q := List.all_eq_true.mp h i (List.mem_range.mpr hi)
  rw [Bool.and_eq_true, decide_eq_true_eq, decide_eq_true_eq] at q
  refine ⟨?_, q.2⟩
  unfold sVal
  rw [if_neg hj]
  exact q.1
theorem wd_le {j N : Nat} (hN : (sTab.getD j []).length = N) (h : (List.range N).all (fun i => decide (tabN j i ≤ 16)) = true) : ∀ i, tabN j i ≤ 16 := by
  intro i
  rcases Nat.lt_or_ge i N with z | z
  · have q := List.all_eq_true.mp h i (List.mem_range.mpr z)
    rw [decide_eq_true_eq] at q
    exact q
  · unfold tabN
    rw [List.getD_eq_getElem?_getD, List.getElem?_eq_none (by omega)]
    decide
theorem colP_of {h : Nat → aE} {xs : Nat → Int32} {j k l NB NW : Nat} {sy : Nat → Nat} (h1 : h (aBig + j) = .inl (1, NB, .inl (sVal xs j))) (h2 : h (aBig + k) = .inl (1, NW, .inl (sVal xs k))) (hj : j < 9) (hk : k < 9) (a1 : (List.range NB).all (fun i => decide ((sTab.getD j []).getD i 0 = nI (tabN j i)) && decide (tabN j i < 2 ^ 31)) = true) (a2 : (List.range NW).all (fun i => decide ((sTab.getD k []).getD i 0 = nI (tabN k i)) && decide (tabN k i < 2 ^ 31)) = true) (a3 : ∀ i, tabN k i ≤ 16) (hs : ∀ v, IsSy (tabN j) NB v (sy v)) (hl : NB ≤ l + 1) (hw : NB ≤ NW) (hb : NW ≤ 1000) (hl2 : l < 1000) : ColP h j k l NB NW (tabN j) sy (tabN k) := ⟨_, _, h1, h2, tab_ok xs (by omega) a1, fun i hi => (tab_ok xs (by omega) a2 i hi).1, fun v _ => ⟨hs v, by have := (hs v).1; omega, by have := (hs v).1; omega⟩, by omega, by omega, hl2, a3, by omega, by omega⟩
theorem colP1 {h : Nat → aE} {xs : Nat → Int32} (h1 : h (aBig + 3) = .inl (1, 36, .inl (sVal xs 3))) (h2 : h (aBig + 4) = .inl (1, 36, .inl (sVal xs 4))) : ColP h 3 4 35 36 36 B1 sy1 wd1 := colP_of h1 h2 (by decide) (by decide) (by decide +kernel) (by decide +kernel) (wd_le (N := 36) rfl (by decide +kernel)) sy1_is (by decide) (by decide) (by decide) (by decide)
theorem colP2 {h : Nat → aE} {xs : Nat → Int32} (h1 : h (aBig + 5) = .inl (1, 17, .inl (sVal xs 5))) (h2 : h (aBig + 6) = .inl (1, 17, .inl (sVal xs 6))) : ColP h 5 6 31 17 17 B2 sy2 wd2 := colP_of h1 h2 (by decide) (by decide) (by decide +kernel) (by decide +kernel) (wd_le (N := 17) rfl (by decide +kernel)) sy2_is (by decide) (by decide) (by decide) (by decide)
theorem colP3 {h : Nat → aE} {xs : Nat → Int32} (h1 : h (aBig + 7) = .inl (1, 53, .inl (sVal xs 7))) (h2 : h (aBig + 8) = .inl (1, 53, .inl (sVal xs 8))) : ColP h 7 8 52 53 53 B3 sy3 wd3 := colP_of h1 h2 (by decide) (by decide) (by decide +kernel) (by decide +kernel) (wd_le (N := 53) rfl (by decide +kernel)) sy3_is (by decide) (by decide) (by decide) (by decide)
theorem B1_step : ∀ s, s < 35 → B1 (s + 1) = B1 s + 2 ^ wd1 s := by decide +kernel
theorem B3_step : ∀ s, s < 52 → B3 (s + 1) = B3 s + 2 ^ wd3 s := by decide +kernel
theorem B2_pow : ∀ s, s < 17 → B2 s = 2 ^ s ∧ wd2 s = s := by decide +kernel
def lbitsI (s : Int32) : Int32 := if s < 16 then 0 else if s < 20 then 1 else if s < 22 then 2 else if s < 24 then 3 else if s = 24 then 4 else s - 19
def mbitsI (s : Int32) : Int32 := if s < 32 then 0 else if s < 36 then 1 else if s < 38 then 2 else if s < 40 then 3 else if s < 42 then 4 else if s = 42 then 5 else s - 36
theorem lbits_is : ∀ s, s < 36 → lbitsI (nI s) = nI (wd1 s) := by decide +kernel
theorem mbits_is : ∀ s, s < 53 → mbitsI (nI s) = nI (wd3 s) := by decide +kernel
theorem sh1 : ∀ g, g < 31 → (1 : Int32) <<< (nI g &&& 31) = nI (2 ^ g) := by decide +kernel
set_option maxRecDepth 20000 in
theorem m_lb {d n s : Nat} {h : Nat → aE} {x : Int32}     {Ψ : Option Value → aH → Prop} (kk : Ψ (some (.int (lbitsI x))) (n, s, h)) : WO (mM (d + 1)) 159 [.int x] (n, s, h) Ψ := by
  refine WO.of (Nat.le_of_ble_eq_true rfl) ?_
  show WX (lk tX12_literalBits) (mM d) Ψ 0 [(0, .int x)] [] (n, s, h)
  refine WX.s1 rfl rfl ?_
  refine WX.s1 rfl rfl ?_
  refine WX.icmp rfl (fun c_3 => ?_) (fun c_3 => ?_)
  · skip
    refine WX.s1 rfl rfl ?_
    refine WX.s1 rfl rfl ?_
    refine WX.icmp rfl (fun c_13 => ?_) (fun c_13 => ?_)
    · skip
      refine WX.s1 rfl rfl ?_
      refine WX.s1 rfl rfl ?_
      refine WX.icmp rfl (fun c_23 => ?_) (fun c_23 => ?_)
      · skip
        refine WX.s1 rfl rfl ?_
        refine WX.s1 rfl rfl ?_
        refine WX.icmp rfl (fun c_33 => ?_) (fun c_33 => ?_)
        · skip
          refine WX.s1 rfl rfl ?_
          refine WX.s1 rfl rfl ?_
          refine WX.icmp rfl (fun c_43 => ?_) (fun c_43 => ?_)
          · skip
            refine WX.s1 rfl rfl ?_
            refine WX.s1 rfl rfl ?_
            refine WX.s1 (S' := [.int (x - 19)]) rfl rfl ?_
            refine WX.ret1 rfl ?_
            unfold lbitsI at kk
            rw [if_neg (Int32.not_lt.mpr c_3), if_neg (Int32.not_lt.mpr c_13), if_neg (Int32.not_lt.mpr c_23), if_neg (Int32.not_lt.mpr c_33), if_neg c_43] at kk
            exact kk
          · skip
            refine WX.s1 rfl rfl ?_
            refine WX.s1 rfl rfl ?_
            refine WX.ret1 rfl ?_
            unfold lbitsI at kk
            rw [if_neg (Int32.not_lt.mpr c_3), if_neg (Int32.not_lt.mpr c_13), if_neg (Int32.not_lt.mpr c_23), if_neg (Int32.not_lt.mpr c_33), if_pos (Classical.not_not.mp c_43)] at kk
            exact kk
        · skip
          refine WX.s1 rfl rfl ?_
          refine WX.s1 rfl rfl ?_
          refine WX.ret1 rfl ?_
          unfold lbitsI at kk
          rw [if_neg (Int32.not_lt.mpr c_3), if_neg (Int32.not_lt.mpr c_13), if_neg (Int32.not_lt.mpr c_23), if_pos (Int32.not_le.mp c_33)] at kk
          exact kk
      · skip
        refine WX.s1 rfl rfl ?_
        refine WX.s1 rfl rfl ?_
        refine WX.ret1 rfl ?_
        unfold lbitsI at kk
        rw [if_neg (Int32.not_lt.mpr c_3), if_neg (Int32.not_lt.mpr c_13), if_pos (Int32.not_le.mp c_23)] at kk
        exact kk
    · skip
      refine WX.s1 rfl rfl ?_
      refine WX.s1 rfl rfl ?_
      refine WX.ret1 rfl ?_
      unfold lbitsI at kk
      rw [if_neg (Int32.not_lt.mpr c_3), if_pos (Int32.not_le.mp c_13)] at kk
      exact kk
  · skip
    refine WX.s1 rfl rfl ?_
    refine WX.s1 rfl rfl ?_
    refine WX.ret1 rfl ?_
    unfold lbitsI at kk
    rw [if_pos (Int32.not_le.mp c_3)] at kk
    exact kk
set_option maxRecDepth 20000 in
theorem m_mb {d n s : Nat} {h : Nat → aE} {x : Int32}     {Ψ : Option Value → aH → Prop} (kk : Ψ (some (.int (mbitsI x))) (n, s, h)) : WO (mM (d + 1)) 160 [.int x] (n, s, h) Ψ := by
  refine WO.of (Nat.le_of_ble_eq_true rfl) ?_
  show WX (lk tX12_matchBits) (mM d) Ψ 0 [(0, .int x)] [] (n, s, h)
  refine WX.s1 rfl rfl ?_
  refine WX.s1 rfl rfl ?_
  refine WX.icmp rfl (fun c_3 => ?_) (fun c_3 => ?_)
  · skip
    refine WX.s1 rfl rfl ?_
    refine WX.s1 rfl rfl ?_
    refine WX.icmp rfl (fun c_13 => ?_) (fun c_13 => ?_)
    · skip
      refine WX.s1 rfl rfl ?_
      refine WX.s1 rfl rfl ?_
      refine WX.icmp rfl (fun c_23 => ?_) (fun c_23 => ?_)
      · skip
        refine WX.s1 rfl rfl ?_
        refine WX.s1 rfl rfl ?_
        refine WX.icmp rfl (fun c_33 => ?_) (fun c_33 => ?_)
        · skip
          refine WX.s1 rfl rfl ?_
          refine WX.s1 rfl rfl ?_
          refine WX.icmp rfl (fun c_43 => ?_) (fun c_43 => ?_)
          · skip
            refine WX.s1 rfl rfl ?_
            refine WX.s1 rfl rfl ?_
            refine WX.icmp rfl (fun c_53 => ?_) (fun c_53 => ?_)
            · skip
              refine WX.s1 rfl rfl ?_
              refine WX.s1 rfl rfl ?_
              refine WX.s1 (S' := [.int (x - 36)]) rfl rfl ?_
              refine WX.ret1 rfl ?_
              unfold mbitsI at kk
              rw [if_neg (Int32.not_lt.mpr c_3), if_neg (Int32.not_lt.mpr c_13), if_neg (Int32.not_lt.mpr c_23), if_neg (Int32.not_lt.mpr c_33), if_neg (Int32.not_lt.mpr c_43), if_neg c_53] at kk
              exact kk
            · skip
              refine WX.s1 rfl rfl ?_
              refine WX.s1 rfl rfl ?_
              refine WX.ret1 rfl ?_
              unfold mbitsI at kk
              rw [if_neg (Int32.not_lt.mpr c_3), if_neg (Int32.not_lt.mpr c_13), if_neg (Int32.not_lt.mpr c_23), if_neg (Int32.not_lt.mpr c_33), if_neg (Int32.not_lt.mpr c_43), if_pos (Classical.not_not.mp c_53)] at kk
              exact kk
          · skip
            refine WX.s1 rfl rfl ?_
            refine WX.s1 rfl rfl ?_
            refine WX.ret1 rfl ?_
            unfold mbitsI at kk
            rw [if_neg (Int32.not_lt.mpr c_3), if_neg (Int32.not_lt.mpr c_13), if_neg (Int32.not_lt.mpr c_23), if_neg (Int32.not_lt.mpr c_33), if_pos (Int32.not_le.mp c_43)] at kk
            exact kk
        · skip
          refine WX.s1 rfl rfl ?_
          refine WX.s1 rfl rfl ?_
          refine WX.ret1 rfl ?_
          unfold mbitsI at kk
          rw [if_neg (Int32.not_lt.mpr c_3), if_neg (Int32.not_lt.mpr c_13), if_neg (Int32.not_lt.mpr c_23), if_pos (Int32.not_le.mp c_33)] at kk
          exact kk
      · skip
        refine WX.s1 rfl rfl ?_
        refine WX.s1 rfl rfl ?_
        refine WX.ret1 rfl ?_
        unfold mbitsI at kk
        rw [if_neg (Int32.not_lt.mpr c_3), if_neg (Int32.not_lt.mpr c_13), if_pos (Int32.not_le.mp c_23)] at kk
        exact kk
    · skip
      refine WX.s1 rfl rfl ?_
      refine WX.s1 rfl rfl ?_
      refine WX.ret1 rfl ?_
      unfold mbitsI at kk
      rw [if_neg (Int32.not_lt.mpr c_3), if_pos (Int32.not_le.mp c_13)] at kk
      exact kk
  · skip
    refine WX.s1 rfl rfl ?_
    refine WX.s1 rfl rfl ?_
    refine WX.ret1 rfl ?_
    unfold mbitsI at kk
    rw [if_pos (Int32.not_le.mp c_3)] at kk
    exact kk
set_option maxRecDepth 20000 in
theorem m_log {d n s : Nat} {h : Nat → aE} {v : Nat}  (hv1 : 1 ≤ v) (hv : v < 2 ^ 31)   {Ψ : Option Value → aH → Prop} (kk : ∀ k, 2 ^ k ≤ v → v < 2 ^ (k + 1) → Ψ (some (.int (nI k))) (n, s, h)) : WO (mM (d + 1)) 158 [.int (nI v)] (n, s, h) Ψ := by
  refine WO.of (Nat.le_of_ble_eq_true rfl) ?_
  show WX (lk tX12_log) (mM d) Ψ 0 [(0, .int (nI v))] [] (n, s, h)
  refine WX.s1 rfl rfl ?_
  refine WX.s1 (L' := [(0, .int (nI v)), (1, .int 0)]) rfl rfl ?_
  have lp : ∀ (t k : Nat), v / 2 ^ k ≤ t → 1 ≤ v / 2 ^ k → k ≤ 31 → WX (lk tX12_log) (mM d) Ψ 2 [(0, .int (nI v)), (1, .int (nI k))] [] (n, s, h) := by
    intro t
    induction t with
    | zero => intro k q1 q2; omega
    | succ t ih =>
      intro k q1 q2 q3
      have hlt : v / 2 ^ k < 2 ^ 31 := Nat.lt_of_le_of_lt (Nat.div_le_self _ _) hv
      have hp : 0 < 2 ^ k := Nat.pow_pos (by decide)
      have hk : k < 31 := by
        rcases Nat.lt_or_ge k 31 with z | z
        · exact z
        · exfalso; have : v / 2 ^ k = 0 := Nat.div_eq_of_lt (Nat.lt_of_lt_of_le hv (Nat.pow_le_pow_right (by decide) z)); omega
      refine WX.s1 rfl rfl ?_
      refine WX.s1 rfl rfl ?_
      refine WX.s1 (S' := [.int ((nI v) >>> ((nI k) &&& 31))]) rfl rfl ?_
      rw [pk_shrN hv _ k (sm31 k (by omega))]
      refine WX.s1 rfl rfl ?_
      refine WX.icmp rfl (fun c_6 => ?_) (fun c_6 => ?_)
      · skip
        have n_6 : (v / 2 ^ k) ≤ 1 := (nI_leI (a := v / 2 ^ k) (b := 1) (by omega) (by omega)).mp c_6
        refine WX.s1 rfl rfl ?_
        have c3 : v / 2 ^ k = 1 := by omega
        refine WX.ret1 rfl (kk k ?_ ?_)
        · have := Nat.div_mul_le_self v (2 ^ k); rw [c3] at this; omega
        · rw [Nat.pow_succ]; have := Nat.lt_div_mul_add (a := v) hp; rw [c3] at this; omega
      · skip
        have n_6 : 1 < (v / 2 ^ k) := Nat.lt_of_not_le (fun zz_ => c_6 ((nI_leI (a := v / 2 ^ k) (b := 1) (by omega) (by omega)).mpr zz_))
        refine WX.s1 (L' := [(0, .int (nI v)), (1, .int ((nI k) + 1))]) rfl rfl ?_
        rw [show ((nI k) + 1) = nI (k + 1) from nI_add k 1]
        refine WX.s1 rfl rfl ?_
        have e2 : v / 2 ^ (k + 1) = v / 2 ^ k / 2 := by rw [Nat.pow_succ, Nat.div_div_eq_div_mul]
        exact ih (k + 1) (by rw [e2]; omega) (by rw [e2]; omega) (by omega)
  exact lp v 0 (by rw [Nat.pow_zero, Nat.div_one]; exact Nat.le_refl _) (by rw [Nat.pow_zero, Nat.div_one]; exact hv1) (by decide)
set_option maxRecDepth 20000 in
theorem m_tell {d n s : Nat} {h : Nat → aE} {m : Nat} {I : Nat → Int32} {AR : Nat → Nat → Int32} {LN : Nat → Int64} {t i a b c : Nat} (hm : m + 43 < n) (M_h : MAt h m I AR LN) (ht : t ≤ 2) (hi : i ≤ 8000)  {Ψ : Option Value → aH → Prop} (kk : ∀ h' A', Fr h h' (inM m) → MAt h' m I A' LN → A' = upA (upA (upA AR 21 (8001 * t + i) (nI a)) 22 (8001 * t + i) (nI b)) 23 (8001 * t + i) (nI c) → Ψ none (n, s, h')) : WO (mM (d + 1)) 161 [.ref m, .int (nI t), .int (nI i), .int (nI a), .int (nI b), .int (nI c)] (n, s, h) Ψ := by
  refine WO.of (Nat.le_of_ble_eq_true rfl) ?_
  have FR_h : Fr h h (inM m) := Fr.rf
  have FI_I : Fi I I (fun f => f = 40) := Fi.rf
  show WX (lk tX12_tell) (mM d) Ψ 0 [(0, .ref m), (1, .int (nI t)), (2, .int (nI i)), (3, .int (nI a)), (4, .int (nI b)), (5, .int (nI c))] [] (n, s, h)
  refine WX.s1 rfl rfl ?_
  refine WX.mget rfl hm M_h rfl ?_
  refine WX.s1 rfl rfl ?_
  refine WX.s1 rfl rfl ?_
  refine WX.s1 (S' := [.int (8001 * (nI t)), .ref (m + 21)]) rfl rfl ?_
  rw [show (8001 * (nI t)) = nI (8001 * t) from (Int32.ofNat_mul 8001 t).symm]
  refine WX.s1 rfl rfl ?_
  refine WX.s1 (S' := [.int ((nI (8001 * t)) + (nI i)), .ref (m + 21)]) rfl rfl ?_
  rw [show ((nI (8001 * t)) + (nI i)) = nI (8001 * t + i) from nI_add (8001 * t) i]
  refine WX.s1 rfl rfl ?_
  refine WX.mast (c := 21) rfl hm M_h (by decide) (by decide) (by decide) (by decide) (vp_in_nI (N := 24003) (by omega) (by decide)) (fun h12n1 A12n1 e_A12n1 M_h12n1 frh12n1 => ?_)
  try dsimp only at e_A12n1
  have FR_h12n1 := FR_h.ztr frh12n1
  clear M_h FR_h frh12n1
  refine WX.s1 rfl rfl ?_
  refine WX.mget rfl hm M_h12n1 rfl ?_
  refine WX.s1 rfl rfl ?_
  refine WX.s1 rfl rfl ?_
  refine WX.s1 (S' := [.int (8001 * (nI t)), .ref (m + 22)]) rfl rfl ?_
  rw [show (8001 * (nI t)) = nI (8001 * t) from (Int32.ofNat_mul 8001 t).symm]
  refine WX.s1 rfl rfl ?_
  refine WX.s1 (S' := [.int ((nI (8001 * t)) + (nI i)), .ref (m + 22)]) rfl rfl ?_
  rw [show ((nI (8001 * t)) + (nI i)) = nI (8001 * t + i) from nI_add (8001 * t) i]
  refine WX.s1 rfl rfl ?_
  refine WX.mast (c := 22) rfl hm M_h12n1 (by decide) (by decide) (by decide) (by decide) (vp_in_nI (N := 24003) (by omega) (by decide)) (fun h26n2 A26n2 e_A26n2 M_h26n2 frh26n2 => ?_)
  try dsimp only at e_A26n2
  have FR_h26n2 := FR_h12n1.ztr frh26n2
  clear M_h12n1 FR_h12n1 frh26n2
  refine WX.s1 rfl rfl ?_
  refine WX.mget rfl hm M_h26n2 rfl ?_
  refine WX.s1 rfl rfl ?_
  refine WX.s1 rfl rfl ?_
  refine WX.s1 (S' := [.int (8001 * (nI t)), .ref (m + 23)]) rfl rfl ?_
  rw [show (8001 * (nI t)) = nI (8001 * t) from (Int32.ofNat_mul 8001 t).symm]
  refine WX.s1 rfl rfl ?_
  refine WX.s1 (S' := [.int ((nI (8001 * t)) + (nI i)), .ref (m + 23)]) rfl rfl ?_
  rw [show ((nI (8001 * t)) + (nI i)) = nI (8001 * t + i) from nI_add (8001 * t) i]
  refine WX.s1 rfl rfl ?_
  refine WX.mast (c := 23) rfl hm M_h26n2 (by decide) (by decide) (by decide) (by decide) (vp_in_nI (N := 24003) (by omega) (by decide)) (fun h40n3 A40n3 e_A40n3 M_h40n3 frh40n3 => ?_)
  try dsimp only at e_A40n3
  have FR_h40n3 := FR_h26n2.ztr frh40n3
  clear M_h26n2 FR_h26n2 frh40n3
  rw [nI_clamp (by omega)] at e_A12n1
  rw [nI_clamp (by omega)] at e_A26n2
  rw [nI_clamp (by omega)] at e_A40n3
  exact WX.ret0 rfl (kk h40n3 A40n3 FR_h40n3 M_h40n3 (by rw [e_A40n3, e_A26n2, e_A12n1]))
