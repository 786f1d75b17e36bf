/-! the reference: tellAll -/
def TellA (A : Nat → Nat → Int32) (t : Nat) (sy wd B : Nat → Nat) (vs : List Nat) : Prop := ∀ j, j < vs.length → A 21 (8001 * t + j) = nI (sy (vs.getD j 0)) ∧ A 22 (8001 * t + j) = nI (wd (sy (vs.getD j 0))) ∧ A 23 (8001 * t + j) = nI (vs.getD j 0 - B (sy (vs.getD j 0)))
theorem TellA.st {A A2 : Nat → Nat → Int32} {t v a b c : Nat} {sy wd B : Nat → Nat} {vs : List Nat} (h : TellA A t sy wd B vs) (e : A2 = upA (upA (upA A 21 (8001 * t + vs.length) (nI a)) 22 (8001 * t + vs.length) (nI b)) 23 (8001 * t + vs.length) (nI c)) (ha : a = sy v) (hb : b = wd (sy v)) (hc : c = v - B (sy v)) : TellA A2 t sy wd B (vs ++ [v]) := by
  intro j hj
  rw [List.length_append, List.length_singleton] at hj
  rw [getD_app, e]
  by_cases q : j = vs.length
  · subst q
    rw [if_pos rfl, ha, hb, hc]
    simp [upA, upd]
  · rw [if_neg q]
    have := h j (by omega)
    simp [upA, upd, q]
    exact this
theorem TellA.ot {A A2 : Nat → Nat → Int32} {t k x y z : Nat} {sy wd B : Nat → Nat} {vs : List Nat} (h : TellA A t sy wd B vs) (e : A2 = upA (upA (upA A 21 k (nI x)) 22 k (nI y)) 23 k (nI z)) (hk : ∀ j, j < vs.length → 8001 * t + j ≠ k) : TellA A2 t sy wd B vs := by
  intro j hj
  have := h j hj
  have hn := hk j hj
  rw [e]
  simp [upA, upd, hn]
  exact this
theorem TellA.same {A A2 : Nat → Nat → Int32} {t : Nat} {sy wd B : Nat → Nat} {vs : List Nat} (h : TellA A t sy wd B vs) (h1 : A2 21 = A 21) (h2 : A2 22 = A 22) (h3 : A2 23 = A 23) : TellA A2 t sy wd B vs := by
  intro j hj
  rw [h1, h2, h3]
  exact h j hj
def SqOk (qs : List Sq) : Prop := ∀ i, i < qs.length → (qs.getD i (0, 0, 0)).1 ≤ 16000 ∧ 3 ≤ (qs.getD i (0, 0, 0)).2.1 ∧ (qs.getD i (0, 0, 0)).2.1 ≤ 16000 ∧ 1 ≤ (qs.getD i (0, 0, 0)).2.2 ∧ (qs.getD i (0, 0, 0)).2.2 ≤ 16000
theorem take_snoc {qs : List Sq} {i : Nat} (h : i < qs.length) : qs.take (i + 1) = qs.take i ++ [qs.getD i (0, 0, 0)] := by
  rw [List.take_succ, List.getD_eq_getElem?_getD, List.getElem?_eq_getElem h]
  rfl
theorem B1_35 : B1 35 = 65536 := by decide +kernel
theorem B3_52 : B3 52 = 65539 := by decide +kernel
theorem B1_lt : ∀ s, s < 36 → B1 s ≤ 65536 := by decide +kernel
theorem B3_lt : ∀ s, s < 53 → B3 s ≤ 65539 := by decide +kernel
theorem B3_0 : B3 0 = 3 := by decide +kernel
theorem B1_0 : B1 0 = 0 := by decide +kernel
set_option maxRecDepth 20000 in
theorem m_tellAll {d n s : Nat} {h : Nat → aE} {m : Nat} {I : Nat → Int32} {AR : Nat → Nat → Int32} {LN : Nat → Int64} {qs : List Sq} {lt : Nat × Nat × Nat} (hm : m + 43 < n) (M_h : MAt h m I AR LN) (hSq : SeqM I AR qs) (hok : SqOk qs) (hq : qs.length ≤ 2667) (hla : LatM AR lt) (hlt : LatOk lt)  {Ψ : Option Value → aH → Prop} (kk : ∀ h' A', Fr h h' (inM m) → MAt h' m I A' LN → FaS AR A' (fun b => b = 11 ∨ b = 21 ∨ b = 22 ∨ b = 23) → TellA A' 0 sy1 wd1 B1 (seqV1 qs) → TellA A' 1 sy2 wd2 B2 (numF lt qs).1 → TellA A' 2 sy3 wd3 B3 (seqV3 qs) → LatM A' (numF lt qs).2 → LatOk (numF lt qs).2 → Ψ none (n, s, h')) : WO (mM (d + 2)) 162 [.ref m] (n, s, h) Ψ := by
  refine WO.of (Nat.le_of_ble_eq_true rfl) ?_
  have FR_h : Fr h h (inM m) := Fr.rf
  have FI_I : Fi I I (fun f => f = 40) := Fi.rf
  have K_I_31 : I 31 = nI qs.length := hSq.1
  show WX (lk tX12_tellAll) (mM (d + 1)) Ψ 0 [(0, .ref m)] [] (n, s, h)
  refine WX.s1 rfl rfl ?_
  refine WX.s1 (L' := [(0, .ref m), (1, .int 0)]) rfl rfl ?_
  have lp : ∀ (t i : Nat) (hL : Nat → aE) (AL : Nat → Nat → Int32), i + t = qs.length → Fr h hL (inM m) → MAt hL m I AL LN → FaS AR AL (fun b => b = 11 ∨ b = 21 ∨ b = 22 ∨ b = 23) → TellA AL 0 sy1 wd1 B1 (seqV1 (qs.take i)) → TellA AL 1 sy2 wd2 B2 (numF lt (qs.take i)).1 → TellA AL 2 sy3 wd3 B3 (seqV3 (qs.take i)) → LatM AL (numF lt (qs.take i)).2 → LatOk (numF lt (qs.take i)).2 → WX (lk tX12_tellAll) (mM (d + 1)) Ψ 2 [(0, .ref m), (1, .int (nI i))] [] (n, s, hL) := by
    clear M_h FR_h
    intro t
    induction t with
    | zero =>
      intro i hL AL ht FR_hL M_hL FA_AL T0 T1 T2 hla2 hlo
      obtain rfl : i = qs.length := by omega
      rw [List.take_length] at T0 T1 T2 hla2 hlo
      refine WX.s1 rfl rfl ?_
      refine WX.s1 rfl rfl ?_
      refine WX.mgetK (x := (nI qs.length)) rfl hm M_hL rfl K_I_31 ?_
      refine WX.icmp rfl (fun c_7 => ?_) (fun c_7 => absurd ((nI_leI (a := qs.length) (b := qs.length) (by omega) (by omega)).mpr (by omega)) c_7)
      clear c_7
      exact WX.ret0 rfl (kk hL AL FR_hL M_hL FA_AL T0 T1 T2 hla2 hlo)
    | succ t ih =>
      intro i hL AL ht FR_hL M_hL FA_AL T0 T1 T2 hla2 hlo
      obtain ⟨q1, q2, q3, q4, q5⟩ := hok i (by omega)
      obtain ⟨a17, a18, a19⟩ := hSq.2 i (by omega)
      have l0 : (qs.take i).length = i := by rw [List.length_take]; omega
      have l1 : (seqV1 (qs.take i)).length = i := by rw [← l0]; simp [seqV1]
      have l3 : (seqV3 (qs.take i)).length = i := by rw [← l0]; simp [seqV3]
      have l2 : (numF lt (qs.take i)).1.length = i := by rw [numF_len, l0]
      generalize eq : (qs.getD i (0, 0, 0)) = qi at q1 q2 q3 q4 q5 a17 a18 a19
      refine WX.s1 rfl rfl ?_
      refine WX.s1 rfl rfl ?_
      refine WX.mgetK (x := (nI qs.length)) rfl hm M_hL rfl K_I_31 ?_
      refine WX.icmp rfl (fun c_7 => absurd c_7 (fun zz_ => absurd ((nI_leI (a := qs.length) (b := i) (by omega) (by omega)).mp zz_) (Nat.not_le.mpr (by omega)))) (fun c_7 => ?_)
      clear c_7
      refine WX.s1 rfl rfl ?_
      refine WX.s1 (L' := [(0, .ref m), (1, .int (nI i)), (2, .int 0)]) rfl rfl ?_
      refine WX.s1 rfl rfl ?_
      refine WX.s1 (L' := [(0, .ref m), (1, .int (nI i)), (2, .int 0), (3, .int 0)]) rfl rfl ?_
      have hw1 : ∀ s, wd1 s ≤ 16 := wd_le (N := 36) rfl (by decide +kernel)
      have in14 : ∀ (tt s_ : Nat), s_ + tt = 34 → (∀ j, 1 ≤ j → j ≤ s_ → B1 j ≤ qi.1) → WX (lk tX12_tellAll) (mM (d + 1)) Ψ 14 [(0, .ref m), (1, .int (nI i)), (2, .int (nI s_)), (3, .int (nI (B1 s_)))] [] (n, s, hL) := by
        intro tt
        induction tt with
        | zero =>
          intro s_ ht2 hj2
          have hst := B1_step s_ (by omega)
          have hbl := B1_lt s_ (by omega)
          have hbl2 := B1_lt (s_ + 1) (by omega)
          exfalso
          have := hj2 s_ (by omega) (Nat.le_refl _)
          rw [show s_ = 34 by omega] at this
          have e9 : B1 34 = 32768 := by decide +kernel
          omega
        | succ tt ih2 =>
          intro s_ ht2 hj2
          have hst := B1_step s_ (by omega)
          have hbl := B1_lt s_ (by omega)
          have hbl2 := B1_lt (s_ + 1) (by omega)
          refine WX.s1 rfl rfl ?_
          refine WX.s1 rfl rfl ?_
          refine WX.s1 rfl rfl ?_
          refine WX.callC (vs := [.int (nI s_)]) rfl rfl rfl (Nat.le_of_ble_eq_true rfl) rfl ?_
          refine m_lb ?_
          rw [lbits_is s_ (by omega)]
          show WX _ _ _ 20 [(0, .ref m), (1, .int (nI i)), (2, .int (nI s_)), (3, .int (nI (B1 s_)))] [.int (nI (wd1 s_)), .int 1, .int (nI (B1 s_))] (n, s, hL)
          refine WX.s1 (S' := [.int (1 <<< ((nI (wd1 s_)) &&& 31)), .int (nI (B1 s_))]) rfl rfl ?_
          rw [sh1 _ (by have := hw1 s_; omega)]
          refine WX.s1 (S' := [.int ((nI (B1 s_)) + (nI (2 ^ wd1 s_)))]) rfl rfl ?_
          rw [show ((nI (B1 s_)) + (nI (2 ^ wd1 s_))) = nI (B1 s_ + 2 ^ wd1 s_) from nI_add (B1 s_) (2 ^ wd1 s_)]
          refine WX.s1 rfl rfl ?_
          refine WX.mget rfl hm M_hL rfl ?_
          refine WX.s1 rfl rfl ?_
          refine WX.mald (c := 17) rfl hm M_hL (by decide) (by decide) (by decide) (by decide) (vp_in_nI (N := 8001) (by omega) (by decide)) ?_
          rw [nI_clamp (by omega), FA_AL 17 (by decide), a17]
          refine WX.icmp rfl (fun c_28 => ?_) (fun c_28 => ?_)
          · skip
            have n_28 : qi.1 < (B1 s_ + 2 ^ wd1 s_) := (nI_ltI (a := qi.1) (b := B1 s_ + 2 ^ wd1 s_) (by omega) (by omega)).mp c_28
            obtain rfl : sy1 qi.1 = s_ := (sy1_is qi.1).uniq ⟨by omega, hj2, fun _ => by omega⟩
            refine WX.s1 rfl rfl ?_
            refine WX.s1 rfl rfl ?_
            refine WX.s1 rfl rfl ?_
            refine WX.s1 rfl rfl ?_
            refine WX.s1 rfl rfl ?_
            refine WX.callC (vs := [.int (nI (sy1 qi.1))]) rfl rfl rfl (Nat.le_of_ble_eq_true rfl) rfl ?_
            refine m_lb ?_
            rw [lbits_is (sy1 qi.1) (by omega)]
            show WX _ _ _ 54 [(0, .ref m), (1, .int (nI i)), (2, .int (nI (sy1 qi.1))), (3, .int (nI (B1 (sy1 qi.1))))] [.int (nI (wd1 (sy1 qi.1))), .int (nI (sy1 qi.1)), .int (nI i), .int 0, .ref m] (n, s, hL)
            refine WX.s1 rfl rfl ?_
            refine WX.mget rfl hm M_hL rfl ?_
            refine WX.s1 rfl rfl ?_
            refine WX.mald (c := 17) rfl hm M_hL (by decide) (by decide) (by decide) (by decide) (vp_in_nI (N := 8001) (by omega) (by decide)) ?_
            rw [nI_clamp (by omega), FA_AL 17 (by decide), a17]
            refine WX.s1 rfl rfl ?_
            refine WX.s1 (S' := [.int ((nI qi.1) - (nI (B1 (sy1 qi.1)))), .int (nI (wd1 (sy1 qi.1))), .int (nI (sy1 qi.1)), .int (nI i), .int 0, .ref m]) rfl rfl ?_
            rw [nI_subN (by have := (sy1_is qi.1).2.1 (sy1 qi.1); rcases Nat.eq_zero_or_pos (sy1 qi.1) with z | z; (rw [z, B1_0]; omega); exact this z (Nat.le_refl _))]
            refine WX.callC (vs := [.ref m, .int (nI 0), .int (nI i), .int (nI (sy1 qi.1)), .int (nI (wd1 (sy1 qi.1))), .int (nI (qi.1 - B1 (sy1 qi.1)))]) rfl rfl rfl (Nat.le_of_ble_eq_true rfl) (M_hL.rcv hm) ?_
            refine m_tell hm M_hL (by decide) (by omega) (fun h62n1 A62n1 fr62n1 M_h62n1 eA62n1 => ?_)
            have FR_h62n1 := FR_hL.ztr fr62n1
            have FA_A62n1 : FaS AR A62n1 (fun b => b = 11 ∨ b = 21 ∨ b = 22 ∨ b = 23) := fun b hb => by rw [eA62n1, upA_ne (fun z => hb (by rw [z]; decide)), upA_ne (fun z => hb (by rw [z]; decide)), upA_ne (fun z => hb (by rw [z]; decide))]; exact FA_AL b hb
            have U0 : TellA A62n1 0 sy1 wd1 B1 (seqV1 (qs.take i) ++ [qi.1]) := T0.st (by rw [l1]; exact eA62n1) rfl rfl rfl
            have U1 : TellA A62n1 1 sy2 wd2 B2 (numF lt (qs.take i)).1 := T1.ot eA62n1 (fun j hj => by omega)
            have U2 : TellA A62n1 2 sy3 wd3 B3 (seqV3 (qs.take i)) := T2.ot eA62n1 (fun j hj => by omega)
            have hlaU : LatM A62n1 (numF lt (qs.take i)).2 := by unfold LatM; rw [eA62n1, upA_ne (by decide), upA_ne (by decide), upA_ne (by decide)]; exact hla2
            show WX _ _ _ 65 [(0, .ref m), (1, .int (nI i)), (2, .int (nI (sy1 qi.1))), (3, .int (nI (B1 (sy1 qi.1))))] [] (n, s, h62n1)
            refine WX.s1 rfl rfl ?_
            refine WX.s1 (L' := [(0, .ref m), (1, .int (nI i)), (2, .int 0), (3, .int (nI (B1 (sy1 qi.1))))]) rfl rfl ?_
            refine WX.s1 rfl rfl ?_
            refine WX.s1 (L' := [(0, .ref m), (1, .int (nI i)), (2, .int 0), (3, .int 3)]) rfl rfl ?_
            have hw3 : ∀ s, wd3 s ≤ 16 := wd_le (N := 53) rfl (by decide +kernel)
            have in69 : ∀ (tt s_ : Nat), s_ + tt = 51 → (∀ j, 1 ≤ j → j ≤ s_ → B3 j ≤ qi.2.1) → WX (lk tX12_tellAll) (mM (d + 1)) Ψ 69 [(0, .ref m), (1, .int (nI i)), (2, .int (nI s_)), (3, .int (nI (B3 s_)))] [] (n, s, h62n1) := by
              intro tt
              induction tt with
              | zero =>
                intro s_ ht2 hj2
                have hst := B3_step s_ (by omega)
                have hbl := B3_lt s_ (by omega)
                have hbl2 := B3_lt (s_ + 1) (by omega)
                exfalso
                have := hj2 s_ (by omega) (Nat.le_refl _)
                rw [show s_ = 51 by omega] at this
                have e9 : B3 51 = 32771 := by decide +kernel
                omega
              | succ tt ih2 =>
                intro s_ ht2 hj2
                have hst := B3_step s_ (by omega)
                have hbl := B3_lt s_ (by omega)
                have hbl2 := B3_lt (s_ + 1) (by omega)
                refine WX.s1 rfl rfl ?_
                refine WX.s1 rfl rfl ?_
                refine WX.s1 rfl rfl ?_
                refine WX.callC (vs := [.int (nI s_)]) rfl rfl rfl (Nat.le_of_ble_eq_true rfl) rfl ?_
                refine m_mb ?_
                rw [mbits_is s_ (by omega)]
                show WX _ _ _ 75 [(0, .ref m), (1, .int (nI i)), (2, .int (nI s_)), (3, .int (nI (B3 s_)))] [.int (nI (wd3 s_)), .int 1, .int (nI (B3 s_))] (n, s, h62n1)
                refine WX.s1 (S' := [.int (1 <<< ((nI (wd3 s_)) &&& 31)), .int (nI (B3 s_))]) rfl rfl ?_
                rw [sh1 _ (by have := hw3 s_; omega)]
                refine WX.s1 (S' := [.int ((nI (B3 s_)) + (nI (2 ^ wd3 s_)))]) rfl rfl ?_
                rw [show ((nI (B3 s_)) + (nI (2 ^ wd3 s_))) = nI (B3 s_ + 2 ^ wd3 s_) from nI_add (B3 s_) (2 ^ wd3 s_)]
                refine WX.s1 rfl rfl ?_
                refine WX.mget rfl hm M_h62n1 rfl ?_
                refine WX.s1 rfl rfl ?_
                refine WX.mald (c := 18) rfl hm M_h62n1 (by decide) (by decide) (by decide) (by decide) (vp_in_nI (N := 8001) (by omega) (by decide)) ?_
                rw [nI_clamp (by omega), FA_A62n1 18 (by decide), a18]
                refine WX.icmp rfl (fun c_83 => ?_) (fun c_83 => ?_)
                · skip
                  have n_83 : qi.2.1 < (B3 s_ + 2 ^ wd3 s_) := (nI_ltI (a := qi.2.1) (b := B3 s_ + 2 ^ wd3 s_) (by omega) (by omega)).mp c_83
                  obtain rfl : sy3 qi.2.1 = s_ := (sy3_is qi.2.1).uniq ⟨by omega, hj2, fun _ => by omega⟩
                  refine WX.s1 rfl rfl ?_
                  refine WX.s1 rfl rfl ?_
                  refine WX.s1 rfl rfl ?_
                  refine WX.s1 rfl rfl ?_
                  refine WX.s1 rfl rfl ?_
                  refine WX.callC (vs := [.int (nI (sy3 qi.2.1))]) rfl rfl rfl (Nat.le_of_ble_eq_true rfl) rfl ?_
                  refine m_mb ?_
                  rw [mbits_is (sy3 qi.2.1) (by omega)]
                  show WX _ _ _ 109 [(0, .ref m), (1, .int (nI i)), (2, .int (nI (sy3 qi.2.1))), (3, .int (nI (B3 (sy3 qi.2.1))))] [.int (nI (wd3 (sy3 qi.2.1))), .int (nI (sy3 qi.2.1)), .int (nI i), .int 2, .ref m] (n, s, h62n1)
                  refine WX.s1 rfl rfl ?_
                  refine WX.mget rfl hm M_h62n1 rfl ?_
                  refine WX.s1 rfl rfl ?_
                  refine WX.mald (c := 18) rfl hm M_h62n1 (by decide) (by decide) (by decide) (by decide) (vp_in_nI (N := 8001) (by omega) (by decide)) ?_
                  rw [nI_clamp (by omega), FA_A62n1 18 (by decide), a18]
                  refine WX.s1 rfl rfl ?_
                  refine WX.s1 (S' := [.int ((nI qi.2.1) - (nI (B3 (sy3 qi.2.1)))), .int (nI (wd3 (sy3 qi.2.1))), .int (nI (sy3 qi.2.1)), .int (nI i), .int 2, .ref m]) rfl rfl ?_
                  rw [nI_subN (by have := (sy3_is qi.2.1).2.1 (sy3 qi.2.1); rcases Nat.eq_zero_or_pos (sy3 qi.2.1) with z | z; (rw [z, B3_0]; omega); exact this z (Nat.le_refl _))]
                  refine WX.callC (vs := [.ref m, .int (nI 2), .int (nI i), .int (nI (sy3 qi.2.1)), .int (nI (wd3 (sy3 qi.2.1))), .int (nI (qi.2.1 - B3 (sy3 qi.2.1)))]) rfl rfl rfl (Nat.le_of_ble_eq_true rfl) (M_h62n1.rcv hm) ?_
                  refine m_tell hm M_h62n1 (by decide) (by omega) (fun h117n2 A117n2 fr117n2 M_h117n2 eA117n2 => ?_)
                  have FR_h117n2 := FR_h62n1.ztr fr117n2
                  have FA_A117n2 : FaS AR A117n2 (fun b => b = 11 ∨ b = 21 ∨ b = 22 ∨ b = 23) := fun b hb => by rw [eA117n2, upA_ne (fun z => hb (by rw [z]; decide)), upA_ne (fun z => hb (by rw [z]; decide)), upA_ne (fun z => hb (by rw [z]; decide))]; exact FA_A62n1 b hb
                  have V0 := U0.ot eA117n2 (fun j hj => by rw [List.length_append, List.length_singleton] at hj; omega)
                  have V1 := U1.ot eA117n2 (fun j hj => by omega)
                  have V2 : TellA A117n2 2 sy3 wd3 B3 (seqV3 (qs.take i) ++ [qi.2.1]) := U2.st (by rw [l3]; exact eA117n2) rfl rfl rfl
                  have hlaV : LatM A117n2 (numF lt (qs.take i)).2 := by unfold LatM; rw [eA117n2, upA_ne (by decide), upA_ne (by decide), upA_ne (by decide)]; exact hlaU
                  show WX _ _ _ 120 [(0, .ref m), (1, .int (nI i)), (2, .int (nI (sy3 qi.2.1))), (3, .int (nI (B3 (sy3 qi.2.1))))] [] (n, s, h117n2)
                  refine WX.s1 rfl rfl ?_
                  refine WX.s1 rfl rfl ?_
                  refine WX.mget rfl hm M_h117n2 rfl ?_
                  refine WX.s1 rfl rfl ?_
                  refine WX.mald (c := 19) rfl hm M_h117n2 (by decide) (by decide) (by decide) (by decide) (vp_in_nI (N := 8001) (by omega) (by decide)) ?_
                  rw [nI_clamp (by omega), FA_A117n2 19 (by decide), a19]
                  refine WX.s1 rfl rfl ?_
                  refine WX.mget rfl hm M_h117n2 rfl ?_
                  refine WX.s1 rfl rfl ?_
                  refine WX.mald (c := 17) rfl hm M_h117n2 (by decide) (by decide) (by decide) (by decide) (vp_in_nI (N := 8001) (by omega) (by decide)) ?_
                  rw [nI_clamp (by omega), FA_A117n2 17 (by decide), a17]
                  refine WX.if_ rfl (fun c_133 => ?_) (fun c_133 => ?_)
                  · skip
                    have n_133 : ¬ qi.1 = 0 := fun zz_ => c_133 ((nI_eq (a := qi.1) (b := 0) (by omega) (by omega)).mpr zz_)
                    refine WX.s1 rfl rfl ?_
                    have eif : (if qi.1 = 0 then 1 else 0) = 0 := if_neg n_133
                    refine WX.callC (vs := [.ref m, .int (nI qi.2.2), .int 0]) rfl rfl rfl (Nat.le_of_ble_eq_true rfl) (M_h117n2.rcv hm) ?_
                    refine m_num0 hm M_h117n2 hlo (by omega) (by omega) hlaV (fun h141n3 A141n3 fr141n3 M_h141n3 fa141n3 lm141n3 => ?_)
                    have FR_h141n3 := FR_h117n2.ztr fr141n3
                    have FA_A141n3 : FaS AR A141n3 (fun b => b = 11 ∨ b = 21 ∨ b = 22 ∨ b = 23) := FA_A117n2.ztr (fa141n3.toS (Or.inl rfl))
                    have X0 := V0.same (fa141n3 21 (by decide)) (fa141n3 22 (by decide)) (fa141n3 23 (by decide))
                    have X1 := V1.same (fa141n3 21 (by decide)) (fa141n3 22 (by decide)) (fa141n3 23 (by decide))
                    have X2 := V2.same (fa141n3 21 (by decide)) (fa141n3 22 (by decide)) (fa141n3 23 (by decide))
                    have htn := tnum_ok (o := 0) hlo q4 q5
                    have eN : numF lt (qs.take (i + 1)) = ((numF lt (qs.take i)).1 ++ [(tnum (numF lt (qs.take i)).2 qi.2.2 0).1], (tnum (numF lt (qs.take i)).2 qi.2.2 0).2) := by
                      rw [take_snoc (by omega), eq, numF_snoc]
                      unfold numS
                      rw [eif]
                    generalize ev : (tnum (numF lt (qs.take i)).2 qi.2.2 0).1 = v at htn eN
                    show WX _ _ _ 144 [(0, .ref m), (1, .int (nI i)), (2, .int (nI (sy3 qi.2.1))), (3, .int (nI (B3 (sy3 qi.2.1))))] [.int (nI v)] (n, s, h141n3)
                    refine WX.s1 (L' := [(0, .ref m), (1, .int (nI i)), (2, .int (nI (sy3 qi.2.1))), (3, .int (nI (B3 (sy3 qi.2.1)))), (4, .int (nI v))]) rfl rfl ?_
                    refine WX.s1 rfl rfl ?_
                    refine WX.callC (vs := [.int (nI v)]) rfl rfl rfl (Nat.le_of_ble_eq_true rfl) rfl ?_
                    refine m_log htn.2.1 (by omega) (fun kl hk1 hk2 => ?_)
                    have hk14 : kl < 14 := Nat.lt_of_not_le (fun z => by have := Nat.pow_le_pow_right (show 0 < 2 by decide) z; omega)
                    obtain rfl : sy2 v = kl := (sy2_is v).uniq ⟨by omega, fun j a b => by rw [(B2_pow j (by omega)).1]; exact Nat.le_trans (Nat.pow_le_pow_right (by decide) b) hk1, fun _ => by rw [(B2_pow _ (by omega)).1]; exact hk2⟩
                    show WX _ _ _ 151 [(0, .ref m), (1, .int (nI i)), (2, .int (nI (sy3 qi.2.1))), (3, .int (nI (B3 (sy3 qi.2.1)))), (4, .int (nI v))] [.int (nI (sy2 v))] (n, s, h141n3)
                    refine WX.s1 (L' := [(0, .ref m), (1, .int (nI i)), (2, .int (nI (sy2 v))), (3, .int (nI (B3 (sy3 qi.2.1)))), (4, .int (nI v))]) rfl rfl ?_
                    refine WX.s1 rfl rfl ?_
                    refine WX.s1 rfl rfl ?_
                    refine WX.s1 rfl rfl ?_
                    refine WX.s1 rfl rfl ?_
                    refine WX.s1 rfl rfl ?_
                    refine WX.s1 rfl rfl ?_
                    refine WX.s1 rfl rfl ?_
                    refine WX.s1 rfl rfl ?_
                    refine WX.s1 (S' := [.int (1 <<< ((nI (sy2 v)) &&& 31)), .int (nI v), .int (nI (sy2 v)), .int (nI (sy2 v)), .int (nI i), .int 1, .ref m]) rfl rfl ?_
                    rw [sh1 _ (by omega)]
                    refine WX.s1 (S' := [.int ((nI v) - (nI (2 ^ sy2 v))), .int (nI (sy2 v)), .int (nI (sy2 v)), .int (nI i), .int 1, .ref m]) rfl rfl ?_
                    rw [nI_subN hk1]
                    have eB := (B2_pow (sy2 v) (by omega)).1
                    have eW := (B2_pow (sy2 v) (by omega)).2
                    rw [← eB]
                    refine WX.callC (vs := [.ref m, .int (nI 1), .int (nI i), .int (nI (sy2 v)), .int (nI (sy2 v)), .int (nI (v - B2 (sy2 v)))]) rfl rfl rfl (Nat.le_of_ble_eq_true rfl) (M_h141n3.rcv hm) ?_
                    refine m_tell hm M_h141n3 (by decide) (by omega) (fun h163n4 A163n4 fr163n4 M_h163n4 eA163n4 => ?_)
                    have FR_h163n4 := FR_h141n3.ztr fr163n4
                    have FA2 : FaS AR A163n4 (fun b => b = 11 ∨ b = 21 ∨ b = 22 ∨ b = 23) := fun b hb => by rw [eA163n4, upA_ne (fun z => hb (by rw [z]; decide)), upA_ne (fun z => hb (by rw [z]; decide)), upA_ne (fun z => hb (by rw [z]; decide))]; exact FA_A141n3 b hb
                    have Y0 : TellA A163n4 0 sy1 wd1 B1 (seqV1 (qs.take (i + 1))) := by rw [take_snoc (by omega), eq, seqV1_snoc]; exact X0.ot eA163n4 (fun j hj => by rw [List.length_append, List.length_singleton] at hj; omega)
                    have Y2 : TellA A163n4 2 sy3 wd3 B3 (seqV3 (qs.take (i + 1))) := by rw [take_snoc (by omega), eq, seqV3_snoc]; exact X2.ot eA163n4 (fun j hj => by rw [List.length_append, List.length_singleton] at hj; omega)
                    have Y1 : TellA A163n4 1 sy2 wd2 B2 (numF lt (qs.take (i + 1))).1 := by rw [eN]; exact X1.st (by rw [l2]; exact eA163n4) rfl eW.symm rfl
                    have hlaY : LatM A163n4 (numF lt (qs.take (i + 1))).2 := by rw [eN]; unfold LatM; rw [eA163n4, upA_ne (by decide), upA_ne (by decide), upA_ne (by decide)]; exact lm141n3
                    have hloY : LatOk (numF lt (qs.take (i + 1))).2 := by rw [eN]; exact htn.1
                    show WX _ _ _ 166 [(0, .ref m), (1, .int (nI i)), (2, .int (nI (sy2 v))), (3, .int (nI (B3 (sy3 qi.2.1)))), (4, .int (nI v))] [] (n, s, h163n4)
                    refine WX.s1 (L' := [(0, .ref m), (1, .int ((nI i) + 1)), (2, .int (nI (sy2 v))), (3, .int (nI (B3 (sy3 qi.2.1)))), (4, .int (nI v))]) rfl rfl ?_
                    rw [show ((nI i) + 1) = nI (i + 1) from nI_add i 1]
                    refine WX.s1 rfl rfl ?_
                    refine WX.keep (y := 162) [0, 1] (show ([0, 1, 2, 3, 4] : List Nat).Nodup by decide) rfl ?_
                    exact ih (i + 1) h163n4 A163n4 (by omega) FR_h163n4 M_h163n4 FA2 Y0 Y1 Y2 hlaY hloY
                  · skip
                    have n_133 : qi.1 = 0 := (nI_eq (a := qi.1) (b := 0) (by omega) (by omega)).mp (Classical.not_not.mp c_133)
                    refine WX.s1 rfl rfl ?_
                    refine WX.s1 rfl rfl ?_
                    have eif : (if qi.1 = 0 then 1 else 0) = 1 := if_pos n_133
                    refine WX.callC (vs := [.ref m, .int (nI qi.2.2), .int 1]) rfl rfl rfl (Nat.le_of_ble_eq_true rfl) (M_h117n2.rcv hm) ?_
                    refine m_num1 hm M_h117n2 hlo (by omega) (by omega) hlaV (fun h141n5 A141n5 fr141n5 M_h141n5 fa141n5 lm141n5 => ?_)
                    have FR_h141n5 := FR_h117n2.ztr fr141n5
                    have FA_A141n5 : FaS AR A141n5 (fun b => b = 11 ∨ b = 21 ∨ b = 22 ∨ b = 23) := FA_A117n2.ztr (fa141n5.toS (Or.inl rfl))
                    have X0 := V0.same (fa141n5 21 (by decide)) (fa141n5 22 (by decide)) (fa141n5 23 (by decide))
                    have X1 := V1.same (fa141n5 21 (by decide)) (fa141n5 22 (by decide)) (fa141n5 23 (by decide))
                    have X2 := V2.same (fa141n5 21 (by decide)) (fa141n5 22 (by decide)) (fa141n5 23 (by decide))
                    have htn := tnum_ok (o := 1) hlo q4 q5
                    have eN : numF lt (qs.take (i + 1)) = ((numF lt (qs.take i)).1 ++ [(tnum (numF lt (qs.take i)).2 qi.2.2 1).1], (tnum (numF lt (qs.take i)).2 qi.2.2 1).2) := by
                      rw [take_snoc (by omega), eq, numF_snoc]
                      unfold numS
                      rw [eif]
                    generalize ev : (tnum (numF lt (qs.take i)).2 qi.2.2 1).1 = v at htn eN
                    show WX _ _ _ 144 [(0, .ref m), (1, .int (nI i)), (2, .int (nI (sy3 qi.2.1))), (3, .int (nI (B3 (sy3 qi.2.1))))] [.int (nI v)] (n, s, h141n5)
                    refine WX.s1 (L' := [(0, .ref m), (1, .int (nI i)), (2, .int (nI (sy3 qi.2.1))), (3, .int (nI (B3 (sy3 qi.2.1)))), (4, .int (nI v))]) rfl rfl ?_
                    refine WX.s1 rfl rfl ?_
                    refine WX.callC (vs := [.int (nI v)]) rfl rfl rfl (Nat.le_of_ble_eq_true rfl) rfl ?_
                    refine m_log htn.2.1 (by omega) (fun kl hk1 hk2 => ?_)
                    have hk14 : kl < 14 := Nat.lt_of_not_le (fun z => by have := Nat.pow_le_pow_right (show 0 < 2 by decide) z; omega)
                    obtain rfl : sy2 v = kl := (sy2_is v).uniq ⟨by omega, fun j a b => by rw [(B2_pow j (by omega)).1]; exact Nat.le_trans (Nat.pow_le_pow_right (by decide) b) hk1, fun _ => by rw [(B2_pow _ (by omega)).1]; exact hk2⟩
                    show WX _ _ _ 151 [(0, .ref m), (1, .int (nI i)), (2, .int (nI (sy3 qi.2.1))), (3, .int (nI (B3 (sy3 qi.2.1)))), (4, .int (nI v))] [.int (nI (sy2 v))] (n, s, h141n5)
                    refine WX.s1 (L' := [(0, .ref m), (1, .int (nI i)), (2, .int (nI (sy2 v))), (3, .int (nI (B3 (sy3 qi.2.1)))), (4, .int (nI v))]) rfl rfl ?_
                    refine WX.s1 rfl rfl ?_
                    refine WX.s1 rfl rfl ?_
                    refine WX.s1 rfl rfl ?_
                    refine WX.s1 rfl rfl ?_
                    refine WX.s1 rfl rfl ?_
                    refine WX.s1 rfl rfl ?_
                    refine WX.s1 rfl rfl ?_
                    refine WX.s1 rfl rfl ?_
                    refine WX.s1 (S' := [.int (1 <<< ((nI (sy2 v)) &&& 31)), .int (nI v), .int (nI (sy2 v)), .int (nI (sy2 v)), .int (nI i), .int 1, .ref m]) rfl rfl ?_
                    rw [sh1 _ (by omega)]
                    refine WX.s1 (S' := [.int ((nI v) - (nI (2 ^ sy2 v))), .int (nI (sy2 v)), .int (nI (sy2 v)), .int (nI i), .int 1, .ref m]) rfl rfl ?_
                    rw [nI_subN hk1]
                    have eB := (B2_pow (sy2 v) (by omega)).1
                    have eW := (B2_pow (sy2 v) (by omega)).2
                    rw [← eB]
                    refine WX.callC (vs := [.ref m, .int (nI 1), .int (nI i), .int (nI (sy2 v)), .int (nI (sy2 v)), .int (nI (v - B2 (sy2 v)))]) rfl rfl rfl (Nat.le_of_ble_eq_true rfl) (M_h141n5.rcv hm) ?_
                    refine m_tell hm M_h141n5 (by decide) (by omega) (fun h163n6 A163n6 fr163n6 M_h163n6 eA163n6 => ?_)
                    have FR_h163n6 := FR_h141n5.ztr fr163n6
                    have FA2 : FaS AR A163n6 (fun b => b = 11 ∨ b = 21 ∨ b = 22 ∨ b = 23) := fun b hb => by rw [eA163n6, upA_ne (fun z => hb (by rw [z]; decide)), upA_ne (fun z => hb (by rw [z]; decide)), upA_ne (fun z => hb (by rw [z]; decide))]; exact FA_A141n5 b hb
                    have Y0 : TellA A163n6 0 sy1 wd1 B1 (seqV1 (qs.take (i + 1))) := by rw [take_snoc (by omega), eq, seqV1_snoc]; exact X0.ot eA163n6 (fun j hj => by rw [List.length_append, List.length_singleton] at hj; omega)
                    have Y2 : TellA A163n6 2 sy3 wd3 B3 (seqV3 (qs.take (i + 1))) := by rw [take_snoc (by omega), eq, seqV3_snoc]; exact X2.ot eA163n6 (fun j hj => by rw [List.length_append, List.length_singleton] at hj; omega)
                    have Y1 : TellA A163n6 1 sy2 wd2 B2 (numF lt (qs.take (i + 1))).1 := by rw [eN]; exact X1.st (by rw [l2]; exact eA163n6) rfl eW.symm rfl
                    have hlaY : LatM A163n6 (numF lt (qs.take (i + 1))).2 := by rw [eN]; unfold LatM; rw [eA163n6, upA_ne (by decide), upA_ne (by decide), upA_ne (by decide)]; exact lm141n5
                    have hloY : LatOk (numF lt (qs.take (i + 1))).2 := by rw [eN]; exact htn.1
                    show WX _ _ _ 166 [(0, .ref m), (1, .int (nI i)), (2, .int (nI (sy2 v))), (3, .int (nI (B3 (sy3 qi.2.1)))), (4, .int (nI v))] [] (n, s, h163n6)
                    refine WX.s1 (L' := [(0, .ref m), (1, .int ((nI i) + 1)), (2, .int (nI (sy2 v))), (3, .int (nI (B3 (sy3 qi.2.1)))), (4, .int (nI v))]) rfl rfl ?_
                    rw [show ((nI i) + 1) = nI (i + 1) from nI_add i 1]
                    refine WX.s1 rfl rfl ?_
                    refine WX.keep (y := 162) [0, 1] (show ([0, 1, 2, 3, 4] : List Nat).Nodup by decide) rfl ?_
                    exact ih (i + 1) h163n6 A163n6 (by omega) FR_h163n6 M_h163n6 FA2 Y0 Y1 Y2 hlaY hloY
                · skip
                  have n_83 : (B3 s_ + 2 ^ wd3 s_) ≤ qi.2.1 := Nat.le_of_not_lt (fun zz_ => c_83 ((nI_ltI (a := qi.2.1) (b := B3 s_ + 2 ^ wd3 s_) (by omega) (by omega)).mpr zz_))
                  refine WX.s1 rfl rfl ?_
                  refine WX.s1 rfl rfl ?_
                  refine WX.s1 rfl rfl ?_
                  refine WX.callC (vs := [.int (nI s_)]) rfl rfl rfl (Nat.le_of_ble_eq_true rfl) rfl ?_
                  refine m_mb ?_
                  rw [mbits_is s_ (by omega)]
                  show WX _ _ _ 92 [(0, .ref m), (1, .int (nI i)), (2, .int (nI s_)), (3, .int (nI (B3 s_)))] [.int (nI (wd3 s_)), .int 1, .int (nI (B3 s_))] (n, s, h62n1)
                  refine WX.s1 (S' := [.int (1 <<< ((nI (wd3 s_)) &&& 31)), .int (nI (B3 s_))]) rfl rfl ?_
                  rw [sh1 _ (by have := hw3 s_; omega)]
                  refine WX.s1 (S' := [.int ((nI (B3 s_)) + (nI (2 ^ wd3 s_)))]) rfl rfl ?_
                  rw [show ((nI (B3 s_)) + (nI (2 ^ wd3 s_))) = nI (B3 s_ + 2 ^ wd3 s_) from nI_add (B3 s_) (2 ^ wd3 s_)]
                  refine WX.s1 (L' := [(0, .ref m), (1, .int (nI i)), (2, .int (nI s_)), (3, .int (nI (B3 s_ + 2 ^ wd3 s_)))]) rfl rfl ?_
                  refine WX.s1 (L' := [(0, .ref m), (1, .int (nI i)), (2, .int ((nI s_) + 1)), (3, .int (nI (B3 s_ + 2 ^ wd3 s_)))]) rfl rfl ?_
                  rw [show ((nI s_) + 1) = nI (s_ + 1) from nI_add s_ 1]
                  refine WX.s1 rfl rfl ?_
                  rw [← hst]
                  refine ih2 (s_ + 1) (by omega) (fun j a b => ?_)
                  by_cases z : j = s_ + 1
                  · rw [z]; omega
                  · exact hj2 j a (by omega)
            exact in69 51 0 (by omega) (fun j a b => absurd a (by omega))
          · skip
            have n_28 : (B1 s_ + 2 ^ wd1 s_) ≤ qi.1 := Nat.le_of_not_lt (fun zz_ => c_28 ((nI_ltI (a := qi.1) (b := B1 s_ + 2 ^ wd1 s_) (by omega) (by omega)).mpr zz_))
            refine WX.s1 rfl rfl ?_
            refine WX.s1 rfl rfl ?_
            refine WX.s1 rfl rfl ?_
            refine WX.callC (vs := [.int (nI s_)]) rfl rfl rfl (Nat.le_of_ble_eq_true rfl) rfl ?_
            refine m_lb ?_
            rw [lbits_is s_ (by omega)]
            show WX _ _ _ 37 [(0, .ref m), (1, .int (nI i)), (2, .int (nI s_)), (3, .int (nI (B1 s_)))] [.int (nI (wd1 s_)), .int 1, .int (nI (B1 s_))] (n, s, hL)
            refine WX.s1 (S' := [.int (1 <<< ((nI (wd1 s_)) &&& 31)), .int (nI (B1 s_))]) rfl rfl ?_
            rw [sh1 _ (by have := hw1 s_; omega)]
            refine WX.s1 (S' := [.int ((nI (B1 s_)) + (nI (2 ^ wd1 s_)))]) rfl rfl ?_
            rw [show ((nI (B1 s_)) + (nI (2 ^ wd1 s_))) = nI (B1 s_ + 2 ^ wd1 s_) from nI_add (B1 s_) (2 ^ wd1 s_)]
            refine WX.s1 (L' := [(0, .ref m), (1, .int (nI i)), (2, .int (nI s_)), (3, .int (nI (B1 s_ + 2 ^ wd1 s_)))]) rfl rfl ?_
            refine WX.s1 (L' := [(0, .ref m), (1, .int (nI i)), (2, .int ((nI s_) + 1)), (3, .int (nI (B1 s_ + 2 ^ wd1 s_)))]) rfl rfl ?_
            rw [show ((nI s_) + 1) = nI (s_ + 1) from nI_add s_ 1]
            refine WX.s1 rfl rfl ?_
            rw [← hst]
            refine ih2 (s_ + 1) (by omega) (fun j a b => ?_)
            by_cases z : j = s_ + 1
            · rw [z]; omega
            · exact hj2 j a (by omega)
      exact in14 34 0 (by omega) (fun j a b => absurd a (by omega))
  exact lp qs.length 0 h AR (by omega) FR_h M_h FaS.rf (fun j hj => absurd hj (Nat.not_lt_zero j)) (fun j hj => absurd hj (Nat.not_lt_zero j)) (fun j hj => absurd hj (Nat.not_lt_zero j)) hla hlt
