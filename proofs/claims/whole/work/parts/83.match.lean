/-! the reference: alike, match, taken -/
def DataIs (A : Nat → Nat → Int32) (D : Nat → Nat) (e : Nat) : Prop := ∀ i, i < e → D i < 256 ∧ A 16 i = nI (D i)
theorem mB0 {b l : Nat} : mBet 0 b l ↔ b = 0 := by simp [mBet]
theorem mB1 {b l : Nat} : mBet 1 b l ↔ (b = 0 ∨ b < 8 ∧ 7 < l) := by simp [mBet]
theorem mB2 {b l : Nat} : mBet 2 b l ↔ b < l := by simp [mBet]
theorem how3 {w : Nat} (h : w ≤ 2) : w = 0 ∨ w = 1 ∨ w = 2 := by omega
set_option maxRecDepth 20000 in
theorem m_alike {d n s : Nat} {h : Nat → aE} {m : Nat} {I : Nat → Int32} {AR : Nat → Nat → Int32} {LN : Nat → Int64} {D : Nat → Nat} {e q p : Nat} (hm : m + 43 < n) (M_h : MAt h m I AR LN) (hD : DataIs AR D e) (he : e ≤ 16000) (hqp : q < p) (hp : p ≤ e)  {Ψ : Option Value → aH → Prop} (kk : ∀ k, IsCom D q p (e - p) k → Ψ (some (.int (nI k))) (n, s, h)) : WO (mM (d + 1)) 154 [.ref m, .int (nI q), .int (nI p), .int (nI (e - p))] (n, s, h) Ψ := by
  refine WO.of (Nat.le_of_ble_eq_true rfl) ?_
  have FR_h : Fr h h (inM m) := Fr.rf
  have FI_I : Fi I I (fun f => f = 40) := Fi.rf
  show WX (lk tX12_alike) (mM d) Ψ 0 [(0, .ref m), (1, .int (nI q)), (2, .int (nI p)), (3, .int (nI (e - p)))] [] (n, s, h)
  refine WX.s1 rfl rfl ?_
  refine WX.s1 (L' := [(0, .ref m), (1, .int (nI q)), (2, .int (nI p)), (3, .int (nI (e - p))), (4, .int 0)]) rfl rfl ?_
  have lp : ∀ (t i : Nat), i + t = e - p → (∀ j, j < i → D (q + j) = D (p + j)) → WX (lk tX12_alike) (mM d) Ψ 3 [(0, .ref m), (1, .int (nI q)), (2, .int (nI p)), (3, .int (nI (e - p))), (4, .int (nI i))] [] (n, s, h) := by
    intro t
    induction t with
    | zero =>
      intro i ht hEq
      refine WX.s1 rfl rfl ?_
      refine WX.s1 rfl rfl ?_
      refine WX.icmp rfl (fun c_6 => ?_) (fun c_6 => absurd ((nI_leI (a := e - p) (b := i) (by omega) (by omega)).mpr (by omega)) c_6)
      clear c_6
      refine WX.s1 rfl rfl ?_
      exact WX.ret1 rfl (kk i ⟨by omega, hEq, fun z => absurd z (by omega)⟩)
    | succ t ih =>
      intro i ht hEq
      refine WX.s1 rfl rfl ?_
      refine WX.s1 rfl rfl ?_
      refine WX.icmp rfl (fun c_6 => absurd c_6 (fun zz_ => absurd ((nI_leI (a := e - p) (b := i) (by omega) (by omega)).mp zz_) (Nat.not_le.mpr (by omega)))) (fun c_6 => ?_)
      clear c_6
      refine WX.s1 rfl rfl ?_
      refine WX.mget rfl hm M_h rfl ?_
      refine WX.s1 rfl rfl ?_
      refine WX.s1 rfl rfl ?_
      refine WX.s1 (S' := [.int ((nI q) + (nI i)), .ref (m + 16)]) rfl rfl ?_
      rw [show ((nI q) + (nI i)) = nI (q + i) from nI_add q i]
      refine WX.mald (c := 16) rfl hm M_h (by decide) (by decide) (by decide) (by decide) (vp_in_nI (N := 16000) (by omega) (by decide)) ?_
      rw [nI_clamp (by omega), (hD (q + i) (by omega)).2]
      refine WX.s1 rfl rfl ?_
      refine WX.mget rfl hm M_h rfl ?_
      refine WX.s1 rfl rfl ?_
      refine WX.s1 rfl rfl ?_
      refine WX.s1 (S' := [.int ((nI p) + (nI i)), .ref (m + 16), .int (nI (D (q + i)))]) rfl rfl ?_
      rw [show ((nI p) + (nI i)) = nI (p + i) from nI_add p i]
      refine WX.mald (c := 16) rfl hm M_h (by decide) (by decide) (by decide) (by decide) (vp_in_nI (N := 16000) (by omega) (by decide)) ?_
      rw [nI_clamp (by omega), (hD (p + i) (by omega)).2]
      have b1 := (hD (q + i) (by omega)).1
      have b2 := (hD (p + i) (by omega)).1
      refine WX.icmp rfl (fun c_27 => ?_) (fun c_27 => ?_)
      · skip
        have n_27 : ¬ (D (q + i)) = (D (p + i)) := fun zz_ => c_27 ((nI_eq (a := D (q + i)) (b := D (p + i)) (by omega) (by omega)).mpr zz_)
        refine WX.s1 rfl rfl ?_
        exact WX.ret1 rfl (kk i ⟨by omega, hEq, fun _ => n_27⟩)
      · skip
        have n_27 : (D (q + i)) = (D (p + i)) := (nI_eq (a := D (q + i)) (b := D (p + i)) (by omega) (by omega)).mp (Classical.not_not.mp c_27)
        refine WX.s1 (L' := [(0, .ref m), (1, .int (nI q)), (2, .int (nI p)), (3, .int (nI (e - p))), (4, .int ((nI i) + 1))]) rfl rfl ?_
        rw [show ((nI i) + 1) = nI (i + 1) from nI_add i 1]
        refine WX.s1 rfl rfl ?_
        refine ih (i + 1) (by omega) (fun j hj => ?_)
        by_cases z : j = i
        · rw [z]; exact n_27
        · exact hEq j (by omega)
  exact lp (e - p) 0 (by omega) (fun j hj => absurd hj (Nat.not_lt_zero j))
theorem nI_m1 (p : Nat) : nI p - 1 = qI p := by
  cases p with
  | zero => decide
  | succ p =>
    rw [qIs]
    exact nI_pred p
theorem qI_dec (z : Nat) : nI z + (-1) = qI z := by
  rw [← nI_m1]
  exact (Int32.sub_eq_add_neg _ _).symm
set_option maxRecDepth 20000 in
theorem m_match {d n s : Nat} {h : Nat → aE} {m : Nat} {I : Nat → Int32} {AR : Nat → Nat → Int32} {LN : Nat → Int64} {D : Nat → Nat} {e p how least win : Nat} (hm : m + 43 < n) (M_h : MAt h m I AR LN) (hD : DataIs AR D e) (he : e ≤ 16000) (hp : p < e) (hh : how ≤ 2) (hl3 : 3 ≤ least) (hl8 : least ≤ 8) (hwin : win < 2 ^ 30) (K_I_25 : I 25 = (nI e)) (K_I_27 : I 27 = (nI win)) (K_I_5 : I 5 = (nI least)) {Ψ : Option Value → aH → Prop} (kk : ∀ h' I', Fr h h' (inM m) → MAt h' m I' AR LN → Fi I I' (fun f => f = 26) → ((mAt D how least win e p).1 ≠ 0 → I' 26 = nI (mAt D how least win e p).2) → Ψ (some (.int (nI (mAt D how least win e p).1))) (n, s, h')) : WO (mM (d + 2)) 155 [.ref m, .int (nI p), .int (nI how)] (n, s, h) Ψ := by
  refine WO.of (Nat.le_of_ble_eq_true rfl) ?_
  have FR_h : Fr h h (inM m) := Fr.rf
  have FI_I : Fi I I (fun f => f = 26) := Fi.rf
  show WX (lk tX12_match) (mM (d + 1)) Ψ 0 [(0, .ref m), (1, .int (nI p)), (2, .int (nI how))] [] (n, s, h)
  refine WX.s1 rfl rfl ?_
  refine WX.mgetK (x := (nI e)) rfl hm M_h rfl K_I_25 ?_
  refine WX.s1 rfl rfl ?_
  refine WX.s1 (S' := [.int ((nI e) - (nI p))]) rfl rfl ?_
  rw [nI_subN (by omega)]
  refine WX.s1 rfl rfl ?_
  refine WX.icmp rfl (fun c_8 => absurd c_8 (fun zz_ => absurd ((nI_leI (a := 131074) (b := e - p) (by omega) (by omega)).mp zz_) (Nat.not_le.mpr (by omega)))) (fun c_8 => ?_)
  clear c_8
  refine WX.s1 rfl rfl ?_
  refine WX.mgetK (x := (nI e)) rfl hm M_h rfl K_I_25 ?_
  refine WX.s1 rfl rfl ?_
  refine WX.s1 (S' := [.int ((nI e) - (nI p))]) rfl rfl ?_
  rw [nI_subN (by omega)]
  refine WX.s1 rfl rfl ?_
  refine WX.s1 (L' := [(0, .ref m), (1, .int (nI p)), (2, .int (nI how)), (3, .int (nI (e - p)))]) rfl rfl ?_
  refine WX.s1 rfl rfl ?_
  refine WX.s1 (L' := [(0, .ref m), (1, .int (nI p)), (2, .int (nI how)), (3, .int (nI (e - p))), (4, .int 0)]) rfl rfl ?_
  refine WX.s1 rfl rfl ?_
  refine WX.s1 rfl rfl ?_
  refine WX.s1 (S' := [.int ((nI p) - 1)]) rfl rfl ?_
  obtain ⟨z0, rfl⟩ : ∃ z0, p = z0 := ⟨p, rfl⟩
  rw [show nI p - 1 = qI p from nI_m1 p]
  refine WX.s1 (L' := [(0, .ref m), (1, .int (nI p)), (2, .int (nI how)), (3, .int (nI (e - p))), (4, .int 0), (5, .int (qI p))]) rfl rfl ?_
  have lp : ∀ (z : Nat) (hL : Nat → aE) (IL : Nat → Int32), z ≤ p → p - z ≤ win → (how = 0 → (mFold D how least e p (p - z)).1 = 0) → Fr h hL (inM m) → MAt hL m IL AR LN → Fi I IL (fun f => f = 26) → ((mFold D how least e p (p - z)).1 ≠ 0 → IL 26 = nI (mFold D how least e p (p - z)).2) → WX (lk tX12_match) (mM (d + 1)) Ψ 31 [(0, .ref m), (1, .int (nI p)), (2, .int (nI how)), (3, .int (nI (e - p))), (4, .int (nI (mFold D how least e p (p - z)).1)), (5, .int (qI z))] [] (n, s, hL) := by
    have K25 := K_I_25
    have K27 := K_I_27
    have K5 := K_I_5
    clear M_h FR_h FI_I K_I_25 K_I_27 K_I_5
    intro z
    induction z with
    | zero =>
      intro hL IL hzp hzw g0 FR_hL M_hL FI_IL h26
      have K_IL_25 : IL 25 = _ := (FI_IL 25 (by decide)).trans K25
      have K_IL_27 : IL 27 = _ := (FI_IL 27 (by decide)).trans K27
      have K_IL_5 : IL 5 = _ := (FI_IL 5 (by decide)).trans K5
      rw [qI0]
      refine WX.s1 rfl rfl ?_
      refine WX.if_ rfl (fun c_33 => ?_) (fun c_33 => absurd (by decide) c_33)
      refine WX.s1 rfl rfl ?_
      have em : mAt D how least win e p = (mFold D how least e p (p - 0)) := by
        unfold mAt
        first
          | rw [show min p win = (p - 0) by omega]
          | (rw [show min p win = (p - 0) + (min p win - (p - 0)) by omega]; exact mFold_fix D hh ⟨by omega, Or.inl (by have := mFold_le D how least e p (p - 0); omega)⟩ _)
      refine WX.ret1 rfl ?_
      have kq := kk hL IL FR_hL M_hL FI_IL (by rw [em]; exact h26)
      rw [em] at kq
      exact kq
    | succ z ih =>
      intro hL IL hzp hzw g0 FR_hL M_hL FI_IL h26
      have K_IL_25 : IL 25 = _ := (FI_IL 25 (by decide)).trans K25
      have K_IL_27 : IL 27 = _ := (FI_IL 27 (by decide)).trans K27
      have K_IL_5 : IL 5 = _ := (FI_IL 5 (by decide)).trans K5
      rw [qIs]
      have hco := comN_is D (e - p) z p
      have hfs : mFold D how least e p (p - z) = mStep how least (mFold D how least e p (p - (z + 1))) z (comN D z p (e - p)) := by
        obtain ⟨j, hj⟩ : ∃ j, p - z = j + 1 := ⟨p - z - 1, by omega⟩
        rw [hj, show p - (z + 1) = j by omega]
        show mStep how least (mFold D how least e p j) (p - 1 - j) (comN D (p - 1 - j) p (e - p)) = _
        rw [show p - 1 - j = z by omega]
      have hrl := mFold_le D how least e p (p - (z + 1))
      refine WX.s1 rfl rfl ?_
      refine WX.if_ rfl (fun c_33 => absurd c_33 (fun zz_ => absurd ((nI_ltI (a := z) (b := 0) (by omega) (by omega)).mp zz_) (Nat.not_lt.mpr (by omega)))) (fun c_33 => ?_)
      clear c_33
      refine WX.s1 rfl rfl ?_
      refine WX.s1 rfl rfl ?_
      refine WX.s1 (S' := [.int ((nI p) - (nI z))]) rfl rfl ?_
      rw [nI_subN (by omega)]
      refine WX.s1 rfl rfl ?_
      refine WX.mgetK (x := (nI win)) rfl hm M_hL rfl K_IL_27 ?_
      refine WX.icmp rfl (fun c_44 => ?_) (fun c_44 => ?_)
      · skip
        have n_44 : win < (p - z) := (nI_ltI (a := win) (b := p - z) (by omega) (by omega)).mp c_44
        refine WX.s1 rfl rfl ?_
        have em : mAt D how least win e p = (mFold D how least e p (p - (z + 1))) := by
          unfold mAt
          first
            | rw [show min p win = (p - (z + 1)) by omega]
            | (rw [show min p win = (p - (z + 1)) + (min p win - (p - (z + 1))) by omega]; exact mFold_fix D hh ⟨by omega, Or.inl (by have := mFold_le D how least e p (p - (z + 1)); omega)⟩ _)
        refine WX.ret1 rfl ?_
        have kq := kk hL IL FR_hL M_hL FI_IL (by rw [em]; exact h26)
        rw [em] at kq
        exact kq
      · skip
        have n_44 : (p - z) ≤ win := Nat.le_of_not_lt (fun zz_ => c_44 ((nI_ltI (a := win) (b := p - z) (by omega) (by omega)).mpr zz_))
        refine WX.s1 rfl rfl ?_
        refine WX.s1 rfl rfl ?_
        refine WX.icmp rfl (fun c_50 => ?_) (fun c_50 => ?_)
        · skip
          have n_50 : (e - p) ≤ ((mFold D how least e p (p - (z + 1))).1) := (nI_leI (a := e - p) (b := (mFold D how least e p (p - (z + 1))).1) (by omega) (by omega)).mp c_50
          refine WX.s1 rfl rfl ?_
          have em : mAt D how least win e p = (mFold D how least e p (p - (z + 1))) := by
            unfold mAt
            first
              | rw [show min p win = (p - (z + 1)) by omega]
              | (rw [show min p win = (p - (z + 1)) + (min p win - (p - (z + 1))) by omega]; exact mFold_fix D hh ⟨by omega, Or.inl (by have := mFold_le D how least e p (p - (z + 1)); omega)⟩ _)
          refine WX.ret1 rfl ?_
          have kq := kk hL IL FR_hL M_hL FI_IL (by rw [em]; exact h26)
          rw [em] at kq
          exact kq
        · skip
          have n_50 : ((mFold D how least e p (p - (z + 1))).1) < (e - p) := Nat.lt_of_not_le (fun zz_ => c_50 ((nI_leI (a := e - p) (b := (mFold D how least e p (p - (z + 1))).1) (by omega) (by omega)).mpr zz_))
          refine WX.s1 rfl rfl ?_
          refine WX.s1 rfl rfl ?_
          refine WX.s1 rfl rfl ?_
          refine WX.s1 rfl rfl ?_
          refine WX.callC (vs := [.ref m, .int (nI z), .int (nI p), .int (nI (e - p))]) rfl rfl rfl (Nat.le_of_ble_eq_true rfl) (M_hL.rcv hm) ?_
          refine m_alike hm M_hL hD he (by omega) (by omega) (fun k hk => ?_)
          obtain rfl := IsCom.uniq hco hk
          have hk1 := hco.1
          show WX _ _ _ 61 [(0, .ref m), (1, .int (nI p)), (2, .int (nI how)), (3, .int (nI (e - p))), (4, .int (nI (mFold D how least e p (p - (z + 1))).1)), (5, .int (nI z))] [.int (nI (comN D z p (e - p)))] (n, s, hL)
          refine WX.s1 (L' := [(0, .ref m), (1, .int (nI p)), (2, .int (nI how)), (3, .int (nI (e - p))), (4, .int (nI (mFold D how least e p (p - (z + 1))).1)), (5, .int (nI z)), (6, .int (nI (comN D z p (e - p))))]) rfl rfl ?_
          refine WX.s1 rfl rfl ?_
          refine WX.s1 rfl rfl ?_
          refine WX.icmp rfl (fun c_65 => ?_) (fun c_65 => ?_)
          · skip
            have n_65 : ¬ how = 2 := fun zz_ => c_65 ((nI_eq (a := how) (b := 2) (by omega) (by omega)).mpr zz_)
            refine WX.s1 rfl rfl ?_
            refine WX.if_ rfl (fun c_85 => ?_) (fun c_85 => ?_)
            · skip
              have n_85 : ((mFold D how least e p (p - (z + 1))).1) = 0 := (nI_eq (a := (mFold D how least e p (p - (z + 1))).1) (b := 0) (by omega) (by omega)).mp c_85
              refine WX.s1 rfl rfl ?_
              refine WX.s1 rfl rfl ?_
              refine WX.s1 (L' := [(0, .ref m), (1, .int (nI p)), (2, .int (nI how)), (3, .int (nI (e - p))), (4, .int (nI (mFold D how least e p (p - (z + 1))).1)), (5, .int (nI z)), (6, .int (nI (comN D z p (e - p)))), (7, .int 1)]) rfl rfl ?_
              refine WX.s1 rfl rfl ?_
              refine WX.s1 rfl rfl ?_
              refine WX.mgetK (x := (nI least)) rfl hm M_hL rfl K_IL_5 ?_
              refine WX.icmp rfl (fun c_120 => ?_) (fun c_120 => ?_)
              · skip
                have n_120 : (comN D z p (e - p)) < least := (nI_ltI (a := comN D z p (e - p)) (b := least) (by omega) (by omega)).mp c_120
                refine WX.s1 (L' := [(0, .ref m), (1, .int (nI p)), (2, .int (nI how)), (3, .int (nI (e - p))), (4, .int (nI (mFold D how least e p (p - (z + 1))).1)), (5, .int ((nI z) + (-1))), (6, .int (nI (comN D z p (e - p)))), (7, .int 1)]) rfl rfl ?_
                rw [show (nI z) + (-1) = qI z from qI_dec z]
                refine WX.s1 rfl rfl ?_
                refine WX.keep (y := 155) [0, 1, 2, 3, 4, 5] (show ([0, 1, 2, 3, 4, 5, 6, 7] : List Nat).Nodup by decide) rfl ?_
                have hst : mFold D how least e p (p - z) = mFold D how least e p (p - (z + 1)) := by
                  refine hfs.trans (mStep_n ?_)
                  rintro ⟨b1, b2⟩
                  rcases how3 hh with rfl | rfl | rfl
                  · rw [mB0] at b2; omega
                  · rw [mB1] at b2; omega
                  · rw [mB2] at b2; omega
                have hL2 := ih hL IL (by omega) (by omega) (by rw [hst]; exact g0) FR_hL M_hL FI_IL (by rw [hst]; exact h26)
                rw [hst] at hL2
                exact hL2
              · skip
                have n_120 : least ≤ (comN D z p (e - p)) := Nat.le_of_not_lt (fun zz_ => c_120 ((nI_ltI (a := comN D z p (e - p)) (b := least) (by omega) (by omega)).mpr zz_))
                refine WX.s1 rfl rfl ?_
                refine WX.if_ rfl (fun c_125 => ?_) (fun c_125 => absurd (by decide) c_125)
                clear c_125
                have hbet : mBet how (mFold D how least e p (p - (z + 1))).1 (comN D z p (e - p)) := by
                  rcases how3 hh with rfl | rfl | rfl
                  · rw [mB0]; omega
                  · rw [mB1]; omega
                  · rw [mB2]; omega
                have hst := hfs.trans (mStep_y (by omega) hbet)
                refine WX.s1 rfl rfl ?_
                refine WX.s1 (L' := [(0, .ref m), (1, .int (nI p)), (2, .int (nI how)), (3, .int (nI (e - p))), (4, .int (nI (comN D z p (e - p)))), (5, .int (nI z)), (6, .int (nI (comN D z p (e - p)))), (7, .int 1)]) rfl rfl ?_
                refine WX.s1 rfl rfl ?_
                refine WX.s1 rfl rfl ?_
                refine WX.mput rfl hm M_hL (rfl) (by decide) (fun _ => rfl) (fun h138n1 I138n1 e_I138n1 M_h138n1 frh138n1 => ?_)
                have FR_h138n1 := FR_hL.ztr frh138n1
                have FI_I138n1 : Fi I I138n1 (fun f => f = 26) := FI_IL.zup e_I138n1 (by first | exact rfl | decide | omega)
                have K_I138n1_25 : I138n1 25 = (nI e) := by rw [e_I138n1]; exact (pk_un (by decide)).trans K_IL_25
                have K_I138n1_27 : I138n1 27 = (nI win) := by rw [e_I138n1]; exact (pk_un (by decide)).trans K_IL_27
                have K_I138n1_5 : I138n1 5 = (nI least) := by rw [e_I138n1]; exact (pk_un (by decide)).trans K_IL_5
                have K_I138n1_26 : I138n1 26 = (nI z) := by rw [e_I138n1]; exact pk_us
                clear M_hL FR_hL FI_IL e_I138n1 frh138n1 K_IL_25 K_IL_27 K_IL_5
                refine WX.s1 rfl rfl ?_
                refine WX.if_ rfl (fun c_142 => ?_) (fun c_142 => ?_)
                · skip
                  have n_142 : ¬ how = 0 := fun zz_ => c_142 ((nI_eq (a := how) (b := 0) (by omega) (by omega)).mpr zz_)
                  refine WX.s1 (L' := [(0, .ref m), (1, .int (nI p)), (2, .int (nI how)), (3, .int (nI (e - p))), (4, .int (nI (comN D z p (e - p)))), (5, .int ((nI z) + (-1))), (6, .int (nI (comN D z p (e - p)))), (7, .int 1)]) rfl rfl ?_
                  rw [show (nI z) + (-1) = qI z from qI_dec z]
                  refine WX.s1 rfl rfl ?_
                  refine WX.keep (y := 155) [0, 1, 2, 3, 4, 5] (show ([0, 1, 2, 3, 4, 5, 6, 7] : List Nat).Nodup by decide) rfl ?_
                  have hL2 := ih h138n1 I138n1 (by omega) (by omega) (fun q => absurd q (by omega)) FR_h138n1 M_h138n1 FI_I138n1 (fun _ => by rw [hst]; exact K_I138n1_26)
                  rw [hst] at hL2
                  exact hL2
                · skip
                  have n_142 : how = 0 := (nI_eq (a := how) (b := 0) (by omega) (by omega)).mp (Classical.not_not.mp c_142)
                  refine WX.s1 rfl rfl ?_
                  have em : mAt D how least win e p = mFold D how least e p (p - z) := by
                    unfold mAt
                    rw [show min p win = (p - z) + (min p win - (p - z)) by omega]
                    exact mFold_fix D hh ⟨by rw [hst]; omega, Or.inr (Or.inl n_142)⟩ _
                  refine WX.ret1 rfl ?_
                  have kq := kk h138n1 I138n1 FR_h138n1 M_h138n1 FI_I138n1 (fun _ => by rw [em, hst]; exact K_I138n1_26)
                  rw [em, hst] at kq
                  exact kq
            · skip
              have n_85 : ¬ ((mFold D how least e p (p - (z + 1))).1) = 0 := fun zz_ => c_85 ((nI_eq (a := (mFold D how least e p (p - (z + 1))).1) (b := 0) (by omega) (by omega)).mpr zz_)
              refine WX.s1 rfl rfl ?_
              refine WX.s1 rfl rfl ?_
              refine WX.icmp rfl (fun c_90 => ?_) (fun c_90 => ?_)
              · skip
                have n_90 : ¬ how = 1 := fun zz_ => c_90 ((nI_eq (a := how) (b := 1) (by omega) (by omega)).mpr zz_)
                refine WX.s1 rfl rfl ?_
                refine WX.s1 (L' := [(0, .ref m), (1, .int (nI p)), (2, .int (nI how)), (3, .int (nI (e - p))), (4, .int (nI (mFold D how least e p (p - (z + 1))).1)), (5, .int (nI z)), (6, .int (nI (comN D z p (e - p)))), (7, .int 0)]) rfl rfl ?_
                refine WX.s1 rfl rfl ?_
                refine WX.s1 rfl rfl ?_
                refine WX.mgetK (x := (nI least)) rfl hm M_hL rfl K_IL_5 ?_
                refine WX.icmp rfl (fun c_120 => ?_) (fun c_120 => ?_)
                · skip
                  have n_120 : (comN D z p (e - p)) < least := (nI_ltI (a := comN D z p (e - p)) (b := least) (by omega) (by omega)).mp c_120
                  refine WX.s1 (L' := [(0, .ref m), (1, .int (nI p)), (2, .int (nI how)), (3, .int (nI (e - p))), (4, .int (nI (mFold D how least e p (p - (z + 1))).1)), (5, .int ((nI z) + (-1))), (6, .int (nI (comN D z p (e - p)))), (7, .int 0)]) rfl rfl ?_
                  rw [show (nI z) + (-1) = qI z from qI_dec z]
                  refine WX.s1 rfl rfl ?_
                  refine WX.keep (y := 155) [0, 1, 2, 3, 4, 5] (show ([0, 1, 2, 3, 4, 5, 6, 7] : List Nat).Nodup by decide) rfl ?_
                  have hst : mFold D how least e p (p - z) = mFold D how least e p (p - (z + 1)) := by
                    refine hfs.trans (mStep_n ?_)
                    rintro ⟨b1, b2⟩
                    rcases how3 hh with rfl | rfl | rfl
                    · rw [mB0] at b2; omega
                    · rw [mB1] at b2; omega
                    · rw [mB2] at b2; omega
                  have hL2 := ih hL IL (by omega) (by omega) (by rw [hst]; exact g0) FR_hL M_hL FI_IL (by rw [hst]; exact h26)
                  rw [hst] at hL2
                  exact hL2
                · skip
                  have n_120 : least ≤ (comN D z p (e - p)) := Nat.le_of_not_lt (fun zz_ => c_120 ((nI_ltI (a := comN D z p (e - p)) (b := least) (by omega) (by omega)).mpr zz_))
                  refine WX.s1 rfl rfl ?_
                  refine WX.if_ rfl (fun c_125 => absurd c_125 (by decide)) (fun c_125 => ?_)
                  clear c_125
                  refine WX.s1 rfl rfl ?_
                  refine WX.s1 (L' := [(0, .ref m), (1, .int (nI p)), (2, .int (nI how)), (3, .int (nI (e - p))), (4, .int (nI (mFold D how least e p (p - (z + 1))).1)), (5, .int ((nI z) + (-1))), (6, .int (nI (comN D z p (e - p)))), (7, .int 0)]) rfl rfl ?_
                  rw [show (nI z) + (-1) = qI z from qI_dec z]
                  refine WX.s1 rfl rfl ?_
                  refine WX.keep (y := 155) [0, 1, 2, 3, 4, 5] (show ([0, 1, 2, 3, 4, 5, 6, 7] : List Nat).Nodup by decide) rfl ?_
                  have hst : mFold D how least e p (p - z) = mFold D how least e p (p - (z + 1)) := by
                    refine hfs.trans (mStep_n ?_)
                    rintro ⟨b1, b2⟩
                    rcases how3 hh with rfl | rfl | rfl
                    · rw [mB0] at b2; omega
                    · rw [mB1] at b2; omega
                    · rw [mB2] at b2; omega
                  have hL2 := ih hL IL (by omega) (by omega) (by rw [hst]; exact g0) FR_hL M_hL FI_IL (by rw [hst]; exact h26)
                  rw [hst] at hL2
                  exact hL2
              · skip
                have n_90 : how = 1 := (nI_eq (a := how) (b := 1) (by omega) (by omega)).mp (Classical.not_not.mp c_90)
                refine WX.s1 rfl rfl ?_
                refine WX.s1 rfl rfl ?_
                refine WX.icmp rfl (fun c_97 => ?_) (fun c_97 => ?_)
                · skip
                  have n_97 : 8 ≤ ((mFold D how least e p (p - (z + 1))).1) := (nI_leI (a := 8) (b := (mFold D how least e p (p - (z + 1))).1) (by omega) (by omega)).mp c_97
                  refine WX.s1 rfl rfl ?_
                  refine WX.s1 (L' := [(0, .ref m), (1, .int (nI p)), (2, .int (nI how)), (3, .int (nI (e - p))), (4, .int (nI (mFold D how least e p (p - (z + 1))).1)), (5, .int (nI z)), (6, .int (nI (comN D z p (e - p)))), (7, .int 0)]) rfl rfl ?_
                  refine WX.s1 rfl rfl ?_
                  refine WX.s1 rfl rfl ?_
                  refine WX.mgetK (x := (nI least)) rfl hm M_hL rfl K_IL_5 ?_
                  refine WX.icmp rfl (fun c_120 => ?_) (fun c_120 => ?_)
                  · skip
                    have n_120 : (comN D z p (e - p)) < least := (nI_ltI (a := comN D z p (e - p)) (b := least) (by omega) (by omega)).mp c_120
                    refine WX.s1 (L' := [(0, .ref m), (1, .int (nI p)), (2, .int (nI how)), (3, .int (nI (e - p))), (4, .int (nI (mFold D how least e p (p - (z + 1))).1)), (5, .int ((nI z) + (-1))), (6, .int (nI (comN D z p (e - p)))), (7, .int 0)]) rfl rfl ?_
                    rw [show (nI z) + (-1) = qI z from qI_dec z]
                    refine WX.s1 rfl rfl ?_
                    refine WX.keep (y := 155) [0, 1, 2, 3, 4, 5] (show ([0, 1, 2, 3, 4, 5, 6, 7] : List Nat).Nodup by decide) rfl ?_
                    have hst : mFold D how least e p (p - z) = mFold D how least e p (p - (z + 1)) := by
                      refine hfs.trans (mStep_n ?_)
                      rintro ⟨b1, b2⟩
                      rcases how3 hh with rfl | rfl | rfl
                      · rw [mB0] at b2; omega
                      · rw [mB1] at b2; omega
                      · rw [mB2] at b2; omega
                    have hL2 := ih hL IL (by omega) (by omega) (by rw [hst]; exact g0) FR_hL M_hL FI_IL (by rw [hst]; exact h26)
                    rw [hst] at hL2
                    exact hL2
                  · skip
                    have n_120 : least ≤ (comN D z p (e - p)) := Nat.le_of_not_lt (fun zz_ => c_120 ((nI_ltI (a := comN D z p (e - p)) (b := least) (by omega) (by omega)).mpr zz_))
                    refine WX.s1 rfl rfl ?_
                    refine WX.if_ rfl (fun c_125 => absurd c_125 (by decide)) (fun c_125 => ?_)
                    clear c_125
                    refine WX.s1 rfl rfl ?_
                    refine WX.s1 (L' := [(0, .ref m), (1, .int (nI p)), (2, .int (nI how)), (3, .int (nI (e - p))), (4, .int (nI (mFold D how least e p (p - (z + 1))).1)), (5, .int ((nI z) + (-1))), (6, .int (nI (comN D z p (e - p)))), (7, .int 0)]) rfl rfl ?_
                    rw [show (nI z) + (-1) = qI z from qI_dec z]
                    refine WX.s1 rfl rfl ?_
                    refine WX.keep (y := 155) [0, 1, 2, 3, 4, 5] (show ([0, 1, 2, 3, 4, 5, 6, 7] : List Nat).Nodup by decide) rfl ?_
                    have hst : mFold D how least e p (p - z) = mFold D how least e p (p - (z + 1)) := by
                      refine hfs.trans (mStep_n ?_)
                      rintro ⟨b1, b2⟩
                      rcases how3 hh with rfl | rfl | rfl
                      · rw [mB0] at b2; omega
                      · rw [mB1] at b2; omega
                      · rw [mB2] at b2; omega
                    have hL2 := ih hL IL (by omega) (by omega) (by rw [hst]; exact g0) FR_hL M_hL FI_IL (by rw [hst]; exact h26)
                    rw [hst] at hL2
                    exact hL2
                · skip
                  have n_97 : ((mFold D how least e p (p - (z + 1))).1) < 8 := Nat.lt_of_not_le (fun zz_ => c_97 ((nI_leI (a := 8) (b := (mFold D how least e p (p - (z + 1))).1) (by omega) (by omega)).mpr zz_))
                  refine WX.s1 rfl rfl ?_
                  refine WX.s1 rfl rfl ?_
                  refine WX.icmp rfl (fun c_104 => ?_) (fun c_104 => ?_)
                  · skip
                    have n_104 : (comN D z p (e - p)) ≤ 7 := (nI_leI (a := comN D z p (e - p)) (b := 7) (by omega) (by omega)).mp c_104
                    refine WX.s1 rfl rfl ?_
                    refine WX.s1 (L' := [(0, .ref m), (1, .int (nI p)), (2, .int (nI how)), (3, .int (nI (e - p))), (4, .int (nI (mFold D how least e p (p - (z + 1))).1)), (5, .int (nI z)), (6, .int (nI (comN D z p (e - p)))), (7, .int 0)]) rfl rfl ?_
                    refine WX.s1 rfl rfl ?_
                    refine WX.s1 rfl rfl ?_
                    refine WX.mgetK (x := (nI least)) rfl hm M_hL rfl K_IL_5 ?_
                    refine WX.icmp rfl (fun c_120 => ?_) (fun c_120 => ?_)
                    · skip
                      have n_120 : (comN D z p (e - p)) < least := (nI_ltI (a := comN D z p (e - p)) (b := least) (by omega) (by omega)).mp c_120
                      refine WX.s1 (L' := [(0, .ref m), (1, .int (nI p)), (2, .int (nI how)), (3, .int (nI (e - p))), (4, .int (nI (mFold D how least e p (p - (z + 1))).1)), (5, .int ((nI z) + (-1))), (6, .int (nI (comN D z p (e - p)))), (7, .int 0)]) rfl rfl ?_
                      rw [show (nI z) + (-1) = qI z from qI_dec z]
                      refine WX.s1 rfl rfl ?_
                      refine WX.keep (y := 155) [0, 1, 2, 3, 4, 5] (show ([0, 1, 2, 3, 4, 5, 6, 7] : List Nat).Nodup by decide) rfl ?_
                      have hst : mFold D how least e p (p - z) = mFold D how least e p (p - (z + 1)) := by
                        refine hfs.trans (mStep_n ?_)
                        rintro ⟨b1, b2⟩
                        rcases how3 hh with rfl | rfl | rfl
                        · rw [mB0] at b2; omega
                        · rw [mB1] at b2; omega
                        · rw [mB2] at b2; omega
                      have hL2 := ih hL IL (by omega) (by omega) (by rw [hst]; exact g0) FR_hL M_hL FI_IL (by rw [hst]; exact h26)
                      rw [hst] at hL2
                      exact hL2
                    · skip
                      have n_120 : least ≤ (comN D z p (e - p)) := Nat.le_of_not_lt (fun zz_ => c_120 ((nI_ltI (a := comN D z p (e - p)) (b := least) (by omega) (by omega)).mpr zz_))
                      refine WX.s1 rfl rfl ?_
                      refine WX.if_ rfl (fun c_125 => absurd c_125 (by decide)) (fun c_125 => ?_)
                      clear c_125
                      refine WX.s1 rfl rfl ?_
                      refine WX.s1 (L' := [(0, .ref m), (1, .int (nI p)), (2, .int (nI how)), (3, .int (nI (e - p))), (4, .int (nI (mFold D how least e p (p - (z + 1))).1)), (5, .int ((nI z) + (-1))), (6, .int (nI (comN D z p (e - p)))), (7, .int 0)]) rfl rfl ?_
                      rw [show (nI z) + (-1) = qI z from qI_dec z]
                      refine WX.s1 rfl rfl ?_
                      refine WX.keep (y := 155) [0, 1, 2, 3, 4, 5] (show ([0, 1, 2, 3, 4, 5, 6, 7] : List Nat).Nodup by decide) rfl ?_
                      have hst : mFold D how least e p (p - z) = mFold D how least e p (p - (z + 1)) := by
                        refine hfs.trans (mStep_n ?_)
                        rintro ⟨b1, b2⟩
                        rcases how3 hh with rfl | rfl | rfl
                        · rw [mB0] at b2; omega
                        · rw [mB1] at b2; omega
                        · rw [mB2] at b2; omega
                      have hL2 := ih hL IL (by omega) (by omega) (by rw [hst]; exact g0) FR_hL M_hL FI_IL (by rw [hst]; exact h26)
                      rw [hst] at hL2
                      exact hL2
                  · skip
                    have n_104 : 7 < (comN D z p (e - p)) := Nat.lt_of_not_le (fun zz_ => c_104 ((nI_leI (a := comN D z p (e - p)) (b := 7) (by omega) (by omega)).mpr zz_))
                    refine WX.s1 rfl rfl ?_
                    refine WX.s1 rfl rfl ?_
                    refine WX.s1 (L' := [(0, .ref m), (1, .int (nI p)), (2, .int (nI how)), (3, .int (nI (e - p))), (4, .int (nI (mFold D how least e p (p - (z + 1))).1)), (5, .int (nI z)), (6, .int (nI (comN D z p (e - p)))), (7, .int 1)]) rfl rfl ?_
                    refine WX.s1 rfl rfl ?_
                    refine WX.s1 rfl rfl ?_
                    refine WX.mgetK (x := (nI least)) rfl hm M_hL rfl K_IL_5 ?_
                    refine WX.icmp rfl (fun c_120 => ?_) (fun c_120 => ?_)
                    · skip
                      have n_120 : (comN D z p (e - p)) < least := (nI_ltI (a := comN D z p (e - p)) (b := least) (by omega) (by omega)).mp c_120
                      refine WX.s1 (L' := [(0, .ref m), (1, .int (nI p)), (2, .int (nI how)), (3, .int (nI (e - p))), (4, .int (nI (mFold D how least e p (p - (z + 1))).1)), (5, .int ((nI z) + (-1))), (6, .int (nI (comN D z p (e - p)))), (7, .int 1)]) rfl rfl ?_
                      rw [show (nI z) + (-1) = qI z from qI_dec z]
                      refine WX.s1 rfl rfl ?_
                      refine WX.keep (y := 155) [0, 1, 2, 3, 4, 5] (show ([0, 1, 2, 3, 4, 5, 6, 7] : List Nat).Nodup by decide) rfl ?_
                      have hst : mFold D how least e p (p - z) = mFold D how least e p (p - (z + 1)) := by
                        refine hfs.trans (mStep_n ?_)
                        rintro ⟨b1, b2⟩
                        rcases how3 hh with rfl | rfl | rfl
                        · rw [mB0] at b2; omega
                        · rw [mB1] at b2; omega
                        · rw [mB2] at b2; omega
                      have hL2 := ih hL IL (by omega) (by omega) (by rw [hst]; exact g0) FR_hL M_hL FI_IL (by rw [hst]; exact h26)
                      rw [hst] at hL2
                      exact hL2
                    · skip
                      have n_120 : least ≤ (comN D z p (e - p)) := Nat.le_of_not_lt (fun zz_ => c_120 ((nI_ltI (a := comN D z p (e - p)) (b := least) (by omega) (by omega)).mpr zz_))
                      refine WX.s1 rfl rfl ?_
                      refine WX.if_ rfl (fun c_125 => ?_) (fun c_125 => absurd (by decide) c_125)
                      clear c_125
                      have hbet : mBet how (mFold D how least e p (p - (z + 1))).1 (comN D z p (e - p)) := by
                        rcases how3 hh with rfl | rfl | rfl
                        · rw [mB0]; omega
                        · rw [mB1]; omega
                        · rw [mB2]; omega
                      have hst := hfs.trans (mStep_y (by omega) hbet)
                      refine WX.s1 rfl rfl ?_
                      refine WX.s1 (L' := [(0, .ref m), (1, .int (nI p)), (2, .int (nI how)), (3, .int (nI (e - p))), (4, .int (nI (comN D z p (e - p)))), (5, .int (nI z)), (6, .int (nI (comN D z p (e - p)))), (7, .int 1)]) rfl rfl ?_
                      refine WX.s1 rfl rfl ?_
                      refine WX.s1 rfl rfl ?_
                      refine WX.mput rfl hm M_hL (rfl) (by decide) (fun _ => rfl) (fun h138n2 I138n2 e_I138n2 M_h138n2 frh138n2 => ?_)
                      have FR_h138n2 := FR_hL.ztr frh138n2
                      have FI_I138n2 : Fi I I138n2 (fun f => f = 26) := FI_IL.zup e_I138n2 (by first | exact rfl | decide | omega)
                      have K_I138n2_25 : I138n2 25 = (nI e) := by rw [e_I138n2]; exact (pk_un (by decide)).trans K_IL_25
                      have K_I138n2_27 : I138n2 27 = (nI win) := by rw [e_I138n2]; exact (pk_un (by decide)).trans K_IL_27
                      have K_I138n2_5 : I138n2 5 = (nI least) := by rw [e_I138n2]; exact (pk_un (by decide)).trans K_IL_5
                      have K_I138n2_26 : I138n2 26 = (nI z) := by rw [e_I138n2]; exact pk_us
                      clear M_hL FR_hL FI_IL e_I138n2 frh138n2 K_IL_25 K_IL_27 K_IL_5
                      refine WX.s1 rfl rfl ?_
                      refine WX.if_ rfl (fun c_142 => ?_) (fun c_142 => ?_)
                      · skip
                        have n_142 : ¬ how = 0 := fun zz_ => c_142 ((nI_eq (a := how) (b := 0) (by omega) (by omega)).mpr zz_)
                        refine WX.s1 (L' := [(0, .ref m), (1, .int (nI p)), (2, .int (nI how)), (3, .int (nI (e - p))), (4, .int (nI (comN D z p (e - p)))), (5, .int ((nI z) + (-1))), (6, .int (nI (comN D z p (e - p)))), (7, .int 1)]) rfl rfl ?_
                        rw [show (nI z) + (-1) = qI z from qI_dec z]
                        refine WX.s1 rfl rfl ?_
                        refine WX.keep (y := 155) [0, 1, 2, 3, 4, 5] (show ([0, 1, 2, 3, 4, 5, 6, 7] : List Nat).Nodup by decide) rfl ?_
                        have hL2 := ih h138n2 I138n2 (by omega) (by omega) (fun q => absurd q (by omega)) FR_h138n2 M_h138n2 FI_I138n2 (fun _ => by rw [hst]; exact K_I138n2_26)
                        rw [hst] at hL2
                        exact hL2
                      · skip
                        have n_142 : how = 0 := (nI_eq (a := how) (b := 0) (by omega) (by omega)).mp (Classical.not_not.mp c_142)
                        refine WX.s1 rfl rfl ?_
                        have em : mAt D how least win e p = mFold D how least e p (p - z) := by
                          unfold mAt
                          rw [show min p win = (p - z) + (min p win - (p - z)) by omega]
                          exact mFold_fix D hh ⟨by rw [hst]; omega, Or.inr (Or.inl n_142)⟩ _
                        refine WX.ret1 rfl ?_
                        have kq := kk h138n2 I138n2 FR_h138n2 M_h138n2 FI_I138n2 (fun _ => by rw [em, hst]; exact K_I138n2_26)
                        rw [em, hst] at kq
                        exact kq
          · skip
            have n_65 : how = 2 := (nI_eq (a := how) (b := 2) (by omega) (by omega)).mp (Classical.not_not.mp c_65)
            refine WX.s1 rfl rfl ?_
            refine WX.s1 rfl rfl ?_
            refine WX.icmp rfl (fun c_72 => ?_) (fun c_72 => ?_)
            · skip
              have n_72 : (comN D z p (e - p)) ≤ ((mFold D how least e p (p - (z + 1))).1) := (nI_leI (a := comN D z p (e - p)) (b := (mFold D how least e p (p - (z + 1))).1) (by omega) (by omega)).mp c_72
              refine WX.s1 rfl rfl ?_
              refine WX.s1 rfl rfl ?_
              refine WX.s1 (L' := [(0, .ref m), (1, .int (nI p)), (2, .int (nI how)), (3, .int (nI (e - p))), (4, .int (nI (mFold D how least e p (p - (z + 1))).1)), (5, .int (nI z)), (6, .int (nI (comN D z p (e - p)))), (7, .int 0)]) rfl rfl ?_
              refine WX.s1 rfl rfl ?_
              refine WX.s1 rfl rfl ?_
              refine WX.mgetK (x := (nI least)) rfl hm M_hL rfl K_IL_5 ?_
              refine WX.icmp rfl (fun c_120 => ?_) (fun c_120 => ?_)
              · skip
                have n_120 : (comN D z p (e - p)) < least := (nI_ltI (a := comN D z p (e - p)) (b := least) (by omega) (by omega)).mp c_120
                refine WX.s1 (L' := [(0, .ref m), (1, .int (nI p)), (2, .int (nI how)), (3, .int (nI (e - p))), (4, .int (nI (mFold D how least e p (p - (z + 1))).1)), (5, .int ((nI z) + (-1))), (6, .int (nI (comN D z p (e - p)))), (7, .int 0)]) rfl rfl ?_
                rw [show (nI z) + (-1) = qI z from qI_dec z]
                refine WX.s1 rfl rfl ?_
                refine WX.keep (y := 155) [0, 1, 2, 3, 4, 5] (show ([0, 1, 2, 3, 4, 5, 6, 7] : List Nat).Nodup by decide) rfl ?_
                have hst : mFold D how least e p (p - z) = mFold D how least e p (p - (z + 1)) := by
                  refine hfs.trans (mStep_n ?_)
                  rintro ⟨b1, b2⟩
                  rcases how3 hh with rfl | rfl | rfl
                  · rw [mB0] at b2; omega
                  · rw [mB1] at b2; omega
                  · rw [mB2] at b2; omega
                have hL2 := ih hL IL (by omega) (by omega) (by rw [hst]; exact g0) FR_hL M_hL FI_IL (by rw [hst]; exact h26)
                rw [hst] at hL2
                exact hL2
              · skip
                have n_120 : least ≤ (comN D z p (e - p)) := Nat.le_of_not_lt (fun zz_ => c_120 ((nI_ltI (a := comN D z p (e - p)) (b := least) (by omega) (by omega)).mpr zz_))
                refine WX.s1 rfl rfl ?_
                refine WX.if_ rfl (fun c_125 => absurd c_125 (by decide)) (fun c_125 => ?_)
                clear c_125
                refine WX.s1 rfl rfl ?_
                refine WX.s1 (L' := [(0, .ref m), (1, .int (nI p)), (2, .int (nI how)), (3, .int (nI (e - p))), (4, .int (nI (mFold D how least e p (p - (z + 1))).1)), (5, .int ((nI z) + (-1))), (6, .int (nI (comN D z p (e - p)))), (7, .int 0)]) rfl rfl ?_
                rw [show (nI z) + (-1) = qI z from qI_dec z]
                refine WX.s1 rfl rfl ?_
                refine WX.keep (y := 155) [0, 1, 2, 3, 4, 5] (show ([0, 1, 2, 3, 4, 5, 6, 7] : List Nat).Nodup by decide) rfl ?_
                have hst : mFold D how least e p (p - z) = mFold D how least e p (p - (z + 1)) := by
                  refine hfs.trans (mStep_n ?_)
                  rintro ⟨b1, b2⟩
                  rcases how3 hh with rfl | rfl | rfl
                  · rw [mB0] at b2; omega
                  · rw [mB1] at b2; omega
                  · rw [mB2] at b2; omega
                have hL2 := ih hL IL (by omega) (by omega) (by rw [hst]; exact g0) FR_hL M_hL FI_IL (by rw [hst]; exact h26)
                rw [hst] at hL2
                exact hL2
            · skip
              have n_72 : ((mFold D how least e p (p - (z + 1))).1) < (comN D z p (e - p)) := Nat.lt_of_not_le (fun zz_ => c_72 ((nI_leI (a := comN D z p (e - p)) (b := (mFold D how least e p (p - (z + 1))).1) (by omega) (by omega)).mpr zz_))
              refine WX.s1 rfl rfl ?_
              refine WX.s1 rfl rfl ?_
              refine WX.s1 (L' := [(0, .ref m), (1, .int (nI p)), (2, .int (nI how)), (3, .int (nI (e - p))), (4, .int (nI (mFold D how least e p (p - (z + 1))).1)), (5, .int (nI z)), (6, .int (nI (comN D z p (e - p)))), (7, .int 1)]) rfl rfl ?_
              refine WX.s1 rfl rfl ?_
              refine WX.s1 rfl rfl ?_
              refine WX.mgetK (x := (nI least)) rfl hm M_hL rfl K_IL_5 ?_
              refine WX.icmp rfl (fun c_120 => ?_) (fun c_120 => ?_)
              · skip
                have n_120 : (comN D z p (e - p)) < least := (nI_ltI (a := comN D z p (e - p)) (b := least) (by omega) (by omega)).mp c_120
                refine WX.s1 (L' := [(0, .ref m), (1, .int (nI p)), (2, .int (nI how)), (3, .int (nI (e - p))), (4, .int (nI (mFold D how least e p (p - (z + 1))).1)), (5, .int ((nI z) + (-1))), (6, .int (nI (comN D z p (e - p)))), (7, .int 1)]) rfl rfl ?_
                rw [show (nI z) + (-1) = qI z from qI_dec z]
                refine WX.s1 rfl rfl ?_
                refine WX.keep (y := 155) [0, 1, 2, 3, 4, 5] (show ([0, 1, 2, 3, 4, 5, 6, 7] : List Nat).Nodup by decide) rfl ?_
                have hst : mFold D how least e p (p - z) = mFold D how least e p (p - (z + 1)) := by
                  refine hfs.trans (mStep_n ?_)
                  rintro ⟨b1, b2⟩
                  rcases how3 hh with rfl | rfl | rfl
                  · rw [mB0] at b2; omega
                  · rw [mB1] at b2; omega
                  · rw [mB2] at b2; omega
                have hL2 := ih hL IL (by omega) (by omega) (by rw [hst]; exact g0) FR_hL M_hL FI_IL (by rw [hst]; exact h26)
                rw [hst] at hL2
                exact hL2
              · skip
                have n_120 : least ≤ (comN D z p (e - p)) := Nat.le_of_not_lt (fun zz_ => c_120 ((nI_ltI (a := comN D z p (e - p)) (b := least) (by omega) (by omega)).mpr zz_))
                refine WX.s1 rfl rfl ?_
                refine WX.if_ rfl (fun c_125 => ?_) (fun c_125 => absurd (by decide) c_125)
                clear c_125
                have hbet : mBet how (mFold D how least e p (p - (z + 1))).1 (comN D z p (e - p)) := by
                  rcases how3 hh with rfl | rfl | rfl
                  · rw [mB0]; omega
                  · rw [mB1]; omega
                  · rw [mB2]; omega
                have hst := hfs.trans (mStep_y (by omega) hbet)
                refine WX.s1 rfl rfl ?_
                refine WX.s1 (L' := [(0, .ref m), (1, .int (nI p)), (2, .int (nI how)), (3, .int (nI (e - p))), (4, .int (nI (comN D z p (e - p)))), (5, .int (nI z)), (6, .int (nI (comN D z p (e - p)))), (7, .int 1)]) rfl rfl ?_
                refine WX.s1 rfl rfl ?_
                refine WX.s1 rfl rfl ?_
                refine WX.mput rfl hm M_hL (rfl) (by decide) (fun _ => rfl) (fun h138n3 I138n3 e_I138n3 M_h138n3 frh138n3 => ?_)
                have FR_h138n3 := FR_hL.ztr frh138n3
                have FI_I138n3 : Fi I I138n3 (fun f => f = 26) := FI_IL.zup e_I138n3 (by first | exact rfl | decide | omega)
                have K_I138n3_25 : I138n3 25 = (nI e) := by rw [e_I138n3]; exact (pk_un (by decide)).trans K_IL_25
                have K_I138n3_27 : I138n3 27 = (nI win) := by rw [e_I138n3]; exact (pk_un (by decide)).trans K_IL_27
                have K_I138n3_5 : I138n3 5 = (nI least) := by rw [e_I138n3]; exact (pk_un (by decide)).trans K_IL_5
                have K_I138n3_26 : I138n3 26 = (nI z) := by rw [e_I138n3]; exact pk_us
                clear M_hL FR_hL FI_IL e_I138n3 frh138n3 K_IL_25 K_IL_27 K_IL_5
                refine WX.s1 rfl rfl ?_
                refine WX.if_ rfl (fun c_142 => ?_) (fun c_142 => ?_)
                · skip
                  have n_142 : ¬ how = 0 := fun zz_ => c_142 ((nI_eq (a := how) (b := 0) (by omega) (by omega)).mpr zz_)
                  refine WX.s1 (L' := [(0, .ref m), (1, .int (nI p)), (2, .int (nI how)), (3, .int (nI (e - p))), (4, .int (nI (comN D z p (e - p)))), (5, .int ((nI z) + (-1))), (6, .int (nI (comN D z p (e - p)))), (7, .int 1)]) rfl rfl ?_
                  rw [show (nI z) + (-1) = qI z from qI_dec z]
                  refine WX.s1 rfl rfl ?_
                  refine WX.keep (y := 155) [0, 1, 2, 3, 4, 5] (show ([0, 1, 2, 3, 4, 5, 6, 7] : List Nat).Nodup by decide) rfl ?_
                  have hL2 := ih h138n3 I138n3 (by omega) (by omega) (fun q => absurd q (by omega)) FR_h138n3 M_h138n3 FI_I138n3 (fun _ => by rw [hst]; exact K_I138n3_26)
                  rw [hst] at hL2
                  exact hL2
                · skip
                  have n_142 : how = 0 := (nI_eq (a := how) (b := 0) (by omega) (by omega)).mp (Classical.not_not.mp c_142)
                  refine WX.s1 rfl rfl ?_
                  have em : mAt D how least win e p = mFold D how least e p (p - z) := by
                    unfold mAt
                    rw [show min p win = (p - z) + (min p win - (p - z)) by omega]
                    exact mFold_fix D hh ⟨by rw [hst]; omega, Or.inr (Or.inl n_142)⟩ _
                  refine WX.ret1 rfl ?_
                  have kq := kk h138n3 I138n3 FR_h138n3 M_h138n3 FI_I138n3 (fun _ => by rw [em, hst]; exact K_I138n3_26)
                  rw [em, hst] at kq
                  exact kq
  have hL2 := lp p h I (Nat.le_refl _) (by omega) (fun _ => by rw [Nat.sub_self]; rfl) FR_h M_h FI_I (fun q => absurd (by rw [Nat.sub_self]; rfl) q)
  rw [Nat.sub_self] at hL2
  exact hL2
set_option maxRecDepth 20000 in
theorem m_taken {d n s : Nat} {h : Nat → aE} {m : Nat} {I : Nat → Int32} {AR : Nat → Nat → Int32} {LN : Nat → Int64} {D : Nat → Nat} {e p way least win : Nat} (hm : m + 43 < n) (M_h : MAt h m I AR LN) (hD : DataIs AR D e) (he : e ≤ 16000) (hp : p < e) (hw : way ≤ 3) (hl3 : 3 ≤ least) (hl8 : least ≤ 8) (hwin : win < 2 ^ 30) (K_I_25 : I 25 = (nI e)) (K_I_27 : I 27 = (nI win)) (K_I_5 : I 5 = (nI least)) (K_I_4 : I 4 = (nI way)) {Ψ : Option Value → aH → Prop} (kk : ∀ h' I', Fr h h' (inM m) → MAt h' m I' AR LN → Fi I I' (fun f => f = 26) → (tk D way least win e p ≠ 0 → I' 26 = nI (mAt D (wy way) least win e p).2) → Ψ (some (.int (nI (tk D way least win e p)))) (n, s, h')) : WO (mM (d + 3)) 156 [.ref m, .int (nI p)] (n, s, h) Ψ := by
  refine WO.of (Nat.le_of_ble_eq_true rfl) ?_
  have FR_h : Fr h h (inM m) := Fr.rf
  have FI_I : Fi I I (fun f => f = 26) := Fi.rf
  have hle1 := mAt_le D 2 least win e p
  have hle2 := mAt_le D 2 least win e (p + 1)
  show WX (lk tX12_taken) (mM (d + 2)) Ψ 0 [(0, .ref m), (1, .int (nI p))] [] (n, s, h)
  refine WX.s1 rfl rfl ?_
  refine WX.mgetK (x := (nI way)) rfl hm M_h rfl K_I_4 ?_
  refine WX.s1 rfl rfl ?_
  refine WX.icmp rfl (fun c_5 => ?_) (fun c_5 => ?_)
  · skip
    have n_5 : 3 ≤ way := (nI_leI (a := 3) (b := way) (by omega) (by omega)).mp c_5
    refine WX.s1 rfl rfl ?_
    refine WX.s1 rfl rfl ?_
    refine WX.s1 (S' := [.int ((nI p) + 1)]) rfl rfl ?_
    rw [show ((nI p) + 1) = nI (p + 1) from nI_add p 1]
    refine WX.s1 rfl rfl ?_
    refine WX.mgetK (x := (nI e)) rfl hm M_h rfl K_I_25 ?_
    refine WX.icmp rfl (fun c_25 => ?_) (fun c_25 => ?_)
    · skip
      have n_25 : e ≤ (p + 1) := (nI_leI (a := e) (b := p + 1) (by omega) (by omega)).mp c_25
      refine WX.s1 rfl rfl ?_
      refine WX.s1 (L' := [(0, .ref m), (1, .int (nI p)), (2, .int 0)]) rfl rfl ?_
      refine WX.s1 rfl rfl ?_
      refine WX.s1 rfl rfl ?_
      refine WX.s1 rfl rfl ?_
      refine WX.callC (vs := [.ref m, .int (nI p), .int (nI 2)]) rfl rfl rfl (Nat.le_of_ble_eq_true rfl) (M_h.rcv hm) ?_
      refine m_match hm M_h hD he (how := 2) (p := p) (by omega) (by omega) hl3 hl8 hwin K_I_25 K_I_27 K_I_5 (fun h44n1 I44n1 fr44n1 M_h44n1 fi44n1 q44n1 => ?_)
      have FR_h44n1 := FR_h.ztr fr44n1
      have FI_I44n1 := FI_I.ztr fi44n1
      have K_I44n1_25 : I44n1 25 = (nI e) := (fi44n1 25 (by decide)).trans K_I_25
      have K_I44n1_27 : I44n1 27 = (nI win) := (fi44n1 27 (by decide)).trans K_I_27
      have K_I44n1_5 : I44n1 5 = (nI least) := (fi44n1 5 (by decide)).trans K_I_5
      have K_I44n1_4 : I44n1 4 = (nI way) := (fi44n1 4 (by decide)).trans K_I_4
      show WX _ _ _ 47 [(0, .ref m), (1, .int (nI p)), (2, .int 0)] [.int (nI (mAt D 2 least win e p).1)] (n, s, h44n1)
      refine WX.s1 (L' := [(0, .ref m), (1, .int (nI p)), (2, .int 0), (3, .int (nI (mAt D 2 least win e p).1))]) rfl rfl ?_
      refine WX.s1 rfl rfl ?_
      refine WX.s1 rfl rfl ?_
      refine WX.icmp rfl (fun c_50 => ?_) (fun c_50 => ?_)
      · skip
        have n_50 : 0 ≤ ((mAt D 2 least win e p).1) := (nI_leI (a := 0) (b := (mAt D 2 least win e p).1) (by omega) (by omega)).mp c_50
        refine WX.s1 rfl rfl ?_
        have w3 : way = 3 := by omega
        have ew : wy way = 2 := by rw [w3]; rfl
        have enx : (mAt D 2 least win e (p + 1)).1 = 0 := mAt_none (by omega) (by omega)
        refine WX.ret1 rfl ?_
        have et : tk D way least win e p = (mAt D 2 least win e p).1 := by unfold tk; rw [ew, if_neg (fun z => absurd z.2 (by omega))]
        have kq := kk h44n1 I44n1 FR_h44n1 M_h44n1 FI_I44n1 (by rw [et, ew]; exact q44n1)
        rw [et] at kq
        exact kq
      · skip
        have n_50 : ((mAt D 2 least win e p).1) < 0 := Nat.lt_of_not_le (fun zz_ => c_50 ((nI_leI (a := 0) (b := (mAt D 2 least win e p).1) (by omega) (by omega)).mpr zz_))
        refine WX.s1 rfl rfl ?_
        refine WX.s1 rfl rfl ?_
        have w3 : way = 3 := by omega
        have ew : wy way = 2 := by rw [w3]; rfl
        have enx : (mAt D 2 least win e (p + 1)).1 = 0 := mAt_none (by omega) (by omega)
        refine WX.ret1 rfl ?_
        have et : tk D way least win e p = 0 := by unfold tk; rw [ew, if_pos ⟨w3, by omega⟩]
        have kq := kk h44n1 I44n1 FR_h44n1 M_h44n1 FI_I44n1 (fun z => absurd et z)
        rw [et] at kq
        exact kq
    · skip
      have n_25 : (p + 1) < e := Nat.lt_of_not_le (fun zz_ => c_25 ((nI_leI (a := e) (b := p + 1) (by omega) (by omega)).mpr zz_))
      refine WX.s1 rfl rfl ?_
      refine WX.s1 rfl rfl ?_
      refine WX.s1 rfl rfl ?_
      refine WX.s1 (S' := [.int ((nI p) + 1), .ref m]) rfl rfl ?_
      rw [show ((nI p) + 1) = nI (p + 1) from nI_add p 1]
      refine WX.s1 rfl rfl ?_
      refine WX.callC (vs := [.ref m, .int (nI (p + 1)), .int (nI 2)]) rfl rfl rfl (Nat.le_of_ble_eq_true rfl) (M_h.rcv hm) ?_
      refine m_match hm M_h hD he (how := 2) (p := p + 1) (by omega) (by omega) hl3 hl8 hwin K_I_25 K_I_27 K_I_5 (fun h33n2 I33n2 fr33n2 M_h33n2 fi33n2 q33n2 => ?_)
      have FR_h33n2 := FR_h.ztr fr33n2
      have FI_I33n2 := FI_I.ztr fi33n2
      have K_I33n2_25 : I33n2 25 = (nI e) := (fi33n2 25 (by decide)).trans K_I_25
      have K_I33n2_27 : I33n2 27 = (nI win) := (fi33n2 27 (by decide)).trans K_I_27
      have K_I33n2_5 : I33n2 5 = (nI least) := (fi33n2 5 (by decide)).trans K_I_5
      have K_I33n2_4 : I33n2 4 = (nI way) := (fi33n2 4 (by decide)).trans K_I_4
      show WX _ _ _ 36 [(0, .ref m), (1, .int (nI p))] [.int (nI (mAt D 2 least win e (p + 1)).1)] (n, s, h33n2)
      refine WX.s1 rfl rfl ?_
      refine WX.s1 (L' := [(0, .ref m), (1, .int (nI p)), (2, .int (nI (mAt D 2 least win e (p + 1)).1))]) rfl rfl ?_
      refine WX.s1 rfl rfl ?_
      refine WX.s1 rfl rfl ?_
      refine WX.s1 rfl rfl ?_
      refine WX.callC (vs := [.ref m, .int (nI p), .int (nI 2)]) rfl rfl rfl (Nat.le_of_ble_eq_true rfl) (M_h33n2.rcv hm) ?_
      refine m_match hm M_h33n2 hD he (how := 2) (p := p) (by omega) (by omega) hl3 hl8 hwin K_I33n2_25 K_I33n2_27 K_I33n2_5 (fun h44n3 I44n3 fr44n3 M_h44n3 fi44n3 q44n3 => ?_)
      have FR_h44n3 := FR_h33n2.ztr fr44n3
      have FI_I44n3 := FI_I33n2.ztr fi44n3
      have K_I44n3_25 : I44n3 25 = (nI e) := (fi44n3 25 (by decide)).trans K_I33n2_25
      have K_I44n3_27 : I44n3 27 = (nI win) := (fi44n3 27 (by decide)).trans K_I33n2_27
      have K_I44n3_5 : I44n3 5 = (nI least) := (fi44n3 5 (by decide)).trans K_I33n2_5
      have K_I44n3_4 : I44n3 4 = (nI way) := (fi44n3 4 (by decide)).trans K_I33n2_4
      show WX _ _ _ 47 [(0, .ref m), (1, .int (nI p)), (2, .int (nI (mAt D 2 least win e (p + 1)).1))] [.int (nI (mAt D 2 least win e p).1)] (n, s, h44n3)
      refine WX.s1 (L' := [(0, .ref m), (1, .int (nI p)), (2, .int (nI (mAt D 2 least win e (p + 1)).1)), (3, .int (nI (mAt D 2 least win e p).1))]) rfl rfl ?_
      refine WX.s1 rfl rfl ?_
      refine WX.s1 rfl rfl ?_
      refine WX.icmp rfl (fun c_50 => ?_) (fun c_50 => ?_)
      · skip
        have n_50 : ((mAt D 2 least win e (p + 1)).1) ≤ ((mAt D 2 least win e p).1) := (nI_leI (a := (mAt D 2 least win e (p + 1)).1) (b := (mAt D 2 least win e p).1) (by omega) (by omega)).mp c_50
        refine WX.s1 rfl rfl ?_
        have w3 : way = 3 := by omega
        have ew : wy way = 2 := by rw [w3]; rfl
        refine WX.ret1 rfl ?_
        have et : tk D way least win e p = (mAt D 2 least win e p).1 := by unfold tk; rw [ew, if_neg (fun z => absurd z.2 (by omega))]
        have kq := kk h44n3 I44n3 FR_h44n3 M_h44n3 FI_I44n3 (by rw [et, ew]; exact q44n3)
        rw [et] at kq
        exact kq
      · skip
        have n_50 : ((mAt D 2 least win e p).1) < ((mAt D 2 least win e (p + 1)).1) := Nat.lt_of_not_le (fun zz_ => c_50 ((nI_leI (a := (mAt D 2 least win e (p + 1)).1) (b := (mAt D 2 least win e p).1) (by omega) (by omega)).mpr zz_))
        refine WX.s1 rfl rfl ?_
        refine WX.s1 rfl rfl ?_
        have w3 : way = 3 := by omega
        have ew : wy way = 2 := by rw [w3]; rfl
        refine WX.ret1 rfl ?_
        have et : tk D way least win e p = 0 := by unfold tk; rw [ew, if_pos ⟨w3, by omega⟩]
        have kq := kk h44n3 I44n3 FR_h44n3 M_h44n3 FI_I44n3 (fun z => absurd et z)
        rw [et] at kq
        exact kq
  · skip
    have n_5 : way < 3 := Nat.lt_of_not_le (fun zz_ => c_5 ((nI_leI (a := 3) (b := way) (by omega) (by omega)).mpr zz_))
    refine WX.s1 rfl rfl ?_
    refine WX.s1 rfl rfl ?_
    refine WX.s1 rfl rfl ?_
    refine WX.mgetK (x := (nI way)) rfl hm M_h rfl K_I_4 ?_
    refine WX.callC (vs := [.ref m, .int (nI p), .int (nI way)]) rfl rfl rfl (Nat.le_of_ble_eq_true rfl) (M_h.rcv hm) ?_
    refine m_match hm M_h hD he (how := way) (p := p) (by omega) (by omega) hl3 hl8 hwin K_I_25 K_I_27 K_I_5 (fun h14n4 I14n4 fr14n4 M_h14n4 fi14n4 q14n4 => ?_)
    have FR_h14n4 := FR_h.ztr fr14n4
    have FI_I14n4 := FI_I.ztr fi14n4
    have K_I14n4_25 : I14n4 25 = (nI e) := (fi14n4 25 (by decide)).trans K_I_25
    have K_I14n4_27 : I14n4 27 = (nI win) := (fi14n4 27 (by decide)).trans K_I_27
    have K_I14n4_5 : I14n4 5 = (nI least) := (fi14n4 5 (by decide)).trans K_I_5
    have K_I14n4_4 : I14n4 4 = (nI way) := (fi14n4 4 (by decide)).trans K_I_4
    show WX _ _ _ 17 [(0, .ref m), (1, .int (nI p))] [.int (nI (mAt D way least win e p).1)] (n, s, h14n4)
    have ew : wy way = way := if_neg (by omega)
    have et : tk D way least win e p = (mAt D way least win e p).1 := by unfold tk; rw [if_neg (fun z => absurd z.1 (by omega)), ew]
    refine WX.ret1 rfl ?_
    have kq := kk h14n4 I14n4 FR_h14n4 M_h14n4 FI_I14n4 (by rw [et, ew]; exact q14n4)
    rw [et] at kq
    exact kq
