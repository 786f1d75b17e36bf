/-! the reference: what it keeps of a block and brings back; a block's head -/
theorem FrameIs.pre {I J : Nat → Int32} {A : Nat → Nat → Int32} {l r : List Nat} (F : FrameIs I A (l ++ r)) (K : J 40 = nI l.length) : FrameIs J A l := ⟨K, fun i hi h2 => by rw [F.2 i (by rw [List.length_append]; omega) h2, getD_l hi]⟩
set_option maxRecDepth 20000 in
theorem m_keepS {d n s : Nat} {h : Nat → aE} {m : Nat} {I : Nat → Int32} {AR : Nat → Nat → Int32} {LN : Nat → Int64} {tp : Int32} (hm : m + 43 < n) (M_h : MAt h m I AR LN)  (K_I_15 : I 15 = tp) {Ψ : Option Value → aH → Prop} (kk : ∀ h' I' A', Fr h h' (inM m) → MAt h' m I' A' LN → Fi I I' (fun f => f = 20) → FaS AR A' (fun b => 12 ≤ b ∧ b ≤ 15) → I' 20 = tp → (∀ j, j < 256 → A' 12 j = AR 8 j) → (∀ j, j < 192 → A' 13 j = AR 9 j) → (∀ j, j < 3 → A' 14 j = AR 10 j ∧ A' 15 j = AR 11 j) → Ψ none (n, s, h')) : WO (mM (d + 1)) 203 [.ref m] (n, s, h) Ψ := by
  refine WO.of (Nat.le_of_ble_eq_true rfl) ?_
  have FR_h : Fr h h (inM m) := Fr.rf
  have FI_I : Fi I I (fun f => f = 20) := Fi.rf
  have FA_AR : FaS AR AR (fun b => 12 ≤ b ∧ b ≤ 15) := FaS.rf
  show WX (lk tX12_keep) (mM d) Ψ 0 [(0, .ref m)] [] (n, s, h)
  refine WX.s1 rfl rfl ?_
  refine WX.s1 (L' := [(0, .ref m), (1, .int 0)]) rfl rfl ?_
  have lp2 : ∀ (t i : Nat) (hL : Nat → aE) (AL : Nat → Nat → Int32), i + t = 256 → MAt hL m I AL LN → Fr h hL (inM m) → FaS AR AL (fun b => b = 12) → (∀ j, j < i → AL 12 j = AR 8 j) → WX (lk tX12_keep) (mM d) Ψ 2 [(0, .ref m), (1, .int (nI i))] [] (n, s, hL) := by
    clear M_h FR_h
    intro t
    induction t with
    | zero =>
      intro i hL AL ht M_hL FR_hL faL q1
      obtain rfl : i = 256 := by omega
      have FA_AL : FaS AR AL (fun b => 12 ≤ b ∧ b ≤ 15) := FA_AR.ztr (faL.mono (fun x hx => by omega))
      refine WX.s1 rfl rfl ?_
      refine WX.s1 rfl rfl ?_
      refine WX.icmp rfl (fun c_6 => ?_) (fun c_6 => absurd ((nI_leI (a := 256) (b := 256) (by omega) (by omega)).mpr (by omega)) c_6)
      clear c_6
      refine WX.s1 rfl rfl ?_
      refine WX.s1 rfl rfl ?_
      refine WX.mgetK (x := tp) rfl hm M_hL rfl K_I_15 ?_
      refine WX.mput rfl hm M_hL (rfl) (by decide) (fun _ => rfl) (fun h32n1 I32n1 e_I32n1 M_h32n1 frh32n1 => ?_)
      have FR_h32n1 := FR_hL.ztr frh32n1
      have FI_I32n1 : Fi I I32n1 (fun f => f = 20) := FI_I.zup e_I32n1 (by first | exact rfl | decide | omega)
      have K_I32n1_15 : I32n1 15 = tp := by rw [e_I32n1]; exact (pk_un (by decide)).trans K_I_15
      have K_I32n1_20 : I32n1 20 = tp := by rw [e_I32n1]; exact pk_us
      clear M_hL FR_hL FI_I e_I32n1 frh32n1 K_I_15
      obtain ⟨B1_, eB1⟩ : ∃ B, B = AL := ⟨_, rfl⟩
      rw [← eB1] at M_h32n1 FA_AL faL q1
      have FA_B1_ := FA_AL
      have fa1 := faL
      clear FA_AL faL
      clear eB1
      refine WX.s1 rfl rfl ?_
      refine WX.s1 (L' := [(0, .ref m), (1, .int 0)]) rfl rfl ?_
      have lp37 : ∀ (t i : Nat) (hL : Nat → aE) (AL : Nat → Nat → Int32), i + t = 192 → MAt hL m I32n1 AL LN → Fr h hL (inM m) → FaS B1_ AL (fun b => b = 13) → (∀ j, j < i → AL 13 j = B1_ 9 j) → WX (lk tX12_keep) (mM d) Ψ 37 [(0, .ref m), (1, .int (nI i))] [] (n, s, hL) := by
        clear M_h32n1 FR_h32n1
        intro t
        induction t with
        | zero =>
          intro i hL AL ht M_hL FR_hL faL q2
          obtain rfl : i = 192 := by omega
          have FA_AL : FaS AR AL (fun b => 12 ≤ b ∧ b ≤ 15) := FA_B1_.ztr (faL.mono (fun x hx => by omega))
          refine WX.s1 rfl rfl ?_
          refine WX.s1 rfl rfl ?_
          refine WX.icmp rfl (fun c_41 => ?_) (fun c_41 => absurd ((nI_leI (a := 192) (b := 192) (by omega) (by omega)).mpr (by omega)) c_41)
          clear c_41
          obtain ⟨B2_, eB2⟩ : ∃ B, B = AL := ⟨_, rfl⟩
          rw [← eB2] at M_hL FA_AL faL q2
          have FA_B2_ := FA_AL
          have fa2 := faL
          have r1 : ∀ j, j < 256 → B2_ 12 j = AR 8 j := fun j hj => by rw [faL 12 (by decide)]; exact q1 j hj
          have r2 : ∀ j, j < 192 → B2_ 13 j = AR 9 j := fun j hj => by rw [q2 j hj, fa1 9 (by decide)]
          have r3a : B2_ 10 = AR 10 := (fa2 10 (by decide)).trans (fa1 10 (by decide))
          have r3b : B2_ 11 = AR 11 := (fa2 11 (by decide)).trans (fa1 11 (by decide))
          clear FA_AL faL eB2 fa1 fa2 q1 q2
          refine WX.s1 rfl rfl ?_
          refine WX.s1 (L' := [(0, .ref m), (1, .int 0)]) rfl rfl ?_
          have lp64 : ∀ (t i : Nat) (hL : Nat → aE) (AL : Nat → Nat → Int32), i + t = 3 → MAt hL m I32n1 AL LN → Fr h hL (inM m) → FaS B2_ AL (fun b => b = 14 ∨ b = 15) → (∀ j, j < i → AL 14 j = B2_ 10 j ∧ AL 15 j = B2_ 11 j) → WX (lk tX12_keep) (mM d) Ψ 64 [(0, .ref m), (1, .int (nI i))] [] (n, s, hL) := by
            clear M_hL FR_hL
            intro t
            induction t with
            | zero =>
              intro i hL AL ht M_hL FR_hL faL q3
              obtain rfl : i = 3 := by omega
              have FA_AL : FaS AR AL (fun b => 12 ≤ b ∧ b ≤ 15) := FA_B2_.ztr (faL.mono (fun x hx => by omega))
              refine WX.s1 rfl rfl ?_
              refine WX.s1 rfl rfl ?_
              refine WX.icmp rfl (fun c_66 => ?_) (fun c_66 => absurd ((nI_leI (a := 3) (b := 3) (by omega) (by omega)).mpr (by omega)) c_66)
              clear c_66
              exact WX.ret0 rfl (kk hL _ AL FR_hL M_hL FI_I32n1 FA_AL K_I32n1_20 (fun j hj => by rw [faL 12 (by decide)]; exact r1 j hj) (fun j hj => by rw [faL 13 (by decide)]; exact r2 j hj) (fun j hj => by have z := q3 j hj; rw [r3a, r3b] at z; exact z))
            | succ t ih =>
              intro i hL AL ht M_hL FR_hL faL hInv
              refine WX.s1 rfl rfl ?_
              refine WX.s1 rfl rfl ?_
              refine WX.icmp rfl (fun c_66 => absurd c_66 (fun zz_ => absurd ((nI_leI (a := 3) (b := i) (by omega) (by omega)).mp zz_) (Nat.not_le.mpr (by omega)))) (fun c_66 => ?_)
              clear c_66
              refine WX.s1 rfl rfl ?_
              refine WX.mget rfl hm M_hL rfl ?_
              refine WX.s1 rfl rfl ?_
              refine WX.s1 rfl rfl ?_
              refine WX.mget rfl hm M_hL rfl ?_
              refine WX.s1 rfl rfl ?_
              refine WX.mald (c := 10) rfl hm M_hL (by decide) (by decide) (by decide) (by decide) (vp_in_nI (N := 3) (by omega) (by decide)) ?_
              rw [nI_clamp (by omega), faL 10 (by decide)]
              refine WX.mast (c := 14) rfl hm M_hL (by decide) (by decide) (by decide) (by decide) (vp_in_nI (N := 3) (by omega) (by decide)) (fun h80n2 A80n2 e_A80n2 M_h80n2 frh80n2 => ?_)
              try dsimp only at e_A80n2
              have FR_h80n2 := FR_hL.ztr frh80n2
              clear M_hL FR_hL frh80n2
              refine WX.s1 rfl rfl ?_
              refine WX.mget rfl hm M_h80n2 rfl ?_
              refine WX.s1 rfl rfl ?_
              refine WX.s1 rfl rfl ?_
              refine WX.mget rfl hm M_h80n2 rfl ?_
              refine WX.s1 rfl rfl ?_
              refine WX.mald (c := 11) rfl hm M_h80n2 (by decide) (by decide) (by decide) (by decide) (vp_in_nI (N := 3) (by omega) (by decide)) ?_
              rw [nI_clamp (by omega), e_A80n2, upA_ne (by decide), faL 11 (by decide)]
              refine WX.mast (c := 15) rfl hm M_h80n2 (by decide) (by decide) (by decide) (by decide) (vp_in_nI (N := 3) (by omega) (by decide)) (fun h92n3 A92n3 e_A92n3 M_h92n3 frh92n3 => ?_)
              try dsimp only at e_A92n3
              have FR_h92n3 := FR_h80n2.ztr frh92n3
              clear M_h80n2 FR_h80n2 frh92n3
              refine WX.s1 (L' := [(0, .ref m), (1, .int ((nI i) + 1))]) rfl rfl ?_
              rw [show ((nI i) + 1) = nI (i + 1) from nI_add i 1]
              refine WX.s1 rfl rfl ?_
              rw [nI_clamp (by omega)] at e_A80n2
              rw [nI_clamp (by omega)] at e_A92n3
              refine ih (i + 1) h92n3 A92n3 (by omega) M_h92n3 FR_h92n3 ((faL.ast e_A80n2 (by omega)).ast e_A92n3 (by omega)) ?_
              intro j hj
              by_cases z : j = i
              · rw [z]; refine ⟨?_, ?_⟩
                · rw [e_A92n3, upA_ne (by decide), e_A80n2, upA_same, pk_us]
                · rw [e_A92n3, upA_same, pk_us]
              · have q := hInv j (by omega)
                refine ⟨?_, ?_⟩
                · rw [e_A92n3, upA_ne (by decide), e_A80n2, upA_same, pk_un z]; exact q.1
                · rw [e_A92n3, upA_same, pk_un z, e_A80n2, upA_ne (by decide)]; exact q.2
          exact lp64 3 0 hL B2_ (by omega) M_hL FR_hL FaS.rf (fun j hj => absurd hj (Nat.not_lt_zero j))
        | succ t ih =>
          intro i hL AL ht M_hL FR_hL faL hInv
          refine WX.s1 rfl rfl ?_
          refine WX.s1 rfl rfl ?_
          refine WX.icmp rfl (fun c_41 => absurd c_41 (fun zz_ => absurd ((nI_leI (a := 192) (b := i) (by omega) (by omega)).mp zz_) (Nat.not_le.mpr (by omega)))) (fun c_41 => ?_)
          clear c_41
          refine WX.s1 rfl rfl ?_
          refine WX.mget rfl hm M_hL rfl ?_
          refine WX.s1 rfl rfl ?_
          refine WX.s1 rfl rfl ?_
          refine WX.mget rfl hm M_hL rfl ?_
          refine WX.s1 rfl rfl ?_
          refine WX.mald (c := 9) rfl hm M_hL (by decide) (by decide) (by decide) (by decide) (vp_in_nI (N := 192) (by omega) (by decide)) ?_
          rw [nI_clamp (by omega), faL 9 (by decide)]
          refine WX.mast (c := 13) rfl hm M_hL (by decide) (by decide) (by decide) (by decide) (vp_in_nI (N := 192) (by omega) (by decide)) (fun h55n4 A55n4 e_A55n4 M_h55n4 frh55n4 => ?_)
          try dsimp only at e_A55n4
          have FR_h55n4 := FR_hL.ztr frh55n4
          clear M_hL FR_hL frh55n4
          refine WX.s1 (L' := [(0, .ref m), (1, .int ((nI i) + 1))]) rfl rfl ?_
          rw [show ((nI i) + 1) = nI (i + 1) from nI_add i 1]
          refine WX.s1 rfl rfl ?_
          rw [nI_clamp (by omega)] at e_A55n4
          refine ih (i + 1) h55n4 A55n4 (by omega) M_h55n4 FR_h55n4 (faL.ast e_A55n4 (by omega)) ?_
          intro j hj
          by_cases z : j = i
          · rw [z, e_A55n4, upA_same, pk_us]
          · rw [e_A55n4, upA_same, pk_un z]; exact hInv j (by omega)
      exact lp37 192 0 h32n1 B1_ (by omega) M_h32n1 FR_h32n1 FaS.rf (fun j hj => absurd hj (Nat.not_lt_zero j))
    | succ t ih =>
      intro i hL AL ht M_hL FR_hL faL hInv
      refine WX.s1 rfl rfl ?_
      refine WX.s1 rfl rfl ?_
      refine WX.icmp rfl (fun c_6 => absurd c_6 (fun zz_ => absurd ((nI_leI (a := 256) (b := i) (by omega) (by omega)).mp zz_) (Nat.not_le.mpr (by omega)))) (fun c_6 => ?_)
      clear c_6
      refine WX.s1 rfl rfl ?_
      refine WX.mget rfl hm M_hL rfl ?_
      refine WX.s1 rfl rfl ?_
      refine WX.s1 rfl rfl ?_
      refine WX.mget rfl hm M_hL rfl ?_
      refine WX.s1 rfl rfl ?_
      refine WX.mald (c := 8) rfl hm M_hL (by decide) (by decide) (by decide) (by decide) (vp_in_nI (N := 256) (by omega) (by decide)) ?_
      rw [nI_clamp (by omega), faL 8 (by decide)]
      refine WX.mast (c := 12) rfl hm M_hL (by decide) (by decide) (by decide) (by decide) (vp_in_nI (N := 256) (by omega) (by decide)) (fun h20n5 A20n5 e_A20n5 M_h20n5 frh20n5 => ?_)
      try dsimp only at e_A20n5
      have FR_h20n5 := FR_hL.ztr frh20n5
      clear M_hL FR_hL frh20n5
      refine WX.s1 (L' := [(0, .ref m), (1, .int ((nI i) + 1))]) rfl rfl ?_
      rw [show ((nI i) + 1) = nI (i + 1) from nI_add i 1]
      refine WX.s1 rfl rfl ?_
      rw [nI_clamp (by omega)] at e_A20n5
      refine ih (i + 1) h20n5 A20n5 (by omega) M_h20n5 FR_h20n5 (faL.ast e_A20n5 (by omega)) ?_
      intro j hj
      by_cases z : j = i
      · rw [z, e_A20n5, upA_same, pk_us]
      · rw [e_A20n5, upA_same, pk_un z]; exact hInv j (by omega)
  exact lp2 256 0 h AR (by omega) M_h FR_h FaS.rf (fun j hj => absurd hj (Nat.not_lt_zero j))
set_option maxRecDepth 20000 in
theorem m_restS {d n s : Nat} {h : Nat → aE} {m : Nat} {I : Nat → Int32} {AR : Nat → Nat → Int32} {LN : Nat → Int64} {tp : Int32} (hm : m + 43 < n) (M_h : MAt h m I AR LN)  (K_I_20 : I 20 = tp) {Ψ : Option Value → aH → Prop} (kk : ∀ h' I' A', Fr h h' (inM m) → MAt h' m I' A' LN → Fi I I' (fun f => f = 15) → FaS AR A' (fun b => 8 ≤ b ∧ b ≤ 11) → I' 15 = tp → (∀ j, j < 256 → A' 8 j = AR 12 j) → (∀ j, j < 192 → A' 9 j = AR 13 j) → (∀ j, j < 3 → A' 10 j = AR 14 j ∧ A' 11 j = AR 15 j) → Ψ none (n, s, h')) : WO (mM (d + 1)) 204 [.ref m] (n, s, h) Ψ := by
  refine WO.of (Nat.le_of_ble_eq_true rfl) ?_
  have FR_h : Fr h h (inM m) := Fr.rf
  have FI_I : Fi I I (fun f => f = 15) := Fi.rf
  have FA_AR : FaS AR AR (fun b => 8 ≤ b ∧ b ≤ 11) := FaS.rf
  show WX (lk tX12_restore) (mM d) Ψ 0 [(0, .ref m)] [] (n, s, h)
  refine WX.s1 rfl rfl ?_
  refine WX.s1 (L' := [(0, .ref m), (1, .int 0)]) rfl rfl ?_
  have lp2 : ∀ (t i : Nat) (hL : Nat → aE) (AL : Nat → Nat → Int32), i + t = 256 → MAt hL m I AL LN → Fr h hL (inM m) → FaS AR AL (fun b => b = 8) → (∀ j, j < i → AL 8 j = AR 12 j) → WX (lk tX12_restore) (mM d) Ψ 2 [(0, .ref m), (1, .int (nI i))] [] (n, s, hL) := by
    clear M_h FR_h
    intro t
    induction t with
    | zero =>
      intro i hL AL ht M_hL FR_hL faL q1
      obtain rfl : i = 256 := by omega
      have FA_AL : FaS AR AL (fun b => 8 ≤ b ∧ b ≤ 11) := FA_AR.ztr (faL.mono (fun x hx => by omega))
      refine WX.s1 rfl rfl ?_
      refine WX.s1 rfl rfl ?_
      refine WX.icmp rfl (fun c_6 => ?_) (fun c_6 => absurd ((nI_leI (a := 256) (b := 256) (by omega) (by omega)).mpr (by omega)) c_6)
      clear c_6
      refine WX.s1 rfl rfl ?_
      refine WX.s1 rfl rfl ?_
      refine WX.mgetK (x := tp) rfl hm M_hL rfl K_I_20 ?_
      refine WX.mput rfl hm M_hL (rfl) (by decide) (fun _ => rfl) (fun h32n1 I32n1 e_I32n1 M_h32n1 frh32n1 => ?_)
      have FR_h32n1 := FR_hL.ztr frh32n1
      have FI_I32n1 : Fi I I32n1 (fun f => f = 15) := FI_I.zup e_I32n1 (by first | exact rfl | decide | omega)
      have K_I32n1_20 : I32n1 20 = tp := by rw [e_I32n1]; exact (pk_un (by decide)).trans K_I_20
      have K_I32n1_15 : I32n1 15 = tp := by rw [e_I32n1]; exact pk_us
      clear M_hL FR_hL FI_I e_I32n1 frh32n1 K_I_20
      obtain ⟨B1_, eB1⟩ : ∃ B, B = AL := ⟨_, rfl⟩
      rw [← eB1] at M_h32n1 FA_AL faL q1
      have FA_B1_ := FA_AL
      have fa1 := faL
      clear FA_AL faL
      clear eB1
      refine WX.s1 rfl rfl ?_
      refine WX.s1 (L' := [(0, .ref m), (1, .int 0)]) rfl rfl ?_
      have lp37 : ∀ (t i : Nat) (hL : Nat → aE) (AL : Nat → Nat → Int32), i + t = 192 → MAt hL m I32n1 AL LN → Fr h hL (inM m) → FaS B1_ AL (fun b => b = 9) → (∀ j, j < i → AL 9 j = B1_ 13 j) → WX (lk tX12_restore) (mM d) Ψ 37 [(0, .ref m), (1, .int (nI i))] [] (n, s, hL) := by
        clear M_h32n1 FR_h32n1
        intro t
        induction t with
        | zero =>
          intro i hL AL ht M_hL FR_hL faL q2
          obtain rfl : i = 192 := by omega
          have FA_AL : FaS AR AL (fun b => 8 ≤ b ∧ b ≤ 11) := FA_B1_.ztr (faL.mono (fun x hx => by omega))
          refine WX.s1 rfl rfl ?_
          refine WX.s1 rfl rfl ?_
          refine WX.icmp rfl (fun c_41 => ?_) (fun c_41 => absurd ((nI_leI (a := 192) (b := 192) (by omega) (by omega)).mpr (by omega)) c_41)
          clear c_41
          obtain ⟨B2_, eB2⟩ : ∃ B, B = AL := ⟨_, rfl⟩
          rw [← eB2] at M_hL FA_AL faL q2
          have FA_B2_ := FA_AL
          have fa2 := faL
          have r1 : ∀ j, j < 256 → B2_ 8 j = AR 12 j := fun j hj => by rw [faL 8 (by decide)]; exact q1 j hj
          have r2 : ∀ j, j < 192 → B2_ 9 j = AR 13 j := fun j hj => by rw [q2 j hj, fa1 13 (by decide)]
          have r3a : B2_ 14 = AR 14 := (fa2 14 (by decide)).trans (fa1 14 (by decide))
          have r3b : B2_ 15 = AR 15 := (fa2 15 (by decide)).trans (fa1 15 (by decide))
          clear FA_AL faL eB2 fa1 fa2 q1 q2
          refine WX.s1 rfl rfl ?_
          refine WX.s1 (L' := [(0, .ref m), (1, .int 0)]) rfl rfl ?_
          have lp64 : ∀ (t i : Nat) (hL : Nat → aE) (AL : Nat → Nat → Int32), i + t = 3 → MAt hL m I32n1 AL LN → Fr h hL (inM m) → FaS B2_ AL (fun b => b = 10 ∨ b = 11) → (∀ j, j < i → AL 10 j = B2_ 14 j ∧ AL 11 j = B2_ 15 j) → WX (lk tX12_restore) (mM d) Ψ 64 [(0, .ref m), (1, .int (nI i))] [] (n, s, hL) := by
            clear M_hL FR_hL
            intro t
            induction t with
            | zero =>
              intro i hL AL ht M_hL FR_hL faL q3
              obtain rfl : i = 3 := by omega
              have FA_AL : FaS AR AL (fun b => 8 ≤ b ∧ b ≤ 11) := FA_B2_.ztr (faL.mono (fun x hx => by omega))
              refine WX.s1 rfl rfl ?_
              refine WX.s1 rfl rfl ?_
              refine WX.icmp rfl (fun c_66 => ?_) (fun c_66 => absurd ((nI_leI (a := 3) (b := 3) (by omega) (by omega)).mpr (by omega)) c_66)
              clear c_66
              exact WX.ret0 rfl (kk hL _ AL FR_hL M_hL FI_I32n1 FA_AL K_I32n1_15 (fun j hj => by rw [faL 8 (by decide)]; exact r1 j hj) (fun j hj => by rw [faL 9 (by decide)]; exact r2 j hj) (fun j hj => by have z := q3 j hj; rw [r3a, r3b] at z; exact z))
            | succ t ih =>
              intro i hL AL ht M_hL FR_hL faL hInv
              refine WX.s1 rfl rfl ?_
              refine WX.s1 rfl rfl ?_
              refine WX.icmp rfl (fun c_66 => absurd c_66 (fun zz_ => absurd ((nI_leI (a := 3) (b := i) (by omega) (by omega)).mp zz_) (Nat.not_le.mpr (by omega)))) (fun c_66 => ?_)
              clear c_66
              refine WX.s1 rfl rfl ?_
              refine WX.mget rfl hm M_hL rfl ?_
              refine WX.s1 rfl rfl ?_
              refine WX.s1 rfl rfl ?_
              refine WX.mget rfl hm M_hL rfl ?_
              refine WX.s1 rfl rfl ?_
              refine WX.mald (c := 14) rfl hm M_hL (by decide) (by decide) (by decide) (by decide) (vp_in_nI (N := 3) (by omega) (by decide)) ?_
              rw [nI_clamp (by omega), faL 14 (by decide)]
              refine WX.mast (c := 10) rfl hm M_hL (by decide) (by decide) (by decide) (by decide) (vp_in_nI (N := 3) (by omega) (by decide)) (fun h80n2 A80n2 e_A80n2 M_h80n2 frh80n2 => ?_)
              try dsimp only at e_A80n2
              have FR_h80n2 := FR_hL.ztr frh80n2
              clear M_hL FR_hL frh80n2
              refine WX.s1 rfl rfl ?_
              refine WX.mget rfl hm M_h80n2 rfl ?_
              refine WX.s1 rfl rfl ?_
              refine WX.s1 rfl rfl ?_
              refine WX.mget rfl hm M_h80n2 rfl ?_
              refine WX.s1 rfl rfl ?_
              refine WX.mald (c := 15) rfl hm M_h80n2 (by decide) (by decide) (by decide) (by decide) (vp_in_nI (N := 3) (by omega) (by decide)) ?_
              rw [nI_clamp (by omega), e_A80n2, upA_ne (by decide), faL 15 (by decide)]
              refine WX.mast (c := 11) rfl hm M_h80n2 (by decide) (by decide) (by decide) (by decide) (vp_in_nI (N := 3) (by omega) (by decide)) (fun h92n3 A92n3 e_A92n3 M_h92n3 frh92n3 => ?_)
              try dsimp only at e_A92n3
              have FR_h92n3 := FR_h80n2.ztr frh92n3
              clear M_h80n2 FR_h80n2 frh92n3
              refine WX.s1 (L' := [(0, .ref m), (1, .int ((nI i) + 1))]) rfl rfl ?_
              rw [show ((nI i) + 1) = nI (i + 1) from nI_add i 1]
              refine WX.s1 rfl rfl ?_
              rw [nI_clamp (by omega)] at e_A80n2
              rw [nI_clamp (by omega)] at e_A92n3
              refine ih (i + 1) h92n3 A92n3 (by omega) M_h92n3 FR_h92n3 ((faL.ast e_A80n2 (by omega)).ast e_A92n3 (by omega)) ?_
              intro j hj
              by_cases z : j = i
              · rw [z]; refine ⟨?_, ?_⟩
                · rw [e_A92n3, upA_ne (by decide), e_A80n2, upA_same, pk_us]
                · rw [e_A92n3, upA_same, pk_us]
              · have q := hInv j (by omega)
                refine ⟨?_, ?_⟩
                · rw [e_A92n3, upA_ne (by decide), e_A80n2, upA_same, pk_un z]; exact q.1
                · rw [e_A92n3, upA_same, pk_un z, e_A80n2, upA_ne (by decide)]; exact q.2
          exact lp64 3 0 hL B2_ (by omega) M_hL FR_hL FaS.rf (fun j hj => absurd hj (Nat.not_lt_zero j))
        | succ t ih =>
          intro i hL AL ht M_hL FR_hL faL hInv
          refine WX.s1 rfl rfl ?_
          refine WX.s1 rfl rfl ?_
          refine WX.icmp rfl (fun c_41 => absurd c_41 (fun zz_ => absurd ((nI_leI (a := 192) (b := i) (by omega) (by omega)).mp zz_) (Nat.not_le.mpr (by omega)))) (fun c_41 => ?_)
          clear c_41
          refine WX.s1 rfl rfl ?_
          refine WX.mget rfl hm M_hL rfl ?_
          refine WX.s1 rfl rfl ?_
          refine WX.s1 rfl rfl ?_
          refine WX.mget rfl hm M_hL rfl ?_
          refine WX.s1 rfl rfl ?_
          refine WX.mald (c := 13) rfl hm M_hL (by decide) (by decide) (by decide) (by decide) (vp_in_nI (N := 192) (by omega) (by decide)) ?_
          rw [nI_clamp (by omega), faL 13 (by decide)]
          refine WX.mast (c := 9) rfl hm M_hL (by decide) (by decide) (by decide) (by decide) (vp_in_nI (N := 192) (by omega) (by decide)) (fun h55n4 A55n4 e_A55n4 M_h55n4 frh55n4 => ?_)
          try dsimp only at e_A55n4
          have FR_h55n4 := FR_hL.ztr frh55n4
          clear M_hL FR_hL frh55n4
          refine WX.s1 (L' := [(0, .ref m), (1, .int ((nI i) + 1))]) rfl rfl ?_
          rw [show ((nI i) + 1) = nI (i + 1) from nI_add i 1]
          refine WX.s1 rfl rfl ?_
          rw [nI_clamp (by omega)] at e_A55n4
          refine ih (i + 1) h55n4 A55n4 (by omega) M_h55n4 FR_h55n4 (faL.ast e_A55n4 (by omega)) ?_
          intro j hj
          by_cases z : j = i
          · rw [z, e_A55n4, upA_same, pk_us]
          · rw [e_A55n4, upA_same, pk_un z]; exact hInv j (by omega)
      exact lp37 192 0 h32n1 B1_ (by omega) M_h32n1 FR_h32n1 FaS.rf (fun j hj => absurd hj (Nat.not_lt_zero j))
    | succ t ih =>
      intro i hL AL ht M_hL FR_hL faL hInv
      refine WX.s1 rfl rfl ?_
      refine WX.s1 rfl rfl ?_
      refine WX.icmp rfl (fun c_6 => absurd c_6 (fun zz_ => absurd ((nI_leI (a := 256) (b := i) (by omega) (by omega)).mp zz_) (Nat.not_le.mpr (by omega)))) (fun c_6 => ?_)
      clear c_6
      refine WX.s1 rfl rfl ?_
      refine WX.mget rfl hm M_hL rfl ?_
      refine WX.s1 rfl rfl ?_
      refine WX.s1 rfl rfl ?_
      refine WX.mget rfl hm M_hL rfl ?_
      refine WX.s1 rfl rfl ?_
      refine WX.mald (c := 12) rfl hm M_hL (by decide) (by decide) (by decide) (by decide) (vp_in_nI (N := 256) (by omega) (by decide)) ?_
      rw [nI_clamp (by omega), faL 12 (by decide)]
      refine WX.mast (c := 8) rfl hm M_hL (by decide) (by decide) (by decide) (by decide) (vp_in_nI (N := 256) (by omega) (by decide)) (fun h20n5 A20n5 e_A20n5 M_h20n5 frh20n5 => ?_)
      try dsimp only at e_A20n5
      have FR_h20n5 := FR_hL.ztr frh20n5
      clear M_hL FR_hL frh20n5
      refine WX.s1 (L' := [(0, .ref m), (1, .int ((nI i) + 1))]) rfl rfl ?_
      rw [show ((nI i) + 1) = nI (i + 1) from nI_add i 1]
      refine WX.s1 rfl rfl ?_
      rw [nI_clamp (by omega)] at e_A20n5
      refine ih (i + 1) h20n5 A20n5 (by omega) M_h20n5 FR_h20n5 (faL.ast e_A20n5 (by omega)) ?_
      intro j hj
      by_cases z : j = i
      · rw [z, e_A20n5, upA_same, pk_us]
      · rw [e_A20n5, upA_same, pk_un z]; exact hInv j (by omega)
  exact lp2 256 0 h AR (by omega) M_h FR_h FaS.rf (fun j hj => absurd hj (Nat.not_lt_zero j))
set_option maxRecDepth 20000 in
theorem m_sayK {d n s : Nat} {h : Nat → aE} {m : Nat} {I : Nat → Int32} {AR : Nat → Nat → Int32} {LN : Nat → Int64} {l : List Nat} {x : Nat} (hm : m + 43 < n) (M_h : MAt h m I AR LN) (hF : FrameIs I AR l) (hl : l.length < 2 ^ 29)  {Ψ : Option Value → aH → Prop} (kk : ∀ h' I' A', Fr h h' (inM m) → MAt h' m I' A' LN → Fi I I' (fun f => f = 40) → Fa AR A' 25 → FrameIs I' A' (l ++ [x % 256]) → (∀ i, i ≠ l.length → A' 25 i = AR 25 i) → Ψ none (n, s, h')) : WO (mM (d + 1)) 150 [.ref m, .int (nI x)] (n, s, h) Ψ := by
  refine WO.of (Nat.le_of_ble_eq_true rfl) ?_
  have FR_h : Fr h h (inM m) := Fr.rf
  have FI_I : Fi I I (fun f => f = 40) := Fi.rf
  have K_I_40 : I 40 = nI l.length := hF.1
  show WX (lk tX12_say) (mM d) Ψ 0 [(0, .ref m), (1, .int (nI x))] [] (n, s, h)
  refine WX.s1 rfl rfl ?_
  refine WX.mgetK (x := (nI l.length)) rfl hm M_h rfl K_I_40 ?_
  refine WX.s1 rfl rfl ?_
  refine WX.icmp rfl (fun c_7 => ?_) (fun c_7 => ?_)
  · skip
    have n_7 : 12000 ≤ l.length := (nI_leI (a := 12000) (b := l.length) (by omega) (by omega)).mp c_7
    refine WX.s1 rfl rfl ?_
    refine WX.s1 rfl rfl ?_
    refine WX.mgetK (x := (nI l.length)) rfl hm M_h rfl K_I_40 ?_
    refine WX.s1 rfl rfl ?_
    refine WX.s1 (S' := [.int ((nI l.length) + 1), .ref m]) rfl rfl ?_
    rw [show ((nI l.length) + 1) = nI (l.length + 1) from nI_add l.length 1]
    refine WX.mput rfl hm M_h (rfl) (by decide) (fun _ => rfl) (fun h31n1 I31n1 e_I31n1 M_h31n1 frh31n1 => ?_)
    have FR_h31n1 := FR_h.ztr frh31n1
    have FI_I31n1 : Fi I I31n1 (fun f => f = 40) := FI_I.zup e_I31n1 (by first | exact rfl | decide | omega)
    have K_I31n1_40 : I31n1 40 = (nI (l.length + 1)) := by rw [e_I31n1]; exact pk_us.trans (rfl)
    clear M_h FR_h FI_I e_I31n1 frh31n1 K_I_40
    exact WX.ret0 rfl (kk h31n1 I31n1 AR FR_h31n1 M_h31n1 FI_I31n1 Fa.rf (hF.no n_7 K_I31n1_40) (fun _ _ => rfl))
  · skip
    have n_7 : l.length < 12000 := Nat.lt_of_not_le (fun zz_ => c_7 ((nI_leI (a := 12000) (b := l.length) (by omega) (by omega)).mpr zz_))
    refine WX.s1 rfl rfl ?_
    refine WX.mget rfl hm M_h rfl ?_
    refine WX.s1 rfl rfl ?_
    refine WX.mgetK (x := (nI l.length)) rfl hm M_h rfl K_I_40 ?_
    refine WX.s1 rfl rfl ?_
    refine WX.s1 rfl rfl ?_
    refine WX.s1 (S' := [.int ((nI x) &&& 255), .int (nI l.length), .ref (m + 25)]) rfl rfl ?_
    refine WX.mast (c := 25) rfl hm M_h (by decide) (by decide) (by decide) (by decide) (vp_in_nI (N := 12000) (by omega) (by decide)) (fun h23n2 A23n2 e_A23n2 M_h23n2 frh23n2 => ?_)
    try dsimp only at e_A23n2
    have FR_h23n2 := FR_h.ztr frh23n2
    clear M_h FR_h frh23n2
    refine WX.s1 rfl rfl ?_
    refine WX.s1 rfl rfl ?_
    refine WX.mgetK (x := (nI l.length)) rfl hm M_h23n2 rfl K_I_40 ?_
    refine WX.s1 rfl rfl ?_
    refine WX.s1 (S' := [.int ((nI l.length) + 1), .ref m]) rfl rfl ?_
    rw [show ((nI l.length) + 1) = nI (l.length + 1) from nI_add l.length 1]
    refine WX.mput rfl hm M_h23n2 (rfl) (by decide) (fun _ => rfl) (fun h31n3 I31n3 e_I31n3 M_h31n3 frh31n3 => ?_)
    have FR_h31n3 := FR_h23n2.ztr frh31n3
    have FI_I31n3 : Fi I I31n3 (fun f => f = 40) := FI_I.zup e_I31n3 (by first | exact rfl | decide | omega)
    have K_I31n3_40 : I31n3 40 = (nI (l.length + 1)) := by rw [e_I31n3]; exact pk_us.trans (rfl)
    clear M_h23n2 FR_h23n2 FI_I e_I31n3 frh31n3 K_I_40
    have hF2 := hF.st (x := x % 256) K_I31n3_40
    rw [byteN, nI_clamp (by omega)] at e_A23n2
    rw [← e_A23n2] at hF2
    exact WX.ret0 rfl (kk h31n3 I31n3 A23n2 FR_h31n3 M_h31n3 FI_I31n3 (Fa.rf.ast e_A23n2) hF2 (fun i hi => by rw [e_A23n2, upA_same, pk_un hi]))
set_option maxRecDepth 20000 in
theorem m_sayNumK {d n s : Nat} {h : Nat → aE} {m : Nat} {I : Nat → Int32} {AR : Nat → Nat → Int32} {LN : Nat → Int64} {l : List Nat} {b : Nat} {v : Int64} (hm : m + 43 < n) (M_h : MAt h m I AR LN) (hF : FrameIs I AR l) (hb : b ≤ 8) (hl : l.length + b < 2 ^ 29)  {Ψ : Option Value → aH → Prop} (kk : ∀ h' I' A', Fr h h' (inM m) → MAt h' m I' A' LN → Fi I I' (fun f => f = 40) → Fa AR A' 25 → FrameIs I' A' (l ++ leL v b) → (∀ i, (i < l.length ∨ l.length + b ≤ i) → A' 25 i = AR 25 i) → Ψ none (n, s, h')) : WO (mM (d + 2)) 151 [.ref m, .long v, .int (nI b)] (n, s, h) Ψ := by
  refine WO.of (Nat.le_of_ble_eq_true rfl) ?_
  have FR_h : Fr h h (inM m) := Fr.rf
  have FI_I : Fi I I (fun f => f = 40) := Fi.rf
  show WX (lk tX12_sayNumber) (mM (d + 1)) Ψ 0 [(0, .ref m), (1, .long v), (3, .int (nI b))] [] (n, s, h)
  refine WX.s1 rfl rfl ?_
  refine WX.s1 (L' := [(0, .ref m), (1, .long v), (3, .int (nI b)), (4, .int 0)]) rfl rfl ?_
  have lp : ∀ (t i : Nat) (hL : Nat → aE) (IL : Nat → Int32) (AL : Nat → Nat → Int32), i + t = b → Fr h hL (inM m) → MAt hL m IL AL LN → Fi I IL (fun f => f = 40) → Fa AR AL 25 → FrameIs IL AL (l ++ leL v i) → (∀ j, (j < l.length ∨ l.length + i ≤ j) → AL 25 j = AR 25 j) → WX (lk tX12_sayNumber) (mM (d + 1)) Ψ 3 [(0, .ref m), (1, .long v), (3, .int (nI b)), (4, .int (nI i))] [] (n, s, hL) := by
    clear M_h FR_h FI_I
    intro t
    induction t with
    | zero =>
      intro i hL IL AL ht FR_hL M_hL FI_IL FA_AL hInv hOut
      have hle : (l ++ leL v i).length = l.length + i := by rw [List.length_append, leL_len]
      obtain rfl : i = b := by omega
      refine WX.s1 rfl rfl ?_
      refine WX.s1 rfl rfl ?_
      refine WX.icmp rfl (fun c_6 => ?_) (fun c_6 => absurd ((nI_leI (a := i) (b := i) (by omega) (by omega)).mpr (by omega)) c_6)
      clear c_6
      exact WX.ret0 rfl (kk hL IL AL FR_hL M_hL FI_IL FA_AL hInv hOut)
    | succ t ih =>
      intro i hL IL AL ht FR_hL M_hL FI_IL FA_AL hInv hOut
      have hle : (l ++ leL v i).length = l.length + i := by rw [List.length_append, leL_len]
      refine WX.s1 rfl rfl ?_
      refine WX.s1 rfl rfl ?_
      refine WX.icmp rfl (fun c_6 => absurd c_6 (fun zz_ => absurd ((nI_leI (a := b) (b := i) (by omega) (by omega)).mp zz_) (Nat.not_le.mpr (by omega)))) (fun c_6 => ?_)
      clear c_6
      refine WX.s1 rfl rfl ?_
      refine WX.s1 rfl rfl ?_
      refine WX.s1 rfl rfl ?_
      refine WX.s1 rfl rfl ?_
      refine WX.s1 (S' := [.int (8 * (nI i)), .long v, .ref m]) rfl rfl ?_
      refine WX.s1 (S' := [.long (v >>> ((8 * (nI i)).toInt64 &&& 63)), .ref m]) rfl rfl ?_
      refine WX.s1 rfl rfl ?_
      refine WX.s1 (S' := [.long ((v >>> ((8 * (nI i)).toInt64 &&& 63)) &&& 255), .ref m]) rfl rfl ?_
      refine WX.s1 (S' := [.int (((v >>> ((8 * (nI i)).toInt64 &&& 63)) &&& 255).toInt32), .ref m]) rfl rfl ?_
      rw [leN v (show i < 8 by omega)]
      refine WX.callC (vs := [.ref m, .int (nI (leB v i))]) rfl rfl rfl (Nat.le_of_ble_eq_true rfl) (M_hL.rcv hm) ?_
      refine m_sayK hm M_hL hInv (by omega) (fun h2 I2 A2 fr2 M_h2 fi2 fa2 hF2 ho2 => ?_)
      have hb8 : leB v i < 256 := Nat.mod_lt _ (by decide)
      rw [Nat.mod_eq_of_lt hb8] at hF2
      show WX _ _ _ 25 [(0, .ref m), (1, .long v), (3, .int (nI b)), (4, .int (nI i))] [] (n, s, h2)
      refine WX.s1 (L' := [(0, .ref m), (1, .long v), (3, .int (nI b)), (4, .int ((nI i) + 1))]) rfl rfl ?_
      refine WX.s1 rfl rfl ?_
      rw [nI_1 i]
      refine ih (i + 1) h2 I2 A2 (by omega) (FR_hL.ztr fr2) M_h2 (FI_IL.ztr fi2) (FA_AL.ztr fa2) ?_ (fun j hj => by rw [ho2 j (by omega)]; exact hOut j (by omega))
      rw [show leL v (i + 1) = leL v i ++ [leB v i] by simp [leL, List.range_succ], ← List.append_assoc]
      exact hF2
  exact lp b 0 h I AR (by omega) FR_h M_h FI_I Fa.rf (by rw [show leL v 0 = [] from rfl, List.append_nil]; exact hF) (fun _ _ => rfl)
theorem FrameIs.patch {I J : Nat → Int32} {A B : Nat → Nat → Int32} {l x r y : List Nat} (F : FrameIs I A (l ++ (x ++ r))) (hx : x.length = y.length) (G : FrameIs J B (l ++ y)) (ho : ∀ i, (i < l.length ∨ l.length + y.length ≤ i) → B 25 i = A 25 i) {K : Nat → Int32} (hK : K 40 = nI (l ++ (x ++ r)).length) : FrameIs K B (l ++ (y ++ r)) := by
  have hl : (l ++ (y ++ r)).length = (l ++ (x ++ r)).length := by simp only [List.length_append, hx]
  refine ⟨by rw [hl]; exact hK, fun i hi h2 => ?_⟩
  by_cases z : i < l.length + y.length
  · rw [G.2 i (by rw [List.length_append]; exact z) h2, ← List.append_assoc, getD_l (l := l ++ y) (r := r) (by rw [List.length_append]; exact z)]
  · rw [ho i (Or.inr (by omega)), F.2 i (by rw [← hl]; exact hi) h2, ← List.append_assoc, ← List.append_assoc, getD_r (l := l ++ x) (r := r) (by rw [List.length_append]; omega), getD_r (l := l ++ y) (r := r) (by rw [List.length_append]; omega), List.length_append, List.length_append, hx]
theorem bh_v {nn kd la : Nat} (h : 8 * nn + 2 * kd + la < 2 ^ 31) : (nI (8 * nn + 2 * kd + la)).toInt64 = lN (8 * nn + 2 * kd + la) := nI_l h
set_option maxRecDepth 20000 in
theorem m_bh00 {d n s : Nat} {h : Nat → aE} {m : Nat} {I : Nat → Int32} {AR : Nat → Nat → Int32} {LN : Nat → Int64} {l nn_ : List Nat} {nn kd : Nat} (hm : m + 43 < n) (M_h : MAt h m I AR LN) (hF : FrameIs I AR l) (hl : l.length < 2 ^ 28) (hnn : nn < 2 ^ 24) (hkd : kd ≤ 2)  {Ψ : Option Value → aH → Prop} (kk : ∀ h' I' A', Fr h h' (inM m) → MAt h' m I' A' LN → Fi I I' (fun f => f = 40) → Fa AR A' 25 → FrameIs I' A' (l ++ leBy (8 * nn + 2 * kd + 0) 3) → Ψ none (n, s, h')) : WO (mM (d + 3)) 206 [.ref m, .int (nI l.length), .int (nI nn), .int (nI kd), .int 0] (n, s, h) Ψ := by
  refine WO.of (Nat.le_of_ble_eq_true rfl) ?_
  have FR_h : Fr h h (inM m) := Fr.rf
  have FI_I : Fi I I (fun f => f = 40) := Fi.rf
  have K_I_40 : I 40 = nI l.length := hF.1
  show WX (lk tX12_sayBlockHead) (mM (d + 2)) Ψ 0 [(0, .ref m), (1, .int (nI l.length)), (2, .int (nI nn)), (3, .int (nI kd)), (4, .int 0)] [] (n, s, h)
  refine WX.s1 rfl rfl ?_
  refine WX.mgetK (x := (nI l.length)) rfl hm M_h rfl K_I_40 ?_
  refine WX.s1 (L' := [(0, .ref m), (1, .int (nI l.length)), (2, .int (nI nn)), (3, .int (nI kd)), (4, .int 0), (5, .int (nI l.length))]) rfl rfl ?_
  refine WX.s1 rfl rfl ?_
  refine WX.s1 rfl rfl ?_
  refine WX.mput rfl hm M_h (rfl) (by decide) (fun _ => rfl) (fun h8n1 I8n1 e_I8n1 M_h8n1 frh8n1 => ?_)
  have FR_h8n1 := FR_h.ztr frh8n1
  have FI_I8n1 : Fi I I8n1 (fun f => f = 40) := FI_I.zup e_I8n1 (by first | exact rfl | decide | omega)
  have K_I8n1_40 : I8n1 40 = (nI l.length) := by rw [e_I8n1]; exact pk_us
  clear M_h FR_h FI_I e_I8n1 frh8n1 K_I_40
  refine WX.s1 rfl rfl ?_
  refine WX.s1 rfl rfl ?_
  refine WX.s1 rfl rfl ?_
  refine WX.s1 (S' := [.int (8 * (nI nn)), .ref m]) rfl rfl ?_
  rw [show (8 * (nI nn)) = nI (8 * nn) from (Int32.ofNat_mul 8 nn).symm]
  refine WX.s1 rfl rfl ?_
  refine WX.s1 rfl rfl ?_
  refine WX.s1 (S' := [.int (2 * (nI kd)), .int (nI (8 * nn)), .ref m]) rfl rfl ?_
  rw [show (2 * (nI kd)) = nI (2 * kd) from (Int32.ofNat_mul 2 kd).symm]
  refine WX.s1 (S' := [.int ((nI (8 * nn)) + (nI (2 * kd))), .ref m]) rfl rfl ?_
  rw [show ((nI (8 * nn)) + (nI (2 * kd))) = nI (8 * nn + 2 * kd) from nI_add (8 * nn) (2 * kd)]
  refine WX.s1 rfl rfl ?_
  refine WX.if_ rfl (fun c_22 => ?_) (fun c_22 => absurd (by decide) c_22)
  clear c_22
  refine WX.s1 rfl rfl ?_
  refine WX.s1 (S' := [.int ((nI (8 * nn + 2 * kd)) + 0), .ref m]) rfl rfl ?_
  rw [show ((nI (8 * nn + 2 * kd)) + 0) = nI (8 * nn + 2 * kd + 0) from nI_add (8 * nn + 2 * kd) 0]
  refine WX.s1 (S' := [.long ((nI (8 * nn + 2 * kd + 0)).toInt64), .ref m]) rfl rfl ?_
  rw [nI_l (n := 8 * nn + 2 * kd + 0) (by omega)]
  refine WX.s1 rfl rfl ?_
  have hF1 : FrameIs I8n1 AR l := ⟨K_I8n1_40, hF.2⟩
  refine WX.callC (vs := [.ref m, .long (lN (8 * nn + 2 * kd + 0)), .int (nI 3)]) rfl rfl rfl (Nat.le_of_ble_eq_true rfl) (M_h8n1.rcv hm) ?_
  refine m_sayNumK hm M_h8n1 hF1 (by decide) (by omega) (fun h2 I2 A2 fr2 M_h2 fi2 fa2 hF2 ho2 => ?_)
  rw [leL_lN (by omega)] at hF2
  have FR_h2 := FR_h8n1.ztr fr2
  have FI_I2 := FI_I8n1.ztr fi2
  have K_I2_40 : I2 40 = nI (l.length + 3) := by have q := hF2.1; rw [List.length_append, leBy_len] at q; exact q
  show WX _ _ _ 36 [(0, .ref m), (1, .int (nI l.length)), (2, .int (nI nn)), (3, .int (nI kd)), (4, .int 0), (5, .int (nI l.length))] [] (n, s, h2)
  refine WX.s1 rfl rfl ?_
  refine WX.s1 rfl rfl ?_
  refine WX.s1 rfl rfl ?_
  refine WX.mgetK (x := (nI (l.length + 3))) rfl hm M_h2 rfl K_I2_40 ?_
  refine WX.icmp rfl (fun c_43 => ?_) (fun c_43 => absurd ((nI_leI (a := l.length) (b := l.length + 3) (by omega) (by omega)).mpr (by omega)) c_43)
  clear c_43
  refine WX.s1 rfl rfl ?_
  refine WX.mgetK (x := (nI (l.length + 3))) rfl hm M_h2 rfl K_I2_40 ?_
  refine WX.mput rfl hm M_h2 (rfl) (by decide) (fun _ => rfl) (fun h55n2 I55n2 e_I55n2 M_h55n2 frh55n2 => ?_)
  have FR_h55n2 := FR_h2.ztr frh55n2
  have FI_I55n2 : Fi I I55n2 (fun f => f = 40) := FI_I2.zup e_I55n2 (by first | exact rfl | decide | omega)
  have K_I55n2_40 : I55n2 40 = (nI (l.length + 3)) := by rw [e_I55n2]; exact pk_us
  clear M_h2 FR_h2 FI_I2 e_I55n2 frh55n2 K_I2_40
  exact WX.ret0 rfl (kk h55n2 I55n2 A2 FR_h55n2 M_h55n2 FI_I55n2 fa2 ⟨by rw [List.length_append, leBy_len]; exact K_I55n2_40, hF2.2⟩)
set_option maxRecDepth 20000 in
theorem m_bh01 {d n s : Nat} {h : Nat → aE} {m : Nat} {I : Nat → Int32} {AR : Nat → Nat → Int32} {LN : Nat → Int64} {l nn_ : List Nat} {nn kd : Nat} (hm : m + 43 < n) (M_h : MAt h m I AR LN) (hF : FrameIs I AR l) (hl : l.length < 2 ^ 28) (hnn : nn < 2 ^ 24) (hkd : kd ≤ 2)  {Ψ : Option Value → aH → Prop} (kk : ∀ h' I' A', Fr h h' (inM m) → MAt h' m I' A' LN → Fi I I' (fun f => f = 40) → Fa AR A' 25 → FrameIs I' A' (l ++ leBy (8 * nn + 2 * kd + 1) 3) → Ψ none (n, s, h')) : WO (mM (d + 3)) 206 [.ref m, .int (nI l.length), .int (nI nn), .int (nI kd), .int 1] (n, s, h) Ψ := by
  refine WO.of (Nat.le_of_ble_eq_true rfl) ?_
  have FR_h : Fr h h (inM m) := Fr.rf
  have FI_I : Fi I I (fun f => f = 40) := Fi.rf
  have K_I_40 : I 40 = nI l.length := hF.1
  show WX (lk tX12_sayBlockHead) (mM (d + 2)) Ψ 0 [(0, .ref m), (1, .int (nI l.length)), (2, .int (nI nn)), (3, .int (nI kd)), (4, .int 1)] [] (n, s, h)
  refine WX.s1 rfl rfl ?_
  refine WX.mgetK (x := (nI l.length)) rfl hm M_h rfl K_I_40 ?_
  refine WX.s1 (L' := [(0, .ref m), (1, .int (nI l.length)), (2, .int (nI nn)), (3, .int (nI kd)), (4, .int 1), (5, .int (nI l.length))]) rfl rfl ?_
  refine WX.s1 rfl rfl ?_
  refine WX.s1 rfl rfl ?_
  refine WX.mput rfl hm M_h (rfl) (by decide) (fun _ => rfl) (fun h8n1 I8n1 e_I8n1 M_h8n1 frh8n1 => ?_)
  have FR_h8n1 := FR_h.ztr frh8n1
  have FI_I8n1 : Fi I I8n1 (fun f => f = 40) := FI_I.zup e_I8n1 (by first | exact rfl | decide | omega)
  have K_I8n1_40 : I8n1 40 = (nI l.length) := by rw [e_I8n1]; exact pk_us
  clear M_h FR_h FI_I e_I8n1 frh8n1 K_I_40
  refine WX.s1 rfl rfl ?_
  refine WX.s1 rfl rfl ?_
  refine WX.s1 rfl rfl ?_
  refine WX.s1 (S' := [.int (8 * (nI nn)), .ref m]) rfl rfl ?_
  rw [show (8 * (nI nn)) = nI (8 * nn) from (Int32.ofNat_mul 8 nn).symm]
  refine WX.s1 rfl rfl ?_
  refine WX.s1 rfl rfl ?_
  refine WX.s1 (S' := [.int (2 * (nI kd)), .int (nI (8 * nn)), .ref m]) rfl rfl ?_
  rw [show (2 * (nI kd)) = nI (2 * kd) from (Int32.ofNat_mul 2 kd).symm]
  refine WX.s1 (S' := [.int ((nI (8 * nn)) + (nI (2 * kd))), .ref m]) rfl rfl ?_
  rw [show ((nI (8 * nn)) + (nI (2 * kd))) = nI (8 * nn + 2 * kd) from nI_add (8 * nn) (2 * kd)]
  refine WX.s1 rfl rfl ?_
  refine WX.if_ rfl (fun c_22 => absurd c_22 (by decide)) (fun c_22 => ?_)
  clear c_22
  refine WX.s1 rfl rfl ?_
  refine WX.s1 rfl rfl ?_
  refine WX.s1 (S' := [.int ((nI (8 * nn + 2 * kd)) + 1), .ref m]) rfl rfl ?_
  rw [show ((nI (8 * nn + 2 * kd)) + 1) = nI (8 * nn + 2 * kd + 1) from nI_add (8 * nn + 2 * kd) 1]
  refine WX.s1 (S' := [.long ((nI (8 * nn + 2 * kd + 1)).toInt64), .ref m]) rfl rfl ?_
  rw [nI_l (n := 8 * nn + 2 * kd + 1) (by omega)]
  refine WX.s1 rfl rfl ?_
  have hF1 : FrameIs I8n1 AR l := ⟨K_I8n1_40, hF.2⟩
  refine WX.callC (vs := [.ref m, .long (lN (8 * nn + 2 * kd + 1)), .int (nI 3)]) rfl rfl rfl (Nat.le_of_ble_eq_true rfl) (M_h8n1.rcv hm) ?_
  refine m_sayNumK hm M_h8n1 hF1 (by decide) (by omega) (fun h2 I2 A2 fr2 M_h2 fi2 fa2 hF2 ho2 => ?_)
  rw [leL_lN (by omega)] at hF2
  have FR_h2 := FR_h8n1.ztr fr2
  have FI_I2 := FI_I8n1.ztr fi2
  have K_I2_40 : I2 40 = nI (l.length + 3) := by have q := hF2.1; rw [List.length_append, leBy_len] at q; exact q
  show WX _ _ _ 36 [(0, .ref m), (1, .int (nI l.length)), (2, .int (nI nn)), (3, .int (nI kd)), (4, .int 1), (5, .int (nI l.length))] [] (n, s, h2)
  refine WX.s1 rfl rfl ?_
  refine WX.s1 rfl rfl ?_
  refine WX.s1 rfl rfl ?_
  refine WX.mgetK (x := (nI (l.length + 3))) rfl hm M_h2 rfl K_I2_40 ?_
  refine WX.icmp rfl (fun c_43 => ?_) (fun c_43 => absurd ((nI_leI (a := l.length) (b := l.length + 3) (by omega) (by omega)).mpr (by omega)) c_43)
  clear c_43
  refine WX.s1 rfl rfl ?_
  refine WX.mgetK (x := (nI (l.length + 3))) rfl hm M_h2 rfl K_I2_40 ?_
  refine WX.mput rfl hm M_h2 (rfl) (by decide) (fun _ => rfl) (fun h55n2 I55n2 e_I55n2 M_h55n2 frh55n2 => ?_)
  have FR_h55n2 := FR_h2.ztr frh55n2
  have FI_I55n2 : Fi I I55n2 (fun f => f = 40) := FI_I2.zup e_I55n2 (by first | exact rfl | decide | omega)
  have K_I55n2_40 : I55n2 40 = (nI (l.length + 3)) := by rw [e_I55n2]; exact pk_us
  clear M_h2 FR_h2 FI_I2 e_I55n2 frh55n2 K_I2_40
  exact WX.ret0 rfl (kk h55n2 I55n2 A2 FR_h55n2 M_h55n2 FI_I55n2 fa2 ⟨by rw [List.length_append, leBy_len]; exact K_I55n2_40, hF2.2⟩)
set_option maxRecDepth 20000 in
theorem m_bhP0 {d n s : Nat} {h : Nat → aE} {m : Nat} {I : Nat → Int32} {AR : Nat → Nat → Int32} {LN : Nat → Int64} {l x rr nn_ : List Nat} {nn kd : Nat} (hm : m + 43 < n) (M_h : MAt h m I AR LN) (hF : FrameIs I AR (l ++ (x ++ rr))) (hl : (l ++ (x ++ rr)).length < 2 ^ 28) (hnn : nn < 2 ^ 24) (hkd : kd ≤ 2) (hx : x.length = 3)  {Ψ : Option Value → aH → Prop} (kk : ∀ h' I' A', Fr h h' (inM m) → MAt h' m I' A' LN → Fi I I' (fun f => f = 40) → Fa AR A' 25 → FrameIs I' A' (l ++ (leBy (8 * nn + 2 * kd + 0) 3 ++ rr)) → Ψ none (n, s, h')) : WO (mM (d + 3)) 206 [.ref m, .int (nI l.length), .int (nI nn), .int (nI kd), .int 0] (n, s, h) Ψ := by
  refine WO.of (Nat.le_of_ble_eq_true rfl) ?_
  have FR_h : Fr h h (inM m) := Fr.rf
  have FI_I : Fi I I (fun f => f = 40) := Fi.rf
  have K_I_40 : I 40 = nI (l ++ (x ++ rr)).length := hF.1
  have hll : (l ++ (x ++ rr)).length = l.length + 3 + rr.length := by simp only [List.length_append, hx]; omega
  show WX (lk tX12_sayBlockHead) (mM (d + 2)) Ψ 0 [(0, .ref m), (1, .int (nI l.length)), (2, .int (nI nn)), (3, .int (nI kd)), (4, .int 0)] [] (n, s, h)
  refine WX.s1 rfl rfl ?_
  refine WX.mgetK (x := (nI (l ++ (x ++ rr)).length)) rfl hm M_h rfl K_I_40 ?_
  refine WX.s1 (L' := [(0, .ref m), (1, .int (nI l.length)), (2, .int (nI nn)), (3, .int (nI kd)), (4, .int 0), (5, .int (nI (l ++ (x ++ rr)).length))]) rfl rfl ?_
  refine WX.s1 rfl rfl ?_
  refine WX.s1 rfl rfl ?_
  refine WX.mput rfl hm M_h (rfl) (by decide) (fun _ => rfl) (fun h8n1 I8n1 e_I8n1 M_h8n1 frh8n1 => ?_)
  have FR_h8n1 := FR_h.ztr frh8n1
  have FI_I8n1 : Fi I I8n1 (fun f => f = 40) := FI_I.zup e_I8n1 (by first | exact rfl | decide | omega)
  have K_I8n1_40 : I8n1 40 = (nI l.length) := by rw [e_I8n1]; exact pk_us
  clear M_h FR_h FI_I e_I8n1 frh8n1 K_I_40
  refine WX.s1 rfl rfl ?_
  refine WX.s1 rfl rfl ?_
  refine WX.s1 rfl rfl ?_
  refine WX.s1 (S' := [.int (8 * (nI nn)), .ref m]) rfl rfl ?_
  rw [show (8 * (nI nn)) = nI (8 * nn) from (Int32.ofNat_mul 8 nn).symm]
  refine WX.s1 rfl rfl ?_
  refine WX.s1 rfl rfl ?_
  refine WX.s1 (S' := [.int (2 * (nI kd)), .int (nI (8 * nn)), .ref m]) rfl rfl ?_
  rw [show (2 * (nI kd)) = nI (2 * kd) from (Int32.ofNat_mul 2 kd).symm]
  refine WX.s1 (S' := [.int ((nI (8 * nn)) + (nI (2 * kd))), .ref m]) rfl rfl ?_
  rw [show ((nI (8 * nn)) + (nI (2 * kd))) = nI (8 * nn + 2 * kd) from nI_add (8 * nn) (2 * kd)]
  refine WX.s1 rfl rfl ?_
  refine WX.if_ rfl (fun c_22 => ?_) (fun c_22 => absurd (by decide) c_22)
  clear c_22
  refine WX.s1 rfl rfl ?_
  refine WX.s1 (S' := [.int ((nI (8 * nn + 2 * kd)) + 0), .ref m]) rfl rfl ?_
  rw [show ((nI (8 * nn + 2 * kd)) + 0) = nI (8 * nn + 2 * kd + 0) from nI_add (8 * nn + 2 * kd) 0]
  refine WX.s1 (S' := [.long ((nI (8 * nn + 2 * kd + 0)).toInt64), .ref m]) rfl rfl ?_
  rw [nI_l (n := 8 * nn + 2 * kd + 0) (by omega)]
  refine WX.s1 rfl rfl ?_
  have hF1 : FrameIs I8n1 AR l := (FrameIs.pre (r := x ++ rr) hF K_I8n1_40)
  refine WX.callC (vs := [.ref m, .long (lN (8 * nn + 2 * kd + 0)), .int (nI 3)]) rfl rfl rfl (Nat.le_of_ble_eq_true rfl) (M_h8n1.rcv hm) ?_
  refine m_sayNumK hm M_h8n1 hF1 (by decide) (by omega) (fun h2 I2 A2 fr2 M_h2 fi2 fa2 hF2 ho2 => ?_)
  rw [leL_lN (by omega)] at hF2
  have FR_h2 := FR_h8n1.ztr fr2
  have FI_I2 := FI_I8n1.ztr fi2
  have K_I2_40 : I2 40 = nI (l.length + 3) := by have q := hF2.1; rw [List.length_append, leBy_len] at q; exact q
  show WX _ _ _ 36 [(0, .ref m), (1, .int (nI l.length)), (2, .int (nI nn)), (3, .int (nI kd)), (4, .int 0), (5, .int (nI (l ++ (x ++ rr)).length))] [] (n, s, h2)
  refine WX.s1 rfl rfl ?_
  refine WX.s1 rfl rfl ?_
  refine WX.s1 rfl rfl ?_
  refine WX.mgetK (x := (nI (l.length + 3))) rfl hm M_h2 rfl K_I2_40 ?_
  refine WX.icmp rfl (fun c_43 => ?_) (fun c_43 => ?_)
  · skip
    have n_43 : ((l ++ (x ++ rr)).length) ≤ (l.length + 3) := (nI_leI (a := (l ++ (x ++ rr)).length) (b := l.length + 3) (by omega) (by omega)).mp c_43
    refine WX.s1 rfl rfl ?_
    refine WX.mgetK (x := (nI (l.length + 3))) rfl hm M_h2 rfl K_I2_40 ?_
    refine WX.mput rfl hm M_h2 (rfl) (by decide) (fun _ => rfl) (fun h55n2 I55n2 e_I55n2 M_h55n2 frh55n2 => ?_)
    have FR_h55n2 := FR_h2.ztr frh55n2
    have FI_I55n2 : Fi I I55n2 (fun f => f = 40) := FI_I2.zup e_I55n2 (by first | exact rfl | decide | omega)
    have K_I55n2_40 : I55n2 40 = (nI (l.length + 3)) := by rw [e_I55n2]; exact pk_us
    clear M_h2 FR_h2 FI_I2 e_I55n2 frh55n2 K_I2_40
    exact WX.ret0 rfl (kk h55n2 I55n2 A2 FR_h55n2 M_h55n2 FI_I55n2 fa2 (FrameIs.patch hF (by rw [hx, leBy_len]) hF2 (by rw [leBy_len]; exact ho2) (by rw [K_I55n2_40, show (l ++ (x ++ rr)).length = l.length + 3 by omega])))
  · skip
    have n_43 : (l.length + 3) < ((l ++ (x ++ rr)).length) := Nat.lt_of_not_le (fun zz_ => c_43 ((nI_leI (a := (l ++ (x ++ rr)).length) (b := l.length + 3) (by omega) (by omega)).mpr zz_))
    refine WX.s1 rfl rfl ?_
    refine WX.s1 rfl rfl ?_
    refine WX.mput rfl hm M_h2 (rfl) (by decide) (fun _ => rfl) (fun h55n3 I55n3 e_I55n3 M_h55n3 frh55n3 => ?_)
    have FR_h55n3 := FR_h2.ztr frh55n3
    have FI_I55n3 : Fi I I55n3 (fun f => f = 40) := FI_I2.zup e_I55n3 (by first | exact rfl | decide | omega)
    have K_I55n3_40 : I55n3 40 = (nI (l ++ (x ++ rr)).length) := by rw [e_I55n3]; exact pk_us
    clear M_h2 FR_h2 FI_I2 e_I55n3 frh55n3 K_I2_40
    exact WX.ret0 rfl (kk h55n3 I55n3 A2 FR_h55n3 M_h55n3 FI_I55n3 fa2 (FrameIs.patch hF (by rw [hx, leBy_len]) hF2 (by rw [leBy_len]; exact ho2) (by rw [K_I55n3_40])))
set_option maxRecDepth 20000 in
theorem m_bhP1 {d n s : Nat} {h : Nat → aE} {m : Nat} {I : Nat → Int32} {AR : Nat → Nat → Int32} {LN : Nat → Int64} {l x rr nn_ : List Nat} {nn kd : Nat} (hm : m + 43 < n) (M_h : MAt h m I AR LN) (hF : FrameIs I AR (l ++ (x ++ rr))) (hl : (l ++ (x ++ rr)).length < 2 ^ 28) (hnn : nn < 2 ^ 24) (hkd : kd ≤ 2) (hx : x.length = 3)  {Ψ : Option Value → aH → Prop} (kk : ∀ h' I' A', Fr h h' (inM m) → MAt h' m I' A' LN → Fi I I' (fun f => f = 40) → Fa AR A' 25 → FrameIs I' A' (l ++ (leBy (8 * nn + 2 * kd + 1) 3 ++ rr)) → Ψ none (n, s, h')) : WO (mM (d + 3)) 206 [.ref m, .int (nI l.length), .int (nI nn), .int (nI kd), .int 1] (n, s, h) Ψ := by
  refine WO.of (Nat.le_of_ble_eq_true rfl) ?_
  have FR_h : Fr h h (inM m) := Fr.rf
  have FI_I : Fi I I (fun f => f = 40) := Fi.rf
  have K_I_40 : I 40 = nI (l ++ (x ++ rr)).length := hF.1
  have hll : (l ++ (x ++ rr)).length = l.length + 3 + rr.length := by simp only [List.length_append, hx]; omega
  show WX (lk tX12_sayBlockHead) (mM (d + 2)) Ψ 0 [(0, .ref m), (1, .int (nI l.length)), (2, .int (nI nn)), (3, .int (nI kd)), (4, .int 1)] [] (n, s, h)
  refine WX.s1 rfl rfl ?_
  refine WX.mgetK (x := (nI (l ++ (x ++ rr)).length)) rfl hm M_h rfl K_I_40 ?_
  refine WX.s1 (L' := [(0, .ref m), (1, .int (nI l.length)), (2, .int (nI nn)), (3, .int (nI kd)), (4, .int 1), (5, .int (nI (l ++ (x ++ rr)).length))]) rfl rfl ?_
  refine WX.s1 rfl rfl ?_
  refine WX.s1 rfl rfl ?_
  refine WX.mput rfl hm M_h (rfl) (by decide) (fun _ => rfl) (fun h8n1 I8n1 e_I8n1 M_h8n1 frh8n1 => ?_)
  have FR_h8n1 := FR_h.ztr frh8n1
  have FI_I8n1 : Fi I I8n1 (fun f => f = 40) := FI_I.zup e_I8n1 (by first | exact rfl | decide | omega)
  have K_I8n1_40 : I8n1 40 = (nI l.length) := by rw [e_I8n1]; exact pk_us
  clear M_h FR_h FI_I e_I8n1 frh8n1 K_I_40
  refine WX.s1 rfl rfl ?_
  refine WX.s1 rfl rfl ?_
  refine WX.s1 rfl rfl ?_
  refine WX.s1 (S' := [.int (8 * (nI nn)), .ref m]) rfl rfl ?_
  rw [show (8 * (nI nn)) = nI (8 * nn) from (Int32.ofNat_mul 8 nn).symm]
  refine WX.s1 rfl rfl ?_
  refine WX.s1 rfl rfl ?_
  refine WX.s1 (S' := [.int (2 * (nI kd)), .int (nI (8 * nn)), .ref m]) rfl rfl ?_
  rw [show (2 * (nI kd)) = nI (2 * kd) from (Int32.ofNat_mul 2 kd).symm]
  refine WX.s1 (S' := [.int ((nI (8 * nn)) + (nI (2 * kd))), .ref m]) rfl rfl ?_
  rw [show ((nI (8 * nn)) + (nI (2 * kd))) = nI (8 * nn + 2 * kd) from nI_add (8 * nn) (2 * kd)]
  refine WX.s1 rfl rfl ?_
  refine WX.if_ rfl (fun c_22 => absurd c_22 (by decide)) (fun c_22 => ?_)
  clear c_22
  refine WX.s1 rfl rfl ?_
  refine WX.s1 rfl rfl ?_
  refine WX.s1 (S' := [.int ((nI (8 * nn + 2 * kd)) + 1), .ref m]) rfl rfl ?_
  rw [show ((nI (8 * nn + 2 * kd)) + 1) = nI (8 * nn + 2 * kd + 1) from nI_add (8 * nn + 2 * kd) 1]
  refine WX.s1 (S' := [.long ((nI (8 * nn + 2 * kd + 1)).toInt64), .ref m]) rfl rfl ?_
  rw [nI_l (n := 8 * nn + 2 * kd + 1) (by omega)]
  refine WX.s1 rfl rfl ?_
  have hF1 : FrameIs I8n1 AR l := (FrameIs.pre (r := x ++ rr) hF K_I8n1_40)
  refine WX.callC (vs := [.ref m, .long (lN (8 * nn + 2 * kd + 1)), .int (nI 3)]) rfl rfl rfl (Nat.le_of_ble_eq_true rfl) (M_h8n1.rcv hm) ?_
  refine m_sayNumK hm M_h8n1 hF1 (by decide) (by omega) (fun h2 I2 A2 fr2 M_h2 fi2 fa2 hF2 ho2 => ?_)
  rw [leL_lN (by omega)] at hF2
  have FR_h2 := FR_h8n1.ztr fr2
  have FI_I2 := FI_I8n1.ztr fi2
  have K_I2_40 : I2 40 = nI (l.length + 3) := by have q := hF2.1; rw [List.length_append, leBy_len] at q; exact q
  show WX _ _ _ 36 [(0, .ref m), (1, .int (nI l.length)), (2, .int (nI nn)), (3, .int (nI kd)), (4, .int 1), (5, .int (nI (l ++ (x ++ rr)).length))] [] (n, s, h2)
  refine WX.s1 rfl rfl ?_
  refine WX.s1 rfl rfl ?_
  refine WX.s1 rfl rfl ?_
  refine WX.mgetK (x := (nI (l.length + 3))) rfl hm M_h2 rfl K_I2_40 ?_
  refine WX.icmp rfl (fun c_43 => ?_) (fun c_43 => ?_)
  · skip
    have n_43 : ((l ++ (x ++ rr)).length) ≤ (l.length + 3) := (nI_leI (a := (l ++ (x ++ rr)).length) (b := l.length + 3) (by omega) (by omega)).mp c_43
    refine WX.s1 rfl rfl ?_
    refine WX.mgetK (x := (nI (l.length + 3))) rfl hm M_h2 rfl K_I2_40 ?_
    refine WX.mput rfl hm M_h2 (rfl) (by decide) (fun _ => rfl) (fun h55n2 I55n2 e_I55n2 M_h55n2 frh55n2 => ?_)
    have FR_h55n2 := FR_h2.ztr frh55n2
    have FI_I55n2 : Fi I I55n2 (fun f => f = 40) := FI_I2.zup e_I55n2 (by first | exact rfl | decide | omega)
    have K_I55n2_40 : I55n2 40 = (nI (l.length + 3)) := by rw [e_I55n2]; exact pk_us
    clear M_h2 FR_h2 FI_I2 e_I55n2 frh55n2 K_I2_40
    exact WX.ret0 rfl (kk h55n2 I55n2 A2 FR_h55n2 M_h55n2 FI_I55n2 fa2 (FrameIs.patch hF (by rw [hx, leBy_len]) hF2 (by rw [leBy_len]; exact ho2) (by rw [K_I55n2_40, show (l ++ (x ++ rr)).length = l.length + 3 by omega])))
  · skip
    have n_43 : (l.length + 3) < ((l ++ (x ++ rr)).length) := Nat.lt_of_not_le (fun zz_ => c_43 ((nI_leI (a := (l ++ (x ++ rr)).length) (b := l.length + 3) (by omega) (by omega)).mpr zz_))
    refine WX.s1 rfl rfl ?_
    refine WX.s1 rfl rfl ?_
    refine WX.mput rfl hm M_h2 (rfl) (by decide) (fun _ => rfl) (fun h55n3 I55n3 e_I55n3 M_h55n3 frh55n3 => ?_)
    have FR_h55n3 := FR_h2.ztr frh55n3
    have FI_I55n3 : Fi I I55n3 (fun f => f = 40) := FI_I2.zup e_I55n3 (by first | exact rfl | decide | omega)
    have K_I55n3_40 : I55n3 40 = (nI (l ++ (x ++ rr)).length) := by rw [e_I55n3]; exact pk_us
    clear M_h2 FR_h2 FI_I2 e_I55n3 frh55n3 K_I2_40
    exact WX.ret0 rfl (kk h55n3 I55n3 A2 FR_h55n3 M_h55n3 FI_I55n3 fa2 (FrameIs.patch hF (by rw [hx, leBy_len]) hF2 (by rw [leBy_len]; exact ho2) (by rw [K_I55n3_40])))
