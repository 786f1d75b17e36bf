/-! the reference: literals, sequences and the choice; its data -/
theorem cntN_at (nt : Nat → Nat) (q : Nat) : cntN nt q = ntAt nt q 1 := by
  funext x
  unfold cntN updN ntAt
  by_cases z : x = q
  · rw [if_pos z, if_pos z, z]
  · rw [if_neg z, if_neg z, Nat.add_zero]
theorem cntN_8 {nt : Nat → Nat} {m j : Nat} (h : j < 8) : cntN nt (8 + m) j = nt j := by
  rw [cntN_at]
  unfold ntAt
  rw [if_neg (by omega), Nat.add_zero]
theorem blk_n0 {ls : List Nat} {qs : List Sq} {S : PkS} (h0 : (qs).length = 0) : ntAt (ntAt (ntAt S.2.2.2.2.2 2 1) 3 (qs).length) (4 + (litF S.1 ls).1) 1 = blkN ls qs S := by
  funext x
  unfold ntAt blkN
  rw [if_pos h0, Nat.add_zero]
theorem blk_n1 {ls : List Nat} {qs : List Sq} {S : PkS} (h0 : ¬ (qs).length = 0) : ntAt (ntAt (ntAt (cntN (cntN (cntN S.2.2.2.2.2 (8 + mdY 0 9 sy1 S.2.1 (seqV1 qs))) (8 + mdY 1 8 sy2 S.2.2.1 (numF S.2.2.2.2.1 qs).1)) (8 + mdY 2 9 sy3 S.2.2.2.1 (seqV3 qs))) 2 1) 3 (qs).length) (4 + (litF S.1 ls).1) 1 = blkN ls qs S := by
  funext x
  rw [cntN_at, cntN_at, cntN_at]
  unfold ntAt blkN
  rw [if_neg h0]
  omega
theorem lit_k3 (tC : Option Le) (ls : List Nat) : (litF tC ls).1 ≤ 3 := by
  rcases lit_cs tC ls with e | ⟨t, e1, e2, e⟩ | ⟨y, e1, e2, e3, e⟩
  · rw [e]; have := lc1_1 ls; omega
  · rw [e]; exact Nat.le_refl 3
  · rw [e]; exact (by decide : 2 ≤ 3)
set_option maxRecDepth 20000 in
theorem m_bTl {d n s : Nat} {h : Nat → aE} {m : Nat} {I : Nat → Int32} {AR : Nat → Nat → Int32} {LN : Nat → Int64} {l x ls : List Nat} {qs : List Sq} {D : Nat → Nat} {dn fr_ to_ la k0 c0 w0 : Nat} {S : PkS} {I0 : Nat → Int32} {A0 : Nat → Nat → Int32} (hm : m + 43 < n) (M_h : MAt h m I AR LN) (hx : (x).length = 3) (hk0 : (litF S.1 ls).1 = k0) (hF : FrameIs I AR (l ++ (x ++ litY S.1 ls))) (hl : (l).length < 2 ^ 26) (hls : LsOk ls) (hq2 : (qs).length ≤ 2667) (hqB : ∀ q, q ∈ qs → SqB q) (hO : PkOk S) (hla : la ≤ 1) (hSq : SeqM I AR qs) (hMd : MadeIs I AR c0 w0) (hR : RefS I AR (litT S.1 ls, S.2)) (hW : WasS I I0 AR A0) (hS : RefS I0 A0 S) (hT : ∀ j, 8 ≤ j → j < 12 → AR 40 j = nI (S.2.2.2.2.2 j)) (hin : ∀ i, i < to_ → AR 1 i = nI (D (dn + i)) ∧ D (dn + i) < 256) (hft : fr_ ≤ to_) (hto : to_ ≤ 8000)  {Ψ : Option Value → aH → Prop} (kk1 : (blkP ls qs S).length < to_ - fr_ → ∀ h' I' A' c w, Fr h h' (inM m) → MAt h' m I' A' LN → Fi I I' (fun f => f = 15 ∨ f = 38 ∨ f = 40) → FaS AR A' (fun b => (8 ≤ b ∧ b ≤ 11) ∨ (21 ≤ b ∧ b ≤ 33) ∨ b = 42) → MadeIs I' A' c w → FrameIs I' A' (l ++ (leBy (8 * (blkP ls qs S).length + 4 + la) 3 ++ (blkP ls qs S))) → RefS I' A' (blkK ls qs S) → Ψ none (n, s, h')) (kk2 : to_ - fr_ ≤ (blkP ls qs S).length → ∀ h' I' A' c w, Fr h h' (inM m) → MAt h' m I' A' LN → Fi I I' (fun f => f = 15 ∨ f = 38 ∨ f = 40) → FaS AR A' (fun b => (8 ≤ b ∧ b ≤ 11) ∨ (21 ≤ b ∧ b ≤ 33) ∨ b = 42) → MadeIs I' A' c w → FrameIs I' A' (l ++ (leBy (8 * (to_ - fr_) + la) 3 ++ (List.range (to_ - fr_)).map (fun i => D (dn + fr_ + i)))) → RefS I' A' (pkNt S (ntAt S.2.2.2.2.2 0 1)) → Ψ none (n, s, h')) : WX (lk tX12_sayBlock) (mM (d + 7)) Ψ 247 [(0, .ref m), (1, .int (nI fr_)), (2, .int (nI to_)), (3, .int (nI la)), (4, .int (nI (l).length)), (5, .int (nI (to_ - fr_)))] [.int (nI k0)] (n, s, h) := by
  have FR_h : Fr h h (inM m) := Fr.rf
  have FI_I : Fi I I (fun f => f = 15 ∨ f = 38 ∨ f = 40) := Fi.rf
  have FA_AR : FaS AR AR (fun b => (8 ≤ b ∧ b ≤ 11) ∨ (21 ≤ b ∧ b ≤ 33) ∨ b = 42) := FaS.rf
  have hk3 := lit_k3 S.1 ls
  have hP := blkP_bd hO hls hq2 hqB
  have hlit := lit_bd (tC := S.1) hls.2
  have hlen : (l ++ (x ++ litY S.1 ls)).length = (l).length + 3 + (litF S.1 ls).2.1 := by simp only [List.length_append, hx, lit_len]; omega
  have K_I_31 : I 31 = nI (qs).length := hSq.1
  have hnum := num_all (lt := S.2.2.2.2.1) hO.2.2.1 hqB
  refine WX.s1 (L' := [(0, .ref m), (1, .int (nI fr_)), (2, .int (nI to_)), (3, .int (nI la)), (4, .int (nI (l).length)), (5, .int (nI (to_ - fr_))), (7, .int (nI k0))]) rfl rfl ?_
  refine WX.s1 rfl rfl ?_
  refine WX.callC (vs := [.ref m]) rfl rfl rfl (Nat.le_of_ble_eq_true rfl) ((M_h).rcv hm) ?_
  refine m_tellAll hm M_h hSq (sq_ok hqB) hq2 hR.2.2.2.2.1 hO.2.2.1 (fun h250n1 A250n1 fr250n1 M_h250n1 fa250n1 T1 T2 T3 hLat hLok => ?_)
  have FR_h250n1 := (FR_h).ztr fr250n1
  have FA_A250n1 : FaS AR A250n1 (fun b => (8 ≤ b ∧ b ≤ 11) ∨ (21 ≤ b ∧ b ≤ 33) ∨ b = 42) := (FA_AR).ztr ((fa250n1).mono (fun x hx => by omega))
  have hF1 : FrameIs I A250n1 (l ++ (x ++ litY S.1 ls)) := (hF).fa rfl (fa250n1 25 (by decide))
  have hM1 : MadeIs I A250n1 c0 w0 := (hMd).fa rfl (fa250n1 24 (by decide))
  have R1 := hR.2.1.fa (fa250n1 10 (by decide)) (fa250n1 9 (by decide))
  have R2 := hR.2.2.1.fa (fa250n1 10 (by decide)) (fa250n1 9 (by decide))
  have R3 := hR.2.2.2.1.fa (fa250n1 10 (by decide)) (fa250n1 9 (by decide))
  have hN1 : NtM A250n1 S.2.2.2.2.2 := fun q hq => by rw [fa250n1 42 (by decide)]; exact hR.2.2.2.2.2 q hq
  have RL := hR.1.fa (J := I) (B := A250n1) rfl (fa250n1 8 (by decide))
  show WX _ _ _ 253 [(0, .ref m), (1, .int (nI fr_)), (2, .int (nI to_)), (3, .int (nI la)), (4, .int (nI (l).length)), (5, .int (nI (to_ - fr_))), (7, .int (nI k0))] [] (n, s, h250n1)
  refine WX.s1 rfl rfl ?_
  refine WX.callC (vs := [.ref m]) rfl rfl rfl (Nat.le_of_ble_eq_true rfl) ((M_h250n1).rcv hm) ?_
  by_cases hq0 : (qs).length = 0
  · skip
    rw [hq0] at K_I_31
    refine m_saySeq0 hm M_h250n1 hF1 (by omega) K_I_31 (fun h2 I2 A2 fr2 M_h2 fi2 fa2 hF2 => ?_)
    have eP : blkP ls qs S = litY S.1 ls ++ [0] := by unfold blkP seY; rw [if_pos hq0]
    have hM2 : MadeIs I2 A2 c0 w0 := (hM1).fa (fi2 38 (by decide)) (fa2 24 (by decide))
    have hR2 : RefS I2 A2 (litT S.1 ls, S.2.1, S.2.2.1, S.2.2.2.1, (numF S.2.2.2.2.1 qs).2, S.2.2.2.2.2) := ⟨RL.fa (fi2 15 (by decide)) (fa2 8 (by decide)), R1.fa (fa2 10 (by decide)) (fa2 9 (by decide)), R2.fa (fa2 10 (by decide)) (fa2 9 (by decide)), R3.fa (fa2 10 (by decide)) (fa2 9 (by decide)), (hLat).pt (fun j _ => by rw [fa2 11 (by decide)]), fun q hq => by rw [fa2 42 (by decide)]; exact hN1 q hq⟩
    have hF3 : FrameIs I2 A2 (l ++ (x ++ blkP ls qs S)) := by rw [eP]; simp only [List.append_assoc] at hF2 ⊢; exact hF2
    have FI_2 : Fi I I2 (fun f => f = 15 ∨ f = 38 ∨ f = 40) := (FI_I).zsub fi2 (fun j hj => Or.inr (Or.inr hj))
    have FA_2 : FaS AR A2 (fun b => (8 ≤ b ∧ b ≤ 11) ∨ (21 ≤ b ∧ b ≤ 33) ∨ b = 42) := (FA_A250n1).ztr ((fa2).toS (by omega))
    have FR_2 := (FR_h250n1).ztr fr2
    have hW2 : WasS I2 I0 A2 A0 := (hW).mv (FI_2 20 (by decide)) (FA_2 12 (by decide)) (FA_2 13 (by decide)) (FA_2 14 (by decide)) (FA_2 15 (by decide))
    show WX _ _ _ 257 [(0, .ref m), (1, .int (nI fr_)), (2, .int (nI to_)), (3, .int (nI la)), (4, .int (nI (l).length)), (5, .int (nI (to_ - fr_))), (7, .int (nI k0))] [] (n, s, h2)
    have ek : pkNt (litT S.1 ls, S.2.1, S.2.2.1, S.2.2.2.1, (numF S.2.2.2.2.1 qs).2, S.2.2.2.2.2) (ntAt (ntAt (ntAt S.2.2.2.2.2 2 1) 3 (qs).length) (4 + k0) 1) = blkK ls qs S := by unfold blkK pkNt; simp only [if_pos hq0]; rw [← blk_n0 (ls := ls) hq0, hk0]
    refine m_bCmp (qn := (qs).length) (S := S) (S2 := (litT S.1 ls, S.2.1, S.2.2.1, S.2.2.2.1, (numF S.2.2.2.2.1 qs).2, S.2.2.2.2.2)) (D := D) (dn := dn) hm M_h2 hx hF3 (by omega) hP hla (by omega) hR2 hW2 hS (fun j h1 h2 => by rw [FA_2 40 (by decide)]; exact hT j h1 h2) (fun _ _ => rfl) (fun i hi => by rw [FA_2 1 (by decide)]; exact hin i hi) hft hto (by rw [hq0]; exact (fi2 31 (by decide)).trans K_I_31) (fun z h9 I9 A9 fr9 M9 fi9 fa9 F9 R9 => ?_) (fun z h9 I9 A9 fr9 M9 fi9 fa9 F9 R9 => ?_)
    · rw [ek] at R9
      exact kk1 z h9 I9 A9 c0 w0 ((FR_2).ztr fr9) M9 ((FI_2).zsub fi9 (fun j hj => by omega)) ((FA_2).ztr ((fa9).mono (fun j hj => by omega))) ((hM2).fa (fi9 38 (by decide)) (fa9 24 (by decide))) F9 R9
    · exact kk2 z h9 I9 A9 c0 w0 ((FR_2).ztr fr9) M9 ((FI_2).zsub fi9 (fun j hj => by omega)) ((FA_2).ztr ((fa9).mono (fun j hj => by omega))) ((hM2).fa (fi9 38 (by decide)) (fa9 24 (by decide))) F9 R9
  · skip
    refine m_saySeq (vs1 := seqV1 qs) (vs2 := (numF S.2.2.2.2.1 qs).1) (vs3 := seqV3 qs) (m1 := (mdY 0 9 sy1 S.2.1 (seqV1 qs))) (m2 := (mdY 1 8 sy2 S.2.2.1 (numF S.2.2.2.2.1 qs).1)) (m3 := (mdY 2 9 sy3 S.2.2.2.1 (seqV3 qs))) (t1 := (tbF 0 9 sy1 S.2.1 (seqV1 qs))) (t2 := (tbF 1 8 sy2 S.2.2.1 (numF S.2.2.2.2.1 qs).1)) (t3 := (tbF 2 9 sy3 S.2.2.2.1 (seqV3 qs))) hm M_h250n1 hF1 (by omega) (by omega) hq2 hM1 T1 R1 hO.2.1.1 hO.2.2.2.1 ?_ (v1_len qs) T2 R2 hO.2.1.2.1 hO.2.2.2.2.1 ?_ (numF_len _ _) T3 R3 hO.2.1.2.2 hO.2.2.2.2.2 ?_ (v3_len qs) hN1 rfl rfl rfl rfl rfl rfl K_I_31 (fun h2 I2 A2 c2 w2 fr2 M_h2 fi2 fa2 hM2 hF2 hN2 Q1 Q2 Q3 => ?_)
    · intro v hv
      obtain ⟨q, hq1, e⟩ := List.mem_map.mp hv
      rw [← e, B1_0]; have := (hqB q hq1).1; exact ⟨by omega, Nat.zero_le _⟩
    · intro v hv
      rw [B2_0]; exact hnum.1 v hv
    · intro v hv
      obtain ⟨q, hq1, e⟩ := List.mem_map.mp hv
      rw [← e, B3_0]; have := hqB q hq1; exact ⟨by have := this.2.2.1; omega, this.2.1⟩
    have eP : blkP ls qs S = litY S.1 ls ++ sqY (seqV1 qs) (numF S.2.2.2.2.1 qs).1 (seqV3 qs) (tbF 0 9 sy1 S.2.1 (seqV1 qs)) (tbF 1 8 sy2 S.2.2.1 (numF S.2.2.2.2.1 qs).1) (tbF 2 9 sy3 S.2.2.2.1 (seqV3 qs)) (mdY 0 9 sy1 S.2.1 (seqV1 qs)) (mdY 1 8 sy2 S.2.2.1 (numF S.2.2.2.2.1 qs).1) (mdY 2 9 sy3 S.2.2.2.1 (seqV3 qs)) (qs).length := by unfold blkP seY; rw [if_neg hq0]
    have hR2 : RefS I2 A2 (litT S.1 ls, some (tbF 0 9 sy1 S.2.1 (seqV1 qs)), some (tbF 1 8 sy2 S.2.2.1 (numF S.2.2.2.2.1 qs).1), some (tbF 2 9 sy3 S.2.2.2.1 (seqV3 qs)), (numF S.2.2.2.2.1 qs).2, (cntN (cntN (cntN S.2.2.2.2.2 (8 + (mdY 0 9 sy1 S.2.1 (seqV1 qs)))) (8 + (mdY 1 8 sy2 S.2.2.1 (numF S.2.2.2.2.1 qs).1))) (8 + (mdY 2 9 sy3 S.2.2.2.1 (seqV3 qs))))) := ⟨RL.fa (fi2 15 (by decide)) (fa2 8 (by decide)), Q1, Q2, Q3, (hLat).pt (fun j _ => by rw [fa2 11 (by decide)]), hN2⟩
    have hF3 : FrameIs I2 A2 (l ++ (x ++ blkP ls qs S)) := by rw [eP]; simp only [List.append_assoc] at hF2 ⊢; exact hF2
    have FI_2 : Fi I I2 (fun f => f = 15 ∨ f = 38 ∨ f = 40) := (FI_I).zsub fi2 (fun j hj => Or.inr hj)
    have FA_2 : FaS AR A2 (fun b => (8 ≤ b ∧ b ≤ 11) ∨ (21 ≤ b ∧ b ≤ 33) ∨ b = 42) := (FA_A250n1).ztr ((fa2).mono (fun j hj => by omega))
    have FR_2 := (FR_h250n1).ztr fr2
    have hW2 : WasS I2 I0 A2 A0 := (hW).mv (FI_2 20 (by decide)) (FA_2 12 (by decide)) (FA_2 13 (by decide)) (FA_2 14 (by decide)) (FA_2 15 (by decide))
    show WX _ _ _ 257 [(0, .ref m), (1, .int (nI fr_)), (2, .int (nI to_)), (3, .int (nI la)), (4, .int (nI (l).length)), (5, .int (nI (to_ - fr_))), (7, .int (nI k0))] [] (n, s, h2)
    have ek : pkNt (litT S.1 ls, some (tbF 0 9 sy1 S.2.1 (seqV1 qs)), some (tbF 1 8 sy2 S.2.2.1 (numF S.2.2.2.2.1 qs).1), some (tbF 2 9 sy3 S.2.2.2.1 (seqV3 qs)), (numF S.2.2.2.2.1 qs).2, (cntN (cntN (cntN S.2.2.2.2.2 (8 + (mdY 0 9 sy1 S.2.1 (seqV1 qs)))) (8 + (mdY 1 8 sy2 S.2.2.1 (numF S.2.2.2.2.1 qs).1))) (8 + (mdY 2 9 sy3 S.2.2.2.1 (seqV3 qs))))) (ntAt (ntAt (ntAt (cntN (cntN (cntN S.2.2.2.2.2 (8 + (mdY 0 9 sy1 S.2.1 (seqV1 qs)))) (8 + (mdY 1 8 sy2 S.2.2.1 (numF S.2.2.2.2.1 qs).1))) (8 + (mdY 2 9 sy3 S.2.2.2.1 (seqV3 qs)))) 2 1) 3 (qs).length) (4 + k0) 1) = blkK ls qs S := by unfold blkK pkNt; simp only [if_neg hq0]; rw [← blk_n1 (ls := ls) hq0, hk0]
    refine m_bCmp (qn := (qs).length) (S := S) (S2 := (litT S.1 ls, some (tbF 0 9 sy1 S.2.1 (seqV1 qs)), some (tbF 1 8 sy2 S.2.2.1 (numF S.2.2.2.2.1 qs).1), some (tbF 2 9 sy3 S.2.2.2.1 (seqV3 qs)), (numF S.2.2.2.2.1 qs).2, (cntN (cntN (cntN S.2.2.2.2.2 (8 + (mdY 0 9 sy1 S.2.1 (seqV1 qs)))) (8 + (mdY 1 8 sy2 S.2.2.1 (numF S.2.2.2.2.1 qs).1))) (8 + (mdY 2 9 sy3 S.2.2.2.1 (seqV3 qs)))))) (D := D) (dn := dn) hm M_h2 hx hF3 (by omega) hP hla (by omega) hR2 hW2 hS (fun j h1 h2 => by rw [FA_2 40 (by decide)]; exact hT j h1 h2) (fun j hj => by show (cntN (cntN (cntN _ _) _) _) j = _; rw [cntN_8 hj, cntN_8 hj, cntN_8 hj]) (fun i hi => by rw [FA_2 1 (by decide)]; exact hin i hi) hft hto ((fi2 31 (by decide)).trans K_I_31) (fun z h9 I9 A9 fr9 M9 fi9 fa9 F9 R9 => ?_) (fun z h9 I9 A9 fr9 M9 fi9 fa9 F9 R9 => ?_)
    · rw [ek] at R9
      exact kk1 z h9 I9 A9 c2 w2 ((FR_2).ztr fr9) M9 ((FI_2).zsub fi9 (fun j hj => by omega)) ((FA_2).ztr ((fa9).mono (fun j hj => by omega))) ((hM2).fa (fi9 38 (by decide)) (fa9 24 (by decide))) F9 R9
    · exact kk2 z h9 I9 A9 c2 w2 ((FR_2).ztr fr9) M9 ((FI_2).zsub fi9 (fun j hj => by omega)) ((FA_2).ztr ((fa9).mono (fun j hj => by omega))) ((hM2).fa (fi9 38 (by decide)) (fa9 24 (by decide))) F9 R9
set_option maxRecDepth 20000 in
theorem m_bDat {d n s : Nat} {h : Nat → aE} {m : Nat} {I : Nat → Int32} {AR : Nat → Nat → Int32} {LN : Nat → Int64} {l : List Nat} {D : Nat → Nat} {dn fr_ to_ la : Nat} (hm : m + 43 < n) (M_h : MAt h m I AR LN) (hdn : dn ≤ 8000) (hdi : ∀ i, i < dn → AR 3 i = nI (D i)) (hin : ∀ i, i < to_ → AR 1 i = nI (D (dn + i))) (hft : fr_ ≤ to_) (hto : to_ ≤ 8000) (K_I_7 : I 7 = (nI dn)) {Ψ : Option Value → aH → Prop} (kk : ∀ h' I' A', Fr h h' (inM m) → MAt h' m I' A' LN → Fi I I' (fun f => f = 25) → FaS AR A' (fun b => b = 16) → I' 25 = nI (dn + to_) → (∀ j, j < dn + to_ → A' 16 j = nI (D j)) → WX (lk tX12_sayBlock) (mM (d + 7)) Ψ 202 [(0, .ref m), (1, .int (nI fr_)), (2, .int (nI to_)), (3, .int (nI la)), (4, .int (nI (l).length)), (5, .int (nI (to_ - fr_)))] [] (n, s, h')) : WX (lk tX12_sayBlock) (mM (d + 7)) Ψ 112 [(0, .ref m), (1, .int (nI fr_)), (2, .int (nI to_)), (3, .int (nI la)), (4, .int (nI (l).length)), (5, .int (nI (to_ - fr_)))] [] (n, s, h) := by
  have FR_h : Fr h h (inM m) := Fr.rf
  have FI_I : Fi I I (fun f => f = 25) := Fi.rf
  have FA_AR : FaS AR AR (fun b => b = 16) := FaS.rf
  refine WX.s1 rfl rfl ?_
  refine WX.s1 rfl rfl ?_
  refine WX.mput rfl hm M_h (rfl) (by decide) (fun _ => rfl) (fun h114n1 I114n1 e_I114n1 M_h114n1 frh114n1 => ?_)
  have FR_h114n1 := (FR_h).ztr frh114n1
  have FI_I114n1 : Fi I I114n1 (fun f => f = 25) := (FI_I).zup e_I114n1 (by first | exact rfl | decide | omega)
  have K_I114n1_7 : I114n1 7 = (nI dn) := by rw [e_I114n1]; exact (pk_un (by decide)).trans K_I_7
  have K_I114n1_25 : I114n1 25 = 0 := by rw [e_I114n1]; exact pk_us
  clear M_h FR_h FI_I e_I114n1 frh114n1 K_I_7
  refine WX.s1 rfl rfl ?_
  refine WX.s1 (L' := [(0, .ref m), (1, .int (nI fr_)), (2, .int (nI to_)), (3, .int (nI la)), (4, .int (nI (l).length)), (5, .int (nI (to_ - fr_))), (7, .int 0)]) rfl rfl ?_
  have lp120 : ∀ (t i : Nat) (hL : Nat → aE) (IL : Nat → Int32) (AL : Nat → Nat → Int32), i + t = dn → Fr h hL (inM m) → MAt hL m IL AL LN → Fi I IL (fun f => f = 25) → FaS AR AL (fun b => b = 16) → IL 25 = (nI (i)) → IL 7 = (nI dn) → (∀ j, j < (i) → AL 16 j = nI (D j)) → WX (lk tX12_sayBlock) (mM (d + 7)) Ψ 120 [(0, .ref m), (1, .int (nI fr_)), (2, .int (nI to_)), (3, .int (nI la)), (4, .int (nI (l).length)), (5, .int (nI (to_ - fr_))), (7, .int (nI i))] [] (n, s, hL) := by
    clear M_h114n1 FR_h114n1
    intro t
    induction t with
    | zero =>
      intro i hL IL AL ht FR_hL M_hL FI_IL FA_AL K_IL_25 K_IL_7 hInv
      have hi : i = dn := by omega
      rw [hi] at K_IL_25 hInv ⊢
      refine WX.s1 rfl rfl ?_
      refine WX.s1 rfl rfl ?_
      refine WX.mgetK (x := (nI dn)) rfl hm M_hL rfl K_IL_7 ?_
      refine WX.icmp rfl (fun c_126 => ?_) (fun c_126 => absurd ((nI_leI (a := dn) (b := dn) (by omega) (by omega)).mpr (by omega)) c_126)
      clear c_126
      refine WX.s1 rfl rfl ?_
      refine WX.s1 (L' := [(0, .ref m), (1, .int (nI fr_)), (2, .int (nI to_)), (3, .int (nI la)), (4, .int (nI (l).length)), (5, .int (nI (to_ - fr_))), (7, .int 0)]) rfl rfl ?_
      have lp164 : ∀ (t i : Nat) (hL : Nat → aE) (IL : Nat → Int32) (AL : Nat → Nat → Int32), i + t = to_ → Fr h hL (inM m) → MAt hL m IL AL LN → Fi I IL (fun f => f = 25) → FaS AR AL (fun b => b = 16) → IL 25 = (nI (dn + i)) → IL 7 = (nI dn) → (∀ j, j < (dn + i) → AL 16 j = nI (D j)) → WX (lk tX12_sayBlock) (mM (d + 7)) Ψ 164 [(0, .ref m), (1, .int (nI fr_)), (2, .int (nI to_)), (3, .int (nI la)), (4, .int (nI (l).length)), (5, .int (nI (to_ - fr_))), (7, .int (nI i))] [] (n, s, hL) := by
        clear M_hL FR_hL
        intro t
        induction t with
        | zero =>
          intro i hL IL AL ht FR_hL M_hL FI_IL FA_AL K_IL_25 K_IL_7 hInv
          have hi : i = to_ := by omega
          rw [hi] at K_IL_25 hInv ⊢
          refine WX.s1 rfl rfl ?_
          refine WX.s1 rfl rfl ?_
          refine WX.icmp rfl (fun c_167 => ?_) (fun c_167 => absurd ((nI_leI (a := to_) (b := to_) (by omega) (by omega)).mpr (by omega)) c_167)
          clear c_167
          refine WX.keep (y := 207) [0, 1, 2, 3, 4, 5] (show ([0, 1, 2, 3, 4, 5, 7] : List Nat).Nodup by decide) rfl ?_
          exact kk hL IL AL FR_hL M_hL FI_IL FA_AL K_IL_25 hInv
        | succ t ih =>
          intro i hL IL AL ht FR_hL M_hL FI_IL FA_AL K_IL_25 K_IL_7 hInv
          refine WX.s1 rfl rfl ?_
          refine WX.s1 rfl rfl ?_
          refine WX.icmp rfl (fun c_167 => absurd c_167 (fun zz_ => absurd ((nI_leI (a := to_) (b := i) (by omega) (by omega)).mp zz_) (Nat.not_le.mpr (by omega)))) (fun c_167 => ?_)
          clear c_167
          refine WX.s1 rfl rfl ?_
          refine WX.mget rfl hm M_hL rfl ?_
          refine WX.s1 rfl rfl ?_
          refine WX.mgetK (x := (nI (dn + i))) rfl hm M_hL rfl K_IL_25 ?_
          refine WX.s1 rfl rfl ?_
          refine WX.mget rfl hm M_hL rfl ?_
          refine WX.s1 rfl rfl ?_
          refine WX.mald (c := 1) rfl hm M_hL (by decide) (by decide) (by decide) (by decide) (vp_in_nI (N := 8000) (by omega) (by decide)) ?_
          rw [nI_clamp (by omega), FA_AL 1 (by decide), hin i (by omega)]
          refine WX.mast (c := 16) rfl hm M_hL (by decide) (by decide) (by decide) (by decide) (vp_in_nI (N := 16000) (by omega) (by decide)) (fun h185n2 A185n2 e_A185n2 M_h185n2 frh185n2 => ?_)
          try dsimp only at e_A185n2
          have FR_h185n2 := (FR_hL).ztr frh185n2
          clear M_hL FR_hL frh185n2
          refine WX.s1 rfl rfl ?_
          refine WX.s1 rfl rfl ?_
          refine WX.mgetK (x := (nI (dn + i))) rfl hm M_h185n2 rfl K_IL_25 ?_
          refine WX.s1 rfl rfl ?_
          refine WX.s1 (S' := [.int ((nI (dn + i)) + 1), .ref m]) rfl rfl ?_
          rw [show ((nI (dn + i)) + 1) = nI (dn + i + 1) from nI_add (dn + i) 1]
          refine WX.mput rfl hm M_h185n2 (rfl) (by decide) (fun _ => rfl) (fun h193n3 I193n3 e_I193n3 M_h193n3 frh193n3 => ?_)
          have FR_h193n3 := (FR_h185n2).ztr frh193n3
          have FI_I193n3 : Fi I I193n3 (fun f => f = 25) := (FI_IL).zup e_I193n3 (by first | exact rfl | decide | omega)
          have K_I193n3_7 : I193n3 7 = (nI dn) := by rw [e_I193n3]; exact (pk_un (by decide)).trans K_IL_7
          have K_I193n3_25 : I193n3 25 = (nI (dn + i + 1)) := by rw [e_I193n3]; exact pk_us
          clear M_h185n2 FR_h185n2 FI_IL e_I193n3 frh193n3 K_IL_25 K_IL_7
          refine WX.s1 (L' := [(0, .ref m), (1, .int (nI fr_)), (2, .int (nI to_)), (3, .int (nI la)), (4, .int (nI (l).length)), (5, .int (nI (to_ - fr_))), (7, .int ((nI i) + 1))]) rfl rfl ?_
          rw [show ((nI i) + 1) = nI (i + 1) from nI_add i 1]
          refine WX.s1 rfl rfl ?_
          rw [nI_clamp (by omega)] at e_A185n2
          refine ih (i + 1) h193n3 I193n3 A185n2 (by omega) FR_h193n3 M_h193n3 FI_I193n3 ((FA_AL).ast e_A185n2 (by omega)) K_I193n3_25 K_I193n3_7 ?_
          intro j hj
          by_cases z : j = (dn + i)
          · rw [z, e_A185n2, upA_same, pk_us]
          · rw [e_A185n2, upA_same, pk_un z]; exact hInv j (by omega)
      exact lp164 to_ 0 hL IL AL (by omega) FR_hL M_hL FI_IL FA_AL K_IL_25 K_IL_7 hInv
    | succ t ih =>
      intro i hL IL AL ht FR_hL M_hL FI_IL FA_AL K_IL_25 K_IL_7 hInv
      refine WX.s1 rfl rfl ?_
      refine WX.s1 rfl rfl ?_
      refine WX.mgetK (x := (nI dn)) rfl hm M_hL rfl K_IL_7 ?_
      refine WX.icmp rfl (fun c_126 => absurd c_126 (fun zz_ => absurd ((nI_leI (a := dn) (b := i) (by omega) (by omega)).mp zz_) (Nat.not_le.mpr (by omega)))) (fun c_126 => ?_)
      clear c_126
      refine WX.s1 rfl rfl ?_
      refine WX.mget rfl hm M_hL rfl ?_
      refine WX.s1 rfl rfl ?_
      refine WX.mgetK (x := (nI (i))) rfl hm M_hL rfl K_IL_25 ?_
      refine WX.s1 rfl rfl ?_
      refine WX.mget rfl hm M_hL rfl ?_
      refine WX.s1 rfl rfl ?_
      refine WX.mald (c := 3) rfl hm M_hL (by decide) (by decide) (by decide) (by decide) (vp_in_nI (N := 8000) (by omega) (by decide)) ?_
      rw [nI_clamp (by omega), FA_AL 3 (by decide), hdi i (by omega)]
      refine WX.mast (c := 16) rfl hm M_hL (by decide) (by decide) (by decide) (by decide) (vp_in_nI (N := 16000) (by omega) (by decide)) (fun h144n4 A144n4 e_A144n4 M_h144n4 frh144n4 => ?_)
      try dsimp only at e_A144n4
      have FR_h144n4 := (FR_hL).ztr frh144n4
      clear M_hL FR_hL frh144n4
      refine WX.s1 rfl rfl ?_
      refine WX.s1 rfl rfl ?_
      refine WX.mgetK (x := (nI (i))) rfl hm M_h144n4 rfl K_IL_25 ?_
      refine WX.s1 rfl rfl ?_
      refine WX.s1 (S' := [.int ((nI (i)) + 1), .ref m]) rfl rfl ?_
      rw [show ((nI (i)) + 1) = nI (i + 1) from nI_add i 1]
      refine WX.mput rfl hm M_h144n4 (rfl) (by decide) (fun _ => rfl) (fun h152n5 I152n5 e_I152n5 M_h152n5 frh152n5 => ?_)
      have FR_h152n5 := (FR_h144n4).ztr frh152n5
      have FI_I152n5 : Fi I I152n5 (fun f => f = 25) := (FI_IL).zup e_I152n5 (by first | exact rfl | decide | omega)
      have K_I152n5_7 : I152n5 7 = (nI dn) := by rw [e_I152n5]; exact (pk_un (by decide)).trans K_IL_7
      have K_I152n5_25 : I152n5 25 = (nI (i + 1)) := by rw [e_I152n5]; exact pk_us
      clear M_h144n4 FR_h144n4 FI_IL e_I152n5 frh152n5 K_IL_25 K_IL_7
      refine WX.s1 (L' := [(0, .ref m), (1, .int (nI fr_)), (2, .int (nI to_)), (3, .int (nI la)), (4, .int (nI (l).length)), (5, .int (nI (to_ - fr_))), (7, .int ((nI i) + 1))]) rfl rfl ?_
      rw [show ((nI i) + 1) = nI (i + 1) from nI_add i 1]
      refine WX.s1 rfl rfl ?_
      rw [nI_clamp (by omega)] at e_A144n4
      refine ih (i + 1) h152n5 I152n5 A144n4 (by omega) FR_h152n5 M_h152n5 FI_I152n5 ((FA_AL).ast e_A144n4 (by omega)) K_I152n5_25 K_I152n5_7 ?_
      intro j hj
      by_cases z : j = (i)
      · rw [z, e_A144n4, upA_same, pk_us]
      · rw [e_A144n4, upA_same, pk_un z]; exact hInv j (by omega)
  exact lp120 dn 0 h114n1 I114n1 AR (by omega) FR_h114n1 M_h114n1 FI_I114n1 FA_AR K_I114n1_25 K_I114n1_7 (fun j hj => absurd hj (by omega))
