/-! the reference: a block, from its beginning -/
set_option maxRecDepth 20000 in
theorem m_bMid {d n s : Nat} {h : Nat → aE} {m : Nat} {I : Nat → Int32} {AR : Nat → Nat → Int32} {LN : Nat → Int64} {l : List Nat} {D : Nat → Nat} {way least win dn fr_ to_ la c0 w0 : Nat} {S : PkS} (hm : m + 43 < n) (M_h : MAt h m I AR LN) (hF : FrameIs I AR l) (hl : (l).length < 2 ^ 26) (hMd : MadeIs I AR c0 w0) (hO : PkOk S) (hR : RefS I AR S) (hla : la ≤ 1) (hdn : dn ≤ 8000) (hdi : ∀ i, i < dn → AR 3 i = nI (D i)) (hin : ∀ i, i < to_ → AR 1 i = nI (D (dn + i)) ∧ D (dn + i) < 256) (hft : fr_ ≤ to_) (hto : to_ ≤ 8000) (hDb : ∀ i, i < dn + to_ → D i < 256) (hw : way ≤ 3) (hl3 : 3 ≤ least) (hl8 : least ≤ 8) (hwin : win < 2 ^ 30) (K_I_4 : I 4 = (nI way)) (K_I_5 : I 5 = (nI least)) (K_I_7 : I 7 = (nI dn)) (K_I_27 : I 27 = (nI win)) {Ψ : Option Value → aH → Prop} (kk1 : (blkP (goE D way least win (dn + to_) (dn + fr_)).2.2.1 (goE D way least win (dn + to_) (dn + fr_)).2.2.2 S).length < to_ - fr_ → ∀ h' I' A' c w, Fr h h' (inM m) → MAt h' m I' A' LN → Fi I I' (fun f => f = 15 ∨ f = 20 ∨ f = 25 ∨ f = 26 ∨ f = 31 ∨ f = 33 ∨ f = 38 ∨ f = 40 ∨ f = 52 ∨ f = 56) → FaS AR A' (fun b => 8 ≤ b ∧ b ≤ 42) → MadeIs I' A' c w → FrameIs I' A' (l ++ (leBy (8 * (blkP (goE D way least win (dn + to_) (dn + fr_)).2.2.1 (goE D way least win (dn + to_) (dn + fr_)).2.2.2 S).length + 4 + la) 3 ++ (blkP (goE D way least win (dn + to_) (dn + fr_)).2.2.1 (goE D way least win (dn + to_) (dn + fr_)).2.2.2 S))) → RefS I' A' (blkK (goE D way least win (dn + to_) (dn + fr_)).2.2.1 (goE D way least win (dn + to_) (dn + fr_)).2.2.2 S) → Ψ none (n, s, h')) (kk2 : to_ - fr_ ≤ (blkP (goE D way least win (dn + to_) (dn + fr_)).2.2.1 (goE D way least win (dn + to_) (dn + fr_)).2.2.2 S).length → ∀ h' I' A' c w, Fr h h' (inM m) → MAt h' m I' A' LN → Fi I I' (fun f => f = 15 ∨ f = 20 ∨ f = 25 ∨ f = 26 ∨ f = 31 ∨ f = 33 ∨ f = 38 ∨ f = 40 ∨ f = 52 ∨ f = 56) → FaS AR A' (fun b => 8 ≤ b ∧ b ≤ 42) → MadeIs I' A' c w → FrameIs I' A' (l ++ (leBy (8 * (to_ - fr_) + la) 3 ++ (List.range (to_ - fr_)).map (fun i => D (dn + fr_ + i)))) → RefS I' A' (pkNt S (ntAt S.2.2.2.2.2 0 1)) → Ψ none (n, s, h')) : WX (lk tX12_sayBlock) (mM (d + 7)) Ψ 102 [(0, .ref m), (1, .int (nI fr_)), (2, .int (nI to_)), (3, .int (nI la)), (4, .int (nI (l).length)), (5, .int (nI (to_ - fr_)))] [] (n, s, h) := by
  have FR_h : Fr h h (inM m) := Fr.rf
  have FI_I : Fi I I (fun f => f = 15 ∨ f = 20 ∨ f = 25 ∨ f = 26 ∨ f = 31 ∨ f = 33 ∨ f = 38 ∨ f = 40 ∨ f = 52 ∨ f = 56) := Fi.rf
  have FA_AR : FaS AR AR (fun b => 8 ≤ b ∧ b ≤ 42) := FaS.rf
  obtain ⟨hgl, hgq, hgB⟩ := goE_ok (D := D) (way := way) (win := win) (e := (dn + to_)) (f := (dn + fr_)) hl3 (by omega) (by omega) (by omega) hDb
  refine WX.s1 rfl rfl ?_
  refine WX.callC (vs := [.ref m]) rfl rfl rfl (Nat.le_of_ble_eq_true rfl) ((M_h).rcv hm) ?_
  refine m_keepS (tp := I 15) hm M_h rfl (fun h103n1 I103n1 A103n1 fr103n1 M_h103n1 fi103n1 fa103n1 K20103n1 r8103n1 r9103n1 r10103n1 => ?_)
  have FR_h103n1 := (FR_h).ztr fr103n1
  have K_I103n1_4 : I103n1 4 = (nI way) := (fi103n1 4 (by decide)).trans K_I_4
  have K_I103n1_5 : I103n1 5 = (nI least) := (fi103n1 5 (by decide)).trans K_I_5
  have K_I103n1_7 : I103n1 7 = (nI dn) := (fi103n1 7 (by decide)).trans K_I_7
  have K_I103n1_27 : I103n1 27 = (nI win) := (fi103n1 27 (by decide)).trans K_I_27
  have FI_I103n1 : Fi I I103n1 (fun f => f = 15 ∨ f = 20 ∨ f = 25 ∨ f = 26 ∨ f = 31 ∨ f = 33 ∨ f = 38 ∨ f = 40 ∨ f = 52 ∨ f = 56) := (FI_I).zsub fi103n1 (fun j hj => by first | exact hj | omega)
  have FA_A103n1 : FaS AR A103n1 (fun b => 8 ≤ b ∧ b ≤ 42) := (FA_AR).ztr ((fa103n1).mono (fun x hx => by omega))
  have hW1 : WasS I103n1 I A103n1 AR := ⟨K20103n1, r8103n1, r9103n1, r10103n1⟩
  have hF1 : FrameIs I103n1 A103n1 l := (hF).fa (fi103n1 40 (by decide)) (fa103n1 25 (by decide))
  have hM1 : MadeIs I103n1 A103n1 c0 w0 := (hMd).fa (fi103n1 38 (by decide)) (fa103n1 24 (by decide))
  have hR1 : RefS I103n1 A103n1 S := RefS.pt (nt := S.2.2.2.2.2) hR (fi103n1 15 (by decide)) (fun j _ => by rw [fa103n1 8 (by decide)]) (fun j _ => by rw [fa103n1 9 (by decide)]) (fun j _ => by rw [fa103n1 10 (by decide)]) (fun j _ => by rw [fa103n1 11 (by decide)]) (fun q hq => by rw [fa103n1 42 (by decide)]; exact hR.2.2.2.2.2 q hq)
  clear K20103n1 r8103n1 r9103n1 r10103n1
  show WX _ _ _ 106 [(0, .ref m), (1, .int (nI fr_)), (2, .int (nI to_)), (3, .int (nI la)), (4, .int (nI (l).length)), (5, .int (nI (to_ - fr_)))] [] (n, s, h103n1)
  refine WX.s1 rfl rfl ?_
  refine WX.s1 rfl rfl ?_
  refine WX.s1 rfl rfl ?_
  refine WX.callC (vs := [.ref m, .long 0, .int (nI 3)]) rfl rfl rfl (Nat.le_of_ble_eq_true rfl) ((M_h103n1).rcv hm) ?_
  refine m_sayNumL (b := 3) hm M_h103n1 hF1 (by decide) (by omega) (fun h109n2 I109n2 A109n2 fr109n2 M_h109n2 fi109n2 fa109n2 hF2 => ?_)
  have FR_h109n2 := (FR_h103n1).ztr fr109n2
  have K_I109n2_4 : I109n2 4 = (nI way) := (fi109n2 4 (by decide)).trans K_I103n1_4
  have K_I109n2_5 : I109n2 5 = (nI least) := (fi109n2 5 (by decide)).trans K_I103n1_5
  have K_I109n2_7 : I109n2 7 = (nI dn) := (fi109n2 7 (by decide)).trans K_I103n1_7
  have K_I109n2_27 : I109n2 27 = (nI win) := (fi109n2 27 (by decide)).trans K_I103n1_27
  have FI_I109n2 : Fi I I109n2 (fun f => f = 15 ∨ f = 20 ∨ f = 25 ∨ f = 26 ∨ f = 31 ∨ f = 33 ∨ f = 38 ∨ f = 40 ∨ f = 52 ∨ f = 56) := (FI_I103n1).zsub fi109n2 (fun j hj => by first | exact hj | omega)
  have FA_A109n2 : FaS AR A109n2 (fun b => 8 ≤ b ∧ b ≤ 42) := (FA_A103n1).ztr ((fa109n2).toS (by omega))
  have hW2 : WasS I109n2 I A109n2 AR := (hW1).mv (fi109n2 20 (by decide)) (fa109n2 12 (by decide)) (fa109n2 13 (by decide)) (fa109n2 14 (by decide)) (fa109n2 15 (by decide))
  have hM2 : MadeIs I109n2 A109n2 c0 w0 := (hM1).fa (fi109n2 38 (by decide)) (fa109n2 24 (by decide))
  have hR2 : RefS I109n2 A109n2 S := RefS.pt (nt := S.2.2.2.2.2) hR1 (fi109n2 15 (by decide)) (fun j _ => by rw [(fa109n2 8 (by decide))]) (fun j _ => by rw [(fa109n2 9 (by decide))]) (fun j _ => by rw [(fa109n2 10 (by decide))]) (fun j _ => by rw [(fa109n2 11 (by decide))]) (fun q hq => by rw [(fa109n2 42 (by decide))]; exact hR1.2.2.2.2.2 q hq)
  clear hW1 hM1 hR1 hF1
  show WX _ _ _ 112 [(0, .ref m), (1, .int (nI fr_)), (2, .int (nI to_)), (3, .int (nI la)), (4, .int (nI (l).length)), (5, .int (nI (to_ - fr_)))] [] (n, s, h109n2)
  have hdi2 : ∀ i, i < dn → A109n2 3 i = nI (D i) := fun i hi => by rw [FA_A109n2 3 (by decide)]; exact hdi i hi
  have hin2 : ∀ i, i < to_ → A109n2 1 i = nI (D (dn + i)) := fun i hi => by rw [FA_A109n2 1 (by decide)]; exact (hin i hi).1
  refine m_bDat hm M_h109n2 hdn hdi2 hin2 hft hto K_I109n2_7 (fun hq Iq Aq frq M_hq fiq faq K_Iq_25 hDq => ?_)
  have FR_hq := (FR_h109n2).ztr frq
  have K_Iq_4 : Iq 4 = (nI way) := (fiq 4 (by decide)).trans K_I109n2_4
  have K_Iq_5 : Iq 5 = (nI least) := (fiq 5 (by decide)).trans K_I109n2_5
  have K_Iq_7 : Iq 7 = (nI dn) := (fiq 7 (by decide)).trans K_I109n2_7
  have K_Iq_27 : Iq 27 = (nI win) := (fiq 27 (by decide)).trans K_I109n2_27
  have FI_Iq : Fi I Iq (fun f => f = 15 ∨ f = 20 ∨ f = 25 ∨ f = 26 ∨ f = 31 ∨ f = 33 ∨ f = 38 ∨ f = 40 ∨ f = 52 ∨ f = 56) := (FI_I109n2).zsub fiq (fun j hj => by omega)
  have FA_Aq : FaS AR Aq (fun b => 8 ≤ b ∧ b ≤ 42) := (FA_A109n2).ztr ((faq).mono (fun x hx => by omega))
  have hW3 : WasS Iq I Aq AR := (hW2).mv (fiq 20 (by decide)) (faq 12 (by decide)) (faq 13 (by decide)) (faq 14 (by decide)) (faq 15 (by decide))
  have hM3 : MadeIs Iq Aq c0 w0 := (hM2).fa (fiq 38 (by decide)) (faq 24 (by decide))
  have hR3 : RefS Iq Aq S := RefS.pt (nt := S.2.2.2.2.2) hR2 (fiq 15 (by decide)) (fun j _ => by rw [(faq 8 (by decide))]) (fun j _ => by rw [(faq 9 (by decide))]) (fun j _ => by rw [(faq 10 (by decide))]) (fun j _ => by rw [(faq 11 (by decide))]) (fun q hq => by rw [(faq 42 (by decide))]; exact hR2.2.2.2.2.2 q hq)
  have hF3 : FrameIs Iq Aq (l ++ leL 0 3) := (hF2).fa (fiq 40 (by decide)) (faq 25 (by decide))
  clear hW2 hM2 hR2 hF2 hdi2 hin2 M_h109n2 FR_h109n2
  refine WX.s1 rfl rfl ?_
  refine WX.s1 (L' := [(0, .ref m), (1, .int (nI fr_)), (2, .int (nI to_)), (3, .int (nI la)), (4, .int (nI (l).length)), (5, .int (nI (to_ - fr_))), (7, .int 8)]) rfl rfl ?_
  have lp206 : ∀ (t i : Nat) (hL : Nat → aE) (AL : Nat → Nat → Int32), i + t = 12 → 8 ≤ i → MAt hL m Iq AL LN → Fr h hL (inM m) → FaS Aq AL (fun b => b = 40) → (∀ j, 8 ≤ j → j < i → AL 40 j = Aq 42 j) → (∀ j, j < 8 → AL 40 j = Aq 40 j) → WX (lk tX12_sayBlock) (mM (d + 7)) Ψ 206 [(0, .ref m), (1, .int (nI fr_)), (2, .int (nI to_)), (3, .int (nI la)), (4, .int (nI (l).length)), (5, .int (nI (to_ - fr_))), (7, .int (nI i))] [] (n, s, hL) := by
    clear M_hq FR_hq
    intro t
    induction t with
    | zero =>
      intro i hL AL ht hi0 M_hL FR_hL faL q3 q3_o
      obtain rfl : i = 12 := by omega
      have FA_AL : FaS AR AL (fun b => 8 ≤ b ∧ b ≤ 42) := (FA_Aq).ztr ((faL).mono (fun x hx => by omega))
      refine WX.s1 rfl rfl ?_
      refine WX.s1 rfl rfl ?_
      refine WX.icmp rfl (fun c_210 => ?_) (fun c_210 => absurd ((nI_leI (a := 12) (b := 12) (by omega) (by omega)).mpr (by omega)) c_210)
      clear c_210
      have hW4 : WasS Iq I AL AR := (hW3).mv rfl (faL 12 (by decide)) (faL 13 (by decide)) (faL 14 (by decide)) (faL 15 (by decide))
      have hM4 : MadeIs Iq AL c0 w0 := (hM3).fa rfl (faL 24 (by decide))
      have hR4 : RefS Iq AL S := RefS.pt (nt := S.2.2.2.2.2) hR3 rfl (fun j _ => by rw [(faL 8 (by decide))]) (fun j _ => by rw [(faL 9 (by decide))]) (fun j _ => by rw [(faL 10 (by decide))]) (fun j _ => by rw [(faL 11 (by decide))]) (fun q hq => by rw [(faL 42 (by decide))]; exact hR3.2.2.2.2.2 q hq)
      have hF4 : FrameIs Iq AL (l ++ leL 0 3) := (hF3).fa rfl (faL 25 (by decide))
      have hD4 : DataIs AL D (dn + to_) := fun i hi => ⟨hDb i hi, by rw [faL 16 (by decide)]; exact hDq i hi⟩
      have hT4 : ∀ j, 8 ≤ j → j < 12 → AL 40 j = nI (S.2.2.2.2.2 j) := fun j h1 h2 => by rw [q3 j h1 h2]; exact hR3.2.2.2.2.2 j h2
      clear q3 q3_o hW3 hM3 hR3 hF3 hDq
      refine WX.keep (y := 207) [0, 1, 2, 3, 4, 5] (show ([0, 1, 2, 3, 4, 5, 7] : List Nat).Nodup by decide) rfl ?_
      refine WX.s1 rfl rfl ?_
      refine WX.s1 rfl rfl ?_
      refine WX.mgetK (x := (nI dn)) rfl hm M_hL rfl K_Iq_7 ?_
      refine WX.s1 rfl rfl ?_
      refine WX.s1 (S' := [.int ((nI dn) + (nI fr_)), .ref m]) rfl rfl ?_
      rw [show ((nI dn) + (nI fr_)) = nI (dn + fr_) from nI_add dn fr_]
      refine WX.callC (vs := [.ref m, .int (nI (dn + fr_))]) rfl rfl rfl (Nat.le_of_ble_eq_true rfl) ((M_hL).rcv hm) ?_
      refine m_go (D := D) (e := (dn + to_)) (f := (dn + fr_)) hm M_hL hD4 (by omega) hw hl3 hl8 hwin (by omega) (by omega) K_Iq_25 K_Iq_27 K_Iq_5 K_Iq_4 (fun hg Ig Ag kg pg sg lsg qsg eg hpg frg M_hg fig fag hLM hSM => ?_)
      obtain ⟨e1, e2⟩ := goE_of eg hpg
      subst e1
      subst e2
      clear eg hpg
      have FR_hg := (FR_hL).ztr frg
      have FI_Ig : Fi I Ig (fun f => f = 15 ∨ f = 20 ∨ f = 25 ∨ f = 26 ∨ f = 31 ∨ f = 33 ∨ f = 38 ∨ f = 40 ∨ f = 52 ∨ f = 56) := (FI_Iq).zsub fig (fun j hj => by omega)
      have FA_Ag : FaS AR Ag (fun b => 8 ≤ b ∧ b ≤ 42) := (FA_AL).ztr ((fag).mono (fun x hx => by omega))
      have hW5 : WasS Ig I Ag AR := (hW4).mv (fig 20 (by decide)) (fag 12 (by decide)) (fag 13 (by decide)) (fag 14 (by decide)) (fag 15 (by decide))
      have hM5 : MadeIs Ig Ag c0 w0 := (hM4).fa (fig 38 (by decide)) (fag 24 (by decide))
      have hR5 : RefS Ig Ag S := RefS.pt (nt := S.2.2.2.2.2) hR4 (fig 15 (by decide)) (fun j _ => by rw [(fag 8 (by decide))]) (fun j _ => by rw [(fag 9 (by decide))]) (fun j _ => by rw [(fag 10 (by decide))]) (fun j _ => by rw [(fag 11 (by decide))]) (fun q hq => by rw [(fag 42 (by decide))]; exact hR4.2.2.2.2.2 q hq)
      have hF5 : FrameIs Ig Ag (l ++ leL 0 3) := (hF4).fa (fig 40 (by decide)) (fag 25 (by decide))
      have hT5 : ∀ j, 8 ≤ j → j < 12 → Ag 40 j = nI (S.2.2.2.2.2 j) := fun j h1 h2 => by rw [fag 40 (by decide)]; exact hT4 j h1 h2
      clear hW4 hM4 hR4 hF4 hT4 hD4 M_hL FR_hL
      show WX _ _ _ 243 [(0, .ref m), (1, .int (nI fr_)), (2, .int (nI to_)), (3, .int (nI la)), (4, .int (nI (l).length)), (5, .int (nI (to_ - fr_)))] [] (n, s, hg)
      refine WX.s1 rfl rfl ?_
      have hxl : (leL 0 3).length = 3 := leL_len 0 3
      have hlx : (l ++ leL 0 3).length = (l).length + 3 := by rw [List.length_append, hxl]
      refine WX.callC (vs := [.ref m]) rfl rfl rfl (Nat.le_of_ble_eq_true rfl) ((M_hg).rcv hm) ?_
      refine m_sayLits hm M_hg hLM hgl hR5.1 hO.1 hM5 hF5 (by omega) hLM.1 (fun hk h6 I6 A6 c6 w6 fr6 M_h6 fi6 fa6 hM6 hRL6 hF6 => ?_) (fun t et hk h6 I6 A6 c6 w6 fr6 M_h6 fi6 fa6 hM6 hRL6 hF6 => ?_) (fun y ey hk h6 I6 A6 c6 w6 fr6 M_h6 fi6 fa6 hM6 hRL6 hF6 => ?_)
      · skip
        show WX _ _ _ 247 [(0, .ref m), (1, .int (nI fr_)), (2, .int (nI to_)), (3, .int (nI la)), (4, .int (nI (l).length)), (5, .int (nI (to_ - fr_)))] [.int (nI (litF S.1 (goE D way least win (dn + to_) (dn + fr_)).2.2.1).1)] (n, s, h6)
        have eY : litY S.1 (goE D way least win (dn + to_) (dn + fr_)).2.2.1 = plY (litF S.1 (goE D way least win (dn + to_) (dn + fr_)).2.2.1).1 (goE D way least win (dn + to_) (dn + fr_)).2.2.1 := by unfold litY; rw [if_pos hk]
        have eT : litT S.1 (goE D way least win (dn + to_) (dn + fr_)).2.2.1 = S.1 := by unfold litT; rw [if_neg (by omega)]
        rw [← eY, List.append_assoc] at hF6
        rw [← eT] at hRL6
        have FI_6 : Fi I I6 (fun f => f = 15 ∨ f = 20 ∨ f = 25 ∨ f = 26 ∨ f = 31 ∨ f = 33 ∨ f = 38 ∨ f = 40 ∨ f = 52 ∨ f = 56) := (FI_Ig).zsub fi6 (fun j hj => by omega)
        have FA_6 : FaS AR A6 (fun b => 8 ≤ b ∧ b ≤ 42) := (FA_Ag).ztr ((fa6).mono (fun x hx => by omega))
        have FR_6 := (FR_hg).ztr fr6
        have hSM6 : SeqM I6 A6 (goE D way least win (dn + to_) (dn + fr_)).2.2.2 := ⟨(fi6 31 (by decide)).trans hSM.1, fun i hi => by rw [fa6 17 (by decide), fa6 18 (by decide), fa6 19 (by decide)]; exact hSM.2 i hi⟩
        have hW6 : WasS I6 I A6 AR := (hW5).mv (fi6 20 (by decide)) (fa6 12 (by decide)) (fa6 13 (by decide)) (fa6 14 (by decide)) (fa6 15 (by decide))
        have hR6 : RefS I6 A6 (litT S.1 (goE D way least win (dn + to_) (dn + fr_)).2.2.1, S.2) := ⟨hRL6, hR5.2.1.fa (fa6 10 (by decide)) (fa6 9 (by decide)), hR5.2.2.1.fa (fa6 10 (by decide)) (fa6 9 (by decide)), hR5.2.2.2.1.fa (fa6 10 (by decide)) (fa6 9 (by decide)), hR5.2.2.2.2.1.pt (fun j _ => by rw [fa6 11 (by decide)]), fun q hq => by rw [fa6 42 (by decide)]; exact hR5.2.2.2.2.2 q hq⟩
        refine m_bTl (D := D) (dn := dn) (qs := (goE D way least win (dn + to_) (dn + fr_)).2.2.2) hm M_h6 hxl rfl hF6 hl hgl hgq hgB hO hla hSM6 hM6 hR6 hW6 hR (fun j h1 h2 => by rw [fa6 40 (by decide)]; exact hT5 j h1 h2) (fun i hi => by rw [FA_6 1 (by decide)]; exact hin i hi) hft hto (fun z h9 I9 A9 c9 w9 fr9 M9 fi9 fa9 hM9 F9 R9 => ?_) (fun z h9 I9 A9 c9 w9 fr9 M9 fi9 fa9 hM9 F9 R9 => ?_)
        · exact kk1 z h9 I9 A9 c9 w9 ((FR_6).ztr fr9) M9 ((FI_6).zsub fi9 (fun j hj => by omega)) ((FA_6).ztr ((fa9).mono (fun j hj => by omega))) hM9 F9 R9
        · exact kk2 z h9 I9 A9 c9 w9 ((FR_6).ztr fr9) M9 ((FI_6).zsub fi9 (fun j hj => by omega)) ((FA_6).ztr ((fa9).mono (fun j hj => by omega))) hM9 F9 R9
      · skip
        show WX _ _ _ 247 [(0, .ref m), (1, .int (nI fr_)), (2, .int (nI to_)), (3, .int (nI la)), (4, .int (nI (l).length)), (5, .int (nI (to_ - fr_)))] [.int (nI 3)] (n, s, h6)
        have eY : litY S.1 (goE D way least win (dn + to_) (dn + fr_)).2.2.1 = hdY 3 (litF S.1 (goE D way least win (dn + to_) (dn + fr_)).2.2.1).2.2 (goE D way least win (dn + to_) (dn + fr_)).2.2.1 ++ stmY t.1 t.2 (goE D way least win (dn + to_) (dn + fr_)).2.2.1 := by unfold litY; rw [if_neg (by rw [hk]; decide), if_pos hk, et]; rfl
        have eT : litT S.1 (goE D way least win (dn + to_) (dn + fr_)).2.2.1 = S.1 := by unfold litT; rw [if_neg (by rw [hk]; decide)]
        rw [← eY, List.append_assoc] at hF6
        rw [← eT] at hRL6
        have FI_6 : Fi I I6 (fun f => f = 15 ∨ f = 20 ∨ f = 25 ∨ f = 26 ∨ f = 31 ∨ f = 33 ∨ f = 38 ∨ f = 40 ∨ f = 52 ∨ f = 56) := (FI_Ig).zsub fi6 (fun j hj => by omega)
        have FA_6 : FaS AR A6 (fun b => 8 ≤ b ∧ b ≤ 42) := (FA_Ag).ztr ((fa6).mono (fun x hx => by omega))
        have FR_6 := (FR_hg).ztr fr6
        have hSM6 : SeqM I6 A6 (goE D way least win (dn + to_) (dn + fr_)).2.2.2 := ⟨(fi6 31 (by decide)).trans hSM.1, fun i hi => by rw [fa6 17 (by decide), fa6 18 (by decide), fa6 19 (by decide)]; exact hSM.2 i hi⟩
        have hW6 : WasS I6 I A6 AR := (hW5).mv (fi6 20 (by decide)) (fa6 12 (by decide)) (fa6 13 (by decide)) (fa6 14 (by decide)) (fa6 15 (by decide))
        have hR6 : RefS I6 A6 (litT S.1 (goE D way least win (dn + to_) (dn + fr_)).2.2.1, S.2) := ⟨hRL6, hR5.2.1.fa (fa6 10 (by decide)) (fa6 9 (by decide)), hR5.2.2.1.fa (fa6 10 (by decide)) (fa6 9 (by decide)), hR5.2.2.2.1.fa (fa6 10 (by decide)) (fa6 9 (by decide)), hR5.2.2.2.2.1.pt (fun j _ => by rw [fa6 11 (by decide)]), fun q hq => by rw [fa6 42 (by decide)]; exact hR5.2.2.2.2.2 q hq⟩
        refine m_bTl (D := D) (dn := dn) (qs := (goE D way least win (dn + to_) (dn + fr_)).2.2.2) hm M_h6 hxl hk hF6 hl hgl hgq hgB hO hla hSM6 hM6 hR6 hW6 hR (fun j h1 h2 => by rw [fa6 40 (by decide)]; exact hT5 j h1 h2) (fun i hi => by rw [FA_6 1 (by decide)]; exact hin i hi) hft hto (fun z h9 I9 A9 c9 w9 fr9 M9 fi9 fa9 hM9 F9 R9 => ?_) (fun z h9 I9 A9 c9 w9 fr9 M9 fi9 fa9 hM9 F9 R9 => ?_)
        · exact kk1 z h9 I9 A9 c9 w9 ((FR_6).ztr fr9) M9 ((FI_6).zsub fi9 (fun j hj => by omega)) ((FA_6).ztr ((fa9).mono (fun j hj => by omega))) hM9 F9 R9
        · exact kk2 z h9 I9 A9 c9 w9 ((FR_6).ztr fr9) M9 ((FI_6).zsub fi9 (fun j hj => by omega)) ((FA_6).ztr ((fa9).mono (fun j hj => by omega))) hM9 F9 R9
      · skip
        show WX _ _ _ 247 [(0, .ref m), (1, .int (nI fr_)), (2, .int (nI to_)), (3, .int (nI la)), (4, .int (nI (l).length)), (5, .int (nI (to_ - fr_)))] [.int (nI 2)] (n, s, h6)
        have eY : litY S.1 (goE D way least win (dn + to_) (dn + fr_)).2.2.1 = hdY 2 (litF S.1 (goE D way least win (dn + to_) (dn + fr_)).2.2.1).2.2 (goE D way least win (dn + to_) (dn + fr_)).2.2.1 ++ (y ++ stmY (dF (cL (goE D way least win (dn + to_) (dn + fr_)).2.2.1)) (topF (cL (goE D way least win (dn + to_) (dn + fr_)).2.2.1)) (goE D way least win (dn + to_) (dn + fr_)).2.2.1) := by unfold litY; rw [if_neg (by rw [hk]; decide), if_neg (by rw [hk]; decide), ey]; rfl
        have eT : litT S.1 (goE D way least win (dn + to_) (dn + fr_)).2.2.1 = some (dF (cL (goE D way least win (dn + to_) (dn + fr_)).2.2.1), topF (cL (goE D way least win (dn + to_) (dn + fr_)).2.2.1)) := by unfold litT; rw [if_pos hk]
        rw [← eY, List.append_assoc] at hF6
        rw [← eT] at hRL6
        have FI_6 : Fi I I6 (fun f => f = 15 ∨ f = 20 ∨ f = 25 ∨ f = 26 ∨ f = 31 ∨ f = 33 ∨ f = 38 ∨ f = 40 ∨ f = 52 ∨ f = 56) := (FI_Ig).zsub fi6 (fun j hj => by omega)
        have FA_6 : FaS AR A6 (fun b => 8 ≤ b ∧ b ≤ 42) := (FA_Ag).ztr ((fa6).mono (fun x hx => by omega))
        have FR_6 := (FR_hg).ztr fr6
        have hSM6 : SeqM I6 A6 (goE D way least win (dn + to_) (dn + fr_)).2.2.2 := ⟨(fi6 31 (by decide)).trans hSM.1, fun i hi => by rw [fa6 17 (by decide), fa6 18 (by decide), fa6 19 (by decide)]; exact hSM.2 i hi⟩
        have hW6 : WasS I6 I A6 AR := (hW5).mv (fi6 20 (by decide)) (fa6 12 (by decide)) (fa6 13 (by decide)) (fa6 14 (by decide)) (fa6 15 (by decide))
        have hR6 : RefS I6 A6 (litT S.1 (goE D way least win (dn + to_) (dn + fr_)).2.2.1, S.2) := ⟨hRL6, hR5.2.1.fa (fa6 10 (by decide)) (fa6 9 (by decide)), hR5.2.2.1.fa (fa6 10 (by decide)) (fa6 9 (by decide)), hR5.2.2.2.1.fa (fa6 10 (by decide)) (fa6 9 (by decide)), hR5.2.2.2.2.1.pt (fun j _ => by rw [fa6 11 (by decide)]), fun q hq => by rw [fa6 42 (by decide)]; exact hR5.2.2.2.2.2 q hq⟩
        refine m_bTl (D := D) (dn := dn) (qs := (goE D way least win (dn + to_) (dn + fr_)).2.2.2) hm M_h6 hxl hk hF6 hl hgl hgq hgB hO hla hSM6 hM6 hR6 hW6 hR (fun j h1 h2 => by rw [fa6 40 (by decide)]; exact hT5 j h1 h2) (fun i hi => by rw [FA_6 1 (by decide)]; exact hin i hi) hft hto (fun z h9 I9 A9 c9 w9 fr9 M9 fi9 fa9 hM9 F9 R9 => ?_) (fun z h9 I9 A9 c9 w9 fr9 M9 fi9 fa9 hM9 F9 R9 => ?_)
        · exact kk1 z h9 I9 A9 c9 w9 ((FR_6).ztr fr9) M9 ((FI_6).zsub fi9 (fun j hj => by omega)) ((FA_6).ztr ((fa9).mono (fun j hj => by omega))) hM9 F9 R9
        · exact kk2 z h9 I9 A9 c9 w9 ((FR_6).ztr fr9) M9 ((FI_6).zsub fi9 (fun j hj => by omega)) ((FA_6).ztr ((fa9).mono (fun j hj => by omega))) hM9 F9 R9
    | succ t ih =>
      intro i hL AL ht hi0 M_hL FR_hL faL hInv hInvo
      refine WX.s1 rfl rfl ?_
      refine WX.s1 rfl rfl ?_
      refine WX.icmp rfl (fun c_210 => absurd c_210 (fun zz_ => absurd ((nI_leI (a := 12) (b := i) (by omega) (by omega)).mp zz_) (Nat.not_le.mpr (by omega)))) (fun c_210 => ?_)
      clear c_210
      refine WX.s1 rfl rfl ?_
      refine WX.mget rfl hm M_hL rfl ?_
      refine WX.s1 rfl rfl ?_
      refine WX.s1 rfl rfl ?_
      refine WX.mget rfl hm M_hL rfl ?_
      refine WX.s1 rfl rfl ?_
      refine WX.mald (c := 42) rfl hm M_hL (by decide) (by decide) (by decide) (by decide) (vp_in_nI (N := 12) (by omega) (by decide)) ?_
      rw [nI_clamp (by omega), faL 42 (by decide)]
      refine WX.mast (c := 40) rfl hm M_hL (by decide) (by decide) (by decide) (by decide) (vp_in_nI (N := 12) (by omega) (by decide)) (fun h226n4 A226n4 e_A226n4 M_h226n4 frh226n4 => ?_)
      try dsimp only at e_A226n4
      have FR_h226n4 := (FR_hL).ztr frh226n4
      clear M_hL FR_hL frh226n4
      refine WX.s1 (L' := [(0, .ref m), (1, .int (nI fr_)), (2, .int (nI to_)), (3, .int (nI la)), (4, .int (nI (l).length)), (5, .int (nI (to_ - fr_))), (7, .int ((nI i) + 1))]) rfl rfl ?_
      rw [show ((nI i) + 1) = nI (i + 1) from nI_add i 1]
      refine WX.s1 rfl rfl ?_
      rw [nI_clamp (by omega)] at e_A226n4
      refine ih (i + 1) h226n4 A226n4 (by omega) (by omega) M_h226n4 FR_h226n4 ((faL).ast e_A226n4 (by omega)) ?_ ?_
      · intro j hj0 hj
        by_cases z : j = i
        · rw [z, e_A226n4, upA_same, pk_us]
        · rw [e_A226n4, upA_same, pk_un z]; exact hInv j hj0 (by omega)
      · intro j hj
        rw [e_A226n4, upA_same, pk_un (show j ≠ i by omega)]; exact hInvo j hj
  exact lp206 4 8 hq Aq (by omega) (by omega) M_hq FR_hq FaS.rf (fun j h0 hj => absurd hj (by omega)) (fun _ _ => rfl)
set_option maxRecDepth 20000 in
theorem m_blk {d n s : Nat} {h : Nat → aE} {m : Nat} {I : Nat → Int32} {AR : Nat → Nat → Int32} {LN : Nat → Int64} {l : List Nat} {D : Nat → Nat} {way least win dn fr_ to_ la c0 w0 : Nat} {S : PkS} (hm : m + 43 < n) (M_h : MAt h m I AR LN) (hF : FrameIs I AR l) (hl : (l).length < 2 ^ 26) (hMd : MadeIs I AR c0 w0) (hO : PkOk S) (hR : RefS I AR S) (hla : la ≤ 1) (hdn : dn ≤ 8000) (hdi : ∀ i, i < dn → AR 3 i = nI (D i)) (hin : ∀ i, i < to_ → AR 1 i = nI (D (dn + i)) ∧ D (dn + i) < 256) (hft : fr_ ≤ to_) (hto : to_ ≤ 8000) (hDb : ∀ i, i < dn + to_ → D i < 256) (hw : way ≤ 3) (hl3 : 3 ≤ least) (hl8 : least ≤ 8) (hwin : win < 2 ^ 30) (K_I_4 : I 4 = (nI way)) (K_I_5 : I 5 = (nI least)) (K_I_7 : I 7 = (nI dn)) (K_I_27 : I 27 = (nI win)) {Ψ : Option Value → aH → Prop} (kk : ∀ h' I' A' c w, Fr h h' (inM m) → MAt h' m I' A' LN → Fi I I' (fun f => f = 15 ∨ f = 20 ∨ f = 25 ∨ f = 26 ∨ f = 31 ∨ f = 33 ∨ f = 38 ∨ f = 40 ∨ f = 52 ∨ f = 56) → FaS AR A' (fun b => 8 ≤ b ∧ b ≤ 42) → MadeIs I' A' c w → FrameIs I' A' (l ++ (blkB D way least win (dn + fr_) (dn + to_) la S)) → RefS I' A' (blkT D way least win (dn + fr_) (dn + to_) S) → Ψ none (n, s, h')) : WO (mM (d + 8)) 207 [.ref m, .int (nI fr_), .int (nI to_), .int (nI la)] (n, s, h) Ψ := by
  refine WO.of (Nat.le_of_ble_eq_true rfl) ?_
  have FR_h : Fr h h (inM m) := Fr.rf
  have FI_I : Fi I I (fun f => f = 15 ∨ f = 20 ∨ f = 25 ∨ f = 26 ∨ f = 31 ∨ f = 33 ∨ f = 38 ∨ f = 40 ∨ f = 52 ∨ f = 56) := Fi.rf
  have K_I_40 : I 40 = nI (l).length := hF.1
  have FA_AR : FaS AR AR (fun b => 8 ≤ b ∧ b ≤ 42) := FaS.rf
  have eEF : (dn + to_) - (dn + fr_) = to_ - fr_ := by omega
  show WX (lk tX12_sayBlock) (mM (d + 7)) Ψ 0 [(0, .ref m), (1, .int (nI fr_)), (2, .int (nI to_)), (3, .int (nI la))] [] (n, s, h)
  refine WX.s1 rfl rfl ?_
  refine WX.mgetK (x := (nI (l).length)) rfl hm M_h rfl K_I_40 ?_
  refine WX.s1 (L' := [(0, .ref m), (1, .int (nI fr_)), (2, .int (nI to_)), (3, .int (nI la)), (4, .int (nI (l).length))]) rfl rfl ?_
  refine WX.s1 rfl rfl ?_
  refine WX.s1 rfl rfl ?_
  refine WX.s1 (S' := [.int ((nI to_) - (nI fr_))]) rfl rfl ?_
  rw [show nI to_ - nI fr_ = nI (to_ - fr_) from nI_subN hft]
  refine WX.s1 (L' := [(0, .ref m), (1, .int (nI fr_)), (2, .int (nI to_)), (3, .int (nI la)), (4, .int (nI (l).length)), (5, .int (nI (to_ - fr_)))]) rfl rfl ?_
  have t21 : ∀ b : Nat, b ≤ 1 → (b = 1 ↔ fr_ < to_) → WX (lk tX12_sayBlock) (mM (d + 7)) Ψ 21 [(0, .ref m), (1, .int (nI fr_)), (2, .int (nI to_)), (3, .int (nI la)), (4, .int (nI (l).length)), (5, .int (nI (to_ - fr_)))] [.int (nI b)] (n, s, h) := by
    intro b hb1 hb
    refine WX.s1 (L' := [(0, .ref m), (1, .int (nI fr_)), (2, .int (nI to_)), (3, .int (nI la)), (4, .int (nI (l).length)), (5, .int (nI (to_ - fr_))), (6, .int (nI b))]) rfl rfl ?_
    refine WX.s1 rfl rfl ?_
    refine WX.s1 (L' := [(0, .ref m), (1, .int (nI fr_)), (2, .int (nI to_)), (3, .int (nI la)), (4, .int (nI (l).length)), (5, .int (nI (to_ - fr_))), (6, .int (nI b)), (7, .int (nI fr_))]) rfl rfl ?_
    have lp : ∀ (t k b : Nat), k + t = to_ → fr_ ≤ k → b ≤ 1 → (b = 1 ↔ (fr_ < to_ ∧ ∀ i, fr_ ≤ i → i < k → D (dn + i) = D (dn + fr_))) → WX (lk tX12_sayBlock) (mM (d + 7)) Ψ 26 [(0, .ref m), (1, .int (nI fr_)), (2, .int (nI to_)), (3, .int (nI la)), (4, .int (nI (l).length)), (5, .int (nI (to_ - fr_))), (6, .int (nI b)), (7, .int (nI k))] [] (n, s, h) := by
      intro t
      induction t with
      | zero =>
        intro k b ht hk hb1 hb
        have hkk : k = to_ := by omega
        rw [hkk] at hb ⊢
        refine WX.s1 rfl rfl ?_
        refine WX.s1 rfl rfl ?_
        refine WX.icmp rfl (fun c_29 => ?_) (fun c_29 => absurd ((nI_leI (a := to_) (b := to_) (by omega) (by omega)).mpr (by omega)) c_29)
        clear c_29
        refine WX.s1 rfl rfl ?_
        refine WX.if_ rfl (fun c_68 => ?_) (fun c_68 => ?_)
        · skip
          have n_68 : b = 0 := (nI_eq (a := b) (b := 0) (by omega) (by omega)).mp c_68
          have hsm : ¬ sameB D (dn + fr_) (dn + to_) = true := fun z => by
            have q := (sameB_iff).mp z
            have : b = 1 := (hb).mpr ⟨by omega, fun i h1 h2 => q.2 (dn + i) (by omega) (by omega)⟩
            omega
          refine WX.keep (y := 207) [0, 1, 2, 3, 4, 5] (show ([0, 1, 2, 3, 4, 5, 6, 7] : List Nat).Nodup by decide) rfl ?_
          have eEF2 : (List.range ((dn + to_) - (dn + fr_))).map (fun i => D ((dn + fr_) + i)) = (List.range (to_ - fr_)).map (fun i => D (dn + fr_ + i)) := by rw [eEF]
          refine m_bMid hm M_h hF hl hMd hO hR hla hdn hdi hin hft hto hDb hw hl3 hl8 hwin K_I_4 K_I_5 K_I_7 K_I_27 (fun z h9 I9 A9 c9 w9 fr9 M9 fi9 fa9 hM9 F9 R9 => ?_) (fun z h9 I9 A9 c9 w9 fr9 M9 fi9 fa9 hM9 F9 R9 => ?_)
          · have eB : (blkB D way least win (dn + fr_) (dn + to_) la S) = leBy (8 * (blkP (goE D way least win (dn + to_) (dn + fr_)).2.2.1 (goE D way least win (dn + to_) (dn + fr_)).2.2.2 S).length + 4 + la) 3 ++ (blkP (goE D way least win (dn + to_) (dn + fr_)).2.2.1 (goE D way least win (dn + to_) (dn + fr_)).2.2.2 S) := by unfold blkB; rw [if_neg hsm, if_pos (by rw [eEF]; exact z)]
            have eT : (blkT D way least win (dn + fr_) (dn + to_) S) = blkK (goE D way least win (dn + to_) (dn + fr_)).2.2.1 (goE D way least win (dn + to_) (dn + fr_)).2.2.2 S := by unfold blkT; rw [if_neg hsm, if_pos (by rw [eEF]; exact z)]
            rw [eB, eT] at kk
            exact kk h9 I9 A9 c9 w9 fr9 M9 fi9 fa9 hM9 F9 R9
          · have eB : (blkB D way least win (dn + fr_) (dn + to_) la S) = (leBy (8 * (to_ - fr_) + la) 3 ++ (List.range (to_ - fr_)).map (fun i => D (dn + fr_ + i))) := by unfold blkB; rw [if_neg hsm, if_neg (by rw [eEF]; omega), eEF]
            have eT : (blkT D way least win (dn + fr_) (dn + to_) S) = pkNt S (ntAt S.2.2.2.2.2 0 1) := by unfold blkT; rw [if_neg hsm, if_neg (by rw [eEF]; omega)]
            rw [eB, eT] at kk
            exact kk h9 I9 A9 c9 w9 fr9 M9 fi9 fa9 hM9 F9 R9
        · skip
          have n_68 : ¬ b = 0 := fun zz_ => c_68 ((nI_eq (a := b) (b := 0) (by omega) (by omega)).mpr zz_)
          obtain ⟨hlt, hall⟩ := (hb).mp (by omega)
          have hsm : sameB D (dn + fr_) (dn + to_) = true := (sameB_iff).mpr ⟨by omega, fun i h1 h2 => by have q := hall (i - dn) (by omega) (by omega); rw [show dn + (i - dn) = i by omega] at q; exact q⟩
          refine WX.keep (y := 207) [0, 1, 2, 3, 4, 5] (show ([0, 1, 2, 3, 4, 5, 6, 7] : List Nat).Nodup by decide) rfl ?_
          refine WX.s1 rfl rfl ?_
          refine WX.s1 rfl rfl ?_
          refine WX.s1 rfl rfl ?_
          refine WX.s1 rfl rfl ?_
          refine WX.s1 rfl rfl ?_
          refine WX.callC (vs := [.ref m, .int (nI (l).length), .int (nI (to_ - fr_)), .int (nI 1), .int (nI la)]) rfl rfl rfl (Nat.le_of_ble_eq_true rfl) ((M_h).rcv hm) ?_
          refine m_bh0L (kd := 1) hm M_h hF (by omega) (by omega) (by decide) hla (fun h78n1 I78n1 A78n1 fr78n1 M_h78n1 fi78n1 fa78n1 hF78n1 => ?_)
          have FR_h78n1 := (FR_h).ztr fr78n1
          have K_I78n1_4 : I78n1 4 = (nI way) := (fi78n1 4 (by decide)).trans K_I_4
          have K_I78n1_5 : I78n1 5 = (nI least) := (fi78n1 5 (by decide)).trans K_I_5
          have K_I78n1_7 : I78n1 7 = (nI dn) := (fi78n1 7 (by decide)).trans K_I_7
          have K_I78n1_27 : I78n1 27 = (nI win) := (fi78n1 27 (by decide)).trans K_I_27
          have FI_I78n1 : Fi I I78n1 (fun f => f = 15 ∨ f = 20 ∨ f = 25 ∨ f = 26 ∨ f = 31 ∨ f = 33 ∨ f = 38 ∨ f = 40 ∨ f = 52 ∨ f = 56) := (FI_I).zsub fi78n1 (fun j hj => by first | exact hj | omega)
          have FA_A78n1 : FaS AR A78n1 (fun b => 8 ≤ b ∧ b ≤ 42) := (FA_AR).ztr ((fa78n1).toS (by omega))
          have a1 : A78n1 1 = AR 1 := fa78n1 1 (by decide)
          show WX _ _ _ 81 [(0, .ref m), (1, .int (nI fr_)), (2, .int (nI to_)), (3, .int (nI la)), (4, .int (nI (l).length)), (5, .int (nI (to_ - fr_)))] [] (n, s, h78n1)
          refine WX.s1 rfl rfl ?_
          refine WX.s1 rfl rfl ?_
          refine WX.mget rfl hm M_h78n1 rfl ?_
          refine WX.s1 rfl rfl ?_
          refine WX.mald (c := 1) rfl hm M_h78n1 (by decide) (by decide) (by decide) (by decide) (vp_in_nI (N := 8000) (by omega) (by decide)) ?_
          rw [nI_clamp (by omega), a1, (hin fr_ (by omega)).1]
          refine WX.callC (vs := [.ref m, .int (nI (D (dn + fr_)))]) rfl rfl rfl (Nat.le_of_ble_eq_true rfl) ((M_h78n1).rcv hm) ?_
          refine m_sayL hm M_h78n1 hF78n1 (by rw [List.length_append, leBy_len]; omega) (fun h88n2 I88n2 A88n2 fr88n2 M_h88n2 fi88n2 fa88n2 hG88n2 => ?_)
          have FR_h88n2 := (FR_h78n1).ztr fr88n2
          have K_I88n2_4 : I88n2 4 = (nI way) := (fi88n2 4 (by decide)).trans K_I78n1_4
          have K_I88n2_5 : I88n2 5 = (nI least) := (fi88n2 5 (by decide)).trans K_I78n1_5
          have K_I88n2_7 : I88n2 7 = (nI dn) := (fi88n2 7 (by decide)).trans K_I78n1_7
          have K_I88n2_27 : I88n2 27 = (nI win) := (fi88n2 27 (by decide)).trans K_I78n1_27
          have FI_I88n2 : Fi I I88n2 (fun f => f = 15 ∨ f = 20 ∨ f = 25 ∨ f = 26 ∨ f = 31 ∨ f = 33 ∨ f = 38 ∨ f = 40 ∨ f = 52 ∨ f = 56) := (FI_I78n1).zsub fi88n2 (fun j hj => by first | exact hj | omega)
          have FA_A88n2 : FaS AR A88n2 (fun b => 8 ≤ b ∧ b ≤ 42) := (FA_A78n1).ztr ((fa88n2).toS (by omega))
          rw [Nat.mod_eq_of_lt (hin fr_ (by omega)).2] at hG88n2
          have o9 : ∀ b, b ≠ 25 → A88n2 b = AR b := fun b hb => (fa88n2 b hb).trans (fa78n1 b hb)
          have N1 : NtM A88n2 S.2.2.2.2.2 := fun q hq => by rw [o9 42 (by decide)]; exact hR.2.2.2.2.2 q hq
          have oI : ∀ f, f ≠ 40 → I88n2 f = I f := fun f hf => (fi88n2 f hf).trans (fi78n1 f hf)
          show WX _ _ _ 91 [(0, .ref m), (1, .int (nI fr_)), (2, .int (nI to_)), (3, .int (nI la)), (4, .int (nI (l).length)), (5, .int (nI (to_ - fr_)))] [] (n, s, h88n2)
          refine WX.s1 rfl rfl ?_
          refine WX.mget rfl hm M_h88n2 rfl ?_
          refine WX.s1 rfl rfl ?_
          refine WX.s1 rfl rfl ?_
          refine WX.mald (c := 42) rfl hm M_h88n2 (by decide) (by decide) (by decide) (by decide) (by unfold vp_in; decide) ?_
          rw [show A88n2 42 (Int32.toNatClampNeg 1) = nI (S.2.2.2.2.2 1) from N1 1 (by decide)]
          refine WX.s1 rfl rfl ?_
          refine WX.s1 (S' := [.int ((nI (S.2.2.2.2.2 1)) + 1), .int 1, .ref (m + 42)]) rfl rfl ?_
          rw [show ((nI (S.2.2.2.2.2 1)) + 1) = nI (S.2.2.2.2.2 1 + 1) from nI_add (S.2.2.2.2.2 1) 1]
          refine WX.mast (c := 42) rfl hm M_h88n2 (by decide) (by decide) (by decide) (by decide) (by unfold vp_in; decide) (fun h100n3 A100n3 e_A100n3 M_h100n3 frh100n3 => ?_)
          try dsimp only at e_A100n3
          have FR_h100n3 := (FR_h88n2).ztr frh100n3
          clear M_h88n2 FR_h88n2 frh100n3
          have N2 : NtM A100n3 (ntAt S.2.2.2.2.2 1 1) := N1.inc (q := 1) (dd := 1) e_A100n3
          have o8 : ∀ b, b ≠ 25 → b ≠ 42 → A100n3 b = AR b := fun b h1 h2 => by rw [e_A100n3, upA_ne h2]; exact o9 b h1
          have eB : (blkB D way least win (dn + fr_) (dn + to_) la S) = leBy (8 * (to_ - fr_) + 2 * 1 + la) 3 ++ [D (dn + fr_)] := by unfold blkB; rw [if_pos hsm, eEF]
          have eT : (blkT D way least win (dn + fr_) (dn + to_) S) = pkNt S (ntAt S.2.2.2.2.2 1 1) := by unfold blkT; rw [if_pos hsm]
          rw [eB, eT] at kk
          refine WX.ret0 rfl (kk h100n3 I88n2 A100n3 c0 w0 FR_h100n3 M_h100n3 FI_I88n2 (fun b hb => o8 b (fun z => hb (by omega)) (fun z => hb (by omega))) ((hMd).fa (oI 38 (by decide)) (o8 24 (by decide) (by decide))) ?_ ?_)
          · rw [← List.append_assoc]; exact ⟨hG88n2.1, fun q h1 h2 => by rw [e_A100n3, upA_ne (by decide)]; exact hG88n2.2 q h1 h2⟩
          · exact RefS.pt (nt := ntAt S.2.2.2.2.2 1 1) hR (oI 15 (by decide)) (fun j _ => by rw [o8 8 (by decide) (by decide)]) (fun j _ => by rw [o8 9 (by decide) (by decide)]) (fun j _ => by rw [o8 10 (by decide) (by decide)]) (fun j _ => by rw [o8 11 (by decide) (by decide)]) N2
      | succ t ih =>
        intro k b ht hk hb1 hb
        have t60 : ∀ b2 : Nat, b2 ≤ 1 → (b2 = 1 ↔ (fr_ < to_ ∧ ∀ i, fr_ ≤ i → i < k + 1 → D (dn + i) = D (dn + fr_))) → WX (lk tX12_sayBlock) (mM (d + 7)) Ψ 58 [(0, .ref m), (1, .int (nI fr_)), (2, .int (nI to_)), (3, .int (nI la)), (4, .int (nI (l).length)), (5, .int (nI (to_ - fr_))), (6, .int (nI b)), (7, .int (nI k))] [.int (nI b2)] (n, s, h) := by
          intro b2 hb2 hbb
          refine WX.s1 (L' := [(0, .ref m), (1, .int (nI fr_)), (2, .int (nI to_)), (3, .int (nI la)), (4, .int (nI (l).length)), (5, .int (nI (to_ - fr_))), (6, .int (nI b2)), (7, .int (nI k))]) rfl rfl ?_
          refine WX.s1 (L' := [(0, .ref m), (1, .int (nI fr_)), (2, .int (nI to_)), (3, .int (nI la)), (4, .int (nI (l).length)), (5, .int (nI (to_ - fr_))), (6, .int (nI b2)), (7, .int ((nI k) + 1))]) rfl rfl ?_
          rw [show ((nI k) + 1) = nI (k + 1) from nI_add k 1]
          refine WX.s1 rfl rfl ?_
          exact ih (k + 1) b2 (by omega) (by omega) hb2 hbb
        refine WX.s1 rfl rfl ?_
        refine WX.s1 rfl rfl ?_
        refine WX.icmp rfl (fun c_29 => absurd c_29 (fun zz_ => absurd ((nI_leI (a := to_) (b := k) (by omega) (by omega)).mp zz_) (Nat.not_le.mpr (by omega)))) (fun c_29 => ?_)
        clear c_29
        refine WX.s1 rfl rfl ?_
        refine WX.if_ rfl (fun c_34 => ?_) (fun c_34 => ?_)
        · skip
          have n_34 : b = 0 := (nI_eq (a := b) (b := 0) (by omega) (by omega)).mp c_34
          refine WX.s1 rfl rfl ?_
          refine t60 0 (by decide) ?_
          refine ⟨fun z => absurd z (by decide), fun z => absurd ((hb).mpr ⟨z.1, fun i h1 h2 => z.2 i h1 (by omega)⟩) (by omega)⟩
        · skip
          have n_34 : ¬ b = 0 := fun zz_ => c_34 ((nI_eq (a := b) (b := 0) (by omega) (by omega)).mpr zz_)
          refine WX.s1 rfl rfl ?_
          refine WX.mget rfl hm M_h rfl ?_
          refine WX.s1 rfl rfl ?_
          refine WX.mald (c := 1) rfl hm M_h (by decide) (by decide) (by decide) (by decide) (vp_in_nI (N := 8000) (by omega) (by decide)) ?_
          rw [nI_clamp (by omega), (hin k (by omega)).1]
          have d1 := (hin k (by omega)).2
          have d2 := (hin fr_ (by omega)).2
          refine WX.s1 rfl rfl ?_
          refine WX.mget rfl hm M_h rfl ?_
          refine WX.s1 rfl rfl ?_
          refine WX.mald (c := 1) rfl hm M_h (by decide) (by decide) (by decide) (by decide) (vp_in_nI (N := 8000) (by omega) (by decide)) ?_
          rw [nI_clamp (by omega), (hin fr_ (by omega)).1]
          refine WX.icmp rfl (fun c_50 => ?_) (fun c_50 => ?_)
          · skip
            have n_50 : ¬ (D (dn + k)) = (D (dn + fr_)) := fun zz_ => c_50 ((nI_eq (a := D (dn + k)) (b := D (dn + fr_)) (by omega) (by omega)).mpr zz_)
            refine WX.s1 rfl rfl ?_
            refine t60 0 (by decide) ?_
            refine ⟨fun z => absurd z (by decide), fun z => absurd (z.2 k (by omega) (by omega)) n_50⟩
          · skip
            have n_50 : (D (dn + k)) = (D (dn + fr_)) := (nI_eq (a := D (dn + k)) (b := D (dn + fr_)) (by omega) (by omega)).mp (Classical.not_not.mp c_50)
            refine WX.s1 rfl rfl ?_
            refine WX.s1 rfl rfl ?_
            refine t60 1 (by decide) ?_
            have hb_ := (hb).mp (by omega)
            refine ⟨fun _ => ⟨hb_.1, fun i h1 h2 => ?_⟩, fun _ => rfl⟩
            by_cases z : i = k
            · rw [z]; exact n_50
            · exact hb_.2 i h1 (by omega)
    exact lp (to_ - fr_) fr_ b (by omega) (Nat.le_refl _) hb1 ⟨fun z => ⟨(hb).mp z, fun i h1 h2 => absurd h2 (by omega)⟩, fun z => (hb).mpr z.1⟩
  refine WX.s1 rfl rfl ?_
  refine WX.if_ rfl (fun c_13 => ?_) (fun c_13 => ?_)
  · skip
    have n_13 : (to_ - fr_) ≤ 0 := (nI_leI (a := to_ - fr_) (b := 0) (by omega) (by omega)).mp c_13
    refine WX.s1 rfl rfl ?_
    exact t21 0 (by decide) (by omega)
  · skip
    have n_13 : 0 < (to_ - fr_) := Nat.lt_of_not_le (fun zz_ => c_13 ((nI_leI (a := to_ - fr_) (b := 0) (by omega) (by omega)).mpr zz_))
    refine WX.s1 rfl rfl ?_
    refine WX.s1 rfl rfl ?_
    exact t21 1 (by decide) (by omega)
