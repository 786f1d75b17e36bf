/-! the reference: a block said -/
def RefS (I : Nat → Int32) (A : Nat → Nat → Int32) (S : PkS) : Prop := RefL I A S.1 ∧ RefT A 0 S.2.1 ∧ RefT A 1 S.2.2.1 ∧ RefT A 2 S.2.2.2.1 ∧ LatM A S.2.2.2.2.1 ∧ NtM A S.2.2.2.2.2
theorem RefL.pt {I J : Nat → Int32} {A B : Nat → Nat → Int32} {t : Option Le} (h : RefL I A t) (h1 : J 15 = I 15) (h2 : ∀ j, j < 256 → B 8 j = A 8 j) : RefL J B t := by
  cases t with
  | none => exact (h1).trans h
  | some t => exact ⟨(h1).trans h.1, fun s hs => (h2 s hs).trans (h.2 s hs)⟩
theorem LatM.pt {A B : Nat → Nat → Int32} {t : Sq} (h : LatM A t) (h2 : ∀ j, j < 3 → B 11 j = A 11 j) : LatM B t := ⟨(h2 0 (by decide)).trans h.1, (h2 1 (by decide)).trans h.2.1, (h2 2 (by decide)).trans h.2.2⟩
theorem RefS.pt {I J : Nat → Int32} {A B : Nat → Nat → Int32} {S : PkS} {nt : Nat → Nat} (h : RefS I A S) (h1 : J 15 = I 15) (h8 : ∀ j, j < 256 → B 8 j = A 8 j) (h9 : ∀ j, j < 192 → B 9 j = A 9 j) (h10 : ∀ j, j < 3 → B 10 j = A 10 j) (h11 : ∀ j, j < 3 → B 11 j = A 11 j) (hn : NtM B nt) : RefS J B (pkNt S nt) := ⟨h.1.pt h1 h8, h.2.1.ot (h10 0 (by decide)) (fun x hx => h9 _ (by omega)), h.2.2.1.ot (h10 1 (by decide)) (fun x hx => h9 _ (by omega)), h.2.2.2.1.ot (h10 2 (by decide)) (fun x hx => h9 _ (by omega)), h.2.2.2.2.1.pt h11, hn⟩
theorem NtM.inc {A B : Nat → Nat → Int32} {nt : Nat → Nat} {q dd : Nat} (h : NtM A nt) (e : B = upA A 42 q (nI (nt q + dd))) : NtM B (ntAt nt q dd) := fun p hp => by
  unfold ntAt
  by_cases z : p = q
  · rw [e, upA_same, z, pk_us, if_pos rfl]
  · rw [e, upA_same, pk_un z, if_neg z]; exact h p hp
def WasS (I I0 : Nat → Int32) (A A0 : Nat → Nat → Int32) : Prop := I 20 = I0 15 ∧ (∀ j, j < 256 → A 12 j = A0 8 j) ∧ (∀ j, j < 192 → A 13 j = A0 9 j) ∧ (∀ j, j < 3 → A 14 j = A0 10 j ∧ A 15 j = A0 11 j)
theorem WasS.mv {I J I0 : Nat → Int32} {A B A0 : Nat → Nat → Int32} (h : WasS I I0 A A0) (h1 : J 20 = I 20) (a : B 12 = A 12) (b : B 13 = A 13) (c : B 14 = A 14) (d : B 15 = A 15) : WasS J I0 B A0 := ⟨(h1).trans h.1, by rw [a]; exact h.2.1, by rw [b]; exact h.2.2.1, by rw [c, d]; exact h.2.2.2⟩
theorem m_bh0L {d n s : Nat} {h : Nat → aE} {m : Nat} {I : Nat → Int32} {AR : Nat → Nat → Int32} {LN : Nat → Int64} {l : List Nat} {nn kd la : Nat} (hm : m + 43 < n) (M_h : MAt h m I AR LN) (hF : FrameIs I AR l) (hl : (l).length < 2 ^ 28) (hnn : nn < 2 ^ 24) (hkd : kd ≤ 2) (hla : la ≤ 1) {Ψ : Option Value → aH → Prop} (kk : ∀ h' I' A', Fr h h' (inM m) → MAt h' m I' A' LN → Fi I I' (fun f => f = 40) → Fa AR A' 25 → FrameIs I' A' (l ++ leBy (8 * nn + 2 * kd + la) 3) → Ψ none (n, s, h')) : WO (mM (d + 3)) 206 [.ref m, .int (nI (l).length), .int (nI nn), .int (nI kd), .int (nI la)] (n, s, h) Ψ := by
  rcases (show la = 0 ∨ la = 1 by omega) with q | q
  · subst q
    exact m_bh00 (nn_ := []) hm M_h hF hl hnn hkd kk
  · subst q
    exact m_bh01 (nn_ := []) hm M_h hF hl hnn hkd kk
theorem m_bhPL {d n s : Nat} {h : Nat → aE} {m : Nat} {I : Nat → Int32} {AR : Nat → Nat → Int32} {LN : Nat → Int64} {l x rr : List Nat} {nn kd la : Nat} (hm : m + 43 < n) (M_h : MAt h m I AR LN) (hF : FrameIs I AR (l ++ (x ++ rr))) (hl : (l ++ (x ++ rr)).length < 2 ^ 28) (hnn : nn < 2 ^ 24) (hkd : kd ≤ 2) (hx : (x).length = 3) (hla : la ≤ 1) {Ψ : Option Value → aH → Prop} (kk : ∀ h' I' A', Fr h h' (inM m) → MAt h' m I' A' LN → Fi I I' (fun f => f = 40) → Fa AR A' 25 → FrameIs I' A' (l ++ (leBy (8 * nn + 2 * kd + la) 3 ++ rr)) → Ψ none (n, s, h')) : WO (mM (d + 3)) 206 [.ref m, .int (nI (l).length), .int (nI nn), .int (nI kd), .int (nI la)] (n, s, h) Ψ := by
  rcases (show la = 0 ∨ la = 1 by omega) with q | q
  · subst q
    exact m_bhP0 (nn_ := []) hm M_h hF hl hnn hkd hx kk
  · subst q
    exact m_bhP1 (nn_ := []) hm M_h hF hl hnn hkd hx kk
set_option maxRecDepth 20000 in
theorem m_bRaw {d n s : Nat} {h : Nat → aE} {m : Nat} {I : Nat → Int32} {AR : Nat → Nat → Int32} {LN : Nat → Int64} {l : List Nat} {D : Nat → Nat} {dn fr_ to_ la : Nat} {S : PkS} {I0 : Nat → Int32} {A0 : Nat → Nat → Int32} (hm : m + 43 < n) (M_h : MAt h m I AR LN) (hW : WasS I I0 AR A0) (hS : RefS I0 A0 S) (hT : ∀ j, 8 ≤ j → j < 12 → AR 40 j = nI (S.2.2.2.2.2 j)) (hN8 : ∀ j, j < 8 → AR 42 j = nI (S.2.2.2.2.2 j)) (hFp : ∀ i, i < (l).length → i < 12000 → AR 25 i = nI ((l).getD i 0)) (hl : (l).length < 2 ^ 27) (hla : la ≤ 1) (hin : ∀ i, i < to_ → AR 1 i = nI (D (dn + i)) ∧ D (dn + i) < 256) (hft : fr_ ≤ to_) (hto : to_ ≤ 8000)  {Ψ : Option Value → aH → Prop} (kk : ∀ h' I' A', Fr h h' (inM m) → MAt h' m I' A' LN → Fi I I' (fun f => f = 15 ∨ f = 40) → FaS AR A' (fun b => (8 ≤ b ∧ b ≤ 11) ∨ b = 25 ∨ b = 42) → FrameIs I' A' (l ++ (leBy (8 * (to_ - fr_) + la) 3 ++ (List.range (to_ - fr_)).map (fun i => D (dn + fr_ + i)))) → RefS I' A' (pkNt S (ntAt S.2.2.2.2.2 0 1)) → Ψ none (n, s, h')) : WX (lk tX12_sayBlock) (mM (d + 7)) Ψ 322 [(0, .ref m), (1, .int (nI fr_)), (2, .int (nI to_)), (3, .int (nI la)), (4, .int (nI (l).length)), (5, .int (nI (to_ - fr_)))] [] (n, s, h) := by
  have FR_h : Fr h h (inM m) := Fr.rf
  have FI_I : Fi I I (fun f => f = 15 ∨ f = 40) := Fi.rf
  have FA_AR : FaS AR AR (fun b => (8 ≤ b ∧ b ≤ 11) ∨ b = 25 ∨ b = 42) := FaS.rf
  have K_I_20 : I 20 = I0 15 := hW.1
  refine WX.s1 rfl rfl ?_
  refine WX.callC (vs := [.ref m]) rfl rfl rfl (Nat.le_of_ble_eq_true rfl) ((M_h).rcv hm) ?_
  refine m_restS hm M_h K_I_20 (fun h323n1 I323n1 A323n1 fr323n1 M_h323n1 fi323n1 fa323n1 K_I323n1_15 r8323n1 r9323n1 r10323n1 => ?_)
  have FR_h323n1 := (FR_h).ztr fr323n1
  have K_I323n1_20 : I323n1 20 = (I0 15) := (fi323n1 20 (by decide)).trans K_I_20
  have FI_I323n1 : Fi I I323n1 (fun f => f = 15 ∨ f = 40) := (FI_I).zsub fi323n1 (fun j hj => by first | exact hj | omega)
  have FA_A323n1 : FaS AR A323n1 (fun b => (8 ≤ b ∧ b ≤ 11) ∨ b = 25 ∨ b = 42) := (FA_AR).ztr ((fa323n1).mono (fun x hx => by omega))
  have s8 : ∀ j, j < 256 → A323n1 8 j = A0 8 j := fun j hj => (r8323n1 j hj).trans (hW.2.1 j hj)
  have s9 : ∀ j, j < 192 → A323n1 9 j = A0 9 j := fun j hj => (r9323n1 j hj).trans (hW.2.2.1 j hj)
  have s10 : ∀ j, j < 3 → A323n1 10 j = A0 10 j ∧ A323n1 11 j = A0 11 j := fun j hj => ⟨(r10323n1 j hj).1.trans (hW.2.2.2 j hj).1, (r10323n1 j hj).2.trans (hW.2.2.2 j hj).2⟩
  have s40 : A323n1 40 = AR 40 := fa323n1 40 (by decide)
  have s42 : A323n1 42 = AR 42 := fa323n1 42 (by decide)
  have s25 : A323n1 25 = AR 25 := fa323n1 25 (by decide)
  have s1 : A323n1 1 = AR 1 := fa323n1 1 (by decide)
  clear r8323n1 r9323n1 r10323n1
  show WX _ _ _ 326 [(0, .ref m), (1, .int (nI fr_)), (2, .int (nI to_)), (3, .int (nI la)), (4, .int (nI (l).length)), (5, .int (nI (to_ - fr_)))] [] (n, s, h323n1)
  refine WX.s1 rfl rfl ?_
  refine WX.s1 (L' := [(0, .ref m), (1, .int (nI fr_)), (2, .int (nI to_)), (3, .int (nI la)), (4, .int (nI (l).length)), (5, .int (nI (to_ - fr_))), (9, .int 8)]) rfl rfl ?_
  have lp330 : ∀ (t i : Nat) (hL : Nat → aE) (AL : Nat → Nat → Int32), i + t = 12 → 8 ≤ i → MAt hL m I323n1 AL LN → Fr h hL (inM m) → FaS A323n1 AL (fun b => b = 42) → (∀ j, 8 ≤ j → j < i → AL 42 j = A323n1 40 j) → (∀ j, j < 8 → AL 42 j = A323n1 42 j) → WX (lk tX12_sayBlock) (mM (d + 7)) Ψ 330 [(0, .ref m), (1, .int (nI fr_)), (2, .int (nI to_)), (3, .int (nI la)), (4, .int (nI (l).length)), (5, .int (nI (to_ - fr_))), (9, .int (nI i))] [] (n, s, hL) := by
    clear M_h323n1 FR_h323n1
    intro t
    induction t with
    | zero =>
      intro i hL AL ht hi0 M_hL FR_hL faL q3 q3_o
      obtain rfl : i = 12 := by omega
      have FA_AL : FaS AR AL (fun b => (8 ≤ b ∧ b ≤ 11) ∨ b = 25 ∨ b = 42) := (FA_A323n1).ztr ((faL).mono (fun x hx => by omega))
      refine WX.s1 rfl rfl ?_
      refine WX.s1 rfl rfl ?_
      refine WX.icmp rfl (fun c_334 => ?_) (fun c_334 => absurd ((nI_leI (a := 12) (b := 12) (by omega) (by omega)).mpr (by omega)) c_334)
      clear c_334
      have k15 : I323n1 15 = I0 15 := K_I323n1_15
      have hN : NtM AL S.2.2.2.2.2 := fun q hq => by
        by_cases z : q < 8
        · rw [q3_o q z, s42]; exact hN8 q z
        · rw [q3 q (by omega) hq, s40]; exact hT q (by omega) hq
      have hRS : RefS I323n1 AL (pkNt S S.2.2.2.2.2) := (hS).pt K_I323n1_15 (fun j hj => by rw [faL 8 (by decide)]; exact s8 j hj) (fun j hj => by rw [faL 9 (by decide)]; exact s9 j hj) (fun j hj => by rw [faL 10 (by decide)]; exact (s10 j hj).1) (fun j hj => by rw [faL 11 (by decide)]; exact (s10 j hj).2) hN
      have t25 : AL 25 = AR 25 := (faL 25 (by decide)).trans s25
      have t1 : AL 1 = AR 1 := (faL 1 (by decide)).trans s1
      clear q3 q3_o s8 s9 s10 s40 s42 s25 s1
      refine WX.s1 rfl rfl ?_
      refine WX.s1 rfl rfl ?_
      refine WX.mput rfl hm M_hL (rfl) (by decide) (fun _ => rfl) (fun h360n2 I360n2 e_I360n2 M_h360n2 frh360n2 => ?_)
      have FR_h360n2 := (FR_hL).ztr frh360n2
      have FI_I360n2 : Fi I I360n2 (fun f => f = 15 ∨ f = 40) := (FI_I323n1).zup e_I360n2 (by first | exact rfl | decide | omega)
      have K_I360n2_20 : I360n2 20 = (I0 15) := by rw [e_I360n2]; exact (pk_un (by decide)).trans K_I323n1_20
      have K_I360n2_15 : I360n2 15 = (I0 15) := by rw [e_I360n2]; exact (pk_un (by decide)).trans K_I323n1_15
      have K_I360n2_40 : I360n2 40 = (nI (l).length) := by rw [e_I360n2]; exact pk_us
      clear M_hL FR_hL FI_I323n1 e_I360n2 frh360n2 K_I323n1_20 K_I323n1_15
      refine WX.s1 rfl rfl ?_
      refine WX.s1 rfl rfl ?_
      refine WX.s1 rfl rfl ?_
      refine WX.s1 rfl rfl ?_
      refine WX.s1 rfl rfl ?_
      refine WX.callC (vs := [.ref m, .int (nI (l).length), .int (nI (to_ - fr_)), .int (nI 0), .int (nI la)]) rfl rfl rfl (Nat.le_of_ble_eq_true rfl) ((M_h360n2).rcv hm) ?_
      refine m_bh0L (kd := 0) hm M_h360n2 (l := l) (⟨K_I360n2_40, by rw [t25]; exact hFp⟩) (by omega) (by omega) (by decide) hla (fun h370n3 I370n3 A370n3 fr370n3 M_h370n3 fi370n3 fa370n3 hF370n3 => ?_)
      have FR_h370n3 := (FR_h360n2).ztr fr370n3
      have K_I370n3_20 : I370n3 20 = (I0 15) := (fi370n3 20 (by decide)).trans K_I360n2_20
      have K_I370n3_15 : I370n3 15 = (I0 15) := (fi370n3 15 (by decide)).trans K_I360n2_15
      have FI_I370n3 : Fi I I370n3 (fun f => f = 15 ∨ f = 40) := (FI_I360n2).zsub fi370n3 (fun j hj => by first | exact hj | omega)
      have FA_A370n3 : FaS AR A370n3 (fun b => (8 ≤ b ∧ b ≤ 11) ∨ b = 25 ∨ b = 42) := (FA_AL).ztr ((fa370n3).toS (by omega))
      show WX _ _ _ 373 [(0, .ref m), (1, .int (nI fr_)), (2, .int (nI to_)), (3, .int (nI la)), (4, .int (nI (l).length)), (5, .int (nI (to_ - fr_))), (9, .int (nI 12))] [] (n, s, h370n3)
      rw [show 8 * (to_ - fr_) + 2 * 0 + la = 8 * (to_ - fr_) + la by omega] at hF370n3
      have hRS2 : RefS I370n3 A370n3 (pkNt S S.2.2.2.2.2) := RefS.pt (nt := S.2.2.2.2.2) hRS (fi370n3 15 (by decide) |>.trans (by rw [K_I360n2_15]; exact (k15).symm)) (fun j _ => by rw [fa370n3 8 (by decide)]) (fun j _ => by rw [fa370n3 9 (by decide)]) (fun j _ => by rw [fa370n3 10 (by decide)]) (fun j _ => by rw [fa370n3 11 (by decide)]) (fun q hq => by rw [fa370n3 42 (by decide)]; exact hN q hq)
      have hin2 : ∀ i, i < to_ → A370n3 1 i = nI (D (dn + i)) ∧ D (dn + i) < 256 := fun i hi => by rw [fa370n3 1 (by decide), t1]; exact hin i hi
      refine WX.s1 rfl rfl ?_
      refine WX.s1 (L' := [(0, .ref m), (1, .int (nI fr_)), (2, .int (nI to_)), (3, .int (nI la)), (4, .int (nI (l).length)), (5, .int (nI (to_ - fr_))), (9, .int (nI fr_))]) rfl rfl ?_
      have lp : ∀ (t i : Nat) (hL : Nat → aE) (IL : Nat → Int32) (AL : Nat → Nat → Int32), i + t = to_ → fr_ ≤ i → Fr h hL (inM m) → MAt hL m IL AL LN → Fi I370n3 IL (fun f => f = 40) → Fa A370n3 AL 25 → FrameIs IL AL (l ++ (leBy (8 * (to_ - fr_) + la) 3 ++ (List.range (i - fr_)).map (fun i => D (dn + fr_ + i)))) → WX (lk tX12_sayBlock) (mM (d + 7)) Ψ 376 [(0, .ref m), (1, .int (nI fr_)), (2, .int (nI to_)), (3, .int (nI la)), (4, .int (nI (l).length)), (5, .int (nI (to_ - fr_))), (9, .int (nI i))] [] (n, s, hL) := by
        clear M_h370n3 FR_h370n3 hF370n3
        intro t
        induction t with
        | zero =>
          intro i hL IL AL ht hi0 FR_hL M_hL FI_IL FA_AL hInv
          obtain rfl : i = to_ := by omega
          refine WX.s1 rfl rfl ?_
          refine WX.s1 rfl rfl ?_
          refine WX.icmp rfl (fun c_379 => ?_) (fun c_379 => absurd ((nI_leI (a := i) (b := i) (by omega) (by omega)).mpr (by omega)) c_379)
          clear c_379
          refine WX.s1 rfl rfl ?_
          refine WX.mget rfl hm M_hL rfl ?_
          refine WX.s1 rfl rfl ?_
          refine WX.s1 rfl rfl ?_
          refine WX.mald (c := 42) rfl hm M_hL (by decide) (by decide) (by decide) (by decide) (by unfold vp_in; decide) ?_
          rw [show AL 42 (Int32.toNatClampNeg 0) = nI (S.2.2.2.2.2 0) from (congrFun (FA_AL 42 (by decide)) 0).trans (hRS2.2.2.2.2.2 0 (by decide))]
          refine WX.s1 rfl rfl ?_
          refine WX.s1 (S' := [.int ((nI (S.2.2.2.2.2 0)) + 1), .int 0, .ref (m + 42)]) rfl rfl ?_
          rw [show ((nI (S.2.2.2.2.2 0)) + 1) = nI (S.2.2.2.2.2 0 + 1) from nI_add (S.2.2.2.2.2 0) 1]
          refine WX.mast (c := 42) rfl hm M_hL (by decide) (by decide) (by decide) (by decide) (by unfold vp_in; decide) (fun h408n4 A408n4 e_A408n4 M_h408n4 frh408n4 => ?_)
          try dsimp only at e_A408n4
          have FR_h408n4 := (FR_hL).ztr frh408n4
          clear M_hL FR_hL frh408n4
          have hNL : NtM AL S.2.2.2.2.2 := fun q hq => by rw [FA_AL 42 (by decide)]; exact hRS2.2.2.2.2.2 q hq
          have hN9 : NtM A408n4 (ntAt S.2.2.2.2.2 0 1) := (hNL).inc (q := 0) (dd := 1) e_A408n4
          have o9 : ∀ b, b ≠ 42 → b ≠ 25 → A408n4 b = A370n3 b := fun b h1 h2 => by rw [e_A408n4, upA_ne h1]; exact FA_AL b h2
          refine WX.ret0 rfl (kk h408n4 IL A408n4 FR_h408n4 M_h408n4 ((FI_I370n3).zsub FI_IL (fun j hj => Or.inr hj)) (((FA_A370n3).ztr (Fa.toS FA_AL (by omega))).ast e_A408n4 (by omega)) ⟨hInv.1, fun q h1 h2 => by rw [e_A408n4, upA_ne (by decide)]; exact hInv.2 q h1 h2⟩ ?_)
          exact RefS.pt (nt := ntAt S.2.2.2.2.2 0 1) hRS2 (FI_IL 15 (by decide)) (fun j _ => by rw [o9 8 (by decide) (by decide)]) (fun j _ => by rw [o9 9 (by decide) (by decide)]) (fun j _ => by rw [o9 10 (by decide) (by decide)]) (fun j _ => by rw [o9 11 (by decide) (by decide)]) hN9
        | succ t ih =>
          intro i hL IL AL ht hi0 FR_hL M_hL FI_IL FA_AL hInv
          refine WX.s1 rfl rfl ?_
          refine WX.s1 rfl rfl ?_
          refine WX.icmp rfl (fun c_379 => absurd c_379 (fun zz_ => absurd ((nI_leI (a := to_) (b := i) (by omega) (by omega)).mp zz_) (Nat.not_le.mpr (by omega)))) (fun c_379 => ?_)
          clear c_379
          refine WX.s1 rfl rfl ?_
          refine WX.s1 rfl rfl ?_
          refine WX.mget rfl hm M_hL rfl ?_
          refine WX.s1 rfl rfl ?_
          refine WX.mald (c := 1) rfl hm M_hL (by decide) (by decide) (by decide) (by decide) (vp_in_nI (N := 8000) (by omega) (by decide)) ?_
          rw [nI_clamp (by omega), FA_AL 1 (by decide), (hin2 i (by omega)).1]
          refine WX.callC (vs := [.ref m, .int (nI (D (dn + i)))]) rfl rfl rfl (Nat.le_of_ble_eq_true rfl) ((M_hL).rcv hm) ?_
          have hlen : (l ++ (leBy (8 * (to_ - fr_) + la) 3 ++ (List.range (i - fr_)).map (fun i => D (dn + fr_ + i)))).length = (l).length + 3 + (i - fr_) := by simp only [List.length_append, leBy_len, List.length_map, List.length_range]; omega
          refine m_sayL hm M_hL hInv (by omega) (fun h2 I2 A2 fr2 M_h2 fi2 fa2 hF2 => ?_)
          rw [Nat.mod_eq_of_lt (hin2 i (by omega)).2] at hF2
          show WX _ _ _ 393 [(0, .ref m), (1, .int (nI fr_)), (2, .int (nI to_)), (3, .int (nI la)), (4, .int (nI (l).length)), (5, .int (nI (to_ - fr_))), (9, .int (nI i))] [] (n, s, h2)
          refine WX.s1 (L' := [(0, .ref m), (1, .int (nI fr_)), (2, .int (nI to_)), (3, .int (nI la)), (4, .int (nI (l).length)), (5, .int (nI (to_ - fr_))), (9, .int ((nI i) + 1))]) rfl rfl ?_
          rw [show ((nI i) + 1) = nI (i + 1) from nI_add i 1]
          refine WX.s1 rfl rfl ?_
          refine ih (i + 1) h2 I2 A2 (by omega) (by omega) ((FR_hL).ztr fr2) M_h2 ((FI_IL).ztr fi2) ((FA_AL).ztr fa2) ?_
          rw [show i + 1 - fr_ = (i - fr_) + 1 by omega, List.range_succ, List.map_append, List.map_cons, List.map_nil, show dn + fr_ + (i - fr_) = dn + i by omega]
          simp only [List.append_assoc] at hF2 ⊢
          exact hF2
      exact lp (to_ - fr_) fr_ h370n3 I370n3 A370n3 (by omega) (Nat.le_refl _) FR_h370n3 M_h370n3 Fi.rf Fa.rf (by rw [Nat.sub_self, show List.range 0 = [] from rfl, List.map_nil, List.append_nil]; exact hF370n3)
    | succ t ih =>
      intro i hL AL ht hi0 M_hL FR_hL faL hInv hInvo
      refine WX.s1 rfl rfl ?_
      refine WX.s1 rfl rfl ?_
      refine WX.icmp rfl (fun c_334 => absurd c_334 (fun zz_ => absurd ((nI_leI (a := 12) (b := i) (by omega) (by omega)).mp zz_) (Nat.not_le.mpr (by omega)))) (fun c_334 => ?_)
      clear c_334
      refine WX.s1 rfl rfl ?_
      refine WX.mget rfl hm M_hL rfl ?_
      refine WX.s1 rfl rfl ?_
      refine WX.s1 rfl rfl ?_
      refine WX.mget rfl hm M_hL rfl ?_
      refine WX.s1 rfl rfl ?_
      refine WX.mald (c := 40) rfl hm M_hL (by decide) (by decide) (by decide) (by decide) (vp_in_nI (N := 12) (by omega) (by decide)) ?_
      rw [nI_clamp (by omega), faL 40 (by decide)]
      refine WX.mast (c := 42) rfl hm M_hL (by decide) (by decide) (by decide) (by decide) (vp_in_nI (N := 12) (by omega) (by decide)) (fun h350n5 A350n5 e_A350n5 M_h350n5 frh350n5 => ?_)
      try dsimp only at e_A350n5
      have FR_h350n5 := (FR_hL).ztr frh350n5
      clear M_hL FR_hL frh350n5
      refine WX.s1 (L' := [(0, .ref m), (1, .int (nI fr_)), (2, .int (nI to_)), (3, .int (nI la)), (4, .int (nI (l).length)), (5, .int (nI (to_ - fr_))), (9, .int ((nI i) + 1))]) rfl rfl ?_
      rw [show ((nI i) + 1) = nI (i + 1) from nI_add i 1]
      refine WX.s1 rfl rfl ?_
      rw [nI_clamp (by omega)] at e_A350n5
      refine ih (i + 1) h350n5 A350n5 (by omega) (by omega) M_h350n5 FR_h350n5 ((faL).ast e_A350n5 (by omega)) ?_ ?_
      · intro j hj0 hj
        by_cases z : j = i
        · rw [z, e_A350n5, upA_same, pk_us]
        · rw [e_A350n5, upA_same, pk_un z]; exact hInv j hj0 (by omega)
      · intro j hj
        rw [e_A350n5, upA_same, pk_un (show j ≠ i by omega)]; exact hInvo j hj
  exact lp330 4 8 h323n1 A323n1 (by omega) (by omega) M_h323n1 FR_h323n1 FaS.rf (fun j h0 hj => absurd hj (by omega)) (fun _ _ => rfl)
