/-! Packer.putBlock, its beginning -/
theorem PkX.tl {h h1 : Nat → aE} {A : Nat → Prop} {D H : Nat → Nat} {U way least win : Nat} {S : PkS} {nt : Nat → Nat} (r : PkX h D H U way least win S) (f : Fr h h1 A) (q : ∀ x, 67 ≤ x → x ≤ 188 → x ≠ 88 → ¬ A x) (q2 : ∀ x, aBig ≤ x → ¬ A x) (t : TlA h1 nt) : PkX h1 D H U way least win (pkNt S nt) := by
  obtain ⟨⟨cnt, a⟩, ⟨ar, b⟩, c, d, e, g, i, j, k, l⟩ := r
  exact ⟨⟨cnt, (f _ (q _ (by omega) (by omega) (by omega))).trans a⟩, ⟨ar, (f _ (q _ (by omega) (by omega) (by omega))).trans b⟩, c.zfr f (q _ (by omega) (by omega) (by omega)), t, e.zfr f (fun x h1 h2 => q _ (by omega) (by omega) (by omega)), g.zfr f (fun x h1 h2 => q _ (by omega) (by omega) (by omega)), i.zfr f (fun x h1 h2 => q _ (by omega) (by omega) (by omega)), j.zfr f (fun x h1 h2 => q _ (by omega) (by omega) (by omega)) (q2 _ (Nat.le_add_right _ _)) (q2 _ (Nat.le_add_right _ _)), k.zfr f (fun x h1 h2 => q _ (by omega) (by omega) (by omega)) (q2 _ (Nat.le_add_right _ _)) (q2 _ (Nat.le_add_right _ _)), l.zfr f (fun x h1 h2 => q _ (by omega) (by omega) (by omega)) (q2 _ (Nat.le_add_right _ _)) (q2 _ (Nat.le_add_right _ _))⟩
set_option maxRecDepth 20000 in
theorem x_blkMid {d n s : Nat} {h : Nat → aE} {D H : Nat → Nat} {U way least win f e la r RN : Nat} {S : PkS} {bb : Option (List Nat)} (hn : 190 ≤ n) (hnb : n < aBig) (hr : r + 1 < 67) (hRN : RN < 2 ^ 31) (hOk : PkOk S) (hf : f ≤ e) (he : e ≤ U) (hU : U ≤ 16000) (hfe : e - f ≤ 8000) (hla : la ≤ 1) (hw : way ≤ 3) (hl3 : 3 ≤ least) (hl8 : least ≤ 8) (hwin : win < 2 ^ 30) (hH : HashOk D H) (hX : PkX h D H U way least win S) (P_h_row : RowIs h r RN bb 0 0) {Ψ : Option Value → aH → Prop} (kk1 : (blkP (goE D way least win e f).2.2.1 (goE D way least win e f).2.2.2 S).length < e - f → ∀ h', Fr h h' (fun j => j = r ∨ j = r + 1 ∨ (67 ≤ j ∧ j ≤ 188)) → PkX h' D H U way least win (blkK (goE D way least win e f).2.2.1 (goE D way least win e f).2.2.2 S) → RowIs h' r RN (bputs RN bb (leBy (8 * (blkP (goE D way least win e f).2.2.1 (goE D way least win e f).2.2.2 S).length + 4 + la) 3 ++ (blkP (goE D way least win e f).2.2.1 (goE D way least win e f).2.2.2 S))) 0 0 → Ψ none (n, s, h')) (kk2 : e - f ≤ (blkP (goE D way least win e f).2.2.1 (goE D way least win e f).2.2.2 S).length → ∀ h', Fr h h' (fun j => j = r ∨ j = r + 1 ∨ (67 ≤ j ∧ j ≤ 188)) → PkX h' D H U way least win (pkNt S (ntAt S.2.2.2.2.2 0 1)) → RowIs h' r RN (bputs RN bb (leBy (8 * (e - f) + la) 3 ++ (List.range (e - f)).map (fun i => D (f + i)))) 0 0 → Ψ none (n, s, h')) : WX (lk tX6_putBlock) (mM (d + 6)) Ψ 72 [(0, .ref 81), (1, .ref r), (2, .int (nI f)), (3, .int (nI e)), (4, .int (nI la)), (5, .int (nI (e - f))), (6, .int (nI la))] [] (n, s, h) := by
  have hB : aBig = 1000000 := rfl
  obtain ⟨⟨cnt, F_h_81⟩, ⟨a87, F_h_87⟩, L6, ⟨g, F_h_88, hg⟩, ⟨fe, fle, fdi, fap, fal, fad, dA, eA, hA, F_h_82, F_h_83, F_h_84, F_h_85, hD, hCh⟩, ⟨u_, ki, by_, sh, be, a90, a91, F_h_89, F_h_90, F_h_91, he92, hco, hkn, htold⟩, hdx, ⟨cho1, ln1, di1, ad1, mo1, bi1, ob1, sta1, y1, v1, k1, C10, C11, C12, C15, R1, K1, T1, X1, P1⟩, ⟨cho2, ln2, di2, ad2, mo2, bi2, ob2, sta2, y2, v2, k2, C20, C21, C22, C25, R2, K2, T2, X2, P2⟩, ⟨cho3, ln3, di3, ad3, mo3, bi3, ob3, sta3, y3, v3, k3, C30, C31, C32, C35, R3, K3, T3, X3, P3⟩⟩ := hX
  obtain ⟨hls, h2, hq⟩ := goE_ok (D := D) (way := way) (win := win) hl3 hf (by omega) hfe (fun i hi => (hD i (by omega)).1)
  obtain ⟨o1, ⟨o2, o3, o4⟩, o5, o6⟩ := id hOk
  refine WX.s1 rfl rfl ?_
  refine WX.s1 rfl rfl ?_
  refine WX.s1 rfl rfl ?_
  refine WX.callC (vs := [.ref 81, .int (nI f), .int (nI e)]) rfl rfl rfl (Nat.le_of_ble_eq_true rfl) (rcv_ok (by omega) F_h_81) ?_
  refine x_go hn hnb P1 P2 P3 hD hU hw hl3 hl8 hwin he hCh hH hf hfe o5 F_h_81 F_h_82 F_h_83 F_h_84 F_h_89 F_h_90 F_h_91 F_h_87 C10 C11 C12 C15 C20 C21 C22 C25 C30 C31 C32 C35 L6 (fun h1 k p si ls qs fle2 fdi2 fap2 fal2 fad2 hgo hp fr1 F_h1_81 F_h1_82 F_h1_89 li D10 E1 D20 E2 D30 E3 l7 lok => ?_)
  obtain ⟨eL, eQ⟩ := goE_of hgo hp
  rw [eL, eQ] at kk1 kk2
  rw [eL] at hls
  rw [eQ] at h2 hq
  clear hgo eL eQ
  have G1 : CG1 h1 S.2.1 (seqV1 qs) := ⟨⟨_, _, _, _, _, D10⟩, E1, R1.zfr fr1 (by omega) (by omega), K1.zfr fr1 (fun j h1 h2 => by omega), T1.zfr fr1 (fun j h1 h2 => by omega), X1.zfr fr1 (fun j h1 h2 => by omega), P1.zfr fr1 (by omega) (by omega)⟩
  have G2 : CG2 h1 S.2.2.1 (numF S.2.2.2.2.1 qs).1 := ⟨⟨_, _, _, _, _, D20⟩, E2, R2.zfr fr1 (by omega) (by omega), K2.zfr fr1 (fun j h1 h2 => by omega), T2.zfr fr1 (fun j h1 h2 => by omega), X2.zfr fr1 (fun j h1 h2 => by omega), P2.zfr fr1 (by omega) (by omega)⟩
  have G3 : CG3 h1 S.2.2.2.1 (seqV3 qs) := ⟨⟨_, _, _, _, _, D30⟩, E3, R3.zfr fr1 (by omega) (by omega), K3.zfr fr1 (fun j h1 h2 => by omega), T3.zfr fr1 (fun j h1 h2 => by omega), X3.zfr fr1 (fun j h1 h2 => by omega), P3.zfr fr1 (by omega) (by omega)⟩
  have he1 := he92.zfr fr1 (fun j h1 h2 => by omega)
  have co1 := hco.zfr fr1 (fun j h1 h2 => by omega)
  have kn1 := hkn.zfr fr1 (fun j h1 h2 => by omega)
  have told1 := htold.zfr fr1 (by omega) (by omega)
  have dx1 := hdx.zfr fr1 (fun j h1 h2 => by omega)
  have l61 := L6.zfr fr1 (by omega)
  have row1 := P_h_row.zfr fr1 (by omega) (by omega)
  have F_h1_83 := (fr1 83 (by omega)).trans F_h_83
  have F_h1_84 := (fr1 84 (by omega)).trans F_h_84
  have F_h1_85 := (fr1 85 (by omega)).trans F_h_85
  have F_h1_88 := (fr1 88 (by omega)).trans F_h_88
  have FR1 : Fr h h1 (fun j => j = r ∨ j = r + 1 ∨ (67 ≤ j ∧ j ≤ 188)) := fr1.mono (fun j hj => by omega)
  clear fr1 F_h_81 F_h_82 F_h_83 F_h_84 F_h_85 F_h_87 F_h_88 F_h_89 F_h_90 F_h_91 he92 hco hkn htold hdx L6 P_h_row
  show WX _ _ _ 78 [(0, .ref 81), (1, .ref r), (2, .int (nI f)), (3, .int (nI e)), (4, .int (nI la)), (5, .int (nI (e - f))), (6, .int (nI la))] [] (n, s, h1)
  refine WX.s1 rfl rfl ?_
  refine WX.get1 (fs := [.ref 82, .ref 89, .ref 108, .ref 135, .ref 162, .ref 86, .ref 87, .int (nI qs.length), .ref 88]) rfl (by omega) (F_h1_81) rfl ?_
  refine WX.callC (vs := [.ref 89]) rfl rfl rfl (Nat.le_of_ble_eq_true rfl) (rcv_ok (by omega) F_h1_89) ?_
  refine x_lFew hn hls.2 F_h1_89 (fun hfew => ?_) (fun hfew => ?_)
  · skip
    show WX _ _ _ 85 [(0, .ref 81), (1, .ref r), (2, .int (nI f)), (3, .int (nI e)), (4, .int (nI la)), (5, .int (nI (e - f))), (6, .int (nI la))] [.int 1] (n, s, h1)
    refine WX.if_ rfl (fun c_85 => ?_) (fun c_85 => absurd (by decide) c_85)
    clear c_85
    refine WX.s1 rfl rfl ?_
    refine WX.s1 (L' := [(0, .ref 81), (1, .ref r), (2, .int (nI f)), (3, .int (nI e)), (4, .int (nI la)), (5, .int (nI (e - f))), (6, .int (nI la)), (7, .int 0)]) rfl rfl ?_
    exact x_blkEnd (rn := 0) hn hnb hr hRN hOk hls h2 hq hf he hU hla hD hCh hg F_h1_81 F_h1_82 F_h1_83 F_h1_84 F_h1_85 F_h1_88 F_h1_89 l61 l7 li he1 (Or.inr ⟨rfl, fun tC => litF_few hls hfew, co1, told1⟩) kn1 dx1 row1 G1 G2 G3 (fun z h9 fr9 P9 R9 => kk1 z h9 (FR1.ztr fr9) P9 R9) (fun z h9 fr9 P9 R9 => kk2 z h9 (FR1.ztr fr9) P9 R9)
  · skip
    show WX _ _ _ 85 [(0, .ref 81), (1, .ref r), (2, .int (nI f)), (3, .int (nI e)), (4, .int (nI la)), (5, .int (nI (e - f))), (6, .int (nI la))] [.int 0] (n, s, h1)
    refine WX.if_ rfl (fun c_85 => absurd c_85 (by decide)) (fun c_85 => ?_)
    clear c_85
    refine WX.s1 rfl rfl ?_
    refine WX.get1 (fs := [.ref 82, .ref 89, .ref 108, .ref 135, .ref 162, .ref 86, .ref 87, .int (nI qs.length), .ref 88]) rfl (by omega) (F_h1_81) rfl ?_
    refine WX.callC (vs := [.ref 89]) rfl rfl rfl (Nat.le_of_ble_eq_true rfl) (rcv_ok (by omega) F_h1_89) ?_
    refine x_renew hn hls li F_h1_89 co1 kn1 dx1 told1 (fun a1 h2_ fr2 co2 kn2 dx2 to2 => ?_) (fun a1 a2 a3 h2_ fr2 co2 kn2 dx2 to2 => ?_) (fun a1 a2 y a3 h2_ fr2 co2 kn2 dx2 to2 ylen => ?_)
    · skip
      show WX _ _ _ 95 [(0, .ref 81), (1, .ref r), (2, .int (nI f)), (3, .int (nI e)), (4, .int (nI la)), (5, .int (nI (e - f))), (6, .int (nI la))] [.int 0] (n, s, h2_)
      refine WX.if_ rfl (fun c_95 => ?_) (fun c_95 => absurd (by decide) c_95)
      clear c_95
      refine WX.s1 rfl rfl ?_
      refine WX.s1 (L' := [(0, .ref 81), (1, .ref r), (2, .int (nI f)), (3, .int (nI e)), (4, .int (nI la)), (5, .int (nI (e - f))), (6, .int (nI la)), (7, .int 0)]) rfl rfl ?_
      exact x_blkEnd (rn := 0) hn hnb hr hRN hOk hls h2 hq hf he hU hla hD hCh hg ((fr2 81 (by omega)).trans F_h1_81) ((fr2 82 (by omega)).trans F_h1_82) ((fr2 83 (by omega)).trans F_h1_83) ((fr2 84 (by omega)).trans F_h1_84) ((fr2 85 (by omega)).trans F_h1_85) ((fr2 88 (by omega)).trans F_h1_88) ((fr2 89 (by omega)).trans F_h1_89) (l61.zfr fr2 (by omega)) (l7.zfr fr2 (by omega)) (li.zfr fr2 (by omega) (by omega)) (he1.zfr fr2 (fun j h1 h2 => by omega)) (Or.inr ⟨rfl, fun tC => litF_n a1, co2, to2⟩) kn2 dx2 (row1.zfr fr2 (by omega) (by omega)) (G1.zfr fr2 (fun j h1 h2 => by omega) (by omega) (by omega)) (G2.zfr fr2 (fun j h1 h2 => by omega) (by omega) (by omega)) (G3.zfr fr2 (fun j h1 h2 => by omega) (by omega) (by omega)) (fun z h9 fr9 P9 R9 => kk1 z h9 ((FR1.ztr (fr2.mono (fun j hj => by omega))).ztr fr9) P9 R9) (fun z h9 fr9 P9 R9 => kk2 z h9 ((FR1.ztr (fr2.mono (fun j hj => by omega))).ztr fr9) P9 R9)
    · skip
      show WX _ _ _ 95 [(0, .ref 81), (1, .ref r), (2, .int (nI f)), (3, .int (nI e)), (4, .int (nI la)), (5, .int (nI (e - f))), (6, .int (nI la))] [.int 0] (n, s, h2_)
      refine WX.if_ rfl (fun c_95 => ?_) (fun c_95 => absurd (by decide) c_95)
      clear c_95
      refine WX.s1 rfl rfl ?_
      refine WX.s1 (L' := [(0, .ref 81), (1, .ref r), (2, .int (nI f)), (3, .int (nI e)), (4, .int (nI la)), (5, .int (nI (e - f))), (6, .int (nI la)), (7, .int 0)]) rfl rfl ?_
      exact x_blkEnd (rn := 0) hn hnb hr hRN hOk hls h2 hq hf he hU hla hD hCh hg ((fr2 81 (by omega)).trans F_h1_81) ((fr2 82 (by omega)).trans F_h1_82) ((fr2 83 (by omega)).trans F_h1_83) ((fr2 84 (by omega)).trans F_h1_84) ((fr2 85 (by omega)).trans F_h1_85) ((fr2 88 (by omega)).trans F_h1_88) ((fr2 89 (by omega)).trans F_h1_89) (l61.zfr fr2 (by omega)) (l7.zfr fr2 (by omega)) (li.zfr fr2 (by omega) (by omega)) (he1.zfr fr2 (fun j h1 h2 => by omega)) (Or.inr ⟨rfl, fun tC => litF_d a3, co2, to2⟩) kn2 dx2 (row1.zfr fr2 (by omega) (by omega)) (G1.zfr fr2 (fun j h1 h2 => by omega) (by omega) (by omega)) (G2.zfr fr2 (fun j h1 h2 => by omega) (by omega) (by omega)) (G3.zfr fr2 (fun j h1 h2 => by omega) (by omega) (by omega)) (fun z h9 fr9 P9 R9 => kk1 z h9 ((FR1.ztr (fr2.mono (fun j hj => by omega))).ztr fr9) P9 R9) (fun z h9 fr9 P9 R9 => kk2 z h9 ((FR1.ztr (fr2.mono (fun j hj => by omega))).ztr fr9) P9 R9)
    · skip
      show WX _ _ _ 95 [(0, .ref 81), (1, .ref r), (2, .int (nI f)), (3, .int (nI e)), (4, .int (nI la)), (5, .int (nI (e - f))), (6, .int (nI la))] [.int 1] (n, s, h2_)
      refine WX.if_ rfl (fun c_95 => absurd c_95 (by decide)) (fun c_95 => ?_)
      clear c_95
      refine WX.s1 rfl rfl ?_
      refine WX.s1 rfl rfl ?_
      refine WX.s1 (L' := [(0, .ref 81), (1, .ref r), (2, .int (nI f)), (3, .int (nI e)), (4, .int (nI la)), (5, .int (nI (e - f))), (6, .int (nI la)), (7, .int 1)]) rfl rfl ?_
      exact x_blkEnd (rn := 1) hn hnb hr hRN hOk hls h2 hq hf he hU hla hD hCh hg ((fr2 81 (by omega)).trans F_h1_81) ((fr2 82 (by omega)).trans F_h1_82) ((fr2 83 (by omega)).trans F_h1_83) ((fr2 84 (by omega)).trans F_h1_84) ((fr2 85 (by omega)).trans F_h1_85) ((fr2 88 (by omega)).trans F_h1_88) ((fr2 89 (by omega)).trans F_h1_89) (l61.zfr fr2 (by omega)) (l7.zfr fr2 (by omega)) (li.zfr fr2 (by omega) (by omega)) (he1.zfr fr2 (fun j h1 h2 => by omega)) (Or.inl ⟨rfl, a1, a2, y, a3, co2, to2, ylen⟩) kn2 dx2 (row1.zfr fr2 (by omega) (by omega)) (G1.zfr fr2 (fun j h1 h2 => by omega) (by omega) (by omega)) (G2.zfr fr2 (fun j h1 h2 => by omega) (by omega) (by omega)) (G3.zfr fr2 (fun j h1 h2 => by omega) (by omega) (by omega)) (fun z h9 fr9 P9 R9 => kk1 z h9 ((FR1.ztr (fr2.mono (fun j hj => by omega))).ztr fr9) P9 R9) (fun z h9 fr9 P9 R9 => kk2 z h9 ((FR1.ztr (fr2.mono (fun j hj => by omega))).ztr fr9) P9 R9)
set_option maxRecDepth 20000 in
theorem x_blk0 {d n s : Nat} {h : Nat → aE} {D H : Nat → Nat} {U way least win f e r RN : Nat} {S : PkS} {bb : Option (List Nat)} (hn : 190 ≤ n) (hnb : n < aBig) (hr : r + 1 < 67) (hRN : RN < 2 ^ 31) (hOk : PkOk S) (hf : f ≤ e) (he : e ≤ U) (hU : U ≤ 16000) (hfe : e - f ≤ 8000) (hw : way ≤ 3) (hl3 : 3 ≤ least) (hl8 : least ≤ 8) (hwin : win < 2 ^ 30) (hH : HashOk D H) (hX : PkX h D H U way least win S)  (P_h_row : RowIs h r RN bb 0 0) {Ψ : Option Value → aH → Prop} (kk : ∀ h', Fr h h' (fun j => j = r ∨ j = r + 1 ∨ (67 ≤ j ∧ j ≤ 188)) → PkX h' D H U way least win (blkT D way least win f e S) → RowIs h' r RN (bputs RN bb (blkB D way least win f e 0 S)) 0 0 → Ψ none (n, s, h')) : WO (mM (d + 7)) 75 [.ref 81, .ref r, .int (nI f), .int (nI e), .int 0] (n, s, h) Ψ := by
  refine WO.of (Nat.le_of_ble_eq_true rfl) ?_
  have FR_h : Fr h h (fun j => j = r ∨ j = r + 1 ∨ (67 ≤ j ∧ j ≤ 188)) := Fr.rf
  have hB : aBig = 1000000 := rfl
  obtain ⟨⟨cnt, F_h_81⟩, -, -, ⟨g, F_h_88, hg⟩, ⟨fe, fle, fdi, fap, fal, fad, dA, eA, hA, F_h_82, F_h_83, -, -, hD, -⟩, -⟩ := id hX
  show WX (lk tX6_putBlock) (mM (d + 6)) Ψ 0 [(0, .ref 81), (1, .ref r), (2, .int (nI f)), (3, .int (nI e)), (4, .int 0)] [] (n, s, h)
  refine WX.s1 rfl rfl ?_
  refine WX.s1 rfl rfl ?_
  refine WX.s1 (S' := [.int ((nI e) - (nI f))]) rfl rfl ?_
  rw [show nI e - nI f = nI (e - f) from nI_subN hf]
  refine WX.s1 (L' := [(0, .ref 81), (1, .ref r), (2, .int (nI f)), (3, .int (nI e)), (4, .int 0), (5, .int (nI (e - f)))]) rfl rfl ?_
  refine WX.s1 rfl rfl ?_
  refine WX.if_ rfl (fun c_7 => ?_) (fun c_7 => absurd (by decide) c_7)
  clear c_7
  refine WX.s1 rfl rfl ?_
  refine WX.s1 (L' := [(0, .ref 81), (1, .ref r), (2, .int (nI f)), (3, .int (nI e)), (4, .int 0), (5, .int (nI (e - f))), (6, .int 0)]) rfl rfl ?_
  show WX _ _ _ 17 [(0, .ref 81), (1, .ref r), (2, .int (nI f)), (3, .int (nI e)), (4, .int (nI 0)), (5, .int (nI (e - f))), (6, .int (nI 0))] [] (n, s, h)
  refine WX.s1 rfl rfl ?_
  refine WX.get1 (fs := [.ref 82, .ref 89, .ref 108, .ref 135, .ref 162, .ref 86, .ref 87, .int cnt, .ref 88]) rfl (by omega) (F_h_81) rfl ?_
  refine WX.s1 rfl rfl ?_
  refine WX.s1 rfl rfl ?_
  refine WX.callC (vs := [.ref 82, .int (nI f), .int (nI e)]) rfl rfl rfl (Nat.le_of_ble_eq_true rfl) (rcv_ok (by omega) F_h_82) ?_
  refine x_same hn hD hU hf he F_h_82 F_h_83 (fun hsm => ?_) (fun hsm => ?_)
  · skip
    show WX _ _ _ 26 [(0, .ref 81), (1, .ref r), (2, .int (nI f)), (3, .int (nI e)), (4, .int (nI 0)), (5, .int (nI (e - f))), (6, .int (nI 0))] [.int 1] (n, s, h)
    have hlt := (sameB_iff.mp hsm).1
    refine WX.if_ rfl (fun c_26 => absurd c_26 (by decide)) (fun c_26 => ?_)
    clear c_26
    refine WX.s1 rfl rfl ?_
    refine WX.s1 rfl rfl ?_
    refine WX.s1 rfl rfl ?_
    refine WX.s1 (S' := [.long ((nI (e - f)).toInt64), .long 8, .ref r]) rfl rfl ?_
    refine WX.s1 (S' := [.long (8 * ((nI (e - f)).toInt64)), .ref r]) rfl rfl ?_
    refine WX.s1 rfl rfl ?_
    refine WX.s1 (S' := [.long ((8 * ((nI (e - f)).toInt64)) + 2), .ref r]) rfl rfl ?_
    refine WX.s1 rfl rfl ?_
    refine WX.s1 (S' := [.long ((nI 0).toInt64), .long ((8 * ((nI (e - f)).toInt64)) + 2), .ref r]) rfl rfl ?_
    refine WX.s1 (S' := [.long (((8 * ((nI (e - f)).toInt64)) + 2) + ((nI 0).toInt64)), .ref r]) rfl rfl ?_
    refine WX.s1 rfl rfl ?_
    rw [show (((8 * ((nI (e - f)).toInt64)) + 2) + ((nI 0).toInt64)) = lN (8 * (e - f) + 2 + 0) by rw [nI_l (n := e - f) (by omega), show (8 : Int64) = lN 8 from rfl, show (2 : Int64) = lN 2 from rfl, nI_l (n := 0) (by decide), lN_mul, lN_add, lN_add]]
    refine WX.callC (vs := [.ref r, .long (lN (8 * (e - f) + 2 + 0)), .int (nI 3)]) rfl rfl rfl (Nat.le_of_ble_eq_true rfl) (P_h_row.rcv (by omega)) ?_
    refine w_putNumber (by omega) P_h_row hRN (by decide) (fun h46 fr46 P_h46_row => ?_)
    have F_h46_81 : h46 81 = .inr (6, [.ref 82, .ref 89, .ref 108, .ref 135, .ref 162, .ref 86, .ref 87, .int cnt, .ref 88]) := (fr46 _ (by omega)).trans F_h_81
    have F_h46_82 : h46 82 = .inr (3, [.ref 83, .int (nI U), .ref 84, .ref 85, .int (nI way), .int (nI least), .int (nI win), .int fe, .int fle, .int fdi, .int fap, .int fal, .int fad]) := (fr46 _ (by omega)).trans F_h_82
    have F_h46_83 : h46 83 = .inl (0, 16000, .inl dA) := (fr46 _ (by omega)).trans F_h_83
    have F_h46_88 : h46 88 = .inl (1, 12, .inl g) := (fr46 _ (by omega)).trans F_h_88
    have FR_h46 : Fr h h46 (fun j => j = r ∨ j = r + 1 ∨ (67 ≤ j ∧ j ≤ 188)) := FR_h.zsub fr46 (fun j hj => by omega)
    show WX _ _ _ 49 [(0, .ref 81), (1, .ref r), (2, .int (nI f)), (3, .int (nI e)), (4, .int (nI 0)), (5, .int (nI (e - f))), (6, .int (nI 0))] [] (n, s, h46)
    rw [leL_lN (by omega)] at P_h46_row
    refine WX.s1 rfl rfl ?_
    refine WX.s1 rfl rfl ?_
    refine WX.get1 (fs := [.ref 82, .ref 89, .ref 108, .ref 135, .ref 162, .ref 86, .ref 87, .int cnt, .ref 88]) rfl (by omega) (F_h46_81) rfl ?_
    refine WX.s1 rfl rfl ?_
    refine WX.callC (vs := [.ref 82, .int (nI f)]) rfl rfl rfl (Nat.le_of_ble_eq_true rfl) (rcv_ok (by omega) F_h46_82) ?_
    refine x_fat hn hD hU (by omega) F_h46_82 F_h46_83 ?_
    show WX _ _ _ 58 [(0, .ref 81), (1, .ref r), (2, .int (nI f)), (3, .int (nI e)), (4, .int (nI 0)), (5, .int (nI (e - f))), (6, .int (nI 0))] [.int (nI (D f)), .ref r] (n, s, h46)
    refine WX.callC (vs := [.ref r, .int (nI (D f))]) rfl rfl rfl (Nat.le_of_ble_eq_true rfl) (P_h46_row.rcv (by omega)) ?_
    refine w_putB (by omega) P_h46_row hRN (fun h58 fr58 P_h58_row => ?_)
    have F_h58_81 : h58 81 = .inr (6, [.ref 82, .ref 89, .ref 108, .ref 135, .ref 162, .ref 86, .ref 87, .int cnt, .ref 88]) := (fr58 _ (by omega)).trans F_h46_81
    have F_h58_82 : h58 82 = .inr (3, [.ref 83, .int (nI U), .ref 84, .ref 85, .int (nI way), .int (nI least), .int (nI win), .int fe, .int fle, .int fdi, .int fap, .int fal, .int fad]) := (fr58 _ (by omega)).trans F_h46_82
    have F_h58_83 : h58 83 = .inl (0, 16000, .inl dA) := (fr58 _ (by omega)).trans F_h46_83
    have F_h58_88 : h58 88 = .inl (1, 12, .inl g) := (fr58 _ (by omega)).trans F_h46_88
    have FR_h58 : Fr h h58 (fun j => j = r ∨ j = r + 1 ∨ (67 ≤ j ∧ j ≤ 188)) := FR_h46.zsub fr58 (fun j hj => by omega)
    show WX _ _ _ 61 [(0, .ref 81), (1, .ref r), (2, .int (nI f)), (3, .int (nI e)), (4, .int (nI 0)), (5, .int (nI (e - f))), (6, .int (nI 0))] [] (n, s, h58)
    rw [byt_nI, Nat.mod_eq_of_lt (hD f (by omega)).1] at P_h58_row
    have FS0 : Fr h h58 (fun j => j = r ∨ j = r + 1 ∨ j = 88) := (fr46.mono (fun j hj => by omega)).ztr (fr58.mono (fun j hj => by omega))
    refine WX.s1 rfl rfl ?_
    refine WX.get1 (fs := [.ref 82, .ref 89, .ref 108, .ref 135, .ref 162, .ref 86, .ref 87, .int cnt, .ref 88]) rfl (by omega) (F_h58_81) rfl ?_
    refine WX.s1 rfl rfl ?_
    refine WX.s1 rfl rfl ?_
    refine WX.iald1 rfl (Or.inl (by omega)) (F_h58_88) (by unfold vp_in; decide) ?_
    rw [cl1, hg 1 (by decide)]
    refine WX.s1 rfl rfl ?_
    refine WX.s1 (S' := [.int ((nI (S.2.2.2.2.2 1)) + 1), .int 1, .ref 88]) rfl rfl ?_
    rw [show ((nI (S.2.2.2.2.2 1)) + 1) = nI (S.2.2.2.2.2 1 + 1) from nI_add (S.2.2.2.2.2 1) 1]
    refine WX.iastN rfl (by omega) (F_h58_88) (by unfold vp_in; decide) (fun g70 h70 e_g70 e_h70 => ?_)
    try dsimp only at e_g70
    have F_h70_81 : h70 81 = .inr (6, [.ref 82, .ref 89, .ref 108, .ref 135, .ref 162, .ref 86, .ref 87, .int cnt, .ref 88]) := by rw [e_h70, va_up_neq (by decide)]; exact F_h58_81
    have F_h70_82 : h70 82 = .inr (3, [.ref 83, .int (nI U), .ref 84, .ref 85, .int (nI way), .int (nI least), .int (nI win), .int fe, .int fle, .int fdi, .int fap, .int fal, .int fad]) := by rw [e_h70, va_up_neq (by decide)]; exact F_h58_82
    have F_h70_83 : h70 83 = .inl (0, 16000, .inl dA) := by rw [e_h70, va_up_neq (by decide)]; exact F_h58_83
    have F_h70_88 : h70 88 = .inl (1, 12, .inl g70) := by rw [e_h70]; exact va_up_eq
    have P_h70_row : RowIs h70 r RN (bput RN (bputs RN bb (leBy (8 * (e - f) + 2 + 0) 3)) (D f)) 0 0 := P_h58_row.zfr (Fr.of e_h70) (by omega) (by omega)
    have FS : Fr h h70 (fun j => j = r ∨ j = r + 1 ∨ j = 88) := FS0.zup e_h70 (Or.inr (Or.inr rfl))
    have FR_h70 : Fr h h70 (fun j => j = r ∨ j = r + 1 ∨ (67 ≤ j ∧ j ≤ 188)) := FR_h58.zup e_h70 (by first | exact rfl | exact Or.inl rfl | exact Or.inr rfl | exact ⟨by decide, by decide⟩ | decide | omega)
    clear F_h58_81 F_h58_82 F_h58_83 F_h58_88 P_h58_row FR_h58 e_h70
    rw [cl1] at e_g70
    have eT : blkT D way least win f e S = pkNt S (ntAt S.2.2.2.2.2 1 1) := if_pos hsm
    have eB : blkB D way least win f e 0 S = leBy (8 * (e - f) + 2 + 0) 3 ++ [D f] := if_pos hsm
    rw [eT, eB] at kk
    exact WX.ret0 rfl (kk h70 FR_h70 (hX.tl FS (fun x h1 h2 h3 => by omega) (fun x h1 => by omega) ⟨g70, F_h70_88, tl_up hg e_g70 rfl⟩) (by rw [bputs_app]; exact P_h70_row))
  · skip
    show WX _ _ _ 26 [(0, .ref 81), (1, .ref r), (2, .int (nI f)), (3, .int (nI e)), (4, .int (nI 0)), (5, .int (nI (e - f))), (6, .int (nI 0))] [.int 0] (n, s, h)
    refine WX.if_ rfl (fun c_26 => ?_) (fun c_26 => absurd (by decide) c_26)
    clear c_26
    refine x_blkMid (la := 0) hn hnb hr hRN hOk hf he hU hfe (by decide) hw hl3 hl8 hwin hH hX P_h_row (fun z h9 fr9 P9 R9 => ?_) (fun z h9 fr9 P9 R9 => ?_)
    · refine kk h9 fr9 ?_ ?_
      · unfold blkT; rw [if_neg hsm, if_pos z]; exact P9
      · unfold blkB; rw [if_neg hsm, if_pos z]; exact R9
    · refine kk h9 fr9 ?_ ?_
      · unfold blkT; rw [if_neg hsm, if_neg (by omega)]; exact P9
      · unfold blkB; rw [if_neg hsm, if_neg (by omega)]; exact R9
set_option maxRecDepth 20000 in
theorem x_blk1 {d n s : Nat} {h : Nat → aE} {D H : Nat → Nat} {U way least win f e r RN : Nat} {S : PkS} {bb : Option (List Nat)} (hn : 190 ≤ n) (hnb : n < aBig) (hr : r + 1 < 67) (hRN : RN < 2 ^ 31) (hOk : PkOk S) (hf : f ≤ e) (he : e ≤ U) (hU : U ≤ 16000) (hfe : e - f ≤ 8000) (hw : way ≤ 3) (hl3 : 3 ≤ least) (hl8 : least ≤ 8) (hwin : win < 2 ^ 30) (hH : HashOk D H) (hX : PkX h D H U way least win S)  (P_h_row : RowIs h r RN bb 0 0) {Ψ : Option Value → aH → Prop} (kk : ∀ h', Fr h h' (fun j => j = r ∨ j = r + 1 ∨ (67 ≤ j ∧ j ≤ 188)) → PkX h' D H U way least win (blkT D way least win f e S) → RowIs h' r RN (bputs RN bb (blkB D way least win f e 1 S)) 0 0 → Ψ none (n, s, h')) : WO (mM (d + 7)) 75 [.ref 81, .ref r, .int (nI f), .int (nI e), .int 1] (n, s, h) Ψ := by
  refine WO.of (Nat.le_of_ble_eq_true rfl) ?_
  have FR_h : Fr h h (fun j => j = r ∨ j = r + 1 ∨ (67 ≤ j ∧ j ≤ 188)) := Fr.rf
  have hB : aBig = 1000000 := rfl
  obtain ⟨⟨cnt, F_h_81⟩, -, -, ⟨g, F_h_88, hg⟩, ⟨fe, fle, fdi, fap, fal, fad, dA, eA, hA, F_h_82, F_h_83, -, -, hD, -⟩, -⟩ := id hX
  show WX (lk tX6_putBlock) (mM (d + 6)) Ψ 0 [(0, .ref 81), (1, .ref r), (2, .int (nI f)), (3, .int (nI e)), (4, .int 1)] [] (n, s, h)
  refine WX.s1 rfl rfl ?_
  refine WX.s1 rfl rfl ?_
  refine WX.s1 (S' := [.int ((nI e) - (nI f))]) rfl rfl ?_
  rw [show nI e - nI f = nI (e - f) from nI_subN hf]
  refine WX.s1 (L' := [(0, .ref 81), (1, .ref r), (2, .int (nI f)), (3, .int (nI e)), (4, .int 1), (5, .int (nI (e - f)))]) rfl rfl ?_
  refine WX.s1 rfl rfl ?_
  refine WX.if_ rfl (fun c_7 => absurd c_7 (by decide)) (fun c_7 => ?_)
  clear c_7
  refine WX.s1 rfl rfl ?_
  refine WX.s1 rfl rfl ?_
  refine WX.s1 (L' := [(0, .ref 81), (1, .ref r), (2, .int (nI f)), (3, .int (nI e)), (4, .int 1), (5, .int (nI (e - f))), (6, .int 1)]) rfl rfl ?_
  show WX _ _ _ 17 [(0, .ref 81), (1, .ref r), (2, .int (nI f)), (3, .int (nI e)), (4, .int (nI 1)), (5, .int (nI (e - f))), (6, .int (nI 1))] [] (n, s, h)
  refine WX.s1 rfl rfl ?_
  refine WX.get1 (fs := [.ref 82, .ref 89, .ref 108, .ref 135, .ref 162, .ref 86, .ref 87, .int cnt, .ref 88]) rfl (by omega) (F_h_81) rfl ?_
  refine WX.s1 rfl rfl ?_
  refine WX.s1 rfl rfl ?_
  refine WX.callC (vs := [.ref 82, .int (nI f), .int (nI e)]) rfl rfl rfl (Nat.le_of_ble_eq_true rfl) (rcv_ok (by omega) F_h_82) ?_
  refine x_same hn hD hU hf he F_h_82 F_h_83 (fun hsm => ?_) (fun hsm => ?_)
  · skip
    show WX _ _ _ 26 [(0, .ref 81), (1, .ref r), (2, .int (nI f)), (3, .int (nI e)), (4, .int (nI 1)), (5, .int (nI (e - f))), (6, .int (nI 1))] [.int 1] (n, s, h)
    have hlt := (sameB_iff.mp hsm).1
    refine WX.if_ rfl (fun c_26 => absurd c_26 (by decide)) (fun c_26 => ?_)
    clear c_26
    refine WX.s1 rfl rfl ?_
    refine WX.s1 rfl rfl ?_
    refine WX.s1 rfl rfl ?_
    refine WX.s1 (S' := [.long ((nI (e - f)).toInt64), .long 8, .ref r]) rfl rfl ?_
    refine WX.s1 (S' := [.long (8 * ((nI (e - f)).toInt64)), .ref r]) rfl rfl ?_
    refine WX.s1 rfl rfl ?_
    refine WX.s1 (S' := [.long ((8 * ((nI (e - f)).toInt64)) + 2), .ref r]) rfl rfl ?_
    refine WX.s1 rfl rfl ?_
    refine WX.s1 (S' := [.long ((nI 1).toInt64), .long ((8 * ((nI (e - f)).toInt64)) + 2), .ref r]) rfl rfl ?_
    refine WX.s1 (S' := [.long (((8 * ((nI (e - f)).toInt64)) + 2) + ((nI 1).toInt64)), .ref r]) rfl rfl ?_
    refine WX.s1 rfl rfl ?_
    rw [show (((8 * ((nI (e - f)).toInt64)) + 2) + ((nI 1).toInt64)) = lN (8 * (e - f) + 2 + 1) by rw [nI_l (n := e - f) (by omega), show (8 : Int64) = lN 8 from rfl, show (2 : Int64) = lN 2 from rfl, nI_l (n := 1) (by decide), lN_mul, lN_add, lN_add]]
    refine WX.callC (vs := [.ref r, .long (lN (8 * (e - f) + 2 + 1)), .int (nI 3)]) rfl rfl rfl (Nat.le_of_ble_eq_true rfl) (P_h_row.rcv (by omega)) ?_
    refine w_putNumber (by omega) P_h_row hRN (by decide) (fun h46 fr46 P_h46_row => ?_)
    have F_h46_81 : h46 81 = .inr (6, [.ref 82, .ref 89, .ref 108, .ref 135, .ref 162, .ref 86, .ref 87, .int cnt, .ref 88]) := (fr46 _ (by omega)).trans F_h_81
    have F_h46_82 : h46 82 = .inr (3, [.ref 83, .int (nI U), .ref 84, .ref 85, .int (nI way), .int (nI least), .int (nI win), .int fe, .int fle, .int fdi, .int fap, .int fal, .int fad]) := (fr46 _ (by omega)).trans F_h_82
    have F_h46_83 : h46 83 = .inl (0, 16000, .inl dA) := (fr46 _ (by omega)).trans F_h_83
    have F_h46_88 : h46 88 = .inl (1, 12, .inl g) := (fr46 _ (by omega)).trans F_h_88
    have FR_h46 : Fr h h46 (fun j => j = r ∨ j = r + 1 ∨ (67 ≤ j ∧ j ≤ 188)) := FR_h.zsub fr46 (fun j hj => by omega)
    show WX _ _ _ 49 [(0, .ref 81), (1, .ref r), (2, .int (nI f)), (3, .int (nI e)), (4, .int (nI 1)), (5, .int (nI (e - f))), (6, .int (nI 1))] [] (n, s, h46)
    rw [leL_lN (by omega)] at P_h46_row
    refine WX.s1 rfl rfl ?_
    refine WX.s1 rfl rfl ?_
    refine WX.get1 (fs := [.ref 82, .ref 89, .ref 108, .ref 135, .ref 162, .ref 86, .ref 87, .int cnt, .ref 88]) rfl (by omega) (F_h46_81) rfl ?_
    refine WX.s1 rfl rfl ?_
    refine WX.callC (vs := [.ref 82, .int (nI f)]) rfl rfl rfl (Nat.le_of_ble_eq_true rfl) (rcv_ok (by omega) F_h46_82) ?_
    refine x_fat hn hD hU (by omega) F_h46_82 F_h46_83 ?_
    show WX _ _ _ 58 [(0, .ref 81), (1, .ref r), (2, .int (nI f)), (3, .int (nI e)), (4, .int (nI 1)), (5, .int (nI (e - f))), (6, .int (nI 1))] [.int (nI (D f)), .ref r] (n, s, h46)
    refine WX.callC (vs := [.ref r, .int (nI (D f))]) rfl rfl rfl (Nat.le_of_ble_eq_true rfl) (P_h46_row.rcv (by omega)) ?_
    refine w_putB (by omega) P_h46_row hRN (fun h58 fr58 P_h58_row => ?_)
    have F_h58_81 : h58 81 = .inr (6, [.ref 82, .ref 89, .ref 108, .ref 135, .ref 162, .ref 86, .ref 87, .int cnt, .ref 88]) := (fr58 _ (by omega)).trans F_h46_81
    have F_h58_82 : h58 82 = .inr (3, [.ref 83, .int (nI U), .ref 84, .ref 85, .int (nI way), .int (nI least), .int (nI win), .int fe, .int fle, .int fdi, .int fap, .int fal, .int fad]) := (fr58 _ (by omega)).trans F_h46_82
    have F_h58_83 : h58 83 = .inl (0, 16000, .inl dA) := (fr58 _ (by omega)).trans F_h46_83
    have F_h58_88 : h58 88 = .inl (1, 12, .inl g) := (fr58 _ (by omega)).trans F_h46_88
    have FR_h58 : Fr h h58 (fun j => j = r ∨ j = r + 1 ∨ (67 ≤ j ∧ j ≤ 188)) := FR_h46.zsub fr58 (fun j hj => by omega)
    show WX _ _ _ 61 [(0, .ref 81), (1, .ref r), (2, .int (nI f)), (3, .int (nI e)), (4, .int (nI 1)), (5, .int (nI (e - f))), (6, .int (nI 1))] [] (n, s, h58)
    rw [byt_nI, Nat.mod_eq_of_lt (hD f (by omega)).1] at P_h58_row
    have FS0 : Fr h h58 (fun j => j = r ∨ j = r + 1 ∨ j = 88) := (fr46.mono (fun j hj => by omega)).ztr (fr58.mono (fun j hj => by omega))
    refine WX.s1 rfl rfl ?_
    refine WX.get1 (fs := [.ref 82, .ref 89, .ref 108, .ref 135, .ref 162, .ref 86, .ref 87, .int cnt, .ref 88]) rfl (by omega) (F_h58_81) rfl ?_
    refine WX.s1 rfl rfl ?_
    refine WX.s1 rfl rfl ?_
    refine WX.iald1 rfl (Or.inl (by omega)) (F_h58_88) (by unfold vp_in; decide) ?_
    rw [cl1, hg 1 (by decide)]
    refine WX.s1 rfl rfl ?_
    refine WX.s1 (S' := [.int ((nI (S.2.2.2.2.2 1)) + 1), .int 1, .ref 88]) rfl rfl ?_
    rw [show ((nI (S.2.2.2.2.2 1)) + 1) = nI (S.2.2.2.2.2 1 + 1) from nI_add (S.2.2.2.2.2 1) 1]
    refine WX.iastN rfl (by omega) (F_h58_88) (by unfold vp_in; decide) (fun g70 h70 e_g70 e_h70 => ?_)
    try dsimp only at e_g70
    have F_h70_81 : h70 81 = .inr (6, [.ref 82, .ref 89, .ref 108, .ref 135, .ref 162, .ref 86, .ref 87, .int cnt, .ref 88]) := by rw [e_h70, va_up_neq (by decide)]; exact F_h58_81
    have F_h70_82 : h70 82 = .inr (3, [.ref 83, .int (nI U), .ref 84, .ref 85, .int (nI way), .int (nI least), .int (nI win), .int fe, .int fle, .int fdi, .int fap, .int fal, .int fad]) := by rw [e_h70, va_up_neq (by decide)]; exact F_h58_82
    have F_h70_83 : h70 83 = .inl (0, 16000, .inl dA) := by rw [e_h70, va_up_neq (by decide)]; exact F_h58_83
    have F_h70_88 : h70 88 = .inl (1, 12, .inl g70) := by rw [e_h70]; exact va_up_eq
    have P_h70_row : RowIs h70 r RN (bput RN (bputs RN bb (leBy (8 * (e - f) + 2 + 1) 3)) (D f)) 0 0 := P_h58_row.zfr (Fr.of e_h70) (by omega) (by omega)
    have FS : Fr h h70 (fun j => j = r ∨ j = r + 1 ∨ j = 88) := FS0.zup e_h70 (Or.inr (Or.inr rfl))
    have FR_h70 : Fr h h70 (fun j => j = r ∨ j = r + 1 ∨ (67 ≤ j ∧ j ≤ 188)) := FR_h58.zup e_h70 (by first | exact rfl | exact Or.inl rfl | exact Or.inr rfl | exact ⟨by decide, by decide⟩ | decide | omega)
    clear F_h58_81 F_h58_82 F_h58_83 F_h58_88 P_h58_row FR_h58 e_h70
    rw [cl1] at e_g70
    have eT : blkT D way least win f e S = pkNt S (ntAt S.2.2.2.2.2 1 1) := if_pos hsm
    have eB : blkB D way least win f e 1 S = leBy (8 * (e - f) + 2 + 1) 3 ++ [D f] := if_pos hsm
    rw [eT, eB] at kk
    exact WX.ret0 rfl (kk h70 FR_h70 (hX.tl FS (fun x h1 h2 h3 => by omega) (fun x h1 => by omega) ⟨g70, F_h70_88, tl_up hg e_g70 rfl⟩) (by rw [bputs_app]; exact P_h70_row))
  · skip
    show WX _ _ _ 26 [(0, .ref 81), (1, .ref r), (2, .int (nI f)), (3, .int (nI e)), (4, .int (nI 1)), (5, .int (nI (e - f))), (6, .int (nI 1))] [.int 0] (n, s, h)
    refine WX.if_ rfl (fun c_26 => ?_) (fun c_26 => absurd (by decide) c_26)
    clear c_26
    refine x_blkMid (la := 1) hn hnb hr hRN hOk hf he hU hfe (by decide) hw hl3 hl8 hwin hH hX P_h_row (fun z h9 fr9 P9 R9 => ?_) (fun z h9 fr9 P9 R9 => ?_)
    · refine kk h9 fr9 ?_ ?_
      · unfold blkT; rw [if_neg hsm, if_pos z]; exact P9
      · unfold blkB; rw [if_neg hsm, if_pos z]; exact R9
    · refine kk h9 fr9 ?_ ?_
      · unfold blkT; rw [if_neg hsm, if_neg (by omega)]; exact P9
      · unfold blkB; rw [if_neg hsm, if_neg (by omega)]; exact R9
