/-! Packer.putBlock -/
theorem LiS.rcv {n s : Nat} {h : Nat → aE} {ls : List Nat} {c : LC} {vl : List Value} (r : LiS h ls c) (hk : 89 < n) : rcv 6 (.ref 89 :: vl) (n, s, h) = true := by
  obtain ⟨sh, be, F, -⟩ := r
  exact rcv_ok hk F
theorem LiX.mk2 {h : Nat → aE} {ls : List Nat} {c : LC} {tC : Option Le} {rn : Nat} (a : LiS h ls c) (b : LitA h ls) (e : CoH h 92 tC) (g : LiR h ls rn) (k : KnX h) : LiX h tC := by
  obtain ⟨sh, be, F, -⟩ := a
  obtain ⟨lA, cA, F90, F91, -⟩ := b
  exact ⟨_, _, _, _, _, lA, cA, F, F90, F91, e, g.toX.1, k, g.toX.2⟩
theorem LatA.toX {h : Nat → aE} {l : Sq} (r : LatA h 87 l) : LaX h := by
  obtain ⟨g, a, -⟩ := r
  exact ⟨g, a⟩
theorem se_bd {tH1 tH2 tH3 : Option Tb} {lt : Sq} {qs : List Sq} (h2 : qs.length ≤ 2667) (hq : ∀ q, q ∈ qs → SqB q) (hlt : LatOk lt) (hH1 : TbO 35 512 tH1) (hH2 : TbO 31 256 tH2) (hH3 : TbO 52 512 tH3) : (seY tH1 tH2 tH3 lt qs).length < 2 ^ 22 := by
  by_cases h0 : qs.length = 0
  · have e : seY tH1 tH2 tH3 lt qs = [0] := if_pos h0
    rw [e]
    decide
  · obtain ⟨b1, b2, b3⟩ := se_len (by omega) h2 hq hlt hH1 hH2 hH3
    rw [b3, cntY_len]
    split <;> omega
theorem blkP_bd {ls : List Nat} {qs : List Sq} {S : PkS} (hO : PkOk S) (hls : LsOk ls) (h2 : qs.length ≤ 2667) (hq : ∀ q, q ∈ qs → SqB q) : (blkP ls qs S).length < 2 ^ 23 := by
  obtain ⟨-, ⟨o2, o3, o4⟩, o5, -⟩ := hO
  have a := se_bd h2 hq o5 o2 o3 o4
  have b := lit_bd (tC := S.1) hls.2
  unfold blkP
  rw [List.length_append, lit_len]
  omega
theorem wd1_16 (s : Nat) : wd1 s ≤ 16 := wd_le (j := 4) (N := 36) (by decide) (by decide +kernel) s
theorem wd2_16 (s : Nat) : wd2 s ≤ 16 := wd_le (j := 6) (N := 17) (by decide) (by decide +kernel) s
theorem wd3_16 (s : Nat) : wd3 s ≤ 16 := wd_le (j := 8) (N := 53) (by decide) (by decide +kernel) s
set_option maxRecDepth 20000 in
theorem x_blkEnd {d n s : Nat} {h : Nat → aE} {D H : Nat → Nat} {U way least win f e la rn r RN : Nat} {S : PkS} {ls : List Nat} {qs : List Sq} {bb : Option (List Nat)} {fle fdi fap fal fad ki by_ sh be : Int32} {dA eA hA g : Nat → Int32} (hn : 190 ≤ n) (hnb : n < aBig) (hr : r + 1 < 67) (hRN : RN < 2 ^ 31) (hOk : PkOk S) (hls : LsOk ls) (h2 : qs.length ≤ 2667) (hq : ∀ q, q ∈ qs → SqB q) (hf : f ≤ e) (he : e ≤ U) (hU : U ≤ 16000) (hla : la ≤ 1) (hD : ∀ i, i < U → D i < 256 ∧ dA i = sb_b (D i)) (hCh : ChainAt H U eA) (hg : ∀ q, q < 12 → g q = nI (S.2.2.2.2.2 q)) (F_h_81 : h 81 = .inr (6, [.ref 82, .ref 89, .ref 108, .ref 135, .ref 162, .ref 86, .ref 87, .int (nI qs.length), .ref 88])) (F_h_82 : h 82 = .inr (3, [.ref 83, .int (nI U), .ref 84, .ref 85, .int (nI way), .int (nI least), .int (nI win), .int (nI e), .int fle, .int fdi, .int fap, .int fal, .int fad])) (F_h_83 : h 83 = .inl (0, 16000, .inl dA)) (F_h_84 : h 84 = .inl (1, 16000, .inl eA)) (F_h_85 : h 85 = .inl (1, 4096, .inl hA)) (F_h_88 : h 88 = .inl (1, 12, .inl g)) (F_h_89 : h 89 = .inr (5, [.ref 90, .ref 91, .int (nI ls.length), .ref 92, .ref 96, .ref 100, .ref 67, .ref 106, .int ki, .int by_, .int sh, .int be])) (P_h_l6 : LatA h 86 S.2.2.2.2.1) (P_h_l7 : LatA h 87 (numF S.2.2.2.2.1 qs).2) (P_h_li : LitA h ls) (P_h_he : CoH h 92 S.1) (P_h_lr : LiR h ls rn) (P_h_kn : KnX h) (P_h_dx : DX h) (P_h_row : RowIs h r RN bb 0 0) (P_h_g1 : CG1 h S.2.1 (seqV1 qs)) (P_h_g2 : CG2 h S.2.2.1 (numF S.2.2.2.2.1 qs).1) (P_h_g3 : CG3 h S.2.2.2.1 (seqV3 qs)) {Ψ : Option Value → aH → Prop} (kk1 : (blkP ls qs S).length < e - f → ∀ h', Fr h h' (fun j => j = r ∨ j = r + 1 ∨ (67 ≤ j ∧ j ≤ 188)) → PkX h' D H U way least win (blkK ls qs S) → RowIs h' r RN (bputs RN bb (leBy (8 * (blkP ls qs S).length + 4 + la) 3 ++ blkP ls qs S)) 0 0 → Ψ none (n, s, h')) (kk2 : e - f ≤ (blkP ls qs S).length → ∀ h', Fr h h' (fun j => j = r ∨ j = r + 1 ∨ (67 ≤ j ∧ j ≤ 188)) → PkX h' D H U way least win (pkNt S (ntAt S.2.2.2.2.2 0 1)) → RowIs h' r RN (bputs RN bb (leBy (8 * (e - f) + la) 3 ++ (List.range (e - f)).map (fun i => D (f + i)))) 0 0 → Ψ none (n, s, h')) : WX (lk tX6_putBlock) (mM (d + 6)) Ψ 105 [(0, .ref 81), (1, .ref r), (2, .int (nI f)), (3, .int (nI e)), (4, .int (nI la)), (5, .int (nI (e - f))), (6, .int (nI la)), (7, .int (nI rn))] [] (n, s, h) := by
  have FR_h : Fr h h (fun j => j = r ∨ j = r + 1 ∨ (67 ≤ j ∧ j ≤ 188)) := Fr.rf
  obtain ⟨o1, ⟨o2, o3, o4⟩, o5, o6⟩ := id hOk
  have hbd := blkP_bd hOk hls h2 hq
  have hB : aBig = 1000000 := rfl
  have hbl : (litF S.1 ls).2.1 + (seY S.2.1 S.2.2.1 S.2.2.2.1 S.2.2.2.2.1 qs).length = (blkP ls qs S).length := by unfold blkP; rw [List.length_append, lit_len]
  refine WX.s1 rfl rfl ?_
  refine WX.get1 (fs := [.ref 82, .ref 89, .ref 108, .ref 135, .ref 162, .ref 86, .ref 87, .int (nI qs.length), .ref 88]) rfl (by omega) (F_h_81) rfl ?_
  refine WX.callC (vs := [.ref 108]) rfl rfl rfl (Nat.le_of_ble_eq_true rfl) (P_h_g1.rcv (by omega)) ?_
  refine xk_choose (by omega) hnb (by decide) (by decide) (by decide) rfl sy1_lt (by rw [v1_len]; exact h2) wd1_16 (kn_ok (tb := 0) (by decide)) o2 P_h_g1 (fun h109 fr109 P_h109_c1 => ?_)
  have F_h109_81 : h109 81 = .inr (6, [.ref 82, .ref 89, .ref 108, .ref 135, .ref 162, .ref 86, .ref 87, .int (nI qs.length), .ref 88]) := (fr109 _ (by omega)).trans F_h_81
  have F_h109_82 : h109 82 = .inr (3, [.ref 83, .int (nI U), .ref 84, .ref 85, .int (nI way), .int (nI least), .int (nI win), .int (nI e), .int fle, .int fdi, .int fap, .int fal, .int fad]) := (fr109 _ (by omega)).trans F_h_82
  have F_h109_83 : h109 83 = .inl (0, 16000, .inl dA) := (fr109 _ (by omega)).trans F_h_83
  have F_h109_84 : h109 84 = .inl (1, 16000, .inl eA) := (fr109 _ (by omega)).trans F_h_84
  have F_h109_85 : h109 85 = .inl (1, 4096, .inl hA) := (fr109 _ (by omega)).trans F_h_85
  have F_h109_88 : h109 88 = .inl (1, 12, .inl g) := (fr109 _ (by omega)).trans F_h_88
  have F_h109_89 : h109 89 = .inr (5, [.ref 90, .ref 91, .int (nI ls.length), .ref 92, .ref 96, .ref 100, .ref 67, .ref 106, .int ki, .int by_, .int sh, .int be]) := (fr109 _ (by omega)).trans F_h_89
  have P_h109_l6 : LatA h109 86 S.2.2.2.2.1 := P_h_l6.zfr fr109 (by omega)
  have P_h109_l7 : LatA h109 87 (numF S.2.2.2.2.1 qs).2 := P_h_l7.zfr fr109 (by omega)
  have P_h109_li : LitA h109 ls := P_h_li.zfr fr109 (by omega) (by omega)
  have P_h109_he : CoH h109 92 S.1 := P_h_he.zfr fr109 (fun j h1 h2 => by omega)
  have P_h109_lr : LiR h109 ls rn := P_h_lr.zfr fr109 (fun j h1 h2 => by omega)
  have P_h109_kn : KnX h109 := P_h_kn.zfr fr109 (fun j h1 h2 => by omega)
  have P_h109_dx : DX h109 := P_h_dx.zfr fr109 (fun j h1 h2 => by omega)
  have P_h109_row : RowIs h109 r RN bb 0 0 := P_h_row.zfr fr109 (by omega) (by omega)
  have P_h109_g2 : CG2 h109 S.2.2.1 (numF S.2.2.2.2.1 qs).1 := P_h_g2.zfr fr109 (fun j h1 h2 => by omega) (by omega) (by omega)
  have P_h109_g3 : CG3 h109 S.2.2.2.1 (seqV3 qs) := P_h_g3.zfr fr109 (fun j h1 h2 => by omega) (by omega) (by omega)
  have FR_h109 : Fr h h109 (fun j => j = r ∨ j = r + 1 ∨ (67 ≤ j ∧ j ≤ 188)) := FR_h.zsub fr109 (fun j hj => by omega)
  show WX _ _ _ 112 [(0, .ref 81), (1, .ref r), (2, .int (nI f)), (3, .int (nI e)), (4, .int (nI la)), (5, .int (nI (e - f))), (6, .int (nI la)), (7, .int (nI rn))] [.int (nI (coC (tKn 0) S.2.1 9 sy1 wd1 (seqV1 qs)))] (n, s, h109)
  refine WX.s1 rfl rfl ?_
  refine WX.get1 (fs := [.ref 82, .ref 89, .ref 108, .ref 135, .ref 162, .ref 86, .ref 87, .int (nI qs.length), .ref 88]) rfl (by omega) (F_h109_81) rfl ?_
  refine WX.callC (vs := [.ref 135]) rfl rfl rfl (Nat.le_of_ble_eq_true rfl) (P_h109_g2.rcv (by omega)) ?_
  refine xk_choose (by omega) hnb (by decide) (by decide) (by decide) rfl sy2_lt (by rw [numF_len]; exact h2) wd2_16 (kn_ok (tb := 1) (by decide)) o3 P_h109_g2 (fun h116 fr116 P_h116_c2 => ?_)
  have F_h116_81 : h116 81 = .inr (6, [.ref 82, .ref 89, .ref 108, .ref 135, .ref 162, .ref 86, .ref 87, .int (nI qs.length), .ref 88]) := (fr116 _ (by omega)).trans F_h109_81
  have F_h116_82 : h116 82 = .inr (3, [.ref 83, .int (nI U), .ref 84, .ref 85, .int (nI way), .int (nI least), .int (nI win), .int (nI e), .int fle, .int fdi, .int fap, .int fal, .int fad]) := (fr116 _ (by omega)).trans F_h109_82
  have F_h116_83 : h116 83 = .inl (0, 16000, .inl dA) := (fr116 _ (by omega)).trans F_h109_83
  have F_h116_84 : h116 84 = .inl (1, 16000, .inl eA) := (fr116 _ (by omega)).trans F_h109_84
  have F_h116_85 : h116 85 = .inl (1, 4096, .inl hA) := (fr116 _ (by omega)).trans F_h109_85
  have F_h116_88 : h116 88 = .inl (1, 12, .inl g) := (fr116 _ (by omega)).trans F_h109_88
  have F_h116_89 : h116 89 = .inr (5, [.ref 90, .ref 91, .int (nI ls.length), .ref 92, .ref 96, .ref 100, .ref 67, .ref 106, .int ki, .int by_, .int sh, .int be]) := (fr116 _ (by omega)).trans F_h109_89
  have P_h116_l6 : LatA h116 86 S.2.2.2.2.1 := P_h109_l6.zfr fr116 (by omega)
  have P_h116_l7 : LatA h116 87 (numF S.2.2.2.2.1 qs).2 := P_h109_l7.zfr fr116 (by omega)
  have P_h116_li : LitA h116 ls := P_h109_li.zfr fr116 (by omega) (by omega)
  have P_h116_he : CoH h116 92 S.1 := P_h109_he.zfr fr116 (fun j h1 h2 => by omega)
  have P_h116_lr : LiR h116 ls rn := P_h109_lr.zfr fr116 (fun j h1 h2 => by omega)
  have P_h116_kn : KnX h116 := P_h109_kn.zfr fr116 (fun j h1 h2 => by omega)
  have P_h116_dx : DX h116 := P_h109_dx.zfr fr116 (fun j h1 h2 => by omega)
  have P_h116_row : RowIs h116 r RN bb 0 0 := P_h109_row.zfr fr116 (by omega) (by omega)
  have P_h116_g3 : CG3 h116 S.2.2.2.1 (seqV3 qs) := P_h109_g3.zfr fr116 (fun j h1 h2 => by omega) (by omega) (by omega)
  have P_h116_c1 : CC1 h116 S.2.1 (seqV1 qs) := P_h109_c1.zfr fr116 (fun j h1 h2 => by omega) (by omega) (by omega)
  have FR_h116 : Fr h h116 (fun j => j = r ∨ j = r + 1 ∨ (67 ≤ j ∧ j ≤ 188)) := FR_h109.zsub fr116 (fun j hj => by omega)
  show WX _ _ _ 119 [(0, .ref 81), (1, .ref r), (2, .int (nI f)), (3, .int (nI e)), (4, .int (nI la)), (5, .int (nI (e - f))), (6, .int (nI la)), (7, .int (nI rn))] [.int (nI (coC (tKn 1) S.2.2.1 8 sy2 wd2 (numF S.2.2.2.2.1 qs).1)), .int (nI (coC (tKn 0) S.2.1 9 sy1 wd1 (seqV1 qs)))] (n, s, h116)
  refine WX.s1 (S' := [.int ((nI (coC (tKn 0) S.2.1 9 sy1 wd1 (seqV1 qs))) + (nI (coC (tKn 1) S.2.2.1 8 sy2 wd2 (numF S.2.2.2.2.1 qs).1)))]) rfl rfl ?_
  rw [show ((nI (coC (tKn 0) S.2.1 9 sy1 wd1 (seqV1 qs))) + (nI (coC (tKn 1) S.2.2.1 8 sy2 wd2 (numF S.2.2.2.2.1 qs).1))) = nI (coC (tKn 0) S.2.1 9 sy1 wd1 (seqV1 qs) + coC (tKn 1) S.2.2.1 8 sy2 wd2 (numF S.2.2.2.2.1 qs).1) from nI_add (coC (tKn 0) S.2.1 9 sy1 wd1 (seqV1 qs)) (coC (tKn 1) S.2.2.1 8 sy2 wd2 (numF S.2.2.2.2.1 qs).1)]
  refine WX.s1 rfl rfl ?_
  refine WX.get1 (fs := [.ref 82, .ref 89, .ref 108, .ref 135, .ref 162, .ref 86, .ref 87, .int (nI qs.length), .ref 88]) rfl (by omega) (F_h116_81) rfl ?_
  refine WX.callC (vs := [.ref 162]) rfl rfl rfl (Nat.le_of_ble_eq_true rfl) (P_h116_g3.rcv (by omega)) ?_
  refine xk_choose (by omega) hnb (by decide) (by decide) (by decide) rfl sy3_lt (by rw [v3_len]; exact h2) wd3_16 (kn_ok (tb := 2) (by decide)) o4 P_h116_g3 (fun h124 fr124 P_h124_c3 => ?_)
  have F_h124_81 : h124 81 = .inr (6, [.ref 82, .ref 89, .ref 108, .ref 135, .ref 162, .ref 86, .ref 87, .int (nI qs.length), .ref 88]) := (fr124 _ (by omega)).trans F_h116_81
  have F_h124_82 : h124 82 = .inr (3, [.ref 83, .int (nI U), .ref 84, .ref 85, .int (nI way), .int (nI least), .int (nI win), .int (nI e), .int fle, .int fdi, .int fap, .int fal, .int fad]) := (fr124 _ (by omega)).trans F_h116_82
  have F_h124_83 : h124 83 = .inl (0, 16000, .inl dA) := (fr124 _ (by omega)).trans F_h116_83
  have F_h124_84 : h124 84 = .inl (1, 16000, .inl eA) := (fr124 _ (by omega)).trans F_h116_84
  have F_h124_85 : h124 85 = .inl (1, 4096, .inl hA) := (fr124 _ (by omega)).trans F_h116_85
  have F_h124_88 : h124 88 = .inl (1, 12, .inl g) := (fr124 _ (by omega)).trans F_h116_88
  have F_h124_89 : h124 89 = .inr (5, [.ref 90, .ref 91, .int (nI ls.length), .ref 92, .ref 96, .ref 100, .ref 67, .ref 106, .int ki, .int by_, .int sh, .int be]) := (fr124 _ (by omega)).trans F_h116_89
  have P_h124_l6 : LatA h124 86 S.2.2.2.2.1 := P_h116_l6.zfr fr124 (by omega)
  have P_h124_l7 : LatA h124 87 (numF S.2.2.2.2.1 qs).2 := P_h116_l7.zfr fr124 (by omega)
  have P_h124_li : LitA h124 ls := P_h116_li.zfr fr124 (by omega) (by omega)
  have P_h124_he : CoH h124 92 S.1 := P_h116_he.zfr fr124 (fun j h1 h2 => by omega)
  have P_h124_lr : LiR h124 ls rn := P_h116_lr.zfr fr124 (fun j h1 h2 => by omega)
  have P_h124_kn : KnX h124 := P_h116_kn.zfr fr124 (fun j h1 h2 => by omega)
  have P_h124_dx : DX h124 := P_h116_dx.zfr fr124 (fun j h1 h2 => by omega)
  have P_h124_row : RowIs h124 r RN bb 0 0 := P_h116_row.zfr fr124 (by omega) (by omega)
  have P_h124_c1 : CC1 h124 S.2.1 (seqV1 qs) := P_h116_c1.zfr fr124 (fun j h1 h2 => by omega) (by omega) (by omega)
  have P_h124_c2 : CC2 h124 S.2.2.1 (numF S.2.2.2.2.1 qs).1 := P_h116_c2.zfr fr124 (fun j h1 h2 => by omega) (by omega) (by omega)
  have FR_h124 : Fr h h124 (fun j => j = r ∨ j = r + 1 ∨ (67 ≤ j ∧ j ≤ 188)) := FR_h116.zsub fr124 (fun j hj => by omega)
  show WX _ _ _ 127 [(0, .ref 81), (1, .ref r), (2, .int (nI f)), (3, .int (nI e)), (4, .int (nI la)), (5, .int (nI (e - f))), (6, .int (nI la)), (7, .int (nI rn))] [.int (nI (coC (tKn 2) S.2.2.2.1 9 sy3 wd3 (seqV3 qs))), .int (nI (coC (tKn 0) S.2.1 9 sy1 wd1 (seqV1 qs) + coC (tKn 1) S.2.2.1 8 sy2 wd2 (numF S.2.2.2.2.1 qs).1))] (n, s, h124)
  refine WX.s1 (S' := [.int ((nI (coC (tKn 0) S.2.1 9 sy1 wd1 (seqV1 qs) + coC (tKn 1) S.2.2.1 8 sy2 wd2 (numF S.2.2.2.2.1 qs).1)) + (nI (coC (tKn 2) S.2.2.2.1 9 sy3 wd3 (seqV3 qs))))]) rfl rfl ?_
  rw [show ((nI (coC (tKn 0) S.2.1 9 sy1 wd1 (seqV1 qs) + coC (tKn 1) S.2.2.1 8 sy2 wd2 (numF S.2.2.2.2.1 qs).1)) + (nI (coC (tKn 2) S.2.2.2.1 9 sy3 wd3 (seqV3 qs)))) = nI (coC (tKn 0) S.2.1 9 sy1 wd1 (seqV1 qs) + coC (tKn 1) S.2.2.1 8 sy2 wd2 (numF S.2.2.2.2.1 qs).1 + coC (tKn 2) S.2.2.2.1 9 sy3 wd3 (seqV3 qs)) from nI_add (coC (tKn 0) S.2.1 9 sy1 wd1 (seqV1 qs) + coC (tKn 1) S.2.2.1 8 sy2 wd2 (numF S.2.2.2.2.1 qs).1) (coC (tKn 2) S.2.2.2.1 9 sy3 wd3 (seqV3 qs))]
  refine WX.s1 (L' := [(0, .ref 81), (1, .ref r), (2, .int (nI f)), (3, .int (nI e)), (4, .int (nI la)), (5, .int (nI (e - f))), (6, .int (nI la)), (7, .int (nI rn)), (8, .int (nI (coC (tKn 0) S.2.1 9 sy1 wd1 (seqV1 qs) + coC (tKn 1) S.2.2.1 8 sy2 wd2 (numF S.2.2.2.2.1 qs).1 + coC (tKn 2) S.2.2.2.1 9 sy3 wd3 (seqV3 qs))))]) rfl rfl ?_
  refine WX.s1 rfl rfl ?_
  refine WX.get1 (fs := [.ref 82, .ref 89, .ref 108, .ref 135, .ref 162, .ref 86, .ref 87, .int (nI qs.length), .ref 88]) rfl (by omega) (F_h124_81) rfl ?_
  refine WX.s1 rfl rfl ?_
  refine WX.callC (vs := [.ref 89, .int (nI rn)]) rfl rfl rfl (Nat.le_of_ble_eq_true rfl) (rcv_ok (by omega) F_h124_89) ?_
  refine xl_choose hn hls P_h124_li F_h124_89 P_h124_he P_h124_lr (fun h136 fr136 P_h136_ls => ?_)
  have F_h136_81 : h136 81 = .inr (6, [.ref 82, .ref 89, .ref 108, .ref 135, .ref 162, .ref 86, .ref 87, .int (nI qs.length), .ref 88]) := (fr136 _ (by omega)).trans F_h124_81
  have F_h136_82 : h136 82 = .inr (3, [.ref 83, .int (nI U), .ref 84, .ref 85, .int (nI way), .int (nI least), .int (nI win), .int (nI e), .int fle, .int fdi, .int fap, .int fal, .int fad]) := (fr136 _ (by omega)).trans F_h124_82
  have F_h136_83 : h136 83 = .inl (0, 16000, .inl dA) := (fr136 _ (by omega)).trans F_h124_83
  have F_h136_84 : h136 84 = .inl (1, 16000, .inl eA) := (fr136 _ (by omega)).trans F_h124_84
  have F_h136_85 : h136 85 = .inl (1, 4096, .inl hA) := (fr136 _ (by omega)).trans F_h124_85
  have F_h136_88 : h136 88 = .inl (1, 12, .inl g) := (fr136 _ (by omega)).trans F_h124_88
  have P_h136_l6 : LatA h136 86 S.2.2.2.2.1 := P_h124_l6.zfr fr136 (by omega)
  have P_h136_l7 : LatA h136 87 (numF S.2.2.2.2.1 qs).2 := P_h124_l7.zfr fr136 (by omega)
  have P_h136_li : LitA h136 ls := P_h124_li.zfr fr136 (by omega) (by omega)
  have P_h136_he : CoH h136 92 S.1 := P_h124_he.zfr fr136 (fun j h1 h2 => by omega)
  have P_h136_lr : LiR h136 ls rn := P_h124_lr.zfr fr136 (fun j h1 h2 => by omega)
  have P_h136_kn : KnX h136 := P_h124_kn.zfr fr136 (fun j h1 h2 => by omega)
  have P_h136_dx : DX h136 := P_h124_dx.zfr fr136 (fun j h1 h2 => by omega)
  have P_h136_row : RowIs h136 r RN bb 0 0 := P_h124_row.zfr fr136 (by omega) (by omega)
  have P_h136_c1 : CC1 h136 S.2.1 (seqV1 qs) := P_h124_c1.zfr fr136 (fun j h1 h2 => by omega) (by omega) (by omega)
  have P_h136_c2 : CC2 h136 S.2.2.1 (numF S.2.2.2.2.1 qs).1 := P_h124_c2.zfr fr136 (fun j h1 h2 => by omega) (by omega) (by omega)
  have P_h136_c3 : CC3 h136 S.2.2.2.1 (seqV3 qs) := P_h124_c3.zfr fr136 (fun j h1 h2 => by omega) (by omega) (by omega)
  have FR_h136 : Fr h h136 (fun j => j = r ∨ j = r + 1 ∨ (67 ≤ j ∧ j ≤ 188)) := FR_h124.zsub fr136 (fun j hj => by omega)
  show WX _ _ _ 139 [(0, .ref 81), (1, .ref r), (2, .int (nI f)), (3, .int (nI e)), (4, .int (nI la)), (5, .int (nI (e - f))), (6, .int (nI la)), (7, .int (nI rn)), (8, .int (nI (coC (tKn 0) S.2.1 9 sy1 wd1 (seqV1 qs) + coC (tKn 1) S.2.2.1 8 sy2 wd2 (numF S.2.2.2.2.1 qs).1 + coC (tKn 2) S.2.2.2.1 9 sy3 wd3 (seqV3 qs))))] [.int (nI (litF S.1 ls).2.1)] (n, s, h136)
  refine WX.s1 rfl rfl ?_
  refine WX.s1 rfl rfl ?_
  refine WX.callC (vs := [.ref 81, .int (nI (coC (tKn 0) S.2.1 9 sy1 wd1 (seqV1 qs) + coC (tKn 1) S.2.2.1 8 sy2 wd2 (numF S.2.2.2.2.1 qs).1 + coC (tKn 2) S.2.2.2.1 9 sy3 wd3 (seqV3 qs)))]) rfl rfl rfl (Nat.le_of_ble_eq_true rfl) (rcv_ok (by omega) F_h136_81) ?_
  refine xs_seqB hn hnb h2 hq o5 o2 o3 o4 F_h136_81 P_h136_c1 P_h136_c2 P_h136_c3 ?_
  show WX _ _ _ 145 [(0, .ref 81), (1, .ref r), (2, .int (nI f)), (3, .int (nI e)), (4, .int (nI la)), (5, .int (nI (e - f))), (6, .int (nI la)), (7, .int (nI rn)), (8, .int (nI (coC (tKn 0) S.2.1 9 sy1 wd1 (seqV1 qs) + coC (tKn 1) S.2.2.1 8 sy2 wd2 (numF S.2.2.2.2.1 qs).1 + coC (tKn 2) S.2.2.2.1 9 sy3 wd3 (seqV3 qs))))] [.int (nI (seY S.2.1 S.2.2.1 S.2.2.2.1 S.2.2.2.2.1 qs).length), .int (nI (litF S.1 ls).2.1)] (n, s, h136)
  refine WX.s1 (S' := [.int ((nI (litF S.1 ls).2.1) + (nI (seY S.2.1 S.2.2.1 S.2.2.2.1 S.2.2.2.2.1 qs).length))]) rfl rfl ?_
  rw [show nI (litF S.1 ls).2.1 + nI (seY S.2.1 S.2.2.1 S.2.2.2.1 S.2.2.2.2.1 qs).length = nI (blkP ls qs S).length from (nI_add _ _).trans (congrArg nI hbl)]
  refine WX.s1 (L' := [(0, .ref 81), (1, .ref r), (2, .int (nI f)), (3, .int (nI e)), (4, .int (nI la)), (5, .int (nI (e - f))), (6, .int (nI la)), (7, .int (nI rn)), (8, .int (nI (coC (tKn 0) S.2.1 9 sy1 wd1 (seqV1 qs) + coC (tKn 1) S.2.2.1 8 sy2 wd2 (numF S.2.2.2.2.1 qs).1 + coC (tKn 2) S.2.2.2.1 9 sy3 wd3 (seqV3 qs)))), (9, .int (nI (blkP ls qs S).length))]) rfl rfl ?_
  refine WX.s1 rfl rfl ?_
  refine WX.s1 rfl rfl ?_
  refine WX.icmp rfl (fun c_152 => ?_) (fun c_152 => ?_)
  · skip
    have n_152 : (e - f) ≤ ((blkP ls qs S).length) := (nI_leI (a := e - f) (b := (blkP ls qs S).length) (by omega) (by omega)).mp c_152
    refine WX.s1 rfl rfl ?_
    refine WX.s1 rfl rfl ?_
    refine WX.s1 rfl rfl ?_
    refine WX.s1 (S' := [.long ((nI (e - f)).toInt64), .long 8, .ref r]) rfl rfl ?_
    refine WX.s1 (S' := [.long (8 * ((nI (e - f)).toInt64)), .ref r]) rfl rfl ?_
    refine WX.s1 rfl rfl ?_
    refine WX.s1 (S' := [.long ((nI la).toInt64), .long (8 * ((nI (e - f)).toInt64)), .ref r]) rfl rfl ?_
    refine WX.s1 (S' := [.long ((8 * ((nI (e - f)).toInt64)) + ((nI la).toInt64)), .ref r]) rfl rfl ?_
    refine WX.s1 rfl rfl ?_
    rw [show ((8 * ((nI (e - f)).toInt64)) + ((nI la).toInt64)) = lN (8 * (e - f) + la) by rw [nI_l (n := e - f) (by omega), nI_l (n := la) (by omega), show (8 : Int64) = lN 8 from rfl, lN_mul, lN_add]]
    refine WX.callC (vs := [.ref r, .long (lN (8 * (e - f) + la)), .int (nI 3)]) rfl rfl rfl (Nat.le_of_ble_eq_true rfl) (P_h136_row.rcv (by omega)) ?_
    refine w_putNumber (by omega) P_h136_row hRN (by decide) (fun h208 fr208 P_h208_row => ?_)
    have F_h208_81 : h208 81 = .inr (6, [.ref 82, .ref 89, .ref 108, .ref 135, .ref 162, .ref 86, .ref 87, .int (nI qs.length), .ref 88]) := (fr208 _ (by omega)).trans F_h136_81
    have F_h208_82 : h208 82 = .inr (3, [.ref 83, .int (nI U), .ref 84, .ref 85, .int (nI way), .int (nI least), .int (nI win), .int (nI e), .int fle, .int fdi, .int fap, .int fal, .int fad]) := (fr208 _ (by omega)).trans F_h136_82
    have F_h208_83 : h208 83 = .inl (0, 16000, .inl dA) := (fr208 _ (by omega)).trans F_h136_83
    have F_h208_84 : h208 84 = .inl (1, 16000, .inl eA) := (fr208 _ (by omega)).trans F_h136_84
    have F_h208_85 : h208 85 = .inl (1, 4096, .inl hA) := (fr208 _ (by omega)).trans F_h136_85
    have F_h208_88 : h208 88 = .inl (1, 12, .inl g) := (fr208 _ (by omega)).trans F_h136_88
    have P_h208_l6 : LatA h208 86 S.2.2.2.2.1 := P_h136_l6.zfr fr208 (by omega)
    have P_h208_l7 : LatA h208 87 (numF S.2.2.2.2.1 qs).2 := P_h136_l7.zfr fr208 (by omega)
    have P_h208_li : LitA h208 ls := P_h136_li.zfr fr208 (by omega) (by omega)
    have P_h208_he : CoH h208 92 S.1 := P_h136_he.zfr fr208 (fun j h1 h2 => by omega)
    have P_h208_lr : LiR h208 ls rn := P_h136_lr.zfr fr208 (fun j h1 h2 => by omega)
    have P_h208_kn : KnX h208 := P_h136_kn.zfr fr208 (fun j h1 h2 => by omega)
    have P_h208_dx : DX h208 := P_h136_dx.zfr fr208 (fun j h1 h2 => by omega)
    have P_h208_c1 : CC1 h208 S.2.1 (seqV1 qs) := P_h136_c1.zfr fr208 (fun j h1 h2 => by omega) (by omega) (by omega)
    have P_h208_c2 : CC2 h208 S.2.2.1 (numF S.2.2.2.2.1 qs).1 := P_h136_c2.zfr fr208 (fun j h1 h2 => by omega) (by omega) (by omega)
    have P_h208_c3 : CC3 h208 S.2.2.2.1 (seqV3 qs) := P_h136_c3.zfr fr208 (fun j h1 h2 => by omega) (by omega) (by omega)
    have P_h208_ls : LiS h208 ls (litF S.1 ls) := P_h136_ls.zfr fr208 (by omega)
    have FR_h208 : Fr h h208 (fun j => j = r ∨ j = r + 1 ∨ (67 ≤ j ∧ j ≤ 188)) := FR_h136.zsub fr208 (fun j hj => by omega)
    show WX _ _ _ 211 [(0, .ref 81), (1, .ref r), (2, .int (nI f)), (3, .int (nI e)), (4, .int (nI la)), (5, .int (nI (e - f))), (6, .int (nI la)), (7, .int (nI rn)), (8, .int (nI (coC (tKn 0) S.2.1 9 sy1 wd1 (seqV1 qs) + coC (tKn 1) S.2.2.1 8 sy2 wd2 (numF S.2.2.2.2.1 qs).1 + coC (tKn 2) S.2.2.2.1 9 sy3 wd3 (seqV3 qs)))), (9, .int (nI (blkP ls qs S).length))] [] (n, s, h208)
    rw [leL_lN (by omega)] at P_h208_row
    refine WX.s1 rfl rfl ?_
    refine WX.get1 (fs := [.ref 82, .ref 89, .ref 108, .ref 135, .ref 162, .ref 86, .ref 87, .int (nI qs.length), .ref 88]) rfl (by omega) (F_h208_81) rfl ?_
    refine WX.s1 rfl rfl ?_
    refine WX.s1 rfl rfl ?_
    refine WX.s1 rfl rfl ?_
    refine WX.callC (vs := [.ref 82, .ref r, .int (nI f), .int (nI e)]) rfl rfl rfl (Nat.le_of_ble_eq_true rfl) (rcv_ok (by omega) F_h208_82) ?_
    refine x_putTo hn hD hU hf he hr hRN F_h208_82 F_h208_83 P_h208_row (fun h218 fr218 P_h218_row => ?_)
    have F_h218_81 : h218 81 = .inr (6, [.ref 82, .ref 89, .ref 108, .ref 135, .ref 162, .ref 86, .ref 87, .int (nI qs.length), .ref 88]) := (fr218 _ (by omega)).trans F_h208_81
    have F_h218_82 : h218 82 = .inr (3, [.ref 83, .int (nI U), .ref 84, .ref 85, .int (nI way), .int (nI least), .int (nI win), .int (nI e), .int fle, .int fdi, .int fap, .int fal, .int fad]) := (fr218 _ (by omega)).trans F_h208_82
    have F_h218_83 : h218 83 = .inl (0, 16000, .inl dA) := (fr218 _ (by omega)).trans F_h208_83
    have F_h218_84 : h218 84 = .inl (1, 16000, .inl eA) := (fr218 _ (by omega)).trans F_h208_84
    have F_h218_85 : h218 85 = .inl (1, 4096, .inl hA) := (fr218 _ (by omega)).trans F_h208_85
    have F_h218_88 : h218 88 = .inl (1, 12, .inl g) := (fr218 _ (by omega)).trans F_h208_88
    have P_h218_l6 : LatA h218 86 S.2.2.2.2.1 := P_h208_l6.zfr fr218 (by omega)
    have P_h218_l7 : LatA h218 87 (numF S.2.2.2.2.1 qs).2 := P_h208_l7.zfr fr218 (by omega)
    have P_h218_li : LitA h218 ls := P_h208_li.zfr fr218 (by omega) (by omega)
    have P_h218_he : CoH h218 92 S.1 := P_h208_he.zfr fr218 (fun j h1 h2 => by omega)
    have P_h218_lr : LiR h218 ls rn := P_h208_lr.zfr fr218 (fun j h1 h2 => by omega)
    have P_h218_kn : KnX h218 := P_h208_kn.zfr fr218 (fun j h1 h2 => by omega)
    have P_h218_dx : DX h218 := P_h208_dx.zfr fr218 (fun j h1 h2 => by omega)
    have P_h218_c1 : CC1 h218 S.2.1 (seqV1 qs) := P_h208_c1.zfr fr218 (fun j h1 h2 => by omega) (by omega) (by omega)
    have P_h218_c2 : CC2 h218 S.2.2.1 (numF S.2.2.2.2.1 qs).1 := P_h208_c2.zfr fr218 (fun j h1 h2 => by omega) (by omega) (by omega)
    have P_h218_c3 : CC3 h218 S.2.2.2.1 (seqV3 qs) := P_h208_c3.zfr fr218 (fun j h1 h2 => by omega) (by omega) (by omega)
    have P_h218_ls : LiS h218 ls (litF S.1 ls) := P_h208_ls.zfr fr218 (by omega)
    have FR_h218 : Fr h h218 (fun j => j = r ∨ j = r + 1 ∨ (67 ≤ j ∧ j ≤ 188)) := FR_h208.zsub fr218 (fun j hj => by omega)
    show WX _ _ _ 221 [(0, .ref 81), (1, .ref r), (2, .int (nI f)), (3, .int (nI e)), (4, .int (nI la)), (5, .int (nI (e - f))), (6, .int (nI la)), (7, .int (nI rn)), (8, .int (nI (coC (tKn 0) S.2.1 9 sy1 wd1 (seqV1 qs) + coC (tKn 1) S.2.2.1 8 sy2 wd2 (numF S.2.2.2.2.1 qs).1 + coC (tKn 2) S.2.2.2.1 9 sy3 wd3 (seqV3 qs)))), (9, .int (nI (blkP ls qs S).length))] [] (n, s, h218)
    refine WX.s1 rfl rfl ?_
    refine WX.get1 (fs := [.ref 82, .ref 89, .ref 108, .ref 135, .ref 162, .ref 86, .ref 87, .int (nI qs.length), .ref 88]) rfl (by omega) (F_h218_81) rfl ?_
    refine WX.s1 rfl rfl ?_
    refine WX.s1 rfl rfl ?_
    refine WX.iald1 rfl (Or.inl (by omega)) (F_h218_88) (by unfold vp_in; decide) ?_
    rw [show (0 : Int32).toNatClampNeg = 0 from rfl, hg 0 (by decide)]
    refine WX.s1 rfl rfl ?_
    refine WX.s1 (S' := [.int ((nI (S.2.2.2.2.2 0)) + 1), .int 0, .ref 88]) rfl rfl ?_
    rw [show ((nI (S.2.2.2.2.2 0)) + 1) = nI (S.2.2.2.2.2 0 + 1) from nI_add (S.2.2.2.2.2 0) 1]
    refine WX.iastN rfl (by omega) (F_h218_88) (by unfold vp_in; decide) (fun g230 h230 e_g230 e_h230 => ?_)
    try dsimp only at e_g230
    have F_h230_81 : h230 81 = .inr (6, [.ref 82, .ref 89, .ref 108, .ref 135, .ref 162, .ref 86, .ref 87, .int (nI qs.length), .ref 88]) := by rw [e_h230, va_up_neq (by decide)]; exact F_h218_81
    have F_h230_82 : h230 82 = .inr (3, [.ref 83, .int (nI U), .ref 84, .ref 85, .int (nI way), .int (nI least), .int (nI win), .int (nI e), .int fle, .int fdi, .int fap, .int fal, .int fad]) := by rw [e_h230, va_up_neq (by decide)]; exact F_h218_82
    have F_h230_83 : h230 83 = .inl (0, 16000, .inl dA) := by rw [e_h230, va_up_neq (by decide)]; exact F_h218_83
    have F_h230_84 : h230 84 = .inl (1, 16000, .inl eA) := by rw [e_h230, va_up_neq (by decide)]; exact F_h218_84
    have F_h230_85 : h230 85 = .inl (1, 4096, .inl hA) := by rw [e_h230, va_up_neq (by decide)]; exact F_h218_85
    have F_h230_88 : h230 88 = .inl (1, 12, .inl g230) := by rw [e_h230]; exact va_up_eq
    have P_h230_l6 : LatA h230 86 S.2.2.2.2.1 := P_h218_l6.zfr (Fr.of e_h230) (by omega)
    have P_h230_l7 : LatA h230 87 (numF S.2.2.2.2.1 qs).2 := P_h218_l7.zfr (Fr.of e_h230) (by omega)
    have P_h230_li : LitA h230 ls := P_h218_li.zfr (Fr.of e_h230) (by omega) (by omega)
    have P_h230_he : CoH h230 92 S.1 := P_h218_he.zfr (Fr.of e_h230) (fun j h1 h2 => by omega)
    have P_h230_lr : LiR h230 ls rn := P_h218_lr.zfr (Fr.of e_h230) (fun j h1 h2 => by omega)
    have P_h230_kn : KnX h230 := P_h218_kn.zfr (Fr.of e_h230) (fun j h1 h2 => by omega)
    have P_h230_dx : DX h230 := P_h218_dx.zfr (Fr.of e_h230) (fun j h1 h2 => by omega)
    have P_h230_row : RowIs h230 r RN (bputs RN (bputs RN bb (leBy (8 * (e - f) + la) 3)) ((List.range (e - f)).map (fun i => D (f + i)))) 0 0 := P_h218_row.zfr (Fr.of e_h230) (by omega) (by omega)
    have P_h230_c1 : CC1 h230 S.2.1 (seqV1 qs) := P_h218_c1.zfr (Fr.of e_h230) (fun j h1 h2 => by omega) (by omega) (by omega)
    have P_h230_c2 : CC2 h230 S.2.2.1 (numF S.2.2.2.2.1 qs).1 := P_h218_c2.zfr (Fr.of e_h230) (fun j h1 h2 => by omega) (by omega) (by omega)
    have P_h230_c3 : CC3 h230 S.2.2.2.1 (seqV3 qs) := P_h218_c3.zfr (Fr.of e_h230) (fun j h1 h2 => by omega) (by omega) (by omega)
    have P_h230_ls : LiS h230 ls (litF S.1 ls) := P_h218_ls.zfr (Fr.of e_h230) (by omega)
    have FR_h230 : Fr h h230 (fun j => j = r ∨ j = r + 1 ∨ (67 ≤ j ∧ j ≤ 188)) := FR_h218.zup e_h230 (by first | exact rfl | exact Or.inl rfl | exact Or.inr rfl | exact ⟨by decide, by decide⟩ | decide | omega)
    clear F_h218_81 F_h218_82 F_h218_83 F_h218_84 F_h218_85 F_h218_88 P_h218_l6 P_h218_l7 P_h218_li P_h218_he P_h218_lr P_h218_kn P_h218_dx P_h218_row P_h218_c1 P_h218_c2 P_h218_c3 P_h218_ls FR_h218 e_h230
    have tl9 : TlA h230 (ntAt S.2.2.2.2.2 0 1) := ⟨g230, F_h230_88, tl_up hg e_g230 rfl⟩
    exact WX.ret0 rfl (kk2 n_152 h230 FR_h230 ⟨⟨_, F_h230_81⟩, P_h230_l7.toX, P_h230_l6, tl9, ⟨_, fle, fdi, fap, fal, fad, dA, eA, hA, F_h230_82, F_h230_83, F_h230_84, F_h230_85, hD, hCh⟩, LiX.mk2 P_h230_ls P_h230_li P_h230_he P_h230_lr P_h230_kn, P_h230_dx, P_h230_c1.1.toX, P_h230_c2.1.toX, P_h230_c3.1.toX⟩ (by rw [bputs_app]; exact P_h230_row))
  · skip
    have n_152 : ((blkP ls qs S).length) < (e - f) := Nat.lt_of_not_le (fun zz_ => c_152 ((nI_leI (a := e - f) (b := (blkP ls qs S).length) (by omega) (by omega)).mpr zz_))
    refine WX.s1 rfl rfl ?_
    refine WX.s1 rfl rfl ?_
    refine WX.s1 rfl rfl ?_
    refine WX.s1 (S' := [.long ((nI (blkP ls qs S).length).toInt64), .long 8, .ref r]) rfl rfl ?_
    refine WX.s1 (S' := [.long (8 * ((nI (blkP ls qs S).length).toInt64)), .ref r]) rfl rfl ?_
    refine WX.s1 rfl rfl ?_
    refine WX.s1 (S' := [.long ((8 * ((nI (blkP ls qs S).length).toInt64)) + 4), .ref r]) rfl rfl ?_
    refine WX.s1 rfl rfl ?_
    refine WX.s1 (S' := [.long ((nI la).toInt64), .long ((8 * ((nI (blkP ls qs S).length).toInt64)) + 4), .ref r]) rfl rfl ?_
    refine WX.s1 (S' := [.long (((8 * ((nI (blkP ls qs S).length).toInt64)) + 4) + ((nI la).toInt64)), .ref r]) rfl rfl ?_
    refine WX.s1 rfl rfl ?_
    rw [show (((8 * ((nI (blkP ls qs S).length).toInt64)) + 4) + ((nI la).toInt64)) = lN (8 * (blkP ls qs S).length + 4 + la) by rw [nI_l (n := (blkP ls qs S).length) (by omega), nI_l (n := la) (by omega), show (8 : Int64) = lN 8 from rfl, show (4 : Int64) = lN 4 from rfl, lN_mul, lN_add, lN_add]]
    refine WX.callC (vs := [.ref r, .long (lN (8 * (blkP ls qs S).length + 4 + la)), .int (nI 3)]) rfl rfl rfl (Nat.le_of_ble_eq_true rfl) (P_h136_row.rcv (by omega)) ?_
    refine w_putNumber (by omega) P_h136_row hRN (by decide) (fun h172 fr172 P_h172_row => ?_)
    have F_h172_81 : h172 81 = .inr (6, [.ref 82, .ref 89, .ref 108, .ref 135, .ref 162, .ref 86, .ref 87, .int (nI qs.length), .ref 88]) := (fr172 _ (by omega)).trans F_h136_81
    have F_h172_82 : h172 82 = .inr (3, [.ref 83, .int (nI U), .ref 84, .ref 85, .int (nI way), .int (nI least), .int (nI win), .int (nI e), .int fle, .int fdi, .int fap, .int fal, .int fad]) := (fr172 _ (by omega)).trans F_h136_82
    have F_h172_83 : h172 83 = .inl (0, 16000, .inl dA) := (fr172 _ (by omega)).trans F_h136_83
    have F_h172_84 : h172 84 = .inl (1, 16000, .inl eA) := (fr172 _ (by omega)).trans F_h136_84
    have F_h172_85 : h172 85 = .inl (1, 4096, .inl hA) := (fr172 _ (by omega)).trans F_h136_85
    have F_h172_88 : h172 88 = .inl (1, 12, .inl g) := (fr172 _ (by omega)).trans F_h136_88
    have P_h172_l6 : LatA h172 86 S.2.2.2.2.1 := P_h136_l6.zfr fr172 (by omega)
    have P_h172_l7 : LatA h172 87 (numF S.2.2.2.2.1 qs).2 := P_h136_l7.zfr fr172 (by omega)
    have P_h172_li : LitA h172 ls := P_h136_li.zfr fr172 (by omega) (by omega)
    have P_h172_he : CoH h172 92 S.1 := P_h136_he.zfr fr172 (fun j h1 h2 => by omega)
    have P_h172_lr : LiR h172 ls rn := P_h136_lr.zfr fr172 (fun j h1 h2 => by omega)
    have P_h172_kn : KnX h172 := P_h136_kn.zfr fr172 (fun j h1 h2 => by omega)
    have P_h172_dx : DX h172 := P_h136_dx.zfr fr172 (fun j h1 h2 => by omega)
    have P_h172_c1 : CC1 h172 S.2.1 (seqV1 qs) := P_h136_c1.zfr fr172 (fun j h1 h2 => by omega) (by omega) (by omega)
    have P_h172_c2 : CC2 h172 S.2.2.1 (numF S.2.2.2.2.1 qs).1 := P_h136_c2.zfr fr172 (fun j h1 h2 => by omega) (by omega) (by omega)
    have P_h172_c3 : CC3 h172 S.2.2.2.1 (seqV3 qs) := P_h136_c3.zfr fr172 (fun j h1 h2 => by omega) (by omega) (by omega)
    have P_h172_ls : LiS h172 ls (litF S.1 ls) := P_h136_ls.zfr fr172 (by omega)
    have FR_h172 : Fr h h172 (fun j => j = r ∨ j = r + 1 ∨ (67 ≤ j ∧ j ≤ 188)) := FR_h136.zsub fr172 (fun j hj => by omega)
    show WX _ _ _ 175 [(0, .ref 81), (1, .ref r), (2, .int (nI f)), (3, .int (nI e)), (4, .int (nI la)), (5, .int (nI (e - f))), (6, .int (nI la)), (7, .int (nI rn)), (8, .int (nI (coC (tKn 0) S.2.1 9 sy1 wd1 (seqV1 qs) + coC (tKn 1) S.2.2.1 8 sy2 wd2 (numF S.2.2.2.2.1 qs).1 + coC (tKn 2) S.2.2.2.1 9 sy3 wd3 (seqV3 qs)))), (9, .int (nI (blkP ls qs S).length))] [] (n, s, h172)
    rw [leL_lN (by omega)] at P_h172_row
    refine WX.s1 rfl rfl ?_
    refine WX.get1 (fs := [.ref 82, .ref 89, .ref 108, .ref 135, .ref 162, .ref 86, .ref 87, .int (nI qs.length), .ref 88]) rfl (by omega) (F_h172_81) rfl ?_
    refine WX.s1 rfl rfl ?_
    refine WX.callC (vs := [.ref 89, .ref r]) rfl rfl rfl (Nat.le_of_ble_eq_true rfl) (P_h172_ls.rcv (by omega)) ?_
    refine xl_put hn hr hRN hls P_h172_li P_h172_ls P_h172_he P_h172_lr P_h172_row (fun h180 fr180 P_h180_row => ?_)
    have F_h180_81 : h180 81 = .inr (6, [.ref 82, .ref 89, .ref 108, .ref 135, .ref 162, .ref 86, .ref 87, .int (nI qs.length), .ref 88]) := (fr180 _ (by omega)).trans F_h172_81
    have F_h180_82 : h180 82 = .inr (3, [.ref 83, .int (nI U), .ref 84, .ref 85, .int (nI way), .int (nI least), .int (nI win), .int (nI e), .int fle, .int fdi, .int fap, .int fal, .int fad]) := (fr180 _ (by omega)).trans F_h172_82
    have F_h180_83 : h180 83 = .inl (0, 16000, .inl dA) := (fr180 _ (by omega)).trans F_h172_83
    have F_h180_84 : h180 84 = .inl (1, 16000, .inl eA) := (fr180 _ (by omega)).trans F_h172_84
    have F_h180_85 : h180 85 = .inl (1, 4096, .inl hA) := (fr180 _ (by omega)).trans F_h172_85
    have F_h180_88 : h180 88 = .inl (1, 12, .inl g) := (fr180 _ (by omega)).trans F_h172_88
    have P_h180_l6 : LatA h180 86 S.2.2.2.2.1 := P_h172_l6.zfr fr180 (by omega)
    have P_h180_l7 : LatA h180 87 (numF S.2.2.2.2.1 qs).2 := P_h172_l7.zfr fr180 (by omega)
    have P_h180_li : LitA h180 ls := P_h172_li.zfr fr180 (by omega) (by omega)
    have P_h180_he : CoH h180 92 S.1 := P_h172_he.zfr fr180 (fun j h1 h2 => by omega)
    have P_h180_lr : LiR h180 ls rn := P_h172_lr.zfr fr180 (fun j h1 h2 => by omega)
    have P_h180_kn : KnX h180 := P_h172_kn.zfr fr180 (fun j h1 h2 => by omega)
    have P_h180_dx : DX h180 := P_h172_dx.zfr fr180 (fun j h1 h2 => by omega)
    have P_h180_c1 : CC1 h180 S.2.1 (seqV1 qs) := P_h172_c1.zfr fr180 (fun j h1 h2 => by omega) (by omega) (by omega)
    have P_h180_c2 : CC2 h180 S.2.2.1 (numF S.2.2.2.2.1 qs).1 := P_h172_c2.zfr fr180 (fun j h1 h2 => by omega) (by omega) (by omega)
    have P_h180_c3 : CC3 h180 S.2.2.2.1 (seqV3 qs) := P_h172_c3.zfr fr180 (fun j h1 h2 => by omega) (by omega) (by omega)
    have P_h180_ls : LiS h180 ls (litF S.1 ls) := P_h172_ls.zfr fr180 (by omega)
    have FR_h180 : Fr h h180 (fun j => j = r ∨ j = r + 1 ∨ (67 ≤ j ∧ j ≤ 188)) := FR_h172.zsub fr180 (fun j hj => by omega)
    show WX _ _ _ 183 [(0, .ref 81), (1, .ref r), (2, .int (nI f)), (3, .int (nI e)), (4, .int (nI la)), (5, .int (nI (e - f))), (6, .int (nI la)), (7, .int (nI rn)), (8, .int (nI (coC (tKn 0) S.2.1 9 sy1 wd1 (seqV1 qs) + coC (tKn 1) S.2.2.1 8 sy2 wd2 (numF S.2.2.2.2.1 qs).1 + coC (tKn 2) S.2.2.2.1 9 sy3 wd3 (seqV3 qs)))), (9, .int (nI (blkP ls qs S).length))] [] (n, s, h180)
    refine WX.s1 rfl rfl ?_
    refine WX.s1 rfl rfl ?_
    refine WX.callC (vs := [.ref 81, .ref r]) rfl rfl rfl (Nat.le_of_ble_eq_true rfl) (rcv_ok (by omega) F_h180_81) ?_
    refine xs_put hn hnb hr hRN h2 hq o5 o2 o3 o4 F_h180_81 P_h180_c1 P_h180_c2 P_h180_c3 P_h180_row (fun h185 fr185 P_h185_row P_h185_c1 P_h185_c2 P_h185_c3 => ?_)
    have F_h185_81 : h185 81 = .inr (6, [.ref 82, .ref 89, .ref 108, .ref 135, .ref 162, .ref 86, .ref 87, .int (nI qs.length), .ref 88]) := (fr185 _ (by omega)).trans F_h180_81
    have F_h185_82 : h185 82 = .inr (3, [.ref 83, .int (nI U), .ref 84, .ref 85, .int (nI way), .int (nI least), .int (nI win), .int (nI e), .int fle, .int fdi, .int fap, .int fal, .int fad]) := (fr185 _ (by omega)).trans F_h180_82
    have F_h185_83 : h185 83 = .inl (0, 16000, .inl dA) := (fr185 _ (by omega)).trans F_h180_83
    have F_h185_84 : h185 84 = .inl (1, 16000, .inl eA) := (fr185 _ (by omega)).trans F_h180_84
    have F_h185_85 : h185 85 = .inl (1, 4096, .inl hA) := (fr185 _ (by omega)).trans F_h180_85
    have F_h185_88 : h185 88 = .inl (1, 12, .inl g) := (fr185 _ (by omega)).trans F_h180_88
    have P_h185_l6 : LatA h185 86 S.2.2.2.2.1 := P_h180_l6.zfr fr185 (by omega)
    have P_h185_l7 : LatA h185 87 (numF S.2.2.2.2.1 qs).2 := P_h180_l7.zfr fr185 (by omega)
    have P_h185_li : LitA h185 ls := P_h180_li.zfr fr185 (by omega) (by omega)
    have P_h185_he : CoH h185 92 S.1 := P_h180_he.zfr fr185 (fun j h1 h2 => by omega)
    have P_h185_lr : LiR h185 ls rn := P_h180_lr.zfr fr185 (fun j h1 h2 => by omega)
    have P_h185_kn : KnX h185 := P_h180_kn.zfr fr185 (fun j h1 h2 => by omega)
    have P_h185_dx : DX h185 := P_h180_dx.zfr fr185 (fun j h1 h2 => by omega)
    have P_h185_ls : LiS h185 ls (litF S.1 ls) := P_h180_ls.zfr fr185 (by omega)
    have FR_h185 : Fr h h185 (fun j => j = r ∨ j = r + 1 ∨ (67 ≤ j ∧ j ≤ 188)) := FR_h180.zsub fr185 (fun j hj => by omega)
    show WX _ _ _ 188 [(0, .ref 81), (1, .ref r), (2, .int (nI f)), (3, .int (nI e)), (4, .int (nI la)), (5, .int (nI (e - f))), (6, .int (nI la)), (7, .int (nI rn)), (8, .int (nI (coC (tKn 0) S.2.1 9 sy1 wd1 (seqV1 qs) + coC (tKn 1) S.2.2.1 8 sy2 wd2 (numF S.2.2.2.2.1 qs).1 + coC (tKn 2) S.2.2.2.1 9 sy3 wd3 (seqV3 qs)))), (9, .int (nI (blkP ls qs S).length))] [] (n, s, h185)
    refine WX.s1 rfl rfl ?_
    refine WX.callC (vs := [.ref 81]) rfl rfl rfl (Nat.le_of_ble_eq_true rfl) (rcv_ok (by omega) F_h185_81) ?_
    refine xs_keep (S := S) hn h2 hq hOk hls P_h185_ls P_h185_he P_h185_lr F_h185_81 P_h185_l6 P_h185_l7 ⟨g, F_h185_88, hg⟩ P_h185_c1 P_h185_c2 P_h185_c3 (fun h189 fr189 P_h189_l6 P_h189_he P_h189_tl P_h189_x1 P_h189_x2 P_h189_x3 => ?_)
    have F_h189_81 : h189 81 = .inr (6, [.ref 82, .ref 89, .ref 108, .ref 135, .ref 162, .ref 86, .ref 87, .int (nI qs.length), .ref 88]) := (fr189 _ (by omega)).trans F_h185_81
    have F_h189_82 : h189 82 = .inr (3, [.ref 83, .int (nI U), .ref 84, .ref 85, .int (nI way), .int (nI least), .int (nI win), .int (nI e), .int fle, .int fdi, .int fap, .int fal, .int fad]) := (fr189 _ (by omega)).trans F_h185_82
    have F_h189_83 : h189 83 = .inl (0, 16000, .inl dA) := (fr189 _ (by omega)).trans F_h185_83
    have F_h189_84 : h189 84 = .inl (1, 16000, .inl eA) := (fr189 _ (by omega)).trans F_h185_84
    have F_h189_85 : h189 85 = .inl (1, 4096, .inl hA) := (fr189 _ (by omega)).trans F_h185_85
    have P_h189_l7 : LatA h189 87 (numF S.2.2.2.2.1 qs).2 := P_h185_l7.zfr fr189 (by omega)
    have P_h189_li : LitA h189 ls := P_h185_li.zfr fr189 (by omega) (by omega)
    have P_h189_lr : LiR h189 ls rn := P_h185_lr.zfr fr189 (fun j h1 h2 => by omega)
    have P_h189_kn : KnX h189 := P_h185_kn.zfr fr189 (fun j h1 h2 => by omega)
    have P_h189_dx : DX h189 := P_h185_dx.zfr fr189 (fun j h1 h2 => by omega)
    have P_h189_row : RowIs h189 r RN (bputs RN (bputs RN (bputs RN bb (leBy (8 * (blkP ls qs S).length + 4 + la) 3)) (litY S.1 ls)) (seY S.2.1 S.2.2.1 S.2.2.2.1 S.2.2.2.2.1 qs)) 0 0 := P_h185_row.zfr fr189 (by omega) (by omega)
    have P_h189_ls : LiS h189 ls (litF S.1 ls) := P_h185_ls.zfr fr189 (by omega)
    have FR_h189 : Fr h h189 (fun j => j = r ∨ j = r + 1 ∨ (67 ≤ j ∧ j ≤ 188)) := FR_h185.zsub fr189 (fun j hj => by omega)
    show WX _ _ _ 192 [(0, .ref 81), (1, .ref r), (2, .int (nI f)), (3, .int (nI e)), (4, .int (nI la)), (5, .int (nI (e - f))), (6, .int (nI la)), (7, .int (nI rn)), (8, .int (nI (coC (tKn 0) S.2.1 9 sy1 wd1 (seqV1 qs) + coC (tKn 1) S.2.2.1 8 sy2 wd2 (numF S.2.2.2.2.1 qs).1 + coC (tKn 2) S.2.2.2.1 9 sy3 wd3 (seqV3 qs)))), (9, .int (nI (blkP ls qs S).length))] [] (n, s, h189)
    refine WX.s1 rfl rfl ?_
    exact WX.ret0 rfl (kk1 n_152 h189 FR_h189 ⟨⟨_, F_h189_81⟩, P_h189_l7.toX, P_h189_l6, P_h189_tl, ⟨_, fle, fdi, fap, fal, fad, dA, eA, hA, F_h189_82, F_h189_83, F_h189_84, F_h189_85, hD, hCh⟩, LiX.mk2 P_h189_ls P_h189_li P_h189_he P_h189_lr P_h189_kn, P_h189_dx, P_h189_x1, P_h189_x2, P_h189_x3⟩ (by unfold blkP; rw [bputs_app, bputs_app]; exact P_h189_row))
