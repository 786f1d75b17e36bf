/-! make of the class: the whole call -/
set_option maxRecDepth 20000 in
theorem x_mk0 {d n s : Nat} {h : Nat → aE} {ou ne sta dra id way least : Nat} {l lo ld : List Nat} {T : PkS} {ab : Nat → Nat} {mi : Int32} {S : PkS} {b0 : Option (List Nat)} {ho0 : Int64} {hd0 : Int32} (hn : 190 ≤ n) (hnb : n < aBig) (hno : (ou = 3 ∧ ne = 5) ∨ (ou = 5 ∧ ne = 3)) (hsd : (sta = 9 ∧ dra = 38) ∨ (sta = 38 ∧ dra = 9)) (hw : way ≤ 3) (hl3 : 3 ≤ least) (hl8 : least ≤ 8) (F_h_0 : h 0 = .inr (10, [.ref 1, .ref ou, .ref ne, .ref 7, .long (lN id), .ref sta, .ref dra, .ref 67, .ref 81, .ref 189, .int (nI way), .int (nI least)])) (F_h_1 : h 1 = .inr (7, [.ref 2, .int (nI (l).length), .int 0, .long 0, .int 0])) (P_h_in : RowIs h 1 8000 (some l) 0 0) (P_h_co : RowIs h 7 8000 (some ld) 0 0) (P_h_st : StX h sta T) (P_h_dr : StZ h dra) (P_h_ou : RowIs h ou 12000 (some lo) 0 0) (P_h_ab : AbA h ab) (P_h_nx : RowIs h ne 12000 b0 ho0 hd0) (P_h_pk : PkY h S) {Ψ : Option Value → aH → Prop} (k0 : ∀ h' r, MkR mi way least l r → (r = none ∨ ∃ b, r = some b ∧ 12000 < (b).length) → Fr h h' (fun j => j ≤ 188) → SPY h' ou ne sta dra id way least l lo ld T ab → Ψ (some (.int (-1))) (n, s, h')) (k1 : ∀ h' b, MkR mi way least l (some b) → (b).length ≤ 12000 → Fr h h' (fun j => j ≤ 188) → SPY h' ne ou sta dra id way least l b ld T ab → Ψ (some (.int (nI (b).length))) (n, s, h')) : WO (mM (d + 8)) 132 [.ref 0, .int mi] (n, s, h) Ψ := by
  refine WO.of (Nat.le_of_ble_eq_true rfl) ?_
  have FR_h : Fr h h (fun j => j ≤ 188) := Fr.rf
  have hle := row_le P_h_in
  show WX (lk tX11_make) (mM (d + 7)) Ψ 0 [(0, .ref 0), (1, .int mi)] [] (n, s, h)
  refine WX.s1 rfl rfl ?_
  refine WX.get1 (fs := [.ref 1, .ref ou, .ref ne, .ref 7, .long (lN id), .ref sta, .ref dra, .ref 67, .ref 81, .ref 189, .int (nI way), .int (nI least)]) rfl (by omega) (F_h_0) rfl ?_
  refine WX.get1 (fs := [.ref 2, .int (nI (l).length), .int 0, .long 0, .int 0]) rfl (by omega) (F_h_1) rfl ?_
  refine WX.s1 rfl rfl ?_
  refine WX.icmp rfl (fun c_9 => ?_) (fun c_9 => ?_)
  · skip
    have n_9 : 8 ≤ (l).length := (nI_leI (a := 8) (b := (l).length) (by omega) (by omega)).mp c_9
    refine WX.s1 rfl rfl ?_
    refine WX.get1 (fs := [.ref 1, .ref ou, .ref ne, .ref 7, .long (lN id), .ref sta, .ref dra, .ref 67, .ref 81, .ref 189, .int (nI way), .int (nI least)]) rfl (by omega) (F_h_0) rfl ?_
    refine WX.callC (vs := [.ref dra]) rfl rfl rfl (Nat.le_of_ble_eq_true rfl) ((P_h_dr).rcv (by omega)) ?_
    refine x_empty (d := d + 6) hn (by omega) P_h_dr (fun h18 fr18 P_h18_dr => ?_)
    have F_h18_0 : h18 0 = .inr (10, [.ref 1, .ref ou, .ref ne, .ref 7, .long (lN id), .ref sta, .ref dra, .ref 67, .ref 81, .ref 189, .int (nI way), .int (nI least)]) := (fr18 _ (by omega)).trans F_h_0
    have F_h18_1 : h18 1 = .inr (7, [.ref 2, .int (nI (l).length), .int 0, .long 0, .int 0]) := (fr18 _ (by omega)).trans F_h_1
    have P_h18_in : RowIs h18 1 8000 (some l) 0 0 := (P_h_in).zfr fr18 (by omega) (by omega)
    have P_h18_co : RowIs h18 7 8000 (some ld) 0 0 := (P_h_co).zfr fr18 (by omega) (by omega)
    have P_h18_st : StX h18 sta T := (P_h_st).zfr fr18 (fun j h1 h2 => by omega)
    have P_h18_ou : RowIs h18 ou 12000 (some lo) 0 0 := (P_h_ou).zfr fr18 (by omega) (by omega)
    have P_h18_ab : AbA h18 ab := (P_h_ab).zfr fr18 (by omega)
    have P_h18_nx : RowIs h18 ne 12000 b0 ho0 hd0 := (P_h_nx).zfr fr18 (by omega) (by omega)
    have P_h18_pk : PkY h18 S := (P_h_pk).zfr fr18 (fun j h1 h2 => by omega) (fun j h1 => by omega)
    have FR_h18 : Fr h h18 (fun j => j ≤ 188) := (FR_h).zsub fr18 (fun j hj => by omega)
    show WX _ _ _ 21 [(0, .ref 0), (1, .int mi)] [] (n, s, h18)
    refine WX.s1 rfl rfl ?_
    refine WX.get1 (fs := [.ref 1, .ref ou, .ref ne, .ref 7, .long (lN id), .ref sta, .ref dra, .ref 67, .ref 81, .ref 189, .int (nI way), .int (nI least)]) rfl (by omega) (F_h18_0) rfl ?_
    refine WX.s1 rfl rfl ?_
    refine WX.get1 (fs := [.ref 1, .ref ou, .ref ne, .ref 7, .long (lN id), .ref sta, .ref dra, .ref 67, .ref 81, .ref 189, .int (nI way), .int (nI least)]) rfl (by omega) (F_h18_0) rfl ?_
    refine WX.callC (vs := [.ref 81, .ref dra]) rfl rfl rfl (Nat.le_of_ble_eq_true rfl) ((P_h18_pk).rcv (by omega)) ?_
    refine x_pBeg (d := d + 4) (T := stN) hn (by omega) hnb stN_ok P_h18_pk P_h18_dr (fun h29 fr29 P_h29_pk => ?_)
    have F_h29_0 : h29 0 = .inr (10, [.ref 1, .ref ou, .ref ne, .ref 7, .long (lN id), .ref sta, .ref dra, .ref 67, .ref 81, .ref 189, .int (nI way), .int (nI least)]) := (fr29 _ (by omega)).trans F_h18_0
    have F_h29_1 : h29 1 = .inr (7, [.ref 2, .int (nI (l).length), .int 0, .long 0, .int 0]) := (fr29 _ (by omega)).trans F_h18_1
    have P_h29_in : RowIs h29 1 8000 (some l) 0 0 := (P_h18_in).zfr fr29 (by omega) (by omega)
    have P_h29_co : RowIs h29 7 8000 (some ld) 0 0 := (P_h18_co).zfr fr29 (by omega) (by omega)
    have P_h29_st : StX h29 sta T := (P_h18_st).zfr fr29 (fun j h1 h2 => by omega)
    have P_h29_dr : StX h29 dra stN := (P_h18_dr).zfr fr29 (fun j h1 h2 => by omega)
    have P_h29_ou : RowIs h29 ou 12000 (some lo) 0 0 := (P_h18_ou).zfr fr29 (by omega) (by omega)
    have P_h29_ab : AbA h29 ab := (P_h18_ab).zfr fr29 (by omega)
    have P_h29_nx : RowIs h29 ne 12000 b0 ho0 hd0 := (P_h18_nx).zfr fr29 (by omega) (by omega)
    have FR_h29 : Fr h h29 (fun j => j ≤ 188) := (FR_h18).zsub fr29 (fun j hj => by omega)
    show WX _ _ _ 32 [(0, .ref 0), (1, .int mi)] [] (n, s, h29)
    obtain ⟨P_h29_pr, P_h29_fz⟩ := PkY.sp P_h29_pk
    obtain ⟨⟨cnt, F_h29_81⟩, -⟩ := idP P_h29_pr
    have F_h29_dra := P_h29_dr.1
    refine WX.s1 rfl rfl ?_
    refine WX.get1 (fs := [.ref 1, .ref ou, .ref ne, .ref 7, .long (lN id), .ref sta, .ref dra, .ref 67, .ref 81, .ref 189, .int (nI way), .int (nI least)]) rfl (by omega) (F_h29_0) rfl ?_
    refine WX.get1 (fs := [.ref 82, .ref 89, .ref 108, .ref 135, .ref 162, .ref 86, .ref 87, .int cnt, .ref 88]) rfl (by omega) (F_h29_81) rfl ?_
    refine WX.s1 rfl rfl ?_
    refine WX.get1 (fs := [.ref 1, .ref ou, .ref ne, .ref 7, .long (lN id), .ref sta, .ref dra, .ref 67, .ref 81, .ref 189, .int (nI way), .int (nI least)]) rfl (by omega) (F_h29_0) rfl ?_
    refine WX.get1 (fs := [.ref (dra + 1), .ref (dra + 3), .ref (dra + 7), .ref (dra + 14), .ref (dra + 21), .ref (dra + 28)]) rfl (by omega) (F_h29_dra) rfl ?_
    refine WX.s1 rfl rfl ?_
    refine WX.get1 (fs := [.ref 1, .ref ou, .ref ne, .ref 7, .long (lN id), .ref sta, .ref dra, .ref 67, .ref 81, .ref 189, .int (nI way), .int (nI least)]) rfl (by omega) (F_h29_0) rfl ?_
    have hrc : rcv 4 [.ref 82, .ref (dra + 1), .ref 1] (n, s, h29) = true := by
      obtain ⟨_, _, _, _, _, _, _, _, _, _, _, _, _, q, -⟩ := P_h29_fz
      exact rcv_ok (by omega) q
    refine WX.callC (vs := [.ref 82, .ref (dra + 1), .ref 1]) rfl rfl rfl (Nat.le_of_ble_eq_true rfl) hrc ?_
    refine x_loadR (d := d + 5) (l1 := []) hn (by omega) (by omega) (by decide) (by decide) (by simp; omega) P_h29_fz P_h29_dr.2.1 P_h29_in (fun hc fw fl_ fwi fe fle fdi fap fal fad dA eA hA frc F_hc_82 F_hc_83 F_hc_84 F_hc_85 hdA hCh => ?_)
    rw [List.length_nil, Nat.zero_add] at F_hc_82 hCh
    have hdA2 : ∀ i, i < (l).length → catD [] l i < 256 ∧ dA i = sb_b (catD [] l i) := fun i hi => hdA i (by rw [List.length_nil, Nat.zero_add]; exact hi)
    have F_hc_0 : hc 0 = .inr (10, [.ref 1, .ref ou, .ref ne, .ref 7, .long (lN id), .ref sta, .ref dra, .ref 67, .ref 81, .ref 189, .int (nI way), .int (nI least)]) := (frc _ (by omega)).trans F_h29_0
    have F_hc_1 : hc 1 = .inr (7, [.ref 2, .int (nI (l).length), .int 0, .long 0, .int 0]) := (frc _ (by omega)).trans F_h29_1
    have F_hc_81 : hc 81 = .inr (6, [.ref 82, .ref 89, .ref 108, .ref 135, .ref 162, .ref 86, .ref 87, .int cnt, .ref 88]) := (frc _ (by omega)).trans F_h29_81
    have F_hc_dra : hc dra = .inr (9, [.ref (dra + 1), .ref (dra + 3), .ref (dra + 7), .ref (dra + 14), .ref (dra + 21), .ref (dra + 28)]) := (frc _ (by omega)).trans F_h29_dra
    have P_hc_in : RowIs hc 1 8000 (some l) 0 0 := (P_h29_in).zfr frc (by omega) (by omega)
    have P_hc_co : RowIs hc 7 8000 (some ld) 0 0 := (P_h29_co).zfr frc (by omega) (by omega)
    have P_hc_st : StX hc sta T := (P_h29_st).zfr frc (fun j h1 h2 => by omega)
    have P_hc_dr : StX hc dra stN := (P_h29_dr).zfr frc (fun j h1 h2 => by omega)
    have P_hc_ou : RowIs hc ou 12000 (some lo) 0 0 := (P_h29_ou).zfr frc (by omega) (by omega)
    have P_hc_ab : AbA hc ab := (P_h29_ab).zfr frc (by omega)
    have P_hc_nx : RowIs hc ne 12000 b0 ho0 hd0 := (P_h29_nx).zfr frc (by omega) (by omega)
    have P_hc_pr : PkR hc (pkNt stN (fun _ => 0)) := (P_h29_pr).zfr frc (fun j h1 h2 h3 => by omega) (fun j h1 => by omega)
    have FR_hc : Fr h hc (fun j => j ≤ 188) := (FR_h29).zsub frc (fun j hj => by omega)
    show WX _ _ _ 53 [(0, .ref 0), (1, .int mi)] [] (n, s, hc)
    refine WX.s1 rfl rfl ?_
    refine WX.get1 (fs := [.ref 1, .ref ou, .ref ne, .ref 7, .long (lN id), .ref sta, .ref dra, .ref 67, .ref 81, .ref 189, .int (nI way), .int (nI least)]) rfl (by omega) (F_hc_0) rfl ?_
    refine WX.get1 (fs := [.ref 82, .ref 89, .ref 108, .ref 135, .ref 162, .ref 86, .ref 87, .int cnt, .ref 88]) rfl (by omega) (F_hc_81) rfl ?_
    refine WX.s1 rfl rfl ?_
    refine WX.get1 (fs := [.ref 1, .ref ou, .ref ne, .ref 7, .long (lN id), .ref sta, .ref dra, .ref 67, .ref 81, .ref 189, .int (nI way), .int (nI least)]) rfl (by omega) (F_hc_0) rfl ?_
    refine WX.s1 rfl rfl ?_
    refine WX.get1 (fs := [.ref 1, .ref ou, .ref ne, .ref 7, .long (lN id), .ref sta, .ref dra, .ref 67, .ref 81, .ref 189, .int (nI way), .int (nI least)]) rfl (by omega) (F_hc_0) rfl ?_
    refine WX.s1 rfl rfl ?_
    refine WX.callC (vs := [.ref 82, .int (nI way), .int (nI least), .int 16000]) rfl rfl rfl (Nat.le_of_ble_eq_true rfl) (rcv_ok (by omega) F_hc_82) ?_
    refine x_obey (d := d + 6) hn F_hc_82 (fun h71 fr71 F_h71_82 => ?_)
    have F_h71_0 : h71 0 = .inr (10, [.ref 1, .ref ou, .ref ne, .ref 7, .long (lN id), .ref sta, .ref dra, .ref 67, .ref 81, .ref 189, .int (nI way), .int (nI least)]) := (fr71 _ (by omega)).trans F_hc_0
    have F_h71_1 : h71 1 = .inr (7, [.ref 2, .int (nI (l).length), .int 0, .long 0, .int 0]) := (fr71 _ (by omega)).trans F_hc_1
    have F_h71_81 : h71 81 = .inr (6, [.ref 82, .ref 89, .ref 108, .ref 135, .ref 162, .ref 86, .ref 87, .int cnt, .ref 88]) := (fr71 _ (by omega)).trans F_hc_81
    have F_h71_dra : h71 dra = .inr (9, [.ref (dra + 1), .ref (dra + 3), .ref (dra + 7), .ref (dra + 14), .ref (dra + 21), .ref (dra + 28)]) := (fr71 _ (by omega)).trans F_hc_dra
    have F_h71_83 : h71 83 = .inl (0, 16000, .inl dA) := (fr71 _ (by omega)).trans F_hc_83
    have F_h71_84 : h71 84 = .inl (1, 16000, .inl eA) := (fr71 _ (by omega)).trans F_hc_84
    have F_h71_85 : h71 85 = .inl (1, 4096, .inl hA) := (fr71 _ (by omega)).trans F_hc_85
    have P_h71_in : RowIs h71 1 8000 (some l) 0 0 := (P_hc_in).zfr fr71 (by omega) (by omega)
    have P_h71_co : RowIs h71 7 8000 (some ld) 0 0 := (P_hc_co).zfr fr71 (by omega) (by omega)
    have P_h71_st : StX h71 sta T := (P_hc_st).zfr fr71 (fun j h1 h2 => by omega)
    have P_h71_dr : StX h71 dra stN := (P_hc_dr).zfr fr71 (fun j h1 h2 => by omega)
    have P_h71_ou : RowIs h71 ou 12000 (some lo) 0 0 := (P_hc_ou).zfr fr71 (by omega) (by omega)
    have P_h71_ab : AbA h71 ab := (P_hc_ab).zfr fr71 (by omega)
    have P_h71_nx : RowIs h71 ne 12000 b0 ho0 hd0 := (P_hc_nx).zfr fr71 (by omega) (by omega)
    have P_h71_pr : PkR h71 (pkNt stN (fun _ => 0)) := (P_hc_pr).zfr fr71 (fun j h1 h2 h3 => by omega) (fun j h1 => by omega)
    have FR_h71 : Fr h h71 (fun j => j ≤ 188) := (FR_hc).zsub fr71 (fun j hj => by omega)
    show WX _ _ _ 74 [(0, .ref 0), (1, .int mi)] [] (n, s, h71)
    refine WX.s1 rfl rfl ?_
    refine WX.get1 (fs := [.ref 1, .ref ou, .ref ne, .ref 7, .long (lN id), .ref sta, .ref dra, .ref 67, .ref 81, .ref 189, .int (nI way), .int (nI least)]) rfl (by omega) (F_h71_0) rfl ?_
    refine WX.s1 rfl rfl ?_
    refine WX.s1 rfl rfl ?_
    refine WX.get1 (fs := [.ref 1, .ref ou, .ref ne, .ref 7, .long (lN id), .ref sta, .ref dra, .ref 67, .ref 81, .ref 189, .int (nI way), .int (nI least)]) rfl (by omega) (F_h71_0) rfl ?_
    refine WX.get1 (fs := [.ref 2, .int (nI (l).length), .int 0, .long 0, .int 0]) rfl (by omega) (F_h71_1) rfl ?_
    have hPX : PkX h71 (catD [] l) (hsD (catD [] l)) (l).length way least 16000 (pkNt stN (fun _ => 0)) := (P_h71_pr).toX ⟨fe, fle, fdi, fap, fal, fad, dA, eA, hA, F_h71_82, F_h71_83, F_h71_84, F_h71_85, hdA2, hCh⟩
    refine WX.callC (vs := [.ref 81, .int (nI 0), .int (nI (l).length)]) rfl rfl rfl (Nat.le_of_ble_eq_true rfl) ((hPX).rcv (by omega)) ?_
    refine xp_go (d := d + 2) (f := 0) (e := (l).length) hn hnb stN_ok (Nat.zero_le _) (Nat.le_refl _) (by omega) (by omega) hw hl3 hl8 (by decide) (hsD_ok _) hPX (fun hg frg hG => ?_)
    have F_hg_0 : hg 0 = .inr (10, [.ref 1, .ref ou, .ref ne, .ref 7, .long (lN id), .ref sta, .ref dra, .ref 67, .ref 81, .ref 189, .int (nI way), .int (nI least)]) := (frg _ (by omega)).trans F_h71_0
    have F_hg_1 : hg 1 = .inr (7, [.ref 2, .int (nI (l).length), .int 0, .long 0, .int 0]) := (frg _ (by omega)).trans F_h71_1
    have F_hg_dra : hg dra = .inr (9, [.ref (dra + 1), .ref (dra + 3), .ref (dra + 7), .ref (dra + 14), .ref (dra + 21), .ref (dra + 28)]) := (frg _ (by omega)).trans F_h71_dra
    have P_hg_in : RowIs hg 1 8000 (some l) 0 0 := (P_h71_in).zfr frg (by omega) (by omega)
    have P_hg_co : RowIs hg 7 8000 (some ld) 0 0 := (P_h71_co).zfr frg (by omega) (by omega)
    have P_hg_st : StX hg sta T := (P_h71_st).zfr frg (fun j h1 h2 => by omega)
    have P_hg_dr : StX hg dra stN := (P_h71_dr).zfr frg (fun j h1 h2 => by omega)
    have P_hg_ou : RowIs hg ou 12000 (some lo) 0 0 := (P_h71_ou).zfr frg (by omega) (by omega)
    have P_hg_ab : AbA hg ab := (P_h71_ab).zfr frg (by omega)
    have P_hg_nx : RowIs hg ne 12000 b0 ho0 hd0 := (P_h71_nx).zfr frg (by omega) (by omega)
    have FR_hg : Fr h hg (fun j => j ≤ 188) := (FR_h71).zsub frg (fun j hj => by omega)
    have hG : GoX hg (catD [] l) (hsD (catD [] l)) (l).length way least 16000 (pkNt stN (fun _ => 0)) (mkG way least l).2.2.1 (mkG way least l).2.2.2 := hG
    have hc256 : ∀ i, i < (l).length → catD [] l i < 256 := fun i hi => (hdA2 i hi).1
    obtain ⟨hls, hq2, -⟩ := goE_ok (D := (catD [] l)) (way := way) (least := least) (win := 16000) (e := (l).length) (f := 0) hl3 (Nat.zero_le _) (by omega) (by omega) hc256
    have hls : LsOk (mkG way least l).2.2.1 := hls
    have hq2 : (mkG way least l).2.2.2.length ≤ 2667 := hq2
    obtain ⟨G81, -, -, -, -, ⟨ki, by_, sh, be, G89⟩, Gli, -, Gco, Gkn, Gto, Gdx, Gc1, Gc2, Gc3⟩ := idP hG
    have F_hg_81 := G81
    have F_hg_89 := G89
    show WX _ _ _ 89 [(0, .ref 0), (1, .int mi)] [] (n, s, hg)
    refine WX.s1 rfl rfl ?_
    refine WX.get1 (fs := [.ref 1, .ref ou, .ref ne, .ref 7, .long (lN id), .ref sta, .ref dra, .ref 67, .ref 81, .ref 189, .int (nI way), .int (nI least)]) rfl (by omega) (F_hg_0) rfl ?_
    refine WX.callC (vs := [.ref 81]) rfl rfl rfl (Nat.le_of_ble_eq_true rfl) (rcv_ok (by omega) F_hg_81) ?_
    refine x_seqs (d := d + 6) hn F_hg_81 ?_
    show WX _ _ _ 96 [(0, .ref 0), (1, .int mi)] [.int (nI (mkG way least l).2.2.2.length)] (n, s, hg)
    refine WX.if_ rfl (fun c_96 => ?_) (fun c_96 => ?_)
    · skip
      have n_96 : ((mkG way least l).2.2.2.length) = 0 := (nI_eq (a := (mkG way least l).2.2.2.length) (b := 0) (by omega) (by omega)).mp c_96
      refine WX.s1 rfl rfl ?_
      exact WX.ret1 rfl (k0 hg none (Or.inl ⟨rfl, Or.inr (Or.inl (by omega))⟩) (Or.inl rfl) FR_hg ⟨F_hg_0, hno, hsd, P_hg_in, P_hg_ou, ⟨_, _, _, P_hg_nx⟩, P_hg_co, P_hg_st, (P_hg_dr).toZ, ⟨_, (hG).toY⟩, P_hg_ab⟩)
    · skip
      have n_96 : ¬ ((mkG way least l).2.2.2.length) = 0 := fun zz_ => c_96 ((nI_eq (a := (mkG way least l).2.2.2.length) (b := 0) (by omega) (by omega)).mpr zz_)
      refine WX.s1 rfl rfl ?_
      refine WX.get1 (fs := [.ref 1, .ref ou, .ref ne, .ref 7, .long (lN id), .ref sta, .ref dra, .ref 67, .ref 81, .ref 189, .int (nI way), .int (nI least)]) rfl (by omega) (F_hg_0) rfl ?_
      refine WX.get1 (fs := [.ref 82, .ref 89, .ref 108, .ref 135, .ref 162, .ref 86, .ref 87, .int (nI (mkG way least l).2.2.2.length), .ref 88]) rfl (by omega) (F_hg_81) rfl ?_
      refine WX.callC (vs := [.ref 89]) rfl rfl rfl (Nat.le_of_ble_eq_true rfl) (rcv_ok (by omega) F_hg_89) ?_
      refine x_renew (d := d + 2) hn hls Gli F_hg_89 Gco Gkn Gdx Gto (fun a1 hr fr2 co2 kn2 dx2 to2 => ?_) (fun a1 a2 a3 hr fr2 co2 kn2 dx2 to2 => ?_) (fun a1 a2 y a3 hr fr2 co2 kn2 dx2 to2 ylen => ?_)
      · skip
        have F_hr_0 : hr 0 = .inr (10, [.ref 1, .ref ou, .ref ne, .ref 7, .long (lN id), .ref sta, .ref dra, .ref 67, .ref 81, .ref 189, .int (nI way), .int (nI least)]) := (fr2 _ (by omega)).trans F_hg_0
        have F_hr_1 : hr 1 = .inr (7, [.ref 2, .int (nI (l).length), .int 0, .long 0, .int 0]) := (fr2 _ (by omega)).trans F_hg_1
        have F_hr_dra : hr dra = .inr (9, [.ref (dra + 1), .ref (dra + 3), .ref (dra + 7), .ref (dra + 14), .ref (dra + 21), .ref (dra + 28)]) := (fr2 _ (by omega)).trans F_hg_dra
        have P_hr_in : RowIs hr 1 8000 (some l) 0 0 := (P_hg_in).zfr fr2 (by omega) (by omega)
        have P_hr_co : RowIs hr 7 8000 (some ld) 0 0 := (P_hg_co).zfr fr2 (by omega) (by omega)
        have P_hr_st : StX hr sta T := (P_hg_st).zfr fr2 (fun j h1 h2 => by omega)
        have P_hr_dr : StX hr dra stN := (P_hg_dr).zfr fr2 (fun j h1 h2 => by omega)
        have P_hr_ou : RowIs hr ou 12000 (some lo) 0 0 := (P_hg_ou).zfr fr2 (by omega) (by omega)
        have P_hr_ab : AbA hr ab := (P_hg_ab).zfr fr2 (by omega)
        have P_hr_nx : RowIs hr ne 12000 b0 ho0 hd0 := (P_hg_nx).zfr fr2 (by omega) (by omega)
        have FR_hr : Fr h hr (fun j => j ≤ 188) := (FR_hg).zsub fr2 (fun j hj => by omega)
        show WX _ _ _ 109 [(0, .ref 0), (1, .int mi)] [.int 0] (n, s, hr)
        refine WX.if_ rfl (fun c_109 => absurd c_109 (by decide)) (fun c_109 => ?_)
        clear c_109
        refine WX.s1 rfl rfl ?_
        have hB : aBig = 1000000 := rfl
        exact WX.ret1 rfl (k0 hr none (Or.inl ⟨rfl, Or.inr (Or.inr (Or.inl a1))⟩) (Or.inl rfl) FR_hr ⟨F_hr_0, hno, hsd, P_hr_in, P_hr_ou, ⟨_, _, _, P_hr_nx⟩, P_hr_co, P_hr_st, (P_hr_dr).toZ, ⟨_, PkY.mk3 hG ((fr2).mono (B := fun j => j ≤ 80 ∨ (96 ≤ j ∧ j ≤ 99) ∨ (101 ≤ j ∧ j ≤ 107)) (fun j hj => by omega)) (fun x h1 h2 => by omega) (by omega) co2 kn2 dx2 to2 (Gc1.zfr fr2 (fun j h1 h2 => by omega) (by omega) (by omega)) (Gc2.zfr fr2 (fun j h1 h2 => by omega) (by omega) (by omega)) (Gc3.zfr fr2 (fun j h1 h2 => by omega) (by omega) (by omega))⟩, P_hr_ab⟩)
      · skip
        have F_hr_0 : hr 0 = .inr (10, [.ref 1, .ref ou, .ref ne, .ref 7, .long (lN id), .ref sta, .ref dra, .ref 67, .ref 81, .ref 189, .int (nI way), .int (nI least)]) := (fr2 _ (by omega)).trans F_hg_0
        have F_hr_1 : hr 1 = .inr (7, [.ref 2, .int (nI (l).length), .int 0, .long 0, .int 0]) := (fr2 _ (by omega)).trans F_hg_1
        have F_hr_dra : hr dra = .inr (9, [.ref (dra + 1), .ref (dra + 3), .ref (dra + 7), .ref (dra + 14), .ref (dra + 21), .ref (dra + 28)]) := (fr2 _ (by omega)).trans F_hg_dra
        have P_hr_in : RowIs hr 1 8000 (some l) 0 0 := (P_hg_in).zfr fr2 (by omega) (by omega)
        have P_hr_co : RowIs hr 7 8000 (some ld) 0 0 := (P_hg_co).zfr fr2 (by omega) (by omega)
        have P_hr_st : StX hr sta T := (P_hg_st).zfr fr2 (fun j h1 h2 => by omega)
        have P_hr_dr : StX hr dra stN := (P_hg_dr).zfr fr2 (fun j h1 h2 => by omega)
        have P_hr_ou : RowIs hr ou 12000 (some lo) 0 0 := (P_hg_ou).zfr fr2 (by omega) (by omega)
        have P_hr_ab : AbA hr ab := (P_hg_ab).zfr fr2 (by omega)
        have P_hr_nx : RowIs hr ne 12000 b0 ho0 hd0 := (P_hg_nx).zfr fr2 (by omega) (by omega)
        have FR_hr : Fr h hr (fun j => j ≤ 188) := (FR_hg).zsub fr2 (fun j hj => by omega)
        show WX _ _ _ 109 [(0, .ref 0), (1, .int mi)] [.int 0] (n, s, hr)
        refine WX.if_ rfl (fun c_109 => absurd c_109 (by decide)) (fun c_109 => ?_)
        clear c_109
        refine WX.s1 rfl rfl ?_
        have hB : aBig = 1000000 := rfl
        exact WX.ret1 rfl (k0 hr none (Or.inl ⟨rfl, Or.inr (Or.inr (Or.inr a3))⟩) (Or.inl rfl) FR_hr ⟨F_hr_0, hno, hsd, P_hr_in, P_hr_ou, ⟨_, _, _, P_hr_nx⟩, P_hr_co, P_hr_st, (P_hr_dr).toZ, ⟨_, PkY.mk3 hG ((fr2).mono (B := fun j => j ≤ 80 ∨ (96 ≤ j ∧ j ≤ 99) ∨ (101 ≤ j ∧ j ≤ 107)) (fun j hj => by omega)) (fun x h1 h2 => by omega) (by omega) co2 kn2 dx2 to2 (Gc1.zfr fr2 (fun j h1 h2 => by omega) (by omega) (by omega)) (Gc2.zfr fr2 (fun j h1 h2 => by omega) (by omega) (by omega)) (Gc3.zfr fr2 (fun j h1 h2 => by omega) (by omega) (by omega))⟩, P_hr_ab⟩)
      · skip
        have F_hr_0 : hr 0 = .inr (10, [.ref 1, .ref ou, .ref ne, .ref 7, .long (lN id), .ref sta, .ref dra, .ref 67, .ref 81, .ref 189, .int (nI way), .int (nI least)]) := (fr2 _ (by omega)).trans F_hg_0
        have F_hr_1 : hr 1 = .inr (7, [.ref 2, .int (nI (l).length), .int 0, .long 0, .int 0]) := (fr2 _ (by omega)).trans F_hg_1
        have F_hr_dra : hr dra = .inr (9, [.ref (dra + 1), .ref (dra + 3), .ref (dra + 7), .ref (dra + 14), .ref (dra + 21), .ref (dra + 28)]) := (fr2 _ (by omega)).trans F_hg_dra
        have P_hr_in : RowIs hr 1 8000 (some l) 0 0 := (P_hg_in).zfr fr2 (by omega) (by omega)
        have P_hr_co : RowIs hr 7 8000 (some ld) 0 0 := (P_hg_co).zfr fr2 (by omega) (by omega)
        have P_hr_st : StX hr sta T := (P_hg_st).zfr fr2 (fun j h1 h2 => by omega)
        have P_hr_dr : StX hr dra stN := (P_hg_dr).zfr fr2 (fun j h1 h2 => by omega)
        have P_hr_ou : RowIs hr ou 12000 (some lo) 0 0 := (P_hg_ou).zfr fr2 (by omega) (by omega)
        have P_hr_ab : AbA hr ab := (P_hg_ab).zfr fr2 (by omega)
        have P_hr_nx : RowIs hr ne 12000 b0 ho0 hd0 := (P_hg_nx).zfr fr2 (by omega) (by omega)
        have FR_hr : Fr h hr (fun j => j ≤ 188) := (FR_hg).zsub fr2 (fun j hj => by omega)
        show WX _ _ _ 109 [(0, .ref 0), (1, .int mi)] [.int 1] (n, s, hr)
        refine WX.if_ rfl (fun c_109 => ?_) (fun c_109 => absurd (by decide) c_109)
        clear c_109
        have hB : aBig = 1000000 := rfl
        obtain ⟨tA, F_hr_28, htA⟩ := P_hr_dr.2.2.2.2.2.2
        have hM : MkR mi way least l (some (mkB mi l y (mkG way least l).2.2.2)) := Or.inr ⟨by omega, by omega, a1, a2, y, a3, rfl⟩
        exact x_mkEnd (d := d) (y := y) hn hnb hno hsd hw hl3 hl8 (by omega) hq2 htA hG fr2 F_hr_0 F_hr_1 ((fr2 _ (by omega)).trans F_hg_81) ((fr2 _ (by omega)).trans F_hg_89) F_hr_dra F_hr_28 P_hr_in P_hr_co P_hr_st P_hr_dr P_hr_ou P_hr_ab P_hr_nx (co2).toX kn2 dx2 to2 (Gc1.zfr fr2 (fun j h1 h2 => by omega) (by omega) (by omega)) (Gc2.zfr fr2 (fun j h1 h2 => by omega) (by omega) (by omega)) (Gc3.zfr fr2 (fun j h1 h2 => by omega) (by omega) (by omega)) (fun h9 f9 z q9 => k0 h9 _ hM (Or.inr ⟨_, rfl, z⟩) ((FR_hr).ztr f9) q9) (fun h9 f9 z q9 => k1 h9 _ hM z ((FR_hr).ztr f9) q9)
  · skip
    have n_9 : (l).length < 8 := Nat.lt_of_not_le (fun zz_ => c_9 ((nI_leI (a := 8) (b := (l).length) (by omega) (by omega)).mpr zz_))
    refine WX.s1 rfl rfl ?_
    exact WX.ret1 rfl (k0 h none (Or.inl ⟨rfl, Or.inl (by omega)⟩) (Or.inl rfl) FR_h ⟨F_h_0, hno, hsd, P_h_in, P_h_ou, ⟨_, _, _, P_h_nx⟩, P_h_co, P_h_st, P_h_dr, ⟨S, P_h_pk⟩, P_h_ab⟩)
theorem x_makeL {d n s : Nat} {h : Nat → aE} {id way least : Nat} {l lo ld : List Nat} {T : PkS} {ab : Nat → Nat} {mi : Int32} (hn : 190 ≤ n) (hnb : n < aBig) (hw : way ≤ 3) (hl3 : 3 ≤ least) (hl8 : least ≤ 8) (hX : SPX h id way least l lo ld T ab) {Ψ : Option Value → aH → Prop} (k0 : ∀ h' r, MkR mi way least l r → (r = none ∨ ∃ b, r = some b ∧ 12000 < (b).length) → Fr h h' (fun j => j ≤ 189) → SPX h' id way least l lo ld T ab → Ψ (some (.int (-1))) (n, s, h')) (k1 : ∀ h' b, MkR mi way least l (some b) → (b).length ≤ 12000 → Fr h h' (fun j => j ≤ 189) → SPX h' id way least l b ld T ab → Ψ (some (.int (nI (b).length))) (n, s, h')) : WO (mM (d + 8)) 132 [.ref 0, .int mi] (n, s, h) Ψ := by
  obtain ⟨ou, ne, sta, dra, a1, a2, a3, a4, a5, ⟨b0, ho0, hd0, a6⟩, a7, a8, a9, ⟨S, a10⟩, a11⟩ := hX
  exact x_mk0 hn hnb a2 a3 hw hl3 hl8 a1 (row_obj a4) a4 a7 a8 a9 a5 a11 a6 a10 (fun h' r z1 z2 f q => k0 h' r z1 z2 ((f).mono (fun j hj => by omega)) ⟨_, _, _, _, q⟩) (fun h' b z1 z2 f q => k1 h' b z1 z2 ((f).mono (fun j hj => by omega)) ⟨_, _, _, _, q⟩)
