/-! press: its blocks -/
theorem catD_lt {h : Nat → aE} {a b N1 N2 : Nat} {ld l : List Nat} {ho1 ho2 : Int64} {hd1 hd2 : Int32} (r1 : RowIs h a N1 (some ld) ho1 hd1) (r2 : RowIs h b N2 (some l) ho2 hd2) (i : Nat) : catD ld l i < 256 := by
  unfold catD
  by_cases z : i < (ld).length
  · rw [getD_l z]; exact row_lt r1 i
  · rw [getD_r (by omega)]; exact row_lt r2 _
theorem x_loadR {d n s : Nat} {h : Nat → aE} {a b N1 N2 : Nat} {l1 l2 : List Nat} {ho1 ho2 : Int64} {hd1 hd2 : Int32} (hn : 190 ≤ n) (ha : a + 1 < 82) (hb : b + 1 < 82) (hN1 : N1 < 2 ^ 30) (hN2 : N2 < 2 ^ 30) (hU : (l1).length + (l2).length ≤ 16000) (F : FiZ h) (r1 : RowIs h a N1 (some l1) ho1 hd1) (r2 : RowIs h b N2 (some l2) ho2 hd2) {Ψ : Option Value → aH → Prop} (kk : ∀ h' (fw fl fwi fe fle fdi fap fal fad : Int32) (dA eA hA : Nat → Int32), Fr h h' (fun j => 82 ≤ j ∧ j ≤ 85) → h' 82 = .inr (3, [.ref 83, .int (nI ((l1).length + (l2).length)), .ref 84, .ref 85, .int fw, .int fl, .int fwi, .int fe, .int fle, .int fdi, .int fap, .int fal, .int fad]) → h' 83 = .inl (0, 16000, .inl dA) → h' 84 = .inl (1, 16000, .inl eA) → h' 85 = .inl (1, 4096, .inl hA) → (∀ i, i < (l1).length + (l2).length → catD l1 l2 i < 256 ∧ dA i = sb_b (catD l1 l2 i)) → ChainAt (hsD (catD l1 l2)) ((l1).length + (l2).length) eA → Ψ none (n, s, h')) : WO (mM (d + 2)) 33 [.ref 82, .ref a, .ref b] (n, s, h) Ψ := by
  have b1 := row_le r1
  have b2 := row_le r2
  have o1 := row_obj r1
  have o2 := row_obj r2
  obtain ⟨g1, u1, sp1, q0, -, -, q2, q3⟩ := r1
  obtain ⟨g2, u2, sp2, p0, -, -, p2, p3⟩ := r2
  obtain ⟨fu, fw, fl, fwi, fe, fle, fdi, fap, fal, fad, dA, eA, hA, a1, a2, a3, a4⟩ := F
  exact x_loadL hn ha hb hN1 hN2 b1 b2 hU q3 p3 a1 a2 a3 a4 o1 q0.2 o2 p0.2 (fun h' dA' eA' hA' f1 f2 f3 f4 f5 f6 f7 => kk h' fw fl fwi fe fle fdi fap fal fad dA' eA' hA' f1 f2 f3 f4 f5 f6 f7)
set_option maxRecDepth 20000 in
theorem x_prLp {d n s : Nat} {h : Nat → aE} {ou ne sta dra id way least fl e cut : Nat} {l lo ld : List Nat} {T : PkS} {ab : Nat → Nat} {S : PkS} {f : Nat} {acc : List Nat} (t : Nat) (hn : 190 ≤ n) (hnb : n < aBig) (hno : (ou = 3 ∧ ne = 5) ∨ (ou = 5 ∧ ne = 3)) (hsd : (sta = 9 ∧ dra = 38) ∨ (sta = 38 ∧ dra = 9)) (hid : id < 2 ^ 32) (hw : way ≤ 3) (hl3 : 3 ≤ least) (hl8 : least ≤ 8) (hfl : fl < 16) (he : e ≤ 11) (hc1 : 1 ≤ cut) (hc2 : cut ≤ 8000) (hO : PkOk T) (ht : (l).length - f < t) (hf : f ≤ (l).length) (hOS : PkOk S) (hAll : (prS fl e cut way least ld l T) = (acc ++ (blks (catD ld l) way least (winN fl e (l).length) (ld).length cut (l).length t f S).1, (blks (catD ld l) way least (winN fl e (l).length) (ld).length cut (l).length t f S).2)) (F_h_0 : h 0 = .inr (10, [.ref 1, .ref ou, .ref ne, .ref 7, .long (lN id), .ref sta, .ref dra, .ref 67, .ref 81, .ref 189, .int (nI way), .int (nI least)])) (F_h_1 : h 1 = .inr (7, [.ref 2, .int (nI (l).length), .int 0, .long 0, .int 0])) (P_h_in : RowIs h 1 8000 (some l) 0 0) (P_h_co : RowIs h 7 8000 (some ld) 0 0) (P_h_st : StX h sta T) (P_h_dr : StZ h dra) (P_h_ou : RowIs h ou 12000 (some lo) 0 0) (P_h_ab : AbA h ab) (P_h_nx : RowIs h ne 12000 (bputs 12000 (some []) ((hdF fl e id (l).length) ++ acc)) 0 0) (P_h_pk : PkX h (catD ld l) (hsD (catD ld l)) ((ld).length + (l).length) way least (winN fl e (l).length) S) {Ψ : Option Value → aH → Prop} (k1 : 12000 < (prY fl e cut id way least ld l T).length → ∀ h', Fr h h' (fun j => j = 0 ∨ j = ne ∨ j = ne + 1 ∨ (67 ≤ j ∧ j ≤ 189)) → SPY h' ou ne sta dra id way least l lo ld T ab → Ψ (some (.int (-1))) (n, s, h')) (k2 : (prY fl e cut id way least ld l T).length ≤ 12000 → ∀ h', Fr h h' (fun j => j = 0 ∨ j = ne ∨ j = ne + 1 ∨ (67 ≤ j ∧ j ≤ 189)) → SPY h' ne ou sta dra id way least l (prY fl e cut id way least ld l T) ld T (prS fl e cut way least ld l T).2.2.2.2.2.2 → Ψ (some (.int (nI (prY fl e cut id way least ld l T).length))) (n, s, h')) : WX (lk tX11_press) (mM (d + 7)) Ψ 171 [(0, .ref 0), (1, .int (nI fl)), (3, .int (nI cut)), (5, .int (nI ((ld).length + (l).length))), (6, .int (nI ((ld).length + f)))] [] (n, s, h) := by
  induction t generalizing h f S acc with
  | zero => omega
  | succ t ih =>
    have FR_h : Fr h h (fun j => j = 0 ∨ j = ne ∨ j = ne + 1 ∨ (67 ≤ j ∧ j ≤ 189)) := Fr.rf
    have hle := row_le P_h_in
    have hld := row_le P_h_co
    have hDl := catD_lt P_h_co P_h_in
    have hwn := win_bd (fl := fl) (u := (l).length) he hle
    refine WX.s1 rfl rfl ?_
    refine WX.s1 rfl rfl ?_
    refine WX.s1 (S' := [.int ((nI ((ld).length + f)) + (nI cut))]) rfl rfl ?_
    rw [show ((nI ((ld).length + f)) + (nI cut)) = nI ((ld).length + f + cut) from nI_add ((ld).length + f) cut]
    refine WX.s1 rfl rfl ?_
    refine WX.s1 (S' := [.int (if (nI ((ld).length + (l).length)) < (nI ((ld).length + f + cut)) then (nI ((ld).length + (l).length)) else (nI ((ld).length + f + cut)))]) rfl rfl ?_
    rw [nI_min (a := (ld).length + f + cut) (b := ((ld).length + (l).length)) (by omega) (by omega), show min ((ld).length + f + cut) ((ld).length + (l).length) = (ld).length + (min (f + cut) (l).length) by omega]
    refine WX.s1 (L' := [(0, .ref 0), (1, .int (nI fl)), (3, .int (nI cut)), (5, .int (nI ((ld).length + (l).length))), (6, .int (nI ((ld).length + f))), (7, .int (nI ((ld).length + (min (f + cut) (l).length))))]) rfl rfl ?_
    refine WX.s1 rfl rfl ?_
    refine WX.get1 (fs := [.ref 1, .ref ou, .ref ne, .ref 7, .long (lN id), .ref sta, .ref dra, .ref 67, .ref 81, .ref 189, .int (nI way), .int (nI least)]) rfl (by omega) (F_h_0) rfl ?_
    refine WX.s1 rfl rfl ?_
    refine WX.get1 (fs := [.ref 1, .ref ou, .ref ne, .ref 7, .long (lN id), .ref sta, .ref dra, .ref 67, .ref 81, .ref 189, .int (nI way), .int (nI least)]) rfl (by omega) (F_h_0) rfl ?_
    refine WX.s1 rfl rfl ?_
    refine WX.s1 rfl rfl ?_
    refine WX.s1 rfl rfl ?_
    refine WX.s1 rfl rfl ?_
    refine WX.icmp rfl (fun c_198 => ?_) (fun c_198 => ?_)
    · skip
      have n_198 : ¬ ((ld).length + (min (f + cut) (l).length)) = ((ld).length + (l).length) := fun zz_ => c_198 ((nI_eq (a := (ld).length + (min (f + cut) (l).length)) (b := (ld).length + (l).length) (by omega) (by omega)).mpr zz_)
      refine WX.s1 rfl rfl ?_
      refine WX.callC (vs := [.ref 81, .ref ne, .int (nI ((ld).length + f)), .int (nI ((ld).length + (min (f + cut) (l).length))), .int 0]) rfl rfl rfl (Nat.le_of_ble_eq_true rfl) ((P_h_pk).rcv (by omega)) ?_
      refine x_blk0 (d := d) hn hnb (by omega) (by decide) hOS (by omega) (by omega) (by omega) (by omega) hw hl3 hl8 hwn (hsD_ok _) P_h_pk P_h_nx (fun hb frb P_hb_pk P_hb_nx => ?_)
      rw [← bputs_app, List.append_assoc] at P_hb_nx
      have F_hb_0 : hb 0 = .inr (10, [.ref 1, .ref ou, .ref ne, .ref 7, .long (lN id), .ref sta, .ref dra, .ref 67, .ref 81, .ref 189, .int (nI way), .int (nI least)]) := (frb _ (by omega)).trans F_h_0
      have F_hb_1 : hb 1 = .inr (7, [.ref 2, .int (nI (l).length), .int 0, .long 0, .int 0]) := (frb _ (by omega)).trans F_h_1
      have P_hb_in : RowIs hb 1 8000 (some l) 0 0 := (P_h_in).zfr frb (by omega) (by omega)
      have P_hb_co : RowIs hb 7 8000 (some ld) 0 0 := (P_h_co).zfr frb (by omega) (by omega)
      have P_hb_st : StX hb sta T := (P_h_st).zfr frb (fun j h1 h2 => by omega)
      have P_hb_dr : StZ hb dra := (P_h_dr).zfr frb (fun j h1 h2 => by omega)
      have P_hb_ou : RowIs hb ou 12000 (some lo) 0 0 := (P_h_ou).zfr frb (by omega) (by omega)
      have P_hb_ab : AbA hb ab := (P_h_ab).zfr frb (by omega)
      have FR_hb : Fr h hb (fun j => j = 0 ∨ j = ne ∨ j = ne + 1 ∨ (67 ≤ j ∧ j ≤ 189)) := (FR_h).zsub frb (fun j hj => by omega)
      have hOT : PkOk (blkT (catD ld l) way least (winN fl e (l).length) ((ld).length + f) ((ld).length + (min (f + cut) (l).length)) S) := blkT_ok hl3 (by omega) (by omega) (by omega) (fun i _ => hDl i) hOS
      obtain ⟨u_, sp_, F_hb_ne, hsp⟩ := row_sp P_hb_nx
      show WX _ _ _ 209 [(0, .ref 0), (1, .int (nI fl)), (3, .int (nI cut)), (5, .int (nI ((ld).length + (l).length))), (6, .int (nI ((ld).length + f))), (7, .int (nI ((ld).length + (min (f + cut) (l).length))))] [] (n, s, hb)
      refine WX.s1 rfl rfl ?_
      refine WX.s1 (L' := [(0, .ref 0), (1, .int (nI fl)), (3, .int (nI cut)), (5, .int (nI ((ld).length + (l).length))), (6, .int (nI ((ld).length + (min (f + cut) (l).length)))), (7, .int (nI ((ld).length + (min (f + cut) (l).length))))]) rfl rfl ?_
      refine WX.s1 rfl rfl ?_
      refine WX.s1 rfl rfl ?_
      refine WX.icmp rfl (fun c_217 => absurd c_217 (fun zz_ => absurd ((nI_leI (a := (ld).length + (l).length) (b := (ld).length + (min (f + cut) (l).length)) (by omega) (by omega)).mp zz_) (Nat.not_le.mpr (by omega)))) (fun c_217 => ?_)
      clear c_217
      refine WX.s1 rfl rfl ?_
      refine WX.get1 (fs := [.ref 1, .ref ou, .ref ne, .ref 7, .long (lN id), .ref sta, .ref dra, .ref 67, .ref 81, .ref 189, .int (nI way), .int (nI least)]) rfl (by omega) (F_hb_0) rfl ?_
      refine WX.get1 (fs := [.ref (ne + 1), .int (nI u_), .int sp_, .long 0, .int 0]) rfl (by omega) (F_hb_ne) rfl ?_
      refine WX.if_ rfl (fun c_227 => ?_) (fun c_227 => ?_)
      · skip
        rw [blks_more (by omega)] at hAll
        refine WX.keep (y := 131) [0, 1, 3, 5, 6] (show ([0, 1, 3, 5, 6, 7] : List Nat).Nodup by decide) rfl ?_
        exact ih (f := (min (f + cut) (l).length)) (S := (blkT (catD ld l) way least (winN fl e (l).length) ((ld).length + f) ((ld).length + (min (f + cut) (l).length)) S)) (acc := acc ++ (blkB (catD ld l) way least (winN fl e (l).length) ((ld).length + f) ((ld).length + (min (f + cut) (l).length)) 0 S)) (by omega) (by omega) hOT (by rw [hAll, List.append_assoc]) F_hb_0 F_hb_1 P_hb_in P_hb_co P_hb_st P_hb_dr P_hb_ou P_hb_ab P_hb_nx P_hb_pk (fun z h9 f9 q9 => k1 z h9 ((FR_hb).ztr f9) q9) (fun z h9 f9 q9 => k2 z h9 ((FR_hb).ztr f9) q9)
      · skip
        refine WX.keep (y := 131) [0, 1] (show ([0, 1, 3, 5, 6, 7] : List Nat).Nodup by decide) rfl ?_
        rw [blks_more (by omega)] at hAll
        have e1 : (prS fl e cut way least ld l T).1 = acc ++ ((blkB (catD ld l) way least (winN fl e (l).length) ((ld).length + f) ((ld).length + (min (f + cut) (l).length)) 0 S) ++ _) := congrArg Prod.fst hAll
        have e0 := (hsp).yes c_227
        have e9 : (bputs 12000 (some []) ((hdF fl e id (l).length) ++ (prS fl e cut way least ld l T).1)) = none := by rw [e1, ← List.append_assoc, ← List.append_assoc, bputs_app]; rw [← List.append_assoc] at e0; rw [e0, bputs_none]
        exact x_prEnd (d := d + 3) hn hnb hno hsd hid hw hl3 hl8 hfl he hc1 hc2 hO (fun z => absurd e9 z) F_hb_0 F_hb_1 P_hb_in P_hb_co P_hb_st P_hb_dr P_hb_ou P_hb_ab (by rw [e9]; rw [e0] at P_hb_nx; exact P_hb_nx) (P_hb_pk).toY (fun z h9 f9 q9 => k1 z h9 ((FR_hb).ztr f9) q9) (fun z h9 f9 q9 => k2 z h9 ((FR_hb).ztr f9) q9)
    · skip
      have n_198 : ((ld).length + (min (f + cut) (l).length)) = ((ld).length + (l).length) := (nI_eq (a := (ld).length + (min (f + cut) (l).length)) (b := (ld).length + (l).length) (by omega) (by omega)).mp (Classical.not_not.mp c_198)
      refine WX.s1 rfl rfl ?_
      refine WX.s1 rfl rfl ?_
      refine WX.callC (vs := [.ref 81, .ref ne, .int (nI ((ld).length + f)), .int (nI ((ld).length + (min (f + cut) (l).length))), .int 1]) rfl rfl rfl (Nat.le_of_ble_eq_true rfl) ((P_h_pk).rcv (by omega)) ?_
      refine x_blk1 (d := d) hn hnb (by omega) (by decide) hOS (by omega) (by omega) (by omega) (by omega) hw hl3 hl8 hwn (hsD_ok _) P_h_pk P_h_nx (fun hb frb P_hb_pk P_hb_nx => ?_)
      rw [← bputs_app, List.append_assoc] at P_hb_nx
      have F_hb_0 : hb 0 = .inr (10, [.ref 1, .ref ou, .ref ne, .ref 7, .long (lN id), .ref sta, .ref dra, .ref 67, .ref 81, .ref 189, .int (nI way), .int (nI least)]) := (frb _ (by omega)).trans F_h_0
      have F_hb_1 : hb 1 = .inr (7, [.ref 2, .int (nI (l).length), .int 0, .long 0, .int 0]) := (frb _ (by omega)).trans F_h_1
      have P_hb_in : RowIs hb 1 8000 (some l) 0 0 := (P_h_in).zfr frb (by omega) (by omega)
      have P_hb_co : RowIs hb 7 8000 (some ld) 0 0 := (P_h_co).zfr frb (by omega) (by omega)
      have P_hb_st : StX hb sta T := (P_h_st).zfr frb (fun j h1 h2 => by omega)
      have P_hb_dr : StZ hb dra := (P_h_dr).zfr frb (fun j h1 h2 => by omega)
      have P_hb_ou : RowIs hb ou 12000 (some lo) 0 0 := (P_h_ou).zfr frb (by omega) (by omega)
      have P_hb_ab : AbA hb ab := (P_h_ab).zfr frb (by omega)
      have FR_hb : Fr h hb (fun j => j = 0 ∨ j = ne ∨ j = ne + 1 ∨ (67 ≤ j ∧ j ≤ 189)) := (FR_h).zsub frb (fun j hj => by omega)
      have hOT : PkOk (blkT (catD ld l) way least (winN fl e (l).length) ((ld).length + f) ((ld).length + (min (f + cut) (l).length)) S) := blkT_ok hl3 (by omega) (by omega) (by omega) (fun i _ => hDl i) hOS
      show WX _ _ _ 209 [(0, .ref 0), (1, .int (nI fl)), (3, .int (nI cut)), (5, .int (nI ((ld).length + (l).length))), (6, .int (nI ((ld).length + f))), (7, .int (nI ((ld).length + (min (f + cut) (l).length))))] [] (n, s, hb)
      refine WX.s1 rfl rfl ?_
      refine WX.s1 (L' := [(0, .ref 0), (1, .int (nI fl)), (3, .int (nI cut)), (5, .int (nI ((ld).length + (l).length))), (6, .int (nI ((ld).length + (min (f + cut) (l).length)))), (7, .int (nI ((ld).length + (min (f + cut) (l).length))))]) rfl rfl ?_
      refine WX.s1 rfl rfl ?_
      refine WX.s1 rfl rfl ?_
      refine WX.icmp rfl (fun c_217 => ?_) (fun c_217 => absurd ((nI_leI (a := (ld).length + (l).length) (b := (ld).length + (min (f + cut) (l).length)) (by omega) (by omega)).mpr (by omega)) c_217)
      clear c_217
      refine WX.keep (y := 131) [0, 1] (show ([0, 1, 3, 5, 6, 7] : List Nat).Nodup by decide) rfl ?_
      rw [blks_end (by omega)] at hAll
      have e1 : (prS fl e cut way least ld l T).1 = acc ++ (blkB (catD ld l) way least (winN fl e (l).length) ((ld).length + f) ((ld).length + (min (f + cut) (l).length)) 1 S) := congrArg Prod.fst hAll
      have e2 : (prS fl e cut way least ld l T).2 = (blkT (catD ld l) way least (winN fl e (l).length) ((ld).length + f) ((ld).length + (min (f + cut) (l).length)) S) := congrArg Prod.snd hAll
      exact x_prEnd (d := d + 3) hn hnb hno hsd hid hw hl3 hl8 hfl he hc1 hc2 hO (fun _ => (e2).symm) F_hb_0 F_hb_1 P_hb_in P_hb_co P_hb_st P_hb_dr P_hb_ou P_hb_ab (by rw [e1]; exact P_hb_nx) (P_hb_pk).toY (fun z h9 f9 q9 => k1 z h9 ((FR_hb).ztr f9) q9) (fun z h9 f9 q9 => k2 z h9 ((FR_hb).ztr f9) q9)
set_option maxRecDepth 20000 in
theorem x_prBeg {d n s : Nat} {h : Nat → aE} {ou ne sta dra id way least fl e cut : Nat} {l lo ld : List Nat} {T : PkS} {ab : Nat → Nat} {S : PkS} {sg : Nat} {b0 : Option (List Nat)} {ho0 : Int64} {hd0 : Int32} (hn : 190 ≤ n) (hnb : n < aBig) (hno : (ou = 3 ∧ ne = 5) ∨ (ou = 5 ∧ ne = 3)) (hsd : (sta = 9 ∧ dra = 38) ∨ (sta = 38 ∧ dra = 9)) (hid : id < 2 ^ 32) (hw : way ≤ 3) (hl3 : 3 ≤ least) (hl8 : least ≤ 8) (hfl : fl < 16) (he : e ≤ 11) (hc1 : 1 ≤ cut) (hc2 : cut ≤ 8000) (hO : PkOk T) (hsg : sg = sgN fl) (F_h_0 : h 0 = .inr (10, [.ref 1, .ref ou, .ref ne, .ref 7, .long (lN id), .ref sta, .ref dra, .ref 67, .ref 81, .ref 189, .int (nI way), .int (nI least)])) (F_h_1 : h 1 = .inr (7, [.ref 2, .int (nI (l).length), .int 0, .long 0, .int 0])) (F_h_7 : h 7 = .inr (7, [.ref 8, .int (nI (ld).length), .int 0, .long 0, .int 0])) (P_h_in : RowIs h 1 8000 (some l) 0 0) (P_h_co : RowIs h 7 8000 (some ld) 0 0) (P_h_st : StX h sta T) (P_h_dr : StZ h dra) (P_h_ou : RowIs h ou 12000 (some lo) 0 0) (P_h_ab : AbA h ab) (P_h_nx : RowIs h ne 12000 b0 ho0 hd0) (P_h_pk : PkY h S) {Ψ : Option Value → aH → Prop} (k1 : 12000 < (prY fl e cut id way least ld l T).length → ∀ h', Fr h h' (fun j => j = 0 ∨ j = ne ∨ j = ne + 1 ∨ (67 ≤ j ∧ j ≤ 189)) → SPY h' ou ne sta dra id way least l lo ld T ab → Ψ (some (.int (-1))) (n, s, h')) (k2 : (prY fl e cut id way least ld l T).length ≤ 12000 → ∀ h', Fr h h' (fun j => j = 0 ∨ j = ne ∨ j = ne + 1 ∨ (67 ≤ j ∧ j ≤ 189)) → SPY h' ne ou sta dra id way least l (prY fl e cut id way least ld l T) ld T (prS fl e cut way least ld l T).2.2.2.2.2.2 → Ψ (some (.int (nI (prY fl e cut id way least ld l T).length))) (n, s, h')) : WX (lk tX11_press) (mM (d + 7)) Ψ 64 [(0, .ref 0), (1, .int (nI fl)), (2, .int (nI e)), (3, .int (nI cut)), (4, .int (nI sg))] [] (n, s, h) := by
  have FR_h : Fr h h (fun j => j = 0 ∨ j = ne ∨ j = ne + 1 ∨ (67 ≤ j ∧ j ≤ 189)) := Fr.rf
  have hle := row_le P_h_in
  have hld := row_le P_h_co
  have hsgl := sg_le fl
  refine WX.s1 rfl rfl ?_
  refine WX.get1 (fs := [.ref 1, .ref ou, .ref ne, .ref 7, .long (lN id), .ref sta, .ref dra, .ref 67, .ref 81, .ref 189, .int (nI way), .int (nI least)]) rfl (by omega) (F_h_0) rfl ?_
  refine WX.callC (vs := [.ref ne]) rfl rfl rfl (Nat.le_of_ble_eq_true rfl) ((P_h_nx).rcv (by omega)) ?_
  refine w_dropB (d := d + 6) (by omega) P_h_nx (fun h68 fr68 P_h68_nx => ?_)
  have F_h68_0 : h68 0 = .inr (10, [.ref 1, .ref ou, .ref ne, .ref 7, .long (lN id), .ref sta, .ref dra, .ref 67, .ref 81, .ref 189, .int (nI way), .int (nI least)]) := (fr68 _ (by omega)).trans F_h_0
  have F_h68_1 : h68 1 = .inr (7, [.ref 2, .int (nI (l).length), .int 0, .long 0, .int 0]) := (fr68 _ (by omega)).trans F_h_1
  have F_h68_7 : h68 7 = .inr (7, [.ref 8, .int (nI (ld).length), .int 0, .long 0, .int 0]) := (fr68 _ (by omega)).trans F_h_7
  have P_h68_in : RowIs h68 1 8000 (some l) 0 0 := (P_h_in).zfr fr68 (by omega) (by omega)
  have P_h68_co : RowIs h68 7 8000 (some ld) 0 0 := (P_h_co).zfr fr68 (by omega) (by omega)
  have P_h68_st : StX h68 sta T := (P_h_st).zfr fr68 (fun j h1 h2 => by omega)
  have P_h68_dr : StZ h68 dra := (P_h_dr).zfr fr68 (fun j h1 h2 => by omega)
  have P_h68_ou : RowIs h68 ou 12000 (some lo) 0 0 := (P_h_ou).zfr fr68 (by omega) (by omega)
  have P_h68_ab : AbA h68 ab := (P_h_ab).zfr fr68 (by omega)
  have P_h68_pk : PkY h68 S := (P_h_pk).zfr fr68 (fun j h1 h2 => by omega) (fun j h1 => by omega)
  have FR_h68 : Fr h h68 (fun j => j = 0 ∨ j = ne ∨ j = ne + 1 ∨ (67 ≤ j ∧ j ≤ 189)) := (FR_h).zsub fr68 (fun j hj => by omega)
  show WX _ _ _ 71 [(0, .ref 0), (1, .int (nI fl)), (2, .int (nI e)), (3, .int (nI cut)), (4, .int (nI sg))] [] (n, s, h68)
  refine WX.s1 rfl rfl ?_
  refine WX.s1 rfl rfl ?_
  refine WX.s1 rfl rfl ?_
  refine WX.callC (vs := [.ref 0, .int (nI fl), .int (nI e)]) rfl rfl rfl (Nat.le_of_ble_eq_true rfl) (rcv_ok (by omega) F_h68_0) ?_
  refine x_head (d := d + 4) hn (by omega) hle hid hfl he F_h68_0 F_h68_1 P_h68_nx (fun h74 fr74 P_h74_nx => ?_)
  have F_h74_0 : h74 0 = .inr (10, [.ref 1, .ref ou, .ref ne, .ref 7, .long (lN id), .ref sta, .ref dra, .ref 67, .ref 81, .ref 189, .int (nI way), .int (nI least)]) := (fr74 _ (by omega)).trans F_h68_0
  have F_h74_1 : h74 1 = .inr (7, [.ref 2, .int (nI (l).length), .int 0, .long 0, .int 0]) := (fr74 _ (by omega)).trans F_h68_1
  have F_h74_7 : h74 7 = .inr (7, [.ref 8, .int (nI (ld).length), .int 0, .long 0, .int 0]) := (fr74 _ (by omega)).trans F_h68_7
  have P_h74_in : RowIs h74 1 8000 (some l) 0 0 := (P_h68_in).zfr fr74 (by omega) (by omega)
  have P_h74_co : RowIs h74 7 8000 (some ld) 0 0 := (P_h68_co).zfr fr74 (by omega) (by omega)
  have P_h74_st : StX h74 sta T := (P_h68_st).zfr fr74 (fun j h1 h2 => by omega)
  have P_h74_dr : StZ h74 dra := (P_h68_dr).zfr fr74 (fun j h1 h2 => by omega)
  have P_h74_ou : RowIs h74 ou 12000 (some lo) 0 0 := (P_h68_ou).zfr fr74 (by omega) (by omega)
  have P_h74_ab : AbA h74 ab := (P_h68_ab).zfr fr74 (by omega)
  have P_h74_pk : PkY h74 S := (P_h68_pk).zfr fr74 (fun j h1 h2 => by omega) (fun j h1 => by omega)
  have FR_h74 : Fr h h74 (fun j => j = 0 ∨ j = ne ∨ j = ne + 1 ∨ (67 ≤ j ∧ j ≤ 189)) := (FR_h68).zsub fr74 (fun j hj => by omega)
  show WX _ _ _ 77 [(0, .ref 0), (1, .int (nI fl)), (2, .int (nI e)), (3, .int (nI cut)), (4, .int (nI sg))] [] (n, s, h74)
  refine WX.s1 rfl rfl ?_
  refine WX.get1 (fs := [.ref 1, .ref ou, .ref ne, .ref 7, .long (lN id), .ref sta, .ref dra, .ref 67, .ref 81, .ref 189, .int (nI way), .int (nI least)]) rfl (by omega) (F_h74_0) rfl ?_
  refine WX.s1 rfl rfl ?_
  refine WX.get1 (fs := [.ref 1, .ref ou, .ref ne, .ref 7, .long (lN id), .ref sta, .ref dra, .ref 67, .ref 81, .ref 189, .int (nI way), .int (nI least)]) rfl (by omega) (F_h74_0) rfl ?_
  refine WX.callC (vs := [.ref 81, .ref sta]) rfl rfl rfl (Nat.le_of_ble_eq_true rfl) ((P_h74_pk).rcv (by omega)) ?_
  refine x_pBeg (d := d + 4) hn (by omega) hnb hO P_h74_pk P_h74_st (fun h85 fr85 P_h85_pk => ?_)
  have F_h85_0 : h85 0 = .inr (10, [.ref 1, .ref ou, .ref ne, .ref 7, .long (lN id), .ref sta, .ref dra, .ref 67, .ref 81, .ref 189, .int (nI way), .int (nI least)]) := (fr85 _ (by omega)).trans F_h74_0
  have F_h85_1 : h85 1 = .inr (7, [.ref 2, .int (nI (l).length), .int 0, .long 0, .int 0]) := (fr85 _ (by omega)).trans F_h74_1
  have F_h85_7 : h85 7 = .inr (7, [.ref 8, .int (nI (ld).length), .int 0, .long 0, .int 0]) := (fr85 _ (by omega)).trans F_h74_7
  have P_h85_in : RowIs h85 1 8000 (some l) 0 0 := (P_h74_in).zfr fr85 (by omega) (by omega)
  have P_h85_co : RowIs h85 7 8000 (some ld) 0 0 := (P_h74_co).zfr fr85 (by omega) (by omega)
  have P_h85_st : StX h85 sta T := (P_h74_st).zfr fr85 (fun j h1 h2 => by omega)
  have P_h85_dr : StZ h85 dra := (P_h74_dr).zfr fr85 (fun j h1 h2 => by omega)
  have P_h85_ou : RowIs h85 ou 12000 (some lo) 0 0 := (P_h74_ou).zfr fr85 (by omega) (by omega)
  have P_h85_ab : AbA h85 ab := (P_h74_ab).zfr fr85 (by omega)
  have P_h85_nx : RowIs h85 ne 12000 (bputs 12000 (some []) (hdF fl e id (l).length)) 0 0 := (P_h74_nx).zfr fr85 (by omega) (by omega)
  have FR_h85 : Fr h h85 (fun j => j = 0 ∨ j = ne ∨ j = ne + 1 ∨ (67 ≤ j ∧ j ≤ 189)) := (FR_h74).zsub fr85 (fun j hj => by omega)
  show WX _ _ _ 88 [(0, .ref 0), (1, .int (nI fl)), (2, .int (nI e)), (3, .int (nI cut)), (4, .int (nI sg))] [] (n, s, h85)
  obtain ⟨P_h85_pr, P_h85_fz⟩ := PkY.sp P_h85_pk
  obtain ⟨⟨cnt, F_h85_81⟩, -⟩ := idP P_h85_pr
  refine WX.s1 rfl rfl ?_
  refine WX.get1 (fs := [.ref 1, .ref ou, .ref ne, .ref 7, .long (lN id), .ref sta, .ref dra, .ref 67, .ref 81, .ref 189, .int (nI way), .int (nI least)]) rfl (by omega) (F_h85_0) rfl ?_
  refine WX.get1 (fs := [.ref 82, .ref 89, .ref 108, .ref 135, .ref 162, .ref 86, .ref 87, .int cnt, .ref 88]) rfl (by omega) (F_h85_81) rfl ?_
  refine WX.s1 rfl rfl ?_
  refine WX.get1 (fs := [.ref 1, .ref ou, .ref ne, .ref 7, .long (lN id), .ref sta, .ref dra, .ref 67, .ref 81, .ref 189, .int (nI way), .int (nI least)]) rfl (by omega) (F_h85_0) rfl ?_
  refine WX.s1 rfl rfl ?_
  refine WX.get1 (fs := [.ref 1, .ref ou, .ref ne, .ref 7, .long (lN id), .ref sta, .ref dra, .ref 67, .ref 81, .ref 189, .int (nI way), .int (nI least)]) rfl (by omega) (F_h85_0) rfl ?_
  have hrc : rcv 4 [.ref 82, .ref 7, .ref 1] (n, s, h85) = true := by
    obtain ⟨_, _, _, _, _, _, _, _, _, _, _, _, _, q, -⟩ := P_h85_fz
    exact rcv_ok (by omega) q
  refine WX.callC (vs := [.ref 82, .ref 7, .ref 1]) rfl rfl rfl (Nat.le_of_ble_eq_true rfl) hrc ?_
  refine x_loadR (d := d + 5) hn (by omega) (by omega) (by decide) (by decide) (by omega) P_h85_fz P_h85_co P_h85_in (fun hc fw fl_ fwi fe fle fdi fap fal fad dA eA hA frc F_hc_82 F_hc_83 F_hc_84 F_hc_85 hdA hCh => ?_)
  have F_hc_0 : hc 0 = .inr (10, [.ref 1, .ref ou, .ref ne, .ref 7, .long (lN id), .ref sta, .ref dra, .ref 67, .ref 81, .ref 189, .int (nI way), .int (nI least)]) := (frc _ (by omega)).trans F_h85_0
  have F_hc_1 : hc 1 = .inr (7, [.ref 2, .int (nI (l).length), .int 0, .long 0, .int 0]) := (frc _ (by omega)).trans F_h85_1
  have F_hc_7 : hc 7 = .inr (7, [.ref 8, .int (nI (ld).length), .int 0, .long 0, .int 0]) := (frc _ (by omega)).trans F_h85_7
  have F_hc_81 : hc 81 = .inr (6, [.ref 82, .ref 89, .ref 108, .ref 135, .ref 162, .ref 86, .ref 87, .int cnt, .ref 88]) := (frc _ (by omega)).trans F_h85_81
  have P_hc_in : RowIs hc 1 8000 (some l) 0 0 := (P_h85_in).zfr frc (by omega) (by omega)
  have P_hc_co : RowIs hc 7 8000 (some ld) 0 0 := (P_h85_co).zfr frc (by omega) (by omega)
  have P_hc_st : StX hc sta T := (P_h85_st).zfr frc (fun j h1 h2 => by omega)
  have P_hc_dr : StZ hc dra := (P_h85_dr).zfr frc (fun j h1 h2 => by omega)
  have P_hc_ou : RowIs hc ou 12000 (some lo) 0 0 := (P_h85_ou).zfr frc (by omega) (by omega)
  have P_hc_ab : AbA hc ab := (P_h85_ab).zfr frc (by omega)
  have P_hc_nx : RowIs hc ne 12000 (bputs 12000 (some []) (hdF fl e id (l).length)) 0 0 := (P_h85_nx).zfr frc (by omega) (by omega)
  have P_hc_pr : PkR hc (pkNt T (fun _ => 0)) := (P_h85_pr).zfr frc (fun j h1 h2 h3 => by omega) (fun j h1 => by omega)
  have FR_hc : Fr h hc (fun j => j = 0 ∨ j = ne ∨ j = ne + 1 ∨ (67 ≤ j ∧ j ≤ 189)) := (FR_h85).zsub frc (fun j hj => by omega)
  show WX _ _ _ 106 [(0, .ref 0), (1, .int (nI fl)), (2, .int (nI e)), (3, .int (nI cut)), (4, .int (nI sg))] [] (n, s, hc)
  refine WX.s1 rfl rfl ?_
  refine WX.get1 (fs := [.ref 1, .ref ou, .ref ne, .ref 7, .long (lN id), .ref sta, .ref dra, .ref 67, .ref 81, .ref 189, .int (nI way), .int (nI least)]) rfl (by omega) (F_hc_0) rfl ?_
  refine WX.get1 (fs := [.ref 82, .ref 89, .ref 108, .ref 135, .ref 162, .ref 86, .ref 87, .int cnt, .ref 88]) rfl (by omega) (F_hc_81) rfl ?_
  refine WX.s1 rfl rfl ?_
  refine WX.get1 (fs := [.ref 1, .ref ou, .ref ne, .ref 7, .long (lN id), .ref sta, .ref dra, .ref 67, .ref 81, .ref 189, .int (nI way), .int (nI least)]) rfl (by omega) (F_hc_0) rfl ?_
  refine WX.s1 rfl rfl ?_
  refine WX.get1 (fs := [.ref 1, .ref ou, .ref ne, .ref 7, .long (lN id), .ref sta, .ref dra, .ref 67, .ref 81, .ref 189, .int (nI way), .int (nI least)]) rfl (by omega) (F_hc_0) rfl ?_
  have t142 : ∀ (win : Nat), win = (winN fl e (l).length) → WX (lk tX11_press) (mM (d + 7)) Ψ 142 [(0, .ref 0), (1, .int (nI fl)), (2, .int (nI e)), (3, .int (nI cut)), (4, .int (nI sg))] [.int (nI win), .int (nI least), .int (nI way), .ref 82] (n, s, hc) := by
    intro win ewn
    refine WX.callC (vs := [.ref 82, .int (nI way), .int (nI least), .int (nI win)]) rfl rfl rfl (Nat.le_of_ble_eq_true rfl) (rcv_ok (by omega) F_hc_82) ?_
    refine x_obey (d := d + 6) hn F_hc_82 (fun h142 fr142 F_h142_82 => ?_)
    have F_h142_0 : h142 0 = .inr (10, [.ref 1, .ref ou, .ref ne, .ref 7, .long (lN id), .ref sta, .ref dra, .ref 67, .ref 81, .ref 189, .int (nI way), .int (nI least)]) := (fr142 _ (by omega)).trans F_hc_0
    have F_h142_1 : h142 1 = .inr (7, [.ref 2, .int (nI (l).length), .int 0, .long 0, .int 0]) := (fr142 _ (by omega)).trans F_hc_1
    have F_h142_7 : h142 7 = .inr (7, [.ref 8, .int (nI (ld).length), .int 0, .long 0, .int 0]) := (fr142 _ (by omega)).trans F_hc_7
    have F_h142_81 : h142 81 = .inr (6, [.ref 82, .ref 89, .ref 108, .ref 135, .ref 162, .ref 86, .ref 87, .int cnt, .ref 88]) := (fr142 _ (by omega)).trans F_hc_81
    have F_h142_83 : h142 83 = .inl (0, 16000, .inl dA) := (fr142 _ (by omega)).trans F_hc_83
    have F_h142_84 : h142 84 = .inl (1, 16000, .inl eA) := (fr142 _ (by omega)).trans F_hc_84
    have F_h142_85 : h142 85 = .inl (1, 4096, .inl hA) := (fr142 _ (by omega)).trans F_hc_85
    have P_h142_in : RowIs h142 1 8000 (some l) 0 0 := (P_hc_in).zfr fr142 (by omega) (by omega)
    have P_h142_co : RowIs h142 7 8000 (some ld) 0 0 := (P_hc_co).zfr fr142 (by omega) (by omega)
    have P_h142_st : StX h142 sta T := (P_hc_st).zfr fr142 (fun j h1 h2 => by omega)
    have P_h142_dr : StZ h142 dra := (P_hc_dr).zfr fr142 (fun j h1 h2 => by omega)
    have P_h142_ou : RowIs h142 ou 12000 (some lo) 0 0 := (P_hc_ou).zfr fr142 (by omega) (by omega)
    have P_h142_ab : AbA h142 ab := (P_hc_ab).zfr fr142 (by omega)
    have P_h142_nx : RowIs h142 ne 12000 (bputs 12000 (some []) (hdF fl e id (l).length)) 0 0 := (P_hc_nx).zfr fr142 (by omega) (by omega)
    have P_h142_pr : PkR h142 (pkNt T (fun _ => 0)) := (P_hc_pr).zfr fr142 (fun j h1 h2 h3 => by omega) (fun j h1 => by omega)
    have FR_h142 : Fr h h142 (fun j => j = 0 ∨ j = ne ∨ j = ne + 1 ∨ (67 ≤ j ∧ j ≤ 189)) := (FR_hc).zsub fr142 (fun j hj => by omega)
    show WX _ _ _ 145 [(0, .ref 0), (1, .int (nI fl)), (2, .int (nI e)), (3, .int (nI cut)), (4, .int (nI sg))] [] (n, s, h142)
    refine WX.s1 rfl rfl ?_
    refine WX.get1 (fs := [.ref 1, .ref ou, .ref ne, .ref 7, .long (lN id), .ref sta, .ref dra, .ref 67, .ref 81, .ref 189, .int (nI way), .int (nI least)]) rfl (by omega) (F_h142_0) rfl ?_
    refine WX.get1 (fs := [.ref 8, .int (nI (ld).length), .int 0, .long 0, .int 0]) rfl (by omega) (F_h142_7) rfl ?_
    refine WX.s1 rfl rfl ?_
    refine WX.get1 (fs := [.ref 1, .ref ou, .ref ne, .ref 7, .long (lN id), .ref sta, .ref dra, .ref 67, .ref 81, .ref 189, .int (nI way), .int (nI least)]) rfl (by omega) (F_h142_0) rfl ?_
    refine WX.get1 (fs := [.ref 2, .int (nI (l).length), .int 0, .long 0, .int 0]) rfl (by omega) (F_h142_1) rfl ?_
    refine WX.s1 (S' := [.int ((nI (ld).length) + (nI (l).length))]) rfl rfl ?_
    rw [show ((nI (ld).length) + (nI (l).length)) = nI ((ld).length + (l).length) from nI_add (ld).length (l).length]
    refine WX.s1 (L' := [(0, .ref 0), (1, .int (nI fl)), (2, .int (nI e)), (3, .int (nI cut)), (4, .int (nI sg)), (5, .int (nI ((ld).length + (l).length)))]) rfl rfl ?_
    refine WX.s1 rfl rfl ?_
    refine WX.get1 (fs := [.ref 1, .ref ou, .ref ne, .ref 7, .long (lN id), .ref sta, .ref dra, .ref 67, .ref 81, .ref 189, .int (nI way), .int (nI least)]) rfl (by omega) (F_h142_0) rfl ?_
    refine WX.get1 (fs := [.ref 8, .int (nI (ld).length), .int 0, .long 0, .int 0]) rfl (by omega) (F_h142_7) rfl ?_
    refine WX.s1 (L' := [(0, .ref 0), (1, .int (nI fl)), (2, .int (nI e)), (3, .int (nI cut)), (4, .int (nI sg)), (5, .int (nI ((ld).length + (l).length))), (6, .int (nI (ld).length))]) rfl rfl ?_
    rw [ewn] at F_h142_82
    have P_h142_pk : PkX h142 (catD ld l) (hsD (catD ld l)) ((ld).length + (l).length) way least (winN fl e (l).length) (pkNt T (fun _ => 0)) := (P_h142_pr).toX ⟨fe, fle, fdi, fap, fal, fad, dA, eA, hA, F_h142_82, F_h142_83, F_h142_84, F_h142_85, hdA, hCh⟩
    refine WX.keep (y := 131) [0, 1, 3, 5, 6] (show ([0, 1, 2, 3, 4, 5, 6] : List Nat).Nodup by decide) rfl ?_
    exact x_prLp (d := d) (f := 0) (S := (pkNt T (fun _ => 0))) (acc := []) ((l).length + 1) hn hnb hno hsd hid hw hl3 hl8 hfl he hc1 hc2 hO (by omega) (by omega) hO rfl F_h142_0 F_h142_1 P_h142_in P_h142_co P_h142_st P_h142_dr P_h142_ou P_h142_ab (by rw [List.append_nil]; exact P_h142_nx) P_h142_pk (fun z h9 f9 q9 => k1 z h9 ((FR_h142).ztr f9) q9) (fun z h9 f9 q9 => k2 z h9 ((FR_h142).ztr f9) q9)
  refine WX.s1 rfl rfl ?_
  refine WX.if_ rfl (fun c_123 => ?_) (fun c_123 => ?_)
  · skip
    have n_123 : sg = 0 := (nI_eq (a := sg) (b := 0) (by omega) (by omega)).mp c_123
    refine WX.s1 rfl rfl ?_
    refine WX.s1 rfl rfl ?_
    refine WX.s1 rfl rfl ?_
    refine WX.s1 (S' := [.int (10 + (nI e)), .int 1, .int (nI least), .int (nI way), .ref 82]) rfl rfl ?_
    rw [show (10 + (nI e)) = nI (10 + e) from nI_add 10 e]
    refine WX.s1 (S' := [.int (1 <<< ((nI (10 + e)) &&& 31)), .int (nI least), .int (nI way), .ref 82]) rfl rfl ?_
    rw [s_sh e he]
    exact t142 _ (by unfold winN; rw [if_neg (by omega)])
  · skip
    have n_123 : ¬ sg = 0 := fun zz_ => c_123 ((nI_eq (a := sg) (b := 0) (by omega) (by omega)).mpr zz_)
    refine WX.s1 rfl rfl ?_
    refine WX.get1 (fs := [.ref 1, .ref ou, .ref ne, .ref 7, .long (lN id), .ref sta, .ref dra, .ref 67, .ref 81, .ref 189, .int (nI way), .int (nI least)]) rfl (by omega) (F_hc_0) rfl ?_
    refine WX.get1 (fs := [.ref 2, .int (nI (l).length), .int 0, .long 0, .int 0]) rfl (by omega) (F_hc_1) rfl ?_
    refine WX.s1 rfl rfl ?_
    exact t142 _ (by unfold winN; rw [if_pos (by omega)])
def prBd (fl e cut : Int32) : Prop := fl < 0 ∨ 15 < fl ∨ e < 0 ∨ 11 < e ∨ cut < 1 ∨ 8000 < cut ∨ (fl &&& 4 = 0 ∧ ¬ cut ≤ (1 : Int32) <<< ((10 + e) &&& 31))
def PrN (fl e cut : Int32) (fN eN cN : Nat) : Prop := fl = nI fN ∧ e = nI eN ∧ cut = nI cN ∧ fN < 16 ∧ eN ≤ 11 ∧ 1 ≤ cN ∧ cN ≤ 8000
theorem pr_nat {fl e cut : Int32} (h1 : ¬ fl < 0) (h2 : ¬ 15 < fl) (h3 : ¬ e < 0) (h4 : ¬ 11 < e) (h5 : ¬ cut < 1) (h6 : cut ≤ 8000) : ∃ fN eN cN, PrN fl e cut fN eN cN := by
  obtain ⟨a, ha, rfl⟩ := nI_of h1
  obtain ⟨b, hb, rfl⟩ := nI_of h3
  have h7 : ¬ cut < 0 := fun z => h5 (Int32.lt_trans z (by decide))
  obtain ⟨c, hc, rfl⟩ := nI_of h7
  have q2 := mt (nI_ltI (a := 15) (b := a) (by decide) ha).mpr h2
  have q4 := mt (nI_ltI (a := 11) (b := b) (by decide) hb).mpr h4
  have q5 := mt (nI_ltI (a := c) (b := 1) hc (by decide)).mpr h5
  have q6 := (nI_leI (a := c) (b := 8000) hc (by decide)).mp h6
  exact ⟨a, b, c, rfl, rfl, rfl, by omega, by omega, by omega, by omega⟩
set_option maxRecDepth 20000 in
theorem x_pressL {d n s : Nat} {h : Nat → aE} {id way least : Nat} {l lo ld : List Nat} {T : PkS} {ab : Nat → Nat} {fl e cut : Int32} (hn : 190 ≤ n) (hnb : n < aBig) (hid : id < 2 ^ 32) (hw : way ≤ 3) (hl3 : 3 ≤ least) (hl8 : least ≤ 8) (hO : PkOk T) (hX : SPX h id way least l lo ld T ab)   {Ψ : Option Value → aH → Prop} (k0 : prBd fl e cut → Ψ (some (.int (-1))) (n, s, h)) (k1 : ∀ fN eN cN h', ¬ prBd fl e cut → PrN fl e cut fN eN cN → 12000 < (prY fN eN cN id way least ld l T).length → Fr h h' (fun j => j ≤ 189) → SPX h' id way least l lo ld T ab → Ψ (some (.int (-1))) (n, s, h')) (k2 : ∀ fN eN cN h', ¬ prBd fl e cut → PrN fl e cut fN eN cN → (prY fN eN cN id way least ld l T).length ≤ 12000 → Fr h h' (fun j => j ≤ 189) → SPX h' id way least l (prY fN eN cN id way least ld l T) ld T (prS fN eN cN way least ld l T).2.2.2.2.2.2 → Ψ (some (.int (nI (prY fN eN cN id way least ld l T).length))) (n, s, h')) : WO (mM (d + 8)) 131 [.ref 0, .int fl, .int e, .int cut] (n, s, h) Ψ := by
  refine WO.of (Nat.le_of_ble_eq_true rfl) ?_
  have FR_h : Fr h h (fun j => False) := Fr.rf
  show WX (lk tX11_press) (mM (d + 7)) Ψ 0 [(0, .ref 0), (1, .int fl), (2, .int e), (3, .int cut)] [] (n, s, h)
  refine WX.s1 rfl rfl ?_
  refine WX.if_ rfl (fun c_1 => ?_) (fun c_1 => ?_)
  · skip
    refine WX.s1 rfl rfl ?_
    exact WX.ret1 rfl (k0 (Or.inl c_1))
  · skip
    refine WX.s1 rfl rfl ?_
    refine WX.s1 rfl rfl ?_
    refine WX.icmp rfl (fun c_7 => ?_) (fun c_7 => ?_)
    · skip
      refine WX.s1 rfl rfl ?_
      exact WX.ret1 rfl (k0 (Or.inr (Or.inl c_7)))
    · skip
      refine WX.s1 rfl rfl ?_
      refine WX.if_ rfl (fun c_11 => ?_) (fun c_11 => ?_)
      · skip
        refine WX.s1 rfl rfl ?_
        exact WX.ret1 rfl (k0 (Or.inr (Or.inr (Or.inl c_11))))
      · skip
        refine WX.s1 rfl rfl ?_
        refine WX.s1 rfl rfl ?_
        refine WX.icmp rfl (fun c_17 => ?_) (fun c_17 => ?_)
        · skip
          refine WX.s1 rfl rfl ?_
          exact WX.ret1 rfl (k0 (Or.inr (Or.inr (Or.inr (Or.inl c_17)))))
        · skip
          refine WX.s1 rfl rfl ?_
          refine WX.s1 rfl rfl ?_
          refine WX.icmp rfl (fun c_22 => ?_) (fun c_22 => ?_)
          · skip
            refine WX.s1 rfl rfl ?_
            exact WX.ret1 rfl (k0 (Or.inr (Or.inr (Or.inr (Or.inr (Or.inl c_22))))))
          · skip
            refine WX.s1 rfl rfl ?_
            refine WX.s1 rfl rfl ?_
            refine WX.icmp rfl (fun c_29 => ?_) (fun c_29 => ?_)
            · skip
              have t45 : ∀ sg : Int32, (sg = 0 ∧ fl &&& 4 = 0) ∨ (sg = 1 ∧ ¬ fl &&& 4 = 0) → WX (lk tX11_press) (mM (d + 7)) Ψ 45 [(0, .ref 0), (1, .int fl), (2, .int e), (3, .int cut)] [.int sg] (n, s, h) := by
                intro sg hsg
                refine WX.s1 (L' := [(0, .ref 0), (1, .int fl), (2, .int e), (3, .int cut), (4, .int sg)]) rfl rfl ?_
                refine WX.s1 rfl rfl ?_
                refine WX.if_ rfl (fun c_49 => ?_) (fun c_49 => ?_)
                · skip
                  have hbad : ¬ (fl &&& 4 = 0 ∧ ¬ cut ≤ (1 : Int32) <<< ((10 + e) &&& 31)) := fun z => by
                    rcases hsg with q | q
                    · exact c_49 q.1
                    · exact q.2 z.1
                  have es : sg = 1 := by
                    rcases hsg with q | q
                    · exact absurd q.1 c_49
                    · exact q.1
                  have ef : ¬ fl &&& 4 = 0 := by
                    rcases hsg with q | q
                    · exact absurd q.1 c_49
                    · exact q.2
                  have esg : ∀ fN, fl = nI fN → fN < 16 → sg = nI (sgN fN) := fun fN q hq => by
                    have z := fl_4 fN hq
                    rw [← q] at z
                    rw [es]
                    have : sgN fN = 1 := by unfold sgN; have := mt (z).mpr ef; omega
                    rw [this]; rfl
                  have hnB : ¬ prBd fl e cut := by
                    rintro (z | z | z | z | z | z | z)
                    · exact c_1 z
                    · exact c_7 z
                    · exact c_11 z
                    · exact c_17 z
                    · exact c_22 z
                    · exact absurd c_29 (Int32.not_le.mpr z)
                    · exact hbad z
                  obtain ⟨fN, eN, cN, hPN⟩ := pr_nat c_1 c_7 c_11 c_17 c_22 c_29
                  rw [esg fN hPN.1 hPN.2.2.2.1]
                  clear esg es ef hbad
                  obtain ⟨rfl, rfl, rfl, p1, p2, p3, p4⟩ := idP hPN
                  obtain ⟨ou, ne, sta, dra, a1, a2, a3, a4, a5, ⟨b0, ho0, hd0, a6⟩, a7, a8, a9, ⟨S, a10⟩, a11⟩ := hX
                  exact x_prBeg (d := d) (sg := sgN fN) hn hnb a2 a3 hid hw hl3 hl8 p1 p2 p3 p4 hO rfl a1 (row_obj a4) (row_obj a7) a4 a7 a8 a9 a5 a11 a6 a10 (fun z h9 f9 q9 => k1 _ _ _ h9 hnB hPN z ((f9).mono (fun j hj => by omega)) ⟨_, _, _, _, q9⟩) (fun z h9 f9 q9 => k2 _ _ _ h9 hnB hPN z ((f9).mono (fun j hj => by omega)) ⟨_, _, _, _, q9⟩)
                · skip
                  refine WX.s1 rfl rfl ?_
                  refine WX.s1 rfl rfl ?_
                  refine WX.s1 rfl rfl ?_
                  refine WX.s1 rfl rfl ?_
                  refine WX.s1 (S' := [.int (10 + e), .int 1, .int cut]) rfl rfl ?_
                  refine WX.s1 (S' := [.int (1 <<< ((10 + e) &&& 31)), .int cut]) rfl rfl ?_
                  refine WX.icmp rfl (fun c_59 => ?_) (fun c_59 => ?_)
                  · skip
                    have hbad : ¬ (fl &&& 4 = 0 ∧ ¬ cut ≤ (1 : Int32) <<< ((10 + e) &&& 31)) := fun z => z.2 c_59
                    have es : sg = 0 := Classical.not_not.mp c_49
                    have ef : fl &&& 4 = 0 := by
                      rcases hsg with q | q
                      · exact q.2
                      · exact absurd es (by rw [q.1]; decide)
                    have esg : ∀ fN, fl = nI fN → fN < 16 → sg = nI (sgN fN) := fun fN q hq => by
                      have z := fl_4 fN hq
                      rw [← q] at z
                      rw [es]
                      have : sgN fN = 0 := by unfold sgN; exact (z).mp ef
                      rw [this]; rfl
                    have hnB : ¬ prBd fl e cut := by
                      rintro (z | z | z | z | z | z | z)
                      · exact c_1 z
                      · exact c_7 z
                      · exact c_11 z
                      · exact c_17 z
                      · exact c_22 z
                      · exact absurd c_29 (Int32.not_le.mpr z)
                      · exact hbad z
                    obtain ⟨fN, eN, cN, hPN⟩ := pr_nat c_1 c_7 c_11 c_17 c_22 c_29
                    rw [esg fN hPN.1 hPN.2.2.2.1]
                    clear esg es ef hbad
                    obtain ⟨rfl, rfl, rfl, p1, p2, p3, p4⟩ := idP hPN
                    obtain ⟨ou, ne, sta, dra, a1, a2, a3, a4, a5, ⟨b0, ho0, hd0, a6⟩, a7, a8, a9, ⟨S, a10⟩, a11⟩ := hX
                    exact x_prBeg (d := d) (sg := sgN fN) hn hnb a2 a3 hid hw hl3 hl8 p1 p2 p3 p4 hO rfl a1 (row_obj a4) (row_obj a7) a4 a7 a8 a9 a5 a11 a6 a10 (fun z h9 f9 q9 => k1 _ _ _ h9 hnB hPN z ((f9).mono (fun j hj => by omega)) ⟨_, _, _, _, q9⟩) (fun z h9 f9 q9 => k2 _ _ _ h9 hnB hPN z ((f9).mono (fun j hj => by omega)) ⟨_, _, _, _, q9⟩)
                  · skip
                    refine WX.s1 rfl rfl ?_
                    refine WX.ret1 rfl (k0 (Or.inr (Or.inr (Or.inr (Or.inr (Or.inr (Or.inr ⟨?_, c_59⟩)))))))
                    rcases hsg with q | q
                    · exact q.2
                    · exact absurd (Classical.not_not.mp c_49) (by rw [q.1]; decide)
              refine WX.s1 rfl rfl ?_
              refine WX.s1 rfl rfl ?_
              refine WX.s1 (S' := [.int (fl &&& 4)]) rfl rfl ?_
              refine WX.if_ rfl (fun c_37 => ?_) (fun c_37 => ?_)
              · skip
                refine WX.s1 rfl rfl ?_
                exact t45 0 (Or.inl ⟨rfl, c_37⟩)
              · skip
                refine WX.s1 rfl rfl ?_
                refine WX.s1 rfl rfl ?_
                exact t45 1 (Or.inr ⟨rfl, c_37⟩)
            · skip
              refine WX.s1 rfl rfl ?_
              exact WX.ret1 rfl (k0 (Or.inr (Or.inr (Or.inr (Or.inr (Or.inr (Or.inl (Int32.not_le.mp c_29))))))))
