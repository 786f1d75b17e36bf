/-! make of the class -/
theorem stN_ok : PkOk stN := ⟨trivial, ⟨trivial, trivial, trivial⟩, ⟨by decide, by decide, by decide, by decide, by decide, by decide⟩, fun x hx => absurd hx (by simp [stN]), fun x hx => absurd hx (by simp [stN]), fun x hx => absurd hx (by simp [stN])⟩
set_option maxRecDepth 20000 in
theorem x_forms {d n s : Nat} {h : Nat → aE} {r RN : Nat} {y : List Nat} {qs : List Sq} {lt : Sq} {tH1 tH2 tH3 : Option Tb} {cnt u_ ki by_ sh be : Int32} {bb : Option (List Nat)} (hn : 190 ≤ n) (hnb : n < aBig) (hr : r + 1 < 67) (hRN : RN < 2 ^ 31) (hq1 : 1 ≤ (qs).length) (hq2 : (qs).length ≤ 2667) (F_h_81 : h 81 = .inr (6, [.ref 82, .ref 89, .ref 108, .ref 135, .ref 162, .ref 86, .ref 87, .int cnt, .ref 88])) (F_h_89 : h 89 = .inr (5, [.ref 90, .ref 91, .int u_, .ref 92, .ref 96, .ref 100, .ref 67, .ref 106, .int ki, .int by_, .int sh, .int be])) (P_h_rw : RowIs h r RN bb 0 0) (P_h_to : RowIs h 106 256 (some y) 0 0) (P_h_g1 : CG1 h tH1 (seqV1 qs)) (P_h_g2 : CG2 h tH2 (numF lt qs).1) (P_h_g3 : CG3 h tH3 (seqV3 qs)) {Ψ : Option Value → aH → Prop} (kk : ∀ h', Fr h h' (fun j => j = r ∨ j = r + 1 ∨ (108 ≤ j ∧ j ≤ 188)) → RowIs h' r RN (bputs RN bb (y ++ ((boY ((numF lt qs).1.map sy2) 8) ++ ((boY ((seqV3 qs).map sy3) 9) ++ (boY ((seqV1 qs).map sy1) 9))))) 0 0 → RowIs h' 106 256 (some y) 0 0 → CG1 h' tH1 (seqV1 qs) → CG2 h' tH2 (numF lt qs).1 → CG3 h' tH3 (seqV3 qs) → Ψ none (n, s, h')) : WO (mM (d + 7)) 83 [.ref 81, .ref r] (n, s, h) Ψ := by
  refine WO.of (Nat.le_of_ble_eq_true rfl) ?_
  have FR_h : Fr h h (fun j => j = r ∨ j = r + 1 ∨ (108 ≤ j ∧ j ≤ 188)) := Fr.rf
  have hB : aBig = 1000000 := rfl
  have l1 := v1_len qs
  have l3 := v3_len qs
  have l2 : (numF lt qs).1.length = (qs).length := numF_len _ _
  show WX (lk tX6_putForms) (mM (d + 6)) Ψ 0 [(0, .ref 81), (1, .ref r)] [] (n, s, h)
  refine WX.s1 rfl rfl ?_
  refine WX.get1 (fs := [.ref 82, .ref 89, .ref 108, .ref 135, .ref 162, .ref 86, .ref 87, .int cnt, .ref 88]) rfl (by omega) (F_h_81) rfl ?_
  refine WX.s1 rfl rfl ?_
  refine WX.callC (vs := [.ref 89, .ref r]) rfl rfl rfl (Nat.le_of_ble_eq_true rfl) (rcv_ok (by omega) F_h_89) ?_
  refine x_lDesc (d := d + 3) hn hr hRN F_h_89 P_h_rw P_h_to (fun h5 fr5 P_h5_rw => ?_)
  have F_h5_81 : h5 81 = .inr (6, [.ref 82, .ref 89, .ref 108, .ref 135, .ref 162, .ref 86, .ref 87, .int cnt, .ref 88]) := (fr5 _ (by omega)).trans F_h_81
  have F_h5_89 : h5 89 = .inr (5, [.ref 90, .ref 91, .int u_, .ref 92, .ref 96, .ref 100, .ref 67, .ref 106, .int ki, .int by_, .int sh, .int be]) := (fr5 _ (by omega)).trans F_h_89
  have P_h5_to : RowIs h5 106 256 (some y) 0 0 := (P_h_to).zfr fr5 (by omega) (by omega)
  have P_h5_g1 : CG1 h5 tH1 (seqV1 qs) := (P_h_g1).zfr fr5 (fun j h1 h2 => by omega) (by omega) (by omega)
  have P_h5_g2 : CG2 h5 tH2 (numF lt qs).1 := (P_h_g2).zfr fr5 (fun j h1 h2 => by omega) (by omega) (by omega)
  have P_h5_g3 : CG3 h5 tH3 (seqV3 qs) := (P_h_g3).zfr fr5 (fun j h1 h2 => by omega) (by omega) (by omega)
  have FR_h5 : Fr h h5 (fun j => j = r ∨ j = r + 1 ∨ (108 ≤ j ∧ j ≤ 188)) := (FR_h).zsub fr5 (fun j hj => by omega)
  show WX _ _ _ 8 [(0, .ref 81), (1, .ref r)] [] (n, s, h5)
  refine WX.s1 rfl rfl ?_
  refine WX.get1 (fs := [.ref 82, .ref 89, .ref 108, .ref 135, .ref 162, .ref 86, .ref 87, .int cnt, .ref 88]) rfl (by omega) (F_h5_81) rfl ?_
  refine WX.s1 rfl rfl ?_
  refine WX.callC (vs := [.ref 135, .ref r]) rfl rfl rfl (Nat.le_of_ble_eq_true rfl) ((P_h5_g2).rcv (by omega)) ?_
  refine x_kSh (d := d) (c := 135) hn hnb (by omega) (by omega) hRN (by decide) (by decide) (by decide) rfl sy2_lt (by omega) (by omega) P_h5_g2 P_h5_rw (fun h13 fr13 P_h13_rw P_h13_g2 => ?_)
  have F_h13_81 : h13 81 = .inr (6, [.ref 82, .ref 89, .ref 108, .ref 135, .ref 162, .ref 86, .ref 87, .int cnt, .ref 88]) := (fr13 _ (by omega)).trans F_h5_81
  have F_h13_89 : h13 89 = .inr (5, [.ref 90, .ref 91, .int u_, .ref 92, .ref 96, .ref 100, .ref 67, .ref 106, .int ki, .int by_, .int sh, .int be]) := (fr13 _ (by omega)).trans F_h5_89
  have P_h13_to : RowIs h13 106 256 (some y) 0 0 := (P_h5_to).zfr fr13 (by omega) (by omega)
  have P_h13_g1 : CG1 h13 tH1 (seqV1 qs) := (P_h5_g1).zfr fr13 (fun j h1 h2 => by omega) (by omega) (by omega)
  have P_h13_g3 : CG3 h13 tH3 (seqV3 qs) := (P_h5_g3).zfr fr13 (fun j h1 h2 => by omega) (by omega) (by omega)
  have FR_h13 : Fr h h13 (fun j => j = r ∨ j = r + 1 ∨ (108 ≤ j ∧ j ≤ 188)) := (FR_h5).zsub fr13 (fun j hj => by omega)
  show WX _ _ _ 16 [(0, .ref 81), (1, .ref r)] [] (n, s, h13)
  refine WX.s1 rfl rfl ?_
  refine WX.get1 (fs := [.ref 82, .ref 89, .ref 108, .ref 135, .ref 162, .ref 86, .ref 87, .int cnt, .ref 88]) rfl (by omega) (F_h13_81) rfl ?_
  refine WX.s1 rfl rfl ?_
  refine WX.callC (vs := [.ref 162, .ref r]) rfl rfl rfl (Nat.le_of_ble_eq_true rfl) ((P_h13_g3).rcv (by omega)) ?_
  refine x_kSh (d := d) (c := 162) hn hnb (by omega) (by omega) hRN (by decide) (by decide) (by decide) rfl sy3_lt (by omega) (by omega) P_h13_g3 P_h13_rw (fun h21 fr21 P_h21_rw P_h21_g3 => ?_)
  have F_h21_81 : h21 81 = .inr (6, [.ref 82, .ref 89, .ref 108, .ref 135, .ref 162, .ref 86, .ref 87, .int cnt, .ref 88]) := (fr21 _ (by omega)).trans F_h13_81
  have F_h21_89 : h21 89 = .inr (5, [.ref 90, .ref 91, .int u_, .ref 92, .ref 96, .ref 100, .ref 67, .ref 106, .int ki, .int by_, .int sh, .int be]) := (fr21 _ (by omega)).trans F_h13_89
  have P_h21_to : RowIs h21 106 256 (some y) 0 0 := (P_h13_to).zfr fr21 (by omega) (by omega)
  have P_h21_g1 : CG1 h21 tH1 (seqV1 qs) := (P_h13_g1).zfr fr21 (fun j h1 h2 => by omega) (by omega) (by omega)
  have P_h21_g2 : CG2 h21 tH2 (numF lt qs).1 := (P_h13_g2).zfr fr21 (fun j h1 h2 => by omega) (by omega) (by omega)
  have FR_h21 : Fr h h21 (fun j => j = r ∨ j = r + 1 ∨ (108 ≤ j ∧ j ≤ 188)) := (FR_h13).zsub fr21 (fun j hj => by omega)
  show WX _ _ _ 24 [(0, .ref 81), (1, .ref r)] [] (n, s, h21)
  refine WX.s1 rfl rfl ?_
  refine WX.get1 (fs := [.ref 82, .ref 89, .ref 108, .ref 135, .ref 162, .ref 86, .ref 87, .int cnt, .ref 88]) rfl (by omega) (F_h21_81) rfl ?_
  refine WX.s1 rfl rfl ?_
  refine WX.callC (vs := [.ref 108, .ref r]) rfl rfl rfl (Nat.le_of_ble_eq_true rfl) ((P_h21_g1).rcv (by omega)) ?_
  refine x_kSh (d := d) (c := 108) hn hnb (by omega) (by omega) hRN (by decide) (by decide) (by decide) rfl sy1_lt (by omega) (by omega) P_h21_g1 P_h21_rw (fun h29 fr29 P_h29_rw P_h29_g1 => ?_)
  have F_h29_81 : h29 81 = .inr (6, [.ref 82, .ref 89, .ref 108, .ref 135, .ref 162, .ref 86, .ref 87, .int cnt, .ref 88]) := (fr29 _ (by omega)).trans F_h21_81
  have F_h29_89 : h29 89 = .inr (5, [.ref 90, .ref 91, .int u_, .ref 92, .ref 96, .ref 100, .ref 67, .ref 106, .int ki, .int by_, .int sh, .int be]) := (fr29 _ (by omega)).trans F_h21_89
  have P_h29_to : RowIs h29 106 256 (some y) 0 0 := (P_h21_to).zfr fr29 (by omega) (by omega)
  have P_h29_g2 : CG2 h29 tH2 (numF lt qs).1 := (P_h21_g2).zfr fr29 (fun j h1 h2 => by omega) (by omega) (by omega)
  have P_h29_g3 : CG3 h29 tH3 (seqV3 qs) := (P_h21_g3).zfr fr29 (fun j h1 h2 => by omega) (by omega) (by omega)
  have FR_h29 : Fr h h29 (fun j => j = r ∨ j = r + 1 ∨ (108 ≤ j ∧ j ≤ 188)) := (FR_h21).zsub fr29 (fun j hj => by omega)
  show WX _ _ _ 32 [(0, .ref 81), (1, .ref r)] [] (n, s, h29)
  refine WX.ret0 rfl (kk h29 FR_h29 ?_ P_h29_to P_h29_g1 P_h29_g2 P_h29_g3)
  rw [bputs_app, bputs_app, bputs_app]
  exact P_h29_rw
set_option maxRecDepth 20000 in
theorem x_seqs {d n s : Nat} {h : Nat → aE} {cnt : Int32} (hn : 190 ≤ n)  (F_h_81 : h 81 = .inr (6, [.ref 82, .ref 89, .ref 108, .ref 135, .ref 162, .ref 86, .ref 87, .int cnt, .ref 88]))  {Ψ : Option Value → aH → Prop} (kk : Ψ (some (.int cnt)) (n, s, h)) : WO (mM (d + 1)) 70 [.ref 81] (n, s, h) Ψ := by
  refine WO.of (Nat.le_of_ble_eq_true rfl) ?_
  have FR_h : Fr h h (fun j => False) := Fr.rf
  show WX (lk tX6_sequences) (mM d) Ψ 0 [(0, .ref 81)] [] (n, s, h)
  refine WX.s1 rfl rfl ?_
  refine WX.get1 (fs := [.ref 82, .ref 89, .ref 108, .ref 135, .ref 162, .ref 86, .ref 87, .int cnt, .ref 88]) rfl (by omega) (F_h_81) rfl ?_
  exact WX.ret1 rfl kk
noncomputable def mkG (way least : Nat) (l : List Nat) : GSt := goE (catD [] l) way least 16000 (l).length 0
noncomputable def mkB (id : Int32) (l y : List Nat) (qs : List Sq) : List Nat := leBy 3962610743 4 ++ (leL (id).toInt64 4 ++ ((y ++ (boY ((numF (1, 4, 8) qs).1.map sy2) 8 ++ (boY ((seqV3 qs).map sy3) 9 ++ boY ((seqV1 qs).map sy1) 9))) ++ (leBy 1 4 ++ (leBy 4 4 ++ (leBy 8 4 ++ l)))))
def MkR (id : Int32) (way least : Nat) (l : List Nat) (r : Option (List Nat)) : Prop := (r = none ∧ ((l).length < 8 ∨ (mkG way least l).2.2.2.length = 0 ∨ ((mkG way least l).2.2.1 = [] ∨ Alk (mkG way least l).2.2.1) ∨ dsY (wtL (dF (cL (mkG way least l).2.2.1)) (topF (cL (mkG way least l).2.2.1))) = none)) ∨ (8 ≤ (l).length ∧ (mkG way least l).2.2.2.length ≠ 0 ∧ (mkG way least l).2.2.1 ≠ [] ∧ ¬ Alk (mkG way least l).2.2.1 ∧ ∃ y, dsY (wtL (dF (cL (mkG way least l).2.2.1)) (topF (cL (mkG way least l).2.2.1))) = some y ∧ r = some (mkB id l y (mkG way least l).2.2.2))
theorem MkR.uq {id : Int32} {way least : Nat} {l : List Nat} {a b : Option (List Nat)} (ha : MkR id way least l a) (hb : MkR id way least l b) : a = b := by
  rcases ha with ⟨e1, p⟩ | ⟨p1, p2, p3, p4, y, p5, p6⟩
  · rcases hb with ⟨e2, q⟩ | ⟨q1, q2, q3, q4, z, q5, q6⟩
    · rw [e1, e2]
    · rcases p with p | p | (p | p) | p
      · omega
      · exact absurd p q2
      · exact absurd p q3
      · exact absurd p q4
      · exact absurd ((q5).symm.trans p) (by simp)
  · rcases hb with ⟨e2, q⟩ | ⟨q1, q2, q3, q4, z, q5, q6⟩
    · rcases q with q | q | (q | q) | q
      · omega
      · exact absurd q p2
      · exact absurd q p3
      · exact absurd q p4
      · exact absurd ((p5).symm.trans q) (by simp)
    · have := Option.some.inj ((p5).symm.trans q5)
      rw [p6, q6, this]
theorem GoX.toY {h : Nat → aE} {D H : Nat → Nat} {U way least win : Nat} {S : PkS} {ls : List Nat} {qs : List Sq} (r : GoX h D H U way least win S ls qs) : PkY h S := by
  obtain ⟨a, b, ⟨g87, c, c2⟩, d, e, ⟨ki, by_, sh, be, f⟩, ⟨lA, cA, g1, g2, -⟩, i, j, k, l, m, g11, g12, g13⟩ := r
  exact ⟨⟨_, a⟩, ⟨g87, c⟩, b, d, (e).toZ, ⟨_, ki, by_, sh, be, lA, cA, f, g1, g2, i, j, k, l⟩, m, ColG.toX g11, ColG.toX g12, ColG.toX g13⟩
/-- what stands behind renew and putForms -/
theorem PkY.mk3 {h : Nat → aE} {D H : Nat → Nat} {U way least win : Nat} {S : PkS} {ls : List Nat} {qs : List Sq} {h0 : Nat → aE} {A : Nat → Prop} (r : GoX h0 D H U way least win S ls qs) (f : Fr h0 h A) (q1 : ∀ x, 81 ≤ x → x ≤ 95 → ¬ A x) (q2 : ¬ A 100) (co : CoX h 96) (kn : KnX h) (dx : DX h) (to : RowE h 106 256) (g1 : CG1 h S.2.1 (seqV1 qs)) (g2 : CG2 h S.2.2.1 (numF S.2.2.2.2.1 qs).1) (g3 : CG3 h S.2.2.2.1 (seqV3 qs)) : PkY h S := by
  obtain ⟨a, b, ⟨g87, c, c2⟩, d, e, ⟨ki, by_, sh, be, ff⟩, ⟨lA, cA, gg1, gg2, -⟩, i, -⟩ := r
  exact ⟨⟨_, (f _ (q1 _ (by omega) (by omega))).trans a⟩, ⟨g87, (f _ (q1 _ (by omega) (by omega))).trans c⟩, (b).zfr f (q1 _ (by omega) (by omega)), (d).zfr f (q1 _ (by omega) (by omega)), (e).toZ.zfr f (fun x h1 h2 => q1 _ (by omega) (by omega)), ⟨_, ki, by_, sh, be, lA, cA, (f _ (q1 _ (by omega) (by omega))).trans ff, (f _ (q1 _ (by omega) (by omega))).trans gg1, (f _ (q1 _ (by omega) (by omega))).trans gg2, (i).zfr f (fun x h1 h2 => q1 _ (by omega) (by omega)), co, kn, to⟩, dx, ColG.toX g1, ColG.toX g2, ColG.toX g3⟩
set_option maxRecDepth 20000 in
theorem x_mkEnd {d n s : Nat} {h : Nat → aE} {ou ne sta dra id way least : Nat} {l lo ld : List Nat} {T : PkS} {ab : Nat → Nat} {mi : Int32} {y : List Nat} {hg : Nat → aE} {ki by_ sh be : Int32} {tA : Nat → Int32} {b0 : Option (List Nat)} {ho0 : Int64} {hd0 : Int32} (hn : 190 ≤ n) (hnb : n < aBig) (hno : (ou = 3 ∧ ne = 5) ∨ (ou = 5 ∧ ne = 3)) (hsd : (sta = 9 ∧ dra = 38) ∨ (sta = 38 ∧ dra = 9)) (hw : way ≤ 3) (hl3 : 3 ≤ least) (hl8 : least ≤ 8) (hq1 : 1 ≤ (mkG way least l).2.2.2.length) (hq2 : (mkG way least l).2.2.2.length ≤ 2667) (htA : tA 0 = nI 1 ∧ tA 1 = nI 4 ∧ tA 2 = nI 8) (hG : GoX hg (catD [] l) (hsD (catD [] l)) (l).length way least 16000 (pkNt stN (fun _ => 0)) (mkG way least l).2.2.1 (mkG way least l).2.2.2) (fg : Fr hg h (fun j => (67 ≤ j ∧ j ≤ 80) ∨ (96 ≤ j ∧ j ≤ 99) ∨ (101 ≤ j ∧ j ≤ 107))) (F_h_0 : h 0 = .inr (10, [.ref 1, .ref ou, .ref ne, .ref 7, .long (lN id), .ref sta, .ref dra, .ref 67, .ref 81, .ref 189, .int (nI way), .int (nI least)])) (F_h_1 : h 1 = .inr (7, [.ref 2, .int (nI (l).length), .int 0, .long 0, .int 0])) (F_h_81 : h 81 = .inr (6, [.ref 82, .ref 89, .ref 108, .ref 135, .ref 162, .ref 86, .ref 87, .int (nI (mkG way least l).2.2.2.length), .ref 88])) (F_h_89 : h 89 = .inr (5, [.ref 90, .ref 91, .int (nI (mkG way least l).2.2.1.length), .ref 92, .ref 96, .ref 100, .ref 67, .ref 106, .int ki, .int by_, .int sh, .int be])) (F_h_dra : h dra = .inr (9, [.ref (dra + 1), .ref (dra + 3), .ref (dra + 7), .ref (dra + 14), .ref (dra + 21), .ref (dra + 28)])) (F_h__dra_28_ : h (dra + 28) = .inl (1, 3, .inl tA)) (P_h_in : RowIs h 1 8000 (some l) 0 0) (P_h_co : RowIs h 7 8000 (some ld) 0 0) (P_h_st : StX h sta T) (P_h_dr : StX h dra stN) (P_h_ou : RowIs h ou 12000 (some lo) 0 0) (P_h_ab : AbA h ab) (P_h_nx : RowIs h ne 12000 b0 ho0 hd0) (P_h_c9 : CoX h 96) (P_h_kn : KnX h) (P_h_dx : DX h) (P_h_to : RowIs h 106 256 (some y) 0 0) (P_h_g1 : CG1 h none (seqV1 (mkG way least l).2.2.2)) (P_h_g2 : CG2 h none (numF (1, 4, 8) (mkG way least l).2.2.2).1) (P_h_g3 : CG3 h none (seqV3 (mkG way least l).2.2.2)) {Ψ : Option Value → aH → Prop} (k0 : ∀ h', Fr h h' (fun j => j ≤ 188) → 12000 < (mkB mi l y (mkG way least l).2.2.2).length → SPY h' ou ne sta dra id way least l lo ld T ab → Ψ (some (.int (-1))) (n, s, h')) (k1 : ∀ h', Fr h h' (fun j => j ≤ 188) → (mkB mi l y (mkG way least l).2.2.2).length ≤ 12000 → SPY h' ne ou sta dra id way least l (mkB mi l y (mkG way least l).2.2.2) ld T ab → Ψ (some (.int (nI (mkB mi l y (mkG way least l).2.2.2).length))) (n, s, h')) : WX (lk tX11_make) (mM (d + 7)) Ψ 114 [(0, .ref 0), (1, .int mi)] [] (n, s, h) := by
  have FR_h : Fr h h (fun j => j ≤ 188) := Fr.rf
  have hle := row_le P_h_in
  have FRq_h : Fr h h (fun j => j = ne ∨ j = ne + 1 ∨ (108 ≤ j ∧ j ≤ 188)) := Fr.rf
  refine WX.s1 rfl rfl ?_
  refine WX.get1 (fs := [.ref 1, .ref ou, .ref ne, .ref 7, .long (lN id), .ref sta, .ref dra, .ref 67, .ref 81, .ref 189, .int (nI way), .int (nI least)]) rfl (by omega) (F_h_0) rfl ?_
  refine WX.callC (vs := [.ref ne]) rfl rfl rfl (Nat.le_of_ble_eq_true rfl) ((P_h_nx).rcv (by omega)) ?_
  refine w_dropB (d := d + 6) (by omega) P_h_nx (fun h118 fr118 P_h118_nx => ?_)
  have F_h118_0 : h118 0 = .inr (10, [.ref 1, .ref ou, .ref ne, .ref 7, .long (lN id), .ref sta, .ref dra, .ref 67, .ref 81, .ref 189, .int (nI way), .int (nI least)]) := (fr118 _ (by omega)).trans F_h_0
  have F_h118_1 : h118 1 = .inr (7, [.ref 2, .int (nI (l).length), .int 0, .long 0, .int 0]) := (fr118 _ (by omega)).trans F_h_1
  have F_h118_81 : h118 81 = .inr (6, [.ref 82, .ref 89, .ref 108, .ref 135, .ref 162, .ref 86, .ref 87, .int (nI (mkG way least l).2.2.2.length), .ref 88]) := (fr118 _ (by omega)).trans F_h_81
  have F_h118_89 : h118 89 = .inr (5, [.ref 90, .ref 91, .int (nI (mkG way least l).2.2.1.length), .ref 92, .ref 96, .ref 100, .ref 67, .ref 106, .int ki, .int by_, .int sh, .int be]) := (fr118 _ (by omega)).trans F_h_89
  have F_h118_dra : h118 dra = .inr (9, [.ref (dra + 1), .ref (dra + 3), .ref (dra + 7), .ref (dra + 14), .ref (dra + 21), .ref (dra + 28)]) := (fr118 _ (by omega)).trans F_h_dra
  have F_h118__dra_28_ : h118 (dra + 28) = .inl (1, 3, .inl tA) := (fr118 _ (by omega)).trans F_h__dra_28_
  have P_h118_in : RowIs h118 1 8000 (some l) 0 0 := (P_h_in).zfr fr118 (by omega) (by omega)
  have P_h118_co : RowIs h118 7 8000 (some ld) 0 0 := (P_h_co).zfr fr118 (by omega) (by omega)
  have P_h118_st : StX h118 sta T := (P_h_st).zfr fr118 (fun j h1 h2 => by omega)
  have P_h118_dr : StX h118 dra stN := (P_h_dr).zfr fr118 (fun j h1 h2 => by omega)
  have P_h118_ou : RowIs h118 ou 12000 (some lo) 0 0 := (P_h_ou).zfr fr118 (by omega) (by omega)
  have P_h118_ab : AbA h118 ab := (P_h_ab).zfr fr118 (by omega)
  have P_h118_c9 : CoX h118 96 := (P_h_c9).zfr fr118 (fun j h1 h2 => by omega)
  have P_h118_kn : KnX h118 := (P_h_kn).zfr fr118 (fun j h1 h2 => by omega)
  have P_h118_dx : DX h118 := (P_h_dx).zfr fr118 (fun j h1 h2 => by omega)
  have P_h118_to : RowIs h118 106 256 (some y) 0 0 := (P_h_to).zfr fr118 (by omega) (by omega)
  have P_h118_g1 : CG1 h118 none (seqV1 (mkG way least l).2.2.2) := (P_h_g1).zfr fr118 (fun j h1 h2 => by omega) (by omega) (by omega)
  have P_h118_g2 : CG2 h118 none (numF (1, 4, 8) (mkG way least l).2.2.2).1 := (P_h_g2).zfr fr118 (fun j h1 h2 => by omega) (by omega) (by omega)
  have P_h118_g3 : CG3 h118 none (seqV3 (mkG way least l).2.2.2) := (P_h_g3).zfr fr118 (fun j h1 h2 => by omega) (by omega) (by omega)
  have FR_h118 : Fr h h118 (fun j => j ≤ 188) := (FR_h).zsub fr118 (fun j hj => by omega)
  have FRq_h118 : Fr h h118 (fun j => j = ne ∨ j = ne + 1 ∨ (108 ≤ j ∧ j ≤ 188)) := FRq_h.zsub fr118 (fun j hj => by omega)
  show WX _ _ _ 121 [(0, .ref 0), (1, .int mi)] [] (n, s, h118)
  refine WX.s1 rfl rfl ?_
  refine WX.get1 (fs := [.ref 1, .ref ou, .ref ne, .ref 7, .long (lN id), .ref sta, .ref dra, .ref 67, .ref 81, .ref 189, .int (nI way), .int (nI least)]) rfl (by omega) (F_h118_0) rfl ?_
  refine WX.s1 rfl rfl ?_
  refine WX.s1 rfl rfl ?_
  refine WX.callC (vs := [.ref ne, .long 3962610743, .int 4]) rfl rfl rfl (Nat.le_of_ble_eq_true rfl) ((P_h118_nx).rcv (by omega)) ?_
  refine w_putNumber (d := d + 5) (x := lN 3962610743) (m := 4) (by omega) P_h118_nx (by decide) (by decide) (fun h129 fr129 P_h129_nx0 => ?_)
  have F_h129_0 : h129 0 = .inr (10, [.ref 1, .ref ou, .ref ne, .ref 7, .long (lN id), .ref sta, .ref dra, .ref 67, .ref 81, .ref 189, .int (nI way), .int (nI least)]) := (fr129 _ (by omega)).trans F_h118_0
  have F_h129_1 : h129 1 = .inr (7, [.ref 2, .int (nI (l).length), .int 0, .long 0, .int 0]) := (fr129 _ (by omega)).trans F_h118_1
  have F_h129_81 : h129 81 = .inr (6, [.ref 82, .ref 89, .ref 108, .ref 135, .ref 162, .ref 86, .ref 87, .int (nI (mkG way least l).2.2.2.length), .ref 88]) := (fr129 _ (by omega)).trans F_h118_81
  have F_h129_89 : h129 89 = .inr (5, [.ref 90, .ref 91, .int (nI (mkG way least l).2.2.1.length), .ref 92, .ref 96, .ref 100, .ref 67, .ref 106, .int ki, .int by_, .int sh, .int be]) := (fr129 _ (by omega)).trans F_h118_89
  have F_h129_dra : h129 dra = .inr (9, [.ref (dra + 1), .ref (dra + 3), .ref (dra + 7), .ref (dra + 14), .ref (dra + 21), .ref (dra + 28)]) := (fr129 _ (by omega)).trans F_h118_dra
  have F_h129__dra_28_ : h129 (dra + 28) = .inl (1, 3, .inl tA) := (fr129 _ (by omega)).trans F_h118__dra_28_
  have P_h129_in : RowIs h129 1 8000 (some l) 0 0 := (P_h118_in).zfr fr129 (by omega) (by omega)
  have P_h129_co : RowIs h129 7 8000 (some ld) 0 0 := (P_h118_co).zfr fr129 (by omega) (by omega)
  have P_h129_st : StX h129 sta T := (P_h118_st).zfr fr129 (fun j h1 h2 => by omega)
  have P_h129_dr : StX h129 dra stN := (P_h118_dr).zfr fr129 (fun j h1 h2 => by omega)
  have P_h129_ou : RowIs h129 ou 12000 (some lo) 0 0 := (P_h118_ou).zfr fr129 (by omega) (by omega)
  have P_h129_ab : AbA h129 ab := (P_h118_ab).zfr fr129 (by omega)
  have P_h129_c9 : CoX h129 96 := (P_h118_c9).zfr fr129 (fun j h1 h2 => by omega)
  have P_h129_kn : KnX h129 := (P_h118_kn).zfr fr129 (fun j h1 h2 => by omega)
  have P_h129_dx : DX h129 := (P_h118_dx).zfr fr129 (fun j h1 h2 => by omega)
  have P_h129_to : RowIs h129 106 256 (some y) 0 0 := (P_h118_to).zfr fr129 (by omega) (by omega)
  have P_h129_g1 : CG1 h129 none (seqV1 (mkG way least l).2.2.2) := (P_h118_g1).zfr fr129 (fun j h1 h2 => by omega) (by omega) (by omega)
  have P_h129_g2 : CG2 h129 none (numF (1, 4, 8) (mkG way least l).2.2.2).1 := (P_h118_g2).zfr fr129 (fun j h1 h2 => by omega) (by omega) (by omega)
  have P_h129_g3 : CG3 h129 none (seqV3 (mkG way least l).2.2.2) := (P_h118_g3).zfr fr129 (fun j h1 h2 => by omega) (by omega) (by omega)
  have FR_h129 : Fr h h129 (fun j => j ≤ 188) := (FR_h118).zsub fr129 (fun j hj => by omega)
  have FRq_h129 : Fr h h129 (fun j => j = ne ∨ j = ne + 1 ∨ (108 ≤ j ∧ j ≤ 188)) := FRq_h118.zsub fr129 (fun j hj => by omega)
  show WX _ _ _ 132 [(0, .ref 0), (1, .int mi)] [] (n, s, h129)
  have P_h129_nx : RowIs h129 ne 12000 (bputs 12000 (some []) (leBy 3962610743 4)) 0 0 := by rw [leL_lN (by decide)] at P_h129_nx0; exact P_h129_nx0
  refine WX.s1 rfl rfl ?_
  refine WX.get1 (fs := [.ref 1, .ref ou, .ref ne, .ref 7, .long (lN id), .ref sta, .ref dra, .ref 67, .ref 81, .ref 189, .int (nI way), .int (nI least)]) rfl (by omega) (F_h129_0) rfl ?_
  refine WX.s1 rfl rfl ?_
  refine WX.s1 (S' := [.long ((mi).toInt64), .ref ne]) rfl rfl ?_
  refine WX.s1 rfl rfl ?_
  refine WX.callC (vs := [.ref ne, .long ((mi).toInt64), .int 4]) rfl rfl rfl (Nat.le_of_ble_eq_true rfl) ((P_h129_nx).rcv (by omega)) ?_
  refine w_putNumber (d := d + 5) (x := (mi).toInt64) (m := 4) (by omega) P_h129_nx (by decide) (by decide) (fun h139 fr139 P_h139_nx0 => ?_)
  have F_h139_0 : h139 0 = .inr (10, [.ref 1, .ref ou, .ref ne, .ref 7, .long (lN id), .ref sta, .ref dra, .ref 67, .ref 81, .ref 189, .int (nI way), .int (nI least)]) := (fr139 _ (by omega)).trans F_h129_0
  have F_h139_1 : h139 1 = .inr (7, [.ref 2, .int (nI (l).length), .int 0, .long 0, .int 0]) := (fr139 _ (by omega)).trans F_h129_1
  have F_h139_81 : h139 81 = .inr (6, [.ref 82, .ref 89, .ref 108, .ref 135, .ref 162, .ref 86, .ref 87, .int (nI (mkG way least l).2.2.2.length), .ref 88]) := (fr139 _ (by omega)).trans F_h129_81
  have F_h139_89 : h139 89 = .inr (5, [.ref 90, .ref 91, .int (nI (mkG way least l).2.2.1.length), .ref 92, .ref 96, .ref 100, .ref 67, .ref 106, .int ki, .int by_, .int sh, .int be]) := (fr139 _ (by omega)).trans F_h129_89
  have F_h139_dra : h139 dra = .inr (9, [.ref (dra + 1), .ref (dra + 3), .ref (dra + 7), .ref (dra + 14), .ref (dra + 21), .ref (dra + 28)]) := (fr139 _ (by omega)).trans F_h129_dra
  have F_h139__dra_28_ : h139 (dra + 28) = .inl (1, 3, .inl tA) := (fr139 _ (by omega)).trans F_h129__dra_28_
  have P_h139_in : RowIs h139 1 8000 (some l) 0 0 := (P_h129_in).zfr fr139 (by omega) (by omega)
  have P_h139_co : RowIs h139 7 8000 (some ld) 0 0 := (P_h129_co).zfr fr139 (by omega) (by omega)
  have P_h139_st : StX h139 sta T := (P_h129_st).zfr fr139 (fun j h1 h2 => by omega)
  have P_h139_dr : StX h139 dra stN := (P_h129_dr).zfr fr139 (fun j h1 h2 => by omega)
  have P_h139_ou : RowIs h139 ou 12000 (some lo) 0 0 := (P_h129_ou).zfr fr139 (by omega) (by omega)
  have P_h139_ab : AbA h139 ab := (P_h129_ab).zfr fr139 (by omega)
  have P_h139_c9 : CoX h139 96 := (P_h129_c9).zfr fr139 (fun j h1 h2 => by omega)
  have P_h139_kn : KnX h139 := (P_h129_kn).zfr fr139 (fun j h1 h2 => by omega)
  have P_h139_dx : DX h139 := (P_h129_dx).zfr fr139 (fun j h1 h2 => by omega)
  have P_h139_to : RowIs h139 106 256 (some y) 0 0 := (P_h129_to).zfr fr139 (by omega) (by omega)
  have P_h139_g1 : CG1 h139 none (seqV1 (mkG way least l).2.2.2) := (P_h129_g1).zfr fr139 (fun j h1 h2 => by omega) (by omega) (by omega)
  have P_h139_g2 : CG2 h139 none (numF (1, 4, 8) (mkG way least l).2.2.2).1 := (P_h129_g2).zfr fr139 (fun j h1 h2 => by omega) (by omega) (by omega)
  have P_h139_g3 : CG3 h139 none (seqV3 (mkG way least l).2.2.2) := (P_h129_g3).zfr fr139 (fun j h1 h2 => by omega) (by omega) (by omega)
  have FR_h139 : Fr h h139 (fun j => j ≤ 188) := (FR_h129).zsub fr139 (fun j hj => by omega)
  have FRq_h139 : Fr h h139 (fun j => j = ne ∨ j = ne + 1 ∨ (108 ≤ j ∧ j ≤ 188)) := FRq_h129.zsub fr139 (fun j hj => by omega)
  show WX _ _ _ 142 [(0, .ref 0), (1, .int mi)] [] (n, s, h139)
  have P_h139_nx : RowIs h139 ne 12000 (bputs 12000 (bputs 12000 (some []) (leBy 3962610743 4)) (leL (mi).toInt64 4)) 0 0 := by exact P_h139_nx0
  refine WX.s1 rfl rfl ?_
  refine WX.get1 (fs := [.ref 1, .ref ou, .ref ne, .ref 7, .long (lN id), .ref sta, .ref dra, .ref 67, .ref 81, .ref 189, .int (nI way), .int (nI least)]) rfl (by omega) (F_h139_0) rfl ?_
  refine WX.s1 rfl rfl ?_
  refine WX.get1 (fs := [.ref 1, .ref ou, .ref ne, .ref 7, .long (lN id), .ref sta, .ref dra, .ref 67, .ref 81, .ref 189, .int (nI way), .int (nI least)]) rfl (by omega) (F_h139_0) rfl ?_
  refine WX.callC (vs := [.ref 81, .ref ne]) rfl rfl rfl (Nat.le_of_ble_eq_true rfl) (rcv_ok (by omega) F_h139_81) ?_
  refine x_forms (d := d) (qs := (mkG way least l).2.2.2) (lt := (1, 4, 8)) hn hnb (by omega) (by decide) hq1 hq2 F_h139_81 F_h139_89 P_h139_nx P_h139_to P_h139_g1 P_h139_g2 P_h139_g3 (fun h150 fr150 P_h150_nx P_h150_to P_h150_g1 P_h150_g2 P_h150_g3 => ?_)
  have F_h150_0 : h150 0 = .inr (10, [.ref 1, .ref ou, .ref ne, .ref 7, .long (lN id), .ref sta, .ref dra, .ref 67, .ref 81, .ref 189, .int (nI way), .int (nI least)]) := (fr150 _ (by omega)).trans F_h139_0
  have F_h150_1 : h150 1 = .inr (7, [.ref 2, .int (nI (l).length), .int 0, .long 0, .int 0]) := (fr150 _ (by omega)).trans F_h139_1
  have F_h150_81 : h150 81 = .inr (6, [.ref 82, .ref 89, .ref 108, .ref 135, .ref 162, .ref 86, .ref 87, .int (nI (mkG way least l).2.2.2.length), .ref 88]) := (fr150 _ (by omega)).trans F_h139_81
  have F_h150_89 : h150 89 = .inr (5, [.ref 90, .ref 91, .int (nI (mkG way least l).2.2.1.length), .ref 92, .ref 96, .ref 100, .ref 67, .ref 106, .int ki, .int by_, .int sh, .int be]) := (fr150 _ (by omega)).trans F_h139_89
  have F_h150_dra : h150 dra = .inr (9, [.ref (dra + 1), .ref (dra + 3), .ref (dra + 7), .ref (dra + 14), .ref (dra + 21), .ref (dra + 28)]) := (fr150 _ (by omega)).trans F_h139_dra
  have F_h150__dra_28_ : h150 (dra + 28) = .inl (1, 3, .inl tA) := (fr150 _ (by omega)).trans F_h139__dra_28_
  have P_h150_in : RowIs h150 1 8000 (some l) 0 0 := (P_h139_in).zfr fr150 (by omega) (by omega)
  have P_h150_co : RowIs h150 7 8000 (some ld) 0 0 := (P_h139_co).zfr fr150 (by omega) (by omega)
  have P_h150_st : StX h150 sta T := (P_h139_st).zfr fr150 (fun j h1 h2 => by omega)
  have P_h150_dr : StX h150 dra stN := (P_h139_dr).zfr fr150 (fun j h1 h2 => by omega)
  have P_h150_ou : RowIs h150 ou 12000 (some lo) 0 0 := (P_h139_ou).zfr fr150 (by omega) (by omega)
  have P_h150_ab : AbA h150 ab := (P_h139_ab).zfr fr150 (by omega)
  have P_h150_c9 : CoX h150 96 := (P_h139_c9).zfr fr150 (fun j h1 h2 => by omega)
  have P_h150_kn : KnX h150 := (P_h139_kn).zfr fr150 (fun j h1 h2 => by omega)
  have P_h150_dx : DX h150 := (P_h139_dx).zfr fr150 (fun j h1 h2 => by omega)
  have FR_h150 : Fr h h150 (fun j => j ≤ 188) := (FR_h139).zsub fr150 (fun j hj => by omega)
  have FRq_h150 : Fr h h150 (fun j => j = ne ∨ j = ne + 1 ∨ (108 ≤ j ∧ j ≤ 188)) := FRq_h139.zsub fr150 (fun j hj => by omega)
  show WX _ _ _ 153 [(0, .ref 0), (1, .int mi)] [] (n, s, h150)
  refine WX.s1 rfl rfl ?_
  refine WX.s1 (L' := [(0, .ref 0), (1, .int mi), (2, .int 0)]) rfl rfl ?_
  refine WX.s1 rfl rfl ?_
  refine WX.s1 rfl rfl ?_
  refine WX.get1 (fs := [.ref 1, .ref ou, .ref ne, .ref 7, .long (lN id), .ref sta, .ref dra, .ref 67, .ref 81, .ref 189, .int (nI way), .int (nI least)]) rfl (by omega) (F_h150_0) rfl ?_
  refine WX.get1 (fs := [.ref (dra + 1), .ref (dra + 3), .ref (dra + 7), .ref (dra + 14), .ref (dra + 21), .ref (dra + 28)]) rfl (by omega) (F_h150_dra) rfl ?_
  refine WX.len1 rfl (Or.inl ⟨by omega, by decide⟩) (F_h150__dra_28_) ?_
  refine WX.icmp rfl (fun c_164 => absurd c_164 (by decide)) (fun c_164 => ?_)
  refine WX.s1 rfl rfl ?_
  refine WX.get1 (fs := [.ref 1, .ref ou, .ref ne, .ref 7, .long (lN id), .ref sta, .ref dra, .ref 67, .ref 81, .ref 189, .int (nI way), .int (nI least)]) rfl (by omega) (F_h150_0) rfl ?_
  refine WX.s1 rfl rfl ?_
  refine WX.get1 (fs := [.ref 1, .ref ou, .ref ne, .ref 7, .long (lN id), .ref sta, .ref dra, .ref 67, .ref 81, .ref 189, .int (nI way), .int (nI least)]) rfl (by omega) (F_h150_0) rfl ?_
  refine WX.get1 (fs := [.ref (dra + 1), .ref (dra + 3), .ref (dra + 7), .ref (dra + 14), .ref (dra + 21), .ref (dra + 28)]) rfl (by omega) (F_h150_dra) rfl ?_
  refine WX.s1 rfl rfl ?_
  refine WX.iald1 rfl (Or.inl (by omega)) (F_h150__dra_28_) (by unfold vp_in; decide) ?_
  rw [show tA (Int32.toNatClampNeg 0) = nI 1 from htA.1]
  refine WX.s1 (S' := [.long ((nI 1).toInt64), .ref ne]) rfl rfl ?_
  rw [nI_l (n := 1) (by decide)]
  refine WX.s1 rfl rfl ?_
  refine WX.callC (vs := [.ref ne, .long (lN 1), .int 4]) rfl rfl rfl (Nat.le_of_ble_eq_true rfl) ((P_h150_nx).rcv (by omega)) ?_
  refine w_putNumber (d := d + 5) (x := lN 1) (m := 4) (by omega) P_h150_nx (by decide) (by decide) (fun h182x0 fr182x0 P_h182x0_nx0 => ?_)
  have F_h182x0_0 : h182x0 0 = .inr (10, [.ref 1, .ref ou, .ref ne, .ref 7, .long (lN id), .ref sta, .ref dra, .ref 67, .ref 81, .ref 189, .int (nI way), .int (nI least)]) := (fr182x0 _ (by omega)).trans F_h150_0
  have F_h182x0_1 : h182x0 1 = .inr (7, [.ref 2, .int (nI (l).length), .int 0, .long 0, .int 0]) := (fr182x0 _ (by omega)).trans F_h150_1
  have F_h182x0_81 : h182x0 81 = .inr (6, [.ref 82, .ref 89, .ref 108, .ref 135, .ref 162, .ref 86, .ref 87, .int (nI (mkG way least l).2.2.2.length), .ref 88]) := (fr182x0 _ (by omega)).trans F_h150_81
  have F_h182x0_89 : h182x0 89 = .inr (5, [.ref 90, .ref 91, .int (nI (mkG way least l).2.2.1.length), .ref 92, .ref 96, .ref 100, .ref 67, .ref 106, .int ki, .int by_, .int sh, .int be]) := (fr182x0 _ (by omega)).trans F_h150_89
  have F_h182x0_dra : h182x0 dra = .inr (9, [.ref (dra + 1), .ref (dra + 3), .ref (dra + 7), .ref (dra + 14), .ref (dra + 21), .ref (dra + 28)]) := (fr182x0 _ (by omega)).trans F_h150_dra
  have F_h182x0__dra_28_ : h182x0 (dra + 28) = .inl (1, 3, .inl tA) := (fr182x0 _ (by omega)).trans F_h150__dra_28_
  have P_h182x0_in : RowIs h182x0 1 8000 (some l) 0 0 := (P_h150_in).zfr fr182x0 (by omega) (by omega)
  have P_h182x0_co : RowIs h182x0 7 8000 (some ld) 0 0 := (P_h150_co).zfr fr182x0 (by omega) (by omega)
  have P_h182x0_st : StX h182x0 sta T := (P_h150_st).zfr fr182x0 (fun j h1 h2 => by omega)
  have P_h182x0_dr : StX h182x0 dra stN := (P_h150_dr).zfr fr182x0 (fun j h1 h2 => by omega)
  have P_h182x0_ou : RowIs h182x0 ou 12000 (some lo) 0 0 := (P_h150_ou).zfr fr182x0 (by omega) (by omega)
  have P_h182x0_ab : AbA h182x0 ab := (P_h150_ab).zfr fr182x0 (by omega)
  have P_h182x0_c9 : CoX h182x0 96 := (P_h150_c9).zfr fr182x0 (fun j h1 h2 => by omega)
  have P_h182x0_kn : KnX h182x0 := (P_h150_kn).zfr fr182x0 (fun j h1 h2 => by omega)
  have P_h182x0_dx : DX h182x0 := (P_h150_dx).zfr fr182x0 (fun j h1 h2 => by omega)
  have P_h182x0_to : RowIs h182x0 106 256 (some y) 0 0 := (P_h150_to).zfr fr182x0 (by omega) (by omega)
  have P_h182x0_g1 : CG1 h182x0 none (seqV1 (mkG way least l).2.2.2) := (P_h150_g1).zfr fr182x0 (fun j h1 h2 => by omega) (by omega) (by omega)
  have P_h182x0_g2 : CG2 h182x0 none (numF (1, 4, 8) (mkG way least l).2.2.2).1 := (P_h150_g2).zfr fr182x0 (fun j h1 h2 => by omega) (by omega) (by omega)
  have P_h182x0_g3 : CG3 h182x0 none (seqV3 (mkG way least l).2.2.2) := (P_h150_g3).zfr fr182x0 (fun j h1 h2 => by omega) (by omega) (by omega)
  have FR_h182x0 : Fr h h182x0 (fun j => j ≤ 188) := (FR_h150).zsub fr182x0 (fun j hj => by omega)
  have FRq_h182x0 : Fr h h182x0 (fun j => j = ne ∨ j = ne + 1 ∨ (108 ≤ j ∧ j ≤ 188)) := FRq_h150.zsub fr182x0 (fun j hj => by omega)
  show WX _ _ _ 185 [(0, .ref 0), (1, .int mi), (2, .int 0)] [] (n, s, h182x0)
  have P_h182x0_nx : RowIs h182x0 ne 12000 (bputs 12000 (bputs 12000 (bputs 12000 (bputs 12000 (some []) (leBy 3962610743 4)) (leL (mi).toInt64 4)) ((y ++ ((boY ((numF (1, 4, 8) (mkG way least l).2.2.2).1.map sy2) 8) ++ ((boY ((seqV3 (mkG way least l).2.2.2).map sy3) 9) ++ (boY ((seqV1 (mkG way least l).2.2.2).map sy1) 9)))))) (leBy 1 4)) 0 0 := by rw [leL_lN (by decide)] at P_h182x0_nx0; exact P_h182x0_nx0
  refine WX.s1 (L' := [(0, .ref 0), (1, .int mi), (2, .int (0 + 1))]) rfl rfl ?_
  refine WX.s1 rfl rfl ?_
  refine WX.s1 rfl rfl ?_
  refine WX.s1 rfl rfl ?_
  refine WX.get1 (fs := [.ref 1, .ref ou, .ref ne, .ref 7, .long (lN id), .ref sta, .ref dra, .ref 67, .ref 81, .ref 189, .int (nI way), .int (nI least)]) rfl (by omega) (F_h182x0_0) rfl ?_
  refine WX.get1 (fs := [.ref (dra + 1), .ref (dra + 3), .ref (dra + 7), .ref (dra + 14), .ref (dra + 21), .ref (dra + 28)]) rfl (by omega) (F_h182x0_dra) rfl ?_
  refine WX.len1 rfl (Or.inl ⟨by omega, by decide⟩) (F_h182x0__dra_28_) ?_
  refine WX.icmp rfl (fun c_164 => absurd c_164 (by decide)) (fun c_164 => ?_)
  refine WX.s1 rfl rfl ?_
  refine WX.get1 (fs := [.ref 1, .ref ou, .ref ne, .ref 7, .long (lN id), .ref sta, .ref dra, .ref 67, .ref 81, .ref 189, .int (nI way), .int (nI least)]) rfl (by omega) (F_h182x0_0) rfl ?_
  refine WX.s1 rfl rfl ?_
  refine WX.get1 (fs := [.ref 1, .ref ou, .ref ne, .ref 7, .long (lN id), .ref sta, .ref dra, .ref 67, .ref 81, .ref 189, .int (nI way), .int (nI least)]) rfl (by omega) (F_h182x0_0) rfl ?_
  refine WX.get1 (fs := [.ref (dra + 1), .ref (dra + 3), .ref (dra + 7), .ref (dra + 14), .ref (dra + 21), .ref (dra + 28)]) rfl (by omega) (F_h182x0_dra) rfl ?_
  refine WX.s1 rfl rfl ?_
  refine WX.iald1 rfl (Or.inl (by omega)) (F_h182x0__dra_28_) (by unfold vp_in; decide) ?_
  rw [show tA (Int32.toNatClampNeg (0 + 1)) = nI 4 from htA.2.1]
  refine WX.s1 (S' := [.long ((nI 4).toInt64), .ref ne]) rfl rfl ?_
  rw [nI_l (n := 4) (by decide)]
  refine WX.s1 rfl rfl ?_
  refine WX.callC (vs := [.ref ne, .long (lN 4), .int 4]) rfl rfl rfl (Nat.le_of_ble_eq_true rfl) ((P_h182x0_nx).rcv (by omega)) ?_
  refine w_putNumber (d := d + 5) (x := lN 4) (m := 4) (by omega) P_h182x0_nx (by decide) (by decide) (fun h182x1 fr182x1 P_h182x1_nx0 => ?_)
  have F_h182x1_0 : h182x1 0 = .inr (10, [.ref 1, .ref ou, .ref ne, .ref 7, .long (lN id), .ref sta, .ref dra, .ref 67, .ref 81, .ref 189, .int (nI way), .int (nI least)]) := (fr182x1 _ (by omega)).trans F_h182x0_0
  have F_h182x1_1 : h182x1 1 = .inr (7, [.ref 2, .int (nI (l).length), .int 0, .long 0, .int 0]) := (fr182x1 _ (by omega)).trans F_h182x0_1
  have F_h182x1_81 : h182x1 81 = .inr (6, [.ref 82, .ref 89, .ref 108, .ref 135, .ref 162, .ref 86, .ref 87, .int (nI (mkG way least l).2.2.2.length), .ref 88]) := (fr182x1 _ (by omega)).trans F_h182x0_81
  have F_h182x1_89 : h182x1 89 = .inr (5, [.ref 90, .ref 91, .int (nI (mkG way least l).2.2.1.length), .ref 92, .ref 96, .ref 100, .ref 67, .ref 106, .int ki, .int by_, .int sh, .int be]) := (fr182x1 _ (by omega)).trans F_h182x0_89
  have F_h182x1_dra : h182x1 dra = .inr (9, [.ref (dra + 1), .ref (dra + 3), .ref (dra + 7), .ref (dra + 14), .ref (dra + 21), .ref (dra + 28)]) := (fr182x1 _ (by omega)).trans F_h182x0_dra
  have F_h182x1__dra_28_ : h182x1 (dra + 28) = .inl (1, 3, .inl tA) := (fr182x1 _ (by omega)).trans F_h182x0__dra_28_
  have P_h182x1_in : RowIs h182x1 1 8000 (some l) 0 0 := (P_h182x0_in).zfr fr182x1 (by omega) (by omega)
  have P_h182x1_co : RowIs h182x1 7 8000 (some ld) 0 0 := (P_h182x0_co).zfr fr182x1 (by omega) (by omega)
  have P_h182x1_st : StX h182x1 sta T := (P_h182x0_st).zfr fr182x1 (fun j h1 h2 => by omega)
  have P_h182x1_dr : StX h182x1 dra stN := (P_h182x0_dr).zfr fr182x1 (fun j h1 h2 => by omega)
  have P_h182x1_ou : RowIs h182x1 ou 12000 (some lo) 0 0 := (P_h182x0_ou).zfr fr182x1 (by omega) (by omega)
  have P_h182x1_ab : AbA h182x1 ab := (P_h182x0_ab).zfr fr182x1 (by omega)
  have P_h182x1_c9 : CoX h182x1 96 := (P_h182x0_c9).zfr fr182x1 (fun j h1 h2 => by omega)
  have P_h182x1_kn : KnX h182x1 := (P_h182x0_kn).zfr fr182x1 (fun j h1 h2 => by omega)
  have P_h182x1_dx : DX h182x1 := (P_h182x0_dx).zfr fr182x1 (fun j h1 h2 => by omega)
  have P_h182x1_to : RowIs h182x1 106 256 (some y) 0 0 := (P_h182x0_to).zfr fr182x1 (by omega) (by omega)
  have P_h182x1_g1 : CG1 h182x1 none (seqV1 (mkG way least l).2.2.2) := (P_h182x0_g1).zfr fr182x1 (fun j h1 h2 => by omega) (by omega) (by omega)
  have P_h182x1_g2 : CG2 h182x1 none (numF (1, 4, 8) (mkG way least l).2.2.2).1 := (P_h182x0_g2).zfr fr182x1 (fun j h1 h2 => by omega) (by omega) (by omega)
  have P_h182x1_g3 : CG3 h182x1 none (seqV3 (mkG way least l).2.2.2) := (P_h182x0_g3).zfr fr182x1 (fun j h1 h2 => by omega) (by omega) (by omega)
  have FR_h182x1 : Fr h h182x1 (fun j => j ≤ 188) := (FR_h182x0).zsub fr182x1 (fun j hj => by omega)
  have FRq_h182x1 : Fr h h182x1 (fun j => j = ne ∨ j = ne + 1 ∨ (108 ≤ j ∧ j ≤ 188)) := FRq_h182x0.zsub fr182x1 (fun j hj => by omega)
  show WX _ _ _ 185 [(0, .ref 0), (1, .int mi), (2, .int (0 + 1))] [] (n, s, h182x1)
  have P_h182x1_nx : RowIs h182x1 ne 12000 (bputs 12000 (bputs 12000 (bputs 12000 (bputs 12000 (bputs 12000 (some []) (leBy 3962610743 4)) (leL (mi).toInt64 4)) ((y ++ ((boY ((numF (1, 4, 8) (mkG way least l).2.2.2).1.map sy2) 8) ++ ((boY ((seqV3 (mkG way least l).2.2.2).map sy3) 9) ++ (boY ((seqV1 (mkG way least l).2.2.2).map sy1) 9)))))) (leBy 1 4)) (leBy 4 4)) 0 0 := by rw [leL_lN (by decide)] at P_h182x1_nx0; exact P_h182x1_nx0
  refine WX.s1 (L' := [(0, .ref 0), (1, .int mi), (2, .int ((0 + 1) + 1))]) rfl rfl ?_
  refine WX.s1 rfl rfl ?_
  refine WX.s1 rfl rfl ?_
  refine WX.s1 rfl rfl ?_
  refine WX.get1 (fs := [.ref 1, .ref ou, .ref ne, .ref 7, .long (lN id), .ref sta, .ref dra, .ref 67, .ref 81, .ref 189, .int (nI way), .int (nI least)]) rfl (by omega) (F_h182x1_0) rfl ?_
  refine WX.get1 (fs := [.ref (dra + 1), .ref (dra + 3), .ref (dra + 7), .ref (dra + 14), .ref (dra + 21), .ref (dra + 28)]) rfl (by omega) (F_h182x1_dra) rfl ?_
  refine WX.len1 rfl (Or.inl ⟨by omega, by decide⟩) (F_h182x1__dra_28_) ?_
  refine WX.icmp rfl (fun c_164 => absurd c_164 (by decide)) (fun c_164 => ?_)
  refine WX.s1 rfl rfl ?_
  refine WX.get1 (fs := [.ref 1, .ref ou, .ref ne, .ref 7, .long (lN id), .ref sta, .ref dra, .ref 67, .ref 81, .ref 189, .int (nI way), .int (nI least)]) rfl (by omega) (F_h182x1_0) rfl ?_
  refine WX.s1 rfl rfl ?_
  refine WX.get1 (fs := [.ref 1, .ref ou, .ref ne, .ref 7, .long (lN id), .ref sta, .ref dra, .ref 67, .ref 81, .ref 189, .int (nI way), .int (nI least)]) rfl (by omega) (F_h182x1_0) rfl ?_
  refine WX.get1 (fs := [.ref (dra + 1), .ref (dra + 3), .ref (dra + 7), .ref (dra + 14), .ref (dra + 21), .ref (dra + 28)]) rfl (by omega) (F_h182x1_dra) rfl ?_
  refine WX.s1 rfl rfl ?_
  refine WX.iald1 rfl (Or.inl (by omega)) (F_h182x1__dra_28_) (by unfold vp_in; decide) ?_
  rw [show tA (Int32.toNatClampNeg ((0 + 1) + 1)) = nI 8 from htA.2.2]
  refine WX.s1 (S' := [.long ((nI 8).toInt64), .ref ne]) rfl rfl ?_
  rw [nI_l (n := 8) (by decide)]
  refine WX.s1 rfl rfl ?_
  refine WX.callC (vs := [.ref ne, .long (lN 8), .int 4]) rfl rfl rfl (Nat.le_of_ble_eq_true rfl) ((P_h182x1_nx).rcv (by omega)) ?_
  refine w_putNumber (d := d + 5) (x := lN 8) (m := 4) (by omega) P_h182x1_nx (by decide) (by decide) (fun h182x2 fr182x2 P_h182x2_nx0 => ?_)
  have F_h182x2_0 : h182x2 0 = .inr (10, [.ref 1, .ref ou, .ref ne, .ref 7, .long (lN id), .ref sta, .ref dra, .ref 67, .ref 81, .ref 189, .int (nI way), .int (nI least)]) := (fr182x2 _ (by omega)).trans F_h182x1_0
  have F_h182x2_1 : h182x2 1 = .inr (7, [.ref 2, .int (nI (l).length), .int 0, .long 0, .int 0]) := (fr182x2 _ (by omega)).trans F_h182x1_1
  have F_h182x2_81 : h182x2 81 = .inr (6, [.ref 82, .ref 89, .ref 108, .ref 135, .ref 162, .ref 86, .ref 87, .int (nI (mkG way least l).2.2.2.length), .ref 88]) := (fr182x2 _ (by omega)).trans F_h182x1_81
  have F_h182x2_89 : h182x2 89 = .inr (5, [.ref 90, .ref 91, .int (nI (mkG way least l).2.2.1.length), .ref 92, .ref 96, .ref 100, .ref 67, .ref 106, .int ki, .int by_, .int sh, .int be]) := (fr182x2 _ (by omega)).trans F_h182x1_89
  have F_h182x2_dra : h182x2 dra = .inr (9, [.ref (dra + 1), .ref (dra + 3), .ref (dra + 7), .ref (dra + 14), .ref (dra + 21), .ref (dra + 28)]) := (fr182x2 _ (by omega)).trans F_h182x1_dra
  have F_h182x2__dra_28_ : h182x2 (dra + 28) = .inl (1, 3, .inl tA) := (fr182x2 _ (by omega)).trans F_h182x1__dra_28_
  have P_h182x2_in : RowIs h182x2 1 8000 (some l) 0 0 := (P_h182x1_in).zfr fr182x2 (by omega) (by omega)
  have P_h182x2_co : RowIs h182x2 7 8000 (some ld) 0 0 := (P_h182x1_co).zfr fr182x2 (by omega) (by omega)
  have P_h182x2_st : StX h182x2 sta T := (P_h182x1_st).zfr fr182x2 (fun j h1 h2 => by omega)
  have P_h182x2_dr : StX h182x2 dra stN := (P_h182x1_dr).zfr fr182x2 (fun j h1 h2 => by omega)
  have P_h182x2_ou : RowIs h182x2 ou 12000 (some lo) 0 0 := (P_h182x1_ou).zfr fr182x2 (by omega) (by omega)
  have P_h182x2_ab : AbA h182x2 ab := (P_h182x1_ab).zfr fr182x2 (by omega)
  have P_h182x2_c9 : CoX h182x2 96 := (P_h182x1_c9).zfr fr182x2 (fun j h1 h2 => by omega)
  have P_h182x2_kn : KnX h182x2 := (P_h182x1_kn).zfr fr182x2 (fun j h1 h2 => by omega)
  have P_h182x2_dx : DX h182x2 := (P_h182x1_dx).zfr fr182x2 (fun j h1 h2 => by omega)
  have P_h182x2_to : RowIs h182x2 106 256 (some y) 0 0 := (P_h182x1_to).zfr fr182x2 (by omega) (by omega)
  have P_h182x2_g1 : CG1 h182x2 none (seqV1 (mkG way least l).2.2.2) := (P_h182x1_g1).zfr fr182x2 (fun j h1 h2 => by omega) (by omega) (by omega)
  have P_h182x2_g2 : CG2 h182x2 none (numF (1, 4, 8) (mkG way least l).2.2.2).1 := (P_h182x1_g2).zfr fr182x2 (fun j h1 h2 => by omega) (by omega) (by omega)
  have P_h182x2_g3 : CG3 h182x2 none (seqV3 (mkG way least l).2.2.2) := (P_h182x1_g3).zfr fr182x2 (fun j h1 h2 => by omega) (by omega) (by omega)
  have FR_h182x2 : Fr h h182x2 (fun j => j ≤ 188) := (FR_h182x1).zsub fr182x2 (fun j hj => by omega)
  have FRq_h182x2 : Fr h h182x2 (fun j => j = ne ∨ j = ne + 1 ∨ (108 ≤ j ∧ j ≤ 188)) := FRq_h182x1.zsub fr182x2 (fun j hj => by omega)
  show WX _ _ _ 185 [(0, .ref 0), (1, .int mi), (2, .int ((0 + 1) + 1))] [] (n, s, h182x2)
  have P_h182x2_nx : RowIs h182x2 ne 12000 (bputs 12000 (bputs 12000 (bputs 12000 (bputs 12000 (bputs 12000 (bputs 12000 (some []) (leBy 3962610743 4)) (leL (mi).toInt64 4)) ((y ++ ((boY ((numF (1, 4, 8) (mkG way least l).2.2.2).1.map sy2) 8) ++ ((boY ((seqV3 (mkG way least l).2.2.2).map sy3) 9) ++ (boY ((seqV1 (mkG way least l).2.2.2).map sy1) 9)))))) (leBy 1 4)) (leBy 4 4)) (leBy 8 4)) 0 0 := by rw [leL_lN (by decide)] at P_h182x2_nx0; exact P_h182x2_nx0
  refine WX.s1 (L' := [(0, .ref 0), (1, .int mi), (2, .int (((0 + 1) + 1) + 1))]) rfl rfl ?_
  refine WX.s1 rfl rfl ?_
  refine WX.s1 rfl rfl ?_
  refine WX.s1 rfl rfl ?_
  refine WX.get1 (fs := [.ref 1, .ref ou, .ref ne, .ref 7, .long (lN id), .ref sta, .ref dra, .ref 67, .ref 81, .ref 189, .int (nI way), .int (nI least)]) rfl (by omega) (F_h182x2_0) rfl ?_
  refine WX.get1 (fs := [.ref (dra + 1), .ref (dra + 3), .ref (dra + 7), .ref (dra + 14), .ref (dra + 21), .ref (dra + 28)]) rfl (by omega) (F_h182x2_dra) rfl ?_
  refine WX.len1 rfl (Or.inl ⟨by omega, by decide⟩) (F_h182x2__dra_28_) ?_
  refine WX.icmp rfl (fun c_164 => ?_) (fun c_164 => absurd (by decide) c_164)
  refine WX.s1 rfl rfl ?_
  refine WX.get1 (fs := [.ref 1, .ref ou, .ref ne, .ref 7, .long (lN id), .ref sta, .ref dra, .ref 67, .ref 81, .ref 189, .int (nI way), .int (nI least)]) rfl (by omega) (F_h182x2_0) rfl ?_
  refine WX.s1 rfl rfl ?_
  refine WX.get1 (fs := [.ref 1, .ref ou, .ref ne, .ref 7, .long (lN id), .ref sta, .ref dra, .ref 67, .ref 81, .ref 189, .int (nI way), .int (nI least)]) rfl (by omega) (F_h182x2_0) rfl ?_
  refine WX.s1 rfl rfl ?_
  refine WX.s1 rfl rfl ?_
  refine WX.get1 (fs := [.ref 1, .ref ou, .ref ne, .ref 7, .long (lN id), .ref sta, .ref dra, .ref 67, .ref 81, .ref 189, .int (nI way), .int (nI least)]) rfl (by omega) (F_h182x2_0) rfl ?_
  refine WX.get1 (fs := [.ref 2, .int (nI (l).length), .int 0, .long 0, .int 0]) rfl (by omega) (F_h182x2_1) rfl ?_
  refine WX.callC (vs := [.ref ne, .ref 1, .int 0, .int (nI (l).length)]) rfl rfl rfl (Nat.le_of_ble_eq_true rfl) ((P_h182x2_nx).rcv (by omega)) ?_
  refine w_putRowL (d := d + 5) (k := ne) (q := 1) (x := 0) (y := (l).length) (by omega) P_h182x2_nx (by decide) (by omega) (by omega) (by omega) P_h182x2_in (Nat.zero_le _) (Nat.le_refl _) (by decide) (fun h207 fr207 P_h207_nx0 => ?_)
  have F_h207_0 : h207 0 = .inr (10, [.ref 1, .ref ou, .ref ne, .ref 7, .long (lN id), .ref sta, .ref dra, .ref 67, .ref 81, .ref 189, .int (nI way), .int (nI least)]) := (fr207 _ (by omega)).trans F_h182x2_0
  have F_h207_1 : h207 1 = .inr (7, [.ref 2, .int (nI (l).length), .int 0, .long 0, .int 0]) := (fr207 _ (by omega)).trans F_h182x2_1
  have F_h207_81 : h207 81 = .inr (6, [.ref 82, .ref 89, .ref 108, .ref 135, .ref 162, .ref 86, .ref 87, .int (nI (mkG way least l).2.2.2.length), .ref 88]) := (fr207 _ (by omega)).trans F_h182x2_81
  have F_h207_89 : h207 89 = .inr (5, [.ref 90, .ref 91, .int (nI (mkG way least l).2.2.1.length), .ref 92, .ref 96, .ref 100, .ref 67, .ref 106, .int ki, .int by_, .int sh, .int be]) := (fr207 _ (by omega)).trans F_h182x2_89
  have F_h207_dra : h207 dra = .inr (9, [.ref (dra + 1), .ref (dra + 3), .ref (dra + 7), .ref (dra + 14), .ref (dra + 21), .ref (dra + 28)]) := (fr207 _ (by omega)).trans F_h182x2_dra
  have F_h207__dra_28_ : h207 (dra + 28) = .inl (1, 3, .inl tA) := (fr207 _ (by omega)).trans F_h182x2__dra_28_
  have P_h207_in : RowIs h207 1 8000 (some l) 0 0 := (P_h182x2_in).zfr fr207 (by omega) (by omega)
  have P_h207_co : RowIs h207 7 8000 (some ld) 0 0 := (P_h182x2_co).zfr fr207 (by omega) (by omega)
  have P_h207_st : StX h207 sta T := (P_h182x2_st).zfr fr207 (fun j h1 h2 => by omega)
  have P_h207_dr : StX h207 dra stN := (P_h182x2_dr).zfr fr207 (fun j h1 h2 => by omega)
  have P_h207_ou : RowIs h207 ou 12000 (some lo) 0 0 := (P_h182x2_ou).zfr fr207 (by omega) (by omega)
  have P_h207_ab : AbA h207 ab := (P_h182x2_ab).zfr fr207 (by omega)
  have P_h207_c9 : CoX h207 96 := (P_h182x2_c9).zfr fr207 (fun j h1 h2 => by omega)
  have P_h207_kn : KnX h207 := (P_h182x2_kn).zfr fr207 (fun j h1 h2 => by omega)
  have P_h207_dx : DX h207 := (P_h182x2_dx).zfr fr207 (fun j h1 h2 => by omega)
  have P_h207_to : RowIs h207 106 256 (some y) 0 0 := (P_h182x2_to).zfr fr207 (by omega) (by omega)
  have P_h207_g1 : CG1 h207 none (seqV1 (mkG way least l).2.2.2) := (P_h182x2_g1).zfr fr207 (fun j h1 h2 => by omega) (by omega) (by omega)
  have P_h207_g2 : CG2 h207 none (numF (1, 4, 8) (mkG way least l).2.2.2).1 := (P_h182x2_g2).zfr fr207 (fun j h1 h2 => by omega) (by omega) (by omega)
  have P_h207_g3 : CG3 h207 none (seqV3 (mkG way least l).2.2.2) := (P_h182x2_g3).zfr fr207 (fun j h1 h2 => by omega) (by omega) (by omega)
  have FR_h207 : Fr h h207 (fun j => j ≤ 188) := (FR_h182x2).zsub fr207 (fun j hj => by omega)
  have FRq_h207 : Fr h h207 (fun j => j = ne ∨ j = ne + 1 ∨ (108 ≤ j ∧ j ≤ 188)) := FRq_h182x2.zsub fr207 (fun j hj => by omega)
  show WX _ _ _ 210 [(0, .ref 0), (1, .int mi), (2, .int (((0 + 1) + 1) + 1))] [] (n, s, h207)
  have P_h207_nx : RowIs h207 ne 12000 (bputs 12000 (some []) (mkB mi l y (mkG way least l).2.2.2)) 0 0 := by
    rw [sliceL_all] at P_h207_nx0
    unfold mkB
    simp only [bputs_app] at P_h207_nx0 ⊢
    exact P_h207_nx0
  obtain ⟨u_, sp_, F_h207_ne, hsp⟩ := row_sp P_h207_nx
  refine WX.s1 rfl rfl ?_
  refine WX.get1 (fs := [.ref 1, .ref ou, .ref ne, .ref 7, .long (lN id), .ref sta, .ref dra, .ref 67, .ref 81, .ref 189, .int (nI way), .int (nI least)]) rfl (by omega) (F_h207_0) rfl ?_
  refine WX.get1 (fs := [.ref (ne + 1), .int (nI u_), .int sp_, .long 0, .int 0]) rfl (by omega) (F_h207_ne) rfl ?_
  refine WX.if_ rfl (fun c_217 => ?_) (fun c_217 => ?_)
  · skip
    rw [show sp_ = 0 from c_217] at hsp F_h207_ne
    have hsm : (mkB mi l y (mkG way least l).2.2.2).length ≤ 12000 := by
      by_cases z : (mkB mi l y (mkG way least l).2.2.2).length ≤ 12000
      · exact z
      · rw [bputs_all, if_neg z] at hsp; exact absurd (show (0 : Int32) = 1 from hsp) (by decide)
    have ebf : bputs 12000 (some []) (mkB mi l y (mkG way least l).2.2.2) = some (mkB mi l y (mkG way least l).2.2.2) := by rw [bputs_all, if_pos hsm]
    rw [ebf] at P_h207_nx
    have F_h207_ne2 := row_obj P_h207_nx
    refine WX.s1 rfl rfl ?_
    have FRs : Fr h h207 (fun j => j = ne ∨ j = ne + 1 ∨ (108 ≤ j ∧ j ≤ 188)) := FRq_h207
    have fg9 : Fr hg h207 (fun j => j ≤ 80 ∨ (96 ≤ j ∧ j ≤ 99) ∨ (101 ≤ j ∧ j ≤ 188)) := ((fg).mono (fun j hj => by omega)).ztr (FRs.mono (fun j hj => by omega))
    refine WX.callC (vs := [.ref 0]) rfl rfl rfl (Nat.le_of_ble_eq_true rfl) (rcv_ok (by omega) F_h207_0) ?_
    refine x_bOut (d := d + 6) hn hno F_h207_0 F_h207_ne2 (fun h9 fr9 F_h9_0 => ?_)
    have FR_h9 : Fr h h9 (fun j => j ≤ 188) := (FR_h207).zsub fr9 (fun j hj => by omega)
    have hY := (⟨_, PkY.mk3 hG fg9 (fun x h1 h2 => by omega) (by omega) P_h207_c9 P_h207_kn P_h207_dx ⟨_, _, _, P_h207_to⟩ P_h207_g1 P_h207_g2 P_h207_g3⟩ : ∃ S, PkY h207 S)
    obtain ⟨S9, hY⟩ := hY
    show WX _ _ _ 228 [(0, .ref 0), (1, .int mi), (2, .int (((0 + 1) + 1) + 1))] [.int (nI (mkB mi l y (mkG way least l).2.2.2).length)] (n, s, h9)
    exact WX.ret1 rfl (k1 h9 FR_h9 hsm ⟨F_h9_0, by omega, hsd, (P_h207_in).zfr fr9 (by omega) (by omega), (P_h207_nx).zfr fr9 (by omega) (by omega), ⟨_, _, _, (P_h207_ou).zfr fr9 (by omega) (by omega)⟩, (P_h207_co).zfr fr9 (by omega) (by omega), (P_h207_st).zfr fr9 (fun j h1 h2 => by omega), (P_h207_dr).toZ.zfr fr9 (fun j h1 h2 => by omega), ⟨S9, (hY).zfr fr9 (fun j h1 h2 => by omega) (fun j h1 => by omega)⟩, (P_h207_ab).zfr fr9 (by omega)⟩)
  · skip
    have hno2 := (hsp).yes c_217
    rw [bputs_all] at hno2
    have hbig : 12000 < (mkB mi l y (mkG way least l).2.2.2).length := by
      by_cases z : (mkB mi l y (mkG way least l).2.2.2).length ≤ 12000
      · rw [if_pos z] at hno2; exact absurd hno2 (by simp)
      · omega
    refine WX.s1 rfl rfl ?_
    refine WX.s1 rfl rfl ?_
    have FRs : Fr h h207 (fun j => j = ne ∨ j = ne + 1 ∨ (108 ≤ j ∧ j ≤ 188)) := FRq_h207
    have fg9 : Fr hg h207 (fun j => j ≤ 80 ∨ (96 ≤ j ∧ j ≤ 99) ∨ (101 ≤ j ∧ j ≤ 188)) := ((fg).mono (fun j hj => by omega)).ztr (FRs.mono (fun j hj => by omega))
    exact WX.ret1 rfl (k0 h207 FR_h207 hbig ⟨F_h207_0, hno, hsd, P_h207_in, P_h207_ou, ⟨_, _, _, P_h207_nx⟩, P_h207_co, P_h207_st, (P_h207_dr).toZ, ⟨_, PkY.mk3 hG fg9 (fun x h1 h2 => by omega) (by omega) P_h207_c9 P_h207_kn P_h207_dx ⟨_, _, _, P_h207_to⟩ P_h207_g1 P_h207_g2 P_h207_g3⟩, P_h207_ab⟩)
