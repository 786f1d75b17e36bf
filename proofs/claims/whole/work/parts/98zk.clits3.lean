/-! the literals, the class's: put -/
theorem leL_lN {v : Nat} (h : v < 2 ^ 64) (b : Nat) : leL (lN v) b = leBy v b := by
  unfold leL leBy
  refine List.map_congr_left (fun i _ => ?_)
  show (lN v).toBitVec.toNat / 2 ^ (8 * i) % 256 = _
  rw [wb_tn h, d256]
def pvF (k n : Nat) : Nat := if hpF n = 1 then k + 8 * n else if hpF n = 2 then k + 4 + 16 * n else k + 12 + 16 * n
def cvF (k n st : Nat) : Nat := if n < 1024 then k + 16 * n + st * 2 ^ 14 else k + 8 + 16 * n + st * 2 ^ 18
noncomputable def stmY (L : Nat → Nat) (t : Nat) (ls : List Nat) : List Nat := if ls.length < 1024 then sY L t ls 0 ls.length else frY L t ls
def plY (k : Nat) (ls : List Nat) : List Nat := leBy (pvF k ls.length) (hpF ls.length) ++ (if k = 0 then ls else [ls.getD 0 0])
def hdY (k st : Nat) (ls : List Nat) : List Nat := leBy (cvF k ls.length st) (chd ls.length)
set_option maxRecDepth 20000 in
theorem x_lPlain {d n s : Nat} {h : Nat → aE} {r RN k : Nat} {ls : List Nat} {bb : Option (List Nat)} {yA : Nat → Int32} {by_ sh be : Int32} (hn : 190 ≤ n) (hr : r + 1 < 67) (hRN : RN < 2 ^ 31) (hk : k = 0 ∨ (k = 1 ∧ 1 ≤ ls.length)) (hls : LsOk ls) (hy : ∀ i, i < ls.length → ls.getD i 0 < 256 ∧ yA i = sb_b (ls.getD i 0)) (F_h_89 : h 89 = .inr (5, [.ref 90, .ref 91, .int (nI ls.length), .ref 92, .ref 96, .ref 100, .ref 67, .ref 106, .int (nI k), .int by_, .int sh, .int be])) (F_h_90 : h 90 = .inl (0, 8000, .inl yA)) (P_h_row : RowIs h r RN bb 0 0) {Ψ : Option Value → aH → Prop} (kk : ∀ h', Fr h h' (fun j => j = r ∨ j = r + 1) → RowIs h' r RN (bputs RN bb (plY k ls)) 0 0 → Ψ none (n, s, h')) : WO (mM (d + 3)) 64 [.ref 89, .ref r] (n, s, h) Ψ := by
  refine WO.of (Nat.le_of_ble_eq_true rfl) ?_
  have FR_h : Fr h h (fun j => j = r ∨ j = r + 1) := Fr.rf
  have hlen := hls.2
  show WX (lk tX5_putPlain) (mM (d + 2)) Ψ 0 [(0, .ref 89), (1, .ref r)] [] (n, s, h)
  refine WX.s1 rfl rfl ?_
  refine WX.callC (vs := [.ref 89]) rfl rfl rfl (Nat.le_of_ble_eq_true rfl) (rcv_ok (by omega) F_h_89) ?_
  refine x_lpl hn hlen F_h_89 ?_
  show WX _ _ _ 4 [(0, .ref 89), (1, .ref r)] [.int (nI (hpF ls.length))] (n, s, h)
  refine WX.s1 (L' := [(0, .ref 89), (1, .ref r), (2, .int (nI (hpF ls.length)))]) rfl rfl ?_
  have hcase : hpF ls.length = 1 ∨ hpF ls.length = 2 ∨ hpF ls.length = 3 := by unfold hpF; split; exact Or.inl rfl; split; exact Or.inr (Or.inl rfl); exact Or.inr (Or.inr rfl)
  rcases hcase with hh | hh | hh
  · rw [hh]
    have hpv : pvF k ls.length = k + 8 * ls.length := by unfold pvF; rw [if_pos hh]
    refine WX.s1 rfl rfl ?_
    refine WX.s1 rfl rfl ?_
    refine WX.s1 rfl rfl ?_
    refine WX.icmp rfl (fun c_8 => absurd c_8 (by decide)) (fun c_8 => ?_)
    refine WX.s1 rfl rfl ?_
    refine WX.get1 (fs := [.ref 90, .ref 91, .int (nI ls.length), .ref 92, .ref 96, .ref 100, .ref 67, .ref 106, .int (nI k), .int by_, .int sh, .int be]) rfl (by omega) (F_h_89) rfl ?_
    refine WX.s1 rfl rfl ?_
    refine WX.s1 rfl rfl ?_
    refine WX.get1 (fs := [.ref 90, .ref 91, .int (nI ls.length), .ref 92, .ref 96, .ref 100, .ref 67, .ref 106, .int (nI k), .int by_, .int sh, .int be]) rfl (by omega) (F_h_89) rfl ?_
    refine WX.s1 (S' := [.int (8 * (nI ls.length)), .int (nI k), .ref r]) rfl rfl ?_
    rw [show (8 * (nI ls.length)) = nI (8 * ls.length) from (Int32.ofNat_mul 8 ls.length).symm]
    refine WX.s1 (S' := [.int ((nI k) + (nI (8 * ls.length))), .ref r]) rfl rfl ?_
    rw [show ((nI k) + (nI (8 * ls.length))) = nI (k + 8 * ls.length) from nI_add k (8 * ls.length)]
    refine WX.s1 (S' := [.long ((nI (k + 8 * ls.length)).toInt64), .ref r]) rfl rfl ?_
    refine WX.s1 rfl rfl ?_
    refine WX.s1 rfl rfl ?_
    rw [show ((nI (k + 8 * ls.length)).toInt64) = lN (k + 8 * ls.length) from nI_l (by omega)]
    refine WX.callC (vs := [.ref r, .long (lN (k + 8 * ls.length)), .int (nI 1)]) rfl rfl rfl (Nat.le_of_ble_eq_true rfl) (P_h_row.rcv (by omega)) ?_
    refine w_putNumber (by omega) P_h_row hRN (by decide) (fun h49 fr49 P_h49_row => ?_)
    have F_h49_89 : h49 89 = .inr (5, [.ref 90, .ref 91, .int (nI ls.length), .ref 92, .ref 96, .ref 100, .ref 67, .ref 106, .int (nI k), .int by_, .int sh, .int be]) := (fr49 _ (by first | decide | omega)).trans F_h_89
    have F_h49_90 : h49 90 = .inl (0, 8000, .inl yA) := (fr49 _ (by first | decide | omega)).trans F_h_90
    have FR_h49 : Fr h h49 (fun j => j = r ∨ j = r + 1) := FR_h.zsub fr49 (fun j hj => by first | exact hj | exact Or.inl hj | exact Or.inr hj | omega)
    show WX _ _ _ 52 [(0, .ref 89), (1, .ref r), (2, .int (nI 1))] [] (n, s, h49)
    rw [leL_lN (by omega)] at P_h49_row
    refine WX.s1 rfl rfl ?_
    refine WX.s1 rfl rfl ?_
    refine WX.get1 (fs := [.ref 90, .ref 91, .int (nI ls.length), .ref 92, .ref 96, .ref 100, .ref 67, .ref 106, .int (nI k), .int by_, .int sh, .int be]) rfl (by omega) (F_h49_89) rfl ?_
    refine WX.s1 rfl rfl ?_
    refine WX.s1 rfl rfl ?_
    refine WX.get1 (fs := [.ref 90, .ref 91, .int (nI ls.length), .ref 92, .ref 96, .ref 100, .ref 67, .ref 106, .int (nI k), .int by_, .int sh, .int be]) rfl (by omega) (F_h49_89) rfl ?_
    refine WX.if_ rfl (fun c_62 => ?_) (fun c_62 => ?_)
    · skip
      have n_62 : ¬ k = 0 := fun zz_ => c_62 ((nI_eq (a := k) (b := 0) (by omega) (by omega)).mpr zz_)
      refine WX.s1 rfl rfl ?_
      refine WX.callC (vs := [.ref r, .ref 90, .int (nI 0), .int (nI 1)]) rfl rfl rfl (Nat.le_of_ble_eq_true rfl) (P_h49_row.rcv (by omega)) ?_
      refine w_putCellsL (lq := ls) (by omega) P_h49_row hRN (by omega) (by omega) (by omega) F_h49_90 (Nat.zero_le _) (by omega) (by decide) (fun i _ hi => hy i (by omega)) (fun h9 fr9 P9 => ?_)
      exact WX.ret0 rfl (kk h9 (FR_h49.ztr fr9) (by unfold plY; rw [if_neg (by omega), hpv, hh, bputs_app]; exact P9))
    · skip
      have n_62 : k = 0 := (nI_eq (a := k) (b := 0) (by omega) (by omega)).mp (Classical.not_not.mp c_62)
      refine WX.s1 rfl rfl ?_
      refine WX.get1 (fs := [.ref 90, .ref 91, .int (nI ls.length), .ref 92, .ref 96, .ref 100, .ref 67, .ref 106, .int (nI k), .int by_, .int sh, .int be]) rfl (by omega) (F_h49_89) rfl ?_
      refine WX.s1 rfl rfl ?_
      refine WX.callC (vs := [.ref r, .ref 90, .int (nI 0), .int (nI ls.length)]) rfl rfl rfl (Nat.le_of_ble_eq_true rfl) (P_h49_row.rcv (by omega)) ?_
      refine w_putCellsL (lq := ls) (by omega) P_h49_row hRN (by omega) (by omega) (by omega) F_h49_90 (Nat.zero_le _) (by omega) (by decide) (fun i _ hi => hy i (by omega)) (fun h9 fr9 P9 => ?_)
      exact WX.ret0 rfl (kk h9 (FR_h49.ztr fr9) (by unfold plY; rw [if_pos (by omega), hpv, hh, bputs_app]; rw [slice_all] at P9; exact P9))
  · rw [hh]
    have hpv : pvF k ls.length = k + 4 + 16 * ls.length := by unfold pvF; rw [hh]; rfl
    refine WX.s1 rfl rfl ?_
    refine WX.s1 rfl rfl ?_
    refine WX.s1 rfl rfl ?_
    refine WX.icmp rfl (fun c_8 => ?_) (fun c_8 => absurd (by decide) c_8)
    refine WX.s1 rfl rfl ?_
    refine WX.get1 (fs := [.ref 90, .ref 91, .int (nI ls.length), .ref 92, .ref 96, .ref 100, .ref 67, .ref 106, .int (nI k), .int by_, .int sh, .int be]) rfl (by omega) (F_h_89) rfl ?_
    refine WX.s1 rfl rfl ?_
    refine WX.s1 rfl rfl ?_
    refine WX.s1 rfl rfl ?_
    refine WX.s1 (S' := [.int (2 * (nI 2)), .int 4, .int (nI k), .ref r]) rfl rfl ?_
    rw [show (2 * (nI 2)) = nI (2 * 2) from (Int32.ofNat_mul 2 2).symm]
    refine WX.s1 rfl rfl ?_
    refine WX.s1 (S' := [.int ((nI (2 * 2)) - 3), .int 4, .int (nI k), .ref r]) rfl rfl ?_
    refine WX.s1 (S' := [.int (4 * ((nI (2 * 2)) - 3)), .int (nI k), .ref r]) rfl rfl ?_
    refine WX.s1 (S' := [.int ((nI k) + (4 * ((nI (2 * 2)) - 3))), .ref r]) rfl rfl ?_
    refine WX.s1 rfl rfl ?_
    refine WX.s1 rfl rfl ?_
    refine WX.get1 (fs := [.ref 90, .ref 91, .int (nI ls.length), .ref 92, .ref 96, .ref 100, .ref 67, .ref 106, .int (nI k), .int by_, .int sh, .int be]) rfl (by omega) (F_h_89) rfl ?_
    refine WX.s1 (S' := [.int (16 * (nI ls.length)), .int ((nI k) + (4 * ((nI (2 * 2)) - 3))), .ref r]) rfl rfl ?_
    rw [show (16 * (nI ls.length)) = nI (16 * ls.length) from (Int32.ofNat_mul 16 ls.length).symm]
    refine WX.s1 (S' := [.int (((nI k) + (4 * ((nI (2 * 2)) - 3))) + (nI (16 * ls.length))), .ref r]) rfl rfl ?_
    refine WX.s1 (S' := [.long ((((nI k) + (4 * ((nI (2 * 2)) - 3))) + (nI (16 * ls.length))).toInt64), .ref r]) rfl rfl ?_
    refine WX.s1 rfl rfl ?_
    rw [show ((((nI k) + (4 * ((nI (2 * 2)) - 3))) + (nI (16 * ls.length))).toInt64) = lN (k + 4 + 16 * ls.length) from by rw [show (4 : Int32) * (nI (2 * 2) - 3) = nI 4 by decide]; exact (congrArg Int32.toInt64 (((congrArg (· + nI (16 * ls.length)) (nI_add k 4)).trans (nI_add (k + 4) (16 * ls.length))))).trans (nI_l (by omega))]
    refine WX.callC (vs := [.ref r, .long (lN (k + 4 + 16 * ls.length)), .int (nI 2)]) rfl rfl rfl (Nat.le_of_ble_eq_true rfl) (P_h_row.rcv (by omega)) ?_
    refine w_putNumber (by omega) P_h_row hRN (by decide) (fun h49 fr49 P_h49_row => ?_)
    have F_h49_89 : h49 89 = .inr (5, [.ref 90, .ref 91, .int (nI ls.length), .ref 92, .ref 96, .ref 100, .ref 67, .ref 106, .int (nI k), .int by_, .int sh, .int be]) := (fr49 _ (by first | decide | omega)).trans F_h_89
    have F_h49_90 : h49 90 = .inl (0, 8000, .inl yA) := (fr49 _ (by first | decide | omega)).trans F_h_90
    have FR_h49 : Fr h h49 (fun j => j = r ∨ j = r + 1) := FR_h.zsub fr49 (fun j hj => by first | exact hj | exact Or.inl hj | exact Or.inr hj | omega)
    show WX _ _ _ 52 [(0, .ref 89), (1, .ref r), (2, .int (nI 2))] [] (n, s, h49)
    rw [leL_lN (by omega)] at P_h49_row
    refine WX.s1 rfl rfl ?_
    refine WX.s1 rfl rfl ?_
    refine WX.get1 (fs := [.ref 90, .ref 91, .int (nI ls.length), .ref 92, .ref 96, .ref 100, .ref 67, .ref 106, .int (nI k), .int by_, .int sh, .int be]) rfl (by omega) (F_h49_89) rfl ?_
    refine WX.s1 rfl rfl ?_
    refine WX.s1 rfl rfl ?_
    refine WX.get1 (fs := [.ref 90, .ref 91, .int (nI ls.length), .ref 92, .ref 96, .ref 100, .ref 67, .ref 106, .int (nI k), .int by_, .int sh, .int be]) rfl (by omega) (F_h49_89) rfl ?_
    refine WX.if_ rfl (fun c_62 => ?_) (fun c_62 => ?_)
    · skip
      have n_62 : ¬ k = 0 := fun zz_ => c_62 ((nI_eq (a := k) (b := 0) (by omega) (by omega)).mpr zz_)
      refine WX.s1 rfl rfl ?_
      refine WX.callC (vs := [.ref r, .ref 90, .int (nI 0), .int (nI 1)]) rfl rfl rfl (Nat.le_of_ble_eq_true rfl) (P_h49_row.rcv (by omega)) ?_
      refine w_putCellsL (lq := ls) (by omega) P_h49_row hRN (by omega) (by omega) (by omega) F_h49_90 (Nat.zero_le _) (by omega) (by decide) (fun i _ hi => hy i (by omega)) (fun h9 fr9 P9 => ?_)
      exact WX.ret0 rfl (kk h9 (FR_h49.ztr fr9) (by unfold plY; rw [if_neg (by omega), hpv, hh, bputs_app]; exact P9))
    · skip
      have n_62 : k = 0 := (nI_eq (a := k) (b := 0) (by omega) (by omega)).mp (Classical.not_not.mp c_62)
      refine WX.s1 rfl rfl ?_
      refine WX.get1 (fs := [.ref 90, .ref 91, .int (nI ls.length), .ref 92, .ref 96, .ref 100, .ref 67, .ref 106, .int (nI k), .int by_, .int sh, .int be]) rfl (by omega) (F_h49_89) rfl ?_
      refine WX.s1 rfl rfl ?_
      refine WX.callC (vs := [.ref r, .ref 90, .int (nI 0), .int (nI ls.length)]) rfl rfl rfl (Nat.le_of_ble_eq_true rfl) (P_h49_row.rcv (by omega)) ?_
      refine w_putCellsL (lq := ls) (by omega) P_h49_row hRN (by omega) (by omega) (by omega) F_h49_90 (Nat.zero_le _) (by omega) (by decide) (fun i _ hi => hy i (by omega)) (fun h9 fr9 P9 => ?_)
      exact WX.ret0 rfl (kk h9 (FR_h49.ztr fr9) (by unfold plY; rw [if_pos (by omega), hpv, hh, bputs_app]; rw [slice_all] at P9; exact P9))
  · rw [hh]
    have hpv : pvF k ls.length = k + 12 + 16 * ls.length := by unfold pvF; rw [hh]; rfl
    refine WX.s1 rfl rfl ?_
    refine WX.s1 rfl rfl ?_
    refine WX.s1 rfl rfl ?_
    refine WX.icmp rfl (fun c_8 => ?_) (fun c_8 => absurd (by decide) c_8)
    refine WX.s1 rfl rfl ?_
    refine WX.get1 (fs := [.ref 90, .ref 91, .int (nI ls.length), .ref 92, .ref 96, .ref 100, .ref 67, .ref 106, .int (nI k), .int by_, .int sh, .int be]) rfl (by omega) (F_h_89) rfl ?_
    refine WX.s1 rfl rfl ?_
    refine WX.s1 rfl rfl ?_
    refine WX.s1 rfl rfl ?_
    refine WX.s1 (S' := [.int (2 * (nI 3)), .int 4, .int (nI k), .ref r]) rfl rfl ?_
    rw [show (2 * (nI 3)) = nI (2 * 3) from (Int32.ofNat_mul 2 3).symm]
    refine WX.s1 rfl rfl ?_
    refine WX.s1 (S' := [.int ((nI (2 * 3)) - 3), .int 4, .int (nI k), .ref r]) rfl rfl ?_
    refine WX.s1 (S' := [.int (4 * ((nI (2 * 3)) - 3)), .int (nI k), .ref r]) rfl rfl ?_
    refine WX.s1 (S' := [.int ((nI k) + (4 * ((nI (2 * 3)) - 3))), .ref r]) rfl rfl ?_
    refine WX.s1 rfl rfl ?_
    refine WX.s1 rfl rfl ?_
    refine WX.get1 (fs := [.ref 90, .ref 91, .int (nI ls.length), .ref 92, .ref 96, .ref 100, .ref 67, .ref 106, .int (nI k), .int by_, .int sh, .int be]) rfl (by omega) (F_h_89) rfl ?_
    refine WX.s1 (S' := [.int (16 * (nI ls.length)), .int ((nI k) + (4 * ((nI (2 * 3)) - 3))), .ref r]) rfl rfl ?_
    rw [show (16 * (nI ls.length)) = nI (16 * ls.length) from (Int32.ofNat_mul 16 ls.length).symm]
    refine WX.s1 (S' := [.int (((nI k) + (4 * ((nI (2 * 3)) - 3))) + (nI (16 * ls.length))), .ref r]) rfl rfl ?_
    refine WX.s1 (S' := [.long ((((nI k) + (4 * ((nI (2 * 3)) - 3))) + (nI (16 * ls.length))).toInt64), .ref r]) rfl rfl ?_
    refine WX.s1 rfl rfl ?_
    rw [show ((((nI k) + (4 * ((nI (2 * 3)) - 3))) + (nI (16 * ls.length))).toInt64) = lN (k + 12 + 16 * ls.length) from by rw [show (4 : Int32) * (nI (2 * 3) - 3) = nI 12 by decide]; exact (congrArg Int32.toInt64 (((congrArg (· + nI (16 * ls.length)) (nI_add k 12)).trans (nI_add (k + 12) (16 * ls.length))))).trans (nI_l (by omega))]
    refine WX.callC (vs := [.ref r, .long (lN (k + 12 + 16 * ls.length)), .int (nI 3)]) rfl rfl rfl (Nat.le_of_ble_eq_true rfl) (P_h_row.rcv (by omega)) ?_
    refine w_putNumber (by omega) P_h_row hRN (by decide) (fun h49 fr49 P_h49_row => ?_)
    have F_h49_89 : h49 89 = .inr (5, [.ref 90, .ref 91, .int (nI ls.length), .ref 92, .ref 96, .ref 100, .ref 67, .ref 106, .int (nI k), .int by_, .int sh, .int be]) := (fr49 _ (by first | decide | omega)).trans F_h_89
    have F_h49_90 : h49 90 = .inl (0, 8000, .inl yA) := (fr49 _ (by first | decide | omega)).trans F_h_90
    have FR_h49 : Fr h h49 (fun j => j = r ∨ j = r + 1) := FR_h.zsub fr49 (fun j hj => by first | exact hj | exact Or.inl hj | exact Or.inr hj | omega)
    show WX _ _ _ 52 [(0, .ref 89), (1, .ref r), (2, .int (nI 3))] [] (n, s, h49)
    rw [leL_lN (by omega)] at P_h49_row
    refine WX.s1 rfl rfl ?_
    refine WX.s1 rfl rfl ?_
    refine WX.get1 (fs := [.ref 90, .ref 91, .int (nI ls.length), .ref 92, .ref 96, .ref 100, .ref 67, .ref 106, .int (nI k), .int by_, .int sh, .int be]) rfl (by omega) (F_h49_89) rfl ?_
    refine WX.s1 rfl rfl ?_
    refine WX.s1 rfl rfl ?_
    refine WX.get1 (fs := [.ref 90, .ref 91, .int (nI ls.length), .ref 92, .ref 96, .ref 100, .ref 67, .ref 106, .int (nI k), .int by_, .int sh, .int be]) rfl (by omega) (F_h49_89) rfl ?_
    refine WX.if_ rfl (fun c_62 => ?_) (fun c_62 => ?_)
    · skip
      have n_62 : ¬ k = 0 := fun zz_ => c_62 ((nI_eq (a := k) (b := 0) (by omega) (by omega)).mpr zz_)
      refine WX.s1 rfl rfl ?_
      refine WX.callC (vs := [.ref r, .ref 90, .int (nI 0), .int (nI 1)]) rfl rfl rfl (Nat.le_of_ble_eq_true rfl) (P_h49_row.rcv (by omega)) ?_
      refine w_putCellsL (lq := ls) (by omega) P_h49_row hRN (by omega) (by omega) (by omega) F_h49_90 (Nat.zero_le _) (by omega) (by decide) (fun i _ hi => hy i (by omega)) (fun h9 fr9 P9 => ?_)
      exact WX.ret0 rfl (kk h9 (FR_h49.ztr fr9) (by unfold plY; rw [if_neg (by omega), hpv, hh, bputs_app]; exact P9))
    · skip
      have n_62 : k = 0 := (nI_eq (a := k) (b := 0) (by omega) (by omega)).mp (Classical.not_not.mp c_62)
      refine WX.s1 rfl rfl ?_
      refine WX.get1 (fs := [.ref 90, .ref 91, .int (nI ls.length), .ref 92, .ref 96, .ref 100, .ref 67, .ref 106, .int (nI k), .int by_, .int sh, .int be]) rfl (by omega) (F_h49_89) rfl ?_
      refine WX.s1 rfl rfl ?_
      refine WX.callC (vs := [.ref r, .ref 90, .int (nI 0), .int (nI ls.length)]) rfl rfl rfl (Nat.le_of_ble_eq_true rfl) (P_h49_row.rcv (by omega)) ?_
      refine w_putCellsL (lq := ls) (by omega) P_h49_row hRN (by omega) (by omega) (by omega) F_h49_90 (Nat.zero_le _) (by omega) (by decide) (fun i _ hi => hy i (by omega)) (fun h9 fr9 P9 => ?_)
      exact WX.ret0 rfl (kk h9 (FR_h49.ztr fr9) (by unfold plY; rw [if_pos (by omega), hpv, hh, bputs_app]; rw [slice_all] at P9; exact P9))
set_option maxRecDepth 20000 in
theorem x_lDesc {d n s : Nat} {h : Nat → aE} {r RN : Nat} {y : List Nat} {bb : Option (List Nat)} {u ki by_ sh be : Int32} (hn : 190 ≤ n) (hr : r + 1 < 67) (hRN : RN < 2 ^ 31) (F_h_89 : h 89 = .inr (5, [.ref 90, .ref 91, .int u, .ref 92, .ref 96, .ref 100, .ref 67, .ref 106, .int ki, .int by_, .int sh, .int be])) (P_h_row : RowIs h r RN bb 0 0) (P_h_told : RowIs h 106 256 (some y) 0 0) {Ψ : Option Value → aH → Prop} (kk : ∀ h', Fr h h' (fun j => j = r ∨ j = r + 1) → RowIs h' r RN (bputs RN bb y) 0 0 → Ψ none (n, s, h')) : WO (mM (d + 3)) 65 [.ref 89, .ref r] (n, s, h) Ψ := by
  refine WO.of (Nat.le_of_ble_eq_true rfl) ?_
  have FR_h : Fr h h (fun j => j = r ∨ j = r + 1) := Fr.rf
  obtain ⟨gT, hT9, -⟩ := P_h_told.at_
  have F_h_106 := hT9.1
  show WX (lk tX5_putDescription) (mM (d + 2)) Ψ 0 [(0, .ref 89), (1, .ref r)] [] (n, s, h)
  refine WX.s1 rfl rfl ?_
  refine WX.s1 rfl rfl ?_
  refine WX.get1 (fs := [.ref 90, .ref 91, .int u, .ref 92, .ref 96, .ref 100, .ref 67, .ref 106, .int ki, .int by_, .int sh, .int be]) rfl (by omega) (F_h_89) rfl ?_
  refine WX.s1 rfl rfl ?_
  refine WX.s1 rfl rfl ?_
  refine WX.get1 (fs := [.ref 90, .ref 91, .int u, .ref 92, .ref 96, .ref 100, .ref 67, .ref 106, .int ki, .int by_, .int sh, .int be]) rfl (by omega) (F_h_89) rfl ?_
  refine WX.get1 (fs := [.ref 107, .int (nI y.length), .int 0, .long 0, .int 0]) rfl (by omega) (F_h_106) rfl ?_
  refine WX.callC (vs := [.ref r, .ref 106, .int 0, .int (nI y.length)]) rfl rfl rfl (Nat.le_of_ble_eq_true rfl) (P_h_row.rcv (by omega)) ?_
  refine w_putRowL (by omega) P_h_row hRN (by omega) (by omega) (by omega) P_h_told (Nat.zero_le _) (Nat.le_refl _) (by decide) (fun h13 fr13 P_h13_row => ?_)
  have F_h13_89 : h13 89 = .inr (5, [.ref 90, .ref 91, .int u, .ref 92, .ref 96, .ref 100, .ref 67, .ref 106, .int ki, .int by_, .int sh, .int be]) := (fr13 _ (by first | decide | omega)).trans F_h_89
  have F_h13_106 : h13 106 = .inr (7, [.ref 107, .int (nI y.length), .int 0, .long 0, .int 0]) := (fr13 _ (by first | decide | omega)).trans F_h_106
  have P_h13_told : RowIs h13 106 256 (some y) 0 0 := P_h_told.zfr fr13 (by first | decide | omega) (by first | decide | omega)
  have FR_h13 : Fr h h13 (fun j => j = r ∨ j = r + 1) := FR_h.zsub fr13 (fun j hj => by first | exact hj | exact Or.inl hj | exact Or.inr hj | omega)
  show WX _ _ _ 16 [(0, .ref 89), (1, .ref r)] [] (n, s, h13)
  exact WX.ret0 rfl (kk h13 FR_h13 (by rw [slice_all] at P_h13_row; exact P_h13_row))
set_option maxRecDepth 20000 in
theorem x_lStm {d n s : Nat} {h : Nat → aE} {r RN q t : Nat} {L : Nat → Nat} {ls : List Nat} {bb : Option (List Nat)} {yA : Nat → Int32} {ki by_ sh be : Int32} (hn : 190 ≤ n) (hr : r + 1 < 67) (hRN : RN < 2 ^ 31) (hq : q = 92 ∨ q = 96) (hls : LsOk ls) (hlz : ∀ s, s ∈ ls → L s ≠ 0) (hy : ∀ i, i < ls.length → ls.getD i 0 < 256 ∧ yA i = sb_b (ls.getD i 0)) (F_h_89 : h 89 = .inr (5, [.ref 90, .ref 91, .int (nI ls.length), .ref 92, .ref 96, .ref 100, .ref 67, .ref 106, .int ki, .int by_, .int sh, .int be])) (F_h_90 : h 90 = .inl (0, 8000, .inl yA)) (P_h_row : RowIs h r RN bb 0 0) (P_h_co : CoT h q L t) {Ψ : Option Value → aH → Prop} (kk : ∀ h', Fr h h' (fun j => j = r ∨ j = r + 1) → RowIs h' r RN (bputs RN bb (stmY L t ls)) 0 0 → Ψ none (n, s, h')) : WO (mM (d + 4)) 66 [.ref 89, .ref r, .ref q] (n, s, h) Ψ := by
  refine WO.of (Nat.le_of_ble_eq_true rfl) ?_
  have FR_h : Fr h h (fun j => j = r ∨ j = r + 1) := Fr.rf
  have hlen := hls.2
  have hlz2 : ∀ i, i < ls.length → L (ls.getD i 0) ≠ 0 := fun i hi => hlz _ (getD_mem hi)
  show WX (lk tX5_putStreams) (mM (d + 3)) Ψ 0 [(0, .ref 89), (1, .ref r), (2, .ref q)] [] (n, s, h)
  refine WX.s1 rfl rfl ?_
  refine WX.get1 (fs := [.ref 90, .ref 91, .int (nI ls.length), .ref 92, .ref 96, .ref 100, .ref 67, .ref 106, .int ki, .int by_, .int sh, .int be]) rfl (by omega) (F_h_89) rfl ?_
  refine WX.s1 rfl rfl ?_
  refine WX.icmp rfl (fun c_7 => ?_) (fun c_7 => ?_)
  · skip
    have n_7 : 1024 ≤ ls.length := (nI_leI (a := 1024) (b := ls.length) (by omega) (by omega)).mp c_7
    refine WX.s1 rfl rfl ?_
    refine WX.get1 (fs := [.ref 90, .ref 91, .int (nI ls.length), .ref 92, .ref 96, .ref 100, .ref 67, .ref 106, .int ki, .int by_, .int sh, .int be]) rfl (by omega) (F_h_89) rfl ?_
    refine WX.s1 rfl rfl ?_
    refine WX.s1 (S' := [.int ((nI ls.length) + 3)]) rfl rfl ?_
    rw [show ((nI ls.length) + 3) = nI (ls.length + 3) from nI_add ls.length 3]
    refine WX.s1 rfl rfl ?_
    refine WX.div rfl (by decide) ?_
    rw [show nI (ls.length + 3) / 4 = nI ((ls.length + 3) / 4) from pk_div (by omega) (by decide) (by decide)]
    refine WX.s1 (L' := [(0, .ref 89), (1, .ref r), (2, .ref q), (3, .int (nI ((ls.length + 3) / 4)))]) rfl rfl ?_
    refine WX.s1 rfl rfl ?_
    refine WX.s1 (L' := [(0, .ref 89), (1, .ref r), (2, .ref q), (3, .int (nI ((ls.length + 3) / 4))), (4, .int 0)]) rfl rfl ?_
    refine WX.s1 rfl rfl ?_
    refine WX.s1 rfl rfl ?_
    refine WX.icmp rfl (fun c_40 => absurd c_40 (by decide)) (fun c_40 => ?_)
    clear c_40
    refine WX.s1 rfl rfl ?_
    refine WX.s1 rfl rfl ?_
    refine WX.s1 rfl rfl ?_
    refine WX.get1 (fs := [.ref 90, .ref 91, .int (nI ls.length), .ref 92, .ref 96, .ref 100, .ref 67, .ref 106, .int ki, .int by_, .int sh, .int be]) rfl (by omega) (F_h_89) rfl ?_
    refine WX.s1 rfl rfl ?_
    refine WX.s1 rfl rfl ?_
    refine WX.s1 (S' := [.int (0 * (nI ((ls.length + 3) / 4))), .ref 90, .ref q, .ref r]) rfl rfl ?_
    rw [show (0 * (nI ((ls.length + 3) / 4))) = nI (0 * ((ls.length + 3) / 4)) from (Int32.ofNat_mul 0 ((ls.length + 3) / 4)).symm]
    refine WX.s1 rfl rfl ?_
    refine WX.s1 rfl rfl ?_
    refine WX.s1 (S' := [.int (0 + 1), .int (nI (0 * ((ls.length + 3) / 4))), .ref 90, .ref q, .ref r]) rfl rfl ?_
    rw [show ((0 : Int32) + 1) = 1 from rfl]
    refine WX.s1 rfl rfl ?_
    refine WX.s1 (S' := [.int (1 * (nI ((ls.length + 3) / 4))), .int (nI (0 * ((ls.length + 3) / 4))), .ref 90, .ref q, .ref r]) rfl rfl ?_
    rw [show (1 * (nI ((ls.length + 3) / 4))) = nI (1 * ((ls.length + 3) / 4)) from (Int32.ofNat_mul 1 ((ls.length + 3) / 4)).symm]
    obtain ⟨lBb1, kBb1, eBb1, ⟨c0b1, c1b1, c2b1, -⟩, hDb1⟩ := id P_h_co
    have hl11b1 : ∀ s, s < 256 → lBb1 s = nI (L s) ∧ L s ≤ 11 := fun s hs => ⟨hDb1.1 s hs, Nat.le_trans (hDb1.2.2.2.2.1 s hs) hDb1.2.2.2.1⟩
    refine WX.callC (vs := [.ref q, .ref 90, .int (nI (0 * ((ls.length + 3) / 4))), .int (nI (1 * ((ls.length + 3) / 4)))]) rfl rfl rfl (Nat.le_of_ble_eq_true rfl) (rcv_ok (by omega) c0b1) ?_
    refine x_cstB (by omega) (by omega) hl11b1 hy (by omega) (by omega) hlen (Nat.le_refl _) c0b1 c1b1 F_h_90 ?_
    rw [show sumN (fun i => L (ls.getD ((0 * ((ls.length + 3) / 4)) + i) 0)) ((1 * ((ls.length + 3) / 4)) - (0 * ((ls.length + 3) / 4))) / 8 + 1 = stb L ls (0 * ((ls.length + 3) / 4)) (0 * ((ls.length + 3) / 4) + ((ls.length + 3) / 4)) by unfold stb; rw [show (1 * ((ls.length + 3) / 4)) = 0 * ((ls.length + 3) / 4) + ((ls.length + 3) / 4) by omega]]
    have hxb1 : (stb L ls (0 * ((ls.length + 3) / 4)) (0 * ((ls.length + 3) / 4) + ((ls.length + 3) / 4))) < 2 ^ 16 := by have q := sum18 (fun s hs => Nat.le_trans (hl11b1 s hs).2 (by decide)) hls.1 (f := (0 * ((ls.length + 3) / 4))) ((ls.length + 3) / 4) (by omega); unfold stb; rw [show 0 * ((ls.length + 3) / 4) + ((ls.length + 3) / 4) - (0 * ((ls.length + 3) / 4)) = ((ls.length + 3) / 4) by omega]; omega
    show WX _ _ _ 62 [(0, .ref 89), (1, .ref r), (2, .ref q), (3, .int (nI ((ls.length + 3) / 4))), (4, .int 0)] [.int (nI (stb L ls (0 * ((ls.length + 3) / 4)) (0 * ((ls.length + 3) / 4) + ((ls.length + 3) / 4)))), .ref r] (n, s, h)
    refine WX.s1 (S' := [.long ((nI (stb L ls (0 * ((ls.length + 3) / 4)) (0 * ((ls.length + 3) / 4) + ((ls.length + 3) / 4)))).toInt64), .ref r]) rfl rfl ?_
    refine WX.s1 rfl rfl ?_
    rw [show (nI (stb L ls (0 * ((ls.length + 3) / 4)) (0 * ((ls.length + 3) / 4) + ((ls.length + 3) / 4)))).toInt64 = lN (stb L ls (0 * ((ls.length + 3) / 4)) (0 * ((ls.length + 3) / 4) + ((ls.length + 3) / 4))) from nI_l (by omega)]
    refine WX.callC (vs := [.ref r, .long (lN (stb L ls (0 * ((ls.length + 3) / 4)) (0 * ((ls.length + 3) / 4) + ((ls.length + 3) / 4)))), .int (nI 2)]) rfl rfl rfl (Nat.le_of_ble_eq_true rfl) (P_h_row.rcv (by omega)) ?_
    refine w_putNumber (by omega) P_h_row hRN (by decide) (fun hn2 frn2 P_hn2_row => ?_)
    rw [leL_lN (by omega)] at P_hn2_row
    have F_hn2_89 : hn2 89 = .inr (5, [.ref 90, .ref 91, .int (nI ls.length), .ref 92, .ref 96, .ref 100, .ref 67, .ref 106, .int ki, .int by_, .int sh, .int be]) := (frn2 _ (by omega)).trans F_h_89
    have F_hn2_90 : hn2 90 = .inl (0, 8000, .inl yA) := (frn2 _ (by omega)).trans F_h_90
    have P_hn2_co : CoT hn2 q L t := P_h_co.zfr frn2 (fun j h1 h2 => by omega)
    have FR_hn2 : Fr h hn2 (fun j => j = r ∨ j = r + 1) := FR_h.ztr frn2
    show WX _ _ _ 67 [(0, .ref 89), (1, .ref r), (2, .ref q), (3, .int (nI ((ls.length + 3) / 4))), (4, .int 0)] [] (n, s, hn2)
    refine WX.s1 (L' := [(0, .ref 89), (1, .ref r), (2, .ref q), (3, .int (nI ((ls.length + 3) / 4))), (4, .int (0 + 1))]) rfl rfl ?_
    rw [show ((0 : Int32) + 1) = 1 from rfl]
    refine WX.s1 rfl rfl ?_
    refine WX.s1 rfl rfl ?_
    refine WX.s1 rfl rfl ?_
    refine WX.icmp rfl (fun c_40 => absurd c_40 (by decide)) (fun c_40 => ?_)
    clear c_40
    refine WX.s1 rfl rfl ?_
    refine WX.s1 rfl rfl ?_
    refine WX.s1 rfl rfl ?_
    refine WX.get1 (fs := [.ref 90, .ref 91, .int (nI ls.length), .ref 92, .ref 96, .ref 100, .ref 67, .ref 106, .int ki, .int by_, .int sh, .int be]) rfl (by omega) (F_hn2_89) rfl ?_
    refine WX.s1 rfl rfl ?_
    refine WX.s1 rfl rfl ?_
    refine WX.s1 (S' := [.int (1 * (nI ((ls.length + 3) / 4))), .ref 90, .ref q, .ref r]) rfl rfl ?_
    rw [show (1 * (nI ((ls.length + 3) / 4))) = nI (1 * ((ls.length + 3) / 4)) from (Int32.ofNat_mul 1 ((ls.length + 3) / 4)).symm]
    refine WX.s1 rfl rfl ?_
    refine WX.s1 rfl rfl ?_
    refine WX.s1 (S' := [.int (1 + 1), .int (nI (1 * ((ls.length + 3) / 4))), .ref 90, .ref q, .ref r]) rfl rfl ?_
    rw [show ((1 : Int32) + 1) = 2 from rfl]
    refine WX.s1 rfl rfl ?_
    refine WX.s1 (S' := [.int (2 * (nI ((ls.length + 3) / 4))), .int (nI (1 * ((ls.length + 3) / 4))), .ref 90, .ref q, .ref r]) rfl rfl ?_
    rw [show (2 * (nI ((ls.length + 3) / 4))) = nI (2 * ((ls.length + 3) / 4)) from (Int32.ofNat_mul 2 ((ls.length + 3) / 4)).symm]
    obtain ⟨lBb3, kBb3, eBb3, ⟨c0b3, c1b3, c2b3, -⟩, hDb3⟩ := id P_hn2_co
    have hl11b3 : ∀ s, s < 256 → lBb3 s = nI (L s) ∧ L s ≤ 11 := fun s hs => ⟨hDb3.1 s hs, Nat.le_trans (hDb3.2.2.2.2.1 s hs) hDb3.2.2.2.1⟩
    refine WX.callC (vs := [.ref q, .ref 90, .int (nI (1 * ((ls.length + 3) / 4))), .int (nI (2 * ((ls.length + 3) / 4)))]) rfl rfl rfl (Nat.le_of_ble_eq_true rfl) (rcv_ok (by omega) c0b3) ?_
    refine x_cstB (by omega) (by omega) hl11b3 hy (by omega) (by omega) hlen (Nat.le_refl _) c0b3 c1b3 F_hn2_90 ?_
    rw [show sumN (fun i => L (ls.getD ((1 * ((ls.length + 3) / 4)) + i) 0)) ((2 * ((ls.length + 3) / 4)) - (1 * ((ls.length + 3) / 4))) / 8 + 1 = stb L ls (1 * ((ls.length + 3) / 4)) (1 * ((ls.length + 3) / 4) + ((ls.length + 3) / 4)) by unfold stb; rw [show (2 * ((ls.length + 3) / 4)) = 1 * ((ls.length + 3) / 4) + ((ls.length + 3) / 4) by omega]]
    have hxb3 : (stb L ls (1 * ((ls.length + 3) / 4)) (1 * ((ls.length + 3) / 4) + ((ls.length + 3) / 4))) < 2 ^ 16 := by have q := sum18 (fun s hs => Nat.le_trans (hl11b3 s hs).2 (by decide)) hls.1 (f := (1 * ((ls.length + 3) / 4))) ((ls.length + 3) / 4) (by omega); unfold stb; rw [show 1 * ((ls.length + 3) / 4) + ((ls.length + 3) / 4) - (1 * ((ls.length + 3) / 4)) = ((ls.length + 3) / 4) by omega]; omega
    show WX _ _ _ 62 [(0, .ref 89), (1, .ref r), (2, .ref q), (3, .int (nI ((ls.length + 3) / 4))), (4, .int 1)] [.int (nI (stb L ls (1 * ((ls.length + 3) / 4)) (1 * ((ls.length + 3) / 4) + ((ls.length + 3) / 4)))), .ref r] (n, s, hn2)
    refine WX.s1 (S' := [.long ((nI (stb L ls (1 * ((ls.length + 3) / 4)) (1 * ((ls.length + 3) / 4) + ((ls.length + 3) / 4)))).toInt64), .ref r]) rfl rfl ?_
    refine WX.s1 rfl rfl ?_
    rw [show (nI (stb L ls (1 * ((ls.length + 3) / 4)) (1 * ((ls.length + 3) / 4) + ((ls.length + 3) / 4)))).toInt64 = lN (stb L ls (1 * ((ls.length + 3) / 4)) (1 * ((ls.length + 3) / 4) + ((ls.length + 3) / 4))) from nI_l (by omega)]
    refine WX.callC (vs := [.ref r, .long (lN (stb L ls (1 * ((ls.length + 3) / 4)) (1 * ((ls.length + 3) / 4) + ((ls.length + 3) / 4)))), .int (nI 2)]) rfl rfl rfl (Nat.le_of_ble_eq_true rfl) (P_hn2_row.rcv (by omega)) ?_
    refine w_putNumber (by omega) P_hn2_row hRN (by decide) (fun hn4 frn4 P_hn4_row => ?_)
    rw [leL_lN (by omega)] at P_hn4_row
    have F_hn4_89 : hn4 89 = .inr (5, [.ref 90, .ref 91, .int (nI ls.length), .ref 92, .ref 96, .ref 100, .ref 67, .ref 106, .int ki, .int by_, .int sh, .int be]) := (frn4 _ (by omega)).trans F_hn2_89
    have F_hn4_90 : hn4 90 = .inl (0, 8000, .inl yA) := (frn4 _ (by omega)).trans F_hn2_90
    have P_hn4_co : CoT hn4 q L t := P_hn2_co.zfr frn4 (fun j h1 h2 => by omega)
    have FR_hn4 : Fr h hn4 (fun j => j = r ∨ j = r + 1) := FR_hn2.ztr frn4
    show WX _ _ _ 67 [(0, .ref 89), (1, .ref r), (2, .ref q), (3, .int (nI ((ls.length + 3) / 4))), (4, .int 1)] [] (n, s, hn4)
    refine WX.s1 (L' := [(0, .ref 89), (1, .ref r), (2, .ref q), (3, .int (nI ((ls.length + 3) / 4))), (4, .int (1 + 1))]) rfl rfl ?_
    rw [show ((1 : Int32) + 1) = 2 from rfl]
    refine WX.s1 rfl rfl ?_
    refine WX.s1 rfl rfl ?_
    refine WX.s1 rfl rfl ?_
    refine WX.icmp rfl (fun c_40 => absurd c_40 (by decide)) (fun c_40 => ?_)
    clear c_40
    refine WX.s1 rfl rfl ?_
    refine WX.s1 rfl rfl ?_
    refine WX.s1 rfl rfl ?_
    refine WX.get1 (fs := [.ref 90, .ref 91, .int (nI ls.length), .ref 92, .ref 96, .ref 100, .ref 67, .ref 106, .int ki, .int by_, .int sh, .int be]) rfl (by omega) (F_hn4_89) rfl ?_
    refine WX.s1 rfl rfl ?_
    refine WX.s1 rfl rfl ?_
    refine WX.s1 (S' := [.int (2 * (nI ((ls.length + 3) / 4))), .ref 90, .ref q, .ref r]) rfl rfl ?_
    rw [show (2 * (nI ((ls.length + 3) / 4))) = nI (2 * ((ls.length + 3) / 4)) from (Int32.ofNat_mul 2 ((ls.length + 3) / 4)).symm]
    refine WX.s1 rfl rfl ?_
    refine WX.s1 rfl rfl ?_
    refine WX.s1 (S' := [.int (2 + 1), .int (nI (2 * ((ls.length + 3) / 4))), .ref 90, .ref q, .ref r]) rfl rfl ?_
    rw [show ((2 : Int32) + 1) = 3 from rfl]
    refine WX.s1 rfl rfl ?_
    refine WX.s1 (S' := [.int (3 * (nI ((ls.length + 3) / 4))), .int (nI (2 * ((ls.length + 3) / 4))), .ref 90, .ref q, .ref r]) rfl rfl ?_
    rw [show (3 * (nI ((ls.length + 3) / 4))) = nI (3 * ((ls.length + 3) / 4)) from (Int32.ofNat_mul 3 ((ls.length + 3) / 4)).symm]
    obtain ⟨lBb5, kBb5, eBb5, ⟨c0b5, c1b5, c2b5, -⟩, hDb5⟩ := id P_hn4_co
    have hl11b5 : ∀ s, s < 256 → lBb5 s = nI (L s) ∧ L s ≤ 11 := fun s hs => ⟨hDb5.1 s hs, Nat.le_trans (hDb5.2.2.2.2.1 s hs) hDb5.2.2.2.1⟩
    refine WX.callC (vs := [.ref q, .ref 90, .int (nI (2 * ((ls.length + 3) / 4))), .int (nI (3 * ((ls.length + 3) / 4)))]) rfl rfl rfl (Nat.le_of_ble_eq_true rfl) (rcv_ok (by omega) c0b5) ?_
    refine x_cstB (by omega) (by omega) hl11b5 hy (by omega) (by omega) hlen (Nat.le_refl _) c0b5 c1b5 F_hn4_90 ?_
    rw [show sumN (fun i => L (ls.getD ((2 * ((ls.length + 3) / 4)) + i) 0)) ((3 * ((ls.length + 3) / 4)) - (2 * ((ls.length + 3) / 4))) / 8 + 1 = stb L ls (2 * ((ls.length + 3) / 4)) (2 * ((ls.length + 3) / 4) + ((ls.length + 3) / 4)) by unfold stb; rw [show (3 * ((ls.length + 3) / 4)) = 2 * ((ls.length + 3) / 4) + ((ls.length + 3) / 4) by omega]]
    have hxb5 : (stb L ls (2 * ((ls.length + 3) / 4)) (2 * ((ls.length + 3) / 4) + ((ls.length + 3) / 4))) < 2 ^ 16 := by have q := sum18 (fun s hs => Nat.le_trans (hl11b5 s hs).2 (by decide)) hls.1 (f := (2 * ((ls.length + 3) / 4))) ((ls.length + 3) / 4) (by omega); unfold stb; rw [show 2 * ((ls.length + 3) / 4) + ((ls.length + 3) / 4) - (2 * ((ls.length + 3) / 4)) = ((ls.length + 3) / 4) by omega]; omega
    show WX _ _ _ 62 [(0, .ref 89), (1, .ref r), (2, .ref q), (3, .int (nI ((ls.length + 3) / 4))), (4, .int 2)] [.int (nI (stb L ls (2 * ((ls.length + 3) / 4)) (2 * ((ls.length + 3) / 4) + ((ls.length + 3) / 4)))), .ref r] (n, s, hn4)
    refine WX.s1 (S' := [.long ((nI (stb L ls (2 * ((ls.length + 3) / 4)) (2 * ((ls.length + 3) / 4) + ((ls.length + 3) / 4)))).toInt64), .ref r]) rfl rfl ?_
    refine WX.s1 rfl rfl ?_
    rw [show (nI (stb L ls (2 * ((ls.length + 3) / 4)) (2 * ((ls.length + 3) / 4) + ((ls.length + 3) / 4)))).toInt64 = lN (stb L ls (2 * ((ls.length + 3) / 4)) (2 * ((ls.length + 3) / 4) + ((ls.length + 3) / 4))) from nI_l (by omega)]
    refine WX.callC (vs := [.ref r, .long (lN (stb L ls (2 * ((ls.length + 3) / 4)) (2 * ((ls.length + 3) / 4) + ((ls.length + 3) / 4)))), .int (nI 2)]) rfl rfl rfl (Nat.le_of_ble_eq_true rfl) (P_hn4_row.rcv (by omega)) ?_
    refine w_putNumber (by omega) P_hn4_row hRN (by decide) (fun hn6 frn6 P_hn6_row => ?_)
    rw [leL_lN (by omega)] at P_hn6_row
    have F_hn6_89 : hn6 89 = .inr (5, [.ref 90, .ref 91, .int (nI ls.length), .ref 92, .ref 96, .ref 100, .ref 67, .ref 106, .int ki, .int by_, .int sh, .int be]) := (frn6 _ (by omega)).trans F_hn4_89
    have F_hn6_90 : hn6 90 = .inl (0, 8000, .inl yA) := (frn6 _ (by omega)).trans F_hn4_90
    have P_hn6_co : CoT hn6 q L t := P_hn4_co.zfr frn6 (fun j h1 h2 => by omega)
    have FR_hn6 : Fr h hn6 (fun j => j = r ∨ j = r + 1) := FR_hn4.ztr frn6
    show WX _ _ _ 67 [(0, .ref 89), (1, .ref r), (2, .ref q), (3, .int (nI ((ls.length + 3) / 4))), (4, .int 2)] [] (n, s, hn6)
    refine WX.s1 (L' := [(0, .ref 89), (1, .ref r), (2, .ref q), (3, .int (nI ((ls.length + 3) / 4))), (4, .int (2 + 1))]) rfl rfl ?_
    rw [show ((2 : Int32) + 1) = 3 from rfl]
    refine WX.s1 rfl rfl ?_
    refine WX.s1 rfl rfl ?_
    refine WX.s1 rfl rfl ?_
    refine WX.icmp rfl (fun c_40 => ?_) (fun c_40 => absurd (by decide) c_40)
    clear c_40
    refine WX.s1 rfl rfl ?_
    refine WX.s1 (L' := [(0, .ref 89), (1, .ref r), (2, .ref q), (3, .int (nI ((ls.length + 3) / 4))), (4, .int 0)]) rfl rfl ?_
    refine WX.s1 rfl rfl ?_
    refine WX.s1 rfl rfl ?_
    refine WX.icmp rfl (fun c_79 => absurd c_79 (by decide)) (fun c_79 => ?_)
    clear c_79
    refine WX.s1 rfl rfl ?_
    refine WX.s1 rfl rfl ?_
    refine WX.s1 rfl rfl ?_
    refine WX.get1 (fs := [.ref 90, .ref 91, .int (nI ls.length), .ref 92, .ref 96, .ref 100, .ref 67, .ref 106, .int ki, .int by_, .int sh, .int be]) rfl (by omega) (F_hn6_89) rfl ?_
    refine WX.s1 rfl rfl ?_
    refine WX.s1 rfl rfl ?_
    refine WX.s1 (S' := [.int (0 * (nI ((ls.length + 3) / 4))), .ref 90, .ref r, .ref q]) rfl rfl ?_
    rw [show (0 * (nI ((ls.length + 3) / 4))) = nI (0 * ((ls.length + 3) / 4)) from (Int32.ofNat_mul 0 ((ls.length + 3) / 4)).symm]
    refine WX.s1 rfl rfl ?_
    refine WX.s1 rfl rfl ?_
    refine WX.s1 (S' := [.int (0 + 1), .int (nI (0 * ((ls.length + 3) / 4))), .ref 90, .ref r, .ref q]) rfl rfl ?_
    rw [show ((0 : Int32) + 1) = 1 from rfl]
    refine WX.s1 rfl rfl ?_
    refine WX.s1 (S' := [.int (1 * (nI ((ls.length + 3) / 4))), .int (nI (0 * ((ls.length + 3) / 4))), .ref 90, .ref r, .ref q]) rfl rfl ?_
    rw [show (1 * (nI ((ls.length + 3) / 4))) = nI (1 * ((ls.length + 3) / 4)) from (Int32.ofNat_mul 1 ((ls.length + 3) / 4)).symm]
    refine WX.s1 rfl rfl ?_
    refine WX.get1 (fs := [.ref 90, .ref 91, .int (nI ls.length), .ref 92, .ref 96, .ref 100, .ref 67, .ref 106, .int ki, .int by_, .int sh, .int be]) rfl (by omega) (F_hn6_89) rfl ?_
    refine WX.s1 (S' := [.int (if (nI ls.length) < (nI (1 * ((ls.length + 3) / 4))) then (nI ls.length) else (nI (1 * ((ls.length + 3) / 4)))), .int (nI (0 * ((ls.length + 3) / 4))), .ref 90, .ref r, .ref q]) rfl rfl ?_
    rw [nI_min2 (a := 1 * ((ls.length + 3) / 4)) (b := ls.length) (by omega) (by omega) (by omega)]
    obtain ⟨lBw7, kBw7, eBw7, ⟨c0w7, c1w7, c2w7, -⟩, hDw7⟩ := id P_hn6_co
    refine WX.callC (vs := [.ref q, .ref r, .ref 90, .int (nI (0 * ((ls.length + 3) / 4))), .int (nI (1 * ((ls.length + 3) / 4)))]) rfl rfl rfl (Nat.le_of_ble_eq_true rfl) (rcv_ok (by omega) c0w7) ?_
    refine x_cput (q := 90) (by omega) (by omega) (by omega) (by omega) hRN hDw7 hy hlz2 (by omega) (by omega) hlen (Nat.le_refl _) c0w7 c1w7 c2w7 F_hn6_90 P_hn6_row (fun hw7 frw7 P_hw7_row => ?_)
    rw [show (1 * ((ls.length + 3) / 4)) - (0 * ((ls.length + 3) / 4)) = ((ls.length + 3) / 4) by omega] at P_hw7_row
    have F_hw7_89 : hw7 89 = .inr (5, [.ref 90, .ref 91, .int (nI ls.length), .ref 92, .ref 96, .ref 100, .ref 67, .ref 106, .int ki, .int by_, .int sh, .int be]) := (frw7 _ (by omega)).trans F_hn6_89
    have F_hw7_90 : hw7 90 = .inl (0, 8000, .inl yA) := (frw7 _ (by omega)).trans F_hn6_90
    have P_hw7_co : CoT hw7 q L t := P_hn6_co.zfr frw7 (fun j h1 h2 => by omega)
    have FR_hw7 : Fr h hw7 (fun j => j = r ∨ j = r + 1) := FR_hn6.ztr frw7
    show WX _ _ _ 108 [(0, .ref 89), (1, .ref r), (2, .ref q), (3, .int (nI ((ls.length + 3) / 4))), (4, .int 0)] [] (n, s, hw7)
    refine WX.s1 (L' := [(0, .ref 89), (1, .ref r), (2, .ref q), (3, .int (nI ((ls.length + 3) / 4))), (4, .int (0 + 1))]) rfl rfl ?_
    rw [show ((0 : Int32) + 1) = 1 from rfl]
    refine WX.s1 rfl rfl ?_
    refine WX.s1 rfl rfl ?_
    refine WX.s1 rfl rfl ?_
    refine WX.icmp rfl (fun c_79 => absurd c_79 (by decide)) (fun c_79 => ?_)
    clear c_79
    refine WX.s1 rfl rfl ?_
    refine WX.s1 rfl rfl ?_
    refine WX.s1 rfl rfl ?_
    refine WX.get1 (fs := [.ref 90, .ref 91, .int (nI ls.length), .ref 92, .ref 96, .ref 100, .ref 67, .ref 106, .int ki, .int by_, .int sh, .int be]) rfl (by omega) (F_hw7_89) rfl ?_
    refine WX.s1 rfl rfl ?_
    refine WX.s1 rfl rfl ?_
    refine WX.s1 (S' := [.int (1 * (nI ((ls.length + 3) / 4))), .ref 90, .ref r, .ref q]) rfl rfl ?_
    rw [show (1 * (nI ((ls.length + 3) / 4))) = nI (1 * ((ls.length + 3) / 4)) from (Int32.ofNat_mul 1 ((ls.length + 3) / 4)).symm]
    refine WX.s1 rfl rfl ?_
    refine WX.s1 rfl rfl ?_
    refine WX.s1 (S' := [.int (1 + 1), .int (nI (1 * ((ls.length + 3) / 4))), .ref 90, .ref r, .ref q]) rfl rfl ?_
    rw [show ((1 : Int32) + 1) = 2 from rfl]
    refine WX.s1 rfl rfl ?_
    refine WX.s1 (S' := [.int (2 * (nI ((ls.length + 3) / 4))), .int (nI (1 * ((ls.length + 3) / 4))), .ref 90, .ref r, .ref q]) rfl rfl ?_
    rw [show (2 * (nI ((ls.length + 3) / 4))) = nI (2 * ((ls.length + 3) / 4)) from (Int32.ofNat_mul 2 ((ls.length + 3) / 4)).symm]
    refine WX.s1 rfl rfl ?_
    refine WX.get1 (fs := [.ref 90, .ref 91, .int (nI ls.length), .ref 92, .ref 96, .ref 100, .ref 67, .ref 106, .int ki, .int by_, .int sh, .int be]) rfl (by omega) (F_hw7_89) rfl ?_
    refine WX.s1 (S' := [.int (if (nI ls.length) < (nI (2 * ((ls.length + 3) / 4))) then (nI ls.length) else (nI (2 * ((ls.length + 3) / 4)))), .int (nI (1 * ((ls.length + 3) / 4))), .ref 90, .ref r, .ref q]) rfl rfl ?_
    rw [nI_min2 (a := 2 * ((ls.length + 3) / 4)) (b := ls.length) (by omega) (by omega) (by omega)]
    obtain ⟨lBw8, kBw8, eBw8, ⟨c0w8, c1w8, c2w8, -⟩, hDw8⟩ := id P_hw7_co
    refine WX.callC (vs := [.ref q, .ref r, .ref 90, .int (nI (1 * ((ls.length + 3) / 4))), .int (nI (2 * ((ls.length + 3) / 4)))]) rfl rfl rfl (Nat.le_of_ble_eq_true rfl) (rcv_ok (by omega) c0w8) ?_
    refine x_cput (q := 90) (by omega) (by omega) (by omega) (by omega) hRN hDw8 hy hlz2 (by omega) (by omega) hlen (Nat.le_refl _) c0w8 c1w8 c2w8 F_hw7_90 P_hw7_row (fun hw8 frw8 P_hw8_row => ?_)
    rw [show (2 * ((ls.length + 3) / 4)) - (1 * ((ls.length + 3) / 4)) = ((ls.length + 3) / 4) by omega] at P_hw8_row
    have F_hw8_89 : hw8 89 = .inr (5, [.ref 90, .ref 91, .int (nI ls.length), .ref 92, .ref 96, .ref 100, .ref 67, .ref 106, .int ki, .int by_, .int sh, .int be]) := (frw8 _ (by omega)).trans F_hw7_89
    have F_hw8_90 : hw8 90 = .inl (0, 8000, .inl yA) := (frw8 _ (by omega)).trans F_hw7_90
    have P_hw8_co : CoT hw8 q L t := P_hw7_co.zfr frw8 (fun j h1 h2 => by omega)
    have FR_hw8 : Fr h hw8 (fun j => j = r ∨ j = r + 1) := FR_hw7.ztr frw8
    show WX _ _ _ 108 [(0, .ref 89), (1, .ref r), (2, .ref q), (3, .int (nI ((ls.length + 3) / 4))), (4, .int 1)] [] (n, s, hw8)
    refine WX.s1 (L' := [(0, .ref 89), (1, .ref r), (2, .ref q), (3, .int (nI ((ls.length + 3) / 4))), (4, .int (1 + 1))]) rfl rfl ?_
    rw [show ((1 : Int32) + 1) = 2 from rfl]
    refine WX.s1 rfl rfl ?_
    refine WX.s1 rfl rfl ?_
    refine WX.s1 rfl rfl ?_
    refine WX.icmp rfl (fun c_79 => absurd c_79 (by decide)) (fun c_79 => ?_)
    clear c_79
    refine WX.s1 rfl rfl ?_
    refine WX.s1 rfl rfl ?_
    refine WX.s1 rfl rfl ?_
    refine WX.get1 (fs := [.ref 90, .ref 91, .int (nI ls.length), .ref 92, .ref 96, .ref 100, .ref 67, .ref 106, .int ki, .int by_, .int sh, .int be]) rfl (by omega) (F_hw8_89) rfl ?_
    refine WX.s1 rfl rfl ?_
    refine WX.s1 rfl rfl ?_
    refine WX.s1 (S' := [.int (2 * (nI ((ls.length + 3) / 4))), .ref 90, .ref r, .ref q]) rfl rfl ?_
    rw [show (2 * (nI ((ls.length + 3) / 4))) = nI (2 * ((ls.length + 3) / 4)) from (Int32.ofNat_mul 2 ((ls.length + 3) / 4)).symm]
    refine WX.s1 rfl rfl ?_
    refine WX.s1 rfl rfl ?_
    refine WX.s1 (S' := [.int (2 + 1), .int (nI (2 * ((ls.length + 3) / 4))), .ref 90, .ref r, .ref q]) rfl rfl ?_
    rw [show ((2 : Int32) + 1) = 3 from rfl]
    refine WX.s1 rfl rfl ?_
    refine WX.s1 (S' := [.int (3 * (nI ((ls.length + 3) / 4))), .int (nI (2 * ((ls.length + 3) / 4))), .ref 90, .ref r, .ref q]) rfl rfl ?_
    rw [show (3 * (nI ((ls.length + 3) / 4))) = nI (3 * ((ls.length + 3) / 4)) from (Int32.ofNat_mul 3 ((ls.length + 3) / 4)).symm]
    refine WX.s1 rfl rfl ?_
    refine WX.get1 (fs := [.ref 90, .ref 91, .int (nI ls.length), .ref 92, .ref 96, .ref 100, .ref 67, .ref 106, .int ki, .int by_, .int sh, .int be]) rfl (by omega) (F_hw8_89) rfl ?_
    refine WX.s1 (S' := [.int (if (nI ls.length) < (nI (3 * ((ls.length + 3) / 4))) then (nI ls.length) else (nI (3 * ((ls.length + 3) / 4)))), .int (nI (2 * ((ls.length + 3) / 4))), .ref 90, .ref r, .ref q]) rfl rfl ?_
    rw [nI_min2 (a := 3 * ((ls.length + 3) / 4)) (b := ls.length) (by omega) (by omega) (by omega)]
    obtain ⟨lBw9, kBw9, eBw9, ⟨c0w9, c1w9, c2w9, -⟩, hDw9⟩ := id P_hw8_co
    refine WX.callC (vs := [.ref q, .ref r, .ref 90, .int (nI (2 * ((ls.length + 3) / 4))), .int (nI (3 * ((ls.length + 3) / 4)))]) rfl rfl rfl (Nat.le_of_ble_eq_true rfl) (rcv_ok (by omega) c0w9) ?_
    refine x_cput (q := 90) (by omega) (by omega) (by omega) (by omega) hRN hDw9 hy hlz2 (by omega) (by omega) hlen (Nat.le_refl _) c0w9 c1w9 c2w9 F_hw8_90 P_hw8_row (fun hw9 frw9 P_hw9_row => ?_)
    rw [show (3 * ((ls.length + 3) / 4)) - (2 * ((ls.length + 3) / 4)) = ((ls.length + 3) / 4) by omega] at P_hw9_row
    have F_hw9_89 : hw9 89 = .inr (5, [.ref 90, .ref 91, .int (nI ls.length), .ref 92, .ref 96, .ref 100, .ref 67, .ref 106, .int ki, .int by_, .int sh, .int be]) := (frw9 _ (by omega)).trans F_hw8_89
    have F_hw9_90 : hw9 90 = .inl (0, 8000, .inl yA) := (frw9 _ (by omega)).trans F_hw8_90
    have P_hw9_co : CoT hw9 q L t := P_hw8_co.zfr frw9 (fun j h1 h2 => by omega)
    have FR_hw9 : Fr h hw9 (fun j => j = r ∨ j = r + 1) := FR_hw8.ztr frw9
    show WX _ _ _ 108 [(0, .ref 89), (1, .ref r), (2, .ref q), (3, .int (nI ((ls.length + 3) / 4))), (4, .int 2)] [] (n, s, hw9)
    refine WX.s1 (L' := [(0, .ref 89), (1, .ref r), (2, .ref q), (3, .int (nI ((ls.length + 3) / 4))), (4, .int (2 + 1))]) rfl rfl ?_
    rw [show ((2 : Int32) + 1) = 3 from rfl]
    refine WX.s1 rfl rfl ?_
    refine WX.s1 rfl rfl ?_
    refine WX.s1 rfl rfl ?_
    refine WX.icmp rfl (fun c_79 => absurd c_79 (by decide)) (fun c_79 => ?_)
    clear c_79
    refine WX.s1 rfl rfl ?_
    refine WX.s1 rfl rfl ?_
    refine WX.s1 rfl rfl ?_
    refine WX.get1 (fs := [.ref 90, .ref 91, .int (nI ls.length), .ref 92, .ref 96, .ref 100, .ref 67, .ref 106, .int ki, .int by_, .int sh, .int be]) rfl (by omega) (F_hw9_89) rfl ?_
    refine WX.s1 rfl rfl ?_
    refine WX.s1 rfl rfl ?_
    refine WX.s1 (S' := [.int (3 * (nI ((ls.length + 3) / 4))), .ref 90, .ref r, .ref q]) rfl rfl ?_
    rw [show (3 * (nI ((ls.length + 3) / 4))) = nI (3 * ((ls.length + 3) / 4)) from (Int32.ofNat_mul 3 ((ls.length + 3) / 4)).symm]
    refine WX.s1 rfl rfl ?_
    refine WX.s1 rfl rfl ?_
    refine WX.s1 (S' := [.int (3 + 1), .int (nI (3 * ((ls.length + 3) / 4))), .ref 90, .ref r, .ref q]) rfl rfl ?_
    rw [show ((3 : Int32) + 1) = 4 from rfl]
    refine WX.s1 rfl rfl ?_
    refine WX.s1 (S' := [.int (4 * (nI ((ls.length + 3) / 4))), .int (nI (3 * ((ls.length + 3) / 4))), .ref 90, .ref r, .ref q]) rfl rfl ?_
    rw [show (4 * (nI ((ls.length + 3) / 4))) = nI (4 * ((ls.length + 3) / 4)) from (Int32.ofNat_mul 4 ((ls.length + 3) / 4)).symm]
    refine WX.s1 rfl rfl ?_
    refine WX.get1 (fs := [.ref 90, .ref 91, .int (nI ls.length), .ref 92, .ref 96, .ref 100, .ref 67, .ref 106, .int ki, .int by_, .int sh, .int be]) rfl (by omega) (F_hw9_89) rfl ?_
    refine WX.s1 (S' := [.int (if (nI ls.length) < (nI (4 * ((ls.length + 3) / 4))) then (nI ls.length) else (nI (4 * ((ls.length + 3) / 4)))), .int (nI (3 * ((ls.length + 3) / 4))), .ref 90, .ref r, .ref q]) rfl rfl ?_
    rw [nI_min (a := 4 * ((ls.length + 3) / 4)) (b := ls.length) (by omega) (by omega), show min (4 * ((ls.length + 3) / 4)) ls.length = ls.length by omega]
    obtain ⟨lBw10, kBw10, eBw10, ⟨c0w10, c1w10, c2w10, -⟩, hDw10⟩ := id P_hw9_co
    refine WX.callC (vs := [.ref q, .ref r, .ref 90, .int (nI (3 * ((ls.length + 3) / 4))), .int (nI ls.length)]) rfl rfl rfl (Nat.le_of_ble_eq_true rfl) (rcv_ok (by omega) c0w10) ?_
    refine x_cput (q := 90) (by omega) (by omega) (by omega) (by omega) hRN hDw10 hy hlz2 (by omega) (by omega) hlen (Nat.le_refl _) c0w10 c1w10 c2w10 F_hw9_90 P_hw9_row (fun hw10 frw10 P_hw10_row => ?_)
    rw [show ls.length - (3 * ((ls.length + 3) / 4)) = (ls.length - 3 * ((ls.length + 3) / 4)) by omega] at P_hw10_row
    have F_hw10_89 : hw10 89 = .inr (5, [.ref 90, .ref 91, .int (nI ls.length), .ref 92, .ref 96, .ref 100, .ref 67, .ref 106, .int ki, .int by_, .int sh, .int be]) := (frw10 _ (by omega)).trans F_hw9_89
    have F_hw10_90 : hw10 90 = .inl (0, 8000, .inl yA) := (frw10 _ (by omega)).trans F_hw9_90
    have P_hw10_co : CoT hw10 q L t := P_hw9_co.zfr frw10 (fun j h1 h2 => by omega)
    have FR_hw10 : Fr h hw10 (fun j => j = r ∨ j = r + 1) := FR_hw9.ztr frw10
    show WX _ _ _ 108 [(0, .ref 89), (1, .ref r), (2, .ref q), (3, .int (nI ((ls.length + 3) / 4))), (4, .int 3)] [] (n, s, hw10)
    refine WX.s1 (L' := [(0, .ref 89), (1, .ref r), (2, .ref q), (3, .int (nI ((ls.length + 3) / 4))), (4, .int (3 + 1))]) rfl rfl ?_
    rw [show ((3 : Int32) + 1) = 4 from rfl]
    refine WX.s1 rfl rfl ?_
    refine WX.s1 rfl rfl ?_
    refine WX.s1 rfl rfl ?_
    refine WX.icmp rfl (fun c_79 => ?_) (fun c_79 => absurd (by decide) c_79)
    clear c_79
    exact WX.ret0 rfl (kk hw10 FR_hw10 (by rw [show stmY L t ls = frY L t ls from if_neg (by omega)]; unfold frY; simp only [bputs_app]; exact P_hw10_row))
  · skip
    have n_7 : ls.length < 1024 := Nat.lt_of_not_le (fun zz_ => c_7 ((nI_leI (a := 1024) (b := ls.length) (by omega) (by omega)).mpr zz_))
    refine WX.s1 rfl rfl ?_
    refine WX.s1 rfl rfl ?_
    refine WX.s1 rfl rfl ?_
    refine WX.get1 (fs := [.ref 90, .ref 91, .int (nI ls.length), .ref 92, .ref 96, .ref 100, .ref 67, .ref 106, .int ki, .int by_, .int sh, .int be]) rfl (by omega) (F_h_89) rfl ?_
    refine WX.s1 rfl rfl ?_
    refine WX.s1 rfl rfl ?_
    refine WX.get1 (fs := [.ref 90, .ref 91, .int (nI ls.length), .ref 92, .ref 96, .ref 100, .ref 67, .ref 106, .int ki, .int by_, .int sh, .int be]) rfl (by omega) (F_h_89) rfl ?_
    obtain ⟨lBw11, kBw11, eBw11, ⟨c0w11, c1w11, c2w11, -⟩, hDw11⟩ := id P_h_co
    refine WX.callC (vs := [.ref q, .ref r, .ref 90, .int (nI 0), .int (nI ls.length)]) rfl rfl rfl (Nat.le_of_ble_eq_true rfl) (rcv_ok (by omega) c0w11) ?_
    refine x_cput (q := 90) (by omega) (by omega) (by omega) (by omega) hRN hDw11 hy hlz2 (by omega) (by omega) hlen (Nat.le_refl _) c0w11 c1w11 c2w11 F_h_90 P_h_row (fun hw11 frw11 P_hw11_row => ?_)
    rw [show ls.length - 0 = ls.length by omega] at P_hw11_row
    have F_hw11_89 : hw11 89 = .inr (5, [.ref 90, .ref 91, .int (nI ls.length), .ref 92, .ref 96, .ref 100, .ref 67, .ref 106, .int ki, .int by_, .int sh, .int be]) := (frw11 _ (by omega)).trans F_h_89
    have F_hw11_90 : hw11 90 = .inl (0, 8000, .inl yA) := (frw11 _ (by omega)).trans F_h_90
    have P_hw11_co : CoT hw11 q L t := P_h_co.zfr frw11 (fun j h1 h2 => by omega)
    have FR_hw11 : Fr h hw11 (fun j => j = r ∨ j = r + 1) := FR_h.ztr frw11
    show WX _ _ _ 24 [(0, .ref 89), (1, .ref r), (2, .ref q)] [] (n, s, hw11)
    exact WX.ret0 rfl (kk hw11 FR_hw11 (by rw [show stmY L t ls = sY L t ls 0 ls.length from if_pos n_7]; exact P_hw11_row))
set_option maxRecDepth 20000 in
theorem x_lPut2 {d n s : Nat} {h : Nat → aE} {r RN t st_ : Nat} {L : Nat → Nat} {ls y : List Nat} {bb : Option (List Nat)} {yA : Nat → Int32} {by_ : Int32} (hn : 190 ≤ n) (hr : r + 1 < 67) (hRN : RN < 2 ^ 31) (hls : LsOk ls) (hst : st_ < 16384) (hlz : ∀ s, s ∈ ls → L s ≠ 0) (hy : ∀ i, i < ls.length → ls.getD i 0 < 256 ∧ yA i = sb_b (ls.getD i 0)) (F_h_89 : h 89 = .inr (5, [.ref 90, .ref 91, .int (nI ls.length), .ref 92, .ref 96, .ref 100, .ref 67, .ref 106, .int (nI 2), .int by_, .int (if ls.length < 1024 then 0 else 2), .int (nI st_)])) (F_h_90 : h 90 = .inl (0, 8000, .inl yA)) (P_h_row : RowIs h r RN bb 0 0) (P_h_co : CoT h 96 L t) (P_h_told : RowIs h 106 256 (some y) 0 0) {Ψ : Option Value → aH → Prop} (kk : ∀ h', Fr h h' (fun j => j = r ∨ j = r + 1) → RowIs h' r RN (bputs RN bb (hdY 2 st_ ls ++ (y ++ stmY L t ls))) 0 0 → Ψ none (n, s, h')) : WO (mM (d + 5)) 63 [.ref 89, .ref r] (n, s, h) Ψ := by
  refine WO.of (Nat.le_of_ble_eq_true rfl) ?_
  have FR_h : Fr h h (fun j => j = r ∨ j = r + 1) := Fr.rf
  have hlen := hls.2
  show WX (lk tX5_put) (mM (d + 4)) Ψ 0 [(0, .ref 89), (1, .ref r)] [] (n, s, h)
  refine WX.s1 rfl rfl ?_
  refine WX.get1 (fs := [.ref 90, .ref 91, .int (nI ls.length), .ref 92, .ref 96, .ref 100, .ref 67, .ref 106, .int (nI 2), .int by_, .int (if ls.length < 1024 then 0 else 2), .int (nI st_)]) rfl (by omega) (F_h_89) rfl ?_
  refine WX.s1 rfl rfl ?_
  refine WX.icmp rfl (fun c_5 => ?_) (fun c_5 => absurd (by decide) c_5)
  by_cases hn1 : ls.length < 1024
  · rw [if_pos hn1] at F_h_89
    have hcv : cvF 2 ls.length st_ = 2 + 16 * ls.length + st_ * 2 ^ 14 := if_pos hn1
    have hch : chd ls.length = 3 := if_pos hn1
    refine WX.s1 rfl rfl ?_
    refine WX.get1 (fs := [.ref 90, .ref 91, .int (nI ls.length), .ref 92, .ref 96, .ref 100, .ref 67, .ref 106, .int (nI 2), .int by_, .int 0, .int (nI st_)]) rfl (by omega) (F_h_89) rfl ?_
    refine WX.s1 rfl rfl ?_
    refine WX.icmp rfl (fun c_19 => absurd c_19 (by decide)) (fun c_19 => ?_)
    clear c_19
    refine WX.s1 rfl rfl ?_
    refine WX.s1 rfl rfl ?_
    refine WX.s1 (L' := [(0, .ref 89), (1, .ref r), (2, .int 10)]) rfl rfl ?_
    refine WX.s1 rfl rfl ?_
    refine WX.get1 (fs := [.ref 90, .ref 91, .int (nI ls.length), .ref 92, .ref 96, .ref 100, .ref 67, .ref 106, .int (nI 2), .int by_, .int 0, .int (nI st_)]) rfl (by omega) (F_h_89) rfl ?_
    refine WX.s1 rfl rfl ?_
    refine WX.s1 rfl rfl ?_
    refine WX.get1 (fs := [.ref 90, .ref 91, .int (nI ls.length), .ref 92, .ref 96, .ref 100, .ref 67, .ref 106, .int (nI 2), .int by_, .int 0, .int (nI st_)]) rfl (by omega) (F_h_89) rfl ?_
    refine WX.s1 (S' := [.int (4 * 0), .int (nI 2)]) rfl rfl ?_
    refine WX.s1 (S' := [.int ((nI 2) + (4 * 0))]) rfl rfl ?_
    refine WX.s1 (S' := [.long (((nI 2) + (4 * 0)).toInt64)]) rfl rfl ?_
    refine WX.s1 rfl rfl ?_
    refine WX.s1 rfl rfl ?_
    refine WX.get1 (fs := [.ref 90, .ref 91, .int (nI ls.length), .ref 92, .ref 96, .ref 100, .ref 67, .ref 106, .int (nI 2), .int by_, .int 0, .int (nI st_)]) rfl (by omega) (F_h_89) rfl ?_
    refine WX.s1 (S' := [.long ((nI ls.length).toInt64), .long 16, .long (((nI 2) + (4 * 0)).toInt64)]) rfl rfl ?_
    refine WX.s1 (S' := [.long (16 * ((nI ls.length).toInt64)), .long (((nI 2) + (4 * 0)).toInt64)]) rfl rfl ?_
    refine WX.s1 (S' := [.long ((((nI 2) + (4 * 0)).toInt64) + (16 * ((nI ls.length).toInt64)))]) rfl rfl ?_
    refine WX.s1 rfl rfl ?_
    refine WX.get1 (fs := [.ref 90, .ref 91, .int (nI ls.length), .ref 92, .ref 96, .ref 100, .ref 67, .ref 106, .int (nI 2), .int by_, .int 0, .int (nI st_)]) rfl (by omega) (F_h_89) rfl ?_
    refine WX.s1 (S' := [.long ((nI st_).toInt64), .long ((((nI 2) + (4 * 0)).toInt64) + (16 * ((nI ls.length).toInt64)))]) rfl rfl ?_
    refine WX.s1 rfl rfl ?_
    refine WX.s1 rfl rfl ?_
    refine WX.s1 (S' := [.int (4 + (10 : Int32)), .long ((nI st_).toInt64), .long ((((nI 2) + (4 * 0)).toInt64) + (16 * ((nI ls.length).toInt64)))]) rfl rfl ?_
    refine WX.s1 (S' := [.long (((nI st_).toInt64) <<< ((4 + (10 : Int32)).toInt64 &&& 63)), .long ((((nI 2) + (4 * 0)).toInt64) + (16 * ((nI ls.length).toInt64)))]) rfl rfl ?_
    refine WX.s1 (S' := [.long (((((nI 2) + (4 * 0)).toInt64) + (16 * ((nI ls.length).toInt64))) + (((nI st_).toInt64) <<< ((4 + (10 : Int32)).toInt64 &&& 63)))]) rfl rfl ?_
    refine WX.s1 (L' := [(0, .ref 89), (1, .ref r), (2, .int (10 : Int32)), (3, .long (((((nI 2) + (4 * 0)).toInt64) + (16 * ((nI ls.length).toInt64))) + (((nI st_).toInt64) <<< ((4 + (10 : Int32)).toInt64 &&& 63))))]) rfl rfl ?_
    rw [show (((((nI 2) + (4 * 0)).toInt64) + (16 * ((nI ls.length).toInt64))) + (((nI st_).toInt64) <<< ((4 + (10 : Int32)).toInt64 &&& 63))) = lN (2 + 16 * ls.length + st_ * 2 ^ 14) by
      rw [show (nI 2 + 4 * (0 : Int32)) = nI 2 by decide, nI_l (n := 2) (by decide), nI_l (n := ls.length) (by omega), nI_l (n := st_) (by omega)]
      rw [show ((4 : Int32) + (10 : Int32)) = nI 14 by decide, wb_shl st_ (show 14 < 64 by decide), show (16 : Int64) = lN 16 from rfl, lN_mul, lN_add, lN_add]]
    refine WX.s1 rfl rfl ?_
    refine WX.s1 rfl rfl ?_
    refine WX.s1 rfl rfl ?_
    refine WX.get1 (fs := [.ref 90, .ref 91, .int (nI ls.length), .ref 92, .ref 96, .ref 100, .ref 67, .ref 106, .int (nI 2), .int by_, .int 0, .int (nI st_)]) rfl (by omega) (F_h_89) rfl ?_
    refine WX.callC (vs := [.int 0]) rfl rfl rfl (Nat.le_of_ble_eq_true rfl) rfl ?_
    refine x_lch0 ?_
    show WX _ _ _ 79 [(0, .ref 89), (1, .ref r), (2, .int (10 : Int32)), (3, .long (lN (2 + 16 * ls.length + st_ * 2 ^ 14)))] [.int 3, .long (lN (2 + 16 * ls.length + st_ * 2 ^ 14)), .ref r] (n, s, h)
    refine WX.callC (vs := [.ref r, .long (lN (2 + 16 * ls.length + st_ * 2 ^ 14)), .int 3]) rfl rfl rfl (Nat.le_of_ble_eq_true rfl) (P_h_row.rcv (by omega)) ?_
    refine w_putNumber (by omega) P_h_row hRN (by decide) (fun h79 fr79 P_h79_row => ?_)
    have F_h79_89 : h79 89 = .inr (5, [.ref 90, .ref 91, .int (nI ls.length), .ref 92, .ref 96, .ref 100, .ref 67, .ref 106, .int (nI 2), .int by_, .int 0, .int (nI st_)]) := (fr79 _ (by first | decide | omega)).trans F_h_89
    have F_h79_90 : h79 90 = .inl (0, 8000, .inl yA) := (fr79 _ (by first | decide | omega)).trans F_h_90
    have P_h79_co : CoT h79 96 L t := P_h_co.zfr fr79 (fun j h1 h2 => by omega)
    have P_h79_told : RowIs h79 106 256 (some y) 0 0 := P_h_told.zfr fr79 (by first | decide | omega) (by first | decide | omega)
    have FR_h79 : Fr h h79 (fun j => j = r ∨ j = r + 1) := FR_h.zsub fr79 (fun j hj => by first | exact hj | exact Or.inl hj | exact Or.inr hj | omega)
    show WX _ _ _ 82 [(0, .ref 89), (1, .ref r), (2, .int (10 : Int32)), (3, .long (lN (2 + 16 * ls.length + st_ * 2 ^ 14)))] [] (n, s, h79)
    rw [leL_lN (by omega)] at P_h79_row
    refine WX.s1 rfl rfl ?_
    refine WX.get1 (fs := [.ref 90, .ref 91, .int (nI ls.length), .ref 92, .ref 96, .ref 100, .ref 67, .ref 106, .int (nI 2), .int by_, .int 0, .int (nI st_)]) rfl (by omega) (F_h79_89) rfl ?_
    refine WX.s1 rfl rfl ?_
    refine WX.icmp rfl (fun c_87 => absurd c_87 (by decide)) (fun c_87 => ?_)
    refine WX.s1 rfl rfl ?_
    refine WX.s1 rfl rfl ?_
    refine WX.callC (vs := [.ref 89, .ref r]) rfl rfl rfl (Nat.le_of_ble_eq_true rfl) (rcv_ok (by omega) F_h79_89) ?_
    refine x_lDesc hn hr hRN F_h79_89 P_h79_row P_h79_told (fun h92 fr92 P_h92_row => ?_)
    have F_h92_89 : h92 89 = .inr (5, [.ref 90, .ref 91, .int (nI ls.length), .ref 92, .ref 96, .ref 100, .ref 67, .ref 106, .int (nI 2), .int by_, .int 0, .int (nI st_)]) := (fr92 _ (by first | decide | omega)).trans F_h79_89
    have F_h92_90 : h92 90 = .inl (0, 8000, .inl yA) := (fr92 _ (by first | decide | omega)).trans F_h79_90
    have P_h92_co : CoT h92 96 L t := P_h79_co.zfr fr92 (fun j h1 h2 => by omega)
    have P_h92_told : RowIs h92 106 256 (some y) 0 0 := P_h79_told.zfr fr92 (by first | decide | omega) (by first | decide | omega)
    have FR_h92 : Fr h h92 (fun j => j = r ∨ j = r + 1) := FR_h79.zsub fr92 (fun j hj => by first | exact hj | exact Or.inl hj | exact Or.inr hj | omega)
    show WX _ _ _ 95 [(0, .ref 89), (1, .ref r), (2, .int (10 : Int32)), (3, .long (lN (2 + 16 * ls.length + st_ * 2 ^ 14)))] [] (n, s, h92)
    refine WX.s1 rfl rfl ?_
    refine WX.s1 rfl rfl ?_
    refine WX.s1 rfl rfl ?_
    refine WX.get1 (fs := [.ref 90, .ref 91, .int (nI ls.length), .ref 92, .ref 96, .ref 100, .ref 67, .ref 106, .int (nI 2), .int by_, .int 0, .int (nI st_)]) rfl (by omega) (F_h92_89) rfl ?_
    refine WX.s1 rfl rfl ?_
    refine WX.icmp rfl (fun c_102 => absurd c_102 (by decide)) (fun c_102 => ?_)
    refine WX.s1 rfl rfl ?_
    refine WX.get1 (fs := [.ref 90, .ref 91, .int (nI ls.length), .ref 92, .ref 96, .ref 100, .ref 67, .ref 106, .int (nI 2), .int by_, .int 0, .int (nI st_)]) rfl (by omega) (F_h92_89) rfl ?_
    refine WX.s1 rfl rfl ?_
    refine WX.callC (vs := [.ref 89, .ref r, .ref 96]) rfl rfl rfl (Nat.le_of_ble_eq_true rfl) (rcv_ok (by omega) F_h92_89) ?_
    refine x_lStm hn hr hRN (by decide) hls hlz hy F_h92_89 F_h92_90 P_h92_row P_h92_co (fun h116 fr116 P_h116_row => ?_)
    have F_h116_89 : h116 89 = .inr (5, [.ref 90, .ref 91, .int (nI ls.length), .ref 92, .ref 96, .ref 100, .ref 67, .ref 106, .int (nI 2), .int by_, .int 0, .int (nI st_)]) := (fr116 _ (by first | decide | omega)).trans F_h92_89
    have F_h116_90 : h116 90 = .inl (0, 8000, .inl yA) := (fr116 _ (by first | decide | omega)).trans F_h92_90
    have P_h116_co : CoT h116 96 L t := P_h92_co.zfr fr116 (fun j h1 h2 => by omega)
    have P_h116_told : RowIs h116 106 256 (some y) 0 0 := P_h92_told.zfr fr116 (by first | decide | omega) (by first | decide | omega)
    have FR_h116 : Fr h h116 (fun j => j = r ∨ j = r + 1) := FR_h92.zsub fr116 (fun j hj => by first | exact hj | exact Or.inl hj | exact Or.inr hj | omega)
    show WX _ _ _ 119 [(0, .ref 89), (1, .ref r), (2, .int (10 : Int32)), (3, .long (lN (2 + 16 * ls.length + st_ * 2 ^ 14)))] [] (n, s, h116)
    exact WX.ret0 rfl (kk h116 FR_h116 (by unfold hdY; rw [hcv, hch]; simp only [bputs_app]; exact P_h116_row))
  · rw [if_neg hn1] at F_h_89
    have hcv : cvF 2 ls.length st_ = 10 + 16 * ls.length + st_ * 2 ^ 18 := if_neg hn1
    have hch : chd ls.length = 4 := if_neg hn1
    refine WX.s1 rfl rfl ?_
    refine WX.get1 (fs := [.ref 90, .ref 91, .int (nI ls.length), .ref 92, .ref 96, .ref 100, .ref 67, .ref 106, .int (nI 2), .int by_, .int 2, .int (nI st_)]) rfl (by omega) (F_h_89) rfl ?_
    refine WX.s1 rfl rfl ?_
    refine WX.icmp rfl (fun c_19 => ?_) (fun c_19 => absurd (by decide) c_19)
    clear c_19
    refine WX.s1 rfl rfl ?_
    refine WX.s1 rfl rfl ?_
    refine WX.get1 (fs := [.ref 90, .ref 91, .int (nI ls.length), .ref 92, .ref 96, .ref 100, .ref 67, .ref 106, .int (nI 2), .int by_, .int 2, .int (nI st_)]) rfl (by omega) (F_h_89) rfl ?_
    refine WX.s1 (S' := [.int (4 * 2)]) rfl rfl ?_
    refine WX.s1 rfl rfl ?_
    refine WX.s1 (S' := [.int ((4 * 2) + 6)]) rfl rfl ?_
    refine WX.s1 (L' := [(0, .ref 89), (1, .ref r), (2, .int ((4 * 2) + 6))]) rfl rfl ?_
    rw [show ((4 : Int32) * 2 + 6) = 14 by decide]
    refine WX.s1 rfl rfl ?_
    refine WX.get1 (fs := [.ref 90, .ref 91, .int (nI ls.length), .ref 92, .ref 96, .ref 100, .ref 67, .ref 106, .int (nI 2), .int by_, .int 2, .int (nI st_)]) rfl (by omega) (F_h_89) rfl ?_
    refine WX.s1 rfl rfl ?_
    refine WX.s1 rfl rfl ?_
    refine WX.get1 (fs := [.ref 90, .ref 91, .int (nI ls.length), .ref 92, .ref 96, .ref 100, .ref 67, .ref 106, .int (nI 2), .int by_, .int 2, .int (nI st_)]) rfl (by omega) (F_h_89) rfl ?_
    refine WX.s1 (S' := [.int (4 * 2), .int (nI 2)]) rfl rfl ?_
    refine WX.s1 (S' := [.int ((nI 2) + (4 * 2))]) rfl rfl ?_
    refine WX.s1 (S' := [.long (((nI 2) + (4 * 2)).toInt64)]) rfl rfl ?_
    refine WX.s1 rfl rfl ?_
    refine WX.s1 rfl rfl ?_
    refine WX.get1 (fs := [.ref 90, .ref 91, .int (nI ls.length), .ref 92, .ref 96, .ref 100, .ref 67, .ref 106, .int (nI 2), .int by_, .int 2, .int (nI st_)]) rfl (by omega) (F_h_89) rfl ?_
    refine WX.s1 (S' := [.long ((nI ls.length).toInt64), .long 16, .long (((nI 2) + (4 * 2)).toInt64)]) rfl rfl ?_
    refine WX.s1 (S' := [.long (16 * ((nI ls.length).toInt64)), .long (((nI 2) + (4 * 2)).toInt64)]) rfl rfl ?_
    refine WX.s1 (S' := [.long ((((nI 2) + (4 * 2)).toInt64) + (16 * ((nI ls.length).toInt64)))]) rfl rfl ?_
    refine WX.s1 rfl rfl ?_
    refine WX.get1 (fs := [.ref 90, .ref 91, .int (nI ls.length), .ref 92, .ref 96, .ref 100, .ref 67, .ref 106, .int (nI 2), .int by_, .int 2, .int (nI st_)]) rfl (by omega) (F_h_89) rfl ?_
    refine WX.s1 (S' := [.long ((nI st_).toInt64), .long ((((nI 2) + (4 * 2)).toInt64) + (16 * ((nI ls.length).toInt64)))]) rfl rfl ?_
    refine WX.s1 rfl rfl ?_
    refine WX.s1 rfl rfl ?_
    refine WX.s1 (S' := [.int (4 + (14 : Int32)), .long ((nI st_).toInt64), .long ((((nI 2) + (4 * 2)).toInt64) + (16 * ((nI ls.length).toInt64)))]) rfl rfl ?_
    refine WX.s1 (S' := [.long (((nI st_).toInt64) <<< ((4 + (14 : Int32)).toInt64 &&& 63)), .long ((((nI 2) + (4 * 2)).toInt64) + (16 * ((nI ls.length).toInt64)))]) rfl rfl ?_
    refine WX.s1 (S' := [.long (((((nI 2) + (4 * 2)).toInt64) + (16 * ((nI ls.length).toInt64))) + (((nI st_).toInt64) <<< ((4 + (14 : Int32)).toInt64 &&& 63)))]) rfl rfl ?_
    refine WX.s1 (L' := [(0, .ref 89), (1, .ref r), (2, .int (14 : Int32)), (3, .long (((((nI 2) + (4 * 2)).toInt64) + (16 * ((nI ls.length).toInt64))) + (((nI st_).toInt64) <<< ((4 + (14 : Int32)).toInt64 &&& 63))))]) rfl rfl ?_
    rw [show (((((nI 2) + (4 * 2)).toInt64) + (16 * ((nI ls.length).toInt64))) + (((nI st_).toInt64) <<< ((4 + (14 : Int32)).toInt64 &&& 63))) = lN (10 + 16 * ls.length + st_ * 2 ^ 18) by
      rw [show (nI 2 + 4 * (2 : Int32)) = nI 10 by decide, nI_l (n := 10) (by decide), nI_l (n := ls.length) (by omega), nI_l (n := st_) (by omega)]
      rw [show ((4 : Int32) + (14 : Int32)) = nI 18 by decide, wb_shl st_ (show 18 < 64 by decide), show (16 : Int64) = lN 16 from rfl, lN_mul, lN_add, lN_add]]
    refine WX.s1 rfl rfl ?_
    refine WX.s1 rfl rfl ?_
    refine WX.s1 rfl rfl ?_
    refine WX.get1 (fs := [.ref 90, .ref 91, .int (nI ls.length), .ref 92, .ref 96, .ref 100, .ref 67, .ref 106, .int (nI 2), .int by_, .int 2, .int (nI st_)]) rfl (by omega) (F_h_89) rfl ?_
    refine WX.callC (vs := [.int 2]) rfl rfl rfl (Nat.le_of_ble_eq_true rfl) rfl ?_
    refine x_lch2 ?_
    show WX _ _ _ 79 [(0, .ref 89), (1, .ref r), (2, .int (14 : Int32)), (3, .long (lN (10 + 16 * ls.length + st_ * 2 ^ 18)))] [.int 4, .long (lN (10 + 16 * ls.length + st_ * 2 ^ 18)), .ref r] (n, s, h)
    refine WX.callC (vs := [.ref r, .long (lN (10 + 16 * ls.length + st_ * 2 ^ 18)), .int 4]) rfl rfl rfl (Nat.le_of_ble_eq_true rfl) (P_h_row.rcv (by omega)) ?_
    refine w_putNumber (by omega) P_h_row hRN (by decide) (fun h79 fr79 P_h79_row => ?_)
    have F_h79_89 : h79 89 = .inr (5, [.ref 90, .ref 91, .int (nI ls.length), .ref 92, .ref 96, .ref 100, .ref 67, .ref 106, .int (nI 2), .int by_, .int 2, .int (nI st_)]) := (fr79 _ (by first | decide | omega)).trans F_h_89
    have F_h79_90 : h79 90 = .inl (0, 8000, .inl yA) := (fr79 _ (by first | decide | omega)).trans F_h_90
    have P_h79_co : CoT h79 96 L t := P_h_co.zfr fr79 (fun j h1 h2 => by omega)
    have P_h79_told : RowIs h79 106 256 (some y) 0 0 := P_h_told.zfr fr79 (by first | decide | omega) (by first | decide | omega)
    have FR_h79 : Fr h h79 (fun j => j = r ∨ j = r + 1) := FR_h.zsub fr79 (fun j hj => by first | exact hj | exact Or.inl hj | exact Or.inr hj | omega)
    show WX _ _ _ 82 [(0, .ref 89), (1, .ref r), (2, .int (14 : Int32)), (3, .long (lN (10 + 16 * ls.length + st_ * 2 ^ 18)))] [] (n, s, h79)
    rw [leL_lN (by omega)] at P_h79_row
    refine WX.s1 rfl rfl ?_
    refine WX.get1 (fs := [.ref 90, .ref 91, .int (nI ls.length), .ref 92, .ref 96, .ref 100, .ref 67, .ref 106, .int (nI 2), .int by_, .int 2, .int (nI st_)]) rfl (by omega) (F_h79_89) rfl ?_
    refine WX.s1 rfl rfl ?_
    refine WX.icmp rfl (fun c_87 => absurd c_87 (by decide)) (fun c_87 => ?_)
    refine WX.s1 rfl rfl ?_
    refine WX.s1 rfl rfl ?_
    refine WX.callC (vs := [.ref 89, .ref r]) rfl rfl rfl (Nat.le_of_ble_eq_true rfl) (rcv_ok (by omega) F_h79_89) ?_
    refine x_lDesc hn hr hRN F_h79_89 P_h79_row P_h79_told (fun h92 fr92 P_h92_row => ?_)
    have F_h92_89 : h92 89 = .inr (5, [.ref 90, .ref 91, .int (nI ls.length), .ref 92, .ref 96, .ref 100, .ref 67, .ref 106, .int (nI 2), .int by_, .int 2, .int (nI st_)]) := (fr92 _ (by first | decide | omega)).trans F_h79_89
    have F_h92_90 : h92 90 = .inl (0, 8000, .inl yA) := (fr92 _ (by first | decide | omega)).trans F_h79_90
    have P_h92_co : CoT h92 96 L t := P_h79_co.zfr fr92 (fun j h1 h2 => by omega)
    have P_h92_told : RowIs h92 106 256 (some y) 0 0 := P_h79_told.zfr fr92 (by first | decide | omega) (by first | decide | omega)
    have FR_h92 : Fr h h92 (fun j => j = r ∨ j = r + 1) := FR_h79.zsub fr92 (fun j hj => by first | exact hj | exact Or.inl hj | exact Or.inr hj | omega)
    show WX _ _ _ 95 [(0, .ref 89), (1, .ref r), (2, .int (14 : Int32)), (3, .long (lN (10 + 16 * ls.length + st_ * 2 ^ 18)))] [] (n, s, h92)
    refine WX.s1 rfl rfl ?_
    refine WX.s1 rfl rfl ?_
    refine WX.s1 rfl rfl ?_
    refine WX.get1 (fs := [.ref 90, .ref 91, .int (nI ls.length), .ref 92, .ref 96, .ref 100, .ref 67, .ref 106, .int (nI 2), .int by_, .int 2, .int (nI st_)]) rfl (by omega) (F_h92_89) rfl ?_
    refine WX.s1 rfl rfl ?_
    refine WX.icmp rfl (fun c_102 => absurd c_102 (by decide)) (fun c_102 => ?_)
    refine WX.s1 rfl rfl ?_
    refine WX.get1 (fs := [.ref 90, .ref 91, .int (nI ls.length), .ref 92, .ref 96, .ref 100, .ref 67, .ref 106, .int (nI 2), .int by_, .int 2, .int (nI st_)]) rfl (by omega) (F_h92_89) rfl ?_
    refine WX.s1 rfl rfl ?_
    refine WX.callC (vs := [.ref 89, .ref r, .ref 96]) rfl rfl rfl (Nat.le_of_ble_eq_true rfl) (rcv_ok (by omega) F_h92_89) ?_
    refine x_lStm hn hr hRN (by decide) hls hlz hy F_h92_89 F_h92_90 P_h92_row P_h92_co (fun h116 fr116 P_h116_row => ?_)
    have F_h116_89 : h116 89 = .inr (5, [.ref 90, .ref 91, .int (nI ls.length), .ref 92, .ref 96, .ref 100, .ref 67, .ref 106, .int (nI 2), .int by_, .int 2, .int (nI st_)]) := (fr116 _ (by first | decide | omega)).trans F_h92_89
    have F_h116_90 : h116 90 = .inl (0, 8000, .inl yA) := (fr116 _ (by first | decide | omega)).trans F_h92_90
    have P_h116_co : CoT h116 96 L t := P_h92_co.zfr fr116 (fun j h1 h2 => by omega)
    have P_h116_told : RowIs h116 106 256 (some y) 0 0 := P_h92_told.zfr fr116 (by first | decide | omega) (by first | decide | omega)
    have FR_h116 : Fr h h116 (fun j => j = r ∨ j = r + 1) := FR_h92.zsub fr116 (fun j hj => by first | exact hj | exact Or.inl hj | exact Or.inr hj | omega)
    show WX _ _ _ 119 [(0, .ref 89), (1, .ref r), (2, .int (14 : Int32)), (3, .long (lN (10 + 16 * ls.length + st_ * 2 ^ 18)))] [] (n, s, h116)
    exact WX.ret0 rfl (kk h116 FR_h116 (by unfold hdY; rw [hcv, hch]; simp only [bputs_app]; exact P_h116_row))
set_option maxRecDepth 20000 in
theorem x_lPut3 {d n s : Nat} {h : Nat → aE} {r RN t st_ : Nat} {L : Nat → Nat} {ls : List Nat} {bb : Option (List Nat)} {yA : Nat → Int32} {by_ : Int32} (hn : 190 ≤ n) (hr : r + 1 < 67) (hRN : RN < 2 ^ 31) (hls : LsOk ls) (hst : st_ < 16384) (hlz : ∀ s, s ∈ ls → L s ≠ 0) (hy : ∀ i, i < ls.length → ls.getD i 0 < 256 ∧ yA i = sb_b (ls.getD i 0)) (F_h_89 : h 89 = .inr (5, [.ref 90, .ref 91, .int (nI ls.length), .ref 92, .ref 96, .ref 100, .ref 67, .ref 106, .int (nI 3), .int by_, .int (if ls.length < 1024 then 0 else 2), .int (nI st_)])) (F_h_90 : h 90 = .inl (0, 8000, .inl yA)) (P_h_row : RowIs h r RN bb 0 0) (P_h_co : CoT h 92 L t) {Ψ : Option Value → aH → Prop} (kk : ∀ h', Fr h h' (fun j => j = r ∨ j = r + 1) → RowIs h' r RN (bputs RN bb (hdY 3 st_ ls ++ (stmY L t ls))) 0 0 → Ψ none (n, s, h')) : WO (mM (d + 5)) 63 [.ref 89, .ref r] (n, s, h) Ψ := by
  refine WO.of (Nat.le_of_ble_eq_true rfl) ?_
  have FR_h : Fr h h (fun j => j = r ∨ j = r + 1) := Fr.rf
  have hlen := hls.2
  show WX (lk tX5_put) (mM (d + 4)) Ψ 0 [(0, .ref 89), (1, .ref r)] [] (n, s, h)
  refine WX.s1 rfl rfl ?_
  refine WX.get1 (fs := [.ref 90, .ref 91, .int (nI ls.length), .ref 92, .ref 96, .ref 100, .ref 67, .ref 106, .int (nI 3), .int by_, .int (if ls.length < 1024 then 0 else 2), .int (nI st_)]) rfl (by omega) (F_h_89) rfl ?_
  refine WX.s1 rfl rfl ?_
  refine WX.icmp rfl (fun c_5 => ?_) (fun c_5 => absurd (by decide) c_5)
  by_cases hn1 : ls.length < 1024
  · rw [if_pos hn1] at F_h_89
    have hcv : cvF 3 ls.length st_ = 3 + 16 * ls.length + st_ * 2 ^ 14 := if_pos hn1
    have hch : chd ls.length = 3 := if_pos hn1
    refine WX.s1 rfl rfl ?_
    refine WX.get1 (fs := [.ref 90, .ref 91, .int (nI ls.length), .ref 92, .ref 96, .ref 100, .ref 67, .ref 106, .int (nI 3), .int by_, .int 0, .int (nI st_)]) rfl (by omega) (F_h_89) rfl ?_
    refine WX.s1 rfl rfl ?_
    refine WX.icmp rfl (fun c_19 => absurd c_19 (by decide)) (fun c_19 => ?_)
    clear c_19
    refine WX.s1 rfl rfl ?_
    refine WX.s1 rfl rfl ?_
    refine WX.s1 (L' := [(0, .ref 89), (1, .ref r), (2, .int 10)]) rfl rfl ?_
    refine WX.s1 rfl rfl ?_
    refine WX.get1 (fs := [.ref 90, .ref 91, .int (nI ls.length), .ref 92, .ref 96, .ref 100, .ref 67, .ref 106, .int (nI 3), .int by_, .int 0, .int (nI st_)]) rfl (by omega) (F_h_89) rfl ?_
    refine WX.s1 rfl rfl ?_
    refine WX.s1 rfl rfl ?_
    refine WX.get1 (fs := [.ref 90, .ref 91, .int (nI ls.length), .ref 92, .ref 96, .ref 100, .ref 67, .ref 106, .int (nI 3), .int by_, .int 0, .int (nI st_)]) rfl (by omega) (F_h_89) rfl ?_
    refine WX.s1 (S' := [.int (4 * 0), .int (nI 3)]) rfl rfl ?_
    refine WX.s1 (S' := [.int ((nI 3) + (4 * 0))]) rfl rfl ?_
    refine WX.s1 (S' := [.long (((nI 3) + (4 * 0)).toInt64)]) rfl rfl ?_
    refine WX.s1 rfl rfl ?_
    refine WX.s1 rfl rfl ?_
    refine WX.get1 (fs := [.ref 90, .ref 91, .int (nI ls.length), .ref 92, .ref 96, .ref 100, .ref 67, .ref 106, .int (nI 3), .int by_, .int 0, .int (nI st_)]) rfl (by omega) (F_h_89) rfl ?_
    refine WX.s1 (S' := [.long ((nI ls.length).toInt64), .long 16, .long (((nI 3) + (4 * 0)).toInt64)]) rfl rfl ?_
    refine WX.s1 (S' := [.long (16 * ((nI ls.length).toInt64)), .long (((nI 3) + (4 * 0)).toInt64)]) rfl rfl ?_
    refine WX.s1 (S' := [.long ((((nI 3) + (4 * 0)).toInt64) + (16 * ((nI ls.length).toInt64)))]) rfl rfl ?_
    refine WX.s1 rfl rfl ?_
    refine WX.get1 (fs := [.ref 90, .ref 91, .int (nI ls.length), .ref 92, .ref 96, .ref 100, .ref 67, .ref 106, .int (nI 3), .int by_, .int 0, .int (nI st_)]) rfl (by omega) (F_h_89) rfl ?_
    refine WX.s1 (S' := [.long ((nI st_).toInt64), .long ((((nI 3) + (4 * 0)).toInt64) + (16 * ((nI ls.length).toInt64)))]) rfl rfl ?_
    refine WX.s1 rfl rfl ?_
    refine WX.s1 rfl rfl ?_
    refine WX.s1 (S' := [.int (4 + (10 : Int32)), .long ((nI st_).toInt64), .long ((((nI 3) + (4 * 0)).toInt64) + (16 * ((nI ls.length).toInt64)))]) rfl rfl ?_
    refine WX.s1 (S' := [.long (((nI st_).toInt64) <<< ((4 + (10 : Int32)).toInt64 &&& 63)), .long ((((nI 3) + (4 * 0)).toInt64) + (16 * ((nI ls.length).toInt64)))]) rfl rfl ?_
    refine WX.s1 (S' := [.long (((((nI 3) + (4 * 0)).toInt64) + (16 * ((nI ls.length).toInt64))) + (((nI st_).toInt64) <<< ((4 + (10 : Int32)).toInt64 &&& 63)))]) rfl rfl ?_
    refine WX.s1 (L' := [(0, .ref 89), (1, .ref r), (2, .int (10 : Int32)), (3, .long (((((nI 3) + (4 * 0)).toInt64) + (16 * ((nI ls.length).toInt64))) + (((nI st_).toInt64) <<< ((4 + (10 : Int32)).toInt64 &&& 63))))]) rfl rfl ?_
    rw [show (((((nI 3) + (4 * 0)).toInt64) + (16 * ((nI ls.length).toInt64))) + (((nI st_).toInt64) <<< ((4 + (10 : Int32)).toInt64 &&& 63))) = lN (3 + 16 * ls.length + st_ * 2 ^ 14) by
      rw [show (nI 3 + 4 * (0 : Int32)) = nI 3 by decide, nI_l (n := 3) (by decide), nI_l (n := ls.length) (by omega), nI_l (n := st_) (by omega)]
      rw [show ((4 : Int32) + (10 : Int32)) = nI 14 by decide, wb_shl st_ (show 14 < 64 by decide), show (16 : Int64) = lN 16 from rfl, lN_mul, lN_add, lN_add]]
    refine WX.s1 rfl rfl ?_
    refine WX.s1 rfl rfl ?_
    refine WX.s1 rfl rfl ?_
    refine WX.get1 (fs := [.ref 90, .ref 91, .int (nI ls.length), .ref 92, .ref 96, .ref 100, .ref 67, .ref 106, .int (nI 3), .int by_, .int 0, .int (nI st_)]) rfl (by omega) (F_h_89) rfl ?_
    refine WX.callC (vs := [.int 0]) rfl rfl rfl (Nat.le_of_ble_eq_true rfl) rfl ?_
    refine x_lch0 ?_
    show WX _ _ _ 79 [(0, .ref 89), (1, .ref r), (2, .int (10 : Int32)), (3, .long (lN (3 + 16 * ls.length + st_ * 2 ^ 14)))] [.int 3, .long (lN (3 + 16 * ls.length + st_ * 2 ^ 14)), .ref r] (n, s, h)
    refine WX.callC (vs := [.ref r, .long (lN (3 + 16 * ls.length + st_ * 2 ^ 14)), .int 3]) rfl rfl rfl (Nat.le_of_ble_eq_true rfl) (P_h_row.rcv (by omega)) ?_
    refine w_putNumber (by omega) P_h_row hRN (by decide) (fun h79 fr79 P_h79_row => ?_)
    have F_h79_89 : h79 89 = .inr (5, [.ref 90, .ref 91, .int (nI ls.length), .ref 92, .ref 96, .ref 100, .ref 67, .ref 106, .int (nI 3), .int by_, .int 0, .int (nI st_)]) := (fr79 _ (by first | decide | omega)).trans F_h_89
    have F_h79_90 : h79 90 = .inl (0, 8000, .inl yA) := (fr79 _ (by first | decide | omega)).trans F_h_90
    have P_h79_co : CoT h79 92 L t := P_h_co.zfr fr79 (fun j h1 h2 => by omega)
    have FR_h79 : Fr h h79 (fun j => j = r ∨ j = r + 1) := FR_h.zsub fr79 (fun j hj => by first | exact hj | exact Or.inl hj | exact Or.inr hj | omega)
    show WX _ _ _ 82 [(0, .ref 89), (1, .ref r), (2, .int (10 : Int32)), (3, .long (lN (3 + 16 * ls.length + st_ * 2 ^ 14)))] [] (n, s, h79)
    rw [leL_lN (by omega)] at P_h79_row
    refine WX.s1 rfl rfl ?_
    refine WX.get1 (fs := [.ref 90, .ref 91, .int (nI ls.length), .ref 92, .ref 96, .ref 100, .ref 67, .ref 106, .int (nI 3), .int by_, .int 0, .int (nI st_)]) rfl (by omega) (F_h79_89) rfl ?_
    refine WX.s1 rfl rfl ?_
    refine WX.icmp rfl (fun c_87 => ?_) (fun c_87 => absurd (by decide) c_87)
    refine WX.s1 rfl rfl ?_
    refine WX.s1 rfl rfl ?_
    refine WX.s1 rfl rfl ?_
    refine WX.get1 (fs := [.ref 90, .ref 91, .int (nI ls.length), .ref 92, .ref 96, .ref 100, .ref 67, .ref 106, .int (nI 3), .int by_, .int 0, .int (nI st_)]) rfl (by omega) (F_h79_89) rfl ?_
    refine WX.s1 rfl rfl ?_
    refine WX.icmp rfl (fun c_102 => ?_) (fun c_102 => absurd (by decide) c_102)
    refine WX.s1 rfl rfl ?_
    refine WX.get1 (fs := [.ref 90, .ref 91, .int (nI ls.length), .ref 92, .ref 96, .ref 100, .ref 67, .ref 106, .int (nI 3), .int by_, .int 0, .int (nI st_)]) rfl (by omega) (F_h79_89) rfl ?_
    refine WX.callC (vs := [.ref 89, .ref r, .ref 92]) rfl rfl rfl (Nat.le_of_ble_eq_true rfl) (rcv_ok (by omega) F_h79_89) ?_
    refine x_lStm hn hr hRN (by decide) hls hlz hy F_h79_89 F_h79_90 P_h79_row P_h79_co (fun h116 fr116 P_h116_row => ?_)
    have F_h116_89 : h116 89 = .inr (5, [.ref 90, .ref 91, .int (nI ls.length), .ref 92, .ref 96, .ref 100, .ref 67, .ref 106, .int (nI 3), .int by_, .int 0, .int (nI st_)]) := (fr116 _ (by first | decide | omega)).trans F_h79_89
    have F_h116_90 : h116 90 = .inl (0, 8000, .inl yA) := (fr116 _ (by first | decide | omega)).trans F_h79_90
    have P_h116_co : CoT h116 92 L t := P_h79_co.zfr fr116 (fun j h1 h2 => by omega)
    have FR_h116 : Fr h h116 (fun j => j = r ∨ j = r + 1) := FR_h79.zsub fr116 (fun j hj => by first | exact hj | exact Or.inl hj | exact Or.inr hj | omega)
    show WX _ _ _ 119 [(0, .ref 89), (1, .ref r), (2, .int (10 : Int32)), (3, .long (lN (3 + 16 * ls.length + st_ * 2 ^ 14)))] [] (n, s, h116)
    exact WX.ret0 rfl (kk h116 FR_h116 (by unfold hdY; rw [hcv, hch]; simp only [bputs_app]; exact P_h116_row))
  · rw [if_neg hn1] at F_h_89
    have hcv : cvF 3 ls.length st_ = 11 + 16 * ls.length + st_ * 2 ^ 18 := if_neg hn1
    have hch : chd ls.length = 4 := if_neg hn1
    refine WX.s1 rfl rfl ?_
    refine WX.get1 (fs := [.ref 90, .ref 91, .int (nI ls.length), .ref 92, .ref 96, .ref 100, .ref 67, .ref 106, .int (nI 3), .int by_, .int 2, .int (nI st_)]) rfl (by omega) (F_h_89) rfl ?_
    refine WX.s1 rfl rfl ?_
    refine WX.icmp rfl (fun c_19 => ?_) (fun c_19 => absurd (by decide) c_19)
    clear c_19
    refine WX.s1 rfl rfl ?_
    refine WX.s1 rfl rfl ?_
    refine WX.get1 (fs := [.ref 90, .ref 91, .int (nI ls.length), .ref 92, .ref 96, .ref 100, .ref 67, .ref 106, .int (nI 3), .int by_, .int 2, .int (nI st_)]) rfl (by omega) (F_h_89) rfl ?_
    refine WX.s1 (S' := [.int (4 * 2)]) rfl rfl ?_
    refine WX.s1 rfl rfl ?_
    refine WX.s1 (S' := [.int ((4 * 2) + 6)]) rfl rfl ?_
    refine WX.s1 (L' := [(0, .ref 89), (1, .ref r), (2, .int ((4 * 2) + 6))]) rfl rfl ?_
    rw [show ((4 : Int32) * 2 + 6) = 14 by decide]
    refine WX.s1 rfl rfl ?_
    refine WX.get1 (fs := [.ref 90, .ref 91, .int (nI ls.length), .ref 92, .ref 96, .ref 100, .ref 67, .ref 106, .int (nI 3), .int by_, .int 2, .int (nI st_)]) rfl (by omega) (F_h_89) rfl ?_
    refine WX.s1 rfl rfl ?_
    refine WX.s1 rfl rfl ?_
    refine WX.get1 (fs := [.ref 90, .ref 91, .int (nI ls.length), .ref 92, .ref 96, .ref 100, .ref 67, .ref 106, .int (nI 3), .int by_, .int 2, .int (nI st_)]) rfl (by omega) (F_h_89) rfl ?_
    refine WX.s1 (S' := [.int (4 * 2), .int (nI 3)]) rfl rfl ?_
    refine WX.s1 (S' := [.int ((nI 3) + (4 * 2))]) rfl rfl ?_
    refine WX.s1 (S' := [.long (((nI 3) + (4 * 2)).toInt64)]) rfl rfl ?_
    refine WX.s1 rfl rfl ?_
    refine WX.s1 rfl rfl ?_
    refine WX.get1 (fs := [.ref 90, .ref 91, .int (nI ls.length), .ref 92, .ref 96, .ref 100, .ref 67, .ref 106, .int (nI 3), .int by_, .int 2, .int (nI st_)]) rfl (by omega) (F_h_89) rfl ?_
    refine WX.s1 (S' := [.long ((nI ls.length).toInt64), .long 16, .long (((nI 3) + (4 * 2)).toInt64)]) rfl rfl ?_
    refine WX.s1 (S' := [.long (16 * ((nI ls.length).toInt64)), .long (((nI 3) + (4 * 2)).toInt64)]) rfl rfl ?_
    refine WX.s1 (S' := [.long ((((nI 3) + (4 * 2)).toInt64) + (16 * ((nI ls.length).toInt64)))]) rfl rfl ?_
    refine WX.s1 rfl rfl ?_
    refine WX.get1 (fs := [.ref 90, .ref 91, .int (nI ls.length), .ref 92, .ref 96, .ref 100, .ref 67, .ref 106, .int (nI 3), .int by_, .int 2, .int (nI st_)]) rfl (by omega) (F_h_89) rfl ?_
    refine WX.s1 (S' := [.long ((nI st_).toInt64), .long ((((nI 3) + (4 * 2)).toInt64) + (16 * ((nI ls.length).toInt64)))]) rfl rfl ?_
    refine WX.s1 rfl rfl ?_
    refine WX.s1 rfl rfl ?_
    refine WX.s1 (S' := [.int (4 + (14 : Int32)), .long ((nI st_).toInt64), .long ((((nI 3) + (4 * 2)).toInt64) + (16 * ((nI ls.length).toInt64)))]) rfl rfl ?_
    refine WX.s1 (S' := [.long (((nI st_).toInt64) <<< ((4 + (14 : Int32)).toInt64 &&& 63)), .long ((((nI 3) + (4 * 2)).toInt64) + (16 * ((nI ls.length).toInt64)))]) rfl rfl ?_
    refine WX.s1 (S' := [.long (((((nI 3) + (4 * 2)).toInt64) + (16 * ((nI ls.length).toInt64))) + (((nI st_).toInt64) <<< ((4 + (14 : Int32)).toInt64 &&& 63)))]) rfl rfl ?_
    refine WX.s1 (L' := [(0, .ref 89), (1, .ref r), (2, .int (14 : Int32)), (3, .long (((((nI 3) + (4 * 2)).toInt64) + (16 * ((nI ls.length).toInt64))) + (((nI st_).toInt64) <<< ((4 + (14 : Int32)).toInt64 &&& 63))))]) rfl rfl ?_
    rw [show (((((nI 3) + (4 * 2)).toInt64) + (16 * ((nI ls.length).toInt64))) + (((nI st_).toInt64) <<< ((4 + (14 : Int32)).toInt64 &&& 63))) = lN (11 + 16 * ls.length + st_ * 2 ^ 18) by
      rw [show (nI 3 + 4 * (2 : Int32)) = nI 11 by decide, nI_l (n := 11) (by decide), nI_l (n := ls.length) (by omega), nI_l (n := st_) (by omega)]
      rw [show ((4 : Int32) + (14 : Int32)) = nI 18 by decide, wb_shl st_ (show 18 < 64 by decide), show (16 : Int64) = lN 16 from rfl, lN_mul, lN_add, lN_add]]
    refine WX.s1 rfl rfl ?_
    refine WX.s1 rfl rfl ?_
    refine WX.s1 rfl rfl ?_
    refine WX.get1 (fs := [.ref 90, .ref 91, .int (nI ls.length), .ref 92, .ref 96, .ref 100, .ref 67, .ref 106, .int (nI 3), .int by_, .int 2, .int (nI st_)]) rfl (by omega) (F_h_89) rfl ?_
    refine WX.callC (vs := [.int 2]) rfl rfl rfl (Nat.le_of_ble_eq_true rfl) rfl ?_
    refine x_lch2 ?_
    show WX _ _ _ 79 [(0, .ref 89), (1, .ref r), (2, .int (14 : Int32)), (3, .long (lN (11 + 16 * ls.length + st_ * 2 ^ 18)))] [.int 4, .long (lN (11 + 16 * ls.length + st_ * 2 ^ 18)), .ref r] (n, s, h)
    refine WX.callC (vs := [.ref r, .long (lN (11 + 16 * ls.length + st_ * 2 ^ 18)), .int 4]) rfl rfl rfl (Nat.le_of_ble_eq_true rfl) (P_h_row.rcv (by omega)) ?_
    refine w_putNumber (by omega) P_h_row hRN (by decide) (fun h79 fr79 P_h79_row => ?_)
    have F_h79_89 : h79 89 = .inr (5, [.ref 90, .ref 91, .int (nI ls.length), .ref 92, .ref 96, .ref 100, .ref 67, .ref 106, .int (nI 3), .int by_, .int 2, .int (nI st_)]) := (fr79 _ (by first | decide | omega)).trans F_h_89
    have F_h79_90 : h79 90 = .inl (0, 8000, .inl yA) := (fr79 _ (by first | decide | omega)).trans F_h_90
    have P_h79_co : CoT h79 92 L t := P_h_co.zfr fr79 (fun j h1 h2 => by omega)
    have FR_h79 : Fr h h79 (fun j => j = r ∨ j = r + 1) := FR_h.zsub fr79 (fun j hj => by first | exact hj | exact Or.inl hj | exact Or.inr hj | omega)
    show WX _ _ _ 82 [(0, .ref 89), (1, .ref r), (2, .int (14 : Int32)), (3, .long (lN (11 + 16 * ls.length + st_ * 2 ^ 18)))] [] (n, s, h79)
    rw [leL_lN (by omega)] at P_h79_row
    refine WX.s1 rfl rfl ?_
    refine WX.get1 (fs := [.ref 90, .ref 91, .int (nI ls.length), .ref 92, .ref 96, .ref 100, .ref 67, .ref 106, .int (nI 3), .int by_, .int 2, .int (nI st_)]) rfl (by omega) (F_h79_89) rfl ?_
    refine WX.s1 rfl rfl ?_
    refine WX.icmp rfl (fun c_87 => ?_) (fun c_87 => absurd (by decide) c_87)
    refine WX.s1 rfl rfl ?_
    refine WX.s1 rfl rfl ?_
    refine WX.s1 rfl rfl ?_
    refine WX.get1 (fs := [.ref 90, .ref 91, .int (nI ls.length), .ref 92, .ref 96, .ref 100, .ref 67, .ref 106, .int (nI 3), .int by_, .int 2, .int (nI st_)]) rfl (by omega) (F_h79_89) rfl ?_
    refine WX.s1 rfl rfl ?_
    refine WX.icmp rfl (fun c_102 => ?_) (fun c_102 => absurd (by decide) c_102)
    refine WX.s1 rfl rfl ?_
    refine WX.get1 (fs := [.ref 90, .ref 91, .int (nI ls.length), .ref 92, .ref 96, .ref 100, .ref 67, .ref 106, .int (nI 3), .int by_, .int 2, .int (nI st_)]) rfl (by omega) (F_h79_89) rfl ?_
    refine WX.callC (vs := [.ref 89, .ref r, .ref 92]) rfl rfl rfl (Nat.le_of_ble_eq_true rfl) (rcv_ok (by omega) F_h79_89) ?_
    refine x_lStm hn hr hRN (by decide) hls hlz hy F_h79_89 F_h79_90 P_h79_row P_h79_co (fun h116 fr116 P_h116_row => ?_)
    have F_h116_89 : h116 89 = .inr (5, [.ref 90, .ref 91, .int (nI ls.length), .ref 92, .ref 96, .ref 100, .ref 67, .ref 106, .int (nI 3), .int by_, .int 2, .int (nI st_)]) := (fr116 _ (by first | decide | omega)).trans F_h79_89
    have F_h116_90 : h116 90 = .inl (0, 8000, .inl yA) := (fr116 _ (by first | decide | omega)).trans F_h79_90
    have P_h116_co : CoT h116 92 L t := P_h79_co.zfr fr116 (fun j h1 h2 => by omega)
    have FR_h116 : Fr h h116 (fun j => j = r ∨ j = r + 1) := FR_h79.zsub fr116 (fun j hj => by first | exact hj | exact Or.inl hj | exact Or.inr hj | omega)
    show WX _ _ _ 119 [(0, .ref 89), (1, .ref r), (2, .int (14 : Int32)), (3, .long (lN (11 + 16 * ls.length + st_ * 2 ^ 18)))] [] (n, s, h116)
    exact WX.ret0 rfl (kk h116 FR_h116 (by unfold hdY; rw [hcv, hch]; simp only [bputs_app]; exact P_h116_row))
