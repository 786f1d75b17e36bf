/-! the packer: the sequences put -/
abbrev KC1 (h : Nat → aE) (vs : List Nat) (t : Tb) (md sta : Nat) : Prop := ColR h 108 3 4 9 35 512 36 36 B1 sy1 wd1 vs t md sta
abbrev KC2 (h : Nat → aE) (vs : List Nat) (t : Tb) (md sta : Nat) : Prop := ColR h 135 5 6 8 31 256 17 17 B2 sy2 wd2 vs t md sta
abbrev KC3 (h : Nat → aE) (vs : List Nat) (t : Tb) (md sta : Nat) : Prop := ColR h 162 7 8 9 52 512 53 53 B3 sy3 wd3 vs t md sta
abbrev KV1 (vs : List Nat) (t : Tb) (N : Nat) : Prop := CvOk 35 512 B1 sy1 wd1 vs t N
abbrev KV2 (vs : List Nat) (t : Tb) (N : Nat) : Prop := CvOk 31 256 B2 sy2 wd2 vs t N
abbrev KV3 (vs : List Nat) (t : Tb) (N : Nat) : Prop := CvOk 52 512 B3 sy3 wd3 vs t N
abbrev KL1 (vs : List Nat) (t : Tb) : Clm := clm t sy1 wd1 B1 vs
abbrev KL2 (vs : List Nat) (t : Tb) : Clm := clm t sy2 wd2 B2 vs
abbrev KL3 (vs : List Nat) (t : Tb) : Clm := clm t sy3 wd3 B3 vs
def cntY (n : Nat) : List Nat := if n < 128 then [n] else [128 + n / 256, n % 256]
theorem cntY_len (n : Nat) : (cntY n).length = if n < 128 then 1 else 2 := by
  unfold cntY
  split <;> rfl
noncomputable def sqY (vs1 vs2 vs3 : List Nat) (t1 t2 t3 : Tb) (m1 m2 m3 : Nat) (N : Nat) : List Nat := cntY N ++ ([64 * m1 + 16 * m2 + 4 * m3] ++ (tbY (vs1.map sy1) 9 m1 ++ (tbY (vs2.map sy2) 8 m2 ++ (tbY (vs3.map sy3) 9 m3 ++ seqY (KL1 vs1 t1) (KL2 vs2 t2) (KL3 vs3 t3) N))))
set_option maxRecDepth 20000 in
theorem x_cntB {d n s : Nat} {h : Nat → aE} {cnt : Nat} (hn : 190 ≤ n) (hc : cnt ≤ 2667) (F_h_81 : h 81 = .inr (6, [.ref 82, .ref 89, .ref 108, .ref 135, .ref 162, .ref 86, .ref 87, .int (nI cnt), .ref 88]))  {Ψ : Option Value → aH → Prop} (kk : Ψ (some (.int (nI (cntY cnt).length))) (n, s, h)) : WO (mM (d + 1)) 77 [.ref 81] (n, s, h) Ψ := by
  refine WO.of (Nat.le_of_ble_eq_true rfl) ?_
  have FR_h : Fr h h (fun j => False) := Fr.rf
  show WX (lk tX6_countBytes) (mM d) Ψ 0 [(0, .ref 81)] [] (n, s, h)
  refine WX.s1 rfl rfl ?_
  refine WX.get1 (fs := [.ref 82, .ref 89, .ref 108, .ref 135, .ref 162, .ref 86, .ref 87, .int (nI cnt), .ref 88]) rfl (ltN hn (by decide)) (F_h_81) rfl ?_
  refine WX.s1 rfl rfl ?_
  refine WX.icmp rfl (fun c_7 => ?_) (fun c_7 => ?_)
  · skip
    have n_7 : 128 ≤ cnt := (nI_leI (a := 128) (b := cnt) (by omega) (by omega)).mp c_7
    refine WX.s1 rfl rfl ?_
    refine WX.get1 (fs := [.ref 82, .ref 89, .ref 108, .ref 135, .ref 162, .ref 86, .ref 87, .int (nI cnt), .ref 88]) rfl (ltN hn (by decide)) (F_h_81) rfl ?_
    refine WX.s1 rfl rfl ?_
    refine WX.icmp rfl (fun c_19 => absurd c_19 (fun zz_ => absurd ((nI_leI (a := 32512) (b := cnt) (by omega) (by omega)).mp zz_) (Nat.not_le.mpr (by omega)))) (fun c_19 => ?_)
    clear c_19
    refine WX.s1 rfl rfl ?_
    refine WX.s1 rfl rfl ?_
    rw [cntY_len, if_neg (by omega)] at kk
    exact WX.ret1 rfl kk
  · skip
    have n_7 : cnt < 128 := Nat.lt_of_not_le (fun zz_ => c_7 ((nI_leI (a := 128) (b := cnt) (by omega) (by omega)).mpr zz_))
    refine WX.s1 rfl rfl ?_
    rw [cntY_len, if_pos n_7] at kk
    exact WX.ret1 rfl kk
set_option maxRecDepth 20000 in
theorem x_putCount {d n s : Nat} {h : Nat → aE} {cnt r RN : Nat} {bb : Option (List Nat)} (hn : 190 ≤ n) (hr : r + 1 < 81) (hRN : RN < 2 ^ 31) (hc : cnt ≤ 2667) (F_h_81 : h 81 = .inr (6, [.ref 82, .ref 89, .ref 108, .ref 135, .ref 162, .ref 86, .ref 87, .int (nI cnt), .ref 88])) (P_h_row : RowIs h r RN bb 0 0) {Ψ : Option Value → aH → Prop} (kk : ∀ h', Fr h h' (fun j => j = r ∨ j = r + 1) → RowIs h' r RN (bputs RN bb (cntY cnt)) 0 0 → Ψ none (n, s, h')) : WO (mM (d + 2)) 78 [.ref 81, .ref r] (n, s, h) Ψ := by
  refine WO.of (Nat.le_of_ble_eq_true rfl) ?_
  have FR_h : Fr h h (fun j => j = r ∨ j = r + 1) := Fr.rf
  show WX (lk tX6_putCount) (mM (d + 1)) Ψ 0 [(0, .ref 81), (1, .ref r)] [] (n, s, h)
  refine WX.s1 rfl rfl ?_
  refine WX.callC (vs := [.ref 81]) rfl rfl rfl (Nat.le_of_ble_eq_true rfl) (rcv_ok (ltN hn (by decide)) F_h_81) ?_
  refine x_cntB hn hc F_h_81 ?_
  show WX _ _ _ 4 [(0, .ref 81), (1, .ref r)] [.int (nI (cntY cnt).length)] (n, s, h)
  refine WX.s1 (L' := [(0, .ref 81), (1, .ref r), (2, .int (nI (cntY cnt).length))]) rfl rfl ?_
  by_cases hq : cnt < 128
  · have hl : (cntY cnt).length = 1 := by rw [cntY_len, if_pos hq]
    have hY : cntY cnt = [cnt] := if_pos hq
    rw [hl]
    refine WX.s1 rfl rfl ?_
    refine WX.s1 rfl rfl ?_
    refine WX.icmp rfl (fun c_7 => absurd c_7 (by decide)) (fun c_7 => ?_)
    refine WX.s1 rfl rfl ?_
    refine WX.s1 rfl rfl ?_
    refine WX.get1 (fs := [.ref 82, .ref 89, .ref 108, .ref 135, .ref 162, .ref 86, .ref 87, .int (nI cnt), .ref 88]) rfl (ltN hn (by decide)) (F_h_81) rfl ?_
    refine WX.callC (vs := [.ref r, .int (nI cnt)]) rfl rfl rfl (Nat.le_of_ble_eq_true rfl) (P_h_row.rcv (by omega)) ?_
    refine w_putB (by omega) P_h_row hRN (fun h15 fr15 P_h15_row => ?_)
    have F_h15_81 : h15 81 = .inr (6, [.ref 82, .ref 89, .ref 108, .ref 135, .ref 162, .ref 86, .ref 87, .int (nI cnt), .ref 88]) := (fr15 _ (by first | decide | omega)).trans F_h_81
    have FR_h15 : Fr h h15 (fun j => j = r ∨ j = r + 1) := FR_h.zsub fr15 (fun j hj => by first | exact hj | exact Or.inl hj | exact Or.inr hj | omega)
    show WX _ _ _ 18 [(0, .ref 81), (1, .ref r), (2, .int (nI 1))] [] (n, s, h15)
    refine WX.s1 rfl rfl ?_
    exact WX.ret0 rfl (kk h15 FR_h15 (by rw [hY]; rw [byt_nI, Nat.mod_eq_of_lt (show cnt < 256 by omega)] at P_h15_row; exact P_h15_row))
  · have hl : (cntY cnt).length = 2 := by rw [cntY_len, if_neg hq]
    have hY : cntY cnt = [128 + cnt / 256, cnt % 256] := if_neg hq
    rw [hl]
    refine WX.s1 rfl rfl ?_
    refine WX.s1 rfl rfl ?_
    refine WX.icmp rfl (fun c_7 => ?_) (fun c_7 => absurd (by decide) c_7)
    refine WX.s1 rfl rfl ?_
    refine WX.s1 rfl rfl ?_
    refine WX.icmp rfl (fun c_23 => absurd c_23 (by decide)) (fun c_23 => ?_)
    refine WX.s1 rfl rfl ?_
    refine WX.s1 rfl rfl ?_
    refine WX.s1 rfl rfl ?_
    refine WX.get1 (fs := [.ref 82, .ref 89, .ref 108, .ref 135, .ref 162, .ref 86, .ref 87, .int (nI cnt), .ref 88]) rfl (ltN hn (by decide)) (F_h_81) rfl ?_
    refine WX.s1 rfl rfl ?_
    refine WX.s1 (S' := [.int ((nI cnt) >>> (8 &&& 31)), .int 128, .ref r]) rfl rfl ?_
    rw [show nI cnt >>> ((8 : Int32) &&& 31) = nI (cnt / 2 ^ 8) from pk_shrN (show cnt < 2 ^ 31 by omega) _ 8 (by decide)]
    refine WX.s1 (S' := [.int (128 + (nI (cnt / 2 ^ 8))), .ref r]) rfl rfl ?_
    rw [show (128 + (nI (cnt / 2 ^ 8))) = nI (128 + cnt / 2 ^ 8) from nI_add 128 (cnt / 2 ^ 8)]
    refine WX.callC (vs := [.ref r, .int (nI (128 + cnt / 2 ^ 8))]) rfl rfl rfl (Nat.le_of_ble_eq_true rfl) (P_h_row.rcv (by omega)) ?_
    refine w_putB (by omega) P_h_row hRN (fun h38 fr38 P_h38_row => ?_)
    have F_h38_81 : h38 81 = .inr (6, [.ref 82, .ref 89, .ref 108, .ref 135, .ref 162, .ref 86, .ref 87, .int (nI cnt), .ref 88]) := (fr38 _ (by first | decide | omega)).trans F_h_81
    have FR_h38 : Fr h h38 (fun j => j = r ∨ j = r + 1) := FR_h.zsub fr38 (fun j hj => by first | exact hj | exact Or.inl hj | exact Or.inr hj | omega)
    show WX _ _ _ 41 [(0, .ref 81), (1, .ref r), (2, .int (nI 2))] [] (n, s, h38)
    refine WX.s1 rfl rfl ?_
    refine WX.s1 rfl rfl ?_
    refine WX.get1 (fs := [.ref 82, .ref 89, .ref 108, .ref 135, .ref 162, .ref 86, .ref 87, .int (nI cnt), .ref 88]) rfl (ltN hn (by decide)) (F_h38_81) rfl ?_
    refine WX.callC (vs := [.ref r, .int (nI cnt)]) rfl rfl rfl (Nat.le_of_ble_eq_true rfl) (P_h38_row.rcv (by omega)) ?_
    refine w_putB (by omega) P_h38_row hRN (fun h46 fr46 P_h46_row => ?_)
    have F_h46_81 : h46 81 = .inr (6, [.ref 82, .ref 89, .ref 108, .ref 135, .ref 162, .ref 86, .ref 87, .int (nI cnt), .ref 88]) := (fr46 _ (by first | decide | omega)).trans F_h38_81
    have FR_h46 : Fr h h46 (fun j => j = r ∨ j = r + 1) := FR_h38.zsub fr46 (fun j hj => by first | exact hj | exact Or.inl hj | exact Or.inr hj | omega)
    show WX _ _ _ 49 [(0, .ref 81), (1, .ref r), (2, .int (nI 2))] [] (n, s, h46)
    refine WX.s1 rfl rfl ?_
    exact WX.ret0 rfl (kk h46 FR_h46 (by rw [hY]; rw [byt_nI, byt_nI, Nat.mod_eq_of_lt (show 128 + cnt / 2 ^ 8 < 256 by omega)] at P_h46_row; exact P_h46_row))
set_option maxRecDepth 20000 in
theorem x_putAddAll {d n s : Nat} {h : Nat → aE} {r RN kb wb i z1 z2 z3 : Nat} {bb : Option (List Nat)} {vs1 vs2 vs3 : List Nat} {t1 t2 t3 : Tb} {m1 m2 m3 : Nat} {N : Nat} {cnt : Int32} (hn : 190 ≤ n) (hnb : n < aBig) (hr : r + 1 < 81) (hRN : RN < 2 ^ 31) (hv1 : KV1 vs1 t1 N) (hv2 : KV2 vs2 t2 N) (hv3 : KV3 vs3 t3 N) (hN2 : N ≤ 2667) (hi : i < N) (F_h_81 : h 81 = .inr (6, [.ref 82, .ref 89, .ref 108, .ref 135, .ref 162, .ref 86, .ref 87, .int cnt, .ref 88])) (P_h_c1 : KC1 h vs1 t1 m1 z1) (P_h_c2 : KC2 h vs2 t2 m2 z2) (P_h_c3 : KC3 h vs3 t3 m3 z3) (P_h_row : RowW h r RN bb kb wb) {Ψ : Option Value → aH → Prop} (kk : ∀ h', Fr h h' (fun j => j = r ∨ j = r + 1) → RowW h' r RN bb (adB (KL1 vs1 t1) (KL2 vs2 t2) (KL3 vs3 t3) i (kb, wb)).1 (adB (KL1 vs1 t1) (KL2 vs2 t2) (KL3 vs3 t3) i (kb, wb)).2 → Ψ none (n, s, h')) : WO (mM (d + 3)) 80 [.ref 81, .ref r, .int (nI i)] (n, s, h) Ψ := by
  refine WO.of (Nat.le_of_ble_eq_true rfl) ?_
  have FR_h : Fr h h (fun j => j = r ∨ j = r + 1) := Fr.rf
  have hBg : aBig = 1000000 := rfl
  show WX (lk tX6_putAdditional) (mM (d + 2)) Ψ 0 [(0, .ref 81), (1, .ref r), (2, .int (nI i))] [] (n, s, h)
  refine WX.s1 rfl rfl ?_
  refine WX.get1 (fs := [.ref 82, .ref 89, .ref 108, .ref 135, .ref 162, .ref 86, .ref 87, .int cnt, .ref 88]) rfl (ltN hn (by decide)) (F_h_81) rfl ?_
  refine WX.s1 rfl rfl ?_
  refine WX.s1 rfl rfl ?_
  refine WX.callC (vs := [.ref 108, .ref r, .int (nI i)]) rfl rfl rfl (Nat.le_of_ble_eq_true rfl) (P_h_c1.rcv (by omega)) ?_
  refine x_putAdd (by omega) hnb hv1 (by omega) hRN hi hN2 P_h_c1 P_h_row (fun h6 fr6 P_h6_row => ?_)
  have F_h6_81 : h6 81 = .inr (6, [.ref 82, .ref 89, .ref 108, .ref 135, .ref 162, .ref 86, .ref 87, .int cnt, .ref 88]) := (fr6 _ (by first | decide | omega)).trans F_h_81
  have P_h6_c1 : KC1 h6 vs1 t1 m1 z1 := P_h_c1.zfr fr6 (fun x h1 h2 => by omega) (by omega) (by omega)
  have P_h6_c2 : KC2 h6 vs2 t2 m2 z2 := P_h_c2.zfr fr6 (fun x h1 h2 => by omega) (by omega) (by omega)
  have P_h6_c3 : KC3 h6 vs3 t3 m3 z3 := P_h_c3.zfr fr6 (fun x h1 h2 => by omega) (by omega) (by omega)
  have FR_h6 : Fr h h6 (fun j => j = r ∨ j = r + 1) := FR_h.zsub fr6 (fun j hj => by first | exact hj | exact Or.inl hj | exact Or.inr hj | omega)
  show WX _ _ _ 9 [(0, .ref 81), (1, .ref r), (2, .int (nI i))] [] (n, s, h6)
  refine WX.s1 rfl rfl ?_
  refine WX.get1 (fs := [.ref 82, .ref 89, .ref 108, .ref 135, .ref 162, .ref 86, .ref 87, .int cnt, .ref 88]) rfl (ltN hn (by decide)) (F_h6_81) rfl ?_
  refine WX.s1 rfl rfl ?_
  refine WX.s1 rfl rfl ?_
  refine WX.callC (vs := [.ref 162, .ref r, .int (nI i)]) rfl rfl rfl (Nat.le_of_ble_eq_true rfl) (P_h6_c3.rcv (by omega)) ?_
  refine x_putAdd (by omega) hnb hv3 (by omega) hRN hi hN2 P_h6_c3 P_h6_row (fun h15 fr15 P_h15_row => ?_)
  have F_h15_81 : h15 81 = .inr (6, [.ref 82, .ref 89, .ref 108, .ref 135, .ref 162, .ref 86, .ref 87, .int cnt, .ref 88]) := (fr15 _ (by first | decide | omega)).trans F_h6_81
  have P_h15_c1 : KC1 h15 vs1 t1 m1 z1 := P_h6_c1.zfr fr15 (fun x h1 h2 => by omega) (by omega) (by omega)
  have P_h15_c2 : KC2 h15 vs2 t2 m2 z2 := P_h6_c2.zfr fr15 (fun x h1 h2 => by omega) (by omega) (by omega)
  have P_h15_c3 : KC3 h15 vs3 t3 m3 z3 := P_h6_c3.zfr fr15 (fun x h1 h2 => by omega) (by omega) (by omega)
  have FR_h15 : Fr h h15 (fun j => j = r ∨ j = r + 1) := FR_h6.zsub fr15 (fun j hj => by first | exact hj | exact Or.inl hj | exact Or.inr hj | omega)
  show WX _ _ _ 18 [(0, .ref 81), (1, .ref r), (2, .int (nI i))] [] (n, s, h15)
  refine WX.s1 rfl rfl ?_
  refine WX.get1 (fs := [.ref 82, .ref 89, .ref 108, .ref 135, .ref 162, .ref 86, .ref 87, .int cnt, .ref 88]) rfl (ltN hn (by decide)) (F_h15_81) rfl ?_
  refine WX.s1 rfl rfl ?_
  refine WX.s1 rfl rfl ?_
  refine WX.callC (vs := [.ref 135, .ref r, .int (nI i)]) rfl rfl rfl (Nat.le_of_ble_eq_true rfl) (P_h15_c2.rcv (by omega)) ?_
  refine x_putAdd (by omega) hnb hv2 (by omega) hRN hi hN2 P_h15_c2 P_h15_row (fun h24 fr24 P_h24_row => ?_)
  have F_h24_81 : h24 81 = .inr (6, [.ref 82, .ref 89, .ref 108, .ref 135, .ref 162, .ref 86, .ref 87, .int cnt, .ref 88]) := (fr24 _ (by first | decide | omega)).trans F_h15_81
  have P_h24_c1 : KC1 h24 vs1 t1 m1 z1 := P_h15_c1.zfr fr24 (fun x h1 h2 => by omega) (by omega) (by omega)
  have P_h24_c2 : KC2 h24 vs2 t2 m2 z2 := P_h15_c2.zfr fr24 (fun x h1 h2 => by omega) (by omega) (by omega)
  have P_h24_c3 : KC3 h24 vs3 t3 m3 z3 := P_h15_c3.zfr fr24 (fun x h1 h2 => by omega) (by omega) (by omega)
  have FR_h24 : Fr h h24 (fun j => j = r ∨ j = r + 1) := FR_h15.zsub fr24 (fun j hj => by first | exact hj | exact Or.inl hj | exact Or.inr hj | omega)
  show WX _ _ _ 27 [(0, .ref 81), (1, .ref r), (2, .int (nI i))] [] (n, s, h24)
  exact WX.ret0 rfl (kk h24 FR_h24 P_h24_row)
set_option maxRecDepth 20000 in
theorem x_putSeq0 {d n s : Nat} {h : Nat → aE} {r RN : Nat} {bb : Option (List Nat)} (hn : 190 ≤ n) (hr : r + 1 < 81) (hRN : RN < 2 ^ 31) (F_h_81 : h 81 = .inr (6, [.ref 82, .ref 89, .ref 108, .ref 135, .ref 162, .ref 86, .ref 87, .int (nI 0), .ref 88])) (P_h_row : RowIs h r RN bb 0 0) {Ψ : Option Value → aH → Prop} (kk : ∀ h', Fr h h' (fun j => j = r ∨ j = r + 1) → RowIs h' r RN (bputs RN bb [0]) 0 0 → Ψ none (n, s, h')) : WO (mM (d + 3)) 79 [.ref 81, .ref r] (n, s, h) Ψ := by
  refine WO.of (Nat.le_of_ble_eq_true rfl) ?_
  have FR_h : Fr h h (fun j => j = r ∨ j = r + 1) := Fr.rf
  show WX (lk tX6_putSequences) (mM (d + 2)) Ψ 0 [(0, .ref 81), (1, .ref r)] [] (n, s, h)
  refine WX.s1 rfl rfl ?_
  refine WX.s1 rfl rfl ?_
  refine WX.callC (vs := [.ref 81, .ref r]) rfl rfl rfl (Nat.le_of_ble_eq_true rfl) (rcv_ok (ltN hn (by decide)) F_h_81) ?_
  refine x_putCount hn hr hRN (by decide) F_h_81 P_h_row (fun h2 fr2 P_h2_row => ?_)
  have F_h2_81 : h2 81 = .inr (6, [.ref 82, .ref 89, .ref 108, .ref 135, .ref 162, .ref 86, .ref 87, .int (nI 0), .ref 88]) := (fr2 _ (by first | decide | omega)).trans F_h_81
  have FR_h2 : Fr h h2 (fun j => j = r ∨ j = r + 1) := FR_h.zsub fr2 (fun j hj => by first | exact hj | exact Or.inl hj | exact Or.inr hj | omega)
  show WX _ _ _ 5 [(0, .ref 81), (1, .ref r)] [] (n, s, h2)
  refine WX.s1 rfl rfl ?_
  refine WX.get1 (fs := [.ref 82, .ref 89, .ref 108, .ref 135, .ref 162, .ref 86, .ref 87, .int (nI 0), .ref 88]) rfl (ltN hn (by decide)) (F_h2_81) rfl ?_
  refine WX.if_ rfl (fun c_9 => absurd c_9 (by decide)) (fun c_9 => ?_)
  exact WX.ret0 rfl (kk h2 FR_h2 P_h2_row)
set_option maxRecDepth 20000 in
theorem x_putSeq {d n s : Nat} {h : Nat → aE} {r RN z1 z2 z3 : Nat} {bb : Option (List Nat)} {vs1 vs2 vs3 : List Nat} {t1 t2 t3 : Tb} {m1 m2 m3 : Nat} {N : Nat} (hn : 190 ≤ n) (hnb : n < aBig) (hr : r + 1 < 81) (hRN : RN < 2 ^ 31) (hv1 : KV1 vs1 t1 N) (hv2 : KV2 vs2 t2 N) (hv3 : KV3 vs3 t3 N) (hN2 : N ≤ 2667) (hN : 1 ≤ N) (hm1 : m1 ≤ 3) (hm2 : m2 ≤ 3) (hm3 : m3 ≤ 3) (hT1 : m1 = 2 → RowIs h 111 128 (some (tbY (vs1.map sy1) 9 2)) 0 0) (hT2 : m2 = 2 → RowIs h 138 128 (some (tbY (vs2.map sy2) 8 2)) 0 0) (hT3 : m3 = 2 → RowIs h 165 128 (some (tbY (vs3.map sy3) 9 2)) 0 0) (F_h_81 : h 81 = .inr (6, [.ref 82, .ref 89, .ref 108, .ref 135, .ref 162, .ref 86, .ref 87, .int (nI N), .ref 88])) (P_h_c1 : KC1 h vs1 t1 m1 z1) (P_h_c2 : KC2 h vs2 t2 m2 z2) (P_h_c3 : KC3 h vs3 t3 m3 z3) (P_h_row : RowIs h r RN bb 0 0) {Ψ : Option Value → aH → Prop} (kk : ∀ h', Fr h h' (fun j => j = 108 ∨ j = 135 ∨ j = 162 ∨ j = r ∨ j = r + 1) → RowIs h' r RN (bputs RN bb (sqY vs1 vs2 vs3 t1 t2 t3 m1 m2 m3 N)) 0 0 → (∃ z, KC1 h' vs1 t1 m1 z) → (∃ z, KC2 h' vs2 t2 m2 z) → (∃ z, KC3 h' vs3 t3 m3 z) → Ψ none (n, s, h')) : WO (mM (d + 4)) 79 [.ref 81, .ref r] (n, s, h) Ψ := by
  refine WO.of (Nat.le_of_ble_eq_true rfl) ?_
  have FR_h : Fr h h (fun j => j = 108 ∨ j = 135 ∨ j = 162 ∨ j = r ∨ j = r + 1) := Fr.rf
  have hBg : aBig = 1000000 := rfl
  have o1 := hv1.2.1
  have o2 := hv2.2.1
  have o3 := hv3.2.1
  show WX (lk tX6_putSequences) (mM (d + 3)) Ψ 0 [(0, .ref 81), (1, .ref r)] [] (n, s, h)
  refine WX.s1 rfl rfl ?_
  refine WX.s1 rfl rfl ?_
  refine WX.callC (vs := [.ref 81, .ref r]) rfl rfl rfl (Nat.le_of_ble_eq_true rfl) (rcv_ok (ltN hn (by decide)) F_h_81) ?_
  refine x_putCount hn hr hRN hN2 F_h_81 P_h_row (fun h2 fr2 P_h2_row => ?_)
  have F_h2_81 : h2 81 = .inr (6, [.ref 82, .ref 89, .ref 108, .ref 135, .ref 162, .ref 86, .ref 87, .int (nI N), .ref 88]) := (fr2 _ (by first | decide | omega)).trans F_h_81
  have P_h2_c1 : KC1 h2 vs1 t1 m1 z1 := P_h_c1.zfr fr2 (fun x h1 h2 => by omega) (by omega) (by omega)
  have P_h2_c2 : KC2 h2 vs2 t2 m2 z2 := P_h_c2.zfr fr2 (fun x h1 h2 => by omega) (by omega) (by omega)
  have P_h2_c3 : KC3 h2 vs3 t3 m3 z3 := P_h_c3.zfr fr2 (fun x h1 h2 => by omega) (by omega) (by omega)
  have FR_h2 : Fr h h2 (fun j => j = 108 ∨ j = 135 ∨ j = 162 ∨ j = r ∨ j = r + 1) := FR_h.zsub fr2 (fun j hj => by first | exact hj | exact Or.inl hj | exact Or.inr hj | omega)
  show WX _ _ _ 5 [(0, .ref 81), (1, .ref r)] [] (n, s, h2)
  refine WX.s1 rfl rfl ?_
  refine WX.get1 (fs := [.ref 82, .ref 89, .ref 108, .ref 135, .ref 162, .ref 86, .ref 87, .int (nI N), .ref 88]) rfl (ltN hn (by decide)) (F_h2_81) rfl ?_
  refine WX.if_ rfl (fun c_9 => ?_) (fun c_9 => absurd (fun z => absurd ((nI_eq (a := N) (b := 0) (by omega) (by decide)).mp z) (by omega)) c_9)
  obtain ⟨bi1, ob1, F_h2_108, -⟩ := id P_h2_c1
  obtain ⟨bi2, ob2, F_h2_135, -⟩ := id P_h2_c2
  obtain ⟨bi3, ob3, F_h2_162, -⟩ := id P_h2_c3
  refine WX.s1 rfl rfl ?_
  refine WX.s1 rfl rfl ?_
  refine WX.s1 rfl rfl ?_
  refine WX.get1 (fs := [.ref 82, .ref 89, .ref 108, .ref 135, .ref 162, .ref 86, .ref 87, .int (nI N), .ref 88]) rfl (ltN hn (by decide)) (F_h2_81) rfl ?_
  refine WX.get1 (fs := [.ref (aBig + 3), .ref (aBig + 4), .int (nI 9), .ref (108 + 1), .ref (108 + 2), .ref (108 + 5), .int (nI vs1.length), .int (nI (colF sy1 wd1 vs1).2.1), .int (nI (colF sy1 wd1 vs1).2.2), .ref (108 + 6), .ref (108 + 13), .ref (108 + 20), .ref (CHO 108 m1), .ref (108 + 3), .int (nI m1), .int bi1, .int ob1, .int (nI z1)]) rfl (ltN hn (by decide)) (F_h2_108) rfl ?_
  refine WX.s1 (S' := [.int (64 * (nI m1)), .ref r]) rfl rfl ?_
  rw [show (64 * (nI m1)) = nI (64 * m1) from (Int32.ofNat_mul 64 m1).symm]
  refine WX.s1 rfl rfl ?_
  refine WX.s1 rfl rfl ?_
  refine WX.get1 (fs := [.ref 82, .ref 89, .ref 108, .ref 135, .ref 162, .ref 86, .ref 87, .int (nI N), .ref 88]) rfl (ltN hn (by decide)) (F_h2_81) rfl ?_
  refine WX.get1 (fs := [.ref (aBig + 5), .ref (aBig + 6), .int (nI 8), .ref (135 + 1), .ref (135 + 2), .ref (135 + 5), .int (nI vs2.length), .int (nI (colF sy2 wd2 vs2).2.1), .int (nI (colF sy2 wd2 vs2).2.2), .ref (135 + 6), .ref (135 + 13), .ref (135 + 20), .ref (CHO 135 m2), .ref (135 + 3), .int (nI m2), .int bi2, .int ob2, .int (nI z2)]) rfl (ltN hn (by decide)) (F_h2_135) rfl ?_
  refine WX.s1 (S' := [.int (16 * (nI m2)), .int (nI (64 * m1)), .ref r]) rfl rfl ?_
  rw [show (16 * (nI m2)) = nI (16 * m2) from (Int32.ofNat_mul 16 m2).symm]
  refine WX.s1 (S' := [.int ((nI (64 * m1)) + (nI (16 * m2))), .ref r]) rfl rfl ?_
  rw [show ((nI (64 * m1)) + (nI (16 * m2))) = nI (64 * m1 + 16 * m2) from nI_add (64 * m1) (16 * m2)]
  refine WX.s1 rfl rfl ?_
  refine WX.s1 rfl rfl ?_
  refine WX.get1 (fs := [.ref 82, .ref 89, .ref 108, .ref 135, .ref 162, .ref 86, .ref 87, .int (nI N), .ref 88]) rfl (ltN hn (by decide)) (F_h2_81) rfl ?_
  refine WX.get1 (fs := [.ref (aBig + 7), .ref (aBig + 8), .int (nI 9), .ref (162 + 1), .ref (162 + 2), .ref (162 + 5), .int (nI vs3.length), .int (nI (colF sy3 wd3 vs3).2.1), .int (nI (colF sy3 wd3 vs3).2.2), .ref (162 + 6), .ref (162 + 13), .ref (162 + 20), .ref (CHO 162 m3), .ref (162 + 3), .int (nI m3), .int bi3, .int ob3, .int (nI z3)]) rfl (ltN hn (by decide)) (F_h2_162) rfl ?_
  refine WX.s1 (S' := [.int (4 * (nI m3)), .int (nI (64 * m1 + 16 * m2)), .ref r]) rfl rfl ?_
  rw [show (4 * (nI m3)) = nI (4 * m3) from (Int32.ofNat_mul 4 m3).symm]
  refine WX.s1 (S' := [.int ((nI (64 * m1 + 16 * m2)) + (nI (4 * m3))), .ref r]) rfl rfl ?_
  rw [show ((nI (64 * m1 + 16 * m2)) + (nI (4 * m3))) = nI (64 * m1 + 16 * m2 + 4 * m3) from nI_add (64 * m1 + 16 * m2) (4 * m3)]
  refine WX.callC (vs := [.ref r, .int (nI (64 * m1 + 16 * m2 + 4 * m3))]) rfl rfl rfl (Nat.le_of_ble_eq_true rfl) (P_h2_row.rcv (by omega)) ?_
  refine w_putB (by omega) P_h2_row hRN (fun h45 fr45 P_h45_row => ?_)
  have F_h45_81 : h45 81 = .inr (6, [.ref 82, .ref 89, .ref 108, .ref 135, .ref 162, .ref 86, .ref 87, .int (nI N), .ref 88]) := (fr45 _ (by first | decide | omega)).trans F_h2_81
  have F_h45_108 : h45 108 = .inr (1, [.ref (aBig + 3), .ref (aBig + 4), .int (nI 9), .ref (108 + 1), .ref (108 + 2), .ref (108 + 5), .int (nI vs1.length), .int (nI (colF sy1 wd1 vs1).2.1), .int (nI (colF sy1 wd1 vs1).2.2), .ref (108 + 6), .ref (108 + 13), .ref (108 + 20), .ref (CHO 108 m1), .ref (108 + 3), .int (nI m1), .int bi1, .int ob1, .int (nI z1)]) := (fr45 _ (by first | decide | omega)).trans F_h2_108
  have F_h45_135 : h45 135 = .inr (1, [.ref (aBig + 5), .ref (aBig + 6), .int (nI 8), .ref (135 + 1), .ref (135 + 2), .ref (135 + 5), .int (nI vs2.length), .int (nI (colF sy2 wd2 vs2).2.1), .int (nI (colF sy2 wd2 vs2).2.2), .ref (135 + 6), .ref (135 + 13), .ref (135 + 20), .ref (CHO 135 m2), .ref (135 + 3), .int (nI m2), .int bi2, .int ob2, .int (nI z2)]) := (fr45 _ (by first | decide | omega)).trans F_h2_135
  have F_h45_162 : h45 162 = .inr (1, [.ref (aBig + 7), .ref (aBig + 8), .int (nI 9), .ref (162 + 1), .ref (162 + 2), .ref (162 + 5), .int (nI vs3.length), .int (nI (colF sy3 wd3 vs3).2.1), .int (nI (colF sy3 wd3 vs3).2.2), .ref (162 + 6), .ref (162 + 13), .ref (162 + 20), .ref (CHO 162 m3), .ref (162 + 3), .int (nI m3), .int bi3, .int ob3, .int (nI z3)]) := (fr45 _ (by first | decide | omega)).trans F_h2_162
  have P_h45_c1 : KC1 h45 vs1 t1 m1 z1 := P_h2_c1.zfr fr45 (fun x h1 h2 => by omega) (by omega) (by omega)
  have P_h45_c2 : KC2 h45 vs2 t2 m2 z2 := P_h2_c2.zfr fr45 (fun x h1 h2 => by omega) (by omega) (by omega)
  have P_h45_c3 : KC3 h45 vs3 t3 m3 z3 := P_h2_c3.zfr fr45 (fun x h1 h2 => by omega) (by omega) (by omega)
  have FR_h45 : Fr h h45 (fun j => j = 108 ∨ j = 135 ∨ j = 162 ∨ j = r ∨ j = r + 1) := FR_h2.zsub fr45 (fun j hj => by first | exact hj | exact Or.inl hj | exact Or.inr hj | omega)
  show WX _ _ _ 48 [(0, .ref 81), (1, .ref r)] [] (n, s, h45)
  rw [byt_nI, Nat.mod_eq_of_lt (show 64 * m1 + 16 * m2 + 4 * m3 < 256 by omega)] at P_h45_row
  refine WX.s1 rfl rfl ?_
  refine WX.get1 (fs := [.ref 82, .ref 89, .ref 108, .ref 135, .ref 162, .ref 86, .ref 87, .int (nI N), .ref 88]) rfl (ltN hn (by decide)) (F_h45_81) rfl ?_
  refine WX.s1 rfl rfl ?_
  refine WX.callC (vs := [.ref 108, .ref r]) rfl rfl rfl (Nat.le_of_ble_eq_true rfl) (P_h45_c1.rcv (by omega)) ?_
  refine x_putTable (by omega) hnb hv1 (by omega) hRN hN hm1 (fun z => (hT1 z).zfr FR_h45 (by omega) (by omega)) P_h45_c1 P_h45_row (fun h53 fr53 P_h53_row => ?_)
  have F_h53_81 : h53 81 = .inr (6, [.ref 82, .ref 89, .ref 108, .ref 135, .ref 162, .ref 86, .ref 87, .int (nI N), .ref 88]) := (fr53 _ (by first | decide | omega)).trans F_h45_81
  have P_h53_c1 : KC1 h53 vs1 t1 m1 z1 := P_h45_c1.zfr fr53 (fun x h1 h2 => by omega) (by omega) (by omega)
  have P_h53_c2 : KC2 h53 vs2 t2 m2 z2 := P_h45_c2.zfr fr53 (fun x h1 h2 => by omega) (by omega) (by omega)
  have P_h53_c3 : KC3 h53 vs3 t3 m3 z3 := P_h45_c3.zfr fr53 (fun x h1 h2 => by omega) (by omega) (by omega)
  have FR_h53 : Fr h h53 (fun j => j = 108 ∨ j = 135 ∨ j = 162 ∨ j = r ∨ j = r + 1) := FR_h45.zsub fr53 (fun j hj => by first | exact hj | exact Or.inl hj | exact Or.inr hj | omega)
  show WX _ _ _ 56 [(0, .ref 81), (1, .ref r)] [] (n, s, h53)
  refine WX.s1 rfl rfl ?_
  refine WX.get1 (fs := [.ref 82, .ref 89, .ref 108, .ref 135, .ref 162, .ref 86, .ref 87, .int (nI N), .ref 88]) rfl (ltN hn (by decide)) (F_h53_81) rfl ?_
  refine WX.s1 rfl rfl ?_
  refine WX.callC (vs := [.ref 135, .ref r]) rfl rfl rfl (Nat.le_of_ble_eq_true rfl) (P_h53_c2.rcv (by omega)) ?_
  refine x_putTable (by omega) hnb hv2 (by omega) hRN hN hm2 (fun z => (hT2 z).zfr FR_h53 (by omega) (by omega)) P_h53_c2 P_h53_row (fun h61 fr61 P_h61_row => ?_)
  have F_h61_81 : h61 81 = .inr (6, [.ref 82, .ref 89, .ref 108, .ref 135, .ref 162, .ref 86, .ref 87, .int (nI N), .ref 88]) := (fr61 _ (by first | decide | omega)).trans F_h53_81
  have P_h61_c1 : KC1 h61 vs1 t1 m1 z1 := P_h53_c1.zfr fr61 (fun x h1 h2 => by omega) (by omega) (by omega)
  have P_h61_c2 : KC2 h61 vs2 t2 m2 z2 := P_h53_c2.zfr fr61 (fun x h1 h2 => by omega) (by omega) (by omega)
  have P_h61_c3 : KC3 h61 vs3 t3 m3 z3 := P_h53_c3.zfr fr61 (fun x h1 h2 => by omega) (by omega) (by omega)
  have FR_h61 : Fr h h61 (fun j => j = 108 ∨ j = 135 ∨ j = 162 ∨ j = r ∨ j = r + 1) := FR_h53.zsub fr61 (fun j hj => by first | exact hj | exact Or.inl hj | exact Or.inr hj | omega)
  show WX _ _ _ 64 [(0, .ref 81), (1, .ref r)] [] (n, s, h61)
  refine WX.s1 rfl rfl ?_
  refine WX.get1 (fs := [.ref 82, .ref 89, .ref 108, .ref 135, .ref 162, .ref 86, .ref 87, .int (nI N), .ref 88]) rfl (ltN hn (by decide)) (F_h61_81) rfl ?_
  refine WX.s1 rfl rfl ?_
  refine WX.callC (vs := [.ref 162, .ref r]) rfl rfl rfl (Nat.le_of_ble_eq_true rfl) (P_h61_c3.rcv (by omega)) ?_
  refine x_putTable (by omega) hnb hv3 (by omega) hRN hN hm3 (fun z => (hT3 z).zfr FR_h61 (by omega) (by omega)) P_h61_c3 P_h61_row (fun h69 fr69 P_h69_row => ?_)
  have F_h69_81 : h69 81 = .inr (6, [.ref 82, .ref 89, .ref 108, .ref 135, .ref 162, .ref 86, .ref 87, .int (nI N), .ref 88]) := (fr69 _ (by first | decide | omega)).trans F_h61_81
  have P_h69_c1 : KC1 h69 vs1 t1 m1 z1 := P_h61_c1.zfr fr69 (fun x h1 h2 => by omega) (by omega) (by omega)
  have P_h69_c2 : KC2 h69 vs2 t2 m2 z2 := P_h61_c2.zfr fr69 (fun x h1 h2 => by omega) (by omega) (by omega)
  have P_h69_c3 : KC3 h69 vs3 t3 m3 z3 := P_h61_c3.zfr fr69 (fun x h1 h2 => by omega) (by omega) (by omega)
  have FR_h69 : Fr h h69 (fun j => j = 108 ∨ j = 135 ∨ j = 162 ∨ j = r ∨ j = r + 1) := FR_h61.zsub fr69 (fun j hj => by first | exact hj | exact Or.inl hj | exact Or.inr hj | omega)
  show WX _ _ _ 72 [(0, .ref 81), (1, .ref r)] [] (n, s, h69)
  refine WX.s1 rfl rfl ?_
  refine WX.get1 (fs := [.ref 82, .ref 89, .ref 108, .ref 135, .ref 162, .ref 86, .ref 87, .int (nI N), .ref 88]) rfl (ltN hn (by decide)) (F_h69_81) rfl ?_
  refine WX.callC (vs := [.ref 108]) rfl rfl rfl (Nat.le_of_ble_eq_true rfl) (P_h69_c1.rcv (by omega)) ?_
  refine x_beginStates (by omega) hnb hv1 hN hN2 P_h69_c1 (fun h76 fr76 P_h76_c1 => ?_)
  have F_h76_81 : h76 81 = .inr (6, [.ref 82, .ref 89, .ref 108, .ref 135, .ref 162, .ref 86, .ref 87, .int (nI N), .ref 88]) := (fr76 _ (by first | decide | omega)).trans F_h69_81
  have P_h76_c2 : KC2 h76 vs2 t2 m2 z2 := P_h69_c2.zfr fr76 (fun x h1 h2 => by omega) (by omega) (by omega)
  have P_h76_c3 : KC3 h76 vs3 t3 m3 z3 := P_h69_c3.zfr fr76 (fun x h1 h2 => by omega) (by omega) (by omega)
  have P_h76_row : RowIs h76 r RN (bputs RN (bputs RN (bputs RN (bput RN (bputs RN bb (cntY N)) (64 * m1 + 16 * m2 + 4 * m3)) (tbY (vs1.map sy1) 9 m1)) (tbY (vs2.map sy2) 8 m2)) (tbY (vs3.map sy3) 9 m3)) 0 0 := P_h69_row.zfr fr76 (by omega) (by omega)
  have FR_h76 : Fr h h76 (fun j => j = 108 ∨ j = 135 ∨ j = 162 ∨ j = r ∨ j = r + 1) := FR_h69.zsub fr76 (fun j hj => by first | exact hj | exact Or.inl hj | exact Or.inr hj | omega)
  show WX _ _ _ 79 [(0, .ref 81), (1, .ref r)] [] (n, s, h76)
  refine WX.s1 rfl rfl ?_
  refine WX.get1 (fs := [.ref 82, .ref 89, .ref 108, .ref 135, .ref 162, .ref 86, .ref 87, .int (nI N), .ref 88]) rfl (ltN hn (by decide)) (F_h76_81) rfl ?_
  refine WX.callC (vs := [.ref 135]) rfl rfl rfl (Nat.le_of_ble_eq_true rfl) (P_h76_c2.rcv (by omega)) ?_
  refine x_beginStates (by omega) hnb hv2 hN hN2 P_h76_c2 (fun h83 fr83 P_h83_c2 => ?_)
  have F_h83_81 : h83 81 = .inr (6, [.ref 82, .ref 89, .ref 108, .ref 135, .ref 162, .ref 86, .ref 87, .int (nI N), .ref 88]) := (fr83 _ (by first | decide | omega)).trans F_h76_81
  have P_h83_c1 : KC1 h83 vs1 t1 m1 (pF (KL1 vs1 t1) (N - 1)) := P_h76_c1.zfr fr83 (fun x h1 h2 => by omega) (by omega) (by omega)
  have P_h83_c3 : KC3 h83 vs3 t3 m3 z3 := P_h76_c3.zfr fr83 (fun x h1 h2 => by omega) (by omega) (by omega)
  have P_h83_row : RowIs h83 r RN (bputs RN (bputs RN (bputs RN (bput RN (bputs RN bb (cntY N)) (64 * m1 + 16 * m2 + 4 * m3)) (tbY (vs1.map sy1) 9 m1)) (tbY (vs2.map sy2) 8 m2)) (tbY (vs3.map sy3) 9 m3)) 0 0 := P_h76_row.zfr fr83 (by omega) (by omega)
  have FR_h83 : Fr h h83 (fun j => j = 108 ∨ j = 135 ∨ j = 162 ∨ j = r ∨ j = r + 1) := FR_h76.zsub fr83 (fun j hj => by first | exact hj | exact Or.inl hj | exact Or.inr hj | omega)
  show WX _ _ _ 86 [(0, .ref 81), (1, .ref r)] [] (n, s, h83)
  refine WX.s1 rfl rfl ?_
  refine WX.get1 (fs := [.ref 82, .ref 89, .ref 108, .ref 135, .ref 162, .ref 86, .ref 87, .int (nI N), .ref 88]) rfl (ltN hn (by decide)) (F_h83_81) rfl ?_
  refine WX.callC (vs := [.ref 162]) rfl rfl rfl (Nat.le_of_ble_eq_true rfl) (P_h83_c3.rcv (by omega)) ?_
  refine x_beginStates (by omega) hnb hv3 hN hN2 P_h83_c3 (fun h90 fr90 P_h90_c3 => ?_)
  have F_h90_81 : h90 81 = .inr (6, [.ref 82, .ref 89, .ref 108, .ref 135, .ref 162, .ref 86, .ref 87, .int (nI N), .ref 88]) := (fr90 _ (by first | decide | omega)).trans F_h83_81
  have P_h90_c1 : KC1 h90 vs1 t1 m1 (pF (KL1 vs1 t1) (N - 1)) := P_h83_c1.zfr fr90 (fun x h1 h2 => by omega) (by omega) (by omega)
  have P_h90_c2 : KC2 h90 vs2 t2 m2 (pF (KL2 vs2 t2) (N - 1)) := P_h83_c2.zfr fr90 (fun x h1 h2 => by omega) (by omega) (by omega)
  have P_h90_row : RowIs h90 r RN (bputs RN (bputs RN (bputs RN (bput RN (bputs RN bb (cntY N)) (64 * m1 + 16 * m2 + 4 * m3)) (tbY (vs1.map sy1) 9 m1)) (tbY (vs2.map sy2) 8 m2)) (tbY (vs3.map sy3) 9 m3)) 0 0 := P_h83_row.zfr fr90 (by omega) (by omega)
  have FR_h90 : Fr h h90 (fun j => j = 108 ∨ j = 135 ∨ j = 162 ∨ j = r ∨ j = r + 1) := FR_h83.zsub fr90 (fun j hj => by first | exact hj | exact Or.inl hj | exact Or.inr hj | omega)
  show WX _ _ _ 93 [(0, .ref 81), (1, .ref r)] [] (n, s, h90)
  have hRw := RowW.zero P_h90_row
  obtain ⟨XT, hXT⟩ : ∃ x, x = (bputs RN (bputs RN (bputs RN (bput RN (bputs RN bb (cntY N)) (64 * m1 + 16 * m2 + 4 * m3)) (tbY (vs1.map sy1) 9 m1)) (tbY (vs2.map sy2) 8 m2)) (tbY (vs3.map sy3) 9 m3)) := ⟨_, rfl⟩
  rw [← hXT] at hRw
  clear P_h90_row
  have P_h90_row := hRw
  clear hRw
  refine WX.s1 rfl rfl ?_
  refine WX.s1 rfl rfl ?_
  refine WX.s1 rfl rfl ?_
  refine WX.get1 (fs := [.ref 82, .ref 89, .ref 108, .ref 135, .ref 162, .ref 86, .ref 87, .int (nI N), .ref 88]) rfl (ltN hn (by decide)) (F_h90_81) rfl ?_
  refine WX.s1 rfl rfl ?_
  refine WX.s1 (S' := [.int ((nI N) - 1), .ref r, .ref 81]) rfl rfl ?_
  rw [nI_pm1 (by omega)]
  refine WX.callC (vs := [.ref 81, .ref r, .int (nI (N - 1))]) rfl rfl rfl (Nat.le_of_ble_eq_true rfl) (rcv_ok (ltN hn (by decide)) F_h90_81) ?_
  refine x_putAddAll hn hnb hr hRN hv1 hv2 hv3 hN2 (by omega) F_h90_81 P_h90_c1 P_h90_c2 P_h90_c3 P_h90_row (fun h101 fr101 P_h101_row => ?_)
  have F_h101_81 : h101 81 = .inr (6, [.ref 82, .ref 89, .ref 108, .ref 135, .ref 162, .ref 86, .ref 87, .int (nI N), .ref 88]) := (fr101 _ (by first | decide | omega)).trans F_h90_81
  have P_h101_c1 : KC1 h101 vs1 t1 m1 (pF (KL1 vs1 t1) (N - 1)) := P_h90_c1.zfr fr101 (fun x h1 h2 => by omega) (by omega) (by omega)
  have P_h101_c2 : KC2 h101 vs2 t2 m2 (pF (KL2 vs2 t2) (N - 1)) := P_h90_c2.zfr fr101 (fun x h1 h2 => by omega) (by omega) (by omega)
  have P_h101_c3 : KC3 h101 vs3 t3 m3 (pF (KL3 vs3 t3) (N - 1)) := P_h90_c3.zfr fr101 (fun x h1 h2 => by omega) (by omega) (by omega)
  have FR_h101 : Fr h h101 (fun j => j = 108 ∨ j = 135 ∨ j = 162 ∨ j = r ∨ j = r + 1) := FR_h90.zsub fr101 (fun j hj => by first | exact hj | exact Or.inl hj | exact Or.inr hj | omega)
  show WX _ _ _ 104 [(0, .ref 81), (1, .ref r)] [] (n, s, h101)
  refine WX.s1 rfl rfl ?_
  refine WX.get1 (fs := [.ref 82, .ref 89, .ref 108, .ref 135, .ref 162, .ref 86, .ref 87, .int (nI N), .ref 88]) rfl (ltN hn (by decide)) (F_h101_81) rfl ?_
  refine WX.s1 rfl rfl ?_
  refine WX.s1 (S' := [.int ((nI N) - 2)]) rfl rfl ?_
  rw [nI_m2 hN]
  refine WX.s1 (L' := [(0, .ref 81), (1, .ref r), (2, .int (qI (N - 1)))]) rfl rfl ?_
  have lp : ∀ (z : Nat) (b : Nat × Nat) (hL : Nat → aE), z < N → seE (KL1 vs1 t1) (KL2 vs2 t2) (KL3 vs3 t3) (seL (KL1 vs1 t1) (KL2 vs2 t2) (KL3 vs3 t3) z b) = seqB (KL1 vs1 t1) (KL2 vs2 t2) (KL3 vs3 t3) N → Fr h hL (fun j => j = 108 ∨ j = 135 ∨ j = 162 ∨ j = r ∨ j = r + 1) → hL 81 = .inr (6, [.ref 82, .ref 89, .ref 108, .ref 135, .ref 162, .ref 86, .ref 87, .int (nI N), .ref 88]) → KC1 hL vs1 t1 m1 (pF (KL1 vs1 t1) z) → KC2 hL vs2 t2 m2 (pF (KL2 vs2 t2) z) → KC3 hL vs3 t3 m3 (pF (KL3 vs3 t3) z) → RowW hL r RN XT b.1 b.2 → WX (lk tX6_putSequences) (mM (d + 3)) Ψ 111 [(0, .ref 81), (1, .ref r), (2, .int (qI z))] [] (n, s, hL) := by
    clear FR_h101 F_h101_81 P_h101_c1 P_h101_c2 P_h101_c3 P_h101_row
    intro z
    induction z with
    | zero =>
      intro b hL hz hE FR_hL F_hL_81 P_hL_c1 P_hL_c2 P_hL_c3 P_hL_row
      rw [qI0]
      have e1 := (pf_row o1 (show 0 < N by omega)).2
      have e2 := (pf_row o2 (show 0 < N by omega)).2
      have e3 := (pf_row o3 (show 0 < N by omega)).2
      refine WX.s1 rfl rfl ?_
      refine WX.if_ rfl (fun c_112 => ?_) (fun c_112 => absurd (by decide) c_112)
      refine WX.s1 rfl rfl ?_
      refine WX.get1 (fs := [.ref 82, .ref 89, .ref 108, .ref 135, .ref 162, .ref 86, .ref 87, .int (nI N), .ref 88]) rfl (ltN hn (by decide)) (F_hL_81) rfl ?_
      refine WX.s1 rfl rfl ?_
      refine WX.callC (vs := [.ref 162, .ref r]) rfl rfl rfl (Nat.le_of_ble_eq_true rfl) (P_hL_c3.rcv (by omega)) ?_
      refine x_endStates (by omega) hnb hv3 (by omega) hRN e3 P_hL_c3 P_hL_row (fun h159 fr159 P_h159_row => ?_)
      have F_h159_81 : h159 81 = .inr (6, [.ref 82, .ref 89, .ref 108, .ref 135, .ref 162, .ref 86, .ref 87, .int (nI N), .ref 88]) := (fr159 _ (by first | decide | omega)).trans F_hL_81
      have P_h159_c1 : KC1 h159 vs1 t1 m1 (pF (KL1 vs1 t1) 0) := P_hL_c1.zfr fr159 (fun x h1 h2 => by omega) (by omega) (by omega)
      have P_h159_c2 : KC2 h159 vs2 t2 m2 (pF (KL2 vs2 t2) 0) := P_hL_c2.zfr fr159 (fun x h1 h2 => by omega) (by omega) (by omega)
      have P_h159_c3 : KC3 h159 vs3 t3 m3 (pF (KL3 vs3 t3) 0) := P_hL_c3.zfr fr159 (fun x h1 h2 => by omega) (by omega) (by omega)
      have FR_h159 : Fr h h159 (fun j => j = 108 ∨ j = 135 ∨ j = 162 ∨ j = r ∨ j = r + 1) := FR_hL.zsub fr159 (fun j hj => by first | exact hj | exact Or.inl hj | exact Or.inr hj | omega)
      show WX _ _ _ 162 [(0, .ref 81), (1, .ref r), (2, .int (-1))] [] (n, s, h159)
      refine WX.s1 rfl rfl ?_
      refine WX.get1 (fs := [.ref 82, .ref 89, .ref 108, .ref 135, .ref 162, .ref 86, .ref 87, .int (nI N), .ref 88]) rfl (ltN hn (by decide)) (F_h159_81) rfl ?_
      refine WX.s1 rfl rfl ?_
      refine WX.callC (vs := [.ref 135, .ref r]) rfl rfl rfl (Nat.le_of_ble_eq_true rfl) (P_h159_c2.rcv (by omega)) ?_
      refine x_endStates (by omega) hnb hv2 (by omega) hRN e2 P_h159_c2 P_h159_row (fun h167 fr167 P_h167_row => ?_)
      have F_h167_81 : h167 81 = .inr (6, [.ref 82, .ref 89, .ref 108, .ref 135, .ref 162, .ref 86, .ref 87, .int (nI N), .ref 88]) := (fr167 _ (by first | decide | omega)).trans F_h159_81
      have P_h167_c1 : KC1 h167 vs1 t1 m1 (pF (KL1 vs1 t1) 0) := P_h159_c1.zfr fr167 (fun x h1 h2 => by omega) (by omega) (by omega)
      have P_h167_c2 : KC2 h167 vs2 t2 m2 (pF (KL2 vs2 t2) 0) := P_h159_c2.zfr fr167 (fun x h1 h2 => by omega) (by omega) (by omega)
      have P_h167_c3 : KC3 h167 vs3 t3 m3 (pF (KL3 vs3 t3) 0) := P_h159_c3.zfr fr167 (fun x h1 h2 => by omega) (by omega) (by omega)
      have FR_h167 : Fr h h167 (fun j => j = 108 ∨ j = 135 ∨ j = 162 ∨ j = r ∨ j = r + 1) := FR_h159.zsub fr167 (fun j hj => by first | exact hj | exact Or.inl hj | exact Or.inr hj | omega)
      show WX _ _ _ 170 [(0, .ref 81), (1, .ref r), (2, .int (-1))] [] (n, s, h167)
      refine WX.s1 rfl rfl ?_
      refine WX.get1 (fs := [.ref 82, .ref 89, .ref 108, .ref 135, .ref 162, .ref 86, .ref 87, .int (nI N), .ref 88]) rfl (ltN hn (by decide)) (F_h167_81) rfl ?_
      refine WX.s1 rfl rfl ?_
      refine WX.callC (vs := [.ref 108, .ref r]) rfl rfl rfl (Nat.le_of_ble_eq_true rfl) (P_h167_c1.rcv (by omega)) ?_
      refine x_endStates (by omega) hnb hv1 (by omega) hRN e1 P_h167_c1 P_h167_row (fun h175 fr175 P_h175_row => ?_)
      have F_h175_81 : h175 81 = .inr (6, [.ref 82, .ref 89, .ref 108, .ref 135, .ref 162, .ref 86, .ref 87, .int (nI N), .ref 88]) := (fr175 _ (by first | decide | omega)).trans F_h167_81
      have P_h175_c1 : KC1 h175 vs1 t1 m1 (pF (KL1 vs1 t1) 0) := P_h167_c1.zfr fr175 (fun x h1 h2 => by omega) (by omega) (by omega)
      have P_h175_c2 : KC2 h175 vs2 t2 m2 (pF (KL2 vs2 t2) 0) := P_h167_c2.zfr fr175 (fun x h1 h2 => by omega) (by omega) (by omega)
      have P_h175_c3 : KC3 h175 vs3 t3 m3 (pF (KL3 vs3 t3) 0) := P_h167_c3.zfr fr175 (fun x h1 h2 => by omega) (by omega) (by omega)
      have FR_h175 : Fr h h175 (fun j => j = 108 ∨ j = 135 ∨ j = 162 ∨ j = r ∨ j = r + 1) := FR_h167.zsub fr175 (fun j hj => by first | exact hj | exact Or.inl hj | exact Or.inr hj | omega)
      show WX _ _ _ 178 [(0, .ref 81), (1, .ref r), (2, .int (-1))] [] (n, s, h175)
      refine WX.s1 rfl rfl ?_
      refine WX.callC (vs := [.ref r]) rfl rfl rfl (Nat.le_of_ble_eq_true rfl) (P_h175_row.2.rcv (by omega)) ?_
      refine w_endW (by omega) hRN P_h175_row (fun h179 fr179 P_h179_row => ?_)
      have F_h179_81 : h179 81 = .inr (6, [.ref 82, .ref 89, .ref 108, .ref 135, .ref 162, .ref 86, .ref 87, .int (nI N), .ref 88]) := (fr179 _ (by first | decide | omega)).trans F_h175_81
      have P_h179_c1 : KC1 h179 vs1 t1 m1 (pF (KL1 vs1 t1) 0) := P_h175_c1.zfr fr179 (fun x h1 h2 => by omega) (by omega) (by omega)
      have P_h179_c2 : KC2 h179 vs2 t2 m2 (pF (KL2 vs2 t2) 0) := P_h175_c2.zfr fr179 (fun x h1 h2 => by omega) (by omega) (by omega)
      have P_h179_c3 : KC3 h179 vs3 t3 m3 (pF (KL3 vs3 t3) 0) := P_h175_c3.zfr fr179 (fun x h1 h2 => by omega) (by omega) (by omega)
      have FR_h179 : Fr h h179 (fun j => j = 108 ∨ j = 135 ∨ j = 162 ∨ j = r ∨ j = r + 1) := FR_h175.zsub fr179 (fun j hj => by first | exact hj | exact Or.inl hj | exact Or.inr hj | omega)
      show WX _ _ _ 182 [(0, .ref 81), (1, .ref r), (2, .int (-1))] [] (n, s, h179)
      have hQ : (addB (addB (addB b (pF (KL3 vs3 t3) 0) t3.1) (pF (KL2 vs2 t2) 0) t2.1) (pF (KL1 vs1 t1) 0) t1.1) = seqB (KL1 vs1 t1) (KL2 vs2 t2) (KL3 vs3 t3) N := hE
      rw [hQ] at P_h179_row
      exact WX.ret0 rfl (kk h179 FR_h179 (by
        rw [hXT] at P_h179_row
        unfold sqY
        rw [bputs_app, bputs_app, bputs_app, bputs_app, bputs_app]
        exact P_h179_row) ⟨_, P_h179_c1⟩ ⟨_, P_h179_c2⟩ ⟨_, P_h179_c3⟩)
    | succ z ih =>
      intro b hL hz hE FR_hL F_hL_81 P_hL_c1 P_hL_c2 P_hL_c3 P_hL_row
      rw [qIs]
      refine WX.s1 rfl rfl ?_
      refine WX.if_ rfl (fun c_112 => absurd c_112 (fun zz_ => absurd ((nI_ltI (a := z) (b := 0) (by omega) (by omega)).mp zz_) (Nat.not_lt.mpr (by omega)))) (fun c_112 => ?_)
      clear c_112
      refine WX.s1 rfl rfl ?_
      refine WX.get1 (fs := [.ref 82, .ref 89, .ref 108, .ref 135, .ref 162, .ref 86, .ref 87, .int (nI N), .ref 88]) rfl (ltN hn (by decide)) (F_hL_81) rfl ?_
      refine WX.s1 rfl rfl ?_
      refine WX.s1 rfl rfl ?_
      refine WX.callC (vs := [.ref 135, .ref r, .int (nI z)]) rfl rfl rfl (Nat.le_of_ble_eq_true rfl) (P_hL_c2.rcv (by omega)) ?_
      refine x_putState (by omega) hnb hv2 (by omega) hRN hz hN2 P_hL_c2 P_hL_row (fun h121 fr121 P_h121_c2 P_h121_row => ?_)
      have F_h121_81 : h121 81 = .inr (6, [.ref 82, .ref 89, .ref 108, .ref 135, .ref 162, .ref 86, .ref 87, .int (nI N), .ref 88]) := (fr121 _ (by first | decide | omega)).trans F_hL_81
      have P_h121_c1 : KC1 h121 vs1 t1 m1 (pF (KL1 vs1 t1) (z + 1)) := P_hL_c1.zfr fr121 (fun x h1 h2 => by omega) (by omega) (by omega)
      have P_h121_c3 : KC3 h121 vs3 t3 m3 (pF (KL3 vs3 t3) (z + 1)) := P_hL_c3.zfr fr121 (fun x h1 h2 => by omega) (by omega) (by omega)
      have FR_h121 : Fr h h121 (fun j => j = 108 ∨ j = 135 ∨ j = 162 ∨ j = r ∨ j = r + 1) := FR_hL.zsub fr121 (fun j hj => by first | exact hj | exact Or.inl hj | exact Or.inr hj | omega)
      show WX _ _ _ 124 [(0, .ref 81), (1, .ref r), (2, .int (nI z))] [] (n, s, h121)
      refine WX.s1 rfl rfl ?_
      refine WX.get1 (fs := [.ref 82, .ref 89, .ref 108, .ref 135, .ref 162, .ref 86, .ref 87, .int (nI N), .ref 88]) rfl (ltN hn (by decide)) (F_h121_81) rfl ?_
      refine WX.s1 rfl rfl ?_
      refine WX.s1 rfl rfl ?_
      refine WX.callC (vs := [.ref 162, .ref r, .int (nI z)]) rfl rfl rfl (Nat.le_of_ble_eq_true rfl) (P_h121_c3.rcv (by omega)) ?_
      refine x_putState (by omega) hnb hv3 (by omega) hRN hz hN2 P_h121_c3 P_h121_row (fun h130 fr130 P_h130_c3 P_h130_row => ?_)
      have F_h130_81 : h130 81 = .inr (6, [.ref 82, .ref 89, .ref 108, .ref 135, .ref 162, .ref 86, .ref 87, .int (nI N), .ref 88]) := (fr130 _ (by first | decide | omega)).trans F_h121_81
      have P_h130_c1 : KC1 h130 vs1 t1 m1 (pF (KL1 vs1 t1) (z + 1)) := P_h121_c1.zfr fr130 (fun x h1 h2 => by omega) (by omega) (by omega)
      have P_h130_c2 : KC2 h130 vs2 t2 m2 (pF (KL2 vs2 t2) z) := P_h121_c2.zfr fr130 (fun x h1 h2 => by omega) (by omega) (by omega)
      have FR_h130 : Fr h h130 (fun j => j = 108 ∨ j = 135 ∨ j = 162 ∨ j = r ∨ j = r + 1) := FR_h121.zsub fr130 (fun j hj => by first | exact hj | exact Or.inl hj | exact Or.inr hj | omega)
      show WX _ _ _ 133 [(0, .ref 81), (1, .ref r), (2, .int (nI z))] [] (n, s, h130)
      refine WX.s1 rfl rfl ?_
      refine WX.get1 (fs := [.ref 82, .ref 89, .ref 108, .ref 135, .ref 162, .ref 86, .ref 87, .int (nI N), .ref 88]) rfl (ltN hn (by decide)) (F_h130_81) rfl ?_
      refine WX.s1 rfl rfl ?_
      refine WX.s1 rfl rfl ?_
      refine WX.callC (vs := [.ref 108, .ref r, .int (nI z)]) rfl rfl rfl (Nat.le_of_ble_eq_true rfl) (P_h130_c1.rcv (by omega)) ?_
      refine x_putState (by omega) hnb hv1 (by omega) hRN hz hN2 P_h130_c1 P_h130_row (fun h139 fr139 P_h139_c1 P_h139_row => ?_)
      have F_h139_81 : h139 81 = .inr (6, [.ref 82, .ref 89, .ref 108, .ref 135, .ref 162, .ref 86, .ref 87, .int (nI N), .ref 88]) := (fr139 _ (by first | decide | omega)).trans F_h130_81
      have P_h139_c2 : KC2 h139 vs2 t2 m2 (pF (KL2 vs2 t2) z) := P_h130_c2.zfr fr139 (fun x h1 h2 => by omega) (by omega) (by omega)
      have P_h139_c3 : KC3 h139 vs3 t3 m3 (pF (KL3 vs3 t3) z) := P_h130_c3.zfr fr139 (fun x h1 h2 => by omega) (by omega) (by omega)
      have FR_h139 : Fr h h139 (fun j => j = 108 ∨ j = 135 ∨ j = 162 ∨ j = r ∨ j = r + 1) := FR_h130.zsub fr139 (fun j hj => by first | exact hj | exact Or.inl hj | exact Or.inr hj | omega)
      show WX _ _ _ 142 [(0, .ref 81), (1, .ref r), (2, .int (nI z))] [] (n, s, h139)
      refine WX.s1 rfl rfl ?_
      refine WX.s1 rfl rfl ?_
      refine WX.s1 rfl rfl ?_
      refine WX.callC (vs := [.ref 81, .ref r, .int (nI z)]) rfl rfl rfl (Nat.le_of_ble_eq_true rfl) (rcv_ok (ltN hn (by decide)) F_h139_81) ?_
      refine x_putAddAll hn hnb hr hRN hv1 hv2 hv3 hN2 (by omega) F_h139_81 P_h139_c1 P_h139_c2 P_h139_c3 P_h139_row (fun h145 fr145 P_h145_row => ?_)
      have F_h145_81 : h145 81 = .inr (6, [.ref 82, .ref 89, .ref 108, .ref 135, .ref 162, .ref 86, .ref 87, .int (nI N), .ref 88]) := (fr145 _ (by first | decide | omega)).trans F_h139_81
      have P_h145_c1 : KC1 h145 vs1 t1 m1 (pF (KL1 vs1 t1) z) := P_h139_c1.zfr fr145 (fun x h1 h2 => by omega) (by omega) (by omega)
      have P_h145_c2 : KC2 h145 vs2 t2 m2 (pF (KL2 vs2 t2) z) := P_h139_c2.zfr fr145 (fun x h1 h2 => by omega) (by omega) (by omega)
      have P_h145_c3 : KC3 h145 vs3 t3 m3 (pF (KL3 vs3 t3) z) := P_h139_c3.zfr fr145 (fun x h1 h2 => by omega) (by omega) (by omega)
      have FR_h145 : Fr h h145 (fun j => j = 108 ∨ j = 135 ∨ j = 162 ∨ j = r ∨ j = r + 1) := FR_h139.zsub fr145 (fun j hj => by first | exact hj | exact Or.inl hj | exact Or.inr hj | omega)
      show WX _ _ _ 148 [(0, .ref 81), (1, .ref r), (2, .int (nI z))] [] (n, s, h145)
      refine WX.s1 (L' := [(0, .ref 81), (1, .ref r), (2, .int ((nI z) + (-1)))]) rfl rfl ?_
      rw [show (nI z) + (-1) = qI z from qI_dec z]
      refine WX.s1 rfl rfl ?_
      exact ih (seS (KL1 vs1 t1) (KL2 vs2 t2) (KL3 vs3 t3) z b) h145 (by omega) hE FR_h145 F_h145_81 P_h145_c1 P_h145_c2 P_h145_c3 P_h145_row
  exact lp (N - 1) (adB (KL1 vs1 t1) (KL2 vs2 t2) (KL3 vs3 t3) (N - 1) (0, 0)) h101 (by omega) rfl FR_h101 F_h101_81 P_h101_c1 P_h101_c2 P_h101_c3 P_h101_row
set_option maxRecDepth 20000 in
theorem x_seqB0 {d n s : Nat} {h : Nat → aE} {bits : Int32} (hn : 190 ≤ n)  (F_h_81 : h 81 = .inr (6, [.ref 82, .ref 89, .ref 108, .ref 135, .ref 162, .ref 86, .ref 87, .int (nI 0), .ref 88]))  {Ψ : Option Value → aH → Prop} (kk : Ψ (some (.int 1)) (n, s, h)) : WO (mM (d + 2)) 76 [.ref 81, .int bits] (n, s, h) Ψ := by
  refine WO.of (Nat.le_of_ble_eq_true rfl) ?_
  have FR_h : Fr h h (fun j => False) := Fr.rf
  show WX (lk tX6_sequenceBytes) (mM (d + 1)) Ψ 0 [(0, .ref 81), (1, .int bits)] [] (n, s, h)
  refine WX.s1 rfl rfl ?_
  refine WX.get1 (fs := [.ref 82, .ref 89, .ref 108, .ref 135, .ref 162, .ref 86, .ref 87, .int (nI 0), .ref 88]) rfl (ltN hn (by decide)) (F_h_81) rfl ?_
  refine WX.if_ rfl (fun c_4 => absurd c_4 (by decide)) (fun c_4 => ?_)
  refine WX.s1 rfl rfl ?_
  refine WX.s1 rfl rfl ?_
  exact WX.ret1 rfl kk
set_option maxRecDepth 20000 in
theorem x_seqB {d n s : Nat} {h : Nat → aE} {bits z1 z2 z3 : Nat} {vs1 vs2 vs3 : List Nat} {t1 t2 t3 : Tb} {m1 m2 m3 : Nat} {N : Nat} (hn : 190 ≤ n) (hnb : n < aBig) (hv1 : KV1 vs1 t1 N) (hv2 : KV2 vs2 t2 N) (hv3 : KV3 vs3 t3 N) (hN2 : N ≤ 2667) (hN : 1 ≤ N) (hm1 : m1 ≤ 3) (hm2 : m2 ≤ 3) (hm3 : m3 ≤ 3) (hT1 : m1 = 2 → RowIs h 111 128 (some (tbY ((vs1).map sy1) 9 2)) 0 0) (hT2 : m2 = 2 → RowIs h 138 128 (some (tbY ((vs2).map sy2) 8 2)) 0 0) (hT3 : m3 = 2 → RowIs h 165 128 (some (tbY ((vs3).map sy3) 9 2)) 0 0) (hb : bits < 2 ^ 30) (hbt : 8 * ((tbY ((vs1).map sy1) 9 m1).length + (tbY ((vs2).map sy2) 8 m2).length + (tbY ((vs3).map sy3) 9 m3).length) ≤ bits) (F_h_81 : h 81 = .inr (6, [.ref 82, .ref 89, .ref 108, .ref 135, .ref 162, .ref 86, .ref 87, .int (nI N), .ref 88])) (P_h_c1 : KC1 h vs1 t1 m1 z1) (P_h_c2 : KC2 h vs2 t2 m2 z2) (P_h_c3 : KC3 h vs3 t3 m3 z3) {Ψ : Option Value → aH → Prop} (kk : Ψ (some (.int (nI ((cntY N).length + 1 + ((tbY ((vs1).map sy1) 9 m1).length + (tbY ((vs2).map sy2) 8 m2).length + (tbY ((vs3).map sy3) 9 m3).length) + ((bits - 8 * ((tbY ((vs1).map sy1) 9 m1).length + (tbY ((vs2).map sy2) 8 m2).length + (tbY ((vs3).map sy3) 9 m3).length)) / 8 + 1))))) (n, s, h)) : WO (mM (d + 2)) 76 [.ref 81, .int (nI bits)] (n, s, h) Ψ := by
  refine WO.of (Nat.le_of_ble_eq_true rfl) ?_
  have FR_h : Fr h h (fun j => False) := Fr.rf
  have hBg : aBig = 1000000 := rfl
  show WX (lk tX6_sequenceBytes) (mM (d + 1)) Ψ 0 [(0, .ref 81), (1, .int (nI bits))] [] (n, s, h)
  refine WX.s1 rfl rfl ?_
  refine WX.get1 (fs := [.ref 82, .ref 89, .ref 108, .ref 135, .ref 162, .ref 86, .ref 87, .int (nI N), .ref 88]) rfl (ltN hn (by decide)) (F_h_81) rfl ?_
  refine WX.if_ rfl (fun c_4 => ?_) (fun c_4 => absurd (fun z => absurd ((nI_eq (a := N) (b := 0) (by omega) (by decide)).mp z) (by omega)) c_4)
  refine WX.s1 rfl rfl ?_
  refine WX.callC (vs := [.ref 81]) rfl rfl rfl (Nat.le_of_ble_eq_true rfl) (rcv_ok (ltN hn (by decide)) F_h_81) ?_
  refine x_cntB hn hN2 F_h_81 ?_
  show WX _ _ _ 15 [(0, .ref 81), (1, .int (nI bits))] [.int (nI (cntY N).length)] (n, s, h)
  refine WX.s1 rfl rfl ?_
  refine WX.s1 (S' := [.int ((nI (cntY N).length) + 1)]) rfl rfl ?_
  rw [show ((nI (cntY N).length) + 1) = nI ((cntY N).length + 1) from nI_add ((cntY N).length) 1]
  refine WX.s1 rfl rfl ?_
  refine WX.s1 rfl rfl ?_
  refine WX.div rfl (by decide) ?_
  rw [show nI bits / 8 = nI (bits / 8) from pk_div (by omega) (by decide) (by decide)]
  refine WX.s1 (S' := [.int ((nI ((cntY N).length + 1)) + (nI (bits / 8)))]) rfl rfl ?_
  rw [show ((nI ((cntY N).length + 1)) + (nI (bits / 8))) = nI ((cntY N).length + 1 + bits / 8) from nI_add ((cntY N).length + 1) (bits / 8)]
  refine WX.s1 rfl rfl ?_
  refine WX.s1 (S' := [.int ((nI ((cntY N).length + 1 + bits / 8)) + 1)]) rfl rfl ?_
  rw [show ((nI ((cntY N).length + 1 + bits / 8)) + 1) = nI ((cntY N).length + 1 + bits / 8 + 1) from nI_add ((cntY N).length + 1 + bits / 8) 1]
  rw [show (cntY N).length + 1 + ((tbY ((vs1).map sy1) 9 m1).length + (tbY ((vs2).map sy2) 8 m2).length + (tbY ((vs3).map sy3) 9 m3).length) + ((bits - 8 * ((tbY ((vs1).map sy1) 9 m1).length + (tbY ((vs2).map sy2) 8 m2).length + (tbY ((vs3).map sy3) 9 m3).length)) / 8 + 1) = (cntY N).length + 1 + bits / 8 + 1 by omega] at kk
  exact WX.ret1 rfl kk
