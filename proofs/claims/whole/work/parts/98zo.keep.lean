/-! literals and columns: what is kept, with what they begin -/
theorem lc1_le {ls : List Nat} : (lc1 ls).2.1 ≤ hpF ls.length + ls.length := by
  unfold lc1
  split
  · rename_i q
    exact Nat.le_of_lt q.2
  · exact Nat.le_refl _
theorem lc3_le {tC : Option Le} {ls : List Nat} (b : LC) : (lc3 tC ls b).2.1 ≤ b.2.1 := by
  rcases lc3_cs (tC := tC) (ls := ls) b with e | ⟨t, -, -, -, h, e⟩
  · rw [e]; exact Nat.le_refl _
  · rw [e]; exact Nat.le_of_lt h
theorem dsY_2 {L : Nat → Nat} {t : Nat} {y : List Nat} (hk : 1 ≤ lsF L 255) (e : dsY (wtL L t) = some y) : 2 ≤ y.length := by
  have hwl := wtL_len L t
  unfold dsY at e
  split at e
  · have e2 := Option.some.inj e
    rw [← e2, dirY_len]
    omega
  · split at e
    · exact absurd e (by simp)
    · rename_i q1 q2
      have e2 := Option.some.inj e
      rw [← e2]
      have hb : bsN (wtL L t) ≠ 0 := q2
      have hb2 := hb
      unfold bsN at hb
      split at hb
      · show 2 ≤ (bsY (wtL L t)).length + 1
        omega
      · exact absurd rfl hb
/-- so few literals take no codes of their own -/
theorem litF_few {tC : Option Le} {ls : List Nat} (h : LsOk ls) (hf : ls.length ≤ 5) : litF tC ls = lc3 tC ls (lc1 ls) := by
  unfold litF
  split
  · rename_i q
    have h0 : ls ≠ [] := fun z => by rw [z] at q; exact absurd q.1 (by decide)
    obtain ⟨-, -, hk⟩ := len_cL h (two_alk h h0 q.2)
    cases e : dsY (wtL (dF (cL ls)) (topF (cL ls))) with
    | none => rfl
    | some y =>
      have hy := dsY_2 hk e
      show lcS _ 2 (y.length + tob (dF (cL ls)) ls) ls.length = _
      rcases lcS_cs (lc3 tC ls (lc1 ls)) 2 (y.length + tob (dF (cL ls)) ls) ls.length with ⟨z, -⟩ | ⟨-, z⟩
      · have a := lc3_le (tC := tC) (ls := ls) (lc1 ls)
        have b := lc1_le (ls := ls)
        have c1 : hpF ls.length = 1 := if_pos (by omega)
        have c2 := z.2
        rw [hb_ch (show ls.length < 1024 by omega)] at c2
        have c3 : 1 ≤ tob (dF (cL ls)) ls := by
          unfold tob
          rw [if_pos (by omega)]
          show 1 ≤ _ / 8 + 1
          omega
        omega
      · exact z
  · rfl
set_option maxRecDepth 20000 in
theorem x_lKeep2 {d n s : Nat} {h : Nat → aE} {u_ by_ sh be : Int32} {L : Nat → Nat} {t : Nat} (hn : 190 ≤ n) (X : CoX h 92) (T : CoT h 96 L t) (F_h_89 : h 89 = .inr (5, [.ref 90, .ref 91, .int u_, .ref 92, .ref 96, .ref 100, .ref 67, .ref 106, .int (nI 2), .int by_, .int sh, .int be]))  {Ψ : Option Value → aH → Prop} (kk : ∀ h', Fr h h' (fun j => 92 ≤ j ∧ j ≤ 95) → CoH h' 92 (some (L, t)) → Ψ none (n, s, h')) : WO (mM (d + 2)) 67 [.ref 89] (n, s, h) Ψ := by
  refine WO.of (Nat.le_of_ble_eq_true rfl) ?_
  have FR_h : Fr h h (fun j => 92 ≤ j ∧ j ≤ 95) := Fr.rf
  show WX (lk tX5_keep) (mM (d + 1)) Ψ 0 [(0, .ref 89)] [] (n, s, h)
  refine WX.s1 rfl rfl ?_
  refine WX.get1 (fs := [.ref 90, .ref 91, .int u_, .ref 92, .ref 96, .ref 100, .ref 67, .ref 106, .int (nI 2), .int by_, .int sh, .int be]) rfl (by omega) (F_h_89) rfl ?_
  refine WX.s1 rfl rfl ?_
  refine WX.icmp rfl (fun c_5 => absurd c_5 (by decide)) (fun c_5 => ?_)
  refine WX.s1 rfl rfl ?_
  refine WX.get1 (fs := [.ref 90, .ref 91, .int u_, .ref 92, .ref 96, .ref 100, .ref 67, .ref 106, .int (nI 2), .int by_, .int sh, .int be]) rfl (by omega) (F_h_89) rfl ?_
  refine WX.s1 rfl rfl ?_
  refine WX.get1 (fs := [.ref 90, .ref 91, .int u_, .ref 92, .ref 96, .ref 100, .ref 67, .ref 106, .int (nI 2), .int by_, .int sh, .int be]) rfl (by omega) (F_h_89) rfl ?_
  refine WX.callC (vs := [.ref 92, .ref 96]) rfl rfl rfl (Nat.le_of_ble_eq_true rfl) (X.rcv (by omega)) ?_
  refine xt_cbec (k := 92) (q := 96) (t := some (L, t)) (by omega) (by omega) (by omega) X T (fun h16 fr16 P9 => ?_)
  have F_h16_89 : h16 89 = .inr (5, [.ref 90, .ref 91, .int u_, .ref 92, .ref 96, .ref 100, .ref 67, .ref 106, .int (nI 2), .int by_, .int sh, .int be]) := (fr16 _ (by first | decide | omega)).trans F_h_89
  have FR_h16 : Fr h h16 (fun j => 92 ≤ j ∧ j ≤ 95) := FR_h.zsub fr16 (fun j hj => by first | exact hj | exact Or.inl hj | exact Or.inr hj | omega)
  show WX _ _ _ 19 [(0, .ref 89)] [] (n, s, h16)
  exact WX.ret0 rfl (kk h16 FR_h16 P9)
set_option maxRecDepth 20000 in
theorem x_lKeepN {d n s : Nat} {h : Nat → aE} {u_ by_ sh be : Int32} {k : Nat} (hn : 190 ≤ n) (hk : k ≠ 2) (hk3 : k ≤ 3) (F_h_89 : h 89 = .inr (5, [.ref 90, .ref 91, .int u_, .ref 92, .ref 96, .ref 100, .ref 67, .ref 106, .int (nI k), .int by_, .int sh, .int be]))  {Ψ : Option Value → aH → Prop} (kk : Ψ none (n, s, h)) : WO (mM (d + 2)) 67 [.ref 89] (n, s, h) Ψ := by
  refine WO.of (Nat.le_of_ble_eq_true rfl) ?_
  have FR_h : Fr h h (fun j => 92 ≤ j ∧ j ≤ 95) := Fr.rf
  show WX (lk tX5_keep) (mM (d + 1)) Ψ 0 [(0, .ref 89)] [] (n, s, h)
  refine WX.s1 rfl rfl ?_
  refine WX.get1 (fs := [.ref 90, .ref 91, .int u_, .ref 92, .ref 96, .ref 100, .ref 67, .ref 106, .int (nI k), .int by_, .int sh, .int be]) rfl (by omega) (F_h_89) rfl ?_
  refine WX.s1 rfl rfl ?_
  refine WX.icmp rfl (fun c_5 => ?_) (fun c_5 => absurd (fun z => hk ((nI_eq (a := k) (b := 2) (by omega) (by decide)).mp z)) c_5)
  exact WX.ret0 rfl kk
set_option maxRecDepth 20000 in
theorem x_lBegin {d n s : Nat} {h : Nat → aE} {q : Nat} {u_ ki by_ sh be : Int32} {t : Option Le} (hn : 190 ≤ n) (hq : q + 3 < 89) (X : CoX h 92) (T : CoH h q t) (F_h_89 : h 89 = .inr (5, [.ref 90, .ref 91, .int u_, .ref 92, .ref 96, .ref 100, .ref 67, .ref 106, .int ki, .int by_, .int sh, .int be]))  {Ψ : Option Value → aH → Prop} (kk : ∀ h', Fr h h' (fun j => 92 ≤ j ∧ j ≤ 95) → CoH h' 92 t → Ψ none (n, s, h')) : WO (mM (d + 2)) 52 [.ref 89, .ref q] (n, s, h) Ψ := by
  refine WO.of (Nat.le_of_ble_eq_true rfl) ?_
  have FR_h : Fr h h (fun j => 92 ≤ j ∧ j ≤ 95) := Fr.rf
  show WX (lk tX5_begin) (mM (d + 1)) Ψ 0 [(0, .ref 89), (1, .ref q)] [] (n, s, h)
  refine WX.s1 rfl rfl ?_
  refine WX.get1 (fs := [.ref 90, .ref 91, .int u_, .ref 92, .ref 96, .ref 100, .ref 67, .ref 106, .int ki, .int by_, .int sh, .int be]) rfl (by omega) (F_h_89) rfl ?_
  refine WX.s1 rfl rfl ?_
  refine WX.callC (vs := [.ref 92, .ref q]) rfl rfl rfl (Nat.le_of_ble_eq_true rfl) (X.rcv (by omega)) ?_
  refine xt_cbec (k := 92) (q := q) (t := t) (by omega) (by omega) (by omega) X T (fun h5 fr5 P9 => ?_)
  have F_h5_89 : h5 89 = .inr (5, [.ref 90, .ref 91, .int u_, .ref 92, .ref 96, .ref 100, .ref 67, .ref 106, .int ki, .int by_, .int sh, .int be]) := (fr5 _ (by first | decide | omega)).trans F_h_89
  have FR_h5 : Fr h h5 (fun j => 92 ≤ j ∧ j ≤ 95) := FR_h.zsub fr5 (fun j hj => by first | exact hj | exact Or.inl hj | exact Or.inr hj | omega)
  show WX _ _ _ 8 [(0, .ref 89), (1, .ref q)] [] (n, s, h5)
  exact WX.ret0 rfl (kk h5 FR_h5 P9)
set_option maxRecDepth 20000 in
theorem x_lFew {d n s : Nat} {h : Nat → aE} {ls : List Nat} {ki by_ sh be : Int32} (hn : 190 ≤ n) (hlen : ls.length ≤ 8000) (F_h_89 : h 89 = .inr (5, [.ref 90, .ref 91, .int (nI ls.length), .ref 92, .ref 96, .ref 100, .ref 67, .ref 106, .int ki, .int by_, .int sh, .int be]))  {Ψ : Option Value → aH → Prop} (kk1 : ls.length ≤ 5 → Ψ (some (.int 1)) (n, s, h)) (kk2 : 5 < ls.length → Ψ (some (.int 0)) (n, s, h)) : WO (mM (d + 1)) 55 [.ref 89] (n, s, h) Ψ := by
  refine WO.of (Nat.le_of_ble_eq_true rfl) ?_
  have FR_h : Fr h h (fun j => False) := Fr.rf
  show WX (lk tX5_areFew) (mM d) Ψ 0 [(0, .ref 89)] [] (n, s, h)
  refine WX.s1 rfl rfl ?_
  refine WX.get1 (fs := [.ref 90, .ref 91, .int (nI ls.length), .ref 92, .ref 96, .ref 100, .ref 67, .ref 106, .int ki, .int by_, .int sh, .int be]) rfl (ltN hn (by decide)) (F_h_89) rfl ?_
  refine WX.s1 rfl rfl ?_
  refine WX.s1 (S' := [.int ((nI ls.length) + 1)]) rfl rfl ?_
  rw [show ((nI ls.length) + 1) = nI (ls.length + 1) from nI_add ls.length 1]
  refine WX.s1 rfl rfl ?_
  refine WX.icmp rfl (fun c_8 => ?_) (fun c_8 => ?_)
  · skip
    have n_8 : 6 < (ls.length + 1) := (nI_ltI (a := 6) (b := ls.length + 1) (by omega) (by omega)).mp c_8
    refine WX.s1 rfl rfl ?_
    exact WX.ret3 rfl (by decide) (kk2 (by omega))
  · skip
    have n_8 : (ls.length + 1) ≤ 6 := Nat.le_of_not_lt (fun zz_ => c_8 ((nI_ltI (a := 6) (b := ls.length + 1) (by omega) (by omega)).mpr zz_))
    refine WX.s1 rfl rfl ?_
    refine WX.s1 rfl rfl ?_
    exact WX.ret3 rfl (by decide) (kk1 (by omega))
set_option maxRecDepth 20000 in
theorem x_kKeep {d n s : Nat} {h : Nat → aE} {c j k G l M NB NW md sta : Nat} {B sy wd : Nat → Nat} {vs : List Nat} {t : Tb}  (hc : c + 26 < n) (hl : l < 64) (hMb : M < 2 ^ 20) (hmd : md ≤ 3) (hT : TbOk l M t) (hC : ColR h c j k G l M NB NW B sy wd vs t md sta) (X : ShX h (c + 13) l M)   {Ψ : Option Value → aH → Prop} (kk : ∀ h', Fr h h' (fun x => c + 13 ≤ x ∧ x ≤ c + 19) → HeldT h' (c + 13) l M (some t) → Ψ none (n, s, h')) : WO (mM (d + 2)) 22 [.ref c] (n, s, h) Ψ := by
  refine WO.of (Nat.le_of_ble_eq_true rfl) ?_
  have FR_h : Fr h h (fun x => c + 13 ≤ x ∧ x ≤ c + 19) := Fr.rf
  obtain ⟨bi, ob, F_h_c, -, P_h_sh, -⟩ := id hC
  show WX (lk tX1_keep) (mM (d + 1)) Ψ 0 [(0, .ref c)] [] (n, s, h)
  refine WX.s1 rfl rfl ?_
  refine WX.get1 (fs := [.ref (aBig + j), .ref (aBig + k), .int (nI G), .ref (c + 1), .ref (c + 2), .ref (c + 5), .int (nI vs.length), .int (nI (colF sy wd vs).2.1), .int (nI (colF sy wd vs).2.2), .ref (c + 6), .ref (c + 13), .ref (c + 20), .ref (CHO c md), .ref (c + 3), .int (nI md), .int bi, .int ob, .int (nI sta)]) rfl (by omega) (F_h_c) rfl ?_
  refine WX.s1 rfl rfl ?_
  refine WX.icmp rfl (fun c_5 => ?_) (fun c_5 => ?_)
  · skip
    have n_5 : md = 3 := (nI_eq (a := md) (b := 3) (by omega) (by omega)).mp c_5
    exact WX.ret0 rfl (kk h FR_h (by rw [show CHO c md = c + 13 by unfold CHO; rw [if_neg (by omega), if_pos (by omega)]] at P_h_sh; exact P_h_sh))
  · skip
    have n_5 : ¬ md = 3 := fun zz_ => c_5 ((nI_eq (a := md) (b := 3) (by omega) (by omega)).mpr zz_)
    refine WX.s1 rfl rfl ?_
    refine WX.get1 (fs := [.ref (aBig + j), .ref (aBig + k), .int (nI G), .ref (c + 1), .ref (c + 2), .ref (c + 5), .int (nI vs.length), .int (nI (colF sy wd vs).2.1), .int (nI (colF sy wd vs).2.2), .ref (c + 6), .ref (c + 13), .ref (c + 20), .ref (CHO c md), .ref (c + 3), .int (nI md), .int bi, .int ob, .int (nI sta)]) rfl (by omega) (F_h_c) rfl ?_
    refine WX.s1 rfl rfl ?_
    refine WX.get1 (fs := [.ref (aBig + j), .ref (aBig + k), .int (nI G), .ref (c + 1), .ref (c + 2), .ref (c + 5), .int (nI vs.length), .int (nI (colF sy wd vs).2.1), .int (nI (colF sy wd vs).2.2), .ref (c + 6), .ref (c + 13), .ref (c + 20), .ref (CHO c md), .ref (c + 3), .int (nI md), .int bi, .int ob, .int (nI sta)]) rfl (by omega) (F_h_c) rfl ?_
    refine WX.callC (vs := [.ref (c + 13), .ref (CHO c md)]) rfl rfl rfl (Nat.le_of_ble_eq_true rfl) (X.rcv (by omega)) ?_
    refine xt_sbec (k := c + 13) (q := CHO c md) (t := some t) (by omega) (by have := cho_in c md; omega) (by have q0 : CHO c md = c + 6 ∨ CHO c md = c + 20 := (by unfold CHO; by_cases z : md = 0; exact Or.inl (if_pos z); rw [if_neg z, if_neg (by omega)]; exact Or.inr rfl); omega) hl hMb hT X P_h_sh (fun h16 fr16 P9 => ?_)
    have F_h16_c : h16 c = .inr (1, [.ref (aBig + j), .ref (aBig + k), .int (nI G), .ref (c + 1), .ref (c + 2), .ref (c + 5), .int (nI vs.length), .int (nI (colF sy wd vs).2.1), .int (nI (colF sy wd vs).2.2), .ref (c + 6), .ref (c + 13), .ref (c + 20), .ref (CHO c md), .ref (c + 3), .int (nI md), .int bi, .int ob, .int (nI sta)]) := (fr16 _ (by omega)).trans F_h_c
    have FR_h16 : Fr h h16 (fun x => c + 13 ≤ x ∧ x ≤ c + 19) := FR_h.zsub fr16 (fun j hj => by first | exact hj | exact Or.inl hj | exact Or.inr hj | omega)
    show WX _ _ _ 19 [(0, .ref c)] [] (n, s, h16)
    exact WX.ret0 rfl (kk h16 FR_h16 P9)
set_option maxRecDepth 20000 in
theorem x_kBegin {d n s : Nat} {h : Nat → aE} {c q l M ba wi cho : Nat} {gr ln di ad mo bi ob sta : Int32} {t : Option Tb}  (hc : c + 26 < n) (hq : q + 6 < c) (hl : l < 64) (hMb : M < 2 ^ 20) (hT : TbO l M t) (X : ShX h (c + 13) l M) (H : HeldT h q l M t) (F_h_c : h c = .inr (1, [.ref ba, .ref wi, .int gr, .ref (c + 1), .ref (c + 2), .ref (c + 5), .int ln, .int di, .int ad, .ref (c + 6), .ref (c + 13), .ref (c + 20), .ref cho, .ref (c + 3), .int mo, .int bi, .int ob, .int sta]))  {Ψ : Option Value → aH → Prop} (kk : ∀ h', Fr h h' (fun x => c + 13 ≤ x ∧ x ≤ c + 19) → HeldT h' (c + 13) l M t → Ψ none (n, s, h')) : WO (mM (d + 2)) 9 [.ref c, .ref q] (n, s, h) Ψ := by
  refine WO.of (Nat.le_of_ble_eq_true rfl) ?_
  have FR_h : Fr h h (fun x => c + 13 ≤ x ∧ x ≤ c + 19) := Fr.rf
  show WX (lk tX1_begin) (mM (d + 1)) Ψ 0 [(0, .ref c), (1, .ref q)] [] (n, s, h)
  refine WX.s1 rfl rfl ?_
  refine WX.get1 (fs := [.ref ba, .ref wi, .int gr, .ref (c + 1), .ref (c + 2), .ref (c + 5), .int ln, .int di, .int ad, .ref (c + 6), .ref (c + 13), .ref (c + 20), .ref cho, .ref (c + 3), .int mo, .int bi, .int ob, .int sta]) rfl (by omega) (F_h_c) rfl ?_
  refine WX.s1 rfl rfl ?_
  refine WX.callC (vs := [.ref (c + 13), .ref q]) rfl rfl rfl (Nat.le_of_ble_eq_true rfl) (X.rcv (by omega)) ?_
  refine xt_sbec (k := c + 13) (q := q) (t := t) (by omega) (by omega) (by omega) hl hMb hT X H (fun h5 fr5 P9 => ?_)
  have F_h5_c : h5 c = .inr (1, [.ref ba, .ref wi, .int gr, .ref (c + 1), .ref (c + 2), .ref (c + 5), .int ln, .int di, .int ad, .ref (c + 6), .ref (c + 13), .ref (c + 20), .ref cho, .ref (c + 3), .int mo, .int bi, .int ob, .int sta]) := (fr5 _ (by omega)).trans F_h_c
  have FR_h5 : Fr h h5 (fun x => c + 13 ≤ x ∧ x ≤ c + 19) := FR_h.zsub fr5 (fun j hj => by first | exact hj | exact Or.inl hj | exact Or.inr hj | omega)
  show WX _ _ _ 8 [(0, .ref c), (1, .ref q)] [] (n, s, h5)
  exact WX.ret0 rfl (kk h5 FR_h5 P9)
