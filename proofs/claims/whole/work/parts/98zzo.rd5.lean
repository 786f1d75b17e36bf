/-! weights read: the whole call, direct ones; codes settled -/
theorem rdW_n {l : List Nat} {f e : Nat} (h : rdS l (8 * e) 6 11 (8 * f) = none) : rdW l f e = none := by
  unfold rdW
  rw [h]
  rfl
def hiE (l : List Nat) (e : Nat) : Nat := 8 * (e - 1) + Nat.log2 ((l).getD (e - 1) 0)
theorem rdW_s {l : List Nat} {f e o c : Nat} {u : Nat → Nat} (h : rdS l (8 * e) 6 11 (8 * f) = some (o, u, c)) : rdW l f e = if e ≤ (c + 7) / 8 ∨ (l).getD (e - 1) 0 = 0 then none else if hiE l e < 8 * ((c + 7) / 8) + 2 * o then none else rsF l u o (8 * ((c + 7) / 8)) 255 (hiE l e - 2 * o) (rbN l (hiE l e - o) o) (rbN l (hiE l e - 2 * o) o) [] := by
  unfold rdW
  rw [h]
  rfl
def drF (l : List Nat) (f i : Nat) : Nat := if i % 2 = 0 then (l).getD (f + i / 2) 0 / 16 else (l).getD (f + i / 2) 0 % 16
theorem and15 {x : Nat} (h : x < 2 ^ 31) : nI x &&& 15 = nI (x % 16) := by
  rw [show (15 : Int32) = nI (2 ^ 4 - 1) from rfl, nI_and (by omega) (by decide), Nat.and_two_pow_sub_one_eq_mod]
theorem ShA.me {h : Nat → aE} {k l M : Nat} {od th : Int32} {pA rA fA wA oA sA : Nat → Int32} (r : ShA h k l M od th pA rA fA wA oA sA) : ShA h k l M od th pA rA fA wA oA sA := r
set_option maxRecDepth 20000 in
theorem x_rdSt {d n s : Nat} {h : Nat → aE} {be ot f e : Nat} {l : List Nat} {wA : Nat → Int32} (hn : 190 ≤ n) (he1 : 1 ≤ e) (he : e ≤ (l).length) (hf : f ≤ 8200) (F_h_67 : h 67 = .inr (2, [.ref 68, .ref 69, .ref 70, .ref be, .ref ot])) (F_h_68 : h 68 = .inl (1, 256, .inl wA)) (P_h_in : RowIs h 1 8000 (some l) 0 0) (P_h_sx : ShX h 70 11 64) {Ψ : Option Value → aH → Prop} (k0 : rdW l f e = none → ∀ h' wA', Fr h h' (fun j => j = 68 ∨ (70 ≤ j ∧ j ≤ 76)) → h' 68 = .inl (1, 256, .inl wA') → ShX h' 70 11 64 → Ψ (some (.int (-1))) (n, s, h')) (k1 : ∀ ws, rdW l f e = some ws → (∀ i, (ws).getD i 0 ≤ 11) → 2 ≤ (ws).length → (ws).length ≤ 256 → ∀ h' wA', Fr h h' (fun j => j = 68 ∨ (70 ≤ j ∧ j ≤ 76)) → h' 68 = .inl (1, 256, .inl wA') → ShX h' 70 11 64 → (∀ i, i < (ws).length → wA' i = nI ((ws).getD i 0)) → Ψ (some (.int (nI (ws).length))) (n, s, h')) : WO (mM (d + 5)) 30 [.ref 67, .ref 1, .int (nI f), .int (nI e)] (n, s, h) Ψ := by
  refine WO.of (Nat.le_of_ble_eq_true rfl) ?_
  have FR_h : Fr h h (fun j => j = 68 ∨ (70 ≤ j ∧ j ≤ 76)) := Fr.rf
  have hle := row_le P_h_in
  have hlt := row_lt P_h_in
  show WX (lk tX2_readStates) (mM (d + 4)) Ψ 0 [(0, .ref 67), (1, .ref 1), (2, .int (nI f)), (3, .int (nI e))] [] (n, s, h)
  refine WX.s1 rfl rfl ?_
  refine WX.get1 (fs := [.ref 68, .ref 69, .ref 70, .ref be, .ref ot]) rfl (by omega) (F_h_67) rfl ?_
  refine WX.s1 rfl rfl ?_
  refine WX.s1 rfl rfl ?_
  refine WX.s1 rfl rfl ?_
  refine WX.s1 rfl rfl ?_
  refine WX.callC (vs := [.ref 70, .ref 1, .int (nI f), .int (nI e), .int (nI 6)]) rfl rfl rfl (Nat.le_of_ble_eq_true rfl) ((P_h_sx).rcv (by omega)) ?_
  refine x_rdF (d := d) (k := 70) (la := 11) (M := 64) (G := 6) hn (by decide) (by omega) (by decide) (by decide) (by decide) (by decide) hf (by omega) P_h_sx P_h_in (fun zr h9 f9 S9 => ?_) (fun o u c zr h9 f9 T9 => ?_)
  · skip
    have F_h9_67 : h9 67 = .inr (2, [.ref 68, .ref 69, .ref 70, .ref be, .ref ot]) := (f9 _ (by omega)).trans F_h_67
    have F_h9_68 : h9 68 = .inl (1, 256, .inl wA) := (f9 _ (by omega)).trans F_h_68
    have P_h9_in : RowIs h9 1 8000 (some l) 0 0 := (P_h_in).zfr f9 (by omega) (by omega)
    have FR_h9 : Fr h h9 (fun j => j = 68 ∨ (70 ≤ j ∧ j ≤ 76)) := (f9).mono (fun j hj => by omega)
    show WX _ _ _ 12 [(0, .ref 67), (1, .ref 1), (2, .int (nI f)), (3, .int (nI e))] [.int (-1)] (n, s, h9)
    refine WX.s1 (L' := [(0, .ref 67), (1, .ref 1), (2, .int (nI f)), (3, .int (nI e)), (4, .int (-1))]) rfl rfl ?_
    refine WX.s1 rfl rfl ?_
    refine WX.s1 rfl rfl ?_
    refine WX.s1 rfl rfl ?_
    refine WX.s1 (S' := [.int ((nI e) - 1), .ref 1]) rfl rfl ?_
    rw [show nI e - 1 = nI (e - 1) from nI_pm1 he1]
    refine WX.callC (vs := [.ref 1, .int (nI (e - 1))]) rfl rfl rfl (Nat.le_of_ble_eq_true rfl) ((P_h9_in).rcv (by omega)) ?_
    refine x_at1 (d := d + 3) (by omega) (by decide) (by omega) P_h9_in (fun v hv1 hv2 => ?_)
    obtain rfl := hv1 (by omega)
    show WX _ _ _ 21 [(0, .ref 67), (1, .ref 1), (2, .int (nI f)), (3, .int (nI e)), (4, .int (-1))] [.int (nI ((l).getD (e - 1) 0))] (n, s, h9)
    refine WX.s1 (L' := [(0, .ref 67), (1, .ref 1), (2, .int (nI f)), (3, .int (nI e)), (4, .int (-1)), (5, .int (nI ((l).getD (e - 1) 0)))]) rfl rfl ?_
    have hhi := hlt (e - 1)
    refine WX.s1 rfl rfl ?_
    refine WX.if_ rfl (fun c_25 => ?_) (fun c_25 => absurd (by decide) c_25)
    clear c_25
    refine WX.s1 rfl rfl ?_
    exact WX.ret1 rfl (k0 (rdW_n zr) h9 wA FR_h9 F_h9_68 S9.toX)
  · skip
    have F_h9_67 : h9 67 = .inr (2, [.ref 68, .ref 69, .ref 70, .ref be, .ref ot]) := (f9 _ (by omega)).trans F_h_67
    have F_h9_68 : h9 68 = .inl (1, 256, .inl wA) := (f9 _ (by omega)).trans F_h_68
    have P_h9_in : RowIs h9 1 8000 (some l) 0 0 := (P_h_in).zfr f9 (by omega) (by omega)
    have FR_h9 : Fr h h9 (fun j => j = 68 ∨ (70 ≤ j ∧ j ≤ 76)) := (f9).mono (fun j hj => by omega)
    obtain ⟨v1, v2, v3, v4, v5, v6⟩ := rdS_ok (by decide) zr
    have hbg : ((c + 7) / 8) ≤ e := by omega
    obtain ⟨pA, rA, fA, wA2, oA, sA, hShA, t1, t2, t3, t4, t5, t6⟩ := T9
    obtain ⟨F_h9_70, F_h9_71, -, F_h9_73, -, F_h9_75, F_h9_76⟩ := (hShA).me
    have hSX : ShX h9 70 11 64 := ⟨_, _, pA, rA, fA, wA2, oA, sA, hShA⟩
    obtain ⟨hS6, p1, p2⟩ := pad12 v1 (by omega) t6 v4
    show WX _ _ _ 12 [(0, .ref 67), (1, .ref 1), (2, .int (nI f)), (3, .int (nI e))] [.int (nI ((c + 7) / 8))] (n, s, h9)
    refine WX.s1 (L' := [(0, .ref 67), (1, .ref 1), (2, .int (nI f)), (3, .int (nI e)), (4, .int (nI ((c + 7) / 8)))]) rfl rfl ?_
    refine WX.s1 rfl rfl ?_
    refine WX.s1 rfl rfl ?_
    refine WX.s1 rfl rfl ?_
    refine WX.s1 (S' := [.int ((nI e) - 1), .ref 1]) rfl rfl ?_
    rw [show nI e - 1 = nI (e - 1) from nI_pm1 he1]
    refine WX.callC (vs := [.ref 1, .int (nI (e - 1))]) rfl rfl rfl (Nat.le_of_ble_eq_true rfl) ((P_h9_in).rcv (by omega)) ?_
    refine x_at1 (d := d + 3) (by omega) (by decide) (by omega) P_h9_in (fun v hv1 hv2 => ?_)
    obtain rfl := hv1 (by omega)
    show WX _ _ _ 21 [(0, .ref 67), (1, .ref 1), (2, .int (nI f)), (3, .int (nI e)), (4, .int (nI ((c + 7) / 8)))] [.int (nI ((l).getD (e - 1) 0))] (n, s, h9)
    refine WX.s1 (L' := [(0, .ref 67), (1, .ref 1), (2, .int (nI f)), (3, .int (nI e)), (4, .int (nI ((c + 7) / 8))), (5, .int (nI ((l).getD (e - 1) 0)))]) rfl rfl ?_
    have hhi := hlt (e - 1)
    refine WX.s1 rfl rfl ?_
    refine WX.if_ rfl (fun c_25 => absurd c_25 (fun zz_ => absurd ((nI_ltI (a := (c + 7) / 8) (b := 0) (by omega) (by omega)).mp zz_) (Nat.not_lt.mpr (by omega)))) (fun c_25 => ?_)
    clear c_25
    refine WX.s1 rfl rfl ?_
    refine WX.s1 rfl rfl ?_
    refine WX.icmp rfl (fun c_31 => ?_) (fun c_31 => ?_)
    · skip
      have n_31 : e ≤ ((c + 7) / 8) := (nI_leI (a := e) (b := (c + 7) / 8) (by omega) (by omega)).mp c_31
      refine WX.s1 rfl rfl ?_
      exact WX.ret1 rfl (k0 ((rdW_s zr).trans (by rw [if_pos (by omega)])) h9 wA FR_h9 F_h9_68 hSX)
    · skip
      have n_31 : ((c + 7) / 8) < e := Nat.lt_of_not_le (fun zz_ => c_31 ((nI_leI (a := e) (b := (c + 7) / 8) (by omega) (by omega)).mpr zz_))
      refine WX.s1 rfl rfl ?_
      refine WX.s1 rfl rfl ?_
      refine WX.icmp rfl (fun c_37 => ?_) (fun c_37 => ?_)
      · skip
        have n_37 : 1 ≤ ((l).getD (e - 1) 0) := (nI_leI (a := 1) (b := (l).getD (e - 1) 0) (by omega) (by omega)).mp c_37
        refine WX.s1 rfl rfl ?_
        refine WX.s1 rfl rfl ?_
        refine WX.s1 (S' := [.int (8 * (nI ((c + 7) / 8)))]) rfl rfl ?_
        rw [show (8 * (nI ((c + 7) / 8))) = nI (8 * ((c + 7) / 8)) from (Int32.ofNat_mul 8 ((c + 7) / 8)).symm]
        refine WX.s1 (L' := [(0, .ref 67), (1, .ref 1), (2, .int (nI f)), (3, .int (nI e)), (4, .int (nI ((c + 7) / 8))), (5, .int (nI ((l).getD (e - 1) 0))), (6, .int (nI (8 * ((c + 7) / 8))))]) rfl rfl ?_
        refine WX.s1 rfl rfl ?_
        refine WX.s1 rfl rfl ?_
        refine WX.s1 rfl rfl ?_
        refine WX.s1 (S' := [.int ((nI e) - 1), .int 8]) rfl rfl ?_
        rw [show nI e - 1 = nI (e - 1) from nI_pm1 he1]
        refine WX.s1 (S' := [.int (8 * (nI (e - 1)))]) rfl rfl ?_
        rw [show (8 * (nI (e - 1))) = nI (8 * (e - 1)) from (Int32.ofNat_mul 8 (e - 1)).symm]
        refine WX.s1 rfl rfl ?_
        refine WX.callC (vs := [.int (nI ((l).getD (e - 1) 0))]) rfl rfl rfl (Nat.le_of_ble_eq_true rfl) rfl ?_
        refine w_log (d := d + 3) (by omega) (by omega) (fun g hg1 hg2 => ?_)
        obtain rfl := lg2_uq (by omega) hg1 hg2
        have hlg : Nat.log2 ((l).getD (e - 1) 0) ≤ 8 := by
          apply Classical.byContradiction
          intro z
          have := Nat.pow_le_pow_right (show 0 < 2 by decide) (show 9 ≤ Nat.log2 ((l).getD (e - 1) 0) by omega)
          omega
        have hEE : (hiE l e) = 8 * (e - 1) + Nat.log2 ((l).getD (e - 1) 0) := rfl
        show WX _ _ _ 60 [(0, .ref 67), (1, .ref 1), (2, .int (nI f)), (3, .int (nI e)), (4, .int (nI ((c + 7) / 8))), (5, .int (nI ((l).getD (e - 1) 0))), (6, .int (nI (8 * ((c + 7) / 8))))] [.int (nI (Nat.log2 ((l).getD (e - 1) 0))), .int (nI (8 * (e - 1)))] (n, s, h9)
        refine WX.s1 (S' := [.int ((nI (8 * (e - 1))) + (nI (Nat.log2 ((l).getD (e - 1) 0))))]) rfl rfl ?_
        rw [nI_add, ← hEE]
        refine WX.s1 rfl rfl ?_
        refine WX.s1 rfl rfl ?_
        refine WX.get1 (fs := [.ref 68, .ref 69, .ref 70, .ref be, .ref ot]) rfl (by omega) (F_h9_67) rfl ?_
        refine WX.get1 (fs := [.int (nI 11), .ref 71, .ref 72, .ref 73, .ref 74, .ref 75, .ref 76, .int (nI o), .int 1]) rfl (by omega) (F_h9_70) rfl ?_
        refine WX.s1 (S' := [.int (2 * (nI o)), .int (nI (hiE l e))]) rfl rfl ?_
        rw [show (2 * (nI o)) = nI (2 * o) from (Int32.ofNat_mul 2 o).symm]
        by_cases hE : 8 * ((c + 7) / 8) + 2 * o ≤ (hiE l e)
        · skip
          refine WX.s1 (S' := [.int ((nI (hiE l e)) - (nI (2 * o)))]) rfl rfl ?_
          rw [nI_subN (show 2 * o ≤ (hiE l e) by omega)]
          refine WX.s1 (L' := [(0, .ref 67), (1, .ref 1), (2, .int (nI f)), (3, .int (nI e)), (4, .int (nI ((c + 7) / 8))), (5, .int (nI ((l).getD (e - 1) 0))), (6, .int (nI (8 * ((c + 7) / 8)))), (7, .int (nI ((hiE l e) - 2 * o)))]) rfl rfl ?_
          refine WX.s1 rfl rfl ?_
          refine WX.s1 rfl rfl ?_
          refine WX.icmp rfl (fun c_77 => ?_) (fun c_77 => absurd ((nI_leI (a := 8 * ((c + 7) / 8)) (b := (hiE l e) - 2 * o) (by omega) (by omega)).mpr (by omega)) c_77)
          clear c_77
          refine WX.s1 rfl rfl ?_
          refine WX.s1 rfl rfl ?_
          refine WX.s1 rfl rfl ?_
          refine WX.get1 (fs := [.ref 68, .ref 69, .ref 70, .ref be, .ref ot]) rfl (by omega) (F_h9_67) rfl ?_
          refine WX.get1 (fs := [.int (nI 11), .ref 71, .ref 72, .ref 73, .ref 74, .ref 75, .ref 76, .int (nI o), .int 1]) rfl (by omega) (F_h9_70) rfl ?_
          refine WX.s1 (S' := [.int ((nI ((hiE l e) - 2 * o)) + (nI o)), .ref 1]) rfl rfl ?_
          rw [nI_add, show (hiE l e) - 2 * o + o = (hiE l e) - o by omega]
          refine WX.s1 rfl rfl ?_
          refine WX.get1 (fs := [.ref 68, .ref 69, .ref 70, .ref be, .ref ot]) rfl (by omega) (F_h9_67) rfl ?_
          refine WX.get1 (fs := [.int (nI 11), .ref 71, .ref 72, .ref 73, .ref 74, .ref 75, .ref 76, .int (nI o), .int 1]) rfl (by omega) (F_h9_70) rfl ?_
          refine WX.callC (vs := [.ref 1, .int (nI ((hiE l e) - o)), .int (nI o)]) rfl rfl rfl (Nat.le_of_ble_eq_true rfl) ((P_h9_in).rcv (by omega)) ?_
          refine x_bits (d := d + 2) (b := (hiE l e) - o) (c := o) hn (by omega) (by omega) P_h9_in ?_
          show WX _ _ _ 103 [(0, .ref 67), (1, .ref 1), (2, .int (nI f)), (3, .int (nI e)), (4, .int (nI ((c + 7) / 8))), (5, .int (nI ((l).getD (e - 1) 0))), (6, .int (nI (8 * ((c + 7) / 8)))), (7, .int (nI ((hiE l e) - 2 * o)))] [.int (nI (rbN l ((hiE l e) - o) o))] (n, s, h9)
          refine WX.s1 (L' := [(0, .ref 67), (1, .ref 1), (2, .int (nI f)), (3, .int (nI e)), (4, .int (nI ((c + 7) / 8))), (5, .int (nI ((l).getD (e - 1) 0))), (6, .int (nI (8 * ((c + 7) / 8)))), (7, .int (nI ((hiE l e) - 2 * o))), (8, .int (nI (rbN l ((hiE l e) - o) o)))]) rfl rfl ?_
          refine WX.s1 rfl rfl ?_
          refine WX.s1 rfl rfl ?_
          refine WX.s1 rfl rfl ?_
          refine WX.get1 (fs := [.ref 68, .ref 69, .ref 70, .ref be, .ref ot]) rfl (by omega) (F_h9_67) rfl ?_
          refine WX.get1 (fs := [.int (nI 11), .ref 71, .ref 72, .ref 73, .ref 74, .ref 75, .ref 76, .int (nI o), .int 1]) rfl (by omega) (F_h9_70) rfl ?_
          refine WX.callC (vs := [.ref 1, .int (nI ((hiE l e) - 2 * o)), .int (nI o)]) rfl rfl rfl (Nat.le_of_ble_eq_true rfl) ((P_h9_in).rcv (by omega)) ?_
          refine x_bits (d := d + 2) (b := (hiE l e) - 2 * o) (c := o) hn (by omega) (by omega) P_h9_in ?_
          show WX _ _ _ 118 [(0, .ref 67), (1, .ref 1), (2, .int (nI f)), (3, .int (nI e)), (4, .int (nI ((c + 7) / 8))), (5, .int (nI ((l).getD (e - 1) 0))), (6, .int (nI (8 * ((c + 7) / 8)))), (7, .int (nI ((hiE l e) - 2 * o))), (8, .int (nI (rbN l ((hiE l e) - o) o)))] [.int (nI (rbN l ((hiE l e) - 2 * o) o))] (n, s, h9)
          refine WX.s1 (L' := [(0, .ref 67), (1, .ref 1), (2, .int (nI f)), (3, .int (nI e)), (4, .int (nI ((c + 7) / 8))), (5, .int (nI ((l).getD (e - 1) 0))), (6, .int (nI (8 * ((c + 7) / 8)))), (7, .int (nI ((hiE l e) - 2 * o))), (8, .int (nI (rbN l ((hiE l e) - o) o))), (9, .int (nI (rbN l ((hiE l e) - 2 * o) o)))]) rfl rfl ?_
          refine WX.s1 rfl rfl ?_
          refine WX.s1 (L' := [(0, .ref 67), (1, .ref 1), (2, .int (nI f)), (3, .int (nI e)), (4, .int (nI ((c + 7) / 8))), (5, .int (nI ((l).getD (e - 1) 0))), (6, .int (nI (8 * ((c + 7) / 8)))), (7, .int (nI ((hiE l e) - 2 * o))), (8, .int (nI (rbN l ((hiE l e) - o) o))), (9, .int (nI (rbN l ((hiE l e) - 2 * o) o))), (10, .int 0)]) rfl rfl ?_
          have eW : rdW l f e = _ := (rdW_s zr).trans (by rw [if_neg (by omega), if_neg (by omega)])
          refine WX.keep (y := 30) [0, 1, 6, 7, 8, 9, 10] (show ([0, 1, 2, 3, 4, 5, 6, 7, 8, 9, 10] : List Nat).Nodup by decide) rfl ?_
          exact x_rsL (d := d + 1) (u := u) (ws := []) 255 hn v1 (by omega) hS6 v4 t1 t2 (fun q hq => by rw [t4 q hq, p1]; rfl) (fun q hq => by have z := t5 q hq; unfold slotF at z; rw [p1, p2] at z; exact z) (by omega) (by omega) (rb_lt l _ o) (rb_lt l _ o) rfl (fun i hi => absurd hi (Nat.not_lt_zero i)) (fun i => Nat.zero_le _) F_h9_67 F_h9_68 F_h9_70 F_h9_71 F_h9_73 F_h9_75 F_h9_76 P_h9_in (fun z h8 w8 f8 F8 => k0 ((eW).trans z) h8 w8 ((FR_h9).ztr ((f8).mono (fun j hj => by omega))) F8 ((hSX).zfr f8 (fun j h1 h2 => by omega))) (fun v z z1 z2 z3 h8 w8 f8 F8 U8 => k1 v ((eW).trans z) z1 z2 z3 h8 w8 ((FR_h9).ztr ((f8).mono (fun j hj => by omega))) F8 ((hSX).zfr f8 (fun j h1 h2 => by omega)) U8)
        · skip
          refine WX.s1 (S' := [.int ((nI (hiE l e)) - (nI (2 * o)))]) rfl rfl ?_
          refine WX.s1 (L' := [(0, .ref 67), (1, .ref 1), (2, .int (nI f)), (3, .int (nI e)), (4, .int (nI ((c + 7) / 8))), (5, .int (nI ((l).getD (e - 1) 0))), (6, .int (nI (8 * ((c + 7) / 8)))), (7, .int ((nI (hiE l e)) - (nI (2 * o))))]) rfl rfl ?_
          refine WX.s1 rfl rfl ?_
          refine WX.s1 rfl rfl ?_
          refine WX.icmp rfl (fun c_77 => absurd c_77 (sub_nle (by omega) (by omega) (by omega) (by omega))) (fun c_77 => ?_)
          refine WX.s1 rfl rfl ?_
          exact WX.ret1 rfl (k0 ((rdW_s zr).trans (by rw [if_neg (by omega), if_pos (by omega)])) h9 wA FR_h9 F_h9_68 hSX)
      · skip
        have n_37 : ((l).getD (e - 1) 0) < 1 := Nat.lt_of_not_le (fun zz_ => c_37 ((nI_leI (a := 1) (b := (l).getD (e - 1) 0) (by omega) (by omega)).mpr zz_))
        refine WX.s1 rfl rfl ?_
        exact WX.ret1 rfl (k0 ((rdW_s zr).trans (by rw [if_pos (by omega)])) h9 wA FR_h9 F_h9_68 hSX)
set_option maxRecDepth 20000 in
theorem x_rdDir {d n s : Nat} {h : Nat → aE} {be ot f k : Nat} {l : List Nat} {wA : Nat → Int32} (hn : 190 ≤ n) (hk : k ≤ 128) (hf : f ≤ 8200) (F_h_67 : h 67 = .inr (2, [.ref 68, .ref 69, .ref 70, .ref be, .ref ot])) (F_h_68 : h 68 = .inl (1, 256, .inl wA)) (P_h_in : RowIs h 1 8000 (some l) 0 0) {Ψ : Option Value → aH → Prop} (kk : ∀ h' wA', Fr h h' (fun j => j = 68) → h' 68 = .inl (1, 256, .inl wA') → (∀ i, i < k → wA' i = nI (drF l f i)) → Ψ (some (.int (nI k))) (n, s, h')) : WO (mM (d + 2)) 29 [.ref 67, .ref 1, .int (nI f), .int (nI k)] (n, s, h) Ψ := by
  refine WO.of (Nat.le_of_ble_eq_true rfl) ?_
  have FR_h : Fr h h (fun j => j = 68) := Fr.rf
  have hlt := row_lt P_h_in
  show WX (lk tX2_readDirect) (mM (d + 1)) Ψ 0 [(0, .ref 67), (1, .ref 1), (2, .int (nI f)), (3, .int (nI k))] [] (n, s, h)
  refine WX.s1 rfl rfl ?_
  refine WX.s1 (L' := [(0, .ref 67), (1, .ref 1), (2, .int (nI f)), (3, .int (nI k)), (4, .int 0)]) rfl rfl ?_
  have lp : ∀ (t i : Nat) (hL : Nat → aE) (wL : Nat → Int32), i + t = k → Fr h hL (fun j => j = 68) → hL 67 = .inr (2, [.ref 68, .ref 69, .ref 70, .ref be, .ref ot]) → hL 68 = .inl (1, 256, .inl wL) → RowIs hL 1 8000 (some l) 0 0 → (∀ j, j < i → wL j = nI (drF l f j)) → WX (lk tX2_readDirect) (mM (d + 1)) Ψ 3 [(0, .ref 67), (1, .ref 1), (2, .int (nI f)), (3, .int (nI k)), (4, .int (nI i))] [] (n, s, hL) := by
    intro t
    induction t with
    | zero =>
      intro i hL wL ht FR_hL F_hL_67 F_hL_68 P_hL_in hI
      obtain rfl : i = k := by omega
      refine WX.s1 rfl rfl ?_
      refine WX.s1 rfl rfl ?_
      refine WX.icmp rfl (fun c_6 => ?_) (fun c_6 => absurd ((nI_leI (a := i) (b := i) (by omega) (by omega)).mpr (by omega)) c_6)
      clear c_6
      refine WX.s1 rfl rfl ?_
      exact WX.ret1 rfl (kk hL wL FR_hL F_hL_68 hI)
    | succ t ih =>
      intro i hL wL ht FR_hL F_hL_67 F_hL_68 P_hL_in hI
      refine WX.s1 rfl rfl ?_
      refine WX.s1 rfl rfl ?_
      refine WX.icmp rfl (fun c_6 => absurd c_6 (fun zz_ => absurd ((nI_leI (a := k) (b := i) (by omega) (by omega)).mp zz_) (Nat.not_le.mpr (by omega)))) (fun c_6 => ?_)
      clear c_6
      refine WX.s1 rfl rfl ?_
      refine WX.s1 rfl rfl ?_
      refine WX.s1 rfl rfl ?_
      refine WX.s1 rfl rfl ?_
      refine WX.div rfl (by decide) ?_
      rw [show nI i / 2 = nI (i / 2) from pk_div (by omega) (by decide) (by decide)]
      refine WX.s1 (S' := [.int ((nI f) + (nI (i / 2))), .ref 1]) rfl rfl ?_
      rw [show ((nI f) + (nI (i / 2))) = nI (f + i / 2) from nI_add f (i / 2)]
      refine WX.callC (vs := [.ref 1, .int (nI (f + i / 2))]) rfl rfl rfl (Nat.le_of_ble_eq_true rfl) ((P_hL_in).rcv (by omega)) ?_
      refine x_at1 (d := d) (by omega) (by decide) (by omega) P_hL_in (fun v hv1 hv2 => ?_)
      show WX _ _ _ 19 [(0, .ref 67), (1, .ref 1), (2, .int (nI f)), (3, .int (nI k)), (4, .int (nI i))] [.int v] (n, s, hL)
      refine WX.s1 rfl rfl ?_
      refine WX.s1 (S' := [.int (if v < 0 then 0 else v)]) rfl rfl ?_
      rw [at_mx (hlt (f + i / 2)) hv1 hv2]
      refine WX.s1 (L' := [(0, .ref 67), (1, .ref 1), (2, .int (nI f)), (3, .int (nI k)), (4, .int (nI i)), (5, .int (nI ((l).getD (f + i / 2) 0)))]) rfl rfl ?_
      refine WX.s1 rfl rfl ?_
      refine WX.get1 (fs := [.ref 68, .ref 69, .ref 70, .ref be, .ref ot]) rfl (by omega) (F_hL_67) rfl ?_
      refine WX.s1 rfl rfl ?_
      refine WX.s1 rfl rfl ?_
      refine WX.s1 rfl rfl ?_
      refine WX.div rfl (by decide) ?_
      rw [show nI i - nI i / 2 * 2 = nI (i % 2) from pk_rem (by omega) (by decide) (by decide)]
      have hx := hlt (f + i / 2)
      refine WX.if_ rfl (fun c_35 => ?_) (fun c_35 => ?_)
      · skip
        have n_35 : ¬ (i % 2) = 0 := fun zz_ => c_35 ((nI_eq (a := i % 2) (b := 0) (by omega) (by omega)).mpr zz_)
        refine WX.s1 rfl rfl ?_
        refine WX.s1 rfl rfl ?_
        refine WX.s1 (S' := [.int ((nI ((l).getD (f + i / 2) 0)) &&& 15), .int (nI i), .ref 68]) rfl rfl ?_
        rw [and15 (show ((l).getD (f + i / 2) 0) < 2 ^ 31 by omega)]
        refine WX.iastN rfl (by omega) (F_hL_68) (vp_in_nI (N := 256) (by omega) (by decide)) (fun g50 h50 e_g50 e_h50 => ?_)
        try dsimp only at e_g50
        have F_h50_67 : h50 67 = .inr (2, [.ref 68, .ref 69, .ref 70, .ref be, .ref ot]) := by rw [e_h50, va_up_neq (by omega)]; exact F_hL_67
        have F_h50_68 : h50 68 = .inl (1, 256, .inl g50) := by rw [e_h50]; exact va_up_eq
        have P_h50_in : RowIs h50 1 8000 (some l) 0 0 := (P_hL_in).zfr (Fr.of e_h50) (by omega) (by omega)
        have FR_h50 : Fr h h50 (fun j => j = 68) := (FR_hL).zup e_h50 (by first | exact rfl | exact Or.inl rfl | exact Or.inr rfl | exact ⟨by decide, by decide⟩ | decide | omega)
        clear F_hL_67 F_hL_68 P_hL_in FR_hL e_h50
        refine WX.s1 (L' := [(0, .ref 67), (1, .ref 1), (2, .int (nI f)), (3, .int (nI k)), (4, .int ((nI i) + 1)), (5, .int (nI ((l).getD (f + i / 2) 0)))]) rfl rfl ?_
        rw [show ((nI i) + 1) = nI (i + 1) from nI_add i 1]
        refine WX.s1 rfl rfl ?_
        refine WX.keep (y := 29) [0, 1, 2, 3, 4] (show ([0, 1, 2, 3, 4, 5] : List Nat).Nodup by decide) rfl ?_
        rw [nI_clamp (by omega)] at e_g50
        refine ih (i + 1) h50 g50 (by omega) FR_h50 F_h50_67 F_h50_68 P_h50_in (fun j hj => ?_)
        by_cases z : j = i
        · rw [z, e_g50, pk_us]; unfold drF; rw [if_neg (by omega)]
        · rw [e_g50, pk_un z]; exact hI j (by omega)
      · skip
        have n_35 : (i % 2) = 0 := (nI_eq (a := i % 2) (b := 0) (by omega) (by omega)).mp (Classical.not_not.mp c_35)
        refine WX.s1 rfl rfl ?_
        refine WX.s1 rfl rfl ?_
        refine WX.s1 (S' := [.int ((nI ((l).getD (f + i / 2) 0)) >>> (4 &&& 31)), .int (nI i), .ref 68]) rfl rfl ?_
        rw [show nI ((l).getD (f + i / 2) 0) >>> ((4 : Int32) &&& 31) = nI (((l).getD (f + i / 2) 0) / 16) from shrN (k := 4) (by omega) (by decide)]
        refine WX.s1 rfl rfl ?_
        refine WX.iastN rfl (by omega) (F_hL_68) (vp_in_nI (N := 256) (by omega) (by decide)) (fun g50 h50 e_g50 e_h50 => ?_)
        try dsimp only at e_g50
        have F_h50_67 : h50 67 = .inr (2, [.ref 68, .ref 69, .ref 70, .ref be, .ref ot]) := by rw [e_h50, va_up_neq (by omega)]; exact F_hL_67
        have F_h50_68 : h50 68 = .inl (1, 256, .inl g50) := by rw [e_h50]; exact va_up_eq
        have P_h50_in : RowIs h50 1 8000 (some l) 0 0 := (P_hL_in).zfr (Fr.of e_h50) (by omega) (by omega)
        have FR_h50 : Fr h h50 (fun j => j = 68) := (FR_hL).zup e_h50 (by first | exact rfl | exact Or.inl rfl | exact Or.inr rfl | exact ⟨by decide, by decide⟩ | decide | omega)
        clear F_hL_67 F_hL_68 P_hL_in FR_hL e_h50
        refine WX.s1 (L' := [(0, .ref 67), (1, .ref 1), (2, .int (nI f)), (3, .int (nI k)), (4, .int ((nI i) + 1)), (5, .int (nI ((l).getD (f + i / 2) 0)))]) rfl rfl ?_
        rw [show ((nI i) + 1) = nI (i + 1) from nI_add i 1]
        refine WX.s1 rfl rfl ?_
        refine WX.keep (y := 29) [0, 1, 2, 3, 4] (show ([0, 1, 2, 3, 4, 5] : List Nat).Nodup by decide) rfl ?_
        rw [nI_clamp (by omega)] at e_g50
        refine ih (i + 1) h50 g50 (by omega) FR_h50 F_h50_67 F_h50_68 P_h50_in (fun j hj => ?_)
        by_cases z : j = i
        · rw [z, e_g50, pk_us]; unfold drF; rw [if_pos (by omega)]
        · rw [e_g50, pk_un z]; exact hI j (by omega)
  exact lp k 0 h wA (by omega) FR_h F_h_67 F_h_68 P_h_in (fun j hj => absurd hj (Nat.not_lt_zero j))
