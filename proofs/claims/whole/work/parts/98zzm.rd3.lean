/-! a share read: the whole call; the reference's -/
theorem rdS_n1 {l : List Nat} {E G last b : Nat} (h : E < b + 4) : rdS l E G last b = none := if_pos h
theorem rdS_n2 {l : List Nat} {E G last b : Nat} (h : ¬ E < b + 4) (h2 : G < 5 + rbN l b 4) : rdS l E G last b = none := by
  unfold rdS
  rw [if_neg h, if_pos h2]
theorem rdS_m {l : List Nat} {E G last b : Nat} (h : ¬ E < b + 4) (h2 : ¬ G < 5 + rbN l b 4) : rdS l E G last b = (rdL l E last 66 0 (2 ^ (5 + rbN l b 4)) (b + 4) (fun _ => 1)).map (fun x => (5 + rbN l b 4, x.1, x.2)) := by
  unfold rdS
  rw [if_neg h, if_neg h2]
theorem RdI.z {last o : Nat} : RdI last o 0 (2 ^ o) (fun _ => 1) := ⟨by show 0 + 2 ^ o = 2 ^ o; omega, fun _ _ => rfl, fun _ => (by decide : 1 ≤ 514), by omega⟩
set_option maxRecDepth 20000 in
theorem x_rdF0 {d n s : Nat} {h : Nat → aE} {k la M G f e : Nat} {l : List Nat} {od th : Int32} {pA rA fA wA oA sA : Nat → Int32} (hn : 190 ≤ n) (hk3 : 3 ≤ k) (hkn : k + 6 < n) (hla : la < 64) (hG : G ≤ 9) (hM : 2 ^ G ≤ M) (hMb : M < 2 ^ 20) (hf : f ≤ 8200) (he : e ≤ 8000) (F_h_k : h k = .inr (8, [.int (nI la), .ref (k + 1), .ref (k + 2), .ref (k + 3), .ref (k + 4), .ref (k + 5), .ref (k + 6), .int od, .int th])) (F_h__k_1_ : h (k + 1) = .inl (1, (la + 1), .inl pA)) (F_h__k_2_ : h (k + 2) = .inl (1, (la + 1), .inl rA)) (F_h__k_3_ : h (k + 3) = .inl (1, (la + 1), .inl fA)) (F_h__k_4_ : h (k + 4) = .inl (1, (la + 1), .inl wA)) (F_h__k_5_ : h (k + 5) = .inl (1, M, .inl oA)) (F_h__k_6_ : h (k + 6) = .inl (1, M, .inl sA)) (P_h_in : RowIs h 1 8000 (some l) 0 0) {Ψ : Option Value → aH → Prop} (k0 : rdS l (8 * e) G la (8 * f) = none → ∀ h', Fr h h' (fun j => k ≤ j ∧ j ≤ k + 6) → ShN h' k la M → Ψ (some (.int (-1))) (n, s, h')) (k1 : ∀ o u c, rdS l (8 * e) G la (8 * f) = some (o, u, c) → ∀ h', Fr h h' (fun j => k ≤ j ∧ j ≤ k + 6) → ShT h' k la M o u → Ψ (some (.int (nI ((c + 7) / 8)))) (n, s, h')) : WO (mM (d + 4)) 115 [.ref k, .ref 1, .int (nI f), .int (nI e), .int (nI G)] (n, s, h) Ψ := by
  refine WO.of (Nat.le_of_ble_eq_true rfl) ?_
  have FR_h : Fr h h (fun j => k ≤ j ∧ j ≤ k + 6) := Fr.rf
  show WX (lk tX8_readFrom) (mM (d + 3)) Ψ 0 [(0, .ref k), (1, .ref 1), (2, .int (nI f)), (3, .int (nI e)), (4, .int (nI G))] [] (n, s, h)
  refine WX.s1 rfl rfl ?_
  refine WX.s1 rfl rfl ?_
  refine WX.put1 (fs := [.int (nI la), .ref (k + 1), .ref (k + 2), .ref (k + 3), .ref (k + 4), .ref (k + 5), .ref (k + 6), .int od, .int th]) (fs' := [.int (nI la), .ref (k + 1), .ref (k + 2), .ref (k + 3), .ref (k + 4), .ref (k + 5), .ref (k + 6), .int od, .int 0]) rfl (by omega) (F_h_k) (Nat.le_of_ble_eq_true rfl) (rfl) rfl (fun h2 e_h2 => ?_)
  have F_h2_k : h2 k = .inr (8, [.int (nI la), .ref (k + 1), .ref (k + 2), .ref (k + 3), .ref (k + 4), .ref (k + 5), .ref (k + 6), .int od, .int 0]) := by rw [e_h2]; exact va_up_eq
  have F_h2__k_1_ : h2 (k + 1) = .inl (1, (la + 1), .inl pA) := by rw [e_h2, va_up_neq (by omega)]; exact F_h__k_1_
  have F_h2__k_2_ : h2 (k + 2) = .inl (1, (la + 1), .inl rA) := by rw [e_h2, va_up_neq (by omega)]; exact F_h__k_2_
  have F_h2__k_3_ : h2 (k + 3) = .inl (1, (la + 1), .inl fA) := by rw [e_h2, va_up_neq (by omega)]; exact F_h__k_3_
  have F_h2__k_4_ : h2 (k + 4) = .inl (1, (la + 1), .inl wA) := by rw [e_h2, va_up_neq (by omega)]; exact F_h__k_4_
  have F_h2__k_5_ : h2 (k + 5) = .inl (1, M, .inl oA) := by rw [e_h2, va_up_neq (by omega)]; exact F_h__k_5_
  have F_h2__k_6_ : h2 (k + 6) = .inl (1, M, .inl sA) := by rw [e_h2, va_up_neq (by omega)]; exact F_h__k_6_
  have P_h2_in : RowIs h2 1 8000 (some l) 0 0 := (P_h_in).zfr (Fr.of e_h2) (by omega) (by omega)
  have FR_h2 : Fr h h2 (fun j => k ≤ j ∧ j ≤ k + 6) := (FR_h).zup e_h2 (by first | exact rfl | exact Or.inl rfl | exact Or.inr rfl | exact ⟨by decide, by decide⟩ | decide | omega)
  clear F_h_k F_h__k_1_ F_h__k_2_ F_h__k_3_ F_h__k_4_ F_h__k_5_ F_h__k_6_ P_h_in FR_h e_h2
  refine WX.s1 rfl rfl ?_
  refine WX.get1 (fs := [.int (nI la), .ref (k + 1), .ref (k + 2), .ref (k + 3), .ref (k + 4), .ref (k + 5), .ref (k + 6), .int od, .int 0]) rfl (by omega) (F_h2_k) rfl ?_
  refine WX.s1 rfl rfl ?_
  refine WX.callC (vs := [.ref (k + 1), .int 0]) rfl rfl rfl (Nat.le_of_ble_eq_true rfl) rfl ?_
  refine w_fill (d := d + 2) (by omega) F_h2__k_1_ (by omega) (fun h10 gF fr10 F_h10__k_1_ hgF => ?_)
  have F_h10_k : h10 k = .inr (8, [.int (nI la), .ref (k + 1), .ref (k + 2), .ref (k + 3), .ref (k + 4), .ref (k + 5), .ref (k + 6), .int od, .int 0]) := (fr10 _ (by omega)).trans F_h2_k
  have F_h10__k_2_ : h10 (k + 2) = .inl (1, (la + 1), .inl rA) := (fr10 _ (by omega)).trans F_h2__k_2_
  have F_h10__k_3_ : h10 (k + 3) = .inl (1, (la + 1), .inl fA) := (fr10 _ (by omega)).trans F_h2__k_3_
  have F_h10__k_4_ : h10 (k + 4) = .inl (1, (la + 1), .inl wA) := (fr10 _ (by omega)).trans F_h2__k_4_
  have F_h10__k_5_ : h10 (k + 5) = .inl (1, M, .inl oA) := (fr10 _ (by omega)).trans F_h2__k_5_
  have F_h10__k_6_ : h10 (k + 6) = .inl (1, M, .inl sA) := (fr10 _ (by omega)).trans F_h2__k_6_
  have P_h10_in : RowIs h10 1 8000 (some l) 0 0 := (P_h2_in).zfr fr10 (by omega) (by omega)
  have FR_h10 : Fr h h10 (fun j => k ≤ j ∧ j ≤ k + 6) := (FR_h2).zsub fr10 (fun j hj => by first | exact hj | exact Or.inl hj | exact Or.inr hj | omega)
  show WX _ _ _ 13 [(0, .ref k), (1, .ref 1), (2, .int (nI f)), (3, .int (nI e)), (4, .int (nI G))] [] (n, s, h10)
  refine WX.s1 rfl rfl ?_
  refine WX.s1 rfl rfl ?_
  refine WX.s1 (S' := [.int (8 * (nI e))]) rfl rfl ?_
  rw [show (8 * (nI e)) = nI (8 * e) from (Int32.ofNat_mul 8 e).symm]
  refine WX.s1 (L' := [(0, .ref k), (1, .ref 1), (2, .int (nI f)), (3, .int (nI e)), (4, .int (nI G)), (5, .int (nI (8 * e)))]) rfl rfl ?_
  refine WX.s1 rfl rfl ?_
  refine WX.s1 rfl rfl ?_
  refine WX.s1 (S' := [.int (8 * (nI f))]) rfl rfl ?_
  rw [show (8 * (nI f)) = nI (8 * f) from (Int32.ofNat_mul 8 f).symm]
  refine WX.s1 rfl rfl ?_
  refine WX.s1 (S' := [.int ((nI (8 * f)) + 4)]) rfl rfl ?_
  rw [show ((nI (8 * f)) + 4) = nI (8 * f + 4) from nI_add (8 * f) 4]
  refine WX.s1 (L' := [(0, .ref k), (1, .ref 1), (2, .int (nI f)), (3, .int (nI e)), (4, .int (nI G)), (5, .int (nI (8 * e))), (6, .int (nI (8 * f + 4)))]) rfl rfl ?_
  refine WX.s1 rfl rfl ?_
  refine WX.s1 rfl rfl ?_
  refine WX.s1 rfl rfl ?_
  refine WX.s1 rfl rfl ?_
  refine WX.s1 rfl rfl ?_
  refine WX.s1 (S' := [.int (8 * (nI f)), .ref 1, .int 5, .ref k]) rfl rfl ?_
  rw [show (8 * (nI f)) = nI (8 * f) from (Int32.ofNat_mul 8 f).symm]
  refine WX.s1 rfl rfl ?_
  refine WX.callC (vs := [.ref 1, .int (nI (8 * f)), .int 4]) rfl rfl rfl (Nat.le_of_ble_eq_true rfl) ((P_h10_in).rcv (by omega)) ?_
  refine x_bits (d := d + 1) (b := 8 * f) (c := 4) hn (by omega) (by decide) P_h10_in ?_
  show WX _ _ _ 38 [(0, .ref k), (1, .ref 1), (2, .int (nI f)), (3, .int (nI e)), (4, .int (nI G)), (5, .int (nI (8 * e))), (6, .int (nI (8 * f + 4)))] [.int (nI (rbN l (8 * f) 4)), .int 5, .ref k] (n, s, h10)
  have hr4 := rb_lt l (8 * f) 4
  refine WX.s1 (S' := [.int (5 + (nI (rbN l (8 * f) 4))), .ref k]) rfl rfl ?_
  rw [show (5 + (nI (rbN l (8 * f) 4))) = nI (5 + rbN l (8 * f) 4) from nI_add 5 (rbN l (8 * f) 4)]
  refine WX.put1 (fs := [.int (nI la), .ref (k + 1), .ref (k + 2), .ref (k + 3), .ref (k + 4), .ref (k + 5), .ref (k + 6), .int od, .int 0]) (fs' := [.int (nI la), .ref (k + 1), .ref (k + 2), .ref (k + 3), .ref (k + 4), .ref (k + 5), .ref (k + 6), .int (nI (5 + rbN l (8 * f) 4)), .int 0]) rfl (by omega) (F_h10_k) (Nat.le_of_ble_eq_true rfl) (rfl) rfl (fun h39 e_h39 => ?_)
  have F_h39_k : h39 k = .inr (8, [.int (nI la), .ref (k + 1), .ref (k + 2), .ref (k + 3), .ref (k + 4), .ref (k + 5), .ref (k + 6), .int (nI (5 + rbN l (8 * f) 4)), .int 0]) := by rw [e_h39]; exact va_up_eq
  have F_h39__k_1_ : h39 (k + 1) = .inl (1, (la + 1), .inl gF) := by rw [e_h39, va_up_neq (by omega)]; exact F_h10__k_1_
  have F_h39__k_2_ : h39 (k + 2) = .inl (1, (la + 1), .inl rA) := by rw [e_h39, va_up_neq (by omega)]; exact F_h10__k_2_
  have F_h39__k_3_ : h39 (k + 3) = .inl (1, (la + 1), .inl fA) := by rw [e_h39, va_up_neq (by omega)]; exact F_h10__k_3_
  have F_h39__k_4_ : h39 (k + 4) = .inl (1, (la + 1), .inl wA) := by rw [e_h39, va_up_neq (by omega)]; exact F_h10__k_4_
  have F_h39__k_5_ : h39 (k + 5) = .inl (1, M, .inl oA) := by rw [e_h39, va_up_neq (by omega)]; exact F_h10__k_5_
  have F_h39__k_6_ : h39 (k + 6) = .inl (1, M, .inl sA) := by rw [e_h39, va_up_neq (by omega)]; exact F_h10__k_6_
  have P_h39_in : RowIs h39 1 8000 (some l) 0 0 := (P_h10_in).zfr (Fr.of e_h39) (by omega) (by omega)
  have FR_h39 : Fr h h39 (fun j => k ≤ j ∧ j ≤ k + 6) := (FR_h10).zup e_h39 (by first | exact rfl | exact Or.inl rfl | exact Or.inr rfl | exact ⟨by decide, by decide⟩ | decide | omega)
  clear F_h10_k F_h10__k_1_ F_h10__k_2_ F_h10__k_3_ F_h10__k_4_ F_h10__k_5_ F_h10__k_6_ P_h10_in FR_h10 e_h39
  refine WX.s1 rfl rfl ?_
  refine WX.s1 rfl rfl ?_
  refine WX.icmp rfl (fun c_46 => ?_) (fun c_46 => ?_)
  · skip
    have n_46 : (8 * e) < (8 * f + 4) := (nI_ltI (a := 8 * e) (b := 8 * f + 4) (by omega) (by omega)).mp c_46
    refine WX.s1 rfl rfl ?_
    exact WX.ret1 rfl (k0 (rdS_n1 (by omega)) h39 FR_h39 ⟨_, gF, rA, fA, wA, oA, sA, F_h39_k, F_h39__k_1_, F_h39__k_2_, F_h39__k_3_, F_h39__k_4_, F_h39__k_5_, F_h39__k_6_⟩)
  · skip
    have n_46 : (8 * f + 4) ≤ (8 * e) := Nat.le_of_not_lt (fun zz_ => c_46 ((nI_ltI (a := 8 * e) (b := 8 * f + 4) (by omega) (by omega)).mpr zz_))
    refine WX.s1 rfl rfl ?_
    refine WX.get1 (fs := [.int (nI la), .ref (k + 1), .ref (k + 2), .ref (k + 3), .ref (k + 4), .ref (k + 5), .ref (k + 6), .int (nI (5 + rbN l (8 * f) 4)), .int 0]) rfl (by omega) (F_h39_k) rfl ?_
    refine WX.s1 rfl rfl ?_
    refine WX.icmp rfl (fun c_55 => ?_) (fun c_55 => ?_)
    · skip
      have n_55 : G < (5 + rbN l (8 * f) 4) := (nI_ltI (a := G) (b := 5 + rbN l (8 * f) 4) (by omega) (by omega)).mp c_55
      refine WX.s1 rfl rfl ?_
      exact WX.ret1 rfl (k0 (rdS_n2 (by omega) (by omega)) h39 FR_h39 ⟨_, gF, rA, fA, wA, oA, sA, F_h39_k, F_h39__k_1_, F_h39__k_2_, F_h39__k_3_, F_h39__k_4_, F_h39__k_5_, F_h39__k_6_⟩)
    · skip
      have n_55 : (5 + rbN l (8 * f) 4) ≤ G := Nat.le_of_not_lt (fun zz_ => c_55 ((nI_ltI (a := G) (b := 5 + rbN l (8 * f) 4) (by omega) (by omega)).mpr zz_))
      have ho9 : 2 ^ (5 + rbN l (8 * f) 4) ≤ 2 ^ G := Nat.pow_le_pow_right (by decide) (by omega)
      have ho2 : 2 ^ (5 + rbN l (8 * f) 4) ≤ 2 ^ 9 := Nat.pow_le_pow_right (by decide) (by omega)
      refine WX.s1 rfl rfl ?_
      refine WX.s1 rfl rfl ?_
      refine WX.get1 (fs := [.int (nI la), .ref (k + 1), .ref (k + 2), .ref (k + 3), .ref (k + 4), .ref (k + 5), .ref (k + 6), .int (nI (5 + rbN l (8 * f) 4)), .int 0]) rfl (by omega) (F_h39_k) rfl ?_
      refine WX.s1 (S' := [.int (1 <<< ((nI (5 + rbN l (8 * f) 4)) &&& 31))]) rfl rfl ?_
      rw [sh1 (5 + rbN l (8 * f) 4) (by omega)]
      refine WX.s1 rfl rfl ?_
      refine WX.get1 (fs := [.int (nI la), .ref (k + 1), .ref (k + 2), .ref (k + 3), .ref (k + 4), .ref (k + 5), .ref (k + 6), .int (nI (5 + rbN l (8 * f) 4)), .int 0]) rfl (by omega) (F_h39_k) rfl ?_
      refine WX.len1 rfl (Or.inl ⟨by omega, by decide⟩) (F_h39__k_5_) ?_
      refine WX.icmp rfl (fun c_69 => ?_) (fun c_69 => absurd ((nI_leI (a := 2 ^ (5 + rbN l (8 * f) 4)) (b := M) (by omega) (by omega)).mpr (by omega)) c_69)
      clear c_69
      refine WX.s1 rfl rfl ?_
      refine WX.s1 rfl rfl ?_
      refine WX.get1 (fs := [.int (nI la), .ref (k + 1), .ref (k + 2), .ref (k + 3), .ref (k + 4), .ref (k + 5), .ref (k + 6), .int (nI (5 + rbN l (8 * f) 4)), .int 0]) rfl (by omega) (F_h39_k) rfl ?_
      refine WX.s1 (S' := [.int (1 <<< ((nI (5 + rbN l (8 * f) 4)) &&& 31))]) rfl rfl ?_
      rw [sh1 (5 + rbN l (8 * f) 4) (by omega)]
      refine WX.s1 (L' := [(0, .ref k), (1, .ref 1), (2, .int (nI f)), (3, .int (nI e)), (4, .int (nI G)), (5, .int (nI (8 * e))), (6, .int (nI (8 * f + 4))), (7, .int (nI (2 ^ (5 + rbN l (8 * f) 4))))]) rfl rfl ?_
      refine WX.s1 rfl rfl ?_
      refine WX.s1 (L' := [(0, .ref k), (1, .ref 1), (2, .int (nI f)), (3, .int (nI e)), (4, .int (nI G)), (5, .int (nI (8 * e))), (6, .int (nI (8 * f + 4))), (7, .int (nI (2 ^ (5 + rbN l (8 * f) 4)))), (8, .int 0)]) rfl rfl ?_
      refine WX.keep (y := 115) [0, 1, 5, 6, 7, 8] (show ([0, 1, 2, 3, 4, 5, 6, 7, 8] : List Nat).Nodup by decide) rfl ?_
      have em := rdS_m (l := l) (last := la) (show ¬ 8 * e < 8 * f + 4 by omega) (show ¬ G < (5 + rbN l (8 * f) 4) by omega)
      have hU0 : UIs gF (fun _ => 1) (la + 1) := fun j hj => ⟨by rw [hgF j hj]; rfl, (by decide : 1 ≤ 100000)⟩
      show WX (lk tX8_readFrom) (mM (d + 3)) Ψ 85 [(0, .ref k), (1, .ref 1), (5, .int (nI (8 * e))), (6, .int (nI (8 * f + 4))), (7, .int (nI (2 ^ (5 + rbN l (8 * f) 4)))), (8, .int (nI 0))] [] (n, s, h39)
      refine x_rdL (d := d + 1) (o := (5 + rbN l (8 * f) 4)) (u := fun _ => 1) 66 hn hk3 hkn hla (by omega) (by omega) (by omega) RdI.z (by omega) hU0 F_h39_k F_h39__k_1_ P_h39_in (fun z h9 p9 f9 F9 => ?_) (fun u9 c9 z h9 p9 f9 F9 U9 => ?_)
      · exact k0 (by rw [em, z]; rfl) h9 ((FR_h39).ztr ((f9).mono (fun j hj => by omega))) ⟨_, p9, _, _, _, _, _, (f9 _ (by omega)).trans F_h39_k, F9, (f9 _ (by omega)).trans F_h39__k_2_, (f9 _ (by omega)).trans F_h39__k_3_, (f9 _ (by omega)).trans F_h39__k_4_, (f9 _ (by omega)).trans F_h39__k_5_, (f9 _ (by omega)).trans F_h39__k_6_⟩
      · have eS : rdS l (8 * e) G la (8 * f) = some ((5 + rbN l (8 * f) 4), u9, c9) := by rw [em, z]; rfl
        obtain ⟨r1, r2, r3, r4, r5, r6⟩ := rdS_ok hG eS
        have F_h9_k : h9 k = .inr (8, [.int (nI la), .ref (k + 1), .ref (k + 2), .ref (k + 3), .ref (k + 4), .ref (k + 5), .ref (k + 6), .int (nI (5 + rbN l (8 * f) 4)), .int 0]) := (f9 _ (by omega)).trans F_h39_k
        have F_h9__k_1_ := F9
        have F_h9__k_2_ : h9 (k + 2) = .inl (1, (la + 1), .inl rA) := (f9 _ (by omega)).trans F_h39__k_2_
        have F_h9__k_3_ : h9 (k + 3) = .inl (1, (la + 1), .inl fA) := (f9 _ (by omega)).trans F_h39__k_3_
        have F_h9__k_4_ : h9 (k + 4) = .inl (1, (la + 1), .inl wA) := (f9 _ (by omega)).trans F_h39__k_4_
        have F_h9__k_5_ : h9 (k + 5) = .inl (1, M, .inl oA) := (f9 _ (by omega)).trans F_h39__k_5_
        have F_h9__k_6_ : h9 (k + 6) = .inl (1, M, .inl sA) := (f9 _ (by omega)).trans F_h39__k_6_
        have P_h9_in : RowIs h9 1 8000 (some l) 0 0 := (P_h39_in).zfr f9 (by omega) (by omega)
        have FR_h9 : Fr h h9 (fun j => k ≤ j ∧ j ≤ k + 6) := (FR_h39).ztr ((f9).mono (fun j hj => by omega))
        refine WX.s1 rfl rfl ?_
        refine WX.callC (vs := [.ref k]) rfl rfl rfl (Nat.le_of_ble_eq_true rfl) (rcv_ok (by omega) F_h9_k) ?_
        refine x_spreadS (d := d + 1) (o := (5 + rbN l (8 * f) 4)) hkn hla (Or.inr (by omega)) (by omega) (by omega) hMb U9 r3 F_h9_k F_h9__k_1_ F_h9__k_3_ F_h9__k_4_ F_h9__k_5_ F_h9__k_6_ (fun hs fA2 wA2 oA2 sA2 frs s1 s2 s3 s4 s5 s6 s7 s8 s9 s10 => ?_)
        have FR_hs : Fr h hs (fun j => k ≤ j ∧ j ≤ k + 6) := (FR_h9).ztr ((frs).mono (fun j hj => by omega))
        show WX _ _ _ 297 [(0, .ref k), (6, .int (nI c9))] [] (n, s, hs)
        refine WX.s1 rfl rfl ?_
        refine WX.s1 rfl rfl ?_
        refine WX.s1 (S' := [.int ((nI c9) + 7)]) rfl rfl ?_
        rw [show ((nI c9) + 7) = nI (c9 + 7) from nI_add c9 7]
        refine WX.s1 rfl rfl ?_
        refine WX.s1 (S' := [.int ((nI (c9 + 7)) >>> (3 &&& 31))]) rfl rfl ?_
        rw [show nI (c9 + 7) >>> ((3 : Int32) &&& 31) = nI ((c9 + 7) / 8) from shrN (k := 3) (by omega) (by decide)]
        exact WX.ret1 rfl (k1 _ u9 c9 eS hs FR_hs ⟨p9, rA, fA2, wA2, oA2, sA2, ⟨s1, s2, (frs _ (by omega)).trans F_h9__k_2_, s3, s4, s5, s6⟩, U9, s7, s8, s9, s10, r3⟩)
theorem x_rdF {d n s : Nat} {h : Nat → aE} {k la M G f e : Nat} {l : List Nat} (hn : 190 ≤ n) (hk3 : 3 ≤ k) (hkn : k + 6 < n) (hla : la < 64) (hG : G ≤ 9) (hM : 2 ^ G ≤ M) (hMb : M < 2 ^ 20) (hf : f ≤ 8200) (he : e ≤ 8000) (hX : ShX h k la M) (hR : RowIs h 1 8000 (some l) 0 0) {Ψ : Option Value → aH → Prop} (k0 : rdS l (8 * e) G la (8 * f) = none → ∀ h', Fr h h' (fun j => k ≤ j ∧ j ≤ k + 6) → ShN h' k la M → Ψ (some (.int (-1))) (n, s, h')) (k1 : ∀ o u c, rdS l (8 * e) G la (8 * f) = some (o, u, c) → ∀ h', Fr h h' (fun j => k ≤ j ∧ j ≤ k + 6) → ShT h' k la M o u → Ψ (some (.int (nI ((c + 7) / 8)))) (n, s, h')) : WO (mM (d + 4)) 115 [.ref k, .ref 1, .int (nI f), .int (nI e), .int (nI G)] (n, s, h) Ψ := by
  obtain ⟨od, th, pA, rA, fA, wA, oA, sA, q0, q1, q2, q3, q4, q5, q6⟩ := hX
  exact x_rdF0 hn hk3 hkn hla hG hM hMb hf he q0 q1 q2 q3 q4 q5 q6 hR k0 k1
set_option maxRecDepth 20000 in
theorem m_rdZ {d n s : Nat} {h : Nat → aE} {m : Nat} {I : Nat → Int32} {AR : Nat → Nat → Int32} {LN : Nat → Int64} {l : List Nat} {la o E a b q : Nat} (t : Nat) (hm : m + 43 < n) (M_h : MAt h m I AR LN) (hF : InIs I AR l) (hl : ∀ i, (l).getD i 0 < 256) (hle : (l).length ≤ 8000) (hE : E ≤ 8 * (l).length) (hla : la < 64) (hb : b ≤ E) (hq : q ≤ la + 1) (ha : a < 2 ^ 20) (ht : la + 1 < q + 3 * t) (K_I_60 : I 60 = (nI b)) (K_I_61 : I 61 = (nI E)) {Ψ : Option Value → aH → Prop} (k0 : rdZ l E la t q b = none → ∀ h' I', Fr h h' (inM m) → MAt h' m I' AR LN → Fi I I' (fun f => f = 60) → Ψ (some (.int (-1))) (n, s, h')) (k1 : ∀ q' b', rdZ l E la t q b = some (q', b') → ∀ h' I', Fr h h' (inM m) → MAt h' m I' AR LN → Fi I I' (fun f => f = 60) → I' 60 = nI b' → WX (lk tX12_readShare) (mM (d + 1)) Ψ 52 [(0, .ref m), (2, .int (nI la)), (3, .int (nI o)), (4, .int (nI a)), (5, .int (nI q'))] [] (n, s, h')) : WX (lk tX12_readShare) (mM (d + 1)) Ψ 193 [(0, .ref m), (2, .int (nI la)), (3, .int (nI o)), (4, .int (nI a)), (5, .int (nI q))] [] (n, s, h) := by
  induction t generalizing h I b q with
  | zero => omega
  | succ t ih =>
    have FR_h : Fr h h (inM m) := Fr.rf
    have FI_I : Fi I I (fun f => f = 60) := Fi.rf
    have hz4 := rb_lt l b 2
    refine WX.s1 rfl rfl ?_
    refine WX.s1 rfl rfl ?_
    refine WX.callC (vs := [.ref m, .int (nI 2)]) rfl rfl rfl (Nat.le_of_ble_eq_true rfl) ((M_h).rcv hm) ?_
    refine m_take (d := d) (c := 2) hm M_h hF hl hle hE (by omega) (by omega) K_I_60 K_I_61 (fun hlt195 => ?_) (fun hge195 h195n1 I195n1 fr195n1 M_h195n1 fi195n1 K_I195n1_60 => ?_)
    · skip
      show WX _ _ _ 198 [(0, .ref m), (2, .int (nI la)), (3, .int (nI o)), (4, .int (nI a)), (5, .int (nI q))] [.int (-1)] (n, s, h)
      refine WX.s1 (L' := [(0, .ref m), (2, .int (nI la)), (3, .int (nI o)), (4, .int (nI a)), (5, .int (nI q)), (10, .int (-1))]) rfl rfl ?_
      refine WX.s1 rfl rfl ?_
      refine WX.if_ rfl (fun c_202 => absurd c_202 (by decide)) (fun c_202 => ?_)
      clear c_202
      refine WX.s1 rfl rfl ?_
      exact WX.ret1 rfl (k0 (rdZ_0 (by omega)) h I FR_h M_h FI_I)
    · skip
      have FR_h195n1 := (FR_h).ztr fr195n1
      have FI_I195n1 : Fi I I195n1 (fun f => f = 60) := (FI_I).zsub fi195n1 (fun j hj => hj)
      have K_I195n1_61 : I195n1 61 = (nI E) := (fi195n1 61 (by decide)).trans K_I_61
      have hF195n1 : InIs I195n1 AR l := ⟨(fi195n1 1 (by decide)).trans hF.1, hF.2⟩
      show WX _ _ _ 198 [(0, .ref m), (2, .int (nI la)), (3, .int (nI o)), (4, .int (nI a)), (5, .int (nI q))] [.int (nI (rbN l b 2))] (n, s, h195n1)
      refine WX.s1 (L' := [(0, .ref m), (2, .int (nI la)), (3, .int (nI o)), (4, .int (nI a)), (5, .int (nI q)), (10, .int (nI (rbN l b 2)))]) rfl rfl ?_
      refine WX.s1 rfl rfl ?_
      refine WX.if_ rfl (fun c_202 => ?_) (fun c_202 => absurd ((nI_leI (a := 0) (b := rbN l b 2) (by omega) (by omega)).mpr (by omega)) c_202)
      clear c_202
      refine WX.s1 rfl rfl ?_
      refine WX.s1 rfl rfl ?_
      refine WX.s1 (S' := [.int ((nI q) + (nI (rbN l b 2)))]) rfl rfl ?_
      rw [show ((nI q) + (nI (rbN l b 2))) = nI (q + rbN l b 2) from nI_add q (rbN l b 2)]
      refine WX.s1 (L' := [(0, .ref m), (2, .int (nI la)), (3, .int (nI o)), (4, .int (nI a)), (5, .int (nI (q + rbN l b 2))), (10, .int (nI (rbN l b 2)))]) rfl rfl ?_
      refine WX.s1 rfl rfl ?_
      refine WX.s1 rfl rfl ?_
      refine WX.s1 rfl rfl ?_
      refine WX.s1 (S' := [.int ((nI la) + 1), .int (nI (q + rbN l b 2))]) rfl rfl ?_
      rw [show ((nI la) + 1) = nI (la + 1) from nI_add la 1]
      refine WX.icmp rfl (fun c_219 => ?_) (fun c_219 => ?_)
      · skip
        have n_219 : (q + rbN l b 2) ≤ (la + 1) := (nI_leI (a := q + rbN l b 2) (b := la + 1) (by omega) (by omega)).mp c_219
        refine WX.s1 rfl rfl ?_
        refine WX.s1 rfl rfl ?_
        refine WX.icmp rfl (fun c_190 => ?_) (fun c_190 => ?_)
        · skip
          have n_190 : ¬ (rbN l b 2) = 3 := fun zz_ => c_190 ((nI_eq (a := rbN l b 2) (b := 3) (by omega) (by omega)).mpr zz_)
          refine WX.s1 rfl rfl ?_
          refine WX.keep (y := 216) [0, 2, 3, 4, 5] (show ([0, 2, 3, 4, 5, 10] : List Nat).Nodup by decide) rfl ?_
          exact k1 (q + (rbN l b 2)) (b + 2) (rdZ_4 (by omega) (by omega) (by omega)) h195n1 I195n1 FR_h195n1 M_h195n1 FI_I195n1 K_I195n1_60
        · skip
          have n_190 : (rbN l b 2) = 3 := (nI_eq (a := rbN l b 2) (b := 3) (by omega) (by omega)).mp (Classical.not_not.mp c_190)
          have ez : (rbN l b 2) = 3 := by omega
          have e3 := rdZ_3 (l := l) (E := E) (last := la) (t := t) (s := q) (b := b) (by omega) (by omega) ez
          rw [e3] at k0
          simp only [e3] at k1
          rw [ez]
          refine WX.keep (y := 216) [0, 2, 3, 4, 5] (show ([0, 2, 3, 4, 5, 10] : List Nat).Nodup by decide) rfl ?_
          exact ih M_h195n1 hF195n1 (by omega) (by omega) (by omega) K_I195n1_60 K_I195n1_61 (fun z h9 I9 f9 M9 i9 => k0 z h9 I9 ((FR_h195n1).ztr f9) M9 ((FI_I195n1).ztr i9)) (fun q9 b9 z h9 I9 f9 M9 i9 => k1 q9 b9 z h9 I9 ((FR_h195n1).ztr f9) M9 ((FI_I195n1).ztr i9))
      · skip
        have n_219 : (la + 1) < (q + rbN l b 2) := Nat.lt_of_not_le (fun zz_ => c_219 ((nI_leI (a := q + rbN l b 2) (b := la + 1) (by omega) (by omega)).mpr zz_))
        refine WX.s1 rfl rfl ?_
        exact WX.ret1 rfl (k0 (rdZ_1 (by omega) (by omega)) h195n1 I195n1 FR_h195n1 M_h195n1 FI_I195n1)
set_option maxRecDepth 20000 in
theorem m_rdL {d n s : Nat} {h : Nat → aE} {m : Nat} {I : Nat → Int32} {AR : Nat → Nat → Int32} {LN : Nat → Int64} {l : List Nat} {la o E a b q : Nat} {u : Nat → Nat} (t : Nat) (hm : m + 43 < n) (M_h : MAt h m I AR LN) (hF : InIs I AR l) (hl : ∀ i, (l).getD i 0 < 256) (hle : (l).length ≤ 8000) (hE : E ≤ 8 * (l).length) (hla : la < 64) (hb : b ≤ E) (ho : o ≤ 9) (hI : RdI la o q a u) (ht : la + 1 < q + t) (hT : (∀ j, j < 64 → AR 30 j = qI (u j))) (K_I_60 : I 60 = (nI b)) (K_I_61 : I 61 = (nI E)) {Ψ : Option Value → aH → Prop} (k0 : rdL l E la t q a b u = none → ∀ h' I' A', Fr h h' (inM m) → MAt h' m I' A' LN → Fi I I' (fun f => f = 60) → FaS AR A' (fun b => b = 30) → Ψ (some (.int (-1))) (n, s, h')) (k1 : ∀ u' b', rdL l E la t q a b u = some (u', b') → ∀ h' I' A', Fr h h' (inM m) → MAt h' m I' A' LN → Fi I I' (fun f => f = 60) → FaS AR A' (fun b => b = 30) → I' 60 = nI b' → (∀ j, j < 64 → A' 30 j = qI (u' j)) → WX (lk tX12_readShare) (mM (d + 1)) Ψ 227 [(0, .ref m), (3, .int (nI o))] [] (n, s, h')) : WX (lk tX12_readShare) (mM (d + 1)) Ψ 52 [(0, .ref m), (2, .int (nI la)), (3, .int (nI o)), (4, .int (nI a)), (5, .int (nI q))] [] (n, s, h) := by
  induction t generalizing h I AR b q a u with
  | zero => have := hI.2.2.2; omega
  | succ t ih =>
    have FR_h : Fr h h (inM m) := Fr.rf
    have FI_I : Fi I I (fun f => f = 60) := Fi.rf
    have FA_AR : FaS AR AR (fun b => b = 30) := FaS.rf
    have hq1 := hI.2.2.2
    have ha5 : a ≤ 512 := by
      have h1 := hI.1
      have : 2 ^ o ≤ 2 ^ 9 := Nat.pow_le_pow_right (by decide) ho
      omega
    obtain ⟨g1, g2, g3, g4⟩ := lgL_ok ha5
    have hr0 := rb_lt l b (lgL a)
    have hbt := bt_lt l (b + lgL a)
    have hrm : rmN a = 2 ^ (lgL a + 1) - 2 - a := rfl
    have hb1 : rbN l (b + lgL a) 1 = btN l (b + lgL a) := by show 0 + btN l (b + lgL a + 0) * 2 ^ 0 = _; rw [Nat.add_zero]; omega
    refine WX.s1 rfl rfl ?_
    refine WX.if_ rfl (fun c_54 => ?_) (fun c_54 => ?_)
    · skip
      have n_54 : a ≤ 0 := (nI_leI (a := a) (b := 0) (by omega) (by omega)).mp c_54
      refine WX.keep (y := 216) [0, 3] (show ([0, 2, 3, 4, 5] : List Nat).Nodup by decide) rfl ?_
      obtain rfl : a = 0 := by omega
      exact k1 u b rdL_0 h I AR FR_h M_h FI_I FA_AR K_I_60 hT
    · skip
      have n_54 : 0 < a := Nat.lt_of_not_le (fun zz_ => c_54 ((nI_leI (a := a) (b := 0) (by omega) (by omega)).mpr zz_))
      have h0a : ¬ a = 0 := by omega
      refine WX.s1 rfl rfl ?_
      refine WX.s1 rfl rfl ?_
      refine WX.icmp rfl (fun c_60 => ?_) (fun c_60 => ?_)
      · skip
        have n_60 : q ≤ la := (nI_leI (a := q) (b := la) (by omega) (by omega)).mp c_60
        have hqa : ¬ la < q := by omega
        refine WX.s1 rfl rfl ?_
        refine WX.s1 rfl rfl ?_
        refine WX.s1 (S' := [.int ((nI a) + 1)]) rfl rfl ?_
        rw [nI_1 a]
        refine WX.callC (vs := [.int (nI (a + 1))]) rfl rfl rfl (Nat.le_of_ble_eq_true rfl) rfl ?_
        refine m_log (d := d) (by omega) (by omega) (fun g hg1 hg2 => ?_)
        obtain rfl := lg_uq hg1 hg2
        show WX _ _ _ 72 [(0, .ref m), (2, .int (nI la)), (3, .int (nI o)), (4, .int (nI a)), (5, .int (nI q))] [.int (nI (lgL a))] (n, s, h)
        refine WX.s1 (L' := [(0, .ref m), (2, .int (nI la)), (3, .int (nI o)), (4, .int (nI a)), (5, .int (nI q)), (6, .int (nI (lgL a)))]) rfl rfl ?_
        refine WX.s1 rfl rfl ?_
        refine WX.s1 rfl rfl ?_
        refine WX.s1 (S' := [.int (1 <<< ((nI (lgL a)) &&& 31))]) rfl rfl ?_
        rw [sh1 (lgL a) (by omega)]
        refine WX.s1 (L' := [(0, .ref m), (2, .int (nI la)), (3, .int (nI o)), (4, .int (nI a)), (5, .int (nI q)), (6, .int (nI (lgL a))), (7, .int (nI (2 ^ lgL a)))]) rfl rfl ?_
        refine WX.s1 rfl rfl ?_
        refine WX.s1 rfl rfl ?_
        refine WX.s1 (S' := [.int (2 * (nI (2 ^ lgL a)))]) rfl rfl ?_
        rw [show (2 : Int32) * nI (2 ^ lgL a) = nI (2 ^ (lgL a + 1)) from (Int32.ofNat_mul 2 (2 ^ lgL a)).symm.trans (congrArg nI (g3).symm)]
        refine WX.s1 rfl rfl ?_
        refine WX.s1 (S' := [.int ((nI (2 ^ (lgL a + 1))) - 2)]) rfl rfl ?_
        rw [show nI (2 ^ (lgL a + 1)) - 2 = nI (2 ^ (lgL a + 1) - 2) from nI_subN (b := 2) (by omega)]
        refine WX.s1 rfl rfl ?_
        refine WX.s1 (S' := [.int ((nI (2 ^ (lgL a + 1) - 2)) - (nI a))]) rfl rfl ?_
        rw [nI_subN (show a ≤ 2 ^ (lgL a + 1) - 2 by omega), ← hrm]
        refine WX.s1 (L' := [(0, .ref m), (2, .int (nI la)), (3, .int (nI o)), (4, .int (nI a)), (5, .int (nI q)), (6, .int (nI (lgL a))), (7, .int (nI (2 ^ lgL a))), (8, .int (nI (rmN a)))]) rfl rfl ?_
        refine WX.s1 rfl rfl ?_
        refine WX.s1 rfl rfl ?_
        refine WX.callC (vs := [.ref m, .int (nI (lgL a))]) rfl rfl rfl (Nat.le_of_ble_eq_true rfl) ((M_h).rcv hm) ?_
        refine m_take (d := d) (c := lgL a) hm M_h hF hl hle hE (by omega) (by omega) K_I_60 K_I_61 (fun hlt94 => ?_) (fun hge94 h94n1 I94n1 fr94n1 M_h94n1 fi94n1 K_I94n1_60 => ?_)
        · skip
          show WX _ _ _ 97 [(0, .ref m), (2, .int (nI la)), (3, .int (nI o)), (4, .int (nI a)), (5, .int (nI q)), (6, .int (nI (lgL a))), (7, .int (nI (2 ^ lgL a))), (8, .int (nI (rmN a)))] [.int (-1)] (n, s, h)
          refine WX.s1 (L' := [(0, .ref m), (2, .int (nI la)), (3, .int (nI o)), (4, .int (nI a)), (5, .int (nI q)), (6, .int (nI (lgL a))), (7, .int (nI (2 ^ lgL a))), (8, .int (nI (rmN a))), (9, .int (-1))]) rfl rfl ?_
          refine WX.s1 rfl rfl ?_
          refine WX.if_ rfl (fun c_101 => absurd c_101 (by decide)) (fun c_101 => ?_)
          clear c_101
          refine WX.s1 rfl rfl ?_
          exact WX.ret1 rfl (k0 (rdL_n h0a hqa (by unfold rdU; rw [if_pos (by omega)])) h I AR FR_h M_h FI_I FA_AR)
        · skip
          have FR_h94n1 := (FR_h).ztr fr94n1
          have FI_I94n1 : Fi I I94n1 (fun f => f = 60) := (FI_I).zsub fi94n1 (fun j hj => hj)
          have K_I94n1_61 : I94n1 61 = (nI E) := (fi94n1 61 (by decide)).trans K_I_61
          have hF94n1 : InIs I94n1 AR l := ⟨(fi94n1 1 (by decide)).trans hF.1, hF.2⟩
          show WX _ _ _ 97 [(0, .ref m), (2, .int (nI la)), (3, .int (nI o)), (4, .int (nI a)), (5, .int (nI q)), (6, .int (nI (lgL a))), (7, .int (nI (2 ^ lgL a))), (8, .int (nI (rmN a)))] [.int (nI (rbN l b (lgL a)))] (n, s, h94n1)
          refine WX.s1 (L' := [(0, .ref m), (2, .int (nI la)), (3, .int (nI o)), (4, .int (nI a)), (5, .int (nI q)), (6, .int (nI (lgL a))), (7, .int (nI (2 ^ lgL a))), (8, .int (nI (rmN a))), (9, .int (nI (rbN l b (lgL a))))]) rfl rfl ?_
          refine WX.s1 rfl rfl ?_
          refine WX.if_ rfl (fun c_101 => ?_) (fun c_101 => absurd ((nI_leI (a := 0) (b := rbN l b (lgL a)) (by omega) (by omega)).mpr (by omega)) c_101)
          clear c_101
          refine WX.s1 rfl rfl ?_
          refine WX.s1 rfl rfl ?_
          refine WX.icmp rfl (fun c_110 => ?_) (fun c_110 => ?_)
          · skip
            have n_110 : (rbN l b (lgL a)) < (rmN a) := (nI_ltI (a := rbN l b (lgL a)) (b := rmN a) (by omega) (by omega)).mp c_110
            have hx := (rdU_x (l := l) (E := E) (b := b) (a := a) (x := 0) (v := (rbN l b (lgL a))) (Or.inl ⟨rfl, n_110, rfl⟩)).2 (by omega)
            obtain ⟨v, ev⟩ : ∃ v, v = (rbN l b (lgL a)) := ⟨_, rfl⟩
            rw [← ev] at hx ⊢
            obtain ⟨c, ec⟩ : ∃ c, c = b + 0 + lgL a := ⟨_, rfl⟩
            rw [← ec] at hx
            have K60 : I94n1 60 = nI c := by rw [K_I94n1_60, ec]; exact congrArg nI (by omega)
            obtain ⟨hv1, hcE, hmv⟩ := rdU_v (by omega) ha5 hx
            clear ev
            refine WX.keep (y := 216) [0, 2, 3, 4, 5, 9] (show ([0, 2, 3, 4, 5, 6, 7, 8, 9] : List Nat).Nodup by decide) rfl ?_
            have K_I94n1_60 := K60
            refine WX.s1 rfl rfl ?_
            refine WX.mget rfl hm M_h94n1 rfl ?_
            refine WX.s1 rfl rfl ?_
            refine WX.s1 rfl rfl ?_
            refine WX.s1 rfl rfl ?_
            refine WX.s1 (S' := [.int ((nI v) - 1), .int (nI q), .ref (m + 30)]) rfl rfl ?_
            rw [show nI v - 1 = qI v from nI_m1 v]
            refine WX.mast (c := 30) rfl hm M_h94n1 (by decide) (by decide) (by decide) (by decide) (vp_in_nI (N := 64) (by omega) (by decide)) (fun h158n2 A158n2 e_A158n2 M_h158n2 frh158n2 => ?_)
            try dsimp only at e_A158n2
            have FR_h158n2 := (FR_h94n1).ztr frh158n2
            clear M_h94n1 FR_h94n1 frh158n2
            rw [nI_clamp (by omega)] at e_A158n2
            have hT2 : (∀ j, j < 64 → A158n2 30 j = qI ((updN u q v) j)) := fun j hj => by
              by_cases z : j = q
              · rw [z, e_A158n2, upA_same, pk_us, updN_s]
              · rw [e_A158n2, upA_same, pk_un z, updN_n z]; exact hT j hj
            have FA_A158n2 : FaS AR A158n2 (fun b => b = 30) := (FA_AR).ast e_A158n2 rfl
            have hF9 : InIs I94n1 A158n2 l := ⟨hF94n1.1, by rw [e_A158n2, upA_ne (by decide)]; exact hF94n1.2⟩
            refine WX.s1 rfl rfl ?_
            refine WX.s1 rfl rfl ?_
            refine WX.s1 rfl rfl ?_
            refine WX.s1 (S' := [.int ((nI v) - 1), .int (nI a)]) rfl rfl ?_
            rw [show nI v - 1 = qI v from nI_m1 v]
            refine WX.callC (vs := [.int (qI v)]) rfl rfl rfl (Nat.le_of_ble_eq_true rfl) rfl ?_
            refine m_mass (d := d) (by omega) ?_
            show WX _ _ _ 168 [(0, .ref m), (2, .int (nI la)), (3, .int (nI o)), (4, .int (nI a)), (5, .int (nI q)), (9, .int (nI v))] [.int (nI (massU v)), .int (nI a)] (n, s, h158n2)
            refine WX.s1 (S' := [.int ((nI a) - (nI (massU v)))]) rfl rfl ?_
            rw [nI_subN hmv]
            refine WX.s1 (L' := [(0, .ref m), (2, .int (nI la)), (3, .int (nI o)), (4, .int (nI (a - massU v))), (5, .int (nI q)), (9, .int (nI v))]) rfl rfl ?_
            refine WX.s1 (L' := [(0, .ref m), (2, .int (nI la)), (3, .int (nI o)), (4, .int (nI (a - massU v))), (5, .int ((nI q) + 1)), (9, .int (nI v))]) rfl rfl ?_
            rw [nI_1 q]
            refine WX.s1 rfl rfl ?_
            refine WX.s1 rfl rfl ?_
            refine WX.icmp rfl (fun c_177 => ?_) (fun c_177 => ?_)
            · skip
              have n_177 : ¬ v = 1 := fun zz_ => c_177 ((nI_eq (a := v) (b := 1) (by omega) (by omega)).mpr zz_)
              refine WX.s1 rfl rfl ?_
              refine WX.s1 (L' := [(0, .ref m), (2, .int (nI la)), (3, .int (nI o)), (4, .int (nI (a - massU v))), (5, .int (nI (q + 1))), (9, .int (nI v)), (10, .int 0)]) rfl rfl ?_
              refine WX.s1 rfl rfl ?_
              refine WX.s1 rfl rfl ?_
              refine WX.icmp rfl (fun c_190 => ?_) (fun c_190 => absurd (by decide) c_190)
              clear c_190
              refine WX.s1 rfl rfl ?_
              have ev := rdL_v (t := t) (u := u) h0a hqa hx (by omega)
              rw [ev] at k0
              simp only [ev] at k1
              refine WX.keep (y := 216) [0, 2, 3, 4, 5] (show ([0, 2, 3, 4, 5, 9, 10] : List Nat).Nodup by decide) rfl ?_
              exact ih M_h158n2 hF9 hcE (rdI_up hI (by omega) (by omega) hmv) (by omega) hT2 K_I94n1_60 K_I94n1_61 (fun z2 h8 I8 A8 f8 M8 i8 a8 => k0 z2 h8 I8 A8 ((FR_h158n2).ztr f8) M8 ((FI_I94n1).ztr i8) ((FA_A158n2).ztr a8)) (fun u8 b8 z2 h8 I8 A8 f8 M8 i8 a8 => k1 u8 b8 z2 h8 I8 A8 ((FR_h158n2).ztr f8) M8 ((FI_I94n1).ztr i8) ((FA_A158n2).ztr a8))
            · skip
              have n_177 : v = 1 := (nI_eq (a := v) (b := 1) (by omega) (by omega)).mp (Classical.not_not.mp c_177)
              refine WX.s1 rfl rfl ?_
              refine WX.s1 rfl rfl ?_
              refine WX.s1 (L' := [(0, .ref m), (2, .int (nI la)), (3, .int (nI o)), (4, .int (nI (a - massU v))), (5, .int (nI (q + 1))), (9, .int (nI v)), (10, .int 3)]) rfl rfl ?_
              refine WX.s1 rfl rfl ?_
              refine WX.s1 rfl rfl ?_
              refine WX.icmp rfl (fun c_190 => absurd c_190 (by decide)) (fun c_190 => ?_)
              clear c_190
              obtain rfl : v = 1 := by omega
              rw [show massU 1 = 0 from rfl, Nat.sub_zero]
              have ez := rdL_z (t := t) (u := u) h0a hqa hx
              refine WX.keep (y := 216) [0, 2, 3, 4, 5] (show ([0, 2, 3, 4, 5, 9, 10] : List Nat).Nodup by decide) rfl ?_
              refine m_rdZ (d := d) (LN := LN) 64 hm M_h158n2 hF9 hl hle hE hla hcE (by omega) (by omega) (by omega) K_I94n1_60 K_I94n1_61 (fun z h9 I9 f9 M9 i9 => ?_) (fun q9 b9 z h9 I9 f9 M9 i9 K9 => ?_)
              · exact k0 (by rw [ez, z]; rfl) h9 I9 A158n2 ((FR_h158n2).ztr f9) M9 ((FI_I94n1).ztr i9) FA_A158n2
              · have hz := rdZ_le _ _ _ _ (by omega) z
                have hI2 : RdI la o q9 a (updN u q 1) := rdI_mv (rdI_up hI (by omega) (by decide) (Nat.zero_le _)) hz.1 hz.2.1
                exact ih M9 ⟨(i9 1 (by decide)).trans hF9.1, hF9.2⟩ hz.2.2 hI2 (by have := hz.1; omega) hT2 K9 ((i9 61 (by decide)).trans K_I94n1_61) (fun z2 h8 I8 A8 f8 M8 i8 a8 => k0 (by rw [ez, z]; exact z2) h8 I8 A8 (((FR_h158n2).ztr f9).ztr f8) M8 (((FI_I94n1).ztr i9).ztr i8) ((FA_A158n2).ztr a8)) (fun u8 b8 z2 h8 I8 A8 f8 M8 i8 a8 => k1 u8 b8 (by rw [ez, z]; exact z2) h8 I8 A8 (((FR_h158n2).ztr f9).ztr f8) M8 (((FI_I94n1).ztr i9).ztr i8) ((FA_A158n2).ztr a8))
          · skip
            have n_110 : (rmN a) ≤ (rbN l b (lgL a)) := Nat.le_of_not_lt (fun zz_ => c_110 ((nI_ltI (a := rbN l b (lgL a)) (b := rmN a) (by omega) (by omega)).mpr zz_))
            refine WX.s1 rfl rfl ?_
            refine WX.s1 rfl rfl ?_
            refine WX.callC (vs := [.ref m, .int (nI 1)]) rfl rfl rfl (Nat.le_of_ble_eq_true rfl) ((M_h94n1).rcv hm) ?_
            refine m_take (d := d) (c := 1) hm M_h94n1 hF94n1 hl hle hE (by omega) (by omega) K_I94n1_60 K_I94n1_61 (fun hlt115 => ?_) (fun hge115 h115n3 I115n3 fr115n3 M_h115n3 fi115n3 K_I115n3_60 => ?_)
            · skip
              show WX _ _ _ 118 [(0, .ref m), (2, .int (nI la)), (3, .int (nI o)), (4, .int (nI a)), (5, .int (nI q)), (6, .int (nI (lgL a))), (7, .int (nI (2 ^ lgL a))), (8, .int (nI (rmN a))), (9, .int (nI (rbN l b (lgL a))))] [.int (-1)] (n, s, h94n1)
              refine WX.s1 (L' := [(0, .ref m), (2, .int (nI la)), (3, .int (nI o)), (4, .int (nI a)), (5, .int (nI q)), (6, .int (nI (lgL a))), (7, .int (nI (2 ^ lgL a))), (8, .int (nI (rmN a))), (9, .int (nI (rbN l b (lgL a)))), (10, .int (-1))]) rfl rfl ?_
              refine WX.s1 rfl rfl ?_
              refine WX.if_ rfl (fun c_122 => absurd c_122 (by decide)) (fun c_122 => ?_)
              clear c_122
              refine WX.s1 rfl rfl ?_
              exact WX.ret1 rfl (k0 (rdL_n h0a hqa (by unfold rdU; rw [if_neg (by omega), if_neg (by omega), if_pos (by omega)])) h94n1 I94n1 AR FR_h94n1 M_h94n1 FI_I94n1 FA_AR)
            · skip
              have FR_h115n3 := (FR_h94n1).ztr fr115n3
              have FI_I115n3 : Fi I I115n3 (fun f => f = 60) := (FI_I94n1).zsub fi115n3 (fun j hj => hj)
              have K_I115n3_61 : I115n3 61 = (nI E) := (fi115n3 61 (by decide)).trans K_I94n1_61
              have hF115n3 : InIs I115n3 AR l := ⟨(fi115n3 1 (by decide)).trans hF94n1.1, hF94n1.2⟩
              show WX _ _ _ 118 [(0, .ref m), (2, .int (nI la)), (3, .int (nI o)), (4, .int (nI a)), (5, .int (nI q)), (6, .int (nI (lgL a))), (7, .int (nI (2 ^ lgL a))), (8, .int (nI (rmN a))), (9, .int (nI (rbN l b (lgL a))))] [.int (nI (rbN l (b + lgL a) 1))] (n, s, h115n3)
              refine WX.s1 (L' := [(0, .ref m), (2, .int (nI la)), (3, .int (nI o)), (4, .int (nI a)), (5, .int (nI q)), (6, .int (nI (lgL a))), (7, .int (nI (2 ^ lgL a))), (8, .int (nI (rmN a))), (9, .int (nI (rbN l b (lgL a)))), (10, .int (nI (rbN l (b + lgL a) 1)))]) rfl rfl ?_
              refine WX.s1 rfl rfl ?_
              refine WX.if_ rfl (fun c_122 => ?_) (fun c_122 => absurd ((nI_leI (a := 0) (b := rbN l (b + lgL a) 1) (by omega) (by omega)).mpr (by omega)) c_122)
              clear c_122
              refine WX.s1 rfl rfl ?_
              refine WX.s1 rfl rfl ?_
              refine WX.icmp rfl (fun c_130 => ?_) (fun c_130 => ?_)
              · skip
                have n_130 : ¬ (rbN l (b + lgL a) 1) = 1 := fun zz_ => c_130 ((nI_eq (a := rbN l (b + lgL a) 1) (b := 1) (by omega) (by omega)).mpr zz_)
                refine WX.s1 rfl rfl ?_
                refine WX.s1 (L' := [(0, .ref m), (2, .int (nI la)), (3, .int (nI o)), (4, .int (nI a)), (5, .int (nI q)), (6, .int (nI (lgL a))), (7, .int (nI (2 ^ lgL a))), (8, .int (nI (rmN a))), (9, .int (nI (rbN l b (lgL a)))), (10, .int (nI (rbN l (b + lgL a) 1)))]) rfl rfl ?_
                have hcase : (rbN l b (lgL a)) = if btN l (b + lgL a) = 1 then rbN l b (lgL a) + 2 ^ lgL a - rmN a else rbN l b (lgL a) := by rw [if_neg (by omega)]
                have hx := (rdU_x (l := l) (E := E) (b := b) (a := a) (x := 1) (v := (rbN l b (lgL a))) (Or.inr ⟨rfl, by omega, hcase⟩)).2 (by omega)
                obtain ⟨v, ev⟩ : ∃ v, v = (rbN l b (lgL a)) := ⟨_, rfl⟩
                rw [← ev] at hx ⊢
                obtain ⟨c, ec⟩ : ∃ c, c = b + 1 + lgL a := ⟨_, rfl⟩
                rw [← ec] at hx
                have K60 : I115n3 60 = nI c := by rw [K_I115n3_60, ec]; exact congrArg nI (by omega)
                obtain ⟨hv1, hcE, hmv⟩ := rdU_v (by omega) ha5 hx
                clear ev
                refine WX.keep (y := 216) [0, 2, 3, 4, 5, 9] (show ([0, 2, 3, 4, 5, 6, 7, 8, 9, 10] : List Nat).Nodup by decide) rfl ?_
                have K_I115n3_60 := K60
                refine WX.s1 rfl rfl ?_
                refine WX.mget rfl hm M_h115n3 rfl ?_
                refine WX.s1 rfl rfl ?_
                refine WX.s1 rfl rfl ?_
                refine WX.s1 rfl rfl ?_
                refine WX.s1 (S' := [.int ((nI v) - 1), .int (nI q), .ref (m + 30)]) rfl rfl ?_
                rw [show nI v - 1 = qI v from nI_m1 v]
                refine WX.mast (c := 30) rfl hm M_h115n3 (by decide) (by decide) (by decide) (by decide) (vp_in_nI (N := 64) (by omega) (by decide)) (fun h158n4 A158n4 e_A158n4 M_h158n4 frh158n4 => ?_)
                try dsimp only at e_A158n4
                have FR_h158n4 := (FR_h115n3).ztr frh158n4
                clear M_h115n3 FR_h115n3 frh158n4
                rw [nI_clamp (by omega)] at e_A158n4
                have hT2 : (∀ j, j < 64 → A158n4 30 j = qI ((updN u q v) j)) := fun j hj => by
                  by_cases z : j = q
                  · rw [z, e_A158n4, upA_same, pk_us, updN_s]
                  · rw [e_A158n4, upA_same, pk_un z, updN_n z]; exact hT j hj
                have FA_A158n4 : FaS AR A158n4 (fun b => b = 30) := (FA_AR).ast e_A158n4 rfl
                have hF9 : InIs I115n3 A158n4 l := ⟨hF115n3.1, by rw [e_A158n4, upA_ne (by decide)]; exact hF115n3.2⟩
                refine WX.s1 rfl rfl ?_
                refine WX.s1 rfl rfl ?_
                refine WX.s1 rfl rfl ?_
                refine WX.s1 (S' := [.int ((nI v) - 1), .int (nI a)]) rfl rfl ?_
                rw [show nI v - 1 = qI v from nI_m1 v]
                refine WX.callC (vs := [.int (qI v)]) rfl rfl rfl (Nat.le_of_ble_eq_true rfl) rfl ?_
                refine m_mass (d := d) (by omega) ?_
                show WX _ _ _ 168 [(0, .ref m), (2, .int (nI la)), (3, .int (nI o)), (4, .int (nI a)), (5, .int (nI q)), (9, .int (nI v))] [.int (nI (massU v)), .int (nI a)] (n, s, h158n4)
                refine WX.s1 (S' := [.int ((nI a) - (nI (massU v)))]) rfl rfl ?_
                rw [nI_subN hmv]
                refine WX.s1 (L' := [(0, .ref m), (2, .int (nI la)), (3, .int (nI o)), (4, .int (nI (a - massU v))), (5, .int (nI q)), (9, .int (nI v))]) rfl rfl ?_
                refine WX.s1 (L' := [(0, .ref m), (2, .int (nI la)), (3, .int (nI o)), (4, .int (nI (a - massU v))), (5, .int ((nI q) + 1)), (9, .int (nI v))]) rfl rfl ?_
                rw [nI_1 q]
                refine WX.s1 rfl rfl ?_
                refine WX.s1 rfl rfl ?_
                refine WX.icmp rfl (fun c_177 => ?_) (fun c_177 => ?_)
                · skip
                  have n_177 : ¬ v = 1 := fun zz_ => c_177 ((nI_eq (a := v) (b := 1) (by omega) (by omega)).mpr zz_)
                  refine WX.s1 rfl rfl ?_
                  refine WX.s1 (L' := [(0, .ref m), (2, .int (nI la)), (3, .int (nI o)), (4, .int (nI (a - massU v))), (5, .int (nI (q + 1))), (9, .int (nI v)), (10, .int 0)]) rfl rfl ?_
                  refine WX.s1 rfl rfl ?_
                  refine WX.s1 rfl rfl ?_
                  refine WX.icmp rfl (fun c_190 => ?_) (fun c_190 => absurd (by decide) c_190)
                  clear c_190
                  refine WX.s1 rfl rfl ?_
                  have ev := rdL_v (t := t) (u := u) h0a hqa hx (by omega)
                  rw [ev] at k0
                  simp only [ev] at k1
                  refine WX.keep (y := 216) [0, 2, 3, 4, 5] (show ([0, 2, 3, 4, 5, 9, 10] : List Nat).Nodup by decide) rfl ?_
                  exact ih M_h158n4 hF9 hcE (rdI_up hI (by omega) (by omega) hmv) (by omega) hT2 K_I115n3_60 K_I115n3_61 (fun z2 h8 I8 A8 f8 M8 i8 a8 => k0 z2 h8 I8 A8 ((FR_h158n4).ztr f8) M8 ((FI_I115n3).ztr i8) ((FA_A158n4).ztr a8)) (fun u8 b8 z2 h8 I8 A8 f8 M8 i8 a8 => k1 u8 b8 z2 h8 I8 A8 ((FR_h158n4).ztr f8) M8 ((FI_I115n3).ztr i8) ((FA_A158n4).ztr a8))
                · skip
                  have n_177 : v = 1 := (nI_eq (a := v) (b := 1) (by omega) (by omega)).mp (Classical.not_not.mp c_177)
                  refine WX.s1 rfl rfl ?_
                  refine WX.s1 rfl rfl ?_
                  refine WX.s1 (L' := [(0, .ref m), (2, .int (nI la)), (3, .int (nI o)), (4, .int (nI (a - massU v))), (5, .int (nI (q + 1))), (9, .int (nI v)), (10, .int 3)]) rfl rfl ?_
                  refine WX.s1 rfl rfl ?_
                  refine WX.s1 rfl rfl ?_
                  refine WX.icmp rfl (fun c_190 => absurd c_190 (by decide)) (fun c_190 => ?_)
                  clear c_190
                  obtain rfl : v = 1 := by omega
                  rw [show massU 1 = 0 from rfl, Nat.sub_zero]
                  have ez := rdL_z (t := t) (u := u) h0a hqa hx
                  refine WX.keep (y := 216) [0, 2, 3, 4, 5] (show ([0, 2, 3, 4, 5, 9, 10] : List Nat).Nodup by decide) rfl ?_
                  refine m_rdZ (d := d) (LN := LN) 64 hm M_h158n4 hF9 hl hle hE hla hcE (by omega) (by omega) (by omega) K_I115n3_60 K_I115n3_61 (fun z h9 I9 f9 M9 i9 => ?_) (fun q9 b9 z h9 I9 f9 M9 i9 K9 => ?_)
                  · exact k0 (by rw [ez, z]; rfl) h9 I9 A158n4 ((FR_h158n4).ztr f9) M9 ((FI_I115n3).ztr i9) FA_A158n4
                  · have hz := rdZ_le _ _ _ _ (by omega) z
                    have hI2 : RdI la o q9 a (updN u q 1) := rdI_mv (rdI_up hI (by omega) (by decide) (Nat.zero_le _)) hz.1 hz.2.1
                    exact ih M9 ⟨(i9 1 (by decide)).trans hF9.1, hF9.2⟩ hz.2.2 hI2 (by have := hz.1; omega) hT2 K9 ((i9 61 (by decide)).trans K_I115n3_61) (fun z2 h8 I8 A8 f8 M8 i8 a8 => k0 (by rw [ez, z]; exact z2) h8 I8 A8 (((FR_h158n4).ztr f9).ztr f8) M8 (((FI_I115n3).ztr i9).ztr i8) ((FA_A158n4).ztr a8)) (fun u8 b8 z2 h8 I8 A8 f8 M8 i8 a8 => k1 u8 b8 (by rw [ez, z]; exact z2) h8 I8 A8 (((FR_h158n4).ztr f9).ztr f8) M8 (((FI_I115n3).ztr i9).ztr i8) ((FA_A158n4).ztr a8))
              · skip
                have n_130 : (rbN l (b + lgL a) 1) = 1 := (nI_eq (a := rbN l (b + lgL a) 1) (b := 1) (by omega) (by omega)).mp (Classical.not_not.mp c_130)
                refine WX.s1 rfl rfl ?_
                refine WX.s1 rfl rfl ?_
                refine WX.s1 (S' := [.int ((nI (rbN l b (lgL a))) + (nI (2 ^ lgL a)))]) rfl rfl ?_
                rw [nI_add]
                refine WX.s1 rfl rfl ?_
                refine WX.s1 (S' := [.int ((nI (rbN l b (lgL a) + 2 ^ lgL a)) - (nI (rmN a)))]) rfl rfl ?_
                rw [nI_subN (show rmN a ≤ rbN l b (lgL a) + 2 ^ lgL a by omega)]
                refine WX.s1 rfl rfl ?_
                refine WX.s1 (L' := [(0, .ref m), (2, .int (nI la)), (3, .int (nI o)), (4, .int (nI a)), (5, .int (nI q)), (6, .int (nI (lgL a))), (7, .int (nI (2 ^ lgL a))), (8, .int (nI (rmN a))), (9, .int (nI (rbN l b (lgL a) + 2 ^ lgL a - rmN a))), (10, .int (nI (rbN l (b + lgL a) 1)))]) rfl rfl ?_
                have hcase : (rbN l b (lgL a) + 2 ^ lgL a - rmN a) = if btN l (b + lgL a) = 1 then rbN l b (lgL a) + 2 ^ lgL a - rmN a else rbN l b (lgL a) := by rw [if_pos (by omega)]
                have hx := (rdU_x (l := l) (E := E) (b := b) (a := a) (x := 1) (v := (rbN l b (lgL a) + 2 ^ lgL a - rmN a)) (Or.inr ⟨rfl, by omega, hcase⟩)).2 (by omega)
                obtain ⟨v, ev⟩ : ∃ v, v = (rbN l b (lgL a) + 2 ^ lgL a - rmN a) := ⟨_, rfl⟩
                rw [← ev] at hx ⊢
                obtain ⟨c, ec⟩ : ∃ c, c = b + 1 + lgL a := ⟨_, rfl⟩
                rw [← ec] at hx
                have K60 : I115n3 60 = nI c := by rw [K_I115n3_60, ec]; exact congrArg nI (by omega)
                obtain ⟨hv1, hcE, hmv⟩ := rdU_v (by omega) ha5 hx
                clear ev
                refine WX.keep (y := 216) [0, 2, 3, 4, 5, 9] (show ([0, 2, 3, 4, 5, 6, 7, 8, 9, 10] : List Nat).Nodup by decide) rfl ?_
                have K_I115n3_60 := K60
                refine WX.s1 rfl rfl ?_
                refine WX.mget rfl hm M_h115n3 rfl ?_
                refine WX.s1 rfl rfl ?_
                refine WX.s1 rfl rfl ?_
                refine WX.s1 rfl rfl ?_
                refine WX.s1 (S' := [.int ((nI v) - 1), .int (nI q), .ref (m + 30)]) rfl rfl ?_
                rw [show nI v - 1 = qI v from nI_m1 v]
                refine WX.mast (c := 30) rfl hm M_h115n3 (by decide) (by decide) (by decide) (by decide) (vp_in_nI (N := 64) (by omega) (by decide)) (fun h158n5 A158n5 e_A158n5 M_h158n5 frh158n5 => ?_)
                try dsimp only at e_A158n5
                have FR_h158n5 := (FR_h115n3).ztr frh158n5
                clear M_h115n3 FR_h115n3 frh158n5
                rw [nI_clamp (by omega)] at e_A158n5
                have hT2 : (∀ j, j < 64 → A158n5 30 j = qI ((updN u q v) j)) := fun j hj => by
                  by_cases z : j = q
                  · rw [z, e_A158n5, upA_same, pk_us, updN_s]
                  · rw [e_A158n5, upA_same, pk_un z, updN_n z]; exact hT j hj
                have FA_A158n5 : FaS AR A158n5 (fun b => b = 30) := (FA_AR).ast e_A158n5 rfl
                have hF9 : InIs I115n3 A158n5 l := ⟨hF115n3.1, by rw [e_A158n5, upA_ne (by decide)]; exact hF115n3.2⟩
                refine WX.s1 rfl rfl ?_
                refine WX.s1 rfl rfl ?_
                refine WX.s1 rfl rfl ?_
                refine WX.s1 (S' := [.int ((nI v) - 1), .int (nI a)]) rfl rfl ?_
                rw [show nI v - 1 = qI v from nI_m1 v]
                refine WX.callC (vs := [.int (qI v)]) rfl rfl rfl (Nat.le_of_ble_eq_true rfl) rfl ?_
                refine m_mass (d := d) (by omega) ?_
                show WX _ _ _ 168 [(0, .ref m), (2, .int (nI la)), (3, .int (nI o)), (4, .int (nI a)), (5, .int (nI q)), (9, .int (nI v))] [.int (nI (massU v)), .int (nI a)] (n, s, h158n5)
                refine WX.s1 (S' := [.int ((nI a) - (nI (massU v)))]) rfl rfl ?_
                rw [nI_subN hmv]
                refine WX.s1 (L' := [(0, .ref m), (2, .int (nI la)), (3, .int (nI o)), (4, .int (nI (a - massU v))), (5, .int (nI q)), (9, .int (nI v))]) rfl rfl ?_
                refine WX.s1 (L' := [(0, .ref m), (2, .int (nI la)), (3, .int (nI o)), (4, .int (nI (a - massU v))), (5, .int ((nI q) + 1)), (9, .int (nI v))]) rfl rfl ?_
                rw [nI_1 q]
                refine WX.s1 rfl rfl ?_
                refine WX.s1 rfl rfl ?_
                refine WX.icmp rfl (fun c_177 => ?_) (fun c_177 => ?_)
                · skip
                  have n_177 : ¬ v = 1 := fun zz_ => c_177 ((nI_eq (a := v) (b := 1) (by omega) (by omega)).mpr zz_)
                  refine WX.s1 rfl rfl ?_
                  refine WX.s1 (L' := [(0, .ref m), (2, .int (nI la)), (3, .int (nI o)), (4, .int (nI (a - massU v))), (5, .int (nI (q + 1))), (9, .int (nI v)), (10, .int 0)]) rfl rfl ?_
                  refine WX.s1 rfl rfl ?_
                  refine WX.s1 rfl rfl ?_
                  refine WX.icmp rfl (fun c_190 => ?_) (fun c_190 => absurd (by decide) c_190)
                  clear c_190
                  refine WX.s1 rfl rfl ?_
                  have ev := rdL_v (t := t) (u := u) h0a hqa hx (by omega)
                  rw [ev] at k0
                  simp only [ev] at k1
                  refine WX.keep (y := 216) [0, 2, 3, 4, 5] (show ([0, 2, 3, 4, 5, 9, 10] : List Nat).Nodup by decide) rfl ?_
                  exact ih M_h158n5 hF9 hcE (rdI_up hI (by omega) (by omega) hmv) (by omega) hT2 K_I115n3_60 K_I115n3_61 (fun z2 h8 I8 A8 f8 M8 i8 a8 => k0 z2 h8 I8 A8 ((FR_h158n5).ztr f8) M8 ((FI_I115n3).ztr i8) ((FA_A158n5).ztr a8)) (fun u8 b8 z2 h8 I8 A8 f8 M8 i8 a8 => k1 u8 b8 z2 h8 I8 A8 ((FR_h158n5).ztr f8) M8 ((FI_I115n3).ztr i8) ((FA_A158n5).ztr a8))
                · skip
                  have n_177 : v = 1 := (nI_eq (a := v) (b := 1) (by omega) (by omega)).mp (Classical.not_not.mp c_177)
                  refine WX.s1 rfl rfl ?_
                  refine WX.s1 rfl rfl ?_
                  refine WX.s1 (L' := [(0, .ref m), (2, .int (nI la)), (3, .int (nI o)), (4, .int (nI (a - massU v))), (5, .int (nI (q + 1))), (9, .int (nI v)), (10, .int 3)]) rfl rfl ?_
                  refine WX.s1 rfl rfl ?_
                  refine WX.s1 rfl rfl ?_
                  refine WX.icmp rfl (fun c_190 => absurd c_190 (by decide)) (fun c_190 => ?_)
                  clear c_190
                  obtain rfl : v = 1 := by omega
                  rw [show massU 1 = 0 from rfl, Nat.sub_zero]
                  have ez := rdL_z (t := t) (u := u) h0a hqa hx
                  refine WX.keep (y := 216) [0, 2, 3, 4, 5] (show ([0, 2, 3, 4, 5, 9, 10] : List Nat).Nodup by decide) rfl ?_
                  refine m_rdZ (d := d) (LN := LN) 64 hm M_h158n5 hF9 hl hle hE hla hcE (by omega) (by omega) (by omega) K_I115n3_60 K_I115n3_61 (fun z h9 I9 f9 M9 i9 => ?_) (fun q9 b9 z h9 I9 f9 M9 i9 K9 => ?_)
                  · exact k0 (by rw [ez, z]; rfl) h9 I9 A158n5 ((FR_h158n5).ztr f9) M9 ((FI_I115n3).ztr i9) FA_A158n5
                  · have hz := rdZ_le _ _ _ _ (by omega) z
                    have hI2 : RdI la o q9 a (updN u q 1) := rdI_mv (rdI_up hI (by omega) (by decide) (Nat.zero_le _)) hz.1 hz.2.1
                    exact ih M9 ⟨(i9 1 (by decide)).trans hF9.1, hF9.2⟩ hz.2.2 hI2 (by have := hz.1; omega) hT2 K9 ((i9 61 (by decide)).trans K_I115n3_61) (fun z2 h8 I8 A8 f8 M8 i8 a8 => k0 (by rw [ez, z]; exact z2) h8 I8 A8 (((FR_h158n5).ztr f9).ztr f8) M8 (((FI_I115n3).ztr i9).ztr i8) ((FA_A158n5).ztr a8)) (fun u8 b8 z2 h8 I8 A8 f8 M8 i8 a8 => k1 u8 b8 (by rw [ez, z]; exact z2) h8 I8 A8 (((FR_h158n5).ztr f9).ztr f8) M8 (((FI_I115n3).ztr i9).ztr i8) ((FA_A158n5).ztr a8))
      · skip
        have n_60 : la < q := Nat.lt_of_not_le (fun zz_ => c_60 ((nI_leI (a := q) (b := la) (by omega) (by omega)).mpr zz_))
        refine WX.s1 rfl rfl ?_
        exact WX.ret1 rfl (k0 (rdL_1 h0a (by omega)) h I AR FR_h M_h FI_I FA_AR)
set_option maxRecDepth 20000 in
theorem m_rdSh {d n s : Nat} {h : Nat → aE} {m : Nat} {I : Nat → Int32} {AR : Nat → Nat → Int32} {LN : Nat → Int64} {l : List Nat} {G la E b : Nat} (hm : m + 43 < n) (M_h : MAt h m I AR LN) (hF : InIs I AR l) (hl : ∀ i, (l).getD i 0 < 256) (hle : (l).length ≤ 8000) (hE : E ≤ 8 * (l).length) (hla : la < 64) (hb : b ≤ E) (hG : G ≤ 9) (K_I_60 : I 60 = (nI b)) (K_I_61 : I 61 = (nI E)) {Ψ : Option Value → aH → Prop} (k0 : rdS l E G la b = none → ∀ h' I' A', Fr h h' (inM m) → MAt h' m I' A' LN → Fi I I' (fun f => f = 60) → FaS AR A' (fun b => b = 30) → Ψ (some (.int (-1))) (n, s, h')) (k1 : ∀ o u c, rdS l E G la b = some (o, u, c) → ∀ h' I' A', Fr h h' (inM m) → MAt h' m I' A' LN → Fi I I' (fun f => f = 60) → FaS AR A' (fun b => b = 30) → I' 60 = nI (8 * ((c + 7) / 8)) → (∀ j, j < 64 → A' 30 j = qI (u j)) → Ψ (some (.int (nI o))) (n, s, h')) : WO (mM (d + 2)) 216 [.ref m, .int (nI G), .int (nI la)] (n, s, h) Ψ := by
  refine WO.of (Nat.le_of_ble_eq_true rfl) ?_
  have FR_h : Fr h h (inM m) := Fr.rf
  have FI_I : Fi I I (fun f => f = 60) := Fi.rf
  have FA_AR : FaS AR AR (fun b => b = 30) := FaS.rf
  have hr4 := rb_lt l b 4
  show WX (lk tX12_readShare) (mM (d + 1)) Ψ 0 [(0, .ref m), (1, .int (nI G)), (2, .int (nI la))] [] (n, s, h)
  refine WX.s1 rfl rfl ?_
  refine WX.s1 rfl rfl ?_
  refine WX.callC (vs := [.ref m, .int (nI 4)]) rfl rfl rfl (Nat.le_of_ble_eq_true rfl) ((M_h).rcv hm) ?_
  refine m_take (d := d) (c := 4) hm M_h hF hl hle hE (by omega) (by omega) K_I_60 K_I_61 (fun hlt2 => ?_) (fun hge2 h2n1 I2n1 fr2n1 M_h2n1 fi2n1 K_I2n1_60 => ?_)
  · skip
    show WX _ _ _ 5 [(0, .ref m), (1, .int (nI G)), (2, .int (nI la))] [.int (-1)] (n, s, h)
    refine WX.s1 rfl rfl ?_
    refine WX.s1 (S' := [.int ((-1) + 5)]) rfl rfl ?_
    refine WX.s1 (L' := [(0, .ref m), (1, .int (nI G)), (2, .int (nI la)), (3, .int ((-1) + 5))]) rfl rfl ?_
    refine WX.s1 rfl rfl ?_
    refine WX.s1 rfl rfl ?_
    refine WX.icmp rfl (fun c_10 => ?_) (fun c_10 => absurd (by decide) c_10)
    clear c_10
    refine WX.s1 rfl rfl ?_
    exact WX.ret1 rfl (k0 (rdS_n1 (by omega)) h I AR FR_h M_h FI_I FA_AR)
  · skip
    have FR_h2n1 := (FR_h).ztr fr2n1
    have FI_I2n1 : Fi I I2n1 (fun f => f = 60) := (FI_I).zsub fi2n1 (fun j hj => hj)
    have K_I2n1_61 : I2n1 61 = (nI E) := (fi2n1 61 (by decide)).trans K_I_61
    have hF2n1 : InIs I2n1 AR l := ⟨(fi2n1 1 (by decide)).trans hF.1, hF.2⟩
    show WX _ _ _ 5 [(0, .ref m), (1, .int (nI G)), (2, .int (nI la))] [.int (nI (rbN l b 4))] (n, s, h2n1)
    refine WX.s1 rfl rfl ?_
    refine WX.s1 (S' := [.int ((nI (rbN l b 4)) + 5)]) rfl rfl ?_
    rw [show nI (rbN l b 4) + 5 = nI (5 + rbN l b 4) from (nI_add (rbN l b 4) 5).trans (congrArg nI (by omega))]
    refine WX.s1 (L' := [(0, .ref m), (1, .int (nI G)), (2, .int (nI la)), (3, .int (nI (5 + rbN l b 4)))]) rfl rfl ?_
    refine WX.s1 rfl rfl ?_
    refine WX.s1 rfl rfl ?_
    refine WX.icmp rfl (fun c_10 => absurd c_10 (fun zz_ => absurd ((nI_ltI (a := 5 + rbN l b 4) (b := 5) (by omega) (by omega)).mp zz_) (Nat.not_lt.mpr (by omega)))) (fun c_10 => ?_)
    clear c_10
    refine WX.s1 rfl rfl ?_
    refine WX.s1 rfl rfl ?_
    refine WX.icmp rfl (fun c_15 => ?_) (fun c_15 => ?_)
    · skip
      have n_15 : (5 + rbN l b 4) ≤ G := (nI_leI (a := 5 + rbN l b 4) (b := G) (by omega) (by omega)).mp c_15
      refine WX.s1 rfl rfl ?_
      refine WX.s1 (L' := [(0, .ref m), (1, .int (nI G)), (2, .int (nI la)), (3, .int (nI (5 + rbN l b 4))), (4, .int 0)]) rfl rfl ?_
      have lp : ∀ (t i : Nat) (hL : Nat → aE) (AL : Nat → Nat → Int32), i + t = 64 → Fr h hL (inM m) → MAt hL m I2n1 AL LN → FaS AR AL (fun b => b = 30) → (∀ j, j < i → AL 30 j = 0) → WX (lk tX12_readShare) (mM (d + 1)) Ψ 23 [(0, .ref m), (1, .int (nI G)), (2, .int (nI la)), (3, .int (nI (5 + rbN l b 4))), (4, .int (nI i))] [] (n, s, hL) := by
        clear M_h2n1 FR_h2n1
        intro t
        induction t with
        | zero =>
          intro i hL AL ht FR_hL M_hL FA_AL hq
          obtain rfl : i = 64 := by omega
          refine WX.s1 rfl rfl ?_
          refine WX.s1 rfl rfl ?_
          refine WX.icmp rfl (fun c_27 => ?_) (fun c_27 => absurd ((nI_leI (a := 64) (b := 64) (by omega) (by omega)).mpr (by omega)) c_27)
          clear c_27
          refine WX.s1 rfl rfl ?_
          refine WX.s1 rfl rfl ?_
          refine WX.s1 (S' := [.int (1 <<< ((nI (5 + rbN l b 4)) &&& 31))]) rfl rfl ?_
          rw [sh1 (5 + rbN l b 4) (by omega)]
          refine WX.s1 (L' := [(0, .ref m), (1, .int (nI G)), (2, .int (nI la)), (3, .int (nI (5 + rbN l b 4))), (4, .int (nI (2 ^ (5 + rbN l b 4))))]) rfl rfl ?_
          refine WX.s1 rfl rfl ?_
          refine WX.s1 (L' := [(0, .ref m), (1, .int (nI G)), (2, .int (nI la)), (3, .int (nI (5 + rbN l b 4))), (4, .int (nI (2 ^ (5 + rbN l b 4)))), (5, .int 0)]) rfl rfl ?_
          refine WX.keep (y := 216) [0, 2, 3, 4, 5] (show ([0, 1, 2, 3, 4, 5] : List Nat).Nodup by decide) rfl ?_
          have em := rdS_m (l := l) (last := la) (show ¬ E < b + 4 by omega) (show ¬ G < (5 + rbN l b 4) by omega)
          show WX (lk tX12_readShare) (mM (d + 1)) Ψ 52 [(0, .ref m), (2, .int (nI la)), (3, .int (nI (5 + rbN l b 4))), (4, .int (nI (2 ^ (5 + rbN l b 4)))), (5, .int (nI 0))] [] (n, s, hL)
          refine m_rdL (d := d) (o := (5 + rbN l b 4)) (u := fun _ => 1) 66 hm M_hL ⟨hF2n1.1, by rw [FA_AL 1 (by decide)]; exact hF2n1.2⟩ hl hle hE hla (by omega) (by omega) RdI.z (by omega) (fun j hj => hq j hj) K_I2n1_60 K_I2n1_61 (fun z h9 I9 A9 f9 M9 i9 a9 => ?_) (fun u9 c9 z h9 I9 A9 f9 M_h9 i9 a9 K_I9_60 T9 => ?_)
          · exact k0 (by rw [em, z]; rfl) h9 I9 A9 ((FR_hL).ztr f9) M9 ((FI_I2n1).ztr i9) ((FA_AL).ztr a9)
          · have eS : rdS l E G la b = some ((5 + rbN l b 4), u9, c9) := by rw [em, z]; rfl
            have hc9 := (rdS_ok hG eS).2.2.2.2.2
            have FR_h9 := (FR_hL).ztr f9
            have FI_I9 : Fi I I9 (fun f => f = 60) := (FI_I2n1).ztr i9
            have FA_A9 : FaS AR A9 (fun b => b = 30) := (FA_AL).ztr a9
            refine WX.s1 rfl rfl ?_
            refine WX.s1 rfl rfl ?_
            refine WX.mgetK (x := (nI c9)) rfl hm M_h9 rfl K_I9_60 ?_
            refine WX.s1 rfl rfl ?_
            refine WX.s1 (S' := [.int ((nI c9) + 7), .ref m]) rfl rfl ?_
            rw [show nI c9 + 7 = nI (c9 + 7) from nI_add c9 7]
            refine WX.s1 rfl rfl ?_
            refine WX.div rfl (by decide) ?_
            rw [show nI (c9 + 7) / 8 = nI ((c9 + 7) / 8) from pk_div (by omega) (by decide) (by decide)]
            refine WX.s1 rfl rfl ?_
            refine WX.s1 (S' := [.int ((nI ((c9 + 7) / 8)) * 8), .ref m]) rfl rfl ?_
            rw [show nI ((c9 + 7) / 8) * 8 = nI (8 * ((c9 + 7) / 8)) from (Int32.ofNat_mul _ 8).symm.trans (congrArg nI (Nat.mul_comm _ _))]
            refine WX.mput rfl hm M_h9 (rfl) (by decide) (fun _ => rfl) (fun h241n2 I241n2 e_I241n2 M_h241n2 frh241n2 => ?_)
            have FR_h241n2 := (FR_h9).ztr frh241n2
            have FI_I241n2 : Fi I I241n2 (fun f => f = 60) := (FI_I9).zup e_I241n2 (by first | exact rfl | decide | omega)
            have K_I241n2_60 : I241n2 60 = (nI (8 * ((c9 + 7) / 8))) := by rw [e_I241n2]; exact pk_us
            clear M_h9 FR_h9 FI_I9 e_I241n2 frh241n2 K_I9_60
            refine WX.s1 rfl rfl ?_
            exact WX.ret1 rfl (k1 _ u9 c9 eS h241n2 I241n2 A9 FR_h241n2 M_h241n2 FI_I241n2 FA_A9 K_I241n2_60 T9)
        | succ t ih =>
          intro i hL AL ht FR_hL M_hL FA_AL hq
          refine WX.s1 rfl rfl ?_
          refine WX.s1 rfl rfl ?_
          refine WX.icmp rfl (fun c_27 => absurd c_27 (fun zz_ => absurd ((nI_leI (a := 64) (b := i) (by omega) (by omega)).mp zz_) (Nat.not_le.mpr (by omega)))) (fun c_27 => ?_)
          clear c_27
          refine WX.s1 rfl rfl ?_
          refine WX.mget rfl hm M_hL rfl ?_
          refine WX.s1 rfl rfl ?_
          refine WX.s1 rfl rfl ?_
          refine WX.mast (c := 30) rfl hm M_hL (by decide) (by decide) (by decide) (by decide) (vp_in_nI (N := 64) (by omega) (by decide)) (fun h37n3 A37n3 e_A37n3 M_h37n3 frh37n3 => ?_)
          try dsimp only at e_A37n3
          have FR_h37n3 := (FR_hL).ztr frh37n3
          clear M_hL FR_hL frh37n3
          refine WX.s1 (L' := [(0, .ref m), (1, .int (nI G)), (2, .int (nI la)), (3, .int (nI (5 + rbN l b 4))), (4, .int ((nI i) + 1))]) rfl rfl ?_
          refine WX.s1 rfl rfl ?_
          rw [nI_clamp (by omega)] at e_A37n3
          rw [nI_1 i]
          refine ih (i + 1) h37n3 A37n3 (by omega) FR_h37n3 M_h37n3 ((FA_AL).ast e_A37n3 rfl) (fun q h => ?_)
          by_cases z : q = i
          · rw [z, e_A37n3, upA_same, pk_us]
          · rw [e_A37n3, upA_same, pk_un z]; exact hq q (by omega)
      exact lp 64 0 h2n1 AR (by omega) FR_h2n1 M_h2n1 FA_AR (fun q h => absurd h (by omega))
    · skip
      have n_15 : G < (5 + rbN l b 4) := Nat.lt_of_not_le (fun zz_ => c_15 ((nI_leI (a := 5 + rbN l b 4) (b := G) (by omega) (by omega)).mpr zz_))
      refine WX.s1 rfl rfl ?_
      exact WX.ret1 rfl (k0 (rdS_n2 (by omega) (by omega)) h2n1 I2n1 AR FR_h2n1 M_h2n1 FI_I2n1 FA_AR)
