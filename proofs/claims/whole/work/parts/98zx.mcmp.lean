/-! the reference: a block of kind 2, and which it is -/
set_option maxRecDepth 20000 in
theorem m_bK2 {d n s : Nat} {h : Nat → aE} {m : Nat} {I : Nat → Int32} {AR : Nat → Nat → Int32} {LN : Nat → Int64} {l x P : List Nat} {fr_ to_ la k0 qn : Nat} {S2 : PkS} (hm : m + 43 < n) (M_h : MAt h m I AR LN) (hx : (x).length = 3) (hF : FrameIs I AR (l ++ (x ++ P))) (hl : (l).length < 2 ^ 27) (hP : P.length < 2 ^ 23) (hla : la ≤ 1) (hk0 : k0 ≤ 3) (hR : RefS I AR S2) (K_I_31 : I 31 = (nI qn)) {Ψ : Option Value → aH → Prop} (kk : ∀ h' I' A', Fr h h' (inM m) → MAt h' m I' A' LN → Fi I I' (fun f => f = 40) → FaS AR A' (fun b => b = 25 ∨ b = 42) → FrameIs I' A' (l ++ (leBy (8 * P.length + 4 + la) 3 ++ P)) → RefS I' A' (pkNt S2 (ntAt (ntAt (ntAt S2.2.2.2.2.2 2 1) 3 qn) (4 + k0) 1)) → Ψ none (n, s, h')) : WX (lk tX12_sayBlock) (mM (d + 7)) Ψ 275 [(0, .ref m), (1, .int (nI fr_)), (2, .int (nI to_)), (3, .int (nI la)), (4, .int (nI (l).length)), (5, .int (nI (to_ - fr_))), (7, .int (nI k0)), (8, .int (nI P.length))] [] (n, s, h) := by
  have FR_h : Fr h h (inM m) := Fr.rf
  have FI_I : Fi I I (fun f => f = 40) := Fi.rf
  have FA_AR : FaS AR AR (fun b => b = 25 ∨ b = 42) := FaS.rf
  have hll : (l ++ (x ++ P)).length = (l).length + 3 + P.length := by simp only [List.length_append, hx]; omega
  refine WX.s1 rfl rfl ?_
  refine WX.s1 rfl rfl ?_
  refine WX.s1 rfl rfl ?_
  refine WX.s1 rfl rfl ?_
  refine WX.s1 rfl rfl ?_
  refine WX.callC (vs := [.ref m, .int (nI (l).length), .int (nI P.length), .int (nI 2), .int (nI la)]) rfl rfl rfl (Nat.le_of_ble_eq_true rfl) ((M_h).rcv hm) ?_
  refine m_bhPL (kd := 2) hm M_h hF (by omega) (by omega) (by decide) hx hla (fun h282n1 I282n1 A282n1 fr282n1 M_h282n1 fi282n1 fa282n1 hF282n1 => ?_)
  have FR_h282n1 := (FR_h).ztr fr282n1
  have K_I282n1_31 : I282n1 31 = (nI qn) := (fi282n1 31 (by decide)).trans K_I_31
  have FI_I282n1 : Fi I I282n1 (fun f => f = 40) := (FI_I).zsub fi282n1 (fun j hj => by first | exact hj | omega)
  have FA_A282n1 : FaS AR A282n1 (fun b => b = 25 ∨ b = 42) := (FA_AR).ztr ((fa282n1).toS (by omega))
  rw [show 8 * P.length + 2 * 2 + la = 8 * P.length + 4 + la by omega] at hF282n1
  have hN1 : NtM A282n1 S2.2.2.2.2.2 := fun q hq => by rw [fa282n1 42 (by decide)]; exact hR.2.2.2.2.2 q hq
  show WX _ _ _ 285 [(0, .ref m), (1, .int (nI fr_)), (2, .int (nI to_)), (3, .int (nI la)), (4, .int (nI (l).length)), (5, .int (nI (to_ - fr_))), (7, .int (nI k0)), (8, .int (nI P.length))] [] (n, s, h282n1)
  refine WX.s1 rfl rfl ?_
  refine WX.mget rfl hm M_h282n1 rfl ?_
  refine WX.s1 rfl rfl ?_
  refine WX.s1 rfl rfl ?_
  refine WX.mald (c := 42) rfl hm M_h282n1 (by decide) (by decide) (by decide) (by decide) (by unfold vp_in; decide) ?_
  rw [show A282n1 42 (Int32.toNatClampNeg 2) = nI (S2.2.2.2.2.2 2) from hN1 2 (by decide)]
  refine WX.s1 rfl rfl ?_
  refine WX.s1 (S' := [.int ((nI (S2.2.2.2.2.2 2)) + 1), .int 2, .ref (m + 42)]) rfl rfl ?_
  rw [show ((nI (S2.2.2.2.2.2 2)) + 1) = nI (S2.2.2.2.2.2 2 + 1) from nI_add (S2.2.2.2.2.2 2) 1]
  refine WX.mast (c := 42) rfl hm M_h282n1 (by decide) (by decide) (by decide) (by decide) (by unfold vp_in; decide) (fun h294n2 A294n2 e_A294n2 M_h294n2 frh294n2 => ?_)
  try dsimp only at e_A294n2
  have FR_h294n2 := (FR_h282n1).ztr frh294n2
  clear M_h282n1 FR_h282n1 frh294n2
  have hN2 : NtM A294n2 (ntAt S2.2.2.2.2.2 2 1) := (hN1).inc (q := 2) (dd := 1) e_A294n2
  refine WX.s1 rfl rfl ?_
  refine WX.mget rfl hm M_h294n2 rfl ?_
  refine WX.s1 rfl rfl ?_
  refine WX.s1 rfl rfl ?_
  refine WX.mald (c := 42) rfl hm M_h294n2 (by decide) (by decide) (by decide) (by decide) (by unfold vp_in; decide) ?_
  rw [show A294n2 42 (Int32.toNatClampNeg 3) = nI ((ntAt S2.2.2.2.2.2 2 1) 3) from hN2 3 (by decide)]
  refine WX.s1 rfl rfl ?_
  refine WX.mgetK (x := (nI qn)) rfl hm M_h294n2 rfl K_I282n1_31 ?_
  refine WX.s1 (S' := [.int ((nI ((ntAt S2.2.2.2.2.2 2 1) 3)) + (nI qn)), .int 3, .ref (m + 42)]) rfl rfl ?_
  rw [show ((nI ((ntAt S2.2.2.2.2.2 2 1) 3)) + (nI qn)) = nI ((ntAt S2.2.2.2.2.2 2 1) 3 + qn) from nI_add ((ntAt S2.2.2.2.2.2 2 1) 3) qn]
  refine WX.mast (c := 42) rfl hm M_h294n2 (by decide) (by decide) (by decide) (by decide) (by unfold vp_in; decide) (fun h307n3 A307n3 e_A307n3 M_h307n3 frh307n3 => ?_)
  try dsimp only at e_A307n3
  have FR_h307n3 := (FR_h294n2).ztr frh307n3
  clear M_h294n2 FR_h294n2 frh307n3
  have hN3 : NtM A307n3 (ntAt (ntAt S2.2.2.2.2.2 2 1) 3 qn) := (hN2).inc (q := 3) (dd := qn) e_A307n3
  refine WX.s1 rfl rfl ?_
  refine WX.mget rfl hm M_h307n3 rfl ?_
  refine WX.s1 rfl rfl ?_
  refine WX.s1 rfl rfl ?_
  refine WX.s1 (S' := [.int (4 + (nI k0)), .ref (m + 42)]) rfl rfl ?_
  rw [show (4 : Int32) + nI k0 = nI (4 + k0) from nI_add 4 k0]
  refine WX.s1 rfl rfl ?_
  refine WX.mald (c := 42) rfl hm M_h307n3 (by decide) (by decide) (by decide) (by decide) (vp_in_nI (n := 4 + k0) (N := 12) (by omega) (by decide)) ?_
  rw [nI_clamp (by omega), hN3 (4 + k0) (by omega)]
  refine WX.s1 rfl rfl ?_
  refine WX.s1 (S' := [.int ((nI ((ntAt (ntAt S2.2.2.2.2.2 2 1) 3 qn) (4 + k0))) + 1), .int (nI (4 + k0)), .ref (m + 42)]) rfl rfl ?_
  rw [show ((nI ((ntAt (ntAt S2.2.2.2.2.2 2 1) 3 qn) (4 + k0))) + 1) = nI ((ntAt (ntAt S2.2.2.2.2.2 2 1) 3 qn) (4 + k0) + 1) from nI_add ((ntAt (ntAt S2.2.2.2.2.2 2 1) 3 qn) (4 + k0)) 1]
  refine WX.mast (c := 42) rfl hm M_h307n3 (by decide) (by decide) (by decide) (by decide) (vp_in_nI (n := 4 + k0) (N := 12) (by omega) (by decide)) (fun h320n4 A320n4 e_A320n4 M_h320n4 frh320n4 => ?_)
  try dsimp only at e_A320n4
  have FR_h320n4 := (FR_h307n3).ztr frh320n4
  clear M_h307n3 FR_h307n3 frh320n4
  rw [nI_clamp (by omega)] at e_A320n4
  have hN4 : NtM A320n4 (ntAt (ntAt (ntAt S2.2.2.2.2.2 2 1) 3 qn) (4 + k0) 1) := (hN3).inc (q := 4 + k0) (dd := 1) e_A320n4
  have o9 : ∀ b, b ≠ 42 → A320n4 b = A282n1 b := fun b h1 => by rw [e_A320n4, upA_ne h1, e_A307n3, upA_ne h1, e_A294n2, upA_ne h1]
  have o8 : ∀ b, b ≠ 42 → b ≠ 25 → A320n4 b = AR b := fun b h1 h2 => (o9 b h1).trans (fa282n1 b h2)
  refine WX.ret0 rfl (kk h320n4 I282n1 A320n4 FR_h320n4 M_h320n4 FI_I282n1 (fun b hb => o8 b (fun z => hb (Or.inr z)) (fun z => hb (Or.inl z))) ⟨hF282n1.1, fun q h1 h2 => by rw [o9 25 (by decide)]; exact hF282n1.2 q h1 h2⟩ ?_)
  exact RefS.pt (nt := (ntAt (ntAt (ntAt S2.2.2.2.2.2 2 1) 3 qn) (4 + k0) 1)) hR (fi282n1 15 (by decide)) (fun j _ => by rw [o8 8 (by decide) (by decide)]) (fun j _ => by rw [o8 9 (by decide) (by decide)]) (fun j _ => by rw [o8 10 (by decide) (by decide)]) (fun j _ => by rw [o8 11 (by decide) (by decide)]) hN4
set_option maxRecDepth 20000 in
theorem m_bCmp {d n s : Nat} {h : Nat → aE} {m : Nat} {I : Nat → Int32} {AR : Nat → Nat → Int32} {LN : Nat → Int64} {l x P : List Nat} {D : Nat → Nat} {dn fr_ to_ la k0 qn : Nat} {S S2 : PkS} {I0 : Nat → Int32} {A0 : Nat → Nat → Int32} (hm : m + 43 < n) (M_h : MAt h m I AR LN) (hx : (x).length = 3) (hF : FrameIs I AR (l ++ (x ++ P))) (hl : (l).length < 2 ^ 27) (hP : P.length < 2 ^ 23) (hla : la ≤ 1) (hk0 : k0 ≤ 3) (hR : RefS I AR S2) (hW : WasS I I0 AR A0) (hS : RefS I0 A0 S) (hT : ∀ j, 8 ≤ j → j < 12 → AR 40 j = nI (S.2.2.2.2.2 j)) (h8 : ∀ j, j < 8 → S2.2.2.2.2.2 j = S.2.2.2.2.2 j) (hin : ∀ i, i < to_ → AR 1 i = nI (D (dn + i)) ∧ D (dn + i) < 256) (hft : fr_ ≤ to_) (hto : to_ ≤ 8000) (K_I_31 : I 31 = (nI qn)) {Ψ : Option Value → aH → Prop} (kk1 : P.length < to_ - fr_ → ∀ h' I' A', Fr h h' (inM m) → MAt h' m I' A' LN → Fi I I' (fun f => f = 15 ∨ f = 40) → FaS AR A' (fun b => (8 ≤ b ∧ b ≤ 11) ∨ b = 25 ∨ b = 42) → FrameIs I' A' (l ++ (leBy (8 * P.length + 4 + la) 3 ++ P)) → RefS I' A' (pkNt S2 (ntAt (ntAt (ntAt S2.2.2.2.2.2 2 1) 3 qn) (4 + k0) 1)) → Ψ none (n, s, h')) (kk2 : to_ - fr_ ≤ P.length → ∀ h' I' A', Fr h h' (inM m) → MAt h' m I' A' LN → Fi I I' (fun f => f = 15 ∨ f = 40) → FaS AR A' (fun b => (8 ≤ b ∧ b ≤ 11) ∨ b = 25 ∨ b = 42) → FrameIs I' A' (l ++ (leBy (8 * (to_ - fr_) + la) 3 ++ (List.range (to_ - fr_)).map (fun i => D (dn + fr_ + i)))) → RefS I' A' (pkNt S (ntAt S.2.2.2.2.2 0 1)) → Ψ none (n, s, h')) : WX (lk tX12_sayBlock) (mM (d + 7)) Ψ 257 [(0, .ref m), (1, .int (nI fr_)), (2, .int (nI to_)), (3, .int (nI la)), (4, .int (nI (l).length)), (5, .int (nI (to_ - fr_))), (7, .int (nI k0))] [] (n, s, h) := by
  have FR_h : Fr h h (inM m) := Fr.rf
  have FI_I : Fi I I (fun f => f = 15 ∨ f = 40) := Fi.rf
  have FA_AR : FaS AR AR (fun b => (8 ≤ b ∧ b ≤ 11) ∨ b = 25 ∨ b = 42) := FaS.rf
  have hll : (l ++ (x ++ P)).length = (l).length + 3 + P.length := by simp only [List.length_append, hx]; omega
  have K_I_40 : I 40 = nI ((l).length + 3 + P.length) := by rw [← hll]; exact hF.1
  refine WX.s1 rfl rfl ?_
  refine WX.mgetK (x := (nI ((l).length + 3 + P.length))) rfl hm M_h rfl K_I_40 ?_
  refine WX.s1 rfl rfl ?_
  refine WX.s1 (S' := [.int ((nI ((l).length + 3 + P.length)) - (nI (l).length))]) rfl rfl ?_
  rw [show nI ((l).length + 3 + P.length) - nI (l).length = nI ((l).length + 3 + P.length - (l).length) from nI_subN (by omega)]
  refine WX.s1 rfl rfl ?_
  refine WX.s1 (S' := [.int ((nI ((l).length + 3 + P.length - (l).length)) - 3)]) rfl rfl ?_
  rw [show nI ((l).length + 3 + P.length - (l).length) - 3 = nI P.length from (nI_subN (a := (l).length + 3 + P.length - (l).length) (b := 3) (by omega)).trans (congrArg nI (by omega))]
  refine WX.s1 (L' := [(0, .ref m), (1, .int (nI fr_)), (2, .int (nI to_)), (3, .int (nI la)), (4, .int (nI (l).length)), (5, .int (nI (to_ - fr_))), (7, .int (nI k0)), (8, .int (nI P.length))]) rfl rfl ?_
  refine WX.s1 rfl rfl ?_
  refine WX.s1 rfl rfl ?_
  refine WX.icmp rfl (fun c_272 => ?_) (fun c_272 => ?_)
  · skip
    have n_272 : (to_ - fr_) ≤ P.length := (nI_leI (a := to_ - fr_) (b := P.length) (by omega) (by omega)).mp c_272
    refine WX.keep (y := 207) [0, 1, 2, 3, 4, 5] (show ([0, 1, 2, 3, 4, 5, 7, 8] : List Nat).Nodup by decide) rfl ?_
    exact m_bRaw hm M_h hW hS hT (fun j hj => by rw [hR.2.2.2.2.2 j (by omega), h8 j hj]) (fun i h1 h2 => by rw [hF.2 i (by rw [hll]; omega) h2, getD_l h1]) hl hla hin hft hto (fun h9 I9 A9 fr9 M9 fi9 fa9 F9 R9 => kk2 (by omega) h9 I9 A9 fr9 M9 fi9 fa9 F9 R9)
  · skip
    have n_272 : P.length < (to_ - fr_) := Nat.lt_of_not_le (fun zz_ => c_272 ((nI_leI (a := to_ - fr_) (b := P.length) (by omega) (by omega)).mpr zz_))
    exact m_bK2 hm M_h hx hF hl hP hla hk0 hR K_I_31 (fun h9 I9 A9 fr9 M9 fi9 fa9 F9 R9 => kk1 (by omega) h9 I9 A9 fr9 M9 ((FI_I).zsub fi9 (fun j hj => Or.inr hj)) ((fa9).mono (fun j hj => Or.inr hj)) F9 R9)
