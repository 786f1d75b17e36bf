/-! make of the reference: the whole call -/
set_option maxRecDepth 20000 in
theorem m_mkC {d n s : Nat} {h : Nat → aE} {m : Nat} {I : Nat → Int32} {AR : Nat → Nat → Int32} {LN : Nat → Int64} {id way least : Nat} {l lo ld : List Nat} {T : PkS} {ab : Nat → Nat} {mi : Int32} {t2 : Int32} {y : List Nat} (hm : m + 43 < n) (M_h : MAt h m I AR LN) (hX : RfX I AR id way least l lo ld T ab) (hB : RfB l lo ld) (hY : MadeY I AR y) (hq1 : 1 ≤ (mkG way least l).2.2.2.length) (hq2 : (mkG way least l).2.2.2.length ≤ 2667) (hs1 : SyM AR 0 ((seqV1 (mkG way least l).2.2.2).map sy1)) (hs2 : SyM AR 1 ((numF (1, 4, 8) (mkG way least l).2.2.2).1.map sy2)) (hs3 : SyM AR 2 ((seqV3 (mkG way least l).2.2.2).map sy3)) (K_I_31 : I 31 = (nI (mkG way least l).2.2.2.length)) {Ψ : Option Value → aH → Prop} (k0 : 12000 < (mkB mi l y (mkG way least l).2.2.2).length → ∀ h' I' A', Fr h h' (inM m) → MAt h' m I' A' LN → RfX I' A' id way least l lo ld T ab → Ψ (some (.int (-1))) (n, s, h')) (k1 : (mkB mi l y (mkG way least l).2.2.2).length ≤ 12000 → ∀ h' I' A', Fr h h' (inM m) → MAt h' m I' A' LN → RfX I' A' id way least l (mkB mi l y (mkG way least l).2.2.2) ld T ab → Ψ (some (.int (nI (mkB mi l y (mkG way least l).2.2.2).length))) (n, s, h')) : WX (lk tX12_make) (mM (d + 5)) Ψ 132 [(0, .ref m), (1, .int mi), (2, .int t2)] [] (n, s, h) := by
  have FR_h : Fr h h (inM m) := Fr.rf
  have FI_I : Fi I I (fun f => f = 38 ∨ f = 40) := Fi.rf
  have FA_AR : FaS AR AR (fun b => 24 ≤ b ∧ b ≤ 33) := FaS.rf
  have K_I_1 : I 1 = nI (l).length := hX.1.1
  obtain ⟨hle, hld, hlo, hlb, hlb2⟩ := idP hB
  obtain ⟨wy, hMy, ewy⟩ := hY
  have hyl := hMy.2.1
  have l1 : ((seqV1 (mkG way least l).2.2.2).map sy1).length = (mkG way least l).2.2.2.length := by rw [List.length_map, v1_len]
  have l2 : ((numF (1, 4, 8) (mkG way least l).2.2.2).1.map sy2).length = (mkG way least l).2.2.2.length := by rw [List.length_map, numF_len]
  have l3 : ((seqV3 (mkG way least l).2.2.2).map sy3).length = (mkG way least l).2.2.2.length := by rw [List.length_map, v3_len]
  have ok1 : SyOk ((seqV1 (mkG way least l).2.2.2).map sy1) := ⟨fun s hs => by obtain ⟨v, -, e⟩ := List.mem_map.mp hs; have := sy1_lt v; omega, by omega, by omega⟩
  have ok2 : SyOk ((numF (1, 4, 8) (mkG way least l).2.2.2).1.map sy2) := ⟨fun s hs => by obtain ⟨v, -, e⟩ := List.mem_map.mp hs; have := sy2_lt v; omega, by omega, by omega⟩
  have ok3 : SyOk ((seqV3 (mkG way least l).2.2.2).map sy3) := ⟨fun s hs => by obtain ⟨v, -, e⟩ := List.mem_map.mp hs; have := sy3_lt v; omega, by omega, by omega⟩
  refine WX.s1 rfl rfl ?_
  refine WX.s1 rfl rfl ?_
  refine WX.mput rfl hm M_h (rfl) (by decide) (fun _ => rfl) (fun h134n1 I134n1 e_I134n1 M_h134n1 frh134n1 => ?_)
  have z40 : ∀ f, ¬ f = 40 → I134n1 f = I f := fun f hf => by rw [e_I134n1]; exact pk_un hf
  have FR_h134n1 := (FR_h).ztr frh134n1
  have FI_I134n1 : Fi I I134n1 (fun f => f = 38 ∨ f = 40) := (FI_I).zup e_I134n1 (by first | exact rfl | decide | omega)
  have K_I134n1_1 : I134n1 1 = (nI (l).length) := by rw [e_I134n1]; exact (pk_un (by decide)).trans K_I_1
  have K_I134n1_31 : I134n1 31 = (nI (mkG way least l).2.2.2.length) := by rw [e_I134n1]; exact (pk_un (by decide)).trans K_I_31
  have K_I134n1_40 : I134n1 40 = 0 := by rw [e_I134n1]; exact pk_us
  clear M_h FR_h FI_I e_I134n1 frh134n1 K_I_1 K_I_31
  have hX0 : RfX I134n1 AR id way least l lo ld T ab := (hX).mv (P := fun f => f = 40) (Q := fun _ => False) (fun f hf => z40 f hf) (fun b hb => rfl) (fun f h => by omega) (fun b h z => z) (fun z => z) ⟨_, _, (hMy).fa (z40 38 (by decide)) rfl⟩
  have hM0 : MadeIs I134n1 AR (8 * (y).length) wy := (hMy).fa (z40 38 (by decide)) rfl
  have hF0 : FrameIs I134n1 AR [] := ⟨K_I134n1_40, fun i hi => absurd hi (Nat.not_lt_zero i)⟩
  refine WX.s1 rfl rfl ?_
  refine WX.s1 rfl rfl ?_
  refine WX.s1 rfl rfl ?_
  refine WX.callC (vs := [.ref m, .long (lN 3962610743), .int (nI 4)]) rfl rfl rfl (Nat.le_of_ble_eq_true rfl) ((M_h134n1).rcv hm) ?_
  refine m_sayNumL (d := d + 3) (b := 4) (v := lN 3962610743) (l := []) hm M_h134n1 hF0 (by decide) (by decide) (fun h142n2 I142n2 A142n2 fr142n2 M_h142n2 fi142n2 fa142n2 hF142n2 => ?_)
  have FR_h142n2 := (FR_h134n1).ztr fr142n2
  have K_I142n2_1 : I142n2 1 = (nI (l).length) := (fi142n2 1 (by decide)).trans K_I134n1_1
  have K_I142n2_31 : I142n2 31 = (nI (mkG way least l).2.2.2.length) := (fi142n2 31 (by decide)).trans K_I134n1_31
  have FI_I142n2 : Fi I I142n2 (fun f => f = 38 ∨ f = 40) := (FI_I134n1).zsub fi142n2 (fun j hj => by first | exact hj | omega)
  have FA_A142n2 : FaS AR A142n2 (fun b => 24 ≤ b ∧ b ≤ 33) := (FA_AR).ztr ((fa142n2).toS (by omega))
  rw [leL_lN (by decide), List.nil_append] at hF142n2
  have hX1 : RfX I142n2 A142n2 id way least l lo ld T ab := (hX0).mv fi142n2 ((fa142n2).toS (by omega) : FaS AR A142n2 (fun b => b = 25)) (fun f h => by omega) (fun b h => by omega) (by decide) (by obtain ⟨c, w, q⟩ := hX0.2.2.2.2.2.2.2.1; exact ⟨c, w, (q).fa (fi142n2 38 (by decide)) (fa142n2 24 (by decide))⟩)
  have hM1 : MadeIs I142n2 A142n2 (8 * (y).length) wy := (hM0).fa (fi142n2 38 (by decide)) (fa142n2 24 (by decide))
  have hF1 := hF142n2
  show WX _ _ _ 145 [(0, .ref m), (1, .int mi), (2, .int t2)] [] (n, s, h142n2)
  refine WX.s1 rfl rfl ?_
  refine WX.s1 rfl rfl ?_
  refine WX.s1 (S' := [.long ((mi).toInt64), .ref m]) rfl rfl ?_
  refine WX.s1 rfl rfl ?_
  refine WX.s1 (S' := [.long (((mi).toInt64) &&& 4294967295), .ref m]) rfl rfl ?_
  refine WX.s1 rfl rfl ?_
  refine WX.callC (vs := [.ref m, .long ((mi).toInt64 &&& 4294967295), .int (nI 4)]) rfl rfl rfl (Nat.le_of_ble_eq_true rfl) ((M_h142n2).rcv hm) ?_
  refine m_sayNumL (d := d + 3) (b := 4) (v := (mi).toInt64 &&& 4294967295) hm M_h142n2 hF1 (by decide) (by rw [leBy_len]; decide) (fun h153n3 I153n3 A153n3 fr153n3 M_h153n3 fi153n3 fa153n3 hF153n3 => ?_)
  have FR_h153n3 := (FR_h142n2).ztr fr153n3
  have K_I153n3_1 : I153n3 1 = (nI (l).length) := (fi153n3 1 (by decide)).trans K_I142n2_1
  have K_I153n3_31 : I153n3 31 = (nI (mkG way least l).2.2.2.length) := (fi153n3 31 (by decide)).trans K_I142n2_31
  have FI_I153n3 : Fi I I153n3 (fun f => f = 38 ∨ f = 40) := (FI_I142n2).zsub fi153n3 (fun j hj => by first | exact hj | omega)
  have FA_A153n3 : FaS AR A153n3 (fun b => 24 ≤ b ∧ b ≤ 33) := (FA_A142n2).ztr ((fa153n3).toS (by omega))
  rw [leL_m32] at hF153n3
  have hX2 : RfX I153n3 A153n3 id way least l lo ld T ab := (hX1).mv fi153n3 ((fa153n3).toS (by omega) : FaS A142n2 A153n3 (fun b => b = 25)) (fun f h => by omega) (fun b h => by omega) (by decide) (by obtain ⟨c, w, q⟩ := hX1.2.2.2.2.2.2.2.1; exact ⟨c, w, (q).fa (fi153n3 38 (by decide)) (fa153n3 24 (by decide))⟩)
  have hM2 : MadeIs I153n3 A153n3 (8 * (y).length) wy := (hM1).fa (fi153n3 38 (by decide)) (fa153n3 24 (by decide))
  have hF2 := hF153n3
  have hlen2 : (leBy 3962610743 4 ++ leL (mi).toInt64 4).length = 8 := by rw [List.length_append, leBy_len, leL_len]
  show WX _ _ _ 156 [(0, .ref m), (1, .int mi), (2, .int t2)] [] (n, s, h153n3)
  refine WX.s1 rfl rfl ?_
  refine WX.callC (vs := [.ref m]) rfl rfl rfl (Nat.le_of_ble_eq_true rfl) ((M_h153n3).rcv hm) ?_
  refine m_sayMade (d := d + 3) hm M_h153n3 hM2 hF2 (by omega) hM2.1 (fun h157n4 I157n4 A157n4 fr157n4 M_h157n4 fi157n4 fa157n4 hF157n4 => ?_)
  have FR_h157n4 := (FR_h153n3).ztr fr157n4
  have K_I157n4_1 : I157n4 1 = (nI (l).length) := (fi157n4 1 (by decide)).trans K_I153n3_1
  have K_I157n4_31 : I157n4 31 = (nI (mkG way least l).2.2.2.length) := (fi157n4 31 (by decide)).trans K_I153n3_31
  have FI_I157n4 : Fi I I157n4 (fun f => f = 38 ∨ f = 40) := (FI_I153n3).zsub fi157n4 (fun j hj => by first | exact hj | omega)
  have FA_A157n4 : FaS AR A157n4 (fun b => 24 ≤ b ∧ b ≤ 33) := (FA_A153n3).ztr ((fa157n4).toS (by omega))
  rw [Nat.mul_div_cancel_left _ (by decide : 0 < 8), ewy] at hF157n4
  have hX3 : RfX I157n4 A157n4 id way least l lo ld T ab := (hX2).mv fi157n4 ((fa157n4).toS (by omega) : FaS A153n3 A157n4 (fun b => b = 25)) (fun f h => by omega) (fun b h => by omega) (by decide) (by obtain ⟨c, w, q⟩ := hX2.2.2.2.2.2.2.2.1; exact ⟨c, w, (q).fa (fi157n4 38 (by decide)) (fa157n4 24 (by decide))⟩)
  have hM3 : MadeIs I157n4 A157n4 (8 * (y).length) wy := (hM2).fa (fi157n4 38 (by decide)) (fa157n4 24 (by decide))
  have hF3 := hF157n4
  have hlen3 : ((leBy 3962610743 4 ++ leL (mi).toInt64 4) ++ y).length = 8 + (y).length := by rw [List.length_append, hlen2]
  have K31 := K_I157n4_31
  have fiC := FI_I157n4
  have faC := FA_A157n4
  have frC := FR_h157n4
  have M_h1 := M_h157n4
  show WX _ _ _ 160 [(0, .ref m), (1, .int mi), (2, .int t2)] [] (n, s, h157n4)
  refine WX.s1 rfl rfl ?_
  refine WX.s1 (L' := [(0, .ref m), (1, .int mi), (2, .int t2), (3, .int 0)]) rfl rfl ?_
  refine WX.s1 rfl rfl ?_
  refine WX.s1 rfl rfl ?_
  refine WX.icmp rfl (fun c_164 => absurd c_164 (by decide)) (fun c_164 => ?_)
  clear c_164
  refine WX.s1 rfl rfl ?_
  refine WX.if_ rfl (fun c_168 => absurd c_168 (by decide)) (fun c_168 => ?_)
  clear c_168
  refine WX.s1 rfl rfl ?_
  refine WX.s1 rfl rfl ?_
  refine WX.s1 (L' := [(0, .ref m), (1, .int mi), (2, .int t2), (3, .int 0), (4, .int 1)]) rfl rfl ?_
  show WX (lk tX12_make) (mM (d + 5)) Ψ 187 [(0, .ref m), (1, .int mi), (2, .int t2), (3, .int 0), (4, .int (nI 1))] [] (n, s, h157n4)
  refine m_mkK (d := d) (tb := 1) (ss := (numF (1, 4, 8) (mkG way least l).2.2.2).1.map sy2) (F := ((leBy 3962610743 4 ++ leL (mi).toInt64 4) ++ y)) hm M_h157n4 (by decide) ok2 (fun i hi => by rw [FA_A157n4 21 (by decide)]; exact hs2 i hi) hM3 hF3 (by omega) (by rw [l2]; exact K_I157n4_31) (fun hk0 Ik0 Ak0 ck0 wk0 frk0 M_hk0 fik0 fak0 hM4 hF4 hbl0 => ?_)
  have FR_hk0 := (FR_h157n4).ztr frk0
  have FI_Ik0 : Fi I Ik0 (fun f => f = 38 ∨ f = 40) := (FI_I157n4).zsub fik0 (fun j hj => by omega)
  have FA_Ak0 : FaS AR Ak0 (fun b => 24 ≤ b ∧ b ≤ 33) := (FA_A157n4).ztr ((fak0).mono (fun x hx => by omega))
  have K_Ik0_31 : Ik0 31 = nI (mkG way least l).2.2.2.length := (fik0 31 (by decide)).trans K_I157n4_31
  have hX4 : RfX Ik0 Ak0 id way least l lo ld T ab := (hX3).mv fik0 fak0 (fun f h => by omega) (fun b h => by omega) (by decide) ⟨_, _, hM4⟩
  have hlen4 : (((leBy 3962610743 4 ++ leL (mi).toInt64 4) ++ y) ++ boY ((numF (1, 4, 8) (mkG way least l).2.2.2).1.map sy2) (gT 1)).length = ((leBy 3962610743 4 ++ leL (mi).toInt64 4) ++ y).length + (boY ((numF (1, 4, 8) (mkG way least l).2.2.2).1.map sy2) (gT 1)).length := List.length_append
  rw [hlen3] at hlen4
  refine WX.s1 (L' := [(0, .ref m), (1, .int mi), (2, .int t2), (3, .int (0 + 1)), (4, .int (nI 1))]) rfl rfl ?_
  refine WX.s1 rfl rfl ?_
  refine WX.s1 rfl rfl ?_
  refine WX.s1 rfl rfl ?_
  refine WX.icmp rfl (fun c_164 => absurd c_164 (by decide)) (fun c_164 => ?_)
  clear c_164
  refine WX.s1 rfl rfl ?_
  refine WX.if_ rfl (fun c_168 => ?_) (fun c_168 => absurd (by decide) c_168)
  clear c_168
  refine WX.s1 rfl rfl ?_
  refine WX.s1 rfl rfl ?_
  refine WX.icmp rfl (fun c_177 => absurd c_177 (by decide)) (fun c_177 => ?_)
  clear c_177
  refine WX.s1 rfl rfl ?_
  refine WX.s1 rfl rfl ?_
  refine WX.s1 (L' := [(0, .ref m), (1, .int mi), (2, .int t2), (3, .int (0 + 1)), (4, .int 2)]) rfl rfl ?_
  show WX (lk tX12_make) (mM (d + 5)) Ψ 187 [(0, .ref m), (1, .int mi), (2, .int t2), (3, .int 1), (4, .int (nI 2))] [] (n, s, hk0)
  refine m_mkK (d := d) (tb := 2) (ss := (seqV3 (mkG way least l).2.2.2).map sy3) (F := (((leBy 3962610743 4 ++ leL (mi).toInt64 4) ++ y) ++ boY ((numF (1, 4, 8) (mkG way least l).2.2.2).1.map sy2) (gT 1))) hm M_hk0 (by decide) ok3 (fun i hi => by rw [FA_Ak0 21 (by decide)]; exact hs3 i hi) hM4 hF4 (by rw [hlen4]; omega) (by rw [l3]; exact K_Ik0_31) (fun hk1 Ik1 Ak1 ck1 wk1 frk1 M_hk1 fik1 fak1 hM5 hF5 hbl1 => ?_)
  have FR_hk1 := (FR_hk0).ztr frk1
  have FI_Ik1 : Fi I Ik1 (fun f => f = 38 ∨ f = 40) := (FI_Ik0).zsub fik1 (fun j hj => by omega)
  have FA_Ak1 : FaS AR Ak1 (fun b => 24 ≤ b ∧ b ≤ 33) := (FA_Ak0).ztr ((fak1).mono (fun x hx => by omega))
  have K_Ik1_31 : Ik1 31 = nI (mkG way least l).2.2.2.length := (fik1 31 (by decide)).trans K_Ik0_31
  have hX5 : RfX Ik1 Ak1 id way least l lo ld T ab := (hX4).mv fik1 fak1 (fun f h => by omega) (fun b h => by omega) (by decide) ⟨_, _, hM5⟩
  have hlen5 : ((((leBy 3962610743 4 ++ leL (mi).toInt64 4) ++ y) ++ boY ((numF (1, 4, 8) (mkG way least l).2.2.2).1.map sy2) (gT 1)) ++ boY ((seqV3 (mkG way least l).2.2.2).map sy3) (gT 2)).length = (((leBy 3962610743 4 ++ leL (mi).toInt64 4) ++ y) ++ boY ((numF (1, 4, 8) (mkG way least l).2.2.2).1.map sy2) (gT 1)).length + (boY ((seqV3 (mkG way least l).2.2.2).map sy3) (gT 2)).length := List.length_append
  rw [hlen4] at hlen5
  refine WX.s1 (L' := [(0, .ref m), (1, .int mi), (2, .int t2), (3, .int (1 + 1)), (4, .int (nI 2))]) rfl rfl ?_
  refine WX.s1 rfl rfl ?_
  refine WX.s1 rfl rfl ?_
  refine WX.s1 rfl rfl ?_
  refine WX.icmp rfl (fun c_164 => absurd c_164 (by decide)) (fun c_164 => ?_)
  clear c_164
  refine WX.s1 rfl rfl ?_
  refine WX.if_ rfl (fun c_168 => ?_) (fun c_168 => absurd (by decide) c_168)
  clear c_168
  refine WX.s1 rfl rfl ?_
  refine WX.s1 rfl rfl ?_
  refine WX.icmp rfl (fun c_177 => ?_) (fun c_177 => absurd (by decide) c_177)
  clear c_177
  refine WX.s1 rfl rfl ?_
  refine WX.s1 (L' := [(0, .ref m), (1, .int mi), (2, .int t2), (3, .int (1 + 1)), (4, .int 0)]) rfl rfl ?_
  show WX (lk tX12_make) (mM (d + 5)) Ψ 187 [(0, .ref m), (1, .int mi), (2, .int t2), (3, .int 2), (4, .int (nI 0))] [] (n, s, hk1)
  refine m_mkK (d := d) (tb := 0) (ss := (seqV1 (mkG way least l).2.2.2).map sy1) (F := ((((leBy 3962610743 4 ++ leL (mi).toInt64 4) ++ y) ++ boY ((numF (1, 4, 8) (mkG way least l).2.2.2).1.map sy2) (gT 1)) ++ boY ((seqV3 (mkG way least l).2.2.2).map sy3) (gT 2))) hm M_hk1 (by decide) ok1 (fun i hi => by rw [FA_Ak1 21 (by decide)]; exact hs1 i hi) hM5 hF5 (by rw [hlen5]; omega) (by rw [l1]; exact K_Ik1_31) (fun hk2 Ik2 Ak2 ck2 wk2 frk2 M_hk2 fik2 fak2 hM6 hF6 hbl2 => ?_)
  have FR_hk2 := (FR_hk1).ztr frk2
  have FI_Ik2 : Fi I Ik2 (fun f => f = 38 ∨ f = 40) := (FI_Ik1).zsub fik2 (fun j hj => by omega)
  have FA_Ak2 : FaS AR Ak2 (fun b => 24 ≤ b ∧ b ≤ 33) := (FA_Ak1).ztr ((fak2).mono (fun x hx => by omega))
  have K_Ik2_31 : Ik2 31 = nI (mkG way least l).2.2.2.length := (fik2 31 (by decide)).trans K_Ik1_31
  have hX6 : RfX Ik2 Ak2 id way least l lo ld T ab := (hX5).mv fik2 fak2 (fun f h => by omega) (fun b h => by omega) (by decide) ⟨_, _, hM6⟩
  have hlen6 : (((((leBy 3962610743 4 ++ leL (mi).toInt64 4) ++ y) ++ boY ((numF (1, 4, 8) (mkG way least l).2.2.2).1.map sy2) (gT 1)) ++ boY ((seqV3 (mkG way least l).2.2.2).map sy3) (gT 2)) ++ boY ((seqV1 (mkG way least l).2.2.2).map sy1) (gT 0)).length = ((((leBy 3962610743 4 ++ leL (mi).toInt64 4) ++ y) ++ boY ((numF (1, 4, 8) (mkG way least l).2.2.2).1.map sy2) (gT 1)) ++ boY ((seqV3 (mkG way least l).2.2.2).map sy3) (gT 2)).length + (boY ((seqV1 (mkG way least l).2.2.2).map sy1) (gT 0)).length := List.length_append
  rw [hlen5] at hlen6
  refine WX.s1 (L' := [(0, .ref m), (1, .int mi), (2, .int t2), (3, .int (2 + 1)), (4, .int (nI 0))]) rfl rfl ?_
  refine WX.s1 rfl rfl ?_
  refine WX.s1 rfl rfl ?_
  refine WX.s1 rfl rfl ?_
  refine WX.icmp rfl (fun c_164 => ?_) (fun c_164 => absurd (by decide) c_164)
  clear c_164
  refine WX.keep (y := 213) [0, 1] (show ([0, 1, 2, 3, 4] : List Nat).Nodup by decide) rfl ?_
  have eB : (mkB mi l y (mkG way least l).2.2.2) = (((((leBy 3962610743 4 ++ leL (mi).toInt64 4) ++ y) ++ boY ((numF (1, 4, 8) (mkG way least l).2.2.2).1.map sy2) (gT 1)) ++ boY ((seqV3 (mkG way least l).2.2.2).map sy3) (gT 2)) ++ boY ((seqV1 (mkG way least l).2.2.2).map sy1) (gT 0)) ++ (leBy 1 4 ++ (leBy 4 4 ++ (leBy 8 4 ++ l))) := by
    unfold mkB
    rw [show gT 1 = 8 from rfl, show gT 2 = 9 from rfl, show gT 0 = 9 from rfl]
    simp only [List.append_assoc]
  obtain ⟨BB, hBB⟩ : ∃ B, B = (mkB mi l y (mkG way least l).2.2.2) := ⟨_, rfl⟩
  rw [← hBB] at k0 k1
  have hBB2 := (hBB).trans eB
  clear hBB eB
  subst hBB2
  exact m_mkE (d := d + 2) (F := (((((leBy 3962610743 4 ++ leL (mi).toInt64 4) ++ y) ++ boY ((numF (1, 4, 8) (mkG way least l).2.2.2).1.map sy2) (gT 1)) ++ boY ((seqV3 (mkG way least l).2.2.2).map sy3) (gT 2)) ++ boY ((seqV1 (mkG way least l).2.2.2).map sy1) (gT 0))) hm M_hk2 hX6 hB hF6 (by rw [hlen6]; omega) (fun z h9 I9 A9 f9 M9 q9 => k0 z h9 I9 A9 ((FR_hk2).ztr f9) M9 q9) (fun z h9 I9 A9 f9 M9 q9 => k1 z h9 I9 A9 ((FR_hk2).ztr f9) M9 q9)
set_option maxRecDepth 20000 in
theorem m_mkD {d n s : Nat} {h : Nat → aE} {m : Nat} {I : Nat → Int32} {AR : Nat → Nat → Int32} {LN : Nat → Int64} {id way least : Nat} {l lo ld : List Nat} {T : PkS} {ab : Nat → Nat} {mi : Int32} (hm : m + 43 < n) (M_h : MAt h m I AR LN) (hX : RfX I AR id way least l lo ld T ab) (hB : RfB l lo ld) (hLM : LitM I AR (mkG way least l).2.2.1) (hSM : SeqM I AR (mkG way least l).2.2.2) (hLs : LsOk (mkG way least l).2.2.1) (hq2 : (mkG way least l).2.2.2.length ≤ 2667) (hSq : SqOk (mkG way least l).2.2.2) (h8 : 8 ≤ (l).length) (hq0 : (mkG way least l).2.2.2.length ≠ 0) (hln : (mkG way least l).2.2.1 ≠ []) (hna : ¬ Alk (mkG way least l).2.2.1) (K_I_31 : I 31 = (nI (mkG way least l).2.2.2.length)) (K_I_33 : I 33 = (nI (mkG way least l).2.2.1.length)) {Ψ : Option Value → aH → Prop} (k0 : ∀ r h' I' A', MkR mi way least l r → (r = none ∨ ∃ b, r = some b ∧ 12000 < (b).length) → Fr h h' (inM m) → MAt h' m I' A' LN → RfX I' A' id way least l lo ld T ab → Ψ (some (.int (-1))) (n, s, h')) (k1 : ∀ b h' I' A', MkR mi way least l (some b) → (b).length ≤ 12000 → Fr h h' (inM m) → MAt h' m I' A' LN → RfX I' A' id way least l b ld T ab → Ψ (some (.int (nI (b).length))) (n, s, h')) : WX (lk tX12_make) (mM (d + 5)) Ψ 83 [(0, .ref m), (1, .int mi)] [] (n, s, h) := by
  have FR_h : Fr h h (inM m) := Fr.rf
  have FI_I : Fi I I (fun f => f = 38 ∨ f = 52 ∨ f = 56) := Fi.rf
  have FA_AR : FaS AR AR (fun b => b = 11 ∨ b = 21 ∨ b = 22 ∨ b = 23 ∨ b = 24 ∨ (26 ≤ b ∧ b ≤ 39)) := FaS.rf
  have K_I_1 : I 1 = nI (l).length := hX.1.1
  obtain ⟨hle, hld, hlo, hlb, hlb2⟩ := idP hB
  obtain ⟨c0, w0, hMd⟩ := hX.2.2.2.2.2.2.2.1
  obtain ⟨hLen, -, hlsF⟩ := len_cL hLs (two_alk hLs hln hna)
  refine WX.s1 rfl rfl ?_
  refine WX.s1 (L' := [(0, .ref m), (1, .int mi), (2, .int 0)]) rfl rfl ?_
  refine WX.s1 rfl rfl ?_
  refine WX.s1 rfl rfl ?_
  refine WX.icmp rfl (fun c_87 => absurd c_87 (by decide)) (fun c_87 => ?_)
  clear c_87
  refine WX.s1 rfl rfl ?_
  refine WX.mget rfl hm M_h rfl ?_
  refine WX.s1 rfl rfl ?_
  refine WX.s1 rfl rfl ?_
  refine WX.if_ rfl (fun c_96 => absurd c_96 (by decide)) (fun c_96 => ?_)
  clear c_96
  refine WX.s1 rfl rfl ?_
  refine WX.s1 rfl rfl ?_
  refine WX.mast (c := 11) rfl hm M_h (by decide) (by decide) (by decide) (by decide) (by unfold vp_in; decide) (fun h106n1 A106n1 e_A106n1 M_h106n1 frh106n1 => ?_)
  try dsimp only at e_A106n1
  have FR_h106n1 := (FR_h).ztr frh106n1
  clear M_h FR_h frh106n1
  refine WX.s1 (L' := [(0, .ref m), (1, .int mi), (2, .int (0 + 1))]) rfl rfl ?_
  refine WX.s1 rfl rfl ?_
  refine WX.s1 rfl rfl ?_
  refine WX.s1 rfl rfl ?_
  refine WX.icmp rfl (fun c_87 => absurd c_87 (by decide)) (fun c_87 => ?_)
  clear c_87
  refine WX.s1 rfl rfl ?_
  refine WX.mget rfl hm M_h106n1 rfl ?_
  refine WX.s1 rfl rfl ?_
  refine WX.s1 rfl rfl ?_
  refine WX.if_ rfl (fun c_96 => ?_) (fun c_96 => absurd (by decide) c_96)
  clear c_96
  refine WX.s1 rfl rfl ?_
  refine WX.s1 rfl rfl ?_
  refine WX.s1 (S' := [.int (4 * (0 + 1)), .int (0 + 1), .ref (m + 11)]) rfl rfl ?_
  refine WX.mast (c := 11) rfl hm M_h106n1 (by decide) (by decide) (by decide) (by decide) (by unfold vp_in; decide) (fun h106n2 A106n2 e_A106n2 M_h106n2 frh106n2 => ?_)
  try dsimp only at e_A106n2
  have FR_h106n2 := (FR_h106n1).ztr frh106n2
  clear M_h106n1 FR_h106n1 frh106n2
  refine WX.s1 (L' := [(0, .ref m), (1, .int mi), (2, .int ((0 + 1) + 1))]) rfl rfl ?_
  refine WX.s1 rfl rfl ?_
  refine WX.s1 rfl rfl ?_
  refine WX.s1 rfl rfl ?_
  refine WX.icmp rfl (fun c_87 => absurd c_87 (by decide)) (fun c_87 => ?_)
  clear c_87
  refine WX.s1 rfl rfl ?_
  refine WX.mget rfl hm M_h106n2 rfl ?_
  refine WX.s1 rfl rfl ?_
  refine WX.s1 rfl rfl ?_
  refine WX.if_ rfl (fun c_96 => ?_) (fun c_96 => absurd (by decide) c_96)
  clear c_96
  refine WX.s1 rfl rfl ?_
  refine WX.s1 rfl rfl ?_
  refine WX.s1 (S' := [.int (4 * ((0 + 1) + 1)), .int ((0 + 1) + 1), .ref (m + 11)]) rfl rfl ?_
  refine WX.mast (c := 11) rfl hm M_h106n2 (by decide) (by decide) (by decide) (by decide) (by unfold vp_in; decide) (fun h106n3 A106n3 e_A106n3 M_h106n3 frh106n3 => ?_)
  try dsimp only at e_A106n3
  have FR_h106n3 := (FR_h106n2).ztr frh106n3
  clear M_h106n2 FR_h106n2 frh106n3
  refine WX.s1 (L' := [(0, .ref m), (1, .int mi), (2, .int (((0 + 1) + 1) + 1))]) rfl rfl ?_
  refine WX.s1 rfl rfl ?_
  refine WX.s1 rfl rfl ?_
  refine WX.s1 rfl rfl ?_
  refine WX.icmp rfl (fun c_87 => ?_) (fun c_87 => absurd (by decide) c_87)
  clear c_87
  have z_A106n1 : A106n1 = upA AR 11 0 (1) := e_A106n1
  have z_A106n2 : A106n2 = upA A106n1 11 1 (4) := e_A106n2
  have z_A106n3 : A106n3 = upA A106n2 11 2 (8) := e_A106n3
  have hLat : LatM A106n3 (1, 4, 8) := ⟨by rw [z_A106n3, upA_same, pk_un (by decide), z_A106n2, upA_same, pk_un (by decide), z_A106n1, upA_same, pk_us]; rfl, by rw [z_A106n3, upA_same, pk_un (by decide), z_A106n2, upA_same, pk_us]; rfl, by rw [z_A106n3, upA_same, pk_us]; rfl⟩
  have fL : FaS AR A106n3 (fun b => b = 11) := ((((FaS.rf : FaS AR AR (fun b => b = 11)).ast z_A106n1 (by omega)).ast z_A106n2 (by omega)).ast z_A106n3 (by omega))
  have FA_A106n3 : FaS AR A106n3 (fun b => b = 11 ∨ b = 21 ∨ b = 22 ∨ b = 23 ∨ b = 24 ∨ (26 ≤ b ∧ b ≤ 39)) := (fL).mono (fun x hx => by omega)
  have hSM1 : SeqM I A106n3 (mkG way least l).2.2.2 := ⟨hSM.1, fun i hi => by rw [fL 17 (by decide), fL 18 (by decide), fL 19 (by decide)]; exact hSM.2 i hi⟩
  have hLM1 : LitM I A106n3 (mkG way least l).2.2.1 := ⟨hLM.1, fun i hi => by rw [fL 20 (by decide)]; exact hLM.2 i hi⟩
  have hMd1 : MadeIs I A106n3 c0 w0 := (hMd).fa rfl (fL 24 (by decide))
  clear e_A106n1 z_A106n1 e_A106n2 z_A106n2 e_A106n3 z_A106n3
  refine WX.keep (y := 213) [0, 1] (show ([0, 1, 2] : List Nat).Nodup by decide) rfl ?_
  refine WX.s1 rfl rfl ?_
  refine WX.callC (vs := [.ref m]) rfl rfl rfl (Nat.le_of_ble_eq_true rfl) ((M_h106n3).rcv hm) ?_
  refine m_tellAll (d := d + 3) (qs := (mkG way least l).2.2.2) (lt := (1, 4, 8)) hm M_h106n3 hSM1 hSq hq2 hLat ⟨by decide, by decide, by decide, by decide, by decide, by decide⟩ (fun h114n4 A114n4 fr114n4 M_h114n4 fa114n4 hT1 hT2 hT3 _ _ => ?_)
  have FR_h114n4 := (FR_h106n3).ztr fr114n4
  have FA_A114n4 : FaS AR A114n4 (fun b => b = 11 ∨ b = 21 ∨ b = 22 ∨ b = 23 ∨ b = 24 ∨ (26 ≤ b ∧ b ≤ 39)) := (FA_A106n3).ztr ((fa114n4).mono (fun x hx => by omega))
  have hLM2 : LitM I A114n4 (mkG way least l).2.2.1 := ⟨hLM1.1, fun i hi => by rw [fa114n4 20 (by decide)]; exact hLM1.2 i hi⟩
  have hMd2 : MadeIs I A114n4 c0 w0 := (hMd1).fa rfl (fa114n4 24 (by decide))
  have hs1 : SyM A114n4 0 ((seqV1 (mkG way least l).2.2.2).map sy1) := (hT1).sy (fun v => by have := sy1_lt v; omega)
  have hs2 : SyM A114n4 1 ((numF (1, 4, 8) (mkG way least l).2.2.2).1.map sy2) := (hT2).sy (fun v => by have := sy2_lt v; omega)
  have hs3 : SyM A114n4 2 ((seqV3 (mkG way least l).2.2.2).map sy3) := (hT3).sy (fun v => by have := sy3_lt v; omega)
  show WX _ _ _ 117 [(0, .ref m), (1, .int mi)] [] (n, s, h114n4)
  refine WX.s1 rfl rfl ?_
  refine WX.callC (vs := [.ref m]) rfl rfl rfl (Nat.le_of_ble_eq_true rfl) ((M_h114n4).rcv hm) ?_
  refine m_lbc (d := d + 2) (ls := (mkG way least l).2.2.1) hm M_h114n4 hLM2 hLs hLM2.1 (fun h118n5 I118n5 A118n5 fr118n5 M_h118n5 fi118n5 fa118n5 hD37 => ?_)
  have FR_h118n5 := (FR_h114n4).ztr fr118n5
  have K_I118n5_31 : I118n5 31 = (nI (mkG way least l).2.2.2.length) := (fi118n5 31 (by decide)).trans K_I_31
  have K_I118n5_33 : I118n5 33 = (nI (mkG way least l).2.2.1.length) := (fi118n5 33 (by decide)).trans K_I_33
  have FI_I118n5 : Fi I I118n5 (fun f => f = 38 ∨ f = 52 ∨ f = 56) := (FI_I).zsub fi118n5 (fun j hj => by first | exact hj | omega)
  have FA_A118n5 : FaS AR A118n5 (fun b => b = 11 ∨ b = 21 ∨ b = 22 ∨ b = 23 ∨ b = 24 ∨ (26 ≤ b ∧ b ≤ 39)) := (FA_A114n4).ztr ((fa118n5).mono (fun x hx => by omega))
  have hMd3 : MadeIs I118n5 A118n5 c0 w0 := (hMd2).fa (fi118n5 38 (by decide)) (fa118n5 24 (by decide))
  have hr1 : SyM A118n5 0 ((seqV1 (mkG way least l).2.2.2).map sy1) := fun i hi => by rw [fa118n5 21 (by decide)]; exact hs1 i hi
  have hr2 : SyM A118n5 1 ((numF (1, 4, 8) (mkG way least l).2.2.2).1.map sy2) := fun i hi => by rw [fa118n5 21 (by decide)]; exact hs2 i hi
  have hr3 : SyM A118n5 2 ((seqV3 (mkG way least l).2.2.2).map sy3) := fun i hi => by rw [fa118n5 21 (by decide)]; exact hs3 i hi
  show WX _ _ _ 121 [(0, .ref m), (1, .int mi)] [.int (nI (topF (cL (mkG way least l).2.2.1)))] (n, s, h118n5)
  refine WX.s1 (L' := [(0, .ref m), (1, .int mi), (2, .int (nI (topF (cL (mkG way least l).2.2.1))))]) rfl rfl ?_
  refine WX.s1 rfl rfl ?_
  refine WX.s1 rfl rfl ?_
  refine WX.callC (vs := [.ref m, .int (nI (topF (cL (mkG way least l).2.2.1)))]) rfl rfl rfl (Nat.le_of_ble_eq_true rfl) ((M_h118n5).rcv hm) ?_
  refine m_describe (d := d + 1) hm M_h118n5 hD37 hLen hlsF hMd3 (fun en h7 I7 A7 c7 w7 fr7 M_h7 fi7 fa7 hM7 => ?_) (fun y ey h7 I7 A7 fr7 M_h7 fi7 fa7 hY => ?_)
  · skip
    have FR_h7 := (FR_h118n5).ztr fr7
    have FI_I7 : Fi I I7 (fun f => f = 38 ∨ f = 52 ∨ f = 56) := (FI_I118n5).zsub fi7 (fun j hj => by omega)
    have FA_A7 : FaS AR A7 (fun b => b = 11 ∨ b = 21 ∨ b = 22 ∨ b = 23 ∨ b = 24 ∨ (26 ≤ b ∧ b ≤ 39)) := (FA_A118n5).ztr ((fa7).mono (fun j hj => by omega))
    have K_I7_31 : I7 31 = (nI (mkG way least l).2.2.2.length) := (fi7 31 (by decide)).trans K_I118n5_31
    have hX7 : RfX I7 A7 id way least l lo ld T ab := (hX).mv FI_I7 FA_A7 (fun f h => by omega) (fun b h => by omega) (by decide) ⟨_, _, hM7⟩
    show WX _ _ _ 127 [(0, .ref m), (1, .int mi), (2, .int (nI (topF (cL (mkG way least l).2.2.1))))] [.int (-2)] (n, s, h7)
    refine WX.if_ rfl (fun c_127 => absurd c_127 (by decide)) (fun c_127 => ?_)
    clear c_127
    refine WX.s1 rfl rfl ?_
    exact WX.ret1 rfl (k0 none h7 I7 A7 (Or.inl ⟨rfl, Or.inr (Or.inr (Or.inr en))⟩) (Or.inl rfl) FR_h7 M_h7 hX7)
  · skip
    have FR_h7 := (FR_h118n5).ztr fr7
    have FI_I7 : Fi I I7 (fun f => f = 38 ∨ f = 52 ∨ f = 56) := (FI_I118n5).zsub fi7 (fun j hj => by omega)
    have FA_A7 : FaS AR A7 (fun b => b = 11 ∨ b = 21 ∨ b = 22 ∨ b = 23 ∨ b = 24 ∨ (26 ≤ b ∧ b ≤ 39)) := (FA_A118n5).ztr ((fa7).mono (fun j hj => by omega))
    have K_I7_31 : I7 31 = (nI (mkG way least l).2.2.2.length) := (fi7 31 (by decide)).trans K_I118n5_31
    have hyb : (y).length ≤ 24000 := by obtain ⟨wy, q, -⟩ := hY; have := q.2.1; omega
    have hX7 : RfX I7 A7 id way least l lo ld T ab := (hX).mv FI_I7 FA_A7 (fun f h => by omega) (fun b h => by omega) (by decide) (by obtain ⟨wy, q, -⟩ := hY; exact ⟨_, _, q⟩)
    show WX _ _ _ 127 [(0, .ref m), (1, .int mi), (2, .int (nI (topF (cL (mkG way least l).2.2.1))))] [.int (nI (y).length)] (n, s, h7)
    refine WX.if_ rfl (fun c_127 => ?_) (fun c_127 => absurd ((nI_leI (a := 0) (b := (y).length) (by omega) (by omega)).mpr (by omega)) c_127)
    clear c_127
    exact m_mkC (d := d) hm M_h7 hX7 hB hY (by omega) hq2 (fun i hi => by rw [fa7 21 (by decide)]; exact hr1 i hi) (fun i hi => by rw [fa7 21 (by decide)]; exact hr2 i hi) (fun i hi => by rw [fa7 21 (by decide)]; exact hr3 i hi) K_I7_31 (fun z h9 I9 A9 f9 M9 q9 => k0 (some (mkB mi l y (mkG way least l).2.2.2)) h9 I9 A9 (Or.inr ⟨h8, hq0, hln, hna, y, ey, rfl⟩) (Or.inr ⟨_, rfl, z⟩) ((FR_h7).ztr f9) M9 q9) (fun z h9 I9 A9 f9 M9 q9 => k1 (mkB mi l y (mkG way least l).2.2.2) h9 I9 A9 (Or.inr ⟨h8, hq0, hln, hna, y, ey, rfl⟩) z ((FR_h7).ztr f9) M9 q9)
set_option maxRecDepth 20000 in
theorem m_makeL {d n s : Nat} {h : Nat → aE} {m : Nat} {I : Nat → Int32} {AR : Nat → Nat → Int32} {LN : Nat → Int64} {id way least : Nat} {l lo ld : List Nat} {T : PkS} {ab : Nat → Nat} {mi : Int32} (hm : m + 43 < n) (M_h : MAt h m I AR LN) (hX : RfX I AR id way least l lo ld T ab) (hB : RfB l lo ld) (hw : way ≤ 3) (hl3 : 3 ≤ least) (hl8 : least ≤ 8)  {Ψ : Option Value → aH → Prop} (k0 : ∀ r h' I' A', MkR mi way least l r → (r = none ∨ ∃ b, r = some b ∧ 12000 < (b).length) → Fr h h' (inM m) → MAt h' m I' A' LN → RfX I' A' id way least l lo ld T ab → Ψ (some (.int (-1))) (n, s, h')) (k1 : ∀ b h' I' A', MkR mi way least l (some b) → (b).length ≤ 12000 → Fr h h' (inM m) → MAt h' m I' A' LN → RfX I' A' id way least l b ld T ab → Ψ (some (.int (nI (b).length))) (n, s, h')) : WO (mM (d + 6)) 213 [.ref m, .int mi] (n, s, h) Ψ := by
  refine WO.of (Nat.le_of_ble_eq_true rfl) ?_
  have FR_h : Fr h h (inM m) := Fr.rf
  have FI_I : Fi I I (fun f => f = 25 ∨ f = 26 ∨ f = 27 ∨ f = 31 ∨ f = 33) := Fi.rf
  have K_I_1 : I 1 = nI (l).length := hX.1.1
  obtain ⟨hle, hld, hlo, hlb, hlb2⟩ := idP hB
  have FA_AR : FaS AR AR (fun b => 16 ≤ b ∧ b ≤ 20) := FaS.rf
  have K_I_4 : I 4 = nI way := hX.2.2.1
  have K_I_5 : I 5 = nI least := hX.2.2.2.1
  obtain ⟨c0, w0, hMd⟩ := hX.2.2.2.2.2.2.2.1
  show WX (lk tX12_make) (mM (d + 5)) Ψ 0 [(0, .ref m), (1, .int mi)] [] (n, s, h)
  refine WX.s1 rfl rfl ?_
  refine WX.mgetK (x := (nI (l).length)) rfl hm M_h rfl K_I_1 ?_
  refine WX.s1 rfl rfl ?_
  refine WX.icmp rfl (fun c_6 => ?_) (fun c_6 => ?_)
  · skip
    have n_6 : 8 ≤ (l).length := (nI_leI (a := 8) (b := (l).length) (by omega) (by omega)).mp c_6
    refine WX.s1 rfl rfl ?_
    refine WX.s1 rfl rfl ?_
    refine WX.mput rfl hm M_h (rfl) (by decide) (fun _ => rfl) (fun h15n1 I15n1 e_I15n1 M_h15n1 frh15n1 => ?_)
    have FR_h15n1 := (FR_h).ztr frh15n1
    have FI_I15n1 : Fi I I15n1 (fun f => f = 25 ∨ f = 26 ∨ f = 27 ∨ f = 31 ∨ f = 33) := (FI_I).zup e_I15n1 (by first | exact rfl | decide | omega)
    have K_I15n1_1 : I15n1 1 = (nI (l).length) := by rw [e_I15n1]; exact (pk_un (by decide)).trans K_I_1
    have K_I15n1_4 : I15n1 4 = (nI way) := by rw [e_I15n1]; exact (pk_un (by decide)).trans K_I_4
    have K_I15n1_5 : I15n1 5 = (nI least) := by rw [e_I15n1]; exact (pk_un (by decide)).trans K_I_5
    have K_I15n1_27 : I15n1 27 = 65536 := by rw [e_I15n1]; exact pk_us
    clear M_h FR_h FI_I e_I15n1 frh15n1 K_I_1 K_I_4 K_I_5
    refine WX.s1 rfl rfl ?_
    refine WX.s1 rfl rfl ?_
    refine WX.mgetK (x := (nI (l).length)) rfl hm M_h15n1 rfl K_I15n1_1 ?_
    refine WX.mput rfl hm M_h15n1 (rfl) (by decide) (fun _ => rfl) (fun h23n2 I23n2 e_I23n2 M_h23n2 frh23n2 => ?_)
    have FR_h23n2 := (FR_h15n1).ztr frh23n2
    have FI_I23n2 : Fi I I23n2 (fun f => f = 25 ∨ f = 26 ∨ f = 27 ∨ f = 31 ∨ f = 33) := (FI_I15n1).zup e_I23n2 (by first | exact rfl | decide | omega)
    have K_I23n2_1 : I23n2 1 = (nI (l).length) := by rw [e_I23n2]; exact (pk_un (by decide)).trans K_I15n1_1
    have K_I23n2_4 : I23n2 4 = (nI way) := by rw [e_I23n2]; exact (pk_un (by decide)).trans K_I15n1_4
    have K_I23n2_5 : I23n2 5 = (nI least) := by rw [e_I23n2]; exact (pk_un (by decide)).trans K_I15n1_5
    have K_I23n2_27 : I23n2 27 = 65536 := by rw [e_I23n2]; exact (pk_un (by decide)).trans K_I15n1_27
    have K_I23n2_25 : I23n2 25 = (nI (l).length) := by rw [e_I23n2]; exact pk_us
    clear M_h15n1 FR_h15n1 FI_I15n1 e_I23n2 frh23n2 K_I15n1_1 K_I15n1_4 K_I15n1_5 K_I15n1_27
    refine WX.s1 rfl rfl ?_
    refine WX.s1 (L' := [(0, .ref m), (1, .int mi), (2, .int 0)]) rfl rfl ?_
    have lp28 : ∀ (t i : Nat) (hL : Nat → aE) (AL : Nat → Nat → Int32), i + t = (l).length → MAt hL m I23n2 AL LN → Fr h hL (inM m) → FaS AR AL (fun b => b = 16) → (∀ j, j < i → AL 16 j = AR 1 j) → WX (lk tX12_make) (mM (d + 5)) Ψ 28 [(0, .ref m), (1, .int mi), (2, .int (nI i))] [] (n, s, hL) := by
      clear M_h23n2 FR_h23n2
      intro t
      induction t with
      | zero =>
        intro i hL AL ht M_hL FR_hL faL q1
        obtain rfl : i = (l).length := by omega
        have FA_AL : FaS AR AL (fun b => 16 ≤ b ∧ b ≤ 20) := (FA_AR).ztr ((faL).mono (fun x hx => by omega))
        refine WX.s1 rfl rfl ?_
        refine WX.s1 rfl rfl ?_
        refine WX.mgetK (x := (nI (l).length)) rfl hm M_hL rfl K_I23n2_1 ?_
        refine WX.icmp rfl (fun c_33 => ?_) (fun c_33 => absurd ((nI_leI (a := (l).length) (b := (l).length) (by omega) (by omega)).mpr (by omega)) c_33)
        clear c_33
        refine WX.s1 rfl rfl ?_
        refine WX.s1 rfl rfl ?_
        have hDd : DataIs AL (catD [] l) (l).length := fun i hi => ⟨hlb i, by rw [q1 i hi]; exact hX.1.2 i hi⟩
        refine WX.callC (vs := [.ref m, .int (nI 0)]) rfl rfl rfl (Nat.le_of_ble_eq_true rfl) ((M_hL).rcv hm) ?_
        refine m_go (d := d + 1) (D := catD [] l) (e := (l).length) (f := 0) (win := 65536) hm M_hL hDd (by omega) hw hl3 hl8 (by decide) (Nat.zero_le _) (by omega) K_I23n2_25 K_I23n2_27 K_I23n2_5 K_I23n2_4 (fun hg Ig Ag kg pg sg lsg qsg eg hpg frg M_hg fig fag hLM hSM => ?_)
        obtain ⟨e1, e2⟩ := goE_of eg hpg
        rw [goE_w (w1 := 65536) (w2 := 16000) (by omega) (by omega)] at e1 e2
        have e1 : (mkG way least l).2.2.1 = lsg := e1
        have e2 : (mkG way least l).2.2.2 = qsg := e2
        subst e1
        subst e2
        clear eg hpg
        obtain ⟨hLs, hq2, hSqB⟩ : LsOk (mkG way least l).2.2.1 ∧ (mkG way least l).2.2.2.length ≤ 2667 ∧ ∀ q, q ∈ (mkG way least l).2.2.2 → SqB q := goE_ok (D := catD [] l) (win := 16000) hl3 (Nat.zero_le _) (by omega) (by omega) (fun i _ => hlb i)
        have hlk := hLs.2
        have FR_hg := (FR_hL).ztr frg
        have FI_Ig : Fi I Ig (fun f => f = 25 ∨ f = 26 ∨ f = 27 ∨ f = 31 ∨ f = 33) := (FI_I23n2).zsub fig (fun j hj => by omega)
        have FA_Ag : FaS AR Ag (fun b => 16 ≤ b ∧ b ≤ 20) := (FA_AL).ztr ((fag).mono (fun x hx => by omega))
        have hXg : RfX Ig Ag id way least l lo ld T ab := (hX).mv FI_Ig FA_Ag (fun f h => by omega) (fun b h => by omega) (by decide) ⟨c0, w0, (hMd).fa (FI_Ig 38 (by decide)) (FA_Ag 24 (by decide))⟩
        have K_Ig_31 : Ig 31 = nI (mkG way least l).2.2.2.length := hSM.1
        have K_Ig_33 : Ig 33 = nI (mkG way least l).2.2.1.length := hLM.1
        show WX _ _ _ 59 [(0, .ref m), (1, .int mi), (2, .int (nI (l).length))] [] (n, s, hg)
        refine WX.s1 rfl rfl ?_
        refine WX.mgetK (x := (nI (mkG way least l).2.2.2.length)) rfl hm M_hg rfl K_Ig_31 ?_
        refine WX.if_ rfl (fun c_63 => ?_) (fun c_63 => ?_)
        · skip
          have n_63 : ((mkG way least l).2.2.2.length) = 0 := (nI_eq (a := (mkG way least l).2.2.2.length) (b := 0) (by omega) (by omega)).mp c_63
          refine WX.s1 rfl rfl ?_
          exact WX.ret1 rfl (k0 none hg Ig Ag (Or.inl ⟨rfl, Or.inr (Or.inl n_63)⟩) (Or.inl rfl) FR_hg M_hg hXg)
        · skip
          have n_63 : ¬ ((mkG way least l).2.2.2.length) = 0 := fun zz_ => c_63 ((nI_eq (a := (mkG way least l).2.2.2.length) (b := 0) (by omega) (by omega)).mpr zz_)
          have hnq : (mkG way least l).2.2.2.length ≠ 0 := n_63
          refine WX.s1 rfl rfl ?_
          refine WX.mgetK (x := (nI (mkG way least l).2.2.1.length)) rfl hm M_hg rfl K_Ig_33 ?_
          refine WX.s1 rfl rfl ?_
          refine WX.icmp rfl (fun c_71 => ?_) (fun c_71 => ?_)
          · skip
            have n_71 : ((mkG way least l).2.2.1.length) < 2 := (nI_ltI (a := (mkG way least l).2.2.1.length) (b := 2) (by omega) (by omega)).mp c_71
            refine WX.s1 rfl rfl ?_
            exact WX.ret1 rfl (k0 none hg Ig Ag (Or.inl ⟨rfl, Or.inr (Or.inr (Or.inl (if z : (mkG way least l).2.2.1.length = 0 then Or.inl (List.eq_nil_of_length_eq_zero z) else Or.inr (alk_one (by omega)))))⟩) (Or.inl rfl) FR_hg M_hg hXg)
          · skip
            have n_71 : 2 ≤ ((mkG way least l).2.2.1.length) := Nat.le_of_not_lt (fun zz_ => c_71 ((nI_ltI (a := (mkG way least l).2.2.1.length) (b := 2) (by omega) (by omega)).mpr zz_))
            refine WX.s1 rfl rfl ?_
            refine WX.callC (vs := [.ref m]) rfl rfl rfl (Nat.le_of_ble_eq_true rfl) ((M_hg).rcv hm) ?_
            refine m_allAlk (d := d + 4) hm M_hg hLM hLs hLM.1 (fun hal => ?_) (fun hal => ?_)
            · skip
              show WX _ _ _ 78 [(0, .ref m), (1, .int mi), (2, .int (nI (l).length))] [.int 1] (n, s, hg)
              refine WX.if_ rfl (fun c_78 => absurd c_78 (by decide)) (fun c_78 => ?_)
              clear c_78
              refine WX.s1 rfl rfl ?_
              exact WX.ret1 rfl (k0 none hg Ig Ag (Or.inl ⟨rfl, Or.inr (Or.inr (Or.inl (Or.inr hal)))⟩) (Or.inl rfl) FR_hg M_hg hXg)
            · skip
              show WX _ _ _ 78 [(0, .ref m), (1, .int mi), (2, .int (nI (l).length))] [.int 0] (n, s, hg)
              refine WX.if_ rfl (fun c_78 => ?_) (fun c_78 => absurd (by decide) c_78)
              clear c_78
              refine WX.keep (y := 213) [0, 1] (show ([0, 1, 2] : List Nat).Nodup by decide) rfl ?_
              exact m_mkD (d := d) hm M_hg hXg hB hLM hSM hLs hq2 (sq_ok hSqB) (by omega) hnq (fun z => by have q := congrArg List.length z; rw [List.length_nil] at q; omega) hal K_Ig_31 K_Ig_33 (fun r h9 I9 A9 z zz f9 M9 q9 => k0 r h9 I9 A9 z zz ((FR_hg).ztr f9) M9 q9) (fun b h9 I9 A9 z zz f9 M9 q9 => k1 b h9 I9 A9 z zz ((FR_hg).ztr f9) M9 q9)
      | succ t ih =>
        intro i hL AL ht M_hL FR_hL faL hInv
        refine WX.s1 rfl rfl ?_
        refine WX.s1 rfl rfl ?_
        refine WX.mgetK (x := (nI (l).length)) rfl hm M_hL rfl K_I23n2_1 ?_
        refine WX.icmp rfl (fun c_33 => absurd c_33 (fun zz_ => absurd ((nI_leI (a := (l).length) (b := i) (by omega) (by omega)).mp zz_) (Nat.not_le.mpr (by omega)))) (fun c_33 => ?_)
        clear c_33
        refine WX.s1 rfl rfl ?_
        refine WX.mget rfl hm M_hL rfl ?_
        refine WX.s1 rfl rfl ?_
        refine WX.s1 rfl rfl ?_
        refine WX.mget rfl hm M_hL rfl ?_
        refine WX.s1 rfl rfl ?_
        refine WX.mald (c := 1) rfl hm M_hL (by decide) (by decide) (by decide) (by decide) (vp_in_nI (N := 8000) (by omega) (by decide)) ?_
        rw [nI_clamp (by omega), faL 1 (by decide)]
        refine WX.mast (c := 16) rfl hm M_hL (by decide) (by decide) (by decide) (by decide) (vp_in_nI (N := 16000) (by omega) (by decide)) (fun h47n3 A47n3 e_A47n3 M_h47n3 frh47n3 => ?_)
        try dsimp only at e_A47n3
        have FR_h47n3 := (FR_hL).ztr frh47n3
        clear M_hL FR_hL frh47n3
        refine WX.s1 (L' := [(0, .ref m), (1, .int mi), (2, .int ((nI i) + 1))]) rfl rfl ?_
        rw [show ((nI i) + 1) = nI (i + 1) from nI_add i 1]
        refine WX.s1 rfl rfl ?_
        rw [nI_clamp (by omega)] at e_A47n3
        refine ih (i + 1) h47n3 A47n3 (by omega) M_h47n3 FR_h47n3 ((faL).ast e_A47n3 (by omega)) ?_
        intro j hj
        by_cases z : j = i
        · rw [z, e_A47n3, upA_same, pk_us]
        · rw [e_A47n3, upA_same, pk_un z]; exact hInv j (by omega)
    exact lp28 (l).length 0 h23n2 AR (by omega) M_h23n2 FR_h23n2 FaS.rf (fun j hj => absurd hj (Nat.not_lt_zero j))
  · skip
    have n_6 : (l).length < 8 := Nat.lt_of_not_le (fun zz_ => c_6 ((nI_leI (a := 8) (b := (l).length) (by omega) (by omega)).mpr zz_))
    refine WX.s1 rfl rfl ?_
    exact WX.ret1 rfl (k0 none h I AR (Or.inl ⟨rfl, Or.inl (by omega)⟩) (Or.inl rfl) FR_h M_h hX)
