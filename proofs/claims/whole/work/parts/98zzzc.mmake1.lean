/-! make of the reference -/
theorem RfX.out {I J : Nat → Int32} {A B : Nat → Nat → Int32} {id way least : Nat} {l lo ld lo2 : List Nat} {T : PkS} {ab : Nat → Nat} (h : RfX I A id way least l lo ld T ab) (fi : Fi I J (fun f => f = 3)) (fa : FaS A B (fun b => b = 2)) (hO : OutIs J B lo2) : RfX J B id way least l lo2 ld T ab := by
  obtain ⟨a, b, c, d, e, f, g, ⟨c1, w1, M⟩, i⟩ := h
  refine ⟨⟨(fi 1 (by decide)).trans a.1, ?_⟩, hO, (fi 4 (by decide)).trans c, (fi 5 (by decide)).trans d, ⟨(fi 7 (by decide)).trans e.1, ?_⟩, (fi 8 (by decide)).trans f, (g).mv (fi 9 (by decide)) (fa 4 (by decide)) (fa 5 (by decide)) (fa 6 (by decide)) (fa 7 (by decide)), ⟨c1, w1, M.fa (fi 38 (by decide)) (fa 24 (by decide))⟩, ?_⟩
  · rw [fa 1 (by decide)]; exact a.2
  · rw [fa 3 (by decide)]; exact e.2
  · rw [fa 43 (by decide)]; exact i
theorem take_d {l : List Nat} {i : Nat} (h : i < (l).length) : (l).take (i + 1) = (l).take i ++ [(l).getD i 0] := by
  rw [List.take_succ, List.getD_eq_getElem?_getD, List.getElem?_eq_getElem h]
  rfl
theorem alk_one {ls : List Nat} (h : (ls).length = 1) : Alk ls := by
  match ls, h with
  | [a], _ => exact ⟨by simp, fun s hs => by simpa using hs⟩
set_option maxRecDepth 20000 in
theorem m_mkE {d n s : Nat} {h : Nat → aE} {m : Nat} {I : Nat → Int32} {AR : Nat → Nat → Int32} {LN : Nat → Int64} {id way least : Nat} {l lo ld : List Nat} {T : PkS} {ab : Nat → Nat} {mi : Int32} {F : List Nat} (hm : m + 43 < n) (M_h : MAt h m I AR LN) (hX : RfX I AR id way least l lo ld T ab) (hB : RfB l lo ld) (hF : FrameIs I AR F) (hFl : F.length < 2 ^ 26)  {Ψ : Option Value → aH → Prop} (k0 : 12000 < (F ++ (leBy 1 4 ++ (leBy 4 4 ++ (leBy 8 4 ++ l)))).length → ∀ h' I' A', Fr h h' (inM m) → MAt h' m I' A' LN → RfX I' A' id way least l lo ld T ab → Ψ (some (.int (-1))) (n, s, h')) (k1 : (F ++ (leBy 1 4 ++ (leBy 4 4 ++ (leBy 8 4 ++ l)))).length ≤ 12000 → ∀ h' I' A', Fr h h' (inM m) → MAt h' m I' A' LN → RfX I' A' id way least l (F ++ (leBy 1 4 ++ (leBy 4 4 ++ (leBy 8 4 ++ l)))) ld T ab → Ψ (some (.int (nI (F ++ (leBy 1 4 ++ (leBy 4 4 ++ (leBy 8 4 ++ l)))).length))) (n, s, h')) : WX (lk tX12_make) (mM (d + 3)) Ψ 230 [(0, .ref m), (1, .int mi)] [] (n, s, h) := by
  have FR_h : Fr h h (inM m) := Fr.rf
  have FI_I : Fi I I (fun f => f = 3 ∨ 25 ≤ f) := Fi.rf
  have FA_AR : FaS AR AR (fun b => b = 2 ∨ (8 ≤ b ∧ b ≤ 42)) := FaS.rf
  have K_I_1 : I 1 = nI (l).length := hX.1.1
  obtain ⟨hle, hld, hlo, hlb, hlb2⟩ := idP hB
  refine WX.s1 rfl rfl ?_
  refine WX.s1 rfl rfl ?_
  refine WX.s1 rfl rfl ?_
  refine WX.callC (vs := [.ref m, .long (lN 1), .int (nI 4)]) rfl rfl rfl (Nat.le_of_ble_eq_true rfl) ((M_h).rcv hm) ?_
  refine m_sayNumL (d := d + 1) (b := 4) (v := lN 1) hm M_h hF (by decide) (by omega) (fun h233n1 I233n1 A233n1 fr233n1 M_h233n1 fi233n1 fa233n1 hF233n1 => ?_)
  have FR_h233n1 := (FR_h).ztr fr233n1
  have K_I233n1_1 : I233n1 1 = (nI (l).length) := (fi233n1 1 (by decide)).trans K_I_1
  have FI_I233n1 : Fi I I233n1 (fun f => f = 3 ∨ 25 ≤ f) := (FI_I).zsub fi233n1 (fun j hj => by first | exact hj | omega)
  have FA_A233n1 : FaS AR A233n1 (fun b => b = 2 ∨ (8 ≤ b ∧ b ≤ 42)) := (FA_AR).ztr ((fa233n1).toS (by omega))
  rw [leL_lN (by decide)] at hF233n1
  have hX1 : RfX I233n1 A233n1 id way least l lo ld T ab := (hX).mv fi233n1 ((fa233n1).toS (by omega) : FaS AR A233n1 (fun b => b = 25)) (fun f h => by omega) (fun b h => by omega) (by decide) (by obtain ⟨c, w, q⟩ := hX.2.2.2.2.2.2.2.1; exact ⟨c, w, (q).fa (fi233n1 38 (by decide)) (fa233n1 24 (by decide))⟩)
  have hF1 := hF233n1
  have q1 : (F ++ leBy 1 4).length = F.length + 4 := by rw [List.length_append, leBy_len]
  show WX _ _ _ 236 [(0, .ref m), (1, .int mi)] [] (n, s, h233n1)
  refine WX.s1 rfl rfl ?_
  refine WX.s1 rfl rfl ?_
  refine WX.s1 rfl rfl ?_
  refine WX.callC (vs := [.ref m, .long (lN 4), .int (nI 4)]) rfl rfl rfl (Nat.le_of_ble_eq_true rfl) ((M_h233n1).rcv hm) ?_
  refine m_sayNumL (d := d + 1) (b := 4) (v := lN 4) hm M_h233n1 hF1 (by decide) (by omega) (fun h241n2 I241n2 A241n2 fr241n2 M_h241n2 fi241n2 fa241n2 hF241n2 => ?_)
  have FR_h241n2 := (FR_h233n1).ztr fr241n2
  have K_I241n2_1 : I241n2 1 = (nI (l).length) := (fi241n2 1 (by decide)).trans K_I233n1_1
  have FI_I241n2 : Fi I I241n2 (fun f => f = 3 ∨ 25 ≤ f) := (FI_I233n1).zsub fi241n2 (fun j hj => by first | exact hj | omega)
  have FA_A241n2 : FaS AR A241n2 (fun b => b = 2 ∨ (8 ≤ b ∧ b ≤ 42)) := (FA_A233n1).ztr ((fa241n2).toS (by omega))
  rw [leL_lN (by decide)] at hF241n2
  have hX2 : RfX I241n2 A241n2 id way least l lo ld T ab := (hX1).mv fi241n2 ((fa241n2).toS (by omega) : FaS A233n1 A241n2 (fun b => b = 25)) (fun f h => by omega) (fun b h => by omega) (by decide) (by obtain ⟨c, w, q⟩ := hX1.2.2.2.2.2.2.2.1; exact ⟨c, w, (q).fa (fi241n2 38 (by decide)) (fa241n2 24 (by decide))⟩)
  have hF2 := hF241n2
  have q2 : ((F ++ leBy 1 4) ++ leBy 4 4).length = F.length + 8 := by rw [List.length_append, leBy_len, q1]
  show WX _ _ _ 244 [(0, .ref m), (1, .int mi)] [] (n, s, h241n2)
  refine WX.s1 rfl rfl ?_
  refine WX.s1 rfl rfl ?_
  refine WX.s1 rfl rfl ?_
  refine WX.callC (vs := [.ref m, .long (lN 8), .int (nI 4)]) rfl rfl rfl (Nat.le_of_ble_eq_true rfl) ((M_h241n2).rcv hm) ?_
  refine m_sayNumL (d := d + 1) (b := 4) (v := lN 8) hm M_h241n2 hF2 (by decide) (by omega) (fun h249n3 I249n3 A249n3 fr249n3 M_h249n3 fi249n3 fa249n3 hF249n3 => ?_)
  have FR_h249n3 := (FR_h241n2).ztr fr249n3
  have K_I249n3_1 : I249n3 1 = (nI (l).length) := (fi249n3 1 (by decide)).trans K_I241n2_1
  have FI_I249n3 : Fi I I249n3 (fun f => f = 3 ∨ 25 ≤ f) := (FI_I241n2).zsub fi249n3 (fun j hj => by first | exact hj | omega)
  have FA_A249n3 : FaS AR A249n3 (fun b => b = 2 ∨ (8 ≤ b ∧ b ≤ 42)) := (FA_A241n2).ztr ((fa249n3).toS (by omega))
  rw [leL_lN (by decide)] at hF249n3
  have hX3 : RfX I249n3 A249n3 id way least l lo ld T ab := (hX2).mv fi249n3 ((fa249n3).toS (by omega) : FaS A241n2 A249n3 (fun b => b = 25)) (fun f h => by omega) (fun b h => by omega) (by decide) (by obtain ⟨c, w, q⟩ := hX2.2.2.2.2.2.2.2.1; exact ⟨c, w, (q).fa (fi249n3 38 (by decide)) (fa249n3 24 (by decide))⟩)
  have hF3 := hF249n3
  rw [List.append_assoc, List.append_assoc, show leBy 1 4 ++ (leBy 4 4 ++ leBy 8 4) = leBy 1 4 ++ (leBy 4 4 ++ leBy 8 4) from rfl] at hF3
  have q3 : (F ++ (leBy 1 4 ++ (leBy 4 4 ++ leBy 8 4))).length = F.length + 12 := by simp only [List.length_append, leBy_len]
  show WX _ _ _ 252 [(0, .ref m), (1, .int mi)] [] (n, s, h249n3)
  refine WX.s1 rfl rfl ?_
  refine WX.s1 (L' := [(0, .ref m), (1, .int mi), (3, .int 0)]) rfl rfl ?_
  have lp : ∀ (t i : Nat) (hL : Nat → aE) (IL : Nat → Int32) (AL : Nat → Nat → Int32), i + t = (l).length → Fr h hL (inM m) → MAt hL m IL AL LN → RfX IL AL id way least l lo ld T ab → FrameIs IL AL ((F ++ (leBy 1 4 ++ (leBy 4 4 ++ leBy 8 4))) ++ (l).take i) → WX (lk tX12_make) (mM (d + 3)) Ψ 254 [(0, .ref m), (1, .int mi), (3, .int (nI i))] [] (n, s, hL) := by
    clear M_h249n3 FR_h249n3
    intro t
    induction t with
    | zero =>
      intro i hL IL AL ht FR_hL M_hL hXL hFL
      have K_IL_1 : IL 1 = nI (l).length := hXL.1.1
      obtain rfl : i = (l).length := by omega
      rw [List.take_length] at hFL
      have eG : (F ++ (leBy 1 4 ++ (leBy 4 4 ++ leBy 8 4))) ++ l = F ++ (leBy 1 4 ++ (leBy 4 4 ++ (leBy 8 4 ++ l))) := by simp only [List.append_assoc]
      rw [eG] at hFL
      have hln : (F ++ (leBy 1 4 ++ (leBy 4 4 ++ (leBy 8 4 ++ l)))).length < 2 ^ 30 := by rw [← eG, List.length_append, q3]; omega
      refine WX.s1 rfl rfl ?_
      refine WX.s1 rfl rfl ?_
      refine WX.mgetK (x := (nI (l).length)) rfl hm M_hL rfl K_IL_1 ?_
      refine WX.icmp rfl (fun c_259 => ?_) (fun c_259 => absurd ((nI_leI (a := (l).length) (b := (l).length) (by omega) (by omega)).mpr (by omega)) c_259)
      clear c_259
      refine WX.s1 rfl rfl ?_
      refine WX.callC (vs := [.ref m]) rfl rfl rfl (Nat.le_of_ble_eq_true rfl) ((M_hL).rcv hm) ?_
      refine m_showL (d := d + 2) hm M_hL hFL hln (fun hbig => ?_) (fun hsm hZ IZ AZ frZ M_hZ fiZ faZ hOut => ?_)
      · exact WX.ret1 rfl (k0 hbig hL IL AL FR_hL M_hL hXL)
      · exact WX.ret1 rfl (k1 hsm hZ IZ AZ ((FR_hL).ztr frZ) M_hZ ((hXL).out fiZ faZ hOut))
    | succ t ih =>
      intro i hL IL AL ht FR_hL M_hL hXL hFL
      have K_IL_1 : IL 1 = nI (l).length := hXL.1.1
      have FI_IL : Fi IL IL (fun f => f = 3 ∨ 25 ≤ f) := Fi.rf
      have FA_AL : FaS AL AL (fun b => b = 2 ∨ (8 ≤ b ∧ b ≤ 42)) := FaS.rf
      have hlt : ((l).take i).length ≤ (l).length := by rw [List.length_take]; omega
      refine WX.s1 rfl rfl ?_
      refine WX.s1 rfl rfl ?_
      refine WX.mgetK (x := (nI (l).length)) rfl hm M_hL rfl K_IL_1 ?_
      refine WX.icmp rfl (fun c_259 => absurd c_259 (fun zz_ => absurd ((nI_leI (a := (l).length) (b := i) (by omega) (by omega)).mp zz_) (Nat.not_le.mpr (by omega)))) (fun c_259 => ?_)
      clear c_259
      refine WX.s1 rfl rfl ?_
      refine WX.s1 rfl rfl ?_
      refine WX.mget rfl hm M_hL rfl ?_
      refine WX.s1 rfl rfl ?_
      refine WX.mald (c := 1) rfl hm M_hL (by decide) (by decide) (by decide) (by decide) (vp_in_nI (N := 8000) (by omega) (by decide)) ?_
      rw [nI_clamp (by omega), hXL.1.2 i (by omega)]
      refine WX.callC (vs := [.ref m, .int (nI ((l).getD i 0))]) rfl rfl rfl (Nat.le_of_ble_eq_true rfl) ((M_hL).rcv hm) ?_
      refine m_sayL (d := d + 2) hm M_hL hFL (by rw [List.length_append, q3]; omega) (fun h8 I8 A8 fr8 M_h8 fi8 fa8 hF8 => ?_)
      rw [Nat.mod_eq_of_lt (hlb i), List.append_assoc, ← take_d (by omega)] at hF8
      have hX8 : RfX I8 A8 id way least l lo ld T ab := (hXL).mv fi8 ((fa8).toS (by omega) : FaS AL A8 (fun b => b = 25)) (fun f h => by omega) (fun b h => by omega) (by decide) (by obtain ⟨c, w, q⟩ := hXL.2.2.2.2.2.2.2.1; exact ⟨c, w, (q).fa (fi8 38 (by decide)) (fa8 24 (by decide))⟩)
      show WX _ _ _ 272 [(0, .ref m), (1, .int mi), (3, .int (nI i))] [] (n, s, h8)
      refine WX.s1 (L' := [(0, .ref m), (1, .int mi), (3, .int ((nI i) + 1))]) rfl rfl ?_
      rw [show ((nI i) + 1) = nI (i + 1) from nI_add i 1]
      refine WX.s1 rfl rfl ?_
      exact ih (i + 1) h8 I8 A8 (by omega) ((FR_hL).ztr fr8) M_h8 hX8 hF8
  exact lp (l).length 0 h249n3 I249n3 A249n3 (by omega) FR_h249n3 M_h249n3 hX3 (by rw [List.take_zero, List.append_nil]; exact hF3)
set_option maxRecDepth 20000 in
theorem m_mkK {d n s : Nat} {h : Nat → aE} {m : Nat} {I : Nat → Int32} {AR : Nat → Nat → Int32} {LN : Nat → Int64} {mi t2 t3 : Int32} {tb c0 w0 : Nat} {ss F : List Nat} (hm : m + 43 < n) (M_h : MAt h m I AR LN) (htb : tb < 3) (hok : SyOk ss) (hss : SyM AR tb ss) (hM : MadeIs I AR c0 w0) (hF : FrameIs I AR F) (hFl : F.length < 2 ^ 26) (K_I_31 : I 31 = (nI (ss).length)) {Ψ : Option Value → aH → Prop} (kk : ∀ h' I' A' c w, Fr h h' (inM m) → MAt h' m I' A' LN → Fi I I' (fun f => f = 38 ∨ f = 40) → FaS AR A' (fun b => b = 24 ∨ b = 25 ∨ (26 ≤ b ∧ b ≤ 33)) → MadeIs I' A' c w → FrameIs I' A' (F ++ boY ss (gT tb)) → (boY ss (gT tb)).length ≤ 200 → WX (lk tX12_make) (mM (d + 5)) Ψ 224 [(0, .ref m), (1, .int mi), (2, .int t2), (3, .int t3), (4, .int (nI tb))] [] (n, s, h')) : WX (lk tX12_make) (mM (d + 5)) Ψ 187 [(0, .ref m), (1, .int mi), (2, .int t2), (3, .int t3), (4, .int (nI tb))] [] (n, s, h) := by
  have FR_h : Fr h h (inM m) := Fr.rf
  have FI_I : Fi I I (fun f => f = 38 ∨ f = 40) := Fi.rf
  have FA_AR : FaS AR AR (fun b => b = 24 ∨ b = 25 ∨ (26 ≤ b ∧ b ≤ 33)) := FaS.rf
  obtain ⟨bo1, bo2, bo3, -, -⟩ := bo_fin (G := gT tb) hok (by unfold gT; split <;> decide) (by unfold gT; split <;> decide)
  have hgT : gT tb ≤ 9 := by unfold gT; split <;> decide
  have hsum := cd_sum hok.1
  have hnzc := cd_nz hok.1
  have hk1 := hok.2.1
  have hk2 := hok.2.2
  refine WX.s1 rfl rfl ?_
  refine WX.s1 rfl rfl ?_
  refine WX.callC (vs := [.ref m, .int (nI tb)]) rfl rfl rfl (Nat.le_of_ble_eq_true rfl) ((M_h).rcv hm) ?_
  refine m_bestO (d := d) hm M_h htb hok hss hM K_I_31 (fun h1 I1 A1 c1 w1 fr1 M_h1 fi1 fa1 hM1 hC1 => ?_)
  have FR_h1 := (FR_h).ztr fr1
  have FI_I1 : Fi I I1 (fun f => f = 38 ∨ f = 40) := (FI_I).zsub fi1 (fun j hj => by omega)
  have FA_A1 : FaS AR A1 (fun b => b = 24 ∨ b = 25 ∨ (26 ≤ b ∧ b ≤ 33)) := (FA_AR).ztr ((fa1).mono (fun x hx => by omega))
  have K_I1_31 : I1 31 = nI (ss).length := (fi1 31 (by decide)).trans K_I_31
  have hF1 : FrameIs I1 A1 F := (hF).fa (fi1 40 (by decide)) (fa1 25 (by decide))
  show WX _ _ _ 193 [(0, .ref m), (1, .int mi), (2, .int t2), (3, .int t3), (4, .int (nI tb))] [.int (nI (boF ss (gT tb - 4)).1)] (n, s, h1)
  refine WX.s1 (L' := [(0, .ref m), (1, .int mi), (2, .int t2), (3, .int t3), (4, .int (nI tb)), (5, .int (nI (boF ss (gT tb - 4)).1))]) rfl rfl ?_
  refine WX.s1 rfl rfl ?_
  refine WX.s1 rfl rfl ?_
  refine WX.mgetK (x := (nI (ss).length)) rfl hm M_h1 rfl K_I1_31 ?_
  refine WX.s1 rfl rfl ?_
  rw [← hsum]
  refine WX.callC (vs := [.ref m, .int (nI (sumN (cdF ss).1 64)), .int (nI (boF ss (gT tb - 4)).1)]) rfl rfl rfl (Nat.le_of_ble_eq_true rfl) ((M_h1).rcv hm) ?_
  refine m_divide (d := d + 3) hm M_h1 hC1 (by omega) (by omega) (by omega) (by omega) (fun h2 A2 fr2 M_h2 fa2 hU2 => ?_)
  have FR_h2 := (FR_h1).ztr fr2
  have FA_A2 : FaS AR A2 (fun b => b = 24 ∨ b = 25 ∨ (26 ≤ b ∧ b ≤ 33)) := (FA_A1).ztr ((fa2).mono (fun x hx => by omega))
  have hM2 : MadeIs I1 A2 c1 w1 := (hM1).fa rfl (fa2 24 (by decide))
  have hF2 : FrameIs I1 A2 F := (hF1).fa rfl (fa2 25 (by decide))
  show WX _ _ _ 205 [(0, .ref m), (1, .int mi), (2, .int t2), (3, .int t3), (4, .int (nI tb)), (5, .int (nI (boF ss (gT tb - 4)).1))] [] (n, s, h2)
  refine WX.s1 rfl rfl ?_
  refine WX.callC (vs := [.ref m]) rfl rfl rfl (Nat.le_of_ble_eq_true rfl) ((M_h2).rcv hm) ?_
  refine m_beginV (d := d + 4) hm M_h2 hM2 (fun h3 I3 A3 fr3 M_h3 fi3 fa3 hM3 => ?_)
  have FR_h3 := (FR_h2).ztr fr3
  have FI_I3 : Fi I I3 (fun f => f = 38 ∨ f = 40) := (FI_I1).zsub fi3 (fun j hj => by omega)
  have FA_A3 : FaS AR A3 (fun b => b = 24 ∨ b = 25 ∨ (26 ≤ b ∧ b ≤ 33)) := (FA_A2).ztr ((fa3).toS (by omega))
  have hF3 : FrameIs I3 A3 F := (hF2).fa (fi3 40 (by decide)) (fa3 25 (by decide))
  have hU3 : ∀ s, s < 64 → A3 30 s = qI (wU (cdF ss).1 (boF ss (gT tb - 4)).1 64 s) := fun s hs => by rw [fa3 30 (by decide)]; exact hU2 s hs
  show WX _ _ _ 209 [(0, .ref m), (1, .int mi), (2, .int t2), (3, .int t3), (4, .int (nI tb)), (5, .int (nI (boF ss (gT tb - 4)).1))] [] (n, s, h3)
  refine WX.s1 rfl rfl ?_
  refine WX.s1 rfl rfl ?_
  refine WX.mget rfl hm M_h3 rfl ?_
  refine WX.s1 rfl rfl ?_
  refine WX.s1 rfl rfl ?_
  refine WX.callC (vs := [.ref m, .ref (m + 30), .int 0, .int (nI (boF ss (gT tb - 4)).1)]) rfl rfl rfl (Nat.le_of_ble_eq_true rfl) ((M_h3).rcv hm) ?_
  refine m_putShare (d := d + 3) hm M_h3 bo1 (by omega) hU3 (wU_sh hok bo3).1 hM3 (by decide) (fun h4 I4 A4 fr4 M_h4 fi4 fa4 hM4 hb4 => ?_)
  have FR_h4 := (FR_h3).ztr fr4
  have FI_I4 : Fi I I4 (fun f => f = 38 ∨ f = 40) := (FI_I3).zsub fi4 (fun j hj => by omega)
  have FA_A4 : FaS AR A4 (fun b => b = 24 ∨ b = 25 ∨ (26 ≤ b ∧ b ≤ 33)) := (FA_A3).ztr ((fa4).toS (by omega))
  have hF4 : FrameIs I4 A4 F := (hF3).fa (fi4 40 (by decide)) (fa4 25 (by decide))
  show WX _ _ _ 220 [(0, .ref m), (1, .int mi), (2, .int t2), (3, .int t3), (4, .int (nI tb)), (5, .int (nI (boF ss (gT tb - 4)).1))] [] (n, s, h4)
  refine WX.s1 rfl rfl ?_
  refine WX.callC (vs := [.ref m]) rfl rfl rfl (Nat.le_of_ble_eq_true rfl) ((M_h4).rcv hm) ?_
  refine m_sayMade (d := d + 3) hm M_h4 hM4 hF4 (by omega) hM4.1 (fun h5 I5 A5 fr5 M_h5 fi5 fa5 hF5 => ?_)
  rw [Nat.mul_div_cancel_left _ (by decide : 0 < 8)] at hF5
  have FR_h5 := (FR_h4).ztr fr5
  have FI_I5 : Fi I I5 (fun f => f = 38 ∨ f = 40) := (FI_I4).zsub fi5 (fun j hj => by omega)
  have FA_A5 : FaS AR A5 (fun b => b = 24 ∨ b = 25 ∨ (26 ≤ b ∧ b ≤ 33)) := (FA_A4).ztr ((fa5).toS (by omega))
  show WX _ _ _ 224 [(0, .ref m), (1, .int mi), (2, .int t2), (3, .int t3), (4, .int (nI tb)), (5, .int (nI (boF ss (gT tb - 4)).1))] [] (n, s, h5)
  refine WX.keep (y := 213) [0, 1, 2, 3, 4] (show ([0, 1, 2, 3, 4, 5] : List Nat).Nodup by decide) rfl ?_
  exact kk h5 I5 A5 _ _ FR_h5 M_h5 FI_I5 FA_A5 ((hM4).fa (fi5 38 (by decide)) (fa5 24 (by decide))) hF5 (by unfold boY; rw [leBy_len]; have q : (shB (wU (cdF ss).1 (boO ss (gT tb)) 64) (boO ss (gT tb)) (0, 0)).1 ≤ 0 + 4 + 13 * 64 := hb4; omega)
