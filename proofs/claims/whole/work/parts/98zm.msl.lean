/-! the reference: literals said, from the middle of it on -/
theorem MadeY.toIs {I : Nat → Int32} {A : Nat → Nat → Int32} {y : List Nat} (h : MadeY I A y) : ∃ c w, MadeIs I A c w := by
  obtain ⟨w, a, -⟩ := h
  exact ⟨_, _, a⟩
theorem or4 : ∀ k, k < 2 → ∀ n, n < 2 ^ 13 → (n * 2 ^ 3 ||| k = k + 8 * n) ∧ ((n * 2 ^ 4 ||| 4) ||| k = k + 4 + 16 * n) ∧ ((n * 2 ^ 4 ||| 12) ||| k = k + 12 + 16 * n) := fun k hk n hn => by
  have a : n * 2 ^ 3 ||| k = k + n * 2 ^ 3 := by rw [Nat.or_comm]; exact or_add (show k < 2 ^ 3 by omega)
  have b : (n * 2 ^ 4 ||| 4) ||| k = k + 4 + n * 2 ^ 4 := by
    rw [Nat.or_comm (n * 2 ^ 4) 4, or_add (show 4 < 2 ^ 4 by decide), Nat.or_comm, Nat.add_comm 4]
    have q : k ||| (n * 2 ^ 2 + 1) * 2 ^ 2 = k + (n * 2 ^ 2 + 1) * 2 ^ 2 := or_add (show k < 2 ^ 2 by omega)
    rw [show n * 2 ^ 4 + 4 = (n * 2 ^ 2 + 1) * 2 ^ 2 by omega, q]
    omega
  have c : (n * 2 ^ 4 ||| 12) ||| k = k + 12 + n * 2 ^ 4 := by
    rw [Nat.or_comm (n * 2 ^ 4) 12, or_add (show 12 < 2 ^ 4 by decide), Nat.or_comm, Nat.add_comm 12]
    have q : k ||| (n * 2 ^ 2 + 3) * 2 ^ 2 = k + (n * 2 ^ 2 + 3) * 2 ^ 2 := or_add (show k < 2 ^ 2 by omega)
    rw [show n * 2 ^ 4 + 12 = (n * 2 ^ 2 + 3) * 2 ^ 2 by omega, q]
    omega
  exact ⟨by rw [a]; omega, by rw [b]; omega, by rw [c]; omega⟩
theorem shlN (n : Nat) {k : Nat} (hk : k < 32) : nI n <<< nI k = nI (n * 2 ^ k) := by
  apply Int32.toBitVec_inj.mp
  rw [Int32.toBitVec_shiftLeft]
  have e : ((nI k).toBitVec.smod 32).toNat = k := by
    have : ∀ k, k < 32 → ((nI k).toBitVec.smod 32).toNat = k := by decide +kernel
    exact this k hk
  show (BitVec.ofNat 32 n) <<< ((nI k).toBitVec.smod 32) = BitVec.ofNat 32 (n * 2 ^ k)
  rw [BitVec.shiftLeft_eq', e]
  apply BitVec.eq_of_toNat_eq
  simp [BitVec.toNat_shiftLeft, Nat.shiftLeft_eq]
theorem take1 {ls : List Nat} (h : 1 ≤ ls.length) : ls.take 1 = [ls.getD 0 0] := by
  cases ls with
  | nil => exact absurd h (by decide)
  | cons a r => rfl
theorem takeS {ls : List Nat} {i : Nat} (h : i < ls.length) : ls.take i ++ [ls.getD i 0] = ls.take (i + 1) := by
  rw [List.take_succ, List.getElem?_eq_getElem h, List.getD_eq_getElem?_getD, List.getElem?_eq_getElem h]
  rfl
theorem orlt (n : Nat) {c : Nat} (hn : n < 2 ^ 14) (hc : c < 16) : n * 2 ^ 4 ||| c < 2 ^ 32 := by
  rw [Nat.or_comm, or_add (show c < 2 ^ 4 by omega)]
  omega
theorem pk_shlN3 (n : Nat) : nI n <<< ((3 : Int32) &&& 31) = nI (n * 2 ^ 3) := by
  rw [show ((3 : Int32) &&& 31) = nI 3 by decide]
  exact shlN n (by decide)
theorem pk_shlN4 (n : Nat) : nI n <<< ((4 : Int32) &&& 31) = nI (n * 2 ^ 4) := by
  rw [show ((4 : Int32) &&& 31) = nI 4 by decide]
  exact shlN n (by decide)
set_option maxRecDepth 20000 in
theorem m_litTail {d n s : Nat} {h : Nat → aE} {m : Nat} {I : Nat → Int32} {AR : Nat → Nat → Int32} {LN : Nat → Int64} {ls lf : List Nat} {L : Nat → Nat} {t k c0 w0 : Nat} (hm : m + 43 < n) (M_h : MAt h m I AR LN) (hL : LitM I AR ls) (hls : LsOk ls) (hok : LenOk L t) (hLn : ∀ s, s < 256 → AR 8 s = nI (L s)) (hlz : ∀ s, s ∈ ls → L s ≠ 0) (hM : MadeIs I AR c0 w0) (hF : FrameIs I AR lf) (hl : lf.length < 2 ^ 28) (K_I_15 : I 15 = (nI t)) {Ψ : Option Value → aH → Prop} (kk : ∀ h' I' A' c w, Fr h h' (inM m) → MAt h' m I' A' LN → Fi I I' (fun f => f = 38 ∨ f = 40) → FaS AR A' (fun b => b = 24 ∨ b = 25 ∨ b = 38) → MadeIs I' A' c w → FrameIs I' A' (lf ++ stmY L t ls) → Ψ (some (.int (nI k))) (n, s, h')) : WX (lk tX12_sayLiterals) (mM (d + 4)) Ψ 361 [(0, .ref m), (1, .int (nI ls.length)), (4, .int (nI k))] [] (n, s, h) := by
  have FR_h : Fr h h (inM m) := Fr.rf
  have FI_I : Fi I I (fun f => f = 38) := Fi.rf
  have FA_AR : FaS AR AR (fun b => b = 24 ∨ b = 38) := FaS.rf
  have hlen := hls.2
  refine WX.s1 rfl rfl ?_
  refine WX.s1 rfl rfl ?_
  refine WX.mget rfl hm M_h rfl ?_
  refine WX.s1 rfl rfl ?_
  refine WX.mgetK (x := (nI t)) rfl hm M_h rfl K_I_15 ?_
  refine WX.callC (vs := [.ref m, .ref (m + 8), .int (nI t)]) rfl rfl rfl (Nat.le_of_ble_eq_true rfl) (M_h.rcv hm) ?_
  refine m_layC hm M_h hok hLn (fun h370n1 A370n1 fr370n1 M_h370n1 fa370n1 hC => ?_)
  have FR_h370n1 := FR_h.ztr fr370n1
  have FA_A370n1 : FaS AR A370n1 (fun b => b = 24 ∨ b = 38) := FA_AR.ztr (fa370n1.mono (fun x hx => by omega))
  have hM1 := hM.mv (fa370n1 24 (by decide))
  show WX _ _ _ 373 [(0, .ref m), (1, .int (nI ls.length)), (4, .int (nI k))] [] (n, s, h370n1)
  refine WX.s1 rfl rfl ?_
  refine WX.callC (vs := [.ref m]) rfl rfl rfl (Nat.le_of_ble_eq_true rfl) (M_h370n1.rcv hm) ?_
  refine m_beginV hm M_h370n1 hM1 (fun h374n2 I374n2 A374n2 fr374n2 M_h374n2 fi374n2 fa374n2 hB0 => ?_)
  have FR_h374n2 := FR_h370n1.ztr fr374n2
  have K_I374n2_15 : I374n2 15 = (nI t) := (fi374n2 15 (by decide)).trans K_I_15
  have FI_I374n2 : Fi I I374n2 (fun f => f = 38) := FI_I.zsub fi374n2 (fun j hj => by first | exact hj | omega)
  have FA_A374n2 : FaS AR A374n2 (fun b => b = 24 ∨ b = 38) := FA_A370n1.ztr (fa374n2.toS (by omega))
  have hY0 := MadeY.nil hB0
  have hC1 : CeM A374n2 L t := ⟨fun s hs hl => by rw [fa374n2 38 (by decide)]; exact hC.1 s hs hl, fun s x hs hl hx => by rw [fa374n2 38 (by decide)]; exact hC.2 s x hs hl hx⟩
  have hL1 : LitM I374n2 A374n2 ls := ⟨(FI_I374n2 33 (by decide)).trans hL.1, fun i hi => by rw [FA_A374n2 20 (by decide)]; exact hL.2 i hi⟩
  have hLn1 : ∀ s, s < 256 → A374n2 8 s = nI (L s) := fun s hs => by rw [FA_A374n2 8 (by decide)]; exact hLn s hs
  show WX _ _ _ 377 [(0, .ref m), (1, .int (nI ls.length)), (4, .int (nI k))] [] (n, s, h374n2)
  refine WX.s1 rfl rfl ?_
  refine WX.s1 rfl rfl ?_
  refine WX.icmp rfl (fun c_381 => ?_) (fun c_381 => ?_)
  · skip
    have n_381 : 1024 ≤ ls.length := (nI_leI (a := 1024) (b := ls.length) (by omega) (by omega)).mp c_381
    refine WX.s1 rfl rfl ?_
    refine WX.callC (vs := [.ref m]) rfl rfl rfl (Nat.le_of_ble_eq_true rfl) (M_h374n2.rcv hm) ?_
    refine m_four hm M_h374n2 hL1 hls hok hLn1 hlz hC1 n_381 hY0 (by rw [FI_I374n2 33 (by decide)]; exact hL.1) K_I374n2_15 (fun h394n3 I394n3 A394n3 fr394n3 M_h394n3 fi394n3 fa394n3 hY1 => ?_)
    have FR_h394n3 := FR_h374n2.ztr fr394n3
    have K_I394n3_15 : I394n3 15 = (nI t) := (fi394n3 15 (by decide)).trans K_I374n2_15
    have FI_I394n3 : Fi I I394n3 (fun f => f = 38) := FI_I374n2.zsub fi394n3 (fun j hj => by first | exact hj | omega)
    have FA_A394n3 : FaS AR A394n3 (fun b => b = 24 ∨ b = 38) := FA_A374n2.ztr (fa394n3.toS (by omega))
    have hst : stmY L t ls = frY L t ls := if_neg (by omega)
    rw [← hst] at hY1
    show WX _ _ _ 397 [(0, .ref m), (1, .int (nI ls.length)), (4, .int (nI k))] [] (n, s, h394n3)
    refine WX.s1 rfl rfl ?_
    obtain ⟨wv, hmv, hlv⟩ := hY1
    refine WX.callC (vs := [.ref m]) rfl rfl rfl (Nat.le_of_ble_eq_true rfl) (M_h394n3.rcv hm) ?_
    refine m_sayMade hm M_h394n3 hmv (hF.fa (FI_I394n3 40 (by decide)) (FA_A394n3 25 (by decide))) hl hmv.1 (fun h9 I9 A9 fr9 M_h9 fi9 fa9 hF9 => ?_)
    rw [Nat.mul_div_cancel_left _ (by decide), hlv] at hF9
    refine WX.s1 rfl rfl ?_
    exact WX.ret1 rfl (kk h9 I9 A9 _ _ (FR_h394n3.ztr fr9) M_h9 ((Fi.rf.zsub FI_I394n3 (fun j hj => Or.inl hj)).zsub fi9 (fun j hj => Or.inr hj)) ((FA_A394n3.mono (fun x hx => by omega)).ztr (fa9.toS (by omega))) (hmv.fa (fi9 38 (by decide)) (fa9 24 (by decide))) hF9)
  · skip
    have n_381 : ls.length < 1024 := Nat.lt_of_not_le (fun zz_ => c_381 ((nI_leI (a := 1024) (b := ls.length) (by omega) (by omega)).mpr zz_))
    refine WX.s1 rfl rfl ?_
    refine WX.s1 rfl rfl ?_
    refine WX.s1 rfl rfl ?_
    refine WX.callC (vs := [.ref m, .int (nI 0), .int (nI ls.length)]) rfl rfl rfl (Nat.le_of_ble_eq_true rfl) (M_h374n2.rcv hm) ?_
    refine m_pst hm M_h374n2 (f := 0) (e := ls.length) hL1 hls hok hLn1 hlz hC1 (Nat.zero_le _) (Nat.le_refl _) hY0 (by decide) K_I374n2_15 (fun h387n4 I387n4 A387n4 fr387n4 M_h387n4 fi387n4 fa387n4 hY1 => ?_)
    have FR_h387n4 := FR_h374n2.ztr fr387n4
    have K_I387n4_15 : I387n4 15 = (nI t) := (fi387n4 15 (by decide)).trans K_I374n2_15
    have FI_I387n4 : Fi I I387n4 (fun f => f = 38) := FI_I374n2.zsub fi387n4 (fun j hj => by first | exact hj | omega)
    have FA_A387n4 : FaS AR A387n4 (fun b => b = 24 ∨ b = 38) := FA_A374n2.ztr (fa387n4.toS (by omega))
    rw [List.nil_append, Nat.sub_zero] at hY1
    have hst : stmY L t ls = sY L t ls 0 ls.length := if_pos n_381
    rw [← hst] at hY1
    show WX _ _ _ 390 [(0, .ref m), (1, .int (nI ls.length)), (4, .int (nI k))] [] (n, s, h387n4)
    refine WX.s1 rfl rfl ?_
    refine WX.s1 rfl rfl ?_
    obtain ⟨wv, hmv, hlv⟩ := hY1
    refine WX.callC (vs := [.ref m]) rfl rfl rfl (Nat.le_of_ble_eq_true rfl) (M_h387n4.rcv hm) ?_
    refine m_sayMade hm M_h387n4 hmv (hF.fa (FI_I387n4 40 (by decide)) (FA_A387n4 25 (by decide))) hl hmv.1 (fun h9 I9 A9 fr9 M_h9 fi9 fa9 hF9 => ?_)
    rw [Nat.mul_div_cancel_left _ (by decide), hlv] at hF9
    refine WX.s1 rfl rfl ?_
    exact WX.ret1 rfl (kk h9 I9 A9 _ _ (FR_h387n4.ztr fr9) M_h9 ((Fi.rf.zsub FI_I387n4 (fun j hj => Or.inl hj)).zsub fi9 (fun j hj => Or.inr hj)) ((FA_A387n4.mono (fun x hx => by omega)).ztr (fa9.toS (by omega))) (hmv.fa (fi9 38 (by decide)) (fa9 24 (by decide))) hF9)
set_option maxRecDepth 20000 in
theorem m_litPlain {d n s : Nat} {h : Nat → aE} {m : Nat} {I : Nat → Int32} {AR : Nat → Nat → Int32} {LN : Nat → Int64} {ls lf : List Nat} {k : Nat} (hm : m + 43 < n) (M_h : MAt h m I AR LN) (hL : LitM I AR ls) (hls : LsOk ls) (hk : k = 0 ∨ (k = 1 ∧ 1 ≤ ls.length)) (hF : FrameIs I AR lf) (hl : lf.length < 2 ^ 28)  {Ψ : Option Value → aH → Prop} (kk : ∀ h' I' A', Fr h h' (inM m) → MAt h' m I' A' LN → Fi I I' (fun f => f = 40) → Fa AR A' 25 → FrameIs I' A' (lf ++ plY k ls) → Ψ (some (.int (nI k))) (n, s, h')) : WX (lk tX12_sayLiterals) (mM (d + 4)) Ψ 239 [(0, .ref m), (1, .int (nI ls.length)), (2, .int (nI (hpF ls.length))), (4, .int (nI k))] [] (n, s, h) := by
  have FR_h : Fr h h (inM m) := Fr.rf
  have FI_I : Fi I I (fun f => f = 40) := Fi.rf
  have FA_AR : Fa AR AR 25 := Fa.rf
  have hlen := hls.2
  refine WX.s1 rfl rfl ?_
  refine WX.s1 rfl rfl ?_
  refine WX.icmp rfl (fun c_242 => absurd c_242 (fun zz_ => absurd ((nI_leI (a := 2) (b := k) (by omega) (by omega)).mp zz_) (Nat.not_le.mpr (by omega)))) (fun c_242 => ?_)
  clear c_242
  have hcase : hpF ls.length = 1 ∨ hpF ls.length = 2 ∨ hpF ls.length = 3 := by unfold hpF; split; exact Or.inl rfl; split; exact Or.inr (Or.inl rfl); exact Or.inr (Or.inr rfl)
  obtain ⟨o1, o2, o3⟩ := or4 k (by omega) ls.length (by omega)
  have t288 : WX (lk tX12_sayLiterals) (mM (d + 4)) Ψ 288 [(0, .ref m), (1, .int (nI ls.length)), (2, .int (nI (hpF ls.length))), (4, .int (nI k))] [.long (lN (pvF k ls.length)), .ref m] (n, s, h) := by
    have hpv : pvF k ls.length < 2 ^ 18 := by unfold pvF; split; omega; split <;> omega
    have hhp : hpF ls.length ≤ 3 := by omega
    refine WX.s1 rfl rfl ?_
    refine WX.callC (vs := [.ref m, .long (lN (pvF k ls.length)), .int (nI (hpF ls.length))]) rfl rfl rfl (Nat.le_of_ble_eq_true rfl) (M_h.rcv hm) ?_
    refine m_sayNumL hm M_h hF (by omega) (by omega) (fun h2 I2 A2 fr2 M_h2 fi2 fa2 hF2 => ?_)
    rw [leL_lN (by omega)] at hF2
    show WX _ _ _ 292 [(0, .ref m), (1, .int (nI ls.length)), (2, .int (nI (hpF ls.length))), (4, .int (nI k))] [] (n, s, h2)
    refine WX.s1 rfl rfl ?_
    refine WX.s1 (L' := [(0, .ref m), (1, .int (nI ls.length)), (2, .int (nI (hpF ls.length))), (4, .int (nI k)), (5, .int 0)]) rfl rfl ?_
    obtain ⟨ct, hct⟩ : ∃ q, q = if k = 0 then ls.length else 1 := ⟨_, rfl⟩
    have hct2 : ct ≤ ls.length ∧ (k = 0 → ct = ls.length) ∧ (k ≠ 0 → ct = 1) := by rw [hct]; split <;> omega
    have lp : ∀ (q i : Nat) (hL_ : Nat → aE) (IL : Nat → Int32) (AL : Nat → Nat → Int32), i + q = ct → Fr h hL_ (inM m) → MAt hL_ m IL AL LN → Fi I IL (fun f => f = 40) → Fa AR AL 25 → FrameIs IL AL (lf ++ leBy (pvF k ls.length) (hpF ls.length) ++ ls.take i) → WX (lk tX12_sayLiterals) (mM (d + 4)) Ψ 295 [(0, .ref m), (1, .int (nI ls.length)), (2, .int (nI (hpF ls.length))), (4, .int (nI k)), (5, .int (nI i))] [] (n, s, hL_) := by
      intro q
      induction q with
      | zero =>
        intro i hL_ IL AL hi FR_hL_ M_hL_ FI_IL FA_AL hFL
        obtain rfl : i = ct := by omega
        refine WX.s1 rfl rfl ?_
        refine WX.s1 rfl rfl ?_
        refine WX.if_ rfl (fun c_299 => ?_) (fun c_299 => ?_)
        · skip
          have n_299 : ¬ k = 0 := fun zz_ => c_299 ((nI_eq (a := k) (b := 0) (by omega) (by omega)).mpr zz_)
          refine WX.s1 rfl rfl ?_
          refine WX.icmp rfl (fun c_307 => ?_) (fun c_307 => absurd ((nI_leI (a := 1) (b := i) (by omega) (by omega)).mpr (by omega)) c_307)
          clear c_307
          refine WX.s1 rfl rfl ?_
          exact WX.ret1 rfl (kk hL_ IL AL FR_hL_ M_hL_ FI_IL FA_AL (by unfold plY; rw [← List.append_assoc]; rw [show (if k = 0 then ls else [ls.getD 0 0]) = ls.take i by rw [if_neg (by omega), show i = 1 by omega]; exact (take1 (by omega)).symm]; exact hFL))
        · skip
          have n_299 : k = 0 := (nI_eq (a := k) (b := 0) (by omega) (by omega)).mp (Classical.not_not.mp c_299)
          refine WX.s1 rfl rfl ?_
          refine WX.s1 rfl rfl ?_
          refine WX.icmp rfl (fun c_307 => ?_) (fun c_307 => absurd ((nI_leI (a := ls.length) (b := i) (by omega) (by omega)).mpr (by omega)) c_307)
          clear c_307
          refine WX.s1 rfl rfl ?_
          exact WX.ret1 rfl (kk hL_ IL AL FR_hL_ M_hL_ FI_IL FA_AL (by unfold plY; rw [← List.append_assoc]; rw [show (if k = 0 then ls else [ls.getD 0 0]) = ls.take i by rw [if_pos (by omega), show i = ls.length by omega, List.take_length]]; exact hFL))
      | succ q ih =>
        intro i hL_ IL AL hi FR_hL_ M_hL_ FI_IL FA_AL hFL
        have y1 := hL.2 i (by omega)
        have y2 := hls.1 _ (getD_mem (show i < ls.length by omega))
        refine WX.s1 rfl rfl ?_
        refine WX.s1 rfl rfl ?_
        refine WX.if_ rfl (fun c_299 => ?_) (fun c_299 => ?_)
        · skip
          have n_299 : ¬ k = 0 := fun zz_ => c_299 ((nI_eq (a := k) (b := 0) (by omega) (by omega)).mpr zz_)
          refine WX.s1 rfl rfl ?_
          refine WX.icmp rfl (fun c_307 => absurd c_307 (fun zz_ => absurd ((nI_leI (a := 1) (b := i) (by omega) (by omega)).mp zz_) (Nat.not_le.mpr (by omega)))) (fun c_307 => ?_)
          clear c_307
          refine WX.s1 rfl rfl ?_
          refine WX.s1 rfl rfl ?_
          refine WX.mget rfl hm M_hL_ rfl ?_
          refine WX.s1 rfl rfl ?_
          refine WX.mald (c := 20) rfl hm M_hL_ (by decide) (by decide) (by decide) (by decide) (vp_in_nI (N := 8001) (by omega) (by decide)) ?_
          rw [nI_clamp (by omega), FA_AL 20 (by decide), y1]
          refine WX.callC (vs := [.ref m, .int (nI (ls.getD i 0))]) rfl rfl rfl (Nat.le_of_ble_eq_true rfl) (M_hL_.rcv hm) ?_
          refine m_sayL hm M_hL_ hFL (by rw [List.length_append, List.length_append, leBy_len, List.length_take]; omega) (fun h3 I3 A3 fr3 M_h3 fi3 fa3 hF3 => ?_)
          rw [Nat.mod_eq_of_lt y2, List.append_assoc, takeS (by omega)] at hF3
          show WX _ _ _ 321 [(0, .ref m), (1, .int (nI ls.length)), (2, .int (nI (hpF ls.length))), (4, .int (nI k)), (5, .int (nI i))] [] (n, s, h3)
          refine WX.s1 (L' := [(0, .ref m), (1, .int (nI ls.length)), (2, .int (nI (hpF ls.length))), (4, .int (nI k)), (5, .int ((nI i) + 1))]) rfl rfl ?_
          rw [show ((nI i) + 1) = nI (i + 1) from nI_add i 1]
          refine WX.s1 rfl rfl ?_
          exact ih (i + 1) h3 I3 A3 (by omega) (FR_hL_.ztr fr3) M_h3 (FI_IL.ztr fi3) (FA_AL.ztr fa3) hF3
        · skip
          have n_299 : k = 0 := (nI_eq (a := k) (b := 0) (by omega) (by omega)).mp (Classical.not_not.mp c_299)
          refine WX.s1 rfl rfl ?_
          refine WX.s1 rfl rfl ?_
          refine WX.icmp rfl (fun c_307 => absurd c_307 (fun zz_ => absurd ((nI_leI (a := ls.length) (b := i) (by omega) (by omega)).mp zz_) (Nat.not_le.mpr (by omega)))) (fun c_307 => ?_)
          clear c_307
          refine WX.s1 rfl rfl ?_
          refine WX.s1 rfl rfl ?_
          refine WX.mget rfl hm M_hL_ rfl ?_
          refine WX.s1 rfl rfl ?_
          refine WX.mald (c := 20) rfl hm M_hL_ (by decide) (by decide) (by decide) (by decide) (vp_in_nI (N := 8001) (by omega) (by decide)) ?_
          rw [nI_clamp (by omega), FA_AL 20 (by decide), y1]
          refine WX.callC (vs := [.ref m, .int (nI (ls.getD i 0))]) rfl rfl rfl (Nat.le_of_ble_eq_true rfl) (M_hL_.rcv hm) ?_
          refine m_sayL hm M_hL_ hFL (by rw [List.length_append, List.length_append, leBy_len, List.length_take]; omega) (fun h3 I3 A3 fr3 M_h3 fi3 fa3 hF3 => ?_)
          rw [Nat.mod_eq_of_lt y2, List.append_assoc, takeS (by omega)] at hF3
          show WX _ _ _ 321 [(0, .ref m), (1, .int (nI ls.length)), (2, .int (nI (hpF ls.length))), (4, .int (nI k)), (5, .int (nI i))] [] (n, s, h3)
          refine WX.s1 (L' := [(0, .ref m), (1, .int (nI ls.length)), (2, .int (nI (hpF ls.length))), (4, .int (nI k)), (5, .int ((nI i) + 1))]) rfl rfl ?_
          rw [show ((nI i) + 1) = nI (i + 1) from nI_add i 1]
          refine WX.s1 rfl rfl ?_
          exact ih (i + 1) h3 I3 A3 (by omega) (FR_hL_.ztr fr3) M_h3 (FI_IL.ztr fi3) (FA_AL.ztr fa3) hF3
    exact lp ct 0 h2 I2 A2 (by omega) fr2 M_h2 fi2 fa2 (by rw [List.take_zero, List.append_nil]; exact hF2)
  rcases hcase with hh | hh | hh
  · rw [hh] at t288 ⊢
    refine WX.s1 rfl rfl ?_
    refine WX.s1 rfl rfl ?_
    refine WX.s1 rfl rfl ?_
    refine WX.icmp rfl (fun c_248 => absurd c_248 (by decide)) (fun c_248 => ?_)
    refine WX.s1 rfl rfl ?_
    refine WX.s1 rfl rfl ?_
    refine WX.s1 (S' := [.int ((nI ls.length) <<< (3 &&& 31)), .ref m]) rfl rfl ?_
    rw [show nI ls.length <<< ((3 : Int32) &&& 31) = nI (ls.length * 2 ^ 3) from pk_shlN3 ls.length]
    refine WX.s1 rfl rfl ?_
    refine WX.s1 (S' := [.int ((nI (ls.length * 2 ^ 3)) ||| (nI k)), .ref m]) rfl rfl ?_
    rw [nI_or (by omega) (by omega), o1]
    refine WX.s1 (S' := [.long ((nI (k + 8 * ls.length)).toInt64), .ref m]) rfl rfl ?_
    refine WX.s1 rfl rfl ?_
    rw [show (nI (k + 8 * ls.length)).toInt64 = lN (pvF k ls.length) from (nI_l (by omega)).trans (congrArg lN (by unfold pvF; rw [hh]; rfl))]
    exact t288
  · rw [hh] at t288 ⊢
    refine WX.s1 rfl rfl ?_
    refine WX.s1 rfl rfl ?_
    refine WX.s1 rfl rfl ?_
    refine WX.icmp rfl (fun c_248 => ?_) (fun c_248 => absurd (by decide) c_248)
    refine WX.s1 rfl rfl ?_
    refine WX.s1 rfl rfl ?_
    refine WX.icmp rfl (fun c_263 => absurd c_263 (by decide)) (fun c_263 => ?_)
    refine WX.s1 rfl rfl ?_
    refine WX.s1 rfl rfl ?_
    refine WX.s1 (S' := [.int ((nI ls.length) <<< (4 &&& 31)), .ref m]) rfl rfl ?_
    rw [show nI ls.length <<< ((4 : Int32) &&& 31) = nI (ls.length * 2 ^ 4) from pk_shlN4 ls.length]
    refine WX.s1 rfl rfl ?_
    refine WX.s1 (S' := [.int ((nI (ls.length * 2 ^ 4)) ||| 4), .ref m]) rfl rfl ?_
    rw [show nI (ls.length * 2 ^ 4) ||| 4 = nI (ls.length * 2 ^ 4 ||| 4) from nI_or (b := 4) (by omega) (by decide)]
    refine WX.s1 rfl rfl ?_
    refine WX.s1 (S' := [.int ((nI (ls.length * 2 ^ 4 ||| 4)) ||| (nI k)), .ref m]) rfl rfl ?_
    rw [nI_or (orlt ls.length (by omega) (by decide)) (by omega), o2]
    refine WX.s1 (S' := [.long ((nI (k + 4 + 16 * ls.length)).toInt64), .ref m]) rfl rfl ?_
    refine WX.s1 rfl rfl ?_
    rw [show (nI (k + 4 + 16 * ls.length)).toInt64 = lN (pvF k ls.length) from (nI_l (by omega)).trans (congrArg lN (by unfold pvF; rw [hh]; rfl))]
    exact t288
  · rw [hh] at t288 ⊢
    refine WX.s1 rfl rfl ?_
    refine WX.s1 rfl rfl ?_
    refine WX.s1 rfl rfl ?_
    refine WX.icmp rfl (fun c_248 => ?_) (fun c_248 => absurd (by decide) c_248)
    refine WX.s1 rfl rfl ?_
    refine WX.s1 rfl rfl ?_
    refine WX.icmp rfl (fun c_263 => ?_) (fun c_263 => absurd (by decide) c_263)
    refine WX.s1 rfl rfl ?_
    refine WX.s1 rfl rfl ?_
    refine WX.s1 (S' := [.int ((nI ls.length) <<< (4 &&& 31)), .ref m]) rfl rfl ?_
    rw [show nI ls.length <<< ((4 : Int32) &&& 31) = nI (ls.length * 2 ^ 4) from pk_shlN4 ls.length]
    refine WX.s1 rfl rfl ?_
    refine WX.s1 (S' := [.int ((nI (ls.length * 2 ^ 4)) ||| 12), .ref m]) rfl rfl ?_
    rw [show nI (ls.length * 2 ^ 4) ||| 12 = nI (ls.length * 2 ^ 4 ||| 12) from nI_or (b := 12) (by omega) (by decide)]
    refine WX.s1 rfl rfl ?_
    refine WX.s1 (S' := [.int ((nI (ls.length * 2 ^ 4 ||| 12)) ||| (nI k)), .ref m]) rfl rfl ?_
    rw [nI_or (orlt ls.length (by omega) (by decide)) (by omega), o3]
    refine WX.s1 (S' := [.long ((nI (k + 12 + 16 * ls.length)).toInt64), .ref m]) rfl rfl ?_
    rw [show (nI (k + 12 + 16 * ls.length)).toInt64 = lN (pvF k ls.length) from (nI_l (by omega)).trans (congrArg lN (by unfold pvF; rw [hh]; rfl))]
    exact t288
