/-! press of the reference -/
def RfX (I : Nat → Int32) (A : Nat → Nat → Int32) (id way least : Nat) (l lo ld : List Nat) (T : PkS) (ab : Nat → Nat) : Prop := InIs I A l ∧ OutIs I A lo ∧ I 4 = nI way ∧ I 5 = nI least ∧ (I 7 = nI (ld).length ∧ ∀ i, i < (ld).length → A 3 i = nI ((ld).getD i 0)) ∧ I 8 = nI id ∧ DicM I A T ∧ (∃ c w, MadeIs I A c w) ∧ ∀ q, q < 12 → A 43 q = nI (ab q)
theorem RfX.mv {I J : Nat → Int32} {A B : Nat → Nat → Int32} {id way least : Nat} {l lo ld : List Nat} {T : PkS} {ab : Nat → Nat} (h : RfX I A id way least l lo ld T ab) {P : Nat → Prop} {Q : Nat → Prop} (fi : Fi I J P) (fa : FaS A B Q) (hP : ∀ f, f < 15 → ¬ P f) (hQ : ∀ b, b < 8 → ¬ Q b) (hQ2 : ¬ Q 43) (hM : ∃ c w, MadeIs J B c w) : RfX J B id way least l lo ld T ab := by
  obtain ⟨a, b, c, d, e, f, g, -, i⟩ := h
  have F := fun f hf => fi f (hP f hf)
  have G := fun b hb => fa b (hQ b hb)
  refine ⟨⟨(F 1 (by decide)).trans a.1, ?_⟩, ⟨(F 3 (by decide)).trans b.1, ?_⟩, (F 4 (by decide)).trans c, (F 5 (by decide)).trans d, ⟨(F 7 (by decide)).trans e.1, ?_⟩, (F 8 (by decide)).trans f, (g).mv (F 9 (by decide)) (G 4 (by decide)) (G 5 (by decide)) (G 6 (by decide)) (G 7 (by decide)), hM, ?_⟩
  · rw [G 1 (by decide)]; exact a.2
  · rw [G 2 (by decide)]; exact b.2
  · rw [G 3 (by decide)]; exact e.2
  · rw [fa 43 hQ2]; exact i
theorem leL_m32 (x : Int64) : leL (x &&& 4294967295) 4 = leL x 4 := by
  obtain ⟨v, hv, rfl⟩ := wb_of x
  rw [show (4294967295 : Int64) = lN (2 ^ 32 - 1) from rfl, wb_mask hv (by decide)]
  have h1 : v % 2 ^ 32 < 2 ^ 64 := by omega
  rw [leL_lN h1, leL_lN hv]
  have h2 := leBy_lo (w := v % 2 ^ 32) (x := v / 2 ^ 32) (c := 32) (m := 4) (by decide)
  rw [← h2, show v % 2 ^ 32 + v / 2 ^ 32 * 2 ^ 32 = v by omega]
theorem id_l {id : Nat} (h : id < 2 ^ 32) : (nI id).toInt64 &&& 4294967295 = lN id := by
  rw [show (4294967295 : Int64) = lN (2 ^ 32 - 1) from rfl]
  by_cases z : id < 2 ^ 31
  · rw [nI_l z, wb_mask (by omega) (by decide), Nat.mod_eq_of_lt h]
  · have e : (nI id).toInt64 = lN (id + 18446744069414584320) := by
      apply Int64.toInt_inj.mp
      rw [Int32.toInt_toInt64]
      unfold nI lN
      rw [Int32.toInt_ofNat', Int64.toInt_ofNat']
      unfold Int.bmod
      simp only [show ((Int32.size : Nat) : Int) = 4294967296 from rfl, show ((Int64.size : Nat) : Int) = 18446744073709551616 from rfl]
      rw [if_neg (by omega), if_neg (by omega)]
      omega
    rw [e, wb_mask (by omega) (by decide)]
    exact congrArg lN (by omega)
theorem blkB_len {D : Nat → Nat} {way least win f e la : Nat} {S : PkS} (hf : f ≤ e) : (blkB D way least win f e la S).length ≤ (e - f) + 3 := by
  unfold blkB
  split
  · rename_i q
    have := ((sameB_iff).mp q).1
    rw [List.length_append, leBy_len, List.length_singleton]
    omega
  · split
    · rename_i q
      rw [List.length_append, leBy_len]
      omega
    · rw [List.length_append, leBy_len, List.length_map, List.length_range]
      omega
theorem hdF_len {fl e id u : Nat} : (hdF fl e id u).length ≤ 14 := by
  unfold hdF hdE hdZ
  have h1 := sk_le fl u
  have h2 := ik_le fl id
  have h3 : 2 ^ skN fl u ≤ 2 ^ 2 := Nat.pow_le_pow_right (by decide) h1
  simp only [List.length_append, leBy_len, List.length_singleton]
  have h4 : ikB (ikN fl id) ≤ 4 := by unfold ikB; split <;> omega
  have h5 : (if sgN fl = 1 then ([] : List Nat) else [8 * e]).length ≤ 1 := by
    split
    · exact Nat.zero_le _
    · exact Nat.le_refl 1
  have h6 : (if szN fl = 1 then leBy (if skN fl u = 1 then u - 256 else u) (2 ^ skN fl u) else []).length ≤ 4 := by
    split
    · rw [leBy_len]; omega
    · exact Nat.zero_le _
  omega
def RfB (l lo ld : List Nat) : Prop := (l).length ≤ 8000 ∧ (ld).length ≤ 8000 ∧ (lo).length ≤ 12000 ∧ (∀ i, (l).getD i 0 < 256) ∧ ∀ i, (ld).getD i 0 < 256
theorem RfB.cat {l lo ld : List Nat} (h : RfB l lo ld) (i : Nat) : catD ld l i < 256 := by
  unfold catD
  by_cases z : i < (ld).length
  · rw [getD_l z]; exact h.2.2.2.2 i
  · rw [getD_r (by omega)]; exact h.2.2.2.1 _
set_option maxRecDepth 20000 in
theorem m_showL {d n s : Nat} {h : Nat → aE} {m : Nat} {I : Nat → Int32} {AR : Nat → Nat → Int32} {LN : Nat → Int64} {F : List Nat} (hm : m + 43 < n) (M_h : MAt h m I AR LN) (hF : FrameIs I AR F) (hl : F.length < 2 ^ 30)  {Ψ : Option Value → aH → Prop} (k1 : 12000 < F.length → Ψ (some (.int (-1))) (n, s, h)) (k2 : F.length ≤ 12000 → ∀ h' I' A', Fr h h' (inM m) → MAt h' m I' A' LN → Fi I I' (fun f => f = 3) → FaS AR A' (fun b => b = 2) → OutIs I' A' F → Ψ (some (.int (nI F.length))) (n, s, h')) : WO (mM (d + 1)) 153 [.ref m] (n, s, h) Ψ := by
  refine WO.of (Nat.le_of_ble_eq_true rfl) ?_
  have FR_h : Fr h h (inM m) := Fr.rf
  have FI_I : Fi I I (fun f => f = 3) := Fi.rf
  have FA_AR : FaS AR AR (fun b => b = 2) := FaS.rf
  have K_I_40 : I 40 = nI F.length := hF.1
  show WX (lk tX12_show) (mM d) Ψ 0 [(0, .ref m)] [] (n, s, h)
  refine WX.s1 rfl rfl ?_
  refine WX.mgetK (x := (nI F.length)) rfl hm M_h rfl K_I_40 ?_
  refine WX.s1 rfl rfl ?_
  refine WX.icmp rfl (fun c_7 => ?_) (fun c_7 => ?_)
  · skip
    have n_7 : F.length ≤ 12000 := (nI_leI (a := F.length) (b := 12000) (by omega) (by omega)).mp c_7
    refine WX.s1 rfl rfl ?_
    refine WX.s1 (L' := [(0, .ref m), (1, .int 0)]) rfl rfl ?_
    have lp14 : ∀ (t i : Nat) (hL : Nat → aE) (AL : Nat → Nat → Int32), i + t = F.length → MAt hL m I AL LN → Fr h hL (inM m) → FaS AR AL (fun b => b = 2) → (∀ j, j < i → AL 2 j = AR 25 j) → WX (lk tX12_show) (mM d) Ψ 14 [(0, .ref m), (1, .int (nI i))] [] (n, s, hL) := by
      clear M_h FR_h
      intro t
      induction t with
      | zero =>
        intro i hL AL ht M_hL FR_hL faL q1
        obtain rfl : i = F.length := by omega
        have FA_AL : FaS AR AL (fun b => b = 2) := (FA_AR).ztr ((faL).mono (fun x hx => by omega))
        refine WX.s1 rfl rfl ?_
        refine WX.s1 rfl rfl ?_
        refine WX.mgetK (x := (nI F.length)) rfl hm M_hL rfl K_I_40 ?_
        refine WX.icmp rfl (fun c_19 => ?_) (fun c_19 => absurd ((nI_leI (a := F.length) (b := F.length) (by omega) (by omega)).mpr (by omega)) c_19)
        clear c_19
        refine WX.s1 rfl rfl ?_
        refine WX.s1 rfl rfl ?_
        refine WX.mgetK (x := (nI F.length)) rfl hm M_hL rfl K_I_40 ?_
        refine WX.mput rfl hm M_hL (rfl) (by decide) (fun _ => rfl) (fun h45n1 I45n1 e_I45n1 M_h45n1 frh45n1 => ?_)
        have FR_h45n1 := (FR_hL).ztr frh45n1
        have FI_I45n1 : Fi I I45n1 (fun f => f = 3) := (FI_I).zup e_I45n1 (by first | exact rfl | decide | omega)
        have K_I45n1_40 : I45n1 40 = (nI F.length) := by rw [e_I45n1]; exact (pk_un (by decide)).trans K_I_40
        have K_I45n1_3 : I45n1 3 = (nI F.length) := by rw [e_I45n1]; exact pk_us
        clear M_hL FR_hL FI_I e_I45n1 frh45n1 K_I_40
        refine WX.s1 rfl rfl ?_
        refine WX.mgetK (x := (nI F.length)) rfl hm M_h45n1 rfl K_I45n1_3 ?_
        exact WX.ret1 rfl (k2 n_7 h45n1 I45n1 AL FR_h45n1 M_h45n1 FI_I45n1 FA_AL ⟨K_I45n1_3, fun i hi => by rw [q1 i hi]; exact hF.2 i hi (by omega)⟩)
      | succ t ih =>
        intro i hL AL ht M_hL FR_hL faL hInv
        refine WX.s1 rfl rfl ?_
        refine WX.s1 rfl rfl ?_
        refine WX.mgetK (x := (nI F.length)) rfl hm M_hL rfl K_I_40 ?_
        refine WX.icmp rfl (fun c_19 => absurd c_19 (fun zz_ => absurd ((nI_leI (a := F.length) (b := i) (by omega) (by omega)).mp zz_) (Nat.not_le.mpr (by omega)))) (fun c_19 => ?_)
        clear c_19
        refine WX.s1 rfl rfl ?_
        refine WX.mget rfl hm M_hL rfl ?_
        refine WX.s1 rfl rfl ?_
        refine WX.s1 rfl rfl ?_
        refine WX.mget rfl hm M_hL rfl ?_
        refine WX.s1 rfl rfl ?_
        refine WX.mald (c := 25) rfl hm M_hL (by decide) (by decide) (by decide) (by decide) (vp_in_nI (N := 12000) (by omega) (by decide)) ?_
        rw [nI_clamp (by omega), faL 25 (by decide)]
        refine WX.mast (c := 2) rfl hm M_hL (by decide) (by decide) (by decide) (by decide) (vp_in_nI (N := 12000) (by omega) (by decide)) (fun h33n2 A33n2 e_A33n2 M_h33n2 frh33n2 => ?_)
        try dsimp only at e_A33n2
        have FR_h33n2 := (FR_hL).ztr frh33n2
        clear M_hL FR_hL frh33n2
        refine WX.s1 (L' := [(0, .ref m), (1, .int ((nI i) + 1))]) rfl rfl ?_
        rw [show ((nI i) + 1) = nI (i + 1) from nI_add i 1]
        refine WX.s1 rfl rfl ?_
        rw [nI_clamp (by omega)] at e_A33n2
        refine ih (i + 1) h33n2 A33n2 (by omega) M_h33n2 FR_h33n2 ((faL).ast e_A33n2 (by omega)) ?_
        intro j hj
        by_cases z : j = i
        · rw [z, e_A33n2, upA_same, pk_us]
        · rw [e_A33n2, upA_same, pk_un z]; exact hInv j (by omega)
    exact lp14 F.length 0 h AR (by omega) M_h FR_h FaS.rf (fun j hj => absurd hj (Nat.not_lt_zero j))
  · skip
    have n_7 : 12000 < F.length := Nat.lt_of_not_le (fun zz_ => c_7 ((nI_leI (a := F.length) (b := 12000) (by omega) (by omega)).mpr zz_))
    refine WX.s1 rfl rfl ?_
    exact WX.ret1 rfl (k1 n_7)
set_option maxRecDepth 20000 in
theorem m_prEnd {d n s : Nat} {h : Nat → aE} {m : Nat} {I : Nat → Int32} {AR : Nat → Nat → Int32} {LN : Nat → Int64} {id way least fl e cut : Nat} {l lo ld : List Nat} {T : PkS} {ab : Nat → Nat} (hm : m + 43 < n) (M_h : MAt h m I AR LN) (hX : RfX I AR id way least l lo ld T ab) (hB : RfB l lo ld) (hid : id < 2 ^ 32) (hw : way ≤ 3) (hl3 : 3 ≤ least) (hl8 : least ≤ 8) (hfl : fl < 16) (he : e ≤ 11) (hc1 : 1 ≤ cut) (hc2 : cut ≤ 8000) (hO : PkOk T) (hF : FrameIs I AR ((hdF fl e id (l).length) ++ (prS fl e cut way least ld l T).1)) (hFl : ((hdF fl e id (l).length) ++ (prS fl e cut way least ld l T).1).length < 2 ^ 26) (hN : NtM AR (prS fl e cut way least ld l T).2.2.2.2.2.2)  {Ψ : Option Value → aH → Prop} (k1 : 12000 < (prY fl e cut id way least ld l T).length → ∀ h' I' A' L', Fr h h' (inM m) → MAt h' m I' A' L' → RfX I' A' id way least l lo ld T ab → Ψ (some (.int (-1))) (n, s, h')) (k2 : (prY fl e cut id way least ld l T).length ≤ 12000 → ∀ h' I' A' L', Fr h h' (inM m) → MAt h' m I' A' L' → RfX I' A' id way least l (prY fl e cut id way least ld l T) ld T (prS fl e cut way least ld l T).2.2.2.2.2.2 → Ψ (some (.int (nI (prY fl e cut id way least ld l T).length))) (n, s, h')) : WX (lk tX12_press) (mM (d + 2)) Ψ 441 [(0, .ref m), (1, .int (nI fl))] [] (n, s, h) := by
  have FR_h : Fr h h (inM m) := Fr.rf
  have FI_I : Fi I I (fun f => f = 3 ∨ f = 15 ∨ 20 ≤ f) := Fi.rf
  have FA_AR : FaS AR AR (fun b => b = 2 ∨ 8 ≤ b) := FaS.rf
  have K_I_1 : I 1 = nI (l).length := hX.1.1
  have K_I_4 : I 4 = nI way := hX.2.2.1
  have K_I_5 : I 5 = nI least := hX.2.2.2.1
  have K_I_7 : I 7 = nI (ld).length := hX.2.2.2.2.1.1
  have K_I_8 : I 8 = nI id := hX.2.2.2.2.2.1
  obtain ⟨hle, hld, hlo, hlb, hlb2⟩ := idP hB
  have t460 : ∀ (hA : Nat → aE) (IA : Nat → Int32) (AA : Nat → Nat → Int32) (LA : Nat → Int64), Fr h hA (inM m) → MAt hA m IA AA LA → RfX IA AA id way least l lo ld T ab → FrameIs IA AA (prY fl e cut id way least ld l T) → NtM AA (prS fl e cut way least ld l T).2.2.2.2.2.2 → WX (lk tX12_press) (mM (d + 2)) Ψ 460 [(0, .ref m), (1, .int (nI fl))] [] (n, s, hA) := by
    clear M_h FR_h hX hF hN FI_I FA_AR K_I_1 K_I_4 K_I_5 K_I_7 K_I_8
    intro hA I AR LN FR_hA M_hA hX hF hN
    have FI_I : Fi I I (fun f => f = 3 ∨ f = 15 ∨ 20 ≤ f) := Fi.rf
    have FA_AR : FaS AR AR (fun b => b = 2 ∨ 8 ≤ b) := FaS.rf
    have hFy : (prY fl e cut id way least ld l T).length < 2 ^ 27 := by
      unfold prY; rw [← List.append_assoc, List.length_append]
      have : (if fl % 2 = 1 then leL (wsF l) 4 else []).length ≤ 4 := by
        split
        · rw [leL_len]; exact Nat.le_refl 4
        · exact Nat.zero_le _
      omega
    refine WX.s1 rfl rfl ?_
    refine WX.callC (vs := [.ref m]) rfl rfl rfl (Nat.le_of_ble_eq_true rfl) ((M_hA).rcv hm) ?_
    refine m_showL (d := d + 1) hm M_hA hF (by omega) (fun hbig => ?_) (fun hsm hB_ IB AB frB M_hB_ fiB faB hOut => ?_)
    · skip
      show WX _ _ _ 464 [(0, .ref m), (1, .int (nI fl))] [.int (-1)] (n, s, hA)
      refine WX.s1 (L' := [(0, .ref m), (1, .int (nI fl)), (12, .int (-1))]) rfl rfl ?_
      refine WX.s1 rfl rfl ?_
      refine WX.s1 (L' := [(0, .ref m), (1, .int (nI fl)), (12, .int (-1)), (13, .int 0)]) rfl rfl ?_
      refine WX.s1 rfl rfl ?_
      refine WX.s1 rfl rfl ?_
      refine WX.icmp rfl (fun c_473 => absurd c_473 (by decide)) (fun c_473 => ?_)
      clear c_473
      refine WX.s1 rfl rfl ?_
      refine WX.if_ rfl (fun c_478 => ?_) (fun c_478 => absurd (by decide) c_478)
      clear c_478
      refine WX.s1 rfl rfl ?_
      exact WX.ret1 rfl (k1 hbig hA I AR LN FR_hA M_hA hX)
    · skip
      have FR_hB_ := (FR_hA).ztr frB
      have FA_AB : FaS AR AB (fun b => b = 2 ∨ 8 ≤ b) := (faB).mono (fun x hx => by omega)
      show WX _ _ _ 464 [(0, .ref m), (1, .int (nI fl))] [.int (nI (prY fl e cut id way least ld l T).length)] (n, s, hB_)
      refine WX.s1 (L' := [(0, .ref m), (1, .int (nI fl)), (12, .int (nI (prY fl e cut id way least ld l T).length))]) rfl rfl ?_
      refine WX.s1 rfl rfl ?_
      refine WX.s1 (L' := [(0, .ref m), (1, .int (nI fl)), (12, .int (nI (prY fl e cut id way least ld l T).length)), (13, .int 0)]) rfl rfl ?_
      have lp469 : ∀ (t i : Nat) (hL : Nat → aE) (AL : Nat → Nat → Int32), i + t = 12 → MAt hL m IB AL LN → Fr h hL (inM m) → FaS AB AL (fun b => b = 43) → (∀ j, j < i → AL 43 j = AB 42 j) → WX (lk tX12_press) (mM (d + 2)) Ψ 469 [(0, .ref m), (1, .int (nI fl)), (12, .int (nI (prY fl e cut id way least ld l T).length)), (13, .int (nI i))] [] (n, s, hL) := by
        clear M_hB_ FR_hB_
        intro t
        induction t with
        | zero =>
          intro i hL AL ht M_hL FR_hL faL q3
          obtain rfl : i = 12 := by omega
          have FA_AL : FaS AR AL (fun b => b = 2 ∨ 8 ≤ b) := (FA_AB).ztr ((faL).mono (fun x hx => by omega))
          refine WX.s1 rfl rfl ?_
          refine WX.s1 rfl rfl ?_
          refine WX.icmp rfl (fun c_473 => ?_) (fun c_473 => absurd ((nI_leI (a := 12) (b := 12) (by omega) (by omega)).mpr (by omega)) c_473)
          clear c_473
          refine WX.s1 rfl rfl ?_
          have o1 : ∀ b, b ≠ 2 → b ≠ 43 → AL b = AR b := fun b h1 h2 => (faL b h2).trans (faB b h1)
          obtain ⟨c, w, hMd⟩ := hX.2.2.2.2.2.2.2.1
          refine WX.ret1 rfl (k2 hsm hL IB AL _ FR_hL M_hL ⟨⟨(fiB 1 (by decide)).trans hX.1.1, ?_⟩, ⟨hOut.1, ?_⟩, (fiB 4 (by decide)).trans hX.2.2.1, (fiB 5 (by decide)).trans hX.2.2.2.1, ⟨(fiB 7 (by decide)).trans hX.2.2.2.2.1.1, ?_⟩, (fiB 8 (by decide)).trans hX.2.2.2.2.2.1, hX.2.2.2.2.2.2.1.mv (fiB 9 (by decide)) (o1 4 (by decide) (by decide)) (o1 5 (by decide) (by decide)) (o1 6 (by decide) (by decide)) (o1 7 (by decide) (by decide)), ⟨c, w, (hMd).fa (fiB 38 (by decide)) (o1 24 (by decide) (by decide))⟩, ?_⟩)
          · rw [o1 1 (by decide) (by decide)]; exact hX.1.2
          · rw [faL 2 (by decide)]; exact hOut.2
          · rw [o1 3 (by decide) (by decide)]; exact hX.2.2.2.2.1.2
          · intro q hq; rw [q3 q hq, faB 42 (by decide)]; exact hN q hq
        | succ t ih =>
          intro i hL AL ht M_hL FR_hL faL hInv
          refine WX.s1 rfl rfl ?_
          refine WX.s1 rfl rfl ?_
          refine WX.icmp rfl (fun c_473 => absurd c_473 (fun zz_ => absurd ((nI_leI (a := 12) (b := i) (by omega) (by omega)).mp zz_) (Nat.not_le.mpr (by omega)))) (fun c_473 => ?_)
          clear c_473
          refine WX.s1 rfl rfl ?_
          refine WX.if_ rfl (fun c_478 => absurd c_478 (fun zz_ => absurd ((nI_ltI (a := (prY fl e cut id way least ld l T).length) (b := 0) (by omega) (by omega)).mp zz_) (Nat.not_lt.mpr (by omega)))) (fun c_478 => ?_)
          clear c_478
          refine WX.s1 rfl rfl ?_
          refine WX.mget rfl hm M_hL rfl ?_
          refine WX.s1 rfl rfl ?_
          refine WX.s1 rfl rfl ?_
          refine WX.mget rfl hm M_hL rfl ?_
          refine WX.s1 rfl rfl ?_
          refine WX.mald (c := 42) rfl hm M_hL (by decide) (by decide) (by decide) (by decide) (vp_in_nI (N := 12) (by omega) (by decide)) ?_
          rw [nI_clamp (by omega), faL 42 (by decide)]
          refine WX.mast (c := 43) rfl hm M_hL (by decide) (by decide) (by decide) (by decide) (vp_in_nI (N := 12) (by omega) (by decide)) (fun h494n1 A494n1 e_A494n1 M_h494n1 frh494n1 => ?_)
          try dsimp only at e_A494n1
          have FR_h494n1 := (FR_hL).ztr frh494n1
          clear M_hL FR_hL frh494n1
          refine WX.s1 (L' := [(0, .ref m), (1, .int (nI fl)), (12, .int (nI (prY fl e cut id way least ld l T).length)), (13, .int ((nI i) + 1))]) rfl rfl ?_
          rw [show ((nI i) + 1) = nI (i + 1) from nI_add i 1]
          refine WX.s1 rfl rfl ?_
          rw [nI_clamp (by omega)] at e_A494n1
          refine ih (i + 1) h494n1 A494n1 (by omega) M_h494n1 FR_h494n1 ((faL).ast e_A494n1 (by omega)) ?_
          intro j hj
          by_cases z : j = i
          · rw [z, e_A494n1, upA_same, pk_us]
          · rw [e_A494n1, upA_same, pk_un z]; exact hInv j (by omega)
      exact lp469 12 0 hB_ AB (by omega) M_hB_ FR_hB_ FaS.rf (fun j hj => absurd hj (Nat.not_lt_zero j))
  refine WX.s1 rfl rfl ?_
  refine WX.s1 rfl rfl ?_
  refine WX.s1 (S' := [.int ((nI fl) &&& 1)]) rfl rfl ?_
  refine WX.if_ rfl (fun c_444 => ?_) (fun c_444 => ?_)
  · skip
    exact t460 h I AR LN FR_h M_h hX (by unfold prY; rw [if_neg (by have q := fl_1 fl hfl; have := (q).mp c_444; omega), List.append_nil]; exact hF) hN
  · skip
    refine WX.s1 rfl rfl ?_
    refine WX.s1 rfl rfl ?_
    refine WX.callC (vs := [.ref m]) rfl rfl rfl (Nat.le_of_ble_eq_true rfl) ((M_h).rcv hm) ?_
    refine m_sum (d := d) hm M_h hX.1 hlb hle (fun hs Ls frs M_hs => ?_)
    have FR_hs := (FR_h).ztr frs
    show WX _ _ _ 452 [(0, .ref m), (1, .int (nI fl))] [.long (wsF l), .ref m] (n, s, hs)
    refine WX.s1 rfl rfl ?_
    refine WX.s1 (S' := [.long ((wsF l) &&& 4294967295), .ref m]) rfl rfl ?_
    refine WX.s1 rfl rfl ?_
    refine WX.callC (vs := [.ref m, .long (wsF l &&& 4294967295), .int (nI 4)]) rfl rfl rfl (Nat.le_of_ble_eq_true rfl) ((M_hs).rcv hm) ?_
    refine m_sayNumL (d := d) (b := 4) (v := wsF l &&& 4294967295) hm M_hs hF (by decide) (by omega) (fun h457n2 I457n2 A457n2 fr457n2 M_h457n2 fi457n2 fa457n2 hF457n2 => ?_)
    have FR_h457n2 := (FR_hs).ztr fr457n2
    have K_I457n2_1 : I457n2 1 = (nI (l).length) := (fi457n2 1 (by decide)).trans K_I_1
    have K_I457n2_4 : I457n2 4 = (nI way) := (fi457n2 4 (by decide)).trans K_I_4
    have K_I457n2_5 : I457n2 5 = (nI least) := (fi457n2 5 (by decide)).trans K_I_5
    have K_I457n2_7 : I457n2 7 = (nI (ld).length) := (fi457n2 7 (by decide)).trans K_I_7
    have K_I457n2_8 : I457n2 8 = (nI id) := (fi457n2 8 (by decide)).trans K_I_8
    have FI_I457n2 : Fi I I457n2 (fun f => f = 3 ∨ f = 15 ∨ 20 ≤ f) := (FI_I).zsub fi457n2 (fun j hj => by first | exact hj | omega)
    have FA_A457n2 : FaS AR A457n2 (fun b => b = 2 ∨ 8 ≤ b) := (FA_AR).ztr ((fa457n2).toS (by omega))
    rw [leL_m32, List.append_assoc] at hF457n2
    have hX457n2 : RfX I457n2 A457n2 id way least l lo ld T ab := (hX).mv fi457n2 ((fa457n2).toS (by omega) : FaS AR A457n2 (fun b => b = 25)) (fun f h => by omega) (fun b h => by omega) (by decide) (by obtain ⟨c, w, q⟩ := hX.2.2.2.2.2.2.2.1; exact ⟨c, w, (q).fa (fi457n2 38 (by decide)) (fa457n2 24 (by decide))⟩)
    have hN457n2 : NtM A457n2 (prS fl e cut way least ld l T).2.2.2.2.2.2 := fun q hq => by rw [fa457n2 42 (by decide)]; exact hN q hq
    show WX _ _ _ 460 [(0, .ref m), (1, .int (nI fl))] [] (n, s, h457n2)
    exact t460 h457n2 I457n2 A457n2 _ FR_h457n2 M_h457n2 hX457n2 (by unfold prY; rw [if_pos (by have q := fl_1 fl hfl; have := mt (q).mpr c_444; omega)]; exact hF457n2) hN457n2
set_option maxRecDepth 20000 in
theorem m_prLp {d n s : Nat} {h : Nat → aE} {m : Nat} {I : Nat → Int32} {AR : Nat → Nat → Int32} {LN : Nat → Int64} {id way least fl e cut : Nat} {l lo ld : List Nat} {T : PkS} {ab : Nat → Nat} {S : PkS} {f : Nat} {acc : List Nat} (t : Nat) (hm : m + 43 < n) (M_h : MAt h m I AR LN) (hX : RfX I AR id way least l lo ld T ab) (hB : RfB l lo ld) (hid : id < 2 ^ 32) (hw : way ≤ 3) (hl3 : 3 ≤ least) (hl8 : least ≤ 8) (hfl : fl < 16) (he : e ≤ 11) (hc1 : 1 ≤ cut) (hc2 : cut ≤ 8000) (hO : PkOk T) (ht : (l).length - f < t) (hf : f ≤ (l).length) (hOS : PkOk S) (hAll : (prS fl e cut way least ld l T) = (acc ++ (blks (catD ld l) way least (winN fl e (l).length) (ld).length cut (l).length t f S).1, (blks (catD ld l) way least (winN fl e (l).length) (ld).length cut (l).length t f S).2)) (hF : FrameIs I AR ((hdF fl e id (l).length) ++ acc)) (hac : (acc).length ≤ 4 * f) (hR : RefS I AR S) (K_I_27 : I 27 = (nI (winN fl e (l).length))) {Ψ : Option Value → aH → Prop} (k1 : 12000 < (prY fl e cut id way least ld l T).length → ∀ h' I' A' L', Fr h h' (inM m) → MAt h' m I' A' L' → RfX I' A' id way least l lo ld T ab → Ψ (some (.int (-1))) (n, s, h')) (k2 : (prY fl e cut id way least ld l T).length ≤ 12000 → ∀ h' I' A' L', Fr h h' (inM m) → MAt h' m I' A' L' → RfX I' A' id way least l (prY fl e cut id way least ld l T) ld T (prS fl e cut way least ld l T).2.2.2.2.2.2 → Ψ (some (.int (nI (prY fl e cut id way least ld l T).length))) (n, s, h')) : WX (lk tX12_press) (mM (d + 8)) Ψ 371 [(0, .ref m), (1, .int (nI fl)), (3, .int (nI cut)), (10, .int (nI f)), (11, .int 1)] [] (n, s, h) := by
  induction t generalizing h I AR f S acc with
  | zero => omega
  | succ t ih =>
    have FR_h : Fr h h (inM m) := Fr.rf
    have FI_I : Fi I I (fun f => f = 3 ∨ f = 15 ∨ 20 ≤ f) := Fi.rf
    have FA_AR : FaS AR AR (fun b => b = 2 ∨ 8 ≤ b) := FaS.rf
    have hhd := hdF_len (fl := fl) (e := e) (id := id) (u := (l).length)
    have K_I_1 : I 1 = nI (l).length := hX.1.1
    have K_I_4 : I 4 = nI way := hX.2.2.1
    have K_I_5 : I 5 = nI least := hX.2.2.2.1
    have K_I_7 : I 7 = nI (ld).length := hX.2.2.2.2.1.1
    have K_I_8 : I 8 = nI id := hX.2.2.2.2.2.1
    obtain ⟨hle, hld, hlo, hlb, hlb2⟩ := idP hB
    have hDl := (hB).cat
    have hwn := win_bd (fl := fl) (u := (l).length) he hle
    have hlen : ((hdF fl e id (l).length) ++ acc).length < 2 ^ 26 := by rw [List.length_append]; omega
    refine WX.s1 rfl rfl ?_
    refine WX.if_ rfl (fun c_373 => absurd c_373 (by decide)) (fun c_373 => ?_)
    clear c_373
    have t398 : ∀ (to_ : Nat), to_ = (min (f + cut) (l).length) → WX (lk tX12_press) (mM (d + 8)) Ψ 398 [(0, .ref m), (1, .int (nI fl)), (3, .int (nI cut)), (10, .int (nI f)), (11, .int 1)] [.int (nI to_)] (n, s, h) := by
      intro to_ eto
      subst eto
      refine WX.s1 (L' := [(0, .ref m), (1, .int (nI fl)), (3, .int (nI cut)), (10, .int (nI f)), (11, .int 1), (12, .int (nI (min (f + cut) (l).length)))]) rfl rfl ?_
      refine WX.s1 rfl rfl ?_
      refine WX.s1 rfl rfl ?_
      refine WX.mgetK (x := (nI (l).length)) rfl hm M_h rfl K_I_1 ?_
      refine WX.icmp rfl (fun c_406 => ?_) (fun c_406 => ?_)
      · skip
        have n_406 : (l).length ≤ (min (f + cut) (l).length) := (nI_leI (a := (l).length) (b := min (f + cut) (l).length) (by omega) (by omega)).mp c_406
        refine WX.s1 rfl rfl ?_
        refine WX.s1 (L' := [(0, .ref m), (1, .int (nI fl)), (3, .int (nI cut)), (10, .int (nI f)), (11, .int 0), (12, .int (nI (min (f + cut) (l).length)))]) rfl rfl ?_
        refine WX.s1 rfl rfl ?_
        refine WX.s1 rfl rfl ?_
        refine WX.s1 rfl rfl ?_
        refine WX.s1 rfl rfl ?_
        refine WX.if_ rfl (fun c_423 => absurd c_423 (by decide)) (fun c_423 => ?_)
        clear c_423
        refine WX.s1 rfl rfl ?_
        refine WX.s1 rfl rfl ?_
        refine WX.callC (vs := [.ref m, .int (nI f), .int (nI (min (f + cut) (l).length)), .int (nI 1)]) rfl rfl rfl (Nat.le_of_ble_eq_true rfl) ((M_h).rcv hm) ?_
        obtain ⟨c0, w0, hMd⟩ := hX.2.2.2.2.2.2.2.1
        refine m_blk (d := d) (D := (catD ld l)) (dn := (ld).length) hm M_h hF hlen hMd hOS hR (by decide) hld (fun i hi => by unfold catD; rw [getD_l hi]; exact hX.2.2.2.2.1.2 i hi) (fun i hi => ⟨by unfold catD; rw [getD_r (by omega), show (ld).length + i - (ld).length = i by omega]; exact hX.1.2 i (by omega), hDl _⟩) (by omega) (by omega) (fun i _ => hDl i) hw hl3 hl8 hwn K_I_4 K_I_5 K_I_7 K_I_27 (fun hb Ib Ab cb wb frb M_hb fib fab hMb hFb hRb => ?_)
        rw [List.append_assoc] at hFb
        have hXb : RfX Ib Ab id way least l lo ld T ab := (hX).mv fib fab (fun f h => by omega) (fun b h => by omega) (by decide) ⟨cb, wb, hMb⟩
        have hbl : (blkB (catD ld l) way least (winN fl e (l).length) ((ld).length + f) ((ld).length + (min (f + cut) (l).length)) 1 S).length ≤ ((ld).length + (min (f + cut) (l).length) - ((ld).length + f)) + 3 := blkB_len (by omega)
        have hOT : PkOk (blkT (catD ld l) way least (winN fl e (l).length) ((ld).length + f) ((ld).length + (min (f + cut) (l).length)) S) := blkT_ok hl3 (by omega) (by omega) (by omega) (fun i _ => hDl i) hOS
        have K_Ib_27 : Ib 27 = nI (winN fl e (l).length) := (fib 27 (by decide)).trans K_I_27
        show WX _ _ _ 434 [(0, .ref m), (1, .int (nI fl)), (3, .int (nI cut)), (10, .int (nI f)), (11, .int 0), (12, .int (nI (min (f + cut) (l).length)))] [] (n, s, hb)
        refine WX.s1 rfl rfl ?_
        refine WX.s1 (L' := [(0, .ref m), (1, .int (nI fl)), (3, .int (nI cut)), (10, .int (nI (min (f + cut) (l).length))), (11, .int 0), (12, .int (nI (min (f + cut) (l).length)))]) rfl rfl ?_
        refine WX.s1 rfl rfl ?_
        refine WX.s1 rfl rfl ?_
        refine WX.if_ rfl (fun c_373 => ?_) (fun c_373 => absurd (by decide) c_373)
        clear c_373
        refine WX.keep (y := 208) [0, 1] (show ([0, 1, 3, 10, 11, 12] : List Nat).Nodup by decide) rfl ?_
        rw [blks_end (by omega)] at hAll
        have e1 : (prS fl e cut way least ld l T).1 = acc ++ (blkB (catD ld l) way least (winN fl e (l).length) ((ld).length + f) ((ld).length + (min (f + cut) (l).length)) 1 S) := congrArg Prod.fst hAll
        have e2 : (prS fl e cut way least ld l T).2 = (blkT (catD ld l) way least (winN fl e (l).length) ((ld).length + f) ((ld).length + (min (f + cut) (l).length)) S) := congrArg Prod.snd hAll
        exact m_prEnd (d := d + 6) hm M_hb hXb hB hid hw hl3 hl8 hfl he hc1 hc2 hO (by rw [e1]; exact hFb) (by rw [e1, List.length_append, List.length_append]; omega) (by rw [e2]; exact hRb.2.2.2.2.2) (fun z h9 I9 A9 L9 f9 M9 q9 => k1 z h9 I9 A9 L9 ((frb).ztr f9) M9 q9) (fun z h9 I9 A9 L9 f9 M9 q9 => k2 z h9 I9 A9 L9 ((frb).ztr f9) M9 q9)
      · skip
        have n_406 : (min (f + cut) (l).length) < (l).length := Nat.lt_of_not_le (fun zz_ => c_406 ((nI_leI (a := (l).length) (b := min (f + cut) (l).length) (by omega) (by omega)).mpr zz_))
        refine WX.s1 rfl rfl ?_
        refine WX.s1 rfl rfl ?_
        refine WX.s1 (L' := [(0, .ref m), (1, .int (nI fl)), (3, .int (nI cut)), (10, .int (nI f)), (11, .int 1), (12, .int (nI (min (f + cut) (l).length)))]) rfl rfl ?_
        refine WX.s1 rfl rfl ?_
        refine WX.s1 rfl rfl ?_
        refine WX.s1 rfl rfl ?_
        refine WX.s1 rfl rfl ?_
        refine WX.if_ rfl (fun c_423 => ?_) (fun c_423 => absurd (by decide) c_423)
        clear c_423
        refine WX.s1 rfl rfl ?_
        refine WX.callC (vs := [.ref m, .int (nI f), .int (nI (min (f + cut) (l).length)), .int (nI 0)]) rfl rfl rfl (Nat.le_of_ble_eq_true rfl) ((M_h).rcv hm) ?_
        obtain ⟨c0, w0, hMd⟩ := hX.2.2.2.2.2.2.2.1
        refine m_blk (d := d) (D := (catD ld l)) (dn := (ld).length) hm M_h hF hlen hMd hOS hR (by decide) hld (fun i hi => by unfold catD; rw [getD_l hi]; exact hX.2.2.2.2.1.2 i hi) (fun i hi => ⟨by unfold catD; rw [getD_r (by omega), show (ld).length + i - (ld).length = i by omega]; exact hX.1.2 i (by omega), hDl _⟩) (by omega) (by omega) (fun i _ => hDl i) hw hl3 hl8 hwn K_I_4 K_I_5 K_I_7 K_I_27 (fun hb Ib Ab cb wb frb M_hb fib fab hMb hFb hRb => ?_)
        rw [List.append_assoc] at hFb
        have hXb : RfX Ib Ab id way least l lo ld T ab := (hX).mv fib fab (fun f h => by omega) (fun b h => by omega) (by decide) ⟨cb, wb, hMb⟩
        have hbl : (blkB (catD ld l) way least (winN fl e (l).length) ((ld).length + f) ((ld).length + (min (f + cut) (l).length)) 0 S).length ≤ ((ld).length + (min (f + cut) (l).length) - ((ld).length + f)) + 3 := blkB_len (by omega)
        have hOT : PkOk (blkT (catD ld l) way least (winN fl e (l).length) ((ld).length + f) ((ld).length + (min (f + cut) (l).length)) S) := blkT_ok hl3 (by omega) (by omega) (by omega) (fun i _ => hDl i) hOS
        have K_Ib_27 : Ib 27 = nI (winN fl e (l).length) := (fib 27 (by decide)).trans K_I_27
        show WX _ _ _ 434 [(0, .ref m), (1, .int (nI fl)), (3, .int (nI cut)), (10, .int (nI f)), (11, .int 1), (12, .int (nI (min (f + cut) (l).length)))] [] (n, s, hb)
        refine WX.s1 rfl rfl ?_
        refine WX.s1 (L' := [(0, .ref m), (1, .int (nI fl)), (3, .int (nI cut)), (10, .int (nI (min (f + cut) (l).length))), (11, .int 1), (12, .int (nI (min (f + cut) (l).length)))]) rfl rfl ?_
        refine WX.s1 rfl rfl ?_
        rw [blks_more (by omega)] at hAll
        refine WX.keep (y := 208) [0, 1, 3, 10, 11] (show ([0, 1, 3, 10, 11, 12] : List Nat).Nodup by decide) rfl ?_
        exact ih (f := (min (f + cut) (l).length)) (S := (blkT (catD ld l) way least (winN fl e (l).length) ((ld).length + f) ((ld).length + (min (f + cut) (l).length)) S)) (acc := acc ++ (blkB (catD ld l) way least (winN fl e (l).length) ((ld).length + f) ((ld).length + (min (f + cut) (l).length)) 0 S)) M_hb hXb (by omega) (by omega) hOT (by rw [hAll, List.append_assoc]) hFb (by rw [List.length_append]; omega) hRb K_Ib_27 (fun z h9 I9 A9 L9 f9 M9 q9 => k1 z h9 I9 A9 L9 ((frb).ztr f9) M9 q9) (fun z h9 I9 A9 L9 f9 M9 q9 => k2 z h9 I9 A9 L9 ((frb).ztr f9) M9 q9)
    refine WX.s1 rfl rfl ?_
    refine WX.s1 rfl rfl ?_
    refine WX.s1 (S' := [.int ((nI f) + (nI cut))]) rfl rfl ?_
    rw [show ((nI f) + (nI cut)) = nI (f + cut) from nI_add f cut]
    refine WX.s1 rfl rfl ?_
    refine WX.mgetK (x := (nI (l).length)) rfl hm M_h rfl K_I_1 ?_
    refine WX.icmp rfl (fun c_384 => ?_) (fun c_384 => ?_)
    · skip
      have n_384 : (l).length ≤ (f + cut) := (nI_leI (a := (l).length) (b := f + cut) (by omega) (by omega)).mp c_384
      refine WX.s1 rfl rfl ?_
      refine WX.mgetK (x := (nI (l).length)) rfl hm M_h rfl K_I_1 ?_
      exact t398 _ (by omega)
    · skip
      have n_384 : (f + cut) < (l).length := Nat.lt_of_not_le (fun zz_ => c_384 ((nI_leI (a := (l).length) (b := f + cut) (by omega) (by omega)).mpr zz_))
      refine WX.s1 rfl rfl ?_
      refine WX.s1 rfl rfl ?_
      refine WX.s1 (S' := [.int ((nI f) + (nI cut))]) rfl rfl ?_
      rw [show ((nI f) + (nI cut)) = nI (f + cut) from nI_add f cut]
      refine WX.s1 rfl rfl ?_
      exact t398 _ (by omega)
