theorem lsF_ne {L : Nat → Nat} : ∀ {n : Nat}, 1 ≤ lsF L n → L (lsF L n) ≠ 0 := by
  intro n
  induction n with
  | zero => intro h; exact absurd (show 1 ≤ 0 from h) (by decide)
  | succ n ih =>
    intro h
    unfold lsF at h ⊢
    by_cases z : L (n + 1) = 0
    · rw [if_pos z] at h ⊢; exact ih h
    · rw [if_neg z]; exact z
theorem nib {w a x y : Nat} (hx : x < 16) (hy : y < 16) : w + x % 2 ^ 4 * 2 ^ a + y % 2 ^ 4 * 2 ^ (a + 4) = w + (16 * y + x) % 2 ^ (8 * 1) * 2 ^ a := by
  rw [Nat.mod_eq_of_lt (show x < 2 ^ 4 by omega), Nat.mod_eq_of_lt (show y < 2 ^ 4 by omega), Nat.mod_eq_of_lt (show 16 * y + x < 2 ^ (8 * 1) by omega), Nat.pow_add, Nat.add_mul]
  rw [show y * (2 ^ a * 2 ^ 4) = 16 * y * 2 ^ a by rw [Nat.mul_comm (2 ^ a) (2 ^ 4), ← Nat.mul_assoc, Nat.mul_comm y]]
  omega
/-! the reference: describe -/
theorem lsF_z {L : Nat → Nat} {s : Nat} (h : lsF L 255 < s) (hs : s ≤ 255) : L s = 0 := by
  apply Classical.byContradiction
  intro z
  have := (lsF_nz hs z).1
  omega
theorem wt_le {L : Nat → Nat} {t : Nat} (h : LenOk L t) : ∀ s, s ∈ wtL L t → s ≤ 11 := fun s hs => by
  unfold wtL at hs
  obtain ⟨i, hi, rfl⟩ := List.mem_map.mp hs
  have hi := List.mem_range.mp hi
  have := lsF_le L 255
  by_cases z : L i = 0
  · rw [show wgK L t i = 0 from if_pos z]; omega
  · have q := wg_le h (show i < 256 by omega) z
    have := h.2.1
    omega
theorem dirY_len (ws : List Nat) : (dirY ws).length = 1 + (ws.length + 1) / 2 := by
  show ((List.range ((ws.length + 1) / 2)).map _).length + 1 = _
  rw [List.length_map, List.length_range]
  omega
def dirP (ws : List Nat) (j : Nat) : List Nat := (127 + ws.length) :: (List.range j).map (fun i => 16 * ws.getD (2 * i) 0 + (if 2 * i + 1 < ws.length then ws.getD (2 * i + 1) 0 else 0))
theorem dirP_s (ws : List Nat) (j : Nat) : dirP ws (j + 1) = dirP ws j ++ [16 * ws.getD (2 * j) 0 + (if 2 * j + 1 < ws.length then ws.getD (2 * j + 1) 0 else 0)] := by
  unfold dirP
  rw [List.range_succ, List.map_append]
  rfl
theorem dirP_len (ws : List Nat) (j : Nat) : (dirP ws j).length = j + 1 := by
  show ((List.range j).map _).length + 1 = _
  rw [List.length_map, List.length_range]
theorem leBy_1 {x : Nat} (h : x < 256) : leBy x 1 = [x] := by
  show [x / 256 ^ 0 % 256] = [x]
  rw [Nat.pow_zero, Nat.div_one, Nat.mod_eq_of_lt h]
set_option maxRecDepth 20000 in
theorem m_weighing {d n s : Nat} {h : Nat → aE} {m : Nat} {I : Nat → Int32} {AR : Nat → Nat → Int32} {LN : Nat → Int64} {L : Nat → Nat} {t x : Nat} (hm : m + 43 < n) (M_h : MAt h m I AR LN) (hd : ∀ s, s < 256 → AR 37 s = nI (L s)) (hok : LenOk L t) (hx : x < 256)  {Ψ : Option Value → aH → Prop} (kk : Ψ (some (.int (nI (wgK L t x)))) (n, s, h)) : WO (mM (d + 1)) 179 [.ref m, .int (nI x), .int (nI t)] (n, s, h) Ψ := by
  refine WO.of (Nat.le_of_ble_eq_true rfl) ?_
  have FR_h : Fr h h (inM m) := Fr.rf
  have FI_I : Fi I I (fun f => f = 40) := Fi.rf
  have hlx := hok.2.2.1 x hx
  have ht := hok.2.1
  show WX (lk tX12_weighing) (mM d) Ψ 0 [(0, .ref m), (1, .int (nI x)), (2, .int (nI t))] [] (n, s, h)
  refine WX.s1 rfl rfl ?_
  refine WX.mget rfl hm M_h rfl ?_
  refine WX.s1 rfl rfl ?_
  refine WX.mald (c := 37) rfl hm M_h (by decide) (by decide) (by decide) (by decide) (vp_in_nI (N := 256) (by omega) (by decide)) ?_
  rw [nI_clamp (by omega), hd x hx]
  refine WX.if_ rfl (fun c_6 => ?_) (fun c_6 => ?_)
  · skip
    have n_6 : ¬ (L x) = 0 := fun zz_ => c_6 ((nI_eq (a := L x) (b := 0) (by omega) (by omega)).mpr zz_)
    refine WX.s1 rfl rfl ?_
    refine WX.s1 rfl rfl ?_
    refine WX.s1 (S' := [.int ((nI t) + 1)]) rfl rfl ?_
    rw [show ((nI t) + 1) = nI (t + 1) from nI_add t 1]
    refine WX.s1 rfl rfl ?_
    refine WX.mget rfl hm M_h rfl ?_
    refine WX.s1 rfl rfl ?_
    refine WX.mald (c := 37) rfl hm M_h (by decide) (by decide) (by decide) (by decide) (vp_in_nI (N := 256) (by omega) (by decide)) ?_
    rw [nI_clamp (by omega), hd x hx]
    refine WX.s1 (S' := [.int ((nI (t + 1)) - (nI (L x)))]) rfl rfl ?_
    rw [nI_subN (by omega)]
    rw [show wgK L t x = t + 1 - L x from if_neg n_6] at kk
    exact WX.ret1 rfl kk
  · skip
    have n_6 : (L x) = 0 := (nI_eq (a := L x) (b := 0) (by omega) (by omega)).mp (Classical.not_not.mp c_6)
    refine WX.s1 rfl rfl ?_
    refine WX.s1 rfl rfl ?_
    rw [show wgK L t x = 0 from if_pos n_6] at kk
    exact WX.ret1 rfl kk
set_option maxRecDepth 20000 in
theorem m_describe {d n s : Nat} {h : Nat → aE} {m : Nat} {I : Nat → Int32} {AR : Nat → Nat → Int32} {LN : Nat → Int64} {L : Nat → Nat} {t c0 w0 : Nat} (hm : m + 43 < n) (M_h : MAt h m I AR LN) (hd : ∀ s, s < 256 → AR 37 s = nI (L s)) (hok : LenOk L t) (hk1 : 1 ≤ lsF L 255) (hM : MadeIs I AR c0 w0)  {Ψ : Option Value → aH → Prop} (kkN : dsY (wtL L t) = none → ∀ h' I' A' c w, Fr h h' (inM m) → MAt h' m I' A' LN → Fi I I' (fun f => f = 38 ∨ f = 56) → FaS AR A' (fun b => b = 24 ∨ (26 ≤ b ∧ b ≤ 33) ∨ b = 39) → MadeIs I' A' c w → Ψ (some (.int (-2))) (n, s, h')) (kkS : ∀ y, dsY (wtL L t) = some y → ∀ h' I' A', Fr h h' (inM m) → MAt h' m I' A' LN → Fi I I' (fun f => f = 38 ∨ f = 56) → FaS AR A' (fun b => b = 24 ∨ (26 ≤ b ∧ b ≤ 33) ∨ b = 39) → MadeY I' A' y → Ψ (some (.int (nI y.length))) (n, s, h')) : WO (mM (d + 4)) 180 [.ref m, .int (nI t)] (n, s, h) Ψ := by
  refine WO.of (Nat.le_of_ble_eq_true rfl) ?_
  have FR_h : Fr h h (inM m) := Fr.rf
  have FI_I : Fi I I (fun f => f = 38 ∨ f = 56) := Fi.rf
  have FA_AR : FaS AR AR (fun b => b = 24 ∨ (26 ≤ b ∧ b ≤ 33) ∨ b = 39) := FaS.rf
  have hk255 := lsF_le L 255
  have hLk : L (lsF L 255) ≠ 0 := lsF_ne hk1
  have ht := hok.2.1
  have hwl := wtL_len L t
  have hwle := wt_le hok
  have K_I_38 := hM.1
  show WX (lk tX12_describe) (mM (d + 3)) Ψ 0 [(0, .ref m), (1, .int (nI t))] [] (n, s, h)
  refine WX.s1 rfl rfl ?_
  refine WX.s1 rfl rfl ?_
  refine WX.mput rfl hm M_h (rfl) (by decide) (fun _ => rfl) (fun h4n1 I4n1 e_I4n1 M_h4n1 frh4n1 => ?_)
  have FR_h4n1 := FR_h.ztr frh4n1
  have FI_I4n1 : Fi I I4n1 (fun f => f = 38 ∨ f = 56) := FI_I.zup e_I4n1 (by first | exact rfl | decide | omega)
  have K_I4n1_38 : I4n1 38 = (nI c0) := by rw [e_I4n1]; exact (pk_un (by decide)).trans K_I_38
  have K_I4n1_56 : I4n1 56 = 255 := by rw [e_I4n1]; exact pk_us
  clear M_h FR_h FI_I e_I4n1 frh4n1 K_I_38
  have lp : ∀ (q : Nat) (hL : Nat → aE) (IL : Nat → Int32), (lsF L 255) + q ≤ 255 → Fr h hL (inM m) → MAt hL m IL AR LN → Fi I IL (fun f => f = 38 ∨ f = 56) → IL 38 = nI c0 → IL 56 = nI ((lsF L 255) + q) → WX (lk tX12_describe) (mM (d + 3)) Ψ 7 [(0, .ref m), (1, .int (nI t))] [] (n, s, hL) := by
    clear M_h4n1 FR_h4n1 FI_I4n1
    intro q
    induction q with
    | zero =>
      intro hL IL hq FR_hL M_hL FI_IL K_IL_38 K_IL_56
      rw [Nat.add_zero] at K_IL_56
      have FA_AL := FA_AR
      have hMc : MadeIs IL AR c0 w0 := hM.fa (K_IL_38.trans hM.1.symm) rfl
      have hlx := hok.2.2.1 (lsF L 255) (by omega)
      refine WX.s1 rfl rfl ?_
      refine WX.mget rfl hm M_hL rfl ?_
      refine WX.s1 rfl rfl ?_
      refine WX.mgetK (x := (nI (lsF L 255))) rfl hm M_hL rfl K_IL_56 ?_
      refine WX.mald (c := 37) rfl hm M_hL (by decide) (by decide) (by decide) (by decide) (vp_in_nI (N := 256) (by omega) (by decide)) ?_
      rw [nI_clamp (by omega), hd _ (by omega)]
      refine WX.if_ rfl (fun c_16 => ?_) (fun c_16 => absurd (fun z => hLk ((nI_eq (by omega) (by decide)).mp z)) c_16)
      refine WX.s1 rfl rfl ?_
      refine WX.s1 (L' := [(0, .ref m), (1, .int (nI t)), (2, .int 0)]) rfl rfl ?_
      have lp2 : ∀ (q i : Nat) (hM_ : Nat → aE) (AM : Nat → Nat → Int32), i + q = 256 → Fr h hM_ (inM m) → MAt hM_ m IL AM LN → FaS AR AM (fun b => b = 24 ∨ (26 ≤ b ∧ b ≤ 33) ∨ b = 39) → MadeIs IL AM c0 w0 → (∀ s, s < i → AM 33 s = nI 0) → WX (lk tX12_describe) (mM (d + 3)) Ψ 34 [(0, .ref m), (1, .int (nI t)), (2, .int (nI i))] [] (n, s, hM_) := by
        clear M_hL FR_hL FA_AL hMc
        intro q
        induction q with
        | zero =>
          intro i hM_ AM hi FR_hM_ M_hM_ FA_AM hMc h0
          obtain rfl : i = 256 := by omega
          refine WX.s1 rfl rfl ?_
          refine WX.s1 rfl rfl ?_
          refine WX.icmp rfl (fun c_38 => ?_) (fun c_38 => absurd ((nI_leI (a := 256) (b := 256) (by omega) (by omega)).mpr (by omega)) c_38)
          clear c_38
          refine WX.s1 rfl rfl ?_
          refine WX.s1 (L' := [(0, .ref m), (1, .int (nI t)), (2, .int 0)]) rfl rfl ?_
          refine WX.s1 rfl rfl ?_
          refine WX.s1 (L' := [(0, .ref m), (1, .int (nI t)), (2, .int 0), (3, .int 0)]) rfl rfl ?_
          have lp3 : ∀ (q i : Nat) (hM_ : Nat → aE) (AM : Nat → Nat → Int32), i + q = (lsF L 255) → Fr h hM_ (inM m) → MAt hM_ m IL AM LN → FaS AR AM (fun b => b = 24 ∨ (26 ≤ b ∧ b ≤ 33) ∨ b = 39) → MadeIs IL AM c0 w0 → (∀ s, s < 256 → AM 33 s = nI ((cdF ((wtL L t).take i)).1 s)) → (∀ j, j < i → AM 39 j = nI ((wtL L t).getD j 0)) → WX (lk tX12_describe) (mM (d + 3)) Ψ 58 [(0, .ref m), (1, .int (nI t)), (2, .int (nI (cdF ((wtL L t).take i)).2)), (3, .int (nI i))] [] (n, s, hM_) := by
            clear M_hM_ FR_hM_ FA_AM hMc h0
            intro q
            induction q with
            | zero =>
              intro i hM_ AM hi FR_hM_ M_hM_ FA_AM hMc hc hj
              obtain rfl : i = (lsF L 255) := by omega
              rw [show (wtL L t).take (lsF L 255) = (wtL L t) by rw [← hwl]; exact List.take_length] at hc ⊢
              refine WX.s1 rfl rfl ?_
              refine WX.s1 rfl rfl ?_
              refine WX.mgetK (x := (nI (lsF L 255))) rfl hm M_hM_ rfl K_IL_56 ?_
              refine WX.icmp rfl (fun c_63 => ?_) (fun c_63 => absurd ((nI_leI (a := lsF L 255) (b := lsF L 255) (by omega) (by omega)).mpr (by omega)) c_63)
              clear c_63
              have hWt : WtM AM (wtL L t) := fun i hi => hj i (by omega)
              have hCt : CntM AM (cdF (wtL L t)).1 := fun s hs => hc s (by omega)
              have hkn : (cdF (wtL L t)).2 ≤ 12 := cd_le (fun s hs => by have := hwle s hs; omega)
              obtain ⟨DV, hDV⟩ : ∃ q, ((lsF L 255) ≤ 128 ∧ q = 1 + ((lsF L 255) + 1) / 2) ∨ (128 < (lsF L 255) ∧ q = 9999) := by by_cases z : (lsF L 255) ≤ 128; exact ⟨_, Or.inl ⟨z, rfl⟩⟩; exact ⟨_, Or.inr ⟨by omega, rfl⟩⟩
              by_cases hv : 2 ≤ (cdF (wtL L t)).2 ∧ 2 ≤ (lsF L 255)
              · have hws : WsOk (wtL L t) := ⟨hwle, by omega, by omega, hv.1⟩
                have l5 := st_len hws (o := 5) (by decide) (by decide)
                have l6 := st_len hws (o := 6) (by decide) (by decide)
                obtain ⟨n5, hn5⟩ : ∃ q, q = (stY (wtL L t) 5).length := ⟨_, rfl⟩
                obtain ⟨n6, hn6⟩ : ∃ q, q = (stY (wtL L t) 6).length := ⟨_, rfl⟩
                rw [← hn5] at l5
                rw [← hn6] at l6
                have hbn : (n6 < n5 ∧ n6 < 128 ∧ bsN (wtL L t) = n6) ∨ (n6 < n5 ∧ 128 ≤ n6 ∧ bsN (wtL L t) = 0) ∨ (n5 ≤ n6 ∧ n5 < 128 ∧ bsN (wtL L t) = n5) ∨ (n5 ≤ n6 ∧ 128 ≤ n5 ∧ bsN (wtL L t) = 0) := by
                  by_cases z : n6 < n5
                  · have e : (bsY (wtL L t)).length = n6 := by unfold bsY; rw [if_pos (by rw [← hn5, ← hn6]; exact z)]; exact hn6.symm
                    by_cases y : n6 < 128
                    · have e2 : bsN (wtL L t) = n6 := by unfold bsN; rw [e, if_pos ⟨hv.1, by omega, y⟩]
                      omega
                    · have e2 : bsN (wtL L t) = 0 := by unfold bsN; rw [e, if_neg (fun q => y q.2.2)]
                      omega
                  · have e : (bsY (wtL L t)).length = n5 := by unfold bsY; rw [if_neg (by rw [← hn5, ← hn6]; exact z)]; exact hn5.symm
                    by_cases y : n5 < 128
                    · have e2 : bsN (wtL L t) = n5 := by unfold bsN; rw [e, if_pos ⟨hv.1, by omega, y⟩]
                      omega
                    · have e2 : bsN (wtL L t) = 0 := by unfold bsN; rw [e, if_neg (fun q => y q.2.2)]
                      omega
                obtain ⟨SV, hSV⟩ : ∃ q, (bsN (wtL L t) = 0 ∧ q = 9999) ∨ (bsN (wtL L t) ≠ 0 ∧ q = 1 + bsN (wtL L t)) := by by_cases z : bsN (wtL L t) = 0; exact ⟨_, Or.inl ⟨z, rfl⟩⟩; exact ⟨_, Or.inr ⟨z, rfl⟩⟩
                have hb230 : bsN (wtL L t) ≤ 230 := by omega
                have t235 : ∀ (hL : Nat → aE) (IL : Nat → Int32) (AL : Nat → Nat → Int32) (c w : Nat), Fr h hL (inM m) → MAt hL m IL AL LN → Fi I IL (fun f => f = 38 ∨ f = 56) → FaS AR AL (fun b => b = 24 ∨ (26 ≤ b ∧ b ≤ 33) ∨ b = 39) → MadeIs IL AL c w → IL 56 = nI (lsF L 255) → WtM AL (wtL L t) → CntM AL (cdF (wtL L t)).1 → WX (lk tX12_describe) (mM (d + 3)) Ψ 235 [(0, .ref m), (1, .int (nI t)), (2, .int (nI (cdF (wtL L t)).2)), (3, .int (nI DV)), (4, .int (nI (1 + n5))), (5, .int (nI (1 + n6))), (6, .int (nI SV))] [] (n, s, hL) := by
                  clear M_hM_ FR_hM_ FA_AM hMc hWt hCt hc hj K_IL_56 FI_IL
                  intro hL IL AL c w FR_hL M_hL FI_IL FA_AL hMc K_IL_56 hWt hCt
                  refine WX.s1 rfl rfl ?_
                  refine WX.s1 rfl rfl ?_
                  refine WX.icmp rfl (fun c_239 => ?_) (fun c_239 => ?_)
                  · skip
                    have n_239 : ¬ DV = 9999 := fun zz_ => c_239 ((nI_eq (a := DV) (b := 9999) (by omega) (by omega)).mpr zz_)
                    have hny : ¬ (DV = 9999 ∧ SV = 9999) := by omega
                    refine WX.s1 rfl rfl ?_
                    refine WX.s1 rfl rfl ?_
                    refine WX.icmp rfl (fun c_256 => ?_) (fun c_256 => ?_)
                    · skip
                      have n_256 : SV < DV := (nI_ltI (a := SV) (b := DV) (by omega) (by omega)).mp c_256
                      refine WX.s1 rfl rfl ?_
                      refine WX.s1 rfl rfl ?_
                      refine WX.s1 rfl rfl ?_
                      refine WX.icmp rfl (fun c_342 => ?_) (fun c_342 => ?_)
                      · skip
                        have n_342 : (1 + n6) < (1 + n5) := (nI_ltI (a := 1 + n6) (b := 1 + n5) (by omega) (by omega)).mp c_342
                        refine WX.s1 rfl rfl ?_
                        refine WX.callC (vs := [.ref m, .int (nI 6)]) rfl rfl rfl (Nat.le_of_ble_eq_true rfl) (M_hL.rcv hm) ?_
                        refine m_bySt hm M_hL (by decide) (by decide) hws hWt hCt hMc (by rw [hwl]; exact K_IL_56) (fun h9 I9 A9 fr9 M_h9 fi9 fa9 hY9 => ?_)
                        have hne : bsN (wtL L t) ≠ 0 := by omega
                        have hbe : bsY (wtL L t) = stY (wtL L t) 6 := if_pos (by rw [← hn5, ← hn6]; omega)
                        have hle9 : bsN (wtL L t) = (stY (wtL L t) 6).length := by rw [← hn6]; omega
                        have hyes : dsY (wtL L t) = some ((stY (wtL L t) 6).length :: stY (wtL L t) 6) := by unfold dsY; rw [hwl, if_neg (by omega), if_neg hne, hbe, ← hle9]
                        refine WX.s1 rfl rfl ?_
                        refine WX.s1 rfl rfl ?_
                        have h10 := kkS _ hyes h9 I9 A9 (FR_hL.ztr fr9) M_h9 (FI_IL.zsub fi9 (fun j hj => Or.inl hj)) (FA_AL.ztr (fa9.mono (fun x hx => by omega))) hY9
                        rw [show ((stY (wtL L t) 6).length :: stY (wtL L t) 6).length = SV by show (stY (wtL L t) 6).length + 1 = SV; omega] at h10
                        exact WX.ret1 rfl h10
                      · skip
                        have n_342 : (1 + n5) ≤ (1 + n6) := Nat.le_of_not_lt (fun zz_ => c_342 ((nI_ltI (a := 1 + n6) (b := 1 + n5) (by omega) (by omega)).mpr zz_))
                        refine WX.s1 rfl rfl ?_
                        refine WX.s1 rfl rfl ?_
                        refine WX.callC (vs := [.ref m, .int (nI 5)]) rfl rfl rfl (Nat.le_of_ble_eq_true rfl) (M_hL.rcv hm) ?_
                        refine m_bySt hm M_hL (by decide) (by decide) hws hWt hCt hMc (by rw [hwl]; exact K_IL_56) (fun h9 I9 A9 fr9 M_h9 fi9 fa9 hY9 => ?_)
                        have hne : bsN (wtL L t) ≠ 0 := by omega
                        have hbe : bsY (wtL L t) = stY (wtL L t) 5 := if_neg (by rw [← hn5, ← hn6]; omega)
                        have hle9 : bsN (wtL L t) = (stY (wtL L t) 5).length := by rw [← hn5]; omega
                        have hyes : dsY (wtL L t) = some ((stY (wtL L t) 5).length :: stY (wtL L t) 5) := by unfold dsY; rw [hwl, if_neg (by omega), if_neg hne, hbe, ← hle9]
                        refine WX.s1 rfl rfl ?_
                        refine WX.s1 rfl rfl ?_
                        have h10 := kkS _ hyes h9 I9 A9 (FR_hL.ztr fr9) M_h9 (FI_IL.zsub fi9 (fun j hj => Or.inl hj)) (FA_AL.ztr (fa9.mono (fun x hx => by omega))) hY9
                        rw [show ((stY (wtL L t) 5).length :: stY (wtL L t) 5).length = SV by show (stY (wtL L t) 5).length + 1 = SV; omega] at h10
                        exact WX.ret1 rfl h10
                    · skip
                      have n_256 : DV ≤ SV := Nat.le_of_not_lt (fun zz_ => c_256 ((nI_ltI (a := SV) (b := DV) (by omega) (by omega)).mpr zz_))
                      have hyes : dsY (wtL L t) = some (dirY (wtL L t)) := by unfold dsY; rw [hwl]; exact if_pos (by omega)
                      have hDV2 : DV = (dirY (wtL L t)).length := by rw [dirY_len, hwl]; omega
                      refine WX.s1 rfl rfl ?_
                      refine WX.callC (vs := [.ref m]) rfl rfl rfl (Nat.le_of_ble_eq_true rfl) (M_hL.rcv hm) ?_
                      refine m_beginV hm M_hL hMc (fun h260n301 I260n301 A260n301 fr260n301 M_h260n301 fi260n301 fa260n301 hB0 => ?_)
                      have FR_h260n301 := FR_hL.ztr fr260n301
                      have K_I260n301_56 : I260n301 56 = (nI (lsF L 255)) := (fi260n301 56 (by decide)).trans K_IL_56
                      have FI_I260n301 : Fi I I260n301 (fun f => f = 38 ∨ f = 56) := FI_IL.zsub fi260n301 (fun j hj => by first | exact hj | omega)
                      have FA_A260n301 : FaS AR A260n301 (fun b => b = 24 ∨ (26 ≤ b ∧ b ≤ 33) ∨ b = 39) := FA_AL.ztr (fa260n301.toS (by omega))
                      show WX _ _ _ 263 [(0, .ref m), (1, .int (nI t)), (2, .int (nI (cdF (wtL L t)).2)), (3, .int (nI DV)), (4, .int (nI (1 + n5))), (5, .int (nI (1 + n6))), (6, .int (nI SV))] [] (n, s, h260n301)
                      refine WX.s1 rfl rfl ?_
                      refine WX.s1 rfl rfl ?_
                      refine WX.s1 rfl rfl ?_
                      refine WX.mgetK (x := (nI (lsF L 255))) rfl hm M_h260n301 rfl K_I260n301_56 ?_
                      refine WX.s1 (S' := [.int (127 + (nI (lsF L 255))), .ref m]) rfl rfl ?_
                      rw [show (127 + (nI (lsF L 255))) = nI (127 + lsF L 255) from nI_add 127 (lsF L 255)]
                      refine WX.s1 rfl rfl ?_
                      refine WX.callC (vs := [.ref m, .int (nI (127 + (lsF L 255))), .int (nI 8)]) rfl rfl rfl (Nat.le_of_ble_eq_true rfl) (M_h260n301.rcv hm) ?_
                      refine m_putV hm M_h260n301 (c := 0) (w := 0) hB0 (by omega) (by decide) (by decide) (fun h273n302 I273n302 A273n302 fr273n302 M_h273n302 fi273n302 fa273n302 hB1 => ?_)
                      have FR_h273n302 := FR_h260n301.ztr fr273n302
                      have K_I273n302_56 : I273n302 56 = (nI (lsF L 255)) := (fi273n302 56 (by decide)).trans K_I260n301_56
                      have FI_I273n302 : Fi I I273n302 (fun f => f = 38 ∨ f = 56) := FI_I260n301.zsub fi273n302 (fun j hj => by first | exact hj | omega)
                      have FA_A273n302 : FaS AR A273n302 (fun b => b = 24 ∨ (26 ≤ b ∧ b ≤ 33) ∨ b = 39) := FA_A260n301.ztr (fa273n302.toS (by omega))
                      have hk128 : (lsF L 255) ≤ 128 := by omega
                      have hY0 : MadeY I273n302 A273n302 (dirP (wtL L t) 0) := by rw [show dirP (wtL L t) 0 = [] ++ leBy (127 + (lsF L 255)) 1 by rw [leBy_1 (by omega)]; show [127 + (wtL L t).length] = _; rw [hwl]; rfl]; exact MadeY.num (I := I) (A := AR) (y := []) (w := 0) (c := 0) rfl (by decide) (show 127 + (lsF L 255) < 2 ^ (8 * 1) by omega) rfl hB1
                      show WX _ _ _ 276 [(0, .ref m), (1, .int (nI t)), (2, .int (nI (cdF (wtL L t)).2)), (3, .int (nI DV)), (4, .int (nI (1 + n5))), (5, .int (nI (1 + n6))), (6, .int (nI SV))] [] (n, s, h273n302)
                      have hW39 : ∀ i, A273n302 39 i = AL 39 i := fun i => by rw [fa273n302 39 (by decide), fa260n301 39 (by decide)]
                      refine WX.s1 rfl rfl ?_
                      refine WX.s1 (L' := [(0, .ref m), (1, .int (nI t)), (2, .int (nI (cdF (wtL L t)).2)), (3, .int (nI DV)), (4, .int (nI (1 + n5))), (5, .int (nI (1 + n6))), (6, .int (nI SV)), (7, .int 0)]) rfl rfl ?_
                      have lp7 : ∀ (q j : Nat) (hL : Nat → aE) (IL : Nat → Int32) (AL : Nat → Nat → Int32), j + q = ((lsF L 255) + 1) / 2 → Fr h hL (inM m) → MAt hL m IL AL LN → Fi I IL (fun f => f = 38 ∨ f = 56) → FaS AR AL (fun b => b = 24 ∨ (26 ≤ b ∧ b ≤ 33) ∨ b = 39) → MadeY IL AL (dirP (wtL L t) j) → IL 56 = nI (lsF L 255) → WtM AL (wtL L t) → WX (lk tX12_describe) (mM (d + 3)) Ψ 279 [(0, .ref m), (1, .int (nI t)), (2, .int (nI (cdF (wtL L t)).2)), (3, .int (nI DV)), (4, .int (nI (1 + n5))), (5, .int (nI (1 + n6))), (6, .int (nI SV)), (7, .int (nI (2 * j)))] [] (n, s, hL) := by
                        have hk1_ := hk128
                        intro q
                        induction q with
                        | zero =>
                          intro j hL IL AL hjq FR_hL M_hL FI_IL FA_AL hY K_IL_56 hWt
                          refine WX.s1 rfl rfl ?_
                          refine WX.s1 rfl rfl ?_
                          refine WX.mgetK (x := (nI (lsF L 255))) rfl hm M_hL rfl K_IL_56 ?_
                          refine WX.icmp rfl (fun c_285 => ?_) (fun c_285 => absurd ((nI_leI (a := lsF L 255) (b := 2 * j) (by omega) (by omega)).mpr (by omega)) c_285)
                          clear c_285
                          refine WX.s1 rfl rfl ?_
                          rw [hDV2]
                          exact WX.ret1 rfl (kkS _ hyes hL IL AL FR_hL M_hL FI_IL FA_AL (by rw [show dirY (wtL L t) = dirP (wtL L t) j by unfold dirY dirP; rw [show j = ((wtL L t).length + 1) / 2 by omega]]; exact hY))
                        | succ q ih7 =>
                          intro j hL IL AL hjq FR_hL M_hL FI_IL FA_AL hY K_IL_56 hWt
                          obtain ⟨wv, hmv, hlv⟩ := hY
                          have hplen := dirP_len (wtL L t) j
                          rw [hplen] at hmv hlv
                          have b0 := hwle _ (getD_mem (show 2 * j < (wtL L t).length by omega))
                          obtain ⟨nx, hnx⟩ : ∃ q, q = if 2 * j + 1 < (lsF L 255) then (wtL L t).getD (2 * j + 1) 0 else 0 := ⟨_, rfl⟩
                          have hnx2 : nx ≤ 11 := by rw [hnx]; split; exact hwle _ (getD_mem (by omega)); omega
                          refine WX.s1 rfl rfl ?_
                          refine WX.s1 rfl rfl ?_
                          refine WX.mgetK (x := (nI (lsF L 255))) rfl hm M_hL rfl K_IL_56 ?_
                          refine WX.icmp rfl (fun c_285 => absurd c_285 (fun zz_ => absurd ((nI_leI (a := lsF L 255) (b := 2 * j) (by omega) (by omega)).mp zz_) (Nat.not_le.mpr (by omega)))) (fun c_285 => ?_)
                          clear c_285
                          have t313 : WX (lk tX12_describe) (mM (d + 3)) Ψ 313 [(0, .ref m), (1, .int (nI t)), (2, .int (nI (cdF (wtL L t)).2)), (3, .int (nI DV)), (4, .int (nI (1 + n5))), (5, .int (nI (1 + n6))), (6, .int (nI SV)), (7, .int (nI (2 * j)))] [.int (nI nx), .ref m] (n, s, hL) := by
                            refine WX.s1 rfl rfl ?_
                            refine WX.callC (vs := [.ref m, .int (nI nx), .int (nI 4)]) rfl rfl rfl (Nat.le_of_ble_eq_true rfl) (M_hL.rcv hm) ?_
                            refine m_putV hm M_hL hmv (by omega) (by decide) (by omega) (fun h314n403 I314n403 A314n403 fr314n403 M_h314n403 fi314n403 fa314n403 hP1 => ?_)
                            have FR_h314n403 := FR_hL.ztr fr314n403
                            have K_I314n403_56 : I314n403 56 = (nI (lsF L 255)) := (fi314n403 56 (by decide)).trans K_IL_56
                            have FI_I314n403 : Fi I I314n403 (fun f => f = 38 ∨ f = 56) := FI_IL.zsub fi314n403 (fun j hj => by first | exact hj | omega)
                            have FA_A314n403 : FaS AR A314n403 (fun b => b = 24 ∨ (26 ≤ b ∧ b ≤ 33) ∨ b = 39) := FA_AL.ztr (fa314n403.toS (by omega))
                            have hWtb : WtM A314n403 (wtL L t) := fun i hi => by rw [fa314n403 39 (by decide)]; exact hWt i hi
                            show WX _ _ _ 317 [(0, .ref m), (1, .int (nI t)), (2, .int (nI (cdF (wtL L t)).2)), (3, .int (nI DV)), (4, .int (nI (1 + n5))), (5, .int (nI (1 + n6))), (6, .int (nI SV)), (7, .int (nI (2 * j)))] [] (n, s, h314n403)
                            refine WX.s1 rfl rfl ?_
                            refine WX.s1 rfl rfl ?_
                            refine WX.mget rfl hm M_h314n403 rfl ?_
                            refine WX.s1 rfl rfl ?_
                            refine WX.mald (c := 39) rfl hm M_h314n403 (by decide) (by decide) (by decide) (by decide) (vp_in_nI (N := 257) (by omega) (by decide)) ?_
                            rw [nI_clamp (by omega), hWtb _ (by omega)]
                            refine WX.s1 rfl rfl ?_
                            refine WX.callC (vs := [.ref m, .int (nI ((wtL L t).getD (2 * j) 0)), .int (nI 4)]) rfl rfl rfl (Nat.le_of_ble_eq_true rfl) (M_h314n403.rcv hm) ?_
                            refine m_putV hm M_h314n403 hP1 (by omega) (by decide) (by omega) (fun h326n404 I326n404 A326n404 fr326n404 M_h326n404 fi326n404 fa326n404 hP2 => ?_)
                            have FR_h326n404 := FR_h314n403.ztr fr326n404
                            have K_I326n404_56 : I326n404 56 = (nI (lsF L 255)) := (fi326n404 56 (by decide)).trans K_I314n403_56
                            have FI_I326n404 : Fi I I326n404 (fun f => f = 38 ∨ f = 56) := FI_I314n403.zsub fi326n404 (fun j hj => by first | exact hj | omega)
                            have FA_A326n404 : FaS AR A326n404 (fun b => b = 24 ∨ (26 ≤ b ∧ b ≤ 33) ∨ b = 39) := FA_A314n403.ztr (fa326n404.toS (by omega))
                            have hWtc : WtM A326n404 (wtL L t) := fun i hi => by rw [fa326n404 39 (by decide)]; exact hWtb i hi
                            have hY9 : MadeY I326n404 A326n404 (dirP (wtL L t) (j + 1)) := by
                              rw [dirP_s, hwl, ← hnx, ← leBy_1 (show 16 * (wtL L t).getD (2 * j) 0 + nx < 256 by omega)]
                              refine MadeY.num (I := I) (A := AR) (c := 8 * (j + 1)) (by rw [hplen]; exact hlv) (by rw [hplen]; exact hmv.2.2.1) (show 16 * (wtL L t).getD (2 * j) 0 + nx < 2 ^ (8 * 1) by omega) (by rw [hplen]) ?_
                              have ev := nib (w := wv) (a := 8 * (j + 1)) (x := nx) (y := (wtL L t).getD (2 * j) 0) (by omega) (by omega)
                              rw [← ev]
                              exact hP2
                            show WX _ _ _ 329 [(0, .ref m), (1, .int (nI t)), (2, .int (nI (cdF (wtL L t)).2)), (3, .int (nI DV)), (4, .int (nI (1 + n5))), (5, .int (nI (1 + n6))), (6, .int (nI SV)), (7, .int (nI (2 * j)))] [] (n, s, h326n404)
                            refine WX.s1 (L' := [(0, .ref m), (1, .int (nI t)), (2, .int (nI (cdF (wtL L t)).2)), (3, .int (nI DV)), (4, .int (nI (1 + n5))), (5, .int (nI (1 + n6))), (6, .int (nI SV)), (7, .int ((nI (2 * j)) + 2))]) rfl rfl ?_
                            rw [show ((nI (2 * j)) + 2) = nI (2 * j + 2) from nI_add (2 * j) 2]
                            rw [show nI (2 * j + 2) = nI (2 * (j + 1)) from congrArg nI (by omega)]
                            refine WX.s1 rfl rfl ?_
                            exact ih7 (j + 1) h326n404 I326n404 A326n404 (by omega) FR_h326n404 M_h326n404 FI_I326n404 FA_A326n404 hY9 K_I326n404_56 hWtc
                          refine WX.s1 rfl rfl ?_
                          refine WX.s1 rfl rfl ?_
                          refine WX.s1 rfl rfl ?_
                          refine WX.s1 (S' := [.int ((nI (2 * j)) + 1), .ref m]) rfl rfl ?_
                          rw [show ((nI (2 * j)) + 1) = nI (2 * j + 1) from nI_add (2 * j) 1]
                          refine WX.s1 rfl rfl ?_
                          refine WX.mgetK (x := (nI (lsF L 255))) rfl hm M_hL rfl K_IL_56 ?_
                          refine WX.icmp rfl (fun c_297 => ?_) (fun c_297 => ?_)
                          · skip
                            have n_297 : (lsF L 255) ≤ (2 * j + 1) := (nI_leI (a := lsF L 255) (b := 2 * j + 1) (by omega) (by omega)).mp c_297
                            refine WX.s1 rfl rfl ?_
                            rw [show nx = 0 by rw [hnx, if_neg (by omega)]] at t313
                            exact t313
                          · skip
                            have n_297 : (2 * j + 1) < (lsF L 255) := Nat.lt_of_not_le (fun zz_ => c_297 ((nI_leI (a := lsF L 255) (b := 2 * j + 1) (by omega) (by omega)).mpr zz_))
                            refine WX.s1 rfl rfl ?_
                            refine WX.mget rfl hm M_hL rfl ?_
                            refine WX.s1 rfl rfl ?_
                            refine WX.s1 rfl rfl ?_
                            refine WX.s1 (S' := [.int ((nI (2 * j)) + 1), .ref (m + 39), .ref m]) rfl rfl ?_
                            rw [show ((nI (2 * j)) + 1) = nI (2 * j + 1) from nI_add (2 * j) 1]
                            refine WX.mald (c := 39) rfl hm M_hL (by decide) (by decide) (by decide) (by decide) (vp_in_nI (N := 257) (by omega) (by decide)) ?_
                            rw [nI_clamp (by omega), hWt _ (by omega)]
                            refine WX.s1 rfl rfl ?_
                            rw [show nx = (wtL L t).getD (2 * j + 1) 0 by rw [hnx, if_pos n_297]] at t313
                            exact t313
                      exact lp7 (((lsF L 255) + 1) / 2) 0 h273n302 I273n302 A273n302 (by omega) FR_h273n302 M_h273n302 FI_I273n302 FA_A273n302 hY0 K_I273n302_56 (fun i hi => (hW39 i).trans (hWt i hi))
                  · skip
                    have n_239 : DV = 9999 := (nI_eq (a := DV) (b := 9999) (by omega) (by omega)).mp (Classical.not_not.mp c_239)
                    refine WX.s1 rfl rfl ?_
                    refine WX.s1 rfl rfl ?_
                    refine WX.icmp rfl (fun c_247 => ?_) (fun c_247 => ?_)
                    · skip
                      have n_247 : ¬ SV = 9999 := fun zz_ => c_247 ((nI_eq (a := SV) (b := 9999) (by omega) (by omega)).mpr zz_)
                      have hny : ¬ (DV = 9999 ∧ SV = 9999) := by omega
                      refine WX.s1 rfl rfl ?_
                      refine WX.s1 rfl rfl ?_
                      refine WX.icmp rfl (fun c_256 => ?_) (fun c_256 => ?_)
                      · skip
                        have n_256 : SV < DV := (nI_ltI (a := SV) (b := DV) (by omega) (by omega)).mp c_256
                        refine WX.s1 rfl rfl ?_
                        refine WX.s1 rfl rfl ?_
                        refine WX.s1 rfl rfl ?_
                        refine WX.icmp rfl (fun c_342 => ?_) (fun c_342 => ?_)
                        · skip
                          have n_342 : (1 + n6) < (1 + n5) := (nI_ltI (a := 1 + n6) (b := 1 + n5) (by omega) (by omega)).mp c_342
                          refine WX.s1 rfl rfl ?_
                          refine WX.callC (vs := [.ref m, .int (nI 6)]) rfl rfl rfl (Nat.le_of_ble_eq_true rfl) (M_hL.rcv hm) ?_
                          refine m_bySt hm M_hL (by decide) (by decide) hws hWt hCt hMc (by rw [hwl]; exact K_IL_56) (fun h9 I9 A9 fr9 M_h9 fi9 fa9 hY9 => ?_)
                          have hne : bsN (wtL L t) ≠ 0 := by omega
                          have hbe : bsY (wtL L t) = stY (wtL L t) 6 := if_pos (by rw [← hn5, ← hn6]; omega)
                          have hle9 : bsN (wtL L t) = (stY (wtL L t) 6).length := by rw [← hn6]; omega
                          have hyes : dsY (wtL L t) = some ((stY (wtL L t) 6).length :: stY (wtL L t) 6) := by unfold dsY; rw [hwl, if_neg (by omega), if_neg hne, hbe, ← hle9]
                          refine WX.s1 rfl rfl ?_
                          refine WX.s1 rfl rfl ?_
                          have h10 := kkS _ hyes h9 I9 A9 (FR_hL.ztr fr9) M_h9 (FI_IL.zsub fi9 (fun j hj => Or.inl hj)) (FA_AL.ztr (fa9.mono (fun x hx => by omega))) hY9
                          rw [show ((stY (wtL L t) 6).length :: stY (wtL L t) 6).length = SV by show (stY (wtL L t) 6).length + 1 = SV; omega] at h10
                          exact WX.ret1 rfl h10
                        · skip
                          have n_342 : (1 + n5) ≤ (1 + n6) := Nat.le_of_not_lt (fun zz_ => c_342 ((nI_ltI (a := 1 + n6) (b := 1 + n5) (by omega) (by omega)).mpr zz_))
                          refine WX.s1 rfl rfl ?_
                          refine WX.s1 rfl rfl ?_
                          refine WX.callC (vs := [.ref m, .int (nI 5)]) rfl rfl rfl (Nat.le_of_ble_eq_true rfl) (M_hL.rcv hm) ?_
                          refine m_bySt hm M_hL (by decide) (by decide) hws hWt hCt hMc (by rw [hwl]; exact K_IL_56) (fun h9 I9 A9 fr9 M_h9 fi9 fa9 hY9 => ?_)
                          have hne : bsN (wtL L t) ≠ 0 := by omega
                          have hbe : bsY (wtL L t) = stY (wtL L t) 5 := if_neg (by rw [← hn5, ← hn6]; omega)
                          have hle9 : bsN (wtL L t) = (stY (wtL L t) 5).length := by rw [← hn5]; omega
                          have hyes : dsY (wtL L t) = some ((stY (wtL L t) 5).length :: stY (wtL L t) 5) := by unfold dsY; rw [hwl, if_neg (by omega), if_neg hne, hbe, ← hle9]
                          refine WX.s1 rfl rfl ?_
                          refine WX.s1 rfl rfl ?_
                          have h10 := kkS _ hyes h9 I9 A9 (FR_hL.ztr fr9) M_h9 (FI_IL.zsub fi9 (fun j hj => Or.inl hj)) (FA_AL.ztr (fa9.mono (fun x hx => by omega))) hY9
                          rw [show ((stY (wtL L t) 5).length :: stY (wtL L t) 5).length = SV by show (stY (wtL L t) 5).length + 1 = SV; omega] at h10
                          exact WX.ret1 rfl h10
                      · skip
                        have n_256 : DV ≤ SV := Nat.le_of_not_lt (fun zz_ => c_256 ((nI_ltI (a := SV) (b := DV) (by omega) (by omega)).mpr zz_))
                        have hyes : dsY (wtL L t) = some (dirY (wtL L t)) := by unfold dsY; rw [hwl]; exact if_pos (by omega)
                        have hDV2 : DV = (dirY (wtL L t)).length := by rw [dirY_len, hwl]; omega
                        refine WX.s1 rfl rfl ?_
                        refine WX.callC (vs := [.ref m]) rfl rfl rfl (Nat.le_of_ble_eq_true rfl) (M_hL.rcv hm) ?_
                        refine m_beginV hm M_hL hMc (fun h260n405 I260n405 A260n405 fr260n405 M_h260n405 fi260n405 fa260n405 hB0 => ?_)
                        have FR_h260n405 := FR_hL.ztr fr260n405
                        have K_I260n405_56 : I260n405 56 = (nI (lsF L 255)) := (fi260n405 56 (by decide)).trans K_IL_56
                        have FI_I260n405 : Fi I I260n405 (fun f => f = 38 ∨ f = 56) := FI_IL.zsub fi260n405 (fun j hj => by first | exact hj | omega)
                        have FA_A260n405 : FaS AR A260n405 (fun b => b = 24 ∨ (26 ≤ b ∧ b ≤ 33) ∨ b = 39) := FA_AL.ztr (fa260n405.toS (by omega))
                        show WX _ _ _ 263 [(0, .ref m), (1, .int (nI t)), (2, .int (nI (cdF (wtL L t)).2)), (3, .int (nI DV)), (4, .int (nI (1 + n5))), (5, .int (nI (1 + n6))), (6, .int (nI SV))] [] (n, s, h260n405)
                        refine WX.s1 rfl rfl ?_
                        refine WX.s1 rfl rfl ?_
                        refine WX.s1 rfl rfl ?_
                        refine WX.mgetK (x := (nI (lsF L 255))) rfl hm M_h260n405 rfl K_I260n405_56 ?_
                        refine WX.s1 (S' := [.int (127 + (nI (lsF L 255))), .ref m]) rfl rfl ?_
                        rw [show (127 + (nI (lsF L 255))) = nI (127 + lsF L 255) from nI_add 127 (lsF L 255)]
                        refine WX.s1 rfl rfl ?_
                        refine WX.callC (vs := [.ref m, .int (nI (127 + (lsF L 255))), .int (nI 8)]) rfl rfl rfl (Nat.le_of_ble_eq_true rfl) (M_h260n405.rcv hm) ?_
                        refine m_putV hm M_h260n405 (c := 0) (w := 0) hB0 (by omega) (by decide) (by decide) (fun h273n406 I273n406 A273n406 fr273n406 M_h273n406 fi273n406 fa273n406 hB1 => ?_)
                        have FR_h273n406 := FR_h260n405.ztr fr273n406
                        have K_I273n406_56 : I273n406 56 = (nI (lsF L 255)) := (fi273n406 56 (by decide)).trans K_I260n405_56
                        have FI_I273n406 : Fi I I273n406 (fun f => f = 38 ∨ f = 56) := FI_I260n405.zsub fi273n406 (fun j hj => by first | exact hj | omega)
                        have FA_A273n406 : FaS AR A273n406 (fun b => b = 24 ∨ (26 ≤ b ∧ b ≤ 33) ∨ b = 39) := FA_A260n405.ztr (fa273n406.toS (by omega))
                        have hk128 : (lsF L 255) ≤ 128 := by omega
                        have hY0 : MadeY I273n406 A273n406 (dirP (wtL L t) 0) := by rw [show dirP (wtL L t) 0 = [] ++ leBy (127 + (lsF L 255)) 1 by rw [leBy_1 (by omega)]; show [127 + (wtL L t).length] = _; rw [hwl]; rfl]; exact MadeY.num (I := I) (A := AR) (y := []) (w := 0) (c := 0) rfl (by decide) (show 127 + (lsF L 255) < 2 ^ (8 * 1) by omega) rfl hB1
                        show WX _ _ _ 276 [(0, .ref m), (1, .int (nI t)), (2, .int (nI (cdF (wtL L t)).2)), (3, .int (nI DV)), (4, .int (nI (1 + n5))), (5, .int (nI (1 + n6))), (6, .int (nI SV))] [] (n, s, h273n406)
                        have hW39 : ∀ i, A273n406 39 i = AL 39 i := fun i => by rw [fa273n406 39 (by decide), fa260n405 39 (by decide)]
                        refine WX.s1 rfl rfl ?_
                        refine WX.s1 (L' := [(0, .ref m), (1, .int (nI t)), (2, .int (nI (cdF (wtL L t)).2)), (3, .int (nI DV)), (4, .int (nI (1 + n5))), (5, .int (nI (1 + n6))), (6, .int (nI SV)), (7, .int 0)]) rfl rfl ?_
                        have lp7 : ∀ (q j : Nat) (hL : Nat → aE) (IL : Nat → Int32) (AL : Nat → Nat → Int32), j + q = ((lsF L 255) + 1) / 2 → Fr h hL (inM m) → MAt hL m IL AL LN → Fi I IL (fun f => f = 38 ∨ f = 56) → FaS AR AL (fun b => b = 24 ∨ (26 ≤ b ∧ b ≤ 33) ∨ b = 39) → MadeY IL AL (dirP (wtL L t) j) → IL 56 = nI (lsF L 255) → WtM AL (wtL L t) → WX (lk tX12_describe) (mM (d + 3)) Ψ 279 [(0, .ref m), (1, .int (nI t)), (2, .int (nI (cdF (wtL L t)).2)), (3, .int (nI DV)), (4, .int (nI (1 + n5))), (5, .int (nI (1 + n6))), (6, .int (nI SV)), (7, .int (nI (2 * j)))] [] (n, s, hL) := by
                          have hk1_ := hk128
                          intro q
                          induction q with
                          | zero =>
                            intro j hL IL AL hjq FR_hL M_hL FI_IL FA_AL hY K_IL_56 hWt
                            refine WX.s1 rfl rfl ?_
                            refine WX.s1 rfl rfl ?_
                            refine WX.mgetK (x := (nI (lsF L 255))) rfl hm M_hL rfl K_IL_56 ?_
                            refine WX.icmp rfl (fun c_285 => ?_) (fun c_285 => absurd ((nI_leI (a := lsF L 255) (b := 2 * j) (by omega) (by omega)).mpr (by omega)) c_285)
                            clear c_285
                            refine WX.s1 rfl rfl ?_
                            rw [hDV2]
                            exact WX.ret1 rfl (kkS _ hyes hL IL AL FR_hL M_hL FI_IL FA_AL (by rw [show dirY (wtL L t) = dirP (wtL L t) j by unfold dirY dirP; rw [show j = ((wtL L t).length + 1) / 2 by omega]]; exact hY))
                          | succ q ih7 =>
                            intro j hL IL AL hjq FR_hL M_hL FI_IL FA_AL hY K_IL_56 hWt
                            obtain ⟨wv, hmv, hlv⟩ := hY
                            have hplen := dirP_len (wtL L t) j
                            rw [hplen] at hmv hlv
                            have b0 := hwle _ (getD_mem (show 2 * j < (wtL L t).length by omega))
                            obtain ⟨nx, hnx⟩ : ∃ q, q = if 2 * j + 1 < (lsF L 255) then (wtL L t).getD (2 * j + 1) 0 else 0 := ⟨_, rfl⟩
                            have hnx2 : nx ≤ 11 := by rw [hnx]; split; exact hwle _ (getD_mem (by omega)); omega
                            refine WX.s1 rfl rfl ?_
                            refine WX.s1 rfl rfl ?_
                            refine WX.mgetK (x := (nI (lsF L 255))) rfl hm M_hL rfl K_IL_56 ?_
                            refine WX.icmp rfl (fun c_285 => absurd c_285 (fun zz_ => absurd ((nI_leI (a := lsF L 255) (b := 2 * j) (by omega) (by omega)).mp zz_) (Nat.not_le.mpr (by omega)))) (fun c_285 => ?_)
                            clear c_285
                            have t313 : WX (lk tX12_describe) (mM (d + 3)) Ψ 313 [(0, .ref m), (1, .int (nI t)), (2, .int (nI (cdF (wtL L t)).2)), (3, .int (nI DV)), (4, .int (nI (1 + n5))), (5, .int (nI (1 + n6))), (6, .int (nI SV)), (7, .int (nI (2 * j)))] [.int (nI nx), .ref m] (n, s, hL) := by
                              refine WX.s1 rfl rfl ?_
                              refine WX.callC (vs := [.ref m, .int (nI nx), .int (nI 4)]) rfl rfl rfl (Nat.le_of_ble_eq_true rfl) (M_hL.rcv hm) ?_
                              refine m_putV hm M_hL hmv (by omega) (by decide) (by omega) (fun h314n507 I314n507 A314n507 fr314n507 M_h314n507 fi314n507 fa314n507 hP1 => ?_)
                              have FR_h314n507 := FR_hL.ztr fr314n507
                              have K_I314n507_56 : I314n507 56 = (nI (lsF L 255)) := (fi314n507 56 (by decide)).trans K_IL_56
                              have FI_I314n507 : Fi I I314n507 (fun f => f = 38 ∨ f = 56) := FI_IL.zsub fi314n507 (fun j hj => by first | exact hj | omega)
                              have FA_A314n507 : FaS AR A314n507 (fun b => b = 24 ∨ (26 ≤ b ∧ b ≤ 33) ∨ b = 39) := FA_AL.ztr (fa314n507.toS (by omega))
                              have hWtb : WtM A314n507 (wtL L t) := fun i hi => by rw [fa314n507 39 (by decide)]; exact hWt i hi
                              show WX _ _ _ 317 [(0, .ref m), (1, .int (nI t)), (2, .int (nI (cdF (wtL L t)).2)), (3, .int (nI DV)), (4, .int (nI (1 + n5))), (5, .int (nI (1 + n6))), (6, .int (nI SV)), (7, .int (nI (2 * j)))] [] (n, s, h314n507)
                              refine WX.s1 rfl rfl ?_
                              refine WX.s1 rfl rfl ?_
                              refine WX.mget rfl hm M_h314n507 rfl ?_
                              refine WX.s1 rfl rfl ?_
                              refine WX.mald (c := 39) rfl hm M_h314n507 (by decide) (by decide) (by decide) (by decide) (vp_in_nI (N := 257) (by omega) (by decide)) ?_
                              rw [nI_clamp (by omega), hWtb _ (by omega)]
                              refine WX.s1 rfl rfl ?_
                              refine WX.callC (vs := [.ref m, .int (nI ((wtL L t).getD (2 * j) 0)), .int (nI 4)]) rfl rfl rfl (Nat.le_of_ble_eq_true rfl) (M_h314n507.rcv hm) ?_
                              refine m_putV hm M_h314n507 hP1 (by omega) (by decide) (by omega) (fun h326n508 I326n508 A326n508 fr326n508 M_h326n508 fi326n508 fa326n508 hP2 => ?_)
                              have FR_h326n508 := FR_h314n507.ztr fr326n508
                              have K_I326n508_56 : I326n508 56 = (nI (lsF L 255)) := (fi326n508 56 (by decide)).trans K_I314n507_56
                              have FI_I326n508 : Fi I I326n508 (fun f => f = 38 ∨ f = 56) := FI_I314n507.zsub fi326n508 (fun j hj => by first | exact hj | omega)
                              have FA_A326n508 : FaS AR A326n508 (fun b => b = 24 ∨ (26 ≤ b ∧ b ≤ 33) ∨ b = 39) := FA_A314n507.ztr (fa326n508.toS (by omega))
                              have hWtc : WtM A326n508 (wtL L t) := fun i hi => by rw [fa326n508 39 (by decide)]; exact hWtb i hi
                              have hY9 : MadeY I326n508 A326n508 (dirP (wtL L t) (j + 1)) := by
                                rw [dirP_s, hwl, ← hnx, ← leBy_1 (show 16 * (wtL L t).getD (2 * j) 0 + nx < 256 by omega)]
                                refine MadeY.num (I := I) (A := AR) (c := 8 * (j + 1)) (by rw [hplen]; exact hlv) (by rw [hplen]; exact hmv.2.2.1) (show 16 * (wtL L t).getD (2 * j) 0 + nx < 2 ^ (8 * 1) by omega) (by rw [hplen]) ?_
                                have ev := nib (w := wv) (a := 8 * (j + 1)) (x := nx) (y := (wtL L t).getD (2 * j) 0) (by omega) (by omega)
                                rw [← ev]
                                exact hP2
                              show WX _ _ _ 329 [(0, .ref m), (1, .int (nI t)), (2, .int (nI (cdF (wtL L t)).2)), (3, .int (nI DV)), (4, .int (nI (1 + n5))), (5, .int (nI (1 + n6))), (6, .int (nI SV)), (7, .int (nI (2 * j)))] [] (n, s, h326n508)
                              refine WX.s1 (L' := [(0, .ref m), (1, .int (nI t)), (2, .int (nI (cdF (wtL L t)).2)), (3, .int (nI DV)), (4, .int (nI (1 + n5))), (5, .int (nI (1 + n6))), (6, .int (nI SV)), (7, .int ((nI (2 * j)) + 2))]) rfl rfl ?_
                              rw [show ((nI (2 * j)) + 2) = nI (2 * j + 2) from nI_add (2 * j) 2]
                              rw [show nI (2 * j + 2) = nI (2 * (j + 1)) from congrArg nI (by omega)]
                              refine WX.s1 rfl rfl ?_
                              exact ih7 (j + 1) h326n508 I326n508 A326n508 (by omega) FR_h326n508 M_h326n508 FI_I326n508 FA_A326n508 hY9 K_I326n508_56 hWtc
                            refine WX.s1 rfl rfl ?_
                            refine WX.s1 rfl rfl ?_
                            refine WX.s1 rfl rfl ?_
                            refine WX.s1 (S' := [.int ((nI (2 * j)) + 1), .ref m]) rfl rfl ?_
                            rw [show ((nI (2 * j)) + 1) = nI (2 * j + 1) from nI_add (2 * j) 1]
                            refine WX.s1 rfl rfl ?_
                            refine WX.mgetK (x := (nI (lsF L 255))) rfl hm M_hL rfl K_IL_56 ?_
                            refine WX.icmp rfl (fun c_297 => ?_) (fun c_297 => ?_)
                            · skip
                              have n_297 : (lsF L 255) ≤ (2 * j + 1) := (nI_leI (a := lsF L 255) (b := 2 * j + 1) (by omega) (by omega)).mp c_297
                              refine WX.s1 rfl rfl ?_
                              rw [show nx = 0 by rw [hnx, if_neg (by omega)]] at t313
                              exact t313
                            · skip
                              have n_297 : (2 * j + 1) < (lsF L 255) := Nat.lt_of_not_le (fun zz_ => c_297 ((nI_leI (a := lsF L 255) (b := 2 * j + 1) (by omega) (by omega)).mpr zz_))
                              refine WX.s1 rfl rfl ?_
                              refine WX.mget rfl hm M_hL rfl ?_
                              refine WX.s1 rfl rfl ?_
                              refine WX.s1 rfl rfl ?_
                              refine WX.s1 (S' := [.int ((nI (2 * j)) + 1), .ref (m + 39), .ref m]) rfl rfl ?_
                              rw [show ((nI (2 * j)) + 1) = nI (2 * j + 1) from nI_add (2 * j) 1]
                              refine WX.mald (c := 39) rfl hm M_hL (by decide) (by decide) (by decide) (by decide) (vp_in_nI (N := 257) (by omega) (by decide)) ?_
                              rw [nI_clamp (by omega), hWt _ (by omega)]
                              refine WX.s1 rfl rfl ?_
                              rw [show nx = (wtL L t).getD (2 * j + 1) 0 by rw [hnx, if_pos n_297]] at t313
                              exact t313
                        exact lp7 (((lsF L 255) + 1) / 2) 0 h273n406 I273n406 A273n406 (by omega) FR_h273n406 M_h273n406 FI_I273n406 FA_A273n406 hY0 K_I273n406_56 (fun i hi => (hW39 i).trans (hWt i hi))
                    · skip
                      have n_247 : SV = 9999 := (nI_eq (a := SV) (b := 9999) (by omega) (by omega)).mp (Classical.not_not.mp c_247)
                      have hno : dsY (wtL L t) = none := by unfold dsY; rw [hwl, if_neg (by omega), if_pos (by omega)]
                      refine WX.s1 rfl rfl ?_
                      exact WX.ret1 rfl (kkN hno hL IL AL c w FR_hL M_hL FI_IL FA_AL hMc)
                have t148 : WX (lk tX12_describe) (mM (d + 3)) Ψ 148 [(0, .ref m), (1, .int (nI t)), (2, .int (nI (cdF (wtL L t)).2)), (3, .int (nI DV))] [] (n, s, hM_) := by
                  refine WX.s1 rfl rfl ?_
                  refine WX.s1 rfl rfl ?_
                  refine WX.icmp rfl (fun c_150 => absurd c_150 (fun zz_ => absurd ((nI_ltI (a := (cdF (wtL L t)).2) (b := 2) (by omega) (by omega)).mp zz_) (Nat.not_lt.mpr (by omega)))) (fun c_150 => ?_)
                  clear c_150
                  refine WX.s1 rfl rfl ?_
                  refine WX.mgetK (x := (nI (lsF L 255))) rfl hm M_hM_ rfl K_IL_56 ?_
                  refine WX.s1 rfl rfl ?_
                  refine WX.icmp rfl (fun c_158 => ?_) (fun c_158 => absurd ((nI_leI (a := 2) (b := lsF L 255) (by omega) (by omega)).mpr (by omega)) c_158)
                  clear c_158
                  refine WX.s1 rfl rfl ?_
                  refine WX.s1 rfl rfl ?_
                  refine WX.callC (vs := [.ref m, .int (nI 5)]) rfl rfl rfl (Nat.le_of_ble_eq_true rfl) (M_hM_.rcv hm) ?_
                  refine m_bySt hm M_hM_ (by decide) (by decide) hws hWt hCt hMc (by rw [hwl]; exact K_IL_56) (fun h169n501 I169n501 A169n501 fr169n501 M_h169n501 fi169n501 fa169n501 hY5 => ?_)
                  have FR_h169n501 := FR_hM_.ztr fr169n501
                  have K_I169n501_56 : I169n501 56 = (nI (lsF L 255)) := (fi169n501 56 (by decide)).trans K_IL_56
                  have FI_I169n501 : Fi I I169n501 (fun f => f = 38 ∨ f = 56) := FI_IL.zsub fi169n501 (fun j hj => by first | exact hj | omega)
                  have FA_A169n501 : FaS AR A169n501 (fun b => b = 24 ∨ (26 ≤ b ∧ b ≤ 33) ∨ b = 39) := FA_AM.ztr (fa169n501.mono (fun x hx => by omega))
                  obtain ⟨w5, hM5, -⟩ := hY5
                  have hWt5 : WtM A169n501 (wtL L t) := fun i hi => by rw [fa169n501 39 (by decide)]; exact hWt i hi
                  have hCt5 : CntM A169n501 (cdF (wtL L t)).1 := fun s hs => by rw [fa169n501 33 (by decide)]; exact hCt s hs
                  show WX _ _ _ 172 [(0, .ref m), (1, .int (nI t)), (2, .int (nI (cdF (wtL L t)).2)), (3, .int (nI DV))] [.int (nI (1 + (stY (wtL L t) 5).length))] (n, s, h169n501)
                  rw [← hn5]
                  refine WX.s1 (L' := [(0, .ref m), (1, .int (nI t)), (2, .int (nI (cdF (wtL L t)).2)), (3, .int (nI DV)), (4, .int (nI (1 + n5)))]) rfl rfl ?_
                  refine WX.s1 rfl rfl ?_
                  refine WX.s1 rfl rfl ?_
                  refine WX.icmp rfl (fun c_176 => absurd c_176 (fun zz_ => absurd ((nI_ltI (a := (cdF (wtL L t)).2) (b := 2) (by omega) (by omega)).mp zz_) (Nat.not_lt.mpr (by omega)))) (fun c_176 => ?_)
                  clear c_176
                  refine WX.s1 rfl rfl ?_
                  refine WX.mgetK (x := (nI (lsF L 255))) rfl hm M_h169n501 rfl K_I169n501_56 ?_
                  refine WX.s1 rfl rfl ?_
                  refine WX.icmp rfl (fun c_184 => ?_) (fun c_184 => absurd ((nI_leI (a := 2) (b := lsF L 255) (by omega) (by omega)).mpr (by omega)) c_184)
                  clear c_184
                  refine WX.s1 rfl rfl ?_
                  refine WX.s1 rfl rfl ?_
                  refine WX.callC (vs := [.ref m, .int (nI 6)]) rfl rfl rfl (Nat.le_of_ble_eq_true rfl) (M_h169n501.rcv hm) ?_
                  refine m_bySt hm M_h169n501 (by decide) (by decide) hws hWt5 hCt5 hM5 (by rw [hwl]; exact K_I169n501_56) (fun h196n502 I196n502 A196n502 fr196n502 M_h196n502 fi196n502 fa196n502 hY6 => ?_)
                  have FR_h196n502 := FR_h169n501.ztr fr196n502
                  have K_I196n502_56 : I196n502 56 = (nI (lsF L 255)) := (fi196n502 56 (by decide)).trans K_I169n501_56
                  have FI_I196n502 : Fi I I196n502 (fun f => f = 38 ∨ f = 56) := FI_I169n501.zsub fi196n502 (fun j hj => by first | exact hj | omega)
                  have FA_A196n502 : FaS AR A196n502 (fun b => b = 24 ∨ (26 ≤ b ∧ b ≤ 33) ∨ b = 39) := FA_A169n501.ztr (fa196n502.mono (fun x hx => by omega))
                  obtain ⟨w6, hM6, -⟩ := hY6
                  have hWt6 : WtM A196n502 (wtL L t) := fun i hi => by rw [fa196n502 39 (by decide)]; exact hWt5 i hi
                  have hCt6 : CntM A196n502 (cdF (wtL L t)).1 := fun s hs => by rw [fa196n502 33 (by decide)]; exact hCt5 s hs
                  show WX _ _ _ 199 [(0, .ref m), (1, .int (nI t)), (2, .int (nI (cdF (wtL L t)).2)), (3, .int (nI DV)), (4, .int (nI (1 + n5)))] [.int (nI (1 + (stY (wtL L t) 6).length))] (n, s, h196n502)
                  rw [← hn6]
                  refine WX.s1 (L' := [(0, .ref m), (1, .int (nI t)), (2, .int (nI (cdF (wtL L t)).2)), (3, .int (nI DV)), (4, .int (nI (1 + n5))), (5, .int (nI (1 + n6)))]) rfl rfl ?_
                  refine WX.s1 rfl rfl ?_
                  refine WX.s1 rfl rfl ?_
                  refine WX.icmp rfl (fun c_205 => ?_) (fun c_205 => ?_)
                  · skip
                    have n_205 : (1 + n6) ≤ (1 + n5) := (nI_leI (a := 1 + n6) (b := 1 + n5) (by omega) (by omega)).mp c_205
                    refine WX.s1 rfl rfl ?_
                    refine WX.s1 (L' := [(0, .ref m), (1, .int (nI t)), (2, .int (nI (cdF (wtL L t)).2)), (3, .int (nI DV)), (4, .int (nI (1 + n5))), (5, .int (nI (1 + n6))), (6, .int (nI (1 + n6)))]) rfl rfl ?_
                    refine WX.s1 rfl rfl ?_
                    refine WX.s1 rfl rfl ?_
                    refine WX.icmp rfl (fun c_222 => ?_) (fun c_222 => ?_)
                    · skip
                      have n_222 : (1 + n6) ≤ 128 := (nI_leI (a := 1 + n6) (b := 128) (by omega) (by omega)).mp c_222
                      refine WX.s1 rfl rfl ?_
                      refine WX.s1 (L' := [(0, .ref m), (1, .int (nI t)), (2, .int (nI (cdF (wtL L t)).2)), (3, .int (nI DV)), (4, .int (nI (1 + n5))), (5, .int (nI (1 + n6))), (6, .int (nI (1 + n6)))]) rfl rfl ?_
                      have hs9 : SV = 1 + n6 := by omega
                      rw [hs9] at t235
                      exact t235 h196n502 I196n502 A196n502 _ _ FR_h196n502 M_h196n502 FI_I196n502 FA_A196n502 hM6 K_I196n502_56 hWt6 hCt6
                    · skip
                      have n_222 : 128 < (1 + n6) := Nat.lt_of_not_le (fun zz_ => c_222 ((nI_leI (a := 1 + n6) (b := 128) (by omega) (by omega)).mpr zz_))
                      refine WX.s1 rfl rfl ?_
                      refine WX.s1 rfl rfl ?_
                      refine WX.s1 (L' := [(0, .ref m), (1, .int (nI t)), (2, .int (nI (cdF (wtL L t)).2)), (3, .int (nI DV)), (4, .int (nI (1 + n5))), (5, .int (nI (1 + n6))), (6, .int 9999)]) rfl rfl ?_
                      have hs9 : SV = 9999 := by omega
                      rw [hs9] at t235
                      exact t235 h196n502 I196n502 A196n502 _ _ FR_h196n502 M_h196n502 FI_I196n502 FA_A196n502 hM6 K_I196n502_56 hWt6 hCt6
                  · skip
                    have n_205 : (1 + n5) < (1 + n6) := Nat.lt_of_not_le (fun zz_ => c_205 ((nI_leI (a := 1 + n6) (b := 1 + n5) (by omega) (by omega)).mpr zz_))
                    refine WX.s1 rfl rfl ?_
                    refine WX.s1 rfl rfl ?_
                    refine WX.s1 (L' := [(0, .ref m), (1, .int (nI t)), (2, .int (nI (cdF (wtL L t)).2)), (3, .int (nI DV)), (4, .int (nI (1 + n5))), (5, .int (nI (1 + n6))), (6, .int (nI (1 + n5)))]) rfl rfl ?_
                    refine WX.s1 rfl rfl ?_
                    refine WX.s1 rfl rfl ?_
                    refine WX.icmp rfl (fun c_222 => ?_) (fun c_222 => ?_)
                    · skip
                      have n_222 : (1 + n5) ≤ 128 := (nI_leI (a := 1 + n5) (b := 128) (by omega) (by omega)).mp c_222
                      refine WX.s1 rfl rfl ?_
                      refine WX.s1 (L' := [(0, .ref m), (1, .int (nI t)), (2, .int (nI (cdF (wtL L t)).2)), (3, .int (nI DV)), (4, .int (nI (1 + n5))), (5, .int (nI (1 + n6))), (6, .int (nI (1 + n5)))]) rfl rfl ?_
                      have hs9 : SV = 1 + n5 := by omega
                      rw [hs9] at t235
                      exact t235 h196n502 I196n502 A196n502 _ _ FR_h196n502 M_h196n502 FI_I196n502 FA_A196n502 hM6 K_I196n502_56 hWt6 hCt6
                    · skip
                      have n_222 : 128 < (1 + n5) := Nat.lt_of_not_le (fun zz_ => c_222 ((nI_leI (a := 1 + n5) (b := 128) (by omega) (by omega)).mpr zz_))
                      refine WX.s1 rfl rfl ?_
                      refine WX.s1 rfl rfl ?_
                      refine WX.s1 (L' := [(0, .ref m), (1, .int (nI t)), (2, .int (nI (cdF (wtL L t)).2)), (3, .int (nI DV)), (4, .int (nI (1 + n5))), (5, .int (nI (1 + n6))), (6, .int 9999)]) rfl rfl ?_
                      have hs9 : SV = 9999 := by omega
                      rw [hs9] at t235
                      exact t235 h196n502 I196n502 A196n502 _ _ FR_h196n502 M_h196n502 FI_I196n502 FA_A196n502 hM6 K_I196n502_56 hWt6 hCt6
                refine WX.s1 rfl rfl ?_
                refine WX.mgetK (x := (nI (lsF L 255))) rfl hm M_hM_ rfl K_IL_56 ?_
                refine WX.s1 rfl rfl ?_
                refine WX.icmp rfl (fun c_128 => ?_) (fun c_128 => ?_)
                · skip
                  have n_128 : (lsF L 255) ≤ 128 := (nI_leI (a := lsF L 255) (b := 128) (by omega) (by omega)).mp c_128
                  refine WX.s1 rfl rfl ?_
                  refine WX.s1 rfl rfl ?_
                  refine WX.mgetK (x := (nI (lsF L 255))) rfl hm M_hM_ rfl K_IL_56 ?_
                  refine WX.s1 rfl rfl ?_
                  refine WX.s1 (S' := [.int ((nI (lsF L 255)) + 1), .int 1]) rfl rfl ?_
                  rw [show ((nI (lsF L 255)) + 1) = nI (lsF L 255 + 1) from nI_add (lsF L 255) 1]
                  refine WX.s1 rfl rfl ?_
                  refine WX.div rfl (by decide) ?_
                  rw [show nI ((lsF L 255) + 1) / 2 = nI (((lsF L 255) + 1) / 2) from pk_div (by omega) (by decide) (by decide)]
                  refine WX.s1 (S' := [.int (1 + (nI (((lsF L 255) + 1) / 2)))]) rfl rfl ?_
                  rw [show (1 + (nI (((lsF L 255) + 1) / 2))) = nI (1 + (((lsF L 255) + 1) / 2)) from nI_add 1 (((lsF L 255) + 1) / 2)]
                  refine WX.s1 (L' := [(0, .ref m), (1, .int (nI t)), (2, .int (nI (cdF (wtL L t)).2)), (3, .int (nI (1 + (((lsF L 255) + 1) / 2))))]) rfl rfl ?_
                  rw [show DV = 1 + (((lsF L 255) + 1) / 2) by omega] at t148
                  exact t148
                · skip
                  have n_128 : 128 < (lsF L 255) := Nat.lt_of_not_le (fun zz_ => c_128 ((nI_leI (a := lsF L 255) (b := 128) (by omega) (by omega)).mpr zz_))
                  refine WX.s1 rfl rfl ?_
                  refine WX.s1 rfl rfl ?_
                  refine WX.s1 (L' := [(0, .ref m), (1, .int (nI t)), (2, .int (nI (cdF (wtL L t)).2)), (3, .int 9999)]) rfl rfl ?_
                  rw [show DV = 9999 by omega] at t148
                  exact t148
              · have hbn : bsN (wtL L t) = 0 := if_neg (fun q => hv ⟨q.1, by have := q.2.1; omega⟩)
                obtain ⟨SV, hSV⟩ : ∃ q, (bsN (wtL L t) = 0 ∧ q = 9999) ∨ (bsN (wtL L t) ≠ 0 ∧ q = 1 + bsN (wtL L t)) := by by_cases z : bsN (wtL L t) = 0; exact ⟨_, Or.inl ⟨z, rfl⟩⟩; exact ⟨_, Or.inr ⟨z, rfl⟩⟩
                have hb230 : bsN (wtL L t) ≤ 230 := by omega
                have t235 : ∀ (hL : Nat → aE) (IL : Nat → Int32) (AL : Nat → Nat → Int32) (c w : Nat), Fr h hL (inM m) → MAt hL m IL AL LN → Fi I IL (fun f => f = 38 ∨ f = 56) → FaS AR AL (fun b => b = 24 ∨ (26 ≤ b ∧ b ≤ 33) ∨ b = 39) → MadeIs IL AL c w → IL 56 = nI (lsF L 255) → WtM AL (wtL L t) → CntM AL (cdF (wtL L t)).1 → WX (lk tX12_describe) (mM (d + 3)) Ψ 235 [(0, .ref m), (1, .int (nI t)), (2, .int (nI (cdF (wtL L t)).2)), (3, .int (nI DV)), (4, .int 9999), (5, .int 9999), (6, .int (nI SV))] [] (n, s, hL) := by
                  clear M_hM_ FR_hM_ FA_AM hMc hWt hCt hc hj K_IL_56 FI_IL
                  intro hL IL AL c w FR_hL M_hL FI_IL FA_AL hMc K_IL_56 hWt hCt
                  refine WX.s1 rfl rfl ?_
                  refine WX.s1 rfl rfl ?_
                  refine WX.icmp rfl (fun c_239 => ?_) (fun c_239 => ?_)
                  · skip
                    have n_239 : ¬ DV = 9999 := fun zz_ => c_239 ((nI_eq (a := DV) (b := 9999) (by omega) (by omega)).mpr zz_)
                    have hny : ¬ (DV = 9999 ∧ SV = 9999) := by omega
                    refine WX.s1 rfl rfl ?_
                    refine WX.s1 rfl rfl ?_
                    refine WX.icmp rfl (fun c_256 => ?_) (fun c_256 => ?_)
                    · skip
                      have n_256 : SV < DV := (nI_ltI (a := SV) (b := DV) (by omega) (by omega)).mp c_256
                      exfalso
                      omega
                    · skip
                      have n_256 : DV ≤ SV := Nat.le_of_not_lt (fun zz_ => c_256 ((nI_ltI (a := SV) (b := DV) (by omega) (by omega)).mpr zz_))
                      have hyes : dsY (wtL L t) = some (dirY (wtL L t)) := by unfold dsY; rw [hwl]; exact if_pos (by omega)
                      have hDV2 : DV = (dirY (wtL L t)).length := by rw [dirY_len, hwl]; omega
                      refine WX.s1 rfl rfl ?_
                      refine WX.callC (vs := [.ref m]) rfl rfl rfl (Nat.le_of_ble_eq_true rfl) (M_hL.rcv hm) ?_
                      refine m_beginV hm M_hL hMc (fun h260n401 I260n401 A260n401 fr260n401 M_h260n401 fi260n401 fa260n401 hB0 => ?_)
                      have FR_h260n401 := FR_hL.ztr fr260n401
                      have K_I260n401_56 : I260n401 56 = (nI (lsF L 255)) := (fi260n401 56 (by decide)).trans K_IL_56
                      have FI_I260n401 : Fi I I260n401 (fun f => f = 38 ∨ f = 56) := FI_IL.zsub fi260n401 (fun j hj => by first | exact hj | omega)
                      have FA_A260n401 : FaS AR A260n401 (fun b => b = 24 ∨ (26 ≤ b ∧ b ≤ 33) ∨ b = 39) := FA_AL.ztr (fa260n401.toS (by omega))
                      show WX _ _ _ 263 [(0, .ref m), (1, .int (nI t)), (2, .int (nI (cdF (wtL L t)).2)), (3, .int (nI DV)), (4, .int 9999), (5, .int 9999), (6, .int (nI SV))] [] (n, s, h260n401)
                      refine WX.s1 rfl rfl ?_
                      refine WX.s1 rfl rfl ?_
                      refine WX.s1 rfl rfl ?_
                      refine WX.mgetK (x := (nI (lsF L 255))) rfl hm M_h260n401 rfl K_I260n401_56 ?_
                      refine WX.s1 (S' := [.int (127 + (nI (lsF L 255))), .ref m]) rfl rfl ?_
                      rw [show (127 + (nI (lsF L 255))) = nI (127 + lsF L 255) from nI_add 127 (lsF L 255)]
                      refine WX.s1 rfl rfl ?_
                      refine WX.callC (vs := [.ref m, .int (nI (127 + (lsF L 255))), .int (nI 8)]) rfl rfl rfl (Nat.le_of_ble_eq_true rfl) (M_h260n401.rcv hm) ?_
                      refine m_putV hm M_h260n401 (c := 0) (w := 0) hB0 (by omega) (by decide) (by decide) (fun h273n402 I273n402 A273n402 fr273n402 M_h273n402 fi273n402 fa273n402 hB1 => ?_)
                      have FR_h273n402 := FR_h260n401.ztr fr273n402
                      have K_I273n402_56 : I273n402 56 = (nI (lsF L 255)) := (fi273n402 56 (by decide)).trans K_I260n401_56
                      have FI_I273n402 : Fi I I273n402 (fun f => f = 38 ∨ f = 56) := FI_I260n401.zsub fi273n402 (fun j hj => by first | exact hj | omega)
                      have FA_A273n402 : FaS AR A273n402 (fun b => b = 24 ∨ (26 ≤ b ∧ b ≤ 33) ∨ b = 39) := FA_A260n401.ztr (fa273n402.toS (by omega))
                      have hk128 : (lsF L 255) ≤ 128 := by omega
                      have hY0 : MadeY I273n402 A273n402 (dirP (wtL L t) 0) := by rw [show dirP (wtL L t) 0 = [] ++ leBy (127 + (lsF L 255)) 1 by rw [leBy_1 (by omega)]; show [127 + (wtL L t).length] = _; rw [hwl]; rfl]; exact MadeY.num (I := I) (A := AR) (y := []) (w := 0) (c := 0) rfl (by decide) (show 127 + (lsF L 255) < 2 ^ (8 * 1) by omega) rfl hB1
                      show WX _ _ _ 276 [(0, .ref m), (1, .int (nI t)), (2, .int (nI (cdF (wtL L t)).2)), (3, .int (nI DV)), (4, .int 9999), (5, .int 9999), (6, .int (nI SV))] [] (n, s, h273n402)
                      have hW39 : ∀ i, A273n402 39 i = AL 39 i := fun i => by rw [fa273n402 39 (by decide), fa260n401 39 (by decide)]
                      refine WX.s1 rfl rfl ?_
                      refine WX.s1 (L' := [(0, .ref m), (1, .int (nI t)), (2, .int (nI (cdF (wtL L t)).2)), (3, .int (nI DV)), (4, .int 9999), (5, .int 9999), (6, .int (nI SV)), (7, .int 0)]) rfl rfl ?_
                      have lp7 : ∀ (q j : Nat) (hL : Nat → aE) (IL : Nat → Int32) (AL : Nat → Nat → Int32), j + q = ((lsF L 255) + 1) / 2 → Fr h hL (inM m) → MAt hL m IL AL LN → Fi I IL (fun f => f = 38 ∨ f = 56) → FaS AR AL (fun b => b = 24 ∨ (26 ≤ b ∧ b ≤ 33) ∨ b = 39) → MadeY IL AL (dirP (wtL L t) j) → IL 56 = nI (lsF L 255) → WtM AL (wtL L t) → WX (lk tX12_describe) (mM (d + 3)) Ψ 279 [(0, .ref m), (1, .int (nI t)), (2, .int (nI (cdF (wtL L t)).2)), (3, .int (nI DV)), (4, .int 9999), (5, .int 9999), (6, .int (nI SV)), (7, .int (nI (2 * j)))] [] (n, s, hL) := by
                        have hk1_ := hk128
                        intro q
                        induction q with
                        | zero =>
                          intro j hL IL AL hjq FR_hL M_hL FI_IL FA_AL hY K_IL_56 hWt
                          refine WX.s1 rfl rfl ?_
                          refine WX.s1 rfl rfl ?_
                          refine WX.mgetK (x := (nI (lsF L 255))) rfl hm M_hL rfl K_IL_56 ?_
                          refine WX.icmp rfl (fun c_285 => ?_) (fun c_285 => absurd ((nI_leI (a := lsF L 255) (b := 2 * j) (by omega) (by omega)).mpr (by omega)) c_285)
                          clear c_285
                          refine WX.s1 rfl rfl ?_
                          rw [hDV2]
                          exact WX.ret1 rfl (kkS _ hyes hL IL AL FR_hL M_hL FI_IL FA_AL (by rw [show dirY (wtL L t) = dirP (wtL L t) j by unfold dirY dirP; rw [show j = ((wtL L t).length + 1) / 2 by omega]]; exact hY))
                        | succ q ih7 =>
                          intro j hL IL AL hjq FR_hL M_hL FI_IL FA_AL hY K_IL_56 hWt
                          obtain ⟨wv, hmv, hlv⟩ := hY
                          have hplen := dirP_len (wtL L t) j
                          rw [hplen] at hmv hlv
                          have b0 := hwle _ (getD_mem (show 2 * j < (wtL L t).length by omega))
                          obtain ⟨nx, hnx⟩ : ∃ q, q = if 2 * j + 1 < (lsF L 255) then (wtL L t).getD (2 * j + 1) 0 else 0 := ⟨_, rfl⟩
                          have hnx2 : nx ≤ 11 := by rw [hnx]; split; exact hwle _ (getD_mem (by omega)); omega
                          refine WX.s1 rfl rfl ?_
                          refine WX.s1 rfl rfl ?_
                          refine WX.mgetK (x := (nI (lsF L 255))) rfl hm M_hL rfl K_IL_56 ?_
                          refine WX.icmp rfl (fun c_285 => absurd c_285 (fun zz_ => absurd ((nI_leI (a := lsF L 255) (b := 2 * j) (by omega) (by omega)).mp zz_) (Nat.not_le.mpr (by omega)))) (fun c_285 => ?_)
                          clear c_285
                          have t313 : WX (lk tX12_describe) (mM (d + 3)) Ψ 313 [(0, .ref m), (1, .int (nI t)), (2, .int (nI (cdF (wtL L t)).2)), (3, .int (nI DV)), (4, .int 9999), (5, .int 9999), (6, .int (nI SV)), (7, .int (nI (2 * j)))] [.int (nI nx), .ref m] (n, s, hL) := by
                            refine WX.s1 rfl rfl ?_
                            refine WX.callC (vs := [.ref m, .int (nI nx), .int (nI 4)]) rfl rfl rfl (Nat.le_of_ble_eq_true rfl) (M_hL.rcv hm) ?_
                            refine m_putV hm M_hL hmv (by omega) (by decide) (by omega) (fun h314n503 I314n503 A314n503 fr314n503 M_h314n503 fi314n503 fa314n503 hP1 => ?_)
                            have FR_h314n503 := FR_hL.ztr fr314n503
                            have K_I314n503_56 : I314n503 56 = (nI (lsF L 255)) := (fi314n503 56 (by decide)).trans K_IL_56
                            have FI_I314n503 : Fi I I314n503 (fun f => f = 38 ∨ f = 56) := FI_IL.zsub fi314n503 (fun j hj => by first | exact hj | omega)
                            have FA_A314n503 : FaS AR A314n503 (fun b => b = 24 ∨ (26 ≤ b ∧ b ≤ 33) ∨ b = 39) := FA_AL.ztr (fa314n503.toS (by omega))
                            have hWtb : WtM A314n503 (wtL L t) := fun i hi => by rw [fa314n503 39 (by decide)]; exact hWt i hi
                            show WX _ _ _ 317 [(0, .ref m), (1, .int (nI t)), (2, .int (nI (cdF (wtL L t)).2)), (3, .int (nI DV)), (4, .int 9999), (5, .int 9999), (6, .int (nI SV)), (7, .int (nI (2 * j)))] [] (n, s, h314n503)
                            refine WX.s1 rfl rfl ?_
                            refine WX.s1 rfl rfl ?_
                            refine WX.mget rfl hm M_h314n503 rfl ?_
                            refine WX.s1 rfl rfl ?_
                            refine WX.mald (c := 39) rfl hm M_h314n503 (by decide) (by decide) (by decide) (by decide) (vp_in_nI (N := 257) (by omega) (by decide)) ?_
                            rw [nI_clamp (by omega), hWtb _ (by omega)]
                            refine WX.s1 rfl rfl ?_
                            refine WX.callC (vs := [.ref m, .int (nI ((wtL L t).getD (2 * j) 0)), .int (nI 4)]) rfl rfl rfl (Nat.le_of_ble_eq_true rfl) (M_h314n503.rcv hm) ?_
                            refine m_putV hm M_h314n503 hP1 (by omega) (by decide) (by omega) (fun h326n504 I326n504 A326n504 fr326n504 M_h326n504 fi326n504 fa326n504 hP2 => ?_)
                            have FR_h326n504 := FR_h314n503.ztr fr326n504
                            have K_I326n504_56 : I326n504 56 = (nI (lsF L 255)) := (fi326n504 56 (by decide)).trans K_I314n503_56
                            have FI_I326n504 : Fi I I326n504 (fun f => f = 38 ∨ f = 56) := FI_I314n503.zsub fi326n504 (fun j hj => by first | exact hj | omega)
                            have FA_A326n504 : FaS AR A326n504 (fun b => b = 24 ∨ (26 ≤ b ∧ b ≤ 33) ∨ b = 39) := FA_A314n503.ztr (fa326n504.toS (by omega))
                            have hWtc : WtM A326n504 (wtL L t) := fun i hi => by rw [fa326n504 39 (by decide)]; exact hWtb i hi
                            have hY9 : MadeY I326n504 A326n504 (dirP (wtL L t) (j + 1)) := by
                              rw [dirP_s, hwl, ← hnx, ← leBy_1 (show 16 * (wtL L t).getD (2 * j) 0 + nx < 256 by omega)]
                              refine MadeY.num (I := I) (A := AR) (c := 8 * (j + 1)) (by rw [hplen]; exact hlv) (by rw [hplen]; exact hmv.2.2.1) (show 16 * (wtL L t).getD (2 * j) 0 + nx < 2 ^ (8 * 1) by omega) (by rw [hplen]) ?_
                              have ev := nib (w := wv) (a := 8 * (j + 1)) (x := nx) (y := (wtL L t).getD (2 * j) 0) (by omega) (by omega)
                              rw [← ev]
                              exact hP2
                            show WX _ _ _ 329 [(0, .ref m), (1, .int (nI t)), (2, .int (nI (cdF (wtL L t)).2)), (3, .int (nI DV)), (4, .int 9999), (5, .int 9999), (6, .int (nI SV)), (7, .int (nI (2 * j)))] [] (n, s, h326n504)
                            refine WX.s1 (L' := [(0, .ref m), (1, .int (nI t)), (2, .int (nI (cdF (wtL L t)).2)), (3, .int (nI DV)), (4, .int 9999), (5, .int 9999), (6, .int (nI SV)), (7, .int ((nI (2 * j)) + 2))]) rfl rfl ?_
                            rw [show ((nI (2 * j)) + 2) = nI (2 * j + 2) from nI_add (2 * j) 2]
                            rw [show nI (2 * j + 2) = nI (2 * (j + 1)) from congrArg nI (by omega)]
                            refine WX.s1 rfl rfl ?_
                            exact ih7 (j + 1) h326n504 I326n504 A326n504 (by omega) FR_h326n504 M_h326n504 FI_I326n504 FA_A326n504 hY9 K_I326n504_56 hWtc
                          refine WX.s1 rfl rfl ?_
                          refine WX.s1 rfl rfl ?_
                          refine WX.s1 rfl rfl ?_
                          refine WX.s1 (S' := [.int ((nI (2 * j)) + 1), .ref m]) rfl rfl ?_
                          rw [show ((nI (2 * j)) + 1) = nI (2 * j + 1) from nI_add (2 * j) 1]
                          refine WX.s1 rfl rfl ?_
                          refine WX.mgetK (x := (nI (lsF L 255))) rfl hm M_hL rfl K_IL_56 ?_
                          refine WX.icmp rfl (fun c_297 => ?_) (fun c_297 => ?_)
                          · skip
                            have n_297 : (lsF L 255) ≤ (2 * j + 1) := (nI_leI (a := lsF L 255) (b := 2 * j + 1) (by omega) (by omega)).mp c_297
                            refine WX.s1 rfl rfl ?_
                            rw [show nx = 0 by rw [hnx, if_neg (by omega)]] at t313
                            exact t313
                          · skip
                            have n_297 : (2 * j + 1) < (lsF L 255) := Nat.lt_of_not_le (fun zz_ => c_297 ((nI_leI (a := lsF L 255) (b := 2 * j + 1) (by omega) (by omega)).mpr zz_))
                            refine WX.s1 rfl rfl ?_
                            refine WX.mget rfl hm M_hL rfl ?_
                            refine WX.s1 rfl rfl ?_
                            refine WX.s1 rfl rfl ?_
                            refine WX.s1 (S' := [.int ((nI (2 * j)) + 1), .ref (m + 39), .ref m]) rfl rfl ?_
                            rw [show ((nI (2 * j)) + 1) = nI (2 * j + 1) from nI_add (2 * j) 1]
                            refine WX.mald (c := 39) rfl hm M_hL (by decide) (by decide) (by decide) (by decide) (vp_in_nI (N := 257) (by omega) (by decide)) ?_
                            rw [nI_clamp (by omega), hWt _ (by omega)]
                            refine WX.s1 rfl rfl ?_
                            rw [show nx = (wtL L t).getD (2 * j + 1) 0 by rw [hnx, if_pos n_297]] at t313
                            exact t313
                      exact lp7 (((lsF L 255) + 1) / 2) 0 h273n402 I273n402 A273n402 (by omega) FR_h273n402 M_h273n402 FI_I273n402 FA_A273n402 hY0 K_I273n402_56 (fun i hi => (hW39 i).trans (hWt i hi))
                  · skip
                    have n_239 : DV = 9999 := (nI_eq (a := DV) (b := 9999) (by omega) (by omega)).mp (Classical.not_not.mp c_239)
                    refine WX.s1 rfl rfl ?_
                    refine WX.s1 rfl rfl ?_
                    refine WX.icmp rfl (fun c_247 => ?_) (fun c_247 => ?_)
                    · skip
                      have n_247 : ¬ SV = 9999 := fun zz_ => c_247 ((nI_eq (a := SV) (b := 9999) (by omega) (by omega)).mpr zz_)
                      have hny : ¬ (DV = 9999 ∧ SV = 9999) := by omega
                      refine WX.s1 rfl rfl ?_
                      refine WX.s1 rfl rfl ?_
                      refine WX.icmp rfl (fun c_256 => ?_) (fun c_256 => ?_)
                      · skip
                        have n_256 : SV < DV := (nI_ltI (a := SV) (b := DV) (by omega) (by omega)).mp c_256
                        exfalso
                        omega
                      · skip
                        have n_256 : DV ≤ SV := Nat.le_of_not_lt (fun zz_ => c_256 ((nI_ltI (a := SV) (b := DV) (by omega) (by omega)).mpr zz_))
                        have hyes : dsY (wtL L t) = some (dirY (wtL L t)) := by unfold dsY; rw [hwl]; exact if_pos (by omega)
                        have hDV2 : DV = (dirY (wtL L t)).length := by rw [dirY_len, hwl]; omega
                        refine WX.s1 rfl rfl ?_
                        refine WX.callC (vs := [.ref m]) rfl rfl rfl (Nat.le_of_ble_eq_true rfl) (M_hL.rcv hm) ?_
                        refine m_beginV hm M_hL hMc (fun h260n505 I260n505 A260n505 fr260n505 M_h260n505 fi260n505 fa260n505 hB0 => ?_)
                        have FR_h260n505 := FR_hL.ztr fr260n505
                        have K_I260n505_56 : I260n505 56 = (nI (lsF L 255)) := (fi260n505 56 (by decide)).trans K_IL_56
                        have FI_I260n505 : Fi I I260n505 (fun f => f = 38 ∨ f = 56) := FI_IL.zsub fi260n505 (fun j hj => by first | exact hj | omega)
                        have FA_A260n505 : FaS AR A260n505 (fun b => b = 24 ∨ (26 ≤ b ∧ b ≤ 33) ∨ b = 39) := FA_AL.ztr (fa260n505.toS (by omega))
                        show WX _ _ _ 263 [(0, .ref m), (1, .int (nI t)), (2, .int (nI (cdF (wtL L t)).2)), (3, .int (nI DV)), (4, .int 9999), (5, .int 9999), (6, .int (nI SV))] [] (n, s, h260n505)
                        refine WX.s1 rfl rfl ?_
                        refine WX.s1 rfl rfl ?_
                        refine WX.s1 rfl rfl ?_
                        refine WX.mgetK (x := (nI (lsF L 255))) rfl hm M_h260n505 rfl K_I260n505_56 ?_
                        refine WX.s1 (S' := [.int (127 + (nI (lsF L 255))), .ref m]) rfl rfl ?_
                        rw [show (127 + (nI (lsF L 255))) = nI (127 + lsF L 255) from nI_add 127 (lsF L 255)]
                        refine WX.s1 rfl rfl ?_
                        refine WX.callC (vs := [.ref m, .int (nI (127 + (lsF L 255))), .int (nI 8)]) rfl rfl rfl (Nat.le_of_ble_eq_true rfl) (M_h260n505.rcv hm) ?_
                        refine m_putV hm M_h260n505 (c := 0) (w := 0) hB0 (by omega) (by decide) (by decide) (fun h273n506 I273n506 A273n506 fr273n506 M_h273n506 fi273n506 fa273n506 hB1 => ?_)
                        have FR_h273n506 := FR_h260n505.ztr fr273n506
                        have K_I273n506_56 : I273n506 56 = (nI (lsF L 255)) := (fi273n506 56 (by decide)).trans K_I260n505_56
                        have FI_I273n506 : Fi I I273n506 (fun f => f = 38 ∨ f = 56) := FI_I260n505.zsub fi273n506 (fun j hj => by first | exact hj | omega)
                        have FA_A273n506 : FaS AR A273n506 (fun b => b = 24 ∨ (26 ≤ b ∧ b ≤ 33) ∨ b = 39) := FA_A260n505.ztr (fa273n506.toS (by omega))
                        have hk128 : (lsF L 255) ≤ 128 := by omega
                        have hY0 : MadeY I273n506 A273n506 (dirP (wtL L t) 0) := by rw [show dirP (wtL L t) 0 = [] ++ leBy (127 + (lsF L 255)) 1 by rw [leBy_1 (by omega)]; show [127 + (wtL L t).length] = _; rw [hwl]; rfl]; exact MadeY.num (I := I) (A := AR) (y := []) (w := 0) (c := 0) rfl (by decide) (show 127 + (lsF L 255) < 2 ^ (8 * 1) by omega) rfl hB1
                        show WX _ _ _ 276 [(0, .ref m), (1, .int (nI t)), (2, .int (nI (cdF (wtL L t)).2)), (3, .int (nI DV)), (4, .int 9999), (5, .int 9999), (6, .int (nI SV))] [] (n, s, h273n506)
                        have hW39 : ∀ i, A273n506 39 i = AL 39 i := fun i => by rw [fa273n506 39 (by decide), fa260n505 39 (by decide)]
                        refine WX.s1 rfl rfl ?_
                        refine WX.s1 (L' := [(0, .ref m), (1, .int (nI t)), (2, .int (nI (cdF (wtL L t)).2)), (3, .int (nI DV)), (4, .int 9999), (5, .int 9999), (6, .int (nI SV)), (7, .int 0)]) rfl rfl ?_
                        have lp7 : ∀ (q j : Nat) (hL : Nat → aE) (IL : Nat → Int32) (AL : Nat → Nat → Int32), j + q = ((lsF L 255) + 1) / 2 → Fr h hL (inM m) → MAt hL m IL AL LN → Fi I IL (fun f => f = 38 ∨ f = 56) → FaS AR AL (fun b => b = 24 ∨ (26 ≤ b ∧ b ≤ 33) ∨ b = 39) → MadeY IL AL (dirP (wtL L t) j) → IL 56 = nI (lsF L 255) → WtM AL (wtL L t) → WX (lk tX12_describe) (mM (d + 3)) Ψ 279 [(0, .ref m), (1, .int (nI t)), (2, .int (nI (cdF (wtL L t)).2)), (3, .int (nI DV)), (4, .int 9999), (5, .int 9999), (6, .int (nI SV)), (7, .int (nI (2 * j)))] [] (n, s, hL) := by
                          have hk1_ := hk128
                          intro q
                          induction q with
                          | zero =>
                            intro j hL IL AL hjq FR_hL M_hL FI_IL FA_AL hY K_IL_56 hWt
                            refine WX.s1 rfl rfl ?_
                            refine WX.s1 rfl rfl ?_
                            refine WX.mgetK (x := (nI (lsF L 255))) rfl hm M_hL rfl K_IL_56 ?_
                            refine WX.icmp rfl (fun c_285 => ?_) (fun c_285 => absurd ((nI_leI (a := lsF L 255) (b := 2 * j) (by omega) (by omega)).mpr (by omega)) c_285)
                            clear c_285
                            refine WX.s1 rfl rfl ?_
                            rw [hDV2]
                            exact WX.ret1 rfl (kkS _ hyes hL IL AL FR_hL M_hL FI_IL FA_AL (by rw [show dirY (wtL L t) = dirP (wtL L t) j by unfold dirY dirP; rw [show j = ((wtL L t).length + 1) / 2 by omega]]; exact hY))
                          | succ q ih7 =>
                            intro j hL IL AL hjq FR_hL M_hL FI_IL FA_AL hY K_IL_56 hWt
                            obtain ⟨wv, hmv, hlv⟩ := hY
                            have hplen := dirP_len (wtL L t) j
                            rw [hplen] at hmv hlv
                            have b0 := hwle _ (getD_mem (show 2 * j < (wtL L t).length by omega))
                            obtain ⟨nx, hnx⟩ : ∃ q, q = if 2 * j + 1 < (lsF L 255) then (wtL L t).getD (2 * j + 1) 0 else 0 := ⟨_, rfl⟩
                            have hnx2 : nx ≤ 11 := by rw [hnx]; split; exact hwle _ (getD_mem (by omega)); omega
                            refine WX.s1 rfl rfl ?_
                            refine WX.s1 rfl rfl ?_
                            refine WX.mgetK (x := (nI (lsF L 255))) rfl hm M_hL rfl K_IL_56 ?_
                            refine WX.icmp rfl (fun c_285 => absurd c_285 (fun zz_ => absurd ((nI_leI (a := lsF L 255) (b := 2 * j) (by omega) (by omega)).mp zz_) (Nat.not_le.mpr (by omega)))) (fun c_285 => ?_)
                            clear c_285
                            have t313 : WX (lk tX12_describe) (mM (d + 3)) Ψ 313 [(0, .ref m), (1, .int (nI t)), (2, .int (nI (cdF (wtL L t)).2)), (3, .int (nI DV)), (4, .int 9999), (5, .int 9999), (6, .int (nI SV)), (7, .int (nI (2 * j)))] [.int (nI nx), .ref m] (n, s, hL) := by
                              refine WX.s1 rfl rfl ?_
                              refine WX.callC (vs := [.ref m, .int (nI nx), .int (nI 4)]) rfl rfl rfl (Nat.le_of_ble_eq_true rfl) (M_hL.rcv hm) ?_
                              refine m_putV hm M_hL hmv (by omega) (by decide) (by omega) (fun h314n607 I314n607 A314n607 fr314n607 M_h314n607 fi314n607 fa314n607 hP1 => ?_)
                              have FR_h314n607 := FR_hL.ztr fr314n607
                              have K_I314n607_56 : I314n607 56 = (nI (lsF L 255)) := (fi314n607 56 (by decide)).trans K_IL_56
                              have FI_I314n607 : Fi I I314n607 (fun f => f = 38 ∨ f = 56) := FI_IL.zsub fi314n607 (fun j hj => by first | exact hj | omega)
                              have FA_A314n607 : FaS AR A314n607 (fun b => b = 24 ∨ (26 ≤ b ∧ b ≤ 33) ∨ b = 39) := FA_AL.ztr (fa314n607.toS (by omega))
                              have hWtb : WtM A314n607 (wtL L t) := fun i hi => by rw [fa314n607 39 (by decide)]; exact hWt i hi
                              show WX _ _ _ 317 [(0, .ref m), (1, .int (nI t)), (2, .int (nI (cdF (wtL L t)).2)), (3, .int (nI DV)), (4, .int 9999), (5, .int 9999), (6, .int (nI SV)), (7, .int (nI (2 * j)))] [] (n, s, h314n607)
                              refine WX.s1 rfl rfl ?_
                              refine WX.s1 rfl rfl ?_
                              refine WX.mget rfl hm M_h314n607 rfl ?_
                              refine WX.s1 rfl rfl ?_
                              refine WX.mald (c := 39) rfl hm M_h314n607 (by decide) (by decide) (by decide) (by decide) (vp_in_nI (N := 257) (by omega) (by decide)) ?_
                              rw [nI_clamp (by omega), hWtb _ (by omega)]
                              refine WX.s1 rfl rfl ?_
                              refine WX.callC (vs := [.ref m, .int (nI ((wtL L t).getD (2 * j) 0)), .int (nI 4)]) rfl rfl rfl (Nat.le_of_ble_eq_true rfl) (M_h314n607.rcv hm) ?_
                              refine m_putV hm M_h314n607 hP1 (by omega) (by decide) (by omega) (fun h326n608 I326n608 A326n608 fr326n608 M_h326n608 fi326n608 fa326n608 hP2 => ?_)
                              have FR_h326n608 := FR_h314n607.ztr fr326n608
                              have K_I326n608_56 : I326n608 56 = (nI (lsF L 255)) := (fi326n608 56 (by decide)).trans K_I314n607_56
                              have FI_I326n608 : Fi I I326n608 (fun f => f = 38 ∨ f = 56) := FI_I314n607.zsub fi326n608 (fun j hj => by first | exact hj | omega)
                              have FA_A326n608 : FaS AR A326n608 (fun b => b = 24 ∨ (26 ≤ b ∧ b ≤ 33) ∨ b = 39) := FA_A314n607.ztr (fa326n608.toS (by omega))
                              have hWtc : WtM A326n608 (wtL L t) := fun i hi => by rw [fa326n608 39 (by decide)]; exact hWtb i hi
                              have hY9 : MadeY I326n608 A326n608 (dirP (wtL L t) (j + 1)) := by
                                rw [dirP_s, hwl, ← hnx, ← leBy_1 (show 16 * (wtL L t).getD (2 * j) 0 + nx < 256 by omega)]
                                refine MadeY.num (I := I) (A := AR) (c := 8 * (j + 1)) (by rw [hplen]; exact hlv) (by rw [hplen]; exact hmv.2.2.1) (show 16 * (wtL L t).getD (2 * j) 0 + nx < 2 ^ (8 * 1) by omega) (by rw [hplen]) ?_
                                have ev := nib (w := wv) (a := 8 * (j + 1)) (x := nx) (y := (wtL L t).getD (2 * j) 0) (by omega) (by omega)
                                rw [← ev]
                                exact hP2
                              show WX _ _ _ 329 [(0, .ref m), (1, .int (nI t)), (2, .int (nI (cdF (wtL L t)).2)), (3, .int (nI DV)), (4, .int 9999), (5, .int 9999), (6, .int (nI SV)), (7, .int (nI (2 * j)))] [] (n, s, h326n608)
                              refine WX.s1 (L' := [(0, .ref m), (1, .int (nI t)), (2, .int (nI (cdF (wtL L t)).2)), (3, .int (nI DV)), (4, .int 9999), (5, .int 9999), (6, .int (nI SV)), (7, .int ((nI (2 * j)) + 2))]) rfl rfl ?_
                              rw [show ((nI (2 * j)) + 2) = nI (2 * j + 2) from nI_add (2 * j) 2]
                              rw [show nI (2 * j + 2) = nI (2 * (j + 1)) from congrArg nI (by omega)]
                              refine WX.s1 rfl rfl ?_
                              exact ih7 (j + 1) h326n608 I326n608 A326n608 (by omega) FR_h326n608 M_h326n608 FI_I326n608 FA_A326n608 hY9 K_I326n608_56 hWtc
                            refine WX.s1 rfl rfl ?_
                            refine WX.s1 rfl rfl ?_
                            refine WX.s1 rfl rfl ?_
                            refine WX.s1 (S' := [.int ((nI (2 * j)) + 1), .ref m]) rfl rfl ?_
                            rw [show ((nI (2 * j)) + 1) = nI (2 * j + 1) from nI_add (2 * j) 1]
                            refine WX.s1 rfl rfl ?_
                            refine WX.mgetK (x := (nI (lsF L 255))) rfl hm M_hL rfl K_IL_56 ?_
                            refine WX.icmp rfl (fun c_297 => ?_) (fun c_297 => ?_)
                            · skip
                              have n_297 : (lsF L 255) ≤ (2 * j + 1) := (nI_leI (a := lsF L 255) (b := 2 * j + 1) (by omega) (by omega)).mp c_297
                              refine WX.s1 rfl rfl ?_
                              rw [show nx = 0 by rw [hnx, if_neg (by omega)]] at t313
                              exact t313
                            · skip
                              have n_297 : (2 * j + 1) < (lsF L 255) := Nat.lt_of_not_le (fun zz_ => c_297 ((nI_leI (a := lsF L 255) (b := 2 * j + 1) (by omega) (by omega)).mpr zz_))
                              refine WX.s1 rfl rfl ?_
                              refine WX.mget rfl hm M_hL rfl ?_
                              refine WX.s1 rfl rfl ?_
                              refine WX.s1 rfl rfl ?_
                              refine WX.s1 (S' := [.int ((nI (2 * j)) + 1), .ref (m + 39), .ref m]) rfl rfl ?_
                              rw [show ((nI (2 * j)) + 1) = nI (2 * j + 1) from nI_add (2 * j) 1]
                              refine WX.mald (c := 39) rfl hm M_hL (by decide) (by decide) (by decide) (by decide) (vp_in_nI (N := 257) (by omega) (by decide)) ?_
                              rw [nI_clamp (by omega), hWt _ (by omega)]
                              refine WX.s1 rfl rfl ?_
                              rw [show nx = (wtL L t).getD (2 * j + 1) 0 by rw [hnx, if_pos n_297]] at t313
                              exact t313
                        exact lp7 (((lsF L 255) + 1) / 2) 0 h273n506 I273n506 A273n506 (by omega) FR_h273n506 M_h273n506 FI_I273n506 FA_A273n506 hY0 K_I273n506_56 (fun i hi => (hW39 i).trans (hWt i hi))
                    · skip
                      have n_247 : SV = 9999 := (nI_eq (a := SV) (b := 9999) (by omega) (by omega)).mp (Classical.not_not.mp c_247)
                      have hno : dsY (wtL L t) = none := by unfold dsY; rw [hwl, if_neg (by omega), if_pos (by omega)]
                      refine WX.s1 rfl rfl ?_
                      exact WX.ret1 rfl (kkN hno hL IL AL c w FR_hL M_hL FI_IL FA_AL hMc)
                have t148 : WX (lk tX12_describe) (mM (d + 3)) Ψ 148 [(0, .ref m), (1, .int (nI t)), (2, .int (nI (cdF (wtL L t)).2)), (3, .int (nI DV))] [] (n, s, hM_) := by
                  refine WX.s1 rfl rfl ?_
                  refine WX.s1 rfl rfl ?_
                  refine WX.icmp rfl (fun c_150 => ?_) (fun c_150 => ?_)
                  · skip
                    have n_150 : ((cdF (wtL L t)).2) < 2 := (nI_ltI (a := (cdF (wtL L t)).2) (b := 2) (by omega) (by omega)).mp c_150
                    refine WX.s1 rfl rfl ?_
                    refine WX.s1 rfl rfl ?_
                    refine WX.s1 (L' := [(0, .ref m), (1, .int (nI t)), (2, .int (nI (cdF (wtL L t)).2)), (3, .int (nI DV)), (4, .int 9999)]) rfl rfl ?_
                    refine WX.s1 rfl rfl ?_
                    refine WX.s1 rfl rfl ?_
                    refine WX.icmp rfl (fun c_176 => ?_) (fun c_176 => ?_)
                    · skip
                      have n_176 : ((cdF (wtL L t)).2) < 2 := (nI_ltI (a := (cdF (wtL L t)).2) (b := 2) (by omega) (by omega)).mp c_176
                      refine WX.s1 rfl rfl ?_
                      refine WX.s1 rfl rfl ?_
                      refine WX.s1 (L' := [(0, .ref m), (1, .int (nI t)), (2, .int (nI (cdF (wtL L t)).2)), (3, .int (nI DV)), (4, .int 9999), (5, .int 9999)]) rfl rfl ?_
                      refine WX.s1 rfl rfl ?_
                      refine WX.s1 rfl rfl ?_
                      refine WX.icmp rfl (fun c_205 => ?_) (fun c_205 => absurd (by decide) c_205)
                      clear c_205
                      refine WX.s1 rfl rfl ?_
                      refine WX.s1 (L' := [(0, .ref m), (1, .int (nI t)), (2, .int (nI (cdF (wtL L t)).2)), (3, .int (nI DV)), (4, .int 9999), (5, .int 9999), (6, .int 9999)]) rfl rfl ?_
                      refine WX.s1 rfl rfl ?_
                      refine WX.s1 rfl rfl ?_
                      refine WX.icmp rfl (fun c_222 => absurd c_222 (by decide)) (fun c_222 => ?_)
                      clear c_222
                      refine WX.s1 rfl rfl ?_
                      refine WX.s1 rfl rfl ?_
                      refine WX.s1 (L' := [(0, .ref m), (1, .int (nI t)), (2, .int (nI (cdF (wtL L t)).2)), (3, .int (nI DV)), (4, .int 9999), (5, .int 9999), (6, .int 9999)]) rfl rfl ?_
                      rw [show SV = 9999 by omega] at t235
                      exact t235 hM_ IL AM _ _ FR_hM_ M_hM_ FI_IL FA_AM hMc K_IL_56 hWt hCt
                    · skip
                      have n_176 : 2 ≤ ((cdF (wtL L t)).2) := Nat.le_of_not_lt (fun zz_ => c_176 ((nI_ltI (a := (cdF (wtL L t)).2) (b := 2) (by omega) (by omega)).mpr zz_))
                      refine WX.s1 rfl rfl ?_
                      refine WX.mgetK (x := (nI (lsF L 255))) rfl hm M_hM_ rfl K_IL_56 ?_
                      refine WX.s1 rfl rfl ?_
                      refine WX.icmp rfl (fun c_184 => ?_) (fun c_184 => ?_)
                      · skip
                        have n_184 : 2 ≤ (lsF L 255) := (nI_leI (a := 2) (b := lsF L 255) (by omega) (by omega)).mp c_184
                        exact absurd ⟨n_176, n_184⟩ hv
                      · skip
                        have n_184 : (lsF L 255) < 2 := Nat.lt_of_not_le (fun zz_ => c_184 ((nI_leI (a := 2) (b := lsF L 255) (by omega) (by omega)).mpr zz_))
                        refine WX.s1 rfl rfl ?_
                        refine WX.s1 rfl rfl ?_
                        refine WX.s1 (L' := [(0, .ref m), (1, .int (nI t)), (2, .int (nI (cdF (wtL L t)).2)), (3, .int (nI DV)), (4, .int 9999), (5, .int 9999)]) rfl rfl ?_
                        refine WX.s1 rfl rfl ?_
                        refine WX.s1 rfl rfl ?_
                        refine WX.icmp rfl (fun c_205 => ?_) (fun c_205 => absurd (by decide) c_205)
                        clear c_205
                        refine WX.s1 rfl rfl ?_
                        refine WX.s1 (L' := [(0, .ref m), (1, .int (nI t)), (2, .int (nI (cdF (wtL L t)).2)), (3, .int (nI DV)), (4, .int 9999), (5, .int 9999), (6, .int 9999)]) rfl rfl ?_
                        refine WX.s1 rfl rfl ?_
                        refine WX.s1 rfl rfl ?_
                        refine WX.icmp rfl (fun c_222 => absurd c_222 (by decide)) (fun c_222 => ?_)
                        clear c_222
                        refine WX.s1 rfl rfl ?_
                        refine WX.s1 rfl rfl ?_
                        refine WX.s1 (L' := [(0, .ref m), (1, .int (nI t)), (2, .int (nI (cdF (wtL L t)).2)), (3, .int (nI DV)), (4, .int 9999), (5, .int 9999), (6, .int 9999)]) rfl rfl ?_
                        rw [show SV = 9999 by omega] at t235
                        exact t235 hM_ IL AM _ _ FR_hM_ M_hM_ FI_IL FA_AM hMc K_IL_56 hWt hCt
                  · skip
                    have n_150 : 2 ≤ ((cdF (wtL L t)).2) := Nat.le_of_not_lt (fun zz_ => c_150 ((nI_ltI (a := (cdF (wtL L t)).2) (b := 2) (by omega) (by omega)).mpr zz_))
                    refine WX.s1 rfl rfl ?_
                    refine WX.mgetK (x := (nI (lsF L 255))) rfl hm M_hM_ rfl K_IL_56 ?_
                    refine WX.s1 rfl rfl ?_
                    refine WX.icmp rfl (fun c_158 => ?_) (fun c_158 => ?_)
                    · skip
                      have n_158 : 2 ≤ (lsF L 255) := (nI_leI (a := 2) (b := lsF L 255) (by omega) (by omega)).mp c_158
                      exact absurd ⟨n_150, n_158⟩ hv
                    · skip
                      have n_158 : (lsF L 255) < 2 := Nat.lt_of_not_le (fun zz_ => c_158 ((nI_leI (a := 2) (b := lsF L 255) (by omega) (by omega)).mpr zz_))
                      refine WX.s1 rfl rfl ?_
                      refine WX.s1 rfl rfl ?_
                      refine WX.s1 (L' := [(0, .ref m), (1, .int (nI t)), (2, .int (nI (cdF (wtL L t)).2)), (3, .int (nI DV)), (4, .int 9999)]) rfl rfl ?_
                      refine WX.s1 rfl rfl ?_
                      refine WX.s1 rfl rfl ?_
                      refine WX.icmp rfl (fun c_176 => ?_) (fun c_176 => ?_)
                      · skip
                        have n_176 : ((cdF (wtL L t)).2) < 2 := (nI_ltI (a := (cdF (wtL L t)).2) (b := 2) (by omega) (by omega)).mp c_176
                        refine WX.s1 rfl rfl ?_
                        refine WX.s1 rfl rfl ?_
                        refine WX.s1 (L' := [(0, .ref m), (1, .int (nI t)), (2, .int (nI (cdF (wtL L t)).2)), (3, .int (nI DV)), (4, .int 9999), (5, .int 9999)]) rfl rfl ?_
                        refine WX.s1 rfl rfl ?_
                        refine WX.s1 rfl rfl ?_
                        refine WX.icmp rfl (fun c_205 => ?_) (fun c_205 => absurd (by decide) c_205)
                        clear c_205
                        refine WX.s1 rfl rfl ?_
                        refine WX.s1 (L' := [(0, .ref m), (1, .int (nI t)), (2, .int (nI (cdF (wtL L t)).2)), (3, .int (nI DV)), (4, .int 9999), (5, .int 9999), (6, .int 9999)]) rfl rfl ?_
                        refine WX.s1 rfl rfl ?_
                        refine WX.s1 rfl rfl ?_
                        refine WX.icmp rfl (fun c_222 => absurd c_222 (by decide)) (fun c_222 => ?_)
                        clear c_222
                        refine WX.s1 rfl rfl ?_
                        refine WX.s1 rfl rfl ?_
                        refine WX.s1 (L' := [(0, .ref m), (1, .int (nI t)), (2, .int (nI (cdF (wtL L t)).2)), (3, .int (nI DV)), (4, .int 9999), (5, .int 9999), (6, .int 9999)]) rfl rfl ?_
                        rw [show SV = 9999 by omega] at t235
                        exact t235 hM_ IL AM _ _ FR_hM_ M_hM_ FI_IL FA_AM hMc K_IL_56 hWt hCt
                      · skip
                        have n_176 : 2 ≤ ((cdF (wtL L t)).2) := Nat.le_of_not_lt (fun zz_ => c_176 ((nI_ltI (a := (cdF (wtL L t)).2) (b := 2) (by omega) (by omega)).mpr zz_))
                        refine WX.s1 rfl rfl ?_
                        refine WX.mgetK (x := (nI (lsF L 255))) rfl hm M_hM_ rfl K_IL_56 ?_
                        refine WX.s1 rfl rfl ?_
                        refine WX.icmp rfl (fun c_184 => ?_) (fun c_184 => ?_)
                        · skip
                          have n_184 : 2 ≤ (lsF L 255) := (nI_leI (a := 2) (b := lsF L 255) (by omega) (by omega)).mp c_184
                          exact absurd ⟨n_176, n_184⟩ hv
                        · skip
                          have n_184 : (lsF L 255) < 2 := Nat.lt_of_not_le (fun zz_ => c_184 ((nI_leI (a := 2) (b := lsF L 255) (by omega) (by omega)).mpr zz_))
                          refine WX.s1 rfl rfl ?_
                          refine WX.s1 rfl rfl ?_
                          refine WX.s1 (L' := [(0, .ref m), (1, .int (nI t)), (2, .int (nI (cdF (wtL L t)).2)), (3, .int (nI DV)), (4, .int 9999), (5, .int 9999)]) rfl rfl ?_
                          refine WX.s1 rfl rfl ?_
                          refine WX.s1 rfl rfl ?_
                          refine WX.icmp rfl (fun c_205 => ?_) (fun c_205 => absurd (by decide) c_205)
                          clear c_205
                          refine WX.s1 rfl rfl ?_
                          refine WX.s1 (L' := [(0, .ref m), (1, .int (nI t)), (2, .int (nI (cdF (wtL L t)).2)), (3, .int (nI DV)), (4, .int 9999), (5, .int 9999), (6, .int 9999)]) rfl rfl ?_
                          refine WX.s1 rfl rfl ?_
                          refine WX.s1 rfl rfl ?_
                          refine WX.icmp rfl (fun c_222 => absurd c_222 (by decide)) (fun c_222 => ?_)
                          clear c_222
                          refine WX.s1 rfl rfl ?_
                          refine WX.s1 rfl rfl ?_
                          refine WX.s1 (L' := [(0, .ref m), (1, .int (nI t)), (2, .int (nI (cdF (wtL L t)).2)), (3, .int (nI DV)), (4, .int 9999), (5, .int 9999), (6, .int 9999)]) rfl rfl ?_
                          rw [show SV = 9999 by omega] at t235
                          exact t235 hM_ IL AM _ _ FR_hM_ M_hM_ FI_IL FA_AM hMc K_IL_56 hWt hCt
                refine WX.s1 rfl rfl ?_
                refine WX.mgetK (x := (nI (lsF L 255))) rfl hm M_hM_ rfl K_IL_56 ?_
                refine WX.s1 rfl rfl ?_
                refine WX.icmp rfl (fun c_128 => ?_) (fun c_128 => ?_)
                · skip
                  have n_128 : (lsF L 255) ≤ 128 := (nI_leI (a := lsF L 255) (b := 128) (by omega) (by omega)).mp c_128
                  refine WX.s1 rfl rfl ?_
                  refine WX.s1 rfl rfl ?_
                  refine WX.mgetK (x := (nI (lsF L 255))) rfl hm M_hM_ rfl K_IL_56 ?_
                  refine WX.s1 rfl rfl ?_
                  refine WX.s1 (S' := [.int ((nI (lsF L 255)) + 1), .int 1]) rfl rfl ?_
                  rw [show ((nI (lsF L 255)) + 1) = nI (lsF L 255 + 1) from nI_add (lsF L 255) 1]
                  refine WX.s1 rfl rfl ?_
                  refine WX.div rfl (by decide) ?_
                  rw [show nI ((lsF L 255) + 1) / 2 = nI (((lsF L 255) + 1) / 2) from pk_div (by omega) (by decide) (by decide)]
                  refine WX.s1 (S' := [.int (1 + (nI (((lsF L 255) + 1) / 2)))]) rfl rfl ?_
                  rw [show (1 + (nI (((lsF L 255) + 1) / 2))) = nI (1 + (((lsF L 255) + 1) / 2)) from nI_add 1 (((lsF L 255) + 1) / 2)]
                  refine WX.s1 (L' := [(0, .ref m), (1, .int (nI t)), (2, .int (nI (cdF (wtL L t)).2)), (3, .int (nI (1 + (((lsF L 255) + 1) / 2))))]) rfl rfl ?_
                  rw [show DV = 1 + (((lsF L 255) + 1) / 2) by omega] at t148
                  exact t148
                · skip
                  have n_128 : 128 < (lsF L 255) := Nat.lt_of_not_le (fun zz_ => c_128 ((nI_leI (a := lsF L 255) (b := 128) (by omega) (by omega)).mpr zz_))
                  refine WX.s1 rfl rfl ?_
                  refine WX.s1 rfl rfl ?_
                  refine WX.s1 (L' := [(0, .ref m), (1, .int (nI t)), (2, .int (nI (cdF (wtL L t)).2)), (3, .int 9999)]) rfl rfl ?_
                  rw [show DV = 9999 by omega] at t148
                  exact t148
            | succ q ih3 =>
              intro i hM_ AM hi FR_hM_ M_hM_ FA_AM hMc hc hj
              have hil : i < (wtL L t).length := by omega
              have hcd := cd_take hil
              have hwi := wtL_at (L := L) (t := t) (show i < (lsF L 255) by omega)
              have hw11 := hwle _ (getD_mem hil)
              have hcb : (cdF ((wtL L t).take i)).1 ((wtL L t).getD i 0) ≤ 256 := by refine Nat.le_trans (cd_all_le _) ?_; rw [List.length_take]; omega
              have hkb : (cdF ((wtL L t).take i)).2 ≤ 256 := by have q := cd_le (N := 12) (ss := (wtL L t).take i) (fun s hs => by have := hwle s (List.mem_of_mem_take hs); omega); omega
              refine WX.s1 rfl rfl ?_
              refine WX.s1 rfl rfl ?_
              refine WX.mgetK (x := (nI (lsF L 255))) rfl hm M_hM_ rfl K_IL_56 ?_
              refine WX.icmp rfl (fun c_63 => absurd c_63 (fun zz_ => absurd ((nI_leI (a := lsF L 255) (b := i) (by omega) (by omega)).mp zz_) (Nat.not_le.mpr (by omega)))) (fun c_63 => ?_)
              clear c_63
              refine WX.s1 rfl rfl ?_
              refine WX.mget rfl hm M_hM_ rfl ?_
              refine WX.s1 rfl rfl ?_
              refine WX.s1 rfl rfl ?_
              refine WX.s1 rfl rfl ?_
              refine WX.s1 rfl rfl ?_
              refine WX.callC (vs := [.ref m, .int (nI i), .int (nI t)]) rfl rfl rfl (Nat.le_of_ble_eq_true rfl) (M_hM_.rcv hm) ?_
              refine m_weighing hm M_hM_ (fun s hs => by rw [FA_AM 37 (by decide)]; exact hd s hs) hok (by omega) ?_
              rw [← hwi]
              show WX _ _ _ 77 [(0, .ref m), (1, .int (nI t)), (2, .int (nI (cdF ((wtL L t).take i)).2)), (3, .int (nI i))] [.int (nI ((wtL L t).getD i 0)), .int (nI i), .ref (m + 39)] (n, s, hM_)
              refine WX.mast (c := 39) rfl hm M_hM_ (by decide) (by decide) (by decide) (by decide) (vp_in_nI (N := 257) (by omega) (by decide)) (fun h77n601 A77n601 e_A77n601 M_h77n601 frh77n601 => ?_)
              try dsimp only at e_A77n601
              have FR_h77n601 := FR_hM_.ztr frh77n601
              clear M_hM_ FR_hM_ frh77n601
              refine WX.s1 rfl rfl ?_
              refine WX.mget rfl hm M_h77n601 rfl ?_
              refine WX.s1 rfl rfl ?_
              refine WX.mget rfl hm M_h77n601 rfl ?_
              refine WX.s1 rfl rfl ?_
              refine WX.mald (c := 39) rfl hm M_h77n601 (by decide) (by decide) (by decide) (by decide) (vp_in_nI (N := 257) (by omega) (by decide)) ?_
              rw [nI_clamp (by omega), e_A77n601, upA_same, nI_clamp (by omega), pk_us]
              refine WX.mald (c := 33) rfl hm M_h77n601 (by decide) (by decide) (by decide) (by decide) (vp_in_nI (N := 256) (by omega) (by decide)) ?_
              rw [nI_clamp (by omega), e_A77n601, upA_ne (by decide), hc _ (by omega)]
              refine WX.if_ rfl (fun c_89 => ?_) (fun c_89 => ?_)
              · skip
                have n_89 : ¬ ((cdF ((wtL L t).take i)).1 ((wtL L t).getD i 0)) = 0 := fun zz_ => c_89 ((nI_eq (a := (cdF ((wtL L t).take i)).1 ((wtL L t).getD i 0)) (b := 0) (by omega) (by omega)).mpr zz_)
                refine WX.s1 rfl rfl ?_
                refine WX.s1 (L' := [(0, .ref m), (1, .int (nI t)), (2, .int (nI (cdF ((wtL L t).take i)).2)), (3, .int (nI i))]) rfl rfl ?_
                have ed : (cdF ((wtL L t).take (i + 1))).2 = (cdF ((wtL L t).take i)).2 := by rw [hcd]; show _ + (if _ then 1 else 0) = _; rw [if_neg n_89]; rfl
                rw [← ed]
                refine WX.s1 rfl rfl ?_
                refine WX.mget rfl hm M_h77n601 rfl ?_
                refine WX.s1 rfl rfl ?_
                refine WX.mget rfl hm M_h77n601 rfl ?_
                refine WX.s1 rfl rfl ?_
                refine WX.mald (c := 39) rfl hm M_h77n601 (by decide) (by decide) (by decide) (by decide) (vp_in_nI (N := 257) (by omega) (by decide)) ?_
                rw [nI_clamp (by omega), e_A77n601, upA_same, nI_clamp (by omega), pk_us]
                refine WX.s1 rfl rfl ?_
                refine WX.mald (c := 33) rfl hm M_h77n601 (by decide) (by decide) (by decide) (by decide) (vp_in_nI (N := 256) (by omega) (by decide)) ?_
                rw [nI_clamp (by omega), e_A77n601, upA_ne (by decide), hc _ (by omega)]
                refine WX.s1 rfl rfl ?_
                refine WX.s1 (S' := [.int ((nI ((cdF ((wtL L t).take i)).1 ((wtL L t).getD i 0))) + 1), .int (nI ((wtL L t).getD i 0)), .ref (m + 33)]) rfl rfl ?_
                rw [show ((nI ((cdF ((wtL L t).take i)).1 ((wtL L t).getD i 0))) + 1) = nI ((cdF ((wtL L t).take i)).1 ((wtL L t).getD i 0) + 1) from nI_add ((cdF ((wtL L t).take i)).1 ((wtL L t).getD i 0)) 1]
                refine WX.mast (c := 33) rfl hm M_h77n601 (by decide) (by decide) (by decide) (by decide) (vp_in_nI (N := 256) (by omega) (by decide)) (fun h114n602 A114n602 e_A114n602 M_h114n602 frh114n602 => ?_)
                try dsimp only at e_A114n602
                have FR_h114n602 := FR_h77n601.ztr frh114n602
                clear M_h77n601 FR_h77n601 frh114n602
                refine WX.s1 (L' := [(0, .ref m), (1, .int (nI t)), (2, .int (nI (cdF ((wtL L t).take (i + 1))).2)), (3, .int ((nI i) + 1))]) rfl rfl ?_
                rw [show ((nI i) + 1) = nI (i + 1) from nI_add i 1]
                refine WX.s1 rfl rfl ?_
                rw [nI_clamp (by omega)] at e_A77n601 e_A114n602
                refine ih3 (i + 1) h114n602 A114n602 (by omega) FR_h114n602 M_h114n602 ((FA_AM.ast e_A77n601 (by omega)).ast e_A114n602 (by omega)) (hMc.mv (by rw [e_A114n602, upA_ne (by decide), e_A77n601, upA_ne (by decide)])) (fun q hq => ?_) (fun j hj2 => ?_)
                · rw [e_A114n602, upA_same, hcd]
                  show _ = nI (updN _ _ _ q)
                  by_cases z : q = (wtL L t).getD i 0
                  · rw [z, pk_us, updN_s]
                  · rw [pk_un z, updN_n z, e_A77n601, upA_ne (by decide)]; exact hc q hq
                · rw [e_A114n602, upA_ne (by decide), e_A77n601, upA_same]
                  by_cases z : j = i
                  · rw [z, pk_us]
                  · rw [pk_un z]; exact hj j (by omega)
              · skip
                have n_89 : ((cdF ((wtL L t).take i)).1 ((wtL L t).getD i 0)) = 0 := (nI_eq (a := (cdF ((wtL L t).take i)).1 ((wtL L t).getD i 0)) (b := 0) (by omega) (by omega)).mp (Classical.not_not.mp c_89)
                refine WX.s1 rfl rfl ?_
                refine WX.s1 rfl rfl ?_
                refine WX.s1 (S' := [.int ((nI (cdF ((wtL L t).take i)).2) + 1)]) rfl rfl ?_
                rw [show ((nI (cdF ((wtL L t).take i)).2) + 1) = nI ((cdF ((wtL L t).take i)).2 + 1) from nI_add ((cdF ((wtL L t).take i)).2) 1]
                refine WX.s1 rfl rfl ?_
                refine WX.s1 (L' := [(0, .ref m), (1, .int (nI t)), (2, .int (nI ((cdF ((wtL L t).take i)).2 + 1))), (3, .int (nI i))]) rfl rfl ?_
                have ed : (cdF ((wtL L t).take (i + 1))).2 = (cdF ((wtL L t).take i)).2 + 1 := by rw [hcd]; show _ + (if _ then 1 else 0) = _; rw [if_pos n_89]
                rw [← ed]
                refine WX.s1 rfl rfl ?_
                refine WX.mget rfl hm M_h77n601 rfl ?_
                refine WX.s1 rfl rfl ?_
                refine WX.mget rfl hm M_h77n601 rfl ?_
                refine WX.s1 rfl rfl ?_
                refine WX.mald (c := 39) rfl hm M_h77n601 (by decide) (by decide) (by decide) (by decide) (vp_in_nI (N := 257) (by omega) (by decide)) ?_
                rw [nI_clamp (by omega), e_A77n601, upA_same, nI_clamp (by omega), pk_us]
                refine WX.s1 rfl rfl ?_
                refine WX.mald (c := 33) rfl hm M_h77n601 (by decide) (by decide) (by decide) (by decide) (vp_in_nI (N := 256) (by omega) (by decide)) ?_
                rw [nI_clamp (by omega), e_A77n601, upA_ne (by decide), hc _ (by omega)]
                refine WX.s1 rfl rfl ?_
                refine WX.s1 (S' := [.int ((nI ((cdF ((wtL L t).take i)).1 ((wtL L t).getD i 0))) + 1), .int (nI ((wtL L t).getD i 0)), .ref (m + 33)]) rfl rfl ?_
                rw [show ((nI ((cdF ((wtL L t).take i)).1 ((wtL L t).getD i 0))) + 1) = nI ((cdF ((wtL L t).take i)).1 ((wtL L t).getD i 0) + 1) from nI_add ((cdF ((wtL L t).take i)).1 ((wtL L t).getD i 0)) 1]
                refine WX.mast (c := 33) rfl hm M_h77n601 (by decide) (by decide) (by decide) (by decide) (vp_in_nI (N := 256) (by omega) (by decide)) (fun h114n603 A114n603 e_A114n603 M_h114n603 frh114n603 => ?_)
                try dsimp only at e_A114n603
                have FR_h114n603 := FR_h77n601.ztr frh114n603
                clear M_h77n601 FR_h77n601 frh114n603
                refine WX.s1 (L' := [(0, .ref m), (1, .int (nI t)), (2, .int (nI (cdF ((wtL L t).take (i + 1))).2)), (3, .int ((nI i) + 1))]) rfl rfl ?_
                rw [show ((nI i) + 1) = nI (i + 1) from nI_add i 1]
                refine WX.s1 rfl rfl ?_
                rw [nI_clamp (by omega)] at e_A77n601 e_A114n603
                refine ih3 (i + 1) h114n603 A114n603 (by omega) FR_h114n603 M_h114n603 ((FA_AM.ast e_A77n601 (by omega)).ast e_A114n603 (by omega)) (hMc.mv (by rw [e_A114n603, upA_ne (by decide), e_A77n601, upA_ne (by decide)])) (fun q hq => ?_) (fun j hj2 => ?_)
                · rw [e_A114n603, upA_same, hcd]
                  show _ = nI (updN _ _ _ q)
                  by_cases z : q = (wtL L t).getD i 0
                  · rw [z, pk_us, updN_s]
                  · rw [pk_un z, updN_n z, e_A77n601, upA_ne (by decide)]; exact hc q hq
                · rw [e_A114n603, upA_ne (by decide), e_A77n601, upA_same]
                  by_cases z : j = i
                  · rw [z, pk_us]
                  · rw [pk_un z]; exact hj j (by omega)
          exact lp3 (lsF L 255) 0 hM_ AM (by omega) FR_hM_ M_hM_ FA_AM hMc (fun s hs => h0 s hs) (fun j hj => absurd hj (Nat.not_lt_zero j))
        | succ q ih2 =>
          intro i hM_ AM hi FR_hM_ M_hM_ FA_AM hMc h0
          refine WX.s1 rfl rfl ?_
          refine WX.s1 rfl rfl ?_
          refine WX.icmp rfl (fun c_38 => absurd c_38 (fun zz_ => absurd ((nI_leI (a := 256) (b := i) (by omega) (by omega)).mp zz_) (Nat.not_le.mpr (by omega)))) (fun c_38 => ?_)
          clear c_38
          refine WX.s1 rfl rfl ?_
          refine WX.mget rfl hm M_hM_ rfl ?_
          refine WX.s1 rfl rfl ?_
          refine WX.s1 rfl rfl ?_
          refine WX.mast (c := 33) rfl hm M_hM_ (by decide) (by decide) (by decide) (by decide) (vp_in_nI (N := 256) (by omega) (by decide)) (fun h47n604 A47n604 e_A47n604 M_h47n604 frh47n604 => ?_)
          try dsimp only at e_A47n604
          have FR_h47n604 := FR_hM_.ztr frh47n604
          clear M_hM_ FR_hM_ frh47n604
          refine WX.s1 (L' := [(0, .ref m), (1, .int (nI t)), (2, .int ((nI i) + 1))]) rfl rfl ?_
          rw [show ((nI i) + 1) = nI (i + 1) from nI_add i 1]
          refine WX.s1 rfl rfl ?_
          rw [nI_clamp (by omega)] at e_A47n604
          refine ih2 (i + 1) h47n604 A47n604 (by omega) FR_h47n604 M_h47n604 (FA_AM.ast e_A47n604 (by omega)) (hMc.mv (by rw [e_A47n604, upA_ne (by decide)])) (fun x hx => ?_)
          rw [e_A47n604, upA_same]
          by_cases z : x = i
          · rw [z, pk_us]; rfl
          · rw [pk_un z]; exact h0 x (by omega)
      exact lp2 256 0 hL AR (by omega) FR_hL M_hL FA_AL hMc (fun s hs => absurd hs (Nat.not_lt_zero s))
    | succ q ih =>
      intro hL IL hq FR_hL M_hL FI_IL K_IL_38 K_IL_56
      have hlx := hok.2.2.1 ((lsF L 255) + (q + 1)) (by omega)
      have hz0 := lsF_z (L := L) (s := ((lsF L 255) + (q + 1))) (by omega) (by omega)
      rw [hz0] at hlx
      refine WX.s1 rfl rfl ?_
      refine WX.mget rfl hm M_hL rfl ?_
      refine WX.s1 rfl rfl ?_
      refine WX.mgetK (x := (nI ((lsF L 255) + (q + 1)))) rfl hm M_hL rfl K_IL_56 ?_
      refine WX.mald (c := 37) rfl hm M_hL (by decide) (by decide) (by decide) (by decide) (vp_in_nI (N := 256) (by omega) (by decide)) ?_
      rw [nI_clamp (by omega), hd _ (by omega), hz0]
      refine WX.if_ rfl (fun c_16 => absurd c_16 (by decide)) (fun c_16 => ?_)
      refine WX.s1 rfl rfl ?_
      refine WX.s1 rfl rfl ?_
      refine WX.mgetK (x := (nI ((lsF L 255) + (q + 1)))) rfl hm M_hL rfl K_IL_56 ?_
      refine WX.s1 rfl rfl ?_
      refine WX.s1 (S' := [.int ((nI ((lsF L 255) + (q + 1))) - 1), .ref m]) rfl rfl ?_
      rw [nI_pm1 (by omega), show ((lsF L 255) + (q + 1)) - 1 = (lsF L 255) + q by omega]
      refine WX.mput rfl hm M_hL (rfl) (by decide) (fun _ => rfl) (fun h26n605 I26n605 e_I26n605 M_h26n605 frh26n605 => ?_)
      have FR_h26n605 := FR_hL.ztr frh26n605
      have FI_I26n605 : Fi I I26n605 (fun f => f = 38 ∨ f = 56) := FI_IL.zup e_I26n605 (by first | exact rfl | decide | omega)
      have K_I26n605_38 : I26n605 38 = (nI c0) := by rw [e_I26n605]; exact (pk_un (by decide)).trans K_IL_38
      have K_I26n605_56 : I26n605 56 = (nI ((lsF L 255) + q)) := by rw [e_I26n605]; exact pk_us
      clear M_hL FR_hL FI_IL e_I26n605 frh26n605 K_IL_38 K_IL_56
      refine WX.s1 rfl rfl ?_
      exact ih h26n605 I26n605 (by omega) FR_h26n605 M_h26n605 FI_I26n605 K_I26n605_38 K_I26n605_56
  exact lp (255 - (lsF L 255)) h4n1 I4n1 (by omega) FR_h4n1 M_h4n1 FI_I4n1 K_I4n1_38 (by rw [show (lsF L 255) + (255 - (lsF L 255)) = 255 by omega]; exact K_I4n1_56)
